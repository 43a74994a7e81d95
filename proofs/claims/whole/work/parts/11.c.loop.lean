/-! the law's loop (gen/law11c.py) -/
theorem wI_law : Cond.initialized "ImposeSheetsLaw" ∈ lw_good := lw_g 59 (by decide +kernel) rfl
theorem lg_self (a : Int64) : lg_cmp a a = 0 := by
  unfold lg_cmp
  rw [if_neg (fun z => absurd z (Int64.lt_irrefl)), if_pos rfl]
def lwRp : am_P := fun o _ => o = .inr (some (.int 1))
section LL
variable {p : Program} {l : Launch} {e : Env} {s : State} {m : MethodId} {args : Array Value} {below : List Frame} {meth : Method} {c : Code} {Q : State → Prop} {dC : Nat → ClassId} {dI : Nat → Nat → Nat} {dA : Nat → ClassId} {A : Nat → Nat} {A0 : Nat → Prop} {L : Nat} {xs : Nat → Int32}
theorem lo_type {b : Bool} {X : Nat → Int32} {F : Nat → Nat → Int32} {Y : Nat → Int32} {G : Nat → Nat → Int32} {u : Nat → Int64} (hC : ∀ k n, k ≤ 1095 → n ≤ 17503 → am_C (am_EnL L xs) code 7 "ImposeSheetsLaw" 10 378 p room_1 s m args c dC dI dA A A0 k n) (hE : ∀ k n, k ≤ 1095 → n ≤ 17503 → am_End "ImposeSheetsLaw" code p l e room_1 s m args below meth c Q 7 dC dI dA A A0 k n lwRp) (i : Int32) (k n : Nat) (hk : k ≤ 1095) (hn : n ≤ 17503) (v0 : vp_in i L) (v1 : vp_in (i + 1) L) (v2 : vp_in (i + 2) L) (v3 : vp_in (i + 3) L) (v4 : vp_in (i + 4) L) (hc : ¬ (Int32.ofNat L - 5 < i)) (hq : xs i.toNatClampNeg &&& 15 = 0) (hI : Ivr b X F Y G) (IH : ∀ (b : Bool) (X : Nat → Int32) (F : Nat → Nat → Int32) (Y : Nat → Int32) (G : Nat → Nat → Int32) (u : Nat → Int64), Ivr b X F Y G → am_W p l e room_1 s m args below meth c Q 7 dC dI dA A A0 k n 23 [some (.ref 200000), some (.ref 0), some (.ref 28), some (.ref 56), some (.int (i + Int32.ofInt 5)), none, none] [] (wd b X F Y G u)) : am_W p l e room_1 s m args below meth c Q 7 dC dI dA A A0 k n 23 [some (.ref 200000), some (.ref 0), some (.ref 28), some (.ref 56), some (.int i), none, none] [] (wd b X F Y G u) := by
  obtain ⟨n1, r, n2, r', e, e', ha, hI'⟩ := in_type hI (((xs (i + 1).toNatClampNeg).toInt64 <<< ((32 : Int32).toInt64 &&& 63)) ||| ((xs (i + 2).toNatClampNeg).toInt64 &&& 4294967295)) (xs (i + 3).toNatClampNeg)
  refine am_soundX (X := fun pc lo st h => pc = 23 ∧ lo = [some (.ref 200000), some (.ref 0), some (.ref 28), some (.ref 56), some (.int (i + Int32.ofInt 5)), none, none] ∧ st = [] ∧ h = wd b r.2.1 r.2.2 r'.2.1 r'.2.2 u) (s_La_law L xs) (hC k n hk hn) (hE k n hk hn) ?_ (la_type i n1 r n2 r' v0 v1 v2 v3 hc hq e e' ha (am_exit ⟨rfl, rfl, rfl, rfl⟩))
  rintro pc lo st h ⟨rfl, rfl, rfl, rfl⟩
  exact IH _ _ _ _ _ _ hI'
theorem lo_clear {b : Bool} {X : Nat → Int32} {F : Nat → Nat → Int32} {Y : Nat → Int32} {G : Nat → Nat → Int32} {u : Nat → Int64} (hC : ∀ k n, k ≤ 1095 → n ≤ 17503 → am_C (am_EnL L xs) code 7 "ImposeSheetsLaw" 10 378 p room_1 s m args c dC dI dA A A0 k n) (hE : ∀ k n, k ≤ 1095 → n ≤ 17503 → am_End "ImposeSheetsLaw" code p l e room_1 s m args below meth c Q 7 dC dI dA A A0 k n lwRp) (i : Int32) (k n : Nat) (hk : k ≤ 1095) (hn : n ≤ 17503) (v0 : vp_in i L) (v1 : vp_in (i + 1) L) (v2 : vp_in (i + 2) L) (v3 : vp_in (i + 3) L) (v4 : vp_in (i + 4) L) (hc : ¬ (Int32.ofNat L - 5 < i)) (hq : xs i.toNatClampNeg &&& 15 = 10) (hI : Ivr b X F Y G) (IH : ∀ (b : Bool) (X : Nat → Int32) (F : Nat → Nat → Int32) (Y : Nat → Int32) (G : Nat → Nat → Int32) (u : Nat → Int64), Ivr b X F Y G → am_W p l e room_1 s m args below meth c Q 7 dC dI dA A A0 k n 23 [some (.ref 200000), some (.ref 0), some (.ref 28), some (.ref 56), some (.int (i + Int32.ofInt 5)), none, none] [] (wd b X F Y G u)) : am_W p l e room_1 s m args below meth c Q 7 dC dI dA A A0 k n 23 [some (.ref 200000), some (.ref 0), some (.ref 28), some (.ref 56), some (.int i), none, none] [] (wd b X F Y G u) := by
  obtain ⟨n1, r, n2, r', e, e', hI'⟩ := in_clear hI
  refine am_soundX (X := fun pc lo st h => pc = 23 ∧ lo = [some (.ref 200000), some (.ref 0), some (.ref 28), some (.ref 56), some (.int (i + Int32.ofInt 5)), none, none] ∧ st = [] ∧ h = wd b r.2.1 r.2.2 r'.2.1 r'.2.2 u) (s_La_law L xs) (hC k n hk hn) (hE k n hk hn) ?_ (la_clear i n1 r n2 r' v0 hc hq e e' (am_exit ⟨rfl, rfl, rfl, rfl⟩))
  rintro pc lo st h ⟨rfl, rfl, rfl, rfl⟩
  exact IH _ _ _ _ _ _ hI'
theorem lo_scheme_t {X : Nat → Int32} {F : Nat → Nat → Int32} {Y : Nat → Int32} {G : Nat → Nat → Int32} {u : Nat → Int64} (hC : ∀ k n, k ≤ 1095 → n ≤ 17503 → am_C (am_EnL L xs) code 7 "ImposeSheetsLaw" 10 378 p room_1 s m args c dC dI dA A A0 k n) (hE : ∀ k n, k ≤ 1095 → n ≤ 17503 → am_End "ImposeSheetsLaw" code p l e room_1 s m args below meth c Q 7 dC dI dA A A0 k n lwRp) (i : Int32) (k n : Nat) (hk : k ≤ 1095) (hn : n ≤ 17503) (v0 : vp_in i L) (v1 : vp_in (i + 1) L) (v2 : vp_in (i + 2) L) (v3 : vp_in (i + 3) L) (v4 : vp_in (i + 4) L) (hc : ¬ (Int32.ofNat L - 5 < i)) (hq : xs i.toNatClampNeg &&& 15 = 1) (hI : Ivr true X F Y G) (IH : ∀ (b : Bool) (X : Nat → Int32) (F : Nat → Nat → Int32) (Y : Nat → Int32) (G : Nat → Nat → Int32) (u : Nat → Int64), Ivr b X F Y G → am_W p l e room_1 s m args below meth c Q 7 dC dI dA A A0 k n 23 [some (.ref 200000), some (.ref 0), some (.ref 28), some (.ref 56), some (.int (i + Int32.ofInt 5)), none, none] [] (wd b X F Y G u)) : am_W p l e room_1 s m args below meth c Q 7 dC dI dA A A0 k n 23 [some (.ref 200000), some (.ref 0), some (.ref 28), some (.ref 56), some (.int i), none, none] [] (wd true X F Y G u) := by
  obtain ⟨n1, r, n2, r', e, e', ha, hI'⟩ := in_scheme_t hI
  refine am_soundX (X := fun pc lo st h => pc = 23 ∧ lo = [some (.ref 200000), some (.ref 0), some (.ref 28), some (.ref 56), some (.int (i + Int32.ofInt 5)), none, none] ∧ st = [] ∧ h = wd r.1.2 r.2.1 r.2.2 r'.2.1 r'.2.2 u) (s_La_law L xs) (hC k n hk hn) (hE k n hk hn) ?_ (la_scheme_t i n1 r n2 r' v0 hc hq e e' ha (am_exit ⟨rfl, rfl, rfl, rfl⟩))
  rintro pc lo st h ⟨rfl, rfl, rfl, rfl⟩
  exact IH _ _ _ _ _ _ hI'
theorem lo_broken_t {X : Nat → Int32} {F : Nat → Nat → Int32} {Y : Nat → Int32} {G : Nat → Nat → Int32} {u : Nat → Int64} (hC : ∀ k n, k ≤ 1095 → n ≤ 17503 → am_C (am_EnL L xs) code 7 "ImposeSheetsLaw" 10 378 p room_1 s m args c dC dI dA A A0 k n) (hE : ∀ k n, k ≤ 1095 → n ≤ 17503 → am_End "ImposeSheetsLaw" code p l e room_1 s m args below meth c Q 7 dC dI dA A A0 k n lwRp) (i : Int32) (k n : Nat) (hk : k ≤ 1095) (hn : n ≤ 17503) (v0 : vp_in i L) (v1 : vp_in (i + 1) L) (v2 : vp_in (i + 2) L) (v3 : vp_in (i + 3) L) (v4 : vp_in (i + 4) L) (hc : ¬ (Int32.ofNat L - 5 < i)) (hq : xs i.toNatClampNeg &&& 15 = 4) (hI : Ivr true X F Y G) (IH : ∀ (b : Bool) (X : Nat → Int32) (F : Nat → Nat → Int32) (Y : Nat → Int32) (G : Nat → Nat → Int32) (u : Nat → Int64), Ivr b X F Y G → am_W p l e room_1 s m args below meth c Q 7 dC dI dA A A0 k n 23 [some (.ref 200000), some (.ref 0), some (.ref 28), some (.ref 56), some (.int (i + Int32.ofInt 5)), none, none] [] (wd b X F Y G u)) : am_W p l e room_1 s m args below meth c Q 7 dC dI dA A A0 k n 23 [some (.ref 200000), some (.ref 0), some (.ref 28), some (.ref 56), some (.int i), none, none] [] (wd true X F Y G u) := by
  obtain ⟨n1, r, n2, r', e, e', ha, hI'⟩ := in_broken_t hI
  refine am_soundX (X := fun pc lo st h => pc = 23 ∧ lo = [some (.ref 200000), some (.ref 0), some (.ref 28), some (.ref 56), some (.int (i + Int32.ofInt 5)), none, none] ∧ st = [] ∧ h = wd true r.2.1 r.2.2 r'.2.1 r'.2.2 u) (s_La_law L xs) (hC k n hk hn) (hE k n hk hn) ?_ (la_broken_t i n1 r n2 r' v0 hc hq e e' ha (am_exit ⟨rfl, rfl, rfl, rfl⟩))
  rintro pc lo st h ⟨rfl, rfl, rfl, rfl⟩
  exact IH _ _ _ _ _ _ hI'
theorem lo_scheme_f {X : Nat → Int32} {F : Nat → Nat → Int32} {Y : Nat → Int32} {G : Nat → Nat → Int32} {u : Nat → Int64} (hC : ∀ k n, k ≤ 1095 → n ≤ 17503 → am_C (am_EnL L xs) code 7 "ImposeSheetsLaw" 10 378 p room_1 s m args c dC dI dA A A0 k n) (hE : ∀ k n, k ≤ 1095 → n ≤ 17503 → am_End "ImposeSheetsLaw" code p l e room_1 s m args below meth c Q 7 dC dI dA A A0 k n lwRp) (i : Int32) (k n : Nat) (hk : k ≤ 1095) (hn : n ≤ 17503) (v0 : vp_in i L) (v1 : vp_in (i + 1) L) (v2 : vp_in (i + 2) L) (v3 : vp_in (i + 3) L) (v4 : vp_in (i + 4) L) (hc : ¬ (Int32.ofNat L - 5 < i)) (hq : xs i.toNatClampNeg &&& 15 = 1) (hI : Ivr false X F Y G) (IH : ∀ (b : Bool) (X : Nat → Int32) (F : Nat → Nat → Int32) (Y : Nat → Int32) (G : Nat → Nat → Int32) (u : Nat → Int64), Ivr b X F Y G → am_W p l e room_1 s m args below meth c Q 7 dC dI dA A A0 k n 23 [some (.ref 200000), some (.ref 0), some (.ref 28), some (.ref 56), some (.int (i + Int32.ofInt 5)), none, none] [] (wd b X F Y G u)) : am_W p l e room_1 s m args below meth c Q 7 dC dI dA A A0 k n 23 [some (.ref 200000), some (.ref 0), some (.ref 28), some (.ref 56), some (.int i), none, none] [] (wd false X F Y G u) := by
  obtain ⟨n1, r, n2, r', e, e', ha, hI'⟩ := in_scheme_f hI
  refine am_soundX (X := fun pc lo st h => pc = 23 ∧ lo = [some (.ref 200000), some (.ref 0), some (.ref 28), some (.ref 56), some (.int (i + Int32.ofInt 5)), none, none] ∧ st = [] ∧ h = wd r.1.2 r.2.1 r.2.2 r'.2.1 r'.2.2 u) (s_La_law L xs) (hC k n hk hn) (hE k n hk hn) ?_ (la_scheme_f i n1 r n2 r' v0 hc hq e e' ha (am_exit ⟨rfl, rfl, rfl, rfl⟩))
  rintro pc lo st h ⟨rfl, rfl, rfl, rfl⟩
  exact IH _ _ _ _ _ _ hI'
theorem lo_broken_f {X : Nat → Int32} {F : Nat → Nat → Int32} {Y : Nat → Int32} {G : Nat → Nat → Int32} {u : Nat → Int64} (hC : ∀ k n, k ≤ 1095 → n ≤ 17503 → am_C (am_EnL L xs) code 7 "ImposeSheetsLaw" 10 378 p room_1 s m args c dC dI dA A A0 k n) (hE : ∀ k n, k ≤ 1095 → n ≤ 17503 → am_End "ImposeSheetsLaw" code p l e room_1 s m args below meth c Q 7 dC dI dA A A0 k n lwRp) (i : Int32) (k n : Nat) (hk : k ≤ 1095) (hn : n ≤ 17503) (v0 : vp_in i L) (v1 : vp_in (i + 1) L) (v2 : vp_in (i + 2) L) (v3 : vp_in (i + 3) L) (v4 : vp_in (i + 4) L) (hc : ¬ (Int32.ofNat L - 5 < i)) (hq : xs i.toNatClampNeg &&& 15 = 4) (hI : Ivr false X F Y G) (IH : ∀ (b : Bool) (X : Nat → Int32) (F : Nat → Nat → Int32) (Y : Nat → Int32) (G : Nat → Nat → Int32) (u : Nat → Int64), Ivr b X F Y G → am_W p l e room_1 s m args below meth c Q 7 dC dI dA A A0 k n 23 [some (.ref 200000), some (.ref 0), some (.ref 28), some (.ref 56), some (.int (i + Int32.ofInt 5)), none, none] [] (wd b X F Y G u)) : am_W p l e room_1 s m args below meth c Q 7 dC dI dA A A0 k n 23 [some (.ref 200000), some (.ref 0), some (.ref 28), some (.ref 56), some (.int i), none, none] [] (wd false X F Y G u) := by
  obtain ⟨n1, r, n2, r', e, e', ha, hI'⟩ := in_broken_f hI
  refine am_soundX (X := fun pc lo st h => pc = 23 ∧ lo = [some (.ref 200000), some (.ref 0), some (.ref 28), some (.ref 56), some (.int (i + Int32.ofInt 5)), none, none] ∧ st = [] ∧ h = wd false r.2.1 r.2.2 r'.2.1 r'.2.2 u) (s_La_law L xs) (hC k n hk hn) (hE k n hk hn) ?_ (la_broken_f i n1 r n2 r' v0 hc hq e e' ha (am_exit ⟨rfl, rfl, rfl, rfl⟩))
  rintro pc lo st h ⟨rfl, rfl, rfl, rfl⟩
  exact IH _ _ _ _ _ _ hI'
set_option maxHeartbeats 1000000 in
theorem lo_setting {b : Bool} {X : Nat → Int32} {F : Nat → Nat → Int32} {Y : Nat → Int32} {G : Nat → Nat → Int32} {u : Nat → Int64} (hl : l.stackTraces = false) (hC : ∀ k n, k ≤ 1095 → n ≤ 17503 → am_C (am_EnL L xs) code 7 "ImposeSheetsLaw" 10 378 p room_1 s m args c dC dI dA A A0 k n) (hE : ∀ k n, k ≤ 1095 → n ≤ 17503 → am_End "ImposeSheetsLaw" code p l e room_1 s m args below meth c Q 7 dC dI dA A A0 k n lwRp) (i : Int32) (k n : Nat) (hk : k + 1 ≤ 1095) (hn : n + 6 ≤ 17503) (v0 : vp_in i L) (v1 : vp_in (i + 1) L) (v2 : vp_in (i + 2) L) (v3 : vp_in (i + 3) L) (v4 : vp_in (i + 4) L) (hc : ¬ (Int32.ofNat L - 5 < i)) (hq : xs i.toNatClampNeg &&& 15 = 2) (hI : Ivr b X F Y G) (IH : ∀ (b : Bool) (X : Nat → Int32) (F : Nat → Nat → Int32) (Y : Nat → Int32) (G : Nat → Nat → Int32) (u : Nat → Int64), Ivr b X F Y G → am_W p l e room_1 s m args below meth c Q 7 dC dI dA A A0 (k + 1) (n + 6) 23 [some (.ref 200000), some (.ref 0), some (.ref 28), some (.ref 56), some (.int (i + Int32.ofInt 5)), none, none] [] (wd b X F Y G u)) : am_W p l e room_1 s m args below meth c Q 7 dC dI dA A A0 k n 23 [some (.ref 200000), some (.ref 0), some (.ref 28), some (.ref 56), some (.int i), none, none] [] (wd b X F Y G u) := by
  obtain ⟨n1, r, n2, r', e, e', ha, hI'⟩ := in_setting hI (xs (i + 1).toNatClampNeg) (xs (i + 2).toNatClampNeg)
  refine am_soundX (X := fun pc lo st h => pc = 200 ∧ lo = [some (.ref 200000), some (.ref 0), some (.ref 28), some (.ref 56), some (.int i), none, none] ∧ st = [.ref 56, .int (xs (i + 2).toNatClampNeg), .int (xs (i + 1).toNatClampNeg), .ref 0] ∧ h = wd b X F Y G u) (s_La_law L xs) (hC k n (by omega) (by omega)) (hE k n (by omega) (by omega)) ?_ (la_setting_A i v0 v1 v2 hc hq (am_exit ⟨rfl, rfl, rfl, rfl⟩))
  rintro pc lo st h ⟨rfl, rfl, rfl, rfl⟩
  refine am_callH (as := [.ref 0, .int (xs (i + 1).toNatClampNeg), .int (xs (i + 2).toNatClampNeg), .ref 56]) (r := []) (np := 4) (Rp := fun o h' => (∃ v, r.1 = .inr v ∧ o = .inr (some (.int 0)) ∧ h' = wd b r.2.1 r.2.2 Y G (vp_updL u 0 v.toInt64)) ∨ (∃ kd, r.1 = .inl kd ∧ o = .inr (some (.int (sN (sx kd)))) ∧ h' = wd b r.2.1 r.2.2 Y G u)) (fun _ _ _ h => h.1) (hC k n (by omega) (by omega)) (m_La_setting l hl) (by decide) (by decide) hk hn w_459 wI_law w_457 w_458 (by decide +kernel) d_La_law_200 rfl rfl (by decide) (x_La_setting n1 (xs (i + 1).toNatClampNeg) (xs (i + 2).toNatClampNeg) r e (fun kd hx => by unfold agR at ha; rw [hx] at ha; exact ha.2) (fun v hv => Or.inl ⟨v, hv, rfl, rfl⟩) (fun kd hx => Or.inr ⟨kd, hx, rfl, rfl⟩)) ?_
  rintro v h' (⟨x, hx, ho, rfl⟩ | ⟨kd, hx, ho, rfl⟩)
  · cases ho
    unfold agR at ha
    rw [hx] at ha
    obtain ⟨t1, t2⟩ := ha
    refine am_soundX (X := fun pc lo st h => pc = 23 ∧ lo = [some (.ref 200000), some (.ref 0), some (.ref 28), some (.ref 56), some (.int (i + Int32.ofInt 5)), none, none] ∧ st = [] ∧ h = wd b r.2.1 r.2.2 r'.2.1 r'.2.2 (vp_updL u 0 x.toInt64)) (s_La_law L xs) (hC (k + 1) (n + 6) hk hn) (hE (k + 1) (n + 6) hk hn) ?_ (la_setting_B i 0 n2 r' v1 v2 e' t1 (fun _ => ?_) (am_exit ⟨rfl, rfl, rfl, rfl⟩))
    · rintro pc lo st h ⟨rfl, rfl, rfl, rfl⟩
      exact IH _ _ _ _ _ _ hI'
    · show lg_cmp (vp_updL u 0 x.toInt64 0) _ = 0
      rw [show vp_updL u 0 x.toInt64 0 = x.toInt64 from rfl, t2]
      exact lg_self _
  · cases ho
    unfold agR at ha
    rw [hx] at ha
    obtain ⟨t1, t2⟩ := ha
    refine am_soundX (X := fun pc lo st h => pc = 23 ∧ lo = [some (.ref 200000), some (.ref 0), some (.ref 28), some (.ref 56), some (.int (i + Int32.ofInt 5)), none, none] ∧ st = [] ∧ h = wd b r.2.1 r.2.2 r'.2.1 r'.2.2 u) (s_La_law L xs) (hC (k + 1) (n + 6) hk hn) (hE (k + 1) (n + 6) hk hn) ?_ (la_setting_B i (sN (sx kd)) n2 r' v1 v2 e' t1 (fun z => ?_) (am_exit ⟨rfl, rfl, rfl, rfl⟩))
    · rintro pc lo st h ⟨rfl, rfl, rfl, rfl⟩
      exact IH _ _ _ _ _ _ hI'
    · exfalso
      rcases t2 with t2 | t2 <;> rw [t2] at z <;> exact absurd z (by decide)
set_option maxHeartbeats 1000000 in
theorem lo_run_t {X : Nat → Int32} {F : Nat → Nat → Int32} {Y : Nat → Int32} {G : Nat → Nat → Int32} {u : Nat → Int64} (hl : l.stackTraces = false) (hC : ∀ k n, k ≤ 1095 → n ≤ 17503 → am_C (am_EnL L xs) code 7 "ImposeSheetsLaw" 10 378 p room_1 s m args c dC dI dA A A0 k n) (hE : ∀ k n, k ≤ 1095 → n ≤ 17503 → am_End "ImposeSheetsLaw" code p l e room_1 s m args below meth c Q 7 dC dI dA A A0 k n lwRp) (i : Int32) (k n : Nat) (hk : k + 1 ≤ 1095) (hn : n + 6 ≤ 17503) (v0 : vp_in i L) (v1 : vp_in (i + 1) L) (v2 : vp_in (i + 2) L) (v3 : vp_in (i + 3) L) (v4 : vp_in (i + 4) L) (hc : ¬ (Int32.ofNat L - 5 < i)) (hq : xs i.toNatClampNeg &&& 15 = 3) (hI : Ivr true X F Y G) (IH : ∀ (b : Bool) (X : Nat → Int32) (F : Nat → Nat → Int32) (Y : Nat → Int32) (G : Nat → Nat → Int32) (u : Nat → Int64), Ivr b X F Y G → am_W p l e room_1 s m args below meth c Q 7 dC dI dA A A0 (k + 1) (n + 6) 23 [some (.ref 200000), some (.ref 0), some (.ref 28), some (.ref 56), some (.int (i + Int32.ofInt 5)), none, none] [] (wd b X F Y G u)) : am_W p l e room_1 s m args below meth c Q 7 dC dI dA A A0 k n 23 [some (.ref 200000), some (.ref 0), some (.ref 28), some (.ref 56), some (.int i), none, none] [] (wd true X F Y G u) := by
  obtain ⟨n1, r, n2, r', e, e', ha, hI'⟩ := in_run_t hI (xs (i + 1).toNatClampNeg)
  refine am_soundX (X := fun pc lo st h => pc = 262 ∧ lo = [some (.ref 200000), some (.ref 0), some (.ref 28), some (.ref 56), some (.int i), none, none] ∧ st = [.ref 56, .int (xs (i + 1).toNatClampNeg), .ref 0] ∧ h = wd true X F Y G u) (s_La_law L xs) (hC k n (by omega) (by omega)) (hE k n (by omega) (by omega)) ?_ (la_run_A i v0 v1 hc hq (am_exit ⟨rfl, rfl, rfl, rfl⟩))
  rintro pc lo st h ⟨rfl, rfl, rfl, rfl⟩
  refine am_callH (as := [.ref 0, .int (xs (i + 1).toNatClampNeg), .ref 56]) (r := []) (np := 3) (Rp := fun o h' => (∃ v, r.1 = .inr v ∧ o = .inr (some (.int 0)) ∧ h' = wd true r.2.1 r.2.2 Y G (vp_updL u 0 v.toInt64)) ∨ (∃ kd, r.1 = .inl kd ∧ o = .inr (some (.int (sN ((fun k => k) kd)))) ∧ h' = wd true r.2.1 r.2.2 Y G u)) (fun _ _ _ h => h.1) (hC k n (by omega) (by omega)) (m_La_run l hl) (by decide) (by decide) hk hn w_557 wI_law w_555 w_556 (by decide +kernel) d_La_law_262 rfl rfl (by decide) (x_La_run_t n1 (xs (i + 1).toNatClampNeg) r e (fun kd hx => by unfold agR at ha; rw [hx] at ha; exact ha.2) (fun v hv => Or.inl ⟨v, hv, rfl, rfl⟩) (fun kd hx => Or.inr ⟨kd, hx, rfl, rfl⟩)) ?_
  rintro v h' (⟨x, hx, ho, rfl⟩ | ⟨kd, hx, ho, rfl⟩)
  · cases ho
    unfold agR at ha
    rw [hx] at ha
    obtain ⟨t1, t2⟩ := ha
    refine am_soundX (X := fun pc lo st h => pc = 23 ∧ lo = [some (.ref 200000), some (.ref 0), some (.ref 28), some (.ref 56), some (.int (i + Int32.ofInt 5)), none, none] ∧ st = [] ∧ h = wd true r.2.1 r.2.2 r'.2.1 r'.2.2 (vp_updL u 0 x.toInt64)) (s_La_law L xs) (hC (k + 1) (n + 6) hk hn) (hE (k + 1) (n + 6) hk hn) ?_ (la_run_B i 0 n2 r' v1 e' t1 (fun _ => ?_) (am_exit ⟨rfl, rfl, rfl, rfl⟩))
    · rintro pc lo st h ⟨rfl, rfl, rfl, rfl⟩
      exact IH _ _ _ _ _ _ hI'
    · show lg_cmp (vp_updL u 0 x.toInt64 0) _ = 0
      rw [show vp_updL u 0 x.toInt64 0 = x.toInt64 from rfl, t2]
      exact lg_self _
  · cases ho
    unfold agR at ha
    rw [hx] at ha
    obtain ⟨t1, t2⟩ := ha
    refine am_soundX (X := fun pc lo st h => pc = 23 ∧ lo = [some (.ref 200000), some (.ref 0), some (.ref 28), some (.ref 56), some (.int (i + Int32.ofInt 5)), none, none] ∧ st = [] ∧ h = wd true r.2.1 r.2.2 r'.2.1 r'.2.2 u) (s_La_law L xs) (hC (k + 1) (n + 6) hk hn) (hE (k + 1) (n + 6) hk hn) ?_ (la_run_B i (sN ((fun k => k) kd)) n2 r' v1 e' t1 (fun z => ?_) (am_exit ⟨rfl, rfl, rfl, rfl⟩))
    · rintro pc lo st h ⟨rfl, rfl, rfl, rfl⟩
      exact IH _ _ _ _ _ _ hI'
    · exfalso
      rcases t2 with t2 | t2 <;> rw [t2] at z <;> exact absurd z (by decide)
set_option maxHeartbeats 1000000 in
theorem lo_run_f {X : Nat → Int32} {F : Nat → Nat → Int32} {Y : Nat → Int32} {G : Nat → Nat → Int32} {u : Nat → Int64} (hl : l.stackTraces = false) (hC : ∀ k n, k ≤ 1095 → n ≤ 17503 → am_C (am_EnL L xs) code 7 "ImposeSheetsLaw" 10 378 p room_1 s m args c dC dI dA A A0 k n) (hE : ∀ k n, k ≤ 1095 → n ≤ 17503 → am_End "ImposeSheetsLaw" code p l e room_1 s m args below meth c Q 7 dC dI dA A A0 k n lwRp) (i : Int32) (k n : Nat) (hk : k + 1 ≤ 1095) (hn : n + 6 ≤ 17503) (v0 : vp_in i L) (v1 : vp_in (i + 1) L) (v2 : vp_in (i + 2) L) (v3 : vp_in (i + 3) L) (v4 : vp_in (i + 4) L) (hc : ¬ (Int32.ofNat L - 5 < i)) (hq : xs i.toNatClampNeg &&& 15 = 3) (hI : Ivr false X F Y G) (IH : ∀ (b : Bool) (X : Nat → Int32) (F : Nat → Nat → Int32) (Y : Nat → Int32) (G : Nat → Nat → Int32) (u : Nat → Int64), Ivr b X F Y G → am_W p l e room_1 s m args below meth c Q 7 dC dI dA A A0 (k + 1) (n + 6) 23 [some (.ref 200000), some (.ref 0), some (.ref 28), some (.ref 56), some (.int (i + Int32.ofInt 5)), none, none] [] (wd b X F Y G u)) : am_W p l e room_1 s m args below meth c Q 7 dC dI dA A A0 k n 23 [some (.ref 200000), some (.ref 0), some (.ref 28), some (.ref 56), some (.int i), none, none] [] (wd false X F Y G u) := by
  obtain ⟨n1, r, n2, r', e, e', ha, hI'⟩ := in_run_f hI (xs (i + 1).toNatClampNeg)
  refine am_soundX (X := fun pc lo st h => pc = 262 ∧ lo = [some (.ref 200000), some (.ref 0), some (.ref 28), some (.ref 56), some (.int i), none, none] ∧ st = [.ref 56, .int (xs (i + 1).toNatClampNeg), .ref 0] ∧ h = wd false X F Y G u) (s_La_law L xs) (hC k n (by omega) (by omega)) (hE k n (by omega) (by omega)) ?_ (la_run_A i v0 v1 hc hq (am_exit ⟨rfl, rfl, rfl, rfl⟩))
  rintro pc lo st h ⟨rfl, rfl, rfl, rfl⟩
  refine am_callH (as := [.ref 0, .int (xs (i + 1).toNatClampNeg), .ref 56]) (r := []) (np := 3) (Rp := fun o h' => (∃ v, r.1 = .inr v ∧ o = .inr (some (.int 0)) ∧ h' = wd false r.2.1 r.2.2 Y G (vp_updL u 0 v.toInt64)) ∨ (∃ kd, r.1 = .inl kd ∧ o = .inr (some (.int (sN ((fun k => k) kd)))) ∧ h' = wd false r.2.1 r.2.2 Y G u)) (fun _ _ _ h => h.1) (hC k n (by omega) (by omega)) (m_La_run l hl) (by decide) (by decide) hk hn w_557 wI_law w_555 w_556 (by decide +kernel) d_La_law_262 rfl rfl (by decide) (x_La_run_f n1 (xs (i + 1).toNatClampNeg) r e (fun kd hx => by unfold agR at ha; rw [hx] at ha; exact ha.2) (fun v hv => Or.inl ⟨v, hv, rfl, rfl⟩) (fun kd hx => Or.inr ⟨kd, hx, rfl, rfl⟩)) ?_
  rintro v h' (⟨x, hx, ho, rfl⟩ | ⟨kd, hx, ho, rfl⟩)
  · cases ho
    unfold agR at ha
    rw [hx] at ha
    obtain ⟨t1, t2⟩ := ha
    refine am_soundX (X := fun pc lo st h => pc = 23 ∧ lo = [some (.ref 200000), some (.ref 0), some (.ref 28), some (.ref 56), some (.int (i + Int32.ofInt 5)), none, none] ∧ st = [] ∧ h = wd false r.2.1 r.2.2 r'.2.1 r'.2.2 (vp_updL u 0 x.toInt64)) (s_La_law L xs) (hC (k + 1) (n + 6) hk hn) (hE (k + 1) (n + 6) hk hn) ?_ (la_run_B i 0 n2 r' v1 e' t1 (fun _ => ?_) (am_exit ⟨rfl, rfl, rfl, rfl⟩))
    · rintro pc lo st h ⟨rfl, rfl, rfl, rfl⟩
      exact IH _ _ _ _ _ _ hI'
    · show lg_cmp (vp_updL u 0 x.toInt64 0) _ = 0
      rw [show vp_updL u 0 x.toInt64 0 = x.toInt64 from rfl, t2]
      exact lg_self _
  · cases ho
    unfold agR at ha
    rw [hx] at ha
    obtain ⟨t1, t2⟩ := ha
    refine am_soundX (X := fun pc lo st h => pc = 23 ∧ lo = [some (.ref 200000), some (.ref 0), some (.ref 28), some (.ref 56), some (.int (i + Int32.ofInt 5)), none, none] ∧ st = [] ∧ h = wd false r.2.1 r.2.2 r'.2.1 r'.2.2 u) (s_La_law L xs) (hC (k + 1) (n + 6) hk hn) (hE (k + 1) (n + 6) hk hn) ?_ (la_run_B i (sN ((fun k => k) kd)) n2 r' v1 e' t1 (fun z => ?_) (am_exit ⟨rfl, rfl, rfl, rfl⟩))
    · rintro pc lo st h ⟨rfl, rfl, rfl, rfl⟩
      exact IH _ _ _ _ _ _ hI'
    · exfalso
      rcases t2 with t2 | t2 <;> rw [t2] at z <;> exact absurd z (by decide)
set_option maxHeartbeats 1000000 in
theorem lo_at {b : Bool} {X : Nat → Int32} {F : Nat → Nat → Int32} {Y : Nat → Int32} {G : Nat → Nat → Int32} {u : Nat → Int64} (hl : l.stackTraces = false) (hC : ∀ k n, k ≤ 1095 → n ≤ 17503 → am_C (am_EnL L xs) code 7 "ImposeSheetsLaw" 10 378 p room_1 s m args c dC dI dA A A0 k n) (hE : ∀ k n, k ≤ 1095 → n ≤ 17503 → am_End "ImposeSheetsLaw" code p l e room_1 s m args below meth c Q 7 dC dI dA A A0 k n lwRp) (i : Int32) (k n : Nat) (hk : k + 1 ≤ 1095) (hn : n + 6 ≤ 17503) (v0 : vp_in i L) (v1 : vp_in (i + 1) L) (v2 : vp_in (i + 2) L) (v3 : vp_in (i + 3) L) (v4 : vp_in (i + 4) L) (hc : ¬ (Int32.ofNat L - 5 < i)) (hq : xs i.toNatClampNeg &&& 15 = 5) (hI : Ivr b X F Y G) (IH : ∀ (b : Bool) (X : Nat → Int32) (F : Nat → Nat → Int32) (Y : Nat → Int32) (G : Nat → Nat → Int32) (u : Nat → Int64), Ivr b X F Y G → am_W p l e room_1 s m args below meth c Q 7 dC dI dA A A0 (k + 1) (n + 6) 23 [some (.ref 200000), some (.ref 0), some (.ref 28), some (.ref 56), some (.int (i + Int32.ofInt 5)), none, none] [] (wd b X F Y G u)) : am_W p l e room_1 s m args below meth c Q 7 dC dI dA A A0 k n 23 [some (.ref 200000), some (.ref 0), some (.ref 28), some (.ref 56), some (.int i), none, none] [] (wd b X F Y G u) := by
  obtain ⟨n1, r, n2, r', e, e', ha, hI'⟩ := in_at hI (xs (i + 1).toNatClampNeg) (xs (i + 2).toNatClampNeg) (xs (i + 3).toNatClampNeg) (xs (i + 4).toNatClampNeg)
  refine am_soundX (X := fun pc lo st h => pc = 349 ∧ lo = [some (.ref 200000), some (.ref 0), some (.ref 28), some (.ref 56), some (.int i), none, none] ∧ st = [.ref 56, .int (xs (i + 4).toNatClampNeg), .int (xs (i + 3).toNatClampNeg), .int (xs (i + 2).toNatClampNeg), .int (xs (i + 1).toNatClampNeg), .ref 0] ∧ h = wd b X F Y G u) (s_La_law L xs) (hC k n (by omega) (by omega)) (hE k n (by omega) (by omega)) ?_ (la_at_A i v0 v1 v2 v3 v4 hc hq (am_exit ⟨rfl, rfl, rfl, rfl⟩))
  rintro pc lo st h ⟨rfl, rfl, rfl, rfl⟩
  refine am_callH (as := [.ref 0, .int (xs (i + 1).toNatClampNeg), .int (xs (i + 2).toNatClampNeg), .int (xs (i + 3).toNatClampNeg), .int (xs (i + 4).toNatClampNeg), .ref 56]) (r := []) (np := 6) (Rp := fun o h' => (∃ v, r.1 = .inr v ∧ o = .inr (some (.int 0)) ∧ h' = wd b r.2.1 r.2.2 Y G (vp_updL u 0 v.toInt64)) ∨ (∃ kd, r.1 = .inl kd ∧ o = .inr (some (.int (sN (io kd)))) ∧ h' = wd b r.2.1 r.2.2 Y G u)) (fun _ _ _ h => h.1) (hC k n (by omega) (by omega)) (m_La_at l hl) (by decide) (by decide) hk hn w_618 wI_law w_616 w_617 (by decide +kernel) d_La_law_349 rfl rfl (by decide) (x_La_at n1 (xs (i + 1).toNatClampNeg) (xs (i + 2).toNatClampNeg) (xs (i + 3).toNatClampNeg) (xs (i + 4).toNatClampNeg) r e (fun kd hx => by unfold agR at ha; rw [hx] at ha; exact ha.2) (fun v hv => Or.inl ⟨v, hv, rfl, rfl⟩) (fun kd hx => Or.inr ⟨kd, hx, rfl, rfl⟩)) ?_
  rintro v h' (⟨x, hx, ho, rfl⟩ | ⟨kd, hx, ho, rfl⟩)
  · cases ho
    unfold agR at ha
    rw [hx] at ha
    obtain ⟨t1, t2⟩ := ha
    refine am_soundX (X := fun pc lo st h => pc = 23 ∧ lo = [some (.ref 200000), some (.ref 0), some (.ref 28), some (.ref 56), some (.int (i + Int32.ofInt 5)), none, none] ∧ st = [] ∧ h = wd b r.2.1 r.2.2 r'.2.1 r'.2.2 (vp_updL u 0 x.toInt64)) (s_La_law L xs) (hC (k + 1) (n + 6) hk hn) (hE (k + 1) (n + 6) hk hn) ?_ (la_at_B i 0 n2 r' v1 v2 v3 v4 e' t1 (fun _ => ?_) (am_exit ⟨rfl, rfl, rfl, rfl⟩))
    · rintro pc lo st h ⟨rfl, rfl, rfl, rfl⟩
      exact IH _ _ _ _ _ _ hI'
    · show lg_cmp (vp_updL u 0 x.toInt64 0) _ = 0
      rw [show vp_updL u 0 x.toInt64 0 = x.toInt64 from rfl, t2]
      exact lg_self _
  · cases ho
    unfold agR at ha
    rw [hx] at ha
    obtain ⟨t1, t2⟩ := ha
    refine am_soundX (X := fun pc lo st h => pc = 23 ∧ lo = [some (.ref 200000), some (.ref 0), some (.ref 28), some (.ref 56), some (.int (i + Int32.ofInt 5)), none, none] ∧ st = [] ∧ h = wd b r.2.1 r.2.2 r'.2.1 r'.2.2 u) (s_La_law L xs) (hC (k + 1) (n + 6) hk hn) (hE (k + 1) (n + 6) hk hn) ?_ (la_at_B i (sN (io kd)) n2 r' v1 v2 v3 v4 e' t1 (fun z => ?_) (am_exit ⟨rfl, rfl, rfl, rfl⟩))
    · rintro pc lo st h ⟨rfl, rfl, rfl, rfl⟩
      exact IH _ _ _ _ _ _ hI'
    · exfalso
      rcases t2 with t2 | t2 <;> rw [t2] at z <;> exact absurd z (by decide)
set_option maxHeartbeats 1000000 in
theorem lo_fold {b : Bool} {X : Nat → Int32} {F : Nat → Nat → Int32} {Y : Nat → Int32} {G : Nat → Nat → Int32} {u : Nat → Int64} (hl : l.stackTraces = false) (hC : ∀ k n, k ≤ 1095 → n ≤ 17503 → am_C (am_EnL L xs) code 7 "ImposeSheetsLaw" 10 378 p room_1 s m args c dC dI dA A A0 k n) (hE : ∀ k n, k ≤ 1095 → n ≤ 17503 → am_End "ImposeSheetsLaw" code p l e room_1 s m args below meth c Q 7 dC dI dA A A0 k n lwRp) (i : Int32) (k n : Nat) (hk : k + 1 ≤ 1095) (hn : n + 6 ≤ 17503) (v0 : vp_in i L) (v1 : vp_in (i + 1) L) (v2 : vp_in (i + 2) L) (v3 : vp_in (i + 3) L) (v4 : vp_in (i + 4) L) (hc : ¬ (Int32.ofNat L - 5 < i)) (hq : xs i.toNatClampNeg &&& 15 = 6) (hI : Ivr b X F Y G) (IH : ∀ (b : Bool) (X : Nat → Int32) (F : Nat → Nat → Int32) (Y : Nat → Int32) (G : Nat → Nat → Int32) (u : Nat → Int64), Ivr b X F Y G → am_W p l e room_1 s m args below meth c Q 7 dC dI dA A A0 (k + 1) (n + 6) 23 [some (.ref 200000), some (.ref 0), some (.ref 28), some (.ref 56), some (.int (i + Int32.ofInt 5)), none, none] [] (wd b X F Y G u)) : am_W p l e room_1 s m args below meth c Q 7 dC dI dA A A0 k n 23 [some (.ref 200000), some (.ref 0), some (.ref 28), some (.ref 56), some (.int i), none, none] [] (wd b X F Y G u) := by
  obtain ⟨n1, r, n2, r', e, e', ha, hI'⟩ := in_fold hI (xs (i + 1).toNatClampNeg)
  refine am_soundX (X := fun pc lo st h => pc = 423 ∧ lo = [some (.ref 200000), some (.ref 0), some (.ref 28), some (.ref 56), some (.int i), none, none] ∧ st = [.ref 56, .int (xs (i + 1).toNatClampNeg), .ref 0] ∧ h = wd b X F Y G u) (s_La_law L xs) (hC k n (by omega) (by omega)) (hE k n (by omega) (by omega)) ?_ (la_fold_A i v0 v1 hc hq (am_exit ⟨rfl, rfl, rfl, rfl⟩))
  rintro pc lo st h ⟨rfl, rfl, rfl, rfl⟩
  refine am_callH (as := [.ref 0, .int (xs (i + 1).toNatClampNeg), .ref 56]) (r := []) (np := 3) (Rp := fun o h' => (∃ v, r.1 = .inr v ∧ o = .inr (some (.int 0)) ∧ h' = wd b r.2.1 r.2.2 Y G (vp_updL u 0 v.toInt64)) ∨ (∃ kd, r.1 = .inl kd ∧ o = .inr (some (.int (sN (io kd)))) ∧ h' = wd b r.2.1 r.2.2 Y G u)) (fun _ _ _ h => h.1) (hC k n (by omega) (by omega)) (m_La_fold l hl) (by decide) (by decide) hk hn w_678 wI_law w_676 w_677 (by decide +kernel) d_La_law_423 rfl rfl (by decide) (x_La_fold n1 (xs (i + 1).toNatClampNeg) r e (fun kd hx => by unfold agR at ha; rw [hx] at ha; exact ha.2) (fun v hv => Or.inl ⟨v, hv, rfl, rfl⟩) (fun kd hx => Or.inr ⟨kd, hx, rfl, rfl⟩)) ?_
  rintro v h' (⟨x, hx, ho, rfl⟩ | ⟨kd, hx, ho, rfl⟩)
  · cases ho
    unfold agR at ha
    rw [hx] at ha
    obtain ⟨t1, t2⟩ := ha
    refine am_soundX (X := fun pc lo st h => pc = 23 ∧ lo = [some (.ref 200000), some (.ref 0), some (.ref 28), some (.ref 56), some (.int (i + Int32.ofInt 5)), none, none] ∧ st = [] ∧ h = wd b r.2.1 r.2.2 r'.2.1 r'.2.2 (vp_updL u 0 x.toInt64)) (s_La_law L xs) (hC (k + 1) (n + 6) hk hn) (hE (k + 1) (n + 6) hk hn) ?_ (la_fold_B i 0 n2 r' v1 e' t1 (fun _ => ?_) (am_exit ⟨rfl, rfl, rfl, rfl⟩))
    · rintro pc lo st h ⟨rfl, rfl, rfl, rfl⟩
      exact IH _ _ _ _ _ _ hI'
    · show lg_cmp (vp_updL u 0 x.toInt64 0) _ = 0
      rw [show vp_updL u 0 x.toInt64 0 = x.toInt64 from rfl, t2]
      exact lg_self _
  · cases ho
    unfold agR at ha
    rw [hx] at ha
    obtain ⟨t1, t2⟩ := ha
    refine am_soundX (X := fun pc lo st h => pc = 23 ∧ lo = [some (.ref 200000), some (.ref 0), some (.ref 28), some (.ref 56), some (.int (i + Int32.ofInt 5)), none, none] ∧ st = [] ∧ h = wd b r.2.1 r.2.2 r'.2.1 r'.2.2 u) (s_La_law L xs) (hC (k + 1) (n + 6) hk hn) (hE (k + 1) (n + 6) hk hn) ?_ (la_fold_B i (sN (io kd)) n2 r' v1 e' t1 (fun z => ?_) (am_exit ⟨rfl, rfl, rfl, rfl⟩))
    · rintro pc lo st h ⟨rfl, rfl, rfl, rfl⟩
      exact IH _ _ _ _ _ _ hI'
    · exfalso
      rcases t2 with t2 | t2 <;> rw [t2] at z <;> exact absurd z (by decide)
set_option maxHeartbeats 1000000 in
theorem lo_creep {b : Bool} {X : Nat → Int32} {F : Nat → Nat → Int32} {Y : Nat → Int32} {G : Nat → Nat → Int32} {u : Nat → Int64} (hl : l.stackTraces = false) (hC : ∀ k n, k ≤ 1095 → n ≤ 17503 → am_C (am_EnL L xs) code 7 "ImposeSheetsLaw" 10 378 p room_1 s m args c dC dI dA A A0 k n) (hE : ∀ k n, k ≤ 1095 → n ≤ 17503 → am_End "ImposeSheetsLaw" code p l e room_1 s m args below meth c Q 7 dC dI dA A A0 k n lwRp) (i : Int32) (k n : Nat) (hk : k + 1 ≤ 1095) (hn : n + 6 ≤ 17503) (v0 : vp_in i L) (v1 : vp_in (i + 1) L) (v2 : vp_in (i + 2) L) (v3 : vp_in (i + 3) L) (v4 : vp_in (i + 4) L) (hc : ¬ (Int32.ofNat L - 5 < i)) (hq : xs i.toNatClampNeg &&& 15 = 7) (hI : Ivr b X F Y G) (IH : ∀ (b : Bool) (X : Nat → Int32) (F : Nat → Nat → Int32) (Y : Nat → Int32) (G : Nat → Nat → Int32) (u : Nat → Int64), Ivr b X F Y G → am_W p l e room_1 s m args below meth c Q 7 dC dI dA A A0 (k + 1) (n + 6) 23 [some (.ref 200000), some (.ref 0), some (.ref 28), some (.ref 56), some (.int (i + Int32.ofInt 5)), none, none] [] (wd b X F Y G u)) : am_W p l e room_1 s m args below meth c Q 7 dC dI dA A A0 k n 23 [some (.ref 200000), some (.ref 0), some (.ref 28), some (.ref 56), some (.int i), none, none] [] (wd b X F Y G u) := by
  obtain ⟨n1, r, n2, r', e, e', ha, hI'⟩ := in_creep hI (xs (i + 1).toNatClampNeg)
  refine am_soundX (X := fun pc lo st h => pc = 479 ∧ lo = [some (.ref 200000), some (.ref 0), some (.ref 28), some (.ref 56), some (.int i), none, none] ∧ st = [.ref 56, .int (xs (i + 1).toNatClampNeg), .ref 0] ∧ h = wd b X F Y G u) (s_La_law L xs) (hC k n (by omega) (by omega)) (hE k n (by omega) (by omega)) ?_ (la_creep_A i v0 v1 hc hq (am_exit ⟨rfl, rfl, rfl, rfl⟩))
  rintro pc lo st h ⟨rfl, rfl, rfl, rfl⟩
  refine am_callH (as := [.ref 0, .int (xs (i + 1).toNatClampNeg), .ref 56]) (r := []) (np := 3) (Rp := fun o h' => (∃ v, r.1 = .inr v ∧ o = .inr (some (.int 0)) ∧ h' = wd b r.2.1 r.2.2 Y G (vp_updL u 0 v.toInt64)) ∨ (∃ kd, r.1 = .inl kd ∧ o = .inr (some (.int (sN (io kd)))) ∧ h' = wd b r.2.1 r.2.2 Y G u)) (fun _ _ _ h => h.1) (hC k n (by omega) (by omega)) (m_La_creep l hl) (by decide) (by decide) hk hn w_688 wI_law w_686 w_687 (by decide +kernel) d_La_law_479 rfl rfl (by decide) (x_La_creep n1 (xs (i + 1).toNatClampNeg) r e (fun kd hx => by unfold agR at ha; rw [hx] at ha; exact ha.2) (fun v hv => Or.inl ⟨v, hv, rfl, rfl⟩) (fun kd hx => Or.inr ⟨kd, hx, rfl, rfl⟩)) ?_
  rintro v h' (⟨x, hx, ho, rfl⟩ | ⟨kd, hx, ho, rfl⟩)
  · cases ho
    unfold agR at ha
    rw [hx] at ha
    obtain ⟨t1, t2⟩ := ha
    refine am_soundX (X := fun pc lo st h => pc = 23 ∧ lo = [some (.ref 200000), some (.ref 0), some (.ref 28), some (.ref 56), some (.int (i + Int32.ofInt 5)), none, none] ∧ st = [] ∧ h = wd b r.2.1 r.2.2 r'.2.1 r'.2.2 (vp_updL u 0 x.toInt64)) (s_La_law L xs) (hC (k + 1) (n + 6) hk hn) (hE (k + 1) (n + 6) hk hn) ?_ (la_creep_B i 0 n2 r' v1 e' t1 (fun _ => ?_) (am_exit ⟨rfl, rfl, rfl, rfl⟩))
    · rintro pc lo st h ⟨rfl, rfl, rfl, rfl⟩
      exact IH _ _ _ _ _ _ hI'
    · show lg_cmp (vp_updL u 0 x.toInt64 0) _ = 0
      rw [show vp_updL u 0 x.toInt64 0 = x.toInt64 from rfl, t2]
      exact lg_self _
  · cases ho
    unfold agR at ha
    rw [hx] at ha
    obtain ⟨t1, t2⟩ := ha
    refine am_soundX (X := fun pc lo st h => pc = 23 ∧ lo = [some (.ref 200000), some (.ref 0), some (.ref 28), some (.ref 56), some (.int (i + Int32.ofInt 5)), none, none] ∧ st = [] ∧ h = wd b r.2.1 r.2.2 r'.2.1 r'.2.2 u) (s_La_law L xs) (hC (k + 1) (n + 6) hk hn) (hE (k + 1) (n + 6) hk hn) ?_ (la_creep_B i (sN (io kd)) n2 r' v1 e' t1 (fun z => ?_) (am_exit ⟨rfl, rfl, rfl, rfl⟩))
    · rintro pc lo st h ⟨rfl, rfl, rfl, rfl⟩
      exact IH _ _ _ _ _ _ hI'
    · exfalso
      rcases t2 with t2 | t2 <;> rw [t2] at z <;> exact absurd z (by decide)
set_option maxHeartbeats 1000000 in
theorem lo_laid {b : Bool} {X : Nat → Int32} {F : Nat → Nat → Int32} {Y : Nat → Int32} {G : Nat → Nat → Int32} {u : Nat → Int64} (hl : l.stackTraces = false) (hC : ∀ k n, k ≤ 1095 → n ≤ 17503 → am_C (am_EnL L xs) code 7 "ImposeSheetsLaw" 10 378 p room_1 s m args c dC dI dA A A0 k n) (hE : ∀ k n, k ≤ 1095 → n ≤ 17503 → am_End "ImposeSheetsLaw" code p l e room_1 s m args below meth c Q 7 dC dI dA A A0 k n lwRp) (i : Int32) (k n : Nat) (hk : k + 1 ≤ 1095) (hn : n + 6 ≤ 17503) (v0 : vp_in i L) (v1 : vp_in (i + 1) L) (v2 : vp_in (i + 2) L) (v3 : vp_in (i + 3) L) (v4 : vp_in (i + 4) L) (hc : ¬ (Int32.ofNat L - 5 < i)) (hq : xs i.toNatClampNeg &&& 15 = 8) (hI : Ivr b X F Y G) (IH : ∀ (b : Bool) (X : Nat → Int32) (F : Nat → Nat → Int32) (Y : Nat → Int32) (G : Nat → Nat → Int32) (u : Nat → Int64), Ivr b X F Y G → am_W p l e room_1 s m args below meth c Q 7 dC dI dA A A0 (k + 1) (n + 6) 23 [some (.ref 200000), some (.ref 0), some (.ref 28), some (.ref 56), some (.int (i + Int32.ofInt 5)), none, none] [] (wd b X F Y G u)) : am_W p l e room_1 s m args below meth c Q 7 dC dI dA A A0 k n 23 [some (.ref 200000), some (.ref 0), some (.ref 28), some (.ref 56), some (.int i), none, none] [] (wd b X F Y G u) := by
  obtain ⟨n1, r, n2, r', e, e', ha, hI'⟩ := in_laid hI (xs (i + 1).toNatClampNeg)
  refine am_soundX (X := fun pc lo st h => pc = 535 ∧ lo = [some (.ref 200000), some (.ref 0), some (.ref 28), some (.ref 56), some (.int i), none, none] ∧ st = [.ref 56, .int (xs (i + 1).toNatClampNeg), .ref 0] ∧ h = wd b X F Y G u) (s_La_law L xs) (hC k n (by omega) (by omega)) (hE k n (by omega) (by omega)) ?_ (la_laid_A i v0 v1 hc hq (am_exit ⟨rfl, rfl, rfl, rfl⟩))
  rintro pc lo st h ⟨rfl, rfl, rfl, rfl⟩
  refine am_callH (as := [.ref 0, .int (xs (i + 1).toNatClampNeg), .ref 56]) (r := []) (np := 3) (Rp := fun o h' => (∃ v, r.1 = .inr v ∧ o = .inr (some (.int 0)) ∧ h' = wd b r.2.1 r.2.2 Y G (vp_updL u 0 v.toInt64)) ∨ (∃ kd, r.1 = .inl kd ∧ o = .inr (some (.int (sN (io kd)))) ∧ h' = wd b r.2.1 r.2.2 Y G u)) (fun _ _ _ h => h.1) (hC k n (by omega) (by omega)) (m_La_laid l hl) (by decide) (by decide) hk hn w_701 wI_law w_699 w_700 (by decide +kernel) d_La_law_535 rfl rfl (by decide) (x_La_laid n1 (xs (i + 1).toNatClampNeg) r e (fun kd hx => by unfold agR at ha; rw [hx] at ha; exact ha.2) (fun v hv => Or.inl ⟨v, hv, rfl, rfl⟩) (fun kd hx => Or.inr ⟨kd, hx, rfl, rfl⟩)) ?_
  rintro v h' (⟨x, hx, ho, rfl⟩ | ⟨kd, hx, ho, rfl⟩)
  · cases ho
    unfold agR at ha
    rw [hx] at ha
    obtain ⟨t1, t2⟩ := ha
    refine am_soundX (X := fun pc lo st h => pc = 23 ∧ lo = [some (.ref 200000), some (.ref 0), some (.ref 28), some (.ref 56), some (.int (i + Int32.ofInt 5)), none, none] ∧ st = [] ∧ h = wd b r.2.1 r.2.2 r'.2.1 r'.2.2 (vp_updL u 0 x.toInt64)) (s_La_law L xs) (hC (k + 1) (n + 6) hk hn) (hE (k + 1) (n + 6) hk hn) ?_ (la_laid_B i 0 n2 r' v1 e' t1 (fun _ => ?_) (am_exit ⟨rfl, rfl, rfl, rfl⟩))
    · rintro pc lo st h ⟨rfl, rfl, rfl, rfl⟩
      exact IH _ _ _ _ _ _ hI'
    · show lg_cmp (vp_updL u 0 x.toInt64 0) _ = 0
      rw [show vp_updL u 0 x.toInt64 0 = x.toInt64 from rfl, t2]
      exact lg_self _
  · cases ho
    unfold agR at ha
    rw [hx] at ha
    obtain ⟨t1, t2⟩ := ha
    refine am_soundX (X := fun pc lo st h => pc = 23 ∧ lo = [some (.ref 200000), some (.ref 0), some (.ref 28), some (.ref 56), some (.int (i + Int32.ofInt 5)), none, none] ∧ st = [] ∧ h = wd b r.2.1 r.2.2 r'.2.1 r'.2.2 u) (s_La_law L xs) (hC (k + 1) (n + 6) hk hn) (hE (k + 1) (n + 6) hk hn) ?_ (la_laid_B i (sN (io kd)) n2 r' v1 e' t1 (fun z => ?_) (am_exit ⟨rfl, rfl, rfl, rfl⟩))
    · rintro pc lo st h ⟨rfl, rfl, rfl, rfl⟩
      exact IH _ _ _ _ _ _ hI'
    · exfalso
      rcases t2 with t2 | t2 <;> rw [t2] at z <;> exact absurd z (by decide)
set_option maxHeartbeats 1000000 in
theorem lo_job {b : Bool} {X : Nat → Int32} {F : Nat → Nat → Int32} {Y : Nat → Int32} {G : Nat → Nat → Int32} {u : Nat → Int64} (hl : l.stackTraces = false) (hC : ∀ k n, k ≤ 1095 → n ≤ 17503 → am_C (am_EnL L xs) code 7 "ImposeSheetsLaw" 10 378 p room_1 s m args c dC dI dA A A0 k n) (hE : ∀ k n, k ≤ 1095 → n ≤ 17503 → am_End "ImposeSheetsLaw" code p l e room_1 s m args below meth c Q 7 dC dI dA A A0 k n lwRp) (i : Int32) (k n : Nat) (hk : k + 1 ≤ 1095) (hn : n + 6 ≤ 17503) (v0 : vp_in i L) (v1 : vp_in (i + 1) L) (v2 : vp_in (i + 2) L) (v3 : vp_in (i + 3) L) (v4 : vp_in (i + 4) L) (hc : ¬ (Int32.ofNat L - 5 < i)) (hq : xs i.toNatClampNeg &&& 15 = 9) (hI : Ivr b X F Y G) (IH : ∀ (b : Bool) (X : Nat → Int32) (F : Nat → Nat → Int32) (Y : Nat → Int32) (G : Nat → Nat → Int32) (u : Nat → Int64), Ivr b X F Y G → am_W p l e room_1 s m args below meth c Q 7 dC dI dA A A0 (k + 1) (n + 6) 23 [some (.ref 200000), some (.ref 0), some (.ref 28), some (.ref 56), some (.int (i + Int32.ofInt 5)), none, none] [] (wd b X F Y G u)) : am_W p l e room_1 s m args below meth c Q 7 dC dI dA A A0 k n 23 [some (.ref 200000), some (.ref 0), some (.ref 28), some (.ref 56), some (.int i), none, none] [] (wd b X F Y G u) := by
  obtain ⟨n1, r, n2, r', e, e', ha, hI'⟩ := in_job hI (xs (i + 1).toNatClampNeg)
  refine am_soundX (X := fun pc lo st h => pc = 591 ∧ lo = [some (.ref 200000), some (.ref 0), some (.ref 28), some (.ref 56), some (.int i), none, none] ∧ st = [.ref 56, .int (xs (i + 1).toNatClampNeg), .ref 0] ∧ h = wd b X F Y G u) (s_La_law L xs) (hC k n (by omega) (by omega)) (hE k n (by omega) (by omega)) ?_ (la_job_A i v0 v1 hc hq (am_exit ⟨rfl, rfl, rfl, rfl⟩))
  rintro pc lo st h ⟨rfl, rfl, rfl, rfl⟩
  refine am_callH (as := [.ref 0, .int (xs (i + 1).toNatClampNeg), .ref 56]) (r := []) (np := 3) (Rp := fun o h' => (∃ v, r.1 = .inr v ∧ o = .inr (some (.int 0)) ∧ h' = wd b r.2.1 r.2.2 Y G (vp_updL u 0 v.toInt64)) ∨ (∃ kd, r.1 = .inl kd ∧ o = .inr (some (.int (sN (jx kd)))) ∧ h' = wd b r.2.1 r.2.2 Y G u)) (fun _ _ _ h => h.1) (hC k n (by omega) (by omega)) (m_La_job l hl) (by decide) (by decide) hk hn w_715 wI_law w_713 w_714 (by decide +kernel) d_La_law_591 rfl rfl (by decide) (x_La_job n1 (xs (i + 1).toNatClampNeg) r e (fun kd hx => by unfold agR at ha; rw [hx] at ha; exact ha.2) (fun v hv => Or.inl ⟨v, hv, rfl, rfl⟩) (fun kd hx => Or.inr ⟨kd, hx, rfl, rfl⟩)) ?_
  rintro v h' (⟨x, hx, ho, rfl⟩ | ⟨kd, hx, ho, rfl⟩)
  · cases ho
    unfold agR at ha
    rw [hx] at ha
    obtain ⟨t1, t2⟩ := ha
    refine am_soundX (X := fun pc lo st h => pc = 23 ∧ lo = [some (.ref 200000), some (.ref 0), some (.ref 28), some (.ref 56), some (.int (i + Int32.ofInt 5)), none, none] ∧ st = [] ∧ h = wd b r.2.1 r.2.2 r'.2.1 r'.2.2 (vp_updL u 0 x.toInt64)) (s_La_law L xs) (hC (k + 1) (n + 6) hk hn) (hE (k + 1) (n + 6) hk hn) ?_ (la_job_B i 0 n2 r' v1 e' t1 (fun _ => ?_) (am_exit ⟨rfl, rfl, rfl, rfl⟩))
    · rintro pc lo st h ⟨rfl, rfl, rfl, rfl⟩
      exact IH _ _ _ _ _ _ hI'
    · show lg_cmp (vp_updL u 0 x.toInt64 0) _ = 0
      rw [show vp_updL u 0 x.toInt64 0 = x.toInt64 from rfl, t2]
      exact lg_self _
  · cases ho
    unfold agR at ha
    rw [hx] at ha
    obtain ⟨t1, t2⟩ := ha
    refine am_soundX (X := fun pc lo st h => pc = 23 ∧ lo = [some (.ref 200000), some (.ref 0), some (.ref 28), some (.ref 56), some (.int (i + Int32.ofInt 5)), none, none] ∧ st = [] ∧ h = wd b r.2.1 r.2.2 r'.2.1 r'.2.2 u) (s_La_law L xs) (hC (k + 1) (n + 6) hk hn) (hE (k + 1) (n + 6) hk hn) ?_ (la_job_B i (sN (jx kd)) n2 r' v1 e' t1 (fun z => ?_) (am_exit ⟨rfl, rfl, rfl, rfl⟩))
    · rintro pc lo st h ⟨rfl, rfl, rfl, rfl⟩
      exact IH _ _ _ _ _ _ hI'
    · exfalso
      rcases t2 with t2 | t2 <;> rw [t2] at z <;> exact absurd z (by decide)
set_option maxHeartbeats 1000000 in
theorem lo_share {b : Bool} {X : Nat → Int32} {F : Nat → Nat → Int32} {Y : Nat → Int32} {G : Nat → Nat → Int32} {u : Nat → Int64} (hl : l.stackTraces = false) (hC : ∀ k n, k ≤ 1095 → n ≤ 17503 → am_C (am_EnL L xs) code 7 "ImposeSheetsLaw" 10 378 p room_1 s m args c dC dI dA A A0 k n) (hE : ∀ k n, k ≤ 1095 → n ≤ 17503 → am_End "ImposeSheetsLaw" code p l e room_1 s m args below meth c Q 7 dC dI dA A A0 k n lwRp) (i : Int32) (k n : Nat) (hk : k + 1 ≤ 1095) (hn : n + 6 ≤ 17503) (v0 : vp_in i L) (v1 : vp_in (i + 1) L) (v2 : vp_in (i + 2) L) (v3 : vp_in (i + 3) L) (v4 : vp_in (i + 4) L) (hc : ¬ (Int32.ofNat L - 5 < i)) (hq : xs i.toNatClampNeg &&& 15 = 11) (hI : Ivr b X F Y G) (IH : ∀ (b : Bool) (X : Nat → Int32) (F : Nat → Nat → Int32) (Y : Nat → Int32) (G : Nat → Nat → Int32) (u : Nat → Int64), Ivr b X F Y G → am_W p l e room_1 s m args below meth c Q 7 dC dI dA A A0 (k + 1) (n + 6) 23 [some (.ref 200000), some (.ref 0), some (.ref 28), some (.ref 56), some (.int (i + Int32.ofInt 5)), none, none] [] (wd b X F Y G u)) : am_W p l e room_1 s m args below meth c Q 7 dC dI dA A A0 k n 23 [some (.ref 200000), some (.ref 0), some (.ref 28), some (.ref 56), some (.int i), none, none] [] (wd b X F Y G u) := by
  obtain ⟨n1, r, n2, r', e, e', ha, hI'⟩ := in_share hI (xs (i + 1).toNatClampNeg) (xs (i + 2).toNatClampNeg) (xs (i + 3).toNatClampNeg)
  refine am_soundX (X := fun pc lo st h => pc = 670 ∧ lo = [some (.ref 200000), some (.ref 0), some (.ref 28), some (.ref 56), some (.int i), none, none] ∧ st = [.ref 56, .int (xs (i + 3).toNatClampNeg), .int (xs (i + 2).toNatClampNeg), .int (xs (i + 1).toNatClampNeg), .ref 0] ∧ h = wd b X F Y G u) (s_La_law L xs) (hC k n (by omega) (by omega)) (hE k n (by omega) (by omega)) ?_ (la_share_A i v0 v1 v2 v3 hc hq (am_exit ⟨rfl, rfl, rfl, rfl⟩))
  rintro pc lo st h ⟨rfl, rfl, rfl, rfl⟩
  refine am_callH (as := [.ref 0, .int (xs (i + 1).toNatClampNeg), .int (xs (i + 2).toNatClampNeg), .int (xs (i + 3).toNatClampNeg), .ref 56]) (r := []) (np := 5) (Rp := fun o h' => (∃ v, r.1 = .inr v ∧ o = .inr (some (.int 0)) ∧ h' = wd b r.2.1 r.2.2 Y G (vp_updL u 0 v.toInt64)) ∨ (∃ kd, r.1 = .inl kd ∧ o = .inr (some (.int (sN ((fun k => k) kd)))) ∧ h' = wd b r.2.1 r.2.2 Y G u)) (fun _ _ _ h => h.1) (hC k n (by omega) (by omega)) (m_La_share l hl) (by decide) (by decide) hk hn w_749 wI_law w_747 w_748 (by decide +kernel) d_La_law_670 rfl rfl (by decide) (x_La_share n1 (xs (i + 1).toNatClampNeg) (xs (i + 2).toNatClampNeg) (xs (i + 3).toNatClampNeg) r e (fun kd hx => by unfold agR at ha; rw [hx] at ha; exact ha.2) (fun v hv => Or.inl ⟨v, hv, rfl, rfl⟩) (fun kd hx => Or.inr ⟨kd, hx, rfl, rfl⟩)) ?_
  rintro v h' (⟨x, hx, ho, rfl⟩ | ⟨kd, hx, ho, rfl⟩)
  · cases ho
    unfold agR at ha
    rw [hx] at ha
    obtain ⟨t1, t2⟩ := ha
    refine am_soundX (X := fun pc lo st h => pc = 23 ∧ lo = [some (.ref 200000), some (.ref 0), some (.ref 28), some (.ref 56), some (.int (i + Int32.ofInt 5)), none, none] ∧ st = [] ∧ h = wd b r.2.1 r.2.2 r'.2.1 r'.2.2 (vp_updL u 0 x.toInt64)) (s_La_law L xs) (hC (k + 1) (n + 6) hk hn) (hE (k + 1) (n + 6) hk hn) ?_ (la_share_B i 0 n2 r' v1 v2 v3 e' t1 (fun _ => ?_) (am_exit ⟨rfl, rfl, rfl, rfl⟩))
    · rintro pc lo st h ⟨rfl, rfl, rfl, rfl⟩
      exact IH _ _ _ _ _ _ hI'
    · show lg_cmp (vp_updL u 0 x.toInt64 0) _ = 0
      rw [show vp_updL u 0 x.toInt64 0 = x.toInt64 from rfl, t2]
      exact lg_self _
  · cases ho
    unfold agR at ha
    rw [hx] at ha
    obtain ⟨t1, t2⟩ := ha
    refine am_soundX (X := fun pc lo st h => pc = 23 ∧ lo = [some (.ref 200000), some (.ref 0), some (.ref 28), some (.ref 56), some (.int (i + Int32.ofInt 5)), none, none] ∧ st = [] ∧ h = wd b r.2.1 r.2.2 r'.2.1 r'.2.2 u) (s_La_law L xs) (hC (k + 1) (n + 6) hk hn) (hE (k + 1) (n + 6) hk hn) ?_ (la_share_B i (sN ((fun k => k) kd)) n2 r' v1 v2 v3 e' t1 (fun z => ?_) (am_exit ⟨rfl, rfl, rfl, rfl⟩))
    · rintro pc lo st h ⟨rfl, rfl, rfl, rfl⟩
      exact IH _ _ _ _ _ _ hI'
    · exfalso
      rcases t2 with t2 | t2 <;> rw [t2] at z <;> exact absurd z (by decide)
set_option maxHeartbeats 1000000 in
theorem lo_shared {b : Bool} {X : Nat → Int32} {F : Nat → Nat → Int32} {Y : Nat → Int32} {G : Nat → Nat → Int32} {u : Nat → Int64} (hl : l.stackTraces = false) (hC : ∀ k n, k ≤ 1095 → n ≤ 17503 → am_C (am_EnL L xs) code 7 "ImposeSheetsLaw" 10 378 p room_1 s m args c dC dI dA A A0 k n) (hE : ∀ k n, k ≤ 1095 → n ≤ 17503 → am_End "ImposeSheetsLaw" code p l e room_1 s m args below meth c Q 7 dC dI dA A A0 k n lwRp) (i : Int32) (k n : Nat) (hk : k + 1 ≤ 1095) (hn : n + 6 ≤ 17503) (v0 : vp_in i L) (v1 : vp_in (i + 1) L) (v2 : vp_in (i + 2) L) (v3 : vp_in (i + 3) L) (v4 : vp_in (i + 4) L) (hc : ¬ (Int32.ofNat L - 5 < i)) (hq : xs i.toNatClampNeg &&& 15 = 12) (hI : Ivr b X F Y G) (IH : ∀ (b : Bool) (X : Nat → Int32) (F : Nat → Nat → Int32) (Y : Nat → Int32) (G : Nat → Nat → Int32) (u : Nat → Int64), Ivr b X F Y G → am_W p l e room_1 s m args below meth c Q 7 dC dI dA A A0 (k + 1) (n + 6) 23 [some (.ref 200000), some (.ref 0), some (.ref 28), some (.ref 56), some (.int (i + Int32.ofInt 5)), none, none] [] (wd b X F Y G u)) : am_W p l e room_1 s m args below meth c Q 7 dC dI dA A A0 k n 23 [some (.ref 200000), some (.ref 0), some (.ref 28), some (.ref 56), some (.int i), none, none] [] (wd b X F Y G u) := by
  obtain ⟨n1, r, n2, r', e, e', ha, hI'⟩ := in_shared hI (xs (i + 1).toNatClampNeg) (xs (i + 2).toNatClampNeg)
  refine am_soundX (X := fun pc lo st h => pc = 744 ∧ lo = [some (.ref 200000), some (.ref 0), some (.ref 28), some (.ref 56), some (.int i), none, none] ∧ st = [.ref 56, .int (xs (i + 2).toNatClampNeg), .int (xs (i + 1).toNatClampNeg), .ref 0] ∧ h = wd b X F Y G u) (s_La_law L xs) (hC k n (by omega) (by omega)) (hE k n (by omega) (by omega)) ?_ (la_shared_A i v0 v1 v2 hc hq (am_exit ⟨rfl, rfl, rfl, rfl⟩))
  rintro pc lo st h ⟨rfl, rfl, rfl, rfl⟩
  refine am_callH (as := [.ref 0, .int (xs (i + 1).toNatClampNeg), .int (xs (i + 2).toNatClampNeg), .ref 56]) (r := []) (np := 4) (Rp := fun o h' => (∃ v, r.1 = .inr v ∧ o = .inr (some (.int 0)) ∧ h' = wd b r.2.1 r.2.2 Y G (vp_updL u 0 v.toInt64)) ∨ (∃ kd, r.1 = .inl kd ∧ o = .inr (some (.int (sN (io kd)))) ∧ h' = wd b r.2.1 r.2.2 Y G u)) (fun _ _ _ h => h.1) (hC k n (by omega) (by omega)) (m_La_shared l hl) (by decide) (by decide) hk hn w_811 wI_law w_809 w_810 (by decide +kernel) d_La_law_744 rfl rfl (by decide) (x_La_shared n1 (xs (i + 1).toNatClampNeg) (xs (i + 2).toNatClampNeg) r e (fun kd hx => by unfold agR at ha; rw [hx] at ha; exact ha.2) (fun v hv => Or.inl ⟨v, hv, rfl, rfl⟩) (fun kd hx => Or.inr ⟨kd, hx, rfl, rfl⟩)) ?_
  rintro v h' (⟨x, hx, ho, rfl⟩ | ⟨kd, hx, ho, rfl⟩)
  · cases ho
    unfold agR at ha
    rw [hx] at ha
    obtain ⟨t1, t2⟩ := ha
    refine am_soundX (X := fun pc lo st h => pc = 23 ∧ lo = [some (.ref 200000), some (.ref 0), some (.ref 28), some (.ref 56), some (.int (i + Int32.ofInt 5)), none, none] ∧ st = [] ∧ h = wd b r.2.1 r.2.2 r'.2.1 r'.2.2 (vp_updL u 0 x.toInt64)) (s_La_law L xs) (hC (k + 1) (n + 6) hk hn) (hE (k + 1) (n + 6) hk hn) ?_ (la_shared_B i 0 n2 r' v1 v2 e' t1 (fun _ => ?_) (am_exit ⟨rfl, rfl, rfl, rfl⟩))
    · rintro pc lo st h ⟨rfl, rfl, rfl, rfl⟩
      exact IH _ _ _ _ _ _ hI'
    · show lg_cmp (vp_updL u 0 x.toInt64 0) _ = 0
      rw [show vp_updL u 0 x.toInt64 0 = x.toInt64 from rfl, t2]
      exact lg_self _
  · cases ho
    unfold agR at ha
    rw [hx] at ha
    obtain ⟨t1, t2⟩ := ha
    refine am_soundX (X := fun pc lo st h => pc = 23 ∧ lo = [some (.ref 200000), some (.ref 0), some (.ref 28), some (.ref 56), some (.int (i + Int32.ofInt 5)), none, none] ∧ st = [] ∧ h = wd b r.2.1 r.2.2 r'.2.1 r'.2.2 u) (s_La_law L xs) (hC (k + 1) (n + 6) hk hn) (hE (k + 1) (n + 6) hk hn) ?_ (la_shared_B i (sN (io kd)) n2 r' v1 v2 e' t1 (fun z => ?_) (am_exit ⟨rfl, rfl, rfl, rfl⟩))
    · rintro pc lo st h ⟨rfl, rfl, rfl, rfl⟩
      exact IH _ _ _ _ _ _ hI'
    · exfalso
      rcases t2 with t2 | t2 <;> rw [t2] at z <;> exact absurd z (by decide)
theorem lo_none {b : Bool} {X : Nat → Int32} {F : Nat → Nat → Int32} {Y : Nat → Int32} {G : Nat → Nat → Int32} {u : Nat → Int64} (hC : ∀ k n, k ≤ 1095 → n ≤ 17503 → am_C (am_EnL L xs) code 7 "ImposeSheetsLaw" 10 378 p room_1 s m args c dC dI dA A A0 k n) (hE : ∀ k n, k ≤ 1095 → n ≤ 17503 → am_End "ImposeSheetsLaw" code p l e room_1 s m args below meth c Q 7 dC dI dA A A0 k n lwRp) (i : Int32) (k n : Nat) (hk : k ≤ 1095) (hn : n ≤ 17503) (v0 : vp_in i L) (v1 : vp_in (i + 1) L) (v2 : vp_in (i + 2) L) (v3 : vp_in (i + 3) L) (v4 : vp_in (i + 4) L) (hc : ¬ (Int32.ofNat L - 5 < i)) (hq : ∀ q ∈ ([(0, 104), (1, 173), (2, 186), (3, 254), (4, 310), (5, 323), (6, 415), (7, 471), (8, 527), (9, 583), (10, 639), (11, 650), (12, 730)] : List (Int32 × Nat)), ¬ xs i.toNatClampNeg &&& 15 = q.1) (hI : Ivr b X F Y G) (IH : ∀ (b : Bool) (X : Nat → Int32) (F : Nat → Nat → Int32) (Y : Nat → Int32) (G : Nat → Nat → Int32) (u : Nat → Int64), Ivr b X F Y G → am_W p l e room_1 s m args below meth c Q 7 dC dI dA A A0 k n 23 [some (.ref 200000), some (.ref 0), some (.ref 28), some (.ref 56), some (.int (i + Int32.ofInt 5)), none, none] [] (wd b X F Y G u)) : am_W p l e room_1 s m args below meth c Q 7 dC dI dA A A0 k n 23 [some (.ref 200000), some (.ref 0), some (.ref 28), some (.ref 56), some (.int i), none, none] [] (wd b X F Y G u) := by
  refine am_soundX (X := fun pc lo st h => pc = 23 ∧ lo = [some (.ref 200000), some (.ref 0), some (.ref 28), some (.ref 56), some (.int (i + Int32.ofInt 5)), none, none] ∧ st = [] ∧ h = wd b X F Y G u) (s_La_law L xs) (hC k n hk hn) (hE k n hk hn) ?_ (la_none i v0 hc hq (am_exit ⟨rfl, rfl, rfl, rfl⟩))
  rintro pc lo st h ⟨rfl, rfl, rfl, rfl⟩
  exact IH _ _ _ _ _ _ hI
theorem lo_end {b : Bool} {X : Nat → Int32} {F : Nat → Nat → Int32} {Y : Nat → Int32} {G : Nat → Nat → Int32} {u : Nat → Int64} (hC : ∀ k n, k ≤ 1095 → n ≤ 17503 → am_C (am_EnL L xs) code 7 "ImposeSheetsLaw" 10 378 p room_1 s m args c dC dI dA A A0 k n) (hE : ∀ k n, k ≤ 1095 → n ≤ 17503 → am_End "ImposeSheetsLaw" code p l e room_1 s m args below meth c Q 7 dC dI dA A A0 k n lwRp) (i : Int32) (k n : Nat) (hk : k ≤ 1095) (hn : n ≤ 17503) (hc : Int32.ofNat L - 5 < i) : am_W p l e room_1 s m args below meth c Q 7 dC dI dA A A0 k n 23 [some (.ref 200000), some (.ref 0), some (.ref 28), some (.ref 56), some (.int i), none, none] [] (wd b X F Y G u) :=
  am_soundX (X := fun _ _ _ _ => False) (s_La_law L xs) (hC k n hk hn) (hE k n hk hn) (fun _ _ _ _ h => h.elim) (la_end i hc rfl)
/-- every script, from any related state -/
theorem law_loop (hl : l.stackTraces = false) (hC : ∀ k n, k ≤ 1095 → n ≤ 17503 → am_C (am_EnL L xs) code 7 "ImposeSheetsLaw" 10 378 p room_1 s m args c dC dI dA A A0 k n) (hE : ∀ k n, k ≤ 1095 → n ≤ 17503 → am_End "ImposeSheetsLaw" code p l e room_1 s m args below meth c Q 7 dC dI dA A A0 k n lwRp) (hL : L ≤ 2560) : ∀ (mm i k n' : Nat) (b : Bool) (X : Nat → Int32) (F : Nat → Nat → Int32) (Y : Nat → Int32) (G : Nat → Nat → Int32) (u : Nat → Int64), L < i + 5 * mm + 5 → i ≤ 2570 → k + mm ≤ 1095 → n' + 6 * mm ≤ 17503 → Ivr b X F Y G → am_W p l e room_1 s m args below meth c Q 7 dC dI dA A A0 k n' 23 [some (.ref 200000), some (.ref 0), some (.ref 28), some (.ref 56), some (.int (sN i)), none, none] [] (wd b X F Y G u)
  | 0, i, k, n', b, X, F, Y, G, u, hm, hi, hk, hn, hI => by
    refine lo_end hC hE (sN i) k n' (by omega) (by omega) ?_
    show sN L - sN 5 < sN i
    rw [sN_sI, sN_sI, sN_sI, sI_sub, sI_lt (by omega) (by omega) (by omega) (by omega)]; omega
  | mm + 1, i, k, n', b, X, F, Y, G, u, hm, hi, hk, hn, hI => by
    have ec : (Int32.ofNat L - 5 < sN i) = (L < i + 5) := by
      show (sN L - sN 5 < sN i) = _
      rw [sN_sI, sN_sI, sN_sI, sI_sub, sI_lt (by omega) (by omega) (by omega) (by omega)]
      exact propext ⟨fun z => by omega, fun z => by omega⟩
    by_cases hend : L < i + 5
    · exact lo_end hC hE (sN i) k n' (by omega) (by omega) (by rw [ec]; exact hend)
    have hc : ¬ (Int32.ofNat L - 5 < sN i) := by rw [ec]; exact hend
    have vv : ∀ j, j < 5 → vp_in (sN (i + j)) L := fun j hj => by
      unfold vp_in
      rw [wN_0, sN_lt (by omega) (by omega), sN_nat (by omega)]; omega
    have v0 : vp_in (sN i) L := vv 0 (by omega)
    have v1 : vp_in (sN i + 1) L := by rw [wN_1, sN_add]; exact vv 1 (by omega)
    have v2 : vp_in (sN i + 2) L := by rw [wN_2, sN_add]; exact vv 2 (by omega)
    have v3 : vp_in (sN i + 3) L := by rw [wN_3, sN_add]; exact vv 3 (by omega)
    have v4 : vp_in (sN i + 4) L := by rw [wN_4, sN_add]; exact vv 4 (by omega)
    have e5 : sN i + Int32.ofInt 5 = sN (i + 5) := sN_add i 5
    have IH : ∀ (k2 n2 : Nat), k2 + mm ≤ 1095 → n2 + 6 * mm ≤ 17503 → ∀ (b : Bool) (X : Nat → Int32) (F : Nat → Nat → Int32) (Y : Nat → Int32) (G : Nat → Nat → Int32) (u : Nat → Int64), Ivr b X F Y G → am_W p l e room_1 s m args below meth c Q 7 dC dI dA A A0 k2 n2 23 [some (.ref 200000), some (.ref 0), some (.ref 28), some (.ref 56), some (.int (sN i + Int32.ofInt 5)), none, none] [] (wd b X F Y G u) := by
      intro k2 n2 a1 a2 b X F Y G u h
      rw [e5]
      exact law_loop hl hC hE hL mm (i + 5) k2 n2 b X F Y G u (by omega) (by omega) a1 a2 h
    by_cases h0 : xs (sN i).toNatClampNeg &&& 15 = 0
    · exact lo_type hC hE (sN i) k n' (by omega) (by omega) v0 v1 v2 v3 v4 hc h0 hI (IH k n' (by omega) (by omega))
    by_cases h1 : xs (sN i).toNatClampNeg &&& 15 = 1
    · cases b
      · exact lo_scheme_f hC hE (sN i) k n' (by omega) (by omega) v0 v1 v2 v3 v4 hc h1 hI (IH k n' (by omega) (by omega))
      · exact lo_scheme_t hC hE (sN i) k n' (by omega) (by omega) v0 v1 v2 v3 v4 hc h1 hI (IH k n' (by omega) (by omega))
    by_cases h2 : xs (sN i).toNatClampNeg &&& 15 = 2
    · exact lo_setting hl hC hE (sN i) k n' (by omega) (by omega) v0 v1 v2 v3 v4 hc h2 hI (IH (k + 1) (n' + 6) (by omega) (by omega))
    by_cases h3 : xs (sN i).toNatClampNeg &&& 15 = 3
    · cases b
      · exact lo_run_f hl hC hE (sN i) k n' (by omega) (by omega) v0 v1 v2 v3 v4 hc h3 hI (IH (k + 1) (n' + 6) (by omega) (by omega))
      · exact lo_run_t hl hC hE (sN i) k n' (by omega) (by omega) v0 v1 v2 v3 v4 hc h3 hI (IH (k + 1) (n' + 6) (by omega) (by omega))
    by_cases h4 : xs (sN i).toNatClampNeg &&& 15 = 4
    · cases b
      · exact lo_broken_f hC hE (sN i) k n' (by omega) (by omega) v0 v1 v2 v3 v4 hc h4 hI (IH k n' (by omega) (by omega))
      · exact lo_broken_t hC hE (sN i) k n' (by omega) (by omega) v0 v1 v2 v3 v4 hc h4 hI (IH k n' (by omega) (by omega))
    by_cases h5 : xs (sN i).toNatClampNeg &&& 15 = 5
    · exact lo_at hl hC hE (sN i) k n' (by omega) (by omega) v0 v1 v2 v3 v4 hc h5 hI (IH (k + 1) (n' + 6) (by omega) (by omega))
    by_cases h6 : xs (sN i).toNatClampNeg &&& 15 = 6
    · exact lo_fold hl hC hE (sN i) k n' (by omega) (by omega) v0 v1 v2 v3 v4 hc h6 hI (IH (k + 1) (n' + 6) (by omega) (by omega))
    by_cases h7 : xs (sN i).toNatClampNeg &&& 15 = 7
    · exact lo_creep hl hC hE (sN i) k n' (by omega) (by omega) v0 v1 v2 v3 v4 hc h7 hI (IH (k + 1) (n' + 6) (by omega) (by omega))
    by_cases h8 : xs (sN i).toNatClampNeg &&& 15 = 8
    · exact lo_laid hl hC hE (sN i) k n' (by omega) (by omega) v0 v1 v2 v3 v4 hc h8 hI (IH (k + 1) (n' + 6) (by omega) (by omega))
    by_cases h9 : xs (sN i).toNatClampNeg &&& 15 = 9
    · exact lo_job hl hC hE (sN i) k n' (by omega) (by omega) v0 v1 v2 v3 v4 hc h9 hI (IH (k + 1) (n' + 6) (by omega) (by omega))
    by_cases h10 : xs (sN i).toNatClampNeg &&& 15 = 10
    · exact lo_clear hC hE (sN i) k n' (by omega) (by omega) v0 v1 v2 v3 v4 hc h10 hI (IH k n' (by omega) (by omega))
    by_cases h11 : xs (sN i).toNatClampNeg &&& 15 = 11
    · exact lo_share hl hC hE (sN i) k n' (by omega) (by omega) v0 v1 v2 v3 v4 hc h11 hI (IH (k + 1) (n' + 6) (by omega) (by omega))
    by_cases h12 : xs (sN i).toNatClampNeg &&& 15 = 12
    · exact lo_shared hl hC hE (sN i) k n' (by omega) (by omega) v0 v1 v2 v3 v4 hc h12 hI (IH (k + 1) (n' + 6) (by omega) (by omega))
    exact lo_none hC hE (sN i) k n' (by omega) (by omega) v0 v1 v2 v3 v4 hc (List.forall_mem_cons.mpr ⟨h0, List.forall_mem_cons.mpr ⟨h1, List.forall_mem_cons.mpr ⟨h2, List.forall_mem_cons.mpr ⟨h3, List.forall_mem_cons.mpr ⟨h4, List.forall_mem_cons.mpr ⟨h5, List.forall_mem_cons.mpr ⟨h6, List.forall_mem_cons.mpr ⟨h7, List.forall_mem_cons.mpr ⟨h8, List.forall_mem_cons.mpr ⟨h9, List.forall_mem_cons.mpr ⟨h10, List.forall_mem_cons.mpr ⟨h11, List.forall_mem_cons.mpr ⟨h12, fun _ h => absurd h List.not_mem_nil⟩⟩⟩⟩⟩⟩⟩⟩⟩⟩⟩⟩⟩) hI (IH k n' (by omega) (by omega))
end LL
