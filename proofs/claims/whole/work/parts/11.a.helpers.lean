/-! the helpers: what they answer (gen/law11.py) -/
set_option maxRecDepth 20000 in
theorem x_La_setting {b : Bool} {X : Nat → Int32} {F : Nat → Nat → Int32} {Y : Nat → Int32} {G : Nat → Nat → Int32} {u : Nat → Int64} {Rp : am_P} (n : Nat) (a0 : Int32) (b0 : Int32) (r : (Nat ⊕ Int32) × (Nat → Int32) × (Nat → Nat → Int32)) (h : f_Im_setting n X F a0 b0 = some r) (hk : ∀ k, r.1 = .inl k → sx k = 1 ∨ sx k = 2) (k0 : ∀ v, r.1 = .inr v → Rp (.inr (some (.int 0))) (wd b r.2.1 r.2.2 Y G (vp_updL u 0 v.toInt64))) (k1 : ∀ k, r.1 = .inl k → Rp (.inr (some (.int (sN (sx k))))) (wd b r.2.1 r.2.2 Y G u)) : M_La_setting [.ref 0, .int a0, .int b0, .ref 56] (wd b X F Y G u) Rp :=
  ⟨Nat.le_of_ble_eq_true rfl, am_xgo (fun pc => Nat.beq pc 5) 12 (am_exit ⟨rfl, 0, [.int a0, .int b0], [.int 0, .ref 56], _, rfl, rfl, rfl, by decide, x_Im_setting n a0 b0 r h (by
    cases hr : r.1 with
    | inr v => exact am_go (fun _ => false) 12 (And.intro (by unfold vp_in; decide) (And.intro trivial (k0 v hr)))
    | inl k =>
      have hk' := hk k hr
      have hk2 : k = 0 ∨ k = 1 := by
        first | (simp only [io, sx, jx] at hk'; (repeat' split at hk') <;> omega) | omega
      rcases hk2 with rfl | rfl
      · exact ⟨rfl, am_go (fun _ => false) 12 (And.intro trivial (k1 0 hr))⟩
      · exact ⟨rfl, am_go (fun _ => false) 12 (And.intro trivial (k1 1 hr))⟩)⟩)⟩
set_option maxRecDepth 20000 in
theorem x_La_run_t {X : Nat → Int32} {F : Nat → Nat → Int32} {Y : Nat → Int32} {G : Nat → Nat → Int32} {u : Nat → Int64} {Rp : am_P} (n : Nat) (a0 : Int32) (r : (Nat ⊕ Int32) × (Nat → Int32) × (Nat → Nat → Int32)) (h : f_Im_run_t n X F a0 = some r) (hk : ∀ k, r.1 = .inl k → (fun k => k) k = 1 ∨ (fun k => k) k = 2) (k0 : ∀ v, r.1 = .inr v → Rp (.inr (some (.int 0))) (wd true r.2.1 r.2.2 Y G (vp_updL u 0 v.toInt64))) (k1 : ∀ k, r.1 = .inl k → Rp (.inr (some (.int (sN ((fun k => k) k))))) (wd true r.2.1 r.2.2 Y G u)) : M_La_run [.ref 0, .int a0, .ref 56] (wd true X F Y G u) Rp :=
  ⟨Nat.le_of_ble_eq_true rfl, am_xgo (fun pc => Nat.beq pc 4) 12 (am_exit ⟨rfl, 0, [.int a0], [.int 0, .ref 56], _, rfl, rfl, rfl, by decide, x_Im_run_t n a0 r h (by
    cases hr : r.1 with
    | inr v => exact am_go (fun _ => false) 12 (And.intro (by unfold vp_in; decide) (And.intro trivial (k0 v hr)))
    | inl k =>
      have hk' := hk k hr
      have hk2 : k = 1 ∨ k = 2 := by
        first | (simp only [io, sx, jx] at hk'; (repeat' split at hk') <;> omega) | omega
      rcases hk2 with rfl | rfl
      · exact ⟨rfl, am_go (fun _ => false) 12 (And.intro trivial (k1 1 hr))⟩
      · exact ⟨rfl, am_go (fun _ => false) 12 (And.intro trivial (k1 2 hr))⟩)⟩)⟩
set_option maxRecDepth 20000 in
theorem x_La_run_f {X : Nat → Int32} {F : Nat → Nat → Int32} {Y : Nat → Int32} {G : Nat → Nat → Int32} {u : Nat → Int64} {Rp : am_P} (n : Nat) (a0 : Int32) (r : (Nat ⊕ Int32) × (Nat → Int32) × (Nat → Nat → Int32)) (h : f_Im_run_f n X F a0 = some r) (hk : ∀ k, r.1 = .inl k → (fun k => k) k = 1 ∨ (fun k => k) k = 2) (k0 : ∀ v, r.1 = .inr v → Rp (.inr (some (.int 0))) (wd false r.2.1 r.2.2 Y G (vp_updL u 0 v.toInt64))) (k1 : ∀ k, r.1 = .inl k → Rp (.inr (some (.int (sN ((fun k => k) k))))) (wd false r.2.1 r.2.2 Y G u)) : M_La_run [.ref 0, .int a0, .ref 56] (wd false X F Y G u) Rp :=
  ⟨Nat.le_of_ble_eq_true rfl, am_xgo (fun pc => Nat.beq pc 4) 12 (am_exit ⟨rfl, 0, [.int a0], [.int 0, .ref 56], _, rfl, rfl, rfl, by decide, x_Im_run_f n a0 r h (by
    cases hr : r.1 with
    | inr v => exact am_go (fun _ => false) 12 (And.intro (by unfold vp_in; decide) (And.intro trivial (k0 v hr)))
    | inl k =>
      have hk' := hk k hr
      have hk2 : k = 1 ∨ k = 2 := by
        first | (simp only [io, sx, jx] at hk'; (repeat' split at hk') <;> omega) | omega
      rcases hk2 with rfl | rfl
      · exact ⟨rfl, am_go (fun _ => false) 12 (And.intro trivial (k1 1 hr))⟩
      · exact ⟨rfl, am_go (fun _ => false) 12 (And.intro trivial (k1 2 hr))⟩)⟩)⟩
set_option maxRecDepth 20000 in
theorem x_La_at {b : Bool} {X : Nat → Int32} {F : Nat → Nat → Int32} {Y : Nat → Int32} {G : Nat → Nat → Int32} {u : Nat → Int64} {Rp : am_P} (n : Nat) (a0 : Int32) (b0 : Int32) (c0 : Int32) (d0 : Int32) (r : (Nat ⊕ Int32) × (Nat → Int32) × (Nat → Nat → Int32)) (h : f_Im_at n X F a0 b0 c0 d0 = some r) (hk : ∀ k, r.1 = .inl k → io k = 1 ∨ io k = 2) (k0 : ∀ v, r.1 = .inr v → Rp (.inr (some (.int 0))) (wd b r.2.1 r.2.2 Y G (vp_updL u 0 v.toInt64))) (k1 : ∀ k, r.1 = .inl k → Rp (.inr (some (.int (sN (io k))))) (wd b r.2.1 r.2.2 Y G u)) : M_La_at [.ref 0, .int a0, .int b0, .int c0, .int d0, .ref 56] (wd b X F Y G u) Rp :=
  ⟨Nat.le_of_ble_eq_true rfl, am_xgo (fun pc => Nat.beq pc 9) 12 (am_exit ⟨rfl, 0, [.int a0, .int b0, .int c0, .int d0], [.int 0, .ref 56], _, rfl, rfl, rfl, by decide, x_Im_at n a0 b0 c0 d0 r h (by
    cases hr : r.1 with
    | inr v => exact am_go (fun _ => false) 12 (And.intro (by unfold vp_in; decide) (And.intro trivial (k0 v hr)))
    | inl k =>
      have hk' := hk k hr
      have hk2 : k = 0 := by
        first | (simp only [io, sx, jx] at hk'; (repeat' split at hk') <;> omega) | omega
      rcases hk2 with rfl
      · exact ⟨rfl, am_go (fun _ => false) 12 (And.intro trivial (k1 0 hr))⟩)⟩)⟩
set_option maxRecDepth 20000 in
theorem x_La_fold {b : Bool} {X : Nat → Int32} {F : Nat → Nat → Int32} {Y : Nat → Int32} {G : Nat → Nat → Int32} {u : Nat → Int64} {Rp : am_P} (n : Nat) (a0 : Int32) (r : (Nat ⊕ Int32) × (Nat → Int32) × (Nat → Nat → Int32)) (h : f_Im_fold n X F a0 = some r) (hk : ∀ k, r.1 = .inl k → io k = 1 ∨ io k = 2) (k0 : ∀ v, r.1 = .inr v → Rp (.inr (some (.int 0))) (wd b r.2.1 r.2.2 Y G (vp_updL u 0 v.toInt64))) (k1 : ∀ k, r.1 = .inl k → Rp (.inr (some (.int (sN (io k))))) (wd b r.2.1 r.2.2 Y G u)) : M_La_fold [.ref 0, .int a0, .ref 56] (wd b X F Y G u) Rp :=
  ⟨Nat.le_of_ble_eq_true rfl, am_xgo (fun pc => Nat.beq pc 4) 12 (am_exit ⟨rfl, 0, [.int a0], [.int 0, .ref 56], _, rfl, rfl, rfl, by decide, x_Im_fold n a0 r h (by
    cases hr : r.1 with
    | inr v => exact am_go (fun _ => false) 12 (And.intro (by unfold vp_in; decide) (And.intro trivial (k0 v hr)))
    | inl k =>
      have hk' := hk k hr
      have hk2 : k = 0 := by
        first | (simp only [io, sx, jx] at hk'; (repeat' split at hk') <;> omega) | omega
      rcases hk2 with rfl
      · exact ⟨rfl, am_go (fun _ => false) 12 (And.intro trivial (k1 0 hr))⟩)⟩)⟩
set_option maxRecDepth 20000 in
theorem x_La_creep {b : Bool} {X : Nat → Int32} {F : Nat → Nat → Int32} {Y : Nat → Int32} {G : Nat → Nat → Int32} {u : Nat → Int64} {Rp : am_P} (n : Nat) (a0 : Int32) (r : (Nat ⊕ Int32) × (Nat → Int32) × (Nat → Nat → Int32)) (h : f_Im_creep n X F a0 = some r) (hk : ∀ k, r.1 = .inl k → io k = 1 ∨ io k = 2) (k0 : ∀ v, r.1 = .inr v → Rp (.inr (some (.int 0))) (wd b r.2.1 r.2.2 Y G (vp_updL u 0 v.toInt64))) (k1 : ∀ k, r.1 = .inl k → Rp (.inr (some (.int (sN (io k))))) (wd b r.2.1 r.2.2 Y G u)) : M_La_creep [.ref 0, .int a0, .ref 56] (wd b X F Y G u) Rp :=
  ⟨Nat.le_of_ble_eq_true rfl, am_xgo (fun pc => Nat.beq pc 4) 12 (am_exit ⟨rfl, 0, [.int a0], [.int 0, .ref 56], _, rfl, rfl, rfl, by decide, x_Im_creep n a0 r h (by
    cases hr : r.1 with
    | inr v => exact am_go (fun _ => false) 12 (And.intro (by unfold vp_in; decide) (And.intro trivial (k0 v hr)))
    | inl k =>
      have hk' := hk k hr
      have hk2 : k = 0 := by
        first | (simp only [io, sx, jx] at hk'; (repeat' split at hk') <;> omega) | omega
      rcases hk2 with rfl
      · exact ⟨rfl, am_go (fun _ => false) 12 (And.intro trivial (k1 0 hr))⟩)⟩)⟩
set_option maxRecDepth 20000 in
theorem x_La_laid {b : Bool} {X : Nat → Int32} {F : Nat → Nat → Int32} {Y : Nat → Int32} {G : Nat → Nat → Int32} {u : Nat → Int64} {Rp : am_P} (n : Nat) (a0 : Int32) (r : (Nat ⊕ Int32) × (Nat → Int32) × (Nat → Nat → Int32)) (h : f_Im_laid n X F a0 = some r) (hk : ∀ k, r.1 = .inl k → io k = 1 ∨ io k = 2) (k0 : ∀ v, r.1 = .inr v → Rp (.inr (some (.int 0))) (wd b r.2.1 r.2.2 Y G (vp_updL u 0 v.toInt64))) (k1 : ∀ k, r.1 = .inl k → Rp (.inr (some (.int (sN (io k))))) (wd b r.2.1 r.2.2 Y G u)) : M_La_laid [.ref 0, .int a0, .ref 56] (wd b X F Y G u) Rp :=
  ⟨Nat.le_of_ble_eq_true rfl, am_xgo (fun pc => Nat.beq pc 4) 12 (am_exit ⟨rfl, 0, [.int a0], [.int 0, .ref 56], _, rfl, rfl, rfl, by decide, x_Im_laid n a0 r h (by
    cases hr : r.1 with
    | inr v => exact am_go (fun _ => false) 12 (And.intro (by unfold vp_in; decide) (And.intro trivial (k0 v hr)))
    | inl k =>
      have hk' := hk k hr
      have hk2 : k = 0 := by
        first | (simp only [io, sx, jx] at hk'; (repeat' split at hk') <;> omega) | omega
      rcases hk2 with rfl
      · exact ⟨rfl, am_go (fun _ => false) 12 (And.intro trivial (k1 0 hr))⟩)⟩)⟩
set_option maxRecDepth 20000 in
theorem x_La_job {b : Bool} {X : Nat → Int32} {F : Nat → Nat → Int32} {Y : Nat → Int32} {G : Nat → Nat → Int32} {u : Nat → Int64} {Rp : am_P} (n : Nat) (a0 : Int32) (r : (Nat ⊕ Int32) × (Nat → Int32) × (Nat → Nat → Int32)) (h : f_Im_job n X F a0 = some r) (hk : ∀ k, r.1 = .inl k → jx k = 1 ∨ jx k = 2) (k0 : ∀ v, r.1 = .inr v → Rp (.inr (some (.int 0))) (wd b r.2.1 r.2.2 Y G (vp_updL u 0 v.toInt64))) (k1 : ∀ k, r.1 = .inl k → Rp (.inr (some (.int (sN (jx k))))) (wd b r.2.1 r.2.2 Y G u)) : M_La_job [.ref 0, .int a0, .ref 56] (wd b X F Y G u) Rp :=
  ⟨Nat.le_of_ble_eq_true rfl, am_xgo (fun pc => Nat.beq pc 4) 12 (am_exit ⟨rfl, 0, [.int a0], [.int 0, .ref 56], _, rfl, rfl, rfl, by decide, x_Im_job n a0 r h (by
    cases hr : r.1 with
    | inr v => exact am_go (fun _ => false) 12 (And.intro (by unfold vp_in; decide) (And.intro trivial (k0 v hr)))
    | inl k =>
      have hk' := hk k hr
      have hk2 : k = 1 ∨ k = 3 := by
        first | (simp only [io, sx, jx] at hk'; (repeat' split at hk') <;> omega) | omega
      rcases hk2 with rfl | rfl
      · exact ⟨rfl, am_go (fun _ => false) 12 (And.intro trivial (k1 1 hr))⟩
      · exact ⟨rfl, am_go (fun _ => false) 12 (And.intro trivial (k1 3 hr))⟩)⟩)⟩
set_option maxRecDepth 20000 in
theorem x_La_share {b : Bool} {X : Nat → Int32} {F : Nat → Nat → Int32} {Y : Nat → Int32} {G : Nat → Nat → Int32} {u : Nat → Int64} {Rp : am_P} (n : Nat) (a0 : Int32) (b0 : Int32) (c0 : Int32) (r : (Nat ⊕ Int32) × (Nat → Int32) × (Nat → Nat → Int32)) (h : f_Im_share n X F a0 b0 c0 = some r) (hk : ∀ k, r.1 = .inl k → (fun k => k) k = 1 ∨ (fun k => k) k = 2) (k0 : ∀ v, r.1 = .inr v → Rp (.inr (some (.int 0))) (wd b r.2.1 r.2.2 Y G (vp_updL u 0 v.toInt64))) (k1 : ∀ k, r.1 = .inl k → Rp (.inr (some (.int (sN ((fun k => k) k))))) (wd b r.2.1 r.2.2 Y G u)) : M_La_share [.ref 0, .int a0, .int b0, .int c0, .ref 56] (wd b X F Y G u) Rp :=
  ⟨Nat.le_of_ble_eq_true rfl, am_xgo (fun pc => Nat.beq pc 7) 12 (am_exit ⟨rfl, 0, [.int a0, .int b0, .int c0], [.int 0, .ref 56], _, rfl, rfl, rfl, by decide, x_Im_share n a0 b0 c0 r h (by
    cases hr : r.1 with
    | inr v => exact am_go (fun _ => false) 12 (And.intro (by unfold vp_in; decide) (And.intro trivial (k0 v hr)))
    | inl k =>
      have hk' := hk k hr
      have hk2 : k = 1 ∨ k = 2 := by
        first | (simp only [io, sx, jx] at hk'; (repeat' split at hk') <;> omega) | omega
      rcases hk2 with rfl | rfl
      · exact ⟨rfl, am_go (fun _ => false) 12 (And.intro trivial (k1 1 hr))⟩
      · exact ⟨rfl, am_go (fun _ => false) 12 (And.intro trivial (k1 2 hr))⟩)⟩)⟩
set_option maxRecDepth 20000 in
theorem x_La_shared {b : Bool} {X : Nat → Int32} {F : Nat → Nat → Int32} {Y : Nat → Int32} {G : Nat → Nat → Int32} {u : Nat → Int64} {Rp : am_P} (n : Nat) (a0 : Int32) (b0 : Int32) (r : (Nat ⊕ Int32) × (Nat → Int32) × (Nat → Nat → Int32)) (h : f_Im_shared n X F a0 b0 = some r) (hk : ∀ k, r.1 = .inl k → io k = 1 ∨ io k = 2) (k0 : ∀ v, r.1 = .inr v → Rp (.inr (some (.int 0))) (wd b r.2.1 r.2.2 Y G (vp_updL u 0 v.toInt64))) (k1 : ∀ k, r.1 = .inl k → Rp (.inr (some (.int (sN (io k))))) (wd b r.2.1 r.2.2 Y G u)) : M_La_shared [.ref 0, .int a0, .int b0, .ref 56] (wd b X F Y G u) Rp :=
  ⟨Nat.le_of_ble_eq_true rfl, am_xgo (fun pc => Nat.beq pc 5) 12 (am_exit ⟨rfl, 0, [.int a0, .int b0], [.int 0, .ref 56], _, rfl, rfl, rfl, by decide, x_Im_shared n a0 b0 r h (by
    cases hr : r.1 with
    | inr v => exact am_go (fun _ => false) 12 (And.intro (by unfold vp_in; decide) (And.intro trivial (k0 v hr)))
    | inl k =>
      have hk' := hk k hr
      have hk2 : k = 0 := by
        first | (simp only [io, sx, jx] at hk'; (repeat' split at hk') <;> omega) | omega
      rcases hk2 with rfl
      · exact ⟨rfl, am_go (fun _ => false) 12 (And.intro trivial (k1 0 hr))⟩)⟩)⟩
