/-! what holds between the calls; each call keeps it, and the answers agree -/
def Ivr (b : Bool) (X : Nat → Int32) (F : Nat → Nat → Int32) (Y : Nat → Int32) (G : Nat → Nat → Int32) : Prop := tapI X F Y G ∧ setI F G ∧ schB b X F Y G ∧ bokI X F Y G ∧ shaI X F Y G
theorem tapI_cg {X X' : Nat → Int32} {F F' : Nat → Nat → Int32} {Y Y' : Nat → Int32} {G G' : Nat → Nat → Int32} (h : tapI X F Y G) (hX : X' 0 = X 0) (hF : F' 0 = F 0) (hY : Y' 1 = Y 1) (hG : G' 0 = G 0) : tapI X' F' Y' G' := by
  unfold tapI; rw [hX, hF, hY, hG]; exact h
theorem setI_cg {F F' : Nat → Nat → Int32} {G G' : Nat → Nat → Int32} (h : setI F G) (hF : F' 2 = F 2) (hG : G' 14 = G 14) : setI F' G' := by
  unfold setI; rw [hF, hG]; exact h
theorem fr_k {α : Type} {S T : List Nat} {X X' : Nat → α} (h : fr S X X') (hd : ∀ k ∈ T, k ∉ S) : ∀ k ∈ T, X' k = X k := fun k hk => h k (hd k hk)
/-- the answers, where the class may throw -/
def agR (m : Nat → Nat) (r : (Nat ⊕ Int32) × (Nat → Int32) × (Nat → Nat → Int32)) (r' : Res) : Prop := agT m r.1 r'.1 (r'.2.1 0)
theorem in_at {b : Bool} {X : Nat → Int32} {F : Nat → Nat → Int32} {Y : Nat → Int32} {G : Nat → Nat → Int32} (h : Ivr b X F Y G) (a : Int32) (c : Int32) (d : Int32) (e0 : Int32) : ∃ n r n' r', f_Im_at n X F a c d e0 = some r ∧ f_Mo_at n' Y G a c d e0 = some r' ∧ agR io r r' ∧ Ivr b r.2.1 r.2.2 r'.2.1 r'.2.2 := by
  obtain ⟨h1, h2, h3, h4, h5⟩ := h
  obtain ⟨v, w, t, g1, g2, g3⟩ := ag_at h4 a c d e0
  obtain ⟨n, r, e, rfl⟩ := Go_use g1
  obtain ⟨n', r', e', rfl⟩ := Go_use g2
  have fY : fr [0] Y (upd Y 0 t) := fr_upd fr_rfl (by decide)
  exact ⟨n, _, n', _, e, e', g3, tapI_cg h1 rfl rfl rfl rfl, h2, schB_cg h3 (fun _ _ => rfl) (fun _ _ => rfl) (fr_k fY (by decide)) (fun _ _ => rfl), bokI_cg h4 (fun _ _ => rfl) (fun _ _ => rfl) (fr_k fY (by decide)) (fun _ _ => rfl), shaI_cg h5 (fun _ _ => rfl) (fun _ _ => rfl) (fr_k fY (by decide)) (fun _ _ => rfl)⟩
theorem in_fold {b : Bool} {X : Nat → Int32} {F : Nat → Nat → Int32} {Y : Nat → Int32} {G : Nat → Nat → Int32} (h : Ivr b X F Y G) (a : Int32) : ∃ n r n' r', f_Im_fold n X F a = some r ∧ f_Mo_fold n' Y G a = some r' ∧ agR io r r' ∧ Ivr b r.2.1 r.2.2 r'.2.1 r'.2.2 := by
  obtain ⟨h1, h2, h3, h4, h5⟩ := h
  obtain ⟨v, w, t, g1, g2, g3⟩ := ag_fold h4 a
  obtain ⟨n, r, e, rfl⟩ := Go_use g1
  obtain ⟨n', r', e', rfl⟩ := Go_use g2
  have fY : fr [0] Y (upd Y 0 t) := fr_upd fr_rfl (by decide)
  exact ⟨n, _, n', _, e, e', g3, tapI_cg h1 rfl rfl rfl rfl, h2, schB_cg h3 (fun _ _ => rfl) (fun _ _ => rfl) (fr_k fY (by decide)) (fun _ _ => rfl), bokI_cg h4 (fun _ _ => rfl) (fun _ _ => rfl) (fr_k fY (by decide)) (fun _ _ => rfl), shaI_cg h5 (fun _ _ => rfl) (fun _ _ => rfl) (fr_k fY (by decide)) (fun _ _ => rfl)⟩
theorem in_creep {b : Bool} {X : Nat → Int32} {F : Nat → Nat → Int32} {Y : Nat → Int32} {G : Nat → Nat → Int32} (h : Ivr b X F Y G) (a : Int32) : ∃ n r n' r', f_Im_creep n X F a = some r ∧ f_Mo_creep n' Y G a = some r' ∧ agR io r r' ∧ Ivr b r.2.1 r.2.2 r'.2.1 r'.2.2 := by
  obtain ⟨h1, h2, h3, h4, h5⟩ := h
  obtain ⟨v, w, t, g1, g2, g3⟩ := ag_creep h4 a
  obtain ⟨n, r, e, rfl⟩ := Go_use g1
  obtain ⟨n', r', e', rfl⟩ := Go_use g2
  have fY : fr [0] Y (upd Y 0 t) := fr_upd fr_rfl (by decide)
  exact ⟨n, _, n', _, e, e', g3, tapI_cg h1 rfl rfl rfl rfl, h2, schB_cg h3 (fun _ _ => rfl) (fun _ _ => rfl) (fr_k fY (by decide)) (fun _ _ => rfl), bokI_cg h4 (fun _ _ => rfl) (fun _ _ => rfl) (fr_k fY (by decide)) (fun _ _ => rfl), shaI_cg h5 (fun _ _ => rfl) (fun _ _ => rfl) (fr_k fY (by decide)) (fun _ _ => rfl)⟩
theorem in_laid {b : Bool} {X : Nat → Int32} {F : Nat → Nat → Int32} {Y : Nat → Int32} {G : Nat → Nat → Int32} (h : Ivr b X F Y G) (a : Int32) : ∃ n r n' r', f_Im_laid n X F a = some r ∧ f_Mo_laid n' Y G a = some r' ∧ agR io r r' ∧ Ivr b r.2.1 r.2.2 r'.2.1 r'.2.2 := by
  obtain ⟨h1, h2, h3, h4, h5⟩ := h
  obtain ⟨v, w, t, g1, g2, g3⟩ := ag_laid h4 a
  obtain ⟨n, r, e, rfl⟩ := Go_use g1
  obtain ⟨n', r', e', rfl⟩ := Go_use g2
  have fY : fr [0] Y (upd Y 0 t) := fr_upd fr_rfl (by decide)
  exact ⟨n, _, n', _, e, e', g3, tapI_cg h1 rfl rfl rfl rfl, h2, schB_cg h3 (fun _ _ => rfl) (fun _ _ => rfl) (fr_k fY (by decide)) (fun _ _ => rfl), bokI_cg h4 (fun _ _ => rfl) (fun _ _ => rfl) (fr_k fY (by decide)) (fun _ _ => rfl), shaI_cg h5 (fun _ _ => rfl) (fun _ _ => rfl) (fr_k fY (by decide)) (fun _ _ => rfl)⟩
theorem in_shared {b : Bool} {X : Nat → Int32} {F : Nat → Nat → Int32} {Y : Nat → Int32} {G : Nat → Nat → Int32} (h : Ivr b X F Y G) (a : Int32) (c : Int32) : ∃ n r n' r', f_Im_shared n X F a c = some r ∧ f_Mo_shared n' Y G a c = some r' ∧ agR io r r' ∧ Ivr b r.2.1 r.2.2 r'.2.1 r'.2.2 := by
  obtain ⟨h1, h2, h3, h4, h5⟩ := h
  obtain ⟨v, w, t, g1, g2, g3⟩ := ag_shared h5 a c
  obtain ⟨n, r, e, rfl⟩ := Go_use g1
  obtain ⟨n', r', e', rfl⟩ := Go_use g2
  have fY : fr [0] Y (upd Y 0 t) := fr_upd fr_rfl (by decide)
  exact ⟨n, _, n', _, e, e', g3, tapI_cg h1 rfl rfl rfl rfl, h2, schB_cg h3 (fun _ _ => rfl) (fun _ _ => rfl) (fr_k fY (by decide)) (fun _ _ => rfl), bokI_cg h4 (fun _ _ => rfl) (fun _ _ => rfl) (fr_k fY (by decide)) (fun _ _ => rfl), shaI_cg h5 (fun _ _ => rfl) (fun _ _ => rfl) (fr_k fY (by decide)) (fun _ _ => rfl)⟩
theorem in_type {b : Bool} {X : Nat → Int32} {F : Nat → Nat → Int32} {Y : Nat → Int32} {G : Nat → Nat → Int32} (h : Ivr b X F Y G) (a : Int64) (c : Int32) : ∃ n r n' r', f_Im_type n X F a c = some r ∧ f_Mo_type n' Y G a c = some r' ∧ r.1 = r'.1 ∧ Ivr b r.2.1 r.2.2 r'.2.1 r'.2.2 := by
  obtain ⟨h1, h2, h3, h4, h5⟩ := h
  obtain ⟨w, X', F', Y', G', g1, g2, g3, fX, fF, fY, fG⟩ := ag_type h1 a c
  obtain ⟨n, r, e, rfl⟩ := Go_use g1
  obtain ⟨n', r', e', rfl⟩ := Go_use g2
  exact ⟨n, _, n', _, e, e', rfl, g3, setI_cg h2 (fF 2 (by decide)) (fG 14 (by decide)), schB_cg h3 (fr_k fX (by decide)) (fr_k fF (by decide)) (fr_k fY (by decide)) (fr_k fG (by decide)), bokI_cg h4 (fr_k fX (by decide)) (fr_k fF (by decide)) (fr_k fY (by decide)) (fr_k fG (by decide)), shaI_cg h5 (fr_k fX (by decide)) (fr_k fF (by decide)) (fr_k fY (by decide)) (fr_k fG (by decide))⟩
theorem in_setting {b : Bool} {X : Nat → Int32} {F : Nat → Nat → Int32} {Y : Nat → Int32} {G : Nat → Nat → Int32} (h : Ivr b X F Y G) (a c : Int32) : ∃ n r n' r', f_Im_setting n X F a c = some r ∧ f_Mo_setting n' Y G a c = some r' ∧ agR sx r r' ∧ Ivr b r.2.1 r.2.2 r'.2.1 r'.2.2 := by
  obtain ⟨h1, h2, h3, h4, h5⟩ := h
  obtain ⟨v, w, t, F', G', g1, g2, g3, g4, fF, fG⟩ := ag_setting (X := X) (Y := Y) h2 a c
  obtain ⟨n, r, e, rfl⟩ := Go_use g1
  obtain ⟨n', r', e', rfl⟩ := Go_use g2
  have fY : fr [0] Y (upd Y 0 t) := fr_upd fr_rfl (by decide)
  exact ⟨n, _, n', _, e, e', g3, tapI_cg h1 rfl (fF 0 (by decide)) rfl (fG 0 (by decide)), g4, schB_cg h3 (fun _ _ => rfl) (fr_k fF (by decide)) (fr_k fY (by decide)) (fr_k fG (by decide)), bokI_cg h4 (fun _ _ => rfl) (fr_k fF (by decide)) (fr_k fY (by decide)) (fr_k fG (by decide)), shaI_cg h5 (fun _ _ => rfl) (fr_k fF (by decide)) (fr_k fY (by decide)) (fr_k fG (by decide))⟩
theorem in_job {b : Bool} {X : Nat → Int32} {F : Nat → Nat → Int32} {Y : Nat → Int32} {G : Nat → Nat → Int32} (h : Ivr b X F Y G) (a : Int32) : ∃ n r n' r', f_Im_job n X F a = some r ∧ f_Mo_job n' Y G a = some r' ∧ agR jx r r' ∧ Ivr b r.2.1 r.2.2 r'.2.1 r'.2.2 := by
  obtain ⟨h1, h2, h3, h4, h5⟩ := h
  obtain ⟨v, w, X', F', Y', G', g1, g2, g3, g4, fX, fF, fY, fG⟩ := ag_job h5 a
  obtain ⟨n, r, e, rfl⟩ := Go_use g1
  obtain ⟨n', r', e', rfl⟩ := Go_use g2
  exact ⟨n, _, n', _, e, e', g3, tapI_cg h1 (fX 0 (by decide)) (fF 0 (by decide)) (fY 1 (by decide)) (fG 0 (by decide)), setI_cg h2 (fF 2 (by decide)) (fG 14 (by decide)), schB_cg h3 (fr_k fX (by decide)) (fr_k fF (by decide)) (fr_k fY (by decide)) (fr_k fG (by decide)), bokI_cg h4 (fr_k fX (by decide)) (fr_k fF (by decide)) (fr_k fY (by decide)) (fr_k fG (by decide)), g4⟩
theorem in_share {b : Bool} {X : Nat → Int32} {F : Nat → Nat → Int32} {Y : Nat → Int32} {G : Nat → Nat → Int32} (h : Ivr b X F Y G) (a c d : Int32) : ∃ n r n' r', f_Im_share n X F a c d = some r ∧ f_Mo_share n' Y G a c d = some r' ∧ agR (fun k => k) r r' ∧ Ivr b r.2.1 r.2.2 r'.2.1 r'.2.2 := by
  obtain ⟨h1, h2, h3, h4, h5⟩ := h
  obtain ⟨v, w, X', F', Y', G', g1, g2, g3, g4, fX, fF, fY, fG⟩ := ag_share h5 a c d
  obtain ⟨n, r, e, rfl⟩ := Go_use g1
  obtain ⟨n', r', e', rfl⟩ := Go_use g2
  exact ⟨n, _, n', _, e, e', g3, tapI_cg h1 (fX 0 (by decide)) (fF 0 (by decide)) (fY 1 (by decide)) (fG 0 (by decide)), setI_cg h2 (fF 2 (by decide)) (fG 14 (by decide)), schB_cg h3 (fr_k fX (by decide)) (fr_k fF (by decide)) (fr_k fY (by decide)) (fr_k fG (by decide)), bokI_cg h4 (fr_k fX (by decide)) (fr_k fF (by decide)) (fr_k fY (by decide)) (fr_k fG (by decide)), g4⟩
theorem in_clear {b : Bool} {X : Nat → Int32} {F : Nat → Nat → Int32} {Y : Nat → Int32} {G : Nat → Nat → Int32} (h : Ivr b X F Y G) : ∃ n r n' r', f_Im_clear n X F = some r ∧ f_Mo_clear n' Y G = some r' ∧ Ivr b r.2.1 r.2.2 r'.2.1 r'.2.2 := by
  obtain ⟨h1, h2, h3, h4, h5⟩ := h
  obtain ⟨X', Y', g1, g2, g4, fX, fY⟩ := ag_clear (X := X) (F := F) (Y := Y) (G := G)
  obtain ⟨n, r, e, rfl⟩ := Go_use g1
  obtain ⟨n', r', e', rfl⟩ := Go_use g2
  exact ⟨n, _, n', _, e, e', tapI_cg h1 (fX 0 (by decide)) rfl (fY 1 (by decide)) rfl, h2, schB_cg h3 (fr_k fX (by decide)) (fun _ _ => rfl) (fr_k fY (by decide)) (fun _ _ => rfl), bokI_cg h4 (fr_k fX (by decide)) (fun _ _ => rfl) (fr_k fY (by decide)) (fun _ _ => rfl), g4⟩
theorem in_broken_f {X : Nat → Int32} {F : Nat → Nat → Int32} {Y : Nat → Int32} {G : Nat → Nat → Int32} (h : Ivr false X F Y G) : ∃ n r n' r', f_Im_broken_f n X F = some r ∧ f_Mo_broken n' Y G = some r' ∧ r.1 = r'.1 ∧ Ivr false r.2.1 r.2.2 r'.2.1 r'.2.2 := by
  obtain ⟨h1, h2, h3, h4, h5⟩ := h
  obtain ⟨w, Y', G', g1, g2, fY, fG⟩ := ag_broken_f h2 h3
  obtain ⟨n, r, e, rfl⟩ := Go_use g1
  obtain ⟨n', r', e', rfl⟩ := Go_use g2
  exact ⟨n, _, n', _, e, e', rfl, tapI_cg h1 rfl rfl (fY 1 (by decide)) (fG 0 (by decide)), setI_cg h2 rfl (fG 14 (by decide)), schB_cg h3 (fun _ _ => rfl) (fun _ _ => rfl) (fr_k fY (by decide)) (fr_k fG (by decide)), bokI_cg h4 (fun _ _ => rfl) (fun _ _ => rfl) (fr_k fY (by decide)) (fr_k fG (by decide)), shaI_cg h5 (fun _ _ => rfl) (fun _ _ => rfl) (fr_k fY (by decide)) (fr_k fG (by decide))⟩
theorem in_run_f {X : Nat → Int32} {F : Nat → Nat → Int32} {Y : Nat → Int32} {G : Nat → Nat → Int32} (h : Ivr false X F Y G) (a : Int32) : ∃ n r n' r', f_Im_run_f n X F a = some r ∧ f_Mo_run n' Y G a = some r' ∧ agR (fun k => k) r r' ∧ Ivr false r.2.1 r.2.2 r'.2.1 r'.2.2 := by
  obtain ⟨h1, h2, h3, h4, h5⟩ := h
  obtain ⟨v, w, X', F', Y', G', g1, g2, g3, g4, fX, fF, fY, fG⟩ := ag_run_f h2 h3 h4 a
  obtain ⟨n, r, e, rfl⟩ := Go_use g1
  obtain ⟨n', r', e', rfl⟩ := Go_use g2
  exact ⟨n, _, n', _, e, e', g3, tapI_cg h1 (fX 0 (by decide)) (fF 0 (by decide)) (fY 1 (by decide)) (fG 0 (by decide)), setI_cg h2 (fF 2 (by decide)) (fG 14 (by decide)), schB_cg h3 (fr_k fX (by decide)) (fr_k fF (by decide)) (fr_k fY (by decide)) (fr_k fG (by decide)), g4, shaI_cg h5 (fr_k fX (by decide)) (fr_k fF (by decide)) (fr_k fY (by decide)) (fr_k fG (by decide))⟩
theorem in_scheme_f {X : Nat → Int32} {F : Nat → Nat → Int32} {Y : Nat → Int32} {G : Nat → Nat → Int32} (h : Ivr false X F Y G) : ∃ n r n' r', f_Im_scheme_f n X F = some r ∧ f_Mo_scheme n' Y G = some r' ∧ r.1.1 = r'.1 ∧ Ivr r.1.2 r.2.1 r.2.2 r'.2.1 r'.2.2 := by
  obtain ⟨h1, h2, h3, h4, h5⟩ := h
  obtain ⟨w, b', X', F', Y', G', g1, g2, g3, g4, fX, fF, fY, fG⟩ := ag_scheme_f h1 h3
  obtain ⟨n, r, e, rfl⟩ := Go_use g1
  obtain ⟨n', r', e', rfl⟩ := Go_use g2
  exact ⟨n, _, n', _, e, e', rfl, g3, setI_cg h2 (fF 2 (by decide)) (fG 14 (by decide)), g4, bokI_cg h4 (fr_k fX (by decide)) (fr_k fF (by decide)) (fr_k fY (by decide)) (fr_k fG (by decide)), shaI_cg h5 (fr_k fX (by decide)) (fr_k fF (by decide)) (fr_k fY (by decide)) (fr_k fG (by decide))⟩
theorem in_broken_t {X : Nat → Int32} {F : Nat → Nat → Int32} {Y : Nat → Int32} {G : Nat → Nat → Int32} (h : Ivr true X F Y G) : ∃ n r n' r', f_Im_broken_t n X F = some r ∧ f_Mo_broken n' Y G = some r' ∧ r.1 = r'.1 ∧ Ivr true r.2.1 r.2.2 r'.2.1 r'.2.2 := by
  obtain ⟨h1, h2, h3, h4, h5⟩ := h
  obtain ⟨w, Y', G', g1, g2, fY, fG⟩ := ag_broken_t h2 h3
  obtain ⟨n, r, e, rfl⟩ := Go_use g1
  obtain ⟨n', r', e', rfl⟩ := Go_use g2
  exact ⟨n, _, n', _, e, e', rfl, tapI_cg h1 rfl rfl (fY 1 (by decide)) (fG 0 (by decide)), setI_cg h2 rfl (fG 14 (by decide)), schB_cg h3 (fun _ _ => rfl) (fun _ _ => rfl) (fr_k fY (by decide)) (fr_k fG (by decide)), bokI_cg h4 (fun _ _ => rfl) (fun _ _ => rfl) (fr_k fY (by decide)) (fr_k fG (by decide)), shaI_cg h5 (fun _ _ => rfl) (fun _ _ => rfl) (fr_k fY (by decide)) (fr_k fG (by decide))⟩
theorem in_run_t {X : Nat → Int32} {F : Nat → Nat → Int32} {Y : Nat → Int32} {G : Nat → Nat → Int32} (h : Ivr true X F Y G) (a : Int32) : ∃ n r n' r', f_Im_run_t n X F a = some r ∧ f_Mo_run n' Y G a = some r' ∧ agR (fun k => k) r r' ∧ Ivr true r.2.1 r.2.2 r'.2.1 r'.2.2 := by
  obtain ⟨h1, h2, h3, h4, h5⟩ := h
  obtain ⟨v, w, X', F', Y', G', g1, g2, g3, g4, fX, fF, fY, fG⟩ := ag_run_t h2 h3 h4 a
  obtain ⟨n, r, e, rfl⟩ := Go_use g1
  obtain ⟨n', r', e', rfl⟩ := Go_use g2
  exact ⟨n, _, n', _, e, e', g3, tapI_cg h1 (fX 0 (by decide)) (fF 0 (by decide)) (fY 1 (by decide)) (fG 0 (by decide)), setI_cg h2 (fF 2 (by decide)) (fG 14 (by decide)), schB_cg h3 (fr_k fX (by decide)) (fr_k fF (by decide)) (fr_k fY (by decide)) (fr_k fG (by decide)), g4, shaI_cg h5 (fr_k fX (by decide)) (fr_k fF (by decide)) (fr_k fY (by decide)) (fr_k fG (by decide))⟩
theorem in_scheme_t {X : Nat → Int32} {F : Nat → Nat → Int32} {Y : Nat → Int32} {G : Nat → Nat → Int32} (h : Ivr true X F Y G) : ∃ n r n' r', f_Im_scheme_t n X F = some r ∧ f_Mo_scheme n' Y G = some r' ∧ r.1.1 = r'.1 ∧ Ivr r.1.2 r.2.1 r.2.2 r'.2.1 r'.2.2 := by
  obtain ⟨h1, h2, h3, h4, h5⟩ := h
  obtain ⟨w, b', X', F', Y', G', g1, g2, g3, g4, fX, fF, fY, fG⟩ := ag_scheme_t h1 h3
  obtain ⟨n, r, e, rfl⟩ := Go_use g1
  obtain ⟨n', r', e', rfl⟩ := Go_use g2
  exact ⟨n, _, n', _, e, e', rfl, g3, setI_cg h2 (fF 2 (by decide)) (fG 14 (by decide)), g4, bokI_cg h4 (fr_k fX (by decide)) (fr_k fF (by decide)) (fr_k fY (by decide)) (fr_k fG (by decide)), shaI_cg h5 (fr_k fX (by decide)) (fr_k fF (by decide)) (fr_k fY (by decide)) (fr_k fG (by decide))⟩
/-- at the beginning -/
theorem Ivr_0 {X : Nat → Int32} {F : Nat → Nat → Int32} {Y : Nat → Int32} {G : Nat → Nat → Int32} (hX : ∀ k, X k = 0) (hF : ∀ k j, ¬ k = 2 → F k j = 0) (hF2 : ∀ j, j < 10 → F 2 j = if 3 ≤ j ∧ j ≤ 6 then 1000 else 0) (hY : ∀ k, Y k = 0) (hG : ∀ k j, ¬ k = 14 → G k j = 0) (hG14 : ∀ j, j < 10 → G 14 j = if 3 ≤ j ∧ j ≤ 6 then 1000 else 0) : Ivr false X F Y G := by
  refine ⟨⟨fun _ => 1000, by rw [hX]; exact tape0 _, by rw [hY]; exact tape0 _⟩, ⟨fun j => if 3 ≤ j ∧ j ≤ 6 then 1000 else 0, by unfold stOK; simp, fun k hk => ?_, fun k hk => ?_⟩, Or.inl ⟨hX _, hX _, hX _, hY _, hY _, hY _⟩, Or.inl ⟨hX _, hX _, hX _, fun k hk => hF 3 k (by decide), hY _⟩, ⟨0, fun _ => 1, ⟨by omega, fun j hj => by omega, hX _, hY _, fun j hj => by omega, fun j hj => by omega⟩, Or.inl ⟨hX _, hY _, hY _⟩⟩⟩
  · rw [hF2 k hk]
    show _ = sN (if 3 ≤ k ∧ k ≤ 6 then 1000 else 0)
    split <;> rfl
  · rw [hG14 k hk]
    show _ = sN (if 3 ≤ k ∧ k ≤ 6 then 1000 else 0)
    split <;> rfl
