/-! ## ImposeSheets.type(JI)Z -/
theorem d_Im_type_0 : decode c_Im_type 0 = .ok (.aload_n 0, 1) := by decide +kernel
theorem d_Im_type_1 : decode c_Im_type 1 = .ok (.getfield 10, 3) := by decide +kernel
theorem d_Im_type_4 : decode c_Im_type 4 = .ok (.lload_n 1, 1) := by decide +kernel
theorem d_Im_type_5 : decode c_Im_type 5 = .ok (.iload_n 3, 1) := by decide +kernel
theorem d_Im_type_6 : decode c_Im_type 6 = .ok (.invokevirtual 62, 3) := by decide +kernel
theorem d_Im_type_9 : decode c_Im_type 9 = .ok (.ireturn, 1) := by decide +kernel
def t_Im_type : Nat → am_A := fun pc => cond (Nat.ble 5 pc) (cond (Nat.ble 6 pc) (cond (Nat.ble 9 pc) (cond (Nat.beq pc 9) (am_iret) am_stuck) (cond (Nat.beq pc 6) (am_callV M_Ta_append 1 2 9) am_stuck)) (cond (Nat.beq pc 5) (am_iload 3 6) am_stuck)) (cond (Nat.ble 1 pc) (cond (Nat.ble 4 pc) (cond (Nat.beq pc 4) (am_lload 1 5) am_stuck) (cond (Nat.beq pc 1) (am_get 0 0 4) am_stuck)) (cond (Nat.beq pc 0) (am_aload 0 1) am_stuck))
theorem s_Im_type : ∀ pc, am_Snd am_En c_Im_type 4 y_Im_type.cls 1 24 pc (t_Im_type pc) := fun pc => am_node (am_node (am_node (am_leaf (am_s_iret d_Im_type_9)) (am_leaf (am_s_callV (ci := 1) (T := nT_Ta) (N := 2) (fun _ _ _ h => h) rfl m_Ta_append (by decide) (by decide) w_295 w_61 w_292 w_293 w_294 (by decide +kernel) d_Im_type_6))) (am_leaf (am_s_iload_n 3 d_Im_type_5 rfl))) (am_node (am_node (am_leaf (am_s_lload_n 1 d_Im_type_4 rfl)) (am_leaf (am_s_get (ci := 0) (k := 0) (C := nR_Im) (T := nT_Im) (N := 7) rfl nG_Im (by decide) w_266 d_Im_type_1))) (am_leaf (am_s_aload_n 0 d_Im_type_0 rfl)))
def M_Im_type : am_M := am_Mof t_Im_type 4 (some .boolean)
theorem m_Im_type : am_Met y_Im_type c_Im_type 4 (some .boolean) 1 24 M_Im_type := am_met (plainFor_of_name (by decide)) s_Im_type
/-! ## ImposeSheets.scheme()I -/
theorem d_Im_scheme_0 : decode c_Im_scheme 0 = .ok (.aload_n 0, 1) := by decide +kernel
theorem d_Im_scheme_1 : decode c_Im_scheme 1 = .ok (.getfield 21, 3) := by decide +kernel
theorem d_Im_scheme_4 : decode c_Im_scheme 4 = .ok (.aload_n 0, 1) := by decide +kernel
theorem d_Im_scheme_5 : decode c_Im_scheme 5 = .ok (.getfield 59, 3) := by decide +kernel
theorem d_Im_scheme_8 : decode c_Im_scheme 8 = .ok (.invokevirtual 66, 3) := by decide +kernel
theorem d_Im_scheme_11 : decode c_Im_scheme 11 = .ok (.istore_n 1, 1) := by decide +kernel
theorem d_Im_scheme_12 : decode c_Im_scheme 12 = .ok (.aload_n 0, 1) := by decide +kernel
theorem d_Im_scheme_13 : decode c_Im_scheme 13 = .ok (.getfield 10, 3) := by decide +kernel
theorem d_Im_scheme_16 : decode c_Im_scheme 16 = .ok (.invokevirtual 70, 3) := by decide +kernel
theorem d_Im_scheme_19 : decode c_Im_scheme 19 = .ok (.iload_n 1, 1) := by decide +kernel
theorem d_Im_scheme_20 : decode c_Im_scheme 20 = .ok (.ifCond .le 21, 3) := by decide +kernel
theorem d_Im_scheme_23 : decode c_Im_scheme 23 = .ok (.aload_n 0, 1) := by decide +kernel
theorem d_Im_scheme_24 : decode c_Im_scheme 24 = .ok (.getfield 55, 3) := by decide +kernel
theorem d_Im_scheme_27 : decode c_Im_scheme 27 = .ok (.astore_n 2, 1) := by decide +kernel
theorem d_Im_scheme_28 : decode c_Im_scheme 28 = .ok (.aload_n 0, 1) := by decide +kernel
theorem d_Im_scheme_29 : decode c_Im_scheme 29 = .ok (.aload_n 0, 1) := by decide +kernel
theorem d_Im_scheme_30 : decode c_Im_scheme 30 = .ok (.getfield 59, 3) := by decide +kernel
theorem d_Im_scheme_33 : decode c_Im_scheme 33 = .ok (.putfield 55, 3) := by decide +kernel
theorem d_Im_scheme_36 : decode c_Im_scheme 36 = .ok (.aload_n 0, 1) := by decide +kernel
theorem d_Im_scheme_37 : decode c_Im_scheme 37 = .ok (.aload_n 2, 1) := by decide +kernel
theorem d_Im_scheme_38 : decode c_Im_scheme 38 = .ok (.putfield 59, 3) := by decide +kernel
theorem d_Im_scheme_41 : decode c_Im_scheme 41 = .ok (.iload_n 1, 1) := by decide +kernel
theorem d_Im_scheme_42 : decode c_Im_scheme 42 = .ok (.ireturn, 1) := by decide +kernel
def t_Im_scheme : Nat → am_A := fun pc => cond (Nat.ble 23 pc) (cond (Nat.ble 33 pc) (cond (Nat.ble 38 pc) (cond (Nat.ble 41 pc) (cond (Nat.ble 42 pc) (cond (Nat.beq pc 42) (am_iret) am_stuck) (cond (Nat.beq pc 41) (am_iload 1 42) am_stuck)) (cond (Nat.beq pc 38) (am_putR 0 6 41) am_stuck)) (cond (Nat.ble 36 pc) (cond (Nat.ble 37 pc) (cond (Nat.beq pc 37) (am_aload 2 38) am_stuck) (cond (Nat.beq pc 36) (am_aload 0 37) am_stuck)) (cond (Nat.beq pc 33) (am_putR 0 5 36) am_stuck))) (cond (Nat.ble 28 pc) (cond (Nat.ble 29 pc) (cond (Nat.ble 30 pc) (cond (Nat.beq pc 30) (am_get 0 6 33) am_stuck) (cond (Nat.beq pc 29) (am_aload 0 30) am_stuck)) (cond (Nat.beq pc 28) (am_aload 0 29) am_stuck)) (cond (Nat.ble 24 pc) (cond (Nat.ble 27 pc) (cond (Nat.beq pc 27) (am_astore 2 28) am_stuck) (cond (Nat.beq pc 24) (am_get 0 5 27) am_stuck)) (cond (Nat.beq pc 23) (am_aload 0 24) am_stuck)))) (cond (Nat.ble 11 pc) (cond (Nat.ble 16 pc) (cond (Nat.ble 19 pc) (cond (Nat.ble 20 pc) (cond (Nat.beq pc 20) (am_if (fun x => x ≤ 0) 41 23) am_stuck) (cond (Nat.beq pc 19) (am_iload 1 20) am_stuck)) (cond (Nat.beq pc 16) (am_callV M_Ta_empty 1 0 19) am_stuck)) (cond (Nat.ble 12 pc) (cond (Nat.ble 13 pc) (cond (Nat.beq pc 13) (am_get 0 0 16) am_stuck) (cond (Nat.beq pc 12) (am_aload 0 13) am_stuck)) (cond (Nat.beq pc 11) (am_istore 1 12) am_stuck))) (cond (Nat.ble 4 pc) (cond (Nat.ble 5 pc) (cond (Nat.ble 8 pc) (cond (Nat.beq pc 8) (am_callV M_Re_readInto 2 1 11) am_stuck) (cond (Nat.beq pc 5) (am_get 0 6 8) am_stuck)) (cond (Nat.beq pc 4) (am_aload 0 5) am_stuck)) (cond (Nat.ble 1 pc) (cond (Nat.beq pc 1) (am_get 0 1 4) am_stuck) (cond (Nat.beq pc 0) (am_aload 0 1) am_stuck))))
theorem s_Im_scheme : ∀ pc, am_Snd am_En c_Im_scheme 3 y_Im_scheme.cls 6 137 pc (t_Im_scheme pc) := fun pc => am_node (am_node (am_node (am_node (am_node (am_leaf (am_s_iret d_Im_scheme_42)) (am_leaf (am_s_iload_n 1 d_Im_scheme_41 rfl))) (am_leaf (am_s_putR (ci := 0) (k := 6) (C := nR_Im) (D := "ImposeSheets$Scheme") (T := nT_Im) (N := 7) (tf := nY_Im) rfl nG_Im nO_Im nN_Im (by decide) w_272 rfl rfl d_Im_scheme_38))) (am_node (am_node (am_leaf (am_s_aload_n 2 d_Im_scheme_37 rfl)) (am_leaf (am_s_aload_n 0 d_Im_scheme_36 rfl))) (am_leaf (am_s_putR (ci := 0) (k := 5) (C := nR_Im) (D := "ImposeSheets$Scheme") (T := nT_Im) (N := 7) (tf := nY_Im) rfl nG_Im nO_Im nN_Im (by decide) w_271 rfl rfl d_Im_scheme_33)))) (am_node (am_node (am_node (am_leaf (am_s_get (ci := 0) (k := 6) (C := nR_Im) (T := nT_Im) (N := 7) rfl nG_Im (by decide) w_272 d_Im_scheme_30)) (am_leaf (am_s_aload_n 0 d_Im_scheme_29 rfl))) (am_leaf (am_s_aload_n 0 d_Im_scheme_28 rfl))) (am_node (am_node (am_leaf (am_s_astore_n 2 d_Im_scheme_27 rfl (by decide))) (am_leaf (am_s_get (ci := 0) (k := 5) (C := nR_Im) (T := nT_Im) (N := 7) rfl nG_Im (by decide) w_271 d_Im_scheme_24))) (am_leaf (am_s_aload_n 0 d_Im_scheme_23 rfl))))) (am_node (am_node (am_node (am_node (am_leaf (am_s_if_le 41 d_Im_scheme_20 (by decide))) (am_leaf (am_s_iload_n 1 d_Im_scheme_19 rfl))) (am_leaf (am_s_callV (ci := 1) (T := nT_Ta) (N := 2) (fun _ _ _ h => h) rfl m_Ta_empty (by decide) (by decide) w_419 w_61 w_416 w_417 w_418 (by decide +kernel) d_Im_scheme_16))) (am_node (am_node (am_leaf (am_s_get (ci := 0) (k := 0) (C := nR_Im) (T := nT_Im) (N := 7) rfl nG_Im (by decide) w_266 d_Im_scheme_13)) (am_leaf (am_s_aload_n 0 d_Im_scheme_12 rfl))) (am_leaf (am_s_istore_n 1 d_Im_scheme_11 rfl (by decide))))) (am_node (am_node (am_node (am_leaf (am_s_callV (ci := 2) (T := nT_Re) (N := 5) (fun _ _ _ h => h) rfl m_Re_readInto (by decide) (by decide) w_303 w_62 w_300 w_301 w_302 (by decide +kernel) d_Im_scheme_8)) (am_leaf (am_s_get (ci := 0) (k := 6) (C := nR_Im) (T := nT_Im) (N := 7) rfl nG_Im (by decide) w_272 d_Im_scheme_5))) (am_leaf (am_s_aload_n 0 d_Im_scheme_4 rfl))) (am_node (am_leaf (am_s_get (ci := 0) (k := 1) (C := nR_Im) (T := nT_Im) (N := 7) rfl nG_Im (by decide) w_267 d_Im_scheme_1)) (am_leaf (am_s_aload_n 0 d_Im_scheme_0 rfl)))))
def M_Im_scheme : am_M := am_Mof t_Im_scheme 3 (some .int)
theorem m_Im_scheme : am_Met y_Im_scheme c_Im_scheme 3 (some .int) 6 137 M_Im_scheme := am_met (plainFor_of_name (by decide)) s_Im_scheme
/-! ## ImposeSheets.broken()I -/
theorem d_Im_broken_0 : decode c_Im_broken 0 = .ok (.aload_n 0, 1) := by decide +kernel
theorem d_Im_broken_1 : decode c_Im_broken 1 = .ok (.getfield 55, 3) := by decide +kernel
theorem d_Im_broken_4 : decode c_Im_broken 4 = .ok (.aload_n 0, 1) := by decide +kernel
theorem d_Im_broken_5 : decode c_Im_broken 5 = .ok (.getfield 25, 3) := by decide +kernel
theorem d_Im_broken_8 : decode c_Im_broken 8 = .ok (.iconst 1, 1) := by decide +kernel
theorem d_Im_broken_9 : decode c_Im_broken 9 = .ok (.iaload, 1) := by decide +kernel
theorem d_Im_broken_10 : decode c_Im_broken 10 = .ok (.invokevirtual 111, 3) := by decide +kernel
theorem d_Im_broken_13 : decode c_Im_broken 13 = .ok (.ireturn, 1) := by decide +kernel
def t_Im_broken : Nat → am_A := fun pc => cond (Nat.ble 8 pc) (cond (Nat.ble 10 pc) (cond (Nat.ble 13 pc) (cond (Nat.beq pc 13) (am_iret) am_stuck) (cond (Nat.beq pc 10) (am_callV M_Sc_firstBroken 6 1 13) am_stuck)) (cond (Nat.ble 9 pc) (cond (Nat.beq pc 9) (am_iald 10) am_stuck) (cond (Nat.beq pc 8) (am_push (.int 1) 9) am_stuck))) (cond (Nat.ble 4 pc) (cond (Nat.ble 5 pc) (cond (Nat.beq pc 5) (am_get 0 2 8) am_stuck) (cond (Nat.beq pc 4) (am_aload 0 5) am_stuck)) (cond (Nat.ble 1 pc) (cond (Nat.beq pc 1) (am_get 0 5 4) am_stuck) (cond (Nat.beq pc 0) (am_aload 0 1) am_stuck)))
theorem s_Im_broken : ∀ pc, am_Snd am_En c_Im_broken 1 y_Im_broken.cls 5 116 pc (t_Im_broken pc) := fun pc => am_node (am_node (am_node (am_leaf (am_s_iret d_Im_broken_13)) (am_leaf (am_s_callV (ci := 6) (T := nT_Sc) (N := 8) (fun _ _ _ h => h) rfl m_Sc_firstBroken (by decide) (by decide) w_427 w_67 w_424 w_425 w_426 (by decide +kernel) d_Im_broken_10))) (am_node (am_leaf (am_s_iald d_Im_broken_9)) (am_leaf (am_s_iconst d_Im_broken_8 (by decide))))) (am_node (am_node (am_leaf (am_s_get (ci := 0) (k := 2) (C := nR_Im) (T := nT_Im) (N := 7) rfl nG_Im (by decide) w_268 d_Im_broken_5)) (am_leaf (am_s_aload_n 0 d_Im_broken_4 rfl))) (am_node (am_leaf (am_s_get (ci := 0) (k := 5) (C := nR_Im) (T := nT_Im) (N := 7) rfl nG_Im (by decide) w_271 d_Im_broken_1)) (am_leaf (am_s_aload_n 0 d_Im_broken_0 rfl))))
def M_Im_broken : am_M := am_Mof t_Im_broken 1 (some .int)
theorem m_Im_broken : am_Met y_Im_broken c_Im_broken 1 (some .int) 5 116 M_Im_broken := am_met (plainFor_of_name (by decide)) s_Im_broken
/-! ## ImposeSheets.clear()V -/
theorem d_Im_clear_0 : decode c_Im_clear 0 = .ok (.aload_n 0, 1) := by decide +kernel
theorem d_Im_clear_1 : decode c_Im_clear 1 = .ok (.getfield 48, 3) := by decide +kernel
theorem d_Im_clear_4 : decode c_Im_clear 4 = .ok (.invokevirtual 174, 3) := by decide +kernel
theorem d_Im_clear_7 : decode c_Im_clear 7 = .ok (.return_, 1) := by decide +kernel
def t_Im_clear : Nat → am_A := fun pc => cond (Nat.ble 4 pc) (cond (Nat.ble 7 pc) (cond (Nat.beq pc 7) (am_vret) am_stuck) (cond (Nat.beq pc 4) (am_callV M_Sh_forget 5 0 7) am_stuck)) (cond (Nat.ble 1 pc) (cond (Nat.beq pc 1) (am_get 0 4 4) am_stuck) (cond (Nat.beq pc 0) (am_aload 0 1) am_stuck))
theorem s_Im_clear : ∀ pc, am_Snd am_En c_Im_clear 1 y_Im_clear.cls 1 20 pc (t_Im_clear pc) := fun pc => am_node (am_node (am_leaf (am_s_vret d_Im_clear_7)) (am_leaf (am_s_callV (ci := 5) (T := nT_Sh) (N := 12) (fun _ _ _ h => h) rfl m_Sh_forget (by decide) (by decide) w_456 w_66 w_453 w_454 w_455 (by decide +kernel) d_Im_clear_4))) (am_node (am_leaf (am_s_get (ci := 0) (k := 4) (C := nR_Im) (T := nT_Im) (N := 7) rfl nG_Im (by decide) w_270 d_Im_clear_1)) (am_leaf (am_s_aload_n 0 d_Im_clear_0 rfl)))
def M_Im_clear : am_M := am_Mof t_Im_clear 1 none
theorem m_Im_clear : am_Met y_Im_clear c_Im_clear 1 none 1 20 M_Im_clear := am_met (plainFor_of_name (by decide)) s_Im_clear
