/-! ## java/lang/Math.floorDiv(II)I -/
theorem d_Ma_floorDiv_0 : decode c_Ma_floorDiv 0 = .ok (.iload_n 0, 1) := by decide +kernel
theorem d_Ma_floorDiv_1 : decode c_Ma_floorDiv 1 = .ok (.iload_n 1, 1) := by decide +kernel
theorem d_Ma_floorDiv_2 : decode c_Ma_floorDiv 2 = .ok (.idiv, 1) := by decide +kernel
theorem d_Ma_floorDiv_3 : decode c_Ma_floorDiv 3 = .ok (.istore_n 2, 1) := by decide +kernel
theorem d_Ma_floorDiv_4 : decode c_Ma_floorDiv 4 = .ok (.iload_n 0, 1) := by decide +kernel
theorem d_Ma_floorDiv_5 : decode c_Ma_floorDiv 5 = .ok (.iload_n 1, 1) := by decide +kernel
theorem d_Ma_floorDiv_6 : decode c_Ma_floorDiv 6 = .ok (.ixor, 1) := by decide +kernel
theorem d_Ma_floorDiv_7 : decode c_Ma_floorDiv 7 = .ok (.ifCond .ge 14, 3) := by decide +kernel
theorem d_Ma_floorDiv_10 : decode c_Ma_floorDiv 10 = .ok (.iload_n 2, 1) := by decide +kernel
theorem d_Ma_floorDiv_11 : decode c_Ma_floorDiv 11 = .ok (.iload_n 1, 1) := by decide +kernel
theorem d_Ma_floorDiv_12 : decode c_Ma_floorDiv 12 = .ok (.imul, 1) := by decide +kernel
theorem d_Ma_floorDiv_13 : decode c_Ma_floorDiv 13 = .ok (.iload_n 0, 1) := by decide +kernel
theorem d_Ma_floorDiv_14 : decode c_Ma_floorDiv 14 = .ok (.if_icmp .eq 7, 3) := by decide +kernel
theorem d_Ma_floorDiv_17 : decode c_Ma_floorDiv 17 = .ok (.iload_n 2, 1) := by decide +kernel
theorem d_Ma_floorDiv_18 : decode c_Ma_floorDiv 18 = .ok (.iconst 1, 1) := by decide +kernel
theorem d_Ma_floorDiv_19 : decode c_Ma_floorDiv 19 = .ok (.isub, 1) := by decide +kernel
theorem d_Ma_floorDiv_20 : decode c_Ma_floorDiv 20 = .ok (.ireturn, 1) := by decide +kernel
theorem d_Ma_floorDiv_21 : decode c_Ma_floorDiv 21 = .ok (.iload_n 2, 1) := by decide +kernel
theorem d_Ma_floorDiv_22 : decode c_Ma_floorDiv 22 = .ok (.ireturn, 1) := by decide +kernel
def t_Ma_floorDiv : Nat → am_A := fun pc => cond (Nat.ble 11 pc) (cond (Nat.ble 18 pc) (cond (Nat.ble 20 pc) (cond (Nat.ble 21 pc) (cond (Nat.ble 22 pc) (cond (Nat.beq pc 22) (am_iret) am_stuck) (cond (Nat.beq pc 21) (am_iload 2 22) am_stuck)) (cond (Nat.beq pc 20) (am_iret) am_stuck)) (cond (Nat.ble 19 pc) (cond (Nat.beq pc 19) (am_i2 (fun x y => x - y) 20) am_stuck) (cond (Nat.beq pc 18) (am_push (.int 1) 19) am_stuck))) (cond (Nat.ble 13 pc) (cond (Nat.ble 14 pc) (cond (Nat.ble 17 pc) (cond (Nat.beq pc 17) (am_iload 2 18) am_stuck) (cond (Nat.beq pc 14) (am_if2 (fun x y => x = y) 21 17) am_stuck)) (cond (Nat.beq pc 13) (am_iload 0 14) am_stuck)) (cond (Nat.ble 12 pc) (cond (Nat.beq pc 12) (am_i2 (fun x y => x * y) 13) am_stuck) (cond (Nat.beq pc 11) (am_iload 1 12) am_stuck)))) (cond (Nat.ble 4 pc) (cond (Nat.ble 6 pc) (cond (Nat.ble 7 pc) (cond (Nat.ble 10 pc) (cond (Nat.beq pc 10) (am_iload 2 11) am_stuck) (cond (Nat.beq pc 7) (am_if (fun x => 0 ≤ x) 21 10) am_stuck)) (cond (Nat.beq pc 6) (am_i2 (fun x y => x ^^^ y) 7) am_stuck)) (cond (Nat.ble 5 pc) (cond (Nat.beq pc 5) (am_iload 1 6) am_stuck) (cond (Nat.beq pc 4) (am_iload 0 5) am_stuck))) (cond (Nat.ble 2 pc) (cond (Nat.ble 3 pc) (cond (Nat.beq pc 3) (am_istore 2 4) am_stuck) (cond (Nat.beq pc 2) (am_idiv (fun x y => x / y) 3) am_stuck)) (cond (Nat.ble 1 pc) (cond (Nat.beq pc 1) (am_iload 1 2) am_stuck) (cond (Nat.beq pc 0) (am_iload 0 1) am_stuck))))
theorem s_Ma_floorDiv : ∀ pc, am_Snd am_En c_Ma_floorDiv 3 y_Ma_floorDiv.cls 0 0 pc (t_Ma_floorDiv pc) := fun pc => am_node (am_node (am_node (am_node (am_node (am_leaf (am_s_iret d_Ma_floorDiv_22)) (am_leaf (am_s_iload_n 2 d_Ma_floorDiv_21 rfl))) (am_leaf (am_s_iret d_Ma_floorDiv_20))) (am_node (am_leaf (am_s_isub d_Ma_floorDiv_19)) (am_leaf (am_s_iconst d_Ma_floorDiv_18 (by decide))))) (am_node (am_node (am_node (am_leaf (am_s_iload_n 2 d_Ma_floorDiv_17 rfl)) (am_leaf (am_s_icmp_eq 21 d_Ma_floorDiv_14 (by decide)))) (am_leaf (am_s_iload_n 0 d_Ma_floorDiv_13 rfl))) (am_node (am_leaf (am_s_imul d_Ma_floorDiv_12)) (am_leaf (am_s_iload_n 1 d_Ma_floorDiv_11 rfl))))) (am_node (am_node (am_node (am_node (am_leaf (am_s_iload_n 2 d_Ma_floorDiv_10 rfl)) (am_leaf (am_s_if_ge 21 d_Ma_floorDiv_7 (by decide)))) (am_leaf (am_s_ixor d_Ma_floorDiv_6))) (am_node (am_leaf (am_s_iload_n 1 d_Ma_floorDiv_5 rfl)) (am_leaf (am_s_iload_n 0 d_Ma_floorDiv_4 rfl)))) (am_node (am_node (am_leaf (am_s_istore_n 2 d_Ma_floorDiv_3 rfl (by decide))) (am_leaf (am_s_idiv d_Ma_floorDiv_2))) (am_node (am_leaf (am_s_iload_n 1 d_Ma_floorDiv_1 rfl)) (am_leaf (am_s_iload_n 0 d_Ma_floorDiv_0 rfl)))))
def M_Ma_floorDiv : am_M := am_Mof t_Ma_floorDiv 3 (some .int)
theorem m_Ma_floorDiv : am_Met y_Ma_floorDiv c_Ma_floorDiv 3 (some .int) 0 0 M_Ma_floorDiv := am_met (by decide +kernel) s_Ma_floorDiv
/-! ## ImposeSheets.downward(II)I -/
theorem d_Im_downward_0 : decode c_Im_downward 0 = .ok (.iload_n 1, 1) := by decide +kernel
theorem d_Im_downward_1 : decode c_Im_downward 1 = .ok (.ifCond .le 11, 3) := by decide +kernel
theorem d_Im_downward_4 : decode c_Im_downward 4 = .ok (.iload_n 0, 1) := by decide +kernel
theorem d_Im_downward_5 : decode c_Im_downward 5 = .ok (.iload_n 1, 1) := by decide +kernel
theorem d_Im_downward_6 : decode c_Im_downward 6 = .ok (.invokestatic 195, 3) := by decide +kernel
theorem d_Im_downward_9 : decode c_Im_downward 9 = .ok (.goto 4, 3) := by decide +kernel
theorem d_Im_downward_12 : decode c_Im_downward 12 = .ok (.iconst 0, 1) := by decide +kernel
theorem d_Im_downward_13 : decode c_Im_downward 13 = .ok (.ireturn, 1) := by decide +kernel
def t_Im_downward : Nat → am_A := fun pc => cond (Nat.ble 6 pc) (cond (Nat.ble 12 pc) (cond (Nat.ble 13 pc) (cond (Nat.beq pc 13) (am_iret) am_stuck) (cond (Nat.beq pc 12) (am_push (.int 0) 13) am_stuck)) (cond (Nat.ble 9 pc) (cond (Nat.beq pc 9) (am_goto 13) am_stuck) (cond (Nat.beq pc 6) (am_callS M_Ma_floorDiv 2 9) am_stuck))) (cond (Nat.ble 4 pc) (cond (Nat.ble 5 pc) (cond (Nat.beq pc 5) (am_iload 1 6) am_stuck) (cond (Nat.beq pc 4) (am_iload 0 5) am_stuck)) (cond (Nat.ble 1 pc) (cond (Nat.beq pc 1) (am_if (fun x => x ≤ 0) 12 4) am_stuck) (cond (Nat.beq pc 0) (am_iload 1 1) am_stuck)))
theorem s_Im_downward : ∀ pc, am_Snd am_En c_Im_downward 2 y_Im_downward.cls 1 22 pc (t_Im_downward pc) := fun pc => am_node (am_node (am_node (am_leaf (am_s_iret d_Im_downward_13)) (am_leaf (am_s_iconst d_Im_downward_12 (by decide)))) (am_node (am_leaf (am_s_goto 13 d_Im_downward_9 (by decide))) (am_leaf (am_s_callS (fun _ _ _ h => h) m_Ma_floorDiv (by decide) (by decide) w_332 w_69 w_330 w_331 (by decide +kernel) d_Im_downward_6)))) (am_node (am_node (am_leaf (am_s_iload_n 1 d_Im_downward_5 rfl)) (am_leaf (am_s_iload_n 0 d_Im_downward_4 rfl))) (am_node (am_leaf (am_s_if_le 12 d_Im_downward_1 (by decide))) (am_leaf (am_s_iload_n 1 d_Im_downward_0 rfl))))
def M_Im_downward : am_M := am_Mof t_Im_downward 2 (some .int)
theorem m_Im_downward : am_Met y_Im_downward c_Im_downward 2 (some .int) 1 22 M_Im_downward := am_met (plainFor_of_name (by decide)) s_Im_downward
/-! ## java/lang/Math.min(II)I -/
theorem d_Ma_min_0 : decode c_Ma_min 0 = .ok (.iload_n 0, 1) := by decide +kernel
theorem d_Ma_min_1 : decode c_Ma_min 1 = .ok (.iload_n 1, 1) := by decide +kernel
theorem d_Ma_min_2 : decode c_Ma_min 2 = .ok (.if_icmp .gt 7, 3) := by decide +kernel
theorem d_Ma_min_5 : decode c_Ma_min 5 = .ok (.iload_n 0, 1) := by decide +kernel
theorem d_Ma_min_6 : decode c_Ma_min 6 = .ok (.goto 4, 3) := by decide +kernel
theorem d_Ma_min_9 : decode c_Ma_min 9 = .ok (.iload_n 1, 1) := by decide +kernel
theorem d_Ma_min_10 : decode c_Ma_min 10 = .ok (.ireturn, 1) := by decide +kernel
def t_Ma_min : Nat → am_A := fun pc => cond (Nat.ble 5 pc) (cond (Nat.ble 9 pc) (cond (Nat.ble 10 pc) (cond (Nat.beq pc 10) (am_iret) am_stuck) (cond (Nat.beq pc 9) (am_iload 1 10) am_stuck)) (cond (Nat.ble 6 pc) (cond (Nat.beq pc 6) (am_goto 10) am_stuck) (cond (Nat.beq pc 5) (am_iload 0 6) am_stuck))) (cond (Nat.ble 1 pc) (cond (Nat.ble 2 pc) (cond (Nat.beq pc 2) (am_if2 (fun x y => y < x) 9 5) am_stuck) (cond (Nat.beq pc 1) (am_iload 1 2) am_stuck)) (cond (Nat.beq pc 0) (am_iload 0 1) am_stuck))
theorem s_Ma_min : ∀ pc, am_Snd am_En c_Ma_min 2 y_Ma_min.cls 0 0 pc (t_Ma_min pc) := fun pc => am_node (am_node (am_node (am_leaf (am_s_iret d_Ma_min_10)) (am_leaf (am_s_iload_n 1 d_Ma_min_9 rfl))) (am_node (am_leaf (am_s_goto 10 d_Ma_min_6 (by decide))) (am_leaf (am_s_iload_n 0 d_Ma_min_5 rfl)))) (am_node (am_node (am_leaf (am_s_icmp_gt 9 d_Ma_min_2 (by decide))) (am_leaf (am_s_iload_n 1 d_Ma_min_1 rfl))) (am_leaf (am_s_iload_n 0 d_Ma_min_0 rfl)))
def M_Ma_min : am_M := am_Mof t_Ma_min 2 (some .int)
theorem m_Ma_min : am_Met y_Ma_min c_Ma_min 2 (some .int) 0 0 M_Ma_min := am_met (by decide +kernel) s_Ma_min
/-! ## ImposeSheets.upward(II)I -/
theorem d_Im_upward_0 : decode c_Im_upward 0 = .ok (.iload_n 1, 1) := by decide +kernel
theorem d_Im_upward_1 : decode c_Im_upward 1 = .ok (.ifCond .le 13, 3) := by decide +kernel
theorem d_Im_upward_4 : decode c_Im_upward 4 = .ok (.iload_n 0, 1) := by decide +kernel
theorem d_Im_upward_5 : decode c_Im_upward 5 = .ok (.iload_n 1, 1) := by decide +kernel
theorem d_Im_upward_6 : decode c_Im_upward 6 = .ok (.iadd, 1) := by decide +kernel
theorem d_Im_upward_7 : decode c_Im_upward 7 = .ok (.iconst 1, 1) := by decide +kernel
theorem d_Im_upward_8 : decode c_Im_upward 8 = .ok (.isub, 1) := by decide +kernel
theorem d_Im_upward_9 : decode c_Im_upward 9 = .ok (.iload_n 1, 1) := by decide +kernel
theorem d_Im_upward_10 : decode c_Im_upward 10 = .ok (.idiv, 1) := by decide +kernel
theorem d_Im_upward_11 : decode c_Im_upward 11 = .ok (.goto 4, 3) := by decide +kernel
theorem d_Im_upward_14 : decode c_Im_upward 14 = .ok (.iconst 0, 1) := by decide +kernel
theorem d_Im_upward_15 : decode c_Im_upward 15 = .ok (.ireturn, 1) := by decide +kernel
def t_Im_upward : Nat → am_A := fun pc => cond (Nat.ble 8 pc) (cond (Nat.ble 11 pc) (cond (Nat.ble 14 pc) (cond (Nat.ble 15 pc) (cond (Nat.beq pc 15) (am_iret) am_stuck) (cond (Nat.beq pc 14) (am_push (.int 0) 15) am_stuck)) (cond (Nat.beq pc 11) (am_goto 15) am_stuck)) (cond (Nat.ble 9 pc) (cond (Nat.ble 10 pc) (cond (Nat.beq pc 10) (am_idiv (fun x y => x / y) 11) am_stuck) (cond (Nat.beq pc 9) (am_iload 1 10) am_stuck)) (cond (Nat.beq pc 8) (am_i2 (fun x y => x - y) 9) am_stuck))) (cond (Nat.ble 5 pc) (cond (Nat.ble 6 pc) (cond (Nat.ble 7 pc) (cond (Nat.beq pc 7) (am_push (.int 1) 8) am_stuck) (cond (Nat.beq pc 6) (am_i2 (fun x y => x + y) 7) am_stuck)) (cond (Nat.beq pc 5) (am_iload 1 6) am_stuck)) (cond (Nat.ble 1 pc) (cond (Nat.ble 4 pc) (cond (Nat.beq pc 4) (am_iload 0 5) am_stuck) (cond (Nat.beq pc 1) (am_if (fun x => x ≤ 0) 14 4) am_stuck)) (cond (Nat.beq pc 0) (am_iload 1 1) am_stuck)))
theorem s_Im_upward : ∀ pc, am_Snd am_En c_Im_upward 2 y_Im_upward.cls 0 0 pc (t_Im_upward pc) := fun pc => am_node (am_node (am_node (am_node (am_leaf (am_s_iret d_Im_upward_15)) (am_leaf (am_s_iconst d_Im_upward_14 (by decide)))) (am_leaf (am_s_goto 15 d_Im_upward_11 (by decide)))) (am_node (am_node (am_leaf (am_s_idiv d_Im_upward_10)) (am_leaf (am_s_iload_n 1 d_Im_upward_9 rfl))) (am_leaf (am_s_isub d_Im_upward_8)))) (am_node (am_node (am_node (am_leaf (am_s_iconst d_Im_upward_7 (by decide))) (am_leaf (am_s_iadd d_Im_upward_6))) (am_leaf (am_s_iload_n 1 d_Im_upward_5 rfl))) (am_node (am_node (am_leaf (am_s_iload_n 0 d_Im_upward_4 rfl)) (am_leaf (am_s_if_le 14 d_Im_upward_1 (by decide)))) (am_leaf (am_s_iload_n 1 d_Im_upward_0 rfl))))
def M_Im_upward : am_M := am_Mof t_Im_upward 2 (some .int)
theorem m_Im_upward : am_Met y_Im_upward c_Im_upward 2 (some .int) 0 0 M_Im_upward := am_met (plainFor_of_name (by decide)) s_Im_upward
/-! ## java/lang/Math.max(II)I -/
theorem d_Ma_max_0 : decode c_Ma_max 0 = .ok (.iload_n 0, 1) := by decide +kernel
theorem d_Ma_max_1 : decode c_Ma_max 1 = .ok (.iload_n 1, 1) := by decide +kernel
theorem d_Ma_max_2 : decode c_Ma_max 2 = .ok (.if_icmp .lt 7, 3) := by decide +kernel
theorem d_Ma_max_5 : decode c_Ma_max 5 = .ok (.iload_n 0, 1) := by decide +kernel
theorem d_Ma_max_6 : decode c_Ma_max 6 = .ok (.goto 4, 3) := by decide +kernel
theorem d_Ma_max_9 : decode c_Ma_max 9 = .ok (.iload_n 1, 1) := by decide +kernel
theorem d_Ma_max_10 : decode c_Ma_max 10 = .ok (.ireturn, 1) := by decide +kernel
def t_Ma_max : Nat → am_A := fun pc => cond (Nat.ble 5 pc) (cond (Nat.ble 9 pc) (cond (Nat.ble 10 pc) (cond (Nat.beq pc 10) (am_iret) am_stuck) (cond (Nat.beq pc 9) (am_iload 1 10) am_stuck)) (cond (Nat.ble 6 pc) (cond (Nat.beq pc 6) (am_goto 10) am_stuck) (cond (Nat.beq pc 5) (am_iload 0 6) am_stuck))) (cond (Nat.ble 1 pc) (cond (Nat.ble 2 pc) (cond (Nat.beq pc 2) (am_if2 (fun x y => x < y) 9 5) am_stuck) (cond (Nat.beq pc 1) (am_iload 1 2) am_stuck)) (cond (Nat.beq pc 0) (am_iload 0 1) am_stuck))
theorem s_Ma_max : ∀ pc, am_Snd am_En c_Ma_max 2 y_Ma_max.cls 0 0 pc (t_Ma_max pc) := fun pc => am_node (am_node (am_node (am_leaf (am_s_iret d_Ma_max_10)) (am_leaf (am_s_iload_n 1 d_Ma_max_9 rfl))) (am_node (am_leaf (am_s_goto 10 d_Ma_max_6 (by decide))) (am_leaf (am_s_iload_n 0 d_Ma_max_5 rfl)))) (am_node (am_node (am_leaf (am_s_icmp_lt 9 d_Ma_max_2 (by decide))) (am_leaf (am_s_iload_n 1 d_Ma_max_1 rfl))) (am_leaf (am_s_iload_n 0 d_Ma_max_0 rfl)))
def M_Ma_max : am_M := am_Mof t_Ma_max 2 (some .int)
theorem m_Ma_max : am_Met y_Ma_max c_Ma_max 2 (some .int) 0 0 M_Ma_max := am_met (by decide +kernel) s_Ma_max
/-! ## java/util/Arrays.fill([II)V -/
theorem d_Ar_fill_0 : decode c_Ar_fill 0 = .ok (.iconst 0, 1) := by decide +kernel
theorem d_Ar_fill_1 : decode c_Ar_fill 1 = .ok (.istore_n 2, 1) := by decide +kernel
theorem d_Ar_fill_2 : decode c_Ar_fill 2 = .ok (.aload_n 0, 1) := by decide +kernel
theorem d_Ar_fill_3 : decode c_Ar_fill 3 = .ok (.arraylength, 1) := by decide +kernel
theorem d_Ar_fill_4 : decode c_Ar_fill 4 = .ok (.istore_n 3, 1) := by decide +kernel
theorem d_Ar_fill_5 : decode c_Ar_fill 5 = .ok (.iload_n 2, 1) := by decide +kernel
theorem d_Ar_fill_6 : decode c_Ar_fill 6 = .ok (.iload_n 3, 1) := by decide +kernel
theorem d_Ar_fill_7 : decode c_Ar_fill 7 = .ok (.if_icmp .ge 13, 3) := by decide +kernel
theorem d_Ar_fill_10 : decode c_Ar_fill 10 = .ok (.aload_n 0, 1) := by decide +kernel
theorem d_Ar_fill_11 : decode c_Ar_fill 11 = .ok (.iload_n 2, 1) := by decide +kernel
theorem d_Ar_fill_12 : decode c_Ar_fill 12 = .ok (.iload_n 1, 1) := by decide +kernel
theorem d_Ar_fill_13 : decode c_Ar_fill 13 = .ok (.iastore, 1) := by decide +kernel
theorem d_Ar_fill_14 : decode c_Ar_fill 14 = .ok (.iinc 2 1, 3) := by decide +kernel
theorem d_Ar_fill_17 : decode c_Ar_fill 17 = .ok (.goto (-12), 3) := by decide +kernel
theorem d_Ar_fill_20 : decode c_Ar_fill 20 = .ok (.return_, 1) := by decide +kernel
def t_Ar_fill : Nat → am_A := fun pc => cond (Nat.ble 7 pc) (cond (Nat.ble 13 pc) (cond (Nat.ble 17 pc) (cond (Nat.ble 20 pc) (cond (Nat.beq pc 20) (am_vret) am_stuck) (cond (Nat.beq pc 17) (am_goto 5) am_stuck)) (cond (Nat.ble 14 pc) (cond (Nat.beq pc 14) (am_iinc 2 (1) 17) am_stuck) (cond (Nat.beq pc 13) (am_iast 14) am_stuck))) (cond (Nat.ble 11 pc) (cond (Nat.ble 12 pc) (cond (Nat.beq pc 12) (am_iload 1 13) am_stuck) (cond (Nat.beq pc 11) (am_iload 2 12) am_stuck)) (cond (Nat.ble 10 pc) (cond (Nat.beq pc 10) (am_aload 0 11) am_stuck) (cond (Nat.beq pc 7) (am_if2 (fun x y => y ≤ x) 20 10) am_stuck)))) (cond (Nat.ble 3 pc) (cond (Nat.ble 5 pc) (cond (Nat.ble 6 pc) (cond (Nat.beq pc 6) (am_iload 3 7) am_stuck) (cond (Nat.beq pc 5) (am_iload 2 6) am_stuck)) (cond (Nat.ble 4 pc) (cond (Nat.beq pc 4) (am_istore 3 5) am_stuck) (cond (Nat.beq pc 3) (am_alen 4) am_stuck))) (cond (Nat.ble 1 pc) (cond (Nat.ble 2 pc) (cond (Nat.beq pc 2) (am_aload 0 3) am_stuck) (cond (Nat.beq pc 1) (am_istore 2 2) am_stuck)) (cond (Nat.beq pc 0) (am_push (.int 0) 1) am_stuck)))
theorem s_Ar_fill : ∀ pc, am_Snd am_En c_Ar_fill 4 y_Ar_fill.cls 0 0 pc (t_Ar_fill pc) := fun pc => am_node (am_node (am_node (am_node (am_leaf (am_s_vret d_Ar_fill_20)) (am_leaf (am_s_goto 5 d_Ar_fill_17 (by decide)))) (am_node (am_leaf (am_s_iinc d_Ar_fill_14 (by decide))) (am_leaf (am_s_iast d_Ar_fill_13)))) (am_node (am_node (am_leaf (am_s_iload_n 1 d_Ar_fill_12 rfl)) (am_leaf (am_s_iload_n 2 d_Ar_fill_11 rfl))) (am_node (am_leaf (am_s_aload_n 0 d_Ar_fill_10 rfl)) (am_leaf (am_s_icmp_ge 20 d_Ar_fill_7 (by decide)))))) (am_node (am_node (am_node (am_leaf (am_s_iload_n 3 d_Ar_fill_6 rfl)) (am_leaf (am_s_iload_n 2 d_Ar_fill_5 rfl))) (am_node (am_leaf (am_s_istore_n 3 d_Ar_fill_4 rfl (by decide))) (am_leaf (am_s_alen d_Ar_fill_3)))) (am_node (am_node (am_leaf (am_s_aload_n 0 d_Ar_fill_2 rfl)) (am_leaf (am_s_istore_n 2 d_Ar_fill_1 rfl (by decide)))) (am_leaf (am_s_iconst d_Ar_fill_0 (by decide)))))
def M_Ar_fill : am_M := am_Mof t_Ar_fill 4 none
theorem m_Ar_fill : am_Met y_Ar_fill c_Ar_fill 4 none 0 0 M_Ar_fill := am_met (by decide +kernel) s_Ar_fill
/-! ## java/lang/Integer.bitCount(I)I -/
theorem d_In_bitCount_0 : decode c_In_bitCount 0 = .ok (.iload_n 0, 1) := by decide +kernel
theorem d_In_bitCount_1 : decode c_In_bitCount 1 = .ok (.iload_n 0, 1) := by decide +kernel
theorem d_In_bitCount_2 : decode c_In_bitCount 2 = .ok (.iconst 1, 1) := by decide +kernel
theorem d_In_bitCount_3 : decode c_In_bitCount 3 = .ok (.iushr, 1) := by decide +kernel
theorem d_In_bitCount_4 : decode c_In_bitCount 4 = .ok (.ldc_w 265, 3) := by decide +kernel
theorem d_In_bitCount_7 : decode c_In_bitCount 7 = .ok (.iand, 1) := by decide +kernel
theorem d_In_bitCount_8 : decode c_In_bitCount 8 = .ok (.isub, 1) := by decide +kernel
theorem d_In_bitCount_9 : decode c_In_bitCount 9 = .ok (.istore_n 0, 1) := by decide +kernel
theorem d_In_bitCount_10 : decode c_In_bitCount 10 = .ok (.iload_n 0, 1) := by decide +kernel
theorem d_In_bitCount_11 : decode c_In_bitCount 11 = .ok (.ldc_w 266, 3) := by decide +kernel
theorem d_In_bitCount_14 : decode c_In_bitCount 14 = .ok (.iand, 1) := by decide +kernel
theorem d_In_bitCount_15 : decode c_In_bitCount 15 = .ok (.iload_n 0, 1) := by decide +kernel
theorem d_In_bitCount_16 : decode c_In_bitCount 16 = .ok (.iconst 2, 1) := by decide +kernel
theorem d_In_bitCount_17 : decode c_In_bitCount 17 = .ok (.iushr, 1) := by decide +kernel
theorem d_In_bitCount_18 : decode c_In_bitCount 18 = .ok (.ldc_w 266, 3) := by decide +kernel
theorem d_In_bitCount_21 : decode c_In_bitCount 21 = .ok (.iand, 1) := by decide +kernel
theorem d_In_bitCount_22 : decode c_In_bitCount 22 = .ok (.iadd, 1) := by decide +kernel
theorem d_In_bitCount_23 : decode c_In_bitCount 23 = .ok (.istore_n 0, 1) := by decide +kernel
theorem d_In_bitCount_24 : decode c_In_bitCount 24 = .ok (.iload_n 0, 1) := by decide +kernel
theorem d_In_bitCount_25 : decode c_In_bitCount 25 = .ok (.iload_n 0, 1) := by decide +kernel
theorem d_In_bitCount_26 : decode c_In_bitCount 26 = .ok (.iconst 4, 1) := by decide +kernel
theorem d_In_bitCount_27 : decode c_In_bitCount 27 = .ok (.iushr, 1) := by decide +kernel
theorem d_In_bitCount_28 : decode c_In_bitCount 28 = .ok (.iadd, 1) := by decide +kernel
theorem d_In_bitCount_29 : decode c_In_bitCount 29 = .ok (.ldc_w 267, 3) := by decide +kernel
theorem d_In_bitCount_32 : decode c_In_bitCount 32 = .ok (.iand, 1) := by decide +kernel
theorem d_In_bitCount_33 : decode c_In_bitCount 33 = .ok (.istore_n 0, 1) := by decide +kernel
theorem d_In_bitCount_34 : decode c_In_bitCount 34 = .ok (.iload_n 0, 1) := by decide +kernel
theorem d_In_bitCount_35 : decode c_In_bitCount 35 = .ok (.iload_n 0, 1) := by decide +kernel
theorem d_In_bitCount_36 : decode c_In_bitCount 36 = .ok (.bipush 8, 2) := by decide +kernel
theorem d_In_bitCount_38 : decode c_In_bitCount 38 = .ok (.iushr, 1) := by decide +kernel
theorem d_In_bitCount_39 : decode c_In_bitCount 39 = .ok (.iadd, 1) := by decide +kernel
theorem d_In_bitCount_40 : decode c_In_bitCount 40 = .ok (.istore_n 0, 1) := by decide +kernel
theorem d_In_bitCount_41 : decode c_In_bitCount 41 = .ok (.iload_n 0, 1) := by decide +kernel
theorem d_In_bitCount_42 : decode c_In_bitCount 42 = .ok (.iload_n 0, 1) := by decide +kernel
theorem d_In_bitCount_43 : decode c_In_bitCount 43 = .ok (.bipush 16, 2) := by decide +kernel
theorem d_In_bitCount_45 : decode c_In_bitCount 45 = .ok (.iushr, 1) := by decide +kernel
theorem d_In_bitCount_46 : decode c_In_bitCount 46 = .ok (.iadd, 1) := by decide +kernel
theorem d_In_bitCount_47 : decode c_In_bitCount 47 = .ok (.istore_n 0, 1) := by decide +kernel
theorem d_In_bitCount_48 : decode c_In_bitCount 48 = .ok (.iload_n 0, 1) := by decide +kernel
theorem d_In_bitCount_49 : decode c_In_bitCount 49 = .ok (.bipush 63, 2) := by decide +kernel
theorem d_In_bitCount_51 : decode c_In_bitCount 51 = .ok (.iand, 1) := by decide +kernel
theorem d_In_bitCount_52 : decode c_In_bitCount 52 = .ok (.ireturn, 1) := by decide +kernel
def t_In_bitCount : Nat → am_A := fun pc => cond (Nat.ble 27 pc) (cond (Nat.ble 40 pc) (cond (Nat.ble 46 pc) (cond (Nat.ble 49 pc) (cond (Nat.ble 51 pc) (cond (Nat.ble 52 pc) (cond (Nat.beq pc 52) (am_iret) am_stuck) (cond (Nat.beq pc 51) (am_i2 (fun x y => x &&& y) 52) am_stuck)) (cond (Nat.beq pc 49) (am_push (.int (63)) 51) am_stuck)) (cond (Nat.ble 47 pc) (cond (Nat.ble 48 pc) (cond (Nat.beq pc 48) (am_iload 0 49) am_stuck) (cond (Nat.beq pc 47) (am_istore 0 48) am_stuck)) (cond (Nat.beq pc 46) (am_i2 (fun x y => x + y) 47) am_stuck))) (cond (Nat.ble 42 pc) (cond (Nat.ble 43 pc) (cond (Nat.ble 45 pc) (cond (Nat.beq pc 45) (am_i2 (fun x y => (x.toUInt32 >>> (y.toUInt32 &&& Int32.toUInt32 31)).toInt32) 46) am_stuck) (cond (Nat.beq pc 43) (am_push (.int (16)) 45) am_stuck)) (cond (Nat.beq pc 42) (am_iload 0 43) am_stuck)) (cond (Nat.ble 41 pc) (cond (Nat.beq pc 41) (am_iload 0 42) am_stuck) (cond (Nat.beq pc 40) (am_istore 0 41) am_stuck)))) (cond (Nat.ble 34 pc) (cond (Nat.ble 36 pc) (cond (Nat.ble 38 pc) (cond (Nat.ble 39 pc) (cond (Nat.beq pc 39) (am_i2 (fun x y => x + y) 40) am_stuck) (cond (Nat.beq pc 38) (am_i2 (fun x y => (x.toUInt32 >>> (y.toUInt32 &&& Int32.toUInt32 31)).toInt32) 39) am_stuck)) (cond (Nat.beq pc 36) (am_push (.int (8)) 38) am_stuck)) (cond (Nat.ble 35 pc) (cond (Nat.beq pc 35) (am_iload 0 36) am_stuck) (cond (Nat.beq pc 34) (am_iload 0 35) am_stuck))) (cond (Nat.ble 29 pc) (cond (Nat.ble 32 pc) (cond (Nat.ble 33 pc) (cond (Nat.beq pc 33) (am_istore 0 34) am_stuck) (cond (Nat.beq pc 32) (am_i2 (fun x y => x &&& y) 33) am_stuck)) (cond (Nat.beq pc 29) (am_push (.int (252645135)) 32) am_stuck)) (cond (Nat.ble 28 pc) (cond (Nat.beq pc 28) (am_i2 (fun x y => x + y) 29) am_stuck) (cond (Nat.beq pc 27) (am_i2 (fun x y => (x.toUInt32 >>> (y.toUInt32 &&& Int32.toUInt32 31)).toInt32) 28) am_stuck))))) (cond (Nat.ble 14 pc) (cond (Nat.ble 21 pc) (cond (Nat.ble 24 pc) (cond (Nat.ble 25 pc) (cond (Nat.ble 26 pc) (cond (Nat.beq pc 26) (am_push (.int 4) 27) am_stuck) (cond (Nat.beq pc 25) (am_iload 0 26) am_stuck)) (cond (Nat.beq pc 24) (am_iload 0 25) am_stuck)) (cond (Nat.ble 22 pc) (cond (Nat.ble 23 pc) (cond (Nat.beq pc 23) (am_istore 0 24) am_stuck) (cond (Nat.beq pc 22) (am_i2 (fun x y => x + y) 23) am_stuck)) (cond (Nat.beq pc 21) (am_i2 (fun x y => x &&& y) 22) am_stuck))) (cond (Nat.ble 16 pc) (cond (Nat.ble 17 pc) (cond (Nat.ble 18 pc) (cond (Nat.beq pc 18) (am_push (.int (858993459)) 21) am_stuck) (cond (Nat.beq pc 17) (am_i2 (fun x y => (x.toUInt32 >>> (y.toUInt32 &&& Int32.toUInt32 31)).toInt32) 18) am_stuck)) (cond (Nat.beq pc 16) (am_push (.int 2) 17) am_stuck)) (cond (Nat.ble 15 pc) (cond (Nat.beq pc 15) (am_iload 0 16) am_stuck) (cond (Nat.beq pc 14) (am_i2 (fun x y => x &&& y) 15) am_stuck)))) (cond (Nat.ble 7 pc) (cond (Nat.ble 9 pc) (cond (Nat.ble 10 pc) (cond (Nat.ble 11 pc) (cond (Nat.beq pc 11) (am_push (.int (858993459)) 14) am_stuck) (cond (Nat.beq pc 10) (am_iload 0 11) am_stuck)) (cond (Nat.beq pc 9) (am_istore 0 10) am_stuck)) (cond (Nat.ble 8 pc) (cond (Nat.beq pc 8) (am_i2 (fun x y => x - y) 9) am_stuck) (cond (Nat.beq pc 7) (am_i2 (fun x y => x &&& y) 8) am_stuck))) (cond (Nat.ble 2 pc) (cond (Nat.ble 3 pc) (cond (Nat.ble 4 pc) (cond (Nat.beq pc 4) (am_push (.int (1431655765)) 7) am_stuck) (cond (Nat.beq pc 3) (am_i2 (fun x y => (x.toUInt32 >>> (y.toUInt32 &&& Int32.toUInt32 31)).toInt32) 4) am_stuck)) (cond (Nat.beq pc 2) (am_push (.int 1) 3) am_stuck)) (cond (Nat.ble 1 pc) (cond (Nat.beq pc 1) (am_iload 0 2) am_stuck) (cond (Nat.beq pc 0) (am_iload 0 1) am_stuck)))))
theorem s_In_bitCount : ∀ pc, am_Snd am_En c_In_bitCount 1 y_In_bitCount.cls 0 0 pc (t_In_bitCount pc) := fun pc => am_node (am_node (am_node (am_node (am_node (am_node (am_leaf (am_s_iret d_In_bitCount_52)) (am_leaf (am_s_iand d_In_bitCount_51))) (am_leaf (am_s_bipush d_In_bitCount_49 (by decide)))) (am_node (am_node (am_leaf (am_s_iload_n 0 d_In_bitCount_48 rfl)) (am_leaf (am_s_istore_n 0 d_In_bitCount_47 rfl (by decide)))) (am_leaf (am_s_iadd d_In_bitCount_46)))) (am_node (am_node (am_node (am_leaf (am_s_iushr d_In_bitCount_45)) (am_leaf (am_s_bipush d_In_bitCount_43 (by decide)))) (am_leaf (am_s_iload_n 0 d_In_bitCount_42 rfl))) (am_node (am_leaf (am_s_iload_n 0 d_In_bitCount_41 rfl)) (am_leaf (am_s_istore_n 0 d_In_bitCount_40 rfl (by decide)))))) (am_node (am_node (am_node (am_node (am_leaf (am_s_iadd d_In_bitCount_39)) (am_leaf (am_s_iushr d_In_bitCount_38))) (am_leaf (am_s_bipush d_In_bitCount_36 (by decide)))) (am_node (am_leaf (am_s_iload_n 0 d_In_bitCount_35 rfl)) (am_leaf (am_s_iload_n 0 d_In_bitCount_34 rfl)))) (am_node (am_node (am_node (am_leaf (am_s_istore_n 0 d_In_bitCount_33 rfl (by decide))) (am_leaf (am_s_iand d_In_bitCount_32))) (am_leaf (am_s_ldcw w_789 d_In_bitCount_29))) (am_node (am_leaf (am_s_iadd d_In_bitCount_28)) (am_leaf (am_s_iushr d_In_bitCount_27)))))) (am_node (am_node (am_node (am_node (am_node (am_leaf (am_s_iconst d_In_bitCount_26 (by decide))) (am_leaf (am_s_iload_n 0 d_In_bitCount_25 rfl))) (am_leaf (am_s_iload_n 0 d_In_bitCount_24 rfl))) (am_node (am_node (am_leaf (am_s_istore_n 0 d_In_bitCount_23 rfl (by decide))) (am_leaf (am_s_iadd d_In_bitCount_22))) (am_leaf (am_s_iand d_In_bitCount_21)))) (am_node (am_node (am_node (am_leaf (am_s_ldcw w_788 d_In_bitCount_18)) (am_leaf (am_s_iushr d_In_bitCount_17))) (am_leaf (am_s_iconst d_In_bitCount_16 (by decide)))) (am_node (am_leaf (am_s_iload_n 0 d_In_bitCount_15 rfl)) (am_leaf (am_s_iand d_In_bitCount_14))))) (am_node (am_node (am_node (am_node (am_leaf (am_s_ldcw w_788 d_In_bitCount_11)) (am_leaf (am_s_iload_n 0 d_In_bitCount_10 rfl))) (am_leaf (am_s_istore_n 0 d_In_bitCount_9 rfl (by decide)))) (am_node (am_leaf (am_s_isub d_In_bitCount_8)) (am_leaf (am_s_iand d_In_bitCount_7)))) (am_node (am_node (am_node (am_leaf (am_s_ldcw w_787 d_In_bitCount_4)) (am_leaf (am_s_iushr d_In_bitCount_3))) (am_leaf (am_s_iconst d_In_bitCount_2 (by decide)))) (am_node (am_leaf (am_s_iload_n 0 d_In_bitCount_1 rfl)) (am_leaf (am_s_iload_n 0 d_In_bitCount_0 rfl))))))
def M_In_bitCount : am_M := am_Mof t_In_bitCount 1 (some .int)
theorem m_In_bitCount : am_Met y_In_bitCount c_In_bitCount 1 (some .int) 0 0 M_In_bitCount := am_met (by decide +kernel) s_In_bitCount
