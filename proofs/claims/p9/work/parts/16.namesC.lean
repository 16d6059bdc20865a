abbrev b_S_init : ByteArray := prog_1_method_1_code
def y_S_init : MethodName := ⟨"SeatProofs", "<init>", "()V"⟩
abbrev w_S_init : List Cond := .code y_S_init b_S_init 1 none :: gT
theorem d_S_init_0 : decode b_S_init 0 = .ok (.aload_n 0, 1) := by decide +kernel
theorem d_S_init_1 : decode b_S_init 1 = .ok (.invokespecial 3, 3) := by decide +kernel
theorem d_S_init_4 : decode b_S_init 4 = .ok (.aload_n 0, 1) := by decide +kernel
theorem d_S_init_5 : decode b_S_init 5 = .ok (.new 9, 3) := by decide +kernel
theorem d_S_init_8 : decode b_S_init 8 = .ok (.dup, 1) := by decide +kernel
theorem d_S_init_9 : decode b_S_init 9 = .ok (.invokespecial 11, 3) := by decide +kernel
theorem d_S_init_12 : decode b_S_init 12 = .ok (.putfield 12, 3) := by decide +kernel
theorem d_S_init_15 : decode b_S_init 15 = .ok (.aload_n 0, 1) := by decide +kernel
theorem d_S_init_16 : decode b_S_init 16 = .ok (.new 16, 3) := by decide +kernel
theorem d_S_init_19 : decode b_S_init 19 = .ok (.dup, 1) := by decide +kernel
theorem d_S_init_20 : decode b_S_init 20 = .ok (.aload_n 0, 1) := by decide +kernel
theorem d_S_init_21 : decode b_S_init 21 = .ok (.getfield 12, 3) := by decide +kernel
theorem d_S_init_24 : decode b_S_init 24 = .ok (.invokespecial 18, 3) := by decide +kernel
theorem d_S_init_27 : decode b_S_init 27 = .ok (.putfield 21, 3) := by decide +kernel
theorem d_S_init_30 : decode b_S_init 30 = .ok (.aload_n 0, 1) := by decide +kernel
theorem d_S_init_31 : decode b_S_init 31 = .ok (.new 25, 3) := by decide +kernel
theorem d_S_init_34 : decode b_S_init 34 = .ok (.dup, 1) := by decide +kernel
theorem d_S_init_35 : decode b_S_init 35 = .ok (.invokespecial 27, 3) := by decide +kernel
theorem d_S_init_38 : decode b_S_init 38 = .ok (.putfield 28, 3) := by decide +kernel
theorem d_S_init_41 : decode b_S_init 41 = .ok (.aload_n 0, 1) := by decide +kernel
theorem d_S_init_42 : decode b_S_init 42 = .ok (.iconst 4, 1) := by decide +kernel
theorem d_S_init_43 : decode b_S_init 43 = .ok (.newarray .int, 2) := by decide +kernel
theorem d_S_init_45 : decode b_S_init 45 = .ok (.putfield 32, 3) := by decide +kernel
theorem d_S_init_48 : decode b_S_init 48 = .ok (.aload_n 0, 1) := by decide +kernel
theorem d_S_init_49 : decode b_S_init 49 = .ok (.iconst 0, 1) := by decide +kernel
theorem d_S_init_50 : decode b_S_init 50 = .ok (.putfield 36, 3) := by decide +kernel
theorem d_S_init_53 : decode b_S_init 53 = .ok (.aload_n 0, 1) := by decide +kernel
theorem d_S_init_54 : decode b_S_init 54 = .ok (.iconst 0, 1) := by decide +kernel
theorem d_S_init_55 : decode b_S_init 55 = .ok (.putfield 40, 3) := by decide +kernel
theorem d_S_init_58 : decode b_S_init 58 = .ok (.return_, 1) := by decide +kernel
abbrev b_S_space : ByteArray := prog_1_method_2_code
def y_S_space : MethodName := ⟨"SeatProofs", "space", "(I)I"⟩
abbrev w_S_space : List Cond := .code y_S_space b_S_space 2 (some .int) :: gT
theorem d_S_space_0 : decode b_S_space 0 = .ok (.iload_n 1, 1) := by decide +kernel
theorem d_S_space_1 : decode b_S_space 1 = .ok (.ifCond .lt 9, 3) := by decide +kernel
theorem d_S_space_4 : decode b_S_space 4 = .ok (.iload_n 1, 1) := by decide +kernel
theorem d_S_space_5 : decode b_S_space 5 = .ok (.bipush 16, 2) := by decide +kernel
theorem d_S_space_7 : decode b_S_space 7 = .ok (.if_icmp .lt 5, 3) := by decide +kernel
theorem d_S_space_10 : decode b_S_space 10 = .ok (.iconst (-1), 1) := by decide +kernel
theorem d_S_space_11 : decode b_S_space 11 = .ok (.ireturn, 1) := by decide +kernel
theorem d_S_space_12 : decode b_S_space 12 = .ok (.aload_n 0, 1) := by decide +kernel
theorem d_S_space_13 : decode b_S_space 13 = .ok (.getfield 12, 3) := by decide +kernel
theorem d_S_space_16 : decode b_S_space 16 = .ok (.getfield 44, 3) := by decide +kernel
theorem d_S_space_19 : decode b_S_space 19 = .ok (.bipush 64, 2) := by decide +kernel
theorem d_S_space_21 : decode b_S_space 21 = .ok (.if_icmp .lt 6, 3) := by decide +kernel
theorem d_S_space_24 : decode b_S_space 24 = .ok (.bipush (-2), 2) := by decide +kernel
theorem d_S_space_26 : decode b_S_space 26 = .ok (.ireturn, 1) := by decide +kernel
theorem d_S_space_27 : decode b_S_space 27 = .ok (.aload_n 0, 1) := by decide +kernel
theorem d_S_space_28 : decode b_S_space 28 = .ok (.getfield 28, 3) := by decide +kernel
theorem d_S_space_31 : decode b_S_space 31 = .ok (.invokevirtual 47, 3) := by decide +kernel
theorem d_S_space_34 : decode b_S_space 34 = .ok (.aload_n 0, 1) := by decide +kernel
theorem d_S_space_35 : decode b_S_space 35 = .ok (.getfield 12, 3) := by decide +kernel
theorem d_S_space_38 : decode b_S_space 38 = .ok (.iload_n 1, 1) := by decide +kernel
theorem d_S_space_39 : decode b_S_space 39 = .ok (.invokevirtual 50, 3) := by decide +kernel
theorem d_S_space_42 : decode b_S_space 42 = .ok (.ireturn, 1) := by decide +kernel
abbrev b_S_valve : ByteArray := prog_1_method_3_code
def y_S_valve : MethodName := ⟨"SeatProofs", "valve", "(IIIZ)I"⟩
abbrev w_S_valve : List Cond := .code y_S_valve b_S_valve 5 (some .int) :: gT
theorem d_S_valve_0 : decode b_S_valve 0 = .ok (.aload_n 0, 1) := by decide +kernel
theorem d_S_valve_1 : decode b_S_valve 1 = .ok (.getfield 12, 3) := by decide +kernel
theorem d_S_valve_4 : decode b_S_valve 4 = .ok (.iload_n 1, 1) := by decide +kernel
theorem d_S_valve_5 : decode b_S_valve 5 = .ok (.invokevirtual 54, 3) := by decide +kernel
theorem d_S_valve_8 : decode b_S_valve 8 = .ok (.ifCond .eq 19, 3) := by decide +kernel
theorem d_S_valve_11 : decode b_S_valve 11 = .ok (.aload_n 0, 1) := by decide +kernel
theorem d_S_valve_12 : decode b_S_valve 12 = .ok (.getfield 12, 3) := by decide +kernel
theorem d_S_valve_15 : decode b_S_valve 15 = .ok (.iload_n 2, 1) := by decide +kernel
theorem d_S_valve_16 : decode b_S_valve 16 = .ok (.invokevirtual 54, 3) := by decide +kernel
theorem d_S_valve_19 : decode b_S_valve 19 = .ok (.ifCond .eq 8, 3) := by decide +kernel
theorem d_S_valve_22 : decode b_S_valve 22 = .ok (.iload_n 1, 1) := by decide +kernel
theorem d_S_valve_23 : decode b_S_valve 23 = .ok (.iload_n 2, 1) := by decide +kernel
theorem d_S_valve_24 : decode b_S_valve 24 = .ok (.if_icmp .ne 5, 3) := by decide +kernel
theorem d_S_valve_27 : decode b_S_valve 27 = .ok (.iconst (-1), 1) := by decide +kernel
theorem d_S_valve_28 : decode b_S_valve 28 = .ok (.ireturn, 1) := by decide +kernel
theorem d_S_valve_29 : decode b_S_valve 29 = .ok (.iload_n 3, 1) := by decide +kernel
theorem d_S_valve_30 : decode b_S_valve 30 = .ok (.iconst 1, 1) := by decide +kernel
theorem d_S_valve_31 : decode b_S_valve 31 = .ok (.if_icmp .eq 10, 3) := by decide +kernel
theorem d_S_valve_34 : decode b_S_valve 34 = .ok (.iload_n 3, 1) := by decide +kernel
theorem d_S_valve_35 : decode b_S_valve 35 = .ok (.iconst 2, 1) := by decide +kernel
theorem d_S_valve_36 : decode b_S_valve 36 = .ok (.if_icmp .eq 5, 3) := by decide +kernel
theorem d_S_valve_39 : decode b_S_valve 39 = .ok (.iconst (-1), 1) := by decide +kernel
theorem d_S_valve_40 : decode b_S_valve 40 = .ok (.ireturn, 1) := by decide +kernel
theorem d_S_valve_41 : decode b_S_valve 41 = .ok (.aload_n 0, 1) := by decide +kernel
theorem d_S_valve_42 : decode b_S_valve 42 = .ok (.getfield 12, 3) := by decide +kernel
theorem d_S_valve_45 : decode b_S_valve 45 = .ok (.getfield 58, 3) := by decide +kernel
theorem d_S_valve_48 : decode b_S_valve 48 = .ok (.bipush 64, 2) := by decide +kernel
theorem d_S_valve_50 : decode b_S_valve 50 = .ok (.if_icmp .lt 6, 3) := by decide +kernel
theorem d_S_valve_53 : decode b_S_valve 53 = .ok (.bipush (-2), 2) := by decide +kernel
theorem d_S_valve_55 : decode b_S_valve 55 = .ok (.ireturn, 1) := by decide +kernel
theorem d_S_valve_56 : decode b_S_valve 56 = .ok (.aload_n 0, 1) := by decide +kernel
theorem d_S_valve_57 : decode b_S_valve 57 = .ok (.getfield 28, 3) := by decide +kernel
theorem d_S_valve_60 : decode b_S_valve 60 = .ok (.invokevirtual 47, 3) := by decide +kernel
theorem d_S_valve_63 : decode b_S_valve 63 = .ok (.aload_n 0, 1) := by decide +kernel
theorem d_S_valve_64 : decode b_S_valve 64 = .ok (.getfield 12, 3) := by decide +kernel
theorem d_S_valve_67 : decode b_S_valve 67 = .ok (.iload_n 1, 1) := by decide +kernel
theorem d_S_valve_68 : decode b_S_valve 68 = .ok (.iload_n 2, 1) := by decide +kernel
theorem d_S_valve_69 : decode b_S_valve 69 = .ok (.iload_n 3, 1) := by decide +kernel
theorem d_S_valve_70 : decode b_S_valve 70 = .ok (.iconst 2, 1) := by decide +kernel
theorem d_S_valve_71 : decode b_S_valve 71 = .ok (.if_icmp .ne 7, 3) := by decide +kernel
theorem d_S_valve_74 : decode b_S_valve 74 = .ok (.iconst 1, 1) := by decide +kernel
theorem d_S_valve_75 : decode b_S_valve 75 = .ok (.goto 4, 3) := by decide +kernel
theorem d_S_valve_78 : decode b_S_valve 78 = .ok (.iconst 0, 1) := by decide +kernel
theorem d_S_valve_79 : decode b_S_valve 79 = .ok (.iload 4, 2) := by decide +kernel
theorem d_S_valve_81 : decode b_S_valve 81 = .ok (.invokevirtual 61, 3) := by decide +kernel
theorem d_S_valve_84 : decode b_S_valve 84 = .ok (.ireturn, 1) := by decide +kernel
abbrev b_S_level : ByteArray := prog_1_method_4_code
def y_S_level : MethodName := ⟨"SeatProofs", "level", "(IJ)Z"⟩
abbrev w_S_level : List Cond := .code y_S_level b_S_level 4 (some .boolean) :: gT
theorem d_S_level_0 : decode b_S_level 0 = .ok (.aload_n 0, 1) := by decide +kernel
theorem d_S_level_1 : decode b_S_level 1 = .ok (.getfield 12, 3) := by decide +kernel
theorem d_S_level_4 : decode b_S_level 4 = .ok (.iload_n 1, 1) := by decide +kernel
theorem d_S_level_5 : decode b_S_level 5 = .ok (.invokevirtual 54, 3) := by decide +kernel
theorem d_S_level_8 : decode b_S_level 8 = .ok (.ifCond .ne 5, 3) := by decide +kernel
theorem d_S_level_11 : decode b_S_level 11 = .ok (.iconst 0, 1) := by decide +kernel
theorem d_S_level_12 : decode b_S_level 12 = .ok (.ireturn, 1) := by decide +kernel
theorem d_S_level_13 : decode b_S_level 13 = .ok (.aload_n 0, 1) := by decide +kernel
theorem d_S_level_14 : decode b_S_level 14 = .ok (.getfield 12, 3) := by decide +kernel
theorem d_S_level_17 : decode b_S_level 17 = .ok (.iload_n 1, 1) := by decide +kernel
theorem d_S_level_18 : decode b_S_level 18 = .ok (.lload_n 2, 1) := by decide +kernel
theorem d_S_level_19 : decode b_S_level 19 = .ok (.invokevirtual 65, 3) := by decide +kernel
theorem d_S_level_22 : decode b_S_level 22 = .ok (.aload_n 0, 1) := by decide +kernel
theorem d_S_level_23 : decode b_S_level 23 = .ok (.getfield 28, 3) := by decide +kernel
theorem d_S_level_26 : decode b_S_level 26 = .ok (.invokevirtual 47, 3) := by decide +kernel
theorem d_S_level_29 : decode b_S_level 29 = .ok (.iconst 1, 1) := by decide +kernel
theorem d_S_level_30 : decode b_S_level 30 = .ok (.ireturn, 1) := by decide +kernel
abbrev b_S_may : ByteArray := prog_1_method_5_code
def y_S_may : MethodName := ⟨"SeatProofs", "may", "(II)Z"⟩
abbrev w_S_may : List Cond := .code y_S_may b_S_may 3 (some .boolean) :: gT
theorem d_S_may_0 : decode b_S_may 0 = .ok (.iload_n 1, 1) := by decide +kernel
theorem d_S_may_1 : decode b_S_may 1 = .ok (.invokestatic 69, 3) := by decide +kernel
theorem d_S_may_4 : decode b_S_may 4 = .ok (.ifCond .eq 15, 3) := by decide +kernel
theorem d_S_may_7 : decode b_S_may 7 = .ok (.iload_n 2, 1) := by decide +kernel
theorem d_S_may_8 : decode b_S_may 8 = .ok (.invokestatic 69, 3) := by decide +kernel
theorem d_S_may_11 : decode b_S_may 11 = .ok (.ifCond .eq 8, 3) := by decide +kernel
theorem d_S_may_14 : decode b_S_may 14 = .ok (.iload_n 1, 1) := by decide +kernel
theorem d_S_may_15 : decode b_S_may 15 = .ok (.iload_n 2, 1) := by decide +kernel
theorem d_S_may_16 : decode b_S_may 16 = .ok (.if_icmp .ne 5, 3) := by decide +kernel
theorem d_S_may_19 : decode b_S_may 19 = .ok (.iconst 0, 1) := by decide +kernel
theorem d_S_may_20 : decode b_S_may 20 = .ok (.ireturn, 1) := by decide +kernel
theorem d_S_may_21 : decode b_S_may 21 = .ok (.aload_n 0, 1) := by decide +kernel
theorem d_S_may_22 : decode b_S_may 22 = .ok (.getfield 12, 3) := by decide +kernel
theorem d_S_may_25 : decode b_S_may 25 = .ok (.iload_n 1, 1) := by decide +kernel
theorem d_S_may_26 : decode b_S_may 26 = .ok (.iload_n 2, 1) := by decide +kernel
theorem d_S_may_27 : decode b_S_may 27 = .ok (.invokevirtual 72, 3) := by decide +kernel
theorem d_S_may_30 : decode b_S_may 30 = .ok (.ifCond .eq 5, 3) := by decide +kernel
theorem d_S_may_33 : decode b_S_may 33 = .ok (.iconst 0, 1) := by decide +kernel
theorem d_S_may_34 : decode b_S_may 34 = .ok (.ireturn, 1) := by decide +kernel
theorem d_S_may_35 : decode b_S_may 35 = .ok (.aload_n 0, 1) := by decide +kernel
theorem d_S_may_36 : decode b_S_may 36 = .ok (.getfield 12, 3) := by decide +kernel
theorem d_S_may_39 : decode b_S_may 39 = .ok (.iload_n 1, 1) := by decide +kernel
theorem d_S_may_40 : decode b_S_may 40 = .ok (.iload_n 2, 1) := by decide +kernel
theorem d_S_may_41 : decode b_S_may 41 = .ok (.invokevirtual 76, 3) := by decide +kernel
theorem d_S_may_44 : decode b_S_may 44 = .ok (.aload_n 0, 1) := by decide +kernel
theorem d_S_may_45 : decode b_S_may 45 = .ok (.getfield 28, 3) := by decide +kernel
theorem d_S_may_48 : decode b_S_may 48 = .ok (.invokevirtual 47, 3) := by decide +kernel
theorem d_S_may_51 : decode b_S_may 51 = .ok (.iconst 1, 1) := by decide +kernel
theorem d_S_may_52 : decode b_S_may 52 = .ok (.ireturn, 1) := by decide +kernel
abbrev b_S_safe : ByteArray := prog_1_method_6_code
def y_S_safe : MethodName := ⟨"SeatProofs", "safe", "()I"⟩
abbrev w_S_safe : List Cond := .code y_S_safe b_S_safe 4 (some .int) :: gT
theorem d_S_safe_0 : decode b_S_safe 0 = .ok (.aload_n 0, 1) := by decide +kernel
theorem d_S_safe_1 : decode b_S_safe 1 = .ok (.getfield 28, 3) := by decide +kernel
theorem d_S_safe_4 : decode b_S_safe 4 = .ok (.invokevirtual 47, 3) := by decide +kernel
theorem d_S_safe_7 : decode b_S_safe 7 = .ok (.aload_n 0, 1) := by decide +kernel
theorem d_S_safe_8 : decode b_S_safe 8 = .ok (.iconst 0, 1) := by decide +kernel
theorem d_S_safe_9 : decode b_S_safe 9 = .ok (.putfield 36, 3) := by decide +kernel
theorem d_S_safe_12 : decode b_S_safe 12 = .ok (.iconst 0, 1) := by decide +kernel
theorem d_S_safe_13 : decode b_S_safe 13 = .ok (.istore_n 1, 1) := by decide +kernel
theorem d_S_safe_14 : decode b_S_safe 14 = .ok (.iload_n 1, 1) := by decide +kernel
theorem d_S_safe_15 : decode b_S_safe 15 = .ok (.aload_n 0, 1) := by decide +kernel
theorem d_S_safe_16 : decode b_S_safe 16 = .ok (.getfield 12, 3) := by decide +kernel
theorem d_S_safe_19 : decode b_S_safe 19 = .ok (.getfield 58, 3) := by decide +kernel
theorem d_S_safe_22 : decode b_S_safe 22 = .ok (.if_icmp .gt 61, 3) := by decide +kernel
theorem d_S_safe_25 : decode b_S_safe 25 = .ok (.aload_n 0, 1) := by decide +kernel
theorem d_S_safe_26 : decode b_S_safe 26 = .ok (.getfield 21, 3) := by decide +kernel
theorem d_S_safe_29 : decode b_S_safe 29 = .ok (.iload_n 1, 1) := by decide +kernel
theorem d_S_safe_30 : decode b_S_safe 30 = .ok (.invokevirtual 80, 3) := by decide +kernel
theorem d_S_safe_33 : decode b_S_safe 33 = .ok (.aload_n 0, 1) := by decide +kernel
theorem d_S_safe_34 : decode b_S_safe 34 = .ok (.getfield 21, 3) := by decide +kernel
theorem d_S_safe_37 : decode b_S_safe 37 = .ok (.invokevirtual 84, 3) := by decide +kernel
theorem d_S_safe_40 : decode b_S_safe 40 = .ok (.aload_n 0, 1) := by decide +kernel
theorem d_S_safe_41 : decode b_S_safe 41 = .ok (.getfield 21, 3) := by decide +kernel
theorem d_S_safe_44 : decode b_S_safe 44 = .ok (.invokevirtual 87, 3) := by decide +kernel
theorem d_S_safe_47 : decode b_S_safe 47 = .ok (.lstore_n 2, 1) := by decide +kernel
theorem d_S_safe_48 : decode b_S_safe 48 = .ok (.lload_n 2, 1) := by decide +kernel
theorem d_S_safe_49 : decode b_S_safe 49 = .ok (.lconst 0, 1) := by decide +kernel
theorem d_S_safe_50 : decode b_S_safe 50 = .ok (.lcmp, 1) := by decide +kernel
theorem d_S_safe_51 : decode b_S_safe 51 = .ok (.ifCond .eq 21, 3) := by decide +kernel
theorem d_S_safe_54 : decode b_S_safe 54 = .ok (.aload_n 0, 1) := by decide +kernel
theorem d_S_safe_55 : decode b_S_safe 55 = .ok (.iload_n 1, 1) := by decide +kernel
theorem d_S_safe_56 : decode b_S_safe 56 = .ok (.lload_n 2, 1) := by decide +kernel
theorem d_S_safe_57 : decode b_S_safe 57 = .ok (.invokestatic 91, 3) := by decide +kernel
theorem d_S_safe_60 : decode b_S_safe 60 = .ok (.invokevirtual 95, 3) := by decide +kernel
theorem d_S_safe_63 : decode b_S_safe 63 = .ok (.aload_n 0, 1) := by decide +kernel
theorem d_S_safe_64 : decode b_S_safe 64 = .ok (.getfield 28, 3) := by decide +kernel
theorem d_S_safe_67 : decode b_S_safe 67 = .ok (.invokevirtual 47, 3) := by decide +kernel
theorem d_S_safe_70 : decode b_S_safe 70 = .ok (.iconst 0, 1) := by decide +kernel
theorem d_S_safe_71 : decode b_S_safe 71 = .ok (.ireturn, 1) := by decide +kernel
theorem d_S_safe_72 : decode b_S_safe 72 = .ok (.aload_n 0, 1) := by decide +kernel
theorem d_S_safe_73 : decode b_S_safe 73 = .ok (.iload_n 1, 1) := by decide +kernel
theorem d_S_safe_74 : decode b_S_safe 74 = .ok (.invokevirtual 98, 3) := by decide +kernel
theorem d_S_safe_77 : decode b_S_safe 77 = .ok (.iinc 1 1, 3) := by decide +kernel
theorem d_S_safe_80 : decode b_S_safe 80 = .ok (.goto (-66), 3) := by decide +kernel
theorem d_S_safe_83 : decode b_S_safe 83 = .ok (.iconst 1, 1) := by decide +kernel
theorem d_S_safe_84 : decode b_S_safe 84 = .ok (.ireturn, 1) := by decide +kernel
abbrev b_S_culprit : ByteArray := prog_1_method_7_code
def y_S_culprit : MethodName := ⟨"SeatProofs", "culprit", "(I)I"⟩
abbrev w_S_culprit : List Cond := .code y_S_culprit b_S_culprit 2 (some .int) :: gT
theorem d_S_culprit_0 : decode b_S_culprit 0 = .ok (.aload_n 0, 1) := by decide +kernel
theorem d_S_culprit_1 : decode b_S_culprit 1 = .ok (.getfield 36, 3) := by decide +kernel
theorem d_S_culprit_4 : decode b_S_culprit 4 = .ok (.ifCond .eq 12, 3) := by decide +kernel
theorem d_S_culprit_7 : decode b_S_culprit 7 = .ok (.iload_n 1, 1) := by decide +kernel
theorem d_S_culprit_8 : decode b_S_culprit 8 = .ok (.ifCond .lt 8, 3) := by decide +kernel
theorem d_S_culprit_11 : decode b_S_culprit 11 = .ok (.iload_n 1, 1) := by decide +kernel
theorem d_S_culprit_12 : decode b_S_culprit 12 = .ok (.iconst 4, 1) := by decide +kernel
theorem d_S_culprit_13 : decode b_S_culprit 13 = .ok (.if_icmp .lt 5, 3) := by decide +kernel
theorem d_S_culprit_16 : decode b_S_culprit 16 = .ok (.iconst (-1), 1) := by decide +kernel
theorem d_S_culprit_17 : decode b_S_culprit 17 = .ok (.ireturn, 1) := by decide +kernel
theorem d_S_culprit_18 : decode b_S_culprit 18 = .ok (.aload_n 0, 1) := by decide +kernel
theorem d_S_culprit_19 : decode b_S_culprit 19 = .ok (.getfield 32, 3) := by decide +kernel
theorem d_S_culprit_22 : decode b_S_culprit 22 = .ok (.iload_n 1, 1) := by decide +kernel
theorem d_S_culprit_23 : decode b_S_culprit 23 = .ok (.iaload, 1) := by decide +kernel
theorem d_S_culprit_24 : decode b_S_culprit 24 = .ok (.ireturn, 1) := by decide +kernel
abbrev b_S_rows : ByteArray := prog_1_method_8_code
def y_S_rows : MethodName := ⟨"SeatProofs", "rows", "()I"⟩
abbrev w_S_rows : List Cond := .code y_S_rows b_S_rows 1 (some .int) :: gT
theorem d_S_rows_0 : decode b_S_rows 0 = .ok (.aload_n 0, 1) := by decide +kernel
theorem d_S_rows_1 : decode b_S_rows 1 = .ok (.getfield 28, 3) := by decide +kernel
theorem d_S_rows_4 : decode b_S_rows 4 = .ok (.getfield 101, 3) := by decide +kernel
theorem d_S_rows_7 : decode b_S_rows 7 = .ok (.ireturn, 1) := by decide +kernel
abbrev b_S_row : ByteArray := prog_1_method_9_code
def y_S_row : MethodName := ⟨"SeatProofs", "row", "(II)I"⟩
abbrev w_S_row : List Cond := .code y_S_row b_S_row 3 (some .int) :: gT
theorem d_S_row_0 : decode b_S_row 0 = .ok (.aload_n 0, 1) := by decide +kernel
theorem d_S_row_1 : decode b_S_row 1 = .ok (.getfield 28, 3) := by decide +kernel
theorem d_S_row_4 : decode b_S_row 4 = .ok (.iload_n 1, 1) := by decide +kernel
theorem d_S_row_5 : decode b_S_row 5 = .ok (.invokevirtual 104, 3) := by decide +kernel
theorem d_S_row_8 : decode b_S_row 8 = .ok (.ifCond .eq 7, 3) := by decide +kernel
theorem d_S_row_11 : decode b_S_row 11 = .ok (.iload_n 2, 1) := by decide +kernel
theorem d_S_row_12 : decode b_S_row 12 = .ok (.ifCond .ge 5, 3) := by decide +kernel
theorem d_S_row_15 : decode b_S_row 15 = .ok (.iconst (-1), 1) := by decide +kernel
theorem d_S_row_16 : decode b_S_row 16 = .ok (.ireturn, 1) := by decide +kernel
theorem d_S_row_17 : decode b_S_row 17 = .ok (.iload_n 2, 1) := by decide +kernel
theorem d_S_row_18 : decode b_S_row 18 = .ok (.tableswitch 76 0 3 #[30, 40, 50, 63], 30) := by decide +kernel
theorem d_S_row_48 : decode b_S_row 48 = .ok (.aload_n 0, 1) := by decide +kernel
theorem d_S_row_49 : decode b_S_row 49 = .ok (.getfield 28, 3) := by decide +kernel
theorem d_S_row_52 : decode b_S_row 52 = .ok (.getfield 107, 3) := by decide +kernel
theorem d_S_row_55 : decode b_S_row 55 = .ok (.iload_n 1, 1) := by decide +kernel
theorem d_S_row_56 : decode b_S_row 56 = .ok (.iaload, 1) := by decide +kernel
theorem d_S_row_57 : decode b_S_row 57 = .ok (.ireturn, 1) := by decide +kernel
theorem d_S_row_58 : decode b_S_row 58 = .ok (.aload_n 0, 1) := by decide +kernel
theorem d_S_row_59 : decode b_S_row 59 = .ok (.getfield 28, 3) := by decide +kernel
theorem d_S_row_62 : decode b_S_row 62 = .ok (.getfield 110, 3) := by decide +kernel
theorem d_S_row_65 : decode b_S_row 65 = .ok (.iload_n 1, 1) := by decide +kernel
theorem d_S_row_66 : decode b_S_row 66 = .ok (.iaload, 1) := by decide +kernel
theorem d_S_row_67 : decode b_S_row 67 = .ok (.ireturn, 1) := by decide +kernel
theorem d_S_row_68 : decode b_S_row 68 = .ok (.aload_n 0, 1) := by decide +kernel
theorem d_S_row_69 : decode b_S_row 69 = .ok (.getfield 28, 3) := by decide +kernel
theorem d_S_row_72 : decode b_S_row 72 = .ok (.getfield 113, 3) := by decide +kernel
theorem d_S_row_75 : decode b_S_row 75 = .ok (.iload_n 1, 1) := by decide +kernel
theorem d_S_row_76 : decode b_S_row 76 = .ok (.laload, 1) := by decide +kernel
theorem d_S_row_77 : decode b_S_row 77 = .ok (.invokestatic 117, 3) := by decide +kernel
theorem d_S_row_80 : decode b_S_row 80 = .ok (.ireturn, 1) := by decide +kernel
theorem d_S_row_81 : decode b_S_row 81 = .ok (.aload_n 0, 1) := by decide +kernel
theorem d_S_row_82 : decode b_S_row 82 = .ok (.getfield 28, 3) := by decide +kernel
theorem d_S_row_85 : decode b_S_row 85 = .ok (.getfield 122, 3) := by decide +kernel
theorem d_S_row_88 : decode b_S_row 88 = .ok (.iload_n 1, 1) := by decide +kernel
theorem d_S_row_89 : decode b_S_row 89 = .ok (.laload, 1) := by decide +kernel
theorem d_S_row_90 : decode b_S_row 90 = .ok (.invokestatic 117, 3) := by decide +kernel
theorem d_S_row_93 : decode b_S_row 93 = .ok (.ireturn, 1) := by decide +kernel
theorem d_S_row_94 : decode b_S_row 94 = .ok (.aload_n 0, 1) := by decide +kernel
theorem d_S_row_95 : decode b_S_row 95 = .ok (.getfield 28, 3) := by decide +kernel
theorem d_S_row_98 : decode b_S_row 98 = .ok (.getfield 122, 3) := by decide +kernel
theorem d_S_row_101 : decode b_S_row 101 = .ok (.iload_n 1, 1) := by decide +kernel
theorem d_S_row_102 : decode b_S_row 102 = .ok (.laload, 1) := by decide +kernel
theorem d_S_row_103 : decode b_S_row 103 = .ok (.iload_n 2, 1) := by decide +kernel
theorem d_S_row_104 : decode b_S_row 104 = .ok (.iconst 4, 1) := by decide +kernel
theorem d_S_row_105 : decode b_S_row 105 = .ok (.isub, 1) := by decide +kernel
theorem d_S_row_106 : decode b_S_row 106 = .ok (.invokestatic 125, 3) := by decide +kernel
theorem d_S_row_109 : decode b_S_row 109 = .ok (.ireturn, 1) := by decide +kernel
abbrev b_S_check : ByteArray := prog_1_method_10_code
def y_S_check : MethodName := ⟨"SeatProofs", "check", "()I"⟩
abbrev w_S_check : List Cond := .code y_S_check b_S_check 3 (some .int) :: gT
theorem d_S_check_0 : decode b_S_check 0 = .ok (.iconst (-1), 1) := by decide +kernel
theorem d_S_check_1 : decode b_S_check 1 = .ok (.istore_n 1, 1) := by decide +kernel
theorem d_S_check_2 : decode b_S_check 2 = .ok (.iconst 0, 1) := by decide +kernel
theorem d_S_check_3 : decode b_S_check 3 = .ok (.istore_n 2, 1) := by decide +kernel
theorem d_S_check_4 : decode b_S_check 4 = .ok (.iload_n 2, 1) := by decide +kernel
theorem d_S_check_5 : decode b_S_check 5 = .ok (.aload_n 0, 1) := by decide +kernel
theorem d_S_check_6 : decode b_S_check 6 = .ok (.getfield 28, 3) := by decide +kernel
theorem d_S_check_9 : decode b_S_check 9 = .ok (.getfield 101, 3) := by decide +kernel
theorem d_S_check_12 : decode b_S_check 12 = .ok (.if_icmp .ge 59, 3) := by decide +kernel
theorem d_S_check_15 : decode b_S_check 15 = .ok (.aload_n 0, 1) := by decide +kernel
theorem d_S_check_16 : decode b_S_check 16 = .ok (.getfield 28, 3) := by decide +kernel
theorem d_S_check_19 : decode b_S_check 19 = .ok (.getfield 107, 3) := by decide +kernel
theorem d_S_check_22 : decode b_S_check 22 = .ok (.iload_n 2, 1) := by decide +kernel
theorem d_S_check_23 : decode b_S_check 23 = .ok (.iaload, 1) := by decide +kernel
theorem d_S_check_24 : decode b_S_check 24 = .ok (.iload_n 1, 1) := by decide +kernel
theorem d_S_check_25 : decode b_S_check 25 = .ok (.if_icmp .eq 28, 3) := by decide +kernel
theorem d_S_check_28 : decode b_S_check 28 = .ok (.aload_n 0, 1) := by decide +kernel
theorem d_S_check_29 : decode b_S_check 29 = .ok (.getfield 28, 3) := by decide +kernel
theorem d_S_check_32 : decode b_S_check 32 = .ok (.getfield 107, 3) := by decide +kernel
theorem d_S_check_35 : decode b_S_check 35 = .ok (.iload_n 2, 1) := by decide +kernel
theorem d_S_check_36 : decode b_S_check 36 = .ok (.iaload, 1) := by decide +kernel
theorem d_S_check_37 : decode b_S_check 37 = .ok (.istore_n 1, 1) := by decide +kernel
theorem d_S_check_38 : decode b_S_check 38 = .ok (.aload_n 0, 1) := by decide +kernel
theorem d_S_check_39 : decode b_S_check 39 = .ok (.getfield 21, 3) := by decide +kernel
theorem d_S_check_42 : decode b_S_check 42 = .ok (.iload_n 1, 1) := by decide +kernel
theorem d_S_check_43 : decode b_S_check 43 = .ok (.invokevirtual 80, 3) := by decide +kernel
theorem d_S_check_46 : decode b_S_check 46 = .ok (.aload_n 0, 1) := by decide +kernel
theorem d_S_check_47 : decode b_S_check 47 = .ok (.getfield 21, 3) := by decide +kernel
theorem d_S_check_50 : decode b_S_check 50 = .ok (.invokevirtual 84, 3) := by decide +kernel
theorem d_S_check_53 : decode b_S_check 53 = .ok (.aload_n 0, 1) := by decide +kernel
theorem d_S_check_54 : decode b_S_check 54 = .ok (.iload_n 2, 1) := by decide +kernel
theorem d_S_check_55 : decode b_S_check 55 = .ok (.invokevirtual 129, 3) := by decide +kernel
theorem d_S_check_58 : decode b_S_check 58 = .ok (.ifCond .ne 7, 3) := by decide +kernel
theorem d_S_check_61 : decode b_S_check 61 = .ok (.iconst 1, 1) := by decide +kernel
theorem d_S_check_62 : decode b_S_check 62 = .ok (.iload_n 2, 1) := by decide +kernel
theorem d_S_check_63 : decode b_S_check 63 = .ok (.iadd, 1) := by decide +kernel
theorem d_S_check_64 : decode b_S_check 64 = .ok (.ireturn, 1) := by decide +kernel
theorem d_S_check_65 : decode b_S_check 65 = .ok (.iinc 2 1, 3) := by decide +kernel
theorem d_S_check_68 : decode b_S_check 68 = .ok (.goto (-64), 3) := by decide +kernel
theorem d_S_check_71 : decode b_S_check 71 = .ok (.aload_n 0, 1) := by decide +kernel
theorem d_S_check_72 : decode b_S_check 72 = .ok (.getfield 28, 3) := by decide +kernel
theorem d_S_check_75 : decode b_S_check 75 = .ok (.getfield 101, 3) := by decide +kernel
theorem d_S_check_78 : decode b_S_check 78 = .ok (.aload_n 0, 1) := by decide +kernel
theorem d_S_check_79 : decode b_S_check 79 = .ok (.getfield 12, 3) := by decide +kernel
theorem d_S_check_82 : decode b_S_check 82 = .ok (.invokevirtual 132, 3) := by decide +kernel
theorem d_S_check_85 : decode b_S_check 85 = .ok (.if_icmp .ge 15, 3) := by decide +kernel
theorem d_S_check_88 : decode b_S_check 88 = .ok (.iconst 1, 1) := by decide +kernel
theorem d_S_check_89 : decode b_S_check 89 = .ok (.aload_n 0, 1) := by decide +kernel
theorem d_S_check_90 : decode b_S_check 90 = .ok (.getfield 28, 3) := by decide +kernel
theorem d_S_check_93 : decode b_S_check 93 = .ok (.getfield 101, 3) := by decide +kernel
theorem d_S_check_96 : decode b_S_check 96 = .ok (.iadd, 1) := by decide +kernel
theorem d_S_check_97 : decode b_S_check 97 = .ok (.goto 4, 3) := by decide +kernel
theorem d_S_check_100 : decode b_S_check 100 = .ok (.iconst 0, 1) := by decide +kernel
theorem d_S_check_101 : decode b_S_check 101 = .ok (.ireturn, 1) := by decide +kernel
abbrev b_S_set : ByteArray := prog_1_method_11_code
def y_S_set : MethodName := ⟨"SeatProofs", "set", "(IZ)Z"⟩
abbrev w_S_set : List Cond := .code y_S_set b_S_set 3 (some .boolean) :: gT
theorem d_S_set_0 : decode b_S_set 0 = .ok (.aload_n 0, 1) := by decide +kernel
theorem d_S_set_1 : decode b_S_set 1 = .ok (.getfield 12, 3) := by decide +kernel
theorem d_S_set_4 : decode b_S_set 4 = .ok (.iload_n 1, 1) := by decide +kernel
theorem d_S_set_5 : decode b_S_set 5 = .ok (.invokevirtual 136, 3) := by decide +kernel
theorem d_S_set_8 : decode b_S_set 8 = .ok (.ifCond .ne 13, 3) := by decide +kernel
theorem d_S_set_11 : decode b_S_set 11 = .ok (.new 139, 3) := by decide +kernel
theorem d_S_set_14 : decode b_S_set 14 = .ok (.dup, 1) := by decide +kernel
theorem d_S_set_15 : decode b_S_set 15 = .ok (.ldc 141, 2) := by decide +kernel
theorem d_S_set_17 : decode b_S_set 17 = .ok (.invokespecial 143, 3) := by decide +kernel
theorem d_S_set_20 : decode b_S_set 20 = .ok (.athrow, 1) := by decide +kernel
theorem d_S_set_21 : decode b_S_set 21 = .ok (.aload_n 0, 1) := by decide +kernel
theorem d_S_set_22 : decode b_S_set 22 = .ok (.getfield 12, 3) := by decide +kernel
theorem d_S_set_25 : decode b_S_set 25 = .ok (.iload_n 1, 1) := by decide +kernel
theorem d_S_set_26 : decode b_S_set 26 = .ok (.iload_n 2, 1) := by decide +kernel
theorem d_S_set_27 : decode b_S_set 27 = .ok (.invokevirtual 146, 3) := by decide +kernel
theorem d_S_set_30 : decode b_S_set 30 = .ok (.aload_n 0, 1) := by decide +kernel
theorem d_S_set_31 : decode b_S_set 31 = .ok (.aload_n 0, 1) := by decide +kernel
theorem d_S_set_32 : decode b_S_set 32 = .ok (.iload_n 1, 1) := by decide +kernel
theorem d_S_set_33 : decode b_S_set 33 = .ok (.invokevirtual 150, 3) := by decide +kernel
theorem d_S_set_36 : decode b_S_set 36 = .ok (.putfield 40, 3) := by decide +kernel
theorem d_S_set_39 : decode b_S_set 39 = .ok (.aload_n 0, 1) := by decide +kernel
theorem d_S_set_40 : decode b_S_set 40 = .ok (.invokevirtual 153, 3) := by decide +kernel
theorem d_S_set_43 : decode b_S_set 43 = .ok (.ifCond .eq 10, 3) := by decide +kernel
theorem d_S_set_46 : decode b_S_set 46 = .ok (.aload_n 0, 1) := by decide +kernel
theorem d_S_set_47 : decode b_S_set 47 = .ok (.getfield 28, 3) := by decide +kernel
theorem d_S_set_50 : decode b_S_set 50 = .ok (.invokevirtual 47, 3) := by decide +kernel
theorem d_S_set_53 : decode b_S_set 53 = .ok (.aload_n 0, 1) := by decide +kernel
theorem d_S_set_54 : decode b_S_set 54 = .ok (.getfield 28, 3) := by decide +kernel
theorem d_S_set_57 : decode b_S_set 57 = .ok (.getfield 101, 3) := by decide +kernel
theorem d_S_set_60 : decode b_S_set 60 = .ok (.ifCond .le 7, 3) := by decide +kernel
theorem d_S_set_63 : decode b_S_set 63 = .ok (.iconst 1, 1) := by decide +kernel
theorem d_S_set_64 : decode b_S_set 64 = .ok (.goto 4, 3) := by decide +kernel
theorem d_S_set_67 : decode b_S_set 67 = .ok (.iconst 0, 1) := by decide +kernel
theorem d_S_set_68 : decode b_S_set 68 = .ok (.ireturn, 1) := by decide +kernel
abbrev b_S_unsure : ByteArray := prog_1_method_12_code
def y_S_unsure : MethodName := ⟨"SeatProofs", "unsure", "(IZ)Z"⟩
abbrev w_S_unsure : List Cond := .code y_S_unsure b_S_unsure 3 (some .boolean) :: gT
theorem d_S_unsure_0 : decode b_S_unsure 0 = .ok (.aload_n 0, 1) := by decide +kernel
theorem d_S_unsure_1 : decode b_S_unsure 1 = .ok (.getfield 12, 3) := by decide +kernel
theorem d_S_unsure_4 : decode b_S_unsure 4 = .ok (.iload_n 1, 1) := by decide +kernel
theorem d_S_unsure_5 : decode b_S_unsure 5 = .ok (.invokevirtual 136, 3) := by decide +kernel
theorem d_S_unsure_8 : decode b_S_unsure 8 = .ok (.ifCond .ne 13, 3) := by decide +kernel
theorem d_S_unsure_11 : decode b_S_unsure 11 = .ok (.new 139, 3) := by decide +kernel
theorem d_S_unsure_14 : decode b_S_unsure 14 = .ok (.dup, 1) := by decide +kernel
theorem d_S_unsure_15 : decode b_S_unsure 15 = .ok (.ldc 141, 2) := by decide +kernel
theorem d_S_unsure_17 : decode b_S_unsure 17 = .ok (.invokespecial 143, 3) := by decide +kernel
theorem d_S_unsure_20 : decode b_S_unsure 20 = .ok (.athrow, 1) := by decide +kernel
theorem d_S_unsure_21 : decode b_S_unsure 21 = .ok (.aload_n 0, 1) := by decide +kernel
theorem d_S_unsure_22 : decode b_S_unsure 22 = .ok (.getfield 12, 3) := by decide +kernel
theorem d_S_unsure_25 : decode b_S_unsure 25 = .ok (.getfield 157, 3) := by decide +kernel
theorem d_S_unsure_28 : decode b_S_unsure 28 = .ok (.iload_n 1, 1) := by decide +kernel
theorem d_S_unsure_29 : decode b_S_unsure 29 = .ok (.invokestatic 161, 3) := by decide +kernel
theorem d_S_unsure_32 : decode b_S_unsure 32 = .ok (.iload_n 2, 1) := by decide +kernel
theorem d_S_unsure_33 : decode b_S_unsure 33 = .ok (.if_icmp .ne 5, 3) := by decide +kernel
theorem d_S_unsure_36 : decode b_S_unsure 36 = .ok (.iconst 0, 1) := by decide +kernel
theorem d_S_unsure_37 : decode b_S_unsure 37 = .ok (.ireturn, 1) := by decide +kernel
theorem d_S_unsure_38 : decode b_S_unsure 38 = .ok (.aload_n 0, 1) := by decide +kernel
theorem d_S_unsure_39 : decode b_S_unsure 39 = .ok (.getfield 12, 3) := by decide +kernel
theorem d_S_unsure_42 : decode b_S_unsure 42 = .ok (.iload_n 1, 1) := by decide +kernel
theorem d_S_unsure_43 : decode b_S_unsure 43 = .ok (.iload_n 2, 1) := by decide +kernel
theorem d_S_unsure_44 : decode b_S_unsure 44 = .ok (.invokevirtual 165, 3) := by decide +kernel
theorem d_S_unsure_47 : decode b_S_unsure 47 = .ok (.aload_n 0, 1) := by decide +kernel
theorem d_S_unsure_48 : decode b_S_unsure 48 = .ok (.getfield 28, 3) := by decide +kernel
theorem d_S_unsure_51 : decode b_S_unsure 51 = .ok (.invokevirtual 47, 3) := by decide +kernel
theorem d_S_unsure_54 : decode b_S_unsure 54 = .ok (.iconst 1, 1) := by decide +kernel
theorem d_S_unsure_55 : decode b_S_unsure 55 = .ok (.ireturn, 1) := by decide +kernel
abbrev b_S_tested : ByteArray := prog_1_method_13_code
def y_S_tested : MethodName := ⟨"SeatProofs", "tested", "()I"⟩
abbrev w_S_tested : List Cond := .code y_S_tested b_S_tested 1 (some .int) :: gT
theorem d_S_tested_0 : decode b_S_tested 0 = .ok (.aload_n 0, 1) := by decide +kernel
theorem d_S_tested_1 : decode b_S_tested 1 = .ok (.getfield 40, 3) := by decide +kernel
theorem d_S_tested_4 : decode b_S_tested 4 = .ok (.ireturn, 1) := by decide +kernel
abbrev b_S_drop : ByteArray := prog_1_method_14_code
def y_S_drop : MethodName := ⟨"SeatProofs", "drop", "(I)Z"⟩
abbrev w_S_drop : List Cond := .code y_S_drop b_S_drop 2 (some .boolean) :: gT
theorem d_S_drop_0 : decode b_S_drop 0 = .ok (.aload_n 0, 1) := by decide +kernel
theorem d_S_drop_1 : decode b_S_drop 1 = .ok (.getfield 28, 3) := by decide +kernel
theorem d_S_drop_4 : decode b_S_drop 4 = .ok (.iload_n 1, 1) := by decide +kernel
theorem d_S_drop_5 : decode b_S_drop 5 = .ok (.invokevirtual 104, 3) := by decide +kernel
theorem d_S_drop_8 : decode b_S_drop 8 = .ok (.ifCond .ne 5, 3) := by decide +kernel
theorem d_S_drop_11 : decode b_S_drop 11 = .ok (.iconst 0, 1) := by decide +kernel
theorem d_S_drop_12 : decode b_S_drop 12 = .ok (.ireturn, 1) := by decide +kernel
theorem d_S_drop_13 : decode b_S_drop 13 = .ok (.aload_n 0, 1) := by decide +kernel
theorem d_S_drop_14 : decode b_S_drop 14 = .ok (.getfield 28, 3) := by decide +kernel
theorem d_S_drop_17 : decode b_S_drop 17 = .ok (.iload_n 1, 1) := by decide +kernel
theorem d_S_drop_18 : decode b_S_drop 18 = .ok (.invokevirtual 168, 3) := by decide +kernel
theorem d_S_drop_21 : decode b_S_drop 21 = .ok (.iconst 1, 1) := by decide +kernel
theorem d_S_drop_22 : decode b_S_drop 22 = .ok (.ireturn, 1) := by decide +kernel
abbrev b_S_clear : ByteArray := prog_1_method_15_code
def y_S_clear : MethodName := ⟨"SeatProofs", "clear", "()V"⟩
abbrev w_S_clear : List Cond := .code y_S_clear b_S_clear 1 none :: gT
theorem d_S_clear_0 : decode b_S_clear 0 = .ok (.aload_n 0, 1) := by decide +kernel
theorem d_S_clear_1 : decode b_S_clear 1 = .ok (.getfield 12, 3) := by decide +kernel
theorem d_S_clear_4 : decode b_S_clear 4 = .ok (.invokevirtual 171, 3) := by decide +kernel
theorem d_S_clear_7 : decode b_S_clear 7 = .ok (.aload_n 0, 1) := by decide +kernel
theorem d_S_clear_8 : decode b_S_clear 8 = .ok (.getfield 28, 3) := by decide +kernel
theorem d_S_clear_11 : decode b_S_clear 11 = .ok (.invokevirtual 47, 3) := by decide +kernel
theorem d_S_clear_14 : decode b_S_clear 14 = .ok (.aload_n 0, 1) := by decide +kernel
theorem d_S_clear_15 : decode b_S_clear 15 = .ok (.iconst 0, 1) := by decide +kernel
theorem d_S_clear_16 : decode b_S_clear 16 = .ok (.putfield 36, 3) := by decide +kernel
theorem d_S_clear_19 : decode b_S_clear 19 = .ok (.aload_n 0, 1) := by decide +kernel
theorem d_S_clear_20 : decode b_S_clear 20 = .ok (.iconst 0, 1) := by decide +kernel
theorem d_S_clear_21 : decode b_S_clear 21 = .ok (.putfield 40, 3) := by decide +kernel
theorem d_S_clear_24 : decode b_S_clear 24 = .ok (.return_, 1) := by decide +kernel
abbrev b_S_keepCulprit : ByteArray := prog_1_method_16_code
def y_S_keepCulprit : MethodName := ⟨"SeatProofs", "keepCulprit", "(II)V"⟩
abbrev w_S_keepCulprit : List Cond := .code y_S_keepCulprit b_S_keepCulprit 4 none :: gT
theorem d_S_keepCulprit_0 : decode b_S_keepCulprit 0 = .ok (.aload_n 0, 1) := by decide +kernel
theorem d_S_keepCulprit_1 : decode b_S_keepCulprit 1 = .ok (.iconst 1, 1) := by decide +kernel
theorem d_S_keepCulprit_2 : decode b_S_keepCulprit 2 = .ok (.putfield 36, 3) := by decide +kernel
theorem d_S_keepCulprit_5 : decode b_S_keepCulprit 5 = .ok (.aload_n 0, 1) := by decide +kernel
theorem d_S_keepCulprit_6 : decode b_S_keepCulprit 6 = .ok (.getfield 32, 3) := by decide +kernel
theorem d_S_keepCulprit_9 : decode b_S_keepCulprit 9 = .ok (.iconst 0, 1) := by decide +kernel
theorem d_S_keepCulprit_10 : decode b_S_keepCulprit 10 = .ok (.iload_n 1, 1) := by decide +kernel
theorem d_S_keepCulprit_11 : decode b_S_keepCulprit 11 = .ok (.iastore, 1) := by decide +kernel
theorem d_S_keepCulprit_12 : decode b_S_keepCulprit 12 = .ok (.aload_n 0, 1) := by decide +kernel
theorem d_S_keepCulprit_13 : decode b_S_keepCulprit 13 = .ok (.getfield 32, 3) := by decide +kernel
theorem d_S_keepCulprit_16 : decode b_S_keepCulprit 16 = .ok (.iconst 1, 1) := by decide +kernel
theorem d_S_keepCulprit_17 : decode b_S_keepCulprit 17 = .ok (.iload_n 2, 1) := by decide +kernel
theorem d_S_keepCulprit_18 : decode b_S_keepCulprit 18 = .ok (.iastore, 1) := by decide +kernel
theorem d_S_keepCulprit_19 : decode b_S_keepCulprit 19 = .ok (.aload_n 0, 1) := by decide +kernel
theorem d_S_keepCulprit_20 : decode b_S_keepCulprit 20 = .ok (.getfield 21, 3) := by decide +kernel
theorem d_S_keepCulprit_23 : decode b_S_keepCulprit 23 = .ok (.iload_n 2, 1) := by decide +kernel
theorem d_S_keepCulprit_24 : decode b_S_keepCulprit 24 = .ok (.iconst 0, 1) := by decide +kernel
theorem d_S_keepCulprit_25 : decode b_S_keepCulprit 25 = .ok (.invokevirtual 172, 3) := by decide +kernel
theorem d_S_keepCulprit_28 : decode b_S_keepCulprit 28 = .ok (.istore_n 3, 1) := by decide +kernel
theorem d_S_keepCulprit_29 : decode b_S_keepCulprit 29 = .ok (.aload_n 0, 1) := by decide +kernel
theorem d_S_keepCulprit_30 : decode b_S_keepCulprit 30 = .ok (.getfield 32, 3) := by decide +kernel
theorem d_S_keepCulprit_33 : decode b_S_keepCulprit 33 = .ok (.iconst 2, 1) := by decide +kernel
theorem d_S_keepCulprit_34 : decode b_S_keepCulprit 34 = .ok (.iload_n 3, 1) := by decide +kernel
theorem d_S_keepCulprit_35 : decode b_S_keepCulprit 35 = .ok (.iastore, 1) := by decide +kernel
theorem d_S_keepCulprit_36 : decode b_S_keepCulprit 36 = .ok (.aload_n 0, 1) := by decide +kernel
theorem d_S_keepCulprit_37 : decode b_S_keepCulprit 37 = .ok (.getfield 32, 3) := by decide +kernel
theorem d_S_keepCulprit_40 : decode b_S_keepCulprit 40 = .ok (.iconst 3, 1) := by decide +kernel
theorem d_S_keepCulprit_41 : decode b_S_keepCulprit 41 = .ok (.aload_n 0, 1) := by decide +kernel
theorem d_S_keepCulprit_42 : decode b_S_keepCulprit 42 = .ok (.getfield 21, 3) := by decide +kernel
theorem d_S_keepCulprit_45 : decode b_S_keepCulprit 45 = .ok (.iload_n 2, 1) := by decide +kernel
theorem d_S_keepCulprit_46 : decode b_S_keepCulprit 46 = .ok (.iload_n 3, 1) := by decide +kernel
theorem d_S_keepCulprit_47 : decode b_S_keepCulprit 47 = .ok (.invokevirtual 172, 3) := by decide +kernel
theorem d_S_keepCulprit_50 : decode b_S_keepCulprit 50 = .ok (.iastore, 1) := by decide +kernel
theorem d_S_keepCulprit_51 : decode b_S_keepCulprit 51 = .ok (.return_, 1) := by decide +kernel
abbrev b_S_addRows : ByteArray := prog_1_method_17_code
def y_S_addRows : MethodName := ⟨"SeatProofs", "addRows", "(I)V"⟩
abbrev w_S_addRows : List Cond := .code y_S_addRows b_S_addRows 5 none :: gT
theorem d_S_addRows_0 : decode b_S_addRows 0 = .ok (.iconst 1, 1) := by decide +kernel
theorem d_S_addRows_1 : decode b_S_addRows 1 = .ok (.istore_n 2, 1) := by decide +kernel
theorem d_S_addRows_2 : decode b_S_addRows 2 = .ok (.iload_n 2, 1) := by decide +kernel
theorem d_S_addRows_3 : decode b_S_addRows 3 = .ok (.bipush 16, 2) := by decide +kernel
theorem d_S_addRows_5 : decode b_S_addRows 5 = .ok (.if_icmp .ge 43, 3) := by decide +kernel
theorem d_S_addRows_8 : decode b_S_addRows 8 = .ok (.aload_n 0, 1) := by decide +kernel
theorem d_S_addRows_9 : decode b_S_addRows 9 = .ok (.getfield 21, 3) := by decide +kernel
theorem d_S_addRows_12 : decode b_S_addRows 12 = .ok (.getfield 176, 3) := by decide +kernel
theorem d_S_addRows_15 : decode b_S_addRows 15 = .ok (.iload_n 2, 1) := by decide +kernel
theorem d_S_addRows_16 : decode b_S_addRows 16 = .ok (.laload, 1) := by decide +kernel
theorem d_S_addRows_17 : decode b_S_addRows 17 = .ok (.lstore_n 3, 1) := by decide +kernel
theorem d_S_addRows_18 : decode b_S_addRows 18 = .ok (.lload_n 3, 1) := by decide +kernel
theorem d_S_addRows_19 : decode b_S_addRows 19 = .ok (.lconst 0, 1) := by decide +kernel
theorem d_S_addRows_20 : decode b_S_addRows 20 = .ok (.lcmp, 1) := by decide +kernel
theorem d_S_addRows_21 : decode b_S_addRows 21 = .ok (.ifCond .eq 21, 3) := by decide +kernel
theorem d_S_addRows_24 : decode b_S_addRows 24 = .ok (.aload_n 0, 1) := by decide +kernel
theorem d_S_addRows_25 : decode b_S_addRows 25 = .ok (.getfield 28, 3) := by decide +kernel
theorem d_S_addRows_28 : decode b_S_addRows 28 = .ok (.iload_n 1, 1) := by decide +kernel
theorem d_S_addRows_29 : decode b_S_addRows 29 = .ok (.iload_n 2, 1) := by decide +kernel
theorem d_S_addRows_30 : decode b_S_addRows 30 = .ok (.lload_n 3, 1) := by decide +kernel
theorem d_S_addRows_31 : decode b_S_addRows 31 = .ok (.aload_n 0, 1) := by decide +kernel
theorem d_S_addRows_32 : decode b_S_addRows 32 = .ok (.getfield 21, 3) := by decide +kernel
theorem d_S_addRows_35 : decode b_S_addRows 35 = .ok (.lload_n 3, 1) := by decide +kernel
theorem d_S_addRows_36 : decode b_S_addRows 36 = .ok (.invokevirtual 179, 3) := by decide +kernel
theorem d_S_addRows_39 : decode b_S_addRows 39 = .ok (.invokevirtual 183, 3) := by decide +kernel
theorem d_S_addRows_42 : decode b_S_addRows 42 = .ok (.iinc 2 1, 3) := by decide +kernel
theorem d_S_addRows_45 : decode b_S_addRows 45 = .ok (.goto (-43), 3) := by decide +kernel
theorem d_S_addRows_48 : decode b_S_addRows 48 = .ok (.return_, 1) := by decide +kernel
abbrev b_S_isRight : ByteArray := prog_1_method_18_code
def y_S_isRight : MethodName := ⟨"SeatProofs", "isRight", "(I)Z"⟩
abbrev w_S_isRight : List Cond := .code y_S_isRight b_S_isRight 5 (some .boolean) :: gT
theorem d_S_isRight_0 : decode b_S_isRight 0 = .ok (.aload_n 0, 1) := by decide +kernel
theorem d_S_isRight_1 : decode b_S_isRight 1 = .ok (.getfield 28, 3) := by decide +kernel
theorem d_S_isRight_4 : decode b_S_isRight 4 = .ok (.getfield 110, 3) := by decide +kernel
theorem d_S_isRight_7 : decode b_S_isRight 7 = .ok (.iload_n 1, 1) := by decide +kernel
theorem d_S_isRight_8 : decode b_S_isRight 8 = .ok (.iaload, 1) := by decide +kernel
theorem d_S_isRight_9 : decode b_S_isRight 9 = .ok (.istore_n 2, 1) := by decide +kernel
theorem d_S_isRight_10 : decode b_S_isRight 10 = .ok (.aload_n 0, 1) := by decide +kernel
theorem d_S_isRight_11 : decode b_S_isRight 11 = .ok (.getfield 28, 3) := by decide +kernel
theorem d_S_isRight_14 : decode b_S_isRight 14 = .ok (.getfield 113, 3) := by decide +kernel
theorem d_S_isRight_17 : decode b_S_isRight 17 = .ok (.iload_n 1, 1) := by decide +kernel
theorem d_S_isRight_18 : decode b_S_isRight 18 = .ok (.laload, 1) := by decide +kernel
theorem d_S_isRight_19 : decode b_S_isRight 19 = .ok (.lstore_n 3, 1) := by decide +kernel
theorem d_S_isRight_20 : decode b_S_isRight 20 = .ok (.lload_n 3, 1) := by decide +kernel
theorem d_S_isRight_21 : decode b_S_isRight 21 = .ok (.aload_n 0, 1) := by decide +kernel
theorem d_S_isRight_22 : decode b_S_isRight 22 = .ok (.getfield 21, 3) := by decide +kernel
theorem d_S_isRight_25 : decode b_S_isRight 25 = .ok (.getfield 176, 3) := by decide +kernel
theorem d_S_isRight_28 : decode b_S_isRight 28 = .ok (.iload_n 2, 1) := by decide +kernel
theorem d_S_isRight_29 : decode b_S_isRight 29 = .ok (.laload, 1) := by decide +kernel
theorem d_S_isRight_30 : decode b_S_isRight 30 = .ok (.lcmp, 1) := by decide +kernel
theorem d_S_isRight_31 : decode b_S_isRight 31 = .ok (.ifCond .ne 40, 3) := by decide +kernel
theorem d_S_isRight_34 : decode b_S_isRight 34 = .ok (.aload_n 0, 1) := by decide +kernel
theorem d_S_isRight_35 : decode b_S_isRight 35 = .ok (.getfield 28, 3) := by decide +kernel
theorem d_S_isRight_38 : decode b_S_isRight 38 = .ok (.getfield 122, 3) := by decide +kernel
theorem d_S_isRight_41 : decode b_S_isRight 41 = .ok (.iload_n 1, 1) := by decide +kernel
theorem d_S_isRight_42 : decode b_S_isRight 42 = .ok (.laload, 1) := by decide +kernel
theorem d_S_isRight_43 : decode b_S_isRight 43 = .ok (.aload_n 0, 1) := by decide +kernel
theorem d_S_isRight_44 : decode b_S_isRight 44 = .ok (.getfield 21, 3) := by decide +kernel
theorem d_S_isRight_47 : decode b_S_isRight 47 = .ok (.lload_n 3, 1) := by decide +kernel
theorem d_S_isRight_48 : decode b_S_isRight 48 = .ok (.invokevirtual 179, 3) := by decide +kernel
theorem d_S_isRight_51 : decode b_S_isRight 51 = .ok (.lcmp, 1) := by decide +kernel
theorem d_S_isRight_52 : decode b_S_isRight 52 = .ok (.ifCond .ne 19, 3) := by decide +kernel
theorem d_S_isRight_55 : decode b_S_isRight 55 = .ok (.aload_n 0, 1) := by decide +kernel
theorem d_S_isRight_56 : decode b_S_isRight 56 = .ok (.getfield 21, 3) := by decide +kernel
theorem d_S_isRight_59 : decode b_S_isRight 59 = .ok (.iload_n 2, 1) := by decide +kernel
theorem d_S_isRight_60 : decode b_S_isRight 60 = .ok (.lload_n 3, 1) := by decide +kernel
theorem d_S_isRight_61 : decode b_S_isRight 61 = .ok (.invokevirtual 187, 3) := by decide +kernel
theorem d_S_isRight_64 : decode b_S_isRight 64 = .ok (.ifCond .ne 7, 3) := by decide +kernel
theorem d_S_isRight_67 : decode b_S_isRight 67 = .ok (.iconst 1, 1) := by decide +kernel
theorem d_S_isRight_68 : decode b_S_isRight 68 = .ok (.goto 4, 3) := by decide +kernel
theorem d_S_isRight_71 : decode b_S_isRight 71 = .ok (.iconst 0, 1) := by decide +kernel
theorem d_S_isRight_72 : decode b_S_isRight 72 = .ok (.ireturn, 1) := by decide +kernel
abbrev b_S_remakeTouched : ByteArray := prog_1_method_19_code
def y_S_remakeTouched : MethodName := ⟨"SeatProofs", "remakeTouched", "(I)I"⟩
abbrev w_S_remakeTouched : List Cond := .code y_S_remakeTouched b_S_remakeTouched 5 (some .int) :: gT
theorem d_S_remakeTouched_0 : decode b_S_remakeTouched 0 = .ok (.iconst (-1), 1) := by decide +kernel
theorem d_S_remakeTouched_1 : decode b_S_remakeTouched 1 = .ok (.istore_n 2, 1) := by decide +kernel
theorem d_S_remakeTouched_2 : decode b_S_remakeTouched 2 = .ok (.iconst 0, 1) := by decide +kernel
theorem d_S_remakeTouched_3 : decode b_S_remakeTouched 3 = .ok (.istore_n 3, 1) := by decide +kernel
theorem d_S_remakeTouched_4 : decode b_S_remakeTouched 4 = .ok (.iconst 0, 1) := by decide +kernel
theorem d_S_remakeTouched_5 : decode b_S_remakeTouched 5 = .ok (.istore 4, 2) := by decide +kernel
theorem d_S_remakeTouched_7 : decode b_S_remakeTouched 7 = .ok (.iload 4, 2) := by decide +kernel
theorem d_S_remakeTouched_9 : decode b_S_remakeTouched 9 = .ok (.aload_n 0, 1) := by decide +kernel
theorem d_S_remakeTouched_10 : decode b_S_remakeTouched 10 = .ok (.getfield 28, 3) := by decide +kernel
theorem d_S_remakeTouched_13 : decode b_S_remakeTouched 13 = .ok (.getfield 101, 3) := by decide +kernel
theorem d_S_remakeTouched_16 : decode b_S_remakeTouched 16 = .ok (.if_icmp .ge 109, 3) := by decide +kernel
theorem d_S_remakeTouched_19 : decode b_S_remakeTouched 19 = .ok (.aload_n 0, 1) := by decide +kernel
theorem d_S_remakeTouched_20 : decode b_S_remakeTouched 20 = .ok (.iload 4, 2) := by decide +kernel
theorem d_S_remakeTouched_22 : decode b_S_remakeTouched 22 = .ok (.iload_n 1, 1) := by decide +kernel
theorem d_S_remakeTouched_23 : decode b_S_remakeTouched 23 = .ok (.invokevirtual 191, 3) := by decide +kernel
theorem d_S_remakeTouched_26 : decode b_S_remakeTouched 26 = .ok (.ifCond .eq 93, 3) := by decide +kernel
theorem d_S_remakeTouched_29 : decode b_S_remakeTouched 29 = .ok (.aload_n 0, 1) := by decide +kernel
theorem d_S_remakeTouched_30 : decode b_S_remakeTouched 30 = .ok (.getfield 28, 3) := by decide +kernel
theorem d_S_remakeTouched_33 : decode b_S_remakeTouched 33 = .ok (.getfield 107, 3) := by decide +kernel
theorem d_S_remakeTouched_36 : decode b_S_remakeTouched 36 = .ok (.iload 4, 2) := by decide +kernel
theorem d_S_remakeTouched_38 : decode b_S_remakeTouched 38 = .ok (.iaload, 1) := by decide +kernel
theorem d_S_remakeTouched_39 : decode b_S_remakeTouched 39 = .ok (.iload_n 2, 1) := by decide +kernel
theorem d_S_remakeTouched_40 : decode b_S_remakeTouched 40 = .ok (.if_icmp .eq 22, 3) := by decide +kernel
theorem d_S_remakeTouched_43 : decode b_S_remakeTouched 43 = .ok (.aload_n 0, 1) := by decide +kernel
theorem d_S_remakeTouched_44 : decode b_S_remakeTouched 44 = .ok (.getfield 28, 3) := by decide +kernel
theorem d_S_remakeTouched_47 : decode b_S_remakeTouched 47 = .ok (.getfield 107, 3) := by decide +kernel
theorem d_S_remakeTouched_50 : decode b_S_remakeTouched 50 = .ok (.iload 4, 2) := by decide +kernel
theorem d_S_remakeTouched_52 : decode b_S_remakeTouched 52 = .ok (.iaload, 1) := by decide +kernel
theorem d_S_remakeTouched_53 : decode b_S_remakeTouched 53 = .ok (.istore_n 2, 1) := by decide +kernel
theorem d_S_remakeTouched_54 : decode b_S_remakeTouched 54 = .ok (.aload_n 0, 1) := by decide +kernel
theorem d_S_remakeTouched_55 : decode b_S_remakeTouched 55 = .ok (.getfield 21, 3) := by decide +kernel
theorem d_S_remakeTouched_58 : decode b_S_remakeTouched 58 = .ok (.iload_n 2, 1) := by decide +kernel
theorem d_S_remakeTouched_59 : decode b_S_remakeTouched 59 = .ok (.invokevirtual 80, 3) := by decide +kernel
theorem d_S_remakeTouched_62 : decode b_S_remakeTouched 62 = .ok (.aload_n 0, 1) := by decide +kernel
theorem d_S_remakeTouched_63 : decode b_S_remakeTouched 63 = .ok (.getfield 28, 3) := by decide +kernel
theorem d_S_remakeTouched_66 : decode b_S_remakeTouched 66 = .ok (.getfield 113, 3) := by decide +kernel
theorem d_S_remakeTouched_69 : decode b_S_remakeTouched 69 = .ok (.iload 4, 2) := by decide +kernel
theorem d_S_remakeTouched_71 : decode b_S_remakeTouched 71 = .ok (.aload_n 0, 1) := by decide +kernel
theorem d_S_remakeTouched_72 : decode b_S_remakeTouched 72 = .ok (.getfield 21, 3) := by decide +kernel
theorem d_S_remakeTouched_75 : decode b_S_remakeTouched 75 = .ok (.aload_n 0, 1) := by decide +kernel
theorem d_S_remakeTouched_76 : decode b_S_remakeTouched 76 = .ok (.getfield 28, 3) := by decide +kernel
theorem d_S_remakeTouched_79 : decode b_S_remakeTouched 79 = .ok (.getfield 110, 3) := by decide +kernel
theorem d_S_remakeTouched_82 : decode b_S_remakeTouched 82 = .ok (.iload 4, 2) := by decide +kernel
theorem d_S_remakeTouched_84 : decode b_S_remakeTouched 84 = .ok (.iaload, 1) := by decide +kernel
theorem d_S_remakeTouched_85 : decode b_S_remakeTouched 85 = .ok (.invokevirtual 194, 3) := by decide +kernel
theorem d_S_remakeTouched_88 : decode b_S_remakeTouched 88 = .ok (.lastore, 1) := by decide +kernel
theorem d_S_remakeTouched_89 : decode b_S_remakeTouched 89 = .ok (.aload_n 0, 1) := by decide +kernel
theorem d_S_remakeTouched_90 : decode b_S_remakeTouched 90 = .ok (.getfield 28, 3) := by decide +kernel
theorem d_S_remakeTouched_93 : decode b_S_remakeTouched 93 = .ok (.getfield 122, 3) := by decide +kernel
theorem d_S_remakeTouched_96 : decode b_S_remakeTouched 96 = .ok (.iload 4, 2) := by decide +kernel
theorem d_S_remakeTouched_98 : decode b_S_remakeTouched 98 = .ok (.aload_n 0, 1) := by decide +kernel
theorem d_S_remakeTouched_99 : decode b_S_remakeTouched 99 = .ok (.getfield 21, 3) := by decide +kernel
theorem d_S_remakeTouched_102 : decode b_S_remakeTouched 102 = .ok (.aload_n 0, 1) := by decide +kernel
theorem d_S_remakeTouched_103 : decode b_S_remakeTouched 103 = .ok (.getfield 28, 3) := by decide +kernel
theorem d_S_remakeTouched_106 : decode b_S_remakeTouched 106 = .ok (.getfield 113, 3) := by decide +kernel
theorem d_S_remakeTouched_109 : decode b_S_remakeTouched 109 = .ok (.iload 4, 2) := by decide +kernel
theorem d_S_remakeTouched_111 : decode b_S_remakeTouched 111 = .ok (.laload, 1) := by decide +kernel
theorem d_S_remakeTouched_112 : decode b_S_remakeTouched 112 = .ok (.invokevirtual 179, 3) := by decide +kernel
theorem d_S_remakeTouched_115 : decode b_S_remakeTouched 115 = .ok (.lastore, 1) := by decide +kernel
theorem d_S_remakeTouched_116 : decode b_S_remakeTouched 116 = .ok (.iinc 3 1, 3) := by decide +kernel
theorem d_S_remakeTouched_119 : decode b_S_remakeTouched 119 = .ok (.iinc 4 1, 3) := by decide +kernel
theorem d_S_remakeTouched_122 : decode b_S_remakeTouched 122 = .ok (.goto (-115), 3) := by decide +kernel
theorem d_S_remakeTouched_125 : decode b_S_remakeTouched 125 = .ok (.iload_n 3, 1) := by decide +kernel
theorem d_S_remakeTouched_126 : decode b_S_remakeTouched 126 = .ok (.ireturn, 1) := by decide +kernel
abbrev b_S_isTouched : ByteArray := prog_1_method_20_code
def y_S_isTouched : MethodName := ⟨"SeatProofs", "isTouched", "(II)Z"⟩
abbrev w_S_isTouched : List Cond := .code y_S_isTouched b_S_isTouched 3 (some .boolean) :: gT
theorem d_S_isTouched_0 : decode b_S_isTouched 0 = .ok (.aload_n 0, 1) := by decide +kernel
theorem d_S_isTouched_1 : decode b_S_isTouched 1 = .ok (.getfield 28, 3) := by decide +kernel
theorem d_S_isTouched_4 : decode b_S_isTouched 4 = .ok (.getfield 107, 3) := by decide +kernel
theorem d_S_isTouched_7 : decode b_S_isTouched 7 = .ok (.iload_n 1, 1) := by decide +kernel
theorem d_S_isTouched_8 : decode b_S_isTouched 8 = .ok (.iaload, 1) := by decide +kernel
theorem d_S_isTouched_9 : decode b_S_isTouched 9 = .ok (.iconst 1, 1) := by decide +kernel
theorem d_S_isTouched_10 : decode b_S_isTouched 10 = .ok (.iload_n 2, 1) := by decide +kernel
theorem d_S_isTouched_11 : decode b_S_isTouched 11 = .ok (.iadd, 1) := by decide +kernel
theorem d_S_isTouched_12 : decode b_S_isTouched 12 = .ok (.if_icmp .eq 51, 3) := by decide +kernel
theorem d_S_isTouched_15 : decode b_S_isTouched 15 = .ok (.aload_n 0, 1) := by decide +kernel
theorem d_S_isTouched_16 : decode b_S_isTouched 16 = .ok (.getfield 28, 3) := by decide +kernel
theorem d_S_isTouched_19 : decode b_S_isTouched 19 = .ok (.getfield 113, 3) := by decide +kernel
theorem d_S_isTouched_22 : decode b_S_isTouched 22 = .ok (.iload_n 1, 1) := by decide +kernel
theorem d_S_isTouched_23 : decode b_S_isTouched 23 = .ok (.laload, 1) := by decide +kernel
theorem d_S_isTouched_24 : decode b_S_isTouched 24 = .ok (.aload_n 0, 1) := by decide +kernel
theorem d_S_isTouched_25 : decode b_S_isTouched 25 = .ok (.getfield 12, 3) := by decide +kernel
theorem d_S_isTouched_28 : decode b_S_isTouched 28 = .ok (.getfield 198, 3) := by decide +kernel
theorem d_S_isTouched_31 : decode b_S_isTouched 31 = .ok (.iload_n 2, 1) := by decide +kernel
theorem d_S_isTouched_32 : decode b_S_isTouched 32 = .ok (.iaload, 1) := by decide +kernel
theorem d_S_isTouched_33 : decode b_S_isTouched 33 = .ok (.invokestatic 161, 3) := by decide +kernel
theorem d_S_isTouched_36 : decode b_S_isTouched 36 = .ok (.ifCond .ne 27, 3) := by decide +kernel
theorem d_S_isTouched_39 : decode b_S_isTouched 39 = .ok (.aload_n 0, 1) := by decide +kernel
theorem d_S_isTouched_40 : decode b_S_isTouched 40 = .ok (.getfield 28, 3) := by decide +kernel
theorem d_S_isTouched_43 : decode b_S_isTouched 43 = .ok (.getfield 113, 3) := by decide +kernel
theorem d_S_isTouched_46 : decode b_S_isTouched 46 = .ok (.iload_n 1, 1) := by decide +kernel
theorem d_S_isTouched_47 : decode b_S_isTouched 47 = .ok (.laload, 1) := by decide +kernel
theorem d_S_isTouched_48 : decode b_S_isTouched 48 = .ok (.aload_n 0, 1) := by decide +kernel
theorem d_S_isTouched_49 : decode b_S_isTouched 49 = .ok (.getfield 12, 3) := by decide +kernel
theorem d_S_isTouched_52 : decode b_S_isTouched 52 = .ok (.getfield 201, 3) := by decide +kernel
theorem d_S_isTouched_55 : decode b_S_isTouched 55 = .ok (.iload_n 2, 1) := by decide +kernel
theorem d_S_isTouched_56 : decode b_S_isTouched 56 = .ok (.iaload, 1) := by decide +kernel
theorem d_S_isTouched_57 : decode b_S_isTouched 57 = .ok (.invokestatic 161, 3) := by decide +kernel
theorem d_S_isTouched_60 : decode b_S_isTouched 60 = .ok (.ifCond .eq 7, 3) := by decide +kernel
theorem d_S_isTouched_63 : decode b_S_isTouched 63 = .ok (.iconst 1, 1) := by decide +kernel
theorem d_S_isTouched_64 : decode b_S_isTouched 64 = .ok (.goto 4, 3) := by decide +kernel
theorem d_S_isTouched_67 : decode b_S_isTouched 67 = .ok (.iconst 0, 1) := by decide +kernel
theorem d_S_isTouched_68 : decode b_S_isTouched 68 = .ok (.ireturn, 1) := by decide +kernel
abbrev b_S_rowsClash : ByteArray := prog_1_method_21_code
def y_S_rowsClash : MethodName := ⟨"SeatProofs", "rowsClash", "()Z"⟩
abbrev w_S_rowsClash : List Cond := .code y_S_rowsClash b_S_rowsClash 3 (some .boolean) :: gT
theorem d_S_rowsClash_0 : decode b_S_rowsClash 0 = .ok (.iconst 0, 1) := by decide +kernel
theorem d_S_rowsClash_1 : decode b_S_rowsClash 1 = .ok (.istore_n 1, 1) := by decide +kernel
theorem d_S_rowsClash_2 : decode b_S_rowsClash 2 = .ok (.iload_n 1, 1) := by decide +kernel
theorem d_S_rowsClash_3 : decode b_S_rowsClash 3 = .ok (.aload_n 0, 1) := by decide +kernel
theorem d_S_rowsClash_4 : decode b_S_rowsClash 4 = .ok (.getfield 28, 3) := by decide +kernel
theorem d_S_rowsClash_7 : decode b_S_rowsClash 7 = .ok (.getfield 101, 3) := by decide +kernel
theorem d_S_rowsClash_10 : decode b_S_rowsClash 10 = .ok (.if_icmp .ge 105, 3) := by decide +kernel
theorem d_S_rowsClash_13 : decode b_S_rowsClash 13 = .ok (.iload_n 1, 1) := by decide +kernel
theorem d_S_rowsClash_14 : decode b_S_rowsClash 14 = .ok (.iconst 1, 1) := by decide +kernel
theorem d_S_rowsClash_15 : decode b_S_rowsClash 15 = .ok (.iadd, 1) := by decide +kernel
theorem d_S_rowsClash_16 : decode b_S_rowsClash 16 = .ok (.istore_n 2, 1) := by decide +kernel
theorem d_S_rowsClash_17 : decode b_S_rowsClash 17 = .ok (.iload_n 2, 1) := by decide +kernel
theorem d_S_rowsClash_18 : decode b_S_rowsClash 18 = .ok (.aload_n 0, 1) := by decide +kernel
theorem d_S_rowsClash_19 : decode b_S_rowsClash 19 = .ok (.getfield 28, 3) := by decide +kernel
theorem d_S_rowsClash_22 : decode b_S_rowsClash 22 = .ok (.getfield 101, 3) := by decide +kernel
theorem d_S_rowsClash_25 : decode b_S_rowsClash 25 = .ok (.if_icmp .ge 84, 3) := by decide +kernel
theorem d_S_rowsClash_28 : decode b_S_rowsClash 28 = .ok (.aload_n 0, 1) := by decide +kernel
theorem d_S_rowsClash_29 : decode b_S_rowsClash 29 = .ok (.getfield 28, 3) := by decide +kernel
theorem d_S_rowsClash_32 : decode b_S_rowsClash 32 = .ok (.getfield 107, 3) := by decide +kernel
theorem d_S_rowsClash_35 : decode b_S_rowsClash 35 = .ok (.iload_n 2, 1) := by decide +kernel
theorem d_S_rowsClash_36 : decode b_S_rowsClash 36 = .ok (.iaload, 1) := by decide +kernel
theorem d_S_rowsClash_37 : decode b_S_rowsClash 37 = .ok (.aload_n 0, 1) := by decide +kernel
theorem d_S_rowsClash_38 : decode b_S_rowsClash 38 = .ok (.getfield 28, 3) := by decide +kernel
theorem d_S_rowsClash_41 : decode b_S_rowsClash 41 = .ok (.getfield 107, 3) := by decide +kernel
theorem d_S_rowsClash_44 : decode b_S_rowsClash 44 = .ok (.iload_n 1, 1) := by decide +kernel
theorem d_S_rowsClash_45 : decode b_S_rowsClash 45 = .ok (.iaload, 1) := by decide +kernel
theorem d_S_rowsClash_46 : decode b_S_rowsClash 46 = .ok (.if_icmp .ne 63, 3) := by decide +kernel
theorem d_S_rowsClash_49 : decode b_S_rowsClash 49 = .ok (.aload_n 0, 1) := by decide +kernel
theorem d_S_rowsClash_50 : decode b_S_rowsClash 50 = .ok (.getfield 28, 3) := by decide +kernel
theorem d_S_rowsClash_53 : decode b_S_rowsClash 53 = .ok (.getfield 113, 3) := by decide +kernel
theorem d_S_rowsClash_56 : decode b_S_rowsClash 56 = .ok (.iload_n 1, 1) := by decide +kernel
theorem d_S_rowsClash_57 : decode b_S_rowsClash 57 = .ok (.laload, 1) := by decide +kernel
theorem d_S_rowsClash_58 : decode b_S_rowsClash 58 = .ok (.aload_n 0, 1) := by decide +kernel
theorem d_S_rowsClash_59 : decode b_S_rowsClash 59 = .ok (.getfield 28, 3) := by decide +kernel
theorem d_S_rowsClash_62 : decode b_S_rowsClash 62 = .ok (.getfield 113, 3) := by decide +kernel
theorem d_S_rowsClash_65 : decode b_S_rowsClash 65 = .ok (.iload_n 2, 1) := by decide +kernel
theorem d_S_rowsClash_66 : decode b_S_rowsClash 66 = .ok (.laload, 1) := by decide +kernel
theorem d_S_rowsClash_67 : decode b_S_rowsClash 67 = .ok (.land, 1) := by decide +kernel
theorem d_S_rowsClash_68 : decode b_S_rowsClash 68 = .ok (.lconst 0, 1) := by decide +kernel
theorem d_S_rowsClash_69 : decode b_S_rowsClash 69 = .ok (.lcmp, 1) := by decide +kernel
theorem d_S_rowsClash_70 : decode b_S_rowsClash 70 = .ok (.ifCond .eq 33, 3) := by decide +kernel
theorem d_S_rowsClash_73 : decode b_S_rowsClash 73 = .ok (.aload_n 0, 1) := by decide +kernel
theorem d_S_rowsClash_74 : decode b_S_rowsClash 74 = .ok (.getfield 12, 3) := by decide +kernel
theorem d_S_rowsClash_77 : decode b_S_rowsClash 77 = .ok (.aload_n 0, 1) := by decide +kernel
theorem d_S_rowsClash_78 : decode b_S_rowsClash 78 = .ok (.getfield 28, 3) := by decide +kernel
theorem d_S_rowsClash_81 : decode b_S_rowsClash 81 = .ok (.getfield 110, 3) := by decide +kernel
theorem d_S_rowsClash_84 : decode b_S_rowsClash 84 = .ok (.iload_n 1, 1) := by decide +kernel
theorem d_S_rowsClash_85 : decode b_S_rowsClash 85 = .ok (.iaload, 1) := by decide +kernel
theorem d_S_rowsClash_86 : decode b_S_rowsClash 86 = .ok (.aload_n 0, 1) := by decide +kernel
theorem d_S_rowsClash_87 : decode b_S_rowsClash 87 = .ok (.getfield 28, 3) := by decide +kernel
theorem d_S_rowsClash_90 : decode b_S_rowsClash 90 = .ok (.getfield 110, 3) := by decide +kernel
theorem d_S_rowsClash_93 : decode b_S_rowsClash 93 = .ok (.iload_n 2, 1) := by decide +kernel
theorem d_S_rowsClash_94 : decode b_S_rowsClash 94 = .ok (.iaload, 1) := by decide +kernel
theorem d_S_rowsClash_95 : decode b_S_rowsClash 95 = .ok (.invokevirtual 72, 3) := by decide +kernel
theorem d_S_rowsClash_98 : decode b_S_rowsClash 98 = .ok (.ifCond .ne 5, 3) := by decide +kernel
theorem d_S_rowsClash_101 : decode b_S_rowsClash 101 = .ok (.iconst 1, 1) := by decide +kernel
theorem d_S_rowsClash_102 : decode b_S_rowsClash 102 = .ok (.ireturn, 1) := by decide +kernel
theorem d_S_rowsClash_103 : decode b_S_rowsClash 103 = .ok (.iinc 2 1, 3) := by decide +kernel
theorem d_S_rowsClash_106 : decode b_S_rowsClash 106 = .ok (.goto (-89), 3) := by decide +kernel
theorem d_S_rowsClash_109 : decode b_S_rowsClash 109 = .ok (.iinc 1 1, 3) := by decide +kernel
theorem d_S_rowsClash_112 : decode b_S_rowsClash 112 = .ok (.goto (-110), 3) := by decide +kernel
theorem d_S_rowsClash_115 : decode b_S_rowsClash 115 = .ok (.iconst 0, 1) := by decide +kernel
theorem d_S_rowsClash_116 : decode b_S_rowsClash 116 = .ok (.ireturn, 1) := by decide +kernel
abbrev b_S_isLiquid : ByteArray := prog_1_method_22_code
def y_S_isLiquid : MethodName := ⟨"SeatProofs", "isLiquid", "(I)Z"⟩
abbrev w_S_isLiquid : List Cond := .code y_S_isLiquid b_S_isLiquid 1 (some .boolean) :: gT
theorem d_S_isLiquid_0 : decode b_S_isLiquid 0 = .ok (.iload_n 0, 1) := by decide +kernel
theorem d_S_isLiquid_1 : decode b_S_isLiquid 1 = .ok (.iconst 1, 1) := by decide +kernel
theorem d_S_isLiquid_2 : decode b_S_isLiquid 2 = .ok (.if_icmp .lt 13, 3) := by decide +kernel
theorem d_S_isLiquid_5 : decode b_S_isLiquid 5 = .ok (.iload_n 0, 1) := by decide +kernel
theorem d_S_isLiquid_6 : decode b_S_isLiquid 6 = .ok (.bipush 16, 2) := by decide +kernel
theorem d_S_isLiquid_8 : decode b_S_isLiquid 8 = .ok (.if_icmp .ge 7, 3) := by decide +kernel
theorem d_S_isLiquid_11 : decode b_S_isLiquid 11 = .ok (.iconst 1, 1) := by decide +kernel
theorem d_S_isLiquid_12 : decode b_S_isLiquid 12 = .ok (.goto 4, 3) := by decide +kernel
theorem d_S_isLiquid_15 : decode b_S_isLiquid 15 = .ok (.iconst 0, 1) := by decide +kernel
theorem d_S_isLiquid_16 : decode b_S_isLiquid 16 = .ok (.ireturn, 1) := by decide +kernel
abbrev b_S_only : ByteArray := prog_1_method_23_code
def y_S_only : MethodName := ⟨"SeatProofs", "only", "(I)J"⟩
abbrev w_S_only : List Cond := .code y_S_only b_S_only 1 (some .long) :: gT
theorem d_S_only_0 : decode b_S_only 0 = .ok (.lconst 1, 1) := by decide +kernel
theorem d_S_only_1 : decode b_S_only 1 = .ok (.iload_n 0, 1) := by decide +kernel
theorem d_S_only_2 : decode b_S_only 2 = .ok (.lshl, 1) := by decide +kernel
theorem d_S_only_3 : decode b_S_only 3 = .ok (.lreturn, 1) := by decide +kernel
abbrev b_S_has : ByteArray := prog_1_method_24_code
def y_S_has : MethodName := ⟨"SeatProofs", "has", "(JI)Z"⟩
abbrev w_S_has : List Cond := .code y_S_has b_S_has 3 (some .boolean) :: gT
theorem d_S_has_0 : decode b_S_has 0 = .ok (.lload_n 0, 1) := by decide +kernel
theorem d_S_has_1 : decode b_S_has 1 = .ok (.iload_n 2, 1) := by decide +kernel
theorem d_S_has_2 : decode b_S_has 2 = .ok (.invokestatic 204, 3) := by decide +kernel
theorem d_S_has_5 : decode b_S_has 5 = .ok (.land, 1) := by decide +kernel
theorem d_S_has_6 : decode b_S_has 6 = .ok (.lconst 0, 1) := by decide +kernel
theorem d_S_has_7 : decode b_S_has 7 = .ok (.lcmp, 1) := by decide +kernel
theorem d_S_has_8 : decode b_S_has 8 = .ok (.ifCond .eq 7, 3) := by decide +kernel
theorem d_S_has_11 : decode b_S_has 11 = .ok (.iconst 1, 1) := by decide +kernel
theorem d_S_has_12 : decode b_S_has 12 = .ok (.goto 4, 3) := by decide +kernel
theorem d_S_has_15 : decode b_S_has 15 = .ok (.iconst 0, 1) := by decide +kernel
theorem d_S_has_16 : decode b_S_has 16 = .ok (.ireturn, 1) := by decide +kernel
abbrev b_S_lowest : ByteArray := prog_1_method_25_code
def y_S_lowest : MethodName := ⟨"SeatProofs", "lowest", "(J)I"⟩
abbrev w_S_lowest : List Cond := .code y_S_lowest b_S_lowest 2 (some .int) :: gT
theorem d_S_lowest_0 : decode b_S_lowest 0 = .ok (.lload_n 0, 1) := by decide +kernel
theorem d_S_lowest_1 : decode b_S_lowest 1 = .ok (.lload_n 0, 1) := by decide +kernel
theorem d_S_lowest_2 : decode b_S_lowest 2 = .ok (.lneg, 1) := by decide +kernel
theorem d_S_lowest_3 : decode b_S_lowest 3 = .ok (.land, 1) := by decide +kernel
theorem d_S_lowest_4 : decode b_S_lowest 4 = .ok (.lconst 1, 1) := by decide +kernel
theorem d_S_lowest_5 : decode b_S_lowest 5 = .ok (.lsub, 1) := by decide +kernel
theorem d_S_lowest_6 : decode b_S_lowest 6 = .ok (.invokestatic 117, 3) := by decide +kernel
theorem d_S_lowest_9 : decode b_S_lowest 9 = .ok (.ireturn, 1) := by decide +kernel
abbrev b_S_memberAt : ByteArray := prog_1_method_26_code
def y_S_memberAt : MethodName := ⟨"SeatProofs", "memberAt", "(JI)I"⟩
abbrev w_S_memberAt : List Cond := .code y_S_memberAt b_S_memberAt 6 (some .int) :: gT
theorem d_S_memberAt_0 : decode b_S_memberAt 0 = .ok (.iload_n 2, 1) := by decide +kernel
theorem d_S_memberAt_1 : decode b_S_memberAt 1 = .ok (.ifCond .lt 11, 3) := by decide +kernel
theorem d_S_memberAt_4 : decode b_S_memberAt 4 = .ok (.iload_n 2, 1) := by decide +kernel
theorem d_S_memberAt_5 : decode b_S_memberAt 5 = .ok (.lload_n 0, 1) := by decide +kernel
theorem d_S_memberAt_6 : decode b_S_memberAt 6 = .ok (.invokestatic 117, 3) := by decide +kernel
theorem d_S_memberAt_9 : decode b_S_memberAt 9 = .ok (.if_icmp .lt 5, 3) := by decide +kernel
theorem d_S_memberAt_12 : decode b_S_memberAt 12 = .ok (.iconst (-1), 1) := by decide +kernel
theorem d_S_memberAt_13 : decode b_S_memberAt 13 = .ok (.ireturn, 1) := by decide +kernel
theorem d_S_memberAt_14 : decode b_S_memberAt 14 = .ok (.lload_n 0, 1) := by decide +kernel
theorem d_S_memberAt_15 : decode b_S_memberAt 15 = .ok (.lstore_n 3, 1) := by decide +kernel
theorem d_S_memberAt_16 : decode b_S_memberAt 16 = .ok (.iconst 0, 1) := by decide +kernel
theorem d_S_memberAt_17 : decode b_S_memberAt 17 = .ok (.istore 5, 2) := by decide +kernel
theorem d_S_memberAt_19 : decode b_S_memberAt 19 = .ok (.iload 5, 2) := by decide +kernel
theorem d_S_memberAt_21 : decode b_S_memberAt 21 = .ok (.iload_n 2, 1) := by decide +kernel
theorem d_S_memberAt_22 : decode b_S_memberAt 22 = .ok (.if_icmp .ge 15, 3) := by decide +kernel
theorem d_S_memberAt_25 : decode b_S_memberAt 25 = .ok (.lload_n 3, 1) := by decide +kernel
theorem d_S_memberAt_26 : decode b_S_memberAt 26 = .ok (.lload_n 3, 1) := by decide +kernel
theorem d_S_memberAt_27 : decode b_S_memberAt 27 = .ok (.lconst 1, 1) := by decide +kernel
theorem d_S_memberAt_28 : decode b_S_memberAt 28 = .ok (.lsub, 1) := by decide +kernel
theorem d_S_memberAt_29 : decode b_S_memberAt 29 = .ok (.land, 1) := by decide +kernel
theorem d_S_memberAt_30 : decode b_S_memberAt 30 = .ok (.lstore_n 3, 1) := by decide +kernel
theorem d_S_memberAt_31 : decode b_S_memberAt 31 = .ok (.iinc 5 1, 3) := by decide +kernel
theorem d_S_memberAt_34 : decode b_S_memberAt 34 = .ok (.goto (-15), 3) := by decide +kernel
theorem d_S_memberAt_37 : decode b_S_memberAt 37 = .ok (.lload_n 3, 1) := by decide +kernel
theorem d_S_memberAt_38 : decode b_S_memberAt 38 = .ok (.invokestatic 91, 3) := by decide +kernel
theorem d_S_memberAt_41 : decode b_S_memberAt 41 = .ok (.ireturn, 1) := by decide +kernel
abbrev b_F_init : ByteArray := prog_2_method_1_code
def y_F_init : MethodName := ⟨"SeatProofs$Flow", "<init>", "(LSeatProofs$Plant;)V"⟩
abbrev w_F_init : List Cond := .code y_F_init b_F_init 2 none :: gT
theorem d_F_init_0 : decode b_F_init 0 = .ok (.aload_n 0, 1) := by decide +kernel
theorem d_F_init_1 : decode b_F_init 1 = .ok (.invokespecial 3, 3) := by decide +kernel
theorem d_F_init_4 : decode b_F_init 4 = .ok (.aload_n 0, 1) := by decide +kernel
theorem d_F_init_5 : decode b_F_init 5 = .ok (.bipush 64, 2) := by decide +kernel
theorem d_F_init_7 : decode b_F_init 7 = .ok (.newarray .long, 2) := by decide +kernel
theorem d_F_init_9 : decode b_F_init 9 = .ok (.putfield 9, 3) := by decide +kernel
theorem d_F_init_12 : decode b_F_init 12 = .ok (.aload_n 0, 1) := by decide +kernel
theorem d_F_init_13 : decode b_F_init 13 = .ok (.bipush 16, 2) := by decide +kernel
theorem d_F_init_15 : decode b_F_init 15 = .ok (.newarray .long, 2) := by decide +kernel
theorem d_F_init_17 : decode b_F_init 17 = .ok (.putfield 15, 3) := by decide +kernel
theorem d_F_init_20 : decode b_F_init 20 = .ok (.aload_n 0, 1) := by decide +kernel
theorem d_F_init_21 : decode b_F_init 21 = .ok (.aload_n 1, 1) := by decide +kernel
theorem d_F_init_22 : decode b_F_init 22 = .ok (.putfield 18, 3) := by decide +kernel
theorem d_F_init_25 : decode b_F_init 25 = .ok (.return_, 1) := by decide +kernel
abbrev b_F_lay : ByteArray := prog_2_method_2_code
def y_F_lay : MethodName := ⟨"SeatProofs$Flow", "lay", "(I)V"⟩
abbrev w_F_lay : List Cond := .code y_F_lay b_F_lay 3 none :: gT
theorem d_F_lay_0 : decode b_F_lay 0 = .ok (.aload_n 0, 1) := by decide +kernel
theorem d_F_lay_1 : decode b_F_lay 1 = .ok (.aload_n 0, 1) := by decide +kernel
theorem d_F_lay_2 : decode b_F_lay 2 = .ok (.getfield 18, 3) := by decide +kernel
theorem d_F_lay_5 : decode b_F_lay 5 = .ok (.iload_n 1, 1) := by decide +kernel
theorem d_F_lay_6 : decode b_F_lay 6 = .ok (.invokevirtual 22, 3) := by decide +kernel
theorem d_F_lay_9 : decode b_F_lay 9 = .ok (.putfield 28, 3) := by decide +kernel
theorem d_F_lay_12 : decode b_F_lay 12 = .ok (.iconst 0, 1) := by decide +kernel
theorem d_F_lay_13 : decode b_F_lay 13 = .ok (.istore_n 2, 1) := by decide +kernel
theorem d_F_lay_14 : decode b_F_lay 14 = .ok (.iload_n 2, 1) := by decide +kernel
theorem d_F_lay_15 : decode b_F_lay 15 = .ok (.aload_n 0, 1) := by decide +kernel
theorem d_F_lay_16 : decode b_F_lay 16 = .ok (.getfield 18, 3) := by decide +kernel
theorem d_F_lay_19 : decode b_F_lay 19 = .ok (.getfield 31, 3) := by decide +kernel
theorem d_F_lay_22 : decode b_F_lay 22 = .ok (.if_icmp .ge 16, 3) := by decide +kernel
theorem d_F_lay_25 : decode b_F_lay 25 = .ok (.aload_n 0, 1) := by decide +kernel
theorem d_F_lay_26 : decode b_F_lay 26 = .ok (.getfield 9, 3) := by decide +kernel
theorem d_F_lay_29 : decode b_F_lay 29 = .ok (.iload_n 2, 1) := by decide +kernel
theorem d_F_lay_30 : decode b_F_lay 30 = .ok (.lconst 0, 1) := by decide +kernel
theorem d_F_lay_31 : decode b_F_lay 31 = .ok (.lastore, 1) := by decide +kernel
theorem d_F_lay_32 : decode b_F_lay 32 = .ok (.iinc 2 1, 3) := by decide +kernel
theorem d_F_lay_35 : decode b_F_lay 35 = .ok (.goto (-21), 3) := by decide +kernel
theorem d_F_lay_38 : decode b_F_lay 38 = .ok (.iconst 0, 1) := by decide +kernel
theorem d_F_lay_39 : decode b_F_lay 39 = .ok (.istore_n 2, 1) := by decide +kernel
theorem d_F_lay_40 : decode b_F_lay 40 = .ok (.iload_n 2, 1) := by decide +kernel
theorem d_F_lay_41 : decode b_F_lay 41 = .ok (.aload_n 0, 1) := by decide +kernel
theorem d_F_lay_42 : decode b_F_lay 42 = .ok (.getfield 18, 3) := by decide +kernel
theorem d_F_lay_45 : decode b_F_lay 45 = .ok (.getfield 35, 3) := by decide +kernel
theorem d_F_lay_48 : decode b_F_lay 48 = .ok (.if_icmp .ge 66, 3) := by decide +kernel
theorem d_F_lay_51 : decode b_F_lay 51 = .ok (.aload_n 0, 1) := by decide +kernel
theorem d_F_lay_52 : decode b_F_lay 52 = .ok (.getfield 28, 3) := by decide +kernel
theorem d_F_lay_55 : decode b_F_lay 55 = .ok (.iload_n 2, 1) := by decide +kernel
theorem d_F_lay_56 : decode b_F_lay 56 = .ok (.invokestatic 38, 3) := by decide +kernel
theorem d_F_lay_59 : decode b_F_lay 59 = .ok (.ifCond .eq 49, 3) := by decide +kernel
theorem d_F_lay_62 : decode b_F_lay 62 = .ok (.aload_n 0, 1) := by decide +kernel
theorem d_F_lay_63 : decode b_F_lay 63 = .ok (.iload_n 2, 1) := by decide +kernel
theorem d_F_lay_64 : decode b_F_lay 64 = .ok (.aload_n 0, 1) := by decide +kernel
theorem d_F_lay_65 : decode b_F_lay 65 = .ok (.getfield 18, 3) := by decide +kernel
theorem d_F_lay_68 : decode b_F_lay 68 = .ok (.getfield 42, 3) := by decide +kernel
theorem d_F_lay_71 : decode b_F_lay 71 = .ok (.iload_n 2, 1) := by decide +kernel
theorem d_F_lay_72 : decode b_F_lay 72 = .ok (.iaload, 1) := by decide +kernel
theorem d_F_lay_73 : decode b_F_lay 73 = .ok (.aload_n 0, 1) := by decide +kernel
theorem d_F_lay_74 : decode b_F_lay 74 = .ok (.getfield 18, 3) := by decide +kernel
theorem d_F_lay_77 : decode b_F_lay 77 = .ok (.getfield 46, 3) := by decide +kernel
theorem d_F_lay_80 : decode b_F_lay 80 = .ok (.iload_n 2, 1) := by decide +kernel
theorem d_F_lay_81 : decode b_F_lay 81 = .ok (.iaload, 1) := by decide +kernel
theorem d_F_lay_82 : decode b_F_lay 82 = .ok (.invokevirtual 49, 3) := by decide +kernel
theorem d_F_lay_85 : decode b_F_lay 85 = .ok (.aload_n 0, 1) := by decide +kernel
theorem d_F_lay_86 : decode b_F_lay 86 = .ok (.iload_n 2, 1) := by decide +kernel
theorem d_F_lay_87 : decode b_F_lay 87 = .ok (.aload_n 0, 1) := by decide +kernel
theorem d_F_lay_88 : decode b_F_lay 88 = .ok (.getfield 18, 3) := by decide +kernel
theorem d_F_lay_91 : decode b_F_lay 91 = .ok (.getfield 46, 3) := by decide +kernel
theorem d_F_lay_94 : decode b_F_lay 94 = .ok (.iload_n 2, 1) := by decide +kernel
theorem d_F_lay_95 : decode b_F_lay 95 = .ok (.iaload, 1) := by decide +kernel
theorem d_F_lay_96 : decode b_F_lay 96 = .ok (.aload_n 0, 1) := by decide +kernel
theorem d_F_lay_97 : decode b_F_lay 97 = .ok (.getfield 18, 3) := by decide +kernel
theorem d_F_lay_100 : decode b_F_lay 100 = .ok (.getfield 42, 3) := by decide +kernel
theorem d_F_lay_103 : decode b_F_lay 103 = .ok (.iload_n 2, 1) := by decide +kernel
theorem d_F_lay_104 : decode b_F_lay 104 = .ok (.iaload, 1) := by decide +kernel
theorem d_F_lay_105 : decode b_F_lay 105 = .ok (.invokevirtual 49, 3) := by decide +kernel
theorem d_F_lay_108 : decode b_F_lay 108 = .ok (.iinc 2 1, 3) := by decide +kernel
theorem d_F_lay_111 : decode b_F_lay 111 = .ok (.goto (-71), 3) := by decide +kernel
theorem d_F_lay_114 : decode b_F_lay 114 = .ok (.return_, 1) := by decide +kernel
abbrev b_F_layWay : ByteArray := prog_2_method_3_code
def y_F_layWay : MethodName := ⟨"SeatProofs$Flow", "layWay", "(III)V"⟩
abbrev w_F_layWay : List Cond := .code y_F_layWay b_F_layWay 4 none :: gT
theorem d_F_layWay_0 : decode b_F_layWay 0 = .ok (.aload_n 0, 1) := by decide +kernel
theorem d_F_layWay_1 : decode b_F_layWay 1 = .ok (.getfield 18, 3) := by decide +kernel
theorem d_F_layWay_4 : decode b_F_layWay 4 = .ok (.getfield 53, 3) := by decide +kernel
theorem d_F_layWay_7 : decode b_F_layWay 7 = .ok (.iload_n 2, 1) := by decide +kernel
theorem d_F_layWay_8 : decode b_F_layWay 8 = .ok (.laload, 1) := by decide +kernel
theorem d_F_layWay_9 : decode b_F_layWay 9 = .ok (.iload_n 1, 1) := by decide +kernel
theorem d_F_layWay_10 : decode b_F_layWay 10 = .ok (.invokestatic 38, 3) := by decide +kernel
theorem d_F_layWay_13 : decode b_F_layWay 13 = .ok (.ifCond .eq 16, 3) := by decide +kernel
theorem d_F_layWay_16 : decode b_F_layWay 16 = .ok (.aload_n 0, 1) := by decide +kernel
theorem d_F_layWay_17 : decode b_F_layWay 17 = .ok (.getfield 9, 3) := by decide +kernel
theorem d_F_layWay_20 : decode b_F_layWay 20 = .ok (.iload_n 2, 1) := by decide +kernel
theorem d_F_layWay_21 : decode b_F_layWay 21 = .ok (.dup2, 1) := by decide +kernel
theorem d_F_layWay_22 : decode b_F_layWay 22 = .ok (.laload, 1) := by decide +kernel
theorem d_F_layWay_23 : decode b_F_layWay 23 = .ok (.iload_n 3, 1) := by decide +kernel
theorem d_F_layWay_24 : decode b_F_layWay 24 = .ok (.invokestatic 56, 3) := by decide +kernel
theorem d_F_layWay_27 : decode b_F_layWay 27 = .ok (.lor, 1) := by decide +kernel
theorem d_F_layWay_28 : decode b_F_layWay 28 = .ok (.lastore, 1) := by decide +kernel
theorem d_F_layWay_29 : decode b_F_layWay 29 = .ok (.return_, 1) := by decide +kernel
abbrev b_F_floodAll : ByteArray := prog_2_method_4_code
def y_F_floodAll : MethodName := ⟨"SeatProofs$Flow", "floodAll", "()V"⟩
abbrev w_F_floodAll : List Cond := .code y_F_floodAll b_F_floodAll 2 none :: gT
theorem d_F_floodAll_0 : decode b_F_floodAll 0 = .ok (.iconst 1, 1) := by decide +kernel
theorem d_F_floodAll_1 : decode b_F_floodAll 1 = .ok (.istore_n 1, 1) := by decide +kernel
theorem d_F_floodAll_2 : decode b_F_floodAll 2 = .ok (.iload_n 1, 1) := by decide +kernel
theorem d_F_floodAll_3 : decode b_F_floodAll 3 = .ok (.bipush 16, 2) := by decide +kernel
theorem d_F_floodAll_5 : decode b_F_floodAll 5 = .ok (.if_icmp .ge 20, 3) := by decide +kernel
theorem d_F_floodAll_8 : decode b_F_floodAll 8 = .ok (.aload_n 0, 1) := by decide +kernel
theorem d_F_floodAll_9 : decode b_F_floodAll 9 = .ok (.getfield 15, 3) := by decide +kernel
theorem d_F_floodAll_12 : decode b_F_floodAll 12 = .ok (.iload_n 1, 1) := by decide +kernel
theorem d_F_floodAll_13 : decode b_F_floodAll 13 = .ok (.aload_n 0, 1) := by decide +kernel
theorem d_F_floodAll_14 : decode b_F_floodAll 14 = .ok (.iload_n 1, 1) := by decide +kernel
theorem d_F_floodAll_15 : decode b_F_floodAll 15 = .ok (.invokevirtual 59, 3) := by decide +kernel
theorem d_F_floodAll_18 : decode b_F_floodAll 18 = .ok (.lastore, 1) := by decide +kernel
theorem d_F_floodAll_19 : decode b_F_floodAll 19 = .ok (.iinc 1 1, 3) := by decide +kernel
theorem d_F_floodAll_22 : decode b_F_floodAll 22 = .ok (.goto (-20), 3) := by decide +kernel
theorem d_F_floodAll_25 : decode b_F_floodAll 25 = .ok (.return_, 1) := by decide +kernel
abbrev b_F_floodOf : ByteArray := prog_2_method_5_code
def y_F_floodOf : MethodName := ⟨"SeatProofs$Flow", "floodOf", "(I)J"⟩
abbrev w_F_floodOf : List Cond := .code y_F_floodOf b_F_floodOf 9 (some .long) :: gT
theorem d_F_floodOf_0 : decode b_F_floodOf 0 = .ok (.aload_n 0, 1) := by decide +kernel
theorem d_F_floodOf_1 : decode b_F_floodOf 1 = .ok (.getfield 18, 3) := by decide +kernel
theorem d_F_floodOf_4 : decode b_F_floodOf 4 = .ok (.getfield 62, 3) := by decide +kernel
theorem d_F_floodOf_7 : decode b_F_floodOf 7 = .ok (.iload_n 1, 1) := by decide +kernel
theorem d_F_floodOf_8 : decode b_F_floodOf 8 = .ok (.laload, 1) := by decide +kernel
theorem d_F_floodOf_9 : decode b_F_floodOf 9 = .ok (.lstore_n 2, 1) := by decide +kernel
theorem d_F_floodOf_10 : decode b_F_floodOf 10 = .ok (.lload_n 2, 1) := by decide +kernel
theorem d_F_floodOf_11 : decode b_F_floodOf 11 = .ok (.lstore 4, 2) := by decide +kernel
theorem d_F_floodOf_13 : decode b_F_floodOf 13 = .ok (.iconst 0, 1) := by decide +kernel
theorem d_F_floodOf_14 : decode b_F_floodOf 14 = .ok (.istore 6, 2) := by decide +kernel
theorem d_F_floodOf_16 : decode b_F_floodOf 16 = .ok (.iload 6, 2) := by decide +kernel
theorem d_F_floodOf_18 : decode b_F_floodOf 18 = .ok (.bipush 64, 2) := by decide +kernel
theorem d_F_floodOf_20 : decode b_F_floodOf 20 = .ok (.if_icmp .ge 51, 3) := by decide +kernel
theorem d_F_floodOf_23 : decode b_F_floodOf 23 = .ok (.lload 4, 2) := by decide +kernel
theorem d_F_floodOf_25 : decode b_F_floodOf 25 = .ok (.lconst 0, 1) := by decide +kernel
theorem d_F_floodOf_26 : decode b_F_floodOf 26 = .ok (.lcmp, 1) := by decide +kernel
theorem d_F_floodOf_27 : decode b_F_floodOf 27 = .ok (.ifCond .eq 44, 3) := by decide +kernel
theorem d_F_floodOf_30 : decode b_F_floodOf 30 = .ok (.aload_n 0, 1) := by decide +kernel
theorem d_F_floodOf_31 : decode b_F_floodOf 31 = .ok (.getfield 9, 3) := by decide +kernel
theorem d_F_floodOf_34 : decode b_F_floodOf 34 = .ok (.lload 4, 2) := by decide +kernel
theorem d_F_floodOf_36 : decode b_F_floodOf 36 = .ok (.invokestatic 65, 3) := by decide +kernel
theorem d_F_floodOf_39 : decode b_F_floodOf 39 = .ok (.laload, 1) := by decide +kernel
theorem d_F_floodOf_40 : decode b_F_floodOf 40 = .ok (.lload_n 2, 1) := by decide +kernel
theorem d_F_floodOf_41 : decode b_F_floodOf 41 = .ok (.ldc2_w 69, 3) := by decide +kernel
theorem d_F_floodOf_44 : decode b_F_floodOf 44 = .ok (.lxor, 1) := by decide +kernel
theorem d_F_floodOf_45 : decode b_F_floodOf 45 = .ok (.land, 1) := by decide +kernel
theorem d_F_floodOf_46 : decode b_F_floodOf 46 = .ok (.lstore 7, 2) := by decide +kernel
theorem d_F_floodOf_48 : decode b_F_floodOf 48 = .ok (.lload_n 2, 1) := by decide +kernel
theorem d_F_floodOf_49 : decode b_F_floodOf 49 = .ok (.lload 7, 2) := by decide +kernel
theorem d_F_floodOf_51 : decode b_F_floodOf 51 = .ok (.lor, 1) := by decide +kernel
theorem d_F_floodOf_52 : decode b_F_floodOf 52 = .ok (.lstore_n 2, 1) := by decide +kernel
theorem d_F_floodOf_53 : decode b_F_floodOf 53 = .ok (.lload 4, 2) := by decide +kernel
theorem d_F_floodOf_55 : decode b_F_floodOf 55 = .ok (.lload 4, 2) := by decide +kernel
theorem d_F_floodOf_57 : decode b_F_floodOf 57 = .ok (.lconst 1, 1) := by decide +kernel
theorem d_F_floodOf_58 : decode b_F_floodOf 58 = .ok (.lsub, 1) := by decide +kernel
theorem d_F_floodOf_59 : decode b_F_floodOf 59 = .ok (.land, 1) := by decide +kernel
theorem d_F_floodOf_60 : decode b_F_floodOf 60 = .ok (.lload 7, 2) := by decide +kernel
theorem d_F_floodOf_62 : decode b_F_floodOf 62 = .ok (.lor, 1) := by decide +kernel
theorem d_F_floodOf_63 : decode b_F_floodOf 63 = .ok (.lstore 4, 2) := by decide +kernel
theorem d_F_floodOf_65 : decode b_F_floodOf 65 = .ok (.iinc 6 1, 3) := by decide +kernel
theorem d_F_floodOf_68 : decode b_F_floodOf 68 = .ok (.goto (-52), 3) := by decide +kernel
theorem d_F_floodOf_71 : decode b_F_floodOf 71 = .ok (.lload_n 2, 1) := by decide +kernel
theorem d_F_floodOf_72 : decode b_F_floodOf 72 = .ok (.lreturn, 1) := by decide +kernel
abbrev b_F_cutOf : ByteArray := prog_2_method_6_code
def y_F_cutOf : MethodName := ⟨"SeatProofs$Flow", "cutOf", "(J)J"⟩
abbrev w_F_cutOf : List Cond := .code y_F_cutOf b_F_cutOf 11 (some .long) :: gT
theorem d_F_cutOf_0 : decode b_F_cutOf 0 = .ok (.lconst 0, 1) := by decide +kernel
theorem d_F_cutOf_1 : decode b_F_cutOf 1 = .ok (.lstore_n 3, 1) := by decide +kernel
theorem d_F_cutOf_2 : decode b_F_cutOf 2 = .ok (.lconst 0, 1) := by decide +kernel
theorem d_F_cutOf_3 : decode b_F_cutOf 3 = .ok (.lstore 5, 2) := by decide +kernel
theorem d_F_cutOf_5 : decode b_F_cutOf 5 = .ok (.lload_n 1, 1) := by decide +kernel
theorem d_F_cutOf_6 : decode b_F_cutOf 6 = .ok (.lstore 7, 2) := by decide +kernel
theorem d_F_cutOf_8 : decode b_F_cutOf 8 = .ok (.iconst 0, 1) := by decide +kernel
theorem d_F_cutOf_9 : decode b_F_cutOf 9 = .ok (.istore 9, 2) := by decide +kernel
theorem d_F_cutOf_11 : decode b_F_cutOf 11 = .ok (.iload 9, 2) := by decide +kernel
theorem d_F_cutOf_13 : decode b_F_cutOf 13 = .ok (.bipush 64, 2) := by decide +kernel
theorem d_F_cutOf_15 : decode b_F_cutOf 15 = .ok (.if_icmp .ge 60, 3) := by decide +kernel
theorem d_F_cutOf_18 : decode b_F_cutOf 18 = .ok (.lload 7, 2) := by decide +kernel
theorem d_F_cutOf_20 : decode b_F_cutOf 20 = .ok (.lconst 0, 1) := by decide +kernel
theorem d_F_cutOf_21 : decode b_F_cutOf 21 = .ok (.lcmp, 1) := by decide +kernel
theorem d_F_cutOf_22 : decode b_F_cutOf 22 = .ok (.ifCond .eq 53, 3) := by decide +kernel
theorem d_F_cutOf_25 : decode b_F_cutOf 25 = .ok (.lload 7, 2) := by decide +kernel
theorem d_F_cutOf_27 : decode b_F_cutOf 27 = .ok (.invokestatic 65, 3) := by decide +kernel
theorem d_F_cutOf_30 : decode b_F_cutOf 30 = .ok (.istore 10, 2) := by decide +kernel
theorem d_F_cutOf_32 : decode b_F_cutOf 32 = .ok (.lload_n 3, 1) := by decide +kernel
theorem d_F_cutOf_33 : decode b_F_cutOf 33 = .ok (.aload_n 0, 1) := by decide +kernel
theorem d_F_cutOf_34 : decode b_F_cutOf 34 = .ok (.getfield 18, 3) := by decide +kernel
theorem d_F_cutOf_37 : decode b_F_cutOf 37 = .ok (.getfield 71, 3) := by decide +kernel
theorem d_F_cutOf_40 : decode b_F_cutOf 40 = .ok (.iload 10, 2) := by decide +kernel
theorem d_F_cutOf_42 : decode b_F_cutOf 42 = .ok (.laload, 1) := by decide +kernel
theorem d_F_cutOf_43 : decode b_F_cutOf 43 = .ok (.lxor, 1) := by decide +kernel
theorem d_F_cutOf_44 : decode b_F_cutOf 44 = .ok (.lstore_n 3, 1) := by decide +kernel
theorem d_F_cutOf_45 : decode b_F_cutOf 45 = .ok (.lload 5, 2) := by decide +kernel
theorem d_F_cutOf_47 : decode b_F_cutOf 47 = .ok (.aload_n 0, 1) := by decide +kernel
theorem d_F_cutOf_48 : decode b_F_cutOf 48 = .ok (.getfield 18, 3) := by decide +kernel
theorem d_F_cutOf_51 : decode b_F_cutOf 51 = .ok (.getfield 53, 3) := by decide +kernel
theorem d_F_cutOf_54 : decode b_F_cutOf 54 = .ok (.iload 10, 2) := by decide +kernel
theorem d_F_cutOf_56 : decode b_F_cutOf 56 = .ok (.laload, 1) := by decide +kernel
theorem d_F_cutOf_57 : decode b_F_cutOf 57 = .ok (.lor, 1) := by decide +kernel
theorem d_F_cutOf_58 : decode b_F_cutOf 58 = .ok (.lstore 5, 2) := by decide +kernel
theorem d_F_cutOf_60 : decode b_F_cutOf 60 = .ok (.lload 7, 2) := by decide +kernel
theorem d_F_cutOf_62 : decode b_F_cutOf 62 = .ok (.lload 7, 2) := by decide +kernel
theorem d_F_cutOf_64 : decode b_F_cutOf 64 = .ok (.lconst 1, 1) := by decide +kernel
theorem d_F_cutOf_65 : decode b_F_cutOf 65 = .ok (.lsub, 1) := by decide +kernel
theorem d_F_cutOf_66 : decode b_F_cutOf 66 = .ok (.land, 1) := by decide +kernel
theorem d_F_cutOf_67 : decode b_F_cutOf 67 = .ok (.lstore 7, 2) := by decide +kernel
theorem d_F_cutOf_69 : decode b_F_cutOf 69 = .ok (.iinc 9 1, 3) := by decide +kernel
theorem d_F_cutOf_72 : decode b_F_cutOf 72 = .ok (.goto (-61), 3) := by decide +kernel
theorem d_F_cutOf_75 : decode b_F_cutOf 75 = .ok (.lload_n 3, 1) := by decide +kernel
theorem d_F_cutOf_76 : decode b_F_cutOf 76 = .ok (.lload 5, 2) := by decide +kernel
theorem d_F_cutOf_78 : decode b_F_cutOf 78 = .ok (.land, 1) := by decide +kernel
theorem d_F_cutOf_79 : decode b_F_cutOf 79 = .ok (.aload_n 0, 1) := by decide +kernel
theorem d_F_cutOf_80 : decode b_F_cutOf 80 = .ok (.getfield 28, 3) := by decide +kernel
theorem d_F_cutOf_83 : decode b_F_cutOf 83 = .ok (.ldc2_w 69, 3) := by decide +kernel
theorem d_F_cutOf_86 : decode b_F_cutOf 86 = .ok (.lxor, 1) := by decide +kernel
theorem d_F_cutOf_87 : decode b_F_cutOf 87 = .ok (.land, 1) := by decide +kernel
theorem d_F_cutOf_88 : decode b_F_cutOf 88 = .ok (.lreturn, 1) := by decide +kernel
abbrev b_F_clashes : ByteArray := prog_2_method_7_code
def y_F_clashes : MethodName := ⟨"SeatProofs$Flow", "clashes", "(IJ)Z"⟩
abbrev w_F_clashes : List Cond := .code y_F_clashes b_F_clashes 5 (some .boolean) :: gT
theorem d_F_clashes_0 : decode b_F_clashes 0 = .ok (.iconst 1, 1) := by decide +kernel
theorem d_F_clashes_1 : decode b_F_clashes 1 = .ok (.istore 4, 2) := by decide +kernel
theorem d_F_clashes_3 : decode b_F_clashes 3 = .ok (.iload 4, 2) := by decide +kernel
theorem d_F_clashes_5 : decode b_F_clashes 5 = .ok (.bipush 16, 2) := by decide +kernel
theorem d_F_clashes_7 : decode b_F_clashes 7 = .ok (.if_icmp .ge 44, 3) := by decide +kernel
theorem d_F_clashes_10 : decode b_F_clashes 10 = .ok (.iload 4, 2) := by decide +kernel
theorem d_F_clashes_12 : decode b_F_clashes 12 = .ok (.iload_n 1, 1) := by decide +kernel
theorem d_F_clashes_13 : decode b_F_clashes 13 = .ok (.if_icmp .eq 32, 3) := by decide +kernel
theorem d_F_clashes_16 : decode b_F_clashes 16 = .ok (.aload_n 0, 1) := by decide +kernel
theorem d_F_clashes_17 : decode b_F_clashes 17 = .ok (.getfield 15, 3) := by decide +kernel
theorem d_F_clashes_20 : decode b_F_clashes 20 = .ok (.iload 4, 2) := by decide +kernel
theorem d_F_clashes_22 : decode b_F_clashes 22 = .ok (.laload, 1) := by decide +kernel
theorem d_F_clashes_23 : decode b_F_clashes 23 = .ok (.lload_n 2, 1) := by decide +kernel
theorem d_F_clashes_24 : decode b_F_clashes 24 = .ok (.land, 1) := by decide +kernel
theorem d_F_clashes_25 : decode b_F_clashes 25 = .ok (.lconst 0, 1) := by decide +kernel
theorem d_F_clashes_26 : decode b_F_clashes 26 = .ok (.lcmp, 1) := by decide +kernel
theorem d_F_clashes_27 : decode b_F_clashes 27 = .ok (.ifCond .eq 18, 3) := by decide +kernel
theorem d_F_clashes_30 : decode b_F_clashes 30 = .ok (.aload_n 0, 1) := by decide +kernel
theorem d_F_clashes_31 : decode b_F_clashes 31 = .ok (.getfield 18, 3) := by decide +kernel
theorem d_F_clashes_34 : decode b_F_clashes 34 = .ok (.iload_n 1, 1) := by decide +kernel
theorem d_F_clashes_35 : decode b_F_clashes 35 = .ok (.iload 4, 2) := by decide +kernel
theorem d_F_clashes_37 : decode b_F_clashes 37 = .ok (.invokevirtual 74, 3) := by decide +kernel
theorem d_F_clashes_40 : decode b_F_clashes 40 = .ok (.ifCond .ne 5, 3) := by decide +kernel
theorem d_F_clashes_43 : decode b_F_clashes 43 = .ok (.iconst 1, 1) := by decide +kernel
theorem d_F_clashes_44 : decode b_F_clashes 44 = .ok (.ireturn, 1) := by decide +kernel
theorem d_F_clashes_45 : decode b_F_clashes 45 = .ok (.iinc 4 1, 3) := by decide +kernel
theorem d_F_clashes_48 : decode b_F_clashes 48 = .ok (.goto (-45), 3) := by decide +kernel
theorem d_F_clashes_51 : decode b_F_clashes 51 = .ok (.iconst 0, 1) := by decide +kernel
theorem d_F_clashes_52 : decode b_F_clashes 52 = .ok (.ireturn, 1) := by decide +kernel
abbrev b_F_meetings : ByteArray := prog_2_method_8_code
def y_F_meetings : MethodName := ⟨"SeatProofs$Flow", "meetings", "()J"⟩
abbrev w_F_meetings : List Cond := .code y_F_meetings b_F_meetings 5 (some .long) :: gT
theorem d_F_meetings_0 : decode b_F_meetings 0 = .ok (.lconst 0, 1) := by decide +kernel
theorem d_F_meetings_1 : decode b_F_meetings 1 = .ok (.lstore_n 1, 1) := by decide +kernel
theorem d_F_meetings_2 : decode b_F_meetings 2 = .ok (.iconst 1, 1) := by decide +kernel
theorem d_F_meetings_3 : decode b_F_meetings 3 = .ok (.istore_n 3, 1) := by decide +kernel
theorem d_F_meetings_4 : decode b_F_meetings 4 = .ok (.iload_n 3, 1) := by decide +kernel
theorem d_F_meetings_5 : decode b_F_meetings 5 = .ok (.bipush 16, 2) := by decide +kernel
theorem d_F_meetings_7 : decode b_F_meetings 7 = .ok (.if_icmp .ge 57, 3) := by decide +kernel
theorem d_F_meetings_10 : decode b_F_meetings 10 = .ok (.iload_n 3, 1) := by decide +kernel
theorem d_F_meetings_11 : decode b_F_meetings 11 = .ok (.iconst 1, 1) := by decide +kernel
theorem d_F_meetings_12 : decode b_F_meetings 12 = .ok (.iadd, 1) := by decide +kernel
theorem d_F_meetings_13 : decode b_F_meetings 13 = .ok (.istore 4, 2) := by decide +kernel
theorem d_F_meetings_15 : decode b_F_meetings 15 = .ok (.iload 4, 2) := by decide +kernel
theorem d_F_meetings_17 : decode b_F_meetings 17 = .ok (.bipush 16, 2) := by decide +kernel
theorem d_F_meetings_19 : decode b_F_meetings 19 = .ok (.if_icmp .ge 39, 3) := by decide +kernel
theorem d_F_meetings_22 : decode b_F_meetings 22 = .ok (.aload_n 0, 1) := by decide +kernel
theorem d_F_meetings_23 : decode b_F_meetings 23 = .ok (.getfield 18, 3) := by decide +kernel
theorem d_F_meetings_26 : decode b_F_meetings 26 = .ok (.iload_n 3, 1) := by decide +kernel
theorem d_F_meetings_27 : decode b_F_meetings 27 = .ok (.iload 4, 2) := by decide +kernel
theorem d_F_meetings_29 : decode b_F_meetings 29 = .ok (.invokevirtual 74, 3) := by decide +kernel
theorem d_F_meetings_32 : decode b_F_meetings 32 = .ok (.ifCond .ne 20, 3) := by decide +kernel
theorem d_F_meetings_35 : decode b_F_meetings 35 = .ok (.lload_n 1, 1) := by decide +kernel
theorem d_F_meetings_36 : decode b_F_meetings 36 = .ok (.aload_n 0, 1) := by decide +kernel
theorem d_F_meetings_37 : decode b_F_meetings 37 = .ok (.getfield 15, 3) := by decide +kernel
theorem d_F_meetings_40 : decode b_F_meetings 40 = .ok (.iload_n 3, 1) := by decide +kernel
theorem d_F_meetings_41 : decode b_F_meetings 41 = .ok (.laload, 1) := by decide +kernel
theorem d_F_meetings_42 : decode b_F_meetings 42 = .ok (.aload_n 0, 1) := by decide +kernel
theorem d_F_meetings_43 : decode b_F_meetings 43 = .ok (.getfield 15, 3) := by decide +kernel
theorem d_F_meetings_46 : decode b_F_meetings 46 = .ok (.iload 4, 2) := by decide +kernel
theorem d_F_meetings_48 : decode b_F_meetings 48 = .ok (.laload, 1) := by decide +kernel
theorem d_F_meetings_49 : decode b_F_meetings 49 = .ok (.land, 1) := by decide +kernel
theorem d_F_meetings_50 : decode b_F_meetings 50 = .ok (.lor, 1) := by decide +kernel
theorem d_F_meetings_51 : decode b_F_meetings 51 = .ok (.lstore_n 1, 1) := by decide +kernel
theorem d_F_meetings_52 : decode b_F_meetings 52 = .ok (.iinc 4 1, 3) := by decide +kernel
theorem d_F_meetings_55 : decode b_F_meetings 55 = .ok (.goto (-40), 3) := by decide +kernel
theorem d_F_meetings_58 : decode b_F_meetings 58 = .ok (.iinc 3 1, 3) := by decide +kernel
theorem d_F_meetings_61 : decode b_F_meetings 61 = .ok (.goto (-57), 3) := by decide +kernel
theorem d_F_meetings_64 : decode b_F_meetings 64 = .ok (.lload_n 1, 1) := by decide +kernel
theorem d_F_meetings_65 : decode b_F_meetings 65 = .ok (.lreturn, 1) := by decide +kernel
abbrev b_F_leastClashing : ByteArray := prog_2_method_9_code
def y_F_leastClashing : MethodName := ⟨"SeatProofs$Flow", "leastClashing", "(II)I"⟩
abbrev w_F_leastClashing : List Cond := .code y_F_leastClashing b_F_leastClashing 5 (some .int) :: gT
theorem d_F_leastClashing_0 : decode b_F_leastClashing 0 = .ok (.iconst 1, 1) := by decide +kernel
theorem d_F_leastClashing_1 : decode b_F_leastClashing 1 = .ok (.istore_n 3, 1) := by decide +kernel
theorem d_F_leastClashing_2 : decode b_F_leastClashing 2 = .ok (.iload_n 3, 1) := by decide +kernel
theorem d_F_leastClashing_3 : decode b_F_leastClashing 3 = .ok (.bipush 16, 2) := by decide +kernel
theorem d_F_leastClashing_5 : decode b_F_leastClashing 5 = .ok (.if_icmp .ge 69, 3) := by decide +kernel
theorem d_F_leastClashing_8 : decode b_F_leastClashing 8 = .ok (.aload_n 0, 1) := by decide +kernel
theorem d_F_leastClashing_9 : decode b_F_leastClashing 9 = .ok (.getfield 15, 3) := by decide +kernel
theorem d_F_leastClashing_12 : decode b_F_leastClashing 12 = .ok (.iload_n 3, 1) := by decide +kernel
theorem d_F_leastClashing_13 : decode b_F_leastClashing 13 = .ok (.laload, 1) := by decide +kernel
theorem d_F_leastClashing_14 : decode b_F_leastClashing 14 = .ok (.iload_n 1, 1) := by decide +kernel
theorem d_F_leastClashing_15 : decode b_F_leastClashing 15 = .ok (.invokestatic 38, 3) := by decide +kernel
theorem d_F_leastClashing_18 : decode b_F_leastClashing 18 = .ok (.ifCond .eq 50, 3) := by decide +kernel
theorem d_F_leastClashing_21 : decode b_F_leastClashing 21 = .ok (.iload_n 3, 1) := by decide +kernel
theorem d_F_leastClashing_22 : decode b_F_leastClashing 22 = .ok (.iload_n 2, 1) := by decide +kernel
theorem d_F_leastClashing_23 : decode b_F_leastClashing 23 = .ok (.if_icmp .eq 45, 3) := by decide +kernel
theorem d_F_leastClashing_26 : decode b_F_leastClashing 26 = .ok (.iload_n 2, 1) := by decide +kernel
theorem d_F_leastClashing_27 : decode b_F_leastClashing 27 = .ok (.ifCond .ne 15, 3) := by decide +kernel
theorem d_F_leastClashing_30 : decode b_F_leastClashing 30 = .ok (.aload_n 0, 1) := by decide +kernel
theorem d_F_leastClashing_31 : decode b_F_leastClashing 31 = .ok (.iload_n 3, 1) := by decide +kernel
theorem d_F_leastClashing_32 : decode b_F_leastClashing 32 = .ok (.iload_n 1, 1) := by decide +kernel
theorem d_F_leastClashing_33 : decode b_F_leastClashing 33 = .ok (.invokestatic 56, 3) := by decide +kernel
theorem d_F_leastClashing_36 : decode b_F_leastClashing 36 = .ok (.invokevirtual 78, 3) := by decide +kernel
theorem d_F_leastClashing_39 : decode b_F_leastClashing 39 = .ok (.goto 20, 3) := by decide +kernel
theorem d_F_leastClashing_42 : decode b_F_leastClashing 42 = .ok (.aload_n 0, 1) := by decide +kernel
theorem d_F_leastClashing_43 : decode b_F_leastClashing 43 = .ok (.getfield 18, 3) := by decide +kernel
theorem d_F_leastClashing_46 : decode b_F_leastClashing 46 = .ok (.iload_n 3, 1) := by decide +kernel
theorem d_F_leastClashing_47 : decode b_F_leastClashing 47 = .ok (.iload_n 2, 1) := by decide +kernel
theorem d_F_leastClashing_48 : decode b_F_leastClashing 48 = .ok (.invokevirtual 74, 3) := by decide +kernel
theorem d_F_leastClashing_51 : decode b_F_leastClashing 51 = .ok (.ifCond .ne 7, 3) := by decide +kernel
theorem d_F_leastClashing_54 : decode b_F_leastClashing 54 = .ok (.iconst 1, 1) := by decide +kernel
theorem d_F_leastClashing_55 : decode b_F_leastClashing 55 = .ok (.goto 4, 3) := by decide +kernel
theorem d_F_leastClashing_58 : decode b_F_leastClashing 58 = .ok (.iconst 0, 1) := by decide +kernel
theorem d_F_leastClashing_59 : decode b_F_leastClashing 59 = .ok (.istore 4, 2) := by decide +kernel
theorem d_F_leastClashing_61 : decode b_F_leastClashing 61 = .ok (.iload 4, 2) := by decide +kernel
theorem d_F_leastClashing_63 : decode b_F_leastClashing 63 = .ok (.ifCond .eq 5, 3) := by decide +kernel
theorem d_F_leastClashing_66 : decode b_F_leastClashing 66 = .ok (.iload_n 3, 1) := by decide +kernel
theorem d_F_leastClashing_67 : decode b_F_leastClashing 67 = .ok (.ireturn, 1) := by decide +kernel
theorem d_F_leastClashing_68 : decode b_F_leastClashing 68 = .ok (.iinc 3 1, 3) := by decide +kernel
theorem d_F_leastClashing_71 : decode b_F_leastClashing 71 = .ok (.goto (-69), 3) := by decide +kernel
theorem d_F_leastClashing_74 : decode b_F_leastClashing 74 = .ok (.iconst (-1), 1) := by decide +kernel
theorem d_F_leastClashing_75 : decode b_F_leastClashing 75 = .ok (.ireturn, 1) := by decide +kernel
abbrev b_P_init : ByteArray := prog_3_method_1_code
def y_P_init : MethodName := ⟨"SeatProofs$Plant", "<init>", "()V"⟩
abbrev w_P_init : List Cond := .code y_P_init b_P_init 1 none :: gT
theorem d_P_init_0 : decode b_P_init 0 = .ok (.aload_n 0, 1) := by decide +kernel
theorem d_P_init_1 : decode b_P_init 1 = .ok (.invokespecial 3, 3) := by decide +kernel
theorem d_P_init_4 : decode b_P_init 4 = .ok (.aload_n 0, 1) := by decide +kernel
theorem d_P_init_5 : decode b_P_init 5 = .ok (.bipush 64, 2) := by decide +kernel
theorem d_P_init_7 : decode b_P_init 7 = .ok (.newarray .long, 2) := by decide +kernel
theorem d_P_init_9 : decode b_P_init 9 = .ok (.putfield 9, 3) := by decide +kernel
theorem d_P_init_12 : decode b_P_init 12 = .ok (.aload_n 0, 1) := by decide +kernel
theorem d_P_init_13 : decode b_P_init 13 = .ok (.bipush 16, 2) := by decide +kernel
theorem d_P_init_15 : decode b_P_init 15 = .ok (.newarray .long, 2) := by decide +kernel
theorem d_P_init_17 : decode b_P_init 17 = .ok (.putfield 15, 3) := by decide +kernel
theorem d_P_init_20 : decode b_P_init 20 = .ok (.aload_n 0, 1) := by decide +kernel
theorem d_P_init_21 : decode b_P_init 21 = .ok (.bipush 16, 2) := by decide +kernel
theorem d_P_init_23 : decode b_P_init 23 = .ok (.newarray .int, 2) := by decide +kernel
theorem d_P_init_25 : decode b_P_init 25 = .ok (.putfield 18, 3) := by decide +kernel
theorem d_P_init_28 : decode b_P_init 28 = .ok (.aload_n 0, 1) := by decide +kernel
theorem d_P_init_29 : decode b_P_init 29 = .ok (.bipush 64, 2) := by decide +kernel
theorem d_P_init_31 : decode b_P_init 31 = .ok (.newarray .int, 2) := by decide +kernel
theorem d_P_init_33 : decode b_P_init 33 = .ok (.putfield 22, 3) := by decide +kernel
theorem d_P_init_36 : decode b_P_init 36 = .ok (.aload_n 0, 1) := by decide +kernel
theorem d_P_init_37 : decode b_P_init 37 = .ok (.bipush 64, 2) := by decide +kernel
theorem d_P_init_39 : decode b_P_init 39 = .ok (.newarray .int, 2) := by decide +kernel
theorem d_P_init_41 : decode b_P_init 41 = .ok (.putfield 25, 3) := by decide +kernel
theorem d_P_init_44 : decode b_P_init 44 = .ok (.aload_n 0, 1) := by decide +kernel
theorem d_P_init_45 : decode b_P_init 45 = .ok (.bipush 64, 2) := by decide +kernel
theorem d_P_init_47 : decode b_P_init 47 = .ok (.newarray .long, 2) := by decide +kernel
theorem d_P_init_49 : decode b_P_init 49 = .ok (.putfield 28, 3) := by decide +kernel
theorem d_P_init_52 : decode b_P_init 52 = .ok (.aload_n 0, 1) := by decide +kernel
theorem d_P_init_53 : decode b_P_init 53 = .ok (.bipush 64, 2) := by decide +kernel
theorem d_P_init_55 : decode b_P_init 55 = .ok (.newarray .long, 2) := by decide +kernel
theorem d_P_init_57 : decode b_P_init 57 = .ok (.putfield 31, 3) := by decide +kernel
theorem d_P_init_60 : decode b_P_init 60 = .ok (.return_, 1) := by decide +kernel
abbrev b_P_empty : ByteArray := prog_3_method_2_code
def y_P_empty : MethodName := ⟨"SeatProofs$Plant", "empty", "()V"⟩
abbrev w_P_empty : List Cond := .code y_P_empty b_P_empty 2 none :: gT
theorem d_P_empty_0 : decode b_P_empty 0 = .ok (.aload_n 0, 1) := by decide +kernel
theorem d_P_empty_1 : decode b_P_empty 1 = .ok (.iconst 0, 1) := by decide +kernel
theorem d_P_empty_2 : decode b_P_empty 2 = .ok (.putfield 34, 3) := by decide +kernel
theorem d_P_empty_5 : decode b_P_empty 5 = .ok (.aload_n 0, 1) := by decide +kernel
theorem d_P_empty_6 : decode b_P_empty 6 = .ok (.iconst 0, 1) := by decide +kernel
theorem d_P_empty_7 : decode b_P_empty 7 = .ok (.putfield 38, 3) := by decide +kernel
theorem d_P_empty_10 : decode b_P_empty 10 = .ok (.aload_n 0, 1) := by decide +kernel
theorem d_P_empty_11 : decode b_P_empty 11 = .ok (.lconst 0, 1) := by decide +kernel
theorem d_P_empty_12 : decode b_P_empty 12 = .ok (.putfield 41, 3) := by decide +kernel
theorem d_P_empty_15 : decode b_P_empty 15 = .ok (.aload_n 0, 1) := by decide +kernel
theorem d_P_empty_16 : decode b_P_empty 16 = .ok (.lconst 0, 1) := by decide +kernel
theorem d_P_empty_17 : decode b_P_empty 17 = .ok (.putfield 45, 3) := by decide +kernel
theorem d_P_empty_20 : decode b_P_empty 20 = .ok (.aload_n 0, 1) := by decide +kernel
theorem d_P_empty_21 : decode b_P_empty 21 = .ok (.lconst 0, 1) := by decide +kernel
theorem d_P_empty_22 : decode b_P_empty 22 = .ok (.putfield 48, 3) := by decide +kernel
theorem d_P_empty_25 : decode b_P_empty 25 = .ok (.iconst 0, 1) := by decide +kernel
theorem d_P_empty_26 : decode b_P_empty 26 = .ok (.istore_n 1, 1) := by decide +kernel
theorem d_P_empty_27 : decode b_P_empty 27 = .ok (.iload_n 1, 1) := by decide +kernel
theorem d_P_empty_28 : decode b_P_empty 28 = .ok (.bipush 16, 2) := by decide +kernel
theorem d_P_empty_30 : decode b_P_empty 30 = .ok (.if_icmp .ge 23, 3) := by decide +kernel
theorem d_P_empty_33 : decode b_P_empty 33 = .ok (.aload_n 0, 1) := by decide +kernel
theorem d_P_empty_34 : decode b_P_empty 34 = .ok (.getfield 15, 3) := by decide +kernel
theorem d_P_empty_37 : decode b_P_empty 37 = .ok (.iload_n 1, 1) := by decide +kernel
theorem d_P_empty_38 : decode b_P_empty 38 = .ok (.lconst 0, 1) := by decide +kernel
theorem d_P_empty_39 : decode b_P_empty 39 = .ok (.lastore, 1) := by decide +kernel
theorem d_P_empty_40 : decode b_P_empty 40 = .ok (.aload_n 0, 1) := by decide +kernel
theorem d_P_empty_41 : decode b_P_empty 41 = .ok (.getfield 18, 3) := by decide +kernel
theorem d_P_empty_44 : decode b_P_empty 44 = .ok (.iload_n 1, 1) := by decide +kernel
theorem d_P_empty_45 : decode b_P_empty 45 = .ok (.iconst 0, 1) := by decide +kernel
theorem d_P_empty_46 : decode b_P_empty 46 = .ok (.iastore, 1) := by decide +kernel
theorem d_P_empty_47 : decode b_P_empty 47 = .ok (.iinc 1 1, 3) := by decide +kernel
theorem d_P_empty_50 : decode b_P_empty 50 = .ok (.goto (-23), 3) := by decide +kernel
theorem d_P_empty_53 : decode b_P_empty 53 = .ok (.return_, 1) := by decide +kernel
abbrev b_P_hasSpace : ByteArray := prog_3_method_3_code
def y_P_hasSpace : MethodName := ⟨"SeatProofs$Plant", "hasSpace", "(I)Z"⟩
abbrev w_P_hasSpace : List Cond := .code y_P_hasSpace b_P_hasSpace 2 (some .boolean) :: gT
theorem d_P_hasSpace_0 : decode b_P_hasSpace 0 = .ok (.iload_n 1, 1) := by decide +kernel
theorem d_P_hasSpace_1 : decode b_P_hasSpace 1 = .ok (.ifCond .lt 15, 3) := by decide +kernel
theorem d_P_hasSpace_4 : decode b_P_hasSpace 4 = .ok (.iload_n 1, 1) := by decide +kernel
theorem d_P_hasSpace_5 : decode b_P_hasSpace 5 = .ok (.aload_n 0, 1) := by decide +kernel
theorem d_P_hasSpace_6 : decode b_P_hasSpace 6 = .ok (.getfield 34, 3) := by decide +kernel
theorem d_P_hasSpace_9 : decode b_P_hasSpace 9 = .ok (.if_icmp .ge 7, 3) := by decide +kernel
theorem d_P_hasSpace_12 : decode b_P_hasSpace 12 = .ok (.iconst 1, 1) := by decide +kernel
theorem d_P_hasSpace_13 : decode b_P_hasSpace 13 = .ok (.goto 4, 3) := by decide +kernel
theorem d_P_hasSpace_16 : decode b_P_hasSpace 16 = .ok (.iconst 0, 1) := by decide +kernel
theorem d_P_hasSpace_17 : decode b_P_hasSpace 17 = .ok (.ireturn, 1) := by decide +kernel
abbrev b_P_hasValve : ByteArray := prog_3_method_4_code
def y_P_hasValve : MethodName := ⟨"SeatProofs$Plant", "hasValve", "(I)Z"⟩
abbrev w_P_hasValve : List Cond := .code y_P_hasValve b_P_hasValve 2 (some .boolean) :: gT
theorem d_P_hasValve_0 : decode b_P_hasValve 0 = .ok (.iload_n 1, 1) := by decide +kernel
theorem d_P_hasValve_1 : decode b_P_hasValve 1 = .ok (.ifCond .lt 15, 3) := by decide +kernel
theorem d_P_hasValve_4 : decode b_P_hasValve 4 = .ok (.iload_n 1, 1) := by decide +kernel
theorem d_P_hasValve_5 : decode b_P_hasValve 5 = .ok (.aload_n 0, 1) := by decide +kernel
theorem d_P_hasValve_6 : decode b_P_hasValve 6 = .ok (.getfield 38, 3) := by decide +kernel
theorem d_P_hasValve_9 : decode b_P_hasValve 9 = .ok (.if_icmp .ge 7, 3) := by decide +kernel
theorem d_P_hasValve_12 : decode b_P_hasValve 12 = .ok (.iconst 1, 1) := by decide +kernel
theorem d_P_hasValve_13 : decode b_P_hasValve 13 = .ok (.goto 4, 3) := by decide +kernel
theorem d_P_hasValve_16 : decode b_P_hasValve 16 = .ok (.iconst 0, 1) := by decide +kernel
theorem d_P_hasValve_17 : decode b_P_hasValve 17 = .ok (.ireturn, 1) := by decide +kernel
abbrev b_P_addSpace : ByteArray := prog_3_method_5_code
def y_P_addSpace : MethodName := ⟨"SeatProofs$Plant", "addSpace", "(I)I"⟩
abbrev w_P_addSpace : List Cond := .code y_P_addSpace b_P_addSpace 3 (some .int) :: gT
theorem d_P_addSpace_0 : decode b_P_addSpace 0 = .ok (.aload_n 0, 1) := by decide +kernel
theorem d_P_addSpace_1 : decode b_P_addSpace 1 = .ok (.getfield 34, 3) := by decide +kernel
theorem d_P_addSpace_4 : decode b_P_addSpace 4 = .ok (.istore_n 2, 1) := by decide +kernel
theorem d_P_addSpace_5 : decode b_P_addSpace 5 = .ok (.aload_n 0, 1) := by decide +kernel
theorem d_P_addSpace_6 : decode b_P_addSpace 6 = .ok (.getfield 9, 3) := by decide +kernel
theorem d_P_addSpace_9 : decode b_P_addSpace 9 = .ok (.iload_n 2, 1) := by decide +kernel
theorem d_P_addSpace_10 : decode b_P_addSpace 10 = .ok (.lconst 0, 1) := by decide +kernel
theorem d_P_addSpace_11 : decode b_P_addSpace 11 = .ok (.lastore, 1) := by decide +kernel
theorem d_P_addSpace_12 : decode b_P_addSpace 12 = .ok (.aload_n 0, 1) := by decide +kernel
theorem d_P_addSpace_13 : decode b_P_addSpace 13 = .ok (.getfield 28, 3) := by decide +kernel
theorem d_P_addSpace_16 : decode b_P_addSpace 16 = .ok (.iload_n 2, 1) := by decide +kernel
theorem d_P_addSpace_17 : decode b_P_addSpace 17 = .ok (.lconst 0, 1) := by decide +kernel
theorem d_P_addSpace_18 : decode b_P_addSpace 18 = .ok (.lastore, 1) := by decide +kernel
theorem d_P_addSpace_19 : decode b_P_addSpace 19 = .ok (.aload_n 0, 1) := by decide +kernel
theorem d_P_addSpace_20 : decode b_P_addSpace 20 = .ok (.getfield 31, 3) := by decide +kernel
theorem d_P_addSpace_23 : decode b_P_addSpace 23 = .ok (.iload_n 2, 1) := by decide +kernel
theorem d_P_addSpace_24 : decode b_P_addSpace 24 = .ok (.lconst 0, 1) := by decide +kernel
theorem d_P_addSpace_25 : decode b_P_addSpace 25 = .ok (.lastore, 1) := by decide +kernel
theorem d_P_addSpace_26 : decode b_P_addSpace 26 = .ok (.aload_n 0, 1) := by decide +kernel
theorem d_P_addSpace_27 : decode b_P_addSpace 27 = .ok (.getfield 15, 3) := by decide +kernel
theorem d_P_addSpace_30 : decode b_P_addSpace 30 = .ok (.iload_n 1, 1) := by decide +kernel
theorem d_P_addSpace_31 : decode b_P_addSpace 31 = .ok (.dup2, 1) := by decide +kernel
theorem d_P_addSpace_32 : decode b_P_addSpace 32 = .ok (.laload, 1) := by decide +kernel
theorem d_P_addSpace_33 : decode b_P_addSpace 33 = .ok (.iload_n 2, 1) := by decide +kernel
theorem d_P_addSpace_34 : decode b_P_addSpace 34 = .ok (.invokestatic 51, 3) := by decide +kernel
theorem d_P_addSpace_37 : decode b_P_addSpace 37 = .ok (.lor, 1) := by decide +kernel
theorem d_P_addSpace_38 : decode b_P_addSpace 38 = .ok (.lastore, 1) := by decide +kernel
theorem d_P_addSpace_39 : decode b_P_addSpace 39 = .ok (.aload_n 0, 1) := by decide +kernel
theorem d_P_addSpace_40 : decode b_P_addSpace 40 = .ok (.dup, 1) := by decide +kernel
theorem d_P_addSpace_41 : decode b_P_addSpace 41 = .ok (.getfield 34, 3) := by decide +kernel
theorem d_P_addSpace_44 : decode b_P_addSpace 44 = .ok (.iconst 1, 1) := by decide +kernel
theorem d_P_addSpace_45 : decode b_P_addSpace 45 = .ok (.iadd, 1) := by decide +kernel
theorem d_P_addSpace_46 : decode b_P_addSpace 46 = .ok (.putfield 34, 3) := by decide +kernel
theorem d_P_addSpace_49 : decode b_P_addSpace 49 = .ok (.iload_n 2, 1) := by decide +kernel
theorem d_P_addSpace_50 : decode b_P_addSpace 50 = .ok (.ireturn, 1) := by decide +kernel
abbrev b_P_addValve : ByteArray := prog_3_method_6_code
def y_P_addValve : MethodName := ⟨"SeatProofs$Plant", "addValve", "(IIZZ)I"⟩
abbrev w_P_addValve : List Cond := .code y_P_addValve b_P_addValve 6 (some .int) :: gT
theorem d_P_addValve_0 : decode b_P_addValve 0 = .ok (.aload_n 0, 1) := by decide +kernel
theorem d_P_addValve_1 : decode b_P_addValve 1 = .ok (.getfield 38, 3) := by decide +kernel
theorem d_P_addValve_4 : decode b_P_addValve 4 = .ok (.istore 5, 2) := by decide +kernel
theorem d_P_addValve_6 : decode b_P_addValve 6 = .ok (.aload_n 0, 1) := by decide +kernel
theorem d_P_addValve_7 : decode b_P_addValve 7 = .ok (.getfield 22, 3) := by decide +kernel
theorem d_P_addValve_10 : decode b_P_addValve 10 = .ok (.iload 5, 2) := by decide +kernel
theorem d_P_addValve_12 : decode b_P_addValve 12 = .ok (.iload_n 1, 1) := by decide +kernel
theorem d_P_addValve_13 : decode b_P_addValve 13 = .ok (.iastore, 1) := by decide +kernel
theorem d_P_addValve_14 : decode b_P_addValve 14 = .ok (.aload_n 0, 1) := by decide +kernel
theorem d_P_addValve_15 : decode b_P_addValve 15 = .ok (.getfield 25, 3) := by decide +kernel
theorem d_P_addValve_18 : decode b_P_addValve 18 = .ok (.iload 5, 2) := by decide +kernel
theorem d_P_addValve_20 : decode b_P_addValve 20 = .ok (.iload_n 2, 1) := by decide +kernel
theorem d_P_addValve_21 : decode b_P_addValve 21 = .ok (.iastore, 1) := by decide +kernel
theorem d_P_addValve_22 : decode b_P_addValve 22 = .ok (.aload_n 0, 1) := by decide +kernel
theorem d_P_addValve_23 : decode b_P_addValve 23 = .ok (.getfield 28, 3) := by decide +kernel
theorem d_P_addValve_26 : decode b_P_addValve 26 = .ok (.iload_n 1, 1) := by decide +kernel
theorem d_P_addValve_27 : decode b_P_addValve 27 = .ok (.dup2, 1) := by decide +kernel
theorem d_P_addValve_28 : decode b_P_addValve 28 = .ok (.laload, 1) := by decide +kernel
theorem d_P_addValve_29 : decode b_P_addValve 29 = .ok (.iload 5, 2) := by decide +kernel
theorem d_P_addValve_31 : decode b_P_addValve 31 = .ok (.invokestatic 51, 3) := by decide +kernel
theorem d_P_addValve_34 : decode b_P_addValve 34 = .ok (.lor, 1) := by decide +kernel
theorem d_P_addValve_35 : decode b_P_addValve 35 = .ok (.lastore, 1) := by decide +kernel
theorem d_P_addValve_36 : decode b_P_addValve 36 = .ok (.aload_n 0, 1) := by decide +kernel
theorem d_P_addValve_37 : decode b_P_addValve 37 = .ok (.getfield 28, 3) := by decide +kernel
theorem d_P_addValve_40 : decode b_P_addValve 40 = .ok (.iload_n 2, 1) := by decide +kernel
theorem d_P_addValve_41 : decode b_P_addValve 41 = .ok (.dup2, 1) := by decide +kernel
theorem d_P_addValve_42 : decode b_P_addValve 42 = .ok (.laload, 1) := by decide +kernel
theorem d_P_addValve_43 : decode b_P_addValve 43 = .ok (.iload 5, 2) := by decide +kernel
theorem d_P_addValve_45 : decode b_P_addValve 45 = .ok (.invokestatic 51, 3) := by decide +kernel
theorem d_P_addValve_48 : decode b_P_addValve 48 = .ok (.lor, 1) := by decide +kernel
theorem d_P_addValve_49 : decode b_P_addValve 49 = .ok (.lastore, 1) := by decide +kernel
theorem d_P_addValve_50 : decode b_P_addValve 50 = .ok (.iload_n 3, 1) := by decide +kernel
theorem d_P_addValve_51 : decode b_P_addValve 51 = .ok (.ifCond .eq 17, 3) := by decide +kernel
theorem d_P_addValve_54 : decode b_P_addValve 54 = .ok (.aload_n 0, 1) := by decide +kernel
theorem d_P_addValve_55 : decode b_P_addValve 55 = .ok (.dup, 1) := by decide +kernel
theorem d_P_addValve_56 : decode b_P_addValve 56 = .ok (.getfield 48, 3) := by decide +kernel
theorem d_P_addValve_59 : decode b_P_addValve 59 = .ok (.iload 5, 2) := by decide +kernel
theorem d_P_addValve_61 : decode b_P_addValve 61 = .ok (.invokestatic 51, 3) := by decide +kernel
theorem d_P_addValve_64 : decode b_P_addValve 64 = .ok (.lor, 1) := by decide +kernel
theorem d_P_addValve_65 : decode b_P_addValve 65 = .ok (.putfield 48, 3) := by decide +kernel
theorem d_P_addValve_68 : decode b_P_addValve 68 = .ok (.aload_n 0, 1) := by decide +kernel
theorem d_P_addValve_69 : decode b_P_addValve 69 = .ok (.iload 5, 2) := by decide +kernel
theorem d_P_addValve_71 : decode b_P_addValve 71 = .ok (.iload 4, 2) := by decide +kernel
theorem d_P_addValve_73 : decode b_P_addValve 73 = .ok (.invokevirtual 55, 3) := by decide +kernel
theorem d_P_addValve_76 : decode b_P_addValve 76 = .ok (.aload_n 0, 1) := by decide +kernel
theorem d_P_addValve_77 : decode b_P_addValve 77 = .ok (.dup, 1) := by decide +kernel
theorem d_P_addValve_78 : decode b_P_addValve 78 = .ok (.getfield 38, 3) := by decide +kernel
theorem d_P_addValve_81 : decode b_P_addValve 81 = .ok (.iconst 1, 1) := by decide +kernel
theorem d_P_addValve_82 : decode b_P_addValve 82 = .ok (.iadd, 1) := by decide +kernel
theorem d_P_addValve_83 : decode b_P_addValve 83 = .ok (.putfield 38, 3) := by decide +kernel
theorem d_P_addValve_86 : decode b_P_addValve 86 = .ok (.aload_n 0, 1) := by decide +kernel
theorem d_P_addValve_87 : decode b_P_addValve 87 = .ok (.iload 5, 2) := by decide +kernel
theorem d_P_addValve_89 : decode b_P_addValve 89 = .ok (.invokevirtual 59, 3) := by decide +kernel
theorem d_P_addValve_92 : decode b_P_addValve 92 = .ok (.iload 5, 2) := by decide +kernel
theorem d_P_addValve_94 : decode b_P_addValve 94 = .ok (.ireturn, 1) := by decide +kernel
abbrev b_P_raiseTo : ByteArray := prog_3_method_7_code
def y_P_raiseTo : MethodName := ⟨"SeatProofs$Plant", "raiseTo", "(IJ)V"⟩
abbrev w_P_raiseTo : List Cond := .code y_P_raiseTo b_P_raiseTo 5 none :: gT
theorem d_P_raiseTo_0 : decode b_P_raiseTo 0 = .ok (.aload_n 0, 1) := by decide +kernel
theorem d_P_raiseTo_1 : decode b_P_raiseTo 1 = .ok (.getfield 9, 3) := by decide +kernel
theorem d_P_raiseTo_4 : decode b_P_raiseTo 4 = .ok (.iload_n 1, 1) := by decide +kernel
theorem d_P_raiseTo_5 : decode b_P_raiseTo 5 = .ok (.lload_n 2, 1) := by decide +kernel
theorem d_P_raiseTo_6 : decode b_P_raiseTo 6 = .ok (.lastore, 1) := by decide +kernel
theorem d_P_raiseTo_7 : decode b_P_raiseTo 7 = .ok (.iconst 0, 1) := by decide +kernel
theorem d_P_raiseTo_8 : decode b_P_raiseTo 8 = .ok (.istore 4, 2) := by decide +kernel
theorem d_P_raiseTo_10 : decode b_P_raiseTo 10 = .ok (.iload 4, 2) := by decide +kernel
theorem d_P_raiseTo_12 : decode b_P_raiseTo 12 = .ok (.aload_n 0, 1) := by decide +kernel
theorem d_P_raiseTo_13 : decode b_P_raiseTo 13 = .ok (.getfield 38, 3) := by decide +kernel
theorem d_P_raiseTo_16 : decode b_P_raiseTo 16 = .ok (.if_icmp .ge 29, 3) := by decide +kernel
theorem d_P_raiseTo_19 : decode b_P_raiseTo 19 = .ok (.aload_n 0, 1) := by decide +kernel
theorem d_P_raiseTo_20 : decode b_P_raiseTo 20 = .ok (.getfield 28, 3) := by decide +kernel
theorem d_P_raiseTo_23 : decode b_P_raiseTo 23 = .ok (.iload_n 1, 1) := by decide +kernel
theorem d_P_raiseTo_24 : decode b_P_raiseTo 24 = .ok (.laload, 1) := by decide +kernel
theorem d_P_raiseTo_25 : decode b_P_raiseTo 25 = .ok (.iload 4, 2) := by decide +kernel
theorem d_P_raiseTo_27 : decode b_P_raiseTo 27 = .ok (.invokestatic 63, 3) := by decide +kernel
theorem d_P_raiseTo_30 : decode b_P_raiseTo 30 = .ok (.ifCond .eq 9, 3) := by decide +kernel
theorem d_P_raiseTo_33 : decode b_P_raiseTo 33 = .ok (.aload_n 0, 1) := by decide +kernel
theorem d_P_raiseTo_34 : decode b_P_raiseTo 34 = .ok (.iload 4, 2) := by decide +kernel
theorem d_P_raiseTo_36 : decode b_P_raiseTo 36 = .ok (.invokevirtual 59, 3) := by decide +kernel
theorem d_P_raiseTo_39 : decode b_P_raiseTo 39 = .ok (.iinc 4 1, 3) := by decide +kernel
theorem d_P_raiseTo_42 : decode b_P_raiseTo 42 = .ok (.goto (-32), 3) := by decide +kernel
theorem d_P_raiseTo_45 : decode b_P_raiseTo 45 = .ok (.return_, 1) := by decide +kernel
abbrev b_P_measure : ByteArray := prog_3_method_8_code
def y_P_measure : MethodName := ⟨"SeatProofs$Plant", "measure", "(I)V"⟩
abbrev w_P_measure : List Cond := .code y_P_measure b_P_measure 4 none :: gT
theorem d_P_measure_0 : decode b_P_measure 0 = .ok (.aload_n 0, 1) := by decide +kernel
theorem d_P_measure_1 : decode b_P_measure 1 = .ok (.getfield 22, 3) := by decide +kernel
theorem d_P_measure_4 : decode b_P_measure 4 = .ok (.iload_n 1, 1) := by decide +kernel
theorem d_P_measure_5 : decode b_P_measure 5 = .ok (.iaload, 1) := by decide +kernel
theorem d_P_measure_6 : decode b_P_measure 6 = .ok (.istore_n 2, 1) := by decide +kernel
theorem d_P_measure_7 : decode b_P_measure 7 = .ok (.aload_n 0, 1) := by decide +kernel
theorem d_P_measure_8 : decode b_P_measure 8 = .ok (.getfield 25, 3) := by decide +kernel
theorem d_P_measure_11 : decode b_P_measure 11 = .ok (.iload_n 1, 1) := by decide +kernel
theorem d_P_measure_12 : decode b_P_measure 12 = .ok (.iaload, 1) := by decide +kernel
theorem d_P_measure_13 : decode b_P_measure 13 = .ok (.istore_n 3, 1) := by decide +kernel
theorem d_P_measure_14 : decode b_P_measure 14 = .ok (.aload_n 0, 1) := by decide +kernel
theorem d_P_measure_15 : decode b_P_measure 15 = .ok (.getfield 31, 3) := by decide +kernel
theorem d_P_measure_18 : decode b_P_measure 18 = .ok (.iload_n 2, 1) := by decide +kernel
theorem d_P_measure_19 : decode b_P_measure 19 = .ok (.aload_n 0, 1) := by decide +kernel
theorem d_P_measure_20 : decode b_P_measure 20 = .ok (.getfield 31, 3) := by decide +kernel
theorem d_P_measure_23 : decode b_P_measure 23 = .ok (.iload_n 2, 1) := by decide +kernel
theorem d_P_measure_24 : decode b_P_measure 24 = .ok (.laload, 1) := by decide +kernel
theorem d_P_measure_25 : decode b_P_measure 25 = .ok (.iload_n 1, 1) := by decide +kernel
theorem d_P_measure_26 : decode b_P_measure 26 = .ok (.aload_n 0, 1) := by decide +kernel
theorem d_P_measure_27 : decode b_P_measure 27 = .ok (.getfield 9, 3) := by decide +kernel
theorem d_P_measure_30 : decode b_P_measure 30 = .ok (.iload_n 3, 1) := by decide +kernel
theorem d_P_measure_31 : decode b_P_measure 31 = .ok (.laload, 1) := by decide +kernel
theorem d_P_measure_32 : decode b_P_measure 32 = .ok (.aload_n 0, 1) := by decide +kernel
theorem d_P_measure_33 : decode b_P_measure 33 = .ok (.getfield 9, 3) := by decide +kernel
theorem d_P_measure_36 : decode b_P_measure 36 = .ok (.iload_n 2, 1) := by decide +kernel
theorem d_P_measure_37 : decode b_P_measure 37 = .ok (.laload, 1) := by decide +kernel
theorem d_P_measure_38 : decode b_P_measure 38 = .ok (.lcmp, 1) := by decide +kernel
theorem d_P_measure_39 : decode b_P_measure 39 = .ok (.ifCond .gt 7, 3) := by decide +kernel
theorem d_P_measure_42 : decode b_P_measure 42 = .ok (.iconst 1, 1) := by decide +kernel
theorem d_P_measure_43 : decode b_P_measure 43 = .ok (.goto 4, 3) := by decide +kernel
theorem d_P_measure_46 : decode b_P_measure 46 = .ok (.iconst 0, 1) := by decide +kernel
theorem d_P_measure_47 : decode b_P_measure 47 = .ok (.invokestatic 67, 3) := by decide +kernel
theorem d_P_measure_50 : decode b_P_measure 50 = .ok (.lastore, 1) := by decide +kernel
theorem d_P_measure_51 : decode b_P_measure 51 = .ok (.aload_n 0, 1) := by decide +kernel
theorem d_P_measure_52 : decode b_P_measure 52 = .ok (.getfield 31, 3) := by decide +kernel
theorem d_P_measure_55 : decode b_P_measure 55 = .ok (.iload_n 3, 1) := by decide +kernel
theorem d_P_measure_56 : decode b_P_measure 56 = .ok (.aload_n 0, 1) := by decide +kernel
theorem d_P_measure_57 : decode b_P_measure 57 = .ok (.getfield 31, 3) := by decide +kernel
theorem d_P_measure_60 : decode b_P_measure 60 = .ok (.iload_n 3, 1) := by decide +kernel
theorem d_P_measure_61 : decode b_P_measure 61 = .ok (.laload, 1) := by decide +kernel
theorem d_P_measure_62 : decode b_P_measure 62 = .ok (.iload_n 1, 1) := by decide +kernel
theorem d_P_measure_63 : decode b_P_measure 63 = .ok (.aload_n 0, 1) := by decide +kernel
theorem d_P_measure_64 : decode b_P_measure 64 = .ok (.getfield 9, 3) := by decide +kernel
theorem d_P_measure_67 : decode b_P_measure 67 = .ok (.iload_n 2, 1) := by decide +kernel
theorem d_P_measure_68 : decode b_P_measure 68 = .ok (.laload, 1) := by decide +kernel
theorem d_P_measure_69 : decode b_P_measure 69 = .ok (.aload_n 0, 1) := by decide +kernel
theorem d_P_measure_70 : decode b_P_measure 70 = .ok (.getfield 9, 3) := by decide +kernel
theorem d_P_measure_73 : decode b_P_measure 73 = .ok (.iload_n 3, 1) := by decide +kernel
theorem d_P_measure_74 : decode b_P_measure 74 = .ok (.laload, 1) := by decide +kernel
theorem d_P_measure_75 : decode b_P_measure 75 = .ok (.lcmp, 1) := by decide +kernel
theorem d_P_measure_76 : decode b_P_measure 76 = .ok (.ifCond .gt 7, 3) := by decide +kernel
theorem d_P_measure_79 : decode b_P_measure 79 = .ok (.iconst 1, 1) := by decide +kernel
theorem d_P_measure_80 : decode b_P_measure 80 = .ok (.goto 4, 3) := by decide +kernel
theorem d_P_measure_83 : decode b_P_measure 83 = .ok (.iconst 0, 1) := by decide +kernel
theorem d_P_measure_84 : decode b_P_measure 84 = .ok (.invokestatic 67, 3) := by decide +kernel
theorem d_P_measure_87 : decode b_P_measure 87 = .ok (.lastore, 1) := by decide +kernel
theorem d_P_measure_88 : decode b_P_measure 88 = .ok (.return_, 1) := by decide +kernel
abbrev b_P_turn : ByteArray := prog_3_method_9_code
def y_P_turn : MethodName := ⟨"SeatProofs$Plant", "turn", "(IZ)V"⟩
abbrev w_P_turn : List Cond := .code y_P_turn b_P_turn 3 none :: gT
theorem d_P_turn_0 : decode b_P_turn 0 = .ok (.aload_n 0, 1) := by decide +kernel
theorem d_P_turn_1 : decode b_P_turn 1 = .ok (.aload_n 0, 1) := by decide +kernel
theorem d_P_turn_2 : decode b_P_turn 2 = .ok (.getfield 41, 3) := by decide +kernel
theorem d_P_turn_5 : decode b_P_turn 5 = .ok (.iload_n 1, 1) := by decide +kernel
theorem d_P_turn_6 : decode b_P_turn 6 = .ok (.iload_n 2, 1) := by decide +kernel
theorem d_P_turn_7 : decode b_P_turn 7 = .ok (.invokestatic 67, 3) := by decide +kernel
theorem d_P_turn_10 : decode b_P_turn 10 = .ok (.putfield 41, 3) := by decide +kernel
theorem d_P_turn_13 : decode b_P_turn 13 = .ok (.return_, 1) := by decide +kernel
abbrev b_P_doubt : ByteArray := prog_3_method_10_code
def y_P_doubt : MethodName := ⟨"SeatProofs$Plant", "doubt", "(IZ)V"⟩
abbrev w_P_doubt : List Cond := .code y_P_doubt b_P_doubt 3 none :: gT
theorem d_P_doubt_0 : decode b_P_doubt 0 = .ok (.aload_n 0, 1) := by decide +kernel
theorem d_P_doubt_1 : decode b_P_doubt 1 = .ok (.aload_n 0, 1) := by decide +kernel
theorem d_P_doubt_2 : decode b_P_doubt 2 = .ok (.getfield 45, 3) := by decide +kernel
theorem d_P_doubt_5 : decode b_P_doubt 5 = .ok (.iload_n 1, 1) := by decide +kernel
theorem d_P_doubt_6 : decode b_P_doubt 6 = .ok (.iload_n 2, 1) := by decide +kernel
theorem d_P_doubt_7 : decode b_P_doubt 7 = .ok (.invokestatic 67, 3) := by decide +kernel
theorem d_P_doubt_10 : decode b_P_doubt 10 = .ok (.putfield 45, 3) := by decide +kernel
theorem d_P_doubt_13 : decode b_P_doubt 13 = .ok (.return_, 1) := by decide +kernel
abbrev b_P_with : ByteArray := prog_3_method_11_code
def y_P_with : MethodName := ⟨"SeatProofs$Plant", "with", "(JIZ)J"⟩
abbrev w_P_with : List Cond := .code y_P_with b_P_with 4 (some .long) :: gT
theorem d_P_with_0 : decode b_P_with 0 = .ok (.iload_n 3, 1) := by decide +kernel
theorem d_P_with_1 : decode b_P_with 1 = .ok (.ifCond .eq 12, 3) := by decide +kernel
theorem d_P_with_4 : decode b_P_with 4 = .ok (.lload_n 0, 1) := by decide +kernel
theorem d_P_with_5 : decode b_P_with 5 = .ok (.iload_n 2, 1) := by decide +kernel
theorem d_P_with_6 : decode b_P_with 6 = .ok (.invokestatic 51, 3) := by decide +kernel
theorem d_P_with_9 : decode b_P_with 9 = .ok (.lor, 1) := by decide +kernel
theorem d_P_with_10 : decode b_P_with 10 = .ok (.goto 13, 3) := by decide +kernel
theorem d_P_with_13 : decode b_P_with 13 = .ok (.lload_n 0, 1) := by decide +kernel
theorem d_P_with_14 : decode b_P_with 14 = .ok (.iload_n 2, 1) := by decide +kernel
theorem d_P_with_15 : decode b_P_with 15 = .ok (.invokestatic 51, 3) := by decide +kernel
theorem d_P_with_18 : decode b_P_with 18 = .ok (.ldc2_w 71, 3) := by decide +kernel
theorem d_P_with_21 : decode b_P_with 21 = .ok (.lxor, 1) := by decide +kernel
theorem d_P_with_22 : decode b_P_with 22 = .ok (.land, 1) := by decide +kernel
theorem d_P_with_23 : decode b_P_with 23 = .ok (.lreturn, 1) := by decide +kernel
abbrev b_P_areFriends : ByteArray := prog_3_method_12_code
def y_P_areFriends : MethodName := ⟨"SeatProofs$Plant", "areFriends", "(II)Z"⟩
abbrev w_P_areFriends : List Cond := .code y_P_areFriends b_P_areFriends 3 (some .boolean) :: gT
theorem d_P_areFriends_0 : decode b_P_areFriends 0 = .ok (.aload_n 0, 1) := by decide +kernel
theorem d_P_areFriends_1 : decode b_P_areFriends 1 = .ok (.getfield 18, 3) := by decide +kernel
theorem d_P_areFriends_4 : decode b_P_areFriends 4 = .ok (.iload_n 1, 1) := by decide +kernel
theorem d_P_areFriends_5 : decode b_P_areFriends 5 = .ok (.iaload, 1) := by decide +kernel
theorem d_P_areFriends_6 : decode b_P_areFriends 6 = .ok (.iconst 1, 1) := by decide +kernel
theorem d_P_areFriends_7 : decode b_P_areFriends 7 = .ok (.iload_n 2, 1) := by decide +kernel
theorem d_P_areFriends_8 : decode b_P_areFriends 8 = .ok (.ishl, 1) := by decide +kernel
theorem d_P_areFriends_9 : decode b_P_areFriends 9 = .ok (.iand, 1) := by decide +kernel
theorem d_P_areFriends_10 : decode b_P_areFriends 10 = .ok (.ifCond .eq 7, 3) := by decide +kernel
theorem d_P_areFriends_13 : decode b_P_areFriends 13 = .ok (.iconst 1, 1) := by decide +kernel
theorem d_P_areFriends_14 : decode b_P_areFriends 14 = .ok (.goto 4, 3) := by decide +kernel
theorem d_P_areFriends_17 : decode b_P_areFriends 17 = .ok (.iconst 0, 1) := by decide +kernel
theorem d_P_areFriends_18 : decode b_P_areFriends 18 = .ok (.ireturn, 1) := by decide +kernel
abbrev b_P_befriend : ByteArray := prog_3_method_13_code
def y_P_befriend : MethodName := ⟨"SeatProofs$Plant", "befriend", "(II)V"⟩
abbrev w_P_befriend : List Cond := .code y_P_befriend b_P_befriend 3 none :: gT
theorem d_P_befriend_0 : decode b_P_befriend 0 = .ok (.aload_n 0, 1) := by decide +kernel
theorem d_P_befriend_1 : decode b_P_befriend 1 = .ok (.getfield 18, 3) := by decide +kernel
theorem d_P_befriend_4 : decode b_P_befriend 4 = .ok (.iload_n 1, 1) := by decide +kernel
theorem d_P_befriend_5 : decode b_P_befriend 5 = .ok (.dup2, 1) := by decide +kernel
theorem d_P_befriend_6 : decode b_P_befriend 6 = .ok (.iaload, 1) := by decide +kernel
theorem d_P_befriend_7 : decode b_P_befriend 7 = .ok (.iconst 1, 1) := by decide +kernel
theorem d_P_befriend_8 : decode b_P_befriend 8 = .ok (.iload_n 2, 1) := by decide +kernel
theorem d_P_befriend_9 : decode b_P_befriend 9 = .ok (.ishl, 1) := by decide +kernel
theorem d_P_befriend_10 : decode b_P_befriend 10 = .ok (.ior, 1) := by decide +kernel
theorem d_P_befriend_11 : decode b_P_befriend 11 = .ok (.iastore, 1) := by decide +kernel
theorem d_P_befriend_12 : decode b_P_befriend 12 = .ok (.aload_n 0, 1) := by decide +kernel
theorem d_P_befriend_13 : decode b_P_befriend 13 = .ok (.getfield 18, 3) := by decide +kernel
theorem d_P_befriend_16 : decode b_P_befriend 16 = .ok (.iload_n 2, 1) := by decide +kernel
theorem d_P_befriend_17 : decode b_P_befriend 17 = .ok (.dup2, 1) := by decide +kernel
theorem d_P_befriend_18 : decode b_P_befriend 18 = .ok (.iaload, 1) := by decide +kernel
theorem d_P_befriend_19 : decode b_P_befriend 19 = .ok (.iconst 1, 1) := by decide +kernel
theorem d_P_befriend_20 : decode b_P_befriend 20 = .ok (.iload_n 1, 1) := by decide +kernel
theorem d_P_befriend_21 : decode b_P_befriend 21 = .ok (.ishl, 1) := by decide +kernel
theorem d_P_befriend_22 : decode b_P_befriend 22 = .ok (.ior, 1) := by decide +kernel
theorem d_P_befriend_23 : decode b_P_befriend 23 = .ok (.iastore, 1) := by decide +kernel
theorem d_P_befriend_24 : decode b_P_befriend 24 = .ok (.return_, 1) := by decide +kernel
abbrev b_P_rowsDue : ByteArray := prog_3_method_14_code
def y_P_rowsDue : MethodName := ⟨"SeatProofs$Plant", "rowsDue", "()I"⟩
abbrev w_P_rowsDue : List Cond := .code y_P_rowsDue b_P_rowsDue 3 (some .int) :: gT
theorem d_P_rowsDue_0 : decode b_P_rowsDue 0 = .ok (.iconst 0, 1) := by decide +kernel
theorem d_P_rowsDue_1 : decode b_P_rowsDue 1 = .ok (.istore_n 1, 1) := by decide +kernel
theorem d_P_rowsDue_2 : decode b_P_rowsDue 2 = .ok (.iconst 1, 1) := by decide +kernel
theorem d_P_rowsDue_3 : decode b_P_rowsDue 3 = .ok (.istore_n 2, 1) := by decide +kernel
theorem d_P_rowsDue_4 : decode b_P_rowsDue 4 = .ok (.iload_n 2, 1) := by decide +kernel
theorem d_P_rowsDue_5 : decode b_P_rowsDue 5 = .ok (.bipush 16, 2) := by decide +kernel
theorem d_P_rowsDue_7 : decode b_P_rowsDue 7 = .ok (.if_icmp .ge 23, 3) := by decide +kernel
theorem d_P_rowsDue_10 : decode b_P_rowsDue 10 = .ok (.aload_n 0, 1) := by decide +kernel
theorem d_P_rowsDue_11 : decode b_P_rowsDue 11 = .ok (.getfield 15, 3) := by decide +kernel
theorem d_P_rowsDue_14 : decode b_P_rowsDue 14 = .ok (.iload_n 2, 1) := by decide +kernel
theorem d_P_rowsDue_15 : decode b_P_rowsDue 15 = .ok (.laload, 1) := by decide +kernel
theorem d_P_rowsDue_16 : decode b_P_rowsDue 16 = .ok (.lconst 0, 1) := by decide +kernel
theorem d_P_rowsDue_17 : decode b_P_rowsDue 17 = .ok (.lcmp, 1) := by decide +kernel
theorem d_P_rowsDue_18 : decode b_P_rowsDue 18 = .ok (.ifCond .eq 6, 3) := by decide +kernel
theorem d_P_rowsDue_21 : decode b_P_rowsDue 21 = .ok (.iinc 1 1, 3) := by decide +kernel
theorem d_P_rowsDue_24 : decode b_P_rowsDue 24 = .ok (.iinc 2 1, 3) := by decide +kernel
theorem d_P_rowsDue_27 : decode b_P_rowsDue 27 = .ok (.goto (-23), 3) := by decide +kernel
theorem d_P_rowsDue_30 : decode b_P_rowsDue 30 = .ok (.iconst 1, 1) := by decide +kernel
theorem d_P_rowsDue_31 : decode b_P_rowsDue 31 = .ok (.aload_n 0, 1) := by decide +kernel
theorem d_P_rowsDue_32 : decode b_P_rowsDue 32 = .ok (.getfield 38, 3) := by decide +kernel
theorem d_P_rowsDue_35 : decode b_P_rowsDue 35 = .ok (.iadd, 1) := by decide +kernel
theorem d_P_rowsDue_36 : decode b_P_rowsDue 36 = .ok (.iload_n 1, 1) := by decide +kernel
theorem d_P_rowsDue_37 : decode b_P_rowsDue 37 = .ok (.imul, 1) := by decide +kernel
theorem d_P_rowsDue_38 : decode b_P_rowsDue 38 = .ok (.ireturn, 1) := by decide +kernel
abbrev b_P_letting : ByteArray := prog_3_method_15_code
def y_P_letting : MethodName := ⟨"SeatProofs$Plant", "letting", "(I)J"⟩
abbrev w_P_letting : List Cond := .code y_P_letting b_P_letting 6 (some .long) :: gT
theorem d_P_letting_0 : decode b_P_letting 0 = .ok (.iload_n 1, 1) := by decide +kernel
theorem d_P_letting_1 : decode b_P_letting 1 = .ok (.ifCond .ne 7, 3) := by decide +kernel
theorem d_P_letting_4 : decode b_P_letting 4 = .ok (.lconst 0, 1) := by decide +kernel
theorem d_P_letting_5 : decode b_P_letting 5 = .ok (.goto 9, 3) := by decide +kernel
theorem d_P_letting_8 : decode b_P_letting 8 = .ok (.iload_n 1, 1) := by decide +kernel
theorem d_P_letting_9 : decode b_P_letting 9 = .ok (.iconst 1, 1) := by decide +kernel
theorem d_P_letting_10 : decode b_P_letting 10 = .ok (.isub, 1) := by decide +kernel
theorem d_P_letting_11 : decode b_P_letting 11 = .ok (.invokestatic 51, 3) := by decide +kernel
theorem d_P_letting_14 : decode b_P_letting 14 = .ok (.lstore_n 2, 1) := by decide +kernel
theorem d_P_letting_15 : decode b_P_letting 15 = .ok (.aload_n 0, 1) := by decide +kernel
theorem d_P_letting_16 : decode b_P_letting 16 = .ok (.getfield 48, 3) := by decide +kernel
theorem d_P_letting_19 : decode b_P_letting 19 = .ok (.aload_n 0, 1) := by decide +kernel
theorem d_P_letting_20 : decode b_P_letting 20 = .ok (.getfield 41, 3) := by decide +kernel
theorem d_P_letting_23 : decode b_P_letting 23 = .ok (.ldc2_w 71, 3) := by decide +kernel
theorem d_P_letting_26 : decode b_P_letting 26 = .ok (.lxor, 1) := by decide +kernel
theorem d_P_letting_27 : decode b_P_letting 27 = .ok (.land, 1) := by decide +kernel
theorem d_P_letting_28 : decode b_P_letting 28 = .ok (.lstore 4, 2) := by decide +kernel
theorem d_P_letting_30 : decode b_P_letting 30 = .ok (.aload_n 0, 1) := by decide +kernel
theorem d_P_letting_31 : decode b_P_letting 31 = .ok (.getfield 41, 3) := by decide +kernel
theorem d_P_letting_34 : decode b_P_letting 34 = .ok (.lload_n 2, 1) := by decide +kernel
theorem d_P_letting_35 : decode b_P_letting 35 = .ok (.ldc2_w 71, 3) := by decide +kernel
theorem d_P_letting_38 : decode b_P_letting 38 = .ok (.lxor, 1) := by decide +kernel
theorem d_P_letting_39 : decode b_P_letting 39 = .ok (.land, 1) := by decide +kernel
theorem d_P_letting_40 : decode b_P_letting 40 = .ok (.lload_n 2, 1) := by decide +kernel
theorem d_P_letting_41 : decode b_P_letting 41 = .ok (.aload_n 0, 1) := by decide +kernel
theorem d_P_letting_42 : decode b_P_letting 42 = .ok (.getfield 41, 3) := by decide +kernel
theorem d_P_letting_45 : decode b_P_letting 45 = .ok (.ldc2_w 71, 3) := by decide +kernel
theorem d_P_letting_48 : decode b_P_letting 48 = .ok (.lxor, 1) := by decide +kernel
theorem d_P_letting_49 : decode b_P_letting 49 = .ok (.land, 1) := by decide +kernel
theorem d_P_letting_50 : decode b_P_letting 50 = .ok (.aload_n 0, 1) := by decide +kernel
theorem d_P_letting_51 : decode b_P_letting 51 = .ok (.getfield 48, 3) := by decide +kernel
theorem d_P_letting_54 : decode b_P_letting 54 = .ok (.ldc2_w 71, 3) := by decide +kernel
theorem d_P_letting_57 : decode b_P_letting 57 = .ok (.lxor, 1) := by decide +kernel
theorem d_P_letting_58 : decode b_P_letting 58 = .ok (.land, 1) := by decide +kernel
theorem d_P_letting_59 : decode b_P_letting 59 = .ok (.lor, 1) := by decide +kernel
theorem d_P_letting_60 : decode b_P_letting 60 = .ok (.aload_n 0, 1) := by decide +kernel
theorem d_P_letting_61 : decode b_P_letting 61 = .ok (.getfield 45, 3) := by decide +kernel
theorem d_P_letting_64 : decode b_P_letting 64 = .ok (.lload 4, 2) := by decide +kernel
theorem d_P_letting_66 : decode b_P_letting 66 = .ok (.ldc2_w 71, 3) := by decide +kernel
theorem d_P_letting_69 : decode b_P_letting 69 = .ok (.lxor, 1) := by decide +kernel
theorem d_P_letting_70 : decode b_P_letting 70 = .ok (.land, 1) := by decide +kernel
theorem d_P_letting_71 : decode b_P_letting 71 = .ok (.lor, 1) := by decide +kernel
theorem d_P_letting_72 : decode b_P_letting 72 = .ok (.lreturn, 1) := by decide +kernel
abbrev b_Q_init : ByteArray := prog_4_method_1_code
def y_Q_init : MethodName := ⟨"SeatProofs$Proof", "<init>", "()V"⟩
abbrev w_Q_init : List Cond := .code y_Q_init b_Q_init 1 none :: gT
theorem d_Q_init_0 : decode b_Q_init 0 = .ok (.aload_n 0, 1) := by decide +kernel
theorem d_Q_init_1 : decode b_Q_init 1 = .ok (.invokespecial 3, 3) := by decide +kernel
theorem d_Q_init_4 : decode b_Q_init 4 = .ok (.aload_n 0, 1) := by decide +kernel
theorem d_Q_init_5 : decode b_Q_init 5 = .ok (.sipush 975, 3) := by decide +kernel
theorem d_Q_init_8 : decode b_Q_init 8 = .ok (.newarray .int, 2) := by decide +kernel
theorem d_Q_init_10 : decode b_Q_init 10 = .ok (.putfield 9, 3) := by decide +kernel
theorem d_Q_init_13 : decode b_Q_init 13 = .ok (.aload_n 0, 1) := by decide +kernel
theorem d_Q_init_14 : decode b_Q_init 14 = .ok (.sipush 975, 3) := by decide +kernel
theorem d_Q_init_17 : decode b_Q_init 17 = .ok (.newarray .int, 2) := by decide +kernel
theorem d_Q_init_19 : decode b_Q_init 19 = .ok (.putfield 15, 3) := by decide +kernel
theorem d_Q_init_22 : decode b_Q_init 22 = .ok (.aload_n 0, 1) := by decide +kernel
theorem d_Q_init_23 : decode b_Q_init 23 = .ok (.sipush 975, 3) := by decide +kernel
theorem d_Q_init_26 : decode b_Q_init 26 = .ok (.newarray .long, 2) := by decide +kernel
theorem d_Q_init_28 : decode b_Q_init 28 = .ok (.putfield 18, 3) := by decide +kernel
theorem d_Q_init_31 : decode b_Q_init 31 = .ok (.aload_n 0, 1) := by decide +kernel
theorem d_Q_init_32 : decode b_Q_init 32 = .ok (.sipush 975, 3) := by decide +kernel
theorem d_Q_init_35 : decode b_Q_init 35 = .ok (.newarray .long, 2) := by decide +kernel
theorem d_Q_init_37 : decode b_Q_init 37 = .ok (.putfield 22, 3) := by decide +kernel
theorem d_Q_init_40 : decode b_Q_init 40 = .ok (.return_, 1) := by decide +kernel
abbrev b_Q_empty : ByteArray := prog_4_method_2_code
def y_Q_empty : MethodName := ⟨"SeatProofs$Proof", "empty", "()V"⟩
abbrev w_Q_empty : List Cond := .code y_Q_empty b_Q_empty 1 none :: gT
theorem d_Q_empty_0 : decode b_Q_empty 0 = .ok (.aload_n 0, 1) := by decide +kernel
theorem d_Q_empty_1 : decode b_Q_empty 1 = .ok (.iconst 0, 1) := by decide +kernel
theorem d_Q_empty_2 : decode b_Q_empty 2 = .ok (.putfield 25, 3) := by decide +kernel
theorem d_Q_empty_5 : decode b_Q_empty 5 = .ok (.return_, 1) := by decide +kernel
abbrev b_Q_hasRow : ByteArray := prog_4_method_3_code
def y_Q_hasRow : MethodName := ⟨"SeatProofs$Proof", "hasRow", "(I)Z"⟩
abbrev w_Q_hasRow : List Cond := .code y_Q_hasRow b_Q_hasRow 2 (some .boolean) :: gT
theorem d_Q_hasRow_0 : decode b_Q_hasRow 0 = .ok (.iload_n 1, 1) := by decide +kernel
theorem d_Q_hasRow_1 : decode b_Q_hasRow 1 = .ok (.ifCond .lt 15, 3) := by decide +kernel
theorem d_Q_hasRow_4 : decode b_Q_hasRow 4 = .ok (.iload_n 1, 1) := by decide +kernel
theorem d_Q_hasRow_5 : decode b_Q_hasRow 5 = .ok (.aload_n 0, 1) := by decide +kernel
theorem d_Q_hasRow_6 : decode b_Q_hasRow 6 = .ok (.getfield 25, 3) := by decide +kernel
theorem d_Q_hasRow_9 : decode b_Q_hasRow 9 = .ok (.if_icmp .ge 7, 3) := by decide +kernel
theorem d_Q_hasRow_12 : decode b_Q_hasRow 12 = .ok (.iconst 1, 1) := by decide +kernel
theorem d_Q_hasRow_13 : decode b_Q_hasRow 13 = .ok (.goto 4, 3) := by decide +kernel
theorem d_Q_hasRow_16 : decode b_Q_hasRow 16 = .ok (.iconst 0, 1) := by decide +kernel
theorem d_Q_hasRow_17 : decode b_Q_hasRow 17 = .ok (.ireturn, 1) := by decide +kernel
abbrev b_Q_add : ByteArray := prog_4_method_4_code
def y_Q_add : MethodName := ⟨"SeatProofs$Proof", "add", "(IIJJ)V"⟩
abbrev w_Q_add : List Cond := .code y_Q_add b_Q_add 7 none :: gT
theorem d_Q_add_0 : decode b_Q_add 0 = .ok (.aload_n 0, 1) := by decide +kernel
theorem d_Q_add_1 : decode b_Q_add 1 = .ok (.getfield 25, 3) := by decide +kernel
theorem d_Q_add_4 : decode b_Q_add 4 = .ok (.sipush 975, 3) := by decide +kernel
theorem d_Q_add_7 : decode b_Q_add 7 = .ok (.if_icmp .ge 54, 3) := by decide +kernel
theorem d_Q_add_10 : decode b_Q_add 10 = .ok (.aload_n 0, 1) := by decide +kernel
theorem d_Q_add_11 : decode b_Q_add 11 = .ok (.getfield 9, 3) := by decide +kernel
theorem d_Q_add_14 : decode b_Q_add 14 = .ok (.aload_n 0, 1) := by decide +kernel
theorem d_Q_add_15 : decode b_Q_add 15 = .ok (.getfield 25, 3) := by decide +kernel
theorem d_Q_add_18 : decode b_Q_add 18 = .ok (.iload_n 1, 1) := by decide +kernel
theorem d_Q_add_19 : decode b_Q_add 19 = .ok (.iastore, 1) := by decide +kernel
theorem d_Q_add_20 : decode b_Q_add 20 = .ok (.aload_n 0, 1) := by decide +kernel
theorem d_Q_add_21 : decode b_Q_add 21 = .ok (.getfield 15, 3) := by decide +kernel
theorem d_Q_add_24 : decode b_Q_add 24 = .ok (.aload_n 0, 1) := by decide +kernel
theorem d_Q_add_25 : decode b_Q_add 25 = .ok (.getfield 25, 3) := by decide +kernel
theorem d_Q_add_28 : decode b_Q_add 28 = .ok (.iload_n 2, 1) := by decide +kernel
theorem d_Q_add_29 : decode b_Q_add 29 = .ok (.iastore, 1) := by decide +kernel
theorem d_Q_add_30 : decode b_Q_add 30 = .ok (.aload_n 0, 1) := by decide +kernel
theorem d_Q_add_31 : decode b_Q_add 31 = .ok (.getfield 18, 3) := by decide +kernel
theorem d_Q_add_34 : decode b_Q_add 34 = .ok (.aload_n 0, 1) := by decide +kernel
theorem d_Q_add_35 : decode b_Q_add 35 = .ok (.getfield 25, 3) := by decide +kernel
theorem d_Q_add_38 : decode b_Q_add 38 = .ok (.lload_n 3, 1) := by decide +kernel
theorem d_Q_add_39 : decode b_Q_add 39 = .ok (.lastore, 1) := by decide +kernel
theorem d_Q_add_40 : decode b_Q_add 40 = .ok (.aload_n 0, 1) := by decide +kernel
theorem d_Q_add_41 : decode b_Q_add 41 = .ok (.getfield 22, 3) := by decide +kernel
theorem d_Q_add_44 : decode b_Q_add 44 = .ok (.aload_n 0, 1) := by decide +kernel
theorem d_Q_add_45 : decode b_Q_add 45 = .ok (.getfield 25, 3) := by decide +kernel
theorem d_Q_add_48 : decode b_Q_add 48 = .ok (.lload 5, 2) := by decide +kernel
theorem d_Q_add_50 : decode b_Q_add 50 = .ok (.lastore, 1) := by decide +kernel
theorem d_Q_add_51 : decode b_Q_add 51 = .ok (.aload_n 0, 1) := by decide +kernel
theorem d_Q_add_52 : decode b_Q_add 52 = .ok (.dup, 1) := by decide +kernel
theorem d_Q_add_53 : decode b_Q_add 53 = .ok (.getfield 25, 3) := by decide +kernel
theorem d_Q_add_56 : decode b_Q_add 56 = .ok (.iconst 1, 1) := by decide +kernel
theorem d_Q_add_57 : decode b_Q_add 57 = .ok (.iadd, 1) := by decide +kernel
theorem d_Q_add_58 : decode b_Q_add 58 = .ok (.putfield 25, 3) := by decide +kernel
theorem d_Q_add_61 : decode b_Q_add 61 = .ok (.return_, 1) := by decide +kernel
abbrev b_Q_remove : ByteArray := prog_4_method_5_code
def y_Q_remove : MethodName := ⟨"SeatProofs$Proof", "remove", "(I)V"⟩
abbrev w_Q_remove : List Cond := .code y_Q_remove b_Q_remove 3 none :: gT
theorem d_Q_remove_0 : decode b_Q_remove 0 = .ok (.aload_n 0, 1) := by decide +kernel
theorem d_Q_remove_1 : decode b_Q_remove 1 = .ok (.getfield 25, 3) := by decide +kernel
theorem d_Q_remove_4 : decode b_Q_remove 4 = .ok (.iload_n 1, 1) := by decide +kernel
theorem d_Q_remove_5 : decode b_Q_remove 5 = .ok (.isub, 1) := by decide +kernel
theorem d_Q_remove_6 : decode b_Q_remove 6 = .ok (.iconst 1, 1) := by decide +kernel
theorem d_Q_remove_7 : decode b_Q_remove 7 = .ok (.isub, 1) := by decide +kernel
theorem d_Q_remove_8 : decode b_Q_remove 8 = .ok (.istore_n 2, 1) := by decide +kernel
theorem d_Q_remove_9 : decode b_Q_remove 9 = .ok (.aload_n 0, 1) := by decide +kernel
theorem d_Q_remove_10 : decode b_Q_remove 10 = .ok (.getfield 9, 3) := by decide +kernel
theorem d_Q_remove_13 : decode b_Q_remove 13 = .ok (.iload_n 1, 1) := by decide +kernel
theorem d_Q_remove_14 : decode b_Q_remove 14 = .ok (.iconst 1, 1) := by decide +kernel
theorem d_Q_remove_15 : decode b_Q_remove 15 = .ok (.iadd, 1) := by decide +kernel
theorem d_Q_remove_16 : decode b_Q_remove 16 = .ok (.aload_n 0, 1) := by decide +kernel
theorem d_Q_remove_17 : decode b_Q_remove 17 = .ok (.getfield 9, 3) := by decide +kernel
theorem d_Q_remove_20 : decode b_Q_remove 20 = .ok (.iload_n 1, 1) := by decide +kernel
theorem d_Q_remove_21 : decode b_Q_remove 21 = .ok (.iload_n 2, 1) := by decide +kernel
theorem d_Q_remove_22 : decode b_Q_remove 22 = .ok (.invokestatic 29, 3) := by decide +kernel
theorem d_Q_remove_25 : decode b_Q_remove 25 = .ok (.aload_n 0, 1) := by decide +kernel
theorem d_Q_remove_26 : decode b_Q_remove 26 = .ok (.getfield 15, 3) := by decide +kernel
theorem d_Q_remove_29 : decode b_Q_remove 29 = .ok (.iload_n 1, 1) := by decide +kernel
theorem d_Q_remove_30 : decode b_Q_remove 30 = .ok (.iconst 1, 1) := by decide +kernel
theorem d_Q_remove_31 : decode b_Q_remove 31 = .ok (.iadd, 1) := by decide +kernel
theorem d_Q_remove_32 : decode b_Q_remove 32 = .ok (.aload_n 0, 1) := by decide +kernel
theorem d_Q_remove_33 : decode b_Q_remove 33 = .ok (.getfield 15, 3) := by decide +kernel
theorem d_Q_remove_36 : decode b_Q_remove 36 = .ok (.iload_n 1, 1) := by decide +kernel
theorem d_Q_remove_37 : decode b_Q_remove 37 = .ok (.iload_n 2, 1) := by decide +kernel
theorem d_Q_remove_38 : decode b_Q_remove 38 = .ok (.invokestatic 29, 3) := by decide +kernel
theorem d_Q_remove_41 : decode b_Q_remove 41 = .ok (.aload_n 0, 1) := by decide +kernel
theorem d_Q_remove_42 : decode b_Q_remove 42 = .ok (.getfield 18, 3) := by decide +kernel
theorem d_Q_remove_45 : decode b_Q_remove 45 = .ok (.iload_n 1, 1) := by decide +kernel
theorem d_Q_remove_46 : decode b_Q_remove 46 = .ok (.iconst 1, 1) := by decide +kernel
theorem d_Q_remove_47 : decode b_Q_remove 47 = .ok (.iadd, 1) := by decide +kernel
theorem d_Q_remove_48 : decode b_Q_remove 48 = .ok (.aload_n 0, 1) := by decide +kernel
theorem d_Q_remove_49 : decode b_Q_remove 49 = .ok (.getfield 18, 3) := by decide +kernel
theorem d_Q_remove_52 : decode b_Q_remove 52 = .ok (.iload_n 1, 1) := by decide +kernel
theorem d_Q_remove_53 : decode b_Q_remove 53 = .ok (.iload_n 2, 1) := by decide +kernel
theorem d_Q_remove_54 : decode b_Q_remove 54 = .ok (.invokestatic 29, 3) := by decide +kernel
theorem d_Q_remove_57 : decode b_Q_remove 57 = .ok (.aload_n 0, 1) := by decide +kernel
theorem d_Q_remove_58 : decode b_Q_remove 58 = .ok (.getfield 22, 3) := by decide +kernel
theorem d_Q_remove_61 : decode b_Q_remove 61 = .ok (.iload_n 1, 1) := by decide +kernel
theorem d_Q_remove_62 : decode b_Q_remove 62 = .ok (.iconst 1, 1) := by decide +kernel
theorem d_Q_remove_63 : decode b_Q_remove 63 = .ok (.iadd, 1) := by decide +kernel
theorem d_Q_remove_64 : decode b_Q_remove 64 = .ok (.aload_n 0, 1) := by decide +kernel
theorem d_Q_remove_65 : decode b_Q_remove 65 = .ok (.getfield 22, 3) := by decide +kernel
theorem d_Q_remove_68 : decode b_Q_remove 68 = .ok (.iload_n 1, 1) := by decide +kernel
theorem d_Q_remove_69 : decode b_Q_remove 69 = .ok (.iload_n 2, 1) := by decide +kernel
theorem d_Q_remove_70 : decode b_Q_remove 70 = .ok (.invokestatic 29, 3) := by decide +kernel
theorem d_Q_remove_73 : decode b_Q_remove 73 = .ok (.aload_n 0, 1) := by decide +kernel
theorem d_Q_remove_74 : decode b_Q_remove 74 = .ok (.dup, 1) := by decide +kernel
theorem d_Q_remove_75 : decode b_Q_remove 75 = .ok (.getfield 25, 3) := by decide +kernel
theorem d_Q_remove_78 : decode b_Q_remove 78 = .ok (.iconst 1, 1) := by decide +kernel
theorem d_Q_remove_79 : decode b_Q_remove 79 = .ok (.isub, 1) := by decide +kernel
theorem d_Q_remove_80 : decode b_Q_remove 80 = .ok (.putfield 25, 3) := by decide +kernel
theorem d_Q_remove_83 : decode b_Q_remove 83 = .ok (.return_, 1) := by decide +kernel
abbrev b_Lg_bitCount : ByteArray := prog_9_method_50_code
def y_Lg_bitCount : MethodName := ⟨"java/lang/Long", "bitCount", "(J)I"⟩
abbrev w_Lg_bitCount : List Cond := .code y_Lg_bitCount b_Lg_bitCount 2 (some .int) :: gT
theorem d_Lg_bitCount_0 : decode b_Lg_bitCount 0 = .ok (.lload_n 0, 1) := by decide +kernel
theorem d_Lg_bitCount_1 : decode b_Lg_bitCount 1 = .ok (.lload_n 0, 1) := by decide +kernel
theorem d_Lg_bitCount_2 : decode b_Lg_bitCount 2 = .ok (.iconst 1, 1) := by decide +kernel
theorem d_Lg_bitCount_3 : decode b_Lg_bitCount 3 = .ok (.lushr, 1) := by decide +kernel
theorem d_Lg_bitCount_4 : decode b_Lg_bitCount 4 = .ok (.ldc2_w 314, 3) := by decide +kernel
theorem d_Lg_bitCount_7 : decode b_Lg_bitCount 7 = .ok (.land, 1) := by decide +kernel
theorem d_Lg_bitCount_8 : decode b_Lg_bitCount 8 = .ok (.lsub, 1) := by decide +kernel
theorem d_Lg_bitCount_9 : decode b_Lg_bitCount 9 = .ok (.lstore_n 0, 1) := by decide +kernel
theorem d_Lg_bitCount_10 : decode b_Lg_bitCount 10 = .ok (.lload_n 0, 1) := by decide +kernel
theorem d_Lg_bitCount_11 : decode b_Lg_bitCount 11 = .ok (.ldc2_w 316, 3) := by decide +kernel
theorem d_Lg_bitCount_14 : decode b_Lg_bitCount 14 = .ok (.land, 1) := by decide +kernel
theorem d_Lg_bitCount_15 : decode b_Lg_bitCount 15 = .ok (.lload_n 0, 1) := by decide +kernel
theorem d_Lg_bitCount_16 : decode b_Lg_bitCount 16 = .ok (.iconst 2, 1) := by decide +kernel
theorem d_Lg_bitCount_17 : decode b_Lg_bitCount 17 = .ok (.lushr, 1) := by decide +kernel
theorem d_Lg_bitCount_18 : decode b_Lg_bitCount 18 = .ok (.ldc2_w 316, 3) := by decide +kernel
theorem d_Lg_bitCount_21 : decode b_Lg_bitCount 21 = .ok (.land, 1) := by decide +kernel
theorem d_Lg_bitCount_22 : decode b_Lg_bitCount 22 = .ok (.ladd, 1) := by decide +kernel
theorem d_Lg_bitCount_23 : decode b_Lg_bitCount 23 = .ok (.lstore_n 0, 1) := by decide +kernel
theorem d_Lg_bitCount_24 : decode b_Lg_bitCount 24 = .ok (.lload_n 0, 1) := by decide +kernel
theorem d_Lg_bitCount_25 : decode b_Lg_bitCount 25 = .ok (.lload_n 0, 1) := by decide +kernel
theorem d_Lg_bitCount_26 : decode b_Lg_bitCount 26 = .ok (.iconst 4, 1) := by decide +kernel
theorem d_Lg_bitCount_27 : decode b_Lg_bitCount 27 = .ok (.lushr, 1) := by decide +kernel
theorem d_Lg_bitCount_28 : decode b_Lg_bitCount 28 = .ok (.ladd, 1) := by decide +kernel
theorem d_Lg_bitCount_29 : decode b_Lg_bitCount 29 = .ok (.ldc2_w 318, 3) := by decide +kernel
theorem d_Lg_bitCount_32 : decode b_Lg_bitCount 32 = .ok (.land, 1) := by decide +kernel
theorem d_Lg_bitCount_33 : decode b_Lg_bitCount 33 = .ok (.lstore_n 0, 1) := by decide +kernel
theorem d_Lg_bitCount_34 : decode b_Lg_bitCount 34 = .ok (.lload_n 0, 1) := by decide +kernel
theorem d_Lg_bitCount_35 : decode b_Lg_bitCount 35 = .ok (.lload_n 0, 1) := by decide +kernel
theorem d_Lg_bitCount_36 : decode b_Lg_bitCount 36 = .ok (.bipush 8, 2) := by decide +kernel
theorem d_Lg_bitCount_38 : decode b_Lg_bitCount 38 = .ok (.lushr, 1) := by decide +kernel
theorem d_Lg_bitCount_39 : decode b_Lg_bitCount 39 = .ok (.ladd, 1) := by decide +kernel
theorem d_Lg_bitCount_40 : decode b_Lg_bitCount 40 = .ok (.lstore_n 0, 1) := by decide +kernel
theorem d_Lg_bitCount_41 : decode b_Lg_bitCount 41 = .ok (.lload_n 0, 1) := by decide +kernel
theorem d_Lg_bitCount_42 : decode b_Lg_bitCount 42 = .ok (.lload_n 0, 1) := by decide +kernel
theorem d_Lg_bitCount_43 : decode b_Lg_bitCount 43 = .ok (.bipush 16, 2) := by decide +kernel
theorem d_Lg_bitCount_45 : decode b_Lg_bitCount 45 = .ok (.lushr, 1) := by decide +kernel
theorem d_Lg_bitCount_46 : decode b_Lg_bitCount 46 = .ok (.ladd, 1) := by decide +kernel
theorem d_Lg_bitCount_47 : decode b_Lg_bitCount 47 = .ok (.lstore_n 0, 1) := by decide +kernel
theorem d_Lg_bitCount_48 : decode b_Lg_bitCount 48 = .ok (.lload_n 0, 1) := by decide +kernel
theorem d_Lg_bitCount_49 : decode b_Lg_bitCount 49 = .ok (.lload_n 0, 1) := by decide +kernel
theorem d_Lg_bitCount_50 : decode b_Lg_bitCount 50 = .ok (.bipush 32, 2) := by decide +kernel
theorem d_Lg_bitCount_52 : decode b_Lg_bitCount 52 = .ok (.lushr, 1) := by decide +kernel
theorem d_Lg_bitCount_53 : decode b_Lg_bitCount 53 = .ok (.ladd, 1) := by decide +kernel
theorem d_Lg_bitCount_54 : decode b_Lg_bitCount 54 = .ok (.lstore_n 0, 1) := by decide +kernel
theorem d_Lg_bitCount_55 : decode b_Lg_bitCount 55 = .ok (.lload_n 0, 1) := by decide +kernel
theorem d_Lg_bitCount_56 : decode b_Lg_bitCount 56 = .ok (.l2i, 1) := by decide +kernel
theorem d_Lg_bitCount_57 : decode b_Lg_bitCount 57 = .ok (.bipush 127, 2) := by decide +kernel
theorem d_Lg_bitCount_59 : decode b_Lg_bitCount 59 = .ok (.iand, 1) := by decide +kernel
theorem d_Lg_bitCount_60 : decode b_Lg_bitCount 60 = .ok (.ireturn, 1) := by decide +kernel
theorem gg_S_init : GoodIn gT w_S_init := good_c iw_16
theorem gg_S_space : GoodIn gT w_S_space := good_c iw_146
theorem gg_S_valve : GoodIn gT w_S_valve := good_c iw_161
theorem gg_S_level : GoodIn gT w_S_level := good_c iw_185
theorem gg_S_may : GoodIn gT w_S_may := good_c iw_197
theorem gg_S_safe : GoodIn gT w_S_safe := good_c iw_212
theorem gg_S_culprit : GoodIn gT w_S_culprit := good_c iw_278
theorem gg_S_rows : GoodIn gT w_S_rows := good_c iw_282
theorem gg_S_row : GoodIn gT w_S_row := good_c iw_286
theorem gg_S_check : GoodIn gT w_S_check := good_c iw_297
theorem gg_S_set : GoodIn gT w_S_set := good_c iw_337
theorem gg_S_unsure : GoodIn gT w_S_unsure := good_c iw_429
theorem gg_S_tested : GoodIn gT w_S_tested := good_c iw_310
theorem gg_S_drop : GoodIn gT w_S_drop := good_c iw_314
theorem gg_S_clear : GoodIn gT w_S_clear := good_c iw_325
theorem gg_S_keepCulprit : GoodIn gT w_S_keepCulprit := good_c iw_254
theorem gg_S_addRows : GoodIn gT w_S_addRows := good_c iw_266
theorem gg_S_isRight : GoodIn gT w_S_isRight := good_c iw_301
theorem gg_S_remakeTouched : GoodIn gT w_S_remakeTouched := good_c iw_412
theorem gg_S_isTouched : GoodIn gT w_S_isTouched := good_c iw_416
theorem gg_S_rowsClash : GoodIn gT w_S_rowsClash := good_c iw_422
theorem gg_S_isLiquid : GoodIn gT w_S_isLiquid := good_c iw_200
theorem gg_S_only : GoodIn gT w_S_only := good_c iw_157
theorem gg_S_has : GoodIn gT w_S_has := good_c iw_192
theorem gg_S_lowest : GoodIn gT w_S_lowest := good_c iw_237
theorem gg_S_memberAt : GoodIn gT w_S_memberAt := good_c iw_293
theorem gg_F_init : GoodIn gT w_F_init := good_c iw_81
theorem gg_F_lay : GoodIn gT w_F_lay := good_c iw_216
theorem gg_F_layWay : GoodIn gT w_F_layWay := good_c iw_225
theorem gg_F_floodAll : GoodIn gT w_F_floodAll := good_c iw_230
theorem gg_F_floodOf : GoodIn gT w_F_floodOf := good_c iw_234
theorem gg_F_cutOf : GoodIn gT w_F_cutOf := good_c iw_270
theorem gg_F_clashes : GoodIn gT w_F_clashes := good_c iw_262
theorem gg_F_meetings : GoodIn gT w_F_meetings := good_c iw_248
theorem gg_F_leastClashing : GoodIn gT w_F_leastClashing := good_c iw_258
theorem gg_P_init : GoodIn gT w_P_init := good_c iw_24
theorem gg_P_empty : GoodIn gT w_P_empty := good_c iw_329
theorem gg_P_hasSpace : GoodIn gT w_P_hasSpace := good_c iw_165
theorem gg_P_hasValve : GoodIn gT w_P_hasValve := good_c iw_341
theorem gg_P_addSpace : GoodIn gT w_P_addSpace := good_c iw_154
theorem gg_P_addValve : GoodIn gT w_P_addValve := good_c iw_169
theorem gg_P_raiseTo : GoodIn gT w_P_raiseTo := good_c iw_189
theorem gg_P_measure : GoodIn gT w_P_measure := good_c iw_181
theorem gg_P_turn : GoodIn gT w_P_turn := good_c iw_173
theorem gg_P_doubt : GoodIn gT w_P_doubt := good_c iw_433
theorem gg_P_with : GoodIn gT w_P_with := good_c iw_176
theorem gg_P_areFriends : GoodIn gT w_P_areFriends := good_c iw_204
theorem gg_P_befriend : GoodIn gT w_P_befriend := good_c iw_208
theorem gg_P_rowsDue : GoodIn gT w_P_rowsDue := good_c iw_306
theorem gg_P_letting : GoodIn gT w_P_letting := good_c iw_220
theorem gg_Q_init : GoodIn gT w_Q_init := good_c iw_101
theorem gg_Q_empty : GoodIn gT w_Q_empty := good_c iw_150
theorem gg_Q_hasRow : GoodIn gT w_Q_hasRow := good_c iw_290
theorem gg_Q_add : GoodIn gT w_Q_add := good_c iw_274
theorem gg_Q_remove : GoodIn gT w_Q_remove := good_c iw_318
theorem gg_Lg_bitCount : GoodIn gT w_Lg_bitCount := good_c iw_240
