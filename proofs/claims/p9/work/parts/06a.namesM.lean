abbrev b_M_init : ByteArray := prog_6_method_1_code
def y_M_init : MethodName := ⟨"SeatProofsModel", "<init>", "()V"⟩
abbrev w_M_init : List Cond := .code y_M_init b_M_init 1 none :: gT
theorem d_M_init_0 : decode b_M_init 0 = .ok (.aload_n 0, 1) := by decide +kernel
theorem d_M_init_1 : decode b_M_init 1 = .ok (.invokespecial 1, 3) := by decide +kernel
theorem d_M_init_4 : decode b_M_init 4 = .ok (.aload_n 0, 1) := by decide +kernel
theorem d_M_init_5 : decode b_M_init 5 = .ok (.bipush 64, 2) := by decide +kernel
theorem d_M_init_7 : decode b_M_init 7 = .ok (.newarray .int, 2) := by decide +kernel
theorem d_M_init_9 : decode b_M_init 9 = .ok (.putfield 9, 3) := by decide +kernel
theorem d_M_init_12 : decode b_M_init 12 = .ok (.aload_n 0, 1) := by decide +kernel
theorem d_M_init_13 : decode b_M_init 13 = .ok (.bipush 64, 2) := by decide +kernel
theorem d_M_init_15 : decode b_M_init 15 = .ok (.newarray .long, 2) := by decide +kernel
theorem d_M_init_17 : decode b_M_init 17 = .ok (.putfield 13, 3) := by decide +kernel
theorem d_M_init_20 : decode b_M_init 20 = .ok (.aload_n 0, 1) := by decide +kernel
theorem d_M_init_21 : decode b_M_init 21 = .ok (.bipush 64, 2) := by decide +kernel
theorem d_M_init_23 : decode b_M_init 23 = .ok (.newarray .int, 2) := by decide +kernel
theorem d_M_init_25 : decode b_M_init 25 = .ok (.putfield 17, 3) := by decide +kernel
theorem d_M_init_28 : decode b_M_init 28 = .ok (.aload_n 0, 1) := by decide +kernel
theorem d_M_init_29 : decode b_M_init 29 = .ok (.bipush 64, 2) := by decide +kernel
theorem d_M_init_31 : decode b_M_init 31 = .ok (.newarray .int, 2) := by decide +kernel
theorem d_M_init_33 : decode b_M_init 33 = .ok (.putfield 20, 3) := by decide +kernel
theorem d_M_init_36 : decode b_M_init 36 = .ok (.aload_n 0, 1) := by decide +kernel
theorem d_M_init_37 : decode b_M_init 37 = .ok (.bipush 64, 2) := by decide +kernel
theorem d_M_init_39 : decode b_M_init 39 = .ok (.newarray .int, 2) := by decide +kernel
theorem d_M_init_41 : decode b_M_init 41 = .ok (.putfield 23, 3) := by decide +kernel
theorem d_M_init_44 : decode b_M_init 44 = .ok (.aload_n 0, 1) := by decide +kernel
theorem d_M_init_45 : decode b_M_init 45 = .ok (.bipush 64, 2) := by decide +kernel
theorem d_M_init_47 : decode b_M_init 47 = .ok (.newarray .boolean, 2) := by decide +kernel
theorem d_M_init_49 : decode b_M_init 49 = .ok (.putfield 26, 3) := by decide +kernel
theorem d_M_init_52 : decode b_M_init 52 = .ok (.aload_n 0, 1) := by decide +kernel
theorem d_M_init_53 : decode b_M_init 53 = .ok (.bipush 64, 2) := by decide +kernel
theorem d_M_init_55 : decode b_M_init 55 = .ok (.newarray .boolean, 2) := by decide +kernel
theorem d_M_init_57 : decode b_M_init 57 = .ok (.putfield 30, 3) := by decide +kernel
theorem d_M_init_60 : decode b_M_init 60 = .ok (.aload_n 0, 1) := by decide +kernel
theorem d_M_init_61 : decode b_M_init 61 = .ok (.sipush 256, 3) := by decide +kernel
theorem d_M_init_64 : decode b_M_init 64 = .ok (.newarray .boolean, 2) := by decide +kernel
theorem d_M_init_66 : decode b_M_init 66 = .ok (.putfield 33, 3) := by decide +kernel
theorem d_M_init_69 : decode b_M_init 69 = .ok (.aload_n 0, 1) := by decide +kernel
theorem d_M_init_70 : decode b_M_init 70 = .ok (.sipush 975, 3) := by decide +kernel
theorem d_M_init_73 : decode b_M_init 73 = .ok (.newarray .int, 2) := by decide +kernel
theorem d_M_init_75 : decode b_M_init 75 = .ok (.putfield 36, 3) := by decide +kernel
theorem d_M_init_78 : decode b_M_init 78 = .ok (.aload_n 0, 1) := by decide +kernel
theorem d_M_init_79 : decode b_M_init 79 = .ok (.sipush 975, 3) := by decide +kernel
theorem d_M_init_82 : decode b_M_init 82 = .ok (.newarray .int, 2) := by decide +kernel
theorem d_M_init_84 : decode b_M_init 84 = .ok (.putfield 39, 3) := by decide +kernel
theorem d_M_init_87 : decode b_M_init 87 = .ok (.aload_n 0, 1) := by decide +kernel
theorem d_M_init_88 : decode b_M_init 88 = .ok (.sipush 975, 3) := by decide +kernel
theorem d_M_init_91 : decode b_M_init 91 = .ok (.newarray .long, 2) := by decide +kernel
theorem d_M_init_93 : decode b_M_init 93 = .ok (.putfield 42, 3) := by decide +kernel
theorem d_M_init_96 : decode b_M_init 96 = .ok (.aload_n 0, 1) := by decide +kernel
theorem d_M_init_97 : decode b_M_init 97 = .ok (.sipush 975, 3) := by decide +kernel
theorem d_M_init_100 : decode b_M_init 100 = .ok (.newarray .long, 2) := by decide +kernel
theorem d_M_init_102 : decode b_M_init 102 = .ok (.putfield 45, 3) := by decide +kernel
theorem d_M_init_105 : decode b_M_init 105 = .ok (.aload_n 0, 1) := by decide +kernel
theorem d_M_init_106 : decode b_M_init 106 = .ok (.iconst 4, 1) := by decide +kernel
theorem d_M_init_107 : decode b_M_init 107 = .ok (.newarray .int, 2) := by decide +kernel
theorem d_M_init_109 : decode b_M_init 109 = .ok (.putfield 48, 3) := by decide +kernel
theorem d_M_init_112 : decode b_M_init 112 = .ok (.aload_n 0, 1) := by decide +kernel
theorem d_M_init_113 : decode b_M_init 113 = .ok (.bipush 64, 2) := by decide +kernel
theorem d_M_init_115 : decode b_M_init 115 = .ok (.newarray .boolean, 2) := by decide +kernel
theorem d_M_init_117 : decode b_M_init 117 = .ok (.putfield 51, 3) := by decide +kernel
theorem d_M_init_120 : decode b_M_init 120 = .ok (.return_, 1) := by decide +kernel
abbrev b_M_space : ByteArray := prog_6_method_3_code
def y_M_space : MethodName := ⟨"SeatProofsModel", "space", "(I)I"⟩
abbrev w_M_space : List Cond := .code y_M_space b_M_space 2 (some .int) :: gT
theorem d_M_space_0 : decode b_M_space 0 = .ok (.aload_n 0, 1) := by decide +kernel
theorem d_M_space_1 : decode b_M_space 1 = .ok (.iconst 0, 1) := by decide +kernel
theorem d_M_space_2 : decode b_M_space 2 = .ok (.putfield 54, 3) := by decide +kernel
theorem d_M_space_5 : decode b_M_space 5 = .ok (.iload_n 1, 1) := by decide +kernel
theorem d_M_space_6 : decode b_M_space 6 = .ok (.ifCond .lt 9, 3) := by decide +kernel
theorem d_M_space_9 : decode b_M_space 9 = .ok (.iload_n 1, 1) := by decide +kernel
theorem d_M_space_10 : decode b_M_space 10 = .ok (.bipush 16, 2) := by decide +kernel
theorem d_M_space_12 : decode b_M_space 12 = .ok (.if_icmp .lt 5, 3) := by decide +kernel
theorem d_M_space_15 : decode b_M_space 15 = .ok (.iconst (-1), 1) := by decide +kernel
theorem d_M_space_16 : decode b_M_space 16 = .ok (.ireturn, 1) := by decide +kernel
theorem d_M_space_17 : decode b_M_space 17 = .ok (.aload_n 0, 1) := by decide +kernel
theorem d_M_space_18 : decode b_M_space 18 = .ok (.getfield 58, 3) := by decide +kernel
theorem d_M_space_21 : decode b_M_space 21 = .ok (.bipush 64, 2) := by decide +kernel
theorem d_M_space_23 : decode b_M_space 23 = .ok (.if_icmp .ne 6, 3) := by decide +kernel
theorem d_M_space_26 : decode b_M_space 26 = .ok (.bipush (-2), 2) := by decide +kernel
theorem d_M_space_28 : decode b_M_space 28 = .ok (.ireturn, 1) := by decide +kernel
theorem d_M_space_29 : decode b_M_space 29 = .ok (.aload_n 0, 1) := by decide +kernel
theorem d_M_space_30 : decode b_M_space 30 = .ok (.getfield 9, 3) := by decide +kernel
theorem d_M_space_33 : decode b_M_space 33 = .ok (.aload_n 0, 1) := by decide +kernel
theorem d_M_space_34 : decode b_M_space 34 = .ok (.getfield 58, 3) := by decide +kernel
theorem d_M_space_37 : decode b_M_space 37 = .ok (.iload_n 1, 1) := by decide +kernel
theorem d_M_space_38 : decode b_M_space 38 = .ok (.iastore, 1) := by decide +kernel
theorem d_M_space_39 : decode b_M_space 39 = .ok (.aload_n 0, 1) := by decide +kernel
theorem d_M_space_40 : decode b_M_space 40 = .ok (.getfield 13, 3) := by decide +kernel
theorem d_M_space_43 : decode b_M_space 43 = .ok (.aload_n 0, 1) := by decide +kernel
theorem d_M_space_44 : decode b_M_space 44 = .ok (.getfield 58, 3) := by decide +kernel
theorem d_M_space_47 : decode b_M_space 47 = .ok (.lconst 0, 1) := by decide +kernel
theorem d_M_space_48 : decode b_M_space 48 = .ok (.lastore, 1) := by decide +kernel
theorem d_M_space_49 : decode b_M_space 49 = .ok (.aload_n 0, 1) := by decide +kernel
theorem d_M_space_50 : decode b_M_space 50 = .ok (.dup, 1) := by decide +kernel
theorem d_M_space_51 : decode b_M_space 51 = .ok (.getfield 58, 3) := by decide +kernel
theorem d_M_space_54 : decode b_M_space 54 = .ok (.iconst 1, 1) := by decide +kernel
theorem d_M_space_55 : decode b_M_space 55 = .ok (.iadd, 1) := by decide +kernel
theorem d_M_space_56 : decode b_M_space 56 = .ok (.putfield 58, 3) := by decide +kernel
theorem d_M_space_59 : decode b_M_space 59 = .ok (.aload_n 0, 1) := by decide +kernel
theorem d_M_space_60 : decode b_M_space 60 = .ok (.iconst 0, 1) := by decide +kernel
theorem d_M_space_61 : decode b_M_space 61 = .ok (.putfield 61, 3) := by decide +kernel
theorem d_M_space_64 : decode b_M_space 64 = .ok (.aload_n 0, 1) := by decide +kernel
theorem d_M_space_65 : decode b_M_space 65 = .ok (.getfield 58, 3) := by decide +kernel
theorem d_M_space_68 : decode b_M_space 68 = .ok (.iconst 1, 1) := by decide +kernel
theorem d_M_space_69 : decode b_M_space 69 = .ok (.isub, 1) := by decide +kernel
theorem d_M_space_70 : decode b_M_space 70 = .ok (.ireturn, 1) := by decide +kernel
abbrev b_M_isSpace : ByteArray := prog_6_method_4_code
def y_M_isSpace : MethodName := ⟨"SeatProofsModel", "isSpace", "(I)Z"⟩
abbrev w_M_isSpace : List Cond := .code y_M_isSpace b_M_isSpace 2 (some .boolean) :: gT
theorem d_M_isSpace_0 : decode b_M_isSpace 0 = .ok (.iload_n 1, 1) := by decide +kernel
theorem d_M_isSpace_1 : decode b_M_isSpace 1 = .ok (.ifCond .lt 15, 3) := by decide +kernel
theorem d_M_isSpace_4 : decode b_M_isSpace 4 = .ok (.iload_n 1, 1) := by decide +kernel
theorem d_M_isSpace_5 : decode b_M_isSpace 5 = .ok (.aload_n 0, 1) := by decide +kernel
theorem d_M_isSpace_6 : decode b_M_isSpace 6 = .ok (.getfield 58, 3) := by decide +kernel
theorem d_M_isSpace_9 : decode b_M_isSpace 9 = .ok (.if_icmp .ge 7, 3) := by decide +kernel
theorem d_M_isSpace_12 : decode b_M_isSpace 12 = .ok (.iconst 1, 1) := by decide +kernel
theorem d_M_isSpace_13 : decode b_M_isSpace 13 = .ok (.goto 4, 3) := by decide +kernel
theorem d_M_isSpace_16 : decode b_M_isSpace 16 = .ok (.iconst 0, 1) := by decide +kernel
theorem d_M_isSpace_17 : decode b_M_isSpace 17 = .ok (.ireturn, 1) := by decide +kernel
abbrev b_M_valve : ByteArray := prog_6_method_5_code
def y_M_valve : MethodName := ⟨"SeatProofsModel", "valve", "(IIIZ)I"⟩
abbrev w_M_valve : List Cond := .code y_M_valve b_M_valve 5 (some .int) :: gT
theorem d_M_valve_0 : decode b_M_valve 0 = .ok (.aload_n 0, 1) := by decide +kernel
theorem d_M_valve_1 : decode b_M_valve 1 = .ok (.iconst 0, 1) := by decide +kernel
theorem d_M_valve_2 : decode b_M_valve 2 = .ok (.putfield 54, 3) := by decide +kernel
theorem d_M_valve_5 : decode b_M_valve 5 = .ok (.aload_n 0, 1) := by decide +kernel
theorem d_M_valve_6 : decode b_M_valve 6 = .ok (.iload_n 1, 1) := by decide +kernel
theorem d_M_valve_7 : decode b_M_valve 7 = .ok (.invokevirtual 64, 3) := by decide +kernel
theorem d_M_valve_10 : decode b_M_valve 10 = .ok (.ifCond .eq 26, 3) := by decide +kernel
theorem d_M_valve_13 : decode b_M_valve 13 = .ok (.aload_n 0, 1) := by decide +kernel
theorem d_M_valve_14 : decode b_M_valve 14 = .ok (.iload_n 2, 1) := by decide +kernel
theorem d_M_valve_15 : decode b_M_valve 15 = .ok (.invokevirtual 64, 3) := by decide +kernel
theorem d_M_valve_18 : decode b_M_valve 18 = .ok (.ifCond .eq 18, 3) := by decide +kernel
theorem d_M_valve_21 : decode b_M_valve 21 = .ok (.iload_n 1, 1) := by decide +kernel
theorem d_M_valve_22 : decode b_M_valve 22 = .ok (.iload_n 2, 1) := by decide +kernel
theorem d_M_valve_23 : decode b_M_valve 23 = .ok (.if_icmp .eq 13, 3) := by decide +kernel
theorem d_M_valve_26 : decode b_M_valve 26 = .ok (.iload_n 3, 1) := by decide +kernel
theorem d_M_valve_27 : decode b_M_valve 27 = .ok (.iconst 1, 1) := by decide +kernel
theorem d_M_valve_28 : decode b_M_valve 28 = .ok (.if_icmp .lt 8, 3) := by decide +kernel
theorem d_M_valve_31 : decode b_M_valve 31 = .ok (.iload_n 3, 1) := by decide +kernel
theorem d_M_valve_32 : decode b_M_valve 32 = .ok (.iconst 2, 1) := by decide +kernel
theorem d_M_valve_33 : decode b_M_valve 33 = .ok (.if_icmp .le 5, 3) := by decide +kernel
theorem d_M_valve_36 : decode b_M_valve 36 = .ok (.iconst (-1), 1) := by decide +kernel
theorem d_M_valve_37 : decode b_M_valve 37 = .ok (.ireturn, 1) := by decide +kernel
theorem d_M_valve_38 : decode b_M_valve 38 = .ok (.aload_n 0, 1) := by decide +kernel
theorem d_M_valve_39 : decode b_M_valve 39 = .ok (.getfield 68, 3) := by decide +kernel
theorem d_M_valve_42 : decode b_M_valve 42 = .ok (.bipush 64, 2) := by decide +kernel
theorem d_M_valve_44 : decode b_M_valve 44 = .ok (.if_icmp .ne 6, 3) := by decide +kernel
theorem d_M_valve_47 : decode b_M_valve 47 = .ok (.bipush (-2), 2) := by decide +kernel
theorem d_M_valve_49 : decode b_M_valve 49 = .ok (.ireturn, 1) := by decide +kernel
theorem d_M_valve_50 : decode b_M_valve 50 = .ok (.aload_n 0, 1) := by decide +kernel
theorem d_M_valve_51 : decode b_M_valve 51 = .ok (.getfield 17, 3) := by decide +kernel
theorem d_M_valve_54 : decode b_M_valve 54 = .ok (.aload_n 0, 1) := by decide +kernel
theorem d_M_valve_55 : decode b_M_valve 55 = .ok (.getfield 68, 3) := by decide +kernel
theorem d_M_valve_58 : decode b_M_valve 58 = .ok (.iload_n 1, 1) := by decide +kernel
theorem d_M_valve_59 : decode b_M_valve 59 = .ok (.iastore, 1) := by decide +kernel
theorem d_M_valve_60 : decode b_M_valve 60 = .ok (.aload_n 0, 1) := by decide +kernel
theorem d_M_valve_61 : decode b_M_valve 61 = .ok (.getfield 20, 3) := by decide +kernel
theorem d_M_valve_64 : decode b_M_valve 64 = .ok (.aload_n 0, 1) := by decide +kernel
theorem d_M_valve_65 : decode b_M_valve 65 = .ok (.getfield 68, 3) := by decide +kernel
theorem d_M_valve_68 : decode b_M_valve 68 = .ok (.iload_n 2, 1) := by decide +kernel
theorem d_M_valve_69 : decode b_M_valve 69 = .ok (.iastore, 1) := by decide +kernel
theorem d_M_valve_70 : decode b_M_valve 70 = .ok (.aload_n 0, 1) := by decide +kernel
theorem d_M_valve_71 : decode b_M_valve 71 = .ok (.getfield 23, 3) := by decide +kernel
theorem d_M_valve_74 : decode b_M_valve 74 = .ok (.aload_n 0, 1) := by decide +kernel
theorem d_M_valve_75 : decode b_M_valve 75 = .ok (.getfield 68, 3) := by decide +kernel
theorem d_M_valve_78 : decode b_M_valve 78 = .ok (.iload_n 3, 1) := by decide +kernel
theorem d_M_valve_79 : decode b_M_valve 79 = .ok (.iastore, 1) := by decide +kernel
theorem d_M_valve_80 : decode b_M_valve 80 = .ok (.aload_n 0, 1) := by decide +kernel
theorem d_M_valve_81 : decode b_M_valve 81 = .ok (.getfield 26, 3) := by decide +kernel
theorem d_M_valve_84 : decode b_M_valve 84 = .ok (.aload_n 0, 1) := by decide +kernel
theorem d_M_valve_85 : decode b_M_valve 85 = .ok (.getfield 68, 3) := by decide +kernel
theorem d_M_valve_88 : decode b_M_valve 88 = .ok (.iload 4, 2) := by decide +kernel
theorem d_M_valve_90 : decode b_M_valve 90 = .ok (.bastore, 1) := by decide +kernel
theorem d_M_valve_91 : decode b_M_valve 91 = .ok (.aload_n 0, 1) := by decide +kernel
theorem d_M_valve_92 : decode b_M_valve 92 = .ok (.getfield 30, 3) := by decide +kernel
theorem d_M_valve_95 : decode b_M_valve 95 = .ok (.aload_n 0, 1) := by decide +kernel
theorem d_M_valve_96 : decode b_M_valve 96 = .ok (.getfield 68, 3) := by decide +kernel
theorem d_M_valve_99 : decode b_M_valve 99 = .ok (.iconst 0, 1) := by decide +kernel
theorem d_M_valve_100 : decode b_M_valve 100 = .ok (.bastore, 1) := by decide +kernel
theorem d_M_valve_101 : decode b_M_valve 101 = .ok (.aload_n 0, 1) := by decide +kernel
theorem d_M_valve_102 : decode b_M_valve 102 = .ok (.dup, 1) := by decide +kernel
theorem d_M_valve_103 : decode b_M_valve 103 = .ok (.getfield 68, 3) := by decide +kernel
theorem d_M_valve_106 : decode b_M_valve 106 = .ok (.iconst 1, 1) := by decide +kernel
theorem d_M_valve_107 : decode b_M_valve 107 = .ok (.iadd, 1) := by decide +kernel
theorem d_M_valve_108 : decode b_M_valve 108 = .ok (.putfield 68, 3) := by decide +kernel
theorem d_M_valve_111 : decode b_M_valve 111 = .ok (.aload_n 0, 1) := by decide +kernel
theorem d_M_valve_112 : decode b_M_valve 112 = .ok (.iconst 0, 1) := by decide +kernel
theorem d_M_valve_113 : decode b_M_valve 113 = .ok (.putfield 61, 3) := by decide +kernel
theorem d_M_valve_116 : decode b_M_valve 116 = .ok (.aload_n 0, 1) := by decide +kernel
theorem d_M_valve_117 : decode b_M_valve 117 = .ok (.getfield 68, 3) := by decide +kernel
theorem d_M_valve_120 : decode b_M_valve 120 = .ok (.iconst 1, 1) := by decide +kernel
theorem d_M_valve_121 : decode b_M_valve 121 = .ok (.isub, 1) := by decide +kernel
theorem d_M_valve_122 : decode b_M_valve 122 = .ok (.ireturn, 1) := by decide +kernel
abbrev b_M_level : ByteArray := prog_6_method_6_code
def y_M_level : MethodName := ⟨"SeatProofsModel", "level", "(IJ)Z"⟩
abbrev w_M_level : List Cond := .code y_M_level b_M_level 4 (some .boolean) :: gT
theorem d_M_level_0 : decode b_M_level 0 = .ok (.aload_n 0, 1) := by decide +kernel
theorem d_M_level_1 : decode b_M_level 1 = .ok (.iconst 0, 1) := by decide +kernel
theorem d_M_level_2 : decode b_M_level 2 = .ok (.putfield 54, 3) := by decide +kernel
theorem d_M_level_5 : decode b_M_level 5 = .ok (.aload_n 0, 1) := by decide +kernel
theorem d_M_level_6 : decode b_M_level 6 = .ok (.iload_n 1, 1) := by decide +kernel
theorem d_M_level_7 : decode b_M_level 7 = .ok (.invokevirtual 64, 3) := by decide +kernel
theorem d_M_level_10 : decode b_M_level 10 = .ok (.ifCond .ne 5, 3) := by decide +kernel
theorem d_M_level_13 : decode b_M_level 13 = .ok (.iconst 0, 1) := by decide +kernel
theorem d_M_level_14 : decode b_M_level 14 = .ok (.ireturn, 1) := by decide +kernel
theorem d_M_level_15 : decode b_M_level 15 = .ok (.aload_n 0, 1) := by decide +kernel
theorem d_M_level_16 : decode b_M_level 16 = .ok (.getfield 13, 3) := by decide +kernel
theorem d_M_level_19 : decode b_M_level 19 = .ok (.iload_n 1, 1) := by decide +kernel
theorem d_M_level_20 : decode b_M_level 20 = .ok (.lload_n 2, 1) := by decide +kernel
theorem d_M_level_21 : decode b_M_level 21 = .ok (.lastore, 1) := by decide +kernel
theorem d_M_level_22 : decode b_M_level 22 = .ok (.aload_n 0, 1) := by decide +kernel
theorem d_M_level_23 : decode b_M_level 23 = .ok (.iconst 0, 1) := by decide +kernel
theorem d_M_level_24 : decode b_M_level 24 = .ok (.putfield 61, 3) := by decide +kernel
theorem d_M_level_27 : decode b_M_level 27 = .ok (.iconst 1, 1) := by decide +kernel
theorem d_M_level_28 : decode b_M_level 28 = .ok (.ireturn, 1) := by decide +kernel
abbrev b_M_may : ByteArray := prog_6_method_7_code
def y_M_may : MethodName := ⟨"SeatProofsModel", "may", "(II)Z"⟩
abbrev w_M_may : List Cond := .code y_M_may b_M_may 4 (some .boolean) :: gT
theorem d_M_may_0 : decode b_M_may 0 = .ok (.aload_n 0, 1) := by decide +kernel
theorem d_M_may_1 : decode b_M_may 1 = .ok (.iconst 0, 1) := by decide +kernel
theorem d_M_may_2 : decode b_M_may 2 = .ok (.putfield 54, 3) := by decide +kernel
theorem d_M_may_5 : decode b_M_may 5 = .ok (.iload_n 1, 1) := by decide +kernel
theorem d_M_may_6 : decode b_M_may 6 = .ok (.ifCond .le 28, 3) := by decide +kernel
theorem d_M_may_9 : decode b_M_may 9 = .ok (.iload_n 1, 1) := by decide +kernel
theorem d_M_may_10 : decode b_M_may 10 = .ok (.bipush 16, 2) := by decide +kernel
theorem d_M_may_12 : decode b_M_may 12 = .ok (.if_icmp .ge 22, 3) := by decide +kernel
theorem d_M_may_15 : decode b_M_may 15 = .ok (.iload_n 2, 1) := by decide +kernel
theorem d_M_may_16 : decode b_M_may 16 = .ok (.ifCond .le 18, 3) := by decide +kernel
theorem d_M_may_19 : decode b_M_may 19 = .ok (.iload_n 2, 1) := by decide +kernel
theorem d_M_may_20 : decode b_M_may 20 = .ok (.bipush 16, 2) := by decide +kernel
theorem d_M_may_22 : decode b_M_may 22 = .ok (.if_icmp .ge 12, 3) := by decide +kernel
theorem d_M_may_25 : decode b_M_may 25 = .ok (.iload_n 1, 1) := by decide +kernel
theorem d_M_may_26 : decode b_M_may 26 = .ok (.iload_n 2, 1) := by decide +kernel
theorem d_M_may_27 : decode b_M_may 27 = .ok (.if_icmp .eq 7, 3) := by decide +kernel
theorem d_M_may_30 : decode b_M_may 30 = .ok (.iconst 1, 1) := by decide +kernel
theorem d_M_may_31 : decode b_M_may 31 = .ok (.goto 4, 3) := by decide +kernel
theorem d_M_may_34 : decode b_M_may 34 = .ok (.iconst 0, 1) := by decide +kernel
theorem d_M_may_35 : decode b_M_may 35 = .ok (.istore_n 3, 1) := by decide +kernel
theorem d_M_may_36 : decode b_M_may 36 = .ok (.iload_n 3, 1) := by decide +kernel
theorem d_M_may_37 : decode b_M_may 37 = .ok (.ifCond .eq 17, 3) := by decide +kernel
theorem d_M_may_40 : decode b_M_may 40 = .ok (.aload_n 0, 1) := by decide +kernel
theorem d_M_may_41 : decode b_M_may 41 = .ok (.getfield 33, 3) := by decide +kernel
theorem d_M_may_44 : decode b_M_may 44 = .ok (.bipush 16, 2) := by decide +kernel
theorem d_M_may_46 : decode b_M_may 46 = .ok (.iload_n 1, 1) := by decide +kernel
theorem d_M_may_47 : decode b_M_may 47 = .ok (.imul, 1) := by decide +kernel
theorem d_M_may_48 : decode b_M_may 48 = .ok (.iload_n 2, 1) := by decide +kernel
theorem d_M_may_49 : decode b_M_may 49 = .ok (.iadd, 1) := by decide +kernel
theorem d_M_may_50 : decode b_M_may 50 = .ok (.baload, 1) := by decide +kernel
theorem d_M_may_51 : decode b_M_may 51 = .ok (.ifCond .eq 5, 3) := by decide +kernel
theorem d_M_may_54 : decode b_M_may 54 = .ok (.iconst 0, 1) := by decide +kernel
theorem d_M_may_55 : decode b_M_may 55 = .ok (.ireturn, 1) := by decide +kernel
theorem d_M_may_56 : decode b_M_may 56 = .ok (.aload_n 0, 1) := by decide +kernel
theorem d_M_may_57 : decode b_M_may 57 = .ok (.getfield 33, 3) := by decide +kernel
theorem d_M_may_60 : decode b_M_may 60 = .ok (.bipush 16, 2) := by decide +kernel
theorem d_M_may_62 : decode b_M_may 62 = .ok (.iload_n 1, 1) := by decide +kernel
theorem d_M_may_63 : decode b_M_may 63 = .ok (.imul, 1) := by decide +kernel
theorem d_M_may_64 : decode b_M_may 64 = .ok (.iload_n 2, 1) := by decide +kernel
theorem d_M_may_65 : decode b_M_may 65 = .ok (.iadd, 1) := by decide +kernel
theorem d_M_may_66 : decode b_M_may 66 = .ok (.iconst 1, 1) := by decide +kernel
theorem d_M_may_67 : decode b_M_may 67 = .ok (.bastore, 1) := by decide +kernel
theorem d_M_may_68 : decode b_M_may 68 = .ok (.aload_n 0, 1) := by decide +kernel
theorem d_M_may_69 : decode b_M_may 69 = .ok (.getfield 33, 3) := by decide +kernel
theorem d_M_may_72 : decode b_M_may 72 = .ok (.bipush 16, 2) := by decide +kernel
theorem d_M_may_74 : decode b_M_may 74 = .ok (.iload_n 2, 1) := by decide +kernel
theorem d_M_may_75 : decode b_M_may 75 = .ok (.imul, 1) := by decide +kernel
theorem d_M_may_76 : decode b_M_may 76 = .ok (.iload_n 1, 1) := by decide +kernel
theorem d_M_may_77 : decode b_M_may 77 = .ok (.iadd, 1) := by decide +kernel
theorem d_M_may_78 : decode b_M_may 78 = .ok (.iconst 1, 1) := by decide +kernel
theorem d_M_may_79 : decode b_M_may 79 = .ok (.bastore, 1) := by decide +kernel
theorem d_M_may_80 : decode b_M_may 80 = .ok (.aload_n 0, 1) := by decide +kernel
theorem d_M_may_81 : decode b_M_may 81 = .ok (.iconst 0, 1) := by decide +kernel
theorem d_M_may_82 : decode b_M_may 82 = .ok (.putfield 61, 3) := by decide +kernel
theorem d_M_may_85 : decode b_M_may 85 = .ok (.iconst 1, 1) := by decide +kernel
theorem d_M_may_86 : decode b_M_may 86 = .ok (.ireturn, 1) := by decide +kernel
abbrev b_M_lets : ByteArray := prog_6_method_8_code
def y_M_lets : MethodName := ⟨"SeatProofsModel", "lets", "(II)Z"⟩
abbrev w_M_lets : List Cond := .code y_M_lets b_M_lets 4 (some .boolean) :: gT
theorem d_M_lets_0 : decode b_M_lets 0 = .ok (.iload_n 2, 1) := by decide +kernel
theorem d_M_lets_1 : decode b_M_lets 1 = .ok (.iload_n 1, 1) := by decide +kernel
theorem d_M_lets_2 : decode b_M_lets 2 = .ok (.iconst 1, 1) := by decide +kernel
theorem d_M_lets_3 : decode b_M_lets 3 = .ok (.iadd, 1) := by decide +kernel
theorem d_M_lets_4 : decode b_M_lets 4 = .ok (.if_icmp .ne 7, 3) := by decide +kernel
theorem d_M_lets_7 : decode b_M_lets 7 = .ok (.iconst 1, 1) := by decide +kernel
theorem d_M_lets_8 : decode b_M_lets 8 = .ok (.goto 4, 3) := by decide +kernel
theorem d_M_lets_11 : decode b_M_lets 11 = .ok (.iconst 0, 1) := by decide +kernel
theorem d_M_lets_12 : decode b_M_lets 12 = .ok (.istore_n 3, 1) := by decide +kernel
theorem d_M_lets_13 : decode b_M_lets 13 = .ok (.aload_n 0, 1) := by decide +kernel
theorem d_M_lets_14 : decode b_M_lets 14 = .ok (.getfield 23, 3) := by decide +kernel
theorem d_M_lets_17 : decode b_M_lets 17 = .ok (.iload_n 1, 1) := by decide +kernel
theorem d_M_lets_18 : decode b_M_lets 18 = .ok (.iaload, 1) := by decide +kernel
theorem d_M_lets_19 : decode b_M_lets 19 = .ok (.iconst 2, 1) := by decide +kernel
theorem d_M_lets_20 : decode b_M_lets 20 = .ok (.if_icmp .ne 14, 3) := by decide +kernel
theorem d_M_lets_23 : decode b_M_lets 23 = .ok (.aload_n 0, 1) := by decide +kernel
theorem d_M_lets_24 : decode b_M_lets 24 = .ok (.getfield 26, 3) := by decide +kernel
theorem d_M_lets_27 : decode b_M_lets 27 = .ok (.iload_n 1, 1) := by decide +kernel
theorem d_M_lets_28 : decode b_M_lets 28 = .ok (.baload, 1) := by decide +kernel
theorem d_M_lets_29 : decode b_M_lets 29 = .ok (.ifCond .ne 5, 3) := by decide +kernel
theorem d_M_lets_32 : decode b_M_lets 32 = .ok (.iconst 0, 1) := by decide +kernel
theorem d_M_lets_33 : decode b_M_lets 33 = .ok (.ireturn, 1) := by decide +kernel
theorem d_M_lets_34 : decode b_M_lets 34 = .ok (.aload_n 0, 1) := by decide +kernel
theorem d_M_lets_35 : decode b_M_lets 35 = .ok (.getfield 30, 3) := by decide +kernel
theorem d_M_lets_38 : decode b_M_lets 38 = .ok (.iload_n 1, 1) := by decide +kernel
theorem d_M_lets_39 : decode b_M_lets 39 = .ok (.baload, 1) := by decide +kernel
theorem d_M_lets_40 : decode b_M_lets 40 = .ok (.ifCond .ne 13, 3) := by decide +kernel
theorem d_M_lets_43 : decode b_M_lets 43 = .ok (.aload_n 0, 1) := by decide +kernel
theorem d_M_lets_44 : decode b_M_lets 44 = .ok (.getfield 26, 3) := by decide +kernel
theorem d_M_lets_47 : decode b_M_lets 47 = .ok (.iload_n 1, 1) := by decide +kernel
theorem d_M_lets_48 : decode b_M_lets 48 = .ok (.baload, 1) := by decide +kernel
theorem d_M_lets_49 : decode b_M_lets 49 = .ok (.iload_n 3, 1) := by decide +kernel
theorem d_M_lets_50 : decode b_M_lets 50 = .ok (.if_icmp .eq 7, 3) := by decide +kernel
theorem d_M_lets_53 : decode b_M_lets 53 = .ok (.iconst 1, 1) := by decide +kernel
theorem d_M_lets_54 : decode b_M_lets 54 = .ok (.goto 4, 3) := by decide +kernel
theorem d_M_lets_57 : decode b_M_lets 57 = .ok (.iconst 0, 1) := by decide +kernel
theorem d_M_lets_58 : decode b_M_lets 58 = .ok (.ireturn, 1) := by decide +kernel
abbrev b_M_flood : ByteArray := prog_6_method_9_code
def y_M_flood : MethodName := ⟨"SeatProofsModel", "flood", "(II)J"⟩
abbrev w_M_flood : List Cond := .code y_M_flood b_M_flood 9 (some .long) :: gT
theorem d_M_flood_0 : decode b_M_flood 0 = .ok (.iconst 0, 1) := by decide +kernel
theorem d_M_flood_1 : decode b_M_flood 1 = .ok (.istore_n 3, 1) := by decide +kernel
theorem d_M_flood_2 : decode b_M_flood 2 = .ok (.iload_n 3, 1) := by decide +kernel
theorem d_M_flood_3 : decode b_M_flood 3 = .ok (.aload_n 0, 1) := by decide +kernel
theorem d_M_flood_4 : decode b_M_flood 4 = .ok (.getfield 58, 3) := by decide +kernel
theorem d_M_flood_7 : decode b_M_flood 7 = .ok (.if_icmp .ge 30, 3) := by decide +kernel
theorem d_M_flood_10 : decode b_M_flood 10 = .ok (.aload_n 0, 1) := by decide +kernel
theorem d_M_flood_11 : decode b_M_flood 11 = .ok (.getfield 51, 3) := by decide +kernel
theorem d_M_flood_14 : decode b_M_flood 14 = .ok (.iload_n 3, 1) := by decide +kernel
theorem d_M_flood_15 : decode b_M_flood 15 = .ok (.aload_n 0, 1) := by decide +kernel
theorem d_M_flood_16 : decode b_M_flood 16 = .ok (.getfield 9, 3) := by decide +kernel
theorem d_M_flood_19 : decode b_M_flood 19 = .ok (.iload_n 3, 1) := by decide +kernel
theorem d_M_flood_20 : decode b_M_flood 20 = .ok (.iaload, 1) := by decide +kernel
theorem d_M_flood_21 : decode b_M_flood 21 = .ok (.iload_n 1, 1) := by decide +kernel
theorem d_M_flood_22 : decode b_M_flood 22 = .ok (.if_icmp .ne 7, 3) := by decide +kernel
theorem d_M_flood_25 : decode b_M_flood 25 = .ok (.iconst 1, 1) := by decide +kernel
theorem d_M_flood_26 : decode b_M_flood 26 = .ok (.goto 4, 3) := by decide +kernel
theorem d_M_flood_29 : decode b_M_flood 29 = .ok (.iconst 0, 1) := by decide +kernel
theorem d_M_flood_30 : decode b_M_flood 30 = .ok (.bastore, 1) := by decide +kernel
theorem d_M_flood_31 : decode b_M_flood 31 = .ok (.iinc 3 1, 3) := by decide +kernel
theorem d_M_flood_34 : decode b_M_flood 34 = .ok (.goto (-32), 3) := by decide +kernel
theorem d_M_flood_37 : decode b_M_flood 37 = .ok (.iconst 1, 1) := by decide +kernel
theorem d_M_flood_38 : decode b_M_flood 38 = .ok (.istore_n 3, 1) := by decide +kernel
theorem d_M_flood_39 : decode b_M_flood 39 = .ok (.iload_n 3, 1) := by decide +kernel
theorem d_M_flood_40 : decode b_M_flood 40 = .ok (.ifCond .eq 137, 3) := by decide +kernel
theorem d_M_flood_43 : decode b_M_flood 43 = .ok (.iconst 0, 1) := by decide +kernel
theorem d_M_flood_44 : decode b_M_flood 44 = .ok (.istore_n 3, 1) := by decide +kernel
theorem d_M_flood_45 : decode b_M_flood 45 = .ok (.iconst 0, 1) := by decide +kernel
theorem d_M_flood_46 : decode b_M_flood 46 = .ok (.istore 4, 2) := by decide +kernel
theorem d_M_flood_48 : decode b_M_flood 48 = .ok (.iload 4, 2) := by decide +kernel
theorem d_M_flood_50 : decode b_M_flood 50 = .ok (.aload_n 0, 1) := by decide +kernel
theorem d_M_flood_51 : decode b_M_flood 51 = .ok (.getfield 68, 3) := by decide +kernel
theorem d_M_flood_54 : decode b_M_flood 54 = .ok (.if_icmp .ge 120, 3) := by decide +kernel
theorem d_M_flood_57 : decode b_M_flood 57 = .ok (.aload_n 0, 1) := by decide +kernel
theorem d_M_flood_58 : decode b_M_flood 58 = .ok (.getfield 17, 3) := by decide +kernel
theorem d_M_flood_61 : decode b_M_flood 61 = .ok (.iload 4, 2) := by decide +kernel
theorem d_M_flood_63 : decode b_M_flood 63 = .ok (.iaload, 1) := by decide +kernel
theorem d_M_flood_64 : decode b_M_flood 64 = .ok (.istore 5, 2) := by decide +kernel
theorem d_M_flood_66 : decode b_M_flood 66 = .ok (.aload_n 0, 1) := by decide +kernel
theorem d_M_flood_67 : decode b_M_flood 67 = .ok (.getfield 20, 3) := by decide +kernel
theorem d_M_flood_70 : decode b_M_flood 70 = .ok (.iload 4, 2) := by decide +kernel
theorem d_M_flood_72 : decode b_M_flood 72 = .ok (.iaload, 1) := by decide +kernel
theorem d_M_flood_73 : decode b_M_flood 73 = .ok (.istore 6, 2) := by decide +kernel
theorem d_M_flood_75 : decode b_M_flood 75 = .ok (.aload_n 0, 1) := by decide +kernel
theorem d_M_flood_76 : decode b_M_flood 76 = .ok (.iload 4, 2) := by decide +kernel
theorem d_M_flood_78 : decode b_M_flood 78 = .ok (.iload_n 2, 1) := by decide +kernel
theorem d_M_flood_79 : decode b_M_flood 79 = .ok (.invokevirtual 71, 3) := by decide +kernel
theorem d_M_flood_82 : decode b_M_flood 82 = .ok (.ifCond .eq 86, 3) := by decide +kernel
theorem d_M_flood_85 : decode b_M_flood 85 = .ok (.aload_n 0, 1) := by decide +kernel
theorem d_M_flood_86 : decode b_M_flood 86 = .ok (.getfield 51, 3) := by decide +kernel
theorem d_M_flood_89 : decode b_M_flood 89 = .ok (.iload 5, 2) := by decide +kernel
theorem d_M_flood_91 : decode b_M_flood 91 = .ok (.baload, 1) := by decide +kernel
theorem d_M_flood_92 : decode b_M_flood 92 = .ok (.aload_n 0, 1) := by decide +kernel
theorem d_M_flood_93 : decode b_M_flood 93 = .ok (.getfield 51, 3) := by decide +kernel
theorem d_M_flood_96 : decode b_M_flood 96 = .ok (.iload 6, 2) := by decide +kernel
theorem d_M_flood_98 : decode b_M_flood 98 = .ok (.baload, 1) := by decide +kernel
theorem d_M_flood_99 : decode b_M_flood 99 = .ok (.if_icmp .eq 69, 3) := by decide +kernel
theorem d_M_flood_102 : decode b_M_flood 102 = .ok (.aload_n 0, 1) := by decide +kernel
theorem d_M_flood_103 : decode b_M_flood 103 = .ok (.getfield 51, 3) := by decide +kernel
theorem d_M_flood_106 : decode b_M_flood 106 = .ok (.iload 5, 2) := by decide +kernel
theorem d_M_flood_108 : decode b_M_flood 108 = .ok (.baload, 1) := by decide +kernel
theorem d_M_flood_109 : decode b_M_flood 109 = .ok (.ifCond .eq 8, 3) := by decide +kernel
theorem d_M_flood_112 : decode b_M_flood 112 = .ok (.iload 5, 2) := by decide +kernel
theorem d_M_flood_114 : decode b_M_flood 114 = .ok (.goto 5, 3) := by decide +kernel
theorem d_M_flood_117 : decode b_M_flood 117 = .ok (.iload 6, 2) := by decide +kernel
theorem d_M_flood_119 : decode b_M_flood 119 = .ok (.istore 7, 2) := by decide +kernel
theorem d_M_flood_121 : decode b_M_flood 121 = .ok (.aload_n 0, 1) := by decide +kernel
theorem d_M_flood_122 : decode b_M_flood 122 = .ok (.getfield 51, 3) := by decide +kernel
theorem d_M_flood_125 : decode b_M_flood 125 = .ok (.iload 5, 2) := by decide +kernel
theorem d_M_flood_127 : decode b_M_flood 127 = .ok (.baload, 1) := by decide +kernel
theorem d_M_flood_128 : decode b_M_flood 128 = .ok (.ifCond .eq 8, 3) := by decide +kernel
theorem d_M_flood_131 : decode b_M_flood 131 = .ok (.iload 6, 2) := by decide +kernel
theorem d_M_flood_133 : decode b_M_flood 133 = .ok (.goto 5, 3) := by decide +kernel
theorem d_M_flood_136 : decode b_M_flood 136 = .ok (.iload 5, 2) := by decide +kernel
theorem d_M_flood_138 : decode b_M_flood 138 = .ok (.istore 8, 2) := by decide +kernel
theorem d_M_flood_140 : decode b_M_flood 140 = .ok (.aload_n 0, 1) := by decide +kernel
theorem d_M_flood_141 : decode b_M_flood 141 = .ok (.getfield 13, 3) := by decide +kernel
theorem d_M_flood_144 : decode b_M_flood 144 = .ok (.iload 8, 2) := by decide +kernel
theorem d_M_flood_146 : decode b_M_flood 146 = .ok (.laload, 1) := by decide +kernel
theorem d_M_flood_147 : decode b_M_flood 147 = .ok (.aload_n 0, 1) := by decide +kernel
theorem d_M_flood_148 : decode b_M_flood 148 = .ok (.getfield 13, 3) := by decide +kernel
theorem d_M_flood_151 : decode b_M_flood 151 = .ok (.iload 7, 2) := by decide +kernel
theorem d_M_flood_153 : decode b_M_flood 153 = .ok (.laload, 1) := by decide +kernel
theorem d_M_flood_154 : decode b_M_flood 154 = .ok (.lcmp, 1) := by decide +kernel
theorem d_M_flood_155 : decode b_M_flood 155 = .ok (.ifCond .gt 13, 3) := by decide +kernel
theorem d_M_flood_158 : decode b_M_flood 158 = .ok (.aload_n 0, 1) := by decide +kernel
theorem d_M_flood_159 : decode b_M_flood 159 = .ok (.getfield 51, 3) := by decide +kernel
theorem d_M_flood_162 : decode b_M_flood 162 = .ok (.iload 8, 2) := by decide +kernel
theorem d_M_flood_164 : decode b_M_flood 164 = .ok (.iconst 1, 1) := by decide +kernel
theorem d_M_flood_165 : decode b_M_flood 165 = .ok (.bastore, 1) := by decide +kernel
theorem d_M_flood_166 : decode b_M_flood 166 = .ok (.iconst 1, 1) := by decide +kernel
theorem d_M_flood_167 : decode b_M_flood 167 = .ok (.istore_n 3, 1) := by decide +kernel
theorem d_M_flood_168 : decode b_M_flood 168 = .ok (.iinc 4 1, 3) := by decide +kernel
theorem d_M_flood_171 : decode b_M_flood 171 = .ok (.goto (-123), 3) := by decide +kernel
theorem d_M_flood_174 : decode b_M_flood 174 = .ok (.goto (-135), 3) := by decide +kernel
theorem d_M_flood_177 : decode b_M_flood 177 = .ok (.lconst 0, 1) := by decide +kernel
theorem d_M_flood_178 : decode b_M_flood 178 = .ok (.lstore 4, 2) := by decide +kernel
theorem d_M_flood_180 : decode b_M_flood 180 = .ok (.iconst 0, 1) := by decide +kernel
theorem d_M_flood_181 : decode b_M_flood 181 = .ok (.istore 6, 2) := by decide +kernel
theorem d_M_flood_183 : decode b_M_flood 183 = .ok (.iload 6, 2) := by decide +kernel
theorem d_M_flood_185 : decode b_M_flood 185 = .ok (.aload_n 0, 1) := by decide +kernel
theorem d_M_flood_186 : decode b_M_flood 186 = .ok (.getfield 58, 3) := by decide +kernel
theorem d_M_flood_189 : decode b_M_flood 189 = .ok (.if_icmp .ge 33, 3) := by decide +kernel
theorem d_M_flood_192 : decode b_M_flood 192 = .ok (.aload_n 0, 1) := by decide +kernel
theorem d_M_flood_193 : decode b_M_flood 193 = .ok (.getfield 51, 3) := by decide +kernel
theorem d_M_flood_196 : decode b_M_flood 196 = .ok (.iload 6, 2) := by decide +kernel
theorem d_M_flood_198 : decode b_M_flood 198 = .ok (.baload, 1) := by decide +kernel
theorem d_M_flood_199 : decode b_M_flood 199 = .ok (.ifCond .eq 13, 3) := by decide +kernel
theorem d_M_flood_202 : decode b_M_flood 202 = .ok (.lload 4, 2) := by decide +kernel
theorem d_M_flood_204 : decode b_M_flood 204 = .ok (.lconst 1, 1) := by decide +kernel
theorem d_M_flood_205 : decode b_M_flood 205 = .ok (.iload 6, 2) := by decide +kernel
theorem d_M_flood_207 : decode b_M_flood 207 = .ok (.lshl, 1) := by decide +kernel
theorem d_M_flood_208 : decode b_M_flood 208 = .ok (.lor, 1) := by decide +kernel
theorem d_M_flood_209 : decode b_M_flood 209 = .ok (.goto 5, 3) := by decide +kernel
theorem d_M_flood_212 : decode b_M_flood 212 = .ok (.lload 4, 2) := by decide +kernel
theorem d_M_flood_214 : decode b_M_flood 214 = .ok (.lstore 4, 2) := by decide +kernel
theorem d_M_flood_216 : decode b_M_flood 216 = .ok (.iinc 6 1, 3) := by decide +kernel
theorem d_M_flood_219 : decode b_M_flood 219 = .ok (.goto (-36), 3) := by decide +kernel
theorem d_M_flood_222 : decode b_M_flood 222 = .ok (.lload 4, 2) := by decide +kernel
theorem d_M_flood_224 : decode b_M_flood 224 = .ok (.lreturn, 1) := by decide +kernel
abbrev b_M_has : ByteArray := prog_6_method_10_code
def y_M_has : MethodName := ⟨"SeatProofsModel", "has", "(JI)Z"⟩
abbrev w_M_has : List Cond := .code y_M_has b_M_has 3 (some .boolean) :: gT
theorem d_M_has_0 : decode b_M_has 0 = .ok (.lload_n 0, 1) := by decide +kernel
theorem d_M_has_1 : decode b_M_has 1 = .ok (.iload_n 2, 1) := by decide +kernel
theorem d_M_has_2 : decode b_M_has 2 = .ok (.lushr, 1) := by decide +kernel
theorem d_M_has_3 : decode b_M_has 3 = .ok (.lconst 1, 1) := by decide +kernel
theorem d_M_has_4 : decode b_M_has 4 = .ok (.land, 1) := by decide +kernel
theorem d_M_has_5 : decode b_M_has 5 = .ok (.lconst 1, 1) := by decide +kernel
theorem d_M_has_6 : decode b_M_has 6 = .ok (.lcmp, 1) := by decide +kernel
theorem d_M_has_7 : decode b_M_has 7 = .ok (.ifCond .ne 7, 3) := by decide +kernel
theorem d_M_has_10 : decode b_M_has 10 = .ok (.iconst 1, 1) := by decide +kernel
theorem d_M_has_11 : decode b_M_has 11 = .ok (.goto 4, 3) := by decide +kernel
theorem d_M_has_14 : decode b_M_has 14 = .ok (.iconst 0, 1) := by decide +kernel
theorem d_M_has_15 : decode b_M_has 15 = .ok (.ireturn, 1) := by decide +kernel
abbrev b_M_cut : ByteArray := prog_6_method_11_code
def y_M_cut : MethodName := ⟨"SeatProofsModel", "cut", "(JI)J"⟩
abbrev w_M_cut : List Cond := .code y_M_cut b_M_cut 11 (some .long) :: gT
theorem d_M_cut_0 : decode b_M_cut 0 = .ok (.lconst 0, 1) := by decide +kernel
theorem d_M_cut_1 : decode b_M_cut 1 = .ok (.lstore 4, 2) := by decide +kernel
theorem d_M_cut_3 : decode b_M_cut 3 = .ok (.iconst 0, 1) := by decide +kernel
theorem d_M_cut_4 : decode b_M_cut 4 = .ok (.istore 6, 2) := by decide +kernel
theorem d_M_cut_6 : decode b_M_cut 6 = .ok (.iload 6, 2) := by decide +kernel
theorem d_M_cut_8 : decode b_M_cut 8 = .ok (.aload_n 0, 1) := by decide +kernel
theorem d_M_cut_9 : decode b_M_cut 9 = .ok (.getfield 68, 3) := by decide +kernel
theorem d_M_cut_12 : decode b_M_cut 12 = .ok (.if_icmp .ge 127, 3) := by decide +kernel
theorem d_M_cut_15 : decode b_M_cut 15 = .ok (.lload_n 1, 1) := by decide +kernel
theorem d_M_cut_16 : decode b_M_cut 16 = .ok (.aload_n 0, 1) := by decide +kernel
theorem d_M_cut_17 : decode b_M_cut 17 = .ok (.getfield 17, 3) := by decide +kernel
theorem d_M_cut_20 : decode b_M_cut 20 = .ok (.iload 6, 2) := by decide +kernel
theorem d_M_cut_22 : decode b_M_cut 22 = .ok (.iaload, 1) := by decide +kernel
theorem d_M_cut_23 : decode b_M_cut 23 = .ok (.invokestatic 75, 3) := by decide +kernel
theorem d_M_cut_26 : decode b_M_cut 26 = .ok (.istore 7, 2) := by decide +kernel
theorem d_M_cut_28 : decode b_M_cut 28 = .ok (.lload_n 1, 1) := by decide +kernel
theorem d_M_cut_29 : decode b_M_cut 29 = .ok (.aload_n 0, 1) := by decide +kernel
theorem d_M_cut_30 : decode b_M_cut 30 = .ok (.getfield 20, 3) := by decide +kernel
theorem d_M_cut_33 : decode b_M_cut 33 = .ok (.iload 6, 2) := by decide +kernel
theorem d_M_cut_35 : decode b_M_cut 35 = .ok (.iaload, 1) := by decide +kernel
theorem d_M_cut_36 : decode b_M_cut 36 = .ok (.invokestatic 75, 3) := by decide +kernel
theorem d_M_cut_39 : decode b_M_cut 39 = .ok (.istore 8, 2) := by decide +kernel
theorem d_M_cut_41 : decode b_M_cut 41 = .ok (.iload 7, 2) := by decide +kernel
theorem d_M_cut_43 : decode b_M_cut 43 = .ok (.ifCond .eq 13, 3) := by decide +kernel
theorem d_M_cut_46 : decode b_M_cut 46 = .ok (.aload_n 0, 1) := by decide +kernel
theorem d_M_cut_47 : decode b_M_cut 47 = .ok (.getfield 17, 3) := by decide +kernel
theorem d_M_cut_50 : decode b_M_cut 50 = .ok (.iload 6, 2) := by decide +kernel
theorem d_M_cut_52 : decode b_M_cut 52 = .ok (.iaload, 1) := by decide +kernel
theorem d_M_cut_53 : decode b_M_cut 53 = .ok (.goto 10, 3) := by decide +kernel
theorem d_M_cut_56 : decode b_M_cut 56 = .ok (.aload_n 0, 1) := by decide +kernel
theorem d_M_cut_57 : decode b_M_cut 57 = .ok (.getfield 20, 3) := by decide +kernel
theorem d_M_cut_60 : decode b_M_cut 60 = .ok (.iload 6, 2) := by decide +kernel
theorem d_M_cut_62 : decode b_M_cut 62 = .ok (.iaload, 1) := by decide +kernel
theorem d_M_cut_63 : decode b_M_cut 63 = .ok (.istore 9, 2) := by decide +kernel
theorem d_M_cut_65 : decode b_M_cut 65 = .ok (.iload 7, 2) := by decide +kernel
theorem d_M_cut_67 : decode b_M_cut 67 = .ok (.ifCond .eq 13, 3) := by decide +kernel
theorem d_M_cut_70 : decode b_M_cut 70 = .ok (.aload_n 0, 1) := by decide +kernel
theorem d_M_cut_71 : decode b_M_cut 71 = .ok (.getfield 20, 3) := by decide +kernel
theorem d_M_cut_74 : decode b_M_cut 74 = .ok (.iload 6, 2) := by decide +kernel
theorem d_M_cut_76 : decode b_M_cut 76 = .ok (.iaload, 1) := by decide +kernel
theorem d_M_cut_77 : decode b_M_cut 77 = .ok (.goto 10, 3) := by decide +kernel
theorem d_M_cut_80 : decode b_M_cut 80 = .ok (.aload_n 0, 1) := by decide +kernel
theorem d_M_cut_81 : decode b_M_cut 81 = .ok (.getfield 17, 3) := by decide +kernel
theorem d_M_cut_84 : decode b_M_cut 84 = .ok (.iload 6, 2) := by decide +kernel
theorem d_M_cut_86 : decode b_M_cut 86 = .ok (.iaload, 1) := by decide +kernel
theorem d_M_cut_87 : decode b_M_cut 87 = .ok (.istore 10, 2) := by decide +kernel
theorem d_M_cut_89 : decode b_M_cut 89 = .ok (.iload 7, 2) := by decide +kernel
theorem d_M_cut_91 : decode b_M_cut 91 = .ok (.iload 8, 2) := by decide +kernel
theorem d_M_cut_93 : decode b_M_cut 93 = .ok (.if_icmp .eq 40, 3) := by decide +kernel
theorem d_M_cut_96 : decode b_M_cut 96 = .ok (.aload_n 0, 1) := by decide +kernel
theorem d_M_cut_97 : decode b_M_cut 97 = .ok (.iload 6, 2) := by decide +kernel
theorem d_M_cut_99 : decode b_M_cut 99 = .ok (.iload_n 3, 1) := by decide +kernel
theorem d_M_cut_100 : decode b_M_cut 100 = .ok (.invokevirtual 71, 3) := by decide +kernel
theorem d_M_cut_103 : decode b_M_cut 103 = .ok (.ifCond .ne 30, 3) := by decide +kernel
theorem d_M_cut_106 : decode b_M_cut 106 = .ok (.aload_n 0, 1) := by decide +kernel
theorem d_M_cut_107 : decode b_M_cut 107 = .ok (.getfield 13, 3) := by decide +kernel
theorem d_M_cut_110 : decode b_M_cut 110 = .ok (.iload 10, 2) := by decide +kernel
theorem d_M_cut_112 : decode b_M_cut 112 = .ok (.laload, 1) := by decide +kernel
theorem d_M_cut_113 : decode b_M_cut 113 = .ok (.aload_n 0, 1) := by decide +kernel
theorem d_M_cut_114 : decode b_M_cut 114 = .ok (.getfield 13, 3) := by decide +kernel
theorem d_M_cut_117 : decode b_M_cut 117 = .ok (.iload 9, 2) := by decide +kernel
theorem d_M_cut_119 : decode b_M_cut 119 = .ok (.laload, 1) := by decide +kernel
theorem d_M_cut_120 : decode b_M_cut 120 = .ok (.lcmp, 1) := by decide +kernel
theorem d_M_cut_121 : decode b_M_cut 121 = .ok (.ifCond .gt 12, 3) := by decide +kernel
theorem d_M_cut_124 : decode b_M_cut 124 = .ok (.lload 4, 2) := by decide +kernel
theorem d_M_cut_126 : decode b_M_cut 126 = .ok (.lconst 1, 1) := by decide +kernel
theorem d_M_cut_127 : decode b_M_cut 127 = .ok (.iload 6, 2) := by decide +kernel
theorem d_M_cut_129 : decode b_M_cut 129 = .ok (.lshl, 1) := by decide +kernel
theorem d_M_cut_130 : decode b_M_cut 130 = .ok (.lor, 1) := by decide +kernel
theorem d_M_cut_131 : decode b_M_cut 131 = .ok (.lstore 4, 2) := by decide +kernel
theorem d_M_cut_133 : decode b_M_cut 133 = .ok (.iinc 6 1, 3) := by decide +kernel
theorem d_M_cut_136 : decode b_M_cut 136 = .ok (.goto (-130), 3) := by decide +kernel
theorem d_M_cut_139 : decode b_M_cut 139 = .ok (.lload 4, 2) := by decide +kernel
theorem d_M_cut_141 : decode b_M_cut 141 = .ok (.lreturn, 1) := by decide +kernel
abbrev b_M_isThere : ByteArray := prog_6_method_12_code
def y_M_isThere : MethodName := ⟨"SeatProofsModel", "isThere", "(I)Z"⟩
abbrev w_M_isThere : List Cond := .code y_M_isThere b_M_isThere 4 (some .boolean) :: gT
theorem d_M_isThere_0 : decode b_M_isThere 0 = .ok (.iconst 0, 1) := by decide +kernel
theorem d_M_isThere_1 : decode b_M_isThere 1 = .ok (.istore_n 2, 1) := by decide +kernel
theorem d_M_isThere_2 : decode b_M_isThere 2 = .ok (.iconst 0, 1) := by decide +kernel
theorem d_M_isThere_3 : decode b_M_isThere 3 = .ok (.istore_n 3, 1) := by decide +kernel
theorem d_M_isThere_4 : decode b_M_isThere 4 = .ok (.iload_n 3, 1) := by decide +kernel
theorem d_M_isThere_5 : decode b_M_isThere 5 = .ok (.aload_n 0, 1) := by decide +kernel
theorem d_M_isThere_6 : decode b_M_isThere 6 = .ok (.getfield 58, 3) := by decide +kernel
theorem d_M_isThere_9 : decode b_M_isThere 9 = .ok (.if_icmp .ge 29, 3) := by decide +kernel
theorem d_M_isThere_12 : decode b_M_isThere 12 = .ok (.iload_n 2, 1) := by decide +kernel
theorem d_M_isThere_13 : decode b_M_isThere 13 = .ok (.ifCond .ne 13, 3) := by decide +kernel
theorem d_M_isThere_16 : decode b_M_isThere 16 = .ok (.aload_n 0, 1) := by decide +kernel
theorem d_M_isThere_17 : decode b_M_isThere 17 = .ok (.getfield 9, 3) := by decide +kernel
theorem d_M_isThere_20 : decode b_M_isThere 20 = .ok (.iload_n 3, 1) := by decide +kernel
theorem d_M_isThere_21 : decode b_M_isThere 21 = .ok (.iaload, 1) := by decide +kernel
theorem d_M_isThere_22 : decode b_M_isThere 22 = .ok (.iload_n 1, 1) := by decide +kernel
theorem d_M_isThere_23 : decode b_M_isThere 23 = .ok (.if_icmp .ne 7, 3) := by decide +kernel
theorem d_M_isThere_26 : decode b_M_isThere 26 = .ok (.iconst 1, 1) := by decide +kernel
theorem d_M_isThere_27 : decode b_M_isThere 27 = .ok (.goto 4, 3) := by decide +kernel
theorem d_M_isThere_30 : decode b_M_isThere 30 = .ok (.iconst 0, 1) := by decide +kernel
theorem d_M_isThere_31 : decode b_M_isThere 31 = .ok (.istore_n 2, 1) := by decide +kernel
theorem d_M_isThere_32 : decode b_M_isThere 32 = .ok (.iinc 3 1, 3) := by decide +kernel
theorem d_M_isThere_35 : decode b_M_isThere 35 = .ok (.goto (-31), 3) := by decide +kernel
theorem d_M_isThere_38 : decode b_M_isThere 38 = .ok (.iload_n 2, 1) := by decide +kernel
theorem d_M_isThere_39 : decode b_M_isThere 39 = .ok (.ifCond .eq 11, 3) := by decide +kernel
theorem d_M_isThere_42 : decode b_M_isThere 42 = .ok (.iload_n 1, 1) := by decide +kernel
theorem d_M_isThere_43 : decode b_M_isThere 43 = .ok (.ifCond .le 7, 3) := by decide +kernel
theorem d_M_isThere_46 : decode b_M_isThere 46 = .ok (.iconst 1, 1) := by decide +kernel
theorem d_M_isThere_47 : decode b_M_isThere 47 = .ok (.goto 4, 3) := by decide +kernel
theorem d_M_isThere_50 : decode b_M_isThere 50 = .ok (.iconst 0, 1) := by decide +kernel
theorem d_M_isThere_51 : decode b_M_isThere 51 = .ok (.ireturn, 1) := by decide +kernel
abbrev b_M_meet : ByteArray := prog_6_method_13_code
def y_M_meet : MethodName := ⟨"SeatProofsModel", "meet", "(II)Z"⟩
abbrev w_M_meet : List Cond := .code y_M_meet b_M_meet 6 (some .boolean) :: gT
theorem d_M_meet_0 : decode b_M_meet 0 = .ok (.iconst 0, 1) := by decide +kernel
theorem d_M_meet_1 : decode b_M_meet 1 = .ok (.istore_n 3, 1) := by decide +kernel
theorem d_M_meet_2 : decode b_M_meet 2 = .ok (.iload_n 3, 1) := by decide +kernel
theorem d_M_meet_3 : decode b_M_meet 3 = .ok (.aload_n 0, 1) := by decide +kernel
theorem d_M_meet_4 : decode b_M_meet 4 = .ok (.getfield 58, 3) := by decide +kernel
theorem d_M_meet_7 : decode b_M_meet 7 = .ok (.if_icmp .ge 144, 3) := by decide +kernel
theorem d_M_meet_10 : decode b_M_meet 10 = .ok (.iload_n 1, 1) := by decide +kernel
theorem d_M_meet_11 : decode b_M_meet 11 = .ok (.istore 4, 2) := by decide +kernel
theorem d_M_meet_13 : decode b_M_meet 13 = .ok (.iload 4, 2) := by decide +kernel
theorem d_M_meet_15 : decode b_M_meet 15 = .ok (.aload_n 0, 1) := by decide +kernel
theorem d_M_meet_16 : decode b_M_meet 16 = .ok (.getfield 61, 3) := by decide +kernel
theorem d_M_meet_19 : decode b_M_meet 19 = .ok (.if_icmp .ge 126, 3) := by decide +kernel
theorem d_M_meet_22 : decode b_M_meet 22 = .ok (.iload 4, 2) := by decide +kernel
theorem d_M_meet_24 : decode b_M_meet 24 = .ok (.iconst 1, 1) := by decide +kernel
theorem d_M_meet_25 : decode b_M_meet 25 = .ok (.iadd, 1) := by decide +kernel
theorem d_M_meet_26 : decode b_M_meet 26 = .ok (.istore 5, 2) := by decide +kernel
theorem d_M_meet_28 : decode b_M_meet 28 = .ok (.iload 5, 2) := by decide +kernel
theorem d_M_meet_30 : decode b_M_meet 30 = .ok (.aload_n 0, 1) := by decide +kernel
theorem d_M_meet_31 : decode b_M_meet 31 = .ok (.getfield 61, 3) := by decide +kernel
theorem d_M_meet_34 : decode b_M_meet 34 = .ok (.if_icmp .ge 105, 3) := by decide +kernel
theorem d_M_meet_37 : decode b_M_meet 37 = .ok (.aload_n 0, 1) := by decide +kernel
theorem d_M_meet_38 : decode b_M_meet 38 = .ok (.getfield 42, 3) := by decide +kernel
theorem d_M_meet_41 : decode b_M_meet 41 = .ok (.iload 4, 2) := by decide +kernel
theorem d_M_meet_43 : decode b_M_meet 43 = .ok (.laload, 1) := by decide +kernel
theorem d_M_meet_44 : decode b_M_meet 44 = .ok (.iload_n 3, 1) := by decide +kernel
theorem d_M_meet_45 : decode b_M_meet 45 = .ok (.invokestatic 75, 3) := by decide +kernel
theorem d_M_meet_48 : decode b_M_meet 48 = .ok (.ifCond .eq 85, 3) := by decide +kernel
theorem d_M_meet_51 : decode b_M_meet 51 = .ok (.aload_n 0, 1) := by decide +kernel
theorem d_M_meet_52 : decode b_M_meet 52 = .ok (.getfield 42, 3) := by decide +kernel
theorem d_M_meet_55 : decode b_M_meet 55 = .ok (.iload 5, 2) := by decide +kernel
theorem d_M_meet_57 : decode b_M_meet 57 = .ok (.laload, 1) := by decide +kernel
theorem d_M_meet_58 : decode b_M_meet 58 = .ok (.iload_n 3, 1) := by decide +kernel
theorem d_M_meet_59 : decode b_M_meet 59 = .ok (.invokestatic 75, 3) := by decide +kernel
theorem d_M_meet_62 : decode b_M_meet 62 = .ok (.ifCond .eq 71, 3) := by decide +kernel
theorem d_M_meet_65 : decode b_M_meet 65 = .ok (.aload_n 0, 1) := by decide +kernel
theorem d_M_meet_66 : decode b_M_meet 66 = .ok (.getfield 33, 3) := by decide +kernel
theorem d_M_meet_69 : decode b_M_meet 69 = .ok (.bipush 16, 2) := by decide +kernel
theorem d_M_meet_71 : decode b_M_meet 71 = .ok (.aload_n 0, 1) := by decide +kernel
theorem d_M_meet_72 : decode b_M_meet 72 = .ok (.getfield 39, 3) := by decide +kernel
theorem d_M_meet_75 : decode b_M_meet 75 = .ok (.iload 4, 2) := by decide +kernel
theorem d_M_meet_77 : decode b_M_meet 77 = .ok (.iaload, 1) := by decide +kernel
theorem d_M_meet_78 : decode b_M_meet 78 = .ok (.imul, 1) := by decide +kernel
theorem d_M_meet_79 : decode b_M_meet 79 = .ok (.aload_n 0, 1) := by decide +kernel
theorem d_M_meet_80 : decode b_M_meet 80 = .ok (.getfield 39, 3) := by decide +kernel
theorem d_M_meet_83 : decode b_M_meet 83 = .ok (.iload 5, 2) := by decide +kernel
theorem d_M_meet_85 : decode b_M_meet 85 = .ok (.iaload, 1) := by decide +kernel
theorem d_M_meet_86 : decode b_M_meet 86 = .ok (.iadd, 1) := by decide +kernel
theorem d_M_meet_87 : decode b_M_meet 87 = .ok (.baload, 1) := by decide +kernel
theorem d_M_meet_88 : decode b_M_meet 88 = .ok (.ifCond .ne 45, 3) := by decide +kernel
theorem d_M_meet_91 : decode b_M_meet 91 = .ok (.aload_n 0, 1) := by decide +kernel
theorem d_M_meet_92 : decode b_M_meet 92 = .ok (.getfield 48, 3) := by decide +kernel
theorem d_M_meet_95 : decode b_M_meet 95 = .ok (.iconst 0, 1) := by decide +kernel
theorem d_M_meet_96 : decode b_M_meet 96 = .ok (.iload_n 2, 1) := by decide +kernel
theorem d_M_meet_97 : decode b_M_meet 97 = .ok (.iastore, 1) := by decide +kernel
theorem d_M_meet_98 : decode b_M_meet 98 = .ok (.aload_n 0, 1) := by decide +kernel
theorem d_M_meet_99 : decode b_M_meet 99 = .ok (.getfield 48, 3) := by decide +kernel
theorem d_M_meet_102 : decode b_M_meet 102 = .ok (.iconst 1, 1) := by decide +kernel
theorem d_M_meet_103 : decode b_M_meet 103 = .ok (.iload_n 3, 1) := by decide +kernel
theorem d_M_meet_104 : decode b_M_meet 104 = .ok (.iastore, 1) := by decide +kernel
theorem d_M_meet_105 : decode b_M_meet 105 = .ok (.aload_n 0, 1) := by decide +kernel
theorem d_M_meet_106 : decode b_M_meet 106 = .ok (.getfield 48, 3) := by decide +kernel
theorem d_M_meet_109 : decode b_M_meet 109 = .ok (.iconst 2, 1) := by decide +kernel
theorem d_M_meet_110 : decode b_M_meet 110 = .ok (.aload_n 0, 1) := by decide +kernel
theorem d_M_meet_111 : decode b_M_meet 111 = .ok (.getfield 39, 3) := by decide +kernel
theorem d_M_meet_114 : decode b_M_meet 114 = .ok (.iload 4, 2) := by decide +kernel
theorem d_M_meet_116 : decode b_M_meet 116 = .ok (.iaload, 1) := by decide +kernel
theorem d_M_meet_117 : decode b_M_meet 117 = .ok (.iastore, 1) := by decide +kernel
theorem d_M_meet_118 : decode b_M_meet 118 = .ok (.aload_n 0, 1) := by decide +kernel
theorem d_M_meet_119 : decode b_M_meet 119 = .ok (.getfield 48, 3) := by decide +kernel
theorem d_M_meet_122 : decode b_M_meet 122 = .ok (.iconst 3, 1) := by decide +kernel
theorem d_M_meet_123 : decode b_M_meet 123 = .ok (.aload_n 0, 1) := by decide +kernel
theorem d_M_meet_124 : decode b_M_meet 124 = .ok (.getfield 39, 3) := by decide +kernel
theorem d_M_meet_127 : decode b_M_meet 127 = .ok (.iload 5, 2) := by decide +kernel
theorem d_M_meet_129 : decode b_M_meet 129 = .ok (.iaload, 1) := by decide +kernel
theorem d_M_meet_130 : decode b_M_meet 130 = .ok (.iastore, 1) := by decide +kernel
theorem d_M_meet_131 : decode b_M_meet 131 = .ok (.iconst 1, 1) := by decide +kernel
theorem d_M_meet_132 : decode b_M_meet 132 = .ok (.ireturn, 1) := by decide +kernel
theorem d_M_meet_133 : decode b_M_meet 133 = .ok (.iinc 5 1, 3) := by decide +kernel
theorem d_M_meet_136 : decode b_M_meet 136 = .ok (.goto (-108), 3) := by decide +kernel
theorem d_M_meet_139 : decode b_M_meet 139 = .ok (.iinc 4 1, 3) := by decide +kernel
theorem d_M_meet_142 : decode b_M_meet 142 = .ok (.goto (-129), 3) := by decide +kernel
theorem d_M_meet_145 : decode b_M_meet 145 = .ok (.iinc 3 1, 3) := by decide +kernel
theorem d_M_meet_148 : decode b_M_meet 148 = .ok (.goto (-146), 3) := by decide +kernel
theorem d_M_meet_151 : decode b_M_meet 151 = .ok (.iconst 0, 1) := by decide +kernel
theorem d_M_meet_152 : decode b_M_meet 152 = .ok (.ireturn, 1) := by decide +kernel
abbrev b_M_safe : ByteArray := prog_6_method_14_code
def y_M_safe : MethodName := ⟨"SeatProofsModel", "safe", "()I"⟩
abbrev w_M_safe : List Cond := .code y_M_safe b_M_safe 4 (some .int) :: gT
theorem d_M_safe_0 : decode b_M_safe 0 = .ok (.aload_n 0, 1) := by decide +kernel
theorem d_M_safe_1 : decode b_M_safe 1 = .ok (.iconst 0, 1) := by decide +kernel
theorem d_M_safe_2 : decode b_M_safe 2 = .ok (.putfield 54, 3) := by decide +kernel
theorem d_M_safe_5 : decode b_M_safe 5 = .ok (.aload_n 0, 1) := by decide +kernel
theorem d_M_safe_6 : decode b_M_safe 6 = .ok (.iconst 0, 1) := by decide +kernel
theorem d_M_safe_7 : decode b_M_safe 7 = .ok (.putfield 61, 3) := by decide +kernel
theorem d_M_safe_10 : decode b_M_safe 10 = .ok (.aload_n 0, 1) := by decide +kernel
theorem d_M_safe_11 : decode b_M_safe 11 = .ok (.iconst 0, 1) := by decide +kernel
theorem d_M_safe_12 : decode b_M_safe 12 = .ok (.putfield 79, 3) := by decide +kernel
theorem d_M_safe_15 : decode b_M_safe 15 = .ok (.iconst 0, 1) := by decide +kernel
theorem d_M_safe_16 : decode b_M_safe 16 = .ok (.istore_n 1, 1) := by decide +kernel
theorem d_M_safe_17 : decode b_M_safe 17 = .ok (.iload_n 1, 1) := by decide +kernel
theorem d_M_safe_18 : decode b_M_safe 18 = .ok (.aload_n 0, 1) := by decide +kernel
theorem d_M_safe_19 : decode b_M_safe 19 = .ok (.getfield 68, 3) := by decide +kernel
theorem d_M_safe_22 : decode b_M_safe 22 = .ok (.if_icmp .gt 121, 3) := by decide +kernel
theorem d_M_safe_25 : decode b_M_safe 25 = .ok (.aload_n 0, 1) := by decide +kernel
theorem d_M_safe_26 : decode b_M_safe 26 = .ok (.getfield 79, 3) := by decide +kernel
theorem d_M_safe_29 : decode b_M_safe 29 = .ok (.ifCond .ne 114, 3) := by decide +kernel
theorem d_M_safe_32 : decode b_M_safe 32 = .ok (.aload_n 0, 1) := by decide +kernel
theorem d_M_safe_33 : decode b_M_safe 33 = .ok (.getfield 61, 3) := by decide +kernel
theorem d_M_safe_36 : decode b_M_safe 36 = .ok (.istore_n 2, 1) := by decide +kernel
theorem d_M_safe_37 : decode b_M_safe 37 = .ok (.iconst 1, 1) := by decide +kernel
theorem d_M_safe_38 : decode b_M_safe 38 = .ok (.istore_n 3, 1) := by decide +kernel
theorem d_M_safe_39 : decode b_M_safe 39 = .ok (.iload_n 3, 1) := by decide +kernel
theorem d_M_safe_40 : decode b_M_safe 40 = .ok (.bipush 16, 2) := by decide +kernel
theorem d_M_safe_42 : decode b_M_safe 42 = .ok (.if_icmp .ge 85, 3) := by decide +kernel
theorem d_M_safe_45 : decode b_M_safe 45 = .ok (.aload_n 0, 1) := by decide +kernel
theorem d_M_safe_46 : decode b_M_safe 46 = .ok (.iload_n 3, 1) := by decide +kernel
theorem d_M_safe_47 : decode b_M_safe 47 = .ok (.invokevirtual 83, 3) := by decide +kernel
theorem d_M_safe_50 : decode b_M_safe 50 = .ok (.ifCond .eq 71, 3) := by decide +kernel
theorem d_M_safe_53 : decode b_M_safe 53 = .ok (.aload_n 0, 1) := by decide +kernel
theorem d_M_safe_54 : decode b_M_safe 54 = .ok (.getfield 36, 3) := by decide +kernel
theorem d_M_safe_57 : decode b_M_safe 57 = .ok (.aload_n 0, 1) := by decide +kernel
theorem d_M_safe_58 : decode b_M_safe 58 = .ok (.getfield 61, 3) := by decide +kernel
theorem d_M_safe_61 : decode b_M_safe 61 = .ok (.iload_n 1, 1) := by decide +kernel
theorem d_M_safe_62 : decode b_M_safe 62 = .ok (.iastore, 1) := by decide +kernel
theorem d_M_safe_63 : decode b_M_safe 63 = .ok (.aload_n 0, 1) := by decide +kernel
theorem d_M_safe_64 : decode b_M_safe 64 = .ok (.getfield 39, 3) := by decide +kernel
theorem d_M_safe_67 : decode b_M_safe 67 = .ok (.aload_n 0, 1) := by decide +kernel
theorem d_M_safe_68 : decode b_M_safe 68 = .ok (.getfield 61, 3) := by decide +kernel
theorem d_M_safe_71 : decode b_M_safe 71 = .ok (.iload_n 3, 1) := by decide +kernel
theorem d_M_safe_72 : decode b_M_safe 72 = .ok (.iastore, 1) := by decide +kernel
theorem d_M_safe_73 : decode b_M_safe 73 = .ok (.aload_n 0, 1) := by decide +kernel
theorem d_M_safe_74 : decode b_M_safe 74 = .ok (.getfield 42, 3) := by decide +kernel
theorem d_M_safe_77 : decode b_M_safe 77 = .ok (.aload_n 0, 1) := by decide +kernel
theorem d_M_safe_78 : decode b_M_safe 78 = .ok (.getfield 61, 3) := by decide +kernel
theorem d_M_safe_81 : decode b_M_safe 81 = .ok (.aload_n 0, 1) := by decide +kernel
theorem d_M_safe_82 : decode b_M_safe 82 = .ok (.iload_n 3, 1) := by decide +kernel
theorem d_M_safe_83 : decode b_M_safe 83 = .ok (.iload_n 1, 1) := by decide +kernel
theorem d_M_safe_84 : decode b_M_safe 84 = .ok (.invokevirtual 86, 3) := by decide +kernel
theorem d_M_safe_87 : decode b_M_safe 87 = .ok (.lastore, 1) := by decide +kernel
theorem d_M_safe_88 : decode b_M_safe 88 = .ok (.aload_n 0, 1) := by decide +kernel
theorem d_M_safe_89 : decode b_M_safe 89 = .ok (.getfield 45, 3) := by decide +kernel
theorem d_M_safe_92 : decode b_M_safe 92 = .ok (.aload_n 0, 1) := by decide +kernel
theorem d_M_safe_93 : decode b_M_safe 93 = .ok (.getfield 61, 3) := by decide +kernel
theorem d_M_safe_96 : decode b_M_safe 96 = .ok (.aload_n 0, 1) := by decide +kernel
theorem d_M_safe_97 : decode b_M_safe 97 = .ok (.aload_n 0, 1) := by decide +kernel
theorem d_M_safe_98 : decode b_M_safe 98 = .ok (.getfield 42, 3) := by decide +kernel
theorem d_M_safe_101 : decode b_M_safe 101 = .ok (.aload_n 0, 1) := by decide +kernel
theorem d_M_safe_102 : decode b_M_safe 102 = .ok (.getfield 61, 3) := by decide +kernel
theorem d_M_safe_105 : decode b_M_safe 105 = .ok (.laload, 1) := by decide +kernel
theorem d_M_safe_106 : decode b_M_safe 106 = .ok (.iload_n 1, 1) := by decide +kernel
theorem d_M_safe_107 : decode b_M_safe 107 = .ok (.invokevirtual 90, 3) := by decide +kernel
theorem d_M_safe_110 : decode b_M_safe 110 = .ok (.lastore, 1) := by decide +kernel
theorem d_M_safe_111 : decode b_M_safe 111 = .ok (.aload_n 0, 1) := by decide +kernel
theorem d_M_safe_112 : decode b_M_safe 112 = .ok (.dup, 1) := by decide +kernel
theorem d_M_safe_113 : decode b_M_safe 113 = .ok (.getfield 61, 3) := by decide +kernel
theorem d_M_safe_116 : decode b_M_safe 116 = .ok (.iconst 1, 1) := by decide +kernel
theorem d_M_safe_117 : decode b_M_safe 117 = .ok (.iadd, 1) := by decide +kernel
theorem d_M_safe_118 : decode b_M_safe 118 = .ok (.putfield 61, 3) := by decide +kernel
theorem d_M_safe_121 : decode b_M_safe 121 = .ok (.iinc 3 1, 3) := by decide +kernel
theorem d_M_safe_124 : decode b_M_safe 124 = .ok (.goto (-85), 3) := by decide +kernel
theorem d_M_safe_127 : decode b_M_safe 127 = .ok (.aload_n 0, 1) := by decide +kernel
theorem d_M_safe_128 : decode b_M_safe 128 = .ok (.aload_n 0, 1) := by decide +kernel
theorem d_M_safe_129 : decode b_M_safe 129 = .ok (.iload_n 2, 1) := by decide +kernel
theorem d_M_safe_130 : decode b_M_safe 130 = .ok (.iload_n 1, 1) := by decide +kernel
theorem d_M_safe_131 : decode b_M_safe 131 = .ok (.invokevirtual 94, 3) := by decide +kernel
theorem d_M_safe_134 : decode b_M_safe 134 = .ok (.putfield 79, 3) := by decide +kernel
theorem d_M_safe_137 : decode b_M_safe 137 = .ok (.iinc 1 1, 3) := by decide +kernel
theorem d_M_safe_140 : decode b_M_safe 140 = .ok (.goto (-123), 3) := by decide +kernel
theorem d_M_safe_143 : decode b_M_safe 143 = .ok (.aload_n 0, 1) := by decide +kernel
theorem d_M_safe_144 : decode b_M_safe 144 = .ok (.aload_n 0, 1) := by decide +kernel
theorem d_M_safe_145 : decode b_M_safe 145 = .ok (.getfield 79, 3) := by decide +kernel
theorem d_M_safe_148 : decode b_M_safe 148 = .ok (.ifCond .eq 7, 3) := by decide +kernel
theorem d_M_safe_151 : decode b_M_safe 151 = .ok (.iconst 0, 1) := by decide +kernel
theorem d_M_safe_152 : decode b_M_safe 152 = .ok (.goto 7, 3) := by decide +kernel
theorem d_M_safe_155 : decode b_M_safe 155 = .ok (.aload_n 0, 1) := by decide +kernel
theorem d_M_safe_156 : decode b_M_safe 156 = .ok (.getfield 61, 3) := by decide +kernel
theorem d_M_safe_159 : decode b_M_safe 159 = .ok (.putfield 61, 3) := by decide +kernel
theorem d_M_safe_162 : decode b_M_safe 162 = .ok (.aload_n 0, 1) := by decide +kernel
theorem d_M_safe_163 : decode b_M_safe 163 = .ok (.getfield 79, 3) := by decide +kernel
theorem d_M_safe_166 : decode b_M_safe 166 = .ok (.ifCond .eq 7, 3) := by decide +kernel
theorem d_M_safe_169 : decode b_M_safe 169 = .ok (.iconst 0, 1) := by decide +kernel
theorem d_M_safe_170 : decode b_M_safe 170 = .ok (.goto 4, 3) := by decide +kernel
theorem d_M_safe_173 : decode b_M_safe 173 = .ok (.iconst 1, 1) := by decide +kernel
theorem d_M_safe_174 : decode b_M_safe 174 = .ok (.ireturn, 1) := by decide +kernel
abbrev b_M_culprit : ByteArray := prog_6_method_15_code
def y_M_culprit : MethodName := ⟨"SeatProofsModel", "culprit", "(I)I"⟩
abbrev w_M_culprit : List Cond := .code y_M_culprit b_M_culprit 2 (some .int) :: gT
theorem d_M_culprit_0 : decode b_M_culprit 0 = .ok (.aload_n 0, 1) := by decide +kernel
theorem d_M_culprit_1 : decode b_M_culprit 1 = .ok (.iconst 0, 1) := by decide +kernel
theorem d_M_culprit_2 : decode b_M_culprit 2 = .ok (.putfield 54, 3) := by decide +kernel
theorem d_M_culprit_5 : decode b_M_culprit 5 = .ok (.aload_n 0, 1) := by decide +kernel
theorem d_M_culprit_6 : decode b_M_culprit 6 = .ok (.getfield 79, 3) := by decide +kernel
theorem d_M_culprit_9 : decode b_M_culprit 9 = .ok (.ifCond .eq 21, 3) := by decide +kernel
theorem d_M_culprit_12 : decode b_M_culprit 12 = .ok (.iload_n 1, 1) := by decide +kernel
theorem d_M_culprit_13 : decode b_M_culprit 13 = .ok (.ifCond .lt 17, 3) := by decide +kernel
theorem d_M_culprit_16 : decode b_M_culprit 16 = .ok (.iload_n 1, 1) := by decide +kernel
theorem d_M_culprit_17 : decode b_M_culprit 17 = .ok (.iconst 4, 1) := by decide +kernel
theorem d_M_culprit_18 : decode b_M_culprit 18 = .ok (.if_icmp .ge 12, 3) := by decide +kernel
theorem d_M_culprit_21 : decode b_M_culprit 21 = .ok (.aload_n 0, 1) := by decide +kernel
theorem d_M_culprit_22 : decode b_M_culprit 22 = .ok (.getfield 48, 3) := by decide +kernel
theorem d_M_culprit_25 : decode b_M_culprit 25 = .ok (.iload_n 1, 1) := by decide +kernel
theorem d_M_culprit_26 : decode b_M_culprit 26 = .ok (.iaload, 1) := by decide +kernel
theorem d_M_culprit_27 : decode b_M_culprit 27 = .ok (.goto 4, 3) := by decide +kernel
theorem d_M_culprit_30 : decode b_M_culprit 30 = .ok (.iconst (-1), 1) := by decide +kernel
theorem d_M_culprit_31 : decode b_M_culprit 31 = .ok (.ireturn, 1) := by decide +kernel
abbrev b_M_rows : ByteArray := prog_6_method_16_code
def y_M_rows : MethodName := ⟨"SeatProofsModel", "rows", "()I"⟩
abbrev w_M_rows : List Cond := .code y_M_rows b_M_rows 1 (some .int) :: gT
theorem d_M_rows_0 : decode b_M_rows 0 = .ok (.aload_n 0, 1) := by decide +kernel
theorem d_M_rows_1 : decode b_M_rows 1 = .ok (.iconst 0, 1) := by decide +kernel
theorem d_M_rows_2 : decode b_M_rows 2 = .ok (.putfield 54, 3) := by decide +kernel
theorem d_M_rows_5 : decode b_M_rows 5 = .ok (.aload_n 0, 1) := by decide +kernel
theorem d_M_rows_6 : decode b_M_rows 6 = .ok (.getfield 61, 3) := by decide +kernel
theorem d_M_rows_9 : decode b_M_rows 9 = .ok (.ireturn, 1) := by decide +kernel
abbrev b_M_size : ByteArray := prog_6_method_17_code
def y_M_size : MethodName := ⟨"SeatProofsModel", "size", "(J)I"⟩
abbrev w_M_size : List Cond := .code y_M_size b_M_size 4 (some .int) :: gT
theorem d_M_size_0 : decode b_M_size 0 = .ok (.iconst 0, 1) := by decide +kernel
theorem d_M_size_1 : decode b_M_size 1 = .ok (.istore_n 2, 1) := by decide +kernel
theorem d_M_size_2 : decode b_M_size 2 = .ok (.iconst 0, 1) := by decide +kernel
theorem d_M_size_3 : decode b_M_size 3 = .ok (.istore_n 3, 1) := by decide +kernel
theorem d_M_size_4 : decode b_M_size 4 = .ok (.iload_n 3, 1) := by decide +kernel
theorem d_M_size_5 : decode b_M_size 5 = .ok (.bipush 64, 2) := by decide +kernel
theorem d_M_size_7 : decode b_M_size 7 = .ok (.if_icmp .ge 25, 3) := by decide +kernel
theorem d_M_size_10 : decode b_M_size 10 = .ok (.iload_n 2, 1) := by decide +kernel
theorem d_M_size_11 : decode b_M_size 11 = .ok (.lload_n 0, 1) := by decide +kernel
theorem d_M_size_12 : decode b_M_size 12 = .ok (.iload_n 3, 1) := by decide +kernel
theorem d_M_size_13 : decode b_M_size 13 = .ok (.invokestatic 75, 3) := by decide +kernel
theorem d_M_size_16 : decode b_M_size 16 = .ok (.ifCond .eq 7, 3) := by decide +kernel
theorem d_M_size_19 : decode b_M_size 19 = .ok (.iconst 1, 1) := by decide +kernel
theorem d_M_size_20 : decode b_M_size 20 = .ok (.goto 4, 3) := by decide +kernel
theorem d_M_size_23 : decode b_M_size 23 = .ok (.iconst 0, 1) := by decide +kernel
theorem d_M_size_24 : decode b_M_size 24 = .ok (.iadd, 1) := by decide +kernel
theorem d_M_size_25 : decode b_M_size 25 = .ok (.istore_n 2, 1) := by decide +kernel
theorem d_M_size_26 : decode b_M_size 26 = .ok (.iinc 3 1, 3) := by decide +kernel
theorem d_M_size_29 : decode b_M_size 29 = .ok (.goto (-25), 3) := by decide +kernel
theorem d_M_size_32 : decode b_M_size 32 = .ok (.iload_n 2, 1) := by decide +kernel
theorem d_M_size_33 : decode b_M_size 33 = .ok (.ireturn, 1) := by decide +kernel
abbrev b_M_row : ByteArray := prog_6_method_18_code
def y_M_row : MethodName := ⟨"SeatProofsModel", "row", "(II)I"⟩
abbrev w_M_row : List Cond := .code y_M_row b_M_row 5 (some .int) :: gT
theorem d_M_row_0 : decode b_M_row 0 = .ok (.aload_n 0, 1) := by decide +kernel
theorem d_M_row_1 : decode b_M_row 1 = .ok (.iconst 0, 1) := by decide +kernel
theorem d_M_row_2 : decode b_M_row 2 = .ok (.putfield 54, 3) := by decide +kernel
theorem d_M_row_5 : decode b_M_row 5 = .ok (.iload_n 1, 1) := by decide +kernel
theorem d_M_row_6 : decode b_M_row 6 = .ok (.ifCond .lt 15, 3) := by decide +kernel
theorem d_M_row_9 : decode b_M_row 9 = .ok (.iload_n 1, 1) := by decide +kernel
theorem d_M_row_10 : decode b_M_row 10 = .ok (.aload_n 0, 1) := by decide +kernel
theorem d_M_row_11 : decode b_M_row 11 = .ok (.getfield 61, 3) := by decide +kernel
theorem d_M_row_14 : decode b_M_row 14 = .ok (.if_icmp .ge 7, 3) := by decide +kernel
theorem d_M_row_17 : decode b_M_row 17 = .ok (.iload_n 2, 1) := by decide +kernel
theorem d_M_row_18 : decode b_M_row 18 = .ok (.ifCond .ge 5, 3) := by decide +kernel
theorem d_M_row_21 : decode b_M_row 21 = .ok (.iconst (-1), 1) := by decide +kernel
theorem d_M_row_22 : decode b_M_row 22 = .ok (.ireturn, 1) := by decide +kernel
theorem d_M_row_23 : decode b_M_row 23 = .ok (.iload_n 2, 1) := by decide +kernel
theorem d_M_row_24 : decode b_M_row 24 = .ok (.iconst 4, 1) := by decide +kernel
theorem d_M_row_25 : decode b_M_row 25 = .ok (.if_icmp .ge 57, 3) := by decide +kernel
theorem d_M_row_28 : decode b_M_row 28 = .ok (.iload_n 2, 1) := by decide +kernel
theorem d_M_row_29 : decode b_M_row 29 = .ok (.ifCond .ne 12, 3) := by decide +kernel
theorem d_M_row_32 : decode b_M_row 32 = .ok (.aload_n 0, 1) := by decide +kernel
theorem d_M_row_33 : decode b_M_row 33 = .ok (.getfield 36, 3) := by decide +kernel
theorem d_M_row_36 : decode b_M_row 36 = .ok (.iload_n 1, 1) := by decide +kernel
theorem d_M_row_37 : decode b_M_row 37 = .ok (.iaload, 1) := by decide +kernel
theorem d_M_row_38 : decode b_M_row 38 = .ok (.goto 43, 3) := by decide +kernel
theorem d_M_row_41 : decode b_M_row 41 = .ok (.iload_n 2, 1) := by decide +kernel
theorem d_M_row_42 : decode b_M_row 42 = .ok (.iconst 1, 1) := by decide +kernel
theorem d_M_row_43 : decode b_M_row 43 = .ok (.if_icmp .ne 12, 3) := by decide +kernel
theorem d_M_row_46 : decode b_M_row 46 = .ok (.aload_n 0, 1) := by decide +kernel
theorem d_M_row_47 : decode b_M_row 47 = .ok (.getfield 39, 3) := by decide +kernel
theorem d_M_row_50 : decode b_M_row 50 = .ok (.iload_n 1, 1) := by decide +kernel
theorem d_M_row_51 : decode b_M_row 51 = .ok (.iaload, 1) := by decide +kernel
theorem d_M_row_52 : decode b_M_row 52 = .ok (.goto 29, 3) := by decide +kernel
theorem d_M_row_55 : decode b_M_row 55 = .ok (.iload_n 2, 1) := by decide +kernel
theorem d_M_row_56 : decode b_M_row 56 = .ok (.iconst 2, 1) := by decide +kernel
theorem d_M_row_57 : decode b_M_row 57 = .ok (.if_icmp .ne 15, 3) := by decide +kernel
theorem d_M_row_60 : decode b_M_row 60 = .ok (.aload_n 0, 1) := by decide +kernel
theorem d_M_row_61 : decode b_M_row 61 = .ok (.getfield 42, 3) := by decide +kernel
theorem d_M_row_64 : decode b_M_row 64 = .ok (.iload_n 1, 1) := by decide +kernel
theorem d_M_row_65 : decode b_M_row 65 = .ok (.laload, 1) := by decide +kernel
theorem d_M_row_66 : decode b_M_row 66 = .ok (.invokestatic 97, 3) := by decide +kernel
theorem d_M_row_69 : decode b_M_row 69 = .ok (.goto 12, 3) := by decide +kernel
theorem d_M_row_72 : decode b_M_row 72 = .ok (.aload_n 0, 1) := by decide +kernel
theorem d_M_row_73 : decode b_M_row 73 = .ok (.getfield 45, 3) := by decide +kernel
theorem d_M_row_76 : decode b_M_row 76 = .ok (.iload_n 1, 1) := by decide +kernel
theorem d_M_row_77 : decode b_M_row 77 = .ok (.laload, 1) := by decide +kernel
theorem d_M_row_78 : decode b_M_row 78 = .ok (.invokestatic 97, 3) := by decide +kernel
theorem d_M_row_81 : decode b_M_row 81 = .ok (.ireturn, 1) := by decide +kernel
theorem d_M_row_82 : decode b_M_row 82 = .ok (.iload_n 2, 1) := by decide +kernel
theorem d_M_row_83 : decode b_M_row 83 = .ok (.iconst 4, 1) := by decide +kernel
theorem d_M_row_84 : decode b_M_row 84 = .ok (.isub, 1) := by decide +kernel
theorem d_M_row_85 : decode b_M_row 85 = .ok (.istore_n 3, 1) := by decide +kernel
theorem d_M_row_86 : decode b_M_row 86 = .ok (.iconst 0, 1) := by decide +kernel
theorem d_M_row_87 : decode b_M_row 87 = .ok (.istore 4, 2) := by decide +kernel
theorem d_M_row_89 : decode b_M_row 89 = .ok (.iload 4, 2) := by decide +kernel
theorem d_M_row_91 : decode b_M_row 91 = .ok (.aload_n 0, 1) := by decide +kernel
theorem d_M_row_92 : decode b_M_row 92 = .ok (.getfield 68, 3) := by decide +kernel
theorem d_M_row_95 : decode b_M_row 95 = .ok (.if_icmp .ge 33, 3) := by decide +kernel
theorem d_M_row_98 : decode b_M_row 98 = .ok (.aload_n 0, 1) := by decide +kernel
theorem d_M_row_99 : decode b_M_row 99 = .ok (.getfield 45, 3) := by decide +kernel
theorem d_M_row_102 : decode b_M_row 102 = .ok (.iload_n 1, 1) := by decide +kernel
theorem d_M_row_103 : decode b_M_row 103 = .ok (.laload, 1) := by decide +kernel
theorem d_M_row_104 : decode b_M_row 104 = .ok (.iload 4, 2) := by decide +kernel
theorem d_M_row_106 : decode b_M_row 106 = .ok (.invokestatic 75, 3) := by decide +kernel
theorem d_M_row_109 : decode b_M_row 109 = .ok (.ifCond .eq 13, 3) := by decide +kernel
theorem d_M_row_112 : decode b_M_row 112 = .ok (.iload_n 3, 1) := by decide +kernel
theorem d_M_row_113 : decode b_M_row 113 = .ok (.ifCond .ne 6, 3) := by decide +kernel
theorem d_M_row_116 : decode b_M_row 116 = .ok (.iload 4, 2) := by decide +kernel
theorem d_M_row_118 : decode b_M_row 118 = .ok (.ireturn, 1) := by decide +kernel
theorem d_M_row_119 : decode b_M_row 119 = .ok (.iinc 3 (-1), 3) := by decide +kernel
theorem d_M_row_122 : decode b_M_row 122 = .ok (.iinc 4 1, 3) := by decide +kernel
theorem d_M_row_125 : decode b_M_row 125 = .ok (.goto (-36), 3) := by decide +kernel
theorem d_M_row_128 : decode b_M_row 128 = .ok (.iconst (-1), 1) := by decide +kernel
theorem d_M_row_129 : decode b_M_row 129 = .ok (.ireturn, 1) := by decide +kernel
abbrev b_M_isRight : ByteArray := prog_6_method_19_code
def y_M_isRight : MethodName := ⟨"SeatProofsModel", "isRight", "(I)Z"⟩
abbrev w_M_isRight : List Cond := .code y_M_isRight b_M_isRight 6 (some .boolean) :: gT
theorem d_M_isRight_0 : decode b_M_isRight 0 = .ok (.aload_n 0, 1) := by decide +kernel
theorem d_M_isRight_1 : decode b_M_isRight 1 = .ok (.aload_n 0, 1) := by decide +kernel
theorem d_M_isRight_2 : decode b_M_isRight 2 = .ok (.getfield 39, 3) := by decide +kernel
theorem d_M_isRight_5 : decode b_M_isRight 5 = .ok (.iload_n 1, 1) := by decide +kernel
theorem d_M_isRight_6 : decode b_M_isRight 6 = .ok (.iaload, 1) := by decide +kernel
theorem d_M_isRight_7 : decode b_M_isRight 7 = .ok (.aload_n 0, 1) := by decide +kernel
theorem d_M_isRight_8 : decode b_M_isRight 8 = .ok (.getfield 36, 3) := by decide +kernel
theorem d_M_isRight_11 : decode b_M_isRight 11 = .ok (.iload_n 1, 1) := by decide +kernel
theorem d_M_isRight_12 : decode b_M_isRight 12 = .ok (.iaload, 1) := by decide +kernel
theorem d_M_isRight_13 : decode b_M_isRight 13 = .ok (.invokevirtual 86, 3) := by decide +kernel
theorem d_M_isRight_16 : decode b_M_isRight 16 = .ok (.lstore_n 2, 1) := by decide +kernel
theorem d_M_isRight_17 : decode b_M_isRight 17 = .ok (.lload_n 2, 1) := by decide +kernel
theorem d_M_isRight_18 : decode b_M_isRight 18 = .ok (.aload_n 0, 1) := by decide +kernel
theorem d_M_isRight_19 : decode b_M_isRight 19 = .ok (.getfield 42, 3) := by decide +kernel
theorem d_M_isRight_22 : decode b_M_isRight 22 = .ok (.iload_n 1, 1) := by decide +kernel
theorem d_M_isRight_23 : decode b_M_isRight 23 = .ok (.laload, 1) := by decide +kernel
theorem d_M_isRight_24 : decode b_M_isRight 24 = .ok (.lcmp, 1) := by decide +kernel
theorem d_M_isRight_25 : decode b_M_isRight 25 = .ok (.ifCond .ne 28, 3) := by decide +kernel
theorem d_M_isRight_28 : decode b_M_isRight 28 = .ok (.aload_n 0, 1) := by decide +kernel
theorem d_M_isRight_29 : decode b_M_isRight 29 = .ok (.lload_n 2, 1) := by decide +kernel
theorem d_M_isRight_30 : decode b_M_isRight 30 = .ok (.aload_n 0, 1) := by decide +kernel
theorem d_M_isRight_31 : decode b_M_isRight 31 = .ok (.getfield 36, 3) := by decide +kernel
theorem d_M_isRight_34 : decode b_M_isRight 34 = .ok (.iload_n 1, 1) := by decide +kernel
theorem d_M_isRight_35 : decode b_M_isRight 35 = .ok (.iaload, 1) := by decide +kernel
theorem d_M_isRight_36 : decode b_M_isRight 36 = .ok (.invokevirtual 90, 3) := by decide +kernel
theorem d_M_isRight_39 : decode b_M_isRight 39 = .ok (.aload_n 0, 1) := by decide +kernel
theorem d_M_isRight_40 : decode b_M_isRight 40 = .ok (.getfield 45, 3) := by decide +kernel
theorem d_M_isRight_43 : decode b_M_isRight 43 = .ok (.iload_n 1, 1) := by decide +kernel
theorem d_M_isRight_44 : decode b_M_isRight 44 = .ok (.laload, 1) := by decide +kernel
theorem d_M_isRight_45 : decode b_M_isRight 45 = .ok (.lcmp, 1) := by decide +kernel
theorem d_M_isRight_46 : decode b_M_isRight 46 = .ok (.ifCond .ne 7, 3) := by decide +kernel
theorem d_M_isRight_49 : decode b_M_isRight 49 = .ok (.iconst 1, 1) := by decide +kernel
theorem d_M_isRight_50 : decode b_M_isRight 50 = .ok (.goto 4, 3) := by decide +kernel
theorem d_M_isRight_53 : decode b_M_isRight 53 = .ok (.iconst 0, 1) := by decide +kernel
theorem d_M_isRight_54 : decode b_M_isRight 54 = .ok (.istore 4, 2) := by decide +kernel
theorem d_M_isRight_56 : decode b_M_isRight 56 = .ok (.iconst 0, 1) := by decide +kernel
theorem d_M_isRight_57 : decode b_M_isRight 57 = .ok (.istore 5, 2) := by decide +kernel
theorem d_M_isRight_59 : decode b_M_isRight 59 = .ok (.iload 5, 2) := by decide +kernel
theorem d_M_isRight_61 : decode b_M_isRight 61 = .ok (.aload_n 0, 1) := by decide +kernel
theorem d_M_isRight_62 : decode b_M_isRight 62 = .ok (.getfield 58, 3) := by decide +kernel
theorem d_M_isRight_65 : decode b_M_isRight 65 = .ok (.if_icmp .ge 81, 3) := by decide +kernel
theorem d_M_isRight_68 : decode b_M_isRight 68 = .ok (.iload 4, 2) := by decide +kernel
theorem d_M_isRight_70 : decode b_M_isRight 70 = .ok (.ifCond .eq 76, 3) := by decide +kernel
theorem d_M_isRight_73 : decode b_M_isRight 73 = .ok (.lload_n 2, 1) := by decide +kernel
theorem d_M_isRight_74 : decode b_M_isRight 74 = .ok (.iload 5, 2) := by decide +kernel
theorem d_M_isRight_76 : decode b_M_isRight 76 = .ok (.invokestatic 75, 3) := by decide +kernel
theorem d_M_isRight_79 : decode b_M_isRight 79 = .ok (.ifCond .eq 54, 3) := by decide +kernel
theorem d_M_isRight_82 : decode b_M_isRight 82 = .ok (.aload_n 0, 1) := by decide +kernel
theorem d_M_isRight_83 : decode b_M_isRight 83 = .ok (.getfield 9, 3) := by decide +kernel
theorem d_M_isRight_86 : decode b_M_isRight 86 = .ok (.iload 5, 2) := by decide +kernel
theorem d_M_isRight_88 : decode b_M_isRight 88 = .ok (.iaload, 1) := by decide +kernel
theorem d_M_isRight_89 : decode b_M_isRight 89 = .ok (.ifCond .eq 44, 3) := by decide +kernel
theorem d_M_isRight_92 : decode b_M_isRight 92 = .ok (.aload_n 0, 1) := by decide +kernel
theorem d_M_isRight_93 : decode b_M_isRight 93 = .ok (.getfield 9, 3) := by decide +kernel
theorem d_M_isRight_96 : decode b_M_isRight 96 = .ok (.iload 5, 2) := by decide +kernel
theorem d_M_isRight_98 : decode b_M_isRight 98 = .ok (.iaload, 1) := by decide +kernel
theorem d_M_isRight_99 : decode b_M_isRight 99 = .ok (.aload_n 0, 1) := by decide +kernel
theorem d_M_isRight_100 : decode b_M_isRight 100 = .ok (.getfield 39, 3) := by decide +kernel
theorem d_M_isRight_103 : decode b_M_isRight 103 = .ok (.iload_n 1, 1) := by decide +kernel
theorem d_M_isRight_104 : decode b_M_isRight 104 = .ok (.iaload, 1) := by decide +kernel
theorem d_M_isRight_105 : decode b_M_isRight 105 = .ok (.if_icmp .eq 28, 3) := by decide +kernel
theorem d_M_isRight_108 : decode b_M_isRight 108 = .ok (.aload_n 0, 1) := by decide +kernel
theorem d_M_isRight_109 : decode b_M_isRight 109 = .ok (.getfield 33, 3) := by decide +kernel
theorem d_M_isRight_112 : decode b_M_isRight 112 = .ok (.bipush 16, 2) := by decide +kernel
theorem d_M_isRight_114 : decode b_M_isRight 114 = .ok (.aload_n 0, 1) := by decide +kernel
theorem d_M_isRight_115 : decode b_M_isRight 115 = .ok (.getfield 39, 3) := by decide +kernel
theorem d_M_isRight_118 : decode b_M_isRight 118 = .ok (.iload_n 1, 1) := by decide +kernel
theorem d_M_isRight_119 : decode b_M_isRight 119 = .ok (.iaload, 1) := by decide +kernel
theorem d_M_isRight_120 : decode b_M_isRight 120 = .ok (.imul, 1) := by decide +kernel
theorem d_M_isRight_121 : decode b_M_isRight 121 = .ok (.aload_n 0, 1) := by decide +kernel
theorem d_M_isRight_122 : decode b_M_isRight 122 = .ok (.getfield 9, 3) := by decide +kernel
theorem d_M_isRight_125 : decode b_M_isRight 125 = .ok (.iload 5, 2) := by decide +kernel
theorem d_M_isRight_127 : decode b_M_isRight 127 = .ok (.iaload, 1) := by decide +kernel
theorem d_M_isRight_128 : decode b_M_isRight 128 = .ok (.iadd, 1) := by decide +kernel
theorem d_M_isRight_129 : decode b_M_isRight 129 = .ok (.baload, 1) := by decide +kernel
theorem d_M_isRight_130 : decode b_M_isRight 130 = .ok (.ifCond .eq 7, 3) := by decide +kernel
theorem d_M_isRight_133 : decode b_M_isRight 133 = .ok (.iconst 1, 1) := by decide +kernel
theorem d_M_isRight_134 : decode b_M_isRight 134 = .ok (.goto 4, 3) := by decide +kernel
theorem d_M_isRight_137 : decode b_M_isRight 137 = .ok (.iconst 0, 1) := by decide +kernel
theorem d_M_isRight_138 : decode b_M_isRight 138 = .ok (.istore 4, 2) := by decide +kernel
theorem d_M_isRight_140 : decode b_M_isRight 140 = .ok (.iinc 5 1, 3) := by decide +kernel
theorem d_M_isRight_143 : decode b_M_isRight 143 = .ok (.goto (-84), 3) := by decide +kernel
theorem d_M_isRight_146 : decode b_M_isRight 146 = .ok (.iload 4, 2) := by decide +kernel
theorem d_M_isRight_148 : decode b_M_isRight 148 = .ok (.ireturn, 1) := by decide +kernel
abbrev b_M_check : ByteArray := prog_6_method_20_code
def y_M_check : MethodName := ⟨"SeatProofsModel", "check", "()I"⟩
abbrev w_M_check : List Cond := .code y_M_check b_M_check 5 (some .int) :: gT
theorem d_M_check_0 : decode b_M_check 0 = .ok (.aload_n 0, 1) := by decide +kernel
theorem d_M_check_1 : decode b_M_check 1 = .ok (.iconst 0, 1) := by decide +kernel
theorem d_M_check_2 : decode b_M_check 2 = .ok (.putfield 54, 3) := by decide +kernel
theorem d_M_check_5 : decode b_M_check 5 = .ok (.iconst 0, 1) := by decide +kernel
theorem d_M_check_6 : decode b_M_check 6 = .ok (.istore_n 1, 1) := by decide +kernel
theorem d_M_check_7 : decode b_M_check 7 = .ok (.iload_n 1, 1) := by decide +kernel
theorem d_M_check_8 : decode b_M_check 8 = .ok (.aload_n 0, 1) := by decide +kernel
theorem d_M_check_9 : decode b_M_check 9 = .ok (.getfield 61, 3) := by decide +kernel
theorem d_M_check_12 : decode b_M_check 12 = .ok (.if_icmp .ge 21, 3) := by decide +kernel
theorem d_M_check_15 : decode b_M_check 15 = .ok (.aload_n 0, 1) := by decide +kernel
theorem d_M_check_16 : decode b_M_check 16 = .ok (.iload_n 1, 1) := by decide +kernel
theorem d_M_check_17 : decode b_M_check 17 = .ok (.invokevirtual 101, 3) := by decide +kernel
theorem d_M_check_20 : decode b_M_check 20 = .ok (.ifCond .ne 7, 3) := by decide +kernel
theorem d_M_check_23 : decode b_M_check 23 = .ok (.iload_n 1, 1) := by decide +kernel
theorem d_M_check_24 : decode b_M_check 24 = .ok (.iconst 1, 1) := by decide +kernel
theorem d_M_check_25 : decode b_M_check 25 = .ok (.iadd, 1) := by decide +kernel
theorem d_M_check_26 : decode b_M_check 26 = .ok (.ireturn, 1) := by decide +kernel
theorem d_M_check_27 : decode b_M_check 27 = .ok (.iinc 1 1, 3) := by decide +kernel
theorem d_M_check_30 : decode b_M_check 30 = .ok (.goto (-23), 3) := by decide +kernel
theorem d_M_check_33 : decode b_M_check 33 = .ok (.iconst 0, 1) := by decide +kernel
theorem d_M_check_34 : decode b_M_check 34 = .ok (.istore_n 1, 1) := by decide +kernel
theorem d_M_check_35 : decode b_M_check 35 = .ok (.iload_n 1, 1) := by decide +kernel
theorem d_M_check_36 : decode b_M_check 36 = .ok (.aload_n 0, 1) := by decide +kernel
theorem d_M_check_37 : decode b_M_check 37 = .ok (.getfield 68, 3) := by decide +kernel
theorem d_M_check_40 : decode b_M_check 40 = .ok (.if_icmp .gt 98, 3) := by decide +kernel
theorem d_M_check_43 : decode b_M_check 43 = .ok (.iconst 1, 1) := by decide +kernel
theorem d_M_check_44 : decode b_M_check 44 = .ok (.istore_n 2, 1) := by decide +kernel
theorem d_M_check_45 : decode b_M_check 45 = .ok (.iload_n 2, 1) := by decide +kernel
theorem d_M_check_46 : decode b_M_check 46 = .ok (.bipush 16, 2) := by decide +kernel
theorem d_M_check_48 : decode b_M_check 48 = .ok (.if_icmp .ge 84, 3) := by decide +kernel
theorem d_M_check_51 : decode b_M_check 51 = .ok (.aload_n 0, 1) := by decide +kernel
theorem d_M_check_52 : decode b_M_check 52 = .ok (.iload_n 2, 1) := by decide +kernel
theorem d_M_check_53 : decode b_M_check 53 = .ok (.invokevirtual 83, 3) := by decide +kernel
theorem d_M_check_56 : decode b_M_check 56 = .ok (.ifCond .ne 7, 3) := by decide +kernel
theorem d_M_check_59 : decode b_M_check 59 = .ok (.iconst 1, 1) := by decide +kernel
theorem d_M_check_60 : decode b_M_check 60 = .ok (.goto 4, 3) := by decide +kernel
theorem d_M_check_63 : decode b_M_check 63 = .ok (.iconst 0, 1) := by decide +kernel
theorem d_M_check_64 : decode b_M_check 64 = .ok (.istore_n 3, 1) := by decide +kernel
theorem d_M_check_65 : decode b_M_check 65 = .ok (.iconst 0, 1) := by decide +kernel
theorem d_M_check_66 : decode b_M_check 66 = .ok (.istore 4, 2) := by decide +kernel
theorem d_M_check_68 : decode b_M_check 68 = .ok (.iload 4, 2) := by decide +kernel
theorem d_M_check_70 : decode b_M_check 70 = .ok (.aload_n 0, 1) := by decide +kernel
theorem d_M_check_71 : decode b_M_check 71 = .ok (.getfield 61, 3) := by decide +kernel
theorem d_M_check_74 : decode b_M_check 74 = .ok (.if_icmp .ge 41, 3) := by decide +kernel
theorem d_M_check_77 : decode b_M_check 77 = .ok (.iload_n 3, 1) := by decide +kernel
theorem d_M_check_78 : decode b_M_check 78 = .ok (.ifCond .ne 37, 3) := by decide +kernel
theorem d_M_check_81 : decode b_M_check 81 = .ok (.aload_n 0, 1) := by decide +kernel
theorem d_M_check_82 : decode b_M_check 82 = .ok (.getfield 36, 3) := by decide +kernel
theorem d_M_check_85 : decode b_M_check 85 = .ok (.iload 4, 2) := by decide +kernel
theorem d_M_check_87 : decode b_M_check 87 = .ok (.iaload, 1) := by decide +kernel
theorem d_M_check_88 : decode b_M_check 88 = .ok (.iload_n 1, 1) := by decide +kernel
theorem d_M_check_89 : decode b_M_check 89 = .ok (.if_icmp .ne 18, 3) := by decide +kernel
theorem d_M_check_92 : decode b_M_check 92 = .ok (.aload_n 0, 1) := by decide +kernel
theorem d_M_check_93 : decode b_M_check 93 = .ok (.getfield 39, 3) := by decide +kernel
theorem d_M_check_96 : decode b_M_check 96 = .ok (.iload 4, 2) := by decide +kernel
theorem d_M_check_98 : decode b_M_check 98 = .ok (.iaload, 1) := by decide +kernel
theorem d_M_check_99 : decode b_M_check 99 = .ok (.iload_n 2, 1) := by decide +kernel
theorem d_M_check_100 : decode b_M_check 100 = .ok (.if_icmp .ne 7, 3) := by decide +kernel
theorem d_M_check_103 : decode b_M_check 103 = .ok (.iconst 1, 1) := by decide +kernel
theorem d_M_check_104 : decode b_M_check 104 = .ok (.goto 4, 3) := by decide +kernel
theorem d_M_check_107 : decode b_M_check 107 = .ok (.iconst 0, 1) := by decide +kernel
theorem d_M_check_108 : decode b_M_check 108 = .ok (.istore_n 3, 1) := by decide +kernel
theorem d_M_check_109 : decode b_M_check 109 = .ok (.iinc 4 1, 3) := by decide +kernel
theorem d_M_check_112 : decode b_M_check 112 = .ok (.goto (-44), 3) := by decide +kernel
theorem d_M_check_115 : decode b_M_check 115 = .ok (.iload_n 3, 1) := by decide +kernel
theorem d_M_check_116 : decode b_M_check 116 = .ok (.ifCond .ne 10, 3) := by decide +kernel
theorem d_M_check_119 : decode b_M_check 119 = .ok (.aload_n 0, 1) := by decide +kernel
theorem d_M_check_120 : decode b_M_check 120 = .ok (.getfield 61, 3) := by decide +kernel
theorem d_M_check_123 : decode b_M_check 123 = .ok (.iconst 1, 1) := by decide +kernel
theorem d_M_check_124 : decode b_M_check 124 = .ok (.iadd, 1) := by decide +kernel
theorem d_M_check_125 : decode b_M_check 125 = .ok (.ireturn, 1) := by decide +kernel
theorem d_M_check_126 : decode b_M_check 126 = .ok (.iinc 2 1, 3) := by decide +kernel
theorem d_M_check_129 : decode b_M_check 129 = .ok (.goto (-84), 3) := by decide +kernel
theorem d_M_check_132 : decode b_M_check 132 = .ok (.iinc 1 1, 3) := by decide +kernel
theorem d_M_check_135 : decode b_M_check 135 = .ok (.goto (-100), 3) := by decide +kernel
theorem d_M_check_138 : decode b_M_check 138 = .ok (.iconst 0, 1) := by decide +kernel
theorem d_M_check_139 : decode b_M_check 139 = .ok (.ireturn, 1) := by decide +kernel
abbrev b_M_set : ByteArray := prog_6_method_21_code
def y_M_set : MethodName := ⟨"SeatProofsModel", "set", "(IZ)Z"⟩
abbrev w_M_set : List Cond := .code y_M_set b_M_set 6 (some .boolean) :: gT
theorem d_M_set_0 : decode b_M_set 0 = .ok (.aload_n 0, 1) := by decide +kernel
theorem d_M_set_1 : decode b_M_set 1 = .ok (.iload_n 1, 1) := by decide +kernel
theorem d_M_set_2 : decode b_M_set 2 = .ok (.ifCond .lt 11, 3) := by decide +kernel
theorem d_M_set_5 : decode b_M_set 5 = .ok (.iload_n 1, 1) := by decide +kernel
theorem d_M_set_6 : decode b_M_set 6 = .ok (.aload_n 0, 1) := by decide +kernel
theorem d_M_set_7 : decode b_M_set 7 = .ok (.getfield 68, 3) := by decide +kernel
theorem d_M_set_10 : decode b_M_set 10 = .ok (.if_icmp .lt 7, 3) := by decide +kernel
theorem d_M_set_13 : decode b_M_set 13 = .ok (.iconst 1, 1) := by decide +kernel
theorem d_M_set_14 : decode b_M_set 14 = .ok (.goto 4, 3) := by decide +kernel
theorem d_M_set_17 : decode b_M_set 17 = .ok (.iconst 0, 1) := by decide +kernel
theorem d_M_set_18 : decode b_M_set 18 = .ok (.putfield 54, 3) := by decide +kernel
theorem d_M_set_21 : decode b_M_set 21 = .ok (.aload_n 0, 1) := by decide +kernel
theorem d_M_set_22 : decode b_M_set 22 = .ok (.getfield 54, 3) := by decide +kernel
theorem d_M_set_25 : decode b_M_set 25 = .ok (.ifCond .le 5, 3) := by decide +kernel
theorem d_M_set_28 : decode b_M_set 28 = .ok (.iconst 0, 1) := by decide +kernel
theorem d_M_set_29 : decode b_M_set 29 = .ok (.ireturn, 1) := by decide +kernel
theorem d_M_set_30 : decode b_M_set 30 = .ok (.aload_n 0, 1) := by decide +kernel
theorem d_M_set_31 : decode b_M_set 31 = .ok (.iconst 0, 1) := by decide +kernel
theorem d_M_set_32 : decode b_M_set 32 = .ok (.putfield 104, 3) := by decide +kernel
theorem d_M_set_35 : decode b_M_set 35 = .ok (.aload_n 0, 1) := by decide +kernel
theorem d_M_set_36 : decode b_M_set 36 = .ok (.getfield 26, 3) := by decide +kernel
theorem d_M_set_39 : decode b_M_set 39 = .ok (.iload_n 1, 1) := by decide +kernel
theorem d_M_set_40 : decode b_M_set 40 = .ok (.iload_n 2, 1) := by decide +kernel
theorem d_M_set_41 : decode b_M_set 41 = .ok (.bastore, 1) := by decide +kernel
theorem d_M_set_42 : decode b_M_set 42 = .ok (.iconst 0, 1) := by decide +kernel
theorem d_M_set_43 : decode b_M_set 43 = .ok (.istore_n 3, 1) := by decide +kernel
theorem d_M_set_44 : decode b_M_set 44 = .ok (.iload_n 3, 1) := by decide +kernel
theorem d_M_set_45 : decode b_M_set 45 = .ok (.aload_n 0, 1) := by decide +kernel
theorem d_M_set_46 : decode b_M_set 46 = .ok (.getfield 61, 3) := by decide +kernel
theorem d_M_set_49 : decode b_M_set 49 = .ok (.if_icmp .ge 111, 3) := by decide +kernel
theorem d_M_set_52 : decode b_M_set 52 = .ok (.aload_n 0, 1) := by decide +kernel
theorem d_M_set_53 : decode b_M_set 53 = .ok (.getfield 36, 3) := by decide +kernel
theorem d_M_set_56 : decode b_M_set 56 = .ok (.iload_n 3, 1) := by decide +kernel
theorem d_M_set_57 : decode b_M_set 57 = .ok (.iaload, 1) := by decide +kernel
theorem d_M_set_58 : decode b_M_set 58 = .ok (.iload_n 1, 1) := by decide +kernel
theorem d_M_set_59 : decode b_M_set 59 = .ok (.iconst 1, 1) := by decide +kernel
theorem d_M_set_60 : decode b_M_set 60 = .ok (.iadd, 1) := by decide +kernel
theorem d_M_set_61 : decode b_M_set 61 = .ok (.if_icmp .eq 39, 3) := by decide +kernel
theorem d_M_set_64 : decode b_M_set 64 = .ok (.aload_n 0, 1) := by decide +kernel
theorem d_M_set_65 : decode b_M_set 65 = .ok (.getfield 42, 3) := by decide +kernel
theorem d_M_set_68 : decode b_M_set 68 = .ok (.iload_n 3, 1) := by decide +kernel
theorem d_M_set_69 : decode b_M_set 69 = .ok (.laload, 1) := by decide +kernel
theorem d_M_set_70 : decode b_M_set 70 = .ok (.aload_n 0, 1) := by decide +kernel
theorem d_M_set_71 : decode b_M_set 71 = .ok (.getfield 17, 3) := by decide +kernel
theorem d_M_set_74 : decode b_M_set 74 = .ok (.iload_n 1, 1) := by decide +kernel
theorem d_M_set_75 : decode b_M_set 75 = .ok (.iaload, 1) := by decide +kernel
theorem d_M_set_76 : decode b_M_set 76 = .ok (.invokestatic 75, 3) := by decide +kernel
theorem d_M_set_79 : decode b_M_set 79 = .ok (.ifCond .ne 21, 3) := by decide +kernel
theorem d_M_set_82 : decode b_M_set 82 = .ok (.aload_n 0, 1) := by decide +kernel
theorem d_M_set_83 : decode b_M_set 83 = .ok (.getfield 42, 3) := by decide +kernel
theorem d_M_set_86 : decode b_M_set 86 = .ok (.iload_n 3, 1) := by decide +kernel
theorem d_M_set_87 : decode b_M_set 87 = .ok (.laload, 1) := by decide +kernel
theorem d_M_set_88 : decode b_M_set 88 = .ok (.aload_n 0, 1) := by decide +kernel
theorem d_M_set_89 : decode b_M_set 89 = .ok (.getfield 20, 3) := by decide +kernel
theorem d_M_set_92 : decode b_M_set 92 = .ok (.iload_n 1, 1) := by decide +kernel
theorem d_M_set_93 : decode b_M_set 93 = .ok (.iaload, 1) := by decide +kernel
theorem d_M_set_94 : decode b_M_set 94 = .ok (.invokestatic 75, 3) := by decide +kernel
theorem d_M_set_97 : decode b_M_set 97 = .ok (.ifCond .eq 57, 3) := by decide +kernel
theorem d_M_set_100 : decode b_M_set 100 = .ok (.aload_n 0, 1) := by decide +kernel
theorem d_M_set_101 : decode b_M_set 101 = .ok (.getfield 42, 3) := by decide +kernel
theorem d_M_set_104 : decode b_M_set 104 = .ok (.iload_n 3, 1) := by decide +kernel
theorem d_M_set_105 : decode b_M_set 105 = .ok (.aload_n 0, 1) := by decide +kernel
theorem d_M_set_106 : decode b_M_set 106 = .ok (.aload_n 0, 1) := by decide +kernel
theorem d_M_set_107 : decode b_M_set 107 = .ok (.getfield 39, 3) := by decide +kernel
theorem d_M_set_110 : decode b_M_set 110 = .ok (.iload_n 3, 1) := by decide +kernel
theorem d_M_set_111 : decode b_M_set 111 = .ok (.iaload, 1) := by decide +kernel
theorem d_M_set_112 : decode b_M_set 112 = .ok (.aload_n 0, 1) := by decide +kernel
theorem d_M_set_113 : decode b_M_set 113 = .ok (.getfield 36, 3) := by decide +kernel
theorem d_M_set_116 : decode b_M_set 116 = .ok (.iload_n 3, 1) := by decide +kernel
theorem d_M_set_117 : decode b_M_set 117 = .ok (.iaload, 1) := by decide +kernel
theorem d_M_set_118 : decode b_M_set 118 = .ok (.invokevirtual 86, 3) := by decide +kernel
theorem d_M_set_121 : decode b_M_set 121 = .ok (.lastore, 1) := by decide +kernel
theorem d_M_set_122 : decode b_M_set 122 = .ok (.aload_n 0, 1) := by decide +kernel
theorem d_M_set_123 : decode b_M_set 123 = .ok (.getfield 45, 3) := by decide +kernel
theorem d_M_set_126 : decode b_M_set 126 = .ok (.iload_n 3, 1) := by decide +kernel
theorem d_M_set_127 : decode b_M_set 127 = .ok (.aload_n 0, 1) := by decide +kernel
theorem d_M_set_128 : decode b_M_set 128 = .ok (.aload_n 0, 1) := by decide +kernel
theorem d_M_set_129 : decode b_M_set 129 = .ok (.getfield 42, 3) := by decide +kernel
theorem d_M_set_132 : decode b_M_set 132 = .ok (.iload_n 3, 1) := by decide +kernel
theorem d_M_set_133 : decode b_M_set 133 = .ok (.laload, 1) := by decide +kernel
theorem d_M_set_134 : decode b_M_set 134 = .ok (.aload_n 0, 1) := by decide +kernel
theorem d_M_set_135 : decode b_M_set 135 = .ok (.getfield 36, 3) := by decide +kernel
theorem d_M_set_138 : decode b_M_set 138 = .ok (.iload_n 3, 1) := by decide +kernel
theorem d_M_set_139 : decode b_M_set 139 = .ok (.iaload, 1) := by decide +kernel
theorem d_M_set_140 : decode b_M_set 140 = .ok (.invokevirtual 90, 3) := by decide +kernel
theorem d_M_set_143 : decode b_M_set 143 = .ok (.lastore, 1) := by decide +kernel
theorem d_M_set_144 : decode b_M_set 144 = .ok (.aload_n 0, 1) := by decide +kernel
theorem d_M_set_145 : decode b_M_set 145 = .ok (.dup, 1) := by decide +kernel
theorem d_M_set_146 : decode b_M_set 146 = .ok (.getfield 104, 3) := by decide +kernel
theorem d_M_set_149 : decode b_M_set 149 = .ok (.iconst 1, 1) := by decide +kernel
theorem d_M_set_150 : decode b_M_set 150 = .ok (.iadd, 1) := by decide +kernel
theorem d_M_set_151 : decode b_M_set 151 = .ok (.putfield 104, 3) := by decide +kernel
theorem d_M_set_154 : decode b_M_set 154 = .ok (.iinc 3 1, 3) := by decide +kernel
theorem d_M_set_157 : decode b_M_set 157 = .ok (.goto (-113), 3) := by decide +kernel
theorem d_M_set_160 : decode b_M_set 160 = .ok (.aload_n 0, 1) := by decide +kernel
theorem d_M_set_161 : decode b_M_set 161 = .ok (.getfield 61, 3) := by decide +kernel
theorem d_M_set_164 : decode b_M_set 164 = .ok (.ifCond .le 7, 3) := by decide +kernel
theorem d_M_set_167 : decode b_M_set 167 = .ok (.iconst 1, 1) := by decide +kernel
theorem d_M_set_168 : decode b_M_set 168 = .ok (.goto 4, 3) := by decide +kernel
theorem d_M_set_171 : decode b_M_set 171 = .ok (.iconst 0, 1) := by decide +kernel
theorem d_M_set_172 : decode b_M_set 172 = .ok (.istore_n 3, 1) := by decide +kernel
theorem d_M_set_173 : decode b_M_set 173 = .ok (.iconst 0, 1) := by decide +kernel
theorem d_M_set_174 : decode b_M_set 174 = .ok (.istore 4, 2) := by decide +kernel
theorem d_M_set_176 : decode b_M_set 176 = .ok (.iload 4, 2) := by decide +kernel
theorem d_M_set_178 : decode b_M_set 178 = .ok (.aload_n 0, 1) := by decide +kernel
theorem d_M_set_179 : decode b_M_set 179 = .ok (.getfield 61, 3) := by decide +kernel
theorem d_M_set_182 : decode b_M_set 182 = .ok (.if_icmp .ge 107, 3) := by decide +kernel
theorem d_M_set_185 : decode b_M_set 185 = .ok (.iload_n 3, 1) := by decide +kernel
theorem d_M_set_186 : decode b_M_set 186 = .ok (.ifCond .eq 103, 3) := by decide +kernel
theorem d_M_set_189 : decode b_M_set 189 = .ok (.iload 4, 2) := by decide +kernel
theorem d_M_set_191 : decode b_M_set 191 = .ok (.iconst 1, 1) := by decide +kernel
theorem d_M_set_192 : decode b_M_set 192 = .ok (.iadd, 1) := by decide +kernel
theorem d_M_set_193 : decode b_M_set 193 = .ok (.istore 5, 2) := by decide +kernel
theorem d_M_set_195 : decode b_M_set 195 = .ok (.iload 5, 2) := by decide +kernel
theorem d_M_set_197 : decode b_M_set 197 = .ok (.aload_n 0, 1) := by decide +kernel
theorem d_M_set_198 : decode b_M_set 198 = .ok (.getfield 61, 3) := by decide +kernel
theorem d_M_set_201 : decode b_M_set 201 = .ok (.if_icmp .ge 82, 3) := by decide +kernel
theorem d_M_set_204 : decode b_M_set 204 = .ok (.iload_n 3, 1) := by decide +kernel
theorem d_M_set_205 : decode b_M_set 205 = .ok (.ifCond .eq 78, 3) := by decide +kernel
theorem d_M_set_208 : decode b_M_set 208 = .ok (.aload_n 0, 1) := by decide +kernel
theorem d_M_set_209 : decode b_M_set 209 = .ok (.getfield 36, 3) := by decide +kernel
theorem d_M_set_212 : decode b_M_set 212 = .ok (.iload 4, 2) := by decide +kernel
theorem d_M_set_214 : decode b_M_set 214 = .ok (.iaload, 1) := by decide +kernel
theorem d_M_set_215 : decode b_M_set 215 = .ok (.aload_n 0, 1) := by decide +kernel
theorem d_M_set_216 : decode b_M_set 216 = .ok (.getfield 36, 3) := by decide +kernel
theorem d_M_set_219 : decode b_M_set 219 = .ok (.iload 5, 2) := by decide +kernel
theorem d_M_set_221 : decode b_M_set 221 = .ok (.iaload, 1) := by decide +kernel
theorem d_M_set_222 : decode b_M_set 222 = .ok (.if_icmp .ne 49, 3) := by decide +kernel
theorem d_M_set_225 : decode b_M_set 225 = .ok (.aload_n 0, 1) := by decide +kernel
theorem d_M_set_226 : decode b_M_set 226 = .ok (.getfield 42, 3) := by decide +kernel
theorem d_M_set_229 : decode b_M_set 229 = .ok (.iload 4, 2) := by decide +kernel
theorem d_M_set_231 : decode b_M_set 231 = .ok (.laload, 1) := by decide +kernel
theorem d_M_set_232 : decode b_M_set 232 = .ok (.aload_n 0, 1) := by decide +kernel
theorem d_M_set_233 : decode b_M_set 233 = .ok (.getfield 42, 3) := by decide +kernel
theorem d_M_set_236 : decode b_M_set 236 = .ok (.iload 5, 2) := by decide +kernel
theorem d_M_set_238 : decode b_M_set 238 = .ok (.laload, 1) := by decide +kernel
theorem d_M_set_239 : decode b_M_set 239 = .ok (.land, 1) := by decide +kernel
theorem d_M_set_240 : decode b_M_set 240 = .ok (.lconst 0, 1) := by decide +kernel
theorem d_M_set_241 : decode b_M_set 241 = .ok (.lcmp, 1) := by decide +kernel
theorem d_M_set_242 : decode b_M_set 242 = .ok (.ifCond .eq 29, 3) := by decide +kernel
theorem d_M_set_245 : decode b_M_set 245 = .ok (.aload_n 0, 1) := by decide +kernel
theorem d_M_set_246 : decode b_M_set 246 = .ok (.getfield 33, 3) := by decide +kernel
theorem d_M_set_249 : decode b_M_set 249 = .ok (.bipush 16, 2) := by decide +kernel
theorem d_M_set_251 : decode b_M_set 251 = .ok (.aload_n 0, 1) := by decide +kernel
theorem d_M_set_252 : decode b_M_set 252 = .ok (.getfield 39, 3) := by decide +kernel
theorem d_M_set_255 : decode b_M_set 255 = .ok (.iload 4, 2) := by decide +kernel
theorem d_M_set_257 : decode b_M_set 257 = .ok (.iaload, 1) := by decide +kernel
theorem d_M_set_258 : decode b_M_set 258 = .ok (.imul, 1) := by decide +kernel
theorem d_M_set_259 : decode b_M_set 259 = .ok (.aload_n 0, 1) := by decide +kernel
theorem d_M_set_260 : decode b_M_set 260 = .ok (.getfield 39, 3) := by decide +kernel
theorem d_M_set_263 : decode b_M_set 263 = .ok (.iload 5, 2) := by decide +kernel
theorem d_M_set_265 : decode b_M_set 265 = .ok (.iaload, 1) := by decide +kernel
theorem d_M_set_266 : decode b_M_set 266 = .ok (.iadd, 1) := by decide +kernel
theorem d_M_set_267 : decode b_M_set 267 = .ok (.baload, 1) := by decide +kernel
theorem d_M_set_268 : decode b_M_set 268 = .ok (.ifCond .eq 7, 3) := by decide +kernel
theorem d_M_set_271 : decode b_M_set 271 = .ok (.iconst 1, 1) := by decide +kernel
theorem d_M_set_272 : decode b_M_set 272 = .ok (.goto 4, 3) := by decide +kernel
theorem d_M_set_275 : decode b_M_set 275 = .ok (.iconst 0, 1) := by decide +kernel
theorem d_M_set_276 : decode b_M_set 276 = .ok (.istore_n 3, 1) := by decide +kernel
theorem d_M_set_277 : decode b_M_set 277 = .ok (.iinc 5 1, 3) := by decide +kernel
theorem d_M_set_280 : decode b_M_set 280 = .ok (.goto (-85), 3) := by decide +kernel
theorem d_M_set_283 : decode b_M_set 283 = .ok (.iinc 4 1, 3) := by decide +kernel
theorem d_M_set_286 : decode b_M_set 286 = .ok (.goto (-110), 3) := by decide +kernel
theorem d_M_set_289 : decode b_M_set 289 = .ok (.aload_n 0, 1) := by decide +kernel
theorem d_M_set_290 : decode b_M_set 290 = .ok (.iload_n 3, 1) := by decide +kernel
theorem d_M_set_291 : decode b_M_set 291 = .ok (.ifCond .eq 10, 3) := by decide +kernel
theorem d_M_set_294 : decode b_M_set 294 = .ok (.aload_n 0, 1) := by decide +kernel
theorem d_M_set_295 : decode b_M_set 295 = .ok (.getfield 61, 3) := by decide +kernel
theorem d_M_set_298 : decode b_M_set 298 = .ok (.goto 4, 3) := by decide +kernel
theorem d_M_set_301 : decode b_M_set 301 = .ok (.iconst 0, 1) := by decide +kernel
theorem d_M_set_302 : decode b_M_set 302 = .ok (.putfield 61, 3) := by decide +kernel
theorem d_M_set_305 : decode b_M_set 305 = .ok (.iload_n 3, 1) := by decide +kernel
theorem d_M_set_306 : decode b_M_set 306 = .ok (.ireturn, 1) := by decide +kernel
abbrev b_M_unsure : ByteArray := prog_6_method_22_code
def y_M_unsure : MethodName := ⟨"SeatProofsModel", "unsure", "(IZ)Z"⟩
abbrev w_M_unsure : List Cond := .code y_M_unsure b_M_unsure 3 (some .boolean) :: gT
theorem d_M_unsure_0 : decode b_M_unsure 0 = .ok (.aload_n 0, 1) := by decide +kernel
theorem d_M_unsure_1 : decode b_M_unsure 1 = .ok (.iload_n 1, 1) := by decide +kernel
theorem d_M_unsure_2 : decode b_M_unsure 2 = .ok (.ifCond .lt 11, 3) := by decide +kernel
theorem d_M_unsure_5 : decode b_M_unsure 5 = .ok (.iload_n 1, 1) := by decide +kernel
theorem d_M_unsure_6 : decode b_M_unsure 6 = .ok (.aload_n 0, 1) := by decide +kernel
theorem d_M_unsure_7 : decode b_M_unsure 7 = .ok (.getfield 68, 3) := by decide +kernel
theorem d_M_unsure_10 : decode b_M_unsure 10 = .ok (.if_icmp .lt 7, 3) := by decide +kernel
theorem d_M_unsure_13 : decode b_M_unsure 13 = .ok (.iconst 1, 1) := by decide +kernel
theorem d_M_unsure_14 : decode b_M_unsure 14 = .ok (.goto 4, 3) := by decide +kernel
theorem d_M_unsure_17 : decode b_M_unsure 17 = .ok (.iconst 0, 1) := by decide +kernel
theorem d_M_unsure_18 : decode b_M_unsure 18 = .ok (.putfield 54, 3) := by decide +kernel
theorem d_M_unsure_21 : decode b_M_unsure 21 = .ok (.aload_n 0, 1) := by decide +kernel
theorem d_M_unsure_22 : decode b_M_unsure 22 = .ok (.getfield 54, 3) := by decide +kernel
theorem d_M_unsure_25 : decode b_M_unsure 25 = .ok (.ifCond .gt 13, 3) := by decide +kernel
theorem d_M_unsure_28 : decode b_M_unsure 28 = .ok (.aload_n 0, 1) := by decide +kernel
theorem d_M_unsure_29 : decode b_M_unsure 29 = .ok (.getfield 30, 3) := by decide +kernel
theorem d_M_unsure_32 : decode b_M_unsure 32 = .ok (.iload_n 1, 1) := by decide +kernel
theorem d_M_unsure_33 : decode b_M_unsure 33 = .ok (.baload, 1) := by decide +kernel
theorem d_M_unsure_34 : decode b_M_unsure 34 = .ok (.iload_n 2, 1) := by decide +kernel
theorem d_M_unsure_35 : decode b_M_unsure 35 = .ok (.if_icmp .ne 5, 3) := by decide +kernel
theorem d_M_unsure_38 : decode b_M_unsure 38 = .ok (.iconst 0, 1) := by decide +kernel
theorem d_M_unsure_39 : decode b_M_unsure 39 = .ok (.ireturn, 1) := by decide +kernel
theorem d_M_unsure_40 : decode b_M_unsure 40 = .ok (.aload_n 0, 1) := by decide +kernel
theorem d_M_unsure_41 : decode b_M_unsure 41 = .ok (.getfield 30, 3) := by decide +kernel
theorem d_M_unsure_44 : decode b_M_unsure 44 = .ok (.iload_n 1, 1) := by decide +kernel
theorem d_M_unsure_45 : decode b_M_unsure 45 = .ok (.iload_n 2, 1) := by decide +kernel
theorem d_M_unsure_46 : decode b_M_unsure 46 = .ok (.bastore, 1) := by decide +kernel
theorem d_M_unsure_47 : decode b_M_unsure 47 = .ok (.aload_n 0, 1) := by decide +kernel
theorem d_M_unsure_48 : decode b_M_unsure 48 = .ok (.iconst 0, 1) := by decide +kernel
theorem d_M_unsure_49 : decode b_M_unsure 49 = .ok (.putfield 61, 3) := by decide +kernel
theorem d_M_unsure_52 : decode b_M_unsure 52 = .ok (.iconst 1, 1) := by decide +kernel
theorem d_M_unsure_53 : decode b_M_unsure 53 = .ok (.ireturn, 1) := by decide +kernel
abbrev b_M_tested : ByteArray := prog_6_method_23_code
def y_M_tested : MethodName := ⟨"SeatProofsModel", "tested", "()I"⟩
abbrev w_M_tested : List Cond := .code y_M_tested b_M_tested 1 (some .int) :: gT
theorem d_M_tested_0 : decode b_M_tested 0 = .ok (.aload_n 0, 1) := by decide +kernel
theorem d_M_tested_1 : decode b_M_tested 1 = .ok (.iconst 0, 1) := by decide +kernel
theorem d_M_tested_2 : decode b_M_tested 2 = .ok (.putfield 54, 3) := by decide +kernel
theorem d_M_tested_5 : decode b_M_tested 5 = .ok (.aload_n 0, 1) := by decide +kernel
theorem d_M_tested_6 : decode b_M_tested 6 = .ok (.getfield 104, 3) := by decide +kernel
theorem d_M_tested_9 : decode b_M_tested 9 = .ok (.ireturn, 1) := by decide +kernel
abbrev b_M_drop : ByteArray := prog_6_method_24_code
def y_M_drop : MethodName := ⟨"SeatProofsModel", "drop", "(I)Z"⟩
abbrev w_M_drop : List Cond := .code y_M_drop b_M_drop 3 (some .boolean) :: gT
theorem d_M_drop_0 : decode b_M_drop 0 = .ok (.aload_n 0, 1) := by decide +kernel
theorem d_M_drop_1 : decode b_M_drop 1 = .ok (.iconst 0, 1) := by decide +kernel
theorem d_M_drop_2 : decode b_M_drop 2 = .ok (.putfield 54, 3) := by decide +kernel
theorem d_M_drop_5 : decode b_M_drop 5 = .ok (.iload_n 1, 1) := by decide +kernel
theorem d_M_drop_6 : decode b_M_drop 6 = .ok (.ifCond .lt 11, 3) := by decide +kernel
theorem d_M_drop_9 : decode b_M_drop 9 = .ok (.iload_n 1, 1) := by decide +kernel
theorem d_M_drop_10 : decode b_M_drop 10 = .ok (.aload_n 0, 1) := by decide +kernel
theorem d_M_drop_11 : decode b_M_drop 11 = .ok (.getfield 61, 3) := by decide +kernel
theorem d_M_drop_14 : decode b_M_drop 14 = .ok (.if_icmp .lt 5, 3) := by decide +kernel
theorem d_M_drop_17 : decode b_M_drop 17 = .ok (.iconst 0, 1) := by decide +kernel
theorem d_M_drop_18 : decode b_M_drop 18 = .ok (.ireturn, 1) := by decide +kernel
theorem d_M_drop_19 : decode b_M_drop 19 = .ok (.iload_n 1, 1) := by decide +kernel
theorem d_M_drop_20 : decode b_M_drop 20 = .ok (.istore_n 2, 1) := by decide +kernel
theorem d_M_drop_21 : decode b_M_drop 21 = .ok (.iload_n 2, 1) := by decide +kernel
theorem d_M_drop_22 : decode b_M_drop 22 = .ok (.iconst 1, 1) := by decide +kernel
theorem d_M_drop_23 : decode b_M_drop 23 = .ok (.iadd, 1) := by decide +kernel
theorem d_M_drop_24 : decode b_M_drop 24 = .ok (.aload_n 0, 1) := by decide +kernel
theorem d_M_drop_25 : decode b_M_drop 25 = .ok (.getfield 61, 3) := by decide +kernel
theorem d_M_drop_28 : decode b_M_drop 28 = .ok (.if_icmp .ge 65, 3) := by decide +kernel
theorem d_M_drop_31 : decode b_M_drop 31 = .ok (.aload_n 0, 1) := by decide +kernel
theorem d_M_drop_32 : decode b_M_drop 32 = .ok (.getfield 36, 3) := by decide +kernel
theorem d_M_drop_35 : decode b_M_drop 35 = .ok (.iload_n 2, 1) := by decide +kernel
theorem d_M_drop_36 : decode b_M_drop 36 = .ok (.aload_n 0, 1) := by decide +kernel
theorem d_M_drop_37 : decode b_M_drop 37 = .ok (.getfield 36, 3) := by decide +kernel
theorem d_M_drop_40 : decode b_M_drop 40 = .ok (.iload_n 2, 1) := by decide +kernel
theorem d_M_drop_41 : decode b_M_drop 41 = .ok (.iconst 1, 1) := by decide +kernel
theorem d_M_drop_42 : decode b_M_drop 42 = .ok (.iadd, 1) := by decide +kernel
theorem d_M_drop_43 : decode b_M_drop 43 = .ok (.iaload, 1) := by decide +kernel
theorem d_M_drop_44 : decode b_M_drop 44 = .ok (.iastore, 1) := by decide +kernel
theorem d_M_drop_45 : decode b_M_drop 45 = .ok (.aload_n 0, 1) := by decide +kernel
theorem d_M_drop_46 : decode b_M_drop 46 = .ok (.getfield 39, 3) := by decide +kernel
theorem d_M_drop_49 : decode b_M_drop 49 = .ok (.iload_n 2, 1) := by decide +kernel
theorem d_M_drop_50 : decode b_M_drop 50 = .ok (.aload_n 0, 1) := by decide +kernel
theorem d_M_drop_51 : decode b_M_drop 51 = .ok (.getfield 39, 3) := by decide +kernel
theorem d_M_drop_54 : decode b_M_drop 54 = .ok (.iload_n 2, 1) := by decide +kernel
theorem d_M_drop_55 : decode b_M_drop 55 = .ok (.iconst 1, 1) := by decide +kernel
theorem d_M_drop_56 : decode b_M_drop 56 = .ok (.iadd, 1) := by decide +kernel
theorem d_M_drop_57 : decode b_M_drop 57 = .ok (.iaload, 1) := by decide +kernel
theorem d_M_drop_58 : decode b_M_drop 58 = .ok (.iastore, 1) := by decide +kernel
theorem d_M_drop_59 : decode b_M_drop 59 = .ok (.aload_n 0, 1) := by decide +kernel
theorem d_M_drop_60 : decode b_M_drop 60 = .ok (.getfield 42, 3) := by decide +kernel
theorem d_M_drop_63 : decode b_M_drop 63 = .ok (.iload_n 2, 1) := by decide +kernel
theorem d_M_drop_64 : decode b_M_drop 64 = .ok (.aload_n 0, 1) := by decide +kernel
theorem d_M_drop_65 : decode b_M_drop 65 = .ok (.getfield 42, 3) := by decide +kernel
theorem d_M_drop_68 : decode b_M_drop 68 = .ok (.iload_n 2, 1) := by decide +kernel
theorem d_M_drop_69 : decode b_M_drop 69 = .ok (.iconst 1, 1) := by decide +kernel
theorem d_M_drop_70 : decode b_M_drop 70 = .ok (.iadd, 1) := by decide +kernel
theorem d_M_drop_71 : decode b_M_drop 71 = .ok (.laload, 1) := by decide +kernel
theorem d_M_drop_72 : decode b_M_drop 72 = .ok (.lastore, 1) := by decide +kernel
theorem d_M_drop_73 : decode b_M_drop 73 = .ok (.aload_n 0, 1) := by decide +kernel
theorem d_M_drop_74 : decode b_M_drop 74 = .ok (.getfield 45, 3) := by decide +kernel
theorem d_M_drop_77 : decode b_M_drop 77 = .ok (.iload_n 2, 1) := by decide +kernel
theorem d_M_drop_78 : decode b_M_drop 78 = .ok (.aload_n 0, 1) := by decide +kernel
theorem d_M_drop_79 : decode b_M_drop 79 = .ok (.getfield 45, 3) := by decide +kernel
theorem d_M_drop_82 : decode b_M_drop 82 = .ok (.iload_n 2, 1) := by decide +kernel
theorem d_M_drop_83 : decode b_M_drop 83 = .ok (.iconst 1, 1) := by decide +kernel
theorem d_M_drop_84 : decode b_M_drop 84 = .ok (.iadd, 1) := by decide +kernel
theorem d_M_drop_85 : decode b_M_drop 85 = .ok (.laload, 1) := by decide +kernel
theorem d_M_drop_86 : decode b_M_drop 86 = .ok (.lastore, 1) := by decide +kernel
theorem d_M_drop_87 : decode b_M_drop 87 = .ok (.iinc 2 1, 3) := by decide +kernel
theorem d_M_drop_90 : decode b_M_drop 90 = .ok (.goto (-69), 3) := by decide +kernel
theorem d_M_drop_93 : decode b_M_drop 93 = .ok (.aload_n 0, 1) := by decide +kernel
theorem d_M_drop_94 : decode b_M_drop 94 = .ok (.dup, 1) := by decide +kernel
theorem d_M_drop_95 : decode b_M_drop 95 = .ok (.getfield 61, 3) := by decide +kernel
theorem d_M_drop_98 : decode b_M_drop 98 = .ok (.iconst 1, 1) := by decide +kernel
theorem d_M_drop_99 : decode b_M_drop 99 = .ok (.isub, 1) := by decide +kernel
theorem d_M_drop_100 : decode b_M_drop 100 = .ok (.putfield 61, 3) := by decide +kernel
theorem d_M_drop_103 : decode b_M_drop 103 = .ok (.iconst 1, 1) := by decide +kernel
theorem d_M_drop_104 : decode b_M_drop 104 = .ok (.ireturn, 1) := by decide +kernel
abbrev b_M_clear : ByteArray := prog_6_method_25_code
def y_M_clear : MethodName := ⟨"SeatProofsModel", "clear", "()V"⟩
abbrev w_M_clear : List Cond := .code y_M_clear b_M_clear 2 none :: gT
theorem d_M_clear_0 : decode b_M_clear 0 = .ok (.aload_n 0, 1) := by decide +kernel
theorem d_M_clear_1 : decode b_M_clear 1 = .ok (.iconst 0, 1) := by decide +kernel
theorem d_M_clear_2 : decode b_M_clear 2 = .ok (.putfield 54, 3) := by decide +kernel
theorem d_M_clear_5 : decode b_M_clear 5 = .ok (.iconst 0, 1) := by decide +kernel
theorem d_M_clear_6 : decode b_M_clear 6 = .ok (.istore_n 1, 1) := by decide +kernel
theorem d_M_clear_7 : decode b_M_clear 7 = .ok (.iload_n 1, 1) := by decide +kernel
theorem d_M_clear_8 : decode b_M_clear 8 = .ok (.sipush 256, 3) := by decide +kernel
theorem d_M_clear_11 : decode b_M_clear 11 = .ok (.if_icmp .ge 16, 3) := by decide +kernel
theorem d_M_clear_14 : decode b_M_clear 14 = .ok (.aload_n 0, 1) := by decide +kernel
theorem d_M_clear_15 : decode b_M_clear 15 = .ok (.getfield 33, 3) := by decide +kernel
theorem d_M_clear_18 : decode b_M_clear 18 = .ok (.iload_n 1, 1) := by decide +kernel
theorem d_M_clear_19 : decode b_M_clear 19 = .ok (.iconst 0, 1) := by decide +kernel
theorem d_M_clear_20 : decode b_M_clear 20 = .ok (.bastore, 1) := by decide +kernel
theorem d_M_clear_21 : decode b_M_clear 21 = .ok (.iinc 1 1, 3) := by decide +kernel
theorem d_M_clear_24 : decode b_M_clear 24 = .ok (.goto (-17), 3) := by decide +kernel
theorem d_M_clear_27 : decode b_M_clear 27 = .ok (.aload_n 0, 1) := by decide +kernel
theorem d_M_clear_28 : decode b_M_clear 28 = .ok (.iconst 0, 1) := by decide +kernel
theorem d_M_clear_29 : decode b_M_clear 29 = .ok (.putfield 58, 3) := by decide +kernel
theorem d_M_clear_32 : decode b_M_clear 32 = .ok (.aload_n 0, 1) := by decide +kernel
theorem d_M_clear_33 : decode b_M_clear 33 = .ok (.iconst 0, 1) := by decide +kernel
theorem d_M_clear_34 : decode b_M_clear 34 = .ok (.putfield 68, 3) := by decide +kernel
theorem d_M_clear_37 : decode b_M_clear 37 = .ok (.aload_n 0, 1) := by decide +kernel
theorem d_M_clear_38 : decode b_M_clear 38 = .ok (.iconst 0, 1) := by decide +kernel
theorem d_M_clear_39 : decode b_M_clear 39 = .ok (.putfield 61, 3) := by decide +kernel
theorem d_M_clear_42 : decode b_M_clear 42 = .ok (.aload_n 0, 1) := by decide +kernel
theorem d_M_clear_43 : decode b_M_clear 43 = .ok (.iconst 0, 1) := by decide +kernel
theorem d_M_clear_44 : decode b_M_clear 44 = .ok (.putfield 79, 3) := by decide +kernel
theorem d_M_clear_47 : decode b_M_clear 47 = .ok (.aload_n 0, 1) := by decide +kernel
theorem d_M_clear_48 : decode b_M_clear 48 = .ok (.iconst 0, 1) := by decide +kernel
theorem d_M_clear_49 : decode b_M_clear 49 = .ok (.putfield 104, 3) := by decide +kernel
theorem d_M_clear_52 : decode b_M_clear 52 = .ok (.return_, 1) := by decide +kernel
theorem gg_M_init : GoodIn gT w_M_init := good_c iw_438
theorem gg_M_space : GoodIn gT w_M_space := good_c iw_505
theorem gg_M_isSpace : GoodIn gT w_M_isSpace := good_c iw_513
theorem gg_M_valve : GoodIn gT w_M_valve := good_c iw_509
theorem gg_M_level : GoodIn gT w_M_level := good_c iw_517
theorem gg_M_may : GoodIn gT w_M_may := good_c iw_521
theorem gg_M_lets : GoodIn gT w_M_lets := good_c iw_537
theorem gg_M_flood : GoodIn gT w_M_flood := good_c iw_533
theorem gg_M_has : GoodIn gT w_M_has := good_c iw_544
theorem gg_M_cut : GoodIn gT w_M_cut := good_c iw_541
theorem gg_M_isThere : GoodIn gT w_M_isThere := good_c iw_529
theorem gg_M_meet : GoodIn gT w_M_meet := good_c iw_548
theorem gg_M_safe : GoodIn gT w_M_safe := good_c iw_525
theorem gg_M_culprit : GoodIn gT w_M_culprit := good_c iw_552
theorem gg_M_rows : GoodIn gT w_M_rows := good_c iw_556
theorem gg_M_size : GoodIn gT w_M_size := good_c iw_563
theorem gg_M_row : GoodIn gT w_M_row := good_c iw_560
theorem gg_M_isRight : GoodIn gT w_M_isRight := good_c iw_571
theorem gg_M_check : GoodIn gT w_M_check := good_c iw_567
theorem gg_M_set : GoodIn gT w_M_set := good_c iw_575
theorem gg_M_unsure : GoodIn gT w_M_unsure := good_c iw_579
theorem gg_M_tested : GoodIn gT w_M_tested := good_c iw_583
theorem gg_M_drop : GoodIn gT w_M_drop := good_c iw_587
theorem gg_M_clear : GoodIn gT w_M_clear := good_c iw_591
