def F_P : u_T := fun k => match k with
  | 0 => ("SeatProofs$Plant", "spaces", "I", false)
  | 1 => ("SeatProofs$Plant", "valves", "I", false)
  | 2 => ("SeatProofs$Plant", "levels", "[J", true)
  | 3 => ("SeatProofs$Plant", "sources", "[J", true)
  | 4 => ("SeatProofs$Plant", "friends", "[I", true)
  | 5 => ("SeatProofs$Plant", "oneEnd", "[I", true)
  | 6 => ("SeatProofs$Plant", "otherEnd", "[I", true)
  | 7 => ("SeatProofs$Plant", "openValves", "J", false)
  | 8 => ("SeatProofs$Plant", "unsureValves", "J", false)
  | 9 => ("SeatProofs$Plant", "doubleValves", "J", false)
  | 10 => ("SeatProofs$Plant", "ends", "[J", true)
  | _ => ("SeatProofs$Plant", "falls", "[J", true)
def t_P : Nat → FieldType := fun k => match k with
  | 0 => .int
  | 1 => .int
  | 2 => .array .long
  | 3 => .array .long
  | 4 => .array .int
  | 5 => .array .int
  | 6 => .array .int
  | 7 => .long
  | 8 => .long
  | 9 => .long
  | 10 => .array .long
  | _ => .array .long
theorem n_P : ∀ a, a < 12 → ∀ b, b < 12 → a ≠ b → (F_P a).2.1 ≠ (F_P b).2.1 := by decide +kernel
theorem t_P_ok : ∀ k, k < 12 → parseFieldDescriptor (F_P k).2.2.1 = some (t_P k) := by decide +kernel
def F_F : u_T := fun k => match k with
  | 0 => ("SeatProofs$Flow", "plant", "LSeatProofs$Plant;", true)
  | 1 => ("SeatProofs$Flow", "letting", "J", false)
  | 2 => ("SeatProofs$Flow", "ways", "[J", true)
  | _ => ("SeatProofs$Flow", "floods", "[J", true)
def t_F : Nat → FieldType := fun k => match k with
  | 0 => .object "SeatProofs$Plant"
  | 1 => .long
  | 2 => .array .long
  | _ => .array .long
theorem n_F : ∀ a, a < 4 → ∀ b, b < 4 → a ≠ b → (F_F a).2.1 ≠ (F_F b).2.1 := by decide +kernel
theorem t_F_ok : ∀ k, k < 4 → parseFieldDescriptor (F_F k).2.2.1 = some (t_F k) := by decide +kernel
def F_Q : u_T := fun k => match k with
  | 0 => ("SeatProofs$Proof", "count", "I", false)
  | 1 => ("SeatProofs$Proof", "failure", "[I", true)
  | 2 => ("SeatProofs$Proof", "liquid", "[I", true)
  | 3 => ("SeatProofs$Proof", "flood", "[J", true)
  | _ => ("SeatProofs$Proof", "cut", "[J", true)
def t_Q : Nat → FieldType := fun k => match k with
  | 0 => .int
  | 1 => .array .int
  | 2 => .array .int
  | 3 => .array .long
  | _ => .array .long
theorem n_Q : ∀ a, a < 5 → ∀ b, b < 5 → a ≠ b → (F_Q a).2.1 ≠ (F_Q b).2.1 := by decide +kernel
theorem t_Q_ok : ∀ k, k < 5 → parseFieldDescriptor (F_Q k).2.2.1 = some (t_Q k) := by decide +kernel
def F_S : u_T := fun k => match k with
  | 0 => ("SeatProofs", "plant", "LSeatProofs$Plant;", true)
  | 1 => ("SeatProofs", "flow", "LSeatProofs$Flow;", true)
  | 2 => ("SeatProofs", "proof", "LSeatProofs$Proof;", true)
  | 3 => ("SeatProofs", "found", "[I", true)
  | 4 => ("SeatProofs", "foundUnsafe", "Z", false)
  | _ => ("SeatProofs", "remade", "I", false)
def t_S : Nat → FieldType := fun k => match k with
  | 0 => .object "SeatProofs$Plant"
  | 1 => .object "SeatProofs$Flow"
  | 2 => .object "SeatProofs$Proof"
  | 3 => .array .int
  | 4 => .boolean
  | _ => .int
theorem n_S : ∀ a, a < 6 → ∀ b, b < 6 → a ≠ b → (F_S a).2.1 ≠ (F_S b).2.1 := by decide +kernel
theorem t_S_ok : ∀ k, k < 6 → parseFieldDescriptor (F_S k).2.2.1 = some (t_S k) := by decide +kernel
def F_M : u_T := fun k => match k with
  | 0 => ("SeatProofsModel", "liquids", "[I", true)
  | 1 => ("SeatProofsModel", "levels", "[J", true)
  | 2 => ("SeatProofsModel", "spaces", "I", false)
  | 3 => ("SeatProofsModel", "firsts", "[I", true)
  | 4 => ("SeatProofsModel", "seconds", "[I", true)
  | 5 => ("SeatProofsModel", "seats", "[I", true)
  | 6 => ("SeatProofsModel", "opens", "[Z", true)
  | 7 => ("SeatProofsModel", "doubts", "[Z", true)
  | 8 => ("SeatProofsModel", "valves", "I", false)
  | 9 => ("SeatProofsModel", "mays", "[Z", true)
  | 10 => ("SeatProofsModel", "rows", "I", false)
  | 11 => ("SeatProofsModel", "failures", "[I", true)
  | 12 => ("SeatProofsModel", "of", "[I", true)
  | 13 => ("SeatProofsModel", "floods", "[J", true)
  | 14 => ("SeatProofsModel", "cuts", "[J", true)
  | 15 => ("SeatProofsModel", "culprit", "[I", true)
  | 16 => ("SeatProofsModel", "guilty", "Z", false)
  | 17 => ("SeatProofsModel", "tested", "I", false)
  | 18 => ("SeatProofsModel", "thrown", "I", false)
  | _ => ("SeatProofsModel", "wet", "[Z", true)
def t_M : Nat → FieldType := fun k => match k with
  | 0 => .array .int
  | 1 => .array .long
  | 2 => .int
  | 3 => .array .int
  | 4 => .array .int
  | 5 => .array .int
  | 6 => .array .boolean
  | 7 => .array .boolean
  | 8 => .int
  | 9 => .array .boolean
  | 10 => .int
  | 11 => .array .int
  | 12 => .array .int
  | 13 => .array .long
  | 14 => .array .long
  | 15 => .array .int
  | 16 => .boolean
  | 17 => .int
  | 18 => .int
  | _ => .array .boolean
theorem n_M : ∀ a, a < 20 → ∀ b, b < 20 → a ≠ b → (F_M a).2.1 ≠ (F_M b).2.1 := by decide +kernel
theorem t_M_ok : ∀ k, k < 20 → parseFieldDescriptor (F_M k).2.2.1 = some (t_M k) := by decide +kernel
def F_Io : u_T := fun k => match k with
  | 0 => ("java/lang/Throwable", "cause", "Ljava/lang/Throwable;", false)
  | 1 => ("java/lang/Throwable", "stackTrace", "[Ljava/lang/StackTraceElement;", false)
  | 2 => ("java/lang/Throwable", "suppressedExceptions", "Ljava/util/List;", false)
  | 3 => ("java/lang/Throwable", "detailMessage", "Ljava/lang/String;", false)
  | 4 => ("java/lang/Throwable", "backtrace", "Ljava/lang/Object;", false)
  | _ => ("java/lang/Throwable", "depth", "I", false)
def t_Io : Nat → FieldType := fun k => match k with
  | 0 => .object "java/lang/Throwable"
  | 1 => .array (.object "java/lang/StackTraceElement")
  | 2 => .object "java/util/List"
  | 3 => .object "java/lang/String"
  | 4 => .object "java/lang/Object"
  | _ => .int
theorem n_Io : ∀ a, a < 6 → ∀ b, b < 6 → a ≠ b → (F_Io a).2.1 ≠ (F_Io b).2.1 := by decide +kernel
theorem t_Io_ok : ∀ k, k < 6 → parseFieldDescriptor (F_Io k).2.2.1 = some (t_Io k) := by decide +kernel
abbrev vwCl : List vw_C := [("SeatProofs$Plant", F_P, 12), ("SeatProofs$Flow", F_F, 4), ("SeatProofs$Proof", F_Q, 5), ("SeatProofs", F_S, 6), ("SeatProofsModel", F_M, 20), ("java/lang/IndexOutOfBoundsException", F_Io, 6)]
theorem tq_0 : ∀ w ∈ k2_sels lw_privs, w ∈ lw_tbl := fun w h => List.mem_append_left _ h
theorem tq_1 : ∀ w ∈ tables_1_1, w ∈ lw_tbl := fun w h => List.mem_append_right _ (show w ∈ tables_1 from (List.mem_append_left _ h))
theorem tq_2 : ∀ w ∈ tables_1_2, w ∈ lw_tbl := fun w h => List.mem_append_right _ (show w ∈ tables_1 from (List.mem_append_right _ (List.mem_append_left _ h)))
theorem tq_3 : ∀ w ∈ tables_1_3, w ∈ lw_tbl := fun w h => List.mem_append_right _ (show w ∈ tables_1 from (List.mem_append_right _ (List.mem_append_right _ h)))
theorem iw_0 : (Jvm.Cond.initialized "SeatProofsLaw") ∈ gT := mem_gT2 (tq_1 _ (List.mem_of_getElem? (i := 0) rfl)) rfl
theorem iw_1 : (Jvm.Cond.initialized "SeatProofs") ∈ gT := mem_gT2 (tq_1 _ (List.mem_of_getElem? (i := 1) rfl)) rfl
theorem iw_2 : (Jvm.Cond.initialized "SeatProofs$Plant") ∈ gT := mem_gT2 (tq_1 _ (List.mem_of_getElem? (i := 2) rfl)) rfl
theorem iw_3 : (Jvm.Cond.initialized "SeatProofs$Flow") ∈ gT := mem_gT2 (tq_1 _ (List.mem_of_getElem? (i := 3) rfl)) rfl
theorem iw_4 : (Jvm.Cond.initialized "SeatProofs$Proof") ∈ gT := mem_gT2 (tq_1 _ (List.mem_of_getElem? (i := 4) rfl)) rfl
theorem iw_5 : (Jvm.Cond.initialized "SeatProofsModel") ∈ gT := mem_gT2 (tq_1 _ (List.mem_of_getElem? (i := 5) rfl)) rfl
theorem iw_6 : (Jvm.Cond.initialized "java/lang/Long") ∈ gT := mem_gT2 (tq_1 _ (List.mem_of_getElem? (i := 6) rfl)) rfl
theorem iw_10 : (Jvm.Cond.initialized "java/lang/IndexOutOfBoundsException") ∈ gT := mem_gT2 (tq_1 _ (List.mem_of_getElem? (i := 10) rfl)) rfl
theorem iw_11 : (Jvm.Cond.initialized "java/lang/System") ∈ gT := mem_gT2 (tq_1 _ (List.mem_of_getElem? (i := 11) rfl)) rfl
theorem iw_12 : (Jvm.Cond.classLink "SeatProofsLaw" (8 : Nat) "SeatProofs") ∈ gT := mem_gT2 (tq_1 _ (List.mem_of_getElem? (i := 12) rfl)) rfl
theorem iw_13 : (Jvm.Cond.instantiable "SeatProofs" (6 : Nat)) ∈ gT := mem_gT2 (tq_1 _ (List.mem_of_getElem? (i := 13) rfl)) rfl
theorem iw_14 : (Jvm.Cond.methodLink "SeatProofsLaw" (18 : Nat) ({ cls := "SeatProofs", name := "<init>", desc := "()V" } : Jvm.MethodName)) ∈ gT := mem_gT2 (tq_1 _ (List.mem_of_getElem? (i := 14) rfl)) rfl
theorem iw_15 : (Jvm.Cond.instanceMethod ({ cls := "SeatProofs", name := "<init>", desc := "()V" } : Jvm.MethodName)) ∈ gT := mem_gT2 (tq_1 _ (List.mem_of_getElem? (i := 15) rfl)) rfl
theorem iw_16 : (Jvm.Cond.code ({ cls := "SeatProofs", name := "<init>", desc := "()V" } : Jvm.MethodName) prog_1_method_1_code (1 : Nat) (Option.none : Option Jvm.ClassFile.FieldType)) ∈ gT := mem_gT2 (tq_1 _ (List.mem_of_getElem? (i := 16) rfl)) rfl
theorem iw_17 : (Jvm.Cond.methodLink "SeatProofs" (3 : Nat) ({ cls := "java/lang/Object", name := "<init>", desc := "()V" } : Jvm.MethodName)) ∈ gT := mem_gT2 (tq_1 _ (List.mem_of_getElem? (i := 17) rfl)) rfl
theorem iw_18 : (Jvm.Cond.instanceMethod ({ cls := "java/lang/Object", name := "<init>", desc := "()V" } : Jvm.MethodName)) ∈ gT := mem_gT2 (tq_1 _ (List.mem_of_getElem? (i := 18) rfl)) rfl
theorem iw_19 : (Jvm.Cond.code ({ cls := "java/lang/Object", name := "<init>", desc := "()V" } : Jvm.MethodName) object_method_1_code (1 : Nat) (Option.none : Option Jvm.ClassFile.FieldType)) ∈ gT := mem_gT2 (tq_1 _ (List.mem_of_getElem? (i := 19) rfl)) rfl
theorem iw_20 : (Jvm.Cond.classLink "SeatProofs" (9 : Nat) "SeatProofs$Plant") ∈ gT := mem_gT2 (tq_1 _ (List.mem_of_getElem? (i := 20) rfl)) rfl
theorem iw_21 : (Jvm.Cond.instantiable "SeatProofs$Plant" (12 : Nat)) ∈ gT := mem_gT2 (tq_1 _ (List.mem_of_getElem? (i := 21) rfl)) rfl
theorem in_22 : (Jvm.Cond.methodLinkNest "SeatProofs" (11 : Nat) ({ cls := "SeatProofs$Plant", name := "<init>", desc := "()V" } : Jvm.MethodName) "SeatProofs") ∈ nT := mem_nT2 (tq_1 _ (List.mem_of_getElem? (i := 22) rfl)) rfl
theorem iw_23 : (Jvm.Cond.instanceMethod ({ cls := "SeatProofs$Plant", name := "<init>", desc := "()V" } : Jvm.MethodName)) ∈ gT := mem_gT2 (tq_1 _ (List.mem_of_getElem? (i := 23) rfl)) rfl
theorem iw_24 : (Jvm.Cond.code ({ cls := "SeatProofs$Plant", name := "<init>", desc := "()V" } : Jvm.MethodName) prog_3_method_1_code (1 : Nat) (Option.none : Option Jvm.ClassFile.FieldType)) ∈ gT := mem_gT2 (tq_1 _ (List.mem_of_getElem? (i := 24) rfl)) rfl
theorem iw_25 : (Jvm.Cond.methodLink "SeatProofs$Plant" (3 : Nat) ({ cls := "java/lang/Object", name := "<init>", desc := "()V" } : Jvm.MethodName)) ∈ gT := mem_gT2 (tq_1 _ (List.mem_of_getElem? (i := 25) rfl)) rfl
theorem iw_26 : (Jvm.Cond.fieldLink "SeatProofs$Plant" (34 : Nat) "SeatProofs$Plant" "spaces" "I") ∈ gT := mem_gT2 (tq_1 _ (List.mem_of_getElem? (i := 26) rfl)) rfl
theorem in_27 : (Jvm.Cond.fieldLinkNest "SeatProofs" (44 : Nat) "SeatProofs$Plant" "spaces" "I" "SeatProofs") ∈ nT := mem_nT2 (tq_1 _ (List.mem_of_getElem? (i := 27) rfl)) rfl
theorem in_28 : (Jvm.Cond.fieldLinkNest "SeatProofs$Flow" (31 : Nat) "SeatProofs$Plant" "spaces" "I" "SeatProofs") ∈ nT := mem_nT2 (tq_1 _ (List.mem_of_getElem? (i := 28) rfl)) rfl
theorem iw_29 : (Jvm.Cond.fieldLink "SeatProofs$Plant" (38 : Nat) "SeatProofs$Plant" "valves" "I") ∈ gT := mem_gT2 (tq_1 _ (List.mem_of_getElem? (i := 29) rfl)) rfl
theorem in_30 : (Jvm.Cond.fieldLinkNest "SeatProofs$Flow" (35 : Nat) "SeatProofs$Plant" "valves" "I" "SeatProofs") ∈ nT := mem_nT2 (tq_1 _ (List.mem_of_getElem? (i := 30) rfl)) rfl
theorem in_31 : (Jvm.Cond.fieldLinkNest "SeatProofs" (58 : Nat) "SeatProofs$Plant" "valves" "I" "SeatProofs") ∈ nT := mem_nT2 (tq_1 _ (List.mem_of_getElem? (i := 31) rfl)) rfl
theorem iw_32 : (Jvm.Cond.fieldLink "SeatProofs$Plant" (9 : Nat) "SeatProofs$Plant" "levels" "[J") ∈ gT := mem_gT2 (tq_1 _ (List.mem_of_getElem? (i := 32) rfl)) rfl
theorem iw_33 : (Jvm.Cond.fieldLink "SeatProofs$Plant" (15 : Nat) "SeatProofs$Plant" "sources" "[J") ∈ gT := mem_gT2 (tq_1 _ (List.mem_of_getElem? (i := 33) rfl)) rfl
theorem in_34 : (Jvm.Cond.fieldLinkNest "SeatProofs$Flow" (62 : Nat) "SeatProofs$Plant" "sources" "[J" "SeatProofs") ∈ nT := mem_nT2 (tq_1 _ (List.mem_of_getElem? (i := 34) rfl)) rfl
theorem iw_35 : (Jvm.Cond.fieldLink "SeatProofs$Plant" (18 : Nat) "SeatProofs$Plant" "friends" "[I") ∈ gT := mem_gT2 (tq_1 _ (List.mem_of_getElem? (i := 35) rfl)) rfl
theorem iw_36 : (Jvm.Cond.fieldLink "SeatProofs$Plant" (22 : Nat) "SeatProofs$Plant" "oneEnd" "[I") ∈ gT := mem_gT2 (tq_1 _ (List.mem_of_getElem? (i := 36) rfl)) rfl
theorem in_37 : (Jvm.Cond.fieldLinkNest "SeatProofs$Flow" (42 : Nat) "SeatProofs$Plant" "oneEnd" "[I" "SeatProofs") ∈ nT := mem_nT2 (tq_1 _ (List.mem_of_getElem? (i := 37) rfl)) rfl
theorem in_38 : (Jvm.Cond.fieldLinkNest "SeatProofs" (198 : Nat) "SeatProofs$Plant" "oneEnd" "[I" "SeatProofs") ∈ nT := mem_nT2 (tq_1 _ (List.mem_of_getElem? (i := 38) rfl)) rfl
theorem iw_39 : (Jvm.Cond.fieldLink "SeatProofs$Plant" (25 : Nat) "SeatProofs$Plant" "otherEnd" "[I") ∈ gT := mem_gT2 (tq_1 _ (List.mem_of_getElem? (i := 39) rfl)) rfl
theorem in_40 : (Jvm.Cond.fieldLinkNest "SeatProofs$Flow" (46 : Nat) "SeatProofs$Plant" "otherEnd" "[I" "SeatProofs") ∈ nT := mem_nT2 (tq_1 _ (List.mem_of_getElem? (i := 40) rfl)) rfl
theorem in_41 : (Jvm.Cond.fieldLinkNest "SeatProofs" (201 : Nat) "SeatProofs$Plant" "otherEnd" "[I" "SeatProofs") ∈ nT := mem_nT2 (tq_1 _ (List.mem_of_getElem? (i := 41) rfl)) rfl
theorem iw_42 : (Jvm.Cond.fieldLink "SeatProofs$Plant" (41 : Nat) "SeatProofs$Plant" "openValves" "J") ∈ gT := mem_gT2 (tq_1 _ (List.mem_of_getElem? (i := 42) rfl)) rfl
theorem iw_43 : (Jvm.Cond.fieldLink "SeatProofs$Plant" (45 : Nat) "SeatProofs$Plant" "unsureValves" "J") ∈ gT := mem_gT2 (tq_1 _ (List.mem_of_getElem? (i := 43) rfl)) rfl
theorem in_44 : (Jvm.Cond.fieldLinkNest "SeatProofs" (157 : Nat) "SeatProofs$Plant" "unsureValves" "J" "SeatProofs") ∈ nT := mem_nT2 (tq_1 _ (List.mem_of_getElem? (i := 44) rfl)) rfl
theorem iw_45 : (Jvm.Cond.fieldLink "SeatProofs$Plant" (48 : Nat) "SeatProofs$Plant" "doubleValves" "J") ∈ gT := mem_gT2 (tq_1 _ (List.mem_of_getElem? (i := 45) rfl)) rfl
theorem iw_46 : (Jvm.Cond.fieldLink "SeatProofs$Plant" (28 : Nat) "SeatProofs$Plant" "ends" "[J") ∈ gT := mem_gT2 (tq_1 _ (List.mem_of_getElem? (i := 46) rfl)) rfl
theorem in_47 : (Jvm.Cond.fieldLinkNest "SeatProofs$Flow" (71 : Nat) "SeatProofs$Plant" "ends" "[J" "SeatProofs") ∈ nT := mem_nT2 (tq_1 _ (List.mem_of_getElem? (i := 47) rfl)) rfl
theorem iw_48 : (Jvm.Cond.fieldLink "SeatProofs$Plant" (31 : Nat) "SeatProofs$Plant" "falls" "[J") ∈ gT := mem_gT2 (tq_1 _ (List.mem_of_getElem? (i := 48) rfl)) rfl
theorem in_49 : (Jvm.Cond.fieldLinkNest "SeatProofs$Flow" (53 : Nat) "SeatProofs$Plant" "falls" "[J" "SeatProofs") ∈ nT := mem_nT2 (tq_1 _ (List.mem_of_getElem? (i := 49) rfl)) rfl
theorem iw_50 : (Jvm.Cond.lays "SeatProofs$Plant" "SeatProofs$Plant" "spaces" "I") ∈ gT := mem_gT2 (tq_1 _ (List.mem_of_getElem? (i := 50) rfl)) rfl
theorem iw_52 : (Jvm.Cond.lays "SeatProofs$Plant" "SeatProofs$Plant" "valves" "I") ∈ gT := mem_gT2 (tq_1 _ (List.mem_of_getElem? (i := 52) rfl)) rfl
theorem iw_54 : (Jvm.Cond.laysFinal "SeatProofs$Plant" "SeatProofs$Plant" "levels" "[J") ∈ gT := mem_gT2 (tq_1 _ (List.mem_of_getElem? (i := 54) rfl)) rfl
theorem iw_56 : (Jvm.Cond.laysFinal "SeatProofs$Plant" "SeatProofs$Plant" "sources" "[J") ∈ gT := mem_gT2 (tq_1 _ (List.mem_of_getElem? (i := 56) rfl)) rfl
theorem iw_58 : (Jvm.Cond.laysFinal "SeatProofs$Plant" "SeatProofs$Plant" "friends" "[I") ∈ gT := mem_gT2 (tq_1 _ (List.mem_of_getElem? (i := 58) rfl)) rfl
theorem iw_60 : (Jvm.Cond.laysFinal "SeatProofs$Plant" "SeatProofs$Plant" "oneEnd" "[I") ∈ gT := mem_gT2 (tq_1 _ (List.mem_of_getElem? (i := 60) rfl)) rfl
theorem iw_62 : (Jvm.Cond.laysFinal "SeatProofs$Plant" "SeatProofs$Plant" "otherEnd" "[I") ∈ gT := mem_gT2 (tq_1 _ (List.mem_of_getElem? (i := 62) rfl)) rfl
theorem iw_64 : (Jvm.Cond.lays "SeatProofs$Plant" "SeatProofs$Plant" "openValves" "J") ∈ gT := mem_gT2 (tq_1 _ (List.mem_of_getElem? (i := 64) rfl)) rfl
theorem iw_66 : (Jvm.Cond.lays "SeatProofs$Plant" "SeatProofs$Plant" "unsureValves" "J") ∈ gT := mem_gT2 (tq_1 _ (List.mem_of_getElem? (i := 66) rfl)) rfl
theorem iw_68 : (Jvm.Cond.lays "SeatProofs$Plant" "SeatProofs$Plant" "doubleValves" "J") ∈ gT := mem_gT2 (tq_1 _ (List.mem_of_getElem? (i := 68) rfl)) rfl
theorem iw_70 : (Jvm.Cond.laysFinal "SeatProofs$Plant" "SeatProofs$Plant" "ends" "[J") ∈ gT := mem_gT2 (tq_1 _ (List.mem_of_getElem? (i := 70) rfl)) rfl
theorem iw_72 : (Jvm.Cond.laysFinal "SeatProofs$Plant" "SeatProofs$Plant" "falls" "[J") ∈ gT := mem_gT2 (tq_1 _ (List.mem_of_getElem? (i := 72) rfl)) rfl
theorem iw_75 : (Jvm.Cond.arrayClass Jvm.ClassFile.FieldType.long) ∈ gT := mem_gT2 (tq_1 _ (List.mem_of_getElem? (i := 75) rfl)) rfl
theorem iw_76 : (Jvm.Cond.arrayClass Jvm.ClassFile.FieldType.int) ∈ gT := mem_gT2 (tq_1 _ (List.mem_of_getElem? (i := 76) rfl)) rfl
theorem iw_77 : (Jvm.Cond.classLink "SeatProofs" (16 : Nat) "SeatProofs$Flow") ∈ gT := mem_gT2 (tq_1 _ (List.mem_of_getElem? (i := 77) rfl)) rfl
theorem iw_78 : (Jvm.Cond.instantiable "SeatProofs$Flow" (4 : Nat)) ∈ gT := mem_gT2 (tq_1 _ (List.mem_of_getElem? (i := 78) rfl)) rfl
theorem iw_79 : (Jvm.Cond.methodLink "SeatProofs" (18 : Nat) ({ cls := "SeatProofs$Flow", name := "<init>", desc := "(LSeatProofs$Plant;)V" } : Jvm.MethodName)) ∈ gT := mem_gT2 (tq_1 _ (List.mem_of_getElem? (i := 79) rfl)) rfl
theorem iw_80 : (Jvm.Cond.instanceMethod ({ cls := "SeatProofs$Flow", name := "<init>", desc := "(LSeatProofs$Plant;)V" } : Jvm.MethodName)) ∈ gT := mem_gT2 (tq_1 _ (List.mem_of_getElem? (i := 80) rfl)) rfl
theorem iw_81 : (Jvm.Cond.code ({ cls := "SeatProofs$Flow", name := "<init>", desc := "(LSeatProofs$Plant;)V" } : Jvm.MethodName) prog_2_method_1_code (2 : Nat) (Option.none : Option Jvm.ClassFile.FieldType)) ∈ gT := mem_gT2 (tq_1 _ (List.mem_of_getElem? (i := 81) rfl)) rfl
theorem iw_82 : (Jvm.Cond.methodLink "SeatProofs$Flow" (3 : Nat) ({ cls := "java/lang/Object", name := "<init>", desc := "()V" } : Jvm.MethodName)) ∈ gT := mem_gT2 (tq_1 _ (List.mem_of_getElem? (i := 82) rfl)) rfl
theorem iw_83 : (Jvm.Cond.fieldLink "SeatProofs$Flow" (18 : Nat) "SeatProofs$Flow" "plant" "LSeatProofs$Plant;") ∈ gT := mem_gT2 (tq_1 _ (List.mem_of_getElem? (i := 83) rfl)) rfl
theorem iw_84 : (Jvm.Cond.fieldLink "SeatProofs$Flow" (28 : Nat) "SeatProofs$Flow" "letting" "J") ∈ gT := mem_gT2 (tq_1 _ (List.mem_of_getElem? (i := 84) rfl)) rfl
theorem iw_85 : (Jvm.Cond.fieldLink "SeatProofs$Flow" (9 : Nat) "SeatProofs$Flow" "ways" "[J") ∈ gT := mem_gT2 (tq_1 _ (List.mem_of_getElem? (i := 85) rfl)) rfl
theorem iw_86 : (Jvm.Cond.fieldLink "SeatProofs$Flow" (15 : Nat) "SeatProofs$Flow" "floods" "[J") ∈ gT := mem_gT2 (tq_1 _ (List.mem_of_getElem? (i := 86) rfl)) rfl
theorem in_87 : (Jvm.Cond.fieldLinkNest "SeatProofs" (176 : Nat) "SeatProofs$Flow" "floods" "[J" "SeatProofs") ∈ nT := mem_nT2 (tq_1 _ (List.mem_of_getElem? (i := 87) rfl)) rfl
theorem iw_88 : (Jvm.Cond.laysFinal "SeatProofs$Flow" "SeatProofs$Flow" "plant" "LSeatProofs$Plant;") ∈ gT := mem_gT2 (tq_1 _ (List.mem_of_getElem? (i := 88) rfl)) rfl
theorem iw_90 : (Jvm.Cond.lays "SeatProofs$Flow" "SeatProofs$Flow" "letting" "J") ∈ gT := mem_gT2 (tq_1 _ (List.mem_of_getElem? (i := 90) rfl)) rfl
theorem iw_92 : (Jvm.Cond.laysFinal "SeatProofs$Flow" "SeatProofs$Flow" "ways" "[J") ∈ gT := mem_gT2 (tq_1 _ (List.mem_of_getElem? (i := 92) rfl)) rfl
theorem iw_94 : (Jvm.Cond.laysFinal "SeatProofs$Flow" "SeatProofs$Flow" "floods" "[J") ∈ gT := mem_gT2 (tq_1 _ (List.mem_of_getElem? (i := 94) rfl)) rfl
theorem iw_97 : (Jvm.Cond.classLink "SeatProofs" (25 : Nat) "SeatProofs$Proof") ∈ gT := mem_gT2 (tq_1 _ (List.mem_of_getElem? (i := 97) rfl)) rfl
theorem iw_98 : (Jvm.Cond.instantiable "SeatProofs$Proof" (5 : Nat)) ∈ gT := mem_gT2 (tq_1 _ (List.mem_of_getElem? (i := 98) rfl)) rfl
theorem in_99 : (Jvm.Cond.methodLinkNest "SeatProofs" (27 : Nat) ({ cls := "SeatProofs$Proof", name := "<init>", desc := "()V" } : Jvm.MethodName) "SeatProofs") ∈ nT := mem_nT2 (tq_1 _ (List.mem_of_getElem? (i := 99) rfl)) rfl
theorem iw_100 : (Jvm.Cond.instanceMethod ({ cls := "SeatProofs$Proof", name := "<init>", desc := "()V" } : Jvm.MethodName)) ∈ gT := mem_gT2 (tq_1 _ (List.mem_of_getElem? (i := 100) rfl)) rfl
theorem iw_101 : (Jvm.Cond.code ({ cls := "SeatProofs$Proof", name := "<init>", desc := "()V" } : Jvm.MethodName) prog_4_method_1_code (1 : Nat) (Option.none : Option Jvm.ClassFile.FieldType)) ∈ gT := mem_gT2 (tq_1 _ (List.mem_of_getElem? (i := 101) rfl)) rfl
theorem iw_102 : (Jvm.Cond.methodLink "SeatProofs$Proof" (3 : Nat) ({ cls := "java/lang/Object", name := "<init>", desc := "()V" } : Jvm.MethodName)) ∈ gT := mem_gT2 (tq_1 _ (List.mem_of_getElem? (i := 102) rfl)) rfl
theorem iw_103 : (Jvm.Cond.fieldLink "SeatProofs$Proof" (25 : Nat) "SeatProofs$Proof" "count" "I") ∈ gT := mem_gT2 (tq_1 _ (List.mem_of_getElem? (i := 103) rfl)) rfl
theorem in_104 : (Jvm.Cond.fieldLinkNest "SeatProofs" (101 : Nat) "SeatProofs$Proof" "count" "I" "SeatProofs") ∈ nT := mem_nT2 (tq_1 _ (List.mem_of_getElem? (i := 104) rfl)) rfl
theorem iw_105 : (Jvm.Cond.fieldLink "SeatProofs$Proof" (9 : Nat) "SeatProofs$Proof" "failure" "[I") ∈ gT := mem_gT2 (tq_1 _ (List.mem_of_getElem? (i := 105) rfl)) rfl
theorem in_106 : (Jvm.Cond.fieldLinkNest "SeatProofs" (107 : Nat) "SeatProofs$Proof" "failure" "[I" "SeatProofs") ∈ nT := mem_nT2 (tq_1 _ (List.mem_of_getElem? (i := 106) rfl)) rfl
theorem iw_107 : (Jvm.Cond.fieldLink "SeatProofs$Proof" (15 : Nat) "SeatProofs$Proof" "liquid" "[I") ∈ gT := mem_gT2 (tq_1 _ (List.mem_of_getElem? (i := 107) rfl)) rfl
theorem in_108 : (Jvm.Cond.fieldLinkNest "SeatProofs" (110 : Nat) "SeatProofs$Proof" "liquid" "[I" "SeatProofs") ∈ nT := mem_nT2 (tq_1 _ (List.mem_of_getElem? (i := 108) rfl)) rfl
theorem iw_109 : (Jvm.Cond.fieldLink "SeatProofs$Proof" (18 : Nat) "SeatProofs$Proof" "flood" "[J") ∈ gT := mem_gT2 (tq_1 _ (List.mem_of_getElem? (i := 109) rfl)) rfl
theorem in_110 : (Jvm.Cond.fieldLinkNest "SeatProofs" (113 : Nat) "SeatProofs$Proof" "flood" "[J" "SeatProofs") ∈ nT := mem_nT2 (tq_1 _ (List.mem_of_getElem? (i := 110) rfl)) rfl
theorem iw_111 : (Jvm.Cond.fieldLink "SeatProofs$Proof" (22 : Nat) "SeatProofs$Proof" "cut" "[J") ∈ gT := mem_gT2 (tq_1 _ (List.mem_of_getElem? (i := 111) rfl)) rfl
theorem in_112 : (Jvm.Cond.fieldLinkNest "SeatProofs" (122 : Nat) "SeatProofs$Proof" "cut" "[J" "SeatProofs") ∈ nT := mem_nT2 (tq_1 _ (List.mem_of_getElem? (i := 112) rfl)) rfl
theorem iw_113 : (Jvm.Cond.lays "SeatProofs$Proof" "SeatProofs$Proof" "count" "I") ∈ gT := mem_gT2 (tq_1 _ (List.mem_of_getElem? (i := 113) rfl)) rfl
theorem iw_115 : (Jvm.Cond.laysFinal "SeatProofs$Proof" "SeatProofs$Proof" "failure" "[I") ∈ gT := mem_gT2 (tq_1 _ (List.mem_of_getElem? (i := 115) rfl)) rfl
theorem iw_117 : (Jvm.Cond.laysFinal "SeatProofs$Proof" "SeatProofs$Proof" "liquid" "[I") ∈ gT := mem_gT2 (tq_1 _ (List.mem_of_getElem? (i := 117) rfl)) rfl
theorem iw_119 : (Jvm.Cond.laysFinal "SeatProofs$Proof" "SeatProofs$Proof" "flood" "[J") ∈ gT := mem_gT2 (tq_1 _ (List.mem_of_getElem? (i := 119) rfl)) rfl
theorem iw_121 : (Jvm.Cond.laysFinal "SeatProofs$Proof" "SeatProofs$Proof" "cut" "[J") ∈ gT := mem_gT2 (tq_1 _ (List.mem_of_getElem? (i := 121) rfl)) rfl
theorem iw_124 : (Jvm.Cond.fieldLink "SeatProofs" (12 : Nat) "SeatProofs" "plant" "LSeatProofs$Plant;") ∈ gT := mem_gT2 (tq_1 _ (List.mem_of_getElem? (i := 124) rfl)) rfl
theorem iw_125 : (Jvm.Cond.fieldLink "SeatProofs" (21 : Nat) "SeatProofs" "flow" "LSeatProofs$Flow;") ∈ gT := mem_gT2 (tq_1 _ (List.mem_of_getElem? (i := 125) rfl)) rfl
theorem iw_126 : (Jvm.Cond.fieldLink "SeatProofs" (28 : Nat) "SeatProofs" "proof" "LSeatProofs$Proof;") ∈ gT := mem_gT2 (tq_1 _ (List.mem_of_getElem? (i := 126) rfl)) rfl
theorem iw_127 : (Jvm.Cond.fieldLink "SeatProofs" (32 : Nat) "SeatProofs" "found" "[I") ∈ gT := mem_gT2 (tq_1 _ (List.mem_of_getElem? (i := 127) rfl)) rfl
theorem iw_128 : (Jvm.Cond.fieldLink "SeatProofs" (36 : Nat) "SeatProofs" "foundUnsafe" "Z") ∈ gT := mem_gT2 (tq_1 _ (List.mem_of_getElem? (i := 128) rfl)) rfl
theorem iw_129 : (Jvm.Cond.fieldLink "SeatProofs" (40 : Nat) "SeatProofs" "remade" "I") ∈ gT := mem_gT2 (tq_1 _ (List.mem_of_getElem? (i := 129) rfl)) rfl
theorem iw_130 : (Jvm.Cond.laysFinal "SeatProofs" "SeatProofs" "plant" "LSeatProofs$Plant;") ∈ gT := mem_gT2 (tq_1 _ (List.mem_of_getElem? (i := 130) rfl)) rfl
theorem iw_132 : (Jvm.Cond.laysFinal "SeatProofs" "SeatProofs" "flow" "LSeatProofs$Flow;") ∈ gT := mem_gT2 (tq_1 _ (List.mem_of_getElem? (i := 132) rfl)) rfl
theorem iw_134 : (Jvm.Cond.laysFinal "SeatProofs" "SeatProofs" "proof" "LSeatProofs$Proof;") ∈ gT := mem_gT2 (tq_1 _ (List.mem_of_getElem? (i := 134) rfl)) rfl
theorem iw_136 : (Jvm.Cond.laysFinal "SeatProofs" "SeatProofs" "found" "[I") ∈ gT := mem_gT2 (tq_1 _ (List.mem_of_getElem? (i := 136) rfl)) rfl
theorem iw_138 : (Jvm.Cond.lays "SeatProofs" "SeatProofs" "foundUnsafe" "Z") ∈ gT := mem_gT2 (tq_1 _ (List.mem_of_getElem? (i := 138) rfl)) rfl
theorem iw_140 : (Jvm.Cond.lays "SeatProofs" "SeatProofs" "remade" "I") ∈ gT := mem_gT2 (tq_1 _ (List.mem_of_getElem? (i := 140) rfl)) rfl
theorem iw_143 : (Jvm.Cond.methodLink "SeatProofsLaw" (22 : Nat) ({ cls := "SeatProofs", name := "space", desc := "(I)I" } : Jvm.MethodName)) ∈ gT := mem_gT2 (tq_1 _ (List.mem_of_getElem? (i := 143) rfl)) rfl
theorem iw_144 : (Jvm.Cond.instanceMethod ({ cls := "SeatProofs", name := "space", desc := "(I)I" } : Jvm.MethodName)) ∈ gT := mem_gT2 (tq_1 _ (List.mem_of_getElem? (i := 144) rfl)) rfl
theorem iw_145 : (Jvm.Cond.selects "SeatProofs" ({ cls := "SeatProofs", name := "space", desc := "(I)I" } : Jvm.MethodName) ({ cls := "SeatProofs", name := "space", desc := "(I)I" } : Jvm.MethodName)) ∈ gT := mem_gT2 (tq_1 _ (List.mem_of_getElem? (i := 145) rfl)) rfl
theorem iw_146 : (Jvm.Cond.code ({ cls := "SeatProofs", name := "space", desc := "(I)I" } : Jvm.MethodName) prog_1_method_2_code (2 : Nat) (Option.some Jvm.ClassFile.FieldType.int)) ∈ gT := mem_gT2 (tq_1 _ (List.mem_of_getElem? (i := 146) rfl)) rfl
theorem iw_147 : (Jvm.Cond.methodLink "SeatProofs" (47 : Nat) ({ cls := "SeatProofs$Proof", name := "empty", desc := "()V" } : Jvm.MethodName)) ∈ gT := mem_gT2 (tq_1 _ (List.mem_of_getElem? (i := 147) rfl)) rfl
theorem iw_148 : (Jvm.Cond.instanceMethod ({ cls := "SeatProofs$Proof", name := "empty", desc := "()V" } : Jvm.MethodName)) ∈ gT := mem_gT2 (tq_1 _ (List.mem_of_getElem? (i := 148) rfl)) rfl
theorem iw_149 : (Jvm.Cond.selects "SeatProofs$Proof" ({ cls := "SeatProofs$Proof", name := "empty", desc := "()V" } : Jvm.MethodName) ({ cls := "SeatProofs$Proof", name := "empty", desc := "()V" } : Jvm.MethodName)) ∈ gT := mem_gT2 (tq_1 _ (List.mem_of_getElem? (i := 149) rfl)) rfl
theorem iw_150 : (Jvm.Cond.code ({ cls := "SeatProofs$Proof", name := "empty", desc := "()V" } : Jvm.MethodName) prog_4_method_2_code (1 : Nat) (Option.none : Option Jvm.ClassFile.FieldType)) ∈ gT := mem_gT2 (tq_1 _ (List.mem_of_getElem? (i := 150) rfl)) rfl
theorem iw_151 : (Jvm.Cond.methodLink "SeatProofs" (50 : Nat) ({ cls := "SeatProofs$Plant", name := "addSpace", desc := "(I)I" } : Jvm.MethodName)) ∈ gT := mem_gT2 (tq_1 _ (List.mem_of_getElem? (i := 151) rfl)) rfl
theorem iw_152 : (Jvm.Cond.instanceMethod ({ cls := "SeatProofs$Plant", name := "addSpace", desc := "(I)I" } : Jvm.MethodName)) ∈ gT := mem_gT2 (tq_1 _ (List.mem_of_getElem? (i := 152) rfl)) rfl
theorem iw_153 : (Jvm.Cond.selects "SeatProofs$Plant" ({ cls := "SeatProofs$Plant", name := "addSpace", desc := "(I)I" } : Jvm.MethodName) ({ cls := "SeatProofs$Plant", name := "addSpace", desc := "(I)I" } : Jvm.MethodName)) ∈ gT := mem_gT2 (tq_1 _ (List.mem_of_getElem? (i := 153) rfl)) rfl
theorem iw_154 : (Jvm.Cond.code ({ cls := "SeatProofs$Plant", name := "addSpace", desc := "(I)I" } : Jvm.MethodName) prog_3_method_5_code (3 : Nat) (Option.some Jvm.ClassFile.FieldType.int)) ∈ gT := mem_gT2 (tq_1 _ (List.mem_of_getElem? (i := 154) rfl)) rfl
theorem in_155 : (Jvm.Cond.methodLinkNest "SeatProofs$Plant" (51 : Nat) ({ cls := "SeatProofs", name := "only", desc := "(I)J" } : Jvm.MethodName) "SeatProofs") ∈ nT := mem_nT2 (tq_1 _ (List.mem_of_getElem? (i := 155) rfl)) rfl
theorem iw_156 : (Jvm.Cond.static ({ cls := "SeatProofs", name := "only", desc := "(I)J" } : Jvm.MethodName)) ∈ gT := mem_gT2 (tq_1 _ (List.mem_of_getElem? (i := 156) rfl)) rfl
theorem iw_157 : (Jvm.Cond.code ({ cls := "SeatProofs", name := "only", desc := "(I)J" } : Jvm.MethodName) prog_1_method_23_code (1 : Nat) (Option.some Jvm.ClassFile.FieldType.long)) ∈ gT := mem_gT2 (tq_1 _ (List.mem_of_getElem? (i := 157) rfl)) rfl
theorem iw_158 : (Jvm.Cond.methodLink "SeatProofsLaw" (27 : Nat) ({ cls := "SeatProofs", name := "valve", desc := "(IIIZ)I" } : Jvm.MethodName)) ∈ gT := mem_gT2 (tq_1 _ (List.mem_of_getElem? (i := 158) rfl)) rfl
theorem iw_159 : (Jvm.Cond.instanceMethod ({ cls := "SeatProofs", name := "valve", desc := "(IIIZ)I" } : Jvm.MethodName)) ∈ gT := mem_gT2 (tq_1 _ (List.mem_of_getElem? (i := 159) rfl)) rfl
theorem iw_160 : (Jvm.Cond.selects "SeatProofs" ({ cls := "SeatProofs", name := "valve", desc := "(IIIZ)I" } : Jvm.MethodName) ({ cls := "SeatProofs", name := "valve", desc := "(IIIZ)I" } : Jvm.MethodName)) ∈ gT := mem_gT2 (tq_1 _ (List.mem_of_getElem? (i := 160) rfl)) rfl
theorem iw_161 : (Jvm.Cond.code ({ cls := "SeatProofs", name := "valve", desc := "(IIIZ)I" } : Jvm.MethodName) prog_1_method_3_code (5 : Nat) (Option.some Jvm.ClassFile.FieldType.int)) ∈ gT := mem_gT2 (tq_1 _ (List.mem_of_getElem? (i := 161) rfl)) rfl
theorem iw_162 : (Jvm.Cond.methodLink "SeatProofs" (54 : Nat) ({ cls := "SeatProofs$Plant", name := "hasSpace", desc := "(I)Z" } : Jvm.MethodName)) ∈ gT := mem_gT2 (tq_1 _ (List.mem_of_getElem? (i := 162) rfl)) rfl
theorem iw_163 : (Jvm.Cond.instanceMethod ({ cls := "SeatProofs$Plant", name := "hasSpace", desc := "(I)Z" } : Jvm.MethodName)) ∈ gT := mem_gT2 (tq_1 _ (List.mem_of_getElem? (i := 163) rfl)) rfl
theorem iw_164 : (Jvm.Cond.selects "SeatProofs$Plant" ({ cls := "SeatProofs$Plant", name := "hasSpace", desc := "(I)Z" } : Jvm.MethodName) ({ cls := "SeatProofs$Plant", name := "hasSpace", desc := "(I)Z" } : Jvm.MethodName)) ∈ gT := mem_gT2 (tq_1 _ (List.mem_of_getElem? (i := 164) rfl)) rfl
theorem iw_165 : (Jvm.Cond.code ({ cls := "SeatProofs$Plant", name := "hasSpace", desc := "(I)Z" } : Jvm.MethodName) prog_3_method_3_code (2 : Nat) (Option.some Jvm.ClassFile.FieldType.boolean)) ∈ gT := mem_gT2 (tq_1 _ (List.mem_of_getElem? (i := 165) rfl)) rfl
theorem iw_166 : (Jvm.Cond.methodLink "SeatProofs" (61 : Nat) ({ cls := "SeatProofs$Plant", name := "addValve", desc := "(IIZZ)I" } : Jvm.MethodName)) ∈ gT := mem_gT2 (tq_1 _ (List.mem_of_getElem? (i := 166) rfl)) rfl
theorem iw_167 : (Jvm.Cond.instanceMethod ({ cls := "SeatProofs$Plant", name := "addValve", desc := "(IIZZ)I" } : Jvm.MethodName)) ∈ gT := mem_gT2 (tq_1 _ (List.mem_of_getElem? (i := 167) rfl)) rfl
theorem iw_168 : (Jvm.Cond.selects "SeatProofs$Plant" ({ cls := "SeatProofs$Plant", name := "addValve", desc := "(IIZZ)I" } : Jvm.MethodName) ({ cls := "SeatProofs$Plant", name := "addValve", desc := "(IIZZ)I" } : Jvm.MethodName)) ∈ gT := mem_gT2 (tq_1 _ (List.mem_of_getElem? (i := 168) rfl)) rfl
theorem iw_169 : (Jvm.Cond.code ({ cls := "SeatProofs$Plant", name := "addValve", desc := "(IIZZ)I" } : Jvm.MethodName) prog_3_method_6_code (6 : Nat) (Option.some Jvm.ClassFile.FieldType.int)) ∈ gT := mem_gT2 (tq_1 _ (List.mem_of_getElem? (i := 169) rfl)) rfl
theorem iw_170 : (Jvm.Cond.methodLink "SeatProofs$Plant" (55 : Nat) ({ cls := "SeatProofs$Plant", name := "turn", desc := "(IZ)V" } : Jvm.MethodName)) ∈ gT := mem_gT2 (tq_1 _ (List.mem_of_getElem? (i := 170) rfl)) rfl
theorem iw_171 : (Jvm.Cond.instanceMethod ({ cls := "SeatProofs$Plant", name := "turn", desc := "(IZ)V" } : Jvm.MethodName)) ∈ gT := mem_gT2 (tq_1 _ (List.mem_of_getElem? (i := 171) rfl)) rfl
theorem iw_172 : (Jvm.Cond.selects "SeatProofs$Plant" ({ cls := "SeatProofs$Plant", name := "turn", desc := "(IZ)V" } : Jvm.MethodName) ({ cls := "SeatProofs$Plant", name := "turn", desc := "(IZ)V" } : Jvm.MethodName)) ∈ gT := mem_gT2 (tq_1 _ (List.mem_of_getElem? (i := 172) rfl)) rfl
theorem iw_173 : (Jvm.Cond.code ({ cls := "SeatProofs$Plant", name := "turn", desc := "(IZ)V" } : Jvm.MethodName) prog_3_method_9_code (3 : Nat) (Option.none : Option Jvm.ClassFile.FieldType)) ∈ gT := mem_gT2 (tq_1 _ (List.mem_of_getElem? (i := 173) rfl)) rfl
theorem iw_174 : (Jvm.Cond.methodLink "SeatProofs$Plant" (67 : Nat) ({ cls := "SeatProofs$Plant", name := "with", desc := "(JIZ)J" } : Jvm.MethodName)) ∈ gT := mem_gT2 (tq_1 _ (List.mem_of_getElem? (i := 174) rfl)) rfl
theorem iw_175 : (Jvm.Cond.static ({ cls := "SeatProofs$Plant", name := "with", desc := "(JIZ)J" } : Jvm.MethodName)) ∈ gT := mem_gT2 (tq_1 _ (List.mem_of_getElem? (i := 175) rfl)) rfl
theorem iw_176 : (Jvm.Cond.code ({ cls := "SeatProofs$Plant", name := "with", desc := "(JIZ)J" } : Jvm.MethodName) prog_3_method_11_code (4 : Nat) (Option.some Jvm.ClassFile.FieldType.long)) ∈ gT := mem_gT2 (tq_1 _ (List.mem_of_getElem? (i := 176) rfl)) rfl
theorem iw_177 : (Jvm.Cond.constantLong "SeatProofs$Plant" (71 : Nat) (-1 : Int64)) ∈ gT := mem_gT2 (tq_1 _ (List.mem_of_getElem? (i := 177) rfl)) rfl
theorem iw_178 : (Jvm.Cond.methodLink "SeatProofs$Plant" (59 : Nat) ({ cls := "SeatProofs$Plant", name := "measure", desc := "(I)V" } : Jvm.MethodName)) ∈ gT := mem_gT2 (tq_1 _ (List.mem_of_getElem? (i := 178) rfl)) rfl
theorem iw_180 : (Jvm.Cond.instanceMethod ({ cls := "SeatProofs$Plant", name := "measure", desc := "(I)V" } : Jvm.MethodName)) ∈ gT := mem_gT2 (tq_1 _ (List.mem_of_getElem? (i := 180) rfl)) rfl
theorem iw_181 : (Jvm.Cond.code ({ cls := "SeatProofs$Plant", name := "measure", desc := "(I)V" } : Jvm.MethodName) prog_3_method_8_code (4 : Nat) (Option.none : Option Jvm.ClassFile.FieldType)) ∈ gT := mem_gT2 (tq_1 _ (List.mem_of_getElem? (i := 181) rfl)) rfl
theorem iw_182 : (Jvm.Cond.methodLink "SeatProofsLaw" (34 : Nat) ({ cls := "SeatProofs", name := "level", desc := "(IJ)Z" } : Jvm.MethodName)) ∈ gT := mem_gT2 (tq_1 _ (List.mem_of_getElem? (i := 182) rfl)) rfl
theorem iw_183 : (Jvm.Cond.instanceMethod ({ cls := "SeatProofs", name := "level", desc := "(IJ)Z" } : Jvm.MethodName)) ∈ gT := mem_gT2 (tq_1 _ (List.mem_of_getElem? (i := 183) rfl)) rfl
theorem iw_184 : (Jvm.Cond.selects "SeatProofs" ({ cls := "SeatProofs", name := "level", desc := "(IJ)Z" } : Jvm.MethodName) ({ cls := "SeatProofs", name := "level", desc := "(IJ)Z" } : Jvm.MethodName)) ∈ gT := mem_gT2 (tq_1 _ (List.mem_of_getElem? (i := 184) rfl)) rfl
theorem iw_185 : (Jvm.Cond.code ({ cls := "SeatProofs", name := "level", desc := "(IJ)Z" } : Jvm.MethodName) prog_1_method_4_code (4 : Nat) (Option.some Jvm.ClassFile.FieldType.boolean)) ∈ gT := mem_gT2 (tq_1 _ (List.mem_of_getElem? (i := 185) rfl)) rfl
theorem iw_186 : (Jvm.Cond.methodLink "SeatProofs" (65 : Nat) ({ cls := "SeatProofs$Plant", name := "raiseTo", desc := "(IJ)V" } : Jvm.MethodName)) ∈ gT := mem_gT2 (tq_1 _ (List.mem_of_getElem? (i := 186) rfl)) rfl
theorem iw_187 : (Jvm.Cond.instanceMethod ({ cls := "SeatProofs$Plant", name := "raiseTo", desc := "(IJ)V" } : Jvm.MethodName)) ∈ gT := mem_gT2 (tq_1 _ (List.mem_of_getElem? (i := 187) rfl)) rfl
theorem iw_188 : (Jvm.Cond.selects "SeatProofs$Plant" ({ cls := "SeatProofs$Plant", name := "raiseTo", desc := "(IJ)V" } : Jvm.MethodName) ({ cls := "SeatProofs$Plant", name := "raiseTo", desc := "(IJ)V" } : Jvm.MethodName)) ∈ gT := mem_gT2 (tq_1 _ (List.mem_of_getElem? (i := 188) rfl)) rfl
theorem iw_189 : (Jvm.Cond.code ({ cls := "SeatProofs$Plant", name := "raiseTo", desc := "(IJ)V" } : Jvm.MethodName) prog_3_method_7_code (5 : Nat) (Option.none : Option Jvm.ClassFile.FieldType)) ∈ gT := mem_gT2 (tq_1 _ (List.mem_of_getElem? (i := 189) rfl)) rfl
theorem in_190 : (Jvm.Cond.methodLinkNest "SeatProofs$Plant" (63 : Nat) ({ cls := "SeatProofs", name := "has", desc := "(JI)Z" } : Jvm.MethodName) "SeatProofs") ∈ nT := mem_nT2 (tq_1 _ (List.mem_of_getElem? (i := 190) rfl)) rfl
theorem iw_191 : (Jvm.Cond.static ({ cls := "SeatProofs", name := "has", desc := "(JI)Z" } : Jvm.MethodName)) ∈ gT := mem_gT2 (tq_1 _ (List.mem_of_getElem? (i := 191) rfl)) rfl
theorem iw_192 : (Jvm.Cond.code ({ cls := "SeatProofs", name := "has", desc := "(JI)Z" } : Jvm.MethodName) prog_1_method_24_code (3 : Nat) (Option.some Jvm.ClassFile.FieldType.boolean)) ∈ gT := mem_gT2 (tq_1 _ (List.mem_of_getElem? (i := 192) rfl)) rfl
theorem iw_193 : (Jvm.Cond.methodLink "SeatProofs" (204 : Nat) ({ cls := "SeatProofs", name := "only", desc := "(I)J" } : Jvm.MethodName)) ∈ gT := mem_gT2 (tq_1 _ (List.mem_of_getElem? (i := 193) rfl)) rfl
theorem iw_194 : (Jvm.Cond.methodLink "SeatProofsLaw" (39 : Nat) ({ cls := "SeatProofs", name := "may", desc := "(II)Z" } : Jvm.MethodName)) ∈ gT := mem_gT2 (tq_1 _ (List.mem_of_getElem? (i := 194) rfl)) rfl
theorem iw_195 : (Jvm.Cond.instanceMethod ({ cls := "SeatProofs", name := "may", desc := "(II)Z" } : Jvm.MethodName)) ∈ gT := mem_gT2 (tq_1 _ (List.mem_of_getElem? (i := 195) rfl)) rfl
theorem iw_196 : (Jvm.Cond.selects "SeatProofs" ({ cls := "SeatProofs", name := "may", desc := "(II)Z" } : Jvm.MethodName) ({ cls := "SeatProofs", name := "may", desc := "(II)Z" } : Jvm.MethodName)) ∈ gT := mem_gT2 (tq_1 _ (List.mem_of_getElem? (i := 196) rfl)) rfl
theorem iw_197 : (Jvm.Cond.code ({ cls := "SeatProofs", name := "may", desc := "(II)Z" } : Jvm.MethodName) prog_1_method_5_code (3 : Nat) (Option.some Jvm.ClassFile.FieldType.boolean)) ∈ gT := mem_gT2 (tq_1 _ (List.mem_of_getElem? (i := 197) rfl)) rfl
theorem iw_198 : (Jvm.Cond.methodLink "SeatProofs" (69 : Nat) ({ cls := "SeatProofs", name := "isLiquid", desc := "(I)Z" } : Jvm.MethodName)) ∈ gT := mem_gT2 (tq_1 _ (List.mem_of_getElem? (i := 198) rfl)) rfl
theorem iw_199 : (Jvm.Cond.static ({ cls := "SeatProofs", name := "isLiquid", desc := "(I)Z" } : Jvm.MethodName)) ∈ gT := mem_gT2 (tq_1 _ (List.mem_of_getElem? (i := 199) rfl)) rfl
theorem iw_200 : (Jvm.Cond.code ({ cls := "SeatProofs", name := "isLiquid", desc := "(I)Z" } : Jvm.MethodName) prog_1_method_22_code (1 : Nat) (Option.some Jvm.ClassFile.FieldType.boolean)) ∈ gT := mem_gT2 (tq_1 _ (List.mem_of_getElem? (i := 200) rfl)) rfl
theorem iw_201 : (Jvm.Cond.methodLink "SeatProofs" (72 : Nat) ({ cls := "SeatProofs$Plant", name := "areFriends", desc := "(II)Z" } : Jvm.MethodName)) ∈ gT := mem_gT2 (tq_1 _ (List.mem_of_getElem? (i := 201) rfl)) rfl
theorem iw_202 : (Jvm.Cond.instanceMethod ({ cls := "SeatProofs$Plant", name := "areFriends", desc := "(II)Z" } : Jvm.MethodName)) ∈ gT := mem_gT2 (tq_1 _ (List.mem_of_getElem? (i := 202) rfl)) rfl
theorem iw_203 : (Jvm.Cond.selects "SeatProofs$Plant" ({ cls := "SeatProofs$Plant", name := "areFriends", desc := "(II)Z" } : Jvm.MethodName) ({ cls := "SeatProofs$Plant", name := "areFriends", desc := "(II)Z" } : Jvm.MethodName)) ∈ gT := mem_gT2 (tq_1 _ (List.mem_of_getElem? (i := 203) rfl)) rfl
theorem iw_204 : (Jvm.Cond.code ({ cls := "SeatProofs$Plant", name := "areFriends", desc := "(II)Z" } : Jvm.MethodName) prog_3_method_12_code (3 : Nat) (Option.some Jvm.ClassFile.FieldType.boolean)) ∈ gT := mem_gT2 (tq_1 _ (List.mem_of_getElem? (i := 204) rfl)) rfl
theorem iw_205 : (Jvm.Cond.methodLink "SeatProofs" (76 : Nat) ({ cls := "SeatProofs$Plant", name := "befriend", desc := "(II)V" } : Jvm.MethodName)) ∈ gT := mem_gT2 (tq_1 _ (List.mem_of_getElem? (i := 205) rfl)) rfl
theorem iw_206 : (Jvm.Cond.instanceMethod ({ cls := "SeatProofs$Plant", name := "befriend", desc := "(II)V" } : Jvm.MethodName)) ∈ gT := mem_gT2 (tq_1 _ (List.mem_of_getElem? (i := 206) rfl)) rfl
theorem iw_207 : (Jvm.Cond.selects "SeatProofs$Plant" ({ cls := "SeatProofs$Plant", name := "befriend", desc := "(II)V" } : Jvm.MethodName) ({ cls := "SeatProofs$Plant", name := "befriend", desc := "(II)V" } : Jvm.MethodName)) ∈ gT := mem_gT2 (tq_1 _ (List.mem_of_getElem? (i := 207) rfl)) rfl
theorem iw_208 : (Jvm.Cond.code ({ cls := "SeatProofs$Plant", name := "befriend", desc := "(II)V" } : Jvm.MethodName) prog_3_method_13_code (3 : Nat) (Option.none : Option Jvm.ClassFile.FieldType)) ∈ gT := mem_gT2 (tq_1 _ (List.mem_of_getElem? (i := 208) rfl)) rfl
theorem iw_209 : (Jvm.Cond.methodLink "SeatProofsLaw" (44 : Nat) ({ cls := "SeatProofs", name := "safe", desc := "()I" } : Jvm.MethodName)) ∈ gT := mem_gT2 (tq_1 _ (List.mem_of_getElem? (i := 209) rfl)) rfl
theorem iw_210 : (Jvm.Cond.instanceMethod ({ cls := "SeatProofs", name := "safe", desc := "()I" } : Jvm.MethodName)) ∈ gT := mem_gT2 (tq_1 _ (List.mem_of_getElem? (i := 210) rfl)) rfl
theorem iw_211 : (Jvm.Cond.selects "SeatProofs" ({ cls := "SeatProofs", name := "safe", desc := "()I" } : Jvm.MethodName) ({ cls := "SeatProofs", name := "safe", desc := "()I" } : Jvm.MethodName)) ∈ gT := mem_gT2 (tq_1 _ (List.mem_of_getElem? (i := 211) rfl)) rfl
theorem iw_212 : (Jvm.Cond.code ({ cls := "SeatProofs", name := "safe", desc := "()I" } : Jvm.MethodName) prog_1_method_6_code (4 : Nat) (Option.some Jvm.ClassFile.FieldType.int)) ∈ gT := mem_gT2 (tq_1 _ (List.mem_of_getElem? (i := 212) rfl)) rfl
theorem iw_213 : (Jvm.Cond.methodLink "SeatProofs" (80 : Nat) ({ cls := "SeatProofs$Flow", name := "lay", desc := "(I)V" } : Jvm.MethodName)) ∈ gT := mem_gT2 (tq_1 _ (List.mem_of_getElem? (i := 213) rfl)) rfl
theorem iw_214 : (Jvm.Cond.instanceMethod ({ cls := "SeatProofs$Flow", name := "lay", desc := "(I)V" } : Jvm.MethodName)) ∈ gT := mem_gT2 (tq_1 _ (List.mem_of_getElem? (i := 214) rfl)) rfl
theorem iw_215 : (Jvm.Cond.selects "SeatProofs$Flow" ({ cls := "SeatProofs$Flow", name := "lay", desc := "(I)V" } : Jvm.MethodName) ({ cls := "SeatProofs$Flow", name := "lay", desc := "(I)V" } : Jvm.MethodName)) ∈ gT := mem_gT2 (tq_1 _ (List.mem_of_getElem? (i := 215) rfl)) rfl
theorem iw_216 : (Jvm.Cond.code ({ cls := "SeatProofs$Flow", name := "lay", desc := "(I)V" } : Jvm.MethodName) prog_2_method_2_code (3 : Nat) (Option.none : Option Jvm.ClassFile.FieldType)) ∈ gT := mem_gT2 (tq_1 _ (List.mem_of_getElem? (i := 216) rfl)) rfl
theorem iw_217 : (Jvm.Cond.methodLink "SeatProofs$Flow" (22 : Nat) ({ cls := "SeatProofs$Plant", name := "letting", desc := "(I)J" } : Jvm.MethodName)) ∈ gT := mem_gT2 (tq_1 _ (List.mem_of_getElem? (i := 217) rfl)) rfl
theorem iw_218 : (Jvm.Cond.instanceMethod ({ cls := "SeatProofs$Plant", name := "letting", desc := "(I)J" } : Jvm.MethodName)) ∈ gT := mem_gT2 (tq_1 _ (List.mem_of_getElem? (i := 218) rfl)) rfl
theorem iw_219 : (Jvm.Cond.selects "SeatProofs$Plant" ({ cls := "SeatProofs$Plant", name := "letting", desc := "(I)J" } : Jvm.MethodName) ({ cls := "SeatProofs$Plant", name := "letting", desc := "(I)J" } : Jvm.MethodName)) ∈ gT := mem_gT2 (tq_1 _ (List.mem_of_getElem? (i := 219) rfl)) rfl
theorem iw_220 : (Jvm.Cond.code ({ cls := "SeatProofs$Plant", name := "letting", desc := "(I)J" } : Jvm.MethodName) prog_3_method_15_code (6 : Nat) (Option.some Jvm.ClassFile.FieldType.long)) ∈ gT := mem_gT2 (tq_1 _ (List.mem_of_getElem? (i := 220) rfl)) rfl
theorem in_221 : (Jvm.Cond.methodLinkNest "SeatProofs$Flow" (38 : Nat) ({ cls := "SeatProofs", name := "has", desc := "(JI)Z" } : Jvm.MethodName) "SeatProofs") ∈ nT := mem_nT2 (tq_1 _ (List.mem_of_getElem? (i := 221) rfl)) rfl
theorem iw_222 : (Jvm.Cond.methodLink "SeatProofs$Flow" (49 : Nat) ({ cls := "SeatProofs$Flow", name := "layWay", desc := "(III)V" } : Jvm.MethodName)) ∈ gT := mem_gT2 (tq_1 _ (List.mem_of_getElem? (i := 222) rfl)) rfl
theorem iw_224 : (Jvm.Cond.instanceMethod ({ cls := "SeatProofs$Flow", name := "layWay", desc := "(III)V" } : Jvm.MethodName)) ∈ gT := mem_gT2 (tq_1 _ (List.mem_of_getElem? (i := 224) rfl)) rfl
theorem iw_225 : (Jvm.Cond.code ({ cls := "SeatProofs$Flow", name := "layWay", desc := "(III)V" } : Jvm.MethodName) prog_2_method_3_code (4 : Nat) (Option.none : Option Jvm.ClassFile.FieldType)) ∈ gT := mem_gT2 (tq_1 _ (List.mem_of_getElem? (i := 225) rfl)) rfl
theorem in_226 : (Jvm.Cond.methodLinkNest "SeatProofs$Flow" (56 : Nat) ({ cls := "SeatProofs", name := "only", desc := "(I)J" } : Jvm.MethodName) "SeatProofs") ∈ nT := mem_nT2 (tq_1 _ (List.mem_of_getElem? (i := 226) rfl)) rfl
theorem iw_227 : (Jvm.Cond.methodLink "SeatProofs" (84 : Nat) ({ cls := "SeatProofs$Flow", name := "floodAll", desc := "()V" } : Jvm.MethodName)) ∈ gT := mem_gT2 (tq_1 _ (List.mem_of_getElem? (i := 227) rfl)) rfl
theorem iw_228 : (Jvm.Cond.instanceMethod ({ cls := "SeatProofs$Flow", name := "floodAll", desc := "()V" } : Jvm.MethodName)) ∈ gT := mem_gT2 (tq_1 _ (List.mem_of_getElem? (i := 228) rfl)) rfl
theorem iw_229 : (Jvm.Cond.selects "SeatProofs$Flow" ({ cls := "SeatProofs$Flow", name := "floodAll", desc := "()V" } : Jvm.MethodName) ({ cls := "SeatProofs$Flow", name := "floodAll", desc := "()V" } : Jvm.MethodName)) ∈ gT := mem_gT2 (tq_1 _ (List.mem_of_getElem? (i := 229) rfl)) rfl
theorem iw_230 : (Jvm.Cond.code ({ cls := "SeatProofs$Flow", name := "floodAll", desc := "()V" } : Jvm.MethodName) prog_2_method_4_code (2 : Nat) (Option.none : Option Jvm.ClassFile.FieldType)) ∈ gT := mem_gT2 (tq_1 _ (List.mem_of_getElem? (i := 230) rfl)) rfl
theorem iw_231 : (Jvm.Cond.methodLink "SeatProofs$Flow" (59 : Nat) ({ cls := "SeatProofs$Flow", name := "floodOf", desc := "(I)J" } : Jvm.MethodName)) ∈ gT := mem_gT2 (tq_1 _ (List.mem_of_getElem? (i := 231) rfl)) rfl
theorem iw_232 : (Jvm.Cond.instanceMethod ({ cls := "SeatProofs$Flow", name := "floodOf", desc := "(I)J" } : Jvm.MethodName)) ∈ gT := mem_gT2 (tq_1 _ (List.mem_of_getElem? (i := 232) rfl)) rfl
theorem iw_233 : (Jvm.Cond.selects "SeatProofs$Flow" ({ cls := "SeatProofs$Flow", name := "floodOf", desc := "(I)J" } : Jvm.MethodName) ({ cls := "SeatProofs$Flow", name := "floodOf", desc := "(I)J" } : Jvm.MethodName)) ∈ gT := mem_gT2 (tq_1 _ (List.mem_of_getElem? (i := 233) rfl)) rfl
theorem iw_234 : (Jvm.Cond.code ({ cls := "SeatProofs$Flow", name := "floodOf", desc := "(I)J" } : Jvm.MethodName) prog_2_method_5_code (9 : Nat) (Option.some Jvm.ClassFile.FieldType.long)) ∈ gT := mem_gT2 (tq_1 _ (List.mem_of_getElem? (i := 234) rfl)) rfl
theorem in_235 : (Jvm.Cond.methodLinkNest "SeatProofs$Flow" (65 : Nat) ({ cls := "SeatProofs", name := "lowest", desc := "(J)I" } : Jvm.MethodName) "SeatProofs") ∈ nT := mem_nT2 (tq_1 _ (List.mem_of_getElem? (i := 235) rfl)) rfl
theorem iw_236 : (Jvm.Cond.static ({ cls := "SeatProofs", name := "lowest", desc := "(J)I" } : Jvm.MethodName)) ∈ gT := mem_gT2 (tq_1 _ (List.mem_of_getElem? (i := 236) rfl)) rfl
theorem iw_237 : (Jvm.Cond.code ({ cls := "SeatProofs", name := "lowest", desc := "(J)I" } : Jvm.MethodName) prog_1_method_25_code (2 : Nat) (Option.some Jvm.ClassFile.FieldType.int)) ∈ gT := mem_gT2 (tq_1 _ (List.mem_of_getElem? (i := 237) rfl)) rfl
theorem iw_238 : (Jvm.Cond.methodLink "SeatProofs" (117 : Nat) ({ cls := "java/lang/Long", name := "bitCount", desc := "(J)I" } : Jvm.MethodName)) ∈ gT := mem_gT2 (tq_1 _ (List.mem_of_getElem? (i := 238) rfl)) rfl
theorem iw_239 : (Jvm.Cond.static ({ cls := "java/lang/Long", name := "bitCount", desc := "(J)I" } : Jvm.MethodName)) ∈ gT := mem_gT2 (tq_1 _ (List.mem_of_getElem? (i := 239) rfl)) rfl
theorem iw_240 : (Jvm.Cond.code ({ cls := "java/lang/Long", name := "bitCount", desc := "(J)I" } : Jvm.MethodName) prog_9_method_50_code (2 : Nat) (Option.some Jvm.ClassFile.FieldType.int)) ∈ gT := mem_gT2 (tq_2 _ (List.mem_of_getElem? (i := 0) rfl)) rfl
theorem iw_241 : (Jvm.Cond.constantLong "java/lang/Long" (314 : Nat) (6148914691236517205 : Int64)) ∈ gT := mem_gT2 (tq_2 _ (List.mem_of_getElem? (i := 1) rfl)) rfl
theorem iw_242 : (Jvm.Cond.constantLong "java/lang/Long" (316 : Nat) (3689348814741910323 : Int64)) ∈ gT := mem_gT2 (tq_2 _ (List.mem_of_getElem? (i := 2) rfl)) rfl
theorem iw_243 : (Jvm.Cond.constantLong "java/lang/Long" (318 : Nat) (1085102592571150095 : Int64)) ∈ gT := mem_gT2 (tq_2 _ (List.mem_of_getElem? (i := 3) rfl)) rfl
theorem iw_244 : (Jvm.Cond.constantLong "SeatProofs$Flow" (69 : Nat) (-1 : Int64)) ∈ gT := mem_gT2 (tq_2 _ (List.mem_of_getElem? (i := 4) rfl)) rfl
theorem iw_245 : (Jvm.Cond.methodLink "SeatProofs" (87 : Nat) ({ cls := "SeatProofs$Flow", name := "meetings", desc := "()J" } : Jvm.MethodName)) ∈ gT := mem_gT2 (tq_2 _ (List.mem_of_getElem? (i := 5) rfl)) rfl
theorem iw_246 : (Jvm.Cond.instanceMethod ({ cls := "SeatProofs$Flow", name := "meetings", desc := "()J" } : Jvm.MethodName)) ∈ gT := mem_gT2 (tq_2 _ (List.mem_of_getElem? (i := 6) rfl)) rfl
theorem iw_247 : (Jvm.Cond.selects "SeatProofs$Flow" ({ cls := "SeatProofs$Flow", name := "meetings", desc := "()J" } : Jvm.MethodName) ({ cls := "SeatProofs$Flow", name := "meetings", desc := "()J" } : Jvm.MethodName)) ∈ gT := mem_gT2 (tq_2 _ (List.mem_of_getElem? (i := 7) rfl)) rfl
theorem iw_248 : (Jvm.Cond.code ({ cls := "SeatProofs$Flow", name := "meetings", desc := "()J" } : Jvm.MethodName) prog_2_method_8_code (5 : Nat) (Option.some Jvm.ClassFile.FieldType.long)) ∈ gT := mem_gT2 (tq_2 _ (List.mem_of_getElem? (i := 8) rfl)) rfl
theorem iw_249 : (Jvm.Cond.methodLink "SeatProofs$Flow" (74 : Nat) ({ cls := "SeatProofs$Plant", name := "areFriends", desc := "(II)Z" } : Jvm.MethodName)) ∈ gT := mem_gT2 (tq_2 _ (List.mem_of_getElem? (i := 9) rfl)) rfl
theorem iw_250 : (Jvm.Cond.methodLink "SeatProofs" (91 : Nat) ({ cls := "SeatProofs", name := "lowest", desc := "(J)I" } : Jvm.MethodName)) ∈ gT := mem_gT2 (tq_2 _ (List.mem_of_getElem? (i := 10) rfl)) rfl
theorem iw_251 : (Jvm.Cond.methodLink "SeatProofs" (95 : Nat) ({ cls := "SeatProofs", name := "keepCulprit", desc := "(II)V" } : Jvm.MethodName)) ∈ gT := mem_gT2 (tq_2 _ (List.mem_of_getElem? (i := 11) rfl)) rfl
theorem iw_253 : (Jvm.Cond.instanceMethod ({ cls := "SeatProofs", name := "keepCulprit", desc := "(II)V" } : Jvm.MethodName)) ∈ gT := mem_gT2 (tq_2 _ (List.mem_of_getElem? (i := 13) rfl)) rfl
theorem iw_254 : (Jvm.Cond.code ({ cls := "SeatProofs", name := "keepCulprit", desc := "(II)V" } : Jvm.MethodName) prog_1_method_16_code (4 : Nat) (Option.none : Option Jvm.ClassFile.FieldType)) ∈ gT := mem_gT2 (tq_2 _ (List.mem_of_getElem? (i := 14) rfl)) rfl
theorem iw_255 : (Jvm.Cond.methodLink "SeatProofs" (172 : Nat) ({ cls := "SeatProofs$Flow", name := "leastClashing", desc := "(II)I" } : Jvm.MethodName)) ∈ gT := mem_gT2 (tq_2 _ (List.mem_of_getElem? (i := 15) rfl)) rfl
theorem iw_256 : (Jvm.Cond.instanceMethod ({ cls := "SeatProofs$Flow", name := "leastClashing", desc := "(II)I" } : Jvm.MethodName)) ∈ gT := mem_gT2 (tq_2 _ (List.mem_of_getElem? (i := 16) rfl)) rfl
theorem iw_257 : (Jvm.Cond.selects "SeatProofs$Flow" ({ cls := "SeatProofs$Flow", name := "leastClashing", desc := "(II)I" } : Jvm.MethodName) ({ cls := "SeatProofs$Flow", name := "leastClashing", desc := "(II)I" } : Jvm.MethodName)) ∈ gT := mem_gT2 (tq_2 _ (List.mem_of_getElem? (i := 17) rfl)) rfl
theorem iw_258 : (Jvm.Cond.code ({ cls := "SeatProofs$Flow", name := "leastClashing", desc := "(II)I" } : Jvm.MethodName) prog_2_method_9_code (5 : Nat) (Option.some Jvm.ClassFile.FieldType.int)) ∈ gT := mem_gT2 (tq_2 _ (List.mem_of_getElem? (i := 18) rfl)) rfl
theorem iw_259 : (Jvm.Cond.methodLink "SeatProofs$Flow" (78 : Nat) ({ cls := "SeatProofs$Flow", name := "clashes", desc := "(IJ)Z" } : Jvm.MethodName)) ∈ gT := mem_gT2 (tq_2 _ (List.mem_of_getElem? (i := 19) rfl)) rfl
theorem iw_260 : (Jvm.Cond.instanceMethod ({ cls := "SeatProofs$Flow", name := "clashes", desc := "(IJ)Z" } : Jvm.MethodName)) ∈ gT := mem_gT2 (tq_2 _ (List.mem_of_getElem? (i := 20) rfl)) rfl
theorem iw_261 : (Jvm.Cond.selects "SeatProofs$Flow" ({ cls := "SeatProofs$Flow", name := "clashes", desc := "(IJ)Z" } : Jvm.MethodName) ({ cls := "SeatProofs$Flow", name := "clashes", desc := "(IJ)Z" } : Jvm.MethodName)) ∈ gT := mem_gT2 (tq_2 _ (List.mem_of_getElem? (i := 21) rfl)) rfl
theorem iw_262 : (Jvm.Cond.code ({ cls := "SeatProofs$Flow", name := "clashes", desc := "(IJ)Z" } : Jvm.MethodName) prog_2_method_7_code (5 : Nat) (Option.some Jvm.ClassFile.FieldType.boolean)) ∈ gT := mem_gT2 (tq_2 _ (List.mem_of_getElem? (i := 22) rfl)) rfl
theorem iw_263 : (Jvm.Cond.methodLink "SeatProofs" (98 : Nat) ({ cls := "SeatProofs", name := "addRows", desc := "(I)V" } : Jvm.MethodName)) ∈ gT := mem_gT2 (tq_2 _ (List.mem_of_getElem? (i := 23) rfl)) rfl
theorem iw_265 : (Jvm.Cond.instanceMethod ({ cls := "SeatProofs", name := "addRows", desc := "(I)V" } : Jvm.MethodName)) ∈ gT := mem_gT2 (tq_2 _ (List.mem_of_getElem? (i := 25) rfl)) rfl
theorem iw_266 : (Jvm.Cond.code ({ cls := "SeatProofs", name := "addRows", desc := "(I)V" } : Jvm.MethodName) prog_1_method_17_code (5 : Nat) (Option.none : Option Jvm.ClassFile.FieldType)) ∈ gT := mem_gT2 (tq_2 _ (List.mem_of_getElem? (i := 26) rfl)) rfl
theorem iw_267 : (Jvm.Cond.methodLink "SeatProofs" (179 : Nat) ({ cls := "SeatProofs$Flow", name := "cutOf", desc := "(J)J" } : Jvm.MethodName)) ∈ gT := mem_gT2 (tq_2 _ (List.mem_of_getElem? (i := 27) rfl)) rfl
theorem iw_268 : (Jvm.Cond.instanceMethod ({ cls := "SeatProofs$Flow", name := "cutOf", desc := "(J)J" } : Jvm.MethodName)) ∈ gT := mem_gT2 (tq_2 _ (List.mem_of_getElem? (i := 28) rfl)) rfl
theorem iw_269 : (Jvm.Cond.selects "SeatProofs$Flow" ({ cls := "SeatProofs$Flow", name := "cutOf", desc := "(J)J" } : Jvm.MethodName) ({ cls := "SeatProofs$Flow", name := "cutOf", desc := "(J)J" } : Jvm.MethodName)) ∈ gT := mem_gT2 (tq_2 _ (List.mem_of_getElem? (i := 29) rfl)) rfl
theorem iw_270 : (Jvm.Cond.code ({ cls := "SeatProofs$Flow", name := "cutOf", desc := "(J)J" } : Jvm.MethodName) prog_2_method_6_code (11 : Nat) (Option.some Jvm.ClassFile.FieldType.long)) ∈ gT := mem_gT2 (tq_2 _ (List.mem_of_getElem? (i := 30) rfl)) rfl
theorem iw_271 : (Jvm.Cond.methodLink "SeatProofs" (183 : Nat) ({ cls := "SeatProofs$Proof", name := "add", desc := "(IIJJ)V" } : Jvm.MethodName)) ∈ gT := mem_gT2 (tq_2 _ (List.mem_of_getElem? (i := 31) rfl)) rfl
theorem iw_272 : (Jvm.Cond.instanceMethod ({ cls := "SeatProofs$Proof", name := "add", desc := "(IIJJ)V" } : Jvm.MethodName)) ∈ gT := mem_gT2 (tq_2 _ (List.mem_of_getElem? (i := 32) rfl)) rfl
theorem iw_273 : (Jvm.Cond.selects "SeatProofs$Proof" ({ cls := "SeatProofs$Proof", name := "add", desc := "(IIJJ)V" } : Jvm.MethodName) ({ cls := "SeatProofs$Proof", name := "add", desc := "(IIJJ)V" } : Jvm.MethodName)) ∈ gT := mem_gT2 (tq_2 _ (List.mem_of_getElem? (i := 33) rfl)) rfl
theorem iw_274 : (Jvm.Cond.code ({ cls := "SeatProofs$Proof", name := "add", desc := "(IIJJ)V" } : Jvm.MethodName) prog_4_method_4_code (7 : Nat) (Option.none : Option Jvm.ClassFile.FieldType)) ∈ gT := mem_gT2 (tq_2 _ (List.mem_of_getElem? (i := 34) rfl)) rfl
theorem iw_275 : (Jvm.Cond.methodLink "SeatProofsLaw" (49 : Nat) ({ cls := "SeatProofs", name := "culprit", desc := "(I)I" } : Jvm.MethodName)) ∈ gT := mem_gT2 (tq_2 _ (List.mem_of_getElem? (i := 35) rfl)) rfl
theorem iw_276 : (Jvm.Cond.instanceMethod ({ cls := "SeatProofs", name := "culprit", desc := "(I)I" } : Jvm.MethodName)) ∈ gT := mem_gT2 (tq_2 _ (List.mem_of_getElem? (i := 36) rfl)) rfl
theorem iw_277 : (Jvm.Cond.selects "SeatProofs" ({ cls := "SeatProofs", name := "culprit", desc := "(I)I" } : Jvm.MethodName) ({ cls := "SeatProofs", name := "culprit", desc := "(I)I" } : Jvm.MethodName)) ∈ gT := mem_gT2 (tq_2 _ (List.mem_of_getElem? (i := 37) rfl)) rfl
theorem iw_278 : (Jvm.Cond.code ({ cls := "SeatProofs", name := "culprit", desc := "(I)I" } : Jvm.MethodName) prog_1_method_7_code (2 : Nat) (Option.some Jvm.ClassFile.FieldType.int)) ∈ gT := mem_gT2 (tq_2 _ (List.mem_of_getElem? (i := 38) rfl)) rfl
theorem iw_279 : (Jvm.Cond.methodLink "SeatProofsLaw" (53 : Nat) ({ cls := "SeatProofs", name := "rows", desc := "()I" } : Jvm.MethodName)) ∈ gT := mem_gT2 (tq_2 _ (List.mem_of_getElem? (i := 39) rfl)) rfl
theorem iw_280 : (Jvm.Cond.instanceMethod ({ cls := "SeatProofs", name := "rows", desc := "()I" } : Jvm.MethodName)) ∈ gT := mem_gT2 (tq_2 _ (List.mem_of_getElem? (i := 40) rfl)) rfl
theorem iw_281 : (Jvm.Cond.selects "SeatProofs" ({ cls := "SeatProofs", name := "rows", desc := "()I" } : Jvm.MethodName) ({ cls := "SeatProofs", name := "rows", desc := "()I" } : Jvm.MethodName)) ∈ gT := mem_gT2 (tq_2 _ (List.mem_of_getElem? (i := 41) rfl)) rfl
theorem iw_282 : (Jvm.Cond.code ({ cls := "SeatProofs", name := "rows", desc := "()I" } : Jvm.MethodName) prog_1_method_8_code (1 : Nat) (Option.some Jvm.ClassFile.FieldType.int)) ∈ gT := mem_gT2 (tq_2 _ (List.mem_of_getElem? (i := 42) rfl)) rfl
theorem iw_283 : (Jvm.Cond.methodLink "SeatProofsLaw" (57 : Nat) ({ cls := "SeatProofs", name := "row", desc := "(II)I" } : Jvm.MethodName)) ∈ gT := mem_gT2 (tq_2 _ (List.mem_of_getElem? (i := 43) rfl)) rfl
theorem iw_284 : (Jvm.Cond.instanceMethod ({ cls := "SeatProofs", name := "row", desc := "(II)I" } : Jvm.MethodName)) ∈ gT := mem_gT2 (tq_2 _ (List.mem_of_getElem? (i := 44) rfl)) rfl
theorem iw_285 : (Jvm.Cond.selects "SeatProofs" ({ cls := "SeatProofs", name := "row", desc := "(II)I" } : Jvm.MethodName) ({ cls := "SeatProofs", name := "row", desc := "(II)I" } : Jvm.MethodName)) ∈ gT := mem_gT2 (tq_2 _ (List.mem_of_getElem? (i := 45) rfl)) rfl
theorem iw_286 : (Jvm.Cond.code ({ cls := "SeatProofs", name := "row", desc := "(II)I" } : Jvm.MethodName) prog_1_method_9_code (3 : Nat) (Option.some Jvm.ClassFile.FieldType.int)) ∈ gT := mem_gT2 (tq_2 _ (List.mem_of_getElem? (i := 46) rfl)) rfl
theorem iw_287 : (Jvm.Cond.methodLink "SeatProofs" (104 : Nat) ({ cls := "SeatProofs$Proof", name := "hasRow", desc := "(I)Z" } : Jvm.MethodName)) ∈ gT := mem_gT2 (tq_2 _ (List.mem_of_getElem? (i := 47) rfl)) rfl
theorem iw_288 : (Jvm.Cond.instanceMethod ({ cls := "SeatProofs$Proof", name := "hasRow", desc := "(I)Z" } : Jvm.MethodName)) ∈ gT := mem_gT2 (tq_2 _ (List.mem_of_getElem? (i := 48) rfl)) rfl
theorem iw_289 : (Jvm.Cond.selects "SeatProofs$Proof" ({ cls := "SeatProofs$Proof", name := "hasRow", desc := "(I)Z" } : Jvm.MethodName) ({ cls := "SeatProofs$Proof", name := "hasRow", desc := "(I)Z" } : Jvm.MethodName)) ∈ gT := mem_gT2 (tq_2 _ (List.mem_of_getElem? (i := 49) rfl)) rfl
theorem iw_290 : (Jvm.Cond.code ({ cls := "SeatProofs$Proof", name := "hasRow", desc := "(I)Z" } : Jvm.MethodName) prog_4_method_3_code (2 : Nat) (Option.some Jvm.ClassFile.FieldType.boolean)) ∈ gT := mem_gT2 (tq_2 _ (List.mem_of_getElem? (i := 50) rfl)) rfl
theorem iw_291 : (Jvm.Cond.methodLink "SeatProofs" (125 : Nat) ({ cls := "SeatProofs", name := "memberAt", desc := "(JI)I" } : Jvm.MethodName)) ∈ gT := mem_gT2 (tq_2 _ (List.mem_of_getElem? (i := 51) rfl)) rfl
theorem iw_292 : (Jvm.Cond.static ({ cls := "SeatProofs", name := "memberAt", desc := "(JI)I" } : Jvm.MethodName)) ∈ gT := mem_gT2 (tq_2 _ (List.mem_of_getElem? (i := 52) rfl)) rfl
theorem iw_293 : (Jvm.Cond.code ({ cls := "SeatProofs", name := "memberAt", desc := "(JI)I" } : Jvm.MethodName) prog_1_method_26_code (6 : Nat) (Option.some Jvm.ClassFile.FieldType.int)) ∈ gT := mem_gT2 (tq_2 _ (List.mem_of_getElem? (i := 53) rfl)) rfl
theorem iw_294 : (Jvm.Cond.methodLink "SeatProofsLaw" (62 : Nat) ({ cls := "SeatProofs", name := "check", desc := "()I" } : Jvm.MethodName)) ∈ gT := mem_gT2 (tq_2 _ (List.mem_of_getElem? (i := 54) rfl)) rfl
theorem iw_295 : (Jvm.Cond.instanceMethod ({ cls := "SeatProofs", name := "check", desc := "()I" } : Jvm.MethodName)) ∈ gT := mem_gT2 (tq_2 _ (List.mem_of_getElem? (i := 55) rfl)) rfl
theorem iw_296 : (Jvm.Cond.selects "SeatProofs" ({ cls := "SeatProofs", name := "check", desc := "()I" } : Jvm.MethodName) ({ cls := "SeatProofs", name := "check", desc := "()I" } : Jvm.MethodName)) ∈ gT := mem_gT2 (tq_2 _ (List.mem_of_getElem? (i := 56) rfl)) rfl
theorem iw_297 : (Jvm.Cond.code ({ cls := "SeatProofs", name := "check", desc := "()I" } : Jvm.MethodName) prog_1_method_10_code (3 : Nat) (Option.some Jvm.ClassFile.FieldType.int)) ∈ gT := mem_gT2 (tq_2 _ (List.mem_of_getElem? (i := 57) rfl)) rfl
theorem iw_298 : (Jvm.Cond.methodLink "SeatProofs" (129 : Nat) ({ cls := "SeatProofs", name := "isRight", desc := "(I)Z" } : Jvm.MethodName)) ∈ gT := mem_gT2 (tq_2 _ (List.mem_of_getElem? (i := 58) rfl)) rfl
theorem iw_300 : (Jvm.Cond.instanceMethod ({ cls := "SeatProofs", name := "isRight", desc := "(I)Z" } : Jvm.MethodName)) ∈ gT := mem_gT2 (tq_2 _ (List.mem_of_getElem? (i := 60) rfl)) rfl
theorem iw_301 : (Jvm.Cond.code ({ cls := "SeatProofs", name := "isRight", desc := "(I)Z" } : Jvm.MethodName) prog_1_method_18_code (5 : Nat) (Option.some Jvm.ClassFile.FieldType.boolean)) ∈ gT := mem_gT2 (tq_2 _ (List.mem_of_getElem? (i := 61) rfl)) rfl
theorem iw_302 : (Jvm.Cond.methodLink "SeatProofs" (187 : Nat) ({ cls := "SeatProofs$Flow", name := "clashes", desc := "(IJ)Z" } : Jvm.MethodName)) ∈ gT := mem_gT2 (tq_2 _ (List.mem_of_getElem? (i := 62) rfl)) rfl
theorem iw_303 : (Jvm.Cond.methodLink "SeatProofs" (132 : Nat) ({ cls := "SeatProofs$Plant", name := "rowsDue", desc := "()I" } : Jvm.MethodName)) ∈ gT := mem_gT2 (tq_2 _ (List.mem_of_getElem? (i := 63) rfl)) rfl
theorem iw_304 : (Jvm.Cond.instanceMethod ({ cls := "SeatProofs$Plant", name := "rowsDue", desc := "()I" } : Jvm.MethodName)) ∈ gT := mem_gT2 (tq_2 _ (List.mem_of_getElem? (i := 64) rfl)) rfl
theorem iw_305 : (Jvm.Cond.selects "SeatProofs$Plant" ({ cls := "SeatProofs$Plant", name := "rowsDue", desc := "()I" } : Jvm.MethodName) ({ cls := "SeatProofs$Plant", name := "rowsDue", desc := "()I" } : Jvm.MethodName)) ∈ gT := mem_gT2 (tq_2 _ (List.mem_of_getElem? (i := 65) rfl)) rfl
theorem iw_306 : (Jvm.Cond.code ({ cls := "SeatProofs$Plant", name := "rowsDue", desc := "()I" } : Jvm.MethodName) prog_3_method_14_code (3 : Nat) (Option.some Jvm.ClassFile.FieldType.int)) ∈ gT := mem_gT2 (tq_2 _ (List.mem_of_getElem? (i := 66) rfl)) rfl
theorem iw_307 : (Jvm.Cond.methodLink "SeatProofsLaw" (75 : Nat) ({ cls := "SeatProofs", name := "tested", desc := "()I" } : Jvm.MethodName)) ∈ gT := mem_gT2 (tq_2 _ (List.mem_of_getElem? (i := 67) rfl)) rfl
theorem iw_308 : (Jvm.Cond.instanceMethod ({ cls := "SeatProofs", name := "tested", desc := "()I" } : Jvm.MethodName)) ∈ gT := mem_gT2 (tq_2 _ (List.mem_of_getElem? (i := 68) rfl)) rfl
theorem iw_309 : (Jvm.Cond.selects "SeatProofs" ({ cls := "SeatProofs", name := "tested", desc := "()I" } : Jvm.MethodName) ({ cls := "SeatProofs", name := "tested", desc := "()I" } : Jvm.MethodName)) ∈ gT := mem_gT2 (tq_2 _ (List.mem_of_getElem? (i := 69) rfl)) rfl
theorem iw_310 : (Jvm.Cond.code ({ cls := "SeatProofs", name := "tested", desc := "()I" } : Jvm.MethodName) prog_1_method_13_code (1 : Nat) (Option.some Jvm.ClassFile.FieldType.int)) ∈ gT := mem_gT2 (tq_2 _ (List.mem_of_getElem? (i := 70) rfl)) rfl
theorem iw_311 : (Jvm.Cond.methodLink "SeatProofsLaw" (79 : Nat) ({ cls := "SeatProofs", name := "drop", desc := "(I)Z" } : Jvm.MethodName)) ∈ gT := mem_gT2 (tq_2 _ (List.mem_of_getElem? (i := 71) rfl)) rfl
theorem iw_312 : (Jvm.Cond.instanceMethod ({ cls := "SeatProofs", name := "drop", desc := "(I)Z" } : Jvm.MethodName)) ∈ gT := mem_gT2 (tq_2 _ (List.mem_of_getElem? (i := 72) rfl)) rfl
theorem iw_313 : (Jvm.Cond.selects "SeatProofs" ({ cls := "SeatProofs", name := "drop", desc := "(I)Z" } : Jvm.MethodName) ({ cls := "SeatProofs", name := "drop", desc := "(I)Z" } : Jvm.MethodName)) ∈ gT := mem_gT2 (tq_2 _ (List.mem_of_getElem? (i := 73) rfl)) rfl
theorem iw_314 : (Jvm.Cond.code ({ cls := "SeatProofs", name := "drop", desc := "(I)Z" } : Jvm.MethodName) prog_1_method_14_code (2 : Nat) (Option.some Jvm.ClassFile.FieldType.boolean)) ∈ gT := mem_gT2 (tq_2 _ (List.mem_of_getElem? (i := 74) rfl)) rfl
theorem iw_315 : (Jvm.Cond.methodLink "SeatProofs" (168 : Nat) ({ cls := "SeatProofs$Proof", name := "remove", desc := "(I)V" } : Jvm.MethodName)) ∈ gT := mem_gT2 (tq_2 _ (List.mem_of_getElem? (i := 75) rfl)) rfl
theorem iw_316 : (Jvm.Cond.instanceMethod ({ cls := "SeatProofs$Proof", name := "remove", desc := "(I)V" } : Jvm.MethodName)) ∈ gT := mem_gT2 (tq_2 _ (List.mem_of_getElem? (i := 76) rfl)) rfl
theorem iw_317 : (Jvm.Cond.selects "SeatProofs$Proof" ({ cls := "SeatProofs$Proof", name := "remove", desc := "(I)V" } : Jvm.MethodName) ({ cls := "SeatProofs$Proof", name := "remove", desc := "(I)V" } : Jvm.MethodName)) ∈ gT := mem_gT2 (tq_2 _ (List.mem_of_getElem? (i := 77) rfl)) rfl
theorem iw_318 : (Jvm.Cond.code ({ cls := "SeatProofs$Proof", name := "remove", desc := "(I)V" } : Jvm.MethodName) prog_4_method_5_code (3 : Nat) (Option.none : Option Jvm.ClassFile.FieldType)) ∈ gT := mem_gT2 (tq_2 _ (List.mem_of_getElem? (i := 78) rfl)) rfl
theorem iw_319 : (Jvm.Cond.methodLink "SeatProofs$Proof" (29 : Nat) ({ cls := "java/lang/System", name := "arraycopy", desc := "(Ljava/lang/Object;ILjava/lang/Object;II)V" } : Jvm.MethodName)) ∈ gT := mem_gT2 (tq_2 _ (List.mem_of_getElem? (i := 79) rfl)) rfl
theorem iw_320 : (Jvm.Cond.static ({ cls := "java/lang/System", name := "arraycopy", desc := "(Ljava/lang/Object;ILjava/lang/Object;II)V" } : Jvm.MethodName)) ∈ gT := mem_gT2 (tq_2 _ (List.mem_of_getElem? (i := 80) rfl)) rfl
theorem iw_321 : (Jvm.Cond.native ({ cls := "java/lang/System", name := "arraycopy", desc := "(Ljava/lang/Object;ILjava/lang/Object;II)V" } : Jvm.MethodName)) ∈ gT := mem_gT2 (tq_2 _ (List.mem_of_getElem? (i := 81) rfl)) rfl
theorem iw_322 : (Jvm.Cond.methodLink "SeatProofsLaw" (84 : Nat) ({ cls := "SeatProofs", name := "clear", desc := "()V" } : Jvm.MethodName)) ∈ gT := mem_gT2 (tq_2 _ (List.mem_of_getElem? (i := 82) rfl)) rfl
theorem iw_323 : (Jvm.Cond.instanceMethod ({ cls := "SeatProofs", name := "clear", desc := "()V" } : Jvm.MethodName)) ∈ gT := mem_gT2 (tq_2 _ (List.mem_of_getElem? (i := 83) rfl)) rfl
theorem iw_324 : (Jvm.Cond.selects "SeatProofs" ({ cls := "SeatProofs", name := "clear", desc := "()V" } : Jvm.MethodName) ({ cls := "SeatProofs", name := "clear", desc := "()V" } : Jvm.MethodName)) ∈ gT := mem_gT2 (tq_2 _ (List.mem_of_getElem? (i := 84) rfl)) rfl
theorem iw_325 : (Jvm.Cond.code ({ cls := "SeatProofs", name := "clear", desc := "()V" } : Jvm.MethodName) prog_1_method_15_code (1 : Nat) (Option.none : Option Jvm.ClassFile.FieldType)) ∈ gT := mem_gT2 (tq_2 _ (List.mem_of_getElem? (i := 85) rfl)) rfl
theorem iw_326 : (Jvm.Cond.methodLink "SeatProofs" (171 : Nat) ({ cls := "SeatProofs$Plant", name := "empty", desc := "()V" } : Jvm.MethodName)) ∈ gT := mem_gT2 (tq_2 _ (List.mem_of_getElem? (i := 86) rfl)) rfl
theorem iw_327 : (Jvm.Cond.instanceMethod ({ cls := "SeatProofs$Plant", name := "empty", desc := "()V" } : Jvm.MethodName)) ∈ gT := mem_gT2 (tq_2 _ (List.mem_of_getElem? (i := 87) rfl)) rfl
theorem iw_328 : (Jvm.Cond.selects "SeatProofs$Plant" ({ cls := "SeatProofs$Plant", name := "empty", desc := "()V" } : Jvm.MethodName) ({ cls := "SeatProofs$Plant", name := "empty", desc := "()V" } : Jvm.MethodName)) ∈ gT := mem_gT2 (tq_2 _ (List.mem_of_getElem? (i := 88) rfl)) rfl
theorem iw_329 : (Jvm.Cond.code ({ cls := "SeatProofs$Plant", name := "empty", desc := "()V" } : Jvm.MethodName) prog_3_method_2_code (2 : Nat) (Option.none : Option Jvm.ClassFile.FieldType)) ∈ gT := mem_gT2 (tq_2 _ (List.mem_of_getElem? (i := 89) rfl)) rfl
theorem iw_330 : (Jvm.Cond.methodLink "SeatProofsLaw" (66 : Nat) ({ cls := "SeatProofsLaw", name := "set", desc := "(LSeatProofs;IZ[J)I" } : Jvm.MethodName)) ∈ gT := mem_gT2 (tq_2 _ (List.mem_of_getElem? (i := 90) rfl)) rfl
theorem iw_331 : (Jvm.Cond.static ({ cls := "SeatProofsLaw", name := "set", desc := "(LSeatProofs;IZ[J)I" } : Jvm.MethodName)) ∈ gT := mem_gT2 (tq_2 _ (List.mem_of_getElem? (i := 91) rfl)) rfl
theorem iw_333 : (Jvm.Cond.classLink "SeatProofsLaw" (13 : Nat) "java/lang/IndexOutOfBoundsException") ∈ gT := mem_gT2 (tq_2 _ (List.mem_of_getElem? (i := 93) rfl)) rfl
theorem iw_334 : (Jvm.Cond.methodLink "SeatProofsLaw" (7 : Nat) ({ cls := "SeatProofs", name := "set", desc := "(IZ)Z" } : Jvm.MethodName)) ∈ gT := mem_gT2 (tq_2 _ (List.mem_of_getElem? (i := 94) rfl)) rfl
theorem iw_335 : (Jvm.Cond.instanceMethod ({ cls := "SeatProofs", name := "set", desc := "(IZ)Z" } : Jvm.MethodName)) ∈ gT := mem_gT2 (tq_2 _ (List.mem_of_getElem? (i := 95) rfl)) rfl
theorem iw_336 : (Jvm.Cond.selects "SeatProofs" ({ cls := "SeatProofs", name := "set", desc := "(IZ)Z" } : Jvm.MethodName) ({ cls := "SeatProofs", name := "set", desc := "(IZ)Z" } : Jvm.MethodName)) ∈ gT := mem_gT2 (tq_2 _ (List.mem_of_getElem? (i := 96) rfl)) rfl
theorem iw_337 : (Jvm.Cond.code ({ cls := "SeatProofs", name := "set", desc := "(IZ)Z" } : Jvm.MethodName) prog_1_method_11_code (3 : Nat) (Option.some Jvm.ClassFile.FieldType.boolean)) ∈ gT := mem_gT2 (tq_2 _ (List.mem_of_getElem? (i := 97) rfl)) rfl
theorem iw_338 : (Jvm.Cond.methodLink "SeatProofs" (136 : Nat) ({ cls := "SeatProofs$Plant", name := "hasValve", desc := "(I)Z" } : Jvm.MethodName)) ∈ gT := mem_gT2 (tq_2 _ (List.mem_of_getElem? (i := 98) rfl)) rfl
theorem iw_339 : (Jvm.Cond.instanceMethod ({ cls := "SeatProofs$Plant", name := "hasValve", desc := "(I)Z" } : Jvm.MethodName)) ∈ gT := mem_gT2 (tq_2 _ (List.mem_of_getElem? (i := 99) rfl)) rfl
theorem iw_340 : (Jvm.Cond.selects "SeatProofs$Plant" ({ cls := "SeatProofs$Plant", name := "hasValve", desc := "(I)Z" } : Jvm.MethodName) ({ cls := "SeatProofs$Plant", name := "hasValve", desc := "(I)Z" } : Jvm.MethodName)) ∈ gT := mem_gT2 (tq_2 _ (List.mem_of_getElem? (i := 100) rfl)) rfl
theorem iw_341 : (Jvm.Cond.code ({ cls := "SeatProofs$Plant", name := "hasValve", desc := "(I)Z" } : Jvm.MethodName) prog_3_method_4_code (2 : Nat) (Option.some Jvm.ClassFile.FieldType.boolean)) ∈ gT := mem_gT2 (tq_2 _ (List.mem_of_getElem? (i := 101) rfl)) rfl
theorem iw_342 : (Jvm.Cond.classLink "SeatProofs" (139 : Nat) "java/lang/IndexOutOfBoundsException") ∈ gT := mem_gT2 (tq_2 _ (List.mem_of_getElem? (i := 102) rfl)) rfl
theorem iw_343 : (Jvm.Cond.instantiable "java/lang/IndexOutOfBoundsException" (6 : Nat)) ∈ gT := mem_gT2 (tq_2 _ (List.mem_of_getElem? (i := 103) rfl)) rfl
theorem iw_353 : (Jvm.Cond.lays "java/lang/IndexOutOfBoundsException" "java/lang/Throwable" "cause" "Ljava/lang/Throwable;") ∈ gT := mem_gT2 (tq_2 _ (List.mem_of_getElem? (i := 113) rfl)) rfl
theorem iw_355 : (Jvm.Cond.lays "java/lang/IndexOutOfBoundsException" "java/lang/Throwable" "stackTrace" "[Ljava/lang/StackTraceElement;") ∈ gT := mem_gT2 (tq_2 _ (List.mem_of_getElem? (i := 115) rfl)) rfl
theorem iw_357 : (Jvm.Cond.lays "java/lang/IndexOutOfBoundsException" "java/lang/Throwable" "suppressedExceptions" "Ljava/util/List;") ∈ gT := mem_gT2 (tq_2 _ (List.mem_of_getElem? (i := 117) rfl)) rfl
theorem iw_359 : (Jvm.Cond.lays "java/lang/IndexOutOfBoundsException" "java/lang/Throwable" "detailMessage" "Ljava/lang/String;") ∈ gT := mem_gT2 (tq_2 _ (List.mem_of_getElem? (i := 119) rfl)) rfl
theorem iw_361 : (Jvm.Cond.lays "java/lang/IndexOutOfBoundsException" "java/lang/Throwable" "backtrace" "Ljava/lang/Object;") ∈ gT := mem_gT2 (tq_2 _ (List.mem_of_getElem? (i := 121) rfl)) rfl
theorem iw_403 : (Jvm.Cond.lays "java/lang/IndexOutOfBoundsException" "java/lang/Throwable" "depth" "I") ∈ gT := mem_gT2 (tq_2 _ (List.mem_of_getElem? (i := 163) rfl)) rfl
theorem iw_408 : (Jvm.Cond.methodLink "SeatProofs" (146 : Nat) ({ cls := "SeatProofs$Plant", name := "turn", desc := "(IZ)V" } : Jvm.MethodName)) ∈ gT := mem_gT2 (tq_2 _ (List.mem_of_getElem? (i := 168) rfl)) rfl
theorem iw_409 : (Jvm.Cond.methodLink "SeatProofs" (150 : Nat) ({ cls := "SeatProofs", name := "remakeTouched", desc := "(I)I" } : Jvm.MethodName)) ∈ gT := mem_gT2 (tq_2 _ (List.mem_of_getElem? (i := 169) rfl)) rfl
theorem iw_411 : (Jvm.Cond.instanceMethod ({ cls := "SeatProofs", name := "remakeTouched", desc := "(I)I" } : Jvm.MethodName)) ∈ gT := mem_gT2 (tq_2 _ (List.mem_of_getElem? (i := 171) rfl)) rfl
theorem iw_412 : (Jvm.Cond.code ({ cls := "SeatProofs", name := "remakeTouched", desc := "(I)I" } : Jvm.MethodName) prog_1_method_19_code (5 : Nat) (Option.some Jvm.ClassFile.FieldType.int)) ∈ gT := mem_gT2 (tq_2 _ (List.mem_of_getElem? (i := 172) rfl)) rfl
theorem iw_413 : (Jvm.Cond.methodLink "SeatProofs" (191 : Nat) ({ cls := "SeatProofs", name := "isTouched", desc := "(II)Z" } : Jvm.MethodName)) ∈ gT := mem_gT2 (tq_2 _ (List.mem_of_getElem? (i := 173) rfl)) rfl
theorem iw_415 : (Jvm.Cond.instanceMethod ({ cls := "SeatProofs", name := "isTouched", desc := "(II)Z" } : Jvm.MethodName)) ∈ gT := mem_gT2 (tq_2 _ (List.mem_of_getElem? (i := 175) rfl)) rfl
theorem iw_416 : (Jvm.Cond.code ({ cls := "SeatProofs", name := "isTouched", desc := "(II)Z" } : Jvm.MethodName) prog_1_method_20_code (3 : Nat) (Option.some Jvm.ClassFile.FieldType.boolean)) ∈ gT := mem_gT2 (tq_2 _ (List.mem_of_getElem? (i := 176) rfl)) rfl
theorem iw_417 : (Jvm.Cond.methodLink "SeatProofs" (161 : Nat) ({ cls := "SeatProofs", name := "has", desc := "(JI)Z" } : Jvm.MethodName)) ∈ gT := mem_gT2 (tq_2 _ (List.mem_of_getElem? (i := 177) rfl)) rfl
theorem iw_418 : (Jvm.Cond.methodLink "SeatProofs" (194 : Nat) ({ cls := "SeatProofs$Flow", name := "floodOf", desc := "(I)J" } : Jvm.MethodName)) ∈ gT := mem_gT2 (tq_2 _ (List.mem_of_getElem? (i := 178) rfl)) rfl
theorem iw_419 : (Jvm.Cond.methodLink "SeatProofs" (153 : Nat) ({ cls := "SeatProofs", name := "rowsClash", desc := "()Z" } : Jvm.MethodName)) ∈ gT := mem_gT2 (tq_2 _ (List.mem_of_getElem? (i := 179) rfl)) rfl
theorem iw_421 : (Jvm.Cond.instanceMethod ({ cls := "SeatProofs", name := "rowsClash", desc := "()Z" } : Jvm.MethodName)) ∈ gT := mem_gT2 (tq_2 _ (List.mem_of_getElem? (i := 181) rfl)) rfl
theorem iw_422 : (Jvm.Cond.code ({ cls := "SeatProofs", name := "rowsClash", desc := "()Z" } : Jvm.MethodName) prog_1_method_21_code (3 : Nat) (Option.some Jvm.ClassFile.FieldType.boolean)) ∈ gT := mem_gT2 (tq_2 _ (List.mem_of_getElem? (i := 182) rfl)) rfl
theorem iw_423 : (Jvm.Cond.methodLink "SeatProofsLaw" (72 : Nat) ({ cls := "SeatProofsLaw", name := "unsure", desc := "(LSeatProofs;IZ[J)I" } : Jvm.MethodName)) ∈ gT := mem_gT2 (tq_2 _ (List.mem_of_getElem? (i := 183) rfl)) rfl
theorem iw_424 : (Jvm.Cond.static ({ cls := "SeatProofsLaw", name := "unsure", desc := "(LSeatProofs;IZ[J)I" } : Jvm.MethodName)) ∈ gT := mem_gT2 (tq_2 _ (List.mem_of_getElem? (i := 184) rfl)) rfl
theorem iw_426 : (Jvm.Cond.methodLink "SeatProofsLaw" (15 : Nat) ({ cls := "SeatProofs", name := "unsure", desc := "(IZ)Z" } : Jvm.MethodName)) ∈ gT := mem_gT2 (tq_2 _ (List.mem_of_getElem? (i := 186) rfl)) rfl
theorem iw_427 : (Jvm.Cond.instanceMethod ({ cls := "SeatProofs", name := "unsure", desc := "(IZ)Z" } : Jvm.MethodName)) ∈ gT := mem_gT2 (tq_2 _ (List.mem_of_getElem? (i := 187) rfl)) rfl
theorem iw_428 : (Jvm.Cond.selects "SeatProofs" ({ cls := "SeatProofs", name := "unsure", desc := "(IZ)Z" } : Jvm.MethodName) ({ cls := "SeatProofs", name := "unsure", desc := "(IZ)Z" } : Jvm.MethodName)) ∈ gT := mem_gT2 (tq_2 _ (List.mem_of_getElem? (i := 188) rfl)) rfl
theorem iw_429 : (Jvm.Cond.code ({ cls := "SeatProofs", name := "unsure", desc := "(IZ)Z" } : Jvm.MethodName) prog_1_method_12_code (3 : Nat) (Option.some Jvm.ClassFile.FieldType.boolean)) ∈ gT := mem_gT2 (tq_2 _ (List.mem_of_getElem? (i := 189) rfl)) rfl
theorem iw_430 : (Jvm.Cond.methodLink "SeatProofs" (165 : Nat) ({ cls := "SeatProofs$Plant", name := "doubt", desc := "(IZ)V" } : Jvm.MethodName)) ∈ gT := mem_gT2 (tq_2 _ (List.mem_of_getElem? (i := 190) rfl)) rfl
theorem iw_431 : (Jvm.Cond.instanceMethod ({ cls := "SeatProofs$Plant", name := "doubt", desc := "(IZ)V" } : Jvm.MethodName)) ∈ gT := mem_gT2 (tq_2 _ (List.mem_of_getElem? (i := 191) rfl)) rfl
theorem iw_432 : (Jvm.Cond.selects "SeatProofs$Plant" ({ cls := "SeatProofs$Plant", name := "doubt", desc := "(IZ)V" } : Jvm.MethodName) ({ cls := "SeatProofs$Plant", name := "doubt", desc := "(IZ)V" } : Jvm.MethodName)) ∈ gT := mem_gT2 (tq_2 _ (List.mem_of_getElem? (i := 192) rfl)) rfl
theorem iw_433 : (Jvm.Cond.code ({ cls := "SeatProofs$Plant", name := "doubt", desc := "(IZ)V" } : Jvm.MethodName) prog_3_method_10_code (3 : Nat) (Option.none : Option Jvm.ClassFile.FieldType)) ∈ gT := mem_gT2 (tq_2 _ (List.mem_of_getElem? (i := 193) rfl)) rfl
theorem iw_434 : (Jvm.Cond.classLink "SeatProofsLaw" (19 : Nat) "SeatProofsModel") ∈ gT := mem_gT2 (tq_2 _ (List.mem_of_getElem? (i := 194) rfl)) rfl
theorem iw_435 : (Jvm.Cond.instantiable "SeatProofsModel" (20 : Nat)) ∈ gT := mem_gT2 (tq_2 _ (List.mem_of_getElem? (i := 195) rfl)) rfl
theorem iw_436 : (Jvm.Cond.methodLink "SeatProofsLaw" (21 : Nat) ({ cls := "SeatProofsModel", name := "<init>", desc := "()V" } : Jvm.MethodName)) ∈ gT := mem_gT2 (tq_2 _ (List.mem_of_getElem? (i := 196) rfl)) rfl
theorem iw_437 : (Jvm.Cond.instanceMethod ({ cls := "SeatProofsModel", name := "<init>", desc := "()V" } : Jvm.MethodName)) ∈ gT := mem_gT2 (tq_2 _ (List.mem_of_getElem? (i := 197) rfl)) rfl
theorem iw_438 : (Jvm.Cond.code ({ cls := "SeatProofsModel", name := "<init>", desc := "()V" } : Jvm.MethodName) prog_6_method_1_code (1 : Nat) (Option.none : Option Jvm.ClassFile.FieldType)) ∈ gT := mem_gT2 (tq_2 _ (List.mem_of_getElem? (i := 198) rfl)) rfl
theorem iw_439 : (Jvm.Cond.methodLink "SeatProofsModel" (1 : Nat) ({ cls := "java/lang/Object", name := "<init>", desc := "()V" } : Jvm.MethodName)) ∈ gT := mem_gT2 (tq_2 _ (List.mem_of_getElem? (i := 199) rfl)) rfl
theorem iw_440 : (Jvm.Cond.fieldLink "SeatProofsModel" (9 : Nat) "SeatProofsModel" "liquids" "[I") ∈ gT := mem_gT2 (tq_2 _ (List.mem_of_getElem? (i := 200) rfl)) rfl
theorem iw_441 : (Jvm.Cond.fieldLink "SeatProofsModel" (13 : Nat) "SeatProofsModel" "levels" "[J") ∈ gT := mem_gT2 (tq_2 _ (List.mem_of_getElem? (i := 201) rfl)) rfl
theorem iw_442 : (Jvm.Cond.fieldLink "SeatProofsModel" (58 : Nat) "SeatProofsModel" "spaces" "I") ∈ gT := mem_gT2 (tq_2 _ (List.mem_of_getElem? (i := 202) rfl)) rfl
theorem iw_443 : (Jvm.Cond.fieldLink "SeatProofsModel" (17 : Nat) "SeatProofsModel" "firsts" "[I") ∈ gT := mem_gT2 (tq_2 _ (List.mem_of_getElem? (i := 203) rfl)) rfl
theorem iw_444 : (Jvm.Cond.fieldLink "SeatProofsModel" (20 : Nat) "SeatProofsModel" "seconds" "[I") ∈ gT := mem_gT2 (tq_2 _ (List.mem_of_getElem? (i := 204) rfl)) rfl
theorem iw_445 : (Jvm.Cond.fieldLink "SeatProofsModel" (23 : Nat) "SeatProofsModel" "seats" "[I") ∈ gT := mem_gT2 (tq_2 _ (List.mem_of_getElem? (i := 205) rfl)) rfl
theorem iw_446 : (Jvm.Cond.fieldLink "SeatProofsModel" (26 : Nat) "SeatProofsModel" "opens" "[Z") ∈ gT := mem_gT2 (tq_2 _ (List.mem_of_getElem? (i := 206) rfl)) rfl
theorem iw_447 : (Jvm.Cond.fieldLink "SeatProofsModel" (30 : Nat) "SeatProofsModel" "doubts" "[Z") ∈ gT := mem_gT2 (tq_2 _ (List.mem_of_getElem? (i := 207) rfl)) rfl
theorem iw_448 : (Jvm.Cond.fieldLink "SeatProofsModel" (68 : Nat) "SeatProofsModel" "valves" "I") ∈ gT := mem_gT2 (tq_2 _ (List.mem_of_getElem? (i := 208) rfl)) rfl
theorem iw_449 : (Jvm.Cond.fieldLink "SeatProofsModel" (33 : Nat) "SeatProofsModel" "mays" "[Z") ∈ gT := mem_gT2 (tq_2 _ (List.mem_of_getElem? (i := 209) rfl)) rfl
theorem iw_450 : (Jvm.Cond.fieldLink "SeatProofsModel" (61 : Nat) "SeatProofsModel" "rows" "I") ∈ gT := mem_gT2 (tq_2 _ (List.mem_of_getElem? (i := 210) rfl)) rfl
theorem iw_451 : (Jvm.Cond.fieldLink "SeatProofsModel" (36 : Nat) "SeatProofsModel" "failures" "[I") ∈ gT := mem_gT2 (tq_2 _ (List.mem_of_getElem? (i := 211) rfl)) rfl
theorem iw_452 : (Jvm.Cond.fieldLink "SeatProofsModel" (39 : Nat) "SeatProofsModel" "of" "[I") ∈ gT := mem_gT2 (tq_2 _ (List.mem_of_getElem? (i := 212) rfl)) rfl
theorem iw_453 : (Jvm.Cond.fieldLink "SeatProofsModel" (42 : Nat) "SeatProofsModel" "floods" "[J") ∈ gT := mem_gT2 (tq_2 _ (List.mem_of_getElem? (i := 213) rfl)) rfl
theorem iw_454 : (Jvm.Cond.fieldLink "SeatProofsModel" (45 : Nat) "SeatProofsModel" "cuts" "[J") ∈ gT := mem_gT2 (tq_2 _ (List.mem_of_getElem? (i := 214) rfl)) rfl
theorem iw_455 : (Jvm.Cond.fieldLink "SeatProofsModel" (48 : Nat) "SeatProofsModel" "culprit" "[I") ∈ gT := mem_gT2 (tq_2 _ (List.mem_of_getElem? (i := 215) rfl)) rfl
theorem iw_456 : (Jvm.Cond.fieldLink "SeatProofsModel" (79 : Nat) "SeatProofsModel" "guilty" "Z") ∈ gT := mem_gT2 (tq_2 _ (List.mem_of_getElem? (i := 216) rfl)) rfl
theorem iw_457 : (Jvm.Cond.fieldLink "SeatProofsModel" (104 : Nat) "SeatProofsModel" "tested" "I") ∈ gT := mem_gT2 (tq_2 _ (List.mem_of_getElem? (i := 217) rfl)) rfl
theorem iw_458 : (Jvm.Cond.fieldLink "SeatProofsModel" (54 : Nat) "SeatProofsModel" "thrown" "I") ∈ gT := mem_gT2 (tq_2 _ (List.mem_of_getElem? (i := 218) rfl)) rfl
theorem iw_459 : (Jvm.Cond.fieldLink "SeatProofsModel" (51 : Nat) "SeatProofsModel" "wet" "[Z") ∈ gT := mem_gT2 (tq_2 _ (List.mem_of_getElem? (i := 219) rfl)) rfl
theorem iw_460 : (Jvm.Cond.laysFinal "SeatProofsModel" "SeatProofsModel" "liquids" "[I") ∈ gT := mem_gT2 (tq_2 _ (List.mem_of_getElem? (i := 220) rfl)) rfl
theorem iw_462 : (Jvm.Cond.laysFinal "SeatProofsModel" "SeatProofsModel" "levels" "[J") ∈ gT := mem_gT2 (tq_2 _ (List.mem_of_getElem? (i := 222) rfl)) rfl
theorem iw_464 : (Jvm.Cond.lays "SeatProofsModel" "SeatProofsModel" "spaces" "I") ∈ gT := mem_gT2 (tq_2 _ (List.mem_of_getElem? (i := 224) rfl)) rfl
theorem iw_466 : (Jvm.Cond.laysFinal "SeatProofsModel" "SeatProofsModel" "firsts" "[I") ∈ gT := mem_gT2 (tq_2 _ (List.mem_of_getElem? (i := 226) rfl)) rfl
theorem iw_468 : (Jvm.Cond.laysFinal "SeatProofsModel" "SeatProofsModel" "seconds" "[I") ∈ gT := mem_gT2 (tq_2 _ (List.mem_of_getElem? (i := 228) rfl)) rfl
theorem iw_470 : (Jvm.Cond.laysFinal "SeatProofsModel" "SeatProofsModel" "seats" "[I") ∈ gT := mem_gT2 (tq_2 _ (List.mem_of_getElem? (i := 230) rfl)) rfl
theorem iw_472 : (Jvm.Cond.laysFinal "SeatProofsModel" "SeatProofsModel" "opens" "[Z") ∈ gT := mem_gT2 (tq_2 _ (List.mem_of_getElem? (i := 232) rfl)) rfl
theorem iw_474 : (Jvm.Cond.laysFinal "SeatProofsModel" "SeatProofsModel" "doubts" "[Z") ∈ gT := mem_gT2 (tq_2 _ (List.mem_of_getElem? (i := 234) rfl)) rfl
theorem iw_476 : (Jvm.Cond.lays "SeatProofsModel" "SeatProofsModel" "valves" "I") ∈ gT := mem_gT2 (tq_2 _ (List.mem_of_getElem? (i := 236) rfl)) rfl
theorem iw_478 : (Jvm.Cond.laysFinal "SeatProofsModel" "SeatProofsModel" "mays" "[Z") ∈ gT := mem_gT2 (tq_2 _ (List.mem_of_getElem? (i := 238) rfl)) rfl
theorem iw_480 : (Jvm.Cond.lays "SeatProofsModel" "SeatProofsModel" "rows" "I") ∈ gT := mem_gT2 (tq_3 _ (List.mem_of_getElem? (i := 0) rfl)) rfl
theorem iw_482 : (Jvm.Cond.laysFinal "SeatProofsModel" "SeatProofsModel" "failures" "[I") ∈ gT := mem_gT2 (tq_3 _ (List.mem_of_getElem? (i := 2) rfl)) rfl
theorem iw_484 : (Jvm.Cond.laysFinal "SeatProofsModel" "SeatProofsModel" "of" "[I") ∈ gT := mem_gT2 (tq_3 _ (List.mem_of_getElem? (i := 4) rfl)) rfl
theorem iw_486 : (Jvm.Cond.laysFinal "SeatProofsModel" "SeatProofsModel" "floods" "[J") ∈ gT := mem_gT2 (tq_3 _ (List.mem_of_getElem? (i := 6) rfl)) rfl
theorem iw_488 : (Jvm.Cond.laysFinal "SeatProofsModel" "SeatProofsModel" "cuts" "[J") ∈ gT := mem_gT2 (tq_3 _ (List.mem_of_getElem? (i := 8) rfl)) rfl
theorem iw_490 : (Jvm.Cond.laysFinal "SeatProofsModel" "SeatProofsModel" "culprit" "[I") ∈ gT := mem_gT2 (tq_3 _ (List.mem_of_getElem? (i := 10) rfl)) rfl
theorem iw_492 : (Jvm.Cond.lays "SeatProofsModel" "SeatProofsModel" "guilty" "Z") ∈ gT := mem_gT2 (tq_3 _ (List.mem_of_getElem? (i := 12) rfl)) rfl
theorem iw_494 : (Jvm.Cond.lays "SeatProofsModel" "SeatProofsModel" "tested" "I") ∈ gT := mem_gT2 (tq_3 _ (List.mem_of_getElem? (i := 14) rfl)) rfl
theorem iw_496 : (Jvm.Cond.lays "SeatProofsModel" "SeatProofsModel" "thrown" "I") ∈ gT := mem_gT2 (tq_3 _ (List.mem_of_getElem? (i := 16) rfl)) rfl
theorem iw_498 : (Jvm.Cond.laysFinal "SeatProofsModel" "SeatProofsModel" "wet" "[Z") ∈ gT := mem_gT2 (tq_3 _ (List.mem_of_getElem? (i := 18) rfl)) rfl
theorem iw_501 : (Jvm.Cond.arrayClass Jvm.ClassFile.FieldType.boolean) ∈ gT := mem_gT2 (tq_3 _ (List.mem_of_getElem? (i := 21) rfl)) rfl
theorem iw_502 : (Jvm.Cond.methodLink "SeatProofsLaw" (26 : Nat) ({ cls := "SeatProofsModel", name := "space", desc := "(I)I" } : Jvm.MethodName)) ∈ gT := mem_gT2 (tq_3 _ (List.mem_of_getElem? (i := 22) rfl)) rfl
theorem iw_503 : (Jvm.Cond.instanceMethod ({ cls := "SeatProofsModel", name := "space", desc := "(I)I" } : Jvm.MethodName)) ∈ gT := mem_gT2 (tq_3 _ (List.mem_of_getElem? (i := 23) rfl)) rfl
theorem iw_504 : (Jvm.Cond.selects "SeatProofsModel" ({ cls := "SeatProofsModel", name := "space", desc := "(I)I" } : Jvm.MethodName) ({ cls := "SeatProofsModel", name := "space", desc := "(I)I" } : Jvm.MethodName)) ∈ gT := mem_gT2 (tq_3 _ (List.mem_of_getElem? (i := 24) rfl)) rfl
theorem iw_505 : (Jvm.Cond.code ({ cls := "SeatProofsModel", name := "space", desc := "(I)I" } : Jvm.MethodName) prog_6_method_3_code (2 : Nat) (Option.some Jvm.ClassFile.FieldType.int)) ∈ gT := mem_gT2 (tq_3 _ (List.mem_of_getElem? (i := 25) rfl)) rfl
theorem iw_506 : (Jvm.Cond.methodLink "SeatProofsLaw" (31 : Nat) ({ cls := "SeatProofsModel", name := "valve", desc := "(IIIZ)I" } : Jvm.MethodName)) ∈ gT := mem_gT2 (tq_3 _ (List.mem_of_getElem? (i := 26) rfl)) rfl
theorem iw_507 : (Jvm.Cond.instanceMethod ({ cls := "SeatProofsModel", name := "valve", desc := "(IIIZ)I" } : Jvm.MethodName)) ∈ gT := mem_gT2 (tq_3 _ (List.mem_of_getElem? (i := 27) rfl)) rfl
theorem iw_508 : (Jvm.Cond.selects "SeatProofsModel" ({ cls := "SeatProofsModel", name := "valve", desc := "(IIIZ)I" } : Jvm.MethodName) ({ cls := "SeatProofsModel", name := "valve", desc := "(IIIZ)I" } : Jvm.MethodName)) ∈ gT := mem_gT2 (tq_3 _ (List.mem_of_getElem? (i := 28) rfl)) rfl
theorem iw_509 : (Jvm.Cond.code ({ cls := "SeatProofsModel", name := "valve", desc := "(IIIZ)I" } : Jvm.MethodName) prog_6_method_5_code (5 : Nat) (Option.some Jvm.ClassFile.FieldType.int)) ∈ gT := mem_gT2 (tq_3 _ (List.mem_of_getElem? (i := 29) rfl)) rfl
theorem iw_510 : (Jvm.Cond.methodLink "SeatProofsModel" (64 : Nat) ({ cls := "SeatProofsModel", name := "isSpace", desc := "(I)Z" } : Jvm.MethodName)) ∈ gT := mem_gT2 (tq_3 _ (List.mem_of_getElem? (i := 30) rfl)) rfl
theorem iw_512 : (Jvm.Cond.instanceMethod ({ cls := "SeatProofsModel", name := "isSpace", desc := "(I)Z" } : Jvm.MethodName)) ∈ gT := mem_gT2 (tq_3 _ (List.mem_of_getElem? (i := 32) rfl)) rfl
theorem iw_513 : (Jvm.Cond.code ({ cls := "SeatProofsModel", name := "isSpace", desc := "(I)Z" } : Jvm.MethodName) prog_6_method_4_code (2 : Nat) (Option.some Jvm.ClassFile.FieldType.boolean)) ∈ gT := mem_gT2 (tq_3 _ (List.mem_of_getElem? (i := 33) rfl)) rfl
theorem iw_514 : (Jvm.Cond.methodLink "SeatProofsLaw" (38 : Nat) ({ cls := "SeatProofsModel", name := "level", desc := "(IJ)Z" } : Jvm.MethodName)) ∈ gT := mem_gT2 (tq_3 _ (List.mem_of_getElem? (i := 34) rfl)) rfl
theorem iw_515 : (Jvm.Cond.instanceMethod ({ cls := "SeatProofsModel", name := "level", desc := "(IJ)Z" } : Jvm.MethodName)) ∈ gT := mem_gT2 (tq_3 _ (List.mem_of_getElem? (i := 35) rfl)) rfl
theorem iw_516 : (Jvm.Cond.selects "SeatProofsModel" ({ cls := "SeatProofsModel", name := "level", desc := "(IJ)Z" } : Jvm.MethodName) ({ cls := "SeatProofsModel", name := "level", desc := "(IJ)Z" } : Jvm.MethodName)) ∈ gT := mem_gT2 (tq_3 _ (List.mem_of_getElem? (i := 36) rfl)) rfl
theorem iw_517 : (Jvm.Cond.code ({ cls := "SeatProofsModel", name := "level", desc := "(IJ)Z" } : Jvm.MethodName) prog_6_method_6_code (4 : Nat) (Option.some Jvm.ClassFile.FieldType.boolean)) ∈ gT := mem_gT2 (tq_3 _ (List.mem_of_getElem? (i := 37) rfl)) rfl
theorem iw_518 : (Jvm.Cond.methodLink "SeatProofsLaw" (43 : Nat) ({ cls := "SeatProofsModel", name := "may", desc := "(II)Z" } : Jvm.MethodName)) ∈ gT := mem_gT2 (tq_3 _ (List.mem_of_getElem? (i := 38) rfl)) rfl
theorem iw_519 : (Jvm.Cond.instanceMethod ({ cls := "SeatProofsModel", name := "may", desc := "(II)Z" } : Jvm.MethodName)) ∈ gT := mem_gT2 (tq_3 _ (List.mem_of_getElem? (i := 39) rfl)) rfl
theorem iw_520 : (Jvm.Cond.selects "SeatProofsModel" ({ cls := "SeatProofsModel", name := "may", desc := "(II)Z" } : Jvm.MethodName) ({ cls := "SeatProofsModel", name := "may", desc := "(II)Z" } : Jvm.MethodName)) ∈ gT := mem_gT2 (tq_3 _ (List.mem_of_getElem? (i := 40) rfl)) rfl
theorem iw_521 : (Jvm.Cond.code ({ cls := "SeatProofsModel", name := "may", desc := "(II)Z" } : Jvm.MethodName) prog_6_method_7_code (4 : Nat) (Option.some Jvm.ClassFile.FieldType.boolean)) ∈ gT := mem_gT2 (tq_3 _ (List.mem_of_getElem? (i := 41) rfl)) rfl
theorem iw_522 : (Jvm.Cond.methodLink "SeatProofsLaw" (48 : Nat) ({ cls := "SeatProofsModel", name := "safe", desc := "()I" } : Jvm.MethodName)) ∈ gT := mem_gT2 (tq_3 _ (List.mem_of_getElem? (i := 42) rfl)) rfl
theorem iw_523 : (Jvm.Cond.instanceMethod ({ cls := "SeatProofsModel", name := "safe", desc := "()I" } : Jvm.MethodName)) ∈ gT := mem_gT2 (tq_3 _ (List.mem_of_getElem? (i := 43) rfl)) rfl
theorem iw_524 : (Jvm.Cond.selects "SeatProofsModel" ({ cls := "SeatProofsModel", name := "safe", desc := "()I" } : Jvm.MethodName) ({ cls := "SeatProofsModel", name := "safe", desc := "()I" } : Jvm.MethodName)) ∈ gT := mem_gT2 (tq_3 _ (List.mem_of_getElem? (i := 44) rfl)) rfl
theorem iw_525 : (Jvm.Cond.code ({ cls := "SeatProofsModel", name := "safe", desc := "()I" } : Jvm.MethodName) prog_6_method_14_code (4 : Nat) (Option.some Jvm.ClassFile.FieldType.int)) ∈ gT := mem_gT2 (tq_3 _ (List.mem_of_getElem? (i := 45) rfl)) rfl
theorem iw_526 : (Jvm.Cond.methodLink "SeatProofsModel" (83 : Nat) ({ cls := "SeatProofsModel", name := "isThere", desc := "(I)Z" } : Jvm.MethodName)) ∈ gT := mem_gT2 (tq_3 _ (List.mem_of_getElem? (i := 46) rfl)) rfl
theorem iw_528 : (Jvm.Cond.instanceMethod ({ cls := "SeatProofsModel", name := "isThere", desc := "(I)Z" } : Jvm.MethodName)) ∈ gT := mem_gT2 (tq_3 _ (List.mem_of_getElem? (i := 48) rfl)) rfl
theorem iw_529 : (Jvm.Cond.code ({ cls := "SeatProofsModel", name := "isThere", desc := "(I)Z" } : Jvm.MethodName) prog_6_method_12_code (4 : Nat) (Option.some Jvm.ClassFile.FieldType.boolean)) ∈ gT := mem_gT2 (tq_3 _ (List.mem_of_getElem? (i := 49) rfl)) rfl
theorem iw_530 : (Jvm.Cond.methodLink "SeatProofsModel" (86 : Nat) ({ cls := "SeatProofsModel", name := "flood", desc := "(II)J" } : Jvm.MethodName)) ∈ gT := mem_gT2 (tq_3 _ (List.mem_of_getElem? (i := 50) rfl)) rfl
theorem iw_532 : (Jvm.Cond.instanceMethod ({ cls := "SeatProofsModel", name := "flood", desc := "(II)J" } : Jvm.MethodName)) ∈ gT := mem_gT2 (tq_3 _ (List.mem_of_getElem? (i := 52) rfl)) rfl
theorem iw_533 : (Jvm.Cond.code ({ cls := "SeatProofsModel", name := "flood", desc := "(II)J" } : Jvm.MethodName) prog_6_method_9_code (9 : Nat) (Option.some Jvm.ClassFile.FieldType.long)) ∈ gT := mem_gT2 (tq_3 _ (List.mem_of_getElem? (i := 53) rfl)) rfl
theorem iw_534 : (Jvm.Cond.methodLink "SeatProofsModel" (71 : Nat) ({ cls := "SeatProofsModel", name := "lets", desc := "(II)Z" } : Jvm.MethodName)) ∈ gT := mem_gT2 (tq_3 _ (List.mem_of_getElem? (i := 54) rfl)) rfl
theorem iw_536 : (Jvm.Cond.instanceMethod ({ cls := "SeatProofsModel", name := "lets", desc := "(II)Z" } : Jvm.MethodName)) ∈ gT := mem_gT2 (tq_3 _ (List.mem_of_getElem? (i := 56) rfl)) rfl
theorem iw_537 : (Jvm.Cond.code ({ cls := "SeatProofsModel", name := "lets", desc := "(II)Z" } : Jvm.MethodName) prog_6_method_8_code (4 : Nat) (Option.some Jvm.ClassFile.FieldType.boolean)) ∈ gT := mem_gT2 (tq_3 _ (List.mem_of_getElem? (i := 57) rfl)) rfl
theorem iw_538 : (Jvm.Cond.methodLink "SeatProofsModel" (90 : Nat) ({ cls := "SeatProofsModel", name := "cut", desc := "(JI)J" } : Jvm.MethodName)) ∈ gT := mem_gT2 (tq_3 _ (List.mem_of_getElem? (i := 58) rfl)) rfl
theorem iw_540 : (Jvm.Cond.instanceMethod ({ cls := "SeatProofsModel", name := "cut", desc := "(JI)J" } : Jvm.MethodName)) ∈ gT := mem_gT2 (tq_3 _ (List.mem_of_getElem? (i := 60) rfl)) rfl
theorem iw_541 : (Jvm.Cond.code ({ cls := "SeatProofsModel", name := "cut", desc := "(JI)J" } : Jvm.MethodName) prog_6_method_11_code (11 : Nat) (Option.some Jvm.ClassFile.FieldType.long)) ∈ gT := mem_gT2 (tq_3 _ (List.mem_of_getElem? (i := 61) rfl)) rfl
theorem iw_542 : (Jvm.Cond.methodLink "SeatProofsModel" (75 : Nat) ({ cls := "SeatProofsModel", name := "has", desc := "(JI)Z" } : Jvm.MethodName)) ∈ gT := mem_gT2 (tq_3 _ (List.mem_of_getElem? (i := 62) rfl)) rfl
theorem iw_543 : (Jvm.Cond.static ({ cls := "SeatProofsModel", name := "has", desc := "(JI)Z" } : Jvm.MethodName)) ∈ gT := mem_gT2 (tq_3 _ (List.mem_of_getElem? (i := 63) rfl)) rfl
theorem iw_544 : (Jvm.Cond.code ({ cls := "SeatProofsModel", name := "has", desc := "(JI)Z" } : Jvm.MethodName) prog_6_method_10_code (3 : Nat) (Option.some Jvm.ClassFile.FieldType.boolean)) ∈ gT := mem_gT2 (tq_3 _ (List.mem_of_getElem? (i := 64) rfl)) rfl
theorem iw_545 : (Jvm.Cond.methodLink "SeatProofsModel" (94 : Nat) ({ cls := "SeatProofsModel", name := "meet", desc := "(II)Z" } : Jvm.MethodName)) ∈ gT := mem_gT2 (tq_3 _ (List.mem_of_getElem? (i := 65) rfl)) rfl
theorem iw_547 : (Jvm.Cond.instanceMethod ({ cls := "SeatProofsModel", name := "meet", desc := "(II)Z" } : Jvm.MethodName)) ∈ gT := mem_gT2 (tq_3 _ (List.mem_of_getElem? (i := 67) rfl)) rfl
theorem iw_548 : (Jvm.Cond.code ({ cls := "SeatProofsModel", name := "meet", desc := "(II)Z" } : Jvm.MethodName) prog_6_method_13_code (6 : Nat) (Option.some Jvm.ClassFile.FieldType.boolean)) ∈ gT := mem_gT2 (tq_3 _ (List.mem_of_getElem? (i := 68) rfl)) rfl
theorem iw_549 : (Jvm.Cond.methodLink "SeatProofsLaw" (52 : Nat) ({ cls := "SeatProofsModel", name := "culprit", desc := "(I)I" } : Jvm.MethodName)) ∈ gT := mem_gT2 (tq_3 _ (List.mem_of_getElem? (i := 69) rfl)) rfl
theorem iw_550 : (Jvm.Cond.instanceMethod ({ cls := "SeatProofsModel", name := "culprit", desc := "(I)I" } : Jvm.MethodName)) ∈ gT := mem_gT2 (tq_3 _ (List.mem_of_getElem? (i := 70) rfl)) rfl
theorem iw_551 : (Jvm.Cond.selects "SeatProofsModel" ({ cls := "SeatProofsModel", name := "culprit", desc := "(I)I" } : Jvm.MethodName) ({ cls := "SeatProofsModel", name := "culprit", desc := "(I)I" } : Jvm.MethodName)) ∈ gT := mem_gT2 (tq_3 _ (List.mem_of_getElem? (i := 71) rfl)) rfl
theorem iw_552 : (Jvm.Cond.code ({ cls := "SeatProofsModel", name := "culprit", desc := "(I)I" } : Jvm.MethodName) prog_6_method_15_code (2 : Nat) (Option.some Jvm.ClassFile.FieldType.int)) ∈ gT := mem_gT2 (tq_3 _ (List.mem_of_getElem? (i := 72) rfl)) rfl
theorem iw_553 : (Jvm.Cond.methodLink "SeatProofsLaw" (56 : Nat) ({ cls := "SeatProofsModel", name := "rows", desc := "()I" } : Jvm.MethodName)) ∈ gT := mem_gT2 (tq_3 _ (List.mem_of_getElem? (i := 73) rfl)) rfl
theorem iw_554 : (Jvm.Cond.instanceMethod ({ cls := "SeatProofsModel", name := "rows", desc := "()I" } : Jvm.MethodName)) ∈ gT := mem_gT2 (tq_3 _ (List.mem_of_getElem? (i := 74) rfl)) rfl
theorem iw_555 : (Jvm.Cond.selects "SeatProofsModel" ({ cls := "SeatProofsModel", name := "rows", desc := "()I" } : Jvm.MethodName) ({ cls := "SeatProofsModel", name := "rows", desc := "()I" } : Jvm.MethodName)) ∈ gT := mem_gT2 (tq_3 _ (List.mem_of_getElem? (i := 75) rfl)) rfl
theorem iw_556 : (Jvm.Cond.code ({ cls := "SeatProofsModel", name := "rows", desc := "()I" } : Jvm.MethodName) prog_6_method_16_code (1 : Nat) (Option.some Jvm.ClassFile.FieldType.int)) ∈ gT := mem_gT2 (tq_3 _ (List.mem_of_getElem? (i := 76) rfl)) rfl
theorem iw_557 : (Jvm.Cond.methodLink "SeatProofsLaw" (61 : Nat) ({ cls := "SeatProofsModel", name := "row", desc := "(II)I" } : Jvm.MethodName)) ∈ gT := mem_gT2 (tq_3 _ (List.mem_of_getElem? (i := 77) rfl)) rfl
theorem iw_558 : (Jvm.Cond.instanceMethod ({ cls := "SeatProofsModel", name := "row", desc := "(II)I" } : Jvm.MethodName)) ∈ gT := mem_gT2 (tq_3 _ (List.mem_of_getElem? (i := 78) rfl)) rfl
theorem iw_559 : (Jvm.Cond.selects "SeatProofsModel" ({ cls := "SeatProofsModel", name := "row", desc := "(II)I" } : Jvm.MethodName) ({ cls := "SeatProofsModel", name := "row", desc := "(II)I" } : Jvm.MethodName)) ∈ gT := mem_gT2 (tq_3 _ (List.mem_of_getElem? (i := 79) rfl)) rfl
theorem iw_560 : (Jvm.Cond.code ({ cls := "SeatProofsModel", name := "row", desc := "(II)I" } : Jvm.MethodName) prog_6_method_18_code (5 : Nat) (Option.some Jvm.ClassFile.FieldType.int)) ∈ gT := mem_gT2 (tq_3 _ (List.mem_of_getElem? (i := 80) rfl)) rfl
theorem iw_561 : (Jvm.Cond.methodLink "SeatProofsModel" (97 : Nat) ({ cls := "SeatProofsModel", name := "size", desc := "(J)I" } : Jvm.MethodName)) ∈ gT := mem_gT2 (tq_3 _ (List.mem_of_getElem? (i := 81) rfl)) rfl
theorem iw_562 : (Jvm.Cond.static ({ cls := "SeatProofsModel", name := "size", desc := "(J)I" } : Jvm.MethodName)) ∈ gT := mem_gT2 (tq_3 _ (List.mem_of_getElem? (i := 82) rfl)) rfl
theorem iw_563 : (Jvm.Cond.code ({ cls := "SeatProofsModel", name := "size", desc := "(J)I" } : Jvm.MethodName) prog_6_method_17_code (4 : Nat) (Option.some Jvm.ClassFile.FieldType.int)) ∈ gT := mem_gT2 (tq_3 _ (List.mem_of_getElem? (i := 83) rfl)) rfl
theorem iw_564 : (Jvm.Cond.methodLink "SeatProofsLaw" (65 : Nat) ({ cls := "SeatProofsModel", name := "check", desc := "()I" } : Jvm.MethodName)) ∈ gT := mem_gT2 (tq_3 _ (List.mem_of_getElem? (i := 84) rfl)) rfl
theorem iw_565 : (Jvm.Cond.instanceMethod ({ cls := "SeatProofsModel", name := "check", desc := "()I" } : Jvm.MethodName)) ∈ gT := mem_gT2 (tq_3 _ (List.mem_of_getElem? (i := 85) rfl)) rfl
theorem iw_566 : (Jvm.Cond.selects "SeatProofsModel" ({ cls := "SeatProofsModel", name := "check", desc := "()I" } : Jvm.MethodName) ({ cls := "SeatProofsModel", name := "check", desc := "()I" } : Jvm.MethodName)) ∈ gT := mem_gT2 (tq_3 _ (List.mem_of_getElem? (i := 86) rfl)) rfl
theorem iw_567 : (Jvm.Cond.code ({ cls := "SeatProofsModel", name := "check", desc := "()I" } : Jvm.MethodName) prog_6_method_20_code (5 : Nat) (Option.some Jvm.ClassFile.FieldType.int)) ∈ gT := mem_gT2 (tq_3 _ (List.mem_of_getElem? (i := 87) rfl)) rfl
theorem iw_568 : (Jvm.Cond.methodLink "SeatProofsModel" (101 : Nat) ({ cls := "SeatProofsModel", name := "isRight", desc := "(I)Z" } : Jvm.MethodName)) ∈ gT := mem_gT2 (tq_3 _ (List.mem_of_getElem? (i := 88) rfl)) rfl
theorem iw_570 : (Jvm.Cond.instanceMethod ({ cls := "SeatProofsModel", name := "isRight", desc := "(I)Z" } : Jvm.MethodName)) ∈ gT := mem_gT2 (tq_3 _ (List.mem_of_getElem? (i := 90) rfl)) rfl
theorem iw_571 : (Jvm.Cond.code ({ cls := "SeatProofsModel", name := "isRight", desc := "(I)Z" } : Jvm.MethodName) prog_6_method_19_code (6 : Nat) (Option.some Jvm.ClassFile.FieldType.boolean)) ∈ gT := mem_gT2 (tq_3 _ (List.mem_of_getElem? (i := 91) rfl)) rfl
theorem iw_572 : (Jvm.Cond.methodLink "SeatProofsLaw" (71 : Nat) ({ cls := "SeatProofsModel", name := "set", desc := "(IZ)Z" } : Jvm.MethodName)) ∈ gT := mem_gT2 (tq_3 _ (List.mem_of_getElem? (i := 92) rfl)) rfl
theorem iw_573 : (Jvm.Cond.instanceMethod ({ cls := "SeatProofsModel", name := "set", desc := "(IZ)Z" } : Jvm.MethodName)) ∈ gT := mem_gT2 (tq_3 _ (List.mem_of_getElem? (i := 93) rfl)) rfl
theorem iw_574 : (Jvm.Cond.selects "SeatProofsModel" ({ cls := "SeatProofsModel", name := "set", desc := "(IZ)Z" } : Jvm.MethodName) ({ cls := "SeatProofsModel", name := "set", desc := "(IZ)Z" } : Jvm.MethodName)) ∈ gT := mem_gT2 (tq_3 _ (List.mem_of_getElem? (i := 94) rfl)) rfl
theorem iw_575 : (Jvm.Cond.code ({ cls := "SeatProofsModel", name := "set", desc := "(IZ)Z" } : Jvm.MethodName) prog_6_method_21_code (6 : Nat) (Option.some Jvm.ClassFile.FieldType.boolean)) ∈ gT := mem_gT2 (tq_3 _ (List.mem_of_getElem? (i := 95) rfl)) rfl
theorem iw_576 : (Jvm.Cond.methodLink "SeatProofsLaw" (74 : Nat) ({ cls := "SeatProofsModel", name := "unsure", desc := "(IZ)Z" } : Jvm.MethodName)) ∈ gT := mem_gT2 (tq_3 _ (List.mem_of_getElem? (i := 96) rfl)) rfl
theorem iw_577 : (Jvm.Cond.instanceMethod ({ cls := "SeatProofsModel", name := "unsure", desc := "(IZ)Z" } : Jvm.MethodName)) ∈ gT := mem_gT2 (tq_3 _ (List.mem_of_getElem? (i := 97) rfl)) rfl
theorem iw_578 : (Jvm.Cond.selects "SeatProofsModel" ({ cls := "SeatProofsModel", name := "unsure", desc := "(IZ)Z" } : Jvm.MethodName) ({ cls := "SeatProofsModel", name := "unsure", desc := "(IZ)Z" } : Jvm.MethodName)) ∈ gT := mem_gT2 (tq_3 _ (List.mem_of_getElem? (i := 98) rfl)) rfl
theorem iw_579 : (Jvm.Cond.code ({ cls := "SeatProofsModel", name := "unsure", desc := "(IZ)Z" } : Jvm.MethodName) prog_6_method_22_code (3 : Nat) (Option.some Jvm.ClassFile.FieldType.boolean)) ∈ gT := mem_gT2 (tq_3 _ (List.mem_of_getElem? (i := 99) rfl)) rfl
theorem iw_580 : (Jvm.Cond.methodLink "SeatProofsLaw" (78 : Nat) ({ cls := "SeatProofsModel", name := "tested", desc := "()I" } : Jvm.MethodName)) ∈ gT := mem_gT2 (tq_3 _ (List.mem_of_getElem? (i := 100) rfl)) rfl
theorem iw_581 : (Jvm.Cond.instanceMethod ({ cls := "SeatProofsModel", name := "tested", desc := "()I" } : Jvm.MethodName)) ∈ gT := mem_gT2 (tq_3 _ (List.mem_of_getElem? (i := 101) rfl)) rfl
theorem iw_582 : (Jvm.Cond.selects "SeatProofsModel" ({ cls := "SeatProofsModel", name := "tested", desc := "()I" } : Jvm.MethodName) ({ cls := "SeatProofsModel", name := "tested", desc := "()I" } : Jvm.MethodName)) ∈ gT := mem_gT2 (tq_3 _ (List.mem_of_getElem? (i := 102) rfl)) rfl
theorem iw_583 : (Jvm.Cond.code ({ cls := "SeatProofsModel", name := "tested", desc := "()I" } : Jvm.MethodName) prog_6_method_23_code (1 : Nat) (Option.some Jvm.ClassFile.FieldType.int)) ∈ gT := mem_gT2 (tq_3 _ (List.mem_of_getElem? (i := 103) rfl)) rfl
theorem iw_584 : (Jvm.Cond.methodLink "SeatProofsLaw" (83 : Nat) ({ cls := "SeatProofsModel", name := "drop", desc := "(I)Z" } : Jvm.MethodName)) ∈ gT := mem_gT2 (tq_3 _ (List.mem_of_getElem? (i := 104) rfl)) rfl
theorem iw_585 : (Jvm.Cond.instanceMethod ({ cls := "SeatProofsModel", name := "drop", desc := "(I)Z" } : Jvm.MethodName)) ∈ gT := mem_gT2 (tq_3 _ (List.mem_of_getElem? (i := 105) rfl)) rfl
theorem iw_586 : (Jvm.Cond.selects "SeatProofsModel" ({ cls := "SeatProofsModel", name := "drop", desc := "(I)Z" } : Jvm.MethodName) ({ cls := "SeatProofsModel", name := "drop", desc := "(I)Z" } : Jvm.MethodName)) ∈ gT := mem_gT2 (tq_3 _ (List.mem_of_getElem? (i := 106) rfl)) rfl
theorem iw_587 : (Jvm.Cond.code ({ cls := "SeatProofsModel", name := "drop", desc := "(I)Z" } : Jvm.MethodName) prog_6_method_24_code (3 : Nat) (Option.some Jvm.ClassFile.FieldType.boolean)) ∈ gT := mem_gT2 (tq_3 _ (List.mem_of_getElem? (i := 107) rfl)) rfl
theorem iw_588 : (Jvm.Cond.methodLink "SeatProofsLaw" (87 : Nat) ({ cls := "SeatProofsModel", name := "clear", desc := "()V" } : Jvm.MethodName)) ∈ gT := mem_gT2 (tq_3 _ (List.mem_of_getElem? (i := 108) rfl)) rfl
theorem iw_589 : (Jvm.Cond.instanceMethod ({ cls := "SeatProofsModel", name := "clear", desc := "()V" } : Jvm.MethodName)) ∈ gT := mem_gT2 (tq_3 _ (List.mem_of_getElem? (i := 109) rfl)) rfl
theorem iw_590 : (Jvm.Cond.selects "SeatProofsModel" ({ cls := "SeatProofsModel", name := "clear", desc := "()V" } : Jvm.MethodName) ({ cls := "SeatProofsModel", name := "clear", desc := "()V" } : Jvm.MethodName)) ∈ gT := mem_gT2 (tq_3 _ (List.mem_of_getElem? (i := 110) rfl)) rfl
theorem iw_591 : (Jvm.Cond.code ({ cls := "SeatProofsModel", name := "clear", desc := "()V" } : Jvm.MethodName) prog_6_method_25_code (2 : Nat) (Option.none : Option Jvm.ClassFile.FieldType)) ∈ gT := mem_gT2 (tq_3 _ (List.mem_of_getElem? (i := 111) rfl)) rfl
theorem iw_592 : (Jvm.Cond.constantLong "SeatProofsLaw" (32 : Nat) (4294967295 : Int64)) ∈ gT := mem_gT2 (tq_3 _ (List.mem_of_getElem? (i := 112) rfl)) rfl
theorem ip_0 : (Jvm.Cond.selects "SeatProofs$Plant" ({ cls := "SeatProofs$Plant", name := "measure", desc := "(I)V" } : Jvm.MethodName) ({ cls := "SeatProofs$Plant", name := "measure", desc := "(I)V" } : Jvm.MethodName)) ∈ gT := mem_gT2 (tq_0 _ (List.mem_of_getElem? (i := 0) rfl)) rfl
theorem ip_1 : (Jvm.Cond.selects "SeatProofs$Flow" ({ cls := "SeatProofs$Flow", name := "layWay", desc := "(III)V" } : Jvm.MethodName) ({ cls := "SeatProofs$Flow", name := "layWay", desc := "(III)V" } : Jvm.MethodName)) ∈ gT := mem_gT2 (tq_0 _ (List.mem_of_getElem? (i := 1) rfl)) rfl
theorem ip_2 : (Jvm.Cond.selects "SeatProofs" ({ cls := "SeatProofs", name := "keepCulprit", desc := "(II)V" } : Jvm.MethodName) ({ cls := "SeatProofs", name := "keepCulprit", desc := "(II)V" } : Jvm.MethodName)) ∈ gT := mem_gT2 (tq_0 _ (List.mem_of_getElem? (i := 2) rfl)) rfl
theorem ip_3 : (Jvm.Cond.selects "SeatProofs" ({ cls := "SeatProofs", name := "addRows", desc := "(I)V" } : Jvm.MethodName) ({ cls := "SeatProofs", name := "addRows", desc := "(I)V" } : Jvm.MethodName)) ∈ gT := mem_gT2 (tq_0 _ (List.mem_of_getElem? (i := 3) rfl)) rfl
theorem ip_4 : (Jvm.Cond.selects "SeatProofs" ({ cls := "SeatProofs", name := "isRight", desc := "(I)Z" } : Jvm.MethodName) ({ cls := "SeatProofs", name := "isRight", desc := "(I)Z" } : Jvm.MethodName)) ∈ gT := mem_gT2 (tq_0 _ (List.mem_of_getElem? (i := 4) rfl)) rfl
theorem ip_6 : (Jvm.Cond.selects "SeatProofs" ({ cls := "SeatProofs", name := "remakeTouched", desc := "(I)I" } : Jvm.MethodName) ({ cls := "SeatProofs", name := "remakeTouched", desc := "(I)I" } : Jvm.MethodName)) ∈ gT := mem_gT2 (tq_0 _ (List.mem_of_getElem? (i := 6) rfl)) rfl
theorem ip_7 : (Jvm.Cond.selects "SeatProofs" ({ cls := "SeatProofs", name := "isTouched", desc := "(II)Z" } : Jvm.MethodName) ({ cls := "SeatProofs", name := "isTouched", desc := "(II)Z" } : Jvm.MethodName)) ∈ gT := mem_gT2 (tq_0 _ (List.mem_of_getElem? (i := 7) rfl)) rfl
theorem ip_8 : (Jvm.Cond.selects "SeatProofs" ({ cls := "SeatProofs", name := "rowsClash", desc := "()Z" } : Jvm.MethodName) ({ cls := "SeatProofs", name := "rowsClash", desc := "()Z" } : Jvm.MethodName)) ∈ gT := mem_gT2 (tq_0 _ (List.mem_of_getElem? (i := 8) rfl)) rfl
theorem ip_9 : (Jvm.Cond.selects "SeatProofsModel" ({ cls := "SeatProofsModel", name := "isSpace", desc := "(I)Z" } : Jvm.MethodName) ({ cls := "SeatProofsModel", name := "isSpace", desc := "(I)Z" } : Jvm.MethodName)) ∈ gT := mem_gT2 (tq_0 _ (List.mem_of_getElem? (i := 9) rfl)) rfl
theorem ip_10 : (Jvm.Cond.selects "SeatProofsModel" ({ cls := "SeatProofsModel", name := "isThere", desc := "(I)Z" } : Jvm.MethodName) ({ cls := "SeatProofsModel", name := "isThere", desc := "(I)Z" } : Jvm.MethodName)) ∈ gT := mem_gT2 (tq_0 _ (List.mem_of_getElem? (i := 10) rfl)) rfl
theorem ip_11 : (Jvm.Cond.selects "SeatProofsModel" ({ cls := "SeatProofsModel", name := "flood", desc := "(II)J" } : Jvm.MethodName) ({ cls := "SeatProofsModel", name := "flood", desc := "(II)J" } : Jvm.MethodName)) ∈ gT := mem_gT2 (tq_0 _ (List.mem_of_getElem? (i := 11) rfl)) rfl
theorem ip_12 : (Jvm.Cond.selects "SeatProofsModel" ({ cls := "SeatProofsModel", name := "lets", desc := "(II)Z" } : Jvm.MethodName) ({ cls := "SeatProofsModel", name := "lets", desc := "(II)Z" } : Jvm.MethodName)) ∈ gT := mem_gT2 (tq_0 _ (List.mem_of_getElem? (i := 12) rfl)) rfl
theorem ip_13 : (Jvm.Cond.selects "SeatProofsModel" ({ cls := "SeatProofsModel", name := "cut", desc := "(JI)J" } : Jvm.MethodName) ({ cls := "SeatProofsModel", name := "cut", desc := "(JI)J" } : Jvm.MethodName)) ∈ gT := mem_gT2 (tq_0 _ (List.mem_of_getElem? (i := 13) rfl)) rfl
theorem ip_14 : (Jvm.Cond.selects "SeatProofsModel" ({ cls := "SeatProofsModel", name := "meet", desc := "(II)Z" } : Jvm.MethodName) ({ cls := "SeatProofsModel", name := "meet", desc := "(II)Z" } : Jvm.MethodName)) ∈ gT := mem_gT2 (tq_0 _ (List.mem_of_getElem? (i := 14) rfl)) rfl
theorem ip_15 : (Jvm.Cond.selects "SeatProofsModel" ({ cls := "SeatProofsModel", name := "isRight", desc := "(I)Z" } : Jvm.MethodName) ({ cls := "SeatProofsModel", name := "isRight", desc := "(I)Z" } : Jvm.MethodName)) ∈ gT := mem_gT2 (tq_0 _ (List.mem_of_getElem? (i := 15) rfl)) rfl
theorem iv_P : ∀ w ∈ u_ws "SeatProofs$Plant" F_P 12, w ∈ gT := by
  rw [show u_ws "SeatProofs$Plant" F_P 12 = [(Jvm.Cond.lays "SeatProofs$Plant" "SeatProofs$Plant" "spaces" "I"), (Jvm.Cond.lays "SeatProofs$Plant" "SeatProofs$Plant" "valves" "I"), (Jvm.Cond.laysFinal "SeatProofs$Plant" "SeatProofs$Plant" "levels" "[J"), (Jvm.Cond.laysFinal "SeatProofs$Plant" "SeatProofs$Plant" "sources" "[J"), (Jvm.Cond.laysFinal "SeatProofs$Plant" "SeatProofs$Plant" "friends" "[I"), (Jvm.Cond.laysFinal "SeatProofs$Plant" "SeatProofs$Plant" "oneEnd" "[I"), (Jvm.Cond.laysFinal "SeatProofs$Plant" "SeatProofs$Plant" "otherEnd" "[I"), (Jvm.Cond.lays "SeatProofs$Plant" "SeatProofs$Plant" "openValves" "J"), (Jvm.Cond.lays "SeatProofs$Plant" "SeatProofs$Plant" "unsureValves" "J"), (Jvm.Cond.lays "SeatProofs$Plant" "SeatProofs$Plant" "doubleValves" "J"), (Jvm.Cond.laysFinal "SeatProofs$Plant" "SeatProofs$Plant" "ends" "[J"), (Jvm.Cond.laysFinal "SeatProofs$Plant" "SeatProofs$Plant" "falls" "[J")] by decide +kernel]
  exact List.forall_mem_cons.mpr ⟨iw_50, List.forall_mem_cons.mpr ⟨iw_52, List.forall_mem_cons.mpr ⟨iw_54, List.forall_mem_cons.mpr ⟨iw_56, List.forall_mem_cons.mpr ⟨iw_58, List.forall_mem_cons.mpr ⟨iw_60, List.forall_mem_cons.mpr ⟨iw_62, List.forall_mem_cons.mpr ⟨iw_64, List.forall_mem_cons.mpr ⟨iw_66, List.forall_mem_cons.mpr ⟨iw_68, List.forall_mem_cons.mpr ⟨iw_70, List.forall_mem_cons.mpr ⟨iw_72, fun _ h => absurd h List.not_mem_nil⟩⟩⟩⟩⟩⟩⟩⟩⟩⟩⟩⟩
theorem iu_P (w0 : Cond) : ∀ w ∈ u_ws "SeatProofs$Plant" F_P 12, w ∈ w0 :: gT := fun w h => List.mem_cons_of_mem _ (iv_P w h)
theorem iv_F : ∀ w ∈ u_ws "SeatProofs$Flow" F_F 4, w ∈ gT := by
  rw [show u_ws "SeatProofs$Flow" F_F 4 = [(Jvm.Cond.laysFinal "SeatProofs$Flow" "SeatProofs$Flow" "plant" "LSeatProofs$Plant;"), (Jvm.Cond.lays "SeatProofs$Flow" "SeatProofs$Flow" "letting" "J"), (Jvm.Cond.laysFinal "SeatProofs$Flow" "SeatProofs$Flow" "ways" "[J"), (Jvm.Cond.laysFinal "SeatProofs$Flow" "SeatProofs$Flow" "floods" "[J")] by decide +kernel]
  exact List.forall_mem_cons.mpr ⟨iw_88, List.forall_mem_cons.mpr ⟨iw_90, List.forall_mem_cons.mpr ⟨iw_92, List.forall_mem_cons.mpr ⟨iw_94, fun _ h => absurd h List.not_mem_nil⟩⟩⟩⟩
theorem iu_F (w0 : Cond) : ∀ w ∈ u_ws "SeatProofs$Flow" F_F 4, w ∈ w0 :: gT := fun w h => List.mem_cons_of_mem _ (iv_F w h)
theorem iv_Q : ∀ w ∈ u_ws "SeatProofs$Proof" F_Q 5, w ∈ gT := by
  rw [show u_ws "SeatProofs$Proof" F_Q 5 = [(Jvm.Cond.lays "SeatProofs$Proof" "SeatProofs$Proof" "count" "I"), (Jvm.Cond.laysFinal "SeatProofs$Proof" "SeatProofs$Proof" "failure" "[I"), (Jvm.Cond.laysFinal "SeatProofs$Proof" "SeatProofs$Proof" "liquid" "[I"), (Jvm.Cond.laysFinal "SeatProofs$Proof" "SeatProofs$Proof" "flood" "[J"), (Jvm.Cond.laysFinal "SeatProofs$Proof" "SeatProofs$Proof" "cut" "[J")] by decide +kernel]
  exact List.forall_mem_cons.mpr ⟨iw_113, List.forall_mem_cons.mpr ⟨iw_115, List.forall_mem_cons.mpr ⟨iw_117, List.forall_mem_cons.mpr ⟨iw_119, List.forall_mem_cons.mpr ⟨iw_121, fun _ h => absurd h List.not_mem_nil⟩⟩⟩⟩⟩
theorem iu_Q (w0 : Cond) : ∀ w ∈ u_ws "SeatProofs$Proof" F_Q 5, w ∈ w0 :: gT := fun w h => List.mem_cons_of_mem _ (iv_Q w h)
theorem iv_S : ∀ w ∈ u_ws "SeatProofs" F_S 6, w ∈ gT := by
  rw [show u_ws "SeatProofs" F_S 6 = [(Jvm.Cond.laysFinal "SeatProofs" "SeatProofs" "plant" "LSeatProofs$Plant;"), (Jvm.Cond.laysFinal "SeatProofs" "SeatProofs" "flow" "LSeatProofs$Flow;"), (Jvm.Cond.laysFinal "SeatProofs" "SeatProofs" "proof" "LSeatProofs$Proof;"), (Jvm.Cond.laysFinal "SeatProofs" "SeatProofs" "found" "[I"), (Jvm.Cond.lays "SeatProofs" "SeatProofs" "foundUnsafe" "Z"), (Jvm.Cond.lays "SeatProofs" "SeatProofs" "remade" "I")] by decide +kernel]
  exact List.forall_mem_cons.mpr ⟨iw_130, List.forall_mem_cons.mpr ⟨iw_132, List.forall_mem_cons.mpr ⟨iw_134, List.forall_mem_cons.mpr ⟨iw_136, List.forall_mem_cons.mpr ⟨iw_138, List.forall_mem_cons.mpr ⟨iw_140, fun _ h => absurd h List.not_mem_nil⟩⟩⟩⟩⟩⟩
theorem iu_S (w0 : Cond) : ∀ w ∈ u_ws "SeatProofs" F_S 6, w ∈ w0 :: gT := fun w h => List.mem_cons_of_mem _ (iv_S w h)
theorem iv_M : ∀ w ∈ u_ws "SeatProofsModel" F_M 20, w ∈ gT := by
  rw [show u_ws "SeatProofsModel" F_M 20 = [(Jvm.Cond.laysFinal "SeatProofsModel" "SeatProofsModel" "liquids" "[I"), (Jvm.Cond.laysFinal "SeatProofsModel" "SeatProofsModel" "levels" "[J"), (Jvm.Cond.lays "SeatProofsModel" "SeatProofsModel" "spaces" "I"), (Jvm.Cond.laysFinal "SeatProofsModel" "SeatProofsModel" "firsts" "[I"), (Jvm.Cond.laysFinal "SeatProofsModel" "SeatProofsModel" "seconds" "[I"), (Jvm.Cond.laysFinal "SeatProofsModel" "SeatProofsModel" "seats" "[I"), (Jvm.Cond.laysFinal "SeatProofsModel" "SeatProofsModel" "opens" "[Z"), (Jvm.Cond.laysFinal "SeatProofsModel" "SeatProofsModel" "doubts" "[Z"), (Jvm.Cond.lays "SeatProofsModel" "SeatProofsModel" "valves" "I"), (Jvm.Cond.laysFinal "SeatProofsModel" "SeatProofsModel" "mays" "[Z"), (Jvm.Cond.lays "SeatProofsModel" "SeatProofsModel" "rows" "I"), (Jvm.Cond.laysFinal "SeatProofsModel" "SeatProofsModel" "failures" "[I"), (Jvm.Cond.laysFinal "SeatProofsModel" "SeatProofsModel" "of" "[I"), (Jvm.Cond.laysFinal "SeatProofsModel" "SeatProofsModel" "floods" "[J"), (Jvm.Cond.laysFinal "SeatProofsModel" "SeatProofsModel" "cuts" "[J"), (Jvm.Cond.laysFinal "SeatProofsModel" "SeatProofsModel" "culprit" "[I"), (Jvm.Cond.lays "SeatProofsModel" "SeatProofsModel" "guilty" "Z"), (Jvm.Cond.lays "SeatProofsModel" "SeatProofsModel" "tested" "I"), (Jvm.Cond.lays "SeatProofsModel" "SeatProofsModel" "thrown" "I"), (Jvm.Cond.laysFinal "SeatProofsModel" "SeatProofsModel" "wet" "[Z")] by decide +kernel]
  exact List.forall_mem_cons.mpr ⟨iw_460, List.forall_mem_cons.mpr ⟨iw_462, List.forall_mem_cons.mpr ⟨iw_464, List.forall_mem_cons.mpr ⟨iw_466, List.forall_mem_cons.mpr ⟨iw_468, List.forall_mem_cons.mpr ⟨iw_470, List.forall_mem_cons.mpr ⟨iw_472, List.forall_mem_cons.mpr ⟨iw_474, List.forall_mem_cons.mpr ⟨iw_476, List.forall_mem_cons.mpr ⟨iw_478, List.forall_mem_cons.mpr ⟨iw_480, List.forall_mem_cons.mpr ⟨iw_482, List.forall_mem_cons.mpr ⟨iw_484, List.forall_mem_cons.mpr ⟨iw_486, List.forall_mem_cons.mpr ⟨iw_488, List.forall_mem_cons.mpr ⟨iw_490, List.forall_mem_cons.mpr ⟨iw_492, List.forall_mem_cons.mpr ⟨iw_494, List.forall_mem_cons.mpr ⟨iw_496, List.forall_mem_cons.mpr ⟨iw_498, fun _ h => absurd h List.not_mem_nil⟩⟩⟩⟩⟩⟩⟩⟩⟩⟩⟩⟩⟩⟩⟩⟩⟩⟩⟩⟩
theorem iu_M (w0 : Cond) : ∀ w ∈ u_ws "SeatProofsModel" F_M 20, w ∈ w0 :: gT := fun w h => List.mem_cons_of_mem _ (iv_M w h)
theorem iv_Io : ∀ w ∈ u_ws "java/lang/IndexOutOfBoundsException" F_Io 6, w ∈ gT := by
  rw [show u_ws "java/lang/IndexOutOfBoundsException" F_Io 6 = [(Jvm.Cond.lays "java/lang/IndexOutOfBoundsException" "java/lang/Throwable" "cause" "Ljava/lang/Throwable;"), (Jvm.Cond.lays "java/lang/IndexOutOfBoundsException" "java/lang/Throwable" "stackTrace" "[Ljava/lang/StackTraceElement;"), (Jvm.Cond.lays "java/lang/IndexOutOfBoundsException" "java/lang/Throwable" "suppressedExceptions" "Ljava/util/List;"), (Jvm.Cond.lays "java/lang/IndexOutOfBoundsException" "java/lang/Throwable" "detailMessage" "Ljava/lang/String;"), (Jvm.Cond.lays "java/lang/IndexOutOfBoundsException" "java/lang/Throwable" "backtrace" "Ljava/lang/Object;"), (Jvm.Cond.lays "java/lang/IndexOutOfBoundsException" "java/lang/Throwable" "depth" "I")] by decide +kernel]
  exact List.forall_mem_cons.mpr ⟨iw_353, List.forall_mem_cons.mpr ⟨iw_355, List.forall_mem_cons.mpr ⟨iw_357, List.forall_mem_cons.mpr ⟨iw_359, List.forall_mem_cons.mpr ⟨iw_361, List.forall_mem_cons.mpr ⟨iw_403, fun _ h => absurd h List.not_mem_nil⟩⟩⟩⟩⟩⟩
theorem iu_Io (w0 : Cond) : ∀ w ∈ u_ws "java/lang/IndexOutOfBoundsException" F_Io 6, w ∈ w0 :: gT := fun w h => List.mem_cons_of_mem _ (iv_Io w h)
