def F_P : u_T := fun k => match k with
  | 0 => ("SeatProofs$Plant", "spaces", "I", false)
  | 1 => ("SeatProofs$Plant", "valves", "I", false)
  | 2 => ("SeatProofs$Plant", "levels", "[J", true)
  | 3 => ("SeatProofs$Plant", "sources", "[J", true)
  | 4 => ("SeatProofs$Plant", "friends", "[I", true)
  | 5 => ("SeatProofs$Plant", "oneEnd", "[I", true)
  | 6 => ("SeatProofs$Plant", "otherEnd", "[I", true)
  | 7 => ("SeatProofs$Plant", "openValves", "J", false)
  | 8 => ("SeatProofs$Plant", "unsureValves", "J", false)
  | 9 => ("SeatProofs$Plant", "doubleValves", "J", false)
  | 10 => ("SeatProofs$Plant", "ends", "[J", true)
  | _ => ("SeatProofs$Plant", "falls", "[J", true)
def t_P : Nat → FieldType := fun k => match k with
  | 0 => .int
  | 1 => .int
  | 2 => .array .long
  | 3 => .array .long
  | 4 => .array .int
  | 5 => .array .int
  | 6 => .array .int
  | 7 => .long
  | 8 => .long
  | 9 => .long
  | 10 => .array .long
  | _ => .array .long
theorem n_P : ∀ a, a < 12 → ∀ b, b < 12 → a ≠ b → (F_P a).2.1 ≠ (F_P b).2.1 := by decide +kernel
theorem t_P_ok : ∀ k, k < 12 → parseFieldDescriptor (F_P k).2.2.1 = some (t_P k) := by decide +kernel
def F_F : u_T := fun k => match k with
  | 0 => ("SeatProofs$Flow", "plant", "LSeatProofs$Plant;", true)
  | 1 => ("SeatProofs$Flow", "letting", "J", false)
  | 2 => ("SeatProofs$Flow", "ways", "[J", true)
  | _ => ("SeatProofs$Flow", "floods", "[J", true)
def t_F : Nat → FieldType := fun k => match k with
  | 0 => .object "SeatProofs$Plant"
  | 1 => .long
  | 2 => .array .long
  | _ => .array .long
theorem n_F : ∀ a, a < 4 → ∀ b, b < 4 → a ≠ b → (F_F a).2.1 ≠ (F_F b).2.1 := by decide +kernel
theorem t_F_ok : ∀ k, k < 4 → parseFieldDescriptor (F_F k).2.2.1 = some (t_F k) := by decide +kernel
def F_Q : u_T := fun k => match k with
  | 0 => ("SeatProofs$Proof", "count", "I", false)
  | 1 => ("SeatProofs$Proof", "failure", "[I", true)
  | 2 => ("SeatProofs$Proof", "liquid", "[I", true)
  | 3 => ("SeatProofs$Proof", "flood", "[J", true)
  | _ => ("SeatProofs$Proof", "cut", "[J", true)
def t_Q : Nat → FieldType := fun k => match k with
  | 0 => .int
  | 1 => .array .int
  | 2 => .array .int
  | 3 => .array .long
  | _ => .array .long
theorem n_Q : ∀ a, a < 5 → ∀ b, b < 5 → a ≠ b → (F_Q a).2.1 ≠ (F_Q b).2.1 := by decide +kernel
theorem t_Q_ok : ∀ k, k < 5 → parseFieldDescriptor (F_Q k).2.2.1 = some (t_Q k) := by decide +kernel
def F_S : u_T := fun k => match k with
  | 0 => ("SeatProofs", "plant", "LSeatProofs$Plant;", true)
  | 1 => ("SeatProofs", "flow", "LSeatProofs$Flow;", true)
  | 2 => ("SeatProofs", "proof", "LSeatProofs$Proof;", true)
  | 3 => ("SeatProofs", "found", "[I", true)
  | 4 => ("SeatProofs", "foundUnsafe", "Z", false)
  | _ => ("SeatProofs", "remade", "I", false)
def t_S : Nat → FieldType := fun k => match k with
  | 0 => .object "SeatProofs$Plant"
  | 1 => .object "SeatProofs$Flow"
  | 2 => .object "SeatProofs$Proof"
  | 3 => .array .int
  | 4 => .boolean
  | _ => .int
theorem n_S : ∀ a, a < 6 → ∀ b, b < 6 → a ≠ b → (F_S a).2.1 ≠ (F_S b).2.1 := by decide +kernel
theorem t_S_ok : ∀ k, k < 6 → parseFieldDescriptor (F_S k).2.2.1 = some (t_S k) := by decide +kernel
def F_M : u_T := fun k => match k with
  | 0 => ("SeatProofsModel", "liquids", "[I", true)
  | 1 => ("SeatProofsModel", "levels", "[J", true)
  | 2 => ("SeatProofsModel", "spaces", "I", false)
  | 3 => ("SeatProofsModel", "firsts", "[I", true)
  | 4 => ("SeatProofsModel", "seconds", "[I", true)
  | 5 => ("SeatProofsModel", "seats", "[I", true)
  | 6 => ("SeatProofsModel", "opens", "[Z", true)
  | 7 => ("SeatProofsModel", "doubts", "[Z", true)
  | 8 => ("SeatProofsModel", "valves", "I", false)
  | 9 => ("SeatProofsModel", "mays", "[Z", true)
  | 10 => ("SeatProofsModel", "rows", "I", false)
  | 11 => ("SeatProofsModel", "failures", "[I", true)
  | 12 => ("SeatProofsModel", "of", "[I", true)
  | 13 => ("SeatProofsModel", "floods", "[J", true)
  | 14 => ("SeatProofsModel", "cuts", "[J", true)
  | 15 => ("SeatProofsModel", "culprit", "[I", true)
  | 16 => ("SeatProofsModel", "guilty", "Z", false)
  | 17 => ("SeatProofsModel", "tested", "I", false)
  | 18 => ("SeatProofsModel", "thrown", "I", false)
  | _ => ("SeatProofsModel", "wet", "[Z", true)
def t_M : Nat → FieldType := fun k => match k with
  | 0 => .array .int
  | 1 => .array .long
  | 2 => .int
  | 3 => .array .int
  | 4 => .array .int
  | 5 => .array .int
  | 6 => .array .boolean
  | 7 => .array .boolean
  | 8 => .int
  | 9 => .array .boolean
  | 10 => .int
  | 11 => .array .int
  | 12 => .array .int
  | 13 => .array .long
  | 14 => .array .long
  | 15 => .array .int
  | 16 => .boolean
  | 17 => .int
  | 18 => .int
  | _ => .array .boolean
theorem n_M : ∀ a, a < 20 → ∀ b, b < 20 → a ≠ b → (F_M a).2.1 ≠ (F_M b).2.1 := by decide +kernel
theorem t_M_ok : ∀ k, k < 20 → parseFieldDescriptor (F_M k).2.2.1 = some (t_M k) := by decide +kernel
def F_Io : u_T := fun k => match k with
  | 0 => ("java/lang/Throwable", "cause", "Ljava/lang/Throwable;", false)
  | 1 => ("java/lang/Throwable", "stackTrace", "[Ljava/lang/StackTraceElement;", false)
  | 2 => ("java/lang/Throwable", "suppressedExceptions", "Ljava/util/List;", false)
  | 3 => ("java/lang/Throwable", "detailMessage", "Ljava/lang/String;", false)
  | 4 => ("java/lang/Throwable", "backtrace", "Ljava/lang/Object;", false)
  | _ => ("java/lang/Throwable", "depth", "I", false)
def t_Io : Nat → FieldType := fun k => match k with
  | 0 => .object "java/lang/Throwable"
  | 1 => .array (.object "java/lang/StackTraceElement")
  | 2 => .object "java/util/List"
  | 3 => .object "java/lang/String"
  | 4 => .object "java/lang/Object"
  | _ => .int
theorem n_Io : ∀ a, a < 6 → ∀ b, b < 6 → a ≠ b → (F_Io a).2.1 ≠ (F_Io b).2.1 := by decide +kernel
theorem t_Io_ok : ∀ k, k < 6 → parseFieldDescriptor (F_Io k).2.2.1 = some (t_Io k) := by decide +kernel
abbrev vwCl : List vw_C := [("SeatProofs$Plant", F_P, 12), ("SeatProofs$Flow", F_F, 4), ("SeatProofs$Proof", F_Q, 5), ("SeatProofs", F_S, 6), ("SeatProofsModel", F_M, 20), ("java/lang/IndexOutOfBoundsException", F_Io, 6)]
theorem iw_5 : (Jvm.Cond.initialized "SeatProofsModel") ∈ gT := mem_gT 21 (by decide +kernel) (by decide +kernel)
theorem iw_50 : (Jvm.Cond.lays "SeatProofs$Plant" "SeatProofs$Plant" "spaces" "I") ∈ gT := mem_gT 66 (by decide +kernel) (by decide +kernel)
theorem iw_52 : (Jvm.Cond.lays "SeatProofs$Plant" "SeatProofs$Plant" "valves" "I") ∈ gT := mem_gT 68 (by decide +kernel) (by decide +kernel)
theorem iw_54 : (Jvm.Cond.laysFinal "SeatProofs$Plant" "SeatProofs$Plant" "levels" "[J") ∈ gT := mem_gT 70 (by decide +kernel) (by decide +kernel)
theorem iw_56 : (Jvm.Cond.laysFinal "SeatProofs$Plant" "SeatProofs$Plant" "sources" "[J") ∈ gT := mem_gT 72 (by decide +kernel) (by decide +kernel)
theorem iw_58 : (Jvm.Cond.laysFinal "SeatProofs$Plant" "SeatProofs$Plant" "friends" "[I") ∈ gT := mem_gT 74 (by decide +kernel) (by decide +kernel)
theorem iw_60 : (Jvm.Cond.laysFinal "SeatProofs$Plant" "SeatProofs$Plant" "oneEnd" "[I") ∈ gT := mem_gT 76 (by decide +kernel) (by decide +kernel)
theorem iw_62 : (Jvm.Cond.laysFinal "SeatProofs$Plant" "SeatProofs$Plant" "otherEnd" "[I") ∈ gT := mem_gT 78 (by decide +kernel) (by decide +kernel)
theorem iw_64 : (Jvm.Cond.lays "SeatProofs$Plant" "SeatProofs$Plant" "openValves" "J") ∈ gT := mem_gT 80 (by decide +kernel) (by decide +kernel)
theorem iw_66 : (Jvm.Cond.lays "SeatProofs$Plant" "SeatProofs$Plant" "unsureValves" "J") ∈ gT := mem_gT 82 (by decide +kernel) (by decide +kernel)
theorem iw_68 : (Jvm.Cond.lays "SeatProofs$Plant" "SeatProofs$Plant" "doubleValves" "J") ∈ gT := mem_gT 84 (by decide +kernel) (by decide +kernel)
theorem iw_70 : (Jvm.Cond.laysFinal "SeatProofs$Plant" "SeatProofs$Plant" "ends" "[J") ∈ gT := mem_gT 86 (by decide +kernel) (by decide +kernel)
theorem iw_72 : (Jvm.Cond.laysFinal "SeatProofs$Plant" "SeatProofs$Plant" "falls" "[J") ∈ gT := mem_gT 88 (by decide +kernel) (by decide +kernel)
theorem iw_88 : (Jvm.Cond.laysFinal "SeatProofs$Flow" "SeatProofs$Flow" "plant" "LSeatProofs$Plant;") ∈ gT := mem_gT 104 (by decide +kernel) (by decide +kernel)
theorem iw_90 : (Jvm.Cond.lays "SeatProofs$Flow" "SeatProofs$Flow" "letting" "J") ∈ gT := mem_gT 106 (by decide +kernel) (by decide +kernel)
theorem iw_92 : (Jvm.Cond.laysFinal "SeatProofs$Flow" "SeatProofs$Flow" "ways" "[J") ∈ gT := mem_gT 108 (by decide +kernel) (by decide +kernel)
theorem iw_94 : (Jvm.Cond.laysFinal "SeatProofs$Flow" "SeatProofs$Flow" "floods" "[J") ∈ gT := mem_gT 110 (by decide +kernel) (by decide +kernel)
theorem iw_113 : (Jvm.Cond.lays "SeatProofs$Proof" "SeatProofs$Proof" "count" "I") ∈ gT := mem_gT 129 (by decide +kernel) (by decide +kernel)
theorem iw_115 : (Jvm.Cond.laysFinal "SeatProofs$Proof" "SeatProofs$Proof" "failure" "[I") ∈ gT := mem_gT 131 (by decide +kernel) (by decide +kernel)
theorem iw_117 : (Jvm.Cond.laysFinal "SeatProofs$Proof" "SeatProofs$Proof" "liquid" "[I") ∈ gT := mem_gT 133 (by decide +kernel) (by decide +kernel)
theorem iw_119 : (Jvm.Cond.laysFinal "SeatProofs$Proof" "SeatProofs$Proof" "flood" "[J") ∈ gT := mem_gT 135 (by decide +kernel) (by decide +kernel)
theorem iw_121 : (Jvm.Cond.laysFinal "SeatProofs$Proof" "SeatProofs$Proof" "cut" "[J") ∈ gT := mem_gT 137 (by decide +kernel) (by decide +kernel)
theorem iw_130 : (Jvm.Cond.laysFinal "SeatProofs" "SeatProofs" "plant" "LSeatProofs$Plant;") ∈ gT := mem_gT 146 (by decide +kernel) (by decide +kernel)
theorem iw_132 : (Jvm.Cond.laysFinal "SeatProofs" "SeatProofs" "flow" "LSeatProofs$Flow;") ∈ gT := mem_gT 148 (by decide +kernel) (by decide +kernel)
theorem iw_134 : (Jvm.Cond.laysFinal "SeatProofs" "SeatProofs" "proof" "LSeatProofs$Proof;") ∈ gT := mem_gT 150 (by decide +kernel) (by decide +kernel)
theorem iw_136 : (Jvm.Cond.laysFinal "SeatProofs" "SeatProofs" "found" "[I") ∈ gT := mem_gT 152 (by decide +kernel) (by decide +kernel)
theorem iw_138 : (Jvm.Cond.lays "SeatProofs" "SeatProofs" "foundUnsafe" "Z") ∈ gT := mem_gT 154 (by decide +kernel) (by decide +kernel)
theorem iw_140 : (Jvm.Cond.lays "SeatProofs" "SeatProofs" "remade" "I") ∈ gT := mem_gT 156 (by decide +kernel) (by decide +kernel)
theorem iw_353 : (Jvm.Cond.lays "java/lang/IndexOutOfBoundsException" "java/lang/Throwable" "cause" "Ljava/lang/Throwable;") ∈ gT := mem_gT 369 (by decide +kernel) (by decide +kernel)
theorem iw_355 : (Jvm.Cond.lays "java/lang/IndexOutOfBoundsException" "java/lang/Throwable" "stackTrace" "[Ljava/lang/StackTraceElement;") ∈ gT := mem_gT 371 (by decide +kernel) (by decide +kernel)
theorem iw_357 : (Jvm.Cond.lays "java/lang/IndexOutOfBoundsException" "java/lang/Throwable" "suppressedExceptions" "Ljava/util/List;") ∈ gT := mem_gT 373 (by decide +kernel) (by decide +kernel)
theorem iw_359 : (Jvm.Cond.lays "java/lang/IndexOutOfBoundsException" "java/lang/Throwable" "detailMessage" "Ljava/lang/String;") ∈ gT := mem_gT 375 (by decide +kernel) (by decide +kernel)
theorem iw_361 : (Jvm.Cond.lays "java/lang/IndexOutOfBoundsException" "java/lang/Throwable" "backtrace" "Ljava/lang/Object;") ∈ gT := mem_gT 377 (by decide +kernel) (by decide +kernel)
theorem iw_403 : (Jvm.Cond.lays "java/lang/IndexOutOfBoundsException" "java/lang/Throwable" "depth" "I") ∈ gT := mem_gT 419 (by decide +kernel) (by decide +kernel)
theorem iw_440 : (Jvm.Cond.fieldLink "SeatProofsModel" (9 : Nat) "SeatProofsModel" "liquids" "[I") ∈ gT := mem_gT 456 (by decide +kernel) (by decide +kernel)
theorem iw_441 : (Jvm.Cond.fieldLink "SeatProofsModel" (13 : Nat) "SeatProofsModel" "levels" "[J") ∈ gT := mem_gT 457 (by decide +kernel) (by decide +kernel)
theorem iw_442 : (Jvm.Cond.fieldLink "SeatProofsModel" (58 : Nat) "SeatProofsModel" "spaces" "I") ∈ gT := mem_gT 458 (by decide +kernel) (by decide +kernel)
theorem iw_443 : (Jvm.Cond.fieldLink "SeatProofsModel" (17 : Nat) "SeatProofsModel" "firsts" "[I") ∈ gT := mem_gT 459 (by decide +kernel) (by decide +kernel)
theorem iw_444 : (Jvm.Cond.fieldLink "SeatProofsModel" (20 : Nat) "SeatProofsModel" "seconds" "[I") ∈ gT := mem_gT 460 (by decide +kernel) (by decide +kernel)
theorem iw_445 : (Jvm.Cond.fieldLink "SeatProofsModel" (23 : Nat) "SeatProofsModel" "seats" "[I") ∈ gT := mem_gT 461 (by decide +kernel) (by decide +kernel)
theorem iw_446 : (Jvm.Cond.fieldLink "SeatProofsModel" (26 : Nat) "SeatProofsModel" "opens" "[Z") ∈ gT := mem_gT 462 (by decide +kernel) (by decide +kernel)
theorem iw_447 : (Jvm.Cond.fieldLink "SeatProofsModel" (30 : Nat) "SeatProofsModel" "doubts" "[Z") ∈ gT := mem_gT 463 (by decide +kernel) (by decide +kernel)
theorem iw_448 : (Jvm.Cond.fieldLink "SeatProofsModel" (68 : Nat) "SeatProofsModel" "valves" "I") ∈ gT := mem_gT 464 (by decide +kernel) (by decide +kernel)
theorem iw_449 : (Jvm.Cond.fieldLink "SeatProofsModel" (33 : Nat) "SeatProofsModel" "mays" "[Z") ∈ gT := mem_gT 465 (by decide +kernel) (by decide +kernel)
theorem iw_450 : (Jvm.Cond.fieldLink "SeatProofsModel" (61 : Nat) "SeatProofsModel" "rows" "I") ∈ gT := mem_gT 466 (by decide +kernel) (by decide +kernel)
theorem iw_451 : (Jvm.Cond.fieldLink "SeatProofsModel" (36 : Nat) "SeatProofsModel" "failures" "[I") ∈ gT := mem_gT 467 (by decide +kernel) (by decide +kernel)
theorem iw_452 : (Jvm.Cond.fieldLink "SeatProofsModel" (39 : Nat) "SeatProofsModel" "of" "[I") ∈ gT := mem_gT 468 (by decide +kernel) (by decide +kernel)
theorem iw_453 : (Jvm.Cond.fieldLink "SeatProofsModel" (42 : Nat) "SeatProofsModel" "floods" "[J") ∈ gT := mem_gT 469 (by decide +kernel) (by decide +kernel)
theorem iw_454 : (Jvm.Cond.fieldLink "SeatProofsModel" (45 : Nat) "SeatProofsModel" "cuts" "[J") ∈ gT := mem_gT 470 (by decide +kernel) (by decide +kernel)
theorem iw_455 : (Jvm.Cond.fieldLink "SeatProofsModel" (48 : Nat) "SeatProofsModel" "culprit" "[I") ∈ gT := mem_gT 471 (by decide +kernel) (by decide +kernel)
theorem iw_456 : (Jvm.Cond.fieldLink "SeatProofsModel" (79 : Nat) "SeatProofsModel" "guilty" "Z") ∈ gT := mem_gT 472 (by decide +kernel) (by decide +kernel)
theorem iw_457 : (Jvm.Cond.fieldLink "SeatProofsModel" (104 : Nat) "SeatProofsModel" "tested" "I") ∈ gT := mem_gT 473 (by decide +kernel) (by decide +kernel)
theorem iw_458 : (Jvm.Cond.fieldLink "SeatProofsModel" (54 : Nat) "SeatProofsModel" "thrown" "I") ∈ gT := mem_gT 474 (by decide +kernel) (by decide +kernel)
theorem iw_459 : (Jvm.Cond.fieldLink "SeatProofsModel" (51 : Nat) "SeatProofsModel" "wet" "[Z") ∈ gT := mem_gT 475 (by decide +kernel) (by decide +kernel)
theorem iw_460 : (Jvm.Cond.laysFinal "SeatProofsModel" "SeatProofsModel" "liquids" "[I") ∈ gT := mem_gT 476 (by decide +kernel) (by decide +kernel)
theorem iw_462 : (Jvm.Cond.laysFinal "SeatProofsModel" "SeatProofsModel" "levels" "[J") ∈ gT := mem_gT 478 (by decide +kernel) (by decide +kernel)
theorem iw_464 : (Jvm.Cond.lays "SeatProofsModel" "SeatProofsModel" "spaces" "I") ∈ gT := mem_gT 480 (by decide +kernel) (by decide +kernel)
theorem iw_466 : (Jvm.Cond.laysFinal "SeatProofsModel" "SeatProofsModel" "firsts" "[I") ∈ gT := mem_gT 482 (by decide +kernel) (by decide +kernel)
theorem iw_468 : (Jvm.Cond.laysFinal "SeatProofsModel" "SeatProofsModel" "seconds" "[I") ∈ gT := mem_gT 484 (by decide +kernel) (by decide +kernel)
theorem iw_470 : (Jvm.Cond.laysFinal "SeatProofsModel" "SeatProofsModel" "seats" "[I") ∈ gT := mem_gT 486 (by decide +kernel) (by decide +kernel)
theorem iw_472 : (Jvm.Cond.laysFinal "SeatProofsModel" "SeatProofsModel" "opens" "[Z") ∈ gT := mem_gT 488 (by decide +kernel) (by decide +kernel)
theorem iw_474 : (Jvm.Cond.laysFinal "SeatProofsModel" "SeatProofsModel" "doubts" "[Z") ∈ gT := mem_gT 490 (by decide +kernel) (by decide +kernel)
theorem iw_476 : (Jvm.Cond.lays "SeatProofsModel" "SeatProofsModel" "valves" "I") ∈ gT := mem_gT 492 (by decide +kernel) (by decide +kernel)
theorem iw_478 : (Jvm.Cond.laysFinal "SeatProofsModel" "SeatProofsModel" "mays" "[Z") ∈ gT := mem_gT 494 (by decide +kernel) (by decide +kernel)
theorem iw_480 : (Jvm.Cond.lays "SeatProofsModel" "SeatProofsModel" "rows" "I") ∈ gT := mem_gT 496 (by decide +kernel) (by decide +kernel)
theorem iw_482 : (Jvm.Cond.laysFinal "SeatProofsModel" "SeatProofsModel" "failures" "[I") ∈ gT := mem_gT 498 (by decide +kernel) (by decide +kernel)
theorem iw_484 : (Jvm.Cond.laysFinal "SeatProofsModel" "SeatProofsModel" "of" "[I") ∈ gT := mem_gT 500 (by decide +kernel) (by decide +kernel)
theorem iw_486 : (Jvm.Cond.laysFinal "SeatProofsModel" "SeatProofsModel" "floods" "[J") ∈ gT := mem_gT 502 (by decide +kernel) (by decide +kernel)
theorem iw_488 : (Jvm.Cond.laysFinal "SeatProofsModel" "SeatProofsModel" "cuts" "[J") ∈ gT := mem_gT 504 (by decide +kernel) (by decide +kernel)
theorem iw_490 : (Jvm.Cond.laysFinal "SeatProofsModel" "SeatProofsModel" "culprit" "[I") ∈ gT := mem_gT 506 (by decide +kernel) (by decide +kernel)
theorem iw_492 : (Jvm.Cond.lays "SeatProofsModel" "SeatProofsModel" "guilty" "Z") ∈ gT := mem_gT 508 (by decide +kernel) (by decide +kernel)
theorem iw_494 : (Jvm.Cond.lays "SeatProofsModel" "SeatProofsModel" "tested" "I") ∈ gT := mem_gT 510 (by decide +kernel) (by decide +kernel)
theorem iw_496 : (Jvm.Cond.lays "SeatProofsModel" "SeatProofsModel" "thrown" "I") ∈ gT := mem_gT 512 (by decide +kernel) (by decide +kernel)
theorem iw_498 : (Jvm.Cond.laysFinal "SeatProofsModel" "SeatProofsModel" "wet" "[Z") ∈ gT := mem_gT 514 (by decide +kernel) (by decide +kernel)
theorem iw_505 : (Jvm.Cond.code ({ cls := "SeatProofsModel", name := "thrown", desc := "()I" } : Jvm.MethodName) prog_6_method_2_code (1 : Nat) (Option.some Jvm.ClassFile.FieldType.int)) ∈ gT := mem_gT 521 (by decide +kernel) (by decide +kernel)
theorem iw_509 : (Jvm.Cond.code ({ cls := "SeatProofsModel", name := "space", desc := "(I)I" } : Jvm.MethodName) prog_6_method_3_code (2 : Nat) (Option.some Jvm.ClassFile.FieldType.int)) ∈ gT := mem_gT 525 (by decide +kernel) (by decide +kernel)
theorem iw_513 : (Jvm.Cond.code ({ cls := "SeatProofsModel", name := "valve", desc := "(IIIZ)I" } : Jvm.MethodName) prog_6_method_5_code (5 : Nat) (Option.some Jvm.ClassFile.FieldType.int)) ∈ gT := mem_gT 529 (by decide +kernel) (by decide +kernel)
theorem iw_514 : (Jvm.Cond.methodLink "SeatProofsModel" (64 : Nat) ({ cls := "SeatProofsModel", name := "isSpace", desc := "(I)Z" } : Jvm.MethodName)) ∈ gT := mem_gT 530 (by decide +kernel) (by decide +kernel)
theorem iw_516 : (Jvm.Cond.instanceMethod ({ cls := "SeatProofsModel", name := "isSpace", desc := "(I)Z" } : Jvm.MethodName)) ∈ gT := mem_gT 532 (by decide +kernel) (by decide +kernel)
theorem iw_517 : (Jvm.Cond.code ({ cls := "SeatProofsModel", name := "isSpace", desc := "(I)Z" } : Jvm.MethodName) prog_6_method_4_code (2 : Nat) (Option.some Jvm.ClassFile.FieldType.boolean)) ∈ gT := mem_gT 533 (by decide +kernel) (by decide +kernel)
theorem iw_521 : (Jvm.Cond.code ({ cls := "SeatProofsModel", name := "level", desc := "(IJ)Z" } : Jvm.MethodName) prog_6_method_6_code (4 : Nat) (Option.some Jvm.ClassFile.FieldType.boolean)) ∈ gT := mem_gT 537 (by decide +kernel) (by decide +kernel)
theorem iw_525 : (Jvm.Cond.code ({ cls := "SeatProofsModel", name := "may", desc := "(II)Z" } : Jvm.MethodName) prog_6_method_7_code (4 : Nat) (Option.some Jvm.ClassFile.FieldType.boolean)) ∈ gT := mem_gT 541 (by decide +kernel) (by decide +kernel)
theorem iw_533 : (Jvm.Cond.code ({ cls := "SeatProofsModel", name := "isThere", desc := "(I)Z" } : Jvm.MethodName) prog_6_method_12_code (4 : Nat) (Option.some Jvm.ClassFile.FieldType.boolean)) ∈ gT := mem_gT 549 (by decide +kernel) (by decide +kernel)
theorem iw_537 : (Jvm.Cond.code ({ cls := "SeatProofsModel", name := "flood", desc := "(II)J" } : Jvm.MethodName) prog_6_method_9_code (9 : Nat) (Option.some Jvm.ClassFile.FieldType.long)) ∈ gT := mem_gT 553 (by decide +kernel) (by decide +kernel)
theorem iw_538 : (Jvm.Cond.methodLink "SeatProofsModel" (71 : Nat) ({ cls := "SeatProofsModel", name := "lets", desc := "(II)Z" } : Jvm.MethodName)) ∈ gT := mem_gT 554 (by decide +kernel) (by decide +kernel)
theorem iw_540 : (Jvm.Cond.instanceMethod ({ cls := "SeatProofsModel", name := "lets", desc := "(II)Z" } : Jvm.MethodName)) ∈ gT := mem_gT 556 (by decide +kernel) (by decide +kernel)
theorem iw_541 : (Jvm.Cond.code ({ cls := "SeatProofsModel", name := "lets", desc := "(II)Z" } : Jvm.MethodName) prog_6_method_8_code (4 : Nat) (Option.some Jvm.ClassFile.FieldType.boolean)) ∈ gT := mem_gT 557 (by decide +kernel) (by decide +kernel)
theorem iw_545 : (Jvm.Cond.code ({ cls := "SeatProofsModel", name := "cut", desc := "(JI)J" } : Jvm.MethodName) prog_6_method_11_code (11 : Nat) (Option.some Jvm.ClassFile.FieldType.long)) ∈ gT := mem_gT 561 (by decide +kernel) (by decide +kernel)
theorem iw_546 : (Jvm.Cond.methodLink "SeatProofsModel" (75 : Nat) ({ cls := "SeatProofsModel", name := "has", desc := "(JI)Z" } : Jvm.MethodName)) ∈ gT := mem_gT 562 (by decide +kernel) (by decide +kernel)
theorem iw_547 : (Jvm.Cond.static ({ cls := "SeatProofsModel", name := "has", desc := "(JI)Z" } : Jvm.MethodName)) ∈ gT := mem_gT 563 (by decide +kernel) (by decide +kernel)
theorem iw_548 : (Jvm.Cond.code ({ cls := "SeatProofsModel", name := "has", desc := "(JI)Z" } : Jvm.MethodName) prog_6_method_10_code (3 : Nat) (Option.some Jvm.ClassFile.FieldType.boolean)) ∈ gT := mem_gT 564 (by decide +kernel) (by decide +kernel)
theorem iw_552 : (Jvm.Cond.code ({ cls := "SeatProofsModel", name := "meet", desc := "(II)Z" } : Jvm.MethodName) prog_6_method_13_code (6 : Nat) (Option.some Jvm.ClassFile.FieldType.boolean)) ∈ gT := mem_gT 568 (by decide +kernel) (by decide +kernel)
theorem iw_556 : (Jvm.Cond.code ({ cls := "SeatProofsModel", name := "culprit", desc := "(I)I" } : Jvm.MethodName) prog_6_method_15_code (2 : Nat) (Option.some Jvm.ClassFile.FieldType.int)) ∈ gT := mem_gT 572 (by decide +kernel) (by decide +kernel)
theorem iw_560 : (Jvm.Cond.code ({ cls := "SeatProofsModel", name := "rows", desc := "()I" } : Jvm.MethodName) prog_6_method_16_code (1 : Nat) (Option.some Jvm.ClassFile.FieldType.int)) ∈ gT := mem_gT 576 (by decide +kernel) (by decide +kernel)
theorem iw_564 : (Jvm.Cond.code ({ cls := "SeatProofsModel", name := "row", desc := "(II)I" } : Jvm.MethodName) prog_6_method_18_code (5 : Nat) (Option.some Jvm.ClassFile.FieldType.int)) ∈ gT := mem_gT 580 (by decide +kernel) (by decide +kernel)
theorem iw_565 : (Jvm.Cond.methodLink "SeatProofsModel" (97 : Nat) ({ cls := "SeatProofsModel", name := "size", desc := "(J)I" } : Jvm.MethodName)) ∈ gT := mem_gT 581 (by decide +kernel) (by decide +kernel)
theorem iw_566 : (Jvm.Cond.static ({ cls := "SeatProofsModel", name := "size", desc := "(J)I" } : Jvm.MethodName)) ∈ gT := mem_gT 582 (by decide +kernel) (by decide +kernel)
theorem iw_567 : (Jvm.Cond.code ({ cls := "SeatProofsModel", name := "size", desc := "(J)I" } : Jvm.MethodName) prog_6_method_17_code (4 : Nat) (Option.some Jvm.ClassFile.FieldType.int)) ∈ gT := mem_gT 583 (by decide +kernel) (by decide +kernel)
theorem iw_583 : (Jvm.Cond.code ({ cls := "SeatProofsModel", name := "unsure", desc := "(IZ)Z" } : Jvm.MethodName) prog_6_method_22_code (3 : Nat) (Option.some Jvm.ClassFile.FieldType.boolean)) ∈ gT := mem_gT 599 (by decide +kernel) (by decide +kernel)
theorem iw_587 : (Jvm.Cond.code ({ cls := "SeatProofsModel", name := "tested", desc := "()I" } : Jvm.MethodName) prog_6_method_23_code (1 : Nat) (Option.some Jvm.ClassFile.FieldType.int)) ∈ gT := mem_gT 603 (by decide +kernel) (by decide +kernel)
theorem iw_591 : (Jvm.Cond.code ({ cls := "SeatProofsModel", name := "drop", desc := "(I)Z" } : Jvm.MethodName) prog_6_method_24_code (3 : Nat) (Option.some Jvm.ClassFile.FieldType.boolean)) ∈ gT := mem_gT 607 (by decide +kernel) (by decide +kernel)
theorem iw_595 : (Jvm.Cond.code ({ cls := "SeatProofsModel", name := "clear", desc := "()V" } : Jvm.MethodName) prog_6_method_25_code (2 : Nat) (Option.none : Option Jvm.ClassFile.FieldType)) ∈ gT := mem_gT 611 (by decide +kernel) (by decide +kernel)
theorem ip_12 : (Jvm.Cond.selects "SeatProofsModel" ({ cls := "SeatProofsModel", name := "lets", desc := "(II)Z" } : Jvm.MethodName) ({ cls := "SeatProofsModel", name := "lets", desc := "(II)Z" } : Jvm.MethodName)) ∈ gT := mem_gT 12 (by decide +kernel) (by decide +kernel)
theorem ip_9 : (Jvm.Cond.selects "SeatProofsModel" ({ cls := "SeatProofsModel", name := "isSpace", desc := "(I)Z" } : Jvm.MethodName) ({ cls := "SeatProofsModel", name := "isSpace", desc := "(I)Z" } : Jvm.MethodName)) ∈ gT := mem_gT 9 (by decide +kernel) (by decide +kernel)
abbrev b_M_thrown : ByteArray := prog_6_method_2_code
def y_M_thrown : MethodName := ⟨"SeatProofsModel", "thrown", "()I"⟩
abbrev w_M_thrown : List Cond := .code y_M_thrown b_M_thrown 1 (some .int) :: gT
theorem d_M_thrown_0 : decode b_M_thrown 0 = .ok (.aload_n 0, 1) := by decide +kernel
theorem d_M_thrown_1 : decode b_M_thrown 1 = .ok (.getfield 54, 3) := by decide +kernel
theorem d_M_thrown_4 : decode b_M_thrown 4 = .ok (.ireturn, 1) := by decide +kernel
abbrev b_M_isSpace : ByteArray := prog_6_method_4_code
def y_M_isSpace : MethodName := ⟨"SeatProofsModel", "isSpace", "(I)Z"⟩
abbrev w_M_isSpace : List Cond := .code y_M_isSpace b_M_isSpace 2 (some .boolean) :: gT
theorem d_M_isSpace_0 : decode b_M_isSpace 0 = .ok (.iload_n 1, 1) := by decide +kernel
theorem d_M_isSpace_1 : decode b_M_isSpace 1 = .ok (.ifCond .lt 15, 3) := by decide +kernel
theorem d_M_isSpace_4 : decode b_M_isSpace 4 = .ok (.iload_n 1, 1) := by decide +kernel
theorem d_M_isSpace_5 : decode b_M_isSpace 5 = .ok (.aload_n 0, 1) := by decide +kernel
theorem d_M_isSpace_6 : decode b_M_isSpace 6 = .ok (.getfield 58, 3) := by decide +kernel
theorem d_M_isSpace_9 : decode b_M_isSpace 9 = .ok (.if_icmp .ge 7, 3) := by decide +kernel
theorem d_M_isSpace_12 : decode b_M_isSpace 12 = .ok (.iconst 1, 1) := by decide +kernel
theorem d_M_isSpace_13 : decode b_M_isSpace 13 = .ok (.goto 4, 3) := by decide +kernel
theorem d_M_isSpace_16 : decode b_M_isSpace 16 = .ok (.iconst 0, 1) := by decide +kernel
theorem d_M_isSpace_17 : decode b_M_isSpace 17 = .ok (.ireturn, 1) := by decide +kernel
abbrev b_M_has : ByteArray := prog_6_method_10_code
def y_M_has : MethodName := ⟨"SeatProofsModel", "has", "(JI)Z"⟩
abbrev w_M_has : List Cond := .code y_M_has b_M_has 3 (some .boolean) :: gT
theorem d_M_has_0 : decode b_M_has 0 = .ok (.lload_n 0, 1) := by decide +kernel
theorem d_M_has_1 : decode b_M_has 1 = .ok (.iload_n 2, 1) := by decide +kernel
theorem d_M_has_2 : decode b_M_has 2 = .ok (.lushr, 1) := by decide +kernel
theorem d_M_has_3 : decode b_M_has 3 = .ok (.lconst 1, 1) := by decide +kernel
theorem d_M_has_4 : decode b_M_has 4 = .ok (.land, 1) := by decide +kernel
theorem d_M_has_5 : decode b_M_has 5 = .ok (.lconst 1, 1) := by decide +kernel
theorem d_M_has_6 : decode b_M_has 6 = .ok (.lcmp, 1) := by decide +kernel
theorem d_M_has_7 : decode b_M_has 7 = .ok (.ifCond .ne 7, 3) := by decide +kernel
theorem d_M_has_10 : decode b_M_has 10 = .ok (.iconst 1, 1) := by decide +kernel
theorem d_M_has_11 : decode b_M_has 11 = .ok (.goto 4, 3) := by decide +kernel
theorem d_M_has_14 : decode b_M_has 14 = .ok (.iconst 0, 1) := by decide +kernel
theorem d_M_has_15 : decode b_M_has 15 = .ok (.ireturn, 1) := by decide +kernel
abbrev b_M_lets : ByteArray := prog_6_method_8_code
def y_M_lets : MethodName := ⟨"SeatProofsModel", "lets", "(II)Z"⟩
abbrev w_M_lets : List Cond := .code y_M_lets b_M_lets 4 (some .boolean) :: gT
theorem d_M_lets_0 : decode b_M_lets 0 = .ok (.iload_n 2, 1) := by decide +kernel
theorem d_M_lets_1 : decode b_M_lets 1 = .ok (.iload_n 1, 1) := by decide +kernel
theorem d_M_lets_2 : decode b_M_lets 2 = .ok (.iconst 1, 1) := by decide +kernel
theorem d_M_lets_3 : decode b_M_lets 3 = .ok (.iadd, 1) := by decide +kernel
theorem d_M_lets_4 : decode b_M_lets 4 = .ok (.if_icmp .ne 7, 3) := by decide +kernel
theorem d_M_lets_7 : decode b_M_lets 7 = .ok (.iconst 1, 1) := by decide +kernel
theorem d_M_lets_8 : decode b_M_lets 8 = .ok (.goto 4, 3) := by decide +kernel
theorem d_M_lets_11 : decode b_M_lets 11 = .ok (.iconst 0, 1) := by decide +kernel
theorem d_M_lets_12 : decode b_M_lets 12 = .ok (.istore_n 3, 1) := by decide +kernel
theorem d_M_lets_13 : decode b_M_lets 13 = .ok (.aload_n 0, 1) := by decide +kernel
theorem d_M_lets_14 : decode b_M_lets 14 = .ok (.getfield 23, 3) := by decide +kernel
theorem d_M_lets_17 : decode b_M_lets 17 = .ok (.iload_n 1, 1) := by decide +kernel
theorem d_M_lets_18 : decode b_M_lets 18 = .ok (.iaload, 1) := by decide +kernel
theorem d_M_lets_19 : decode b_M_lets 19 = .ok (.iconst 2, 1) := by decide +kernel
theorem d_M_lets_20 : decode b_M_lets 20 = .ok (.if_icmp .ne 14, 3) := by decide +kernel
theorem d_M_lets_23 : decode b_M_lets 23 = .ok (.aload_n 0, 1) := by decide +kernel
theorem d_M_lets_24 : decode b_M_lets 24 = .ok (.getfield 26, 3) := by decide +kernel
theorem d_M_lets_27 : decode b_M_lets 27 = .ok (.iload_n 1, 1) := by decide +kernel
theorem d_M_lets_28 : decode b_M_lets 28 = .ok (.baload, 1) := by decide +kernel
theorem d_M_lets_29 : decode b_M_lets 29 = .ok (.ifCond .ne 5, 3) := by decide +kernel
theorem d_M_lets_32 : decode b_M_lets 32 = .ok (.iconst 0, 1) := by decide +kernel
theorem d_M_lets_33 : decode b_M_lets 33 = .ok (.ireturn, 1) := by decide +kernel
theorem d_M_lets_34 : decode b_M_lets 34 = .ok (.aload_n 0, 1) := by decide +kernel
theorem d_M_lets_35 : decode b_M_lets 35 = .ok (.getfield 30, 3) := by decide +kernel
theorem d_M_lets_38 : decode b_M_lets 38 = .ok (.iload_n 1, 1) := by decide +kernel
theorem d_M_lets_39 : decode b_M_lets 39 = .ok (.baload, 1) := by decide +kernel
theorem d_M_lets_40 : decode b_M_lets 40 = .ok (.ifCond .ne 13, 3) := by decide +kernel
theorem d_M_lets_43 : decode b_M_lets 43 = .ok (.aload_n 0, 1) := by decide +kernel
theorem d_M_lets_44 : decode b_M_lets 44 = .ok (.getfield 26, 3) := by decide +kernel
theorem d_M_lets_47 : decode b_M_lets 47 = .ok (.iload_n 1, 1) := by decide +kernel
theorem d_M_lets_48 : decode b_M_lets 48 = .ok (.baload, 1) := by decide +kernel
theorem d_M_lets_49 : decode b_M_lets 49 = .ok (.iload_n 3, 1) := by decide +kernel
theorem d_M_lets_50 : decode b_M_lets 50 = .ok (.if_icmp .eq 7, 3) := by decide +kernel
theorem d_M_lets_53 : decode b_M_lets 53 = .ok (.iconst 1, 1) := by decide +kernel
theorem d_M_lets_54 : decode b_M_lets 54 = .ok (.goto 4, 3) := by decide +kernel
theorem d_M_lets_57 : decode b_M_lets 57 = .ok (.iconst 0, 1) := by decide +kernel
theorem d_M_lets_58 : decode b_M_lets 58 = .ok (.ireturn, 1) := by decide +kernel
abbrev b_M_flood : ByteArray := prog_6_method_9_code
def y_M_flood : MethodName := ⟨"SeatProofsModel", "flood", "(II)J"⟩
abbrev w_M_flood : List Cond := .code y_M_flood b_M_flood 9 (some .long) :: gT
theorem d_M_flood_0 : decode b_M_flood 0 = .ok (.iconst 0, 1) := by decide +kernel
theorem d_M_flood_1 : decode b_M_flood 1 = .ok (.istore_n 3, 1) := by decide +kernel
theorem d_M_flood_2 : decode b_M_flood 2 = .ok (.iload_n 3, 1) := by decide +kernel
theorem d_M_flood_3 : decode b_M_flood 3 = .ok (.aload_n 0, 1) := by decide +kernel
theorem d_M_flood_4 : decode b_M_flood 4 = .ok (.getfield 58, 3) := by decide +kernel
theorem d_M_flood_7 : decode b_M_flood 7 = .ok (.if_icmp .ge 30, 3) := by decide +kernel
theorem d_M_flood_10 : decode b_M_flood 10 = .ok (.aload_n 0, 1) := by decide +kernel
theorem d_M_flood_11 : decode b_M_flood 11 = .ok (.getfield 51, 3) := by decide +kernel
theorem d_M_flood_14 : decode b_M_flood 14 = .ok (.iload_n 3, 1) := by decide +kernel
theorem d_M_flood_15 : decode b_M_flood 15 = .ok (.aload_n 0, 1) := by decide +kernel
theorem d_M_flood_16 : decode b_M_flood 16 = .ok (.getfield 9, 3) := by decide +kernel
theorem d_M_flood_19 : decode b_M_flood 19 = .ok (.iload_n 3, 1) := by decide +kernel
theorem d_M_flood_20 : decode b_M_flood 20 = .ok (.iaload, 1) := by decide +kernel
theorem d_M_flood_21 : decode b_M_flood 21 = .ok (.iload_n 1, 1) := by decide +kernel
theorem d_M_flood_22 : decode b_M_flood 22 = .ok (.if_icmp .ne 7, 3) := by decide +kernel
theorem d_M_flood_25 : decode b_M_flood 25 = .ok (.iconst 1, 1) := by decide +kernel
theorem d_M_flood_26 : decode b_M_flood 26 = .ok (.goto 4, 3) := by decide +kernel
theorem d_M_flood_29 : decode b_M_flood 29 = .ok (.iconst 0, 1) := by decide +kernel
theorem d_M_flood_30 : decode b_M_flood 30 = .ok (.bastore, 1) := by decide +kernel
theorem d_M_flood_31 : decode b_M_flood 31 = .ok (.iinc 3 1, 3) := by decide +kernel
theorem d_M_flood_34 : decode b_M_flood 34 = .ok (.goto (-32), 3) := by decide +kernel
theorem d_M_flood_37 : decode b_M_flood 37 = .ok (.iconst 1, 1) := by decide +kernel
theorem d_M_flood_38 : decode b_M_flood 38 = .ok (.istore_n 3, 1) := by decide +kernel
theorem d_M_flood_39 : decode b_M_flood 39 = .ok (.iload_n 3, 1) := by decide +kernel
theorem d_M_flood_40 : decode b_M_flood 40 = .ok (.ifCond .eq 137, 3) := by decide +kernel
theorem d_M_flood_43 : decode b_M_flood 43 = .ok (.iconst 0, 1) := by decide +kernel
theorem d_M_flood_44 : decode b_M_flood 44 = .ok (.istore_n 3, 1) := by decide +kernel
theorem d_M_flood_45 : decode b_M_flood 45 = .ok (.iconst 0, 1) := by decide +kernel
theorem d_M_flood_46 : decode b_M_flood 46 = .ok (.istore 4, 2) := by decide +kernel
theorem d_M_flood_48 : decode b_M_flood 48 = .ok (.iload 4, 2) := by decide +kernel
theorem d_M_flood_50 : decode b_M_flood 50 = .ok (.aload_n 0, 1) := by decide +kernel
theorem d_M_flood_51 : decode b_M_flood 51 = .ok (.getfield 68, 3) := by decide +kernel
theorem d_M_flood_54 : decode b_M_flood 54 = .ok (.if_icmp .ge 120, 3) := by decide +kernel
theorem d_M_flood_57 : decode b_M_flood 57 = .ok (.aload_n 0, 1) := by decide +kernel
theorem d_M_flood_58 : decode b_M_flood 58 = .ok (.getfield 17, 3) := by decide +kernel
theorem d_M_flood_61 : decode b_M_flood 61 = .ok (.iload 4, 2) := by decide +kernel
theorem d_M_flood_63 : decode b_M_flood 63 = .ok (.iaload, 1) := by decide +kernel
theorem d_M_flood_64 : decode b_M_flood 64 = .ok (.istore 5, 2) := by decide +kernel
theorem d_M_flood_66 : decode b_M_flood 66 = .ok (.aload_n 0, 1) := by decide +kernel
theorem d_M_flood_67 : decode b_M_flood 67 = .ok (.getfield 20, 3) := by decide +kernel
theorem d_M_flood_70 : decode b_M_flood 70 = .ok (.iload 4, 2) := by decide +kernel
theorem d_M_flood_72 : decode b_M_flood 72 = .ok (.iaload, 1) := by decide +kernel
theorem d_M_flood_73 : decode b_M_flood 73 = .ok (.istore 6, 2) := by decide +kernel
theorem d_M_flood_75 : decode b_M_flood 75 = .ok (.aload_n 0, 1) := by decide +kernel
theorem d_M_flood_76 : decode b_M_flood 76 = .ok (.iload 4, 2) := by decide +kernel
theorem d_M_flood_78 : decode b_M_flood 78 = .ok (.iload_n 2, 1) := by decide +kernel
theorem d_M_flood_79 : decode b_M_flood 79 = .ok (.invokevirtual 71, 3) := by decide +kernel
theorem d_M_flood_82 : decode b_M_flood 82 = .ok (.ifCond .eq 86, 3) := by decide +kernel
theorem d_M_flood_85 : decode b_M_flood 85 = .ok (.aload_n 0, 1) := by decide +kernel
theorem d_M_flood_86 : decode b_M_flood 86 = .ok (.getfield 51, 3) := by decide +kernel
theorem d_M_flood_89 : decode b_M_flood 89 = .ok (.iload 5, 2) := by decide +kernel
theorem d_M_flood_91 : decode b_M_flood 91 = .ok (.baload, 1) := by decide +kernel
theorem d_M_flood_92 : decode b_M_flood 92 = .ok (.aload_n 0, 1) := by decide +kernel
theorem d_M_flood_93 : decode b_M_flood 93 = .ok (.getfield 51, 3) := by decide +kernel
theorem d_M_flood_96 : decode b_M_flood 96 = .ok (.iload 6, 2) := by decide +kernel
theorem d_M_flood_98 : decode b_M_flood 98 = .ok (.baload, 1) := by decide +kernel
theorem d_M_flood_99 : decode b_M_flood 99 = .ok (.if_icmp .eq 69, 3) := by decide +kernel
theorem d_M_flood_102 : decode b_M_flood 102 = .ok (.aload_n 0, 1) := by decide +kernel
theorem d_M_flood_103 : decode b_M_flood 103 = .ok (.getfield 51, 3) := by decide +kernel
theorem d_M_flood_106 : decode b_M_flood 106 = .ok (.iload 5, 2) := by decide +kernel
theorem d_M_flood_108 : decode b_M_flood 108 = .ok (.baload, 1) := by decide +kernel
theorem d_M_flood_109 : decode b_M_flood 109 = .ok (.ifCond .eq 8, 3) := by decide +kernel
theorem d_M_flood_112 : decode b_M_flood 112 = .ok (.iload 5, 2) := by decide +kernel
theorem d_M_flood_114 : decode b_M_flood 114 = .ok (.goto 5, 3) := by decide +kernel
theorem d_M_flood_117 : decode b_M_flood 117 = .ok (.iload 6, 2) := by decide +kernel
theorem d_M_flood_119 : decode b_M_flood 119 = .ok (.istore 7, 2) := by decide +kernel
theorem d_M_flood_121 : decode b_M_flood 121 = .ok (.aload_n 0, 1) := by decide +kernel
theorem d_M_flood_122 : decode b_M_flood 122 = .ok (.getfield 51, 3) := by decide +kernel
theorem d_M_flood_125 : decode b_M_flood 125 = .ok (.iload 5, 2) := by decide +kernel
theorem d_M_flood_127 : decode b_M_flood 127 = .ok (.baload, 1) := by decide +kernel
theorem d_M_flood_128 : decode b_M_flood 128 = .ok (.ifCond .eq 8, 3) := by decide +kernel
theorem d_M_flood_131 : decode b_M_flood 131 = .ok (.iload 6, 2) := by decide +kernel
theorem d_M_flood_133 : decode b_M_flood 133 = .ok (.goto 5, 3) := by decide +kernel
theorem d_M_flood_136 : decode b_M_flood 136 = .ok (.iload 5, 2) := by decide +kernel
theorem d_M_flood_138 : decode b_M_flood 138 = .ok (.istore 8, 2) := by decide +kernel
theorem d_M_flood_140 : decode b_M_flood 140 = .ok (.aload_n 0, 1) := by decide +kernel
theorem d_M_flood_141 : decode b_M_flood 141 = .ok (.getfield 13, 3) := by decide +kernel
theorem d_M_flood_144 : decode b_M_flood 144 = .ok (.iload 8, 2) := by decide +kernel
theorem d_M_flood_146 : decode b_M_flood 146 = .ok (.laload, 1) := by decide +kernel
theorem d_M_flood_147 : decode b_M_flood 147 = .ok (.aload_n 0, 1) := by decide +kernel
theorem d_M_flood_148 : decode b_M_flood 148 = .ok (.getfield 13, 3) := by decide +kernel
theorem d_M_flood_151 : decode b_M_flood 151 = .ok (.iload 7, 2) := by decide +kernel
theorem d_M_flood_153 : decode b_M_flood 153 = .ok (.laload, 1) := by decide +kernel
theorem d_M_flood_154 : decode b_M_flood 154 = .ok (.lcmp, 1) := by decide +kernel
theorem d_M_flood_155 : decode b_M_flood 155 = .ok (.ifCond .gt 13, 3) := by decide +kernel
theorem d_M_flood_158 : decode b_M_flood 158 = .ok (.aload_n 0, 1) := by decide +kernel
theorem d_M_flood_159 : decode b_M_flood 159 = .ok (.getfield 51, 3) := by decide +kernel
theorem d_M_flood_162 : decode b_M_flood 162 = .ok (.iload 8, 2) := by decide +kernel
theorem d_M_flood_164 : decode b_M_flood 164 = .ok (.iconst 1, 1) := by decide +kernel
theorem d_M_flood_165 : decode b_M_flood 165 = .ok (.bastore, 1) := by decide +kernel
theorem d_M_flood_166 : decode b_M_flood 166 = .ok (.iconst 1, 1) := by decide +kernel
theorem d_M_flood_167 : decode b_M_flood 167 = .ok (.istore_n 3, 1) := by decide +kernel
theorem d_M_flood_168 : decode b_M_flood 168 = .ok (.iinc 4 1, 3) := by decide +kernel
theorem d_M_flood_171 : decode b_M_flood 171 = .ok (.goto (-123), 3) := by decide +kernel
theorem d_M_flood_174 : decode b_M_flood 174 = .ok (.goto (-135), 3) := by decide +kernel
theorem d_M_flood_177 : decode b_M_flood 177 = .ok (.lconst 0, 1) := by decide +kernel
theorem d_M_flood_178 : decode b_M_flood 178 = .ok (.lstore 4, 2) := by decide +kernel
theorem d_M_flood_180 : decode b_M_flood 180 = .ok (.iconst 0, 1) := by decide +kernel
theorem d_M_flood_181 : decode b_M_flood 181 = .ok (.istore 6, 2) := by decide +kernel
theorem d_M_flood_183 : decode b_M_flood 183 = .ok (.iload 6, 2) := by decide +kernel
theorem d_M_flood_185 : decode b_M_flood 185 = .ok (.aload_n 0, 1) := by decide +kernel
theorem d_M_flood_186 : decode b_M_flood 186 = .ok (.getfield 58, 3) := by decide +kernel
theorem d_M_flood_189 : decode b_M_flood 189 = .ok (.if_icmp .ge 33, 3) := by decide +kernel
theorem d_M_flood_192 : decode b_M_flood 192 = .ok (.aload_n 0, 1) := by decide +kernel
theorem d_M_flood_193 : decode b_M_flood 193 = .ok (.getfield 51, 3) := by decide +kernel
theorem d_M_flood_196 : decode b_M_flood 196 = .ok (.iload 6, 2) := by decide +kernel
theorem d_M_flood_198 : decode b_M_flood 198 = .ok (.baload, 1) := by decide +kernel
theorem d_M_flood_199 : decode b_M_flood 199 = .ok (.ifCond .eq 13, 3) := by decide +kernel
theorem d_M_flood_202 : decode b_M_flood 202 = .ok (.lload 4, 2) := by decide +kernel
theorem d_M_flood_204 : decode b_M_flood 204 = .ok (.lconst 1, 1) := by decide +kernel
theorem d_M_flood_205 : decode b_M_flood 205 = .ok (.iload 6, 2) := by decide +kernel
theorem d_M_flood_207 : decode b_M_flood 207 = .ok (.lshl, 1) := by decide +kernel
theorem d_M_flood_208 : decode b_M_flood 208 = .ok (.lor, 1) := by decide +kernel
theorem d_M_flood_209 : decode b_M_flood 209 = .ok (.goto 5, 3) := by decide +kernel
theorem d_M_flood_212 : decode b_M_flood 212 = .ok (.lload 4, 2) := by decide +kernel
theorem d_M_flood_214 : decode b_M_flood 214 = .ok (.lstore 4, 2) := by decide +kernel
theorem d_M_flood_216 : decode b_M_flood 216 = .ok (.iinc 6 1, 3) := by decide +kernel
theorem d_M_flood_219 : decode b_M_flood 219 = .ok (.goto (-36), 3) := by decide +kernel
theorem d_M_flood_222 : decode b_M_flood 222 = .ok (.lload 4, 2) := by decide +kernel
theorem d_M_flood_224 : decode b_M_flood 224 = .ok (.lreturn, 1) := by decide +kernel
abbrev b_M_cut : ByteArray := prog_6_method_11_code
def y_M_cut : MethodName := ⟨"SeatProofsModel", "cut", "(JI)J"⟩
abbrev w_M_cut : List Cond := .code y_M_cut b_M_cut 11 (some .long) :: gT
theorem d_M_cut_0 : decode b_M_cut 0 = .ok (.lconst 0, 1) := by decide +kernel
theorem d_M_cut_1 : decode b_M_cut 1 = .ok (.lstore 4, 2) := by decide +kernel
theorem d_M_cut_3 : decode b_M_cut 3 = .ok (.iconst 0, 1) := by decide +kernel
theorem d_M_cut_4 : decode b_M_cut 4 = .ok (.istore 6, 2) := by decide +kernel
theorem d_M_cut_6 : decode b_M_cut 6 = .ok (.iload 6, 2) := by decide +kernel
theorem d_M_cut_8 : decode b_M_cut 8 = .ok (.aload_n 0, 1) := by decide +kernel
theorem d_M_cut_9 : decode b_M_cut 9 = .ok (.getfield 68, 3) := by decide +kernel
theorem d_M_cut_12 : decode b_M_cut 12 = .ok (.if_icmp .ge 127, 3) := by decide +kernel
theorem d_M_cut_15 : decode b_M_cut 15 = .ok (.lload_n 1, 1) := by decide +kernel
theorem d_M_cut_16 : decode b_M_cut 16 = .ok (.aload_n 0, 1) := by decide +kernel
theorem d_M_cut_17 : decode b_M_cut 17 = .ok (.getfield 17, 3) := by decide +kernel
theorem d_M_cut_20 : decode b_M_cut 20 = .ok (.iload 6, 2) := by decide +kernel
theorem d_M_cut_22 : decode b_M_cut 22 = .ok (.iaload, 1) := by decide +kernel
theorem d_M_cut_23 : decode b_M_cut 23 = .ok (.invokestatic 75, 3) := by decide +kernel
theorem d_M_cut_26 : decode b_M_cut 26 = .ok (.istore 7, 2) := by decide +kernel
theorem d_M_cut_28 : decode b_M_cut 28 = .ok (.lload_n 1, 1) := by decide +kernel
theorem d_M_cut_29 : decode b_M_cut 29 = .ok (.aload_n 0, 1) := by decide +kernel
theorem d_M_cut_30 : decode b_M_cut 30 = .ok (.getfield 20, 3) := by decide +kernel
theorem d_M_cut_33 : decode b_M_cut 33 = .ok (.iload 6, 2) := by decide +kernel
theorem d_M_cut_35 : decode b_M_cut 35 = .ok (.iaload, 1) := by decide +kernel
theorem d_M_cut_36 : decode b_M_cut 36 = .ok (.invokestatic 75, 3) := by decide +kernel
theorem d_M_cut_39 : decode b_M_cut 39 = .ok (.istore 8, 2) := by decide +kernel
theorem d_M_cut_41 : decode b_M_cut 41 = .ok (.iload 7, 2) := by decide +kernel
theorem d_M_cut_43 : decode b_M_cut 43 = .ok (.ifCond .eq 13, 3) := by decide +kernel
theorem d_M_cut_46 : decode b_M_cut 46 = .ok (.aload_n 0, 1) := by decide +kernel
theorem d_M_cut_47 : decode b_M_cut 47 = .ok (.getfield 17, 3) := by decide +kernel
theorem d_M_cut_50 : decode b_M_cut 50 = .ok (.iload 6, 2) := by decide +kernel
theorem d_M_cut_52 : decode b_M_cut 52 = .ok (.iaload, 1) := by decide +kernel
theorem d_M_cut_53 : decode b_M_cut 53 = .ok (.goto 10, 3) := by decide +kernel
theorem d_M_cut_56 : decode b_M_cut 56 = .ok (.aload_n 0, 1) := by decide +kernel
theorem d_M_cut_57 : decode b_M_cut 57 = .ok (.getfield 20, 3) := by decide +kernel
theorem d_M_cut_60 : decode b_M_cut 60 = .ok (.iload 6, 2) := by decide +kernel
theorem d_M_cut_62 : decode b_M_cut 62 = .ok (.iaload, 1) := by decide +kernel
theorem d_M_cut_63 : decode b_M_cut 63 = .ok (.istore 9, 2) := by decide +kernel
theorem d_M_cut_65 : decode b_M_cut 65 = .ok (.iload 7, 2) := by decide +kernel
theorem d_M_cut_67 : decode b_M_cut 67 = .ok (.ifCond .eq 13, 3) := by decide +kernel
theorem d_M_cut_70 : decode b_M_cut 70 = .ok (.aload_n 0, 1) := by decide +kernel
theorem d_M_cut_71 : decode b_M_cut 71 = .ok (.getfield 20, 3) := by decide +kernel
theorem d_M_cut_74 : decode b_M_cut 74 = .ok (.iload 6, 2) := by decide +kernel
theorem d_M_cut_76 : decode b_M_cut 76 = .ok (.iaload, 1) := by decide +kernel
theorem d_M_cut_77 : decode b_M_cut 77 = .ok (.goto 10, 3) := by decide +kernel
theorem d_M_cut_80 : decode b_M_cut 80 = .ok (.aload_n 0, 1) := by decide +kernel
theorem d_M_cut_81 : decode b_M_cut 81 = .ok (.getfield 17, 3) := by decide +kernel
theorem d_M_cut_84 : decode b_M_cut 84 = .ok (.iload 6, 2) := by decide +kernel
theorem d_M_cut_86 : decode b_M_cut 86 = .ok (.iaload, 1) := by decide +kernel
theorem d_M_cut_87 : decode b_M_cut 87 = .ok (.istore 10, 2) := by decide +kernel
theorem d_M_cut_89 : decode b_M_cut 89 = .ok (.iload 7, 2) := by decide +kernel
theorem d_M_cut_91 : decode b_M_cut 91 = .ok (.iload 8, 2) := by decide +kernel
theorem d_M_cut_93 : decode b_M_cut 93 = .ok (.if_icmp .eq 40, 3) := by decide +kernel
theorem d_M_cut_96 : decode b_M_cut 96 = .ok (.aload_n 0, 1) := by decide +kernel
theorem d_M_cut_97 : decode b_M_cut 97 = .ok (.iload 6, 2) := by decide +kernel
theorem d_M_cut_99 : decode b_M_cut 99 = .ok (.iload_n 3, 1) := by decide +kernel
theorem d_M_cut_100 : decode b_M_cut 100 = .ok (.invokevirtual 71, 3) := by decide +kernel
theorem d_M_cut_103 : decode b_M_cut 103 = .ok (.ifCond .ne 30, 3) := by decide +kernel
theorem d_M_cut_106 : decode b_M_cut 106 = .ok (.aload_n 0, 1) := by decide +kernel
theorem d_M_cut_107 : decode b_M_cut 107 = .ok (.getfield 13, 3) := by decide +kernel
theorem d_M_cut_110 : decode b_M_cut 110 = .ok (.iload 10, 2) := by decide +kernel
theorem d_M_cut_112 : decode b_M_cut 112 = .ok (.laload, 1) := by decide +kernel
theorem d_M_cut_113 : decode b_M_cut 113 = .ok (.aload_n 0, 1) := by decide +kernel
theorem d_M_cut_114 : decode b_M_cut 114 = .ok (.getfield 13, 3) := by decide +kernel
theorem d_M_cut_117 : decode b_M_cut 117 = .ok (.iload 9, 2) := by decide +kernel
theorem d_M_cut_119 : decode b_M_cut 119 = .ok (.laload, 1) := by decide +kernel
theorem d_M_cut_120 : decode b_M_cut 120 = .ok (.lcmp, 1) := by decide +kernel
theorem d_M_cut_121 : decode b_M_cut 121 = .ok (.ifCond .gt 12, 3) := by decide +kernel
theorem d_M_cut_124 : decode b_M_cut 124 = .ok (.lload 4, 2) := by decide +kernel
theorem d_M_cut_126 : decode b_M_cut 126 = .ok (.lconst 1, 1) := by decide +kernel
theorem d_M_cut_127 : decode b_M_cut 127 = .ok (.iload 6, 2) := by decide +kernel
theorem d_M_cut_129 : decode b_M_cut 129 = .ok (.lshl, 1) := by decide +kernel
theorem d_M_cut_130 : decode b_M_cut 130 = .ok (.lor, 1) := by decide +kernel
theorem d_M_cut_131 : decode b_M_cut 131 = .ok (.lstore 4, 2) := by decide +kernel
theorem d_M_cut_133 : decode b_M_cut 133 = .ok (.iinc 6 1, 3) := by decide +kernel
theorem d_M_cut_136 : decode b_M_cut 136 = .ok (.goto (-130), 3) := by decide +kernel
theorem d_M_cut_139 : decode b_M_cut 139 = .ok (.lload 4, 2) := by decide +kernel
theorem d_M_cut_141 : decode b_M_cut 141 = .ok (.lreturn, 1) := by decide +kernel
abbrev b_M_isThere : ByteArray := prog_6_method_12_code
def y_M_isThere : MethodName := ⟨"SeatProofsModel", "isThere", "(I)Z"⟩
abbrev w_M_isThere : List Cond := .code y_M_isThere b_M_isThere 4 (some .boolean) :: gT
theorem d_M_isThere_0 : decode b_M_isThere 0 = .ok (.iconst 0, 1) := by decide +kernel
theorem d_M_isThere_1 : decode b_M_isThere 1 = .ok (.istore_n 2, 1) := by decide +kernel
theorem d_M_isThere_2 : decode b_M_isThere 2 = .ok (.iconst 0, 1) := by decide +kernel
theorem d_M_isThere_3 : decode b_M_isThere 3 = .ok (.istore_n 3, 1) := by decide +kernel
theorem d_M_isThere_4 : decode b_M_isThere 4 = .ok (.iload_n 3, 1) := by decide +kernel
theorem d_M_isThere_5 : decode b_M_isThere 5 = .ok (.aload_n 0, 1) := by decide +kernel
theorem d_M_isThere_6 : decode b_M_isThere 6 = .ok (.getfield 58, 3) := by decide +kernel
theorem d_M_isThere_9 : decode b_M_isThere 9 = .ok (.if_icmp .ge 29, 3) := by decide +kernel
theorem d_M_isThere_12 : decode b_M_isThere 12 = .ok (.iload_n 2, 1) := by decide +kernel
theorem d_M_isThere_13 : decode b_M_isThere 13 = .ok (.ifCond .ne 13, 3) := by decide +kernel
theorem d_M_isThere_16 : decode b_M_isThere 16 = .ok (.aload_n 0, 1) := by decide +kernel
theorem d_M_isThere_17 : decode b_M_isThere 17 = .ok (.getfield 9, 3) := by decide +kernel
theorem d_M_isThere_20 : decode b_M_isThere 20 = .ok (.iload_n 3, 1) := by decide +kernel
theorem d_M_isThere_21 : decode b_M_isThere 21 = .ok (.iaload, 1) := by decide +kernel
theorem d_M_isThere_22 : decode b_M_isThere 22 = .ok (.iload_n 1, 1) := by decide +kernel
theorem d_M_isThere_23 : decode b_M_isThere 23 = .ok (.if_icmp .ne 7, 3) := by decide +kernel
theorem d_M_isThere_26 : decode b_M_isThere 26 = .ok (.iconst 1, 1) := by decide +kernel
theorem d_M_isThere_27 : decode b_M_isThere 27 = .ok (.goto 4, 3) := by decide +kernel
theorem d_M_isThere_30 : decode b_M_isThere 30 = .ok (.iconst 0, 1) := by decide +kernel
theorem d_M_isThere_31 : decode b_M_isThere 31 = .ok (.istore_n 2, 1) := by decide +kernel
theorem d_M_isThere_32 : decode b_M_isThere 32 = .ok (.iinc 3 1, 3) := by decide +kernel
theorem d_M_isThere_35 : decode b_M_isThere 35 = .ok (.goto (-31), 3) := by decide +kernel
theorem d_M_isThere_38 : decode b_M_isThere 38 = .ok (.iload_n 2, 1) := by decide +kernel
theorem d_M_isThere_39 : decode b_M_isThere 39 = .ok (.ifCond .eq 11, 3) := by decide +kernel
theorem d_M_isThere_42 : decode b_M_isThere 42 = .ok (.iload_n 1, 1) := by decide +kernel
theorem d_M_isThere_43 : decode b_M_isThere 43 = .ok (.ifCond .le 7, 3) := by decide +kernel
theorem d_M_isThere_46 : decode b_M_isThere 46 = .ok (.iconst 1, 1) := by decide +kernel
theorem d_M_isThere_47 : decode b_M_isThere 47 = .ok (.goto 4, 3) := by decide +kernel
theorem d_M_isThere_50 : decode b_M_isThere 50 = .ok (.iconst 0, 1) := by decide +kernel
theorem d_M_isThere_51 : decode b_M_isThere 51 = .ok (.ireturn, 1) := by decide +kernel
abbrev b_M_size : ByteArray := prog_6_method_17_code
def y_M_size : MethodName := ⟨"SeatProofsModel", "size", "(J)I"⟩
abbrev w_M_size : List Cond := .code y_M_size b_M_size 4 (some .int) :: gT
theorem d_M_size_0 : decode b_M_size 0 = .ok (.iconst 0, 1) := by decide +kernel
theorem d_M_size_1 : decode b_M_size 1 = .ok (.istore_n 2, 1) := by decide +kernel
theorem d_M_size_2 : decode b_M_size 2 = .ok (.iconst 0, 1) := by decide +kernel
theorem d_M_size_3 : decode b_M_size 3 = .ok (.istore_n 3, 1) := by decide +kernel
theorem d_M_size_4 : decode b_M_size 4 = .ok (.iload_n 3, 1) := by decide +kernel
theorem d_M_size_5 : decode b_M_size 5 = .ok (.bipush 64, 2) := by decide +kernel
theorem d_M_size_7 : decode b_M_size 7 = .ok (.if_icmp .ge 25, 3) := by decide +kernel
theorem d_M_size_10 : decode b_M_size 10 = .ok (.iload_n 2, 1) := by decide +kernel
theorem d_M_size_11 : decode b_M_size 11 = .ok (.lload_n 0, 1) := by decide +kernel
theorem d_M_size_12 : decode b_M_size 12 = .ok (.iload_n 3, 1) := by decide +kernel
theorem d_M_size_13 : decode b_M_size 13 = .ok (.invokestatic 75, 3) := by decide +kernel
theorem d_M_size_16 : decode b_M_size 16 = .ok (.ifCond .eq 7, 3) := by decide +kernel
theorem d_M_size_19 : decode b_M_size 19 = .ok (.iconst 1, 1) := by decide +kernel
theorem d_M_size_20 : decode b_M_size 20 = .ok (.goto 4, 3) := by decide +kernel
theorem d_M_size_23 : decode b_M_size 23 = .ok (.iconst 0, 1) := by decide +kernel
theorem d_M_size_24 : decode b_M_size 24 = .ok (.iadd, 1) := by decide +kernel
theorem d_M_size_25 : decode b_M_size 25 = .ok (.istore_n 2, 1) := by decide +kernel
theorem d_M_size_26 : decode b_M_size 26 = .ok (.iinc 3 1, 3) := by decide +kernel
theorem d_M_size_29 : decode b_M_size 29 = .ok (.goto (-25), 3) := by decide +kernel
theorem d_M_size_32 : decode b_M_size 32 = .ok (.iload_n 2, 1) := by decide +kernel
theorem d_M_size_33 : decode b_M_size 33 = .ok (.ireturn, 1) := by decide +kernel
abbrev b_M_rows : ByteArray := prog_6_method_16_code
def y_M_rows : MethodName := ⟨"SeatProofsModel", "rows", "()I"⟩
abbrev w_M_rows : List Cond := .code y_M_rows b_M_rows 1 (some .int) :: gT
theorem d_M_rows_0 : decode b_M_rows 0 = .ok (.aload_n 0, 1) := by decide +kernel
theorem d_M_rows_1 : decode b_M_rows 1 = .ok (.iconst 0, 1) := by decide +kernel
theorem d_M_rows_2 : decode b_M_rows 2 = .ok (.putfield 54, 3) := by decide +kernel
theorem d_M_rows_5 : decode b_M_rows 5 = .ok (.aload_n 0, 1) := by decide +kernel
theorem d_M_rows_6 : decode b_M_rows 6 = .ok (.getfield 61, 3) := by decide +kernel
theorem d_M_rows_9 : decode b_M_rows 9 = .ok (.ireturn, 1) := by decide +kernel
abbrev b_M_tested : ByteArray := prog_6_method_23_code
def y_M_tested : MethodName := ⟨"SeatProofsModel", "tested", "()I"⟩
abbrev w_M_tested : List Cond := .code y_M_tested b_M_tested 1 (some .int) :: gT
theorem d_M_tested_0 : decode b_M_tested 0 = .ok (.aload_n 0, 1) := by decide +kernel
theorem d_M_tested_1 : decode b_M_tested 1 = .ok (.iconst 0, 1) := by decide +kernel
theorem d_M_tested_2 : decode b_M_tested 2 = .ok (.putfield 54, 3) := by decide +kernel
theorem d_M_tested_5 : decode b_M_tested 5 = .ok (.aload_n 0, 1) := by decide +kernel
theorem d_M_tested_6 : decode b_M_tested 6 = .ok (.getfield 104, 3) := by decide +kernel
theorem d_M_tested_9 : decode b_M_tested 9 = .ok (.ireturn, 1) := by decide +kernel
abbrev b_M_culprit : ByteArray := prog_6_method_15_code
def y_M_culprit : MethodName := ⟨"SeatProofsModel", "culprit", "(I)I"⟩
abbrev w_M_culprit : List Cond := .code y_M_culprit b_M_culprit 2 (some .int) :: gT
theorem d_M_culprit_0 : decode b_M_culprit 0 = .ok (.aload_n 0, 1) := by decide +kernel
theorem d_M_culprit_1 : decode b_M_culprit 1 = .ok (.iconst 0, 1) := by decide +kernel
theorem d_M_culprit_2 : decode b_M_culprit 2 = .ok (.putfield 54, 3) := by decide +kernel
theorem d_M_culprit_5 : decode b_M_culprit 5 = .ok (.aload_n 0, 1) := by decide +kernel
theorem d_M_culprit_6 : decode b_M_culprit 6 = .ok (.getfield 79, 3) := by decide +kernel
theorem d_M_culprit_9 : decode b_M_culprit 9 = .ok (.ifCond .eq 21, 3) := by decide +kernel
theorem d_M_culprit_12 : decode b_M_culprit 12 = .ok (.iload_n 1, 1) := by decide +kernel
theorem d_M_culprit_13 : decode b_M_culprit 13 = .ok (.ifCond .lt 17, 3) := by decide +kernel
theorem d_M_culprit_16 : decode b_M_culprit 16 = .ok (.iload_n 1, 1) := by decide +kernel
theorem d_M_culprit_17 : decode b_M_culprit 17 = .ok (.iconst 4, 1) := by decide +kernel
theorem d_M_culprit_18 : decode b_M_culprit 18 = .ok (.if_icmp .ge 12, 3) := by decide +kernel
theorem d_M_culprit_21 : decode b_M_culprit 21 = .ok (.aload_n 0, 1) := by decide +kernel
theorem d_M_culprit_22 : decode b_M_culprit 22 = .ok (.getfield 48, 3) := by decide +kernel
theorem d_M_culprit_25 : decode b_M_culprit 25 = .ok (.iload_n 1, 1) := by decide +kernel
theorem d_M_culprit_26 : decode b_M_culprit 26 = .ok (.iaload, 1) := by decide +kernel
theorem d_M_culprit_27 : decode b_M_culprit 27 = .ok (.goto 4, 3) := by decide +kernel
theorem d_M_culprit_30 : decode b_M_culprit 30 = .ok (.iconst (-1), 1) := by decide +kernel
theorem d_M_culprit_31 : decode b_M_culprit 31 = .ok (.ireturn, 1) := by decide +kernel
abbrev b_M_space : ByteArray := prog_6_method_3_code
def y_M_space : MethodName := ⟨"SeatProofsModel", "space", "(I)I"⟩
abbrev w_M_space : List Cond := .code y_M_space b_M_space 2 (some .int) :: gT
theorem d_M_space_0 : decode b_M_space 0 = .ok (.aload_n 0, 1) := by decide +kernel
theorem d_M_space_1 : decode b_M_space 1 = .ok (.iconst 0, 1) := by decide +kernel
theorem d_M_space_2 : decode b_M_space 2 = .ok (.putfield 54, 3) := by decide +kernel
theorem d_M_space_5 : decode b_M_space 5 = .ok (.iload_n 1, 1) := by decide +kernel
theorem d_M_space_6 : decode b_M_space 6 = .ok (.ifCond .lt 9, 3) := by decide +kernel
theorem d_M_space_9 : decode b_M_space 9 = .ok (.iload_n 1, 1) := by decide +kernel
theorem d_M_space_10 : decode b_M_space 10 = .ok (.bipush 16, 2) := by decide +kernel
theorem d_M_space_12 : decode b_M_space 12 = .ok (.if_icmp .lt 5, 3) := by decide +kernel
theorem d_M_space_15 : decode b_M_space 15 = .ok (.iconst (-1), 1) := by decide +kernel
theorem d_M_space_16 : decode b_M_space 16 = .ok (.ireturn, 1) := by decide +kernel
theorem d_M_space_17 : decode b_M_space 17 = .ok (.aload_n 0, 1) := by decide +kernel
theorem d_M_space_18 : decode b_M_space 18 = .ok (.getfield 58, 3) := by decide +kernel
theorem d_M_space_21 : decode b_M_space 21 = .ok (.bipush 64, 2) := by decide +kernel
theorem d_M_space_23 : decode b_M_space 23 = .ok (.if_icmp .ne 6, 3) := by decide +kernel
theorem d_M_space_26 : decode b_M_space 26 = .ok (.bipush (-2), 2) := by decide +kernel
theorem d_M_space_28 : decode b_M_space 28 = .ok (.ireturn, 1) := by decide +kernel
theorem d_M_space_29 : decode b_M_space 29 = .ok (.aload_n 0, 1) := by decide +kernel
theorem d_M_space_30 : decode b_M_space 30 = .ok (.getfield 9, 3) := by decide +kernel
theorem d_M_space_33 : decode b_M_space 33 = .ok (.aload_n 0, 1) := by decide +kernel
theorem d_M_space_34 : decode b_M_space 34 = .ok (.getfield 58, 3) := by decide +kernel
theorem d_M_space_37 : decode b_M_space 37 = .ok (.iload_n 1, 1) := by decide +kernel
theorem d_M_space_38 : decode b_M_space 38 = .ok (.iastore, 1) := by decide +kernel
theorem d_M_space_39 : decode b_M_space 39 = .ok (.aload_n 0, 1) := by decide +kernel
theorem d_M_space_40 : decode b_M_space 40 = .ok (.getfield 13, 3) := by decide +kernel
theorem d_M_space_43 : decode b_M_space 43 = .ok (.aload_n 0, 1) := by decide +kernel
theorem d_M_space_44 : decode b_M_space 44 = .ok (.getfield 58, 3) := by decide +kernel
theorem d_M_space_47 : decode b_M_space 47 = .ok (.lconst 0, 1) := by decide +kernel
theorem d_M_space_48 : decode b_M_space 48 = .ok (.lastore, 1) := by decide +kernel
theorem d_M_space_49 : decode b_M_space 49 = .ok (.aload_n 0, 1) := by decide +kernel
theorem d_M_space_50 : decode b_M_space 50 = .ok (.dup, 1) := by decide +kernel
theorem d_M_space_51 : decode b_M_space 51 = .ok (.getfield 58, 3) := by decide +kernel
theorem d_M_space_54 : decode b_M_space 54 = .ok (.iconst 1, 1) := by decide +kernel
theorem d_M_space_55 : decode b_M_space 55 = .ok (.iadd, 1) := by decide +kernel
theorem d_M_space_56 : decode b_M_space 56 = .ok (.putfield 58, 3) := by decide +kernel
theorem d_M_space_59 : decode b_M_space 59 = .ok (.aload_n 0, 1) := by decide +kernel
theorem d_M_space_60 : decode b_M_space 60 = .ok (.iconst 0, 1) := by decide +kernel
theorem d_M_space_61 : decode b_M_space 61 = .ok (.putfield 61, 3) := by decide +kernel
theorem d_M_space_64 : decode b_M_space 64 = .ok (.aload_n 0, 1) := by decide +kernel
theorem d_M_space_65 : decode b_M_space 65 = .ok (.getfield 58, 3) := by decide +kernel
theorem d_M_space_68 : decode b_M_space 68 = .ok (.iconst 1, 1) := by decide +kernel
theorem d_M_space_69 : decode b_M_space 69 = .ok (.isub, 1) := by decide +kernel
theorem d_M_space_70 : decode b_M_space 70 = .ok (.ireturn, 1) := by decide +kernel
abbrev b_M_valve : ByteArray := prog_6_method_5_code
def y_M_valve : MethodName := ⟨"SeatProofsModel", "valve", "(IIIZ)I"⟩
abbrev w_M_valve : List Cond := .code y_M_valve b_M_valve 5 (some .int) :: gT
theorem d_M_valve_0 : decode b_M_valve 0 = .ok (.aload_n 0, 1) := by decide +kernel
theorem d_M_valve_1 : decode b_M_valve 1 = .ok (.iconst 0, 1) := by decide +kernel
theorem d_M_valve_2 : decode b_M_valve 2 = .ok (.putfield 54, 3) := by decide +kernel
theorem d_M_valve_5 : decode b_M_valve 5 = .ok (.aload_n 0, 1) := by decide +kernel
theorem d_M_valve_6 : decode b_M_valve 6 = .ok (.iload_n 1, 1) := by decide +kernel
theorem d_M_valve_7 : decode b_M_valve 7 = .ok (.invokevirtual 64, 3) := by decide +kernel
theorem d_M_valve_10 : decode b_M_valve 10 = .ok (.ifCond .eq 26, 3) := by decide +kernel
theorem d_M_valve_13 : decode b_M_valve 13 = .ok (.aload_n 0, 1) := by decide +kernel
theorem d_M_valve_14 : decode b_M_valve 14 = .ok (.iload_n 2, 1) := by decide +kernel
theorem d_M_valve_15 : decode b_M_valve 15 = .ok (.invokevirtual 64, 3) := by decide +kernel
theorem d_M_valve_18 : decode b_M_valve 18 = .ok (.ifCond .eq 18, 3) := by decide +kernel
theorem d_M_valve_21 : decode b_M_valve 21 = .ok (.iload_n 1, 1) := by decide +kernel
theorem d_M_valve_22 : decode b_M_valve 22 = .ok (.iload_n 2, 1) := by decide +kernel
theorem d_M_valve_23 : decode b_M_valve 23 = .ok (.if_icmp .eq 13, 3) := by decide +kernel
theorem d_M_valve_26 : decode b_M_valve 26 = .ok (.iload_n 3, 1) := by decide +kernel
theorem d_M_valve_27 : decode b_M_valve 27 = .ok (.iconst 1, 1) := by decide +kernel
theorem d_M_valve_28 : decode b_M_valve 28 = .ok (.if_icmp .lt 8, 3) := by decide +kernel
theorem d_M_valve_31 : decode b_M_valve 31 = .ok (.iload_n 3, 1) := by decide +kernel
theorem d_M_valve_32 : decode b_M_valve 32 = .ok (.iconst 2, 1) := by decide +kernel
theorem d_M_valve_33 : decode b_M_valve 33 = .ok (.if_icmp .le 5, 3) := by decide +kernel
theorem d_M_valve_36 : decode b_M_valve 36 = .ok (.iconst (-1), 1) := by decide +kernel
theorem d_M_valve_37 : decode b_M_valve 37 = .ok (.ireturn, 1) := by decide +kernel
theorem d_M_valve_38 : decode b_M_valve 38 = .ok (.aload_n 0, 1) := by decide +kernel
theorem d_M_valve_39 : decode b_M_valve 39 = .ok (.getfield 68, 3) := by decide +kernel
theorem d_M_valve_42 : decode b_M_valve 42 = .ok (.bipush 64, 2) := by decide +kernel
theorem d_M_valve_44 : decode b_M_valve 44 = .ok (.if_icmp .ne 6, 3) := by decide +kernel
theorem d_M_valve_47 : decode b_M_valve 47 = .ok (.bipush (-2), 2) := by decide +kernel
theorem d_M_valve_49 : decode b_M_valve 49 = .ok (.ireturn, 1) := by decide +kernel
theorem d_M_valve_50 : decode b_M_valve 50 = .ok (.aload_n 0, 1) := by decide +kernel
theorem d_M_valve_51 : decode b_M_valve 51 = .ok (.getfield 17, 3) := by decide +kernel
theorem d_M_valve_54 : decode b_M_valve 54 = .ok (.aload_n 0, 1) := by decide +kernel
theorem d_M_valve_55 : decode b_M_valve 55 = .ok (.getfield 68, 3) := by decide +kernel
theorem d_M_valve_58 : decode b_M_valve 58 = .ok (.iload_n 1, 1) := by decide +kernel
theorem d_M_valve_59 : decode b_M_valve 59 = .ok (.iastore, 1) := by decide +kernel
theorem d_M_valve_60 : decode b_M_valve 60 = .ok (.aload_n 0, 1) := by decide +kernel
theorem d_M_valve_61 : decode b_M_valve 61 = .ok (.getfield 20, 3) := by decide +kernel
theorem d_M_valve_64 : decode b_M_valve 64 = .ok (.aload_n 0, 1) := by decide +kernel
theorem d_M_valve_65 : decode b_M_valve 65 = .ok (.getfield 68, 3) := by decide +kernel
theorem d_M_valve_68 : decode b_M_valve 68 = .ok (.iload_n 2, 1) := by decide +kernel
theorem d_M_valve_69 : decode b_M_valve 69 = .ok (.iastore, 1) := by decide +kernel
theorem d_M_valve_70 : decode b_M_valve 70 = .ok (.aload_n 0, 1) := by decide +kernel
theorem d_M_valve_71 : decode b_M_valve 71 = .ok (.getfield 23, 3) := by decide +kernel
theorem d_M_valve_74 : decode b_M_valve 74 = .ok (.aload_n 0, 1) := by decide +kernel
theorem d_M_valve_75 : decode b_M_valve 75 = .ok (.getfield 68, 3) := by decide +kernel
theorem d_M_valve_78 : decode b_M_valve 78 = .ok (.iload_n 3, 1) := by decide +kernel
theorem d_M_valve_79 : decode b_M_valve 79 = .ok (.iastore, 1) := by decide +kernel
theorem d_M_valve_80 : decode b_M_valve 80 = .ok (.aload_n 0, 1) := by decide +kernel
theorem d_M_valve_81 : decode b_M_valve 81 = .ok (.getfield 26, 3) := by decide +kernel
theorem d_M_valve_84 : decode b_M_valve 84 = .ok (.aload_n 0, 1) := by decide +kernel
theorem d_M_valve_85 : decode b_M_valve 85 = .ok (.getfield 68, 3) := by decide +kernel
theorem d_M_valve_88 : decode b_M_valve 88 = .ok (.iload 4, 2) := by decide +kernel
theorem d_M_valve_90 : decode b_M_valve 90 = .ok (.bastore, 1) := by decide +kernel
theorem d_M_valve_91 : decode b_M_valve 91 = .ok (.aload_n 0, 1) := by decide +kernel
theorem d_M_valve_92 : decode b_M_valve 92 = .ok (.getfield 30, 3) := by decide +kernel
theorem d_M_valve_95 : decode b_M_valve 95 = .ok (.aload_n 0, 1) := by decide +kernel
theorem d_M_valve_96 : decode b_M_valve 96 = .ok (.getfield 68, 3) := by decide +kernel
theorem d_M_valve_99 : decode b_M_valve 99 = .ok (.iconst 0, 1) := by decide +kernel
theorem d_M_valve_100 : decode b_M_valve 100 = .ok (.bastore, 1) := by decide +kernel
theorem d_M_valve_101 : decode b_M_valve 101 = .ok (.aload_n 0, 1) := by decide +kernel
theorem d_M_valve_102 : decode b_M_valve 102 = .ok (.dup, 1) := by decide +kernel
theorem d_M_valve_103 : decode b_M_valve 103 = .ok (.getfield 68, 3) := by decide +kernel
theorem d_M_valve_106 : decode b_M_valve 106 = .ok (.iconst 1, 1) := by decide +kernel
theorem d_M_valve_107 : decode b_M_valve 107 = .ok (.iadd, 1) := by decide +kernel
theorem d_M_valve_108 : decode b_M_valve 108 = .ok (.putfield 68, 3) := by decide +kernel
theorem d_M_valve_111 : decode b_M_valve 111 = .ok (.aload_n 0, 1) := by decide +kernel
theorem d_M_valve_112 : decode b_M_valve 112 = .ok (.iconst 0, 1) := by decide +kernel
theorem d_M_valve_113 : decode b_M_valve 113 = .ok (.putfield 61, 3) := by decide +kernel
theorem d_M_valve_116 : decode b_M_valve 116 = .ok (.aload_n 0, 1) := by decide +kernel
theorem d_M_valve_117 : decode b_M_valve 117 = .ok (.getfield 68, 3) := by decide +kernel
theorem d_M_valve_120 : decode b_M_valve 120 = .ok (.iconst 1, 1) := by decide +kernel
theorem d_M_valve_121 : decode b_M_valve 121 = .ok (.isub, 1) := by decide +kernel
theorem d_M_valve_122 : decode b_M_valve 122 = .ok (.ireturn, 1) := by decide +kernel
abbrev b_M_level : ByteArray := prog_6_method_6_code
def y_M_level : MethodName := ⟨"SeatProofsModel", "level", "(IJ)Z"⟩
abbrev w_M_level : List Cond := .code y_M_level b_M_level 4 (some .boolean) :: gT
theorem d_M_level_0 : decode b_M_level 0 = .ok (.aload_n 0, 1) := by decide +kernel
theorem d_M_level_1 : decode b_M_level 1 = .ok (.iconst 0, 1) := by decide +kernel
theorem d_M_level_2 : decode b_M_level 2 = .ok (.putfield 54, 3) := by decide +kernel
theorem d_M_level_5 : decode b_M_level 5 = .ok (.aload_n 0, 1) := by decide +kernel
theorem d_M_level_6 : decode b_M_level 6 = .ok (.iload_n 1, 1) := by decide +kernel
theorem d_M_level_7 : decode b_M_level 7 = .ok (.invokevirtual 64, 3) := by decide +kernel
theorem d_M_level_10 : decode b_M_level 10 = .ok (.ifCond .ne 5, 3) := by decide +kernel
theorem d_M_level_13 : decode b_M_level 13 = .ok (.iconst 0, 1) := by decide +kernel
theorem d_M_level_14 : decode b_M_level 14 = .ok (.ireturn, 1) := by decide +kernel
theorem d_M_level_15 : decode b_M_level 15 = .ok (.aload_n 0, 1) := by decide +kernel
theorem d_M_level_16 : decode b_M_level 16 = .ok (.getfield 13, 3) := by decide +kernel
theorem d_M_level_19 : decode b_M_level 19 = .ok (.iload_n 1, 1) := by decide +kernel
theorem d_M_level_20 : decode b_M_level 20 = .ok (.lload_n 2, 1) := by decide +kernel
theorem d_M_level_21 : decode b_M_level 21 = .ok (.lastore, 1) := by decide +kernel
theorem d_M_level_22 : decode b_M_level 22 = .ok (.aload_n 0, 1) := by decide +kernel
theorem d_M_level_23 : decode b_M_level 23 = .ok (.iconst 0, 1) := by decide +kernel
theorem d_M_level_24 : decode b_M_level 24 = .ok (.putfield 61, 3) := by decide +kernel
theorem d_M_level_27 : decode b_M_level 27 = .ok (.iconst 1, 1) := by decide +kernel
theorem d_M_level_28 : decode b_M_level 28 = .ok (.ireturn, 1) := by decide +kernel
abbrev b_M_may : ByteArray := prog_6_method_7_code
def y_M_may : MethodName := ⟨"SeatProofsModel", "may", "(II)Z"⟩
abbrev w_M_may : List Cond := .code y_M_may b_M_may 4 (some .boolean) :: gT
theorem d_M_may_0 : decode b_M_may 0 = .ok (.aload_n 0, 1) := by decide +kernel
theorem d_M_may_1 : decode b_M_may 1 = .ok (.iconst 0, 1) := by decide +kernel
theorem d_M_may_2 : decode b_M_may 2 = .ok (.putfield 54, 3) := by decide +kernel
theorem d_M_may_5 : decode b_M_may 5 = .ok (.iload_n 1, 1) := by decide +kernel
theorem d_M_may_6 : decode b_M_may 6 = .ok (.ifCond .le 28, 3) := by decide +kernel
theorem d_M_may_9 : decode b_M_may 9 = .ok (.iload_n 1, 1) := by decide +kernel
theorem d_M_may_10 : decode b_M_may 10 = .ok (.bipush 16, 2) := by decide +kernel
theorem d_M_may_12 : decode b_M_may 12 = .ok (.if_icmp .ge 22, 3) := by decide +kernel
theorem d_M_may_15 : decode b_M_may 15 = .ok (.iload_n 2, 1) := by decide +kernel
theorem d_M_may_16 : decode b_M_may 16 = .ok (.ifCond .le 18, 3) := by decide +kernel
theorem d_M_may_19 : decode b_M_may 19 = .ok (.iload_n 2, 1) := by decide +kernel
theorem d_M_may_20 : decode b_M_may 20 = .ok (.bipush 16, 2) := by decide +kernel
theorem d_M_may_22 : decode b_M_may 22 = .ok (.if_icmp .ge 12, 3) := by decide +kernel
theorem d_M_may_25 : decode b_M_may 25 = .ok (.iload_n 1, 1) := by decide +kernel
theorem d_M_may_26 : decode b_M_may 26 = .ok (.iload_n 2, 1) := by decide +kernel
theorem d_M_may_27 : decode b_M_may 27 = .ok (.if_icmp .eq 7, 3) := by decide +kernel
theorem d_M_may_30 : decode b_M_may 30 = .ok (.iconst 1, 1) := by decide +kernel
theorem d_M_may_31 : decode b_M_may 31 = .ok (.goto 4, 3) := by decide +kernel
theorem d_M_may_34 : decode b_M_may 34 = .ok (.iconst 0, 1) := by decide +kernel
theorem d_M_may_35 : decode b_M_may 35 = .ok (.istore_n 3, 1) := by decide +kernel
theorem d_M_may_36 : decode b_M_may 36 = .ok (.iload_n 3, 1) := by decide +kernel
theorem d_M_may_37 : decode b_M_may 37 = .ok (.ifCond .eq 17, 3) := by decide +kernel
theorem d_M_may_40 : decode b_M_may 40 = .ok (.aload_n 0, 1) := by decide +kernel
theorem d_M_may_41 : decode b_M_may 41 = .ok (.getfield 33, 3) := by decide +kernel
theorem d_M_may_44 : decode b_M_may 44 = .ok (.bipush 16, 2) := by decide +kernel
theorem d_M_may_46 : decode b_M_may 46 = .ok (.iload_n 1, 1) := by decide +kernel
theorem d_M_may_47 : decode b_M_may 47 = .ok (.imul, 1) := by decide +kernel
theorem d_M_may_48 : decode b_M_may 48 = .ok (.iload_n 2, 1) := by decide +kernel
theorem d_M_may_49 : decode b_M_may 49 = .ok (.iadd, 1) := by decide +kernel
theorem d_M_may_50 : decode b_M_may 50 = .ok (.baload, 1) := by decide +kernel
theorem d_M_may_51 : decode b_M_may 51 = .ok (.ifCond .eq 5, 3) := by decide +kernel
theorem d_M_may_54 : decode b_M_may 54 = .ok (.iconst 0, 1) := by decide +kernel
theorem d_M_may_55 : decode b_M_may 55 = .ok (.ireturn, 1) := by decide +kernel
theorem d_M_may_56 : decode b_M_may 56 = .ok (.aload_n 0, 1) := by decide +kernel
theorem d_M_may_57 : decode b_M_may 57 = .ok (.getfield 33, 3) := by decide +kernel
theorem d_M_may_60 : decode b_M_may 60 = .ok (.bipush 16, 2) := by decide +kernel
theorem d_M_may_62 : decode b_M_may 62 = .ok (.iload_n 1, 1) := by decide +kernel
theorem d_M_may_63 : decode b_M_may 63 = .ok (.imul, 1) := by decide +kernel
theorem d_M_may_64 : decode b_M_may 64 = .ok (.iload_n 2, 1) := by decide +kernel
theorem d_M_may_65 : decode b_M_may 65 = .ok (.iadd, 1) := by decide +kernel
theorem d_M_may_66 : decode b_M_may 66 = .ok (.iconst 1, 1) := by decide +kernel
theorem d_M_may_67 : decode b_M_may 67 = .ok (.bastore, 1) := by decide +kernel
theorem d_M_may_68 : decode b_M_may 68 = .ok (.aload_n 0, 1) := by decide +kernel
theorem d_M_may_69 : decode b_M_may 69 = .ok (.getfield 33, 3) := by decide +kernel
theorem d_M_may_72 : decode b_M_may 72 = .ok (.bipush 16, 2) := by decide +kernel
theorem d_M_may_74 : decode b_M_may 74 = .ok (.iload_n 2, 1) := by decide +kernel
theorem d_M_may_75 : decode b_M_may 75 = .ok (.imul, 1) := by decide +kernel
theorem d_M_may_76 : decode b_M_may 76 = .ok (.iload_n 1, 1) := by decide +kernel
theorem d_M_may_77 : decode b_M_may 77 = .ok (.iadd, 1) := by decide +kernel
theorem d_M_may_78 : decode b_M_may 78 = .ok (.iconst 1, 1) := by decide +kernel
theorem d_M_may_79 : decode b_M_may 79 = .ok (.bastore, 1) := by decide +kernel
theorem d_M_may_80 : decode b_M_may 80 = .ok (.aload_n 0, 1) := by decide +kernel
theorem d_M_may_81 : decode b_M_may 81 = .ok (.iconst 0, 1) := by decide +kernel
theorem d_M_may_82 : decode b_M_may 82 = .ok (.putfield 61, 3) := by decide +kernel
theorem d_M_may_85 : decode b_M_may 85 = .ok (.iconst 1, 1) := by decide +kernel
theorem d_M_may_86 : decode b_M_may 86 = .ok (.ireturn, 1) := by decide +kernel
abbrev b_M_unsure : ByteArray := prog_6_method_22_code
def y_M_unsure : MethodName := ⟨"SeatProofsModel", "unsure", "(IZ)Z"⟩
abbrev w_M_unsure : List Cond := .code y_M_unsure b_M_unsure 3 (some .boolean) :: gT
theorem d_M_unsure_0 : decode b_M_unsure 0 = .ok (.aload_n 0, 1) := by decide +kernel
theorem d_M_unsure_1 : decode b_M_unsure 1 = .ok (.iload_n 1, 1) := by decide +kernel
theorem d_M_unsure_2 : decode b_M_unsure 2 = .ok (.ifCond .lt 11, 3) := by decide +kernel
theorem d_M_unsure_5 : decode b_M_unsure 5 = .ok (.iload_n 1, 1) := by decide +kernel
theorem d_M_unsure_6 : decode b_M_unsure 6 = .ok (.aload_n 0, 1) := by decide +kernel
theorem d_M_unsure_7 : decode b_M_unsure 7 = .ok (.getfield 68, 3) := by decide +kernel
theorem d_M_unsure_10 : decode b_M_unsure 10 = .ok (.if_icmp .lt 7, 3) := by decide +kernel
theorem d_M_unsure_13 : decode b_M_unsure 13 = .ok (.iconst 1, 1) := by decide +kernel
theorem d_M_unsure_14 : decode b_M_unsure 14 = .ok (.goto 4, 3) := by decide +kernel
theorem d_M_unsure_17 : decode b_M_unsure 17 = .ok (.iconst 0, 1) := by decide +kernel
theorem d_M_unsure_18 : decode b_M_unsure 18 = .ok (.putfield 54, 3) := by decide +kernel
theorem d_M_unsure_21 : decode b_M_unsure 21 = .ok (.aload_n 0, 1) := by decide +kernel
theorem d_M_unsure_22 : decode b_M_unsure 22 = .ok (.getfield 54, 3) := by decide +kernel
theorem d_M_unsure_25 : decode b_M_unsure 25 = .ok (.ifCond .gt 13, 3) := by decide +kernel
theorem d_M_unsure_28 : decode b_M_unsure 28 = .ok (.aload_n 0, 1) := by decide +kernel
theorem d_M_unsure_29 : decode b_M_unsure 29 = .ok (.getfield 30, 3) := by decide +kernel
theorem d_M_unsure_32 : decode b_M_unsure 32 = .ok (.iload_n 1, 1) := by decide +kernel
theorem d_M_unsure_33 : decode b_M_unsure 33 = .ok (.baload, 1) := by decide +kernel
theorem d_M_unsure_34 : decode b_M_unsure 34 = .ok (.iload_n 2, 1) := by decide +kernel
theorem d_M_unsure_35 : decode b_M_unsure 35 = .ok (.if_icmp .ne 5, 3) := by decide +kernel
theorem d_M_unsure_38 : decode b_M_unsure 38 = .ok (.iconst 0, 1) := by decide +kernel
theorem d_M_unsure_39 : decode b_M_unsure 39 = .ok (.ireturn, 1) := by decide +kernel
theorem d_M_unsure_40 : decode b_M_unsure 40 = .ok (.aload_n 0, 1) := by decide +kernel
theorem d_M_unsure_41 : decode b_M_unsure 41 = .ok (.getfield 30, 3) := by decide +kernel
theorem d_M_unsure_44 : decode b_M_unsure 44 = .ok (.iload_n 1, 1) := by decide +kernel
theorem d_M_unsure_45 : decode b_M_unsure 45 = .ok (.iload_n 2, 1) := by decide +kernel
theorem d_M_unsure_46 : decode b_M_unsure 46 = .ok (.bastore, 1) := by decide +kernel
theorem d_M_unsure_47 : decode b_M_unsure 47 = .ok (.aload_n 0, 1) := by decide +kernel
theorem d_M_unsure_48 : decode b_M_unsure 48 = .ok (.iconst 0, 1) := by decide +kernel
theorem d_M_unsure_49 : decode b_M_unsure 49 = .ok (.putfield 61, 3) := by decide +kernel
theorem d_M_unsure_52 : decode b_M_unsure 52 = .ok (.iconst 1, 1) := by decide +kernel
theorem d_M_unsure_53 : decode b_M_unsure 53 = .ok (.ireturn, 1) := by decide +kernel
abbrev b_M_clear : ByteArray := prog_6_method_25_code
def y_M_clear : MethodName := ⟨"SeatProofsModel", "clear", "()V"⟩
abbrev w_M_clear : List Cond := .code y_M_clear b_M_clear 2 none :: gT
theorem d_M_clear_0 : decode b_M_clear 0 = .ok (.aload_n 0, 1) := by decide +kernel
theorem d_M_clear_1 : decode b_M_clear 1 = .ok (.iconst 0, 1) := by decide +kernel
theorem d_M_clear_2 : decode b_M_clear 2 = .ok (.putfield 54, 3) := by decide +kernel
theorem d_M_clear_5 : decode b_M_clear 5 = .ok (.iconst 0, 1) := by decide +kernel
theorem d_M_clear_6 : decode b_M_clear 6 = .ok (.istore_n 1, 1) := by decide +kernel
theorem d_M_clear_7 : decode b_M_clear 7 = .ok (.iload_n 1, 1) := by decide +kernel
theorem d_M_clear_8 : decode b_M_clear 8 = .ok (.sipush 256, 3) := by decide +kernel
theorem d_M_clear_11 : decode b_M_clear 11 = .ok (.if_icmp .ge 16, 3) := by decide +kernel
theorem d_M_clear_14 : decode b_M_clear 14 = .ok (.aload_n 0, 1) := by decide +kernel
theorem d_M_clear_15 : decode b_M_clear 15 = .ok (.getfield 33, 3) := by decide +kernel
theorem d_M_clear_18 : decode b_M_clear 18 = .ok (.iload_n 1, 1) := by decide +kernel
theorem d_M_clear_19 : decode b_M_clear 19 = .ok (.iconst 0, 1) := by decide +kernel
theorem d_M_clear_20 : decode b_M_clear 20 = .ok (.bastore, 1) := by decide +kernel
theorem d_M_clear_21 : decode b_M_clear 21 = .ok (.iinc 1 1, 3) := by decide +kernel
theorem d_M_clear_24 : decode b_M_clear 24 = .ok (.goto (-17), 3) := by decide +kernel
theorem d_M_clear_27 : decode b_M_clear 27 = .ok (.aload_n 0, 1) := by decide +kernel
theorem d_M_clear_28 : decode b_M_clear 28 = .ok (.iconst 0, 1) := by decide +kernel
theorem d_M_clear_29 : decode b_M_clear 29 = .ok (.putfield 58, 3) := by decide +kernel
theorem d_M_clear_32 : decode b_M_clear 32 = .ok (.aload_n 0, 1) := by decide +kernel
theorem d_M_clear_33 : decode b_M_clear 33 = .ok (.iconst 0, 1) := by decide +kernel
theorem d_M_clear_34 : decode b_M_clear 34 = .ok (.putfield 68, 3) := by decide +kernel
theorem d_M_clear_37 : decode b_M_clear 37 = .ok (.aload_n 0, 1) := by decide +kernel
theorem d_M_clear_38 : decode b_M_clear 38 = .ok (.iconst 0, 1) := by decide +kernel
theorem d_M_clear_39 : decode b_M_clear 39 = .ok (.putfield 61, 3) := by decide +kernel
theorem d_M_clear_42 : decode b_M_clear 42 = .ok (.aload_n 0, 1) := by decide +kernel
theorem d_M_clear_43 : decode b_M_clear 43 = .ok (.iconst 0, 1) := by decide +kernel
theorem d_M_clear_44 : decode b_M_clear 44 = .ok (.putfield 79, 3) := by decide +kernel
theorem d_M_clear_47 : decode b_M_clear 47 = .ok (.aload_n 0, 1) := by decide +kernel
theorem d_M_clear_48 : decode b_M_clear 48 = .ok (.iconst 0, 1) := by decide +kernel
theorem d_M_clear_49 : decode b_M_clear 49 = .ok (.putfield 104, 3) := by decide +kernel
theorem d_M_clear_52 : decode b_M_clear 52 = .ok (.return_, 1) := by decide +kernel
abbrev b_M_drop : ByteArray := prog_6_method_24_code
def y_M_drop : MethodName := ⟨"SeatProofsModel", "drop", "(I)Z"⟩
abbrev w_M_drop : List Cond := .code y_M_drop b_M_drop 3 (some .boolean) :: gT
theorem d_M_drop_0 : decode b_M_drop 0 = .ok (.aload_n 0, 1) := by decide +kernel
theorem d_M_drop_1 : decode b_M_drop 1 = .ok (.iconst 0, 1) := by decide +kernel
theorem d_M_drop_2 : decode b_M_drop 2 = .ok (.putfield 54, 3) := by decide +kernel
theorem d_M_drop_5 : decode b_M_drop 5 = .ok (.iload_n 1, 1) := by decide +kernel
theorem d_M_drop_6 : decode b_M_drop 6 = .ok (.ifCond .lt 11, 3) := by decide +kernel
theorem d_M_drop_9 : decode b_M_drop 9 = .ok (.iload_n 1, 1) := by decide +kernel
theorem d_M_drop_10 : decode b_M_drop 10 = .ok (.aload_n 0, 1) := by decide +kernel
theorem d_M_drop_11 : decode b_M_drop 11 = .ok (.getfield 61, 3) := by decide +kernel
theorem d_M_drop_14 : decode b_M_drop 14 = .ok (.if_icmp .lt 5, 3) := by decide +kernel
theorem d_M_drop_17 : decode b_M_drop 17 = .ok (.iconst 0, 1) := by decide +kernel
theorem d_M_drop_18 : decode b_M_drop 18 = .ok (.ireturn, 1) := by decide +kernel
theorem d_M_drop_19 : decode b_M_drop 19 = .ok (.iload_n 1, 1) := by decide +kernel
theorem d_M_drop_20 : decode b_M_drop 20 = .ok (.istore_n 2, 1) := by decide +kernel
theorem d_M_drop_21 : decode b_M_drop 21 = .ok (.iload_n 2, 1) := by decide +kernel
theorem d_M_drop_22 : decode b_M_drop 22 = .ok (.iconst 1, 1) := by decide +kernel
theorem d_M_drop_23 : decode b_M_drop 23 = .ok (.iadd, 1) := by decide +kernel
theorem d_M_drop_24 : decode b_M_drop 24 = .ok (.aload_n 0, 1) := by decide +kernel
theorem d_M_drop_25 : decode b_M_drop 25 = .ok (.getfield 61, 3) := by decide +kernel
theorem d_M_drop_28 : decode b_M_drop 28 = .ok (.if_icmp .ge 65, 3) := by decide +kernel
theorem d_M_drop_31 : decode b_M_drop 31 = .ok (.aload_n 0, 1) := by decide +kernel
theorem d_M_drop_32 : decode b_M_drop 32 = .ok (.getfield 36, 3) := by decide +kernel
theorem d_M_drop_35 : decode b_M_drop 35 = .ok (.iload_n 2, 1) := by decide +kernel
theorem d_M_drop_36 : decode b_M_drop 36 = .ok (.aload_n 0, 1) := by decide +kernel
theorem d_M_drop_37 : decode b_M_drop 37 = .ok (.getfield 36, 3) := by decide +kernel
theorem d_M_drop_40 : decode b_M_drop 40 = .ok (.iload_n 2, 1) := by decide +kernel
theorem d_M_drop_41 : decode b_M_drop 41 = .ok (.iconst 1, 1) := by decide +kernel
theorem d_M_drop_42 : decode b_M_drop 42 = .ok (.iadd, 1) := by decide +kernel
theorem d_M_drop_43 : decode b_M_drop 43 = .ok (.iaload, 1) := by decide +kernel
theorem d_M_drop_44 : decode b_M_drop 44 = .ok (.iastore, 1) := by decide +kernel
theorem d_M_drop_45 : decode b_M_drop 45 = .ok (.aload_n 0, 1) := by decide +kernel
theorem d_M_drop_46 : decode b_M_drop 46 = .ok (.getfield 39, 3) := by decide +kernel
theorem d_M_drop_49 : decode b_M_drop 49 = .ok (.iload_n 2, 1) := by decide +kernel
theorem d_M_drop_50 : decode b_M_drop 50 = .ok (.aload_n 0, 1) := by decide +kernel
theorem d_M_drop_51 : decode b_M_drop 51 = .ok (.getfield 39, 3) := by decide +kernel
theorem d_M_drop_54 : decode b_M_drop 54 = .ok (.iload_n 2, 1) := by decide +kernel
theorem d_M_drop_55 : decode b_M_drop 55 = .ok (.iconst 1, 1) := by decide +kernel
theorem d_M_drop_56 : decode b_M_drop 56 = .ok (.iadd, 1) := by decide +kernel
theorem d_M_drop_57 : decode b_M_drop 57 = .ok (.iaload, 1) := by decide +kernel
theorem d_M_drop_58 : decode b_M_drop 58 = .ok (.iastore, 1) := by decide +kernel
theorem d_M_drop_59 : decode b_M_drop 59 = .ok (.aload_n 0, 1) := by decide +kernel
theorem d_M_drop_60 : decode b_M_drop 60 = .ok (.getfield 42, 3) := by decide +kernel
theorem d_M_drop_63 : decode b_M_drop 63 = .ok (.iload_n 2, 1) := by decide +kernel
theorem d_M_drop_64 : decode b_M_drop 64 = .ok (.aload_n 0, 1) := by decide +kernel
theorem d_M_drop_65 : decode b_M_drop 65 = .ok (.getfield 42, 3) := by decide +kernel
theorem d_M_drop_68 : decode b_M_drop 68 = .ok (.iload_n 2, 1) := by decide +kernel
theorem d_M_drop_69 : decode b_M_drop 69 = .ok (.iconst 1, 1) := by decide +kernel
theorem d_M_drop_70 : decode b_M_drop 70 = .ok (.iadd, 1) := by decide +kernel
theorem d_M_drop_71 : decode b_M_drop 71 = .ok (.laload, 1) := by decide +kernel
theorem d_M_drop_72 : decode b_M_drop 72 = .ok (.lastore, 1) := by decide +kernel
theorem d_M_drop_73 : decode b_M_drop 73 = .ok (.aload_n 0, 1) := by decide +kernel
theorem d_M_drop_74 : decode b_M_drop 74 = .ok (.getfield 45, 3) := by decide +kernel
theorem d_M_drop_77 : decode b_M_drop 77 = .ok (.iload_n 2, 1) := by decide +kernel
theorem d_M_drop_78 : decode b_M_drop 78 = .ok (.aload_n 0, 1) := by decide +kernel
theorem d_M_drop_79 : decode b_M_drop 79 = .ok (.getfield 45, 3) := by decide +kernel
theorem d_M_drop_82 : decode b_M_drop 82 = .ok (.iload_n 2, 1) := by decide +kernel
theorem d_M_drop_83 : decode b_M_drop 83 = .ok (.iconst 1, 1) := by decide +kernel
theorem d_M_drop_84 : decode b_M_drop 84 = .ok (.iadd, 1) := by decide +kernel
theorem d_M_drop_85 : decode b_M_drop 85 = .ok (.laload, 1) := by decide +kernel
theorem d_M_drop_86 : decode b_M_drop 86 = .ok (.lastore, 1) := by decide +kernel
theorem d_M_drop_87 : decode b_M_drop 87 = .ok (.iinc 2 1, 3) := by decide +kernel
theorem d_M_drop_90 : decode b_M_drop 90 = .ok (.goto (-69), 3) := by decide +kernel
theorem d_M_drop_93 : decode b_M_drop 93 = .ok (.aload_n 0, 1) := by decide +kernel
theorem d_M_drop_94 : decode b_M_drop 94 = .ok (.dup, 1) := by decide +kernel
theorem d_M_drop_95 : decode b_M_drop 95 = .ok (.getfield 61, 3) := by decide +kernel
theorem d_M_drop_98 : decode b_M_drop 98 = .ok (.iconst 1, 1) := by decide +kernel
theorem d_M_drop_99 : decode b_M_drop 99 = .ok (.isub, 1) := by decide +kernel
theorem d_M_drop_100 : decode b_M_drop 100 = .ok (.putfield 61, 3) := by decide +kernel
theorem d_M_drop_103 : decode b_M_drop 103 = .ok (.iconst 1, 1) := by decide +kernel
theorem d_M_drop_104 : decode b_M_drop 104 = .ok (.ireturn, 1) := by decide +kernel
abbrev b_M_row : ByteArray := prog_6_method_18_code
def y_M_row : MethodName := ⟨"SeatProofsModel", "row", "(II)I"⟩
abbrev w_M_row : List Cond := .code y_M_row b_M_row 5 (some .int) :: gT
theorem d_M_row_0 : decode b_M_row 0 = .ok (.aload_n 0, 1) := by decide +kernel
theorem d_M_row_1 : decode b_M_row 1 = .ok (.iconst 0, 1) := by decide +kernel
theorem d_M_row_2 : decode b_M_row 2 = .ok (.putfield 54, 3) := by decide +kernel
theorem d_M_row_5 : decode b_M_row 5 = .ok (.iload_n 1, 1) := by decide +kernel
theorem d_M_row_6 : decode b_M_row 6 = .ok (.ifCond .lt 15, 3) := by decide +kernel
theorem d_M_row_9 : decode b_M_row 9 = .ok (.iload_n 1, 1) := by decide +kernel
theorem d_M_row_10 : decode b_M_row 10 = .ok (.aload_n 0, 1) := by decide +kernel
theorem d_M_row_11 : decode b_M_row 11 = .ok (.getfield 61, 3) := by decide +kernel
theorem d_M_row_14 : decode b_M_row 14 = .ok (.if_icmp .ge 7, 3) := by decide +kernel
theorem d_M_row_17 : decode b_M_row 17 = .ok (.iload_n 2, 1) := by decide +kernel
theorem d_M_row_18 : decode b_M_row 18 = .ok (.ifCond .ge 5, 3) := by decide +kernel
theorem d_M_row_21 : decode b_M_row 21 = .ok (.iconst (-1), 1) := by decide +kernel
theorem d_M_row_22 : decode b_M_row 22 = .ok (.ireturn, 1) := by decide +kernel
theorem d_M_row_23 : decode b_M_row 23 = .ok (.iload_n 2, 1) := by decide +kernel
theorem d_M_row_24 : decode b_M_row 24 = .ok (.iconst 4, 1) := by decide +kernel
theorem d_M_row_25 : decode b_M_row 25 = .ok (.if_icmp .ge 57, 3) := by decide +kernel
theorem d_M_row_28 : decode b_M_row 28 = .ok (.iload_n 2, 1) := by decide +kernel
theorem d_M_row_29 : decode b_M_row 29 = .ok (.ifCond .ne 12, 3) := by decide +kernel
theorem d_M_row_32 : decode b_M_row 32 = .ok (.aload_n 0, 1) := by decide +kernel
theorem d_M_row_33 : decode b_M_row 33 = .ok (.getfield 36, 3) := by decide +kernel
theorem d_M_row_36 : decode b_M_row 36 = .ok (.iload_n 1, 1) := by decide +kernel
theorem d_M_row_37 : decode b_M_row 37 = .ok (.iaload, 1) := by decide +kernel
theorem d_M_row_38 : decode b_M_row 38 = .ok (.goto 43, 3) := by decide +kernel
theorem d_M_row_41 : decode b_M_row 41 = .ok (.iload_n 2, 1) := by decide +kernel
theorem d_M_row_42 : decode b_M_row 42 = .ok (.iconst 1, 1) := by decide +kernel
theorem d_M_row_43 : decode b_M_row 43 = .ok (.if_icmp .ne 12, 3) := by decide +kernel
theorem d_M_row_46 : decode b_M_row 46 = .ok (.aload_n 0, 1) := by decide +kernel
theorem d_M_row_47 : decode b_M_row 47 = .ok (.getfield 39, 3) := by decide +kernel
theorem d_M_row_50 : decode b_M_row 50 = .ok (.iload_n 1, 1) := by decide +kernel
theorem d_M_row_51 : decode b_M_row 51 = .ok (.iaload, 1) := by decide +kernel
theorem d_M_row_52 : decode b_M_row 52 = .ok (.goto 29, 3) := by decide +kernel
theorem d_M_row_55 : decode b_M_row 55 = .ok (.iload_n 2, 1) := by decide +kernel
theorem d_M_row_56 : decode b_M_row 56 = .ok (.iconst 2, 1) := by decide +kernel
theorem d_M_row_57 : decode b_M_row 57 = .ok (.if_icmp .ne 15, 3) := by decide +kernel
theorem d_M_row_60 : decode b_M_row 60 = .ok (.aload_n 0, 1) := by decide +kernel
theorem d_M_row_61 : decode b_M_row 61 = .ok (.getfield 42, 3) := by decide +kernel
theorem d_M_row_64 : decode b_M_row 64 = .ok (.iload_n 1, 1) := by decide +kernel
theorem d_M_row_65 : decode b_M_row 65 = .ok (.laload, 1) := by decide +kernel
theorem d_M_row_66 : decode b_M_row 66 = .ok (.invokestatic 97, 3) := by decide +kernel
theorem d_M_row_69 : decode b_M_row 69 = .ok (.goto 12, 3) := by decide +kernel
theorem d_M_row_72 : decode b_M_row 72 = .ok (.aload_n 0, 1) := by decide +kernel
theorem d_M_row_73 : decode b_M_row 73 = .ok (.getfield 45, 3) := by decide +kernel
theorem d_M_row_76 : decode b_M_row 76 = .ok (.iload_n 1, 1) := by decide +kernel
theorem d_M_row_77 : decode b_M_row 77 = .ok (.laload, 1) := by decide +kernel
theorem d_M_row_78 : decode b_M_row 78 = .ok (.invokestatic 97, 3) := by decide +kernel
theorem d_M_row_81 : decode b_M_row 81 = .ok (.ireturn, 1) := by decide +kernel
theorem d_M_row_82 : decode b_M_row 82 = .ok (.iload_n 2, 1) := by decide +kernel
theorem d_M_row_83 : decode b_M_row 83 = .ok (.iconst 4, 1) := by decide +kernel
theorem d_M_row_84 : decode b_M_row 84 = .ok (.isub, 1) := by decide +kernel
theorem d_M_row_85 : decode b_M_row 85 = .ok (.istore_n 3, 1) := by decide +kernel
theorem d_M_row_86 : decode b_M_row 86 = .ok (.iconst 0, 1) := by decide +kernel
theorem d_M_row_87 : decode b_M_row 87 = .ok (.istore 4, 2) := by decide +kernel
theorem d_M_row_89 : decode b_M_row 89 = .ok (.iload 4, 2) := by decide +kernel
theorem d_M_row_91 : decode b_M_row 91 = .ok (.aload_n 0, 1) := by decide +kernel
theorem d_M_row_92 : decode b_M_row 92 = .ok (.getfield 68, 3) := by decide +kernel
theorem d_M_row_95 : decode b_M_row 95 = .ok (.if_icmp .ge 33, 3) := by decide +kernel
theorem d_M_row_98 : decode b_M_row 98 = .ok (.aload_n 0, 1) := by decide +kernel
theorem d_M_row_99 : decode b_M_row 99 = .ok (.getfield 45, 3) := by decide +kernel
theorem d_M_row_102 : decode b_M_row 102 = .ok (.iload_n 1, 1) := by decide +kernel
theorem d_M_row_103 : decode b_M_row 103 = .ok (.laload, 1) := by decide +kernel
theorem d_M_row_104 : decode b_M_row 104 = .ok (.iload 4, 2) := by decide +kernel
theorem d_M_row_106 : decode b_M_row 106 = .ok (.invokestatic 75, 3) := by decide +kernel
theorem d_M_row_109 : decode b_M_row 109 = .ok (.ifCond .eq 13, 3) := by decide +kernel
theorem d_M_row_112 : decode b_M_row 112 = .ok (.iload_n 3, 1) := by decide +kernel
theorem d_M_row_113 : decode b_M_row 113 = .ok (.ifCond .ne 6, 3) := by decide +kernel
theorem d_M_row_116 : decode b_M_row 116 = .ok (.iload 4, 2) := by decide +kernel
theorem d_M_row_118 : decode b_M_row 118 = .ok (.ireturn, 1) := by decide +kernel
theorem d_M_row_119 : decode b_M_row 119 = .ok (.iinc 3 (-1), 3) := by decide +kernel
theorem d_M_row_122 : decode b_M_row 122 = .ok (.iinc 4 1, 3) := by decide +kernel
theorem d_M_row_125 : decode b_M_row 125 = .ok (.goto (-36), 3) := by decide +kernel
theorem d_M_row_128 : decode b_M_row 128 = .ok (.iconst (-1), 1) := by decide +kernel
theorem d_M_row_129 : decode b_M_row 129 = .ok (.ireturn, 1) := by decide +kernel
abbrev b_M_meet : ByteArray := prog_6_method_13_code
def y_M_meet : MethodName := ⟨"SeatProofsModel", "meet", "(II)Z"⟩
abbrev w_M_meet : List Cond := .code y_M_meet b_M_meet 6 (some .boolean) :: gT
theorem d_M_meet_0 : decode b_M_meet 0 = .ok (.iconst 0, 1) := by decide +kernel
theorem d_M_meet_1 : decode b_M_meet 1 = .ok (.istore_n 3, 1) := by decide +kernel
theorem d_M_meet_2 : decode b_M_meet 2 = .ok (.iload_n 3, 1) := by decide +kernel
theorem d_M_meet_3 : decode b_M_meet 3 = .ok (.aload_n 0, 1) := by decide +kernel
theorem d_M_meet_4 : decode b_M_meet 4 = .ok (.getfield 58, 3) := by decide +kernel
theorem d_M_meet_7 : decode b_M_meet 7 = .ok (.if_icmp .ge 144, 3) := by decide +kernel
theorem d_M_meet_10 : decode b_M_meet 10 = .ok (.iload_n 1, 1) := by decide +kernel
theorem d_M_meet_11 : decode b_M_meet 11 = .ok (.istore 4, 2) := by decide +kernel
theorem d_M_meet_13 : decode b_M_meet 13 = .ok (.iload 4, 2) := by decide +kernel
theorem d_M_meet_15 : decode b_M_meet 15 = .ok (.aload_n 0, 1) := by decide +kernel
theorem d_M_meet_16 : decode b_M_meet 16 = .ok (.getfield 61, 3) := by decide +kernel
theorem d_M_meet_19 : decode b_M_meet 19 = .ok (.if_icmp .ge 126, 3) := by decide +kernel
theorem d_M_meet_22 : decode b_M_meet 22 = .ok (.iload 4, 2) := by decide +kernel
theorem d_M_meet_24 : decode b_M_meet 24 = .ok (.iconst 1, 1) := by decide +kernel
theorem d_M_meet_25 : decode b_M_meet 25 = .ok (.iadd, 1) := by decide +kernel
theorem d_M_meet_26 : decode b_M_meet 26 = .ok (.istore 5, 2) := by decide +kernel
theorem d_M_meet_28 : decode b_M_meet 28 = .ok (.iload 5, 2) := by decide +kernel
theorem d_M_meet_30 : decode b_M_meet 30 = .ok (.aload_n 0, 1) := by decide +kernel
theorem d_M_meet_31 : decode b_M_meet 31 = .ok (.getfield 61, 3) := by decide +kernel
theorem d_M_meet_34 : decode b_M_meet 34 = .ok (.if_icmp .ge 105, 3) := by decide +kernel
theorem d_M_meet_37 : decode b_M_meet 37 = .ok (.aload_n 0, 1) := by decide +kernel
theorem d_M_meet_38 : decode b_M_meet 38 = .ok (.getfield 42, 3) := by decide +kernel
theorem d_M_meet_41 : decode b_M_meet 41 = .ok (.iload 4, 2) := by decide +kernel
theorem d_M_meet_43 : decode b_M_meet 43 = .ok (.laload, 1) := by decide +kernel
theorem d_M_meet_44 : decode b_M_meet 44 = .ok (.iload_n 3, 1) := by decide +kernel
theorem d_M_meet_45 : decode b_M_meet 45 = .ok (.invokestatic 75, 3) := by decide +kernel
theorem d_M_meet_48 : decode b_M_meet 48 = .ok (.ifCond .eq 85, 3) := by decide +kernel
theorem d_M_meet_51 : decode b_M_meet 51 = .ok (.aload_n 0, 1) := by decide +kernel
theorem d_M_meet_52 : decode b_M_meet 52 = .ok (.getfield 42, 3) := by decide +kernel
theorem d_M_meet_55 : decode b_M_meet 55 = .ok (.iload 5, 2) := by decide +kernel
theorem d_M_meet_57 : decode b_M_meet 57 = .ok (.laload, 1) := by decide +kernel
theorem d_M_meet_58 : decode b_M_meet 58 = .ok (.iload_n 3, 1) := by decide +kernel
theorem d_M_meet_59 : decode b_M_meet 59 = .ok (.invokestatic 75, 3) := by decide +kernel
theorem d_M_meet_62 : decode b_M_meet 62 = .ok (.ifCond .eq 71, 3) := by decide +kernel
theorem d_M_meet_65 : decode b_M_meet 65 = .ok (.aload_n 0, 1) := by decide +kernel
theorem d_M_meet_66 : decode b_M_meet 66 = .ok (.getfield 33, 3) := by decide +kernel
theorem d_M_meet_69 : decode b_M_meet 69 = .ok (.bipush 16, 2) := by decide +kernel
theorem d_M_meet_71 : decode b_M_meet 71 = .ok (.aload_n 0, 1) := by decide +kernel
theorem d_M_meet_72 : decode b_M_meet 72 = .ok (.getfield 39, 3) := by decide +kernel
theorem d_M_meet_75 : decode b_M_meet 75 = .ok (.iload 4, 2) := by decide +kernel
theorem d_M_meet_77 : decode b_M_meet 77 = .ok (.iaload, 1) := by decide +kernel
theorem d_M_meet_78 : decode b_M_meet 78 = .ok (.imul, 1) := by decide +kernel
theorem d_M_meet_79 : decode b_M_meet 79 = .ok (.aload_n 0, 1) := by decide +kernel
theorem d_M_meet_80 : decode b_M_meet 80 = .ok (.getfield 39, 3) := by decide +kernel
theorem d_M_meet_83 : decode b_M_meet 83 = .ok (.iload 5, 2) := by decide +kernel
theorem d_M_meet_85 : decode b_M_meet 85 = .ok (.iaload, 1) := by decide +kernel
theorem d_M_meet_86 : decode b_M_meet 86 = .ok (.iadd, 1) := by decide +kernel
theorem d_M_meet_87 : decode b_M_meet 87 = .ok (.baload, 1) := by decide +kernel
theorem d_M_meet_88 : decode b_M_meet 88 = .ok (.ifCond .ne 45, 3) := by decide +kernel
theorem d_M_meet_91 : decode b_M_meet 91 = .ok (.aload_n 0, 1) := by decide +kernel
theorem d_M_meet_92 : decode b_M_meet 92 = .ok (.getfield 48, 3) := by decide +kernel
theorem d_M_meet_95 : decode b_M_meet 95 = .ok (.iconst 0, 1) := by decide +kernel
theorem d_M_meet_96 : decode b_M_meet 96 = .ok (.iload_n 2, 1) := by decide +kernel
theorem d_M_meet_97 : decode b_M_meet 97 = .ok (.iastore, 1) := by decide +kernel
theorem d_M_meet_98 : decode b_M_meet 98 = .ok (.aload_n 0, 1) := by decide +kernel
theorem d_M_meet_99 : decode b_M_meet 99 = .ok (.getfield 48, 3) := by decide +kernel
theorem d_M_meet_102 : decode b_M_meet 102 = .ok (.iconst 1, 1) := by decide +kernel
theorem d_M_meet_103 : decode b_M_meet 103 = .ok (.iload_n 3, 1) := by decide +kernel
theorem d_M_meet_104 : decode b_M_meet 104 = .ok (.iastore, 1) := by decide +kernel
theorem d_M_meet_105 : decode b_M_meet 105 = .ok (.aload_n 0, 1) := by decide +kernel
theorem d_M_meet_106 : decode b_M_meet 106 = .ok (.getfield 48, 3) := by decide +kernel
theorem d_M_meet_109 : decode b_M_meet 109 = .ok (.iconst 2, 1) := by decide +kernel
theorem d_M_meet_110 : decode b_M_meet 110 = .ok (.aload_n 0, 1) := by decide +kernel
theorem d_M_meet_111 : decode b_M_meet 111 = .ok (.getfield 39, 3) := by decide +kernel
theorem d_M_meet_114 : decode b_M_meet 114 = .ok (.iload 4, 2) := by decide +kernel
theorem d_M_meet_116 : decode b_M_meet 116 = .ok (.iaload, 1) := by decide +kernel
theorem d_M_meet_117 : decode b_M_meet 117 = .ok (.iastore, 1) := by decide +kernel
theorem d_M_meet_118 : decode b_M_meet 118 = .ok (.aload_n 0, 1) := by decide +kernel
theorem d_M_meet_119 : decode b_M_meet 119 = .ok (.getfield 48, 3) := by decide +kernel
theorem d_M_meet_122 : decode b_M_meet 122 = .ok (.iconst 3, 1) := by decide +kernel
theorem d_M_meet_123 : decode b_M_meet 123 = .ok (.aload_n 0, 1) := by decide +kernel
theorem d_M_meet_124 : decode b_M_meet 124 = .ok (.getfield 39, 3) := by decide +kernel
theorem d_M_meet_127 : decode b_M_meet 127 = .ok (.iload 5, 2) := by decide +kernel
theorem d_M_meet_129 : decode b_M_meet 129 = .ok (.iaload, 1) := by decide +kernel
theorem d_M_meet_130 : decode b_M_meet 130 = .ok (.iastore, 1) := by decide +kernel
theorem d_M_meet_131 : decode b_M_meet 131 = .ok (.iconst 1, 1) := by decide +kernel
theorem d_M_meet_132 : decode b_M_meet 132 = .ok (.ireturn, 1) := by decide +kernel
theorem d_M_meet_133 : decode b_M_meet 133 = .ok (.iinc 5 1, 3) := by decide +kernel
theorem d_M_meet_136 : decode b_M_meet 136 = .ok (.goto (-108), 3) := by decide +kernel
theorem d_M_meet_139 : decode b_M_meet 139 = .ok (.iinc 4 1, 3) := by decide +kernel
theorem d_M_meet_142 : decode b_M_meet 142 = .ok (.goto (-129), 3) := by decide +kernel
theorem d_M_meet_145 : decode b_M_meet 145 = .ok (.iinc 3 1, 3) := by decide +kernel
theorem d_M_meet_148 : decode b_M_meet 148 = .ok (.goto (-146), 3) := by decide +kernel
theorem d_M_meet_151 : decode b_M_meet 151 = .ok (.iconst 0, 1) := by decide +kernel
theorem d_M_meet_152 : decode b_M_meet 152 = .ok (.ireturn, 1) := by decide +kernel
theorem iv_P : ∀ w ∈ u_ws "SeatProofs$Plant" F_P 12, w ∈ gT := by
  rw [show u_ws "SeatProofs$Plant" F_P 12 = [(Jvm.Cond.lays "SeatProofs$Plant" "SeatProofs$Plant" "spaces" "I"), (Jvm.Cond.lays "SeatProofs$Plant" "SeatProofs$Plant" "valves" "I"), (Jvm.Cond.laysFinal "SeatProofs$Plant" "SeatProofs$Plant" "levels" "[J"), (Jvm.Cond.laysFinal "SeatProofs$Plant" "SeatProofs$Plant" "sources" "[J"), (Jvm.Cond.laysFinal "SeatProofs$Plant" "SeatProofs$Plant" "friends" "[I"), (Jvm.Cond.laysFinal "SeatProofs$Plant" "SeatProofs$Plant" "oneEnd" "[I"), (Jvm.Cond.laysFinal "SeatProofs$Plant" "SeatProofs$Plant" "otherEnd" "[I"), (Jvm.Cond.lays "SeatProofs$Plant" "SeatProofs$Plant" "openValves" "J"), (Jvm.Cond.lays "SeatProofs$Plant" "SeatProofs$Plant" "unsureValves" "J"), (Jvm.Cond.lays "SeatProofs$Plant" "SeatProofs$Plant" "doubleValves" "J"), (Jvm.Cond.laysFinal "SeatProofs$Plant" "SeatProofs$Plant" "ends" "[J"), (Jvm.Cond.laysFinal "SeatProofs$Plant" "SeatProofs$Plant" "falls" "[J")] by decide +kernel]
  exact List.forall_mem_cons.mpr ⟨iw_50, List.forall_mem_cons.mpr ⟨iw_52, List.forall_mem_cons.mpr ⟨iw_54, List.forall_mem_cons.mpr ⟨iw_56, List.forall_mem_cons.mpr ⟨iw_58, List.forall_mem_cons.mpr ⟨iw_60, List.forall_mem_cons.mpr ⟨iw_62, List.forall_mem_cons.mpr ⟨iw_64, List.forall_mem_cons.mpr ⟨iw_66, List.forall_mem_cons.mpr ⟨iw_68, List.forall_mem_cons.mpr ⟨iw_70, List.forall_mem_cons.mpr ⟨iw_72, fun _ h => absurd h List.not_mem_nil⟩⟩⟩⟩⟩⟩⟩⟩⟩⟩⟩⟩
theorem iu_P (w0 : Cond) : ∀ w ∈ u_ws "SeatProofs$Plant" F_P 12, w ∈ w0 :: gT := fun w h => List.mem_cons_of_mem _ (iv_P w h)
theorem iv_F : ∀ w ∈ u_ws "SeatProofs$Flow" F_F 4, w ∈ gT := by
  rw [show u_ws "SeatProofs$Flow" F_F 4 = [(Jvm.Cond.laysFinal "SeatProofs$Flow" "SeatProofs$Flow" "plant" "LSeatProofs$Plant;"), (Jvm.Cond.lays "SeatProofs$Flow" "SeatProofs$Flow" "letting" "J"), (Jvm.Cond.laysFinal "SeatProofs$Flow" "SeatProofs$Flow" "ways" "[J"), (Jvm.Cond.laysFinal "SeatProofs$Flow" "SeatProofs$Flow" "floods" "[J")] by decide +kernel]
  exact List.forall_mem_cons.mpr ⟨iw_88, List.forall_mem_cons.mpr ⟨iw_90, List.forall_mem_cons.mpr ⟨iw_92, List.forall_mem_cons.mpr ⟨iw_94, fun _ h => absurd h List.not_mem_nil⟩⟩⟩⟩
theorem iu_F (w0 : Cond) : ∀ w ∈ u_ws "SeatProofs$Flow" F_F 4, w ∈ w0 :: gT := fun w h => List.mem_cons_of_mem _ (iv_F w h)
theorem iv_Q : ∀ w ∈ u_ws "SeatProofs$Proof" F_Q 5, w ∈ gT := by
  rw [show u_ws "SeatProofs$Proof" F_Q 5 = [(Jvm.Cond.lays "SeatProofs$Proof" "SeatProofs$Proof" "count" "I"), (Jvm.Cond.laysFinal "SeatProofs$Proof" "SeatProofs$Proof" "failure" "[I"), (Jvm.Cond.laysFinal "SeatProofs$Proof" "SeatProofs$Proof" "liquid" "[I"), (Jvm.Cond.laysFinal "SeatProofs$Proof" "SeatProofs$Proof" "flood" "[J"), (Jvm.Cond.laysFinal "SeatProofs$Proof" "SeatProofs$Proof" "cut" "[J")] by decide +kernel]
  exact List.forall_mem_cons.mpr ⟨iw_113, List.forall_mem_cons.mpr ⟨iw_115, List.forall_mem_cons.mpr ⟨iw_117, List.forall_mem_cons.mpr ⟨iw_119, List.forall_mem_cons.mpr ⟨iw_121, fun _ h => absurd h List.not_mem_nil⟩⟩⟩⟩⟩
theorem iu_Q (w0 : Cond) : ∀ w ∈ u_ws "SeatProofs$Proof" F_Q 5, w ∈ w0 :: gT := fun w h => List.mem_cons_of_mem _ (iv_Q w h)
theorem iv_S : ∀ w ∈ u_ws "SeatProofs" F_S 6, w ∈ gT := by
  rw [show u_ws "SeatProofs" F_S 6 = [(Jvm.Cond.laysFinal "SeatProofs" "SeatProofs" "plant" "LSeatProofs$Plant;"), (Jvm.Cond.laysFinal "SeatProofs" "SeatProofs" "flow" "LSeatProofs$Flow;"), (Jvm.Cond.laysFinal "SeatProofs" "SeatProofs" "proof" "LSeatProofs$Proof;"), (Jvm.Cond.laysFinal "SeatProofs" "SeatProofs" "found" "[I"), (Jvm.Cond.lays "SeatProofs" "SeatProofs" "foundUnsafe" "Z"), (Jvm.Cond.lays "SeatProofs" "SeatProofs" "remade" "I")] by decide +kernel]
  exact List.forall_mem_cons.mpr ⟨iw_130, List.forall_mem_cons.mpr ⟨iw_132, List.forall_mem_cons.mpr ⟨iw_134, List.forall_mem_cons.mpr ⟨iw_136, List.forall_mem_cons.mpr ⟨iw_138, List.forall_mem_cons.mpr ⟨iw_140, fun _ h => absurd h List.not_mem_nil⟩⟩⟩⟩⟩⟩
theorem iu_S (w0 : Cond) : ∀ w ∈ u_ws "SeatProofs" F_S 6, w ∈ w0 :: gT := fun w h => List.mem_cons_of_mem _ (iv_S w h)
theorem iv_M : ∀ w ∈ u_ws "SeatProofsModel" F_M 20, w ∈ gT := by
  rw [show u_ws "SeatProofsModel" F_M 20 = [(Jvm.Cond.laysFinal "SeatProofsModel" "SeatProofsModel" "liquids" "[I"), (Jvm.Cond.laysFinal "SeatProofsModel" "SeatProofsModel" "levels" "[J"), (Jvm.Cond.lays "SeatProofsModel" "SeatProofsModel" "spaces" "I"), (Jvm.Cond.laysFinal "SeatProofsModel" "SeatProofsModel" "firsts" "[I"), (Jvm.Cond.laysFinal "SeatProofsModel" "SeatProofsModel" "seconds" "[I"), (Jvm.Cond.laysFinal "SeatProofsModel" "SeatProofsModel" "seats" "[I"), (Jvm.Cond.laysFinal "SeatProofsModel" "SeatProofsModel" "opens" "[Z"), (Jvm.Cond.laysFinal "SeatProofsModel" "SeatProofsModel" "doubts" "[Z"), (Jvm.Cond.lays "SeatProofsModel" "SeatProofsModel" "valves" "I"), (Jvm.Cond.laysFinal "SeatProofsModel" "SeatProofsModel" "mays" "[Z"), (Jvm.Cond.lays "SeatProofsModel" "SeatProofsModel" "rows" "I"), (Jvm.Cond.laysFinal "SeatProofsModel" "SeatProofsModel" "failures" "[I"), (Jvm.Cond.laysFinal "SeatProofsModel" "SeatProofsModel" "of" "[I"), (Jvm.Cond.laysFinal "SeatProofsModel" "SeatProofsModel" "floods" "[J"), (Jvm.Cond.laysFinal "SeatProofsModel" "SeatProofsModel" "cuts" "[J"), (Jvm.Cond.laysFinal "SeatProofsModel" "SeatProofsModel" "culprit" "[I"), (Jvm.Cond.lays "SeatProofsModel" "SeatProofsModel" "guilty" "Z"), (Jvm.Cond.lays "SeatProofsModel" "SeatProofsModel" "tested" "I"), (Jvm.Cond.lays "SeatProofsModel" "SeatProofsModel" "thrown" "I"), (Jvm.Cond.laysFinal "SeatProofsModel" "SeatProofsModel" "wet" "[Z")] by decide +kernel]
  exact List.forall_mem_cons.mpr ⟨iw_460, List.forall_mem_cons.mpr ⟨iw_462, List.forall_mem_cons.mpr ⟨iw_464, List.forall_mem_cons.mpr ⟨iw_466, List.forall_mem_cons.mpr ⟨iw_468, List.forall_mem_cons.mpr ⟨iw_470, List.forall_mem_cons.mpr ⟨iw_472, List.forall_mem_cons.mpr ⟨iw_474, List.forall_mem_cons.mpr ⟨iw_476, List.forall_mem_cons.mpr ⟨iw_478, List.forall_mem_cons.mpr ⟨iw_480, List.forall_mem_cons.mpr ⟨iw_482, List.forall_mem_cons.mpr ⟨iw_484, List.forall_mem_cons.mpr ⟨iw_486, List.forall_mem_cons.mpr ⟨iw_488, List.forall_mem_cons.mpr ⟨iw_490, List.forall_mem_cons.mpr ⟨iw_492, List.forall_mem_cons.mpr ⟨iw_494, List.forall_mem_cons.mpr ⟨iw_496, List.forall_mem_cons.mpr ⟨iw_498, fun _ h => absurd h List.not_mem_nil⟩⟩⟩⟩⟩⟩⟩⟩⟩⟩⟩⟩⟩⟩⟩⟩⟩⟩⟩⟩
theorem iu_M (w0 : Cond) : ∀ w ∈ u_ws "SeatProofsModel" F_M 20, w ∈ w0 :: gT := fun w h => List.mem_cons_of_mem _ (iv_M w h)
theorem iv_Io : ∀ w ∈ u_ws "java/lang/IndexOutOfBoundsException" F_Io 6, w ∈ gT := by
  rw [show u_ws "java/lang/IndexOutOfBoundsException" F_Io 6 = [(Jvm.Cond.lays "java/lang/IndexOutOfBoundsException" "java/lang/Throwable" "cause" "Ljava/lang/Throwable;"), (Jvm.Cond.lays "java/lang/IndexOutOfBoundsException" "java/lang/Throwable" "stackTrace" "[Ljava/lang/StackTraceElement;"), (Jvm.Cond.lays "java/lang/IndexOutOfBoundsException" "java/lang/Throwable" "suppressedExceptions" "Ljava/util/List;"), (Jvm.Cond.lays "java/lang/IndexOutOfBoundsException" "java/lang/Throwable" "detailMessage" "Ljava/lang/String;"), (Jvm.Cond.lays "java/lang/IndexOutOfBoundsException" "java/lang/Throwable" "backtrace" "Ljava/lang/Object;"), (Jvm.Cond.lays "java/lang/IndexOutOfBoundsException" "java/lang/Throwable" "depth" "I")] by decide +kernel]
  exact List.forall_mem_cons.mpr ⟨iw_353, List.forall_mem_cons.mpr ⟨iw_355, List.forall_mem_cons.mpr ⟨iw_357, List.forall_mem_cons.mpr ⟨iw_359, List.forall_mem_cons.mpr ⟨iw_361, List.forall_mem_cons.mpr ⟨iw_403, fun _ h => absurd h List.not_mem_nil⟩⟩⟩⟩⟩⟩
theorem iu_Io (w0 : Cond) : ∀ w ∈ u_ws "java/lang/IndexOutOfBoundsException" F_Io 6, w ∈ w0 :: gT := fun w h => List.mem_cons_of_mem _ (iv_Io w h)
theorem gg_M_thrown : GoodIn gT w_M_thrown := good_c iw_505
theorem gg_M_isSpace : GoodIn gT w_M_isSpace := good_c iw_517
theorem gg_M_has : GoodIn gT w_M_has := good_c iw_548
theorem gg_M_lets : GoodIn gT w_M_lets := good_c iw_541
theorem gg_M_flood : GoodIn gT w_M_flood := good_c iw_537
theorem gg_M_cut : GoodIn gT w_M_cut := good_c iw_545
theorem gg_M_isThere : GoodIn gT w_M_isThere := good_c iw_533
theorem gg_M_size : GoodIn gT w_M_size := good_c iw_567
theorem gg_M_rows : GoodIn gT w_M_rows := good_c iw_560
theorem gg_M_tested : GoodIn gT w_M_tested := good_c iw_587
theorem gg_M_culprit : GoodIn gT w_M_culprit := good_c iw_556
theorem gg_M_space : GoodIn gT w_M_space := good_c iw_509
theorem gg_M_valve : GoodIn gT w_M_valve := good_c iw_513
theorem gg_M_level : GoodIn gT w_M_level := good_c iw_521
theorem gg_M_may : GoodIn gT w_M_may := good_c iw_525
theorem gg_M_unsure : GoodIn gT w_M_unsure := good_c iw_583
theorem gg_M_clear : GoodIn gT w_M_clear := good_c iw_595
theorem gg_M_drop : GoodIn gT w_M_drop := good_c iw_591
theorem gg_M_row : GoodIn gT w_M_row := good_c iw_564
theorem gg_M_meet : GoodIn gT w_M_meet := good_c iw_552
