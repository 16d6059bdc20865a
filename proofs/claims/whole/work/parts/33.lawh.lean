abbrev b_L_set : ByteArray := method_3_code
def y_L_set : MethodName := ⟨"SeatProofsLaw", "set", "(LSeatProofs;IZ[J)I"⟩
abbrev w_L_set : List Cond := .codeWith y_L_set b_L_set 5 (some .int) [(0, 17, 20, 13)] :: gT
theorem iw_332 : (Jvm.Cond.codeWith ({ cls := "SeatProofsLaw", name := "set", desc := "(LSeatProofs;IZ[J)I" } : Jvm.MethodName) method_3_code (5 : Nat) (Option.some Jvm.ClassFile.FieldType.int) [((0 : Nat), (17 : Nat), (20 : Nat), (13 : Nat))]) ∈ gT := mem_gT2 (tm_21 _ (List.mem_append_left _ (List.mem_of_getElem? (i := 12) rfl))) rfl
theorem gg_L_set : GoodIn gT w_L_set := good_c iw_332
theorem d_L_set_0 : decode b_L_set 0 = .ok (.aload_n 3, 1) := by decide +kernel
theorem d_L_set_1 : decode b_L_set 1 = .ok (.iconst 0, 1) := by decide +kernel
theorem d_L_set_2 : decode b_L_set 2 = .ok (.aload_n 0, 1) := by decide +kernel
theorem d_L_set_3 : decode b_L_set 3 = .ok (.iload_n 1, 1) := by decide +kernel
theorem d_L_set_4 : decode b_L_set 4 = .ok (.iload_n 2, 1) := by decide +kernel
theorem d_L_set_5 : decode b_L_set 5 = .ok (.invokevirtual 7, 3) := by decide +kernel
theorem d_L_set_8 : decode b_L_set 8 = .ok (.ifCond .eq 7, 3) := by decide +kernel
theorem d_L_set_11 : decode b_L_set 11 = .ok (.lconst 1, 1) := by decide +kernel
theorem d_L_set_12 : decode b_L_set 12 = .ok (.goto 4, 3) := by decide +kernel
theorem d_L_set_15 : decode b_L_set 15 = .ok (.lconst 0, 1) := by decide +kernel
theorem d_L_set_16 : decode b_L_set 16 = .ok (.lastore, 1) := by decide +kernel
theorem d_L_set_17 : decode b_L_set 17 = .ok (.goto 7, 3) := by decide +kernel
theorem d_L_set_20 : decode b_L_set 20 = .ok (.astore 4, 2) := by decide +kernel
theorem d_L_set_22 : decode b_L_set 22 = .ok (.iconst 1, 1) := by decide +kernel
theorem d_L_set_23 : decode b_L_set 23 = .ok (.ireturn, 1) := by decide +kernel
theorem d_L_set_24 : decode b_L_set 24 = .ok (.iconst 0, 1) := by decide +kernel
theorem d_L_set_25 : decode b_L_set 25 = .ok (.ireturn, 1) := by decide +kernel
abbrev b_L_unsure : ByteArray := method_4_code
def y_L_unsure : MethodName := ⟨"SeatProofsLaw", "unsure", "(LSeatProofs;IZ[J)I"⟩
abbrev w_L_unsure : List Cond := .codeWith y_L_unsure b_L_unsure 5 (some .int) [(0, 17, 20, 13)] :: gT
theorem iw_425 : (Jvm.Cond.codeWith ({ cls := "SeatProofsLaw", name := "unsure", desc := "(LSeatProofs;IZ[J)I" } : Jvm.MethodName) method_4_code (5 : Nat) (Option.some Jvm.ClassFile.FieldType.int) [((0 : Nat), (17 : Nat), (20 : Nat), (13 : Nat))]) ∈ gT := mem_gT2 (tm_27 _ (List.mem_append_left _ (List.mem_of_getElem? (i := 9) rfl))) rfl
theorem gg_L_unsure : GoodIn gT w_L_unsure := good_c iw_425
theorem d_L_unsure_0 : decode b_L_unsure 0 = .ok (.aload_n 3, 1) := by decide +kernel
theorem d_L_unsure_1 : decode b_L_unsure 1 = .ok (.iconst 0, 1) := by decide +kernel
theorem d_L_unsure_2 : decode b_L_unsure 2 = .ok (.aload_n 0, 1) := by decide +kernel
theorem d_L_unsure_3 : decode b_L_unsure 3 = .ok (.iload_n 1, 1) := by decide +kernel
theorem d_L_unsure_4 : decode b_L_unsure 4 = .ok (.iload_n 2, 1) := by decide +kernel
theorem d_L_unsure_5 : decode b_L_unsure 5 = .ok (.invokevirtual 15, 3) := by decide +kernel
theorem d_L_unsure_8 : decode b_L_unsure 8 = .ok (.ifCond .eq 7, 3) := by decide +kernel
theorem d_L_unsure_11 : decode b_L_unsure 11 = .ok (.lconst 1, 1) := by decide +kernel
theorem d_L_unsure_12 : decode b_L_unsure 12 = .ok (.goto 4, 3) := by decide +kernel
theorem d_L_unsure_15 : decode b_L_unsure 15 = .ok (.lconst 0, 1) := by decide +kernel
theorem d_L_unsure_16 : decode b_L_unsure 16 = .ok (.lastore, 1) := by decide +kernel
theorem d_L_unsure_17 : decode b_L_unsure 17 = .ok (.goto 7, 3) := by decide +kernel
theorem d_L_unsure_20 : decode b_L_unsure 20 = .ok (.astore 4, 2) := by decide +kernel
theorem d_L_unsure_22 : decode b_L_unsure 22 = .ok (.iconst 1, 1) := by decide +kernel
theorem d_L_unsure_23 : decode b_L_unsure 23 = .ok (.ireturn, 1) := by decide +kernel
theorem d_L_unsure_24 : decode b_L_unsure 24 = .ok (.iconst 0, 1) := by decide +kernel
theorem d_L_unsure_25 : decode b_L_unsure 25 = .ok (.ireturn, 1) := by decide +kernel
/-! what the law's own two methods rest on -/
theorem tab1 {p : Program} {l : Launch} {y : MethodName} {S : Spec} {code bytes : ByteArray} {mL mL2 : Nat} {ret ret2 : Option FieldType} {e : Env} {s : State} {m : MethodId} {args : Array Value} {below : List Frame} {meth : Method} {c : Code} {s₁ : State} {a1 a2 a3 a4 : Nat}
    (B : BodyLoose p l y S code mL ret e s m args below meth c s₁) (h : (Cond.codeWith y bytes mL2 ret2 [(a1, a2, a3, a4)]).before args s = true) : ∃ x : ExceptionTableEntry, c.exceptionTable.toList = [x] ∧ x.startPc = a1 ∧ x.endPc = a2 ∧ x.handlerPc = a3 ∧ x.catchType = a4 := by
  obtain ⟨m9, meth9, c9, hn9, hm9, hc9, -, -, htab, -⟩ := Cond.codeWith_spec h
  cases B.named.symm.trans hn9
  cases B.method.symm.trans hm9
  cases (Stand.of_body B).code.symm.trans hc9
  cases hq : c.exceptionTable.toList with
  | nil => rw [hq] at htab; simp at htab
  | cons x t =>
    rw [hq] at htab
    cases t with
    | nil => simp at htab; exact ⟨x, rfl, htab.1, htab.2.1, htab.2.2.1, htab.2.2.2⟩
    | cons y t => simp at htab
abbrev wL (q : CA) (oa : Nat) (z : CSt × (Nat → Int64)) : va_W := wC q z.1 ++ [(oa, .inl (ca_cJ q, 1, .inr (.inl z.2)))]
abbrev lPc (D : va_G) (cl : List vw_C) (tys : List (ClassId × FieldType)) (w : va_W) (sz : Nat) (av : List Value) : Array Value → State → Prop := va_Pc av (fun U => U.heap.size = sz ∧ va_P D cl w U.heap ∧ va_K D cl tys U ∧ va_D (fun _ => True) w ∧ NW U ∧ TW U)
theorem fb_l {D : va_G} {cl : List vw_C} {tys : List (ClassId × FieldType)} {w : va_W} {sz : Nat} {av : List Value} : FrameBlind (lPc D cl tys w sz av) := fun a U g mk q => by
  obtain ⟨q0, q1, qP, qK, qD, qN, qT⟩ := q
  exact ⟨q0, q1, qP, va_K.moved (u := U) (U := U.calling g mk a) (Vm.Alike.refl U.vm) qK, qD, NW.same (u := U) rfl qN, TW.same (u := U) rfl rfl qT⟩
def C_set (u : CSt) (x : Nat) (b : Bool) (v : MSt) (b9 : Bool) (z : CSt) : Prop := ∃ (g3 g4 : Nat → Int64) (L : Int64) (Wy : Nat → Int64), (∀ j, g3 j = if j < k_cnt u ∧ kt u x j = true then mF v (k_pl u j) (k_pf u j) else k_pw u j) ∧ (∀ j, g4 j = if j < k_cnt u ∧ kt u x j = true then mC v (mF v (k_pl u j) (k_pf u j)) (k_pf u j) else k_pc u j) ∧ (b9 = true ↔ (0 < k_cnt u ∧ ∀ p9 q9, p9 < q9 → q9 < k_cnt u → ¬ kK (k_s_pw u g3) p9 q9)) ∧ z = k_s_cnt (k_s_re (k_s_ways (k_s_lett (k_s_pc (k_s_pw (k_s_opn u (wth (k_opn u) x b)) g3) g4) L) Wy) (pcn (kt u x) (k_cnt u))) (if b9 = true then k_cnt u else 0)
def C_unsure (u : CSt) (x : Nat) (b b9 : Bool) (z : CSt) : Prop := (tb (k_uns u) x = b ∧ b9 = false ∧ z = u) ∨ (¬ tb (k_uns u) x = b ∧ b9 = true ∧ z = k_s_cnt (k_s_uns u (wth (k_uns u) x b)) 0)
def L_set (u : CSt) (f : Nat → Int64) (v : MSt) (x : Int32) (b : Bool) (r : Int32) (z : CSt × (Nat → Int64)) : Prop := (ixB x (k_nV u) = false ∧ r = nI 1 ∧ z = (u, f)) ∨ ∃ i, i < k_nV u ∧ x = nI i ∧ ∃ (b9 : Bool) (z1 : CSt), C_set u i b (m_s_op v (va_up (m_op v) i b)) b9 z1 ∧ r = nI 0 ∧ z = (z1, va_up f 0 (if b9 = true then 1 else 0))
def L_unsure (u : CSt) (f : Nat → Int64) (x : Int32) (b : Bool) (r : Int32) (z : CSt × (Nat → Int64)) : Prop := (ixB x (k_nV u) = false ∧ r = nI 1 ∧ z = (u, f)) ∨ ∃ i, i < k_nV u ∧ x = nI i ∧ ∃ (b9 : Bool) (z1 : CSt), C_unsure u i b b9 z1 ∧ r = nI 0 ∧ z = (z1, va_up f 0 (if b9 = true then 1 else 0))
