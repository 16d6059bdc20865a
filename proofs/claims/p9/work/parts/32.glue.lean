/-! a call over a part of the world -/
section GLUE
variable {D : va_G} {cl : List vw_C} {H H1 : Heap} {A A0 : Nat → Prop} {a b w r : va_W}
theorem va_P.L (h : va_P D cl (a ++ b) H) : va_P D cl a H := fun k q hq => h k q (by
  have hk : k < a.length := (List.getElem?_eq_some_iff.mp hq).1
  rw [List.getElem?_append_left hk]; exact hq)
theorem va_P.R (h : va_P D cl (a ++ b) H) : va_P D cl b H := fun k q hq => h (a.length + k) q (by
  rw [List.getElem?_append_right (by omega)]; rw [show a.length + k - a.length = k by omega]; exact hq)
theorem va_P.mk (h1 : va_P D cl a H) (h2 : va_P D cl b H) : va_P D cl (a ++ b) H := fun k q hq => by
  rcases Nat.lt_or_ge k a.length with z | z
  · rw [List.getElem?_append_left z] at hq; exact h1 k q hq
  · rw [List.getElem?_append_right z] at hq; exact h2 _ q hq
theorem va_D.L (h : va_D A (a ++ b)) : va_D A a := by
  have e : ∀ (k : Nat) (q : Nat × va_E), a[k]? = some q → (a ++ b)[k]? = some q := fun k q hq => by
    have hk : k < a.length := (List.getElem?_eq_some_iff.mp hq).1
    rw [List.getElem?_append_left hk]; exact hq
  exact ⟨fun i j p q hi hj e1 => h.1 i j p q (e i p hi) (e j q hj) e1, fun k q hq => h.2 k q (e k q hq)⟩
theorem va_D.R (h : va_D A (a ++ b)) : va_D A b := by
  have e : ∀ (k : Nat) (q : Nat × va_E), b[k]? = some q → (a ++ b)[a.length + k]? = some q := fun k q hq => by
    rw [List.getElem?_append_right (by omega)]; rw [show a.length + k - a.length = k by omega]; exact hq
  exact ⟨fun i j p q hi hj e1 => by have := h.1 _ _ p q (e i p hi) (e j q hj) e1; omega, fun k q hq => h.2 _ q (e k q hq)⟩
theorem va_D.dis (h : va_D A (a ++ b)) {i j : Nat} {p q : Nat × va_E} (hi : a[i]? = some p) (hj : b[j]? = some q) : p.1 ≠ q.1 := fun e => by
  have hk : i < a.length := (List.getElem?_eq_some_iff.mp hi).1
  have := h.1 i (a.length + j) p q (by rw [List.getElem?_append_left hk]; exact hi) (by rw [List.getElem?_append_right (by omega)]; rw [show a.length + j - a.length = j by omega]; exact hj) e
  omega
theorem va_D.mk (h1 : va_D A a) (h2 : va_D A b) (h3 : ∀ (i j : Nat) (p q : Nat × va_E), a[i]? = some p → b[j]? = some q → p.1 ≠ q.1) : va_D A (a ++ b) := by
  refine ⟨fun i j p q hi hj e => ?_, fun k q hq => ?_⟩
  · rcases Nat.lt_or_ge i a.length with z | z <;> rcases Nat.lt_or_ge j a.length with z2 | z2
    · rw [List.getElem?_append_left z] at hi; rw [List.getElem?_append_left z2] at hj; exact h1.1 i j p q hi hj e
    · rw [List.getElem?_append_left z] at hi; rw [List.getElem?_append_right z2] at hj; exact absurd e (h3 _ _ p q hi hj)
    · rw [List.getElem?_append_right z] at hi; rw [List.getElem?_append_left z2] at hj; exact absurd e.symm (h3 _ _ q p hj hi)
    · rw [List.getElem?_append_right z] at hi; rw [List.getElem?_append_right z2] at hj; have := h2.1 _ _ p q hi hj e; omega
  · rcases Nat.lt_or_ge k a.length with z | z
    · rw [List.getElem?_append_left z] at hq; exact h1.2 k q hq
    · rw [List.getElem?_append_right z] at hq; exact h2.2 _ q hq
theorem out_A (hP : va_P D cl r H) (h3 : ∀ (i j : Nat) (p q : Nat × va_E), w[i]? = some p → r[j]? = some q → p.1 ≠ q.1) {k : Nat} {q : Nat × va_E} (hq : r[k]? = some q) : q.1 < H.size ∧ ¬ va_A w H.size q.1 := by
  have hl := (hP k q hq).lt
  refine ⟨hl, fun h => ?_⟩
  rcases h with ⟨j, e, h⟩ | h
  · exact h3 j k _ q h hq rfl
  · omega
/-- the left part came back changed -/
theorem glueL {w1 : va_W} (hP : va_P D cl (w ++ r) H) (hD : va_D A0 (w ++ r)) (hk : ∀ q : Nat, q < H.size → ¬ va_A w H.size q → H1[q]? = H[q]?) (hF : ∀ q, va_A w H.size q → A0 q) (hP1 : va_P D cl w1 H1) (hD1 : va_D (va_A w H.size) w1) : va_P D cl (w1 ++ r) H1 ∧ va_D A0 (w1 ++ r) := by
  have o : ∀ {k : Nat} {q : Nat × va_E}, r[k]? = some q → q.1 < H.size ∧ ¬ va_A w H.size q.1 := fun hq => out_A hP.R (fun _ _ _ _ h1 h2 => hD.dis h1 h2) hq
  refine ⟨va_P.mk hP1 (fun k q hq => (hP.R k q hq).kept (hk q.1 (o hq).1 (o hq).2)), va_D.mk (hD1.weaken (fun _ q _ h => hF q.1 h)) hD.R (fun i j p q hi hj e => (o hj).2 ?_)⟩
  rw [← e]; exact hD1.2 i p hi
/-- the right part came back changed -/
theorem glueR {w1 : va_W} (hP : va_P D cl (r ++ w) H) (hD : va_D A0 (r ++ w)) (hk : ∀ q : Nat, q < H.size → ¬ va_A w H.size q → H1[q]? = H[q]?) (hF : ∀ q, va_A w H.size q → A0 q) (hP1 : va_P D cl w1 H1) (hD1 : va_D (va_A w H.size) w1) : va_P D cl (r ++ w1) H1 ∧ va_D A0 (r ++ w1) := by
  have o : ∀ {k : Nat} {q : Nat × va_E}, r[k]? = some q → q.1 < H.size ∧ ¬ va_A w H.size q.1 := fun hq => out_A hP.L (fun _ _ _ _ h1 h2 => (hD.dis h2 h1).symm) hq
  refine ⟨va_P.mk (fun k q hq => (hP.L k q hq).kept (hk q.1 (o hq).1 (o hq).2)) hP1, va_D.mk hD.L (hD1.weaken (fun _ q _ h => hF q.1 h)) (fun i j p q hi hj e => (o hi).2 ?_)⟩
  rw [e]; exact hD1.2 j q hj
end GLUE
section CALLG
variable {p : Program} {l : Launch} {e : Env} {R : Room} {s : State} {m : MethodId} {args : Array Value} {below : List Frame} {meth : Method} {c : Code} {H : Heap} {locs : List Loc} {cells slots : Nat} {Q : State → Prop}
variable {pc : Nat} {ls : Array Slot} {rest st0 : List Value} {a : Array Value} {A0 : Nat → Prop} {H0 : Heap} {mc ms : Nat}
variable {D : va_G} {cl : List vw_C} {tys : List (ClassId × FieldType)} {w r9 : va_W} {S : Type} {w1 : S → va_W}
theorem cL_i {post : Int32 → S → Prop} (hr : va_Run p l e R s m args below meth c H locs cells slots mc ms (F0 m pc ls st0) rest (va_Qi post (qB D cl tys w H.size w1) (va_A w H.size) a) (va_A w H.size)) (hP : va_P D cl (w ++ r9) H) (hD : va_D A0 (w ++ r9)) (hS : va_S A0 H0 H locs) (hA : ∀ q, H0.size ≤ q → A0 q)
    (kk : ∀ (r : Int32) (u : S) (H1 : Heap) (locs1 : List Loc), post r u → va_P D cl (w1 u ++ r9) H1 → va_D A0 (w1 u ++ r9) → va_S A0 H0 H1 locs1 → W p l e R s m args below meth c H1 locs1 (cells + mc) (slots + ms) Q (F0 m (pc + 3) ls (.int r :: rest))) : W p l e R s m args below meth c H locs cells slots Q (F0 m pc ls st0) :=
  va_calli hr hS (fun q _ h => own_A hD.L hS hA q h) (own_A hD.L hS hA) (fun r u t H1 locs1 ht _ hw hB _ hk hS1 => by
    obtain ⟨g1, g2⟩ := glueL hP hD hk (own_A hD.L hS hA) (ht ▸ hB.1) hB.2.2
    exact kk r u H1 locs1 hw g1 g2 hS1)
theorem cL_v {post : S → Prop} (hr : va_Run p l e R s m args below meth c H locs cells slots mc ms (F0 m pc ls st0) rest (va_Qv post (qB D cl tys w H.size w1) (va_A w H.size) a) (va_A w H.size)) (hP : va_P D cl (w ++ r9) H) (hD : va_D A0 (w ++ r9)) (hS : va_S A0 H0 H locs) (hA : ∀ q, H0.size ≤ q → A0 q)
    (kk : ∀ (u : S) (H1 : Heap) (locs1 : List Loc), post u → va_P D cl (w1 u ++ r9) H1 → va_D A0 (w1 u ++ r9) → va_S A0 H0 H1 locs1 → W p l e R s m args below meth c H1 locs1 (cells + mc) (slots + ms) Q (F0 m (pc + 3) ls rest)) : W p l e R s m args below meth c H locs cells slots Q (F0 m pc ls st0) :=
  va_callv hr hS (fun q _ h => own_A hD.L hS hA q h) (own_A hD.L hS hA) (fun u t H1 locs1 ht _ hw hB _ hk hS1 => by
    obtain ⟨g1, g2⟩ := glueL hP hD hk (own_A hD.L hS hA) (ht ▸ hB.1) hB.2.2
    exact kk u H1 locs1 hw g1 g2 hS1)
theorem cR_i {post : Int32 → S → Prop} (hr : va_Run p l e R s m args below meth c H locs cells slots mc ms (F0 m pc ls st0) rest (va_Qi post (qB D cl tys w H.size w1) (va_A w H.size) a) (va_A w H.size)) (hP : va_P D cl (r9 ++ w) H) (hD : va_D A0 (r9 ++ w)) (hS : va_S A0 H0 H locs) (hA : ∀ q, H0.size ≤ q → A0 q)
    (kk : ∀ (r : Int32) (u : S) (H1 : Heap) (locs1 : List Loc), post r u → va_P D cl (r9 ++ w1 u) H1 → va_D A0 (r9 ++ w1 u) → va_S A0 H0 H1 locs1 → W p l e R s m args below meth c H1 locs1 (cells + mc) (slots + ms) Q (F0 m (pc + 3) ls (.int r :: rest))) : W p l e R s m args below meth c H locs cells slots Q (F0 m pc ls st0) :=
  va_calli hr hS (fun q _ h => own_A hD.R hS hA q h) (own_A hD.R hS hA) (fun r u t H1 locs1 ht _ hw hB _ hk hS1 => by
    obtain ⟨g1, g2⟩ := glueR hP hD hk (own_A hD.R hS hA) (ht ▸ hB.1) hB.2.2
    exact kk r u H1 locs1 hw g1 g2 hS1)
theorem cR_v {post : S → Prop} (hr : va_Run p l e R s m args below meth c H locs cells slots mc ms (F0 m pc ls st0) rest (va_Qv post (qB D cl tys w H.size w1) (va_A w H.size) a) (va_A w H.size)) (hP : va_P D cl (r9 ++ w) H) (hD : va_D A0 (r9 ++ w)) (hS : va_S A0 H0 H locs) (hA : ∀ q, H0.size ≤ q → A0 q)
    (kk : ∀ (u : S) (H1 : Heap) (locs1 : List Loc), post u → va_P D cl (r9 ++ w1 u) H1 → va_D A0 (r9 ++ w1 u) → va_S A0 H0 H1 locs1 → W p l e R s m args below meth c H1 locs1 (cells + mc) (slots + ms) Q (F0 m (pc + 3) ls rest)) : W p l e R s m args below meth c H locs cells slots Q (F0 m pc ls st0) :=
  va_callv hr hS (fun q _ h => own_A hD.R hS hA q h) (own_A hD.R hS hA) (fun u t H1 locs1 ht _ hw hB _ hk hS1 => by
    obtain ⟨g1, g2⟩ := glueR hP hD hk (own_A hD.R hS hA) (ht ▸ hB.1) hB.2.2
    exact kk u H1 locs1 hw g1 g2 hS1)
end CALLG
abbrev b_L_set : ByteArray := method_3_code
def y_L_set : MethodName := ⟨"SeatProofsLaw", "set", "(LSeatProofs;IZ[J)I"⟩
abbrev w_L_set : List Cond := .codeWith y_L_set b_L_set 5 (some .int) [(0, 17, 20, 13)] :: gT
theorem iw_332 : (Jvm.Cond.codeWith ({ cls := "SeatProofsLaw", name := "set", desc := "(LSeatProofs;IZ[J)I" } : Jvm.MethodName) method_3_code (5 : Nat) (Option.some Jvm.ClassFile.FieldType.int) [((0 : Nat), (17 : Nat), (20 : Nat), (13 : Nat))]) ∈ gT := mem_gT2 (tq_2 _ (List.mem_of_getElem? (i := 92) rfl)) rfl
theorem gg_L_set : GoodIn gT w_L_set := good_c iw_332
theorem d_L_set_0 : decode b_L_set 0 = .ok (.aload_n 3, 1) := by decide +kernel
theorem d_L_set_1 : decode b_L_set 1 = .ok (.iconst 0, 1) := by decide +kernel
theorem d_L_set_2 : decode b_L_set 2 = .ok (.aload_n 0, 1) := by decide +kernel
theorem d_L_set_3 : decode b_L_set 3 = .ok (.iload_n 1, 1) := by decide +kernel
theorem d_L_set_4 : decode b_L_set 4 = .ok (.iload_n 2, 1) := by decide +kernel
theorem d_L_set_5 : decode b_L_set 5 = .ok (.invokevirtual 7, 3) := by decide +kernel
theorem d_L_set_8 : decode b_L_set 8 = .ok (.ifCond .eq 7, 3) := by decide +kernel
theorem d_L_set_11 : decode b_L_set 11 = .ok (.lconst 1, 1) := by decide +kernel
theorem d_L_set_12 : decode b_L_set 12 = .ok (.goto 4, 3) := by decide +kernel
theorem d_L_set_15 : decode b_L_set 15 = .ok (.lconst 0, 1) := by decide +kernel
theorem d_L_set_16 : decode b_L_set 16 = .ok (.lastore, 1) := by decide +kernel
theorem d_L_set_17 : decode b_L_set 17 = .ok (.goto 7, 3) := by decide +kernel
theorem d_L_set_20 : decode b_L_set 20 = .ok (.astore 4, 2) := by decide +kernel
theorem d_L_set_22 : decode b_L_set 22 = .ok (.iconst 1, 1) := by decide +kernel
theorem d_L_set_23 : decode b_L_set 23 = .ok (.ireturn, 1) := by decide +kernel
theorem d_L_set_24 : decode b_L_set 24 = .ok (.iconst 0, 1) := by decide +kernel
theorem d_L_set_25 : decode b_L_set 25 = .ok (.ireturn, 1) := by decide +kernel
abbrev b_L_unsure : ByteArray := method_4_code
def y_L_unsure : MethodName := ⟨"SeatProofsLaw", "unsure", "(LSeatProofs;IZ[J)I"⟩
abbrev w_L_unsure : List Cond := .codeWith y_L_unsure b_L_unsure 5 (some .int) [(0, 17, 20, 13)] :: gT
theorem iw_425 : (Jvm.Cond.codeWith ({ cls := "SeatProofsLaw", name := "unsure", desc := "(LSeatProofs;IZ[J)I" } : Jvm.MethodName) method_4_code (5 : Nat) (Option.some Jvm.ClassFile.FieldType.int) [((0 : Nat), (17 : Nat), (20 : Nat), (13 : Nat))]) ∈ gT := mem_gT2 (tq_2 _ (List.mem_of_getElem? (i := 185) rfl)) rfl
theorem gg_L_unsure : GoodIn gT w_L_unsure := good_c iw_425
theorem d_L_unsure_0 : decode b_L_unsure 0 = .ok (.aload_n 3, 1) := by decide +kernel
theorem d_L_unsure_1 : decode b_L_unsure 1 = .ok (.iconst 0, 1) := by decide +kernel
theorem d_L_unsure_2 : decode b_L_unsure 2 = .ok (.aload_n 0, 1) := by decide +kernel
theorem d_L_unsure_3 : decode b_L_unsure 3 = .ok (.iload_n 1, 1) := by decide +kernel
theorem d_L_unsure_4 : decode b_L_unsure 4 = .ok (.iload_n 2, 1) := by decide +kernel
theorem d_L_unsure_5 : decode b_L_unsure 5 = .ok (.invokevirtual 15, 3) := by decide +kernel
theorem d_L_unsure_8 : decode b_L_unsure 8 = .ok (.ifCond .eq 7, 3) := by decide +kernel
theorem d_L_unsure_11 : decode b_L_unsure 11 = .ok (.lconst 1, 1) := by decide +kernel
theorem d_L_unsure_12 : decode b_L_unsure 12 = .ok (.goto 4, 3) := by decide +kernel
theorem d_L_unsure_15 : decode b_L_unsure 15 = .ok (.lconst 0, 1) := by decide +kernel
theorem d_L_unsure_16 : decode b_L_unsure 16 = .ok (.lastore, 1) := by decide +kernel
theorem d_L_unsure_17 : decode b_L_unsure 17 = .ok (.goto 7, 3) := by decide +kernel
theorem d_L_unsure_20 : decode b_L_unsure 20 = .ok (.astore 4, 2) := by decide +kernel
theorem d_L_unsure_22 : decode b_L_unsure 22 = .ok (.iconst 1, 1) := by decide +kernel
theorem d_L_unsure_23 : decode b_L_unsure 23 = .ok (.ireturn, 1) := by decide +kernel
theorem d_L_unsure_24 : decode b_L_unsure 24 = .ok (.iconst 0, 1) := by decide +kernel
theorem d_L_unsure_25 : decode b_L_unsure 25 = .ok (.ireturn, 1) := by decide +kernel
/-! what the law's own two methods rest on -/
theorem tab1 {p : Program} {l : Launch} {y : MethodName} {S : Spec} {code bytes : ByteArray} {mL mL2 : Nat} {ret ret2 : Option FieldType} {e : Env} {s : State} {m : MethodId} {args : Array Value} {below : List Frame} {meth : Method} {c : Code} {s₁ : State} {a1 a2 a3 a4 : Nat}
    (B : BodyLoose p l y S code mL ret e s m args below meth c s₁) (h : (Cond.codeWith y bytes mL2 ret2 [(a1, a2, a3, a4)]).before args s = true) : ∃ x : ExceptionTableEntry, c.exceptionTable.toList = [x] ∧ x.startPc = a1 ∧ x.endPc = a2 ∧ x.handlerPc = a3 ∧ x.catchType = a4 := by
  obtain ⟨m9, meth9, c9, hn9, hm9, hc9, -, -, htab, -⟩ := Cond.codeWith_spec h
  cases B.named.symm.trans hn9
  cases B.method.symm.trans hm9
  cases (Stand.of_body B).code.symm.trans hc9
  cases hq : c.exceptionTable.toList with
  | nil => rw [hq] at htab; simp at htab
  | cons x t =>
    rw [hq] at htab
    cases t with
    | nil => simp at htab; exact ⟨x, rfl, htab.1, htab.2.1, htab.2.2.1, htab.2.2.2⟩
    | cons y t => simp at htab
abbrev wL (q : CA) (oa : Nat) (z : CSt × (Nat → Int64)) : va_W := wC q z.1 ++ [(oa, .inl (ca_cJ q, 1, .inr (.inl z.2)))]
abbrev lPc (D : va_G) (cl : List vw_C) (tys : List (ClassId × FieldType)) (w : va_W) (sz : Nat) (av : List Value) : Array Value → State → Prop := va_Pc av (fun U => U.heap.size = sz ∧ va_P D cl w U.heap ∧ va_K D cl tys U ∧ va_D (fun _ => True) w ∧ NW U ∧ TW U)
theorem fb_l {D : va_G} {cl : List vw_C} {tys : List (ClassId × FieldType)} {w : va_W} {sz : Nat} {av : List Value} : FrameBlind (lPc D cl tys w sz av) := fun a U g mk q => by
  obtain ⟨q0, q1, qP, qK, qD, qN, qT⟩ := q
  exact ⟨q0, q1, qP, va_K.moved (u := U) (U := U.calling g mk a) (Vm.Alike.refl U.vm) qK, qD, NW.same (u := U) rfl qN, TW.same (u := U) rfl rfl qT⟩
def C_set (u : CSt) (x : Nat) (b : Bool) (v : MSt) (b9 : Bool) (z : CSt) : Prop := ∃ (g3 g4 : Nat → Int64) (L : Int64) (Wy : Nat → Int64), (∀ j, g3 j = if j < k_cnt u ∧ kt u x j = true then mF v (k_pl u j) (k_pf u j) else k_pw u j) ∧ (∀ j, g4 j = if j < k_cnt u ∧ kt u x j = true then mC v (mF v (k_pl u j) (k_pf u j)) (k_pf u j) else k_pc u j) ∧ (b9 = true ↔ (0 < k_cnt u ∧ ∀ p9 q9, p9 < q9 → q9 < k_cnt u → ¬ kK (k_s_pw u g3) p9 q9)) ∧ z = k_s_cnt (k_s_re (k_s_ways (k_s_lett (k_s_pc (k_s_pw (k_s_opn u (wth (k_opn u) x b)) g3) g4) L) Wy) (pcn (kt u x) (k_cnt u))) (if b9 = true then k_cnt u else 0)
def C_unsure (u : CSt) (x : Nat) (b b9 : Bool) (z : CSt) : Prop := (tb (k_uns u) x = b ∧ b9 = false ∧ z = u) ∨ (¬ tb (k_uns u) x = b ∧ b9 = true ∧ z = k_s_cnt (k_s_uns u (wth (k_uns u) x b)) 0)
def L_set (u : CSt) (f : Nat → Int64) (v : MSt) (x : Int32) (b : Bool) (r : Int32) (z : CSt × (Nat → Int64)) : Prop := (ixB x (k_nV u) = false ∧ r = nI 1 ∧ z = (u, f)) ∨ ∃ i, i < k_nV u ∧ x = nI i ∧ ∃ (b9 : Bool) (z1 : CSt), C_set u i b (m_s_op v (va_up (m_op v) i b)) b9 z1 ∧ r = nI 0 ∧ z = (z1, va_up f 0 (if b9 = true then 1 else 0))
def L_unsure (u : CSt) (f : Nat → Int64) (x : Int32) (b : Bool) (r : Int32) (z : CSt × (Nat → Int64)) : Prop := (ixB x (k_nV u) = false ∧ r = nI 1 ∧ z = (u, f)) ∨ ∃ i, i < k_nV u ∧ x = nI i ∧ ∃ (b9 : Bool) (z1 : CSt), C_unsure u i b b9 z1 ∧ r = nI 0 ∧ z = (z1, va_up f 0 (if b9 = true then 1 else 0))
set_option maxHeartbeats 4000000 in
set_option maxRecDepth 100000 in
theorem c_L_set (l : Launch) (hfl : l.flags = pinnedFlags ++ [noTraceFlag]) (dC : Nat → ClassId) (dI : Nat → Nat → Nat) (q : CA) (u : CSt) (sz : Nat) (oa : Nat) (f : Nat → Int64) (x : Int32) (b : Bool) (v : MSt) (hset : ∀ i, i < k_nV u → CP (k_s_opn u (wth (k_opn u) i b)) (m_s_op v (va_up (m_op v) i b))) (h1 : k_nV u ≤ 64) (h0 : k_cnt u ≤ 975) (b1 : ∀ j, k_pf u j < 65) (b2 : ∀ j, k_pl u j < 16) (hpf : ∀ j, j < k_cnt u → k_pf u j ≤ m_nV v) (hs : ∀ x y, x < y → y < k_cnt u → k_pf u x ≤ k_pf u y) : Met l y_L_set w_L_set ({ frames := 7, cells := 1, slots := 6, locals := 133 }) (lPc (dC, dI) vwCl (tC q) (wL q oa (u, f)) sz [Value.ref (ca_o q), Value.int x, Value.int (bI b), Value.ref oa]) (va_Qi (fun (r : Int32) (z : CSt × (Nat → Int64)) => L_set u f v x b r z) (qB (dC, dI) vwCl (tC q) (wL q oa (u, f)) sz (wL q oa)) (va_A (wL q oa (u, f)) sz)) 1 6 (va_A (wL q oa (u, f)) sz) := by
  refine va_MetW (cc := b_L_set) (maxL := 5) (ret := (some .int)) (hh := [(0, 17, 20, 13)]) (by decide) rfl ?_
  intro p e s m args below meth c s₁ B hml hv
  obtain ⟨rfl, hsz, hP, hK, hD0, hN, hTW⟩ := hv
  have hx := B.exec
  have hb := B.bytes
  have hr := B.returns
  have hts := atoms_spec (ws := w_L_set) B.pre
  have hown : s.vm.findClass "SeatProofsLaw" = some m.cls := findClass_of_methodNamed B.named
  have hlocks := B.notSynchronized
  obtain ⟨xe, hxe, hx1, hx2, hx3, hx4⟩ := tab1 (s := s) B (hts _ List.mem_cons_self)
  subst hsz
  have hD := hD0.self (sz := s.heap.size)
  have hA : ∀ z : Nat, s.heap.size ≤ z → va_A (wL q oa (u, f)) s.heap.size z := fun z h => Or.inr h
  have hS : va_S (va_A (wL q oa (u, f)) s.heap.size) s.heap s.heap [] := va_S.rf
  have hl := lv_entry ([Value.ref (ca_o q), Value.int x, Value.int (bI b), Value.ref oa]) (n := 5) (Nat.le_of_ble_eq_true rfl)
  rw [lg_entry_eq]
  generalize (lg_sl ([Value.ref (ca_o q), Value.int x, Value.int (bI b), Value.ref oa]) ++ List.replicate (5 - (lg_sl ([Value.ref (ca_o q), Value.int x, Value.int (bI b), Value.ref oa])).length) Slot.unset).toArray = ls at hl ⊢
  have hl : lv_has ls 5 [(0, .ref (ca_o q)), (1, .int x), (2, .int (bI b)), (3, .ref oa)] := hl
  refine lv_aload_n hx hb d_L_set_0 rfl (lv_at hl 3 rfl) ?_
  refine lv_iconst (v := nI 0) hx hb d_L_set_1 (by decide) ?_
  refine lv_aload_n hx hb d_L_set_2 rfl (lv_at hl 0 rfl) ?_
  refine lv_iload_n hx hb d_L_set_3 rfl (lv_at hl 1 rfl) ?_
  refine lv_iload_n hx hb d_L_set_4 rfl (lv_at hl 2 rfl) ?_
  cases hv9 : ixB x (k_nV u) with
  | false =>
    refine thr_V (As := [.int x, .int (bI b)]) (rest := [.int (nI 0), .ref oa]) ⟨hx, hb, hml, hown, hts⟩ (t_S_set l dC dI q u hfl x b hv9) (cwV 2 hts (good_up (good_V iw_334 iw_335 iw_336 iw_1 gg_S_set)) rfl rfl rfl (by decide +kernel) ⟨Nat.le_of_ble_eq_true rfl, Nat.le_of_ble_eq_true rfl⟩) (pv_T [.int x, .int (bI b)] hN hTW (fun _ _ => rfl) hK hP.L (ci := 3) (q0 := 0) rfl rfl) rfl hl.1 (Nat.le_of_ble_eq_true rfl) d_L_set_5 ⟨Nat.le_of_ble_eq_true rfl, Nat.le_of_ble_eq_true rfl⟩ hxe (by show (decide (xe.startPc ≤ _) && decide (_ < xe.endPc)) = true; rw [hx1, hx2]; rfl) (by rw [hx4]; decide) (by rw [hx4]; exact hts _ (List.mem_cons_of_mem _ iw_333)) (fun z H1 g1 g2 => ?_)
    rw [hx3]
    refine lv_astore (lv' := [(4, .ref z), (0, .ref (ca_o q)), (1, .int x), (2, .int (bI b)), (3, .ref oa)]) hx hb d_L_set_20 hl (by decide) rfl (fun ls hl => ?_)
    refine lv_iconst (v := nI 1) hx hb d_L_set_22 (by decide) ?_
    have hS1 : va_S (va_A (wL q oa (u, f)) s.heap.size) s.heap H1 [] := ⟨g1, fun q h _ => g2 q h, fun _ h => by cases h⟩
    have hP1 : va_P (dC, dI) vwCl (wL q oa (u, f)) H1 := fun k e9 he => (hP k e9 he).kept (g2 e9.1 (hP k e9 he).lt)
    exact W.iret hx hb hr (fun t9 ht9 hW9 => ⟨⟨_, (u, f), rfl, Or.inl ⟨hv9, rfl, rfl⟩, by rw [ht9]; exact hP1, va_K.moved hW9.alike hK, hD⟩, hS1.F ht9⟩) hS1.2.2 d_L_set_23
  | true =>
    obtain ⟨i, hi, rfl⟩ := ixB_of (by omega) hv9
    refine cL_i (va_runV (As := [.int (nI i), .int (bI b)]) (rest := [.int (nI 0), .ref oa]) ⟨hx, hb, hml, hown, hts⟩ (c_S_set l dC dI q u _ i b _ (hset i hi) hi h1 h0 b1 b2 hpf hs) (cwV 2 hts (good_up (good_V iw_334 iw_335 iw_336 iw_1 gg_S_set)) rfl rfl rfl (by decide +kernel) ⟨Nat.le_of_ble_eq_true rfl, Nat.le_of_ble_eq_true rfl⟩) (pv_Q [.int (nI i), .int (bI b)] hN hK hP.L hD.L (ci := 3) (q0 := 0) rfl rfl) rfl rfl hl.1 rfl (lv_room (Nat.le_of_ble_eq_true rfl)) d_L_set_5 ⟨Nat.le_of_ble_eq_true rfl, Nat.le_of_ble_eq_true rfl⟩) hP hD hS hA (fun r9 z9 H locs hpost hP hD hS => ?_)
    obtain ⟨g3, g4, L9, W9, b9, p3, p4, p5, rfl, p6⟩ := hpost
    have hz9 : C_set u i b (m_s_op v (va_up (m_op v) i b)) b9 z9 := ⟨g3, g4, L9, W9, p3, p4, p5, p6⟩
    clear p3 p4 p5 p6
    refine b0_eq (tgt := 15) hx hb d_L_set_8 (by decide) (fun c9 => ?_) (fun c9 => ?_)
    · refine lv_lconst (v := 0) hx hb d_L_set_15 (by decide) ?_
      refine st_l hx hb hK hP hD hS 18 1 rfl rfl (va_up f 0 0) (by decide) (by decide) (updL_up _ _ _) d_L_set_16 (fun H locs hP hD hS => ?_)
      refine lv_goto (tgt := 24) hx hb d_L_set_17 (by decide) ?_
      refine lv_iconst (v := nI 0) hx hb d_L_set_24 (by decide) ?_
      refine W.widen (k := 1) (n := 6) (Nat.le_of_ble_eq_true rfl) (Nat.le_of_ble_eq_true rfl) ?_
      exact W.iret hx hb hr (fun t9 ht9 hW9 => ⟨⟨_, (z9, va_up f 0 0), rfl, Or.inr ⟨i, hi, rfl, b9, z9, hz9, rfl, by rw [c9]; rfl⟩, by rw [ht9]; exact hP, va_K.moved hW9.alike hK, hD⟩, hS.F ht9⟩) hS.2.2 d_L_set_25
    · refine lv_lconst (v := 1) hx hb d_L_set_11 (by decide) ?_
      refine lv_goto (tgt := 16) hx hb d_L_set_12 (by decide) ?_
      refine st_l hx hb hK hP hD hS 18 1 rfl rfl (va_up f 0 1) (by decide) (by decide) (updL_up _ _ _) d_L_set_16 (fun H locs hP hD hS => ?_)
      refine lv_goto (tgt := 24) hx hb d_L_set_17 (by decide) ?_
      refine lv_iconst (v := nI 0) hx hb d_L_set_24 (by decide) ?_
      refine W.widen (k := 1) (n := 6) (Nat.le_of_ble_eq_true rfl) (Nat.le_of_ble_eq_true rfl) ?_
      exact W.iret hx hb hr (fun t9 ht9 hW9 => ⟨⟨_, (z9, va_up f 0 1), rfl, Or.inr ⟨i, hi, rfl, b9, z9, hz9, rfl, by rw [c9]; rfl⟩, by rw [ht9]; exact hP, va_K.moved hW9.alike hK, hD⟩, hS.F ht9⟩) hS.2.2 d_L_set_25
set_option maxHeartbeats 4000000 in
set_option maxRecDepth 100000 in
theorem c_L_unsure (l : Launch) (hfl : l.flags = pinnedFlags ++ [noTraceFlag]) (dC : Nat → ClassId) (dI : Nat → Nat → Nat) (q : CA) (u : CSt) (sz : Nat) (oa : Nat) (f : Nat → Int64) (x : Int32) (b : Bool) (h1 : k_nV u ≤ 64) : Met l y_L_unsure w_L_unsure ({ frames := 7, cells := 1, slots := 6, locals := 104 }) (lPc (dC, dI) vwCl (tC q) (wL q oa (u, f)) sz [Value.ref (ca_o q), Value.int x, Value.int (bI b), Value.ref oa]) (va_Qi (fun (r : Int32) (z : CSt × (Nat → Int64)) => L_unsure u f x b r z) (qB (dC, dI) vwCl (tC q) (wL q oa (u, f)) sz (wL q oa)) (va_A (wL q oa (u, f)) sz)) 1 6 (va_A (wL q oa (u, f)) sz) := by
  refine va_MetW (cc := b_L_unsure) (maxL := 5) (ret := (some .int)) (hh := [(0, 17, 20, 13)]) (by decide) rfl ?_
  intro p e s m args below meth c s₁ B hml hv
  obtain ⟨rfl, hsz, hP, hK, hD0, hN, hTW⟩ := hv
  have hx := B.exec
  have hb := B.bytes
  have hr := B.returns
  have hts := atoms_spec (ws := w_L_unsure) B.pre
  have hown : s.vm.findClass "SeatProofsLaw" = some m.cls := findClass_of_methodNamed B.named
  have hlocks := B.notSynchronized
  obtain ⟨xe, hxe, hx1, hx2, hx3, hx4⟩ := tab1 (s := s) B (hts _ List.mem_cons_self)
  subst hsz
  have hD := hD0.self (sz := s.heap.size)
  have hA : ∀ z : Nat, s.heap.size ≤ z → va_A (wL q oa (u, f)) s.heap.size z := fun z h => Or.inr h
  have hS : va_S (va_A (wL q oa (u, f)) s.heap.size) s.heap s.heap [] := va_S.rf
  have hl := lv_entry ([Value.ref (ca_o q), Value.int x, Value.int (bI b), Value.ref oa]) (n := 5) (Nat.le_of_ble_eq_true rfl)
  rw [lg_entry_eq]
  generalize (lg_sl ([Value.ref (ca_o q), Value.int x, Value.int (bI b), Value.ref oa]) ++ List.replicate (5 - (lg_sl ([Value.ref (ca_o q), Value.int x, Value.int (bI b), Value.ref oa])).length) Slot.unset).toArray = ls at hl ⊢
  have hl : lv_has ls 5 [(0, .ref (ca_o q)), (1, .int x), (2, .int (bI b)), (3, .ref oa)] := hl
  refine lv_aload_n hx hb d_L_unsure_0 rfl (lv_at hl 3 rfl) ?_
  refine lv_iconst (v := nI 0) hx hb d_L_unsure_1 (by decide) ?_
  refine lv_aload_n hx hb d_L_unsure_2 rfl (lv_at hl 0 rfl) ?_
  refine lv_iload_n hx hb d_L_unsure_3 rfl (lv_at hl 1 rfl) ?_
  refine lv_iload_n hx hb d_L_unsure_4 rfl (lv_at hl 2 rfl) ?_
  cases hv9 : ixB x (k_nV u) with
  | false =>
    refine thr_V (As := [.int x, .int (bI b)]) (rest := [.int (nI 0), .ref oa]) ⟨hx, hb, hml, hown, hts⟩ (t_S_unsure l dC dI q u hfl x b hv9) (cwV 2 hts (good_up (good_V iw_426 iw_427 iw_428 iw_1 gg_S_unsure)) rfl rfl rfl (by decide +kernel) ⟨Nat.le_of_ble_eq_true rfl, Nat.le_of_ble_eq_true rfl⟩) (pv_T [.int x, .int (bI b)] hN hTW (fun _ _ => rfl) hK hP.L (ci := 3) (q0 := 0) rfl rfl) rfl hl.1 (Nat.le_of_ble_eq_true rfl) d_L_unsure_5 ⟨Nat.le_of_ble_eq_true rfl, Nat.le_of_ble_eq_true rfl⟩ hxe (by show (decide (xe.startPc ≤ _) && decide (_ < xe.endPc)) = true; rw [hx1, hx2]; rfl) (by rw [hx4]; decide) (by rw [hx4]; exact hts _ (List.mem_cons_of_mem _ iw_333)) (fun z H1 g1 g2 => ?_)
    rw [hx3]
    refine lv_astore (lv' := [(4, .ref z), (0, .ref (ca_o q)), (1, .int x), (2, .int (bI b)), (3, .ref oa)]) hx hb d_L_unsure_20 hl (by decide) rfl (fun ls hl => ?_)
    refine lv_iconst (v := nI 1) hx hb d_L_unsure_22 (by decide) ?_
    have hS1 : va_S (va_A (wL q oa (u, f)) s.heap.size) s.heap H1 [] := ⟨g1, fun q h _ => g2 q h, fun _ h => by cases h⟩
    have hP1 : va_P (dC, dI) vwCl (wL q oa (u, f)) H1 := fun k e9 he => (hP k e9 he).kept (g2 e9.1 (hP k e9 he).lt)
    exact W.iret hx hb hr (fun t9 ht9 hW9 => ⟨⟨_, (u, f), rfl, Or.inl ⟨hv9, rfl, rfl⟩, by rw [ht9]; exact hP1, va_K.moved hW9.alike hK, hD⟩, hS1.F ht9⟩) hS1.2.2 d_L_unsure_23
  | true =>
    obtain ⟨i, hi, rfl⟩ := ixB_of (by omega) hv9
    refine cL_i (va_runV (As := [.int (nI i), .int (bI b)]) (rest := [.int (nI 0), .ref oa]) ⟨hx, hb, hml, hown, hts⟩ (c_S_unsure l dC dI q u _ i b hi h1) (cwV 2 hts (good_up (good_V iw_426 iw_427 iw_428 iw_1 gg_S_unsure)) rfl rfl rfl (by decide +kernel) ⟨Nat.le_of_ble_eq_true rfl, Nat.le_of_ble_eq_true rfl⟩) (pv_Q [.int (nI i), .int (bI b)] hN hK hP.L hD.L (ci := 3) (q0 := 0) rfl rfl) rfl rfl hl.1 rfl (lv_room (Nat.le_of_ble_eq_true rfl)) d_L_unsure_5 ⟨Nat.le_of_ble_eq_true rfl, Nat.le_of_ble_eq_true rfl⟩) hP hD hS hA (fun r9 z9 H locs hpost hP hD hS => ?_)
    obtain ⟨b9, rfl, hz9⟩ : ∃ b9 : Bool, r9 = bI b9 ∧ C_unsure u i b b9 z9 := by
      rcases hpost with ⟨h1, h2, h3⟩ | ⟨h1, h2, h3⟩
      · exact ⟨false, h2, Or.inl ⟨h1, rfl, h3⟩⟩
      · exact ⟨true, h2, Or.inr ⟨h1, rfl, h3⟩⟩
    refine b0_eq (tgt := 15) hx hb d_L_unsure_8 (by decide) (fun c9 => ?_) (fun c9 => ?_)
    · refine lv_lconst (v := 0) hx hb d_L_unsure_15 (by decide) ?_
      refine st_l hx hb hK hP hD hS 18 1 rfl rfl (va_up f 0 0) (by decide) (by decide) (updL_up _ _ _) d_L_unsure_16 (fun H locs hP hD hS => ?_)
      refine lv_goto (tgt := 24) hx hb d_L_unsure_17 (by decide) ?_
      refine lv_iconst (v := nI 0) hx hb d_L_unsure_24 (by decide) ?_
      refine W.widen (k := 1) (n := 6) (Nat.le_of_ble_eq_true rfl) (Nat.le_of_ble_eq_true rfl) ?_
      exact W.iret hx hb hr (fun t9 ht9 hW9 => ⟨⟨_, (z9, va_up f 0 0), rfl, Or.inr ⟨i, hi, rfl, b9, z9, hz9, rfl, by rw [c9]; rfl⟩, by rw [ht9]; exact hP, va_K.moved hW9.alike hK, hD⟩, hS.F ht9⟩) hS.2.2 d_L_unsure_25
    · refine lv_lconst (v := 1) hx hb d_L_unsure_11 (by decide) ?_
      refine lv_goto (tgt := 16) hx hb d_L_unsure_12 (by decide) ?_
      refine st_l hx hb hK hP hD hS 18 1 rfl rfl (va_up f 0 1) (by decide) (by decide) (updL_up _ _ _) d_L_unsure_16 (fun H locs hP hD hS => ?_)
      refine lv_goto (tgt := 24) hx hb d_L_unsure_17 (by decide) ?_
      refine lv_iconst (v := nI 0) hx hb d_L_unsure_24 (by decide) ?_
      refine W.widen (k := 1) (n := 6) (Nat.le_of_ble_eq_true rfl) (Nat.le_of_ble_eq_true rfl) ?_
      exact W.iret hx hb hr (fun t9 ht9 hW9 => ⟨⟨_, (z9, va_up f 0 1), rfl, Or.inr ⟨i, hi, rfl, b9, z9, hz9, rfl, by rw [c9]; rfl⟩, by rw [ht9]; exact hP, va_K.moved hW9.alike hK, hD⟩, hS.F ht9⟩) hS.2.2 d_L_unsure_25
/-! constructors: the world grows -/
abbrev T3 (cI cJ cZ : ClassId) : List (ClassId × FieldType) := [(cI, .int), (cJ, .long), (cZ, .boolean)]
section CTOR
variable {p : Program} {l : Launch} {e : Env} {R : Room} {s : State} {m : MethodId} {args : Array Value} {below : List Frame} {meth : Method} {c : Code} {H : Heap} {locs : List Loc} {cells slots : Nat} {Q : State → Prop} {cc : ByteArray} {pc : Nat} {ls : Array Slot} {rest : List Value}
variable {D : va_G} {cl : List vw_C} {tys : List (ClassId × FieldType)} {ws : va_W} {A : Nat → Prop} {H0 : Heap}
theorem nw_a (hx : p.tables.exec = Jvm.exec) (hb : c.code = cc) {atype : ArrayType} (harr : (Cond.arrayClass (newarray.typeOf atype)).before args s = true) {ty : FieldType} (hty : newarray.typeOf atype = ty) (hK : va_K D cl tys s) (t0 : Nat) {cT : ClassId} (ht : tys[t0]? = some (cT, ty)) (hra : ∀ (U : State) (cA : ClassId), va_RA U cA ty → U.vm.findClass ("[" ++ ty.toString) = some cA)
    (hP : va_P D cl ws H) (hD : va_D A ws) (hS : va_S A H0 H locs) (hA : ∀ q, H0.size ≤ q → A q) {n : Int32} {N' : Nat} {a0 : vp_A} (ha : ∀ cA : ClassId, vp_cell cA a0 = arrV cA N' (fun _ => defaultValue ty)) (hn : ¬ n < 0) (hN : n.toNatClampNeg = N') (hbytes : N' * componentBytes ty ≤ 536870912) (hcells : cells + 1 ≤ R.cells) (hslots : slots + N' ≤ R.slots) (hdg : decode cc pc = .ok (.newarray atype, 2))
    (kk : ∀ (q : Nat) (H1 : Heap), va_P D cl (ws ++ [(q, .inl (cT, a0))]) H1 → va_D A (ws ++ [(q, .inl (cT, a0))]) → va_S A H0 H1 locs → W p l e R s m args below meth c H1 locs (cells + 1) (slots + N') Q (F0 m (pc + 2) ls (.ref q :: rest))) : W p l e R s m args below meth c H locs cells slots Q (F0 m pc ls (.int n :: rest)) := by
  refine va_newa hx hb harr hty hK hP hD hS hA ha hn hN hbytes hcells hslots hdg (fun q cA H1 hK1 hP1 hD1 hS1 => ?_)
  have h1 := hra s cA (hK1.2 tys.length (cA, ty) (by simp)).2
  have h2 := hra s cT (hK.2 t0 _ ht).2
  have h3 : cA = cT := Option.some.inj (h1.symm.trans h2)
  subst h3
  exact kk q H1 hP1 hD1 hS1
theorem pi_Q {w : va_W} (As : List Value) (hN : NW s) (hK : va_K D cl tys s) (hP : va_P D cl w H) (hD : va_D A w) : PreS s H (qPc D cl tys w H.size As) As :=
  ⟨fb_Q, fun U hU hW => ⟨rfl, by rw [hU], by rw [hU]; exact hP, va_K.moved hW.alike hK, hD.weaken (fun _ _ _ _ => trivial), NW.warm hW hN⟩⟩
end CTOR
abbrev wP0 (cI cJ cZ : ClassId) (h0 : Nat) (z : Nat × Nat × Nat × Nat × Nat × Nat × Nat) : va_W := [(h0, .inr (0, [.int 0, .int 0, .ref (z.1), .ref (z.2.1), .ref (z.2.2.1), .ref (z.2.2.2.1), .ref (z.2.2.2.2.1), .long 0, .long 0, .long 0, .ref (z.2.2.2.2.2.1), .ref (z.2.2.2.2.2.2)])), (z.1, .inl (cJ, 64, .inr (.inl (fun _ => (0 : Int64))))), (z.2.1, .inl (cJ, 16, .inr (.inl (fun _ => (0 : Int64))))), (z.2.2.1, .inl (cI, 16, .inl (fun _ => (0 : Int32)))), (z.2.2.2.1, .inl (cI, 64, .inl (fun _ => (0 : Int32)))), (z.2.2.2.2.1, .inl (cI, 64, .inl (fun _ => (0 : Int32)))), (z.2.2.2.2.2.1, .inl (cJ, 64, .inr (.inl (fun _ => (0 : Int64))))), (z.2.2.2.2.2.2, .inl (cJ, 64, .inr (.inl (fun _ => (0 : Int64)))))]
set_option maxHeartbeats 4000000 in
set_option maxRecDepth 100000 in
theorem c_P_init (l : Launch) (dC : Nat → ClassId) (dI : Nat → Nat → Nat) (cI cJ cZ : ClassId) (h0 sz : Nat) : Met l y_P_init w_P_init ({ frames := 1, cells := 7, slots := 352, locals := 24 }) (qPc (dC, dI) vwCl (T3 cI cJ cZ) [(h0, .inr (0, [.int 0, .int 0, .null, .null, .null, .null, .null, .long 0, .long 0, .long 0, .null, .null]))] sz [Value.ref h0]) (va_Qv (fun _ : Nat × Nat × Nat × Nat × Nat × Nat × Nat => True) (qB (dC, dI) vwCl (T3 cI cJ cZ) [(h0, .inr (0, [.int 0, .int 0, .null, .null, .null, .null, .null, .long 0, .long 0, .long 0, .null, .null]))] sz (wP0 cI cJ cZ h0)) (va_A [(h0, .inr (0, [.int 0, .int 0, .null, .null, .null, .null, .null, .long 0, .long 0, .long 0, .null, .null]))] sz)) 7 352 (va_A [(h0, .inr (0, [.int 0, .int 0, .null, .null, .null, .null, .null, .long 0, .long 0, .long 0, .null, .null]))] sz) := by
  refine Met.ofW (cc := b_P_init) (maxL := 1) (ret := none) (by decide) rfl ?_
  intro p e s m args below meth c s₁ B hml hv
  obtain ⟨rfl, hsz, hP, hK, hD0, hN⟩ := hv
  have hx := B.exec
  have hb := B.bytes
  have hr := B.returns
  have hts := atoms_spec (ws := w_P_init) B.pre
  have hown : s.vm.findClass "SeatProofs$Plant" = some m.cls := findClass_of_methodNamed B.named
  have hlocks := B.notSynchronized
  have hin : meth.name = "<init>" := (name_of_methodNamed B.named B.method).1
  subst hsz
  have hD := hD0.self (sz := s.heap.size)
  obtain ⟨A, hAe⟩ : ∃ A, A = va_A [(h0, .inr (0, [.int 0, .int 0, .null, .null, .null, .null, .null, .long 0, .long 0, .long 0, .null, .null]))] s.heap.size := ⟨_, rfl⟩
  rw [← hAe] at hD
  have hA : ∀ q : Nat, s.heap.size ≤ q → A q := fun q h => by rw [hAe]; exact Or.inr h
  have hS : va_S A s.heap s.heap [] := va_S.rf
  have hl := lv_entry ([Value.ref h0]) (n := 1) (Nat.le_of_ble_eq_true rfl)
  rw [lg_entry_eq]
  generalize (lg_sl ([Value.ref h0]) ++ List.replicate (1 - (lg_sl ([Value.ref h0])).length) Slot.unset).toArray = ls at hl ⊢
  have hl : lv_has ls 1 [(0, .ref h0)] := hl
  refine lv_aload_n hx hb d_P_init_0 rfl (lv_at hl 0 rfl) ?_
  refine W.objInit hx hb hown (hts _ (List.mem_cons_of_mem _ iw_25)) (hts _ (List.mem_cons_of_mem _ iw_18)) (hts _ (List.mem_cons_of_mem _ iw_19)) rfl (by rw [hml]; exact hl.1) rfl d_P_init_1 (Nat.le_of_ble_eq_true rfl) (Nat.le_of_ble_eq_true rfl) ?_
  refine W.eq (g2 := F0 m 4 ls []) rfl ?_
  refine lv_aload_n hx hb d_P_init_4 rfl (lv_at hl 0 rfl) ?_
  refine lv_bipush (v := nI 64) hx hb d_P_init_5 (by decide) ?_
  refine nw_a (atype := .long) (ty := .long) (a0 := (64, .inr (.inl (fun _ => (0 : Int64))))) hx hb (hts _ (List.mem_cons_of_mem _ iw_75)) rfl hK 1 rfl (fun _ _ h => h) hP hD hS hA (fun _ => rfl) (by decide) (by decide) (by decide) (Nat.le_of_ble_eq_true rfl) (Nat.le_of_ble_eq_true rfl) d_P_init_7 (fun a7 H hP hD hS => ?_)
  have hP : va_P (dC, dI) vwCl [(h0, .inr (0, [.int 0, .int 0, .null, .null, .null, .null, .null, .long 0, .long 0, .long 0, .null, .null])), (a7, .inl (cJ, 64, .inr (.inl (fun _ => (0 : Int64)))))] H := hP
  have hD : va_D A [(h0, .inr (0, [.int 0, .int 0, .null, .null, .null, .null, .null, .long 0, .long 0, .long 0, .null, .null])), (a7, .inl (cJ, 64, .inr (.inl (fun _ => (0 : Int64)))))] := hD
  refine va_putF (D := (dC, dI)) (ci := 0) (v := .ref a7) (ty := .array .long) (C := "SeatProofs$Plant") (T := F_P) (N := 12) hx hb hts (iu_P _) t_P t_P_ok n_P hown hK hP hD hS 0 rfl rfl 2 (by decide) (hts _ (List.mem_cons_of_mem _ iw_32)) (fun _ h9 => h9) rfl hin rfl (by decide +kernel) rfl rfl (Nat.le_of_ble_eq_true rfl) d_P_init_9 (fun H locs hP hD hS => ?_)
  have hP : va_P (dC, dI) vwCl [(h0, .inr (0, [.int 0, .int 0, .ref a7, .null, .null, .null, .null, .long 0, .long 0, .long 0, .null, .null])), (a7, .inl (cJ, 64, .inr (.inl (fun _ => (0 : Int64)))))] H := hP
  have hD : va_D A [(h0, .inr (0, [.int 0, .int 0, .ref a7, .null, .null, .null, .null, .long 0, .long 0, .long 0, .null, .null])), (a7, .inl (cJ, 64, .inr (.inl (fun _ => (0 : Int64)))))] := hD
  refine lv_aload_n hx hb d_P_init_12 rfl (lv_at hl 0 rfl) ?_
  refine lv_bipush (v := nI 16) hx hb d_P_init_13 (by decide) ?_
  refine nw_a (atype := .long) (ty := .long) (a0 := (16, .inr (.inl (fun _ => (0 : Int64))))) hx hb (hts _ (List.mem_cons_of_mem _ iw_75)) rfl hK 1 rfl (fun _ _ h => h) hP hD hS hA (fun _ => rfl) (by decide) (by decide) (by decide) (Nat.le_of_ble_eq_true rfl) (Nat.le_of_ble_eq_true rfl) d_P_init_15 (fun a15 H hP hD hS => ?_)
  have hP : va_P (dC, dI) vwCl [(h0, .inr (0, [.int 0, .int 0, .ref a7, .null, .null, .null, .null, .long 0, .long 0, .long 0, .null, .null])), (a7, .inl (cJ, 64, .inr (.inl (fun _ => (0 : Int64))))), (a15, .inl (cJ, 16, .inr (.inl (fun _ => (0 : Int64)))))] H := hP
  have hD : va_D A [(h0, .inr (0, [.int 0, .int 0, .ref a7, .null, .null, .null, .null, .long 0, .long 0, .long 0, .null, .null])), (a7, .inl (cJ, 64, .inr (.inl (fun _ => (0 : Int64))))), (a15, .inl (cJ, 16, .inr (.inl (fun _ => (0 : Int64)))))] := hD
  refine va_putF (D := (dC, dI)) (ci := 0) (v := .ref a15) (ty := .array .long) (C := "SeatProofs$Plant") (T := F_P) (N := 12) hx hb hts (iu_P _) t_P t_P_ok n_P hown hK hP hD hS 0 rfl rfl 3 (by decide) (hts _ (List.mem_cons_of_mem _ iw_33)) (fun _ h9 => h9) rfl hin rfl (by decide +kernel) rfl rfl (Nat.le_of_ble_eq_true rfl) d_P_init_17 (fun H locs hP hD hS => ?_)
  have hP : va_P (dC, dI) vwCl [(h0, .inr (0, [.int 0, .int 0, .ref a7, .ref a15, .null, .null, .null, .long 0, .long 0, .long 0, .null, .null])), (a7, .inl (cJ, 64, .inr (.inl (fun _ => (0 : Int64))))), (a15, .inl (cJ, 16, .inr (.inl (fun _ => (0 : Int64)))))] H := hP
  have hD : va_D A [(h0, .inr (0, [.int 0, .int 0, .ref a7, .ref a15, .null, .null, .null, .long 0, .long 0, .long 0, .null, .null])), (a7, .inl (cJ, 64, .inr (.inl (fun _ => (0 : Int64))))), (a15, .inl (cJ, 16, .inr (.inl (fun _ => (0 : Int64)))))] := hD
  refine lv_aload_n hx hb d_P_init_20 rfl (lv_at hl 0 rfl) ?_
  refine lv_bipush (v := nI 16) hx hb d_P_init_21 (by decide) ?_
  refine nw_a (atype := .int) (ty := .int) (a0 := (16, .inl (fun _ => (0 : Int32)))) hx hb (hts _ (List.mem_cons_of_mem _ iw_76)) rfl hK 0 rfl (fun _ _ h => h) hP hD hS hA (fun _ => rfl) (by decide) (by decide) (by decide) (Nat.le_of_ble_eq_true rfl) (Nat.le_of_ble_eq_true rfl) d_P_init_23 (fun a23 H hP hD hS => ?_)
  have hP : va_P (dC, dI) vwCl [(h0, .inr (0, [.int 0, .int 0, .ref a7, .ref a15, .null, .null, .null, .long 0, .long 0, .long 0, .null, .null])), (a7, .inl (cJ, 64, .inr (.inl (fun _ => (0 : Int64))))), (a15, .inl (cJ, 16, .inr (.inl (fun _ => (0 : Int64))))), (a23, .inl (cI, 16, .inl (fun _ => (0 : Int32))))] H := hP
  have hD : va_D A [(h0, .inr (0, [.int 0, .int 0, .ref a7, .ref a15, .null, .null, .null, .long 0, .long 0, .long 0, .null, .null])), (a7, .inl (cJ, 64, .inr (.inl (fun _ => (0 : Int64))))), (a15, .inl (cJ, 16, .inr (.inl (fun _ => (0 : Int64))))), (a23, .inl (cI, 16, .inl (fun _ => (0 : Int32))))] := hD
  refine va_putF (D := (dC, dI)) (ci := 0) (v := .ref a23) (ty := .array .int) (C := "SeatProofs$Plant") (T := F_P) (N := 12) hx hb hts (iu_P _) t_P t_P_ok n_P hown hK hP hD hS 0 rfl rfl 4 (by decide) (hts _ (List.mem_cons_of_mem _ iw_35)) (fun _ h9 => h9) rfl hin rfl (by decide +kernel) rfl rfl (Nat.le_of_ble_eq_true rfl) d_P_init_25 (fun H locs hP hD hS => ?_)
  have hP : va_P (dC, dI) vwCl [(h0, .inr (0, [.int 0, .int 0, .ref a7, .ref a15, .ref a23, .null, .null, .long 0, .long 0, .long 0, .null, .null])), (a7, .inl (cJ, 64, .inr (.inl (fun _ => (0 : Int64))))), (a15, .inl (cJ, 16, .inr (.inl (fun _ => (0 : Int64))))), (a23, .inl (cI, 16, .inl (fun _ => (0 : Int32))))] H := hP
  have hD : va_D A [(h0, .inr (0, [.int 0, .int 0, .ref a7, .ref a15, .ref a23, .null, .null, .long 0, .long 0, .long 0, .null, .null])), (a7, .inl (cJ, 64, .inr (.inl (fun _ => (0 : Int64))))), (a15, .inl (cJ, 16, .inr (.inl (fun _ => (0 : Int64))))), (a23, .inl (cI, 16, .inl (fun _ => (0 : Int32))))] := hD
  refine lv_aload_n hx hb d_P_init_28 rfl (lv_at hl 0 rfl) ?_
  refine lv_bipush (v := nI 64) hx hb d_P_init_29 (by decide) ?_
  refine nw_a (atype := .int) (ty := .int) (a0 := (64, .inl (fun _ => (0 : Int32)))) hx hb (hts _ (List.mem_cons_of_mem _ iw_76)) rfl hK 0 rfl (fun _ _ h => h) hP hD hS hA (fun _ => rfl) (by decide) (by decide) (by decide) (Nat.le_of_ble_eq_true rfl) (Nat.le_of_ble_eq_true rfl) d_P_init_31 (fun a31 H hP hD hS => ?_)
  have hP : va_P (dC, dI) vwCl [(h0, .inr (0, [.int 0, .int 0, .ref a7, .ref a15, .ref a23, .null, .null, .long 0, .long 0, .long 0, .null, .null])), (a7, .inl (cJ, 64, .inr (.inl (fun _ => (0 : Int64))))), (a15, .inl (cJ, 16, .inr (.inl (fun _ => (0 : Int64))))), (a23, .inl (cI, 16, .inl (fun _ => (0 : Int32)))), (a31, .inl (cI, 64, .inl (fun _ => (0 : Int32))))] H := hP
  have hD : va_D A [(h0, .inr (0, [.int 0, .int 0, .ref a7, .ref a15, .ref a23, .null, .null, .long 0, .long 0, .long 0, .null, .null])), (a7, .inl (cJ, 64, .inr (.inl (fun _ => (0 : Int64))))), (a15, .inl (cJ, 16, .inr (.inl (fun _ => (0 : Int64))))), (a23, .inl (cI, 16, .inl (fun _ => (0 : Int32)))), (a31, .inl (cI, 64, .inl (fun _ => (0 : Int32))))] := hD
  refine va_putF (D := (dC, dI)) (ci := 0) (v := .ref a31) (ty := .array .int) (C := "SeatProofs$Plant") (T := F_P) (N := 12) hx hb hts (iu_P _) t_P t_P_ok n_P hown hK hP hD hS 0 rfl rfl 5 (by decide) (hts _ (List.mem_cons_of_mem _ iw_36)) (fun _ h9 => h9) rfl hin rfl (by decide +kernel) rfl rfl (Nat.le_of_ble_eq_true rfl) d_P_init_33 (fun H locs hP hD hS => ?_)
  have hP : va_P (dC, dI) vwCl [(h0, .inr (0, [.int 0, .int 0, .ref a7, .ref a15, .ref a23, .ref a31, .null, .long 0, .long 0, .long 0, .null, .null])), (a7, .inl (cJ, 64, .inr (.inl (fun _ => (0 : Int64))))), (a15, .inl (cJ, 16, .inr (.inl (fun _ => (0 : Int64))))), (a23, .inl (cI, 16, .inl (fun _ => (0 : Int32)))), (a31, .inl (cI, 64, .inl (fun _ => (0 : Int32))))] H := hP
  have hD : va_D A [(h0, .inr (0, [.int 0, .int 0, .ref a7, .ref a15, .ref a23, .ref a31, .null, .long 0, .long 0, .long 0, .null, .null])), (a7, .inl (cJ, 64, .inr (.inl (fun _ => (0 : Int64))))), (a15, .inl (cJ, 16, .inr (.inl (fun _ => (0 : Int64))))), (a23, .inl (cI, 16, .inl (fun _ => (0 : Int32)))), (a31, .inl (cI, 64, .inl (fun _ => (0 : Int32))))] := hD
  refine lv_aload_n hx hb d_P_init_36 rfl (lv_at hl 0 rfl) ?_
  refine lv_bipush (v := nI 64) hx hb d_P_init_37 (by decide) ?_
  refine nw_a (atype := .int) (ty := .int) (a0 := (64, .inl (fun _ => (0 : Int32)))) hx hb (hts _ (List.mem_cons_of_mem _ iw_76)) rfl hK 0 rfl (fun _ _ h => h) hP hD hS hA (fun _ => rfl) (by decide) (by decide) (by decide) (Nat.le_of_ble_eq_true rfl) (Nat.le_of_ble_eq_true rfl) d_P_init_39 (fun a39 H hP hD hS => ?_)
  have hP : va_P (dC, dI) vwCl [(h0, .inr (0, [.int 0, .int 0, .ref a7, .ref a15, .ref a23, .ref a31, .null, .long 0, .long 0, .long 0, .null, .null])), (a7, .inl (cJ, 64, .inr (.inl (fun _ => (0 : Int64))))), (a15, .inl (cJ, 16, .inr (.inl (fun _ => (0 : Int64))))), (a23, .inl (cI, 16, .inl (fun _ => (0 : Int32)))), (a31, .inl (cI, 64, .inl (fun _ => (0 : Int32)))), (a39, .inl (cI, 64, .inl (fun _ => (0 : Int32))))] H := hP
  have hD : va_D A [(h0, .inr (0, [.int 0, .int 0, .ref a7, .ref a15, .ref a23, .ref a31, .null, .long 0, .long 0, .long 0, .null, .null])), (a7, .inl (cJ, 64, .inr (.inl (fun _ => (0 : Int64))))), (a15, .inl (cJ, 16, .inr (.inl (fun _ => (0 : Int64))))), (a23, .inl (cI, 16, .inl (fun _ => (0 : Int32)))), (a31, .inl (cI, 64, .inl (fun _ => (0 : Int32)))), (a39, .inl (cI, 64, .inl (fun _ => (0 : Int32))))] := hD
  refine va_putF (D := (dC, dI)) (ci := 0) (v := .ref a39) (ty := .array .int) (C := "SeatProofs$Plant") (T := F_P) (N := 12) hx hb hts (iu_P _) t_P t_P_ok n_P hown hK hP hD hS 0 rfl rfl 6 (by decide) (hts _ (List.mem_cons_of_mem _ iw_39)) (fun _ h9 => h9) rfl hin rfl (by decide +kernel) rfl rfl (Nat.le_of_ble_eq_true rfl) d_P_init_41 (fun H locs hP hD hS => ?_)
  have hP : va_P (dC, dI) vwCl [(h0, .inr (0, [.int 0, .int 0, .ref a7, .ref a15, .ref a23, .ref a31, .ref a39, .long 0, .long 0, .long 0, .null, .null])), (a7, .inl (cJ, 64, .inr (.inl (fun _ => (0 : Int64))))), (a15, .inl (cJ, 16, .inr (.inl (fun _ => (0 : Int64))))), (a23, .inl (cI, 16, .inl (fun _ => (0 : Int32)))), (a31, .inl (cI, 64, .inl (fun _ => (0 : Int32)))), (a39, .inl (cI, 64, .inl (fun _ => (0 : Int32))))] H := hP
  have hD : va_D A [(h0, .inr (0, [.int 0, .int 0, .ref a7, .ref a15, .ref a23, .ref a31, .ref a39, .long 0, .long 0, .long 0, .null, .null])), (a7, .inl (cJ, 64, .inr (.inl (fun _ => (0 : Int64))))), (a15, .inl (cJ, 16, .inr (.inl (fun _ => (0 : Int64))))), (a23, .inl (cI, 16, .inl (fun _ => (0 : Int32)))), (a31, .inl (cI, 64, .inl (fun _ => (0 : Int32)))), (a39, .inl (cI, 64, .inl (fun _ => (0 : Int32))))] := hD
  refine lv_aload_n hx hb d_P_init_44 rfl (lv_at hl 0 rfl) ?_
  refine lv_bipush (v := nI 64) hx hb d_P_init_45 (by decide) ?_
  refine nw_a (atype := .long) (ty := .long) (a0 := (64, .inr (.inl (fun _ => (0 : Int64))))) hx hb (hts _ (List.mem_cons_of_mem _ iw_75)) rfl hK 1 rfl (fun _ _ h => h) hP hD hS hA (fun _ => rfl) (by decide) (by decide) (by decide) (Nat.le_of_ble_eq_true rfl) (Nat.le_of_ble_eq_true rfl) d_P_init_47 (fun a47 H hP hD hS => ?_)
  have hP : va_P (dC, dI) vwCl [(h0, .inr (0, [.int 0, .int 0, .ref a7, .ref a15, .ref a23, .ref a31, .ref a39, .long 0, .long 0, .long 0, .null, .null])), (a7, .inl (cJ, 64, .inr (.inl (fun _ => (0 : Int64))))), (a15, .inl (cJ, 16, .inr (.inl (fun _ => (0 : Int64))))), (a23, .inl (cI, 16, .inl (fun _ => (0 : Int32)))), (a31, .inl (cI, 64, .inl (fun _ => (0 : Int32)))), (a39, .inl (cI, 64, .inl (fun _ => (0 : Int32)))), (a47, .inl (cJ, 64, .inr (.inl (fun _ => (0 : Int64)))))] H := hP
  have hD : va_D A [(h0, .inr (0, [.int 0, .int 0, .ref a7, .ref a15, .ref a23, .ref a31, .ref a39, .long 0, .long 0, .long 0, .null, .null])), (a7, .inl (cJ, 64, .inr (.inl (fun _ => (0 : Int64))))), (a15, .inl (cJ, 16, .inr (.inl (fun _ => (0 : Int64))))), (a23, .inl (cI, 16, .inl (fun _ => (0 : Int32)))), (a31, .inl (cI, 64, .inl (fun _ => (0 : Int32)))), (a39, .inl (cI, 64, .inl (fun _ => (0 : Int32)))), (a47, .inl (cJ, 64, .inr (.inl (fun _ => (0 : Int64)))))] := hD
  refine va_putF (D := (dC, dI)) (ci := 0) (v := .ref a47) (ty := .array .long) (C := "SeatProofs$Plant") (T := F_P) (N := 12) hx hb hts (iu_P _) t_P t_P_ok n_P hown hK hP hD hS 0 rfl rfl 10 (by decide) (hts _ (List.mem_cons_of_mem _ iw_46)) (fun _ h9 => h9) rfl hin rfl (by decide +kernel) rfl rfl (Nat.le_of_ble_eq_true rfl) d_P_init_49 (fun H locs hP hD hS => ?_)
  have hP : va_P (dC, dI) vwCl [(h0, .inr (0, [.int 0, .int 0, .ref a7, .ref a15, .ref a23, .ref a31, .ref a39, .long 0, .long 0, .long 0, .ref a47, .null])), (a7, .inl (cJ, 64, .inr (.inl (fun _ => (0 : Int64))))), (a15, .inl (cJ, 16, .inr (.inl (fun _ => (0 : Int64))))), (a23, .inl (cI, 16, .inl (fun _ => (0 : Int32)))), (a31, .inl (cI, 64, .inl (fun _ => (0 : Int32)))), (a39, .inl (cI, 64, .inl (fun _ => (0 : Int32)))), (a47, .inl (cJ, 64, .inr (.inl (fun _ => (0 : Int64)))))] H := hP
  have hD : va_D A [(h0, .inr (0, [.int 0, .int 0, .ref a7, .ref a15, .ref a23, .ref a31, .ref a39, .long 0, .long 0, .long 0, .ref a47, .null])), (a7, .inl (cJ, 64, .inr (.inl (fun _ => (0 : Int64))))), (a15, .inl (cJ, 16, .inr (.inl (fun _ => (0 : Int64))))), (a23, .inl (cI, 16, .inl (fun _ => (0 : Int32)))), (a31, .inl (cI, 64, .inl (fun _ => (0 : Int32)))), (a39, .inl (cI, 64, .inl (fun _ => (0 : Int32)))), (a47, .inl (cJ, 64, .inr (.inl (fun _ => (0 : Int64)))))] := hD
  refine lv_aload_n hx hb d_P_init_52 rfl (lv_at hl 0 rfl) ?_
  refine lv_bipush (v := nI 64) hx hb d_P_init_53 (by decide) ?_
  refine nw_a (atype := .long) (ty := .long) (a0 := (64, .inr (.inl (fun _ => (0 : Int64))))) hx hb (hts _ (List.mem_cons_of_mem _ iw_75)) rfl hK 1 rfl (fun _ _ h => h) hP hD hS hA (fun _ => rfl) (by decide) (by decide) (by decide) (Nat.le_of_ble_eq_true rfl) (Nat.le_of_ble_eq_true rfl) d_P_init_55 (fun a55 H hP hD hS => ?_)
  have hP : va_P (dC, dI) vwCl [(h0, .inr (0, [.int 0, .int 0, .ref a7, .ref a15, .ref a23, .ref a31, .ref a39, .long 0, .long 0, .long 0, .ref a47, .null])), (a7, .inl (cJ, 64, .inr (.inl (fun _ => (0 : Int64))))), (a15, .inl (cJ, 16, .inr (.inl (fun _ => (0 : Int64))))), (a23, .inl (cI, 16, .inl (fun _ => (0 : Int32)))), (a31, .inl (cI, 64, .inl (fun _ => (0 : Int32)))), (a39, .inl (cI, 64, .inl (fun _ => (0 : Int32)))), (a47, .inl (cJ, 64, .inr (.inl (fun _ => (0 : Int64))))), (a55, .inl (cJ, 64, .inr (.inl (fun _ => (0 : Int64)))))] H := hP
  have hD : va_D A [(h0, .inr (0, [.int 0, .int 0, .ref a7, .ref a15, .ref a23, .ref a31, .ref a39, .long 0, .long 0, .long 0, .ref a47, .null])), (a7, .inl (cJ, 64, .inr (.inl (fun _ => (0 : Int64))))), (a15, .inl (cJ, 16, .inr (.inl (fun _ => (0 : Int64))))), (a23, .inl (cI, 16, .inl (fun _ => (0 : Int32)))), (a31, .inl (cI, 64, .inl (fun _ => (0 : Int32)))), (a39, .inl (cI, 64, .inl (fun _ => (0 : Int32)))), (a47, .inl (cJ, 64, .inr (.inl (fun _ => (0 : Int64))))), (a55, .inl (cJ, 64, .inr (.inl (fun _ => (0 : Int64)))))] := hD
  refine va_putF (D := (dC, dI)) (ci := 0) (v := .ref a55) (ty := .array .long) (C := "SeatProofs$Plant") (T := F_P) (N := 12) hx hb hts (iu_P _) t_P t_P_ok n_P hown hK hP hD hS 0 rfl rfl 11 (by decide) (hts _ (List.mem_cons_of_mem _ iw_48)) (fun _ h9 => h9) rfl hin rfl (by decide +kernel) rfl rfl (Nat.le_of_ble_eq_true rfl) d_P_init_57 (fun H locs hP hD hS => ?_)
  have hP : va_P (dC, dI) vwCl [(h0, .inr (0, [.int 0, .int 0, .ref a7, .ref a15, .ref a23, .ref a31, .ref a39, .long 0, .long 0, .long 0, .ref a47, .ref a55])), (a7, .inl (cJ, 64, .inr (.inl (fun _ => (0 : Int64))))), (a15, .inl (cJ, 16, .inr (.inl (fun _ => (0 : Int64))))), (a23, .inl (cI, 16, .inl (fun _ => (0 : Int32)))), (a31, .inl (cI, 64, .inl (fun _ => (0 : Int32)))), (a39, .inl (cI, 64, .inl (fun _ => (0 : Int32)))), (a47, .inl (cJ, 64, .inr (.inl (fun _ => (0 : Int64))))), (a55, .inl (cJ, 64, .inr (.inl (fun _ => (0 : Int64)))))] H := hP
  have hD : va_D A [(h0, .inr (0, [.int 0, .int 0, .ref a7, .ref a15, .ref a23, .ref a31, .ref a39, .long 0, .long 0, .long 0, .ref a47, .ref a55])), (a7, .inl (cJ, 64, .inr (.inl (fun _ => (0 : Int64))))), (a15, .inl (cJ, 16, .inr (.inl (fun _ => (0 : Int64))))), (a23, .inl (cI, 16, .inl (fun _ => (0 : Int32)))), (a31, .inl (cI, 64, .inl (fun _ => (0 : Int32)))), (a39, .inl (cI, 64, .inl (fun _ => (0 : Int32)))), (a47, .inl (cJ, 64, .inr (.inl (fun _ => (0 : Int64))))), (a55, .inl (cJ, 64, .inr (.inl (fun _ => (0 : Int64)))))] := hD
  refine W.widen (k := 7) (n := 352) (Nat.le_of_ble_eq_true rfl) (Nat.le_of_ble_eq_true rfl) ?_
  exact W.vret hx hb hr (fun t9 ht9 hW9 => ⟨⟨(a7, a15, a23, a31, a39, a47, a55), rfl, trivial, by rw [ht9]; exact hP, va_K.moved hW9.alike hK, by rw [← hAe]; exact hD⟩, by rw [← hAe]; exact hS.F ht9⟩) (by rw [← hAe]; exact hS.2.2) d_P_init_60
abbrev wF0 (cI cJ cZ : ClassId) (h0 pa : Nat) (z : Nat × Nat) : va_W := [(h0, .inr (1, [.ref (pa), .long 0, .ref (z.1), .ref (z.2)])), (z.1, .inl (cJ, 64, .inr (.inl (fun _ => (0 : Int64))))), (z.2, .inl (cJ, 16, .inr (.inl (fun _ => (0 : Int64)))))]
set_option maxHeartbeats 4000000 in
set_option maxRecDepth 100000 in
theorem c_F_init (l : Launch) (dC : Nat → ClassId) (dI : Nat → Nat → Nat) (cI cJ cZ : ClassId) (h0 pa sz : Nat) : Met l y_F_init w_F_init ({ frames := 1, cells := 2, slots := 80, locals := 24 }) (qPc (dC, dI) vwCl (T3 cI cJ cZ) [(h0, .inr (1, [.null, .long 0, .null, .null]))] sz [Value.ref h0, Value.ref pa]) (va_Qv (fun _ : Nat × Nat => True) (qB (dC, dI) vwCl (T3 cI cJ cZ) [(h0, .inr (1, [.null, .long 0, .null, .null]))] sz (wF0 cI cJ cZ h0 pa)) (va_A [(h0, .inr (1, [.null, .long 0, .null, .null]))] sz)) 2 80 (va_A [(h0, .inr (1, [.null, .long 0, .null, .null]))] sz) := by
  refine Met.ofW (cc := b_F_init) (maxL := 2) (ret := none) (by decide) rfl ?_
  intro p e s m args below meth c s₁ B hml hv
  obtain ⟨rfl, hsz, hP, hK, hD0, hN⟩ := hv
  have hx := B.exec
  have hb := B.bytes
  have hr := B.returns
  have hts := atoms_spec (ws := w_F_init) B.pre
  have hown : s.vm.findClass "SeatProofs$Flow" = some m.cls := findClass_of_methodNamed B.named
  have hlocks := B.notSynchronized
  have hin : meth.name = "<init>" := (name_of_methodNamed B.named B.method).1
  subst hsz
  have hD := hD0.self (sz := s.heap.size)
  obtain ⟨A, hAe⟩ : ∃ A, A = va_A [(h0, .inr (1, [.null, .long 0, .null, .null]))] s.heap.size := ⟨_, rfl⟩
  rw [← hAe] at hD
  have hA : ∀ q : Nat, s.heap.size ≤ q → A q := fun q h => by rw [hAe]; exact Or.inr h
  have hS : va_S A s.heap s.heap [] := va_S.rf
  have hl := lv_entry ([Value.ref h0, Value.ref pa]) (n := 2) (Nat.le_of_ble_eq_true rfl)
  rw [lg_entry_eq]
  generalize (lg_sl ([Value.ref h0, Value.ref pa]) ++ List.replicate (2 - (lg_sl ([Value.ref h0, Value.ref pa])).length) Slot.unset).toArray = ls at hl ⊢
  have hl : lv_has ls 2 [(0, .ref h0), (1, .ref pa)] := hl
  refine lv_aload_n hx hb d_F_init_0 rfl (lv_at hl 0 rfl) ?_
  refine W.objInit hx hb hown (hts _ (List.mem_cons_of_mem _ iw_82)) (hts _ (List.mem_cons_of_mem _ iw_18)) (hts _ (List.mem_cons_of_mem _ iw_19)) rfl (by rw [hml]; exact hl.1) rfl d_F_init_1 (Nat.le_of_ble_eq_true rfl) (Nat.le_of_ble_eq_true rfl) ?_
  refine W.eq (g2 := F0 m 4 ls []) rfl ?_
  refine lv_aload_n hx hb d_F_init_4 rfl (lv_at hl 0 rfl) ?_
  refine lv_bipush (v := nI 64) hx hb d_F_init_5 (by decide) ?_
  refine nw_a (atype := .long) (ty := .long) (a0 := (64, .inr (.inl (fun _ => (0 : Int64))))) hx hb (hts _ (List.mem_cons_of_mem _ iw_75)) rfl hK 1 rfl (fun _ _ h => h) hP hD hS hA (fun _ => rfl) (by decide) (by decide) (by decide) (Nat.le_of_ble_eq_true rfl) (Nat.le_of_ble_eq_true rfl) d_F_init_7 (fun a7 H hP hD hS => ?_)
  have hP : va_P (dC, dI) vwCl [(h0, .inr (1, [.null, .long 0, .null, .null])), (a7, .inl (cJ, 64, .inr (.inl (fun _ => (0 : Int64)))))] H := hP
  have hD : va_D A [(h0, .inr (1, [.null, .long 0, .null, .null])), (a7, .inl (cJ, 64, .inr (.inl (fun _ => (0 : Int64)))))] := hD
  refine va_putF (D := (dC, dI)) (ci := 1) (v := .ref a7) (ty := .array .long) (C := "SeatProofs$Flow") (T := F_F) (N := 4) hx hb hts (iu_F _) t_F t_F_ok n_F hown hK hP hD hS 0 rfl rfl 2 (by decide) (hts _ (List.mem_cons_of_mem _ iw_85)) (fun _ h9 => h9) rfl hin rfl (by decide +kernel) rfl rfl (Nat.le_of_ble_eq_true rfl) d_F_init_9 (fun H locs hP hD hS => ?_)
  have hP : va_P (dC, dI) vwCl [(h0, .inr (1, [.null, .long 0, .ref a7, .null])), (a7, .inl (cJ, 64, .inr (.inl (fun _ => (0 : Int64)))))] H := hP
  have hD : va_D A [(h0, .inr (1, [.null, .long 0, .ref a7, .null])), (a7, .inl (cJ, 64, .inr (.inl (fun _ => (0 : Int64)))))] := hD
  refine lv_aload_n hx hb d_F_init_12 rfl (lv_at hl 0 rfl) ?_
  refine lv_bipush (v := nI 16) hx hb d_F_init_13 (by decide) ?_
  refine nw_a (atype := .long) (ty := .long) (a0 := (16, .inr (.inl (fun _ => (0 : Int64))))) hx hb (hts _ (List.mem_cons_of_mem _ iw_75)) rfl hK 1 rfl (fun _ _ h => h) hP hD hS hA (fun _ => rfl) (by decide) (by decide) (by decide) (Nat.le_of_ble_eq_true rfl) (Nat.le_of_ble_eq_true rfl) d_F_init_15 (fun a15 H hP hD hS => ?_)
  have hP : va_P (dC, dI) vwCl [(h0, .inr (1, [.null, .long 0, .ref a7, .null])), (a7, .inl (cJ, 64, .inr (.inl (fun _ => (0 : Int64))))), (a15, .inl (cJ, 16, .inr (.inl (fun _ => (0 : Int64)))))] H := hP
  have hD : va_D A [(h0, .inr (1, [.null, .long 0, .ref a7, .null])), (a7, .inl (cJ, 64, .inr (.inl (fun _ => (0 : Int64))))), (a15, .inl (cJ, 16, .inr (.inl (fun _ => (0 : Int64)))))] := hD
  refine va_putF (D := (dC, dI)) (ci := 1) (v := .ref a15) (ty := .array .long) (C := "SeatProofs$Flow") (T := F_F) (N := 4) hx hb hts (iu_F _) t_F t_F_ok n_F hown hK hP hD hS 0 rfl rfl 3 (by decide) (hts _ (List.mem_cons_of_mem _ iw_86)) (fun _ h9 => h9) rfl hin rfl (by decide +kernel) rfl rfl (Nat.le_of_ble_eq_true rfl) d_F_init_17 (fun H locs hP hD hS => ?_)
  have hP : va_P (dC, dI) vwCl [(h0, .inr (1, [.null, .long 0, .ref a7, .ref a15])), (a7, .inl (cJ, 64, .inr (.inl (fun _ => (0 : Int64))))), (a15, .inl (cJ, 16, .inr (.inl (fun _ => (0 : Int64)))))] H := hP
  have hD : va_D A [(h0, .inr (1, [.null, .long 0, .ref a7, .ref a15])), (a7, .inl (cJ, 64, .inr (.inl (fun _ => (0 : Int64))))), (a15, .inl (cJ, 16, .inr (.inl (fun _ => (0 : Int64)))))] := hD
  refine lv_aload_n hx hb d_F_init_20 rfl (lv_at hl 0 rfl) ?_
  refine lv_aload_n hx hb d_F_init_21 rfl (lv_at hl 1 rfl) ?_
  refine va_putF (D := (dC, dI)) (ci := 1) (v := .ref pa) (ty := .object "SeatProofs$Plant") (C := "SeatProofs$Flow") (T := F_F) (N := 4) hx hb hts (iu_F _) t_F t_F_ok n_F hown hK hP hD hS 0 rfl rfl 0 (by decide) (hts _ (List.mem_cons_of_mem _ iw_83)) (fun _ h9 => h9) rfl hin rfl (by decide +kernel) rfl rfl (Nat.le_of_ble_eq_true rfl) d_F_init_22 (fun H locs hP hD hS => ?_)
  have hP : va_P (dC, dI) vwCl [(h0, .inr (1, [.ref pa, .long 0, .ref a7, .ref a15])), (a7, .inl (cJ, 64, .inr (.inl (fun _ => (0 : Int64))))), (a15, .inl (cJ, 16, .inr (.inl (fun _ => (0 : Int64)))))] H := hP
  have hD : va_D A [(h0, .inr (1, [.ref pa, .long 0, .ref a7, .ref a15])), (a7, .inl (cJ, 64, .inr (.inl (fun _ => (0 : Int64))))), (a15, .inl (cJ, 16, .inr (.inl (fun _ => (0 : Int64)))))] := hD
  refine W.widen (k := 2) (n := 80) (Nat.le_of_ble_eq_true rfl) (Nat.le_of_ble_eq_true rfl) ?_
  exact W.vret hx hb hr (fun t9 ht9 hW9 => ⟨⟨(a7, a15), rfl, trivial, by rw [ht9]; exact hP, va_K.moved hW9.alike hK, by rw [← hAe]; exact hD⟩, by rw [← hAe]; exact hS.F ht9⟩) (by rw [← hAe]; exact hS.2.2) d_F_init_25
abbrev wQ0 (cI cJ cZ : ClassId) (h0 : Nat) (z : Nat × Nat × Nat × Nat) : va_W := [(h0, .inr (2, [.int 0, .ref (z.1), .ref (z.2.1), .ref (z.2.2.1), .ref (z.2.2.2)])), (z.1, .inl (cI, 975, .inl (fun _ => (0 : Int32)))), (z.2.1, .inl (cI, 975, .inl (fun _ => (0 : Int32)))), (z.2.2.1, .inl (cJ, 975, .inr (.inl (fun _ => (0 : Int64))))), (z.2.2.2, .inl (cJ, 975, .inr (.inl (fun _ => (0 : Int64)))))]
set_option maxHeartbeats 4000000 in
set_option maxRecDepth 100000 in
theorem c_Q_init (l : Launch) (dC : Nat → ClassId) (dI : Nat → Nat → Nat) (cI cJ cZ : ClassId) (h0 sz : Nat) : Met l y_Q_init w_Q_init ({ frames := 1, cells := 4, slots := 3900, locals := 24 }) (qPc (dC, dI) vwCl (T3 cI cJ cZ) [(h0, .inr (2, [.int 0, .null, .null, .null, .null]))] sz [Value.ref h0]) (va_Qv (fun _ : Nat × Nat × Nat × Nat => True) (qB (dC, dI) vwCl (T3 cI cJ cZ) [(h0, .inr (2, [.int 0, .null, .null, .null, .null]))] sz (wQ0 cI cJ cZ h0)) (va_A [(h0, .inr (2, [.int 0, .null, .null, .null, .null]))] sz)) 4 3900 (va_A [(h0, .inr (2, [.int 0, .null, .null, .null, .null]))] sz) := by
  refine Met.ofW (cc := b_Q_init) (maxL := 1) (ret := none) (by decide) rfl ?_
  intro p e s m args below meth c s₁ B hml hv
  obtain ⟨rfl, hsz, hP, hK, hD0, hN⟩ := hv
  have hx := B.exec
  have hb := B.bytes
  have hr := B.returns
  have hts := atoms_spec (ws := w_Q_init) B.pre
  have hown : s.vm.findClass "SeatProofs$Proof" = some m.cls := findClass_of_methodNamed B.named
  have hlocks := B.notSynchronized
  have hin : meth.name = "<init>" := (name_of_methodNamed B.named B.method).1
  subst hsz
  have hD := hD0.self (sz := s.heap.size)
  obtain ⟨A, hAe⟩ : ∃ A, A = va_A [(h0, .inr (2, [.int 0, .null, .null, .null, .null]))] s.heap.size := ⟨_, rfl⟩
  rw [← hAe] at hD
  have hA : ∀ q : Nat, s.heap.size ≤ q → A q := fun q h => by rw [hAe]; exact Or.inr h
  have hS : va_S A s.heap s.heap [] := va_S.rf
  have hl := lv_entry ([Value.ref h0]) (n := 1) (Nat.le_of_ble_eq_true rfl)
  rw [lg_entry_eq]
  generalize (lg_sl ([Value.ref h0]) ++ List.replicate (1 - (lg_sl ([Value.ref h0])).length) Slot.unset).toArray = ls at hl ⊢
  have hl : lv_has ls 1 [(0, .ref h0)] := hl
  refine lv_aload_n hx hb d_Q_init_0 rfl (lv_at hl 0 rfl) ?_
  refine W.objInit hx hb hown (hts _ (List.mem_cons_of_mem _ iw_102)) (hts _ (List.mem_cons_of_mem _ iw_18)) (hts _ (List.mem_cons_of_mem _ iw_19)) rfl (by rw [hml]; exact hl.1) rfl d_Q_init_1 (Nat.le_of_ble_eq_true rfl) (Nat.le_of_ble_eq_true rfl) ?_
  refine W.eq (g2 := F0 m 4 ls []) rfl ?_
  refine lv_aload_n hx hb d_Q_init_4 rfl (lv_at hl 0 rfl) ?_
  refine lv_sipush (v := nI 975) hx hb d_Q_init_5 (by decide) ?_
  refine nw_a (atype := .int) (ty := .int) (a0 := (975, .inl (fun _ => (0 : Int32)))) hx hb (hts _ (List.mem_cons_of_mem _ iw_76)) rfl hK 0 rfl (fun _ _ h => h) hP hD hS hA (fun _ => rfl) (by decide) (by decide) (by decide) (Nat.le_of_ble_eq_true rfl) (Nat.le_of_ble_eq_true rfl) d_Q_init_8 (fun a8 H hP hD hS => ?_)
  have hP : va_P (dC, dI) vwCl [(h0, .inr (2, [.int 0, .null, .null, .null, .null])), (a8, .inl (cI, 975, .inl (fun _ => (0 : Int32))))] H := hP
  have hD : va_D A [(h0, .inr (2, [.int 0, .null, .null, .null, .null])), (a8, .inl (cI, 975, .inl (fun _ => (0 : Int32))))] := hD
  refine va_putF (D := (dC, dI)) (ci := 2) (v := .ref a8) (ty := .array .int) (C := "SeatProofs$Proof") (T := F_Q) (N := 5) hx hb hts (iu_Q _) t_Q t_Q_ok n_Q hown hK hP hD hS 0 rfl rfl 1 (by decide) (hts _ (List.mem_cons_of_mem _ iw_105)) (fun _ h9 => h9) rfl hin rfl (by decide +kernel) rfl rfl (Nat.le_of_ble_eq_true rfl) d_Q_init_10 (fun H locs hP hD hS => ?_)
  have hP : va_P (dC, dI) vwCl [(h0, .inr (2, [.int 0, .ref a8, .null, .null, .null])), (a8, .inl (cI, 975, .inl (fun _ => (0 : Int32))))] H := hP
  have hD : va_D A [(h0, .inr (2, [.int 0, .ref a8, .null, .null, .null])), (a8, .inl (cI, 975, .inl (fun _ => (0 : Int32))))] := hD
  refine lv_aload_n hx hb d_Q_init_13 rfl (lv_at hl 0 rfl) ?_
  refine lv_sipush (v := nI 975) hx hb d_Q_init_14 (by decide) ?_
  refine nw_a (atype := .int) (ty := .int) (a0 := (975, .inl (fun _ => (0 : Int32)))) hx hb (hts _ (List.mem_cons_of_mem _ iw_76)) rfl hK 0 rfl (fun _ _ h => h) hP hD hS hA (fun _ => rfl) (by decide) (by decide) (by decide) (Nat.le_of_ble_eq_true rfl) (Nat.le_of_ble_eq_true rfl) d_Q_init_17 (fun a17 H hP hD hS => ?_)
  have hP : va_P (dC, dI) vwCl [(h0, .inr (2, [.int 0, .ref a8, .null, .null, .null])), (a8, .inl (cI, 975, .inl (fun _ => (0 : Int32)))), (a17, .inl (cI, 975, .inl (fun _ => (0 : Int32))))] H := hP
  have hD : va_D A [(h0, .inr (2, [.int 0, .ref a8, .null, .null, .null])), (a8, .inl (cI, 975, .inl (fun _ => (0 : Int32)))), (a17, .inl (cI, 975, .inl (fun _ => (0 : Int32))))] := hD
  refine va_putF (D := (dC, dI)) (ci := 2) (v := .ref a17) (ty := .array .int) (C := "SeatProofs$Proof") (T := F_Q) (N := 5) hx hb hts (iu_Q _) t_Q t_Q_ok n_Q hown hK hP hD hS 0 rfl rfl 2 (by decide) (hts _ (List.mem_cons_of_mem _ iw_107)) (fun _ h9 => h9) rfl hin rfl (by decide +kernel) rfl rfl (Nat.le_of_ble_eq_true rfl) d_Q_init_19 (fun H locs hP hD hS => ?_)
  have hP : va_P (dC, dI) vwCl [(h0, .inr (2, [.int 0, .ref a8, .ref a17, .null, .null])), (a8, .inl (cI, 975, .inl (fun _ => (0 : Int32)))), (a17, .inl (cI, 975, .inl (fun _ => (0 : Int32))))] H := hP
  have hD : va_D A [(h0, .inr (2, [.int 0, .ref a8, .ref a17, .null, .null])), (a8, .inl (cI, 975, .inl (fun _ => (0 : Int32)))), (a17, .inl (cI, 975, .inl (fun _ => (0 : Int32))))] := hD
  refine lv_aload_n hx hb d_Q_init_22 rfl (lv_at hl 0 rfl) ?_
  refine lv_sipush (v := nI 975) hx hb d_Q_init_23 (by decide) ?_
  refine nw_a (atype := .long) (ty := .long) (a0 := (975, .inr (.inl (fun _ => (0 : Int64))))) hx hb (hts _ (List.mem_cons_of_mem _ iw_75)) rfl hK 1 rfl (fun _ _ h => h) hP hD hS hA (fun _ => rfl) (by decide) (by decide) (by decide) (Nat.le_of_ble_eq_true rfl) (Nat.le_of_ble_eq_true rfl) d_Q_init_26 (fun a26 H hP hD hS => ?_)
  have hP : va_P (dC, dI) vwCl [(h0, .inr (2, [.int 0, .ref a8, .ref a17, .null, .null])), (a8, .inl (cI, 975, .inl (fun _ => (0 : Int32)))), (a17, .inl (cI, 975, .inl (fun _ => (0 : Int32)))), (a26, .inl (cJ, 975, .inr (.inl (fun _ => (0 : Int64)))))] H := hP
  have hD : va_D A [(h0, .inr (2, [.int 0, .ref a8, .ref a17, .null, .null])), (a8, .inl (cI, 975, .inl (fun _ => (0 : Int32)))), (a17, .inl (cI, 975, .inl (fun _ => (0 : Int32)))), (a26, .inl (cJ, 975, .inr (.inl (fun _ => (0 : Int64)))))] := hD
  refine va_putF (D := (dC, dI)) (ci := 2) (v := .ref a26) (ty := .array .long) (C := "SeatProofs$Proof") (T := F_Q) (N := 5) hx hb hts (iu_Q _) t_Q t_Q_ok n_Q hown hK hP hD hS 0 rfl rfl 3 (by decide) (hts _ (List.mem_cons_of_mem _ iw_109)) (fun _ h9 => h9) rfl hin rfl (by decide +kernel) rfl rfl (Nat.le_of_ble_eq_true rfl) d_Q_init_28 (fun H locs hP hD hS => ?_)
  have hP : va_P (dC, dI) vwCl [(h0, .inr (2, [.int 0, .ref a8, .ref a17, .ref a26, .null])), (a8, .inl (cI, 975, .inl (fun _ => (0 : Int32)))), (a17, .inl (cI, 975, .inl (fun _ => (0 : Int32)))), (a26, .inl (cJ, 975, .inr (.inl (fun _ => (0 : Int64)))))] H := hP
  have hD : va_D A [(h0, .inr (2, [.int 0, .ref a8, .ref a17, .ref a26, .null])), (a8, .inl (cI, 975, .inl (fun _ => (0 : Int32)))), (a17, .inl (cI, 975, .inl (fun _ => (0 : Int32)))), (a26, .inl (cJ, 975, .inr (.inl (fun _ => (0 : Int64)))))] := hD
  refine lv_aload_n hx hb d_Q_init_31 rfl (lv_at hl 0 rfl) ?_
  refine lv_sipush (v := nI 975) hx hb d_Q_init_32 (by decide) ?_
  refine nw_a (atype := .long) (ty := .long) (a0 := (975, .inr (.inl (fun _ => (0 : Int64))))) hx hb (hts _ (List.mem_cons_of_mem _ iw_75)) rfl hK 1 rfl (fun _ _ h => h) hP hD hS hA (fun _ => rfl) (by decide) (by decide) (by decide) (Nat.le_of_ble_eq_true rfl) (Nat.le_of_ble_eq_true rfl) d_Q_init_35 (fun a35 H hP hD hS => ?_)
  have hP : va_P (dC, dI) vwCl [(h0, .inr (2, [.int 0, .ref a8, .ref a17, .ref a26, .null])), (a8, .inl (cI, 975, .inl (fun _ => (0 : Int32)))), (a17, .inl (cI, 975, .inl (fun _ => (0 : Int32)))), (a26, .inl (cJ, 975, .inr (.inl (fun _ => (0 : Int64))))), (a35, .inl (cJ, 975, .inr (.inl (fun _ => (0 : Int64)))))] H := hP
  have hD : va_D A [(h0, .inr (2, [.int 0, .ref a8, .ref a17, .ref a26, .null])), (a8, .inl (cI, 975, .inl (fun _ => (0 : Int32)))), (a17, .inl (cI, 975, .inl (fun _ => (0 : Int32)))), (a26, .inl (cJ, 975, .inr (.inl (fun _ => (0 : Int64))))), (a35, .inl (cJ, 975, .inr (.inl (fun _ => (0 : Int64)))))] := hD
  refine va_putF (D := (dC, dI)) (ci := 2) (v := .ref a35) (ty := .array .long) (C := "SeatProofs$Proof") (T := F_Q) (N := 5) hx hb hts (iu_Q _) t_Q t_Q_ok n_Q hown hK hP hD hS 0 rfl rfl 4 (by decide) (hts _ (List.mem_cons_of_mem _ iw_111)) (fun _ h9 => h9) rfl hin rfl (by decide +kernel) rfl rfl (Nat.le_of_ble_eq_true rfl) d_Q_init_37 (fun H locs hP hD hS => ?_)
  have hP : va_P (dC, dI) vwCl [(h0, .inr (2, [.int 0, .ref a8, .ref a17, .ref a26, .ref a35])), (a8, .inl (cI, 975, .inl (fun _ => (0 : Int32)))), (a17, .inl (cI, 975, .inl (fun _ => (0 : Int32)))), (a26, .inl (cJ, 975, .inr (.inl (fun _ => (0 : Int64))))), (a35, .inl (cJ, 975, .inr (.inl (fun _ => (0 : Int64)))))] H := hP
  have hD : va_D A [(h0, .inr (2, [.int 0, .ref a8, .ref a17, .ref a26, .ref a35])), (a8, .inl (cI, 975, .inl (fun _ => (0 : Int32)))), (a17, .inl (cI, 975, .inl (fun _ => (0 : Int32)))), (a26, .inl (cJ, 975, .inr (.inl (fun _ => (0 : Int64))))), (a35, .inl (cJ, 975, .inr (.inl (fun _ => (0 : Int64)))))] := hD
  refine W.widen (k := 4) (n := 3900) (Nat.le_of_ble_eq_true rfl) (Nat.le_of_ble_eq_true rfl) ?_
  exact W.vret hx hb hr (fun t9 ht9 hW9 => ⟨⟨(a8, a17, a26, a35), rfl, trivial, by rw [ht9]; exact hP, va_K.moved hW9.alike hK, by rw [← hAe]; exact hD⟩, by rw [← hAe]; exact hS.F ht9⟩) (by rw [← hAe]; exact hS.2.2) d_Q_init_40
