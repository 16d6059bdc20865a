/-! the throw: what the state must have beside the words, and the rows of a throwing call -/
abbrev xI : String := "java/lang/IndexOutOfBoundsException"
abbrev xNm : List String := ["java/lang/RuntimeException", "java/lang/Exception"]
abbrev xU : Cond := .isRef (.static Bundle.tN "UNASSIGNED_STACK" Bundle.steD)
abbrev xS : Cond := .isRef (.static Bundle.tN "SUPPRESSED_SENTINEL" Bundle.listD)
abbrev xLU : Cond := .laysStatic Bundle.tN "UNASSIGNED_STACK" Bundle.steD
abbrev xLS : Cond := .laysStatic Bundle.tN "SUPPRESSED_SENTINEL" Bundle.listD
abbrev xC : Cond := .castable xI xI
abbrev xD1 : Cond := .declares (Bundle.initS "java/lang/RuntimeException")
abbrev xD2 : Cond := .declares (Bundle.initS "java/lang/Exception")
abbrev xD3 : Cond := .declares (Bundle.initS Bundle.tN)
def TW (U : State) : Prop := (∀ w ∈ [xU, xS, xLU, xLS, xC, xD1, xD2, xD3], w.before #[] U = true) ∧ ∃ a, vk_R "SeatProofs" 141 "no such valve" a U
theorem ls_tr {s U : State} (hW : s.WarmedH U.vm) (hH : ∀ q, q < s.heap.size → U.heap[q]? = s.heap[q]?) {o n d : String} (h : (Cond.laysStatic o n d).before #[] s = true) : (Cond.laysStatic o n d).before #[] U = true := by
  have h1 : (Cond.laysStatic o n d).before #[] (s.setVm U.vm) = true := Cond.holds_shifted (State.Shifted.of_warmed hW) _ [] rfl h
  have e2 : (s.setVm U.vm).fieldFound? o n d = U.fieldFound? o n d := rfl
  simp only [Cond.before, Cond.holds, Cond.value, State.vm_setVm, e2] at h1 ⊢
  cases hf : U.vm.findClass o with
  | none => simp [hf] at h1
  | some c =>
    cases hg : U.fieldFound? o n d with
    | none => simp [hf, hg] at h1
    | some x =>
      obtain ⟨c', k, i, f⟩ := x
      simp only [hf, hg] at h1 ⊢
      cases hs : k.statics with
      | none => simp [hs] at h1
      | some a =>
        simp only [hs, Option.bind_some] at h1 ⊢
        cases hc : s.heap[a]? with
        | none => rw [show (s.setVm U.vm).heap[a]? = none from hc] at h1; simp at h1
        | some cell =>
          rw [show (s.setVm U.vm).heap[a]? = some cell from hc] at h1
          rw [show U.heap[a]? = some cell from (hH a (Array.getElem?_eq_some_iff.mp hc).1).trans hc]
          exact h1
theorem st_tr {s U : State} (hW : s.WarmedH U.vm) (hH : ∀ q, q < s.heap.size → U.heap[q]? = s.heap[q]?) {o n d : String} (h : (Cond.isRef (.static o n d)).before #[] s = true) : (Cond.isRef (.static o n d)).before #[] U = true := by
  have h1 : (Cond.isRef (.static o n d)).before #[] (s.setVm U.vm) = true := Cond.holds_shifted (State.Shifted.of_warmed hW) _ [] rfl h
  have e2 : (s.setVm U.vm).fieldNamed? o n d true = U.fieldNamed? o n d true := rfl
  simp only [Cond.before, Cond.holds, Cond.value, Term.eval, e2] at h1 ⊢
  cases hg : U.fieldNamed? o n d true with
  | none => simp [hg] at h1
  | some x =>
    obtain ⟨c', k, i⟩ := x
    simp only [hg, Option.bind_eq_bind, Option.bind_some] at h1 ⊢
    cases hs : k.statics with
    | none => simp [hs] at h1
    | some a =>
      simp only [hs, Option.bind_some] at h1 ⊢
      cases hc : s.heap[a]? with
      | none => rw [show (s.setVm U.vm).heap[a]? = none from hc] at h1; simp at h1
      | some cell =>
        rw [show (s.setVm U.vm).heap[a]? = some cell from hc] at h1
        rw [show U.heap[a]? = some cell from (hH a (Array.getElem?_eq_some_iff.mp hc).1).trans hc]
        exact h1
theorem ca_tr {s U : State} (hW : s.WarmedH U.vm) {c : Cond} (hc : c.faceAtom = true) (ho : c.onTables = true) (h : c.before #[] s = true) : c.before #[] U = true := by
  have h1 : c.before #[] (s.setVm U.vm) = true := Cond.faceAtom_setVm hW.alike _ hc h
  rw [Cond.onTables_vm (A' := #[]) (U' := U) U.vm c ho] at h1
  exact h1
theorem TW.tr {s U : State} (hW : s.WarmedH U.vm) (hH : ∀ q, q < s.heap.size → U.heap[q]? = s.heap[q]?) (h : TW s) : TW U := by
  obtain ⟨h1, a, h2⟩ := h
  refine ⟨fun w hw => ?_, a, vk_R.warm hW h2⟩
  simp only [List.mem_cons, List.not_mem_nil, or_false] at hw
  rcases hw with rfl | rfl | rfl | rfl | rfl | rfl | rfl | rfl
  · exact st_tr hW hH (h1 _ (by simp))
  · exact st_tr hW hH (h1 _ (by simp))
  · exact ls_tr hW hH (h1 _ (by simp))
  · exact ls_tr hW hH (h1 _ (by simp))
  · exact ca_tr hW rfl rfl (h1 _ (by simp))
  · exact ca_tr hW rfl rfl (h1 _ (by simp))
  · exact ca_tr hW rfl rfl (h1 _ (by simp))
  · exact ca_tr hW rfl rfl (h1 _ (by simp))
theorem TW.same {u U : State} (e : u.vm = U.vm) (eh : u.heap = U.heap) (h : TW u) : TW U := by
  obtain ⟨h1, a, h2⟩ := h
  refine ⟨fun w hw => ?_, a, vk_R.same e.symm h2⟩
  have h3 := h1 w hw
  simp only [List.mem_cons, List.not_mem_nil, or_false] at hw
  have ef : ∀ a b c, u.fieldFound? a b c = U.fieldFound? a b c := fun a b c => by simp [State.fieldFound?, e]
  have en : ∀ a b c d, u.fieldNamed? a b c d = U.fieldNamed? a b c d := fun a b c d => by simp [State.fieldNamed?, ef]
  have em : ∀ a, u.methodNamed? a = U.methodNamed? a := fun a => by simp [State.methodNamed?, e]
  rcases hw with rfl | rfl | rfl | rfl | rfl | rfl | rfl | rfl <;> simp only [Cond.before, Cond.holds, Cond.value, Term.eval, en, ef, e, eh, em] at h3 ⊢ <;> exact h3
theorem own_ok : ((Bundle.ownAtoms "SeatProofs" 143 xI xNm).all fun w => decide (w ∈ gT) || decide (w ∈ [xU, xS, xLU, xLS, xC, xD1, xD2, xD3])) = true := by decide +kernel
theorem own_at {s : State} {args : Array Value} {w0 : Cond} (hts : ∀ w ∈ w0 :: gT, w.before args s = true) (hT : TW s) : ∀ a ∈ Bundle.ownAtoms "SeatProofs" 143 xI xNm, a.before args s = true := by
  intro a ha
  have h := List.all_eq_true.mp own_ok a ha
  rw [Bool.or_eq_true, decide_eq_true_eq, decide_eq_true_eq] at h
  rcases h with h | h
  · exact hts a (List.mem_cons_of_mem _ h)
  · have h3 := hT.1 a h
    simp only [List.mem_cons, List.not_mem_nil, or_false] at h
    rcases h with rfl | rfl | rfl | rfl | rfl | rfl | rfl | rfl <;> exact h3
