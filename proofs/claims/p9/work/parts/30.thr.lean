/-! the throw: what the state must have beside the words, and the rows of a throwing call -/
abbrev xI : String := "java/lang/IndexOutOfBoundsException"
abbrev xNm : List String := ["java/lang/RuntimeException", "java/lang/Exception"]
abbrev xU : Cond := .isRef (.static Bundle.tN "UNASSIGNED_STACK" Bundle.steD)
abbrev xS : Cond := .isRef (.static Bundle.tN "SUPPRESSED_SENTINEL" Bundle.listD)
abbrev xLU : Cond := .laysStatic Bundle.tN "UNASSIGNED_STACK" Bundle.steD
abbrev xLS : Cond := .laysStatic Bundle.tN "SUPPRESSED_SENTINEL" Bundle.listD
abbrev xC : Cond := .castable xI xI
abbrev xD1 : Cond := .declares (Bundle.initS "java/lang/RuntimeException")
abbrev xD2 : Cond := .declares (Bundle.initS "java/lang/Exception")
abbrev xD3 : Cond := .declares (Bundle.initS Bundle.tN)
def TW (U : State) : Prop := (∀ w ∈ [xU, xS, xLU, xLS, xC, xD1, xD2, xD3], w.before #[] U = true) ∧ ∃ a, vk_R "SeatProofs" 141 "no such valve" a U
theorem ls_tr {s U : State} (hW : s.WarmedH U.vm) (hH : ∀ q, q < s.heap.size → U.heap[q]? = s.heap[q]?) {o n d : String} (h : (Cond.laysStatic o n d).before #[] s = true) : (Cond.laysStatic o n d).before #[] U = true := by
  have h1 : (Cond.laysStatic o n d).before #[] (s.setVm U.vm) = true := Cond.holds_shifted (State.Shifted.of_warmed hW) _ [] rfl h
  have e2 : (s.setVm U.vm).fieldFound? o n d = U.fieldFound? o n d := rfl
  simp only [Cond.before, Cond.holds, Cond.value, State.vm_setVm, e2] at h1 ⊢
  cases hf : U.vm.findClass o with
  | none => simp [hf] at h1
  | some c =>
    cases hg : U.fieldFound? o n d with
    | none => simp [hf, hg] at h1
    | some x =>
      obtain ⟨c', k, i, f⟩ := x
      simp only [hf, hg] at h1 ⊢
      cases hs : k.statics with
      | none => simp [hs] at h1
      | some a =>
        simp only [hs, Option.bind_some] at h1 ⊢
        cases hc : s.heap[a]? with
        | none => rw [show (s.setVm U.vm).heap[a]? = none from hc] at h1; simp at h1
        | some cell =>
          rw [show (s.setVm U.vm).heap[a]? = some cell from hc] at h1
          rw [show U.heap[a]? = some cell from (hH a (Array.getElem?_eq_some_iff.mp hc).1).trans hc]
          exact h1
theorem st_tr {s U : State} (hW : s.WarmedH U.vm) (hH : ∀ q, q < s.heap.size → U.heap[q]? = s.heap[q]?) {o n d : String} (h : (Cond.isRef (.static o n d)).before #[] s = true) : (Cond.isRef (.static o n d)).before #[] U = true := by
  have h1 : (Cond.isRef (.static o n d)).before #[] (s.setVm U.vm) = true := Cond.holds_shifted (State.Shifted.of_warmed hW) _ [] rfl h
  have e2 : (s.setVm U.vm).fieldNamed? o n d true = U.fieldNamed? o n d true := rfl
  simp only [Cond.before, Cond.holds, Cond.value, Term.eval, e2] at h1 ⊢
  cases hg : U.fieldNamed? o n d true with
  | none => simp [hg] at h1
  | some x =>
    obtain ⟨c', k, i⟩ := x
    simp only [hg, Option.bind_eq_bind, Option.bind_some] at h1 ⊢
    cases hs : k.statics with
    | none => simp [hs] at h1
    | some a =>
      simp only [hs, Option.bind_some] at h1 ⊢
      cases hc : s.heap[a]? with
      | none => rw [show (s.setVm U.vm).heap[a]? = none from hc] at h1; simp at h1
      | some cell =>
        rw [show (s.setVm U.vm).heap[a]? = some cell from hc] at h1
        rw [show U.heap[a]? = some cell from (hH a (Array.getElem?_eq_some_iff.mp hc).1).trans hc]
        exact h1
theorem ca_tr {s U : State} (hW : s.WarmedH U.vm) {c : Cond} (hc : c.faceAtom = true) (ho : c.onTables = true) (h : c.before #[] s = true) : c.before #[] U = true := by
  have h1 : c.before #[] (s.setVm U.vm) = true := Cond.faceAtom_setVm hW.alike _ hc h
  rw [Cond.onTables_vm (A' := #[]) (U' := U) U.vm c ho] at h1
  exact h1
theorem TW.tr {s U : State} (hW : s.WarmedH U.vm) (hH : ∀ q, q < s.heap.size → U.heap[q]? = s.heap[q]?) (h : TW s) : TW U := by
  obtain ⟨h1, a, h2⟩ := h
  refine ⟨fun w hw => ?_, a, vk_R.warm hW h2⟩
  simp only [List.mem_cons, List.not_mem_nil, or_false] at hw
  rcases hw with rfl | rfl | rfl | rfl | rfl | rfl | rfl | rfl
  · exact st_tr hW hH (h1 _ (by simp))
  · exact st_tr hW hH (h1 _ (by simp))
  · exact ls_tr hW hH (h1 _ (by simp))
  · exact ls_tr hW hH (h1 _ (by simp))
  · exact ca_tr hW rfl rfl (h1 _ (by simp))
  · exact ca_tr hW rfl rfl (h1 _ (by simp))
  · exact ca_tr hW rfl rfl (h1 _ (by simp))
  · exact ca_tr hW rfl rfl (h1 _ (by simp))
theorem TW.same {u U : State} (e : u.vm = U.vm) (eh : u.heap = U.heap) (h : TW u) : TW U := by
  obtain ⟨h1, a, h2⟩ := h
  refine ⟨fun w hw => ?_, a, vk_R.same e.symm h2⟩
  have h3 := h1 w hw
  simp only [List.mem_cons, List.not_mem_nil, or_false] at hw
  have ef : ∀ a b c, u.fieldFound? a b c = U.fieldFound? a b c := fun a b c => by simp [State.fieldFound?, e]
  have en : ∀ a b c d, u.fieldNamed? a b c d = U.fieldNamed? a b c d := fun a b c d => by simp [State.fieldNamed?, ef]
  have em : ∀ a, u.methodNamed? a = U.methodNamed? a := fun a => by simp [State.methodNamed?, e]
  rcases hw with rfl | rfl | rfl | rfl | rfl | rfl | rfl | rfl <;> simp only [Cond.before, Cond.holds, Cond.value, Term.eval, en, ef, e, eh, em] at h3 ⊢ <;> exact h3
theorem own_ok : ((Bundle.ownAtoms "SeatProofs" 143 xI xNm).all fun w => decide (w ∈ gT) || decide (w ∈ [xU, xS, xLU, xLS, xC, xD1, xD2, xD3])) = true := by decide +kernel
theorem own_at {s : State} {args : Array Value} {w0 : Cond} (hts : ∀ w ∈ w0 :: gT, w.before args s = true) (hT : TW s) : ∀ a ∈ Bundle.ownAtoms "SeatProofs" 143 xI xNm, a.before args s = true := by
  intro a ha
  have h := List.all_eq_true.mp own_ok a ha
  rw [Bool.or_eq_true, decide_eq_true_eq, decide_eq_true_eq] at h
  rcases h with h | h
  · exact hts a (List.mem_cons_of_mem _ h)
  · have h3 := hT.1 a h
    simp only [List.mem_cons, List.not_mem_nil, or_false] at h
    rcases h with rfl | rfl | rfl | rfl | rfl | rfl | rfl | rfl <;> exact h3
/-! a handler whose class is resolved by the search itself -/
theorem fh_cold {E : CtlPost} {e : Env} {d : Bool} {acts : List Action} {s : State} {f : JFrame} {a : Addr} {Q : Handler → Pre} {x : ExceptionTableEntry} {t : List ExceptionTableEntry} {c : ClassId} {cell : Cell} {vm' : Vm} (hx : covers x f.pc = true) (h0 : x.catchType ≠ 0)
    (hg : (Jvm.resolveClass f.method.cls x.catchType).Gives e.toSetting s.vm (.ok c) vm') (hsz : vm'.classes.size ≤ s.vm.classes.size) (hcell : s.heap[a]? = some cell) (hobj : ∀ k, cell.vm ≠ .statics k)
    (hk : ∃ k, vm'.classes[cell.cls]? = some k) (hc : ∃ k, vm'.classes[c]? = some k) (hfit : vm'.assignable cell.cls c = true) :
    wp (findHandler.go f a (x :: t)) Q E e d acts s ↔ Q (.found x.handlerPc) d acts (s.setVm vm') := by
  simp only [covers] at hx
  obtain ⟨ha, ht⟩ := hg.op (op := VmOp.resolveClass f.method.cls x.catchType) rfl
  simp [findHandler.go, hx, h0, ha, ht, hsz, hcell, hobj, hk, hc, hfit, VmOp.dirties, VmOp.acts]
theorem st_catch {e : Env} {s : State} {a : Addr} {f : JFrame} {r : List Frame} {pc : Nat} {vm' : Vm} (hfind : ∀ (Q : Handler → Pre) (E : CtlPost) (d : Bool) (acts : List Action), wp (findHandler f a) Q E e d acts s ↔ Q (.found pc) d acts (s.setVm vm')) :
    (stepThrowing e s a (.java f :: r)).Is ((s.setVm vm').setFrames (.java { f with pc := pc, stack := [.ref a] } :: r)) [] := by
  simp only [stepThrowing, searchFrame, vmDo]
  generalize hr : Sem.go _ e false [] s = res
  obtain ⟨as, rfl, ha⟩ := Sem.eq_ok_of hr (a := Handler.found pc) (s' := s.setVm vm') (acts' := []) (by simp [hfind _ _ _ _])
  exact ⟨rfl, ha⟩
theorem sp_caught {tb : Tables} {e : Env} {s target : State} {g : JFrame} {c : Code} {below : List Frame} {a : Addr} {vm' : Vm} (h : At s g.method c below) {pc : Nat}
    (hfind : ∀ (Q : Handler → Pre) (E : CtlPost) (d : Bool) (acts : List Action), wp (findHandler g a) Q E e d acts ((s.setTop g).pushFrame (.throwing a)) ↔ Q (.found pc) d acts (((s.setTop g).pushFrame (.throwing a)).setVm vm'))
    (hrest : Steps tb e below ((s.setVm vm').setTop { g with pc := pc, stack := [.ref a] }) target) :
    Steps tb e below ((s.setTop g).pushFrame (.throwing a)) target := by
  obtain ⟨hgo, hw⟩ := h.throwing a
  refine Steps.head hgo hw ?_
  rw [stepThread_throwing (frames_entered h.top _), (st_catch (s := (s.setTop g).pushFrame (.throwing a)) hfind).1]
  obtain ⟨g₀, hg⟩ := Option.isSome_iff_exists.mp h.top
  obtain ⟨r, hr⟩ := State.topJava?_eq_some.mp hg
  have hr' : (s.setVm vm').frames = .java g₀ :: r := hr
  rw [State.setTop_of_frames _ hr'] at hrest
  have e1 : (((s.setTop g).pushFrame (.throwing a)).setVm vm').setFrames (.java { g with pc := pc, stack := [.ref a] } :: s.frames.tail) = (s.setVm vm').setFrames (.java { g with pc := pc, stack := [.ref a] } :: r) := by
    rw [State.pushFrame, State.setTop_of_frames _ hr, State.setFrames_setFrames, hr]
    exact State.setFrames_setFrames (s.setVm vm') _ _
  rw [e1]
  exact hrest
def QThr : Array Value → State → Outcome → State → Prop := fun _ st o t => ∃ (z : Addr) (ce : Cell), o = .threw z ∧ st.heap.size ≤ z ∧ st.WarmedH t.vm ∧ st.sameButNew ({ t with vm := st.vm } : State) [] 1 6 ∧ t.heap[z]? = some ce ∧ st.vm.findClass xI = some ce.cls ∧ ce.vm = .none ∧ st.vm.assignable ce.cls ce.cls = true
def TQ (below : List Frame) (a : Array Value) (s : State) : State → Prop := fun t => ∃ o, t.status = .running ∧ Ended t below o ∧ QThr a s o t
def MetT (l : Launch) (y : MethodName) (ws : List Cond) (rm : Room) (Pc : Array Value → State → Prop) : Prop := MetFree l y (headSpec ws rm) Pc (fun _ _ _ _ _ => True) QThr
theorem MetT.ofW {l : Launch} {y : MethodName} {ws ws' : List Cond} {rm : Room} {Pc : Array Value → State → Prop} {cc : ByteArray} {maxL : Nat} {ret : Option FieldType}
    (hy : plainName y.cls = true) (hw : ws = Cond.code y cc maxL ret :: ws')
    (body : ∀ p e s m args below meth c s₁, BodyLoose p l y (headSpec ws rm) cc maxL ret e s m args below meth c s₁ → c.maxLocals = maxL → Pc args s →
      W p l e (headSpec ws rm).room s m args below meth c s.heap [] 0 0 (TQ below args s) (entryFrame m args maxL)) : MetT l y ws rm Pc := by
  refine MetFree.of_bodyS (code := cc) (maxLocals := maxL) (ret := ret) hy ?_ ?_
  · intro args s m h hn
    obtain ⟨meth, c, h1, h2, h3, h4, h5, h6, -, -⟩ := Cond.code_spec hn (atoms_spec (ws := ws) h _ (by rw [hw]; exact List.mem_cons_self))
    exact ⟨meth, c, h1, h2, h3, h4, h5, h6⟩
  · intro p e s m args below meth c s₁ B hml hP _
    have hh0 : s₁.heap = s.heap := by rw [B.state]; rfl
    obtain ⟨t, a1, o, b1, b2, b3⟩ := body p e s m args below meth c s₁ B hml hP s₁ hh0 (Stand.of_body B)
    exact ⟨t, o, a1, b1, b2, b3⟩
section THREND
variable {p : Program} {l : Launch} {e : Env} {R : Room} {s : State} {m : MethodId} {args : Array Value} {below : List Frame} {meth : Method} {c : Code} {Q : State → Prop}
/-- the class's own throw: the fresh exception, its constructor, athrow -/
theorem thr_end {cc : ByteArray} {pc : Nat} {ls : Array Slot} (hfl : l.flags = pinnedFlags ++ [noTraceFlag]) (hx : p.tables.exec = Jvm.exec) (hb : c.code = cc) (hown : s.vm.findClass "SeatProofs" = some m.cls) (hat : ∀ a ∈ Bundle.ownAtoms "SeatProofs" 143 xI xNm, a.before args s = true)
    (hT : c.exceptionTable.isEmpty = true) (hsize : ls.size = c.maxLocals) {cX : ClassId} {kX : Class} (h1 : s.vm.findClass xI = some cX) (h2 : s.vm.classes[cX]? = some kX) {q : Nat} (hRf : 5 < R.frames) (hRl : 82 ≤ R.locals) (hlocks : meth.locks = false)
    (hd1 : decode cc pc = .ok (.invokespecial 143, 3)) (hd2 : decode cc (pc + 3) = .ok (.athrow, 1)) :
    W p l e R s m args below meth c (s.heap.push { cls := cX, slots := kX.instanceTypes.map defaultValue, vm := .none }) [] (0 + 1) (0 + 6) (TQ below args s) (F0 m pc ls (.ref q :: .ref s.heap.size :: .ref s.heap.size :: [])) := by
  intro T hT' X
  have htr := Launch.traces_off hfl X.admits
  have he : c.exceptionTable.toList = [] := by
    have := hT
    cases hc : c.exceptionTable with
    | mk l => rw [hc] at this; cases l <;> simp_all
  obtain ⟨U, a1, a2, a3, a4, a5, ce, a6, a7⟩ := X.ctorThrowS hx htr (own := "SeatProofs") (cls := xI) (names := xNm) (ic := 143) hown (by decide +kernel) (by decide +kernel) hat (by simp) (a := s.heap.size) h1 h2 (by rw [hT']; simp) (Nat.le_refl _) (msg := .ref q) rfl (g := F0 m pc ls (.ref q :: .ref s.heap.size :: .ref s.heap.size :: [])) rfl hsize rfl rfl (rest := []) rfl (by rw [hb]; exact hd1) (by rw [hb]; exact hd2) (by rw [he]; simp) (by show 2 + 3 < R.frames; omega) (by show 2 * 0 + _ + (13 * (2 + 1) + 42) ≤ R.locals; simp [Value.category]; omega) hlocks
  exact ⟨U, a1, .threw s.heap.size, a2, a3, s.heap.size, ce, rfl, Nat.le_refl _, a4, a5, a6, a7.cls, a7.vm, a7.self⟩
end THREND
theorem sbn_eq {s t : State} {k n : Nat} (h : s.sameButNew t [] k n) : ∀ q : Nat, q < s.heap.size → t.heap[q]? = s.heap[q]? := by
  intro q hq
  obtain ⟨c', h1, h2, h3, h4⟩ := h.2.2.2.2.2 q s.heap[q] (Array.getElem?_eq_getElem hq)
  have h5 : c'.slots = s.heap[q].slots := Array.ext_getElem? (fun i => h4 i (by simp))
  rw [h1, Array.getElem?_eq_getElem hq, h2, h5]
theorem asg_rf (vm : Vm) (c : ClassId) : vm.assignable c c = true := by
  show vm.assignableAux (255 + 1) c c = true
  rw [Vm.assignableAux]; simp
section THRV
variable {p : Program} {l : Launch} {e : Env} {R : Room} {s : State} {m : MethodId} {args : Array Value} {below : List Frame} {meth : Method} {c : Code} {H : Heap} {locs : List Loc} {cells slots : Nat} {Q : State → Prop}
variable {y : MethodName} {bytes cc : ByteArray} {maxL nL n index : Nat} {ret : Option FieldType} {ws : List Cond} {rm : Room} {Pc : Array Value → State → Prop} {Ts : List Cond} {own C : String} {b : Addr} {As rest : List Value} {pc : Nat} {ls : Array Slot}
set_option maxHeartbeats 1000000 in
/-- a call that throws, caught in the caller -/
theorem thr_V (S : CallFix p m c cc nL s args Ts own) (hM : MetT l y ws rm Pc) (cw : CallW R s args own C index y bytes maxL ret ws rm 1 6 n) (hp : PreV s H C b Pc As)
    (hn : As.length = n) (hsize : ls.size = nL) (hW : 2 * 0 + (rest.map fun v => v.category).sum ≤ 8) (hdg : decode cc pc = .ok (.invokevirtual index, 3)) (hf : cells + 1 ≤ R.cells ∧ slots + 6 ≤ R.slots)
    {x : ExceptionTableEntry} (hex : c.exceptionTable.toList = [x]) (hcov : covers x pc = true) (hne : x.catchType ≠ 0) (hclink : (Cond.classLink own x.catchType xI).before args s = true)
    (kk : ∀ (z : Addr) (H1 : Heap), H.size ≤ H1.size → (∀ q : Nat, q < H.size → H1[q]? = H[q]?) → W p l e R s m args below meth c H1 locs (cells + 1) (slots + 6) Q (F0 m x.handlerPc ls [.ref z])) :
    W p l e R s m args below meth c H locs cells slots Q (F0 m pc ls (As.reverse ++ .ref b :: rest)) := by
  obtain ⟨⟨hrc, hrs, hfr, hlo, hws, hcw, hcode, hini, hy, hlen, hl⟩, hin, hse⟩ := cw
  obtain ⟨hx, hb, hml, ho, hts⟩ := S
  obtain ⟨hbl, ⟨cellB, hcB, hoB, hclB⟩, hPc⟩ := hp
  intro T hT X
  obtain ⟨mk, methM, hnamed, hmethM, hstM, habM⟩ := Cond.instanceMethod_spec hin
  obtain ⟨methM', cM, hmethM', hcM, -, hlM, -, -, -, hsigM⟩ := Cond.code_spec hnamed hcode
  cases hmethM.symm.trans hmethM'
  obtain ⟨c2, r2, m2, q1, q2, q3, q4, kP, hkP, hkPi⟩ := Cond.selects_spec hse
  cases hclB.symm.trans q1
  cases (State.methodFound?_of_named hnamed hy).symm.trans q2
  cases hnamed.symm.trans q3
  have hselP : selectMethod e.platform s.vm cellB.cls mk = .method mk := by rw [Launch.admits_selectMethod X.admits]; exact q4
  have hpl : e.platform.magicAccessors = ({} : Platform).magicAccessors := by rw [X.admits.platform]
  obtain ⟨vm₁, X₁, hstep₁⟩ := X.invokevirtual hx ho hl hnamed hmethM hstM hkP hkPi hy (a := b) (cell := cellB) (by rw [hT]; exact hcB)
    (fun z h => by rw [h] at hoB; cases hoB) hselP hmethM habM hkP hkPi (g := F0 m pc ls (As.reverse ++ .ref b :: rest)) rfl (argsL := As) (rest := rest) (hn.trans (hlen _ hsigM)) rfl (by rw [hb]; exact hdg)
  have hUh : (T.setVm vm₁).heap = H := hT
  generalize T.setVm vm₁ = U at X₁ hstep₁ hUh
  have hnU : U.methodNamed? y = some mk := X₁.named hnamed
  have h1 : (headSpec ws rm).pre.before (Value.ref b :: As).toArray U = true := atoms_intro fun w hw => hws w hw _ _ X₁.warmed
  have h2 : (Cond.code y bytes maxL ret).before (Value.ref b :: As).toArray U = true := hws _ hcw _ _ X₁.warmed
  have h3 : (Cond.initialized y.cls).before (Value.ref b :: As).toArray U = true := word_at X₁.warmed (Or.inl (by first | rfl | simp [Cond.onTables, Cond.keeps, Cond.steady])) hini
  obtain ⟨methY, cY, hmY, hcY, -, hlY, -⟩ := Cond.code_spec hnU h2
  obtain ⟨kY, hkY, -⟩ := className_of_methodNamed hnU
  have hinitY : kY.init = .initialized := Cond.initialized_spec (findClass_of_methodNamed hnU) hkY h3
  have h : At U m c below := X₁.here
  have happ : (headSpec ws rm).appliesLoose y e.platform (U.calling (F0 m pc ls rest) mk (Value.ref b :: As).toArray) = true :=
    Spec.appliesLoose_calling (g := F0 m pc ls rest) h (by rw [hb]; exact hdg) hnU hkY hinitY
      (X₁.room_calling (g := F0 m pc ls rest) (R' := (headSpec ws rm).room) (hsize.trans hml.symm) hmY hcY hfr (by rw [hlY]; show 2 * 0 + (rest.map fun v => v.category).sum + (_ + 11) + rm.locals ≤ R.locals; omega) (by show cells + rm.cells ≤ _; rw [hrc]; exact hf.1) (by show slots + rm.slots ≤ _; rw [hrs]; exact hf.2)) h1
  obtain ⟨mid, hmid⟩ := h.above
  have hfrm : (U.setTop (F0 m pc ls rest)).frames = (.java (F0 m pc ls rest) :: mid) ++ below := by rw [State.frames_setTop' _ h.top, hmid]; rfl
  obtain ⟨o, s₂, hsteps, -, hend, hq⟩ := Steps.callFree hM p X₁.admits X₁.cas X₁.clock (acts := []) hfrm happ (hbl _ _ _ _ (hPc U hUh X₁.warmed)) trivial
  have hq : QThr (Value.ref b :: As).toArray (U.calling (F0 m pc ls rest) mk (Value.ref b :: As).toArray) o s₂ := hq
  obtain ⟨z, ce, rfl, hz, hW₂, hsame, hce, hcl, hvm, has⟩ := hq
  rw [State.frames_setTop' _ h.top] at hend
  have hf₂ : s₂.frames = .throwing z :: .java (F0 m pc ls rest) :: U.frames.tail := hend
  obtain ⟨e2, p2, p3, p4, p5, p6⟩ := id hsame
  have e3 : s₂ = ({ (U.calling (F0 m pc ls rest) mk (Value.ref b :: As).toArray).setFrames s₂.frames with heap := s₂.heap, slotsUsed := s₂.slotsUsed } : State).setVm s₂.vm := by
    have : s₂ = ({ s₂ with vm := (U.calling (F0 m pc ls rest) mk (Value.ref b :: As).toArray).vm } : State).setVm s₂.vm := rfl
    rw [e2] at this
    exact this
  have hW' : U.WarmedH s₂.vm := hW₂
  obtain ⟨g₀, hg0⟩ := Option.isSome_iff_exists.mp h.top
  obtain ⟨r, hr⟩ := State.topJava?_eq_some.mp hg0
  have hs₂ : s₂ = ((({ U with heap := s₂.heap, slotsUsed := s₂.slotsUsed } : State).setVm s₂.vm).setTop (F0 m pc ls rest)).pushFrame (.throwing z) := by
    have hr' : (({ U with heap := s₂.heap, slotsUsed := s₂.slotsUsed } : State).setVm s₂.vm).frames = .java g₀ :: r := hr
    refine e3.trans ?_
    rw [hf₂, State.calling_eq h.top, State.setFrames_setFrames, State.pushFrame, State.frames_setTop _ hr', State.setTop_of_frames _ hr', State.setFrames_setFrames, hr]
    rfl
  have hsm : U.sameButNew ({ U with heap := s₂.heap, slotsUsed := s₂.slotsUsed } : State) [] 1 6 := by
    refine ⟨?_, p2, p3, p4, p5, p6⟩
    obtain ⟨t, ht, -⟩ := State.frames_cons hr
    show ({ U with heap := s₂.heap, slotsUsed := s₂.slotsUsed } : State) = { U.setFrames U.frames with heap := s₂.heap, slotsUsed := s₂.slotsUsed }
    rw [State.setFrames_self ht]
  have X' : Stand p l e R s m args below meth c (({ U with heap := s₂.heap, slotsUsed := s₂.slotsUsed } : State).setVm s₂.vm) (locs ++ []) (cells + 1) (slots + 6) :=
    ⟨X₁.admits, X₁.cas, X₁.clock, X₁.frames, X₁.room, X₁.hears, X₁.method, X₁.code, (X₁.here.setHeapUsed s₂.heap s₂.slotsUsed).setVm hW'.alike, X₁.tail, State.WarmedH.trans X₁.warmed hW', X₁.limits, X₁.bytes, X₁.same.trans (hsm.setVm s.vm)⟩
  rw [List.append_nil] at X'
  have hvh : (({ U with heap := s₂.heap, slotsUsed := s₂.slotsUsed } : State).setVm s₂.vm).heap = s₂.heap := rfl
  have hvv : (({ U with heap := s₂.heap, slotsUsed := s₂.slotsUsed } : State).setVm s₂.vm).vm = s₂.vm := rfl
  generalize (({ U with heap := s₂.heap, slotsUsed := s₂.slotsUsed } : State).setVm s₂.vm) = V at X' hs₂ hvh hvv
  obtain ⟨cC, hfcc, hcl'⟩ := Cond.classLink_spec ho hclink e.platform hpl
  obtain ⟨hg₁, hwarm₁, hready₁⟩ := State.classEntry (e := e) X'.warmed hcl'
  have hsz : (V.vm.noted m.cls x.catchType (.cls cC)).classes.size ≤ V.vm.classes.size := by no_record
  generalize V.vm.noted m.cls x.catchType (.cls cC) = vm₂ at hg₁ hwarm₁ hready₁ hsz
  have X'' := X'.noted hwarm₁
  have hkC : ∃ k, vm₂.classes[cC]? = some k := by
    obtain ⟨k, hk⟩ := Vm.classAt_of_findClass hfcc
    obtain ⟨k₁, hk₁, -⟩ := hwarm₁.alike.2.2 _ _ hk
    exact ⟨k₁, hk₁⟩
  have hcC : ce.cls = cC := by
    have q : U.vm.findClass xI = some cC := by rw [X₁.warmed.alike.findClass]; exact hfcc
    exact Option.some.inj ((show U.vm.findClass xI = some ce.cls from hcl).symm.trans q)
  have hsz2 : H.size ≤ s₂.heap.size := by rw [← hUh]; exact p2
  obtain ⟨t, a1, b1⟩ := kk z s₂.heap hsz2 (fun q hq => by rw [← hUh] at hq ⊢; exact sbn_eq hsm q hq) (V.setVm vm₂) hvh X''
  refine ⟨t, hstep₁ _ fun acts => ?_, b1⟩
  rw [doInvoke_state]
  refine hsteps.trans ?_
  rw [hs₂]
  refine sp_caught (g := F0 m pc ls rest) (vm' := vm₂) X'.here (fun Q E d acts => ?_) a1
  rw [W.findHandler_eq (s := (V.setTop (F0 m pc ls rest)).pushFrame (.throwing z)) (by rw [throwing_vm]; exact X'.method') X'.code, hex]
  exact fh_cold hcov hne (by rw [throwing_vm]; exact hg₁) (by rw [throwing_vm]; exact hsz) (by rw [throwing_heap, hvh]; exact hce) (fun k => by rw [hvm]; simp) (by rw [hcC]; exact hkC) hkC (by rw [hcC]; exact asg_rf _ _)
end THRV
/-- a throwing method's start -/
abbrev tPc (D : va_G) (cl : List vw_C) (tys : List (ClassId × FieldType)) (w : va_W) (av : List Value) : Array Value → State → Prop := va_Pc av (fun U => va_P D cl w U.heap ∧ va_K D cl tys U ∧ NW U ∧ TW U)
theorem fb_T {D : va_G} {cl : List vw_C} {tys : List (ClassId × FieldType)} {w : va_W} {av : List Value} : FrameBlind (tPc D cl tys w av) := fun a U g mk q => by
  obtain ⟨q0, qP, qK, qN, qT⟩ := q
  exact ⟨q0, qP, va_K.moved (u := U) (U := U.calling g mk a) (Vm.Alike.refl U.vm) qK, NW.same (u := U) rfl qN, TW.same (u := U) rfl rfl qT⟩
theorem pv_T {s : State} {H : Heap} {D : va_G} {cl : List vw_C} {tys : List (ClassId × FieldType)} {w : va_W} {b ci q0 : Nat} {q : vw_C} {fs : List Value} (As : List Value) (hN : NW s) (hT : TW s) (hH : ∀ q, q < s.heap.size → H[q]? = s.heap[q]?) (hK : va_K D cl tys s) (hP : va_P D cl w H) (hc : cl[ci]? = some q) (he : w[q0]? = some (b, .inr (ci, fs))) : PreV s H q.1 b (tPc D cl tys w (.ref b :: As)) As :=
  ⟨fb_T, va_recv hK hP hc he, fun U hU hW => ⟨rfl, by rw [hU]; exact hP, va_K.moved hW.alike hK, NW.warm hW hN, TW.tr hW (fun q hq => by rw [hU]; exact hH q hq) hT⟩⟩
