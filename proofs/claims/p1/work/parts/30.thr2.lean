/-! a handler whose class is resolved by the search itself -/
theorem fh_cold {E : CtlPost} {e : Env} {d : Bool} {acts : List Action} {s : State} {f : JFrame} {a : Addr} {Q : Handler → Pre} {x : ExceptionTableEntry} {t : List ExceptionTableEntry} {c : ClassId} {cell : Cell} {vm' : Vm} (hx : covers x f.pc = true) (h0 : x.catchType ≠ 0)
    (hg : (Jvm.resolveClass f.method.cls x.catchType).Gives e.toSetting s.vm (.ok c) vm') (hsz : vm'.classes.size ≤ s.vm.classes.size) (hcell : s.heap[a]? = some cell) (hobj : ∀ k, cell.vm ≠ .statics k)
    (hk : ∃ k, vm'.classes[cell.cls]? = some k) (hc : ∃ k, vm'.classes[c]? = some k) (hfit : vm'.assignable cell.cls c = true) :
    wp (findHandler.go f a (x :: t)) Q E e d acts s ↔ Q (.found x.handlerPc) d acts (s.setVm vm') := by
  simp only [covers] at hx
  obtain ⟨ha, ht⟩ := hg.op (op := VmOp.resolveClass f.method.cls x.catchType) rfl
  simp [findHandler.go, hx, h0, ha, ht, hsz, hcell, hobj, hk, hc, hfit, VmOp.dirties, VmOp.acts]
theorem st_catch {e : Env} {s : State} {a : Addr} {f : JFrame} {r : List Frame} {pc : Nat} {vm' : Vm} (hfind : ∀ (Q : Handler → Pre) (E : CtlPost) (d : Bool) (acts : List Action), wp (findHandler f a) Q E e d acts s ↔ Q (.found pc) d acts (s.setVm vm')) :
    (stepThrowing e s a (.java f :: r)).Is ((s.setVm vm').setFrames (.java { f with pc := pc, stack := [.ref a] } :: r)) [] := by
  simp only [stepThrowing, searchFrame, vmDo]
  generalize hr : Sem.go _ e false [] s = res
  obtain ⟨as, rfl, ha⟩ := Sem.eq_ok_of hr (a := Handler.found pc) (s' := s.setVm vm') (acts' := []) (by simp [hfind _ _ _ _])
  exact ⟨rfl, ha⟩
theorem sp_caught {tb : Tables} {e : Env} {s target : State} {g : JFrame} {c : Code} {below : List Frame} {a : Addr} {vm' : Vm} (h : At s g.method c below) {pc : Nat}
    (hfind : ∀ (Q : Handler → Pre) (E : CtlPost) (d : Bool) (acts : List Action), wp (findHandler g a) Q E e d acts ((s.setTop g).pushFrame (.throwing a)) ↔ Q (.found pc) d acts (((s.setTop g).pushFrame (.throwing a)).setVm vm'))
    (hrest : Steps tb e below ((s.setVm vm').setTop { g with pc := pc, stack := [.ref a] }) target) :
    Steps tb e below ((s.setTop g).pushFrame (.throwing a)) target := by
  obtain ⟨hgo, hw⟩ := h.throwing a
  refine Steps.head hgo hw ?_
  rw [stepThread_throwing (frames_entered h.top _), (st_catch (s := (s.setTop g).pushFrame (.throwing a)) hfind).1]
  obtain ⟨g₀, hg⟩ := Option.isSome_iff_exists.mp h.top
  obtain ⟨r, hr⟩ := State.topJava?_eq_some.mp hg
  have hr' : (s.setVm vm').frames = .java g₀ :: r := hr
  rw [State.setTop_of_frames _ hr'] at hrest
  have e1 : (((s.setTop g).pushFrame (.throwing a)).setVm vm').setFrames (.java { g with pc := pc, stack := [.ref a] } :: s.frames.tail) = (s.setVm vm').setFrames (.java { g with pc := pc, stack := [.ref a] } :: r) := by
    rw [State.pushFrame, State.setTop_of_frames _ hr, State.setFrames_setFrames, hr]
    exact State.setFrames_setFrames (s.setVm vm') _ _
  rw [e1]
  exact hrest
def QThr : Array Value → State → Outcome → State → Prop := fun _ st o t => ∃ (z : Addr) (ce : Cell), o = .threw z ∧ st.heap.size ≤ z ∧ st.WarmedH t.vm ∧ st.sameButNew ({ t with vm := st.vm } : State) [] 1 6 ∧ t.heap[z]? = some ce ∧ st.vm.findClass xI = some ce.cls ∧ ce.vm = .none ∧ st.vm.assignable ce.cls ce.cls = true
def TQ (below : List Frame) (a : Array Value) (s : State) : State → Prop := fun t => ∃ o, t.status = .running ∧ Ended t below o ∧ QThr a s o t
def MetT (l : Launch) (y : MethodName) (ws : List Cond) (rm : Room) (Pc : Array Value → State → Prop) : Prop := MetFree l y (headSpec ws rm) Pc (fun _ _ _ _ _ => True) QThr
theorem MetT.ofW {l : Launch} {y : MethodName} {ws ws' : List Cond} {rm : Room} {Pc : Array Value → State → Prop} {cc : ByteArray} {maxL : Nat} {ret : Option FieldType}
    (hy : plainName y.cls = true) (hw : ws = Cond.code y cc maxL ret :: ws')
    (body : ∀ p e s m args below meth c s₁, BodyLoose p l y (headSpec ws rm) cc maxL ret e s m args below meth c s₁ → c.maxLocals = maxL → Pc args s →
      W p l e (headSpec ws rm).room s m args below meth c s.heap [] 0 0 (TQ below args s) (entryFrame m args maxL)) : MetT l y ws rm Pc := by
  refine MetFree.of_bodyS (code := cc) (maxLocals := maxL) (ret := ret) hy ?_ ?_
  · intro args s m h hn
    obtain ⟨meth, c, h1, h2, h3, h4, h5, h6, -, -⟩ := Cond.code_spec hn (atoms_spec (ws := ws) h _ (by rw [hw]; exact List.mem_cons_self))
    exact ⟨meth, c, h1, h2, h3, h4, h5, h6⟩
  · intro p e s m args below meth c s₁ B hml hP _
    have hh0 : s₁.heap = s.heap := by rw [B.state]; rfl
    obtain ⟨t, a1, o, b1, b2, b3⟩ := body p e s m args below meth c s₁ B hml hP s₁ hh0 (Stand.of_body B)
    exact ⟨t, o, a1, b1, b2, b3⟩
section THREND
variable {p : Program} {l : Launch} {e : Env} {R : Room} {s : State} {m : MethodId} {args : Array Value} {below : List Frame} {meth : Method} {c : Code} {Q : State → Prop}
/-- the class's own throw: the fresh exception, its constructor, athrow -/
theorem thr_end {cc : ByteArray} {pc : Nat} {ls : Array Slot} (hfl : l.flags = pinnedFlags ++ [noTraceFlag]) (hx : p.tables.exec = Jvm.exec) (hb : c.code = cc) (hown : s.vm.findClass "SeatProofs" = some m.cls) (hat : ∀ a ∈ Bundle.ownAtoms "SeatProofs" 143 xI xNm, a.before args s = true)
    (hT : c.exceptionTable.isEmpty = true) (hsize : ls.size = c.maxLocals) {cX : ClassId} {kX : Class} (h1 : s.vm.findClass xI = some cX) (h2 : s.vm.classes[cX]? = some kX) {q : Nat} (hRf : 5 < R.frames) (hRl : 82 ≤ R.locals) (hlocks : meth.locks = false)
    (hd1 : decode cc pc = .ok (.invokespecial 143, 3)) (hd2 : decode cc (pc + 3) = .ok (.athrow, 1)) :
    W p l e R s m args below meth c (s.heap.push { cls := cX, slots := kX.instanceTypes.map defaultValue, vm := .none }) [] (0 + 1) (0 + 6) (TQ below args s) (F0 m pc ls (.ref q :: .ref s.heap.size :: .ref s.heap.size :: [])) := by
  intro T hT' X
  have htr := Launch.traces_off hfl X.admits
  have he : c.exceptionTable.toList = [] := by
    have := hT
    cases hc : c.exceptionTable with
    | mk l => rw [hc] at this; cases l <;> simp_all
  obtain ⟨U, a1, a2, a3, a4, a5, ce, a6, a7⟩ := X.ctorThrowS hx htr (own := "SeatProofs") (cls := xI) (names := xNm) (ic := 143) hown (by decide +kernel) (by decide +kernel) hat (by simp) (a := s.heap.size) h1 h2 (by rw [hT']; simp) (Nat.le_refl _) (msg := .ref q) rfl (g := F0 m pc ls (.ref q :: .ref s.heap.size :: .ref s.heap.size :: [])) rfl hsize rfl rfl (rest := []) rfl (by rw [hb]; exact hd1) (by rw [hb]; exact hd2) (by rw [he]; simp) (by show 2 + 3 < R.frames; omega) (by show 2 * 0 + _ + (13 * (2 + 1) + 42) ≤ R.locals; simp [Value.category]; omega) hlocks
  exact ⟨U, a1, .threw s.heap.size, a2, a3, s.heap.size, ce, rfl, Nat.le_refl _, a4, a5, a6, a7.cls, a7.vm, a7.self⟩
end THREND
