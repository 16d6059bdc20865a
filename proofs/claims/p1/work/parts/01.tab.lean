/-- the tables' words that a callee may be given -/
def gT : List Cond := lw_tbl.filter goodWord
theorem mem_gT {w : Cond} (i : Nat) (h : lw_tbl[i]? = some w) (hg : goodWord w = true) : w ∈ gT := List.mem_filter.mpr ⟨List.mem_of_getElem? h, hg⟩
theorem gT_good {w : Cond} (h : w ∈ gT) : w ∈ lw_tbl ∧ ((w.onTables && w.keeps) = true ∨ ∃ ty, w = .arrayClass ty) := ⟨(List.mem_filter.mp h).1, good_of_word (List.mem_filter.mp h).2⟩
theorem good_c {w : Cond} (h : w ∈ gT) : GoodIn gT (w :: gT) := fun x hx => by
  rcases List.mem_cons.mp hx with rfl | q
  · exact ⟨h, (gT_good h).2⟩
  · exact ⟨q, (gT_good q).2⟩
theorem good_up {w0 : Cond} {ws : List Cond} (h : GoodIn gT ws) : GoodIn (w0 :: gT) ws := fun x hx => ⟨List.mem_cons_of_mem _ (h x hx).1, (h x hx).2⟩
theorem good_tbl {ws : List Cond} (h : GoodIn gT ws) : GoodIn lw_tbl ws := fun x hx => ⟨(gT_good (h x hx).1).1, (h x hx).2⟩
theorem good_V {own C : String} {idx : Nat} {y : MethodName} {ws : List Cond} (h1 : Cond.methodLink own idx y ∈ gT) (h2 : Cond.instanceMethod y ∈ gT) (h3 : Cond.selects C y y ∈ gT) (h4 : Cond.initialized C ∈ gT) (h5 : GoodIn gT ws) : GoodIn gT (wsV own idx C y ws) := by
  intro x hx
  rcases List.mem_append.mp hx with q | q
  · simp only [List.mem_cons, List.not_mem_nil, or_false] at q
    rcases q with rfl | rfl | rfl | rfl
    · exact ⟨h1, (gT_good h1).2⟩
    · exact ⟨h2, (gT_good h2).2⟩
    · exact ⟨h3, (gT_good h3).2⟩
    · exact ⟨h4, (gT_good h4).2⟩
  · exact h5 x q
theorem good_S {own : String} {idx : Nat} {y : MethodName} {ws : List Cond} (h1 : Cond.methodLink own idx y ∈ gT) (h2 : Cond.static y ∈ gT) (h4 : Cond.initialized y.cls ∈ gT) (h5 : GoodIn gT ws) : GoodIn gT (va_wsS own idx y ws) := by
  intro x hx
  rcases List.mem_append.mp hx with q | q
  · simp only [List.mem_cons, List.not_mem_nil, or_false] at q
    rcases q with rfl | rfl | rfl
    · exact ⟨h1, (gT_good h1).2⟩
    · exact ⟨h2, (gT_good h2).2⟩
    · exact ⟨h4, (gT_good h4).2⟩
  · exact h5 x q
/-- the links among nest mates: they are handed on beside the words -/
def isN : Cond → Bool
  | .fieldLinkNest .. => true
  | .methodLinkNest .. => true
  | _ => false
def nT : List Cond := lw_tbl.filter isN
def NW (U : State) : Prop := ∀ w ∈ nT, va_Nw w U
theorem mem_nT {w : Cond} (i : Nat) (h : lw_tbl[i]? = some w) (hg : isN w = true) : w ∈ nT := List.mem_filter.mpr ⟨List.mem_of_getElem? h, hg⟩
theorem NW.warm {s U : State} (hW : s.WarmedH U.vm) (h : NW s) : NW U := by
  intro w hw
  have h1 := h w hw
  have h2 := (List.mem_filter.mp hw).2
  cases w <;> first | exact va_Nw.warmF hW h1 | exact va_Nw.warmM hW h1 | (simp [isN] at h2; done)
theorem NW.same {u U : State} (e : u.vm = U.vm) (h : NW u) : NW U := by
  intro w hw
  have h1 := h w hw
  have h2 := (List.mem_filter.mp hw).2
  cases w <;> first | exact va_Nw.same rfl e h1 | (simp [isN] at h2; done)
theorem NW.use {s : State} {args : Array Value} {w : Cond} (h : NW s) (hw : w ∈ nT) : w.before args s = true := by
  have h1 := h w hw
  have h2 := (List.mem_filter.mp hw).2
  cases w <;> first | exact va_Nw.use rfl h1 | (simp [isN] at h2; done)
