/-! a call over a part of the world -/
section GLUE
variable {D : va_G} {cl : List vw_C} {H H1 : Heap} {A A0 : Nat → Prop} {a b w r : va_W}
theorem va_P.L (h : va_P D cl (a ++ b) H) : va_P D cl a H := fun k q hq => h k q (by
  have hk : k < a.length := (List.getElem?_eq_some_iff.mp hq).1
  rw [List.getElem?_append_left hk]; exact hq)
theorem va_P.R (h : va_P D cl (a ++ b) H) : va_P D cl b H := fun k q hq => h (a.length + k) q (by
  rw [List.getElem?_append_right (by omega)]; rw [show a.length + k - a.length = k by omega]; exact hq)
theorem va_P.mk (h1 : va_P D cl a H) (h2 : va_P D cl b H) : va_P D cl (a ++ b) H := fun k q hq => by
  rcases Nat.lt_or_ge k a.length with z | z
  · rw [List.getElem?_append_left z] at hq; exact h1 k q hq
  · rw [List.getElem?_append_right z] at hq; exact h2 _ q hq
theorem va_D.L (h : va_D A (a ++ b)) : va_D A a := by
  have e : ∀ (k : Nat) (q : Nat × va_E), a[k]? = some q → (a ++ b)[k]? = some q := fun k q hq => by
    have hk : k < a.length := (List.getElem?_eq_some_iff.mp hq).1
    rw [List.getElem?_append_left hk]; exact hq
  exact ⟨fun i j p q hi hj e1 => h.1 i j p q (e i p hi) (e j q hj) e1, fun k q hq => h.2 k q (e k q hq)⟩
theorem va_D.R (h : va_D A (a ++ b)) : va_D A b := by
  have e : ∀ (k : Nat) (q : Nat × va_E), b[k]? = some q → (a ++ b)[a.length + k]? = some q := fun k q hq => by
    rw [List.getElem?_append_right (by omega)]; rw [show a.length + k - a.length = k by omega]; exact hq
  exact ⟨fun i j p q hi hj e1 => by have := h.1 _ _ p q (e i p hi) (e j q hj) e1; omega, fun k q hq => h.2 _ q (e k q hq)⟩
theorem va_D.dis (h : va_D A (a ++ b)) {i j : Nat} {p q : Nat × va_E} (hi : a[i]? = some p) (hj : b[j]? = some q) : p.1 ≠ q.1 := fun e => by
  have hk : i < a.length := (List.getElem?_eq_some_iff.mp hi).1
  have := h.1 i (a.length + j) p q (by rw [List.getElem?_append_left hk]; exact hi) (by rw [List.getElem?_append_right (by omega)]; rw [show a.length + j - a.length = j by omega]; exact hj) e
  omega
theorem va_D.mk (h1 : va_D A a) (h2 : va_D A b) (h3 : ∀ (i j : Nat) (p q : Nat × va_E), a[i]? = some p → b[j]? = some q → p.1 ≠ q.1) : va_D A (a ++ b) := by
  refine ⟨fun i j p q hi hj e => ?_, fun k q hq => ?_⟩
  · rcases Nat.lt_or_ge i a.length with z | z <;> rcases Nat.lt_or_ge j a.length with z2 | z2
    · rw [List.getElem?_append_left z] at hi; rw [List.getElem?_append_left z2] at hj; exact h1.1 i j p q hi hj e
    · rw [List.getElem?_append_left z] at hi; rw [List.getElem?_append_right z2] at hj; exact absurd e (h3 _ _ p q hi hj)
    · rw [List.getElem?_append_right z] at hi; rw [List.getElem?_append_left z2] at hj; exact absurd e.symm (h3 _ _ q p hj hi)
    · rw [List.getElem?_append_right z] at hi; rw [List.getElem?_append_right z2] at hj; have := h2.1 _ _ p q hi hj e; omega
  · rcases Nat.lt_or_ge k a.length with z | z
    · rw [List.getElem?_append_left z] at hq; exact h1.2 k q hq
    · rw [List.getElem?_append_right z] at hq; exact h2.2 _ q hq
theorem out_A (hP : va_P D cl r H) (h3 : ∀ (i j : Nat) (p q : Nat × va_E), w[i]? = some p → r[j]? = some q → p.1 ≠ q.1) {k : Nat} {q : Nat × va_E} (hq : r[k]? = some q) : q.1 < H.size ∧ ¬ va_A w H.size q.1 := by
  have hl := (hP k q hq).lt
  refine ⟨hl, fun h => ?_⟩
  rcases h with ⟨j, e, h⟩ | h
  · exact h3 j k _ q h hq rfl
  · omega
/-- the left part came back changed -/
theorem glueL {w1 : va_W} (hP : va_P D cl (w ++ r) H) (hD : va_D A0 (w ++ r)) (hk : ∀ q : Nat, q < H.size → ¬ va_A w H.size q → H1[q]? = H[q]?) (hF : ∀ q, va_A w H.size q → A0 q) (hP1 : va_P D cl w1 H1) (hD1 : va_D (va_A w H.size) w1) : va_P D cl (w1 ++ r) H1 ∧ va_D A0 (w1 ++ r) := by
  have o : ∀ {k : Nat} {q : Nat × va_E}, r[k]? = some q → q.1 < H.size ∧ ¬ va_A w H.size q.1 := fun hq => out_A hP.R (fun _ _ _ _ h1 h2 => hD.dis h1 h2) hq
  refine ⟨va_P.mk hP1 (fun k q hq => (hP.R k q hq).kept (hk q.1 (o hq).1 (o hq).2)), va_D.mk (hD1.weaken (fun _ q _ h => hF q.1 h)) hD.R (fun i j p q hi hj e => (o hj).2 ?_)⟩
  rw [← e]; exact hD1.2 i p hi
/-- the right part came back changed -/
theorem glueR {w1 : va_W} (hP : va_P D cl (r ++ w) H) (hD : va_D A0 (r ++ w)) (hk : ∀ q : Nat, q < H.size → ¬ va_A w H.size q → H1[q]? = H[q]?) (hF : ∀ q, va_A w H.size q → A0 q) (hP1 : va_P D cl w1 H1) (hD1 : va_D (va_A w H.size) w1) : va_P D cl (r ++ w1) H1 ∧ va_D A0 (r ++ w1) := by
  have o : ∀ {k : Nat} {q : Nat × va_E}, r[k]? = some q → q.1 < H.size ∧ ¬ va_A w H.size q.1 := fun hq => out_A hP.L (fun _ _ _ _ h1 h2 => (hD.dis h2 h1).symm) hq
  refine ⟨va_P.mk (fun k q hq => (hP.L k q hq).kept (hk q.1 (o hq).1 (o hq).2)) hP1, va_D.mk hD.L (hD1.weaken (fun _ q _ h => hF q.1 h)) (fun i j p q hi hj e => (o hi).2 ?_)⟩
  rw [e]; exact hD1.2 j q hj
end GLUE
section CALLG
variable {p : Program} {l : Launch} {e : Env} {R : Room} {s : State} {m : MethodId} {args : Array Value} {below : List Frame} {meth : Method} {c : Code} {H : Heap} {locs : List Loc} {cells slots : Nat} {Q : State → Prop}
variable {pc : Nat} {ls : Array Slot} {rest st0 : List Value} {a : Array Value} {A0 : Nat → Prop} {H0 : Heap} {mc ms : Nat}
variable {D : va_G} {cl : List vw_C} {tys : List (ClassId × FieldType)} {w r9 : va_W} {S : Type} {w1 : S → va_W}
theorem cL_i {post : Int32 → S → Prop} (hr : va_Run p l e R s m args below meth c H locs cells slots mc ms (F0 m pc ls st0) rest (va_Qi post (qB D cl tys w H.size w1) (va_A w H.size) a) (va_A w H.size)) (hP : va_P D cl (w ++ r9) H) (hD : va_D A0 (w ++ r9)) (hS : va_S A0 H0 H locs) (hA : ∀ q, H0.size ≤ q → A0 q)
    (kk : ∀ (r : Int32) (u : S) (H1 : Heap) (locs1 : List Loc), post r u → va_P D cl (w1 u ++ r9) H1 → va_D A0 (w1 u ++ r9) → va_S A0 H0 H1 locs1 → W p l e R s m args below meth c H1 locs1 (cells + mc) (slots + ms) Q (F0 m (pc + 3) ls (.int r :: rest))) : W p l e R s m args below meth c H locs cells slots Q (F0 m pc ls st0) :=
  va_calli hr hS (fun q _ h => own_A hD.L hS hA q h) (own_A hD.L hS hA) (fun r u t H1 locs1 ht _ hw hB _ hk hS1 => by
    obtain ⟨g1, g2⟩ := glueL hP hD hk (own_A hD.L hS hA) (ht ▸ hB.1) hB.2.2
    exact kk r u H1 locs1 hw g1 g2 hS1)
theorem cL_v {post : S → Prop} (hr : va_Run p l e R s m args below meth c H locs cells slots mc ms (F0 m pc ls st0) rest (va_Qv post (qB D cl tys w H.size w1) (va_A w H.size) a) (va_A w H.size)) (hP : va_P D cl (w ++ r9) H) (hD : va_D A0 (w ++ r9)) (hS : va_S A0 H0 H locs) (hA : ∀ q, H0.size ≤ q → A0 q)
    (kk : ∀ (u : S) (H1 : Heap) (locs1 : List Loc), post u → va_P D cl (w1 u ++ r9) H1 → va_D A0 (w1 u ++ r9) → va_S A0 H0 H1 locs1 → W p l e R s m args below meth c H1 locs1 (cells + mc) (slots + ms) Q (F0 m (pc + 3) ls rest)) : W p l e R s m args below meth c H locs cells slots Q (F0 m pc ls st0) :=
  va_callv hr hS (fun q _ h => own_A hD.L hS hA q h) (own_A hD.L hS hA) (fun u t H1 locs1 ht _ hw hB _ hk hS1 => by
    obtain ⟨g1, g2⟩ := glueL hP hD hk (own_A hD.L hS hA) (ht ▸ hB.1) hB.2.2
    exact kk u H1 locs1 hw g1 g2 hS1)
theorem cR_i {post : Int32 → S → Prop} (hr : va_Run p l e R s m args below meth c H locs cells slots mc ms (F0 m pc ls st0) rest (va_Qi post (qB D cl tys w H.size w1) (va_A w H.size) a) (va_A w H.size)) (hP : va_P D cl (r9 ++ w) H) (hD : va_D A0 (r9 ++ w)) (hS : va_S A0 H0 H locs) (hA : ∀ q, H0.size ≤ q → A0 q)
    (kk : ∀ (r : Int32) (u : S) (H1 : Heap) (locs1 : List Loc), post r u → va_P D cl (r9 ++ w1 u) H1 → va_D A0 (r9 ++ w1 u) → va_S A0 H0 H1 locs1 → W p l e R s m args below meth c H1 locs1 (cells + mc) (slots + ms) Q (F0 m (pc + 3) ls (.int r :: rest))) : W p l e R s m args below meth c H locs cells slots Q (F0 m pc ls st0) :=
  va_calli hr hS (fun q _ h => own_A hD.R hS hA q h) (own_A hD.R hS hA) (fun r u t H1 locs1 ht _ hw hB _ hk hS1 => by
    obtain ⟨g1, g2⟩ := glueR hP hD hk (own_A hD.R hS hA) (ht ▸ hB.1) hB.2.2
    exact kk r u H1 locs1 hw g1 g2 hS1)
theorem cR_v {post : S → Prop} (hr : va_Run p l e R s m args below meth c H locs cells slots mc ms (F0 m pc ls st0) rest (va_Qv post (qB D cl tys w H.size w1) (va_A w H.size) a) (va_A w H.size)) (hP : va_P D cl (r9 ++ w) H) (hD : va_D A0 (r9 ++ w)) (hS : va_S A0 H0 H locs) (hA : ∀ q, H0.size ≤ q → A0 q)
    (kk : ∀ (u : S) (H1 : Heap) (locs1 : List Loc), post u → va_P D cl (r9 ++ w1 u) H1 → va_D A0 (r9 ++ w1 u) → va_S A0 H0 H1 locs1 → W p l e R s m args below meth c H1 locs1 (cells + mc) (slots + ms) Q (F0 m (pc + 3) ls rest)) : W p l e R s m args below meth c H locs cells slots Q (F0 m pc ls st0) :=
  va_callv hr hS (fun q _ h => own_A hD.R hS hA q h) (own_A hD.R hS hA) (fun u t H1 locs1 ht _ hw hB _ hk hS1 => by
    obtain ⟨g1, g2⟩ := glueR hP hD hk (own_A hD.R hS hA) (ht ▸ hB.1) hB.2.2
    exact kk u H1 locs1 hw g1 g2 hS1)
end CALLG
