/-! flooding: the least set of spaces with the sources in it, closed under the valves that let through -/
def Cl (nV : Nat) (lev : Nat → Int64) (fa fb : Nat → Nat) (L : Nat → Bool) (X : Nat → Prop) : Prop :=
  ∀ v, v < nV → L v = true → (X (fa v) → lev (fb v) ≤ lev (fa v) → X (fb v)) ∧ (X (fb v) → lev (fa v) ≤ lev (fb v) → X (fa v))
def Fl (nV : Nat) (lev : Nat → Int64) (fa fb : Nat → Nat) (L S : Nat → Bool) (s : Nat) : Prop :=
  ∀ X : Nat → Prop, (∀ t, S t = true → X t) → Cl nV lev fa fb L X → X s
theorem Fl.src {nV : Nat} {lev : Nat → Int64} {fa fb : Nat → Nat} {L S : Nat → Bool} {s : Nat} (h : S s = true) : Fl nV lev fa fb L S s := fun _ h1 _ => h1 s h
theorem Fl.cl {nV : Nat} {lev : Nat → Int64} {fa fb : Nat → Nat} {L S : Nat → Bool} : Cl nV lev fa fb L (Fl nV lev fa fb L S) := by
  intro v hv hL
  exact ⟨fun h hl X h1 h2 => (h2 v hv hL).1 (h X h1 h2) hl, fun h hl X h1 h2 => (h2 v hv hL).2 (h X h1 h2) hl⟩
theorem Fl.lt {nV n : Nat} {lev : Nat → Int64} {fa fb : Nat → Nat} {L S : Nat → Bool} {s : Nat} (hS : ∀ t, S t = true → t < n) (hv : ∀ v, v < nV → fa v < n ∧ fb v < n) (h : Fl nV lev fa fb L S s) : s < n :=
  h (fun t => t < n) hS (fun v h1 _ => ⟨fun _ _ => (hv v h1).2, fun _ _ => (hv v h1).1⟩)
theorem Fl.congr {nV : Nat} {lev lev' : Nat → Int64} {fa fb fa' fb' : Nat → Nat} {L L' S S' : Nat → Bool} (h1 : ∀ v, v < nV → fa v = fa' v ∧ fb v = fb' v ∧ L v = L' v ∧ lev (fa v) = lev' (fa v) ∧ lev (fb v) = lev' (fb v)) (h2 : ∀ t, S t = S' t) {s : Nat} (h : Fl nV lev fa fb L S s) : Fl nV lev' fa' fb' L' S' s := by
  intro X a b
  refine h X (fun t ht => a t (by rw [← h2]; exact ht)) (fun v hv hL => ?_)
  obtain ⟨e1, e2, e3, e4, e5⟩ := h1 v hv
  have := b v hv (by rw [← e3]; exact hL)
  rw [← e1, ← e2, ← e4, ← e5] at this
  exact this
/-! a long out of its bits -/
def bsum (g : Nat → Bool) : Nat → Nat
  | 0 => 0
  | n + 1 => 2 ^ n * (if g n = true then 1 else 0) + bsum g n
theorem bsum_lt (g : Nat → Bool) : ∀ n, bsum g n < 2 ^ n
  | 0 => Nat.one_pos
  | n + 1 => by
    have := bsum_lt g n
    unfold bsum
    rw [Nat.pow_succ]
    split <;> omega
theorem bsum_bit (g : Nat → Bool) : ∀ n i, (bsum g n).testBit i = (decide (i < n) && g i)
  | 0, i => by simp [bsum]
  | n + 1, i => by
    unfold bsum
    rw [Nat.testBit_two_pow_mul_add _ (bsum_lt g n), bsum_bit g n i]
    by_cases h : i < n
    · simp [h, show i < n + 1 by omega]
    · by_cases h2 : i = n
      · subst h2
        cases g i <;> simp
      · have h3 : ¬ i < n + 1 := by omega
        have h4 : ∃ k, i - n = k + 1 := ⟨i - n - 1, by omega⟩
        obtain ⟨k, hk⟩ := h4
        simp only [h, h3, hk, if_false, decide_false, Bool.false_and]
        cases g n
        · simp
        · simp [Nat.testBit_succ]
def ofB (g : Nat → Bool) : Int64 := lN (bsum g 64)
theorem tb_ofB (g : Nat → Bool) {i : Nat} (hi : i < 64) : tb (ofB g) i = g i := by
  unfold ofB
  rw [tb_lN hi, bsum_bit]; simp [hi]
theorem ofB_eq {x : Int64} {g : Nat → Bool} (h : ∀ i, i < 64 → tb x i = g i) : x = ofB g := tb_ext fun i hi => by rw [h i hi, tb_ofB g hi]
theorem ofB_congr {g h : Nat → Bool} (e : ∀ i, i < 64 → g i = h i) : ofB g = ofB h := tb_ext fun i hi => by rw [tb_ofB g hi, tb_ofB h hi, e i hi]
noncomputable def pB (P : Prop) : Bool := @decide P (Classical.propDecidable P)
theorem pB_t {P : Prop} : pB P = true ↔ P := by unfold pB; exact @decide_eq_true_iff P (Classical.propDecidable P)
theorem pB_f {P : Prop} : pB P = false ↔ ¬ P := by unfold pB; exact @decide_eq_false_iff_not P (Classical.propDecidable P)
theorem pB_congr {P R : Prop} (h : P ↔ R) : pB P = pB R := by
  cases hr : pB R with
  | true => exact pB_t.mpr (h.mpr (pB_t.mp hr))
  | false => exact pB_f.mpr (fun q => pB_f.mp hr (h.mp q))
/-- is there one below n -/
def anyB (g : Nat → Bool) : Nat → Bool
  | 0 => false
  | n + 1 => anyB g n || g n
theorem anyB_t {g : Nat → Bool} : ∀ {n : Nat}, anyB g n = true ↔ ∃ i, i < n ∧ g i = true
  | 0 => by simp [anyB]
  | n + 1 => by
    unfold anyB
    rw [Bool.or_eq_true, anyB_t]
    constructor
    · rintro (⟨i, h1, h2⟩ | h)
      · exact ⟨i, by omega, h2⟩
      · exact ⟨n, by omega, h⟩
    · rintro ⟨i, h1, h2⟩
      by_cases h : i = n
      · subst h; exact Or.inr h2
      · exact Or.inl ⟨i, by omega, h2⟩
theorem anyB_congr {g h : Nat → Bool} {n : Nat} (e : ∀ i, i < n → g i = h i) : anyB g n = anyB h n := by
  induction n with
  | zero => rfl
  | succ n ih => unfold anyB; rw [ih fun i hi => e i (by omega), e n (by omega)]
/-! the dry spaces -/
def dry (w : Nat → Bool) (n : Nat) : Nat := pcn (fun i => !w i) n
theorem dry_up {w : Nat → Bool} {t n : Nat} (ht : t < n) (hw : w t = false) : dry (va_up w t true) n + 1 = dry w n := by
  unfold dry
  refine (pcn_set (g := fun i => !va_up w t true i) (h := fun i => !w i) (k := t) ht ?_ ?_ ?_).symm
  · simp [va_up]
  · simp [hw]
  · intro i hi; simp [va_up, hi]
