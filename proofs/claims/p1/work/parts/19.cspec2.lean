def k_addV1 (u : CSt) (a b : Nat) (tw o : Bool) : CSt := k_s_ends (k_s_e2 (k_s_e1 (k_s_dbl (k_s_opn (k_s_nV u (k_nV u + 1)) (wth (k_opn u) (k_nV u) o)) (if tw = true then k_dbl u ||| bt (k_nV u) else k_dbl u)) (va_up (k_e1 u) (k_nV u) a)) (va_up (k_e2 u) (k_nV u) b)) (va_up (va_up (k_ends u) a (k_ends u a ||| bt (k_nV u))) b ((va_up (k_ends u) a (k_ends u a ||| bt (k_nV u))) b ||| bt (k_nV u)))
def k_addV (u : CSt) (a b : Nat) (tw o : Bool) : CSt := k_s_fal (k_addV1 u a b tw o) (kms (k_addV1 u a b tw o) (k_nV u))
/-- what raiseTo makes of 'falls' -/
def krs (u : CSt) (n : Nat) : Nat → (Nat → Int64)
  | 0 => k_fal u
  | x + 1 => if tb (k_ends u n) x = true then kms (k_s_fal u (krs u n x)) x else krs u n x
/-- a way over valve x -/
def lw (u : CSt) (g : Nat → Int64) (x a b : Nat) : Nat → Int64 := if tb (k_fal u a) x = true then va_up g a (g a ||| bt b) else g
theorem lw_cg {u v : CSt} {g : Nat → Int64} {x a b : Nat} (h : k_fal u = k_fal v) : lw u g x a b = lw v g x a b := by unfold lw; rw [h]
def kWs (u : CSt) (L : Int64) (g : Nat → Int64) : Nat → (Nat → Int64)
  | 0 => g
  | x + 1 => if tb L x = true then lw u (lw u (kWs u L g x) x (k_e1 u x) (k_e2 u x)) x (k_e2 u x) (k_e1 u x) else kWs u L g x
/-- the flood by the ways -/
def kFl (w : Nat → Int64) (s : Int64) (t : Nat) : Prop := ∀ X : Nat → Prop, (∀ i, tb s i = true → X i) → (∀ i j, X i → tb (w i) j = true → X j) → X t
noncomputable def kF (u : CSt) (a : Nat) : Int64 := ofB (fun i => pB (kFl (k_ways u) (k_src u a) i))
theorem kF_cg {u v : CSt} {a : Nat} (h1 : k_ways u = k_ways v) (h2 : k_src u = k_src v) : kF u a = kF v a := by unfold kF; rw [h1, h2]
/-- the worklist's invariant -/
def KI (w : Nat → Int64) (s x l : Int64) (n : Nat) : Prop := (∀ i, tb s i = true → tb x i = true) ∧ (∀ i, tb l i = true → tb x i = true) ∧ (∀ i, tb x i = true → kFl w s i) ∧ (∀ i, tb x i = true → tb l i = false → ∀ j, tb (w i) j = true → tb x j = true) ∧ pcn (fun i => tb x i && !tb l i) 64 = n
theorem KI_0 {w : Nat → Int64} {s : Int64} : KI w s s s 0 :=
  ⟨fun _ h => h, fun _ h => h, fun i h X h1 _ => h1 i h, fun i h1 h2 => absurd (h1.symm.trans h2) (by decide), pcn_zero fun i _ => by cases tb s i <;> rfl⟩
theorem KI_s {w : Nat → Int64} {s x l : Int64} {n : Nat} (h : KI w s x l n) (hl : ¬ l = 0) : KI w s (x ||| (w (lowN l) &&& (x ^^^ (-1)))) ((l &&& (l - 1)) ||| (w (lowN l) &&& (x ^^^ (-1)))) (n + 1) := by
  obtain ⟨h1, h2, h3, h4, h5⟩ := h
  obtain ⟨q1, q2, q3, q4⟩ := lowN_spec l hl
  have bx : ∀ i, tb (x ||| (w (lowN l) &&& (x ^^^ (-1)))) i = (tb x i || tb (w (lowN l)) i) := by
    intro i; rw [tb_or, tb_andn]; cases tb x i <;> simp
  have bl : ∀ i, tb ((l &&& (l - 1)) ||| (w (lowN l) &&& (x ^^^ (-1)))) i = ((tb l i && decide (i ≠ lowN l)) || (tb (w (lowN l)) i && !tb x i)) := by
    intro i; rw [tb_or, tb_andn, q4]
  refine ⟨fun i hi => by rw [bx, h1 i hi]; rfl, fun i hi => ?_, fun i hi => ?_, fun i hi hn j hj => ?_, ?_⟩
  · rw [bl] at hi; rw [bx]
    rcases Bool.or_eq_true_iff.mp hi with z | z
    · rw [h2 i (Bool.and_eq_true_iff.mp z).1]; rfl
    · rw [(Bool.and_eq_true_iff.mp z).1]; simp
  · rw [bx] at hi
    rcases Bool.or_eq_true_iff.mp hi with z | z
    · exact h3 i z
    · intro X a b; exact b (lowN l) i (h3 _ (h2 _ q2) X a b) z
  · rw [bx] at hi; rw [bl] at hn; rw [bx]
    by_cases e : i = lowN l
    · subst e; rw [hj]; simp
    · have hxi : tb x i = true := by
        rcases Bool.or_eq_true_iff.mp hi with z | z
        · exact z
        · cases hx : tb x i with
          | true => rfl
          | false => rw [z, hx] at hn; simp at hn
      have hli : tb l i = false := by
        cases hz : tb l i with
        | false => rfl
        | true => rw [hz] at hn; simp [e] at hn
      rw [h4 i hxi hli j hj]; rfl
  · rw [← h5]
    refine pcn_set (k := lowN l) q1 ?_ ?_ ?_
    · rw [q2, h2 _ q2]; rfl
    · rw [bx, bl, h2 _ q2, q2]; simp
    · intro i hi
      rw [bx, bl]
      cases hz : tb x i with
      | true => simp [hi]
      | false =>
        have : tb l i = false := by
          cases hy : tb l i with
          | false => rfl
          | true => rw [h2 i hy] at hz; cases hz
        rw [this]
        cases tb (w (lowN l)) i <;> simp
theorem KI_e {w : Nat → Int64} {s x l : Int64} {n : Nat} (h : KI w s x l n) (he : l = 0 ∨ 64 ≤ n) : x = ofB (fun i => pB (kFl w s i)) := by
  obtain ⟨h1, h2, h3, h4, h5⟩ := h
  have hl : ∀ i, tb l i = false := by
    rcases he with z | z
    · intro i; rw [z, tb_0]
    · intro i
      rcases Nat.lt_or_ge i 64 with q | q
      · have hle := pcn_le (fun i => tb x i && !tb l i) 64
        have := pcn_full (show pcn (fun i => tb x i && !tb l i) 64 = 64 by omega) i q
        simp at this; exact this.2
      · exact tb_big q
  refine ofB_eq fun i _ => ?_
  cases hx : tb x i with
  | true => exact (pB_t.mpr (h3 i hx)).symm
  | false =>
    refine (pB_f.mpr fun q => ?_).symm
    have := q (fun i => tb x i = true) h1 (fun i j a b => h4 i a (hl i) j b)
    rw [hx] at this; cases this
/-! cutOf: the places of x in turn -/
def cX (g : Nat → Int64) (x : Int64) : Nat → Int64
  | 0 => 0
  | s + 1 => if tb x s = true then cX g x s ^^^ g s else cX g x s
def cO (g : Nat → Int64) (x : Int64) : Nat → Int64
  | 0 => 0
  | s + 1 => if tb x s = true then cO g x s ||| g s else cO g x s
def kC (u : CSt) (x : Int64) : Int64 := (cX (k_ends u) x 64 &&& cO (k_fal u) x 64) &&& (k_lett u ^^^ (-1))
theorem kC_cg {u v : CSt} {x : Int64} (h1 : k_ends u = k_ends v) (h2 : k_fal u = k_fal v) (h3 : k_lett u = k_lett v) : kC u x = kC v x := by unfold kC; rw [h1, h2, h3]
theorem cX_gap {g : Nat → Int64} {x : Int64} {a : Nat} : ∀ {b : Nat}, a ≤ b → (∀ i, a ≤ i → i < b → tb x i = false) → cX g x b = cX g x a
  | 0, h, _ => by rw [show a = 0 by omega]
  | b + 1, h, hz => by
    by_cases e : a = b + 1
    · rw [e]
    · show (if tb x b = true then _ else cX g x b) = _
      rw [if_neg (fun q => absurd (q.symm.trans (hz b (by omega) (by omega))) (by decide))]
      exact cX_gap (by omega) fun i h1 h2 => hz i h1 (by omega)
theorem cO_gap {g : Nat → Int64} {x : Int64} {a : Nat} : ∀ {b : Nat}, a ≤ b → (∀ i, a ≤ i → i < b → tb x i = false) → cO g x b = cO g x a
  | 0, h, _ => by rw [show a = 0 by omega]
  | b + 1, h, hz => by
    by_cases e : a = b + 1
    · rw [e]
    · show (if tb x b = true then _ else cO g x b) = _
      rw [if_neg (fun q => absurd (q.symm.trans (hz b (by omega) (by omega))) (by decide))]
      exact cO_gap (by omega) fun i h1 h2 => hz i h1 (by omega)
def CI (g h : Nat → Int64) (x e f l : Int64) (n : Nat) : Prop := ∃ s, n ≤ s ∧ s ≤ 64 ∧ (∀ i, tb l i = (tb x i && decide (s ≤ i))) ∧ e = cX g x s ∧ f = cO h x s
theorem CI_0 {g h : Nat → Int64} {x : Int64} : CI g h x 0 0 x 0 := ⟨0, Nat.le_refl _, by omega, fun i => by simp, rfl, rfl⟩
theorem CI_s {g h : Nat → Int64} {x e f l : Int64} {n : Nat} (H : CI g h x e f l n) (hl : ¬ l = 0) : CI g h x (e ^^^ g (lowN l)) (f ||| h (lowN l)) (l &&& (l - 1)) (n + 1) := by
  obtain ⟨s, h1, h2, h3, h4, h5⟩ := H
  obtain ⟨q1, q2, q3, q4⟩ := lowN_spec l hl
  have hk : tb x (lowN l) = true ∧ s ≤ lowN l := by
    have := h3 (lowN l); rw [q2] at this; simpa using this.symm
  have hg : ∀ i, s ≤ i → i < lowN l → tb x i = false := by
    intro i a b
    have := h3 i; rw [q3 i b] at this; simpa [a] using this.symm
  refine ⟨lowN l + 1, by omega, by omega, fun i => ?_, ?_, ?_⟩
  · rw [q4, h3]
    by_cases e : i = lowN l
    · subst e; simp
    · by_cases e2 : s ≤ i
      · by_cases e3 : lowN l + 1 ≤ i
        · simp [e, e2, e3]
        · rw [hg i e2 (by omega)]; simp
      · simp [e2]; intro _; omega
  · show _ = if tb x (lowN l) = true then cX g x (lowN l) ^^^ g (lowN l) else _
    rw [if_pos hk.1, cX_gap hk.2 hg, h4]
  · show _ = if tb x (lowN l) = true then cO h x (lowN l) ||| h (lowN l) else _
    rw [if_pos hk.1, cO_gap hk.2 hg, h5]
theorem CI_e {g h : Nat → Int64} {x e f l : Int64} {n : Nat} (H : CI g h x e f l n) (he : l = 0 ∨ 64 ≤ n) : e = cX g x 64 ∧ f = cO h x 64 := by
  obtain ⟨s, h1, h2, h3, h4, h5⟩ := H
  have hg : ∀ i, s ≤ i → i < 64 → tb x i = false := by
    intro i a b
    rcases he with z | z
    · have := h3 i; rw [z, tb_0] at this; simpa [a] using this.symm
    · omega
  exact ⟨by rw [h4, cX_gap h2 hg], by rw [h5, cO_gap h2 hg]⟩
/-! memberAt -/
theorem MA_0 {x : Int64} : ∀ i, tb x i = (tb x i && decide (0 ≤ pcn (tb x) i)) := fun i => by simp
theorem MA_low {x l : Int64} {n : Nat} (h : ∀ i, tb l i = (tb x i && decide (n ≤ pcn (tb x) i))) (hn : n < pcn (tb x) 64) : ¬ l = 0 ∧ tb x (lowN l) = true ∧ pcn (tb x) (lowN l) = n ∧ lowN l < 64 ∧ ∀ i, tb (l &&& (l - 1)) i = (tb x i && decide (n + 1 ≤ pcn (tb x) i)) := by
  obtain ⟨a, a1, a2, a3⟩ := pcn_inv hn
  have hl : ¬ l = 0 := tb_ne0.mpr ⟨a, a1, by rw [h a, a2, a3]; simp⟩
  obtain ⟨q1, q2, q3, q4⟩ := lowN_spec l hl
  have hk : tb x (lowN l) = true ∧ n ≤ pcn (tb x) (lowN l) := by
    have := h (lowN l); rw [q2] at this; simpa using this.symm
  have he : lowN l = a := by
    rcases Nat.lt_trichotomy (lowN l) a with z | z | z
    · have := pcn_lt hk.1 z; omega
    · exact z
    · have := q3 a z; rw [h a, a2, a3] at this; simp at this
  refine ⟨hl, hk.1, by rw [he]; exact a3, q1, fun i => ?_⟩
  rw [q4, h i]
  cases hx : tb x i with
  | false => rfl
  | true =>
    by_cases e : i = lowN l
    · subst e; rw [he, a3]; simp
    · by_cases e2 : n ≤ pcn (tb x) i
      · have : pcn (tb x) i ≠ n := fun z => e (by rw [he]; exact pcn_eq hx a2 (z.trans a3.symm))
        simp [e, e2]; omega
      · simp [e2]; omega
theorem nthB_p {g : Nat → Bool} {k p : Nat} (hp : pcn g p = k) : ∀ {n : Nat}, n ≤ p → nthB g k n = none
  | 0, _ => rfl
  | n + 1, h => nthB_n (nthB_p hp (by omega)) fun a b => by have := pcn_lt a (show n < p by omega); omega
theorem nthB_is {g : Nat → Bool} {k p n : Nat} (hg : g p = true) (hp : pcn g p = k) (hn : p < n) : nthB g k n = some p := nthB_at (nthB_p hp (Nat.le_refl _)) hn hg hp
theorem nthB_no {g : Nat → Bool} {k : Nat} : ∀ {n : Nat}, pcn g n ≤ k → nthB g k n = none
  | 0, _ => rfl
  | n + 1, h => nthB_n (nthB_no (Nat.le_trans (pcn_mono (Nat.le_succ n)) h)) fun a b => by have := pcn_lt a (show n < n + 1 by omega); omega
/-! clashes, meetings, leastClashing -/
def kcl (u : CSt) (a : Nat) (x : Int64) (o : Nat) : Bool := decide (1 ≤ o) && (!decide (o = a) && (!decide ((k_fls u o &&& x) = 0) && !t32 (k_fr u a) o))
theorem kcl_t {u : CSt} {a o : Nat} {x : Int64} : kcl u a x o = true ↔ 1 ≤ o ∧ ¬ o = a ∧ ¬ (k_fls u o &&& x) = 0 ∧ t32 (k_fr u a) o = false := by
  unfold kcl; simp
theorem any_n {g : Nat → Bool} {n : Nat} (h : anyB g n = false) (h2 : g n = false) : anyB g (n + 1) = false := by unfold anyB; rw [h, h2]; rfl
theorem any_y {g : Nat → Bool} {n i : Nat} (h : g i = true) (hi : i < n) : anyB g n = true := anyB_t.mpr ⟨i, hi, h⟩
def kM (u : CSt) (a b t : Nat) : Prop := t32 (k_fr u a) b = false ∧ tb (k_fls u a) t = true ∧ tb (k_fls u b) t = true
def kLC (u : CSt) (p f o : Nat) : Prop := tb (k_fls u o) p = true ∧ ¬ o = f ∧ (if f = 0 then anyB (kcl u o (bt p)) 16 = true else t32 (k_fr u o) f = false)
theorem cpy_nI (g : Nat → Nat) (k n : Nat) : va_cpy (fun j => nI (g j)) (fun j => nI (g j)) (k + 1) k n = fun j => nI (sh g k (k + n) j) := by
  funext j
  unfold va_cpy sh
  by_cases e : k ≤ j ∧ j < k + n
  · rw [if_pos e, if_pos e, show k + 1 + (j - k) = j + 1 by omega]
  · rw [if_neg e, if_neg e]
theorem cpy_L (g : Nat → Int64) (k n : Nat) : va_cpy g g (k + 1) k n = sh g k (k + n) := by
  funext j
  unfold va_cpy sh
  by_cases e : k ≤ j ∧ j < k + n
  · rw [if_pos e, if_pos e, show k + 1 + (j - k) = j + 1 by omega]
  · rw [if_neg e, if_neg e]
