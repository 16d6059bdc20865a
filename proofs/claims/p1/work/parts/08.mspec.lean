def ixB (x : Int32) (n : Nat) : Bool := decide (¬ x < 0 ∧ ¬ nI n ≤ x)
theorem ixB_of {x : Int32} {n : Nat} (hn : n < 2 ^ 31) (h : ixB x n = true) : ∃ j : Nat, j < n ∧ x = nI j := by
  have h := of_decide_eq_true h
  rcases pk_ix x hn with q | q | q
  · exact absurd q h.1
  · exact absurd q h.2
  · exact q
theorem ixB_lo {x : Int32} {n : Nat} (h : x < 0) : ixB x n = false := decide_eq_false (fun q => q.1 h)
theorem ixB_hi {x : Int32} {n : Nat} (h : nI n ≤ x) : ixB x n = false := decide_eq_false (fun q => q.2 h)
theorem ixB_nl {x : Int32} {n : Nat} (h : ¬ x < nI n) : ixB x n = false := ixB_hi (Int32.not_lt.mp h)
theorem ixB_nI {j n : Nat} (hn : n < 2 ^ 31) (hj : j < n) : ixB (nI j) n = true := decide_eq_true ⟨nI_pos (by omega), nI_ge hj hn⟩
/-- what the reference's state keeps to -/
def MOk (u : MSt) : Prop := m_nS u ≤ 64 ∧ m_nV u ≤ 64 ∧ m_nR u ≤ 975 ∧ (∀ j, m_liq u j < 16) ∧ (∀ j, m_fa u j < 64) ∧ (∀ j, m_fb u j < 64) ∧ (∀ j, m_rf u j < 65) ∧ (∀ j, m_rl u j < 16) ∧ (∀ v, v < m_nV u → m_fa u v < m_nS u ∧ m_fb u v < m_nS u ∧ m_fa u v ≠ m_fb u v) ∧ m_te u ≤ 975 ∧ (∀ j, m_seat u j < 4)
def mlets (u : MSt) (v f : Nat) : Bool := if m_seat u v = 2 ∧ m_op u v = false then false else (m_un u v || (m_op u v != decide (f = v + 1)))
def mS (u : MSt) (a : Nat) : Nat → Bool := fun t => decide (t < m_nS u ∧ m_liq u t = a)
def mFl (u : MSt) (a f : Nat) (t : Nat) : Prop := Fl (m_nV u) (m_lev u) (m_fa u) (m_fb u) (fun v => mlets u v f) (mS u a) t
noncomputable def mF (u : MSt) (a f : Nat) : Int64 := ofB (fun i => pB (mFl u a f i))
theorem mFl_lt {u : MSt} (hu : MOk u) {a f t : Nat} (h : mFl u a f t) : t < m_nS u :=
  Fl.lt (fun t ht => (of_decide_eq_true ht).1) (fun v hv => ⟨(hu.2.2.2.2.2.2.2.2.1 v hv).1, (hu.2.2.2.2.2.2.2.2.1 v hv).2.1⟩) h
/-- the wet spaces: the sources among them, and none where the liquid isn't -/
def FI (u : MSt) (a f : Nat) (w : Nat → Bool) : Prop := (∀ t, t < m_nS u → m_liq u t = a → w t = true) ∧ ∀ t, t < m_nS u → w t = true → mFl u a f t
/-- nothing flows over the valves below v -/
def FC (u : MSt) (f : Nat) (w : Nat → Bool) (v : Nat) : Prop := ∀ x, x < v → mlets u x f = true → (w (m_fa u x) = true → m_lev u (m_fb u x) ≤ m_lev u (m_fa u x) → w (m_fb u x) = true) ∧ (w (m_fb u x) = true → m_lev u (m_fa u x) ≤ m_lev u (m_fb u x) → w (m_fa u x) = true)
theorem FC_0 {u : MSt} {f : Nat} {w : Nat → Bool} : FC u f w 0 := fun x hx => absurd hx (Nat.not_lt_zero x)
theorem FC_s {u : MSt} {f v : Nat} {w : Nat → Bool} (h : FC u f w v) (h1 : mlets u v f = true → (w (m_fa u v) = true → m_lev u (m_fb u v) ≤ m_lev u (m_fa u v) → w (m_fb u v) = true) ∧ (w (m_fb u v) = true → m_lev u (m_fa u v) ≤ m_lev u (m_fb u v) → w (m_fa u v) = true)) : FC u f w (v + 1) := by
  intro x hx hL
  by_cases e : x = v
  · subst e; exact h1 hL
  · exact h x (by omega) hL
theorem FI_0 {u : MSt} {a f : Nat} {w : Nat → Bool} (h : ∀ t, t < m_nS u → w t = decide (m_liq u t = a)) : FI u a f w := by
  refine ⟨fun t ht e => by rw [h t ht, decide_eq_true e], fun t ht e => ?_⟩
  rw [h t ht] at e
  exact Fl.src (decide_eq_true ⟨ht, of_decide_eq_true e⟩)
theorem FI_ab {u : MSt} {a f v : Nat} {w : Nat → Bool} (hu : MOk u) (hv : v < m_nV u) (hL : mlets u v f = true) (h : FI u a f w) (hw : w (m_fa u v) = true) (hl : m_lev u (m_fb u v) ≤ m_lev u (m_fa u v)) : FI u a f (va_up w (m_fb u v) true) := by
  obtain ⟨q1, q2, -⟩ := hu.2.2.2.2.2.2.2.2.1 v hv
  refine ⟨fun t ht e => ?_, fun t ht e => ?_⟩
  · unfold va_up; split
    · rfl
    · exact h.1 t ht e
  · by_cases e2 : t = m_fb u v
    · subst e2; exact (Fl.cl v hv hL).1 (h.2 _ q1 hw) hl
    · rw [va_up_ne w true e2] at e; exact h.2 t ht e
theorem FI_ba {u : MSt} {a f v : Nat} {w : Nat → Bool} (hu : MOk u) (hv : v < m_nV u) (hL : mlets u v f = true) (h : FI u a f w) (hw : w (m_fb u v) = true) (hl : m_lev u (m_fa u v) ≤ m_lev u (m_fb u v)) : FI u a f (va_up w (m_fa u v) true) := by
  obtain ⟨q1, q2, -⟩ := hu.2.2.2.2.2.2.2.2.1 v hv
  refine ⟨fun t ht e => ?_, fun t ht e => ?_⟩
  · unfold va_up; split
    · rfl
    · exact h.1 t ht e
  · by_cases e2 : t = m_fa u v
    · subst e2; exact (Fl.cl v hv hL).2 (h.2 _ q2 hw) hl
    · rw [va_up_ne w true e2] at e; exact h.2 t ht e
theorem FI_end {u : MSt} {a f : Nat} {w : Nat → Bool} {x : Int64} (hu : MOk u) (h : FI u a f w) (hc : FC u f w (m_nV u)) (hx : ∀ j, tb x j = (decide (j < m_nS u) && w j)) : x = mF u a f := by
  refine ofB_eq fun i _ => ?_
  rw [hx i]
  by_cases hi : i < m_nS u
  · cases hw : w i with
    | true => simp [hi]; exact pB_t.mpr (h.2 i hi hw)
    | false =>
      simp
      refine pB_f.mpr fun q => ?_
      have := q (fun t => t < m_nS u ∧ w t = true) (fun t ht => ⟨(of_decide_eq_true ht).1, h.1 t (of_decide_eq_true ht).1 (of_decide_eq_true ht).2⟩) (fun v hv hL => ?_)
      · rw [hw] at this; exact absurd this.2 (by decide)
      · obtain ⟨q1, q2, -⟩ := hu.2.2.2.2.2.2.2.2.1 v hv
        exact ⟨fun z hl => ⟨q2, (hc v hv hL).1 z.2 hl⟩, fun z hl => ⟨q1, (hc v hv hL).2 z.2 hl⟩⟩
  · simp [hi]
    exact pB_f.mpr fun q => hi (mFl_lt hu q)
theorem up_lt {β : Type} {w h : Nat → β} {i : Nat} {x : β} (hw : ∀ t, t < i → w t = h t) (hx : x = h i) : ∀ t, t < i + 1 → va_up w i x t = h t := by
  intro t ht
  unfold va_up
  split
  · rename_i e; rw [e]; exact hx
  · exact hw t (by omega)
theorem bits_t {x : Int64} {w : Nat → Bool} {i : Nat} (h : ∀ j, tb x j = (decide (j < i) && w j)) (hi : i < 64) (hw : w i = true) : ∀ j, tb (x ||| bt i) j = (decide (j < i + 1) && w j) := by
  intro j
  rw [tb_or, tb_bt hi, h j]
  by_cases e : j = i
  · subst e; simp [hw]
  · by_cases e2 : j < i
    · simp [e, e2, show j < i + 1 by omega]
    · simp [e, e2, show ¬ j < i + 1 by omega]
theorem bits_f {x : Int64} {w : Nat → Bool} {i : Nat} (h : ∀ j, tb x j = (decide (j < i) && w j)) (hw : w i = false) : ∀ j, tb x j = (decide (j < i + 1) && w j) := by
  intro j
  rw [h j]
  by_cases e : j = i
  · subst e; simp [hw]
  · by_cases e2 : j < i
    · simp [e2, show j < i + 1 by omega]
    · simp [e2, show ¬ j < i + 1 by omega]
theorem bits_0 {w : Nat → Bool} : ∀ j, tb 0 j = (decide (j < 0) && w j) := fun j => by rw [tb_0]; simp
def mCb (u : MSt) (x : Int64) (f v : Nat) : Bool := (tb x (m_fa u v) != tb x (m_fb u v)) && !mlets u v f && decide ((if tb x (m_fa u v) = true then m_lev u (m_fb u v) else m_lev u (m_fa u v)) ≤ (if tb x (m_fa u v) = true then m_lev u (m_fa u v) else m_lev u (m_fb u v)))
def mC (u : MSt) (x : Int64) (f : Nat) : Int64 := ofB (fun v => decide (v < m_nV u) && mCb u x f v)
def mTh (u : MSt) (a : Nat) : Bool := anyB (fun t => decide (m_liq u t = a)) (m_nS u) && decide (0 < a)
theorem tb_shr1 (x : Int64) {k : Nat} (hk : k < 64) : ((x.toUInt64 >>> ((nI k).toInt64.toUInt64 &&& Int64.toUInt64 63)).toInt64 &&& 1) = 1 ↔ tb x k = true := by
  obtain ⟨n, hn, rfl⟩ := wb_of x
  rw [wb_bit hn hk, tb_lN hk, show (1 : Int64) = lN 1 from rfl, Nat.testBit_eq_decide_div_mod_eq]
  constructor
  · intro h
    rcases Nat.mod_two_eq_zero_or_one (n / 2 ^ k) with q | q
    · rw [q] at h; exact absurd h (by decide)
    · simp [q]
  · intro h
    rw [of_decide_eq_true h]
theorem dry_go {a b c : Nat} {mo : Bool} (h : (mo = true → b < c) ∧ b ≤ c) (e : a + 1 = b) : (true = true → a < c) ∧ a ≤ c := ⟨fun _ => by omega, by omega⟩
theorem dry_39 {a b n : Nat} {mo mo2 : Bool} (h : (mo2 = true → a < b) ∧ a ≤ b) (hmo : mo = true) (hm : 2 * b + (if mo = true then 1 else 0) < n + 1) : 2 * a + (if mo2 = true then 1 else 0) < n := by
  rw [if_pos hmo] at hm
  cases mo2 with
  | true => have := h.1 rfl; simp; omega
  | false => have := h.2; simp; omega
theorem mCb_t1 {u : MSt} {x : Int64} {f v : Nat} (ha : tb x (m_fa u v) = true) (hne : ¬ tb x (m_fa u v) = tb x (m_fb u v)) (hL : mlets u v f = false) (hl : m_lev u (m_fb u v) ≤ m_lev u (m_fa u v)) : mCb u x f v = true := by
  have hb : tb x (m_fb u v) = false := ts_nt (fun q => hne (ha.trans q.symm))
  unfold mCb; rw [ha, hb, hL, if_pos rfl, if_pos rfl, decide_eq_true hl]; rfl
theorem mCb_t0 {u : MSt} {x : Int64} {f v : Nat} (ha : tb x (m_fa u v) = false) (hne : ¬ tb x (m_fa u v) = tb x (m_fb u v)) (hL : mlets u v f = false) (hl : m_lev u (m_fa u v) ≤ m_lev u (m_fb u v)) : mCb u x f v = true := by
  have hb : tb x (m_fb u v) = true := ts_nf (fun q => hne (ha.trans q.symm))
  unfold mCb; rw [ha, hb, hL, if_neg (by decide), if_neg (by decide), decide_eq_true hl]; rfl
theorem mCb_f1 {u : MSt} {x : Int64} {f v : Nat} (ha : tb x (m_fa u v) = true) (hl : ¬ m_lev u (m_fb u v) ≤ m_lev u (m_fa u v)) : mCb u x f v = false := by
  unfold mCb; rw [ha, if_pos rfl, if_pos rfl, decide_eq_false hl, Bool.and_false]
theorem mCb_f0 {u : MSt} {x : Int64} {f v : Nat} (ha : tb x (m_fa u v) = false) (hl : ¬ m_lev u (m_fa u v) ≤ m_lev u (m_fb u v)) : mCb u x f v = false := by
  unfold mCb; rw [ha, if_neg (by decide), if_neg (by decide), decide_eq_false hl, Bool.and_false]
theorem mCb_fe {u : MSt} {x : Int64} {f v : Nat} (h : tb x (m_fa u v) = tb x (m_fb u v)) : mCb u x f v = false := by
  unfold mCb; rw [h]; simp
theorem mCb_fl {u : MSt} {x : Int64} {f v : Nat} (h : mlets u v f = true) : mCb u x f v = false := by
  unfold mCb; rw [h]; simp
def M_space (u : MSt) (x : Int32) : Int32 × MSt :=
  if x < 0 ∨ ¬ x < nI 16 then (-1, m_s_th u 0) else if m_nS u = 64 then (-2, m_s_th u 0)
  else (nI (m_nS u), m_s_th (m_s_nR (m_s_nS (m_s_lev (m_s_liq u (va_up (m_liq u) (m_nS u) x.toNatClampNeg)) (va_up (m_lev u) (m_nS u) 0)) (m_nS u + 1)) 0) 0)
def M_valve (u : MSt) (x y k : Int32) (o : Bool) : Int32 × MSt :=
  if ixB x (m_nS u) = false ∨ ixB y (m_nS u) = false ∨ x = y ∨ k < nI 1 ∨ ¬ k ≤ nI 2 then (-1, m_s_th u 0) else if m_nV u = 64 then (-2, m_s_th u 0)
  else (nI (m_nV u), m_s_th (m_s_nR (m_s_nV (m_s_un (m_s_op (m_s_seat (m_s_fb (m_s_fa u (va_up (m_fa u) (m_nV u) x.toNatClampNeg)) (va_up (m_fb u) (m_nV u) y.toNatClampNeg)) (va_up (m_seat u) (m_nV u) k.toNatClampNeg)) (va_up (m_op u) (m_nV u) o)) (va_up (m_un u) (m_nV u) false)) (m_nV u + 1)) 0) 0)
def M_level (u : MSt) (x : Int32) (h : Int64) : Bool × MSt :=
  if ixB x (m_nS u) = false then (false, m_s_th u 0) else (true, m_s_th (m_s_nR (m_s_lev u (va_up (m_lev u) x.toNatClampNeg h)) 0) 0)
def M_may (u : MSt) (x y : Int32) : Bool × MSt :=
  if (x ≤ 0 ∨ nI 16 ≤ x ∨ y ≤ 0 ∨ nI 16 ≤ y ∨ x = y) ∨ m_may u (16 * x.toNatClampNeg + y.toNatClampNeg) = true then (false, m_s_th u 0)
  else (true, m_s_th (m_s_nR (m_s_may u (va_up (va_up (m_may u) (16 * x.toNatClampNeg + y.toNatClampNeg) true) (16 * y.toNatClampNeg + x.toNatClampNeg) true)) 0) 0)
def M_culprit (u : MSt) (x : Int32) : Int32 := if m_gu u = true ∧ ¬ x < 0 ∧ ¬ nI 4 ≤ x then nI (m_cul u x.toNatClampNeg) else -1
def M_unsure (u : MSt) (x : Int32) (b : Bool) : Bool × MSt :=
  if ixB x (m_nV u) = false then (false, m_s_th u 1) else if m_un u x.toNatClampNeg = b then (false, m_s_th u 0)
  else (true, m_s_th (m_s_nR (m_s_un u (va_up (m_un u) x.toNatClampNeg b)) 0) 0)
/-- the places j .. k - 1 hold what stood one behind -/
def sh {β : Type} (g : Nat → β) (j k : Nat) : Nat → β := fun t => if j ≤ t ∧ t < k then g (t + 1) else g t
theorem sh_0 {β : Type} {g : Nat → β} {j : Nat} : g = sh g j j := by
  funext t; unfold sh; rw [if_neg (by omega)]
theorem sh_s {β : Type} {g g1 : Nat → β} {j k : Nat} (h : g1 = sh g j k) (hk : j ≤ k) : va_up g1 k (g1 (k + 1)) = sh g j (k + 1) := by
  funext t
  subst h
  unfold va_up sh
  by_cases e : t = k
  · subst e
    rw [if_pos rfl, if_neg (by omega), if_pos (by omega)]
  · rw [if_neg e]
    by_cases e2 : j ≤ t ∧ t < k
    · rw [if_pos e2, if_pos (by omega)]
    · rw [if_neg e2, if_neg (by omega)]
def M_drop (u : MSt) (x : Int32) : Bool × MSt :=
  if ixB x (m_nR u) = false then (false, m_s_th u 0)
  else (true, m_s_th (m_s_rc (m_s_rw (m_s_rl (m_s_rf (m_s_nR u (m_nR u - 1)) (sh (m_rf u) x.toNatClampNeg (m_nR u - 1))) (sh (m_rl u) x.toNatClampNeg (m_nR u - 1))) (sh (m_rw u) x.toNatClampNeg (m_nR u - 1))) (sh (m_rc u) x.toNatClampNeg (m_nR u - 1))) 0)
/-- the place with so many set places below it -/
def nthB (g : Nat → Bool) (k : Nat) : Nat → Option Nat
  | 0 => none
  | n + 1 => match nthB g k n with
    | some v => some v
    | none => if g n = true ∧ pcn g n = k then some n else none
theorem nthB_n {g : Nat → Bool} {k n : Nat} (h : nthB g k n = none) (h2 : g n = true → pcn g n = k → False) : nthB g k (n + 1) = none := by
  unfold nthB; rw [h]; simp only []; rw [if_neg (fun q => h2 q.1 q.2)]
theorem nthB_up {g : Nat → Bool} {k n v : Nat} (h : nthB g k n = some v) : ∀ d, nthB g k (n + d) = some v
  | 0 => h
  | d + 1 => by show nthB g k ((n + d) + 1) = _; unfold nthB; rw [nthB_up h d]
theorem nthB_at {g : Nat → Bool} {k v n : Nat} (h : nthB g k v = none) (hn : v + 1 ≤ n) (hg : g v = true) (hk : pcn g v = k) : nthB g k n = some v := by
  have h1 : nthB g k (v + 1) = some v := by unfold nthB; rw [h]; simp only []; rw [if_pos ⟨hg, hk⟩]
  have := nthB_up h1 (n - (v + 1))
  rwa [show v + 1 + (n - (v + 1)) = n by omega] at this
def oI (o : Option Nat) : Int32 := match o with
  | some v => nI v
  | none => -1
def rowN (u : MSt) (i k : Nat) : Int32 := if k = 0 then nI (m_rf u i) else if k = 1 then nI (m_rl u i) else if k = 2 then nI (pcn (tb (m_rw u i)) 64) else if k = 3 then nI (pcn (tb (m_rc u i)) 64) else oI (nthB (tb (m_rc u i)) (k - 4) (m_nV u))
def M_row (u : MSt) (x y : Int32) : Int32 := if ixB x (m_nR u) = false ∨ y < 0 then -1 else rowN u x.toNatClampNeg y.toNatClampNeg
/-- the rows x and y have a space t in common and may not meet -/
def mM (u : MSt) (t x y : Nat) : Prop := tb (m_rw u x) t = true ∧ tb (m_rw u y) t = true ∧ m_may u (16 * m_rl u x + m_rl u y) = false
theorem mM_28 {P : Nat → Prop} {j k : Nat} (h : ∀ y, y < k → j < y → ¬ P y) (h2 : ¬ P k) : ∀ y, y < k + 1 → j < y → ¬ P y := by
  intro y h1 h3
  by_cases e : y = k
  · subst e; exact h2
  · exact h y (by omega) h3
theorem mM_13 {P : Nat → Nat → Prop} {a j k n : Nat} (h : ∀ x, x < j → a ≤ x → ∀ y, x < y → y < n → ¬ P x y) (h2 : ∀ y, y < k → j < y → ¬ P j y) (hk : n ≤ k) : ∀ x, x < j + 1 → a ≤ x → ∀ y, x < y → y < n → ¬ P x y := by
  intro x h1 h3 y h4 h5
  by_cases e : x = j
  · subst e; exact h2 y (by omega) h4
  · exact h x (by omega) h3 y h4 h5
theorem mM_2 {P : Nat → Nat → Nat → Prop} {a s j n : Nat} (h : ∀ t, t < s → ∀ x y, a ≤ x → x < y → y < n → ¬ P t x y) (h2 : ∀ x, x < j → a ≤ x → ∀ y, x < y → y < n → ¬ P s x y) (hj : n ≤ j) : ∀ t, t < s + 1 → ∀ x y, a ≤ x → x < y → y < n → ¬ P t x y := by
  intro t h1 x y h3 h4 h5
  by_cases e : t = s
  · subst e; exact h2 x (by omega) h3 y h4 h5
  · exact h t (by omega) x y h3 h4 h5
theorem mlets_cg {u v : MSt} {x f : Nat} (h7 : m_seat u = m_seat v) (h8 : m_op u = m_op v) (h9 : m_un u = m_un v) : mlets u x f = mlets v x f := by
  unfold mlets; rw [h7, h8, h9]
theorem mF_cg {u v : MSt} {a f : Nat} (h1 : m_nS u = m_nS v) (h2 : m_liq u = m_liq v) (h3 : m_nV u = m_nV v) (h4 : m_lev u = m_lev v) (h5 : m_fa u = m_fa v) (h6 : m_fb u = m_fb v) (h7 : m_seat u = m_seat v) (h8 : m_op u = m_op v) (h9 : m_un u = m_un v) : mF u a f = mF v a f := by
  have e1 : (fun x => mlets u x f) = fun x => mlets v x f := funext fun x => mlets_cg h7 h8 h9
  have e2 : mS u a = mS v a := by unfold mS; rw [h1, h2]
  unfold mF mFl
  rw [e1, e2, h3, h4, h5, h6]
theorem mC_cg {u v : MSt} {x : Int64} {f : Nat} (h3 : m_nV u = m_nV v) (h4 : m_lev u = m_lev v) (h5 : m_fa u = m_fa v) (h6 : m_fb u = m_fb v) (h7 : m_seat u = m_seat v) (h8 : m_op u = m_op v) (h9 : m_un u = m_un v) : mC u x f = mC v x f := by
  unfold mC
  refine ofB_congr fun i _ => ?_
  unfold mCb
  rw [mlets_cg h7 h8 h9, h3, h4, h5, h6]
theorem mTh_cg {u v : MSt} {a : Nat} (h1 : m_nS u = m_nS v) (h2 : m_liq u = m_liq v) : mTh u a = mTh v a := by
  unfold mTh; rw [h1, h2]
