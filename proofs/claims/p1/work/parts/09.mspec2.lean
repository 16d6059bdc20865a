/-! set -/
def mt (u : MSt) (i j : Nat) : Bool := decide (m_rf u j = i + 1) || (tb (m_rw u j) (m_fa u i) || tb (m_rw u j) (m_fb u i))
noncomputable def sF (u v : MSt) (j : Nat) : Int64 := mF v (m_rl u j) (m_rf u j)
noncomputable def sC (u v : MSt) (j : Nat) : Int64 := mC v (mF v (m_rl u j) (m_rf u j)) (m_rf u j)
def mK (u : MSt) (g : Nat → Int64) (x y : Nat) : Prop := m_rf u x = m_rf u y ∧ ¬ (g x &&& g y) = 0 ∧ m_may u (16 * m_rl u x + m_rl u y) = false
theorem up_if {β : Type} {g r F : Nat → β} {t : Nat → Bool} {k : Nat} (h : ∀ j, g j = if j < k ∧ t j = true then F j else r j) (ht : t k = true) : ∀ j, va_up g k (F k) j = if j < k + 1 ∧ t j = true then F j else r j := by
  intro j
  unfold va_up
  by_cases e : j = k
  · subst e; rw [if_pos rfl, if_pos ⟨by omega, ht⟩]
  · rw [if_neg e, h j]
    by_cases e2 : j < k ∧ t j = true
    · rw [if_pos e2, if_pos ⟨by omega, e2.2⟩]
    · rw [if_neg e2, if_neg (fun q => e2 ⟨by omega, q.2⟩)]
theorem up_no {β : Type} {g r F : Nat → β} {t : Nat → Bool} {k : Nat} (h : ∀ j, g j = if j < k ∧ t j = true then F j else r j) (ht : t k = false) : ∀ j, g j = if j < k + 1 ∧ t j = true then F j else r j := by
  intro j
  rw [h j]
  by_cases e : j = k
  · subst e; rw [if_neg (by omega), if_neg (fun q => absurd (q.2.symm.trans ht) (by decide))]
  · by_cases e2 : j < k ∧ t j = true
    · rw [if_pos e2, if_pos ⟨by omega, e2.2⟩]
    · rw [if_neg e2, if_neg (fun q => e2 ⟨by omega, q.2⟩)]
theorem up_at {β : Type} {g r F : Nat → β} {t : Nat → Bool} {k : Nat} (h : ∀ j, g j = if j < k ∧ t j = true then F j else r j) : g k = r k := by
  rw [h k, if_neg (by omega)]
theorem MOk_set {u : MSt} {o : Nat → Bool} {g3 g4 : Nat → Int64} {t : Nat} {w : Nat → Bool} (hu : MOk u) (ht : t ≤ 975) : MOk (m_mk (m_liq u) (m_lev u) (m_nS u) (m_fa u) (m_fb u) (m_seat u) o (m_un u) (m_nV u) (m_may u) (m_nR u) (m_rf u) (m_rl u) g3 g4 (m_cul u) (m_gu u) t 0 w) := by
  obtain ⟨k1, k2, k3, k4, k5, k6, k7, k8, k9, k10, k11⟩ := hu
  exact ⟨k1, k2, k3, k4, k5, k6, k7, k8, k9, ht, k11⟩
section KK
variable {P : Nat → Nat → Prop} {n j k : Nat} {Z : Prop} {b : Bool}
theorem kk_1 (h : b = true ↔ (Z ∧ ∀ x y, x < j → x < y → y < n → ¬ P x y)) : b = true ↔ (Z ∧ (∀ x y, x < j → x < y → y < n → ¬ P x y) ∧ ∀ y, j < y → y < j + 1 → ¬ P j y) :=
  ⟨fun q => ⟨(h.mp q).1, (h.mp q).2, fun y h1 h2 => absurd h1 (by omega)⟩, fun q => h.mpr ⟨q.1, q.2.1⟩⟩
theorem kk_k {c : Bool} (h : b = true ↔ (Z ∧ (∀ x y, x < j → x < y → y < n → ¬ P x y) ∧ ∀ y, j < y → y < k → ¬ P j y)) (hb : b = true) (hjk : j < k) (hc : c = true ↔ ¬ P j k) : c = true ↔ (Z ∧ (∀ x y, x < j → x < y → y < n → ¬ P x y) ∧ ∀ y, j < y → y < k + 1 → ¬ P j y) := by
  obtain ⟨z1, z2, z3⟩ := h.mp hb
  constructor
  · intro q
    refine ⟨z1, z2, fun y h1 h2 => ?_⟩
    by_cases e : y = k
    · subst e; exact hc.mp q
    · exact z3 y h1 (by omega)
  · intro q
    exact hc.mpr (q.2.2 k hjk (by omega))
theorem kk_s (h : b = true ↔ (Z ∧ (∀ x y, x < j → x < y → y < n → ¬ P x y) ∧ ∀ y, j < y → y < k → ¬ P j y)) (hkn : k ≤ n) (hk : n ≤ k ∨ b = false) : b = true ↔ (Z ∧ ∀ x y, x < j + 1 → x < y → y < n → ¬ P x y) := by
  constructor
  · intro q
    obtain ⟨z1, z2, z3⟩ := h.mp q
    refine ⟨z1, fun x y h1 h2 h3 => ?_⟩
    have hk : n ≤ k := hk.elim id (fun e => absurd (q.symm.trans e) (by decide))
    by_cases e : x = j
    · subst e; exact z3 y h2 (by omega)
    · exact z2 x y (by omega) h2 h3
  · intro q
    exact h.mpr ⟨q.1, fun x y h1 h2 h3 => q.2 x y (by omega) h2 h3, fun y h1 h2 => q.2 j y (by omega) h1 (by omega)⟩
theorem kk_e (h : b = true ↔ (Z ∧ ∀ x y, x < j → x < y → y < n → ¬ P x y)) (hj : n ≤ j ∨ b = false) : b = true ↔ (Z ∧ ∀ x y, x < y → y < n → ¬ P x y) := by
  constructor
  · intro q
    obtain ⟨z1, z2⟩ := h.mp q
    have hj : n ≤ j := hj.elim id (fun e => absurd (q.symm.trans e) (by decide))
    exact ⟨z1, fun x y h1 h2 => z2 x y (by omega) h1 h2⟩
  · intro q
    exact h.mpr ⟨q.1, fun x y _ h2 h3 => q.2 x y h2 h3⟩
end KK
/-! safe -/
theorem pcn_st {g : Nat → Bool} {a : Nat} (h : g a = true) : pcn g (a + 1) = pcn g a + 1 := by show pcn g a + (if g a = true then 1 else 0) = _; rw [if_pos h]
theorem pcn_sf {g : Nat → Bool} {a : Nat} (h : g a = false) : pcn g (a + 1) = pcn g a := by show pcn g a + (if g a = true then 1 else 0) = _; rw [if_neg (fun q => absurd (q.symm.trans h) (by decide))]; rfl
theorem pcn_mono {g : Nat → Bool} {a : Nat} : ∀ {b : Nat}, a ≤ b → pcn g a ≤ pcn g b
  | 0, h => by rw [show a = 0 by omega]; exact Nat.le_refl _
  | b + 1, h => by
    rcases Nat.lt_or_ge a (b + 1) with q | q
    · have := pcn_mono (g := g) (a := a) (b := b) (by omega)
      have h2 : pcn g b ≤ pcn g (b + 1) := Nat.le_add_right _ _
      omega
    · rw [show a = b + 1 by omega]; exact Nat.le_refl _
theorem pcn_lt {g : Nat → Bool} {a b : Nat} (h : g a = true) (hb : a < b) : pcn g a < pcn g b := by
  have h1 : pcn g (a + 1) = pcn g a + 1 := pcn_st h
  have h2 := pcn_mono (g := g) (show a + 1 ≤ b by omega)
  omega
theorem pcn_inv {g : Nat → Bool} {r : Nat} : ∀ {m : Nat}, r < pcn g m → ∃ a, a < m ∧ g a = true ∧ pcn g a = r
  | 0, h => absurd h (Nat.not_lt_zero _)
  | m + 1, h => by
    rcases Nat.lt_or_ge r (pcn g m) with q | q
    · obtain ⟨a, h1, h2, h3⟩ := pcn_inv q
      exact ⟨a, by omega, h2, h3⟩
    · unfold pcn at h
      cases hg : g m with
      | true => rw [hg] at h; simp at h; exact ⟨m, by omega, hg, by omega⟩
      | false => rw [hg] at h; simp at h; omega
theorem pcn_eq {g : Nat → Bool} {a b : Nat} (ha : g a = true) (hb : g b = true) (h : pcn g a = pcn g b) : a = b := by
  rcases Nat.lt_trichotomy a b with q | q | q
  · have := pcn_lt ha q; omega
  · exact q
  · have := pcn_lt hb q; omega
theorem pcn_1 {g : Nat → Bool} (h0 : g 0 = false) : ∀ a, pcn g (a + 1) ≤ a
  | 0 => by unfold pcn; rw [h0]; exact Nat.le_refl _
  | a + 1 => by have := pcn_1 h0 a; unfold pcn; split <;> omega
/-- the rows so far: of the failures below f all, of f those of the liquids below a -/
def RT (th : Nat → Bool) (F C : Nat → Nat → Int64) (f a n : Nat) (g1 g2 : Nat → Nat) (g3 g4 : Nat → Int64) : Prop :=
  n = f * pcn th 16 + pcn th a ∧ ∀ x y, th y = true → (x < f ∧ y < 16 ∨ x = f ∧ y < a) → g1 (x * pcn th 16 + pcn th y) = x ∧ g2 (x * pcn th 16 + pcn th y) = y ∧ g3 (x * pcn th 16 + pcn th y) = F y x ∧ g4 (x * pcn th 16 + pcn th y) = C y x
theorem RT_0 {th : Nat → Bool} {F C : Nat → Nat → Int64} {g1 g2 : Nat → Nat} {g3 g4 : Nat → Int64} (h0 : th 0 = false) : RT th F C 0 1 0 g1 g2 g3 g4 := by
  refine ⟨by rw [pcn_sf h0, Nat.zero_mul]; rfl, fun x y h1 h2 => ?_⟩
  rcases h2 with h2 | ⟨-, h2⟩
  · exact absurd h2.1 (Nat.not_lt_zero _)
  · rw [show y = 0 by omega, h0] at h1; cases h1
theorem RT_f {th : Nat → Bool} {F C : Nat → Nat → Int64} {f a n : Nat} {g1 g2 : Nat → Nat} {g3 g4 : Nat → Int64} (h : RT th F C f a n g1 g2 g3 g4) (ha : th a = false) : RT th F C f (a + 1) n g1 g2 g3 g4 := by
  refine ⟨by rw [h.1, pcn_sf ha], fun x y h1 h2 => h.2 x y h1 ?_⟩
  rcases h2 with h2 | ⟨h2, h3⟩
  · exact Or.inl h2
  · refine Or.inr ⟨h2, ?_⟩
    rcases Nat.lt_or_ge y a with q | q
    · exact q
    · rw [show y = a by omega, ha] at h1; cases h1
theorem RT_old {th : Nat → Bool} {f a x y : Nat} (h1 : th y = true) (h2 : x < f ∧ y < 16 ∨ x = f ∧ y < a) : x * pcn th 16 + pcn th y < f * pcn th 16 + pcn th a := by
  rcases h2 with ⟨h2, h3⟩ | ⟨h2, h3⟩
  · have := pcn_lt h1 h3
    have h4 := Nat.mul_le_mul_right (pcn th 16) (show x + 1 ≤ f by omega)
    rw [Nat.add_mul] at h4
    omega
  · have := pcn_lt h1 h3
    subst h2; omega
theorem RT_t {th : Nat → Bool} {F C : Nat → Nat → Int64} {f a n : Nat} {g1 g2 : Nat → Nat} {g3 g4 : Nat → Int64} (h : RT th F C f a n g1 g2 g3 g4) (ha : th a = true) : RT th F C f (a + 1) (n + 1) (va_up g1 n f) (va_up g2 n a) (va_up g3 n (F a f)) (va_up g4 n (C a f)) := by
  refine ⟨by rw [h.1, pcn_st ha, Nat.add_assoc], fun x y h1 h2 => ?_⟩
  by_cases e : x = f ∧ y = a
  · obtain ⟨rfl, rfl⟩ := e
    rw [← h.1, va_up_self, va_up_self, va_up_self, va_up_self]
    exact ⟨rfl, rfl, rfl, rfl⟩
  · have h3 : x < f ∧ y < 16 ∨ x = f ∧ y < a := by
      rcases h2 with h2 | ⟨h2, h3⟩
      · exact Or.inl h2
      · refine Or.inr ⟨h2, ?_⟩
        have : y ≠ a := fun q => e ⟨h2, q⟩
        omega
    have h4 := RT_old h1 h3
    rw [← h.1] at h4
    have h5 : x * pcn th 16 + pcn th y ≠ n := Nat.ne_of_lt h4
    rw [va_up_ne _ _ h5, va_up_ne _ _ h5, va_up_ne _ _ h5, va_up_ne _ _ h5]
    exact h.2 x y h1 h3
theorem RT_n {th : Nat → Bool} {F C : Nat → Nat → Int64} {f n : Nat} {g1 g2 : Nat → Nat} {g3 g4 : Nat → Int64} (h : RT th F C f 16 n g1 g2 g3 g4) (h0 : th 0 = false) : RT th F C (f + 1) 1 n g1 g2 g3 g4 := by
  refine ⟨by rw [h.1, Nat.add_mul, show pcn th 1 = 0 by rw [pcn, h0]; rfl]; omega, fun x y h1 h2 => h.2 x y h1 ?_⟩
  rcases h2 with ⟨h2, h3⟩ | ⟨h2, h3⟩
  · by_cases e : x = f
    · exact Or.inr ⟨e, h3⟩
    · exact Or.inl ⟨by omega, h3⟩
  · rw [show y = 0 by omega, h0] at h1; cases h1
theorem RT_lt {th : Nat → Bool} {F C : Nat → Nat → Int64} {f a n : Nat} {g1 g2 : Nat → Nat} {g3 g4 : Nat → Int64} (h : RT th F C f a n g1 g2 g3 g4) (h0 : th 0 = false) (hf : f ≤ 64) (h1 : 1 ≤ a) (ha : a ≤ 15) : n < 975 := by
  have q1 : pcn th 16 ≤ 15 := pcn_1 h0 15
  have q2 : pcn th a ≤ a - 1 := by
    have := pcn_1 h0 (a - 1)
    rwa [show a - 1 + 1 = a by omega] at this
  have q3 := Nat.mul_le_mul hf q1
  have := h.1
  omega
theorem RT_le {th : Nat → Bool} {F C : Nat → Nat → Int64} {f a n : Nat} {g1 g2 : Nat → Nat} {g3 g4 : Nat → Int64} (h : RT th F C f a n g1 g2 g3 g4) (h0 : th 0 = false) (hf : f ≤ 64) (ha : a ≤ 16) : n ≤ 975 := by
  have q1 : pcn th 16 ≤ 15 := pcn_1 h0 15
  have q2 : pcn th a ≤ pcn th 16 := pcn_mono ha
  have q3 := Nat.mul_le_mul hf q1
  have := h.1
  omega
theorem up_bd {g : Nat → Nat} {M k x : Nat} (h : ∀ j, g j < M) (hx : x < M) : ∀ j, va_up g k x j < M := by
  intro j; unfold va_up; split
  · exact hx
  · exact h j
theorem MOk_safe {u : MSt} {n : Nat} {g1 g2 cu : Nat → Nat} {g3 g4 : Nat → Int64} {b : Bool} {w : Nat → Bool} (hu : MOk u) (hn : n ≤ 975) (h1 : ∀ j, g1 j < 65) (h2 : ∀ j, g2 j < 16) : MOk (m_mk (m_liq u) (m_lev u) (m_nS u) (m_fa u) (m_fb u) (m_seat u) (m_op u) (m_un u) (m_nV u) (m_may u) n g1 g2 g3 g4 cu b (m_te u) 0 w) := by
  obtain ⟨k1, k2, k3, k4, k5, k6, k7, k8, k9, k10, k11⟩ := hu
  exact ⟨k1, k2, hn, k4, k5, k6, h1, h2, k9, k10, k11⟩
theorem mTh_0 (u : MSt) : mTh u 0 = false := by unfold mTh; simp
/-- in failure f the liquids a and b are in space t and may not meet -/
def mCl (u : MSt) (f t a b : Nat) : Prop := mTh u a = true ∧ mTh u b = true ∧ a < b ∧ b < 16 ∧ tb (mF u a f) t = true ∧ tb (mF u b f) t = true ∧ m_may u (16 * a + b) = false
def mCul (u : MSt) (f t a b : Nat) : Prop := t < m_nS u ∧ mCl u f t a b ∧ (∀ t2, t2 < t → ∀ x y, ¬ mCl u f t2 x y) ∧ (∀ x, x < a → ∀ y, ¬ mCl u f t x y) ∧ ∀ y, y < b → ¬ mCl u f t a y
def mNo (u : MSt) (f : Nat) : Prop := ∀ t a b, t < m_nS u → ¬ mCl u f t a b
abbrev cu4 (c : Nat → Nat) (f t a b : Nat) : Nat → Nat := va_up (va_up (va_up (va_up c 0 f) 1 t) 2 a) 3 b
def mG (u : MSt) (f : Nat) (b : Bool) (cu : Nat → Nat) : Prop := (b = false ∧ cu = m_cul u ∧ ∀ x, x < f → mNo u x) ∨ (b = true ∧ ∃ f0 t a c, f = f0 + 1 ∧ (∀ x, x < f0 → mNo u x) ∧ mCul u f0 t a c ∧ cu = cu4 (m_cul u) f0 t a c)
/-- what meet says of the rows of one failure -/
theorem mG_step {u U : MSt} {f n n2 : Nat} {g1 g2 h1 h2 : Nat → Nat} {g3 g4 h3 h4 : Nat → Int64} {b0 b : Bool} {cu0 cu : Nat → Nat} (hg : mG u f b0 cu0) (hb0 : b0 = false)
    (ha : RT (mTh u) (mF u) (fun a x => mC u (mF u a x) x) f 1 n g1 g2 g3 g4) (hR : RT (mTh u) (mF u) (fun a x => mC u (mF u a x) x) f 16 n2 h1 h2 h3 h4)
    (e1 : m_nS U = m_nS u) (e2 : m_nR U = n2) (e3 : m_rw U = h3) (e4 : m_rl U = h2) (e5 : m_may U = m_may u) (e6 : m_cul U = cu0)
    (hm : (b = false ∧ cu = m_cul U ∧ ∀ t x y, t < m_nS U → n ≤ x → x < y → y < m_nR U → ¬ mM U t x y) ∨ (b = true ∧ ∃ t x y, t < m_nS U ∧ n ≤ x ∧ x < y ∧ y < m_nR U ∧ mM U t x y ∧ (∀ t2, t2 < t → ∀ x2 y2, n ≤ x2 → x2 < y2 → y2 < m_nR U → ¬ mM U t2 x2 y2) ∧ (∀ x2, x2 < x → n ≤ x2 → ∀ y2, x2 < y2 → y2 < m_nR U → ¬ mM U t x2 y2) ∧ (∀ y2, y2 < y → x < y2 → ¬ mM U t x y2) ∧ cu = cu4 (m_cul U) f t (m_rl U x) (m_rl U y))) : mG u (f + 1) b cu := by
  obtain ⟨-, ecu, hno⟩ : b0 = false ∧ cu0 = m_cul u ∧ ∀ x, x < f → mNo u x := by
    rcases hg with q | q
    · exact q
    · exact absurd (hb0.symm.trans q.1) (by decide)
  have hn : n = f * pcn (mTh u) 16 := by
    have := ha.1
    rw [show pcn (mTh u) 1 = 0 by rw [pcn, mTh_0]; rfl] at this
    omega
  have hn2 := hR.1
  -- a clash of liquids is one of rows
  have to : ∀ t a c, mCl u f t a c → n ≤ f * pcn (mTh u) 16 + pcn (mTh u) a ∧ f * pcn (mTh u) 16 + pcn (mTh u) a < f * pcn (mTh u) 16 + pcn (mTh u) c ∧ f * pcn (mTh u) 16 + pcn (mTh u) c < m_nR U ∧ mM U t (f * pcn (mTh u) 16 + pcn (mTh u) a) (f * pcn (mTh u) 16 + pcn (mTh u) c) := by
    intro t a c ⟨q1, q2, q3, q4, q5, q6, q7⟩
    have p1 := pcn_lt q1 q3
    have p2 := pcn_lt q2 q4
    obtain ⟨-, r2, r3, -⟩ := hR.2 f a q1 (Or.inr ⟨rfl, by omega⟩)
    obtain ⟨-, s2, s3, -⟩ := hR.2 f c q2 (Or.inr ⟨rfl, q4⟩)
    refine ⟨by omega, by omega, by omega, ?_⟩
    unfold mM
    rw [e3, e4, e5, r2, r3, s2, s3]
    exact ⟨q5, q6, q7⟩
  -- and back
  have fro : ∀ t x y, n ≤ x → x < y → y < m_nR U → mM U t x y → ∃ a c, x = f * pcn (mTh u) 16 + pcn (mTh u) a ∧ y = f * pcn (mTh u) 16 + pcn (mTh u) c ∧ mCl u f t a c ∧ m_rl U x = a ∧ m_rl U y = c := by
    intro t x y q1 q2 q3 q4
    obtain ⟨a, a1, a2, a3⟩ := pcn_inv (g := mTh u) (r := x - n) (m := 16) (by omega)
    obtain ⟨c, c1, c2, c3⟩ := pcn_inv (g := mTh u) (r := y - n) (m := 16) (by omega)
    have ex : x = f * pcn (mTh u) 16 + pcn (mTh u) a := by omega
    have ey : y = f * pcn (mTh u) 16 + pcn (mTh u) c := by omega
    obtain ⟨-, r2, r3, -⟩ := hR.2 f a a2 (Or.inr ⟨rfl, a1⟩)
    obtain ⟨-, s2, s3, -⟩ := hR.2 f c c2 (Or.inr ⟨rfl, c1⟩)
    have hac : a < c := by
      rcases Nat.lt_or_ge a c with z | z
      · exact z
      · have := pcn_mono (g := mTh u) z; omega
    unfold mM at q4
    rw [e3, e4, e5, ex, ey, r2, r3, s2, s3] at q4
    refine ⟨a, c, ex, ey, ⟨a2, c2, hac, c1, q4.1, q4.2.1, q4.2.2⟩, ?_, ?_⟩
    · rw [e4, ex, r2]
    · rw [e4, ey, s2]
  rcases hm with ⟨q1, q2, q3⟩ | ⟨q1, t, x, y, p1, p2, p3, p4, p5, p6, p7, p8, p9⟩
  · refine Or.inl ⟨q1, by rw [q2, e6, ecu], fun z hz => ?_⟩
    by_cases e : z = f
    · subst e
      intro t a c ht hc
      obtain ⟨r1, r2, r3, r4⟩ := to t a c hc
      exact q3 t _ _ (by rw [e1]; exact ht) r1 r2 r3 r4
    · exact hno z (by omega)
  · obtain ⟨a, c, ex, ey, hcl, ra, rc⟩ := fro t x y p2 p3 p4 p5
    refine Or.inr ⟨q1, f, t, a, c, rfl, hno, ⟨by rw [← e1]; exact p1, hcl, ?_, ?_, ?_⟩, by rw [p9, ra, rc, e6, ecu]⟩
    · intro t2 ht x2 y2 hc
      obtain ⟨r1, r2, r3, r4⟩ := to t2 x2 y2 hc
      exact p6 t2 ht _ _ r1 r2 r3 r4
    · intro x2 hx y2 hc
      obtain ⟨r1, r2, r3, r4⟩ := to t x2 y2 hc
      have := pcn_lt hc.1 hx
      exact p7 _ (by omega) r1 _ r2 r3 r4
    · intro y2 hy hc
      obtain ⟨r1, r2, r3, r4⟩ := to t a y2 hc
      have := pcn_lt hc.2.1 hy
      rw [ex] at p8
      exact p8 _ (by omega) r2 r4
