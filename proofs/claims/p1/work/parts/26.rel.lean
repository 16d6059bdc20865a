/-- the class's plant is the reference's -/
def CP (u : CSt) (v : MSt) : Prop :=
  MOk v ∧ k_nS u = m_nS v ∧ k_nV u = m_nV v ∧ (∀ t, t < m_nS v → k_lev u t = m_lev v t) ∧ (∀ a, a < 16 → ∀ t, tb (k_src u a) t = decide (t < m_nS v ∧ m_liq v t = a)) ∧
  (∀ a b, 1 ≤ a → a < 16 → 1 ≤ b → b < 16 → t32 (k_fr u a) b = m_may v (16 * a + b)) ∧ (∀ x, x < m_nV v → k_e1 u x = m_fa v x ∧ k_e2 u x = m_fb v x) ∧
  (∀ x, tb (k_opn u) x = (decide (x < m_nV v) && m_op v x)) ∧ (∀ x, tb (k_uns u) x = (decide (x < m_nV v) && m_un v x)) ∧ (∀ x, tb (k_dbl u) x = (decide (x < m_nV v) && decide (m_seat v x = 2))) ∧
  (∀ t, t < m_nS v → ∀ x, tb (k_ends u t) x = decide (x < m_nV v ∧ (m_fa v x = t ∨ m_fb v x = t))) ∧
  (∀ t, t < m_nS v → ∀ x, tb (k_fal u t) x = decide (x < m_nV v ∧ (m_fa v x = t ∧ m_lev v (m_fb v x) ≤ m_lev v t ∨ m_fb v x = t ∧ m_lev v (m_fa v x) ≤ m_lev v t))) ∧
  (∀ j, k_e1 u j < 64) ∧ (∀ j, k_e2 u j < 64) ∧ (∀ a b, 1 ≤ a → a < 16 → 1 ≤ b → b < 16 → m_may v (16 * a + b) = m_may v (16 * b + a))
theorem tb_kfl {f : Nat} (hf : f ≤ 64) (x : Nat) : tb (kfl f) x = decide (f = x + 1) := by
  unfold kfl
  by_cases h : f = 0
  · rw [if_pos h, tb_0, h]; simp
  · rw [if_neg h, tb_bt (by omega)]
    by_cases e : f = x + 1
    · simp [e]
    · have : ¬ x = f - 1 := by omega
      simp [e, this]
theorem kl_lets {u : CSt} {v : MSt} (h : CP u v) {f : Nat} (hf : f ≤ m_nV v) (x : Nat) : tb (kl u f) x = (decide (x < m_nV v) && mlets v x f) := by
  obtain ⟨h1, h2, h3, h4, h5, h6, h7, h8, h9, h10, -⟩ := h
  have hV := h1.2.1
  have n1 : ∀ y : Int64, ∀ i, 64 ≤ i → tb y i = false := fun y i hi => tb_big hi
  by_cases hx : x < m_nV v
  · have hx64 : x < 64 := by omega
    unfold kl
    rw [tb_or, tb_or, tb_andn, tb_andn, tb_andn, tb_andn, tb_andn, tb_kfl (by omega), h8, h9, h10]
    unfold mlets
    simp only [hx, decide_true, Bool.true_and]
    by_cases e1 : m_seat v x = 2 <;> cases m_op v x <;> cases m_un v x <;> by_cases e2 : f = x + 1 <;> simp [e1, e2]
  · unfold kl
    have e : ¬ f = x + 1 := by omega
    rw [tb_or, tb_or, tb_andn, tb_andn, tb_andn, tb_andn, tb_andn, tb_kfl (by omega), h8, h9, h10]
    simp [hx, e]
theorem tb_lw {u : CSt} {g : Nat → Int64} {x a b : Nat} (hb : b < 64) (s t : Nat) : tb (lw u g x a b s) t = true ↔ tb (g s) t = true ∨ (a = s ∧ b = t ∧ tb (k_fal u s) x = true) := by
  unfold lw
  by_cases h : tb (k_fal u a) x = true
  · rw [if_pos h]
    unfold va_up
    by_cases e : s = a
    · subst e
      rw [if_pos rfl, tb_or, Bool.or_eq_true, tb_bt hb]
      constructor
      · rintro (z | z)
        · exact Or.inl z
        · exact Or.inr ⟨rfl, (of_decide_eq_true z).symm, h⟩
      · rintro (z | ⟨-, z, -⟩)
        · exact Or.inl z
        · exact Or.inr (decide_eq_true z.symm)
    · rw [if_neg e]
      exact ⟨Or.inl, fun z => z.elim id fun z => absurd z.1.symm e⟩
  · rw [if_neg h]
    exact ⟨Or.inl, fun z => z.elim id fun z => absurd (by rw [z.1]; exact z.2.2) h⟩
theorem tb_kWs {u : CSt} {L : Int64} {g : Nat → Int64} (h1 : ∀ j, k_e1 u j < 64) (h2 : ∀ j, k_e2 u j < 64) (s t : Nat) : ∀ n, tb (kWs u L g n s) t = true ↔ tb (g s) t = true ∨ ∃ x, x < n ∧ tb L x = true ∧ tb (k_fal u s) x = true ∧ (k_e1 u x = s ∧ k_e2 u x = t ∨ k_e2 u x = s ∧ k_e1 u x = t)
  | 0 => ⟨Or.inl, fun z => z.elim id fun ⟨x, hx, _⟩ => absurd hx (Nat.not_lt_zero x)⟩
  | n + 1 => by
    have ih := tb_kWs (u := u) (L := L) (g := g) h1 h2 s t n
    show tb ((if tb L n = true then _ else kWs u L g n) s) t = true ↔ _
    by_cases hL : tb L n = true
    · rw [if_pos hL, tb_lw (h1 n), tb_lw (h2 n), ih]
      constructor
      · rintro (((z | ⟨x, a1, a2⟩) | z) | z)
        · exact Or.inl z
        · exact Or.inr ⟨x, by omega, a2⟩
        · exact Or.inr ⟨n, by omega, hL, z.2.2, Or.inl ⟨z.1, z.2.1⟩⟩
        · exact Or.inr ⟨n, by omega, hL, z.2.2, Or.inr ⟨z.1, z.2.1⟩⟩
      · rintro (z | ⟨x, a1, a2, a3, a4⟩)
        · exact Or.inl (Or.inl (Or.inl z))
        · by_cases e : x = n
          · subst e
            rcases a4 with z | z
            · exact Or.inl (Or.inr ⟨z.1, z.2, a3⟩)
            · exact Or.inr ⟨z.1, z.2, a3⟩
          · exact Or.inl (Or.inl (Or.inr ⟨x, by omega, a2, a3, a4⟩))
    · rw [if_neg hL, ih]
      constructor
      · rintro (z | ⟨x, a1, a2⟩)
        · exact Or.inl z
        · exact Or.inr ⟨x, by omega, a2⟩
      · rintro (z | ⟨x, a1, a2, a3⟩)
        · exact Or.inl z
        · by_cases e : x = n
          · subst e; exact absurd a2 hL
          · exact Or.inr ⟨x, by omega, a2, a3⟩
/-- the ways that are laid for failure f -/
def Laid (u : CSt) (v : MSt) (f : Nat) : Prop := (∀ x, tb (k_lett u) x = (decide (x < m_nV v) && mlets v x f)) ∧ ∃ g, (∀ t, t < m_nS v → g t = 0) ∧ k_ways u = kWs u (k_lett u) g (m_nV v)
theorem kF_mF {u : CSt} {v : MSt} (h : CP u v) {f : Nat} (hl : Laid u v f) {a : Nat} (ha : a < 16) : kF u a = mF v a f := by
  obtain ⟨h1, h2, h3, h4, h5, h6, h7, h8, h9, h10, h11, h12, h13, h14, -⟩ := h
  obtain ⟨l1, g, l2, l3⟩ := hl
  have hv := h1.2.2.2.2.2.2.2.2.1
  unfold kF mF
  refine ofB_congr fun t _ => pB_congr ?_
  have wy : ∀ s t, s < m_nS v → (tb (k_ways u s) t = true ↔ ∃ x, x < m_nV v ∧ mlets v x f = true ∧ tb (k_fal u s) x = true ∧ (m_fa v x = s ∧ m_fb v x = t ∨ m_fb v x = s ∧ m_fa v x = t)) := by
    intro s t hs
    rw [l3, tb_kWs h13 h14, l2 s hs, tb_0]
    constructor
    · rintro (z | ⟨x, a1, a2, a3, a4⟩)
      · cases z
      · rw [l1] at a2
        rw [(h7 x a1).1, (h7 x a1).2] at a4
        exact ⟨x, a1, (Bool.and_eq_true_iff.mp a2).2, a3, a4⟩
    · rintro ⟨x, a1, a2, a3, a4⟩
      refine Or.inr ⟨x, a1, by rw [l1, a2]; simp [a1], a3, ?_⟩
      rw [(h7 x a1).1, (h7 x a1).2]; exact a4
  constructor
  · intro z
    refine z (fun t => mFl v a f t) (fun i hi => ?_) (fun i j hi hj => ?_)
    · rw [h5 a ha] at hi; exact Fl.src hi
    · have his := mFl_lt h1 hi
      obtain ⟨x, a1, a2, a3, a4⟩ := (wy i j his).mp hj
      rw [h12 i his] at a3
      obtain ⟨-, a3⟩ := of_decide_eq_true a3
      obtain ⟨p1, p2, p3⟩ := hv x a1
      rcases a4 with ⟨b1, b2⟩ | ⟨b1, b2⟩
      · subst b1; subst b2
        rcases a3 with a3 | a3
        · exact (Fl.cl x a1 a2).1 hi a3.2
        · exact absurd a3.1.symm p3
      · subst b1; subst b2
        rcases a3 with a3 | a3
        · exact absurd a3.1 p3
        · exact (Fl.cl x a1 a2).2 hi a3.2
  · intro z
    refine z (fun t => kFl (k_ways u) (k_src u a) t) (fun i hi => ?_) (fun x hx hL => ?_)
    · intro X b1 b2; exact b1 i (by rw [h5 a ha]; exact hi)
    · obtain ⟨p1, p2, p3⟩ := hv x hx
      refine ⟨fun b1 b2 X c1 c2 => c2 _ _ (b1 X c1 c2) ((wy _ _ p1).mpr ⟨x, hx, hL, ?_, Or.inl ⟨rfl, rfl⟩⟩), fun b1 b2 X c1 c2 => c2 _ _ (b1 X c1 c2) ((wy _ _ p2).mpr ⟨x, hx, hL, ?_, Or.inr ⟨rfl, rfl⟩⟩)⟩
      · rw [h12 _ p1]; exact decide_eq_true ⟨hx, Or.inl ⟨rfl, b2⟩⟩
      · rw [h12 _ p2]; exact decide_eq_true ⟨hx, Or.inr ⟨rfl, b2⟩⟩
theorem tb_cX {u : CSt} {v : MSt} (h : CP u v) {x : Int64} (hx : ∀ i, tb x i = true → i < m_nS v) (y : Nat) : ∀ s, tb (cX (k_ends u) x s) y = (decide (y < m_nV v) && ((tb x (m_fa v y) && decide (m_fa v y < s)) ^^ (tb x (m_fb v y) && decide (m_fb v y < s))))
  | 0 => by show tb 0 y = _; rw [tb_0]; simp
  | s + 1 => by
    have ih := tb_cX h hx y s
    obtain ⟨h1, -, -, -, -, -, -, -, -, -, h11, -⟩ := h
    have hv := h1.2.2.2.2.2.2.2.2.1
    show tb (if tb x s = true then cX (k_ends u) x s ^^^ k_ends u s else cX (k_ends u) x s) y = _
    by_cases hs : tb x s = true
    · rw [if_pos hs, tb_xor, ih, h11 s (hx s hs)]
      by_cases hy : y < m_nV v
      · obtain ⟨-, -, p3⟩ := hv y hy
        by_cases ea : m_fa v y = s
        · have eb : ¬ m_fb v y = s := fun q => p3 (ea.trans q.symm)
          have e2 : (m_fb v y < s + 1) = (m_fb v y < s) := propext ⟨fun q => by omega, fun q => by omega⟩
          rw [ea]; simp [hy, hs, e2]
        · by_cases eb : m_fb v y = s
          · have e2 : (m_fa v y < s + 1) = (m_fa v y < s) := propext ⟨fun q => by omega, fun q => by omega⟩
            rw [eb]; simp [hy, hs, ea, e2]
          · have e2 : (m_fa v y < s + 1) = (m_fa v y < s) := propext ⟨fun q => by omega, fun q => by omega⟩
            have e3 : (m_fb v y < s + 1) = (m_fb v y < s) := propext ⟨fun q => by omega, fun q => by omega⟩
            simp [hy, ea, eb, e2, e3]
      · simp [hy]
    · rw [if_neg hs, ih]
      have z : ∀ i, (tb x i && decide (i < s + 1)) = (tb x i && decide (i < s)) := by
        intro i
        by_cases e : i = s
        · subst e; rw [ts_nt hs]; rfl
        · have e2 : (i < s + 1) = (i < s) := propext ⟨fun q => by omega, fun q => by omega⟩
          simp [e2]
      rw [z, z]
theorem tb_cO {u : CSt} {v : MSt} (h : CP u v) {x : Int64} (hx : ∀ i, tb x i = true → i < m_nS v) (y : Nat) : ∀ s, tb (cO (k_fal u) x s) y = true ↔ y < m_nV v ∧ ((tb x (m_fa v y) = true ∧ m_fa v y < s ∧ m_lev v (m_fb v y) ≤ m_lev v (m_fa v y)) ∨ (tb x (m_fb v y) = true ∧ m_fb v y < s ∧ m_lev v (m_fa v y) ≤ m_lev v (m_fb v y)))
  | 0 => by show tb 0 y = true ↔ _; rw [tb_0]; simp
  | s + 1 => by
    have ih := tb_cO h hx y s
    obtain ⟨h1, -, -, -, -, -, -, -, -, -, -, h12, -⟩ := h
    show tb (if tb x s = true then cO (k_fal u) x s ||| k_fal u s else cO (k_fal u) x s) y = true ↔ _
    by_cases hs : tb x s = true
    · rw [if_pos hs, tb_or, Bool.or_eq_true, ih, h12 s (hx s hs), decide_eq_true_iff]
      constructor
      · rintro (⟨a, b | b⟩ | ⟨a, b | b⟩)
        · exact ⟨a, Or.inl ⟨b.1, by omega, b.2.2⟩⟩
        · exact ⟨a, Or.inr ⟨b.1, by omega, b.2.2⟩⟩
        · exact ⟨a, Or.inl ⟨by rw [b.1]; exact hs, by omega, by rw [b.1]; exact b.2⟩⟩
        · exact ⟨a, Or.inr ⟨by rw [b.1]; exact hs, by omega, by rw [b.1]; exact b.2⟩⟩
      · rintro ⟨a, b | b⟩
        · by_cases e : m_fa v y = s
          · exact Or.inr ⟨a, Or.inl ⟨e, by rw [← e]; exact b.2.2⟩⟩
          · exact Or.inl ⟨a, Or.inl ⟨b.1, by omega, b.2.2⟩⟩
        · by_cases e : m_fb v y = s
          · exact Or.inr ⟨a, Or.inr ⟨e, by rw [← e]; exact b.2.2⟩⟩
          · exact Or.inl ⟨a, Or.inr ⟨b.1, by omega, b.2.2⟩⟩
    · rw [if_neg hs, ih]
      constructor
      · rintro ⟨a, b | b⟩
        · exact ⟨a, Or.inl ⟨b.1, by omega, b.2.2⟩⟩
        · exact ⟨a, Or.inr ⟨b.1, by omega, b.2.2⟩⟩
      · rintro ⟨a, b | b⟩
        · refine ⟨a, Or.inl ⟨b.1, ?_, b.2.2⟩⟩
          have : m_fa v y ≠ s := fun q => hs (by rw [← q]; exact b.1)
          omega
        · refine ⟨a, Or.inr ⟨b.1, ?_, b.2.2⟩⟩
          have : m_fb v y ≠ s := fun q => hs (by rw [← q]; exact b.1)
          omega
theorem kC_mC {u : CSt} {v : MSt} (h : CP u v) {f : Nat} (hl : Laid u v f) {x : Int64} (hx : ∀ i, tb x i = true → i < m_nS v) : kC u x = mC v x f := by
  refine ofB_eq fun y _ => ?_
  have c1 := tb_cX h hx y 64
  have c2 := tb_cO h hx y 64
  obtain ⟨h1, -⟩ := h
  have k5 := h1.2.2.2.2.1 y
  have k6 := h1.2.2.2.2.2.1 y
  unfold kC
  rw [tb_andn, tb_and, hl.1 y, c1]
  by_cases hy : y < m_nV v
  · simp only [hy, k5, k6, decide_true, Bool.true_and, Bool.and_true] at c2 ⊢
    unfold mCb
    cases ea : tb x (m_fa v y) <;> cases eb : tb x (m_fb v y)
    · simp
    · have : tb (cO (k_fal u) x 64) y = decide (m_lev v (m_fa v y) ≤ m_lev v (m_fb v y)) := by
        by_cases q : m_lev v (m_fa v y) ≤ m_lev v (m_fb v y)
        · rw [decide_eq_true q]; exact c2.mpr ⟨trivial, Or.inr ⟨eb, trivial, q⟩⟩
        · rw [decide_eq_false q]; exact ts_nt fun z => by
            rcases (c2.mp z).2 with w | w
            · rw [ea] at w; exact absurd w.1 (by decide)
            · exact q w.2.2
      rw [this]; simp [Bool.and_comm]
    · have : tb (cO (k_fal u) x 64) y = decide (m_lev v (m_fb v y) ≤ m_lev v (m_fa v y)) := by
        by_cases q : m_lev v (m_fb v y) ≤ m_lev v (m_fa v y)
        · rw [decide_eq_true q]; exact c2.mpr ⟨trivial, Or.inl ⟨ea, trivial, q⟩⟩
        · rw [decide_eq_false q]; exact ts_nt fun z => by
            rcases (c2.mp z).2 with w | w
            · exact q w.2.2
            · rw [eb] at w; exact absurd w.1 (by decide)
      rw [this]; simp [Bool.and_comm]
    · simp
  · simp [hy]
theorem mF_in {v : MSt} (hv : MOk v) {a f i : Nat} (h : tb (mF v a f) i = true) : mFl v a f i ∧ i < m_nS v := by
  have hi := tb_lt h
  unfold mF at h
  rw [tb_ofB _ hi] at h
  have := pB_t.mp h
  exact ⟨this, mFl_lt hv this⟩
theorem mF_th {v : MSt} (hv : MOk v) {a f : Nat} (ha : 1 ≤ a) : mTh v a = decide (¬ mF v a f = 0) := by
  by_cases h : mF v a f = 0
  · rw [decide_eq_false (fun q => q h)]
    unfold mTh
    have : anyB (fun t => decide (m_liq v t = a)) (m_nS v) = false := ts_nt fun q => by
      obtain ⟨t, h1, h2⟩ := anyB_t.mp q
      have hz := tb_eq0.mp h t (by have := hv.1; omega)
      unfold mF at hz
      rw [tb_ofB _ (by have := hv.1; omega)] at hz
      exact pB_f.mp hz (Fl.src (decide_eq_true ⟨h1, of_decide_eq_true h2⟩))
    rw [this]; rfl
  · rw [decide_eq_true h]
    obtain ⟨i, hi, hb⟩ := tb_ne0.mp h
    have hf := (mF_in hv hb).1
    unfold mTh
    rw [decide_eq_true (show 0 < a by omega), Bool.and_true]
    refine Classical.byContradiction fun hn => ?_
    have hn : anyB (fun t => decide (m_liq v t = a)) (m_nS v) = false := ts_nt hn
    exact hf (fun _ => False) (fun t ht => by
      have := any_y (g := fun t => decide (m_liq v t = a)) (n := m_nS v) (i := t) (decide_eq_true (of_decide_eq_true ht).2) (of_decide_eq_true ht).1
      rw [hn] at this; cases this) (fun _ _ _ => ⟨fun q _ => q, fun q _ => q⟩)
