/-- the class's plant is the reference's -/
def CP (u : CSt) (v : MSt) : Prop :=
  MOk v ∧ k_nS u = m_nS v ∧ k_nV u = m_nV v ∧ (∀ t, t < m_nS v → k_lev u t = m_lev v t) ∧ (∀ a, a < 16 → ∀ t, tb (k_src u a) t = decide (t < m_nS v ∧ m_liq v t = a)) ∧
  (∀ a b, 1 ≤ a → a < 16 → 1 ≤ b → b < 16 → t32 (k_fr u a) b = m_may v (16 * a + b)) ∧ (∀ x, x < m_nV v → k_e1 u x = m_fa v x ∧ k_e2 u x = m_fb v x) ∧
  (∀ x, tb (k_opn u) x = (decide (x < m_nV v) && m_op v x)) ∧ (∀ x, tb (k_uns u) x = (decide (x < m_nV v) && m_un v x)) ∧ (∀ x, tb (k_dbl u) x = (decide (x < m_nV v) && decide (m_seat v x = 2))) ∧
  (∀ t, t < m_nS v → ∀ x, tb (k_ends u t) x = decide (x < m_nV v ∧ (m_fa v x = t ∨ m_fb v x = t))) ∧
  (∀ t, t < m_nS v → ∀ x, tb (k_fal u t) x = decide (x < m_nV v ∧ (m_fa v x = t ∧ m_lev v (m_fb v x) ≤ m_lev v t ∨ m_fb v x = t ∧ m_lev v (m_fa v x) ≤ m_lev v t))) ∧
  (∀ j, k_e1 u j < 64) ∧ (∀ j, k_e2 u j < 64) ∧ (∀ a b, 1 ≤ a → a < 16 → 1 ≤ b → b < 16 → m_may v (16 * a + b) = m_may v (16 * b + a))
theorem tb_kfl {f : Nat} (hf : f ≤ 64) (x : Nat) : tb (kfl f) x = decide (f = x + 1) := by
  unfold kfl
  by_cases h : f = 0
  · rw [if_pos h, tb_0, h]; simp
  · rw [if_neg h, tb_bt (by omega)]
    by_cases e : f = x + 1
    · simp [e]
    · have : ¬ x = f - 1 := by omega
      simp [e, this]
theorem kl_lets {u : CSt} {v : MSt} (h : CP u v) {f : Nat} (hf : f ≤ m_nV v) (x : Nat) : tb (kl u f) x = (decide (x < m_nV v) && mlets v x f) := by
  obtain ⟨h1, h2, h3, h4, h5, h6, h7, h8, h9, h10, -⟩ := h
  have hV := h1.2.1
  have n1 : ∀ y : Int64, ∀ i, 64 ≤ i → tb y i = false := fun y i hi => tb_big hi
  by_cases hx : x < m_nV v
  · have hx64 : x < 64 := by omega
    unfold kl
    rw [tb_or, tb_or, tb_andn, tb_andn, tb_andn, tb_andn, tb_andn, tb_kfl (by omega), h8, h9, h10]
    unfold mlets
    simp only [hx, decide_true, Bool.true_and]
    by_cases e1 : m_seat v x = 2 <;> cases m_op v x <;> cases m_un v x <;> by_cases e2 : f = x + 1 <;> simp [e1, e2]
  · unfold kl
    have e : ¬ f = x + 1 := by omega
    rw [tb_or, tb_or, tb_andn, tb_andn, tb_andn, tb_andn, tb_andn, tb_kfl (by omega), h8, h9, h10]
    simp [hx, e]
theorem tb_lw {u : CSt} {g : Nat → Int64} {x a b : Nat} (hb : b < 64) (s t : Nat) : tb (lw u g x a b s) t = true ↔ tb (g s) t = true ∨ (a = s ∧ b = t ∧ tb (k_fal u s) x = true) := by
  unfold lw
  by_cases h : tb (k_fal u a) x = true
  · rw [if_pos h]
    unfold va_up
    by_cases e : s = a
    · subst e
      rw [if_pos rfl, tb_or, Bool.or_eq_true, tb_bt hb]
      constructor
      · rintro (z | z)
        · exact Or.inl z
        · exact Or.inr ⟨rfl, (of_decide_eq_true z).symm, h⟩
      · rintro (z | ⟨-, z, -⟩)
        · exact Or.inl z
        · exact Or.inr (decide_eq_true z.symm)
    · rw [if_neg e]
      exact ⟨Or.inl, fun z => z.elim id fun z => absurd z.1.symm e⟩
  · rw [if_neg h]
    exact ⟨Or.inl, fun z => z.elim id fun z => absurd (by rw [z.1]; exact z.2.2) h⟩
theorem tb_kWs {u : CSt} {L : Int64} {g : Nat → Int64} (h1 : ∀ j, k_e1 u j < 64) (h2 : ∀ j, k_e2 u j < 64) (s t : Nat) : ∀ n, tb (kWs u L g n s) t = true ↔ tb (g s) t = true ∨ ∃ x, x < n ∧ tb L x = true ∧ tb (k_fal u s) x = true ∧ (k_e1 u x = s ∧ k_e2 u x = t ∨ k_e2 u x = s ∧ k_e1 u x = t)
  | 0 => ⟨Or.inl, fun z => z.elim id fun ⟨x, hx, _⟩ => absurd hx (Nat.not_lt_zero x)⟩
  | n + 1 => by
    have ih := tb_kWs (u := u) (L := L) (g := g) h1 h2 s t n
    show tb ((if tb L n = true then _ else kWs u L g n) s) t = true ↔ _
    by_cases hL : tb L n = true
    · rw [if_pos hL, tb_lw (h1 n), tb_lw (h2 n), ih]
      constructor
      · rintro (((z | ⟨x, a1, a2⟩) | z) | z)
        · exact Or.inl z
        · exact Or.inr ⟨x, by omega, a2⟩
        · exact Or.inr ⟨n, by omega, hL, z.2.2, Or.inl ⟨z.1, z.2.1⟩⟩
        · exact Or.inr ⟨n, by omega, hL, z.2.2, Or.inr ⟨z.1, z.2.1⟩⟩
      · rintro (z | ⟨x, a1, a2, a3, a4⟩)
        · exact Or.inl (Or.inl (Or.inl z))
        · by_cases e : x = n
          · subst e
            rcases a4 with z | z
            · exact Or.inl (Or.inr ⟨z.1, z.2, a3⟩)
            · exact Or.inr ⟨z.1, z.2, a3⟩
          · exact Or.inl (Or.inl (Or.inr ⟨x, by omega, a2, a3, a4⟩))
    · rw [if_neg hL, ih]
      constructor
      · rintro (z | ⟨x, a1, a2⟩)
        · exact Or.inl z
        · exact Or.inr ⟨x, by omega, a2⟩
      · rintro (z | ⟨x, a1, a2, a3⟩)
        · exact Or.inl z
        · by_cases e : x = n
          · subst e; exact absurd a2 hL
          · exact Or.inr ⟨x, by omega, a2, a3⟩
/-- the ways that are laid for failure f -/
def Laid (u : CSt) (v : MSt) (f : Nat) : Prop := (∀ x, tb (k_lett u) x = (decide (x < m_nV v) && mlets v x f)) ∧ ∃ g, (∀ t, t < m_nS v → g t = 0) ∧ k_ways u = kWs u (k_lett u) g (m_nV v)
theorem kF_mF {u : CSt} {v : MSt} (h : CP u v) {f : Nat} (hl : Laid u v f) {a : Nat} (ha : a < 16) : kF u a = mF v a f := by
  obtain ⟨h1, h2, h3, h4, h5, h6, h7, h8, h9, h10, h11, h12, h13, h14, -⟩ := h
  obtain ⟨l1, g, l2, l3⟩ := hl
  have hv := h1.2.2.2.2.2.2.2.2.1
  unfold kF mF
  refine ofB_congr fun t _ => pB_congr ?_
  have wy : ∀ s t, s < m_nS v → (tb (k_ways u s) t = true ↔ ∃ x, x < m_nV v ∧ mlets v x f = true ∧ tb (k_fal u s) x = true ∧ (m_fa v x = s ∧ m_fb v x = t ∨ m_fb v x = s ∧ m_fa v x = t)) := by
    intro s t hs
    rw [l3, tb_kWs h13 h14, l2 s hs, tb_0]
    constructor
    · rintro (z | ⟨x, a1, a2, a3, a4⟩)
      · cases z
      · rw [l1] at a2
        rw [(h7 x a1).1, (h7 x a1).2] at a4
        exact ⟨x, a1, (Bool.and_eq_true_iff.mp a2).2, a3, a4⟩
    · rintro ⟨x, a1, a2, a3, a4⟩
      refine Or.inr ⟨x, a1, by rw [l1, a2]; simp [a1], a3, ?_⟩
      rw [(h7 x a1).1, (h7 x a1).2]; exact a4
  constructor
  · intro z
    refine z (fun t => mFl v a f t) (fun i hi => ?_) (fun i j hi hj => ?_)
    · rw [h5 a ha] at hi; exact Fl.src hi
    · have his := mFl_lt h1 hi
      obtain ⟨x, a1, a2, a3, a4⟩ := (wy i j his).mp hj
      rw [h12 i his] at a3
      obtain ⟨-, a3⟩ := of_decide_eq_true a3
      obtain ⟨p1, p2, p3⟩ := hv x a1
      rcases a4 with ⟨b1, b2⟩ | ⟨b1, b2⟩
      · subst b1; subst b2
        rcases a3 with a3 | a3
        · exact (Fl.cl x a1 a2).1 hi a3.2
        · exact absurd a3.1.symm p3
      · subst b1; subst b2
        rcases a3 with a3 | a3
        · exact absurd a3.1 p3
        · exact (Fl.cl x a1 a2).2 hi a3.2
  · intro z
    refine z (fun t => kFl (k_ways u) (k_src u a) t) (fun i hi => ?_) (fun x hx hL => ?_)
    · intro X b1 b2; exact b1 i (by rw [h5 a ha]; exact hi)
    · obtain ⟨p1, p2, p3⟩ := hv x hx
      refine ⟨fun b1 b2 X c1 c2 => c2 _ _ (b1 X c1 c2) ((wy _ _ p1).mpr ⟨x, hx, hL, ?_, Or.inl ⟨rfl, rfl⟩⟩), fun b1 b2 X c1 c2 => c2 _ _ (b1 X c1 c2) ((wy _ _ p2).mpr ⟨x, hx, hL, ?_, Or.inr ⟨rfl, rfl⟩⟩)⟩
      · rw [h12 _ p1]; exact decide_eq_true ⟨hx, Or.inl ⟨rfl, b2⟩⟩
      · rw [h12 _ p2]; exact decide_eq_true ⟨hx, Or.inr ⟨rfl, b2⟩⟩
theorem tb_cX {u : CSt} {v : MSt} (h : CP u v) {x : Int64} (hx : ∀ i, tb x i = true → i < m_nS v) (y : Nat) : ∀ s, tb (cX (k_ends u) x s) y = (decide (y < m_nV v) && ((tb x (m_fa v y) && decide (m_fa v y < s)) ^^ (tb x (m_fb v y) && decide (m_fb v y < s))))
  | 0 => by show tb 0 y = _; rw [tb_0]; simp
  | s + 1 => by
    have ih := tb_cX h hx y s
    obtain ⟨h1, -, -, -, -, -, -, -, -, -, h11, -⟩ := h
    have hv := h1.2.2.2.2.2.2.2.2.1
    show tb (if tb x s = true then cX (k_ends u) x s ^^^ k_ends u s else cX (k_ends u) x s) y = _
    by_cases hs : tb x s = true
    · rw [if_pos hs, tb_xor, ih, h11 s (hx s hs)]
      by_cases hy : y < m_nV v
      · obtain ⟨-, -, p3⟩ := hv y hy
        by_cases ea : m_fa v y = s
        · have eb : ¬ m_fb v y = s := fun q => p3 (ea.trans q.symm)
          have e2 : (m_fb v y < s + 1) = (m_fb v y < s) := propext ⟨fun q => by omega, fun q => by omega⟩
          rw [ea]; simp [hy, hs, e2]
        · by_cases eb : m_fb v y = s
          · have e2 : (m_fa v y < s + 1) = (m_fa v y < s) := propext ⟨fun q => by omega, fun q => by omega⟩
            rw [eb]; simp [hy, hs, ea, e2]
          · have e2 : (m_fa v y < s + 1) = (m_fa v y < s) := propext ⟨fun q => by omega, fun q => by omega⟩
            have e3 : (m_fb v y < s + 1) = (m_fb v y < s) := propext ⟨fun q => by omega, fun q => by omega⟩
            simp [hy, ea, eb, e2, e3]
      · simp [hy]
    · rw [if_neg hs, ih]
      have z : ∀ i, (tb x i && decide (i < s + 1)) = (tb x i && decide (i < s)) := by
        intro i
        by_cases e : i = s
        · subst e; rw [ts_nt hs]; rfl
        · have e2 : (i < s + 1) = (i < s) := propext ⟨fun q => by omega, fun q => by omega⟩
          simp [e2]
      rw [z, z]
theorem tb_cO {u : CSt} {v : MSt} (h : CP u v) {x : Int64} (hx : ∀ i, tb x i = true → i < m_nS v) (y : Nat) : ∀ s, tb (cO (k_fal u) x s) y = true ↔ y < m_nV v ∧ ((tb x (m_fa v y) = true ∧ m_fa v y < s ∧ m_lev v (m_fb v y) ≤ m_lev v (m_fa v y)) ∨ (tb x (m_fb v y) = true ∧ m_fb v y < s ∧ m_lev v (m_fa v y) ≤ m_lev v (m_fb v y)))
  | 0 => by show tb 0 y = true ↔ _; rw [tb_0]; simp
  | s + 1 => by
    have ih := tb_cO h hx y s
    obtain ⟨h1, -, -, -, -, -, -, -, -, -, -, h12, -⟩ := h
    show tb (if tb x s = true then cO (k_fal u) x s ||| k_fal u s else cO (k_fal u) x s) y = true ↔ _
    by_cases hs : tb x s = true
    · rw [if_pos hs, tb_or, Bool.or_eq_true, ih, h12 s (hx s hs), decide_eq_true_iff]
      constructor
      · rintro (⟨a, b | b⟩ | ⟨a, b | b⟩)
        · exact ⟨a, Or.inl ⟨b.1, by omega, b.2.2⟩⟩
        · exact ⟨a, Or.inr ⟨b.1, by omega, b.2.2⟩⟩
        · exact ⟨a, Or.inl ⟨by rw [b.1]; exact hs, by omega, by rw [b.1]; exact b.2⟩⟩
        · exact ⟨a, Or.inr ⟨by rw [b.1]; exact hs, by omega, by rw [b.1]; exact b.2⟩⟩
      · rintro ⟨a, b | b⟩
        · by_cases e : m_fa v y = s
          · exact Or.inr ⟨a, Or.inl ⟨e, by rw [← e]; exact b.2.2⟩⟩
          · exact Or.inl ⟨a, Or.inl ⟨b.1, by omega, b.2.2⟩⟩
        · by_cases e : m_fb v y = s
          · exact Or.inr ⟨a, Or.inr ⟨e, by rw [← e]; exact b.2.2⟩⟩
          · exact Or.inl ⟨a, Or.inr ⟨b.1, by omega, b.2.2⟩⟩
    · rw [if_neg hs, ih]
      constructor
      · rintro ⟨a, b | b⟩
        · exact ⟨a, Or.inl ⟨b.1, by omega, b.2.2⟩⟩
        · exact ⟨a, Or.inr ⟨b.1, by omega, b.2.2⟩⟩
      · rintro ⟨a, b | b⟩
        · refine ⟨a, Or.inl ⟨b.1, ?_, b.2.2⟩⟩
          have : m_fa v y ≠ s := fun q => hs (by rw [← q]; exact b.1)
          omega
        · refine ⟨a, Or.inr ⟨b.1, ?_, b.2.2⟩⟩
          have : m_fb v y ≠ s := fun q => hs (by rw [← q]; exact b.1)
          omega
theorem kC_mC {u : CSt} {v : MSt} (h : CP u v) {f : Nat} (hl : Laid u v f) {x : Int64} (hx : ∀ i, tb x i = true → i < m_nS v) : kC u x = mC v x f := by
  refine ofB_eq fun y _ => ?_
  have c1 := tb_cX h hx y 64
  have c2 := tb_cO h hx y 64
  obtain ⟨h1, -⟩ := h
  have k5 := h1.2.2.2.2.1 y
  have k6 := h1.2.2.2.2.2.1 y
  unfold kC
  rw [tb_andn, tb_and, hl.1 y, c1]
  by_cases hy : y < m_nV v
  · simp only [hy, k5, k6, decide_true, Bool.true_and, Bool.and_true] at c2 ⊢
    unfold mCb
    cases ea : tb x (m_fa v y) <;> cases eb : tb x (m_fb v y)
    · simp
    · have : tb (cO (k_fal u) x 64) y = decide (m_lev v (m_fa v y) ≤ m_lev v (m_fb v y)) := by
        by_cases q : m_lev v (m_fa v y) ≤ m_lev v (m_fb v y)
        · rw [decide_eq_true q]; exact c2.mpr ⟨trivial, Or.inr ⟨eb, trivial, q⟩⟩
        · rw [decide_eq_false q]; exact ts_nt fun z => by
            rcases (c2.mp z).2 with w | w
            · rw [ea] at w; exact absurd w.1 (by decide)
            · exact q w.2.2
      rw [this]; simp [Bool.and_comm]
    · have : tb (cO (k_fal u) x 64) y = decide (m_lev v (m_fb v y) ≤ m_lev v (m_fa v y)) := by
        by_cases q : m_lev v (m_fb v y) ≤ m_lev v (m_fa v y)
        · rw [decide_eq_true q]; exact c2.mpr ⟨trivial, Or.inl ⟨ea, trivial, q⟩⟩
        · rw [decide_eq_false q]; exact ts_nt fun z => by
            rcases (c2.mp z).2 with w | w
            · exact q w.2.2
            · rw [eb] at w; exact absurd w.1 (by decide)
      rw [this]; simp [Bool.and_comm]
    · simp
  · simp [hy]
theorem mF_in {v : MSt} (hv : MOk v) {a f i : Nat} (h : tb (mF v a f) i = true) : mFl v a f i ∧ i < m_nS v := by
  have hi := tb_lt h
  unfold mF at h
  rw [tb_ofB _ hi] at h
  have := pB_t.mp h
  exact ⟨this, mFl_lt hv this⟩
theorem mF_th {v : MSt} (hv : MOk v) {a f : Nat} (ha : 1 ≤ a) : mTh v a = decide (¬ mF v a f = 0) := by
  by_cases h : mF v a f = 0
  · rw [decide_eq_false (fun q => q h)]
    unfold mTh
    have : anyB (fun t => decide (m_liq v t = a)) (m_nS v) = false := ts_nt fun q => by
      obtain ⟨t, h1, h2⟩ := anyB_t.mp q
      have hz := tb_eq0.mp h t (by have := hv.1; omega)
      unfold mF at hz
      rw [tb_ofB _ (by have := hv.1; omega)] at hz
      exact pB_f.mp hz (Fl.src (decide_eq_true ⟨h1, of_decide_eq_true h2⟩))
    rw [this]; rfl
  · rw [decide_eq_true h]
    obtain ⟨i, hi, hb⟩ := tb_ne0.mp h
    have hf := (mF_in hv hb).1
    unfold mTh
    rw [decide_eq_true (show 0 < a by omega), Bool.and_true]
    refine Classical.byContradiction fun hn => ?_
    have hn : anyB (fun t => decide (m_liq v t = a)) (m_nS v) = false := ts_nt hn
    exact hf (fun _ => False) (fun t ht => by
      have := any_y (g := fun t => decide (m_liq v t = a)) (n := m_nS v) (i := t) (decide_eq_true (of_decide_eq_true ht).2) (of_decide_eq_true ht).1
      rw [hn] at this; cases this) (fun _ _ _ => ⟨fun q _ => q, fun q _ => q⟩)
theorem CP_cg {u U : CSt} {v : MSt} (h : CP u v) (e1 : k_nS U = k_nS u) (e2 : k_nV U = k_nV u) (e3 : k_lev U = k_lev u) (e4 : k_src U = k_src u) (e5 : k_fr U = k_fr u) (e6 : k_e1 U = k_e1 u) (e7 : k_e2 U = k_e2 u) (e8 : k_opn U = k_opn u) (e9 : k_uns U = k_uns u) (e10 : k_dbl U = k_dbl u) (e11 : k_ends U = k_ends u) (e12 : k_fal U = k_fal u) : CP U v := by
  unfold CP at h ⊢
  rw [e1, e2, e3, e4, e5, e6, e7, e8, e9, e10, e11, e12]
  exact h
theorem kWs_cg {u U : CSt} {L : Int64} {g : Nat → Int64} (e6 : k_e1 U = k_e1 u) (e7 : k_e2 U = k_e2 u) (e12 : k_fal U = k_fal u) : ∀ n, kWs U L g n = kWs u L g n
  | 0 => rfl
  | n + 1 => by
    have ih := kWs_cg (L := L) (g := g) e6 e7 e12 n
    show (if tb L n = true then lw U (lw U (kWs U L g n) n (k_e1 U n) (k_e2 U n)) n (k_e2 U n) (k_e1 U n) else kWs U L g n) = if tb L n = true then lw u (lw u (kWs u L g n) n (k_e1 u n) (k_e2 u n)) n (k_e2 u n) (k_e1 u n) else kWs u L g n
    rw [ih, e6, e7, lw_cg (u := U) (v := u) e12, lw_cg (u := U) (v := u) e12]
/-- behind lay -/
theorem Laid_of {u U V : CSt} {v : MSt} {f : Nat} {g : Nat → Int64} (h : CP u v) (hf : f ≤ m_nV v) (hg : ∀ t, t < k_nS U → g t = 0) (hL : kl U f = k_lett V) (hw : kWs U (k_lett V) g (k_nV U) = k_ways V)
    (e1 : k_nS U = k_nS u) (e2 : k_nV U = k_nV u) (e6 : k_e1 V = k_e1 U) (e7 : k_e2 V = k_e2 U) (e12 : k_fal V = k_fal U) (e8 : k_opn U = k_opn u) (e9 : k_uns U = k_uns u) (e10 : k_dbl U = k_dbl u) : Laid V v f := by
  refine ⟨fun x => ?_, g, fun t ht => hg t (by rw [e1, h.2.1]; exact ht), ?_⟩
  · rw [← hL, kl_cg (v := u) e8 e9 e10]; exact kl_lets h hf x
  · rw [← hw, kWs_cg e6 e7 e12, e2, h.2.2.1]
/-- the floods that are laid for failure f -/
def Flo (u : CSt) (v : MSt) (f : Nat) : Prop := ∀ a, 1 ≤ a → a < 16 → k_fls u a = mF v a f
theorem th_of {v : MSt} (hv : MOk v) {a f t : Nat} (ha : 1 ≤ a) (h : tb (mF v a f) t = true) : mTh v a = true := by
  rw [mF_th hv (f := f) ha]
  exact decide_eq_true (tb_ne0.mpr ⟨t, tb_lt h, h⟩)
theorem meet_iff {u : CSt} {v : MSt} {f : Nat} {r : Int64} (h : CP u v) (hF : Flo u v f) (hM : MTa (kM u) 16 r) (t : Nat) : tb r t = true ↔ ∃ a b, mCl v f t a b := by
  rw [hM t]
  have h6 := h.2.2.2.2.2.1
  constructor
  · rintro ⟨p, q, a1, a2, a3, a4, b1, b2, b3⟩
    rw [hF p a1 (by omega)] at b2
    rw [hF q (by omega) a4] at b3
    rw [h6 p q a1 (by omega) (by omega) a4] at b1
    exact ⟨p, q, th_of h.1 a1 b2, th_of h.1 (by omega) b3, a3, a4, b2, b3, b1⟩
  · rintro ⟨a, b, c1, c2, c3, c4, c5, c6, c7⟩
    have ha : 1 ≤ a := by
      rcases Nat.eq_zero_or_pos a with z | z
      · rw [z, mTh_0] at c1; cases c1
      · exact z
    refine ⟨a, b, ha, by omega, c3, c4, ?_, ?_, ?_⟩
    · rw [h6 a b ha (by omega) (by omega) c4]; exact c7
    · rw [hF a ha (by omega)]; exact c5
    · rw [hF b (by omega) c4]; exact c6
theorem no_meet {u : CSt} {v : MSt} {f : Nat} {r : Int64} (h : CP u v) (hF : Flo u v f) (hM : MTa (kM u) 16 r) (hr : r = 0) : mNo v f := by
  intro t a b _ hc
  have := (meet_iff h hF hM t).mpr ⟨a, b, hc⟩
  rw [hr, tb_0] at this; cases this
/-- what leastClashing asks of a liquid, said of the reference's state -/
theorem kcl_iff {u : CSt} {v : MSt} {f p a o : Nat} (h : CP u v) (hF : Flo u v f) (hp : p < 64) (ha : 1 ≤ a) (ha2 : a < 16) (ho2 : o < 16) : kcl u a (bt p) o = true ↔ 1 ≤ o ∧ ¬ o = a ∧ tb (mF v o f) p = true ∧ m_may v (16 * a + o) = false := by
  rw [kcl_t]
  constructor
  · rintro ⟨a1, a2, a3, a4⟩
    refine ⟨a1, a2, ts_nf fun q => a3 ?_, ?_⟩
    · rw [hF o a1 ho2]; exact (tb_has _ hp).mpr q
    · rw [← h.2.2.2.2.2.1 a o ha ha2 a1 ho2]; exact a4
  · rintro ⟨a1, a2, a3, a4⟩
    refine ⟨a1, a2, fun q => ?_, ?_⟩
    · rw [hF o a1 ho2] at q
      exact absurd (a3.symm.trans ((tb_has _ hp).mp q)) (by decide)
    · rw [h.2.2.2.2.2.1 a o ha ha2 a1 ho2]; exact a4
theorem kLC0 {u : CSt} {v : MSt} {f p a : Nat} (h : CP u v) (hF : Flo u v f) (hp : p < 64) (ha : 1 ≤ a) (ha2 : a < 16) : kLC u p 0 a ↔ ∃ o, 1 ≤ o ∧ o < 16 ∧ ¬ o = a ∧ tb (mF v a f) p = true ∧ tb (mF v o f) p = true ∧ m_may v (16 * a + o) = false := by
  unfold kLC
  rw [if_pos rfl, hF a ha ha2, anyB_t]
  constructor
  · rintro ⟨b1, -, o, b3, b4⟩
    obtain ⟨c1, c2, c3, c4⟩ := (kcl_iff h hF hp ha ha2 b3).mp b4
    exact ⟨o, c1, b3, c2, b1, c3, c4⟩
  · rintro ⟨o, c1, c2, c3, c4, c5, c6⟩
    exact ⟨c4, by omega, o, c2, (kcl_iff h hF hp ha ha2 c2).mpr ⟨c1, c3, c5, c6⟩⟩
theorem kLC1 {u : CSt} {v : MSt} {f p a o : Nat} (h : CP u v) (hF : Flo u v f) (ha : 1 ≤ a) (ha2 : a < 16) (ho : 1 ≤ o) (ho2 : o < 16) : kLC u p a o ↔ tb (mF v o f) p = true ∧ ¬ o = a ∧ m_may v (16 * a + o) = false := by
  unfold kLC
  rw [if_neg (by omega), hF o ho ho2, h.2.2.2.2.2.1 o a ho ho2 ha ha2, h.2.2.2.2.2.2.2.2.2.2.2.2.2.2 o a ho ho2 ha ha2]
theorem sym_may {u : CSt} {v : MSt} (h : CP u v) {a b : Nat} (ha : 1 ≤ a) (ha2 : a < 16) (hb : 1 ≤ b) (hb2 : b < 16) : m_may v (16 * a + b) = m_may v (16 * b + a) := h.2.2.2.2.2.2.2.2.2.2.2.2.2.2 a b ha ha2 hb hb2
/-- the culprit that the class keeps is the reference's -/
theorem keep_cul {u : CSt} {v : MSt} {f a : Nat} {r : Int64} {r2 : Int32} (h : CP u v) (hF : Flo u v f) (hM : MTa (kM u) 16 r) (hr : ¬ r = 0) (ha : 1 ≤ a) (ha2 : a < 16) (hK : kLC u (lowN r) 0 a) (hm : ∀ o, 1 ≤ o → o < a → ¬ kLC u (lowN r) 0 o)
    (h2 : (∃ o, 1 ≤ o ∧ o < 16 ∧ kLC u (lowN r) a o ∧ (∀ o2, 1 ≤ o2 → o2 < o → ¬ kLC u (lowN r) a o2) ∧ r2 = nI o) ∨ ((∀ o, 1 ≤ o → o < 16 → ¬ kLC u (lowN r) a o) ∧ r2 = -1)) : ∃ b, mCul v f (lowN r) a b ∧ r2 = nI b := by
  obtain ⟨q1, q2, q3, -⟩ := lowN_spec r hr
  obtain ⟨o, c1, c2, c3, c4, c5, c6⟩ := (kLC0 h hF q1 ha ha2).mp hK
  -- all that clash with a are greater
  have big : ∀ x, 1 ≤ x → x < 16 → ¬ x = a → tb (mF v x f) (lowN r) = true → m_may v (16 * a + x) = false → a < x := by
    intro x x1 x2 x3 x4 x5
    rcases Nat.lt_or_ge a x with z | z
    · exact z
    · refine absurd ((kLC0 h hF q1 x1 x2).mpr ⟨a, ha, ha2, fun q => x3 q.symm, x4, c4, ?_⟩) (hm x x1 (by omega))
      rw [sym_may h x1 x2 ha ha2]; exact x5
  rcases h2 with ⟨b, b1, b2, b3, b4, b5⟩ | ⟨b1, -⟩
  · obtain ⟨d1, d2, d3⟩ := (kLC1 h hF ha ha2 b1 b2).mp b3
    refine ⟨b, ⟨(mF_in h.1 c4).2, ⟨th_of h.1 ha c4, th_of h.1 b1 d1, big b b1 b2 d2 d1 d3, b2, c4, d1, d3⟩, ?_, ?_, ?_⟩, b5⟩
    · intro t ht x y hc
      have := (meet_iff h hF hM t).mpr ⟨x, y, hc⟩
      rw [q3 t ht] at this; cases this
    · intro x hx y hc
      obtain ⟨e1, e2, e3, e4, e5, e6, e7⟩ := hc
      have x1 : 1 ≤ x := by
        rcases Nat.eq_zero_or_pos x with z | z
        · rw [z, mTh_0] at e1; cases e1
        · exact z
      exact hm x x1 hx ((kLC0 h hF q1 x1 (by omega)).mpr ⟨y, by omega, e4, by omega, e5, e6, e7⟩)
    · intro y hy hc
      obtain ⟨e1, e2, e3, e4, e5, e6, e7⟩ := hc
      exact b4 y (by omega) hy ((kLC1 h hF ha ha2 (by omega) e4).mpr ⟨e6, by omega, e7⟩)
  · exact absurd ((kLC1 h hF ha ha2 c1 c2).mpr ⟨c5, c3, c6⟩) (b1 o c1 c2)
theorem has_clash {u : CSt} {v : MSt} {f : Nat} {r : Int64} (h : CP u v) (hF : Flo u v f) (hM : MTa (kM u) 16 r) (hr : ¬ r = 0) : ∃ o, 1 ≤ o ∧ o < 16 ∧ kLC u (lowN r) 0 o := by
  obtain ⟨q1, q2, -, -⟩ := lowN_spec r hr
  obtain ⟨a, b, e1, e2, e3, e4, e5, e6, e7⟩ := (meet_iff h hF hM _).mp q2
  have a1 : 1 ≤ a := by
    rcases Nat.eq_zero_or_pos a with z | z
    · rw [z, mTh_0] at e1; cases e1
    · exact z
  exact ⟨a, a1, by omega, (kLC0 h hF q1 a1 (by omega)).mpr ⟨b, by omega, e4, by omega, e5, e6, e7⟩⟩
theorem kt_cg {u U : CSt} {x k : Nat} (e1 : k_pf U = k_pf u) (e2 : k_pw U k = k_pw u k) (e3 : k_e1 U = k_e1 u) (e4 : k_e2 U = k_e2 u) : kt U x k = kt u x k := by unfold kt; rw [e1, e2, e3, e4]
theorem m1_ne {n : Nat} (h : n < 2 ^ 31) : ¬ nI n = -1 := fun q => by
  have h1 := nI_toInt h
  rw [q] at h1
  have h2 : (-1 : Int32).toInt = -1 := by decide
  omega
/-- what is laid when a row is come to -/
def LaQ (U : CSt) (v : MSt) (la : Int32) : Prop := la = -1 ∨ ∃ f, la = nI f ∧ f ≤ m_nV v ∧ Laid U v f
theorem LaQ_at {U : CSt} {v : MSt} {la : Int32} {n : Nat} (h : LaQ U v la) (hv : MOk v) (hn : n < 65) (e : nI n = la) : Laid U v n := by
  rcases h with z | ⟨f, z, hf, hl⟩
  · exact absurd (e.trans z) (m1_ne (by omega))
  · have hV := hv.2.1
    have : n = f := (nI_eq (by omega) (by omega)).mp (e.trans z)
    rw [this]; exact hl
theorem Laid_cg {U V : CSt} {v : MSt} {f : Nat} (h : Laid U v f) (e1 : k_lett V = k_lett U) (e2 : k_ways V = k_ways U) (e6 : k_e1 V = k_e1 U) (e7 : k_e2 V = k_e2 U) (e12 : k_fal V = k_fal U) : Laid V v f := by
  obtain ⟨h1, g, h2, h3⟩ := h
  refine ⟨fun x => by rw [e1]; exact h1 x, g, h2, ?_⟩
  rw [e2, h3, e1, kWs_cg e6 e7 e12]
theorem LaQ_cg {U V : CSt} {v : MSt} {la : Int32} (h : LaQ U v la) (e1 : k_lett V = k_lett U) (e2 : k_ways V = k_ways U) (e6 : k_e1 V = k_e1 U) (e7 : k_e2 V = k_e2 U) (e12 : k_fal V = k_fal U) : LaQ V v la := by
  rcases h with z | ⟨f, z, hf, hl⟩
  · exact Or.inl z
  · exact Or.inr ⟨f, z, hf, Laid_cg hl e1 e2 e6 e7 e12⟩
