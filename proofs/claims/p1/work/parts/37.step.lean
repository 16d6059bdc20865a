/-! the relation of the two states, call by call -/
theorem be1 {b : Bool} {P : Prop} [Decidable P] : b = decide P ↔ (b = true ↔ P) := by
  by_cases h : P
  · rw [decide_eq_true h]; exact ⟨fun e => ⟨fun _ => h, fun _ => e⟩, fun e => e.mpr h⟩
  · rw [decide_eq_false h]; exact ⟨fun e => ⟨fun q => absurd (q.symm.trans e) (by decide), fun q => absurd q h⟩, fun e => ts_nt (fun q => h (e.mp q))⟩
theorem be2 {b c : Bool} {P : Prop} [Decidable P] : b = (decide P && c) ↔ (b = true ↔ P ∧ c = true) := by
  rw [show (decide P && c) = decide (P ∧ c = true) by cases c <;> simp]; exact be1
theorem up_s {β : Type} {g : Nat → β} {k : Nat} {x : β} : va_up g k x k = x := va_up_self _ _ _
/-- the plant's relation, said by 'iff' -/
def CQ (u : CSt) (v : MSt) : Prop :=
  MOk v ∧ k_nS u = m_nS v ∧ k_nV u = m_nV v ∧ (∀ t, t < m_nS v → k_lev u t = m_lev v t) ∧ (∀ a, a < 16 → ∀ t, tb (k_src u a) t = true ↔ (t < m_nS v ∧ m_liq v t = a)) ∧
  (∀ a b, 1 ≤ a → a < 16 → 1 ≤ b → b < 16 → t32 (k_fr u a) b = m_may v (16 * a + b)) ∧ (∀ x, x < m_nV v → k_e1 u x = m_fa v x ∧ k_e2 u x = m_fb v x) ∧
  (∀ x, tb (k_opn u) x = true ↔ (x < m_nV v ∧ m_op v x = true)) ∧ (∀ x, tb (k_uns u) x = true ↔ (x < m_nV v ∧ m_un v x = true)) ∧ (∀ x, tb (k_dbl u) x = true ↔ (x < m_nV v ∧ m_seat v x = 2)) ∧
  (∀ t, t < m_nS v → ∀ x, tb (k_ends u t) x = true ↔ (x < m_nV v ∧ (m_fa v x = t ∨ m_fb v x = t))) ∧
  (∀ t, t < m_nS v → ∀ x, tb (k_fal u t) x = true ↔ (x < m_nV v ∧ (m_fa v x = t ∧ m_lev v (m_fb v x) ≤ m_lev v t ∨ m_fb v x = t ∧ m_lev v (m_fa v x) ≤ m_lev v t))) ∧
  (∀ j, k_e1 u j < 64) ∧ (∀ j, k_e2 u j < 64) ∧ (∀ a b, 1 ≤ a → a < 16 → 1 ≤ b → b < 16 → m_may v (16 * a + b) = m_may v (16 * b + a))
theorem CQ_P {u : CSt} {v : MSt} : CP u v ↔ CQ u v := by
  unfold CP CQ
  constructor
  · rintro ⟨h1, h2, h3, h4, h5, h6, h7, h8, h9, h10, h11, h12, h13, h14, h15⟩
    refine ⟨h1, h2, h3, h4, fun a ha t => be1.mp (h5 a ha t), h6, h7, fun x => be2.mp (h8 x), fun x => be2.mp (h9 x), fun x => ?_, fun t ht x => be1.mp (h11 t ht x), fun t ht x => be1.mp (h12 t ht x), h13, h14, h15⟩
    have := be2.mp (h10 x); rw [decide_eq_true_eq] at this; exact this
  · rintro ⟨h1, h2, h3, h4, h5, h6, h7, h8, h9, h10, h11, h12, h13, h14, h15⟩
    refine ⟨h1, h2, h3, h4, fun a ha t => be1.mpr (h5 a ha t), h6, h7, fun x => be2.mpr (h8 x), fun x => be2.mpr (h9 x), fun x => be2.mpr ?_, fun t ht x => be1.mpr (h11 t ht x), fun t ht x => be1.mpr (h12 t ht x), h13, h14, h15⟩
    rw [decide_eq_true_eq]; exact h10 x
theorem CP_cg2 {u U : CSt} {v V : MSt} (h : CP u v) (hV : MOk V) (e1 : k_nS U = k_nS u) (e2 : k_nV U = k_nV u) (e3 : k_lev U = k_lev u) (e4 : k_src U = k_src u) (e5 : k_fr U = k_fr u) (e6 : k_e1 U = k_e1 u) (e7 : k_e2 U = k_e2 u) (e8 : k_opn U = k_opn u) (e9 : k_uns U = k_uns u) (e10 : k_dbl U = k_dbl u) (e11 : k_ends U = k_ends u) (e12 : k_fal U = k_fal u)
    (f1 : m_nS V = m_nS v) (f2 : m_nV V = m_nV v) (f3 : m_lev V = m_lev v) (f4 : m_liq V = m_liq v) (f5 : m_may V = m_may v) (f6 : m_fa V = m_fa v) (f7 : m_fb V = m_fb v) (f8 : m_op V = m_op v) (f9 : m_un V = m_un v) (f10 : m_seat V = m_seat v) : CP U V := by
  unfold CP at h ⊢
  rw [e1, e2, e3, e4, e5, e6, e7, e8, e9, e10, e11, e12, f1, f2, f3, f4, f5, f6, f7, f8, f9, f10]
  exact ⟨hV, h.2⟩
/-- space -/
theorem CP_space {u U : CSt} {v V : MSt} {a : Nat} (h : CP u v) (ha : a < 16) (hn : m_nS v < 64) (e1 : k_nS U = k_nS u + 1) (e2 : k_nV U = k_nV u) (e3 : k_lev U = va_up (k_lev u) (k_nS u) 0) (e4 : k_src U = va_up (k_src u) a (k_src u a ||| bt (k_nS u))) (e5 : k_fr U = k_fr u) (e6 : k_e1 U = k_e1 u) (e7 : k_e2 U = k_e2 u) (e8 : k_opn U = k_opn u) (e9 : k_uns U = k_uns u) (e10 : k_dbl U = k_dbl u) (e11 : k_ends U = va_up (k_ends u) (k_nS u) 0) (e12 : k_fal U = va_up (k_fal u) (k_nS u) 0)
    (f1 : m_nS V = m_nS v + 1) (f2 : m_nV V = m_nV v) (f3 : m_lev V = va_up (m_lev v) (m_nS v) 0) (f4 : m_liq V = va_up (m_liq v) (m_nS v) a) (f5 : m_may V = m_may v) (f6 : m_fa V = m_fa v) (f7 : m_fb V = m_fb v) (f8 : m_op V = m_op v) (f9 : m_un V = m_un v) (f10 : m_seat V = m_seat v) (hV : MOk V) : CP U V := by
  rw [CQ_P] at h ⊢
  obtain ⟨h1, h2, h3, h4, h5, h6, h7, h8, h9, h10, h11, h12, h13, h14, h15⟩ := h
  have hv := h1.2.2.2.2.2.2.2.2.1
  unfold CQ
  rw [e1, e2, e3, e4, e5, e6, e7, e8, e9, e10, e11, e12, f1, f2, f3, f4, f5, f6, f7, f8, f9, f10]
  refine ⟨hV, by rw [h2], h3, fun t ht => ?_, fun b hb t => ?_, h6, h7, h8, h9, h10, fun t ht x => ?_, fun t ht x => ?_, h13, h14, h15⟩
  · rw [h2]
    by_cases e : t = m_nS v
    · subst e; rw [up_s, up_s]
    · rw [va_up_ne _ _ e, va_up_ne _ _ e]; exact h4 t (by omega)
  · have hb2 : tb (va_up (k_src u) a (k_src u a ||| bt (k_nS u)) b) t = true ↔ tb (k_src u b) t = true ∨ (b = a ∧ t = m_nS v) := by
      by_cases e : b = a
      · subst e; rw [up_s, tb_or, h2, tb_bt hn]; simp
      · rw [va_up_ne _ _ e]; simp [e]
    rw [hb2, h5 b hb t]
    by_cases e : t = m_nS v
    · subst e; rw [up_s]; simp; exact ⟨fun q => q.symm, fun q => q.symm⟩
    · rw [va_up_ne _ _ e]; simp [e]; omega
  · rw [h2]
    by_cases e : t = m_nS v
    · subst e; rw [up_s, tb_0]
      refine ⟨fun q => absurd q (by decide), fun ⟨q1, q2⟩ => ?_⟩
      have := hv x q1; omega
    · rw [va_up_ne _ _ e]; exact h11 t (by omega) x
  · rw [h2]
    by_cases e : t = m_nS v
    · subst e; rw [up_s, tb_0]
      refine ⟨fun q => absurd q (by decide), fun ⟨q1, q2⟩ => ?_⟩
      have := hv x q1
      rcases q2 with q2 | q2 <;> omega
    · rw [va_up_ne _ _ e, va_up_ne _ _ e, h12 t (by omega) x]
      constructor
      · rintro ⟨q1, q2⟩
        have := hv x q1
        rw [va_up_ne _ _ (show m_fa v x ≠ m_nS v by omega), va_up_ne _ _ (show m_fb v x ≠ m_nS v by omega)]
        exact ⟨q1, q2⟩
      · rintro ⟨q1, q2⟩
        have := hv x q1
        rw [va_up_ne _ _ (show m_fa v x ≠ m_nS v by omega), va_up_ne _ _ (show m_fb v x ≠ m_nS v by omega)] at q2
        exact ⟨q1, q2⟩
/-- what measure makes -/
theorem tb_kms {u : CSt} {x : Nat} (hx : x < 64) (he : k_e1 u x ≠ k_e2 u x) (s y : Nat) : tb (kms u x s) y = true ↔ (y ≠ x ∧ tb (k_fal u s) y = true) ∨ (y = x ∧ (k_e1 u x = s ∧ k_lev u (k_e2 u x) ≤ k_lev u (k_e1 u x) ∨ k_e2 u x = s ∧ k_lev u (k_e1 u x) ≤ k_lev u (k_e2 u x) ∨ k_e1 u x ≠ s ∧ k_e2 u x ≠ s ∧ tb (k_fal u s) x = true)) := by
  unfold kms
  by_cases e2 : s = k_e2 u x
  · rw [e2, up_s, va_up_ne _ _ (Ne.symm he), tb_wth _ hx]
    by_cases e : y = x
    · rw [if_pos e]; simp [e, he]
    · rw [if_neg e]; simp [e]
  · rw [va_up_ne _ _ e2]
    by_cases e1 : s = k_e1 u x
    · rw [e1, up_s, tb_wth _ hx]
      by_cases e : y = x
      · rw [if_pos e]; simp [e, Ne.symm he]
      · rw [if_neg e]; simp [e]
    · rw [va_up_ne _ _ e1]
      by_cases e : y = x
      · subst e
        refine ⟨fun q => Or.inr ⟨rfl, Or.inr (Or.inr ⟨fun z => e1 z.symm, fun z => e2 z.symm, q⟩)⟩, fun q => ?_⟩
        rcases q with q | ⟨-, q | q | q⟩
        · exact absurd rfl q.1
        · exact absurd q.1.symm e1
        · exact absurd q.1.symm e2
        · exact q.2.2
      · refine ⟨fun q => Or.inl ⟨e, q⟩, fun q => ?_⟩
        rcases q with q | q
        · exact q.2
        · exact absurd q.1 e
/-- valve -/
theorem CP_valve {u U U1 : CSt} {v V : MSt} {a b k : Nat} {tw o : Bool} (h : CP u v) (ha : a < m_nS v) (hb : b < m_nS v) (hab : a ≠ b) (hn : m_nV v < 64) (htw : tw = true ↔ k = 2) (e1 : k_nS U = k_nS u) (e2 : k_nV U = k_nV u + 1) (e3 : k_lev U = k_lev u) (e4 : k_src U = k_src u) (e5 : k_fr U = k_fr u) (e6 : k_e1 U = va_up (k_e1 u) (k_nV u) a) (e7 : k_e2 U = va_up (k_e2 u) (k_nV u) b) (e8 : k_opn U = wth (k_opn u) (k_nV u) o) (e9 : k_uns U = k_uns u) (e10 : k_dbl U = if tw = true then k_dbl u ||| bt (k_nV u) else k_dbl u)
    (e11 : k_ends U = va_up (va_up (k_ends u) a (k_ends u a ||| bt (k_nV u))) b ((va_up (k_ends u) a (k_ends u a ||| bt (k_nV u))) b ||| bt (k_nV u))) (e12 : k_fal U = kms U1 (k_nV u)) (g1 : k_lev U1 = k_lev u) (g2 : k_fal U1 = k_fal u) (g3 : k_e1 U1 = va_up (k_e1 u) (k_nV u) a) (g4 : k_e2 U1 = va_up (k_e2 u) (k_nV u) b)
    (f1 : m_nS V = m_nS v) (f2 : m_nV V = m_nV v + 1) (f3 : m_lev V = m_lev v) (f4 : m_liq V = m_liq v) (f5 : m_may V = m_may v) (f6 : m_fa V = va_up (m_fa v) (m_nV v) a) (f7 : m_fb V = va_up (m_fb v) (m_nV v) b) (f8 : m_op V = va_up (m_op v) (m_nV v) o) (f9 : m_un V = va_up (m_un v) (m_nV v) false) (f10 : m_seat V = va_up (m_seat v) (m_nV v) k) (hV : MOk V) : CP U V := by
  rw [CQ_P] at h ⊢
  obtain ⟨h1, h2, h3, h4, h5, h6, h7, h8, h9, h10, h11, h12, h13, h14, h15⟩ := h
  have w1 := h1.1
  have hlv : ∀ x, x < m_nV v + 1 ↔ x < m_nV v ∨ x = m_nV v := fun x => by omega
  have bs : ∀ (X : Int64) (g : Nat → Bool) (c : Bool), (∀ x, tb X x = true ↔ (x < m_nV v ∧ g x = true)) → ∀ x, tb (wth X (m_nV v) c) x = true ↔ (x < m_nV v + 1 ∧ va_up g (m_nV v) c x = true) := fun X g c hX x => by
    rw [tb_wth _ hn]
    by_cases e : x = m_nV v
    · subst e; rw [if_pos rfl, up_s]; simp
    · rw [if_neg e, va_up_ne _ _ e, hX x]
      exact ⟨fun q => ⟨by omega, q.2⟩, fun q => ⟨by omega, q.2⟩⟩
  unfold CQ
  rw [e1, e2, e3, e4, e5, e6, e7, e8, e9, e10, e11, e12, f1, f2, f3, f4, f5, f6, f7, f8, f9, f10]
  refine ⟨hV, h2, by rw [h3], h4, h5, h6, fun x hx => ?_, fun x => ?_, fun x => ?_, fun x => ?_, fun t ht x => ?_, fun t ht x => ?_, up_bd h13 (by omega), up_bd h14 (by omega), h15⟩
  · rw [h3]
    by_cases e : x = m_nV v
    · subst e; rw [up_s, up_s, up_s, up_s]; exact ⟨rfl, rfl⟩
    · rw [va_up_ne _ _ e, va_up_ne _ _ e, va_up_ne _ _ e, va_up_ne _ _ e]; exact h7 x (by omega)
  · rw [h3]; exact bs _ _ _ h8 x
  · rw [h9 x]
    by_cases e : x = m_nV v
    · subst e; rw [up_s]; simp
    · rw [va_up_ne _ _ e]; exact ⟨fun q => ⟨by omega, q.2⟩, fun q => ⟨by omega, q.2⟩⟩
  · rw [h3]
    have hd : tb (if tw = true then k_dbl u ||| bt (m_nV v) else k_dbl u) x = true ↔ tb (k_dbl u) x = true ∨ (tw = true ∧ x = m_nV v) := by
      by_cases e : tw = true
      · rw [if_pos e, tb_or, tb_bt hn]; simp [e]
      · rw [if_neg e]; simp [e]
    rw [hd, h10 x, htw]
    by_cases e : x = m_nV v
    · subst e; rw [up_s]; simp
    · rw [va_up_ne _ _ e]
      refine ⟨fun q => ?_, fun q => Or.inl ⟨by omega, q.2⟩⟩
      rcases q with q | q
      · exact ⟨by omega, q.2⟩
      · exact absurd q.2 e
  · rw [h3]
    have he : tb (va_up (va_up (k_ends u) a (k_ends u a ||| bt (m_nV v))) b (va_up (k_ends u) a (k_ends u a ||| bt (m_nV v)) b ||| bt (m_nV v)) t) x = true ↔ tb (k_ends u t) x = true ∨ (x = m_nV v ∧ (t = a ∨ t = b)) := by
      rw [va_up_ne (k_ends u) _ (Ne.symm hab)]
      by_cases q : t = b
      · subst q; rw [up_s, tb_or, tb_bt hn]; simp
      · rw [va_up_ne _ _ q]
        by_cases q2 : t = a
        · subst q2; rw [up_s, tb_or, tb_bt hn]; simp
        · rw [va_up_ne _ _ q2]; simp [q, q2]
    rw [he, h11 t ht x]
    by_cases e : x = m_nV v
    · subst e; rw [up_s, up_s]; simp; exact ⟨fun q => q.elim (fun z => Or.inl z.symm) (fun z => Or.inr z.symm), fun q => q.elim (fun z => Or.inl z.symm) (fun z => Or.inr z.symm)⟩
    · rw [va_up_ne _ _ e, va_up_ne _ _ e]
      refine ⟨fun q => ?_, fun q => Or.inl ⟨by omega, q.2⟩⟩
      rcases q with q | q
      · exact ⟨by omega, q.2⟩
      · exact absurd q.1 e
  · rw [h3]
    have hm : k_e1 U1 (m_nV v) = a := by rw [g3, h3, up_s]
    have hm2 : k_e2 U1 (m_nV v) = b := by rw [g4, h3, up_s]
    rw [tb_kms hn (by rw [hm, hm2]; exact hab), hm, hm2, g1, g2, h4 a ha, h4 b hb]
    by_cases e : x = m_nV v
    · subst e; rw [up_s, up_s]
      constructor
      · intro q
        refine ⟨by omega, ?_⟩
        rcases q with q | ⟨-, q | q | q⟩
        · exact absurd rfl q.1
        · exact Or.inl ⟨q.1, by rw [← q.1]; exact q.2⟩
        · exact Or.inr ⟨q.1, by rw [← q.1]; exact q.2⟩
        · have := ((h12 t ht (m_nV v)).mp q.2.2).1; omega
      · rintro ⟨-, q⟩
        refine Or.inr ⟨rfl, ?_⟩
        rcases q with q | q
        · exact Or.inl ⟨q.1, by rw [q.1]; exact q.2⟩
        · exact Or.inr (Or.inl ⟨q.1, by rw [q.1]; exact q.2⟩)
    · rw [va_up_ne _ _ e, va_up_ne _ _ e]
      constructor
      · intro q
        rcases q with q | q
        · have := (h12 t ht x).mp q.2; exact ⟨by omega, this.2⟩
        · exact absurd q.1 e
      · intro q
        exact Or.inl ⟨e, (h12 t ht x).mpr ⟨by omega, q.2⟩⟩
/-- level: the valves measured anew -/
theorem tb_krs {u0 : CSt} {v : MSt} {lv : Nat → Int64} {n : Nat} (h1 : ∀ x, x < m_nV v → k_e1 u0 x = m_fa v x ∧ k_e2 u0 x = m_fb v x) (h2 : ∀ x, x < m_nV v → m_fa v x < m_nS v ∧ m_fb v x < m_nS v ∧ m_fa v x ≠ m_fb v x) (hV : m_nV v ≤ 64) (h3 : ∀ t, t < m_nS v → k_lev u0 t = lv t) (hlv : ∀ t, t ≠ n → lv t = m_lev v t)
    (h4 : ∀ x, tb (k_ends u0 n) x = true ↔ (x < m_nV v ∧ (m_fa v x = n ∨ m_fb v x = n))) (h5 : ∀ t, t < m_nS v → ∀ x, tb (k_fal u0 t) x = true ↔ (x < m_nV v ∧ (m_fa v x = t ∧ m_lev v (m_fb v x) ≤ m_lev v t ∨ m_fb v x = t ∧ m_lev v (m_fa v x) ≤ m_lev v t))) :
    ∀ k, k ≤ m_nV v → ∀ t, t < m_nS v → ∀ y, tb (krs u0 n k t) y = true ↔ (y < m_nV v ∧ (if y < k then (m_fa v y = t ∧ lv (m_fb v y) ≤ lv t ∨ m_fb v y = t ∧ lv (m_fa v y) ≤ lv t) else (m_fa v y = t ∧ m_lev v (m_fb v y) ≤ m_lev v t ∨ m_fb v y = t ∧ m_lev v (m_fa v y) ≤ m_lev v t))) := by
  intro k
  induction k with
  | zero => intro _ t ht y; rw [if_neg (Nat.not_lt_zero y)]; exact h5 t ht y
  | succ k ih =>
    intro hk t ht y
    have ih := ih (by omega)
    obtain ⟨z1, z2, z3⟩ := h2 k (by omega)
    obtain ⟨y1, y2⟩ := h1 k (by omega)
    rw [krs]
    by_cases e : tb (k_ends u0 n) k = true
    · rw [if_pos e]
      have q := tb_kms (u := k_s_fal u0 (krs u0 n k)) (x := k) (by omega) (show k_e1 u0 k ≠ k_e2 u0 k by rw [y1, y2]; exact z3) t y
      rw [show k_e1 (k_s_fal u0 (krs u0 n k)) k = m_fa v k from y1, show k_e2 (k_s_fal u0 (krs u0 n k)) k = m_fb v k from y2, show k_lev (k_s_fal u0 (krs u0 n k)) = k_lev u0 from rfl, show k_fal (k_s_fal u0 (krs u0 n k)) = krs u0 n k from rfl, h3 _ z1, h3 _ z2] at q
      rw [q]
      by_cases e2 : y = k
      · subst e2
        rw [if_pos (by omega)]
        constructor
        · intro p
          refine ⟨by omega, ?_⟩
          rcases p with p | ⟨-, p | p | p⟩
          · exact absurd rfl p.1
          · exact Or.inl ⟨p.1, by rw [← p.1]; exact p.2⟩
          · exact Or.inr ⟨p.1, by rw [← p.1]; exact p.2⟩
          · have := (ih t ht y).mp p.2.2
            rw [if_neg (by omega)] at this
            rcases this.2 with g | g
            · exact absurd g.1 p.1
            · exact absurd g.1 p.2.1
        · rintro ⟨-, p⟩
          refine Or.inr ⟨rfl, ?_⟩
          rcases p with p | p
          · exact Or.inl ⟨p.1, by rw [p.1]; exact p.2⟩
          · exact Or.inr (Or.inl ⟨p.1, by rw [p.1]; exact p.2⟩)
      · have ei : (y < k + 1) = (y < k) := propext ⟨fun q => by omega, fun q => by omega⟩
        simp only [ei]
        constructor
        · intro p
          rcases p with p | p
          · exact (ih t ht y).mp p.2
          · exact absurd p.1 e2
        · intro p
          exact Or.inl ⟨e2, (ih t ht y).mpr p⟩
    · rw [if_neg e, ih t ht y]
      by_cases e2 : y = k
      · subst e2
        rw [if_neg (by omega), if_pos (by omega)]
        have hn1 : m_fa v y ≠ n := fun q => e ((h4 y).mpr ⟨by omega, Or.inl q⟩)
        have hn2 : m_fb v y ≠ n := fun q => e ((h4 y).mpr ⟨by omega, Or.inr q⟩)
        constructor
        · rintro ⟨p1, p2⟩
          refine ⟨p1, ?_⟩
          rcases p2 with p2 | p2
          · exact Or.inl ⟨p2.1, by rw [hlv _ hn2, hlv t (by rw [← p2.1]; exact hn1)]; exact p2.2⟩
          · exact Or.inr ⟨p2.1, by rw [hlv _ hn1, hlv t (by rw [← p2.1]; exact hn2)]; exact p2.2⟩
        · rintro ⟨p1, p2⟩
          refine ⟨p1, ?_⟩
          rcases p2 with p2 | p2
          · exact Or.inl ⟨p2.1, by have := p2.2; rw [hlv _ hn2, hlv t (by rw [← p2.1]; exact hn1)] at this; exact this⟩
          · exact Or.inr ⟨p2.1, by have := p2.2; rw [hlv _ hn1, hlv t (by rw [← p2.1]; exact hn2)] at this; exact this⟩
      · have ei : (y < k + 1) = (y < k) := propext ⟨fun q => by omega, fun q => by omega⟩
        simp only [ei]
theorem CP_level {u U : CSt} {v V : MSt} {n : Nat} {hh : Int64} (h : CP u v) (hn : n < m_nS v) (e1 : k_nS U = k_nS u) (e2 : k_nV U = k_nV u) (e3 : k_lev U = va_up (k_lev u) n hh) (e4 : k_src U = k_src u) (e5 : k_fr U = k_fr u) (e6 : k_e1 U = k_e1 u) (e7 : k_e2 U = k_e2 u) (e8 : k_opn U = k_opn u) (e9 : k_uns U = k_uns u) (e10 : k_dbl U = k_dbl u) (e11 : k_ends U = k_ends u) (e12 : k_fal U = krs (k_s_lev u (va_up (k_lev u) n hh)) n (k_nV u))
    (f1 : m_nS V = m_nS v) (f2 : m_nV V = m_nV v) (f3 : m_lev V = va_up (m_lev v) n hh) (f4 : m_liq V = m_liq v) (f5 : m_may V = m_may v) (f6 : m_fa V = m_fa v) (f7 : m_fb V = m_fb v) (f8 : m_op V = m_op v) (f9 : m_un V = m_un v) (f10 : m_seat V = m_seat v) (hV : MOk V) : CP U V := by
  rw [CQ_P] at h ⊢
  obtain ⟨h1, h2, h3, h4, h5, h6, h7, h8, h9, h10, h11, h12, h13, h14, h15⟩ := h
  have hl : ∀ t, t < m_nS v → va_up (k_lev u) n hh t = va_up (m_lev v) n hh t := fun t ht => by
    by_cases e : t = n
    · subst e; rw [up_s, up_s]
    · rw [va_up_ne _ _ e, va_up_ne _ _ e]; exact h4 t ht
  have key := tb_krs (u0 := k_s_lev u (va_up (k_lev u) n hh)) (v := v) (lv := va_up (m_lev v) n hh) (n := n) h7 h1.2.2.2.2.2.2.2.2.1 h1.2.1 hl (fun t e => va_up_ne _ _ e) (h11 n hn) h12 (m_nV v) (Nat.le_refl _)
  unfold CQ
  rw [e1, e2, e3, e4, e5, e6, e7, e8, e9, e10, e11, e12, f1, f2, f3, f4, f5, f6, f7, f8, f9, f10]
  refine ⟨hV, h2, h3, hl, h5, h6, h7, h8, h9, h10, h11, fun t ht x => ?_, h13, h14, h15⟩
  rw [h3, key t ht x]
  constructor
  · rintro ⟨p1, p2⟩; rw [if_pos p1] at p2; exact ⟨p1, p2⟩
  · rintro ⟨p1, p2⟩; exact ⟨p1, by rw [if_pos p1]; exact p2⟩
/-- may -/
theorem CP_may {u U : CSt} {v V : MSt} {a b : Nat} (h : CP u v) (ha : 1 ≤ a) (ha2 : a < 16) (hb : 1 ≤ b) (hb2 : b < 16) (hab : a ≠ b) (e1 : k_nS U = k_nS u) (e2 : k_nV U = k_nV u) (e3 : k_lev U = k_lev u) (e4 : k_src U = k_src u) (e5 : k_fr U = bfr (k_fr u) a b) (e6 : k_e1 U = k_e1 u) (e7 : k_e2 U = k_e2 u) (e8 : k_opn U = k_opn u) (e9 : k_uns U = k_uns u) (e10 : k_dbl U = k_dbl u) (e11 : k_ends U = k_ends u) (e12 : k_fal U = k_fal u)
    (f1 : m_nS V = m_nS v) (f2 : m_nV V = m_nV v) (f3 : m_lev V = m_lev v) (f4 : m_liq V = m_liq v) (f5 : m_may V = va_up (va_up (m_may v) (16 * a + b) true) (16 * b + a) true) (f6 : m_fa V = m_fa v) (f7 : m_fb V = m_fb v) (f8 : m_op V = m_op v) (f9 : m_un V = m_un v) (f10 : m_seat V = m_seat v) (hV : MOk V) : CP U V := by
  rw [CQ_P] at h ⊢
  obtain ⟨h1, h2, h3, h4, h5, h6, h7, h8, h9, h10, h11, h12, h13, h14, h15⟩ := h
  have mm : ∀ c d, 1 ≤ c → c < 16 → 1 ≤ d → d < 16 → (va_up (va_up (m_may v) (16 * a + b) true) (16 * b + a) true (16 * c + d) = true ↔ m_may v (16 * c + d) = true ∨ (c = a ∧ d = b) ∨ (c = b ∧ d = a)) := fun c d k1 k2 k3 k4 => by
    by_cases e : c = b ∧ d = a
    · obtain ⟨rfl, rfl⟩ := e; rw [up_s]; simp
    · rw [va_up_ne _ _ (by omega)]
      by_cases e2 : c = a ∧ d = b
      · obtain ⟨rfl, rfl⟩ := e2; rw [up_s]; simp
      · rw [va_up_ne _ _ (by omega)]; simp [e, e2]
  have ff : ∀ c d, c < 16 → d < 16 → (t32 (bfr (k_fr u) a b c) d = true ↔ t32 (k_fr u c) d = true ∨ (c = a ∧ d = b) ∨ (c = b ∧ d = a)) := fun c d k1 k2 => by
    unfold bfr
    rw [va_up_ne (k_fr u) _ (Ne.symm hab)]
    by_cases e : c = b
    · subst e; rw [up_s, t32_or, t32_b32 a ha2 d (by omega)]; simp [Ne.symm hab]
    · rw [va_up_ne _ _ e]
      by_cases e2 : c = a
      · subst e2; rw [up_s, t32_or, t32_b32 b hb2 d (by omega)]; simp [hab]
      · rw [va_up_ne _ _ e2]; simp [e, e2]
  have bq : ∀ {x y : Bool}, (x = true ↔ y = true) → x = y := fun {x y} q => by cases x <;> cases y <;> simp_all
  unfold CQ
  rw [e1, e2, e3, e4, e5, e6, e7, e8, e9, e10, e11, e12, f1, f2, f3, f4, f5, f6, f7, f8, f9, f10]
  refine ⟨hV, h2, h3, h4, h5, fun c d k1 k2 k3 k4 => bq ?_, h7, h8, h9, h10, h11, h12, h13, h14, fun c d k1 k2 k3 k4 => bq ?_⟩
  · rw [ff c d k2 k4, mm c d k1 k2 k3 k4, h6 c d k1 k2 k3 k4]
  · rw [mm c d k1 k2 k3 k4, mm d c k3 k4 k1 k2, h15 c d k1 k2 k3 k4]
    constructor <;> rintro (q | q | q) <;> first | exact Or.inl q | exact Or.inr (Or.inl ⟨q.2, q.1⟩) | exact Or.inr (Or.inr ⟨q.2, q.1⟩)
theorem wth_at {X : Int64} {g : Nat → Bool} {n x : Nat} {b : Bool} (hx : x < n) (hn : n ≤ 64) (h : ∀ y, tb X y = true ↔ (y < n ∧ g y = true)) (y : Nat) : tb (wth X x b) y = true ↔ (y < n ∧ va_up g x b y = true) := by
  rw [tb_wth _ (by omega)]
  by_cases e : y = x
  · subst e; rw [if_pos rfl, up_s]; simp [hx]
  · rw [if_neg e, va_up_ne _ _ e]; exact h y
theorem CP_set {u U : CSt} {v V : MSt} {x : Nat} {b : Bool} (h : CP u v) (hx : x < m_nV v) (e1 : k_nS U = k_nS u) (e2 : k_nV U = k_nV u) (e3 : k_lev U = k_lev u) (e4 : k_src U = k_src u) (e5 : k_fr U = k_fr u) (e6 : k_e1 U = k_e1 u) (e7 : k_e2 U = k_e2 u) (e8 : k_opn U = wth (k_opn u) x b) (e9 : k_uns U = k_uns u) (e10 : k_dbl U = k_dbl u) (e11 : k_ends U = k_ends u) (e12 : k_fal U = k_fal u)
    (f1 : m_nS V = m_nS v) (f2 : m_nV V = m_nV v) (f3 : m_lev V = m_lev v) (f4 : m_liq V = m_liq v) (f5 : m_may V = m_may v) (f6 : m_fa V = m_fa v) (f7 : m_fb V = m_fb v) (f8 : m_op V = va_up (m_op v) x b) (f9 : m_un V = m_un v) (f10 : m_seat V = m_seat v) (hV : MOk V) : CP U V := by
  rw [CQ_P] at h ⊢
  obtain ⟨h1, h2, h3, h4, h5, h6, h7, h8, h9, h10, h11, h12, h13, h14, h15⟩ := h
  unfold CQ
  rw [e1, e2, e3, e4, e5, e6, e7, e8, e9, e10, e11, e12, f1, f2, f3, f4, f5, f6, f7, f8, f9, f10]
  exact ⟨hV, h2, h3, h4, h5, h6, h7, wth_at hx h1.2.1 h8, h9, h10, h11, h12, h13, h14, h15⟩
theorem CP_unsure {u U : CSt} {v V : MSt} {x : Nat} {b : Bool} (h : CP u v) (hx : x < m_nV v) (e1 : k_nS U = k_nS u) (e2 : k_nV U = k_nV u) (e3 : k_lev U = k_lev u) (e4 : k_src U = k_src u) (e5 : k_fr U = k_fr u) (e6 : k_e1 U = k_e1 u) (e7 : k_e2 U = k_e2 u) (e8 : k_opn U = k_opn u) (e9 : k_uns U = wth (k_uns u) x b) (e10 : k_dbl U = k_dbl u) (e11 : k_ends U = k_ends u) (e12 : k_fal U = k_fal u)
    (f1 : m_nS V = m_nS v) (f2 : m_nV V = m_nV v) (f3 : m_lev V = m_lev v) (f4 : m_liq V = m_liq v) (f5 : m_may V = m_may v) (f6 : m_fa V = m_fa v) (f7 : m_fb V = m_fb v) (f8 : m_op V = m_op v) (f9 : m_un V = va_up (m_un v) x b) (f10 : m_seat V = m_seat v) (hV : MOk V) : CP U V := by
  rw [CQ_P] at h ⊢
  obtain ⟨h1, h2, h3, h4, h5, h6, h7, h8, h9, h10, h11, h12, h13, h14, h15⟩ := h
  unfold CQ
  rw [e1, e2, e3, e4, e5, e6, e7, e8, e9, e10, e11, e12, f1, f2, f3, f4, f5, f6, f7, f8, f9, f10]
  exact ⟨hV, h2, h3, h4, h5, h6, h7, h8, wth_at hx h1.2.1 h9, h10, h11, h12, h13, h14, h15⟩
theorem CP_clear {U : CSt} {V : MSt} (e1 : k_nS U = 0) (e2 : k_nV U = 0) (e4 : ∀ t, t < 16 → k_src U t = 0) (e5 : ∀ t, t < 16 → k_fr U t = nI 0) (e6 : ∀ j, k_e1 U j < 64) (e7 : ∀ j, k_e2 U j < 64) (e8 : k_opn U = 0) (e9 : k_uns U = 0) (e10 : k_dbl U = 0)
    (f1 : m_nS V = 0) (f2 : m_nV V = 0) (f5 : ∀ t, t < 256 → m_may V t = false) (hV : MOk V) : CP U V := by
  rw [CQ_P]
  unfold CQ
  rw [e1, e2, e8, e9, e10, f1, f2]
  refine ⟨hV, rfl, rfl, fun t ht => absurd ht (Nat.not_lt_zero _), fun a ha t => ?_, fun a b k1 k2 k3 k4 => ?_, fun x hx => absurd hx (Nat.not_lt_zero _), fun x => ?_, fun x => ?_, fun x => ?_, fun t ht => absurd ht (Nat.not_lt_zero _), fun t ht => absurd ht (Nat.not_lt_zero _), e6, e7, fun a b k1 k2 k3 k4 => ?_⟩
  · rw [e4 a ha, tb_0]; exact ⟨fun q => absurd q (by decide), fun q => absurd q.1 (Nat.not_lt_zero _)⟩
  · rw [e5 a k2, f5 _ (by omega)]; exact t32_0 b
  · rw [tb_0]; exact ⟨fun q => absurd q (by decide), fun q => absurd q.1 (Nat.not_lt_zero _)⟩
  · rw [tb_0]; exact ⟨fun q => absurd q (by decide), fun q => absurd q.1 (Nat.not_lt_zero _)⟩
  · rw [tb_0]; exact ⟨fun q => absurd q (by decide), fun q => absurd q.1 (Nat.not_lt_zero _)⟩
  · rw [f5 _ (by omega), f5 _ (by omega)]
