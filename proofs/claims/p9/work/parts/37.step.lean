/-! the relation of the two states, call by call -/
theorem be1 {b : Bool} {P : Prop} [Decidable P] : b = decide P ↔ (b = true ↔ P) := by
  by_cases h : P
  · rw [decide_eq_true h]; exact ⟨fun e => ⟨fun _ => h, fun _ => e⟩, fun e => e.mpr h⟩
  · rw [decide_eq_false h]; exact ⟨fun e => ⟨fun q => absurd (q.symm.trans e) (by decide), fun q => absurd q h⟩, fun e => ts_nt (fun q => h (e.mp q))⟩
theorem be2 {b c : Bool} {P : Prop} [Decidable P] : b = (decide P && c) ↔ (b = true ↔ P ∧ c = true) := by
  rw [show (decide P && c) = decide (P ∧ c = true) by cases c <;> simp]; exact be1
theorem up_s {β : Type} {g : Nat → β} {k : Nat} {x : β} : va_up g k x k = x := va_up_self _ _ _
/-- the plant's relation, said by 'iff' -/
def CQ (u : CSt) (v : MSt) : Prop :=
  MOk v ∧ k_nS u = m_nS v ∧ k_nV u = m_nV v ∧ (∀ t, t < m_nS v → k_lev u t = m_lev v t) ∧ (∀ a, a < 16 → ∀ t, tb (k_src u a) t = true ↔ (t < m_nS v ∧ m_liq v t = a)) ∧
  (∀ a b, 1 ≤ a → a < 16 → 1 ≤ b → b < 16 → t32 (k_fr u a) b = m_may v (16 * a + b)) ∧ (∀ x, x < m_nV v → k_e1 u x = m_fa v x ∧ k_e2 u x = m_fb v x) ∧
  (∀ x, tb (k_opn u) x = true ↔ (x < m_nV v ∧ m_op v x = true)) ∧ (∀ x, tb (k_uns u) x = true ↔ (x < m_nV v ∧ m_un v x = true)) ∧ (∀ x, tb (k_dbl u) x = true ↔ (x < m_nV v ∧ m_seat v x = 2)) ∧
  (∀ t, t < m_nS v → ∀ x, tb (k_ends u t) x = true ↔ (x < m_nV v ∧ (m_fa v x = t ∨ m_fb v x = t))) ∧
  (∀ t, t < m_nS v → ∀ x, tb (k_fal u t) x = true ↔ (x < m_nV v ∧ (m_fa v x = t ∧ m_lev v (m_fb v x) ≤ m_lev v t ∨ m_fb v x = t ∧ m_lev v (m_fa v x) ≤ m_lev v t))) ∧
  (∀ j, k_e1 u j < 64) ∧ (∀ j, k_e2 u j < 64) ∧ (∀ a b, 1 ≤ a → a < 16 → 1 ≤ b → b < 16 → m_may v (16 * a + b) = m_may v (16 * b + a))
theorem CQ_P {u : CSt} {v : MSt} : CP u v ↔ CQ u v := by
  unfold CP CQ
  constructor
  · rintro ⟨h1, h2, h3, h4, h5, h6, h7, h8, h9, h10, h11, h12, h13, h14, h15⟩
    refine ⟨h1, h2, h3, h4, fun a ha t => be1.mp (h5 a ha t), h6, h7, fun x => be2.mp (h8 x), fun x => be2.mp (h9 x), fun x => ?_, fun t ht x => be1.mp (h11 t ht x), fun t ht x => be1.mp (h12 t ht x), h13, h14, h15⟩
    have := be2.mp (h10 x); rw [decide_eq_true_eq] at this; exact this
  · rintro ⟨h1, h2, h3, h4, h5, h6, h7, h8, h9, h10, h11, h12, h13, h14, h15⟩
    refine ⟨h1, h2, h3, h4, fun a ha t => be1.mpr (h5 a ha t), h6, h7, fun x => be2.mpr (h8 x), fun x => be2.mpr (h9 x), fun x => be2.mpr ?_, fun t ht x => be1.mpr (h11 t ht x), fun t ht x => be1.mpr (h12 t ht x), h13, h14, h15⟩
    rw [decide_eq_true_eq]; exact h10 x
theorem CP_cg2 {u U : CSt} {v V : MSt} (h : CP u v) (hV : MOk V) (e1 : k_nS U = k_nS u) (e2 : k_nV U = k_nV u) (e3 : k_lev U = k_lev u) (e4 : k_src U = k_src u) (e5 : k_fr U = k_fr u) (e6 : k_e1 U = k_e1 u) (e7 : k_e2 U = k_e2 u) (e8 : k_opn U = k_opn u) (e9 : k_uns U = k_uns u) (e10 : k_dbl U = k_dbl u) (e11 : k_ends U = k_ends u) (e12 : k_fal U = k_fal u)
    (f1 : m_nS V = m_nS v) (f2 : m_nV V = m_nV v) (f3 : m_lev V = m_lev v) (f4 : m_liq V = m_liq v) (f5 : m_may V = m_may v) (f6 : m_fa V = m_fa v) (f7 : m_fb V = m_fb v) (f8 : m_op V = m_op v) (f9 : m_un V = m_un v) (f10 : m_seat V = m_seat v) : CP U V := by
  unfold CP at h ⊢
  rw [e1, e2, e3, e4, e5, e6, e7, e8, e9, e10, e11, e12, f1, f2, f3, f4, f5, f6, f7, f8, f9, f10]
  exact ⟨hV, h.2⟩
/-- space -/
theorem CP_space {u U : CSt} {v V : MSt} {a : Nat} (h : CP u v) (ha : a < 16) (hn : m_nS v < 64) (e1 : k_nS U = k_nS u + 1) (e2 : k_nV U = k_nV u) (e3 : k_lev U = va_up (k_lev u) (k_nS u) 0) (e4 : k_src U = va_up (k_src u) a (k_src u a ||| bt (k_nS u))) (e5 : k_fr U = k_fr u) (e6 : k_e1 U = k_e1 u) (e7 : k_e2 U = k_e2 u) (e8 : k_opn U = k_opn u) (e9 : k_uns U = k_uns u) (e10 : k_dbl U = k_dbl u) (e11 : k_ends U = va_up (k_ends u) (k_nS u) 0) (e12 : k_fal U = va_up (k_fal u) (k_nS u) 0)
    (f1 : m_nS V = m_nS v + 1) (f2 : m_nV V = m_nV v) (f3 : m_lev V = va_up (m_lev v) (m_nS v) 0) (f4 : m_liq V = va_up (m_liq v) (m_nS v) a) (f5 : m_may V = m_may v) (f6 : m_fa V = m_fa v) (f7 : m_fb V = m_fb v) (f8 : m_op V = m_op v) (f9 : m_un V = m_un v) (f10 : m_seat V = m_seat v) (hV : MOk V) : CP U V := by
  rw [CQ_P] at h ⊢
  obtain ⟨h1, h2, h3, h4, h5, h6, h7, h8, h9, h10, h11, h12, h13, h14, h15⟩ := h
  have hv := h1.2.2.2.2.2.2.2.2.1
  unfold CQ
  rw [e1, e2, e3, e4, e5, e6, e7, e8, e9, e10, e11, e12, f1, f2, f3, f4, f5, f6, f7, f8, f9, f10]
  refine ⟨hV, by rw [h2], h3, fun t ht => ?_, fun b hb t => ?_, h6, h7, h8, h9, h10, fun t ht x => ?_, fun t ht x => ?_, h13, h14, h15⟩
  · rw [h2]
    by_cases e : t = m_nS v
    · subst e; rw [up_s, up_s]
    · rw [va_up_ne _ _ e, va_up_ne _ _ e]; exact h4 t (by omega)
  · have hb2 : tb (va_up (k_src u) a (k_src u a ||| bt (k_nS u)) b) t = true ↔ tb (k_src u b) t = true ∨ (b = a ∧ t = m_nS v) := by
      by_cases e : b = a
      · subst e; rw [up_s, tb_or, h2, tb_bt hn]; simp
      · rw [va_up_ne _ _ e]; simp [e]
    rw [hb2, h5 b hb t]
    by_cases e : t = m_nS v
    · subst e; rw [up_s]; simp; exact ⟨fun q => q.symm, fun q => q.symm⟩
    · rw [va_up_ne _ _ e]; simp [e]; omega
  · rw [h2]
    by_cases e : t = m_nS v
    · subst e; rw [up_s, tb_0]
      refine ⟨fun q => absurd q (by decide), fun ⟨q1, q2⟩ => ?_⟩
      have := hv x q1; omega
    · rw [va_up_ne _ _ e]; exact h11 t (by omega) x
  · rw [h2]
    by_cases e : t = m_nS v
    · subst e; rw [up_s, tb_0]
      refine ⟨fun q => absurd q (by decide), fun ⟨q1, q2⟩ => ?_⟩
      have := hv x q1
      rcases q2 with q2 | q2 <;> omega
    · rw [va_up_ne _ _ e, va_up_ne _ _ e, h12 t (by omega) x]
      constructor
      · rintro ⟨q1, q2⟩
        have := hv x q1
        rw [va_up_ne _ _ (show m_fa v x ≠ m_nS v by omega), va_up_ne _ _ (show m_fb v x ≠ m_nS v by omega)]
        exact ⟨q1, q2⟩
      · rintro ⟨q1, q2⟩
        have := hv x q1
        rw [va_up_ne _ _ (show m_fa v x ≠ m_nS v by omega), va_up_ne _ _ (show m_fb v x ≠ m_nS v by omega)] at q2
        exact ⟨q1, q2⟩
/-- what measure makes -/
theorem tb_kms {u : CSt} {x : Nat} (hx : x < 64) (he : k_e1 u x ≠ k_e2 u x) (s y : Nat) : tb (kms u x s) y = true ↔ (y ≠ x ∧ tb (k_fal u s) y = true) ∨ (y = x ∧ (k_e1 u x = s ∧ k_lev u (k_e2 u x) ≤ k_lev u (k_e1 u x) ∨ k_e2 u x = s ∧ k_lev u (k_e1 u x) ≤ k_lev u (k_e2 u x) ∨ k_e1 u x ≠ s ∧ k_e2 u x ≠ s ∧ tb (k_fal u s) x = true)) := by
  unfold kms
  by_cases e2 : s = k_e2 u x
  · rw [e2, up_s, va_up_ne _ _ (Ne.symm he), tb_wth _ hx]
    by_cases e : y = x
    · rw [if_pos e]; simp [e, he]
    · rw [if_neg e]; simp [e]
  · rw [va_up_ne _ _ e2]
    by_cases e1 : s = k_e1 u x
    · rw [e1, up_s, tb_wth _ hx]
      by_cases e : y = x
      · rw [if_pos e]; simp [e, Ne.symm he]
      · rw [if_neg e]; simp [e]
    · rw [va_up_ne _ _ e1]
      by_cases e : y = x
      · subst e
        refine ⟨fun q => Or.inr ⟨rfl, Or.inr (Or.inr ⟨fun z => e1 z.symm, fun z => e2 z.symm, q⟩)⟩, fun q => ?_⟩
        rcases q with q | ⟨-, q | q | q⟩
        · exact absurd rfl q.1
        · exact absurd q.1.symm e1
        · exact absurd q.1.symm e2
        · exact q.2.2
      · refine ⟨fun q => Or.inl ⟨e, q⟩, fun q => ?_⟩
        rcases q with q | q
        · exact q.2
        · exact absurd q.1 e
/-- valve -/
theorem CP_valve {u U U1 : CSt} {v V : MSt} {a b k : Nat} {tw o : Bool} (h : CP u v) (ha : a < m_nS v) (hb : b < m_nS v) (hab : a ≠ b) (hn : m_nV v < 64) (htw : tw = true ↔ k = 2) (e1 : k_nS U = k_nS u) (e2 : k_nV U = k_nV u + 1) (e3 : k_lev U = k_lev u) (e4 : k_src U = k_src u) (e5 : k_fr U = k_fr u) (e6 : k_e1 U = va_up (k_e1 u) (k_nV u) a) (e7 : k_e2 U = va_up (k_e2 u) (k_nV u) b) (e8 : k_opn U = wth (k_opn u) (k_nV u) o) (e9 : k_uns U = k_uns u) (e10 : k_dbl U = if tw = true then k_dbl u ||| bt (k_nV u) else k_dbl u)
    (e11 : k_ends U = va_up (va_up (k_ends u) a (k_ends u a ||| bt (k_nV u))) b ((va_up (k_ends u) a (k_ends u a ||| bt (k_nV u))) b ||| bt (k_nV u))) (e12 : k_fal U = kms U1 (k_nV u)) (g1 : k_lev U1 = k_lev u) (g2 : k_fal U1 = k_fal u) (g3 : k_e1 U1 = va_up (k_e1 u) (k_nV u) a) (g4 : k_e2 U1 = va_up (k_e2 u) (k_nV u) b)
    (f1 : m_nS V = m_nS v) (f2 : m_nV V = m_nV v + 1) (f3 : m_lev V = m_lev v) (f4 : m_liq V = m_liq v) (f5 : m_may V = m_may v) (f6 : m_fa V = va_up (m_fa v) (m_nV v) a) (f7 : m_fb V = va_up (m_fb v) (m_nV v) b) (f8 : m_op V = va_up (m_op v) (m_nV v) o) (f9 : m_un V = va_up (m_un v) (m_nV v) false) (f10 : m_seat V = va_up (m_seat v) (m_nV v) k) (hV : MOk V) : CP U V := by
  rw [CQ_P] at h ⊢
  obtain ⟨h1, h2, h3, h4, h5, h6, h7, h8, h9, h10, h11, h12, h13, h14, h15⟩ := h
  have w1 := h1.1
  have hlv : ∀ x, x < m_nV v + 1 ↔ x < m_nV v ∨ x = m_nV v := fun x => by omega
  have bs : ∀ (X : Int64) (g : Nat → Bool) (c : Bool), (∀ x, tb X x = true ↔ (x < m_nV v ∧ g x = true)) → ∀ x, tb (wth X (m_nV v) c) x = true ↔ (x < m_nV v + 1 ∧ va_up g (m_nV v) c x = true) := fun X g c hX x => by
    rw [tb_wth _ hn]
    by_cases e : x = m_nV v
    · subst e; rw [if_pos rfl, up_s]; simp
    · rw [if_neg e, va_up_ne _ _ e, hX x]
      exact ⟨fun q => ⟨by omega, q.2⟩, fun q => ⟨by omega, q.2⟩⟩
  unfold CQ
  rw [e1, e2, e3, e4, e5, e6, e7, e8, e9, e10, e11, e12, f1, f2, f3, f4, f5, f6, f7, f8, f9, f10]
  refine ⟨hV, h2, by rw [h3], h4, h5, h6, fun x hx => ?_, fun x => ?_, fun x => ?_, fun x => ?_, fun t ht x => ?_, fun t ht x => ?_, up_bd h13 (by omega), up_bd h14 (by omega), h15⟩
  · rw [h3]
    by_cases e : x = m_nV v
    · subst e; rw [up_s, up_s, up_s, up_s]; exact ⟨rfl, rfl⟩
    · rw [va_up_ne _ _ e, va_up_ne _ _ e, va_up_ne _ _ e, va_up_ne _ _ e]; exact h7 x (by omega)
  · rw [h3]; exact bs _ _ _ h8 x
  · rw [h9 x]
    by_cases e : x = m_nV v
    · subst e; rw [up_s]; simp
    · rw [va_up_ne _ _ e]; exact ⟨fun q => ⟨by omega, q.2⟩, fun q => ⟨by omega, q.2⟩⟩
  · rw [h3]
    have hd : tb (if tw = true then k_dbl u ||| bt (m_nV v) else k_dbl u) x = true ↔ tb (k_dbl u) x = true ∨ (tw = true ∧ x = m_nV v) := by
      by_cases e : tw = true
      · rw [if_pos e, tb_or, tb_bt hn]; simp [e]
      · rw [if_neg e]; simp [e]
    rw [hd, h10 x, htw]
    by_cases e : x = m_nV v
    · subst e; rw [up_s]; simp
    · rw [va_up_ne _ _ e]
      refine ⟨fun q => ?_, fun q => Or.inl ⟨by omega, q.2⟩⟩
      rcases q with q | q
      · exact ⟨by omega, q.2⟩
      · exact absurd q.2 e
  · rw [h3]
    have he : tb (va_up (va_up (k_ends u) a (k_ends u a ||| bt (m_nV v))) b (va_up (k_ends u) a (k_ends u a ||| bt (m_nV v)) b ||| bt (m_nV v)) t) x = true ↔ tb (k_ends u t) x = true ∨ (x = m_nV v ∧ (t = a ∨ t = b)) := by
      rw [va_up_ne (k_ends u) _ (Ne.symm hab)]
      by_cases q : t = b
      · subst q; rw [up_s, tb_or, tb_bt hn]; simp
      · rw [va_up_ne _ _ q]
        by_cases q2 : t = a
        · subst q2; rw [up_s, tb_or, tb_bt hn]; simp
        · rw [va_up_ne _ _ q2]; simp [q, q2]
    rw [he, h11 t ht x]
    by_cases e : x = m_nV v
    · subst e; rw [up_s, up_s]; simp; exact ⟨fun q => q.elim (fun z => Or.inl z.symm) (fun z => Or.inr z.symm), fun q => q.elim (fun z => Or.inl z.symm) (fun z => Or.inr z.symm)⟩
    · rw [va_up_ne _ _ e, va_up_ne _ _ e]
      refine ⟨fun q => ?_, fun q => Or.inl ⟨by omega, q.2⟩⟩
      rcases q with q | q
      · exact ⟨by omega, q.2⟩
      · exact absurd q.1 e
  · rw [h3]
    have hm : k_e1 U1 (m_nV v) = a := by rw [g3, h3, up_s]
    have hm2 : k_e2 U1 (m_nV v) = b := by rw [g4, h3, up_s]
    rw [tb_kms hn (by rw [hm, hm2]; exact hab), hm, hm2, g1, g2, h4 a ha, h4 b hb]
    by_cases e : x = m_nV v
    · subst e; rw [up_s, up_s]
      constructor
      · intro q
        refine ⟨by omega, ?_⟩
        rcases q with q | ⟨-, q | q | q⟩
        · exact absurd rfl q.1
        · exact Or.inl ⟨q.1, by rw [← q.1]; exact q.2⟩
        · exact Or.inr ⟨q.1, by rw [← q.1]; exact q.2⟩
        · have := ((h12 t ht (m_nV v)).mp q.2.2).1; omega
      · rintro ⟨-, q⟩
        refine Or.inr ⟨rfl, ?_⟩
        rcases q with q | q
        · exact Or.inl ⟨q.1, by rw [q.1]; exact q.2⟩
        · exact Or.inr (Or.inl ⟨q.1, by rw [q.1]; exact q.2⟩)
    · rw [va_up_ne _ _ e, va_up_ne _ _ e]
      constructor
      · intro q
        rcases q with q | q
        · have := (h12 t ht x).mp q.2; exact ⟨by omega, this.2⟩
        · exact absurd q.1 e
      · intro q
        exact Or.inl ⟨e, (h12 t ht x).mpr ⟨by omega, q.2⟩⟩
/-- level: the valves measured anew -/
theorem tb_krs {u0 : CSt} {v : MSt} {lv : Nat → Int64} {n : Nat} (h1 : ∀ x, x < m_nV v → k_e1 u0 x = m_fa v x ∧ k_e2 u0 x = m_fb v x) (h2 : ∀ x, x < m_nV v → m_fa v x < m_nS v ∧ m_fb v x < m_nS v ∧ m_fa v x ≠ m_fb v x) (hV : m_nV v ≤ 64) (h3 : ∀ t, t < m_nS v → k_lev u0 t = lv t) (hlv : ∀ t, t ≠ n → lv t = m_lev v t)
    (h4 : ∀ x, tb (k_ends u0 n) x = true ↔ (x < m_nV v ∧ (m_fa v x = n ∨ m_fb v x = n))) (h5 : ∀ t, t < m_nS v → ∀ x, tb (k_fal u0 t) x = true ↔ (x < m_nV v ∧ (m_fa v x = t ∧ m_lev v (m_fb v x) ≤ m_lev v t ∨ m_fb v x = t ∧ m_lev v (m_fa v x) ≤ m_lev v t))) :
    ∀ k, k ≤ m_nV v → ∀ t, t < m_nS v → ∀ y, tb (krs u0 n k t) y = true ↔ (y < m_nV v ∧ (if y < k then (m_fa v y = t ∧ lv (m_fb v y) ≤ lv t ∨ m_fb v y = t ∧ lv (m_fa v y) ≤ lv t) else (m_fa v y = t ∧ m_lev v (m_fb v y) ≤ m_lev v t ∨ m_fb v y = t ∧ m_lev v (m_fa v y) ≤ m_lev v t))) := by
  intro k
  induction k with
  | zero => intro _ t ht y; rw [if_neg (Nat.not_lt_zero y)]; exact h5 t ht y
  | succ k ih =>
    intro hk t ht y
    have ih := ih (by omega)
    obtain ⟨z1, z2, z3⟩ := h2 k (by omega)
    obtain ⟨y1, y2⟩ := h1 k (by omega)
    rw [krs]
    by_cases e : tb (k_ends u0 n) k = true
    · rw [if_pos e]
      have q := tb_kms (u := k_s_fal u0 (krs u0 n k)) (x := k) (by omega) (show k_e1 u0 k ≠ k_e2 u0 k by rw [y1, y2]; exact z3) t y
      rw [show k_e1 (k_s_fal u0 (krs u0 n k)) k = m_fa v k from y1, show k_e2 (k_s_fal u0 (krs u0 n k)) k = m_fb v k from y2, show k_lev (k_s_fal u0 (krs u0 n k)) = k_lev u0 from rfl, show k_fal (k_s_fal u0 (krs u0 n k)) = krs u0 n k from rfl, h3 _ z1, h3 _ z2] at q
      rw [q]
      by_cases e2 : y = k
      · subst e2
        rw [if_pos (by omega)]
        constructor
        · intro p
          refine ⟨by omega, ?_⟩
          rcases p with p | ⟨-, p | p | p⟩
          · exact absurd rfl p.1
          · exact Or.inl ⟨p.1, by rw [← p.1]; exact p.2⟩
          · exact Or.inr ⟨p.1, by rw [← p.1]; exact p.2⟩
          · have := (ih t ht y).mp p.2.2
            rw [if_neg (by omega)] at this
            rcases this.2 with g | g
            · exact absurd g.1 p.1
            · exact absurd g.1 p.2.1
        · rintro ⟨-, p⟩
          refine Or.inr ⟨rfl, ?_⟩
          rcases p with p | p
          · exact Or.inl ⟨p.1, by rw [p.1]; exact p.2⟩
          · exact Or.inr (Or.inl ⟨p.1, by rw [p.1]; exact p.2⟩)
      · have ei : (y < k + 1) = (y < k) := propext ⟨fun q => by omega, fun q => by omega⟩
        simp only [ei]
        constructor
        · intro p
          rcases p with p | p
          · exact (ih t ht y).mp p.2
          · exact absurd p.1 e2
        · intro p
          exact Or.inl ⟨e2, (ih t ht y).mpr p⟩
    · rw [if_neg e, ih t ht y]
      by_cases e2 : y = k
      · subst e2
        rw [if_neg (by omega), if_pos (by omega)]
        have hn1 : m_fa v y ≠ n := fun q => e ((h4 y).mpr ⟨by omega, Or.inl q⟩)
        have hn2 : m_fb v y ≠ n := fun q => e ((h4 y).mpr ⟨by omega, Or.inr q⟩)
        constructor
        · rintro ⟨p1, p2⟩
          refine ⟨p1, ?_⟩
          rcases p2 with p2 | p2
          · exact Or.inl ⟨p2.1, by rw [hlv _ hn2, hlv t (by rw [← p2.1]; exact hn1)]; exact p2.2⟩
          · exact Or.inr ⟨p2.1, by rw [hlv _ hn1, hlv t (by rw [← p2.1]; exact hn2)]; exact p2.2⟩
        · rintro ⟨p1, p2⟩
          refine ⟨p1, ?_⟩
          rcases p2 with p2 | p2
          · exact Or.inl ⟨p2.1, by have := p2.2; rw [hlv _ hn2, hlv t (by rw [← p2.1]; exact hn1)] at this; exact this⟩
          · exact Or.inr ⟨p2.1, by have := p2.2; rw [hlv _ hn1, hlv t (by rw [← p2.1]; exact hn2)] at this; exact this⟩
      · have ei : (y < k + 1) = (y < k) := propext ⟨fun q => by omega, fun q => by omega⟩
        simp only [ei]
theorem CP_level {u U : CSt} {v V : MSt} {n : Nat} {hh : Int64} (h : CP u v) (hn : n < m_nS v) (e1 : k_nS U = k_nS u) (e2 : k_nV U = k_nV u) (e3 : k_lev U = va_up (k_lev u) n hh) (e4 : k_src U = k_src u) (e5 : k_fr U = k_fr u) (e6 : k_e1 U = k_e1 u) (e7 : k_e2 U = k_e2 u) (e8 : k_opn U = k_opn u) (e9 : k_uns U = k_uns u) (e10 : k_dbl U = k_dbl u) (e11 : k_ends U = k_ends u) (e12 : k_fal U = krs (k_s_lev u (va_up (k_lev u) n hh)) n (k_nV u))
    (f1 : m_nS V = m_nS v) (f2 : m_nV V = m_nV v) (f3 : m_lev V = va_up (m_lev v) n hh) (f4 : m_liq V = m_liq v) (f5 : m_may V = m_may v) (f6 : m_fa V = m_fa v) (f7 : m_fb V = m_fb v) (f8 : m_op V = m_op v) (f9 : m_un V = m_un v) (f10 : m_seat V = m_seat v) (hV : MOk V) : CP U V := by
  rw [CQ_P] at h ⊢
  obtain ⟨h1, h2, h3, h4, h5, h6, h7, h8, h9, h10, h11, h12, h13, h14, h15⟩ := h
  have hl : ∀ t, t < m_nS v → va_up (k_lev u) n hh t = va_up (m_lev v) n hh t := fun t ht => by
    by_cases e : t = n
    · subst e; rw [up_s, up_s]
    · rw [va_up_ne _ _ e, va_up_ne _ _ e]; exact h4 t ht
  have key := tb_krs (u0 := k_s_lev u (va_up (k_lev u) n hh)) (v := v) (lv := va_up (m_lev v) n hh) (n := n) h7 h1.2.2.2.2.2.2.2.2.1 h1.2.1 hl (fun t e => va_up_ne _ _ e) (h11 n hn) h12 (m_nV v) (Nat.le_refl _)
  unfold CQ
  rw [e1, e2, e3, e4, e5, e6, e7, e8, e9, e10, e11, e12, f1, f2, f3, f4, f5, f6, f7, f8, f9, f10]
  refine ⟨hV, h2, h3, hl, h5, h6, h7, h8, h9, h10, h11, fun t ht x => ?_, h13, h14, h15⟩
  rw [h3, key t ht x]
  constructor
  · rintro ⟨p1, p2⟩; rw [if_pos p1] at p2; exact ⟨p1, p2⟩
  · rintro ⟨p1, p2⟩; exact ⟨p1, by rw [if_pos p1]; exact p2⟩
/-- may -/
theorem CP_may {u U : CSt} {v V : MSt} {a b : Nat} (h : CP u v) (ha : 1 ≤ a) (ha2 : a < 16) (hb : 1 ≤ b) (hb2 : b < 16) (hab : a ≠ b) (e1 : k_nS U = k_nS u) (e2 : k_nV U = k_nV u) (e3 : k_lev U = k_lev u) (e4 : k_src U = k_src u) (e5 : k_fr U = bfr (k_fr u) a b) (e6 : k_e1 U = k_e1 u) (e7 : k_e2 U = k_e2 u) (e8 : k_opn U = k_opn u) (e9 : k_uns U = k_uns u) (e10 : k_dbl U = k_dbl u) (e11 : k_ends U = k_ends u) (e12 : k_fal U = k_fal u)
    (f1 : m_nS V = m_nS v) (f2 : m_nV V = m_nV v) (f3 : m_lev V = m_lev v) (f4 : m_liq V = m_liq v) (f5 : m_may V = va_up (va_up (m_may v) (16 * a + b) true) (16 * b + a) true) (f6 : m_fa V = m_fa v) (f7 : m_fb V = m_fb v) (f8 : m_op V = m_op v) (f9 : m_un V = m_un v) (f10 : m_seat V = m_seat v) (hV : MOk V) : CP U V := by
  rw [CQ_P] at h ⊢
  obtain ⟨h1, h2, h3, h4, h5, h6, h7, h8, h9, h10, h11, h12, h13, h14, h15⟩ := h
  have mm : ∀ c d, 1 ≤ c → c < 16 → 1 ≤ d → d < 16 → (va_up (va_up (m_may v) (16 * a + b) true) (16 * b + a) true (16 * c + d) = true ↔ m_may v (16 * c + d) = true ∨ (c = a ∧ d = b) ∨ (c = b ∧ d = a)) := fun c d k1 k2 k3 k4 => by
    by_cases e : c = b ∧ d = a
    · obtain ⟨rfl, rfl⟩ := e; rw [up_s]; simp
    · rw [va_up_ne _ _ (by omega)]
      by_cases e2 : c = a ∧ d = b
      · obtain ⟨rfl, rfl⟩ := e2; rw [up_s]; simp
      · rw [va_up_ne _ _ (by omega)]; simp [e, e2]
  have ff : ∀ c d, c < 16 → d < 16 → (t32 (bfr (k_fr u) a b c) d = true ↔ t32 (k_fr u c) d = true ∨ (c = a ∧ d = b) ∨ (c = b ∧ d = a)) := fun c d k1 k2 => by
    unfold bfr
    rw [va_up_ne (k_fr u) _ (Ne.symm hab)]
    by_cases e : c = b
    · subst e; rw [up_s, t32_or, t32_b32 a ha2 d (by omega)]; simp [Ne.symm hab]
    · rw [va_up_ne _ _ e]
      by_cases e2 : c = a
      · subst e2; rw [up_s, t32_or, t32_b32 b hb2 d (by omega)]; simp [hab]
      · rw [va_up_ne _ _ e2]; simp [e, e2]
  have bq : ∀ {x y : Bool}, (x = true ↔ y = true) → x = y := fun {x y} q => by cases x <;> cases y <;> simp_all
  unfold CQ
  rw [e1, e2, e3, e4, e5, e6, e7, e8, e9, e10, e11, e12, f1, f2, f3, f4, f5, f6, f7, f8, f9, f10]
  refine ⟨hV, h2, h3, h4, h5, fun c d k1 k2 k3 k4 => bq ?_, h7, h8, h9, h10, h11, h12, h13, h14, fun c d k1 k2 k3 k4 => bq ?_⟩
  · rw [ff c d k2 k4, mm c d k1 k2 k3 k4, h6 c d k1 k2 k3 k4]
  · rw [mm c d k1 k2 k3 k4, mm d c k3 k4 k1 k2, h15 c d k1 k2 k3 k4]
    constructor <;> rintro (q | q | q) <;> first | exact Or.inl q | exact Or.inr (Or.inl ⟨q.2, q.1⟩) | exact Or.inr (Or.inr ⟨q.2, q.1⟩)
theorem wth_at {X : Int64} {g : Nat → Bool} {n x : Nat} {b : Bool} (hx : x < n) (hn : n ≤ 64) (h : ∀ y, tb X y = true ↔ (y < n ∧ g y = true)) (y : Nat) : tb (wth X x b) y = true ↔ (y < n ∧ va_up g x b y = true) := by
  rw [tb_wth _ (by omega)]
  by_cases e : y = x
  · subst e; rw [if_pos rfl, up_s]; simp [hx]
  · rw [if_neg e, va_up_ne _ _ e]; exact h y
theorem CP_set {u U : CSt} {v V : MSt} {x : Nat} {b : Bool} (h : CP u v) (hx : x < m_nV v) (e1 : k_nS U = k_nS u) (e2 : k_nV U = k_nV u) (e3 : k_lev U = k_lev u) (e4 : k_src U = k_src u) (e5 : k_fr U = k_fr u) (e6 : k_e1 U = k_e1 u) (e7 : k_e2 U = k_e2 u) (e8 : k_opn U = wth (k_opn u) x b) (e9 : k_uns U = k_uns u) (e10 : k_dbl U = k_dbl u) (e11 : k_ends U = k_ends u) (e12 : k_fal U = k_fal u)
    (f1 : m_nS V = m_nS v) (f2 : m_nV V = m_nV v) (f3 : m_lev V = m_lev v) (f4 : m_liq V = m_liq v) (f5 : m_may V = m_may v) (f6 : m_fa V = m_fa v) (f7 : m_fb V = m_fb v) (f8 : m_op V = va_up (m_op v) x b) (f9 : m_un V = m_un v) (f10 : m_seat V = m_seat v) (hV : MOk V) : CP U V := by
  rw [CQ_P] at h ⊢
  obtain ⟨h1, h2, h3, h4, h5, h6, h7, h8, h9, h10, h11, h12, h13, h14, h15⟩ := h
  unfold CQ
  rw [e1, e2, e3, e4, e5, e6, e7, e8, e9, e10, e11, e12, f1, f2, f3, f4, f5, f6, f7, f8, f9, f10]
  exact ⟨hV, h2, h3, h4, h5, h6, h7, wth_at hx h1.2.1 h8, h9, h10, h11, h12, h13, h14, h15⟩
theorem CP_unsure {u U : CSt} {v V : MSt} {x : Nat} {b : Bool} (h : CP u v) (hx : x < m_nV v) (e1 : k_nS U = k_nS u) (e2 : k_nV U = k_nV u) (e3 : k_lev U = k_lev u) (e4 : k_src U = k_src u) (e5 : k_fr U = k_fr u) (e6 : k_e1 U = k_e1 u) (e7 : k_e2 U = k_e2 u) (e8 : k_opn U = k_opn u) (e9 : k_uns U = wth (k_uns u) x b) (e10 : k_dbl U = k_dbl u) (e11 : k_ends U = k_ends u) (e12 : k_fal U = k_fal u)
    (f1 : m_nS V = m_nS v) (f2 : m_nV V = m_nV v) (f3 : m_lev V = m_lev v) (f4 : m_liq V = m_liq v) (f5 : m_may V = m_may v) (f6 : m_fa V = m_fa v) (f7 : m_fb V = m_fb v) (f8 : m_op V = m_op v) (f9 : m_un V = va_up (m_un v) x b) (f10 : m_seat V = m_seat v) (hV : MOk V) : CP U V := by
  rw [CQ_P] at h ⊢
  obtain ⟨h1, h2, h3, h4, h5, h6, h7, h8, h9, h10, h11, h12, h13, h14, h15⟩ := h
  unfold CQ
  rw [e1, e2, e3, e4, e5, e6, e7, e8, e9, e10, e11, e12, f1, f2, f3, f4, f5, f6, f7, f8, f9, f10]
  exact ⟨hV, h2, h3, h4, h5, h6, h7, h8, wth_at hx h1.2.1 h9, h10, h11, h12, h13, h14, h15⟩
theorem CP_clear {U : CSt} {V : MSt} (e1 : k_nS U = 0) (e2 : k_nV U = 0) (e4 : ∀ t, t < 16 → k_src U t = 0) (e5 : ∀ t, t < 16 → k_fr U t = nI 0) (e6 : ∀ j, k_e1 U j < 64) (e7 : ∀ j, k_e2 U j < 64) (e8 : k_opn U = 0) (e9 : k_uns U = 0) (e10 : k_dbl U = 0)
    (f1 : m_nS V = 0) (f2 : m_nV V = 0) (f5 : ∀ t, t < 256 → m_may V t = false) (hV : MOk V) : CP U V := by
  rw [CQ_P]
  unfold CQ
  rw [e1, e2, e8, e9, e10, f1, f2]
  refine ⟨hV, rfl, rfl, fun t ht => absurd ht (Nat.not_lt_zero _), fun a ha t => ?_, fun a b k1 k2 k3 k4 => ?_, fun x hx => absurd hx (Nat.not_lt_zero _), fun x => ?_, fun x => ?_, fun x => ?_, fun t ht => absurd ht (Nat.not_lt_zero _), fun t ht => absurd ht (Nat.not_lt_zero _), e6, e7, fun a b k1 k2 k3 k4 => ?_⟩
  · rw [e4 a ha, tb_0]; exact ⟨fun q => absurd q (by decide), fun q => absurd q.1 (Nat.not_lt_zero _)⟩
  · rw [e5 a k2, f5 _ (by omega)]; exact t32_0 b
  · rw [tb_0]; exact ⟨fun q => absurd q (by decide), fun q => absurd q.1 (Nat.not_lt_zero _)⟩
  · rw [tb_0]; exact ⟨fun q => absurd q (by decide), fun q => absurd q.1 (Nat.not_lt_zero _)⟩
  · rw [tb_0]; exact ⟨fun q => absurd q (by decide), fun q => absurd q.1 (Nat.not_lt_zero _)⟩
  · rw [f5 _ (by omega), f5 _ (by omega)]
def CRw (u : CSt) (v : MSt) : Prop := k_cnt u = m_nR v ∧ (∀ j, j < m_nR v → k_pf u j = m_rf v j ∧ k_pl u j = m_rl v j ∧ k_pw u j = m_rw v j ∧ k_pc u j = m_rc v j) ∧ (∀ j, k_pf u j < 65) ∧ (∀ j, k_pl u j < 16) ∧ (∀ x y, x < y → y < m_nR v → m_rf v x ≤ m_rf v y) ∧ (∀ j, j < m_nR v → m_rf v j ≤ m_nV v ∧ 1 ≤ m_rl v j ∧ ∀ i, tb (m_rc v j) i = true → i < m_nV v)
def CRo (u : CSt) (v : MSt) : Prop := k_fu u = m_gu v ∧ (m_gu v = true → ∀ j, j < 4 → k_fnd u j = nI (m_cul v j)) ∧ k_re u = m_te v
def CR (u : CSt) (v : MSt) : Prop := CP u v ∧ CRw u v ∧ CRo u v
theorem CRw_0 {u U : CSt} {v V : MSt} (h : CRw u v) (e1 : k_cnt U = 0) (e2 : m_nR V = 0) (e3 : k_pf U = k_pf u) (e4 : k_pl U = k_pl u) : CRw U V := by
  unfold CRw at h ⊢
  rw [e1, e2, e3, e4]
  exact ⟨rfl, fun j hj => absurd hj (Nat.not_lt_zero _), h.2.2.1, h.2.2.2.1, fun x y _ hy => absurd hy (Nat.not_lt_zero _), fun j hj => absurd hj (Nat.not_lt_zero _)⟩
theorem CRw_cg {u U : CSt} {v V : MSt} (h : CRw u v) (e1 : k_cnt U = k_cnt u) (e2 : k_pf U = k_pf u) (e3 : k_pl U = k_pl u) (e4 : k_pw U = k_pw u) (e5 : k_pc U = k_pc u) (f1 : m_nR V = m_nR v) (f2 : m_rf V = m_rf v) (f3 : m_rl V = m_rl v) (f4 : m_rw V = m_rw v) (f5 : m_rc V = m_rc v) (f6 : m_nV V = m_nV v) : CRw U V := by
  unfold CRw at h ⊢
  rw [e1, e2, e3, e4, e5, f1, f2, f3, f4, f5, f6]; exact h
theorem CRo_cg {u U : CSt} {v V : MSt} (h : CRo u v) (e1 : k_fu U = k_fu u) (e2 : k_fnd U = k_fnd u) (e3 : k_re U = k_re u) (f1 : m_gu V = m_gu v) (f2 : m_cul V = m_cul v) (f3 : m_te V = m_te v) : CRo U V := by
  unfold CRo at h ⊢
  rw [e1, e2, e3, f1, f2, f3]; exact h
theorem MOk_th {v : MSt} {t : Nat} (h : MOk v) : MOk (m_s_th v t) := by
  obtain ⟨k1, k2, k3, k4, k5, k6, k7, k8, k9, k10, k11⟩ := h
  exact ⟨k1, k2, k3, k4, k5, k6, k7, k8, k9, k10, k11⟩
theorem CR_th {u : CSt} {v : MSt} {t : Nat} (h : CR u v) : CR u (m_s_th v t) :=
  ⟨CP_cg2 h.1 (MOk_th h.1.1) rfl rfl rfl rfl rfl rfl rfl rfl rfl rfl rfl rfl rfl rfl rfl rfl rfl rfl rfl rfl rfl rfl, CRw_cg h.2.1 rfl rfl rfl rfl rfl rfl rfl rfl rfl rfl rfl, CRo_cg h.2.2 rfl rfl rfl rfl rfl rfl⟩
theorem st_space {u : CSt} {v : MSt} (h : CR u v) (x : Int32) : (C_space u x).1 = (M_space v x).1 ∧ CR (C_space u x).2 (M_space v x).2 := by
  have hp := h.1
  have e := hp.2.1
  have hn := hp.1.1
  unfold C_space M_space
  by_cases q : x < 0 ∨ ¬ x < nI 16
  · rw [if_pos q, if_pos q]; exact ⟨rfl, CR_th h⟩
  · rw [if_neg q, if_neg q]
    by_cases q2 : m_nS v = 64
    · rw [if_pos (by omega), if_pos q2]; exact ⟨rfl, CR_th h⟩
    · rw [if_neg (by omega), if_neg q2]
      obtain ⟨a, ha, rfl⟩ := nI_of (fun z => q (Or.inl z))
      have ha2 : a < 16 := (nI_ltI ha (by decide)).mp (Decidable.byContradiction fun z => q (Or.inr z))
      rw [nI_clamp ha]
      obtain ⟨k1, k2, k3, k4, k5, k6, k7, k8, k9, k10, k11⟩ := hp.1
      refine ⟨by rw [e], CP_space hp ha2 (by omega) rfl rfl rfl rfl rfl rfl rfl rfl rfl rfl rfl rfl rfl rfl rfl rfl rfl rfl rfl rfl rfl rfl ?_, CRw_0 h.2.1 rfl rfl rfl rfl, CRo_cg h.2.2 rfl rfl rfl rfl rfl rfl⟩
      exact ⟨show m_nS v + 1 ≤ 64 by omega, k2, Nat.zero_le _, up_bd k4 ha2, k5, k6, k7, k8, fun w hw => (by have := k9 w hw; exact ⟨Nat.lt_succ_of_lt this.1, Nat.lt_succ_of_lt this.2.1, this.2.2⟩), k10, k11⟩
theorem k12 (k : Int32) : (k < nI 1 ∨ ¬ k ≤ nI 2) ↔ (¬ k = nI 1 ∧ ¬ k = nI 2) := by
  rw [Int32.lt_iff_toInt_lt, Int32.le_iff_toInt_le, ← Int32.toInt_inj, ← Int32.toInt_inj, nI_toInt (by decide), nI_toInt (by decide)]; omega
theorem st_valve {u : CSt} {v : MSt} (h : CR u v) (x y k : Int32) (o : Bool) : (C_valve u x y k o).1 = (M_valve v x y k o).1 ∧ CR (C_valve u x y k o).2 (M_valve v x y k o).2 := by
  have hp := h.1
  have e := hp.2.1
  have e2 := hp.2.2.1
  have hn := hp.1.1
  have hV := hp.1.2.1
  unfold C_valve M_valve
  rw [e, e2]
  by_cases q : ixB x (m_nS v) = false ∨ ixB y (m_nS v) = false ∨ x = y
  · rw [if_pos q, if_pos (by rcases q with q | q | q <;> simp [q])]; exact ⟨rfl, CR_th h⟩
  · rw [if_neg q]
    by_cases q1 : ¬ k = nI 1 ∧ ¬ k = nI 2
    · rw [if_pos q1, if_pos (by rcases (k12 k).mpr q1 with z | z <;> simp [z])]; exact ⟨rfl, CR_th h⟩
    · have hM : ¬ (ixB x (m_nS v) = false ∨ ixB y (m_nS v) = false ∨ x = y ∨ k < nI 1 ∨ ¬ k ≤ nI 2) := fun z => by
        rcases z with z | z | z | z | z
        · exact q (Or.inl z)
        · exact q (Or.inr (Or.inl z))
        · exact q (Or.inr (Or.inr z))
        · exact q1 ((k12 k).mp (Or.inl z))
        · exact q1 ((k12 k).mp (Or.inr z))
      rw [if_neg q1, if_neg hM]
      by_cases q2 : m_nV v = 64
      · rw [if_pos (show 64 ≤ m_nV v by omega), if_pos q2]; exact ⟨rfl, CR_th h⟩
      · rw [if_neg (show ¬ 64 ≤ m_nV v by omega), if_neg q2]
        obtain ⟨a, ha, rfl⟩ := ixB_of (x := x) (n := m_nS v) (by omega) (ts_nf (fun z => q (Or.inl z)))
        obtain ⟨b, hb, rfl⟩ := ixB_of (x := y) (n := m_nS v) (by omega) (ts_nf (fun z => q (Or.inr (Or.inl z))))
        have hab : a ≠ b := fun z => q (Or.inr (Or.inr (by rw [z])))
        obtain ⟨kk, hk, hk2, rfl⟩ : ∃ kk : Nat, kk < 4 ∧ (kk = 1 ∨ kk = 2) ∧ k = nI kk := by
          rcases Decidable.em (k = nI 1) with z | z
          · exact ⟨1, by decide, Or.inl rfl, z⟩
          · exact ⟨2, by decide, Or.inr rfl, Decidable.byContradiction fun z2 => q1 ⟨z, z2⟩⟩
        rw [nI_clamp (show a < 2 ^ 31 by omega), nI_clamp (show b < 2 ^ 31 by omega), nI_clamp (show kk < 2 ^ 31 by omega)]
        obtain ⟨k1, k2, k3, k4, k5, k6, k7, k8, k9, k10, k11⟩ := hp.1
        refine ⟨rfl, CP_valve (U1 := k_addV1 (k_s_cnt u 0) a b (decide (nI kk = nI 2)) o) hp ha hb hab (by omega) (by rw [decide_eq_true_eq]; exact nI_eq (by omega) (by decide)) rfl rfl rfl rfl rfl rfl rfl rfl rfl rfl rfl rfl rfl rfl rfl rfl rfl rfl rfl rfl rfl rfl rfl rfl rfl rfl ?_, CRw_0 h.2.1 rfl rfl rfl rfl, CRo_cg h.2.2 rfl rfl rfl rfl rfl rfl⟩
        refine ⟨k1, show m_nV v + 1 ≤ 64 by omega, Nat.zero_le _, k4, up_bd k5 (by omega), up_bd k6 (by omega), k7, k8, fun w hw => ?_, k10, up_bd k11 hk⟩
        show va_up (m_fa v) (m_nV v) a w < m_nS v ∧ va_up (m_fb v) (m_nV v) b w < m_nS v ∧ va_up (m_fa v) (m_nV v) a w ≠ va_up (m_fb v) (m_nV v) b w
        have hw : w < m_nV v + 1 := hw
        by_cases z : w = m_nV v
        · subst z; rw [up_s, up_s]; exact ⟨ha, hb, hab⟩
        · rw [va_up_ne _ _ z, va_up_ne _ _ z]; exact k9 w (by omega)
theorem st_level {u : CSt} {v : MSt} (h : CR u v) (x : Int32) (hh : Int64) : (C_level u x hh).1 = (M_level v x hh).1 ∧ CR (C_level u x hh).2 (M_level v x hh).2 := by
  have hp := h.1
  have e := hp.2.1
  have hn := hp.1.1
  unfold C_level M_level
  rw [e]
  by_cases q : ixB x (m_nS v) = false
  · rw [if_pos q, if_pos q]; exact ⟨rfl, CR_th h⟩
  · rw [if_neg q, if_neg q]
    obtain ⟨a, ha, rfl⟩ := ixB_of (x := x) (n := m_nS v) (by omega) (ts_nf q)
    rw [nI_clamp (show a < 2 ^ 31 by omega)]
    obtain ⟨k1, k2, k3, k4, k5, k6, k7, k8, k9, k10, k11⟩ := hp.1
    exact ⟨rfl, CP_level hp ha rfl rfl rfl rfl rfl rfl rfl rfl rfl rfl rfl rfl rfl rfl rfl rfl rfl rfl rfl rfl rfl rfl ⟨k1, k2, Nat.zero_le _, k4, k5, k6, k7, k8, k9, k10, k11⟩, CRw_0 h.2.1 rfl rfl rfl rfl, CRo_cg h.2.2 rfl rfl rfl rfl rfl rfl⟩
theorem liq_iff (x : Int32) : liqB x = false ↔ (x ≤ 0 ∨ nI 16 ≤ x) := by
  have hz : (x ≤ 0 ∨ nI 16 ≤ x) ↔ ¬ (¬ x < nI 1 ∧ ¬ nI 16 ≤ x) := by
    rw [Int32.le_iff_toInt_le, Int32.le_iff_toInt_le, Int32.lt_iff_toInt_lt, nI_toInt (by decide), nI_toInt (by decide), Int32.toInt_zero]; omega
  rw [hz]; unfold liqB; exact decide_eq_false_iff_not
theorem st_may {u : CSt} {v : MSt} (h : CR u v) (x y : Int32) : (C_may u x y).1 = (M_may v x y).1 ∧ CR (C_may u x y).2 (M_may v x y).2 := by
  have hp := h.1
  unfold C_may M_may
  by_cases q : liqB x = false ∨ liqB y = false ∨ x = y
  · rw [if_pos (by rcases q with q | q | q <;> simp [q]), if_pos (Or.inl (by
      rcases q with q | q | q
      · rcases (liq_iff x).mp q with z | z <;> simp [z]
      · rcases (liq_iff y).mp q with z | z <;> simp [z]
      · simp [q]))]
    exact ⟨rfl, CR_th h⟩
  · obtain ⟨a, ha, ha2, rfl⟩ := liqB_of (ts_nf (fun z => q (Or.inl z)))
    obtain ⟨b, hb, hb2, rfl⟩ := liqB_of (ts_nf (fun z => q (Or.inr (Or.inl z))))
    have hab : a ≠ b := fun z => q (Or.inr (Or.inr (by rw [z])))
    rw [nI_clamp (show a < 2 ^ 31 by omega), nI_clamp (show b < 2 ^ 31 by omega)]
    have hf := hp.2.2.2.2.2.1 a b ha ha2 hb hb2
    have hno : ¬ (nI a ≤ 0 ∨ nI 16 ≤ nI a ∨ nI b ≤ 0 ∨ nI 16 ≤ nI b ∨ nI a = nI b) := fun z => by
      rcases z with z | z | z | z | z
      · exact q (Or.inl ((liq_iff _).mpr (Or.inl z)))
      · exact q (Or.inl ((liq_iff _).mpr (Or.inr z)))
      · exact q (Or.inr (Or.inl ((liq_iff _).mpr (Or.inl z))))
      · exact q (Or.inr (Or.inl ((liq_iff _).mpr (Or.inr z))))
      · exact q (Or.inr (Or.inr z))
    by_cases q2 : m_may v (16 * a + b) = true
    · rw [if_pos (Or.inr (Or.inr (Or.inr (hf.trans q2)))), if_pos (Or.inr q2)]; exact ⟨rfl, CR_th h⟩
    · rw [if_neg (fun z => by
        rcases z with z | z | z | z
        · exact q (Or.inl z)
        · exact q (Or.inr (Or.inl z))
        · exact q (Or.inr (Or.inr z))
        · exact q2 (hf.symm.trans z)), if_neg (fun z => z.elim hno q2)]
      obtain ⟨k1, k2, k3, k4, k5, k6, k7, k8, k9, k10, k11⟩ := hp.1
      exact ⟨rfl, CP_may hp ha ha2 hb hb2 hab rfl rfl rfl rfl rfl rfl rfl rfl rfl rfl rfl rfl rfl rfl rfl rfl rfl rfl rfl rfl rfl rfl ⟨k1, k2, Nat.zero_le _, k4, k5, k6, k7, k8, k9, k10, k11⟩, CRw_0 h.2.1 rfl rfl rfl rfl, CRo_cg h.2.2 rfl rfl rfl rfl rfl rfl⟩
theorem st_culprit {u : CSt} {v : MSt} (h : CR u v) (x : Int32) : C_culprit u x = M_culprit v x := by
  obtain ⟨h1, h2, -⟩ := h.2.2
  unfold C_culprit M_culprit
  rw [h1]
  by_cases q : m_gu v = true ∧ ¬ x < 0 ∧ ¬ nI 4 ≤ x
  · rw [if_pos q, if_pos q]
    obtain ⟨j, hj, rfl⟩ := ixB_of (x := x) (n := 4) (by decide) (decide_eq_true q.2)
    rw [nI_clamp (by omega)]
    exact h2 q.1 j hj
  · rw [if_neg q, if_neg q]
theorem nthB_ext {g : Nat → Bool} {k n : Nat} (h : ∀ i, g i = true → i < n) : ∀ d, nthB g k (n + d) = nthB g k n
  | 0 => rfl
  | d + 1 => by
    have ih := nthB_ext (k := k) h d
    show nthB g k ((n + d) + 1) = _
    rw [nthB, ih]
    cases hq : nthB g k n with
    | some x => rfl
    | none =>
      show (if g (n + d) = true ∧ pcn g (n + d) = k then some (n + d) else none) = none
      rw [if_neg (fun z => by have := h _ z.1; omega)]
theorem st_row {u : CSt} {v : MSt} (h : CR u v) (x y : Int32) : C_row u x y = M_row v x y := by
  obtain ⟨h1, h2, h3, h4, h5, h6⟩ := h.2.1
  have hR := h.1.1.2.2.1
  have hV := h.1.1.2.1
  unfold C_row M_row
  rw [h1]
  by_cases q : ixB x (m_nR v) = false ∨ y < 0
  · rw [if_pos q, if_pos q]
  · rw [if_neg q, if_neg q]
    obtain ⟨a, ha, rfl⟩ := ixB_of (x := x) (n := m_nR v) (by omega) (ts_nf (fun z => q (Or.inl z)))
    rw [nI_clamp (show a < 2 ^ 31 by omega)]
    unfold crN rowN
    obtain ⟨g1, g2, g3, g4⟩ := h2 a ha
    rw [g1, g2, g3, g4]
    have := nthB_ext (g := tb (m_rc v a)) (k := y.toNatClampNeg - 4) (h6 a ha).2.2 (64 - m_nV v)
    rw [show m_nV v + (64 - m_nV v) = 64 by omega] at this
    rw [this]
theorem st_check {u : CSt} {v : MSt} {L : Int64} {Wy fl : Nat → Int64} {w : Nat → Bool} (h : CR u v) : CR (k_s_fls (k_s_ways (k_s_lett u L) Wy) fl) (m_s_th (m_s_wet v w) 0) := by
  obtain ⟨k1, k2, k3, k4, k5, k6, k7, k8, k9, k10, k11⟩ := h.1.1
  exact ⟨CP_cg2 h.1 ⟨k1, k2, k3, k4, k5, k6, k7, k8, k9, k10, k11⟩ rfl rfl rfl rfl rfl rfl rfl rfl rfl rfl rfl rfl rfl rfl rfl rfl rfl rfl rfl rfl rfl rfl, CRw_cg h.2.1 rfl rfl rfl rfl rfl rfl rfl rfl rfl rfl rfl, CRo_cg h.2.2 rfl rfl rfl rfl rfl rfl⟩
theorem sh_at {β : Type} {g : Nat → β} {i n j : Nat} (hj : j < n - 1) : sh g i (n - 1) j = g (if i ≤ j then j + 1 else j) := by
  unfold sh
  by_cases e : i ≤ j
  · rw [if_pos ⟨e, hj⟩, if_pos e]
  · rw [if_neg (fun z => e z.1), if_neg e]
theorem sh_bd {g : Nat → Nat} {M i n : Nat} (h : ∀ j, g j < M) : ∀ j, sh g i n j < M := by
  intro j; unfold sh; split
  · exact h _
  · exact h _
theorem st_drop {u : CSt} {v : MSt} (h : CR u v) (x : Int32) : (C_drop u x).1 = (M_drop v x).1 ∧ CR (C_drop u x).2 (M_drop v x).2 := by
  have hR := h.1.1.2.2.1
  have h1 := h.2.1.1
  unfold C_drop M_drop
  rw [h1]
  by_cases q : ixB x (m_nR v) = false
  · rw [if_pos q, if_pos q]; exact ⟨rfl, CR_th h⟩
  · rw [if_neg q, if_neg q]
    obtain ⟨a, ha, rfl⟩ := ixB_of (x := x) (n := m_nR v) (by omega) (ts_nf q)
    rw [nI_clamp (show a < 2 ^ 31 by omega)]
    obtain ⟨k1, k2, k3, k4, k5, k6, k7, k8, k9, k10, k11⟩ := h.1.1
    obtain ⟨-, h2, h3, h4, h5, h6⟩ := h.2.1
    refine ⟨rfl, CP_cg2 h.1 ⟨k1, k2, show m_nR v - 1 ≤ 975 by omega, k4, k5, k6, sh_bd k7, sh_bd k8, k9, k10, k11⟩ rfl rfl rfl rfl rfl rfl rfl rfl rfl rfl rfl rfl rfl rfl rfl rfl rfl rfl rfl rfl rfl rfl, ?_, CRo_cg h.2.2 rfl rfl rfl rfl rfl rfl⟩
    show k_cnt u - 1 = m_nR v - 1 ∧ (∀ j, j < m_nR v - 1 → sh (k_pf u) a (k_cnt u - 1) j = sh (m_rf v) a (m_nR v - 1) j ∧ sh (k_pl u) a (k_cnt u - 1) j = sh (m_rl v) a (m_nR v - 1) j ∧ sh (k_pw u) a (k_cnt u - 1) j = sh (m_rw v) a (m_nR v - 1) j ∧ sh (k_pc u) a (k_cnt u - 1) j = sh (m_rc v) a (m_nR v - 1) j) ∧ (∀ j, sh (k_pf u) a (k_cnt u - 1) j < 65) ∧ (∀ j, sh (k_pl u) a (k_cnt u - 1) j < 16) ∧ (∀ x y, x < y → y < m_nR v - 1 → sh (m_rf v) a (m_nR v - 1) x ≤ sh (m_rf v) a (m_nR v - 1) y) ∧ (∀ j, j < m_nR v - 1 → sh (m_rf v) a (m_nR v - 1) j ≤ m_nV v ∧ 1 ≤ sh (m_rl v) a (m_nR v - 1) j ∧ ∀ i, tb (sh (m_rc v) a (m_nR v - 1) j) i = true → i < m_nV v)
    rw [h1]
    have hj : ∀ j, j < m_nR v - 1 → (if a ≤ j then j + 1 else j) < m_nR v := fun j hj => by split <;> omega
    refine ⟨rfl, fun j q => ?_, sh_bd h3, sh_bd h4, fun x y q1 q2 => ?_, fun j q => ?_⟩
    · rw [sh_at q, sh_at q, sh_at q, sh_at q, sh_at q, sh_at q, sh_at q, sh_at q]; exact h2 _ (hj j q)
    · rw [sh_at (show x < m_nR v - 1 by omega), sh_at q2]
      exact h5 _ _ (by split <;> split <;> omega) (hj y q2)
    · rw [sh_at q, sh_at q, sh_at q]; exact h6 _ (hj j q)
theorem st_clear {u : CSt} {v : MSt} {g : Nat → Int64} {f : Nat → Int32} {g2 : Nat → Bool} (h : CR u v) (hg : ∀ t, t < 16 → g t = 0) (hf : ∀ t, t < 16 → f t = nI 0) (hg2 : ∀ t, t < 256 → g2 t = false) : CR (k_s_re (k_s_fu (k_s_cnt (k_s_fr (k_s_src (k_s_dbl (k_s_uns (k_s_opn (k_s_nV (k_s_nS u 0) 0) 0) 0) 0) g) f) 0) false) 0) (m_s_th (m_s_te (m_s_gu (m_s_nR (m_s_may (m_s_nV (m_s_nS v 0) 0) g2) 0) false) 0) 0) := by
  obtain ⟨k1, k2, k3, k4, k5, k6, k7, k8, k9, k10, k11⟩ := h.1.1
  refine ⟨CP_clear rfl rfl hg hf h.1.2.2.2.2.2.2.2.2.2.2.2.2.1 h.1.2.2.2.2.2.2.2.2.2.2.2.2.2.1 rfl rfl rfl rfl rfl hg2 ⟨Nat.zero_le _, Nat.zero_le _, Nat.zero_le _, k4, k5, k6, k7, k8, fun w hw => absurd hw (Nat.not_lt_zero _), Nat.zero_le _, k11⟩, CRw_0 h.2.1 rfl rfl rfl rfl, rfl, fun q => absurd (show false = true from q) (by decide), rfl⟩
def C_safe (u : CSt) (v : MSt) (r : Int32) (z : CSt) : Prop := (r = nI 1 ∧ (∀ x, x < m_nV v + 1 → mNo v x) ∧ ∃ (n : Nat) (g1 g2 : Nat → Nat) (g3 g4 : Nat → Int64) (L : Int64) (Wy fl : Nat → Int64), RT (mTh v) (mF v) (fun a x => mC v (mF v a x) x) (m_nV v + 1) 1 n g1 g2 g3 g4 ∧ (∀ j, g1 j < 65) ∧ (∀ j, g2 j < 16) ∧ z = k_s_fls (k_s_ways (k_s_lett (k_s_pc (k_s_pw (k_s_pl (k_s_pf (k_s_cnt (k_s_fu u false) n) g1) g2) g3) g4) L) Wy) fl) ∨ (r = nI 0 ∧ ∃ f t a b, f ≤ m_nV v ∧ (∀ x, x < f → mNo v x) ∧ mCul v f t a b ∧ ∃ (g1 g2 : Nat → Nat) (g3 g4 : Nat → Int64) (L : Int64) (Wy fl : Nat → Int64), (∀ j, g1 j < 65) ∧ (∀ j, g2 j < 16) ∧ z = k_s_fnd (k_s_fls (k_s_ways (k_s_lett (k_s_pc (k_s_pw (k_s_pl (k_s_pf (k_s_cnt (k_s_fu u true) 0) g1) g2) g3) g4) L) Wy) fl) (va_up (va_up (va_up (va_up (k_fnd u) 0 (nI f)) 1 (nI t)) 2 (nI a)) 3 (nI b)))
def M_safe (u : MSt) (r : Int32) (z : MSt) : Prop := (r = nI 1 ∧ (∀ x, x < m_nV u + 1 → mNo u x) ∧ ∃ (n : Nat) (g1 g2 : Nat → Nat) (g3 g4 : Nat → Int64) (w : Nat → Bool), RT (mTh u) (mF u) (fun a x => mC u (mF u a x) x) (m_nV u + 1) 1 n g1 g2 g3 g4 ∧ n ≤ 975 ∧ (∀ j, g1 j < 65) ∧ (∀ j, g2 j < 16) ∧ z = m_s_wet (m_s_th (m_s_gu (m_s_cul (m_s_rc (m_s_rw (m_s_rl (m_s_rf (m_s_nR u n) g1) g2) g3) g4) (m_cul u)) false) 0) w) ∨ (r = nI 0 ∧ ∃ f t a b, f ≤ m_nV u ∧ (∀ x, x < f → mNo u x) ∧ mCul u f t a b ∧ ∃ (g1 g2 : Nat → Nat) (g3 g4 : Nat → Int64) (w : Nat → Bool), (∀ j, g1 j < 65) ∧ (∀ j, g2 j < 16) ∧ z = m_s_wet (m_s_th (m_s_gu (m_s_cul (m_s_rc (m_s_rw (m_s_rl (m_s_rf (m_s_nR u 0) g1) g2) g3) g4) (cu4 (m_cul u) f t a b)) true) 0) w)
theorem RT_row {th : Nat → Bool} {F C : Nat → Nat → Int64} {f n : Nat} {g1 g2 : Nat → Nat} {g3 g4 : Nat → Int64} (h : RT th F C f 1 n g1 g2 g3 g4) (h0 : th 0 = false) {j : Nat} (hj : j < n) : ∃ x y, x < f ∧ y < 16 ∧ th y = true ∧ j = x * pcn th 16 + pcn th y ∧ pcn th y < pcn th 16 ∧ g1 j = x ∧ g2 j = y ∧ g3 j = F y x ∧ g4 j = C y x := by
  have hn : n = f * pcn th 16 := by
    have := h.1
    rw [pcn_sf h0] at this
    exact this
  have hP : 0 < pcn th 16 := by
    rcases Nat.eq_zero_or_pos (pcn th 16) with q | q
    · rw [q, Nat.mul_zero] at hn; omega
    · exact q
  obtain ⟨y, y1, y2, y3⟩ := pcn_inv (g := th) (r := j % pcn th 16) (m := 16) (Nat.mod_lt _ hP)
  have hx : j / pcn th 16 < f := Nat.div_lt_of_lt_mul (by rw [Nat.mul_comm]; omega)
  have e : j = j / pcn th 16 * pcn th 16 + pcn th y := by rw [y3, Nat.mul_comm]; exact (Nat.div_add_mod j _).symm
  obtain ⟨r1, r2, r3, r4⟩ := h.2 (j / pcn th 16) y y2 (Or.inl ⟨hx, y1⟩)
  rw [← e] at r1 r2 r3 r4
  exact ⟨_, y, hx, y1, y2, e, by rw [y3]; exact Nat.mod_lt _ hP, r1, r2, r3, r4⟩
theorem RT_eq {th : Nat → Bool} {F C : Nat → Nat → Int64} {f n n2 : Nat} {g1 g2 p1 p2 : Nat → Nat} {g3 g4 p3 p4 : Nat → Int64} (h : RT th F C f 1 n g1 g2 g3 g4) (h2 : RT th F C f 1 n2 p1 p2 p3 p4) (h0 : th 0 = false) : n = n2 ∧ ∀ j, j < n → g1 j = p1 j ∧ g2 j = p2 j ∧ g3 j = p3 j ∧ g4 j = p4 j := by
  refine ⟨h.1.trans h2.1.symm, fun j hj => ?_⟩
  obtain ⟨x, y, x1, y1, y2, e, -, r1, r2, r3, r4⟩ := RT_row h h0 hj
  obtain ⟨s1, s2, s3, s4⟩ := h2.2 x y y2 (Or.inl ⟨x1, y1⟩)
  rw [← e] at s1 s2 s3 s4
  exact ⟨r1.trans s1.symm, r2.trans s2.symm, r3.trans s3.symm, r4.trans s4.symm⟩
theorem RT_sort {th : Nat → Bool} {F C : Nat → Nat → Int64} {f n : Nat} {g1 g2 : Nat → Nat} {g3 g4 : Nat → Int64} (h : RT th F C f 1 n g1 g2 g3 g4) (h0 : th 0 = false) {i j : Nat} (hij : i < j) (hj : j < n) : g1 i ≤ g1 j := by
  obtain ⟨x, y, x1, y1, y2, e, l1, r1, -⟩ := RT_row h h0 (show i < n by omega)
  obtain ⟨x', y', x1', y1', y2', e', l1', r1', -⟩ := RT_row h h0 hj
  rw [r1, r1']
  rcases Nat.lt_or_ge x' x with q | q
  · have := Nat.mul_le_mul_right (pcn th 16) (show x' + 1 ≤ x from q)
    rw [Nat.add_mul] at this
    omega
  · exact q
theorem mC_bit {v : MSt} {X : Int64} {f i : Nat} (h : tb (mC v X f) i = true) : i < m_nV v := by
  have h2 := tb_lt h
  unfold mC at h
  rw [tb_ofB _ h2] at h
  simp at h
  exact h.1
theorem mCul_u {v : MSt} {f t a b t2 a2 b2 : Nat} (h : mCul v f t a b) (h2 : mCul v f t2 a2 b2) : t = t2 ∧ a = a2 ∧ b = b2 := by
  obtain ⟨p1, p2, p3, p4, p5⟩ := h
  obtain ⟨q1, q2, q3, q4, q5⟩ := h2
  have et : t = t2 := by
    rcases Nat.lt_trichotomy t t2 with z | z | z
    · exact absurd p2 (q3 t z a b)
    · exact z
    · exact absurd q2 (p3 t2 z a2 b2)
  subst et
  have ea : a = a2 := by
    rcases Nat.lt_trichotomy a a2 with z | z | z
    · exact absurd p2 (q4 a z b)
    · exact z
    · exact absurd q2 (p4 a2 z b2)
  subst ea
  refine ⟨rfl, rfl, ?_⟩
  rcases Nat.lt_trichotomy b b2 with z | z | z
  · exact absurd p2 (q5 b z)
  · exact z
  · exact absurd q2 (p5 b2 z)
theorem cul_at {c : Nat → Int32} {d : Nat → Nat} {f t a b : Nat} : ∀ j, j < 4 → va_up (va_up (va_up (va_up c 0 (nI f)) 1 (nI t)) 2 (nI a)) 3 (nI b) j = nI (cu4 d f t a b j) := by
  intro j hj
  rcases (show j = 0 ∨ j = 1 ∨ j = 2 ∨ j = 3 by omega) with rfl | rfl | rfl | rfl <;> simp [cu4, va_up]
theorem st_safe {u z : CSt} {v z2 : MSt} {r r2 : Int32} (h : CR u v) (h1 : C_safe u v r z) (h2 : M_safe v r2 z2) : r = r2 ∧ CR z z2 := by
  obtain ⟨k1, k2, k3, k4, k5, k6, k7, k8, k9, k10, k11⟩ := h.1.1
  rcases h1 with ⟨rfl, c2, n, g1, g2, g3, g4, L, Wy, fl, c3, c4, c5, rfl⟩ | ⟨rfl, f, t, a, b, c1, c2, c3, g1, g2, g3, g4, L, Wy, fl, c4, c5, rfl⟩ <;>
  rcases h2 with ⟨rfl, d2, n', p1, p2, p3, p4, w, d3, d6, d4, d5, rfl⟩ | ⟨rfl, f', t', a', b', d1, d2, d3, p1, p2, p3, p4, w, d4, d5, rfl⟩
  · obtain ⟨rfl, he⟩ := RT_eq c3 d3 (mTh_0 v)
    refine ⟨rfl, CP_cg2 h.1 ⟨k1, k2, d6, k4, k5, k6, d4, d5, k9, k10, k11⟩ rfl rfl rfl rfl rfl rfl rfl rfl rfl rfl rfl rfl rfl rfl rfl rfl rfl rfl rfl rfl rfl rfl, ⟨rfl, he, c4, c5, fun x y q1 q2 => RT_sort d3 (mTh_0 v) q1 q2, fun j hj => ?_⟩, rfl, fun q => absurd (show false = true from q) (by decide), h.2.2.2.2⟩
    obtain ⟨x, y, x1, y1, y2, e, -, r1, r2, r3, r4⟩ := RT_row d3 (mTh_0 v) hj
    show p1 j ≤ m_nV v ∧ 1 ≤ p2 j ∧ ∀ i, tb (p4 j) i = true → i < m_nV v
    refine ⟨by rw [r1]; omega, ?_, fun i hi => ?_⟩
    · rw [r2]
      rcases Nat.eq_zero_or_pos y with q | q
      · rw [q, mTh_0] at y2; cases y2
      · exact q
    · rw [r4] at hi; exact mC_bit hi
  · exact absurd d3.2.1 (c2 f' (by omega) t' a' b' d3.1)
  · exact absurd c3.2.1 (d2 f (by omega) t a b c3.1)
  · have ef : f = f' := by
      rcases Nat.lt_trichotomy f f' with q | q | q
      · exact absurd c3.2.1 (d2 f q t a b c3.1)
      · exact q
      · exact absurd d3.2.1 (c2 f' q t' a' b' d3.1)
    subst ef
    obtain ⟨rfl, rfl, rfl⟩ := mCul_u c3 d3
    exact ⟨rfl, CP_cg2 h.1 ⟨k1, k2, Nat.zero_le _, k4, k5, k6, d4, d5, k9, k10, k11⟩ rfl rfl rfl rfl rfl rfl rfl rfl rfl rfl rfl rfl rfl rfl rfl rfl rfl rfl rfl rfl rfl rfl, ⟨rfl, fun j hj => absurd hj (Nat.not_lt_zero _), c4, c5, fun x y _ hy => absurd hy (Nat.not_lt_zero _), fun j hj => absurd hj (Nat.not_lt_zero _)⟩, rfl, fun _ => cul_at, h.2.2.2.2⟩
theorem bo_iff {x y : Bool} (h : x = true ↔ y = true) : x = y := by cases x <;> cases y <;> simp_all
theorem CRw_set {u U : CSt} {v V : MSt} {p3 p4 g3 g4 : Nat → Int64} (h : CRw u v) (e1 : k_cnt U = k_cnt u) (e2 : k_pf U = k_pf u) (e3 : k_pl U = k_pl u) (e4 : k_pw U = p3) (e5 : k_pc U = p4) (f1 : m_nR V = m_nR v) (f2 : m_rf V = m_rf v) (f3 : m_rl V = m_rl v) (f4 : m_rw V = g3) (f5 : m_rc V = g4) (f6 : m_nV V = m_nV v) (q3 : ∀ j, j < m_nR v → p3 j = g3 j) (q4 : ∀ j, j < m_nR v → p4 j = g4 j) (q5 : ∀ j, j < m_nR v → ∀ t, tb (g4 j) t = true → t < m_nV v) : CRw U V := by
  unfold CRw at h ⊢
  rw [e1, e2, e3, e4, e5, f1, f2, f3, f4, f5, f6]
  obtain ⟨w1, w2, w3, w4, w5, w6⟩ := h
  exact ⟨w1, fun j hj => ⟨(w2 j hj).1, (w2 j hj).2.1, q3 j hj, q4 j hj⟩, w3, w4, w5, fun j hj => ⟨(w6 j hj).1, (w6 j hj).2.1, q5 j hj⟩⟩
theorem pcn_cg {f g : Nat → Bool} : ∀ {n : Nat}, (∀ j, j < n → f j = g j) → pcn f n = pcn g n
  | 0, _ => rfl
  | n + 1, h => by
    have ih := pcn_cg (n := n) (fun j hj => h j (by omega))
    unfold pcn
    rw [ih, h n (by omega)]
/-- what the reference's set leaves -/
def M_set (u : MSt) (x : Int32) (o : Bool) (r : Int32) (z : MSt) : Prop := (ixB x (m_nV u) = false ∧ r = bI false ∧ z = m_s_th u 1) ∨ (∃ i9, i9 < m_nV u ∧ x = nI i9 ∧ ∃ (g3 g4 : Nat → Int64) (w : Nat → Bool) (b : Bool), (∀ j, g3 j = if j < m_nR u ∧ mt u i9 j = true then sF u (m_s_op u (va_up (m_op u) i9 o)) j else m_rw u j) ∧ (∀ j, g4 j = if j < m_nR u ∧ mt u i9 j = true then sC u (m_s_op u (va_up (m_op u) i9 o)) j else m_rc u j) ∧ (b = true ↔ (0 < m_nR u ∧ ∀ p9 q9, p9 < q9 → q9 < m_nR u → ¬ mK u g3 p9 q9)) ∧ r = bI b ∧ z = m_s_wet (m_s_th (m_s_te (m_s_rc (m_s_rw (m_s_nR (m_s_op u (va_up (m_op u) i9 o)) (if b = true then m_nR u else 0)) g3) g4) (pcn (mt u i9) (m_nR u))) 0) w)
theorem st_set {u : CSt} {v z2 : MSt} {f : Nat → Int64} {x r r2 : Int32} {o : Bool} {z : CSt × (Nat → Int64)} (h : CR u v) (h1 : L_set u f v x o r z) (h2 : M_set v x o r2 z2) : r = nI (m_th z2) ∧ CR z.1 z2 ∧ (r = nI 0 → ∃ b : Bool, r2 = bI b ∧ z.2 0 = if b = true then 1 else 0) := by
  have hV := h.1.2.2.1
  have hV2 := h.1.1.2.1
  rcases h1 with ⟨c1, rfl, rfl⟩ | ⟨i, c1, rfl, b9, z1, c2, rfl, rfl⟩
  · rw [hV] at c1
    rcases h2 with ⟨d1, rfl, rfl⟩ | ⟨i, d1, rfl, d2⟩
    · exact ⟨rfl, CR_th h, fun q => absurd q (by decide)⟩
    · exact absurd (c1.symm.trans (ixB_nI (by omega) d1)) (by decide)
  · rw [hV] at c1
    rcases h2 with ⟨d1, -⟩ | ⟨i2, d1, e, g3, g4, w, b, d3, d4, d5, rfl, rfl⟩
    · exact absurd (d1.symm.trans (ixB_nI (by omega) c1)) (by decide)
    · have ei : i = i2 := (nI_eq (by omega) (by omega)).mp e
      subst ei
      obtain ⟨p3, p4, L, Wy, c3, c4, c5, rfl⟩ := c2
      obtain ⟨k1, k2, k3, k4, k5, k6, k7, k8, k9, k10, k11⟩ := h.1.1
      obtain ⟨w1, w2, w3, w4, w5, w6⟩ := h.2.1
      obtain ⟨a1, a2⟩ := h.1.2.2.2.2.2.2.1 i c1
      have ekt : ∀ j, j < m_nR v → kt u i j = mt v i j := fun j hj => by
        obtain ⟨r1, r2, r3, r4⟩ := w2 j hj
        unfold kt mt
        rw [r1, r3, a1, a2, Nat.add_comm]
      have e3 : ∀ j, j < m_nR v → p3 j = g3 j := fun j hj => by
        obtain ⟨r1, r2, r3, r4⟩ := w2 j hj
        rw [c3 j, d3 j, w1, ekt j hj, r1, r2, r3]; rfl
      have e4 : ∀ j, j < m_nR v → p4 j = g4 j := fun j hj => by
        obtain ⟨r1, r2, r3, r4⟩ := w2 j hj
        rw [c4 j, d4 j, w1, ekt j hj, r1, r2, r4]; rfl
      have eK : ∀ x y, x < y → y < m_nR v → (kK (k_s_pw u p3) x y ↔ mK v g3 x y) := fun x y q1 q2 => by
        obtain ⟨r1, r2, -⟩ := w2 x (by omega)
        obtain ⟨s1, s2, -⟩ := w2 y q2
        show (k_pf u x = k_pf u y ∧ ¬ (p3 x &&& p3 y) = 0 ∧ t32 (k_fr u (k_pl u x)) (k_pl u y) = false) ↔ _
        rw [r1, s1, r2, s2, e3 x (by omega), e3 y q2, h.1.2.2.2.2.2.1 _ _ (w6 x (by omega)).2.1 (k8 x) (w6 y q2).2.1 (k8 y)]
        exact Iff.rfl
      have eb : b9 = b := by
        refine bo_iff ?_
        rw [c5, d5, w1]
        exact ⟨fun q => ⟨q.1, fun x y q1 q2 q3 => q.2 x y q1 q2 ((eK x y q1 q2).mpr q3)⟩, fun q => ⟨q.1, fun x y q1 q2 q3 => q.2 x y q1 q2 ((eK x y q1 q2).mp q3)⟩⟩
      subst eb
      have ete : pcn (mt v i) (m_nR v) ≤ 975 := by have := pcn_le (mt v i) (m_nR v); omega
      refine ⟨rfl, ?_, fun _ => ⟨b9, rfl, up_s (g := f) (k := 0)⟩⟩
      have hmok : ∀ n, n ≤ 975 → MOk (m_s_wet (m_s_th (m_s_te (m_s_rc (m_s_rw (m_s_nR (m_s_op v (va_up (m_op v) i o)) n) g3) g4) (pcn (mt v i) (m_nR v))) 0) w) := fun n hn => ⟨k1, k2, hn, k4, k5, k6, k7, k8, k9, ete, k11⟩
      refine ⟨CP_set h.1 c1 rfl rfl rfl rfl rfl rfl rfl rfl rfl rfl rfl rfl rfl rfl rfl rfl rfl rfl rfl rfl rfl rfl (hmok _ (by split <;> omega)), ?_, h.2.2.1, h.2.2.2.1, ?_⟩
      · have q5 : ∀ j, j < m_nR v → ∀ t, tb (g4 j) t = true → t < m_nV v := fun j hj t ht => by
          rw [d4 j] at ht
          by_cases q : j < m_nR v ∧ mt v i j = true
          · rw [if_pos q] at ht; exact mC_bit (v := m_s_op v (va_up (m_op v) i o)) ht
          · rw [if_neg q] at ht; exact (w6 j hj).2.2 t ht
        cases b9 with
        | true => exact CRw_set h.2.1 rfl rfl rfl rfl rfl rfl rfl rfl rfl rfl rfl e3 e4 q5
        | false => exact CRw_0 h.2.1 rfl rfl rfl rfl
      · show pcn (kt u i) (k_cnt u) = pcn (mt v i) (m_nR v)
        rw [w1]; exact pcn_cg ekt
theorem st_unsure {u : CSt} {v : MSt} {f : Nat → Int64} {x r : Int32} {o : Bool} {z : CSt × (Nat → Int64)} (h : CR u v) (h1 : L_unsure u f x o r z) : r = nI (m_th (M_unsure v x o).2) ∧ CR z.1 (M_unsure v x o).2 ∧ (r = nI 0 → z.2 0 = if (M_unsure v x o).1 = true then 1 else 0) := by
  have hV := h.1.2.2.1
  have hV2 := h.1.1.2.1
  rcases h1 with ⟨c1, rfl, rfl⟩ | ⟨i, c1, rfl, b9, z1, c2, rfl, rfl⟩
  · rw [hV] at c1
    unfold M_unsure
    rw [if_pos c1]
    exact ⟨rfl, CR_th h, fun q => absurd q (by decide)⟩
  · rw [hV] at c1
    have hu := h.1.2.2.2.2.2.2.2.2.1 i
    rw [decide_eq_true c1, Bool.true_and] at hu
    unfold M_unsure
    rw [if_neg (fun q => absurd (q.symm.trans (ixB_nI (by omega) c1)) (by decide)), nI_clamp (by omega)]
    rcases c2 with ⟨c2, rfl, rfl⟩ | ⟨c2, rfl, rfl⟩
    · rw [if_pos (hu.symm.trans c2)]
      exact ⟨rfl, CR_th h, fun _ => up_s (g := f) (k := 0)⟩
    · rw [if_neg (fun q => c2 (hu.trans q))]
      obtain ⟨k1, k2, k3, k4, k5, k6, k7, k8, k9, k10, k11⟩ := h.1.1
      exact ⟨rfl, ⟨CP_unsure h.1 c1 rfl rfl rfl rfl rfl rfl rfl rfl rfl rfl rfl rfl rfl rfl rfl rfl rfl rfl rfl rfl rfl rfl ⟨k1, k2, Nat.zero_le _, k4, k5, k6, k7, k8, k9, k10, k11⟩, CRw_0 h.2.1 rfl rfl rfl rfl, CRo_cg h.2.2 rfl rfl rfl rfl rfl rfl⟩, fun _ => up_s (g := f) (k := 0)⟩
def u0 : CSt := k_mk false 0 0 0 0 0 0 0 0 (fun _ => 0) (fun _ => 0) (fun _ => 0) (fun _ => 0) (fun _ => 0) (fun _ => 0) (fun _ => 0) (fun _ => 0) (fun _ => 0) (fun _ => 0) (fun _ => 0) (fun _ => 0) (fun _ => 0) (fun _ => 0)
def v0 : MSt := m_mk (fun _ => 0) (fun _ => 0) 0 (fun _ => 0) (fun _ => 0) (fun _ => 0) (fun _ => false) (fun _ => false) 0 (fun _ => false) 0 (fun _ => 0) (fun _ => 0) (fun _ => 0) (fun _ => 0) (fun _ => 0) false 0 0 (fun _ => false)
theorem st_init : CR u0 v0 := by
  refine ⟨CP_clear rfl rfl (fun _ _ => rfl) (fun _ _ => rfl) (fun _ => (show 0 < 64 by decide)) (fun _ => (show 0 < 64 by decide)) rfl rfl rfl rfl rfl (fun _ _ => rfl) ⟨Nat.zero_le _, Nat.zero_le _, Nat.zero_le _, fun _ => (show 0 < 16 by decide), fun _ => (show 0 < 64 by decide), fun _ => (show 0 < 64 by decide), fun _ => (show 0 < 65 by decide), fun _ => (show 0 < 16 by decide), fun w hw => absurd hw (Nat.not_lt_zero _), Nat.zero_le _, fun _ => (show 0 < 4 by decide)⟩, ⟨rfl, fun j hj => absurd hj (Nat.not_lt_zero _), fun _ => (show 0 < 65 by decide), fun _ => (show 0 < 16 by decide), fun x y _ hy => absurd hy (Nat.not_lt_zero _), fun j hj => absurd hj (Nat.not_lt_zero _)⟩, rfl, fun q => absurd (show false = true from q) (by decide), rfl⟩
theorem MOk_op {v : MSt} {o : Nat → Bool} (h : MOk v) : MOk (m_s_op v o) := by
  obtain ⟨k1, k2, k3, k4, k5, k6, k7, k8, k9, k10, k11⟩ := h
  exact ⟨k1, k2, k3, k4, k5, k6, k7, k8, k9, k10, k11⟩
/-! rows for the law itself -/
theorem li_gt {L i : Nat} (hL : L < 5000) (hi : i < 5000) : nI L - nI 5 < nI i ↔ L < i + 5 := by
  rw [Int32.lt_iff_toInt_lt, pk_sub_toInt (by omega) (by omega), nI_toInt (by omega)]; omega
theorem and15 (x : Int32) : ∃ k : Nat, k < 16 ∧ x &&& nI 15 = nI k := by
  refine ⟨(x &&& nI 15).toBitVec.toNat, ?_, ?_⟩
  · rw [Int32.toBitVec_and, BitVec.toNat_and]
    have : (nI 15).toBitVec.toNat = 15 := by decide
    rw [this]
    exact Nat.lt_of_le_of_lt Nat.and_le_right (by decide)
  · apply Int32.toBitVec_inj.mp
    show (x &&& nI 15).toBitVec = (Int32.ofNat _).toBitVec
    rw [Int32.toBitVec_ofNat', BitVec.ofNat_toNat, BitVec.setWidth_eq]
section RUNSW
variable {p : Program} {l : Launch} {e : Env} {R : Room} {s : State} {m : MethodId} {args : Array Value} {below : List Frame} {meth : Method} {c : Code} {H : Heap} {locs : List Loc} {cells slots : Nat} {Q : State → Prop}
variable {y : MethodName} {bytes cc : ByteArray} {maxL nL mc ms n index : Nat} {ret : Option FieldType} {hh : List (Nat × Nat × Nat × Nat)} {ws ws' : List Cond} {rm : Room} {Pc : Array Value → State → Prop} {Qc : Array Value → State → Outcome → State → Prop} {free : Addr → Prop} {Ts : List Cond} {own : String} {As rest : List Value} {g : JFrame}
/-- a static method with an exception table -/
theorem run_SW (S : CallFix p m c cc nL s args Ts own) (hM : Met l y ws rm Pc Qc mc ms free) (hG : GoodIn Ts ws) (hw : ws = Cond.codeWith y bytes maxL ret hh :: ws') (hrc : rm.cells = mc) (hrs : rm.slots = ms) (hl : (Cond.methodLink own index y).before args s = true) (hstat : (Cond.static y).before args s = true) (hini : (Cond.initialized y.cls).before args s = true)
    (hd : y.cls ≠ "java/lang/invoke/MethodHandle" ∧ y.cls ≠ "java/lang/invoke/VarHandle" ∧ (parseMethodDescriptor y.desc).map (fun d => d.parameters.length) = some n) (hR : rm.frames + 1 ≤ R.frames ∧ 8 + (maxL + 11) + rm.locals ≤ R.locals) (hp : PreS s H Pc As)
    (hg : g.method = m) (hn : As.length = n) (hsize : g.locals.size = nL) (hstack : g.stack = As.reverse ++ rest) (hW : 2 * g.monitorRoom + (rest.map fun v => v.category).sum ≤ 8) (hdg : decode cc g.pc = .ok (.invokestatic index, 3)) (hf : cells + mc ≤ R.cells ∧ slots + ms ≤ R.slots) :
    va_Run p l e R s m args below meth c H locs cells slots mc ms g rest (Qc As.toArray) (free) := by
  obtain ⟨hx, hb, hml, ho, hts⟩ := S
  have hcw : Cond.codeWith y bytes maxL ret hh ∈ ws := by rw [hw]; exact List.mem_cons_self
  have hcode : (Cond.codeWith y bytes maxL ret hh).before args s = true := hts _ (hG _ hcw).1
  have hK : Back l R p e below s args y 3 8 (PreOf R mc ms Pc) (PostOf Qc mc ms free) := va_backW (hh := hh) (bytes := bytes) (maxL := maxL) (ret := ret) hM hp.1 hrc hrs hR.1 hR.2 (pay_in hts hG) hcw (fun a' U hW => word_at hW (Or.inl (by first | rfl | simp [Cond.onTables, Cond.keeps, Cond.steady])) hini)
  intro T hT X
  obtain ⟨mk, methM, cM, hnamed, hmethM, -, -, -, -, -, -, hsigM⟩ := Cond.codeWith_spec hcode
  have hstatic : methM.isStatic = true := Cond.static_spec hnamed hmethM hstat
  obtain ⟨kP, hkP, -⟩ := className_of_methodNamed hnamed
  have hinitP : kP.init = .initialized := Cond.initialized_spec (findClass_of_methodNamed hnamed) hkP hini
  have hlen : As.length = methM.sig.parameters.length := by
    have h2 := hd.2.2
    rw [hsigM] at h2
    exact hn.trans (Option.some.inj h2).symm
  obtain ⟨vm₁, X₁, hstep₁⟩ := X.invokestatic hx ho hl hnamed hmethM hstatic hkP hinitP ⟨hd.1, hd.2.1⟩ (g := g) hg (argsL := As) (rest := rest) hlen hstack (by rw [hb]; exact hdg)
  obtain ⟨v, ⟨U', l2, c2, s2⟩, X', ⟨g', mk', t, L, e1, e2, hq, h1, hL, h2, h3⟩, hsteps⟩ := hK m meth c ⟨T.setVm vm₁, locs, cells, slots⟩ { g with stack := rest } (.invokestatic index) mk As.toArray X₁ hg (hsize.trans hml.symm) (by rw [hb]; exact hdg) hW (X₁.named hnamed) ⟨hf.1, hf.2, hp.2 (T.setVm vm₁) hT X₁.warmed⟩
  dsimp only [Pt.U, Pt.locs, Pt.cells, Pt.slots] at X' e1 e2 h1 h2 h3 hsteps
  subst h1; subst h2; subst h3
  exact ⟨v, (T.setVm vm₁).calling g' mk' As.toArray, t, U', L, hT, X', hL, e1, e2, hq, fun target h => hstep₁ _ fun acts => by rw [doInvoke_state]; exact hsteps.trans h⟩
end RUNSW
theorem pl_Q {s : State} {H : Heap} {D : va_G} {cl : List vw_C} {tys : List (ClassId × FieldType)} {w : va_W} {A : Nat → Prop} (As : List Value) (hN : NW s) (hT : TW s) (hH : ∀ q, q < s.heap.size → H[q]? = s.heap[q]?) (hK : va_K D cl tys s) (hP : va_P D cl w H) (hD : va_D A w) : PreS s H (lPc D cl tys w H.size As) As :=
  ⟨fb_l, fun U hU hW => ⟨rfl, by rw [hU], by rw [hU]; exact hP, va_K.moved hW.alike hK, hD.weaken (fun _ _ _ _ => trivial), NW.warm hW hN, TW.tr hW (fun q hq => by rw [hU]; exact hH q hq) hT⟩⟩
theorem NW_of {s : State} {args : Array Value} (hts : ∀ w ∈ lw_tbl, w.before args s = true) : NW s := fun w hw => by
  have h1 := hts w (List.mem_filter.mp hw).1
  have h2 := (List.mem_filter.mp hw).2
  cases w <;> first | exact va_Nw.of rfl h1 | (simp [isN] at h2; done)
theorem arr_K {s : State} {args : Array Value} {ty : FieldType} (h : (Cond.arrayClass ty).before args s = true) : ∃ cA, s.vm.findClass ("[" ++ ty.toString) = some cA ∧ ArrOfT s cA ty := by
  obtain ⟨cA, kA, comp, h1, h2, h3⟩ := Cond.arrayClass_spec h
  exact ⟨cA, h1, fun n z => ⟨fun k h => (by cases h), kA, h2, comp, h3⟩⟩
