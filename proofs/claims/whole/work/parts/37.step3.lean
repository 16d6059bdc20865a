def C_safe (u : CSt) (v : MSt) (r : Int32) (z : CSt) : Prop := (r = nI 1 ∧ (∀ x, x < m_nV v + 1 → mNo v x) ∧ ∃ (n : Nat) (g1 g2 : Nat → Nat) (g3 g4 : Nat → Int64) (L : Int64) (Wy fl : Nat → Int64), RT (mTh v) (mF v) (fun a x => mC v (mF v a x) x) (m_nV v + 1) 1 n g1 g2 g3 g4 ∧ (∀ j, g1 j < 65) ∧ (∀ j, g2 j < 16) ∧ z = k_s_fls (k_s_ways (k_s_lett (k_s_pc (k_s_pw (k_s_pl (k_s_pf (k_s_cnt (k_s_fu u false) n) g1) g2) g3) g4) L) Wy) fl) ∨ (r = nI 0 ∧ ∃ f t a b, f ≤ m_nV v ∧ (∀ x, x < f → mNo v x) ∧ mCul v f t a b ∧ ∃ (g1 g2 : Nat → Nat) (g3 g4 : Nat → Int64) (L : Int64) (Wy fl : Nat → Int64), (∀ j, g1 j < 65) ∧ (∀ j, g2 j < 16) ∧ z = k_s_fnd (k_s_fls (k_s_ways (k_s_lett (k_s_pc (k_s_pw (k_s_pl (k_s_pf (k_s_cnt (k_s_fu u true) 0) g1) g2) g3) g4) L) Wy) fl) (va_up (va_up (va_up (va_up (k_fnd u) 0 (nI f)) 1 (nI t)) 2 (nI a)) 3 (nI b)))
def M_safe (u : MSt) (r : Int32) (z : MSt) : Prop := (r = nI 1 ∧ (∀ x, x < m_nV u + 1 → mNo u x) ∧ ∃ (n : Nat) (g1 g2 : Nat → Nat) (g3 g4 : Nat → Int64) (w : Nat → Bool), RT (mTh u) (mF u) (fun a x => mC u (mF u a x) x) (m_nV u + 1) 1 n g1 g2 g3 g4 ∧ n ≤ 975 ∧ (∀ j, g1 j < 65) ∧ (∀ j, g2 j < 16) ∧ z = m_s_wet (m_s_th (m_s_gu (m_s_cul (m_s_rc (m_s_rw (m_s_rl (m_s_rf (m_s_nR u n) g1) g2) g3) g4) (m_cul u)) false) 0) w) ∨ (r = nI 0 ∧ ∃ f t a b, f ≤ m_nV u ∧ (∀ x, x < f → mNo u x) ∧ mCul u f t a b ∧ ∃ (g1 g2 : Nat → Nat) (g3 g4 : Nat → Int64) (w : Nat → Bool), (∀ j, g1 j < 65) ∧ (∀ j, g2 j < 16) ∧ z = m_s_wet (m_s_th (m_s_gu (m_s_cul (m_s_rc (m_s_rw (m_s_rl (m_s_rf (m_s_nR u 0) g1) g2) g3) g4) (cu4 (m_cul u) f t a b)) true) 0) w)
theorem RT_row {th : Nat → Bool} {F C : Nat → Nat → Int64} {f n : Nat} {g1 g2 : Nat → Nat} {g3 g4 : Nat → Int64} (h : RT th F C f 1 n g1 g2 g3 g4) (h0 : th 0 = false) {j : Nat} (hj : j < n) : ∃ x y, x < f ∧ y < 16 ∧ th y = true ∧ j = x * pcn th 16 + pcn th y ∧ pcn th y < pcn th 16 ∧ g1 j = x ∧ g2 j = y ∧ g3 j = F y x ∧ g4 j = C y x := by
  have hn : n = f * pcn th 16 := by
    have := h.1
    rw [pcn_sf h0] at this
    exact this
  have hP : 0 < pcn th 16 := by
    rcases Nat.eq_zero_or_pos (pcn th 16) with q | q
    · rw [q, Nat.mul_zero] at hn; omega
    · exact q
  obtain ⟨y, y1, y2, y3⟩ := pcn_inv (g := th) (r := j % pcn th 16) (m := 16) (Nat.mod_lt _ hP)
  have hx : j / pcn th 16 < f := Nat.div_lt_of_lt_mul (by rw [Nat.mul_comm]; omega)
  have e : j = j / pcn th 16 * pcn th 16 + pcn th y := by rw [y3, Nat.mul_comm]; exact (Nat.div_add_mod j _).symm
  obtain ⟨r1, r2, r3, r4⟩ := h.2 (j / pcn th 16) y y2 (Or.inl ⟨hx, y1⟩)
  rw [← e] at r1 r2 r3 r4
  exact ⟨_, y, hx, y1, y2, e, by rw [y3]; exact Nat.mod_lt _ hP, r1, r2, r3, r4⟩
theorem RT_eq {th : Nat → Bool} {F C : Nat → Nat → Int64} {f n n2 : Nat} {g1 g2 p1 p2 : Nat → Nat} {g3 g4 p3 p4 : Nat → Int64} (h : RT th F C f 1 n g1 g2 g3 g4) (h2 : RT th F C f 1 n2 p1 p2 p3 p4) (h0 : th 0 = false) : n = n2 ∧ ∀ j, j < n → g1 j = p1 j ∧ g2 j = p2 j ∧ g3 j = p3 j ∧ g4 j = p4 j := by
  refine ⟨h.1.trans h2.1.symm, fun j hj => ?_⟩
  obtain ⟨x, y, x1, y1, y2, e, -, r1, r2, r3, r4⟩ := RT_row h h0 hj
  obtain ⟨s1, s2, s3, s4⟩ := h2.2 x y y2 (Or.inl ⟨x1, y1⟩)
  rw [← e] at s1 s2 s3 s4
  exact ⟨r1.trans s1.symm, r2.trans s2.symm, r3.trans s3.symm, r4.trans s4.symm⟩
theorem RT_sort {th : Nat → Bool} {F C : Nat → Nat → Int64} {f n : Nat} {g1 g2 : Nat → Nat} {g3 g4 : Nat → Int64} (h : RT th F C f 1 n g1 g2 g3 g4) (h0 : th 0 = false) {i j : Nat} (hij : i < j) (hj : j < n) : g1 i ≤ g1 j := by
  obtain ⟨x, y, x1, y1, y2, e, l1, r1, -⟩ := RT_row h h0 (show i < n by omega)
  obtain ⟨x', y', x1', y1', y2', e', l1', r1', -⟩ := RT_row h h0 hj
  rw [r1, r1']
  rcases Nat.lt_or_ge x' x with q | q
  · have := Nat.mul_le_mul_right (pcn th 16) (show x' + 1 ≤ x from q)
    rw [Nat.add_mul] at this
    omega
  · exact q
theorem mC_bit {v : MSt} {X : Int64} {f i : Nat} (h : tb (mC v X f) i = true) : i < m_nV v := by
  have h2 := tb_lt h
  unfold mC at h
  rw [tb_ofB _ h2] at h
  simp at h
  exact h.1
theorem mCul_u {v : MSt} {f t a b t2 a2 b2 : Nat} (h : mCul v f t a b) (h2 : mCul v f t2 a2 b2) : t = t2 ∧ a = a2 ∧ b = b2 := by
  obtain ⟨p1, p2, p3, p4, p5⟩ := h
  obtain ⟨q1, q2, q3, q4, q5⟩ := h2
  have et : t = t2 := by
    rcases Nat.lt_trichotomy t t2 with z | z | z
    · exact absurd p2 (q3 t z a b)
    · exact z
    · exact absurd q2 (p3 t2 z a2 b2)
  subst et
  have ea : a = a2 := by
    rcases Nat.lt_trichotomy a a2 with z | z | z
    · exact absurd p2 (q4 a z b)
    · exact z
    · exact absurd q2 (p4 a2 z b2)
  subst ea
  refine ⟨rfl, rfl, ?_⟩
  rcases Nat.lt_trichotomy b b2 with z | z | z
  · exact absurd p2 (q5 b z)
  · exact z
  · exact absurd q2 (p5 b2 z)
theorem cul_at {c : Nat → Int32} {d : Nat → Nat} {f t a b : Nat} : ∀ j, j < 4 → va_up (va_up (va_up (va_up c 0 (nI f)) 1 (nI t)) 2 (nI a)) 3 (nI b) j = nI (cu4 d f t a b j) := by
  intro j hj
  rcases (show j = 0 ∨ j = 1 ∨ j = 2 ∨ j = 3 by omega) with rfl | rfl | rfl | rfl <;> simp [cu4, va_up]
