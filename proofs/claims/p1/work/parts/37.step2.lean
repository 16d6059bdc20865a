def CRw (u : CSt) (v : MSt) : Prop := k_cnt u = m_nR v ∧ (∀ j, j < m_nR v → k_pf u j = m_rf v j ∧ k_pl u j = m_rl v j ∧ k_pw u j = m_rw v j ∧ k_pc u j = m_rc v j) ∧ (∀ j, k_pf u j < 65) ∧ (∀ j, k_pl u j < 16) ∧ (∀ x y, x < y → y < m_nR v → m_rf v x ≤ m_rf v y) ∧ (∀ j, j < m_nR v → m_rf v j ≤ m_nV v ∧ 1 ≤ m_rl v j ∧ ∀ i, tb (m_rc v j) i = true → i < m_nV v)
def CRo (u : CSt) (v : MSt) : Prop := k_fu u = m_gu v ∧ (m_gu v = true → ∀ j, j < 4 → k_fnd u j = nI (m_cul v j)) ∧ k_re u = m_te v
def CR (u : CSt) (v : MSt) : Prop := CP u v ∧ CRw u v ∧ CRo u v
theorem CRw_0 {u U : CSt} {v V : MSt} (h : CRw u v) (e1 : k_cnt U = 0) (e2 : m_nR V = 0) (e3 : k_pf U = k_pf u) (e4 : k_pl U = k_pl u) : CRw U V := by
  unfold CRw at h ⊢
  rw [e1, e2, e3, e4]
  exact ⟨rfl, fun j hj => absurd hj (Nat.not_lt_zero _), h.2.2.1, h.2.2.2.1, fun x y _ hy => absurd hy (Nat.not_lt_zero _), fun j hj => absurd hj (Nat.not_lt_zero _)⟩
theorem CRw_cg {u U : CSt} {v V : MSt} (h : CRw u v) (e1 : k_cnt U = k_cnt u) (e2 : k_pf U = k_pf u) (e3 : k_pl U = k_pl u) (e4 : k_pw U = k_pw u) (e5 : k_pc U = k_pc u) (f1 : m_nR V = m_nR v) (f2 : m_rf V = m_rf v) (f3 : m_rl V = m_rl v) (f4 : m_rw V = m_rw v) (f5 : m_rc V = m_rc v) (f6 : m_nV V = m_nV v) : CRw U V := by
  unfold CRw at h ⊢
  rw [e1, e2, e3, e4, e5, f1, f2, f3, f4, f5, f6]; exact h
theorem CRo_cg {u U : CSt} {v V : MSt} (h : CRo u v) (e1 : k_fu U = k_fu u) (e2 : k_fnd U = k_fnd u) (e3 : k_re U = k_re u) (f1 : m_gu V = m_gu v) (f2 : m_cul V = m_cul v) (f3 : m_te V = m_te v) : CRo U V := by
  unfold CRo at h ⊢
  rw [e1, e2, e3, f1, f2, f3]; exact h
theorem MOk_th {v : MSt} {t : Nat} (h : MOk v) : MOk (m_s_th v t) := by
  obtain ⟨k1, k2, k3, k4, k5, k6, k7, k8, k9, k10, k11⟩ := h
  exact ⟨k1, k2, k3, k4, k5, k6, k7, k8, k9, k10, k11⟩
theorem CR_th {u : CSt} {v : MSt} {t : Nat} (h : CR u v) : CR u (m_s_th v t) :=
  ⟨CP_cg2 h.1 (MOk_th h.1.1) rfl rfl rfl rfl rfl rfl rfl rfl rfl rfl rfl rfl rfl rfl rfl rfl rfl rfl rfl rfl rfl rfl, CRw_cg h.2.1 rfl rfl rfl rfl rfl rfl rfl rfl rfl rfl rfl, CRo_cg h.2.2 rfl rfl rfl rfl rfl rfl⟩
theorem st_space {u : CSt} {v : MSt} (h : CR u v) (x : Int32) : (C_space u x).1 = (M_space v x).1 ∧ CR (C_space u x).2 (M_space v x).2 := by
  have hp := h.1
  have e := hp.2.1
  have hn := hp.1.1
  unfold C_space M_space
  by_cases q : x < 0 ∨ ¬ x < nI 16
  · rw [if_pos q, if_pos q]; exact ⟨rfl, CR_th h⟩
  · rw [if_neg q, if_neg q]
    by_cases q2 : m_nS v = 64
    · rw [if_pos (by omega), if_pos q2]; exact ⟨rfl, CR_th h⟩
    · rw [if_neg (by omega), if_neg q2]
      obtain ⟨a, ha, rfl⟩ := nI_of (fun z => q (Or.inl z))
      have ha2 : a < 16 := (nI_ltI ha (by decide)).mp (Decidable.byContradiction fun z => q (Or.inr z))
      rw [nI_clamp ha]
      obtain ⟨k1, k2, k3, k4, k5, k6, k7, k8, k9, k10, k11⟩ := hp.1
      refine ⟨by rw [e], CP_space hp ha2 (by omega) rfl rfl rfl rfl rfl rfl rfl rfl rfl rfl rfl rfl rfl rfl rfl rfl rfl rfl rfl rfl rfl rfl ?_, CRw_0 h.2.1 rfl rfl rfl rfl, CRo_cg h.2.2 rfl rfl rfl rfl rfl rfl⟩
      exact ⟨show m_nS v + 1 ≤ 64 by omega, k2, Nat.zero_le _, up_bd k4 ha2, k5, k6, k7, k8, fun w hw => (by have := k9 w hw; exact ⟨Nat.lt_succ_of_lt this.1, Nat.lt_succ_of_lt this.2.1, this.2.2⟩), k10, k11⟩
theorem k12 (k : Int32) : (k < nI 1 ∨ ¬ k ≤ nI 2) ↔ (¬ k = nI 1 ∧ ¬ k = nI 2) := by
  rw [Int32.lt_iff_toInt_lt, Int32.le_iff_toInt_le, ← Int32.toInt_inj, ← Int32.toInt_inj, nI_toInt (by decide), nI_toInt (by decide)]; omega
theorem st_valve {u : CSt} {v : MSt} (h : CR u v) (x y k : Int32) (o : Bool) : (C_valve u x y k o).1 = (M_valve v x y k o).1 ∧ CR (C_valve u x y k o).2 (M_valve v x y k o).2 := by
  have hp := h.1
  have e := hp.2.1
  have e2 := hp.2.2.1
  have hn := hp.1.1
  have hV := hp.1.2.1
  unfold C_valve M_valve
  rw [e, e2]
  by_cases q : ixB x (m_nS v) = false ∨ ixB y (m_nS v) = false ∨ x = y
  · rw [if_pos q, if_pos (by rcases q with q | q | q <;> simp [q])]; exact ⟨rfl, CR_th h⟩
  · rw [if_neg q]
    by_cases q1 : ¬ k = nI 1 ∧ ¬ k = nI 2
    · rw [if_pos q1, if_pos (by rcases (k12 k).mpr q1 with z | z <;> simp [z])]; exact ⟨rfl, CR_th h⟩
    · have hM : ¬ (ixB x (m_nS v) = false ∨ ixB y (m_nS v) = false ∨ x = y ∨ k < nI 1 ∨ ¬ k ≤ nI 2) := fun z => by
        rcases z with z | z | z | z | z
        · exact q (Or.inl z)
        · exact q (Or.inr (Or.inl z))
        · exact q (Or.inr (Or.inr z))
        · exact q1 ((k12 k).mp (Or.inl z))
        · exact q1 ((k12 k).mp (Or.inr z))
      rw [if_neg q1, if_neg hM]
      by_cases q2 : m_nV v = 64
      · rw [if_pos (show 64 ≤ m_nV v by omega), if_pos q2]; exact ⟨rfl, CR_th h⟩
      · rw [if_neg (show ¬ 64 ≤ m_nV v by omega), if_neg q2]
        obtain ⟨a, ha, rfl⟩ := ixB_of (x := x) (n := m_nS v) (by omega) (ts_nf (fun z => q (Or.inl z)))
        obtain ⟨b, hb, rfl⟩ := ixB_of (x := y) (n := m_nS v) (by omega) (ts_nf (fun z => q (Or.inr (Or.inl z))))
        have hab : a ≠ b := fun z => q (Or.inr (Or.inr (by rw [z])))
        obtain ⟨kk, hk, hk2, rfl⟩ : ∃ kk : Nat, kk < 4 ∧ (kk = 1 ∨ kk = 2) ∧ k = nI kk := by
          rcases Decidable.em (k = nI 1) with z | z
          · exact ⟨1, by decide, Or.inl rfl, z⟩
          · exact ⟨2, by decide, Or.inr rfl, Decidable.byContradiction fun z2 => q1 ⟨z, z2⟩⟩
        rw [nI_clamp (show a < 2 ^ 31 by omega), nI_clamp (show b < 2 ^ 31 by omega), nI_clamp (show kk < 2 ^ 31 by omega)]
        obtain ⟨k1, k2, k3, k4, k5, k6, k7, k8, k9, k10, k11⟩ := hp.1
        refine ⟨rfl, CP_valve (U1 := k_addV1 (k_s_cnt u 0) a b (decide (nI kk = nI 2)) o) hp ha hb hab (by omega) (by rw [decide_eq_true_eq]; exact nI_eq (by omega) (by decide)) rfl rfl rfl rfl rfl rfl rfl rfl rfl rfl rfl rfl rfl rfl rfl rfl rfl rfl rfl rfl rfl rfl rfl rfl rfl rfl ?_, CRw_0 h.2.1 rfl rfl rfl rfl, CRo_cg h.2.2 rfl rfl rfl rfl rfl rfl⟩
        refine ⟨k1, show m_nV v + 1 ≤ 64 by omega, Nat.zero_le _, k4, up_bd k5 (by omega), up_bd k6 (by omega), k7, k8, fun w hw => ?_, k10, up_bd k11 hk⟩
        show va_up (m_fa v) (m_nV v) a w < m_nS v ∧ va_up (m_fb v) (m_nV v) b w < m_nS v ∧ va_up (m_fa v) (m_nV v) a w ≠ va_up (m_fb v) (m_nV v) b w
        have hw : w < m_nV v + 1 := hw
        by_cases z : w = m_nV v
        · subst z; rw [up_s, up_s]; exact ⟨ha, hb, hab⟩
        · rw [va_up_ne _ _ z, va_up_ne _ _ z]; exact k9 w (by omega)
theorem st_level {u : CSt} {v : MSt} (h : CR u v) (x : Int32) (hh : Int64) : (C_level u x hh).1 = (M_level v x hh).1 ∧ CR (C_level u x hh).2 (M_level v x hh).2 := by
  have hp := h.1
  have e := hp.2.1
  have hn := hp.1.1
  unfold C_level M_level
  rw [e]
  by_cases q : ixB x (m_nS v) = false
  · rw [if_pos q, if_pos q]; exact ⟨rfl, CR_th h⟩
  · rw [if_neg q, if_neg q]
    obtain ⟨a, ha, rfl⟩ := ixB_of (x := x) (n := m_nS v) (by omega) (ts_nf q)
    rw [nI_clamp (show a < 2 ^ 31 by omega)]
    obtain ⟨k1, k2, k3, k4, k5, k6, k7, k8, k9, k10, k11⟩ := hp.1
    exact ⟨rfl, CP_level hp ha rfl rfl rfl rfl rfl rfl rfl rfl rfl rfl rfl rfl rfl rfl rfl rfl rfl rfl rfl rfl rfl rfl ⟨k1, k2, Nat.zero_le _, k4, k5, k6, k7, k8, k9, k10, k11⟩, CRw_0 h.2.1 rfl rfl rfl rfl, CRo_cg h.2.2 rfl rfl rfl rfl rfl rfl⟩
theorem liq_iff (x : Int32) : liqB x = false ↔ (x ≤ 0 ∨ nI 16 ≤ x) := by
  have hz : (x ≤ 0 ∨ nI 16 ≤ x) ↔ ¬ (¬ x < nI 1 ∧ ¬ nI 16 ≤ x) := by
    rw [Int32.le_iff_toInt_le, Int32.le_iff_toInt_le, Int32.lt_iff_toInt_lt, nI_toInt (by decide), nI_toInt (by decide), Int32.toInt_zero]; omega
  rw [hz]; unfold liqB; exact decide_eq_false_iff_not
theorem st_may {u : CSt} {v : MSt} (h : CR u v) (x y : Int32) : (C_may u x y).1 = (M_may v x y).1 ∧ CR (C_may u x y).2 (M_may v x y).2 := by
  have hp := h.1
  unfold C_may M_may
  by_cases q : liqB x = false ∨ liqB y = false ∨ x = y
  · rw [if_pos (by rcases q with q | q | q <;> simp [q]), if_pos (Or.inl (by
      rcases q with q | q | q
      · rcases (liq_iff x).mp q with z | z <;> simp [z]
      · rcases (liq_iff y).mp q with z | z <;> simp [z]
      · simp [q]))]
    exact ⟨rfl, CR_th h⟩
  · obtain ⟨a, ha, ha2, rfl⟩ := liqB_of (ts_nf (fun z => q (Or.inl z)))
    obtain ⟨b, hb, hb2, rfl⟩ := liqB_of (ts_nf (fun z => q (Or.inr (Or.inl z))))
    have hab : a ≠ b := fun z => q (Or.inr (Or.inr (by rw [z])))
    rw [nI_clamp (show a < 2 ^ 31 by omega), nI_clamp (show b < 2 ^ 31 by omega)]
    have hf := hp.2.2.2.2.2.1 a b ha ha2 hb hb2
    have hno : ¬ (nI a ≤ 0 ∨ nI 16 ≤ nI a ∨ nI b ≤ 0 ∨ nI 16 ≤ nI b ∨ nI a = nI b) := fun z => by
      rcases z with z | z | z | z | z
      · exact q (Or.inl ((liq_iff _).mpr (Or.inl z)))
      · exact q (Or.inl ((liq_iff _).mpr (Or.inr z)))
      · exact q (Or.inr (Or.inl ((liq_iff _).mpr (Or.inl z))))
      · exact q (Or.inr (Or.inl ((liq_iff _).mpr (Or.inr z))))
      · exact q (Or.inr (Or.inr z))
    by_cases q2 : m_may v (16 * a + b) = true
    · rw [if_pos (Or.inr (Or.inr (Or.inr (hf.trans q2)))), if_pos (Or.inr q2)]; exact ⟨rfl, CR_th h⟩
    · rw [if_neg (fun z => by
        rcases z with z | z | z | z
        · exact q (Or.inl z)
        · exact q (Or.inr (Or.inl z))
        · exact q (Or.inr (Or.inr z))
        · exact q2 (hf.symm.trans z)), if_neg (fun z => z.elim hno q2)]
      obtain ⟨k1, k2, k3, k4, k5, k6, k7, k8, k9, k10, k11⟩ := hp.1
      exact ⟨rfl, CP_may hp ha ha2 hb hb2 hab rfl rfl rfl rfl rfl rfl rfl rfl rfl rfl rfl rfl rfl rfl rfl rfl rfl rfl rfl rfl rfl rfl ⟨k1, k2, Nat.zero_le _, k4, k5, k6, k7, k8, k9, k10, k11⟩, CRw_0 h.2.1 rfl rfl rfl rfl, CRo_cg h.2.2 rfl rfl rfl rfl rfl rfl⟩
theorem st_culprit {u : CSt} {v : MSt} (h : CR u v) (x : Int32) : C_culprit u x = M_culprit v x := by
  obtain ⟨h1, h2, -⟩ := h.2.2
  unfold C_culprit M_culprit
  rw [h1]
  by_cases q : m_gu v = true ∧ ¬ x < 0 ∧ ¬ nI 4 ≤ x
  · rw [if_pos q, if_pos q]
    obtain ⟨j, hj, rfl⟩ := ixB_of (x := x) (n := 4) (by decide) (decide_eq_true q.2)
    rw [nI_clamp (by omega)]
    exact h2 q.1 j hj
  · rw [if_neg q, if_neg q]
theorem nthB_ext {g : Nat → Bool} {k n : Nat} (h : ∀ i, g i = true → i < n) : ∀ d, nthB g k (n + d) = nthB g k n
  | 0 => rfl
  | d + 1 => by
    have ih := nthB_ext (k := k) h d
    show nthB g k ((n + d) + 1) = _
    rw [nthB, ih]
    cases hq : nthB g k n with
    | some x => rfl
    | none =>
      show (if g (n + d) = true ∧ pcn g (n + d) = k then some (n + d) else none) = none
      rw [if_neg (fun z => by have := h _ z.1; omega)]
theorem st_row {u : CSt} {v : MSt} (h : CR u v) (x y : Int32) : C_row u x y = M_row v x y := by
  obtain ⟨h1, h2, h3, h4, h5, h6⟩ := h.2.1
  have hR := h.1.1.2.2.1
  have hV := h.1.1.2.1
  unfold C_row M_row
  rw [h1]
  by_cases q : ixB x (m_nR v) = false ∨ y < 0
  · rw [if_pos q, if_pos q]
  · rw [if_neg q, if_neg q]
    obtain ⟨a, ha, rfl⟩ := ixB_of (x := x) (n := m_nR v) (by omega) (ts_nf (fun z => q (Or.inl z)))
    rw [nI_clamp (show a < 2 ^ 31 by omega)]
    unfold crN rowN
    obtain ⟨g1, g2, g3, g4⟩ := h2 a ha
    rw [g1, g2, g3, g4]
    have := nthB_ext (g := tb (m_rc v a)) (k := y.toNatClampNeg - 4) (h6 a ha).2.2 (64 - m_nV v)
    rw [show m_nV v + (64 - m_nV v) = 64 by omega] at this
    rw [this]
theorem st_check {u : CSt} {v : MSt} {L : Int64} {Wy fl : Nat → Int64} {w : Nat → Bool} (h : CR u v) : CR (k_s_fls (k_s_ways (k_s_lett u L) Wy) fl) (m_s_th (m_s_wet v w) 0) := by
  obtain ⟨k1, k2, k3, k4, k5, k6, k7, k8, k9, k10, k11⟩ := h.1.1
  exact ⟨CP_cg2 h.1 ⟨k1, k2, k3, k4, k5, k6, k7, k8, k9, k10, k11⟩ rfl rfl rfl rfl rfl rfl rfl rfl rfl rfl rfl rfl rfl rfl rfl rfl rfl rfl rfl rfl rfl rfl, CRw_cg h.2.1 rfl rfl rfl rfl rfl rfl rfl rfl rfl rfl rfl, CRo_cg h.2.2 rfl rfl rfl rfl rfl rfl⟩
theorem sh_at {β : Type} {g : Nat → β} {i n j : Nat} (hj : j < n - 1) : sh g i (n - 1) j = g (if i ≤ j then j + 1 else j) := by
  unfold sh
  by_cases e : i ≤ j
  · rw [if_pos ⟨e, hj⟩, if_pos e]
  · rw [if_neg (fun z => e z.1), if_neg e]
theorem sh_bd {g : Nat → Nat} {M i n : Nat} (h : ∀ j, g j < M) : ∀ j, sh g i n j < M := by
  intro j; unfold sh; split
  · exact h _
  · exact h _
theorem st_drop {u : CSt} {v : MSt} (h : CR u v) (x : Int32) : (C_drop u x).1 = (M_drop v x).1 ∧ CR (C_drop u x).2 (M_drop v x).2 := by
  have hR := h.1.1.2.2.1
  have h1 := h.2.1.1
  unfold C_drop M_drop
  rw [h1]
  by_cases q : ixB x (m_nR v) = false
  · rw [if_pos q, if_pos q]; exact ⟨rfl, CR_th h⟩
  · rw [if_neg q, if_neg q]
    obtain ⟨a, ha, rfl⟩ := ixB_of (x := x) (n := m_nR v) (by omega) (ts_nf q)
    rw [nI_clamp (show a < 2 ^ 31 by omega)]
    obtain ⟨k1, k2, k3, k4, k5, k6, k7, k8, k9, k10, k11⟩ := h.1.1
    obtain ⟨-, h2, h3, h4, h5, h6⟩ := h.2.1
    refine ⟨rfl, CP_cg2 h.1 ⟨k1, k2, show m_nR v - 1 ≤ 975 by omega, k4, k5, k6, sh_bd k7, sh_bd k8, k9, k10, k11⟩ rfl rfl rfl rfl rfl rfl rfl rfl rfl rfl rfl rfl rfl rfl rfl rfl rfl rfl rfl rfl rfl rfl, ?_, CRo_cg h.2.2 rfl rfl rfl rfl rfl rfl⟩
    show k_cnt u - 1 = m_nR v - 1 ∧ (∀ j, j < m_nR v - 1 → sh (k_pf u) a (k_cnt u - 1) j = sh (m_rf v) a (m_nR v - 1) j ∧ sh (k_pl u) a (k_cnt u - 1) j = sh (m_rl v) a (m_nR v - 1) j ∧ sh (k_pw u) a (k_cnt u - 1) j = sh (m_rw v) a (m_nR v - 1) j ∧ sh (k_pc u) a (k_cnt u - 1) j = sh (m_rc v) a (m_nR v - 1) j) ∧ (∀ j, sh (k_pf u) a (k_cnt u - 1) j < 65) ∧ (∀ j, sh (k_pl u) a (k_cnt u - 1) j < 16) ∧ (∀ x y, x < y → y < m_nR v - 1 → sh (m_rf v) a (m_nR v - 1) x ≤ sh (m_rf v) a (m_nR v - 1) y) ∧ (∀ j, j < m_nR v - 1 → sh (m_rf v) a (m_nR v - 1) j ≤ m_nV v ∧ 1 ≤ sh (m_rl v) a (m_nR v - 1) j ∧ ∀ i, tb (sh (m_rc v) a (m_nR v - 1) j) i = true → i < m_nV v)
    rw [h1]
    have hj : ∀ j, j < m_nR v - 1 → (if a ≤ j then j + 1 else j) < m_nR v := fun j hj => by split <;> omega
    refine ⟨rfl, fun j q => ?_, sh_bd h3, sh_bd h4, fun x y q1 q2 => ?_, fun j q => ?_⟩
    · rw [sh_at q, sh_at q, sh_at q, sh_at q, sh_at q, sh_at q, sh_at q, sh_at q]; exact h2 _ (hj j q)
    · rw [sh_at (show x < m_nR v - 1 by omega), sh_at q2]
      exact h5 _ _ (by split <;> split <;> omega) (hj y q2)
    · rw [sh_at q, sh_at q, sh_at q]; exact h6 _ (hj j q)
theorem st_clear {u : CSt} {v : MSt} {g : Nat → Int64} {f : Nat → Int32} {g2 : Nat → Bool} (h : CR u v) (hg : ∀ t, t < 16 → g t = 0) (hf : ∀ t, t < 16 → f t = nI 0) (hg2 : ∀ t, t < 256 → g2 t = false) : CR (k_s_re (k_s_fu (k_s_cnt (k_s_fr (k_s_src (k_s_dbl (k_s_uns (k_s_opn (k_s_nV (k_s_nS u 0) 0) 0) 0) 0) g) f) 0) false) 0) (m_s_th (m_s_te (m_s_gu (m_s_nR (m_s_may (m_s_nV (m_s_nS v 0) 0) g2) 0) false) 0) 0) := by
  obtain ⟨k1, k2, k3, k4, k5, k6, k7, k8, k9, k10, k11⟩ := h.1.1
  refine ⟨CP_clear rfl rfl hg hf h.1.2.2.2.2.2.2.2.2.2.2.2.2.1 h.1.2.2.2.2.2.2.2.2.2.2.2.2.2.1 rfl rfl rfl rfl rfl hg2 ⟨Nat.zero_le _, Nat.zero_le _, Nat.zero_le _, k4, k5, k6, k7, k8, fun w hw => absurd hw (Nat.not_lt_zero _), Nat.zero_le _, k11⟩, CRw_0 h.2.1 rfl rfl rfl rfl, rfl, fun q => absurd (show false = true from q) (by decide), rfl⟩
