def C_safe (u : CSt) (v : MSt) (r : Int32) (z : CSt) : Prop := (r = nI 1 ∧ (∀ x, x < m_nV v + 1 → mNo v x) ∧ ∃ (n : Nat) (g1 g2 : Nat → Nat) (g3 g4 : Nat → Int64) (L : Int64) (Wy fl : Nat → Int64), RT (mTh v) (mF v) (fun a x => mC v (mF v a x) x) (m_nV v + 1) 1 n g1 g2 g3 g4 ∧ (∀ j, g1 j < 65) ∧ (∀ j, g2 j < 16) ∧ z = k_s_fls (k_s_ways (k_s_lett (k_s_pc (k_s_pw (k_s_pl (k_s_pf (k_s_cnt (k_s_fu u false) n) g1) g2) g3) g4) L) Wy) fl) ∨ (r = nI 0 ∧ ∃ f t a b, f ≤ m_nV v ∧ (∀ x, x < f → mNo v x) ∧ mCul v f t a b ∧ ∃ (g1 g2 : Nat → Nat) (g3 g4 : Nat → Int64) (L : Int64) (Wy fl : Nat → Int64), (∀ j, g1 j < 65) ∧ (∀ j, g2 j < 16) ∧ z = k_s_fnd (k_s_fls (k_s_ways (k_s_lett (k_s_pc (k_s_pw (k_s_pl (k_s_pf (k_s_cnt (k_s_fu u true) 0) g1) g2) g3) g4) L) Wy) fl) (va_up (va_up (va_up (va_up (k_fnd u) 0 (nI f)) 1 (nI t)) 2 (nI a)) 3 (nI b)))
def M_safe (u : MSt) (r : Int32) (z : MSt) : Prop := (r = nI 1 ∧ (∀ x, x < m_nV u + 1 → mNo u x) ∧ ∃ (n : Nat) (g1 g2 : Nat → Nat) (g3 g4 : Nat → Int64) (w : Nat → Bool), RT (mTh u) (mF u) (fun a x => mC u (mF u a x) x) (m_nV u + 1) 1 n g1 g2 g3 g4 ∧ n ≤ 975 ∧ (∀ j, g1 j < 65) ∧ (∀ j, g2 j < 16) ∧ z = m_s_wet (m_s_th (m_s_gu (m_s_cul (m_s_rc (m_s_rw (m_s_rl (m_s_rf (m_s_nR u n) g1) g2) g3) g4) (m_cul u)) false) 0) w) ∨ (r = nI 0 ∧ ∃ f t a b, f ≤ m_nV u ∧ (∀ x, x < f → mNo u x) ∧ mCul u f t a b ∧ ∃ (g1 g2 : Nat → Nat) (g3 g4 : Nat → Int64) (w : Nat → Bool), (∀ j, g1 j < 65) ∧ (∀ j, g2 j < 16) ∧ z = m_s_wet (m_s_th (m_s_gu (m_s_cul (m_s_rc (m_s_rw (m_s_rl (m_s_rf (m_s_nR u 0) g1) g2) g3) g4) (cu4 (m_cul u) f t a b)) true) 0) w)
theorem RT_row {th : Nat → Bool} {F C : Nat → Nat → Int64} {f n : Nat} {g1 g2 : Nat → Nat} {g3 g4 : Nat → Int64} (h : RT th F C f 1 n g1 g2 g3 g4) (h0 : th 0 = false) {j : Nat} (hj : j < n) : ∃ x y, x < f ∧ y < 16 ∧ th y = true ∧ j = x * pcn th 16 + pcn th y ∧ pcn th y < pcn th 16 ∧ g1 j = x ∧ g2 j = y ∧ g3 j = F y x ∧ g4 j = C y x := by
  have hn : n = f * pcn th 16 := by
    have := h.1
    rw [pcn_sf h0] at this
    exact this
  have hP : 0 < pcn th 16 := by
    rcases Nat.eq_zero_or_pos (pcn th 16) with q | q
    · rw [q, Nat.mul_zero] at hn; omega
    · exact q
  obtain ⟨y, y1, y2, y3⟩ := pcn_inv (g := th) (r := j % pcn th 16) (m := 16) (Nat.mod_lt _ hP)
  have hx : j / pcn th 16 < f := Nat.div_lt_of_lt_mul (by rw [Nat.mul_comm]; omega)
  have e : j = j / pcn th 16 * pcn th 16 + pcn th y := by rw [y3, Nat.mul_comm]; exact (Nat.div_add_mod j _).symm
  obtain ⟨r1, r2, r3, r4⟩ := h.2 (j / pcn th 16) y y2 (Or.inl ⟨hx, y1⟩)
  rw [← e] at r1 r2 r3 r4
  exact ⟨_, y, hx, y1, y2, e, by rw [y3]; exact Nat.mod_lt _ hP, r1, r2, r3, r4⟩
theorem RT_eq {th : Nat → Bool} {F C : Nat → Nat → Int64} {f n n2 : Nat} {g1 g2 p1 p2 : Nat → Nat} {g3 g4 p3 p4 : Nat → Int64} (h : RT th F C f 1 n g1 g2 g3 g4) (h2 : RT th F C f 1 n2 p1 p2 p3 p4) (h0 : th 0 = false) : n = n2 ∧ ∀ j, j < n → g1 j = p1 j ∧ g2 j = p2 j ∧ g3 j = p3 j ∧ g4 j = p4 j := by
  refine ⟨h.1.trans h2.1.symm, fun j hj => ?_⟩
  obtain ⟨x, y, x1, y1, y2, e, -, r1, r2, r3, r4⟩ := RT_row h h0 hj
  obtain ⟨s1, s2, s3, s4⟩ := h2.2 x y y2 (Or.inl ⟨x1, y1⟩)
  rw [← e] at s1 s2 s3 s4
  exact ⟨r1.trans s1.symm, r2.trans s2.symm, r3.trans s3.symm, r4.trans s4.symm⟩
theorem RT_sort {th : Nat → Bool} {F C : Nat → Nat → Int64} {f n : Nat} {g1 g2 : Nat → Nat} {g3 g4 : Nat → Int64} (h : RT th F C f 1 n g1 g2 g3 g4) (h0 : th 0 = false) {i j : Nat} (hij : i < j) (hj : j < n) : g1 i ≤ g1 j := by
  obtain ⟨x, y, x1, y1, y2, e, l1, r1, -⟩ := RT_row h h0 (show i < n by omega)
  obtain ⟨x', y', x1', y1', y2', e', l1', r1', -⟩ := RT_row h h0 hj
  rw [r1, r1']
  rcases Nat.lt_or_ge x' x with q | q
  · have := Nat.mul_le_mul_right (pcn th 16) (show x' + 1 ≤ x from q)
    rw [Nat.add_mul] at this
    omega
  · exact q
theorem mC_bit {v : MSt} {X : Int64} {f i : Nat} (h : tb (mC v X f) i = true) : i < m_nV v := by
  have h2 := tb_lt h
  unfold mC at h
  rw [tb_ofB _ h2] at h
  simp at h
  exact h.1
theorem mCul_u {v : MSt} {f t a b t2 a2 b2 : Nat} (h : mCul v f t a b) (h2 : mCul v f t2 a2 b2) : t = t2 ∧ a = a2 ∧ b = b2 := by
  obtain ⟨p1, p2, p3, p4, p5⟩ := h
  obtain ⟨q1, q2, q3, q4, q5⟩ := h2
  have et : t = t2 := by
    rcases Nat.lt_trichotomy t t2 with z | z | z
    · exact absurd p2 (q3 t z a b)
    · exact z
    · exact absurd q2 (p3 t2 z a2 b2)
  subst et
  have ea : a = a2 := by
    rcases Nat.lt_trichotomy a a2 with z | z | z
    · exact absurd p2 (q4 a z b)
    · exact z
    · exact absurd q2 (p4 a2 z b2)
  subst ea
  refine ⟨rfl, rfl, ?_⟩
  rcases Nat.lt_trichotomy b b2 with z | z | z
  · exact absurd p2 (q5 b z)
  · exact z
  · exact absurd q2 (p5 b2 z)
theorem cul_at {c : Nat → Int32} {d : Nat → Nat} {f t a b : Nat} : ∀ j, j < 4 → va_up (va_up (va_up (va_up c 0 (nI f)) 1 (nI t)) 2 (nI a)) 3 (nI b) j = nI (cu4 d f t a b j) := by
  intro j hj
  rcases (show j = 0 ∨ j = 1 ∨ j = 2 ∨ j = 3 by omega) with rfl | rfl | rfl | rfl <;> simp [cu4, va_up]
theorem st_safe {u z : CSt} {v z2 : MSt} {r r2 : Int32} (h : CR u v) (h1 : C_safe u v r z) (h2 : M_safe v r2 z2) : r = r2 ∧ CR z z2 := by
  obtain ⟨k1, k2, k3, k4, k5, k6, k7, k8, k9, k10, k11⟩ := h.1.1
  rcases h1 with ⟨rfl, c2, n, g1, g2, g3, g4, L, Wy, fl, c3, c4, c5, rfl⟩ | ⟨rfl, f, t, a, b, c1, c2, c3, g1, g2, g3, g4, L, Wy, fl, c4, c5, rfl⟩ <;>
  rcases h2 with ⟨rfl, d2, n', p1, p2, p3, p4, w, d3, d6, d4, d5, rfl⟩ | ⟨rfl, f', t', a', b', d1, d2, d3, p1, p2, p3, p4, w, d4, d5, rfl⟩
  · obtain ⟨rfl, he⟩ := RT_eq c3 d3 (mTh_0 v)
    refine ⟨rfl, CP_cg2 h.1 ⟨k1, k2, d6, k4, k5, k6, d4, d5, k9, k10, k11⟩ rfl rfl rfl rfl rfl rfl rfl rfl rfl rfl rfl rfl rfl rfl rfl rfl rfl rfl rfl rfl rfl rfl, ⟨rfl, he, c4, c5, fun x y q1 q2 => RT_sort d3 (mTh_0 v) q1 q2, fun j hj => ?_⟩, rfl, fun q => absurd (show false = true from q) (by decide), h.2.2.2.2⟩
    obtain ⟨x, y, x1, y1, y2, e, -, r1, r2, r3, r4⟩ := RT_row d3 (mTh_0 v) hj
    show p1 j ≤ m_nV v ∧ 1 ≤ p2 j ∧ ∀ i, tb (p4 j) i = true → i < m_nV v
    refine ⟨by rw [r1]; omega, ?_, fun i hi => ?_⟩
    · rw [r2]
      rcases Nat.eq_zero_or_pos y with q | q
      · rw [q, mTh_0] at y2; cases y2
      · exact q
    · rw [r4] at hi; exact mC_bit hi
  · exact absurd d3.2.1 (c2 f' (by omega) t' a' b' d3.1)
  · exact absurd c3.2.1 (d2 f (by omega) t a b c3.1)
  · have ef : f = f' := by
      rcases Nat.lt_trichotomy f f' with q | q | q
      · exact absurd c3.2.1 (d2 f q t a b c3.1)
      · exact q
      · exact absurd d3.2.1 (c2 f' q t' a' b' d3.1)
    subst ef
    obtain ⟨rfl, rfl, rfl⟩ := mCul_u c3 d3
    exact ⟨rfl, CP_cg2 h.1 ⟨k1, k2, Nat.zero_le _, k4, k5, k6, d4, d5, k9, k10, k11⟩ rfl rfl rfl rfl rfl rfl rfl rfl rfl rfl rfl rfl rfl rfl rfl rfl rfl rfl rfl rfl rfl rfl, ⟨rfl, fun j hj => absurd hj (Nat.not_lt_zero _), c4, c5, fun x y _ hy => absurd hy (Nat.not_lt_zero _), fun j hj => absurd hj (Nat.not_lt_zero _)⟩, rfl, fun _ => cul_at, h.2.2.2.2⟩
theorem pcn_cg {f g : Nat → Bool} : ∀ {n : Nat}, (∀ j, j < n → f j = g j) → pcn f n = pcn g n
  | 0, _ => rfl
  | n + 1, h => by
    have ih := pcn_cg (n := n) (fun j hj => h j (by omega))
    unfold pcn
    rw [ih, h n (by omega)]
/-- what the reference's set leaves -/
def M_set (u : MSt) (x : Int32) (o : Bool) (r : Int32) (z : MSt) : Prop := (ixB x (m_nV u) = false ∧ r = bI false ∧ z = m_s_th u 1) ∨ (∃ i9, i9 < m_nV u ∧ x = nI i9 ∧ ∃ (g3 g4 : Nat → Int64) (w : Nat → Bool) (b : Bool), (∀ j, g3 j = if j < m_nR u ∧ mt u i9 j = true then sF u (m_s_op u (va_up (m_op u) i9 o)) j else m_rw u j) ∧ (∀ j, g4 j = if j < m_nR u ∧ mt u i9 j = true then sC u (m_s_op u (va_up (m_op u) i9 o)) j else m_rc u j) ∧ (b = true ↔ (0 < m_nR u ∧ ∀ p9 q9, p9 < q9 → q9 < m_nR u → ¬ mK u g3 p9 q9)) ∧ r = bI b ∧ z = m_s_wet (m_s_th (m_s_te (m_s_rc (m_s_rw (m_s_nR (m_s_op u (va_up (m_op u) i9 o)) (if b = true then m_nR u else 0)) g3) g4) (pcn (mt u i9) (m_nR u))) 0) w)
theorem st_set {u : CSt} {v z2 : MSt} {f : Nat → Int64} {x r r2 : Int32} {o : Bool} {z : CSt × (Nat → Int64)} (h : CR u v) (h1 : L_set u f v x o r z) (h2 : M_set v x o r2 z2) : r = nI (m_th z2) ∧ CR z.1 z2 ∧ (r = nI 0 → ∃ b : Bool, r2 = bI b ∧ z.2 0 = if b = true then 1 else 0) := by
  have hV := h.1.2.2.1
  have hV2 := h.1.1.2.1
  rcases h1 with ⟨c1, rfl, rfl⟩ | ⟨i, c1, rfl, b9, z1, c2, rfl, rfl⟩
  · rw [hV] at c1
    rcases h2 with ⟨d1, rfl, rfl⟩ | ⟨i, d1, rfl, d2⟩
    · exact ⟨rfl, CR_th h, fun q => absurd q (by decide)⟩
    · exact absurd (c1.symm.trans (ixB_nI (by omega) d1)) (by decide)
  · rw [hV] at c1
    rcases h2 with ⟨d1, -⟩ | ⟨i2, d1, e, g3, g4, w, b, d3, d4, d5, rfl, rfl⟩
    · exact absurd (d1.symm.trans (ixB_nI (by omega) c1)) (by decide)
    · have ei : i = i2 := (nI_eq (by omega) (by omega)).mp e
      subst ei
      obtain ⟨p3, p4, L, Wy, c3, c4, c5, rfl⟩ := c2
      obtain ⟨k1, k2, k3, k4, k5, k6, k7, k8, k9, k10, k11⟩ := h.1.1
      obtain ⟨w1, w2, w3, w4, w5, w6⟩ := h.2.1
      obtain ⟨a1, a2⟩ := h.1.2.2.2.2.2.2.1 i c1
      have ekt : ∀ j, j < m_nR v → kt u i j = mt v i j := fun j hj => by
        obtain ⟨r1, r2, r3, r4⟩ := w2 j hj
        unfold kt mt
        rw [r1, r3, a1, a2, Nat.add_comm]
      have e3 : ∀ j, j < m_nR v → p3 j = g3 j := fun j hj => by
        obtain ⟨r1, r2, r3, r4⟩ := w2 j hj
        rw [c3 j, d3 j, w1, ekt j hj, r1, r2, r3]; rfl
      have e4 : ∀ j, j < m_nR v → p4 j = g4 j := fun j hj => by
        obtain ⟨r1, r2, r3, r4⟩ := w2 j hj
        rw [c4 j, d4 j, w1, ekt j hj, r1, r2, r4]; rfl
      have eK : ∀ x y, x < y → y < m_nR v → (kK (k_s_pw u p3) x y ↔ mK v g3 x y) := fun x y q1 q2 => by
        obtain ⟨r1, r2, -⟩ := w2 x (by omega)
        obtain ⟨s1, s2, -⟩ := w2 y q2
        show (k_pf u x = k_pf u y ∧ ¬ (p3 x &&& p3 y) = 0 ∧ t32 (k_fr u (k_pl u x)) (k_pl u y) = false) ↔ _
        rw [r1, s1, r2, s2, e3 x (by omega), e3 y q2, h.1.2.2.2.2.2.1 _ _ (w6 x (by omega)).2.1 (k8 x) (w6 y q2).2.1 (k8 y)]
        exact Iff.rfl
      have eb : b9 = b := by
        have : b9 = true ↔ b = true := by
          rw [c5, d5, w1]
          exact ⟨fun q => ⟨q.1, fun x y q1 q2 q3 => q.2 x y q1 q2 ((eK x y q1 q2).mpr q3)⟩, fun q => ⟨q.1, fun x y q1 q2 q3 => q.2 x y q1 q2 ((eK x y q1 q2).mp q3)⟩⟩
        cases b9 <;> cases b <;> simp_all
      subst eb
      have ete : pcn (mt v i) (m_nR v) ≤ 975 := by have := pcn_le (mt v i) (m_nR v); omega
      refine ⟨rfl, ?_, fun _ => ⟨b9, rfl, up_s (g := f) (k := 0)⟩⟩
      have hmok : ∀ n, n ≤ 975 → MOk (m_s_wet (m_s_th (m_s_te (m_s_rc (m_s_rw (m_s_nR (m_s_op v (va_up (m_op v) i o)) n) g3) g4) (pcn (mt v i) (m_nR v))) 0) w) := fun n hn => ⟨k1, k2, hn, k4, k5, k6, k7, k8, k9, ete, k11⟩
      refine ⟨CP_set h.1 c1 rfl rfl rfl rfl rfl rfl rfl rfl rfl rfl rfl rfl rfl rfl rfl rfl rfl rfl rfl rfl rfl rfl (hmok _ (by split <;> omega)), ?_, h.2.2.1, h.2.2.2.1, ?_⟩
      · have main : CRw (k_s_cnt (k_s_re (k_s_ways (k_s_lett (k_s_pc (k_s_pw (k_s_opn u (wth (k_opn u) i o)) p3) p4) L) Wy) (pcn (kt u i) (k_cnt u))) (k_cnt u)) (m_s_wet (m_s_th (m_s_te (m_s_rc (m_s_rw (m_s_nR (m_s_op v (va_up (m_op v) i o)) (m_nR v)) g3) g4) (pcn (mt v i) (m_nR v))) 0) w) := by
          refine ⟨w1, fun j hj => ⟨(w2 j hj).1, (w2 j hj).2.1, e3 j hj, e4 j hj⟩, w3, w4, w5, fun j hj => ⟨(w6 j hj).1, (w6 j hj).2.1, fun t ht => ?_⟩⟩
          have ht : tb (g4 j) t = true := ht
          rw [d4 j] at ht
          by_cases q : j < m_nR v ∧ mt v i j = true
          · rw [if_pos q] at ht; exact mC_bit ht
          · rw [if_neg q] at ht; exact (w6 j hj).2.2 t ht
        cases b9 with
        | true => exact main
        | false => exact CRw_0 main rfl rfl rfl rfl
      · show pcn (kt u i) (k_cnt u) = pcn (mt v i) (m_nR v)
        rw [w1]; exact pcn_cg ekt
theorem st_unsure {u : CSt} {v : MSt} {f : Nat → Int64} {x r : Int32} {o : Bool} {z : CSt × (Nat → Int64)} (h : CR u v) (h1 : L_unsure u f x o r z) : r = nI (m_th (M_unsure v x o).2) ∧ CR z.1 (M_unsure v x o).2 ∧ (r = nI 0 → z.2 0 = if (M_unsure v x o).1 = true then 1 else 0) := by
  have hV := h.1.2.2.1
  have hV2 := h.1.1.2.1
  rcases h1 with ⟨c1, rfl, rfl⟩ | ⟨i, c1, rfl, b9, z1, c2, rfl, rfl⟩
  · rw [hV] at c1
    unfold M_unsure
    rw [if_pos c1]
    exact ⟨rfl, CR_th h, fun q => absurd q (by decide)⟩
  · rw [hV] at c1
    have hu := h.1.2.2.2.2.2.2.2.2.1 i
    rw [decide_eq_true c1, Bool.true_and] at hu
    unfold M_unsure
    rw [if_neg (fun q => absurd (q.symm.trans (ixB_nI (by omega) c1)) (by decide)), nI_clamp (by omega)]
    rcases c2 with ⟨c2, rfl, rfl⟩ | ⟨c2, rfl, rfl⟩
    · rw [if_pos (hu.symm.trans c2)]
      exact ⟨rfl, CR_th h, fun _ => up_s (g := f) (k := 0)⟩
    · rw [if_neg (fun q => c2 (hu.trans q))]
      obtain ⟨k1, k2, k3, k4, k5, k6, k7, k8, k9, k10, k11⟩ := h.1.1
      exact ⟨rfl, ⟨CP_unsure h.1 c1 rfl rfl rfl rfl rfl rfl rfl rfl rfl rfl rfl rfl rfl rfl rfl rfl rfl rfl rfl rfl rfl rfl ⟨k1, k2, Nat.zero_le _, k4, k5, k6, k7, k8, k9, k10, k11⟩, CRw_0 h.2.1 rfl rfl rfl rfl, CRo_cg h.2.2 rfl rfl rfl rfl rfl rfl⟩, fun _ => up_s (g := f) (k := 0)⟩
def u0 : CSt := k_mk false 0 0 0 0 0 0 0 0 (fun _ => 0) (fun _ => 0) (fun _ => 0) (fun _ => 0) (fun _ => 0) (fun _ => 0) (fun _ => 0) (fun _ => 0) (fun _ => 0) (fun _ => 0) (fun _ => 0) (fun _ => 0) (fun _ => 0) (fun _ => 0)
def v0 : MSt := m_mk (fun _ => 0) (fun _ => 0) 0 (fun _ => 0) (fun _ => 0) (fun _ => 0) (fun _ => false) (fun _ => false) 0 (fun _ => false) 0 (fun _ => 0) (fun _ => 0) (fun _ => 0) (fun _ => 0) (fun _ => 0) false 0 0 (fun _ => false)
theorem st_init : CR u0 v0 := by
  refine ⟨CP_clear rfl rfl (fun _ _ => rfl) (fun _ _ => rfl) (fun _ => (show 0 < 64 by decide)) (fun _ => (show 0 < 64 by decide)) rfl rfl rfl rfl rfl (fun _ _ => rfl) ⟨Nat.zero_le _, Nat.zero_le _, Nat.zero_le _, fun _ => (show 0 < 16 by decide), fun _ => (show 0 < 64 by decide), fun _ => (show 0 < 64 by decide), fun _ => (show 0 < 65 by decide), fun _ => (show 0 < 16 by decide), fun w hw => absurd hw (Nat.not_lt_zero _), Nat.zero_le _, fun _ => (show 0 < 4 by decide)⟩, ⟨rfl, fun j hj => absurd hj (Nat.not_lt_zero _), fun _ => (show 0 < 65 by decide), fun _ => (show 0 < 16 by decide), fun x y _ hy => absurd hy (Nat.not_lt_zero _), fun j hj => absurd hj (Nat.not_lt_zero _)⟩, rfl, fun q => absurd (show false = true from q) (by decide), rfl⟩
theorem MOk_op {v : MSt} {o : Nat → Bool} (h : MOk v) : MOk (m_s_op v o) := by
  obtain ⟨k1, k2, k3, k4, k5, k6, k7, k8, k9, k10, k11⟩ := h
  exact ⟨k1, k2, k3, k4, k5, k6, k7, k8, k9, k10, k11⟩
