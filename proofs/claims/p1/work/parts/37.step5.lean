theorem bo_iff {x y : Bool} (h : x = true ↔ y = true) : x = y := by cases x <;> cases y <;> simp_all
theorem pcn_cg {f g : Nat → Bool} : ∀ {n : Nat}, (∀ j, j < n → f j = g j) → pcn f n = pcn g n
  | 0, _ => rfl
  | n + 1, h => by
    have ih := pcn_cg (n := n) (fun j hj => h j (by omega))
    unfold pcn
    rw [ih, h n (by omega)]
/-- what the reference's set leaves -/
def M_set (u : MSt) (x : Int32) (o : Bool) (r : Int32) (z : MSt) : Prop := (ixB x (m_nV u) = false ∧ r = bI false ∧ z = m_s_th u 1) ∨ (∃ i9, i9 < m_nV u ∧ x = nI i9 ∧ ∃ (g3 g4 : Nat → Int64) (w : Nat → Bool) (b : Bool), (∀ j, g3 j = if j < m_nR u ∧ mt u i9 j = true then sF u (m_s_op u (va_up (m_op u) i9 o)) j else m_rw u j) ∧ (∀ j, g4 j = if j < m_nR u ∧ mt u i9 j = true then sC u (m_s_op u (va_up (m_op u) i9 o)) j else m_rc u j) ∧ (b = true ↔ (0 < m_nR u ∧ ∀ p9 q9, p9 < q9 → q9 < m_nR u → ¬ mK u g3 p9 q9)) ∧ r = bI b ∧ z = m_s_wet (m_s_th (m_s_te (m_s_rc (m_s_rw (m_s_nR (m_s_op u (va_up (m_op u) i9 o)) (if b = true then m_nR u else 0)) g3) g4) (pcn (mt u i9) (m_nR u))) 0) w)
theorem st_set {u : CSt} {v z2 : MSt} {f : Nat → Int64} {x r r2 : Int32} {o : Bool} {z : CSt × (Nat → Int64)} (h : CR u v) (h1 : L_set u f v x o r z) (h2 : M_set v x o r2 z2) : r = nI (m_th z2) ∧ CR z.1 z2 ∧ (r = nI 0 → ∃ b : Bool, r2 = bI b ∧ z.2 0 = if b = true then 1 else 0) := by
  have hV := h.1.2.2.1
  have hV2 := h.1.1.2.1
  rcases h1 with ⟨c1, rfl, rfl⟩ | ⟨i, c1, rfl, b9, z1, c2, rfl, rfl⟩
  · rw [hV] at c1
    rcases h2 with ⟨d1, rfl, rfl⟩ | ⟨i, d1, rfl, d2⟩
    · exact ⟨rfl, CR_th h, fun q => absurd q (by decide)⟩
    · exact absurd (c1.symm.trans (ixB_nI (by omega) d1)) (by decide)
  · rw [hV] at c1
    rcases h2 with ⟨d1, -⟩ | ⟨i2, d1, e, g3, g4, w, b, d3, d4, d5, rfl, rfl⟩
    · exact absurd (d1.symm.trans (ixB_nI (by omega) c1)) (by decide)
    · have ei : i = i2 := (nI_eq (by omega) (by omega)).mp e
      subst ei
      obtain ⟨p3, p4, L, Wy, c3, c4, c5, rfl⟩ := c2
      obtain ⟨k1, k2, k3, k4, k5, k6, k7, k8, k9, k10, k11⟩ := h.1.1
      obtain ⟨w1, w2, w3, w4, w5, w6⟩ := h.2.1
      obtain ⟨a1, a2⟩ := h.1.2.2.2.2.2.2.1 i c1
      have ekt : ∀ j, j < m_nR v → kt u i j = mt v i j := fun j hj => by
        obtain ⟨r1, r2, r3, r4⟩ := w2 j hj
        unfold kt mt
        rw [r1, r3, a1, a2, Nat.add_comm]
      have e3 : ∀ j, j < m_nR v → p3 j = g3 j := fun j hj => by
        obtain ⟨r1, r2, r3, r4⟩ := w2 j hj
        rw [c3 j, d3 j, w1, ekt j hj, r1, r2, r3]; rfl
      have e4 : ∀ j, j < m_nR v → p4 j = g4 j := fun j hj => by
        obtain ⟨r1, r2, r3, r4⟩ := w2 j hj
        rw [c4 j, d4 j, w1, ekt j hj, r1, r2, r4]; rfl
      have eK : ∀ x y, x < y → y < m_nR v → (kK (k_s_pw u p3) x y ↔ mK v g3 x y) := fun x y q1 q2 => by
        obtain ⟨r1, r2, -⟩ := w2 x (by omega)
        obtain ⟨s1, s2, -⟩ := w2 y q2
        show (k_pf u x = k_pf u y ∧ ¬ (p3 x &&& p3 y) = 0 ∧ t32 (k_fr u (k_pl u x)) (k_pl u y) = false) ↔ _
        rw [r1, s1, r2, s2, e3 x (by omega), e3 y q2, h.1.2.2.2.2.2.1 _ _ (w6 x (by omega)).2.1 (k8 x) (w6 y q2).2.1 (k8 y)]
        exact Iff.rfl
      have eb : b9 = b := by
        refine bo_iff ?_
        rw [c5, d5, w1]
        exact ⟨fun q => ⟨q.1, fun x y q1 q2 q3 => q.2 x y q1 q2 ((eK x y q1 q2).mpr q3)⟩, fun q => ⟨q.1, fun x y q1 q2 q3 => q.2 x y q1 q2 ((eK x y q1 q2).mp q3)⟩⟩
      subst eb
      have ete : pcn (mt v i) (m_nR v) ≤ 975 := by have := pcn_le (mt v i) (m_nR v); omega
      refine ⟨rfl, ?_, fun _ => ⟨b9, rfl, up_s (g := f) (k := 0)⟩⟩
      have hmok : ∀ n, n ≤ 975 → MOk (m_s_wet (m_s_th (m_s_te (m_s_rc (m_s_rw (m_s_nR (m_s_op v (va_up (m_op v) i o)) n) g3) g4) (pcn (mt v i) (m_nR v))) 0) w) := fun n hn => ⟨k1, k2, hn, k4, k5, k6, k7, k8, k9, ete, k11⟩
      refine ⟨CP_set h.1 c1 rfl rfl rfl rfl rfl rfl rfl rfl rfl rfl rfl rfl rfl rfl rfl rfl rfl rfl rfl rfl rfl rfl (hmok _ (by split <;> omega)), ?_, h.2.2.1, h.2.2.2.1, ?_⟩
      · have main : CRw (k_s_cnt (k_s_re (k_s_ways (k_s_lett (k_s_pc (k_s_pw (k_s_opn u (wth (k_opn u) i o)) p3) p4) L) Wy) (pcn (kt u i) (k_cnt u))) (k_cnt u)) (m_s_wet (m_s_th (m_s_te (m_s_rc (m_s_rw (m_s_nR (m_s_op v (va_up (m_op v) i o)) (m_nR v)) g3) g4) (pcn (mt v i) (m_nR v))) 0) w) := by
          refine ⟨w1, fun j hj => ⟨(w2 j hj).1, (w2 j hj).2.1, e3 j hj, e4 j hj⟩, w3, w4, w5, fun j hj => ⟨(w6 j hj).1, (w6 j hj).2.1, fun t ht => ?_⟩⟩
          have ht : tb (g4 j) t = true := ht
          rw [d4 j] at ht
          by_cases q : j < m_nR v ∧ mt v i j = true
          · rw [if_pos q] at ht; exact mC_bit ht
          · rw [if_neg q] at ht; exact (w6 j hj).2.2 t ht
        cases b9 with
        | true => exact main
        | false => exact CRw_0 main rfl rfl rfl rfl
      · show pcn (kt u i) (k_cnt u) = pcn (mt v i) (m_nR v)
        rw [w1]; exact pcn_cg ekt
