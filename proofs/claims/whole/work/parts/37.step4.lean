theorem st_safe {u z : CSt} {v z2 : MSt} {r r2 : Int32} (h : CR u v) (h1 : C_safe u v r z) (h2 : M_safe v r2 z2) : r = r2 ∧ CR z z2 := by
  obtain ⟨k1, k2, k3, k4, k5, k6, k7, k8, k9, k10, k11⟩ := h.1.1
  rcases h1 with ⟨rfl, c2, n, g1, g2, g3, g4, L, Wy, fl, c3, c4, c5, rfl⟩ | ⟨rfl, f, t, a, b, c1, c2, c3, g1, g2, g3, g4, L, Wy, fl, c4, c5, rfl⟩ <;>
  rcases h2 with ⟨rfl, d2, n', p1, p2, p3, p4, w, d3, d6, d4, d5, rfl⟩ | ⟨rfl, f', t', a', b', d1, d2, d3, p1, p2, p3, p4, w, d4, d5, rfl⟩
  · obtain ⟨rfl, he⟩ := RT_eq c3 d3 (mTh_0 v)
    refine ⟨rfl, CP_cg2 h.1 ⟨k1, k2, d6, k4, k5, k6, d4, d5, k9, k10, k11⟩ rfl rfl rfl rfl rfl rfl rfl rfl rfl rfl rfl rfl rfl rfl rfl rfl rfl rfl rfl rfl rfl rfl, ⟨rfl, he, c4, c5, fun x y q1 q2 => RT_sort d3 (mTh_0 v) q1 q2, fun j hj => ?_⟩, rfl, fun q => absurd (show false = true from q) (by decide), h.2.2.2.2⟩
    obtain ⟨x, y, x1, y1, y2, e, -, r1, r2, r3, r4⟩ := RT_row d3 (mTh_0 v) hj
    show p1 j ≤ m_nV v ∧ 1 ≤ p2 j ∧ ∀ i, tb (p4 j) i = true → i < m_nV v
    refine ⟨by rw [r1]; omega, ?_, fun i hi => ?_⟩
    · rw [r2]
      rcases Nat.eq_zero_or_pos y with q | q
      · rw [q, mTh_0] at y2; cases y2
      · exact q
    · rw [r4] at hi; exact mC_bit hi
  · exact absurd d3.2.1 (c2 f' (by omega) t' a' b' d3.1)
  · exact absurd c3.2.1 (d2 f (by omega) t a b c3.1)
  · have ef : f = f' := by
      rcases Nat.lt_trichotomy f f' with q | q | q
      · exact absurd c3.2.1 (d2 f q t a b c3.1)
      · exact q
      · exact absurd d3.2.1 (c2 f' q t' a' b' d3.1)
    subst ef
    obtain ⟨rfl, rfl, rfl⟩ := mCul_u c3 d3
    exact ⟨rfl, CP_cg2 h.1 ⟨k1, k2, Nat.zero_le _, k4, k5, k6, d4, d5, k9, k10, k11⟩ rfl rfl rfl rfl rfl rfl rfl rfl rfl rfl rfl rfl rfl rfl rfl rfl rfl rfl rfl rfl rfl rfl, ⟨rfl, fun j hj => absurd hj (Nat.not_lt_zero _), c4, c5, fun x y _ hy => absurd hy (Nat.not_lt_zero _), fun j hj => absurd hj (Nat.not_lt_zero _)⟩, rfl, fun _ => cul_at, h.2.2.2.2⟩
