theorem st_unsure {u : CSt} {v : MSt} {f : Nat → Int64} {x r : Int32} {o : Bool} {z : CSt × (Nat → Int64)} (h : CR u v) (h1 : L_unsure u f x o r z) : r = nI (m_th (M_unsure v x o).2) ∧ CR z.1 (M_unsure v x o).2 ∧ (r = nI 0 → z.2 0 = if (M_unsure v x o).1 = true then 1 else 0) := by
  have hV := h.1.2.2.1
  have hV2 := h.1.1.2.1
  rcases h1 with ⟨c1, rfl, rfl⟩ | ⟨i, c1, rfl, b9, z1, c2, rfl, rfl⟩
  · rw [hV] at c1
    unfold M_unsure
    rw [if_pos c1]
    exact ⟨rfl, CR_th h, fun q => absurd q (by decide)⟩
  · rw [hV] at c1
    have hu := h.1.2.2.2.2.2.2.2.2.1 i
    rw [decide_eq_true c1, Bool.true_and] at hu
    unfold M_unsure
    rw [if_neg (fun q => absurd (q.symm.trans (ixB_nI (by omega) c1)) (by decide)), nI_clamp (by omega)]
    rcases c2 with ⟨c2, rfl, rfl⟩ | ⟨c2, rfl, rfl⟩
    · rw [if_pos (hu.symm.trans c2)]
      exact ⟨rfl, CR_th h, fun _ => up_s (g := f) (k := 0)⟩
    · rw [if_neg (fun q => c2 (hu.trans q))]
      obtain ⟨k1, k2, k3, k4, k5, k6, k7, k8, k9, k10, k11⟩ := h.1.1
      exact ⟨rfl, ⟨CP_unsure h.1 c1 rfl rfl rfl rfl rfl rfl rfl rfl rfl rfl rfl rfl rfl rfl rfl rfl rfl rfl rfl rfl rfl rfl ⟨k1, k2, Nat.zero_le _, k4, k5, k6, k7, k8, k9, k10, k11⟩, CRw_0 h.2.1 rfl rfl rfl rfl, CRo_cg h.2.2 rfl rfl rfl rfl rfl rfl⟩, fun _ => up_s (g := f) (k := 0)⟩
def u0 : CSt := k_mk false 0 0 0 0 0 0 0 0 (fun _ => 0) (fun _ => 0) (fun _ => 0) (fun _ => 0) (fun _ => 0) (fun _ => 0) (fun _ => 0) (fun _ => 0) (fun _ => 0) (fun _ => 0) (fun _ => 0) (fun _ => 0) (fun _ => 0) (fun _ => 0)
def v0 : MSt := m_mk (fun _ => 0) (fun _ => 0) 0 (fun _ => 0) (fun _ => 0) (fun _ => 0) (fun _ => false) (fun _ => false) 0 (fun _ => false) 0 (fun _ => 0) (fun _ => 0) (fun _ => 0) (fun _ => 0) (fun _ => 0) false 0 0 (fun _ => false)
theorem st_init : CR u0 v0 := by
  refine ⟨CP_clear rfl rfl (fun _ _ => rfl) (fun _ _ => rfl) (fun _ => (show 0 < 64 by decide)) (fun _ => (show 0 < 64 by decide)) rfl rfl rfl rfl rfl (fun _ _ => rfl) ⟨Nat.zero_le _, Nat.zero_le _, Nat.zero_le _, fun _ => (show 0 < 16 by decide), fun _ => (show 0 < 64 by decide), fun _ => (show 0 < 64 by decide), fun _ => (show 0 < 65 by decide), fun _ => (show 0 < 16 by decide), fun w hw => absurd hw (Nat.not_lt_zero _), Nat.zero_le _, fun _ => (show 0 < 4 by decide)⟩, ⟨rfl, fun j hj => absurd hj (Nat.not_lt_zero _), fun _ => (show 0 < 65 by decide), fun _ => (show 0 < 16 by decide), fun x y _ hy => absurd hy (Nat.not_lt_zero _), fun j hj => absurd hj (Nat.not_lt_zero _)⟩, rfl, fun q => absurd (show false = true from q) (by decide), rfl⟩
theorem MOk_op {v : MSt} {o : Nat → Bool} (h : MOk v) : MOk (m_s_op v o) := by
  obtain ⟨k1, k2, k3, k4, k5, k6, k7, k8, k9, k10, k11⟩ := h
  exact ⟨k1, k2, k3, k4, k5, k6, k7, k8, k9, k10, k11⟩
