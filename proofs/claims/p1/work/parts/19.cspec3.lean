def k_addR (u : CSt) (f a : Nat) (x y : Int64) : CSt := k_s_pc (k_s_pw (k_s_pl (k_s_pf (k_s_cnt u (k_cnt u + 1)) (va_up (k_pf u) (k_cnt u) f)) (va_up (k_pl u) (k_cnt u) a)) (va_up (k_pw u) (k_cnt u) x)) (va_up (k_pc u) (k_cnt u) y)
def k_remR (u : CSt) (k : Nat) : CSt := k_s_pc (k_s_pw (k_s_pl (k_s_pf (k_s_cnt u (k_cnt u - 1)) (sh (k_pf u) k (k_cnt u - 1))) (sh (k_pl u) k (k_cnt u - 1))) (sh (k_pw u) k (k_cnt u - 1))) (sh (k_pc u) k (k_cnt u - 1))
theorem fa_s {g F : Nat → Int64} {i : Nat} (h : ∀ t, 1 ≤ t → t < i → g t = F t) : ∀ t, 1 ≤ t → t < i + 1 → va_up g i (F i) t = F t := by
  intro t h1 h2
  unfold va_up; split
  · rename_i e; rw [e]
  · exact h t h1 (by omega)
/-! meetings -/
section MT
variable {P : Nat → Nat → Nat → Prop} {a b : Nat} {x y : Int64}
def MTa (P : Nat → Nat → Nat → Prop) (a : Nat) (x : Int64) : Prop := ∀ t, tb x t = true ↔ ∃ p q, 1 ≤ p ∧ p < a ∧ p < q ∧ q < 16 ∧ P p q t
def MTb (P : Nat → Nat → Nat → Prop) (a b : Nat) (x : Int64) : Prop := ∀ t, tb x t = true ↔ (∃ p q, 1 ≤ p ∧ p < a ∧ p < q ∧ q < 16 ∧ P p q t) ∨ ∃ q, a < q ∧ q < b ∧ P a q t
theorem MT_0 : MTa P 1 0 := fun t => by
  rw [tb_0]; constructor
  · intro h; cases h
  · rintro ⟨p, q, h1, h2, -⟩; omega
theorem MT_1 (h : MTa P a x) : MTb P a (a + 1) x := fun t => by
  rw [h t]; constructor
  · intro z; exact Or.inl z
  · rintro (z | ⟨q, h1, h2, -⟩)
    · exact z
    · omega
theorem MT_n (h : MTb P a b x) (hn : ∀ t, ¬ P a b t) : MTb P a (b + 1) x := fun t => by
  rw [h t]; constructor
  · rintro (z | ⟨q, h1, h2, h3⟩)
    · exact Or.inl z
    · exact Or.inr ⟨q, h1, by omega, h3⟩
  · rintro (z | ⟨q, h1, h2, h3⟩)
    · exact Or.inl z
    · by_cases e : q = b
      · subst e; exact absurd h3 (hn t)
      · exact Or.inr ⟨q, h1, by omega, h3⟩
theorem MT_y (h : MTb P a b x) (hab : a < b) (hy : ∀ t, tb y t = true ↔ P a b t) : MTb P a (b + 1) (x ||| y) := fun t => by
  rw [tb_or, Bool.or_eq_true, h t, hy t]; constructor
  · rintro ((z | ⟨q, h1, h2, h3⟩) | z)
    · exact Or.inl z
    · exact Or.inr ⟨q, h1, by omega, h3⟩
    · exact Or.inr ⟨b, hab, by omega, z⟩
  · rintro (z | ⟨q, h1, h2, h3⟩)
    · exact Or.inl (Or.inl z)
    · by_cases e : q = b
      · subst e; exact Or.inr h3
      · exact Or.inl (Or.inr ⟨q, h1, by omega, h3⟩)
theorem MT_e (h : MTb P a b x) (ha : 1 ≤ a) (hb : b = 16) : MTa P (a + 1) x := fun t => by
  rw [h t]; constructor
  · rintro (⟨p, q, h1, h2, h3⟩ | ⟨q, h1, h2, h3⟩)
    · exact ⟨p, q, h1, by omega, h3⟩
    · exact ⟨a, q, ha, by omega, h1, by omega, h3⟩
  · rintro ⟨p, q, h1, h2, h3, h4, h5⟩
    by_cases e : p = a
    · subst e; exact Or.inr ⟨q, h3, by omega, h5⟩
    · exact Or.inl ⟨p, q, h1, by omega, h3, h4, h5⟩
end MT
theorem kM_b {u : CSt} {a b : Nat} (h : t32 (k_fr u a) b = false) : ∀ t, tb (k_fls u a &&& k_fls u b) t = true ↔ kM u a b t := fun t => by
  rw [tb_and, Bool.and_eq_true]; exact ⟨fun q => ⟨h, q.1, q.2⟩, fun q => ⟨q.2.1, q.2.2⟩⟩
theorem lc_some {u : CSt} {p f : Nat} {r : Int32} (hE : ∃ o, 1 ≤ o ∧ o < 16 ∧ kLC u p f o) (h : (∃ o, 1 ≤ o ∧ o < 16 ∧ kLC u p f o ∧ (∀ o2, 1 ≤ o2 → o2 < o → ¬ kLC u p f o2) ∧ r = nI o) ∨ ((∀ o, 1 ≤ o → o < 16 → ¬ kLC u p f o) ∧ r = -1)) : ∃ o, 1 ≤ o ∧ o < 16 ∧ kLC u p f o ∧ (∀ o2, 1 ≤ o2 → o2 < o → ¬ kLC u p f o2) ∧ r = nI o := by
  rcases h with h | h
  · exact h
  · obtain ⟨o, h1, h2, h3⟩ := hE; exact absurd h3 (h.1 o h1 h2)
/-! a row that a valve touches; rows that clash -/
def kt (u : CSt) (x k : Nat) : Bool := decide (k_pf u k = 1 + x) || (tb (k_pw u k) (k_e1 u x) || tb (k_pw u k) (k_e2 u x))
def kK (u : CSt) (x y : Nat) : Prop := k_pf u x = k_pf u y ∧ ¬ (k_pw u x &&& k_pw u y) = 0 ∧ t32 (k_fr u (k_pl u x)) (k_pl u y) = false
theorem kK_2 {P : Nat → Nat → Prop} {x y n : Nat} (h : ∀ p q, p < x → p < q → q < n → ¬ P p q) (h2 : ∀ q, x < q → q < y → ¬ P x q) (h3 : ∀ q, y ≤ q → q < n → ¬ P x q) : ∀ p q, p < x + 1 → p < q → q < n → ¬ P p q := by
  intro p q h4 h5 h6
  by_cases e : p = x
  · subst e
    rcases Nat.lt_or_ge q y with z | z
    · exact h2 q h5 z
    · exact h3 q z h6
  · exact h p q (by omega) h5 h6
theorem kK_17 {P : Nat → Prop} {x y : Nat} (h : ∀ q, x < q → q < y → ¬ P q) (hn : ¬ P y) : ∀ q, x < q → q < y + 1 → ¬ P q := by
  intro q h1 h2
  by_cases e : q = y
  · subst e; exact hn
  · exact h q h1 (by omega)
theorem kK_out {u : CSt} {x y n : Nat} (hs : ∀ x y, x < y → y < n → k_pf u x ≤ k_pf u y) (hxy : x < y) (hy : y < n) (hne : ¬ k_pf u y = k_pf u x) : ∀ q, y ≤ q → q < n → ¬ kK u x q := by
  intro q h1 h2 h
  have h3 := hs x y hxy hy
  have h4 := h.1
  rcases Nat.lt_or_ge y q with z | z
  · have := hs y q z h2; omega
  · have e : q = y := by omega
    rw [e] at h4; exact hne h4.symm
theorem liqB_of {x : Int32} (h : liqB x = true) : ∃ j : Nat, 1 ≤ j ∧ j < 16 ∧ x = nI j := by
  have h := of_decide_eq_true h
  rcases pk_ix x (show 16 < 2 ^ 31 by decide) with q | q | ⟨j, q, rfl⟩
  · exact absurd (Int32.lt_trans q (by decide)) h.1
  · exact absurd q h.2
  · refine ⟨j, ?_, q, rfl⟩
    rcases Nat.eq_zero_or_pos j with z | z
    · subst z; exact absurd (by decide) h.1
    · exact z
def C_culprit (u : CSt) (x : Int32) : Int32 := if k_fu u = true ∧ ¬ x < 0 ∧ ¬ nI 4 ≤ x then k_fnd u x.toNatClampNeg else -1
def C_space (u : CSt) (x : Int32) : Int32 × CSt := if x < 0 ∨ ¬ x < nI 16 then (-1, u) else if 64 ≤ k_nS u then (-2, u) else (nI (k_nS u), k_addS (k_s_cnt u 0) x.toNatClampNeg)
def C_valve (u : CSt) (x y k : Int32) (o : Bool) : Int32 × CSt := if ixB x (k_nS u) = false ∨ ixB y (k_nS u) = false ∨ x = y then (-1, u) else if ¬ k = nI 1 ∧ ¬ k = nI 2 then (-1, u) else if 64 ≤ k_nV u then (-2, u) else (nI (k_nV u), k_addV (k_s_cnt u 0) x.toNatClampNeg y.toNatClampNeg (decide (k = nI 2)) o)
def C_level (u : CSt) (x : Int32) (h : Int64) : Bool × CSt := if ixB x (k_nS u) = false then (false, u) else (true, k_s_cnt (k_s_fal (k_s_lev u (va_up (k_lev u) x.toNatClampNeg h)) (krs (k_s_lev u (va_up (k_lev u) x.toNatClampNeg h)) x.toNatClampNeg (k_nV u))) 0)
def C_may (u : CSt) (x y : Int32) : Bool × CSt := if liqB x = false ∨ liqB y = false ∨ x = y ∨ t32 (k_fr u x.toNatClampNeg) y.toNatClampNeg = true then (false, u) else (true, k_s_cnt (k_s_fr u (bfr (k_fr u) x.toNatClampNeg y.toNatClampNeg)) 0)
def C_drop (u : CSt) (x : Int32) : Bool × CSt := if ixB x (k_cnt u) = false then (false, u) else (true, k_remR u x.toNatClampNeg)
