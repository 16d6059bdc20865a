theorem CP_cg {u U : CSt} {v : MSt} (h : CP u v) (e1 : k_nS U = k_nS u) (e2 : k_nV U = k_nV u) (e3 : k_lev U = k_lev u) (e4 : k_src U = k_src u) (e5 : k_fr U = k_fr u) (e6 : k_e1 U = k_e1 u) (e7 : k_e2 U = k_e2 u) (e8 : k_opn U = k_opn u) (e9 : k_uns U = k_uns u) (e10 : k_dbl U = k_dbl u) (e11 : k_ends U = k_ends u) (e12 : k_fal U = k_fal u) : CP U v := by
  unfold CP at h ⊢
  rw [e1, e2, e3, e4, e5, e6, e7, e8, e9, e10, e11, e12]
  exact h
theorem kWs_cg {u U : CSt} {L : Int64} {g : Nat → Int64} (e6 : k_e1 U = k_e1 u) (e7 : k_e2 U = k_e2 u) (e12 : k_fal U = k_fal u) : ∀ n, kWs U L g n = kWs u L g n
  | 0 => rfl
  | n + 1 => by
    have ih := kWs_cg (L := L) (g := g) e6 e7 e12 n
    show (if tb L n = true then lw U (lw U (kWs U L g n) n (k_e1 U n) (k_e2 U n)) n (k_e2 U n) (k_e1 U n) else kWs U L g n) = if tb L n = true then lw u (lw u (kWs u L g n) n (k_e1 u n) (k_e2 u n)) n (k_e2 u n) (k_e1 u n) else kWs u L g n
    rw [ih, e6, e7, lw_cg (u := U) (v := u) e12, lw_cg (u := U) (v := u) e12]
/-- behind lay -/
theorem Laid_of {u U V : CSt} {v : MSt} {f : Nat} {g : Nat → Int64} (h : CP u v) (hf : f ≤ m_nV v) (hg : ∀ t, t < k_nS U → g t = 0) (hL : kl U f = k_lett V) (hw : kWs U (k_lett V) g (k_nV U) = k_ways V)
    (e1 : k_nS U = k_nS u) (e2 : k_nV U = k_nV u) (e6 : k_e1 V = k_e1 U) (e7 : k_e2 V = k_e2 U) (e12 : k_fal V = k_fal U) (e8 : k_opn U = k_opn u) (e9 : k_uns U = k_uns u) (e10 : k_dbl U = k_dbl u) : Laid V v f := by
  refine ⟨fun x => ?_, g, fun t ht => hg t (by rw [e1, h.2.1]; exact ht), ?_⟩
  · rw [← hL, kl_cg (v := u) e8 e9 e10]; exact kl_lets h hf x
  · rw [← hw, kWs_cg e6 e7 e12, e2, h.2.2.1]
/-- the floods that are laid for failure f -/
def Flo (u : CSt) (v : MSt) (f : Nat) : Prop := ∀ a, 1 ≤ a → a < 16 → k_fls u a = mF v a f
theorem th_of {v : MSt} (hv : MOk v) {a f t : Nat} (ha : 1 ≤ a) (h : tb (mF v a f) t = true) : mTh v a = true := by
  rw [mF_th hv (f := f) ha]
  exact decide_eq_true (tb_ne0.mpr ⟨t, tb_lt h, h⟩)
theorem meet_iff {u : CSt} {v : MSt} {f : Nat} {r : Int64} (h : CP u v) (hF : Flo u v f) (hM : MTa (kM u) 16 r) (t : Nat) : tb r t = true ↔ ∃ a b, mCl v f t a b := by
  rw [hM t]
  have h6 := h.2.2.2.2.2.1
  constructor
  · rintro ⟨p, q, a1, a2, a3, a4, b1, b2, b3⟩
    rw [hF p a1 (by omega)] at b2
    rw [hF q (by omega) a4] at b3
    rw [h6 p q a1 (by omega) (by omega) a4] at b1
    exact ⟨p, q, th_of h.1 a1 b2, th_of h.1 (by omega) b3, a3, a4, b2, b3, b1⟩
  · rintro ⟨a, b, c1, c2, c3, c4, c5, c6, c7⟩
    have ha : 1 ≤ a := by
      rcases Nat.eq_zero_or_pos a with z | z
      · rw [z, mTh_0] at c1; cases c1
      · exact z
    refine ⟨a, b, ha, by omega, c3, c4, ?_, ?_, ?_⟩
    · rw [h6 a b ha (by omega) (by omega) c4]; exact c7
    · rw [hF a ha (by omega)]; exact c5
    · rw [hF b (by omega) c4]; exact c6
theorem no_meet {u : CSt} {v : MSt} {f : Nat} {r : Int64} (h : CP u v) (hF : Flo u v f) (hM : MTa (kM u) 16 r) (hr : r = 0) : mNo v f := by
  intro t a b _ hc
  have := (meet_iff h hF hM t).mpr ⟨a, b, hc⟩
  rw [hr, tb_0] at this; cases this
/-- what leastClashing asks of a liquid, said of the reference's state -/
theorem kcl_iff {u : CSt} {v : MSt} {f p a o : Nat} (h : CP u v) (hF : Flo u v f) (hp : p < 64) (ha : 1 ≤ a) (ha2 : a < 16) (ho2 : o < 16) : kcl u a (bt p) o = true ↔ 1 ≤ o ∧ ¬ o = a ∧ tb (mF v o f) p = true ∧ m_may v (16 * a + o) = false := by
  rw [kcl_t]
  constructor
  · rintro ⟨a1, a2, a3, a4⟩
    refine ⟨a1, a2, ts_nf fun q => a3 ?_, ?_⟩
    · rw [hF o a1 ho2]; exact (tb_has _ hp).mpr q
    · rw [← h.2.2.2.2.2.1 a o ha ha2 a1 ho2]; exact a4
  · rintro ⟨a1, a2, a3, a4⟩
    refine ⟨a1, a2, fun q => ?_, ?_⟩
    · rw [hF o a1 ho2] at q
      exact absurd (a3.symm.trans ((tb_has _ hp).mp q)) (by decide)
    · rw [h.2.2.2.2.2.1 a o ha ha2 a1 ho2]; exact a4
theorem kLC0 {u : CSt} {v : MSt} {f p a : Nat} (h : CP u v) (hF : Flo u v f) (hp : p < 64) (ha : 1 ≤ a) (ha2 : a < 16) : kLC u p 0 a ↔ ∃ o, 1 ≤ o ∧ o < 16 ∧ ¬ o = a ∧ tb (mF v a f) p = true ∧ tb (mF v o f) p = true ∧ m_may v (16 * a + o) = false := by
  unfold kLC
  rw [if_pos rfl, hF a ha ha2, anyB_t]
  constructor
  · rintro ⟨b1, -, o, b3, b4⟩
    obtain ⟨c1, c2, c3, c4⟩ := (kcl_iff h hF hp ha ha2 b3).mp b4
    exact ⟨o, c1, b3, c2, b1, c3, c4⟩
  · rintro ⟨o, c1, c2, c3, c4, c5, c6⟩
    exact ⟨c4, by omega, o, c2, (kcl_iff h hF hp ha ha2 c2).mpr ⟨c1, c3, c5, c6⟩⟩
theorem kLC1 {u : CSt} {v : MSt} {f p a o : Nat} (h : CP u v) (hF : Flo u v f) (ha : 1 ≤ a) (ha2 : a < 16) (ho : 1 ≤ o) (ho2 : o < 16) : kLC u p a o ↔ tb (mF v o f) p = true ∧ ¬ o = a ∧ m_may v (16 * a + o) = false := by
  unfold kLC
  rw [if_neg (by omega), hF o ho ho2, h.2.2.2.2.2.1 o a ho ho2 ha ha2, h.2.2.2.2.2.2.2.2.2.2.2.2.2.2 o a ho ho2 ha ha2]
theorem sym_may {u : CSt} {v : MSt} (h : CP u v) {a b : Nat} (ha : 1 ≤ a) (ha2 : a < 16) (hb : 1 ≤ b) (hb2 : b < 16) : m_may v (16 * a + b) = m_may v (16 * b + a) := h.2.2.2.2.2.2.2.2.2.2.2.2.2.2 a b ha ha2 hb hb2
/-- the culprit that the class keeps is the reference's -/
theorem keep_cul {u : CSt} {v : MSt} {f a : Nat} {r : Int64} {r2 : Int32} (h : CP u v) (hF : Flo u v f) (hM : MTa (kM u) 16 r) (hr : ¬ r = 0) (ha : 1 ≤ a) (ha2 : a < 16) (hK : kLC u (lowN r) 0 a) (hm : ∀ o, 1 ≤ o → o < a → ¬ kLC u (lowN r) 0 o)
    (h2 : (∃ o, 1 ≤ o ∧ o < 16 ∧ kLC u (lowN r) a o ∧ (∀ o2, 1 ≤ o2 → o2 < o → ¬ kLC u (lowN r) a o2) ∧ r2 = nI o) ∨ ((∀ o, 1 ≤ o → o < 16 → ¬ kLC u (lowN r) a o) ∧ r2 = -1)) : ∃ b, mCul v f (lowN r) a b ∧ r2 = nI b := by
  obtain ⟨q1, q2, q3, -⟩ := lowN_spec r hr
  obtain ⟨o, c1, c2, c3, c4, c5, c6⟩ := (kLC0 h hF q1 ha ha2).mp hK
  -- all that clash with a are greater
  have big : ∀ x, 1 ≤ x → x < 16 → ¬ x = a → tb (mF v x f) (lowN r) = true → m_may v (16 * a + x) = false → a < x := by
    intro x x1 x2 x3 x4 x5
    rcases Nat.lt_or_ge a x with z | z
    · exact z
    · refine absurd ((kLC0 h hF q1 x1 x2).mpr ⟨a, ha, ha2, fun q => x3 q.symm, x4, c4, ?_⟩) (hm x x1 (by omega))
      rw [sym_may h x1 x2 ha ha2]; exact x5
  rcases h2 with ⟨b, b1, b2, b3, b4, b5⟩ | ⟨b1, -⟩
  · obtain ⟨d1, d2, d3⟩ := (kLC1 h hF ha ha2 b1 b2).mp b3
    refine ⟨b, ⟨(mF_in h.1 c4).2, ⟨th_of h.1 ha c4, th_of h.1 b1 d1, big b b1 b2 d2 d1 d3, b2, c4, d1, d3⟩, ?_, ?_, ?_⟩, b5⟩
    · intro t ht x y hc
      have := (meet_iff h hF hM t).mpr ⟨x, y, hc⟩
      rw [q3 t ht] at this; cases this
    · intro x hx y hc
      obtain ⟨e1, e2, e3, e4, e5, e6, e7⟩ := hc
      have x1 : 1 ≤ x := by
        rcases Nat.eq_zero_or_pos x with z | z
        · rw [z, mTh_0] at e1; cases e1
        · exact z
      exact hm x x1 hx ((kLC0 h hF q1 x1 (by omega)).mpr ⟨y, by omega, e4, by omega, e5, e6, e7⟩)
    · intro y hy hc
      obtain ⟨e1, e2, e3, e4, e5, e6, e7⟩ := hc
      exact b4 y (by omega) hy ((kLC1 h hF ha ha2 (by omega) e4).mpr ⟨e6, by omega, e7⟩)
  · exact absurd ((kLC1 h hF ha ha2 c1 c2).mpr ⟨c5, c3, c6⟩) (b1 o c1 c2)
theorem has_clash {u : CSt} {v : MSt} {f : Nat} {r : Int64} (h : CP u v) (hF : Flo u v f) (hM : MTa (kM u) 16 r) (hr : ¬ r = 0) : ∃ o, 1 ≤ o ∧ o < 16 ∧ kLC u (lowN r) 0 o := by
  obtain ⟨q1, q2, -, -⟩ := lowN_spec r hr
  obtain ⟨a, b, e1, e2, e3, e4, e5, e6, e7⟩ := (meet_iff h hF hM _).mp q2
  have a1 : 1 ≤ a := by
    rcases Nat.eq_zero_or_pos a with z | z
    · rw [z, mTh_0] at e1; cases e1
    · exact z
  exact ⟨a, a1, by omega, (kLC0 h hF q1 a1 (by omega)).mpr ⟨b, by omega, e4, by omega, e5, e6, e7⟩⟩
theorem kt_cg {u U : CSt} {x k : Nat} (e1 : k_pf U = k_pf u) (e2 : k_pw U k = k_pw u k) (e3 : k_e1 U = k_e1 u) (e4 : k_e2 U = k_e2 u) : kt U x k = kt u x k := by unfold kt; rw [e1, e2, e3, e4]
theorem m1_ne {n : Nat} (h : n < 2 ^ 31) : ¬ nI n = -1 := fun q => by
  have h1 := nI_toInt h
  rw [q] at h1
  have h2 : (-1 : Int32).toInt = -1 := by decide
  omega
/-- what is laid when a row is come to -/
def LaQ (U : CSt) (v : MSt) (la : Int32) : Prop := la = -1 ∨ ∃ f, la = nI f ∧ f ≤ m_nV v ∧ Laid U v f
theorem LaQ_at {U : CSt} {v : MSt} {la : Int32} {n : Nat} (h : LaQ U v la) (hv : MOk v) (hn : n < 65) (e : nI n = la) : Laid U v n := by
  rcases h with z | ⟨f, z, hf, hl⟩
  · exact absurd (e.trans z) (m1_ne (by omega))
  · have hV := hv.2.1
    have : n = f := (nI_eq (by omega) (by omega)).mp (e.trans z)
    rw [this]; exact hl
theorem Laid_cg {U V : CSt} {v : MSt} {f : Nat} (h : Laid U v f) (e1 : k_lett V = k_lett U) (e2 : k_ways V = k_ways U) (e6 : k_e1 V = k_e1 U) (e7 : k_e2 V = k_e2 U) (e12 : k_fal V = k_fal U) : Laid V v f := by
  obtain ⟨h1, g, h2, h3⟩ := h
  refine ⟨fun x => by rw [e1]; exact h1 x, g, h2, ?_⟩
  rw [e2, h3, e1, kWs_cg e6 e7 e12]
theorem LaQ_cg {U V : CSt} {v : MSt} {la : Int32} (h : LaQ U v la) (e1 : k_lett V = k_lett U) (e2 : k_ways V = k_ways U) (e6 : k_e1 V = k_e1 U) (e7 : k_e2 V = k_e2 U) (e12 : k_fal V = k_fal U) : LaQ V v la := by
  rcases h with z | ⟨f, z, hf, hl⟩
  · exact Or.inl z
  · exact Or.inr ⟨f, z, hf, Laid_cg hl e1 e2 e6 e7 e12⟩
