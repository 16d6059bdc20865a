theorem ps_and {b c : Nat} (r M : Nat) (hb : b < 256) (hc : c < 256) : (b + 256 * r) &&& (c + 256 * M) = (b &&& c) + 256 * (r &&& M) := by
  have hbc : b &&& c < 256 := Nat.lt_of_le_of_lt Nat.and_le_left hb
  apply Nat.eq_of_testBit_eq
  intro i
  rw [Nat.testBit_and, Nat.add_comm b, Nat.add_comm c, Nat.add_comm (b &&& c), show (256 : Nat) = 2 ^ 8 from rfl, Nat.testBit_two_pow_mul_add r hb, Nat.testBit_two_pow_mul_add M hc, Nat.testBit_two_pow_mul_add _ hbc]
  split
  · rw [Nat.testBit_and]
  · rw [Nat.testBit_and]
def ps_f1 (b : Nat) : Nat := b - ((b / 2) &&& 85)
def ps_f2 (b : Nat) : Nat := (b &&& 51) + ((b / 4) &&& 51)
def ps_f3 (b : Nat) : Nat := (b + b / 16) &&& 15
def ps_F1 (M n : Nat) : Nat := n - ((n / 2) &&& M)
def ps_F2 (M n : Nat) : Nat := (n &&& M) + ((n / 4) &&& M)
def ps_F3 (M n : Nat) : Nat := (n + n / 16) &&& M
def ps_m (c : Nat) : Nat → Nat
  | 0 => 0
  | j + 1 => c + 256 * ps_m c j
def ps_8 (b : Nat) : Nat := pcn b.testBit 8
theorem ps_b1 : ∀ b, b < 256 → ∀ t, t < 2 → (b / 2 + 128 * t) &&& 85 = (b / 2) &&& 85 := by decide +kernel
theorem ps_b2 : ∀ b, b < 256 → ∀ t, t < 4 → (b / 4 + 64 * t) &&& 51 = (b / 4) &&& 51 := by decide +kernel
theorem ps_b3 : ∀ b, b < 69 → ∀ t, t < 5 → (b + b / 16 + 16 * t) &&& 15 = (b + b / 16) &&& 15 := by decide +kernel
theorem ps_all : ∀ b, b < 256 → ps_f1 b < 256 ∧ ps_f2 (ps_f1 b) < 69 ∧ ps_f2 (ps_f1 b) % 16 < 5 ∧ ps_f3 (ps_f2 (ps_f1 b)) = ps_8 b ∧ ps_8 b ≤ 8 := by decide +kernel
theorem ps_s1 {b : Nat} (r M : Nat) (hb : b < 256) : ps_F1 (85 + 256 * M) (b + 256 * r) = ps_f1 b + 256 * ps_F1 M r := by
  unfold ps_F1 ps_f1
  have e : (b + 256 * r) / 2 = (b / 2 + 128 * (r % 2)) + 256 * (r / 2) := by omega
  rw [e, ps_and _ _ (by omega) (by decide), ps_b1 b hb _ (Nat.mod_lt _ (by decide))]
  have h1 : (b / 2) &&& 85 ≤ b / 2 := Nat.and_le_left
  have h2 : (r / 2) &&& M ≤ r / 2 := Nat.and_le_left
  omega
theorem ps_s2 {b : Nat} (r M : Nat) (hb : b < 256) : ps_F2 (51 + 256 * M) (b + 256 * r) = ps_f2 b + 256 * ps_F2 M r := by
  unfold ps_F2 ps_f2
  have e : (b + 256 * r) / 4 = (b / 4 + 64 * (r % 4)) + 256 * (r / 4) := by omega
  rw [e, ps_and (b := b) r M hb (by decide), ps_and (b := b / 4 + 64 * (r % 4)) (r / 4) M (by omega) (by decide), ps_b2 b hb _ (Nat.mod_lt _ (by decide))]
  omega
theorem ps_s3 {b : Nat} (r M : Nat) (hb : b < 69) (hr : r % 16 < 5) : ps_F3 (15 + 256 * M) (b + 256 * r) = ps_f3 b + 256 * ps_F3 M r := by
  unfold ps_F3 ps_f3
  have e : b + 256 * r + (b + 256 * r) / 16 = (b + b / 16 + 16 * (r % 16)) + 256 * (r + r / 16) := by omega
  rw [e, ps_and _ _ (by omega) (by decide), ps_b3 b hb _ hr]
def ps_G (j n : Nat) : Nat := ps_F3 (ps_m 15 j) (ps_F2 (ps_m 51 j) (ps_F1 (ps_m 85 j) n))
def ps_T : Nat → Nat → Nat
  | 0, _ => 0
  | j + 1, n => ps_8 (n % 256) + 256 * ps_T j (n / 256)
theorem ps_run : ∀ (j n : Nat), n < 256 ^ j → ps_G j n = ps_T j n ∧ ps_F2 (ps_m 51 j) (ps_F1 (ps_m 85 j) n) % 16 < 5
  | 0, n, h => by
    have : n = 0 := by simpa using h
    subst this
    decide
  | j + 1, n, h => by
    have hr : n / 256 < 256 ^ j := by
      rw [Nat.pow_succ] at h
      exact Nat.div_lt_of_lt_mul (by rw [Nat.mul_comm]; exact h)
    obtain ⟨i1, i2⟩ := ps_run j (n / 256) hr
    have hb : n % 256 < 256 := Nat.mod_lt _ (by decide)
    obtain ⟨a1, a2, a3, a4, -⟩ := ps_all (n % 256) hb
    have e : n = n % 256 + 256 * (n / 256) := by omega
    have e2 : ps_F2 (ps_m 51 (j + 1)) (ps_F1 (ps_m 85 (j + 1)) n) = ps_f2 (ps_f1 (n % 256)) + 256 * ps_F2 (ps_m 51 j) (ps_F1 (ps_m 85 j) (n / 256)) := by
      rw [show ps_m 85 (j + 1) = 85 + 256 * ps_m 85 j from rfl, show ps_m 51 (j + 1) = 51 + 256 * ps_m 51 j from rfl]
      conv => lhs; rw [e]
      rw [ps_s1 _ _ hb, ps_s2 _ _ a1]
    refine ⟨?_, ?_⟩
    · unfold ps_G
      rw [e2, show ps_m 15 (j + 1) = 15 + 256 * ps_m 15 j from rfl, ps_s3 _ _ a2 i2, a4]
      unfold ps_G at i1
      rw [i1]
      rfl
    · rw [e2]; omega
theorem ps_pc : ∀ (j n : Nat), pcn n.testBit (8 * (j + 1)) = ps_8 (n % 256) + pcn (n / 256).testBit (8 * j) := by
  intro j n
  rw [show 8 * (j + 1) = 8 + 8 * j by omega, pcn_add]
  congr 1
  · refine pcn_congr fun i hi => ?_
    rw [show (256 : Nat) = 2 ^ 8 from rfl, Nat.testBit_mod_two_pow]; simp [hi]
  · refine pcn_congr fun i _ => ?_
    rw [show (256 : Nat) = 2 ^ 8 from rfl, Nat.testBit_div_two_pow]
    congr 1 <;> omega
def ps_end (c : Nat) : Nat := ((c + c / 256) + (c + c / 256) / 65536 + ((c + c / 256) + (c + c / 256) / 65536) / 4294967296) % 128
def ps_V : List Nat → Nat
  | [] => 0
  | a :: l => a + 256 * ps_V l
theorem ps_Va : ∀ (l m : List Nat), l.length = m.length → ps_V l + ps_V m = ps_V (List.zipWith (fun a b => a + b) l m)
  | [], [], _ => rfl
  | a :: l, b :: m, h => by
    have := ps_Va l m (by simpa using h)
    show a + 256 * ps_V l + (b + 256 * ps_V m) = a + b + 256 * ps_V (List.zipWith (fun a b => a + b) l m)
    omega
theorem ps_Vd (a : Nat) (l : List Nat) (h : a < 256) : ps_V (a :: l) / 256 = ps_V l := by
  show (a + 256 * ps_V l) / 256 = ps_V l
  omega
theorem ps_V0 (l : List Nat) : ps_V (l ++ [0]) = ps_V l := by
  induction l with
  | nil => rfl
  | cons a l ih => show a + 256 * ps_V (l ++ [0]) = a + 256 * ps_V l; rw [ih]
theorem ps_fin {p0 p1 p2 p3 p4 p5 p6 p7 : Nat} (h0 : p0 ≤ 8) (h1 : p1 ≤ 8) (h2 : p2 ≤ 8) (h3 : p3 ≤ 8) (h4 : p4 ≤ 8) (h5 : p5 ≤ 8) (h6 : p6 ≤ 8) (h7 : p7 ≤ 8) : ps_end (ps_V [p0, p1, p2, p3, p4, p5, p6, p7]) = p0 + (p1 + (p2 + (p3 + (p4 + (p5 + (p6 + (p7 + 0))))))) := by
  have c1 : ps_V [p0, p1, p2, p3, p4, p5, p6, p7] / 256 = ps_V [p1, p2, p3, p4, p5, p6, p7, 0] := (ps_Vd _ _ (by omega)).trans (ps_V0 [p1, p2, p3, p4, p5, p6, p7]).symm
  have c2 : ps_V [p0, p1, p2, p3, p4, p5, p6, p7] + ps_V [p1, p2, p3, p4, p5, p6, p7, 0] = ps_V [p0 + p1, p1 + p2, p2 + p3, p3 + p4, p4 + p5, p5 + p6, p6 + p7, p7 + 0] := ps_Va _ _ rfl
  have c3 : ps_V [p0 + p1, p1 + p2, p2 + p3, p3 + p4, p4 + p5, p5 + p6, p6 + p7, p7 + 0] / 65536 = ps_V [p2 + p3, p3 + p4, p4 + p5, p5 + p6, p6 + p7, p7 + 0, 0, 0] := by
    rw [show (65536 : Nat) = 256 * 256 from rfl, ← Nat.div_div_eq_div_mul, ps_Vd _ _ (by omega), ps_Vd _ _ (by omega)]
    exact ((ps_V0 [p2 + p3, p3 + p4, p4 + p5, p5 + p6, p6 + p7, p7 + 0, 0]).trans (ps_V0 [p2 + p3, p3 + p4, p4 + p5, p5 + p6, p6 + p7, p7 + 0])).symm
  have c4 : ps_V [p0 + p1, p1 + p2, p2 + p3, p3 + p4, p4 + p5, p5 + p6, p6 + p7, p7 + 0] + ps_V [p2 + p3, p3 + p4, p4 + p5, p5 + p6, p6 + p7, p7 + 0, 0, 0] = ps_V [p0 + p1 + (p2 + p3), p1 + p2 + (p3 + p4), p2 + p3 + (p4 + p5), p3 + p4 + (p5 + p6), p4 + p5 + (p6 + p7), p5 + p6 + (p7 + 0), p6 + p7 + 0, p7 + 0 + 0] := ps_Va _ _ rfl
  have c5 : ps_V [p0 + p1 + (p2 + p3), p1 + p2 + (p3 + p4), p2 + p3 + (p4 + p5), p3 + p4 + (p5 + p6), p4 + p5 + (p6 + p7), p5 + p6 + (p7 + 0), p6 + p7 + 0, p7 + 0 + 0] / 4294967296 = ps_V [p4 + p5 + (p6 + p7), p5 + p6 + (p7 + 0), p6 + p7 + 0, p7 + 0 + 0] := by
    rw [show (4294967296 : Nat) = 256 * 256 * 256 * 256 from rfl, ← Nat.div_div_eq_div_mul, ← Nat.div_div_eq_div_mul, ← Nat.div_div_eq_div_mul, ps_Vd _ _ (by omega), ps_Vd _ _ (by omega), ps_Vd _ _ (by omega), ps_Vd _ _ (by omega)]
  unfold ps_end
  rw [c1, c2, c3, c4, c5]
  show (p0 + p1 + (p2 + p3) + 256 * ps_V _ + (p4 + p5 + (p6 + p7) + 256 * ps_V _)) % 128 = _
  generalize ps_V _ = X
  generalize ps_V _ = Y
  rw [show p0 + p1 + (p2 + p3) + 256 * X + (p4 + p5 + (p6 + p7) + 256 * Y) = (p0 + p1 + (p2 + p3) + (p4 + p5 + (p6 + p7))) + 128 * (2 * X + 2 * Y) by omega, Nat.add_mul_mod_self_left, Nat.mod_eq_of_lt (by omega)]
  omega
theorem ps_sw (n : Nat) (h : n < 2 ^ 64) : ps_end (ps_G 8 n) = pcn n.testBit 64 := by
  rw [(ps_run 8 n (by rw [show (256 : Nat) ^ 8 = 2 ^ 64 by decide]; exact h)).1]
  rw [show (64 : Nat) = 8 * (7 + 1) from rfl, ps_pc, ps_pc, ps_pc, ps_pc, ps_pc, ps_pc, ps_pc, ps_pc]
  show ps_end (ps_8 _ + 256 * (ps_8 _ + 256 * (ps_8 _ + 256 * (ps_8 _ + 256 * (ps_8 _ + 256 * (ps_8 _ + 256 * (ps_8 _ + 256 * (ps_8 _ + 256 * 0)))))))) = _
  have q : ∀ m : Nat, ps_8 (m % 256) ≤ 8 := fun m => (ps_all (m % 256) (Nat.mod_lt _ (by decide))).2.2.2.2
  have q0 := q n
  have q1 := q (n / 256)
  have q2 := q (n / 256 / 256)
  have q3 := q (n / 256 / 256 / 256)
  have q4 := q (n / 256 / 256 / 256 / 256)
  have q5 := q (n / 256 / 256 / 256 / 256 / 256)
  have q6 := q (n / 256 / 256 / 256 / 256 / 256 / 256)
  have q7 := q (n / 256 / 256 / 256 / 256 / 256 / 256 / 256)
  revert q0 q1 q2 q3 q4 q5 q6 q7
  generalize ps_8 (n % 256) = p0
  generalize ps_8 (n / 256 % 256) = p1
  generalize ps_8 (n / 256 / 256 % 256) = p2
  generalize ps_8 (n / 256 / 256 / 256 % 256) = p3
  generalize ps_8 (n / 256 / 256 / 256 / 256 % 256) = p4
  generalize ps_8 (n / 256 / 256 / 256 / 256 / 256 % 256) = p5
  generalize ps_8 (n / 256 / 256 / 256 / 256 / 256 / 256 % 256) = p6
  generalize ps_8 (n / 256 / 256 / 256 / 256 / 256 / 256 / 256 % 256) = p7
  intro q0 q1 q2 q3 q4 q5 q6 q7
  exact ps_fin q0 q1 q2 q3 q4 q5 q6 q7
theorem ps_lt {c : Nat} {j : Nat} (hc : c < 256) : ps_m c j < 256 ^ j := by
  induction j with
  | zero => exact Nat.one_pos
  | succ j ih =>
    show c + 256 * ps_m c j < 256 ^ (j + 1)
    rw [Nat.pow_succ]
    omega
