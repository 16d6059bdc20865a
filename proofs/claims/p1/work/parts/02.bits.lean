theorem ts_nf {x : Bool} (h : ¬ x = false) : x = true := by cases x <;> first | rfl | exact absurd rfl h
theorem ts_nt {x : Bool} (h : ¬ x = true) : x = false := by cases x <;> first | rfl | exact absurd rfl h
theorem wb_tb (n : Nat) : (lN n).toBitVec = BitVec.ofNat 64 n := rfl
theorem wb_inj {a b : Int64} (h : a.toBitVec = b.toBitVec) : a = b := Int64.toBitVec_inj.mp h
theorem wb_tn {n : Nat} (h : n < 2 ^ 64) : (lN n).toBitVec.toNat = n := by rw [wb_tb, BitVec.toNat_ofNat, Nat.mod_eq_of_lt h]
theorem wb_of (x : Int64) : ∃ n, n < 2 ^ 64 ∧ x = lN n := ⟨x.toBitVec.toNat, x.toBitVec.isLt, wb_inj (by rw [wb_tb]; simp)⟩
theorem wb_of32 (x : Int32) : ∃ n, n < 2 ^ 32 ∧ x = nI n := ⟨x.toBitVec.toNat, x.toBitVec.isLt, Int32.toBitVec_inj.mp (by show _ = BitVec.ofNat 32 _; simp)⟩
theorem wb_c : ∀ k, k < 64 → ((nI k).toInt64 &&& 63) = lN k := by decide +kernel
theorem wb_cu : ∀ k, k < 64 → ((nI k).toInt64.toUInt64 &&& Int64.toUInt64 63) = UInt64.ofNat k := by decide +kernel
theorem wb_sm : ∀ k, k < 64 → (BitVec.ofNat 64 k).smod 64 = BitVec.ofNat 64 k := by decide +kernel
theorem wb_pw {a b : Nat} (h : a ≤ b) : 2 ^ b = 2 ^ a * 2 ^ (b - a) := by rw [← Nat.pow_add]; congr 1; omega
theorem wb_lt2 {a b : Nat} (h : a < b) : 2 ^ a < 2 ^ b := Nat.pow_lt_pow_right (by decide) h
theorem wb_mod (n : Nat) : lN n = lN (n % 2 ^ 64) := wb_inj (by rw [wb_tb, wb_tb]; apply BitVec.eq_of_toNat_eq; rw [BitVec.toNat_ofNat, BitVec.toNat_ofNat, Nat.mod_mod])
theorem wb_shr {n k : Nat} (hn : n < 2 ^ 64) (hk : k < 64) : ((lN n).toUInt64 >>> ((nI k).toInt64.toUInt64 &&& Int64.toUInt64 63)).toInt64 = lN (n / 2 ^ k) := by
  rw [wb_cu k hk]
  apply wb_inj
  apply BitVec.eq_of_toNat_eq
  show ((lN n).toUInt64 >>> UInt64.ofNat k).toNat = (BitVec.ofNat 64 _).toNat
  have h1 : (UInt64.ofNat k).toNat = k := by
    show (BitVec.ofNat 64 k).toNat = k
    rw [BitVec.toNat_ofNat, Nat.mod_eq_of_lt (by omega)]
  have h2 : (lN n).toUInt64.toNat = n := wb_tn hn
  rw [UInt64.toNat_shiftRight, h1, h2, Nat.mod_eq_of_lt hk, Nat.shiftRight_eq_div_pow, BitVec.toNat_ofNat, Nat.mod_eq_of_lt (Nat.lt_of_le_of_lt (Nat.div_le_self _ _) hn)]
theorem wb_shl (n : Nat) {k : Nat} (hk : k < 64) : lN n <<< ((nI k).toInt64 &&& 63) = lN (n * 2 ^ k) := by
  rw [wb_c k hk]
  apply wb_inj
  rw [Int64.toBitVec_shiftLeft, wb_tb, wb_tb, wb_tb, wb_sm k hk]
  apply BitVec.eq_of_toNat_eq
  rw [BitVec.shiftLeft_eq', BitVec.toNat_shiftLeft, BitVec.toNat_ofNat, BitVec.toNat_ofNat, BitVec.toNat_ofNat, Nat.mod_eq_of_lt (show k < 2 ^ 64 by omega), Nat.shiftLeft_eq, Nat.mul_mod, Nat.mod_mod, ← Nat.mul_mod]
theorem wb_and {a b : Nat} (ha : a < 2 ^ 64) (hb : b < 2 ^ 64) : lN a &&& lN b = lN (a &&& b) := by
  apply wb_inj
  rw [Int64.toBitVec_and, wb_tb, wb_tb, wb_tb]
  apply BitVec.eq_of_toNat_eq
  rw [BitVec.toNat_and, BitVec.toNat_ofNat, BitVec.toNat_ofNat, BitVec.toNat_ofNat, Nat.mod_eq_of_lt ha, Nat.mod_eq_of_lt hb, Nat.mod_eq_of_lt (Nat.and_lt_two_pow _ hb)]
theorem wb_or {a b : Nat} (ha : a < 2 ^ 64) (hb : b < 2 ^ 64) : lN a ||| lN b = lN (a ||| b) := by
  apply wb_inj
  rw [Int64.toBitVec_or, wb_tb, wb_tb, wb_tb]
  apply BitVec.eq_of_toNat_eq
  rw [BitVec.toNat_or, BitVec.toNat_ofNat, BitVec.toNat_ofNat, BitVec.toNat_ofNat, Nat.mod_eq_of_lt ha, Nat.mod_eq_of_lt hb, Nat.mod_eq_of_lt (Nat.or_lt_two_pow ha hb)]
theorem wb_mask {n k : Nat} (hn : n < 2 ^ 64) (hk : k < 64) : lN n &&& lN (2 ^ k - 1) = lN (n % 2 ^ k) := by
  rw [wb_and hn (by have := wb_lt2 hk; omega), Nat.and_two_pow_sub_one_eq_mod]
theorem wb_a1 {n : Nat} (hn : n < 2 ^ 64) : lN n &&& 1 = lN (n % 2) := wb_mask (k := 1) hn (by decide)
theorem wb_bit {n k : Nat} (hn : n < 2 ^ 64) (hk : k < 64) : ((lN n).toUInt64 >>> ((nI k).toInt64.toUInt64 &&& Int64.toUInt64 63)).toInt64 &&& 1 = lN (n / 2 ^ k % 2) := by
  rw [wb_shr hn hk, wb_a1 (Nat.lt_of_le_of_lt (Nat.div_le_self _ _) hn)]
/-- bit i of a long -/
def tb (x : Int64) (i : Nat) : Bool := x.toBitVec.getLsbD i
theorem tb_ext {x y : Int64} (h : ∀ i, i < 64 → tb x i = tb y i) : x = y := Int64.toBitVec_inj.mp (BitVec.eq_of_getLsbD_eq fun i hi => h i hi)
theorem tb_big {x : Int64} {i : Nat} (h : 64 ≤ i) : tb x i = false := BitVec.getLsbD_of_ge _ _ h
theorem tb_lt {x : Int64} {i : Nat} (h : tb x i = true) : i < 64 := by
  rcases Nat.lt_or_ge i 64 with q | q
  · exact q
  · rw [tb_big q] at h; cases h
theorem tb_and (x y : Int64) (i : Nat) : tb (x &&& y) i = (tb x i && tb y i) := by
  unfold tb; rw [Int64.toBitVec_and, BitVec.getLsbD_and]
theorem tb_or (x y : Int64) (i : Nat) : tb (x ||| y) i = (tb x i || tb y i) := by
  unfold tb; rw [Int64.toBitVec_or, BitVec.getLsbD_or]
theorem tb_xor (x y : Int64) (i : Nat) : tb (x ^^^ y) i = (tb x i ^^ tb y i) := by
  unfold tb; rw [Int64.toBitVec_xor, BitVec.getLsbD_xor]
theorem tb_lN {n i : Nat} (hi : i < 64) : tb (lN n) i = n.testBit i := by
  unfold tb; rw [wb_tb, BitVec.getLsbD_ofNat]; simp [hi]
theorem tb_0 (i : Nat) : tb 0 i = false := by
  rcases Nat.lt_or_ge i 64 with q | q
  · rw [show (0 : Int64) = lN 0 from rfl, tb_lN q]; simp
  · exact tb_big q
theorem tb_m1 {i : Nat} (hi : i < 64) : tb (-1) i = true := by
  have h : ∀ i, i < 64 → tb (-1) i = true := by decide +kernel
  exact h i hi
theorem tb_not (x : Int64) {i : Nat} (hi : i < 64) : tb (x ^^^ (-1)) i = !tb x i := by
  rw [tb_xor, tb_m1 hi]; cases tb x i <;> rfl
theorem tb_andn (x y : Int64) (i : Nat) : tb (x &&& (y ^^^ (-1))) i = (tb x i && !tb y i) := by
  rcases Nat.lt_or_ge i 64 with q | q
  · rw [tb_and, tb_not _ q]
  · rw [tb_big q, tb_big q]; rfl
theorem tb_eq0 {x : Int64} : x = 0 ↔ ∀ i, i < 64 → tb x i = false := by
  constructor
  · intro h i _; rw [h, tb_0]
  · intro h; exact tb_ext fun i hi => by rw [h i hi, tb_0]
theorem tb_ne0 {x : Int64} : ¬ x = 0 ↔ ∃ i, i < 64 ∧ tb x i = true := by
  constructor
  · intro h
    refine Classical.byContradiction fun hn => h (tb_eq0.mpr fun i hi => ?_)
    cases hb : tb x i with
    | false => rfl
    | true => exact absurd ⟨i, hi, hb⟩ hn
  · rintro ⟨i, hi, hb⟩ h
    rw [h, tb_0] at hb; cases hb
/-- the long with bit k alone, as the machine makes it -/
def bt (k : Nat) : Int64 := (1 : Int64) <<< ((nI k).toInt64 &&& 63)
theorem bt_lN {k : Nat} (hk : k < 64) : bt k = lN (2 ^ k) := by
  unfold bt; rw [show (1 : Int64) = lN 1 from rfl, wb_shl 1 hk, Nat.one_mul]
theorem tb_bt {k : Nat} (hk : k < 64) (i : Nat) : tb (bt k) i = decide (i = k) := by
  rcases Nat.lt_or_ge i 64 with q | q
  · rw [bt_lN hk, tb_lN q, Nat.testBit_two_pow]
    by_cases h : k = i
    · simp [h]
    · simp [h, Ne.symm h]
  · rw [tb_big q]; simp; omega
theorem tb_has (x : Int64) {k : Nat} (hk : k < 64) : (x &&& bt k) = 0 ↔ tb x k = false := by
  constructor
  · intro h
    have h2 := tb_eq0.mp h k hk
    rw [tb_and, tb_bt hk] at h2
    simpa using h2
  · intro h
    refine tb_eq0.mpr fun i _ => ?_
    rw [tb_and, tb_bt hk]
    by_cases hi : i = k
    · subst hi; rw [h]; rfl
    · simp [hi]
/-- how many of the places below n are set -/
def pcn (g : Nat → Bool) : Nat → Nat
  | 0 => 0
  | n + 1 => pcn g n + (if g n = true then 1 else 0)
theorem pcn_le (g : Nat → Bool) : ∀ n, pcn g n ≤ n
  | 0 => Nat.le_refl 0
  | n + 1 => by have := pcn_le g n; unfold pcn; split <;> omega
theorem pcn_congr {g h : Nat → Bool} : ∀ {n : Nat}, (∀ i, i < n → g i = h i) → pcn g n = pcn h n
  | 0, _ => rfl
  | n + 1, e => by
    unfold pcn
    rw [pcn_congr (n := n) fun i hi => e i (by omega), e n (by omega)]
theorem pcn_add (g : Nat → Bool) (a : Nat) : ∀ b, pcn g (a + b) = pcn g a + pcn (fun i => g (a + i)) b
  | 0 => by simp [pcn]
  | b + 1 => by
    show pcn g (a + b) + (if g (a + b) = true then 1 else 0) = pcn g a + (pcn (fun i => g (a + i)) b + (if g (a + b) = true then 1 else 0))
    rw [pcn_add g a b, Nat.add_assoc]
theorem pcn_below (k : Nat) : ∀ n, k ≤ n → pcn (fun i => decide (i < k)) n = k
  | 0, h => by simp [pcn]; omega
  | n + 1, h => by
    rcases Nat.lt_or_ge n k with q | q
    · have e : k = n + 1 := by omega
      subst e
      have : ∀ m, m ≤ n + 1 → pcn (fun i => decide (i < n + 1)) m = m := by
        intro m
        induction m with
        | zero => intro _; rfl
        | succ m ih =>
          intro hm
          unfold pcn
          rw [ih (by omega)]
          simp; omega
      exact this (n + 1) (Nat.le_refl _)
    · unfold pcn
      rw [pcn_below k n q]
      simp; omega
theorem pcn_zero {g : Nat → Bool} : ∀ {n : Nat}, (∀ i, i < n → g i = false) → pcn g n = 0
  | 0, _ => rfl
  | n + 1, e => by
    unfold pcn
    rw [pcn_zero (n := n) fun i hi => e i (by omega), e n (by omega)]; rfl
theorem pcn_full {g : Nat → Bool} : ∀ {n : Nat}, pcn g n = n → ∀ i, i < n → g i = true
  | 0, _, i, hi => absurd hi (by omega)
  | n + 1, e, i, hi => by
    unfold pcn at e
    have hle := pcn_le g n
    cases hb : g n with
    | false => rw [hb] at e; simp at e; omega
    | true =>
      rw [hb] at e; simp at e
      rcases Nat.lt_or_ge i n with q | q
      · exact pcn_full e i q
      · have : i = n := by omega
        subst this; exact hb
theorem pcn_set {g h : Nat → Bool} {k : Nat} : ∀ {n : Nat}, k < n → g k = false → h k = true → (∀ i, i ≠ k → h i = g i) → pcn h n = pcn g n + 1
  | 0, hk, _, _, _ => absurd hk (by omega)
  | n + 1, hk, hg, hh, e => by
    unfold pcn
    rcases Nat.lt_or_ge k n with q | q
    · rw [pcn_set q hg hh e, e n (by omega)]; omega
    · have : k = n := by omega
      subst this
      rw [hg, hh, pcn_congr (g := h) (h := g) fun i hi => e i (by omega)]; simp
/-- a number that isn't 0: its lowest bit -/
theorem low_nat : ∀ n : Nat, 0 < n → ∃ k a, n = 2 ^ (k + 1) * a + 2 ^ k := by
  intro n
  induction n using Nat.strongRecOn with
  | ind n ih =>
    intro hn
    rcases Nat.mod_two_eq_zero_or_one n with h | h
    · obtain ⟨k, a, e⟩ := ih (n / 2) (by omega) (by omega)
      refine ⟨k + 1, a, ?_⟩
      have h2 : n = 2 * (n / 2) := by omega
      rw [h2, e, Nat.pow_succ 2 (k + 1), Nat.pow_succ 2 k]
      rw [Nat.mul_add, Nat.mul_comm 2 (2 ^ k), Nat.mul_comm (2 ^ k * 2) 2, ← Nat.mul_assoc, Nat.mul_assoc 2 (2 ^ k * 2) a, Nat.mul_comm 2 (2 ^ k * 2 * a), Nat.mul_assoc (2 ^ k * 2) a 2, Nat.mul_comm a 2, ← Nat.mul_assoc (2 ^ k * 2) 2 a]
    · exact ⟨0, n / 2, by omega⟩
theorem low_spec (x : Int64) (hx : ¬ x = 0) : ∃ k, k < 64 ∧ tb x k = true ∧ (∀ j, j < k → tb x j = false) ∧ (x &&& -x) - 1 = lN (2 ^ k - 1) ∧ (∀ i, tb (x &&& (x - 1)) i = (tb x i && decide (i ≠ k))) := by
  obtain ⟨n, hn, rfl⟩ := wb_of x
  have h0 : 0 < n := by
    rcases Nat.eq_zero_or_pos n with q | q
    · subst q; exact absurd rfl hx
    · exact q
  obtain ⟨k, a, e⟩ := low_nat n h0
  have hkp : 0 < 2 ^ k := Nat.two_pow_pos k
  have hk : k < 64 := by
    rcases Nat.lt_or_ge k 64 with q | q
    · exact q
    · exfalso
      have h1 : 2 ^ 64 ≤ 2 ^ k := Nat.pow_le_pow_right (by decide) q
      have h2 : 2 ^ k ≤ n := by rw [e]; exact Nat.le_add_left _ _
      omega
  have hlt : 2 ^ k < 2 ^ (k + 1) := Nat.pow_lt_pow_right (by decide) (by omega)
  have hp : 2 ^ (k + 1) = 2 * 2 ^ k := by rw [Nat.pow_succ]; omega
  have tn : ∀ i, n.testBit i = if i < k + 1 then decide (k = i) else a.testBit (i - (k + 1)) := by
    intro i
    rw [e, Nat.testBit_two_pow_mul_add a hlt, Nat.testBit_two_pow]
  have e1 : n - 1 = 2 ^ (k + 1) * a + (2 ^ k - 1) := by omega
  have t1 : ∀ i, (n - 1).testBit i = if i < k + 1 then decide (i < k) else a.testBit (i - (k + 1)) := by
    intro i
    rw [e1, Nat.testBit_two_pow_mul_add a (by omega), Nat.testBit_two_pow_sub_one]
  have e64 : 2 ^ 64 = 2 ^ (k + 1) * 2 ^ (63 - k) := by rw [← Nat.pow_add]; congr 1; omega
  have ha : a < 2 ^ (63 - k) := by
    rcases Nat.lt_or_ge a (2 ^ (63 - k)) with q | q
    · exact q
    · exfalso
      have := Nat.mul_le_mul_left (2 ^ (k + 1)) q
      omega
  have em : 2 ^ 64 - n = 2 ^ (k + 1) * (2 ^ (63 - k) - (a + 1)) + 2 ^ k := by
    rw [Nat.mul_sub, Nat.mul_add, ← e64]
    have := Nat.mul_le_mul_left (2 ^ (k + 1)) (show a + 1 ≤ 2 ^ (63 - k) by omega)
    rw [Nat.mul_add, ← e64] at this
    omega
  have tm : ∀ i, (2 ^ 64 - n).testBit i = if i < k + 1 then decide (k = i) else (decide (i - (k + 1) < 63 - k) && !a.testBit (i - (k + 1))) := by
    intro i
    rw [em, Nat.testBit_two_pow_mul_add _ hlt, Nat.testBit_two_pow, Nat.testBit_two_pow_sub_succ ha]
  have hneg : -(lN n) = lN (2 ^ 64 - n) := by
    apply wb_inj
    rw [Int64.toBitVec_neg, wb_tb, wb_tb]
    apply BitVec.eq_of_toNat_eq
    rw [BitVec.toNat_neg, BitVec.toNat_ofNat, BitVec.toNat_ofNat, Nat.mod_eq_of_lt hn]
  have hm1 : lN n - 1 = lN (n - 1) := by
    rw [show (1 : Int64) = lN 1 from rfl, lN_sub (by omega)]
  have hlow : lN n &&& -(lN n) = lN (2 ^ k) := by
    refine tb_ext fun i hi => ?_
    rw [tb_and, hneg, tb_lN hi, tb_lN hi, tb_lN hi, tn, tm, Nat.testBit_two_pow]
    by_cases q : i < k + 1
    · simp [q]
    · have : ¬ k = i := by omega
      simp [q, this]
      cases a.testBit (i - (k + 1)) <;> simp
  refine ⟨k, hk, ?_, ?_, ?_, ?_⟩
  · rw [tb_lN hk, tn]; simp
  · intro j hj
    rw [tb_lN (by omega), tn, if_pos (by omega)]
    simp; omega
  · rw [hlow, show (1 : Int64) = lN 1 from rfl, lN_sub (by omega)]
  · intro i
    rcases Nat.lt_or_ge i 64 with q | q
    · rw [tb_and, hm1, tb_lN q, tb_lN q, tn, t1]
      by_cases h : i < k + 1
      · simp [h]
        by_cases h2 : k = i
        · simp [h2]
        · simp [h2]
      · have : i ≠ k := by omega
        simp [h, this]
    · rw [tb_big q, tb_big q]; rfl
theorem pcn_low {k : Nat} (hk : k < 64) : pcn (tb (lN (2 ^ k - 1))) 64 = k := by
  rw [pcn_congr (h := fun i => decide (i < k)) fun i hi => by rw [tb_lN hi, Nat.testBit_two_pow_sub_one]]
  exact pcn_below k 64 (by omega)
