/-- the tables' words that a callee may be given -/
def gT : List Cond := lw_tbl.filter goodWord
theorem mem_gT {w : Cond} (i : Nat) (h : lw_tbl[i]? = some w) (hg : goodWord w = true) : w ∈ gT := List.mem_filter.mpr ⟨List.mem_of_getElem? h, hg⟩
theorem mem_gT2 {w : Cond} (h : w ∈ lw_tbl) (hg : goodWord w = true) : w ∈ gT := List.mem_filter.mpr ⟨h, hg⟩
theorem gT_good {w : Cond} (h : w ∈ gT) : w ∈ lw_tbl ∧ ((w.onTables && w.keeps) = true ∨ ∃ ty, w = .arrayClass ty) := ⟨(List.mem_filter.mp h).1, good_of_word (List.mem_filter.mp h).2⟩
theorem good_c {w : Cond} (h : w ∈ gT) : GoodIn gT (w :: gT) := fun x hx => by
  rcases List.mem_cons.mp hx with rfl | q
  · exact ⟨h, (gT_good h).2⟩
  · exact ⟨q, (gT_good q).2⟩
theorem good_up {w0 : Cond} {ws : List Cond} (h : GoodIn gT ws) : GoodIn (w0 :: gT) ws := fun x hx => ⟨List.mem_cons_of_mem _ (h x hx).1, (h x hx).2⟩
theorem good_tbl {ws : List Cond} (h : GoodIn gT ws) : GoodIn lw_tbl ws := fun x hx => ⟨(gT_good (h x hx).1).1, (h x hx).2⟩
theorem good_V {own C : String} {idx : Nat} {y : MethodName} {ws : List Cond} (h1 : Cond.methodLink own idx y ∈ gT) (h2 : Cond.instanceMethod y ∈ gT) (h3 : Cond.selects C y y ∈ gT) (h4 : Cond.initialized C ∈ gT) (h5 : GoodIn gT ws) : GoodIn gT (wsV own idx C y ws) := by
  intro x hx
  rcases List.mem_append.mp hx with q | q
  · simp only [List.mem_cons, List.not_mem_nil, or_false] at q
    rcases q with rfl | rfl | rfl | rfl
    · exact ⟨h1, (gT_good h1).2⟩
    · exact ⟨h2, (gT_good h2).2⟩
    · exact ⟨h3, (gT_good h3).2⟩
    · exact ⟨h4, (gT_good h4).2⟩
  · exact h5 x q
theorem good_S {own : String} {idx : Nat} {y : MethodName} {ws : List Cond} (h1 : Cond.methodLink own idx y ∈ gT) (h2 : Cond.static y ∈ gT) (h4 : Cond.initialized y.cls ∈ gT) (h5 : GoodIn gT ws) : GoodIn gT (va_wsS own idx y ws) := by
  intro x hx
  rcases List.mem_append.mp hx with q | q
  · simp only [List.mem_cons, List.not_mem_nil, or_false] at q
    rcases q with rfl | rfl | rfl
    · exact ⟨h1, (gT_good h1).2⟩
    · exact ⟨h2, (gT_good h2).2⟩
    · exact ⟨h4, (gT_good h4).2⟩
  · exact h5 x q
/-- the links among nest mates: they are handed on beside the words -/
def isN : Cond → Bool
  | .fieldLinkNest .. => true
  | .methodLinkNest .. => true
  | _ => false
def nT : List Cond := lw_tbl.filter isN
def NW (U : State) : Prop := ∀ w ∈ nT, va_Nw w U
theorem mem_nT {w : Cond} (i : Nat) (h : lw_tbl[i]? = some w) (hg : isN w = true) : w ∈ nT := List.mem_filter.mpr ⟨List.mem_of_getElem? h, hg⟩
theorem mem_nT2 {w : Cond} (h : w ∈ lw_tbl) (hg : isN w = true) : w ∈ nT := List.mem_filter.mpr ⟨h, hg⟩
theorem NW.warm {s U : State} (hW : s.WarmedH U.vm) (h : NW s) : NW U := by
  intro w hw
  have h1 := h w hw
  have h2 := (List.mem_filter.mp hw).2
  cases w <;> first | exact va_Nw.warmF hW h1 | exact va_Nw.warmM hW h1 | (simp [isN] at h2; done)
theorem NW.same {u U : State} (e : u.vm = U.vm) (h : NW u) : NW U := by
  intro w hw
  have h1 := h w hw
  have h2 := (List.mem_filter.mp hw).2
  cases w <;> first | exact va_Nw.same rfl e h1 | (simp [isN] at h2; done)
theorem NW.use {s : State} {args : Array Value} {w : Cond} (h : NW s) (hw : w ∈ nT) : w.before args s = true := by
  have h1 := h w hw
  have h2 := (List.mem_filter.mp hw).2
  cases w <;> first | exact va_Nw.use rfl h1 | (simp [isN] at h2; done)
theorem ts_nf {x : Bool} (h : ¬ x = false) : x = true := by cases x <;> first | rfl | exact absurd rfl h
theorem ts_nt {x : Bool} (h : ¬ x = true) : x = false := by cases x <;> first | rfl | exact absurd rfl h
theorem wb_tb (n : Nat) : (lN n).toBitVec = BitVec.ofNat 64 n := rfl
theorem wb_inj {a b : Int64} (h : a.toBitVec = b.toBitVec) : a = b := Int64.toBitVec_inj.mp h
theorem wb_tn {n : Nat} (h : n < 2 ^ 64) : (lN n).toBitVec.toNat = n := by rw [wb_tb, BitVec.toNat_ofNat, Nat.mod_eq_of_lt h]
theorem wb_of (x : Int64) : ∃ n, n < 2 ^ 64 ∧ x = lN n := ⟨x.toBitVec.toNat, x.toBitVec.isLt, wb_inj (by rw [wb_tb]; simp)⟩
theorem wb_of32 (x : Int32) : ∃ n, n < 2 ^ 32 ∧ x = nI n := ⟨x.toBitVec.toNat, x.toBitVec.isLt, Int32.toBitVec_inj.mp (by show _ = BitVec.ofNat 32 _; simp)⟩
theorem wb_c : ∀ k, k < 64 → ((nI k).toInt64 &&& 63) = lN k := by decide +kernel
theorem wb_cu : ∀ k, k < 64 → ((nI k).toInt64.toUInt64 &&& Int64.toUInt64 63) = UInt64.ofNat k := by decide +kernel
theorem wb_sm : ∀ k, k < 64 → (BitVec.ofNat 64 k).smod 64 = BitVec.ofNat 64 k := by decide +kernel
theorem wb_pw {a b : Nat} (h : a ≤ b) : 2 ^ b = 2 ^ a * 2 ^ (b - a) := by rw [← Nat.pow_add]; congr 1; omega
theorem wb_lt2 {a b : Nat} (h : a < b) : 2 ^ a < 2 ^ b := Nat.pow_lt_pow_right (by decide) h
theorem wb_mod (n : Nat) : lN n = lN (n % 2 ^ 64) := wb_inj (by rw [wb_tb, wb_tb]; apply BitVec.eq_of_toNat_eq; rw [BitVec.toNat_ofNat, BitVec.toNat_ofNat, Nat.mod_mod])
theorem wb_shr {n k : Nat} (hn : n < 2 ^ 64) (hk : k < 64) : ((lN n).toUInt64 >>> ((nI k).toInt64.toUInt64 &&& Int64.toUInt64 63)).toInt64 = lN (n / 2 ^ k) := by
  rw [wb_cu k hk]
  apply wb_inj
  apply BitVec.eq_of_toNat_eq
  show ((lN n).toUInt64 >>> UInt64.ofNat k).toNat = (BitVec.ofNat 64 _).toNat
  have h1 : (UInt64.ofNat k).toNat = k := by
    show (BitVec.ofNat 64 k).toNat = k
    rw [BitVec.toNat_ofNat, Nat.mod_eq_of_lt (by omega)]
  have h2 : (lN n).toUInt64.toNat = n := wb_tn hn
  rw [UInt64.toNat_shiftRight, h1, h2, Nat.mod_eq_of_lt hk, Nat.shiftRight_eq_div_pow, BitVec.toNat_ofNat, Nat.mod_eq_of_lt (Nat.lt_of_le_of_lt (Nat.div_le_self _ _) hn)]
theorem wb_shl (n : Nat) {k : Nat} (hk : k < 64) : lN n <<< ((nI k).toInt64 &&& 63) = lN (n * 2 ^ k) := by
  rw [wb_c k hk]
  apply wb_inj
  rw [Int64.toBitVec_shiftLeft, wb_tb, wb_tb, wb_tb, wb_sm k hk]
  apply BitVec.eq_of_toNat_eq
  rw [BitVec.shiftLeft_eq', BitVec.toNat_shiftLeft, BitVec.toNat_ofNat, BitVec.toNat_ofNat, BitVec.toNat_ofNat, Nat.mod_eq_of_lt (show k < 2 ^ 64 by omega), Nat.shiftLeft_eq, Nat.mul_mod, Nat.mod_mod, ← Nat.mul_mod]
theorem wb_and {a b : Nat} (ha : a < 2 ^ 64) (hb : b < 2 ^ 64) : lN a &&& lN b = lN (a &&& b) := by
  apply wb_inj
  rw [Int64.toBitVec_and, wb_tb, wb_tb, wb_tb]
  apply BitVec.eq_of_toNat_eq
  rw [BitVec.toNat_and, BitVec.toNat_ofNat, BitVec.toNat_ofNat, BitVec.toNat_ofNat, Nat.mod_eq_of_lt ha, Nat.mod_eq_of_lt hb, Nat.mod_eq_of_lt (Nat.and_lt_two_pow _ hb)]
theorem wb_or {a b : Nat} (ha : a < 2 ^ 64) (hb : b < 2 ^ 64) : lN a ||| lN b = lN (a ||| b) := by
  apply wb_inj
  rw [Int64.toBitVec_or, wb_tb, wb_tb, wb_tb]
  apply BitVec.eq_of_toNat_eq
  rw [BitVec.toNat_or, BitVec.toNat_ofNat, BitVec.toNat_ofNat, BitVec.toNat_ofNat, Nat.mod_eq_of_lt ha, Nat.mod_eq_of_lt hb, Nat.mod_eq_of_lt (Nat.or_lt_two_pow ha hb)]
theorem wb_mask {n k : Nat} (hn : n < 2 ^ 64) (hk : k < 64) : lN n &&& lN (2 ^ k - 1) = lN (n % 2 ^ k) := by
  rw [wb_and hn (by have := wb_lt2 hk; omega), Nat.and_two_pow_sub_one_eq_mod]
theorem wb_a1 {n : Nat} (hn : n < 2 ^ 64) : lN n &&& 1 = lN (n % 2) := wb_mask (k := 1) hn (by decide)
theorem wb_bit {n k : Nat} (hn : n < 2 ^ 64) (hk : k < 64) : ((lN n).toUInt64 >>> ((nI k).toInt64.toUInt64 &&& Int64.toUInt64 63)).toInt64 &&& 1 = lN (n / 2 ^ k % 2) := by
  rw [wb_shr hn hk, wb_a1 (Nat.lt_of_le_of_lt (Nat.div_le_self _ _) hn)]
/-- bit i of a long -/
def tb (x : Int64) (i : Nat) : Bool := x.toBitVec.getLsbD i
theorem tb_ext {x y : Int64} (h : ∀ i, i < 64 → tb x i = tb y i) : x = y := Int64.toBitVec_inj.mp (BitVec.eq_of_getLsbD_eq fun i hi => h i hi)
theorem tb_big {x : Int64} {i : Nat} (h : 64 ≤ i) : tb x i = false := BitVec.getLsbD_of_ge _ _ h
theorem tb_lt {x : Int64} {i : Nat} (h : tb x i = true) : i < 64 := by
  rcases Nat.lt_or_ge i 64 with q | q
  · exact q
  · rw [tb_big q] at h; cases h
theorem tb_and (x y : Int64) (i : Nat) : tb (x &&& y) i = (tb x i && tb y i) := by
  unfold tb; rw [Int64.toBitVec_and, BitVec.getLsbD_and]
theorem tb_or (x y : Int64) (i : Nat) : tb (x ||| y) i = (tb x i || tb y i) := by
  unfold tb; rw [Int64.toBitVec_or, BitVec.getLsbD_or]
theorem tb_xor (x y : Int64) (i : Nat) : tb (x ^^^ y) i = (tb x i ^^ tb y i) := by
  unfold tb; rw [Int64.toBitVec_xor, BitVec.getLsbD_xor]
theorem tb_lN {n i : Nat} (hi : i < 64) : tb (lN n) i = n.testBit i := by
  unfold tb; rw [wb_tb, BitVec.getLsbD_ofNat]; simp [hi]
theorem tb_0 (i : Nat) : tb 0 i = false := by
  rcases Nat.lt_or_ge i 64 with q | q
  · rw [show (0 : Int64) = lN 0 from rfl, tb_lN q]; simp
  · exact tb_big q
theorem tb_m1 {i : Nat} (hi : i < 64) : tb (-1) i = true := by
  have h : ∀ i, i < 64 → tb (-1) i = true := by decide +kernel
  exact h i hi
theorem tb_not (x : Int64) {i : Nat} (hi : i < 64) : tb (x ^^^ (-1)) i = !tb x i := by
  rw [tb_xor, tb_m1 hi]; cases tb x i <;> rfl
theorem tb_andn (x y : Int64) (i : Nat) : tb (x &&& (y ^^^ (-1))) i = (tb x i && !tb y i) := by
  rcases Nat.lt_or_ge i 64 with q | q
  · rw [tb_and, tb_not _ q]
  · rw [tb_big q, tb_big q]; rfl
theorem tb_eq0 {x : Int64} : x = 0 ↔ ∀ i, i < 64 → tb x i = false := by
  constructor
  · intro h i _; rw [h, tb_0]
  · intro h; exact tb_ext fun i hi => by rw [h i hi, tb_0]
theorem tb_ne0 {x : Int64} : ¬ x = 0 ↔ ∃ i, i < 64 ∧ tb x i = true := by
  constructor
  · intro h
    refine Classical.byContradiction fun hn => h (tb_eq0.mpr fun i hi => ?_)
    cases hb : tb x i with
    | false => rfl
    | true => exact absurd ⟨i, hi, hb⟩ hn
  · rintro ⟨i, hi, hb⟩ h
    rw [h, tb_0] at hb; cases hb
/-- the long with bit k alone, as the machine makes it -/
def bt (k : Nat) : Int64 := (1 : Int64) <<< ((nI k).toInt64 &&& 63)
theorem bt_lN {k : Nat} (hk : k < 64) : bt k = lN (2 ^ k) := by
  unfold bt; rw [show (1 : Int64) = lN 1 from rfl, wb_shl 1 hk, Nat.one_mul]
theorem tb_bt {k : Nat} (hk : k < 64) (i : Nat) : tb (bt k) i = decide (i = k) := by
  rcases Nat.lt_or_ge i 64 with q | q
  · rw [bt_lN hk, tb_lN q, Nat.testBit_two_pow]
    by_cases h : k = i
    · simp [h]
    · simp [h, Ne.symm h]
  · rw [tb_big q]; simp; omega
theorem tb_has (x : Int64) {k : Nat} (hk : k < 64) : (x &&& bt k) = 0 ↔ tb x k = false := by
  constructor
  · intro h
    have h2 := tb_eq0.mp h k hk
    rw [tb_and, tb_bt hk] at h2
    simpa using h2
  · intro h
    refine tb_eq0.mpr fun i _ => ?_
    rw [tb_and, tb_bt hk]
    by_cases hi : i = k
    · subst hi; rw [h]; rfl
    · simp [hi]
/-- how many of the places below n are set -/
def pcn (g : Nat → Bool) : Nat → Nat
  | 0 => 0
  | n + 1 => pcn g n + (if g n = true then 1 else 0)
theorem pcn_le (g : Nat → Bool) : ∀ n, pcn g n ≤ n
  | 0 => Nat.le_refl 0
  | n + 1 => by have := pcn_le g n; unfold pcn; split <;> omega
theorem pcn_congr {g h : Nat → Bool} : ∀ {n : Nat}, (∀ i, i < n → g i = h i) → pcn g n = pcn h n
  | 0, _ => rfl
  | n + 1, e => by
    unfold pcn
    rw [pcn_congr (n := n) fun i hi => e i (by omega), e n (by omega)]
theorem pcn_add (g : Nat → Bool) (a : Nat) : ∀ b, pcn g (a + b) = pcn g a + pcn (fun i => g (a + i)) b
  | 0 => by simp [pcn]
  | b + 1 => by
    show pcn g (a + b) + (if g (a + b) = true then 1 else 0) = pcn g a + (pcn (fun i => g (a + i)) b + (if g (a + b) = true then 1 else 0))
    rw [pcn_add g a b, Nat.add_assoc]
theorem pcn_below (k : Nat) : ∀ n, k ≤ n → pcn (fun i => decide (i < k)) n = k
  | 0, h => by simp [pcn]; omega
  | n + 1, h => by
    rcases Nat.lt_or_ge n k with q | q
    · have e : k = n + 1 := by omega
      subst e
      have : ∀ m, m ≤ n + 1 → pcn (fun i => decide (i < n + 1)) m = m := by
        intro m
        induction m with
        | zero => intro _; rfl
        | succ m ih =>
          intro hm
          unfold pcn
          rw [ih (by omega)]
          simp; omega
      exact this (n + 1) (Nat.le_refl _)
    · unfold pcn
      rw [pcn_below k n q]
      simp; omega
theorem pcn_zero {g : Nat → Bool} : ∀ {n : Nat}, (∀ i, i < n → g i = false) → pcn g n = 0
  | 0, _ => rfl
  | n + 1, e => by
    unfold pcn
    rw [pcn_zero (n := n) fun i hi => e i (by omega), e n (by omega)]; rfl
theorem pcn_full {g : Nat → Bool} : ∀ {n : Nat}, pcn g n = n → ∀ i, i < n → g i = true
  | 0, _, i, hi => absurd hi (by omega)
  | n + 1, e, i, hi => by
    unfold pcn at e
    have hle := pcn_le g n
    cases hb : g n with
    | false => rw [hb] at e; simp at e; omega
    | true =>
      rw [hb] at e; simp at e
      rcases Nat.lt_or_ge i n with q | q
      · exact pcn_full e i q
      · have : i = n := by omega
        subst this; exact hb
theorem pcn_set {g h : Nat → Bool} {k : Nat} : ∀ {n : Nat}, k < n → g k = false → h k = true → (∀ i, i ≠ k → h i = g i) → pcn h n = pcn g n + 1
  | 0, hk, _, _, _ => absurd hk (by omega)
  | n + 1, hk, hg, hh, e => by
    unfold pcn
    rcases Nat.lt_or_ge k n with q | q
    · rw [pcn_set q hg hh e, e n (by omega)]; omega
    · have : k = n := by omega
      subst this
      rw [hg, hh, pcn_congr (g := h) (h := g) fun i hi => e i (by omega)]; simp
/-- a number that isn't 0: its lowest bit -/
theorem low_nat : ∀ n : Nat, 0 < n → ∃ k a, n = 2 ^ (k + 1) * a + 2 ^ k := by
  intro n
  induction n using Nat.strongRecOn with
  | ind n ih =>
    intro hn
    rcases Nat.mod_two_eq_zero_or_one n with h | h
    · obtain ⟨k, a, e⟩ := ih (n / 2) (by omega) (by omega)
      refine ⟨k + 1, a, ?_⟩
      have h2 : n = 2 * (n / 2) := by omega
      rw [h2, e, Nat.pow_succ 2 (k + 1), Nat.pow_succ 2 k]
      rw [Nat.mul_add, Nat.mul_comm 2 (2 ^ k), Nat.mul_comm (2 ^ k * 2) 2, ← Nat.mul_assoc, Nat.mul_assoc 2 (2 ^ k * 2) a, Nat.mul_comm 2 (2 ^ k * 2 * a), Nat.mul_assoc (2 ^ k * 2) a 2, Nat.mul_comm a 2, ← Nat.mul_assoc (2 ^ k * 2) 2 a]
    · exact ⟨0, n / 2, by omega⟩
theorem low_spec (x : Int64) (hx : ¬ x = 0) : ∃ k, k < 64 ∧ tb x k = true ∧ (∀ j, j < k → tb x j = false) ∧ (x &&& -x) - 1 = lN (2 ^ k - 1) ∧ (∀ i, tb (x &&& (x - 1)) i = (tb x i && decide (i ≠ k))) := by
  obtain ⟨n, hn, rfl⟩ := wb_of x
  have h0 : 0 < n := by
    rcases Nat.eq_zero_or_pos n with q | q
    · subst q; exact absurd rfl hx
    · exact q
  obtain ⟨k, a, e⟩ := low_nat n h0
  have hkp : 0 < 2 ^ k := Nat.two_pow_pos k
  have hk : k < 64 := by
    rcases Nat.lt_or_ge k 64 with q | q
    · exact q
    · exfalso
      have h1 : 2 ^ 64 ≤ 2 ^ k := Nat.pow_le_pow_right (by decide) q
      have h2 : 2 ^ k ≤ n := by rw [e]; exact Nat.le_add_left _ _
      omega
  have hlt : 2 ^ k < 2 ^ (k + 1) := Nat.pow_lt_pow_right (by decide) (by omega)
  have hp : 2 ^ (k + 1) = 2 * 2 ^ k := by rw [Nat.pow_succ]; omega
  have tn : ∀ i, n.testBit i = if i < k + 1 then decide (k = i) else a.testBit (i - (k + 1)) := by
    intro i
    rw [e, Nat.testBit_two_pow_mul_add a hlt, Nat.testBit_two_pow]
  have e1 : n - 1 = 2 ^ (k + 1) * a + (2 ^ k - 1) := by omega
  have t1 : ∀ i, (n - 1).testBit i = if i < k + 1 then decide (i < k) else a.testBit (i - (k + 1)) := by
    intro i
    rw [e1, Nat.testBit_two_pow_mul_add a (by omega), Nat.testBit_two_pow_sub_one]
  have e64 : 2 ^ 64 = 2 ^ (k + 1) * 2 ^ (63 - k) := by rw [← Nat.pow_add]; congr 1; omega
  have ha : a < 2 ^ (63 - k) := by
    rcases Nat.lt_or_ge a (2 ^ (63 - k)) with q | q
    · exact q
    · exfalso
      have := Nat.mul_le_mul_left (2 ^ (k + 1)) q
      omega
  have em : 2 ^ 64 - n = 2 ^ (k + 1) * (2 ^ (63 - k) - (a + 1)) + 2 ^ k := by
    rw [Nat.mul_sub, Nat.mul_add, ← e64]
    have := Nat.mul_le_mul_left (2 ^ (k + 1)) (show a + 1 ≤ 2 ^ (63 - k) by omega)
    rw [Nat.mul_add, ← e64] at this
    omega
  have tm : ∀ i, (2 ^ 64 - n).testBit i = if i < k + 1 then decide (k = i) else (decide (i - (k + 1) < 63 - k) && !a.testBit (i - (k + 1))) := by
    intro i
    rw [em, Nat.testBit_two_pow_mul_add _ hlt, Nat.testBit_two_pow, Nat.testBit_two_pow_sub_succ ha]
  have hneg : -(lN n) = lN (2 ^ 64 - n) := by
    apply wb_inj
    rw [Int64.toBitVec_neg, wb_tb, wb_tb]
    apply BitVec.eq_of_toNat_eq
    rw [BitVec.toNat_neg, BitVec.toNat_ofNat, BitVec.toNat_ofNat, Nat.mod_eq_of_lt hn]
  have hm1 : lN n - 1 = lN (n - 1) := by
    rw [show (1 : Int64) = lN 1 from rfl, lN_sub (by omega)]
  have hlow : lN n &&& -(lN n) = lN (2 ^ k) := by
    refine tb_ext fun i hi => ?_
    rw [tb_and, hneg, tb_lN hi, tb_lN hi, tb_lN hi, tn, tm, Nat.testBit_two_pow]
    by_cases q : i < k + 1
    · simp [q]
    · have : ¬ k = i := by omega
      simp [q, this]
      cases a.testBit (i - (k + 1)) <;> simp
  refine ⟨k, hk, ?_, ?_, ?_, ?_⟩
  · rw [tb_lN hk, tn]; simp
  · intro j hj
    rw [tb_lN (by omega), tn, if_pos (by omega)]
    simp; omega
  · rw [hlow, show (1 : Int64) = lN 1 from rfl, lN_sub (by omega)]
  · intro i
    rcases Nat.lt_or_ge i 64 with q | q
    · rw [tb_and, hm1, tb_lN q, tb_lN q, tn, t1]
      by_cases h : i < k + 1
      · simp [h]
        by_cases h2 : k = i
        · simp [h2]
        · simp [h2]
      · have : i ≠ k := by omega
        simp [h, this]
    · rw [tb_big q, tb_big q]; rfl
theorem pcn_low {k : Nat} (hk : k < 64) : pcn (tb (lN (2 ^ k - 1))) 64 = k := by
  rw [pcn_congr (h := fun i => decide (i < k)) fun i hi => by rw [tb_lN hi, Nat.testBit_two_pow_sub_one]]
  exact pcn_below k 64 (by omega)
theorem ps_and {b c : Nat} (r M : Nat) (hb : b < 256) (hc : c < 256) : (b + 256 * r) &&& (c + 256 * M) = (b &&& c) + 256 * (r &&& M) := by
  have hbc : b &&& c < 256 := Nat.lt_of_le_of_lt Nat.and_le_left hb
  apply Nat.eq_of_testBit_eq
  intro i
  rw [Nat.testBit_and, Nat.add_comm b, Nat.add_comm c, Nat.add_comm (b &&& c), show (256 : Nat) = 2 ^ 8 from rfl, Nat.testBit_two_pow_mul_add r hb, Nat.testBit_two_pow_mul_add M hc, Nat.testBit_two_pow_mul_add _ hbc]
  split
  · rw [Nat.testBit_and]
  · rw [Nat.testBit_and]
def ps_f1 (b : Nat) : Nat := b - ((b / 2) &&& 85)
def ps_f2 (b : Nat) : Nat := (b &&& 51) + ((b / 4) &&& 51)
def ps_f3 (b : Nat) : Nat := (b + b / 16) &&& 15
def ps_F1 (M n : Nat) : Nat := n - ((n / 2) &&& M)
def ps_F2 (M n : Nat) : Nat := (n &&& M) + ((n / 4) &&& M)
def ps_F3 (M n : Nat) : Nat := (n + n / 16) &&& M
def ps_m (c : Nat) : Nat → Nat
  | 0 => 0
  | j + 1 => c + 256 * ps_m c j
def ps_8 (b : Nat) : Nat := pcn b.testBit 8
theorem ps_b1 : ∀ b, b < 256 → ∀ t, t < 2 → (b / 2 + 128 * t) &&& 85 = (b / 2) &&& 85 := by decide +kernel
theorem ps_b2 : ∀ b, b < 256 → ∀ t, t < 4 → (b / 4 + 64 * t) &&& 51 = (b / 4) &&& 51 := by decide +kernel
theorem ps_b3 : ∀ b, b < 69 → ∀ t, t < 5 → (b + b / 16 + 16 * t) &&& 15 = (b + b / 16) &&& 15 := by decide +kernel
theorem ps_all : ∀ b, b < 256 → ps_f1 b < 256 ∧ ps_f2 (ps_f1 b) < 69 ∧ ps_f2 (ps_f1 b) % 16 < 5 ∧ ps_f3 (ps_f2 (ps_f1 b)) = ps_8 b ∧ ps_8 b ≤ 8 := by decide +kernel
theorem ps_s1 {b : Nat} (r M : Nat) (hb : b < 256) : ps_F1 (85 + 256 * M) (b + 256 * r) = ps_f1 b + 256 * ps_F1 M r := by
  unfold ps_F1 ps_f1
  have e : (b + 256 * r) / 2 = (b / 2 + 128 * (r % 2)) + 256 * (r / 2) := by omega
  rw [e, ps_and _ _ (by omega) (by decide), ps_b1 b hb _ (Nat.mod_lt _ (by decide))]
  have h1 : (b / 2) &&& 85 ≤ b / 2 := Nat.and_le_left
  have h2 : (r / 2) &&& M ≤ r / 2 := Nat.and_le_left
  omega
theorem ps_s2 {b : Nat} (r M : Nat) (hb : b < 256) : ps_F2 (51 + 256 * M) (b + 256 * r) = ps_f2 b + 256 * ps_F2 M r := by
  unfold ps_F2 ps_f2
  have e : (b + 256 * r) / 4 = (b / 4 + 64 * (r % 4)) + 256 * (r / 4) := by omega
  rw [e, ps_and (b := b) r M hb (by decide), ps_and (b := b / 4 + 64 * (r % 4)) (r / 4) M (by omega) (by decide), ps_b2 b hb _ (Nat.mod_lt _ (by decide))]
  omega
theorem ps_s3 {b : Nat} (r M : Nat) (hb : b < 69) (hr : r % 16 < 5) : ps_F3 (15 + 256 * M) (b + 256 * r) = ps_f3 b + 256 * ps_F3 M r := by
  unfold ps_F3 ps_f3
  have e : b + 256 * r + (b + 256 * r) / 16 = (b + b / 16 + 16 * (r % 16)) + 256 * (r + r / 16) := by omega
  rw [e, ps_and _ _ (by omega) (by decide), ps_b3 b hb _ hr]
def ps_G (j n : Nat) : Nat := ps_F3 (ps_m 15 j) (ps_F2 (ps_m 51 j) (ps_F1 (ps_m 85 j) n))
def ps_T : Nat → Nat → Nat
  | 0, _ => 0
  | j + 1, n => ps_8 (n % 256) + 256 * ps_T j (n / 256)
theorem ps_run : ∀ (j n : Nat), n < 256 ^ j → ps_G j n = ps_T j n ∧ ps_F2 (ps_m 51 j) (ps_F1 (ps_m 85 j) n) % 16 < 5
  | 0, n, h => by
    have : n = 0 := by simpa using h
    subst this
    decide
  | j + 1, n, h => by
    have hr : n / 256 < 256 ^ j := by
      rw [Nat.pow_succ] at h
      exact Nat.div_lt_of_lt_mul (by rw [Nat.mul_comm]; exact h)
    obtain ⟨i1, i2⟩ := ps_run j (n / 256) hr
    have hb : n % 256 < 256 := Nat.mod_lt _ (by decide)
    obtain ⟨a1, a2, a3, a4, -⟩ := ps_all (n % 256) hb
    have e : n = n % 256 + 256 * (n / 256) := by omega
    have e2 : ps_F2 (ps_m 51 (j + 1)) (ps_F1 (ps_m 85 (j + 1)) n) = ps_f2 (ps_f1 (n % 256)) + 256 * ps_F2 (ps_m 51 j) (ps_F1 (ps_m 85 j) (n / 256)) := by
      rw [show ps_m 85 (j + 1) = 85 + 256 * ps_m 85 j from rfl, show ps_m 51 (j + 1) = 51 + 256 * ps_m 51 j from rfl]
      conv => lhs; rw [e]
      rw [ps_s1 _ _ hb, ps_s2 _ _ a1]
    refine ⟨?_, ?_⟩
    · unfold ps_G
      rw [e2, show ps_m 15 (j + 1) = 15 + 256 * ps_m 15 j from rfl, ps_s3 _ _ a2 i2, a4]
      unfold ps_G at i1
      rw [i1]
      rfl
    · rw [e2]; omega
theorem ps_pc : ∀ (j n : Nat), pcn n.testBit (8 * (j + 1)) = ps_8 (n % 256) + pcn (n / 256).testBit (8 * j) := by
  intro j n
  rw [show 8 * (j + 1) = 8 + 8 * j by omega, pcn_add]
  congr 1
  · refine pcn_congr fun i hi => ?_
    rw [show (256 : Nat) = 2 ^ 8 from rfl, Nat.testBit_mod_two_pow]; simp [hi]
  · refine pcn_congr fun i _ => ?_
    rw [show (256 : Nat) = 2 ^ 8 from rfl, Nat.testBit_div_two_pow]
    congr 1 <;> omega
def ps_end (c : Nat) : Nat := ((c + c / 256) + (c + c / 256) / 65536 + ((c + c / 256) + (c + c / 256) / 65536) / 4294967296) % 128
def ps_V : List Nat → Nat
  | [] => 0
  | a :: l => a + 256 * ps_V l
theorem ps_Va : ∀ (l m : List Nat), l.length = m.length → ps_V l + ps_V m = ps_V (List.zipWith (fun a b => a + b) l m)
  | [], [], _ => rfl
  | a :: l, b :: m, h => by
    have := ps_Va l m (by simpa using h)
    show a + 256 * ps_V l + (b + 256 * ps_V m) = a + b + 256 * ps_V (List.zipWith (fun a b => a + b) l m)
    omega
theorem ps_Vd (a : Nat) (l : List Nat) (h : a < 256) : ps_V (a :: l) / 256 = ps_V l := by
  show (a + 256 * ps_V l) / 256 = ps_V l
  omega
theorem ps_V0 (l : List Nat) : ps_V (l ++ [0]) = ps_V l := by
  induction l with
  | nil => rfl
  | cons a l ih => show a + 256 * ps_V (l ++ [0]) = a + 256 * ps_V l; rw [ih]
theorem ps_fin {p0 p1 p2 p3 p4 p5 p6 p7 : Nat} (h0 : p0 ≤ 8) (h1 : p1 ≤ 8) (h2 : p2 ≤ 8) (h3 : p3 ≤ 8) (h4 : p4 ≤ 8) (h5 : p5 ≤ 8) (h6 : p6 ≤ 8) (h7 : p7 ≤ 8) : ps_end (ps_V [p0, p1, p2, p3, p4, p5, p6, p7]) = p0 + (p1 + (p2 + (p3 + (p4 + (p5 + (p6 + (p7 + 0))))))) := by
  have c1 : ps_V [p0, p1, p2, p3, p4, p5, p6, p7] / 256 = ps_V [p1, p2, p3, p4, p5, p6, p7, 0] := (ps_Vd _ _ (by omega)).trans (ps_V0 [p1, p2, p3, p4, p5, p6, p7]).symm
  have c2 : ps_V [p0, p1, p2, p3, p4, p5, p6, p7] + ps_V [p1, p2, p3, p4, p5, p6, p7, 0] = ps_V [p0 + p1, p1 + p2, p2 + p3, p3 + p4, p4 + p5, p5 + p6, p6 + p7, p7 + 0] := ps_Va _ _ rfl
  have c3 : ps_V [p0 + p1, p1 + p2, p2 + p3, p3 + p4, p4 + p5, p5 + p6, p6 + p7, p7 + 0] / 65536 = ps_V [p2 + p3, p3 + p4, p4 + p5, p5 + p6, p6 + p7, p7 + 0, 0, 0] := by
    rw [show (65536 : Nat) = 256 * 256 from rfl, ← Nat.div_div_eq_div_mul, ps_Vd _ _ (by omega), ps_Vd _ _ (by omega)]
    exact ((ps_V0 [p2 + p3, p3 + p4, p4 + p5, p5 + p6, p6 + p7, p7 + 0, 0]).trans (ps_V0 [p2 + p3, p3 + p4, p4 + p5, p5 + p6, p6 + p7, p7 + 0])).symm
  have c4 : ps_V [p0 + p1, p1 + p2, p2 + p3, p3 + p4, p4 + p5, p5 + p6, p6 + p7, p7 + 0] + ps_V [p2 + p3, p3 + p4, p4 + p5, p5 + p6, p6 + p7, p7 + 0, 0, 0] = ps_V [p0 + p1 + (p2 + p3), p1 + p2 + (p3 + p4), p2 + p3 + (p4 + p5), p3 + p4 + (p5 + p6), p4 + p5 + (p6 + p7), p5 + p6 + (p7 + 0), p6 + p7 + 0, p7 + 0 + 0] := ps_Va _ _ rfl
  have c5 : ps_V [p0 + p1 + (p2 + p3), p1 + p2 + (p3 + p4), p2 + p3 + (p4 + p5), p3 + p4 + (p5 + p6), p4 + p5 + (p6 + p7), p5 + p6 + (p7 + 0), p6 + p7 + 0, p7 + 0 + 0] / 4294967296 = ps_V [p4 + p5 + (p6 + p7), p5 + p6 + (p7 + 0), p6 + p7 + 0, p7 + 0 + 0] := by
    rw [show (4294967296 : Nat) = 256 * 256 * 256 * 256 from rfl, ← Nat.div_div_eq_div_mul, ← Nat.div_div_eq_div_mul, ← Nat.div_div_eq_div_mul, ps_Vd _ _ (by omega), ps_Vd _ _ (by omega), ps_Vd _ _ (by omega), ps_Vd _ _ (by omega)]
  unfold ps_end
  rw [c1, c2, c3, c4, c5]
  show (p0 + p1 + (p2 + p3) + 256 * ps_V _ + (p4 + p5 + (p6 + p7) + 256 * ps_V _)) % 128 = _
  generalize ps_V _ = X
  generalize ps_V _ = Y
  rw [show p0 + p1 + (p2 + p3) + 256 * X + (p4 + p5 + (p6 + p7) + 256 * Y) = (p0 + p1 + (p2 + p3) + (p4 + p5 + (p6 + p7))) + 128 * (2 * X + 2 * Y) by omega, Nat.add_mul_mod_self_left, Nat.mod_eq_of_lt (by omega)]
  omega
theorem ps_sw (n : Nat) (h : n < 2 ^ 64) : ps_end (ps_G 8 n) = pcn n.testBit 64 := by
  rw [(ps_run 8 n (by rw [show (256 : Nat) ^ 8 = 2 ^ 64 by decide]; exact h)).1]
  rw [show (64 : Nat) = 8 * (7 + 1) from rfl, ps_pc, ps_pc, ps_pc, ps_pc, ps_pc, ps_pc, ps_pc, ps_pc]
  show ps_end (ps_8 _ + 256 * (ps_8 _ + 256 * (ps_8 _ + 256 * (ps_8 _ + 256 * (ps_8 _ + 256 * (ps_8 _ + 256 * (ps_8 _ + 256 * (ps_8 _ + 256 * 0)))))))) = _
  have q : ∀ m : Nat, ps_8 (m % 256) ≤ 8 := fun m => (ps_all (m % 256) (Nat.mod_lt _ (by decide))).2.2.2.2
  have q0 := q n
  have q1 := q (n / 256)
  have q2 := q (n / 256 / 256)
  have q3 := q (n / 256 / 256 / 256)
  have q4 := q (n / 256 / 256 / 256 / 256)
  have q5 := q (n / 256 / 256 / 256 / 256 / 256)
  have q6 := q (n / 256 / 256 / 256 / 256 / 256 / 256)
  have q7 := q (n / 256 / 256 / 256 / 256 / 256 / 256 / 256)
  revert q0 q1 q2 q3 q4 q5 q6 q7
  generalize ps_8 (n % 256) = p0
  generalize ps_8 (n / 256 % 256) = p1
  generalize ps_8 (n / 256 / 256 % 256) = p2
  generalize ps_8 (n / 256 / 256 / 256 % 256) = p3
  generalize ps_8 (n / 256 / 256 / 256 / 256 % 256) = p4
  generalize ps_8 (n / 256 / 256 / 256 / 256 / 256 % 256) = p5
  generalize ps_8 (n / 256 / 256 / 256 / 256 / 256 / 256 % 256) = p6
  generalize ps_8 (n / 256 / 256 / 256 / 256 / 256 / 256 / 256 % 256) = p7
  intro q0 q1 q2 q3 q4 q5 q6 q7
  exact ps_fin q0 q1 q2 q3 q4 q5 q6 q7
theorem ps_lt {c : Nat} {j : Nat} (hc : c < 256) : ps_m c j < 256 ^ j := by
  induction j with
  | zero => exact Nat.one_pos
  | succ j ih =>
    show c + 256 * ps_m c j < 256 ^ (j + 1)
    rw [Nat.pow_succ]
    omega
/-! flooding: the least set of spaces with the sources in it, closed under the valves that let through -/
def Cl (nV : Nat) (lev : Nat → Int64) (fa fb : Nat → Nat) (L : Nat → Bool) (X : Nat → Prop) : Prop :=
  ∀ v, v < nV → L v = true → (X (fa v) → lev (fb v) ≤ lev (fa v) → X (fb v)) ∧ (X (fb v) → lev (fa v) ≤ lev (fb v) → X (fa v))
def Fl (nV : Nat) (lev : Nat → Int64) (fa fb : Nat → Nat) (L S : Nat → Bool) (s : Nat) : Prop :=
  ∀ X : Nat → Prop, (∀ t, S t = true → X t) → Cl nV lev fa fb L X → X s
theorem Fl.src {nV : Nat} {lev : Nat → Int64} {fa fb : Nat → Nat} {L S : Nat → Bool} {s : Nat} (h : S s = true) : Fl nV lev fa fb L S s := fun _ h1 _ => h1 s h
theorem Fl.cl {nV : Nat} {lev : Nat → Int64} {fa fb : Nat → Nat} {L S : Nat → Bool} : Cl nV lev fa fb L (Fl nV lev fa fb L S) := by
  intro v hv hL
  exact ⟨fun h hl X h1 h2 => (h2 v hv hL).1 (h X h1 h2) hl, fun h hl X h1 h2 => (h2 v hv hL).2 (h X h1 h2) hl⟩
theorem Fl.lt {nV n : Nat} {lev : Nat → Int64} {fa fb : Nat → Nat} {L S : Nat → Bool} {s : Nat} (hS : ∀ t, S t = true → t < n) (hv : ∀ v, v < nV → fa v < n ∧ fb v < n) (h : Fl nV lev fa fb L S s) : s < n :=
  h (fun t => t < n) hS (fun v h1 _ => ⟨fun _ _ => (hv v h1).2, fun _ _ => (hv v h1).1⟩)
theorem Fl.congr {nV : Nat} {lev lev' : Nat → Int64} {fa fb fa' fb' : Nat → Nat} {L L' S S' : Nat → Bool} (h1 : ∀ v, v < nV → fa v = fa' v ∧ fb v = fb' v ∧ L v = L' v ∧ lev (fa v) = lev' (fa v) ∧ lev (fb v) = lev' (fb v)) (h2 : ∀ t, S t = S' t) {s : Nat} (h : Fl nV lev fa fb L S s) : Fl nV lev' fa' fb' L' S' s := by
  intro X a b
  refine h X (fun t ht => a t (by rw [← h2]; exact ht)) (fun v hv hL => ?_)
  obtain ⟨e1, e2, e3, e4, e5⟩ := h1 v hv
  have := b v hv (by rw [← e3]; exact hL)
  rw [← e1, ← e2, ← e4, ← e5] at this
  exact this
/-! a long out of its bits -/
def bsum (g : Nat → Bool) : Nat → Nat
  | 0 => 0
  | n + 1 => 2 ^ n * (if g n = true then 1 else 0) + bsum g n
theorem bsum_lt (g : Nat → Bool) : ∀ n, bsum g n < 2 ^ n
  | 0 => Nat.one_pos
  | n + 1 => by
    have := bsum_lt g n
    unfold bsum
    rw [Nat.pow_succ]
    split <;> omega
theorem bsum_bit (g : Nat → Bool) : ∀ n i, (bsum g n).testBit i = (decide (i < n) && g i)
  | 0, i => by simp [bsum]
  | n + 1, i => by
    unfold bsum
    rw [Nat.testBit_two_pow_mul_add _ (bsum_lt g n), bsum_bit g n i]
    by_cases h : i < n
    · simp [h, show i < n + 1 by omega]
    · by_cases h2 : i = n
      · subst h2
        cases g i <;> simp
      · have h3 : ¬ i < n + 1 := by omega
        have h4 : ∃ k, i - n = k + 1 := ⟨i - n - 1, by omega⟩
        obtain ⟨k, hk⟩ := h4
        simp only [h, h3, hk, if_false, decide_false, Bool.false_and]
        cases g n
        · simp
        · simp [Nat.testBit_succ]
def ofB (g : Nat → Bool) : Int64 := lN (bsum g 64)
theorem tb_ofB (g : Nat → Bool) {i : Nat} (hi : i < 64) : tb (ofB g) i = g i := by
  unfold ofB
  rw [tb_lN hi, bsum_bit]; simp [hi]
theorem ofB_eq {x : Int64} {g : Nat → Bool} (h : ∀ i, i < 64 → tb x i = g i) : x = ofB g := tb_ext fun i hi => by rw [h i hi, tb_ofB g hi]
theorem ofB_congr {g h : Nat → Bool} (e : ∀ i, i < 64 → g i = h i) : ofB g = ofB h := tb_ext fun i hi => by rw [tb_ofB g hi, tb_ofB h hi, e i hi]
noncomputable def pB (P : Prop) : Bool := @decide P (Classical.propDecidable P)
theorem pB_t {P : Prop} : pB P = true ↔ P := by unfold pB; exact @decide_eq_true_iff P (Classical.propDecidable P)
theorem pB_f {P : Prop} : pB P = false ↔ ¬ P := by unfold pB; exact @decide_eq_false_iff_not P (Classical.propDecidable P)
theorem pB_congr {P R : Prop} (h : P ↔ R) : pB P = pB R := by
  cases hr : pB R with
  | true => exact pB_t.mpr (h.mpr (pB_t.mp hr))
  | false => exact pB_f.mpr (fun q => pB_f.mp hr (h.mp q))
/-- is there one below n -/
def anyB (g : Nat → Bool) : Nat → Bool
  | 0 => false
  | n + 1 => anyB g n || g n
theorem anyB_t {g : Nat → Bool} : ∀ {n : Nat}, anyB g n = true ↔ ∃ i, i < n ∧ g i = true
  | 0 => by simp [anyB]
  | n + 1 => by
    unfold anyB
    rw [Bool.or_eq_true, anyB_t]
    constructor
    · rintro (⟨i, h1, h2⟩ | h)
      · exact ⟨i, by omega, h2⟩
      · exact ⟨n, by omega, h⟩
    · rintro ⟨i, h1, h2⟩
      by_cases h : i = n
      · subst h; exact Or.inr h2
      · exact Or.inl ⟨i, by omega, h2⟩
theorem anyB_congr {g h : Nat → Bool} {n : Nat} (e : ∀ i, i < n → g i = h i) : anyB g n = anyB h n := by
  induction n with
  | zero => rfl
  | succ n ih => unfold anyB; rw [ih fun i hi => e i (by omega), e n (by omega)]
/-! the dry spaces -/
def dry (w : Nat → Bool) (n : Nat) : Nat := pcn (fun i => !w i) n
theorem dry_up {w : Nat → Bool} {t n : Nat} (ht : t < n) (hw : w t = false) : dry (va_up w t true) n + 1 = dry w n := by
  unfold dry
  refine (pcn_set (g := fun i => !va_up w t true i) (h := fun i => !w i) (k := t) ht ?_ ?_ ?_).symm
  · simp [va_up]
  · simp [hw]
  · intro i hi; simp [va_up, hi]
/-! a boolean as the machine has it -/
def bI (b : Bool) : Int32 := if b = true then 1 else 0
theorem bI_t : bI true = 1 := rfl
theorem bI_f : bI false = 0 := rfl
theorem bI_0 {b : Bool} : bI b = 0 ↔ b = false := by cases b <;> simp [bI]
theorem bI_inj {a b : Bool} (h : bI a = bI b) : a = b := by cases a <;> cases b <;> simp_all [bI]
theorem bI_eq {a b : Bool} : bI a = bI b ↔ a = b := ⟨bI_inj, fun h => by rw [h]⟩
theorem bI_narrow (b : Bool) : narrow .boolean (.int (bI b)) = .int (bI b) := by cases b <;> decide
theorem bI_fits (b : Bool) : fits .boolean (.int (bI b)) = true := by cases b <;> decide
theorem bI_nar (b : Bool) : vp_nar .boolean (bI b) = bI b := by cases b <;> decide
theorem bI_1 (b : Bool) : ¬ bI b = 0 ↔ b = true := by cases b <;> simp [bI]
theorem nI_c1 : (1 : Int32) = nI 1 := rfl
theorem cmp_le {x y : Int64} : lg_cmp x y ≤ 0 ↔ x ≤ y := by
  unfold lg_cmp
  split
  · rename_i h; exact ⟨fun q => absurd q (by decide), fun q => (Int64.lt_irrefl (Int64.lt_of_lt_of_le h q)).elim⟩
  · rename_i h; have h : x ≤ y := Int64.not_lt.mp h
    split <;> exact ⟨fun _ => h, fun _ => by decide⟩
theorem cmp_eq {x y : Int64} : lg_cmp x y = 0 ↔ x = y := by
  unfold lg_cmp
  split
  · rename_i h; exact ⟨fun q => absurd q (by decide), fun q => by subst q; exact (Int64.lt_irrefl h).elim⟩
  · split
    · rename_i h; exact ⟨fun _ => h, fun _ => rfl⟩
    · rename_i h; exact ⟨fun q => absurd q (by decide), fun q => absurd q h⟩
section BASEW
variable {p : Program} {l : Launch} {e : Env} {R : Room} {s : State} {m : MethodId} {args : Array Value} {below : List Frame} {meth : Method} {c : Code} {H : Heap} {locs : List Loc} {cells slots : Nat} {Q : State → Prop} {cc : ByteArray} {pc : Nat} {ls : Array Slot} {rest : List Value}
theorem tp_i {x : Int32} (y : Int32) (h : x = y) (k : W p l e R s m args below meth c H locs cells slots Q (F0 m pc ls (.int y :: rest))) : W p l e R s m args below meth c H locs cells slots Q (F0 m pc ls (.int x :: rest)) := h ▸ k
theorem tp_l {x : Int64} (y : Int64) (h : x = y) (k : W p l e R s m args below meth c H locs cells slots Q (F0 m pc ls (.long y :: rest))) : W p l e R s m args below meth c H locs cells slots Q (F0 m pc ls (.long x :: rest)) := h ▸ k
theorem nv_ge (hx : p.tables.exec = Jvm.exec) (hb : c.code = cc) {x y : Nat} {off : Int} {tgt : Nat} (hdg : decode cc pc = .ok (.if_icmp .ge off, 3)) (ht : (pc : Int) + off = (tgt : Int)) (h1 : x < 2 ^ 31) (h2 : y < 2 ^ 31) (kt : y ≤ x → W p l e R s m args below meth c H locs cells slots Q (F0 m tgt ls rest)) (kf : x < y → W p l e R s m args below meth c H locs cells slots Q (F0 m (pc + 3) ls rest)) : W p l e R s m args below meth c H locs cells slots Q (F0 m pc ls (.int (nI y) :: .int (nI x) :: rest)) :=
  lv_icmp_ge hx hb hdg ht (fun h => kt ((nI_leI h2 h1).mp h)) (fun h => kf (Nat.not_le.mp fun q => h ((nI_leI h2 h1).mpr q)))
theorem nv_lt (hx : p.tables.exec = Jvm.exec) (hb : c.code = cc) {x y : Nat} {off : Int} {tgt : Nat} (hdg : decode cc pc = .ok (.if_icmp .lt off, 3)) (ht : (pc : Int) + off = (tgt : Int)) (h1 : x < 2 ^ 31) (h2 : y < 2 ^ 31) (kt : x < y → W p l e R s m args below meth c H locs cells slots Q (F0 m tgt ls rest)) (kf : y ≤ x → W p l e R s m args below meth c H locs cells slots Q (F0 m (pc + 3) ls rest)) : W p l e R s m args below meth c H locs cells slots Q (F0 m pc ls (.int (nI y) :: .int (nI x) :: rest)) :=
  lv_icmp_lt hx hb hdg ht (fun h => kt ((nI_ltI h1 h2).mp h)) (fun h => kf (Nat.not_lt.mp fun q => h ((nI_ltI h1 h2).mpr q)))
theorem nv_gt (hx : p.tables.exec = Jvm.exec) (hb : c.code = cc) {x y : Nat} {off : Int} {tgt : Nat} (hdg : decode cc pc = .ok (.if_icmp .gt off, 3)) (ht : (pc : Int) + off = (tgt : Int)) (h1 : x < 2 ^ 31) (h2 : y < 2 ^ 31) (kt : y < x → W p l e R s m args below meth c H locs cells slots Q (F0 m tgt ls rest)) (kf : x ≤ y → W p l e R s m args below meth c H locs cells slots Q (F0 m (pc + 3) ls rest)) : W p l e R s m args below meth c H locs cells slots Q (F0 m pc ls (.int (nI y) :: .int (nI x) :: rest)) :=
  lv_icmp_gt hx hb hdg ht (fun h => kt ((nI_ltI h2 h1).mp h)) (fun h => kf (Nat.not_lt.mp fun q => h ((nI_ltI h2 h1).mpr q)))
theorem nv_le (hx : p.tables.exec = Jvm.exec) (hb : c.code = cc) {x y : Nat} {off : Int} {tgt : Nat} (hdg : decode cc pc = .ok (.if_icmp .le off, 3)) (ht : (pc : Int) + off = (tgt : Int)) (h1 : x < 2 ^ 31) (h2 : y < 2 ^ 31) (kt : x ≤ y → W p l e R s m args below meth c H locs cells slots Q (F0 m tgt ls rest)) (kf : y < x → W p l e R s m args below meth c H locs cells slots Q (F0 m (pc + 3) ls rest)) : W p l e R s m args below meth c H locs cells slots Q (F0 m pc ls (.int (nI y) :: .int (nI x) :: rest)) :=
  lv_icmp_le hx hb hdg ht (fun h => kt ((nI_leI h1 h2).mp h)) (fun h => kf (Nat.not_le.mp fun q => h ((nI_leI h1 h2).mpr q)))
theorem nv_eq (hx : p.tables.exec = Jvm.exec) (hb : c.code = cc) {x y : Nat} {off : Int} {tgt : Nat} (hdg : decode cc pc = .ok (.if_icmp .eq off, 3)) (ht : (pc : Int) + off = (tgt : Int)) (h1 : x < 2 ^ 31) (h2 : y < 2 ^ 31) (kt : x = y → W p l e R s m args below meth c H locs cells slots Q (F0 m tgt ls rest)) (kf : ¬ x = y → W p l e R s m args below meth c H locs cells slots Q (F0 m (pc + 3) ls rest)) : W p l e R s m args below meth c H locs cells slots Q (F0 m pc ls (.int (nI y) :: .int (nI x) :: rest)) :=
  lv_icmp_eq hx hb hdg ht (fun h => kt ((nI_eq h1 h2).mp h)) (fun h => kf fun q => h ((nI_eq h1 h2).mpr q))
theorem nv_ne (hx : p.tables.exec = Jvm.exec) (hb : c.code = cc) {x y : Nat} {off : Int} {tgt : Nat} (hdg : decode cc pc = .ok (.if_icmp .ne off, 3)) (ht : (pc : Int) + off = (tgt : Int)) (h1 : x < 2 ^ 31) (h2 : y < 2 ^ 31) (kt : ¬ x = y → W p l e R s m args below meth c H locs cells slots Q (F0 m tgt ls rest)) (kf : x = y → W p l e R s m args below meth c H locs cells slots Q (F0 m (pc + 3) ls rest)) : W p l e R s m args below meth c H locs cells slots Q (F0 m pc ls (.int (nI y) :: .int (nI x) :: rest)) :=
  lv_icmp_ne hx hb hdg ht (fun h => kt fun q => h ((nI_eq h1 h2).mpr q)) (fun h => kf ((nI_eq h1 h2).mp h))
theorem bv_eq (hx : p.tables.exec = Jvm.exec) (hb : c.code = cc) {x y : Bool} {off : Int} {tgt : Nat} (hdg : decode cc pc = .ok (.if_icmp .eq off, 3)) (ht : (pc : Int) + off = (tgt : Int)) (kt : x = y → W p l e R s m args below meth c H locs cells slots Q (F0 m tgt ls rest)) (kf : ¬ x = y → W p l e R s m args below meth c H locs cells slots Q (F0 m (pc + 3) ls rest)) : W p l e R s m args below meth c H locs cells slots Q (F0 m pc ls (.int (bI y) :: .int (bI x) :: rest)) :=
  lv_icmp_eq hx hb hdg ht (fun h => kt (bI_inj h)) (fun h => kf fun q => h (by rw [q]))
theorem bv_ne (hx : p.tables.exec = Jvm.exec) (hb : c.code = cc) {x y : Bool} {off : Int} {tgt : Nat} (hdg : decode cc pc = .ok (.if_icmp .ne off, 3)) (ht : (pc : Int) + off = (tgt : Int)) (kt : ¬ x = y → W p l e R s m args below meth c H locs cells slots Q (F0 m tgt ls rest)) (kf : x = y → W p l e R s m args below meth c H locs cells slots Q (F0 m (pc + 3) ls rest)) : W p l e R s m args below meth c H locs cells slots Q (F0 m pc ls (.int (bI y) :: .int (bI x) :: rest)) :=
  lv_icmp_ne hx hb hdg ht (fun h => kt fun q => h (by rw [q])) (fun h => kf (bI_inj h))
theorem b0_eq (hx : p.tables.exec = Jvm.exec) (hb : c.code = cc) {x : Bool} {off : Int} {tgt : Nat} (hdg : decode cc pc = .ok (.ifCond .eq off, 3)) (ht : (pc : Int) + off = (tgt : Int)) (kt : x = false → W p l e R s m args below meth c H locs cells slots Q (F0 m tgt ls rest)) (kf : x = true → W p l e R s m args below meth c H locs cells slots Q (F0 m (pc + 3) ls rest)) : W p l e R s m args below meth c H locs cells slots Q (F0 m pc ls (.int (bI x) :: rest)) :=
  lv_if_eq hx hb hdg ht (fun h => kt (bI_0.mp h)) (fun h => kf ((bI_1 x).mp h))
theorem b0_ne (hx : p.tables.exec = Jvm.exec) (hb : c.code = cc) {x : Bool} {off : Int} {tgt : Nat} (hdg : decode cc pc = .ok (.ifCond .ne off, 3)) (ht : (pc : Int) + off = (tgt : Int)) (kt : x = true → W p l e R s m args below meth c H locs cells slots Q (F0 m tgt ls rest)) (kf : x = false → W p l e R s m args below meth c H locs cells slots Q (F0 m (pc + 3) ls rest)) : W p l e R s m args below meth c H locs cells slots Q (F0 m pc ls (.int (bI x) :: rest)) :=
  lv_if_ne hx hb hdg ht (fun h => kt ((bI_1 x).mp h)) (fun h => kf (bI_0.mp h))
theorem n0_eq (hx : p.tables.exec = Jvm.exec) (hb : c.code = cc) {x : Nat} {off : Int} {tgt : Nat} (hdg : decode cc pc = .ok (.ifCond .eq off, 3)) (ht : (pc : Int) + off = (tgt : Int)) (h1 : x < 2 ^ 31) (kt : x = 0 → W p l e R s m args below meth c H locs cells slots Q (F0 m tgt ls rest)) (kf : ¬ x = 0 → W p l e R s m args below meth c H locs cells slots Q (F0 m (pc + 3) ls rest)) : W p l e R s m args below meth c H locs cells slots Q (F0 m pc ls (.int (nI x) :: rest)) :=
  lv_if_eq hx hb hdg ht (fun h => kt ((nI_eq h1 (by decide)).mp (h.trans nI_0.symm))) (fun h => kf fun q => h (by rw [q]; exact nI_0))
theorem n0_ne (hx : p.tables.exec = Jvm.exec) (hb : c.code = cc) {x : Nat} {off : Int} {tgt : Nat} (hdg : decode cc pc = .ok (.ifCond .ne off, 3)) (ht : (pc : Int) + off = (tgt : Int)) (h1 : x < 2 ^ 31) (kt : ¬ x = 0 → W p l e R s m args below meth c H locs cells slots Q (F0 m tgt ls rest)) (kf : x = 0 → W p l e R s m args below meth c H locs cells slots Q (F0 m (pc + 3) ls rest)) : W p l e R s m args below meth c H locs cells slots Q (F0 m pc ls (.int (nI x) :: rest)) :=
  lv_if_ne hx hb hdg ht (fun h => kt fun q => h (by rw [q]; exact nI_0)) (fun h => kf ((nI_eq h1 (by decide)).mp (h.trans nI_0.symm)))
theorem n0_le (hx : p.tables.exec = Jvm.exec) (hb : c.code = cc) {x : Nat} {off : Int} {tgt : Nat} (hdg : decode cc pc = .ok (.ifCond .le off, 3)) (ht : (pc : Int) + off = (tgt : Int)) (h1 : x < 2 ^ 31) (kt : x = 0 → W p l e R s m args below meth c H locs cells slots Q (F0 m tgt ls rest)) (kf : ¬ x = 0 → W p l e R s m args below meth c H locs cells slots Q (F0 m (pc + 3) ls rest)) : W p l e R s m args below meth c H locs cells slots Q (F0 m pc ls (.int (nI x) :: rest)) :=
  lv_if_le hx hb hdg ht (fun h => kt (by rw [← nI_0] at h; have := (nI_leI h1 (by decide)).mp h; omega)) (fun h => kf fun q => h (by rw [q]; exact nI_le (Nat.le_refl 0) (by decide)))
theorem n0_gt (hx : p.tables.exec = Jvm.exec) (hb : c.code = cc) {x : Nat} {off : Int} {tgt : Nat} (hdg : decode cc pc = .ok (.ifCond .gt off, 3)) (ht : (pc : Int) + off = (tgt : Int)) (h1 : x < 2 ^ 31) (kt : ¬ x = 0 → W p l e R s m args below meth c H locs cells slots Q (F0 m tgt ls rest)) (kf : x = 0 → W p l e R s m args below meth c H locs cells slots Q (F0 m (pc + 3) ls rest)) : W p l e R s m args below meth c H locs cells slots Q (F0 m pc ls (.int (nI x) :: rest)) :=
  lv_if_gt hx hb hdg ht (fun h => kt fun q => by rw [q] at h; exact absurd h (by decide)) (fun h => kf (Classical.byContradiction fun q => h (by rw [← nI_0]; exact nI_lt (Nat.pos_of_ne_zero q) h1)))
theorem l0_eq (hx : p.tables.exec = Jvm.exec) (hb : c.code = cc) {x y : Int64} {off : Int} {tgt : Nat} (hdg : decode cc pc = .ok (.ifCond .eq off, 3)) (ht : (pc : Int) + off = (tgt : Int)) (kt : x = y → W p l e R s m args below meth c H locs cells slots Q (F0 m tgt ls rest)) (kf : ¬ x = y → W p l e R s m args below meth c H locs cells slots Q (F0 m (pc + 3) ls rest)) : W p l e R s m args below meth c H locs cells slots Q (F0 m pc ls (.int (lg_cmp x y) :: rest)) :=
  lv_if_eq hx hb hdg ht (fun h => kt (cmp_eq.mp h)) (fun h => kf fun q => h (cmp_eq.mpr q))
theorem l0_ne (hx : p.tables.exec = Jvm.exec) (hb : c.code = cc) {x y : Int64} {off : Int} {tgt : Nat} (hdg : decode cc pc = .ok (.ifCond .ne off, 3)) (ht : (pc : Int) + off = (tgt : Int)) (kt : ¬ x = y → W p l e R s m args below meth c H locs cells slots Q (F0 m tgt ls rest)) (kf : x = y → W p l e R s m args below meth c H locs cells slots Q (F0 m (pc + 3) ls rest)) : W p l e R s m args below meth c H locs cells slots Q (F0 m pc ls (.int (lg_cmp x y) :: rest)) :=
  lv_if_ne hx hb hdg ht (fun h => kt fun q => h (cmp_eq.mpr q)) (fun h => kf (cmp_eq.mp h))
theorem l0_gt (hx : p.tables.exec = Jvm.exec) (hb : c.code = cc) {x y : Int64} {off : Int} {tgt : Nat} (hdg : decode cc pc = .ok (.ifCond .gt off, 3)) (ht : (pc : Int) + off = (tgt : Int)) (kt : ¬ x ≤ y → W p l e R s m args below meth c H locs cells slots Q (F0 m tgt ls rest)) (kf : x ≤ y → W p l e R s m args below meth c H locs cells slots Q (F0 m (pc + 3) ls rest)) : W p l e R s m args below meth c H locs cells slots Q (F0 m pc ls (.int (lg_cmp x y) :: rest)) :=
  lv_if_gt hx hb hdg ht (fun h => kt fun q => absurd (cmp_le.mpr q) (Int32.not_le.mpr h)) (fun h => kf (cmp_le.mp (Int32.not_lt.mp h)))
theorem l0_le (hx : p.tables.exec = Jvm.exec) (hb : c.code = cc) {x y : Int64} {off : Int} {tgt : Nat} (hdg : decode cc pc = .ok (.ifCond .le off, 3)) (ht : (pc : Int) + off = (tgt : Int)) (kt : x ≤ y → W p l e R s m args below meth c H locs cells slots Q (F0 m tgt ls rest)) (kf : ¬ x ≤ y → W p l e R s m args below meth c H locs cells slots Q (F0 m (pc + 3) ls rest)) : W p l e R s m args below meth c H locs cells slots Q (F0 m pc ls (.int (lg_cmp x y) :: rest)) :=
  lv_if_le hx hb hdg ht (fun h => kt (cmp_le.mp h)) (fun h => kf fun q => h (cmp_le.mpr q))
variable {D : va_G} {cl : List vw_C} {tys : List (ClassId × FieldType)} {ws : va_W} {a : Nat} {A : Nat → Prop} {H0 : Heap}
theorem ld_i (hx : p.tables.exec = Jvm.exec) (hb : c.code = cc) (hK : va_K D cl tys s) (hP : va_P D cl ws H) (q0 t0 : Nat) {cA : ClassId} {n : Nat} {f : Nat → Int32} (ha : ws[q0]? = some (a, .inl (cA, n, .inl f))) (ht : tys[t0]? = some (cA, .int)) {i : Nat} (v : Int32) (hi : i < n) (hn : n < 2 ^ 31) (hv : f i = v) (hdg : decode cc pc = .ok (.iaload, 1)) (kk : W p l e R s m args below meth c H locs cells slots Q (F0 m (pc + 1) ls (.int v :: rest))) : W p l e R s m args below meth c H locs cells slots Q (F0 m pc ls (.int (nI i) :: .ref a :: rest)) :=
  va_iald hx hb hK hP q0 t0 ha ht (vp_in_nI hi hn) hdg (tp_i v (by rw [nI_clamp (Nat.lt_trans hi hn)]; exact hv) kk)
theorem ld_z (hx : p.tables.exec = Jvm.exec) (hb : c.code = cc) (hK : va_K D cl tys s) (hP : va_P D cl ws H) (q0 t0 : Nat) {cA : ClassId} {n : Nat} {f : Nat → Int32} (ha : ws[q0]? = some (a, .inl (cA, n, .inl f))) (ht : tys[t0]? = some (cA, .boolean)) {i : Nat} (v : Int32) (hi : i < n) (hn : n < 2 ^ 31) (hv : f i = v) (hdg : decode cc pc = .ok (.baload, 1)) (kk : W p l e R s m args below meth c H locs cells slots Q (F0 m (pc + 1) ls (.int v :: rest))) : W p l e R s m args below meth c H locs cells slots Q (F0 m pc ls (.int (nI i) :: .ref a :: rest)) :=
  va_zald hx hb hK hP q0 t0 ha ht (vp_in_nI hi hn) hdg (tp_i v (by rw [nI_clamp (Nat.lt_trans hi hn)]; exact hv) kk)
theorem ld_l (hx : p.tables.exec = Jvm.exec) (hb : c.code = cc) (hK : va_K D cl tys s) (hP : va_P D cl ws H) (q0 t0 : Nat) {cA : ClassId} {n : Nat} {f : Nat → Int64} (ha : ws[q0]? = some (a, .inl (cA, n, .inr (.inl f)))) (ht : tys[t0]? = some (cA, .long)) {i : Nat} (v : Int64) (hi : i < n) (hn : n < 2 ^ 31) (hv : f i = v) (hdg : decode cc pc = .ok (.laload, 1)) (kk : W p l e R s m args below meth c H locs cells slots Q (F0 m (pc + 1) ls (.long v :: rest))) : W p l e R s m args below meth c H locs cells slots Q (F0 m pc ls (.int (nI i) :: .ref a :: rest)) :=
  va_lald hx hb hK hP q0 t0 ha ht (vp_in_nI hi hn) hdg (tp_l v (by rw [nI_clamp (Nat.lt_trans hi hn)]; exact hv) kk)
theorem st_i (hx : p.tables.exec = Jvm.exec) (hb : c.code = cc) (hK : va_K D cl tys s) (hP : va_P D cl ws H) (hD : va_D A ws) (hS : va_S A H0 H locs) (q0 t0 : Nat) {cA : ClassId} {n : Nat} {f : Nat → Int32} (ha : ws[q0]? = some (a, .inl (cA, n, .inl f))) (ht : tys[t0]? = some (cA, .int)) {i : Nat} {x : Int32} (g : Nat → Int32) (hi : i < n) (hn : n < 2 ^ 31) (hg : upd f i x = g) (hdg : decode cc pc = .ok (.iastore, 1))
    (kk : ∀ (H1 : Heap) (locs1 : List Loc), va_P D cl (ws.set q0 (a, .inl (cA, n, .inl g))) H1 → va_D A (ws.set q0 (a, .inl (cA, n, .inl g))) → va_S A H0 H1 locs1 → W p l e R s m args below meth c H1 locs1 cells slots Q (F0 m (pc + 1) ls rest)) : W p l e R s m args below meth c H locs cells slots Q (F0 m pc ls (.int x :: .int (nI i) :: .ref a :: rest)) :=
  va_iast hx hb hK hP hD hS q0 t0 ha ht (vp_in_nI hi hn) hdg (fun H1 locs1 h1 h2 h3 => by
    rw [nI_clamp (Nat.lt_trans hi hn), hg] at h1 h2
    exact kk H1 locs1 h1 h2 h3)
theorem st_z (hx : p.tables.exec = Jvm.exec) (hb : c.code = cc) (hK : va_K D cl tys s) (hP : va_P D cl ws H) (hD : va_D A ws) (hS : va_S A H0 H locs) (q0 t0 : Nat) {cA : ClassId} {n : Nat} {f : Nat → Int32} (ha : ws[q0]? = some (a, .inl (cA, n, .inl f))) (ht : tys[t0]? = some (cA, .boolean)) {i : Nat} {b : Bool} (g : Nat → Int32) (hi : i < n) (hn : n < 2 ^ 31) (hg : upd f i (bI b) = g) (hdg : decode cc pc = .ok (.bastore, 1))
    (kk : ∀ (H1 : Heap) (locs1 : List Loc), va_P D cl (ws.set q0 (a, .inl (cA, n, .inl g))) H1 → va_D A (ws.set q0 (a, .inl (cA, n, .inl g))) → va_S A H0 H1 locs1 → W p l e R s m args below meth c H1 locs1 cells slots Q (F0 m (pc + 1) ls rest)) : W p l e R s m args below meth c H locs cells slots Q (F0 m pc ls (.int (bI b) :: .int (nI i) :: .ref a :: rest)) :=
  va_zast hx hb hK hP hD hS q0 t0 ha ht (vp_in_nI hi hn) hdg (fun H1 locs1 h1 h2 h3 => by
    rw [nI_clamp (Nat.lt_trans hi hn), bI_nar, hg] at h1 h2
    exact kk H1 locs1 h1 h2 h3)
theorem st_l (hx : p.tables.exec = Jvm.exec) (hb : c.code = cc) (hK : va_K D cl tys s) (hP : va_P D cl ws H) (hD : va_D A ws) (hS : va_S A H0 H locs) (q0 t0 : Nat) {cA : ClassId} {n : Nat} {f : Nat → Int64} (ha : ws[q0]? = some (a, .inl (cA, n, .inr (.inl f)))) (ht : tys[t0]? = some (cA, .long)) {i : Nat} {x : Int64} (g : Nat → Int64) (hi : i < n) (hn : n < 2 ^ 31) (hg : vp_updL f i x = g) (hdg : decode cc pc = .ok (.lastore, 1))
    (kk : ∀ (H1 : Heap) (locs1 : List Loc), va_P D cl (ws.set q0 (a, .inl (cA, n, .inr (.inl g)))) H1 → va_D A (ws.set q0 (a, .inl (cA, n, .inr (.inl g)))) → va_S A H0 H1 locs1 → W p l e R s m args below meth c H1 locs1 cells slots Q (F0 m (pc + 1) ls rest)) : W p l e R s m args below meth c H locs cells slots Q (F0 m pc ls (.long x :: .int (nI i) :: .ref a :: rest)) :=
  va_last hx hb hK hP hD hS q0 t0 ha ht (vp_in_nI hi hn) hdg (fun H1 locs1 h1 h2 h3 => by
    rw [nI_clamp (Nat.lt_trans hi hn), hg] at h1 h2
    exact kk H1 locs1 h1 h2 h3)
end BASEW
/-- a read-only method's start: the world, the tables -/
abbrev sPc (D : va_G) (cl : List vw_C) (tys : List (ClassId × FieldType)) (w : va_W) (av : List Value) : Array Value → State → Prop := va_Pc av (fun U => va_P D cl w U.heap ∧ va_K D cl tys U ∧ NW U)
/-- a writing method's start -/
abbrev qPc (D : va_G) (cl : List vw_C) (tys : List (ClassId × FieldType)) (w : va_W) (sz : Nat) (av : List Value) : Array Value → State → Prop := va_Pc av (fun U => U.heap.size = sz ∧ va_P D cl w U.heap ∧ va_K D cl tys U ∧ va_D (fun _ => True) w ∧ NW U)
/-- the world behind a writing method -/
abbrev qB {S : Type} (D : va_G) (cl : List vw_C) (tys : List (ClassId × FieldType)) (w : va_W) (sz : Nat) (w1 : S → va_W) : S → State → Prop := fun u t => va_P D cl (w1 u) t.heap ∧ va_K D cl tys t ∧ va_D (va_A w sz) (w1 u)
theorem fb_S {D : va_G} {cl : List vw_C} {tys : List (ClassId × FieldType)} {w : va_W} {av : List Value} : FrameBlind (sPc D cl tys w av) := fun a U g mk q => by
  obtain ⟨q0, qP, qK, qN⟩ := q
  exact ⟨q0, qP, va_K.moved (u := U) (U := U.calling g mk a) (Vm.Alike.refl U.vm) qK, NW.same (u := U) rfl qN⟩
theorem fb_Q {D : va_G} {cl : List vw_C} {tys : List (ClassId × FieldType)} {w : va_W} {sz : Nat} {av : List Value} : FrameBlind (qPc D cl tys w sz av) := fun a U g mk q => by
  obtain ⟨q0, q1, qP, qK, qD, qN⟩ := q
  exact ⟨q0, q1, qP, va_K.moved (u := U) (U := U.calling g mk a) (Vm.Alike.refl U.vm) qK, qD, NW.same (u := U) rfl qN⟩
theorem fb_0 {av : List Value} : FrameBlind (va_Pc av NW) := fun a U g mk q => ⟨q.1, NW.same (u := U) rfl q.2⟩
theorem pv_S {s : State} {H : Heap} {D : va_G} {cl : List vw_C} {tys : List (ClassId × FieldType)} {w : va_W} {b ci q0 : Nat} {q : vw_C} {fs : List Value} (As : List Value) (hN : NW s) (hK : va_K D cl tys s) (hP : va_P D cl w H) (hc : cl[ci]? = some q) (he : w[q0]? = some (b, .inr (ci, fs))) : PreV s H q.1 b (sPc D cl tys w (.ref b :: As)) As :=
  ⟨fb_S, va_recv hK hP hc he, fun U hU hW => ⟨rfl, by rw [hU]; exact hP, va_K.moved hW.alike hK, NW.warm hW hN⟩⟩
theorem pv_Q {s : State} {H : Heap} {D : va_G} {cl : List vw_C} {tys : List (ClassId × FieldType)} {w : va_W} {b ci q0 : Nat} {q : vw_C} {fs : List Value} {A : Nat → Prop} (As : List Value) (hN : NW s) (hK : va_K D cl tys s) (hP : va_P D cl w H) (hD : va_D A w) (hc : cl[ci]? = some q) (he : w[q0]? = some (b, .inr (ci, fs))) : PreV s H q.1 b (qPc D cl tys w H.size (.ref b :: As)) As :=
  ⟨fb_Q, va_recv hK hP hc he, fun U hU hW => ⟨rfl, by rw [hU], by rw [hU]; exact hP, va_K.moved hW.alike hK, hD.weaken (fun _ _ _ _ => trivial), NW.warm hW hN⟩⟩
theorem ps_S {s : State} {H : Heap} {D : va_G} {cl : List vw_C} {tys : List (ClassId × FieldType)} {w : va_W} (As : List Value) (hN : NW s) (hK : va_K D cl tys s) (hP : va_P D cl w H) : PreS s H (sPc D cl tys w As) As :=
  ⟨fb_S, fun U hU hW => ⟨rfl, by rw [hU]; exact hP, va_K.moved hW.alike hK, NW.warm hW hN⟩⟩
theorem ps_0 {s : State} {H : Heap} (As : List Value) (hN : NW s) : PreS s H (va_Pc As NW) As := ⟨fb_0, fun _ _ hW => ⟨rfl, NW.warm hW hN⟩⟩
section CALLQ
variable {p : Program} {l : Launch} {e : Env} {R : Room} {s : State} {m : MethodId} {args : Array Value} {below : List Frame} {meth : Method} {c : Code} {H : Heap} {locs : List Loc} {cells slots : Nat} {Q : State → Prop}
variable {pc : Nat} {ls : Array Slot} {rest st0 : List Value} {a : Array Value} {A0 : Nat → Prop} {H0 : Heap} {mc ms : Nat}
variable {D : va_G} {cl : List vw_C} {tys : List (ClassId × FieldType)} {w : va_W} {S : Type} {w1 : S → va_W}
theorem own_A (hD : va_D A0 w) (hS : va_S A0 H0 H locs) (hA : ∀ q, H0.size ≤ q → A0 q) : ∀ q, va_A w H.size q → A0 q := by
  intro q h
  rcases h with ⟨k, e, h⟩ | h
  · exact hD.2 k (q, e) h
  · exact hA q (Nat.le_trans hS.1 h)
theorem cq_i {post : Int32 → S → Prop} (hr : va_Run p l e R s m args below meth c H locs cells slots mc ms (F0 m pc ls st0) rest (va_Qi post (qB D cl tys w H.size w1) (va_A w H.size) a) (va_A w H.size)) (hD : va_D A0 w) (hS : va_S A0 H0 H locs) (hA : ∀ q, H0.size ≤ q → A0 q)
    (kk : ∀ (r : Int32) (u : S) (H1 : Heap) (locs1 : List Loc), post r u → va_P D cl (w1 u) H1 → va_D A0 (w1 u) → va_S A0 H0 H1 locs1 → W p l e R s m args below meth c H1 locs1 (cells + mc) (slots + ms) Q (F0 m (pc + 3) ls (.int r :: rest))) : W p l e R s m args below meth c H locs cells slots Q (F0 m pc ls st0) :=
  va_calli hr hS (fun q _ h => own_A hD hS hA q h) (own_A hD hS hA) (fun r u t H1 locs1 ht _ hw hB _ _ hS1 => kk r u H1 locs1 hw (ht ▸ hB.1) (hB.2.2.weaken (fun _ q _ h => own_A hD hS hA q.1 h)) hS1)
theorem cq_l {post : Int64 → S → Prop} (hr : va_Run p l e R s m args below meth c H locs cells slots mc ms (F0 m pc ls st0) rest (va_Ql post (qB D cl tys w H.size w1) (va_A w H.size) a) (va_A w H.size)) (hD : va_D A0 w) (hS : va_S A0 H0 H locs) (hA : ∀ q, H0.size ≤ q → A0 q)
    (kk : ∀ (r : Int64) (u : S) (H1 : Heap) (locs1 : List Loc), post r u → va_P D cl (w1 u) H1 → va_D A0 (w1 u) → va_S A0 H0 H1 locs1 → W p l e R s m args below meth c H1 locs1 (cells + mc) (slots + ms) Q (F0 m (pc + 3) ls (.long r :: rest))) : W p l e R s m args below meth c H locs cells slots Q (F0 m pc ls st0) :=
  va_calll hr hS (fun q _ h => own_A hD hS hA q h) (own_A hD hS hA) (fun r u t H1 locs1 ht _ hw hB _ _ hS1 => kk r u H1 locs1 hw (ht ▸ hB.1) (hB.2.2.weaken (fun _ q _ h => own_A hD hS hA q.1 h)) hS1)
theorem cq_v {post : S → Prop} (hr : va_Run p l e R s m args below meth c H locs cells slots mc ms (F0 m pc ls st0) rest (va_Qv post (qB D cl tys w H.size w1) (va_A w H.size) a) (va_A w H.size)) (hD : va_D A0 w) (hS : va_S A0 H0 H locs) (hA : ∀ q, H0.size ≤ q → A0 q)
    (kk : ∀ (u : S) (H1 : Heap) (locs1 : List Loc), post u → va_P D cl (w1 u) H1 → va_D A0 (w1 u) → va_S A0 H0 H1 locs1 → W p l e R s m args below meth c H1 locs1 (cells + mc) (slots + ms) Q (F0 m (pc + 3) ls rest)) : W p l e R s m args below meth c H locs cells slots Q (F0 m pc ls st0) :=
  va_callv hr hS (fun q _ h => own_A hD hS hA q h) (own_A hD hS hA) (fun u t H1 locs1 ht _ hw hB _ _ hS1 => kk u H1 locs1 hw (ht ▸ hB.1) (hB.2.2.weaken (fun _ q _ h => own_A hD hS hA q.1 h)) hS1)
end CALLQ
theorem upd_nI (f : Nat → Nat) (k x : Nat) : upd (fun j => nI (f j)) k (nI x) = fun j => nI (va_up f k x j) := by
  funext j; unfold upd va_up; split <;> rfl
theorem upd_bI (f : Nat → Bool) (k : Nat) (x : Bool) : upd (fun j => bI (f j)) k (bI x) = fun j => bI (va_up f k x j) := by
  funext j; unfold upd va_up; split <;> rfl
theorem updL_up (f : Nat → Int64) (k : Nat) (x : Int64) : vp_updL f k x = va_up f k x := rfl
