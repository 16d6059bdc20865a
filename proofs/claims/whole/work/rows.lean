section
-- ===== PART A: goes FIRST, ahead of the names: the tables' words, and 'selects' of the private methods out of them =====
/-- a private method of a class that the tables say can be made, by its rows of tables_1 -/
def lw_okq (q : MethodName × Nat) : Prop := (q.1.cls ≠ "java/lang/invoke/MethodHandle" ∧ q.1.cls ≠ "java/lang/invoke/VarHandle") ∧ Cond.instantiable q.1.cls q.2 ∈ tables_1 ∧ Cond.privateMethod q.1 ∈ tables_1 ∧ Cond.instanceMethod q.1 ∈ tables_1
theorem lw_p0 : lw_okq (⟨"SeatProofs$Plant", "measure", "(I)V"⟩, 12) := ⟨⟨by decide +kernel, by decide +kernel⟩, List.mem_of_getElem? (i := 21) (by decide +kernel), List.mem_of_getElem? (i := 179) (by decide +kernel), List.mem_of_getElem? (i := 180) (by decide +kernel)⟩
theorem lw_p1 : lw_okq (⟨"SeatProofs$Flow", "layWay", "(III)V"⟩, 4) := ⟨⟨by decide +kernel, by decide +kernel⟩, List.mem_of_getElem? (i := 78) (by decide +kernel), List.mem_of_getElem? (i := 223) (by decide +kernel), List.mem_of_getElem? (i := 224) (by decide +kernel)⟩
theorem lw_p2 : lw_okq (⟨"SeatProofs", "keepCulprit", "(II)V"⟩, 6) := ⟨⟨by decide +kernel, by decide +kernel⟩, List.mem_of_getElem? (i := 13) (by decide +kernel), List.mem_of_getElem? (i := 252) (by decide +kernel), List.mem_of_getElem? (i := 253) (by decide +kernel)⟩
theorem lw_p3 : lw_okq (⟨"SeatProofs", "addRows", "(I)V"⟩, 6) := ⟨⟨by decide +kernel, by decide +kernel⟩, List.mem_of_getElem? (i := 13) (by decide +kernel), List.mem_of_getElem? (i := 264) (by decide +kernel), List.mem_of_getElem? (i := 265) (by decide +kernel)⟩
theorem lw_p4 : lw_okq (⟨"SeatProofs", "isRight", "(I)Z"⟩, 6) := ⟨⟨by decide +kernel, by decide +kernel⟩, List.mem_of_getElem? (i := 13) (by decide +kernel), List.mem_of_getElem? (i := 299) (by decide +kernel), List.mem_of_getElem? (i := 300) (by decide +kernel)⟩
theorem lw_p5 : lw_okq (⟨"java/lang/Throwable", "fillInStackTrace", "(I)Ljava/lang/Throwable;"⟩, 6) := ⟨⟨by decide +kernel, by decide +kernel⟩, List.mem_of_getElem? (i := 379) (by decide +kernel), List.mem_of_getElem? (i := 377) (by decide +kernel), List.mem_of_getElem? (i := 378) (by decide +kernel)⟩
theorem lw_p6 : lw_okq (⟨"SeatProofs", "remakeTouched", "(I)I"⟩, 6) := ⟨⟨by decide +kernel, by decide +kernel⟩, List.mem_of_getElem? (i := 13) (by decide +kernel), List.mem_of_getElem? (i := 410) (by decide +kernel), List.mem_of_getElem? (i := 411) (by decide +kernel)⟩
theorem lw_p7 : lw_okq (⟨"SeatProofs", "isTouched", "(II)Z"⟩, 6) := ⟨⟨by decide +kernel, by decide +kernel⟩, List.mem_of_getElem? (i := 13) (by decide +kernel), List.mem_of_getElem? (i := 414) (by decide +kernel), List.mem_of_getElem? (i := 415) (by decide +kernel)⟩
theorem lw_p8 : lw_okq (⟨"SeatProofs", "rowsClash", "()Z"⟩, 6) := ⟨⟨by decide +kernel, by decide +kernel⟩, List.mem_of_getElem? (i := 13) (by decide +kernel), List.mem_of_getElem? (i := 420) (by decide +kernel), List.mem_of_getElem? (i := 421) (by decide +kernel)⟩
theorem lw_p9 : lw_okq (⟨"SeatProofsModel", "isSpace", "(I)Z"⟩, 20) := ⟨⟨by decide +kernel, by decide +kernel⟩, List.mem_of_getElem? (i := 435) (by decide +kernel), List.mem_of_getElem? (i := 515) (by decide +kernel), List.mem_of_getElem? (i := 516) (by decide +kernel)⟩
theorem lw_p10 : lw_okq (⟨"SeatProofsModel", "isThere", "(I)Z"⟩, 20) := ⟨⟨by decide +kernel, by decide +kernel⟩, List.mem_of_getElem? (i := 435) (by decide +kernel), List.mem_of_getElem? (i := 531) (by decide +kernel), List.mem_of_getElem? (i := 532) (by decide +kernel)⟩
theorem lw_p11 : lw_okq (⟨"SeatProofsModel", "flood", "(II)J"⟩, 20) := ⟨⟨by decide +kernel, by decide +kernel⟩, List.mem_of_getElem? (i := 435) (by decide +kernel), List.mem_of_getElem? (i := 535) (by decide +kernel), List.mem_of_getElem? (i := 536) (by decide +kernel)⟩
theorem lw_p12 : lw_okq (⟨"SeatProofsModel", "lets", "(II)Z"⟩, 20) := ⟨⟨by decide +kernel, by decide +kernel⟩, List.mem_of_getElem? (i := 435) (by decide +kernel), List.mem_of_getElem? (i := 539) (by decide +kernel), List.mem_of_getElem? (i := 540) (by decide +kernel)⟩
theorem lw_p13 : lw_okq (⟨"SeatProofsModel", "cut", "(JI)J"⟩, 20) := ⟨⟨by decide +kernel, by decide +kernel⟩, List.mem_of_getElem? (i := 435) (by decide +kernel), List.mem_of_getElem? (i := 543) (by decide +kernel), List.mem_of_getElem? (i := 544) (by decide +kernel)⟩
theorem lw_p14 : lw_okq (⟨"SeatProofsModel", "meet", "(II)Z"⟩, 20) := ⟨⟨by decide +kernel, by decide +kernel⟩, List.mem_of_getElem? (i := 435) (by decide +kernel), List.mem_of_getElem? (i := 550) (by decide +kernel), List.mem_of_getElem? (i := 551) (by decide +kernel)⟩
theorem lw_p15 : lw_okq (⟨"SeatProofsModel", "isRight", "(I)Z"⟩, 20) := ⟨⟨by decide +kernel, by decide +kernel⟩, List.mem_of_getElem? (i := 435) (by decide +kernel), List.mem_of_getElem? (i := 573) (by decide +kernel), List.mem_of_getElem? (i := 574) (by decide +kernel)⟩
def lw_privs_1 : List (MethodName × Nat) := [(⟨"SeatProofs$Plant", "measure", "(I)V"⟩, 12), (⟨"SeatProofs$Flow", "layWay", "(III)V"⟩, 4), (⟨"SeatProofs", "keepCulprit", "(II)V"⟩, 6), (⟨"SeatProofs", "addRows", "(I)V"⟩, 6), (⟨"SeatProofs", "isRight", "(I)Z"⟩, 6), (⟨"java/lang/Throwable", "fillInStackTrace", "(I)Ljava/lang/Throwable;"⟩, 6), (⟨"SeatProofs", "remakeTouched", "(I)I"⟩, 6), (⟨"SeatProofs", "isTouched", "(II)Z"⟩, 6), (⟨"SeatProofs", "rowsClash", "()Z"⟩, 6), (⟨"SeatProofsModel", "isSpace", "(I)Z"⟩, 20), (⟨"SeatProofsModel", "isThere", "(I)Z"⟩, 20), (⟨"SeatProofsModel", "flood", "(II)J"⟩, 20), (⟨"SeatProofsModel", "lets", "(II)Z"⟩, 20), (⟨"SeatProofsModel", "cut", "(JI)J"⟩, 20), (⟨"SeatProofsModel", "meet", "(II)Z"⟩, 20), (⟨"SeatProofsModel", "isRight", "(I)Z"⟩, 20)]
theorem lw_r1 : ∀ q ∈ lw_privs_1, lw_okq q := List.forall_mem_cons.mpr ⟨lw_p0, List.forall_mem_cons.mpr ⟨lw_p1, List.forall_mem_cons.mpr ⟨lw_p2, List.forall_mem_cons.mpr ⟨lw_p3, List.forall_mem_cons.mpr ⟨lw_p4, List.forall_mem_cons.mpr ⟨lw_p5, List.forall_mem_cons.mpr ⟨lw_p6, List.forall_mem_cons.mpr ⟨lw_p7, List.forall_mem_cons.mpr ⟨lw_p8, List.forall_mem_cons.mpr ⟨lw_p9, List.forall_mem_cons.mpr ⟨lw_p10, List.forall_mem_cons.mpr ⟨lw_p11, List.forall_mem_cons.mpr ⟨lw_p12, List.forall_mem_cons.mpr ⟨lw_p13, List.forall_mem_cons.mpr ⟨lw_p14, List.forall_mem_cons.mpr ⟨lw_p15, fun _ h => absurd h List.not_mem_nil⟩⟩⟩⟩⟩⟩⟩⟩⟩⟩⟩⟩⟩⟩⟩⟩
def lw_privs : List (MethodName × Nat) := lw_privs_1
def lw_tbl : List Cond := k2_sels lw_privs ++ tables_1
theorem lw_privs_ok : ∀ q ∈ lw_privs, lw_okq q := lw_r1
end
section
/-- the tables' words that a callee may be given -/
def gT : List Cond := lw_tbl.filter goodWord
theorem mem_gT {w : Cond} (i : Nat) (h : lw_tbl[i]? = some w) (hg : goodWord w = true) : w ∈ gT := List.mem_filter.mpr ⟨List.mem_of_getElem? h, hg⟩
theorem gT_good {w : Cond} (h : w ∈ gT) : w ∈ lw_tbl ∧ ((w.onTables && w.keeps) = true ∨ ∃ ty, w = .arrayClass ty) := ⟨(List.mem_filter.mp h).1, good_of_word (List.mem_filter.mp h).2⟩
theorem good_c {w : Cond} (h : w ∈ gT) : GoodIn gT (w :: gT) := fun x hx => by
  rcases List.mem_cons.mp hx with rfl | q
  · exact ⟨h, (gT_good h).2⟩
  · exact ⟨q, (gT_good q).2⟩
theorem good_up {w0 : Cond} {ws : List Cond} (h : GoodIn gT ws) : GoodIn (w0 :: gT) ws := fun x hx => ⟨List.mem_cons_of_mem _ (h x hx).1, (h x hx).2⟩
theorem good_tbl {ws : List Cond} (h : GoodIn gT ws) : GoodIn lw_tbl ws := fun x hx => ⟨(gT_good (h x hx).1).1, (h x hx).2⟩
theorem good_V {own C : String} {idx : Nat} {y : MethodName} {ws : List Cond} (h1 : Cond.methodLink own idx y ∈ gT) (h2 : Cond.instanceMethod y ∈ gT) (h3 : Cond.selects C y y ∈ gT) (h4 : Cond.initialized C ∈ gT) (h5 : GoodIn gT ws) : GoodIn gT (wsV own idx C y ws) := by
  intro x hx
  rcases List.mem_append.mp hx with q | q
  · simp only [List.mem_cons, List.not_mem_nil, or_false] at q
    rcases q with rfl | rfl | rfl | rfl
    · exact ⟨h1, (gT_good h1).2⟩
    · exact ⟨h2, (gT_good h2).2⟩
    · exact ⟨h3, (gT_good h3).2⟩
    · exact ⟨h4, (gT_good h4).2⟩
  · exact h5 x q
theorem good_S {own : String} {idx : Nat} {y : MethodName} {ws : List Cond} (h1 : Cond.methodLink own idx y ∈ gT) (h2 : Cond.static y ∈ gT) (h4 : Cond.initialized y.cls ∈ gT) (h5 : GoodIn gT ws) : GoodIn gT (va_wsS own idx y ws) := by
  intro x hx
  rcases List.mem_append.mp hx with q | q
  · simp only [List.mem_cons, List.not_mem_nil, or_false] at q
    rcases q with rfl | rfl | rfl
    · exact ⟨h1, (gT_good h1).2⟩
    · exact ⟨h2, (gT_good h2).2⟩
    · exact ⟨h4, (gT_good h4).2⟩
  · exact h5 x q
/-- the links among nest mates: they are handed on beside the words -/
def isN : Cond → Bool
  | .fieldLinkNest .. => true
  | .methodLinkNest .. => true
  | _ => false
def nT : List Cond := lw_tbl.filter isN
def NW (U : State) : Prop := ∀ w ∈ nT, va_Nw w U
theorem mem_nT {w : Cond} (i : Nat) (h : lw_tbl[i]? = some w) (hg : isN w = true) : w ∈ nT := List.mem_filter.mpr ⟨List.mem_of_getElem? h, hg⟩
theorem NW.warm {s U : State} (hW : s.WarmedH U.vm) (h : NW s) : NW U := by
  intro w hw
  have h1 := h w hw
  have h2 := (List.mem_filter.mp hw).2
  cases w <;> first | exact va_Nw.warmF hW h1 | exact va_Nw.warmM hW h1 | (simp [isN] at h2; done)
theorem NW.same {u U : State} (e : u.vm = U.vm) (h : NW u) : NW U := by
  intro w hw
  have h1 := h w hw
  have h2 := (List.mem_filter.mp hw).2
  cases w <;> first | exact va_Nw.same rfl e h1 | (simp [isN] at h2; done)
theorem NW.use {s : State} {args : Array Value} {w : Cond} (h : NW s) (hw : w ∈ nT) : w.before args s = true := by
  have h1 := h w hw
  have h2 := (List.mem_filter.mp hw).2
  cases w <;> first | exact va_Nw.use rfl h1 | (simp [isN] at h2; done)
end
section
theorem ts_nf {x : Bool} (h : ¬ x = false) : x = true := by cases x <;> first | rfl | exact absurd rfl h
theorem ts_nt {x : Bool} (h : ¬ x = true) : x = false := by cases x <;> first | rfl | exact absurd rfl h
theorem wb_tb (n : Nat) : (lN n).toBitVec = BitVec.ofNat 64 n := rfl
theorem wb_inj {a b : Int64} (h : a.toBitVec = b.toBitVec) : a = b := Int64.toBitVec_inj.mp h
theorem wb_tn {n : Nat} (h : n < 2 ^ 64) : (lN n).toBitVec.toNat = n := by rw [wb_tb, BitVec.toNat_ofNat, Nat.mod_eq_of_lt h]
theorem wb_of (x : Int64) : ∃ n, n < 2 ^ 64 ∧ x = lN n := ⟨x.toBitVec.toNat, x.toBitVec.isLt, wb_inj (by rw [wb_tb]; simp)⟩
theorem wb_of32 (x : Int32) : ∃ n, n < 2 ^ 32 ∧ x = nI n := ⟨x.toBitVec.toNat, x.toBitVec.isLt, Int32.toBitVec_inj.mp (by show _ = BitVec.ofNat 32 _; simp)⟩
theorem wb_c : ∀ k, k < 64 → ((nI k).toInt64 &&& 63) = lN k := by decide +kernel
theorem wb_cu : ∀ k, k < 64 → ((nI k).toInt64.toUInt64 &&& Int64.toUInt64 63) = UInt64.ofNat k := by decide +kernel
theorem wb_sm : ∀ k, k < 64 → (BitVec.ofNat 64 k).smod 64 = BitVec.ofNat 64 k := by decide +kernel
theorem wb_pw {a b : Nat} (h : a ≤ b) : 2 ^ b = 2 ^ a * 2 ^ (b - a) := by rw [← Nat.pow_add]; congr 1; omega
theorem wb_lt2 {a b : Nat} (h : a < b) : 2 ^ a < 2 ^ b := Nat.pow_lt_pow_right (by decide) h
theorem wb_mod (n : Nat) : lN n = lN (n % 2 ^ 64) := wb_inj (by rw [wb_tb, wb_tb]; apply BitVec.eq_of_toNat_eq; rw [BitVec.toNat_ofNat, BitVec.toNat_ofNat, Nat.mod_mod])
theorem wb_shr {n k : Nat} (hn : n < 2 ^ 64) (hk : k < 64) : ((lN n).toUInt64 >>> ((nI k).toInt64.toUInt64 &&& Int64.toUInt64 63)).toInt64 = lN (n / 2 ^ k) := by
  rw [wb_cu k hk]
  apply wb_inj
  apply BitVec.eq_of_toNat_eq
  show ((lN n).toUInt64 >>> UInt64.ofNat k).toNat = (BitVec.ofNat 64 _).toNat
  have h1 : (UInt64.ofNat k).toNat = k := by
    show (BitVec.ofNat 64 k).toNat = k
    rw [BitVec.toNat_ofNat, Nat.mod_eq_of_lt (by omega)]
  have h2 : (lN n).toUInt64.toNat = n := wb_tn hn
  rw [UInt64.toNat_shiftRight, h1, h2, Nat.mod_eq_of_lt hk, Nat.shiftRight_eq_div_pow, BitVec.toNat_ofNat, Nat.mod_eq_of_lt (Nat.lt_of_le_of_lt (Nat.div_le_self _ _) hn)]
theorem wb_shl (n : Nat) {k : Nat} (hk : k < 64) : lN n <<< ((nI k).toInt64 &&& 63) = lN (n * 2 ^ k) := by
  rw [wb_c k hk]
  apply wb_inj
  rw [Int64.toBitVec_shiftLeft, wb_tb, wb_tb, wb_tb, wb_sm k hk]
  apply BitVec.eq_of_toNat_eq
  rw [BitVec.shiftLeft_eq', BitVec.toNat_shiftLeft, BitVec.toNat_ofNat, BitVec.toNat_ofNat, BitVec.toNat_ofNat, Nat.mod_eq_of_lt (show k < 2 ^ 64 by omega), Nat.shiftLeft_eq, Nat.mul_mod, Nat.mod_mod, ← Nat.mul_mod]
theorem wb_and {a b : Nat} (ha : a < 2 ^ 64) (hb : b < 2 ^ 64) : lN a &&& lN b = lN (a &&& b) := by
  apply wb_inj
  rw [Int64.toBitVec_and, wb_tb, wb_tb, wb_tb]
  apply BitVec.eq_of_toNat_eq
  rw [BitVec.toNat_and, BitVec.toNat_ofNat, BitVec.toNat_ofNat, BitVec.toNat_ofNat, Nat.mod_eq_of_lt ha, Nat.mod_eq_of_lt hb, Nat.mod_eq_of_lt (Nat.and_lt_two_pow _ hb)]
theorem wb_or {a b : Nat} (ha : a < 2 ^ 64) (hb : b < 2 ^ 64) : lN a ||| lN b = lN (a ||| b) := by
  apply wb_inj
  rw [Int64.toBitVec_or, wb_tb, wb_tb, wb_tb]
  apply BitVec.eq_of_toNat_eq
  rw [BitVec.toNat_or, BitVec.toNat_ofNat, BitVec.toNat_ofNat, BitVec.toNat_ofNat, Nat.mod_eq_of_lt ha, Nat.mod_eq_of_lt hb, Nat.mod_eq_of_lt (Nat.or_lt_two_pow ha hb)]
theorem wb_mask {n k : Nat} (hn : n < 2 ^ 64) (hk : k < 64) : lN n &&& lN (2 ^ k - 1) = lN (n % 2 ^ k) := by
  rw [wb_and hn (by have := wb_lt2 hk; omega), Nat.and_two_pow_sub_one_eq_mod]
theorem wb_a1 {n : Nat} (hn : n < 2 ^ 64) : lN n &&& 1 = lN (n % 2) := wb_mask (k := 1) hn (by decide)
theorem wb_bit {n k : Nat} (hn : n < 2 ^ 64) (hk : k < 64) : ((lN n).toUInt64 >>> ((nI k).toInt64.toUInt64 &&& Int64.toUInt64 63)).toInt64 &&& 1 = lN (n / 2 ^ k % 2) := by
  rw [wb_shr hn hk, wb_a1 (Nat.lt_of_le_of_lt (Nat.div_le_self _ _) hn)]
/-- bit i of a long -/
def tb (x : Int64) (i : Nat) : Bool := x.toBitVec.getLsbD i
theorem tb_ext {x y : Int64} (h : ∀ i, i < 64 → tb x i = tb y i) : x = y := Int64.toBitVec_inj.mp (BitVec.eq_of_getLsbD_eq fun i hi => h i hi)
theorem tb_big {x : Int64} {i : Nat} (h : 64 ≤ i) : tb x i = false := BitVec.getLsbD_of_ge _ _ h
theorem tb_lt {x : Int64} {i : Nat} (h : tb x i = true) : i < 64 := by
  rcases Nat.lt_or_ge i 64 with q | q
  · exact q
  · rw [tb_big q] at h; cases h
theorem tb_and (x y : Int64) (i : Nat) : tb (x &&& y) i = (tb x i && tb y i) := by
  unfold tb; rw [Int64.toBitVec_and, BitVec.getLsbD_and]
theorem tb_or (x y : Int64) (i : Nat) : tb (x ||| y) i = (tb x i || tb y i) := by
  unfold tb; rw [Int64.toBitVec_or, BitVec.getLsbD_or]
theorem tb_xor (x y : Int64) (i : Nat) : tb (x ^^^ y) i = (tb x i ^^ tb y i) := by
  unfold tb; rw [Int64.toBitVec_xor, BitVec.getLsbD_xor]
theorem tb_lN {n i : Nat} (hi : i < 64) : tb (lN n) i = n.testBit i := by
  unfold tb; rw [wb_tb, BitVec.getLsbD_ofNat]; simp [hi]
theorem tb_0 (i : Nat) : tb 0 i = false := by
  rcases Nat.lt_or_ge i 64 with q | q
  · rw [show (0 : Int64) = lN 0 from rfl, tb_lN q]; simp
  · exact tb_big q
theorem tb_m1 {i : Nat} (hi : i < 64) : tb (-1) i = true := by
  have h : ∀ i, i < 64 → tb (-1) i = true := by decide +kernel
  exact h i hi
theorem tb_not (x : Int64) {i : Nat} (hi : i < 64) : tb (x ^^^ (-1)) i = !tb x i := by
  rw [tb_xor, tb_m1 hi]; cases tb x i <;> rfl
theorem tb_andn (x y : Int64) (i : Nat) : tb (x &&& (y ^^^ (-1))) i = (tb x i && !tb y i) := by
  rcases Nat.lt_or_ge i 64 with q | q
  · rw [tb_and, tb_not _ q]
  · rw [tb_big q, tb_big q]; rfl
theorem tb_eq0 {x : Int64} : x = 0 ↔ ∀ i, i < 64 → tb x i = false := by
  constructor
  · intro h i _; rw [h, tb_0]
  · intro h; exact tb_ext fun i hi => by rw [h i hi, tb_0]
theorem tb_ne0 {x : Int64} : ¬ x = 0 ↔ ∃ i, i < 64 ∧ tb x i = true := by
  constructor
  · intro h
    refine Classical.byContradiction fun hn => h (tb_eq0.mpr fun i hi => ?_)
    cases hb : tb x i with
    | false => rfl
    | true => exact absurd ⟨i, hi, hb⟩ hn
  · rintro ⟨i, hi, hb⟩ h
    rw [h, tb_0] at hb; cases hb
/-- the long with bit k alone, as the machine makes it -/
def bt (k : Nat) : Int64 := (1 : Int64) <<< ((nI k).toInt64 &&& 63)
theorem bt_lN {k : Nat} (hk : k < 64) : bt k = lN (2 ^ k) := by
  unfold bt; rw [show (1 : Int64) = lN 1 from rfl, wb_shl 1 hk, Nat.one_mul]
theorem tb_bt {k : Nat} (hk : k < 64) (i : Nat) : tb (bt k) i = decide (i = k) := by
  rcases Nat.lt_or_ge i 64 with q | q
  · rw [bt_lN hk, tb_lN q, Nat.testBit_two_pow]
    by_cases h : k = i
    · simp [h]
    · simp [h, Ne.symm h]
  · rw [tb_big q]; simp; omega
theorem tb_has (x : Int64) {k : Nat} (hk : k < 64) : (x &&& bt k) = 0 ↔ tb x k = false := by
  constructor
  · intro h
    have h2 := tb_eq0.mp h k hk
    rw [tb_and, tb_bt hk] at h2
    simpa using h2
  · intro h
    refine tb_eq0.mpr fun i _ => ?_
    rw [tb_and, tb_bt hk]
    by_cases hi : i = k
    · subst hi; rw [h]; rfl
    · simp [hi]
/-- how many of the places below n are set -/
def pcn (g : Nat → Bool) : Nat → Nat
  | 0 => 0
  | n + 1 => pcn g n + (if g n = true then 1 else 0)
theorem pcn_le (g : Nat → Bool) : ∀ n, pcn g n ≤ n
  | 0 => Nat.le_refl 0
  | n + 1 => by have := pcn_le g n; unfold pcn; split <;> omega
theorem pcn_congr {g h : Nat → Bool} : ∀ {n : Nat}, (∀ i, i < n → g i = h i) → pcn g n = pcn h n
  | 0, _ => rfl
  | n + 1, e => by
    unfold pcn
    rw [pcn_congr (n := n) fun i hi => e i (by omega), e n (by omega)]
theorem pcn_add (g : Nat → Bool) (a : Nat) : ∀ b, pcn g (a + b) = pcn g a + pcn (fun i => g (a + i)) b
  | 0 => by simp [pcn]
  | b + 1 => by
    show pcn g (a + b) + (if g (a + b) = true then 1 else 0) = pcn g a + (pcn (fun i => g (a + i)) b + (if g (a + b) = true then 1 else 0))
    rw [pcn_add g a b, Nat.add_assoc]
theorem pcn_below (k : Nat) : ∀ n, k ≤ n → pcn (fun i => decide (i < k)) n = k
  | 0, h => by simp [pcn]; omega
  | n + 1, h => by
    rcases Nat.lt_or_ge n k with q | q
    · have e : k = n + 1 := by omega
      subst e
      have : ∀ m, m ≤ n + 1 → pcn (fun i => decide (i < n + 1)) m = m := by
        intro m
        induction m with
        | zero => intro _; rfl
        | succ m ih =>
          intro hm
          unfold pcn
          rw [ih (by omega)]
          simp; omega
      exact this (n + 1) (Nat.le_refl _)
    · unfold pcn
      rw [pcn_below k n q]
      simp; omega
theorem pcn_zero {g : Nat → Bool} : ∀ {n : Nat}, (∀ i, i < n → g i = false) → pcn g n = 0
  | 0, _ => rfl
  | n + 1, e => by
    unfold pcn
    rw [pcn_zero (n := n) fun i hi => e i (by omega), e n (by omega)]; rfl
theorem pcn_full {g : Nat → Bool} : ∀ {n : Nat}, pcn g n = n → ∀ i, i < n → g i = true
  | 0, _, i, hi => absurd hi (by omega)
  | n + 1, e, i, hi => by
    unfold pcn at e
    have hle := pcn_le g n
    cases hb : g n with
    | false => rw [hb] at e; simp at e; omega
    | true =>
      rw [hb] at e; simp at e
      rcases Nat.lt_or_ge i n with q | q
      · exact pcn_full e i q
      · have : i = n := by omega
        subst this; exact hb
theorem pcn_set {g h : Nat → Bool} {k : Nat} : ∀ {n : Nat}, k < n → g k = false → h k = true → (∀ i, i ≠ k → h i = g i) → pcn h n = pcn g n + 1
  | 0, hk, _, _, _ => absurd hk (by omega)
  | n + 1, hk, hg, hh, e => by
    unfold pcn
    rcases Nat.lt_or_ge k n with q | q
    · rw [pcn_set q hg hh e, e n (by omega)]; omega
    · have : k = n := by omega
      subst this
      rw [hg, hh, pcn_congr (g := h) (h := g) fun i hi => e i (by omega)]; simp
/-- a number that isn't 0: its lowest bit -/
theorem low_nat : ∀ n : Nat, 0 < n → ∃ k a, n = 2 ^ (k + 1) * a + 2 ^ k := by
  intro n
  induction n using Nat.strongRecOn with
  | ind n ih =>
    intro hn
    rcases Nat.mod_two_eq_zero_or_one n with h | h
    · obtain ⟨k, a, e⟩ := ih (n / 2) (by omega) (by omega)
      refine ⟨k + 1, a, ?_⟩
      have h2 : n = 2 * (n / 2) := by omega
      rw [h2, e, Nat.pow_succ 2 (k + 1), Nat.pow_succ 2 k]
      rw [Nat.mul_add, Nat.mul_comm 2 (2 ^ k), Nat.mul_comm (2 ^ k * 2) 2, ← Nat.mul_assoc, Nat.mul_assoc 2 (2 ^ k * 2) a, Nat.mul_comm 2 (2 ^ k * 2 * a), Nat.mul_assoc (2 ^ k * 2) a 2, Nat.mul_comm a 2, ← Nat.mul_assoc (2 ^ k * 2) 2 a]
    · exact ⟨0, n / 2, by omega⟩
theorem low_spec (x : Int64) (hx : ¬ x = 0) : ∃ k, k < 64 ∧ tb x k = true ∧ (∀ j, j < k → tb x j = false) ∧ (x &&& -x) - 1 = lN (2 ^ k - 1) ∧ (∀ i, tb (x &&& (x - 1)) i = (tb x i && decide (i ≠ k))) := by
  obtain ⟨n, hn, rfl⟩ := wb_of x
  have h0 : 0 < n := by
    rcases Nat.eq_zero_or_pos n with q | q
    · subst q; exact absurd rfl hx
    · exact q
  obtain ⟨k, a, e⟩ := low_nat n h0
  have hkp : 0 < 2 ^ k := Nat.two_pow_pos k
  have hk : k < 64 := by
    rcases Nat.lt_or_ge k 64 with q | q
    · exact q
    · exfalso
      have h1 : 2 ^ 64 ≤ 2 ^ k := Nat.pow_le_pow_right (by decide) q
      have h2 : 2 ^ k ≤ n := by rw [e]; exact Nat.le_add_left _ _
      omega
  have hlt : 2 ^ k < 2 ^ (k + 1) := Nat.pow_lt_pow_right (by decide) (by omega)
  have hp : 2 ^ (k + 1) = 2 * 2 ^ k := by rw [Nat.pow_succ]; omega
  have tn : ∀ i, n.testBit i = if i < k + 1 then decide (k = i) else a.testBit (i - (k + 1)) := by
    intro i
    rw [e, Nat.testBit_two_pow_mul_add a hlt, Nat.testBit_two_pow]
  have e1 : n - 1 = 2 ^ (k + 1) * a + (2 ^ k - 1) := by omega
  have t1 : ∀ i, (n - 1).testBit i = if i < k + 1 then decide (i < k) else a.testBit (i - (k + 1)) := by
    intro i
    rw [e1, Nat.testBit_two_pow_mul_add a (by omega), Nat.testBit_two_pow_sub_one]
  have e64 : 2 ^ 64 = 2 ^ (k + 1) * 2 ^ (63 - k) := by rw [← Nat.pow_add]; congr 1; omega
  have ha : a < 2 ^ (63 - k) := by
    rcases Nat.lt_or_ge a (2 ^ (63 - k)) with q | q
    · exact q
    · exfalso
      have := Nat.mul_le_mul_left (2 ^ (k + 1)) q
      omega
  have em : 2 ^ 64 - n = 2 ^ (k + 1) * (2 ^ (63 - k) - (a + 1)) + 2 ^ k := by
    rw [Nat.mul_sub, Nat.mul_add, ← e64]
    have := Nat.mul_le_mul_left (2 ^ (k + 1)) (show a + 1 ≤ 2 ^ (63 - k) by omega)
    rw [Nat.mul_add, ← e64] at this
    omega
  have tm : ∀ i, (2 ^ 64 - n).testBit i = if i < k + 1 then decide (k = i) else (decide (i - (k + 1) < 63 - k) && !a.testBit (i - (k + 1))) := by
    intro i
    rw [em, Nat.testBit_two_pow_mul_add _ hlt, Nat.testBit_two_pow, Nat.testBit_two_pow_sub_succ ha]
  have hneg : -(lN n) = lN (2 ^ 64 - n) := by
    apply wb_inj
    rw [Int64.toBitVec_neg, wb_tb, wb_tb]
    apply BitVec.eq_of_toNat_eq
    rw [BitVec.toNat_neg, BitVec.toNat_ofNat, BitVec.toNat_ofNat, Nat.mod_eq_of_lt hn]
  have hm1 : lN n - 1 = lN (n - 1) := by
    rw [show (1 : Int64) = lN 1 from rfl, lN_sub (by omega)]
  have hlow : lN n &&& -(lN n) = lN (2 ^ k) := by
    refine tb_ext fun i hi => ?_
    rw [tb_and, hneg, tb_lN hi, tb_lN hi, tb_lN hi, tn, tm, Nat.testBit_two_pow]
    by_cases q : i < k + 1
    · simp [q]
    · have : ¬ k = i := by omega
      simp [q, this]
      cases a.testBit (i - (k + 1)) <;> simp
  refine ⟨k, hk, ?_, ?_, ?_, ?_⟩
  · rw [tb_lN hk, tn]; simp
  · intro j hj
    rw [tb_lN (by omega), tn, if_pos (by omega)]
    simp; omega
  · rw [hlow, show (1 : Int64) = lN 1 from rfl, lN_sub (by omega)]
  · intro i
    rcases Nat.lt_or_ge i 64 with q | q
    · rw [tb_and, hm1, tb_lN q, tb_lN q, tn, t1]
      by_cases h : i < k + 1
      · simp [h]
        by_cases h2 : k = i
        · simp [h2]
        · simp [h2]
      · have : i ≠ k := by omega
        simp [h, this]
    · rw [tb_big q, tb_big q]; rfl
theorem pcn_low {k : Nat} (hk : k < 64) : pcn (tb (lN (2 ^ k - 1))) 64 = k := by
  rw [pcn_congr (h := fun i => decide (i < k)) fun i hi => by rw [tb_lN hi, Nat.testBit_two_pow_sub_one]]
  exact pcn_below k 64 (by omega)
end
section
theorem ps_and {b c : Nat} (r M : Nat) (hb : b < 256) (hc : c < 256) : (b + 256 * r) &&& (c + 256 * M) = (b &&& c) + 256 * (r &&& M) := by
  have hbc : b &&& c < 256 := Nat.lt_of_le_of_lt Nat.and_le_left hb
  apply Nat.eq_of_testBit_eq
  intro i
  rw [Nat.testBit_and, Nat.add_comm b, Nat.add_comm c, Nat.add_comm (b &&& c), show (256 : Nat) = 2 ^ 8 from rfl, Nat.testBit_two_pow_mul_add r hb, Nat.testBit_two_pow_mul_add M hc, Nat.testBit_two_pow_mul_add _ hbc]
  split
  · rw [Nat.testBit_and]
  · rw [Nat.testBit_and]
def ps_f1 (b : Nat) : Nat := b - ((b / 2) &&& 85)
def ps_f2 (b : Nat) : Nat := (b &&& 51) + ((b / 4) &&& 51)
def ps_f3 (b : Nat) : Nat := (b + b / 16) &&& 15
def ps_F1 (M n : Nat) : Nat := n - ((n / 2) &&& M)
def ps_F2 (M n : Nat) : Nat := (n &&& M) + ((n / 4) &&& M)
def ps_F3 (M n : Nat) : Nat := (n + n / 16) &&& M
def ps_m (c : Nat) : Nat → Nat
  | 0 => 0
  | j + 1 => c + 256 * ps_m c j
def ps_8 (b : Nat) : Nat := pcn b.testBit 8
theorem ps_b1 : ∀ b, b < 256 → ∀ t, t < 2 → (b / 2 + 128 * t) &&& 85 = (b / 2) &&& 85 := by decide +kernel
theorem ps_b2 : ∀ b, b < 256 → ∀ t, t < 4 → (b / 4 + 64 * t) &&& 51 = (b / 4) &&& 51 := by decide +kernel
theorem ps_b3 : ∀ b, b < 69 → ∀ t, t < 5 → (b + b / 16 + 16 * t) &&& 15 = (b + b / 16) &&& 15 := by decide +kernel
theorem ps_all : ∀ b, b < 256 → ps_f1 b < 256 ∧ ps_f2 (ps_f1 b) < 69 ∧ ps_f2 (ps_f1 b) % 16 < 5 ∧ ps_f3 (ps_f2 (ps_f1 b)) = ps_8 b ∧ ps_8 b ≤ 8 := by decide +kernel
theorem ps_s1 {b : Nat} (r M : Nat) (hb : b < 256) : ps_F1 (85 + 256 * M) (b + 256 * r) = ps_f1 b + 256 * ps_F1 M r := by
  unfold ps_F1 ps_f1
  have e : (b + 256 * r) / 2 = (b / 2 + 128 * (r % 2)) + 256 * (r / 2) := by omega
  rw [e, ps_and _ _ (by omega) (by decide), ps_b1 b hb _ (Nat.mod_lt _ (by decide))]
  have h1 : (b / 2) &&& 85 ≤ b / 2 := Nat.and_le_left
  have h2 : (r / 2) &&& M ≤ r / 2 := Nat.and_le_left
  omega
theorem ps_s2 {b : Nat} (r M : Nat) (hb : b < 256) : ps_F2 (51 + 256 * M) (b + 256 * r) = ps_f2 b + 256 * ps_F2 M r := by
  unfold ps_F2 ps_f2
  have e : (b + 256 * r) / 4 = (b / 4 + 64 * (r % 4)) + 256 * (r / 4) := by omega
  rw [e, ps_and (b := b) r M hb (by decide), ps_and (b := b / 4 + 64 * (r % 4)) (r / 4) M (by omega) (by decide), ps_b2 b hb _ (Nat.mod_lt _ (by decide))]
  omega
theorem ps_s3 {b : Nat} (r M : Nat) (hb : b < 69) (hr : r % 16 < 5) : ps_F3 (15 + 256 * M) (b + 256 * r) = ps_f3 b + 256 * ps_F3 M r := by
  unfold ps_F3 ps_f3
  have e : b + 256 * r + (b + 256 * r) / 16 = (b + b / 16 + 16 * (r % 16)) + 256 * (r + r / 16) := by omega
  rw [e, ps_and _ _ (by omega) (by decide), ps_b3 b hb _ hr]
def ps_G (j n : Nat) : Nat := ps_F3 (ps_m 15 j) (ps_F2 (ps_m 51 j) (ps_F1 (ps_m 85 j) n))
def ps_T : Nat → Nat → Nat
  | 0, _ => 0
  | j + 1, n => ps_8 (n % 256) + 256 * ps_T j (n / 256)
theorem ps_run : ∀ (j n : Nat), n < 256 ^ j → ps_G j n = ps_T j n ∧ ps_F2 (ps_m 51 j) (ps_F1 (ps_m 85 j) n) % 16 < 5
  | 0, n, h => by
    have : n = 0 := by simpa using h
    subst this
    decide
  | j + 1, n, h => by
    have hr : n / 256 < 256 ^ j := by
      rw [Nat.pow_succ] at h
      exact Nat.div_lt_of_lt_mul (by rw [Nat.mul_comm]; exact h)
    obtain ⟨i1, i2⟩ := ps_run j (n / 256) hr
    have hb : n % 256 < 256 := Nat.mod_lt _ (by decide)
    obtain ⟨a1, a2, a3, a4, -⟩ := ps_all (n % 256) hb
    have e : n = n % 256 + 256 * (n / 256) := by omega
    have e2 : ps_F2 (ps_m 51 (j + 1)) (ps_F1 (ps_m 85 (j + 1)) n) = ps_f2 (ps_f1 (n % 256)) + 256 * ps_F2 (ps_m 51 j) (ps_F1 (ps_m 85 j) (n / 256)) := by
      rw [show ps_m 85 (j + 1) = 85 + 256 * ps_m 85 j from rfl, show ps_m 51 (j + 1) = 51 + 256 * ps_m 51 j from rfl]
      conv => lhs; rw [e]
      rw [ps_s1 _ _ hb, ps_s2 _ _ a1]
    refine ⟨?_, ?_⟩
    · unfold ps_G
      rw [e2, show ps_m 15 (j + 1) = 15 + 256 * ps_m 15 j from rfl, ps_s3 _ _ a2 i2, a4]
      unfold ps_G at i1
      rw [i1]
      rfl
    · rw [e2]; omega
theorem ps_pc : ∀ (j n : Nat), pcn n.testBit (8 * (j + 1)) = ps_8 (n % 256) + pcn (n / 256).testBit (8 * j) := by
  intro j n
  rw [show 8 * (j + 1) = 8 + 8 * j by omega, pcn_add]
  congr 1
  · refine pcn_congr fun i hi => ?_
    rw [show (256 : Nat) = 2 ^ 8 from rfl, Nat.testBit_mod_two_pow]; simp [hi]
  · refine pcn_congr fun i _ => ?_
    rw [show (256 : Nat) = 2 ^ 8 from rfl, Nat.testBit_div_two_pow]
    congr 1 <;> omega
def ps_end (c : Nat) : Nat := ((c + c / 256) + (c + c / 256) / 65536 + ((c + c / 256) + (c + c / 256) / 65536) / 4294967296) % 128
def ps_V : List Nat → Nat
  | [] => 0
  | a :: l => a + 256 * ps_V l
theorem ps_Va : ∀ (l m : List Nat), l.length = m.length → ps_V l + ps_V m = ps_V (List.zipWith (fun a b => a + b) l m)
  | [], [], _ => rfl
  | a :: l, b :: m, h => by
    have := ps_Va l m (by simpa using h)
    show a + 256 * ps_V l + (b + 256 * ps_V m) = a + b + 256 * ps_V (List.zipWith (fun a b => a + b) l m)
    omega
theorem ps_Vd (a : Nat) (l : List Nat) (h : a < 256) : ps_V (a :: l) / 256 = ps_V l := by
  show (a + 256 * ps_V l) / 256 = ps_V l
  omega
theorem ps_V0 (l : List Nat) : ps_V (l ++ [0]) = ps_V l := by
  induction l with
  | nil => rfl
  | cons a l ih => show a + 256 * ps_V (l ++ [0]) = a + 256 * ps_V l; rw [ih]
theorem ps_fin {p0 p1 p2 p3 p4 p5 p6 p7 : Nat} (h0 : p0 ≤ 8) (h1 : p1 ≤ 8) (h2 : p2 ≤ 8) (h3 : p3 ≤ 8) (h4 : p4 ≤ 8) (h5 : p5 ≤ 8) (h6 : p6 ≤ 8) (h7 : p7 ≤ 8) : ps_end (ps_V [p0, p1, p2, p3, p4, p5, p6, p7]) = p0 + (p1 + (p2 + (p3 + (p4 + (p5 + (p6 + (p7 + 0))))))) := by
  have c1 : ps_V [p0, p1, p2, p3, p4, p5, p6, p7] / 256 = ps_V [p1, p2, p3, p4, p5, p6, p7, 0] := (ps_Vd _ _ (by omega)).trans (ps_V0 [p1, p2, p3, p4, p5, p6, p7]).symm
  have c2 : ps_V [p0, p1, p2, p3, p4, p5, p6, p7] + ps_V [p1, p2, p3, p4, p5, p6, p7, 0] = ps_V [p0 + p1, p1 + p2, p2 + p3, p3 + p4, p4 + p5, p5 + p6, p6 + p7, p7 + 0] := ps_Va _ _ rfl
  have c3 : ps_V [p0 + p1, p1 + p2, p2 + p3, p3 + p4, p4 + p5, p5 + p6, p6 + p7, p7 + 0] / 65536 = ps_V [p2 + p3, p3 + p4, p4 + p5, p5 + p6, p6 + p7, p7 + 0, 0, 0] := by
    rw [show (65536 : Nat) = 256 * 256 from rfl, ← Nat.div_div_eq_div_mul, ps_Vd _ _ (by omega), ps_Vd _ _ (by omega)]
    exact ((ps_V0 [p2 + p3, p3 + p4, p4 + p5, p5 + p6, p6 + p7, p7 + 0, 0]).trans (ps_V0 [p2 + p3, p3 + p4, p4 + p5, p5 + p6, p6 + p7, p7 + 0])).symm
  have c4 : ps_V [p0 + p1, p1 + p2, p2 + p3, p3 + p4, p4 + p5, p5 + p6, p6 + p7, p7 + 0] + ps_V [p2 + p3, p3 + p4, p4 + p5, p5 + p6, p6 + p7, p7 + 0, 0, 0] = ps_V [p0 + p1 + (p2 + p3), p1 + p2 + (p3 + p4), p2 + p3 + (p4 + p5), p3 + p4 + (p5 + p6), p4 + p5 + (p6 + p7), p5 + p6 + (p7 + 0), p6 + p7 + 0, p7 + 0 + 0] := ps_Va _ _ rfl
  have c5 : ps_V [p0 + p1 + (p2 + p3), p1 + p2 + (p3 + p4), p2 + p3 + (p4 + p5), p3 + p4 + (p5 + p6), p4 + p5 + (p6 + p7), p5 + p6 + (p7 + 0), p6 + p7 + 0, p7 + 0 + 0] / 4294967296 = ps_V [p4 + p5 + (p6 + p7), p5 + p6 + (p7 + 0), p6 + p7 + 0, p7 + 0 + 0] := by
    rw [show (4294967296 : Nat) = 256 * 256 * 256 * 256 from rfl, ← Nat.div_div_eq_div_mul, ← Nat.div_div_eq_div_mul, ← Nat.div_div_eq_div_mul, ps_Vd _ _ (by omega), ps_Vd _ _ (by omega), ps_Vd _ _ (by omega), ps_Vd _ _ (by omega)]
  unfold ps_end
  rw [c1, c2, c3, c4, c5]
  show (p0 + p1 + (p2 + p3) + 256 * ps_V _ + (p4 + p5 + (p6 + p7) + 256 * ps_V _)) % 128 = _
  generalize ps_V _ = X
  generalize ps_V _ = Y
  rw [show p0 + p1 + (p2 + p3) + 256 * X + (p4 + p5 + (p6 + p7) + 256 * Y) = (p0 + p1 + (p2 + p3) + (p4 + p5 + (p6 + p7))) + 128 * (2 * X + 2 * Y) by omega, Nat.add_mul_mod_self_left, Nat.mod_eq_of_lt (by omega)]
  omega
theorem ps_sw (n : Nat) (h : n < 2 ^ 64) : ps_end (ps_G 8 n) = pcn n.testBit 64 := by
  rw [(ps_run 8 n (by rw [show (256 : Nat) ^ 8 = 2 ^ 64 by decide]; exact h)).1]
  rw [show (64 : Nat) = 8 * (7 + 1) from rfl, ps_pc, ps_pc, ps_pc, ps_pc, ps_pc, ps_pc, ps_pc, ps_pc]
  show ps_end (ps_8 _ + 256 * (ps_8 _ + 256 * (ps_8 _ + 256 * (ps_8 _ + 256 * (ps_8 _ + 256 * (ps_8 _ + 256 * (ps_8 _ + 256 * (ps_8 _ + 256 * 0)))))))) = _
  have q : ∀ m : Nat, ps_8 (m % 256) ≤ 8 := fun m => (ps_all (m % 256) (Nat.mod_lt _ (by decide))).2.2.2.2
  have q0 := q n
  have q1 := q (n / 256)
  have q2 := q (n / 256 / 256)
  have q3 := q (n / 256 / 256 / 256)
  have q4 := q (n / 256 / 256 / 256 / 256)
  have q5 := q (n / 256 / 256 / 256 / 256 / 256)
  have q6 := q (n / 256 / 256 / 256 / 256 / 256 / 256)
  have q7 := q (n / 256 / 256 / 256 / 256 / 256 / 256 / 256)
  revert q0 q1 q2 q3 q4 q5 q6 q7
  generalize ps_8 (n % 256) = p0
  generalize ps_8 (n / 256 % 256) = p1
  generalize ps_8 (n / 256 / 256 % 256) = p2
  generalize ps_8 (n / 256 / 256 / 256 % 256) = p3
  generalize ps_8 (n / 256 / 256 / 256 / 256 % 256) = p4
  generalize ps_8 (n / 256 / 256 / 256 / 256 / 256 % 256) = p5
  generalize ps_8 (n / 256 / 256 / 256 / 256 / 256 / 256 % 256) = p6
  generalize ps_8 (n / 256 / 256 / 256 / 256 / 256 / 256 / 256 % 256) = p7
  intro q0 q1 q2 q3 q4 q5 q6 q7
  exact ps_fin q0 q1 q2 q3 q4 q5 q6 q7
theorem ps_lt {c : Nat} {j : Nat} (hc : c < 256) : ps_m c j < 256 ^ j := by
  induction j with
  | zero => exact Nat.one_pos
  | succ j ih =>
    show c + 256 * ps_m c j < 256 ^ (j + 1)
    rw [Nat.pow_succ]
    omega
end
section
/-! flooding: the least set of spaces with the sources in it, closed under the valves that let through -/
def Cl (nV : Nat) (lev : Nat → Int64) (fa fb : Nat → Nat) (L : Nat → Bool) (X : Nat → Prop) : Prop :=
  ∀ v, v < nV → L v = true → (X (fa v) → lev (fb v) ≤ lev (fa v) → X (fb v)) ∧ (X (fb v) → lev (fa v) ≤ lev (fb v) → X (fa v))
def Fl (nV : Nat) (lev : Nat → Int64) (fa fb : Nat → Nat) (L S : Nat → Bool) (s : Nat) : Prop :=
  ∀ X : Nat → Prop, (∀ t, S t = true → X t) → Cl nV lev fa fb L X → X s
theorem Fl.src {nV : Nat} {lev : Nat → Int64} {fa fb : Nat → Nat} {L S : Nat → Bool} {s : Nat} (h : S s = true) : Fl nV lev fa fb L S s := fun _ h1 _ => h1 s h
theorem Fl.cl {nV : Nat} {lev : Nat → Int64} {fa fb : Nat → Nat} {L S : Nat → Bool} : Cl nV lev fa fb L (Fl nV lev fa fb L S) := by
  intro v hv hL
  exact ⟨fun h hl X h1 h2 => (h2 v hv hL).1 (h X h1 h2) hl, fun h hl X h1 h2 => (h2 v hv hL).2 (h X h1 h2) hl⟩
theorem Fl.lt {nV n : Nat} {lev : Nat → Int64} {fa fb : Nat → Nat} {L S : Nat → Bool} {s : Nat} (hS : ∀ t, S t = true → t < n) (hv : ∀ v, v < nV → fa v < n ∧ fb v < n) (h : Fl nV lev fa fb L S s) : s < n :=
  h (fun t => t < n) hS (fun v h1 _ => ⟨fun _ _ => (hv v h1).2, fun _ _ => (hv v h1).1⟩)
theorem Fl.congr {nV : Nat} {lev lev' : Nat → Int64} {fa fb fa' fb' : Nat → Nat} {L L' S S' : Nat → Bool} (h1 : ∀ v, v < nV → fa v = fa' v ∧ fb v = fb' v ∧ L v = L' v ∧ lev (fa v) = lev' (fa v) ∧ lev (fb v) = lev' (fb v)) (h2 : ∀ t, S t = S' t) {s : Nat} (h : Fl nV lev fa fb L S s) : Fl nV lev' fa' fb' L' S' s := by
  intro X a b
  refine h X (fun t ht => a t (by rw [← h2]; exact ht)) (fun v hv hL => ?_)
  obtain ⟨e1, e2, e3, e4, e5⟩ := h1 v hv
  have := b v hv (by rw [← e3]; exact hL)
  rw [← e1, ← e2, ← e4, ← e5] at this
  exact this
/-! a long out of its bits -/
def bsum (g : Nat → Bool) : Nat → Nat
  | 0 => 0
  | n + 1 => 2 ^ n * (if g n = true then 1 else 0) + bsum g n
theorem bsum_lt (g : Nat → Bool) : ∀ n, bsum g n < 2 ^ n
  | 0 => Nat.one_pos
  | n + 1 => by
    have := bsum_lt g n
    unfold bsum
    rw [Nat.pow_succ]
    split <;> omega
theorem bsum_bit (g : Nat → Bool) : ∀ n i, (bsum g n).testBit i = (decide (i < n) && g i)
  | 0, i => by simp [bsum]
  | n + 1, i => by
    unfold bsum
    rw [Nat.testBit_two_pow_mul_add _ (bsum_lt g n), bsum_bit g n i]
    by_cases h : i < n
    · simp [h, show i < n + 1 by omega]
    · by_cases h2 : i = n
      · subst h2
        cases g i <;> simp
      · have h3 : ¬ i < n + 1 := by omega
        have h4 : ∃ k, i - n = k + 1 := ⟨i - n - 1, by omega⟩
        obtain ⟨k, hk⟩ := h4
        simp only [h, h3, hk, if_false, decide_false, Bool.false_and]
        cases g n
        · simp
        · simp [Nat.testBit_succ]
def ofB (g : Nat → Bool) : Int64 := lN (bsum g 64)
theorem tb_ofB (g : Nat → Bool) {i : Nat} (hi : i < 64) : tb (ofB g) i = g i := by
  unfold ofB
  rw [tb_lN hi, bsum_bit]; simp [hi]
theorem ofB_eq {x : Int64} {g : Nat → Bool} (h : ∀ i, i < 64 → tb x i = g i) : x = ofB g := tb_ext fun i hi => by rw [h i hi, tb_ofB g hi]
theorem ofB_congr {g h : Nat → Bool} (e : ∀ i, i < 64 → g i = h i) : ofB g = ofB h := tb_ext fun i hi => by rw [tb_ofB g hi, tb_ofB h hi, e i hi]
noncomputable def pB (P : Prop) : Bool := @decide P (Classical.propDecidable P)
theorem pB_t {P : Prop} : pB P = true ↔ P := by unfold pB; exact @decide_eq_true_iff P (Classical.propDecidable P)
theorem pB_f {P : Prop} : pB P = false ↔ ¬ P := by unfold pB; exact @decide_eq_false_iff_not P (Classical.propDecidable P)
theorem pB_congr {P R : Prop} (h : P ↔ R) : pB P = pB R := by
  cases hr : pB R with
  | true => exact pB_t.mpr (h.mpr (pB_t.mp hr))
  | false => exact pB_f.mpr (fun q => pB_f.mp hr (h.mp q))
/-- is there one below n -/
def anyB (g : Nat → Bool) : Nat → Bool
  | 0 => false
  | n + 1 => anyB g n || g n
theorem anyB_t {g : Nat → Bool} : ∀ {n : Nat}, anyB g n = true ↔ ∃ i, i < n ∧ g i = true
  | 0 => by simp [anyB]
  | n + 1 => by
    unfold anyB
    rw [Bool.or_eq_true, anyB_t]
    constructor
    · rintro (⟨i, h1, h2⟩ | h)
      · exact ⟨i, by omega, h2⟩
      · exact ⟨n, by omega, h⟩
    · rintro ⟨i, h1, h2⟩
      by_cases h : i = n
      · subst h; exact Or.inr h2
      · exact Or.inl ⟨i, by omega, h2⟩
theorem anyB_congr {g h : Nat → Bool} {n : Nat} (e : ∀ i, i < n → g i = h i) : anyB g n = anyB h n := by
  induction n with
  | zero => rfl
  | succ n ih => unfold anyB; rw [ih fun i hi => e i (by omega), e n (by omega)]
/-! the dry spaces -/
def dry (w : Nat → Bool) (n : Nat) : Nat := pcn (fun i => !w i) n
theorem dry_up {w : Nat → Bool} {t n : Nat} (ht : t < n) (hw : w t = false) : dry (va_up w t true) n + 1 = dry w n := by
  unfold dry
  refine (pcn_set (g := fun i => !va_up w t true i) (h := fun i => !w i) (k := t) ht ?_ ?_ ?_).symm
  · simp [va_up]
  · simp [hw]
  · intro i hi; simp [va_up, hi]
end
section
/-! a boolean as the machine has it -/
def bI (b : Bool) : Int32 := if b = true then 1 else 0
theorem bI_t : bI true = 1 := rfl
theorem bI_f : bI false = 0 := rfl
theorem bI_0 {b : Bool} : bI b = 0 ↔ b = false := by cases b <;> simp [bI]
theorem bI_inj {a b : Bool} (h : bI a = bI b) : a = b := by cases a <;> cases b <;> simp_all [bI]
theorem bI_eq {a b : Bool} : bI a = bI b ↔ a = b := ⟨bI_inj, fun h => by rw [h]⟩
theorem bI_narrow (b : Bool) : narrow .boolean (.int (bI b)) = .int (bI b) := by cases b <;> decide
theorem bI_fits (b : Bool) : fits .boolean (.int (bI b)) = true := by cases b <;> decide
theorem bI_nar (b : Bool) : vp_nar .boolean (bI b) = bI b := by cases b <;> decide
theorem bI_1 (b : Bool) : ¬ bI b = 0 ↔ b = true := by cases b <;> simp [bI]
theorem nI_c1 : (1 : Int32) = nI 1 := rfl
theorem cmp_le {x y : Int64} : lg_cmp x y ≤ 0 ↔ x ≤ y := by
  unfold lg_cmp
  split
  · rename_i h; exact ⟨fun q => absurd q (by decide), fun q => (Int64.lt_irrefl (Int64.lt_of_lt_of_le h q)).elim⟩
  · rename_i h; have h : x ≤ y := Int64.not_lt.mp h
    split <;> exact ⟨fun _ => h, fun _ => by decide⟩
theorem cmp_eq {x y : Int64} : lg_cmp x y = 0 ↔ x = y := by
  unfold lg_cmp
  split
  · rename_i h; exact ⟨fun q => absurd q (by decide), fun q => by subst q; exact (Int64.lt_irrefl h).elim⟩
  · split
    · rename_i h; exact ⟨fun _ => h, fun _ => rfl⟩
    · rename_i h; exact ⟨fun q => absurd q (by decide), fun q => absurd q h⟩
section BASEW
variable {p : Program} {l : Launch} {e : Env} {R : Room} {s : State} {m : MethodId} {args : Array Value} {below : List Frame} {meth : Method} {c : Code} {H : Heap} {locs : List Loc} {cells slots : Nat} {Q : State → Prop} {cc : ByteArray} {pc : Nat} {ls : Array Slot} {rest : List Value}
theorem tp_i {x : Int32} (y : Int32) (h : x = y) (k : W p l e R s m args below meth c H locs cells slots Q (F0 m pc ls (.int y :: rest))) : W p l e R s m args below meth c H locs cells slots Q (F0 m pc ls (.int x :: rest)) := h ▸ k
theorem tp_l {x : Int64} (y : Int64) (h : x = y) (k : W p l e R s m args below meth c H locs cells slots Q (F0 m pc ls (.long y :: rest))) : W p l e R s m args below meth c H locs cells slots Q (F0 m pc ls (.long x :: rest)) := h ▸ k
theorem nv_ge (hx : p.tables.exec = Jvm.exec) (hb : c.code = cc) {x y : Nat} {off : Int} {tgt : Nat} (hdg : decode cc pc = .ok (.if_icmp .ge off, 3)) (ht : (pc : Int) + off = (tgt : Int)) (h1 : x < 2 ^ 31) (h2 : y < 2 ^ 31) (kt : y ≤ x → W p l e R s m args below meth c H locs cells slots Q (F0 m tgt ls rest)) (kf : x < y → W p l e R s m args below meth c H locs cells slots Q (F0 m (pc + 3) ls rest)) : W p l e R s m args below meth c H locs cells slots Q (F0 m pc ls (.int (nI y) :: .int (nI x) :: rest)) :=
  lv_icmp_ge hx hb hdg ht (fun h => kt ((nI_leI h2 h1).mp h)) (fun h => kf (Nat.not_le.mp fun q => h ((nI_leI h2 h1).mpr q)))
theorem nv_lt (hx : p.tables.exec = Jvm.exec) (hb : c.code = cc) {x y : Nat} {off : Int} {tgt : Nat} (hdg : decode cc pc = .ok (.if_icmp .lt off, 3)) (ht : (pc : Int) + off = (tgt : Int)) (h1 : x < 2 ^ 31) (h2 : y < 2 ^ 31) (kt : x < y → W p l e R s m args below meth c H locs cells slots Q (F0 m tgt ls rest)) (kf : y ≤ x → W p l e R s m args below meth c H locs cells slots Q (F0 m (pc + 3) ls rest)) : W p l e R s m args below meth c H locs cells slots Q (F0 m pc ls (.int (nI y) :: .int (nI x) :: rest)) :=
  lv_icmp_lt hx hb hdg ht (fun h => kt ((nI_ltI h1 h2).mp h)) (fun h => kf (Nat.not_lt.mp fun q => h ((nI_ltI h1 h2).mpr q)))
theorem nv_gt (hx : p.tables.exec = Jvm.exec) (hb : c.code = cc) {x y : Nat} {off : Int} {tgt : Nat} (hdg : decode cc pc = .ok (.if_icmp .gt off, 3)) (ht : (pc : Int) + off = (tgt : Int)) (h1 : x < 2 ^ 31) (h2 : y < 2 ^ 31) (kt : y < x → W p l e R s m args below meth c H locs cells slots Q (F0 m tgt ls rest)) (kf : x ≤ y → W p l e R s m args below meth c H locs cells slots Q (F0 m (pc + 3) ls rest)) : W p l e R s m args below meth c H locs cells slots Q (F0 m pc ls (.int (nI y) :: .int (nI x) :: rest)) :=
  lv_icmp_gt hx hb hdg ht (fun h => kt ((nI_ltI h2 h1).mp h)) (fun h => kf (Nat.not_lt.mp fun q => h ((nI_ltI h2 h1).mpr q)))
theorem nv_le (hx : p.tables.exec = Jvm.exec) (hb : c.code = cc) {x y : Nat} {off : Int} {tgt : Nat} (hdg : decode cc pc = .ok (.if_icmp .le off, 3)) (ht : (pc : Int) + off = (tgt : Int)) (h1 : x < 2 ^ 31) (h2 : y < 2 ^ 31) (kt : x ≤ y → W p l e R s m args below meth c H locs cells slots Q (F0 m tgt ls rest)) (kf : y < x → W p l e R s m args below meth c H locs cells slots Q (F0 m (pc + 3) ls rest)) : W p l e R s m args below meth c H locs cells slots Q (F0 m pc ls (.int (nI y) :: .int (nI x) :: rest)) :=
  lv_icmp_le hx hb hdg ht (fun h => kt ((nI_leI h1 h2).mp h)) (fun h => kf (Nat.not_le.mp fun q => h ((nI_leI h1 h2).mpr q)))
theorem nv_eq (hx : p.tables.exec = Jvm.exec) (hb : c.code = cc) {x y : Nat} {off : Int} {tgt : Nat} (hdg : decode cc pc = .ok (.if_icmp .eq off, 3)) (ht : (pc : Int) + off = (tgt : Int)) (h1 : x < 2 ^ 31) (h2 : y < 2 ^ 31) (kt : x = y → W p l e R s m args below meth c H locs cells slots Q (F0 m tgt ls rest)) (kf : ¬ x = y → W p l e R s m args below meth c H locs cells slots Q (F0 m (pc + 3) ls rest)) : W p l e R s m args below meth c H locs cells slots Q (F0 m pc ls (.int (nI y) :: .int (nI x) :: rest)) :=
  lv_icmp_eq hx hb hdg ht (fun h => kt ((nI_eq h1 h2).mp h)) (fun h => kf fun q => h ((nI_eq h1 h2).mpr q))
theorem nv_ne (hx : p.tables.exec = Jvm.exec) (hb : c.code = cc) {x y : Nat} {off : Int} {tgt : Nat} (hdg : decode cc pc = .ok (.if_icmp .ne off, 3)) (ht : (pc : Int) + off = (tgt : Int)) (h1 : x < 2 ^ 31) (h2 : y < 2 ^ 31) (kt : ¬ x = y → W p l e R s m args below meth c H locs cells slots Q (F0 m tgt ls rest)) (kf : x = y → W p l e R s m args below meth c H locs cells slots Q (F0 m (pc + 3) ls rest)) : W p l e R s m args below meth c H locs cells slots Q (F0 m pc ls (.int (nI y) :: .int (nI x) :: rest)) :=
  lv_icmp_ne hx hb hdg ht (fun h => kt fun q => h ((nI_eq h1 h2).mpr q)) (fun h => kf ((nI_eq h1 h2).mp h))
theorem bv_eq (hx : p.tables.exec = Jvm.exec) (hb : c.code = cc) {x y : Bool} {off : Int} {tgt : Nat} (hdg : decode cc pc = .ok (.if_icmp .eq off, 3)) (ht : (pc : Int) + off = (tgt : Int)) (kt : x = y → W p l e R s m args below meth c H locs cells slots Q (F0 m tgt ls rest)) (kf : ¬ x = y → W p l e R s m args below meth c H locs cells slots Q (F0 m (pc + 3) ls rest)) : W p l e R s m args below meth c H locs cells slots Q (F0 m pc ls (.int (bI y) :: .int (bI x) :: rest)) :=
  lv_icmp_eq hx hb hdg ht (fun h => kt (bI_inj h)) (fun h => kf fun q => h (by rw [q]))
theorem bv_ne (hx : p.tables.exec = Jvm.exec) (hb : c.code = cc) {x y : Bool} {off : Int} {tgt : Nat} (hdg : decode cc pc = .ok (.if_icmp .ne off, 3)) (ht : (pc : Int) + off = (tgt : Int)) (kt : ¬ x = y → W p l e R s m args below meth c H locs cells slots Q (F0 m tgt ls rest)) (kf : x = y → W p l e R s m args below meth c H locs cells slots Q (F0 m (pc + 3) ls rest)) : W p l e R s m args below meth c H locs cells slots Q (F0 m pc ls (.int (bI y) :: .int (bI x) :: rest)) :=
  lv_icmp_ne hx hb hdg ht (fun h => kt fun q => h (by rw [q])) (fun h => kf (bI_inj h))
theorem b0_eq (hx : p.tables.exec = Jvm.exec) (hb : c.code = cc) {x : Bool} {off : Int} {tgt : Nat} (hdg : decode cc pc = .ok (.ifCond .eq off, 3)) (ht : (pc : Int) + off = (tgt : Int)) (kt : x = false → W p l e R s m args below meth c H locs cells slots Q (F0 m tgt ls rest)) (kf : x = true → W p l e R s m args below meth c H locs cells slots Q (F0 m (pc + 3) ls rest)) : W p l e R s m args below meth c H locs cells slots Q (F0 m pc ls (.int (bI x) :: rest)) :=
  lv_if_eq hx hb hdg ht (fun h => kt (bI_0.mp h)) (fun h => kf ((bI_1 x).mp h))
theorem b0_ne (hx : p.tables.exec = Jvm.exec) (hb : c.code = cc) {x : Bool} {off : Int} {tgt : Nat} (hdg : decode cc pc = .ok (.ifCond .ne off, 3)) (ht : (pc : Int) + off = (tgt : Int)) (kt : x = true → W p l e R s m args below meth c H locs cells slots Q (F0 m tgt ls rest)) (kf : x = false → W p l e R s m args below meth c H locs cells slots Q (F0 m (pc + 3) ls rest)) : W p l e R s m args below meth c H locs cells slots Q (F0 m pc ls (.int (bI x) :: rest)) :=
  lv_if_ne hx hb hdg ht (fun h => kt ((bI_1 x).mp h)) (fun h => kf (bI_0.mp h))
theorem n0_eq (hx : p.tables.exec = Jvm.exec) (hb : c.code = cc) {x : Nat} {off : Int} {tgt : Nat} (hdg : decode cc pc = .ok (.ifCond .eq off, 3)) (ht : (pc : Int) + off = (tgt : Int)) (h1 : x < 2 ^ 31) (kt : x = 0 → W p l e R s m args below meth c H locs cells slots Q (F0 m tgt ls rest)) (kf : ¬ x = 0 → W p l e R s m args below meth c H locs cells slots Q (F0 m (pc + 3) ls rest)) : W p l e R s m args below meth c H locs cells slots Q (F0 m pc ls (.int (nI x) :: rest)) :=
  lv_if_eq hx hb hdg ht (fun h => kt ((nI_eq h1 (by decide)).mp (h.trans nI_0.symm))) (fun h => kf fun q => h (by rw [q]; exact nI_0))
theorem n0_ne (hx : p.tables.exec = Jvm.exec) (hb : c.code = cc) {x : Nat} {off : Int} {tgt : Nat} (hdg : decode cc pc = .ok (.ifCond .ne off, 3)) (ht : (pc : Int) + off = (tgt : Int)) (h1 : x < 2 ^ 31) (kt : ¬ x = 0 → W p l e R s m args below meth c H locs cells slots Q (F0 m tgt ls rest)) (kf : x = 0 → W p l e R s m args below meth c H locs cells slots Q (F0 m (pc + 3) ls rest)) : W p l e R s m args below meth c H locs cells slots Q (F0 m pc ls (.int (nI x) :: rest)) :=
  lv_if_ne hx hb hdg ht (fun h => kt fun q => h (by rw [q]; exact nI_0)) (fun h => kf ((nI_eq h1 (by decide)).mp (h.trans nI_0.symm)))
theorem n0_le (hx : p.tables.exec = Jvm.exec) (hb : c.code = cc) {x : Nat} {off : Int} {tgt : Nat} (hdg : decode cc pc = .ok (.ifCond .le off, 3)) (ht : (pc : Int) + off = (tgt : Int)) (h1 : x < 2 ^ 31) (kt : x = 0 → W p l e R s m args below meth c H locs cells slots Q (F0 m tgt ls rest)) (kf : ¬ x = 0 → W p l e R s m args below meth c H locs cells slots Q (F0 m (pc + 3) ls rest)) : W p l e R s m args below meth c H locs cells slots Q (F0 m pc ls (.int (nI x) :: rest)) :=
  lv_if_le hx hb hdg ht (fun h => kt (by rw [← nI_0] at h; have := (nI_leI h1 (by decide)).mp h; omega)) (fun h => kf fun q => h (by rw [q]; exact nI_le (Nat.le_refl 0) (by decide)))
theorem n0_gt (hx : p.tables.exec = Jvm.exec) (hb : c.code = cc) {x : Nat} {off : Int} {tgt : Nat} (hdg : decode cc pc = .ok (.ifCond .gt off, 3)) (ht : (pc : Int) + off = (tgt : Int)) (h1 : x < 2 ^ 31) (kt : ¬ x = 0 → W p l e R s m args below meth c H locs cells slots Q (F0 m tgt ls rest)) (kf : x = 0 → W p l e R s m args below meth c H locs cells slots Q (F0 m (pc + 3) ls rest)) : W p l e R s m args below meth c H locs cells slots Q (F0 m pc ls (.int (nI x) :: rest)) :=
  lv_if_gt hx hb hdg ht (fun h => kt fun q => by rw [q] at h; exact absurd h (by decide)) (fun h => kf (Classical.byContradiction fun q => h (by rw [← nI_0]; exact nI_lt (Nat.pos_of_ne_zero q) h1)))
theorem l0_eq (hx : p.tables.exec = Jvm.exec) (hb : c.code = cc) {x y : Int64} {off : Int} {tgt : Nat} (hdg : decode cc pc = .ok (.ifCond .eq off, 3)) (ht : (pc : Int) + off = (tgt : Int)) (kt : x = y → W p l e R s m args below meth c H locs cells slots Q (F0 m tgt ls rest)) (kf : ¬ x = y → W p l e R s m args below meth c H locs cells slots Q (F0 m (pc + 3) ls rest)) : W p l e R s m args below meth c H locs cells slots Q (F0 m pc ls (.int (lg_cmp x y) :: rest)) :=
  lv_if_eq hx hb hdg ht (fun h => kt (cmp_eq.mp h)) (fun h => kf fun q => h (cmp_eq.mpr q))
theorem l0_ne (hx : p.tables.exec = Jvm.exec) (hb : c.code = cc) {x y : Int64} {off : Int} {tgt : Nat} (hdg : decode cc pc = .ok (.ifCond .ne off, 3)) (ht : (pc : Int) + off = (tgt : Int)) (kt : ¬ x = y → W p l e R s m args below meth c H locs cells slots Q (F0 m tgt ls rest)) (kf : x = y → W p l e R s m args below meth c H locs cells slots Q (F0 m (pc + 3) ls rest)) : W p l e R s m args below meth c H locs cells slots Q (F0 m pc ls (.int (lg_cmp x y) :: rest)) :=
  lv_if_ne hx hb hdg ht (fun h => kt fun q => h (cmp_eq.mpr q)) (fun h => kf (cmp_eq.mp h))
theorem l0_gt (hx : p.tables.exec = Jvm.exec) (hb : c.code = cc) {x y : Int64} {off : Int} {tgt : Nat} (hdg : decode cc pc = .ok (.ifCond .gt off, 3)) (ht : (pc : Int) + off = (tgt : Int)) (kt : ¬ x ≤ y → W p l e R s m args below meth c H locs cells slots Q (F0 m tgt ls rest)) (kf : x ≤ y → W p l e R s m args below meth c H locs cells slots Q (F0 m (pc + 3) ls rest)) : W p l e R s m args below meth c H locs cells slots Q (F0 m pc ls (.int (lg_cmp x y) :: rest)) :=
  lv_if_gt hx hb hdg ht (fun h => kt fun q => absurd (cmp_le.mpr q) (Int32.not_le.mpr h)) (fun h => kf (cmp_le.mp (Int32.not_lt.mp h)))
theorem l0_le (hx : p.tables.exec = Jvm.exec) (hb : c.code = cc) {x y : Int64} {off : Int} {tgt : Nat} (hdg : decode cc pc = .ok (.ifCond .le off, 3)) (ht : (pc : Int) + off = (tgt : Int)) (kt : x ≤ y → W p l e R s m args below meth c H locs cells slots Q (F0 m tgt ls rest)) (kf : ¬ x ≤ y → W p l e R s m args below meth c H locs cells slots Q (F0 m (pc + 3) ls rest)) : W p l e R s m args below meth c H locs cells slots Q (F0 m pc ls (.int (lg_cmp x y) :: rest)) :=
  lv_if_le hx hb hdg ht (fun h => kt (cmp_le.mp h)) (fun h => kf fun q => h (cmp_le.mpr q))
variable {D : va_G} {cl : List vw_C} {tys : List (ClassId × FieldType)} {ws : va_W} {a : Nat} {A : Nat → Prop} {H0 : Heap}
theorem ld_i (hx : p.tables.exec = Jvm.exec) (hb : c.code = cc) (hK : va_K D cl tys s) (hP : va_P D cl ws H) (q0 t0 : Nat) {cA : ClassId} {n : Nat} {f : Nat → Int32} (ha : ws[q0]? = some (a, .inl (cA, n, .inl f))) (ht : tys[t0]? = some (cA, .int)) {i : Nat} (v : Int32) (hi : i < n) (hn : n < 2 ^ 31) (hv : f i = v) (hdg : decode cc pc = .ok (.iaload, 1)) (kk : W p l e R s m args below meth c H locs cells slots Q (F0 m (pc + 1) ls (.int v :: rest))) : W p l e R s m args below meth c H locs cells slots Q (F0 m pc ls (.int (nI i) :: .ref a :: rest)) :=
  va_iald hx hb hK hP q0 t0 ha ht (vp_in_nI hi hn) hdg (tp_i v (by rw [nI_clamp (Nat.lt_trans hi hn)]; exact hv) kk)
theorem ld_z (hx : p.tables.exec = Jvm.exec) (hb : c.code = cc) (hK : va_K D cl tys s) (hP : va_P D cl ws H) (q0 t0 : Nat) {cA : ClassId} {n : Nat} {f : Nat → Int32} (ha : ws[q0]? = some (a, .inl (cA, n, .inl f))) (ht : tys[t0]? = some (cA, .boolean)) {i : Nat} (v : Int32) (hi : i < n) (hn : n < 2 ^ 31) (hv : f i = v) (hdg : decode cc pc = .ok (.baload, 1)) (kk : W p l e R s m args below meth c H locs cells slots Q (F0 m (pc + 1) ls (.int v :: rest))) : W p l e R s m args below meth c H locs cells slots Q (F0 m pc ls (.int (nI i) :: .ref a :: rest)) :=
  va_zald hx hb hK hP q0 t0 ha ht (vp_in_nI hi hn) hdg (tp_i v (by rw [nI_clamp (Nat.lt_trans hi hn)]; exact hv) kk)
theorem ld_l (hx : p.tables.exec = Jvm.exec) (hb : c.code = cc) (hK : va_K D cl tys s) (hP : va_P D cl ws H) (q0 t0 : Nat) {cA : ClassId} {n : Nat} {f : Nat → Int64} (ha : ws[q0]? = some (a, .inl (cA, n, .inr (.inl f)))) (ht : tys[t0]? = some (cA, .long)) {i : Nat} (v : Int64) (hi : i < n) (hn : n < 2 ^ 31) (hv : f i = v) (hdg : decode cc pc = .ok (.laload, 1)) (kk : W p l e R s m args below meth c H locs cells slots Q (F0 m (pc + 1) ls (.long v :: rest))) : W p l e R s m args below meth c H locs cells slots Q (F0 m pc ls (.int (nI i) :: .ref a :: rest)) :=
  va_lald hx hb hK hP q0 t0 ha ht (vp_in_nI hi hn) hdg (tp_l v (by rw [nI_clamp (Nat.lt_trans hi hn)]; exact hv) kk)
theorem st_i (hx : p.tables.exec = Jvm.exec) (hb : c.code = cc) (hK : va_K D cl tys s) (hP : va_P D cl ws H) (hD : va_D A ws) (hS : va_S A H0 H locs) (q0 t0 : Nat) {cA : ClassId} {n : Nat} {f : Nat → Int32} (ha : ws[q0]? = some (a, .inl (cA, n, .inl f))) (ht : tys[t0]? = some (cA, .int)) {i : Nat} {x : Int32} (g : Nat → Int32) (hi : i < n) (hn : n < 2 ^ 31) (hg : upd f i x = g) (hdg : decode cc pc = .ok (.iastore, 1))
    (kk : ∀ (H1 : Heap) (locs1 : List Loc), va_P D cl (ws.set q0 (a, .inl (cA, n, .inl g))) H1 → va_D A (ws.set q0 (a, .inl (cA, n, .inl g))) → va_S A H0 H1 locs1 → W p l e R s m args below meth c H1 locs1 cells slots Q (F0 m (pc + 1) ls rest)) : W p l e R s m args below meth c H locs cells slots Q (F0 m pc ls (.int x :: .int (nI i) :: .ref a :: rest)) :=
  va_iast hx hb hK hP hD hS q0 t0 ha ht (vp_in_nI hi hn) hdg (fun H1 locs1 h1 h2 h3 => by
    rw [nI_clamp (Nat.lt_trans hi hn), hg] at h1 h2
    exact kk H1 locs1 h1 h2 h3)
theorem st_z (hx : p.tables.exec = Jvm.exec) (hb : c.code = cc) (hK : va_K D cl tys s) (hP : va_P D cl ws H) (hD : va_D A ws) (hS : va_S A H0 H locs) (q0 t0 : Nat) {cA : ClassId} {n : Nat} {f : Nat → Int32} (ha : ws[q0]? = some (a, .inl (cA, n, .inl f))) (ht : tys[t0]? = some (cA, .boolean)) {i : Nat} {b : Bool} (g : Nat → Int32) (hi : i < n) (hn : n < 2 ^ 31) (hg : upd f i (bI b) = g) (hdg : decode cc pc = .ok (.bastore, 1))
    (kk : ∀ (H1 : Heap) (locs1 : List Loc), va_P D cl (ws.set q0 (a, .inl (cA, n, .inl g))) H1 → va_D A (ws.set q0 (a, .inl (cA, n, .inl g))) → va_S A H0 H1 locs1 → W p l e R s m args below meth c H1 locs1 cells slots Q (F0 m (pc + 1) ls rest)) : W p l e R s m args below meth c H locs cells slots Q (F0 m pc ls (.int (bI b) :: .int (nI i) :: .ref a :: rest)) :=
  va_zast hx hb hK hP hD hS q0 t0 ha ht (vp_in_nI hi hn) hdg (fun H1 locs1 h1 h2 h3 => by
    rw [nI_clamp (Nat.lt_trans hi hn), bI_nar, hg] at h1 h2
    exact kk H1 locs1 h1 h2 h3)
theorem st_l (hx : p.tables.exec = Jvm.exec) (hb : c.code = cc) (hK : va_K D cl tys s) (hP : va_P D cl ws H) (hD : va_D A ws) (hS : va_S A H0 H locs) (q0 t0 : Nat) {cA : ClassId} {n : Nat} {f : Nat → Int64} (ha : ws[q0]? = some (a, .inl (cA, n, .inr (.inl f)))) (ht : tys[t0]? = some (cA, .long)) {i : Nat} {x : Int64} (g : Nat → Int64) (hi : i < n) (hn : n < 2 ^ 31) (hg : vp_updL f i x = g) (hdg : decode cc pc = .ok (.lastore, 1))
    (kk : ∀ (H1 : Heap) (locs1 : List Loc), va_P D cl (ws.set q0 (a, .inl (cA, n, .inr (.inl g)))) H1 → va_D A (ws.set q0 (a, .inl (cA, n, .inr (.inl g)))) → va_S A H0 H1 locs1 → W p l e R s m args below meth c H1 locs1 cells slots Q (F0 m (pc + 1) ls rest)) : W p l e R s m args below meth c H locs cells slots Q (F0 m pc ls (.long x :: .int (nI i) :: .ref a :: rest)) :=
  va_last hx hb hK hP hD hS q0 t0 ha ht (vp_in_nI hi hn) hdg (fun H1 locs1 h1 h2 h3 => by
    rw [nI_clamp (Nat.lt_trans hi hn), hg] at h1 h2
    exact kk H1 locs1 h1 h2 h3)
end BASEW
/-- a read-only method's start: the world, the tables -/
abbrev sPc (D : va_G) (cl : List vw_C) (tys : List (ClassId × FieldType)) (w : va_W) (av : List Value) : Array Value → State → Prop := va_Pc av (fun U => va_P D cl w U.heap ∧ va_K D cl tys U ∧ NW U)
/-- a writing method's start -/
abbrev qPc (D : va_G) (cl : List vw_C) (tys : List (ClassId × FieldType)) (w : va_W) (sz : Nat) (av : List Value) : Array Value → State → Prop := va_Pc av (fun U => U.heap.size = sz ∧ va_P D cl w U.heap ∧ va_K D cl tys U ∧ va_D (fun _ => True) w ∧ NW U)
/-- the world behind a writing method -/
abbrev qB {S : Type} (D : va_G) (cl : List vw_C) (tys : List (ClassId × FieldType)) (w : va_W) (sz : Nat) (w1 : S → va_W) : S → State → Prop := fun u t => va_P D cl (w1 u) t.heap ∧ va_K D cl tys t ∧ va_D (va_A w sz) (w1 u)
theorem fb_S {D : va_G} {cl : List vw_C} {tys : List (ClassId × FieldType)} {w : va_W} {av : List Value} : FrameBlind (sPc D cl tys w av) := fun a U g mk q => by
  obtain ⟨q0, qP, qK, qN⟩ := q
  exact ⟨q0, qP, va_K.moved (u := U) (U := U.calling g mk a) (Vm.Alike.refl U.vm) qK, NW.same (u := U) rfl qN⟩
theorem fb_Q {D : va_G} {cl : List vw_C} {tys : List (ClassId × FieldType)} {w : va_W} {sz : Nat} {av : List Value} : FrameBlind (qPc D cl tys w sz av) := fun a U g mk q => by
  obtain ⟨q0, q1, qP, qK, qD, qN⟩ := q
  exact ⟨q0, q1, qP, va_K.moved (u := U) (U := U.calling g mk a) (Vm.Alike.refl U.vm) qK, qD, NW.same (u := U) rfl qN⟩
theorem fb_0 {av : List Value} : FrameBlind (va_Pc av NW) := fun a U g mk q => ⟨q.1, NW.same (u := U) rfl q.2⟩
theorem pv_S {s : State} {H : Heap} {D : va_G} {cl : List vw_C} {tys : List (ClassId × FieldType)} {w : va_W} {b ci q0 : Nat} {q : vw_C} {fs : List Value} (As : List Value) (hN : NW s) (hK : va_K D cl tys s) (hP : va_P D cl w H) (hc : cl[ci]? = some q) (he : w[q0]? = some (b, .inr (ci, fs))) : PreV s H q.1 b (sPc D cl tys w (.ref b :: As)) As :=
  ⟨fb_S, va_recv hK hP hc he, fun U hU hW => ⟨rfl, by rw [hU]; exact hP, va_K.moved hW.alike hK, NW.warm hW hN⟩⟩
theorem pv_Q {s : State} {H : Heap} {D : va_G} {cl : List vw_C} {tys : List (ClassId × FieldType)} {w : va_W} {b ci q0 : Nat} {q : vw_C} {fs : List Value} {A : Nat → Prop} (As : List Value) (hN : NW s) (hK : va_K D cl tys s) (hP : va_P D cl w H) (hD : va_D A w) (hc : cl[ci]? = some q) (he : w[q0]? = some (b, .inr (ci, fs))) : PreV s H q.1 b (qPc D cl tys w H.size (.ref b :: As)) As :=
  ⟨fb_Q, va_recv hK hP hc he, fun U hU hW => ⟨rfl, by rw [hU], by rw [hU]; exact hP, va_K.moved hW.alike hK, hD.weaken (fun _ _ _ _ => trivial), NW.warm hW hN⟩⟩
theorem ps_S {s : State} {H : Heap} {D : va_G} {cl : List vw_C} {tys : List (ClassId × FieldType)} {w : va_W} (As : List Value) (hN : NW s) (hK : va_K D cl tys s) (hP : va_P D cl w H) : PreS s H (sPc D cl tys w As) As :=
  ⟨fb_S, fun U hU hW => ⟨rfl, by rw [hU]; exact hP, va_K.moved hW.alike hK, NW.warm hW hN⟩⟩
theorem ps_0 {s : State} {H : Heap} (As : List Value) (hN : NW s) : PreS s H (va_Pc As NW) As := ⟨fb_0, fun _ _ hW => ⟨rfl, NW.warm hW hN⟩⟩
section CALLQ
variable {p : Program} {l : Launch} {e : Env} {R : Room} {s : State} {m : MethodId} {args : Array Value} {below : List Frame} {meth : Method} {c : Code} {H : Heap} {locs : List Loc} {cells slots : Nat} {Q : State → Prop}
variable {pc : Nat} {ls : Array Slot} {rest st0 : List Value} {a : Array Value} {A0 : Nat → Prop} {H0 : Heap} {mc ms : Nat}
variable {D : va_G} {cl : List vw_C} {tys : List (ClassId × FieldType)} {w : va_W} {S : Type} {w1 : S → va_W}
theorem own_A (hD : va_D A0 w) (hS : va_S A0 H0 H locs) (hA : ∀ q, H0.size ≤ q → A0 q) : ∀ q, va_A w H.size q → A0 q := by
  intro q h
  rcases h with ⟨k, e, h⟩ | h
  · exact hD.2 k (q, e) h
  · exact hA q (Nat.le_trans hS.1 h)
theorem cq_i {post : Int32 → S → Prop} (hr : va_Run p l e R s m args below meth c H locs cells slots mc ms (F0 m pc ls st0) rest (va_Qi post (qB D cl tys w H.size w1) (va_A w H.size) a) (va_A w H.size)) (hD : va_D A0 w) (hS : va_S A0 H0 H locs) (hA : ∀ q, H0.size ≤ q → A0 q)
    (kk : ∀ (r : Int32) (u : S) (H1 : Heap) (locs1 : List Loc), post r u → va_P D cl (w1 u) H1 → va_D A0 (w1 u) → va_S A0 H0 H1 locs1 → W p l e R s m args below meth c H1 locs1 (cells + mc) (slots + ms) Q (F0 m (pc + 3) ls (.int r :: rest))) : W p l e R s m args below meth c H locs cells slots Q (F0 m pc ls st0) :=
  va_calli hr hS (fun q _ h => own_A hD hS hA q h) (own_A hD hS hA) (fun r u t H1 locs1 ht _ hw hB _ _ hS1 => kk r u H1 locs1 hw (ht ▸ hB.1) (hB.2.2.weaken (fun _ q _ h => own_A hD hS hA q.1 h)) hS1)
theorem cq_l {post : Int64 → S → Prop} (hr : va_Run p l e R s m args below meth c H locs cells slots mc ms (F0 m pc ls st0) rest (va_Ql post (qB D cl tys w H.size w1) (va_A w H.size) a) (va_A w H.size)) (hD : va_D A0 w) (hS : va_S A0 H0 H locs) (hA : ∀ q, H0.size ≤ q → A0 q)
    (kk : ∀ (r : Int64) (u : S) (H1 : Heap) (locs1 : List Loc), post r u → va_P D cl (w1 u) H1 → va_D A0 (w1 u) → va_S A0 H0 H1 locs1 → W p l e R s m args below meth c H1 locs1 (cells + mc) (slots + ms) Q (F0 m (pc + 3) ls (.long r :: rest))) : W p l e R s m args below meth c H locs cells slots Q (F0 m pc ls st0) :=
  va_calll hr hS (fun q _ h => own_A hD hS hA q h) (own_A hD hS hA) (fun r u t H1 locs1 ht _ hw hB _ _ hS1 => kk r u H1 locs1 hw (ht ▸ hB.1) (hB.2.2.weaken (fun _ q _ h => own_A hD hS hA q.1 h)) hS1)
theorem cq_v {post : S → Prop} (hr : va_Run p l e R s m args below meth c H locs cells slots mc ms (F0 m pc ls st0) rest (va_Qv post (qB D cl tys w H.size w1) (va_A w H.size) a) (va_A w H.size)) (hD : va_D A0 w) (hS : va_S A0 H0 H locs) (hA : ∀ q, H0.size ≤ q → A0 q)
    (kk : ∀ (u : S) (H1 : Heap) (locs1 : List Loc), post u → va_P D cl (w1 u) H1 → va_D A0 (w1 u) → va_S A0 H0 H1 locs1 → W p l e R s m args below meth c H1 locs1 (cells + mc) (slots + ms) Q (F0 m (pc + 3) ls rest)) : W p l e R s m args below meth c H locs cells slots Q (F0 m pc ls st0) :=
  va_callv hr hS (fun q _ h => own_A hD hS hA q h) (own_A hD hS hA) (fun u t H1 locs1 ht _ hw hB _ _ hS1 => kk u H1 locs1 hw (ht ▸ hB.1) (hB.2.2.weaken (fun _ q _ h => own_A hD hS hA q.1 h)) hS1)
end CALLQ
theorem upd_nI (f : Nat → Nat) (k x : Nat) : upd (fun j => nI (f j)) k (nI x) = fun j => nI (va_up f k x j) := by
  funext j; unfold upd va_up; split <;> rfl
theorem upd_bI (f : Nat → Bool) (k : Nat) (x : Bool) : upd (fun j => bI (f j)) k (bI x) = fun j => bI (va_up f k x j) := by
  funext j; unfold upd va_up; split <;> rfl
theorem updL_up (f : Nat → Int64) (k : Nat) (x : Int64) : vp_updL f k x = va_up f k x := rfl
end
section
def F_P : u_T := fun k => match k with
  | 0 => ("SeatProofs$Plant", "spaces", "I", false)
  | 1 => ("SeatProofs$Plant", "valves", "I", false)
  | 2 => ("SeatProofs$Plant", "levels", "[J", true)
  | 3 => ("SeatProofs$Plant", "sources", "[J", true)
  | 4 => ("SeatProofs$Plant", "friends", "[I", true)
  | 5 => ("SeatProofs$Plant", "oneEnd", "[I", true)
  | 6 => ("SeatProofs$Plant", "otherEnd", "[I", true)
  | 7 => ("SeatProofs$Plant", "openValves", "J", false)
  | 8 => ("SeatProofs$Plant", "unsureValves", "J", false)
  | 9 => ("SeatProofs$Plant", "doubleValves", "J", false)
  | 10 => ("SeatProofs$Plant", "ends", "[J", true)
  | _ => ("SeatProofs$Plant", "falls", "[J", true)
def t_P : Nat → FieldType := fun k => match k with
  | 0 => .int
  | 1 => .int
  | 2 => .array .long
  | 3 => .array .long
  | 4 => .array .int
  | 5 => .array .int
  | 6 => .array .int
  | 7 => .long
  | 8 => .long
  | 9 => .long
  | 10 => .array .long
  | _ => .array .long
theorem n_P : ∀ a, a < 12 → ∀ b, b < 12 → a ≠ b → (F_P a).2.1 ≠ (F_P b).2.1 := by decide +kernel
theorem t_P_ok : ∀ k, k < 12 → parseFieldDescriptor (F_P k).2.2.1 = some (t_P k) := by decide +kernel
def F_F : u_T := fun k => match k with
  | 0 => ("SeatProofs$Flow", "plant", "LSeatProofs$Plant;", true)
  | 1 => ("SeatProofs$Flow", "letting", "J", false)
  | 2 => ("SeatProofs$Flow", "ways", "[J", true)
  | _ => ("SeatProofs$Flow", "floods", "[J", true)
def t_F : Nat → FieldType := fun k => match k with
  | 0 => .object "SeatProofs$Plant"
  | 1 => .long
  | 2 => .array .long
  | _ => .array .long
theorem n_F : ∀ a, a < 4 → ∀ b, b < 4 → a ≠ b → (F_F a).2.1 ≠ (F_F b).2.1 := by decide +kernel
theorem t_F_ok : ∀ k, k < 4 → parseFieldDescriptor (F_F k).2.2.1 = some (t_F k) := by decide +kernel
def F_Q : u_T := fun k => match k with
  | 0 => ("SeatProofs$Proof", "count", "I", false)
  | 1 => ("SeatProofs$Proof", "failure", "[I", true)
  | 2 => ("SeatProofs$Proof", "liquid", "[I", true)
  | 3 => ("SeatProofs$Proof", "flood", "[J", true)
  | _ => ("SeatProofs$Proof", "cut", "[J", true)
def t_Q : Nat → FieldType := fun k => match k with
  | 0 => .int
  | 1 => .array .int
  | 2 => .array .int
  | 3 => .array .long
  | _ => .array .long
theorem n_Q : ∀ a, a < 5 → ∀ b, b < 5 → a ≠ b → (F_Q a).2.1 ≠ (F_Q b).2.1 := by decide +kernel
theorem t_Q_ok : ∀ k, k < 5 → parseFieldDescriptor (F_Q k).2.2.1 = some (t_Q k) := by decide +kernel
def F_S : u_T := fun k => match k with
  | 0 => ("SeatProofs", "plant", "LSeatProofs$Plant;", true)
  | 1 => ("SeatProofs", "flow", "LSeatProofs$Flow;", true)
  | 2 => ("SeatProofs", "proof", "LSeatProofs$Proof;", true)
  | 3 => ("SeatProofs", "found", "[I", true)
  | 4 => ("SeatProofs", "foundUnsafe", "Z", false)
  | _ => ("SeatProofs", "remade", "I", false)
def t_S : Nat → FieldType := fun k => match k with
  | 0 => .object "SeatProofs$Plant"
  | 1 => .object "SeatProofs$Flow"
  | 2 => .object "SeatProofs$Proof"
  | 3 => .array .int
  | 4 => .boolean
  | _ => .int
theorem n_S : ∀ a, a < 6 → ∀ b, b < 6 → a ≠ b → (F_S a).2.1 ≠ (F_S b).2.1 := by decide +kernel
theorem t_S_ok : ∀ k, k < 6 → parseFieldDescriptor (F_S k).2.2.1 = some (t_S k) := by decide +kernel
def F_M : u_T := fun k => match k with
  | 0 => ("SeatProofsModel", "liquids", "[I", true)
  | 1 => ("SeatProofsModel", "levels", "[J", true)
  | 2 => ("SeatProofsModel", "spaces", "I", false)
  | 3 => ("SeatProofsModel", "firsts", "[I", true)
  | 4 => ("SeatProofsModel", "seconds", "[I", true)
  | 5 => ("SeatProofsModel", "seats", "[I", true)
  | 6 => ("SeatProofsModel", "opens", "[Z", true)
  | 7 => ("SeatProofsModel", "doubts", "[Z", true)
  | 8 => ("SeatProofsModel", "valves", "I", false)
  | 9 => ("SeatProofsModel", "mays", "[Z", true)
  | 10 => ("SeatProofsModel", "rows", "I", false)
  | 11 => ("SeatProofsModel", "failures", "[I", true)
  | 12 => ("SeatProofsModel", "of", "[I", true)
  | 13 => ("SeatProofsModel", "floods", "[J", true)
  | 14 => ("SeatProofsModel", "cuts", "[J", true)
  | 15 => ("SeatProofsModel", "culprit", "[I", true)
  | 16 => ("SeatProofsModel", "guilty", "Z", false)
  | 17 => ("SeatProofsModel", "tested", "I", false)
  | 18 => ("SeatProofsModel", "thrown", "I", false)
  | _ => ("SeatProofsModel", "wet", "[Z", true)
def t_M : Nat → FieldType := fun k => match k with
  | 0 => .array .int
  | 1 => .array .long
  | 2 => .int
  | 3 => .array .int
  | 4 => .array .int
  | 5 => .array .int
  | 6 => .array .boolean
  | 7 => .array .boolean
  | 8 => .int
  | 9 => .array .boolean
  | 10 => .int
  | 11 => .array .int
  | 12 => .array .int
  | 13 => .array .long
  | 14 => .array .long
  | 15 => .array .int
  | 16 => .boolean
  | 17 => .int
  | 18 => .int
  | _ => .array .boolean
theorem n_M : ∀ a, a < 20 → ∀ b, b < 20 → a ≠ b → (F_M a).2.1 ≠ (F_M b).2.1 := by decide +kernel
theorem t_M_ok : ∀ k, k < 20 → parseFieldDescriptor (F_M k).2.2.1 = some (t_M k) := by decide +kernel
def F_Io : u_T := fun k => match k with
  | 0 => ("java/lang/Throwable", "cause", "Ljava/lang/Throwable;", false)
  | 1 => ("java/lang/Throwable", "stackTrace", "[Ljava/lang/StackTraceElement;", false)
  | 2 => ("java/lang/Throwable", "suppressedExceptions", "Ljava/util/List;", false)
  | 3 => ("java/lang/Throwable", "detailMessage", "Ljava/lang/String;", false)
  | 4 => ("java/lang/Throwable", "backtrace", "Ljava/lang/Object;", false)
  | _ => ("java/lang/Throwable", "depth", "I", false)
def t_Io : Nat → FieldType := fun k => match k with
  | 0 => .object "java/lang/Throwable"
  | 1 => .array (.object "java/lang/StackTraceElement")
  | 2 => .object "java/util/List"
  | 3 => .object "java/lang/String"
  | 4 => .object "java/lang/Object"
  | _ => .int
theorem n_Io : ∀ a, a < 6 → ∀ b, b < 6 → a ≠ b → (F_Io a).2.1 ≠ (F_Io b).2.1 := by decide +kernel
theorem t_Io_ok : ∀ k, k < 6 → parseFieldDescriptor (F_Io k).2.2.1 = some (t_Io k) := by decide +kernel
abbrev vwCl : List vw_C := [("SeatProofs$Plant", F_P, 12), ("SeatProofs$Flow", F_F, 4), ("SeatProofs$Proof", F_Q, 5), ("SeatProofs", F_S, 6), ("SeatProofsModel", F_M, 20), ("java/lang/IndexOutOfBoundsException", F_Io, 6)]
theorem iw_0 : (Jvm.Cond.initialized "SeatProofsLaw") ∈ gT := mem_gT 16 (by decide +kernel) (by decide +kernel)
theorem iw_1 : (Jvm.Cond.initialized "SeatProofs") ∈ gT := mem_gT 17 (by decide +kernel) (by decide +kernel)
theorem iw_2 : (Jvm.Cond.initialized "SeatProofs$Plant") ∈ gT := mem_gT 18 (by decide +kernel) (by decide +kernel)
theorem iw_3 : (Jvm.Cond.initialized "SeatProofs$Flow") ∈ gT := mem_gT 19 (by decide +kernel) (by decide +kernel)
theorem iw_4 : (Jvm.Cond.initialized "SeatProofs$Proof") ∈ gT := mem_gT 20 (by decide +kernel) (by decide +kernel)
theorem iw_5 : (Jvm.Cond.initialized "SeatProofsModel") ∈ gT := mem_gT 21 (by decide +kernel) (by decide +kernel)
theorem iw_6 : (Jvm.Cond.initialized "java/lang/Long") ∈ gT := mem_gT 22 (by decide +kernel) (by decide +kernel)
theorem iw_7 : (Jvm.Cond.initialized "java/lang/Throwable") ∈ gT := mem_gT 23 (by decide +kernel) (by decide +kernel)
theorem iw_8 : (Jvm.Cond.initialized "java/lang/Exception") ∈ gT := mem_gT 24 (by decide +kernel) (by decide +kernel)
theorem iw_9 : (Jvm.Cond.initialized "java/lang/RuntimeException") ∈ gT := mem_gT 25 (by decide +kernel) (by decide +kernel)
theorem iw_10 : (Jvm.Cond.initialized "java/lang/IndexOutOfBoundsException") ∈ gT := mem_gT 26 (by decide +kernel) (by decide +kernel)
theorem iw_11 : (Jvm.Cond.initialized "java/lang/System") ∈ gT := mem_gT 27 (by decide +kernel) (by decide +kernel)
theorem iw_12 : (Jvm.Cond.classLink "SeatProofsLaw" (8 : Nat) "SeatProofs") ∈ gT := mem_gT 28 (by decide +kernel) (by decide +kernel)
theorem iw_13 : (Jvm.Cond.instantiable "SeatProofs" (6 : Nat)) ∈ gT := mem_gT 29 (by decide +kernel) (by decide +kernel)
theorem iw_14 : (Jvm.Cond.methodLink "SeatProofsLaw" (18 : Nat) ({ cls := "SeatProofs", name := "<init>", desc := "()V" } : Jvm.MethodName)) ∈ gT := mem_gT 30 (by decide +kernel) (by decide +kernel)
theorem iw_15 : (Jvm.Cond.instanceMethod ({ cls := "SeatProofs", name := "<init>", desc := "()V" } : Jvm.MethodName)) ∈ gT := mem_gT 31 (by decide +kernel) (by decide +kernel)
theorem iw_16 : (Jvm.Cond.code ({ cls := "SeatProofs", name := "<init>", desc := "()V" } : Jvm.MethodName) prog_1_method_1_code (1 : Nat) (Option.none : Option Jvm.ClassFile.FieldType)) ∈ gT := mem_gT 32 (by decide +kernel) (by decide +kernel)
theorem iw_17 : (Jvm.Cond.methodLink "SeatProofs" (3 : Nat) ({ cls := "java/lang/Object", name := "<init>", desc := "()V" } : Jvm.MethodName)) ∈ gT := mem_gT 33 (by decide +kernel) (by decide +kernel)
theorem iw_18 : (Jvm.Cond.instanceMethod ({ cls := "java/lang/Object", name := "<init>", desc := "()V" } : Jvm.MethodName)) ∈ gT := mem_gT 34 (by decide +kernel) (by decide +kernel)
theorem iw_19 : (Jvm.Cond.code ({ cls := "java/lang/Object", name := "<init>", desc := "()V" } : Jvm.MethodName) object_method_1_code (1 : Nat) (Option.none : Option Jvm.ClassFile.FieldType)) ∈ gT := mem_gT 35 (by decide +kernel) (by decide +kernel)
theorem iw_20 : (Jvm.Cond.classLink "SeatProofs" (9 : Nat) "SeatProofs$Plant") ∈ gT := mem_gT 36 (by decide +kernel) (by decide +kernel)
theorem iw_21 : (Jvm.Cond.instantiable "SeatProofs$Plant" (12 : Nat)) ∈ gT := mem_gT 37 (by decide +kernel) (by decide +kernel)
theorem in_22 : (Jvm.Cond.methodLinkNest "SeatProofs" (11 : Nat) ({ cls := "SeatProofs$Plant", name := "<init>", desc := "()V" } : Jvm.MethodName) "SeatProofs") ∈ nT := mem_nT 38 (by decide +kernel) (by decide +kernel)
theorem iw_23 : (Jvm.Cond.instanceMethod ({ cls := "SeatProofs$Plant", name := "<init>", desc := "()V" } : Jvm.MethodName)) ∈ gT := mem_gT 39 (by decide +kernel) (by decide +kernel)
theorem iw_24 : (Jvm.Cond.code ({ cls := "SeatProofs$Plant", name := "<init>", desc := "()V" } : Jvm.MethodName) prog_3_method_1_code (1 : Nat) (Option.none : Option Jvm.ClassFile.FieldType)) ∈ gT := mem_gT 40 (by decide +kernel) (by decide +kernel)
theorem iw_25 : (Jvm.Cond.methodLink "SeatProofs$Plant" (3 : Nat) ({ cls := "java/lang/Object", name := "<init>", desc := "()V" } : Jvm.MethodName)) ∈ gT := mem_gT 41 (by decide +kernel) (by decide +kernel)
theorem iw_26 : (Jvm.Cond.fieldLink "SeatProofs$Plant" (34 : Nat) "SeatProofs$Plant" "spaces" "I") ∈ gT := mem_gT 42 (by decide +kernel) (by decide +kernel)
theorem in_27 : (Jvm.Cond.fieldLinkNest "SeatProofs" (44 : Nat) "SeatProofs$Plant" "spaces" "I" "SeatProofs") ∈ nT := mem_nT 43 (by decide +kernel) (by decide +kernel)
theorem in_28 : (Jvm.Cond.fieldLinkNest "SeatProofs$Flow" (31 : Nat) "SeatProofs$Plant" "spaces" "I" "SeatProofs") ∈ nT := mem_nT 44 (by decide +kernel) (by decide +kernel)
theorem iw_29 : (Jvm.Cond.fieldLink "SeatProofs$Plant" (38 : Nat) "SeatProofs$Plant" "valves" "I") ∈ gT := mem_gT 45 (by decide +kernel) (by decide +kernel)
theorem in_30 : (Jvm.Cond.fieldLinkNest "SeatProofs$Flow" (35 : Nat) "SeatProofs$Plant" "valves" "I" "SeatProofs") ∈ nT := mem_nT 46 (by decide +kernel) (by decide +kernel)
theorem in_31 : (Jvm.Cond.fieldLinkNest "SeatProofs" (58 : Nat) "SeatProofs$Plant" "valves" "I" "SeatProofs") ∈ nT := mem_nT 47 (by decide +kernel) (by decide +kernel)
theorem iw_32 : (Jvm.Cond.fieldLink "SeatProofs$Plant" (9 : Nat) "SeatProofs$Plant" "levels" "[J") ∈ gT := mem_gT 48 (by decide +kernel) (by decide +kernel)
theorem iw_33 : (Jvm.Cond.fieldLink "SeatProofs$Plant" (15 : Nat) "SeatProofs$Plant" "sources" "[J") ∈ gT := mem_gT 49 (by decide +kernel) (by decide +kernel)
theorem in_34 : (Jvm.Cond.fieldLinkNest "SeatProofs$Flow" (62 : Nat) "SeatProofs$Plant" "sources" "[J" "SeatProofs") ∈ nT := mem_nT 50 (by decide +kernel) (by decide +kernel)
theorem iw_35 : (Jvm.Cond.fieldLink "SeatProofs$Plant" (18 : Nat) "SeatProofs$Plant" "friends" "[I") ∈ gT := mem_gT 51 (by decide +kernel) (by decide +kernel)
theorem iw_36 : (Jvm.Cond.fieldLink "SeatProofs$Plant" (22 : Nat) "SeatProofs$Plant" "oneEnd" "[I") ∈ gT := mem_gT 52 (by decide +kernel) (by decide +kernel)
theorem in_37 : (Jvm.Cond.fieldLinkNest "SeatProofs$Flow" (42 : Nat) "SeatProofs$Plant" "oneEnd" "[I" "SeatProofs") ∈ nT := mem_nT 53 (by decide +kernel) (by decide +kernel)
theorem in_38 : (Jvm.Cond.fieldLinkNest "SeatProofs" (198 : Nat) "SeatProofs$Plant" "oneEnd" "[I" "SeatProofs") ∈ nT := mem_nT 54 (by decide +kernel) (by decide +kernel)
theorem iw_39 : (Jvm.Cond.fieldLink "SeatProofs$Plant" (25 : Nat) "SeatProofs$Plant" "otherEnd" "[I") ∈ gT := mem_gT 55 (by decide +kernel) (by decide +kernel)
theorem in_40 : (Jvm.Cond.fieldLinkNest "SeatProofs$Flow" (46 : Nat) "SeatProofs$Plant" "otherEnd" "[I" "SeatProofs") ∈ nT := mem_nT 56 (by decide +kernel) (by decide +kernel)
theorem in_41 : (Jvm.Cond.fieldLinkNest "SeatProofs" (201 : Nat) "SeatProofs$Plant" "otherEnd" "[I" "SeatProofs") ∈ nT := mem_nT 57 (by decide +kernel) (by decide +kernel)
theorem iw_42 : (Jvm.Cond.fieldLink "SeatProofs$Plant" (41 : Nat) "SeatProofs$Plant" "openValves" "J") ∈ gT := mem_gT 58 (by decide +kernel) (by decide +kernel)
theorem iw_43 : (Jvm.Cond.fieldLink "SeatProofs$Plant" (45 : Nat) "SeatProofs$Plant" "unsureValves" "J") ∈ gT := mem_gT 59 (by decide +kernel) (by decide +kernel)
theorem in_44 : (Jvm.Cond.fieldLinkNest "SeatProofs" (157 : Nat) "SeatProofs$Plant" "unsureValves" "J" "SeatProofs") ∈ nT := mem_nT 60 (by decide +kernel) (by decide +kernel)
theorem iw_45 : (Jvm.Cond.fieldLink "SeatProofs$Plant" (48 : Nat) "SeatProofs$Plant" "doubleValves" "J") ∈ gT := mem_gT 61 (by decide +kernel) (by decide +kernel)
theorem iw_46 : (Jvm.Cond.fieldLink "SeatProofs$Plant" (28 : Nat) "SeatProofs$Plant" "ends" "[J") ∈ gT := mem_gT 62 (by decide +kernel) (by decide +kernel)
theorem in_47 : (Jvm.Cond.fieldLinkNest "SeatProofs$Flow" (71 : Nat) "SeatProofs$Plant" "ends" "[J" "SeatProofs") ∈ nT := mem_nT 63 (by decide +kernel) (by decide +kernel)
theorem iw_48 : (Jvm.Cond.fieldLink "SeatProofs$Plant" (31 : Nat) "SeatProofs$Plant" "falls" "[J") ∈ gT := mem_gT 64 (by decide +kernel) (by decide +kernel)
theorem in_49 : (Jvm.Cond.fieldLinkNest "SeatProofs$Flow" (53 : Nat) "SeatProofs$Plant" "falls" "[J" "SeatProofs") ∈ nT := mem_nT 65 (by decide +kernel) (by decide +kernel)
theorem iw_50 : (Jvm.Cond.lays "SeatProofs$Plant" "SeatProofs$Plant" "spaces" "I") ∈ gT := mem_gT 66 (by decide +kernel) (by decide +kernel)
theorem iw_52 : (Jvm.Cond.lays "SeatProofs$Plant" "SeatProofs$Plant" "valves" "I") ∈ gT := mem_gT 68 (by decide +kernel) (by decide +kernel)
theorem iw_54 : (Jvm.Cond.laysFinal "SeatProofs$Plant" "SeatProofs$Plant" "levels" "[J") ∈ gT := mem_gT 70 (by decide +kernel) (by decide +kernel)
theorem iw_56 : (Jvm.Cond.laysFinal "SeatProofs$Plant" "SeatProofs$Plant" "sources" "[J") ∈ gT := mem_gT 72 (by decide +kernel) (by decide +kernel)
theorem iw_58 : (Jvm.Cond.laysFinal "SeatProofs$Plant" "SeatProofs$Plant" "friends" "[I") ∈ gT := mem_gT 74 (by decide +kernel) (by decide +kernel)
theorem iw_60 : (Jvm.Cond.laysFinal "SeatProofs$Plant" "SeatProofs$Plant" "oneEnd" "[I") ∈ gT := mem_gT 76 (by decide +kernel) (by decide +kernel)
theorem iw_62 : (Jvm.Cond.laysFinal "SeatProofs$Plant" "SeatProofs$Plant" "otherEnd" "[I") ∈ gT := mem_gT 78 (by decide +kernel) (by decide +kernel)
theorem iw_64 : (Jvm.Cond.lays "SeatProofs$Plant" "SeatProofs$Plant" "openValves" "J") ∈ gT := mem_gT 80 (by decide +kernel) (by decide +kernel)
theorem iw_66 : (Jvm.Cond.lays "SeatProofs$Plant" "SeatProofs$Plant" "unsureValves" "J") ∈ gT := mem_gT 82 (by decide +kernel) (by decide +kernel)
theorem iw_68 : (Jvm.Cond.lays "SeatProofs$Plant" "SeatProofs$Plant" "doubleValves" "J") ∈ gT := mem_gT 84 (by decide +kernel) (by decide +kernel)
theorem iw_70 : (Jvm.Cond.laysFinal "SeatProofs$Plant" "SeatProofs$Plant" "ends" "[J") ∈ gT := mem_gT 86 (by decide +kernel) (by decide +kernel)
theorem iw_72 : (Jvm.Cond.laysFinal "SeatProofs$Plant" "SeatProofs$Plant" "falls" "[J") ∈ gT := mem_gT 88 (by decide +kernel) (by decide +kernel)
theorem iw_75 : (Jvm.Cond.arrayClass Jvm.ClassFile.FieldType.long) ∈ gT := mem_gT 91 (by decide +kernel) (by decide +kernel)
theorem iw_76 : (Jvm.Cond.arrayClass Jvm.ClassFile.FieldType.int) ∈ gT := mem_gT 92 (by decide +kernel) (by decide +kernel)
theorem iw_77 : (Jvm.Cond.classLink "SeatProofs" (16 : Nat) "SeatProofs$Flow") ∈ gT := mem_gT 93 (by decide +kernel) (by decide +kernel)
theorem iw_78 : (Jvm.Cond.instantiable "SeatProofs$Flow" (4 : Nat)) ∈ gT := mem_gT 94 (by decide +kernel) (by decide +kernel)
theorem iw_79 : (Jvm.Cond.methodLink "SeatProofs" (18 : Nat) ({ cls := "SeatProofs$Flow", name := "<init>", desc := "(LSeatProofs$Plant;)V" } : Jvm.MethodName)) ∈ gT := mem_gT 95 (by decide +kernel) (by decide +kernel)
theorem iw_80 : (Jvm.Cond.instanceMethod ({ cls := "SeatProofs$Flow", name := "<init>", desc := "(LSeatProofs$Plant;)V" } : Jvm.MethodName)) ∈ gT := mem_gT 96 (by decide +kernel) (by decide +kernel)
theorem iw_81 : (Jvm.Cond.code ({ cls := "SeatProofs$Flow", name := "<init>", desc := "(LSeatProofs$Plant;)V" } : Jvm.MethodName) prog_2_method_1_code (2 : Nat) (Option.none : Option Jvm.ClassFile.FieldType)) ∈ gT := mem_gT 97 (by decide +kernel) (by decide +kernel)
theorem iw_82 : (Jvm.Cond.methodLink "SeatProofs$Flow" (3 : Nat) ({ cls := "java/lang/Object", name := "<init>", desc := "()V" } : Jvm.MethodName)) ∈ gT := mem_gT 98 (by decide +kernel) (by decide +kernel)
theorem iw_83 : (Jvm.Cond.fieldLink "SeatProofs$Flow" (18 : Nat) "SeatProofs$Flow" "plant" "LSeatProofs$Plant;") ∈ gT := mem_gT 99 (by decide +kernel) (by decide +kernel)
theorem iw_84 : (Jvm.Cond.fieldLink "SeatProofs$Flow" (28 : Nat) "SeatProofs$Flow" "letting" "J") ∈ gT := mem_gT 100 (by decide +kernel) (by decide +kernel)
theorem iw_85 : (Jvm.Cond.fieldLink "SeatProofs$Flow" (9 : Nat) "SeatProofs$Flow" "ways" "[J") ∈ gT := mem_gT 101 (by decide +kernel) (by decide +kernel)
theorem iw_86 : (Jvm.Cond.fieldLink "SeatProofs$Flow" (15 : Nat) "SeatProofs$Flow" "floods" "[J") ∈ gT := mem_gT 102 (by decide +kernel) (by decide +kernel)
theorem in_87 : (Jvm.Cond.fieldLinkNest "SeatProofs" (176 : Nat) "SeatProofs$Flow" "floods" "[J" "SeatProofs") ∈ nT := mem_nT 103 (by decide +kernel) (by decide +kernel)
theorem iw_88 : (Jvm.Cond.laysFinal "SeatProofs$Flow" "SeatProofs$Flow" "plant" "LSeatProofs$Plant;") ∈ gT := mem_gT 104 (by decide +kernel) (by decide +kernel)
theorem iw_90 : (Jvm.Cond.lays "SeatProofs$Flow" "SeatProofs$Flow" "letting" "J") ∈ gT := mem_gT 106 (by decide +kernel) (by decide +kernel)
theorem iw_92 : (Jvm.Cond.laysFinal "SeatProofs$Flow" "SeatProofs$Flow" "ways" "[J") ∈ gT := mem_gT 108 (by decide +kernel) (by decide +kernel)
theorem iw_94 : (Jvm.Cond.laysFinal "SeatProofs$Flow" "SeatProofs$Flow" "floods" "[J") ∈ gT := mem_gT 110 (by decide +kernel) (by decide +kernel)
theorem iw_97 : (Jvm.Cond.classLink "SeatProofs" (25 : Nat) "SeatProofs$Proof") ∈ gT := mem_gT 113 (by decide +kernel) (by decide +kernel)
theorem iw_98 : (Jvm.Cond.instantiable "SeatProofs$Proof" (5 : Nat)) ∈ gT := mem_gT 114 (by decide +kernel) (by decide +kernel)
theorem in_99 : (Jvm.Cond.methodLinkNest "SeatProofs" (27 : Nat) ({ cls := "SeatProofs$Proof", name := "<init>", desc := "()V" } : Jvm.MethodName) "SeatProofs") ∈ nT := mem_nT 115 (by decide +kernel) (by decide +kernel)
theorem iw_100 : (Jvm.Cond.instanceMethod ({ cls := "SeatProofs$Proof", name := "<init>", desc := "()V" } : Jvm.MethodName)) ∈ gT := mem_gT 116 (by decide +kernel) (by decide +kernel)
theorem iw_101 : (Jvm.Cond.code ({ cls := "SeatProofs$Proof", name := "<init>", desc := "()V" } : Jvm.MethodName) prog_4_method_1_code (1 : Nat) (Option.none : Option Jvm.ClassFile.FieldType)) ∈ gT := mem_gT 117 (by decide +kernel) (by decide +kernel)
theorem iw_102 : (Jvm.Cond.methodLink "SeatProofs$Proof" (3 : Nat) ({ cls := "java/lang/Object", name := "<init>", desc := "()V" } : Jvm.MethodName)) ∈ gT := mem_gT 118 (by decide +kernel) (by decide +kernel)
theorem iw_103 : (Jvm.Cond.fieldLink "SeatProofs$Proof" (25 : Nat) "SeatProofs$Proof" "count" "I") ∈ gT := mem_gT 119 (by decide +kernel) (by decide +kernel)
theorem in_104 : (Jvm.Cond.fieldLinkNest "SeatProofs" (101 : Nat) "SeatProofs$Proof" "count" "I" "SeatProofs") ∈ nT := mem_nT 120 (by decide +kernel) (by decide +kernel)
theorem iw_105 : (Jvm.Cond.fieldLink "SeatProofs$Proof" (9 : Nat) "SeatProofs$Proof" "failure" "[I") ∈ gT := mem_gT 121 (by decide +kernel) (by decide +kernel)
theorem in_106 : (Jvm.Cond.fieldLinkNest "SeatProofs" (107 : Nat) "SeatProofs$Proof" "failure" "[I" "SeatProofs") ∈ nT := mem_nT 122 (by decide +kernel) (by decide +kernel)
theorem iw_107 : (Jvm.Cond.fieldLink "SeatProofs$Proof" (15 : Nat) "SeatProofs$Proof" "liquid" "[I") ∈ gT := mem_gT 123 (by decide +kernel) (by decide +kernel)
theorem in_108 : (Jvm.Cond.fieldLinkNest "SeatProofs" (110 : Nat) "SeatProofs$Proof" "liquid" "[I" "SeatProofs") ∈ nT := mem_nT 124 (by decide +kernel) (by decide +kernel)
theorem iw_109 : (Jvm.Cond.fieldLink "SeatProofs$Proof" (18 : Nat) "SeatProofs$Proof" "flood" "[J") ∈ gT := mem_gT 125 (by decide +kernel) (by decide +kernel)
theorem in_110 : (Jvm.Cond.fieldLinkNest "SeatProofs" (113 : Nat) "SeatProofs$Proof" "flood" "[J" "SeatProofs") ∈ nT := mem_nT 126 (by decide +kernel) (by decide +kernel)
theorem iw_111 : (Jvm.Cond.fieldLink "SeatProofs$Proof" (22 : Nat) "SeatProofs$Proof" "cut" "[J") ∈ gT := mem_gT 127 (by decide +kernel) (by decide +kernel)
theorem in_112 : (Jvm.Cond.fieldLinkNest "SeatProofs" (122 : Nat) "SeatProofs$Proof" "cut" "[J" "SeatProofs") ∈ nT := mem_nT 128 (by decide +kernel) (by decide +kernel)
theorem iw_113 : (Jvm.Cond.lays "SeatProofs$Proof" "SeatProofs$Proof" "count" "I") ∈ gT := mem_gT 129 (by decide +kernel) (by decide +kernel)
theorem iw_115 : (Jvm.Cond.laysFinal "SeatProofs$Proof" "SeatProofs$Proof" "failure" "[I") ∈ gT := mem_gT 131 (by decide +kernel) (by decide +kernel)
theorem iw_117 : (Jvm.Cond.laysFinal "SeatProofs$Proof" "SeatProofs$Proof" "liquid" "[I") ∈ gT := mem_gT 133 (by decide +kernel) (by decide +kernel)
theorem iw_119 : (Jvm.Cond.laysFinal "SeatProofs$Proof" "SeatProofs$Proof" "flood" "[J") ∈ gT := mem_gT 135 (by decide +kernel) (by decide +kernel)
theorem iw_121 : (Jvm.Cond.laysFinal "SeatProofs$Proof" "SeatProofs$Proof" "cut" "[J") ∈ gT := mem_gT 137 (by decide +kernel) (by decide +kernel)
theorem iw_124 : (Jvm.Cond.fieldLink "SeatProofs" (12 : Nat) "SeatProofs" "plant" "LSeatProofs$Plant;") ∈ gT := mem_gT 140 (by decide +kernel) (by decide +kernel)
theorem iw_125 : (Jvm.Cond.fieldLink "SeatProofs" (21 : Nat) "SeatProofs" "flow" "LSeatProofs$Flow;") ∈ gT := mem_gT 141 (by decide +kernel) (by decide +kernel)
theorem iw_126 : (Jvm.Cond.fieldLink "SeatProofs" (28 : Nat) "SeatProofs" "proof" "LSeatProofs$Proof;") ∈ gT := mem_gT 142 (by decide +kernel) (by decide +kernel)
theorem iw_127 : (Jvm.Cond.fieldLink "SeatProofs" (32 : Nat) "SeatProofs" "found" "[I") ∈ gT := mem_gT 143 (by decide +kernel) (by decide +kernel)
theorem iw_128 : (Jvm.Cond.fieldLink "SeatProofs" (36 : Nat) "SeatProofs" "foundUnsafe" "Z") ∈ gT := mem_gT 144 (by decide +kernel) (by decide +kernel)
theorem iw_129 : (Jvm.Cond.fieldLink "SeatProofs" (40 : Nat) "SeatProofs" "remade" "I") ∈ gT := mem_gT 145 (by decide +kernel) (by decide +kernel)
theorem iw_130 : (Jvm.Cond.laysFinal "SeatProofs" "SeatProofs" "plant" "LSeatProofs$Plant;") ∈ gT := mem_gT 146 (by decide +kernel) (by decide +kernel)
theorem iw_132 : (Jvm.Cond.laysFinal "SeatProofs" "SeatProofs" "flow" "LSeatProofs$Flow;") ∈ gT := mem_gT 148 (by decide +kernel) (by decide +kernel)
theorem iw_134 : (Jvm.Cond.laysFinal "SeatProofs" "SeatProofs" "proof" "LSeatProofs$Proof;") ∈ gT := mem_gT 150 (by decide +kernel) (by decide +kernel)
theorem iw_136 : (Jvm.Cond.laysFinal "SeatProofs" "SeatProofs" "found" "[I") ∈ gT := mem_gT 152 (by decide +kernel) (by decide +kernel)
theorem iw_138 : (Jvm.Cond.lays "SeatProofs" "SeatProofs" "foundUnsafe" "Z") ∈ gT := mem_gT 154 (by decide +kernel) (by decide +kernel)
theorem iw_140 : (Jvm.Cond.lays "SeatProofs" "SeatProofs" "remade" "I") ∈ gT := mem_gT 156 (by decide +kernel) (by decide +kernel)
theorem iw_143 : (Jvm.Cond.methodLink "SeatProofsLaw" (22 : Nat) ({ cls := "SeatProofs", name := "space", desc := "(I)I" } : Jvm.MethodName)) ∈ gT := mem_gT 159 (by decide +kernel) (by decide +kernel)
theorem iw_144 : (Jvm.Cond.instanceMethod ({ cls := "SeatProofs", name := "space", desc := "(I)I" } : Jvm.MethodName)) ∈ gT := mem_gT 160 (by decide +kernel) (by decide +kernel)
theorem iw_145 : (Jvm.Cond.selects "SeatProofs" ({ cls := "SeatProofs", name := "space", desc := "(I)I" } : Jvm.MethodName) ({ cls := "SeatProofs", name := "space", desc := "(I)I" } : Jvm.MethodName)) ∈ gT := mem_gT 161 (by decide +kernel) (by decide +kernel)
theorem iw_146 : (Jvm.Cond.code ({ cls := "SeatProofs", name := "space", desc := "(I)I" } : Jvm.MethodName) prog_1_method_2_code (2 : Nat) (Option.some Jvm.ClassFile.FieldType.int)) ∈ gT := mem_gT 162 (by decide +kernel) (by decide +kernel)
theorem iw_147 : (Jvm.Cond.methodLink "SeatProofs" (47 : Nat) ({ cls := "SeatProofs$Proof", name := "empty", desc := "()V" } : Jvm.MethodName)) ∈ gT := mem_gT 163 (by decide +kernel) (by decide +kernel)
theorem iw_148 : (Jvm.Cond.instanceMethod ({ cls := "SeatProofs$Proof", name := "empty", desc := "()V" } : Jvm.MethodName)) ∈ gT := mem_gT 164 (by decide +kernel) (by decide +kernel)
theorem iw_149 : (Jvm.Cond.selects "SeatProofs$Proof" ({ cls := "SeatProofs$Proof", name := "empty", desc := "()V" } : Jvm.MethodName) ({ cls := "SeatProofs$Proof", name := "empty", desc := "()V" } : Jvm.MethodName)) ∈ gT := mem_gT 165 (by decide +kernel) (by decide +kernel)
theorem iw_150 : (Jvm.Cond.code ({ cls := "SeatProofs$Proof", name := "empty", desc := "()V" } : Jvm.MethodName) prog_4_method_2_code (1 : Nat) (Option.none : Option Jvm.ClassFile.FieldType)) ∈ gT := mem_gT 166 (by decide +kernel) (by decide +kernel)
theorem iw_151 : (Jvm.Cond.methodLink "SeatProofs" (50 : Nat) ({ cls := "SeatProofs$Plant", name := "addSpace", desc := "(I)I" } : Jvm.MethodName)) ∈ gT := mem_gT 167 (by decide +kernel) (by decide +kernel)
theorem iw_152 : (Jvm.Cond.instanceMethod ({ cls := "SeatProofs$Plant", name := "addSpace", desc := "(I)I" } : Jvm.MethodName)) ∈ gT := mem_gT 168 (by decide +kernel) (by decide +kernel)
theorem iw_153 : (Jvm.Cond.selects "SeatProofs$Plant" ({ cls := "SeatProofs$Plant", name := "addSpace", desc := "(I)I" } : Jvm.MethodName) ({ cls := "SeatProofs$Plant", name := "addSpace", desc := "(I)I" } : Jvm.MethodName)) ∈ gT := mem_gT 169 (by decide +kernel) (by decide +kernel)
theorem iw_154 : (Jvm.Cond.code ({ cls := "SeatProofs$Plant", name := "addSpace", desc := "(I)I" } : Jvm.MethodName) prog_3_method_5_code (3 : Nat) (Option.some Jvm.ClassFile.FieldType.int)) ∈ gT := mem_gT 170 (by decide +kernel) (by decide +kernel)
theorem in_155 : (Jvm.Cond.methodLinkNest "SeatProofs$Plant" (51 : Nat) ({ cls := "SeatProofs", name := "only", desc := "(I)J" } : Jvm.MethodName) "SeatProofs") ∈ nT := mem_nT 171 (by decide +kernel) (by decide +kernel)
theorem iw_156 : (Jvm.Cond.static ({ cls := "SeatProofs", name := "only", desc := "(I)J" } : Jvm.MethodName)) ∈ gT := mem_gT 172 (by decide +kernel) (by decide +kernel)
theorem iw_157 : (Jvm.Cond.code ({ cls := "SeatProofs", name := "only", desc := "(I)J" } : Jvm.MethodName) prog_1_method_23_code (1 : Nat) (Option.some Jvm.ClassFile.FieldType.long)) ∈ gT := mem_gT 173 (by decide +kernel) (by decide +kernel)
theorem iw_158 : (Jvm.Cond.methodLink "SeatProofsLaw" (27 : Nat) ({ cls := "SeatProofs", name := "valve", desc := "(IIIZ)I" } : Jvm.MethodName)) ∈ gT := mem_gT 174 (by decide +kernel) (by decide +kernel)
theorem iw_159 : (Jvm.Cond.instanceMethod ({ cls := "SeatProofs", name := "valve", desc := "(IIIZ)I" } : Jvm.MethodName)) ∈ gT := mem_gT 175 (by decide +kernel) (by decide +kernel)
theorem iw_160 : (Jvm.Cond.selects "SeatProofs" ({ cls := "SeatProofs", name := "valve", desc := "(IIIZ)I" } : Jvm.MethodName) ({ cls := "SeatProofs", name := "valve", desc := "(IIIZ)I" } : Jvm.MethodName)) ∈ gT := mem_gT 176 (by decide +kernel) (by decide +kernel)
theorem iw_161 : (Jvm.Cond.code ({ cls := "SeatProofs", name := "valve", desc := "(IIIZ)I" } : Jvm.MethodName) prog_1_method_3_code (5 : Nat) (Option.some Jvm.ClassFile.FieldType.int)) ∈ gT := mem_gT 177 (by decide +kernel) (by decide +kernel)
theorem iw_162 : (Jvm.Cond.methodLink "SeatProofs" (54 : Nat) ({ cls := "SeatProofs$Plant", name := "hasSpace", desc := "(I)Z" } : Jvm.MethodName)) ∈ gT := mem_gT 178 (by decide +kernel) (by decide +kernel)
theorem iw_163 : (Jvm.Cond.instanceMethod ({ cls := "SeatProofs$Plant", name := "hasSpace", desc := "(I)Z" } : Jvm.MethodName)) ∈ gT := mem_gT 179 (by decide +kernel) (by decide +kernel)
theorem iw_164 : (Jvm.Cond.selects "SeatProofs$Plant" ({ cls := "SeatProofs$Plant", name := "hasSpace", desc := "(I)Z" } : Jvm.MethodName) ({ cls := "SeatProofs$Plant", name := "hasSpace", desc := "(I)Z" } : Jvm.MethodName)) ∈ gT := mem_gT 180 (by decide +kernel) (by decide +kernel)
theorem iw_165 : (Jvm.Cond.code ({ cls := "SeatProofs$Plant", name := "hasSpace", desc := "(I)Z" } : Jvm.MethodName) prog_3_method_3_code (2 : Nat) (Option.some Jvm.ClassFile.FieldType.boolean)) ∈ gT := mem_gT 181 (by decide +kernel) (by decide +kernel)
theorem iw_166 : (Jvm.Cond.methodLink "SeatProofs" (61 : Nat) ({ cls := "SeatProofs$Plant", name := "addValve", desc := "(IIZZ)I" } : Jvm.MethodName)) ∈ gT := mem_gT 182 (by decide +kernel) (by decide +kernel)
theorem iw_167 : (Jvm.Cond.instanceMethod ({ cls := "SeatProofs$Plant", name := "addValve", desc := "(IIZZ)I" } : Jvm.MethodName)) ∈ gT := mem_gT 183 (by decide +kernel) (by decide +kernel)
theorem iw_168 : (Jvm.Cond.selects "SeatProofs$Plant" ({ cls := "SeatProofs$Plant", name := "addValve", desc := "(IIZZ)I" } : Jvm.MethodName) ({ cls := "SeatProofs$Plant", name := "addValve", desc := "(IIZZ)I" } : Jvm.MethodName)) ∈ gT := mem_gT 184 (by decide +kernel) (by decide +kernel)
theorem iw_169 : (Jvm.Cond.code ({ cls := "SeatProofs$Plant", name := "addValve", desc := "(IIZZ)I" } : Jvm.MethodName) prog_3_method_6_code (6 : Nat) (Option.some Jvm.ClassFile.FieldType.int)) ∈ gT := mem_gT 185 (by decide +kernel) (by decide +kernel)
theorem iw_170 : (Jvm.Cond.methodLink "SeatProofs$Plant" (55 : Nat) ({ cls := "SeatProofs$Plant", name := "turn", desc := "(IZ)V" } : Jvm.MethodName)) ∈ gT := mem_gT 186 (by decide +kernel) (by decide +kernel)
theorem iw_171 : (Jvm.Cond.instanceMethod ({ cls := "SeatProofs$Plant", name := "turn", desc := "(IZ)V" } : Jvm.MethodName)) ∈ gT := mem_gT 187 (by decide +kernel) (by decide +kernel)
theorem iw_172 : (Jvm.Cond.selects "SeatProofs$Plant" ({ cls := "SeatProofs$Plant", name := "turn", desc := "(IZ)V" } : Jvm.MethodName) ({ cls := "SeatProofs$Plant", name := "turn", desc := "(IZ)V" } : Jvm.MethodName)) ∈ gT := mem_gT 188 (by decide +kernel) (by decide +kernel)
theorem iw_173 : (Jvm.Cond.code ({ cls := "SeatProofs$Plant", name := "turn", desc := "(IZ)V" } : Jvm.MethodName) prog_3_method_9_code (3 : Nat) (Option.none : Option Jvm.ClassFile.FieldType)) ∈ gT := mem_gT 189 (by decide +kernel) (by decide +kernel)
theorem iw_174 : (Jvm.Cond.methodLink "SeatProofs$Plant" (67 : Nat) ({ cls := "SeatProofs$Plant", name := "with", desc := "(JIZ)J" } : Jvm.MethodName)) ∈ gT := mem_gT 190 (by decide +kernel) (by decide +kernel)
theorem iw_175 : (Jvm.Cond.static ({ cls := "SeatProofs$Plant", name := "with", desc := "(JIZ)J" } : Jvm.MethodName)) ∈ gT := mem_gT 191 (by decide +kernel) (by decide +kernel)
theorem iw_176 : (Jvm.Cond.code ({ cls := "SeatProofs$Plant", name := "with", desc := "(JIZ)J" } : Jvm.MethodName) prog_3_method_11_code (4 : Nat) (Option.some Jvm.ClassFile.FieldType.long)) ∈ gT := mem_gT 192 (by decide +kernel) (by decide +kernel)
theorem iw_177 : (Jvm.Cond.constantLong "SeatProofs$Plant" (71 : Nat) (-1 : Int64)) ∈ gT := mem_gT 193 (by decide +kernel) (by decide +kernel)
theorem iw_178 : (Jvm.Cond.methodLink "SeatProofs$Plant" (59 : Nat) ({ cls := "SeatProofs$Plant", name := "measure", desc := "(I)V" } : Jvm.MethodName)) ∈ gT := mem_gT 194 (by decide +kernel) (by decide +kernel)
theorem iw_180 : (Jvm.Cond.instanceMethod ({ cls := "SeatProofs$Plant", name := "measure", desc := "(I)V" } : Jvm.MethodName)) ∈ gT := mem_gT 196 (by decide +kernel) (by decide +kernel)
theorem iw_181 : (Jvm.Cond.code ({ cls := "SeatProofs$Plant", name := "measure", desc := "(I)V" } : Jvm.MethodName) prog_3_method_8_code (4 : Nat) (Option.none : Option Jvm.ClassFile.FieldType)) ∈ gT := mem_gT 197 (by decide +kernel) (by decide +kernel)
theorem iw_182 : (Jvm.Cond.methodLink "SeatProofsLaw" (34 : Nat) ({ cls := "SeatProofs", name := "level", desc := "(IJ)Z" } : Jvm.MethodName)) ∈ gT := mem_gT 198 (by decide +kernel) (by decide +kernel)
theorem iw_183 : (Jvm.Cond.instanceMethod ({ cls := "SeatProofs", name := "level", desc := "(IJ)Z" } : Jvm.MethodName)) ∈ gT := mem_gT 199 (by decide +kernel) (by decide +kernel)
theorem iw_184 : (Jvm.Cond.selects "SeatProofs" ({ cls := "SeatProofs", name := "level", desc := "(IJ)Z" } : Jvm.MethodName) ({ cls := "SeatProofs", name := "level", desc := "(IJ)Z" } : Jvm.MethodName)) ∈ gT := mem_gT 200 (by decide +kernel) (by decide +kernel)
theorem iw_185 : (Jvm.Cond.code ({ cls := "SeatProofs", name := "level", desc := "(IJ)Z" } : Jvm.MethodName) prog_1_method_4_code (4 : Nat) (Option.some Jvm.ClassFile.FieldType.boolean)) ∈ gT := mem_gT 201 (by decide +kernel) (by decide +kernel)
theorem iw_186 : (Jvm.Cond.methodLink "SeatProofs" (65 : Nat) ({ cls := "SeatProofs$Plant", name := "raiseTo", desc := "(IJ)V" } : Jvm.MethodName)) ∈ gT := mem_gT 202 (by decide +kernel) (by decide +kernel)
theorem iw_187 : (Jvm.Cond.instanceMethod ({ cls := "SeatProofs$Plant", name := "raiseTo", desc := "(IJ)V" } : Jvm.MethodName)) ∈ gT := mem_gT 203 (by decide +kernel) (by decide +kernel)
theorem iw_188 : (Jvm.Cond.selects "SeatProofs$Plant" ({ cls := "SeatProofs$Plant", name := "raiseTo", desc := "(IJ)V" } : Jvm.MethodName) ({ cls := "SeatProofs$Plant", name := "raiseTo", desc := "(IJ)V" } : Jvm.MethodName)) ∈ gT := mem_gT 204 (by decide +kernel) (by decide +kernel)
theorem iw_189 : (Jvm.Cond.code ({ cls := "SeatProofs$Plant", name := "raiseTo", desc := "(IJ)V" } : Jvm.MethodName) prog_3_method_7_code (5 : Nat) (Option.none : Option Jvm.ClassFile.FieldType)) ∈ gT := mem_gT 205 (by decide +kernel) (by decide +kernel)
theorem in_190 : (Jvm.Cond.methodLinkNest "SeatProofs$Plant" (63 : Nat) ({ cls := "SeatProofs", name := "has", desc := "(JI)Z" } : Jvm.MethodName) "SeatProofs") ∈ nT := mem_nT 206 (by decide +kernel) (by decide +kernel)
theorem iw_191 : (Jvm.Cond.static ({ cls := "SeatProofs", name := "has", desc := "(JI)Z" } : Jvm.MethodName)) ∈ gT := mem_gT 207 (by decide +kernel) (by decide +kernel)
theorem iw_192 : (Jvm.Cond.code ({ cls := "SeatProofs", name := "has", desc := "(JI)Z" } : Jvm.MethodName) prog_1_method_24_code (3 : Nat) (Option.some Jvm.ClassFile.FieldType.boolean)) ∈ gT := mem_gT 208 (by decide +kernel) (by decide +kernel)
theorem iw_193 : (Jvm.Cond.methodLink "SeatProofs" (204 : Nat) ({ cls := "SeatProofs", name := "only", desc := "(I)J" } : Jvm.MethodName)) ∈ gT := mem_gT 209 (by decide +kernel) (by decide +kernel)
theorem iw_194 : (Jvm.Cond.methodLink "SeatProofsLaw" (39 : Nat) ({ cls := "SeatProofs", name := "may", desc := "(II)Z" } : Jvm.MethodName)) ∈ gT := mem_gT 210 (by decide +kernel) (by decide +kernel)
theorem iw_195 : (Jvm.Cond.instanceMethod ({ cls := "SeatProofs", name := "may", desc := "(II)Z" } : Jvm.MethodName)) ∈ gT := mem_gT 211 (by decide +kernel) (by decide +kernel)
theorem iw_196 : (Jvm.Cond.selects "SeatProofs" ({ cls := "SeatProofs", name := "may", desc := "(II)Z" } : Jvm.MethodName) ({ cls := "SeatProofs", name := "may", desc := "(II)Z" } : Jvm.MethodName)) ∈ gT := mem_gT 212 (by decide +kernel) (by decide +kernel)
theorem iw_197 : (Jvm.Cond.code ({ cls := "SeatProofs", name := "may", desc := "(II)Z" } : Jvm.MethodName) prog_1_method_5_code (3 : Nat) (Option.some Jvm.ClassFile.FieldType.boolean)) ∈ gT := mem_gT 213 (by decide +kernel) (by decide +kernel)
theorem iw_198 : (Jvm.Cond.methodLink "SeatProofs" (69 : Nat) ({ cls := "SeatProofs", name := "isLiquid", desc := "(I)Z" } : Jvm.MethodName)) ∈ gT := mem_gT 214 (by decide +kernel) (by decide +kernel)
theorem iw_199 : (Jvm.Cond.static ({ cls := "SeatProofs", name := "isLiquid", desc := "(I)Z" } : Jvm.MethodName)) ∈ gT := mem_gT 215 (by decide +kernel) (by decide +kernel)
theorem iw_200 : (Jvm.Cond.code ({ cls := "SeatProofs", name := "isLiquid", desc := "(I)Z" } : Jvm.MethodName) prog_1_method_22_code (1 : Nat) (Option.some Jvm.ClassFile.FieldType.boolean)) ∈ gT := mem_gT 216 (by decide +kernel) (by decide +kernel)
theorem iw_201 : (Jvm.Cond.methodLink "SeatProofs" (72 : Nat) ({ cls := "SeatProofs$Plant", name := "areFriends", desc := "(II)Z" } : Jvm.MethodName)) ∈ gT := mem_gT 217 (by decide +kernel) (by decide +kernel)
theorem iw_202 : (Jvm.Cond.instanceMethod ({ cls := "SeatProofs$Plant", name := "areFriends", desc := "(II)Z" } : Jvm.MethodName)) ∈ gT := mem_gT 218 (by decide +kernel) (by decide +kernel)
theorem iw_203 : (Jvm.Cond.selects "SeatProofs$Plant" ({ cls := "SeatProofs$Plant", name := "areFriends", desc := "(II)Z" } : Jvm.MethodName) ({ cls := "SeatProofs$Plant", name := "areFriends", desc := "(II)Z" } : Jvm.MethodName)) ∈ gT := mem_gT 219 (by decide +kernel) (by decide +kernel)
theorem iw_204 : (Jvm.Cond.code ({ cls := "SeatProofs$Plant", name := "areFriends", desc := "(II)Z" } : Jvm.MethodName) prog_3_method_12_code (3 : Nat) (Option.some Jvm.ClassFile.FieldType.boolean)) ∈ gT := mem_gT 220 (by decide +kernel) (by decide +kernel)
theorem iw_205 : (Jvm.Cond.methodLink "SeatProofs" (76 : Nat) ({ cls := "SeatProofs$Plant", name := "befriend", desc := "(II)V" } : Jvm.MethodName)) ∈ gT := mem_gT 221 (by decide +kernel) (by decide +kernel)
theorem iw_206 : (Jvm.Cond.instanceMethod ({ cls := "SeatProofs$Plant", name := "befriend", desc := "(II)V" } : Jvm.MethodName)) ∈ gT := mem_gT 222 (by decide +kernel) (by decide +kernel)
theorem iw_207 : (Jvm.Cond.selects "SeatProofs$Plant" ({ cls := "SeatProofs$Plant", name := "befriend", desc := "(II)V" } : Jvm.MethodName) ({ cls := "SeatProofs$Plant", name := "befriend", desc := "(II)V" } : Jvm.MethodName)) ∈ gT := mem_gT 223 (by decide +kernel) (by decide +kernel)
theorem iw_208 : (Jvm.Cond.code ({ cls := "SeatProofs$Plant", name := "befriend", desc := "(II)V" } : Jvm.MethodName) prog_3_method_13_code (3 : Nat) (Option.none : Option Jvm.ClassFile.FieldType)) ∈ gT := mem_gT 224 (by decide +kernel) (by decide +kernel)
theorem iw_209 : (Jvm.Cond.methodLink "SeatProofsLaw" (44 : Nat) ({ cls := "SeatProofs", name := "safe", desc := "()I" } : Jvm.MethodName)) ∈ gT := mem_gT 225 (by decide +kernel) (by decide +kernel)
theorem iw_210 : (Jvm.Cond.instanceMethod ({ cls := "SeatProofs", name := "safe", desc := "()I" } : Jvm.MethodName)) ∈ gT := mem_gT 226 (by decide +kernel) (by decide +kernel)
theorem iw_211 : (Jvm.Cond.selects "SeatProofs" ({ cls := "SeatProofs", name := "safe", desc := "()I" } : Jvm.MethodName) ({ cls := "SeatProofs", name := "safe", desc := "()I" } : Jvm.MethodName)) ∈ gT := mem_gT 227 (by decide +kernel) (by decide +kernel)
theorem iw_212 : (Jvm.Cond.code ({ cls := "SeatProofs", name := "safe", desc := "()I" } : Jvm.MethodName) prog_1_method_6_code (4 : Nat) (Option.some Jvm.ClassFile.FieldType.int)) ∈ gT := mem_gT 228 (by decide +kernel) (by decide +kernel)
theorem iw_213 : (Jvm.Cond.methodLink "SeatProofs" (80 : Nat) ({ cls := "SeatProofs$Flow", name := "lay", desc := "(I)V" } : Jvm.MethodName)) ∈ gT := mem_gT 229 (by decide +kernel) (by decide +kernel)
theorem iw_214 : (Jvm.Cond.instanceMethod ({ cls := "SeatProofs$Flow", name := "lay", desc := "(I)V" } : Jvm.MethodName)) ∈ gT := mem_gT 230 (by decide +kernel) (by decide +kernel)
theorem iw_215 : (Jvm.Cond.selects "SeatProofs$Flow" ({ cls := "SeatProofs$Flow", name := "lay", desc := "(I)V" } : Jvm.MethodName) ({ cls := "SeatProofs$Flow", name := "lay", desc := "(I)V" } : Jvm.MethodName)) ∈ gT := mem_gT 231 (by decide +kernel) (by decide +kernel)
theorem iw_216 : (Jvm.Cond.code ({ cls := "SeatProofs$Flow", name := "lay", desc := "(I)V" } : Jvm.MethodName) prog_2_method_2_code (3 : Nat) (Option.none : Option Jvm.ClassFile.FieldType)) ∈ gT := mem_gT 232 (by decide +kernel) (by decide +kernel)
theorem iw_217 : (Jvm.Cond.methodLink "SeatProofs$Flow" (22 : Nat) ({ cls := "SeatProofs$Plant", name := "letting", desc := "(I)J" } : Jvm.MethodName)) ∈ gT := mem_gT 233 (by decide +kernel) (by decide +kernel)
theorem iw_218 : (Jvm.Cond.instanceMethod ({ cls := "SeatProofs$Plant", name := "letting", desc := "(I)J" } : Jvm.MethodName)) ∈ gT := mem_gT 234 (by decide +kernel) (by decide +kernel)
theorem iw_219 : (Jvm.Cond.selects "SeatProofs$Plant" ({ cls := "SeatProofs$Plant", name := "letting", desc := "(I)J" } : Jvm.MethodName) ({ cls := "SeatProofs$Plant", name := "letting", desc := "(I)J" } : Jvm.MethodName)) ∈ gT := mem_gT 235 (by decide +kernel) (by decide +kernel)
theorem iw_220 : (Jvm.Cond.code ({ cls := "SeatProofs$Plant", name := "letting", desc := "(I)J" } : Jvm.MethodName) prog_3_method_15_code (6 : Nat) (Option.some Jvm.ClassFile.FieldType.long)) ∈ gT := mem_gT 236 (by decide +kernel) (by decide +kernel)
theorem in_221 : (Jvm.Cond.methodLinkNest "SeatProofs$Flow" (38 : Nat) ({ cls := "SeatProofs", name := "has", desc := "(JI)Z" } : Jvm.MethodName) "SeatProofs") ∈ nT := mem_nT 237 (by decide +kernel) (by decide +kernel)
theorem iw_222 : (Jvm.Cond.methodLink "SeatProofs$Flow" (49 : Nat) ({ cls := "SeatProofs$Flow", name := "layWay", desc := "(III)V" } : Jvm.MethodName)) ∈ gT := mem_gT 238 (by decide +kernel) (by decide +kernel)
theorem iw_224 : (Jvm.Cond.instanceMethod ({ cls := "SeatProofs$Flow", name := "layWay", desc := "(III)V" } : Jvm.MethodName)) ∈ gT := mem_gT 240 (by decide +kernel) (by decide +kernel)
theorem iw_225 : (Jvm.Cond.code ({ cls := "SeatProofs$Flow", name := "layWay", desc := "(III)V" } : Jvm.MethodName) prog_2_method_3_code (4 : Nat) (Option.none : Option Jvm.ClassFile.FieldType)) ∈ gT := mem_gT 241 (by decide +kernel) (by decide +kernel)
theorem in_226 : (Jvm.Cond.methodLinkNest "SeatProofs$Flow" (56 : Nat) ({ cls := "SeatProofs", name := "only", desc := "(I)J" } : Jvm.MethodName) "SeatProofs") ∈ nT := mem_nT 242 (by decide +kernel) (by decide +kernel)
theorem iw_227 : (Jvm.Cond.methodLink "SeatProofs" (84 : Nat) ({ cls := "SeatProofs$Flow", name := "floodAll", desc := "()V" } : Jvm.MethodName)) ∈ gT := mem_gT 243 (by decide +kernel) (by decide +kernel)
theorem iw_228 : (Jvm.Cond.instanceMethod ({ cls := "SeatProofs$Flow", name := "floodAll", desc := "()V" } : Jvm.MethodName)) ∈ gT := mem_gT 244 (by decide +kernel) (by decide +kernel)
theorem iw_229 : (Jvm.Cond.selects "SeatProofs$Flow" ({ cls := "SeatProofs$Flow", name := "floodAll", desc := "()V" } : Jvm.MethodName) ({ cls := "SeatProofs$Flow", name := "floodAll", desc := "()V" } : Jvm.MethodName)) ∈ gT := mem_gT 245 (by decide +kernel) (by decide +kernel)
theorem iw_230 : (Jvm.Cond.code ({ cls := "SeatProofs$Flow", name := "floodAll", desc := "()V" } : Jvm.MethodName) prog_2_method_4_code (2 : Nat) (Option.none : Option Jvm.ClassFile.FieldType)) ∈ gT := mem_gT 246 (by decide +kernel) (by decide +kernel)
theorem iw_231 : (Jvm.Cond.methodLink "SeatProofs$Flow" (59 : Nat) ({ cls := "SeatProofs$Flow", name := "floodOf", desc := "(I)J" } : Jvm.MethodName)) ∈ gT := mem_gT 247 (by decide +kernel) (by decide +kernel)
theorem iw_232 : (Jvm.Cond.instanceMethod ({ cls := "SeatProofs$Flow", name := "floodOf", desc := "(I)J" } : Jvm.MethodName)) ∈ gT := mem_gT 248 (by decide +kernel) (by decide +kernel)
theorem iw_233 : (Jvm.Cond.selects "SeatProofs$Flow" ({ cls := "SeatProofs$Flow", name := "floodOf", desc := "(I)J" } : Jvm.MethodName) ({ cls := "SeatProofs$Flow", name := "floodOf", desc := "(I)J" } : Jvm.MethodName)) ∈ gT := mem_gT 249 (by decide +kernel) (by decide +kernel)
theorem iw_234 : (Jvm.Cond.code ({ cls := "SeatProofs$Flow", name := "floodOf", desc := "(I)J" } : Jvm.MethodName) prog_2_method_5_code (9 : Nat) (Option.some Jvm.ClassFile.FieldType.long)) ∈ gT := mem_gT 250 (by decide +kernel) (by decide +kernel)
theorem in_235 : (Jvm.Cond.methodLinkNest "SeatProofs$Flow" (65 : Nat) ({ cls := "SeatProofs", name := "lowest", desc := "(J)I" } : Jvm.MethodName) "SeatProofs") ∈ nT := mem_nT 251 (by decide +kernel) (by decide +kernel)
theorem iw_236 : (Jvm.Cond.static ({ cls := "SeatProofs", name := "lowest", desc := "(J)I" } : Jvm.MethodName)) ∈ gT := mem_gT 252 (by decide +kernel) (by decide +kernel)
theorem iw_237 : (Jvm.Cond.code ({ cls := "SeatProofs", name := "lowest", desc := "(J)I" } : Jvm.MethodName) prog_1_method_25_code (2 : Nat) (Option.some Jvm.ClassFile.FieldType.int)) ∈ gT := mem_gT 253 (by decide +kernel) (by decide +kernel)
theorem iw_238 : (Jvm.Cond.methodLink "SeatProofs" (117 : Nat) ({ cls := "java/lang/Long", name := "bitCount", desc := "(J)I" } : Jvm.MethodName)) ∈ gT := mem_gT 254 (by decide +kernel) (by decide +kernel)
theorem iw_239 : (Jvm.Cond.static ({ cls := "java/lang/Long", name := "bitCount", desc := "(J)I" } : Jvm.MethodName)) ∈ gT := mem_gT 255 (by decide +kernel) (by decide +kernel)
theorem iw_240 : (Jvm.Cond.code ({ cls := "java/lang/Long", name := "bitCount", desc := "(J)I" } : Jvm.MethodName) prog_9_method_50_code (2 : Nat) (Option.some Jvm.ClassFile.FieldType.int)) ∈ gT := mem_gT 256 (by decide +kernel) (by decide +kernel)
theorem iw_241 : (Jvm.Cond.constantLong "java/lang/Long" (314 : Nat) (6148914691236517205 : Int64)) ∈ gT := mem_gT 257 (by decide +kernel) (by decide +kernel)
theorem iw_242 : (Jvm.Cond.constantLong "java/lang/Long" (316 : Nat) (3689348814741910323 : Int64)) ∈ gT := mem_gT 258 (by decide +kernel) (by decide +kernel)
theorem iw_243 : (Jvm.Cond.constantLong "java/lang/Long" (318 : Nat) (1085102592571150095 : Int64)) ∈ gT := mem_gT 259 (by decide +kernel) (by decide +kernel)
theorem iw_244 : (Jvm.Cond.constantLong "SeatProofs$Flow" (69 : Nat) (-1 : Int64)) ∈ gT := mem_gT 260 (by decide +kernel) (by decide +kernel)
theorem iw_245 : (Jvm.Cond.methodLink "SeatProofs" (87 : Nat) ({ cls := "SeatProofs$Flow", name := "meetings", desc := "()J" } : Jvm.MethodName)) ∈ gT := mem_gT 261 (by decide +kernel) (by decide +kernel)
theorem iw_246 : (Jvm.Cond.instanceMethod ({ cls := "SeatProofs$Flow", name := "meetings", desc := "()J" } : Jvm.MethodName)) ∈ gT := mem_gT 262 (by decide +kernel) (by decide +kernel)
theorem iw_247 : (Jvm.Cond.selects "SeatProofs$Flow" ({ cls := "SeatProofs$Flow", name := "meetings", desc := "()J" } : Jvm.MethodName) ({ cls := "SeatProofs$Flow", name := "meetings", desc := "()J" } : Jvm.MethodName)) ∈ gT := mem_gT 263 (by decide +kernel) (by decide +kernel)
theorem iw_248 : (Jvm.Cond.code ({ cls := "SeatProofs$Flow", name := "meetings", desc := "()J" } : Jvm.MethodName) prog_2_method_8_code (5 : Nat) (Option.some Jvm.ClassFile.FieldType.long)) ∈ gT := mem_gT 264 (by decide +kernel) (by decide +kernel)
theorem iw_249 : (Jvm.Cond.methodLink "SeatProofs$Flow" (74 : Nat) ({ cls := "SeatProofs$Plant", name := "areFriends", desc := "(II)Z" } : Jvm.MethodName)) ∈ gT := mem_gT 265 (by decide +kernel) (by decide +kernel)
theorem iw_250 : (Jvm.Cond.methodLink "SeatProofs" (91 : Nat) ({ cls := "SeatProofs", name := "lowest", desc := "(J)I" } : Jvm.MethodName)) ∈ gT := mem_gT 266 (by decide +kernel) (by decide +kernel)
theorem iw_251 : (Jvm.Cond.methodLink "SeatProofs" (95 : Nat) ({ cls := "SeatProofs", name := "keepCulprit", desc := "(II)V" } : Jvm.MethodName)) ∈ gT := mem_gT 267 (by decide +kernel) (by decide +kernel)
theorem iw_253 : (Jvm.Cond.instanceMethod ({ cls := "SeatProofs", name := "keepCulprit", desc := "(II)V" } : Jvm.MethodName)) ∈ gT := mem_gT 269 (by decide +kernel) (by decide +kernel)
theorem iw_254 : (Jvm.Cond.code ({ cls := "SeatProofs", name := "keepCulprit", desc := "(II)V" } : Jvm.MethodName) prog_1_method_16_code (4 : Nat) (Option.none : Option Jvm.ClassFile.FieldType)) ∈ gT := mem_gT 270 (by decide +kernel) (by decide +kernel)
theorem iw_255 : (Jvm.Cond.methodLink "SeatProofs" (172 : Nat) ({ cls := "SeatProofs$Flow", name := "leastClashing", desc := "(II)I" } : Jvm.MethodName)) ∈ gT := mem_gT 271 (by decide +kernel) (by decide +kernel)
theorem iw_256 : (Jvm.Cond.instanceMethod ({ cls := "SeatProofs$Flow", name := "leastClashing", desc := "(II)I" } : Jvm.MethodName)) ∈ gT := mem_gT 272 (by decide +kernel) (by decide +kernel)
theorem iw_257 : (Jvm.Cond.selects "SeatProofs$Flow" ({ cls := "SeatProofs$Flow", name := "leastClashing", desc := "(II)I" } : Jvm.MethodName) ({ cls := "SeatProofs$Flow", name := "leastClashing", desc := "(II)I" } : Jvm.MethodName)) ∈ gT := mem_gT 273 (by decide +kernel) (by decide +kernel)
theorem iw_258 : (Jvm.Cond.code ({ cls := "SeatProofs$Flow", name := "leastClashing", desc := "(II)I" } : Jvm.MethodName) prog_2_method_9_code (5 : Nat) (Option.some Jvm.ClassFile.FieldType.int)) ∈ gT := mem_gT 274 (by decide +kernel) (by decide +kernel)
theorem iw_259 : (Jvm.Cond.methodLink "SeatProofs$Flow" (78 : Nat) ({ cls := "SeatProofs$Flow", name := "clashes", desc := "(IJ)Z" } : Jvm.MethodName)) ∈ gT := mem_gT 275 (by decide +kernel) (by decide +kernel)
theorem iw_260 : (Jvm.Cond.instanceMethod ({ cls := "SeatProofs$Flow", name := "clashes", desc := "(IJ)Z" } : Jvm.MethodName)) ∈ gT := mem_gT 276 (by decide +kernel) (by decide +kernel)
theorem iw_261 : (Jvm.Cond.selects "SeatProofs$Flow" ({ cls := "SeatProofs$Flow", name := "clashes", desc := "(IJ)Z" } : Jvm.MethodName) ({ cls := "SeatProofs$Flow", name := "clashes", desc := "(IJ)Z" } : Jvm.MethodName)) ∈ gT := mem_gT 277 (by decide +kernel) (by decide +kernel)
theorem iw_262 : (Jvm.Cond.code ({ cls := "SeatProofs$Flow", name := "clashes", desc := "(IJ)Z" } : Jvm.MethodName) prog_2_method_7_code (5 : Nat) (Option.some Jvm.ClassFile.FieldType.boolean)) ∈ gT := mem_gT 278 (by decide +kernel) (by decide +kernel)
theorem iw_263 : (Jvm.Cond.methodLink "SeatProofs" (98 : Nat) ({ cls := "SeatProofs", name := "addRows", desc := "(I)V" } : Jvm.MethodName)) ∈ gT := mem_gT 279 (by decide +kernel) (by decide +kernel)
theorem iw_265 : (Jvm.Cond.instanceMethod ({ cls := "SeatProofs", name := "addRows", desc := "(I)V" } : Jvm.MethodName)) ∈ gT := mem_gT 281 (by decide +kernel) (by decide +kernel)
theorem iw_266 : (Jvm.Cond.code ({ cls := "SeatProofs", name := "addRows", desc := "(I)V" } : Jvm.MethodName) prog_1_method_17_code (5 : Nat) (Option.none : Option Jvm.ClassFile.FieldType)) ∈ gT := mem_gT 282 (by decide +kernel) (by decide +kernel)
theorem iw_267 : (Jvm.Cond.methodLink "SeatProofs" (179 : Nat) ({ cls := "SeatProofs$Flow", name := "cutOf", desc := "(J)J" } : Jvm.MethodName)) ∈ gT := mem_gT 283 (by decide +kernel) (by decide +kernel)
theorem iw_268 : (Jvm.Cond.instanceMethod ({ cls := "SeatProofs$Flow", name := "cutOf", desc := "(J)J" } : Jvm.MethodName)) ∈ gT := mem_gT 284 (by decide +kernel) (by decide +kernel)
theorem iw_269 : (Jvm.Cond.selects "SeatProofs$Flow" ({ cls := "SeatProofs$Flow", name := "cutOf", desc := "(J)J" } : Jvm.MethodName) ({ cls := "SeatProofs$Flow", name := "cutOf", desc := "(J)J" } : Jvm.MethodName)) ∈ gT := mem_gT 285 (by decide +kernel) (by decide +kernel)
theorem iw_270 : (Jvm.Cond.code ({ cls := "SeatProofs$Flow", name := "cutOf", desc := "(J)J" } : Jvm.MethodName) prog_2_method_6_code (11 : Nat) (Option.some Jvm.ClassFile.FieldType.long)) ∈ gT := mem_gT 286 (by decide +kernel) (by decide +kernel)
theorem iw_271 : (Jvm.Cond.methodLink "SeatProofs" (183 : Nat) ({ cls := "SeatProofs$Proof", name := "add", desc := "(IIJJ)V" } : Jvm.MethodName)) ∈ gT := mem_gT 287 (by decide +kernel) (by decide +kernel)
theorem iw_272 : (Jvm.Cond.instanceMethod ({ cls := "SeatProofs$Proof", name := "add", desc := "(IIJJ)V" } : Jvm.MethodName)) ∈ gT := mem_gT 288 (by decide +kernel) (by decide +kernel)
theorem iw_273 : (Jvm.Cond.selects "SeatProofs$Proof" ({ cls := "SeatProofs$Proof", name := "add", desc := "(IIJJ)V" } : Jvm.MethodName) ({ cls := "SeatProofs$Proof", name := "add", desc := "(IIJJ)V" } : Jvm.MethodName)) ∈ gT := mem_gT 289 (by decide +kernel) (by decide +kernel)
theorem iw_274 : (Jvm.Cond.code ({ cls := "SeatProofs$Proof", name := "add", desc := "(IIJJ)V" } : Jvm.MethodName) prog_4_method_4_code (7 : Nat) (Option.none : Option Jvm.ClassFile.FieldType)) ∈ gT := mem_gT 290 (by decide +kernel) (by decide +kernel)
theorem iw_275 : (Jvm.Cond.methodLink "SeatProofsLaw" (49 : Nat) ({ cls := "SeatProofs", name := "culprit", desc := "(I)I" } : Jvm.MethodName)) ∈ gT := mem_gT 291 (by decide +kernel) (by decide +kernel)
theorem iw_276 : (Jvm.Cond.instanceMethod ({ cls := "SeatProofs", name := "culprit", desc := "(I)I" } : Jvm.MethodName)) ∈ gT := mem_gT 292 (by decide +kernel) (by decide +kernel)
theorem iw_277 : (Jvm.Cond.selects "SeatProofs" ({ cls := "SeatProofs", name := "culprit", desc := "(I)I" } : Jvm.MethodName) ({ cls := "SeatProofs", name := "culprit", desc := "(I)I" } : Jvm.MethodName)) ∈ gT := mem_gT 293 (by decide +kernel) (by decide +kernel)
theorem iw_278 : (Jvm.Cond.code ({ cls := "SeatProofs", name := "culprit", desc := "(I)I" } : Jvm.MethodName) prog_1_method_7_code (2 : Nat) (Option.some Jvm.ClassFile.FieldType.int)) ∈ gT := mem_gT 294 (by decide +kernel) (by decide +kernel)
theorem iw_279 : (Jvm.Cond.methodLink "SeatProofsLaw" (53 : Nat) ({ cls := "SeatProofs", name := "rows", desc := "()I" } : Jvm.MethodName)) ∈ gT := mem_gT 295 (by decide +kernel) (by decide +kernel)
theorem iw_280 : (Jvm.Cond.instanceMethod ({ cls := "SeatProofs", name := "rows", desc := "()I" } : Jvm.MethodName)) ∈ gT := mem_gT 296 (by decide +kernel) (by decide +kernel)
theorem iw_281 : (Jvm.Cond.selects "SeatProofs" ({ cls := "SeatProofs", name := "rows", desc := "()I" } : Jvm.MethodName) ({ cls := "SeatProofs", name := "rows", desc := "()I" } : Jvm.MethodName)) ∈ gT := mem_gT 297 (by decide +kernel) (by decide +kernel)
theorem iw_282 : (Jvm.Cond.code ({ cls := "SeatProofs", name := "rows", desc := "()I" } : Jvm.MethodName) prog_1_method_8_code (1 : Nat) (Option.some Jvm.ClassFile.FieldType.int)) ∈ gT := mem_gT 298 (by decide +kernel) (by decide +kernel)
theorem iw_283 : (Jvm.Cond.methodLink "SeatProofsLaw" (57 : Nat) ({ cls := "SeatProofs", name := "row", desc := "(II)I" } : Jvm.MethodName)) ∈ gT := mem_gT 299 (by decide +kernel) (by decide +kernel)
theorem iw_284 : (Jvm.Cond.instanceMethod ({ cls := "SeatProofs", name := "row", desc := "(II)I" } : Jvm.MethodName)) ∈ gT := mem_gT 300 (by decide +kernel) (by decide +kernel)
theorem iw_285 : (Jvm.Cond.selects "SeatProofs" ({ cls := "SeatProofs", name := "row", desc := "(II)I" } : Jvm.MethodName) ({ cls := "SeatProofs", name := "row", desc := "(II)I" } : Jvm.MethodName)) ∈ gT := mem_gT 301 (by decide +kernel) (by decide +kernel)
theorem iw_286 : (Jvm.Cond.code ({ cls := "SeatProofs", name := "row", desc := "(II)I" } : Jvm.MethodName) prog_1_method_9_code (3 : Nat) (Option.some Jvm.ClassFile.FieldType.int)) ∈ gT := mem_gT 302 (by decide +kernel) (by decide +kernel)
theorem iw_287 : (Jvm.Cond.methodLink "SeatProofs" (104 : Nat) ({ cls := "SeatProofs$Proof", name := "hasRow", desc := "(I)Z" } : Jvm.MethodName)) ∈ gT := mem_gT 303 (by decide +kernel) (by decide +kernel)
theorem iw_288 : (Jvm.Cond.instanceMethod ({ cls := "SeatProofs$Proof", name := "hasRow", desc := "(I)Z" } : Jvm.MethodName)) ∈ gT := mem_gT 304 (by decide +kernel) (by decide +kernel)
theorem iw_289 : (Jvm.Cond.selects "SeatProofs$Proof" ({ cls := "SeatProofs$Proof", name := "hasRow", desc := "(I)Z" } : Jvm.MethodName) ({ cls := "SeatProofs$Proof", name := "hasRow", desc := "(I)Z" } : Jvm.MethodName)) ∈ gT := mem_gT 305 (by decide +kernel) (by decide +kernel)
theorem iw_290 : (Jvm.Cond.code ({ cls := "SeatProofs$Proof", name := "hasRow", desc := "(I)Z" } : Jvm.MethodName) prog_4_method_3_code (2 : Nat) (Option.some Jvm.ClassFile.FieldType.boolean)) ∈ gT := mem_gT 306 (by decide +kernel) (by decide +kernel)
theorem iw_291 : (Jvm.Cond.methodLink "SeatProofs" (125 : Nat) ({ cls := "SeatProofs", name := "memberAt", desc := "(JI)I" } : Jvm.MethodName)) ∈ gT := mem_gT 307 (by decide +kernel) (by decide +kernel)
theorem iw_292 : (Jvm.Cond.static ({ cls := "SeatProofs", name := "memberAt", desc := "(JI)I" } : Jvm.MethodName)) ∈ gT := mem_gT 308 (by decide +kernel) (by decide +kernel)
theorem iw_293 : (Jvm.Cond.code ({ cls := "SeatProofs", name := "memberAt", desc := "(JI)I" } : Jvm.MethodName) prog_1_method_26_code (6 : Nat) (Option.some Jvm.ClassFile.FieldType.int)) ∈ gT := mem_gT 309 (by decide +kernel) (by decide +kernel)
theorem iw_294 : (Jvm.Cond.methodLink "SeatProofsLaw" (62 : Nat) ({ cls := "SeatProofs", name := "check", desc := "()I" } : Jvm.MethodName)) ∈ gT := mem_gT 310 (by decide +kernel) (by decide +kernel)
theorem iw_295 : (Jvm.Cond.instanceMethod ({ cls := "SeatProofs", name := "check", desc := "()I" } : Jvm.MethodName)) ∈ gT := mem_gT 311 (by decide +kernel) (by decide +kernel)
theorem iw_296 : (Jvm.Cond.selects "SeatProofs" ({ cls := "SeatProofs", name := "check", desc := "()I" } : Jvm.MethodName) ({ cls := "SeatProofs", name := "check", desc := "()I" } : Jvm.MethodName)) ∈ gT := mem_gT 312 (by decide +kernel) (by decide +kernel)
theorem iw_297 : (Jvm.Cond.code ({ cls := "SeatProofs", name := "check", desc := "()I" } : Jvm.MethodName) prog_1_method_10_code (3 : Nat) (Option.some Jvm.ClassFile.FieldType.int)) ∈ gT := mem_gT 313 (by decide +kernel) (by decide +kernel)
theorem iw_298 : (Jvm.Cond.methodLink "SeatProofs" (129 : Nat) ({ cls := "SeatProofs", name := "isRight", desc := "(I)Z" } : Jvm.MethodName)) ∈ gT := mem_gT 314 (by decide +kernel) (by decide +kernel)
theorem iw_300 : (Jvm.Cond.instanceMethod ({ cls := "SeatProofs", name := "isRight", desc := "(I)Z" } : Jvm.MethodName)) ∈ gT := mem_gT 316 (by decide +kernel) (by decide +kernel)
theorem iw_301 : (Jvm.Cond.code ({ cls := "SeatProofs", name := "isRight", desc := "(I)Z" } : Jvm.MethodName) prog_1_method_18_code (5 : Nat) (Option.some Jvm.ClassFile.FieldType.boolean)) ∈ gT := mem_gT 317 (by decide +kernel) (by decide +kernel)
theorem iw_302 : (Jvm.Cond.methodLink "SeatProofs" (187 : Nat) ({ cls := "SeatProofs$Flow", name := "clashes", desc := "(IJ)Z" } : Jvm.MethodName)) ∈ gT := mem_gT 318 (by decide +kernel) (by decide +kernel)
theorem iw_303 : (Jvm.Cond.methodLink "SeatProofs" (132 : Nat) ({ cls := "SeatProofs$Plant", name := "rowsDue", desc := "()I" } : Jvm.MethodName)) ∈ gT := mem_gT 319 (by decide +kernel) (by decide +kernel)
theorem iw_304 : (Jvm.Cond.instanceMethod ({ cls := "SeatProofs$Plant", name := "rowsDue", desc := "()I" } : Jvm.MethodName)) ∈ gT := mem_gT 320 (by decide +kernel) (by decide +kernel)
theorem iw_305 : (Jvm.Cond.selects "SeatProofs$Plant" ({ cls := "SeatProofs$Plant", name := "rowsDue", desc := "()I" } : Jvm.MethodName) ({ cls := "SeatProofs$Plant", name := "rowsDue", desc := "()I" } : Jvm.MethodName)) ∈ gT := mem_gT 321 (by decide +kernel) (by decide +kernel)
theorem iw_306 : (Jvm.Cond.code ({ cls := "SeatProofs$Plant", name := "rowsDue", desc := "()I" } : Jvm.MethodName) prog_3_method_14_code (3 : Nat) (Option.some Jvm.ClassFile.FieldType.int)) ∈ gT := mem_gT 322 (by decide +kernel) (by decide +kernel)
theorem iw_307 : (Jvm.Cond.methodLink "SeatProofsLaw" (78 : Nat) ({ cls := "SeatProofs", name := "tested", desc := "()I" } : Jvm.MethodName)) ∈ gT := mem_gT 323 (by decide +kernel) (by decide +kernel)
theorem iw_308 : (Jvm.Cond.instanceMethod ({ cls := "SeatProofs", name := "tested", desc := "()I" } : Jvm.MethodName)) ∈ gT := mem_gT 324 (by decide +kernel) (by decide +kernel)
theorem iw_309 : (Jvm.Cond.selects "SeatProofs" ({ cls := "SeatProofs", name := "tested", desc := "()I" } : Jvm.MethodName) ({ cls := "SeatProofs", name := "tested", desc := "()I" } : Jvm.MethodName)) ∈ gT := mem_gT 325 (by decide +kernel) (by decide +kernel)
theorem iw_310 : (Jvm.Cond.code ({ cls := "SeatProofs", name := "tested", desc := "()I" } : Jvm.MethodName) prog_1_method_13_code (1 : Nat) (Option.some Jvm.ClassFile.FieldType.int)) ∈ gT := mem_gT 326 (by decide +kernel) (by decide +kernel)
theorem iw_311 : (Jvm.Cond.methodLink "SeatProofsLaw" (82 : Nat) ({ cls := "SeatProofs", name := "drop", desc := "(I)Z" } : Jvm.MethodName)) ∈ gT := mem_gT 327 (by decide +kernel) (by decide +kernel)
theorem iw_312 : (Jvm.Cond.instanceMethod ({ cls := "SeatProofs", name := "drop", desc := "(I)Z" } : Jvm.MethodName)) ∈ gT := mem_gT 328 (by decide +kernel) (by decide +kernel)
theorem iw_313 : (Jvm.Cond.selects "SeatProofs" ({ cls := "SeatProofs", name := "drop", desc := "(I)Z" } : Jvm.MethodName) ({ cls := "SeatProofs", name := "drop", desc := "(I)Z" } : Jvm.MethodName)) ∈ gT := mem_gT 329 (by decide +kernel) (by decide +kernel)
theorem iw_314 : (Jvm.Cond.code ({ cls := "SeatProofs", name := "drop", desc := "(I)Z" } : Jvm.MethodName) prog_1_method_14_code (2 : Nat) (Option.some Jvm.ClassFile.FieldType.boolean)) ∈ gT := mem_gT 330 (by decide +kernel) (by decide +kernel)
theorem iw_315 : (Jvm.Cond.methodLink "SeatProofs" (168 : Nat) ({ cls := "SeatProofs$Proof", name := "remove", desc := "(I)V" } : Jvm.MethodName)) ∈ gT := mem_gT 331 (by decide +kernel) (by decide +kernel)
theorem iw_316 : (Jvm.Cond.instanceMethod ({ cls := "SeatProofs$Proof", name := "remove", desc := "(I)V" } : Jvm.MethodName)) ∈ gT := mem_gT 332 (by decide +kernel) (by decide +kernel)
theorem iw_317 : (Jvm.Cond.selects "SeatProofs$Proof" ({ cls := "SeatProofs$Proof", name := "remove", desc := "(I)V" } : Jvm.MethodName) ({ cls := "SeatProofs$Proof", name := "remove", desc := "(I)V" } : Jvm.MethodName)) ∈ gT := mem_gT 333 (by decide +kernel) (by decide +kernel)
theorem iw_318 : (Jvm.Cond.code ({ cls := "SeatProofs$Proof", name := "remove", desc := "(I)V" } : Jvm.MethodName) prog_4_method_5_code (3 : Nat) (Option.none : Option Jvm.ClassFile.FieldType)) ∈ gT := mem_gT 334 (by decide +kernel) (by decide +kernel)
theorem iw_319 : (Jvm.Cond.methodLink "SeatProofs$Proof" (29 : Nat) ({ cls := "java/lang/System", name := "arraycopy", desc := "(Ljava/lang/Object;ILjava/lang/Object;II)V" } : Jvm.MethodName)) ∈ gT := mem_gT 335 (by decide +kernel) (by decide +kernel)
theorem iw_320 : (Jvm.Cond.static ({ cls := "java/lang/System", name := "arraycopy", desc := "(Ljava/lang/Object;ILjava/lang/Object;II)V" } : Jvm.MethodName)) ∈ gT := mem_gT 336 (by decide +kernel) (by decide +kernel)
theorem iw_322 : (Jvm.Cond.methodLink "SeatProofsLaw" (87 : Nat) ({ cls := "SeatProofs", name := "clear", desc := "()V" } : Jvm.MethodName)) ∈ gT := mem_gT 338 (by decide +kernel) (by decide +kernel)
theorem iw_323 : (Jvm.Cond.instanceMethod ({ cls := "SeatProofs", name := "clear", desc := "()V" } : Jvm.MethodName)) ∈ gT := mem_gT 339 (by decide +kernel) (by decide +kernel)
theorem iw_324 : (Jvm.Cond.selects "SeatProofs" ({ cls := "SeatProofs", name := "clear", desc := "()V" } : Jvm.MethodName) ({ cls := "SeatProofs", name := "clear", desc := "()V" } : Jvm.MethodName)) ∈ gT := mem_gT 340 (by decide +kernel) (by decide +kernel)
theorem iw_325 : (Jvm.Cond.code ({ cls := "SeatProofs", name := "clear", desc := "()V" } : Jvm.MethodName) prog_1_method_15_code (1 : Nat) (Option.none : Option Jvm.ClassFile.FieldType)) ∈ gT := mem_gT 341 (by decide +kernel) (by decide +kernel)
theorem iw_326 : (Jvm.Cond.methodLink "SeatProofs" (171 : Nat) ({ cls := "SeatProofs$Plant", name := "empty", desc := "()V" } : Jvm.MethodName)) ∈ gT := mem_gT 342 (by decide +kernel) (by decide +kernel)
theorem iw_327 : (Jvm.Cond.instanceMethod ({ cls := "SeatProofs$Plant", name := "empty", desc := "()V" } : Jvm.MethodName)) ∈ gT := mem_gT 343 (by decide +kernel) (by decide +kernel)
theorem iw_328 : (Jvm.Cond.selects "SeatProofs$Plant" ({ cls := "SeatProofs$Plant", name := "empty", desc := "()V" } : Jvm.MethodName) ({ cls := "SeatProofs$Plant", name := "empty", desc := "()V" } : Jvm.MethodName)) ∈ gT := mem_gT 344 (by decide +kernel) (by decide +kernel)
theorem iw_329 : (Jvm.Cond.code ({ cls := "SeatProofs$Plant", name := "empty", desc := "()V" } : Jvm.MethodName) prog_3_method_2_code (2 : Nat) (Option.none : Option Jvm.ClassFile.FieldType)) ∈ gT := mem_gT 345 (by decide +kernel) (by decide +kernel)
theorem iw_330 : (Jvm.Cond.methodLink "SeatProofsLaw" (66 : Nat) ({ cls := "SeatProofsLaw", name := "set", desc := "(LSeatProofs;IZ[J)I" } : Jvm.MethodName)) ∈ gT := mem_gT 346 (by decide +kernel) (by decide +kernel)
theorem iw_331 : (Jvm.Cond.static ({ cls := "SeatProofsLaw", name := "set", desc := "(LSeatProofs;IZ[J)I" } : Jvm.MethodName)) ∈ gT := mem_gT 347 (by decide +kernel) (by decide +kernel)
theorem iw_333 : (Jvm.Cond.classLink "SeatProofsLaw" (13 : Nat) "java/lang/IndexOutOfBoundsException") ∈ gT := mem_gT 349 (by decide +kernel) (by decide +kernel)
theorem iw_334 : (Jvm.Cond.methodLink "SeatProofsLaw" (7 : Nat) ({ cls := "SeatProofs", name := "set", desc := "(IZ)Z" } : Jvm.MethodName)) ∈ gT := mem_gT 350 (by decide +kernel) (by decide +kernel)
theorem iw_335 : (Jvm.Cond.instanceMethod ({ cls := "SeatProofs", name := "set", desc := "(IZ)Z" } : Jvm.MethodName)) ∈ gT := mem_gT 351 (by decide +kernel) (by decide +kernel)
theorem iw_336 : (Jvm.Cond.selects "SeatProofs" ({ cls := "SeatProofs", name := "set", desc := "(IZ)Z" } : Jvm.MethodName) ({ cls := "SeatProofs", name := "set", desc := "(IZ)Z" } : Jvm.MethodName)) ∈ gT := mem_gT 352 (by decide +kernel) (by decide +kernel)
theorem iw_337 : (Jvm.Cond.code ({ cls := "SeatProofs", name := "set", desc := "(IZ)Z" } : Jvm.MethodName) prog_1_method_11_code (3 : Nat) (Option.some Jvm.ClassFile.FieldType.boolean)) ∈ gT := mem_gT 353 (by decide +kernel) (by decide +kernel)
theorem iw_338 : (Jvm.Cond.methodLink "SeatProofs" (136 : Nat) ({ cls := "SeatProofs$Plant", name := "hasValve", desc := "(I)Z" } : Jvm.MethodName)) ∈ gT := mem_gT 354 (by decide +kernel) (by decide +kernel)
theorem iw_339 : (Jvm.Cond.instanceMethod ({ cls := "SeatProofs$Plant", name := "hasValve", desc := "(I)Z" } : Jvm.MethodName)) ∈ gT := mem_gT 355 (by decide +kernel) (by decide +kernel)
theorem iw_340 : (Jvm.Cond.selects "SeatProofs$Plant" ({ cls := "SeatProofs$Plant", name := "hasValve", desc := "(I)Z" } : Jvm.MethodName) ({ cls := "SeatProofs$Plant", name := "hasValve", desc := "(I)Z" } : Jvm.MethodName)) ∈ gT := mem_gT 356 (by decide +kernel) (by decide +kernel)
theorem iw_341 : (Jvm.Cond.code ({ cls := "SeatProofs$Plant", name := "hasValve", desc := "(I)Z" } : Jvm.MethodName) prog_3_method_4_code (2 : Nat) (Option.some Jvm.ClassFile.FieldType.boolean)) ∈ gT := mem_gT 357 (by decide +kernel) (by decide +kernel)
theorem iw_342 : (Jvm.Cond.classLink "SeatProofs" (139 : Nat) "java/lang/IndexOutOfBoundsException") ∈ gT := mem_gT 358 (by decide +kernel) (by decide +kernel)
theorem iw_343 : (Jvm.Cond.instantiable "java/lang/IndexOutOfBoundsException" (6 : Nat)) ∈ gT := mem_gT 359 (by decide +kernel) (by decide +kernel)
theorem iw_351 : (Jvm.Cond.selects "java/lang/IndexOutOfBoundsException" ({ cls := "java/lang/Throwable", name := "fillInStackTrace", desc := "(I)Ljava/lang/Throwable;" } : Jvm.MethodName) ({ cls := "java/lang/Throwable", name := "fillInStackTrace", desc := "(I)Ljava/lang/Throwable;" } : Jvm.MethodName)) ∈ gT := mem_gT 367 (by decide +kernel) (by decide +kernel)
theorem iw_352 : (Jvm.Cond.selects "java/lang/IndexOutOfBoundsException" ({ cls := "java/lang/Throwable", name := "fillInStackTrace", desc := "()Ljava/lang/Throwable;" } : Jvm.MethodName) ({ cls := "java/lang/Throwable", name := "fillInStackTrace", desc := "()Ljava/lang/Throwable;" } : Jvm.MethodName)) ∈ gT := mem_gT 368 (by decide +kernel) (by decide +kernel)
theorem iw_353 : (Jvm.Cond.lays "java/lang/IndexOutOfBoundsException" "java/lang/Throwable" "cause" "Ljava/lang/Throwable;") ∈ gT := mem_gT 369 (by decide +kernel) (by decide +kernel)
theorem iw_354 : (Jvm.Cond.lays "java/lang/Throwable" "java/lang/Throwable" "cause" "Ljava/lang/Throwable;") ∈ gT := mem_gT 370 (by decide +kernel) (by decide +kernel)
theorem iw_355 : (Jvm.Cond.lays "java/lang/IndexOutOfBoundsException" "java/lang/Throwable" "stackTrace" "[Ljava/lang/StackTraceElement;") ∈ gT := mem_gT 371 (by decide +kernel) (by decide +kernel)
theorem iw_356 : (Jvm.Cond.lays "java/lang/Throwable" "java/lang/Throwable" "stackTrace" "[Ljava/lang/StackTraceElement;") ∈ gT := mem_gT 372 (by decide +kernel) (by decide +kernel)
theorem iw_357 : (Jvm.Cond.lays "java/lang/IndexOutOfBoundsException" "java/lang/Throwable" "suppressedExceptions" "Ljava/util/List;") ∈ gT := mem_gT 373 (by decide +kernel) (by decide +kernel)
theorem iw_358 : (Jvm.Cond.lays "java/lang/Throwable" "java/lang/Throwable" "suppressedExceptions" "Ljava/util/List;") ∈ gT := mem_gT 374 (by decide +kernel) (by decide +kernel)
theorem iw_359 : (Jvm.Cond.lays "java/lang/IndexOutOfBoundsException" "java/lang/Throwable" "detailMessage" "Ljava/lang/String;") ∈ gT := mem_gT 375 (by decide +kernel) (by decide +kernel)
theorem iw_360 : (Jvm.Cond.lays "java/lang/Throwable" "java/lang/Throwable" "detailMessage" "Ljava/lang/String;") ∈ gT := mem_gT 376 (by decide +kernel) (by decide +kernel)
theorem iw_361 : (Jvm.Cond.lays "java/lang/IndexOutOfBoundsException" "java/lang/Throwable" "backtrace" "Ljava/lang/Object;") ∈ gT := mem_gT 377 (by decide +kernel) (by decide +kernel)
theorem iw_362 : (Jvm.Cond.lays "java/lang/Throwable" "java/lang/Throwable" "backtrace" "Ljava/lang/Object;") ∈ gT := mem_gT 378 (by decide +kernel) (by decide +kernel)
theorem iw_363 : (Jvm.Cond.fieldLink "java/lang/Throwable" (198 : Nat) "java/lang/Throwable" "backtrace" "Ljava/lang/Object;") ∈ gT := mem_gT 379 (by decide +kernel) (by decide +kernel)
theorem iw_365 : (Jvm.Cond.instanceMethod ({ cls := "java/lang/Throwable", name := "<init>", desc := "()V" } : Jvm.MethodName)) ∈ gT := mem_gT 381 (by decide +kernel) (by decide +kernel)
theorem iw_366 : (Jvm.Cond.code ({ cls := "java/lang/Throwable", name := "<init>", desc := "()V" } : Jvm.MethodName) prog_13_method_1_code (1 : Nat) (Option.none : Option Jvm.ClassFile.FieldType)) ∈ gT := mem_gT 382 (by decide +kernel) (by decide +kernel)
theorem iw_367 : (Jvm.Cond.methodLink "java/lang/Throwable" (1 : Nat) ({ cls := "java/lang/Object", name := "<init>", desc := "()V" } : Jvm.MethodName)) ∈ gT := mem_gT 383 (by decide +kernel) (by decide +kernel)
theorem iw_368 : (Jvm.Cond.fieldLink "java/lang/Throwable" (13 : Nat) "java/lang/Throwable" "UNASSIGNED_STACK" "[Ljava/lang/StackTraceElement;") ∈ gT := mem_gT 384 (by decide +kernel) (by decide +kernel)
theorem iw_370 : (Jvm.Cond.fieldLink "java/lang/Throwable" (20 : Nat) "java/lang/Throwable" "SUPPRESSED_SENTINEL" "Ljava/util/List;") ∈ gT := mem_gT 386 (by decide +kernel) (by decide +kernel)
theorem iw_372 : (Jvm.Cond.methodLink "java/lang/Throwable" (27 : Nat) ({ cls := "java/lang/Throwable", name := "fillInStackTrace", desc := "()Ljava/lang/Throwable;" } : Jvm.MethodName)) ∈ gT := mem_gT 388 (by decide +kernel) (by decide +kernel)
theorem iw_373 : (Jvm.Cond.instanceMethod ({ cls := "java/lang/Throwable", name := "fillInStackTrace", desc := "()Ljava/lang/Throwable;" } : Jvm.MethodName)) ∈ gT := mem_gT 389 (by decide +kernel) (by decide +kernel)
theorem iw_376 : (Jvm.Cond.methodLink "java/lang/Throwable" (202 : Nat) ({ cls := "java/lang/Throwable", name := "fillInStackTrace", desc := "(I)Ljava/lang/Throwable;" } : Jvm.MethodName)) ∈ gT := mem_gT 392 (by decide +kernel) (by decide +kernel)
theorem iw_378 : (Jvm.Cond.instanceMethod ({ cls := "java/lang/Throwable", name := "fillInStackTrace", desc := "(I)Ljava/lang/Throwable;" } : Jvm.MethodName)) ∈ gT := mem_gT 394 (by decide +kernel) (by decide +kernel)
theorem iw_379 : (Jvm.Cond.instantiable "java/lang/Throwable" (6 : Nat)) ∈ gT := mem_gT 395 (by decide +kernel) (by decide +kernel)
theorem iw_382 : (Jvm.Cond.methodLink "SeatProofs" (143 : Nat) ({ cls := "java/lang/IndexOutOfBoundsException", name := "<init>", desc := "(Ljava/lang/String;)V" } : Jvm.MethodName)) ∈ gT := mem_gT 398 (by decide +kernel) (by decide +kernel)
theorem iw_383 : (Jvm.Cond.instanceMethod ({ cls := "java/lang/IndexOutOfBoundsException", name := "<init>", desc := "(Ljava/lang/String;)V" } : Jvm.MethodName)) ∈ gT := mem_gT 399 (by decide +kernel) (by decide +kernel)
theorem iw_384 : (Jvm.Cond.code ({ cls := "java/lang/IndexOutOfBoundsException", name := "<init>", desc := "(Ljava/lang/String;)V" } : Jvm.MethodName) prog_8_method_2_code (2 : Nat) (Option.none : Option Jvm.ClassFile.FieldType)) ∈ gT := mem_gT 400 (by decide +kernel) (by decide +kernel)
theorem iw_385 : (Jvm.Cond.methodLink "java/lang/IndexOutOfBoundsException" (7 : Nat) ({ cls := "java/lang/RuntimeException", name := "<init>", desc := "(Ljava/lang/String;)V" } : Jvm.MethodName)) ∈ gT := mem_gT 401 (by decide +kernel) (by decide +kernel)
theorem iw_386 : (Jvm.Cond.instanceMethod ({ cls := "java/lang/RuntimeException", name := "<init>", desc := "(Ljava/lang/String;)V" } : Jvm.MethodName)) ∈ gT := mem_gT 402 (by decide +kernel) (by decide +kernel)
theorem iw_387 : (Jvm.Cond.code ({ cls := "java/lang/RuntimeException", name := "<init>", desc := "(Ljava/lang/String;)V" } : Jvm.MethodName) prog_10_method_2_code (2 : Nat) (Option.none : Option Jvm.ClassFile.FieldType)) ∈ gT := mem_gT 403 (by decide +kernel) (by decide +kernel)
theorem iw_388 : (Jvm.Cond.methodLink "java/lang/RuntimeException" (7 : Nat) ({ cls := "java/lang/Exception", name := "<init>", desc := "(Ljava/lang/String;)V" } : Jvm.MethodName)) ∈ gT := mem_gT 404 (by decide +kernel) (by decide +kernel)
theorem iw_389 : (Jvm.Cond.instanceMethod ({ cls := "java/lang/Exception", name := "<init>", desc := "(Ljava/lang/String;)V" } : Jvm.MethodName)) ∈ gT := mem_gT 405 (by decide +kernel) (by decide +kernel)
theorem iw_390 : (Jvm.Cond.code ({ cls := "java/lang/Exception", name := "<init>", desc := "(Ljava/lang/String;)V" } : Jvm.MethodName) prog_7_method_2_code (2 : Nat) (Option.none : Option Jvm.ClassFile.FieldType)) ∈ gT := mem_gT 406 (by decide +kernel) (by decide +kernel)
theorem iw_391 : (Jvm.Cond.methodLink "java/lang/Exception" (7 : Nat) ({ cls := "java/lang/Throwable", name := "<init>", desc := "(Ljava/lang/String;)V" } : Jvm.MethodName)) ∈ gT := mem_gT 407 (by decide +kernel) (by decide +kernel)
theorem iw_392 : (Jvm.Cond.instanceMethod ({ cls := "java/lang/Throwable", name := "<init>", desc := "(Ljava/lang/String;)V" } : Jvm.MethodName)) ∈ gT := mem_gT 408 (by decide +kernel) (by decide +kernel)
theorem iw_393 : (Jvm.Cond.code ({ cls := "java/lang/Throwable", name := "<init>", desc := "(Ljava/lang/String;)V" } : Jvm.MethodName) prog_13_method_2_code (2 : Nat) (Option.none : Option Jvm.ClassFile.FieldType)) ∈ gT := mem_gT 409 (by decide +kernel) (by decide +kernel)
theorem iw_394 : (Jvm.Cond.fieldLink "java/lang/Throwable" (198 : Nat) "java/lang/Throwable" "backtrace" "Ljava/lang/Object;") ∈ gT := mem_gT 410 (by decide +kernel) (by decide +kernel)
theorem iw_395 : (Jvm.Cond.fieldLink "java/lang/Throwable" (31 : Nat) "java/lang/Throwable" "detailMessage" "Ljava/lang/String;") ∈ gT := mem_gT 411 (by decide +kernel) (by decide +kernel)
theorem iw_396 : (Jvm.Cond.fieldLink "java/lang/Throwable" (7 : Nat) "java/lang/Throwable" "cause" "Ljava/lang/Throwable;") ∈ gT := mem_gT 412 (by decide +kernel) (by decide +kernel)
theorem iw_397 : (Jvm.Cond.fieldLink "java/lang/Throwable" (17 : Nat) "java/lang/Throwable" "stackTrace" "[Ljava/lang/StackTraceElement;") ∈ gT := mem_gT 413 (by decide +kernel) (by decide +kernel)
theorem iw_398 : (Jvm.Cond.fieldLink "java/lang/Throwable" (24 : Nat) "java/lang/Throwable" "suppressedExceptions" "Ljava/util/List;") ∈ gT := mem_gT 414 (by decide +kernel) (by decide +kernel)
theorem iw_403 : (Jvm.Cond.lays "java/lang/IndexOutOfBoundsException" "java/lang/Throwable" "depth" "I") ∈ gT := mem_gT 419 (by decide +kernel) (by decide +kernel)
theorem iw_407 : (Jvm.Cond.arrayClass Jvm.ClassFile.FieldType.byte) ∈ gT := mem_gT 423 (by decide +kernel) (by decide +kernel)
theorem iw_408 : (Jvm.Cond.methodLink "SeatProofs" (146 : Nat) ({ cls := "SeatProofs$Plant", name := "turn", desc := "(IZ)V" } : Jvm.MethodName)) ∈ gT := mem_gT 424 (by decide +kernel) (by decide +kernel)
theorem iw_409 : (Jvm.Cond.methodLink "SeatProofs" (150 : Nat) ({ cls := "SeatProofs", name := "remakeTouched", desc := "(I)I" } : Jvm.MethodName)) ∈ gT := mem_gT 425 (by decide +kernel) (by decide +kernel)
theorem iw_411 : (Jvm.Cond.instanceMethod ({ cls := "SeatProofs", name := "remakeTouched", desc := "(I)I" } : Jvm.MethodName)) ∈ gT := mem_gT 427 (by decide +kernel) (by decide +kernel)
theorem iw_412 : (Jvm.Cond.code ({ cls := "SeatProofs", name := "remakeTouched", desc := "(I)I" } : Jvm.MethodName) prog_1_method_19_code (5 : Nat) (Option.some Jvm.ClassFile.FieldType.int)) ∈ gT := mem_gT 428 (by decide +kernel) (by decide +kernel)
theorem iw_413 : (Jvm.Cond.methodLink "SeatProofs" (191 : Nat) ({ cls := "SeatProofs", name := "isTouched", desc := "(II)Z" } : Jvm.MethodName)) ∈ gT := mem_gT 429 (by decide +kernel) (by decide +kernel)
theorem iw_415 : (Jvm.Cond.instanceMethod ({ cls := "SeatProofs", name := "isTouched", desc := "(II)Z" } : Jvm.MethodName)) ∈ gT := mem_gT 431 (by decide +kernel) (by decide +kernel)
theorem iw_416 : (Jvm.Cond.code ({ cls := "SeatProofs", name := "isTouched", desc := "(II)Z" } : Jvm.MethodName) prog_1_method_20_code (3 : Nat) (Option.some Jvm.ClassFile.FieldType.boolean)) ∈ gT := mem_gT 432 (by decide +kernel) (by decide +kernel)
theorem iw_417 : (Jvm.Cond.methodLink "SeatProofs" (161 : Nat) ({ cls := "SeatProofs", name := "has", desc := "(JI)Z" } : Jvm.MethodName)) ∈ gT := mem_gT 433 (by decide +kernel) (by decide +kernel)
theorem iw_418 : (Jvm.Cond.methodLink "SeatProofs" (194 : Nat) ({ cls := "SeatProofs$Flow", name := "floodOf", desc := "(I)J" } : Jvm.MethodName)) ∈ gT := mem_gT 434 (by decide +kernel) (by decide +kernel)
theorem iw_419 : (Jvm.Cond.methodLink "SeatProofs" (153 : Nat) ({ cls := "SeatProofs", name := "rowsClash", desc := "()Z" } : Jvm.MethodName)) ∈ gT := mem_gT 435 (by decide +kernel) (by decide +kernel)
theorem iw_421 : (Jvm.Cond.instanceMethod ({ cls := "SeatProofs", name := "rowsClash", desc := "()Z" } : Jvm.MethodName)) ∈ gT := mem_gT 437 (by decide +kernel) (by decide +kernel)
theorem iw_422 : (Jvm.Cond.code ({ cls := "SeatProofs", name := "rowsClash", desc := "()Z" } : Jvm.MethodName) prog_1_method_21_code (3 : Nat) (Option.some Jvm.ClassFile.FieldType.boolean)) ∈ gT := mem_gT 438 (by decide +kernel) (by decide +kernel)
theorem iw_423 : (Jvm.Cond.methodLink "SeatProofsLaw" (75 : Nat) ({ cls := "SeatProofsLaw", name := "unsure", desc := "(LSeatProofs;IZ[J)I" } : Jvm.MethodName)) ∈ gT := mem_gT 439 (by decide +kernel) (by decide +kernel)
theorem iw_424 : (Jvm.Cond.static ({ cls := "SeatProofsLaw", name := "unsure", desc := "(LSeatProofs;IZ[J)I" } : Jvm.MethodName)) ∈ gT := mem_gT 440 (by decide +kernel) (by decide +kernel)
theorem iw_426 : (Jvm.Cond.methodLink "SeatProofsLaw" (15 : Nat) ({ cls := "SeatProofs", name := "unsure", desc := "(IZ)Z" } : Jvm.MethodName)) ∈ gT := mem_gT 442 (by decide +kernel) (by decide +kernel)
theorem iw_427 : (Jvm.Cond.instanceMethod ({ cls := "SeatProofs", name := "unsure", desc := "(IZ)Z" } : Jvm.MethodName)) ∈ gT := mem_gT 443 (by decide +kernel) (by decide +kernel)
theorem iw_428 : (Jvm.Cond.selects "SeatProofs" ({ cls := "SeatProofs", name := "unsure", desc := "(IZ)Z" } : Jvm.MethodName) ({ cls := "SeatProofs", name := "unsure", desc := "(IZ)Z" } : Jvm.MethodName)) ∈ gT := mem_gT 444 (by decide +kernel) (by decide +kernel)
theorem iw_429 : (Jvm.Cond.code ({ cls := "SeatProofs", name := "unsure", desc := "(IZ)Z" } : Jvm.MethodName) prog_1_method_12_code (3 : Nat) (Option.some Jvm.ClassFile.FieldType.boolean)) ∈ gT := mem_gT 445 (by decide +kernel) (by decide +kernel)
theorem iw_430 : (Jvm.Cond.methodLink "SeatProofs" (165 : Nat) ({ cls := "SeatProofs$Plant", name := "doubt", desc := "(IZ)V" } : Jvm.MethodName)) ∈ gT := mem_gT 446 (by decide +kernel) (by decide +kernel)
theorem iw_431 : (Jvm.Cond.instanceMethod ({ cls := "SeatProofs$Plant", name := "doubt", desc := "(IZ)V" } : Jvm.MethodName)) ∈ gT := mem_gT 447 (by decide +kernel) (by decide +kernel)
theorem iw_432 : (Jvm.Cond.selects "SeatProofs$Plant" ({ cls := "SeatProofs$Plant", name := "doubt", desc := "(IZ)V" } : Jvm.MethodName) ({ cls := "SeatProofs$Plant", name := "doubt", desc := "(IZ)V" } : Jvm.MethodName)) ∈ gT := mem_gT 448 (by decide +kernel) (by decide +kernel)
theorem iw_433 : (Jvm.Cond.code ({ cls := "SeatProofs$Plant", name := "doubt", desc := "(IZ)V" } : Jvm.MethodName) prog_3_method_10_code (3 : Nat) (Option.none : Option Jvm.ClassFile.FieldType)) ∈ gT := mem_gT 449 (by decide +kernel) (by decide +kernel)
theorem iw_434 : (Jvm.Cond.classLink "SeatProofsLaw" (19 : Nat) "SeatProofsModel") ∈ gT := mem_gT 450 (by decide +kernel) (by decide +kernel)
theorem iw_435 : (Jvm.Cond.instantiable "SeatProofsModel" (20 : Nat)) ∈ gT := mem_gT 451 (by decide +kernel) (by decide +kernel)
theorem iw_436 : (Jvm.Cond.methodLink "SeatProofsLaw" (21 : Nat) ({ cls := "SeatProofsModel", name := "<init>", desc := "()V" } : Jvm.MethodName)) ∈ gT := mem_gT 452 (by decide +kernel) (by decide +kernel)
theorem iw_437 : (Jvm.Cond.instanceMethod ({ cls := "SeatProofsModel", name := "<init>", desc := "()V" } : Jvm.MethodName)) ∈ gT := mem_gT 453 (by decide +kernel) (by decide +kernel)
theorem iw_438 : (Jvm.Cond.code ({ cls := "SeatProofsModel", name := "<init>", desc := "()V" } : Jvm.MethodName) prog_6_method_1_code (1 : Nat) (Option.none : Option Jvm.ClassFile.FieldType)) ∈ gT := mem_gT 454 (by decide +kernel) (by decide +kernel)
theorem iw_439 : (Jvm.Cond.methodLink "SeatProofsModel" (1 : Nat) ({ cls := "java/lang/Object", name := "<init>", desc := "()V" } : Jvm.MethodName)) ∈ gT := mem_gT 455 (by decide +kernel) (by decide +kernel)
theorem iw_440 : (Jvm.Cond.fieldLink "SeatProofsModel" (9 : Nat) "SeatProofsModel" "liquids" "[I") ∈ gT := mem_gT 456 (by decide +kernel) (by decide +kernel)
theorem iw_441 : (Jvm.Cond.fieldLink "SeatProofsModel" (13 : Nat) "SeatProofsModel" "levels" "[J") ∈ gT := mem_gT 457 (by decide +kernel) (by decide +kernel)
theorem iw_442 : (Jvm.Cond.fieldLink "SeatProofsModel" (58 : Nat) "SeatProofsModel" "spaces" "I") ∈ gT := mem_gT 458 (by decide +kernel) (by decide +kernel)
theorem iw_443 : (Jvm.Cond.fieldLink "SeatProofsModel" (17 : Nat) "SeatProofsModel" "firsts" "[I") ∈ gT := mem_gT 459 (by decide +kernel) (by decide +kernel)
theorem iw_444 : (Jvm.Cond.fieldLink "SeatProofsModel" (20 : Nat) "SeatProofsModel" "seconds" "[I") ∈ gT := mem_gT 460 (by decide +kernel) (by decide +kernel)
theorem iw_445 : (Jvm.Cond.fieldLink "SeatProofsModel" (23 : Nat) "SeatProofsModel" "seats" "[I") ∈ gT := mem_gT 461 (by decide +kernel) (by decide +kernel)
theorem iw_446 : (Jvm.Cond.fieldLink "SeatProofsModel" (26 : Nat) "SeatProofsModel" "opens" "[Z") ∈ gT := mem_gT 462 (by decide +kernel) (by decide +kernel)
theorem iw_447 : (Jvm.Cond.fieldLink "SeatProofsModel" (30 : Nat) "SeatProofsModel" "doubts" "[Z") ∈ gT := mem_gT 463 (by decide +kernel) (by decide +kernel)
theorem iw_448 : (Jvm.Cond.fieldLink "SeatProofsModel" (68 : Nat) "SeatProofsModel" "valves" "I") ∈ gT := mem_gT 464 (by decide +kernel) (by decide +kernel)
theorem iw_449 : (Jvm.Cond.fieldLink "SeatProofsModel" (33 : Nat) "SeatProofsModel" "mays" "[Z") ∈ gT := mem_gT 465 (by decide +kernel) (by decide +kernel)
theorem iw_450 : (Jvm.Cond.fieldLink "SeatProofsModel" (61 : Nat) "SeatProofsModel" "rows" "I") ∈ gT := mem_gT 466 (by decide +kernel) (by decide +kernel)
theorem iw_451 : (Jvm.Cond.fieldLink "SeatProofsModel" (36 : Nat) "SeatProofsModel" "failures" "[I") ∈ gT := mem_gT 467 (by decide +kernel) (by decide +kernel)
theorem iw_452 : (Jvm.Cond.fieldLink "SeatProofsModel" (39 : Nat) "SeatProofsModel" "of" "[I") ∈ gT := mem_gT 468 (by decide +kernel) (by decide +kernel)
theorem iw_453 : (Jvm.Cond.fieldLink "SeatProofsModel" (42 : Nat) "SeatProofsModel" "floods" "[J") ∈ gT := mem_gT 469 (by decide +kernel) (by decide +kernel)
theorem iw_454 : (Jvm.Cond.fieldLink "SeatProofsModel" (45 : Nat) "SeatProofsModel" "cuts" "[J") ∈ gT := mem_gT 470 (by decide +kernel) (by decide +kernel)
theorem iw_455 : (Jvm.Cond.fieldLink "SeatProofsModel" (48 : Nat) "SeatProofsModel" "culprit" "[I") ∈ gT := mem_gT 471 (by decide +kernel) (by decide +kernel)
theorem iw_456 : (Jvm.Cond.fieldLink "SeatProofsModel" (79 : Nat) "SeatProofsModel" "guilty" "Z") ∈ gT := mem_gT 472 (by decide +kernel) (by decide +kernel)
theorem iw_457 : (Jvm.Cond.fieldLink "SeatProofsModel" (104 : Nat) "SeatProofsModel" "tested" "I") ∈ gT := mem_gT 473 (by decide +kernel) (by decide +kernel)
theorem iw_458 : (Jvm.Cond.fieldLink "SeatProofsModel" (54 : Nat) "SeatProofsModel" "thrown" "I") ∈ gT := mem_gT 474 (by decide +kernel) (by decide +kernel)
theorem iw_459 : (Jvm.Cond.fieldLink "SeatProofsModel" (51 : Nat) "SeatProofsModel" "wet" "[Z") ∈ gT := mem_gT 475 (by decide +kernel) (by decide +kernel)
theorem iw_460 : (Jvm.Cond.laysFinal "SeatProofsModel" "SeatProofsModel" "liquids" "[I") ∈ gT := mem_gT 476 (by decide +kernel) (by decide +kernel)
theorem iw_462 : (Jvm.Cond.laysFinal "SeatProofsModel" "SeatProofsModel" "levels" "[J") ∈ gT := mem_gT 478 (by decide +kernel) (by decide +kernel)
theorem iw_464 : (Jvm.Cond.lays "SeatProofsModel" "SeatProofsModel" "spaces" "I") ∈ gT := mem_gT 480 (by decide +kernel) (by decide +kernel)
theorem iw_466 : (Jvm.Cond.laysFinal "SeatProofsModel" "SeatProofsModel" "firsts" "[I") ∈ gT := mem_gT 482 (by decide +kernel) (by decide +kernel)
theorem iw_468 : (Jvm.Cond.laysFinal "SeatProofsModel" "SeatProofsModel" "seconds" "[I") ∈ gT := mem_gT 484 (by decide +kernel) (by decide +kernel)
theorem iw_470 : (Jvm.Cond.laysFinal "SeatProofsModel" "SeatProofsModel" "seats" "[I") ∈ gT := mem_gT 486 (by decide +kernel) (by decide +kernel)
theorem iw_472 : (Jvm.Cond.laysFinal "SeatProofsModel" "SeatProofsModel" "opens" "[Z") ∈ gT := mem_gT 488 (by decide +kernel) (by decide +kernel)
theorem iw_474 : (Jvm.Cond.laysFinal "SeatProofsModel" "SeatProofsModel" "doubts" "[Z") ∈ gT := mem_gT 490 (by decide +kernel) (by decide +kernel)
theorem iw_476 : (Jvm.Cond.lays "SeatProofsModel" "SeatProofsModel" "valves" "I") ∈ gT := mem_gT 492 (by decide +kernel) (by decide +kernel)
theorem iw_478 : (Jvm.Cond.laysFinal "SeatProofsModel" "SeatProofsModel" "mays" "[Z") ∈ gT := mem_gT 494 (by decide +kernel) (by decide +kernel)
theorem iw_480 : (Jvm.Cond.lays "SeatProofsModel" "SeatProofsModel" "rows" "I") ∈ gT := mem_gT 496 (by decide +kernel) (by decide +kernel)
theorem iw_482 : (Jvm.Cond.laysFinal "SeatProofsModel" "SeatProofsModel" "failures" "[I") ∈ gT := mem_gT 498 (by decide +kernel) (by decide +kernel)
theorem iw_484 : (Jvm.Cond.laysFinal "SeatProofsModel" "SeatProofsModel" "of" "[I") ∈ gT := mem_gT 500 (by decide +kernel) (by decide +kernel)
theorem iw_486 : (Jvm.Cond.laysFinal "SeatProofsModel" "SeatProofsModel" "floods" "[J") ∈ gT := mem_gT 502 (by decide +kernel) (by decide +kernel)
theorem iw_488 : (Jvm.Cond.laysFinal "SeatProofsModel" "SeatProofsModel" "cuts" "[J") ∈ gT := mem_gT 504 (by decide +kernel) (by decide +kernel)
theorem iw_490 : (Jvm.Cond.laysFinal "SeatProofsModel" "SeatProofsModel" "culprit" "[I") ∈ gT := mem_gT 506 (by decide +kernel) (by decide +kernel)
theorem iw_492 : (Jvm.Cond.lays "SeatProofsModel" "SeatProofsModel" "guilty" "Z") ∈ gT := mem_gT 508 (by decide +kernel) (by decide +kernel)
theorem iw_494 : (Jvm.Cond.lays "SeatProofsModel" "SeatProofsModel" "tested" "I") ∈ gT := mem_gT 510 (by decide +kernel) (by decide +kernel)
theorem iw_496 : (Jvm.Cond.lays "SeatProofsModel" "SeatProofsModel" "thrown" "I") ∈ gT := mem_gT 512 (by decide +kernel) (by decide +kernel)
theorem iw_498 : (Jvm.Cond.laysFinal "SeatProofsModel" "SeatProofsModel" "wet" "[Z") ∈ gT := mem_gT 514 (by decide +kernel) (by decide +kernel)
theorem iw_501 : (Jvm.Cond.arrayClass Jvm.ClassFile.FieldType.boolean) ∈ gT := mem_gT 517 (by decide +kernel) (by decide +kernel)
theorem iw_502 : (Jvm.Cond.methodLink "SeatProofsLaw" (72 : Nat) ({ cls := "SeatProofsModel", name := "thrown", desc := "()I" } : Jvm.MethodName)) ∈ gT := mem_gT 518 (by decide +kernel) (by decide +kernel)
theorem iw_503 : (Jvm.Cond.instanceMethod ({ cls := "SeatProofsModel", name := "thrown", desc := "()I" } : Jvm.MethodName)) ∈ gT := mem_gT 519 (by decide +kernel) (by decide +kernel)
theorem iw_504 : (Jvm.Cond.selects "SeatProofsModel" ({ cls := "SeatProofsModel", name := "thrown", desc := "()I" } : Jvm.MethodName) ({ cls := "SeatProofsModel", name := "thrown", desc := "()I" } : Jvm.MethodName)) ∈ gT := mem_gT 520 (by decide +kernel) (by decide +kernel)
theorem iw_505 : (Jvm.Cond.code ({ cls := "SeatProofsModel", name := "thrown", desc := "()I" } : Jvm.MethodName) prog_6_method_2_code (1 : Nat) (Option.some Jvm.ClassFile.FieldType.int)) ∈ gT := mem_gT 521 (by decide +kernel) (by decide +kernel)
theorem iw_506 : (Jvm.Cond.methodLink "SeatProofsLaw" (26 : Nat) ({ cls := "SeatProofsModel", name := "space", desc := "(I)I" } : Jvm.MethodName)) ∈ gT := mem_gT 522 (by decide +kernel) (by decide +kernel)
theorem iw_507 : (Jvm.Cond.instanceMethod ({ cls := "SeatProofsModel", name := "space", desc := "(I)I" } : Jvm.MethodName)) ∈ gT := mem_gT 523 (by decide +kernel) (by decide +kernel)
theorem iw_508 : (Jvm.Cond.selects "SeatProofsModel" ({ cls := "SeatProofsModel", name := "space", desc := "(I)I" } : Jvm.MethodName) ({ cls := "SeatProofsModel", name := "space", desc := "(I)I" } : Jvm.MethodName)) ∈ gT := mem_gT 524 (by decide +kernel) (by decide +kernel)
theorem iw_509 : (Jvm.Cond.code ({ cls := "SeatProofsModel", name := "space", desc := "(I)I" } : Jvm.MethodName) prog_6_method_3_code (2 : Nat) (Option.some Jvm.ClassFile.FieldType.int)) ∈ gT := mem_gT 525 (by decide +kernel) (by decide +kernel)
theorem iw_510 : (Jvm.Cond.methodLink "SeatProofsLaw" (31 : Nat) ({ cls := "SeatProofsModel", name := "valve", desc := "(IIIZ)I" } : Jvm.MethodName)) ∈ gT := mem_gT 526 (by decide +kernel) (by decide +kernel)
theorem iw_511 : (Jvm.Cond.instanceMethod ({ cls := "SeatProofsModel", name := "valve", desc := "(IIIZ)I" } : Jvm.MethodName)) ∈ gT := mem_gT 527 (by decide +kernel) (by decide +kernel)
theorem iw_512 : (Jvm.Cond.selects "SeatProofsModel" ({ cls := "SeatProofsModel", name := "valve", desc := "(IIIZ)I" } : Jvm.MethodName) ({ cls := "SeatProofsModel", name := "valve", desc := "(IIIZ)I" } : Jvm.MethodName)) ∈ gT := mem_gT 528 (by decide +kernel) (by decide +kernel)
theorem iw_513 : (Jvm.Cond.code ({ cls := "SeatProofsModel", name := "valve", desc := "(IIIZ)I" } : Jvm.MethodName) prog_6_method_5_code (5 : Nat) (Option.some Jvm.ClassFile.FieldType.int)) ∈ gT := mem_gT 529 (by decide +kernel) (by decide +kernel)
theorem iw_514 : (Jvm.Cond.methodLink "SeatProofsModel" (64 : Nat) ({ cls := "SeatProofsModel", name := "isSpace", desc := "(I)Z" } : Jvm.MethodName)) ∈ gT := mem_gT 530 (by decide +kernel) (by decide +kernel)
theorem iw_516 : (Jvm.Cond.instanceMethod ({ cls := "SeatProofsModel", name := "isSpace", desc := "(I)Z" } : Jvm.MethodName)) ∈ gT := mem_gT 532 (by decide +kernel) (by decide +kernel)
theorem iw_517 : (Jvm.Cond.code ({ cls := "SeatProofsModel", name := "isSpace", desc := "(I)Z" } : Jvm.MethodName) prog_6_method_4_code (2 : Nat) (Option.some Jvm.ClassFile.FieldType.boolean)) ∈ gT := mem_gT 533 (by decide +kernel) (by decide +kernel)
theorem iw_518 : (Jvm.Cond.methodLink "SeatProofsLaw" (38 : Nat) ({ cls := "SeatProofsModel", name := "level", desc := "(IJ)Z" } : Jvm.MethodName)) ∈ gT := mem_gT 534 (by decide +kernel) (by decide +kernel)
theorem iw_519 : (Jvm.Cond.instanceMethod ({ cls := "SeatProofsModel", name := "level", desc := "(IJ)Z" } : Jvm.MethodName)) ∈ gT := mem_gT 535 (by decide +kernel) (by decide +kernel)
theorem iw_520 : (Jvm.Cond.selects "SeatProofsModel" ({ cls := "SeatProofsModel", name := "level", desc := "(IJ)Z" } : Jvm.MethodName) ({ cls := "SeatProofsModel", name := "level", desc := "(IJ)Z" } : Jvm.MethodName)) ∈ gT := mem_gT 536 (by decide +kernel) (by decide +kernel)
theorem iw_521 : (Jvm.Cond.code ({ cls := "SeatProofsModel", name := "level", desc := "(IJ)Z" } : Jvm.MethodName) prog_6_method_6_code (4 : Nat) (Option.some Jvm.ClassFile.FieldType.boolean)) ∈ gT := mem_gT 537 (by decide +kernel) (by decide +kernel)
theorem iw_522 : (Jvm.Cond.methodLink "SeatProofsLaw" (43 : Nat) ({ cls := "SeatProofsModel", name := "may", desc := "(II)Z" } : Jvm.MethodName)) ∈ gT := mem_gT 538 (by decide +kernel) (by decide +kernel)
theorem iw_523 : (Jvm.Cond.instanceMethod ({ cls := "SeatProofsModel", name := "may", desc := "(II)Z" } : Jvm.MethodName)) ∈ gT := mem_gT 539 (by decide +kernel) (by decide +kernel)
theorem iw_524 : (Jvm.Cond.selects "SeatProofsModel" ({ cls := "SeatProofsModel", name := "may", desc := "(II)Z" } : Jvm.MethodName) ({ cls := "SeatProofsModel", name := "may", desc := "(II)Z" } : Jvm.MethodName)) ∈ gT := mem_gT 540 (by decide +kernel) (by decide +kernel)
theorem iw_525 : (Jvm.Cond.code ({ cls := "SeatProofsModel", name := "may", desc := "(II)Z" } : Jvm.MethodName) prog_6_method_7_code (4 : Nat) (Option.some Jvm.ClassFile.FieldType.boolean)) ∈ gT := mem_gT 541 (by decide +kernel) (by decide +kernel)
theorem iw_526 : (Jvm.Cond.methodLink "SeatProofsLaw" (48 : Nat) ({ cls := "SeatProofsModel", name := "safe", desc := "()I" } : Jvm.MethodName)) ∈ gT := mem_gT 542 (by decide +kernel) (by decide +kernel)
theorem iw_527 : (Jvm.Cond.instanceMethod ({ cls := "SeatProofsModel", name := "safe", desc := "()I" } : Jvm.MethodName)) ∈ gT := mem_gT 543 (by decide +kernel) (by decide +kernel)
theorem iw_528 : (Jvm.Cond.selects "SeatProofsModel" ({ cls := "SeatProofsModel", name := "safe", desc := "()I" } : Jvm.MethodName) ({ cls := "SeatProofsModel", name := "safe", desc := "()I" } : Jvm.MethodName)) ∈ gT := mem_gT 544 (by decide +kernel) (by decide +kernel)
theorem iw_529 : (Jvm.Cond.code ({ cls := "SeatProofsModel", name := "safe", desc := "()I" } : Jvm.MethodName) prog_6_method_14_code (4 : Nat) (Option.some Jvm.ClassFile.FieldType.int)) ∈ gT := mem_gT 545 (by decide +kernel) (by decide +kernel)
theorem iw_530 : (Jvm.Cond.methodLink "SeatProofsModel" (83 : Nat) ({ cls := "SeatProofsModel", name := "isThere", desc := "(I)Z" } : Jvm.MethodName)) ∈ gT := mem_gT 546 (by decide +kernel) (by decide +kernel)
theorem iw_532 : (Jvm.Cond.instanceMethod ({ cls := "SeatProofsModel", name := "isThere", desc := "(I)Z" } : Jvm.MethodName)) ∈ gT := mem_gT 548 (by decide +kernel) (by decide +kernel)
theorem iw_533 : (Jvm.Cond.code ({ cls := "SeatProofsModel", name := "isThere", desc := "(I)Z" } : Jvm.MethodName) prog_6_method_12_code (4 : Nat) (Option.some Jvm.ClassFile.FieldType.boolean)) ∈ gT := mem_gT 549 (by decide +kernel) (by decide +kernel)
theorem iw_534 : (Jvm.Cond.methodLink "SeatProofsModel" (86 : Nat) ({ cls := "SeatProofsModel", name := "flood", desc := "(II)J" } : Jvm.MethodName)) ∈ gT := mem_gT 550 (by decide +kernel) (by decide +kernel)
theorem iw_536 : (Jvm.Cond.instanceMethod ({ cls := "SeatProofsModel", name := "flood", desc := "(II)J" } : Jvm.MethodName)) ∈ gT := mem_gT 552 (by decide +kernel) (by decide +kernel)
theorem iw_537 : (Jvm.Cond.code ({ cls := "SeatProofsModel", name := "flood", desc := "(II)J" } : Jvm.MethodName) prog_6_method_9_code (9 : Nat) (Option.some Jvm.ClassFile.FieldType.long)) ∈ gT := mem_gT 553 (by decide +kernel) (by decide +kernel)
theorem iw_538 : (Jvm.Cond.methodLink "SeatProofsModel" (71 : Nat) ({ cls := "SeatProofsModel", name := "lets", desc := "(II)Z" } : Jvm.MethodName)) ∈ gT := mem_gT 554 (by decide +kernel) (by decide +kernel)
theorem iw_540 : (Jvm.Cond.instanceMethod ({ cls := "SeatProofsModel", name := "lets", desc := "(II)Z" } : Jvm.MethodName)) ∈ gT := mem_gT 556 (by decide +kernel) (by decide +kernel)
theorem iw_541 : (Jvm.Cond.code ({ cls := "SeatProofsModel", name := "lets", desc := "(II)Z" } : Jvm.MethodName) prog_6_method_8_code (4 : Nat) (Option.some Jvm.ClassFile.FieldType.boolean)) ∈ gT := mem_gT 557 (by decide +kernel) (by decide +kernel)
theorem iw_542 : (Jvm.Cond.methodLink "SeatProofsModel" (90 : Nat) ({ cls := "SeatProofsModel", name := "cut", desc := "(JI)J" } : Jvm.MethodName)) ∈ gT := mem_gT 558 (by decide +kernel) (by decide +kernel)
theorem iw_544 : (Jvm.Cond.instanceMethod ({ cls := "SeatProofsModel", name := "cut", desc := "(JI)J" } : Jvm.MethodName)) ∈ gT := mem_gT 560 (by decide +kernel) (by decide +kernel)
theorem iw_545 : (Jvm.Cond.code ({ cls := "SeatProofsModel", name := "cut", desc := "(JI)J" } : Jvm.MethodName) prog_6_method_11_code (11 : Nat) (Option.some Jvm.ClassFile.FieldType.long)) ∈ gT := mem_gT 561 (by decide +kernel) (by decide +kernel)
theorem iw_546 : (Jvm.Cond.methodLink "SeatProofsModel" (75 : Nat) ({ cls := "SeatProofsModel", name := "has", desc := "(JI)Z" } : Jvm.MethodName)) ∈ gT := mem_gT 562 (by decide +kernel) (by decide +kernel)
theorem iw_547 : (Jvm.Cond.static ({ cls := "SeatProofsModel", name := "has", desc := "(JI)Z" } : Jvm.MethodName)) ∈ gT := mem_gT 563 (by decide +kernel) (by decide +kernel)
theorem iw_548 : (Jvm.Cond.code ({ cls := "SeatProofsModel", name := "has", desc := "(JI)Z" } : Jvm.MethodName) prog_6_method_10_code (3 : Nat) (Option.some Jvm.ClassFile.FieldType.boolean)) ∈ gT := mem_gT 564 (by decide +kernel) (by decide +kernel)
theorem iw_549 : (Jvm.Cond.methodLink "SeatProofsModel" (94 : Nat) ({ cls := "SeatProofsModel", name := "meet", desc := "(II)Z" } : Jvm.MethodName)) ∈ gT := mem_gT 565 (by decide +kernel) (by decide +kernel)
theorem iw_551 : (Jvm.Cond.instanceMethod ({ cls := "SeatProofsModel", name := "meet", desc := "(II)Z" } : Jvm.MethodName)) ∈ gT := mem_gT 567 (by decide +kernel) (by decide +kernel)
theorem iw_552 : (Jvm.Cond.code ({ cls := "SeatProofsModel", name := "meet", desc := "(II)Z" } : Jvm.MethodName) prog_6_method_13_code (6 : Nat) (Option.some Jvm.ClassFile.FieldType.boolean)) ∈ gT := mem_gT 568 (by decide +kernel) (by decide +kernel)
theorem iw_553 : (Jvm.Cond.methodLink "SeatProofsLaw" (52 : Nat) ({ cls := "SeatProofsModel", name := "culprit", desc := "(I)I" } : Jvm.MethodName)) ∈ gT := mem_gT 569 (by decide +kernel) (by decide +kernel)
theorem iw_554 : (Jvm.Cond.instanceMethod ({ cls := "SeatProofsModel", name := "culprit", desc := "(I)I" } : Jvm.MethodName)) ∈ gT := mem_gT 570 (by decide +kernel) (by decide +kernel)
theorem iw_555 : (Jvm.Cond.selects "SeatProofsModel" ({ cls := "SeatProofsModel", name := "culprit", desc := "(I)I" } : Jvm.MethodName) ({ cls := "SeatProofsModel", name := "culprit", desc := "(I)I" } : Jvm.MethodName)) ∈ gT := mem_gT 571 (by decide +kernel) (by decide +kernel)
theorem iw_556 : (Jvm.Cond.code ({ cls := "SeatProofsModel", name := "culprit", desc := "(I)I" } : Jvm.MethodName) prog_6_method_15_code (2 : Nat) (Option.some Jvm.ClassFile.FieldType.int)) ∈ gT := mem_gT 572 (by decide +kernel) (by decide +kernel)
theorem iw_557 : (Jvm.Cond.methodLink "SeatProofsLaw" (56 : Nat) ({ cls := "SeatProofsModel", name := "rows", desc := "()I" } : Jvm.MethodName)) ∈ gT := mem_gT 573 (by decide +kernel) (by decide +kernel)
theorem iw_558 : (Jvm.Cond.instanceMethod ({ cls := "SeatProofsModel", name := "rows", desc := "()I" } : Jvm.MethodName)) ∈ gT := mem_gT 574 (by decide +kernel) (by decide +kernel)
theorem iw_559 : (Jvm.Cond.selects "SeatProofsModel" ({ cls := "SeatProofsModel", name := "rows", desc := "()I" } : Jvm.MethodName) ({ cls := "SeatProofsModel", name := "rows", desc := "()I" } : Jvm.MethodName)) ∈ gT := mem_gT 575 (by decide +kernel) (by decide +kernel)
theorem iw_560 : (Jvm.Cond.code ({ cls := "SeatProofsModel", name := "rows", desc := "()I" } : Jvm.MethodName) prog_6_method_16_code (1 : Nat) (Option.some Jvm.ClassFile.FieldType.int)) ∈ gT := mem_gT 576 (by decide +kernel) (by decide +kernel)
theorem iw_561 : (Jvm.Cond.methodLink "SeatProofsLaw" (61 : Nat) ({ cls := "SeatProofsModel", name := "row", desc := "(II)I" } : Jvm.MethodName)) ∈ gT := mem_gT 577 (by decide +kernel) (by decide +kernel)
theorem iw_562 : (Jvm.Cond.instanceMethod ({ cls := "SeatProofsModel", name := "row", desc := "(II)I" } : Jvm.MethodName)) ∈ gT := mem_gT 578 (by decide +kernel) (by decide +kernel)
theorem iw_563 : (Jvm.Cond.selects "SeatProofsModel" ({ cls := "SeatProofsModel", name := "row", desc := "(II)I" } : Jvm.MethodName) ({ cls := "SeatProofsModel", name := "row", desc := "(II)I" } : Jvm.MethodName)) ∈ gT := mem_gT 579 (by decide +kernel) (by decide +kernel)
theorem iw_564 : (Jvm.Cond.code ({ cls := "SeatProofsModel", name := "row", desc := "(II)I" } : Jvm.MethodName) prog_6_method_18_code (5 : Nat) (Option.some Jvm.ClassFile.FieldType.int)) ∈ gT := mem_gT 580 (by decide +kernel) (by decide +kernel)
theorem iw_565 : (Jvm.Cond.methodLink "SeatProofsModel" (97 : Nat) ({ cls := "SeatProofsModel", name := "size", desc := "(J)I" } : Jvm.MethodName)) ∈ gT := mem_gT 581 (by decide +kernel) (by decide +kernel)
theorem iw_566 : (Jvm.Cond.static ({ cls := "SeatProofsModel", name := "size", desc := "(J)I" } : Jvm.MethodName)) ∈ gT := mem_gT 582 (by decide +kernel) (by decide +kernel)
theorem iw_567 : (Jvm.Cond.code ({ cls := "SeatProofsModel", name := "size", desc := "(J)I" } : Jvm.MethodName) prog_6_method_17_code (4 : Nat) (Option.some Jvm.ClassFile.FieldType.int)) ∈ gT := mem_gT 583 (by decide +kernel) (by decide +kernel)
theorem iw_568 : (Jvm.Cond.methodLink "SeatProofsLaw" (65 : Nat) ({ cls := "SeatProofsModel", name := "check", desc := "()I" } : Jvm.MethodName)) ∈ gT := mem_gT 584 (by decide +kernel) (by decide +kernel)
theorem iw_569 : (Jvm.Cond.instanceMethod ({ cls := "SeatProofsModel", name := "check", desc := "()I" } : Jvm.MethodName)) ∈ gT := mem_gT 585 (by decide +kernel) (by decide +kernel)
theorem iw_570 : (Jvm.Cond.selects "SeatProofsModel" ({ cls := "SeatProofsModel", name := "check", desc := "()I" } : Jvm.MethodName) ({ cls := "SeatProofsModel", name := "check", desc := "()I" } : Jvm.MethodName)) ∈ gT := mem_gT 586 (by decide +kernel) (by decide +kernel)
theorem iw_571 : (Jvm.Cond.code ({ cls := "SeatProofsModel", name := "check", desc := "()I" } : Jvm.MethodName) prog_6_method_20_code (5 : Nat) (Option.some Jvm.ClassFile.FieldType.int)) ∈ gT := mem_gT 587 (by decide +kernel) (by decide +kernel)
theorem iw_572 : (Jvm.Cond.methodLink "SeatProofsModel" (101 : Nat) ({ cls := "SeatProofsModel", name := "isRight", desc := "(I)Z" } : Jvm.MethodName)) ∈ gT := mem_gT 588 (by decide +kernel) (by decide +kernel)
theorem iw_574 : (Jvm.Cond.instanceMethod ({ cls := "SeatProofsModel", name := "isRight", desc := "(I)Z" } : Jvm.MethodName)) ∈ gT := mem_gT 590 (by decide +kernel) (by decide +kernel)
theorem iw_575 : (Jvm.Cond.code ({ cls := "SeatProofsModel", name := "isRight", desc := "(I)Z" } : Jvm.MethodName) prog_6_method_19_code (6 : Nat) (Option.some Jvm.ClassFile.FieldType.boolean)) ∈ gT := mem_gT 591 (by decide +kernel) (by decide +kernel)
theorem iw_576 : (Jvm.Cond.methodLink "SeatProofsLaw" (71 : Nat) ({ cls := "SeatProofsModel", name := "set", desc := "(IZ)Z" } : Jvm.MethodName)) ∈ gT := mem_gT 592 (by decide +kernel) (by decide +kernel)
theorem iw_577 : (Jvm.Cond.instanceMethod ({ cls := "SeatProofsModel", name := "set", desc := "(IZ)Z" } : Jvm.MethodName)) ∈ gT := mem_gT 593 (by decide +kernel) (by decide +kernel)
theorem iw_578 : (Jvm.Cond.selects "SeatProofsModel" ({ cls := "SeatProofsModel", name := "set", desc := "(IZ)Z" } : Jvm.MethodName) ({ cls := "SeatProofsModel", name := "set", desc := "(IZ)Z" } : Jvm.MethodName)) ∈ gT := mem_gT 594 (by decide +kernel) (by decide +kernel)
theorem iw_579 : (Jvm.Cond.code ({ cls := "SeatProofsModel", name := "set", desc := "(IZ)Z" } : Jvm.MethodName) prog_6_method_21_code (6 : Nat) (Option.some Jvm.ClassFile.FieldType.boolean)) ∈ gT := mem_gT 595 (by decide +kernel) (by decide +kernel)
theorem iw_580 : (Jvm.Cond.methodLink "SeatProofsLaw" (77 : Nat) ({ cls := "SeatProofsModel", name := "unsure", desc := "(IZ)Z" } : Jvm.MethodName)) ∈ gT := mem_gT 596 (by decide +kernel) (by decide +kernel)
theorem iw_581 : (Jvm.Cond.instanceMethod ({ cls := "SeatProofsModel", name := "unsure", desc := "(IZ)Z" } : Jvm.MethodName)) ∈ gT := mem_gT 597 (by decide +kernel) (by decide +kernel)
theorem iw_582 : (Jvm.Cond.selects "SeatProofsModel" ({ cls := "SeatProofsModel", name := "unsure", desc := "(IZ)Z" } : Jvm.MethodName) ({ cls := "SeatProofsModel", name := "unsure", desc := "(IZ)Z" } : Jvm.MethodName)) ∈ gT := mem_gT 598 (by decide +kernel) (by decide +kernel)
theorem iw_583 : (Jvm.Cond.code ({ cls := "SeatProofsModel", name := "unsure", desc := "(IZ)Z" } : Jvm.MethodName) prog_6_method_22_code (3 : Nat) (Option.some Jvm.ClassFile.FieldType.boolean)) ∈ gT := mem_gT 599 (by decide +kernel) (by decide +kernel)
theorem iw_584 : (Jvm.Cond.methodLink "SeatProofsLaw" (81 : Nat) ({ cls := "SeatProofsModel", name := "tested", desc := "()I" } : Jvm.MethodName)) ∈ gT := mem_gT 600 (by decide +kernel) (by decide +kernel)
theorem iw_585 : (Jvm.Cond.instanceMethod ({ cls := "SeatProofsModel", name := "tested", desc := "()I" } : Jvm.MethodName)) ∈ gT := mem_gT 601 (by decide +kernel) (by decide +kernel)
theorem iw_586 : (Jvm.Cond.selects "SeatProofsModel" ({ cls := "SeatProofsModel", name := "tested", desc := "()I" } : Jvm.MethodName) ({ cls := "SeatProofsModel", name := "tested", desc := "()I" } : Jvm.MethodName)) ∈ gT := mem_gT 602 (by decide +kernel) (by decide +kernel)
theorem iw_587 : (Jvm.Cond.code ({ cls := "SeatProofsModel", name := "tested", desc := "()I" } : Jvm.MethodName) prog_6_method_23_code (1 : Nat) (Option.some Jvm.ClassFile.FieldType.int)) ∈ gT := mem_gT 603 (by decide +kernel) (by decide +kernel)
theorem iw_588 : (Jvm.Cond.methodLink "SeatProofsLaw" (86 : Nat) ({ cls := "SeatProofsModel", name := "drop", desc := "(I)Z" } : Jvm.MethodName)) ∈ gT := mem_gT 604 (by decide +kernel) (by decide +kernel)
theorem iw_589 : (Jvm.Cond.instanceMethod ({ cls := "SeatProofsModel", name := "drop", desc := "(I)Z" } : Jvm.MethodName)) ∈ gT := mem_gT 605 (by decide +kernel) (by decide +kernel)
theorem iw_590 : (Jvm.Cond.selects "SeatProofsModel" ({ cls := "SeatProofsModel", name := "drop", desc := "(I)Z" } : Jvm.MethodName) ({ cls := "SeatProofsModel", name := "drop", desc := "(I)Z" } : Jvm.MethodName)) ∈ gT := mem_gT 606 (by decide +kernel) (by decide +kernel)
theorem iw_591 : (Jvm.Cond.code ({ cls := "SeatProofsModel", name := "drop", desc := "(I)Z" } : Jvm.MethodName) prog_6_method_24_code (3 : Nat) (Option.some Jvm.ClassFile.FieldType.boolean)) ∈ gT := mem_gT 607 (by decide +kernel) (by decide +kernel)
theorem iw_592 : (Jvm.Cond.methodLink "SeatProofsLaw" (90 : Nat) ({ cls := "SeatProofsModel", name := "clear", desc := "()V" } : Jvm.MethodName)) ∈ gT := mem_gT 608 (by decide +kernel) (by decide +kernel)
theorem iw_593 : (Jvm.Cond.instanceMethod ({ cls := "SeatProofsModel", name := "clear", desc := "()V" } : Jvm.MethodName)) ∈ gT := mem_gT 609 (by decide +kernel) (by decide +kernel)
theorem iw_594 : (Jvm.Cond.selects "SeatProofsModel" ({ cls := "SeatProofsModel", name := "clear", desc := "()V" } : Jvm.MethodName) ({ cls := "SeatProofsModel", name := "clear", desc := "()V" } : Jvm.MethodName)) ∈ gT := mem_gT 610 (by decide +kernel) (by decide +kernel)
theorem iw_595 : (Jvm.Cond.code ({ cls := "SeatProofsModel", name := "clear", desc := "()V" } : Jvm.MethodName) prog_6_method_25_code (2 : Nat) (Option.none : Option Jvm.ClassFile.FieldType)) ∈ gT := mem_gT 611 (by decide +kernel) (by decide +kernel)
theorem iw_596 : (Jvm.Cond.constantLong "SeatProofsLaw" (32 : Nat) (4294967295 : Int64)) ∈ gT := mem_gT 612 (by decide +kernel) (by decide +kernel)
theorem ip_0 : (Jvm.Cond.selects "SeatProofs$Plant" ({ cls := "SeatProofs$Plant", name := "measure", desc := "(I)V" } : Jvm.MethodName) ({ cls := "SeatProofs$Plant", name := "measure", desc := "(I)V" } : Jvm.MethodName)) ∈ gT := mem_gT 0 (by decide +kernel) (by decide +kernel)
theorem ip_1 : (Jvm.Cond.selects "SeatProofs$Flow" ({ cls := "SeatProofs$Flow", name := "layWay", desc := "(III)V" } : Jvm.MethodName) ({ cls := "SeatProofs$Flow", name := "layWay", desc := "(III)V" } : Jvm.MethodName)) ∈ gT := mem_gT 1 (by decide +kernel) (by decide +kernel)
theorem ip_2 : (Jvm.Cond.selects "SeatProofs" ({ cls := "SeatProofs", name := "keepCulprit", desc := "(II)V" } : Jvm.MethodName) ({ cls := "SeatProofs", name := "keepCulprit", desc := "(II)V" } : Jvm.MethodName)) ∈ gT := mem_gT 2 (by decide +kernel) (by decide +kernel)
theorem ip_3 : (Jvm.Cond.selects "SeatProofs" ({ cls := "SeatProofs", name := "addRows", desc := "(I)V" } : Jvm.MethodName) ({ cls := "SeatProofs", name := "addRows", desc := "(I)V" } : Jvm.MethodName)) ∈ gT := mem_gT 3 (by decide +kernel) (by decide +kernel)
theorem ip_4 : (Jvm.Cond.selects "SeatProofs" ({ cls := "SeatProofs", name := "isRight", desc := "(I)Z" } : Jvm.MethodName) ({ cls := "SeatProofs", name := "isRight", desc := "(I)Z" } : Jvm.MethodName)) ∈ gT := mem_gT 4 (by decide +kernel) (by decide +kernel)
theorem ip_5 : (Jvm.Cond.selects "java/lang/Throwable" ({ cls := "java/lang/Throwable", name := "fillInStackTrace", desc := "(I)Ljava/lang/Throwable;" } : Jvm.MethodName) ({ cls := "java/lang/Throwable", name := "fillInStackTrace", desc := "(I)Ljava/lang/Throwable;" } : Jvm.MethodName)) ∈ gT := mem_gT 5 (by decide +kernel) (by decide +kernel)
theorem ip_6 : (Jvm.Cond.selects "SeatProofs" ({ cls := "SeatProofs", name := "remakeTouched", desc := "(I)I" } : Jvm.MethodName) ({ cls := "SeatProofs", name := "remakeTouched", desc := "(I)I" } : Jvm.MethodName)) ∈ gT := mem_gT 6 (by decide +kernel) (by decide +kernel)
theorem ip_7 : (Jvm.Cond.selects "SeatProofs" ({ cls := "SeatProofs", name := "isTouched", desc := "(II)Z" } : Jvm.MethodName) ({ cls := "SeatProofs", name := "isTouched", desc := "(II)Z" } : Jvm.MethodName)) ∈ gT := mem_gT 7 (by decide +kernel) (by decide +kernel)
theorem ip_8 : (Jvm.Cond.selects "SeatProofs" ({ cls := "SeatProofs", name := "rowsClash", desc := "()Z" } : Jvm.MethodName) ({ cls := "SeatProofs", name := "rowsClash", desc := "()Z" } : Jvm.MethodName)) ∈ gT := mem_gT 8 (by decide +kernel) (by decide +kernel)
theorem ip_9 : (Jvm.Cond.selects "SeatProofsModel" ({ cls := "SeatProofsModel", name := "isSpace", desc := "(I)Z" } : Jvm.MethodName) ({ cls := "SeatProofsModel", name := "isSpace", desc := "(I)Z" } : Jvm.MethodName)) ∈ gT := mem_gT 9 (by decide +kernel) (by decide +kernel)
theorem ip_10 : (Jvm.Cond.selects "SeatProofsModel" ({ cls := "SeatProofsModel", name := "isThere", desc := "(I)Z" } : Jvm.MethodName) ({ cls := "SeatProofsModel", name := "isThere", desc := "(I)Z" } : Jvm.MethodName)) ∈ gT := mem_gT 10 (by decide +kernel) (by decide +kernel)
theorem ip_11 : (Jvm.Cond.selects "SeatProofsModel" ({ cls := "SeatProofsModel", name := "flood", desc := "(II)J" } : Jvm.MethodName) ({ cls := "SeatProofsModel", name := "flood", desc := "(II)J" } : Jvm.MethodName)) ∈ gT := mem_gT 11 (by decide +kernel) (by decide +kernel)
theorem ip_12 : (Jvm.Cond.selects "SeatProofsModel" ({ cls := "SeatProofsModel", name := "lets", desc := "(II)Z" } : Jvm.MethodName) ({ cls := "SeatProofsModel", name := "lets", desc := "(II)Z" } : Jvm.MethodName)) ∈ gT := mem_gT 12 (by decide +kernel) (by decide +kernel)
theorem ip_13 : (Jvm.Cond.selects "SeatProofsModel" ({ cls := "SeatProofsModel", name := "cut", desc := "(JI)J" } : Jvm.MethodName) ({ cls := "SeatProofsModel", name := "cut", desc := "(JI)J" } : Jvm.MethodName)) ∈ gT := mem_gT 13 (by decide +kernel) (by decide +kernel)
theorem ip_14 : (Jvm.Cond.selects "SeatProofsModel" ({ cls := "SeatProofsModel", name := "meet", desc := "(II)Z" } : Jvm.MethodName) ({ cls := "SeatProofsModel", name := "meet", desc := "(II)Z" } : Jvm.MethodName)) ∈ gT := mem_gT 14 (by decide +kernel) (by decide +kernel)
theorem ip_15 : (Jvm.Cond.selects "SeatProofsModel" ({ cls := "SeatProofsModel", name := "isRight", desc := "(I)Z" } : Jvm.MethodName) ({ cls := "SeatProofsModel", name := "isRight", desc := "(I)Z" } : Jvm.MethodName)) ∈ gT := mem_gT 15 (by decide +kernel) (by decide +kernel)
theorem iv_P : ∀ w ∈ u_ws "SeatProofs$Plant" F_P 12, w ∈ gT := by
  rw [show u_ws "SeatProofs$Plant" F_P 12 = [(Jvm.Cond.lays "SeatProofs$Plant" "SeatProofs$Plant" "spaces" "I"), (Jvm.Cond.lays "SeatProofs$Plant" "SeatProofs$Plant" "valves" "I"), (Jvm.Cond.laysFinal "SeatProofs$Plant" "SeatProofs$Plant" "levels" "[J"), (Jvm.Cond.laysFinal "SeatProofs$Plant" "SeatProofs$Plant" "sources" "[J"), (Jvm.Cond.laysFinal "SeatProofs$Plant" "SeatProofs$Plant" "friends" "[I"), (Jvm.Cond.laysFinal "SeatProofs$Plant" "SeatProofs$Plant" "oneEnd" "[I"), (Jvm.Cond.laysFinal "SeatProofs$Plant" "SeatProofs$Plant" "otherEnd" "[I"), (Jvm.Cond.lays "SeatProofs$Plant" "SeatProofs$Plant" "openValves" "J"), (Jvm.Cond.lays "SeatProofs$Plant" "SeatProofs$Plant" "unsureValves" "J"), (Jvm.Cond.lays "SeatProofs$Plant" "SeatProofs$Plant" "doubleValves" "J"), (Jvm.Cond.laysFinal "SeatProofs$Plant" "SeatProofs$Plant" "ends" "[J"), (Jvm.Cond.laysFinal "SeatProofs$Plant" "SeatProofs$Plant" "falls" "[J")] by decide +kernel]
  exact List.forall_mem_cons.mpr ⟨iw_50, List.forall_mem_cons.mpr ⟨iw_52, List.forall_mem_cons.mpr ⟨iw_54, List.forall_mem_cons.mpr ⟨iw_56, List.forall_mem_cons.mpr ⟨iw_58, List.forall_mem_cons.mpr ⟨iw_60, List.forall_mem_cons.mpr ⟨iw_62, List.forall_mem_cons.mpr ⟨iw_64, List.forall_mem_cons.mpr ⟨iw_66, List.forall_mem_cons.mpr ⟨iw_68, List.forall_mem_cons.mpr ⟨iw_70, List.forall_mem_cons.mpr ⟨iw_72, fun _ h => absurd h List.not_mem_nil⟩⟩⟩⟩⟩⟩⟩⟩⟩⟩⟩⟩
theorem iu_P (w0 : Cond) : ∀ w ∈ u_ws "SeatProofs$Plant" F_P 12, w ∈ w0 :: gT := fun w h => List.mem_cons_of_mem _ (iv_P w h)
theorem iv_F : ∀ w ∈ u_ws "SeatProofs$Flow" F_F 4, w ∈ gT := by
  rw [show u_ws "SeatProofs$Flow" F_F 4 = [(Jvm.Cond.laysFinal "SeatProofs$Flow" "SeatProofs$Flow" "plant" "LSeatProofs$Plant;"), (Jvm.Cond.lays "SeatProofs$Flow" "SeatProofs$Flow" "letting" "J"), (Jvm.Cond.laysFinal "SeatProofs$Flow" "SeatProofs$Flow" "ways" "[J"), (Jvm.Cond.laysFinal "SeatProofs$Flow" "SeatProofs$Flow" "floods" "[J")] by decide +kernel]
  exact List.forall_mem_cons.mpr ⟨iw_88, List.forall_mem_cons.mpr ⟨iw_90, List.forall_mem_cons.mpr ⟨iw_92, List.forall_mem_cons.mpr ⟨iw_94, fun _ h => absurd h List.not_mem_nil⟩⟩⟩⟩
theorem iu_F (w0 : Cond) : ∀ w ∈ u_ws "SeatProofs$Flow" F_F 4, w ∈ w0 :: gT := fun w h => List.mem_cons_of_mem _ (iv_F w h)
theorem iv_Q : ∀ w ∈ u_ws "SeatProofs$Proof" F_Q 5, w ∈ gT := by
  rw [show u_ws "SeatProofs$Proof" F_Q 5 = [(Jvm.Cond.lays "SeatProofs$Proof" "SeatProofs$Proof" "count" "I"), (Jvm.Cond.laysFinal "SeatProofs$Proof" "SeatProofs$Proof" "failure" "[I"), (Jvm.Cond.laysFinal "SeatProofs$Proof" "SeatProofs$Proof" "liquid" "[I"), (Jvm.Cond.laysFinal "SeatProofs$Proof" "SeatProofs$Proof" "flood" "[J"), (Jvm.Cond.laysFinal "SeatProofs$Proof" "SeatProofs$Proof" "cut" "[J")] by decide +kernel]
  exact List.forall_mem_cons.mpr ⟨iw_113, List.forall_mem_cons.mpr ⟨iw_115, List.forall_mem_cons.mpr ⟨iw_117, List.forall_mem_cons.mpr ⟨iw_119, List.forall_mem_cons.mpr ⟨iw_121, fun _ h => absurd h List.not_mem_nil⟩⟩⟩⟩⟩
theorem iu_Q (w0 : Cond) : ∀ w ∈ u_ws "SeatProofs$Proof" F_Q 5, w ∈ w0 :: gT := fun w h => List.mem_cons_of_mem _ (iv_Q w h)
theorem iv_S : ∀ w ∈ u_ws "SeatProofs" F_S 6, w ∈ gT := by
  rw [show u_ws "SeatProofs" F_S 6 = [(Jvm.Cond.laysFinal "SeatProofs" "SeatProofs" "plant" "LSeatProofs$Plant;"), (Jvm.Cond.laysFinal "SeatProofs" "SeatProofs" "flow" "LSeatProofs$Flow;"), (Jvm.Cond.laysFinal "SeatProofs" "SeatProofs" "proof" "LSeatProofs$Proof;"), (Jvm.Cond.laysFinal "SeatProofs" "SeatProofs" "found" "[I"), (Jvm.Cond.lays "SeatProofs" "SeatProofs" "foundUnsafe" "Z"), (Jvm.Cond.lays "SeatProofs" "SeatProofs" "remade" "I")] by decide +kernel]
  exact List.forall_mem_cons.mpr ⟨iw_130, List.forall_mem_cons.mpr ⟨iw_132, List.forall_mem_cons.mpr ⟨iw_134, List.forall_mem_cons.mpr ⟨iw_136, List.forall_mem_cons.mpr ⟨iw_138, List.forall_mem_cons.mpr ⟨iw_140, fun _ h => absurd h List.not_mem_nil⟩⟩⟩⟩⟩⟩
theorem iu_S (w0 : Cond) : ∀ w ∈ u_ws "SeatProofs" F_S 6, w ∈ w0 :: gT := fun w h => List.mem_cons_of_mem _ (iv_S w h)
theorem iv_M : ∀ w ∈ u_ws "SeatProofsModel" F_M 20, w ∈ gT := by
  rw [show u_ws "SeatProofsModel" F_M 20 = [(Jvm.Cond.laysFinal "SeatProofsModel" "SeatProofsModel" "liquids" "[I"), (Jvm.Cond.laysFinal "SeatProofsModel" "SeatProofsModel" "levels" "[J"), (Jvm.Cond.lays "SeatProofsModel" "SeatProofsModel" "spaces" "I"), (Jvm.Cond.laysFinal "SeatProofsModel" "SeatProofsModel" "firsts" "[I"), (Jvm.Cond.laysFinal "SeatProofsModel" "SeatProofsModel" "seconds" "[I"), (Jvm.Cond.laysFinal "SeatProofsModel" "SeatProofsModel" "seats" "[I"), (Jvm.Cond.laysFinal "SeatProofsModel" "SeatProofsModel" "opens" "[Z"), (Jvm.Cond.laysFinal "SeatProofsModel" "SeatProofsModel" "doubts" "[Z"), (Jvm.Cond.lays "SeatProofsModel" "SeatProofsModel" "valves" "I"), (Jvm.Cond.laysFinal "SeatProofsModel" "SeatProofsModel" "mays" "[Z"), (Jvm.Cond.lays "SeatProofsModel" "SeatProofsModel" "rows" "I"), (Jvm.Cond.laysFinal "SeatProofsModel" "SeatProofsModel" "failures" "[I"), (Jvm.Cond.laysFinal "SeatProofsModel" "SeatProofsModel" "of" "[I"), (Jvm.Cond.laysFinal "SeatProofsModel" "SeatProofsModel" "floods" "[J"), (Jvm.Cond.laysFinal "SeatProofsModel" "SeatProofsModel" "cuts" "[J"), (Jvm.Cond.laysFinal "SeatProofsModel" "SeatProofsModel" "culprit" "[I"), (Jvm.Cond.lays "SeatProofsModel" "SeatProofsModel" "guilty" "Z"), (Jvm.Cond.lays "SeatProofsModel" "SeatProofsModel" "tested" "I"), (Jvm.Cond.lays "SeatProofsModel" "SeatProofsModel" "thrown" "I"), (Jvm.Cond.laysFinal "SeatProofsModel" "SeatProofsModel" "wet" "[Z")] by decide +kernel]
  exact List.forall_mem_cons.mpr ⟨iw_460, List.forall_mem_cons.mpr ⟨iw_462, List.forall_mem_cons.mpr ⟨iw_464, List.forall_mem_cons.mpr ⟨iw_466, List.forall_mem_cons.mpr ⟨iw_468, List.forall_mem_cons.mpr ⟨iw_470, List.forall_mem_cons.mpr ⟨iw_472, List.forall_mem_cons.mpr ⟨iw_474, List.forall_mem_cons.mpr ⟨iw_476, List.forall_mem_cons.mpr ⟨iw_478, List.forall_mem_cons.mpr ⟨iw_480, List.forall_mem_cons.mpr ⟨iw_482, List.forall_mem_cons.mpr ⟨iw_484, List.forall_mem_cons.mpr ⟨iw_486, List.forall_mem_cons.mpr ⟨iw_488, List.forall_mem_cons.mpr ⟨iw_490, List.forall_mem_cons.mpr ⟨iw_492, List.forall_mem_cons.mpr ⟨iw_494, List.forall_mem_cons.mpr ⟨iw_496, List.forall_mem_cons.mpr ⟨iw_498, fun _ h => absurd h List.not_mem_nil⟩⟩⟩⟩⟩⟩⟩⟩⟩⟩⟩⟩⟩⟩⟩⟩⟩⟩⟩⟩
theorem iu_M (w0 : Cond) : ∀ w ∈ u_ws "SeatProofsModel" F_M 20, w ∈ w0 :: gT := fun w h => List.mem_cons_of_mem _ (iv_M w h)
theorem iv_Io : ∀ w ∈ u_ws "java/lang/IndexOutOfBoundsException" F_Io 6, w ∈ gT := by
  rw [show u_ws "java/lang/IndexOutOfBoundsException" F_Io 6 = [(Jvm.Cond.lays "java/lang/IndexOutOfBoundsException" "java/lang/Throwable" "cause" "Ljava/lang/Throwable;"), (Jvm.Cond.lays "java/lang/IndexOutOfBoundsException" "java/lang/Throwable" "stackTrace" "[Ljava/lang/StackTraceElement;"), (Jvm.Cond.lays "java/lang/IndexOutOfBoundsException" "java/lang/Throwable" "suppressedExceptions" "Ljava/util/List;"), (Jvm.Cond.lays "java/lang/IndexOutOfBoundsException" "java/lang/Throwable" "detailMessage" "Ljava/lang/String;"), (Jvm.Cond.lays "java/lang/IndexOutOfBoundsException" "java/lang/Throwable" "backtrace" "Ljava/lang/Object;"), (Jvm.Cond.lays "java/lang/IndexOutOfBoundsException" "java/lang/Throwable" "depth" "I")] by decide +kernel]
  exact List.forall_mem_cons.mpr ⟨iw_353, List.forall_mem_cons.mpr ⟨iw_355, List.forall_mem_cons.mpr ⟨iw_357, List.forall_mem_cons.mpr ⟨iw_359, List.forall_mem_cons.mpr ⟨iw_361, List.forall_mem_cons.mpr ⟨iw_403, fun _ h => absurd h List.not_mem_nil⟩⟩⟩⟩⟩⟩
theorem iu_Io (w0 : Cond) : ∀ w ∈ u_ws "java/lang/IndexOutOfBoundsException" F_Io 6, w ∈ w0 :: gT := fun w h => List.mem_cons_of_mem _ (iv_Io w h)
end
section
abbrev b_M_init : ByteArray := prog_6_method_1_code
def y_M_init : MethodName := ⟨"SeatProofsModel", "<init>", "()V"⟩
abbrev w_M_init : List Cond := .code y_M_init b_M_init 1 none :: gT
theorem d_M_init_0 : decode b_M_init 0 = .ok (.aload_n 0, 1) := by decide +kernel
theorem d_M_init_1 : decode b_M_init 1 = .ok (.invokespecial 1, 3) := by decide +kernel
theorem d_M_init_4 : decode b_M_init 4 = .ok (.aload_n 0, 1) := by decide +kernel
theorem d_M_init_5 : decode b_M_init 5 = .ok (.bipush 64, 2) := by decide +kernel
theorem d_M_init_7 : decode b_M_init 7 = .ok (.newarray .int, 2) := by decide +kernel
theorem d_M_init_9 : decode b_M_init 9 = .ok (.putfield 9, 3) := by decide +kernel
theorem d_M_init_12 : decode b_M_init 12 = .ok (.aload_n 0, 1) := by decide +kernel
theorem d_M_init_13 : decode b_M_init 13 = .ok (.bipush 64, 2) := by decide +kernel
theorem d_M_init_15 : decode b_M_init 15 = .ok (.newarray .long, 2) := by decide +kernel
theorem d_M_init_17 : decode b_M_init 17 = .ok (.putfield 13, 3) := by decide +kernel
theorem d_M_init_20 : decode b_M_init 20 = .ok (.aload_n 0, 1) := by decide +kernel
theorem d_M_init_21 : decode b_M_init 21 = .ok (.bipush 64, 2) := by decide +kernel
theorem d_M_init_23 : decode b_M_init 23 = .ok (.newarray .int, 2) := by decide +kernel
theorem d_M_init_25 : decode b_M_init 25 = .ok (.putfield 17, 3) := by decide +kernel
theorem d_M_init_28 : decode b_M_init 28 = .ok (.aload_n 0, 1) := by decide +kernel
theorem d_M_init_29 : decode b_M_init 29 = .ok (.bipush 64, 2) := by decide +kernel
theorem d_M_init_31 : decode b_M_init 31 = .ok (.newarray .int, 2) := by decide +kernel
theorem d_M_init_33 : decode b_M_init 33 = .ok (.putfield 20, 3) := by decide +kernel
theorem d_M_init_36 : decode b_M_init 36 = .ok (.aload_n 0, 1) := by decide +kernel
theorem d_M_init_37 : decode b_M_init 37 = .ok (.bipush 64, 2) := by decide +kernel
theorem d_M_init_39 : decode b_M_init 39 = .ok (.newarray .int, 2) := by decide +kernel
theorem d_M_init_41 : decode b_M_init 41 = .ok (.putfield 23, 3) := by decide +kernel
theorem d_M_init_44 : decode b_M_init 44 = .ok (.aload_n 0, 1) := by decide +kernel
theorem d_M_init_45 : decode b_M_init 45 = .ok (.bipush 64, 2) := by decide +kernel
theorem d_M_init_47 : decode b_M_init 47 = .ok (.newarray .boolean, 2) := by decide +kernel
theorem d_M_init_49 : decode b_M_init 49 = .ok (.putfield 26, 3) := by decide +kernel
theorem d_M_init_52 : decode b_M_init 52 = .ok (.aload_n 0, 1) := by decide +kernel
theorem d_M_init_53 : decode b_M_init 53 = .ok (.bipush 64, 2) := by decide +kernel
theorem d_M_init_55 : decode b_M_init 55 = .ok (.newarray .boolean, 2) := by decide +kernel
theorem d_M_init_57 : decode b_M_init 57 = .ok (.putfield 30, 3) := by decide +kernel
theorem d_M_init_60 : decode b_M_init 60 = .ok (.aload_n 0, 1) := by decide +kernel
theorem d_M_init_61 : decode b_M_init 61 = .ok (.sipush 256, 3) := by decide +kernel
theorem d_M_init_64 : decode b_M_init 64 = .ok (.newarray .boolean, 2) := by decide +kernel
theorem d_M_init_66 : decode b_M_init 66 = .ok (.putfield 33, 3) := by decide +kernel
theorem d_M_init_69 : decode b_M_init 69 = .ok (.aload_n 0, 1) := by decide +kernel
theorem d_M_init_70 : decode b_M_init 70 = .ok (.sipush 975, 3) := by decide +kernel
theorem d_M_init_73 : decode b_M_init 73 = .ok (.newarray .int, 2) := by decide +kernel
theorem d_M_init_75 : decode b_M_init 75 = .ok (.putfield 36, 3) := by decide +kernel
theorem d_M_init_78 : decode b_M_init 78 = .ok (.aload_n 0, 1) := by decide +kernel
theorem d_M_init_79 : decode b_M_init 79 = .ok (.sipush 975, 3) := by decide +kernel
theorem d_M_init_82 : decode b_M_init 82 = .ok (.newarray .int, 2) := by decide +kernel
theorem d_M_init_84 : decode b_M_init 84 = .ok (.putfield 39, 3) := by decide +kernel
theorem d_M_init_87 : decode b_M_init 87 = .ok (.aload_n 0, 1) := by decide +kernel
theorem d_M_init_88 : decode b_M_init 88 = .ok (.sipush 975, 3) := by decide +kernel
theorem d_M_init_91 : decode b_M_init 91 = .ok (.newarray .long, 2) := by decide +kernel
theorem d_M_init_93 : decode b_M_init 93 = .ok (.putfield 42, 3) := by decide +kernel
theorem d_M_init_96 : decode b_M_init 96 = .ok (.aload_n 0, 1) := by decide +kernel
theorem d_M_init_97 : decode b_M_init 97 = .ok (.sipush 975, 3) := by decide +kernel
theorem d_M_init_100 : decode b_M_init 100 = .ok (.newarray .long, 2) := by decide +kernel
theorem d_M_init_102 : decode b_M_init 102 = .ok (.putfield 45, 3) := by decide +kernel
theorem d_M_init_105 : decode b_M_init 105 = .ok (.aload_n 0, 1) := by decide +kernel
theorem d_M_init_106 : decode b_M_init 106 = .ok (.iconst 4, 1) := by decide +kernel
theorem d_M_init_107 : decode b_M_init 107 = .ok (.newarray .int, 2) := by decide +kernel
theorem d_M_init_109 : decode b_M_init 109 = .ok (.putfield 48, 3) := by decide +kernel
theorem d_M_init_112 : decode b_M_init 112 = .ok (.aload_n 0, 1) := by decide +kernel
theorem d_M_init_113 : decode b_M_init 113 = .ok (.bipush 64, 2) := by decide +kernel
theorem d_M_init_115 : decode b_M_init 115 = .ok (.newarray .boolean, 2) := by decide +kernel
theorem d_M_init_117 : decode b_M_init 117 = .ok (.putfield 51, 3) := by decide +kernel
theorem d_M_init_120 : decode b_M_init 120 = .ok (.return_, 1) := by decide +kernel
abbrev b_M_thrown : ByteArray := prog_6_method_2_code
def y_M_thrown : MethodName := ⟨"SeatProofsModel", "thrown", "()I"⟩
abbrev w_M_thrown : List Cond := .code y_M_thrown b_M_thrown 1 (some .int) :: gT
theorem d_M_thrown_0 : decode b_M_thrown 0 = .ok (.aload_n 0, 1) := by decide +kernel
theorem d_M_thrown_1 : decode b_M_thrown 1 = .ok (.getfield 54, 3) := by decide +kernel
theorem d_M_thrown_4 : decode b_M_thrown 4 = .ok (.ireturn, 1) := by decide +kernel
abbrev b_M_space : ByteArray := prog_6_method_3_code
def y_M_space : MethodName := ⟨"SeatProofsModel", "space", "(I)I"⟩
abbrev w_M_space : List Cond := .code y_M_space b_M_space 2 (some .int) :: gT
theorem d_M_space_0 : decode b_M_space 0 = .ok (.aload_n 0, 1) := by decide +kernel
theorem d_M_space_1 : decode b_M_space 1 = .ok (.iconst 0, 1) := by decide +kernel
theorem d_M_space_2 : decode b_M_space 2 = .ok (.putfield 54, 3) := by decide +kernel
theorem d_M_space_5 : decode b_M_space 5 = .ok (.iload_n 1, 1) := by decide +kernel
theorem d_M_space_6 : decode b_M_space 6 = .ok (.ifCond .lt 9, 3) := by decide +kernel
theorem d_M_space_9 : decode b_M_space 9 = .ok (.iload_n 1, 1) := by decide +kernel
theorem d_M_space_10 : decode b_M_space 10 = .ok (.bipush 16, 2) := by decide +kernel
theorem d_M_space_12 : decode b_M_space 12 = .ok (.if_icmp .lt 5, 3) := by decide +kernel
theorem d_M_space_15 : decode b_M_space 15 = .ok (.iconst (-1), 1) := by decide +kernel
theorem d_M_space_16 : decode b_M_space 16 = .ok (.ireturn, 1) := by decide +kernel
theorem d_M_space_17 : decode b_M_space 17 = .ok (.aload_n 0, 1) := by decide +kernel
theorem d_M_space_18 : decode b_M_space 18 = .ok (.getfield 58, 3) := by decide +kernel
theorem d_M_space_21 : decode b_M_space 21 = .ok (.bipush 64, 2) := by decide +kernel
theorem d_M_space_23 : decode b_M_space 23 = .ok (.if_icmp .ne 6, 3) := by decide +kernel
theorem d_M_space_26 : decode b_M_space 26 = .ok (.bipush (-2), 2) := by decide +kernel
theorem d_M_space_28 : decode b_M_space 28 = .ok (.ireturn, 1) := by decide +kernel
theorem d_M_space_29 : decode b_M_space 29 = .ok (.aload_n 0, 1) := by decide +kernel
theorem d_M_space_30 : decode b_M_space 30 = .ok (.getfield 9, 3) := by decide +kernel
theorem d_M_space_33 : decode b_M_space 33 = .ok (.aload_n 0, 1) := by decide +kernel
theorem d_M_space_34 : decode b_M_space 34 = .ok (.getfield 58, 3) := by decide +kernel
theorem d_M_space_37 : decode b_M_space 37 = .ok (.iload_n 1, 1) := by decide +kernel
theorem d_M_space_38 : decode b_M_space 38 = .ok (.iastore, 1) := by decide +kernel
theorem d_M_space_39 : decode b_M_space 39 = .ok (.aload_n 0, 1) := by decide +kernel
theorem d_M_space_40 : decode b_M_space 40 = .ok (.getfield 13, 3) := by decide +kernel
theorem d_M_space_43 : decode b_M_space 43 = .ok (.aload_n 0, 1) := by decide +kernel
theorem d_M_space_44 : decode b_M_space 44 = .ok (.getfield 58, 3) := by decide +kernel
theorem d_M_space_47 : decode b_M_space 47 = .ok (.lconst 0, 1) := by decide +kernel
theorem d_M_space_48 : decode b_M_space 48 = .ok (.lastore, 1) := by decide +kernel
theorem d_M_space_49 : decode b_M_space 49 = .ok (.aload_n 0, 1) := by decide +kernel
theorem d_M_space_50 : decode b_M_space 50 = .ok (.dup, 1) := by decide +kernel
theorem d_M_space_51 : decode b_M_space 51 = .ok (.getfield 58, 3) := by decide +kernel
theorem d_M_space_54 : decode b_M_space 54 = .ok (.iconst 1, 1) := by decide +kernel
theorem d_M_space_55 : decode b_M_space 55 = .ok (.iadd, 1) := by decide +kernel
theorem d_M_space_56 : decode b_M_space 56 = .ok (.putfield 58, 3) := by decide +kernel
theorem d_M_space_59 : decode b_M_space 59 = .ok (.aload_n 0, 1) := by decide +kernel
theorem d_M_space_60 : decode b_M_space 60 = .ok (.iconst 0, 1) := by decide +kernel
theorem d_M_space_61 : decode b_M_space 61 = .ok (.putfield 61, 3) := by decide +kernel
theorem d_M_space_64 : decode b_M_space 64 = .ok (.aload_n 0, 1) := by decide +kernel
theorem d_M_space_65 : decode b_M_space 65 = .ok (.getfield 58, 3) := by decide +kernel
theorem d_M_space_68 : decode b_M_space 68 = .ok (.iconst 1, 1) := by decide +kernel
theorem d_M_space_69 : decode b_M_space 69 = .ok (.isub, 1) := by decide +kernel
theorem d_M_space_70 : decode b_M_space 70 = .ok (.ireturn, 1) := by decide +kernel
abbrev b_M_isSpace : ByteArray := prog_6_method_4_code
def y_M_isSpace : MethodName := ⟨"SeatProofsModel", "isSpace", "(I)Z"⟩
abbrev w_M_isSpace : List Cond := .code y_M_isSpace b_M_isSpace 2 (some .boolean) :: gT
theorem d_M_isSpace_0 : decode b_M_isSpace 0 = .ok (.iload_n 1, 1) := by decide +kernel
theorem d_M_isSpace_1 : decode b_M_isSpace 1 = .ok (.ifCond .lt 15, 3) := by decide +kernel
theorem d_M_isSpace_4 : decode b_M_isSpace 4 = .ok (.iload_n 1, 1) := by decide +kernel
theorem d_M_isSpace_5 : decode b_M_isSpace 5 = .ok (.aload_n 0, 1) := by decide +kernel
theorem d_M_isSpace_6 : decode b_M_isSpace 6 = .ok (.getfield 58, 3) := by decide +kernel
theorem d_M_isSpace_9 : decode b_M_isSpace 9 = .ok (.if_icmp .ge 7, 3) := by decide +kernel
theorem d_M_isSpace_12 : decode b_M_isSpace 12 = .ok (.iconst 1, 1) := by decide +kernel
theorem d_M_isSpace_13 : decode b_M_isSpace 13 = .ok (.goto 4, 3) := by decide +kernel
theorem d_M_isSpace_16 : decode b_M_isSpace 16 = .ok (.iconst 0, 1) := by decide +kernel
theorem d_M_isSpace_17 : decode b_M_isSpace 17 = .ok (.ireturn, 1) := by decide +kernel
abbrev b_M_valve : ByteArray := prog_6_method_5_code
def y_M_valve : MethodName := ⟨"SeatProofsModel", "valve", "(IIIZ)I"⟩
abbrev w_M_valve : List Cond := .code y_M_valve b_M_valve 5 (some .int) :: gT
theorem d_M_valve_0 : decode b_M_valve 0 = .ok (.aload_n 0, 1) := by decide +kernel
theorem d_M_valve_1 : decode b_M_valve 1 = .ok (.iconst 0, 1) := by decide +kernel
theorem d_M_valve_2 : decode b_M_valve 2 = .ok (.putfield 54, 3) := by decide +kernel
theorem d_M_valve_5 : decode b_M_valve 5 = .ok (.aload_n 0, 1) := by decide +kernel
theorem d_M_valve_6 : decode b_M_valve 6 = .ok (.iload_n 1, 1) := by decide +kernel
theorem d_M_valve_7 : decode b_M_valve 7 = .ok (.invokevirtual 64, 3) := by decide +kernel
theorem d_M_valve_10 : decode b_M_valve 10 = .ok (.ifCond .eq 26, 3) := by decide +kernel
theorem d_M_valve_13 : decode b_M_valve 13 = .ok (.aload_n 0, 1) := by decide +kernel
theorem d_M_valve_14 : decode b_M_valve 14 = .ok (.iload_n 2, 1) := by decide +kernel
theorem d_M_valve_15 : decode b_M_valve 15 = .ok (.invokevirtual 64, 3) := by decide +kernel
theorem d_M_valve_18 : decode b_M_valve 18 = .ok (.ifCond .eq 18, 3) := by decide +kernel
theorem d_M_valve_21 : decode b_M_valve 21 = .ok (.iload_n 1, 1) := by decide +kernel
theorem d_M_valve_22 : decode b_M_valve 22 = .ok (.iload_n 2, 1) := by decide +kernel
theorem d_M_valve_23 : decode b_M_valve 23 = .ok (.if_icmp .eq 13, 3) := by decide +kernel
theorem d_M_valve_26 : decode b_M_valve 26 = .ok (.iload_n 3, 1) := by decide +kernel
theorem d_M_valve_27 : decode b_M_valve 27 = .ok (.iconst 1, 1) := by decide +kernel
theorem d_M_valve_28 : decode b_M_valve 28 = .ok (.if_icmp .lt 8, 3) := by decide +kernel
theorem d_M_valve_31 : decode b_M_valve 31 = .ok (.iload_n 3, 1) := by decide +kernel
theorem d_M_valve_32 : decode b_M_valve 32 = .ok (.iconst 2, 1) := by decide +kernel
theorem d_M_valve_33 : decode b_M_valve 33 = .ok (.if_icmp .le 5, 3) := by decide +kernel
theorem d_M_valve_36 : decode b_M_valve 36 = .ok (.iconst (-1), 1) := by decide +kernel
theorem d_M_valve_37 : decode b_M_valve 37 = .ok (.ireturn, 1) := by decide +kernel
theorem d_M_valve_38 : decode b_M_valve 38 = .ok (.aload_n 0, 1) := by decide +kernel
theorem d_M_valve_39 : decode b_M_valve 39 = .ok (.getfield 68, 3) := by decide +kernel
theorem d_M_valve_42 : decode b_M_valve 42 = .ok (.bipush 64, 2) := by decide +kernel
theorem d_M_valve_44 : decode b_M_valve 44 = .ok (.if_icmp .ne 6, 3) := by decide +kernel
theorem d_M_valve_47 : decode b_M_valve 47 = .ok (.bipush (-2), 2) := by decide +kernel
theorem d_M_valve_49 : decode b_M_valve 49 = .ok (.ireturn, 1) := by decide +kernel
theorem d_M_valve_50 : decode b_M_valve 50 = .ok (.aload_n 0, 1) := by decide +kernel
theorem d_M_valve_51 : decode b_M_valve 51 = .ok (.getfield 17, 3) := by decide +kernel
theorem d_M_valve_54 : decode b_M_valve 54 = .ok (.aload_n 0, 1) := by decide +kernel
theorem d_M_valve_55 : decode b_M_valve 55 = .ok (.getfield 68, 3) := by decide +kernel
theorem d_M_valve_58 : decode b_M_valve 58 = .ok (.iload_n 1, 1) := by decide +kernel
theorem d_M_valve_59 : decode b_M_valve 59 = .ok (.iastore, 1) := by decide +kernel
theorem d_M_valve_60 : decode b_M_valve 60 = .ok (.aload_n 0, 1) := by decide +kernel
theorem d_M_valve_61 : decode b_M_valve 61 = .ok (.getfield 20, 3) := by decide +kernel
theorem d_M_valve_64 : decode b_M_valve 64 = .ok (.aload_n 0, 1) := by decide +kernel
theorem d_M_valve_65 : decode b_M_valve 65 = .ok (.getfield 68, 3) := by decide +kernel
theorem d_M_valve_68 : decode b_M_valve 68 = .ok (.iload_n 2, 1) := by decide +kernel
theorem d_M_valve_69 : decode b_M_valve 69 = .ok (.iastore, 1) := by decide +kernel
theorem d_M_valve_70 : decode b_M_valve 70 = .ok (.aload_n 0, 1) := by decide +kernel
theorem d_M_valve_71 : decode b_M_valve 71 = .ok (.getfield 23, 3) := by decide +kernel
theorem d_M_valve_74 : decode b_M_valve 74 = .ok (.aload_n 0, 1) := by decide +kernel
theorem d_M_valve_75 : decode b_M_valve 75 = .ok (.getfield 68, 3) := by decide +kernel
theorem d_M_valve_78 : decode b_M_valve 78 = .ok (.iload_n 3, 1) := by decide +kernel
theorem d_M_valve_79 : decode b_M_valve 79 = .ok (.iastore, 1) := by decide +kernel
theorem d_M_valve_80 : decode b_M_valve 80 = .ok (.aload_n 0, 1) := by decide +kernel
theorem d_M_valve_81 : decode b_M_valve 81 = .ok (.getfield 26, 3) := by decide +kernel
theorem d_M_valve_84 : decode b_M_valve 84 = .ok (.aload_n 0, 1) := by decide +kernel
theorem d_M_valve_85 : decode b_M_valve 85 = .ok (.getfield 68, 3) := by decide +kernel
theorem d_M_valve_88 : decode b_M_valve 88 = .ok (.iload 4, 2) := by decide +kernel
theorem d_M_valve_90 : decode b_M_valve 90 = .ok (.bastore, 1) := by decide +kernel
theorem d_M_valve_91 : decode b_M_valve 91 = .ok (.aload_n 0, 1) := by decide +kernel
theorem d_M_valve_92 : decode b_M_valve 92 = .ok (.getfield 30, 3) := by decide +kernel
theorem d_M_valve_95 : decode b_M_valve 95 = .ok (.aload_n 0, 1) := by decide +kernel
theorem d_M_valve_96 : decode b_M_valve 96 = .ok (.getfield 68, 3) := by decide +kernel
theorem d_M_valve_99 : decode b_M_valve 99 = .ok (.iconst 0, 1) := by decide +kernel
theorem d_M_valve_100 : decode b_M_valve 100 = .ok (.bastore, 1) := by decide +kernel
theorem d_M_valve_101 : decode b_M_valve 101 = .ok (.aload_n 0, 1) := by decide +kernel
theorem d_M_valve_102 : decode b_M_valve 102 = .ok (.dup, 1) := by decide +kernel
theorem d_M_valve_103 : decode b_M_valve 103 = .ok (.getfield 68, 3) := by decide +kernel
theorem d_M_valve_106 : decode b_M_valve 106 = .ok (.iconst 1, 1) := by decide +kernel
theorem d_M_valve_107 : decode b_M_valve 107 = .ok (.iadd, 1) := by decide +kernel
theorem d_M_valve_108 : decode b_M_valve 108 = .ok (.putfield 68, 3) := by decide +kernel
theorem d_M_valve_111 : decode b_M_valve 111 = .ok (.aload_n 0, 1) := by decide +kernel
theorem d_M_valve_112 : decode b_M_valve 112 = .ok (.iconst 0, 1) := by decide +kernel
theorem d_M_valve_113 : decode b_M_valve 113 = .ok (.putfield 61, 3) := by decide +kernel
theorem d_M_valve_116 : decode b_M_valve 116 = .ok (.aload_n 0, 1) := by decide +kernel
theorem d_M_valve_117 : decode b_M_valve 117 = .ok (.getfield 68, 3) := by decide +kernel
theorem d_M_valve_120 : decode b_M_valve 120 = .ok (.iconst 1, 1) := by decide +kernel
theorem d_M_valve_121 : decode b_M_valve 121 = .ok (.isub, 1) := by decide +kernel
theorem d_M_valve_122 : decode b_M_valve 122 = .ok (.ireturn, 1) := by decide +kernel
abbrev b_M_level : ByteArray := prog_6_method_6_code
def y_M_level : MethodName := ⟨"SeatProofsModel", "level", "(IJ)Z"⟩
abbrev w_M_level : List Cond := .code y_M_level b_M_level 4 (some .boolean) :: gT
theorem d_M_level_0 : decode b_M_level 0 = .ok (.aload_n 0, 1) := by decide +kernel
theorem d_M_level_1 : decode b_M_level 1 = .ok (.iconst 0, 1) := by decide +kernel
theorem d_M_level_2 : decode b_M_level 2 = .ok (.putfield 54, 3) := by decide +kernel
theorem d_M_level_5 : decode b_M_level 5 = .ok (.aload_n 0, 1) := by decide +kernel
theorem d_M_level_6 : decode b_M_level 6 = .ok (.iload_n 1, 1) := by decide +kernel
theorem d_M_level_7 : decode b_M_level 7 = .ok (.invokevirtual 64, 3) := by decide +kernel
theorem d_M_level_10 : decode b_M_level 10 = .ok (.ifCond .ne 5, 3) := by decide +kernel
theorem d_M_level_13 : decode b_M_level 13 = .ok (.iconst 0, 1) := by decide +kernel
theorem d_M_level_14 : decode b_M_level 14 = .ok (.ireturn, 1) := by decide +kernel
theorem d_M_level_15 : decode b_M_level 15 = .ok (.aload_n 0, 1) := by decide +kernel
theorem d_M_level_16 : decode b_M_level 16 = .ok (.getfield 13, 3) := by decide +kernel
theorem d_M_level_19 : decode b_M_level 19 = .ok (.iload_n 1, 1) := by decide +kernel
theorem d_M_level_20 : decode b_M_level 20 = .ok (.lload_n 2, 1) := by decide +kernel
theorem d_M_level_21 : decode b_M_level 21 = .ok (.lastore, 1) := by decide +kernel
theorem d_M_level_22 : decode b_M_level 22 = .ok (.aload_n 0, 1) := by decide +kernel
theorem d_M_level_23 : decode b_M_level 23 = .ok (.iconst 0, 1) := by decide +kernel
theorem d_M_level_24 : decode b_M_level 24 = .ok (.putfield 61, 3) := by decide +kernel
theorem d_M_level_27 : decode b_M_level 27 = .ok (.iconst 1, 1) := by decide +kernel
theorem d_M_level_28 : decode b_M_level 28 = .ok (.ireturn, 1) := by decide +kernel
abbrev b_M_may : ByteArray := prog_6_method_7_code
def y_M_may : MethodName := ⟨"SeatProofsModel", "may", "(II)Z"⟩
abbrev w_M_may : List Cond := .code y_M_may b_M_may 4 (some .boolean) :: gT
theorem d_M_may_0 : decode b_M_may 0 = .ok (.aload_n 0, 1) := by decide +kernel
theorem d_M_may_1 : decode b_M_may 1 = .ok (.iconst 0, 1) := by decide +kernel
theorem d_M_may_2 : decode b_M_may 2 = .ok (.putfield 54, 3) := by decide +kernel
theorem d_M_may_5 : decode b_M_may 5 = .ok (.iload_n 1, 1) := by decide +kernel
theorem d_M_may_6 : decode b_M_may 6 = .ok (.ifCond .le 28, 3) := by decide +kernel
theorem d_M_may_9 : decode b_M_may 9 = .ok (.iload_n 1, 1) := by decide +kernel
theorem d_M_may_10 : decode b_M_may 10 = .ok (.bipush 16, 2) := by decide +kernel
theorem d_M_may_12 : decode b_M_may 12 = .ok (.if_icmp .ge 22, 3) := by decide +kernel
theorem d_M_may_15 : decode b_M_may 15 = .ok (.iload_n 2, 1) := by decide +kernel
theorem d_M_may_16 : decode b_M_may 16 = .ok (.ifCond .le 18, 3) := by decide +kernel
theorem d_M_may_19 : decode b_M_may 19 = .ok (.iload_n 2, 1) := by decide +kernel
theorem d_M_may_20 : decode b_M_may 20 = .ok (.bipush 16, 2) := by decide +kernel
theorem d_M_may_22 : decode b_M_may 22 = .ok (.if_icmp .ge 12, 3) := by decide +kernel
theorem d_M_may_25 : decode b_M_may 25 = .ok (.iload_n 1, 1) := by decide +kernel
theorem d_M_may_26 : decode b_M_may 26 = .ok (.iload_n 2, 1) := by decide +kernel
theorem d_M_may_27 : decode b_M_may 27 = .ok (.if_icmp .eq 7, 3) := by decide +kernel
theorem d_M_may_30 : decode b_M_may 30 = .ok (.iconst 1, 1) := by decide +kernel
theorem d_M_may_31 : decode b_M_may 31 = .ok (.goto 4, 3) := by decide +kernel
theorem d_M_may_34 : decode b_M_may 34 = .ok (.iconst 0, 1) := by decide +kernel
theorem d_M_may_35 : decode b_M_may 35 = .ok (.istore_n 3, 1) := by decide +kernel
theorem d_M_may_36 : decode b_M_may 36 = .ok (.iload_n 3, 1) := by decide +kernel
theorem d_M_may_37 : decode b_M_may 37 = .ok (.ifCond .eq 17, 3) := by decide +kernel
theorem d_M_may_40 : decode b_M_may 40 = .ok (.aload_n 0, 1) := by decide +kernel
theorem d_M_may_41 : decode b_M_may 41 = .ok (.getfield 33, 3) := by decide +kernel
theorem d_M_may_44 : decode b_M_may 44 = .ok (.bipush 16, 2) := by decide +kernel
theorem d_M_may_46 : decode b_M_may 46 = .ok (.iload_n 1, 1) := by decide +kernel
theorem d_M_may_47 : decode b_M_may 47 = .ok (.imul, 1) := by decide +kernel
theorem d_M_may_48 : decode b_M_may 48 = .ok (.iload_n 2, 1) := by decide +kernel
theorem d_M_may_49 : decode b_M_may 49 = .ok (.iadd, 1) := by decide +kernel
theorem d_M_may_50 : decode b_M_may 50 = .ok (.baload, 1) := by decide +kernel
theorem d_M_may_51 : decode b_M_may 51 = .ok (.ifCond .eq 5, 3) := by decide +kernel
theorem d_M_may_54 : decode b_M_may 54 = .ok (.iconst 0, 1) := by decide +kernel
theorem d_M_may_55 : decode b_M_may 55 = .ok (.ireturn, 1) := by decide +kernel
theorem d_M_may_56 : decode b_M_may 56 = .ok (.aload_n 0, 1) := by decide +kernel
theorem d_M_may_57 : decode b_M_may 57 = .ok (.getfield 33, 3) := by decide +kernel
theorem d_M_may_60 : decode b_M_may 60 = .ok (.bipush 16, 2) := by decide +kernel
theorem d_M_may_62 : decode b_M_may 62 = .ok (.iload_n 1, 1) := by decide +kernel
theorem d_M_may_63 : decode b_M_may 63 = .ok (.imul, 1) := by decide +kernel
theorem d_M_may_64 : decode b_M_may 64 = .ok (.iload_n 2, 1) := by decide +kernel
theorem d_M_may_65 : decode b_M_may 65 = .ok (.iadd, 1) := by decide +kernel
theorem d_M_may_66 : decode b_M_may 66 = .ok (.iconst 1, 1) := by decide +kernel
theorem d_M_may_67 : decode b_M_may 67 = .ok (.bastore, 1) := by decide +kernel
theorem d_M_may_68 : decode b_M_may 68 = .ok (.aload_n 0, 1) := by decide +kernel
theorem d_M_may_69 : decode b_M_may 69 = .ok (.getfield 33, 3) := by decide +kernel
theorem d_M_may_72 : decode b_M_may 72 = .ok (.bipush 16, 2) := by decide +kernel
theorem d_M_may_74 : decode b_M_may 74 = .ok (.iload_n 2, 1) := by decide +kernel
theorem d_M_may_75 : decode b_M_may 75 = .ok (.imul, 1) := by decide +kernel
theorem d_M_may_76 : decode b_M_may 76 = .ok (.iload_n 1, 1) := by decide +kernel
theorem d_M_may_77 : decode b_M_may 77 = .ok (.iadd, 1) := by decide +kernel
theorem d_M_may_78 : decode b_M_may 78 = .ok (.iconst 1, 1) := by decide +kernel
theorem d_M_may_79 : decode b_M_may 79 = .ok (.bastore, 1) := by decide +kernel
theorem d_M_may_80 : decode b_M_may 80 = .ok (.aload_n 0, 1) := by decide +kernel
theorem d_M_may_81 : decode b_M_may 81 = .ok (.iconst 0, 1) := by decide +kernel
theorem d_M_may_82 : decode b_M_may 82 = .ok (.putfield 61, 3) := by decide +kernel
theorem d_M_may_85 : decode b_M_may 85 = .ok (.iconst 1, 1) := by decide +kernel
theorem d_M_may_86 : decode b_M_may 86 = .ok (.ireturn, 1) := by decide +kernel
abbrev b_M_lets : ByteArray := prog_6_method_8_code
def y_M_lets : MethodName := ⟨"SeatProofsModel", "lets", "(II)Z"⟩
abbrev w_M_lets : List Cond := .code y_M_lets b_M_lets 4 (some .boolean) :: gT
theorem d_M_lets_0 : decode b_M_lets 0 = .ok (.iload_n 2, 1) := by decide +kernel
theorem d_M_lets_1 : decode b_M_lets 1 = .ok (.iload_n 1, 1) := by decide +kernel
theorem d_M_lets_2 : decode b_M_lets 2 = .ok (.iconst 1, 1) := by decide +kernel
theorem d_M_lets_3 : decode b_M_lets 3 = .ok (.iadd, 1) := by decide +kernel
theorem d_M_lets_4 : decode b_M_lets 4 = .ok (.if_icmp .ne 7, 3) := by decide +kernel
theorem d_M_lets_7 : decode b_M_lets 7 = .ok (.iconst 1, 1) := by decide +kernel
theorem d_M_lets_8 : decode b_M_lets 8 = .ok (.goto 4, 3) := by decide +kernel
theorem d_M_lets_11 : decode b_M_lets 11 = .ok (.iconst 0, 1) := by decide +kernel
theorem d_M_lets_12 : decode b_M_lets 12 = .ok (.istore_n 3, 1) := by decide +kernel
theorem d_M_lets_13 : decode b_M_lets 13 = .ok (.aload_n 0, 1) := by decide +kernel
theorem d_M_lets_14 : decode b_M_lets 14 = .ok (.getfield 23, 3) := by decide +kernel
theorem d_M_lets_17 : decode b_M_lets 17 = .ok (.iload_n 1, 1) := by decide +kernel
theorem d_M_lets_18 : decode b_M_lets 18 = .ok (.iaload, 1) := by decide +kernel
theorem d_M_lets_19 : decode b_M_lets 19 = .ok (.iconst 2, 1) := by decide +kernel
theorem d_M_lets_20 : decode b_M_lets 20 = .ok (.if_icmp .ne 14, 3) := by decide +kernel
theorem d_M_lets_23 : decode b_M_lets 23 = .ok (.aload_n 0, 1) := by decide +kernel
theorem d_M_lets_24 : decode b_M_lets 24 = .ok (.getfield 26, 3) := by decide +kernel
theorem d_M_lets_27 : decode b_M_lets 27 = .ok (.iload_n 1, 1) := by decide +kernel
theorem d_M_lets_28 : decode b_M_lets 28 = .ok (.baload, 1) := by decide +kernel
theorem d_M_lets_29 : decode b_M_lets 29 = .ok (.ifCond .ne 5, 3) := by decide +kernel
theorem d_M_lets_32 : decode b_M_lets 32 = .ok (.iconst 0, 1) := by decide +kernel
theorem d_M_lets_33 : decode b_M_lets 33 = .ok (.ireturn, 1) := by decide +kernel
theorem d_M_lets_34 : decode b_M_lets 34 = .ok (.aload_n 0, 1) := by decide +kernel
theorem d_M_lets_35 : decode b_M_lets 35 = .ok (.getfield 30, 3) := by decide +kernel
theorem d_M_lets_38 : decode b_M_lets 38 = .ok (.iload_n 1, 1) := by decide +kernel
theorem d_M_lets_39 : decode b_M_lets 39 = .ok (.baload, 1) := by decide +kernel
theorem d_M_lets_40 : decode b_M_lets 40 = .ok (.ifCond .ne 13, 3) := by decide +kernel
theorem d_M_lets_43 : decode b_M_lets 43 = .ok (.aload_n 0, 1) := by decide +kernel
theorem d_M_lets_44 : decode b_M_lets 44 = .ok (.getfield 26, 3) := by decide +kernel
theorem d_M_lets_47 : decode b_M_lets 47 = .ok (.iload_n 1, 1) := by decide +kernel
theorem d_M_lets_48 : decode b_M_lets 48 = .ok (.baload, 1) := by decide +kernel
theorem d_M_lets_49 : decode b_M_lets 49 = .ok (.iload_n 3, 1) := by decide +kernel
theorem d_M_lets_50 : decode b_M_lets 50 = .ok (.if_icmp .eq 7, 3) := by decide +kernel
theorem d_M_lets_53 : decode b_M_lets 53 = .ok (.iconst 1, 1) := by decide +kernel
theorem d_M_lets_54 : decode b_M_lets 54 = .ok (.goto 4, 3) := by decide +kernel
theorem d_M_lets_57 : decode b_M_lets 57 = .ok (.iconst 0, 1) := by decide +kernel
theorem d_M_lets_58 : decode b_M_lets 58 = .ok (.ireturn, 1) := by decide +kernel
abbrev b_M_flood : ByteArray := prog_6_method_9_code
def y_M_flood : MethodName := ⟨"SeatProofsModel", "flood", "(II)J"⟩
abbrev w_M_flood : List Cond := .code y_M_flood b_M_flood 9 (some .long) :: gT
theorem d_M_flood_0 : decode b_M_flood 0 = .ok (.iconst 0, 1) := by decide +kernel
theorem d_M_flood_1 : decode b_M_flood 1 = .ok (.istore_n 3, 1) := by decide +kernel
theorem d_M_flood_2 : decode b_M_flood 2 = .ok (.iload_n 3, 1) := by decide +kernel
theorem d_M_flood_3 : decode b_M_flood 3 = .ok (.aload_n 0, 1) := by decide +kernel
theorem d_M_flood_4 : decode b_M_flood 4 = .ok (.getfield 58, 3) := by decide +kernel
theorem d_M_flood_7 : decode b_M_flood 7 = .ok (.if_icmp .ge 30, 3) := by decide +kernel
theorem d_M_flood_10 : decode b_M_flood 10 = .ok (.aload_n 0, 1) := by decide +kernel
theorem d_M_flood_11 : decode b_M_flood 11 = .ok (.getfield 51, 3) := by decide +kernel
theorem d_M_flood_14 : decode b_M_flood 14 = .ok (.iload_n 3, 1) := by decide +kernel
theorem d_M_flood_15 : decode b_M_flood 15 = .ok (.aload_n 0, 1) := by decide +kernel
theorem d_M_flood_16 : decode b_M_flood 16 = .ok (.getfield 9, 3) := by decide +kernel
theorem d_M_flood_19 : decode b_M_flood 19 = .ok (.iload_n 3, 1) := by decide +kernel
theorem d_M_flood_20 : decode b_M_flood 20 = .ok (.iaload, 1) := by decide +kernel
theorem d_M_flood_21 : decode b_M_flood 21 = .ok (.iload_n 1, 1) := by decide +kernel
theorem d_M_flood_22 : decode b_M_flood 22 = .ok (.if_icmp .ne 7, 3) := by decide +kernel
theorem d_M_flood_25 : decode b_M_flood 25 = .ok (.iconst 1, 1) := by decide +kernel
theorem d_M_flood_26 : decode b_M_flood 26 = .ok (.goto 4, 3) := by decide +kernel
theorem d_M_flood_29 : decode b_M_flood 29 = .ok (.iconst 0, 1) := by decide +kernel
theorem d_M_flood_30 : decode b_M_flood 30 = .ok (.bastore, 1) := by decide +kernel
theorem d_M_flood_31 : decode b_M_flood 31 = .ok (.iinc 3 1, 3) := by decide +kernel
theorem d_M_flood_34 : decode b_M_flood 34 = .ok (.goto (-32), 3) := by decide +kernel
theorem d_M_flood_37 : decode b_M_flood 37 = .ok (.iconst 1, 1) := by decide +kernel
theorem d_M_flood_38 : decode b_M_flood 38 = .ok (.istore_n 3, 1) := by decide +kernel
theorem d_M_flood_39 : decode b_M_flood 39 = .ok (.iload_n 3, 1) := by decide +kernel
theorem d_M_flood_40 : decode b_M_flood 40 = .ok (.ifCond .eq 137, 3) := by decide +kernel
theorem d_M_flood_43 : decode b_M_flood 43 = .ok (.iconst 0, 1) := by decide +kernel
theorem d_M_flood_44 : decode b_M_flood 44 = .ok (.istore_n 3, 1) := by decide +kernel
theorem d_M_flood_45 : decode b_M_flood 45 = .ok (.iconst 0, 1) := by decide +kernel
theorem d_M_flood_46 : decode b_M_flood 46 = .ok (.istore 4, 2) := by decide +kernel
theorem d_M_flood_48 : decode b_M_flood 48 = .ok (.iload 4, 2) := by decide +kernel
theorem d_M_flood_50 : decode b_M_flood 50 = .ok (.aload_n 0, 1) := by decide +kernel
theorem d_M_flood_51 : decode b_M_flood 51 = .ok (.getfield 68, 3) := by decide +kernel
theorem d_M_flood_54 : decode b_M_flood 54 = .ok (.if_icmp .ge 120, 3) := by decide +kernel
theorem d_M_flood_57 : decode b_M_flood 57 = .ok (.aload_n 0, 1) := by decide +kernel
theorem d_M_flood_58 : decode b_M_flood 58 = .ok (.getfield 17, 3) := by decide +kernel
theorem d_M_flood_61 : decode b_M_flood 61 = .ok (.iload 4, 2) := by decide +kernel
theorem d_M_flood_63 : decode b_M_flood 63 = .ok (.iaload, 1) := by decide +kernel
theorem d_M_flood_64 : decode b_M_flood 64 = .ok (.istore 5, 2) := by decide +kernel
theorem d_M_flood_66 : decode b_M_flood 66 = .ok (.aload_n 0, 1) := by decide +kernel
theorem d_M_flood_67 : decode b_M_flood 67 = .ok (.getfield 20, 3) := by decide +kernel
theorem d_M_flood_70 : decode b_M_flood 70 = .ok (.iload 4, 2) := by decide +kernel
theorem d_M_flood_72 : decode b_M_flood 72 = .ok (.iaload, 1) := by decide +kernel
theorem d_M_flood_73 : decode b_M_flood 73 = .ok (.istore 6, 2) := by decide +kernel
theorem d_M_flood_75 : decode b_M_flood 75 = .ok (.aload_n 0, 1) := by decide +kernel
theorem d_M_flood_76 : decode b_M_flood 76 = .ok (.iload 4, 2) := by decide +kernel
theorem d_M_flood_78 : decode b_M_flood 78 = .ok (.iload_n 2, 1) := by decide +kernel
theorem d_M_flood_79 : decode b_M_flood 79 = .ok (.invokevirtual 71, 3) := by decide +kernel
theorem d_M_flood_82 : decode b_M_flood 82 = .ok (.ifCond .eq 86, 3) := by decide +kernel
theorem d_M_flood_85 : decode b_M_flood 85 = .ok (.aload_n 0, 1) := by decide +kernel
theorem d_M_flood_86 : decode b_M_flood 86 = .ok (.getfield 51, 3) := by decide +kernel
theorem d_M_flood_89 : decode b_M_flood 89 = .ok (.iload 5, 2) := by decide +kernel
theorem d_M_flood_91 : decode b_M_flood 91 = .ok (.baload, 1) := by decide +kernel
theorem d_M_flood_92 : decode b_M_flood 92 = .ok (.aload_n 0, 1) := by decide +kernel
theorem d_M_flood_93 : decode b_M_flood 93 = .ok (.getfield 51, 3) := by decide +kernel
theorem d_M_flood_96 : decode b_M_flood 96 = .ok (.iload 6, 2) := by decide +kernel
theorem d_M_flood_98 : decode b_M_flood 98 = .ok (.baload, 1) := by decide +kernel
theorem d_M_flood_99 : decode b_M_flood 99 = .ok (.if_icmp .eq 69, 3) := by decide +kernel
theorem d_M_flood_102 : decode b_M_flood 102 = .ok (.aload_n 0, 1) := by decide +kernel
theorem d_M_flood_103 : decode b_M_flood 103 = .ok (.getfield 51, 3) := by decide +kernel
theorem d_M_flood_106 : decode b_M_flood 106 = .ok (.iload 5, 2) := by decide +kernel
theorem d_M_flood_108 : decode b_M_flood 108 = .ok (.baload, 1) := by decide +kernel
theorem d_M_flood_109 : decode b_M_flood 109 = .ok (.ifCond .eq 8, 3) := by decide +kernel
theorem d_M_flood_112 : decode b_M_flood 112 = .ok (.iload 5, 2) := by decide +kernel
theorem d_M_flood_114 : decode b_M_flood 114 = .ok (.goto 5, 3) := by decide +kernel
theorem d_M_flood_117 : decode b_M_flood 117 = .ok (.iload 6, 2) := by decide +kernel
theorem d_M_flood_119 : decode b_M_flood 119 = .ok (.istore 7, 2) := by decide +kernel
theorem d_M_flood_121 : decode b_M_flood 121 = .ok (.aload_n 0, 1) := by decide +kernel
theorem d_M_flood_122 : decode b_M_flood 122 = .ok (.getfield 51, 3) := by decide +kernel
theorem d_M_flood_125 : decode b_M_flood 125 = .ok (.iload 5, 2) := by decide +kernel
theorem d_M_flood_127 : decode b_M_flood 127 = .ok (.baload, 1) := by decide +kernel
theorem d_M_flood_128 : decode b_M_flood 128 = .ok (.ifCond .eq 8, 3) := by decide +kernel
theorem d_M_flood_131 : decode b_M_flood 131 = .ok (.iload 6, 2) := by decide +kernel
theorem d_M_flood_133 : decode b_M_flood 133 = .ok (.goto 5, 3) := by decide +kernel
theorem d_M_flood_136 : decode b_M_flood 136 = .ok (.iload 5, 2) := by decide +kernel
theorem d_M_flood_138 : decode b_M_flood 138 = .ok (.istore 8, 2) := by decide +kernel
theorem d_M_flood_140 : decode b_M_flood 140 = .ok (.aload_n 0, 1) := by decide +kernel
theorem d_M_flood_141 : decode b_M_flood 141 = .ok (.getfield 13, 3) := by decide +kernel
theorem d_M_flood_144 : decode b_M_flood 144 = .ok (.iload 8, 2) := by decide +kernel
theorem d_M_flood_146 : decode b_M_flood 146 = .ok (.laload, 1) := by decide +kernel
theorem d_M_flood_147 : decode b_M_flood 147 = .ok (.aload_n 0, 1) := by decide +kernel
theorem d_M_flood_148 : decode b_M_flood 148 = .ok (.getfield 13, 3) := by decide +kernel
theorem d_M_flood_151 : decode b_M_flood 151 = .ok (.iload 7, 2) := by decide +kernel
theorem d_M_flood_153 : decode b_M_flood 153 = .ok (.laload, 1) := by decide +kernel
theorem d_M_flood_154 : decode b_M_flood 154 = .ok (.lcmp, 1) := by decide +kernel
theorem d_M_flood_155 : decode b_M_flood 155 = .ok (.ifCond .gt 13, 3) := by decide +kernel
theorem d_M_flood_158 : decode b_M_flood 158 = .ok (.aload_n 0, 1) := by decide +kernel
theorem d_M_flood_159 : decode b_M_flood 159 = .ok (.getfield 51, 3) := by decide +kernel
theorem d_M_flood_162 : decode b_M_flood 162 = .ok (.iload 8, 2) := by decide +kernel
theorem d_M_flood_164 : decode b_M_flood 164 = .ok (.iconst 1, 1) := by decide +kernel
theorem d_M_flood_165 : decode b_M_flood 165 = .ok (.bastore, 1) := by decide +kernel
theorem d_M_flood_166 : decode b_M_flood 166 = .ok (.iconst 1, 1) := by decide +kernel
theorem d_M_flood_167 : decode b_M_flood 167 = .ok (.istore_n 3, 1) := by decide +kernel
theorem d_M_flood_168 : decode b_M_flood 168 = .ok (.iinc 4 1, 3) := by decide +kernel
theorem d_M_flood_171 : decode b_M_flood 171 = .ok (.goto (-123), 3) := by decide +kernel
theorem d_M_flood_174 : decode b_M_flood 174 = .ok (.goto (-135), 3) := by decide +kernel
theorem d_M_flood_177 : decode b_M_flood 177 = .ok (.lconst 0, 1) := by decide +kernel
theorem d_M_flood_178 : decode b_M_flood 178 = .ok (.lstore 4, 2) := by decide +kernel
theorem d_M_flood_180 : decode b_M_flood 180 = .ok (.iconst 0, 1) := by decide +kernel
theorem d_M_flood_181 : decode b_M_flood 181 = .ok (.istore 6, 2) := by decide +kernel
theorem d_M_flood_183 : decode b_M_flood 183 = .ok (.iload 6, 2) := by decide +kernel
theorem d_M_flood_185 : decode b_M_flood 185 = .ok (.aload_n 0, 1) := by decide +kernel
theorem d_M_flood_186 : decode b_M_flood 186 = .ok (.getfield 58, 3) := by decide +kernel
theorem d_M_flood_189 : decode b_M_flood 189 = .ok (.if_icmp .ge 33, 3) := by decide +kernel
theorem d_M_flood_192 : decode b_M_flood 192 = .ok (.aload_n 0, 1) := by decide +kernel
theorem d_M_flood_193 : decode b_M_flood 193 = .ok (.getfield 51, 3) := by decide +kernel
theorem d_M_flood_196 : decode b_M_flood 196 = .ok (.iload 6, 2) := by decide +kernel
theorem d_M_flood_198 : decode b_M_flood 198 = .ok (.baload, 1) := by decide +kernel
theorem d_M_flood_199 : decode b_M_flood 199 = .ok (.ifCond .eq 13, 3) := by decide +kernel
theorem d_M_flood_202 : decode b_M_flood 202 = .ok (.lload 4, 2) := by decide +kernel
theorem d_M_flood_204 : decode b_M_flood 204 = .ok (.lconst 1, 1) := by decide +kernel
theorem d_M_flood_205 : decode b_M_flood 205 = .ok (.iload 6, 2) := by decide +kernel
theorem d_M_flood_207 : decode b_M_flood 207 = .ok (.lshl, 1) := by decide +kernel
theorem d_M_flood_208 : decode b_M_flood 208 = .ok (.lor, 1) := by decide +kernel
theorem d_M_flood_209 : decode b_M_flood 209 = .ok (.goto 5, 3) := by decide +kernel
theorem d_M_flood_212 : decode b_M_flood 212 = .ok (.lload 4, 2) := by decide +kernel
theorem d_M_flood_214 : decode b_M_flood 214 = .ok (.lstore 4, 2) := by decide +kernel
theorem d_M_flood_216 : decode b_M_flood 216 = .ok (.iinc 6 1, 3) := by decide +kernel
theorem d_M_flood_219 : decode b_M_flood 219 = .ok (.goto (-36), 3) := by decide +kernel
theorem d_M_flood_222 : decode b_M_flood 222 = .ok (.lload 4, 2) := by decide +kernel
theorem d_M_flood_224 : decode b_M_flood 224 = .ok (.lreturn, 1) := by decide +kernel
abbrev b_M_has : ByteArray := prog_6_method_10_code
def y_M_has : MethodName := ⟨"SeatProofsModel", "has", "(JI)Z"⟩
abbrev w_M_has : List Cond := .code y_M_has b_M_has 3 (some .boolean) :: gT
theorem d_M_has_0 : decode b_M_has 0 = .ok (.lload_n 0, 1) := by decide +kernel
theorem d_M_has_1 : decode b_M_has 1 = .ok (.iload_n 2, 1) := by decide +kernel
theorem d_M_has_2 : decode b_M_has 2 = .ok (.lushr, 1) := by decide +kernel
theorem d_M_has_3 : decode b_M_has 3 = .ok (.lconst 1, 1) := by decide +kernel
theorem d_M_has_4 : decode b_M_has 4 = .ok (.land, 1) := by decide +kernel
theorem d_M_has_5 : decode b_M_has 5 = .ok (.lconst 1, 1) := by decide +kernel
theorem d_M_has_6 : decode b_M_has 6 = .ok (.lcmp, 1) := by decide +kernel
theorem d_M_has_7 : decode b_M_has 7 = .ok (.ifCond .ne 7, 3) := by decide +kernel
theorem d_M_has_10 : decode b_M_has 10 = .ok (.iconst 1, 1) := by decide +kernel
theorem d_M_has_11 : decode b_M_has 11 = .ok (.goto 4, 3) := by decide +kernel
theorem d_M_has_14 : decode b_M_has 14 = .ok (.iconst 0, 1) := by decide +kernel
theorem d_M_has_15 : decode b_M_has 15 = .ok (.ireturn, 1) := by decide +kernel
abbrev b_M_cut : ByteArray := prog_6_method_11_code
def y_M_cut : MethodName := ⟨"SeatProofsModel", "cut", "(JI)J"⟩
abbrev w_M_cut : List Cond := .code y_M_cut b_M_cut 11 (some .long) :: gT
theorem d_M_cut_0 : decode b_M_cut 0 = .ok (.lconst 0, 1) := by decide +kernel
theorem d_M_cut_1 : decode b_M_cut 1 = .ok (.lstore 4, 2) := by decide +kernel
theorem d_M_cut_3 : decode b_M_cut 3 = .ok (.iconst 0, 1) := by decide +kernel
theorem d_M_cut_4 : decode b_M_cut 4 = .ok (.istore 6, 2) := by decide +kernel
theorem d_M_cut_6 : decode b_M_cut 6 = .ok (.iload 6, 2) := by decide +kernel
theorem d_M_cut_8 : decode b_M_cut 8 = .ok (.aload_n 0, 1) := by decide +kernel
theorem d_M_cut_9 : decode b_M_cut 9 = .ok (.getfield 68, 3) := by decide +kernel
theorem d_M_cut_12 : decode b_M_cut 12 = .ok (.if_icmp .ge 127, 3) := by decide +kernel
theorem d_M_cut_15 : decode b_M_cut 15 = .ok (.lload_n 1, 1) := by decide +kernel
theorem d_M_cut_16 : decode b_M_cut 16 = .ok (.aload_n 0, 1) := by decide +kernel
theorem d_M_cut_17 : decode b_M_cut 17 = .ok (.getfield 17, 3) := by decide +kernel
theorem d_M_cut_20 : decode b_M_cut 20 = .ok (.iload 6, 2) := by decide +kernel
theorem d_M_cut_22 : decode b_M_cut 22 = .ok (.iaload, 1) := by decide +kernel
theorem d_M_cut_23 : decode b_M_cut 23 = .ok (.invokestatic 75, 3) := by decide +kernel
theorem d_M_cut_26 : decode b_M_cut 26 = .ok (.istore 7, 2) := by decide +kernel
theorem d_M_cut_28 : decode b_M_cut 28 = .ok (.lload_n 1, 1) := by decide +kernel
theorem d_M_cut_29 : decode b_M_cut 29 = .ok (.aload_n 0, 1) := by decide +kernel
theorem d_M_cut_30 : decode b_M_cut 30 = .ok (.getfield 20, 3) := by decide +kernel
theorem d_M_cut_33 : decode b_M_cut 33 = .ok (.iload 6, 2) := by decide +kernel
theorem d_M_cut_35 : decode b_M_cut 35 = .ok (.iaload, 1) := by decide +kernel
theorem d_M_cut_36 : decode b_M_cut 36 = .ok (.invokestatic 75, 3) := by decide +kernel
theorem d_M_cut_39 : decode b_M_cut 39 = .ok (.istore 8, 2) := by decide +kernel
theorem d_M_cut_41 : decode b_M_cut 41 = .ok (.iload 7, 2) := by decide +kernel
theorem d_M_cut_43 : decode b_M_cut 43 = .ok (.ifCond .eq 13, 3) := by decide +kernel
theorem d_M_cut_46 : decode b_M_cut 46 = .ok (.aload_n 0, 1) := by decide +kernel
theorem d_M_cut_47 : decode b_M_cut 47 = .ok (.getfield 17, 3) := by decide +kernel
theorem d_M_cut_50 : decode b_M_cut 50 = .ok (.iload 6, 2) := by decide +kernel
theorem d_M_cut_52 : decode b_M_cut 52 = .ok (.iaload, 1) := by decide +kernel
theorem d_M_cut_53 : decode b_M_cut 53 = .ok (.goto 10, 3) := by decide +kernel
theorem d_M_cut_56 : decode b_M_cut 56 = .ok (.aload_n 0, 1) := by decide +kernel
theorem d_M_cut_57 : decode b_M_cut 57 = .ok (.getfield 20, 3) := by decide +kernel
theorem d_M_cut_60 : decode b_M_cut 60 = .ok (.iload 6, 2) := by decide +kernel
theorem d_M_cut_62 : decode b_M_cut 62 = .ok (.iaload, 1) := by decide +kernel
theorem d_M_cut_63 : decode b_M_cut 63 = .ok (.istore 9, 2) := by decide +kernel
theorem d_M_cut_65 : decode b_M_cut 65 = .ok (.iload 7, 2) := by decide +kernel
theorem d_M_cut_67 : decode b_M_cut 67 = .ok (.ifCond .eq 13, 3) := by decide +kernel
theorem d_M_cut_70 : decode b_M_cut 70 = .ok (.aload_n 0, 1) := by decide +kernel
theorem d_M_cut_71 : decode b_M_cut 71 = .ok (.getfield 20, 3) := by decide +kernel
theorem d_M_cut_74 : decode b_M_cut 74 = .ok (.iload 6, 2) := by decide +kernel
theorem d_M_cut_76 : decode b_M_cut 76 = .ok (.iaload, 1) := by decide +kernel
theorem d_M_cut_77 : decode b_M_cut 77 = .ok (.goto 10, 3) := by decide +kernel
theorem d_M_cut_80 : decode b_M_cut 80 = .ok (.aload_n 0, 1) := by decide +kernel
theorem d_M_cut_81 : decode b_M_cut 81 = .ok (.getfield 17, 3) := by decide +kernel
theorem d_M_cut_84 : decode b_M_cut 84 = .ok (.iload 6, 2) := by decide +kernel
theorem d_M_cut_86 : decode b_M_cut 86 = .ok (.iaload, 1) := by decide +kernel
theorem d_M_cut_87 : decode b_M_cut 87 = .ok (.istore 10, 2) := by decide +kernel
theorem d_M_cut_89 : decode b_M_cut 89 = .ok (.iload 7, 2) := by decide +kernel
theorem d_M_cut_91 : decode b_M_cut 91 = .ok (.iload 8, 2) := by decide +kernel
theorem d_M_cut_93 : decode b_M_cut 93 = .ok (.if_icmp .eq 40, 3) := by decide +kernel
theorem d_M_cut_96 : decode b_M_cut 96 = .ok (.aload_n 0, 1) := by decide +kernel
theorem d_M_cut_97 : decode b_M_cut 97 = .ok (.iload 6, 2) := by decide +kernel
theorem d_M_cut_99 : decode b_M_cut 99 = .ok (.iload_n 3, 1) := by decide +kernel
theorem d_M_cut_100 : decode b_M_cut 100 = .ok (.invokevirtual 71, 3) := by decide +kernel
theorem d_M_cut_103 : decode b_M_cut 103 = .ok (.ifCond .ne 30, 3) := by decide +kernel
theorem d_M_cut_106 : decode b_M_cut 106 = .ok (.aload_n 0, 1) := by decide +kernel
theorem d_M_cut_107 : decode b_M_cut 107 = .ok (.getfield 13, 3) := by decide +kernel
theorem d_M_cut_110 : decode b_M_cut 110 = .ok (.iload 10, 2) := by decide +kernel
theorem d_M_cut_112 : decode b_M_cut 112 = .ok (.laload, 1) := by decide +kernel
theorem d_M_cut_113 : decode b_M_cut 113 = .ok (.aload_n 0, 1) := by decide +kernel
theorem d_M_cut_114 : decode b_M_cut 114 = .ok (.getfield 13, 3) := by decide +kernel
theorem d_M_cut_117 : decode b_M_cut 117 = .ok (.iload 9, 2) := by decide +kernel
theorem d_M_cut_119 : decode b_M_cut 119 = .ok (.laload, 1) := by decide +kernel
theorem d_M_cut_120 : decode b_M_cut 120 = .ok (.lcmp, 1) := by decide +kernel
theorem d_M_cut_121 : decode b_M_cut 121 = .ok (.ifCond .gt 12, 3) := by decide +kernel
theorem d_M_cut_124 : decode b_M_cut 124 = .ok (.lload 4, 2) := by decide +kernel
theorem d_M_cut_126 : decode b_M_cut 126 = .ok (.lconst 1, 1) := by decide +kernel
theorem d_M_cut_127 : decode b_M_cut 127 = .ok (.iload 6, 2) := by decide +kernel
theorem d_M_cut_129 : decode b_M_cut 129 = .ok (.lshl, 1) := by decide +kernel
theorem d_M_cut_130 : decode b_M_cut 130 = .ok (.lor, 1) := by decide +kernel
theorem d_M_cut_131 : decode b_M_cut 131 = .ok (.lstore 4, 2) := by decide +kernel
theorem d_M_cut_133 : decode b_M_cut 133 = .ok (.iinc 6 1, 3) := by decide +kernel
theorem d_M_cut_136 : decode b_M_cut 136 = .ok (.goto (-130), 3) := by decide +kernel
theorem d_M_cut_139 : decode b_M_cut 139 = .ok (.lload 4, 2) := by decide +kernel
theorem d_M_cut_141 : decode b_M_cut 141 = .ok (.lreturn, 1) := by decide +kernel
abbrev b_M_isThere : ByteArray := prog_6_method_12_code
def y_M_isThere : MethodName := ⟨"SeatProofsModel", "isThere", "(I)Z"⟩
abbrev w_M_isThere : List Cond := .code y_M_isThere b_M_isThere 4 (some .boolean) :: gT
theorem d_M_isThere_0 : decode b_M_isThere 0 = .ok (.iconst 0, 1) := by decide +kernel
theorem d_M_isThere_1 : decode b_M_isThere 1 = .ok (.istore_n 2, 1) := by decide +kernel
theorem d_M_isThere_2 : decode b_M_isThere 2 = .ok (.iconst 0, 1) := by decide +kernel
theorem d_M_isThere_3 : decode b_M_isThere 3 = .ok (.istore_n 3, 1) := by decide +kernel
theorem d_M_isThere_4 : decode b_M_isThere 4 = .ok (.iload_n 3, 1) := by decide +kernel
theorem d_M_isThere_5 : decode b_M_isThere 5 = .ok (.aload_n 0, 1) := by decide +kernel
theorem d_M_isThere_6 : decode b_M_isThere 6 = .ok (.getfield 58, 3) := by decide +kernel
theorem d_M_isThere_9 : decode b_M_isThere 9 = .ok (.if_icmp .ge 29, 3) := by decide +kernel
theorem d_M_isThere_12 : decode b_M_isThere 12 = .ok (.iload_n 2, 1) := by decide +kernel
theorem d_M_isThere_13 : decode b_M_isThere 13 = .ok (.ifCond .ne 13, 3) := by decide +kernel
theorem d_M_isThere_16 : decode b_M_isThere 16 = .ok (.aload_n 0, 1) := by decide +kernel
theorem d_M_isThere_17 : decode b_M_isThere 17 = .ok (.getfield 9, 3) := by decide +kernel
theorem d_M_isThere_20 : decode b_M_isThere 20 = .ok (.iload_n 3, 1) := by decide +kernel
theorem d_M_isThere_21 : decode b_M_isThere 21 = .ok (.iaload, 1) := by decide +kernel
theorem d_M_isThere_22 : decode b_M_isThere 22 = .ok (.iload_n 1, 1) := by decide +kernel
theorem d_M_isThere_23 : decode b_M_isThere 23 = .ok (.if_icmp .ne 7, 3) := by decide +kernel
theorem d_M_isThere_26 : decode b_M_isThere 26 = .ok (.iconst 1, 1) := by decide +kernel
theorem d_M_isThere_27 : decode b_M_isThere 27 = .ok (.goto 4, 3) := by decide +kernel
theorem d_M_isThere_30 : decode b_M_isThere 30 = .ok (.iconst 0, 1) := by decide +kernel
theorem d_M_isThere_31 : decode b_M_isThere 31 = .ok (.istore_n 2, 1) := by decide +kernel
theorem d_M_isThere_32 : decode b_M_isThere 32 = .ok (.iinc 3 1, 3) := by decide +kernel
theorem d_M_isThere_35 : decode b_M_isThere 35 = .ok (.goto (-31), 3) := by decide +kernel
theorem d_M_isThere_38 : decode b_M_isThere 38 = .ok (.iload_n 2, 1) := by decide +kernel
theorem d_M_isThere_39 : decode b_M_isThere 39 = .ok (.ifCond .eq 11, 3) := by decide +kernel
theorem d_M_isThere_42 : decode b_M_isThere 42 = .ok (.iload_n 1, 1) := by decide +kernel
theorem d_M_isThere_43 : decode b_M_isThere 43 = .ok (.ifCond .le 7, 3) := by decide +kernel
theorem d_M_isThere_46 : decode b_M_isThere 46 = .ok (.iconst 1, 1) := by decide +kernel
theorem d_M_isThere_47 : decode b_M_isThere 47 = .ok (.goto 4, 3) := by decide +kernel
theorem d_M_isThere_50 : decode b_M_isThere 50 = .ok (.iconst 0, 1) := by decide +kernel
theorem d_M_isThere_51 : decode b_M_isThere 51 = .ok (.ireturn, 1) := by decide +kernel
abbrev b_M_meet : ByteArray := prog_6_method_13_code
def y_M_meet : MethodName := ⟨"SeatProofsModel", "meet", "(II)Z"⟩
abbrev w_M_meet : List Cond := .code y_M_meet b_M_meet 6 (some .boolean) :: gT
theorem d_M_meet_0 : decode b_M_meet 0 = .ok (.iconst 0, 1) := by decide +kernel
theorem d_M_meet_1 : decode b_M_meet 1 = .ok (.istore_n 3, 1) := by decide +kernel
theorem d_M_meet_2 : decode b_M_meet 2 = .ok (.iload_n 3, 1) := by decide +kernel
theorem d_M_meet_3 : decode b_M_meet 3 = .ok (.aload_n 0, 1) := by decide +kernel
theorem d_M_meet_4 : decode b_M_meet 4 = .ok (.getfield 58, 3) := by decide +kernel
theorem d_M_meet_7 : decode b_M_meet 7 = .ok (.if_icmp .ge 144, 3) := by decide +kernel
theorem d_M_meet_10 : decode b_M_meet 10 = .ok (.iload_n 1, 1) := by decide +kernel
theorem d_M_meet_11 : decode b_M_meet 11 = .ok (.istore 4, 2) := by decide +kernel
theorem d_M_meet_13 : decode b_M_meet 13 = .ok (.iload 4, 2) := by decide +kernel
theorem d_M_meet_15 : decode b_M_meet 15 = .ok (.aload_n 0, 1) := by decide +kernel
theorem d_M_meet_16 : decode b_M_meet 16 = .ok (.getfield 61, 3) := by decide +kernel
theorem d_M_meet_19 : decode b_M_meet 19 = .ok (.if_icmp .ge 126, 3) := by decide +kernel
theorem d_M_meet_22 : decode b_M_meet 22 = .ok (.iload 4, 2) := by decide +kernel
theorem d_M_meet_24 : decode b_M_meet 24 = .ok (.iconst 1, 1) := by decide +kernel
theorem d_M_meet_25 : decode b_M_meet 25 = .ok (.iadd, 1) := by decide +kernel
theorem d_M_meet_26 : decode b_M_meet 26 = .ok (.istore 5, 2) := by decide +kernel
theorem d_M_meet_28 : decode b_M_meet 28 = .ok (.iload 5, 2) := by decide +kernel
theorem d_M_meet_30 : decode b_M_meet 30 = .ok (.aload_n 0, 1) := by decide +kernel
theorem d_M_meet_31 : decode b_M_meet 31 = .ok (.getfield 61, 3) := by decide +kernel
theorem d_M_meet_34 : decode b_M_meet 34 = .ok (.if_icmp .ge 105, 3) := by decide +kernel
theorem d_M_meet_37 : decode b_M_meet 37 = .ok (.aload_n 0, 1) := by decide +kernel
theorem d_M_meet_38 : decode b_M_meet 38 = .ok (.getfield 42, 3) := by decide +kernel
theorem d_M_meet_41 : decode b_M_meet 41 = .ok (.iload 4, 2) := by decide +kernel
theorem d_M_meet_43 : decode b_M_meet 43 = .ok (.laload, 1) := by decide +kernel
theorem d_M_meet_44 : decode b_M_meet 44 = .ok (.iload_n 3, 1) := by decide +kernel
theorem d_M_meet_45 : decode b_M_meet 45 = .ok (.invokestatic 75, 3) := by decide +kernel
theorem d_M_meet_48 : decode b_M_meet 48 = .ok (.ifCond .eq 85, 3) := by decide +kernel
theorem d_M_meet_51 : decode b_M_meet 51 = .ok (.aload_n 0, 1) := by decide +kernel
theorem d_M_meet_52 : decode b_M_meet 52 = .ok (.getfield 42, 3) := by decide +kernel
theorem d_M_meet_55 : decode b_M_meet 55 = .ok (.iload 5, 2) := by decide +kernel
theorem d_M_meet_57 : decode b_M_meet 57 = .ok (.laload, 1) := by decide +kernel
theorem d_M_meet_58 : decode b_M_meet 58 = .ok (.iload_n 3, 1) := by decide +kernel
theorem d_M_meet_59 : decode b_M_meet 59 = .ok (.invokestatic 75, 3) := by decide +kernel
theorem d_M_meet_62 : decode b_M_meet 62 = .ok (.ifCond .eq 71, 3) := by decide +kernel
theorem d_M_meet_65 : decode b_M_meet 65 = .ok (.aload_n 0, 1) := by decide +kernel
theorem d_M_meet_66 : decode b_M_meet 66 = .ok (.getfield 33, 3) := by decide +kernel
theorem d_M_meet_69 : decode b_M_meet 69 = .ok (.bipush 16, 2) := by decide +kernel
theorem d_M_meet_71 : decode b_M_meet 71 = .ok (.aload_n 0, 1) := by decide +kernel
theorem d_M_meet_72 : decode b_M_meet 72 = .ok (.getfield 39, 3) := by decide +kernel
theorem d_M_meet_75 : decode b_M_meet 75 = .ok (.iload 4, 2) := by decide +kernel
theorem d_M_meet_77 : decode b_M_meet 77 = .ok (.iaload, 1) := by decide +kernel
theorem d_M_meet_78 : decode b_M_meet 78 = .ok (.imul, 1) := by decide +kernel
theorem d_M_meet_79 : decode b_M_meet 79 = .ok (.aload_n 0, 1) := by decide +kernel
theorem d_M_meet_80 : decode b_M_meet 80 = .ok (.getfield 39, 3) := by decide +kernel
theorem d_M_meet_83 : decode b_M_meet 83 = .ok (.iload 5, 2) := by decide +kernel
theorem d_M_meet_85 : decode b_M_meet 85 = .ok (.iaload, 1) := by decide +kernel
theorem d_M_meet_86 : decode b_M_meet 86 = .ok (.iadd, 1) := by decide +kernel
theorem d_M_meet_87 : decode b_M_meet 87 = .ok (.baload, 1) := by decide +kernel
theorem d_M_meet_88 : decode b_M_meet 88 = .ok (.ifCond .ne 45, 3) := by decide +kernel
theorem d_M_meet_91 : decode b_M_meet 91 = .ok (.aload_n 0, 1) := by decide +kernel
theorem d_M_meet_92 : decode b_M_meet 92 = .ok (.getfield 48, 3) := by decide +kernel
theorem d_M_meet_95 : decode b_M_meet 95 = .ok (.iconst 0, 1) := by decide +kernel
theorem d_M_meet_96 : decode b_M_meet 96 = .ok (.iload_n 2, 1) := by decide +kernel
theorem d_M_meet_97 : decode b_M_meet 97 = .ok (.iastore, 1) := by decide +kernel
theorem d_M_meet_98 : decode b_M_meet 98 = .ok (.aload_n 0, 1) := by decide +kernel
theorem d_M_meet_99 : decode b_M_meet 99 = .ok (.getfield 48, 3) := by decide +kernel
theorem d_M_meet_102 : decode b_M_meet 102 = .ok (.iconst 1, 1) := by decide +kernel
theorem d_M_meet_103 : decode b_M_meet 103 = .ok (.iload_n 3, 1) := by decide +kernel
theorem d_M_meet_104 : decode b_M_meet 104 = .ok (.iastore, 1) := by decide +kernel
theorem d_M_meet_105 : decode b_M_meet 105 = .ok (.aload_n 0, 1) := by decide +kernel
theorem d_M_meet_106 : decode b_M_meet 106 = .ok (.getfield 48, 3) := by decide +kernel
theorem d_M_meet_109 : decode b_M_meet 109 = .ok (.iconst 2, 1) := by decide +kernel
theorem d_M_meet_110 : decode b_M_meet 110 = .ok (.aload_n 0, 1) := by decide +kernel
theorem d_M_meet_111 : decode b_M_meet 111 = .ok (.getfield 39, 3) := by decide +kernel
theorem d_M_meet_114 : decode b_M_meet 114 = .ok (.iload 4, 2) := by decide +kernel
theorem d_M_meet_116 : decode b_M_meet 116 = .ok (.iaload, 1) := by decide +kernel
theorem d_M_meet_117 : decode b_M_meet 117 = .ok (.iastore, 1) := by decide +kernel
theorem d_M_meet_118 : decode b_M_meet 118 = .ok (.aload_n 0, 1) := by decide +kernel
theorem d_M_meet_119 : decode b_M_meet 119 = .ok (.getfield 48, 3) := by decide +kernel
theorem d_M_meet_122 : decode b_M_meet 122 = .ok (.iconst 3, 1) := by decide +kernel
theorem d_M_meet_123 : decode b_M_meet 123 = .ok (.aload_n 0, 1) := by decide +kernel
theorem d_M_meet_124 : decode b_M_meet 124 = .ok (.getfield 39, 3) := by decide +kernel
theorem d_M_meet_127 : decode b_M_meet 127 = .ok (.iload 5, 2) := by decide +kernel
theorem d_M_meet_129 : decode b_M_meet 129 = .ok (.iaload, 1) := by decide +kernel
theorem d_M_meet_130 : decode b_M_meet 130 = .ok (.iastore, 1) := by decide +kernel
theorem d_M_meet_131 : decode b_M_meet 131 = .ok (.iconst 1, 1) := by decide +kernel
theorem d_M_meet_132 : decode b_M_meet 132 = .ok (.ireturn, 1) := by decide +kernel
theorem d_M_meet_133 : decode b_M_meet 133 = .ok (.iinc 5 1, 3) := by decide +kernel
theorem d_M_meet_136 : decode b_M_meet 136 = .ok (.goto (-108), 3) := by decide +kernel
theorem d_M_meet_139 : decode b_M_meet 139 = .ok (.iinc 4 1, 3) := by decide +kernel
theorem d_M_meet_142 : decode b_M_meet 142 = .ok (.goto (-129), 3) := by decide +kernel
theorem d_M_meet_145 : decode b_M_meet 145 = .ok (.iinc 3 1, 3) := by decide +kernel
theorem d_M_meet_148 : decode b_M_meet 148 = .ok (.goto (-146), 3) := by decide +kernel
theorem d_M_meet_151 : decode b_M_meet 151 = .ok (.iconst 0, 1) := by decide +kernel
theorem d_M_meet_152 : decode b_M_meet 152 = .ok (.ireturn, 1) := by decide +kernel
abbrev b_M_safe : ByteArray := prog_6_method_14_code
def y_M_safe : MethodName := ⟨"SeatProofsModel", "safe", "()I"⟩
abbrev w_M_safe : List Cond := .code y_M_safe b_M_safe 4 (some .int) :: gT
theorem d_M_safe_0 : decode b_M_safe 0 = .ok (.aload_n 0, 1) := by decide +kernel
theorem d_M_safe_1 : decode b_M_safe 1 = .ok (.iconst 0, 1) := by decide +kernel
theorem d_M_safe_2 : decode b_M_safe 2 = .ok (.putfield 54, 3) := by decide +kernel
theorem d_M_safe_5 : decode b_M_safe 5 = .ok (.aload_n 0, 1) := by decide +kernel
theorem d_M_safe_6 : decode b_M_safe 6 = .ok (.iconst 0, 1) := by decide +kernel
theorem d_M_safe_7 : decode b_M_safe 7 = .ok (.putfield 61, 3) := by decide +kernel
theorem d_M_safe_10 : decode b_M_safe 10 = .ok (.aload_n 0, 1) := by decide +kernel
theorem d_M_safe_11 : decode b_M_safe 11 = .ok (.iconst 0, 1) := by decide +kernel
theorem d_M_safe_12 : decode b_M_safe 12 = .ok (.putfield 79, 3) := by decide +kernel
theorem d_M_safe_15 : decode b_M_safe 15 = .ok (.iconst 0, 1) := by decide +kernel
theorem d_M_safe_16 : decode b_M_safe 16 = .ok (.istore_n 1, 1) := by decide +kernel
theorem d_M_safe_17 : decode b_M_safe 17 = .ok (.iload_n 1, 1) := by decide +kernel
theorem d_M_safe_18 : decode b_M_safe 18 = .ok (.aload_n 0, 1) := by decide +kernel
theorem d_M_safe_19 : decode b_M_safe 19 = .ok (.getfield 68, 3) := by decide +kernel
theorem d_M_safe_22 : decode b_M_safe 22 = .ok (.if_icmp .gt 121, 3) := by decide +kernel
theorem d_M_safe_25 : decode b_M_safe 25 = .ok (.aload_n 0, 1) := by decide +kernel
theorem d_M_safe_26 : decode b_M_safe 26 = .ok (.getfield 79, 3) := by decide +kernel
theorem d_M_safe_29 : decode b_M_safe 29 = .ok (.ifCond .ne 114, 3) := by decide +kernel
theorem d_M_safe_32 : decode b_M_safe 32 = .ok (.aload_n 0, 1) := by decide +kernel
theorem d_M_safe_33 : decode b_M_safe 33 = .ok (.getfield 61, 3) := by decide +kernel
theorem d_M_safe_36 : decode b_M_safe 36 = .ok (.istore_n 2, 1) := by decide +kernel
theorem d_M_safe_37 : decode b_M_safe 37 = .ok (.iconst 1, 1) := by decide +kernel
theorem d_M_safe_38 : decode b_M_safe 38 = .ok (.istore_n 3, 1) := by decide +kernel
theorem d_M_safe_39 : decode b_M_safe 39 = .ok (.iload_n 3, 1) := by decide +kernel
theorem d_M_safe_40 : decode b_M_safe 40 = .ok (.bipush 16, 2) := by decide +kernel
theorem d_M_safe_42 : decode b_M_safe 42 = .ok (.if_icmp .ge 85, 3) := by decide +kernel
theorem d_M_safe_45 : decode b_M_safe 45 = .ok (.aload_n 0, 1) := by decide +kernel
theorem d_M_safe_46 : decode b_M_safe 46 = .ok (.iload_n 3, 1) := by decide +kernel
theorem d_M_safe_47 : decode b_M_safe 47 = .ok (.invokevirtual 83, 3) := by decide +kernel
theorem d_M_safe_50 : decode b_M_safe 50 = .ok (.ifCond .eq 71, 3) := by decide +kernel
theorem d_M_safe_53 : decode b_M_safe 53 = .ok (.aload_n 0, 1) := by decide +kernel
theorem d_M_safe_54 : decode b_M_safe 54 = .ok (.getfield 36, 3) := by decide +kernel
theorem d_M_safe_57 : decode b_M_safe 57 = .ok (.aload_n 0, 1) := by decide +kernel
theorem d_M_safe_58 : decode b_M_safe 58 = .ok (.getfield 61, 3) := by decide +kernel
theorem d_M_safe_61 : decode b_M_safe 61 = .ok (.iload_n 1, 1) := by decide +kernel
theorem d_M_safe_62 : decode b_M_safe 62 = .ok (.iastore, 1) := by decide +kernel
theorem d_M_safe_63 : decode b_M_safe 63 = .ok (.aload_n 0, 1) := by decide +kernel
theorem d_M_safe_64 : decode b_M_safe 64 = .ok (.getfield 39, 3) := by decide +kernel
theorem d_M_safe_67 : decode b_M_safe 67 = .ok (.aload_n 0, 1) := by decide +kernel
theorem d_M_safe_68 : decode b_M_safe 68 = .ok (.getfield 61, 3) := by decide +kernel
theorem d_M_safe_71 : decode b_M_safe 71 = .ok (.iload_n 3, 1) := by decide +kernel
theorem d_M_safe_72 : decode b_M_safe 72 = .ok (.iastore, 1) := by decide +kernel
theorem d_M_safe_73 : decode b_M_safe 73 = .ok (.aload_n 0, 1) := by decide +kernel
theorem d_M_safe_74 : decode b_M_safe 74 = .ok (.getfield 42, 3) := by decide +kernel
theorem d_M_safe_77 : decode b_M_safe 77 = .ok (.aload_n 0, 1) := by decide +kernel
theorem d_M_safe_78 : decode b_M_safe 78 = .ok (.getfield 61, 3) := by decide +kernel
theorem d_M_safe_81 : decode b_M_safe 81 = .ok (.aload_n 0, 1) := by decide +kernel
theorem d_M_safe_82 : decode b_M_safe 82 = .ok (.iload_n 3, 1) := by decide +kernel
theorem d_M_safe_83 : decode b_M_safe 83 = .ok (.iload_n 1, 1) := by decide +kernel
theorem d_M_safe_84 : decode b_M_safe 84 = .ok (.invokevirtual 86, 3) := by decide +kernel
theorem d_M_safe_87 : decode b_M_safe 87 = .ok (.lastore, 1) := by decide +kernel
theorem d_M_safe_88 : decode b_M_safe 88 = .ok (.aload_n 0, 1) := by decide +kernel
theorem d_M_safe_89 : decode b_M_safe 89 = .ok (.getfield 45, 3) := by decide +kernel
theorem d_M_safe_92 : decode b_M_safe 92 = .ok (.aload_n 0, 1) := by decide +kernel
theorem d_M_safe_93 : decode b_M_safe 93 = .ok (.getfield 61, 3) := by decide +kernel
theorem d_M_safe_96 : decode b_M_safe 96 = .ok (.aload_n 0, 1) := by decide +kernel
theorem d_M_safe_97 : decode b_M_safe 97 = .ok (.aload_n 0, 1) := by decide +kernel
theorem d_M_safe_98 : decode b_M_safe 98 = .ok (.getfield 42, 3) := by decide +kernel
theorem d_M_safe_101 : decode b_M_safe 101 = .ok (.aload_n 0, 1) := by decide +kernel
theorem d_M_safe_102 : decode b_M_safe 102 = .ok (.getfield 61, 3) := by decide +kernel
theorem d_M_safe_105 : decode b_M_safe 105 = .ok (.laload, 1) := by decide +kernel
theorem d_M_safe_106 : decode b_M_safe 106 = .ok (.iload_n 1, 1) := by decide +kernel
theorem d_M_safe_107 : decode b_M_safe 107 = .ok (.invokevirtual 90, 3) := by decide +kernel
theorem d_M_safe_110 : decode b_M_safe 110 = .ok (.lastore, 1) := by decide +kernel
theorem d_M_safe_111 : decode b_M_safe 111 = .ok (.aload_n 0, 1) := by decide +kernel
theorem d_M_safe_112 : decode b_M_safe 112 = .ok (.dup, 1) := by decide +kernel
theorem d_M_safe_113 : decode b_M_safe 113 = .ok (.getfield 61, 3) := by decide +kernel
theorem d_M_safe_116 : decode b_M_safe 116 = .ok (.iconst 1, 1) := by decide +kernel
theorem d_M_safe_117 : decode b_M_safe 117 = .ok (.iadd, 1) := by decide +kernel
theorem d_M_safe_118 : decode b_M_safe 118 = .ok (.putfield 61, 3) := by decide +kernel
theorem d_M_safe_121 : decode b_M_safe 121 = .ok (.iinc 3 1, 3) := by decide +kernel
theorem d_M_safe_124 : decode b_M_safe 124 = .ok (.goto (-85), 3) := by decide +kernel
theorem d_M_safe_127 : decode b_M_safe 127 = .ok (.aload_n 0, 1) := by decide +kernel
theorem d_M_safe_128 : decode b_M_safe 128 = .ok (.aload_n 0, 1) := by decide +kernel
theorem d_M_safe_129 : decode b_M_safe 129 = .ok (.iload_n 2, 1) := by decide +kernel
theorem d_M_safe_130 : decode b_M_safe 130 = .ok (.iload_n 1, 1) := by decide +kernel
theorem d_M_safe_131 : decode b_M_safe 131 = .ok (.invokevirtual 94, 3) := by decide +kernel
theorem d_M_safe_134 : decode b_M_safe 134 = .ok (.putfield 79, 3) := by decide +kernel
theorem d_M_safe_137 : decode b_M_safe 137 = .ok (.iinc 1 1, 3) := by decide +kernel
theorem d_M_safe_140 : decode b_M_safe 140 = .ok (.goto (-123), 3) := by decide +kernel
theorem d_M_safe_143 : decode b_M_safe 143 = .ok (.aload_n 0, 1) := by decide +kernel
theorem d_M_safe_144 : decode b_M_safe 144 = .ok (.aload_n 0, 1) := by decide +kernel
theorem d_M_safe_145 : decode b_M_safe 145 = .ok (.getfield 79, 3) := by decide +kernel
theorem d_M_safe_148 : decode b_M_safe 148 = .ok (.ifCond .eq 7, 3) := by decide +kernel
theorem d_M_safe_151 : decode b_M_safe 151 = .ok (.iconst 0, 1) := by decide +kernel
theorem d_M_safe_152 : decode b_M_safe 152 = .ok (.goto 7, 3) := by decide +kernel
theorem d_M_safe_155 : decode b_M_safe 155 = .ok (.aload_n 0, 1) := by decide +kernel
theorem d_M_safe_156 : decode b_M_safe 156 = .ok (.getfield 61, 3) := by decide +kernel
theorem d_M_safe_159 : decode b_M_safe 159 = .ok (.putfield 61, 3) := by decide +kernel
theorem d_M_safe_162 : decode b_M_safe 162 = .ok (.aload_n 0, 1) := by decide +kernel
theorem d_M_safe_163 : decode b_M_safe 163 = .ok (.getfield 79, 3) := by decide +kernel
theorem d_M_safe_166 : decode b_M_safe 166 = .ok (.ifCond .eq 7, 3) := by decide +kernel
theorem d_M_safe_169 : decode b_M_safe 169 = .ok (.iconst 0, 1) := by decide +kernel
theorem d_M_safe_170 : decode b_M_safe 170 = .ok (.goto 4, 3) := by decide +kernel
theorem d_M_safe_173 : decode b_M_safe 173 = .ok (.iconst 1, 1) := by decide +kernel
theorem d_M_safe_174 : decode b_M_safe 174 = .ok (.ireturn, 1) := by decide +kernel
abbrev b_M_culprit : ByteArray := prog_6_method_15_code
def y_M_culprit : MethodName := ⟨"SeatProofsModel", "culprit", "(I)I"⟩
abbrev w_M_culprit : List Cond := .code y_M_culprit b_M_culprit 2 (some .int) :: gT
theorem d_M_culprit_0 : decode b_M_culprit 0 = .ok (.aload_n 0, 1) := by decide +kernel
theorem d_M_culprit_1 : decode b_M_culprit 1 = .ok (.iconst 0, 1) := by decide +kernel
theorem d_M_culprit_2 : decode b_M_culprit 2 = .ok (.putfield 54, 3) := by decide +kernel
theorem d_M_culprit_5 : decode b_M_culprit 5 = .ok (.aload_n 0, 1) := by decide +kernel
theorem d_M_culprit_6 : decode b_M_culprit 6 = .ok (.getfield 79, 3) := by decide +kernel
theorem d_M_culprit_9 : decode b_M_culprit 9 = .ok (.ifCond .eq 21, 3) := by decide +kernel
theorem d_M_culprit_12 : decode b_M_culprit 12 = .ok (.iload_n 1, 1) := by decide +kernel
theorem d_M_culprit_13 : decode b_M_culprit 13 = .ok (.ifCond .lt 17, 3) := by decide +kernel
theorem d_M_culprit_16 : decode b_M_culprit 16 = .ok (.iload_n 1, 1) := by decide +kernel
theorem d_M_culprit_17 : decode b_M_culprit 17 = .ok (.iconst 4, 1) := by decide +kernel
theorem d_M_culprit_18 : decode b_M_culprit 18 = .ok (.if_icmp .ge 12, 3) := by decide +kernel
theorem d_M_culprit_21 : decode b_M_culprit 21 = .ok (.aload_n 0, 1) := by decide +kernel
theorem d_M_culprit_22 : decode b_M_culprit 22 = .ok (.getfield 48, 3) := by decide +kernel
theorem d_M_culprit_25 : decode b_M_culprit 25 = .ok (.iload_n 1, 1) := by decide +kernel
theorem d_M_culprit_26 : decode b_M_culprit 26 = .ok (.iaload, 1) := by decide +kernel
theorem d_M_culprit_27 : decode b_M_culprit 27 = .ok (.goto 4, 3) := by decide +kernel
theorem d_M_culprit_30 : decode b_M_culprit 30 = .ok (.iconst (-1), 1) := by decide +kernel
theorem d_M_culprit_31 : decode b_M_culprit 31 = .ok (.ireturn, 1) := by decide +kernel
abbrev b_M_rows : ByteArray := prog_6_method_16_code
def y_M_rows : MethodName := ⟨"SeatProofsModel", "rows", "()I"⟩
abbrev w_M_rows : List Cond := .code y_M_rows b_M_rows 1 (some .int) :: gT
theorem d_M_rows_0 : decode b_M_rows 0 = .ok (.aload_n 0, 1) := by decide +kernel
theorem d_M_rows_1 : decode b_M_rows 1 = .ok (.iconst 0, 1) := by decide +kernel
theorem d_M_rows_2 : decode b_M_rows 2 = .ok (.putfield 54, 3) := by decide +kernel
theorem d_M_rows_5 : decode b_M_rows 5 = .ok (.aload_n 0, 1) := by decide +kernel
theorem d_M_rows_6 : decode b_M_rows 6 = .ok (.getfield 61, 3) := by decide +kernel
theorem d_M_rows_9 : decode b_M_rows 9 = .ok (.ireturn, 1) := by decide +kernel
abbrev b_M_size : ByteArray := prog_6_method_17_code
def y_M_size : MethodName := ⟨"SeatProofsModel", "size", "(J)I"⟩
abbrev w_M_size : List Cond := .code y_M_size b_M_size 4 (some .int) :: gT
theorem d_M_size_0 : decode b_M_size 0 = .ok (.iconst 0, 1) := by decide +kernel
theorem d_M_size_1 : decode b_M_size 1 = .ok (.istore_n 2, 1) := by decide +kernel
theorem d_M_size_2 : decode b_M_size 2 = .ok (.iconst 0, 1) := by decide +kernel
theorem d_M_size_3 : decode b_M_size 3 = .ok (.istore_n 3, 1) := by decide +kernel
theorem d_M_size_4 : decode b_M_size 4 = .ok (.iload_n 3, 1) := by decide +kernel
theorem d_M_size_5 : decode b_M_size 5 = .ok (.bipush 64, 2) := by decide +kernel
theorem d_M_size_7 : decode b_M_size 7 = .ok (.if_icmp .ge 25, 3) := by decide +kernel
theorem d_M_size_10 : decode b_M_size 10 = .ok (.iload_n 2, 1) := by decide +kernel
theorem d_M_size_11 : decode b_M_size 11 = .ok (.lload_n 0, 1) := by decide +kernel
theorem d_M_size_12 : decode b_M_size 12 = .ok (.iload_n 3, 1) := by decide +kernel
theorem d_M_size_13 : decode b_M_size 13 = .ok (.invokestatic 75, 3) := by decide +kernel
theorem d_M_size_16 : decode b_M_size 16 = .ok (.ifCond .eq 7, 3) := by decide +kernel
theorem d_M_size_19 : decode b_M_size 19 = .ok (.iconst 1, 1) := by decide +kernel
theorem d_M_size_20 : decode b_M_size 20 = .ok (.goto 4, 3) := by decide +kernel
theorem d_M_size_23 : decode b_M_size 23 = .ok (.iconst 0, 1) := by decide +kernel
theorem d_M_size_24 : decode b_M_size 24 = .ok (.iadd, 1) := by decide +kernel
theorem d_M_size_25 : decode b_M_size 25 = .ok (.istore_n 2, 1) := by decide +kernel
theorem d_M_size_26 : decode b_M_size 26 = .ok (.iinc 3 1, 3) := by decide +kernel
theorem d_M_size_29 : decode b_M_size 29 = .ok (.goto (-25), 3) := by decide +kernel
theorem d_M_size_32 : decode b_M_size 32 = .ok (.iload_n 2, 1) := by decide +kernel
theorem d_M_size_33 : decode b_M_size 33 = .ok (.ireturn, 1) := by decide +kernel
abbrev b_M_row : ByteArray := prog_6_method_18_code
def y_M_row : MethodName := ⟨"SeatProofsModel", "row", "(II)I"⟩
abbrev w_M_row : List Cond := .code y_M_row b_M_row 5 (some .int) :: gT
theorem d_M_row_0 : decode b_M_row 0 = .ok (.aload_n 0, 1) := by decide +kernel
theorem d_M_row_1 : decode b_M_row 1 = .ok (.iconst 0, 1) := by decide +kernel
theorem d_M_row_2 : decode b_M_row 2 = .ok (.putfield 54, 3) := by decide +kernel
theorem d_M_row_5 : decode b_M_row 5 = .ok (.iload_n 1, 1) := by decide +kernel
theorem d_M_row_6 : decode b_M_row 6 = .ok (.ifCond .lt 15, 3) := by decide +kernel
theorem d_M_row_9 : decode b_M_row 9 = .ok (.iload_n 1, 1) := by decide +kernel
theorem d_M_row_10 : decode b_M_row 10 = .ok (.aload_n 0, 1) := by decide +kernel
theorem d_M_row_11 : decode b_M_row 11 = .ok (.getfield 61, 3) := by decide +kernel
theorem d_M_row_14 : decode b_M_row 14 = .ok (.if_icmp .ge 7, 3) := by decide +kernel
theorem d_M_row_17 : decode b_M_row 17 = .ok (.iload_n 2, 1) := by decide +kernel
theorem d_M_row_18 : decode b_M_row 18 = .ok (.ifCond .ge 5, 3) := by decide +kernel
theorem d_M_row_21 : decode b_M_row 21 = .ok (.iconst (-1), 1) := by decide +kernel
theorem d_M_row_22 : decode b_M_row 22 = .ok (.ireturn, 1) := by decide +kernel
theorem d_M_row_23 : decode b_M_row 23 = .ok (.iload_n 2, 1) := by decide +kernel
theorem d_M_row_24 : decode b_M_row 24 = .ok (.iconst 4, 1) := by decide +kernel
theorem d_M_row_25 : decode b_M_row 25 = .ok (.if_icmp .ge 57, 3) := by decide +kernel
theorem d_M_row_28 : decode b_M_row 28 = .ok (.iload_n 2, 1) := by decide +kernel
theorem d_M_row_29 : decode b_M_row 29 = .ok (.ifCond .ne 12, 3) := by decide +kernel
theorem d_M_row_32 : decode b_M_row 32 = .ok (.aload_n 0, 1) := by decide +kernel
theorem d_M_row_33 : decode b_M_row 33 = .ok (.getfield 36, 3) := by decide +kernel
theorem d_M_row_36 : decode b_M_row 36 = .ok (.iload_n 1, 1) := by decide +kernel
theorem d_M_row_37 : decode b_M_row 37 = .ok (.iaload, 1) := by decide +kernel
theorem d_M_row_38 : decode b_M_row 38 = .ok (.goto 43, 3) := by decide +kernel
theorem d_M_row_41 : decode b_M_row 41 = .ok (.iload_n 2, 1) := by decide +kernel
theorem d_M_row_42 : decode b_M_row 42 = .ok (.iconst 1, 1) := by decide +kernel
theorem d_M_row_43 : decode b_M_row 43 = .ok (.if_icmp .ne 12, 3) := by decide +kernel
theorem d_M_row_46 : decode b_M_row 46 = .ok (.aload_n 0, 1) := by decide +kernel
theorem d_M_row_47 : decode b_M_row 47 = .ok (.getfield 39, 3) := by decide +kernel
theorem d_M_row_50 : decode b_M_row 50 = .ok (.iload_n 1, 1) := by decide +kernel
theorem d_M_row_51 : decode b_M_row 51 = .ok (.iaload, 1) := by decide +kernel
theorem d_M_row_52 : decode b_M_row 52 = .ok (.goto 29, 3) := by decide +kernel
theorem d_M_row_55 : decode b_M_row 55 = .ok (.iload_n 2, 1) := by decide +kernel
theorem d_M_row_56 : decode b_M_row 56 = .ok (.iconst 2, 1) := by decide +kernel
theorem d_M_row_57 : decode b_M_row 57 = .ok (.if_icmp .ne 15, 3) := by decide +kernel
theorem d_M_row_60 : decode b_M_row 60 = .ok (.aload_n 0, 1) := by decide +kernel
theorem d_M_row_61 : decode b_M_row 61 = .ok (.getfield 42, 3) := by decide +kernel
theorem d_M_row_64 : decode b_M_row 64 = .ok (.iload_n 1, 1) := by decide +kernel
theorem d_M_row_65 : decode b_M_row 65 = .ok (.laload, 1) := by decide +kernel
theorem d_M_row_66 : decode b_M_row 66 = .ok (.invokestatic 97, 3) := by decide +kernel
theorem d_M_row_69 : decode b_M_row 69 = .ok (.goto 12, 3) := by decide +kernel
theorem d_M_row_72 : decode b_M_row 72 = .ok (.aload_n 0, 1) := by decide +kernel
theorem d_M_row_73 : decode b_M_row 73 = .ok (.getfield 45, 3) := by decide +kernel
theorem d_M_row_76 : decode b_M_row 76 = .ok (.iload_n 1, 1) := by decide +kernel
theorem d_M_row_77 : decode b_M_row 77 = .ok (.laload, 1) := by decide +kernel
theorem d_M_row_78 : decode b_M_row 78 = .ok (.invokestatic 97, 3) := by decide +kernel
theorem d_M_row_81 : decode b_M_row 81 = .ok (.ireturn, 1) := by decide +kernel
theorem d_M_row_82 : decode b_M_row 82 = .ok (.iload_n 2, 1) := by decide +kernel
theorem d_M_row_83 : decode b_M_row 83 = .ok (.iconst 4, 1) := by decide +kernel
theorem d_M_row_84 : decode b_M_row 84 = .ok (.isub, 1) := by decide +kernel
theorem d_M_row_85 : decode b_M_row 85 = .ok (.istore_n 3, 1) := by decide +kernel
theorem d_M_row_86 : decode b_M_row 86 = .ok (.iconst 0, 1) := by decide +kernel
theorem d_M_row_87 : decode b_M_row 87 = .ok (.istore 4, 2) := by decide +kernel
theorem d_M_row_89 : decode b_M_row 89 = .ok (.iload 4, 2) := by decide +kernel
theorem d_M_row_91 : decode b_M_row 91 = .ok (.aload_n 0, 1) := by decide +kernel
theorem d_M_row_92 : decode b_M_row 92 = .ok (.getfield 68, 3) := by decide +kernel
theorem d_M_row_95 : decode b_M_row 95 = .ok (.if_icmp .ge 33, 3) := by decide +kernel
theorem d_M_row_98 : decode b_M_row 98 = .ok (.aload_n 0, 1) := by decide +kernel
theorem d_M_row_99 : decode b_M_row 99 = .ok (.getfield 45, 3) := by decide +kernel
theorem d_M_row_102 : decode b_M_row 102 = .ok (.iload_n 1, 1) := by decide +kernel
theorem d_M_row_103 : decode b_M_row 103 = .ok (.laload, 1) := by decide +kernel
theorem d_M_row_104 : decode b_M_row 104 = .ok (.iload 4, 2) := by decide +kernel
theorem d_M_row_106 : decode b_M_row 106 = .ok (.invokestatic 75, 3) := by decide +kernel
theorem d_M_row_109 : decode b_M_row 109 = .ok (.ifCond .eq 13, 3) := by decide +kernel
theorem d_M_row_112 : decode b_M_row 112 = .ok (.iload_n 3, 1) := by decide +kernel
theorem d_M_row_113 : decode b_M_row 113 = .ok (.ifCond .ne 6, 3) := by decide +kernel
theorem d_M_row_116 : decode b_M_row 116 = .ok (.iload 4, 2) := by decide +kernel
theorem d_M_row_118 : decode b_M_row 118 = .ok (.ireturn, 1) := by decide +kernel
theorem d_M_row_119 : decode b_M_row 119 = .ok (.iinc 3 (-1), 3) := by decide +kernel
theorem d_M_row_122 : decode b_M_row 122 = .ok (.iinc 4 1, 3) := by decide +kernel
theorem d_M_row_125 : decode b_M_row 125 = .ok (.goto (-36), 3) := by decide +kernel
theorem d_M_row_128 : decode b_M_row 128 = .ok (.iconst (-1), 1) := by decide +kernel
theorem d_M_row_129 : decode b_M_row 129 = .ok (.ireturn, 1) := by decide +kernel
abbrev b_M_isRight : ByteArray := prog_6_method_19_code
def y_M_isRight : MethodName := ⟨"SeatProofsModel", "isRight", "(I)Z"⟩
abbrev w_M_isRight : List Cond := .code y_M_isRight b_M_isRight 6 (some .boolean) :: gT
theorem d_M_isRight_0 : decode b_M_isRight 0 = .ok (.aload_n 0, 1) := by decide +kernel
theorem d_M_isRight_1 : decode b_M_isRight 1 = .ok (.aload_n 0, 1) := by decide +kernel
theorem d_M_isRight_2 : decode b_M_isRight 2 = .ok (.getfield 39, 3) := by decide +kernel
theorem d_M_isRight_5 : decode b_M_isRight 5 = .ok (.iload_n 1, 1) := by decide +kernel
theorem d_M_isRight_6 : decode b_M_isRight 6 = .ok (.iaload, 1) := by decide +kernel
theorem d_M_isRight_7 : decode b_M_isRight 7 = .ok (.aload_n 0, 1) := by decide +kernel
theorem d_M_isRight_8 : decode b_M_isRight 8 = .ok (.getfield 36, 3) := by decide +kernel
theorem d_M_isRight_11 : decode b_M_isRight 11 = .ok (.iload_n 1, 1) := by decide +kernel
theorem d_M_isRight_12 : decode b_M_isRight 12 = .ok (.iaload, 1) := by decide +kernel
theorem d_M_isRight_13 : decode b_M_isRight 13 = .ok (.invokevirtual 86, 3) := by decide +kernel
theorem d_M_isRight_16 : decode b_M_isRight 16 = .ok (.lstore_n 2, 1) := by decide +kernel
theorem d_M_isRight_17 : decode b_M_isRight 17 = .ok (.lload_n 2, 1) := by decide +kernel
theorem d_M_isRight_18 : decode b_M_isRight 18 = .ok (.aload_n 0, 1) := by decide +kernel
theorem d_M_isRight_19 : decode b_M_isRight 19 = .ok (.getfield 42, 3) := by decide +kernel
theorem d_M_isRight_22 : decode b_M_isRight 22 = .ok (.iload_n 1, 1) := by decide +kernel
theorem d_M_isRight_23 : decode b_M_isRight 23 = .ok (.laload, 1) := by decide +kernel
theorem d_M_isRight_24 : decode b_M_isRight 24 = .ok (.lcmp, 1) := by decide +kernel
theorem d_M_isRight_25 : decode b_M_isRight 25 = .ok (.ifCond .ne 28, 3) := by decide +kernel
theorem d_M_isRight_28 : decode b_M_isRight 28 = .ok (.aload_n 0, 1) := by decide +kernel
theorem d_M_isRight_29 : decode b_M_isRight 29 = .ok (.lload_n 2, 1) := by decide +kernel
theorem d_M_isRight_30 : decode b_M_isRight 30 = .ok (.aload_n 0, 1) := by decide +kernel
theorem d_M_isRight_31 : decode b_M_isRight 31 = .ok (.getfield 36, 3) := by decide +kernel
theorem d_M_isRight_34 : decode b_M_isRight 34 = .ok (.iload_n 1, 1) := by decide +kernel
theorem d_M_isRight_35 : decode b_M_isRight 35 = .ok (.iaload, 1) := by decide +kernel
theorem d_M_isRight_36 : decode b_M_isRight 36 = .ok (.invokevirtual 90, 3) := by decide +kernel
theorem d_M_isRight_39 : decode b_M_isRight 39 = .ok (.aload_n 0, 1) := by decide +kernel
theorem d_M_isRight_40 : decode b_M_isRight 40 = .ok (.getfield 45, 3) := by decide +kernel
theorem d_M_isRight_43 : decode b_M_isRight 43 = .ok (.iload_n 1, 1) := by decide +kernel
theorem d_M_isRight_44 : decode b_M_isRight 44 = .ok (.laload, 1) := by decide +kernel
theorem d_M_isRight_45 : decode b_M_isRight 45 = .ok (.lcmp, 1) := by decide +kernel
theorem d_M_isRight_46 : decode b_M_isRight 46 = .ok (.ifCond .ne 7, 3) := by decide +kernel
theorem d_M_isRight_49 : decode b_M_isRight 49 = .ok (.iconst 1, 1) := by decide +kernel
theorem d_M_isRight_50 : decode b_M_isRight 50 = .ok (.goto 4, 3) := by decide +kernel
theorem d_M_isRight_53 : decode b_M_isRight 53 = .ok (.iconst 0, 1) := by decide +kernel
theorem d_M_isRight_54 : decode b_M_isRight 54 = .ok (.istore 4, 2) := by decide +kernel
theorem d_M_isRight_56 : decode b_M_isRight 56 = .ok (.iconst 0, 1) := by decide +kernel
theorem d_M_isRight_57 : decode b_M_isRight 57 = .ok (.istore 5, 2) := by decide +kernel
theorem d_M_isRight_59 : decode b_M_isRight 59 = .ok (.iload 5, 2) := by decide +kernel
theorem d_M_isRight_61 : decode b_M_isRight 61 = .ok (.aload_n 0, 1) := by decide +kernel
theorem d_M_isRight_62 : decode b_M_isRight 62 = .ok (.getfield 58, 3) := by decide +kernel
theorem d_M_isRight_65 : decode b_M_isRight 65 = .ok (.if_icmp .ge 81, 3) := by decide +kernel
theorem d_M_isRight_68 : decode b_M_isRight 68 = .ok (.iload 4, 2) := by decide +kernel
theorem d_M_isRight_70 : decode b_M_isRight 70 = .ok (.ifCond .eq 76, 3) := by decide +kernel
theorem d_M_isRight_73 : decode b_M_isRight 73 = .ok (.lload_n 2, 1) := by decide +kernel
theorem d_M_isRight_74 : decode b_M_isRight 74 = .ok (.iload 5, 2) := by decide +kernel
theorem d_M_isRight_76 : decode b_M_isRight 76 = .ok (.invokestatic 75, 3) := by decide +kernel
theorem d_M_isRight_79 : decode b_M_isRight 79 = .ok (.ifCond .eq 54, 3) := by decide +kernel
theorem d_M_isRight_82 : decode b_M_isRight 82 = .ok (.aload_n 0, 1) := by decide +kernel
theorem d_M_isRight_83 : decode b_M_isRight 83 = .ok (.getfield 9, 3) := by decide +kernel
theorem d_M_isRight_86 : decode b_M_isRight 86 = .ok (.iload 5, 2) := by decide +kernel
theorem d_M_isRight_88 : decode b_M_isRight 88 = .ok (.iaload, 1) := by decide +kernel
theorem d_M_isRight_89 : decode b_M_isRight 89 = .ok (.ifCond .eq 44, 3) := by decide +kernel
theorem d_M_isRight_92 : decode b_M_isRight 92 = .ok (.aload_n 0, 1) := by decide +kernel
theorem d_M_isRight_93 : decode b_M_isRight 93 = .ok (.getfield 9, 3) := by decide +kernel
theorem d_M_isRight_96 : decode b_M_isRight 96 = .ok (.iload 5, 2) := by decide +kernel
theorem d_M_isRight_98 : decode b_M_isRight 98 = .ok (.iaload, 1) := by decide +kernel
theorem d_M_isRight_99 : decode b_M_isRight 99 = .ok (.aload_n 0, 1) := by decide +kernel
theorem d_M_isRight_100 : decode b_M_isRight 100 = .ok (.getfield 39, 3) := by decide +kernel
theorem d_M_isRight_103 : decode b_M_isRight 103 = .ok (.iload_n 1, 1) := by decide +kernel
theorem d_M_isRight_104 : decode b_M_isRight 104 = .ok (.iaload, 1) := by decide +kernel
theorem d_M_isRight_105 : decode b_M_isRight 105 = .ok (.if_icmp .eq 28, 3) := by decide +kernel
theorem d_M_isRight_108 : decode b_M_isRight 108 = .ok (.aload_n 0, 1) := by decide +kernel
theorem d_M_isRight_109 : decode b_M_isRight 109 = .ok (.getfield 33, 3) := by decide +kernel
theorem d_M_isRight_112 : decode b_M_isRight 112 = .ok (.bipush 16, 2) := by decide +kernel
theorem d_M_isRight_114 : decode b_M_isRight 114 = .ok (.aload_n 0, 1) := by decide +kernel
theorem d_M_isRight_115 : decode b_M_isRight 115 = .ok (.getfield 39, 3) := by decide +kernel
theorem d_M_isRight_118 : decode b_M_isRight 118 = .ok (.iload_n 1, 1) := by decide +kernel
theorem d_M_isRight_119 : decode b_M_isRight 119 = .ok (.iaload, 1) := by decide +kernel
theorem d_M_isRight_120 : decode b_M_isRight 120 = .ok (.imul, 1) := by decide +kernel
theorem d_M_isRight_121 : decode b_M_isRight 121 = .ok (.aload_n 0, 1) := by decide +kernel
theorem d_M_isRight_122 : decode b_M_isRight 122 = .ok (.getfield 9, 3) := by decide +kernel
theorem d_M_isRight_125 : decode b_M_isRight 125 = .ok (.iload 5, 2) := by decide +kernel
theorem d_M_isRight_127 : decode b_M_isRight 127 = .ok (.iaload, 1) := by decide +kernel
theorem d_M_isRight_128 : decode b_M_isRight 128 = .ok (.iadd, 1) := by decide +kernel
theorem d_M_isRight_129 : decode b_M_isRight 129 = .ok (.baload, 1) := by decide +kernel
theorem d_M_isRight_130 : decode b_M_isRight 130 = .ok (.ifCond .eq 7, 3) := by decide +kernel
theorem d_M_isRight_133 : decode b_M_isRight 133 = .ok (.iconst 1, 1) := by decide +kernel
theorem d_M_isRight_134 : decode b_M_isRight 134 = .ok (.goto 4, 3) := by decide +kernel
theorem d_M_isRight_137 : decode b_M_isRight 137 = .ok (.iconst 0, 1) := by decide +kernel
theorem d_M_isRight_138 : decode b_M_isRight 138 = .ok (.istore 4, 2) := by decide +kernel
theorem d_M_isRight_140 : decode b_M_isRight 140 = .ok (.iinc 5 1, 3) := by decide +kernel
theorem d_M_isRight_143 : decode b_M_isRight 143 = .ok (.goto (-84), 3) := by decide +kernel
theorem d_M_isRight_146 : decode b_M_isRight 146 = .ok (.iload 4, 2) := by decide +kernel
theorem d_M_isRight_148 : decode b_M_isRight 148 = .ok (.ireturn, 1) := by decide +kernel
abbrev b_M_check : ByteArray := prog_6_method_20_code
def y_M_check : MethodName := ⟨"SeatProofsModel", "check", "()I"⟩
abbrev w_M_check : List Cond := .code y_M_check b_M_check 5 (some .int) :: gT
theorem d_M_check_0 : decode b_M_check 0 = .ok (.aload_n 0, 1) := by decide +kernel
theorem d_M_check_1 : decode b_M_check 1 = .ok (.iconst 0, 1) := by decide +kernel
theorem d_M_check_2 : decode b_M_check 2 = .ok (.putfield 54, 3) := by decide +kernel
theorem d_M_check_5 : decode b_M_check 5 = .ok (.iconst 0, 1) := by decide +kernel
theorem d_M_check_6 : decode b_M_check 6 = .ok (.istore_n 1, 1) := by decide +kernel
theorem d_M_check_7 : decode b_M_check 7 = .ok (.iload_n 1, 1) := by decide +kernel
theorem d_M_check_8 : decode b_M_check 8 = .ok (.aload_n 0, 1) := by decide +kernel
theorem d_M_check_9 : decode b_M_check 9 = .ok (.getfield 61, 3) := by decide +kernel
theorem d_M_check_12 : decode b_M_check 12 = .ok (.if_icmp .ge 21, 3) := by decide +kernel
theorem d_M_check_15 : decode b_M_check 15 = .ok (.aload_n 0, 1) := by decide +kernel
theorem d_M_check_16 : decode b_M_check 16 = .ok (.iload_n 1, 1) := by decide +kernel
theorem d_M_check_17 : decode b_M_check 17 = .ok (.invokevirtual 101, 3) := by decide +kernel
theorem d_M_check_20 : decode b_M_check 20 = .ok (.ifCond .ne 7, 3) := by decide +kernel
theorem d_M_check_23 : decode b_M_check 23 = .ok (.iload_n 1, 1) := by decide +kernel
theorem d_M_check_24 : decode b_M_check 24 = .ok (.iconst 1, 1) := by decide +kernel
theorem d_M_check_25 : decode b_M_check 25 = .ok (.iadd, 1) := by decide +kernel
theorem d_M_check_26 : decode b_M_check 26 = .ok (.ireturn, 1) := by decide +kernel
theorem d_M_check_27 : decode b_M_check 27 = .ok (.iinc 1 1, 3) := by decide +kernel
theorem d_M_check_30 : decode b_M_check 30 = .ok (.goto (-23), 3) := by decide +kernel
theorem d_M_check_33 : decode b_M_check 33 = .ok (.iconst 0, 1) := by decide +kernel
theorem d_M_check_34 : decode b_M_check 34 = .ok (.istore_n 1, 1) := by decide +kernel
theorem d_M_check_35 : decode b_M_check 35 = .ok (.iload_n 1, 1) := by decide +kernel
theorem d_M_check_36 : decode b_M_check 36 = .ok (.aload_n 0, 1) := by decide +kernel
theorem d_M_check_37 : decode b_M_check 37 = .ok (.getfield 68, 3) := by decide +kernel
theorem d_M_check_40 : decode b_M_check 40 = .ok (.if_icmp .gt 98, 3) := by decide +kernel
theorem d_M_check_43 : decode b_M_check 43 = .ok (.iconst 1, 1) := by decide +kernel
theorem d_M_check_44 : decode b_M_check 44 = .ok (.istore_n 2, 1) := by decide +kernel
theorem d_M_check_45 : decode b_M_check 45 = .ok (.iload_n 2, 1) := by decide +kernel
theorem d_M_check_46 : decode b_M_check 46 = .ok (.bipush 16, 2) := by decide +kernel
theorem d_M_check_48 : decode b_M_check 48 = .ok (.if_icmp .ge 84, 3) := by decide +kernel
theorem d_M_check_51 : decode b_M_check 51 = .ok (.aload_n 0, 1) := by decide +kernel
theorem d_M_check_52 : decode b_M_check 52 = .ok (.iload_n 2, 1) := by decide +kernel
theorem d_M_check_53 : decode b_M_check 53 = .ok (.invokevirtual 83, 3) := by decide +kernel
theorem d_M_check_56 : decode b_M_check 56 = .ok (.ifCond .ne 7, 3) := by decide +kernel
theorem d_M_check_59 : decode b_M_check 59 = .ok (.iconst 1, 1) := by decide +kernel
theorem d_M_check_60 : decode b_M_check 60 = .ok (.goto 4, 3) := by decide +kernel
theorem d_M_check_63 : decode b_M_check 63 = .ok (.iconst 0, 1) := by decide +kernel
theorem d_M_check_64 : decode b_M_check 64 = .ok (.istore_n 3, 1) := by decide +kernel
theorem d_M_check_65 : decode b_M_check 65 = .ok (.iconst 0, 1) := by decide +kernel
theorem d_M_check_66 : decode b_M_check 66 = .ok (.istore 4, 2) := by decide +kernel
theorem d_M_check_68 : decode b_M_check 68 = .ok (.iload 4, 2) := by decide +kernel
theorem d_M_check_70 : decode b_M_check 70 = .ok (.aload_n 0, 1) := by decide +kernel
theorem d_M_check_71 : decode b_M_check 71 = .ok (.getfield 61, 3) := by decide +kernel
theorem d_M_check_74 : decode b_M_check 74 = .ok (.if_icmp .ge 41, 3) := by decide +kernel
theorem d_M_check_77 : decode b_M_check 77 = .ok (.iload_n 3, 1) := by decide +kernel
theorem d_M_check_78 : decode b_M_check 78 = .ok (.ifCond .ne 37, 3) := by decide +kernel
theorem d_M_check_81 : decode b_M_check 81 = .ok (.aload_n 0, 1) := by decide +kernel
theorem d_M_check_82 : decode b_M_check 82 = .ok (.getfield 36, 3) := by decide +kernel
theorem d_M_check_85 : decode b_M_check 85 = .ok (.iload 4, 2) := by decide +kernel
theorem d_M_check_87 : decode b_M_check 87 = .ok (.iaload, 1) := by decide +kernel
theorem d_M_check_88 : decode b_M_check 88 = .ok (.iload_n 1, 1) := by decide +kernel
theorem d_M_check_89 : decode b_M_check 89 = .ok (.if_icmp .ne 18, 3) := by decide +kernel
theorem d_M_check_92 : decode b_M_check 92 = .ok (.aload_n 0, 1) := by decide +kernel
theorem d_M_check_93 : decode b_M_check 93 = .ok (.getfield 39, 3) := by decide +kernel
theorem d_M_check_96 : decode b_M_check 96 = .ok (.iload 4, 2) := by decide +kernel
theorem d_M_check_98 : decode b_M_check 98 = .ok (.iaload, 1) := by decide +kernel
theorem d_M_check_99 : decode b_M_check 99 = .ok (.iload_n 2, 1) := by decide +kernel
theorem d_M_check_100 : decode b_M_check 100 = .ok (.if_icmp .ne 7, 3) := by decide +kernel
theorem d_M_check_103 : decode b_M_check 103 = .ok (.iconst 1, 1) := by decide +kernel
theorem d_M_check_104 : decode b_M_check 104 = .ok (.goto 4, 3) := by decide +kernel
theorem d_M_check_107 : decode b_M_check 107 = .ok (.iconst 0, 1) := by decide +kernel
theorem d_M_check_108 : decode b_M_check 108 = .ok (.istore_n 3, 1) := by decide +kernel
theorem d_M_check_109 : decode b_M_check 109 = .ok (.iinc 4 1, 3) := by decide +kernel
theorem d_M_check_112 : decode b_M_check 112 = .ok (.goto (-44), 3) := by decide +kernel
theorem d_M_check_115 : decode b_M_check 115 = .ok (.iload_n 3, 1) := by decide +kernel
theorem d_M_check_116 : decode b_M_check 116 = .ok (.ifCond .ne 10, 3) := by decide +kernel
theorem d_M_check_119 : decode b_M_check 119 = .ok (.aload_n 0, 1) := by decide +kernel
theorem d_M_check_120 : decode b_M_check 120 = .ok (.getfield 61, 3) := by decide +kernel
theorem d_M_check_123 : decode b_M_check 123 = .ok (.iconst 1, 1) := by decide +kernel
theorem d_M_check_124 : decode b_M_check 124 = .ok (.iadd, 1) := by decide +kernel
theorem d_M_check_125 : decode b_M_check 125 = .ok (.ireturn, 1) := by decide +kernel
theorem d_M_check_126 : decode b_M_check 126 = .ok (.iinc 2 1, 3) := by decide +kernel
theorem d_M_check_129 : decode b_M_check 129 = .ok (.goto (-84), 3) := by decide +kernel
theorem d_M_check_132 : decode b_M_check 132 = .ok (.iinc 1 1, 3) := by decide +kernel
theorem d_M_check_135 : decode b_M_check 135 = .ok (.goto (-100), 3) := by decide +kernel
theorem d_M_check_138 : decode b_M_check 138 = .ok (.iconst 0, 1) := by decide +kernel
theorem d_M_check_139 : decode b_M_check 139 = .ok (.ireturn, 1) := by decide +kernel
abbrev b_M_set : ByteArray := prog_6_method_21_code
def y_M_set : MethodName := ⟨"SeatProofsModel", "set", "(IZ)Z"⟩
abbrev w_M_set : List Cond := .code y_M_set b_M_set 6 (some .boolean) :: gT
theorem d_M_set_0 : decode b_M_set 0 = .ok (.aload_n 0, 1) := by decide +kernel
theorem d_M_set_1 : decode b_M_set 1 = .ok (.iload_n 1, 1) := by decide +kernel
theorem d_M_set_2 : decode b_M_set 2 = .ok (.ifCond .lt 11, 3) := by decide +kernel
theorem d_M_set_5 : decode b_M_set 5 = .ok (.iload_n 1, 1) := by decide +kernel
theorem d_M_set_6 : decode b_M_set 6 = .ok (.aload_n 0, 1) := by decide +kernel
theorem d_M_set_7 : decode b_M_set 7 = .ok (.getfield 68, 3) := by decide +kernel
theorem d_M_set_10 : decode b_M_set 10 = .ok (.if_icmp .lt 7, 3) := by decide +kernel
theorem d_M_set_13 : decode b_M_set 13 = .ok (.iconst 1, 1) := by decide +kernel
theorem d_M_set_14 : decode b_M_set 14 = .ok (.goto 4, 3) := by decide +kernel
theorem d_M_set_17 : decode b_M_set 17 = .ok (.iconst 0, 1) := by decide +kernel
theorem d_M_set_18 : decode b_M_set 18 = .ok (.putfield 54, 3) := by decide +kernel
theorem d_M_set_21 : decode b_M_set 21 = .ok (.aload_n 0, 1) := by decide +kernel
theorem d_M_set_22 : decode b_M_set 22 = .ok (.getfield 54, 3) := by decide +kernel
theorem d_M_set_25 : decode b_M_set 25 = .ok (.ifCond .le 5, 3) := by decide +kernel
theorem d_M_set_28 : decode b_M_set 28 = .ok (.iconst 0, 1) := by decide +kernel
theorem d_M_set_29 : decode b_M_set 29 = .ok (.ireturn, 1) := by decide +kernel
theorem d_M_set_30 : decode b_M_set 30 = .ok (.aload_n 0, 1) := by decide +kernel
theorem d_M_set_31 : decode b_M_set 31 = .ok (.iconst 0, 1) := by decide +kernel
theorem d_M_set_32 : decode b_M_set 32 = .ok (.putfield 104, 3) := by decide +kernel
theorem d_M_set_35 : decode b_M_set 35 = .ok (.aload_n 0, 1) := by decide +kernel
theorem d_M_set_36 : decode b_M_set 36 = .ok (.getfield 26, 3) := by decide +kernel
theorem d_M_set_39 : decode b_M_set 39 = .ok (.iload_n 1, 1) := by decide +kernel
theorem d_M_set_40 : decode b_M_set 40 = .ok (.iload_n 2, 1) := by decide +kernel
theorem d_M_set_41 : decode b_M_set 41 = .ok (.bastore, 1) := by decide +kernel
theorem d_M_set_42 : decode b_M_set 42 = .ok (.iconst 0, 1) := by decide +kernel
theorem d_M_set_43 : decode b_M_set 43 = .ok (.istore_n 3, 1) := by decide +kernel
theorem d_M_set_44 : decode b_M_set 44 = .ok (.iload_n 3, 1) := by decide +kernel
theorem d_M_set_45 : decode b_M_set 45 = .ok (.aload_n 0, 1) := by decide +kernel
theorem d_M_set_46 : decode b_M_set 46 = .ok (.getfield 61, 3) := by decide +kernel
theorem d_M_set_49 : decode b_M_set 49 = .ok (.if_icmp .ge 111, 3) := by decide +kernel
theorem d_M_set_52 : decode b_M_set 52 = .ok (.aload_n 0, 1) := by decide +kernel
theorem d_M_set_53 : decode b_M_set 53 = .ok (.getfield 36, 3) := by decide +kernel
theorem d_M_set_56 : decode b_M_set 56 = .ok (.iload_n 3, 1) := by decide +kernel
theorem d_M_set_57 : decode b_M_set 57 = .ok (.iaload, 1) := by decide +kernel
theorem d_M_set_58 : decode b_M_set 58 = .ok (.iload_n 1, 1) := by decide +kernel
theorem d_M_set_59 : decode b_M_set 59 = .ok (.iconst 1, 1) := by decide +kernel
theorem d_M_set_60 : decode b_M_set 60 = .ok (.iadd, 1) := by decide +kernel
theorem d_M_set_61 : decode b_M_set 61 = .ok (.if_icmp .eq 39, 3) := by decide +kernel
theorem d_M_set_64 : decode b_M_set 64 = .ok (.aload_n 0, 1) := by decide +kernel
theorem d_M_set_65 : decode b_M_set 65 = .ok (.getfield 42, 3) := by decide +kernel
theorem d_M_set_68 : decode b_M_set 68 = .ok (.iload_n 3, 1) := by decide +kernel
theorem d_M_set_69 : decode b_M_set 69 = .ok (.laload, 1) := by decide +kernel
theorem d_M_set_70 : decode b_M_set 70 = .ok (.aload_n 0, 1) := by decide +kernel
theorem d_M_set_71 : decode b_M_set 71 = .ok (.getfield 17, 3) := by decide +kernel
theorem d_M_set_74 : decode b_M_set 74 = .ok (.iload_n 1, 1) := by decide +kernel
theorem d_M_set_75 : decode b_M_set 75 = .ok (.iaload, 1) := by decide +kernel
theorem d_M_set_76 : decode b_M_set 76 = .ok (.invokestatic 75, 3) := by decide +kernel
theorem d_M_set_79 : decode b_M_set 79 = .ok (.ifCond .ne 21, 3) := by decide +kernel
theorem d_M_set_82 : decode b_M_set 82 = .ok (.aload_n 0, 1) := by decide +kernel
theorem d_M_set_83 : decode b_M_set 83 = .ok (.getfield 42, 3) := by decide +kernel
theorem d_M_set_86 : decode b_M_set 86 = .ok (.iload_n 3, 1) := by decide +kernel
theorem d_M_set_87 : decode b_M_set 87 = .ok (.laload, 1) := by decide +kernel
theorem d_M_set_88 : decode b_M_set 88 = .ok (.aload_n 0, 1) := by decide +kernel
theorem d_M_set_89 : decode b_M_set 89 = .ok (.getfield 20, 3) := by decide +kernel
theorem d_M_set_92 : decode b_M_set 92 = .ok (.iload_n 1, 1) := by decide +kernel
theorem d_M_set_93 : decode b_M_set 93 = .ok (.iaload, 1) := by decide +kernel
theorem d_M_set_94 : decode b_M_set 94 = .ok (.invokestatic 75, 3) := by decide +kernel
theorem d_M_set_97 : decode b_M_set 97 = .ok (.ifCond .eq 57, 3) := by decide +kernel
theorem d_M_set_100 : decode b_M_set 100 = .ok (.aload_n 0, 1) := by decide +kernel
theorem d_M_set_101 : decode b_M_set 101 = .ok (.getfield 42, 3) := by decide +kernel
theorem d_M_set_104 : decode b_M_set 104 = .ok (.iload_n 3, 1) := by decide +kernel
theorem d_M_set_105 : decode b_M_set 105 = .ok (.aload_n 0, 1) := by decide +kernel
theorem d_M_set_106 : decode b_M_set 106 = .ok (.aload_n 0, 1) := by decide +kernel
theorem d_M_set_107 : decode b_M_set 107 = .ok (.getfield 39, 3) := by decide +kernel
theorem d_M_set_110 : decode b_M_set 110 = .ok (.iload_n 3, 1) := by decide +kernel
theorem d_M_set_111 : decode b_M_set 111 = .ok (.iaload, 1) := by decide +kernel
theorem d_M_set_112 : decode b_M_set 112 = .ok (.aload_n 0, 1) := by decide +kernel
theorem d_M_set_113 : decode b_M_set 113 = .ok (.getfield 36, 3) := by decide +kernel
theorem d_M_set_116 : decode b_M_set 116 = .ok (.iload_n 3, 1) := by decide +kernel
theorem d_M_set_117 : decode b_M_set 117 = .ok (.iaload, 1) := by decide +kernel
theorem d_M_set_118 : decode b_M_set 118 = .ok (.invokevirtual 86, 3) := by decide +kernel
theorem d_M_set_121 : decode b_M_set 121 = .ok (.lastore, 1) := by decide +kernel
theorem d_M_set_122 : decode b_M_set 122 = .ok (.aload_n 0, 1) := by decide +kernel
theorem d_M_set_123 : decode b_M_set 123 = .ok (.getfield 45, 3) := by decide +kernel
theorem d_M_set_126 : decode b_M_set 126 = .ok (.iload_n 3, 1) := by decide +kernel
theorem d_M_set_127 : decode b_M_set 127 = .ok (.aload_n 0, 1) := by decide +kernel
theorem d_M_set_128 : decode b_M_set 128 = .ok (.aload_n 0, 1) := by decide +kernel
theorem d_M_set_129 : decode b_M_set 129 = .ok (.getfield 42, 3) := by decide +kernel
theorem d_M_set_132 : decode b_M_set 132 = .ok (.iload_n 3, 1) := by decide +kernel
theorem d_M_set_133 : decode b_M_set 133 = .ok (.laload, 1) := by decide +kernel
theorem d_M_set_134 : decode b_M_set 134 = .ok (.aload_n 0, 1) := by decide +kernel
theorem d_M_set_135 : decode b_M_set 135 = .ok (.getfield 36, 3) := by decide +kernel
theorem d_M_set_138 : decode b_M_set 138 = .ok (.iload_n 3, 1) := by decide +kernel
theorem d_M_set_139 : decode b_M_set 139 = .ok (.iaload, 1) := by decide +kernel
theorem d_M_set_140 : decode b_M_set 140 = .ok (.invokevirtual 90, 3) := by decide +kernel
theorem d_M_set_143 : decode b_M_set 143 = .ok (.lastore, 1) := by decide +kernel
theorem d_M_set_144 : decode b_M_set 144 = .ok (.aload_n 0, 1) := by decide +kernel
theorem d_M_set_145 : decode b_M_set 145 = .ok (.dup, 1) := by decide +kernel
theorem d_M_set_146 : decode b_M_set 146 = .ok (.getfield 104, 3) := by decide +kernel
theorem d_M_set_149 : decode b_M_set 149 = .ok (.iconst 1, 1) := by decide +kernel
theorem d_M_set_150 : decode b_M_set 150 = .ok (.iadd, 1) := by decide +kernel
theorem d_M_set_151 : decode b_M_set 151 = .ok (.putfield 104, 3) := by decide +kernel
theorem d_M_set_154 : decode b_M_set 154 = .ok (.iinc 3 1, 3) := by decide +kernel
theorem d_M_set_157 : decode b_M_set 157 = .ok (.goto (-113), 3) := by decide +kernel
theorem d_M_set_160 : decode b_M_set 160 = .ok (.aload_n 0, 1) := by decide +kernel
theorem d_M_set_161 : decode b_M_set 161 = .ok (.getfield 61, 3) := by decide +kernel
theorem d_M_set_164 : decode b_M_set 164 = .ok (.ifCond .le 7, 3) := by decide +kernel
theorem d_M_set_167 : decode b_M_set 167 = .ok (.iconst 1, 1) := by decide +kernel
theorem d_M_set_168 : decode b_M_set 168 = .ok (.goto 4, 3) := by decide +kernel
theorem d_M_set_171 : decode b_M_set 171 = .ok (.iconst 0, 1) := by decide +kernel
theorem d_M_set_172 : decode b_M_set 172 = .ok (.istore_n 3, 1) := by decide +kernel
theorem d_M_set_173 : decode b_M_set 173 = .ok (.iconst 0, 1) := by decide +kernel
theorem d_M_set_174 : decode b_M_set 174 = .ok (.istore 4, 2) := by decide +kernel
theorem d_M_set_176 : decode b_M_set 176 = .ok (.iload 4, 2) := by decide +kernel
theorem d_M_set_178 : decode b_M_set 178 = .ok (.aload_n 0, 1) := by decide +kernel
theorem d_M_set_179 : decode b_M_set 179 = .ok (.getfield 61, 3) := by decide +kernel
theorem d_M_set_182 : decode b_M_set 182 = .ok (.if_icmp .ge 107, 3) := by decide +kernel
theorem d_M_set_185 : decode b_M_set 185 = .ok (.iload_n 3, 1) := by decide +kernel
theorem d_M_set_186 : decode b_M_set 186 = .ok (.ifCond .eq 103, 3) := by decide +kernel
theorem d_M_set_189 : decode b_M_set 189 = .ok (.iload 4, 2) := by decide +kernel
theorem d_M_set_191 : decode b_M_set 191 = .ok (.iconst 1, 1) := by decide +kernel
theorem d_M_set_192 : decode b_M_set 192 = .ok (.iadd, 1) := by decide +kernel
theorem d_M_set_193 : decode b_M_set 193 = .ok (.istore 5, 2) := by decide +kernel
theorem d_M_set_195 : decode b_M_set 195 = .ok (.iload 5, 2) := by decide +kernel
theorem d_M_set_197 : decode b_M_set 197 = .ok (.aload_n 0, 1) := by decide +kernel
theorem d_M_set_198 : decode b_M_set 198 = .ok (.getfield 61, 3) := by decide +kernel
theorem d_M_set_201 : decode b_M_set 201 = .ok (.if_icmp .ge 82, 3) := by decide +kernel
theorem d_M_set_204 : decode b_M_set 204 = .ok (.iload_n 3, 1) := by decide +kernel
theorem d_M_set_205 : decode b_M_set 205 = .ok (.ifCond .eq 78, 3) := by decide +kernel
theorem d_M_set_208 : decode b_M_set 208 = .ok (.aload_n 0, 1) := by decide +kernel
theorem d_M_set_209 : decode b_M_set 209 = .ok (.getfield 36, 3) := by decide +kernel
theorem d_M_set_212 : decode b_M_set 212 = .ok (.iload 4, 2) := by decide +kernel
theorem d_M_set_214 : decode b_M_set 214 = .ok (.iaload, 1) := by decide +kernel
theorem d_M_set_215 : decode b_M_set 215 = .ok (.aload_n 0, 1) := by decide +kernel
theorem d_M_set_216 : decode b_M_set 216 = .ok (.getfield 36, 3) := by decide +kernel
theorem d_M_set_219 : decode b_M_set 219 = .ok (.iload 5, 2) := by decide +kernel
theorem d_M_set_221 : decode b_M_set 221 = .ok (.iaload, 1) := by decide +kernel
theorem d_M_set_222 : decode b_M_set 222 = .ok (.if_icmp .ne 49, 3) := by decide +kernel
theorem d_M_set_225 : decode b_M_set 225 = .ok (.aload_n 0, 1) := by decide +kernel
theorem d_M_set_226 : decode b_M_set 226 = .ok (.getfield 42, 3) := by decide +kernel
theorem d_M_set_229 : decode b_M_set 229 = .ok (.iload 4, 2) := by decide +kernel
theorem d_M_set_231 : decode b_M_set 231 = .ok (.laload, 1) := by decide +kernel
theorem d_M_set_232 : decode b_M_set 232 = .ok (.aload_n 0, 1) := by decide +kernel
theorem d_M_set_233 : decode b_M_set 233 = .ok (.getfield 42, 3) := by decide +kernel
theorem d_M_set_236 : decode b_M_set 236 = .ok (.iload 5, 2) := by decide +kernel
theorem d_M_set_238 : decode b_M_set 238 = .ok (.laload, 1) := by decide +kernel
theorem d_M_set_239 : decode b_M_set 239 = .ok (.land, 1) := by decide +kernel
theorem d_M_set_240 : decode b_M_set 240 = .ok (.lconst 0, 1) := by decide +kernel
theorem d_M_set_241 : decode b_M_set 241 = .ok (.lcmp, 1) := by decide +kernel
theorem d_M_set_242 : decode b_M_set 242 = .ok (.ifCond .eq 29, 3) := by decide +kernel
theorem d_M_set_245 : decode b_M_set 245 = .ok (.aload_n 0, 1) := by decide +kernel
theorem d_M_set_246 : decode b_M_set 246 = .ok (.getfield 33, 3) := by decide +kernel
theorem d_M_set_249 : decode b_M_set 249 = .ok (.bipush 16, 2) := by decide +kernel
theorem d_M_set_251 : decode b_M_set 251 = .ok (.aload_n 0, 1) := by decide +kernel
theorem d_M_set_252 : decode b_M_set 252 = .ok (.getfield 39, 3) := by decide +kernel
theorem d_M_set_255 : decode b_M_set 255 = .ok (.iload 4, 2) := by decide +kernel
theorem d_M_set_257 : decode b_M_set 257 = .ok (.iaload, 1) := by decide +kernel
theorem d_M_set_258 : decode b_M_set 258 = .ok (.imul, 1) := by decide +kernel
theorem d_M_set_259 : decode b_M_set 259 = .ok (.aload_n 0, 1) := by decide +kernel
theorem d_M_set_260 : decode b_M_set 260 = .ok (.getfield 39, 3) := by decide +kernel
theorem d_M_set_263 : decode b_M_set 263 = .ok (.iload 5, 2) := by decide +kernel
theorem d_M_set_265 : decode b_M_set 265 = .ok (.iaload, 1) := by decide +kernel
theorem d_M_set_266 : decode b_M_set 266 = .ok (.iadd, 1) := by decide +kernel
theorem d_M_set_267 : decode b_M_set 267 = .ok (.baload, 1) := by decide +kernel
theorem d_M_set_268 : decode b_M_set 268 = .ok (.ifCond .eq 7, 3) := by decide +kernel
theorem d_M_set_271 : decode b_M_set 271 = .ok (.iconst 1, 1) := by decide +kernel
theorem d_M_set_272 : decode b_M_set 272 = .ok (.goto 4, 3) := by decide +kernel
theorem d_M_set_275 : decode b_M_set 275 = .ok (.iconst 0, 1) := by decide +kernel
theorem d_M_set_276 : decode b_M_set 276 = .ok (.istore_n 3, 1) := by decide +kernel
theorem d_M_set_277 : decode b_M_set 277 = .ok (.iinc 5 1, 3) := by decide +kernel
theorem d_M_set_280 : decode b_M_set 280 = .ok (.goto (-85), 3) := by decide +kernel
theorem d_M_set_283 : decode b_M_set 283 = .ok (.iinc 4 1, 3) := by decide +kernel
theorem d_M_set_286 : decode b_M_set 286 = .ok (.goto (-110), 3) := by decide +kernel
theorem d_M_set_289 : decode b_M_set 289 = .ok (.aload_n 0, 1) := by decide +kernel
theorem d_M_set_290 : decode b_M_set 290 = .ok (.iload_n 3, 1) := by decide +kernel
theorem d_M_set_291 : decode b_M_set 291 = .ok (.ifCond .eq 10, 3) := by decide +kernel
theorem d_M_set_294 : decode b_M_set 294 = .ok (.aload_n 0, 1) := by decide +kernel
theorem d_M_set_295 : decode b_M_set 295 = .ok (.getfield 61, 3) := by decide +kernel
theorem d_M_set_298 : decode b_M_set 298 = .ok (.goto 4, 3) := by decide +kernel
theorem d_M_set_301 : decode b_M_set 301 = .ok (.iconst 0, 1) := by decide +kernel
theorem d_M_set_302 : decode b_M_set 302 = .ok (.putfield 61, 3) := by decide +kernel
theorem d_M_set_305 : decode b_M_set 305 = .ok (.iload_n 3, 1) := by decide +kernel
theorem d_M_set_306 : decode b_M_set 306 = .ok (.ireturn, 1) := by decide +kernel
abbrev b_M_unsure : ByteArray := prog_6_method_22_code
def y_M_unsure : MethodName := ⟨"SeatProofsModel", "unsure", "(IZ)Z"⟩
abbrev w_M_unsure : List Cond := .code y_M_unsure b_M_unsure 3 (some .boolean) :: gT
theorem d_M_unsure_0 : decode b_M_unsure 0 = .ok (.aload_n 0, 1) := by decide +kernel
theorem d_M_unsure_1 : decode b_M_unsure 1 = .ok (.iload_n 1, 1) := by decide +kernel
theorem d_M_unsure_2 : decode b_M_unsure 2 = .ok (.ifCond .lt 11, 3) := by decide +kernel
theorem d_M_unsure_5 : decode b_M_unsure 5 = .ok (.iload_n 1, 1) := by decide +kernel
theorem d_M_unsure_6 : decode b_M_unsure 6 = .ok (.aload_n 0, 1) := by decide +kernel
theorem d_M_unsure_7 : decode b_M_unsure 7 = .ok (.getfield 68, 3) := by decide +kernel
theorem d_M_unsure_10 : decode b_M_unsure 10 = .ok (.if_icmp .lt 7, 3) := by decide +kernel
theorem d_M_unsure_13 : decode b_M_unsure 13 = .ok (.iconst 1, 1) := by decide +kernel
theorem d_M_unsure_14 : decode b_M_unsure 14 = .ok (.goto 4, 3) := by decide +kernel
theorem d_M_unsure_17 : decode b_M_unsure 17 = .ok (.iconst 0, 1) := by decide +kernel
theorem d_M_unsure_18 : decode b_M_unsure 18 = .ok (.putfield 54, 3) := by decide +kernel
theorem d_M_unsure_21 : decode b_M_unsure 21 = .ok (.aload_n 0, 1) := by decide +kernel
theorem d_M_unsure_22 : decode b_M_unsure 22 = .ok (.getfield 54, 3) := by decide +kernel
theorem d_M_unsure_25 : decode b_M_unsure 25 = .ok (.ifCond .gt 13, 3) := by decide +kernel
theorem d_M_unsure_28 : decode b_M_unsure 28 = .ok (.aload_n 0, 1) := by decide +kernel
theorem d_M_unsure_29 : decode b_M_unsure 29 = .ok (.getfield 30, 3) := by decide +kernel
theorem d_M_unsure_32 : decode b_M_unsure 32 = .ok (.iload_n 1, 1) := by decide +kernel
theorem d_M_unsure_33 : decode b_M_unsure 33 = .ok (.baload, 1) := by decide +kernel
theorem d_M_unsure_34 : decode b_M_unsure 34 = .ok (.iload_n 2, 1) := by decide +kernel
theorem d_M_unsure_35 : decode b_M_unsure 35 = .ok (.if_icmp .ne 5, 3) := by decide +kernel
theorem d_M_unsure_38 : decode b_M_unsure 38 = .ok (.iconst 0, 1) := by decide +kernel
theorem d_M_unsure_39 : decode b_M_unsure 39 = .ok (.ireturn, 1) := by decide +kernel
theorem d_M_unsure_40 : decode b_M_unsure 40 = .ok (.aload_n 0, 1) := by decide +kernel
theorem d_M_unsure_41 : decode b_M_unsure 41 = .ok (.getfield 30, 3) := by decide +kernel
theorem d_M_unsure_44 : decode b_M_unsure 44 = .ok (.iload_n 1, 1) := by decide +kernel
theorem d_M_unsure_45 : decode b_M_unsure 45 = .ok (.iload_n 2, 1) := by decide +kernel
theorem d_M_unsure_46 : decode b_M_unsure 46 = .ok (.bastore, 1) := by decide +kernel
theorem d_M_unsure_47 : decode b_M_unsure 47 = .ok (.aload_n 0, 1) := by decide +kernel
theorem d_M_unsure_48 : decode b_M_unsure 48 = .ok (.iconst 0, 1) := by decide +kernel
theorem d_M_unsure_49 : decode b_M_unsure 49 = .ok (.putfield 61, 3) := by decide +kernel
theorem d_M_unsure_52 : decode b_M_unsure 52 = .ok (.iconst 1, 1) := by decide +kernel
theorem d_M_unsure_53 : decode b_M_unsure 53 = .ok (.ireturn, 1) := by decide +kernel
abbrev b_M_tested : ByteArray := prog_6_method_23_code
def y_M_tested : MethodName := ⟨"SeatProofsModel", "tested", "()I"⟩
abbrev w_M_tested : List Cond := .code y_M_tested b_M_tested 1 (some .int) :: gT
theorem d_M_tested_0 : decode b_M_tested 0 = .ok (.aload_n 0, 1) := by decide +kernel
theorem d_M_tested_1 : decode b_M_tested 1 = .ok (.iconst 0, 1) := by decide +kernel
theorem d_M_tested_2 : decode b_M_tested 2 = .ok (.putfield 54, 3) := by decide +kernel
theorem d_M_tested_5 : decode b_M_tested 5 = .ok (.aload_n 0, 1) := by decide +kernel
theorem d_M_tested_6 : decode b_M_tested 6 = .ok (.getfield 104, 3) := by decide +kernel
theorem d_M_tested_9 : decode b_M_tested 9 = .ok (.ireturn, 1) := by decide +kernel
abbrev b_M_drop : ByteArray := prog_6_method_24_code
def y_M_drop : MethodName := ⟨"SeatProofsModel", "drop", "(I)Z"⟩
abbrev w_M_drop : List Cond := .code y_M_drop b_M_drop 3 (some .boolean) :: gT
theorem d_M_drop_0 : decode b_M_drop 0 = .ok (.aload_n 0, 1) := by decide +kernel
theorem d_M_drop_1 : decode b_M_drop 1 = .ok (.iconst 0, 1) := by decide +kernel
theorem d_M_drop_2 : decode b_M_drop 2 = .ok (.putfield 54, 3) := by decide +kernel
theorem d_M_drop_5 : decode b_M_drop 5 = .ok (.iload_n 1, 1) := by decide +kernel
theorem d_M_drop_6 : decode b_M_drop 6 = .ok (.ifCond .lt 11, 3) := by decide +kernel
theorem d_M_drop_9 : decode b_M_drop 9 = .ok (.iload_n 1, 1) := by decide +kernel
theorem d_M_drop_10 : decode b_M_drop 10 = .ok (.aload_n 0, 1) := by decide +kernel
theorem d_M_drop_11 : decode b_M_drop 11 = .ok (.getfield 61, 3) := by decide +kernel
theorem d_M_drop_14 : decode b_M_drop 14 = .ok (.if_icmp .lt 5, 3) := by decide +kernel
theorem d_M_drop_17 : decode b_M_drop 17 = .ok (.iconst 0, 1) := by decide +kernel
theorem d_M_drop_18 : decode b_M_drop 18 = .ok (.ireturn, 1) := by decide +kernel
theorem d_M_drop_19 : decode b_M_drop 19 = .ok (.iload_n 1, 1) := by decide +kernel
theorem d_M_drop_20 : decode b_M_drop 20 = .ok (.istore_n 2, 1) := by decide +kernel
theorem d_M_drop_21 : decode b_M_drop 21 = .ok (.iload_n 2, 1) := by decide +kernel
theorem d_M_drop_22 : decode b_M_drop 22 = .ok (.iconst 1, 1) := by decide +kernel
theorem d_M_drop_23 : decode b_M_drop 23 = .ok (.iadd, 1) := by decide +kernel
theorem d_M_drop_24 : decode b_M_drop 24 = .ok (.aload_n 0, 1) := by decide +kernel
theorem d_M_drop_25 : decode b_M_drop 25 = .ok (.getfield 61, 3) := by decide +kernel
theorem d_M_drop_28 : decode b_M_drop 28 = .ok (.if_icmp .ge 65, 3) := by decide +kernel
theorem d_M_drop_31 : decode b_M_drop 31 = .ok (.aload_n 0, 1) := by decide +kernel
theorem d_M_drop_32 : decode b_M_drop 32 = .ok (.getfield 36, 3) := by decide +kernel
theorem d_M_drop_35 : decode b_M_drop 35 = .ok (.iload_n 2, 1) := by decide +kernel
theorem d_M_drop_36 : decode b_M_drop 36 = .ok (.aload_n 0, 1) := by decide +kernel
theorem d_M_drop_37 : decode b_M_drop 37 = .ok (.getfield 36, 3) := by decide +kernel
theorem d_M_drop_40 : decode b_M_drop 40 = .ok (.iload_n 2, 1) := by decide +kernel
theorem d_M_drop_41 : decode b_M_drop 41 = .ok (.iconst 1, 1) := by decide +kernel
theorem d_M_drop_42 : decode b_M_drop 42 = .ok (.iadd, 1) := by decide +kernel
theorem d_M_drop_43 : decode b_M_drop 43 = .ok (.iaload, 1) := by decide +kernel
theorem d_M_drop_44 : decode b_M_drop 44 = .ok (.iastore, 1) := by decide +kernel
theorem d_M_drop_45 : decode b_M_drop 45 = .ok (.aload_n 0, 1) := by decide +kernel
theorem d_M_drop_46 : decode b_M_drop 46 = .ok (.getfield 39, 3) := by decide +kernel
theorem d_M_drop_49 : decode b_M_drop 49 = .ok (.iload_n 2, 1) := by decide +kernel
theorem d_M_drop_50 : decode b_M_drop 50 = .ok (.aload_n 0, 1) := by decide +kernel
theorem d_M_drop_51 : decode b_M_drop 51 = .ok (.getfield 39, 3) := by decide +kernel
theorem d_M_drop_54 : decode b_M_drop 54 = .ok (.iload_n 2, 1) := by decide +kernel
theorem d_M_drop_55 : decode b_M_drop 55 = .ok (.iconst 1, 1) := by decide +kernel
theorem d_M_drop_56 : decode b_M_drop 56 = .ok (.iadd, 1) := by decide +kernel
theorem d_M_drop_57 : decode b_M_drop 57 = .ok (.iaload, 1) := by decide +kernel
theorem d_M_drop_58 : decode b_M_drop 58 = .ok (.iastore, 1) := by decide +kernel
theorem d_M_drop_59 : decode b_M_drop 59 = .ok (.aload_n 0, 1) := by decide +kernel
theorem d_M_drop_60 : decode b_M_drop 60 = .ok (.getfield 42, 3) := by decide +kernel
theorem d_M_drop_63 : decode b_M_drop 63 = .ok (.iload_n 2, 1) := by decide +kernel
theorem d_M_drop_64 : decode b_M_drop 64 = .ok (.aload_n 0, 1) := by decide +kernel
theorem d_M_drop_65 : decode b_M_drop 65 = .ok (.getfield 42, 3) := by decide +kernel
theorem d_M_drop_68 : decode b_M_drop 68 = .ok (.iload_n 2, 1) := by decide +kernel
theorem d_M_drop_69 : decode b_M_drop 69 = .ok (.iconst 1, 1) := by decide +kernel
theorem d_M_drop_70 : decode b_M_drop 70 = .ok (.iadd, 1) := by decide +kernel
theorem d_M_drop_71 : decode b_M_drop 71 = .ok (.laload, 1) := by decide +kernel
theorem d_M_drop_72 : decode b_M_drop 72 = .ok (.lastore, 1) := by decide +kernel
theorem d_M_drop_73 : decode b_M_drop 73 = .ok (.aload_n 0, 1) := by decide +kernel
theorem d_M_drop_74 : decode b_M_drop 74 = .ok (.getfield 45, 3) := by decide +kernel
theorem d_M_drop_77 : decode b_M_drop 77 = .ok (.iload_n 2, 1) := by decide +kernel
theorem d_M_drop_78 : decode b_M_drop 78 = .ok (.aload_n 0, 1) := by decide +kernel
theorem d_M_drop_79 : decode b_M_drop 79 = .ok (.getfield 45, 3) := by decide +kernel
theorem d_M_drop_82 : decode b_M_drop 82 = .ok (.iload_n 2, 1) := by decide +kernel
theorem d_M_drop_83 : decode b_M_drop 83 = .ok (.iconst 1, 1) := by decide +kernel
theorem d_M_drop_84 : decode b_M_drop 84 = .ok (.iadd, 1) := by decide +kernel
theorem d_M_drop_85 : decode b_M_drop 85 = .ok (.laload, 1) := by decide +kernel
theorem d_M_drop_86 : decode b_M_drop 86 = .ok (.lastore, 1) := by decide +kernel
theorem d_M_drop_87 : decode b_M_drop 87 = .ok (.iinc 2 1, 3) := by decide +kernel
theorem d_M_drop_90 : decode b_M_drop 90 = .ok (.goto (-69), 3) := by decide +kernel
theorem d_M_drop_93 : decode b_M_drop 93 = .ok (.aload_n 0, 1) := by decide +kernel
theorem d_M_drop_94 : decode b_M_drop 94 = .ok (.dup, 1) := by decide +kernel
theorem d_M_drop_95 : decode b_M_drop 95 = .ok (.getfield 61, 3) := by decide +kernel
theorem d_M_drop_98 : decode b_M_drop 98 = .ok (.iconst 1, 1) := by decide +kernel
theorem d_M_drop_99 : decode b_M_drop 99 = .ok (.isub, 1) := by decide +kernel
theorem d_M_drop_100 : decode b_M_drop 100 = .ok (.putfield 61, 3) := by decide +kernel
theorem d_M_drop_103 : decode b_M_drop 103 = .ok (.iconst 1, 1) := by decide +kernel
theorem d_M_drop_104 : decode b_M_drop 104 = .ok (.ireturn, 1) := by decide +kernel
abbrev b_M_clear : ByteArray := prog_6_method_25_code
def y_M_clear : MethodName := ⟨"SeatProofsModel", "clear", "()V"⟩
abbrev w_M_clear : List Cond := .code y_M_clear b_M_clear 2 none :: gT
theorem d_M_clear_0 : decode b_M_clear 0 = .ok (.aload_n 0, 1) := by decide +kernel
theorem d_M_clear_1 : decode b_M_clear 1 = .ok (.iconst 0, 1) := by decide +kernel
theorem d_M_clear_2 : decode b_M_clear 2 = .ok (.putfield 54, 3) := by decide +kernel
theorem d_M_clear_5 : decode b_M_clear 5 = .ok (.iconst 0, 1) := by decide +kernel
theorem d_M_clear_6 : decode b_M_clear 6 = .ok (.istore_n 1, 1) := by decide +kernel
theorem d_M_clear_7 : decode b_M_clear 7 = .ok (.iload_n 1, 1) := by decide +kernel
theorem d_M_clear_8 : decode b_M_clear 8 = .ok (.sipush 256, 3) := by decide +kernel
theorem d_M_clear_11 : decode b_M_clear 11 = .ok (.if_icmp .ge 16, 3) := by decide +kernel
theorem d_M_clear_14 : decode b_M_clear 14 = .ok (.aload_n 0, 1) := by decide +kernel
theorem d_M_clear_15 : decode b_M_clear 15 = .ok (.getfield 33, 3) := by decide +kernel
theorem d_M_clear_18 : decode b_M_clear 18 = .ok (.iload_n 1, 1) := by decide +kernel
theorem d_M_clear_19 : decode b_M_clear 19 = .ok (.iconst 0, 1) := by decide +kernel
theorem d_M_clear_20 : decode b_M_clear 20 = .ok (.bastore, 1) := by decide +kernel
theorem d_M_clear_21 : decode b_M_clear 21 = .ok (.iinc 1 1, 3) := by decide +kernel
theorem d_M_clear_24 : decode b_M_clear 24 = .ok (.goto (-17), 3) := by decide +kernel
theorem d_M_clear_27 : decode b_M_clear 27 = .ok (.aload_n 0, 1) := by decide +kernel
theorem d_M_clear_28 : decode b_M_clear 28 = .ok (.iconst 0, 1) := by decide +kernel
theorem d_M_clear_29 : decode b_M_clear 29 = .ok (.putfield 58, 3) := by decide +kernel
theorem d_M_clear_32 : decode b_M_clear 32 = .ok (.aload_n 0, 1) := by decide +kernel
theorem d_M_clear_33 : decode b_M_clear 33 = .ok (.iconst 0, 1) := by decide +kernel
theorem d_M_clear_34 : decode b_M_clear 34 = .ok (.putfield 68, 3) := by decide +kernel
theorem d_M_clear_37 : decode b_M_clear 37 = .ok (.aload_n 0, 1) := by decide +kernel
theorem d_M_clear_38 : decode b_M_clear 38 = .ok (.iconst 0, 1) := by decide +kernel
theorem d_M_clear_39 : decode b_M_clear 39 = .ok (.putfield 61, 3) := by decide +kernel
theorem d_M_clear_42 : decode b_M_clear 42 = .ok (.aload_n 0, 1) := by decide +kernel
theorem d_M_clear_43 : decode b_M_clear 43 = .ok (.iconst 0, 1) := by decide +kernel
theorem d_M_clear_44 : decode b_M_clear 44 = .ok (.putfield 79, 3) := by decide +kernel
theorem d_M_clear_47 : decode b_M_clear 47 = .ok (.aload_n 0, 1) := by decide +kernel
theorem d_M_clear_48 : decode b_M_clear 48 = .ok (.iconst 0, 1) := by decide +kernel
theorem d_M_clear_49 : decode b_M_clear 49 = .ok (.putfield 104, 3) := by decide +kernel
theorem d_M_clear_52 : decode b_M_clear 52 = .ok (.return_, 1) := by decide +kernel
theorem gg_M_init : GoodIn gT w_M_init := good_c iw_438
theorem gg_M_thrown : GoodIn gT w_M_thrown := good_c iw_505
theorem gg_M_space : GoodIn gT w_M_space := good_c iw_509
theorem gg_M_isSpace : GoodIn gT w_M_isSpace := good_c iw_517
theorem gg_M_valve : GoodIn gT w_M_valve := good_c iw_513
theorem gg_M_level : GoodIn gT w_M_level := good_c iw_521
theorem gg_M_may : GoodIn gT w_M_may := good_c iw_525
theorem gg_M_lets : GoodIn gT w_M_lets := good_c iw_541
theorem gg_M_flood : GoodIn gT w_M_flood := good_c iw_537
theorem gg_M_has : GoodIn gT w_M_has := good_c iw_548
theorem gg_M_cut : GoodIn gT w_M_cut := good_c iw_545
theorem gg_M_isThere : GoodIn gT w_M_isThere := good_c iw_533
theorem gg_M_meet : GoodIn gT w_M_meet := good_c iw_552
theorem gg_M_safe : GoodIn gT w_M_safe := good_c iw_529
theorem gg_M_culprit : GoodIn gT w_M_culprit := good_c iw_556
theorem gg_M_rows : GoodIn gT w_M_rows := good_c iw_560
theorem gg_M_size : GoodIn gT w_M_size := good_c iw_567
theorem gg_M_row : GoodIn gT w_M_row := good_c iw_564
theorem gg_M_isRight : GoodIn gT w_M_isRight := good_c iw_575
theorem gg_M_check : GoodIn gT w_M_check := good_c iw_571
theorem gg_M_set : GoodIn gT w_M_set := good_c iw_579
theorem gg_M_unsure : GoodIn gT w_M_unsure := good_c iw_583
theorem gg_M_tested : GoodIn gT w_M_tested := good_c iw_587
theorem gg_M_drop : GoodIn gT w_M_drop := good_c iw_591
theorem gg_M_clear : GoodIn gT w_M_clear := good_c iw_595
end
section
abbrev MSt : Type := (Nat → Nat) × (Nat → Int64) × (Nat) × (Nat → Nat) × (Nat → Nat) × (Nat → Nat) × (Nat → Bool) × (Nat → Bool) × (Nat) × (Nat → Bool) × (Nat) × (Nat → Nat) × (Nat → Nat) × (Nat → Int64) × (Nat → Int64) × (Nat → Nat) × (Bool) × (Nat) × (Nat) × (Nat → Bool)
abbrev m_liq (u : MSt) : Nat → Nat := u.1
abbrev m_lev (u : MSt) : Nat → Int64 := u.2.1
abbrev m_nS (u : MSt) : Nat := u.2.2.1
abbrev m_fa (u : MSt) : Nat → Nat := u.2.2.2.1
abbrev m_fb (u : MSt) : Nat → Nat := u.2.2.2.2.1
abbrev m_seat (u : MSt) : Nat → Nat := u.2.2.2.2.2.1
abbrev m_op (u : MSt) : Nat → Bool := u.2.2.2.2.2.2.1
abbrev m_un (u : MSt) : Nat → Bool := u.2.2.2.2.2.2.2.1
abbrev m_nV (u : MSt) : Nat := u.2.2.2.2.2.2.2.2.1
abbrev m_may (u : MSt) : Nat → Bool := u.2.2.2.2.2.2.2.2.2.1
abbrev m_nR (u : MSt) : Nat := u.2.2.2.2.2.2.2.2.2.2.1
abbrev m_rf (u : MSt) : Nat → Nat := u.2.2.2.2.2.2.2.2.2.2.2.1
abbrev m_rl (u : MSt) : Nat → Nat := u.2.2.2.2.2.2.2.2.2.2.2.2.1
abbrev m_rw (u : MSt) : Nat → Int64 := u.2.2.2.2.2.2.2.2.2.2.2.2.2.1
abbrev m_rc (u : MSt) : Nat → Int64 := u.2.2.2.2.2.2.2.2.2.2.2.2.2.2.1
abbrev m_cul (u : MSt) : Nat → Nat := u.2.2.2.2.2.2.2.2.2.2.2.2.2.2.2.1
abbrev m_gu (u : MSt) : Bool := u.2.2.2.2.2.2.2.2.2.2.2.2.2.2.2.2.1
abbrev m_te (u : MSt) : Nat := u.2.2.2.2.2.2.2.2.2.2.2.2.2.2.2.2.2.1
abbrev m_th (u : MSt) : Nat := u.2.2.2.2.2.2.2.2.2.2.2.2.2.2.2.2.2.2.1
abbrev m_wet (u : MSt) : Nat → Bool := u.2.2.2.2.2.2.2.2.2.2.2.2.2.2.2.2.2.2.2
abbrev m_s_liq (u : MSt) (x : Nat → Nat) : MSt := (x, u.2.1, u.2.2.1, u.2.2.2.1, u.2.2.2.2.1, u.2.2.2.2.2.1, u.2.2.2.2.2.2.1, u.2.2.2.2.2.2.2.1, u.2.2.2.2.2.2.2.2.1, u.2.2.2.2.2.2.2.2.2.1, u.2.2.2.2.2.2.2.2.2.2.1, u.2.2.2.2.2.2.2.2.2.2.2.1, u.2.2.2.2.2.2.2.2.2.2.2.2.1, u.2.2.2.2.2.2.2.2.2.2.2.2.2.1, u.2.2.2.2.2.2.2.2.2.2.2.2.2.2.1, u.2.2.2.2.2.2.2.2.2.2.2.2.2.2.2.1, u.2.2.2.2.2.2.2.2.2.2.2.2.2.2.2.2.1, u.2.2.2.2.2.2.2.2.2.2.2.2.2.2.2.2.2.1, u.2.2.2.2.2.2.2.2.2.2.2.2.2.2.2.2.2.2.1, u.2.2.2.2.2.2.2.2.2.2.2.2.2.2.2.2.2.2.2)
abbrev m_s_lev (u : MSt) (x : Nat → Int64) : MSt := (u.1, x, u.2.2.1, u.2.2.2.1, u.2.2.2.2.1, u.2.2.2.2.2.1, u.2.2.2.2.2.2.1, u.2.2.2.2.2.2.2.1, u.2.2.2.2.2.2.2.2.1, u.2.2.2.2.2.2.2.2.2.1, u.2.2.2.2.2.2.2.2.2.2.1, u.2.2.2.2.2.2.2.2.2.2.2.1, u.2.2.2.2.2.2.2.2.2.2.2.2.1, u.2.2.2.2.2.2.2.2.2.2.2.2.2.1, u.2.2.2.2.2.2.2.2.2.2.2.2.2.2.1, u.2.2.2.2.2.2.2.2.2.2.2.2.2.2.2.1, u.2.2.2.2.2.2.2.2.2.2.2.2.2.2.2.2.1, u.2.2.2.2.2.2.2.2.2.2.2.2.2.2.2.2.2.1, u.2.2.2.2.2.2.2.2.2.2.2.2.2.2.2.2.2.2.1, u.2.2.2.2.2.2.2.2.2.2.2.2.2.2.2.2.2.2.2)
abbrev m_s_nS (u : MSt) (x : Nat) : MSt := (u.1, u.2.1, x, u.2.2.2.1, u.2.2.2.2.1, u.2.2.2.2.2.1, u.2.2.2.2.2.2.1, u.2.2.2.2.2.2.2.1, u.2.2.2.2.2.2.2.2.1, u.2.2.2.2.2.2.2.2.2.1, u.2.2.2.2.2.2.2.2.2.2.1, u.2.2.2.2.2.2.2.2.2.2.2.1, u.2.2.2.2.2.2.2.2.2.2.2.2.1, u.2.2.2.2.2.2.2.2.2.2.2.2.2.1, u.2.2.2.2.2.2.2.2.2.2.2.2.2.2.1, u.2.2.2.2.2.2.2.2.2.2.2.2.2.2.2.1, u.2.2.2.2.2.2.2.2.2.2.2.2.2.2.2.2.1, u.2.2.2.2.2.2.2.2.2.2.2.2.2.2.2.2.2.1, u.2.2.2.2.2.2.2.2.2.2.2.2.2.2.2.2.2.2.1, u.2.2.2.2.2.2.2.2.2.2.2.2.2.2.2.2.2.2.2)
abbrev m_s_fa (u : MSt) (x : Nat → Nat) : MSt := (u.1, u.2.1, u.2.2.1, x, u.2.2.2.2.1, u.2.2.2.2.2.1, u.2.2.2.2.2.2.1, u.2.2.2.2.2.2.2.1, u.2.2.2.2.2.2.2.2.1, u.2.2.2.2.2.2.2.2.2.1, u.2.2.2.2.2.2.2.2.2.2.1, u.2.2.2.2.2.2.2.2.2.2.2.1, u.2.2.2.2.2.2.2.2.2.2.2.2.1, u.2.2.2.2.2.2.2.2.2.2.2.2.2.1, u.2.2.2.2.2.2.2.2.2.2.2.2.2.2.1, u.2.2.2.2.2.2.2.2.2.2.2.2.2.2.2.1, u.2.2.2.2.2.2.2.2.2.2.2.2.2.2.2.2.1, u.2.2.2.2.2.2.2.2.2.2.2.2.2.2.2.2.2.1, u.2.2.2.2.2.2.2.2.2.2.2.2.2.2.2.2.2.2.1, u.2.2.2.2.2.2.2.2.2.2.2.2.2.2.2.2.2.2.2)
abbrev m_s_fb (u : MSt) (x : Nat → Nat) : MSt := (u.1, u.2.1, u.2.2.1, u.2.2.2.1, x, u.2.2.2.2.2.1, u.2.2.2.2.2.2.1, u.2.2.2.2.2.2.2.1, u.2.2.2.2.2.2.2.2.1, u.2.2.2.2.2.2.2.2.2.1, u.2.2.2.2.2.2.2.2.2.2.1, u.2.2.2.2.2.2.2.2.2.2.2.1, u.2.2.2.2.2.2.2.2.2.2.2.2.1, u.2.2.2.2.2.2.2.2.2.2.2.2.2.1, u.2.2.2.2.2.2.2.2.2.2.2.2.2.2.1, u.2.2.2.2.2.2.2.2.2.2.2.2.2.2.2.1, u.2.2.2.2.2.2.2.2.2.2.2.2.2.2.2.2.1, u.2.2.2.2.2.2.2.2.2.2.2.2.2.2.2.2.2.1, u.2.2.2.2.2.2.2.2.2.2.2.2.2.2.2.2.2.2.1, u.2.2.2.2.2.2.2.2.2.2.2.2.2.2.2.2.2.2.2)
abbrev m_s_seat (u : MSt) (x : Nat → Nat) : MSt := (u.1, u.2.1, u.2.2.1, u.2.2.2.1, u.2.2.2.2.1, x, u.2.2.2.2.2.2.1, u.2.2.2.2.2.2.2.1, u.2.2.2.2.2.2.2.2.1, u.2.2.2.2.2.2.2.2.2.1, u.2.2.2.2.2.2.2.2.2.2.1, u.2.2.2.2.2.2.2.2.2.2.2.1, u.2.2.2.2.2.2.2.2.2.2.2.2.1, u.2.2.2.2.2.2.2.2.2.2.2.2.2.1, u.2.2.2.2.2.2.2.2.2.2.2.2.2.2.1, u.2.2.2.2.2.2.2.2.2.2.2.2.2.2.2.1, u.2.2.2.2.2.2.2.2.2.2.2.2.2.2.2.2.1, u.2.2.2.2.2.2.2.2.2.2.2.2.2.2.2.2.2.1, u.2.2.2.2.2.2.2.2.2.2.2.2.2.2.2.2.2.2.1, u.2.2.2.2.2.2.2.2.2.2.2.2.2.2.2.2.2.2.2)
abbrev m_s_op (u : MSt) (x : Nat → Bool) : MSt := (u.1, u.2.1, u.2.2.1, u.2.2.2.1, u.2.2.2.2.1, u.2.2.2.2.2.1, x, u.2.2.2.2.2.2.2.1, u.2.2.2.2.2.2.2.2.1, u.2.2.2.2.2.2.2.2.2.1, u.2.2.2.2.2.2.2.2.2.2.1, u.2.2.2.2.2.2.2.2.2.2.2.1, u.2.2.2.2.2.2.2.2.2.2.2.2.1, u.2.2.2.2.2.2.2.2.2.2.2.2.2.1, u.2.2.2.2.2.2.2.2.2.2.2.2.2.2.1, u.2.2.2.2.2.2.2.2.2.2.2.2.2.2.2.1, u.2.2.2.2.2.2.2.2.2.2.2.2.2.2.2.2.1, u.2.2.2.2.2.2.2.2.2.2.2.2.2.2.2.2.2.1, u.2.2.2.2.2.2.2.2.2.2.2.2.2.2.2.2.2.2.1, u.2.2.2.2.2.2.2.2.2.2.2.2.2.2.2.2.2.2.2)
abbrev m_s_un (u : MSt) (x : Nat → Bool) : MSt := (u.1, u.2.1, u.2.2.1, u.2.2.2.1, u.2.2.2.2.1, u.2.2.2.2.2.1, u.2.2.2.2.2.2.1, x, u.2.2.2.2.2.2.2.2.1, u.2.2.2.2.2.2.2.2.2.1, u.2.2.2.2.2.2.2.2.2.2.1, u.2.2.2.2.2.2.2.2.2.2.2.1, u.2.2.2.2.2.2.2.2.2.2.2.2.1, u.2.2.2.2.2.2.2.2.2.2.2.2.2.1, u.2.2.2.2.2.2.2.2.2.2.2.2.2.2.1, u.2.2.2.2.2.2.2.2.2.2.2.2.2.2.2.1, u.2.2.2.2.2.2.2.2.2.2.2.2.2.2.2.2.1, u.2.2.2.2.2.2.2.2.2.2.2.2.2.2.2.2.2.1, u.2.2.2.2.2.2.2.2.2.2.2.2.2.2.2.2.2.2.1, u.2.2.2.2.2.2.2.2.2.2.2.2.2.2.2.2.2.2.2)
abbrev m_s_nV (u : MSt) (x : Nat) : MSt := (u.1, u.2.1, u.2.2.1, u.2.2.2.1, u.2.2.2.2.1, u.2.2.2.2.2.1, u.2.2.2.2.2.2.1, u.2.2.2.2.2.2.2.1, x, u.2.2.2.2.2.2.2.2.2.1, u.2.2.2.2.2.2.2.2.2.2.1, u.2.2.2.2.2.2.2.2.2.2.2.1, u.2.2.2.2.2.2.2.2.2.2.2.2.1, u.2.2.2.2.2.2.2.2.2.2.2.2.2.1, u.2.2.2.2.2.2.2.2.2.2.2.2.2.2.1, u.2.2.2.2.2.2.2.2.2.2.2.2.2.2.2.1, u.2.2.2.2.2.2.2.2.2.2.2.2.2.2.2.2.1, u.2.2.2.2.2.2.2.2.2.2.2.2.2.2.2.2.2.1, u.2.2.2.2.2.2.2.2.2.2.2.2.2.2.2.2.2.2.1, u.2.2.2.2.2.2.2.2.2.2.2.2.2.2.2.2.2.2.2)
abbrev m_s_may (u : MSt) (x : Nat → Bool) : MSt := (u.1, u.2.1, u.2.2.1, u.2.2.2.1, u.2.2.2.2.1, u.2.2.2.2.2.1, u.2.2.2.2.2.2.1, u.2.2.2.2.2.2.2.1, u.2.2.2.2.2.2.2.2.1, x, u.2.2.2.2.2.2.2.2.2.2.1, u.2.2.2.2.2.2.2.2.2.2.2.1, u.2.2.2.2.2.2.2.2.2.2.2.2.1, u.2.2.2.2.2.2.2.2.2.2.2.2.2.1, u.2.2.2.2.2.2.2.2.2.2.2.2.2.2.1, u.2.2.2.2.2.2.2.2.2.2.2.2.2.2.2.1, u.2.2.2.2.2.2.2.2.2.2.2.2.2.2.2.2.1, u.2.2.2.2.2.2.2.2.2.2.2.2.2.2.2.2.2.1, u.2.2.2.2.2.2.2.2.2.2.2.2.2.2.2.2.2.2.1, u.2.2.2.2.2.2.2.2.2.2.2.2.2.2.2.2.2.2.2)
abbrev m_s_nR (u : MSt) (x : Nat) : MSt := (u.1, u.2.1, u.2.2.1, u.2.2.2.1, u.2.2.2.2.1, u.2.2.2.2.2.1, u.2.2.2.2.2.2.1, u.2.2.2.2.2.2.2.1, u.2.2.2.2.2.2.2.2.1, u.2.2.2.2.2.2.2.2.2.1, x, u.2.2.2.2.2.2.2.2.2.2.2.1, u.2.2.2.2.2.2.2.2.2.2.2.2.1, u.2.2.2.2.2.2.2.2.2.2.2.2.2.1, u.2.2.2.2.2.2.2.2.2.2.2.2.2.2.1, u.2.2.2.2.2.2.2.2.2.2.2.2.2.2.2.1, u.2.2.2.2.2.2.2.2.2.2.2.2.2.2.2.2.1, u.2.2.2.2.2.2.2.2.2.2.2.2.2.2.2.2.2.1, u.2.2.2.2.2.2.2.2.2.2.2.2.2.2.2.2.2.2.1, u.2.2.2.2.2.2.2.2.2.2.2.2.2.2.2.2.2.2.2)
abbrev m_s_rf (u : MSt) (x : Nat → Nat) : MSt := (u.1, u.2.1, u.2.2.1, u.2.2.2.1, u.2.2.2.2.1, u.2.2.2.2.2.1, u.2.2.2.2.2.2.1, u.2.2.2.2.2.2.2.1, u.2.2.2.2.2.2.2.2.1, u.2.2.2.2.2.2.2.2.2.1, u.2.2.2.2.2.2.2.2.2.2.1, x, u.2.2.2.2.2.2.2.2.2.2.2.2.1, u.2.2.2.2.2.2.2.2.2.2.2.2.2.1, u.2.2.2.2.2.2.2.2.2.2.2.2.2.2.1, u.2.2.2.2.2.2.2.2.2.2.2.2.2.2.2.1, u.2.2.2.2.2.2.2.2.2.2.2.2.2.2.2.2.1, u.2.2.2.2.2.2.2.2.2.2.2.2.2.2.2.2.2.1, u.2.2.2.2.2.2.2.2.2.2.2.2.2.2.2.2.2.2.1, u.2.2.2.2.2.2.2.2.2.2.2.2.2.2.2.2.2.2.2)
abbrev m_s_rl (u : MSt) (x : Nat → Nat) : MSt := (u.1, u.2.1, u.2.2.1, u.2.2.2.1, u.2.2.2.2.1, u.2.2.2.2.2.1, u.2.2.2.2.2.2.1, u.2.2.2.2.2.2.2.1, u.2.2.2.2.2.2.2.2.1, u.2.2.2.2.2.2.2.2.2.1, u.2.2.2.2.2.2.2.2.2.2.1, u.2.2.2.2.2.2.2.2.2.2.2.1, x, u.2.2.2.2.2.2.2.2.2.2.2.2.2.1, u.2.2.2.2.2.2.2.2.2.2.2.2.2.2.1, u.2.2.2.2.2.2.2.2.2.2.2.2.2.2.2.1, u.2.2.2.2.2.2.2.2.2.2.2.2.2.2.2.2.1, u.2.2.2.2.2.2.2.2.2.2.2.2.2.2.2.2.2.1, u.2.2.2.2.2.2.2.2.2.2.2.2.2.2.2.2.2.2.1, u.2.2.2.2.2.2.2.2.2.2.2.2.2.2.2.2.2.2.2)
abbrev m_s_rw (u : MSt) (x : Nat → Int64) : MSt := (u.1, u.2.1, u.2.2.1, u.2.2.2.1, u.2.2.2.2.1, u.2.2.2.2.2.1, u.2.2.2.2.2.2.1, u.2.2.2.2.2.2.2.1, u.2.2.2.2.2.2.2.2.1, u.2.2.2.2.2.2.2.2.2.1, u.2.2.2.2.2.2.2.2.2.2.1, u.2.2.2.2.2.2.2.2.2.2.2.1, u.2.2.2.2.2.2.2.2.2.2.2.2.1, x, u.2.2.2.2.2.2.2.2.2.2.2.2.2.2.1, u.2.2.2.2.2.2.2.2.2.2.2.2.2.2.2.1, u.2.2.2.2.2.2.2.2.2.2.2.2.2.2.2.2.1, u.2.2.2.2.2.2.2.2.2.2.2.2.2.2.2.2.2.1, u.2.2.2.2.2.2.2.2.2.2.2.2.2.2.2.2.2.2.1, u.2.2.2.2.2.2.2.2.2.2.2.2.2.2.2.2.2.2.2)
abbrev m_s_rc (u : MSt) (x : Nat → Int64) : MSt := (u.1, u.2.1, u.2.2.1, u.2.2.2.1, u.2.2.2.2.1, u.2.2.2.2.2.1, u.2.2.2.2.2.2.1, u.2.2.2.2.2.2.2.1, u.2.2.2.2.2.2.2.2.1, u.2.2.2.2.2.2.2.2.2.1, u.2.2.2.2.2.2.2.2.2.2.1, u.2.2.2.2.2.2.2.2.2.2.2.1, u.2.2.2.2.2.2.2.2.2.2.2.2.1, u.2.2.2.2.2.2.2.2.2.2.2.2.2.1, x, u.2.2.2.2.2.2.2.2.2.2.2.2.2.2.2.1, u.2.2.2.2.2.2.2.2.2.2.2.2.2.2.2.2.1, u.2.2.2.2.2.2.2.2.2.2.2.2.2.2.2.2.2.1, u.2.2.2.2.2.2.2.2.2.2.2.2.2.2.2.2.2.2.1, u.2.2.2.2.2.2.2.2.2.2.2.2.2.2.2.2.2.2.2)
abbrev m_s_cul (u : MSt) (x : Nat → Nat) : MSt := (u.1, u.2.1, u.2.2.1, u.2.2.2.1, u.2.2.2.2.1, u.2.2.2.2.2.1, u.2.2.2.2.2.2.1, u.2.2.2.2.2.2.2.1, u.2.2.2.2.2.2.2.2.1, u.2.2.2.2.2.2.2.2.2.1, u.2.2.2.2.2.2.2.2.2.2.1, u.2.2.2.2.2.2.2.2.2.2.2.1, u.2.2.2.2.2.2.2.2.2.2.2.2.1, u.2.2.2.2.2.2.2.2.2.2.2.2.2.1, u.2.2.2.2.2.2.2.2.2.2.2.2.2.2.1, x, u.2.2.2.2.2.2.2.2.2.2.2.2.2.2.2.2.1, u.2.2.2.2.2.2.2.2.2.2.2.2.2.2.2.2.2.1, u.2.2.2.2.2.2.2.2.2.2.2.2.2.2.2.2.2.2.1, u.2.2.2.2.2.2.2.2.2.2.2.2.2.2.2.2.2.2.2)
abbrev m_s_gu (u : MSt) (x : Bool) : MSt := (u.1, u.2.1, u.2.2.1, u.2.2.2.1, u.2.2.2.2.1, u.2.2.2.2.2.1, u.2.2.2.2.2.2.1, u.2.2.2.2.2.2.2.1, u.2.2.2.2.2.2.2.2.1, u.2.2.2.2.2.2.2.2.2.1, u.2.2.2.2.2.2.2.2.2.2.1, u.2.2.2.2.2.2.2.2.2.2.2.1, u.2.2.2.2.2.2.2.2.2.2.2.2.1, u.2.2.2.2.2.2.2.2.2.2.2.2.2.1, u.2.2.2.2.2.2.2.2.2.2.2.2.2.2.1, u.2.2.2.2.2.2.2.2.2.2.2.2.2.2.2.1, x, u.2.2.2.2.2.2.2.2.2.2.2.2.2.2.2.2.2.1, u.2.2.2.2.2.2.2.2.2.2.2.2.2.2.2.2.2.2.1, u.2.2.2.2.2.2.2.2.2.2.2.2.2.2.2.2.2.2.2)
abbrev m_s_te (u : MSt) (x : Nat) : MSt := (u.1, u.2.1, u.2.2.1, u.2.2.2.1, u.2.2.2.2.1, u.2.2.2.2.2.1, u.2.2.2.2.2.2.1, u.2.2.2.2.2.2.2.1, u.2.2.2.2.2.2.2.2.1, u.2.2.2.2.2.2.2.2.2.1, u.2.2.2.2.2.2.2.2.2.2.1, u.2.2.2.2.2.2.2.2.2.2.2.1, u.2.2.2.2.2.2.2.2.2.2.2.2.1, u.2.2.2.2.2.2.2.2.2.2.2.2.2.1, u.2.2.2.2.2.2.2.2.2.2.2.2.2.2.1, u.2.2.2.2.2.2.2.2.2.2.2.2.2.2.2.1, u.2.2.2.2.2.2.2.2.2.2.2.2.2.2.2.2.1, x, u.2.2.2.2.2.2.2.2.2.2.2.2.2.2.2.2.2.2.1, u.2.2.2.2.2.2.2.2.2.2.2.2.2.2.2.2.2.2.2)
abbrev m_s_th (u : MSt) (x : Nat) : MSt := (u.1, u.2.1, u.2.2.1, u.2.2.2.1, u.2.2.2.2.1, u.2.2.2.2.2.1, u.2.2.2.2.2.2.1, u.2.2.2.2.2.2.2.1, u.2.2.2.2.2.2.2.2.1, u.2.2.2.2.2.2.2.2.2.1, u.2.2.2.2.2.2.2.2.2.2.1, u.2.2.2.2.2.2.2.2.2.2.2.1, u.2.2.2.2.2.2.2.2.2.2.2.2.1, u.2.2.2.2.2.2.2.2.2.2.2.2.2.1, u.2.2.2.2.2.2.2.2.2.2.2.2.2.2.1, u.2.2.2.2.2.2.2.2.2.2.2.2.2.2.2.1, u.2.2.2.2.2.2.2.2.2.2.2.2.2.2.2.2.1, u.2.2.2.2.2.2.2.2.2.2.2.2.2.2.2.2.2.1, x, u.2.2.2.2.2.2.2.2.2.2.2.2.2.2.2.2.2.2.2)
abbrev m_s_wet (u : MSt) (x : Nat → Bool) : MSt := (u.1, u.2.1, u.2.2.1, u.2.2.2.1, u.2.2.2.2.1, u.2.2.2.2.2.1, u.2.2.2.2.2.2.1, u.2.2.2.2.2.2.2.1, u.2.2.2.2.2.2.2.2.1, u.2.2.2.2.2.2.2.2.2.1, u.2.2.2.2.2.2.2.2.2.2.1, u.2.2.2.2.2.2.2.2.2.2.2.1, u.2.2.2.2.2.2.2.2.2.2.2.2.1, u.2.2.2.2.2.2.2.2.2.2.2.2.2.1, u.2.2.2.2.2.2.2.2.2.2.2.2.2.2.1, u.2.2.2.2.2.2.2.2.2.2.2.2.2.2.2.1, u.2.2.2.2.2.2.2.2.2.2.2.2.2.2.2.2.1, u.2.2.2.2.2.2.2.2.2.2.2.2.2.2.2.2.2.1, u.2.2.2.2.2.2.2.2.2.2.2.2.2.2.2.2.2.2.1, x)
abbrev m_mk (x0 : Nat → Nat) (x1 : Nat → Int64) (x2 : Nat) (x3 : Nat → Nat) (x4 : Nat → Nat) (x5 : Nat → Nat) (x6 : Nat → Bool) (x7 : Nat → Bool) (x8 : Nat) (x9 : Nat → Bool) (x10 : Nat) (x11 : Nat → Nat) (x12 : Nat → Nat) (x13 : Nat → Int64) (x14 : Nat → Int64) (x15 : Nat → Nat) (x16 : Bool) (x17 : Nat) (x18 : Nat) (x19 : Nat → Bool) : MSt := (x0, x1, x2, x3, x4, x5, x6, x7, x8, x9, x10, x11, x12, x13, x14, x15, x16, x17, x18, x19)
abbrev MA : Type := Nat × Nat × Nat × Nat × Nat × Nat × Nat × Nat × Nat × Nat × Nat × Nat × Nat × Nat × Nat × ClassId × ClassId × ClassId
abbrev ma_o (q : MA) : Nat := q.1
abbrev ma_liq (q : MA) : Nat := q.2.1
abbrev ma_lev (q : MA) : Nat := q.2.2.1
abbrev ma_fa (q : MA) : Nat := q.2.2.2.1
abbrev ma_fb (q : MA) : Nat := q.2.2.2.2.1
abbrev ma_seat (q : MA) : Nat := q.2.2.2.2.2.1
abbrev ma_op (q : MA) : Nat := q.2.2.2.2.2.2.1
abbrev ma_un (q : MA) : Nat := q.2.2.2.2.2.2.2.1
abbrev ma_may (q : MA) : Nat := q.2.2.2.2.2.2.2.2.1
abbrev ma_rf (q : MA) : Nat := q.2.2.2.2.2.2.2.2.2.1
abbrev ma_rl (q : MA) : Nat := q.2.2.2.2.2.2.2.2.2.2.1
abbrev ma_rw (q : MA) : Nat := q.2.2.2.2.2.2.2.2.2.2.2.1
abbrev ma_rc (q : MA) : Nat := q.2.2.2.2.2.2.2.2.2.2.2.2.1
abbrev ma_cul (q : MA) : Nat := q.2.2.2.2.2.2.2.2.2.2.2.2.2.1
abbrev ma_wet (q : MA) : Nat := q.2.2.2.2.2.2.2.2.2.2.2.2.2.2.1
abbrev ma_cI (q : MA) : ClassId := q.2.2.2.2.2.2.2.2.2.2.2.2.2.2.2.1
abbrev ma_cJ (q : MA) : ClassId := q.2.2.2.2.2.2.2.2.2.2.2.2.2.2.2.2.1
abbrev ma_cZ (q : MA) : ClassId := q.2.2.2.2.2.2.2.2.2.2.2.2.2.2.2.2.2
abbrev tM (q : MA) : List (ClassId × FieldType) := [(ma_cI q, .int), (ma_cJ q, .long), (ma_cZ q, .boolean)]
abbrev wM (q : MA) (u : MSt) : va_W := [(ma_o q, .inr (4, [.ref (ma_liq q), .ref (ma_lev q), .int (nI (m_nS u)), .ref (ma_fa q), .ref (ma_fb q), .ref (ma_seat q), .ref (ma_op q), .ref (ma_un q), .int (nI (m_nV u)), .ref (ma_may q), .int (nI (m_nR u)), .ref (ma_rf q), .ref (ma_rl q), .ref (ma_rw q), .ref (ma_rc q), .ref (ma_cul q), .int (bI (m_gu u)), .int (nI (m_te u)), .int (nI (m_th u)), .ref (ma_wet q)])),
  (ma_liq q, .inl (ma_cI q, 64, .inl (fun j => nI (m_liq u j)))),
  (ma_lev q, .inl (ma_cJ q, 64, .inr (.inl (m_lev u)))),
  (ma_fa q, .inl (ma_cI q, 64, .inl (fun j => nI (m_fa u j)))),
  (ma_fb q, .inl (ma_cI q, 64, .inl (fun j => nI (m_fb u j)))),
  (ma_seat q, .inl (ma_cI q, 64, .inl (fun j => nI (m_seat u j)))),
  (ma_op q, .inl (ma_cZ q, 64, .inl (fun j => bI (m_op u j)))),
  (ma_un q, .inl (ma_cZ q, 64, .inl (fun j => bI (m_un u j)))),
  (ma_may q, .inl (ma_cZ q, 256, .inl (fun j => bI (m_may u j)))),
  (ma_rf q, .inl (ma_cI q, 975, .inl (fun j => nI (m_rf u j)))),
  (ma_rl q, .inl (ma_cI q, 975, .inl (fun j => nI (m_rl u j)))),
  (ma_rw q, .inl (ma_cJ q, 975, .inr (.inl (m_rw u)))),
  (ma_rc q, .inl (ma_cJ q, 975, .inr (.inl (m_rc u)))),
  (ma_cul q, .inl (ma_cI q, 4, .inl (fun j => nI (m_cul u j)))),
  (ma_wet q, .inl (ma_cZ q, 64, .inl (fun j => bI (m_wet u j))))]
end
section
def ixB (x : Int32) (n : Nat) : Bool := decide (¬ x < 0 ∧ ¬ nI n ≤ x)
theorem ixB_of {x : Int32} {n : Nat} (hn : n < 2 ^ 31) (h : ixB x n = true) : ∃ j : Nat, j < n ∧ x = nI j := by
  have h := of_decide_eq_true h
  rcases pk_ix x hn with q | q | q
  · exact absurd q h.1
  · exact absurd q h.2
  · exact q
theorem ixB_lo {x : Int32} {n : Nat} (h : x < 0) : ixB x n = false := decide_eq_false (fun q => q.1 h)
theorem ixB_hi {x : Int32} {n : Nat} (h : nI n ≤ x) : ixB x n = false := decide_eq_false (fun q => q.2 h)
theorem ixB_nl {x : Int32} {n : Nat} (h : ¬ x < nI n) : ixB x n = false := ixB_hi (Int32.not_lt.mp h)
theorem ixB_nI {j n : Nat} (hn : n < 2 ^ 31) (hj : j < n) : ixB (nI j) n = true := decide_eq_true ⟨nI_pos (by omega), nI_ge hj hn⟩
/-- what the reference's state keeps to -/
def MOk (u : MSt) : Prop := m_nS u ≤ 64 ∧ m_nV u ≤ 64 ∧ m_nR u ≤ 975 ∧ (∀ j, m_liq u j < 16) ∧ (∀ j, m_fa u j < 64) ∧ (∀ j, m_fb u j < 64) ∧ (∀ j, m_rf u j < 65) ∧ (∀ j, m_rl u j < 16) ∧ (∀ v, v < m_nV u → m_fa u v < m_nS u ∧ m_fb u v < m_nS u ∧ m_fa u v ≠ m_fb u v) ∧ m_te u ≤ 975 ∧ (∀ j, m_seat u j < 4)
def mlets (u : MSt) (v f : Nat) : Bool := if m_seat u v = 2 ∧ m_op u v = false then false else (m_un u v || (m_op u v != decide (f = v + 1)))
def mS (u : MSt) (a : Nat) : Nat → Bool := fun t => decide (t < m_nS u ∧ m_liq u t = a)
def mFl (u : MSt) (a f : Nat) (t : Nat) : Prop := Fl (m_nV u) (m_lev u) (m_fa u) (m_fb u) (fun v => mlets u v f) (mS u a) t
noncomputable def mF (u : MSt) (a f : Nat) : Int64 := ofB (fun i => pB (mFl u a f i))
theorem mFl_lt {u : MSt} (hu : MOk u) {a f t : Nat} (h : mFl u a f t) : t < m_nS u :=
  Fl.lt (fun t ht => (of_decide_eq_true ht).1) (fun v hv => ⟨(hu.2.2.2.2.2.2.2.2.1 v hv).1, (hu.2.2.2.2.2.2.2.2.1 v hv).2.1⟩) h
/-- the wet spaces: the sources among them, and none where the liquid isn't -/
def FI (u : MSt) (a f : Nat) (w : Nat → Bool) : Prop := (∀ t, t < m_nS u → m_liq u t = a → w t = true) ∧ ∀ t, t < m_nS u → w t = true → mFl u a f t
/-- nothing flows over the valves below v -/
def FC (u : MSt) (f : Nat) (w : Nat → Bool) (v : Nat) : Prop := ∀ x, x < v → mlets u x f = true → (w (m_fa u x) = true → m_lev u (m_fb u x) ≤ m_lev u (m_fa u x) → w (m_fb u x) = true) ∧ (w (m_fb u x) = true → m_lev u (m_fa u x) ≤ m_lev u (m_fb u x) → w (m_fa u x) = true)
theorem FC_0 {u : MSt} {f : Nat} {w : Nat → Bool} : FC u f w 0 := fun x hx => absurd hx (Nat.not_lt_zero x)
theorem FC_s {u : MSt} {f v : Nat} {w : Nat → Bool} (h : FC u f w v) (h1 : mlets u v f = true → (w (m_fa u v) = true → m_lev u (m_fb u v) ≤ m_lev u (m_fa u v) → w (m_fb u v) = true) ∧ (w (m_fb u v) = true → m_lev u (m_fa u v) ≤ m_lev u (m_fb u v) → w (m_fa u v) = true)) : FC u f w (v + 1) := by
  intro x hx hL
  by_cases e : x = v
  · subst e; exact h1 hL
  · exact h x (by omega) hL
theorem FI_0 {u : MSt} {a f : Nat} {w : Nat → Bool} (h : ∀ t, t < m_nS u → w t = decide (m_liq u t = a)) : FI u a f w := by
  refine ⟨fun t ht e => by rw [h t ht, decide_eq_true e], fun t ht e => ?_⟩
  rw [h t ht] at e
  exact Fl.src (decide_eq_true ⟨ht, of_decide_eq_true e⟩)
theorem FI_ab {u : MSt} {a f v : Nat} {w : Nat → Bool} (hu : MOk u) (hv : v < m_nV u) (hL : mlets u v f = true) (h : FI u a f w) (hw : w (m_fa u v) = true) (hl : m_lev u (m_fb u v) ≤ m_lev u (m_fa u v)) : FI u a f (va_up w (m_fb u v) true) := by
  obtain ⟨q1, q2, -⟩ := hu.2.2.2.2.2.2.2.2.1 v hv
  refine ⟨fun t ht e => ?_, fun t ht e => ?_⟩
  · unfold va_up; split
    · rfl
    · exact h.1 t ht e
  · by_cases e2 : t = m_fb u v
    · subst e2; exact (Fl.cl v hv hL).1 (h.2 _ q1 hw) hl
    · rw [va_up_ne w true e2] at e; exact h.2 t ht e
theorem FI_ba {u : MSt} {a f v : Nat} {w : Nat → Bool} (hu : MOk u) (hv : v < m_nV u) (hL : mlets u v f = true) (h : FI u a f w) (hw : w (m_fb u v) = true) (hl : m_lev u (m_fa u v) ≤ m_lev u (m_fb u v)) : FI u a f (va_up w (m_fa u v) true) := by
  obtain ⟨q1, q2, -⟩ := hu.2.2.2.2.2.2.2.2.1 v hv
  refine ⟨fun t ht e => ?_, fun t ht e => ?_⟩
  · unfold va_up; split
    · rfl
    · exact h.1 t ht e
  · by_cases e2 : t = m_fa u v
    · subst e2; exact (Fl.cl v hv hL).2 (h.2 _ q2 hw) hl
    · rw [va_up_ne w true e2] at e; exact h.2 t ht e
theorem FI_end {u : MSt} {a f : Nat} {w : Nat → Bool} {x : Int64} (hu : MOk u) (h : FI u a f w) (hc : FC u f w (m_nV u)) (hx : ∀ j, tb x j = (decide (j < m_nS u) && w j)) : x = mF u a f := by
  refine ofB_eq fun i _ => ?_
  rw [hx i]
  by_cases hi : i < m_nS u
  · cases hw : w i with
    | true => simp [hi]; exact pB_t.mpr (h.2 i hi hw)
    | false =>
      simp
      refine pB_f.mpr fun q => ?_
      have := q (fun t => t < m_nS u ∧ w t = true) (fun t ht => ⟨(of_decide_eq_true ht).1, h.1 t (of_decide_eq_true ht).1 (of_decide_eq_true ht).2⟩) (fun v hv hL => ?_)
      · rw [hw] at this; exact absurd this.2 (by decide)
      · obtain ⟨q1, q2, -⟩ := hu.2.2.2.2.2.2.2.2.1 v hv
        exact ⟨fun z hl => ⟨q2, (hc v hv hL).1 z.2 hl⟩, fun z hl => ⟨q1, (hc v hv hL).2 z.2 hl⟩⟩
  · simp [hi]
    exact pB_f.mpr fun q => hi (mFl_lt hu q)
theorem up_lt {β : Type} {w h : Nat → β} {i : Nat} {x : β} (hw : ∀ t, t < i → w t = h t) (hx : x = h i) : ∀ t, t < i + 1 → va_up w i x t = h t := by
  intro t ht
  unfold va_up
  split
  · rename_i e; rw [e]; exact hx
  · exact hw t (by omega)
theorem bits_t {x : Int64} {w : Nat → Bool} {i : Nat} (h : ∀ j, tb x j = (decide (j < i) && w j)) (hi : i < 64) (hw : w i = true) : ∀ j, tb (x ||| bt i) j = (decide (j < i + 1) && w j) := by
  intro j
  rw [tb_or, tb_bt hi, h j]
  by_cases e : j = i
  · subst e; simp [hw]
  · by_cases e2 : j < i
    · simp [e, e2, show j < i + 1 by omega]
    · simp [e, e2, show ¬ j < i + 1 by omega]
theorem bits_f {x : Int64} {w : Nat → Bool} {i : Nat} (h : ∀ j, tb x j = (decide (j < i) && w j)) (hw : w i = false) : ∀ j, tb x j = (decide (j < i + 1) && w j) := by
  intro j
  rw [h j]
  by_cases e : j = i
  · subst e; simp [hw]
  · by_cases e2 : j < i
    · simp [e2, show j < i + 1 by omega]
    · simp [e2, show ¬ j < i + 1 by omega]
theorem bits_0 {w : Nat → Bool} : ∀ j, tb 0 j = (decide (j < 0) && w j) := fun j => by rw [tb_0]; simp
def mCb (u : MSt) (x : Int64) (f v : Nat) : Bool := (tb x (m_fa u v) != tb x (m_fb u v)) && !mlets u v f && decide ((if tb x (m_fa u v) = true then m_lev u (m_fb u v) else m_lev u (m_fa u v)) ≤ (if tb x (m_fa u v) = true then m_lev u (m_fa u v) else m_lev u (m_fb u v)))
def mC (u : MSt) (x : Int64) (f : Nat) : Int64 := ofB (fun v => decide (v < m_nV u) && mCb u x f v)
def mTh (u : MSt) (a : Nat) : Bool := anyB (fun t => decide (m_liq u t = a)) (m_nS u) && decide (0 < a)
theorem tb_shr1 (x : Int64) {k : Nat} (hk : k < 64) : ((x.toUInt64 >>> ((nI k).toInt64.toUInt64 &&& Int64.toUInt64 63)).toInt64 &&& 1) = 1 ↔ tb x k = true := by
  obtain ⟨n, hn, rfl⟩ := wb_of x
  rw [wb_bit hn hk, tb_lN hk, show (1 : Int64) = lN 1 from rfl, Nat.testBit_eq_decide_div_mod_eq]
  constructor
  · intro h
    rcases Nat.mod_two_eq_zero_or_one (n / 2 ^ k) with q | q
    · rw [q] at h; exact absurd h (by decide)
    · simp [q]
  · intro h
    rw [of_decide_eq_true h]
theorem dry_go {a b c : Nat} {mo : Bool} (h : (mo = true → b < c) ∧ b ≤ c) (e : a + 1 = b) : (true = true → a < c) ∧ a ≤ c := ⟨fun _ => by omega, by omega⟩
theorem dry_39 {a b n : Nat} {mo mo2 : Bool} (h : (mo2 = true → a < b) ∧ a ≤ b) (hmo : mo = true) (hm : 2 * b + (if mo = true then 1 else 0) < n + 1) : 2 * a + (if mo2 = true then 1 else 0) < n := by
  rw [if_pos hmo] at hm
  cases mo2 with
  | true => have := h.1 rfl; simp; omega
  | false => have := h.2; simp; omega
theorem mCb_t1 {u : MSt} {x : Int64} {f v : Nat} (ha : tb x (m_fa u v) = true) (hne : ¬ tb x (m_fa u v) = tb x (m_fb u v)) (hL : mlets u v f = false) (hl : m_lev u (m_fb u v) ≤ m_lev u (m_fa u v)) : mCb u x f v = true := by
  have hb : tb x (m_fb u v) = false := ts_nt (fun q => hne (ha.trans q.symm))
  unfold mCb; rw [ha, hb, hL, if_pos rfl, if_pos rfl, decide_eq_true hl]; rfl
theorem mCb_t0 {u : MSt} {x : Int64} {f v : Nat} (ha : tb x (m_fa u v) = false) (hne : ¬ tb x (m_fa u v) = tb x (m_fb u v)) (hL : mlets u v f = false) (hl : m_lev u (m_fa u v) ≤ m_lev u (m_fb u v)) : mCb u x f v = true := by
  have hb : tb x (m_fb u v) = true := ts_nf (fun q => hne (ha.trans q.symm))
  unfold mCb; rw [ha, hb, hL, if_neg (by decide), if_neg (by decide), decide_eq_true hl]; rfl
theorem mCb_f1 {u : MSt} {x : Int64} {f v : Nat} (ha : tb x (m_fa u v) = true) (hl : ¬ m_lev u (m_fb u v) ≤ m_lev u (m_fa u v)) : mCb u x f v = false := by
  unfold mCb; rw [ha, if_pos rfl, if_pos rfl, decide_eq_false hl, Bool.and_false]
theorem mCb_f0 {u : MSt} {x : Int64} {f v : Nat} (ha : tb x (m_fa u v) = false) (hl : ¬ m_lev u (m_fa u v) ≤ m_lev u (m_fb u v)) : mCb u x f v = false := by
  unfold mCb; rw [ha, if_neg (by decide), if_neg (by decide), decide_eq_false hl, Bool.and_false]
theorem mCb_fe {u : MSt} {x : Int64} {f v : Nat} (h : tb x (m_fa u v) = tb x (m_fb u v)) : mCb u x f v = false := by
  unfold mCb; rw [h]; simp
theorem mCb_fl {u : MSt} {x : Int64} {f v : Nat} (h : mlets u v f = true) : mCb u x f v = false := by
  unfold mCb; rw [h]; simp
def M_space (u : MSt) (x : Int32) : Int32 × MSt :=
  if x < 0 ∨ ¬ x < nI 16 then (-1, m_s_th u 0) else if m_nS u = 64 then (-2, m_s_th u 0)
  else (nI (m_nS u), m_s_th (m_s_nR (m_s_nS (m_s_lev (m_s_liq u (va_up (m_liq u) (m_nS u) x.toNatClampNeg)) (va_up (m_lev u) (m_nS u) 0)) (m_nS u + 1)) 0) 0)
def M_valve (u : MSt) (x y k : Int32) (o : Bool) : Int32 × MSt :=
  if ixB x (m_nS u) = false ∨ ixB y (m_nS u) = false ∨ x = y ∨ k < nI 1 ∨ ¬ k ≤ nI 2 then (-1, m_s_th u 0) else if m_nV u = 64 then (-2, m_s_th u 0)
  else (nI (m_nV u), m_s_th (m_s_nR (m_s_nV (m_s_un (m_s_op (m_s_seat (m_s_fb (m_s_fa u (va_up (m_fa u) (m_nV u) x.toNatClampNeg)) (va_up (m_fb u) (m_nV u) y.toNatClampNeg)) (va_up (m_seat u) (m_nV u) k.toNatClampNeg)) (va_up (m_op u) (m_nV u) o)) (va_up (m_un u) (m_nV u) false)) (m_nV u + 1)) 0) 0)
def M_level (u : MSt) (x : Int32) (h : Int64) : Bool × MSt :=
  if ixB x (m_nS u) = false then (false, m_s_th u 0) else (true, m_s_th (m_s_nR (m_s_lev u (va_up (m_lev u) x.toNatClampNeg h)) 0) 0)
def M_may (u : MSt) (x y : Int32) : Bool × MSt :=
  if (x ≤ 0 ∨ nI 16 ≤ x ∨ y ≤ 0 ∨ nI 16 ≤ y ∨ x = y) ∨ m_may u (16 * x.toNatClampNeg + y.toNatClampNeg) = true then (false, m_s_th u 0)
  else (true, m_s_th (m_s_nR (m_s_may u (va_up (va_up (m_may u) (16 * x.toNatClampNeg + y.toNatClampNeg) true) (16 * y.toNatClampNeg + x.toNatClampNeg) true)) 0) 0)
def M_culprit (u : MSt) (x : Int32) : Int32 := if m_gu u = true ∧ ¬ x < 0 ∧ ¬ nI 4 ≤ x then nI (m_cul u x.toNatClampNeg) else -1
def M_unsure (u : MSt) (x : Int32) (b : Bool) : Bool × MSt :=
  if ixB x (m_nV u) = false then (false, m_s_th u 1) else if m_un u x.toNatClampNeg = b then (false, m_s_th u 0)
  else (true, m_s_th (m_s_nR (m_s_un u (va_up (m_un u) x.toNatClampNeg b)) 0) 0)
/-- the places j .. k - 1 hold what stood one behind -/
def sh {β : Type} (g : Nat → β) (j k : Nat) : Nat → β := fun t => if j ≤ t ∧ t < k then g (t + 1) else g t
theorem sh_0 {β : Type} {g : Nat → β} {j : Nat} : g = sh g j j := by
  funext t; unfold sh; rw [if_neg (by omega)]
theorem sh_s {β : Type} {g g1 : Nat → β} {j k : Nat} (h : g1 = sh g j k) (hk : j ≤ k) : va_up g1 k (g1 (k + 1)) = sh g j (k + 1) := by
  funext t
  subst h
  unfold va_up sh
  by_cases e : t = k
  · subst e
    rw [if_pos rfl, if_neg (by omega), if_pos (by omega)]
  · rw [if_neg e]
    by_cases e2 : j ≤ t ∧ t < k
    · rw [if_pos e2, if_pos (by omega)]
    · rw [if_neg e2, if_neg (by omega)]
def M_drop (u : MSt) (x : Int32) : Bool × MSt :=
  if ixB x (m_nR u) = false then (false, m_s_th u 0)
  else (true, m_s_th (m_s_rc (m_s_rw (m_s_rl (m_s_rf (m_s_nR u (m_nR u - 1)) (sh (m_rf u) x.toNatClampNeg (m_nR u - 1))) (sh (m_rl u) x.toNatClampNeg (m_nR u - 1))) (sh (m_rw u) x.toNatClampNeg (m_nR u - 1))) (sh (m_rc u) x.toNatClampNeg (m_nR u - 1))) 0)
/-- the place with so many set places below it -/
def nthB (g : Nat → Bool) (k : Nat) : Nat → Option Nat
  | 0 => none
  | n + 1 => match nthB g k n with
    | some v => some v
    | none => if g n = true ∧ pcn g n = k then some n else none
theorem nthB_n {g : Nat → Bool} {k n : Nat} (h : nthB g k n = none) (h2 : g n = true → pcn g n = k → False) : nthB g k (n + 1) = none := by
  unfold nthB; rw [h]; simp only []; rw [if_neg (fun q => h2 q.1 q.2)]
theorem nthB_up {g : Nat → Bool} {k n v : Nat} (h : nthB g k n = some v) : ∀ d, nthB g k (n + d) = some v
  | 0 => h
  | d + 1 => by show nthB g k ((n + d) + 1) = _; unfold nthB; rw [nthB_up h d]
theorem nthB_at {g : Nat → Bool} {k v n : Nat} (h : nthB g k v = none) (hn : v + 1 ≤ n) (hg : g v = true) (hk : pcn g v = k) : nthB g k n = some v := by
  have h1 : nthB g k (v + 1) = some v := by unfold nthB; rw [h]; simp only []; rw [if_pos ⟨hg, hk⟩]
  have := nthB_up h1 (n - (v + 1))
  rwa [show v + 1 + (n - (v + 1)) = n by omega] at this
def oI (o : Option Nat) : Int32 := match o with
  | some v => nI v
  | none => -1
def rowN (u : MSt) (i k : Nat) : Int32 := if k = 0 then nI (m_rf u i) else if k = 1 then nI (m_rl u i) else if k = 2 then nI (pcn (tb (m_rw u i)) 64) else if k = 3 then nI (pcn (tb (m_rc u i)) 64) else oI (nthB (tb (m_rc u i)) (k - 4) (m_nV u))
def M_row (u : MSt) (x y : Int32) : Int32 := if ixB x (m_nR u) = false ∨ y < 0 then -1 else rowN u x.toNatClampNeg y.toNatClampNeg
/-- the rows x and y have a space t in common and may not meet -/
def mM (u : MSt) (t x y : Nat) : Prop := tb (m_rw u x) t = true ∧ tb (m_rw u y) t = true ∧ m_may u (16 * m_rl u x + m_rl u y) = false
theorem mM_28 {P : Nat → Prop} {j k : Nat} (h : ∀ y, y < k → j < y → ¬ P y) (h2 : ¬ P k) : ∀ y, y < k + 1 → j < y → ¬ P y := by
  intro y h1 h3
  by_cases e : y = k
  · subst e; exact h2
  · exact h y (by omega) h3
theorem mM_13 {P : Nat → Nat → Prop} {a j k n : Nat} (h : ∀ x, x < j → a ≤ x → ∀ y, x < y → y < n → ¬ P x y) (h2 : ∀ y, y < k → j < y → ¬ P j y) (hk : n ≤ k) : ∀ x, x < j + 1 → a ≤ x → ∀ y, x < y → y < n → ¬ P x y := by
  intro x h1 h3 y h4 h5
  by_cases e : x = j
  · subst e; exact h2 y (by omega) h4
  · exact h x (by omega) h3 y h4 h5
theorem mM_2 {P : Nat → Nat → Nat → Prop} {a s j n : Nat} (h : ∀ t, t < s → ∀ x y, a ≤ x → x < y → y < n → ¬ P t x y) (h2 : ∀ x, x < j → a ≤ x → ∀ y, x < y → y < n → ¬ P s x y) (hj : n ≤ j) : ∀ t, t < s + 1 → ∀ x y, a ≤ x → x < y → y < n → ¬ P t x y := by
  intro t h1 x y h3 h4 h5
  by_cases e : t = s
  · subst e; exact h2 x (by omega) h3 y h4 h5
  · exact h t (by omega) x y h3 h4 h5
theorem mlets_cg {u v : MSt} {x f : Nat} (h7 : m_seat u = m_seat v) (h8 : m_op u = m_op v) (h9 : m_un u = m_un v) : mlets u x f = mlets v x f := by
  unfold mlets; rw [h7, h8, h9]
theorem mF_cg {u v : MSt} {a f : Nat} (h1 : m_nS u = m_nS v) (h2 : m_liq u = m_liq v) (h3 : m_nV u = m_nV v) (h4 : m_lev u = m_lev v) (h5 : m_fa u = m_fa v) (h6 : m_fb u = m_fb v) (h7 : m_seat u = m_seat v) (h8 : m_op u = m_op v) (h9 : m_un u = m_un v) : mF u a f = mF v a f := by
  have e1 : (fun x => mlets u x f) = fun x => mlets v x f := funext fun x => mlets_cg h7 h8 h9
  have e2 : mS u a = mS v a := by unfold mS; rw [h1, h2]
  unfold mF mFl
  rw [e1, e2, h3, h4, h5, h6]
theorem mC_cg {u v : MSt} {x : Int64} {f : Nat} (h3 : m_nV u = m_nV v) (h4 : m_lev u = m_lev v) (h5 : m_fa u = m_fa v) (h6 : m_fb u = m_fb v) (h7 : m_seat u = m_seat v) (h8 : m_op u = m_op v) (h9 : m_un u = m_un v) : mC u x f = mC v x f := by
  unfold mC
  refine ofB_congr fun i _ => ?_
  unfold mCb
  rw [mlets_cg h7 h8 h9, h3, h4, h5, h6]
theorem mTh_cg {u v : MSt} {a : Nat} (h1 : m_nS u = m_nS v) (h2 : m_liq u = m_liq v) : mTh u a = mTh v a := by
  unfold mTh; rw [h1, h2]
end
section
/-! set -/
def mt (u : MSt) (i j : Nat) : Bool := decide (m_rf u j = i + 1) || (tb (m_rw u j) (m_fa u i) || tb (m_rw u j) (m_fb u i))
noncomputable def sF (u v : MSt) (j : Nat) : Int64 := mF v (m_rl u j) (m_rf u j)
noncomputable def sC (u v : MSt) (j : Nat) : Int64 := mC v (mF v (m_rl u j) (m_rf u j)) (m_rf u j)
def mK (u : MSt) (g : Nat → Int64) (x y : Nat) : Prop := m_rf u x = m_rf u y ∧ ¬ (g x &&& g y) = 0 ∧ m_may u (16 * m_rl u x + m_rl u y) = false
theorem up_if {β : Type} {g r F : Nat → β} {t : Nat → Bool} {k : Nat} (h : ∀ j, g j = if j < k ∧ t j = true then F j else r j) (ht : t k = true) : ∀ j, va_up g k (F k) j = if j < k + 1 ∧ t j = true then F j else r j := by
  intro j
  unfold va_up
  by_cases e : j = k
  · subst e; rw [if_pos rfl, if_pos ⟨by omega, ht⟩]
  · rw [if_neg e, h j]
    by_cases e2 : j < k ∧ t j = true
    · rw [if_pos e2, if_pos ⟨by omega, e2.2⟩]
    · rw [if_neg e2, if_neg (fun q => e2 ⟨by omega, q.2⟩)]
theorem up_no {β : Type} {g r F : Nat → β} {t : Nat → Bool} {k : Nat} (h : ∀ j, g j = if j < k ∧ t j = true then F j else r j) (ht : t k = false) : ∀ j, g j = if j < k + 1 ∧ t j = true then F j else r j := by
  intro j
  rw [h j]
  by_cases e : j = k
  · subst e; rw [if_neg (by omega), if_neg (fun q => absurd (q.2.symm.trans ht) (by decide))]
  · by_cases e2 : j < k ∧ t j = true
    · rw [if_pos e2, if_pos ⟨by omega, e2.2⟩]
    · rw [if_neg e2, if_neg (fun q => e2 ⟨by omega, q.2⟩)]
theorem up_at {β : Type} {g r F : Nat → β} {t : Nat → Bool} {k : Nat} (h : ∀ j, g j = if j < k ∧ t j = true then F j else r j) : g k = r k := by
  rw [h k, if_neg (by omega)]
theorem MOk_set {u : MSt} {o : Nat → Bool} {g3 g4 : Nat → Int64} {t : Nat} {w : Nat → Bool} (hu : MOk u) (ht : t ≤ 975) : MOk (m_mk (m_liq u) (m_lev u) (m_nS u) (m_fa u) (m_fb u) (m_seat u) o (m_un u) (m_nV u) (m_may u) (m_nR u) (m_rf u) (m_rl u) g3 g4 (m_cul u) (m_gu u) t 0 w) := by
  obtain ⟨k1, k2, k3, k4, k5, k6, k7, k8, k9, k10, k11⟩ := hu
  exact ⟨k1, k2, k3, k4, k5, k6, k7, k8, k9, ht, k11⟩
section KK
variable {P : Nat → Nat → Prop} {n j k : Nat} {Z : Prop} {b : Bool}
theorem kk_1 (h : b = true ↔ (Z ∧ ∀ x y, x < j → x < y → y < n → ¬ P x y)) : b = true ↔ (Z ∧ (∀ x y, x < j → x < y → y < n → ¬ P x y) ∧ ∀ y, j < y → y < j + 1 → ¬ P j y) :=
  ⟨fun q => ⟨(h.mp q).1, (h.mp q).2, fun y h1 h2 => absurd h1 (by omega)⟩, fun q => h.mpr ⟨q.1, q.2.1⟩⟩
theorem kk_k {c : Bool} (h : b = true ↔ (Z ∧ (∀ x y, x < j → x < y → y < n → ¬ P x y) ∧ ∀ y, j < y → y < k → ¬ P j y)) (hb : b = true) (hjk : j < k) (hc : c = true ↔ ¬ P j k) : c = true ↔ (Z ∧ (∀ x y, x < j → x < y → y < n → ¬ P x y) ∧ ∀ y, j < y → y < k + 1 → ¬ P j y) := by
  obtain ⟨z1, z2, z3⟩ := h.mp hb
  constructor
  · intro q
    refine ⟨z1, z2, fun y h1 h2 => ?_⟩
    by_cases e : y = k
    · subst e; exact hc.mp q
    · exact z3 y h1 (by omega)
  · intro q
    exact hc.mpr (q.2.2 k hjk (by omega))
theorem kk_s (h : b = true ↔ (Z ∧ (∀ x y, x < j → x < y → y < n → ¬ P x y) ∧ ∀ y, j < y → y < k → ¬ P j y)) (hkn : k ≤ n) (hk : n ≤ k ∨ b = false) : b = true ↔ (Z ∧ ∀ x y, x < j + 1 → x < y → y < n → ¬ P x y) := by
  constructor
  · intro q
    obtain ⟨z1, z2, z3⟩ := h.mp q
    refine ⟨z1, fun x y h1 h2 h3 => ?_⟩
    have hk : n ≤ k := hk.elim id (fun e => absurd (q.symm.trans e) (by decide))
    by_cases e : x = j
    · subst e; exact z3 y h2 (by omega)
    · exact z2 x y (by omega) h2 h3
  · intro q
    exact h.mpr ⟨q.1, fun x y h1 h2 h3 => q.2 x y (by omega) h2 h3, fun y h1 h2 => q.2 j y (by omega) h1 (by omega)⟩
theorem kk_e (h : b = true ↔ (Z ∧ ∀ x y, x < j → x < y → y < n → ¬ P x y)) (hj : n ≤ j ∨ b = false) : b = true ↔ (Z ∧ ∀ x y, x < y → y < n → ¬ P x y) := by
  constructor
  · intro q
    obtain ⟨z1, z2⟩ := h.mp q
    have hj : n ≤ j := hj.elim id (fun e => absurd (q.symm.trans e) (by decide))
    exact ⟨z1, fun x y h1 h2 => z2 x y (by omega) h1 h2⟩
  · intro q
    exact h.mpr ⟨q.1, fun x y _ h2 h3 => q.2 x y h2 h3⟩
end KK
/-! safe -/
theorem pcn_st {g : Nat → Bool} {a : Nat} (h : g a = true) : pcn g (a + 1) = pcn g a + 1 := by show pcn g a + (if g a = true then 1 else 0) = _; rw [if_pos h]
theorem pcn_sf {g : Nat → Bool} {a : Nat} (h : g a = false) : pcn g (a + 1) = pcn g a := by show pcn g a + (if g a = true then 1 else 0) = _; rw [if_neg (fun q => absurd (q.symm.trans h) (by decide))]; rfl
theorem pcn_mono {g : Nat → Bool} {a : Nat} : ∀ {b : Nat}, a ≤ b → pcn g a ≤ pcn g b
  | 0, h => by rw [show a = 0 by omega]; exact Nat.le_refl _
  | b + 1, h => by
    rcases Nat.lt_or_ge a (b + 1) with q | q
    · have := pcn_mono (g := g) (a := a) (b := b) (by omega)
      have h2 : pcn g b ≤ pcn g (b + 1) := Nat.le_add_right _ _
      omega
    · rw [show a = b + 1 by omega]; exact Nat.le_refl _
theorem pcn_lt {g : Nat → Bool} {a b : Nat} (h : g a = true) (hb : a < b) : pcn g a < pcn g b := by
  have h1 : pcn g (a + 1) = pcn g a + 1 := pcn_st h
  have h2 := pcn_mono (g := g) (show a + 1 ≤ b by omega)
  omega
theorem pcn_inv {g : Nat → Bool} {r : Nat} : ∀ {m : Nat}, r < pcn g m → ∃ a, a < m ∧ g a = true ∧ pcn g a = r
  | 0, h => absurd h (Nat.not_lt_zero _)
  | m + 1, h => by
    rcases Nat.lt_or_ge r (pcn g m) with q | q
    · obtain ⟨a, h1, h2, h3⟩ := pcn_inv q
      exact ⟨a, by omega, h2, h3⟩
    · unfold pcn at h
      cases hg : g m with
      | true => rw [hg] at h; simp at h; exact ⟨m, by omega, hg, by omega⟩
      | false => rw [hg] at h; simp at h; omega
theorem pcn_eq {g : Nat → Bool} {a b : Nat} (ha : g a = true) (hb : g b = true) (h : pcn g a = pcn g b) : a = b := by
  rcases Nat.lt_trichotomy a b with q | q | q
  · have := pcn_lt ha q; omega
  · exact q
  · have := pcn_lt hb q; omega
theorem pcn_1 {g : Nat → Bool} (h0 : g 0 = false) : ∀ a, pcn g (a + 1) ≤ a
  | 0 => by unfold pcn; rw [h0]; exact Nat.le_refl _
  | a + 1 => by have := pcn_1 h0 a; unfold pcn; split <;> omega
/-- the rows so far: of the failures below f all, of f those of the liquids below a -/
def RT (th : Nat → Bool) (F C : Nat → Nat → Int64) (f a n : Nat) (g1 g2 : Nat → Nat) (g3 g4 : Nat → Int64) : Prop :=
  n = f * pcn th 16 + pcn th a ∧ ∀ x y, th y = true → (x < f ∧ y < 16 ∨ x = f ∧ y < a) → g1 (x * pcn th 16 + pcn th y) = x ∧ g2 (x * pcn th 16 + pcn th y) = y ∧ g3 (x * pcn th 16 + pcn th y) = F y x ∧ g4 (x * pcn th 16 + pcn th y) = C y x
theorem RT_0 {th : Nat → Bool} {F C : Nat → Nat → Int64} {g1 g2 : Nat → Nat} {g3 g4 : Nat → Int64} (h0 : th 0 = false) : RT th F C 0 1 0 g1 g2 g3 g4 := by
  refine ⟨by rw [pcn_sf h0, Nat.zero_mul]; rfl, fun x y h1 h2 => ?_⟩
  rcases h2 with h2 | ⟨-, h2⟩
  · exact absurd h2.1 (Nat.not_lt_zero _)
  · rw [show y = 0 by omega, h0] at h1; cases h1
theorem RT_f {th : Nat → Bool} {F C : Nat → Nat → Int64} {f a n : Nat} {g1 g2 : Nat → Nat} {g3 g4 : Nat → Int64} (h : RT th F C f a n g1 g2 g3 g4) (ha : th a = false) : RT th F C f (a + 1) n g1 g2 g3 g4 := by
  refine ⟨by rw [h.1, pcn_sf ha], fun x y h1 h2 => h.2 x y h1 ?_⟩
  rcases h2 with h2 | ⟨h2, h3⟩
  · exact Or.inl h2
  · refine Or.inr ⟨h2, ?_⟩
    rcases Nat.lt_or_ge y a with q | q
    · exact q
    · rw [show y = a by omega, ha] at h1; cases h1
theorem RT_old {th : Nat → Bool} {f a x y : Nat} (h1 : th y = true) (h2 : x < f ∧ y < 16 ∨ x = f ∧ y < a) : x * pcn th 16 + pcn th y < f * pcn th 16 + pcn th a := by
  rcases h2 with ⟨h2, h3⟩ | ⟨h2, h3⟩
  · have := pcn_lt h1 h3
    have h4 := Nat.mul_le_mul_right (pcn th 16) (show x + 1 ≤ f by omega)
    rw [Nat.add_mul] at h4
    omega
  · have := pcn_lt h1 h3
    subst h2; omega
theorem RT_t {th : Nat → Bool} {F C : Nat → Nat → Int64} {f a n : Nat} {g1 g2 : Nat → Nat} {g3 g4 : Nat → Int64} (h : RT th F C f a n g1 g2 g3 g4) (ha : th a = true) : RT th F C f (a + 1) (n + 1) (va_up g1 n f) (va_up g2 n a) (va_up g3 n (F a f)) (va_up g4 n (C a f)) := by
  refine ⟨by rw [h.1, pcn_st ha, Nat.add_assoc], fun x y h1 h2 => ?_⟩
  by_cases e : x = f ∧ y = a
  · obtain ⟨rfl, rfl⟩ := e
    rw [← h.1, va_up_self, va_up_self, va_up_self, va_up_self]
    exact ⟨rfl, rfl, rfl, rfl⟩
  · have h3 : x < f ∧ y < 16 ∨ x = f ∧ y < a := by
      rcases h2 with h2 | ⟨h2, h3⟩
      · exact Or.inl h2
      · refine Or.inr ⟨h2, ?_⟩
        have : y ≠ a := fun q => e ⟨h2, q⟩
        omega
    have h4 := RT_old h1 h3
    rw [← h.1] at h4
    have h5 : x * pcn th 16 + pcn th y ≠ n := Nat.ne_of_lt h4
    rw [va_up_ne _ _ h5, va_up_ne _ _ h5, va_up_ne _ _ h5, va_up_ne _ _ h5]
    exact h.2 x y h1 h3
theorem RT_n {th : Nat → Bool} {F C : Nat → Nat → Int64} {f n : Nat} {g1 g2 : Nat → Nat} {g3 g4 : Nat → Int64} (h : RT th F C f 16 n g1 g2 g3 g4) (h0 : th 0 = false) : RT th F C (f + 1) 1 n g1 g2 g3 g4 := by
  refine ⟨by rw [h.1, Nat.add_mul, show pcn th 1 = 0 by rw [pcn, h0]; rfl]; omega, fun x y h1 h2 => h.2 x y h1 ?_⟩
  rcases h2 with ⟨h2, h3⟩ | ⟨h2, h3⟩
  · by_cases e : x = f
    · exact Or.inr ⟨e, h3⟩
    · exact Or.inl ⟨by omega, h3⟩
  · rw [show y = 0 by omega, h0] at h1; cases h1
theorem RT_lt {th : Nat → Bool} {F C : Nat → Nat → Int64} {f a n : Nat} {g1 g2 : Nat → Nat} {g3 g4 : Nat → Int64} (h : RT th F C f a n g1 g2 g3 g4) (h0 : th 0 = false) (hf : f ≤ 64) (h1 : 1 ≤ a) (ha : a ≤ 15) : n < 975 := by
  have q1 : pcn th 16 ≤ 15 := pcn_1 h0 15
  have q2 : pcn th a ≤ a - 1 := by
    have := pcn_1 h0 (a - 1)
    rwa [show a - 1 + 1 = a by omega] at this
  have q3 := Nat.mul_le_mul hf q1
  have := h.1
  omega
theorem RT_le {th : Nat → Bool} {F C : Nat → Nat → Int64} {f a n : Nat} {g1 g2 : Nat → Nat} {g3 g4 : Nat → Int64} (h : RT th F C f a n g1 g2 g3 g4) (h0 : th 0 = false) (hf : f ≤ 64) (ha : a ≤ 16) : n ≤ 975 := by
  have q1 : pcn th 16 ≤ 15 := pcn_1 h0 15
  have q2 : pcn th a ≤ pcn th 16 := pcn_mono ha
  have q3 := Nat.mul_le_mul hf q1
  have := h.1
  omega
theorem up_bd {g : Nat → Nat} {M k x : Nat} (h : ∀ j, g j < M) (hx : x < M) : ∀ j, va_up g k x j < M := by
  intro j; unfold va_up; split
  · exact hx
  · exact h j
theorem MOk_safe {u : MSt} {n : Nat} {g1 g2 cu : Nat → Nat} {g3 g4 : Nat → Int64} {b : Bool} {w : Nat → Bool} (hu : MOk u) (hn : n ≤ 975) (h1 : ∀ j, g1 j < 65) (h2 : ∀ j, g2 j < 16) : MOk (m_mk (m_liq u) (m_lev u) (m_nS u) (m_fa u) (m_fb u) (m_seat u) (m_op u) (m_un u) (m_nV u) (m_may u) n g1 g2 g3 g4 cu b (m_te u) 0 w) := by
  obtain ⟨k1, k2, k3, k4, k5, k6, k7, k8, k9, k10, k11⟩ := hu
  exact ⟨k1, k2, hn, k4, k5, k6, h1, h2, k9, k10, k11⟩
theorem mTh_0 (u : MSt) : mTh u 0 = false := by unfold mTh; simp
/-- in failure f the liquids a and b are in space t and may not meet -/
def mCl (u : MSt) (f t a b : Nat) : Prop := mTh u a = true ∧ mTh u b = true ∧ a < b ∧ b < 16 ∧ tb (mF u a f) t = true ∧ tb (mF u b f) t = true ∧ m_may u (16 * a + b) = false
def mCul (u : MSt) (f t a b : Nat) : Prop := t < m_nS u ∧ mCl u f t a b ∧ (∀ t2, t2 < t → ∀ x y, ¬ mCl u f t2 x y) ∧ (∀ x, x < a → ∀ y, ¬ mCl u f t x y) ∧ ∀ y, y < b → ¬ mCl u f t a y
def mNo (u : MSt) (f : Nat) : Prop := ∀ t a b, t < m_nS u → ¬ mCl u f t a b
abbrev cu4 (c : Nat → Nat) (f t a b : Nat) : Nat → Nat := va_up (va_up (va_up (va_up c 0 f) 1 t) 2 a) 3 b
def mG (u : MSt) (f : Nat) (b : Bool) (cu : Nat → Nat) : Prop := (b = false ∧ cu = m_cul u ∧ ∀ x, x < f → mNo u x) ∨ (b = true ∧ ∃ f0 t a c, f = f0 + 1 ∧ (∀ x, x < f0 → mNo u x) ∧ mCul u f0 t a c ∧ cu = cu4 (m_cul u) f0 t a c)
/-- what meet says of the rows of one failure -/
theorem mG_step {u U : MSt} {f n n2 : Nat} {g1 g2 h1 h2 : Nat → Nat} {g3 g4 h3 h4 : Nat → Int64} {b0 b : Bool} {cu0 cu : Nat → Nat} (hg : mG u f b0 cu0) (hb0 : b0 = false)
    (ha : RT (mTh u) (mF u) (fun a x => mC u (mF u a x) x) f 1 n g1 g2 g3 g4) (hR : RT (mTh u) (mF u) (fun a x => mC u (mF u a x) x) f 16 n2 h1 h2 h3 h4)
    (e1 : m_nS U = m_nS u) (e2 : m_nR U = n2) (e3 : m_rw U = h3) (e4 : m_rl U = h2) (e5 : m_may U = m_may u) (e6 : m_cul U = cu0)
    (hm : (b = false ∧ cu = m_cul U ∧ ∀ t x y, t < m_nS U → n ≤ x → x < y → y < m_nR U → ¬ mM U t x y) ∨ (b = true ∧ ∃ t x y, t < m_nS U ∧ n ≤ x ∧ x < y ∧ y < m_nR U ∧ mM U t x y ∧ (∀ t2, t2 < t → ∀ x2 y2, n ≤ x2 → x2 < y2 → y2 < m_nR U → ¬ mM U t2 x2 y2) ∧ (∀ x2, x2 < x → n ≤ x2 → ∀ y2, x2 < y2 → y2 < m_nR U → ¬ mM U t x2 y2) ∧ (∀ y2, y2 < y → x < y2 → ¬ mM U t x y2) ∧ cu = cu4 (m_cul U) f t (m_rl U x) (m_rl U y))) : mG u (f + 1) b cu := by
  obtain ⟨-, ecu, hno⟩ : b0 = false ∧ cu0 = m_cul u ∧ ∀ x, x < f → mNo u x := by
    rcases hg with q | q
    · exact q
    · exact absurd (hb0.symm.trans q.1) (by decide)
  have hn : n = f * pcn (mTh u) 16 := by
    have := ha.1
    rw [show pcn (mTh u) 1 = 0 by rw [pcn, mTh_0]; rfl] at this
    omega
  have hn2 := hR.1
  -- a clash of liquids is one of rows
  have to : ∀ t a c, mCl u f t a c → n ≤ f * pcn (mTh u) 16 + pcn (mTh u) a ∧ f * pcn (mTh u) 16 + pcn (mTh u) a < f * pcn (mTh u) 16 + pcn (mTh u) c ∧ f * pcn (mTh u) 16 + pcn (mTh u) c < m_nR U ∧ mM U t (f * pcn (mTh u) 16 + pcn (mTh u) a) (f * pcn (mTh u) 16 + pcn (mTh u) c) := by
    intro t a c ⟨q1, q2, q3, q4, q5, q6, q7⟩
    have p1 := pcn_lt q1 q3
    have p2 := pcn_lt q2 q4
    obtain ⟨-, r2, r3, -⟩ := hR.2 f a q1 (Or.inr ⟨rfl, by omega⟩)
    obtain ⟨-, s2, s3, -⟩ := hR.2 f c q2 (Or.inr ⟨rfl, q4⟩)
    refine ⟨by omega, by omega, by omega, ?_⟩
    unfold mM
    rw [e3, e4, e5, r2, r3, s2, s3]
    exact ⟨q5, q6, q7⟩
  -- and back
  have fro : ∀ t x y, n ≤ x → x < y → y < m_nR U → mM U t x y → ∃ a c, x = f * pcn (mTh u) 16 + pcn (mTh u) a ∧ y = f * pcn (mTh u) 16 + pcn (mTh u) c ∧ mCl u f t a c ∧ m_rl U x = a ∧ m_rl U y = c := by
    intro t x y q1 q2 q3 q4
    obtain ⟨a, a1, a2, a3⟩ := pcn_inv (g := mTh u) (r := x - n) (m := 16) (by omega)
    obtain ⟨c, c1, c2, c3⟩ := pcn_inv (g := mTh u) (r := y - n) (m := 16) (by omega)
    have ex : x = f * pcn (mTh u) 16 + pcn (mTh u) a := by omega
    have ey : y = f * pcn (mTh u) 16 + pcn (mTh u) c := by omega
    obtain ⟨-, r2, r3, -⟩ := hR.2 f a a2 (Or.inr ⟨rfl, a1⟩)
    obtain ⟨-, s2, s3, -⟩ := hR.2 f c c2 (Or.inr ⟨rfl, c1⟩)
    have hac : a < c := by
      rcases Nat.lt_or_ge a c with z | z
      · exact z
      · have := pcn_mono (g := mTh u) z; omega
    unfold mM at q4
    rw [e3, e4, e5, ex, ey, r2, r3, s2, s3] at q4
    refine ⟨a, c, ex, ey, ⟨a2, c2, hac, c1, q4.1, q4.2.1, q4.2.2⟩, ?_, ?_⟩
    · rw [e4, ex, r2]
    · rw [e4, ey, s2]
  rcases hm with ⟨q1, q2, q3⟩ | ⟨q1, t, x, y, p1, p2, p3, p4, p5, p6, p7, p8, p9⟩
  · refine Or.inl ⟨q1, by rw [q2, e6, ecu], fun z hz => ?_⟩
    by_cases e : z = f
    · subst e
      intro t a c ht hc
      obtain ⟨r1, r2, r3, r4⟩ := to t a c hc
      exact q3 t _ _ (by rw [e1]; exact ht) r1 r2 r3 r4
    · exact hno z (by omega)
  · obtain ⟨a, c, ex, ey, hcl, ra, rc⟩ := fro t x y p2 p3 p4 p5
    refine Or.inr ⟨q1, f, t, a, c, rfl, hno, ⟨by rw [← e1]; exact p1, hcl, ?_, ?_, ?_⟩, by rw [p9, ra, rc, e6, ecu]⟩
    · intro t2 ht x2 y2 hc
      obtain ⟨r1, r2, r3, r4⟩ := to t2 x2 y2 hc
      exact p6 t2 ht _ _ r1 r2 r3 r4
    · intro x2 hx y2 hc
      obtain ⟨r1, r2, r3, r4⟩ := to t x2 y2 hc
      have := pcn_lt hc.1 hx
      exact p7 _ (by omega) r1 _ r2 r3 r4
    · intro y2 hy hc
      obtain ⟨r1, r2, r3, r4⟩ := to t a y2 hc
      have := pcn_lt hc.2.1 hy
      rw [ex] at p8
      exact p8 _ (by omega) r2 r4
end
section
set_option maxHeartbeats 4000000 in
set_option maxRecDepth 100000 in
theorem c_M_thrown (l : Launch) (dC : Nat → ClassId) (dI : Nat → Nat → Nat) (q : MA) (u : MSt)  : Met l y_M_thrown w_M_thrown ({ frames := 0, cells := 0, slots := 0, locals := 0 }) (sPc (dC, dI) vwCl (tM q) (wM q u) [Value.ref (ma_o q)]) (vp_Si (fun r : Int32 => r = nI (m_th u))) 0 0 (fun _ => False) := by
  refine Met.ofW (cc := b_M_thrown) (maxL := 1) (ret := (some .int)) (by decide) rfl ?_
  intro p e s m args below meth c s₁ B hml hv
  obtain ⟨rfl, hP, hK, hN⟩ := hv
  have hx := B.exec
  have hb := B.bytes
  have hr := B.returns
  have hts := atoms_spec (ws := w_M_thrown) B.pre
  have hown : s.vm.findClass "SeatProofsModel" = some m.cls := findClass_of_methodNamed B.named
  have hlocks := B.notSynchronized
  have hl := lv_entry ([Value.ref (ma_o q)]) (n := 1) (Nat.le_of_ble_eq_true rfl)
  rw [lg_entry_eq]
  generalize (lg_sl ([Value.ref (ma_o q)]) ++ List.replicate (1 - (lg_sl ([Value.ref (ma_o q)])).length) Slot.unset).toArray = ls at hl ⊢
  have hl : lv_has ls 1 [(0, .ref (ma_o q))] := hl
  refine lv_aload_n hx hb d_M_thrown_0 rfl (lv_at hl 0 rfl) ?_
  refine va_get (D := (dC, dI)) (ci := 4) (v := .int (nI (m_th u))) (C := "SeatProofsModel") (T := F_M) (N := 20) hx hb hts (iu_M _) hown hK hP 0 rfl rfl 18 (by decide) (hts _ (List.mem_cons_of_mem _ iw_458)) (fun _ h9 => h9) rfl d_M_thrown_1 ?_
  exact W.iret hx hb hr (fun t9 ht9 _ => ⟨_, rfl, rfl, ht9⟩) (fun _ h => by cases h) d_M_thrown_4
set_option maxHeartbeats 4000000 in
set_option maxRecDepth 100000 in
theorem c_M_isSpace (l : Launch) (dC : Nat → ClassId) (dI : Nat → Nat → Nat) (q : MA) (u : MSt) (x : Int32) : Met l y_M_isSpace w_M_isSpace ({ frames := 0, cells := 0, slots := 0, locals := 0 }) (sPc (dC, dI) vwCl (tM q) (wM q u) [Value.ref (ma_o q), Value.int x]) (vp_Si (fun r : Int32 => r = bI (ixB x (m_nS u)))) 0 0 (fun _ => False) := by
  refine Met.ofW (cc := b_M_isSpace) (maxL := 2) (ret := (some .boolean)) (by decide) rfl ?_
  intro p e s m args below meth c s₁ B hml hv
  obtain ⟨rfl, hP, hK, hN⟩ := hv
  have hx := B.exec
  have hb := B.bytes
  have hr := B.returns
  have hts := atoms_spec (ws := w_M_isSpace) B.pre
  have hown : s.vm.findClass "SeatProofsModel" = some m.cls := findClass_of_methodNamed B.named
  have hlocks := B.notSynchronized
  have hl := lv_entry ([Value.ref (ma_o q), Value.int x]) (n := 2) (Nat.le_of_ble_eq_true rfl)
  rw [lg_entry_eq]
  generalize (lg_sl ([Value.ref (ma_o q), Value.int x]) ++ List.replicate (2 - (lg_sl ([Value.ref (ma_o q), Value.int x])).length) Slot.unset).toArray = ls at hl ⊢
  have hl : lv_has ls 2 [(0, .ref (ma_o q)), (1, .int x)] := hl
  refine lv_iload_n hx hb d_M_isSpace_0 rfl (lv_at hl 1 rfl) ?_
  refine lv_if_lt (tgt := 16) hx hb d_M_isSpace_1 (by decide) (fun c_1 => ?_) (fun c_1 => ?_)
  · refine lv_iconst (v := nI 0) hx hb d_M_isSpace_16 (by decide) ?_
    refine tp_i (bI false) (by decide) ?_
    exact W.zret hx hb hr (bI_narrow _) (fun t9 ht9 _ => ⟨_, rfl, (by simp [ixB, c_1]), ht9⟩) (fun _ h => by cases h) d_M_isSpace_17
  · refine lv_iload_n hx hb d_M_isSpace_4 rfl (lv_at hl 1 rfl) ?_
    refine lv_aload_n hx hb d_M_isSpace_5 rfl (lv_at hl 0 rfl) ?_
    refine va_get (D := (dC, dI)) (ci := 4) (v := .int (nI (m_nS u))) (C := "SeatProofsModel") (T := F_M) (N := 20) hx hb hts (iu_M _) hown hK hP 0 rfl rfl 2 (by decide) (hts _ (List.mem_cons_of_mem _ iw_442)) (fun _ h9 => h9) rfl d_M_isSpace_6 ?_
    refine lv_icmp_ge (tgt := 16) hx hb d_M_isSpace_9 (by decide) (fun c_2 => ?_) (fun c_2 => ?_)
    · refine lv_iconst (v := nI 0) hx hb d_M_isSpace_16 (by decide) ?_
      refine tp_i (bI false) (by decide) ?_
      exact W.zret hx hb hr (bI_narrow _) (fun t9 ht9 _ => ⟨_, rfl, (by simp [ixB, c_1, c_2]), ht9⟩) (fun _ h => by cases h) d_M_isSpace_17
    · refine lv_iconst (v := nI 1) hx hb d_M_isSpace_12 (by decide) ?_
      refine lv_goto (tgt := 17) hx hb d_M_isSpace_13 (by decide) ?_
      refine tp_i (bI true) (by decide) ?_
      exact W.zret hx hb hr (bI_narrow _) (fun t9 ht9 _ => ⟨_, rfl, (by simp [ixB, c_1, c_2]), ht9⟩) (fun _ h => by cases h) d_M_isSpace_17
set_option maxHeartbeats 4000000 in
set_option maxRecDepth 100000 in
theorem c_M_has (l : Launch) (x : Int64) (k : Nat) (hk : k < 64) : Met l y_M_has w_M_has ({ frames := 0, cells := 0, slots := 0, locals := 0 }) (va_Pc [Value.long x, Value.int (nI k)] NW) (vp_Si (fun r : Int32 => r = bI (tb x k))) 0 0 (fun _ => False) := by
  refine Met.ofW (cc := b_M_has) (maxL := 3) (ret := (some .boolean)) (by decide) rfl ?_
  intro p e s m args below meth c s₁ B hml hv
  obtain ⟨rfl, hN⟩ := hv
  have hx := B.exec
  have hb := B.bytes
  have hr := B.returns
  have hts := atoms_spec (ws := w_M_has) B.pre
  have hown : s.vm.findClass "SeatProofsModel" = some m.cls := findClass_of_methodNamed B.named
  have hlocks := B.notSynchronized
  have hl := lv_entry ([Value.long x, Value.int (nI k)]) (n := 3) (Nat.le_of_ble_eq_true rfl)
  rw [lg_entry_eq]
  generalize (lg_sl ([Value.long x, Value.int (nI k)]) ++ List.replicate (3 - (lg_sl ([Value.long x, Value.int (nI k)])).length) Slot.unset).toArray = ls at hl ⊢
  have hl : lv_has ls 3 [(0, .long x), (2, .int (nI k))] := hl
  refine lv_lload_n hx hb d_M_has_0 rfl (lv_at hl 0 rfl) ?_
  refine lv_iload_n hx hb d_M_has_1 rfl (lv_at hl 1 rfl) ?_
  refine lv_lushr (v := (x.toUInt64 >>> ((nI k).toInt64.toUInt64 &&& Int64.toUInt64 63)).toInt64) hx hb d_M_has_2 rfl ?_
  refine lv_lconst (v := 1) hx hb d_M_has_3 (by decide) ?_
  refine lv_land hx hb d_M_has_4 ?_
  refine lv_lconst (v := 1) hx hb d_M_has_5 (by decide) ?_
  refine W.lcmp hx hb d_M_has_6 ?_
  refine l0_ne (tgt := 14) hx hb d_M_has_7 (by decide) (fun c_1 => ?_) (fun c_1 => ?_)
  · refine lv_iconst (v := nI 0) hx hb d_M_has_14 (by decide) ?_
    refine tp_i (bI false) (by decide) ?_
    exact W.zret hx hb hr (bI_narrow _) (fun t9 ht9 _ => ⟨_, rfl, (by rw [ts_nt (fun h => c_1 ((tb_shr1 x hk).mpr h))]), ht9⟩) (fun _ h => by cases h) d_M_has_15
  · refine lv_iconst (v := nI 1) hx hb d_M_has_10 (by decide) ?_
    refine lv_goto (tgt := 15) hx hb d_M_has_11 (by decide) ?_
    refine tp_i (bI true) (by decide) ?_
    exact W.zret hx hb hr (bI_narrow _) (fun t9 ht9 _ => ⟨_, rfl, (by rw [(tb_shr1 x hk).mp c_1]), ht9⟩) (fun _ h => by cases h) d_M_has_15
set_option maxHeartbeats 4000000 in
set_option maxRecDepth 100000 in
theorem c_M_lets (l : Launch) (dC : Nat → ClassId) (dI : Nat → Nat → Nat) (q : MA) (u : MSt) (v f : Nat) (hu : MOk u) (hv : v < 64) (hf : f < 65) : Met l y_M_lets w_M_lets ({ frames := 0, cells := 0, slots := 0, locals := 0 }) (sPc (dC, dI) vwCl (tM q) (wM q u) [Value.ref (ma_o q), Value.int (nI v), Value.int (nI f)]) (vp_Si (fun r : Int32 => r = bI (mlets u v f))) 0 0 (fun _ => False) := by
  refine Met.ofW (cc := b_M_lets) (maxL := 4) (ret := (some .boolean)) (by decide) rfl ?_
  intro p e s m args below meth c s₁ B hml hv
  obtain ⟨rfl, hP, hK, hN⟩ := hv
  have hx := B.exec
  have hb := B.bytes
  have hr := B.returns
  have hts := atoms_spec (ws := w_M_lets) B.pre
  have hown : s.vm.findClass "SeatProofsModel" = some m.cls := findClass_of_methodNamed B.named
  have hlocks := B.notSynchronized
  have hl := lv_entry ([Value.ref (ma_o q), Value.int (nI v), Value.int (nI f)]) (n := 4) (Nat.le_of_ble_eq_true rfl)
  rw [lg_entry_eq]
  generalize (lg_sl ([Value.ref (ma_o q), Value.int (nI v), Value.int (nI f)]) ++ List.replicate (4 - (lg_sl ([Value.ref (ma_o q), Value.int (nI v), Value.int (nI f)])).length) Slot.unset).toArray = ls at hl ⊢
  have hl : lv_has ls 4 [(0, .ref (ma_o q)), (1, .int (nI v)), (2, .int (nI f))] := hl
  obtain ⟨k1, k2, k3, k4, k5, k6, k7, k8, k9, k10, k11⟩ := id hu
  refine lv_iload_n hx hb d_M_lets_0 rfl (lv_at hl 2 rfl) ?_
  refine lv_iload_n hx hb d_M_lets_1 rfl (lv_at hl 1 rfl) ?_
  refine lv_iconst (v := nI 1) hx hb d_M_lets_2 (by decide) ?_
  refine lv_iadd hx hb d_M_lets_3 ?_
  refine tp_i (nI (v + 1)) (nI_add _ _) ?_
  have L12 : ∀ (b : Bool), (b = decide (f = v + 1)) → ∀ (ls : Array Slot), lv_has ls 4 [(0, .ref (ma_o q)), (1, .int (nI v)), (2, .int (nI f))] → W p l e (headSpec w_M_lets ({ frames := 0, cells := 0, slots := 0, locals := 0 })).room s m [Value.ref (ma_o q), Value.int (nI v), Value.int (nI f)].toArray below meth c s.heap [] 0 0 (MQ below (vp_Si (fun r : Int32 => r = bI (mlets u v f))) [Value.ref (ma_o q), Value.int (nI v), Value.int (nI f)].toArray s 0 0 (fun _ => False)) (F0 m 12 ls [.int (bI b)]) := by
    intro b hbf ls hl
    refine lv_istore_n (lv' := [(3, .int (bI b)), (0, .ref (ma_o q)), (1, .int (nI v)), (2, .int (nI f))]) hx hb d_M_lets_12 rfl hl (by decide) rfl (fun ls hl => ?_)
    refine lv_aload_n hx hb d_M_lets_13 rfl (lv_at hl 1 rfl) ?_
    refine va_get (D := (dC, dI)) (ci := 4) (v := .ref (ma_seat q)) (C := "SeatProofsModel") (T := F_M) (N := 20) hx hb hts (iu_M _) hown hK hP 0 rfl rfl 5 (by decide) (hts _ (List.mem_cons_of_mem _ iw_445)) (fun _ h9 => h9) rfl d_M_lets_14 ?_
    refine lv_iload_n hx hb d_M_lets_17 rfl (lv_at hl 2 rfl) ?_
    refine ld_i hx hb hK hP 5 0 rfl rfl (nI (m_seat u v)) (by omega) (by decide) rfl d_M_lets_18 ?_
    refine lv_iconst (v := nI 2) hx hb d_M_lets_19 (by decide) ?_
    refine nv_ne (tgt := 34) hx hb d_M_lets_20 (by decide) (by have := k11 v; omega) (by omega) (fun c_1 => ?_) (fun c_1 => ?_)
    · refine lv_aload_n hx hb d_M_lets_34 rfl (lv_at hl 1 rfl) ?_
      refine va_get (D := (dC, dI)) (ci := 4) (v := .ref (ma_un q)) (C := "SeatProofsModel") (T := F_M) (N := 20) hx hb hts (iu_M _) hown hK hP 0 rfl rfl 7 (by decide) (hts _ (List.mem_cons_of_mem _ iw_447)) (fun _ h9 => h9) rfl d_M_lets_35 ?_
      refine lv_iload_n hx hb d_M_lets_38 rfl (lv_at hl 2 rfl) ?_
      refine ld_z hx hb hK hP 7 2 rfl rfl (bI (m_un u v)) (by omega) (by decide) rfl d_M_lets_39 ?_
      refine b0_ne (tgt := 53) hx hb d_M_lets_40 (by decide) (fun c_2 => ?_) (fun c_2 => ?_)
      · refine lv_iconst (v := nI 1) hx hb d_M_lets_53 (by decide) ?_
        refine lv_goto (tgt := 58) hx hb d_M_lets_54 (by decide) ?_
        refine tp_i (bI true) (by decide) ?_
        exact W.zret hx hb hr (bI_narrow _) (fun t9 ht9 _ => ⟨_, rfl, (by rw [mlets, if_neg (fun h => c_1 h.1), c_2, Bool.true_or]), ht9⟩) (fun _ h => by cases h) d_M_lets_58
      · refine lv_aload_n hx hb d_M_lets_43 rfl (lv_at hl 1 rfl) ?_
        refine va_get (D := (dC, dI)) (ci := 4) (v := .ref (ma_op q)) (C := "SeatProofsModel") (T := F_M) (N := 20) hx hb hts (iu_M _) hown hK hP 0 rfl rfl 6 (by decide) (hts _ (List.mem_cons_of_mem _ iw_446)) (fun _ h9 => h9) rfl d_M_lets_44 ?_
        refine lv_iload_n hx hb d_M_lets_47 rfl (lv_at hl 2 rfl) ?_
        refine ld_z hx hb hK hP 6 2 rfl rfl (bI (m_op u v)) (by omega) (by decide) rfl d_M_lets_48 ?_
        refine lv_iload_n hx hb d_M_lets_49 rfl (lv_at hl 0 rfl) ?_
        refine bv_eq (tgt := 57) hx hb d_M_lets_50 (by decide) (fun c_3 => ?_) (fun c_3 => ?_)
        · refine lv_iconst (v := nI 0) hx hb d_M_lets_57 (by decide) ?_
          refine tp_i (bI false) (by decide) ?_
          exact W.zret hx hb hr (bI_narrow _) (fun t9 ht9 _ => ⟨_, rfl, (by rw [mlets, if_neg (fun h => c_1 h.1), c_2, Bool.false_or, ← hbf, c_3, bne_self_eq_false]), ht9⟩) (fun _ h => by cases h) d_M_lets_58
        · refine lv_iconst (v := nI 1) hx hb d_M_lets_53 (by decide) ?_
          refine lv_goto (tgt := 58) hx hb d_M_lets_54 (by decide) ?_
          refine tp_i (bI true) (by decide) ?_
          exact W.zret hx hb hr (bI_narrow _) (fun t9 ht9 _ => ⟨_, rfl, (by rw [mlets, if_neg (fun h => c_1 h.1), c_2, Bool.false_or, ← hbf, bne_iff_ne.mpr c_3]), ht9⟩) (fun _ h => by cases h) d_M_lets_58
    · refine lv_aload_n hx hb d_M_lets_23 rfl (lv_at hl 1 rfl) ?_
      refine va_get (D := (dC, dI)) (ci := 4) (v := .ref (ma_op q)) (C := "SeatProofsModel") (T := F_M) (N := 20) hx hb hts (iu_M _) hown hK hP 0 rfl rfl 6 (by decide) (hts _ (List.mem_cons_of_mem _ iw_446)) (fun _ h9 => h9) rfl d_M_lets_24 ?_
      refine lv_iload_n hx hb d_M_lets_27 rfl (lv_at hl 2 rfl) ?_
      refine ld_z hx hb hK hP 6 2 rfl rfl (bI (m_op u v)) (by omega) (by decide) rfl d_M_lets_28 ?_
      refine b0_ne (tgt := 34) hx hb d_M_lets_29 (by decide) (fun c_4 => ?_) (fun c_4 => ?_)
      · refine lv_aload_n hx hb d_M_lets_34 rfl (lv_at hl 1 rfl) ?_
        refine va_get (D := (dC, dI)) (ci := 4) (v := .ref (ma_un q)) (C := "SeatProofsModel") (T := F_M) (N := 20) hx hb hts (iu_M _) hown hK hP 0 rfl rfl 7 (by decide) (hts _ (List.mem_cons_of_mem _ iw_447)) (fun _ h9 => h9) rfl d_M_lets_35 ?_
        refine lv_iload_n hx hb d_M_lets_38 rfl (lv_at hl 2 rfl) ?_
        refine ld_z hx hb hK hP 7 2 rfl rfl (bI (m_un u v)) (by omega) (by decide) rfl d_M_lets_39 ?_
        refine b0_ne (tgt := 53) hx hb d_M_lets_40 (by decide) (fun c_5 => ?_) (fun c_5 => ?_)
        · refine lv_iconst (v := nI 1) hx hb d_M_lets_53 (by decide) ?_
          refine lv_goto (tgt := 58) hx hb d_M_lets_54 (by decide) ?_
          refine tp_i (bI true) (by decide) ?_
          exact W.zret hx hb hr (bI_narrow _) (fun t9 ht9 _ => ⟨_, rfl, (by rw [mlets, if_neg (fun h => absurd (h.2.symm.trans c_4) (by decide)), c_5, Bool.true_or]), ht9⟩) (fun _ h => by cases h) d_M_lets_58
        · refine lv_aload_n hx hb d_M_lets_43 rfl (lv_at hl 1 rfl) ?_
          refine va_get (D := (dC, dI)) (ci := 4) (v := .ref (ma_op q)) (C := "SeatProofsModel") (T := F_M) (N := 20) hx hb hts (iu_M _) hown hK hP 0 rfl rfl 6 (by decide) (hts _ (List.mem_cons_of_mem _ iw_446)) (fun _ h9 => h9) rfl d_M_lets_44 ?_
          refine lv_iload_n hx hb d_M_lets_47 rfl (lv_at hl 2 rfl) ?_
          refine ld_z hx hb hK hP 6 2 rfl rfl (bI (m_op u v)) (by omega) (by decide) rfl d_M_lets_48 ?_
          refine lv_iload_n hx hb d_M_lets_49 rfl (lv_at hl 0 rfl) ?_
          refine bv_eq (tgt := 57) hx hb d_M_lets_50 (by decide) (fun c_6 => ?_) (fun c_6 => ?_)
          · refine lv_iconst (v := nI 0) hx hb d_M_lets_57 (by decide) ?_
            refine tp_i (bI false) (by decide) ?_
            exact W.zret hx hb hr (bI_narrow _) (fun t9 ht9 _ => ⟨_, rfl, (by rw [mlets, if_neg (fun h => absurd (h.2.symm.trans c_4) (by decide)), c_5, Bool.false_or, ← hbf, c_6, bne_self_eq_false]), ht9⟩) (fun _ h => by cases h) d_M_lets_58
          · refine lv_iconst (v := nI 1) hx hb d_M_lets_53 (by decide) ?_
            refine lv_goto (tgt := 58) hx hb d_M_lets_54 (by decide) ?_
            refine tp_i (bI true) (by decide) ?_
            exact W.zret hx hb hr (bI_narrow _) (fun t9 ht9 _ => ⟨_, rfl, (by rw [mlets, if_neg (fun h => absurd (h.2.symm.trans c_4) (by decide)), c_5, Bool.false_or, ← hbf, bne_iff_ne.mpr c_6]), ht9⟩) (fun _ h => by cases h) d_M_lets_58
      · refine lv_iconst (v := nI 0) hx hb d_M_lets_32 (by decide) ?_
        refine tp_i (bI false) (by decide) ?_
        exact W.zret hx hb hr (bI_narrow _) (fun t9 ht9 _ => ⟨_, rfl, (by rw [mlets, if_pos ⟨c_1, c_4⟩]), ht9⟩) (fun _ h => by cases h) d_M_lets_33
  refine nv_ne (tgt := 11) hx hb d_M_lets_4 (by decide) (by omega) (by omega) (fun c_7 => ?_) (fun c_7 => ?_)
  · refine lv_iconst (v := nI 0) hx hb d_M_lets_11 (by decide) ?_
    refine tp_i (bI false) (by decide) ?_
    exact L12 false (by simp [c_7]) ls (lv_sub hl [0, 1, 2] rfl)
  · refine lv_iconst (v := nI 1) hx hb d_M_lets_7 (by decide) ?_
    refine lv_goto (tgt := 12) hx hb d_M_lets_8 (by decide) ?_
    refine tp_i (bI true) (by decide) ?_
    exact L12 true (by simp [c_7]) ls (lv_sub hl [0, 1, 2] rfl)
end
section
set_option maxHeartbeats 4000000 in
set_option maxRecDepth 100000 in
theorem c_M_cut (l : Launch) (dC : Nat → ClassId) (dI : Nat → Nat → Nat) (q : MA) (u : MSt) (x : Int64) (f : Nat) (hu : MOk u) (hf : f < 65) : Met l y_M_cut w_M_cut ({ frames := 1, cells := 0, slots := 0, locals := 23 }) (sPc (dC, dI) vwCl (tM q) (wM q u) [Value.ref (ma_o q), Value.long x, Value.int (nI f)]) (vp_Sl (fun r : Int64 => r = mC u x f)) 0 0 (fun _ => False) := by
  refine Met.ofW (cc := b_M_cut) (maxL := 11) (ret := (some .long)) (by decide) rfl ?_
  intro p e s m args below meth c s₁ B hml hv
  obtain ⟨rfl, hP, hK, hN⟩ := hv
  have hx := B.exec
  have hb := B.bytes
  have hr := B.returns
  have hts := atoms_spec (ws := w_M_cut) B.pre
  have hown : s.vm.findClass "SeatProofsModel" = some m.cls := findClass_of_methodNamed B.named
  have hlocks := B.notSynchronized
  have hl := lv_entry ([Value.ref (ma_o q), Value.long x, Value.int (nI f)]) (n := 11) (Nat.le_of_ble_eq_true rfl)
  rw [lg_entry_eq]
  generalize (lg_sl ([Value.ref (ma_o q), Value.long x, Value.int (nI f)]) ++ List.replicate (11 - (lg_sl ([Value.ref (ma_o q), Value.long x, Value.int (nI f)])).length) Slot.unset).toArray = ls at hl ⊢
  have hl : lv_has ls 11 [(0, .ref (ma_o q)), (1, .long x), (3, .int (nI f))] := hl
  obtain ⟨k1, k2, k3, k4, k5, k6, k7, k8, k9, k10, k11⟩ := id hu
  refine lv_lconst (v := 0) hx hb d_M_cut_0 (by decide) ?_
  refine lv_lstore (lv' := [(4, .long 0), (0, .ref (ma_o q)), (1, .long x), (3, .int (nI f))]) hx hb d_M_cut_1 hl (by decide) rfl (fun ls hl => ?_)
  refine lv_iconst (v := nI 0) hx hb d_M_cut_3 (by decide) ?_
  refine lv_istore (lv' := [(6, .int (nI 0)), (4, .long 0), (0, .ref (ma_o q)), (1, .long x), (3, .int (nI f))]) hx hb d_M_cut_4 hl (by decide) rfl (fun ls hl => ?_)
  have L6 : ∀ (n6 : Nat) (i : Nat) (y : Int64), (i ≤ m_nV u) → (∀ j, tb y j = (decide (j < i) && mCb u x f j)) → m_nV u - i < n6 → ∀ (ls : Array Slot), lv_has ls 11 [(0, .ref (ma_o q)), (1, .long x), (3, .int (nI f)), (4, .long y), (6, .int (nI i))] → W p l e (headSpec w_M_cut ({ frames := 1, cells := 0, slots := 0, locals := 23 })).room s m [Value.ref (ma_o q), Value.long x, Value.int (nI f)].toArray below meth c s.heap [] 0 0 (MQ below (vp_Sl (fun r : Int64 => r = mC u x f)) [Value.ref (ma_o q), Value.long x, Value.int (nI f)].toArray s 0 0 (fun _ => False)) (F0 m 6 ls []) := by
    intro n6
    induction n6 with
    | zero => intro i y hi6 hy6 hm; exact absurd hm (Nat.not_lt_zero _)
    | succ n6 ih6 =>
      intro i y hi6 hy6 hm6 ls hl
      refine lv_iload hx hb d_M_cut_6 (lv_at hl 4 rfl) ?_
      refine lv_aload_n hx hb d_M_cut_8 rfl (lv_at hl 0 rfl) ?_
      refine va_get (D := (dC, dI)) (ci := 4) (v := .int (nI (m_nV u))) (C := "SeatProofsModel") (T := F_M) (N := 20) hx hb hts (iu_M _) hown hK hP 0 rfl rfl 8 (by decide) (hts _ (List.mem_cons_of_mem _ iw_448)) (fun _ h9 => h9) rfl d_M_cut_9 ?_
      refine nv_ge (tgt := 139) hx hb d_M_cut_12 (by decide) (by omega) (by omega) (fun c_1 => ?_) (fun c_1 => ?_)
      · refine lv_lload hx hb d_M_cut_139 (lv_at hl 3 rfl) ?_
        exact W.lret hx hb hr (fun t9 ht9 _ => ⟨_, rfl, (ofB_eq fun j _ => by rw [hy6 j, show i = m_nV u from by omega]), ht9⟩) (fun _ h => by cases h) d_M_cut_141
      · refine lv_lload_n hx hb d_M_cut_15 rfl (lv_at hl 1 rfl) ?_
        refine lv_aload_n hx hb d_M_cut_16 rfl (lv_at hl 0 rfl) ?_
        refine va_get (D := (dC, dI)) (ci := 4) (v := .ref (ma_fa q)) (C := "SeatProofsModel") (T := F_M) (N := 20) hx hb hts (iu_M _) hown hK hP 0 rfl rfl 3 (by decide) (hts _ (List.mem_cons_of_mem _ iw_443)) (fun _ h9 => h9) rfl d_M_cut_17 ?_
        refine lv_iload hx hb d_M_cut_20 (lv_at hl 4 rfl) ?_
        refine ld_i hx hb hK hP 3 0 rfl rfl (nI (m_fa u i)) (by omega) (by decide) rfl d_M_cut_22 ?_
        refine vp_callSi (va_Run.run (va_runS (As := [.long x, .int (nI (m_fa u i))]) (rest := []) ⟨hx, hb, hml, hown, hts⟩ (c_M_has l x (m_fa u i) (k5 _)) (va_cwS 2 hts (good_up (good_S iw_546 iw_547 iw_5 gg_M_has)) rfl rfl rfl (by decide +kernel) ⟨Nat.le_of_ble_eq_true rfl, Nat.le_of_ble_eq_true rfl⟩) (ps_0 [.long x, .int (nI (m_fa u i))] hN) rfl rfl hl.1 rfl (lv_room (Nat.le_of_ble_eq_true rfl)) d_M_cut_23 ⟨Nat.le_of_ble_eq_true rfl, Nat.le_of_ble_eq_true rfl⟩)) (fun r_2 hr_2 => ?_)
        subst hr_2
        refine lv_istore (lv' := [(7, .int (bI (tb x (m_fa u i)))), (0, .ref (ma_o q)), (1, .long x), (3, .int (nI f)), (4, .long y), (6, .int (nI i))]) hx hb d_M_cut_26 hl (by decide) rfl (fun ls hl => ?_)
        refine lv_lload_n hx hb d_M_cut_28 rfl (lv_at hl 2 rfl) ?_
        refine lv_aload_n hx hb d_M_cut_29 rfl (lv_at hl 1 rfl) ?_
        refine va_get (D := (dC, dI)) (ci := 4) (v := .ref (ma_fb q)) (C := "SeatProofsModel") (T := F_M) (N := 20) hx hb hts (iu_M _) hown hK hP 0 rfl rfl 4 (by decide) (hts _ (List.mem_cons_of_mem _ iw_444)) (fun _ h9 => h9) rfl d_M_cut_30 ?_
        refine lv_iload hx hb d_M_cut_33 (lv_at hl 5 rfl) ?_
        refine ld_i hx hb hK hP 4 0 rfl rfl (nI (m_fb u i)) (by omega) (by decide) rfl d_M_cut_35 ?_
        refine vp_callSi (va_Run.run (va_runS (As := [.long x, .int (nI (m_fb u i))]) (rest := []) ⟨hx, hb, hml, hown, hts⟩ (c_M_has l x (m_fb u i) (k6 _)) (va_cwS 2 hts (good_up (good_S iw_546 iw_547 iw_5 gg_M_has)) rfl rfl rfl (by decide +kernel) ⟨Nat.le_of_ble_eq_true rfl, Nat.le_of_ble_eq_true rfl⟩) (ps_0 [.long x, .int (nI (m_fb u i))] hN) rfl rfl hl.1 rfl (lv_room (Nat.le_of_ble_eq_true rfl)) d_M_cut_36 ⟨Nat.le_of_ble_eq_true rfl, Nat.le_of_ble_eq_true rfl⟩)) (fun r_3 hr_3 => ?_)
        subst hr_3
        refine lv_istore (lv' := [(8, .int (bI (tb x (m_fb u i)))), (7, .int (bI (tb x (m_fa u i)))), (0, .ref (ma_o q)), (1, .long x), (3, .int (nI f)), (4, .long y), (6, .int (nI i))]) hx hb d_M_cut_39 hl (by decide) rfl (fun ls hl => ?_)
        refine lv_iload hx hb d_M_cut_41 (lv_at hl 1 rfl) ?_
        refine b0_eq (tgt := 56) hx hb d_M_cut_43 (by decide) (fun c_4 => ?_) (fun c_4 => ?_)
        · refine lv_aload_n hx hb d_M_cut_56 rfl (lv_at hl 2 rfl) ?_
          refine va_get (D := (dC, dI)) (ci := 4) (v := .ref (ma_fb q)) (C := "SeatProofsModel") (T := F_M) (N := 20) hx hb hts (iu_M _) hown hK hP 0 rfl rfl 4 (by decide) (hts _ (List.mem_cons_of_mem _ iw_444)) (fun _ h9 => h9) rfl d_M_cut_57 ?_
          refine lv_iload hx hb d_M_cut_60 (lv_at hl 6 rfl) ?_
          refine ld_i hx hb hK hP 4 0 rfl rfl (nI (m_fb u i)) (by omega) (by decide) rfl d_M_cut_62 ?_
          refine lv_istore (lv' := [(9, .int (nI (m_fb u i))), (8, .int (bI (tb x (m_fb u i)))), (7, .int (bI (tb x (m_fa u i)))), (0, .ref (ma_o q)), (1, .long x), (3, .int (nI f)), (4, .long y), (6, .int (nI i))]) hx hb d_M_cut_63 hl (by decide) rfl (fun ls hl => ?_)
          refine lv_iload hx hb d_M_cut_65 (lv_at hl 2 rfl) ?_
          refine b0_eq (tgt := 80) hx hb d_M_cut_67 (by decide) (fun c_5 => ?_) (fun c_5 => ?_)
          · refine lv_aload_n hx hb d_M_cut_80 rfl (lv_at hl 3 rfl) ?_
            refine va_get (D := (dC, dI)) (ci := 4) (v := .ref (ma_fa q)) (C := "SeatProofsModel") (T := F_M) (N := 20) hx hb hts (iu_M _) hown hK hP 0 rfl rfl 3 (by decide) (hts _ (List.mem_cons_of_mem _ iw_443)) (fun _ h9 => h9) rfl d_M_cut_81 ?_
            refine lv_iload hx hb d_M_cut_84 (lv_at hl 7 rfl) ?_
            refine ld_i hx hb hK hP 3 0 rfl rfl (nI (m_fa u i)) (by omega) (by decide) rfl d_M_cut_86 ?_
            refine lv_istore (lv' := [(10, .int (nI (m_fa u i))), (9, .int (nI (m_fb u i))), (8, .int (bI (tb x (m_fb u i)))), (7, .int (bI (tb x (m_fa u i)))), (0, .ref (ma_o q)), (1, .long x), (3, .int (nI f)), (4, .long y), (6, .int (nI i))]) hx hb d_M_cut_87 hl (by decide) rfl (fun ls hl => ?_)
            refine lv_iload hx hb d_M_cut_89 (lv_at hl 3 rfl) ?_
            refine lv_iload hx hb d_M_cut_91 (lv_at hl 2 rfl) ?_
            refine bv_eq (tgt := 133) hx hb d_M_cut_93 (by decide) (fun c_6 => ?_) (fun c_6 => ?_)
            · refine lv_iinc (v := nI (i + 1)) (lv' := [(6, .int (nI (i + 1))), (10, .int (nI (m_fa u i))), (9, .int (nI (m_fb u i))), (8, .int (bI (tb x (m_fb u i)))), (7, .int (bI (tb x (m_fa u i)))), (0, .ref (ma_o q)), (1, .long x), (3, .int (nI f)), (4, .long y)]) hx hb d_M_cut_133 hl (k := 8) rfl (nI_1 _) (by decide) rfl (fun ls hl => ?_)
              refine lv_goto (tgt := 6) hx hb d_M_cut_136 (by decide) ?_
              exact ih6 (i + 1) y (by omega) (bits_f hy6 (mCb_fe c_6)) (by omega) ls (lv_sub hl [5, 6, 7, 8, 0] rfl)
            · refine lv_aload_n hx hb d_M_cut_96 rfl (lv_at hl 4 rfl) ?_
              refine lv_iload hx hb d_M_cut_97 (lv_at hl 8 rfl) ?_
              refine lv_iload_n hx hb d_M_cut_99 rfl (lv_at hl 6 rfl) ?_
              refine vp_callSi (va_Run.run (va_runV (As := [.int (nI i), .int (nI f)]) (rest := []) ⟨hx, hb, hml, hown, hts⟩ (c_M_lets l dC dI q u i f hu (by omega) (by omega)) (cwV 2 hts (good_up (good_V iw_538 iw_540 ip_12 iw_5 gg_M_lets)) rfl rfl rfl (by decide +kernel) ⟨Nat.le_of_ble_eq_true rfl, Nat.le_of_ble_eq_true rfl⟩) (pv_S [.int (nI i), .int (nI f)] hN hK hP (ci := 4) (q0 := 0) rfl rfl) rfl rfl hl.1 rfl (lv_room (Nat.le_of_ble_eq_true rfl)) d_M_cut_100 ⟨Nat.le_of_ble_eq_true rfl, Nat.le_of_ble_eq_true rfl⟩)) (fun r_7 hr_7 => ?_)
              subst hr_7
              refine b0_ne (tgt := 133) hx hb d_M_cut_103 (by decide) (fun c_8 => ?_) (fun c_8 => ?_)
              · refine lv_iinc (v := nI (i + 1)) (lv' := [(6, .int (nI (i + 1))), (10, .int (nI (m_fa u i))), (9, .int (nI (m_fb u i))), (8, .int (bI (tb x (m_fb u i)))), (7, .int (bI (tb x (m_fa u i)))), (0, .ref (ma_o q)), (1, .long x), (3, .int (nI f)), (4, .long y)]) hx hb d_M_cut_133 hl (k := 8) rfl (nI_1 _) (by decide) rfl (fun ls hl => ?_)
                refine lv_goto (tgt := 6) hx hb d_M_cut_136 (by decide) ?_
                exact ih6 (i + 1) y (by omega) (bits_f hy6 (mCb_fl c_8)) (by omega) ls (lv_sub hl [5, 6, 7, 8, 0] rfl)
              · refine lv_aload_n hx hb d_M_cut_106 rfl (lv_at hl 4 rfl) ?_
                refine va_get (D := (dC, dI)) (ci := 4) (v := .ref (ma_lev q)) (C := "SeatProofsModel") (T := F_M) (N := 20) hx hb hts (iu_M _) hown hK hP 0 rfl rfl 1 (by decide) (hts _ (List.mem_cons_of_mem _ iw_441)) (fun _ h9 => h9) rfl d_M_cut_107 ?_
                refine lv_iload hx hb d_M_cut_110 (lv_at hl 0 rfl) ?_
                refine ld_l hx hb hK hP 2 1 rfl rfl (m_lev u (m_fa u i)) (by first | exact k5 _ | exact k6 _) (by decide) rfl d_M_cut_112 ?_
                refine lv_aload_n hx hb d_M_cut_113 rfl (lv_at hl 4 rfl) ?_
                refine va_get (D := (dC, dI)) (ci := 4) (v := .ref (ma_lev q)) (C := "SeatProofsModel") (T := F_M) (N := 20) hx hb hts (iu_M _) hown hK hP 0 rfl rfl 1 (by decide) (hts _ (List.mem_cons_of_mem _ iw_441)) (fun _ h9 => h9) rfl d_M_cut_114 ?_
                refine lv_iload hx hb d_M_cut_117 (lv_at hl 1 rfl) ?_
                refine ld_l hx hb hK hP 2 1 rfl rfl (m_lev u (m_fb u i)) (by first | exact k5 _ | exact k6 _) (by decide) rfl d_M_cut_119 ?_
                refine W.lcmp hx hb d_M_cut_120 ?_
                refine l0_gt (tgt := 133) hx hb d_M_cut_121 (by decide) (fun c_9 => ?_) (fun c_9 => ?_)
                · refine lv_iinc (v := nI (i + 1)) (lv' := [(6, .int (nI (i + 1))), (10, .int (nI (m_fa u i))), (9, .int (nI (m_fb u i))), (8, .int (bI (tb x (m_fb u i)))), (7, .int (bI (tb x (m_fa u i)))), (0, .ref (ma_o q)), (1, .long x), (3, .int (nI f)), (4, .long y)]) hx hb d_M_cut_133 hl (k := 8) rfl (nI_1 _) (by decide) rfl (fun ls hl => ?_)
                  refine lv_goto (tgt := 6) hx hb d_M_cut_136 (by decide) ?_
                  exact ih6 (i + 1) y (by omega) (bits_f hy6 (mCb_f0 c_4 c_9)) (by omega) ls (lv_sub hl [5, 6, 7, 8, 0] rfl)
                · refine lv_lload hx hb d_M_cut_124 (lv_at hl 7 rfl) ?_
                  refine lv_lconst (v := 1) hx hb d_M_cut_126 (by decide) ?_
                  refine lv_iload hx hb d_M_cut_127 (lv_at hl 8 rfl) ?_
                  refine lv_lshl (v := 1 <<< ((nI i).toInt64 &&& 63)) hx hb d_M_cut_129 rfl ?_
                  refine tp_l (bt i) rfl ?_
                  refine lv_lor hx hb d_M_cut_130 ?_
                  refine lv_lstore (lv' := [(4, .long (y ||| (bt i))), (10, .int (nI (m_fa u i))), (9, .int (nI (m_fb u i))), (8, .int (bI (tb x (m_fb u i)))), (7, .int (bI (tb x (m_fa u i)))), (0, .ref (ma_o q)), (1, .long x), (3, .int (nI f)), (6, .int (nI i))]) hx hb d_M_cut_131 hl (by decide) rfl (fun ls hl => ?_)
                  refine lv_iinc (v := nI (i + 1)) (lv' := [(6, .int (nI (i + 1))), (4, .long (y ||| (bt i))), (10, .int (nI (m_fa u i))), (9, .int (nI (m_fb u i))), (8, .int (bI (tb x (m_fb u i)))), (7, .int (bI (tb x (m_fa u i)))), (0, .ref (ma_o q)), (1, .long x), (3, .int (nI f))]) hx hb d_M_cut_133 hl (k := 8) rfl (nI_1 _) (by decide) rfl (fun ls hl => ?_)
                  refine lv_goto (tgt := 6) hx hb d_M_cut_136 (by decide) ?_
                  exact ih6 (i + 1) (y ||| (bt i)) (by omega) (bits_t hy6 (by omega) (mCb_t0 c_4 c_6 c_8 c_9)) (by omega) ls (lv_sub hl [6, 7, 8, 1, 0] rfl)
          · exact absurd (c_5.symm.trans c_4) (by decide)
        · refine lv_aload_n hx hb d_M_cut_46 rfl (lv_at hl 2 rfl) ?_
          refine va_get (D := (dC, dI)) (ci := 4) (v := .ref (ma_fa q)) (C := "SeatProofsModel") (T := F_M) (N := 20) hx hb hts (iu_M _) hown hK hP 0 rfl rfl 3 (by decide) (hts _ (List.mem_cons_of_mem _ iw_443)) (fun _ h9 => h9) rfl d_M_cut_47 ?_
          refine lv_iload hx hb d_M_cut_50 (lv_at hl 6 rfl) ?_
          refine ld_i hx hb hK hP 3 0 rfl rfl (nI (m_fa u i)) (by omega) (by decide) rfl d_M_cut_52 ?_
          refine lv_goto (tgt := 63) hx hb d_M_cut_53 (by decide) ?_
          refine lv_istore (lv' := [(9, .int (nI (m_fa u i))), (8, .int (bI (tb x (m_fb u i)))), (7, .int (bI (tb x (m_fa u i)))), (0, .ref (ma_o q)), (1, .long x), (3, .int (nI f)), (4, .long y), (6, .int (nI i))]) hx hb d_M_cut_63 hl (by decide) rfl (fun ls hl => ?_)
          refine lv_iload hx hb d_M_cut_65 (lv_at hl 2 rfl) ?_
          refine b0_eq (tgt := 80) hx hb d_M_cut_67 (by decide) (fun c_10 => ?_) (fun c_10 => ?_)
          · exact absurd (c_10.symm.trans c_4) (by decide)
          · refine lv_aload_n hx hb d_M_cut_70 rfl (lv_at hl 3 rfl) ?_
            refine va_get (D := (dC, dI)) (ci := 4) (v := .ref (ma_fb q)) (C := "SeatProofsModel") (T := F_M) (N := 20) hx hb hts (iu_M _) hown hK hP 0 rfl rfl 4 (by decide) (hts _ (List.mem_cons_of_mem _ iw_444)) (fun _ h9 => h9) rfl d_M_cut_71 ?_
            refine lv_iload hx hb d_M_cut_74 (lv_at hl 7 rfl) ?_
            refine ld_i hx hb hK hP 4 0 rfl rfl (nI (m_fb u i)) (by omega) (by decide) rfl d_M_cut_76 ?_
            refine lv_goto (tgt := 87) hx hb d_M_cut_77 (by decide) ?_
            refine lv_istore (lv' := [(10, .int (nI (m_fb u i))), (9, .int (nI (m_fa u i))), (8, .int (bI (tb x (m_fb u i)))), (7, .int (bI (tb x (m_fa u i)))), (0, .ref (ma_o q)), (1, .long x), (3, .int (nI f)), (4, .long y), (6, .int (nI i))]) hx hb d_M_cut_87 hl (by decide) rfl (fun ls hl => ?_)
            refine lv_iload hx hb d_M_cut_89 (lv_at hl 3 rfl) ?_
            refine lv_iload hx hb d_M_cut_91 (lv_at hl 2 rfl) ?_
            refine bv_eq (tgt := 133) hx hb d_M_cut_93 (by decide) (fun c_11 => ?_) (fun c_11 => ?_)
            · refine lv_iinc (v := nI (i + 1)) (lv' := [(6, .int (nI (i + 1))), (10, .int (nI (m_fb u i))), (9, .int (nI (m_fa u i))), (8, .int (bI (tb x (m_fb u i)))), (7, .int (bI (tb x (m_fa u i)))), (0, .ref (ma_o q)), (1, .long x), (3, .int (nI f)), (4, .long y)]) hx hb d_M_cut_133 hl (k := 8) rfl (nI_1 _) (by decide) rfl (fun ls hl => ?_)
              refine lv_goto (tgt := 6) hx hb d_M_cut_136 (by decide) ?_
              exact ih6 (i + 1) y (by omega) (bits_f hy6 (mCb_fe c_11)) (by omega) ls (lv_sub hl [5, 6, 7, 8, 0] rfl)
            · refine lv_aload_n hx hb d_M_cut_96 rfl (lv_at hl 4 rfl) ?_
              refine lv_iload hx hb d_M_cut_97 (lv_at hl 8 rfl) ?_
              refine lv_iload_n hx hb d_M_cut_99 rfl (lv_at hl 6 rfl) ?_
              refine vp_callSi (va_Run.run (va_runV (As := [.int (nI i), .int (nI f)]) (rest := []) ⟨hx, hb, hml, hown, hts⟩ (c_M_lets l dC dI q u i f hu (by omega) (by omega)) (cwV 2 hts (good_up (good_V iw_538 iw_540 ip_12 iw_5 gg_M_lets)) rfl rfl rfl (by decide +kernel) ⟨Nat.le_of_ble_eq_true rfl, Nat.le_of_ble_eq_true rfl⟩) (pv_S [.int (nI i), .int (nI f)] hN hK hP (ci := 4) (q0 := 0) rfl rfl) rfl rfl hl.1 rfl (lv_room (Nat.le_of_ble_eq_true rfl)) d_M_cut_100 ⟨Nat.le_of_ble_eq_true rfl, Nat.le_of_ble_eq_true rfl⟩)) (fun r_12 hr_12 => ?_)
              subst hr_12
              refine b0_ne (tgt := 133) hx hb d_M_cut_103 (by decide) (fun c_13 => ?_) (fun c_13 => ?_)
              · refine lv_iinc (v := nI (i + 1)) (lv' := [(6, .int (nI (i + 1))), (10, .int (nI (m_fb u i))), (9, .int (nI (m_fa u i))), (8, .int (bI (tb x (m_fb u i)))), (7, .int (bI (tb x (m_fa u i)))), (0, .ref (ma_o q)), (1, .long x), (3, .int (nI f)), (4, .long y)]) hx hb d_M_cut_133 hl (k := 8) rfl (nI_1 _) (by decide) rfl (fun ls hl => ?_)
                refine lv_goto (tgt := 6) hx hb d_M_cut_136 (by decide) ?_
                exact ih6 (i + 1) y (by omega) (bits_f hy6 (mCb_fl c_13)) (by omega) ls (lv_sub hl [5, 6, 7, 8, 0] rfl)
              · refine lv_aload_n hx hb d_M_cut_106 rfl (lv_at hl 4 rfl) ?_
                refine va_get (D := (dC, dI)) (ci := 4) (v := .ref (ma_lev q)) (C := "SeatProofsModel") (T := F_M) (N := 20) hx hb hts (iu_M _) hown hK hP 0 rfl rfl 1 (by decide) (hts _ (List.mem_cons_of_mem _ iw_441)) (fun _ h9 => h9) rfl d_M_cut_107 ?_
                refine lv_iload hx hb d_M_cut_110 (lv_at hl 0 rfl) ?_
                refine ld_l hx hb hK hP 2 1 rfl rfl (m_lev u (m_fb u i)) (by first | exact k5 _ | exact k6 _) (by decide) rfl d_M_cut_112 ?_
                refine lv_aload_n hx hb d_M_cut_113 rfl (lv_at hl 4 rfl) ?_
                refine va_get (D := (dC, dI)) (ci := 4) (v := .ref (ma_lev q)) (C := "SeatProofsModel") (T := F_M) (N := 20) hx hb hts (iu_M _) hown hK hP 0 rfl rfl 1 (by decide) (hts _ (List.mem_cons_of_mem _ iw_441)) (fun _ h9 => h9) rfl d_M_cut_114 ?_
                refine lv_iload hx hb d_M_cut_117 (lv_at hl 1 rfl) ?_
                refine ld_l hx hb hK hP 2 1 rfl rfl (m_lev u (m_fa u i)) (by first | exact k5 _ | exact k6 _) (by decide) rfl d_M_cut_119 ?_
                refine W.lcmp hx hb d_M_cut_120 ?_
                refine l0_gt (tgt := 133) hx hb d_M_cut_121 (by decide) (fun c_14 => ?_) (fun c_14 => ?_)
                · refine lv_iinc (v := nI (i + 1)) (lv' := [(6, .int (nI (i + 1))), (10, .int (nI (m_fb u i))), (9, .int (nI (m_fa u i))), (8, .int (bI (tb x (m_fb u i)))), (7, .int (bI (tb x (m_fa u i)))), (0, .ref (ma_o q)), (1, .long x), (3, .int (nI f)), (4, .long y)]) hx hb d_M_cut_133 hl (k := 8) rfl (nI_1 _) (by decide) rfl (fun ls hl => ?_)
                  refine lv_goto (tgt := 6) hx hb d_M_cut_136 (by decide) ?_
                  exact ih6 (i + 1) y (by omega) (bits_f hy6 (mCb_f1 c_4 c_14)) (by omega) ls (lv_sub hl [5, 6, 7, 8, 0] rfl)
                · refine lv_lload hx hb d_M_cut_124 (lv_at hl 7 rfl) ?_
                  refine lv_lconst (v := 1) hx hb d_M_cut_126 (by decide) ?_
                  refine lv_iload hx hb d_M_cut_127 (lv_at hl 8 rfl) ?_
                  refine lv_lshl (v := 1 <<< ((nI i).toInt64 &&& 63)) hx hb d_M_cut_129 rfl ?_
                  refine tp_l (bt i) rfl ?_
                  refine lv_lor hx hb d_M_cut_130 ?_
                  refine lv_lstore (lv' := [(4, .long (y ||| (bt i))), (10, .int (nI (m_fb u i))), (9, .int (nI (m_fa u i))), (8, .int (bI (tb x (m_fb u i)))), (7, .int (bI (tb x (m_fa u i)))), (0, .ref (ma_o q)), (1, .long x), (3, .int (nI f)), (6, .int (nI i))]) hx hb d_M_cut_131 hl (by decide) rfl (fun ls hl => ?_)
                  refine lv_iinc (v := nI (i + 1)) (lv' := [(6, .int (nI (i + 1))), (4, .long (y ||| (bt i))), (10, .int (nI (m_fb u i))), (9, .int (nI (m_fa u i))), (8, .int (bI (tb x (m_fb u i)))), (7, .int (bI (tb x (m_fa u i)))), (0, .ref (ma_o q)), (1, .long x), (3, .int (nI f))]) hx hb d_M_cut_133 hl (k := 8) rfl (nI_1 _) (by decide) rfl (fun ls hl => ?_)
                  refine lv_goto (tgt := 6) hx hb d_M_cut_136 (by decide) ?_
                  exact ih6 (i + 1) (y ||| (bt i)) (by omega) (bits_t hy6 (by omega) (mCb_t1 c_4 c_11 c_13 c_14)) (by omega) ls (lv_sub hl [6, 7, 8, 1, 0] rfl)
  exact L6 _ 0 0 (Nat.zero_le _) bits_0 (Nat.lt_succ_self _) ls (lv_sub hl [2, 3, 4, 1, 0] rfl)
set_option maxHeartbeats 4000000 in
set_option maxRecDepth 100000 in
theorem c_M_isThere (l : Launch) (dC : Nat → ClassId) (dI : Nat → Nat → Nat) (q : MA) (u : MSt) (a : Nat) (hu : MOk u) (ha : a < 16) : Met l y_M_isThere w_M_isThere ({ frames := 0, cells := 0, slots := 0, locals := 0 }) (sPc (dC, dI) vwCl (tM q) (wM q u) [Value.ref (ma_o q), Value.int (nI a)]) (vp_Si (fun r : Int32 => r = bI (mTh u a))) 0 0 (fun _ => False) := by
  refine Met.ofW (cc := b_M_isThere) (maxL := 4) (ret := (some .boolean)) (by decide) rfl ?_
  intro p e s m args below meth c s₁ B hml hv
  obtain ⟨rfl, hP, hK, hN⟩ := hv
  have hx := B.exec
  have hb := B.bytes
  have hr := B.returns
  have hts := atoms_spec (ws := w_M_isThere) B.pre
  have hown : s.vm.findClass "SeatProofsModel" = some m.cls := findClass_of_methodNamed B.named
  have hlocks := B.notSynchronized
  have hl := lv_entry ([Value.ref (ma_o q), Value.int (nI a)]) (n := 4) (Nat.le_of_ble_eq_true rfl)
  rw [lg_entry_eq]
  generalize (lg_sl ([Value.ref (ma_o q), Value.int (nI a)]) ++ List.replicate (4 - (lg_sl ([Value.ref (ma_o q), Value.int (nI a)])).length) Slot.unset).toArray = ls at hl ⊢
  have hl : lv_has ls 4 [(0, .ref (ma_o q)), (1, .int (nI a))] := hl
  obtain ⟨k1, k2, k3, k4, k5, k6, k7, k8, k9, k10, k11⟩ := id hu
  refine lv_iconst (v := nI 0) hx hb d_M_isThere_0 (by decide) ?_
  refine lv_istore_n (lv' := [(2, .int (nI 0)), (0, .ref (ma_o q)), (1, .int (nI a))]) hx hb d_M_isThere_1 rfl hl (by decide) rfl (fun ls hl => ?_)
  refine lv_iconst (v := nI 0) hx hb d_M_isThere_2 (by decide) ?_
  refine lv_istore_n (lv' := [(3, .int (nI 0)), (2, .int (nI 0)), (0, .ref (ma_o q)), (1, .int (nI a))]) hx hb d_M_isThere_3 rfl hl (by decide) rfl (fun ls hl => ?_)
  have L4 : ∀ (n4 : Nat) (i : Nat) (b : Bool), (i ≤ m_nS u) → (b = anyB (fun t => decide (m_liq u t = a)) i) → m_nS u - i < n4 → ∀ (ls : Array Slot), lv_has ls 4 [(0, .ref (ma_o q)), (1, .int (nI a)), (2, .int (bI b)), (3, .int (nI i))] → W p l e (headSpec w_M_isThere ({ frames := 0, cells := 0, slots := 0, locals := 0 })).room s m [Value.ref (ma_o q), Value.int (nI a)].toArray below meth c s.heap [] 0 0 (MQ below (vp_Si (fun r : Int32 => r = bI (mTh u a))) [Value.ref (ma_o q), Value.int (nI a)].toArray s 0 0 (fun _ => False)) (F0 m 4 ls []) := by
    intro n4
    induction n4 with
    | zero => intro i b hi4 hb4 hm; exact absurd hm (Nat.not_lt_zero _)
    | succ n4 ih4 =>
      intro i b hi4 hb4 hm4 ls hl
      refine lv_iload_n hx hb d_M_isThere_4 rfl (lv_at hl 3 rfl) ?_
      refine lv_aload_n hx hb d_M_isThere_5 rfl (lv_at hl 0 rfl) ?_
      refine va_get (D := (dC, dI)) (ci := 4) (v := .int (nI (m_nS u))) (C := "SeatProofsModel") (T := F_M) (N := 20) hx hb hts (iu_M _) hown hK hP 0 rfl rfl 2 (by decide) (hts _ (List.mem_cons_of_mem _ iw_442)) (fun _ h9 => h9) rfl d_M_isThere_6 ?_
      refine nv_ge (tgt := 38) hx hb d_M_isThere_9 (by decide) (by omega) (by omega) (fun c_1 => ?_) (fun c_1 => ?_)
      · refine lv_iload_n hx hb d_M_isThere_38 rfl (lv_at hl 2 rfl) ?_
        refine b0_eq (tgt := 50) hx hb d_M_isThere_39 (by decide) (fun c_2 => ?_) (fun c_2 => ?_)
        · refine lv_iconst (v := nI 0) hx hb d_M_isThere_50 (by decide) ?_
          refine tp_i (bI false) (by decide) ?_
          exact W.zret hx hb hr (bI_narrow _) (fun t9 ht9 _ => ⟨_, rfl, (by rw [mTh, ← show i = m_nS u from by omega, ← hb4, c_2]; rfl), ht9⟩) (fun _ h => by cases h) d_M_isThere_51
        · refine lv_iload_n hx hb d_M_isThere_42 rfl (lv_at hl 1 rfl) ?_
          refine n0_le (tgt := 50) hx hb d_M_isThere_43 (by decide) (by omega) (fun c_3 => ?_) (fun c_3 => ?_)
          · refine lv_iconst (v := nI 0) hx hb d_M_isThere_50 (by decide) ?_
            refine tp_i (bI false) (by decide) ?_
            exact W.zret hx hb hr (bI_narrow _) (fun t9 ht9 _ => ⟨_, rfl, (by rw [mTh, ← show i = m_nS u from by omega, ← hb4, c_2]; rw [c_3]; rfl), ht9⟩) (fun _ h => by cases h) d_M_isThere_51
          · refine lv_iconst (v := nI 1) hx hb d_M_isThere_46 (by decide) ?_
            refine lv_goto (tgt := 51) hx hb d_M_isThere_47 (by decide) ?_
            refine tp_i (bI true) (by decide) ?_
            exact W.zret hx hb hr (bI_narrow _) (fun t9 ht9 _ => ⟨_, rfl, (by rw [mTh, ← show i = m_nS u from by omega, ← hb4, c_2]; rw [decide_eq_true (Nat.pos_of_ne_zero c_3)]; rfl), ht9⟩) (fun _ h => by cases h) d_M_isThere_51
      · refine lv_iload_n hx hb d_M_isThere_12 rfl (lv_at hl 2 rfl) ?_
        refine b0_ne (tgt := 26) hx hb d_M_isThere_13 (by decide) (fun c_4 => ?_) (fun c_4 => ?_)
        · refine lv_iconst (v := nI 1) hx hb d_M_isThere_26 (by decide) ?_
          refine lv_goto (tgt := 31) hx hb d_M_isThere_27 (by decide) ?_
          refine lv_istore_n (lv' := [(2, .int (nI 1)), (0, .ref (ma_o q)), (1, .int (nI a)), (3, .int (nI i))]) hx hb d_M_isThere_31 rfl hl (by decide) rfl (fun ls hl => ?_)
          refine lv_iinc (v := nI (i + 1)) (lv' := [(3, .int (nI (i + 1))), (2, .int (nI 1)), (0, .ref (ma_o q)), (1, .int (nI a))]) hx hb d_M_isThere_32 hl (k := 3) rfl (nI_1 _) (by decide) rfl (fun ls hl => ?_)
          refine lv_goto (tgt := 4) hx hb d_M_isThere_35 (by decide) ?_
          exact ih4 (i + 1) true (by omega) (by unfold anyB; rw [← hb4, c_4]; rfl) (by omega) ls (lv_sub hl [2, 3, 1, 0] rfl)
        · refine lv_aload_n hx hb d_M_isThere_16 rfl (lv_at hl 0 rfl) ?_
          refine va_get (D := (dC, dI)) (ci := 4) (v := .ref (ma_liq q)) (C := "SeatProofsModel") (T := F_M) (N := 20) hx hb hts (iu_M _) hown hK hP 0 rfl rfl 0 (by decide) (hts _ (List.mem_cons_of_mem _ iw_440)) (fun _ h9 => h9) rfl d_M_isThere_17 ?_
          refine lv_iload_n hx hb d_M_isThere_20 rfl (lv_at hl 3 rfl) ?_
          refine ld_i hx hb hK hP 1 0 rfl rfl (nI (m_liq u i)) (by omega) (by decide) rfl d_M_isThere_21 ?_
          refine lv_iload_n hx hb d_M_isThere_22 rfl (lv_at hl 1 rfl) ?_
          refine nv_ne (tgt := 30) hx hb d_M_isThere_23 (by decide) (by have := k4 i; omega) (by omega) (fun c_5 => ?_) (fun c_5 => ?_)
          · refine lv_iconst (v := nI 0) hx hb d_M_isThere_30 (by decide) ?_
            refine lv_istore_n (lv' := [(2, .int (nI 0)), (0, .ref (ma_o q)), (1, .int (nI a)), (3, .int (nI i))]) hx hb d_M_isThere_31 rfl hl (by decide) rfl (fun ls hl => ?_)
            refine lv_iinc (v := nI (i + 1)) (lv' := [(3, .int (nI (i + 1))), (2, .int (nI 0)), (0, .ref (ma_o q)), (1, .int (nI a))]) hx hb d_M_isThere_32 hl (k := 3) rfl (nI_1 _) (by decide) rfl (fun ls hl => ?_)
            refine lv_goto (tgt := 4) hx hb d_M_isThere_35 (by decide) ?_
            exact ih4 (i + 1) false (by omega) (by unfold anyB; rw [← hb4, c_4]; simp [c_5]) (by omega) ls (lv_sub hl [2, 3, 1, 0] rfl)
          · refine lv_iconst (v := nI 1) hx hb d_M_isThere_26 (by decide) ?_
            refine lv_goto (tgt := 31) hx hb d_M_isThere_27 (by decide) ?_
            refine lv_istore_n (lv' := [(2, .int (nI 1)), (0, .ref (ma_o q)), (1, .int (nI a)), (3, .int (nI i))]) hx hb d_M_isThere_31 rfl hl (by decide) rfl (fun ls hl => ?_)
            refine lv_iinc (v := nI (i + 1)) (lv' := [(3, .int (nI (i + 1))), (2, .int (nI 1)), (0, .ref (ma_o q)), (1, .int (nI a))]) hx hb d_M_isThere_32 hl (k := 3) rfl (nI_1 _) (by decide) rfl (fun ls hl => ?_)
            refine lv_goto (tgt := 4) hx hb d_M_isThere_35 (by decide) ?_
            exact ih4 (i + 1) true (by omega) (by unfold anyB; rw [← hb4, c_4]; simp [c_5]) (by omega) ls (lv_sub hl [2, 3, 1, 0] rfl)
  exact L4 _ 0 false (Nat.zero_le _) rfl (Nat.lt_succ_self _) ls (lv_sub hl [2, 3, 1, 0] rfl)
set_option maxHeartbeats 4000000 in
set_option maxRecDepth 100000 in
theorem c_M_size (l : Launch) (x : Int64) : Met l y_M_size w_M_size ({ frames := 1, cells := 0, slots := 0, locals := 22 }) (va_Pc [Value.long x] NW) (vp_Si (fun r : Int32 => r = nI (pcn (tb x) 64))) 0 0 (fun _ => False) := by
  refine Met.ofW (cc := b_M_size) (maxL := 4) (ret := (some .int)) (by decide) rfl ?_
  intro p e s m args below meth c s₁ B hml hv
  obtain ⟨rfl, hN⟩ := hv
  have hx := B.exec
  have hb := B.bytes
  have hr := B.returns
  have hts := atoms_spec (ws := w_M_size) B.pre
  have hown : s.vm.findClass "SeatProofsModel" = some m.cls := findClass_of_methodNamed B.named
  have hlocks := B.notSynchronized
  have hl := lv_entry ([Value.long x]) (n := 4) (Nat.le_of_ble_eq_true rfl)
  rw [lg_entry_eq]
  generalize (lg_sl ([Value.long x]) ++ List.replicate (4 - (lg_sl ([Value.long x])).length) Slot.unset).toArray = ls at hl ⊢
  have hl : lv_has ls 4 [(0, .long x)] := hl
  refine lv_iconst (v := nI 0) hx hb d_M_size_0 (by decide) ?_
  refine lv_istore_n (lv' := [(2, .int (nI 0)), (0, .long x)]) hx hb d_M_size_1 rfl hl (by decide) rfl (fun ls hl => ?_)
  refine lv_iconst (v := nI 0) hx hb d_M_size_2 (by decide) ?_
  refine lv_istore_n (lv' := [(3, .int (nI 0)), (2, .int (nI 0)), (0, .long x)]) hx hb d_M_size_3 rfl hl (by decide) rfl (fun ls hl => ?_)
  have L4 : ∀ (n4 : Nat) (i : Nat) (n : Nat), (i ≤ 64) → (n = pcn (tb x) i) → 64 - i < n4 → ∀ (ls : Array Slot), lv_has ls 4 [(0, .long x), (2, .int (nI n)), (3, .int (nI i))] → W p l e (headSpec w_M_size ({ frames := 1, cells := 0, slots := 0, locals := 22 })).room s m [Value.long x].toArray below meth c s.heap [] 0 0 (MQ below (vp_Si (fun r : Int32 => r = nI (pcn (tb x) 64))) [Value.long x].toArray s 0 0 (fun _ => False)) (F0 m 4 ls []) := by
    intro n4
    induction n4 with
    | zero => intro i n hi4 hn4 hm; exact absurd hm (Nat.not_lt_zero _)
    | succ n4 ih4 =>
      intro i n hi4 hn4 hm4 ls hl
      refine lv_iload_n hx hb d_M_size_4 rfl (lv_at hl 2 rfl) ?_
      refine lv_bipush (v := nI 64) hx hb d_M_size_5 (by decide) ?_
      refine nv_ge (tgt := 32) hx hb d_M_size_7 (by decide) (by omega) (by omega) (fun c_1 => ?_) (fun c_1 => ?_)
      · refine lv_iload_n hx hb d_M_size_32 rfl (lv_at hl 1 rfl) ?_
        exact W.iret hx hb hr (fun t9 ht9 _ => ⟨_, rfl, (by rw [hn4, show i = 64 from by omega]), ht9⟩) (fun _ h => by cases h) d_M_size_33
      · refine lv_iload_n hx hb d_M_size_10 rfl (lv_at hl 1 rfl) ?_
        refine lv_lload_n hx hb d_M_size_11 rfl (lv_at hl 0 rfl) ?_
        refine lv_iload_n hx hb d_M_size_12 rfl (lv_at hl 2 rfl) ?_
        refine vp_callSi (va_Run.run (va_runS (As := [.long x, .int (nI i)]) (rest := [.int (nI n)]) ⟨hx, hb, hml, hown, hts⟩ (c_M_has l x i (by omega)) (va_cwS 2 hts (good_up (good_S iw_546 iw_547 iw_5 gg_M_has)) rfl rfl rfl (by decide +kernel) ⟨Nat.le_of_ble_eq_true rfl, Nat.le_of_ble_eq_true rfl⟩) (ps_0 [.long x, .int (nI i)] hN) rfl rfl hl.1 rfl (lv_room (Nat.le_of_ble_eq_true rfl)) d_M_size_13 ⟨Nat.le_of_ble_eq_true rfl, Nat.le_of_ble_eq_true rfl⟩)) (fun r_2 hr_2 => ?_)
        subst hr_2
        refine b0_eq (tgt := 23) hx hb d_M_size_16 (by decide) (fun c_3 => ?_) (fun c_3 => ?_)
        · refine lv_iconst (v := nI 0) hx hb d_M_size_23 (by decide) ?_
          refine lv_iadd hx hb d_M_size_24 ?_
          refine tp_i (nI (n + 0)) (nI_add _ _) ?_
          refine lv_istore_n (lv' := [(2, .int (nI (n + 0))), (0, .long x), (3, .int (nI i))]) hx hb d_M_size_25 rfl hl (by decide) rfl (fun ls hl => ?_)
          refine lv_iinc (v := nI (i + 1)) (lv' := [(3, .int (nI (i + 1))), (2, .int (nI (n + 0))), (0, .long x)]) hx hb d_M_size_26 hl (k := 2) rfl (nI_1 _) (by decide) rfl (fun ls hl => ?_)
          refine lv_goto (tgt := 4) hx hb d_M_size_29 (by decide) ?_
          exact ih4 (i + 1) (n + 0) (by omega) (by rw [hn4]; simp [pcn, c_3]) (by omega) ls (lv_sub hl [2, 1, 0] rfl)
        · refine lv_iconst (v := nI 1) hx hb d_M_size_19 (by decide) ?_
          refine lv_goto (tgt := 24) hx hb d_M_size_20 (by decide) ?_
          refine lv_iadd hx hb d_M_size_24 ?_
          refine tp_i (nI (n + 1)) (nI_add _ _) ?_
          refine lv_istore_n (lv' := [(2, .int (nI (n + 1))), (0, .long x), (3, .int (nI i))]) hx hb d_M_size_25 rfl hl (by decide) rfl (fun ls hl => ?_)
          refine lv_iinc (v := nI (i + 1)) (lv' := [(3, .int (nI (i + 1))), (2, .int (nI (n + 1))), (0, .long x)]) hx hb d_M_size_26 hl (k := 2) rfl (nI_1 _) (by decide) rfl (fun ls hl => ?_)
          refine lv_goto (tgt := 4) hx hb d_M_size_29 (by decide) ?_
          exact ih4 (i + 1) (n + 1) (by omega) (by rw [hn4]; simp [pcn, c_3]) (by omega) ls (lv_sub hl [2, 1, 0] rfl)
  exact L4 _ 0 0 (Nat.zero_le _) rfl (Nat.lt_succ_self _) ls (lv_sub hl [2, 1, 0] rfl)
set_option maxHeartbeats 4000000 in
set_option maxRecDepth 100000 in
theorem c_M_rows (l : Launch) (dC : Nat → ClassId) (dI : Nat → Nat → Nat) (q : MA) (u : MSt) (sz : Nat)  : Met l y_M_rows w_M_rows ({ frames := 0, cells := 0, slots := 0, locals := 0 }) (qPc (dC, dI) vwCl (tM q) (wM q u) sz [Value.ref (ma_o q)]) (va_Qi (fun (r : Int32) (z : MSt) => r = nI (m_nR u) ∧ z = m_s_th u 0) (qB (dC, dI) vwCl (tM q) (wM q u) sz (wM q)) (va_A (wM q u) sz)) 0 0 (va_A (wM q u) sz) := by
  refine Met.ofW (cc := b_M_rows) (maxL := 1) (ret := (some .int)) (by decide) rfl ?_
  intro p e s m args below meth c s₁ B hml hv
  obtain ⟨rfl, hsz, hP, hK, hD0, hN⟩ := hv
  have hx := B.exec
  have hb := B.bytes
  have hr := B.returns
  have hts := atoms_spec (ws := w_M_rows) B.pre
  have hown : s.vm.findClass "SeatProofsModel" = some m.cls := findClass_of_methodNamed B.named
  have hlocks := B.notSynchronized
  subst hsz
  have hD := hD0.self (sz := s.heap.size)
  have hA : ∀ z : Nat, s.heap.size ≤ z → va_A (wM q u) s.heap.size z := fun z h => Or.inr h
  have hS : va_S (va_A (wM q u) s.heap.size) s.heap s.heap [] := va_S.rf
  have hl := lv_entry ([Value.ref (ma_o q)]) (n := 1) (Nat.le_of_ble_eq_true rfl)
  rw [lg_entry_eq]
  generalize (lg_sl ([Value.ref (ma_o q)]) ++ List.replicate (1 - (lg_sl ([Value.ref (ma_o q)])).length) Slot.unset).toArray = ls at hl ⊢
  have hl : lv_has ls 1 [(0, .ref (ma_o q))] := hl
  refine lv_aload_n hx hb d_M_rows_0 rfl (lv_at hl 0 rfl) ?_
  refine lv_iconst (v := nI 0) hx hb d_M_rows_1 (by decide) ?_
  refine va_put (D := (dC, dI)) (ci := 4) (v := .int (nI 0)) (ty := .int) (C := "SeatProofsModel") (T := F_M) (N := 20) hx hb hts (iu_M _) t_M t_M_ok n_M hown hK hP hD hS 0 rfl rfl 18 (by decide) (hts _ (List.mem_cons_of_mem _ iw_458)) (fun _ h9 => h9) rfl (by decide +kernel) rfl rfl (Nat.le_of_ble_eq_true rfl) d_M_rows_2 (fun H locs hP hD hS => ?_)
  have hP : va_P (dC, dI) vwCl (wM q (m_mk (m_liq u) (m_lev u) (m_nS u) (m_fa u) (m_fb u) (m_seat u) (m_op u) (m_un u) (m_nV u) (m_may u) (m_nR u) (m_rf u) (m_rl u) (m_rw u) (m_rc u) (m_cul u) (m_gu u) (m_te u) 0 (m_wet u))) H := hP
  have hD : va_D (va_A (wM q u) s.heap.size) (wM q (m_mk (m_liq u) (m_lev u) (m_nS u) (m_fa u) (m_fb u) (m_seat u) (m_op u) (m_un u) (m_nV u) (m_may u) (m_nR u) (m_rf u) (m_rl u) (m_rw u) (m_rc u) (m_cul u) (m_gu u) (m_te u) 0 (m_wet u))) := hD
  refine lv_aload_n hx hb d_M_rows_5 rfl (lv_at hl 0 rfl) ?_
  refine va_get (D := (dC, dI)) (ci := 4) (v := .int (nI (m_nR u))) (C := "SeatProofsModel") (T := F_M) (N := 20) hx hb hts (iu_M _) hown hK hP 0 rfl rfl 10 (by decide) (hts _ (List.mem_cons_of_mem _ iw_450)) (fun _ h9 => h9) rfl d_M_rows_6 ?_
  exact W.iret hx hb hr (fun t9 ht9 hW9 => ⟨⟨_, (m_mk (m_liq u) (m_lev u) (m_nS u) (m_fa u) (m_fb u) (m_seat u) (m_op u) (m_un u) (m_nV u) (m_may u) (m_nR u) (m_rf u) (m_rl u) (m_rw u) (m_rc u) (m_cul u) (m_gu u) (m_te u) 0 (m_wet u)), rfl, ⟨rfl, rfl⟩, by rw [ht9]; exact hP, va_K.moved hW9.alike hK, hD⟩, hS.F ht9⟩) hS.2.2 d_M_rows_9
set_option maxHeartbeats 4000000 in
set_option maxRecDepth 100000 in
theorem c_M_tested (l : Launch) (dC : Nat → ClassId) (dI : Nat → Nat → Nat) (q : MA) (u : MSt) (sz : Nat)  : Met l y_M_tested w_M_tested ({ frames := 0, cells := 0, slots := 0, locals := 0 }) (qPc (dC, dI) vwCl (tM q) (wM q u) sz [Value.ref (ma_o q)]) (va_Qi (fun (r : Int32) (z : MSt) => r = nI (m_te u) ∧ z = m_s_th u 0) (qB (dC, dI) vwCl (tM q) (wM q u) sz (wM q)) (va_A (wM q u) sz)) 0 0 (va_A (wM q u) sz) := by
  refine Met.ofW (cc := b_M_tested) (maxL := 1) (ret := (some .int)) (by decide) rfl ?_
  intro p e s m args below meth c s₁ B hml hv
  obtain ⟨rfl, hsz, hP, hK, hD0, hN⟩ := hv
  have hx := B.exec
  have hb := B.bytes
  have hr := B.returns
  have hts := atoms_spec (ws := w_M_tested) B.pre
  have hown : s.vm.findClass "SeatProofsModel" = some m.cls := findClass_of_methodNamed B.named
  have hlocks := B.notSynchronized
  subst hsz
  have hD := hD0.self (sz := s.heap.size)
  have hA : ∀ z : Nat, s.heap.size ≤ z → va_A (wM q u) s.heap.size z := fun z h => Or.inr h
  have hS : va_S (va_A (wM q u) s.heap.size) s.heap s.heap [] := va_S.rf
  have hl := lv_entry ([Value.ref (ma_o q)]) (n := 1) (Nat.le_of_ble_eq_true rfl)
  rw [lg_entry_eq]
  generalize (lg_sl ([Value.ref (ma_o q)]) ++ List.replicate (1 - (lg_sl ([Value.ref (ma_o q)])).length) Slot.unset).toArray = ls at hl ⊢
  have hl : lv_has ls 1 [(0, .ref (ma_o q))] := hl
  refine lv_aload_n hx hb d_M_tested_0 rfl (lv_at hl 0 rfl) ?_
  refine lv_iconst (v := nI 0) hx hb d_M_tested_1 (by decide) ?_
  refine va_put (D := (dC, dI)) (ci := 4) (v := .int (nI 0)) (ty := .int) (C := "SeatProofsModel") (T := F_M) (N := 20) hx hb hts (iu_M _) t_M t_M_ok n_M hown hK hP hD hS 0 rfl rfl 18 (by decide) (hts _ (List.mem_cons_of_mem _ iw_458)) (fun _ h9 => h9) rfl (by decide +kernel) rfl rfl (Nat.le_of_ble_eq_true rfl) d_M_tested_2 (fun H locs hP hD hS => ?_)
  have hP : va_P (dC, dI) vwCl (wM q (m_mk (m_liq u) (m_lev u) (m_nS u) (m_fa u) (m_fb u) (m_seat u) (m_op u) (m_un u) (m_nV u) (m_may u) (m_nR u) (m_rf u) (m_rl u) (m_rw u) (m_rc u) (m_cul u) (m_gu u) (m_te u) 0 (m_wet u))) H := hP
  have hD : va_D (va_A (wM q u) s.heap.size) (wM q (m_mk (m_liq u) (m_lev u) (m_nS u) (m_fa u) (m_fb u) (m_seat u) (m_op u) (m_un u) (m_nV u) (m_may u) (m_nR u) (m_rf u) (m_rl u) (m_rw u) (m_rc u) (m_cul u) (m_gu u) (m_te u) 0 (m_wet u))) := hD
  refine lv_aload_n hx hb d_M_tested_5 rfl (lv_at hl 0 rfl) ?_
  refine va_get (D := (dC, dI)) (ci := 4) (v := .int (nI (m_te u))) (C := "SeatProofsModel") (T := F_M) (N := 20) hx hb hts (iu_M _) hown hK hP 0 rfl rfl 17 (by decide) (hts _ (List.mem_cons_of_mem _ iw_457)) (fun _ h9 => h9) rfl d_M_tested_6 ?_
  exact W.iret hx hb hr (fun t9 ht9 hW9 => ⟨⟨_, (m_mk (m_liq u) (m_lev u) (m_nS u) (m_fa u) (m_fb u) (m_seat u) (m_op u) (m_un u) (m_nV u) (m_may u) (m_nR u) (m_rf u) (m_rl u) (m_rw u) (m_rc u) (m_cul u) (m_gu u) (m_te u) 0 (m_wet u)), rfl, ⟨rfl, rfl⟩, by rw [ht9]; exact hP, va_K.moved hW9.alike hK, hD⟩, hS.F ht9⟩) hS.2.2 d_M_tested_9
set_option maxHeartbeats 4000000 in
set_option maxRecDepth 100000 in
theorem c_M_culprit (l : Launch) (dC : Nat → ClassId) (dI : Nat → Nat → Nat) (q : MA) (u : MSt) (sz : Nat) (x : Int32) : Met l y_M_culprit w_M_culprit ({ frames := 0, cells := 0, slots := 0, locals := 0 }) (qPc (dC, dI) vwCl (tM q) (wM q u) sz [Value.ref (ma_o q), Value.int x]) (va_Qi (fun (r : Int32) (z : MSt) => r = M_culprit u x ∧ z = m_s_th u 0) (qB (dC, dI) vwCl (tM q) (wM q u) sz (wM q)) (va_A (wM q u) sz)) 0 0 (va_A (wM q u) sz) := by
  refine Met.ofW (cc := b_M_culprit) (maxL := 2) (ret := (some .int)) (by decide) rfl ?_
  intro p e s m args below meth c s₁ B hml hv
  obtain ⟨rfl, hsz, hP, hK, hD0, hN⟩ := hv
  have hx := B.exec
  have hb := B.bytes
  have hr := B.returns
  have hts := atoms_spec (ws := w_M_culprit) B.pre
  have hown : s.vm.findClass "SeatProofsModel" = some m.cls := findClass_of_methodNamed B.named
  have hlocks := B.notSynchronized
  subst hsz
  have hD := hD0.self (sz := s.heap.size)
  have hA : ∀ z : Nat, s.heap.size ≤ z → va_A (wM q u) s.heap.size z := fun z h => Or.inr h
  have hS : va_S (va_A (wM q u) s.heap.size) s.heap s.heap [] := va_S.rf
  have hl := lv_entry ([Value.ref (ma_o q), Value.int x]) (n := 2) (Nat.le_of_ble_eq_true rfl)
  rw [lg_entry_eq]
  generalize (lg_sl ([Value.ref (ma_o q), Value.int x]) ++ List.replicate (2 - (lg_sl ([Value.ref (ma_o q), Value.int x])).length) Slot.unset).toArray = ls at hl ⊢
  have hl : lv_has ls 2 [(0, .ref (ma_o q)), (1, .int x)] := hl
  refine lv_aload_n hx hb d_M_culprit_0 rfl (lv_at hl 0 rfl) ?_
  refine lv_iconst (v := nI 0) hx hb d_M_culprit_1 (by decide) ?_
  refine va_put (D := (dC, dI)) (ci := 4) (v := .int (nI 0)) (ty := .int) (C := "SeatProofsModel") (T := F_M) (N := 20) hx hb hts (iu_M _) t_M t_M_ok n_M hown hK hP hD hS 0 rfl rfl 18 (by decide) (hts _ (List.mem_cons_of_mem _ iw_458)) (fun _ h9 => h9) rfl (by decide +kernel) rfl rfl (Nat.le_of_ble_eq_true rfl) d_M_culprit_2 (fun H locs hP hD hS => ?_)
  have hP : va_P (dC, dI) vwCl (wM q (m_mk (m_liq u) (m_lev u) (m_nS u) (m_fa u) (m_fb u) (m_seat u) (m_op u) (m_un u) (m_nV u) (m_may u) (m_nR u) (m_rf u) (m_rl u) (m_rw u) (m_rc u) (m_cul u) (m_gu u) (m_te u) 0 (m_wet u))) H := hP
  have hD : va_D (va_A (wM q u) s.heap.size) (wM q (m_mk (m_liq u) (m_lev u) (m_nS u) (m_fa u) (m_fb u) (m_seat u) (m_op u) (m_un u) (m_nV u) (m_may u) (m_nR u) (m_rf u) (m_rl u) (m_rw u) (m_rc u) (m_cul u) (m_gu u) (m_te u) 0 (m_wet u))) := hD
  refine lv_aload_n hx hb d_M_culprit_5 rfl (lv_at hl 0 rfl) ?_
  refine va_get (D := (dC, dI)) (ci := 4) (v := .int (bI (m_gu u))) (C := "SeatProofsModel") (T := F_M) (N := 20) hx hb hts (iu_M _) hown hK hP 0 rfl rfl 16 (by decide) (hts _ (List.mem_cons_of_mem _ iw_456)) (fun _ h9 => h9) rfl d_M_culprit_6 ?_
  refine b0_eq (tgt := 30) hx hb d_M_culprit_9 (by decide) (fun c_1 => ?_) (fun c_1 => ?_)
  · refine lv_iconst (v := (-1)) hx hb d_M_culprit_30 (by decide) ?_
    exact W.iret hx hb hr (fun t9 ht9 hW9 => ⟨⟨_, (m_mk (m_liq u) (m_lev u) (m_nS u) (m_fa u) (m_fb u) (m_seat u) (m_op u) (m_un u) (m_nV u) (m_may u) (m_nR u) (m_rf u) (m_rl u) (m_rw u) (m_rc u) (m_cul u) (m_gu u) (m_te u) 0 (m_wet u)), rfl, ⟨by rw [M_culprit, if_neg (fun h => absurd (h.1.symm.trans c_1) (by decide))], rfl⟩, by rw [ht9]; exact hP, va_K.moved hW9.alike hK, hD⟩, hS.F ht9⟩) hS.2.2 d_M_culprit_31
  · refine lv_iload_n hx hb d_M_culprit_12 rfl (lv_at hl 1 rfl) ?_
    refine lv_if_lt (tgt := 30) hx hb d_M_culprit_13 (by decide) (fun c_2 => ?_) (fun c_2 => ?_)
    · refine lv_iconst (v := (-1)) hx hb d_M_culprit_30 (by decide) ?_
      exact W.iret hx hb hr (fun t9 ht9 hW9 => ⟨⟨_, (m_mk (m_liq u) (m_lev u) (m_nS u) (m_fa u) (m_fb u) (m_seat u) (m_op u) (m_un u) (m_nV u) (m_may u) (m_nR u) (m_rf u) (m_rl u) (m_rw u) (m_rc u) (m_cul u) (m_gu u) (m_te u) 0 (m_wet u)), rfl, ⟨by rw [M_culprit, if_neg (fun h => h.2.1 c_2)], rfl⟩, by rw [ht9]; exact hP, va_K.moved hW9.alike hK, hD⟩, hS.F ht9⟩) hS.2.2 d_M_culprit_31
    · refine lv_iload_n hx hb d_M_culprit_16 rfl (lv_at hl 1 rfl) ?_
      refine lv_iconst (v := nI 4) hx hb d_M_culprit_17 (by decide) ?_
      refine lv_icmp_ge (tgt := 30) hx hb d_M_culprit_18 (by decide) (fun c_3 => ?_) (fun c_3 => ?_)
      · refine lv_iconst (v := (-1)) hx hb d_M_culprit_30 (by decide) ?_
        exact W.iret hx hb hr (fun t9 ht9 hW9 => ⟨⟨_, (m_mk (m_liq u) (m_lev u) (m_nS u) (m_fa u) (m_fb u) (m_seat u) (m_op u) (m_un u) (m_nV u) (m_may u) (m_nR u) (m_rf u) (m_rl u) (m_rw u) (m_rc u) (m_cul u) (m_gu u) (m_te u) 0 (m_wet u)), rfl, ⟨by rw [M_culprit, if_neg (fun h => h.2.2 c_3)], rfl⟩, by rw [ht9]; exact hP, va_K.moved hW9.alike hK, hD⟩, hS.F ht9⟩) hS.2.2 d_M_culprit_31
      · obtain ⟨j, hj, rfl⟩ := ixB_of (n := 4) (by decide) (decide_eq_true ⟨c_2, c_3⟩)
        refine lv_aload_n hx hb d_M_culprit_21 rfl (lv_at hl 0 rfl) ?_
        refine va_get (D := (dC, dI)) (ci := 4) (v := .ref (ma_cul q)) (C := "SeatProofsModel") (T := F_M) (N := 20) hx hb hts (iu_M _) hown hK hP 0 rfl rfl 15 (by decide) (hts _ (List.mem_cons_of_mem _ iw_455)) (fun _ h9 => h9) rfl d_M_culprit_22 ?_
        refine lv_iload_n hx hb d_M_culprit_25 rfl (lv_at hl 1 rfl) ?_
        refine ld_i hx hb hK hP 13 0 rfl rfl (nI (m_cul u j)) (by omega) (by decide) rfl d_M_culprit_26 ?_
        refine lv_goto (tgt := 31) hx hb d_M_culprit_27 (by decide) ?_
        exact W.iret hx hb hr (fun t9 ht9 hW9 => ⟨⟨_, (m_mk (m_liq u) (m_lev u) (m_nS u) (m_fa u) (m_fb u) (m_seat u) (m_op u) (m_un u) (m_nV u) (m_may u) (m_nR u) (m_rf u) (m_rl u) (m_rw u) (m_rc u) (m_cul u) (m_gu u) (m_te u) 0 (m_wet u)), rfl, ⟨by rw [M_culprit, if_pos ⟨c_1, c_2, c_3⟩, nI_clamp (by omega)], rfl⟩, by rw [ht9]; exact hP, va_K.moved hW9.alike hK, hD⟩, hS.F ht9⟩) hS.2.2 d_M_culprit_31
end
section
set_option maxHeartbeats 4000000 in
set_option maxRecDepth 100000 in
theorem c_M_space (l : Launch) (dC : Nat → ClassId) (dI : Nat → Nat → Nat) (q : MA) (u : MSt) (sz : Nat) (x : Int32) (hu : MOk u) : Met l y_M_space w_M_space ({ frames := 0, cells := 0, slots := 0, locals := 0 }) (qPc (dC, dI) vwCl (tM q) (wM q u) sz [Value.ref (ma_o q), Value.int x]) (va_Qi (fun (r : Int32) (z : MSt) => (r, z) = M_space u x) (qB (dC, dI) vwCl (tM q) (wM q u) sz (wM q)) (va_A (wM q u) sz)) 0 0 (va_A (wM q u) sz) := by
  refine Met.ofW (cc := b_M_space) (maxL := 2) (ret := (some .int)) (by decide) rfl ?_
  intro p e s m args below meth c s₁ B hml hv
  obtain ⟨rfl, hsz, hP, hK, hD0, hN⟩ := hv
  have hx := B.exec
  have hb := B.bytes
  have hr := B.returns
  have hts := atoms_spec (ws := w_M_space) B.pre
  have hown : s.vm.findClass "SeatProofsModel" = some m.cls := findClass_of_methodNamed B.named
  have hlocks := B.notSynchronized
  subst hsz
  have hD := hD0.self (sz := s.heap.size)
  have hA : ∀ z : Nat, s.heap.size ≤ z → va_A (wM q u) s.heap.size z := fun z h => Or.inr h
  have hS : va_S (va_A (wM q u) s.heap.size) s.heap s.heap [] := va_S.rf
  have hl := lv_entry ([Value.ref (ma_o q), Value.int x]) (n := 2) (Nat.le_of_ble_eq_true rfl)
  rw [lg_entry_eq]
  generalize (lg_sl ([Value.ref (ma_o q), Value.int x]) ++ List.replicate (2 - (lg_sl ([Value.ref (ma_o q), Value.int x])).length) Slot.unset).toArray = ls at hl ⊢
  have hl : lv_has ls 2 [(0, .ref (ma_o q)), (1, .int x)] := hl
  obtain ⟨k1, k2, k3, k4, k5, k6, k7, k8, k9, k10, k11⟩ := id hu
  refine lv_aload_n hx hb d_M_space_0 rfl (lv_at hl 0 rfl) ?_
  refine lv_iconst (v := nI 0) hx hb d_M_space_1 (by decide) ?_
  refine va_put (D := (dC, dI)) (ci := 4) (v := .int (nI 0)) (ty := .int) (C := "SeatProofsModel") (T := F_M) (N := 20) hx hb hts (iu_M _) t_M t_M_ok n_M hown hK hP hD hS 0 rfl rfl 18 (by decide) (hts _ (List.mem_cons_of_mem _ iw_458)) (fun _ h9 => h9) rfl (by decide +kernel) rfl rfl (Nat.le_of_ble_eq_true rfl) d_M_space_2 (fun H locs hP hD hS => ?_)
  have hP : va_P (dC, dI) vwCl (wM q (m_mk (m_liq u) (m_lev u) (m_nS u) (m_fa u) (m_fb u) (m_seat u) (m_op u) (m_un u) (m_nV u) (m_may u) (m_nR u) (m_rf u) (m_rl u) (m_rw u) (m_rc u) (m_cul u) (m_gu u) (m_te u) 0 (m_wet u))) H := hP
  have hD : va_D (va_A (wM q u) s.heap.size) (wM q (m_mk (m_liq u) (m_lev u) (m_nS u) (m_fa u) (m_fb u) (m_seat u) (m_op u) (m_un u) (m_nV u) (m_may u) (m_nR u) (m_rf u) (m_rl u) (m_rw u) (m_rc u) (m_cul u) (m_gu u) (m_te u) 0 (m_wet u))) := hD
  refine lv_iload_n hx hb d_M_space_5 rfl (lv_at hl 1 rfl) ?_
  refine lv_if_lt (tgt := 15) hx hb d_M_space_6 (by decide) (fun c_1 => ?_) (fun c_1 => ?_)
  · refine lv_iconst (v := (-1)) hx hb d_M_space_15 (by decide) ?_
    exact W.iret hx hb hr (fun t9 ht9 hW9 => ⟨⟨_, (m_mk (m_liq u) (m_lev u) (m_nS u) (m_fa u) (m_fb u) (m_seat u) (m_op u) (m_un u) (m_nV u) (m_may u) (m_nR u) (m_rf u) (m_rl u) (m_rw u) (m_rc u) (m_cul u) (m_gu u) (m_te u) 0 (m_wet u)), rfl, (by rw [M_space, if_pos (Or.inl c_1)]), by rw [ht9]; exact hP, va_K.moved hW9.alike hK, hD⟩, hS.F ht9⟩) hS.2.2 d_M_space_16
  · refine lv_iload_n hx hb d_M_space_9 rfl (lv_at hl 1 rfl) ?_
    refine lv_bipush (v := nI 16) hx hb d_M_space_10 (by decide) ?_
    refine lv_icmp_lt (tgt := 17) hx hb d_M_space_12 (by decide) (fun c_2 => ?_) (fun c_2 => ?_)
    · obtain ⟨j, hj, rfl⟩ := nI_of c_1
      have hj2 : j < 16 := (nI_ltI hj (by decide)).mp c_2
      refine lv_aload_n hx hb d_M_space_17 rfl (lv_at hl 0 rfl) ?_
      refine va_get (D := (dC, dI)) (ci := 4) (v := .int (nI (m_nS u))) (C := "SeatProofsModel") (T := F_M) (N := 20) hx hb hts (iu_M _) hown hK hP 0 rfl rfl 2 (by decide) (hts _ (List.mem_cons_of_mem _ iw_442)) (fun _ h9 => h9) rfl d_M_space_18 ?_
      refine lv_bipush (v := nI 64) hx hb d_M_space_21 (by decide) ?_
      refine nv_ne (tgt := 29) hx hb d_M_space_23 (by decide) (by omega) (by omega) (fun c_3 => ?_) (fun c_3 => ?_)
      · refine lv_aload_n hx hb d_M_space_29 rfl (lv_at hl 0 rfl) ?_
        refine va_get (D := (dC, dI)) (ci := 4) (v := .ref (ma_liq q)) (C := "SeatProofsModel") (T := F_M) (N := 20) hx hb hts (iu_M _) hown hK hP 0 rfl rfl 0 (by decide) (hts _ (List.mem_cons_of_mem _ iw_440)) (fun _ h9 => h9) rfl d_M_space_30 ?_
        refine lv_aload_n hx hb d_M_space_33 rfl (lv_at hl 0 rfl) ?_
        refine va_get (D := (dC, dI)) (ci := 4) (v := .int (nI (m_nS u))) (C := "SeatProofsModel") (T := F_M) (N := 20) hx hb hts (iu_M _) hown hK hP 0 rfl rfl 2 (by decide) (hts _ (List.mem_cons_of_mem _ iw_442)) (fun _ h9 => h9) rfl d_M_space_34 ?_
        refine lv_iload_n hx hb d_M_space_37 rfl (lv_at hl 1 rfl) ?_
        refine st_i hx hb hK hP hD hS 1 0 rfl rfl (fun j9 => nI (va_up (m_liq u) (m_nS u) j j9)) (by omega) (by decide) (upd_nI _ _ _) d_M_space_38 (fun H locs hP hD hS => ?_)
        have hP : va_P (dC, dI) vwCl (wM q (m_mk (va_up (m_liq u) (m_nS u) j) (m_lev u) (m_nS u) (m_fa u) (m_fb u) (m_seat u) (m_op u) (m_un u) (m_nV u) (m_may u) (m_nR u) (m_rf u) (m_rl u) (m_rw u) (m_rc u) (m_cul u) (m_gu u) (m_te u) 0 (m_wet u))) H := hP
        have hD : va_D (va_A (wM q u) s.heap.size) (wM q (m_mk (va_up (m_liq u) (m_nS u) j) (m_lev u) (m_nS u) (m_fa u) (m_fb u) (m_seat u) (m_op u) (m_un u) (m_nV u) (m_may u) (m_nR u) (m_rf u) (m_rl u) (m_rw u) (m_rc u) (m_cul u) (m_gu u) (m_te u) 0 (m_wet u))) := hD
        refine lv_aload_n hx hb d_M_space_39 rfl (lv_at hl 0 rfl) ?_
        refine va_get (D := (dC, dI)) (ci := 4) (v := .ref (ma_lev q)) (C := "SeatProofsModel") (T := F_M) (N := 20) hx hb hts (iu_M _) hown hK hP 0 rfl rfl 1 (by decide) (hts _ (List.mem_cons_of_mem _ iw_441)) (fun _ h9 => h9) rfl d_M_space_40 ?_
        refine lv_aload_n hx hb d_M_space_43 rfl (lv_at hl 0 rfl) ?_
        refine va_get (D := (dC, dI)) (ci := 4) (v := .int (nI (m_nS u))) (C := "SeatProofsModel") (T := F_M) (N := 20) hx hb hts (iu_M _) hown hK hP 0 rfl rfl 2 (by decide) (hts _ (List.mem_cons_of_mem _ iw_442)) (fun _ h9 => h9) rfl d_M_space_44 ?_
        refine lv_lconst (v := 0) hx hb d_M_space_47 (by decide) ?_
        refine st_l hx hb hK hP hD hS 2 1 rfl rfl (va_up (m_lev u) (m_nS u) 0) (by omega) (by decide) (updL_up _ _ _) d_M_space_48 (fun H locs hP hD hS => ?_)
        have hP : va_P (dC, dI) vwCl (wM q (m_mk (va_up (m_liq u) (m_nS u) j) (va_up (m_lev u) (m_nS u) 0) (m_nS u) (m_fa u) (m_fb u) (m_seat u) (m_op u) (m_un u) (m_nV u) (m_may u) (m_nR u) (m_rf u) (m_rl u) (m_rw u) (m_rc u) (m_cul u) (m_gu u) (m_te u) 0 (m_wet u))) H := hP
        have hD : va_D (va_A (wM q u) s.heap.size) (wM q (m_mk (va_up (m_liq u) (m_nS u) j) (va_up (m_lev u) (m_nS u) 0) (m_nS u) (m_fa u) (m_fb u) (m_seat u) (m_op u) (m_un u) (m_nV u) (m_may u) (m_nR u) (m_rf u) (m_rl u) (m_rw u) (m_rc u) (m_cul u) (m_gu u) (m_te u) 0 (m_wet u))) := hD
        refine lv_aload_n hx hb d_M_space_49 rfl (lv_at hl 0 rfl) ?_
        refine lv_dup hx hb d_M_space_50 rfl ?_
        refine va_get (D := (dC, dI)) (ci := 4) (v := .int (nI (m_nS u))) (C := "SeatProofsModel") (T := F_M) (N := 20) hx hb hts (iu_M _) hown hK hP 0 rfl rfl 2 (by decide) (hts _ (List.mem_cons_of_mem _ iw_442)) (fun _ h9 => h9) rfl d_M_space_51 ?_
        refine lv_iconst (v := nI 1) hx hb d_M_space_54 (by decide) ?_
        refine lv_iadd hx hb d_M_space_55 ?_
        refine tp_i (nI (m_nS u + 1)) (nI_add _ _) ?_
        refine va_put (D := (dC, dI)) (ci := 4) (v := .int (nI (m_nS u + 1))) (ty := .int) (C := "SeatProofsModel") (T := F_M) (N := 20) hx hb hts (iu_M _) t_M t_M_ok n_M hown hK hP hD hS 0 rfl rfl 2 (by decide) (hts _ (List.mem_cons_of_mem _ iw_442)) (fun _ h9 => h9) rfl (by decide +kernel) rfl rfl (Nat.le_of_ble_eq_true rfl) d_M_space_56 (fun H locs hP hD hS => ?_)
        have hP : va_P (dC, dI) vwCl (wM q (m_mk (va_up (m_liq u) (m_nS u) j) (va_up (m_lev u) (m_nS u) 0) (m_nS u + 1) (m_fa u) (m_fb u) (m_seat u) (m_op u) (m_un u) (m_nV u) (m_may u) (m_nR u) (m_rf u) (m_rl u) (m_rw u) (m_rc u) (m_cul u) (m_gu u) (m_te u) 0 (m_wet u))) H := hP
        have hD : va_D (va_A (wM q u) s.heap.size) (wM q (m_mk (va_up (m_liq u) (m_nS u) j) (va_up (m_lev u) (m_nS u) 0) (m_nS u + 1) (m_fa u) (m_fb u) (m_seat u) (m_op u) (m_un u) (m_nV u) (m_may u) (m_nR u) (m_rf u) (m_rl u) (m_rw u) (m_rc u) (m_cul u) (m_gu u) (m_te u) 0 (m_wet u))) := hD
        refine lv_aload_n hx hb d_M_space_59 rfl (lv_at hl 0 rfl) ?_
        refine lv_iconst (v := nI 0) hx hb d_M_space_60 (by decide) ?_
        refine va_put (D := (dC, dI)) (ci := 4) (v := .int (nI 0)) (ty := .int) (C := "SeatProofsModel") (T := F_M) (N := 20) hx hb hts (iu_M _) t_M t_M_ok n_M hown hK hP hD hS 0 rfl rfl 10 (by decide) (hts _ (List.mem_cons_of_mem _ iw_450)) (fun _ h9 => h9) rfl (by decide +kernel) rfl rfl (Nat.le_of_ble_eq_true rfl) d_M_space_61 (fun H locs hP hD hS => ?_)
        have hP : va_P (dC, dI) vwCl (wM q (m_mk (va_up (m_liq u) (m_nS u) j) (va_up (m_lev u) (m_nS u) 0) (m_nS u + 1) (m_fa u) (m_fb u) (m_seat u) (m_op u) (m_un u) (m_nV u) (m_may u) 0 (m_rf u) (m_rl u) (m_rw u) (m_rc u) (m_cul u) (m_gu u) (m_te u) 0 (m_wet u))) H := hP
        have hD : va_D (va_A (wM q u) s.heap.size) (wM q (m_mk (va_up (m_liq u) (m_nS u) j) (va_up (m_lev u) (m_nS u) 0) (m_nS u + 1) (m_fa u) (m_fb u) (m_seat u) (m_op u) (m_un u) (m_nV u) (m_may u) 0 (m_rf u) (m_rl u) (m_rw u) (m_rc u) (m_cul u) (m_gu u) (m_te u) 0 (m_wet u))) := hD
        refine lv_aload_n hx hb d_M_space_64 rfl (lv_at hl 0 rfl) ?_
        refine va_get (D := (dC, dI)) (ci := 4) (v := .int (nI (m_nS u + 1))) (C := "SeatProofsModel") (T := F_M) (N := 20) hx hb hts (iu_M _) hown hK hP 0 rfl rfl 2 (by decide) (hts _ (List.mem_cons_of_mem _ iw_442)) (fun _ h9 => h9) rfl d_M_space_65 ?_
        refine lv_iconst (v := nI 1) hx hb d_M_space_68 (by decide) ?_
        refine lv_isub hx hb d_M_space_69 ?_
        refine tp_i (nI ((m_nS u + 1) - 1)) (pk_sub (by omega)) ?_
        exact W.iret hx hb hr (fun t9 ht9 hW9 => ⟨⟨_, (m_mk (va_up (m_liq u) (m_nS u) j) (va_up (m_lev u) (m_nS u) 0) (m_nS u + 1) (m_fa u) (m_fb u) (m_seat u) (m_op u) (m_un u) (m_nV u) (m_may u) 0 (m_rf u) (m_rl u) (m_rw u) (m_rc u) (m_cul u) (m_gu u) (m_te u) 0 (m_wet u)), rfl, (by rw [M_space, if_neg (fun h => h.elim c_1 (fun h => h c_2)), if_neg c_3, nI_clamp hj]; first | done | rfl), by rw [ht9]; exact hP, va_K.moved hW9.alike hK, hD⟩, hS.F ht9⟩) hS.2.2 d_M_space_70
      · refine lv_bipush (v := (-2)) hx hb d_M_space_26 (by decide) ?_
        exact W.iret hx hb hr (fun t9 ht9 hW9 => ⟨⟨_, (m_mk (m_liq u) (m_lev u) (m_nS u) (m_fa u) (m_fb u) (m_seat u) (m_op u) (m_un u) (m_nV u) (m_may u) (m_nR u) (m_rf u) (m_rl u) (m_rw u) (m_rc u) (m_cul u) (m_gu u) (m_te u) 0 (m_wet u)), rfl, (by rw [M_space, if_neg (fun h => h.elim c_1 (fun h => h c_2)), if_pos c_3]), by rw [ht9]; exact hP, va_K.moved hW9.alike hK, hD⟩, hS.F ht9⟩) hS.2.2 d_M_space_28
    · refine lv_iconst (v := (-1)) hx hb d_M_space_15 (by decide) ?_
      exact W.iret hx hb hr (fun t9 ht9 hW9 => ⟨⟨_, (m_mk (m_liq u) (m_lev u) (m_nS u) (m_fa u) (m_fb u) (m_seat u) (m_op u) (m_un u) (m_nV u) (m_may u) (m_nR u) (m_rf u) (m_rl u) (m_rw u) (m_rc u) (m_cul u) (m_gu u) (m_te u) 0 (m_wet u)), rfl, (by rw [M_space, if_pos (Or.inr c_2)]), by rw [ht9]; exact hP, va_K.moved hW9.alike hK, hD⟩, hS.F ht9⟩) hS.2.2 d_M_space_16
set_option maxHeartbeats 4000000 in
set_option maxRecDepth 100000 in
theorem c_M_valve (l : Launch) (dC : Nat → ClassId) (dI : Nat → Nat → Nat) (q : MA) (u : MSt) (sz : Nat) (x y k : Int32) (o : Bool) (hu : MOk u) : Met l y_M_valve w_M_valve ({ frames := 1, cells := 0, slots := 0, locals := 21 }) (qPc (dC, dI) vwCl (tM q) (wM q u) sz [Value.ref (ma_o q), Value.int x, Value.int y, Value.int k, Value.int (bI o)]) (va_Qi (fun (r : Int32) (z : MSt) => (r, z) = M_valve u x y k o) (qB (dC, dI) vwCl (tM q) (wM q u) sz (wM q)) (va_A (wM q u) sz)) 0 0 (va_A (wM q u) sz) := by
  refine Met.ofW (cc := b_M_valve) (maxL := 5) (ret := (some .int)) (by decide) rfl ?_
  intro p e s m args below meth c s₁ B hml hv
  obtain ⟨rfl, hsz, hP, hK, hD0, hN⟩ := hv
  have hx := B.exec
  have hb := B.bytes
  have hr := B.returns
  have hts := atoms_spec (ws := w_M_valve) B.pre
  have hown : s.vm.findClass "SeatProofsModel" = some m.cls := findClass_of_methodNamed B.named
  have hlocks := B.notSynchronized
  subst hsz
  have hD := hD0.self (sz := s.heap.size)
  have hA : ∀ z : Nat, s.heap.size ≤ z → va_A (wM q u) s.heap.size z := fun z h => Or.inr h
  have hS : va_S (va_A (wM q u) s.heap.size) s.heap s.heap [] := va_S.rf
  have hl := lv_entry ([Value.ref (ma_o q), Value.int x, Value.int y, Value.int k, Value.int (bI o)]) (n := 5) (Nat.le_of_ble_eq_true rfl)
  rw [lg_entry_eq]
  generalize (lg_sl ([Value.ref (ma_o q), Value.int x, Value.int y, Value.int k, Value.int (bI o)]) ++ List.replicate (5 - (lg_sl ([Value.ref (ma_o q), Value.int x, Value.int y, Value.int k, Value.int (bI o)])).length) Slot.unset).toArray = ls at hl ⊢
  have hl : lv_has ls 5 [(0, .ref (ma_o q)), (1, .int x), (2, .int y), (3, .int k), (4, .int (bI o))] := hl
  obtain ⟨k1, k2, k3, k4, k5, k6, k7, k8, k9, k10, k11⟩ := id hu
  refine lv_aload_n hx hb d_M_valve_0 rfl (lv_at hl 0 rfl) ?_
  refine lv_iconst (v := nI 0) hx hb d_M_valve_1 (by decide) ?_
  refine va_put (D := (dC, dI)) (ci := 4) (v := .int (nI 0)) (ty := .int) (C := "SeatProofsModel") (T := F_M) (N := 20) hx hb hts (iu_M _) t_M t_M_ok n_M hown hK hP hD hS 0 rfl rfl 18 (by decide) (hts _ (List.mem_cons_of_mem _ iw_458)) (fun _ h9 => h9) rfl (by decide +kernel) rfl rfl (Nat.le_of_ble_eq_true rfl) d_M_valve_2 (fun H locs hP hD hS => ?_)
  have hP : va_P (dC, dI) vwCl (wM q (m_mk (m_liq u) (m_lev u) (m_nS u) (m_fa u) (m_fb u) (m_seat u) (m_op u) (m_un u) (m_nV u) (m_may u) (m_nR u) (m_rf u) (m_rl u) (m_rw u) (m_rc u) (m_cul u) (m_gu u) (m_te u) 0 (m_wet u))) H := hP
  have hD : va_D (va_A (wM q u) s.heap.size) (wM q (m_mk (m_liq u) (m_lev u) (m_nS u) (m_fa u) (m_fb u) (m_seat u) (m_op u) (m_un u) (m_nV u) (m_may u) (m_nR u) (m_rf u) (m_rl u) (m_rw u) (m_rc u) (m_cul u) (m_gu u) (m_te u) 0 (m_wet u))) := hD
  refine lv_aload_n hx hb d_M_valve_5 rfl (lv_at hl 0 rfl) ?_
  refine lv_iload_n hx hb d_M_valve_6 rfl (lv_at hl 1 rfl) ?_
  refine vp_callSi (va_Run.run (va_runV (As := [.int x]) (rest := []) ⟨hx, hb, hml, hown, hts⟩ (c_M_isSpace l dC dI q (m_mk (m_liq u) (m_lev u) (m_nS u) (m_fa u) (m_fb u) (m_seat u) (m_op u) (m_un u) (m_nV u) (m_may u) (m_nR u) (m_rf u) (m_rl u) (m_rw u) (m_rc u) (m_cul u) (m_gu u) (m_te u) 0 (m_wet u)) x) (cwV 1 hts (good_up (good_V iw_514 iw_516 ip_9 iw_5 gg_M_isSpace)) rfl rfl rfl (by decide +kernel) ⟨Nat.le_of_ble_eq_true rfl, Nat.le_of_ble_eq_true rfl⟩) (pv_S [.int x] hN hK hP (ci := 4) (q0 := 0) rfl rfl) rfl rfl hl.1 rfl (lv_room (Nat.le_of_ble_eq_true rfl)) d_M_valve_7 ⟨Nat.le_of_ble_eq_true rfl, Nat.le_of_ble_eq_true rfl⟩)) (fun r_1 hr_1 => ?_)
  subst hr_1
  refine b0_eq (tgt := 36) hx hb d_M_valve_10 (by decide) (fun c_2 => ?_) (fun c_2 => ?_)
  · refine lv_iconst (v := (-1)) hx hb d_M_valve_36 (by decide) ?_
    exact W.iret hx hb hr (fun t9 ht9 hW9 => ⟨⟨_, (m_mk (m_liq u) (m_lev u) (m_nS u) (m_fa u) (m_fb u) (m_seat u) (m_op u) (m_un u) (m_nV u) (m_may u) (m_nR u) (m_rf u) (m_rl u) (m_rw u) (m_rc u) (m_cul u) (m_gu u) (m_te u) 0 (m_wet u)), rfl, (by rw [M_valve, if_pos (Or.inl c_2)]), by rw [ht9]; exact hP, va_K.moved hW9.alike hK, hD⟩, hS.F ht9⟩) hS.2.2 d_M_valve_37
  · obtain ⟨i, hi, rfl⟩ := ixB_of (by show m_nS u < 2 ^ 31; omega) c_2
    have hi : i < m_nS u := hi
    refine lv_aload_n hx hb d_M_valve_13 rfl (lv_at hl 0 rfl) ?_
    refine lv_iload_n hx hb d_M_valve_14 rfl (lv_at hl 2 rfl) ?_
    refine vp_callSi (va_Run.run (va_runV (As := [.int y]) (rest := []) ⟨hx, hb, hml, hown, hts⟩ (c_M_isSpace l dC dI q (m_mk (m_liq u) (m_lev u) (m_nS u) (m_fa u) (m_fb u) (m_seat u) (m_op u) (m_un u) (m_nV u) (m_may u) (m_nR u) (m_rf u) (m_rl u) (m_rw u) (m_rc u) (m_cul u) (m_gu u) (m_te u) 0 (m_wet u)) y) (cwV 1 hts (good_up (good_V iw_514 iw_516 ip_9 iw_5 gg_M_isSpace)) rfl rfl rfl (by decide +kernel) ⟨Nat.le_of_ble_eq_true rfl, Nat.le_of_ble_eq_true rfl⟩) (pv_S [.int y] hN hK hP (ci := 4) (q0 := 0) rfl rfl) rfl rfl hl.1 rfl (lv_room (Nat.le_of_ble_eq_true rfl)) d_M_valve_15 ⟨Nat.le_of_ble_eq_true rfl, Nat.le_of_ble_eq_true rfl⟩)) (fun r_3 hr_3 => ?_)
    subst hr_3
    refine b0_eq (tgt := 36) hx hb d_M_valve_18 (by decide) (fun c_4 => ?_) (fun c_4 => ?_)
    · refine lv_iconst (v := (-1)) hx hb d_M_valve_36 (by decide) ?_
      exact W.iret hx hb hr (fun t9 ht9 hW9 => ⟨⟨_, (m_mk (m_liq u) (m_lev u) (m_nS u) (m_fa u) (m_fb u) (m_seat u) (m_op u) (m_un u) (m_nV u) (m_may u) (m_nR u) (m_rf u) (m_rl u) (m_rw u) (m_rc u) (m_cul u) (m_gu u) (m_te u) 0 (m_wet u)), rfl, (by rw [M_valve, if_pos (Or.inr (Or.inl c_4))]), by rw [ht9]; exact hP, va_K.moved hW9.alike hK, hD⟩, hS.F ht9⟩) hS.2.2 d_M_valve_37
    · obtain ⟨j, hj, rfl⟩ := ixB_of (by show m_nS u < 2 ^ 31; omega) c_4
      have hj : j < m_nS u := hj
      refine lv_iload_n hx hb d_M_valve_21 rfl (lv_at hl 1 rfl) ?_
      refine lv_iload_n hx hb d_M_valve_22 rfl (lv_at hl 2 rfl) ?_
      refine nv_eq (tgt := 36) hx hb d_M_valve_23 (by decide) (by omega) (by omega) (fun c_5 => ?_) (fun c_5 => ?_)
      · refine lv_iconst (v := (-1)) hx hb d_M_valve_36 (by decide) ?_
        exact W.iret hx hb hr (fun t9 ht9 hW9 => ⟨⟨_, (m_mk (m_liq u) (m_lev u) (m_nS u) (m_fa u) (m_fb u) (m_seat u) (m_op u) (m_un u) (m_nV u) (m_may u) (m_nR u) (m_rf u) (m_rl u) (m_rw u) (m_rc u) (m_cul u) (m_gu u) (m_te u) 0 (m_wet u)), rfl, (by rw [M_valve, if_pos (Or.inr (Or.inr (Or.inl (by rw [c_5]))))]), by rw [ht9]; exact hP, va_K.moved hW9.alike hK, hD⟩, hS.F ht9⟩) hS.2.2 d_M_valve_37
      · refine lv_iload_n hx hb d_M_valve_26 rfl (lv_at hl 3 rfl) ?_
        refine lv_iconst (v := nI 1) hx hb d_M_valve_27 (by decide) ?_
        refine lv_icmp_lt (tgt := 36) hx hb d_M_valve_28 (by decide) (fun c_6 => ?_) (fun c_6 => ?_)
        · refine lv_iconst (v := (-1)) hx hb d_M_valve_36 (by decide) ?_
          exact W.iret hx hb hr (fun t9 ht9 hW9 => ⟨⟨_, (m_mk (m_liq u) (m_lev u) (m_nS u) (m_fa u) (m_fb u) (m_seat u) (m_op u) (m_un u) (m_nV u) (m_may u) (m_nR u) (m_rf u) (m_rl u) (m_rw u) (m_rc u) (m_cul u) (m_gu u) (m_te u) 0 (m_wet u)), rfl, (by rw [M_valve, if_pos (Or.inr (Or.inr (Or.inr (Or.inl c_6))))]), by rw [ht9]; exact hP, va_K.moved hW9.alike hK, hD⟩, hS.F ht9⟩) hS.2.2 d_M_valve_37
        · refine lv_iload_n hx hb d_M_valve_31 rfl (lv_at hl 3 rfl) ?_
          refine lv_iconst (v := nI 2) hx hb d_M_valve_32 (by decide) ?_
          refine lv_icmp_le (tgt := 38) hx hb d_M_valve_33 (by decide) (fun c_7 => ?_) (fun c_7 => ?_)
          · obtain ⟨t, ht, rfl⟩ := nI_of2 (M := nI 2) (n := 2) (by decide) (fun q => c_6 (Int32.lt_trans q (by decide))) c_7
            refine lv_aload_n hx hb d_M_valve_38 rfl (lv_at hl 0 rfl) ?_
            refine va_get (D := (dC, dI)) (ci := 4) (v := .int (nI (m_nV u))) (C := "SeatProofsModel") (T := F_M) (N := 20) hx hb hts (iu_M _) hown hK hP 0 rfl rfl 8 (by decide) (hts _ (List.mem_cons_of_mem _ iw_448)) (fun _ h9 => h9) rfl d_M_valve_39 ?_
            refine lv_bipush (v := nI 64) hx hb d_M_valve_42 (by decide) ?_
            refine nv_ne (tgt := 50) hx hb d_M_valve_44 (by decide) (by omega) (by omega) (fun c_8 => ?_) (fun c_8 => ?_)
            · refine lv_aload_n hx hb d_M_valve_50 rfl (lv_at hl 0 rfl) ?_
              refine va_get (D := (dC, dI)) (ci := 4) (v := .ref (ma_fa q)) (C := "SeatProofsModel") (T := F_M) (N := 20) hx hb hts (iu_M _) hown hK hP 0 rfl rfl 3 (by decide) (hts _ (List.mem_cons_of_mem _ iw_443)) (fun _ h9 => h9) rfl d_M_valve_51 ?_
              refine lv_aload_n hx hb d_M_valve_54 rfl (lv_at hl 0 rfl) ?_
              refine va_get (D := (dC, dI)) (ci := 4) (v := .int (nI (m_nV u))) (C := "SeatProofsModel") (T := F_M) (N := 20) hx hb hts (iu_M _) hown hK hP 0 rfl rfl 8 (by decide) (hts _ (List.mem_cons_of_mem _ iw_448)) (fun _ h9 => h9) rfl d_M_valve_55 ?_
              refine lv_iload_n hx hb d_M_valve_58 rfl (lv_at hl 1 rfl) ?_
              refine st_i hx hb hK hP hD hS 3 0 rfl rfl (fun j9 => nI (va_up (m_fa u) (m_nV u) i j9)) (by omega) (by decide) (upd_nI _ _ _) d_M_valve_59 (fun H locs hP hD hS => ?_)
              have hP : va_P (dC, dI) vwCl (wM q (m_mk (m_liq u) (m_lev u) (m_nS u) (va_up (m_fa u) (m_nV u) i) (m_fb u) (m_seat u) (m_op u) (m_un u) (m_nV u) (m_may u) (m_nR u) (m_rf u) (m_rl u) (m_rw u) (m_rc u) (m_cul u) (m_gu u) (m_te u) 0 (m_wet u))) H := hP
              have hD : va_D (va_A (wM q u) s.heap.size) (wM q (m_mk (m_liq u) (m_lev u) (m_nS u) (va_up (m_fa u) (m_nV u) i) (m_fb u) (m_seat u) (m_op u) (m_un u) (m_nV u) (m_may u) (m_nR u) (m_rf u) (m_rl u) (m_rw u) (m_rc u) (m_cul u) (m_gu u) (m_te u) 0 (m_wet u))) := hD
              refine lv_aload_n hx hb d_M_valve_60 rfl (lv_at hl 0 rfl) ?_
              refine va_get (D := (dC, dI)) (ci := 4) (v := .ref (ma_fb q)) (C := "SeatProofsModel") (T := F_M) (N := 20) hx hb hts (iu_M _) hown hK hP 0 rfl rfl 4 (by decide) (hts _ (List.mem_cons_of_mem _ iw_444)) (fun _ h9 => h9) rfl d_M_valve_61 ?_
              refine lv_aload_n hx hb d_M_valve_64 rfl (lv_at hl 0 rfl) ?_
              refine va_get (D := (dC, dI)) (ci := 4) (v := .int (nI (m_nV u))) (C := "SeatProofsModel") (T := F_M) (N := 20) hx hb hts (iu_M _) hown hK hP 0 rfl rfl 8 (by decide) (hts _ (List.mem_cons_of_mem _ iw_448)) (fun _ h9 => h9) rfl d_M_valve_65 ?_
              refine lv_iload_n hx hb d_M_valve_68 rfl (lv_at hl 2 rfl) ?_
              refine st_i hx hb hK hP hD hS 4 0 rfl rfl (fun j9 => nI (va_up (m_fb u) (m_nV u) j j9)) (by omega) (by decide) (upd_nI _ _ _) d_M_valve_69 (fun H locs hP hD hS => ?_)
              have hP : va_P (dC, dI) vwCl (wM q (m_mk (m_liq u) (m_lev u) (m_nS u) (va_up (m_fa u) (m_nV u) i) (va_up (m_fb u) (m_nV u) j) (m_seat u) (m_op u) (m_un u) (m_nV u) (m_may u) (m_nR u) (m_rf u) (m_rl u) (m_rw u) (m_rc u) (m_cul u) (m_gu u) (m_te u) 0 (m_wet u))) H := hP
              have hD : va_D (va_A (wM q u) s.heap.size) (wM q (m_mk (m_liq u) (m_lev u) (m_nS u) (va_up (m_fa u) (m_nV u) i) (va_up (m_fb u) (m_nV u) j) (m_seat u) (m_op u) (m_un u) (m_nV u) (m_may u) (m_nR u) (m_rf u) (m_rl u) (m_rw u) (m_rc u) (m_cul u) (m_gu u) (m_te u) 0 (m_wet u))) := hD
              refine lv_aload_n hx hb d_M_valve_70 rfl (lv_at hl 0 rfl) ?_
              refine va_get (D := (dC, dI)) (ci := 4) (v := .ref (ma_seat q)) (C := "SeatProofsModel") (T := F_M) (N := 20) hx hb hts (iu_M _) hown hK hP 0 rfl rfl 5 (by decide) (hts _ (List.mem_cons_of_mem _ iw_445)) (fun _ h9 => h9) rfl d_M_valve_71 ?_
              refine lv_aload_n hx hb d_M_valve_74 rfl (lv_at hl 0 rfl) ?_
              refine va_get (D := (dC, dI)) (ci := 4) (v := .int (nI (m_nV u))) (C := "SeatProofsModel") (T := F_M) (N := 20) hx hb hts (iu_M _) hown hK hP 0 rfl rfl 8 (by decide) (hts _ (List.mem_cons_of_mem _ iw_448)) (fun _ h9 => h9) rfl d_M_valve_75 ?_
              refine lv_iload_n hx hb d_M_valve_78 rfl (lv_at hl 3 rfl) ?_
              refine st_i hx hb hK hP hD hS 5 0 rfl rfl (fun j9 => nI (va_up (m_seat u) (m_nV u) t j9)) (by omega) (by decide) (upd_nI _ _ _) d_M_valve_79 (fun H locs hP hD hS => ?_)
              have hP : va_P (dC, dI) vwCl (wM q (m_mk (m_liq u) (m_lev u) (m_nS u) (va_up (m_fa u) (m_nV u) i) (va_up (m_fb u) (m_nV u) j) (va_up (m_seat u) (m_nV u) t) (m_op u) (m_un u) (m_nV u) (m_may u) (m_nR u) (m_rf u) (m_rl u) (m_rw u) (m_rc u) (m_cul u) (m_gu u) (m_te u) 0 (m_wet u))) H := hP
              have hD : va_D (va_A (wM q u) s.heap.size) (wM q (m_mk (m_liq u) (m_lev u) (m_nS u) (va_up (m_fa u) (m_nV u) i) (va_up (m_fb u) (m_nV u) j) (va_up (m_seat u) (m_nV u) t) (m_op u) (m_un u) (m_nV u) (m_may u) (m_nR u) (m_rf u) (m_rl u) (m_rw u) (m_rc u) (m_cul u) (m_gu u) (m_te u) 0 (m_wet u))) := hD
              refine lv_aload_n hx hb d_M_valve_80 rfl (lv_at hl 0 rfl) ?_
              refine va_get (D := (dC, dI)) (ci := 4) (v := .ref (ma_op q)) (C := "SeatProofsModel") (T := F_M) (N := 20) hx hb hts (iu_M _) hown hK hP 0 rfl rfl 6 (by decide) (hts _ (List.mem_cons_of_mem _ iw_446)) (fun _ h9 => h9) rfl d_M_valve_81 ?_
              refine lv_aload_n hx hb d_M_valve_84 rfl (lv_at hl 0 rfl) ?_
              refine va_get (D := (dC, dI)) (ci := 4) (v := .int (nI (m_nV u))) (C := "SeatProofsModel") (T := F_M) (N := 20) hx hb hts (iu_M _) hown hK hP 0 rfl rfl 8 (by decide) (hts _ (List.mem_cons_of_mem _ iw_448)) (fun _ h9 => h9) rfl d_M_valve_85 ?_
              refine lv_iload hx hb d_M_valve_88 (lv_at hl 4 rfl) ?_
              refine st_z hx hb hK hP hD hS 6 2 rfl rfl (fun j9 => bI (va_up (m_op u) (m_nV u) o j9)) (by omega) (by decide) (upd_bI _ _ _) d_M_valve_90 (fun H locs hP hD hS => ?_)
              have hP : va_P (dC, dI) vwCl (wM q (m_mk (m_liq u) (m_lev u) (m_nS u) (va_up (m_fa u) (m_nV u) i) (va_up (m_fb u) (m_nV u) j) (va_up (m_seat u) (m_nV u) t) (va_up (m_op u) (m_nV u) o) (m_un u) (m_nV u) (m_may u) (m_nR u) (m_rf u) (m_rl u) (m_rw u) (m_rc u) (m_cul u) (m_gu u) (m_te u) 0 (m_wet u))) H := hP
              have hD : va_D (va_A (wM q u) s.heap.size) (wM q (m_mk (m_liq u) (m_lev u) (m_nS u) (va_up (m_fa u) (m_nV u) i) (va_up (m_fb u) (m_nV u) j) (va_up (m_seat u) (m_nV u) t) (va_up (m_op u) (m_nV u) o) (m_un u) (m_nV u) (m_may u) (m_nR u) (m_rf u) (m_rl u) (m_rw u) (m_rc u) (m_cul u) (m_gu u) (m_te u) 0 (m_wet u))) := hD
              refine lv_aload_n hx hb d_M_valve_91 rfl (lv_at hl 0 rfl) ?_
              refine va_get (D := (dC, dI)) (ci := 4) (v := .ref (ma_un q)) (C := "SeatProofsModel") (T := F_M) (N := 20) hx hb hts (iu_M _) hown hK hP 0 rfl rfl 7 (by decide) (hts _ (List.mem_cons_of_mem _ iw_447)) (fun _ h9 => h9) rfl d_M_valve_92 ?_
              refine lv_aload_n hx hb d_M_valve_95 rfl (lv_at hl 0 rfl) ?_
              refine va_get (D := (dC, dI)) (ci := 4) (v := .int (nI (m_nV u))) (C := "SeatProofsModel") (T := F_M) (N := 20) hx hb hts (iu_M _) hown hK hP 0 rfl rfl 8 (by decide) (hts _ (List.mem_cons_of_mem _ iw_448)) (fun _ h9 => h9) rfl d_M_valve_96 ?_
              refine lv_iconst (v := nI 0) hx hb d_M_valve_99 (by decide) ?_
              refine tp_i (bI false) (by decide) ?_
              refine st_z hx hb hK hP hD hS 7 2 rfl rfl (fun j9 => bI (va_up (m_un u) (m_nV u) false j9)) (by omega) (by decide) (upd_bI _ _ _) d_M_valve_100 (fun H locs hP hD hS => ?_)
              have hP : va_P (dC, dI) vwCl (wM q (m_mk (m_liq u) (m_lev u) (m_nS u) (va_up (m_fa u) (m_nV u) i) (va_up (m_fb u) (m_nV u) j) (va_up (m_seat u) (m_nV u) t) (va_up (m_op u) (m_nV u) o) (va_up (m_un u) (m_nV u) false) (m_nV u) (m_may u) (m_nR u) (m_rf u) (m_rl u) (m_rw u) (m_rc u) (m_cul u) (m_gu u) (m_te u) 0 (m_wet u))) H := hP
              have hD : va_D (va_A (wM q u) s.heap.size) (wM q (m_mk (m_liq u) (m_lev u) (m_nS u) (va_up (m_fa u) (m_nV u) i) (va_up (m_fb u) (m_nV u) j) (va_up (m_seat u) (m_nV u) t) (va_up (m_op u) (m_nV u) o) (va_up (m_un u) (m_nV u) false) (m_nV u) (m_may u) (m_nR u) (m_rf u) (m_rl u) (m_rw u) (m_rc u) (m_cul u) (m_gu u) (m_te u) 0 (m_wet u))) := hD
              refine lv_aload_n hx hb d_M_valve_101 rfl (lv_at hl 0 rfl) ?_
              refine lv_dup hx hb d_M_valve_102 rfl ?_
              refine va_get (D := (dC, dI)) (ci := 4) (v := .int (nI (m_nV u))) (C := "SeatProofsModel") (T := F_M) (N := 20) hx hb hts (iu_M _) hown hK hP 0 rfl rfl 8 (by decide) (hts _ (List.mem_cons_of_mem _ iw_448)) (fun _ h9 => h9) rfl d_M_valve_103 ?_
              refine lv_iconst (v := nI 1) hx hb d_M_valve_106 (by decide) ?_
              refine lv_iadd hx hb d_M_valve_107 ?_
              refine tp_i (nI (m_nV u + 1)) (nI_add _ _) ?_
              refine va_put (D := (dC, dI)) (ci := 4) (v := .int (nI (m_nV u + 1))) (ty := .int) (C := "SeatProofsModel") (T := F_M) (N := 20) hx hb hts (iu_M _) t_M t_M_ok n_M hown hK hP hD hS 0 rfl rfl 8 (by decide) (hts _ (List.mem_cons_of_mem _ iw_448)) (fun _ h9 => h9) rfl (by decide +kernel) rfl rfl (Nat.le_of_ble_eq_true rfl) d_M_valve_108 (fun H locs hP hD hS => ?_)
              have hP : va_P (dC, dI) vwCl (wM q (m_mk (m_liq u) (m_lev u) (m_nS u) (va_up (m_fa u) (m_nV u) i) (va_up (m_fb u) (m_nV u) j) (va_up (m_seat u) (m_nV u) t) (va_up (m_op u) (m_nV u) o) (va_up (m_un u) (m_nV u) false) (m_nV u + 1) (m_may u) (m_nR u) (m_rf u) (m_rl u) (m_rw u) (m_rc u) (m_cul u) (m_gu u) (m_te u) 0 (m_wet u))) H := hP
              have hD : va_D (va_A (wM q u) s.heap.size) (wM q (m_mk (m_liq u) (m_lev u) (m_nS u) (va_up (m_fa u) (m_nV u) i) (va_up (m_fb u) (m_nV u) j) (va_up (m_seat u) (m_nV u) t) (va_up (m_op u) (m_nV u) o) (va_up (m_un u) (m_nV u) false) (m_nV u + 1) (m_may u) (m_nR u) (m_rf u) (m_rl u) (m_rw u) (m_rc u) (m_cul u) (m_gu u) (m_te u) 0 (m_wet u))) := hD
              refine lv_aload_n hx hb d_M_valve_111 rfl (lv_at hl 0 rfl) ?_
              refine lv_iconst (v := nI 0) hx hb d_M_valve_112 (by decide) ?_
              refine va_put (D := (dC, dI)) (ci := 4) (v := .int (nI 0)) (ty := .int) (C := "SeatProofsModel") (T := F_M) (N := 20) hx hb hts (iu_M _) t_M t_M_ok n_M hown hK hP hD hS 0 rfl rfl 10 (by decide) (hts _ (List.mem_cons_of_mem _ iw_450)) (fun _ h9 => h9) rfl (by decide +kernel) rfl rfl (Nat.le_of_ble_eq_true rfl) d_M_valve_113 (fun H locs hP hD hS => ?_)
              have hP : va_P (dC, dI) vwCl (wM q (m_mk (m_liq u) (m_lev u) (m_nS u) (va_up (m_fa u) (m_nV u) i) (va_up (m_fb u) (m_nV u) j) (va_up (m_seat u) (m_nV u) t) (va_up (m_op u) (m_nV u) o) (va_up (m_un u) (m_nV u) false) (m_nV u + 1) (m_may u) 0 (m_rf u) (m_rl u) (m_rw u) (m_rc u) (m_cul u) (m_gu u) (m_te u) 0 (m_wet u))) H := hP
              have hD : va_D (va_A (wM q u) s.heap.size) (wM q (m_mk (m_liq u) (m_lev u) (m_nS u) (va_up (m_fa u) (m_nV u) i) (va_up (m_fb u) (m_nV u) j) (va_up (m_seat u) (m_nV u) t) (va_up (m_op u) (m_nV u) o) (va_up (m_un u) (m_nV u) false) (m_nV u + 1) (m_may u) 0 (m_rf u) (m_rl u) (m_rw u) (m_rc u) (m_cul u) (m_gu u) (m_te u) 0 (m_wet u))) := hD
              refine lv_aload_n hx hb d_M_valve_116 rfl (lv_at hl 0 rfl) ?_
              refine va_get (D := (dC, dI)) (ci := 4) (v := .int (nI (m_nV u + 1))) (C := "SeatProofsModel") (T := F_M) (N := 20) hx hb hts (iu_M _) hown hK hP 0 rfl rfl 8 (by decide) (hts _ (List.mem_cons_of_mem _ iw_448)) (fun _ h9 => h9) rfl d_M_valve_117 ?_
              refine lv_iconst (v := nI 1) hx hb d_M_valve_120 (by decide) ?_
              refine lv_isub hx hb d_M_valve_121 ?_
              refine tp_i (nI ((m_nV u + 1) - 1)) (pk_sub (by omega)) ?_
              exact W.iret hx hb hr (fun t9 ht9 hW9 => ⟨⟨_, (m_mk (m_liq u) (m_lev u) (m_nS u) (va_up (m_fa u) (m_nV u) i) (va_up (m_fb u) (m_nV u) j) (va_up (m_seat u) (m_nV u) t) (va_up (m_op u) (m_nV u) o) (va_up (m_un u) (m_nV u) false) (m_nV u + 1) (m_may u) 0 (m_rf u) (m_rl u) (m_rw u) (m_rc u) (m_cul u) (m_gu u) (m_te u) 0 (m_wet u)), rfl, (by rw [M_valve, if_neg (fun h => by rcases h with h | h | h | h | h <;> first | exact absurd (h.symm.trans c_2) (by decide) | exact absurd (h.symm.trans c_4) (by decide) | exact c_5 ((nI_eq (by omega) (by omega)).mp h) | exact c_6 h | exact h c_7), if_neg c_8, nI_clamp (by omega), nI_clamp (by omega), nI_clamp (by omega)]; first | done | rfl), by rw [ht9]; exact hP, va_K.moved hW9.alike hK, hD⟩, hS.F ht9⟩) hS.2.2 d_M_valve_122
            · refine lv_bipush (v := (-2)) hx hb d_M_valve_47 (by decide) ?_
              exact W.iret hx hb hr (fun t9 ht9 hW9 => ⟨⟨_, (m_mk (m_liq u) (m_lev u) (m_nS u) (m_fa u) (m_fb u) (m_seat u) (m_op u) (m_un u) (m_nV u) (m_may u) (m_nR u) (m_rf u) (m_rl u) (m_rw u) (m_rc u) (m_cul u) (m_gu u) (m_te u) 0 (m_wet u)), rfl, (by rw [M_valve, if_neg (fun h => by rcases h with h | h | h | h | h <;> first | exact absurd (h.symm.trans c_2) (by decide) | exact absurd (h.symm.trans c_4) (by decide) | exact c_5 ((nI_eq (by omega) (by omega)).mp h) | exact c_6 h | exact h c_7), if_pos c_8]), by rw [ht9]; exact hP, va_K.moved hW9.alike hK, hD⟩, hS.F ht9⟩) hS.2.2 d_M_valve_49
          · refine lv_iconst (v := (-1)) hx hb d_M_valve_36 (by decide) ?_
            exact W.iret hx hb hr (fun t9 ht9 hW9 => ⟨⟨_, (m_mk (m_liq u) (m_lev u) (m_nS u) (m_fa u) (m_fb u) (m_seat u) (m_op u) (m_un u) (m_nV u) (m_may u) (m_nR u) (m_rf u) (m_rl u) (m_rw u) (m_rc u) (m_cul u) (m_gu u) (m_te u) 0 (m_wet u)), rfl, (by rw [M_valve, if_pos (Or.inr (Or.inr (Or.inr (Or.inr c_7))))]), by rw [ht9]; exact hP, va_K.moved hW9.alike hK, hD⟩, hS.F ht9⟩) hS.2.2 d_M_valve_37
set_option maxHeartbeats 4000000 in
set_option maxRecDepth 100000 in
theorem c_M_level (l : Launch) (dC : Nat → ClassId) (dI : Nat → Nat → Nat) (q : MA) (u : MSt) (sz : Nat) (x : Int32) (h : Int64) (hu : MOk u) : Met l y_M_level w_M_level ({ frames := 1, cells := 0, slots := 0, locals := 21 }) (qPc (dC, dI) vwCl (tM q) (wM q u) sz [Value.ref (ma_o q), Value.int x, Value.long h]) (va_Qi (fun (r : Int32) (z : MSt) => r = bI (M_level u x h).1 ∧ z = (M_level u x h).2) (qB (dC, dI) vwCl (tM q) (wM q u) sz (wM q)) (va_A (wM q u) sz)) 0 0 (va_A (wM q u) sz) := by
  refine Met.ofW (cc := b_M_level) (maxL := 4) (ret := (some .boolean)) (by decide) rfl ?_
  intro p e s m args below meth c s₁ B hml hv
  obtain ⟨rfl, hsz, hP, hK, hD0, hN⟩ := hv
  have hx := B.exec
  have hb := B.bytes
  have hr := B.returns
  have hts := atoms_spec (ws := w_M_level) B.pre
  have hown : s.vm.findClass "SeatProofsModel" = some m.cls := findClass_of_methodNamed B.named
  have hlocks := B.notSynchronized
  subst hsz
  have hD := hD0.self (sz := s.heap.size)
  have hA : ∀ z : Nat, s.heap.size ≤ z → va_A (wM q u) s.heap.size z := fun z h => Or.inr h
  have hS : va_S (va_A (wM q u) s.heap.size) s.heap s.heap [] := va_S.rf
  have hl := lv_entry ([Value.ref (ma_o q), Value.int x, Value.long h]) (n := 4) (Nat.le_of_ble_eq_true rfl)
  rw [lg_entry_eq]
  generalize (lg_sl ([Value.ref (ma_o q), Value.int x, Value.long h]) ++ List.replicate (4 - (lg_sl ([Value.ref (ma_o q), Value.int x, Value.long h])).length) Slot.unset).toArray = ls at hl ⊢
  have hl : lv_has ls 4 [(0, .ref (ma_o q)), (1, .int x), (2, .long h)] := hl
  obtain ⟨k1, k2, k3, k4, k5, k6, k7, k8, k9, k10, k11⟩ := id hu
  refine lv_aload_n hx hb d_M_level_0 rfl (lv_at hl 0 rfl) ?_
  refine lv_iconst (v := nI 0) hx hb d_M_level_1 (by decide) ?_
  refine va_put (D := (dC, dI)) (ci := 4) (v := .int (nI 0)) (ty := .int) (C := "SeatProofsModel") (T := F_M) (N := 20) hx hb hts (iu_M _) t_M t_M_ok n_M hown hK hP hD hS 0 rfl rfl 18 (by decide) (hts _ (List.mem_cons_of_mem _ iw_458)) (fun _ h9 => h9) rfl (by decide +kernel) rfl rfl (Nat.le_of_ble_eq_true rfl) d_M_level_2 (fun H locs hP hD hS => ?_)
  have hP : va_P (dC, dI) vwCl (wM q (m_mk (m_liq u) (m_lev u) (m_nS u) (m_fa u) (m_fb u) (m_seat u) (m_op u) (m_un u) (m_nV u) (m_may u) (m_nR u) (m_rf u) (m_rl u) (m_rw u) (m_rc u) (m_cul u) (m_gu u) (m_te u) 0 (m_wet u))) H := hP
  have hD : va_D (va_A (wM q u) s.heap.size) (wM q (m_mk (m_liq u) (m_lev u) (m_nS u) (m_fa u) (m_fb u) (m_seat u) (m_op u) (m_un u) (m_nV u) (m_may u) (m_nR u) (m_rf u) (m_rl u) (m_rw u) (m_rc u) (m_cul u) (m_gu u) (m_te u) 0 (m_wet u))) := hD
  refine lv_aload_n hx hb d_M_level_5 rfl (lv_at hl 0 rfl) ?_
  refine lv_iload_n hx hb d_M_level_6 rfl (lv_at hl 1 rfl) ?_
  refine vp_callSi (va_Run.run (va_runV (As := [.int x]) (rest := []) ⟨hx, hb, hml, hown, hts⟩ (c_M_isSpace l dC dI q (m_mk (m_liq u) (m_lev u) (m_nS u) (m_fa u) (m_fb u) (m_seat u) (m_op u) (m_un u) (m_nV u) (m_may u) (m_nR u) (m_rf u) (m_rl u) (m_rw u) (m_rc u) (m_cul u) (m_gu u) (m_te u) 0 (m_wet u)) x) (cwV 1 hts (good_up (good_V iw_514 iw_516 ip_9 iw_5 gg_M_isSpace)) rfl rfl rfl (by decide +kernel) ⟨Nat.le_of_ble_eq_true rfl, Nat.le_of_ble_eq_true rfl⟩) (pv_S [.int x] hN hK hP (ci := 4) (q0 := 0) rfl rfl) rfl rfl hl.1 rfl (lv_room (Nat.le_of_ble_eq_true rfl)) d_M_level_7 ⟨Nat.le_of_ble_eq_true rfl, Nat.le_of_ble_eq_true rfl⟩)) (fun r_1 hr_1 => ?_)
  subst hr_1
  refine b0_ne (tgt := 15) hx hb d_M_level_10 (by decide) (fun c_2 => ?_) (fun c_2 => ?_)
  · obtain ⟨i, hi, rfl⟩ := ixB_of (by show m_nS u < 2 ^ 31; omega) c_2
    have hi : i < m_nS u := hi
    refine lv_aload_n hx hb d_M_level_15 rfl (lv_at hl 0 rfl) ?_
    refine va_get (D := (dC, dI)) (ci := 4) (v := .ref (ma_lev q)) (C := "SeatProofsModel") (T := F_M) (N := 20) hx hb hts (iu_M _) hown hK hP 0 rfl rfl 1 (by decide) (hts _ (List.mem_cons_of_mem _ iw_441)) (fun _ h9 => h9) rfl d_M_level_16 ?_
    refine lv_iload_n hx hb d_M_level_19 rfl (lv_at hl 1 rfl) ?_
    refine lv_lload_n hx hb d_M_level_20 rfl (lv_at hl 2 rfl) ?_
    refine st_l hx hb hK hP hD hS 2 1 rfl rfl (va_up (m_lev u) i h) (by omega) (by decide) (updL_up _ _ _) d_M_level_21 (fun H locs hP hD hS => ?_)
    have hP : va_P (dC, dI) vwCl (wM q (m_mk (m_liq u) (va_up (m_lev u) i h) (m_nS u) (m_fa u) (m_fb u) (m_seat u) (m_op u) (m_un u) (m_nV u) (m_may u) (m_nR u) (m_rf u) (m_rl u) (m_rw u) (m_rc u) (m_cul u) (m_gu u) (m_te u) 0 (m_wet u))) H := hP
    have hD : va_D (va_A (wM q u) s.heap.size) (wM q (m_mk (m_liq u) (va_up (m_lev u) i h) (m_nS u) (m_fa u) (m_fb u) (m_seat u) (m_op u) (m_un u) (m_nV u) (m_may u) (m_nR u) (m_rf u) (m_rl u) (m_rw u) (m_rc u) (m_cul u) (m_gu u) (m_te u) 0 (m_wet u))) := hD
    refine lv_aload_n hx hb d_M_level_22 rfl (lv_at hl 0 rfl) ?_
    refine lv_iconst (v := nI 0) hx hb d_M_level_23 (by decide) ?_
    refine va_put (D := (dC, dI)) (ci := 4) (v := .int (nI 0)) (ty := .int) (C := "SeatProofsModel") (T := F_M) (N := 20) hx hb hts (iu_M _) t_M t_M_ok n_M hown hK hP hD hS 0 rfl rfl 10 (by decide) (hts _ (List.mem_cons_of_mem _ iw_450)) (fun _ h9 => h9) rfl (by decide +kernel) rfl rfl (Nat.le_of_ble_eq_true rfl) d_M_level_24 (fun H locs hP hD hS => ?_)
    have hP : va_P (dC, dI) vwCl (wM q (m_mk (m_liq u) (va_up (m_lev u) i h) (m_nS u) (m_fa u) (m_fb u) (m_seat u) (m_op u) (m_un u) (m_nV u) (m_may u) 0 (m_rf u) (m_rl u) (m_rw u) (m_rc u) (m_cul u) (m_gu u) (m_te u) 0 (m_wet u))) H := hP
    have hD : va_D (va_A (wM q u) s.heap.size) (wM q (m_mk (m_liq u) (va_up (m_lev u) i h) (m_nS u) (m_fa u) (m_fb u) (m_seat u) (m_op u) (m_un u) (m_nV u) (m_may u) 0 (m_rf u) (m_rl u) (m_rw u) (m_rc u) (m_cul u) (m_gu u) (m_te u) 0 (m_wet u))) := hD
    refine lv_iconst (v := nI 1) hx hb d_M_level_27 (by decide) ?_
    refine tp_i (bI true) (by decide) ?_
    exact W.zret hx hb hr (bI_narrow _) (fun t9 ht9 hW9 => ⟨⟨_, (m_mk (m_liq u) (va_up (m_lev u) i h) (m_nS u) (m_fa u) (m_fb u) (m_seat u) (m_op u) (m_un u) (m_nV u) (m_may u) 0 (m_rf u) (m_rl u) (m_rw u) (m_rc u) (m_cul u) (m_gu u) (m_te u) 0 (m_wet u)), rfl, ⟨by rw [M_level, if_neg (fun h => absurd (h.symm.trans c_2) (by decide))], by rw [M_level, if_neg (fun h => absurd (h.symm.trans c_2) (by decide)), nI_clamp (by omega)]; first | done | rfl⟩, by rw [ht9]; exact hP, va_K.moved hW9.alike hK, hD⟩, hS.F ht9⟩) hS.2.2 d_M_level_28
  · refine lv_iconst (v := nI 0) hx hb d_M_level_13 (by decide) ?_
    refine tp_i (bI false) (by decide) ?_
    exact W.zret hx hb hr (bI_narrow _) (fun t9 ht9 hW9 => ⟨⟨_, (m_mk (m_liq u) (m_lev u) (m_nS u) (m_fa u) (m_fb u) (m_seat u) (m_op u) (m_un u) (m_nV u) (m_may u) (m_nR u) (m_rf u) (m_rl u) (m_rw u) (m_rc u) (m_cul u) (m_gu u) (m_te u) 0 (m_wet u)), rfl, ⟨by rw [M_level, if_pos c_2], by rw [M_level, if_pos c_2]⟩, by rw [ht9]; exact hP, va_K.moved hW9.alike hK, hD⟩, hS.F ht9⟩) hS.2.2 d_M_level_14
set_option maxHeartbeats 4000000 in
set_option maxRecDepth 100000 in
theorem c_M_may (l : Launch) (dC : Nat → ClassId) (dI : Nat → Nat → Nat) (q : MA) (u : MSt) (sz : Nat) (x y : Int32) : Met l y_M_may w_M_may ({ frames := 0, cells := 0, slots := 0, locals := 0 }) (qPc (dC, dI) vwCl (tM q) (wM q u) sz [Value.ref (ma_o q), Value.int x, Value.int y]) (va_Qi (fun (r : Int32) (z : MSt) => r = bI (M_may u x y).1 ∧ z = (M_may u x y).2) (qB (dC, dI) vwCl (tM q) (wM q u) sz (wM q)) (va_A (wM q u) sz)) 0 0 (va_A (wM q u) sz) := by
  refine Met.ofW (cc := b_M_may) (maxL := 4) (ret := (some .boolean)) (by decide) rfl ?_
  intro p e s m args below meth c s₁ B hml hv
  obtain ⟨rfl, hsz, hP, hK, hD0, hN⟩ := hv
  have hx := B.exec
  have hb := B.bytes
  have hr := B.returns
  have hts := atoms_spec (ws := w_M_may) B.pre
  have hown : s.vm.findClass "SeatProofsModel" = some m.cls := findClass_of_methodNamed B.named
  have hlocks := B.notSynchronized
  subst hsz
  have hD := hD0.self (sz := s.heap.size)
  have hA : ∀ z : Nat, s.heap.size ≤ z → va_A (wM q u) s.heap.size z := fun z h => Or.inr h
  have hS : va_S (va_A (wM q u) s.heap.size) s.heap s.heap [] := va_S.rf
  have hl := lv_entry ([Value.ref (ma_o q), Value.int x, Value.int y]) (n := 4) (Nat.le_of_ble_eq_true rfl)
  rw [lg_entry_eq]
  generalize (lg_sl ([Value.ref (ma_o q), Value.int x, Value.int y]) ++ List.replicate (4 - (lg_sl ([Value.ref (ma_o q), Value.int x, Value.int y])).length) Slot.unset).toArray = ls at hl ⊢
  have hl : lv_has ls 4 [(0, .ref (ma_o q)), (1, .int x), (2, .int y)] := hl
  refine lv_aload_n hx hb d_M_may_0 rfl (lv_at hl 0 rfl) ?_
  refine lv_iconst (v := nI 0) hx hb d_M_may_1 (by decide) ?_
  refine va_put (D := (dC, dI)) (ci := 4) (v := .int (nI 0)) (ty := .int) (C := "SeatProofsModel") (T := F_M) (N := 20) hx hb hts (iu_M _) t_M t_M_ok n_M hown hK hP hD hS 0 rfl rfl 18 (by decide) (hts _ (List.mem_cons_of_mem _ iw_458)) (fun _ h9 => h9) rfl (by decide +kernel) rfl rfl (Nat.le_of_ble_eq_true rfl) d_M_may_2 (fun H locs hP hD hS => ?_)
  have hP : va_P (dC, dI) vwCl (wM q (m_mk (m_liq u) (m_lev u) (m_nS u) (m_fa u) (m_fb u) (m_seat u) (m_op u) (m_un u) (m_nV u) (m_may u) (m_nR u) (m_rf u) (m_rl u) (m_rw u) (m_rc u) (m_cul u) (m_gu u) (m_te u) 0 (m_wet u))) H := hP
  have hD : va_D (va_A (wM q u) s.heap.size) (wM q (m_mk (m_liq u) (m_lev u) (m_nS u) (m_fa u) (m_fb u) (m_seat u) (m_op u) (m_un u) (m_nV u) (m_may u) (m_nR u) (m_rf u) (m_rl u) (m_rw u) (m_rc u) (m_cul u) (m_gu u) (m_te u) 0 (m_wet u))) := hD
  refine lv_iload_n hx hb d_M_may_5 rfl (lv_at hl 1 rfl) ?_
  refine lv_if_le (tgt := 34) hx hb d_M_may_6 (by decide) (fun c_1 => ?_) (fun c_1 => ?_)
  · refine lv_iconst (v := nI 0) hx hb d_M_may_34 (by decide) ?_
    refine lv_istore_n (lv' := [(3, .int (nI 0)), (0, .ref (ma_o q)), (1, .int x), (2, .int y)]) hx hb d_M_may_35 rfl hl (by decide) rfl (fun ls hl => ?_)
    refine lv_iload_n hx hb d_M_may_36 rfl (lv_at hl 0 rfl) ?_
    refine n0_eq (tgt := 54) hx hb d_M_may_37 (by decide) (by omega) (fun c_2 => ?_) (fun c_2 => ?_)
    · refine lv_iconst (v := nI 0) hx hb d_M_may_54 (by decide) ?_
      refine tp_i (bI false) (by decide) ?_
      exact W.zret hx hb hr (bI_narrow _) (fun t9 ht9 hW9 => ⟨⟨_, (m_mk (m_liq u) (m_lev u) (m_nS u) (m_fa u) (m_fb u) (m_seat u) (m_op u) (m_un u) (m_nV u) (m_may u) (m_nR u) (m_rf u) (m_rl u) (m_rw u) (m_rc u) (m_cul u) (m_gu u) (m_te u) 0 (m_wet u)), rfl, ⟨by rw [M_may, if_pos (Or.inl (Or.inl c_1))], by rw [M_may, if_pos (Or.inl (Or.inl c_1))]⟩, by rw [ht9]; exact hP, va_K.moved hW9.alike hK, hD⟩, hS.F ht9⟩) hS.2.2 d_M_may_55
    · exact absurd c_2 (by decide)
  · refine lv_iload_n hx hb d_M_may_9 rfl (lv_at hl 1 rfl) ?_
    refine lv_bipush (v := nI 16) hx hb d_M_may_10 (by decide) ?_
    refine lv_icmp_ge (tgt := 34) hx hb d_M_may_12 (by decide) (fun c_3 => ?_) (fun c_3 => ?_)
    · refine lv_iconst (v := nI 0) hx hb d_M_may_34 (by decide) ?_
      refine lv_istore_n (lv' := [(3, .int (nI 0)), (0, .ref (ma_o q)), (1, .int x), (2, .int y)]) hx hb d_M_may_35 rfl hl (by decide) rfl (fun ls hl => ?_)
      refine lv_iload_n hx hb d_M_may_36 rfl (lv_at hl 0 rfl) ?_
      refine n0_eq (tgt := 54) hx hb d_M_may_37 (by decide) (by omega) (fun c_4 => ?_) (fun c_4 => ?_)
      · refine lv_iconst (v := nI 0) hx hb d_M_may_54 (by decide) ?_
        refine tp_i (bI false) (by decide) ?_
        exact W.zret hx hb hr (bI_narrow _) (fun t9 ht9 hW9 => ⟨⟨_, (m_mk (m_liq u) (m_lev u) (m_nS u) (m_fa u) (m_fb u) (m_seat u) (m_op u) (m_un u) (m_nV u) (m_may u) (m_nR u) (m_rf u) (m_rl u) (m_rw u) (m_rc u) (m_cul u) (m_gu u) (m_te u) 0 (m_wet u)), rfl, ⟨by rw [M_may, if_pos (Or.inl (Or.inr (Or.inl c_3)))], by rw [M_may, if_pos (Or.inl (Or.inr (Or.inl c_3)))]⟩, by rw [ht9]; exact hP, va_K.moved hW9.alike hK, hD⟩, hS.F ht9⟩) hS.2.2 d_M_may_55
      · exact absurd c_4 (by decide)
    · refine lv_iload_n hx hb d_M_may_15 rfl (lv_at hl 2 rfl) ?_
      refine lv_if_le (tgt := 34) hx hb d_M_may_16 (by decide) (fun c_5 => ?_) (fun c_5 => ?_)
      · refine lv_iconst (v := nI 0) hx hb d_M_may_34 (by decide) ?_
        refine lv_istore_n (lv' := [(3, .int (nI 0)), (0, .ref (ma_o q)), (1, .int x), (2, .int y)]) hx hb d_M_may_35 rfl hl (by decide) rfl (fun ls hl => ?_)
        refine lv_iload_n hx hb d_M_may_36 rfl (lv_at hl 0 rfl) ?_
        refine n0_eq (tgt := 54) hx hb d_M_may_37 (by decide) (by omega) (fun c_6 => ?_) (fun c_6 => ?_)
        · refine lv_iconst (v := nI 0) hx hb d_M_may_54 (by decide) ?_
          refine tp_i (bI false) (by decide) ?_
          exact W.zret hx hb hr (bI_narrow _) (fun t9 ht9 hW9 => ⟨⟨_, (m_mk (m_liq u) (m_lev u) (m_nS u) (m_fa u) (m_fb u) (m_seat u) (m_op u) (m_un u) (m_nV u) (m_may u) (m_nR u) (m_rf u) (m_rl u) (m_rw u) (m_rc u) (m_cul u) (m_gu u) (m_te u) 0 (m_wet u)), rfl, ⟨by rw [M_may, if_pos (Or.inl (Or.inr (Or.inr (Or.inl c_5))))], by rw [M_may, if_pos (Or.inl (Or.inr (Or.inr (Or.inl c_5))))]⟩, by rw [ht9]; exact hP, va_K.moved hW9.alike hK, hD⟩, hS.F ht9⟩) hS.2.2 d_M_may_55
        · exact absurd c_6 (by decide)
      · refine lv_iload_n hx hb d_M_may_19 rfl (lv_at hl 2 rfl) ?_
        refine lv_bipush (v := nI 16) hx hb d_M_may_20 (by decide) ?_
        refine lv_icmp_ge (tgt := 34) hx hb d_M_may_22 (by decide) (fun c_7 => ?_) (fun c_7 => ?_)
        · refine lv_iconst (v := nI 0) hx hb d_M_may_34 (by decide) ?_
          refine lv_istore_n (lv' := [(3, .int (nI 0)), (0, .ref (ma_o q)), (1, .int x), (2, .int y)]) hx hb d_M_may_35 rfl hl (by decide) rfl (fun ls hl => ?_)
          refine lv_iload_n hx hb d_M_may_36 rfl (lv_at hl 0 rfl) ?_
          refine n0_eq (tgt := 54) hx hb d_M_may_37 (by decide) (by omega) (fun c_8 => ?_) (fun c_8 => ?_)
          · refine lv_iconst (v := nI 0) hx hb d_M_may_54 (by decide) ?_
            refine tp_i (bI false) (by decide) ?_
            exact W.zret hx hb hr (bI_narrow _) (fun t9 ht9 hW9 => ⟨⟨_, (m_mk (m_liq u) (m_lev u) (m_nS u) (m_fa u) (m_fb u) (m_seat u) (m_op u) (m_un u) (m_nV u) (m_may u) (m_nR u) (m_rf u) (m_rl u) (m_rw u) (m_rc u) (m_cul u) (m_gu u) (m_te u) 0 (m_wet u)), rfl, ⟨by rw [M_may, if_pos (Or.inl (Or.inr (Or.inr (Or.inr (Or.inl c_7)))))], by rw [M_may, if_pos (Or.inl (Or.inr (Or.inr (Or.inr (Or.inl c_7)))))]⟩, by rw [ht9]; exact hP, va_K.moved hW9.alike hK, hD⟩, hS.F ht9⟩) hS.2.2 d_M_may_55
          · exact absurd c_8 (by decide)
        · refine lv_iload_n hx hb d_M_may_25 rfl (lv_at hl 1 rfl) ?_
          refine lv_iload_n hx hb d_M_may_26 rfl (lv_at hl 2 rfl) ?_
          refine lv_icmp_eq (tgt := 34) hx hb d_M_may_27 (by decide) (fun c_9 => ?_) (fun c_9 => ?_)
          · refine lv_iconst (v := nI 0) hx hb d_M_may_34 (by decide) ?_
            refine lv_istore_n (lv' := [(3, .int (nI 0)), (0, .ref (ma_o q)), (1, .int x), (2, .int y)]) hx hb d_M_may_35 rfl hl (by decide) rfl (fun ls hl => ?_)
            refine lv_iload_n hx hb d_M_may_36 rfl (lv_at hl 0 rfl) ?_
            refine n0_eq (tgt := 54) hx hb d_M_may_37 (by decide) (by omega) (fun c_10 => ?_) (fun c_10 => ?_)
            · refine lv_iconst (v := nI 0) hx hb d_M_may_54 (by decide) ?_
              refine tp_i (bI false) (by decide) ?_
              exact W.zret hx hb hr (bI_narrow _) (fun t9 ht9 hW9 => ⟨⟨_, (m_mk (m_liq u) (m_lev u) (m_nS u) (m_fa u) (m_fb u) (m_seat u) (m_op u) (m_un u) (m_nV u) (m_may u) (m_nR u) (m_rf u) (m_rl u) (m_rw u) (m_rc u) (m_cul u) (m_gu u) (m_te u) 0 (m_wet u)), rfl, ⟨by rw [M_may, if_pos (Or.inl (Or.inr (Or.inr (Or.inr (Or.inr c_9)))))], by rw [M_may, if_pos (Or.inl (Or.inr (Or.inr (Or.inr (Or.inr c_9)))))]⟩, by rw [ht9]; exact hP, va_K.moved hW9.alike hK, hD⟩, hS.F ht9⟩) hS.2.2 d_M_may_55
            · exact absurd c_10 (by decide)
          · have hnx : ¬ x = y := c_9
            obtain ⟨i, hi, rfl⟩ := ixB_of (n := 16) (by decide) (decide_eq_true ⟨fun q => c_1 (Int32.le_of_lt q), c_3⟩)
            obtain ⟨j, hj, rfl⟩ := ixB_of (n := 16) (by decide) (decide_eq_true ⟨fun q => c_5 (Int32.le_of_lt q), c_7⟩)
            refine lv_iconst (v := nI 1) hx hb d_M_may_30 (by decide) ?_
            refine lv_goto (tgt := 35) hx hb d_M_may_31 (by decide) ?_
            refine lv_istore_n (lv' := [(3, .int (nI 1)), (0, .ref (ma_o q)), (1, .int (nI i)), (2, .int (nI j))]) hx hb d_M_may_35 rfl hl (by decide) rfl (fun ls hl => ?_)
            refine lv_iload_n hx hb d_M_may_36 rfl (lv_at hl 0 rfl) ?_
            refine n0_eq (tgt := 54) hx hb d_M_may_37 (by decide) (by omega) (fun c_11 => ?_) (fun c_11 => ?_)
            · exact absurd c_11 (by decide)
            · refine lv_aload_n hx hb d_M_may_40 rfl (lv_at hl 1 rfl) ?_
              refine va_get (D := (dC, dI)) (ci := 4) (v := .ref (ma_may q)) (C := "SeatProofsModel") (T := F_M) (N := 20) hx hb hts (iu_M _) hown hK hP 0 rfl rfl 9 (by decide) (hts _ (List.mem_cons_of_mem _ iw_449)) (fun _ h9 => h9) rfl d_M_may_41 ?_
              refine lv_bipush (v := nI 16) hx hb d_M_may_44 (by decide) ?_
              refine lv_iload_n hx hb d_M_may_46 rfl (lv_at hl 2 rfl) ?_
              refine lv_imul hx hb d_M_may_47 ?_
              refine tp_i (nI (16 * i)) (pk_mul _ _) ?_
              refine lv_iload_n hx hb d_M_may_48 rfl (lv_at hl 3 rfl) ?_
              refine lv_iadd hx hb d_M_may_49 ?_
              refine tp_i (nI ((16 * i) + j)) (nI_add _ _) ?_
              refine ld_z hx hb hK hP 8 2 rfl rfl (bI (m_may u ((16 * i) + j))) (by omega) (by decide) rfl d_M_may_50 ?_
              refine b0_eq (tgt := 56) hx hb d_M_may_51 (by decide) (fun c_12 => ?_) (fun c_12 => ?_)
              · refine lv_aload_n hx hb d_M_may_56 rfl (lv_at hl 1 rfl) ?_
                refine va_get (D := (dC, dI)) (ci := 4) (v := .ref (ma_may q)) (C := "SeatProofsModel") (T := F_M) (N := 20) hx hb hts (iu_M _) hown hK hP 0 rfl rfl 9 (by decide) (hts _ (List.mem_cons_of_mem _ iw_449)) (fun _ h9 => h9) rfl d_M_may_57 ?_
                refine lv_bipush (v := nI 16) hx hb d_M_may_60 (by decide) ?_
                refine lv_iload_n hx hb d_M_may_62 rfl (lv_at hl 2 rfl) ?_
                refine lv_imul hx hb d_M_may_63 ?_
                refine tp_i (nI (16 * i)) (pk_mul _ _) ?_
                refine lv_iload_n hx hb d_M_may_64 rfl (lv_at hl 3 rfl) ?_
                refine lv_iadd hx hb d_M_may_65 ?_
                refine tp_i (nI ((16 * i) + j)) (nI_add _ _) ?_
                refine lv_iconst (v := nI 1) hx hb d_M_may_66 (by decide) ?_
                refine tp_i (bI true) (by decide) ?_
                refine st_z hx hb hK hP hD hS 8 2 rfl rfl (fun j9 => bI (va_up (m_may u) ((16 * i) + j) true j9)) (by omega) (by decide) (upd_bI _ _ _) d_M_may_67 (fun H locs hP hD hS => ?_)
                have hP : va_P (dC, dI) vwCl (wM q (m_mk (m_liq u) (m_lev u) (m_nS u) (m_fa u) (m_fb u) (m_seat u) (m_op u) (m_un u) (m_nV u) (va_up (m_may u) ((16 * i) + j) true) (m_nR u) (m_rf u) (m_rl u) (m_rw u) (m_rc u) (m_cul u) (m_gu u) (m_te u) 0 (m_wet u))) H := hP
                have hD : va_D (va_A (wM q u) s.heap.size) (wM q (m_mk (m_liq u) (m_lev u) (m_nS u) (m_fa u) (m_fb u) (m_seat u) (m_op u) (m_un u) (m_nV u) (va_up (m_may u) ((16 * i) + j) true) (m_nR u) (m_rf u) (m_rl u) (m_rw u) (m_rc u) (m_cul u) (m_gu u) (m_te u) 0 (m_wet u))) := hD
                refine lv_aload_n hx hb d_M_may_68 rfl (lv_at hl 1 rfl) ?_
                refine va_get (D := (dC, dI)) (ci := 4) (v := .ref (ma_may q)) (C := "SeatProofsModel") (T := F_M) (N := 20) hx hb hts (iu_M _) hown hK hP 0 rfl rfl 9 (by decide) (hts _ (List.mem_cons_of_mem _ iw_449)) (fun _ h9 => h9) rfl d_M_may_69 ?_
                refine lv_bipush (v := nI 16) hx hb d_M_may_72 (by decide) ?_
                refine lv_iload_n hx hb d_M_may_74 rfl (lv_at hl 3 rfl) ?_
                refine lv_imul hx hb d_M_may_75 ?_
                refine tp_i (nI (16 * j)) (pk_mul _ _) ?_
                refine lv_iload_n hx hb d_M_may_76 rfl (lv_at hl 2 rfl) ?_
                refine lv_iadd hx hb d_M_may_77 ?_
                refine tp_i (nI ((16 * j) + i)) (nI_add _ _) ?_
                refine lv_iconst (v := nI 1) hx hb d_M_may_78 (by decide) ?_
                refine tp_i (bI true) (by decide) ?_
                refine st_z hx hb hK hP hD hS 8 2 rfl rfl (fun j9 => bI (va_up (va_up (m_may u) ((16 * i) + j) true) ((16 * j) + i) true j9)) (by omega) (by decide) (upd_bI _ _ _) d_M_may_79 (fun H locs hP hD hS => ?_)
                have hP : va_P (dC, dI) vwCl (wM q (m_mk (m_liq u) (m_lev u) (m_nS u) (m_fa u) (m_fb u) (m_seat u) (m_op u) (m_un u) (m_nV u) (va_up (va_up (m_may u) ((16 * i) + j) true) ((16 * j) + i) true) (m_nR u) (m_rf u) (m_rl u) (m_rw u) (m_rc u) (m_cul u) (m_gu u) (m_te u) 0 (m_wet u))) H := hP
                have hD : va_D (va_A (wM q u) s.heap.size) (wM q (m_mk (m_liq u) (m_lev u) (m_nS u) (m_fa u) (m_fb u) (m_seat u) (m_op u) (m_un u) (m_nV u) (va_up (va_up (m_may u) ((16 * i) + j) true) ((16 * j) + i) true) (m_nR u) (m_rf u) (m_rl u) (m_rw u) (m_rc u) (m_cul u) (m_gu u) (m_te u) 0 (m_wet u))) := hD
                refine lv_aload_n hx hb d_M_may_80 rfl (lv_at hl 1 rfl) ?_
                refine lv_iconst (v := nI 0) hx hb d_M_may_81 (by decide) ?_
                refine va_put (D := (dC, dI)) (ci := 4) (v := .int (nI 0)) (ty := .int) (C := "SeatProofsModel") (T := F_M) (N := 20) hx hb hts (iu_M _) t_M t_M_ok n_M hown hK hP hD hS 0 rfl rfl 10 (by decide) (hts _ (List.mem_cons_of_mem _ iw_450)) (fun _ h9 => h9) rfl (by decide +kernel) rfl rfl (Nat.le_of_ble_eq_true rfl) d_M_may_82 (fun H locs hP hD hS => ?_)
                have hP : va_P (dC, dI) vwCl (wM q (m_mk (m_liq u) (m_lev u) (m_nS u) (m_fa u) (m_fb u) (m_seat u) (m_op u) (m_un u) (m_nV u) (va_up (va_up (m_may u) ((16 * i) + j) true) ((16 * j) + i) true) 0 (m_rf u) (m_rl u) (m_rw u) (m_rc u) (m_cul u) (m_gu u) (m_te u) 0 (m_wet u))) H := hP
                have hD : va_D (va_A (wM q u) s.heap.size) (wM q (m_mk (m_liq u) (m_lev u) (m_nS u) (m_fa u) (m_fb u) (m_seat u) (m_op u) (m_un u) (m_nV u) (va_up (va_up (m_may u) ((16 * i) + j) true) ((16 * j) + i) true) 0 (m_rf u) (m_rl u) (m_rw u) (m_rc u) (m_cul u) (m_gu u) (m_te u) 0 (m_wet u))) := hD
                refine lv_iconst (v := nI 1) hx hb d_M_may_85 (by decide) ?_
                refine tp_i (bI true) (by decide) ?_
                exact W.zret hx hb hr (bI_narrow _) (fun t9 ht9 hW9 => ⟨⟨_, (m_mk (m_liq u) (m_lev u) (m_nS u) (m_fa u) (m_fb u) (m_seat u) (m_op u) (m_un u) (m_nV u) (va_up (va_up (m_may u) ((16 * i) + j) true) ((16 * j) + i) true) 0 (m_rf u) (m_rl u) (m_rw u) (m_rc u) (m_cul u) (m_gu u) (m_te u) 0 (m_wet u)), rfl, ⟨by rw [M_may, if_neg (fun h => by rcases h with (h | h | h | h | h) | h <;> first | exact c_1 h | exact c_3 h | exact c_5 h | exact c_7 h | exact hnx h | (rw [nI_clamp (show i < 2 ^ 31 by omega), nI_clamp (show j < 2 ^ 31 by omega)] at h; exact absurd (h.symm.trans c_12) (by decide)))], by rw [M_may, if_neg (fun h => by rcases h with (h | h | h | h | h) | h <;> first | exact c_1 h | exact c_3 h | exact c_5 h | exact c_7 h | exact hnx h | (rw [nI_clamp (show i < 2 ^ 31 by omega), nI_clamp (show j < 2 ^ 31 by omega)] at h; exact absurd (h.symm.trans c_12) (by decide))), nI_clamp (show i < 2 ^ 31 by omega), nI_clamp (show j < 2 ^ 31 by omega)]; first | done | rfl⟩, by rw [ht9]; exact hP, va_K.moved hW9.alike hK, hD⟩, hS.F ht9⟩) hS.2.2 d_M_may_86
              · refine lv_iconst (v := nI 0) hx hb d_M_may_54 (by decide) ?_
                refine tp_i (bI false) (by decide) ?_
                exact W.zret hx hb hr (bI_narrow _) (fun t9 ht9 hW9 => ⟨⟨_, (m_mk (m_liq u) (m_lev u) (m_nS u) (m_fa u) (m_fb u) (m_seat u) (m_op u) (m_un u) (m_nV u) (m_may u) (m_nR u) (m_rf u) (m_rl u) (m_rw u) (m_rc u) (m_cul u) (m_gu u) (m_te u) 0 (m_wet u)), rfl, ⟨by rw [M_may, if_pos (Or.inr (by rw [nI_clamp (show i < 2 ^ 31 by omega), nI_clamp (show j < 2 ^ 31 by omega)]; exact c_12))], by rw [M_may, if_pos (Or.inr (by rw [nI_clamp (show i < 2 ^ 31 by omega), nI_clamp (show j < 2 ^ 31 by omega)]; exact c_12))]⟩, by rw [ht9]; exact hP, va_K.moved hW9.alike hK, hD⟩, hS.F ht9⟩) hS.2.2 d_M_may_55
set_option maxHeartbeats 4000000 in
set_option maxRecDepth 100000 in
theorem c_M_unsure (l : Launch) (dC : Nat → ClassId) (dI : Nat → Nat → Nat) (q : MA) (u : MSt) (sz : Nat) (x : Int32) (b : Bool) (hu : MOk u) : Met l y_M_unsure w_M_unsure ({ frames := 0, cells := 0, slots := 0, locals := 0 }) (qPc (dC, dI) vwCl (tM q) (wM q u) sz [Value.ref (ma_o q), Value.int x, Value.int (bI b)]) (va_Qi (fun (r : Int32) (z : MSt) => r = bI (M_unsure u x b).1 ∧ z = (M_unsure u x b).2) (qB (dC, dI) vwCl (tM q) (wM q u) sz (wM q)) (va_A (wM q u) sz)) 0 0 (va_A (wM q u) sz) := by
  refine Met.ofW (cc := b_M_unsure) (maxL := 3) (ret := (some .boolean)) (by decide) rfl ?_
  intro p e s m args below meth c s₁ B hml hv
  obtain ⟨rfl, hsz, hP, hK, hD0, hN⟩ := hv
  have hx := B.exec
  have hb := B.bytes
  have hr := B.returns
  have hts := atoms_spec (ws := w_M_unsure) B.pre
  have hown : s.vm.findClass "SeatProofsModel" = some m.cls := findClass_of_methodNamed B.named
  have hlocks := B.notSynchronized
  subst hsz
  have hD := hD0.self (sz := s.heap.size)
  have hA : ∀ z : Nat, s.heap.size ≤ z → va_A (wM q u) s.heap.size z := fun z h => Or.inr h
  have hS : va_S (va_A (wM q u) s.heap.size) s.heap s.heap [] := va_S.rf
  have hl := lv_entry ([Value.ref (ma_o q), Value.int x, Value.int (bI b)]) (n := 3) (Nat.le_of_ble_eq_true rfl)
  rw [lg_entry_eq]
  generalize (lg_sl ([Value.ref (ma_o q), Value.int x, Value.int (bI b)]) ++ List.replicate (3 - (lg_sl ([Value.ref (ma_o q), Value.int x, Value.int (bI b)])).length) Slot.unset).toArray = ls at hl ⊢
  have hl : lv_has ls 3 [(0, .ref (ma_o q)), (1, .int x), (2, .int (bI b))] := hl
  obtain ⟨k1, k2, k3, k4, k5, k6, k7, k8, k9, k10, k11⟩ := id hu
  refine lv_aload_n hx hb d_M_unsure_0 rfl (lv_at hl 0 rfl) ?_
  refine lv_iload_n hx hb d_M_unsure_1 rfl (lv_at hl 1 rfl) ?_
  refine lv_if_lt (tgt := 13) hx hb d_M_unsure_2 (by decide) (fun c_1 => ?_) (fun c_1 => ?_)
  · refine lv_iconst (v := nI 1) hx hb d_M_unsure_13 (by decide) ?_
    refine lv_goto (tgt := 18) hx hb d_M_unsure_14 (by decide) ?_
    refine va_put (D := (dC, dI)) (ci := 4) (v := .int (nI 1)) (ty := .int) (C := "SeatProofsModel") (T := F_M) (N := 20) hx hb hts (iu_M _) t_M t_M_ok n_M hown hK hP hD hS 0 rfl rfl 18 (by decide) (hts _ (List.mem_cons_of_mem _ iw_458)) (fun _ h9 => h9) rfl (by decide +kernel) rfl rfl (Nat.le_of_ble_eq_true rfl) d_M_unsure_18 (fun H locs hP hD hS => ?_)
    have hP : va_P (dC, dI) vwCl (wM q (m_mk (m_liq u) (m_lev u) (m_nS u) (m_fa u) (m_fb u) (m_seat u) (m_op u) (m_un u) (m_nV u) (m_may u) (m_nR u) (m_rf u) (m_rl u) (m_rw u) (m_rc u) (m_cul u) (m_gu u) (m_te u) 1 (m_wet u))) H := hP
    have hD : va_D (va_A (wM q u) s.heap.size) (wM q (m_mk (m_liq u) (m_lev u) (m_nS u) (m_fa u) (m_fb u) (m_seat u) (m_op u) (m_un u) (m_nV u) (m_may u) (m_nR u) (m_rf u) (m_rl u) (m_rw u) (m_rc u) (m_cul u) (m_gu u) (m_te u) 1 (m_wet u))) := hD
    refine lv_aload_n hx hb d_M_unsure_21 rfl (lv_at hl 0 rfl) ?_
    refine va_get (D := (dC, dI)) (ci := 4) (v := .int (nI 1)) (C := "SeatProofsModel") (T := F_M) (N := 20) hx hb hts (iu_M _) hown hK hP 0 rfl rfl 18 (by decide) (hts _ (List.mem_cons_of_mem _ iw_458)) (fun _ h9 => h9) rfl d_M_unsure_22 ?_
    refine n0_gt (tgt := 38) hx hb d_M_unsure_25 (by decide) (by omega) (fun c_2 => ?_) (fun c_2 => ?_)
    · refine lv_iconst (v := nI 0) hx hb d_M_unsure_38 (by decide) ?_
      refine tp_i (bI false) (by decide) ?_
      exact W.zret hx hb hr (bI_narrow _) (fun t9 ht9 hW9 => ⟨⟨_, (m_mk (m_liq u) (m_lev u) (m_nS u) (m_fa u) (m_fb u) (m_seat u) (m_op u) (m_un u) (m_nV u) (m_may u) (m_nR u) (m_rf u) (m_rl u) (m_rw u) (m_rc u) (m_cul u) (m_gu u) (m_te u) 1 (m_wet u)), rfl, ⟨by rw [M_unsure, if_pos (ixB_lo c_1)], by rw [M_unsure, if_pos (ixB_lo c_1)]; first | done | rfl⟩, by rw [ht9]; exact hP, va_K.moved hW9.alike hK, hD⟩, hS.F ht9⟩) hS.2.2 d_M_unsure_39
    · exact absurd c_2 (by decide)
  · refine lv_iload_n hx hb d_M_unsure_5 rfl (lv_at hl 1 rfl) ?_
    refine lv_aload_n hx hb d_M_unsure_6 rfl (lv_at hl 0 rfl) ?_
    refine va_get (D := (dC, dI)) (ci := 4) (v := .int (nI (m_nV u))) (C := "SeatProofsModel") (T := F_M) (N := 20) hx hb hts (iu_M _) hown hK hP 0 rfl rfl 8 (by decide) (hts _ (List.mem_cons_of_mem _ iw_448)) (fun _ h9 => h9) rfl d_M_unsure_7 ?_
    refine lv_icmp_lt (tgt := 17) hx hb d_M_unsure_10 (by decide) (fun c_3 => ?_) (fun c_3 => ?_)
    · have hux : ixB x (m_nV u) = true := decide_eq_true ⟨c_1, Int32.not_le.mpr c_3⟩
      obtain ⟨i, hi, rfl⟩ := ixB_of (by show m_nV u < 2 ^ 31; omega) hux
      have hi : i < m_nV u := hi
      refine lv_iconst (v := nI 0) hx hb d_M_unsure_17 (by decide) ?_
      refine va_put (D := (dC, dI)) (ci := 4) (v := .int (nI 0)) (ty := .int) (C := "SeatProofsModel") (T := F_M) (N := 20) hx hb hts (iu_M _) t_M t_M_ok n_M hown hK hP hD hS 0 rfl rfl 18 (by decide) (hts _ (List.mem_cons_of_mem _ iw_458)) (fun _ h9 => h9) rfl (by decide +kernel) rfl rfl (Nat.le_of_ble_eq_true rfl) d_M_unsure_18 (fun H locs hP hD hS => ?_)
      have hP : va_P (dC, dI) vwCl (wM q (m_mk (m_liq u) (m_lev u) (m_nS u) (m_fa u) (m_fb u) (m_seat u) (m_op u) (m_un u) (m_nV u) (m_may u) (m_nR u) (m_rf u) (m_rl u) (m_rw u) (m_rc u) (m_cul u) (m_gu u) (m_te u) 0 (m_wet u))) H := hP
      have hD : va_D (va_A (wM q u) s.heap.size) (wM q (m_mk (m_liq u) (m_lev u) (m_nS u) (m_fa u) (m_fb u) (m_seat u) (m_op u) (m_un u) (m_nV u) (m_may u) (m_nR u) (m_rf u) (m_rl u) (m_rw u) (m_rc u) (m_cul u) (m_gu u) (m_te u) 0 (m_wet u))) := hD
      refine lv_aload_n hx hb d_M_unsure_21 rfl (lv_at hl 0 rfl) ?_
      refine va_get (D := (dC, dI)) (ci := 4) (v := .int (nI 0)) (C := "SeatProofsModel") (T := F_M) (N := 20) hx hb hts (iu_M _) hown hK hP 0 rfl rfl 18 (by decide) (hts _ (List.mem_cons_of_mem _ iw_458)) (fun _ h9 => h9) rfl d_M_unsure_22 ?_
      refine n0_gt (tgt := 38) hx hb d_M_unsure_25 (by decide) (by omega) (fun c_4 => ?_) (fun c_4 => ?_)
      · exact absurd c_4 (by decide)
      · refine lv_aload_n hx hb d_M_unsure_28 rfl (lv_at hl 0 rfl) ?_
        refine va_get (D := (dC, dI)) (ci := 4) (v := .ref (ma_un q)) (C := "SeatProofsModel") (T := F_M) (N := 20) hx hb hts (iu_M _) hown hK hP 0 rfl rfl 7 (by decide) (hts _ (List.mem_cons_of_mem _ iw_447)) (fun _ h9 => h9) rfl d_M_unsure_29 ?_
        refine lv_iload_n hx hb d_M_unsure_32 rfl (lv_at hl 1 rfl) ?_
        refine ld_z hx hb hK hP 7 2 rfl rfl (bI (m_un u i)) (by omega) (by decide) rfl d_M_unsure_33 ?_
        refine lv_iload_n hx hb d_M_unsure_34 rfl (lv_at hl 2 rfl) ?_
        refine bv_ne (tgt := 40) hx hb d_M_unsure_35 (by decide) (fun c_5 => ?_) (fun c_5 => ?_)
        · refine lv_aload_n hx hb d_M_unsure_40 rfl (lv_at hl 0 rfl) ?_
          refine va_get (D := (dC, dI)) (ci := 4) (v := .ref (ma_un q)) (C := "SeatProofsModel") (T := F_M) (N := 20) hx hb hts (iu_M _) hown hK hP 0 rfl rfl 7 (by decide) (hts _ (List.mem_cons_of_mem _ iw_447)) (fun _ h9 => h9) rfl d_M_unsure_41 ?_
          refine lv_iload_n hx hb d_M_unsure_44 rfl (lv_at hl 1 rfl) ?_
          refine lv_iload_n hx hb d_M_unsure_45 rfl (lv_at hl 2 rfl) ?_
          refine st_z hx hb hK hP hD hS 7 2 rfl rfl (fun j9 => bI (va_up (m_un u) i b j9)) (by omega) (by decide) (upd_bI _ _ _) d_M_unsure_46 (fun H locs hP hD hS => ?_)
          have hP : va_P (dC, dI) vwCl (wM q (m_mk (m_liq u) (m_lev u) (m_nS u) (m_fa u) (m_fb u) (m_seat u) (m_op u) (va_up (m_un u) i b) (m_nV u) (m_may u) (m_nR u) (m_rf u) (m_rl u) (m_rw u) (m_rc u) (m_cul u) (m_gu u) (m_te u) 0 (m_wet u))) H := hP
          have hD : va_D (va_A (wM q u) s.heap.size) (wM q (m_mk (m_liq u) (m_lev u) (m_nS u) (m_fa u) (m_fb u) (m_seat u) (m_op u) (va_up (m_un u) i b) (m_nV u) (m_may u) (m_nR u) (m_rf u) (m_rl u) (m_rw u) (m_rc u) (m_cul u) (m_gu u) (m_te u) 0 (m_wet u))) := hD
          refine lv_aload_n hx hb d_M_unsure_47 rfl (lv_at hl 0 rfl) ?_
          refine lv_iconst (v := nI 0) hx hb d_M_unsure_48 (by decide) ?_
          refine va_put (D := (dC, dI)) (ci := 4) (v := .int (nI 0)) (ty := .int) (C := "SeatProofsModel") (T := F_M) (N := 20) hx hb hts (iu_M _) t_M t_M_ok n_M hown hK hP hD hS 0 rfl rfl 10 (by decide) (hts _ (List.mem_cons_of_mem _ iw_450)) (fun _ h9 => h9) rfl (by decide +kernel) rfl rfl (Nat.le_of_ble_eq_true rfl) d_M_unsure_49 (fun H locs hP hD hS => ?_)
          have hP : va_P (dC, dI) vwCl (wM q (m_mk (m_liq u) (m_lev u) (m_nS u) (m_fa u) (m_fb u) (m_seat u) (m_op u) (va_up (m_un u) i b) (m_nV u) (m_may u) 0 (m_rf u) (m_rl u) (m_rw u) (m_rc u) (m_cul u) (m_gu u) (m_te u) 0 (m_wet u))) H := hP
          have hD : va_D (va_A (wM q u) s.heap.size) (wM q (m_mk (m_liq u) (m_lev u) (m_nS u) (m_fa u) (m_fb u) (m_seat u) (m_op u) (va_up (m_un u) i b) (m_nV u) (m_may u) 0 (m_rf u) (m_rl u) (m_rw u) (m_rc u) (m_cul u) (m_gu u) (m_te u) 0 (m_wet u))) := hD
          refine lv_iconst (v := nI 1) hx hb d_M_unsure_52 (by decide) ?_
          refine tp_i (bI true) (by decide) ?_
          exact W.zret hx hb hr (bI_narrow _) (fun t9 ht9 hW9 => ⟨⟨_, (m_mk (m_liq u) (m_lev u) (m_nS u) (m_fa u) (m_fb u) (m_seat u) (m_op u) (va_up (m_un u) i b) (m_nV u) (m_may u) 0 (m_rf u) (m_rl u) (m_rw u) (m_rc u) (m_cul u) (m_gu u) (m_te u) 0 (m_wet u)), rfl, ⟨by rw [M_unsure, if_neg (fun h => absurd (h.symm.trans hux) (by decide)), nI_clamp (show i < 2 ^ 31 by omega), if_neg c_5], by rw [M_unsure, if_neg (fun h => absurd (h.symm.trans hux) (by decide)), nI_clamp (show i < 2 ^ 31 by omega), if_neg c_5]; first | done | rfl⟩, by rw [ht9]; exact hP, va_K.moved hW9.alike hK, hD⟩, hS.F ht9⟩) hS.2.2 d_M_unsure_53
        · refine lv_iconst (v := nI 0) hx hb d_M_unsure_38 (by decide) ?_
          refine tp_i (bI false) (by decide) ?_
          exact W.zret hx hb hr (bI_narrow _) (fun t9 ht9 hW9 => ⟨⟨_, (m_mk (m_liq u) (m_lev u) (m_nS u) (m_fa u) (m_fb u) (m_seat u) (m_op u) (m_un u) (m_nV u) (m_may u) (m_nR u) (m_rf u) (m_rl u) (m_rw u) (m_rc u) (m_cul u) (m_gu u) (m_te u) 0 (m_wet u)), rfl, ⟨by rw [M_unsure, if_neg (fun h => absurd (h.symm.trans hux) (by decide)), nI_clamp (show i < 2 ^ 31 by omega), if_pos c_5], by rw [M_unsure, if_neg (fun h => absurd (h.symm.trans hux) (by decide)), nI_clamp (show i < 2 ^ 31 by omega), if_pos c_5]⟩, by rw [ht9]; exact hP, va_K.moved hW9.alike hK, hD⟩, hS.F ht9⟩) hS.2.2 d_M_unsure_39
    · refine lv_iconst (v := nI 1) hx hb d_M_unsure_13 (by decide) ?_
      refine lv_goto (tgt := 18) hx hb d_M_unsure_14 (by decide) ?_
      refine va_put (D := (dC, dI)) (ci := 4) (v := .int (nI 1)) (ty := .int) (C := "SeatProofsModel") (T := F_M) (N := 20) hx hb hts (iu_M _) t_M t_M_ok n_M hown hK hP hD hS 0 rfl rfl 18 (by decide) (hts _ (List.mem_cons_of_mem _ iw_458)) (fun _ h9 => h9) rfl (by decide +kernel) rfl rfl (Nat.le_of_ble_eq_true rfl) d_M_unsure_18 (fun H locs hP hD hS => ?_)
      have hP : va_P (dC, dI) vwCl (wM q (m_mk (m_liq u) (m_lev u) (m_nS u) (m_fa u) (m_fb u) (m_seat u) (m_op u) (m_un u) (m_nV u) (m_may u) (m_nR u) (m_rf u) (m_rl u) (m_rw u) (m_rc u) (m_cul u) (m_gu u) (m_te u) 1 (m_wet u))) H := hP
      have hD : va_D (va_A (wM q u) s.heap.size) (wM q (m_mk (m_liq u) (m_lev u) (m_nS u) (m_fa u) (m_fb u) (m_seat u) (m_op u) (m_un u) (m_nV u) (m_may u) (m_nR u) (m_rf u) (m_rl u) (m_rw u) (m_rc u) (m_cul u) (m_gu u) (m_te u) 1 (m_wet u))) := hD
      refine lv_aload_n hx hb d_M_unsure_21 rfl (lv_at hl 0 rfl) ?_
      refine va_get (D := (dC, dI)) (ci := 4) (v := .int (nI 1)) (C := "SeatProofsModel") (T := F_M) (N := 20) hx hb hts (iu_M _) hown hK hP 0 rfl rfl 18 (by decide) (hts _ (List.mem_cons_of_mem _ iw_458)) (fun _ h9 => h9) rfl d_M_unsure_22 ?_
      refine n0_gt (tgt := 38) hx hb d_M_unsure_25 (by decide) (by omega) (fun c_6 => ?_) (fun c_6 => ?_)
      · refine lv_iconst (v := nI 0) hx hb d_M_unsure_38 (by decide) ?_
        refine tp_i (bI false) (by decide) ?_
        exact W.zret hx hb hr (bI_narrow _) (fun t9 ht9 hW9 => ⟨⟨_, (m_mk (m_liq u) (m_lev u) (m_nS u) (m_fa u) (m_fb u) (m_seat u) (m_op u) (m_un u) (m_nV u) (m_may u) (m_nR u) (m_rf u) (m_rl u) (m_rw u) (m_rc u) (m_cul u) (m_gu u) (m_te u) 1 (m_wet u)), rfl, ⟨by rw [M_unsure, if_pos (ixB_nl c_3)], by rw [M_unsure, if_pos (ixB_nl c_3)]; first | done | rfl⟩, by rw [ht9]; exact hP, va_K.moved hW9.alike hK, hD⟩, hS.F ht9⟩) hS.2.2 d_M_unsure_39
      · exact absurd c_6 (by decide)
end
section
set_option maxHeartbeats 4000000 in
set_option maxRecDepth 100000 in
theorem c_M_clear (l : Launch) (dC : Nat → ClassId) (dI : Nat → Nat → Nat) (q : MA) (u : MSt) (sz : Nat)  : Met l y_M_clear w_M_clear ({ frames := 0, cells := 0, slots := 0, locals := 0 }) (qPc (dC, dI) vwCl (tM q) (wM q u) sz [Value.ref (ma_o q)]) (va_Qv (fun z : MSt => ∃ g, (∀ t, t < 256 → g t = false) ∧ z = m_s_th (m_s_te (m_s_gu (m_s_nR (m_s_may (m_s_nV (m_s_nS u 0) 0) g) 0) false) 0) 0) (qB (dC, dI) vwCl (tM q) (wM q u) sz (wM q)) (va_A (wM q u) sz)) 0 0 (va_A (wM q u) sz) := by
  refine Met.ofW (cc := b_M_clear) (maxL := 2) (ret := none) (by decide) rfl ?_
  intro p e s m args below meth c s₁ B hml hv
  obtain ⟨rfl, hsz, hP, hK, hD0, hN⟩ := hv
  have hx := B.exec
  have hb := B.bytes
  have hr := B.returns
  have hts := atoms_spec (ws := w_M_clear) B.pre
  have hown : s.vm.findClass "SeatProofsModel" = some m.cls := findClass_of_methodNamed B.named
  have hlocks := B.notSynchronized
  subst hsz
  have hD := hD0.self (sz := s.heap.size)
  have hA : ∀ z : Nat, s.heap.size ≤ z → va_A (wM q u) s.heap.size z := fun z h => Or.inr h
  have hS : va_S (va_A (wM q u) s.heap.size) s.heap s.heap [] := va_S.rf
  have hl := lv_entry ([Value.ref (ma_o q)]) (n := 2) (Nat.le_of_ble_eq_true rfl)
  rw [lg_entry_eq]
  generalize (lg_sl ([Value.ref (ma_o q)]) ++ List.replicate (2 - (lg_sl ([Value.ref (ma_o q)])).length) Slot.unset).toArray = ls at hl ⊢
  have hl : lv_has ls 2 [(0, .ref (ma_o q))] := hl
  refine lv_aload_n hx hb d_M_clear_0 rfl (lv_at hl 0 rfl) ?_
  refine lv_iconst (v := nI 0) hx hb d_M_clear_1 (by decide) ?_
  refine va_put (D := (dC, dI)) (ci := 4) (v := .int (nI 0)) (ty := .int) (C := "SeatProofsModel") (T := F_M) (N := 20) hx hb hts (iu_M _) t_M t_M_ok n_M hown hK hP hD hS 0 rfl rfl 18 (by decide) (hts _ (List.mem_cons_of_mem _ iw_458)) (fun _ h9 => h9) rfl (by decide +kernel) rfl rfl (Nat.le_of_ble_eq_true rfl) d_M_clear_2 (fun H locs hP hD hS => ?_)
  have hP : va_P (dC, dI) vwCl (wM q (m_mk (m_liq u) (m_lev u) (m_nS u) (m_fa u) (m_fb u) (m_seat u) (m_op u) (m_un u) (m_nV u) (m_may u) (m_nR u) (m_rf u) (m_rl u) (m_rw u) (m_rc u) (m_cul u) (m_gu u) (m_te u) 0 (m_wet u))) H := hP
  have hD : va_D (va_A (wM q u) s.heap.size) (wM q (m_mk (m_liq u) (m_lev u) (m_nS u) (m_fa u) (m_fb u) (m_seat u) (m_op u) (m_un u) (m_nV u) (m_may u) (m_nR u) (m_rf u) (m_rl u) (m_rw u) (m_rc u) (m_cul u) (m_gu u) (m_te u) 0 (m_wet u))) := hD
  refine lv_iconst (v := nI 0) hx hb d_M_clear_5 (by decide) ?_
  refine lv_istore_n (lv' := [(1, .int (nI 0)), (0, .ref (ma_o q))]) hx hb d_M_clear_6 rfl hl (by decide) rfl (fun ls hl => ?_)
  have L7 : ∀ (n7 : Nat) (i : Nat) (g : Nat → Bool), (i ≤ 256) → (∀ t, t < i → g t = false) → 256 - i < n7 → ∀ (H : Heap) (locs : List Loc) (ls : Array Slot), va_P (dC, dI) vwCl (wM q (m_mk (m_liq u) (m_lev u) (m_nS u) (m_fa u) (m_fb u) (m_seat u) (m_op u) (m_un u) (m_nV u) g (m_nR u) (m_rf u) (m_rl u) (m_rw u) (m_rc u) (m_cul u) (m_gu u) (m_te u) 0 (m_wet u))) H → va_D (va_A (wM q u) s.heap.size) (wM q (m_mk (m_liq u) (m_lev u) (m_nS u) (m_fa u) (m_fb u) (m_seat u) (m_op u) (m_un u) (m_nV u) g (m_nR u) (m_rf u) (m_rl u) (m_rw u) (m_rc u) (m_cul u) (m_gu u) (m_te u) 0 (m_wet u))) → va_S (va_A (wM q u) s.heap.size) s.heap H locs → lv_has ls 2 [(0, .ref (ma_o q)), (1, .int (nI i))] → W p l e (headSpec w_M_clear ({ frames := 0, cells := 0, slots := 0, locals := 0 })).room s m [Value.ref (ma_o q)].toArray below meth c H locs 0 0 (MQ below (va_Qv (fun z : MSt => ∃ g, (∀ t, t < 256 → g t = false) ∧ z = m_s_th (m_s_te (m_s_gu (m_s_nR (m_s_may (m_s_nV (m_s_nS u 0) 0) g) 0) false) 0) 0) (qB (dC, dI) vwCl (tM q) (wM q u) s.heap.size (wM q)) (va_A (wM q u) s.heap.size)) [Value.ref (ma_o q)].toArray s 0 0 (va_A (wM q u) s.heap.size)) (F0 m 7 ls []) := by
    intro n7
    induction n7 with
    | zero => intro i g hi7 hg7 hm; exact absurd hm (Nat.not_lt_zero _)
    | succ n7 ih7 =>
      intro i g hi7 hg7 hm7 H locs ls hP hD hS hl
      refine lv_iload_n hx hb d_M_clear_7 rfl (lv_at hl 1 rfl) ?_
      refine lv_sipush (v := nI 256) hx hb d_M_clear_8 (by decide) ?_
      refine nv_ge (tgt := 27) hx hb d_M_clear_11 (by decide) (by omega) (by omega) (fun c_1 => ?_) (fun c_1 => ?_)
      · refine lv_aload_n hx hb d_M_clear_27 rfl (lv_at hl 0 rfl) ?_
        refine lv_iconst (v := nI 0) hx hb d_M_clear_28 (by decide) ?_
        refine va_put (D := (dC, dI)) (ci := 4) (v := .int (nI 0)) (ty := .int) (C := "SeatProofsModel") (T := F_M) (N := 20) hx hb hts (iu_M _) t_M t_M_ok n_M hown hK hP hD hS 0 rfl rfl 2 (by decide) (hts _ (List.mem_cons_of_mem _ iw_442)) (fun _ h9 => h9) rfl (by decide +kernel) rfl rfl (Nat.le_of_ble_eq_true rfl) d_M_clear_29 (fun H locs hP hD hS => ?_)
        have hP : va_P (dC, dI) vwCl (wM q (m_mk (m_liq u) (m_lev u) 0 (m_fa u) (m_fb u) (m_seat u) (m_op u) (m_un u) (m_nV u) g (m_nR u) (m_rf u) (m_rl u) (m_rw u) (m_rc u) (m_cul u) (m_gu u) (m_te u) 0 (m_wet u))) H := hP
        have hD : va_D (va_A (wM q u) s.heap.size) (wM q (m_mk (m_liq u) (m_lev u) 0 (m_fa u) (m_fb u) (m_seat u) (m_op u) (m_un u) (m_nV u) g (m_nR u) (m_rf u) (m_rl u) (m_rw u) (m_rc u) (m_cul u) (m_gu u) (m_te u) 0 (m_wet u))) := hD
        refine lv_aload_n hx hb d_M_clear_32 rfl (lv_at hl 0 rfl) ?_
        refine lv_iconst (v := nI 0) hx hb d_M_clear_33 (by decide) ?_
        refine va_put (D := (dC, dI)) (ci := 4) (v := .int (nI 0)) (ty := .int) (C := "SeatProofsModel") (T := F_M) (N := 20) hx hb hts (iu_M _) t_M t_M_ok n_M hown hK hP hD hS 0 rfl rfl 8 (by decide) (hts _ (List.mem_cons_of_mem _ iw_448)) (fun _ h9 => h9) rfl (by decide +kernel) rfl rfl (Nat.le_of_ble_eq_true rfl) d_M_clear_34 (fun H locs hP hD hS => ?_)
        have hP : va_P (dC, dI) vwCl (wM q (m_mk (m_liq u) (m_lev u) 0 (m_fa u) (m_fb u) (m_seat u) (m_op u) (m_un u) 0 g (m_nR u) (m_rf u) (m_rl u) (m_rw u) (m_rc u) (m_cul u) (m_gu u) (m_te u) 0 (m_wet u))) H := hP
        have hD : va_D (va_A (wM q u) s.heap.size) (wM q (m_mk (m_liq u) (m_lev u) 0 (m_fa u) (m_fb u) (m_seat u) (m_op u) (m_un u) 0 g (m_nR u) (m_rf u) (m_rl u) (m_rw u) (m_rc u) (m_cul u) (m_gu u) (m_te u) 0 (m_wet u))) := hD
        refine lv_aload_n hx hb d_M_clear_37 rfl (lv_at hl 0 rfl) ?_
        refine lv_iconst (v := nI 0) hx hb d_M_clear_38 (by decide) ?_
        refine va_put (D := (dC, dI)) (ci := 4) (v := .int (nI 0)) (ty := .int) (C := "SeatProofsModel") (T := F_M) (N := 20) hx hb hts (iu_M _) t_M t_M_ok n_M hown hK hP hD hS 0 rfl rfl 10 (by decide) (hts _ (List.mem_cons_of_mem _ iw_450)) (fun _ h9 => h9) rfl (by decide +kernel) rfl rfl (Nat.le_of_ble_eq_true rfl) d_M_clear_39 (fun H locs hP hD hS => ?_)
        have hP : va_P (dC, dI) vwCl (wM q (m_mk (m_liq u) (m_lev u) 0 (m_fa u) (m_fb u) (m_seat u) (m_op u) (m_un u) 0 g 0 (m_rf u) (m_rl u) (m_rw u) (m_rc u) (m_cul u) (m_gu u) (m_te u) 0 (m_wet u))) H := hP
        have hD : va_D (va_A (wM q u) s.heap.size) (wM q (m_mk (m_liq u) (m_lev u) 0 (m_fa u) (m_fb u) (m_seat u) (m_op u) (m_un u) 0 g 0 (m_rf u) (m_rl u) (m_rw u) (m_rc u) (m_cul u) (m_gu u) (m_te u) 0 (m_wet u))) := hD
        refine lv_aload_n hx hb d_M_clear_42 rfl (lv_at hl 0 rfl) ?_
        refine lv_iconst (v := nI 0) hx hb d_M_clear_43 (by decide) ?_
        refine tp_i (bI false) (by decide) ?_
        refine va_put (D := (dC, dI)) (ci := 4) (v := .int (bI false)) (ty := .boolean) (C := "SeatProofsModel") (T := F_M) (N := 20) hx hb hts (iu_M _) t_M t_M_ok n_M hown hK hP hD hS 0 rfl rfl 16 (by decide) (hts _ (List.mem_cons_of_mem _ iw_456)) (fun _ h9 => h9) rfl (by decide +kernel) (bI_narrow _) (bI_fits _) (Nat.le_of_ble_eq_true rfl) d_M_clear_44 (fun H locs hP hD hS => ?_)
        have hP : va_P (dC, dI) vwCl (wM q (m_mk (m_liq u) (m_lev u) 0 (m_fa u) (m_fb u) (m_seat u) (m_op u) (m_un u) 0 g 0 (m_rf u) (m_rl u) (m_rw u) (m_rc u) (m_cul u) false (m_te u) 0 (m_wet u))) H := hP
        have hD : va_D (va_A (wM q u) s.heap.size) (wM q (m_mk (m_liq u) (m_lev u) 0 (m_fa u) (m_fb u) (m_seat u) (m_op u) (m_un u) 0 g 0 (m_rf u) (m_rl u) (m_rw u) (m_rc u) (m_cul u) false (m_te u) 0 (m_wet u))) := hD
        refine lv_aload_n hx hb d_M_clear_47 rfl (lv_at hl 0 rfl) ?_
        refine lv_iconst (v := nI 0) hx hb d_M_clear_48 (by decide) ?_
        refine va_put (D := (dC, dI)) (ci := 4) (v := .int (nI 0)) (ty := .int) (C := "SeatProofsModel") (T := F_M) (N := 20) hx hb hts (iu_M _) t_M t_M_ok n_M hown hK hP hD hS 0 rfl rfl 17 (by decide) (hts _ (List.mem_cons_of_mem _ iw_457)) (fun _ h9 => h9) rfl (by decide +kernel) rfl rfl (Nat.le_of_ble_eq_true rfl) d_M_clear_49 (fun H locs hP hD hS => ?_)
        have hP : va_P (dC, dI) vwCl (wM q (m_mk (m_liq u) (m_lev u) 0 (m_fa u) (m_fb u) (m_seat u) (m_op u) (m_un u) 0 g 0 (m_rf u) (m_rl u) (m_rw u) (m_rc u) (m_cul u) false 0 0 (m_wet u))) H := hP
        have hD : va_D (va_A (wM q u) s.heap.size) (wM q (m_mk (m_liq u) (m_lev u) 0 (m_fa u) (m_fb u) (m_seat u) (m_op u) (m_un u) 0 g 0 (m_rf u) (m_rl u) (m_rw u) (m_rc u) (m_cul u) false 0 0 (m_wet u))) := hD
        exact W.vret hx hb hr (fun t9 ht9 hW9 => ⟨⟨(m_mk (m_liq u) (m_lev u) 0 (m_fa u) (m_fb u) (m_seat u) (m_op u) (m_un u) 0 g 0 (m_rf u) (m_rl u) (m_rw u) (m_rc u) (m_cul u) false 0 0 (m_wet u)), rfl, ⟨g, fun t ht => hg7 t (by omega), rfl⟩, by rw [ht9]; exact hP, va_K.moved hW9.alike hK, hD⟩, hS.F ht9⟩) hS.2.2 d_M_clear_52
      · refine lv_aload_n hx hb d_M_clear_14 rfl (lv_at hl 0 rfl) ?_
        refine va_get (D := (dC, dI)) (ci := 4) (v := .ref (ma_may q)) (C := "SeatProofsModel") (T := F_M) (N := 20) hx hb hts (iu_M _) hown hK hP 0 rfl rfl 9 (by decide) (hts _ (List.mem_cons_of_mem _ iw_449)) (fun _ h9 => h9) rfl d_M_clear_15 ?_
        refine lv_iload_n hx hb d_M_clear_18 rfl (lv_at hl 1 rfl) ?_
        refine lv_iconst (v := nI 0) hx hb d_M_clear_19 (by decide) ?_
        refine tp_i (bI false) (by decide) ?_
        refine st_z hx hb hK hP hD hS 8 2 rfl rfl (fun j9 => bI (va_up g i false j9)) (by omega) (by decide) (upd_bI _ _ _) d_M_clear_20 (fun H locs hP hD hS => ?_)
        have hP : va_P (dC, dI) vwCl (wM q (m_mk (m_liq u) (m_lev u) (m_nS u) (m_fa u) (m_fb u) (m_seat u) (m_op u) (m_un u) (m_nV u) (va_up g i false) (m_nR u) (m_rf u) (m_rl u) (m_rw u) (m_rc u) (m_cul u) (m_gu u) (m_te u) 0 (m_wet u))) H := hP
        have hD : va_D (va_A (wM q u) s.heap.size) (wM q (m_mk (m_liq u) (m_lev u) (m_nS u) (m_fa u) (m_fb u) (m_seat u) (m_op u) (m_un u) (m_nV u) (va_up g i false) (m_nR u) (m_rf u) (m_rl u) (m_rw u) (m_rc u) (m_cul u) (m_gu u) (m_te u) 0 (m_wet u))) := hD
        refine lv_iinc (v := nI (i + 1)) (lv' := [(1, .int (nI (i + 1))), (0, .ref (ma_o q))]) hx hb d_M_clear_21 hl (k := 1) rfl (nI_1 _) (by decide) rfl (fun ls hl => ?_)
        refine lv_goto (tgt := 7) hx hb d_M_clear_24 (by decide) ?_
        exact ih7 (i + 1) (va_up g i false) (by omega) (up_lt (h := fun _ => false) hg7 rfl) (by omega) _ _ ls hP hD hS (lv_sub hl [1, 0] rfl)
  exact L7 _ 0 (m_may u) (Nat.zero_le _) (fun t ht => absurd ht (Nat.not_lt_zero t)) (Nat.lt_succ_self _) _ _ ls hP hD hS (lv_sub hl [1, 0] rfl)
set_option maxHeartbeats 4000000 in
set_option maxRecDepth 100000 in
theorem c_M_drop (l : Launch) (dC : Nat → ClassId) (dI : Nat → Nat → Nat) (q : MA) (u : MSt) (sz : Nat) (x : Int32) (hu : MOk u) : Met l y_M_drop w_M_drop ({ frames := 0, cells := 0, slots := 0, locals := 0 }) (qPc (dC, dI) vwCl (tM q) (wM q u) sz [Value.ref (ma_o q), Value.int x]) (va_Qi (fun (r : Int32) (z : MSt) => r = bI (M_drop u x).1 ∧ z = (M_drop u x).2) (qB (dC, dI) vwCl (tM q) (wM q u) sz (wM q)) (va_A (wM q u) sz)) 0 0 (va_A (wM q u) sz) := by
  refine Met.ofW (cc := b_M_drop) (maxL := 3) (ret := (some .boolean)) (by decide) rfl ?_
  intro p e s m args below meth c s₁ B hml hv
  obtain ⟨rfl, hsz, hP, hK, hD0, hN⟩ := hv
  have hx := B.exec
  have hb := B.bytes
  have hr := B.returns
  have hts := atoms_spec (ws := w_M_drop) B.pre
  have hown : s.vm.findClass "SeatProofsModel" = some m.cls := findClass_of_methodNamed B.named
  have hlocks := B.notSynchronized
  subst hsz
  have hD := hD0.self (sz := s.heap.size)
  have hA : ∀ z : Nat, s.heap.size ≤ z → va_A (wM q u) s.heap.size z := fun z h => Or.inr h
  have hS : va_S (va_A (wM q u) s.heap.size) s.heap s.heap [] := va_S.rf
  have hl := lv_entry ([Value.ref (ma_o q), Value.int x]) (n := 3) (Nat.le_of_ble_eq_true rfl)
  rw [lg_entry_eq]
  generalize (lg_sl ([Value.ref (ma_o q), Value.int x]) ++ List.replicate (3 - (lg_sl ([Value.ref (ma_o q), Value.int x])).length) Slot.unset).toArray = ls at hl ⊢
  have hl : lv_has ls 3 [(0, .ref (ma_o q)), (1, .int x)] := hl
  obtain ⟨k1, k2, k3, k4, k5, k6, k7, k8, k9, k10, k11⟩ := id hu
  refine lv_aload_n hx hb d_M_drop_0 rfl (lv_at hl 0 rfl) ?_
  refine lv_iconst (v := nI 0) hx hb d_M_drop_1 (by decide) ?_
  refine va_put (D := (dC, dI)) (ci := 4) (v := .int (nI 0)) (ty := .int) (C := "SeatProofsModel") (T := F_M) (N := 20) hx hb hts (iu_M _) t_M t_M_ok n_M hown hK hP hD hS 0 rfl rfl 18 (by decide) (hts _ (List.mem_cons_of_mem _ iw_458)) (fun _ h9 => h9) rfl (by decide +kernel) rfl rfl (Nat.le_of_ble_eq_true rfl) d_M_drop_2 (fun H locs hP hD hS => ?_)
  have hP : va_P (dC, dI) vwCl (wM q (m_mk (m_liq u) (m_lev u) (m_nS u) (m_fa u) (m_fb u) (m_seat u) (m_op u) (m_un u) (m_nV u) (m_may u) (m_nR u) (m_rf u) (m_rl u) (m_rw u) (m_rc u) (m_cul u) (m_gu u) (m_te u) 0 (m_wet u))) H := hP
  have hD : va_D (va_A (wM q u) s.heap.size) (wM q (m_mk (m_liq u) (m_lev u) (m_nS u) (m_fa u) (m_fb u) (m_seat u) (m_op u) (m_un u) (m_nV u) (m_may u) (m_nR u) (m_rf u) (m_rl u) (m_rw u) (m_rc u) (m_cul u) (m_gu u) (m_te u) 0 (m_wet u))) := hD
  refine lv_iload_n hx hb d_M_drop_5 rfl (lv_at hl 1 rfl) ?_
  refine lv_if_lt (tgt := 17) hx hb d_M_drop_6 (by decide) (fun c_1 => ?_) (fun c_1 => ?_)
  · refine lv_iconst (v := nI 0) hx hb d_M_drop_17 (by decide) ?_
    refine tp_i (bI false) (by decide) ?_
    exact W.zret hx hb hr (bI_narrow _) (fun t9 ht9 hW9 => ⟨⟨_, (m_mk (m_liq u) (m_lev u) (m_nS u) (m_fa u) (m_fb u) (m_seat u) (m_op u) (m_un u) (m_nV u) (m_may u) (m_nR u) (m_rf u) (m_rl u) (m_rw u) (m_rc u) (m_cul u) (m_gu u) (m_te u) 0 (m_wet u)), rfl, ⟨by rw [M_drop, if_pos (ixB_lo c_1)], by rw [M_drop, if_pos (ixB_lo c_1)]; first | done | rfl⟩, by rw [ht9]; exact hP, va_K.moved hW9.alike hK, hD⟩, hS.F ht9⟩) hS.2.2 d_M_drop_18
  · refine lv_iload_n hx hb d_M_drop_9 rfl (lv_at hl 1 rfl) ?_
    refine lv_aload_n hx hb d_M_drop_10 rfl (lv_at hl 0 rfl) ?_
    refine va_get (D := (dC, dI)) (ci := 4) (v := .int (nI (m_nR u))) (C := "SeatProofsModel") (T := F_M) (N := 20) hx hb hts (iu_M _) hown hK hP 0 rfl rfl 10 (by decide) (hts _ (List.mem_cons_of_mem _ iw_450)) (fun _ h9 => h9) rfl d_M_drop_11 ?_
    refine lv_icmp_lt (tgt := 19) hx hb d_M_drop_14 (by decide) (fun c_2 => ?_) (fun c_2 => ?_)
    · have hdx : ixB x (m_nR u) = true := decide_eq_true ⟨c_1, Int32.not_le.mpr c_2⟩
      obtain ⟨j, hj, rfl⟩ := ixB_of (by show m_nR u < 2 ^ 31; omega) hdx
      have hj : j < m_nR u := hj
      refine lv_iload_n hx hb d_M_drop_19 rfl (lv_at hl 1 rfl) ?_
      refine lv_istore_n (lv' := [(2, .int (nI j)), (0, .ref (ma_o q)), (1, .int (nI j))]) hx hb d_M_drop_20 rfl hl (by decide) rfl (fun ls hl => ?_)
      have L21 : ∀ (n21 : Nat) (k : Nat) (g1 : Nat → Nat) (g2 : Nat → Nat) (g3 : Nat → Int64) (g4 : Nat → Int64), (j ≤ k) → (k < m_nR u) → (g1 = sh (m_rf u) j k) → (g2 = sh (m_rl u) j k) → (g3 = sh (m_rw u) j k) → (g4 = sh (m_rc u) j k) → m_nR u - k < n21 → ∀ (H : Heap) (locs : List Loc) (ls : Array Slot), va_P (dC, dI) vwCl (wM q (m_mk (m_liq u) (m_lev u) (m_nS u) (m_fa u) (m_fb u) (m_seat u) (m_op u) (m_un u) (m_nV u) (m_may u) (m_nR u) g1 g2 g3 g4 (m_cul u) (m_gu u) (m_te u) 0 (m_wet u))) H → va_D (va_A (wM q u) s.heap.size) (wM q (m_mk (m_liq u) (m_lev u) (m_nS u) (m_fa u) (m_fb u) (m_seat u) (m_op u) (m_un u) (m_nV u) (m_may u) (m_nR u) g1 g2 g3 g4 (m_cul u) (m_gu u) (m_te u) 0 (m_wet u))) → va_S (va_A (wM q u) s.heap.size) s.heap H locs → lv_has ls 3 [(0, .ref (ma_o q)), (1, .int (nI j)), (2, .int (nI k))] → W p l e (headSpec w_M_drop ({ frames := 0, cells := 0, slots := 0, locals := 0 })).room s m [Value.ref (ma_o q), Value.int (nI j)].toArray below meth c H locs 0 0 (MQ below (va_Qi (fun (r : Int32) (z : MSt) => r = bI (M_drop u (nI j)).1 ∧ z = (M_drop u (nI j)).2) (qB (dC, dI) vwCl (tM q) (wM q u) s.heap.size (wM q)) (va_A (wM q u) s.heap.size)) [Value.ref (ma_o q), Value.int (nI j)].toArray s 0 0 (va_A (wM q u) s.heap.size)) (F0 m 21 ls []) := by
        intro n21
        induction n21 with
        | zero => intro k g1 g2 g3 g4 hk1 hk2 h1 h2 h3 h4 hm; exact absurd hm (Nat.not_lt_zero _)
        | succ n21 ih21 =>
          intro k g1 g2 g3 g4 hk1 hk2 h1 h2 h3 h4 hm21 H locs ls hP hD hS hl
          refine lv_iload_n hx hb d_M_drop_21 rfl (lv_at hl 2 rfl) ?_
          refine lv_iconst (v := nI 1) hx hb d_M_drop_22 (by decide) ?_
          refine lv_iadd hx hb d_M_drop_23 ?_
          refine tp_i (nI (k + 1)) (nI_add _ _) ?_
          refine lv_aload_n hx hb d_M_drop_24 rfl (lv_at hl 0 rfl) ?_
          refine va_get (D := (dC, dI)) (ci := 4) (v := .int (nI (m_nR u))) (C := "SeatProofsModel") (T := F_M) (N := 20) hx hb hts (iu_M _) hown hK hP 0 rfl rfl 10 (by decide) (hts _ (List.mem_cons_of_mem _ iw_450)) (fun _ h9 => h9) rfl d_M_drop_25 ?_
          refine nv_ge (tgt := 93) hx hb d_M_drop_28 (by decide) (by omega) (by omega) (fun c_3 => ?_) (fun c_3 => ?_)
          · refine lv_aload_n hx hb d_M_drop_93 rfl (lv_at hl 0 rfl) ?_
            refine lv_dup hx hb d_M_drop_94 rfl ?_
            refine va_get (D := (dC, dI)) (ci := 4) (v := .int (nI (m_nR u))) (C := "SeatProofsModel") (T := F_M) (N := 20) hx hb hts (iu_M _) hown hK hP 0 rfl rfl 10 (by decide) (hts _ (List.mem_cons_of_mem _ iw_450)) (fun _ h9 => h9) rfl d_M_drop_95 ?_
            refine lv_iconst (v := nI 1) hx hb d_M_drop_98 (by decide) ?_
            refine lv_isub hx hb d_M_drop_99 ?_
            refine tp_i (nI (m_nR u - 1)) (pk_sub (by omega)) ?_
            refine va_put (D := (dC, dI)) (ci := 4) (v := .int (nI (m_nR u - 1))) (ty := .int) (C := "SeatProofsModel") (T := F_M) (N := 20) hx hb hts (iu_M _) t_M t_M_ok n_M hown hK hP hD hS 0 rfl rfl 10 (by decide) (hts _ (List.mem_cons_of_mem _ iw_450)) (fun _ h9 => h9) rfl (by decide +kernel) rfl rfl (Nat.le_of_ble_eq_true rfl) d_M_drop_100 (fun H locs hP hD hS => ?_)
            have hP : va_P (dC, dI) vwCl (wM q (m_mk (m_liq u) (m_lev u) (m_nS u) (m_fa u) (m_fb u) (m_seat u) (m_op u) (m_un u) (m_nV u) (m_may u) (m_nR u - 1) g1 g2 g3 g4 (m_cul u) (m_gu u) (m_te u) 0 (m_wet u))) H := hP
            have hD : va_D (va_A (wM q u) s.heap.size) (wM q (m_mk (m_liq u) (m_lev u) (m_nS u) (m_fa u) (m_fb u) (m_seat u) (m_op u) (m_un u) (m_nV u) (m_may u) (m_nR u - 1) g1 g2 g3 g4 (m_cul u) (m_gu u) (m_te u) 0 (m_wet u))) := hD
            refine lv_iconst (v := nI 1) hx hb d_M_drop_103 (by decide) ?_
            refine tp_i (bI true) (by decide) ?_
            exact W.zret hx hb hr (bI_narrow _) (fun t9 ht9 hW9 => ⟨⟨_, (m_mk (m_liq u) (m_lev u) (m_nS u) (m_fa u) (m_fb u) (m_seat u) (m_op u) (m_un u) (m_nV u) (m_may u) (m_nR u - 1) g1 g2 g3 g4 (m_cul u) (m_gu u) (m_te u) 0 (m_wet u)), rfl, ⟨by rw [M_drop, if_neg (fun h => absurd (h.symm.trans hdx) (by decide))], by rw [M_drop, if_neg (fun h => absurd (h.symm.trans hdx) (by decide)), nI_clamp (show j < 2 ^ 31 by omega), h1, h2, h3, h4, show k = m_nR u - 1 from by omega]; first | done | rfl⟩, by rw [ht9]; exact hP, va_K.moved hW9.alike hK, hD⟩, hS.F ht9⟩) hS.2.2 d_M_drop_104
          · refine lv_aload_n hx hb d_M_drop_31 rfl (lv_at hl 0 rfl) ?_
            refine va_get (D := (dC, dI)) (ci := 4) (v := .ref (ma_rf q)) (C := "SeatProofsModel") (T := F_M) (N := 20) hx hb hts (iu_M _) hown hK hP 0 rfl rfl 11 (by decide) (hts _ (List.mem_cons_of_mem _ iw_451)) (fun _ h9 => h9) rfl d_M_drop_32 ?_
            refine lv_iload_n hx hb d_M_drop_35 rfl (lv_at hl 2 rfl) ?_
            refine lv_aload_n hx hb d_M_drop_36 rfl (lv_at hl 0 rfl) ?_
            refine va_get (D := (dC, dI)) (ci := 4) (v := .ref (ma_rf q)) (C := "SeatProofsModel") (T := F_M) (N := 20) hx hb hts (iu_M _) hown hK hP 0 rfl rfl 11 (by decide) (hts _ (List.mem_cons_of_mem _ iw_451)) (fun _ h9 => h9) rfl d_M_drop_37 ?_
            refine lv_iload_n hx hb d_M_drop_40 rfl (lv_at hl 2 rfl) ?_
            refine lv_iconst (v := nI 1) hx hb d_M_drop_41 (by decide) ?_
            refine lv_iadd hx hb d_M_drop_42 ?_
            refine tp_i (nI (k + 1)) (nI_add _ _) ?_
            refine ld_i hx hb hK hP 9 0 rfl rfl (nI (g1 (k + 1))) (by omega) (by decide) rfl d_M_drop_43 ?_
            refine st_i hx hb hK hP hD hS 9 0 rfl rfl (fun j9 => nI (va_up g1 k (g1 (k + 1)) j9)) (by omega) (by decide) (upd_nI _ _ _) d_M_drop_44 (fun H locs hP hD hS => ?_)
            have hP : va_P (dC, dI) vwCl (wM q (m_mk (m_liq u) (m_lev u) (m_nS u) (m_fa u) (m_fb u) (m_seat u) (m_op u) (m_un u) (m_nV u) (m_may u) (m_nR u) (va_up g1 k (g1 (k + 1))) g2 g3 g4 (m_cul u) (m_gu u) (m_te u) 0 (m_wet u))) H := hP
            have hD : va_D (va_A (wM q u) s.heap.size) (wM q (m_mk (m_liq u) (m_lev u) (m_nS u) (m_fa u) (m_fb u) (m_seat u) (m_op u) (m_un u) (m_nV u) (m_may u) (m_nR u) (va_up g1 k (g1 (k + 1))) g2 g3 g4 (m_cul u) (m_gu u) (m_te u) 0 (m_wet u))) := hD
            refine lv_aload_n hx hb d_M_drop_45 rfl (lv_at hl 0 rfl) ?_
            refine va_get (D := (dC, dI)) (ci := 4) (v := .ref (ma_rl q)) (C := "SeatProofsModel") (T := F_M) (N := 20) hx hb hts (iu_M _) hown hK hP 0 rfl rfl 12 (by decide) (hts _ (List.mem_cons_of_mem _ iw_452)) (fun _ h9 => h9) rfl d_M_drop_46 ?_
            refine lv_iload_n hx hb d_M_drop_49 rfl (lv_at hl 2 rfl) ?_
            refine lv_aload_n hx hb d_M_drop_50 rfl (lv_at hl 0 rfl) ?_
            refine va_get (D := (dC, dI)) (ci := 4) (v := .ref (ma_rl q)) (C := "SeatProofsModel") (T := F_M) (N := 20) hx hb hts (iu_M _) hown hK hP 0 rfl rfl 12 (by decide) (hts _ (List.mem_cons_of_mem _ iw_452)) (fun _ h9 => h9) rfl d_M_drop_51 ?_
            refine lv_iload_n hx hb d_M_drop_54 rfl (lv_at hl 2 rfl) ?_
            refine lv_iconst (v := nI 1) hx hb d_M_drop_55 (by decide) ?_
            refine lv_iadd hx hb d_M_drop_56 ?_
            refine tp_i (nI (k + 1)) (nI_add _ _) ?_
            refine ld_i hx hb hK hP 10 0 rfl rfl (nI (g2 (k + 1))) (by omega) (by decide) rfl d_M_drop_57 ?_
            refine st_i hx hb hK hP hD hS 10 0 rfl rfl (fun j9 => nI (va_up g2 k (g2 (k + 1)) j9)) (by omega) (by decide) (upd_nI _ _ _) d_M_drop_58 (fun H locs hP hD hS => ?_)
            have hP : va_P (dC, dI) vwCl (wM q (m_mk (m_liq u) (m_lev u) (m_nS u) (m_fa u) (m_fb u) (m_seat u) (m_op u) (m_un u) (m_nV u) (m_may u) (m_nR u) (va_up g1 k (g1 (k + 1))) (va_up g2 k (g2 (k + 1))) g3 g4 (m_cul u) (m_gu u) (m_te u) 0 (m_wet u))) H := hP
            have hD : va_D (va_A (wM q u) s.heap.size) (wM q (m_mk (m_liq u) (m_lev u) (m_nS u) (m_fa u) (m_fb u) (m_seat u) (m_op u) (m_un u) (m_nV u) (m_may u) (m_nR u) (va_up g1 k (g1 (k + 1))) (va_up g2 k (g2 (k + 1))) g3 g4 (m_cul u) (m_gu u) (m_te u) 0 (m_wet u))) := hD
            refine lv_aload_n hx hb d_M_drop_59 rfl (lv_at hl 0 rfl) ?_
            refine va_get (D := (dC, dI)) (ci := 4) (v := .ref (ma_rw q)) (C := "SeatProofsModel") (T := F_M) (N := 20) hx hb hts (iu_M _) hown hK hP 0 rfl rfl 13 (by decide) (hts _ (List.mem_cons_of_mem _ iw_453)) (fun _ h9 => h9) rfl d_M_drop_60 ?_
            refine lv_iload_n hx hb d_M_drop_63 rfl (lv_at hl 2 rfl) ?_
            refine lv_aload_n hx hb d_M_drop_64 rfl (lv_at hl 0 rfl) ?_
            refine va_get (D := (dC, dI)) (ci := 4) (v := .ref (ma_rw q)) (C := "SeatProofsModel") (T := F_M) (N := 20) hx hb hts (iu_M _) hown hK hP 0 rfl rfl 13 (by decide) (hts _ (List.mem_cons_of_mem _ iw_453)) (fun _ h9 => h9) rfl d_M_drop_65 ?_
            refine lv_iload_n hx hb d_M_drop_68 rfl (lv_at hl 2 rfl) ?_
            refine lv_iconst (v := nI 1) hx hb d_M_drop_69 (by decide) ?_
            refine lv_iadd hx hb d_M_drop_70 ?_
            refine tp_i (nI (k + 1)) (nI_add _ _) ?_
            refine ld_l hx hb hK hP 11 1 rfl rfl (g3 (k + 1)) (by omega) (by decide) rfl d_M_drop_71 ?_
            refine st_l hx hb hK hP hD hS 11 1 rfl rfl (va_up g3 k (g3 (k + 1))) (by omega) (by decide) (updL_up _ _ _) d_M_drop_72 (fun H locs hP hD hS => ?_)
            have hP : va_P (dC, dI) vwCl (wM q (m_mk (m_liq u) (m_lev u) (m_nS u) (m_fa u) (m_fb u) (m_seat u) (m_op u) (m_un u) (m_nV u) (m_may u) (m_nR u) (va_up g1 k (g1 (k + 1))) (va_up g2 k (g2 (k + 1))) (va_up g3 k (g3 (k + 1))) g4 (m_cul u) (m_gu u) (m_te u) 0 (m_wet u))) H := hP
            have hD : va_D (va_A (wM q u) s.heap.size) (wM q (m_mk (m_liq u) (m_lev u) (m_nS u) (m_fa u) (m_fb u) (m_seat u) (m_op u) (m_un u) (m_nV u) (m_may u) (m_nR u) (va_up g1 k (g1 (k + 1))) (va_up g2 k (g2 (k + 1))) (va_up g3 k (g3 (k + 1))) g4 (m_cul u) (m_gu u) (m_te u) 0 (m_wet u))) := hD
            refine lv_aload_n hx hb d_M_drop_73 rfl (lv_at hl 0 rfl) ?_
            refine va_get (D := (dC, dI)) (ci := 4) (v := .ref (ma_rc q)) (C := "SeatProofsModel") (T := F_M) (N := 20) hx hb hts (iu_M _) hown hK hP 0 rfl rfl 14 (by decide) (hts _ (List.mem_cons_of_mem _ iw_454)) (fun _ h9 => h9) rfl d_M_drop_74 ?_
            refine lv_iload_n hx hb d_M_drop_77 rfl (lv_at hl 2 rfl) ?_
            refine lv_aload_n hx hb d_M_drop_78 rfl (lv_at hl 0 rfl) ?_
            refine va_get (D := (dC, dI)) (ci := 4) (v := .ref (ma_rc q)) (C := "SeatProofsModel") (T := F_M) (N := 20) hx hb hts (iu_M _) hown hK hP 0 rfl rfl 14 (by decide) (hts _ (List.mem_cons_of_mem _ iw_454)) (fun _ h9 => h9) rfl d_M_drop_79 ?_
            refine lv_iload_n hx hb d_M_drop_82 rfl (lv_at hl 2 rfl) ?_
            refine lv_iconst (v := nI 1) hx hb d_M_drop_83 (by decide) ?_
            refine lv_iadd hx hb d_M_drop_84 ?_
            refine tp_i (nI (k + 1)) (nI_add _ _) ?_
            refine ld_l hx hb hK hP 12 1 rfl rfl (g4 (k + 1)) (by omega) (by decide) rfl d_M_drop_85 ?_
            refine st_l hx hb hK hP hD hS 12 1 rfl rfl (va_up g4 k (g4 (k + 1))) (by omega) (by decide) (updL_up _ _ _) d_M_drop_86 (fun H locs hP hD hS => ?_)
            have hP : va_P (dC, dI) vwCl (wM q (m_mk (m_liq u) (m_lev u) (m_nS u) (m_fa u) (m_fb u) (m_seat u) (m_op u) (m_un u) (m_nV u) (m_may u) (m_nR u) (va_up g1 k (g1 (k + 1))) (va_up g2 k (g2 (k + 1))) (va_up g3 k (g3 (k + 1))) (va_up g4 k (g4 (k + 1))) (m_cul u) (m_gu u) (m_te u) 0 (m_wet u))) H := hP
            have hD : va_D (va_A (wM q u) s.heap.size) (wM q (m_mk (m_liq u) (m_lev u) (m_nS u) (m_fa u) (m_fb u) (m_seat u) (m_op u) (m_un u) (m_nV u) (m_may u) (m_nR u) (va_up g1 k (g1 (k + 1))) (va_up g2 k (g2 (k + 1))) (va_up g3 k (g3 (k + 1))) (va_up g4 k (g4 (k + 1))) (m_cul u) (m_gu u) (m_te u) 0 (m_wet u))) := hD
            refine lv_iinc (v := nI (k + 1)) (lv' := [(2, .int (nI (k + 1))), (0, .ref (ma_o q)), (1, .int (nI j))]) hx hb d_M_drop_87 hl (k := 2) rfl (nI_1 _) (by decide) rfl (fun ls hl => ?_)
            refine lv_goto (tgt := 21) hx hb d_M_drop_90 (by decide) ?_
            exact ih21 (k + 1) (va_up g1 k (g1 (k + 1))) (va_up g2 k (g2 (k + 1))) (va_up g3 k (g3 (k + 1))) (va_up g4 k (g4 (k + 1))) (by omega) (by omega) (sh_s h1 hk1) (sh_s h2 hk1) (sh_s h3 hk1) (sh_s h4 hk1) (by omega) _ _ ls hP hD hS (lv_sub hl [1, 2, 0] rfl)
      exact L21 _ j (m_rf u) (m_rl u) (m_rw u) (m_rc u) (Nat.le_refl _) hj sh_0 sh_0 sh_0 sh_0 (Nat.lt_succ_self _) _ _ ls hP hD hS (lv_sub hl [1, 2, 0] rfl)
    · refine lv_iconst (v := nI 0) hx hb d_M_drop_17 (by decide) ?_
      refine tp_i (bI false) (by decide) ?_
      exact W.zret hx hb hr (bI_narrow _) (fun t9 ht9 hW9 => ⟨⟨_, (m_mk (m_liq u) (m_lev u) (m_nS u) (m_fa u) (m_fb u) (m_seat u) (m_op u) (m_un u) (m_nV u) (m_may u) (m_nR u) (m_rf u) (m_rl u) (m_rw u) (m_rc u) (m_cul u) (m_gu u) (m_te u) 0 (m_wet u)), rfl, ⟨by rw [M_drop, if_pos (ixB_nl c_2)], by rw [M_drop, if_pos (ixB_nl c_2)]; first | done | rfl⟩, by rw [ht9]; exact hP, va_K.moved hW9.alike hK, hD⟩, hS.F ht9⟩) hS.2.2 d_M_drop_18
set_option maxHeartbeats 4000000 in
set_option maxRecDepth 100000 in
theorem c_M_row (l : Launch) (dC : Nat → ClassId) (dI : Nat → Nat → Nat) (q : MA) (u : MSt) (sz : Nat) (x y : Int32) (hu : MOk u) : Met l y_M_row w_M_row ({ frames := 2, cells := 0, slots := 0, locals := 45 }) (qPc (dC, dI) vwCl (tM q) (wM q u) sz [Value.ref (ma_o q), Value.int x, Value.int y]) (va_Qi (fun (r : Int32) (z : MSt) => r = M_row u x y ∧ z = m_s_th u 0) (qB (dC, dI) vwCl (tM q) (wM q u) sz (wM q)) (va_A (wM q u) sz)) 0 0 (va_A (wM q u) sz) := by
  refine Met.ofW (cc := b_M_row) (maxL := 5) (ret := (some .int)) (by decide) rfl ?_
  intro p e s m args below meth c s₁ B hml hv
  obtain ⟨rfl, hsz, hP, hK, hD0, hN⟩ := hv
  have hx := B.exec
  have hb := B.bytes
  have hr := B.returns
  have hts := atoms_spec (ws := w_M_row) B.pre
  have hown : s.vm.findClass "SeatProofsModel" = some m.cls := findClass_of_methodNamed B.named
  have hlocks := B.notSynchronized
  subst hsz
  have hD := hD0.self (sz := s.heap.size)
  have hA : ∀ z : Nat, s.heap.size ≤ z → va_A (wM q u) s.heap.size z := fun z h => Or.inr h
  have hS : va_S (va_A (wM q u) s.heap.size) s.heap s.heap [] := va_S.rf
  have hl := lv_entry ([Value.ref (ma_o q), Value.int x, Value.int y]) (n := 5) (Nat.le_of_ble_eq_true rfl)
  rw [lg_entry_eq]
  generalize (lg_sl ([Value.ref (ma_o q), Value.int x, Value.int y]) ++ List.replicate (5 - (lg_sl ([Value.ref (ma_o q), Value.int x, Value.int y])).length) Slot.unset).toArray = ls at hl ⊢
  have hl : lv_has ls 5 [(0, .ref (ma_o q)), (1, .int x), (2, .int y)] := hl
  obtain ⟨k1, k2, k3, k4, k5, k6, k7, k8, k9, k10, k11⟩ := id hu
  refine lv_aload_n hx hb d_M_row_0 rfl (lv_at hl 0 rfl) ?_
  refine lv_iconst (v := nI 0) hx hb d_M_row_1 (by decide) ?_
  refine va_put (D := (dC, dI)) (ci := 4) (v := .int (nI 0)) (ty := .int) (C := "SeatProofsModel") (T := F_M) (N := 20) hx hb hts (iu_M _) t_M t_M_ok n_M hown hK hP hD hS 0 rfl rfl 18 (by decide) (hts _ (List.mem_cons_of_mem _ iw_458)) (fun _ h9 => h9) rfl (by decide +kernel) rfl rfl (Nat.le_of_ble_eq_true rfl) d_M_row_2 (fun H locs hP hD hS => ?_)
  have hP : va_P (dC, dI) vwCl (wM q (m_mk (m_liq u) (m_lev u) (m_nS u) (m_fa u) (m_fb u) (m_seat u) (m_op u) (m_un u) (m_nV u) (m_may u) (m_nR u) (m_rf u) (m_rl u) (m_rw u) (m_rc u) (m_cul u) (m_gu u) (m_te u) 0 (m_wet u))) H := hP
  have hD : va_D (va_A (wM q u) s.heap.size) (wM q (m_mk (m_liq u) (m_lev u) (m_nS u) (m_fa u) (m_fb u) (m_seat u) (m_op u) (m_un u) (m_nV u) (m_may u) (m_nR u) (m_rf u) (m_rl u) (m_rw u) (m_rc u) (m_cul u) (m_gu u) (m_te u) 0 (m_wet u))) := hD
  refine lv_iload_n hx hb d_M_row_5 rfl (lv_at hl 1 rfl) ?_
  refine lv_if_lt (tgt := 21) hx hb d_M_row_6 (by decide) (fun c_1 => ?_) (fun c_1 => ?_)
  · refine lv_iconst (v := (-1)) hx hb d_M_row_21 (by decide) ?_
    exact W.iret hx hb hr (fun t9 ht9 hW9 => ⟨⟨_, (m_mk (m_liq u) (m_lev u) (m_nS u) (m_fa u) (m_fb u) (m_seat u) (m_op u) (m_un u) (m_nV u) (m_may u) (m_nR u) (m_rf u) (m_rl u) (m_rw u) (m_rc u) (m_cul u) (m_gu u) (m_te u) 0 (m_wet u)), rfl, ⟨by rw [M_row, if_pos (Or.inl (ixB_lo c_1))], rfl⟩, by rw [ht9]; exact hP, va_K.moved hW9.alike hK, hD⟩, hS.F ht9⟩) hS.2.2 d_M_row_22
  · refine lv_iload_n hx hb d_M_row_9 rfl (lv_at hl 1 rfl) ?_
    refine lv_aload_n hx hb d_M_row_10 rfl (lv_at hl 0 rfl) ?_
    refine va_get (D := (dC, dI)) (ci := 4) (v := .int (nI (m_nR u))) (C := "SeatProofsModel") (T := F_M) (N := 20) hx hb hts (iu_M _) hown hK hP 0 rfl rfl 10 (by decide) (hts _ (List.mem_cons_of_mem _ iw_450)) (fun _ h9 => h9) rfl d_M_row_11 ?_
    refine lv_icmp_ge (tgt := 21) hx hb d_M_row_14 (by decide) (fun c_2 => ?_) (fun c_2 => ?_)
    · refine lv_iconst (v := (-1)) hx hb d_M_row_21 (by decide) ?_
      exact W.iret hx hb hr (fun t9 ht9 hW9 => ⟨⟨_, (m_mk (m_liq u) (m_lev u) (m_nS u) (m_fa u) (m_fb u) (m_seat u) (m_op u) (m_un u) (m_nV u) (m_may u) (m_nR u) (m_rf u) (m_rl u) (m_rw u) (m_rc u) (m_cul u) (m_gu u) (m_te u) 0 (m_wet u)), rfl, ⟨by rw [M_row, if_pos (Or.inl (ixB_hi c_2))], rfl⟩, by rw [ht9]; exact hP, va_K.moved hW9.alike hK, hD⟩, hS.F ht9⟩) hS.2.2 d_M_row_22
    · have hrx : ixB x (m_nR u) = true := decide_eq_true ⟨c_1, c_2⟩
      obtain ⟨i, hi, rfl⟩ := ixB_of (by show m_nR u < 2 ^ 31; omega) hrx
      have hi : i < m_nR u := hi
      refine lv_iload_n hx hb d_M_row_17 rfl (lv_at hl 2 rfl) ?_
      refine lv_if_ge (tgt := 23) hx hb d_M_row_18 (by decide) (fun c_3 => ?_) (fun c_3 => ?_)
      · have hry : ¬ y < 0 := Int32.not_lt.mpr c_3
        obtain ⟨ym, hym, rfl⟩ := nI_of hry
        refine lv_iload_n hx hb d_M_row_23 rfl (lv_at hl 2 rfl) ?_
        refine lv_iconst (v := nI 4) hx hb d_M_row_24 (by decide) ?_
        refine nv_ge (tgt := 82) hx hb d_M_row_25 (by decide) (by omega) (by omega) (fun c_4 => ?_) (fun c_4 => ?_)
        · refine lv_iload_n hx hb d_M_row_82 rfl (lv_at hl 2 rfl) ?_
          refine lv_iconst (v := nI 4) hx hb d_M_row_83 (by decide) ?_
          refine lv_isub hx hb d_M_row_84 ?_
          refine tp_i (nI (ym - 4)) (pk_sub (by omega)) ?_
          refine lv_istore_n (lv' := [(3, .int (nI (ym - 4))), (0, .ref (ma_o q)), (1, .int (nI i)), (2, .int (nI ym))]) hx hb d_M_row_85 rfl hl (by decide) rfl (fun ls hl => ?_)
          refine lv_iconst (v := nI 0) hx hb d_M_row_86 (by decide) ?_
          refine lv_istore (lv' := [(4, .int (nI 0)), (3, .int (nI (ym - 4))), (0, .ref (ma_o q)), (1, .int (nI i)), (2, .int (nI ym))]) hx hb d_M_row_87 hl (by decide) rfl (fun ls hl => ?_)
          have L89 : ∀ (n89 : Nat) (v : Nat) (t : Nat), (v ≤ m_nV u) → (t + pcn (tb (m_rc u i)) v = ym - 4) → (nthB (tb (m_rc u i)) (ym - 4) v = none) → m_nV u - v < n89 → ∀ (H : Heap) (locs : List Loc) (ls : Array Slot), va_P (dC, dI) vwCl (wM q (m_mk (m_liq u) (m_lev u) (m_nS u) (m_fa u) (m_fb u) (m_seat u) (m_op u) (m_un u) (m_nV u) (m_may u) (m_nR u) (m_rf u) (m_rl u) (m_rw u) (m_rc u) (m_cul u) (m_gu u) (m_te u) 0 (m_wet u))) H → va_D (va_A (wM q u) s.heap.size) (wM q (m_mk (m_liq u) (m_lev u) (m_nS u) (m_fa u) (m_fb u) (m_seat u) (m_op u) (m_un u) (m_nV u) (m_may u) (m_nR u) (m_rf u) (m_rl u) (m_rw u) (m_rc u) (m_cul u) (m_gu u) (m_te u) 0 (m_wet u))) → va_S (va_A (wM q u) s.heap.size) s.heap H locs → lv_has ls 5 [(0, .ref (ma_o q)), (1, .int (nI i)), (3, .int (nI t)), (4, .int (nI v))] → W p l e (headSpec w_M_row ({ frames := 2, cells := 0, slots := 0, locals := 45 })).room s m [Value.ref (ma_o q), Value.int (nI i), Value.int (nI ym)].toArray below meth c H locs 0 0 (MQ below (va_Qi (fun (r : Int32) (z : MSt) => r = M_row u (nI i) (nI ym) ∧ z = m_s_th u 0) (qB (dC, dI) vwCl (tM q) (wM q u) s.heap.size (wM q)) (va_A (wM q u) s.heap.size)) [Value.ref (ma_o q), Value.int (nI i), Value.int (nI ym)].toArray s 0 0 (va_A (wM q u) s.heap.size)) (F0 m 89 ls []) := by
            intro n89
            induction n89 with
            | zero => intro v t hv89 ht89 hn89 hm; exact absurd hm (Nat.not_lt_zero _)
            | succ n89 ih89 =>
              intro v t hv89 ht89 hn89 hm89 H locs ls hP hD hS hl
              refine lv_iload hx hb d_M_row_89 (lv_at hl 3 rfl) ?_
              refine lv_aload_n hx hb d_M_row_91 rfl (lv_at hl 0 rfl) ?_
              refine va_get (D := (dC, dI)) (ci := 4) (v := .int (nI (m_nV u))) (C := "SeatProofsModel") (T := F_M) (N := 20) hx hb hts (iu_M _) hown hK hP 0 rfl rfl 8 (by decide) (hts _ (List.mem_cons_of_mem _ iw_448)) (fun _ h9 => h9) rfl d_M_row_92 ?_
              refine nv_ge (tgt := 128) hx hb d_M_row_95 (by decide) (by omega) (by omega) (fun c_5 => ?_) (fun c_5 => ?_)
              · refine lv_iconst (v := (-1)) hx hb d_M_row_128 (by decide) ?_
                exact W.iret hx hb hr (fun t9 ht9 hW9 => ⟨⟨_, (m_mk (m_liq u) (m_lev u) (m_nS u) (m_fa u) (m_fb u) (m_seat u) (m_op u) (m_un u) (m_nV u) (m_may u) (m_nR u) (m_rf u) (m_rl u) (m_rw u) (m_rc u) (m_cul u) (m_gu u) (m_te u) 0 (m_wet u)), rfl, ⟨by rw [M_row, if_neg (fun h => by rcases h with h | h <;> first | exact absurd (h.symm.trans hrx) (by decide) | exact hry h), nI_clamp (show i < 2 ^ 31 by omega), nI_clamp hym, rowN, if_neg (by omega), if_neg (by omega), if_neg (by omega), if_neg (by omega), show m_nV u = v from by omega, hn89]; rfl, rfl⟩, by rw [ht9]; exact hP, va_K.moved hW9.alike hK, hD⟩, hS.F ht9⟩) hS.2.2 d_M_row_129
              · refine lv_aload_n hx hb d_M_row_98 rfl (lv_at hl 0 rfl) ?_
                refine va_get (D := (dC, dI)) (ci := 4) (v := .ref (ma_rc q)) (C := "SeatProofsModel") (T := F_M) (N := 20) hx hb hts (iu_M _) hown hK hP 0 rfl rfl 14 (by decide) (hts _ (List.mem_cons_of_mem _ iw_454)) (fun _ h9 => h9) rfl d_M_row_99 ?_
                refine lv_iload_n hx hb d_M_row_102 rfl (lv_at hl 1 rfl) ?_
                refine ld_l hx hb hK hP 12 1 rfl rfl (m_rc u i) (by omega) (by decide) rfl d_M_row_103 ?_
                refine lv_iload hx hb d_M_row_104 (lv_at hl 3 rfl) ?_
                refine vp_callSi (va_Run.run (va_runS (As := [.long (m_rc u i), .int (nI v)]) (rest := []) ⟨hx, hb, hml, hown, hts⟩ (c_M_has l (m_rc u i) v (by omega)) (va_cwS 2 hts (good_up (good_S iw_546 iw_547 iw_5 gg_M_has)) rfl rfl rfl (by decide +kernel) ⟨Nat.le_of_ble_eq_true rfl, Nat.le_of_ble_eq_true rfl⟩) (ps_0 [.long (m_rc u i), .int (nI v)] hN) rfl rfl hl.1 rfl (lv_room (Nat.le_of_ble_eq_true rfl)) d_M_row_106 ⟨Nat.le_of_ble_eq_true rfl, Nat.le_of_ble_eq_true rfl⟩)) (fun r_6 hr_6 => ?_)
                subst hr_6
                refine b0_eq (tgt := 122) hx hb d_M_row_109 (by decide) (fun c_7 => ?_) (fun c_7 => ?_)
                · refine lv_iinc (v := nI (v + 1)) (lv' := [(4, .int (nI (v + 1))), (0, .ref (ma_o q)), (1, .int (nI i)), (3, .int (nI t))]) hx hb d_M_row_122 hl (k := 3) rfl (nI_1 _) (by decide) rfl (fun ls hl => ?_)
                  refine lv_goto (tgt := 89) hx hb d_M_row_125 (by decide) ?_
                  exact ih89 (v + 1) t (by omega) (by rw [pcn, c_7]; simp; omega) (nthB_n hn89 (fun h _ => absurd (h.symm.trans c_7) (by decide))) (by omega) _ _ ls hP hD hS (lv_sub hl [1, 2, 3, 0] rfl)
                · refine lv_iload_n hx hb d_M_row_112 rfl (lv_at hl 2 rfl) ?_
                  refine n0_ne (tgt := 119) hx hb d_M_row_113 (by decide) (by omega) (fun c_8 => ?_) (fun c_8 => ?_)
                  · refine lv_iinc (v := nI (t - 1)) (lv' := [(3, .int (nI (t - 1))), (0, .ref (ma_o q)), (1, .int (nI i)), (4, .int (nI v))]) hx hb d_M_row_119 hl (k := 2) rfl (sb_m1 (by omega)) (by decide) rfl (fun ls hl => ?_)
                    refine lv_iinc (v := nI (v + 1)) (lv' := [(4, .int (nI (v + 1))), (3, .int (nI (t - 1))), (0, .ref (ma_o q)), (1, .int (nI i))]) hx hb d_M_row_122 hl (k := 3) rfl (nI_1 _) (by decide) rfl (fun ls hl => ?_)
                    refine lv_goto (tgt := 89) hx hb d_M_row_125 (by decide) ?_
                    exact ih89 (v + 1) (t - 1) (by omega) (by rw [pcn, c_7]; simp; omega) (nthB_n hn89 (fun _ h => by omega)) (by omega) _ _ ls hP hD hS (lv_sub hl [2, 3, 1, 0] rfl)
                  · refine lv_iload hx hb d_M_row_116 (lv_at hl 3 rfl) ?_
                    exact W.iret hx hb hr (fun t9 ht9 hW9 => ⟨⟨_, (m_mk (m_liq u) (m_lev u) (m_nS u) (m_fa u) (m_fb u) (m_seat u) (m_op u) (m_un u) (m_nV u) (m_may u) (m_nR u) (m_rf u) (m_rl u) (m_rw u) (m_rc u) (m_cul u) (m_gu u) (m_te u) 0 (m_wet u)), rfl, ⟨by rw [M_row, if_neg (fun h => by rcases h with h | h <;> first | exact absurd (h.symm.trans hrx) (by decide) | exact hry h), nI_clamp (show i < 2 ^ 31 by omega), nI_clamp hym, rowN, if_neg (by omega), if_neg (by omega), if_neg (by omega), if_neg (by omega), nthB_at hn89 (show v + 1 ≤ m_nV u by omega) c_7 (by omega)]; rfl, rfl⟩, by rw [ht9]; exact hP, va_K.moved hW9.alike hK, hD⟩, hS.F ht9⟩) hS.2.2 d_M_row_118
          exact L89 _ 0 (ym - 4) (Nat.zero_le _) (by simp [pcn]) rfl (Nat.lt_succ_self _) _ _ ls hP hD hS (lv_sub hl [2, 3, 1, 0] rfl)
        · refine lv_iload_n hx hb d_M_row_28 rfl (lv_at hl 2 rfl) ?_
          refine n0_ne (tgt := 41) hx hb d_M_row_29 (by decide) (by omega) (fun c_9 => ?_) (fun c_9 => ?_)
          · refine lv_iload_n hx hb d_M_row_41 rfl (lv_at hl 2 rfl) ?_
            refine lv_iconst (v := nI 1) hx hb d_M_row_42 (by decide) ?_
            refine nv_ne (tgt := 55) hx hb d_M_row_43 (by decide) (by omega) (by omega) (fun c_10 => ?_) (fun c_10 => ?_)
            · refine lv_iload_n hx hb d_M_row_55 rfl (lv_at hl 2 rfl) ?_
              refine lv_iconst (v := nI 2) hx hb d_M_row_56 (by decide) ?_
              refine nv_ne (tgt := 72) hx hb d_M_row_57 (by decide) (by omega) (by omega) (fun c_11 => ?_) (fun c_11 => ?_)
              · refine lv_aload_n hx hb d_M_row_72 rfl (lv_at hl 0 rfl) ?_
                refine va_get (D := (dC, dI)) (ci := 4) (v := .ref (ma_rc q)) (C := "SeatProofsModel") (T := F_M) (N := 20) hx hb hts (iu_M _) hown hK hP 0 rfl rfl 14 (by decide) (hts _ (List.mem_cons_of_mem _ iw_454)) (fun _ h9 => h9) rfl d_M_row_73 ?_
                refine lv_iload_n hx hb d_M_row_76 rfl (lv_at hl 1 rfl) ?_
                refine ld_l hx hb hK hP 12 1 rfl rfl (m_rc u i) (by omega) (by decide) rfl d_M_row_77 ?_
                refine vp_callSi (va_Run.run (va_runS (As := [.long (m_rc u i)]) (rest := []) ⟨hx, hb, hml, hown, hts⟩ (c_M_size l (m_rc u i)) (va_cwS 1 hts (good_up (good_S iw_565 iw_566 iw_5 gg_M_size)) rfl rfl rfl (by decide +kernel) ⟨Nat.le_of_ble_eq_true rfl, Nat.le_of_ble_eq_true rfl⟩) (ps_0 [.long (m_rc u i)] hN) rfl rfl hl.1 rfl (lv_room (Nat.le_of_ble_eq_true rfl)) d_M_row_78 ⟨Nat.le_of_ble_eq_true rfl, Nat.le_of_ble_eq_true rfl⟩)) (fun r_12 hr_12 => ?_)
                subst hr_12
                exact W.iret hx hb hr (fun t9 ht9 hW9 => ⟨⟨_, (m_mk (m_liq u) (m_lev u) (m_nS u) (m_fa u) (m_fb u) (m_seat u) (m_op u) (m_un u) (m_nV u) (m_may u) (m_nR u) (m_rf u) (m_rl u) (m_rw u) (m_rc u) (m_cul u) (m_gu u) (m_te u) 0 (m_wet u)), rfl, ⟨by rw [M_row, if_neg (fun h => by rcases h with h | h <;> first | exact absurd (h.symm.trans hrx) (by decide) | exact hry h), nI_clamp (show i < 2 ^ 31 by omega), nI_clamp hym, rowN, if_neg (by omega), if_neg (by omega), if_neg (by omega), if_pos (by omega)], rfl⟩, by rw [ht9]; exact hP, va_K.moved hW9.alike hK, hD⟩, hS.F ht9⟩) hS.2.2 d_M_row_81
              · refine lv_aload_n hx hb d_M_row_60 rfl (lv_at hl 0 rfl) ?_
                refine va_get (D := (dC, dI)) (ci := 4) (v := .ref (ma_rw q)) (C := "SeatProofsModel") (T := F_M) (N := 20) hx hb hts (iu_M _) hown hK hP 0 rfl rfl 13 (by decide) (hts _ (List.mem_cons_of_mem _ iw_453)) (fun _ h9 => h9) rfl d_M_row_61 ?_
                refine lv_iload_n hx hb d_M_row_64 rfl (lv_at hl 1 rfl) ?_
                refine ld_l hx hb hK hP 11 1 rfl rfl (m_rw u i) (by omega) (by decide) rfl d_M_row_65 ?_
                refine vp_callSi (va_Run.run (va_runS (As := [.long (m_rw u i)]) (rest := []) ⟨hx, hb, hml, hown, hts⟩ (c_M_size l (m_rw u i)) (va_cwS 1 hts (good_up (good_S iw_565 iw_566 iw_5 gg_M_size)) rfl rfl rfl (by decide +kernel) ⟨Nat.le_of_ble_eq_true rfl, Nat.le_of_ble_eq_true rfl⟩) (ps_0 [.long (m_rw u i)] hN) rfl rfl hl.1 rfl (lv_room (Nat.le_of_ble_eq_true rfl)) d_M_row_66 ⟨Nat.le_of_ble_eq_true rfl, Nat.le_of_ble_eq_true rfl⟩)) (fun r_13 hr_13 => ?_)
                subst hr_13
                refine lv_goto (tgt := 81) hx hb d_M_row_69 (by decide) ?_
                exact W.iret hx hb hr (fun t9 ht9 hW9 => ⟨⟨_, (m_mk (m_liq u) (m_lev u) (m_nS u) (m_fa u) (m_fb u) (m_seat u) (m_op u) (m_un u) (m_nV u) (m_may u) (m_nR u) (m_rf u) (m_rl u) (m_rw u) (m_rc u) (m_cul u) (m_gu u) (m_te u) 0 (m_wet u)), rfl, ⟨by rw [M_row, if_neg (fun h => by rcases h with h | h <;> first | exact absurd (h.symm.trans hrx) (by decide) | exact hry h), nI_clamp (show i < 2 ^ 31 by omega), nI_clamp hym, rowN, if_neg (by omega), if_neg (by omega), if_pos c_11], rfl⟩, by rw [ht9]; exact hP, va_K.moved hW9.alike hK, hD⟩, hS.F ht9⟩) hS.2.2 d_M_row_81
            · refine lv_aload_n hx hb d_M_row_46 rfl (lv_at hl 0 rfl) ?_
              refine va_get (D := (dC, dI)) (ci := 4) (v := .ref (ma_rl q)) (C := "SeatProofsModel") (T := F_M) (N := 20) hx hb hts (iu_M _) hown hK hP 0 rfl rfl 12 (by decide) (hts _ (List.mem_cons_of_mem _ iw_452)) (fun _ h9 => h9) rfl d_M_row_47 ?_
              refine lv_iload_n hx hb d_M_row_50 rfl (lv_at hl 1 rfl) ?_
              refine ld_i hx hb hK hP 10 0 rfl rfl (nI (m_rl u i)) (by omega) (by decide) rfl d_M_row_51 ?_
              refine lv_goto (tgt := 81) hx hb d_M_row_52 (by decide) ?_
              exact W.iret hx hb hr (fun t9 ht9 hW9 => ⟨⟨_, (m_mk (m_liq u) (m_lev u) (m_nS u) (m_fa u) (m_fb u) (m_seat u) (m_op u) (m_un u) (m_nV u) (m_may u) (m_nR u) (m_rf u) (m_rl u) (m_rw u) (m_rc u) (m_cul u) (m_gu u) (m_te u) 0 (m_wet u)), rfl, ⟨by rw [M_row, if_neg (fun h => by rcases h with h | h <;> first | exact absurd (h.symm.trans hrx) (by decide) | exact hry h), nI_clamp (show i < 2 ^ 31 by omega), nI_clamp hym, rowN, if_neg (by omega), if_pos c_10], rfl⟩, by rw [ht9]; exact hP, va_K.moved hW9.alike hK, hD⟩, hS.F ht9⟩) hS.2.2 d_M_row_81
          · refine lv_aload_n hx hb d_M_row_32 rfl (lv_at hl 0 rfl) ?_
            refine va_get (D := (dC, dI)) (ci := 4) (v := .ref (ma_rf q)) (C := "SeatProofsModel") (T := F_M) (N := 20) hx hb hts (iu_M _) hown hK hP 0 rfl rfl 11 (by decide) (hts _ (List.mem_cons_of_mem _ iw_451)) (fun _ h9 => h9) rfl d_M_row_33 ?_
            refine lv_iload_n hx hb d_M_row_36 rfl (lv_at hl 1 rfl) ?_
            refine ld_i hx hb hK hP 9 0 rfl rfl (nI (m_rf u i)) (by omega) (by decide) rfl d_M_row_37 ?_
            refine lv_goto (tgt := 81) hx hb d_M_row_38 (by decide) ?_
            exact W.iret hx hb hr (fun t9 ht9 hW9 => ⟨⟨_, (m_mk (m_liq u) (m_lev u) (m_nS u) (m_fa u) (m_fb u) (m_seat u) (m_op u) (m_un u) (m_nV u) (m_may u) (m_nR u) (m_rf u) (m_rl u) (m_rw u) (m_rc u) (m_cul u) (m_gu u) (m_te u) 0 (m_wet u)), rfl, ⟨by rw [M_row, if_neg (fun h => by rcases h with h | h <;> first | exact absurd (h.symm.trans hrx) (by decide) | exact hry h), nI_clamp (show i < 2 ^ 31 by omega), nI_clamp hym, rowN, if_pos c_9], rfl⟩, by rw [ht9]; exact hP, va_K.moved hW9.alike hK, hD⟩, hS.F ht9⟩) hS.2.2 d_M_row_81
      · refine lv_iconst (v := (-1)) hx hb d_M_row_21 (by decide) ?_
        exact W.iret hx hb hr (fun t9 ht9 hW9 => ⟨⟨_, (m_mk (m_liq u) (m_lev u) (m_nS u) (m_fa u) (m_fb u) (m_seat u) (m_op u) (m_un u) (m_nV u) (m_may u) (m_nR u) (m_rf u) (m_rl u) (m_rw u) (m_rc u) (m_cul u) (m_gu u) (m_te u) 0 (m_wet u)), rfl, ⟨by rw [M_row, if_pos (Or.inr (Int32.not_le.mp c_3))], rfl⟩, by rw [ht9]; exact hP, va_K.moved hW9.alike hK, hD⟩, hS.F ht9⟩) hS.2.2 d_M_row_22
end
section
set_option maxHeartbeats 4000000 in
set_option maxRecDepth 100000 in
theorem c_M_flood (l : Launch) (dC : Nat → ClassId) (dI : Nat → Nat → Nat) (q : MA) (u : MSt) (sz : Nat) (a f : Nat) (hu : MOk u) (ha : a < 16) (hf : f < 65) : Met l y_M_flood w_M_flood ({ frames := 1, cells := 0, slots := 0, locals := 23 }) (qPc (dC, dI) vwCl (tM q) (wM q u) sz [Value.ref (ma_o q), Value.int (nI a), Value.int (nI f)]) (va_Ql (fun (r : Int64) (z : MSt) => ∃ w, z = m_s_wet u w ∧ r = mF u a f) (qB (dC, dI) vwCl (tM q) (wM q u) sz (wM q)) (va_A (wM q u) sz)) 0 0 (va_A (wM q u) sz) := by
  refine Met.ofW (cc := b_M_flood) (maxL := 9) (ret := (some .long)) (by decide) rfl ?_
  intro p e s m args below meth c s₁ B hml hv
  obtain ⟨rfl, hsz, hP, hK, hD0, hN⟩ := hv
  have hx := B.exec
  have hb := B.bytes
  have hr := B.returns
  have hts := atoms_spec (ws := w_M_flood) B.pre
  have hown : s.vm.findClass "SeatProofsModel" = some m.cls := findClass_of_methodNamed B.named
  have hlocks := B.notSynchronized
  subst hsz
  have hD := hD0.self (sz := s.heap.size)
  have hA : ∀ z : Nat, s.heap.size ≤ z → va_A (wM q u) s.heap.size z := fun z h => Or.inr h
  have hS : va_S (va_A (wM q u) s.heap.size) s.heap s.heap [] := va_S.rf
  have hl := lv_entry ([Value.ref (ma_o q), Value.int (nI a), Value.int (nI f)]) (n := 9) (Nat.le_of_ble_eq_true rfl)
  rw [lg_entry_eq]
  generalize (lg_sl ([Value.ref (ma_o q), Value.int (nI a), Value.int (nI f)]) ++ List.replicate (9 - (lg_sl ([Value.ref (ma_o q), Value.int (nI a), Value.int (nI f)])).length) Slot.unset).toArray = ls at hl ⊢
  have hl : lv_has ls 9 [(0, .ref (ma_o q)), (1, .int (nI a)), (2, .int (nI f))] := hl
  obtain ⟨k1, k2, k3, k4, k5, k6, k7, k8, k9, k10, k11⟩ := id hu
  refine lv_iconst (v := nI 0) hx hb d_M_flood_0 (by decide) ?_
  refine lv_istore_n (lv' := [(3, .int (nI 0)), (0, .ref (ma_o q)), (1, .int (nI a)), (2, .int (nI f))]) hx hb d_M_flood_1 rfl hl (by decide) rfl (fun ls hl => ?_)
  have L2 : ∀ (n2 : Nat) (i : Nat) (w2 : Nat → Bool), (i ≤ m_nS u) → (∀ t, t < i → w2 t = decide (m_liq u t = a)) → m_nS u - i < n2 → ∀ (H : Heap) (locs : List Loc) (ls : Array Slot), va_P (dC, dI) vwCl (wM q (m_mk (m_liq u) (m_lev u) (m_nS u) (m_fa u) (m_fb u) (m_seat u) (m_op u) (m_un u) (m_nV u) (m_may u) (m_nR u) (m_rf u) (m_rl u) (m_rw u) (m_rc u) (m_cul u) (m_gu u) (m_te u) (m_th u) w2)) H → va_D (va_A (wM q u) s.heap.size) (wM q (m_mk (m_liq u) (m_lev u) (m_nS u) (m_fa u) (m_fb u) (m_seat u) (m_op u) (m_un u) (m_nV u) (m_may u) (m_nR u) (m_rf u) (m_rl u) (m_rw u) (m_rc u) (m_cul u) (m_gu u) (m_te u) (m_th u) w2)) → va_S (va_A (wM q u) s.heap.size) s.heap H locs → lv_has ls 9 [(0, .ref (ma_o q)), (1, .int (nI a)), (2, .int (nI f)), (3, .int (nI i))] → W p l e (headSpec w_M_flood ({ frames := 1, cells := 0, slots := 0, locals := 23 })).room s m [Value.ref (ma_o q), Value.int (nI a), Value.int (nI f)].toArray below meth c H locs 0 0 (MQ below (va_Ql (fun (r : Int64) (z : MSt) => ∃ w, z = m_s_wet u w ∧ r = mF u a f) (qB (dC, dI) vwCl (tM q) (wM q u) s.heap.size (wM q)) (va_A (wM q u) s.heap.size)) [Value.ref (ma_o q), Value.int (nI a), Value.int (nI f)].toArray s 0 0 (va_A (wM q u) s.heap.size)) (F0 m 2 ls []) := by
    intro n2
    induction n2 with
    | zero => intro i w2 hi2 hw2 hm; exact absurd hm (Nat.not_lt_zero _)
    | succ n2 ih2 =>
      intro i w2 hi2 hw2 hm2 H locs ls hP hD hS hl
      refine lv_iload_n hx hb d_M_flood_2 rfl (lv_at hl 3 rfl) ?_
      refine lv_aload_n hx hb d_M_flood_3 rfl (lv_at hl 0 rfl) ?_
      refine va_get (D := (dC, dI)) (ci := 4) (v := .int (nI (m_nS u))) (C := "SeatProofsModel") (T := F_M) (N := 20) hx hb hts (iu_M _) hown hK hP 0 rfl rfl 2 (by decide) (hts _ (List.mem_cons_of_mem _ iw_442)) (fun _ h9 => h9) rfl d_M_flood_4 ?_
      refine nv_ge (tgt := 37) hx hb d_M_flood_7 (by decide) (by omega) (by omega) (fun c_1 => ?_) (fun c_1 => ?_)
      · refine lv_iconst (v := nI 1) hx hb d_M_flood_37 (by decide) ?_
        refine lv_istore_n (lv' := [(3, .int (nI 1)), (0, .ref (ma_o q)), (1, .int (nI a)), (2, .int (nI f))]) hx hb d_M_flood_38 rfl hl (by decide) rfl (fun ls hl => ?_)
        have L39 : ∀ (n39 : Nat) (w39 : Nat → Bool) (mo : Bool), (FI u a f w39) → (mo = false → FC u f w39 (m_nV u)) → 2 * dry w39 (m_nS u) + (if mo = true then 1 else 0) < n39 → ∀ (H : Heap) (locs : List Loc) (ls : Array Slot), va_P (dC, dI) vwCl (wM q (m_mk (m_liq u) (m_lev u) (m_nS u) (m_fa u) (m_fb u) (m_seat u) (m_op u) (m_un u) (m_nV u) (m_may u) (m_nR u) (m_rf u) (m_rl u) (m_rw u) (m_rc u) (m_cul u) (m_gu u) (m_te u) (m_th u) w39)) H → va_D (va_A (wM q u) s.heap.size) (wM q (m_mk (m_liq u) (m_lev u) (m_nS u) (m_fa u) (m_fb u) (m_seat u) (m_op u) (m_un u) (m_nV u) (m_may u) (m_nR u) (m_rf u) (m_rl u) (m_rw u) (m_rc u) (m_cul u) (m_gu u) (m_te u) (m_th u) w39)) → va_S (va_A (wM q u) s.heap.size) s.heap H locs → lv_has ls 9 [(0, .ref (ma_o q)), (1, .int (nI a)), (2, .int (nI f)), (3, .int (bI mo))] → W p l e (headSpec w_M_flood ({ frames := 1, cells := 0, slots := 0, locals := 23 })).room s m [Value.ref (ma_o q), Value.int (nI a), Value.int (nI f)].toArray below meth c H locs 0 0 (MQ below (va_Ql (fun (r : Int64) (z : MSt) => ∃ w, z = m_s_wet u w ∧ r = mF u a f) (qB (dC, dI) vwCl (tM q) (wM q u) s.heap.size (wM q)) (va_A (wM q u) s.heap.size)) [Value.ref (ma_o q), Value.int (nI a), Value.int (nI f)].toArray s 0 0 (va_A (wM q u) s.heap.size)) (F0 m 39 ls []) := by
          intro n39
          induction n39 with
          | zero => intro w39 mo hI39 hC39 hm; exact absurd hm (Nat.not_lt_zero _)
          | succ n39 ih39 =>
            intro w39 mo hI39 hC39 hm39 H locs ls hP hD hS hl
            refine lv_iload_n hx hb d_M_flood_39 rfl (lv_at hl 3 rfl) ?_
            refine b0_eq (tgt := 177) hx hb d_M_flood_40 (by decide) (fun c_2 => ?_) (fun c_2 => ?_)
            · refine lv_lconst (v := 0) hx hb d_M_flood_177 (by decide) ?_
              refine lv_lstore (lv' := [(4, .long 0), (0, .ref (ma_o q)), (1, .int (nI a)), (2, .int (nI f)), (3, .int (bI mo))]) hx hb d_M_flood_178 hl (by decide) rfl (fun ls hl => ?_)
              refine lv_iconst (v := nI 0) hx hb d_M_flood_180 (by decide) ?_
              refine lv_istore (lv' := [(6, .int (nI 0)), (4, .long 0), (0, .ref (ma_o q)), (1, .int (nI a)), (2, .int (nI f)), (3, .int (bI mo))]) hx hb d_M_flood_181 hl (by decide) rfl (fun ls hl => ?_)
              have L183 : ∀ (n183 : Nat) (i : Nat) (x : Int64), (i ≤ m_nS u) → (∀ j, tb x j = (decide (j < i) && w39 j)) → m_nS u - i < n183 → ∀ (H : Heap) (locs : List Loc) (ls : Array Slot), va_P (dC, dI) vwCl (wM q (m_mk (m_liq u) (m_lev u) (m_nS u) (m_fa u) (m_fb u) (m_seat u) (m_op u) (m_un u) (m_nV u) (m_may u) (m_nR u) (m_rf u) (m_rl u) (m_rw u) (m_rc u) (m_cul u) (m_gu u) (m_te u) (m_th u) w39)) H → va_D (va_A (wM q u) s.heap.size) (wM q (m_mk (m_liq u) (m_lev u) (m_nS u) (m_fa u) (m_fb u) (m_seat u) (m_op u) (m_un u) (m_nV u) (m_may u) (m_nR u) (m_rf u) (m_rl u) (m_rw u) (m_rc u) (m_cul u) (m_gu u) (m_te u) (m_th u) w39)) → va_S (va_A (wM q u) s.heap.size) s.heap H locs → lv_has ls 9 [(0, .ref (ma_o q)), (4, .long x), (6, .int (nI i))] → W p l e (headSpec w_M_flood ({ frames := 1, cells := 0, slots := 0, locals := 23 })).room s m [Value.ref (ma_o q), Value.int (nI a), Value.int (nI f)].toArray below meth c H locs 0 0 (MQ below (va_Ql (fun (r : Int64) (z : MSt) => ∃ w, z = m_s_wet u w ∧ r = mF u a f) (qB (dC, dI) vwCl (tM q) (wM q u) s.heap.size (wM q)) (va_A (wM q u) s.heap.size)) [Value.ref (ma_o q), Value.int (nI a), Value.int (nI f)].toArray s 0 0 (va_A (wM q u) s.heap.size)) (F0 m 183 ls []) := by
                intro n183
                induction n183 with
                | zero => intro i x hi183 hx183 hm; exact absurd hm (Nat.not_lt_zero _)
                | succ n183 ih183 =>
                  intro i x hi183 hx183 hm183 H locs ls hP hD hS hl
                  refine lv_iload hx hb d_M_flood_183 (lv_at hl 2 rfl) ?_
                  refine lv_aload_n hx hb d_M_flood_185 rfl (lv_at hl 0 rfl) ?_
                  refine va_get (D := (dC, dI)) (ci := 4) (v := .int (nI (m_nS u))) (C := "SeatProofsModel") (T := F_M) (N := 20) hx hb hts (iu_M _) hown hK hP 0 rfl rfl 2 (by decide) (hts _ (List.mem_cons_of_mem _ iw_442)) (fun _ h9 => h9) rfl d_M_flood_186 ?_
                  refine nv_ge (tgt := 222) hx hb d_M_flood_189 (by decide) (by omega) (by omega) (fun c_3 => ?_) (fun c_3 => ?_)
                  · refine lv_lload hx hb d_M_flood_222 (lv_at hl 1 rfl) ?_
                    exact W.lret hx hb hr (fun t9 ht9 hW9 => ⟨⟨_, (m_mk (m_liq u) (m_lev u) (m_nS u) (m_fa u) (m_fb u) (m_seat u) (m_op u) (m_un u) (m_nV u) (m_may u) (m_nR u) (m_rf u) (m_rl u) (m_rw u) (m_rc u) (m_cul u) (m_gu u) (m_te u) (m_th u) w39), rfl, ⟨w39, rfl, FI_end hu hI39 (hC39 c_2) (fun j => by rw [hx183 j, show i = m_nS u from by omega])⟩, by rw [ht9]; exact hP, va_K.moved hW9.alike hK, hD⟩, hS.F ht9⟩) hS.2.2 d_M_flood_224
                  · refine lv_aload_n hx hb d_M_flood_192 rfl (lv_at hl 0 rfl) ?_
                    refine va_get (D := (dC, dI)) (ci := 4) (v := .ref (ma_wet q)) (C := "SeatProofsModel") (T := F_M) (N := 20) hx hb hts (iu_M _) hown hK hP 0 rfl rfl 19 (by decide) (hts _ (List.mem_cons_of_mem _ iw_459)) (fun _ h9 => h9) rfl d_M_flood_193 ?_
                    refine lv_iload hx hb d_M_flood_196 (lv_at hl 2 rfl) ?_
                    refine ld_z hx hb hK hP 14 2 rfl rfl (bI (w39 i)) (by omega) (by decide) rfl d_M_flood_198 ?_
                    refine b0_eq (tgt := 212) hx hb d_M_flood_199 (by decide) (fun c_4 => ?_) (fun c_4 => ?_)
                    · refine lv_lload hx hb d_M_flood_212 (lv_at hl 1 rfl) ?_
                      refine lv_lstore (lv' := [(4, .long x), (0, .ref (ma_o q)), (6, .int (nI i))]) hx hb d_M_flood_214 hl (by decide) rfl (fun ls hl => ?_)
                      refine lv_iinc (v := nI (i + 1)) (lv' := [(6, .int (nI (i + 1))), (4, .long x), (0, .ref (ma_o q))]) hx hb d_M_flood_216 hl (k := 2) rfl (nI_1 _) (by decide) rfl (fun ls hl => ?_)
                      refine lv_goto (tgt := 183) hx hb d_M_flood_219 (by decide) ?_
                      exact ih183 (i + 1) x (by omega) (bits_f hx183 c_4) (by omega) _ _ ls hP hD hS (lv_sub hl [2, 1, 0] rfl)
                    · refine lv_lload hx hb d_M_flood_202 (lv_at hl 1 rfl) ?_
                      refine lv_lconst (v := 1) hx hb d_M_flood_204 (by decide) ?_
                      refine lv_iload hx hb d_M_flood_205 (lv_at hl 2 rfl) ?_
                      refine lv_lshl (v := 1 <<< ((nI i).toInt64 &&& 63)) hx hb d_M_flood_207 rfl ?_
                      refine tp_l (bt i) rfl ?_
                      refine lv_lor hx hb d_M_flood_208 ?_
                      refine lv_goto (tgt := 214) hx hb d_M_flood_209 (by decide) ?_
                      refine lv_lstore (lv' := [(4, .long (x ||| (bt i))), (0, .ref (ma_o q)), (6, .int (nI i))]) hx hb d_M_flood_214 hl (by decide) rfl (fun ls hl => ?_)
                      refine lv_iinc (v := nI (i + 1)) (lv' := [(6, .int (nI (i + 1))), (4, .long (x ||| (bt i))), (0, .ref (ma_o q))]) hx hb d_M_flood_216 hl (k := 2) rfl (nI_1 _) (by decide) rfl (fun ls hl => ?_)
                      refine lv_goto (tgt := 183) hx hb d_M_flood_219 (by decide) ?_
                      exact ih183 (i + 1) (x ||| (bt i)) (by omega) (bits_t hx183 (by omega) c_4) (by omega) _ _ ls hP hD hS (lv_sub hl [2, 1, 0] rfl)
              exact L183 _ 0 0 (Nat.zero_le _) bits_0 (Nat.lt_succ_self _) _ _ ls hP hD hS (lv_sub hl [2, 1, 0] rfl)
            · refine lv_iconst (v := nI 0) hx hb d_M_flood_43 (by decide) ?_
              refine lv_istore_n (lv' := [(3, .int (nI 0)), (0, .ref (ma_o q)), (1, .int (nI a)), (2, .int (nI f))]) hx hb d_M_flood_44 rfl hl (by decide) rfl (fun ls hl => ?_)
              refine lv_iconst (v := nI 0) hx hb d_M_flood_45 (by decide) ?_
              refine lv_istore (lv' := [(4, .int (nI 0)), (3, .int (nI 0)), (0, .ref (ma_o q)), (1, .int (nI a)), (2, .int (nI f))]) hx hb d_M_flood_46 hl (by decide) rfl (fun ls hl => ?_)
              have L48 : ∀ (n48 : Nat) (v : Nat) (w48 : Nat → Bool) (mo2 : Bool), (v ≤ m_nV u) → (FI u a f w48) → (mo2 = false → FC u f w48 v) → ((mo2 = true → dry w48 (m_nS u) < dry w39 (m_nS u)) ∧ dry w48 (m_nS u) ≤ dry w39 (m_nS u)) → m_nV u - v < n48 → ∀ (H : Heap) (locs : List Loc) (ls : Array Slot), va_P (dC, dI) vwCl (wM q (m_mk (m_liq u) (m_lev u) (m_nS u) (m_fa u) (m_fb u) (m_seat u) (m_op u) (m_un u) (m_nV u) (m_may u) (m_nR u) (m_rf u) (m_rl u) (m_rw u) (m_rc u) (m_cul u) (m_gu u) (m_te u) (m_th u) w48)) H → va_D (va_A (wM q u) s.heap.size) (wM q (m_mk (m_liq u) (m_lev u) (m_nS u) (m_fa u) (m_fb u) (m_seat u) (m_op u) (m_un u) (m_nV u) (m_may u) (m_nR u) (m_rf u) (m_rl u) (m_rw u) (m_rc u) (m_cul u) (m_gu u) (m_te u) (m_th u) w48)) → va_S (va_A (wM q u) s.heap.size) s.heap H locs → lv_has ls 9 [(0, .ref (ma_o q)), (1, .int (nI a)), (2, .int (nI f)), (3, .int (bI mo2)), (4, .int (nI v))] → W p l e (headSpec w_M_flood ({ frames := 1, cells := 0, slots := 0, locals := 23 })).room s m [Value.ref (ma_o q), Value.int (nI a), Value.int (nI f)].toArray below meth c H locs 0 0 (MQ below (va_Ql (fun (r : Int64) (z : MSt) => ∃ w, z = m_s_wet u w ∧ r = mF u a f) (qB (dC, dI) vwCl (tM q) (wM q u) s.heap.size (wM q)) (va_A (wM q u) s.heap.size)) [Value.ref (ma_o q), Value.int (nI a), Value.int (nI f)].toArray s 0 0 (va_A (wM q u) s.heap.size)) (F0 m 48 ls []) := by
                intro n48
                induction n48 with
                | zero => intro v w48 mo2 hv48 hI48 hC48 hD48 hm; exact absurd hm (Nat.not_lt_zero _)
                | succ n48 ih48 =>
                  intro v w48 mo2 hv48 hI48 hC48 hD48 hm48 H locs ls hP hD hS hl
                  refine lv_iload hx hb d_M_flood_48 (lv_at hl 4 rfl) ?_
                  refine lv_aload_n hx hb d_M_flood_50 rfl (lv_at hl 0 rfl) ?_
                  refine va_get (D := (dC, dI)) (ci := 4) (v := .int (nI (m_nV u))) (C := "SeatProofsModel") (T := F_M) (N := 20) hx hb hts (iu_M _) hown hK hP 0 rfl rfl 8 (by decide) (hts _ (List.mem_cons_of_mem _ iw_448)) (fun _ h9 => h9) rfl d_M_flood_51 ?_
                  refine nv_ge (tgt := 174) hx hb d_M_flood_54 (by decide) (by omega) (by omega) (fun c_5 => ?_) (fun c_5 => ?_)
                  · refine lv_goto (tgt := 39) hx hb d_M_flood_174 (by decide) ?_
                    exact ih39 w48 mo2 hI48 (fun h => by rw [show m_nV u = v from by omega]; exact hC48 h) (dry_39 hD48 c_2 hm39) _ _ ls hP hD hS (lv_sub hl [0, 1, 2, 3] rfl)
                  · refine lv_aload_n hx hb d_M_flood_57 rfl (lv_at hl 0 rfl) ?_
                    refine va_get (D := (dC, dI)) (ci := 4) (v := .ref (ma_fa q)) (C := "SeatProofsModel") (T := F_M) (N := 20) hx hb hts (iu_M _) hown hK hP 0 rfl rfl 3 (by decide) (hts _ (List.mem_cons_of_mem _ iw_443)) (fun _ h9 => h9) rfl d_M_flood_58 ?_
                    refine lv_iload hx hb d_M_flood_61 (lv_at hl 4 rfl) ?_
                    refine ld_i hx hb hK hP 3 0 rfl rfl (nI (m_fa u v)) (by omega) (by decide) rfl d_M_flood_63 ?_
                    refine lv_istore (lv' := [(5, .int (nI (m_fa u v))), (0, .ref (ma_o q)), (1, .int (nI a)), (2, .int (nI f)), (3, .int (bI mo2)), (4, .int (nI v))]) hx hb d_M_flood_64 hl (by decide) rfl (fun ls hl => ?_)
                    refine lv_aload_n hx hb d_M_flood_66 rfl (lv_at hl 1 rfl) ?_
                    refine va_get (D := (dC, dI)) (ci := 4) (v := .ref (ma_fb q)) (C := "SeatProofsModel") (T := F_M) (N := 20) hx hb hts (iu_M _) hown hK hP 0 rfl rfl 4 (by decide) (hts _ (List.mem_cons_of_mem _ iw_444)) (fun _ h9 => h9) rfl d_M_flood_67 ?_
                    refine lv_iload hx hb d_M_flood_70 (lv_at hl 5 rfl) ?_
                    refine ld_i hx hb hK hP 4 0 rfl rfl (nI (m_fb u v)) (by omega) (by decide) rfl d_M_flood_72 ?_
                    refine lv_istore (lv' := [(6, .int (nI (m_fb u v))), (5, .int (nI (m_fa u v))), (0, .ref (ma_o q)), (1, .int (nI a)), (2, .int (nI f)), (3, .int (bI mo2)), (4, .int (nI v))]) hx hb d_M_flood_73 hl (by decide) rfl (fun ls hl => ?_)
                    refine lv_aload_n hx hb d_M_flood_75 rfl (lv_at hl 2 rfl) ?_
                    refine lv_iload hx hb d_M_flood_76 (lv_at hl 6 rfl) ?_
                    refine lv_iload_n hx hb d_M_flood_78 rfl (lv_at hl 4 rfl) ?_
                    refine vp_callSi (va_Run.run (va_runV (As := [.int (nI v), .int (nI f)]) (rest := []) ⟨hx, hb, hml, hown, hts⟩ (c_M_lets l dC dI q (m_mk (m_liq u) (m_lev u) (m_nS u) (m_fa u) (m_fb u) (m_seat u) (m_op u) (m_un u) (m_nV u) (m_may u) (m_nR u) (m_rf u) (m_rl u) (m_rw u) (m_rc u) (m_cul u) (m_gu u) (m_te u) (m_th u) w48) v f hu (by omega) (by omega)) (cwV 2 hts (good_up (good_V iw_538 iw_540 ip_12 iw_5 gg_M_lets)) rfl rfl rfl (by decide +kernel) ⟨Nat.le_of_ble_eq_true rfl, Nat.le_of_ble_eq_true rfl⟩) (pv_S [.int (nI v), .int (nI f)] hN hK hP (ci := 4) (q0 := 0) rfl rfl) rfl rfl hl.1 rfl (lv_room (Nat.le_of_ble_eq_true rfl)) d_M_flood_79 ⟨Nat.le_of_ble_eq_true rfl, Nat.le_of_ble_eq_true rfl⟩)) (fun r_6 hr_6 => ?_)
                    subst hr_6
                    refine b0_eq (tgt := 168) hx hb d_M_flood_82 (by decide) (fun c_7 => ?_) (fun c_7 => ?_)
                    · have c_7 : mlets u v f = false := c_7
                      refine lv_iinc (v := nI (v + 1)) (lv' := [(4, .int (nI (v + 1))), (6, .int (nI (m_fb u v))), (5, .int (nI (m_fa u v))), (0, .ref (ma_o q)), (1, .int (nI a)), (2, .int (nI f)), (3, .int (bI mo2))]) hx hb d_M_flood_168 hl (k := 6) rfl (nI_1 _) (by decide) rfl (fun ls hl => ?_)
                      refine lv_goto (tgt := 48) hx hb d_M_flood_171 (by decide) ?_
                      exact ih48 (v + 1) w48 mo2 (by omega) hI48 (fun h => FC_s (hC48 h) (fun q => absurd (q.symm.trans c_7) (by decide))) hD48 (by omega) _ _ ls hP hD hS (lv_sub hl [3, 4, 5, 6, 0] rfl)
                    · have c_7 : mlets u v f = true := c_7
                      refine lv_aload_n hx hb d_M_flood_85 rfl (lv_at hl 2 rfl) ?_
                      refine va_get (D := (dC, dI)) (ci := 4) (v := .ref (ma_wet q)) (C := "SeatProofsModel") (T := F_M) (N := 20) hx hb hts (iu_M _) hown hK hP 0 rfl rfl 19 (by decide) (hts _ (List.mem_cons_of_mem _ iw_459)) (fun _ h9 => h9) rfl d_M_flood_86 ?_
                      refine lv_iload hx hb d_M_flood_89 (lv_at hl 1 rfl) ?_
                      refine ld_z hx hb hK hP 14 2 rfl rfl (bI (w48 (m_fa u v))) (k5 _) (by decide) rfl d_M_flood_91 ?_
                      refine lv_aload_n hx hb d_M_flood_92 rfl (lv_at hl 2 rfl) ?_
                      refine va_get (D := (dC, dI)) (ci := 4) (v := .ref (ma_wet q)) (C := "SeatProofsModel") (T := F_M) (N := 20) hx hb hts (iu_M _) hown hK hP 0 rfl rfl 19 (by decide) (hts _ (List.mem_cons_of_mem _ iw_459)) (fun _ h9 => h9) rfl d_M_flood_93 ?_
                      refine lv_iload hx hb d_M_flood_96 (lv_at hl 0 rfl) ?_
                      refine ld_z hx hb hK hP 14 2 rfl rfl (bI (w48 (m_fb u v))) (k6 _) (by decide) rfl d_M_flood_98 ?_
                      refine bv_eq (tgt := 168) hx hb d_M_flood_99 (by decide) (fun c_8 => ?_) (fun c_8 => ?_)
                      · refine lv_iinc (v := nI (v + 1)) (lv' := [(4, .int (nI (v + 1))), (6, .int (nI (m_fb u v))), (5, .int (nI (m_fa u v))), (0, .ref (ma_o q)), (1, .int (nI a)), (2, .int (nI f)), (3, .int (bI mo2))]) hx hb d_M_flood_168 hl (k := 6) rfl (nI_1 _) (by decide) rfl (fun ls hl => ?_)
                        refine lv_goto (tgt := 48) hx hb d_M_flood_171 (by decide) ?_
                        exact ih48 (v + 1) w48 mo2 (by omega) hI48 (fun h => FC_s (hC48 h) (fun _ => ⟨fun q _ => (c_8).symm.trans q, fun q _ => (c_8).trans q⟩)) hD48 (by omega) _ _ ls hP hD hS (lv_sub hl [3, 4, 5, 6, 0] rfl)
                      · refine lv_aload_n hx hb d_M_flood_102 rfl (lv_at hl 2 rfl) ?_
                        refine va_get (D := (dC, dI)) (ci := 4) (v := .ref (ma_wet q)) (C := "SeatProofsModel") (T := F_M) (N := 20) hx hb hts (iu_M _) hown hK hP 0 rfl rfl 19 (by decide) (hts _ (List.mem_cons_of_mem _ iw_459)) (fun _ h9 => h9) rfl d_M_flood_103 ?_
                        refine lv_iload hx hb d_M_flood_106 (lv_at hl 1 rfl) ?_
                        refine ld_z hx hb hK hP 14 2 rfl rfl (bI (w48 (m_fa u v))) (k5 _) (by decide) rfl d_M_flood_108 ?_
                        refine b0_eq (tgt := 117) hx hb d_M_flood_109 (by decide) (fun c_9 => ?_) (fun c_9 => ?_)
                        · refine lv_iload hx hb d_M_flood_117 (lv_at hl 0 rfl) ?_
                          refine lv_istore (lv' := [(7, .int (nI (m_fb u v))), (6, .int (nI (m_fb u v))), (5, .int (nI (m_fa u v))), (0, .ref (ma_o q)), (1, .int (nI a)), (2, .int (nI f)), (3, .int (bI mo2)), (4, .int (nI v))]) hx hb d_M_flood_119 hl (by decide) rfl (fun ls hl => ?_)
                          refine lv_aload_n hx hb d_M_flood_121 rfl (lv_at hl 3 rfl) ?_
                          refine va_get (D := (dC, dI)) (ci := 4) (v := .ref (ma_wet q)) (C := "SeatProofsModel") (T := F_M) (N := 20) hx hb hts (iu_M _) hown hK hP 0 rfl rfl 19 (by decide) (hts _ (List.mem_cons_of_mem _ iw_459)) (fun _ h9 => h9) rfl d_M_flood_122 ?_
                          refine lv_iload hx hb d_M_flood_125 (lv_at hl 2 rfl) ?_
                          refine ld_z hx hb hK hP 14 2 rfl rfl (bI (w48 (m_fa u v))) (k5 _) (by decide) rfl d_M_flood_127 ?_
                          refine b0_eq (tgt := 136) hx hb d_M_flood_128 (by decide) (fun c_10 => ?_) (fun c_10 => ?_)
                          · refine lv_iload hx hb d_M_flood_136 (lv_at hl 2 rfl) ?_
                            refine lv_istore (lv' := [(8, .int (nI (m_fa u v))), (7, .int (nI (m_fb u v))), (6, .int (nI (m_fb u v))), (5, .int (nI (m_fa u v))), (0, .ref (ma_o q)), (1, .int (nI a)), (2, .int (nI f)), (3, .int (bI mo2)), (4, .int (nI v))]) hx hb d_M_flood_138 hl (by decide) rfl (fun ls hl => ?_)
                            refine lv_aload_n hx hb d_M_flood_140 rfl (lv_at hl 4 rfl) ?_
                            refine va_get (D := (dC, dI)) (ci := 4) (v := .ref (ma_lev q)) (C := "SeatProofsModel") (T := F_M) (N := 20) hx hb hts (iu_M _) hown hK hP 0 rfl rfl 1 (by decide) (hts _ (List.mem_cons_of_mem _ iw_441)) (fun _ h9 => h9) rfl d_M_flood_141 ?_
                            refine lv_iload hx hb d_M_flood_144 (lv_at hl 0 rfl) ?_
                            refine ld_l hx hb hK hP 2 1 rfl rfl (m_lev u (m_fa u v)) (by first | exact k5 _ | exact k6 _) (by decide) rfl d_M_flood_146 ?_
                            refine lv_aload_n hx hb d_M_flood_147 rfl (lv_at hl 4 rfl) ?_
                            refine va_get (D := (dC, dI)) (ci := 4) (v := .ref (ma_lev q)) (C := "SeatProofsModel") (T := F_M) (N := 20) hx hb hts (iu_M _) hown hK hP 0 rfl rfl 1 (by decide) (hts _ (List.mem_cons_of_mem _ iw_441)) (fun _ h9 => h9) rfl d_M_flood_148 ?_
                            refine lv_iload hx hb d_M_flood_151 (lv_at hl 1 rfl) ?_
                            refine ld_l hx hb hK hP 2 1 rfl rfl (m_lev u (m_fb u v)) (by first | exact k5 _ | exact k6 _) (by decide) rfl d_M_flood_153 ?_
                            refine W.lcmp hx hb d_M_flood_154 ?_
                            refine l0_gt (tgt := 168) hx hb d_M_flood_155 (by decide) (fun c_11 => ?_) (fun c_11 => ?_)
                            · refine lv_iinc (v := nI (v + 1)) (lv' := [(4, .int (nI (v + 1))), (8, .int (nI (m_fa u v))), (7, .int (nI (m_fb u v))), (6, .int (nI (m_fb u v))), (5, .int (nI (m_fa u v))), (0, .ref (ma_o q)), (1, .int (nI a)), (2, .int (nI f)), (3, .int (bI mo2))]) hx hb d_M_flood_168 hl (k := 8) rfl (nI_1 _) (by decide) rfl (fun ls hl => ?_)
                              refine lv_goto (tgt := 48) hx hb d_M_flood_171 (by decide) ?_
                              exact ih48 (v + 1) w48 mo2 (by omega) hI48 (fun h => FC_s (hC48 h) (fun _ => ⟨fun q _ => absurd (q.symm.trans c_9) (by decide), fun _ q => absurd q c_11⟩)) hD48 (by omega) _ _ ls hP hD hS (lv_sub hl [5, 6, 7, 8, 0] rfl)
                            · have hdr : w48 (m_fb u v) = true := ts_nf (fun q => c_8 (c_9.trans q.symm))
                              refine lv_aload_n hx hb d_M_flood_158 rfl (lv_at hl 4 rfl) ?_
                              refine va_get (D := (dC, dI)) (ci := 4) (v := .ref (ma_wet q)) (C := "SeatProofsModel") (T := F_M) (N := 20) hx hb hts (iu_M _) hown hK hP 0 rfl rfl 19 (by decide) (hts _ (List.mem_cons_of_mem _ iw_459)) (fun _ h9 => h9) rfl d_M_flood_159 ?_
                              refine lv_iload hx hb d_M_flood_162 (lv_at hl 0 rfl) ?_
                              refine lv_iconst (v := nI 1) hx hb d_M_flood_164 (by decide) ?_
                              refine tp_i (bI true) (by decide) ?_
                              refine st_z hx hb hK hP hD hS 14 2 rfl rfl (fun j9 => bI (va_up w48 (m_fa u v) true j9)) (by first | exact k5 _ | exact k6 _) (by decide) (upd_bI _ _ _) d_M_flood_165 (fun H locs hP hD hS => ?_)
                              have hP : va_P (dC, dI) vwCl (wM q (m_mk (m_liq u) (m_lev u) (m_nS u) (m_fa u) (m_fb u) (m_seat u) (m_op u) (m_un u) (m_nV u) (m_may u) (m_nR u) (m_rf u) (m_rl u) (m_rw u) (m_rc u) (m_cul u) (m_gu u) (m_te u) (m_th u) (va_up w48 (m_fa u v) true))) H := hP
                              have hD : va_D (va_A (wM q u) s.heap.size) (wM q (m_mk (m_liq u) (m_lev u) (m_nS u) (m_fa u) (m_fb u) (m_seat u) (m_op u) (m_un u) (m_nV u) (m_may u) (m_nR u) (m_rf u) (m_rl u) (m_rw u) (m_rc u) (m_cul u) (m_gu u) (m_te u) (m_th u) (va_up w48 (m_fa u v) true))) := hD
                              refine lv_iconst (v := nI 1) hx hb d_M_flood_166 (by decide) ?_
                              refine lv_istore_n (lv' := [(3, .int (nI 1)), (8, .int (nI (m_fa u v))), (7, .int (nI (m_fb u v))), (6, .int (nI (m_fb u v))), (5, .int (nI (m_fa u v))), (0, .ref (ma_o q)), (1, .int (nI a)), (2, .int (nI f)), (4, .int (nI v))]) hx hb d_M_flood_167 rfl hl (by decide) rfl (fun ls hl => ?_)
                              refine lv_iinc (v := nI (v + 1)) (lv' := [(4, .int (nI (v + 1))), (3, .int (nI 1)), (8, .int (nI (m_fa u v))), (7, .int (nI (m_fb u v))), (6, .int (nI (m_fb u v))), (5, .int (nI (m_fa u v))), (0, .ref (ma_o q)), (1, .int (nI a)), (2, .int (nI f))]) hx hb d_M_flood_168 hl (k := 8) rfl (nI_1 _) (by decide) rfl (fun ls hl => ?_)
                              refine lv_goto (tgt := 48) hx hb d_M_flood_171 (by decide) ?_
                              exact ih48 (v + 1) (va_up w48 (m_fa u v) true) true (by omega) (FI_ba hu (by omega) c_7 hI48 hdr c_11) (fun h => absurd h (by decide)) (dry_go hD48 (dry_up (k9 v (by omega)).1 c_9)) (by omega) _ _ ls hP hD hS (lv_sub hl [6, 7, 8, 1, 0] rfl)
                          · exact absurd (c_10.symm.trans c_9) (by decide)
                        · refine lv_iload hx hb d_M_flood_112 (lv_at hl 1 rfl) ?_
                          refine lv_goto (tgt := 119) hx hb d_M_flood_114 (by decide) ?_
                          refine lv_istore (lv' := [(7, .int (nI (m_fa u v))), (6, .int (nI (m_fb u v))), (5, .int (nI (m_fa u v))), (0, .ref (ma_o q)), (1, .int (nI a)), (2, .int (nI f)), (3, .int (bI mo2)), (4, .int (nI v))]) hx hb d_M_flood_119 hl (by decide) rfl (fun ls hl => ?_)
                          refine lv_aload_n hx hb d_M_flood_121 rfl (lv_at hl 3 rfl) ?_
                          refine va_get (D := (dC, dI)) (ci := 4) (v := .ref (ma_wet q)) (C := "SeatProofsModel") (T := F_M) (N := 20) hx hb hts (iu_M _) hown hK hP 0 rfl rfl 19 (by decide) (hts _ (List.mem_cons_of_mem _ iw_459)) (fun _ h9 => h9) rfl d_M_flood_122 ?_
                          refine lv_iload hx hb d_M_flood_125 (lv_at hl 2 rfl) ?_
                          refine ld_z hx hb hK hP 14 2 rfl rfl (bI (w48 (m_fa u v))) (k5 _) (by decide) rfl d_M_flood_127 ?_
                          refine b0_eq (tgt := 136) hx hb d_M_flood_128 (by decide) (fun c_12 => ?_) (fun c_12 => ?_)
                          · exact absurd (c_12.symm.trans c_9) (by decide)
                          · refine lv_iload hx hb d_M_flood_131 (lv_at hl 1 rfl) ?_
                            refine lv_goto (tgt := 138) hx hb d_M_flood_133 (by decide) ?_
                            refine lv_istore (lv' := [(8, .int (nI (m_fb u v))), (7, .int (nI (m_fa u v))), (6, .int (nI (m_fb u v))), (5, .int (nI (m_fa u v))), (0, .ref (ma_o q)), (1, .int (nI a)), (2, .int (nI f)), (3, .int (bI mo2)), (4, .int (nI v))]) hx hb d_M_flood_138 hl (by decide) rfl (fun ls hl => ?_)
                            refine lv_aload_n hx hb d_M_flood_140 rfl (lv_at hl 4 rfl) ?_
                            refine va_get (D := (dC, dI)) (ci := 4) (v := .ref (ma_lev q)) (C := "SeatProofsModel") (T := F_M) (N := 20) hx hb hts (iu_M _) hown hK hP 0 rfl rfl 1 (by decide) (hts _ (List.mem_cons_of_mem _ iw_441)) (fun _ h9 => h9) rfl d_M_flood_141 ?_
                            refine lv_iload hx hb d_M_flood_144 (lv_at hl 0 rfl) ?_
                            refine ld_l hx hb hK hP 2 1 rfl rfl (m_lev u (m_fb u v)) (by first | exact k5 _ | exact k6 _) (by decide) rfl d_M_flood_146 ?_
                            refine lv_aload_n hx hb d_M_flood_147 rfl (lv_at hl 4 rfl) ?_
                            refine va_get (D := (dC, dI)) (ci := 4) (v := .ref (ma_lev q)) (C := "SeatProofsModel") (T := F_M) (N := 20) hx hb hts (iu_M _) hown hK hP 0 rfl rfl 1 (by decide) (hts _ (List.mem_cons_of_mem _ iw_441)) (fun _ h9 => h9) rfl d_M_flood_148 ?_
                            refine lv_iload hx hb d_M_flood_151 (lv_at hl 1 rfl) ?_
                            refine ld_l hx hb hK hP 2 1 rfl rfl (m_lev u (m_fa u v)) (by first | exact k5 _ | exact k6 _) (by decide) rfl d_M_flood_153 ?_
                            refine W.lcmp hx hb d_M_flood_154 ?_
                            refine l0_gt (tgt := 168) hx hb d_M_flood_155 (by decide) (fun c_13 => ?_) (fun c_13 => ?_)
                            · refine lv_iinc (v := nI (v + 1)) (lv' := [(4, .int (nI (v + 1))), (8, .int (nI (m_fb u v))), (7, .int (nI (m_fa u v))), (6, .int (nI (m_fb u v))), (5, .int (nI (m_fa u v))), (0, .ref (ma_o q)), (1, .int (nI a)), (2, .int (nI f)), (3, .int (bI mo2))]) hx hb d_M_flood_168 hl (k := 8) rfl (nI_1 _) (by decide) rfl (fun ls hl => ?_)
                              refine lv_goto (tgt := 48) hx hb d_M_flood_171 (by decide) ?_
                              exact ih48 (v + 1) w48 mo2 (by omega) hI48 (fun h => FC_s (hC48 h) (fun _ => ⟨fun _ q => absurd q c_13, fun _ _ => c_9⟩)) hD48 (by omega) _ _ ls hP hD hS (lv_sub hl [5, 6, 7, 8, 0] rfl)
                            · have hdr : w48 (m_fb u v) = false := ts_nt (fun q => c_8 (c_9.trans q.symm))
                              refine lv_aload_n hx hb d_M_flood_158 rfl (lv_at hl 4 rfl) ?_
                              refine va_get (D := (dC, dI)) (ci := 4) (v := .ref (ma_wet q)) (C := "SeatProofsModel") (T := F_M) (N := 20) hx hb hts (iu_M _) hown hK hP 0 rfl rfl 19 (by decide) (hts _ (List.mem_cons_of_mem _ iw_459)) (fun _ h9 => h9) rfl d_M_flood_159 ?_
                              refine lv_iload hx hb d_M_flood_162 (lv_at hl 0 rfl) ?_
                              refine lv_iconst (v := nI 1) hx hb d_M_flood_164 (by decide) ?_
                              refine tp_i (bI true) (by decide) ?_
                              refine st_z hx hb hK hP hD hS 14 2 rfl rfl (fun j9 => bI (va_up w48 (m_fb u v) true j9)) (by first | exact k5 _ | exact k6 _) (by decide) (upd_bI _ _ _) d_M_flood_165 (fun H locs hP hD hS => ?_)
                              have hP : va_P (dC, dI) vwCl (wM q (m_mk (m_liq u) (m_lev u) (m_nS u) (m_fa u) (m_fb u) (m_seat u) (m_op u) (m_un u) (m_nV u) (m_may u) (m_nR u) (m_rf u) (m_rl u) (m_rw u) (m_rc u) (m_cul u) (m_gu u) (m_te u) (m_th u) (va_up w48 (m_fb u v) true))) H := hP
                              have hD : va_D (va_A (wM q u) s.heap.size) (wM q (m_mk (m_liq u) (m_lev u) (m_nS u) (m_fa u) (m_fb u) (m_seat u) (m_op u) (m_un u) (m_nV u) (m_may u) (m_nR u) (m_rf u) (m_rl u) (m_rw u) (m_rc u) (m_cul u) (m_gu u) (m_te u) (m_th u) (va_up w48 (m_fb u v) true))) := hD
                              refine lv_iconst (v := nI 1) hx hb d_M_flood_166 (by decide) ?_
                              refine lv_istore_n (lv' := [(3, .int (nI 1)), (8, .int (nI (m_fb u v))), (7, .int (nI (m_fa u v))), (6, .int (nI (m_fb u v))), (5, .int (nI (m_fa u v))), (0, .ref (ma_o q)), (1, .int (nI a)), (2, .int (nI f)), (4, .int (nI v))]) hx hb d_M_flood_167 rfl hl (by decide) rfl (fun ls hl => ?_)
                              refine lv_iinc (v := nI (v + 1)) (lv' := [(4, .int (nI (v + 1))), (3, .int (nI 1)), (8, .int (nI (m_fb u v))), (7, .int (nI (m_fa u v))), (6, .int (nI (m_fb u v))), (5, .int (nI (m_fa u v))), (0, .ref (ma_o q)), (1, .int (nI a)), (2, .int (nI f))]) hx hb d_M_flood_168 hl (k := 8) rfl (nI_1 _) (by decide) rfl (fun ls hl => ?_)
                              refine lv_goto (tgt := 48) hx hb d_M_flood_171 (by decide) ?_
                              exact ih48 (v + 1) (va_up w48 (m_fb u v) true) true (by omega) (FI_ab hu (by omega) c_7 hI48 c_9 c_13) (fun h => absurd h (by decide)) (dry_go hD48 (dry_up (k9 v (by omega)).2.1 hdr)) (by omega) _ _ ls hP hD hS (lv_sub hl [6, 7, 8, 1, 0] rfl)
              exact L48 _ 0 w39 false (Nat.zero_le _) hI39 (fun _ => FC_0) (⟨fun h => absurd h (by decide), Nat.le_refl _⟩) (Nat.lt_succ_self _) _ _ ls hP hD hS (lv_sub hl [2, 3, 4, 1, 0] rfl)
        exact L39 _ w2 true (FI_0 (fun t ht => hw2 t (by omega))) (fun h => absurd h (by decide)) (Nat.lt_succ_self _) _ _ ls hP hD hS (lv_sub hl [1, 2, 3, 0] rfl)
      · refine lv_aload_n hx hb d_M_flood_10 rfl (lv_at hl 0 rfl) ?_
        refine va_get (D := (dC, dI)) (ci := 4) (v := .ref (ma_wet q)) (C := "SeatProofsModel") (T := F_M) (N := 20) hx hb hts (iu_M _) hown hK hP 0 rfl rfl 19 (by decide) (hts _ (List.mem_cons_of_mem _ iw_459)) (fun _ h9 => h9) rfl d_M_flood_11 ?_
        refine lv_iload_n hx hb d_M_flood_14 rfl (lv_at hl 3 rfl) ?_
        refine lv_aload_n hx hb d_M_flood_15 rfl (lv_at hl 0 rfl) ?_
        refine va_get (D := (dC, dI)) (ci := 4) (v := .ref (ma_liq q)) (C := "SeatProofsModel") (T := F_M) (N := 20) hx hb hts (iu_M _) hown hK hP 0 rfl rfl 0 (by decide) (hts _ (List.mem_cons_of_mem _ iw_440)) (fun _ h9 => h9) rfl d_M_flood_16 ?_
        refine lv_iload_n hx hb d_M_flood_19 rfl (lv_at hl 3 rfl) ?_
        refine ld_i hx hb hK hP 1 0 rfl rfl (nI (m_liq u i)) (by omega) (by decide) rfl d_M_flood_20 ?_
        refine lv_iload_n hx hb d_M_flood_21 rfl (lv_at hl 1 rfl) ?_
        refine nv_ne (tgt := 29) hx hb d_M_flood_22 (by decide) (by have := k4 i; omega) (by omega) (fun c_14 => ?_) (fun c_14 => ?_)
        · refine lv_iconst (v := nI 0) hx hb d_M_flood_29 (by decide) ?_
          refine tp_i (bI false) (by decide) ?_
          refine st_z hx hb hK hP hD hS 14 2 rfl rfl (fun j9 => bI (va_up w2 i false j9)) (by omega) (by decide) (upd_bI _ _ _) d_M_flood_30 (fun H locs hP hD hS => ?_)
          have hP : va_P (dC, dI) vwCl (wM q (m_mk (m_liq u) (m_lev u) (m_nS u) (m_fa u) (m_fb u) (m_seat u) (m_op u) (m_un u) (m_nV u) (m_may u) (m_nR u) (m_rf u) (m_rl u) (m_rw u) (m_rc u) (m_cul u) (m_gu u) (m_te u) (m_th u) (va_up w2 i false))) H := hP
          have hD : va_D (va_A (wM q u) s.heap.size) (wM q (m_mk (m_liq u) (m_lev u) (m_nS u) (m_fa u) (m_fb u) (m_seat u) (m_op u) (m_un u) (m_nV u) (m_may u) (m_nR u) (m_rf u) (m_rl u) (m_rw u) (m_rc u) (m_cul u) (m_gu u) (m_te u) (m_th u) (va_up w2 i false))) := hD
          refine lv_iinc (v := nI (i + 1)) (lv' := [(3, .int (nI (i + 1))), (0, .ref (ma_o q)), (1, .int (nI a)), (2, .int (nI f))]) hx hb d_M_flood_31 hl (k := 3) rfl (nI_1 _) (by decide) rfl (fun ls hl => ?_)
          refine lv_goto (tgt := 2) hx hb d_M_flood_34 (by decide) ?_
          exact ih2 (i + 1) (va_up w2 i false) (by omega) (up_lt hw2 (by simp [c_14])) (by omega) _ _ ls hP hD hS (lv_sub hl [1, 2, 3, 0] rfl)
        · refine lv_iconst (v := nI 1) hx hb d_M_flood_25 (by decide) ?_
          refine lv_goto (tgt := 30) hx hb d_M_flood_26 (by decide) ?_
          refine tp_i (bI true) (by decide) ?_
          refine st_z hx hb hK hP hD hS 14 2 rfl rfl (fun j9 => bI (va_up w2 i true j9)) (by omega) (by decide) (upd_bI _ _ _) d_M_flood_30 (fun H locs hP hD hS => ?_)
          have hP : va_P (dC, dI) vwCl (wM q (m_mk (m_liq u) (m_lev u) (m_nS u) (m_fa u) (m_fb u) (m_seat u) (m_op u) (m_un u) (m_nV u) (m_may u) (m_nR u) (m_rf u) (m_rl u) (m_rw u) (m_rc u) (m_cul u) (m_gu u) (m_te u) (m_th u) (va_up w2 i true))) H := hP
          have hD : va_D (va_A (wM q u) s.heap.size) (wM q (m_mk (m_liq u) (m_lev u) (m_nS u) (m_fa u) (m_fb u) (m_seat u) (m_op u) (m_un u) (m_nV u) (m_may u) (m_nR u) (m_rf u) (m_rl u) (m_rw u) (m_rc u) (m_cul u) (m_gu u) (m_te u) (m_th u) (va_up w2 i true))) := hD
          refine lv_iinc (v := nI (i + 1)) (lv' := [(3, .int (nI (i + 1))), (0, .ref (ma_o q)), (1, .int (nI a)), (2, .int (nI f))]) hx hb d_M_flood_31 hl (k := 3) rfl (nI_1 _) (by decide) rfl (fun ls hl => ?_)
          refine lv_goto (tgt := 2) hx hb d_M_flood_34 (by decide) ?_
          exact ih2 (i + 1) (va_up w2 i true) (by omega) (up_lt hw2 (by simp [c_14])) (by omega) _ _ ls hP hD hS (lv_sub hl [1, 2, 3, 0] rfl)
  exact L2 _ 0 (m_wet u) (Nat.zero_le _) (fun t ht => absurd ht (Nat.not_lt_zero t)) (Nat.lt_succ_self _) _ _ ls hP hD hS (lv_sub hl [1, 2, 3, 0] rfl)
set_option maxHeartbeats 4000000 in
set_option maxRecDepth 100000 in
theorem c_M_meet (l : Launch) (dC : Nat → ClassId) (dI : Nat → Nat → Nat) (q : MA) (u : MSt) (sz : Nat) (a f : Nat) (hu : MOk u) (ha : a ≤ m_nR u) : Met l y_M_meet w_M_meet ({ frames := 1, cells := 0, slots := 0, locals := 22 }) (qPc (dC, dI) vwCl (tM q) (wM q u) sz [Value.ref (ma_o q), Value.int (nI a), Value.int (nI f)]) (va_Qi (fun (r : Int32) (z : MSt) => ∃ b cu, r = bI b ∧ z = m_s_cul u cu ∧ ((b = false ∧ cu = m_cul u ∧ ∀ t x y, t < m_nS u → a ≤ x → x < y → y < m_nR u → ¬ mM u t x y) ∨ (b = true ∧ ∃ t x y, t < m_nS u ∧ a ≤ x ∧ x < y ∧ y < m_nR u ∧ mM u t x y ∧ (∀ t2, t2 < t → ∀ x2 y2, a ≤ x2 → x2 < y2 → y2 < m_nR u → ¬ mM u t2 x2 y2) ∧ (∀ x2, x2 < x → a ≤ x2 → ∀ y2, x2 < y2 → y2 < m_nR u → ¬ mM u t x2 y2) ∧ (∀ y2, y2 < y → x < y2 → ¬ mM u t x y2) ∧ cu = cu4 (m_cul u) f t (m_rl u x) (m_rl u y)))) (qB (dC, dI) vwCl (tM q) (wM q u) sz (wM q)) (va_A (wM q u) sz)) 0 0 (va_A (wM q u) sz) := by
  refine Met.ofW (cc := b_M_meet) (maxL := 6) (ret := (some .boolean)) (by decide) rfl ?_
  intro p e s m args below meth c s₁ B hml hv
  obtain ⟨rfl, hsz, hP, hK, hD0, hN⟩ := hv
  have hx := B.exec
  have hb := B.bytes
  have hr := B.returns
  have hts := atoms_spec (ws := w_M_meet) B.pre
  have hown : s.vm.findClass "SeatProofsModel" = some m.cls := findClass_of_methodNamed B.named
  have hlocks := B.notSynchronized
  subst hsz
  have hD := hD0.self (sz := s.heap.size)
  have hA : ∀ z : Nat, s.heap.size ≤ z → va_A (wM q u) s.heap.size z := fun z h => Or.inr h
  have hS : va_S (va_A (wM q u) s.heap.size) s.heap s.heap [] := va_S.rf
  have hl := lv_entry ([Value.ref (ma_o q), Value.int (nI a), Value.int (nI f)]) (n := 6) (Nat.le_of_ble_eq_true rfl)
  rw [lg_entry_eq]
  generalize (lg_sl ([Value.ref (ma_o q), Value.int (nI a), Value.int (nI f)]) ++ List.replicate (6 - (lg_sl ([Value.ref (ma_o q), Value.int (nI a), Value.int (nI f)])).length) Slot.unset).toArray = ls at hl ⊢
  have hl : lv_has ls 6 [(0, .ref (ma_o q)), (1, .int (nI a)), (2, .int (nI f))] := hl
  obtain ⟨k1, k2, k3, k4, k5, k6, k7, k8, k9, k10, k11⟩ := id hu
  refine lv_iconst (v := nI 0) hx hb d_M_meet_0 (by decide) ?_
  refine lv_istore_n (lv' := [(3, .int (nI 0)), (0, .ref (ma_o q)), (1, .int (nI a)), (2, .int (nI f))]) hx hb d_M_meet_1 rfl hl (by decide) rfl (fun ls hl => ?_)
  have L2 : ∀ (n2 : Nat) (s9 : Nat), (s9 ≤ m_nS u) → (∀ t, t < s9 → ∀ x y, a ≤ x → x < y → y < m_nR u → ¬ mM u t x y) → m_nS u - s9 < n2 → ∀ (H : Heap) (locs : List Loc) (ls : Array Slot), va_P (dC, dI) vwCl (wM q u) H → va_D (va_A (wM q u) s.heap.size) (wM q u) → va_S (va_A (wM q u) s.heap.size) s.heap H locs → lv_has ls 6 [(0, .ref (ma_o q)), (1, .int (nI a)), (2, .int (nI f)), (3, .int (nI s9))] → W p l e (headSpec w_M_meet ({ frames := 1, cells := 0, slots := 0, locals := 22 })).room s m [Value.ref (ma_o q), Value.int (nI a), Value.int (nI f)].toArray below meth c H locs 0 0 (MQ below (va_Qi (fun (r : Int32) (z : MSt) => ∃ b cu, r = bI b ∧ z = m_s_cul u cu ∧ ((b = false ∧ cu = m_cul u ∧ ∀ t x y, t < m_nS u → a ≤ x → x < y → y < m_nR u → ¬ mM u t x y) ∨ (b = true ∧ ∃ t x y, t < m_nS u ∧ a ≤ x ∧ x < y ∧ y < m_nR u ∧ mM u t x y ∧ (∀ t2, t2 < t → ∀ x2 y2, a ≤ x2 → x2 < y2 → y2 < m_nR u → ¬ mM u t2 x2 y2) ∧ (∀ x2, x2 < x → a ≤ x2 → ∀ y2, x2 < y2 → y2 < m_nR u → ¬ mM u t x2 y2) ∧ (∀ y2, y2 < y → x < y2 → ¬ mM u t x y2) ∧ cu = cu4 (m_cul u) f t (m_rl u x) (m_rl u y)))) (qB (dC, dI) vwCl (tM q) (wM q u) s.heap.size (wM q)) (va_A (wM q u) s.heap.size)) [Value.ref (ma_o q), Value.int (nI a), Value.int (nI f)].toArray s 0 0 (va_A (wM q u) s.heap.size)) (F0 m 2 ls []) := by
    intro n2
    induction n2 with
    | zero => intro s9 hs2 hN2 hm; exact absurd hm (Nat.not_lt_zero _)
    | succ n2 ih2 =>
      intro s9 hs2 hN2 hm2 H locs ls hP hD hS hl
      refine lv_iload_n hx hb d_M_meet_2 rfl (lv_at hl 3 rfl) ?_
      refine lv_aload_n hx hb d_M_meet_3 rfl (lv_at hl 0 rfl) ?_
      refine va_get (D := (dC, dI)) (ci := 4) (v := .int (nI (m_nS u))) (C := "SeatProofsModel") (T := F_M) (N := 20) hx hb hts (iu_M _) hown hK hP 0 rfl rfl 2 (by decide) (hts _ (List.mem_cons_of_mem _ iw_442)) (fun _ h9 => h9) rfl d_M_meet_4 ?_
      refine nv_ge (tgt := 151) hx hb d_M_meet_7 (by decide) (by omega) (by omega) (fun c_1 => ?_) (fun c_1 => ?_)
      · refine lv_iconst (v := nI 0) hx hb d_M_meet_151 (by decide) ?_
        refine tp_i (bI false) (by decide) ?_
        exact W.zret hx hb hr (bI_narrow _) (fun t9 ht9 hW9 => ⟨⟨_, u, rfl, ⟨false, m_cul u, rfl, rfl, Or.inl ⟨rfl, rfl, fun t x y h0 h1 h2 h3 => hN2 t (by omega) x y h1 h2 h3⟩⟩, by rw [ht9]; exact hP, va_K.moved hW9.alike hK, hD⟩, hS.F ht9⟩) hS.2.2 d_M_meet_152
      · refine lv_iload_n hx hb d_M_meet_10 rfl (lv_at hl 1 rfl) ?_
        refine lv_istore (lv' := [(4, .int (nI a)), (0, .ref (ma_o q)), (1, .int (nI a)), (2, .int (nI f)), (3, .int (nI s9))]) hx hb d_M_meet_11 hl (by decide) rfl (fun ls hl => ?_)
        have L13 : ∀ (n13 : Nat) (j : Nat), (a ≤ j) → (j ≤ m_nR u) → (∀ x, x < j → a ≤ x → ∀ y, x < y → y < m_nR u → ¬ mM u s9 x y) → m_nR u - j < n13 → ∀ (H : Heap) (locs : List Loc) (ls : Array Slot), va_P (dC, dI) vwCl (wM q u) H → va_D (va_A (wM q u) s.heap.size) (wM q u) → va_S (va_A (wM q u) s.heap.size) s.heap H locs → lv_has ls 6 [(0, .ref (ma_o q)), (1, .int (nI a)), (2, .int (nI f)), (3, .int (nI s9)), (4, .int (nI j))] → W p l e (headSpec w_M_meet ({ frames := 1, cells := 0, slots := 0, locals := 22 })).room s m [Value.ref (ma_o q), Value.int (nI a), Value.int (nI f)].toArray below meth c H locs 0 0 (MQ below (va_Qi (fun (r : Int32) (z : MSt) => ∃ b cu, r = bI b ∧ z = m_s_cul u cu ∧ ((b = false ∧ cu = m_cul u ∧ ∀ t x y, t < m_nS u → a ≤ x → x < y → y < m_nR u → ¬ mM u t x y) ∨ (b = true ∧ ∃ t x y, t < m_nS u ∧ a ≤ x ∧ x < y ∧ y < m_nR u ∧ mM u t x y ∧ (∀ t2, t2 < t → ∀ x2 y2, a ≤ x2 → x2 < y2 → y2 < m_nR u → ¬ mM u t2 x2 y2) ∧ (∀ x2, x2 < x → a ≤ x2 → ∀ y2, x2 < y2 → y2 < m_nR u → ¬ mM u t x2 y2) ∧ (∀ y2, y2 < y → x < y2 → ¬ mM u t x y2) ∧ cu = cu4 (m_cul u) f t (m_rl u x) (m_rl u y)))) (qB (dC, dI) vwCl (tM q) (wM q u) s.heap.size (wM q)) (va_A (wM q u) s.heap.size)) [Value.ref (ma_o q), Value.int (nI a), Value.int (nI f)].toArray s 0 0 (va_A (wM q u) s.heap.size)) (F0 m 13 ls []) := by
          intro n13
          induction n13 with
          | zero => intro j hj13 hj13b hN13 hm; exact absurd hm (Nat.not_lt_zero _)
          | succ n13 ih13 =>
            intro j hj13 hj13b hN13 hm13 H locs ls hP hD hS hl
            refine lv_iload hx hb d_M_meet_13 (lv_at hl 4 rfl) ?_
            refine lv_aload_n hx hb d_M_meet_15 rfl (lv_at hl 0 rfl) ?_
            refine va_get (D := (dC, dI)) (ci := 4) (v := .int (nI (m_nR u))) (C := "SeatProofsModel") (T := F_M) (N := 20) hx hb hts (iu_M _) hown hK hP 0 rfl rfl 10 (by decide) (hts _ (List.mem_cons_of_mem _ iw_450)) (fun _ h9 => h9) rfl d_M_meet_16 ?_
            refine nv_ge (tgt := 145) hx hb d_M_meet_19 (by decide) (by omega) (by omega) (fun c_2 => ?_) (fun c_2 => ?_)
            · refine lv_iinc (v := nI (s9 + 1)) (lv' := [(3, .int (nI (s9 + 1))), (0, .ref (ma_o q)), (1, .int (nI a)), (2, .int (nI f)), (4, .int (nI j))]) hx hb d_M_meet_145 hl (k := 3) rfl (nI_1 _) (by decide) rfl (fun ls hl => ?_)
              refine lv_goto (tgt := 2) hx hb d_M_meet_148 (by decide) ?_
              exact ih2 (s9 + 1) (by omega) (mM_2 hN2 hN13 (by omega)) (by omega) _ _ ls hP hD hS (lv_sub hl [1, 2, 3, 0] rfl)
            · refine lv_iload hx hb d_M_meet_22 (lv_at hl 4 rfl) ?_
              refine lv_iconst (v := nI 1) hx hb d_M_meet_24 (by decide) ?_
              refine lv_iadd hx hb d_M_meet_25 ?_
              refine tp_i (nI (j + 1)) (nI_add _ _) ?_
              refine lv_istore (lv' := [(5, .int (nI (j + 1))), (0, .ref (ma_o q)), (1, .int (nI a)), (2, .int (nI f)), (3, .int (nI s9)), (4, .int (nI j))]) hx hb d_M_meet_26 hl (by decide) rfl (fun ls hl => ?_)
              have L28 : ∀ (n28 : Nat) (k : Nat), (j < k) → (k ≤ m_nR u) → (∀ y, y < k → j < y → ¬ mM u s9 j y) → m_nR u - k < n28 → ∀ (H : Heap) (locs : List Loc) (ls : Array Slot), va_P (dC, dI) vwCl (wM q u) H → va_D (va_A (wM q u) s.heap.size) (wM q u) → va_S (va_A (wM q u) s.heap.size) s.heap H locs → lv_has ls 6 [(0, .ref (ma_o q)), (1, .int (nI a)), (2, .int (nI f)), (3, .int (nI s9)), (4, .int (nI j)), (5, .int (nI k))] → W p l e (headSpec w_M_meet ({ frames := 1, cells := 0, slots := 0, locals := 22 })).room s m [Value.ref (ma_o q), Value.int (nI a), Value.int (nI f)].toArray below meth c H locs 0 0 (MQ below (va_Qi (fun (r : Int32) (z : MSt) => ∃ b cu, r = bI b ∧ z = m_s_cul u cu ∧ ((b = false ∧ cu = m_cul u ∧ ∀ t x y, t < m_nS u → a ≤ x → x < y → y < m_nR u → ¬ mM u t x y) ∨ (b = true ∧ ∃ t x y, t < m_nS u ∧ a ≤ x ∧ x < y ∧ y < m_nR u ∧ mM u t x y ∧ (∀ t2, t2 < t → ∀ x2 y2, a ≤ x2 → x2 < y2 → y2 < m_nR u → ¬ mM u t2 x2 y2) ∧ (∀ x2, x2 < x → a ≤ x2 → ∀ y2, x2 < y2 → y2 < m_nR u → ¬ mM u t x2 y2) ∧ (∀ y2, y2 < y → x < y2 → ¬ mM u t x y2) ∧ cu = cu4 (m_cul u) f t (m_rl u x) (m_rl u y)))) (qB (dC, dI) vwCl (tM q) (wM q u) s.heap.size (wM q)) (va_A (wM q u) s.heap.size)) [Value.ref (ma_o q), Value.int (nI a), Value.int (nI f)].toArray s 0 0 (va_A (wM q u) s.heap.size)) (F0 m 28 ls []) := by
                intro n28
                induction n28 with
                | zero => intro k hk28 hk28b hN28 hm; exact absurd hm (Nat.not_lt_zero _)
                | succ n28 ih28 =>
                  intro k hk28 hk28b hN28 hm28 H locs ls hP hD hS hl
                  refine lv_iload hx hb d_M_meet_28 (lv_at hl 5 rfl) ?_
                  refine lv_aload_n hx hb d_M_meet_30 rfl (lv_at hl 0 rfl) ?_
                  refine va_get (D := (dC, dI)) (ci := 4) (v := .int (nI (m_nR u))) (C := "SeatProofsModel") (T := F_M) (N := 20) hx hb hts (iu_M _) hown hK hP 0 rfl rfl 10 (by decide) (hts _ (List.mem_cons_of_mem _ iw_450)) (fun _ h9 => h9) rfl d_M_meet_31 ?_
                  refine nv_ge (tgt := 139) hx hb d_M_meet_34 (by decide) (by omega) (by omega) (fun c_3 => ?_) (fun c_3 => ?_)
                  · refine lv_iinc (v := nI (j + 1)) (lv' := [(4, .int (nI (j + 1))), (0, .ref (ma_o q)), (1, .int (nI a)), (2, .int (nI f)), (3, .int (nI s9)), (5, .int (nI k))]) hx hb d_M_meet_139 hl (k := 4) rfl (nI_1 _) (by decide) rfl (fun ls hl => ?_)
                    refine lv_goto (tgt := 13) hx hb d_M_meet_142 (by decide) ?_
                    exact ih13 (j + 1) (by omega) (by omega) (mM_13 hN13 hN28 (by omega)) (by omega) _ _ ls hP hD hS (lv_sub hl [1, 2, 3, 4, 0] rfl)
                  · refine lv_aload_n hx hb d_M_meet_37 rfl (lv_at hl 0 rfl) ?_
                    refine va_get (D := (dC, dI)) (ci := 4) (v := .ref (ma_rw q)) (C := "SeatProofsModel") (T := F_M) (N := 20) hx hb hts (iu_M _) hown hK hP 0 rfl rfl 13 (by decide) (hts _ (List.mem_cons_of_mem _ iw_453)) (fun _ h9 => h9) rfl d_M_meet_38 ?_
                    refine lv_iload hx hb d_M_meet_41 (lv_at hl 4 rfl) ?_
                    refine ld_l hx hb hK hP 11 1 rfl rfl (m_rw u j) (by omega) (by decide) rfl d_M_meet_43 ?_
                    refine lv_iload_n hx hb d_M_meet_44 rfl (lv_at hl 3 rfl) ?_
                    refine vp_callSi (va_Run.run (va_runS (As := [.long (m_rw u j), .int (nI s9)]) (rest := []) ⟨hx, hb, hml, hown, hts⟩ (c_M_has l (m_rw u j) s9 (by omega)) (va_cwS 2 hts (good_up (good_S iw_546 iw_547 iw_5 gg_M_has)) rfl rfl rfl (by decide +kernel) ⟨Nat.le_of_ble_eq_true rfl, Nat.le_of_ble_eq_true rfl⟩) (ps_0 [.long (m_rw u j), .int (nI s9)] hN) rfl rfl hl.1 rfl (lv_room (Nat.le_of_ble_eq_true rfl)) d_M_meet_45 ⟨Nat.le_of_ble_eq_true rfl, Nat.le_of_ble_eq_true rfl⟩)) (fun r_4 hr_4 => ?_)
                    subst hr_4
                    refine b0_eq (tgt := 133) hx hb d_M_meet_48 (by decide) (fun c_5 => ?_) (fun c_5 => ?_)
                    · refine lv_iinc (v := nI (k + 1)) (lv' := [(5, .int (nI (k + 1))), (0, .ref (ma_o q)), (1, .int (nI a)), (2, .int (nI f)), (3, .int (nI s9)), (4, .int (nI j))]) hx hb d_M_meet_133 hl (k := 5) rfl (nI_1 _) (by decide) rfl (fun ls hl => ?_)
                      refine lv_goto (tgt := 28) hx hb d_M_meet_136 (by decide) ?_
                      exact ih28 (k + 1) (by omega) (by omega) (mM_28 hN28 (fun h => absurd (h.1.symm.trans c_5) (by decide))) (by omega) _ _ ls hP hD hS (lv_sub hl [1, 2, 3, 4, 5, 0] rfl)
                    · refine lv_aload_n hx hb d_M_meet_51 rfl (lv_at hl 0 rfl) ?_
                      refine va_get (D := (dC, dI)) (ci := 4) (v := .ref (ma_rw q)) (C := "SeatProofsModel") (T := F_M) (N := 20) hx hb hts (iu_M _) hown hK hP 0 rfl rfl 13 (by decide) (hts _ (List.mem_cons_of_mem _ iw_453)) (fun _ h9 => h9) rfl d_M_meet_52 ?_
                      refine lv_iload hx hb d_M_meet_55 (lv_at hl 5 rfl) ?_
                      refine ld_l hx hb hK hP 11 1 rfl rfl (m_rw u k) (by omega) (by decide) rfl d_M_meet_57 ?_
                      refine lv_iload_n hx hb d_M_meet_58 rfl (lv_at hl 3 rfl) ?_
                      refine vp_callSi (va_Run.run (va_runS (As := [.long (m_rw u k), .int (nI s9)]) (rest := []) ⟨hx, hb, hml, hown, hts⟩ (c_M_has l (m_rw u k) s9 (by omega)) (va_cwS 2 hts (good_up (good_S iw_546 iw_547 iw_5 gg_M_has)) rfl rfl rfl (by decide +kernel) ⟨Nat.le_of_ble_eq_true rfl, Nat.le_of_ble_eq_true rfl⟩) (ps_0 [.long (m_rw u k), .int (nI s9)] hN) rfl rfl hl.1 rfl (lv_room (Nat.le_of_ble_eq_true rfl)) d_M_meet_59 ⟨Nat.le_of_ble_eq_true rfl, Nat.le_of_ble_eq_true rfl⟩)) (fun r_6 hr_6 => ?_)
                      subst hr_6
                      refine b0_eq (tgt := 133) hx hb d_M_meet_62 (by decide) (fun c_7 => ?_) (fun c_7 => ?_)
                      · refine lv_iinc (v := nI (k + 1)) (lv' := [(5, .int (nI (k + 1))), (0, .ref (ma_o q)), (1, .int (nI a)), (2, .int (nI f)), (3, .int (nI s9)), (4, .int (nI j))]) hx hb d_M_meet_133 hl (k := 5) rfl (nI_1 _) (by decide) rfl (fun ls hl => ?_)
                        refine lv_goto (tgt := 28) hx hb d_M_meet_136 (by decide) ?_
                        exact ih28 (k + 1) (by omega) (by omega) (mM_28 hN28 (fun h => absurd (h.2.1.symm.trans c_7) (by decide))) (by omega) _ _ ls hP hD hS (lv_sub hl [1, 2, 3, 4, 5, 0] rfl)
                      · refine lv_aload_n hx hb d_M_meet_65 rfl (lv_at hl 0 rfl) ?_
                        refine va_get (D := (dC, dI)) (ci := 4) (v := .ref (ma_may q)) (C := "SeatProofsModel") (T := F_M) (N := 20) hx hb hts (iu_M _) hown hK hP 0 rfl rfl 9 (by decide) (hts _ (List.mem_cons_of_mem _ iw_449)) (fun _ h9 => h9) rfl d_M_meet_66 ?_
                        refine lv_bipush (v := nI 16) hx hb d_M_meet_69 (by decide) ?_
                        refine lv_aload_n hx hb d_M_meet_71 rfl (lv_at hl 0 rfl) ?_
                        refine va_get (D := (dC, dI)) (ci := 4) (v := .ref (ma_rl q)) (C := "SeatProofsModel") (T := F_M) (N := 20) hx hb hts (iu_M _) hown hK hP 0 rfl rfl 12 (by decide) (hts _ (List.mem_cons_of_mem _ iw_452)) (fun _ h9 => h9) rfl d_M_meet_72 ?_
                        refine lv_iload hx hb d_M_meet_75 (lv_at hl 4 rfl) ?_
                        refine ld_i hx hb hK hP 10 0 rfl rfl (nI (m_rl u j)) (by omega) (by decide) rfl d_M_meet_77 ?_
                        refine lv_imul hx hb d_M_meet_78 ?_
                        refine tp_i (nI (16 * (m_rl u j))) (pk_mul _ _) ?_
                        refine lv_aload_n hx hb d_M_meet_79 rfl (lv_at hl 0 rfl) ?_
                        refine va_get (D := (dC, dI)) (ci := 4) (v := .ref (ma_rl q)) (C := "SeatProofsModel") (T := F_M) (N := 20) hx hb hts (iu_M _) hown hK hP 0 rfl rfl 12 (by decide) (hts _ (List.mem_cons_of_mem _ iw_452)) (fun _ h9 => h9) rfl d_M_meet_80 ?_
                        refine lv_iload hx hb d_M_meet_83 (lv_at hl 5 rfl) ?_
                        refine ld_i hx hb hK hP 10 0 rfl rfl (nI (m_rl u k)) (by omega) (by decide) rfl d_M_meet_85 ?_
                        refine lv_iadd hx hb d_M_meet_86 ?_
                        refine tp_i (nI ((16 * (m_rl u j)) + m_rl u k)) (nI_add _ _) ?_
                        refine ld_z hx hb hK hP 8 2 rfl rfl (bI (m_may u ((16 * (m_rl u j)) + m_rl u k))) (by have := k8 j; have := k8 k; omega) (by decide) rfl d_M_meet_87 ?_
                        refine b0_ne (tgt := 133) hx hb d_M_meet_88 (by decide) (fun c_8 => ?_) (fun c_8 => ?_)
                        · refine lv_iinc (v := nI (k + 1)) (lv' := [(5, .int (nI (k + 1))), (0, .ref (ma_o q)), (1, .int (nI a)), (2, .int (nI f)), (3, .int (nI s9)), (4, .int (nI j))]) hx hb d_M_meet_133 hl (k := 5) rfl (nI_1 _) (by decide) rfl (fun ls hl => ?_)
                          refine lv_goto (tgt := 28) hx hb d_M_meet_136 (by decide) ?_
                          exact ih28 (k + 1) (by omega) (by omega) (mM_28 hN28 (fun h => absurd (h.2.2.symm.trans c_8) (by decide))) (by omega) _ _ ls hP hD hS (lv_sub hl [1, 2, 3, 4, 5, 0] rfl)
                        · refine lv_aload_n hx hb d_M_meet_91 rfl (lv_at hl 0 rfl) ?_
                          refine va_get (D := (dC, dI)) (ci := 4) (v := .ref (ma_cul q)) (C := "SeatProofsModel") (T := F_M) (N := 20) hx hb hts (iu_M _) hown hK hP 0 rfl rfl 15 (by decide) (hts _ (List.mem_cons_of_mem _ iw_455)) (fun _ h9 => h9) rfl d_M_meet_92 ?_
                          refine lv_iconst (v := nI 0) hx hb d_M_meet_95 (by decide) ?_
                          refine lv_iload_n hx hb d_M_meet_96 rfl (lv_at hl 2 rfl) ?_
                          refine st_i hx hb hK hP hD hS 13 0 rfl rfl (fun j9 => nI (va_up (m_cul u) 0 f j9)) (by omega) (by decide) (upd_nI _ _ _) d_M_meet_97 (fun H locs hP hD hS => ?_)
                          have hP : va_P (dC, dI) vwCl (wM q (m_mk (m_liq u) (m_lev u) (m_nS u) (m_fa u) (m_fb u) (m_seat u) (m_op u) (m_un u) (m_nV u) (m_may u) (m_nR u) (m_rf u) (m_rl u) (m_rw u) (m_rc u) (va_up (m_cul u) 0 f) (m_gu u) (m_te u) (m_th u) (m_wet u))) H := hP
                          have hD : va_D (va_A (wM q u) s.heap.size) (wM q (m_mk (m_liq u) (m_lev u) (m_nS u) (m_fa u) (m_fb u) (m_seat u) (m_op u) (m_un u) (m_nV u) (m_may u) (m_nR u) (m_rf u) (m_rl u) (m_rw u) (m_rc u) (va_up (m_cul u) 0 f) (m_gu u) (m_te u) (m_th u) (m_wet u))) := hD
                          refine lv_aload_n hx hb d_M_meet_98 rfl (lv_at hl 0 rfl) ?_
                          refine va_get (D := (dC, dI)) (ci := 4) (v := .ref (ma_cul q)) (C := "SeatProofsModel") (T := F_M) (N := 20) hx hb hts (iu_M _) hown hK hP 0 rfl rfl 15 (by decide) (hts _ (List.mem_cons_of_mem _ iw_455)) (fun _ h9 => h9) rfl d_M_meet_99 ?_
                          refine lv_iconst (v := nI 1) hx hb d_M_meet_102 (by decide) ?_
                          refine lv_iload_n hx hb d_M_meet_103 rfl (lv_at hl 3 rfl) ?_
                          refine st_i hx hb hK hP hD hS 13 0 rfl rfl (fun j9 => nI (va_up (va_up (m_cul u) 0 f) 1 s9 j9)) (by omega) (by decide) (upd_nI _ _ _) d_M_meet_104 (fun H locs hP hD hS => ?_)
                          have hP : va_P (dC, dI) vwCl (wM q (m_mk (m_liq u) (m_lev u) (m_nS u) (m_fa u) (m_fb u) (m_seat u) (m_op u) (m_un u) (m_nV u) (m_may u) (m_nR u) (m_rf u) (m_rl u) (m_rw u) (m_rc u) (va_up (va_up (m_cul u) 0 f) 1 s9) (m_gu u) (m_te u) (m_th u) (m_wet u))) H := hP
                          have hD : va_D (va_A (wM q u) s.heap.size) (wM q (m_mk (m_liq u) (m_lev u) (m_nS u) (m_fa u) (m_fb u) (m_seat u) (m_op u) (m_un u) (m_nV u) (m_may u) (m_nR u) (m_rf u) (m_rl u) (m_rw u) (m_rc u) (va_up (va_up (m_cul u) 0 f) 1 s9) (m_gu u) (m_te u) (m_th u) (m_wet u))) := hD
                          refine lv_aload_n hx hb d_M_meet_105 rfl (lv_at hl 0 rfl) ?_
                          refine va_get (D := (dC, dI)) (ci := 4) (v := .ref (ma_cul q)) (C := "SeatProofsModel") (T := F_M) (N := 20) hx hb hts (iu_M _) hown hK hP 0 rfl rfl 15 (by decide) (hts _ (List.mem_cons_of_mem _ iw_455)) (fun _ h9 => h9) rfl d_M_meet_106 ?_
                          refine lv_iconst (v := nI 2) hx hb d_M_meet_109 (by decide) ?_
                          refine lv_aload_n hx hb d_M_meet_110 rfl (lv_at hl 0 rfl) ?_
                          refine va_get (D := (dC, dI)) (ci := 4) (v := .ref (ma_rl q)) (C := "SeatProofsModel") (T := F_M) (N := 20) hx hb hts (iu_M _) hown hK hP 0 rfl rfl 12 (by decide) (hts _ (List.mem_cons_of_mem _ iw_452)) (fun _ h9 => h9) rfl d_M_meet_111 ?_
                          refine lv_iload hx hb d_M_meet_114 (lv_at hl 4 rfl) ?_
                          refine ld_i hx hb hK hP 10 0 rfl rfl (nI (m_rl u j)) (by omega) (by decide) rfl d_M_meet_116 ?_
                          refine st_i hx hb hK hP hD hS 13 0 rfl rfl (fun j9 => nI (va_up (va_up (va_up (m_cul u) 0 f) 1 s9) 2 (m_rl u j) j9)) (by omega) (by decide) (upd_nI _ _ _) d_M_meet_117 (fun H locs hP hD hS => ?_)
                          have hP : va_P (dC, dI) vwCl (wM q (m_mk (m_liq u) (m_lev u) (m_nS u) (m_fa u) (m_fb u) (m_seat u) (m_op u) (m_un u) (m_nV u) (m_may u) (m_nR u) (m_rf u) (m_rl u) (m_rw u) (m_rc u) (va_up (va_up (va_up (m_cul u) 0 f) 1 s9) 2 (m_rl u j)) (m_gu u) (m_te u) (m_th u) (m_wet u))) H := hP
                          have hD : va_D (va_A (wM q u) s.heap.size) (wM q (m_mk (m_liq u) (m_lev u) (m_nS u) (m_fa u) (m_fb u) (m_seat u) (m_op u) (m_un u) (m_nV u) (m_may u) (m_nR u) (m_rf u) (m_rl u) (m_rw u) (m_rc u) (va_up (va_up (va_up (m_cul u) 0 f) 1 s9) 2 (m_rl u j)) (m_gu u) (m_te u) (m_th u) (m_wet u))) := hD
                          refine lv_aload_n hx hb d_M_meet_118 rfl (lv_at hl 0 rfl) ?_
                          refine va_get (D := (dC, dI)) (ci := 4) (v := .ref (ma_cul q)) (C := "SeatProofsModel") (T := F_M) (N := 20) hx hb hts (iu_M _) hown hK hP 0 rfl rfl 15 (by decide) (hts _ (List.mem_cons_of_mem _ iw_455)) (fun _ h9 => h9) rfl d_M_meet_119 ?_
                          refine lv_iconst (v := nI 3) hx hb d_M_meet_122 (by decide) ?_
                          refine lv_aload_n hx hb d_M_meet_123 rfl (lv_at hl 0 rfl) ?_
                          refine va_get (D := (dC, dI)) (ci := 4) (v := .ref (ma_rl q)) (C := "SeatProofsModel") (T := F_M) (N := 20) hx hb hts (iu_M _) hown hK hP 0 rfl rfl 12 (by decide) (hts _ (List.mem_cons_of_mem _ iw_452)) (fun _ h9 => h9) rfl d_M_meet_124 ?_
                          refine lv_iload hx hb d_M_meet_127 (lv_at hl 5 rfl) ?_
                          refine ld_i hx hb hK hP 10 0 rfl rfl (nI (m_rl u k)) (by omega) (by decide) rfl d_M_meet_129 ?_
                          refine st_i hx hb hK hP hD hS 13 0 rfl rfl (fun j9 => nI (va_up (va_up (va_up (va_up (m_cul u) 0 f) 1 s9) 2 (m_rl u j)) 3 (m_rl u k) j9)) (by omega) (by decide) (upd_nI _ _ _) d_M_meet_130 (fun H locs hP hD hS => ?_)
                          have hP : va_P (dC, dI) vwCl (wM q (m_mk (m_liq u) (m_lev u) (m_nS u) (m_fa u) (m_fb u) (m_seat u) (m_op u) (m_un u) (m_nV u) (m_may u) (m_nR u) (m_rf u) (m_rl u) (m_rw u) (m_rc u) (va_up (va_up (va_up (va_up (m_cul u) 0 f) 1 s9) 2 (m_rl u j)) 3 (m_rl u k)) (m_gu u) (m_te u) (m_th u) (m_wet u))) H := hP
                          have hD : va_D (va_A (wM q u) s.heap.size) (wM q (m_mk (m_liq u) (m_lev u) (m_nS u) (m_fa u) (m_fb u) (m_seat u) (m_op u) (m_un u) (m_nV u) (m_may u) (m_nR u) (m_rf u) (m_rl u) (m_rw u) (m_rc u) (va_up (va_up (va_up (va_up (m_cul u) 0 f) 1 s9) 2 (m_rl u j)) 3 (m_rl u k)) (m_gu u) (m_te u) (m_th u) (m_wet u))) := hD
                          refine lv_iconst (v := nI 1) hx hb d_M_meet_131 (by decide) ?_
                          refine tp_i (bI true) (by decide) ?_
                          exact W.zret hx hb hr (bI_narrow _) (fun t9 ht9 hW9 => ⟨⟨_, (m_mk (m_liq u) (m_lev u) (m_nS u) (m_fa u) (m_fb u) (m_seat u) (m_op u) (m_un u) (m_nV u) (m_may u) (m_nR u) (m_rf u) (m_rl u) (m_rw u) (m_rc u) (va_up (va_up (va_up (va_up (m_cul u) 0 f) 1 s9) 2 (m_rl u j)) 3 (m_rl u k)) (m_gu u) (m_te u) (m_th u) (m_wet u)), rfl, ⟨true, va_up (va_up (va_up (va_up (m_cul u) 0 f) 1 s9) 2 (m_rl u j)) 3 (m_rl u k), rfl, rfl, Or.inr ⟨rfl, s9, j, k, by omega, by omega, by omega, by omega, ⟨c_5, c_7, c_8⟩, hN2, hN13, hN28, rfl⟩⟩, by rw [ht9]; exact hP, va_K.moved hW9.alike hK, hD⟩, hS.F ht9⟩) hS.2.2 d_M_meet_132
              exact L28 _ (j + 1) (by omega) (by omega) (fun t h1 h2 => absurd h1 (by omega)) (Nat.lt_succ_self _) _ _ ls hP hD hS (lv_sub hl [1, 2, 3, 4, 5, 0] rfl)
        exact L13 _ a (Nat.le_refl _) ha (fun t h1 h2 => absurd h1 (by omega)) (Nat.lt_succ_self _) _ _ ls hP hD hS (lv_sub hl [1, 2, 3, 4, 0] rfl)
  exact L2 _ 0 (Nat.zero_le _) (fun t ht => absurd ht (Nat.not_lt_zero t)) (Nat.lt_succ_self _) _ _ ls hP hD hS (lv_sub hl [1, 2, 3, 0] rfl)
end
section
set_option maxHeartbeats 4000000 in
set_option maxRecDepth 100000 in
theorem c_M_isRight (l : Launch) (dC : Nat → ClassId) (dI : Nat → Nat → Nat) (q : MA) (u : MSt) (sz : Nat) (k : Nat) (hu : MOk u) (hk : k < 975) : Met l y_M_isRight w_M_isRight ({ frames := 2, cells := 0, slots := 0, locals := 53 }) (qPc (dC, dI) vwCl (tM q) (wM q u) sz [Value.ref (ma_o q), Value.int (nI k)]) (va_Qi (fun (r : Int32) (z : MSt) => ∃ w b, z = m_s_wet u w ∧ r = bI b) (qB (dC, dI) vwCl (tM q) (wM q u) sz (wM q)) (va_A (wM q u) sz)) 0 0 (va_A (wM q u) sz) := by
  refine Met.ofW (cc := b_M_isRight) (maxL := 6) (ret := (some .boolean)) (by decide) rfl ?_
  intro p e s m args below meth c s₁ B hml hv
  obtain ⟨rfl, hsz, hP, hK, hD0, hN⟩ := hv
  have hx := B.exec
  have hb := B.bytes
  have hr := B.returns
  have hts := atoms_spec (ws := w_M_isRight) B.pre
  have hown : s.vm.findClass "SeatProofsModel" = some m.cls := findClass_of_methodNamed B.named
  have hlocks := B.notSynchronized
  subst hsz
  have hD := hD0.self (sz := s.heap.size)
  have hA : ∀ z : Nat, s.heap.size ≤ z → va_A (wM q u) s.heap.size z := fun z h => Or.inr h
  have hS : va_S (va_A (wM q u) s.heap.size) s.heap s.heap [] := va_S.rf
  have hl := lv_entry ([Value.ref (ma_o q), Value.int (nI k)]) (n := 6) (Nat.le_of_ble_eq_true rfl)
  rw [lg_entry_eq]
  generalize (lg_sl ([Value.ref (ma_o q), Value.int (nI k)]) ++ List.replicate (6 - (lg_sl ([Value.ref (ma_o q), Value.int (nI k)])).length) Slot.unset).toArray = ls at hl ⊢
  have hl : lv_has ls 6 [(0, .ref (ma_o q)), (1, .int (nI k))] := hl
  obtain ⟨k1, k2, k3, k4, k5, k6, k7, k8, k9, k10, k11⟩ := id hu
  refine lv_aload_n hx hb d_M_isRight_0 rfl (lv_at hl 0 rfl) ?_
  refine lv_aload_n hx hb d_M_isRight_1 rfl (lv_at hl 0 rfl) ?_
  refine va_get (D := (dC, dI)) (ci := 4) (v := .ref (ma_rl q)) (C := "SeatProofsModel") (T := F_M) (N := 20) hx hb hts (iu_M _) hown hK hP 0 rfl rfl 12 (by decide) (hts _ (List.mem_cons_of_mem _ iw_452)) (fun _ h9 => h9) rfl d_M_isRight_2 ?_
  refine lv_iload_n hx hb d_M_isRight_5 rfl (lv_at hl 1 rfl) ?_
  refine ld_i hx hb hK hP 10 0 rfl rfl (nI (m_rl u k)) (by omega) (by decide) rfl d_M_isRight_6 ?_
  refine lv_aload_n hx hb d_M_isRight_7 rfl (lv_at hl 0 rfl) ?_
  refine va_get (D := (dC, dI)) (ci := 4) (v := .ref (ma_rf q)) (C := "SeatProofsModel") (T := F_M) (N := 20) hx hb hts (iu_M _) hown hK hP 0 rfl rfl 11 (by decide) (hts _ (List.mem_cons_of_mem _ iw_451)) (fun _ h9 => h9) rfl d_M_isRight_8 ?_
  refine lv_iload_n hx hb d_M_isRight_11 rfl (lv_at hl 1 rfl) ?_
  refine ld_i hx hb hK hP 9 0 rfl rfl (nI (m_rf u k)) (by omega) (by decide) rfl d_M_isRight_12 ?_
  refine cq_l (va_runV (As := [.int (nI (m_rl u k)), .int (nI (m_rf u k))]) (rest := []) ⟨hx, hb, hml, hown, hts⟩ (c_M_flood l dC dI q u _ (m_rl u k) (m_rf u k) hu (k8 _) (k7 _)) (cwV 2 hts (good_up (good_V iw_534 iw_536 ip_11 iw_5 gg_M_flood)) rfl rfl rfl (by decide +kernel) ⟨Nat.le_of_ble_eq_true rfl, Nat.le_of_ble_eq_true rfl⟩) (pv_Q [.int (nI (m_rl u k)), .int (nI (m_rf u k))] hN hK hP hD (ci := 4) (q0 := 0) rfl rfl) rfl rfl hl.1 rfl (lv_room (Nat.le_of_ble_eq_true rfl)) d_M_isRight_13 ⟨Nat.le_of_ble_eq_true rfl, Nat.le_of_ble_eq_true rfl⟩) hD hS hA (fun r_3 z_2 H locs hr_1 hP hD hS => ?_)
  obtain ⟨w_4, rfl, rfl⟩ := hr_1
  have hP : va_P (dC, dI) vwCl (wM q (m_mk (m_liq u) (m_lev u) (m_nS u) (m_fa u) (m_fb u) (m_seat u) (m_op u) (m_un u) (m_nV u) (m_may u) (m_nR u) (m_rf u) (m_rl u) (m_rw u) (m_rc u) (m_cul u) (m_gu u) (m_te u) (m_th u) w_4)) H := hP
  have hD : va_D (va_A (wM q u) s.heap.size) (wM q (m_mk (m_liq u) (m_lev u) (m_nS u) (m_fa u) (m_fb u) (m_seat u) (m_op u) (m_un u) (m_nV u) (m_may u) (m_nR u) (m_rf u) (m_rl u) (m_rw u) (m_rc u) (m_cul u) (m_gu u) (m_te u) (m_th u) w_4)) := hD
  refine tp_l (mF u (m_rl u k) (m_rf u k)) (mF_cg rfl rfl rfl rfl rfl rfl rfl rfl rfl) ?_
  refine lv_lstore_n (lv' := [(2, .long (mF u (m_rl u k) (m_rf u k))), (0, .ref (ma_o q)), (1, .int (nI k))]) hx hb d_M_isRight_16 rfl hl (by decide) rfl (fun ls hl => ?_)
  have L54 : ∀ (b : Bool), ∀ (H : Heap) (locs : List Loc) (ls : Array Slot), va_P (dC, dI) vwCl (wM q (m_mk (m_liq u) (m_lev u) (m_nS u) (m_fa u) (m_fb u) (m_seat u) (m_op u) (m_un u) (m_nV u) (m_may u) (m_nR u) (m_rf u) (m_rl u) (m_rw u) (m_rc u) (m_cul u) (m_gu u) (m_te u) (m_th u) w_4)) H → va_D (va_A (wM q u) s.heap.size) (wM q (m_mk (m_liq u) (m_lev u) (m_nS u) (m_fa u) (m_fb u) (m_seat u) (m_op u) (m_un u) (m_nV u) (m_may u) (m_nR u) (m_rf u) (m_rl u) (m_rw u) (m_rc u) (m_cul u) (m_gu u) (m_te u) (m_th u) w_4)) → va_S (va_A (wM q u) s.heap.size) s.heap H locs → lv_has ls 6 [(0, .ref (ma_o q)), (1, .int (nI k)), (2, .long (mF u (m_rl u k) (m_rf u k)))] → W p l e (headSpec w_M_isRight ({ frames := 2, cells := 0, slots := 0, locals := 53 })).room s m [Value.ref (ma_o q), Value.int (nI k)].toArray below meth c H locs 0 0 (MQ below (va_Qi (fun (r : Int32) (z : MSt) => ∃ w b, z = m_s_wet u w ∧ r = bI b) (qB (dC, dI) vwCl (tM q) (wM q u) s.heap.size (wM q)) (va_A (wM q u) s.heap.size)) [Value.ref (ma_o q), Value.int (nI k)].toArray s 0 0 (va_A (wM q u) s.heap.size)) (F0 m 54 ls [.int (bI b)]) := by
    intro b  H locs ls hP hD hS hl
    refine lv_istore (lv' := [(4, .int (bI b)), (0, .ref (ma_o q)), (1, .int (nI k)), (2, .long (mF u (m_rl u k) (m_rf u k)))]) hx hb d_M_isRight_54 hl (by decide) rfl (fun ls hl => ?_)
    refine lv_iconst (v := nI 0) hx hb d_M_isRight_56 (by decide) ?_
    refine lv_istore (lv' := [(5, .int (nI 0)), (4, .int (bI b)), (0, .ref (ma_o q)), (1, .int (nI k)), (2, .long (mF u (m_rl u k) (m_rf u k)))]) hx hb d_M_isRight_57 hl (by decide) rfl (fun ls hl => ?_)
    have L59 : ∀ (n59 : Nat) (i : Nat) (b2 : Bool), (i ≤ m_nS u) → m_nS u - i < n59 → ∀ (H : Heap) (locs : List Loc) (ls : Array Slot), va_P (dC, dI) vwCl (wM q (m_mk (m_liq u) (m_lev u) (m_nS u) (m_fa u) (m_fb u) (m_seat u) (m_op u) (m_un u) (m_nV u) (m_may u) (m_nR u) (m_rf u) (m_rl u) (m_rw u) (m_rc u) (m_cul u) (m_gu u) (m_te u) (m_th u) w_4)) H → va_D (va_A (wM q u) s.heap.size) (wM q (m_mk (m_liq u) (m_lev u) (m_nS u) (m_fa u) (m_fb u) (m_seat u) (m_op u) (m_un u) (m_nV u) (m_may u) (m_nR u) (m_rf u) (m_rl u) (m_rw u) (m_rc u) (m_cul u) (m_gu u) (m_te u) (m_th u) w_4)) → va_S (va_A (wM q u) s.heap.size) s.heap H locs → lv_has ls 6 [(0, .ref (ma_o q)), (1, .int (nI k)), (2, .long (mF u (m_rl u k) (m_rf u k))), (4, .int (bI b2)), (5, .int (nI i))] → W p l e (headSpec w_M_isRight ({ frames := 2, cells := 0, slots := 0, locals := 53 })).room s m [Value.ref (ma_o q), Value.int (nI k)].toArray below meth c H locs 0 0 (MQ below (va_Qi (fun (r : Int32) (z : MSt) => ∃ w b, z = m_s_wet u w ∧ r = bI b) (qB (dC, dI) vwCl (tM q) (wM q u) s.heap.size (wM q)) (va_A (wM q u) s.heap.size)) [Value.ref (ma_o q), Value.int (nI k)].toArray s 0 0 (va_A (wM q u) s.heap.size)) (F0 m 59 ls []) := by
      intro n59
      induction n59 with
      | zero => intro i b2 hi59 hm; exact absurd hm (Nat.not_lt_zero _)
      | succ n59 ih59 =>
        intro i b2 hi59 hm59 H locs ls hP hD hS hl
        refine lv_iload hx hb d_M_isRight_59 (lv_at hl 4 rfl) ?_
        refine lv_aload_n hx hb d_M_isRight_61 rfl (lv_at hl 0 rfl) ?_
        refine va_get (D := (dC, dI)) (ci := 4) (v := .int (nI (m_nS u))) (C := "SeatProofsModel") (T := F_M) (N := 20) hx hb hts (iu_M _) hown hK hP 0 rfl rfl 2 (by decide) (hts _ (List.mem_cons_of_mem _ iw_442)) (fun _ h9 => h9) rfl d_M_isRight_62 ?_
        refine nv_ge (tgt := 146) hx hb d_M_isRight_65 (by decide) (by omega) (by omega) (fun c_5 => ?_) (fun c_5 => ?_)
        · refine lv_iload hx hb d_M_isRight_146 (lv_at hl 3 rfl) ?_
          exact W.zret hx hb hr (bI_narrow _) (fun t9 ht9 hW9 => ⟨⟨_, (m_mk (m_liq u) (m_lev u) (m_nS u) (m_fa u) (m_fb u) (m_seat u) (m_op u) (m_un u) (m_nV u) (m_may u) (m_nR u) (m_rf u) (m_rl u) (m_rw u) (m_rc u) (m_cul u) (m_gu u) (m_te u) (m_th u) w_4), rfl, ⟨w_4, b2, rfl, rfl⟩, by rw [ht9]; exact hP, va_K.moved hW9.alike hK, hD⟩, hS.F ht9⟩) hS.2.2 d_M_isRight_148
        · refine lv_iload hx hb d_M_isRight_68 (lv_at hl 3 rfl) ?_
          refine b0_eq (tgt := 146) hx hb d_M_isRight_70 (by decide) (fun c_6 => ?_) (fun c_6 => ?_)
          · refine lv_iload hx hb d_M_isRight_146 (lv_at hl 3 rfl) ?_
            exact W.zret hx hb hr (bI_narrow _) (fun t9 ht9 hW9 => ⟨⟨_, (m_mk (m_liq u) (m_lev u) (m_nS u) (m_fa u) (m_fb u) (m_seat u) (m_op u) (m_un u) (m_nV u) (m_may u) (m_nR u) (m_rf u) (m_rl u) (m_rw u) (m_rc u) (m_cul u) (m_gu u) (m_te u) (m_th u) w_4), rfl, ⟨w_4, b2, rfl, rfl⟩, by rw [ht9]; exact hP, va_K.moved hW9.alike hK, hD⟩, hS.F ht9⟩) hS.2.2 d_M_isRight_148
          · refine lv_lload_n hx hb d_M_isRight_73 rfl (lv_at hl 2 rfl) ?_
            refine lv_iload hx hb d_M_isRight_74 (lv_at hl 4 rfl) ?_
            refine vp_callSi (va_Run.run (va_runS (As := [.long (mF u (m_rl u k) (m_rf u k)), .int (nI i)]) (rest := []) ⟨hx, hb, hml, hown, hts⟩ (c_M_has l (mF u (m_rl u k) (m_rf u k)) i (by omega)) (va_cwS 2 hts (good_up (good_S iw_546 iw_547 iw_5 gg_M_has)) rfl rfl rfl (by decide +kernel) ⟨Nat.le_of_ble_eq_true rfl, Nat.le_of_ble_eq_true rfl⟩) (ps_0 [.long (mF u (m_rl u k) (m_rf u k)), .int (nI i)] hN) rfl rfl hl.1 rfl (lv_room (Nat.le_of_ble_eq_true rfl)) d_M_isRight_76 ⟨Nat.le_of_ble_eq_true rfl, Nat.le_of_ble_eq_true rfl⟩)) (fun r_7 hr_7 => ?_)
            subst hr_7
            refine b0_eq (tgt := 133) hx hb d_M_isRight_79 (by decide) (fun c_8 => ?_) (fun c_8 => ?_)
            · refine lv_iconst (v := nI 1) hx hb d_M_isRight_133 (by decide) ?_
              refine lv_goto (tgt := 138) hx hb d_M_isRight_134 (by decide) ?_
              refine lv_istore (lv' := [(4, .int (nI 1)), (0, .ref (ma_o q)), (1, .int (nI k)), (2, .long (mF u (m_rl u k) (m_rf u k))), (5, .int (nI i))]) hx hb d_M_isRight_138 hl (by decide) rfl (fun ls hl => ?_)
              refine lv_iinc (v := nI (i + 1)) (lv' := [(5, .int (nI (i + 1))), (4, .int (nI 1)), (0, .ref (ma_o q)), (1, .int (nI k)), (2, .long (mF u (m_rl u k) (m_rf u k)))]) hx hb d_M_isRight_140 hl (k := 4) rfl (nI_1 _) (by decide) rfl (fun ls hl => ?_)
              refine lv_goto (tgt := 59) hx hb d_M_isRight_143 (by decide) ?_
              exact ih59 (i + 1) true (by omega) (by omega) _ _ ls hP hD hS (lv_sub hl [2, 3, 4, 1, 0] rfl)
            · refine lv_aload_n hx hb d_M_isRight_82 rfl (lv_at hl 0 rfl) ?_
              refine va_get (D := (dC, dI)) (ci := 4) (v := .ref (ma_liq q)) (C := "SeatProofsModel") (T := F_M) (N := 20) hx hb hts (iu_M _) hown hK hP 0 rfl rfl 0 (by decide) (hts _ (List.mem_cons_of_mem _ iw_440)) (fun _ h9 => h9) rfl d_M_isRight_83 ?_
              refine lv_iload hx hb d_M_isRight_86 (lv_at hl 4 rfl) ?_
              refine ld_i hx hb hK hP 1 0 rfl rfl (nI (m_liq u i)) (by omega) (by decide) rfl d_M_isRight_88 ?_
              refine n0_eq (tgt := 133) hx hb d_M_isRight_89 (by decide) (by have := k4 i; omega) (fun c_9 => ?_) (fun c_9 => ?_)
              · refine lv_iconst (v := nI 1) hx hb d_M_isRight_133 (by decide) ?_
                refine lv_goto (tgt := 138) hx hb d_M_isRight_134 (by decide) ?_
                refine lv_istore (lv' := [(4, .int (nI 1)), (0, .ref (ma_o q)), (1, .int (nI k)), (2, .long (mF u (m_rl u k) (m_rf u k))), (5, .int (nI i))]) hx hb d_M_isRight_138 hl (by decide) rfl (fun ls hl => ?_)
                refine lv_iinc (v := nI (i + 1)) (lv' := [(5, .int (nI (i + 1))), (4, .int (nI 1)), (0, .ref (ma_o q)), (1, .int (nI k)), (2, .long (mF u (m_rl u k) (m_rf u k)))]) hx hb d_M_isRight_140 hl (k := 4) rfl (nI_1 _) (by decide) rfl (fun ls hl => ?_)
                refine lv_goto (tgt := 59) hx hb d_M_isRight_143 (by decide) ?_
                exact ih59 (i + 1) true (by omega) (by omega) _ _ ls hP hD hS (lv_sub hl [2, 3, 4, 1, 0] rfl)
              · refine lv_aload_n hx hb d_M_isRight_92 rfl (lv_at hl 0 rfl) ?_
                refine va_get (D := (dC, dI)) (ci := 4) (v := .ref (ma_liq q)) (C := "SeatProofsModel") (T := F_M) (N := 20) hx hb hts (iu_M _) hown hK hP 0 rfl rfl 0 (by decide) (hts _ (List.mem_cons_of_mem _ iw_440)) (fun _ h9 => h9) rfl d_M_isRight_93 ?_
                refine lv_iload hx hb d_M_isRight_96 (lv_at hl 4 rfl) ?_
                refine ld_i hx hb hK hP 1 0 rfl rfl (nI (m_liq u i)) (by omega) (by decide) rfl d_M_isRight_98 ?_
                refine lv_aload_n hx hb d_M_isRight_99 rfl (lv_at hl 0 rfl) ?_
                refine va_get (D := (dC, dI)) (ci := 4) (v := .ref (ma_rl q)) (C := "SeatProofsModel") (T := F_M) (N := 20) hx hb hts (iu_M _) hown hK hP 0 rfl rfl 12 (by decide) (hts _ (List.mem_cons_of_mem _ iw_452)) (fun _ h9 => h9) rfl d_M_isRight_100 ?_
                refine lv_iload_n hx hb d_M_isRight_103 rfl (lv_at hl 1 rfl) ?_
                refine ld_i hx hb hK hP 10 0 rfl rfl (nI (m_rl u k)) (by omega) (by decide) rfl d_M_isRight_104 ?_
                refine nv_eq (tgt := 133) hx hb d_M_isRight_105 (by decide) (by have := k4 i; omega) (by have := k8 k; omega) (fun c_10 => ?_) (fun c_10 => ?_)
                · refine lv_iconst (v := nI 1) hx hb d_M_isRight_133 (by decide) ?_
                  refine lv_goto (tgt := 138) hx hb d_M_isRight_134 (by decide) ?_
                  refine lv_istore (lv' := [(4, .int (nI 1)), (0, .ref (ma_o q)), (1, .int (nI k)), (2, .long (mF u (m_rl u k) (m_rf u k))), (5, .int (nI i))]) hx hb d_M_isRight_138 hl (by decide) rfl (fun ls hl => ?_)
                  refine lv_iinc (v := nI (i + 1)) (lv' := [(5, .int (nI (i + 1))), (4, .int (nI 1)), (0, .ref (ma_o q)), (1, .int (nI k)), (2, .long (mF u (m_rl u k) (m_rf u k)))]) hx hb d_M_isRight_140 hl (k := 4) rfl (nI_1 _) (by decide) rfl (fun ls hl => ?_)
                  refine lv_goto (tgt := 59) hx hb d_M_isRight_143 (by decide) ?_
                  exact ih59 (i + 1) true (by omega) (by omega) _ _ ls hP hD hS (lv_sub hl [2, 3, 4, 1, 0] rfl)
                · refine lv_aload_n hx hb d_M_isRight_108 rfl (lv_at hl 0 rfl) ?_
                  refine va_get (D := (dC, dI)) (ci := 4) (v := .ref (ma_may q)) (C := "SeatProofsModel") (T := F_M) (N := 20) hx hb hts (iu_M _) hown hK hP 0 rfl rfl 9 (by decide) (hts _ (List.mem_cons_of_mem _ iw_449)) (fun _ h9 => h9) rfl d_M_isRight_109 ?_
                  refine lv_bipush (v := nI 16) hx hb d_M_isRight_112 (by decide) ?_
                  refine lv_aload_n hx hb d_M_isRight_114 rfl (lv_at hl 0 rfl) ?_
                  refine va_get (D := (dC, dI)) (ci := 4) (v := .ref (ma_rl q)) (C := "SeatProofsModel") (T := F_M) (N := 20) hx hb hts (iu_M _) hown hK hP 0 rfl rfl 12 (by decide) (hts _ (List.mem_cons_of_mem _ iw_452)) (fun _ h9 => h9) rfl d_M_isRight_115 ?_
                  refine lv_iload_n hx hb d_M_isRight_118 rfl (lv_at hl 1 rfl) ?_
                  refine ld_i hx hb hK hP 10 0 rfl rfl (nI (m_rl u k)) (by omega) (by decide) rfl d_M_isRight_119 ?_
                  refine lv_imul hx hb d_M_isRight_120 ?_
                  refine tp_i (nI (16 * (m_rl u k))) (pk_mul _ _) ?_
                  refine lv_aload_n hx hb d_M_isRight_121 rfl (lv_at hl 0 rfl) ?_
                  refine va_get (D := (dC, dI)) (ci := 4) (v := .ref (ma_liq q)) (C := "SeatProofsModel") (T := F_M) (N := 20) hx hb hts (iu_M _) hown hK hP 0 rfl rfl 0 (by decide) (hts _ (List.mem_cons_of_mem _ iw_440)) (fun _ h9 => h9) rfl d_M_isRight_122 ?_
                  refine lv_iload hx hb d_M_isRight_125 (lv_at hl 4 rfl) ?_
                  refine ld_i hx hb hK hP 1 0 rfl rfl (nI (m_liq u i)) (by omega) (by decide) rfl d_M_isRight_127 ?_
                  refine lv_iadd hx hb d_M_isRight_128 ?_
                  refine tp_i (nI ((16 * (m_rl u k)) + m_liq u i)) (nI_add _ _) ?_
                  refine ld_z hx hb hK hP 8 2 rfl rfl (bI (m_may u ((16 * (m_rl u k)) + m_liq u i))) (by have := k4 i; have := k8 k; omega) (by decide) rfl d_M_isRight_129 ?_
                  refine b0_eq (tgt := 137) hx hb d_M_isRight_130 (by decide) (fun c_11 => ?_) (fun c_11 => ?_)
                  · refine lv_iconst (v := nI 0) hx hb d_M_isRight_137 (by decide) ?_
                    refine lv_istore (lv' := [(4, .int (nI 0)), (0, .ref (ma_o q)), (1, .int (nI k)), (2, .long (mF u (m_rl u k) (m_rf u k))), (5, .int (nI i))]) hx hb d_M_isRight_138 hl (by decide) rfl (fun ls hl => ?_)
                    refine lv_iinc (v := nI (i + 1)) (lv' := [(5, .int (nI (i + 1))), (4, .int (nI 0)), (0, .ref (ma_o q)), (1, .int (nI k)), (2, .long (mF u (m_rl u k) (m_rf u k)))]) hx hb d_M_isRight_140 hl (k := 4) rfl (nI_1 _) (by decide) rfl (fun ls hl => ?_)
                    refine lv_goto (tgt := 59) hx hb d_M_isRight_143 (by decide) ?_
                    exact ih59 (i + 1) false (by omega) (by omega) _ _ ls hP hD hS (lv_sub hl [2, 3, 4, 1, 0] rfl)
                  · refine lv_iconst (v := nI 1) hx hb d_M_isRight_133 (by decide) ?_
                    refine lv_goto (tgt := 138) hx hb d_M_isRight_134 (by decide) ?_
                    refine lv_istore (lv' := [(4, .int (nI 1)), (0, .ref (ma_o q)), (1, .int (nI k)), (2, .long (mF u (m_rl u k) (m_rf u k))), (5, .int (nI i))]) hx hb d_M_isRight_138 hl (by decide) rfl (fun ls hl => ?_)
                    refine lv_iinc (v := nI (i + 1)) (lv' := [(5, .int (nI (i + 1))), (4, .int (nI 1)), (0, .ref (ma_o q)), (1, .int (nI k)), (2, .long (mF u (m_rl u k) (m_rf u k)))]) hx hb d_M_isRight_140 hl (k := 4) rfl (nI_1 _) (by decide) rfl (fun ls hl => ?_)
                    refine lv_goto (tgt := 59) hx hb d_M_isRight_143 (by decide) ?_
                    exact ih59 (i + 1) true (by omega) (by omega) _ _ ls hP hD hS (lv_sub hl [2, 3, 4, 1, 0] rfl)
    exact L59 _ 0 b (Nat.zero_le _) (Nat.lt_succ_self _) _ _ ls hP hD hS (lv_sub hl [2, 3, 4, 1, 0] rfl)
  refine lv_lload_n hx hb d_M_isRight_17 rfl (lv_at hl 0 rfl) ?_
  refine lv_aload_n hx hb d_M_isRight_18 rfl (lv_at hl 1 rfl) ?_
  refine va_get (D := (dC, dI)) (ci := 4) (v := .ref (ma_rw q)) (C := "SeatProofsModel") (T := F_M) (N := 20) hx hb hts (iu_M _) hown hK hP 0 rfl rfl 13 (by decide) (hts _ (List.mem_cons_of_mem _ iw_453)) (fun _ h9 => h9) rfl d_M_isRight_19 ?_
  refine lv_iload_n hx hb d_M_isRight_22 rfl (lv_at hl 2 rfl) ?_
  refine ld_l hx hb hK hP 11 1 rfl rfl (m_rw u k) (by omega) (by decide) rfl d_M_isRight_23 ?_
  refine W.lcmp hx hb d_M_isRight_24 ?_
  refine l0_ne (tgt := 53) hx hb d_M_isRight_25 (by decide) (fun c_12 => ?_) (fun c_12 => ?_)
  · refine lv_iconst (v := nI 0) hx hb d_M_isRight_53 (by decide) ?_
    refine tp_i (bI false) (by decide) ?_
    exact L54 false _ _ ls hP hD hS (lv_sub hl [1, 2, 0] rfl)
  · refine lv_aload_n hx hb d_M_isRight_28 rfl (lv_at hl 1 rfl) ?_
    refine lv_lload_n hx hb d_M_isRight_29 rfl (lv_at hl 0 rfl) ?_
    refine lv_aload_n hx hb d_M_isRight_30 rfl (lv_at hl 1 rfl) ?_
    refine va_get (D := (dC, dI)) (ci := 4) (v := .ref (ma_rf q)) (C := "SeatProofsModel") (T := F_M) (N := 20) hx hb hts (iu_M _) hown hK hP 0 rfl rfl 11 (by decide) (hts _ (List.mem_cons_of_mem _ iw_451)) (fun _ h9 => h9) rfl d_M_isRight_31 ?_
    refine lv_iload_n hx hb d_M_isRight_34 rfl (lv_at hl 2 rfl) ?_
    refine ld_i hx hb hK hP 9 0 rfl rfl (nI (m_rf u k)) (by omega) (by decide) rfl d_M_isRight_35 ?_
    refine vp_callSl (va_Run.run (va_runV (As := [.long (mF u (m_rl u k) (m_rf u k)), .int (nI (m_rf u k))]) (rest := []) ⟨hx, hb, hml, hown, hts⟩ (c_M_cut l dC dI q (m_mk (m_liq u) (m_lev u) (m_nS u) (m_fa u) (m_fb u) (m_seat u) (m_op u) (m_un u) (m_nV u) (m_may u) (m_nR u) (m_rf u) (m_rl u) (m_rw u) (m_rc u) (m_cul u) (m_gu u) (m_te u) (m_th u) w_4) (mF u (m_rl u k) (m_rf u k)) (m_rf u k) hu (k7 _)) (cwV 2 hts (good_up (good_V iw_542 iw_544 ip_13 iw_5 gg_M_cut)) rfl rfl rfl (by decide +kernel) ⟨Nat.le_of_ble_eq_true rfl, Nat.le_of_ble_eq_true rfl⟩) (pv_S [.long (mF u (m_rl u k) (m_rf u k)), .int (nI (m_rf u k))] hN hK hP (ci := 4) (q0 := 0) rfl rfl) rfl rfl hl.1 rfl (lv_room (Nat.le_of_ble_eq_true rfl)) d_M_isRight_36 ⟨Nat.le_of_ble_eq_true rfl, Nat.le_of_ble_eq_true rfl⟩)) (fun r_13 hr_13 => ?_)
    subst hr_13
    refine tp_l (mC u (mF u (m_rl u k) (m_rf u k)) (m_rf u k)) (mC_cg rfl rfl rfl rfl rfl rfl rfl) ?_
    refine lv_aload_n hx hb d_M_isRight_39 rfl (lv_at hl 1 rfl) ?_
    refine va_get (D := (dC, dI)) (ci := 4) (v := .ref (ma_rc q)) (C := "SeatProofsModel") (T := F_M) (N := 20) hx hb hts (iu_M _) hown hK hP 0 rfl rfl 14 (by decide) (hts _ (List.mem_cons_of_mem _ iw_454)) (fun _ h9 => h9) rfl d_M_isRight_40 ?_
    refine lv_iload_n hx hb d_M_isRight_43 rfl (lv_at hl 2 rfl) ?_
    refine ld_l hx hb hK hP 12 1 rfl rfl (m_rc u k) (by omega) (by decide) rfl d_M_isRight_44 ?_
    refine W.lcmp hx hb d_M_isRight_45 ?_
    refine l0_ne (tgt := 53) hx hb d_M_isRight_46 (by decide) (fun c_14 => ?_) (fun c_14 => ?_)
    · refine lv_iconst (v := nI 0) hx hb d_M_isRight_53 (by decide) ?_
      refine tp_i (bI false) (by decide) ?_
      exact L54 false _ _ ls hP hD hS (lv_sub hl [1, 2, 0] rfl)
    · refine lv_iconst (v := nI 1) hx hb d_M_isRight_49 (by decide) ?_
      refine lv_goto (tgt := 54) hx hb d_M_isRight_50 (by decide) ?_
      refine tp_i (bI true) (by decide) ?_
      exact L54 true _ _ ls hP hD hS (lv_sub hl [1, 2, 0] rfl)
set_option maxHeartbeats 4000000 in
set_option maxRecDepth 100000 in
theorem c_M_check (l : Launch) (dC : Nat → ClassId) (dI : Nat → Nat → Nat) (q : MA) (u : MSt) (sz : Nat) (hu : MOk u) : Met l y_M_check w_M_check ({ frames := 3, cells := 0, slots := 0, locals := 78 }) (qPc (dC, dI) vwCl (tM q) (wM q u) sz [Value.ref (ma_o q)]) (va_Qi (fun (r : Int32) (z : MSt) => ∃ w, z = m_s_th (m_s_wet u w) 0) (qB (dC, dI) vwCl (tM q) (wM q u) sz (wM q)) (va_A (wM q u) sz)) 0 0 (va_A (wM q u) sz) := by
  refine Met.ofW (cc := b_M_check) (maxL := 5) (ret := (some .int)) (by decide) rfl ?_
  intro p e s m args below meth c s₁ B hml hv
  obtain ⟨rfl, hsz, hP, hK, hD0, hN⟩ := hv
  have hx := B.exec
  have hb := B.bytes
  have hr := B.returns
  have hts := atoms_spec (ws := w_M_check) B.pre
  have hown : s.vm.findClass "SeatProofsModel" = some m.cls := findClass_of_methodNamed B.named
  have hlocks := B.notSynchronized
  subst hsz
  have hD := hD0.self (sz := s.heap.size)
  have hA : ∀ z : Nat, s.heap.size ≤ z → va_A (wM q u) s.heap.size z := fun z h => Or.inr h
  have hS : va_S (va_A (wM q u) s.heap.size) s.heap s.heap [] := va_S.rf
  have hl := lv_entry ([Value.ref (ma_o q)]) (n := 5) (Nat.le_of_ble_eq_true rfl)
  rw [lg_entry_eq]
  generalize (lg_sl ([Value.ref (ma_o q)]) ++ List.replicate (5 - (lg_sl ([Value.ref (ma_o q)])).length) Slot.unset).toArray = ls at hl ⊢
  have hl : lv_has ls 5 [(0, .ref (ma_o q))] := hl
  obtain ⟨k1, k2, k3, k4, k5, k6, k7, k8, k9, k10, k11⟩ := id hu
  refine lv_aload_n hx hb d_M_check_0 rfl (lv_at hl 0 rfl) ?_
  refine lv_iconst (v := nI 0) hx hb d_M_check_1 (by decide) ?_
  refine va_put (D := (dC, dI)) (ci := 4) (v := .int (nI 0)) (ty := .int) (C := "SeatProofsModel") (T := F_M) (N := 20) hx hb hts (iu_M _) t_M t_M_ok n_M hown hK hP hD hS 0 rfl rfl 18 (by decide) (hts _ (List.mem_cons_of_mem _ iw_458)) (fun _ h9 => h9) rfl (by decide +kernel) rfl rfl (Nat.le_of_ble_eq_true rfl) d_M_check_2 (fun H locs hP hD hS => ?_)
  have hP : va_P (dC, dI) vwCl (wM q (m_mk (m_liq u) (m_lev u) (m_nS u) (m_fa u) (m_fb u) (m_seat u) (m_op u) (m_un u) (m_nV u) (m_may u) (m_nR u) (m_rf u) (m_rl u) (m_rw u) (m_rc u) (m_cul u) (m_gu u) (m_te u) 0 (m_wet u))) H := hP
  have hD : va_D (va_A (wM q u) s.heap.size) (wM q (m_mk (m_liq u) (m_lev u) (m_nS u) (m_fa u) (m_fb u) (m_seat u) (m_op u) (m_un u) (m_nV u) (m_may u) (m_nR u) (m_rf u) (m_rl u) (m_rw u) (m_rc u) (m_cul u) (m_gu u) (m_te u) 0 (m_wet u))) := hD
  refine lv_iconst (v := nI 0) hx hb d_M_check_5 (by decide) ?_
  refine lv_istore_n (lv' := [(1, .int (nI 0)), (0, .ref (ma_o q))]) hx hb d_M_check_6 rfl hl (by decide) rfl (fun ls hl => ?_)
  have L7 : ∀ (n7 : Nat) (k : Nat) (w : Nat → Bool), (k ≤ m_nR u) → m_nR u - k < n7 → ∀ (H : Heap) (locs : List Loc) (ls : Array Slot), va_P (dC, dI) vwCl (wM q (m_mk (m_liq u) (m_lev u) (m_nS u) (m_fa u) (m_fb u) (m_seat u) (m_op u) (m_un u) (m_nV u) (m_may u) (m_nR u) (m_rf u) (m_rl u) (m_rw u) (m_rc u) (m_cul u) (m_gu u) (m_te u) 0 w)) H → va_D (va_A (wM q u) s.heap.size) (wM q (m_mk (m_liq u) (m_lev u) (m_nS u) (m_fa u) (m_fb u) (m_seat u) (m_op u) (m_un u) (m_nV u) (m_may u) (m_nR u) (m_rf u) (m_rl u) (m_rw u) (m_rc u) (m_cul u) (m_gu u) (m_te u) 0 w)) → va_S (va_A (wM q u) s.heap.size) s.heap H locs → lv_has ls 5 [(0, .ref (ma_o q)), (1, .int (nI k))] → W p l e (headSpec w_M_check ({ frames := 3, cells := 0, slots := 0, locals := 78 })).room s m [Value.ref (ma_o q)].toArray below meth c H locs 0 0 (MQ below (va_Qi (fun (r : Int32) (z : MSt) => ∃ w, z = m_s_th (m_s_wet u w) 0) (qB (dC, dI) vwCl (tM q) (wM q u) s.heap.size (wM q)) (va_A (wM q u) s.heap.size)) [Value.ref (ma_o q)].toArray s 0 0 (va_A (wM q u) s.heap.size)) (F0 m 7 ls []) := by
    intro n7
    induction n7 with
    | zero => intro k w hk7 hm; exact absurd hm (Nat.not_lt_zero _)
    | succ n7 ih7 =>
      intro k w hk7 hm7 H locs ls hP hD hS hl
      refine lv_iload_n hx hb d_M_check_7 rfl (lv_at hl 1 rfl) ?_
      refine lv_aload_n hx hb d_M_check_8 rfl (lv_at hl 0 rfl) ?_
      refine va_get (D := (dC, dI)) (ci := 4) (v := .int (nI (m_nR u))) (C := "SeatProofsModel") (T := F_M) (N := 20) hx hb hts (iu_M _) hown hK hP 0 rfl rfl 10 (by decide) (hts _ (List.mem_cons_of_mem _ iw_450)) (fun _ h9 => h9) rfl d_M_check_9 ?_
      refine nv_ge (tgt := 33) hx hb d_M_check_12 (by decide) (by omega) (by omega) (fun c_1 => ?_) (fun c_1 => ?_)
      · refine lv_iconst (v := nI 0) hx hb d_M_check_33 (by decide) ?_
        refine lv_istore_n (lv' := [(1, .int (nI 0)), (0, .ref (ma_o q))]) hx hb d_M_check_34 rfl hl (by decide) rfl (fun ls hl => ?_)
        have L35 : ∀ (n35 : Nat) (f : Nat), (f ≤ m_nV u + 1) → m_nV u + 1 - f < n35 → ∀ (H : Heap) (locs : List Loc) (ls : Array Slot), va_P (dC, dI) vwCl (wM q (m_mk (m_liq u) (m_lev u) (m_nS u) (m_fa u) (m_fb u) (m_seat u) (m_op u) (m_un u) (m_nV u) (m_may u) (m_nR u) (m_rf u) (m_rl u) (m_rw u) (m_rc u) (m_cul u) (m_gu u) (m_te u) 0 w)) H → va_D (va_A (wM q u) s.heap.size) (wM q (m_mk (m_liq u) (m_lev u) (m_nS u) (m_fa u) (m_fb u) (m_seat u) (m_op u) (m_un u) (m_nV u) (m_may u) (m_nR u) (m_rf u) (m_rl u) (m_rw u) (m_rc u) (m_cul u) (m_gu u) (m_te u) 0 w)) → va_S (va_A (wM q u) s.heap.size) s.heap H locs → lv_has ls 5 [(0, .ref (ma_o q)), (1, .int (nI f))] → W p l e (headSpec w_M_check ({ frames := 3, cells := 0, slots := 0, locals := 78 })).room s m [Value.ref (ma_o q)].toArray below meth c H locs 0 0 (MQ below (va_Qi (fun (r : Int32) (z : MSt) => ∃ w, z = m_s_th (m_s_wet u w) 0) (qB (dC, dI) vwCl (tM q) (wM q u) s.heap.size (wM q)) (va_A (wM q u) s.heap.size)) [Value.ref (ma_o q)].toArray s 0 0 (va_A (wM q u) s.heap.size)) (F0 m 35 ls []) := by
          intro n35
          induction n35 with
          | zero => intro f hf35 hm; exact absurd hm (Nat.not_lt_zero _)
          | succ n35 ih35 =>
            intro f hf35 hm35 H locs ls hP hD hS hl
            refine lv_iload_n hx hb d_M_check_35 rfl (lv_at hl 1 rfl) ?_
            refine lv_aload_n hx hb d_M_check_36 rfl (lv_at hl 0 rfl) ?_
            refine va_get (D := (dC, dI)) (ci := 4) (v := .int (nI (m_nV u))) (C := "SeatProofsModel") (T := F_M) (N := 20) hx hb hts (iu_M _) hown hK hP 0 rfl rfl 8 (by decide) (hts _ (List.mem_cons_of_mem _ iw_448)) (fun _ h9 => h9) rfl d_M_check_37 ?_
            refine nv_gt (tgt := 138) hx hb d_M_check_40 (by decide) (by omega) (by omega) (fun c_2 => ?_) (fun c_2 => ?_)
            · refine lv_iconst (v := nI 0) hx hb d_M_check_138 (by decide) ?_
              exact W.iret hx hb hr (fun t9 ht9 hW9 => ⟨⟨_, (m_mk (m_liq u) (m_lev u) (m_nS u) (m_fa u) (m_fb u) (m_seat u) (m_op u) (m_un u) (m_nV u) (m_may u) (m_nR u) (m_rf u) (m_rl u) (m_rw u) (m_rc u) (m_cul u) (m_gu u) (m_te u) 0 w), rfl, ⟨w, rfl⟩, by rw [ht9]; exact hP, va_K.moved hW9.alike hK, hD⟩, hS.F ht9⟩) hS.2.2 d_M_check_139
            · refine lv_iconst (v := nI 1) hx hb d_M_check_43 (by decide) ?_
              refine lv_istore_n (lv' := [(2, .int (nI 1)), (0, .ref (ma_o q)), (1, .int (nI f))]) hx hb d_M_check_44 rfl hl (by decide) rfl (fun ls hl => ?_)
              have L45 : ∀ (n45 : Nat) (l9 : Nat), (1 ≤ l9) → (l9 ≤ 16) → 16 - l9 < n45 → ∀ (H : Heap) (locs : List Loc) (ls : Array Slot), va_P (dC, dI) vwCl (wM q (m_mk (m_liq u) (m_lev u) (m_nS u) (m_fa u) (m_fb u) (m_seat u) (m_op u) (m_un u) (m_nV u) (m_may u) (m_nR u) (m_rf u) (m_rl u) (m_rw u) (m_rc u) (m_cul u) (m_gu u) (m_te u) 0 w)) H → va_D (va_A (wM q u) s.heap.size) (wM q (m_mk (m_liq u) (m_lev u) (m_nS u) (m_fa u) (m_fb u) (m_seat u) (m_op u) (m_un u) (m_nV u) (m_may u) (m_nR u) (m_rf u) (m_rl u) (m_rw u) (m_rc u) (m_cul u) (m_gu u) (m_te u) 0 w)) → va_S (va_A (wM q u) s.heap.size) s.heap H locs → lv_has ls 5 [(0, .ref (ma_o q)), (1, .int (nI f)), (2, .int (nI l9))] → W p l e (headSpec w_M_check ({ frames := 3, cells := 0, slots := 0, locals := 78 })).room s m [Value.ref (ma_o q)].toArray below meth c H locs 0 0 (MQ below (va_Qi (fun (r : Int32) (z : MSt) => ∃ w, z = m_s_th (m_s_wet u w) 0) (qB (dC, dI) vwCl (tM q) (wM q u) s.heap.size (wM q)) (va_A (wM q u) s.heap.size)) [Value.ref (ma_o q)].toArray s 0 0 (va_A (wM q u) s.heap.size)) (F0 m 45 ls []) := by
                intro n45
                induction n45 with
                | zero => intro l9 hl45 hl45b hm; exact absurd hm (Nat.not_lt_zero _)
                | succ n45 ih45 =>
                  intro l9 hl45 hl45b hm45 H locs ls hP hD hS hl
                  refine lv_iload_n hx hb d_M_check_45 rfl (lv_at hl 2 rfl) ?_
                  refine lv_bipush (v := nI 16) hx hb d_M_check_46 (by decide) ?_
                  refine nv_ge (tgt := 132) hx hb d_M_check_48 (by decide) (by omega) (by omega) (fun c_3 => ?_) (fun c_3 => ?_)
                  · refine lv_iinc (v := nI (f + 1)) (lv' := [(1, .int (nI (f + 1))), (0, .ref (ma_o q)), (2, .int (nI l9))]) hx hb d_M_check_132 hl (k := 1) rfl (nI_1 _) (by decide) rfl (fun ls hl => ?_)
                    refine lv_goto (tgt := 35) hx hb d_M_check_135 (by decide) ?_
                    exact ih35 (f + 1) (by omega) (by omega) _ _ ls hP hD hS (lv_sub hl [1, 0] rfl)
                  · refine lv_aload_n hx hb d_M_check_51 rfl (lv_at hl 0 rfl) ?_
                    refine lv_iload_n hx hb d_M_check_52 rfl (lv_at hl 2 rfl) ?_
                    refine vp_callSi (va_Run.run (va_runV (As := [.int (nI l9)]) (rest := []) ⟨hx, hb, hml, hown, hts⟩ (c_M_isThere l dC dI q (m_mk (m_liq u) (m_lev u) (m_nS u) (m_fa u) (m_fb u) (m_seat u) (m_op u) (m_un u) (m_nV u) (m_may u) (m_nR u) (m_rf u) (m_rl u) (m_rw u) (m_rc u) (m_cul u) (m_gu u) (m_te u) 0 w) l9 hu (by omega)) (cwV 1 hts (good_up (good_V iw_530 iw_532 ip_10 iw_5 gg_M_isThere)) rfl rfl rfl (by decide +kernel) ⟨Nat.le_of_ble_eq_true rfl, Nat.le_of_ble_eq_true rfl⟩) (pv_S [.int (nI l9)] hN hK hP (ci := 4) (q0 := 0) rfl rfl) rfl rfl hl.1 rfl (lv_room (Nat.le_of_ble_eq_true rfl)) d_M_check_53 ⟨Nat.le_of_ble_eq_true rfl, Nat.le_of_ble_eq_true rfl⟩)) (fun r_4 hr_4 => ?_)
                    subst hr_4
                    refine tp_i (bI (mTh u l9)) (congrArg bI (mTh_cg rfl rfl)) ?_
                    refine b0_ne (tgt := 63) hx hb d_M_check_56 (by decide) (fun c_5 => ?_) (fun c_5 => ?_)
                    · refine lv_iconst (v := nI 0) hx hb d_M_check_63 (by decide) ?_
                      refine lv_istore_n (lv' := [(3, .int (nI 0)), (0, .ref (ma_o q)), (1, .int (nI f)), (2, .int (nI l9))]) hx hb d_M_check_64 rfl hl (by decide) rfl (fun ls hl => ?_)
                      refine lv_iconst (v := nI 0) hx hb d_M_check_65 (by decide) ?_
                      refine lv_istore (lv' := [(4, .int (nI 0)), (3, .int (nI 0)), (0, .ref (ma_o q)), (1, .int (nI f)), (2, .int (nI l9))]) hx hb d_M_check_66 hl (by decide) rfl (fun ls hl => ?_)
                      have L68 : ∀ (n68 : Nat) (k2 : Nat) (b : Bool), (k2 ≤ m_nR u) → m_nR u - k2 < n68 → ∀ (H : Heap) (locs : List Loc) (ls : Array Slot), va_P (dC, dI) vwCl (wM q (m_mk (m_liq u) (m_lev u) (m_nS u) (m_fa u) (m_fb u) (m_seat u) (m_op u) (m_un u) (m_nV u) (m_may u) (m_nR u) (m_rf u) (m_rl u) (m_rw u) (m_rc u) (m_cul u) (m_gu u) (m_te u) 0 w)) H → va_D (va_A (wM q u) s.heap.size) (wM q (m_mk (m_liq u) (m_lev u) (m_nS u) (m_fa u) (m_fb u) (m_seat u) (m_op u) (m_un u) (m_nV u) (m_may u) (m_nR u) (m_rf u) (m_rl u) (m_rw u) (m_rc u) (m_cul u) (m_gu u) (m_te u) 0 w)) → va_S (va_A (wM q u) s.heap.size) s.heap H locs → lv_has ls 5 [(0, .ref (ma_o q)), (1, .int (nI f)), (2, .int (nI l9)), (3, .int (bI b)), (4, .int (nI k2))] → W p l e (headSpec w_M_check ({ frames := 3, cells := 0, slots := 0, locals := 78 })).room s m [Value.ref (ma_o q)].toArray below meth c H locs 0 0 (MQ below (va_Qi (fun (r : Int32) (z : MSt) => ∃ w, z = m_s_th (m_s_wet u w) 0) (qB (dC, dI) vwCl (tM q) (wM q u) s.heap.size (wM q)) (va_A (wM q u) s.heap.size)) [Value.ref (ma_o q)].toArray s 0 0 (va_A (wM q u) s.heap.size)) (F0 m 68 ls []) := by
                        intro n68
                        induction n68 with
                        | zero => intro k2 b hk68 hm; exact absurd hm (Nat.not_lt_zero _)
                        | succ n68 ih68 =>
                          intro k2 b hk68 hm68 H locs ls hP hD hS hl
                          refine lv_iload hx hb d_M_check_68 (lv_at hl 4 rfl) ?_
                          refine lv_aload_n hx hb d_M_check_70 rfl (lv_at hl 0 rfl) ?_
                          refine va_get (D := (dC, dI)) (ci := 4) (v := .int (nI (m_nR u))) (C := "SeatProofsModel") (T := F_M) (N := 20) hx hb hts (iu_M _) hown hK hP 0 rfl rfl 10 (by decide) (hts _ (List.mem_cons_of_mem _ iw_450)) (fun _ h9 => h9) rfl d_M_check_71 ?_
                          refine nv_ge (tgt := 115) hx hb d_M_check_74 (by decide) (by omega) (by omega) (fun c_6 => ?_) (fun c_6 => ?_)
                          · refine lv_iload_n hx hb d_M_check_115 rfl (lv_at hl 3 rfl) ?_
                            refine b0_ne (tgt := 126) hx hb d_M_check_116 (by decide) (fun c_7 => ?_) (fun c_7 => ?_)
                            · refine lv_iinc (v := nI (l9 + 1)) (lv' := [(2, .int (nI (l9 + 1))), (0, .ref (ma_o q)), (1, .int (nI f)), (3, .int (bI b)), (4, .int (nI k2))]) hx hb d_M_check_126 hl (k := 2) rfl (nI_1 _) (by decide) rfl (fun ls hl => ?_)
                              refine lv_goto (tgt := 45) hx hb d_M_check_129 (by decide) ?_
                              exact ih45 (l9 + 1) (by omega) (by omega) (by omega) _ _ ls hP hD hS (lv_sub hl [1, 2, 0] rfl)
                            · refine lv_aload_n hx hb d_M_check_119 rfl (lv_at hl 0 rfl) ?_
                              refine va_get (D := (dC, dI)) (ci := 4) (v := .int (nI (m_nR u))) (C := "SeatProofsModel") (T := F_M) (N := 20) hx hb hts (iu_M _) hown hK hP 0 rfl rfl 10 (by decide) (hts _ (List.mem_cons_of_mem _ iw_450)) (fun _ h9 => h9) rfl d_M_check_120 ?_
                              refine lv_iconst (v := nI 1) hx hb d_M_check_123 (by decide) ?_
                              refine lv_iadd hx hb d_M_check_124 ?_
                              refine tp_i (nI (m_nR u + 1)) (nI_add _ _) ?_
                              exact W.iret hx hb hr (fun t9 ht9 hW9 => ⟨⟨_, (m_mk (m_liq u) (m_lev u) (m_nS u) (m_fa u) (m_fb u) (m_seat u) (m_op u) (m_un u) (m_nV u) (m_may u) (m_nR u) (m_rf u) (m_rl u) (m_rw u) (m_rc u) (m_cul u) (m_gu u) (m_te u) 0 w), rfl, ⟨w, rfl⟩, by rw [ht9]; exact hP, va_K.moved hW9.alike hK, hD⟩, hS.F ht9⟩) hS.2.2 d_M_check_125
                          · refine lv_iload_n hx hb d_M_check_77 rfl (lv_at hl 3 rfl) ?_
                            refine b0_ne (tgt := 115) hx hb d_M_check_78 (by decide) (fun c_8 => ?_) (fun c_8 => ?_)
                            · refine lv_iload_n hx hb d_M_check_115 rfl (lv_at hl 3 rfl) ?_
                              refine b0_ne (tgt := 126) hx hb d_M_check_116 (by decide) (fun c_9 => ?_) (fun c_9 => ?_)
                              · refine lv_iinc (v := nI (l9 + 1)) (lv' := [(2, .int (nI (l9 + 1))), (0, .ref (ma_o q)), (1, .int (nI f)), (3, .int (bI b)), (4, .int (nI k2))]) hx hb d_M_check_126 hl (k := 2) rfl (nI_1 _) (by decide) rfl (fun ls hl => ?_)
                                refine lv_goto (tgt := 45) hx hb d_M_check_129 (by decide) ?_
                                exact ih45 (l9 + 1) (by omega) (by omega) (by omega) _ _ ls hP hD hS (lv_sub hl [1, 2, 0] rfl)
                              · refine lv_aload_n hx hb d_M_check_119 rfl (lv_at hl 0 rfl) ?_
                                refine va_get (D := (dC, dI)) (ci := 4) (v := .int (nI (m_nR u))) (C := "SeatProofsModel") (T := F_M) (N := 20) hx hb hts (iu_M _) hown hK hP 0 rfl rfl 10 (by decide) (hts _ (List.mem_cons_of_mem _ iw_450)) (fun _ h9 => h9) rfl d_M_check_120 ?_
                                refine lv_iconst (v := nI 1) hx hb d_M_check_123 (by decide) ?_
                                refine lv_iadd hx hb d_M_check_124 ?_
                                refine tp_i (nI (m_nR u + 1)) (nI_add _ _) ?_
                                exact W.iret hx hb hr (fun t9 ht9 hW9 => ⟨⟨_, (m_mk (m_liq u) (m_lev u) (m_nS u) (m_fa u) (m_fb u) (m_seat u) (m_op u) (m_un u) (m_nV u) (m_may u) (m_nR u) (m_rf u) (m_rl u) (m_rw u) (m_rc u) (m_cul u) (m_gu u) (m_te u) 0 w), rfl, ⟨w, rfl⟩, by rw [ht9]; exact hP, va_K.moved hW9.alike hK, hD⟩, hS.F ht9⟩) hS.2.2 d_M_check_125
                            · refine lv_aload_n hx hb d_M_check_81 rfl (lv_at hl 0 rfl) ?_
                              refine va_get (D := (dC, dI)) (ci := 4) (v := .ref (ma_rf q)) (C := "SeatProofsModel") (T := F_M) (N := 20) hx hb hts (iu_M _) hown hK hP 0 rfl rfl 11 (by decide) (hts _ (List.mem_cons_of_mem _ iw_451)) (fun _ h9 => h9) rfl d_M_check_82 ?_
                              refine lv_iload hx hb d_M_check_85 (lv_at hl 4 rfl) ?_
                              refine ld_i hx hb hK hP 9 0 rfl rfl (nI (m_rf u k2)) (by omega) (by decide) rfl d_M_check_87 ?_
                              refine lv_iload_n hx hb d_M_check_88 rfl (lv_at hl 1 rfl) ?_
                              refine nv_ne (tgt := 107) hx hb d_M_check_89 (by decide) (by have := k7 k2; omega) (by omega) (fun c_10 => ?_) (fun c_10 => ?_)
                              · refine lv_iconst (v := nI 0) hx hb d_M_check_107 (by decide) ?_
                                refine lv_istore_n (lv' := [(3, .int (nI 0)), (0, .ref (ma_o q)), (1, .int (nI f)), (2, .int (nI l9)), (4, .int (nI k2))]) hx hb d_M_check_108 rfl hl (by decide) rfl (fun ls hl => ?_)
                                refine lv_iinc (v := nI (k2 + 1)) (lv' := [(4, .int (nI (k2 + 1))), (3, .int (nI 0)), (0, .ref (ma_o q)), (1, .int (nI f)), (2, .int (nI l9))]) hx hb d_M_check_109 hl (k := 4) rfl (nI_1 _) (by decide) rfl (fun ls hl => ?_)
                                refine lv_goto (tgt := 68) hx hb d_M_check_112 (by decide) ?_
                                exact ih68 (k2 + 1) false (by omega) (by omega) _ _ ls hP hD hS (lv_sub hl [2, 3, 4, 1, 0] rfl)
                              · refine lv_aload_n hx hb d_M_check_92 rfl (lv_at hl 0 rfl) ?_
                                refine va_get (D := (dC, dI)) (ci := 4) (v := .ref (ma_rl q)) (C := "SeatProofsModel") (T := F_M) (N := 20) hx hb hts (iu_M _) hown hK hP 0 rfl rfl 12 (by decide) (hts _ (List.mem_cons_of_mem _ iw_452)) (fun _ h9 => h9) rfl d_M_check_93 ?_
                                refine lv_iload hx hb d_M_check_96 (lv_at hl 4 rfl) ?_
                                refine ld_i hx hb hK hP 10 0 rfl rfl (nI (m_rl u k2)) (by omega) (by decide) rfl d_M_check_98 ?_
                                refine lv_iload_n hx hb d_M_check_99 rfl (lv_at hl 2 rfl) ?_
                                refine nv_ne (tgt := 107) hx hb d_M_check_100 (by decide) (by have := k8 k2; omega) (by omega) (fun c_11 => ?_) (fun c_11 => ?_)
                                · refine lv_iconst (v := nI 0) hx hb d_M_check_107 (by decide) ?_
                                  refine lv_istore_n (lv' := [(3, .int (nI 0)), (0, .ref (ma_o q)), (1, .int (nI f)), (2, .int (nI l9)), (4, .int (nI k2))]) hx hb d_M_check_108 rfl hl (by decide) rfl (fun ls hl => ?_)
                                  refine lv_iinc (v := nI (k2 + 1)) (lv' := [(4, .int (nI (k2 + 1))), (3, .int (nI 0)), (0, .ref (ma_o q)), (1, .int (nI f)), (2, .int (nI l9))]) hx hb d_M_check_109 hl (k := 4) rfl (nI_1 _) (by decide) rfl (fun ls hl => ?_)
                                  refine lv_goto (tgt := 68) hx hb d_M_check_112 (by decide) ?_
                                  exact ih68 (k2 + 1) false (by omega) (by omega) _ _ ls hP hD hS (lv_sub hl [2, 3, 4, 1, 0] rfl)
                                · refine lv_iconst (v := nI 1) hx hb d_M_check_103 (by decide) ?_
                                  refine lv_goto (tgt := 108) hx hb d_M_check_104 (by decide) ?_
                                  refine lv_istore_n (lv' := [(3, .int (nI 1)), (0, .ref (ma_o q)), (1, .int (nI f)), (2, .int (nI l9)), (4, .int (nI k2))]) hx hb d_M_check_108 rfl hl (by decide) rfl (fun ls hl => ?_)
                                  refine lv_iinc (v := nI (k2 + 1)) (lv' := [(4, .int (nI (k2 + 1))), (3, .int (nI 1)), (0, .ref (ma_o q)), (1, .int (nI f)), (2, .int (nI l9))]) hx hb d_M_check_109 hl (k := 4) rfl (nI_1 _) (by decide) rfl (fun ls hl => ?_)
                                  refine lv_goto (tgt := 68) hx hb d_M_check_112 (by decide) ?_
                                  exact ih68 (k2 + 1) true (by omega) (by omega) _ _ ls hP hD hS (lv_sub hl [2, 3, 4, 1, 0] rfl)
                      exact L68 _ 0 false (Nat.zero_le _) (Nat.lt_succ_self _) _ _ ls hP hD hS (lv_sub hl [2, 3, 4, 1, 0] rfl)
                    · refine lv_iconst (v := nI 1) hx hb d_M_check_59 (by decide) ?_
                      refine lv_goto (tgt := 64) hx hb d_M_check_60 (by decide) ?_
                      refine lv_istore_n (lv' := [(3, .int (nI 1)), (0, .ref (ma_o q)), (1, .int (nI f)), (2, .int (nI l9))]) hx hb d_M_check_64 rfl hl (by decide) rfl (fun ls hl => ?_)
                      refine lv_iconst (v := nI 0) hx hb d_M_check_65 (by decide) ?_
                      refine lv_istore (lv' := [(4, .int (nI 0)), (3, .int (nI 1)), (0, .ref (ma_o q)), (1, .int (nI f)), (2, .int (nI l9))]) hx hb d_M_check_66 hl (by decide) rfl (fun ls hl => ?_)
                      have L68 : ∀ (n68 : Nat) (k2 : Nat) (b : Bool), (k2 ≤ m_nR u) → m_nR u - k2 < n68 → ∀ (H : Heap) (locs : List Loc) (ls : Array Slot), va_P (dC, dI) vwCl (wM q (m_mk (m_liq u) (m_lev u) (m_nS u) (m_fa u) (m_fb u) (m_seat u) (m_op u) (m_un u) (m_nV u) (m_may u) (m_nR u) (m_rf u) (m_rl u) (m_rw u) (m_rc u) (m_cul u) (m_gu u) (m_te u) 0 w)) H → va_D (va_A (wM q u) s.heap.size) (wM q (m_mk (m_liq u) (m_lev u) (m_nS u) (m_fa u) (m_fb u) (m_seat u) (m_op u) (m_un u) (m_nV u) (m_may u) (m_nR u) (m_rf u) (m_rl u) (m_rw u) (m_rc u) (m_cul u) (m_gu u) (m_te u) 0 w)) → va_S (va_A (wM q u) s.heap.size) s.heap H locs → lv_has ls 5 [(0, .ref (ma_o q)), (1, .int (nI f)), (2, .int (nI l9)), (3, .int (bI b)), (4, .int (nI k2))] → W p l e (headSpec w_M_check ({ frames := 3, cells := 0, slots := 0, locals := 78 })).room s m [Value.ref (ma_o q)].toArray below meth c H locs 0 0 (MQ below (va_Qi (fun (r : Int32) (z : MSt) => ∃ w, z = m_s_th (m_s_wet u w) 0) (qB (dC, dI) vwCl (tM q) (wM q u) s.heap.size (wM q)) (va_A (wM q u) s.heap.size)) [Value.ref (ma_o q)].toArray s 0 0 (va_A (wM q u) s.heap.size)) (F0 m 68 ls []) := by
                        intro n68
                        induction n68 with
                        | zero => intro k2 b hk68 hm; exact absurd hm (Nat.not_lt_zero _)
                        | succ n68 ih68 =>
                          intro k2 b hk68 hm68 H locs ls hP hD hS hl
                          refine lv_iload hx hb d_M_check_68 (lv_at hl 4 rfl) ?_
                          refine lv_aload_n hx hb d_M_check_70 rfl (lv_at hl 0 rfl) ?_
                          refine va_get (D := (dC, dI)) (ci := 4) (v := .int (nI (m_nR u))) (C := "SeatProofsModel") (T := F_M) (N := 20) hx hb hts (iu_M _) hown hK hP 0 rfl rfl 10 (by decide) (hts _ (List.mem_cons_of_mem _ iw_450)) (fun _ h9 => h9) rfl d_M_check_71 ?_
                          refine nv_ge (tgt := 115) hx hb d_M_check_74 (by decide) (by omega) (by omega) (fun c_12 => ?_) (fun c_12 => ?_)
                          · refine lv_iload_n hx hb d_M_check_115 rfl (lv_at hl 3 rfl) ?_
                            refine b0_ne (tgt := 126) hx hb d_M_check_116 (by decide) (fun c_13 => ?_) (fun c_13 => ?_)
                            · refine lv_iinc (v := nI (l9 + 1)) (lv' := [(2, .int (nI (l9 + 1))), (0, .ref (ma_o q)), (1, .int (nI f)), (3, .int (bI b)), (4, .int (nI k2))]) hx hb d_M_check_126 hl (k := 2) rfl (nI_1 _) (by decide) rfl (fun ls hl => ?_)
                              refine lv_goto (tgt := 45) hx hb d_M_check_129 (by decide) ?_
                              exact ih45 (l9 + 1) (by omega) (by omega) (by omega) _ _ ls hP hD hS (lv_sub hl [1, 2, 0] rfl)
                            · refine lv_aload_n hx hb d_M_check_119 rfl (lv_at hl 0 rfl) ?_
                              refine va_get (D := (dC, dI)) (ci := 4) (v := .int (nI (m_nR u))) (C := "SeatProofsModel") (T := F_M) (N := 20) hx hb hts (iu_M _) hown hK hP 0 rfl rfl 10 (by decide) (hts _ (List.mem_cons_of_mem _ iw_450)) (fun _ h9 => h9) rfl d_M_check_120 ?_
                              refine lv_iconst (v := nI 1) hx hb d_M_check_123 (by decide) ?_
                              refine lv_iadd hx hb d_M_check_124 ?_
                              refine tp_i (nI (m_nR u + 1)) (nI_add _ _) ?_
                              exact W.iret hx hb hr (fun t9 ht9 hW9 => ⟨⟨_, (m_mk (m_liq u) (m_lev u) (m_nS u) (m_fa u) (m_fb u) (m_seat u) (m_op u) (m_un u) (m_nV u) (m_may u) (m_nR u) (m_rf u) (m_rl u) (m_rw u) (m_rc u) (m_cul u) (m_gu u) (m_te u) 0 w), rfl, ⟨w, rfl⟩, by rw [ht9]; exact hP, va_K.moved hW9.alike hK, hD⟩, hS.F ht9⟩) hS.2.2 d_M_check_125
                          · refine lv_iload_n hx hb d_M_check_77 rfl (lv_at hl 3 rfl) ?_
                            refine b0_ne (tgt := 115) hx hb d_M_check_78 (by decide) (fun c_14 => ?_) (fun c_14 => ?_)
                            · refine lv_iload_n hx hb d_M_check_115 rfl (lv_at hl 3 rfl) ?_
                              refine b0_ne (tgt := 126) hx hb d_M_check_116 (by decide) (fun c_15 => ?_) (fun c_15 => ?_)
                              · refine lv_iinc (v := nI (l9 + 1)) (lv' := [(2, .int (nI (l9 + 1))), (0, .ref (ma_o q)), (1, .int (nI f)), (3, .int (bI b)), (4, .int (nI k2))]) hx hb d_M_check_126 hl (k := 2) rfl (nI_1 _) (by decide) rfl (fun ls hl => ?_)
                                refine lv_goto (tgt := 45) hx hb d_M_check_129 (by decide) ?_
                                exact ih45 (l9 + 1) (by omega) (by omega) (by omega) _ _ ls hP hD hS (lv_sub hl [1, 2, 0] rfl)
                              · refine lv_aload_n hx hb d_M_check_119 rfl (lv_at hl 0 rfl) ?_
                                refine va_get (D := (dC, dI)) (ci := 4) (v := .int (nI (m_nR u))) (C := "SeatProofsModel") (T := F_M) (N := 20) hx hb hts (iu_M _) hown hK hP 0 rfl rfl 10 (by decide) (hts _ (List.mem_cons_of_mem _ iw_450)) (fun _ h9 => h9) rfl d_M_check_120 ?_
                                refine lv_iconst (v := nI 1) hx hb d_M_check_123 (by decide) ?_
                                refine lv_iadd hx hb d_M_check_124 ?_
                                refine tp_i (nI (m_nR u + 1)) (nI_add _ _) ?_
                                exact W.iret hx hb hr (fun t9 ht9 hW9 => ⟨⟨_, (m_mk (m_liq u) (m_lev u) (m_nS u) (m_fa u) (m_fb u) (m_seat u) (m_op u) (m_un u) (m_nV u) (m_may u) (m_nR u) (m_rf u) (m_rl u) (m_rw u) (m_rc u) (m_cul u) (m_gu u) (m_te u) 0 w), rfl, ⟨w, rfl⟩, by rw [ht9]; exact hP, va_K.moved hW9.alike hK, hD⟩, hS.F ht9⟩) hS.2.2 d_M_check_125
                            · refine lv_aload_n hx hb d_M_check_81 rfl (lv_at hl 0 rfl) ?_
                              refine va_get (D := (dC, dI)) (ci := 4) (v := .ref (ma_rf q)) (C := "SeatProofsModel") (T := F_M) (N := 20) hx hb hts (iu_M _) hown hK hP 0 rfl rfl 11 (by decide) (hts _ (List.mem_cons_of_mem _ iw_451)) (fun _ h9 => h9) rfl d_M_check_82 ?_
                              refine lv_iload hx hb d_M_check_85 (lv_at hl 4 rfl) ?_
                              refine ld_i hx hb hK hP 9 0 rfl rfl (nI (m_rf u k2)) (by omega) (by decide) rfl d_M_check_87 ?_
                              refine lv_iload_n hx hb d_M_check_88 rfl (lv_at hl 1 rfl) ?_
                              refine nv_ne (tgt := 107) hx hb d_M_check_89 (by decide) (by have := k7 k2; omega) (by omega) (fun c_16 => ?_) (fun c_16 => ?_)
                              · refine lv_iconst (v := nI 0) hx hb d_M_check_107 (by decide) ?_
                                refine lv_istore_n (lv' := [(3, .int (nI 0)), (0, .ref (ma_o q)), (1, .int (nI f)), (2, .int (nI l9)), (4, .int (nI k2))]) hx hb d_M_check_108 rfl hl (by decide) rfl (fun ls hl => ?_)
                                refine lv_iinc (v := nI (k2 + 1)) (lv' := [(4, .int (nI (k2 + 1))), (3, .int (nI 0)), (0, .ref (ma_o q)), (1, .int (nI f)), (2, .int (nI l9))]) hx hb d_M_check_109 hl (k := 4) rfl (nI_1 _) (by decide) rfl (fun ls hl => ?_)
                                refine lv_goto (tgt := 68) hx hb d_M_check_112 (by decide) ?_
                                exact ih68 (k2 + 1) false (by omega) (by omega) _ _ ls hP hD hS (lv_sub hl [2, 3, 4, 1, 0] rfl)
                              · refine lv_aload_n hx hb d_M_check_92 rfl (lv_at hl 0 rfl) ?_
                                refine va_get (D := (dC, dI)) (ci := 4) (v := .ref (ma_rl q)) (C := "SeatProofsModel") (T := F_M) (N := 20) hx hb hts (iu_M _) hown hK hP 0 rfl rfl 12 (by decide) (hts _ (List.mem_cons_of_mem _ iw_452)) (fun _ h9 => h9) rfl d_M_check_93 ?_
                                refine lv_iload hx hb d_M_check_96 (lv_at hl 4 rfl) ?_
                                refine ld_i hx hb hK hP 10 0 rfl rfl (nI (m_rl u k2)) (by omega) (by decide) rfl d_M_check_98 ?_
                                refine lv_iload_n hx hb d_M_check_99 rfl (lv_at hl 2 rfl) ?_
                                refine nv_ne (tgt := 107) hx hb d_M_check_100 (by decide) (by have := k8 k2; omega) (by omega) (fun c_17 => ?_) (fun c_17 => ?_)
                                · refine lv_iconst (v := nI 0) hx hb d_M_check_107 (by decide) ?_
                                  refine lv_istore_n (lv' := [(3, .int (nI 0)), (0, .ref (ma_o q)), (1, .int (nI f)), (2, .int (nI l9)), (4, .int (nI k2))]) hx hb d_M_check_108 rfl hl (by decide) rfl (fun ls hl => ?_)
                                  refine lv_iinc (v := nI (k2 + 1)) (lv' := [(4, .int (nI (k2 + 1))), (3, .int (nI 0)), (0, .ref (ma_o q)), (1, .int (nI f)), (2, .int (nI l9))]) hx hb d_M_check_109 hl (k := 4) rfl (nI_1 _) (by decide) rfl (fun ls hl => ?_)
                                  refine lv_goto (tgt := 68) hx hb d_M_check_112 (by decide) ?_
                                  exact ih68 (k2 + 1) false (by omega) (by omega) _ _ ls hP hD hS (lv_sub hl [2, 3, 4, 1, 0] rfl)
                                · refine lv_iconst (v := nI 1) hx hb d_M_check_103 (by decide) ?_
                                  refine lv_goto (tgt := 108) hx hb d_M_check_104 (by decide) ?_
                                  refine lv_istore_n (lv' := [(3, .int (nI 1)), (0, .ref (ma_o q)), (1, .int (nI f)), (2, .int (nI l9)), (4, .int (nI k2))]) hx hb d_M_check_108 rfl hl (by decide) rfl (fun ls hl => ?_)
                                  refine lv_iinc (v := nI (k2 + 1)) (lv' := [(4, .int (nI (k2 + 1))), (3, .int (nI 1)), (0, .ref (ma_o q)), (1, .int (nI f)), (2, .int (nI l9))]) hx hb d_M_check_109 hl (k := 4) rfl (nI_1 _) (by decide) rfl (fun ls hl => ?_)
                                  refine lv_goto (tgt := 68) hx hb d_M_check_112 (by decide) ?_
                                  exact ih68 (k2 + 1) true (by omega) (by omega) _ _ ls hP hD hS (lv_sub hl [2, 3, 4, 1, 0] rfl)
                      exact L68 _ 0 true (Nat.zero_le _) (Nat.lt_succ_self _) _ _ ls hP hD hS (lv_sub hl [2, 3, 4, 1, 0] rfl)
              exact L45 _ 1 (by omega) (by omega) (Nat.lt_succ_self _) _ _ ls hP hD hS (lv_sub hl [1, 2, 0] rfl)
        exact L35 _ 0 (Nat.zero_le _) (Nat.lt_succ_self _) _ _ ls hP hD hS (lv_sub hl [1, 0] rfl)
      · refine lv_aload_n hx hb d_M_check_15 rfl (lv_at hl 0 rfl) ?_
        refine lv_iload_n hx hb d_M_check_16 rfl (lv_at hl 1 rfl) ?_
        refine cq_i (va_runV (As := [.int (nI k)]) (rest := []) ⟨hx, hb, hml, hown, hts⟩ (c_M_isRight l dC dI q (m_mk (m_liq u) (m_lev u) (m_nS u) (m_fa u) (m_fb u) (m_seat u) (m_op u) (m_un u) (m_nV u) (m_may u) (m_nR u) (m_rf u) (m_rl u) (m_rw u) (m_rc u) (m_cul u) (m_gu u) (m_te u) 0 w) _ k hu (by omega)) (cwV 1 hts (good_up (good_V iw_572 iw_574 ip_15 iw_5 gg_M_isRight)) rfl rfl rfl (by decide +kernel) ⟨Nat.le_of_ble_eq_true rfl, Nat.le_of_ble_eq_true rfl⟩) (pv_Q [.int (nI k)] hN hK hP hD (ci := 4) (q0 := 0) rfl rfl) rfl rfl hl.1 rfl (lv_room (Nat.le_of_ble_eq_true rfl)) d_M_check_17 ⟨Nat.le_of_ble_eq_true rfl, Nat.le_of_ble_eq_true rfl⟩) hD hS hA (fun r_20 z_19 H locs hr_18 hP hD hS => ?_)
        obtain ⟨w_21, b_22, rfl, rfl⟩ := hr_18
        have hP : va_P (dC, dI) vwCl (wM q (m_mk (m_liq u) (m_lev u) (m_nS u) (m_fa u) (m_fb u) (m_seat u) (m_op u) (m_un u) (m_nV u) (m_may u) (m_nR u) (m_rf u) (m_rl u) (m_rw u) (m_rc u) (m_cul u) (m_gu u) (m_te u) 0 w_21)) H := hP
        have hD : va_D (va_A (wM q u) s.heap.size) (wM q (m_mk (m_liq u) (m_lev u) (m_nS u) (m_fa u) (m_fb u) (m_seat u) (m_op u) (m_un u) (m_nV u) (m_may u) (m_nR u) (m_rf u) (m_rl u) (m_rw u) (m_rc u) (m_cul u) (m_gu u) (m_te u) 0 w_21)) := hD
        refine b0_ne (tgt := 27) hx hb d_M_check_20 (by decide) (fun c_23 => ?_) (fun c_23 => ?_)
        · refine lv_iinc (v := nI (k + 1)) (lv' := [(1, .int (nI (k + 1))), (0, .ref (ma_o q))]) hx hb d_M_check_27 hl (k := 1) rfl (nI_1 _) (by decide) rfl (fun ls hl => ?_)
          refine lv_goto (tgt := 7) hx hb d_M_check_30 (by decide) ?_
          exact ih7 (k + 1) w_21 (by omega) (by omega) _ _ ls hP hD hS (lv_sub hl [1, 0] rfl)
        · refine lv_iload_n hx hb d_M_check_23 rfl (lv_at hl 1 rfl) ?_
          refine lv_iconst (v := nI 1) hx hb d_M_check_24 (by decide) ?_
          refine lv_iadd hx hb d_M_check_25 ?_
          refine tp_i (nI (k + 1)) (nI_add _ _) ?_
          exact W.iret hx hb hr (fun t9 ht9 hW9 => ⟨⟨_, (m_mk (m_liq u) (m_lev u) (m_nS u) (m_fa u) (m_fb u) (m_seat u) (m_op u) (m_un u) (m_nV u) (m_may u) (m_nR u) (m_rf u) (m_rl u) (m_rw u) (m_rc u) (m_cul u) (m_gu u) (m_te u) 0 w_21), rfl, ⟨w_21, rfl⟩, by rw [ht9]; exact hP, va_K.moved hW9.alike hK, hD⟩, hS.F ht9⟩) hS.2.2 d_M_check_26
  exact L7 _ 0 (m_wet u) (Nat.zero_le _) (Nat.lt_succ_self _) _ _ ls hP hD hS (lv_sub hl [1, 0] rfl)
end
section
set_option maxHeartbeats 4000000 in
set_option maxRecDepth 100000 in
theorem c_M_set (l : Launch) (dC : Nat → ClassId) (dI : Nat → Nat → Nat) (q : MA) (u : MSt) (sz : Nat) (x : Int32) (o : Bool) (hu : MOk u) : Met l y_M_set w_M_set ({ frames := 2, cells := 0, slots := 0, locals := 53 }) (qPc (dC, dI) vwCl (tM q) (wM q u) sz [Value.ref (ma_o q), Value.int x, Value.int (bI o)]) (va_Qi (fun (r : Int32) (z : MSt) => (ixB x (m_nV u) = false ∧ r = bI false ∧ z = m_s_th u 1) ∨ (∃ i9, i9 < m_nV u ∧ x = nI i9 ∧ ∃ (g3 g4 : Nat → Int64) (w : Nat → Bool) (b : Bool), (∀ j, g3 j = if j < m_nR u ∧ mt u i9 j = true then sF u (m_s_op u (va_up (m_op u) i9 o)) j else m_rw u j) ∧ (∀ j, g4 j = if j < m_nR u ∧ mt u i9 j = true then sC u (m_s_op u (va_up (m_op u) i9 o)) j else m_rc u j) ∧ (b = true ↔ (0 < m_nR u ∧ ∀ p9 q9, p9 < q9 → q9 < m_nR u → ¬ mK u g3 p9 q9)) ∧ r = bI b ∧ z = m_s_wet (m_s_th (m_s_te (m_s_rc (m_s_rw (m_s_nR (m_s_op u (va_up (m_op u) i9 o)) (if b = true then m_nR u else 0)) g3) g4) (pcn (mt u i9) (m_nR u))) 0) w)) (qB (dC, dI) vwCl (tM q) (wM q u) sz (wM q)) (va_A (wM q u) sz)) 0 0 (va_A (wM q u) sz) := by
  refine Met.ofW (cc := b_M_set) (maxL := 6) (ret := (some .boolean)) (by decide) rfl ?_
  intro p e s m args below meth c s₁ B hml hv
  obtain ⟨rfl, hsz, hP, hK, hD0, hN⟩ := hv
  have hx := B.exec
  have hb := B.bytes
  have hr := B.returns
  have hts := atoms_spec (ws := w_M_set) B.pre
  have hown : s.vm.findClass "SeatProofsModel" = some m.cls := findClass_of_methodNamed B.named
  have hlocks := B.notSynchronized
  subst hsz
  have hD := hD0.self (sz := s.heap.size)
  have hA : ∀ z : Nat, s.heap.size ≤ z → va_A (wM q u) s.heap.size z := fun z h => Or.inr h
  have hS : va_S (va_A (wM q u) s.heap.size) s.heap s.heap [] := va_S.rf
  have hl := lv_entry ([Value.ref (ma_o q), Value.int x, Value.int (bI o)]) (n := 6) (Nat.le_of_ble_eq_true rfl)
  rw [lg_entry_eq]
  generalize (lg_sl ([Value.ref (ma_o q), Value.int x, Value.int (bI o)]) ++ List.replicate (6 - (lg_sl ([Value.ref (ma_o q), Value.int x, Value.int (bI o)])).length) Slot.unset).toArray = ls at hl ⊢
  have hl : lv_has ls 6 [(0, .ref (ma_o q)), (1, .int x), (2, .int (bI o))] := hl
  obtain ⟨k1, k2, k3, k4, k5, k6, k7, k8, k9, k10, k11⟩ := id hu
  refine lv_aload_n hx hb d_M_set_0 rfl (lv_at hl 0 rfl) ?_
  refine lv_iload_n hx hb d_M_set_1 rfl (lv_at hl 1 rfl) ?_
  refine lv_if_lt (tgt := 13) hx hb d_M_set_2 (by decide) (fun c_1 => ?_) (fun c_1 => ?_)
  · refine lv_iconst (v := nI 1) hx hb d_M_set_13 (by decide) ?_
    refine lv_goto (tgt := 18) hx hb d_M_set_14 (by decide) ?_
    refine va_put (D := (dC, dI)) (ci := 4) (v := .int (nI 1)) (ty := .int) (C := "SeatProofsModel") (T := F_M) (N := 20) hx hb hts (iu_M _) t_M t_M_ok n_M hown hK hP hD hS 0 rfl rfl 18 (by decide) (hts _ (List.mem_cons_of_mem _ iw_458)) (fun _ h9 => h9) rfl (by decide +kernel) rfl rfl (Nat.le_of_ble_eq_true rfl) d_M_set_18 (fun H locs hP hD hS => ?_)
    have hP : va_P (dC, dI) vwCl (wM q (m_mk (m_liq u) (m_lev u) (m_nS u) (m_fa u) (m_fb u) (m_seat u) (m_op u) (m_un u) (m_nV u) (m_may u) (m_nR u) (m_rf u) (m_rl u) (m_rw u) (m_rc u) (m_cul u) (m_gu u) (m_te u) 1 (m_wet u))) H := hP
    have hD : va_D (va_A (wM q u) s.heap.size) (wM q (m_mk (m_liq u) (m_lev u) (m_nS u) (m_fa u) (m_fb u) (m_seat u) (m_op u) (m_un u) (m_nV u) (m_may u) (m_nR u) (m_rf u) (m_rl u) (m_rw u) (m_rc u) (m_cul u) (m_gu u) (m_te u) 1 (m_wet u))) := hD
    refine lv_aload_n hx hb d_M_set_21 rfl (lv_at hl 0 rfl) ?_
    refine va_get (D := (dC, dI)) (ci := 4) (v := .int (nI 1)) (C := "SeatProofsModel") (T := F_M) (N := 20) hx hb hts (iu_M _) hown hK hP 0 rfl rfl 18 (by decide) (hts _ (List.mem_cons_of_mem _ iw_458)) (fun _ h9 => h9) rfl d_M_set_22 ?_
    refine n0_le (tgt := 30) hx hb d_M_set_25 (by decide) (by omega) (fun c_2 => ?_) (fun c_2 => ?_)
    · exact absurd c_2 (by decide)
    · refine lv_iconst (v := nI 0) hx hb d_M_set_28 (by decide) ?_
      refine tp_i (bI false) (by decide) ?_
      exact W.zret hx hb hr (bI_narrow _) (fun t9 ht9 hW9 => ⟨⟨_, (m_mk (m_liq u) (m_lev u) (m_nS u) (m_fa u) (m_fb u) (m_seat u) (m_op u) (m_un u) (m_nV u) (m_may u) (m_nR u) (m_rf u) (m_rl u) (m_rw u) (m_rc u) (m_cul u) (m_gu u) (m_te u) 1 (m_wet u)), rfl, Or.inl ⟨ixB_lo c_1, rfl, rfl⟩, by rw [ht9]; exact hP, va_K.moved hW9.alike hK, hD⟩, hS.F ht9⟩) hS.2.2 d_M_set_29
  · refine lv_iload_n hx hb d_M_set_5 rfl (lv_at hl 1 rfl) ?_
    refine lv_aload_n hx hb d_M_set_6 rfl (lv_at hl 0 rfl) ?_
    refine va_get (D := (dC, dI)) (ci := 4) (v := .int (nI (m_nV u))) (C := "SeatProofsModel") (T := F_M) (N := 20) hx hb hts (iu_M _) hown hK hP 0 rfl rfl 8 (by decide) (hts _ (List.mem_cons_of_mem _ iw_448)) (fun _ h9 => h9) rfl d_M_set_7 ?_
    refine lv_icmp_lt (tgt := 17) hx hb d_M_set_10 (by decide) (fun c_3 => ?_) (fun c_3 => ?_)
    · have hsx : ixB x (m_nV u) = true := decide_eq_true ⟨c_1, Int32.not_le.mpr c_3⟩
      obtain ⟨i, hi, rfl⟩ := ixB_of (by show m_nV u < 2 ^ 31; omega) hsx
      have hi : i < m_nV u := hi
      refine lv_iconst (v := nI 0) hx hb d_M_set_17 (by decide) ?_
      refine va_put (D := (dC, dI)) (ci := 4) (v := .int (nI 0)) (ty := .int) (C := "SeatProofsModel") (T := F_M) (N := 20) hx hb hts (iu_M _) t_M t_M_ok n_M hown hK hP hD hS 0 rfl rfl 18 (by decide) (hts _ (List.mem_cons_of_mem _ iw_458)) (fun _ h9 => h9) rfl (by decide +kernel) rfl rfl (Nat.le_of_ble_eq_true rfl) d_M_set_18 (fun H locs hP hD hS => ?_)
      have hP : va_P (dC, dI) vwCl (wM q (m_mk (m_liq u) (m_lev u) (m_nS u) (m_fa u) (m_fb u) (m_seat u) (m_op u) (m_un u) (m_nV u) (m_may u) (m_nR u) (m_rf u) (m_rl u) (m_rw u) (m_rc u) (m_cul u) (m_gu u) (m_te u) 0 (m_wet u))) H := hP
      have hD : va_D (va_A (wM q u) s.heap.size) (wM q (m_mk (m_liq u) (m_lev u) (m_nS u) (m_fa u) (m_fb u) (m_seat u) (m_op u) (m_un u) (m_nV u) (m_may u) (m_nR u) (m_rf u) (m_rl u) (m_rw u) (m_rc u) (m_cul u) (m_gu u) (m_te u) 0 (m_wet u))) := hD
      refine lv_aload_n hx hb d_M_set_21 rfl (lv_at hl 0 rfl) ?_
      refine va_get (D := (dC, dI)) (ci := 4) (v := .int (nI 0)) (C := "SeatProofsModel") (T := F_M) (N := 20) hx hb hts (iu_M _) hown hK hP 0 rfl rfl 18 (by decide) (hts _ (List.mem_cons_of_mem _ iw_458)) (fun _ h9 => h9) rfl d_M_set_22 ?_
      refine n0_le (tgt := 30) hx hb d_M_set_25 (by decide) (by omega) (fun c_4 => ?_) (fun c_4 => ?_)
      · refine lv_aload_n hx hb d_M_set_30 rfl (lv_at hl 0 rfl) ?_
        refine lv_iconst (v := nI 0) hx hb d_M_set_31 (by decide) ?_
        refine va_put (D := (dC, dI)) (ci := 4) (v := .int (nI 0)) (ty := .int) (C := "SeatProofsModel") (T := F_M) (N := 20) hx hb hts (iu_M _) t_M t_M_ok n_M hown hK hP hD hS 0 rfl rfl 17 (by decide) (hts _ (List.mem_cons_of_mem _ iw_457)) (fun _ h9 => h9) rfl (by decide +kernel) rfl rfl (Nat.le_of_ble_eq_true rfl) d_M_set_32 (fun H locs hP hD hS => ?_)
        have hP : va_P (dC, dI) vwCl (wM q (m_mk (m_liq u) (m_lev u) (m_nS u) (m_fa u) (m_fb u) (m_seat u) (m_op u) (m_un u) (m_nV u) (m_may u) (m_nR u) (m_rf u) (m_rl u) (m_rw u) (m_rc u) (m_cul u) (m_gu u) 0 0 (m_wet u))) H := hP
        have hD : va_D (va_A (wM q u) s.heap.size) (wM q (m_mk (m_liq u) (m_lev u) (m_nS u) (m_fa u) (m_fb u) (m_seat u) (m_op u) (m_un u) (m_nV u) (m_may u) (m_nR u) (m_rf u) (m_rl u) (m_rw u) (m_rc u) (m_cul u) (m_gu u) 0 0 (m_wet u))) := hD
        refine lv_aload_n hx hb d_M_set_35 rfl (lv_at hl 0 rfl) ?_
        refine va_get (D := (dC, dI)) (ci := 4) (v := .ref (ma_op q)) (C := "SeatProofsModel") (T := F_M) (N := 20) hx hb hts (iu_M _) hown hK hP 0 rfl rfl 6 (by decide) (hts _ (List.mem_cons_of_mem _ iw_446)) (fun _ h9 => h9) rfl d_M_set_36 ?_
        refine lv_iload_n hx hb d_M_set_39 rfl (lv_at hl 1 rfl) ?_
        refine lv_iload_n hx hb d_M_set_40 rfl (lv_at hl 2 rfl) ?_
        refine st_z hx hb hK hP hD hS 6 2 rfl rfl (fun j9 => bI (va_up (m_op u) i o j9)) (by omega) (by decide) (upd_bI _ _ _) d_M_set_41 (fun H locs hP hD hS => ?_)
        have hP : va_P (dC, dI) vwCl (wM q (m_mk (m_liq u) (m_lev u) (m_nS u) (m_fa u) (m_fb u) (m_seat u) (va_up (m_op u) i o) (m_un u) (m_nV u) (m_may u) (m_nR u) (m_rf u) (m_rl u) (m_rw u) (m_rc u) (m_cul u) (m_gu u) 0 0 (m_wet u))) H := hP
        have hD : va_D (va_A (wM q u) s.heap.size) (wM q (m_mk (m_liq u) (m_lev u) (m_nS u) (m_fa u) (m_fb u) (m_seat u) (va_up (m_op u) i o) (m_un u) (m_nV u) (m_may u) (m_nR u) (m_rf u) (m_rl u) (m_rw u) (m_rc u) (m_cul u) (m_gu u) 0 0 (m_wet u))) := hD
        refine lv_iconst (v := nI 0) hx hb d_M_set_42 (by decide) ?_
        refine lv_istore_n (lv' := [(3, .int (nI 0)), (0, .ref (ma_o q)), (1, .int (nI i)), (2, .int (bI o))]) hx hb d_M_set_43 rfl hl (by decide) rfl (fun ls hl => ?_)
        have L44 : ∀ (n44 : Nat) (k : Nat) (g3 : Nat → Int64) (g4 : Nat → Int64) (t : Nat) (w : Nat → Bool), (k ≤ m_nR u) → (∀ j, g3 j = if j < k ∧ mt u i j = true then sF u (m_s_op u (va_up (m_op u) i o)) j else m_rw u j) → (∀ j, g4 j = if j < k ∧ mt u i j = true then sC u (m_s_op u (va_up (m_op u) i o)) j else m_rc u j) → (t = pcn (mt u i) k) → m_nR u - k < n44 → ∀ (H : Heap) (locs : List Loc) (ls : Array Slot), va_P (dC, dI) vwCl (wM q (m_mk (m_liq u) (m_lev u) (m_nS u) (m_fa u) (m_fb u) (m_seat u) (va_up (m_op u) i o) (m_un u) (m_nV u) (m_may u) (m_nR u) (m_rf u) (m_rl u) g3 g4 (m_cul u) (m_gu u) t 0 w)) H → va_D (va_A (wM q u) s.heap.size) (wM q (m_mk (m_liq u) (m_lev u) (m_nS u) (m_fa u) (m_fb u) (m_seat u) (va_up (m_op u) i o) (m_un u) (m_nV u) (m_may u) (m_nR u) (m_rf u) (m_rl u) g3 g4 (m_cul u) (m_gu u) t 0 w)) → va_S (va_A (wM q u) s.heap.size) s.heap H locs → lv_has ls 6 [(0, .ref (ma_o q)), (1, .int (nI i)), (2, .int (bI o)), (3, .int (nI k))] → W p l e (headSpec w_M_set ({ frames := 2, cells := 0, slots := 0, locals := 53 })).room s m [Value.ref (ma_o q), Value.int (nI i), Value.int (bI o)].toArray below meth c H locs 0 0 (MQ below (va_Qi (fun (r : Int32) (z : MSt) => (ixB (nI i) (m_nV u) = false ∧ r = bI false ∧ z = m_s_th u 1) ∨ (∃ i9, i9 < m_nV u ∧ (nI i) = nI i9 ∧ ∃ (g3 g4 : Nat → Int64) (w : Nat → Bool) (b : Bool), (∀ j, g3 j = if j < m_nR u ∧ mt u i9 j = true then sF u (m_s_op u (va_up (m_op u) i9 o)) j else m_rw u j) ∧ (∀ j, g4 j = if j < m_nR u ∧ mt u i9 j = true then sC u (m_s_op u (va_up (m_op u) i9 o)) j else m_rc u j) ∧ (b = true ↔ (0 < m_nR u ∧ ∀ p9 q9, p9 < q9 → q9 < m_nR u → ¬ mK u g3 p9 q9)) ∧ r = bI b ∧ z = m_s_wet (m_s_th (m_s_te (m_s_rc (m_s_rw (m_s_nR (m_s_op u (va_up (m_op u) i9 o)) (if b = true then m_nR u else 0)) g3) g4) (pcn (mt u i9) (m_nR u))) 0) w)) (qB (dC, dI) vwCl (tM q) (wM q u) s.heap.size (wM q)) (va_A (wM q u) s.heap.size)) [Value.ref (ma_o q), Value.int (nI i), Value.int (bI o)].toArray s 0 0 (va_A (wM q u) s.heap.size)) (F0 m 44 ls []) := by
          intro n44
          induction n44 with
          | zero => intro k g3 g4 t w hk44 h3 h4 ht44 hm; exact absurd hm (Nat.not_lt_zero _)
          | succ n44 ih44 =>
            intro k g3 g4 t w hk44 h3 h4 ht44 hm44 H locs ls hP hD hS hl
            refine lv_iload_n hx hb d_M_set_44 rfl (lv_at hl 3 rfl) ?_
            refine lv_aload_n hx hb d_M_set_45 rfl (lv_at hl 0 rfl) ?_
            refine va_get (D := (dC, dI)) (ci := 4) (v := .int (nI (m_nR u))) (C := "SeatProofsModel") (T := F_M) (N := 20) hx hb hts (iu_M _) hown hK hP 0 rfl rfl 10 (by decide) (hts _ (List.mem_cons_of_mem _ iw_450)) (fun _ h9 => h9) rfl d_M_set_46 ?_
            refine nv_ge (tgt := 160) hx hb d_M_set_49 (by decide) (by omega) (by omega) (fun c_5 => ?_) (fun c_5 => ?_)
            · have L172 : ∀ (b172 : Bool), (b172 = decide (0 < m_nR u)) → ∀ (H : Heap) (locs : List Loc) (ls : Array Slot), va_P (dC, dI) vwCl (wM q (m_mk (m_liq u) (m_lev u) (m_nS u) (m_fa u) (m_fb u) (m_seat u) (va_up (m_op u) i o) (m_un u) (m_nV u) (m_may u) (m_nR u) (m_rf u) (m_rl u) g3 g4 (m_cul u) (m_gu u) t 0 w)) H → va_D (va_A (wM q u) s.heap.size) (wM q (m_mk (m_liq u) (m_lev u) (m_nS u) (m_fa u) (m_fb u) (m_seat u) (va_up (m_op u) i o) (m_un u) (m_nV u) (m_may u) (m_nR u) (m_rf u) (m_rl u) g3 g4 (m_cul u) (m_gu u) t 0 w)) → va_S (va_A (wM q u) s.heap.size) s.heap H locs → lv_has ls 6 [(0, .ref (ma_o q))] → W p l e (headSpec w_M_set ({ frames := 2, cells := 0, slots := 0, locals := 53 })).room s m [Value.ref (ma_o q), Value.int (nI i), Value.int (bI o)].toArray below meth c H locs 0 0 (MQ below (va_Qi (fun (r : Int32) (z : MSt) => (ixB (nI i) (m_nV u) = false ∧ r = bI false ∧ z = m_s_th u 1) ∨ (∃ i9, i9 < m_nV u ∧ (nI i) = nI i9 ∧ ∃ (g3 g4 : Nat → Int64) (w : Nat → Bool) (b : Bool), (∀ j, g3 j = if j < m_nR u ∧ mt u i9 j = true then sF u (m_s_op u (va_up (m_op u) i9 o)) j else m_rw u j) ∧ (∀ j, g4 j = if j < m_nR u ∧ mt u i9 j = true then sC u (m_s_op u (va_up (m_op u) i9 o)) j else m_rc u j) ∧ (b = true ↔ (0 < m_nR u ∧ ∀ p9 q9, p9 < q9 → q9 < m_nR u → ¬ mK u g3 p9 q9)) ∧ r = bI b ∧ z = m_s_wet (m_s_th (m_s_te (m_s_rc (m_s_rw (m_s_nR (m_s_op u (va_up (m_op u) i9 o)) (if b = true then m_nR u else 0)) g3) g4) (pcn (mt u i9) (m_nR u))) 0) w)) (qB (dC, dI) vwCl (tM q) (wM q u) s.heap.size (wM q)) (va_A (wM q u) s.heap.size)) [Value.ref (ma_o q), Value.int (nI i), Value.int (bI o)].toArray s 0 0 (va_A (wM q u) s.heap.size)) (F0 m 172 ls [.int (bI b172)]) := by
                intro b172 hb172 H locs ls hP hD hS hl
                refine lv_istore_n (lv' := [(3, .int (bI b172)), (0, .ref (ma_o q))]) hx hb d_M_set_172 rfl hl (by decide) rfl (fun ls hl => ?_)
                refine lv_iconst (v := nI 0) hx hb d_M_set_173 (by decide) ?_
                refine lv_istore (lv' := [(4, .int (nI 0)), (3, .int (bI b172)), (0, .ref (ma_o q))]) hx hb d_M_set_174 hl (by decide) rfl (fun ls hl => ?_)
                have L176 : ∀ (n176 : Nat) (j : Nat) (b176 : Bool), (j ≤ m_nR u) → (b176 = true ↔ (0 < m_nR u ∧ ∀ x y, x < j → x < y → y < m_nR u → ¬ mK u g3 x y)) → m_nR u - j < n176 → ∀ (H : Heap) (locs : List Loc) (ls : Array Slot), va_P (dC, dI) vwCl (wM q (m_mk (m_liq u) (m_lev u) (m_nS u) (m_fa u) (m_fb u) (m_seat u) (va_up (m_op u) i o) (m_un u) (m_nV u) (m_may u) (m_nR u) (m_rf u) (m_rl u) g3 g4 (m_cul u) (m_gu u) t 0 w)) H → va_D (va_A (wM q u) s.heap.size) (wM q (m_mk (m_liq u) (m_lev u) (m_nS u) (m_fa u) (m_fb u) (m_seat u) (va_up (m_op u) i o) (m_un u) (m_nV u) (m_may u) (m_nR u) (m_rf u) (m_rl u) g3 g4 (m_cul u) (m_gu u) t 0 w)) → va_S (va_A (wM q u) s.heap.size) s.heap H locs → lv_has ls 6 [(0, .ref (ma_o q)), (3, .int (bI b176)), (4, .int (nI j))] → W p l e (headSpec w_M_set ({ frames := 2, cells := 0, slots := 0, locals := 53 })).room s m [Value.ref (ma_o q), Value.int (nI i), Value.int (bI o)].toArray below meth c H locs 0 0 (MQ below (va_Qi (fun (r : Int32) (z : MSt) => (ixB (nI i) (m_nV u) = false ∧ r = bI false ∧ z = m_s_th u 1) ∨ (∃ i9, i9 < m_nV u ∧ (nI i) = nI i9 ∧ ∃ (g3 g4 : Nat → Int64) (w : Nat → Bool) (b : Bool), (∀ j, g3 j = if j < m_nR u ∧ mt u i9 j = true then sF u (m_s_op u (va_up (m_op u) i9 o)) j else m_rw u j) ∧ (∀ j, g4 j = if j < m_nR u ∧ mt u i9 j = true then sC u (m_s_op u (va_up (m_op u) i9 o)) j else m_rc u j) ∧ (b = true ↔ (0 < m_nR u ∧ ∀ p9 q9, p9 < q9 → q9 < m_nR u → ¬ mK u g3 p9 q9)) ∧ r = bI b ∧ z = m_s_wet (m_s_th (m_s_te (m_s_rc (m_s_rw (m_s_nR (m_s_op u (va_up (m_op u) i9 o)) (if b = true then m_nR u else 0)) g3) g4) (pcn (mt u i9) (m_nR u))) 0) w)) (qB (dC, dI) vwCl (tM q) (wM q u) s.heap.size (wM q)) (va_A (wM q u) s.heap.size)) [Value.ref (ma_o q), Value.int (nI i), Value.int (bI o)].toArray s 0 0 (va_A (wM q u) s.heap.size)) (F0 m 176 ls []) := by
                  intro n176
                  induction n176 with
                  | zero => intro j b176 hj176 hb176 hm; exact absurd hm (Nat.not_lt_zero _)
                  | succ n176 ih176 =>
                    intro j b176 hj176 hb176 hm176 H locs ls hP hD hS hl
                    refine lv_iload hx hb d_M_set_176 (lv_at hl 2 rfl) ?_
                    refine lv_aload_n hx hb d_M_set_178 rfl (lv_at hl 0 rfl) ?_
                    refine va_get (D := (dC, dI)) (ci := 4) (v := .int (nI (m_nR u))) (C := "SeatProofsModel") (T := F_M) (N := 20) hx hb hts (iu_M _) hown hK hP 0 rfl rfl 10 (by decide) (hts _ (List.mem_cons_of_mem _ iw_450)) (fun _ h9 => h9) rfl d_M_set_179 ?_
                    refine nv_ge (tgt := 289) hx hb d_M_set_182 (by decide) (by omega) (by omega) (fun c_6 => ?_) (fun c_6 => ?_)
                    · refine lv_aload_n hx hb d_M_set_289 rfl (lv_at hl 0 rfl) ?_
                      refine lv_iload_n hx hb d_M_set_290 rfl (lv_at hl 1 rfl) ?_
                      refine b0_eq (tgt := 301) hx hb d_M_set_291 (by decide) (fun c_7 => ?_) (fun c_7 => ?_)
                      · refine lv_iconst (v := nI 0) hx hb d_M_set_301 (by decide) ?_
                        refine va_put (D := (dC, dI)) (ci := 4) (v := .int (nI 0)) (ty := .int) (C := "SeatProofsModel") (T := F_M) (N := 20) hx hb hts (iu_M _) t_M t_M_ok n_M hown hK hP hD hS 0 rfl rfl 10 (by decide) (hts _ (List.mem_cons_of_mem _ iw_450)) (fun _ h9 => h9) rfl (by decide +kernel) rfl rfl (Nat.le_of_ble_eq_true rfl) d_M_set_302 (fun H locs hP hD hS => ?_)
                        have hP : va_P (dC, dI) vwCl (wM q (m_mk (m_liq u) (m_lev u) (m_nS u) (m_fa u) (m_fb u) (m_seat u) (va_up (m_op u) i o) (m_un u) (m_nV u) (m_may u) 0 (m_rf u) (m_rl u) g3 g4 (m_cul u) (m_gu u) t 0 w)) H := hP
                        have hD : va_D (va_A (wM q u) s.heap.size) (wM q (m_mk (m_liq u) (m_lev u) (m_nS u) (m_fa u) (m_fb u) (m_seat u) (va_up (m_op u) i o) (m_un u) (m_nV u) (m_may u) 0 (m_rf u) (m_rl u) g3 g4 (m_cul u) (m_gu u) t 0 w)) := hD
                        refine lv_iload_n hx hb d_M_set_305 rfl (lv_at hl 1 rfl) ?_
                        exact W.zret hx hb hr (bI_narrow _) (fun t9 ht9 hW9 => ⟨⟨_, (m_mk (m_liq u) (m_lev u) (m_nS u) (m_fa u) (m_fb u) (m_seat u) (va_up (m_op u) i o) (m_un u) (m_nV u) (m_may u) 0 (m_rf u) (m_rl u) g3 g4 (m_cul u) (m_gu u) t 0 w), rfl, Or.inr ⟨i, hi, rfl, g3, g4, w, b176, fun j => by rw [h3 j, show k = m_nR u from by omega], fun j => by rw [h4 j, show k = m_nR u from by omega], kk_e hb176 (Or.inl c_6), rfl, by rw [ht44, show k = m_nR u from by omega, if_neg (fun h => absurd (h.symm.trans c_7) (by decide))]⟩, by rw [ht9]; exact hP, va_K.moved hW9.alike hK, hD⟩, hS.F ht9⟩) hS.2.2 d_M_set_306
                      · refine lv_aload_n hx hb d_M_set_294 rfl (lv_at hl 0 rfl) ?_
                        refine va_get (D := (dC, dI)) (ci := 4) (v := .int (nI (m_nR u))) (C := "SeatProofsModel") (T := F_M) (N := 20) hx hb hts (iu_M _) hown hK hP 0 rfl rfl 10 (by decide) (hts _ (List.mem_cons_of_mem _ iw_450)) (fun _ h9 => h9) rfl d_M_set_295 ?_
                        refine lv_goto (tgt := 302) hx hb d_M_set_298 (by decide) ?_
                        refine va_put (D := (dC, dI)) (ci := 4) (v := .int (nI (m_nR u))) (ty := .int) (C := "SeatProofsModel") (T := F_M) (N := 20) hx hb hts (iu_M _) t_M t_M_ok n_M hown hK hP hD hS 0 rfl rfl 10 (by decide) (hts _ (List.mem_cons_of_mem _ iw_450)) (fun _ h9 => h9) rfl (by decide +kernel) rfl rfl (Nat.le_of_ble_eq_true rfl) d_M_set_302 (fun H locs hP hD hS => ?_)
                        have hP : va_P (dC, dI) vwCl (wM q (m_mk (m_liq u) (m_lev u) (m_nS u) (m_fa u) (m_fb u) (m_seat u) (va_up (m_op u) i o) (m_un u) (m_nV u) (m_may u) (m_nR u) (m_rf u) (m_rl u) g3 g4 (m_cul u) (m_gu u) t 0 w)) H := hP
                        have hD : va_D (va_A (wM q u) s.heap.size) (wM q (m_mk (m_liq u) (m_lev u) (m_nS u) (m_fa u) (m_fb u) (m_seat u) (va_up (m_op u) i o) (m_un u) (m_nV u) (m_may u) (m_nR u) (m_rf u) (m_rl u) g3 g4 (m_cul u) (m_gu u) t 0 w)) := hD
                        refine lv_iload_n hx hb d_M_set_305 rfl (lv_at hl 1 rfl) ?_
                        exact W.zret hx hb hr (bI_narrow _) (fun t9 ht9 hW9 => ⟨⟨_, (m_mk (m_liq u) (m_lev u) (m_nS u) (m_fa u) (m_fb u) (m_seat u) (va_up (m_op u) i o) (m_un u) (m_nV u) (m_may u) (m_nR u) (m_rf u) (m_rl u) g3 g4 (m_cul u) (m_gu u) t 0 w), rfl, Or.inr ⟨i, hi, rfl, g3, g4, w, b176, fun j => by rw [h3 j, show k = m_nR u from by omega], fun j => by rw [h4 j, show k = m_nR u from by omega], kk_e hb176 (Or.inl c_6), rfl, by rw [ht44, show k = m_nR u from by omega, if_pos c_7]⟩, by rw [ht9]; exact hP, va_K.moved hW9.alike hK, hD⟩, hS.F ht9⟩) hS.2.2 d_M_set_306
                    · refine lv_iload_n hx hb d_M_set_185 rfl (lv_at hl 1 rfl) ?_
                      refine b0_eq (tgt := 289) hx hb d_M_set_186 (by decide) (fun c_8 => ?_) (fun c_8 => ?_)
                      · refine lv_aload_n hx hb d_M_set_289 rfl (lv_at hl 0 rfl) ?_
                        refine lv_iload_n hx hb d_M_set_290 rfl (lv_at hl 1 rfl) ?_
                        refine b0_eq (tgt := 301) hx hb d_M_set_291 (by decide) (fun c_9 => ?_) (fun c_9 => ?_)
                        · refine lv_iconst (v := nI 0) hx hb d_M_set_301 (by decide) ?_
                          refine va_put (D := (dC, dI)) (ci := 4) (v := .int (nI 0)) (ty := .int) (C := "SeatProofsModel") (T := F_M) (N := 20) hx hb hts (iu_M _) t_M t_M_ok n_M hown hK hP hD hS 0 rfl rfl 10 (by decide) (hts _ (List.mem_cons_of_mem _ iw_450)) (fun _ h9 => h9) rfl (by decide +kernel) rfl rfl (Nat.le_of_ble_eq_true rfl) d_M_set_302 (fun H locs hP hD hS => ?_)
                          have hP : va_P (dC, dI) vwCl (wM q (m_mk (m_liq u) (m_lev u) (m_nS u) (m_fa u) (m_fb u) (m_seat u) (va_up (m_op u) i o) (m_un u) (m_nV u) (m_may u) 0 (m_rf u) (m_rl u) g3 g4 (m_cul u) (m_gu u) t 0 w)) H := hP
                          have hD : va_D (va_A (wM q u) s.heap.size) (wM q (m_mk (m_liq u) (m_lev u) (m_nS u) (m_fa u) (m_fb u) (m_seat u) (va_up (m_op u) i o) (m_un u) (m_nV u) (m_may u) 0 (m_rf u) (m_rl u) g3 g4 (m_cul u) (m_gu u) t 0 w)) := hD
                          refine lv_iload_n hx hb d_M_set_305 rfl (lv_at hl 1 rfl) ?_
                          exact W.zret hx hb hr (bI_narrow _) (fun t9 ht9 hW9 => ⟨⟨_, (m_mk (m_liq u) (m_lev u) (m_nS u) (m_fa u) (m_fb u) (m_seat u) (va_up (m_op u) i o) (m_un u) (m_nV u) (m_may u) 0 (m_rf u) (m_rl u) g3 g4 (m_cul u) (m_gu u) t 0 w), rfl, Or.inr ⟨i, hi, rfl, g3, g4, w, b176, fun j => by rw [h3 j, show k = m_nR u from by omega], fun j => by rw [h4 j, show k = m_nR u from by omega], kk_e hb176 (Or.inr c_8), rfl, by rw [ht44, show k = m_nR u from by omega, if_neg (fun h => absurd (h.symm.trans c_9) (by decide))]⟩, by rw [ht9]; exact hP, va_K.moved hW9.alike hK, hD⟩, hS.F ht9⟩) hS.2.2 d_M_set_306
                        · refine lv_aload_n hx hb d_M_set_294 rfl (lv_at hl 0 rfl) ?_
                          refine va_get (D := (dC, dI)) (ci := 4) (v := .int (nI (m_nR u))) (C := "SeatProofsModel") (T := F_M) (N := 20) hx hb hts (iu_M _) hown hK hP 0 rfl rfl 10 (by decide) (hts _ (List.mem_cons_of_mem _ iw_450)) (fun _ h9 => h9) rfl d_M_set_295 ?_
                          refine lv_goto (tgt := 302) hx hb d_M_set_298 (by decide) ?_
                          refine va_put (D := (dC, dI)) (ci := 4) (v := .int (nI (m_nR u))) (ty := .int) (C := "SeatProofsModel") (T := F_M) (N := 20) hx hb hts (iu_M _) t_M t_M_ok n_M hown hK hP hD hS 0 rfl rfl 10 (by decide) (hts _ (List.mem_cons_of_mem _ iw_450)) (fun _ h9 => h9) rfl (by decide +kernel) rfl rfl (Nat.le_of_ble_eq_true rfl) d_M_set_302 (fun H locs hP hD hS => ?_)
                          have hP : va_P (dC, dI) vwCl (wM q (m_mk (m_liq u) (m_lev u) (m_nS u) (m_fa u) (m_fb u) (m_seat u) (va_up (m_op u) i o) (m_un u) (m_nV u) (m_may u) (m_nR u) (m_rf u) (m_rl u) g3 g4 (m_cul u) (m_gu u) t 0 w)) H := hP
                          have hD : va_D (va_A (wM q u) s.heap.size) (wM q (m_mk (m_liq u) (m_lev u) (m_nS u) (m_fa u) (m_fb u) (m_seat u) (va_up (m_op u) i o) (m_un u) (m_nV u) (m_may u) (m_nR u) (m_rf u) (m_rl u) g3 g4 (m_cul u) (m_gu u) t 0 w)) := hD
                          refine lv_iload_n hx hb d_M_set_305 rfl (lv_at hl 1 rfl) ?_
                          exact W.zret hx hb hr (bI_narrow _) (fun t9 ht9 hW9 => ⟨⟨_, (m_mk (m_liq u) (m_lev u) (m_nS u) (m_fa u) (m_fb u) (m_seat u) (va_up (m_op u) i o) (m_un u) (m_nV u) (m_may u) (m_nR u) (m_rf u) (m_rl u) g3 g4 (m_cul u) (m_gu u) t 0 w), rfl, Or.inr ⟨i, hi, rfl, g3, g4, w, b176, fun j => by rw [h3 j, show k = m_nR u from by omega], fun j => by rw [h4 j, show k = m_nR u from by omega], kk_e hb176 (Or.inr c_8), rfl, by rw [ht44, show k = m_nR u from by omega, if_pos c_9]⟩, by rw [ht9]; exact hP, va_K.moved hW9.alike hK, hD⟩, hS.F ht9⟩) hS.2.2 d_M_set_306
                      · refine lv_iload hx hb d_M_set_189 (lv_at hl 2 rfl) ?_
                        refine lv_iconst (v := nI 1) hx hb d_M_set_191 (by decide) ?_
                        refine lv_iadd hx hb d_M_set_192 ?_
                        refine tp_i (nI (j + 1)) (nI_add _ _) ?_
                        refine lv_istore (lv' := [(5, .int (nI (j + 1))), (0, .ref (ma_o q)), (3, .int (bI b176)), (4, .int (nI j))]) hx hb d_M_set_193 hl (by decide) rfl (fun ls hl => ?_)
                        have L195 : ∀ (n195 : Nat) (k5 : Nat) (b195 : Bool), (j < k5) → (k5 ≤ m_nR u) → (b195 = true ↔ (0 < m_nR u ∧ (∀ x y, x < j → x < y → y < m_nR u → ¬ mK u g3 x y) ∧ ∀ y, j < y → y < k5 → ¬ mK u g3 j y)) → m_nR u - k5 < n195 → ∀ (H : Heap) (locs : List Loc) (ls : Array Slot), va_P (dC, dI) vwCl (wM q (m_mk (m_liq u) (m_lev u) (m_nS u) (m_fa u) (m_fb u) (m_seat u) (va_up (m_op u) i o) (m_un u) (m_nV u) (m_may u) (m_nR u) (m_rf u) (m_rl u) g3 g4 (m_cul u) (m_gu u) t 0 w)) H → va_D (va_A (wM q u) s.heap.size) (wM q (m_mk (m_liq u) (m_lev u) (m_nS u) (m_fa u) (m_fb u) (m_seat u) (va_up (m_op u) i o) (m_un u) (m_nV u) (m_may u) (m_nR u) (m_rf u) (m_rl u) g3 g4 (m_cul u) (m_gu u) t 0 w)) → va_S (va_A (wM q u) s.heap.size) s.heap H locs → lv_has ls 6 [(0, .ref (ma_o q)), (3, .int (bI b195)), (4, .int (nI j)), (5, .int (nI k5))] → W p l e (headSpec w_M_set ({ frames := 2, cells := 0, slots := 0, locals := 53 })).room s m [Value.ref (ma_o q), Value.int (nI i), Value.int (bI o)].toArray below meth c H locs 0 0 (MQ below (va_Qi (fun (r : Int32) (z : MSt) => (ixB (nI i) (m_nV u) = false ∧ r = bI false ∧ z = m_s_th u 1) ∨ (∃ i9, i9 < m_nV u ∧ (nI i) = nI i9 ∧ ∃ (g3 g4 : Nat → Int64) (w : Nat → Bool) (b : Bool), (∀ j, g3 j = if j < m_nR u ∧ mt u i9 j = true then sF u (m_s_op u (va_up (m_op u) i9 o)) j else m_rw u j) ∧ (∀ j, g4 j = if j < m_nR u ∧ mt u i9 j = true then sC u (m_s_op u (va_up (m_op u) i9 o)) j else m_rc u j) ∧ (b = true ↔ (0 < m_nR u ∧ ∀ p9 q9, p9 < q9 → q9 < m_nR u → ¬ mK u g3 p9 q9)) ∧ r = bI b ∧ z = m_s_wet (m_s_th (m_s_te (m_s_rc (m_s_rw (m_s_nR (m_s_op u (va_up (m_op u) i9 o)) (if b = true then m_nR u else 0)) g3) g4) (pcn (mt u i9) (m_nR u))) 0) w)) (qB (dC, dI) vwCl (tM q) (wM q u) s.heap.size (wM q)) (va_A (wM q u) s.heap.size)) [Value.ref (ma_o q), Value.int (nI i), Value.int (bI o)].toArray s 0 0 (va_A (wM q u) s.heap.size)) (F0 m 195 ls []) := by
                          intro n195
                          induction n195 with
                          | zero => intro k5 b195 hj195 hk195 hb195 hm; exact absurd hm (Nat.not_lt_zero _)
                          | succ n195 ih195 =>
                            intro k5 b195 hj195 hk195 hb195 hm195 H locs ls hP hD hS hl
                            refine lv_iload hx hb d_M_set_195 (lv_at hl 3 rfl) ?_
                            refine lv_aload_n hx hb d_M_set_197 rfl (lv_at hl 0 rfl) ?_
                            refine va_get (D := (dC, dI)) (ci := 4) (v := .int (nI (m_nR u))) (C := "SeatProofsModel") (T := F_M) (N := 20) hx hb hts (iu_M _) hown hK hP 0 rfl rfl 10 (by decide) (hts _ (List.mem_cons_of_mem _ iw_450)) (fun _ h9 => h9) rfl d_M_set_198 ?_
                            refine nv_ge (tgt := 283) hx hb d_M_set_201 (by decide) (by omega) (by omega) (fun c_10 => ?_) (fun c_10 => ?_)
                            · refine lv_iinc (v := nI (j + 1)) (lv' := [(4, .int (nI (j + 1))), (0, .ref (ma_o q)), (3, .int (bI b195)), (5, .int (nI k5))]) hx hb d_M_set_283 hl (k := 2) rfl (nI_1 _) (by decide) rfl (fun ls hl => ?_)
                              refine lv_goto (tgt := 176) hx hb d_M_set_286 (by decide) ?_
                              exact ih176 (j + 1) b195 (by omega) (kk_s hb195 hk195 (Or.inl c_10)) (by omega) _ _ ls hP hD hS (lv_sub hl [1, 2, 0] rfl)
                            · refine lv_iload_n hx hb d_M_set_204 rfl (lv_at hl 1 rfl) ?_
                              refine b0_eq (tgt := 283) hx hb d_M_set_205 (by decide) (fun c_11 => ?_) (fun c_11 => ?_)
                              · refine lv_iinc (v := nI (j + 1)) (lv' := [(4, .int (nI (j + 1))), (0, .ref (ma_o q)), (3, .int (bI b195)), (5, .int (nI k5))]) hx hb d_M_set_283 hl (k := 2) rfl (nI_1 _) (by decide) rfl (fun ls hl => ?_)
                                refine lv_goto (tgt := 176) hx hb d_M_set_286 (by decide) ?_
                                exact ih176 (j + 1) b195 (by omega) (kk_s hb195 hk195 (Or.inr c_11)) (by omega) _ _ ls hP hD hS (lv_sub hl [1, 2, 0] rfl)
                              · refine lv_aload_n hx hb d_M_set_208 rfl (lv_at hl 0 rfl) ?_
                                refine va_get (D := (dC, dI)) (ci := 4) (v := .ref (ma_rf q)) (C := "SeatProofsModel") (T := F_M) (N := 20) hx hb hts (iu_M _) hown hK hP 0 rfl rfl 11 (by decide) (hts _ (List.mem_cons_of_mem _ iw_451)) (fun _ h9 => h9) rfl d_M_set_209 ?_
                                refine lv_iload hx hb d_M_set_212 (lv_at hl 2 rfl) ?_
                                refine ld_i hx hb hK hP 9 0 rfl rfl (nI (m_rf u j)) (by omega) (by decide) rfl d_M_set_214 ?_
                                refine lv_aload_n hx hb d_M_set_215 rfl (lv_at hl 0 rfl) ?_
                                refine va_get (D := (dC, dI)) (ci := 4) (v := .ref (ma_rf q)) (C := "SeatProofsModel") (T := F_M) (N := 20) hx hb hts (iu_M _) hown hK hP 0 rfl rfl 11 (by decide) (hts _ (List.mem_cons_of_mem _ iw_451)) (fun _ h9 => h9) rfl d_M_set_216 ?_
                                refine lv_iload hx hb d_M_set_219 (lv_at hl 3 rfl) ?_
                                refine ld_i hx hb hK hP 9 0 rfl rfl (nI (m_rf u k5)) (by omega) (by decide) rfl d_M_set_221 ?_
                                refine nv_ne (tgt := 271) hx hb d_M_set_222 (by decide) (by have := k7 j; omega) (by have := k7 k5; omega) (fun c_12 => ?_) (fun c_12 => ?_)
                                · refine lv_iconst (v := nI 1) hx hb d_M_set_271 (by decide) ?_
                                  refine lv_goto (tgt := 276) hx hb d_M_set_272 (by decide) ?_
                                  refine lv_istore_n (lv' := [(3, .int (nI 1)), (0, .ref (ma_o q)), (4, .int (nI j)), (5, .int (nI k5))]) hx hb d_M_set_276 rfl hl (by decide) rfl (fun ls hl => ?_)
                                  refine lv_iinc (v := nI (k5 + 1)) (lv' := [(5, .int (nI (k5 + 1))), (3, .int (nI 1)), (0, .ref (ma_o q)), (4, .int (nI j))]) hx hb d_M_set_277 hl (k := 3) rfl (nI_1 _) (by decide) rfl (fun ls hl => ?_)
                                  refine lv_goto (tgt := 195) hx hb d_M_set_280 (by decide) ?_
                                  exact ih195 (k5 + 1) true (by omega) (by omega) (kk_k hb195 c_11 hj195 ⟨fun _ h => c_12 h.1, fun _ => rfl⟩) (by omega) _ _ ls hP hD hS (lv_sub hl [2, 1, 3, 0] rfl)
                                · refine lv_aload_n hx hb d_M_set_225 rfl (lv_at hl 0 rfl) ?_
                                  refine va_get (D := (dC, dI)) (ci := 4) (v := .ref (ma_rw q)) (C := "SeatProofsModel") (T := F_M) (N := 20) hx hb hts (iu_M _) hown hK hP 0 rfl rfl 13 (by decide) (hts _ (List.mem_cons_of_mem _ iw_453)) (fun _ h9 => h9) rfl d_M_set_226 ?_
                                  refine lv_iload hx hb d_M_set_229 (lv_at hl 2 rfl) ?_
                                  refine ld_l hx hb hK hP 11 1 rfl rfl (g3 j) (by omega) (by decide) rfl d_M_set_231 ?_
                                  refine lv_aload_n hx hb d_M_set_232 rfl (lv_at hl 0 rfl) ?_
                                  refine va_get (D := (dC, dI)) (ci := 4) (v := .ref (ma_rw q)) (C := "SeatProofsModel") (T := F_M) (N := 20) hx hb hts (iu_M _) hown hK hP 0 rfl rfl 13 (by decide) (hts _ (List.mem_cons_of_mem _ iw_453)) (fun _ h9 => h9) rfl d_M_set_233 ?_
                                  refine lv_iload hx hb d_M_set_236 (lv_at hl 3 rfl) ?_
                                  refine ld_l hx hb hK hP 11 1 rfl rfl (g3 k5) (by omega) (by decide) rfl d_M_set_238 ?_
                                  refine lv_land hx hb d_M_set_239 ?_
                                  refine lv_lconst (v := 0) hx hb d_M_set_240 (by decide) ?_
                                  refine W.lcmp hx hb d_M_set_241 ?_
                                  refine l0_eq (tgt := 271) hx hb d_M_set_242 (by decide) (fun c_13 => ?_) (fun c_13 => ?_)
                                  · refine lv_iconst (v := nI 1) hx hb d_M_set_271 (by decide) ?_
                                    refine lv_goto (tgt := 276) hx hb d_M_set_272 (by decide) ?_
                                    refine lv_istore_n (lv' := [(3, .int (nI 1)), (0, .ref (ma_o q)), (4, .int (nI j)), (5, .int (nI k5))]) hx hb d_M_set_276 rfl hl (by decide) rfl (fun ls hl => ?_)
                                    refine lv_iinc (v := nI (k5 + 1)) (lv' := [(5, .int (nI (k5 + 1))), (3, .int (nI 1)), (0, .ref (ma_o q)), (4, .int (nI j))]) hx hb d_M_set_277 hl (k := 3) rfl (nI_1 _) (by decide) rfl (fun ls hl => ?_)
                                    refine lv_goto (tgt := 195) hx hb d_M_set_280 (by decide) ?_
                                    exact ih195 (k5 + 1) true (by omega) (by omega) (kk_k hb195 c_11 hj195 ⟨fun _ h => h.2.1 c_13, fun _ => rfl⟩) (by omega) _ _ ls hP hD hS (lv_sub hl [2, 1, 3, 0] rfl)
                                  · refine lv_aload_n hx hb d_M_set_245 rfl (lv_at hl 0 rfl) ?_
                                    refine va_get (D := (dC, dI)) (ci := 4) (v := .ref (ma_may q)) (C := "SeatProofsModel") (T := F_M) (N := 20) hx hb hts (iu_M _) hown hK hP 0 rfl rfl 9 (by decide) (hts _ (List.mem_cons_of_mem _ iw_449)) (fun _ h9 => h9) rfl d_M_set_246 ?_
                                    refine lv_bipush (v := nI 16) hx hb d_M_set_249 (by decide) ?_
                                    refine lv_aload_n hx hb d_M_set_251 rfl (lv_at hl 0 rfl) ?_
                                    refine va_get (D := (dC, dI)) (ci := 4) (v := .ref (ma_rl q)) (C := "SeatProofsModel") (T := F_M) (N := 20) hx hb hts (iu_M _) hown hK hP 0 rfl rfl 12 (by decide) (hts _ (List.mem_cons_of_mem _ iw_452)) (fun _ h9 => h9) rfl d_M_set_252 ?_
                                    refine lv_iload hx hb d_M_set_255 (lv_at hl 2 rfl) ?_
                                    refine ld_i hx hb hK hP 10 0 rfl rfl (nI (m_rl u j)) (by omega) (by decide) rfl d_M_set_257 ?_
                                    refine lv_imul hx hb d_M_set_258 ?_
                                    refine tp_i (nI (16 * (m_rl u j))) (pk_mul _ _) ?_
                                    refine lv_aload_n hx hb d_M_set_259 rfl (lv_at hl 0 rfl) ?_
                                    refine va_get (D := (dC, dI)) (ci := 4) (v := .ref (ma_rl q)) (C := "SeatProofsModel") (T := F_M) (N := 20) hx hb hts (iu_M _) hown hK hP 0 rfl rfl 12 (by decide) (hts _ (List.mem_cons_of_mem _ iw_452)) (fun _ h9 => h9) rfl d_M_set_260 ?_
                                    refine lv_iload hx hb d_M_set_263 (lv_at hl 3 rfl) ?_
                                    refine ld_i hx hb hK hP 10 0 rfl rfl (nI (m_rl u k5)) (by omega) (by decide) rfl d_M_set_265 ?_
                                    refine lv_iadd hx hb d_M_set_266 ?_
                                    refine tp_i (nI ((16 * (m_rl u j)) + m_rl u k5)) (nI_add _ _) ?_
                                    refine ld_z hx hb hK hP 8 2 rfl rfl (bI (m_may u ((16 * (m_rl u j)) + m_rl u k5))) (by have := k8 j; have := k8 k5; omega) (by decide) rfl d_M_set_267 ?_
                                    refine b0_eq (tgt := 275) hx hb d_M_set_268 (by decide) (fun c_14 => ?_) (fun c_14 => ?_)
                                    · refine lv_iconst (v := nI 0) hx hb d_M_set_275 (by decide) ?_
                                      refine lv_istore_n (lv' := [(3, .int (nI 0)), (0, .ref (ma_o q)), (4, .int (nI j)), (5, .int (nI k5))]) hx hb d_M_set_276 rfl hl (by decide) rfl (fun ls hl => ?_)
                                      refine lv_iinc (v := nI (k5 + 1)) (lv' := [(5, .int (nI (k5 + 1))), (3, .int (nI 0)), (0, .ref (ma_o q)), (4, .int (nI j))]) hx hb d_M_set_277 hl (k := 3) rfl (nI_1 _) (by decide) rfl (fun ls hl => ?_)
                                      refine lv_goto (tgt := 195) hx hb d_M_set_280 (by decide) ?_
                                      exact ih195 (k5 + 1) false (by omega) (by omega) (kk_k hb195 c_11 hj195 ⟨fun h => absurd h (by decide), fun h => absurd ⟨c_12, c_13, c_14⟩ h⟩) (by omega) _ _ ls hP hD hS (lv_sub hl [2, 1, 3, 0] rfl)
                                    · refine lv_iconst (v := nI 1) hx hb d_M_set_271 (by decide) ?_
                                      refine lv_goto (tgt := 276) hx hb d_M_set_272 (by decide) ?_
                                      refine lv_istore_n (lv' := [(3, .int (nI 1)), (0, .ref (ma_o q)), (4, .int (nI j)), (5, .int (nI k5))]) hx hb d_M_set_276 rfl hl (by decide) rfl (fun ls hl => ?_)
                                      refine lv_iinc (v := nI (k5 + 1)) (lv' := [(5, .int (nI (k5 + 1))), (3, .int (nI 1)), (0, .ref (ma_o q)), (4, .int (nI j))]) hx hb d_M_set_277 hl (k := 3) rfl (nI_1 _) (by decide) rfl (fun ls hl => ?_)
                                      refine lv_goto (tgt := 195) hx hb d_M_set_280 (by decide) ?_
                                      exact ih195 (k5 + 1) true (by omega) (by omega) (kk_k hb195 c_11 hj195 ⟨fun _ h => absurd (h.2.2.symm.trans c_14) (by decide), fun _ => rfl⟩) (by omega) _ _ ls hP hD hS (lv_sub hl [2, 1, 3, 0] rfl)
                        exact L195 _ (j + 1) b176 (by omega) (by omega) (kk_1 hb176) (Nat.lt_succ_self _) _ _ ls hP hD hS (lv_sub hl [1, 2, 3, 0] rfl)
                exact L176 _ 0 b172 (Nat.zero_le _) (⟨fun h => ⟨of_decide_eq_true (hb172.symm.trans h), fun x _ hx => absurd hx (Nat.not_lt_zero x)⟩, fun h => hb172.trans (decide_eq_true h.1)⟩) (Nat.lt_succ_self _) _ _ ls hP hD hS (lv_sub hl [2, 1, 0] rfl)
              refine lv_aload_n hx hb d_M_set_160 rfl (lv_at hl 0 rfl) ?_
              refine va_get (D := (dC, dI)) (ci := 4) (v := .int (nI (m_nR u))) (C := "SeatProofsModel") (T := F_M) (N := 20) hx hb hts (iu_M _) hown hK hP 0 rfl rfl 10 (by decide) (hts _ (List.mem_cons_of_mem _ iw_450)) (fun _ h9 => h9) rfl d_M_set_161 ?_
              refine n0_le (tgt := 171) hx hb d_M_set_164 (by decide) (by omega) (fun c_15 => ?_) (fun c_15 => ?_)
              · refine lv_iconst (v := nI 0) hx hb d_M_set_171 (by decide) ?_
                refine tp_i (bI false) (by decide) ?_
                exact L172 false (by simp [c_15]) _ _ ls hP hD hS (lv_sub hl [0] rfl)
              · refine lv_iconst (v := nI 1) hx hb d_M_set_167 (by decide) ?_
                refine lv_goto (tgt := 172) hx hb d_M_set_168 (by decide) ?_
                refine tp_i (bI true) (by decide) ?_
                exact L172 true ((decide_eq_true (Nat.pos_of_ne_zero c_15)).symm) _ _ ls hP hD hS (lv_sub hl [0] rfl)
            · have L100 : (mt u i k = true) → ∀ (H : Heap) (locs : List Loc) (ls : Array Slot), va_P (dC, dI) vwCl (wM q (m_mk (m_liq u) (m_lev u) (m_nS u) (m_fa u) (m_fb u) (m_seat u) (va_up (m_op u) i o) (m_un u) (m_nV u) (m_may u) (m_nR u) (m_rf u) (m_rl u) g3 g4 (m_cul u) (m_gu u) t 0 w)) H → va_D (va_A (wM q u) s.heap.size) (wM q (m_mk (m_liq u) (m_lev u) (m_nS u) (m_fa u) (m_fb u) (m_seat u) (va_up (m_op u) i o) (m_un u) (m_nV u) (m_may u) (m_nR u) (m_rf u) (m_rl u) g3 g4 (m_cul u) (m_gu u) t 0 w)) → va_S (va_A (wM q u) s.heap.size) s.heap H locs → lv_has ls 6 [(0, .ref (ma_o q)), (1, .int (nI i)), (2, .int (bI o)), (3, .int (nI k))] → W p l e (headSpec w_M_set ({ frames := 2, cells := 0, slots := 0, locals := 53 })).room s m [Value.ref (ma_o q), Value.int (nI i), Value.int (bI o)].toArray below meth c H locs 0 0 (MQ below (va_Qi (fun (r : Int32) (z : MSt) => (ixB (nI i) (m_nV u) = false ∧ r = bI false ∧ z = m_s_th u 1) ∨ (∃ i9, i9 < m_nV u ∧ (nI i) = nI i9 ∧ ∃ (g3 g4 : Nat → Int64) (w : Nat → Bool) (b : Bool), (∀ j, g3 j = if j < m_nR u ∧ mt u i9 j = true then sF u (m_s_op u (va_up (m_op u) i9 o)) j else m_rw u j) ∧ (∀ j, g4 j = if j < m_nR u ∧ mt u i9 j = true then sC u (m_s_op u (va_up (m_op u) i9 o)) j else m_rc u j) ∧ (b = true ↔ (0 < m_nR u ∧ ∀ p9 q9, p9 < q9 → q9 < m_nR u → ¬ mK u g3 p9 q9)) ∧ r = bI b ∧ z = m_s_wet (m_s_th (m_s_te (m_s_rc (m_s_rw (m_s_nR (m_s_op u (va_up (m_op u) i9 o)) (if b = true then m_nR u else 0)) g3) g4) (pcn (mt u i9) (m_nR u))) 0) w)) (qB (dC, dI) vwCl (tM q) (wM q u) s.heap.size (wM q)) (va_A (wM q u) s.heap.size)) [Value.ref (ma_o q), Value.int (nI i), Value.int (bI o)].toArray s 0 0 (va_A (wM q u) s.heap.size)) (F0 m 100 ls []) := by
                intro  hmt H locs ls hP hD hS hl
                refine lv_aload_n hx hb d_M_set_100 rfl (lv_at hl 0 rfl) ?_
                refine va_get (D := (dC, dI)) (ci := 4) (v := .ref (ma_rw q)) (C := "SeatProofsModel") (T := F_M) (N := 20) hx hb hts (iu_M _) hown hK hP 0 rfl rfl 13 (by decide) (hts _ (List.mem_cons_of_mem _ iw_453)) (fun _ h9 => h9) rfl d_M_set_101 ?_
                refine lv_iload_n hx hb d_M_set_104 rfl (lv_at hl 3 rfl) ?_
                refine lv_aload_n hx hb d_M_set_105 rfl (lv_at hl 0 rfl) ?_
                refine lv_aload_n hx hb d_M_set_106 rfl (lv_at hl 0 rfl) ?_
                refine va_get (D := (dC, dI)) (ci := 4) (v := .ref (ma_rl q)) (C := "SeatProofsModel") (T := F_M) (N := 20) hx hb hts (iu_M _) hown hK hP 0 rfl rfl 12 (by decide) (hts _ (List.mem_cons_of_mem _ iw_452)) (fun _ h9 => h9) rfl d_M_set_107 ?_
                refine lv_iload_n hx hb d_M_set_110 rfl (lv_at hl 3 rfl) ?_
                refine ld_i hx hb hK hP 10 0 rfl rfl (nI (m_rl u k)) (by omega) (by decide) rfl d_M_set_111 ?_
                refine lv_aload_n hx hb d_M_set_112 rfl (lv_at hl 0 rfl) ?_
                refine va_get (D := (dC, dI)) (ci := 4) (v := .ref (ma_rf q)) (C := "SeatProofsModel") (T := F_M) (N := 20) hx hb hts (iu_M _) hown hK hP 0 rfl rfl 11 (by decide) (hts _ (List.mem_cons_of_mem _ iw_451)) (fun _ h9 => h9) rfl d_M_set_113 ?_
                refine lv_iload_n hx hb d_M_set_116 rfl (lv_at hl 3 rfl) ?_
                refine ld_i hx hb hK hP 9 0 rfl rfl (nI (m_rf u k)) (by omega) (by decide) rfl d_M_set_117 ?_
                refine cq_l (va_runV (As := [.int (nI (m_rl u k)), .int (nI (m_rf u k))]) (rest := [.int (nI k), .ref (ma_rw q)]) ⟨hx, hb, hml, hown, hts⟩ (c_M_flood l dC dI q (m_mk (m_liq u) (m_lev u) (m_nS u) (m_fa u) (m_fb u) (m_seat u) (va_up (m_op u) i o) (m_un u) (m_nV u) (m_may u) (m_nR u) (m_rf u) (m_rl u) g3 g4 (m_cul u) (m_gu u) t 0 w) _ (m_rl u k) (m_rf u k) (MOk_set hu (by have := pcn_le (mt u i) k; omega)) (k8 _) (k7 _)) (cwV 2 hts (good_up (good_V iw_534 iw_536 ip_11 iw_5 gg_M_flood)) rfl rfl rfl (by decide +kernel) ⟨Nat.le_of_ble_eq_true rfl, Nat.le_of_ble_eq_true rfl⟩) (pv_Q [.int (nI (m_rl u k)), .int (nI (m_rf u k))] hN hK hP hD (ci := 4) (q0 := 0) rfl rfl) rfl rfl hl.1 rfl (lv_room (Nat.le_of_ble_eq_true rfl)) d_M_set_118 ⟨Nat.le_of_ble_eq_true rfl, Nat.le_of_ble_eq_true rfl⟩) hD hS hA (fun r_18 z_17 H locs hr_16 hP hD hS => ?_)
                obtain ⟨w_19, rfl, rfl⟩ := hr_16
                have hP : va_P (dC, dI) vwCl (wM q (m_mk (m_liq u) (m_lev u) (m_nS u) (m_fa u) (m_fb u) (m_seat u) (va_up (m_op u) i o) (m_un u) (m_nV u) (m_may u) (m_nR u) (m_rf u) (m_rl u) g3 g4 (m_cul u) (m_gu u) t 0 w_19)) H := hP
                have hD : va_D (va_A (wM q u) s.heap.size) (wM q (m_mk (m_liq u) (m_lev u) (m_nS u) (m_fa u) (m_fb u) (m_seat u) (va_up (m_op u) i o) (m_un u) (m_nV u) (m_may u) (m_nR u) (m_rf u) (m_rl u) g3 g4 (m_cul u) (m_gu u) t 0 w_19)) := hD
                refine tp_l (mF (m_s_op u (va_up (m_op u) i o)) (m_rl u k) (m_rf u k)) (mF_cg rfl rfl rfl rfl rfl rfl rfl rfl rfl) ?_
                refine st_l hx hb hK hP hD hS 11 1 rfl rfl (va_up g3 k (mF (m_s_op u (va_up (m_op u) i o)) (m_rl u k) (m_rf u k))) (by omega) (by decide) (updL_up _ _ _) d_M_set_121 (fun H locs hP hD hS => ?_)
                have hP : va_P (dC, dI) vwCl (wM q (m_mk (m_liq u) (m_lev u) (m_nS u) (m_fa u) (m_fb u) (m_seat u) (va_up (m_op u) i o) (m_un u) (m_nV u) (m_may u) (m_nR u) (m_rf u) (m_rl u) (va_up g3 k (mF (m_s_op u (va_up (m_op u) i o)) (m_rl u k) (m_rf u k))) g4 (m_cul u) (m_gu u) t 0 w_19)) H := hP
                have hD : va_D (va_A (wM q u) s.heap.size) (wM q (m_mk (m_liq u) (m_lev u) (m_nS u) (m_fa u) (m_fb u) (m_seat u) (va_up (m_op u) i o) (m_un u) (m_nV u) (m_may u) (m_nR u) (m_rf u) (m_rl u) (va_up g3 k (mF (m_s_op u (va_up (m_op u) i o)) (m_rl u k) (m_rf u k))) g4 (m_cul u) (m_gu u) t 0 w_19)) := hD
                refine lv_aload_n hx hb d_M_set_122 rfl (lv_at hl 0 rfl) ?_
                refine va_get (D := (dC, dI)) (ci := 4) (v := .ref (ma_rc q)) (C := "SeatProofsModel") (T := F_M) (N := 20) hx hb hts (iu_M _) hown hK hP 0 rfl rfl 14 (by decide) (hts _ (List.mem_cons_of_mem _ iw_454)) (fun _ h9 => h9) rfl d_M_set_123 ?_
                refine lv_iload_n hx hb d_M_set_126 rfl (lv_at hl 3 rfl) ?_
                refine lv_aload_n hx hb d_M_set_127 rfl (lv_at hl 0 rfl) ?_
                refine lv_aload_n hx hb d_M_set_128 rfl (lv_at hl 0 rfl) ?_
                refine va_get (D := (dC, dI)) (ci := 4) (v := .ref (ma_rw q)) (C := "SeatProofsModel") (T := F_M) (N := 20) hx hb hts (iu_M _) hown hK hP 0 rfl rfl 13 (by decide) (hts _ (List.mem_cons_of_mem _ iw_453)) (fun _ h9 => h9) rfl d_M_set_129 ?_
                refine lv_iload_n hx hb d_M_set_132 rfl (lv_at hl 3 rfl) ?_
                refine ld_l hx hb hK hP 11 1 rfl rfl (mF (m_s_op u (va_up (m_op u) i o)) (m_rl u k) (m_rf u k)) (by omega) (by decide) (va_up_self _ _ _) d_M_set_133 ?_
                refine lv_aload_n hx hb d_M_set_134 rfl (lv_at hl 0 rfl) ?_
                refine va_get (D := (dC, dI)) (ci := 4) (v := .ref (ma_rf q)) (C := "SeatProofsModel") (T := F_M) (N := 20) hx hb hts (iu_M _) hown hK hP 0 rfl rfl 11 (by decide) (hts _ (List.mem_cons_of_mem _ iw_451)) (fun _ h9 => h9) rfl d_M_set_135 ?_
                refine lv_iload_n hx hb d_M_set_138 rfl (lv_at hl 3 rfl) ?_
                refine ld_i hx hb hK hP 9 0 rfl rfl (nI (m_rf u k)) (by omega) (by decide) rfl d_M_set_139 ?_
                refine vp_callSl (va_Run.run (va_runV (As := [.long (mF (m_s_op u (va_up (m_op u) i o)) (m_rl u k) (m_rf u k)), .int (nI (m_rf u k))]) (rest := [.int (nI k), .ref (ma_rc q)]) ⟨hx, hb, hml, hown, hts⟩ (c_M_cut l dC dI q (m_mk (m_liq u) (m_lev u) (m_nS u) (m_fa u) (m_fb u) (m_seat u) (va_up (m_op u) i o) (m_un u) (m_nV u) (m_may u) (m_nR u) (m_rf u) (m_rl u) (va_up g3 k (mF (m_s_op u (va_up (m_op u) i o)) (m_rl u k) (m_rf u k))) g4 (m_cul u) (m_gu u) t 0 w_19) (mF (m_s_op u (va_up (m_op u) i o)) (m_rl u k) (m_rf u k)) (m_rf u k) (MOk_set hu (by have := pcn_le (mt u i) k; omega)) (k7 _)) (cwV 2 hts (good_up (good_V iw_542 iw_544 ip_13 iw_5 gg_M_cut)) rfl rfl rfl (by decide +kernel) ⟨Nat.le_of_ble_eq_true rfl, Nat.le_of_ble_eq_true rfl⟩) (pv_S [.long (mF (m_s_op u (va_up (m_op u) i o)) (m_rl u k) (m_rf u k)), .int (nI (m_rf u k))] hN hK hP (ci := 4) (q0 := 0) rfl rfl) rfl rfl hl.1 rfl (lv_room (Nat.le_of_ble_eq_true rfl)) d_M_set_140 ⟨Nat.le_of_ble_eq_true rfl, Nat.le_of_ble_eq_true rfl⟩)) (fun r_20 hr_20 => ?_)
                subst hr_20
                refine tp_l (mC (m_s_op u (va_up (m_op u) i o)) (mF (m_s_op u (va_up (m_op u) i o)) (m_rl u k) (m_rf u k)) (m_rf u k)) (mC_cg rfl rfl rfl rfl rfl rfl rfl) ?_
                refine st_l hx hb hK hP hD hS 12 1 rfl rfl (va_up g4 k (mC (m_s_op u (va_up (m_op u) i o)) (mF (m_s_op u (va_up (m_op u) i o)) (m_rl u k) (m_rf u k)) (m_rf u k))) (by omega) (by decide) (updL_up _ _ _) d_M_set_143 (fun H locs hP hD hS => ?_)
                have hP : va_P (dC, dI) vwCl (wM q (m_mk (m_liq u) (m_lev u) (m_nS u) (m_fa u) (m_fb u) (m_seat u) (va_up (m_op u) i o) (m_un u) (m_nV u) (m_may u) (m_nR u) (m_rf u) (m_rl u) (va_up g3 k (mF (m_s_op u (va_up (m_op u) i o)) (m_rl u k) (m_rf u k))) (va_up g4 k (mC (m_s_op u (va_up (m_op u) i o)) (mF (m_s_op u (va_up (m_op u) i o)) (m_rl u k) (m_rf u k)) (m_rf u k))) (m_cul u) (m_gu u) t 0 w_19)) H := hP
                have hD : va_D (va_A (wM q u) s.heap.size) (wM q (m_mk (m_liq u) (m_lev u) (m_nS u) (m_fa u) (m_fb u) (m_seat u) (va_up (m_op u) i o) (m_un u) (m_nV u) (m_may u) (m_nR u) (m_rf u) (m_rl u) (va_up g3 k (mF (m_s_op u (va_up (m_op u) i o)) (m_rl u k) (m_rf u k))) (va_up g4 k (mC (m_s_op u (va_up (m_op u) i o)) (mF (m_s_op u (va_up (m_op u) i o)) (m_rl u k) (m_rf u k)) (m_rf u k))) (m_cul u) (m_gu u) t 0 w_19)) := hD
                refine lv_aload_n hx hb d_M_set_144 rfl (lv_at hl 0 rfl) ?_
                refine lv_dup hx hb d_M_set_145 rfl ?_
                refine va_get (D := (dC, dI)) (ci := 4) (v := .int (nI t)) (C := "SeatProofsModel") (T := F_M) (N := 20) hx hb hts (iu_M _) hown hK hP 0 rfl rfl 17 (by decide) (hts _ (List.mem_cons_of_mem _ iw_457)) (fun _ h9 => h9) rfl d_M_set_146 ?_
                refine lv_iconst (v := nI 1) hx hb d_M_set_149 (by decide) ?_
                refine lv_iadd hx hb d_M_set_150 ?_
                refine tp_i (nI (t + 1)) (nI_add _ _) ?_
                refine va_put (D := (dC, dI)) (ci := 4) (v := .int (nI (t + 1))) (ty := .int) (C := "SeatProofsModel") (T := F_M) (N := 20) hx hb hts (iu_M _) t_M t_M_ok n_M hown hK hP hD hS 0 rfl rfl 17 (by decide) (hts _ (List.mem_cons_of_mem _ iw_457)) (fun _ h9 => h9) rfl (by decide +kernel) rfl rfl (Nat.le_of_ble_eq_true rfl) d_M_set_151 (fun H locs hP hD hS => ?_)
                have hP : va_P (dC, dI) vwCl (wM q (m_mk (m_liq u) (m_lev u) (m_nS u) (m_fa u) (m_fb u) (m_seat u) (va_up (m_op u) i o) (m_un u) (m_nV u) (m_may u) (m_nR u) (m_rf u) (m_rl u) (va_up g3 k (mF (m_s_op u (va_up (m_op u) i o)) (m_rl u k) (m_rf u k))) (va_up g4 k (mC (m_s_op u (va_up (m_op u) i o)) (mF (m_s_op u (va_up (m_op u) i o)) (m_rl u k) (m_rf u k)) (m_rf u k))) (m_cul u) (m_gu u) (t + 1) 0 w_19)) H := hP
                have hD : va_D (va_A (wM q u) s.heap.size) (wM q (m_mk (m_liq u) (m_lev u) (m_nS u) (m_fa u) (m_fb u) (m_seat u) (va_up (m_op u) i o) (m_un u) (m_nV u) (m_may u) (m_nR u) (m_rf u) (m_rl u) (va_up g3 k (mF (m_s_op u (va_up (m_op u) i o)) (m_rl u k) (m_rf u k))) (va_up g4 k (mC (m_s_op u (va_up (m_op u) i o)) (mF (m_s_op u (va_up (m_op u) i o)) (m_rl u k) (m_rf u k)) (m_rf u k))) (m_cul u) (m_gu u) (t + 1) 0 w_19)) := hD
                refine lv_iinc (v := nI (k + 1)) (lv' := [(3, .int (nI (k + 1))), (0, .ref (ma_o q)), (1, .int (nI i)), (2, .int (bI o))]) hx hb d_M_set_154 hl (k := 3) rfl (nI_1 _) (by decide) rfl (fun ls hl => ?_)
                refine lv_goto (tgt := 44) hx hb d_M_set_157 (by decide) ?_
                exact ih44 (k + 1) (va_up g3 k (mF (m_s_op u (va_up (m_op u) i o)) (m_rl u k) (m_rf u k))) (va_up g4 k (mC (m_s_op u (va_up (m_op u) i o)) (mF (m_s_op u (va_up (m_op u) i o)) (m_rl u k) (m_rf u k)) (m_rf u k))) (t + 1) w_19 (by omega) (up_if (F := sF u (m_s_op u (va_up (m_op u) i o))) h3 hmt) (up_if (F := sC u (m_s_op u (va_up (m_op u) i o))) h4 hmt) (by rw [pcn_st hmt, ht44]) (by omega) _ _ ls hP hD hS (lv_sub hl [1, 2, 3, 0] rfl)
              refine lv_aload_n hx hb d_M_set_52 rfl (lv_at hl 0 rfl) ?_
              refine va_get (D := (dC, dI)) (ci := 4) (v := .ref (ma_rf q)) (C := "SeatProofsModel") (T := F_M) (N := 20) hx hb hts (iu_M _) hown hK hP 0 rfl rfl 11 (by decide) (hts _ (List.mem_cons_of_mem _ iw_451)) (fun _ h9 => h9) rfl d_M_set_53 ?_
              refine lv_iload_n hx hb d_M_set_56 rfl (lv_at hl 3 rfl) ?_
              refine ld_i hx hb hK hP 9 0 rfl rfl (nI (m_rf u k)) (by omega) (by decide) rfl d_M_set_57 ?_
              refine lv_iload_n hx hb d_M_set_58 rfl (lv_at hl 1 rfl) ?_
              refine lv_iconst (v := nI 1) hx hb d_M_set_59 (by decide) ?_
              refine lv_iadd hx hb d_M_set_60 ?_
              refine tp_i (nI (i + 1)) (nI_add _ _) ?_
              refine nv_eq (tgt := 100) hx hb d_M_set_61 (by decide) (by have := k7 k; omega) (by omega) (fun c_21 => ?_) (fun c_21 => ?_)
              · exact L100 (by rw [mt, decide_eq_true c_21]; rfl) _ _ ls hP hD hS (lv_sub hl [0, 1, 2, 3] rfl)
              · refine lv_aload_n hx hb d_M_set_64 rfl (lv_at hl 0 rfl) ?_
                refine va_get (D := (dC, dI)) (ci := 4) (v := .ref (ma_rw q)) (C := "SeatProofsModel") (T := F_M) (N := 20) hx hb hts (iu_M _) hown hK hP 0 rfl rfl 13 (by decide) (hts _ (List.mem_cons_of_mem _ iw_453)) (fun _ h9 => h9) rfl d_M_set_65 ?_
                refine lv_iload_n hx hb d_M_set_68 rfl (lv_at hl 3 rfl) ?_
                refine ld_l hx hb hK hP 11 1 rfl rfl (g3 k) (by omega) (by decide) rfl d_M_set_69 ?_
                refine lv_aload_n hx hb d_M_set_70 rfl (lv_at hl 0 rfl) ?_
                refine va_get (D := (dC, dI)) (ci := 4) (v := .ref (ma_fa q)) (C := "SeatProofsModel") (T := F_M) (N := 20) hx hb hts (iu_M _) hown hK hP 0 rfl rfl 3 (by decide) (hts _ (List.mem_cons_of_mem _ iw_443)) (fun _ h9 => h9) rfl d_M_set_71 ?_
                refine lv_iload_n hx hb d_M_set_74 rfl (lv_at hl 1 rfl) ?_
                refine ld_i hx hb hK hP 3 0 rfl rfl (nI (m_fa u i)) (by omega) (by decide) rfl d_M_set_75 ?_
                refine vp_callSi (va_Run.run (va_runS (As := [.long (g3 k), .int (nI (m_fa u i))]) (rest := []) ⟨hx, hb, hml, hown, hts⟩ (c_M_has l (g3 k) (m_fa u i) (k5 _)) (va_cwS 2 hts (good_up (good_S iw_546 iw_547 iw_5 gg_M_has)) rfl rfl rfl (by decide +kernel) ⟨Nat.le_of_ble_eq_true rfl, Nat.le_of_ble_eq_true rfl⟩) (ps_0 [.long (g3 k), .int (nI (m_fa u i))] hN) rfl rfl hl.1 rfl (lv_room (Nat.le_of_ble_eq_true rfl)) d_M_set_76 ⟨Nat.le_of_ble_eq_true rfl, Nat.le_of_ble_eq_true rfl⟩)) (fun r_22 hr_22 => ?_)
                subst hr_22
                refine b0_ne (tgt := 100) hx hb d_M_set_79 (by decide) (fun c_23 => ?_) (fun c_23 => ?_)
                · exact L100 (by rw [up_at h3] at c_23; rw [mt, c_23]; simp) _ _ ls hP hD hS (lv_sub hl [0, 1, 2, 3] rfl)
                · refine lv_aload_n hx hb d_M_set_82 rfl (lv_at hl 0 rfl) ?_
                  refine va_get (D := (dC, dI)) (ci := 4) (v := .ref (ma_rw q)) (C := "SeatProofsModel") (T := F_M) (N := 20) hx hb hts (iu_M _) hown hK hP 0 rfl rfl 13 (by decide) (hts _ (List.mem_cons_of_mem _ iw_453)) (fun _ h9 => h9) rfl d_M_set_83 ?_
                  refine lv_iload_n hx hb d_M_set_86 rfl (lv_at hl 3 rfl) ?_
                  refine ld_l hx hb hK hP 11 1 rfl rfl (g3 k) (by omega) (by decide) rfl d_M_set_87 ?_
                  refine lv_aload_n hx hb d_M_set_88 rfl (lv_at hl 0 rfl) ?_
                  refine va_get (D := (dC, dI)) (ci := 4) (v := .ref (ma_fb q)) (C := "SeatProofsModel") (T := F_M) (N := 20) hx hb hts (iu_M _) hown hK hP 0 rfl rfl 4 (by decide) (hts _ (List.mem_cons_of_mem _ iw_444)) (fun _ h9 => h9) rfl d_M_set_89 ?_
                  refine lv_iload_n hx hb d_M_set_92 rfl (lv_at hl 1 rfl) ?_
                  refine ld_i hx hb hK hP 4 0 rfl rfl (nI (m_fb u i)) (by omega) (by decide) rfl d_M_set_93 ?_
                  refine vp_callSi (va_Run.run (va_runS (As := [.long (g3 k), .int (nI (m_fb u i))]) (rest := []) ⟨hx, hb, hml, hown, hts⟩ (c_M_has l (g3 k) (m_fb u i) (k6 _)) (va_cwS 2 hts (good_up (good_S iw_546 iw_547 iw_5 gg_M_has)) rfl rfl rfl (by decide +kernel) ⟨Nat.le_of_ble_eq_true rfl, Nat.le_of_ble_eq_true rfl⟩) (ps_0 [.long (g3 k), .int (nI (m_fb u i))] hN) rfl rfl hl.1 rfl (lv_room (Nat.le_of_ble_eq_true rfl)) d_M_set_94 ⟨Nat.le_of_ble_eq_true rfl, Nat.le_of_ble_eq_true rfl⟩)) (fun r_24 hr_24 => ?_)
                  subst hr_24
                  refine b0_eq (tgt := 154) hx hb d_M_set_97 (by decide) (fun c_25 => ?_) (fun c_25 => ?_)
                  · have hmf : mt u i k = false := by
                      rw [up_at h3] at c_23 c_25
                      rw [mt, decide_eq_false c_21, c_23, c_25]; rfl
                    refine lv_iinc (v := nI (k + 1)) (lv' := [(3, .int (nI (k + 1))), (0, .ref (ma_o q)), (1, .int (nI i)), (2, .int (bI o))]) hx hb d_M_set_154 hl (k := 3) rfl (nI_1 _) (by decide) rfl (fun ls hl => ?_)
                    refine lv_goto (tgt := 44) hx hb d_M_set_157 (by decide) ?_
                    exact ih44 (k + 1) g3 g4 t w (by omega) (up_no (F := sF u (m_s_op u (va_up (m_op u) i o))) h3 hmf) (up_no (F := sC u (m_s_op u (va_up (m_op u) i o))) h4 hmf) (by rw [pcn_sf hmf]; exact ht44) (by omega) _ _ ls hP hD hS (lv_sub hl [1, 2, 3, 0] rfl)
                  · exact L100 (by rw [up_at h3] at c_25; rw [mt, c_25]; simp) _ _ ls hP hD hS (lv_sub hl [0, 1, 2, 3] rfl)
        exact L44 _ 0 (m_rw u) (m_rc u) 0 (m_wet u) (Nat.zero_le _) (fun j => by rw [if_neg (by omega)]) (fun j => by rw [if_neg (by omega)]) rfl (Nat.lt_succ_self _) _ _ ls hP hD hS (lv_sub hl [1, 2, 3, 0] rfl)
      · exact absurd c_4 (by decide)
    · refine lv_iconst (v := nI 1) hx hb d_M_set_13 (by decide) ?_
      refine lv_goto (tgt := 18) hx hb d_M_set_14 (by decide) ?_
      refine va_put (D := (dC, dI)) (ci := 4) (v := .int (nI 1)) (ty := .int) (C := "SeatProofsModel") (T := F_M) (N := 20) hx hb hts (iu_M _) t_M t_M_ok n_M hown hK hP hD hS 0 rfl rfl 18 (by decide) (hts _ (List.mem_cons_of_mem _ iw_458)) (fun _ h9 => h9) rfl (by decide +kernel) rfl rfl (Nat.le_of_ble_eq_true rfl) d_M_set_18 (fun H locs hP hD hS => ?_)
      have hP : va_P (dC, dI) vwCl (wM q (m_mk (m_liq u) (m_lev u) (m_nS u) (m_fa u) (m_fb u) (m_seat u) (m_op u) (m_un u) (m_nV u) (m_may u) (m_nR u) (m_rf u) (m_rl u) (m_rw u) (m_rc u) (m_cul u) (m_gu u) (m_te u) 1 (m_wet u))) H := hP
      have hD : va_D (va_A (wM q u) s.heap.size) (wM q (m_mk (m_liq u) (m_lev u) (m_nS u) (m_fa u) (m_fb u) (m_seat u) (m_op u) (m_un u) (m_nV u) (m_may u) (m_nR u) (m_rf u) (m_rl u) (m_rw u) (m_rc u) (m_cul u) (m_gu u) (m_te u) 1 (m_wet u))) := hD
      refine lv_aload_n hx hb d_M_set_21 rfl (lv_at hl 0 rfl) ?_
      refine va_get (D := (dC, dI)) (ci := 4) (v := .int (nI 1)) (C := "SeatProofsModel") (T := F_M) (N := 20) hx hb hts (iu_M _) hown hK hP 0 rfl rfl 18 (by decide) (hts _ (List.mem_cons_of_mem _ iw_458)) (fun _ h9 => h9) rfl d_M_set_22 ?_
      refine n0_le (tgt := 30) hx hb d_M_set_25 (by decide) (by omega) (fun c_26 => ?_) (fun c_26 => ?_)
      · exact absurd c_26 (by decide)
      · refine lv_iconst (v := nI 0) hx hb d_M_set_28 (by decide) ?_
        refine tp_i (bI false) (by decide) ?_
        exact W.zret hx hb hr (bI_narrow _) (fun t9 ht9 hW9 => ⟨⟨_, (m_mk (m_liq u) (m_lev u) (m_nS u) (m_fa u) (m_fb u) (m_seat u) (m_op u) (m_un u) (m_nV u) (m_may u) (m_nR u) (m_rf u) (m_rl u) (m_rw u) (m_rc u) (m_cul u) (m_gu u) (m_te u) 1 (m_wet u)), rfl, Or.inl ⟨ixB_nl c_3, rfl, rfl⟩, by rw [ht9]; exact hP, va_K.moved hW9.alike hK, hD⟩, hS.F ht9⟩) hS.2.2 d_M_set_29
end
section
set_option maxHeartbeats 4000000 in
set_option maxRecDepth 100000 in
theorem c_M_safe (l : Launch) (dC : Nat → ClassId) (dI : Nat → Nat → Nat) (q : MA) (u : MSt) (sz : Nat) (hu : MOk u) : Met l y_M_safe w_M_safe ({ frames := 2, cells := 0, slots := 0, locals := 53 }) (qPc (dC, dI) vwCl (tM q) (wM q u) sz [Value.ref (ma_o q)]) (va_Qi (fun (r : Int32) (z : MSt) => (r = nI 1 ∧ (∀ x, x < m_nV u + 1 → mNo u x) ∧ ∃ (n : Nat) (g1 g2 : Nat → Nat) (g3 g4 : Nat → Int64) (w : Nat → Bool), RT (mTh u) (mF u) (fun a x => mC u (mF u a x) x) (m_nV u + 1) 1 n g1 g2 g3 g4 ∧ n ≤ 975 ∧ (∀ j, g1 j < 65) ∧ (∀ j, g2 j < 16) ∧ z = m_s_wet (m_s_th (m_s_gu (m_s_cul (m_s_rc (m_s_rw (m_s_rl (m_s_rf (m_s_nR u n) g1) g2) g3) g4) (m_cul u)) false) 0) w) ∨ (r = nI 0 ∧ ∃ f t a b, f ≤ m_nV u ∧ (∀ x, x < f → mNo u x) ∧ mCul u f t a b ∧ ∃ (g1 g2 : Nat → Nat) (g3 g4 : Nat → Int64) (w : Nat → Bool), (∀ j, g1 j < 65) ∧ (∀ j, g2 j < 16) ∧ z = m_s_wet (m_s_th (m_s_gu (m_s_cul (m_s_rc (m_s_rw (m_s_rl (m_s_rf (m_s_nR u 0) g1) g2) g3) g4) (cu4 (m_cul u) f t a b)) true) 0) w)) (qB (dC, dI) vwCl (tM q) (wM q u) sz (wM q)) (va_A (wM q u) sz)) 0 0 (va_A (wM q u) sz) := by
  refine Met.ofW (cc := b_M_safe) (maxL := 4) (ret := (some .int)) (by decide) rfl ?_
  intro p e s m args below meth c s₁ B hml hv
  obtain ⟨rfl, hsz, hP, hK, hD0, hN⟩ := hv
  have hx := B.exec
  have hb := B.bytes
  have hr := B.returns
  have hts := atoms_spec (ws := w_M_safe) B.pre
  have hown : s.vm.findClass "SeatProofsModel" = some m.cls := findClass_of_methodNamed B.named
  have hlocks := B.notSynchronized
  subst hsz
  have hD := hD0.self (sz := s.heap.size)
  have hA : ∀ z : Nat, s.heap.size ≤ z → va_A (wM q u) s.heap.size z := fun z h => Or.inr h
  have hS : va_S (va_A (wM q u) s.heap.size) s.heap s.heap [] := va_S.rf
  have hl := lv_entry ([Value.ref (ma_o q)]) (n := 4) (Nat.le_of_ble_eq_true rfl)
  rw [lg_entry_eq]
  generalize (lg_sl ([Value.ref (ma_o q)]) ++ List.replicate (4 - (lg_sl ([Value.ref (ma_o q)])).length) Slot.unset).toArray = ls at hl ⊢
  have hl : lv_has ls 4 [(0, .ref (ma_o q))] := hl
  obtain ⟨k1, k2, k3, k4, k5, k6, k7, k8, k9, k10, k11⟩ := id hu
  refine lv_aload_n hx hb d_M_safe_0 rfl (lv_at hl 0 rfl) ?_
  refine lv_iconst (v := nI 0) hx hb d_M_safe_1 (by decide) ?_
  refine va_put (D := (dC, dI)) (ci := 4) (v := .int (nI 0)) (ty := .int) (C := "SeatProofsModel") (T := F_M) (N := 20) hx hb hts (iu_M _) t_M t_M_ok n_M hown hK hP hD hS 0 rfl rfl 18 (by decide) (hts _ (List.mem_cons_of_mem _ iw_458)) (fun _ h9 => h9) rfl (by decide +kernel) rfl rfl (Nat.le_of_ble_eq_true rfl) d_M_safe_2 (fun H locs hP hD hS => ?_)
  have hP : va_P (dC, dI) vwCl (wM q (m_mk (m_liq u) (m_lev u) (m_nS u) (m_fa u) (m_fb u) (m_seat u) (m_op u) (m_un u) (m_nV u) (m_may u) (m_nR u) (m_rf u) (m_rl u) (m_rw u) (m_rc u) (m_cul u) (m_gu u) (m_te u) 0 (m_wet u))) H := hP
  have hD : va_D (va_A (wM q u) s.heap.size) (wM q (m_mk (m_liq u) (m_lev u) (m_nS u) (m_fa u) (m_fb u) (m_seat u) (m_op u) (m_un u) (m_nV u) (m_may u) (m_nR u) (m_rf u) (m_rl u) (m_rw u) (m_rc u) (m_cul u) (m_gu u) (m_te u) 0 (m_wet u))) := hD
  refine lv_aload_n hx hb d_M_safe_5 rfl (lv_at hl 0 rfl) ?_
  refine lv_iconst (v := nI 0) hx hb d_M_safe_6 (by decide) ?_
  refine va_put (D := (dC, dI)) (ci := 4) (v := .int (nI 0)) (ty := .int) (C := "SeatProofsModel") (T := F_M) (N := 20) hx hb hts (iu_M _) t_M t_M_ok n_M hown hK hP hD hS 0 rfl rfl 10 (by decide) (hts _ (List.mem_cons_of_mem _ iw_450)) (fun _ h9 => h9) rfl (by decide +kernel) rfl rfl (Nat.le_of_ble_eq_true rfl) d_M_safe_7 (fun H locs hP hD hS => ?_)
  have hP : va_P (dC, dI) vwCl (wM q (m_mk (m_liq u) (m_lev u) (m_nS u) (m_fa u) (m_fb u) (m_seat u) (m_op u) (m_un u) (m_nV u) (m_may u) 0 (m_rf u) (m_rl u) (m_rw u) (m_rc u) (m_cul u) (m_gu u) (m_te u) 0 (m_wet u))) H := hP
  have hD : va_D (va_A (wM q u) s.heap.size) (wM q (m_mk (m_liq u) (m_lev u) (m_nS u) (m_fa u) (m_fb u) (m_seat u) (m_op u) (m_un u) (m_nV u) (m_may u) 0 (m_rf u) (m_rl u) (m_rw u) (m_rc u) (m_cul u) (m_gu u) (m_te u) 0 (m_wet u))) := hD
  refine lv_aload_n hx hb d_M_safe_10 rfl (lv_at hl 0 rfl) ?_
  refine lv_iconst (v := nI 0) hx hb d_M_safe_11 (by decide) ?_
  refine tp_i (bI false) (by decide) ?_
  refine va_put (D := (dC, dI)) (ci := 4) (v := .int (bI false)) (ty := .boolean) (C := "SeatProofsModel") (T := F_M) (N := 20) hx hb hts (iu_M _) t_M t_M_ok n_M hown hK hP hD hS 0 rfl rfl 16 (by decide) (hts _ (List.mem_cons_of_mem _ iw_456)) (fun _ h9 => h9) rfl (by decide +kernel) (bI_narrow _) (bI_fits _) (Nat.le_of_ble_eq_true rfl) d_M_safe_12 (fun H locs hP hD hS => ?_)
  have hP : va_P (dC, dI) vwCl (wM q (m_mk (m_liq u) (m_lev u) (m_nS u) (m_fa u) (m_fb u) (m_seat u) (m_op u) (m_un u) (m_nV u) (m_may u) 0 (m_rf u) (m_rl u) (m_rw u) (m_rc u) (m_cul u) false (m_te u) 0 (m_wet u))) H := hP
  have hD : va_D (va_A (wM q u) s.heap.size) (wM q (m_mk (m_liq u) (m_lev u) (m_nS u) (m_fa u) (m_fb u) (m_seat u) (m_op u) (m_un u) (m_nV u) (m_may u) 0 (m_rf u) (m_rl u) (m_rw u) (m_rc u) (m_cul u) false (m_te u) 0 (m_wet u))) := hD
  refine lv_iconst (v := nI 0) hx hb d_M_safe_15 (by decide) ?_
  refine lv_istore_n (lv' := [(1, .int (nI 0)), (0, .ref (ma_o q))]) hx hb d_M_safe_16 rfl hl (by decide) rfl (fun ls hl => ?_)
  have L17 : ∀ (n17 : Nat) (f : Nat) (n : Nat) (g1 : Nat → Nat) (g2 : Nat → Nat) (g3 : Nat → Int64) (g4 : Nat → Int64) (w : Nat → Bool) (gu : Bool) (cu : Nat → Nat), (f ≤ m_nV u + 1) → (RT (mTh u) (mF u) (fun a x => mC u (mF u a x) x) f 1 n g1 g2 g3 g4) → (∀ j, g1 j < 65) → (∀ j, g2 j < 16) → (mG u f gu cu) → (n ≤ 975) → m_nV u + 1 - f < n17 → ∀ (H : Heap) (locs : List Loc) (ls : Array Slot), va_P (dC, dI) vwCl (wM q (m_mk (m_liq u) (m_lev u) (m_nS u) (m_fa u) (m_fb u) (m_seat u) (m_op u) (m_un u) (m_nV u) (m_may u) n g1 g2 g3 g4 cu gu (m_te u) 0 w)) H → va_D (va_A (wM q u) s.heap.size) (wM q (m_mk (m_liq u) (m_lev u) (m_nS u) (m_fa u) (m_fb u) (m_seat u) (m_op u) (m_un u) (m_nV u) (m_may u) n g1 g2 g3 g4 cu gu (m_te u) 0 w)) → va_S (va_A (wM q u) s.heap.size) s.heap H locs → lv_has ls 4 [(0, .ref (ma_o q)), (1, .int (nI f))] → W p l e (headSpec w_M_safe ({ frames := 2, cells := 0, slots := 0, locals := 53 })).room s m [Value.ref (ma_o q)].toArray below meth c H locs 0 0 (MQ below (va_Qi (fun (r : Int32) (z : MSt) => (r = nI 1 ∧ (∀ x, x < m_nV u + 1 → mNo u x) ∧ ∃ (n : Nat) (g1 g2 : Nat → Nat) (g3 g4 : Nat → Int64) (w : Nat → Bool), RT (mTh u) (mF u) (fun a x => mC u (mF u a x) x) (m_nV u + 1) 1 n g1 g2 g3 g4 ∧ n ≤ 975 ∧ (∀ j, g1 j < 65) ∧ (∀ j, g2 j < 16) ∧ z = m_s_wet (m_s_th (m_s_gu (m_s_cul (m_s_rc (m_s_rw (m_s_rl (m_s_rf (m_s_nR u n) g1) g2) g3) g4) (m_cul u)) false) 0) w) ∨ (r = nI 0 ∧ ∃ f t a b, f ≤ m_nV u ∧ (∀ x, x < f → mNo u x) ∧ mCul u f t a b ∧ ∃ (g1 g2 : Nat → Nat) (g3 g4 : Nat → Int64) (w : Nat → Bool), (∀ j, g1 j < 65) ∧ (∀ j, g2 j < 16) ∧ z = m_s_wet (m_s_th (m_s_gu (m_s_cul (m_s_rc (m_s_rw (m_s_rl (m_s_rf (m_s_nR u 0) g1) g2) g3) g4) (cu4 (m_cul u) f t a b)) true) 0) w)) (qB (dC, dI) vwCl (tM q) (wM q u) s.heap.size (wM q)) (va_A (wM q u) s.heap.size)) [Value.ref (ma_o q)].toArray s 0 0 (va_A (wM q u) s.heap.size)) (F0 m 17 ls []) := by
    intro n17
    induction n17 with
    | zero => intro f n g1 g2 g3 g4 w gu cu hf17 hR17 hq1 hq2 hG17 hn17 hm; exact absurd hm (Nat.not_lt_zero _)
    | succ n17 ih17 =>
      intro f n g1 g2 g3 g4 w gu cu hf17 hR17 hq1 hq2 hG17 hn17 hm17 H locs ls hP hD hS hl
      refine lv_iload_n hx hb d_M_safe_17 rfl (lv_at hl 1 rfl) ?_
      refine lv_aload_n hx hb d_M_safe_18 rfl (lv_at hl 0 rfl) ?_
      refine va_get (D := (dC, dI)) (ci := 4) (v := .int (nI (m_nV u))) (C := "SeatProofsModel") (T := F_M) (N := 20) hx hb hts (iu_M _) hown hK hP 0 rfl rfl 8 (by decide) (hts _ (List.mem_cons_of_mem _ iw_448)) (fun _ h9 => h9) rfl d_M_safe_19 ?_
      refine nv_gt (tgt := 143) hx hb d_M_safe_22 (by decide) (by omega) (by omega) (fun c_1 => ?_) (fun c_1 => ?_)
      · refine lv_aload_n hx hb d_M_safe_143 rfl (lv_at hl 0 rfl) ?_
        refine lv_aload_n hx hb d_M_safe_144 rfl (lv_at hl 0 rfl) ?_
        refine va_get (D := (dC, dI)) (ci := 4) (v := .int (bI gu)) (C := "SeatProofsModel") (T := F_M) (N := 20) hx hb hts (iu_M _) hown hK hP 0 rfl rfl 16 (by decide) (hts _ (List.mem_cons_of_mem _ iw_456)) (fun _ h9 => h9) rfl d_M_safe_145 ?_
        refine b0_eq (tgt := 155) hx hb d_M_safe_148 (by decide) (fun c_2 => ?_) (fun c_2 => ?_)
        · refine lv_aload_n hx hb d_M_safe_155 rfl (lv_at hl 0 rfl) ?_
          refine va_get (D := (dC, dI)) (ci := 4) (v := .int (nI n)) (C := "SeatProofsModel") (T := F_M) (N := 20) hx hb hts (iu_M _) hown hK hP 0 rfl rfl 10 (by decide) (hts _ (List.mem_cons_of_mem _ iw_450)) (fun _ h9 => h9) rfl d_M_safe_156 ?_
          refine va_put (D := (dC, dI)) (ci := 4) (v := .int (nI n)) (ty := .int) (C := "SeatProofsModel") (T := F_M) (N := 20) hx hb hts (iu_M _) t_M t_M_ok n_M hown hK hP hD hS 0 rfl rfl 10 (by decide) (hts _ (List.mem_cons_of_mem _ iw_450)) (fun _ h9 => h9) rfl (by decide +kernel) rfl rfl (Nat.le_of_ble_eq_true rfl) d_M_safe_159 (fun H locs hP hD hS => ?_)
          have hP : va_P (dC, dI) vwCl (wM q (m_mk (m_liq u) (m_lev u) (m_nS u) (m_fa u) (m_fb u) (m_seat u) (m_op u) (m_un u) (m_nV u) (m_may u) n g1 g2 g3 g4 cu gu (m_te u) 0 w)) H := hP
          have hD : va_D (va_A (wM q u) s.heap.size) (wM q (m_mk (m_liq u) (m_lev u) (m_nS u) (m_fa u) (m_fb u) (m_seat u) (m_op u) (m_un u) (m_nV u) (m_may u) n g1 g2 g3 g4 cu gu (m_te u) 0 w)) := hD
          refine lv_aload_n hx hb d_M_safe_162 rfl (lv_at hl 0 rfl) ?_
          refine va_get (D := (dC, dI)) (ci := 4) (v := .int (bI gu)) (C := "SeatProofsModel") (T := F_M) (N := 20) hx hb hts (iu_M _) hown hK hP 0 rfl rfl 16 (by decide) (hts _ (List.mem_cons_of_mem _ iw_456)) (fun _ h9 => h9) rfl d_M_safe_163 ?_
          refine b0_eq (tgt := 173) hx hb d_M_safe_166 (by decide) (fun c_3 => ?_) (fun c_3 => ?_)
          · refine lv_iconst (v := nI 1) hx hb d_M_safe_173 (by decide) ?_
            exact W.iret hx hb hr (fun t9 ht9 hW9 => ⟨⟨_, (m_mk (m_liq u) (m_lev u) (m_nS u) (m_fa u) (m_fb u) (m_seat u) (m_op u) (m_un u) (m_nV u) (m_may u) n g1 g2 g3 g4 cu gu (m_te u) 0 w), rfl, (by
                rcases hG17 with ⟨-, rfl, hno⟩ | ⟨e, -⟩
                · exact Or.inl ⟨rfl, fun x hx => hno x (by omega), n, g1, g2, g3, g4, w, by rw [show m_nV u + 1 = f from by omega]; exact hR17, hn17, hq1, hq2, by rw [c_2]⟩
                · exact absurd (e.symm.trans c_2) (by decide)), by rw [ht9]; exact hP, va_K.moved hW9.alike hK, hD⟩, hS.F ht9⟩) hS.2.2 d_M_safe_174
          · exact absurd (c_3.symm.trans c_2) (by decide)
        · refine lv_iconst (v := nI 0) hx hb d_M_safe_151 (by decide) ?_
          refine lv_goto (tgt := 159) hx hb d_M_safe_152 (by decide) ?_
          refine va_put (D := (dC, dI)) (ci := 4) (v := .int (nI 0)) (ty := .int) (C := "SeatProofsModel") (T := F_M) (N := 20) hx hb hts (iu_M _) t_M t_M_ok n_M hown hK hP hD hS 0 rfl rfl 10 (by decide) (hts _ (List.mem_cons_of_mem _ iw_450)) (fun _ h9 => h9) rfl (by decide +kernel) rfl rfl (Nat.le_of_ble_eq_true rfl) d_M_safe_159 (fun H locs hP hD hS => ?_)
          have hP : va_P (dC, dI) vwCl (wM q (m_mk (m_liq u) (m_lev u) (m_nS u) (m_fa u) (m_fb u) (m_seat u) (m_op u) (m_un u) (m_nV u) (m_may u) 0 g1 g2 g3 g4 cu gu (m_te u) 0 w)) H := hP
          have hD : va_D (va_A (wM q u) s.heap.size) (wM q (m_mk (m_liq u) (m_lev u) (m_nS u) (m_fa u) (m_fb u) (m_seat u) (m_op u) (m_un u) (m_nV u) (m_may u) 0 g1 g2 g3 g4 cu gu (m_te u) 0 w)) := hD
          refine lv_aload_n hx hb d_M_safe_162 rfl (lv_at hl 0 rfl) ?_
          refine va_get (D := (dC, dI)) (ci := 4) (v := .int (bI gu)) (C := "SeatProofsModel") (T := F_M) (N := 20) hx hb hts (iu_M _) hown hK hP 0 rfl rfl 16 (by decide) (hts _ (List.mem_cons_of_mem _ iw_456)) (fun _ h9 => h9) rfl d_M_safe_163 ?_
          refine b0_eq (tgt := 173) hx hb d_M_safe_166 (by decide) (fun c_4 => ?_) (fun c_4 => ?_)
          · exact absurd (c_4.symm.trans c_2) (by decide)
          · refine lv_iconst (v := nI 0) hx hb d_M_safe_169 (by decide) ?_
            refine lv_goto (tgt := 174) hx hb d_M_safe_170 (by decide) ?_
            exact W.iret hx hb hr (fun t9 ht9 hW9 => ⟨⟨_, (m_mk (m_liq u) (m_lev u) (m_nS u) (m_fa u) (m_fb u) (m_seat u) (m_op u) (m_un u) (m_nV u) (m_may u) 0 g1 g2 g3 g4 cu gu (m_te u) 0 w), rfl, (by
                rcases hG17 with ⟨e, -⟩ | ⟨-, f0, t0, a0, c0, ef, h1, h2, rfl⟩
                · exact absurd (e.symm.trans c_2) (by decide)
                · exact Or.inr ⟨rfl, f0, t0, a0, c0, by omega, h1, h2, g1, g2, g3, g4, w, hq1, hq2, by rw [c_2]⟩), by rw [ht9]; exact hP, va_K.moved hW9.alike hK, hD⟩, hS.F ht9⟩) hS.2.2 d_M_safe_174
      · refine lv_aload_n hx hb d_M_safe_25 rfl (lv_at hl 0 rfl) ?_
        refine va_get (D := (dC, dI)) (ci := 4) (v := .int (bI gu)) (C := "SeatProofsModel") (T := F_M) (N := 20) hx hb hts (iu_M _) hown hK hP 0 rfl rfl 16 (by decide) (hts _ (List.mem_cons_of_mem _ iw_456)) (fun _ h9 => h9) rfl d_M_safe_26 ?_
        refine b0_ne (tgt := 143) hx hb d_M_safe_29 (by decide) (fun c_5 => ?_) (fun c_5 => ?_)
        · refine lv_aload_n hx hb d_M_safe_143 rfl (lv_at hl 0 rfl) ?_
          refine lv_aload_n hx hb d_M_safe_144 rfl (lv_at hl 0 rfl) ?_
          refine va_get (D := (dC, dI)) (ci := 4) (v := .int (bI gu)) (C := "SeatProofsModel") (T := F_M) (N := 20) hx hb hts (iu_M _) hown hK hP 0 rfl rfl 16 (by decide) (hts _ (List.mem_cons_of_mem _ iw_456)) (fun _ h9 => h9) rfl d_M_safe_145 ?_
          refine b0_eq (tgt := 155) hx hb d_M_safe_148 (by decide) (fun c_6 => ?_) (fun c_6 => ?_)
          · exact absurd (c_6.symm.trans c_5) (by decide)
          · refine lv_iconst (v := nI 0) hx hb d_M_safe_151 (by decide) ?_
            refine lv_goto (tgt := 159) hx hb d_M_safe_152 (by decide) ?_
            refine va_put (D := (dC, dI)) (ci := 4) (v := .int (nI 0)) (ty := .int) (C := "SeatProofsModel") (T := F_M) (N := 20) hx hb hts (iu_M _) t_M t_M_ok n_M hown hK hP hD hS 0 rfl rfl 10 (by decide) (hts _ (List.mem_cons_of_mem _ iw_450)) (fun _ h9 => h9) rfl (by decide +kernel) rfl rfl (Nat.le_of_ble_eq_true rfl) d_M_safe_159 (fun H locs hP hD hS => ?_)
            have hP : va_P (dC, dI) vwCl (wM q (m_mk (m_liq u) (m_lev u) (m_nS u) (m_fa u) (m_fb u) (m_seat u) (m_op u) (m_un u) (m_nV u) (m_may u) 0 g1 g2 g3 g4 cu gu (m_te u) 0 w)) H := hP
            have hD : va_D (va_A (wM q u) s.heap.size) (wM q (m_mk (m_liq u) (m_lev u) (m_nS u) (m_fa u) (m_fb u) (m_seat u) (m_op u) (m_un u) (m_nV u) (m_may u) 0 g1 g2 g3 g4 cu gu (m_te u) 0 w)) := hD
            refine lv_aload_n hx hb d_M_safe_162 rfl (lv_at hl 0 rfl) ?_
            refine va_get (D := (dC, dI)) (ci := 4) (v := .int (bI gu)) (C := "SeatProofsModel") (T := F_M) (N := 20) hx hb hts (iu_M _) hown hK hP 0 rfl rfl 16 (by decide) (hts _ (List.mem_cons_of_mem _ iw_456)) (fun _ h9 => h9) rfl d_M_safe_163 ?_
            refine b0_eq (tgt := 173) hx hb d_M_safe_166 (by decide) (fun c_7 => ?_) (fun c_7 => ?_)
            · exact absurd (c_7.symm.trans c_5) (by decide)
            · refine lv_iconst (v := nI 0) hx hb d_M_safe_169 (by decide) ?_
              refine lv_goto (tgt := 174) hx hb d_M_safe_170 (by decide) ?_
              exact W.iret hx hb hr (fun t9 ht9 hW9 => ⟨⟨_, (m_mk (m_liq u) (m_lev u) (m_nS u) (m_fa u) (m_fb u) (m_seat u) (m_op u) (m_un u) (m_nV u) (m_may u) 0 g1 g2 g3 g4 cu gu (m_te u) 0 w), rfl, (by
                  rcases hG17 with ⟨e, -⟩ | ⟨-, f0, t0, a0, c0, ef, h1, h2, rfl⟩
                  · exact absurd (e.symm.trans c_6) (by decide)
                  · exact Or.inr ⟨rfl, f0, t0, a0, c0, by omega, h1, h2, g1, g2, g3, g4, w, hq1, hq2, by rw [c_6]⟩), by rw [ht9]; exact hP, va_K.moved hW9.alike hK, hD⟩, hS.F ht9⟩) hS.2.2 d_M_safe_174
        · refine lv_aload_n hx hb d_M_safe_32 rfl (lv_at hl 0 rfl) ?_
          refine va_get (D := (dC, dI)) (ci := 4) (v := .int (nI n)) (C := "SeatProofsModel") (T := F_M) (N := 20) hx hb hts (iu_M _) hown hK hP 0 rfl rfl 10 (by decide) (hts _ (List.mem_cons_of_mem _ iw_450)) (fun _ h9 => h9) rfl d_M_safe_33 ?_
          refine lv_istore_n (lv' := [(2, .int (nI n)), (0, .ref (ma_o q)), (1, .int (nI f))]) hx hb d_M_safe_36 rfl hl (by decide) rfl (fun ls hl => ?_)
          refine lv_iconst (v := nI 1) hx hb d_M_safe_37 (by decide) ?_
          refine lv_istore_n (lv' := [(3, .int (nI 1)), (2, .int (nI n)), (0, .ref (ma_o q)), (1, .int (nI f))]) hx hb d_M_safe_38 rfl hl (by decide) rfl (fun ls hl => ?_)
          have L39 : ∀ (n39 : Nat) (l9 : Nat) (n2 : Nat) (p1 : Nat → Nat) (p2 : Nat → Nat) (p3 : Nat → Int64) (p4 : Nat → Int64) (w2 : Nat → Bool), (1 ≤ l9) → (l9 ≤ 16) → (RT (mTh u) (mF u) (fun a x => mC u (mF u a x) x) f l9 n2 p1 p2 p3 p4) → (∀ j, p1 j < 65) → (∀ j, p2 j < 16) → 16 - l9 < n39 → ∀ (H : Heap) (locs : List Loc) (ls : Array Slot), va_P (dC, dI) vwCl (wM q (m_mk (m_liq u) (m_lev u) (m_nS u) (m_fa u) (m_fb u) (m_seat u) (m_op u) (m_un u) (m_nV u) (m_may u) n2 p1 p2 p3 p4 cu gu (m_te u) 0 w2)) H → va_D (va_A (wM q u) s.heap.size) (wM q (m_mk (m_liq u) (m_lev u) (m_nS u) (m_fa u) (m_fb u) (m_seat u) (m_op u) (m_un u) (m_nV u) (m_may u) n2 p1 p2 p3 p4 cu gu (m_te u) 0 w2)) → va_S (va_A (wM q u) s.heap.size) s.heap H locs → lv_has ls 4 [(0, .ref (ma_o q)), (1, .int (nI f)), (2, .int (nI n)), (3, .int (nI l9))] → W p l e (headSpec w_M_safe ({ frames := 2, cells := 0, slots := 0, locals := 53 })).room s m [Value.ref (ma_o q)].toArray below meth c H locs 0 0 (MQ below (va_Qi (fun (r : Int32) (z : MSt) => (r = nI 1 ∧ (∀ x, x < m_nV u + 1 → mNo u x) ∧ ∃ (n : Nat) (g1 g2 : Nat → Nat) (g3 g4 : Nat → Int64) (w : Nat → Bool), RT (mTh u) (mF u) (fun a x => mC u (mF u a x) x) (m_nV u + 1) 1 n g1 g2 g3 g4 ∧ n ≤ 975 ∧ (∀ j, g1 j < 65) ∧ (∀ j, g2 j < 16) ∧ z = m_s_wet (m_s_th (m_s_gu (m_s_cul (m_s_rc (m_s_rw (m_s_rl (m_s_rf (m_s_nR u n) g1) g2) g3) g4) (m_cul u)) false) 0) w) ∨ (r = nI 0 ∧ ∃ f t a b, f ≤ m_nV u ∧ (∀ x, x < f → mNo u x) ∧ mCul u f t a b ∧ ∃ (g1 g2 : Nat → Nat) (g3 g4 : Nat → Int64) (w : Nat → Bool), (∀ j, g1 j < 65) ∧ (∀ j, g2 j < 16) ∧ z = m_s_wet (m_s_th (m_s_gu (m_s_cul (m_s_rc (m_s_rw (m_s_rl (m_s_rf (m_s_nR u 0) g1) g2) g3) g4) (cu4 (m_cul u) f t a b)) true) 0) w)) (qB (dC, dI) vwCl (tM q) (wM q u) s.heap.size (wM q)) (va_A (wM q u) s.heap.size)) [Value.ref (ma_o q)].toArray s 0 0 (va_A (wM q u) s.heap.size)) (F0 m 39 ls []) := by
            intro n39
            induction n39 with
            | zero => intro l9 n2 p1 p2 p3 p4 w2 hl39 hl39b hR39 hp1 hp2 hm; exact absurd hm (Nat.not_lt_zero _)
            | succ n39 ih39 =>
              intro l9 n2 p1 p2 p3 p4 w2 hl39 hl39b hR39 hp1 hp2 hm39 H locs ls hP hD hS hl
              refine lv_iload_n hx hb d_M_safe_39 rfl (lv_at hl 3 rfl) ?_
              refine lv_bipush (v := nI 16) hx hb d_M_safe_40 (by decide) ?_
              refine nv_ge (tgt := 127) hx hb d_M_safe_42 (by decide) (by omega) (by omega) (fun c_8 => ?_) (fun c_8 => ?_)
              · refine lv_aload_n hx hb d_M_safe_127 rfl (lv_at hl 0 rfl) ?_
                refine lv_aload_n hx hb d_M_safe_128 rfl (lv_at hl 0 rfl) ?_
                refine lv_iload_n hx hb d_M_safe_129 rfl (lv_at hl 2 rfl) ?_
                refine lv_iload_n hx hb d_M_safe_130 rfl (lv_at hl 1 rfl) ?_
                refine cq_i (va_runV (As := [.int (nI n), .int (nI f)]) (rest := [.ref (ma_o q)]) ⟨hx, hb, hml, hown, hts⟩ (c_M_meet l dC dI q (m_mk (m_liq u) (m_lev u) (m_nS u) (m_fa u) (m_fb u) (m_seat u) (m_op u) (m_un u) (m_nV u) (m_may u) n2 p1 p2 p3 p4 cu gu (m_te u) 0 w2) _ n f (MOk_safe hu (RT_le hR39 (mTh_0 u) (by omega) (by omega)) hp1 hp2) (by show n ≤ n2; rw [hR17.1, hR39.1]; have := pcn_mono (g := mTh u) (show 1 ≤ l9 from hl39); omega)) (cwV 2 hts (good_up (good_V iw_549 iw_551 ip_14 iw_5 gg_M_meet)) rfl rfl rfl (by decide +kernel) ⟨Nat.le_of_ble_eq_true rfl, Nat.le_of_ble_eq_true rfl⟩) (pv_Q [.int (nI n), .int (nI f)] hN hK hP hD (ci := 4) (q0 := 0) rfl rfl) rfl rfl hl.1 rfl (lv_room (Nat.le_of_ble_eq_true rfl)) d_M_safe_131 ⟨Nat.le_of_ble_eq_true rfl, Nat.le_of_ble_eq_true rfl⟩) hD hS hA (fun r_11 z_10 H locs hr_9 hP hD hS => ?_)
                obtain ⟨b_12, cu_13, rfl, rfl, hr_9⟩ := hr_9
                have hP : va_P (dC, dI) vwCl (wM q (m_mk (m_liq u) (m_lev u) (m_nS u) (m_fa u) (m_fb u) (m_seat u) (m_op u) (m_un u) (m_nV u) (m_may u) n2 p1 p2 p3 p4 cu_13 gu (m_te u) 0 w2)) H := hP
                have hD : va_D (va_A (wM q u) s.heap.size) (wM q (m_mk (m_liq u) (m_lev u) (m_nS u) (m_fa u) (m_fb u) (m_seat u) (m_op u) (m_un u) (m_nV u) (m_may u) n2 p1 p2 p3 p4 cu_13 gu (m_te u) 0 w2)) := hD
                refine va_put (D := (dC, dI)) (ci := 4) (v := .int (bI b_12)) (ty := .boolean) (C := "SeatProofsModel") (T := F_M) (N := 20) hx hb hts (iu_M _) t_M t_M_ok n_M hown hK hP hD hS 0 rfl rfl 16 (by decide) (hts _ (List.mem_cons_of_mem _ iw_456)) (fun _ h9 => h9) rfl (by decide +kernel) (bI_narrow _) (bI_fits _) (Nat.le_of_ble_eq_true rfl) d_M_safe_134 (fun H locs hP hD hS => ?_)
                have hP : va_P (dC, dI) vwCl (wM q (m_mk (m_liq u) (m_lev u) (m_nS u) (m_fa u) (m_fb u) (m_seat u) (m_op u) (m_un u) (m_nV u) (m_may u) n2 p1 p2 p3 p4 cu_13 b_12 (m_te u) 0 w2)) H := hP
                have hD : va_D (va_A (wM q u) s.heap.size) (wM q (m_mk (m_liq u) (m_lev u) (m_nS u) (m_fa u) (m_fb u) (m_seat u) (m_op u) (m_un u) (m_nV u) (m_may u) n2 p1 p2 p3 p4 cu_13 b_12 (m_te u) 0 w2)) := hD
                refine lv_iinc (v := nI (f + 1)) (lv' := [(1, .int (nI (f + 1))), (0, .ref (ma_o q)), (2, .int (nI n)), (3, .int (nI l9))]) hx hb d_M_safe_137 hl (k := 1) rfl (nI_1 _) (by decide) rfl (fun ls hl => ?_)
                refine lv_goto (tgt := 17) hx hb d_M_safe_140 (by decide) ?_
                exact ih17 (f + 1) n2 p1 p2 p3 p4 w2 b_12 cu_13 (by omega) (RT_n (show RT (mTh u) (mF u) (fun a x => mC u (mF u a x) x) f 16 n2 p1 p2 p3 p4 from by rw [show 16 = l9 from by omega]; exact hR39) (mTh_0 u)) hp1 hp2 (mG_step (U := (m_mk (m_liq u) (m_lev u) (m_nS u) (m_fa u) (m_fb u) (m_seat u) (m_op u) (m_un u) (m_nV u) (m_may u) n2 p1 p2 p3 p4 cu gu (m_te u) 0 w2)) hG17 c_5 hR17 (show RT (mTh u) (mF u) (fun a x => mC u (mF u a x) x) f 16 n2 p1 p2 p3 p4 from by rw [show 16 = l9 from by omega]; exact hR39) rfl rfl rfl rfl rfl rfl hr_9) (RT_le hR39 (mTh_0 u) (by omega) (by omega)) (by omega) _ _ ls hP hD hS (lv_sub hl [1, 0] rfl)
              · refine lv_aload_n hx hb d_M_safe_45 rfl (lv_at hl 0 rfl) ?_
                refine lv_iload_n hx hb d_M_safe_46 rfl (lv_at hl 3 rfl) ?_
                refine vp_callSi (va_Run.run (va_runV (As := [.int (nI l9)]) (rest := []) ⟨hx, hb, hml, hown, hts⟩ (c_M_isThere l dC dI q (m_mk (m_liq u) (m_lev u) (m_nS u) (m_fa u) (m_fb u) (m_seat u) (m_op u) (m_un u) (m_nV u) (m_may u) n2 p1 p2 p3 p4 cu gu (m_te u) 0 w2) l9 (MOk_safe hu (RT_le hR39 (mTh_0 u) (by omega) (by omega)) hp1 hp2) (by omega)) (cwV 1 hts (good_up (good_V iw_530 iw_532 ip_10 iw_5 gg_M_isThere)) rfl rfl rfl (by decide +kernel) ⟨Nat.le_of_ble_eq_true rfl, Nat.le_of_ble_eq_true rfl⟩) (pv_S [.int (nI l9)] hN hK hP (ci := 4) (q0 := 0) rfl rfl) rfl rfl hl.1 rfl (lv_room (Nat.le_of_ble_eq_true rfl)) d_M_safe_47 ⟨Nat.le_of_ble_eq_true rfl, Nat.le_of_ble_eq_true rfl⟩)) (fun r_14 hr_14 => ?_)
                subst hr_14
                refine tp_i (bI (mTh u l9)) (congrArg bI (mTh_cg rfl rfl)) ?_
                refine b0_eq (tgt := 121) hx hb d_M_safe_50 (by decide) (fun c_15 => ?_) (fun c_15 => ?_)
                · refine lv_iinc (v := nI (l9 + 1)) (lv' := [(3, .int (nI (l9 + 1))), (0, .ref (ma_o q)), (1, .int (nI f)), (2, .int (nI n))]) hx hb d_M_safe_121 hl (k := 3) rfl (nI_1 _) (by decide) rfl (fun ls hl => ?_)
                  refine lv_goto (tgt := 39) hx hb d_M_safe_124 (by decide) ?_
                  exact ih39 (l9 + 1) n2 p1 p2 p3 p4 w2 (by omega) (by omega) (RT_f hR39 c_15) hp1 hp2 (by omega) _ _ ls hP hD hS (lv_sub hl [1, 2, 3, 0] rfl)
                · refine lv_aload_n hx hb d_M_safe_53 rfl (lv_at hl 0 rfl) ?_
                  refine va_get (D := (dC, dI)) (ci := 4) (v := .ref (ma_rf q)) (C := "SeatProofsModel") (T := F_M) (N := 20) hx hb hts (iu_M _) hown hK hP 0 rfl rfl 11 (by decide) (hts _ (List.mem_cons_of_mem _ iw_451)) (fun _ h9 => h9) rfl d_M_safe_54 ?_
                  refine lv_aload_n hx hb d_M_safe_57 rfl (lv_at hl 0 rfl) ?_
                  refine va_get (D := (dC, dI)) (ci := 4) (v := .int (nI n2)) (C := "SeatProofsModel") (T := F_M) (N := 20) hx hb hts (iu_M _) hown hK hP 0 rfl rfl 10 (by decide) (hts _ (List.mem_cons_of_mem _ iw_450)) (fun _ h9 => h9) rfl d_M_safe_58 ?_
                  refine lv_iload_n hx hb d_M_safe_61 rfl (lv_at hl 1 rfl) ?_
                  refine st_i hx hb hK hP hD hS 9 0 rfl rfl (fun j9 => nI (va_up p1 n2 f j9)) (RT_lt hR39 (mTh_0 u) (by omega) hl39 (by omega)) (by decide) (upd_nI _ _ _) d_M_safe_62 (fun H locs hP hD hS => ?_)
                  have hP : va_P (dC, dI) vwCl (wM q (m_mk (m_liq u) (m_lev u) (m_nS u) (m_fa u) (m_fb u) (m_seat u) (m_op u) (m_un u) (m_nV u) (m_may u) n2 (va_up p1 n2 f) p2 p3 p4 cu gu (m_te u) 0 w2)) H := hP
                  have hD : va_D (va_A (wM q u) s.heap.size) (wM q (m_mk (m_liq u) (m_lev u) (m_nS u) (m_fa u) (m_fb u) (m_seat u) (m_op u) (m_un u) (m_nV u) (m_may u) n2 (va_up p1 n2 f) p2 p3 p4 cu gu (m_te u) 0 w2)) := hD
                  refine lv_aload_n hx hb d_M_safe_63 rfl (lv_at hl 0 rfl) ?_
                  refine va_get (D := (dC, dI)) (ci := 4) (v := .ref (ma_rl q)) (C := "SeatProofsModel") (T := F_M) (N := 20) hx hb hts (iu_M _) hown hK hP 0 rfl rfl 12 (by decide) (hts _ (List.mem_cons_of_mem _ iw_452)) (fun _ h9 => h9) rfl d_M_safe_64 ?_
                  refine lv_aload_n hx hb d_M_safe_67 rfl (lv_at hl 0 rfl) ?_
                  refine va_get (D := (dC, dI)) (ci := 4) (v := .int (nI n2)) (C := "SeatProofsModel") (T := F_M) (N := 20) hx hb hts (iu_M _) hown hK hP 0 rfl rfl 10 (by decide) (hts _ (List.mem_cons_of_mem _ iw_450)) (fun _ h9 => h9) rfl d_M_safe_68 ?_
                  refine lv_iload_n hx hb d_M_safe_71 rfl (lv_at hl 3 rfl) ?_
                  refine st_i hx hb hK hP hD hS 10 0 rfl rfl (fun j9 => nI (va_up p2 n2 l9 j9)) (RT_lt hR39 (mTh_0 u) (by omega) hl39 (by omega)) (by decide) (upd_nI _ _ _) d_M_safe_72 (fun H locs hP hD hS => ?_)
                  have hP : va_P (dC, dI) vwCl (wM q (m_mk (m_liq u) (m_lev u) (m_nS u) (m_fa u) (m_fb u) (m_seat u) (m_op u) (m_un u) (m_nV u) (m_may u) n2 (va_up p1 n2 f) (va_up p2 n2 l9) p3 p4 cu gu (m_te u) 0 w2)) H := hP
                  have hD : va_D (va_A (wM q u) s.heap.size) (wM q (m_mk (m_liq u) (m_lev u) (m_nS u) (m_fa u) (m_fb u) (m_seat u) (m_op u) (m_un u) (m_nV u) (m_may u) n2 (va_up p1 n2 f) (va_up p2 n2 l9) p3 p4 cu gu (m_te u) 0 w2)) := hD
                  refine lv_aload_n hx hb d_M_safe_73 rfl (lv_at hl 0 rfl) ?_
                  refine va_get (D := (dC, dI)) (ci := 4) (v := .ref (ma_rw q)) (C := "SeatProofsModel") (T := F_M) (N := 20) hx hb hts (iu_M _) hown hK hP 0 rfl rfl 13 (by decide) (hts _ (List.mem_cons_of_mem _ iw_453)) (fun _ h9 => h9) rfl d_M_safe_74 ?_
                  refine lv_aload_n hx hb d_M_safe_77 rfl (lv_at hl 0 rfl) ?_
                  refine va_get (D := (dC, dI)) (ci := 4) (v := .int (nI n2)) (C := "SeatProofsModel") (T := F_M) (N := 20) hx hb hts (iu_M _) hown hK hP 0 rfl rfl 10 (by decide) (hts _ (List.mem_cons_of_mem _ iw_450)) (fun _ h9 => h9) rfl d_M_safe_78 ?_
                  refine lv_aload_n hx hb d_M_safe_81 rfl (lv_at hl 0 rfl) ?_
                  refine lv_iload_n hx hb d_M_safe_82 rfl (lv_at hl 3 rfl) ?_
                  refine lv_iload_n hx hb d_M_safe_83 rfl (lv_at hl 1 rfl) ?_
                  refine cq_l (va_runV (As := [.int (nI l9), .int (nI f)]) (rest := [.int (nI n2), .ref (ma_rw q)]) ⟨hx, hb, hml, hown, hts⟩ (c_M_flood l dC dI q (m_mk (m_liq u) (m_lev u) (m_nS u) (m_fa u) (m_fb u) (m_seat u) (m_op u) (m_un u) (m_nV u) (m_may u) n2 (va_up p1 n2 f) (va_up p2 n2 l9) p3 p4 cu gu (m_te u) 0 w2) _ l9 f (MOk_safe hu (Nat.le_of_lt (RT_lt hR39 (mTh_0 u) (by omega) hl39 (by omega))) (up_bd hp1 (by omega)) (up_bd hp2 (by omega))) (by omega) (by omega)) (cwV 2 hts (good_up (good_V iw_534 iw_536 ip_11 iw_5 gg_M_flood)) rfl rfl rfl (by decide +kernel) ⟨Nat.le_of_ble_eq_true rfl, Nat.le_of_ble_eq_true rfl⟩) (pv_Q [.int (nI l9), .int (nI f)] hN hK hP hD (ci := 4) (q0 := 0) rfl rfl) rfl rfl hl.1 rfl (lv_room (Nat.le_of_ble_eq_true rfl)) d_M_safe_84 ⟨Nat.le_of_ble_eq_true rfl, Nat.le_of_ble_eq_true rfl⟩) hD hS hA (fun r_18 z_17 H locs hr_16 hP hD hS => ?_)
                  obtain ⟨w_19, rfl, rfl⟩ := hr_16
                  have hP : va_P (dC, dI) vwCl (wM q (m_mk (m_liq u) (m_lev u) (m_nS u) (m_fa u) (m_fb u) (m_seat u) (m_op u) (m_un u) (m_nV u) (m_may u) n2 (va_up p1 n2 f) (va_up p2 n2 l9) p3 p4 cu gu (m_te u) 0 w_19)) H := hP
                  have hD : va_D (va_A (wM q u) s.heap.size) (wM q (m_mk (m_liq u) (m_lev u) (m_nS u) (m_fa u) (m_fb u) (m_seat u) (m_op u) (m_un u) (m_nV u) (m_may u) n2 (va_up p1 n2 f) (va_up p2 n2 l9) p3 p4 cu gu (m_te u) 0 w_19)) := hD
                  refine tp_l (mF u l9 f) (mF_cg rfl rfl rfl rfl rfl rfl rfl rfl rfl) ?_
                  refine st_l hx hb hK hP hD hS 11 1 rfl rfl (va_up p3 n2 (mF u l9 f)) (RT_lt hR39 (mTh_0 u) (by omega) hl39 (by omega)) (by decide) (updL_up _ _ _) d_M_safe_87 (fun H locs hP hD hS => ?_)
                  have hP : va_P (dC, dI) vwCl (wM q (m_mk (m_liq u) (m_lev u) (m_nS u) (m_fa u) (m_fb u) (m_seat u) (m_op u) (m_un u) (m_nV u) (m_may u) n2 (va_up p1 n2 f) (va_up p2 n2 l9) (va_up p3 n2 (mF u l9 f)) p4 cu gu (m_te u) 0 w_19)) H := hP
                  have hD : va_D (va_A (wM q u) s.heap.size) (wM q (m_mk (m_liq u) (m_lev u) (m_nS u) (m_fa u) (m_fb u) (m_seat u) (m_op u) (m_un u) (m_nV u) (m_may u) n2 (va_up p1 n2 f) (va_up p2 n2 l9) (va_up p3 n2 (mF u l9 f)) p4 cu gu (m_te u) 0 w_19)) := hD
                  refine lv_aload_n hx hb d_M_safe_88 rfl (lv_at hl 0 rfl) ?_
                  refine va_get (D := (dC, dI)) (ci := 4) (v := .ref (ma_rc q)) (C := "SeatProofsModel") (T := F_M) (N := 20) hx hb hts (iu_M _) hown hK hP 0 rfl rfl 14 (by decide) (hts _ (List.mem_cons_of_mem _ iw_454)) (fun _ h9 => h9) rfl d_M_safe_89 ?_
                  refine lv_aload_n hx hb d_M_safe_92 rfl (lv_at hl 0 rfl) ?_
                  refine va_get (D := (dC, dI)) (ci := 4) (v := .int (nI n2)) (C := "SeatProofsModel") (T := F_M) (N := 20) hx hb hts (iu_M _) hown hK hP 0 rfl rfl 10 (by decide) (hts _ (List.mem_cons_of_mem _ iw_450)) (fun _ h9 => h9) rfl d_M_safe_93 ?_
                  refine lv_aload_n hx hb d_M_safe_96 rfl (lv_at hl 0 rfl) ?_
                  refine lv_aload_n hx hb d_M_safe_97 rfl (lv_at hl 0 rfl) ?_
                  refine va_get (D := (dC, dI)) (ci := 4) (v := .ref (ma_rw q)) (C := "SeatProofsModel") (T := F_M) (N := 20) hx hb hts (iu_M _) hown hK hP 0 rfl rfl 13 (by decide) (hts _ (List.mem_cons_of_mem _ iw_453)) (fun _ h9 => h9) rfl d_M_safe_98 ?_
                  refine lv_aload_n hx hb d_M_safe_101 rfl (lv_at hl 0 rfl) ?_
                  refine va_get (D := (dC, dI)) (ci := 4) (v := .int (nI n2)) (C := "SeatProofsModel") (T := F_M) (N := 20) hx hb hts (iu_M _) hown hK hP 0 rfl rfl 10 (by decide) (hts _ (List.mem_cons_of_mem _ iw_450)) (fun _ h9 => h9) rfl d_M_safe_102 ?_
                  refine ld_l hx hb hK hP 11 1 rfl rfl (mF u l9 f) (RT_lt hR39 (mTh_0 u) (by omega) hl39 (by omega)) (by decide) (va_up_self _ _ _) d_M_safe_105 ?_
                  refine lv_iload_n hx hb d_M_safe_106 rfl (lv_at hl 1 rfl) ?_
                  refine vp_callSl (va_Run.run (va_runV (As := [.long (mF u l9 f), .int (nI f)]) (rest := [.int (nI n2), .ref (ma_rc q)]) ⟨hx, hb, hml, hown, hts⟩ (c_M_cut l dC dI q (m_mk (m_liq u) (m_lev u) (m_nS u) (m_fa u) (m_fb u) (m_seat u) (m_op u) (m_un u) (m_nV u) (m_may u) n2 (va_up p1 n2 f) (va_up p2 n2 l9) (va_up p3 n2 (mF u l9 f)) p4 cu gu (m_te u) 0 w_19) (mF u l9 f) f (MOk_safe hu (Nat.le_of_lt (RT_lt hR39 (mTh_0 u) (by omega) hl39 (by omega))) (up_bd hp1 (by omega)) (up_bd hp2 (by omega))) (by omega)) (cwV 2 hts (good_up (good_V iw_542 iw_544 ip_13 iw_5 gg_M_cut)) rfl rfl rfl (by decide +kernel) ⟨Nat.le_of_ble_eq_true rfl, Nat.le_of_ble_eq_true rfl⟩) (pv_S [.long (mF u l9 f), .int (nI f)] hN hK hP (ci := 4) (q0 := 0) rfl rfl) rfl rfl hl.1 rfl (lv_room (Nat.le_of_ble_eq_true rfl)) d_M_safe_107 ⟨Nat.le_of_ble_eq_true rfl, Nat.le_of_ble_eq_true rfl⟩)) (fun r_20 hr_20 => ?_)
                  subst hr_20
                  refine tp_l (mC u (mF u l9 f) f) (mC_cg rfl rfl rfl rfl rfl rfl rfl) ?_
                  refine st_l hx hb hK hP hD hS 12 1 rfl rfl (va_up p4 n2 (mC u (mF u l9 f) f)) (RT_lt hR39 (mTh_0 u) (by omega) hl39 (by omega)) (by decide) (updL_up _ _ _) d_M_safe_110 (fun H locs hP hD hS => ?_)
                  have hP : va_P (dC, dI) vwCl (wM q (m_mk (m_liq u) (m_lev u) (m_nS u) (m_fa u) (m_fb u) (m_seat u) (m_op u) (m_un u) (m_nV u) (m_may u) n2 (va_up p1 n2 f) (va_up p2 n2 l9) (va_up p3 n2 (mF u l9 f)) (va_up p4 n2 (mC u (mF u l9 f) f)) cu gu (m_te u) 0 w_19)) H := hP
                  have hD : va_D (va_A (wM q u) s.heap.size) (wM q (m_mk (m_liq u) (m_lev u) (m_nS u) (m_fa u) (m_fb u) (m_seat u) (m_op u) (m_un u) (m_nV u) (m_may u) n2 (va_up p1 n2 f) (va_up p2 n2 l9) (va_up p3 n2 (mF u l9 f)) (va_up p4 n2 (mC u (mF u l9 f) f)) cu gu (m_te u) 0 w_19)) := hD
                  refine lv_aload_n hx hb d_M_safe_111 rfl (lv_at hl 0 rfl) ?_
                  refine lv_dup hx hb d_M_safe_112 rfl ?_
                  refine va_get (D := (dC, dI)) (ci := 4) (v := .int (nI n2)) (C := "SeatProofsModel") (T := F_M) (N := 20) hx hb hts (iu_M _) hown hK hP 0 rfl rfl 10 (by decide) (hts _ (List.mem_cons_of_mem _ iw_450)) (fun _ h9 => h9) rfl d_M_safe_113 ?_
                  refine lv_iconst (v := nI 1) hx hb d_M_safe_116 (by decide) ?_
                  refine lv_iadd hx hb d_M_safe_117 ?_
                  refine tp_i (nI (n2 + 1)) (nI_add _ _) ?_
                  refine va_put (D := (dC, dI)) (ci := 4) (v := .int (nI (n2 + 1))) (ty := .int) (C := "SeatProofsModel") (T := F_M) (N := 20) hx hb hts (iu_M _) t_M t_M_ok n_M hown hK hP hD hS 0 rfl rfl 10 (by decide) (hts _ (List.mem_cons_of_mem _ iw_450)) (fun _ h9 => h9) rfl (by decide +kernel) rfl rfl (Nat.le_of_ble_eq_true rfl) d_M_safe_118 (fun H locs hP hD hS => ?_)
                  have hP : va_P (dC, dI) vwCl (wM q (m_mk (m_liq u) (m_lev u) (m_nS u) (m_fa u) (m_fb u) (m_seat u) (m_op u) (m_un u) (m_nV u) (m_may u) (n2 + 1) (va_up p1 n2 f) (va_up p2 n2 l9) (va_up p3 n2 (mF u l9 f)) (va_up p4 n2 (mC u (mF u l9 f) f)) cu gu (m_te u) 0 w_19)) H := hP
                  have hD : va_D (va_A (wM q u) s.heap.size) (wM q (m_mk (m_liq u) (m_lev u) (m_nS u) (m_fa u) (m_fb u) (m_seat u) (m_op u) (m_un u) (m_nV u) (m_may u) (n2 + 1) (va_up p1 n2 f) (va_up p2 n2 l9) (va_up p3 n2 (mF u l9 f)) (va_up p4 n2 (mC u (mF u l9 f) f)) cu gu (m_te u) 0 w_19)) := hD
                  refine lv_iinc (v := nI (l9 + 1)) (lv' := [(3, .int (nI (l9 + 1))), (0, .ref (ma_o q)), (1, .int (nI f)), (2, .int (nI n))]) hx hb d_M_safe_121 hl (k := 3) rfl (nI_1 _) (by decide) rfl (fun ls hl => ?_)
                  refine lv_goto (tgt := 39) hx hb d_M_safe_124 (by decide) ?_
                  exact ih39 (l9 + 1) (n2 + 1) (va_up p1 n2 f) (va_up p2 n2 l9) (va_up p3 n2 (mF u l9 f)) (va_up p4 n2 (mC u (mF u l9 f) f)) w_19 (by omega) (by omega) (RT_t hR39 c_15) (up_bd hp1 (by omega)) (up_bd hp2 (by omega)) (by omega) _ _ ls hP hD hS (lv_sub hl [1, 2, 3, 0] rfl)
          exact L39 _ 1 n g1 g2 g3 g4 w (Nat.le_refl _) (by omega) hR17 hq1 hq2 (Nat.lt_succ_self _) _ _ ls hP hD hS (lv_sub hl [2, 3, 1, 0] rfl)
  exact L17 _ 0 0 (m_rf u) (m_rl u) (m_rw u) (m_rc u) (m_wet u) false (m_cul u) (Nat.zero_le _) (RT_0 (mTh_0 u)) k7 k8 (Or.inl ⟨rfl, rfl, fun x hx => absurd hx (Nat.not_lt_zero x)⟩) (Nat.zero_le _) (Nat.lt_succ_self _) _ _ ls hP hD hS (lv_sub hl [1, 0] rfl)
end
section
abbrev b_S_init : ByteArray := prog_1_method_1_code
def y_S_init : MethodName := ⟨"SeatProofs", "<init>", "()V"⟩
abbrev w_S_init : List Cond := .code y_S_init b_S_init 1 none :: gT
theorem d_S_init_0 : decode b_S_init 0 = .ok (.aload_n 0, 1) := by decide +kernel
theorem d_S_init_1 : decode b_S_init 1 = .ok (.invokespecial 3, 3) := by decide +kernel
theorem d_S_init_4 : decode b_S_init 4 = .ok (.aload_n 0, 1) := by decide +kernel
theorem d_S_init_5 : decode b_S_init 5 = .ok (.new 9, 3) := by decide +kernel
theorem d_S_init_8 : decode b_S_init 8 = .ok (.dup, 1) := by decide +kernel
theorem d_S_init_9 : decode b_S_init 9 = .ok (.invokespecial 11, 3) := by decide +kernel
theorem d_S_init_12 : decode b_S_init 12 = .ok (.putfield 12, 3) := by decide +kernel
theorem d_S_init_15 : decode b_S_init 15 = .ok (.aload_n 0, 1) := by decide +kernel
theorem d_S_init_16 : decode b_S_init 16 = .ok (.new 16, 3) := by decide +kernel
theorem d_S_init_19 : decode b_S_init 19 = .ok (.dup, 1) := by decide +kernel
theorem d_S_init_20 : decode b_S_init 20 = .ok (.aload_n 0, 1) := by decide +kernel
theorem d_S_init_21 : decode b_S_init 21 = .ok (.getfield 12, 3) := by decide +kernel
theorem d_S_init_24 : decode b_S_init 24 = .ok (.invokespecial 18, 3) := by decide +kernel
theorem d_S_init_27 : decode b_S_init 27 = .ok (.putfield 21, 3) := by decide +kernel
theorem d_S_init_30 : decode b_S_init 30 = .ok (.aload_n 0, 1) := by decide +kernel
theorem d_S_init_31 : decode b_S_init 31 = .ok (.new 25, 3) := by decide +kernel
theorem d_S_init_34 : decode b_S_init 34 = .ok (.dup, 1) := by decide +kernel
theorem d_S_init_35 : decode b_S_init 35 = .ok (.invokespecial 27, 3) := by decide +kernel
theorem d_S_init_38 : decode b_S_init 38 = .ok (.putfield 28, 3) := by decide +kernel
theorem d_S_init_41 : decode b_S_init 41 = .ok (.aload_n 0, 1) := by decide +kernel
theorem d_S_init_42 : decode b_S_init 42 = .ok (.iconst 4, 1) := by decide +kernel
theorem d_S_init_43 : decode b_S_init 43 = .ok (.newarray .int, 2) := by decide +kernel
theorem d_S_init_45 : decode b_S_init 45 = .ok (.putfield 32, 3) := by decide +kernel
theorem d_S_init_48 : decode b_S_init 48 = .ok (.aload_n 0, 1) := by decide +kernel
theorem d_S_init_49 : decode b_S_init 49 = .ok (.iconst 0, 1) := by decide +kernel
theorem d_S_init_50 : decode b_S_init 50 = .ok (.putfield 36, 3) := by decide +kernel
theorem d_S_init_53 : decode b_S_init 53 = .ok (.aload_n 0, 1) := by decide +kernel
theorem d_S_init_54 : decode b_S_init 54 = .ok (.iconst 0, 1) := by decide +kernel
theorem d_S_init_55 : decode b_S_init 55 = .ok (.putfield 40, 3) := by decide +kernel
theorem d_S_init_58 : decode b_S_init 58 = .ok (.return_, 1) := by decide +kernel
abbrev b_S_space : ByteArray := prog_1_method_2_code
def y_S_space : MethodName := ⟨"SeatProofs", "space", "(I)I"⟩
abbrev w_S_space : List Cond := .code y_S_space b_S_space 2 (some .int) :: gT
theorem d_S_space_0 : decode b_S_space 0 = .ok (.iload_n 1, 1) := by decide +kernel
theorem d_S_space_1 : decode b_S_space 1 = .ok (.ifCond .lt 9, 3) := by decide +kernel
theorem d_S_space_4 : decode b_S_space 4 = .ok (.iload_n 1, 1) := by decide +kernel
theorem d_S_space_5 : decode b_S_space 5 = .ok (.bipush 16, 2) := by decide +kernel
theorem d_S_space_7 : decode b_S_space 7 = .ok (.if_icmp .lt 5, 3) := by decide +kernel
theorem d_S_space_10 : decode b_S_space 10 = .ok (.iconst (-1), 1) := by decide +kernel
theorem d_S_space_11 : decode b_S_space 11 = .ok (.ireturn, 1) := by decide +kernel
theorem d_S_space_12 : decode b_S_space 12 = .ok (.aload_n 0, 1) := by decide +kernel
theorem d_S_space_13 : decode b_S_space 13 = .ok (.getfield 12, 3) := by decide +kernel
theorem d_S_space_16 : decode b_S_space 16 = .ok (.getfield 44, 3) := by decide +kernel
theorem d_S_space_19 : decode b_S_space 19 = .ok (.bipush 64, 2) := by decide +kernel
theorem d_S_space_21 : decode b_S_space 21 = .ok (.if_icmp .lt 6, 3) := by decide +kernel
theorem d_S_space_24 : decode b_S_space 24 = .ok (.bipush (-2), 2) := by decide +kernel
theorem d_S_space_26 : decode b_S_space 26 = .ok (.ireturn, 1) := by decide +kernel
theorem d_S_space_27 : decode b_S_space 27 = .ok (.aload_n 0, 1) := by decide +kernel
theorem d_S_space_28 : decode b_S_space 28 = .ok (.getfield 28, 3) := by decide +kernel
theorem d_S_space_31 : decode b_S_space 31 = .ok (.invokevirtual 47, 3) := by decide +kernel
theorem d_S_space_34 : decode b_S_space 34 = .ok (.aload_n 0, 1) := by decide +kernel
theorem d_S_space_35 : decode b_S_space 35 = .ok (.getfield 12, 3) := by decide +kernel
theorem d_S_space_38 : decode b_S_space 38 = .ok (.iload_n 1, 1) := by decide +kernel
theorem d_S_space_39 : decode b_S_space 39 = .ok (.invokevirtual 50, 3) := by decide +kernel
theorem d_S_space_42 : decode b_S_space 42 = .ok (.ireturn, 1) := by decide +kernel
abbrev b_S_valve : ByteArray := prog_1_method_3_code
def y_S_valve : MethodName := ⟨"SeatProofs", "valve", "(IIIZ)I"⟩
abbrev w_S_valve : List Cond := .code y_S_valve b_S_valve 5 (some .int) :: gT
theorem d_S_valve_0 : decode b_S_valve 0 = .ok (.aload_n 0, 1) := by decide +kernel
theorem d_S_valve_1 : decode b_S_valve 1 = .ok (.getfield 12, 3) := by decide +kernel
theorem d_S_valve_4 : decode b_S_valve 4 = .ok (.iload_n 1, 1) := by decide +kernel
theorem d_S_valve_5 : decode b_S_valve 5 = .ok (.invokevirtual 54, 3) := by decide +kernel
theorem d_S_valve_8 : decode b_S_valve 8 = .ok (.ifCond .eq 19, 3) := by decide +kernel
theorem d_S_valve_11 : decode b_S_valve 11 = .ok (.aload_n 0, 1) := by decide +kernel
theorem d_S_valve_12 : decode b_S_valve 12 = .ok (.getfield 12, 3) := by decide +kernel
theorem d_S_valve_15 : decode b_S_valve 15 = .ok (.iload_n 2, 1) := by decide +kernel
theorem d_S_valve_16 : decode b_S_valve 16 = .ok (.invokevirtual 54, 3) := by decide +kernel
theorem d_S_valve_19 : decode b_S_valve 19 = .ok (.ifCond .eq 8, 3) := by decide +kernel
theorem d_S_valve_22 : decode b_S_valve 22 = .ok (.iload_n 1, 1) := by decide +kernel
theorem d_S_valve_23 : decode b_S_valve 23 = .ok (.iload_n 2, 1) := by decide +kernel
theorem d_S_valve_24 : decode b_S_valve 24 = .ok (.if_icmp .ne 5, 3) := by decide +kernel
theorem d_S_valve_27 : decode b_S_valve 27 = .ok (.iconst (-1), 1) := by decide +kernel
theorem d_S_valve_28 : decode b_S_valve 28 = .ok (.ireturn, 1) := by decide +kernel
theorem d_S_valve_29 : decode b_S_valve 29 = .ok (.iload_n 3, 1) := by decide +kernel
theorem d_S_valve_30 : decode b_S_valve 30 = .ok (.iconst 1, 1) := by decide +kernel
theorem d_S_valve_31 : decode b_S_valve 31 = .ok (.if_icmp .eq 10, 3) := by decide +kernel
theorem d_S_valve_34 : decode b_S_valve 34 = .ok (.iload_n 3, 1) := by decide +kernel
theorem d_S_valve_35 : decode b_S_valve 35 = .ok (.iconst 2, 1) := by decide +kernel
theorem d_S_valve_36 : decode b_S_valve 36 = .ok (.if_icmp .eq 5, 3) := by decide +kernel
theorem d_S_valve_39 : decode b_S_valve 39 = .ok (.iconst (-1), 1) := by decide +kernel
theorem d_S_valve_40 : decode b_S_valve 40 = .ok (.ireturn, 1) := by decide +kernel
theorem d_S_valve_41 : decode b_S_valve 41 = .ok (.aload_n 0, 1) := by decide +kernel
theorem d_S_valve_42 : decode b_S_valve 42 = .ok (.getfield 12, 3) := by decide +kernel
theorem d_S_valve_45 : decode b_S_valve 45 = .ok (.getfield 58, 3) := by decide +kernel
theorem d_S_valve_48 : decode b_S_valve 48 = .ok (.bipush 64, 2) := by decide +kernel
theorem d_S_valve_50 : decode b_S_valve 50 = .ok (.if_icmp .lt 6, 3) := by decide +kernel
theorem d_S_valve_53 : decode b_S_valve 53 = .ok (.bipush (-2), 2) := by decide +kernel
theorem d_S_valve_55 : decode b_S_valve 55 = .ok (.ireturn, 1) := by decide +kernel
theorem d_S_valve_56 : decode b_S_valve 56 = .ok (.aload_n 0, 1) := by decide +kernel
theorem d_S_valve_57 : decode b_S_valve 57 = .ok (.getfield 28, 3) := by decide +kernel
theorem d_S_valve_60 : decode b_S_valve 60 = .ok (.invokevirtual 47, 3) := by decide +kernel
theorem d_S_valve_63 : decode b_S_valve 63 = .ok (.aload_n 0, 1) := by decide +kernel
theorem d_S_valve_64 : decode b_S_valve 64 = .ok (.getfield 12, 3) := by decide +kernel
theorem d_S_valve_67 : decode b_S_valve 67 = .ok (.iload_n 1, 1) := by decide +kernel
theorem d_S_valve_68 : decode b_S_valve 68 = .ok (.iload_n 2, 1) := by decide +kernel
theorem d_S_valve_69 : decode b_S_valve 69 = .ok (.iload_n 3, 1) := by decide +kernel
theorem d_S_valve_70 : decode b_S_valve 70 = .ok (.iconst 2, 1) := by decide +kernel
theorem d_S_valve_71 : decode b_S_valve 71 = .ok (.if_icmp .ne 7, 3) := by decide +kernel
theorem d_S_valve_74 : decode b_S_valve 74 = .ok (.iconst 1, 1) := by decide +kernel
theorem d_S_valve_75 : decode b_S_valve 75 = .ok (.goto 4, 3) := by decide +kernel
theorem d_S_valve_78 : decode b_S_valve 78 = .ok (.iconst 0, 1) := by decide +kernel
theorem d_S_valve_79 : decode b_S_valve 79 = .ok (.iload 4, 2) := by decide +kernel
theorem d_S_valve_81 : decode b_S_valve 81 = .ok (.invokevirtual 61, 3) := by decide +kernel
theorem d_S_valve_84 : decode b_S_valve 84 = .ok (.ireturn, 1) := by decide +kernel
abbrev b_S_level : ByteArray := prog_1_method_4_code
def y_S_level : MethodName := ⟨"SeatProofs", "level", "(IJ)Z"⟩
abbrev w_S_level : List Cond := .code y_S_level b_S_level 4 (some .boolean) :: gT
theorem d_S_level_0 : decode b_S_level 0 = .ok (.aload_n 0, 1) := by decide +kernel
theorem d_S_level_1 : decode b_S_level 1 = .ok (.getfield 12, 3) := by decide +kernel
theorem d_S_level_4 : decode b_S_level 4 = .ok (.iload_n 1, 1) := by decide +kernel
theorem d_S_level_5 : decode b_S_level 5 = .ok (.invokevirtual 54, 3) := by decide +kernel
theorem d_S_level_8 : decode b_S_level 8 = .ok (.ifCond .ne 5, 3) := by decide +kernel
theorem d_S_level_11 : decode b_S_level 11 = .ok (.iconst 0, 1) := by decide +kernel
theorem d_S_level_12 : decode b_S_level 12 = .ok (.ireturn, 1) := by decide +kernel
theorem d_S_level_13 : decode b_S_level 13 = .ok (.aload_n 0, 1) := by decide +kernel
theorem d_S_level_14 : decode b_S_level 14 = .ok (.getfield 12, 3) := by decide +kernel
theorem d_S_level_17 : decode b_S_level 17 = .ok (.iload_n 1, 1) := by decide +kernel
theorem d_S_level_18 : decode b_S_level 18 = .ok (.lload_n 2, 1) := by decide +kernel
theorem d_S_level_19 : decode b_S_level 19 = .ok (.invokevirtual 65, 3) := by decide +kernel
theorem d_S_level_22 : decode b_S_level 22 = .ok (.aload_n 0, 1) := by decide +kernel
theorem d_S_level_23 : decode b_S_level 23 = .ok (.getfield 28, 3) := by decide +kernel
theorem d_S_level_26 : decode b_S_level 26 = .ok (.invokevirtual 47, 3) := by decide +kernel
theorem d_S_level_29 : decode b_S_level 29 = .ok (.iconst 1, 1) := by decide +kernel
theorem d_S_level_30 : decode b_S_level 30 = .ok (.ireturn, 1) := by decide +kernel
abbrev b_S_may : ByteArray := prog_1_method_5_code
def y_S_may : MethodName := ⟨"SeatProofs", "may", "(II)Z"⟩
abbrev w_S_may : List Cond := .code y_S_may b_S_may 3 (some .boolean) :: gT
theorem d_S_may_0 : decode b_S_may 0 = .ok (.iload_n 1, 1) := by decide +kernel
theorem d_S_may_1 : decode b_S_may 1 = .ok (.invokestatic 69, 3) := by decide +kernel
theorem d_S_may_4 : decode b_S_may 4 = .ok (.ifCond .eq 15, 3) := by decide +kernel
theorem d_S_may_7 : decode b_S_may 7 = .ok (.iload_n 2, 1) := by decide +kernel
theorem d_S_may_8 : decode b_S_may 8 = .ok (.invokestatic 69, 3) := by decide +kernel
theorem d_S_may_11 : decode b_S_may 11 = .ok (.ifCond .eq 8, 3) := by decide +kernel
theorem d_S_may_14 : decode b_S_may 14 = .ok (.iload_n 1, 1) := by decide +kernel
theorem d_S_may_15 : decode b_S_may 15 = .ok (.iload_n 2, 1) := by decide +kernel
theorem d_S_may_16 : decode b_S_may 16 = .ok (.if_icmp .ne 5, 3) := by decide +kernel
theorem d_S_may_19 : decode b_S_may 19 = .ok (.iconst 0, 1) := by decide +kernel
theorem d_S_may_20 : decode b_S_may 20 = .ok (.ireturn, 1) := by decide +kernel
theorem d_S_may_21 : decode b_S_may 21 = .ok (.aload_n 0, 1) := by decide +kernel
theorem d_S_may_22 : decode b_S_may 22 = .ok (.getfield 12, 3) := by decide +kernel
theorem d_S_may_25 : decode b_S_may 25 = .ok (.iload_n 1, 1) := by decide +kernel
theorem d_S_may_26 : decode b_S_may 26 = .ok (.iload_n 2, 1) := by decide +kernel
theorem d_S_may_27 : decode b_S_may 27 = .ok (.invokevirtual 72, 3) := by decide +kernel
theorem d_S_may_30 : decode b_S_may 30 = .ok (.ifCond .eq 5, 3) := by decide +kernel
theorem d_S_may_33 : decode b_S_may 33 = .ok (.iconst 0, 1) := by decide +kernel
theorem d_S_may_34 : decode b_S_may 34 = .ok (.ireturn, 1) := by decide +kernel
theorem d_S_may_35 : decode b_S_may 35 = .ok (.aload_n 0, 1) := by decide +kernel
theorem d_S_may_36 : decode b_S_may 36 = .ok (.getfield 12, 3) := by decide +kernel
theorem d_S_may_39 : decode b_S_may 39 = .ok (.iload_n 1, 1) := by decide +kernel
theorem d_S_may_40 : decode b_S_may 40 = .ok (.iload_n 2, 1) := by decide +kernel
theorem d_S_may_41 : decode b_S_may 41 = .ok (.invokevirtual 76, 3) := by decide +kernel
theorem d_S_may_44 : decode b_S_may 44 = .ok (.aload_n 0, 1) := by decide +kernel
theorem d_S_may_45 : decode b_S_may 45 = .ok (.getfield 28, 3) := by decide +kernel
theorem d_S_may_48 : decode b_S_may 48 = .ok (.invokevirtual 47, 3) := by decide +kernel
theorem d_S_may_51 : decode b_S_may 51 = .ok (.iconst 1, 1) := by decide +kernel
theorem d_S_may_52 : decode b_S_may 52 = .ok (.ireturn, 1) := by decide +kernel
abbrev b_S_safe : ByteArray := prog_1_method_6_code
def y_S_safe : MethodName := ⟨"SeatProofs", "safe", "()I"⟩
abbrev w_S_safe : List Cond := .code y_S_safe b_S_safe 4 (some .int) :: gT
theorem d_S_safe_0 : decode b_S_safe 0 = .ok (.aload_n 0, 1) := by decide +kernel
theorem d_S_safe_1 : decode b_S_safe 1 = .ok (.getfield 28, 3) := by decide +kernel
theorem d_S_safe_4 : decode b_S_safe 4 = .ok (.invokevirtual 47, 3) := by decide +kernel
theorem d_S_safe_7 : decode b_S_safe 7 = .ok (.aload_n 0, 1) := by decide +kernel
theorem d_S_safe_8 : decode b_S_safe 8 = .ok (.iconst 0, 1) := by decide +kernel
theorem d_S_safe_9 : decode b_S_safe 9 = .ok (.putfield 36, 3) := by decide +kernel
theorem d_S_safe_12 : decode b_S_safe 12 = .ok (.iconst 0, 1) := by decide +kernel
theorem d_S_safe_13 : decode b_S_safe 13 = .ok (.istore_n 1, 1) := by decide +kernel
theorem d_S_safe_14 : decode b_S_safe 14 = .ok (.iload_n 1, 1) := by decide +kernel
theorem d_S_safe_15 : decode b_S_safe 15 = .ok (.aload_n 0, 1) := by decide +kernel
theorem d_S_safe_16 : decode b_S_safe 16 = .ok (.getfield 12, 3) := by decide +kernel
theorem d_S_safe_19 : decode b_S_safe 19 = .ok (.getfield 58, 3) := by decide +kernel
theorem d_S_safe_22 : decode b_S_safe 22 = .ok (.if_icmp .gt 61, 3) := by decide +kernel
theorem d_S_safe_25 : decode b_S_safe 25 = .ok (.aload_n 0, 1) := by decide +kernel
theorem d_S_safe_26 : decode b_S_safe 26 = .ok (.getfield 21, 3) := by decide +kernel
theorem d_S_safe_29 : decode b_S_safe 29 = .ok (.iload_n 1, 1) := by decide +kernel
theorem d_S_safe_30 : decode b_S_safe 30 = .ok (.invokevirtual 80, 3) := by decide +kernel
theorem d_S_safe_33 : decode b_S_safe 33 = .ok (.aload_n 0, 1) := by decide +kernel
theorem d_S_safe_34 : decode b_S_safe 34 = .ok (.getfield 21, 3) := by decide +kernel
theorem d_S_safe_37 : decode b_S_safe 37 = .ok (.invokevirtual 84, 3) := by decide +kernel
theorem d_S_safe_40 : decode b_S_safe 40 = .ok (.aload_n 0, 1) := by decide +kernel
theorem d_S_safe_41 : decode b_S_safe 41 = .ok (.getfield 21, 3) := by decide +kernel
theorem d_S_safe_44 : decode b_S_safe 44 = .ok (.invokevirtual 87, 3) := by decide +kernel
theorem d_S_safe_47 : decode b_S_safe 47 = .ok (.lstore_n 2, 1) := by decide +kernel
theorem d_S_safe_48 : decode b_S_safe 48 = .ok (.lload_n 2, 1) := by decide +kernel
theorem d_S_safe_49 : decode b_S_safe 49 = .ok (.lconst 0, 1) := by decide +kernel
theorem d_S_safe_50 : decode b_S_safe 50 = .ok (.lcmp, 1) := by decide +kernel
theorem d_S_safe_51 : decode b_S_safe 51 = .ok (.ifCond .eq 21, 3) := by decide +kernel
theorem d_S_safe_54 : decode b_S_safe 54 = .ok (.aload_n 0, 1) := by decide +kernel
theorem d_S_safe_55 : decode b_S_safe 55 = .ok (.iload_n 1, 1) := by decide +kernel
theorem d_S_safe_56 : decode b_S_safe 56 = .ok (.lload_n 2, 1) := by decide +kernel
theorem d_S_safe_57 : decode b_S_safe 57 = .ok (.invokestatic 91, 3) := by decide +kernel
theorem d_S_safe_60 : decode b_S_safe 60 = .ok (.invokevirtual 95, 3) := by decide +kernel
theorem d_S_safe_63 : decode b_S_safe 63 = .ok (.aload_n 0, 1) := by decide +kernel
theorem d_S_safe_64 : decode b_S_safe 64 = .ok (.getfield 28, 3) := by decide +kernel
theorem d_S_safe_67 : decode b_S_safe 67 = .ok (.invokevirtual 47, 3) := by decide +kernel
theorem d_S_safe_70 : decode b_S_safe 70 = .ok (.iconst 0, 1) := by decide +kernel
theorem d_S_safe_71 : decode b_S_safe 71 = .ok (.ireturn, 1) := by decide +kernel
theorem d_S_safe_72 : decode b_S_safe 72 = .ok (.aload_n 0, 1) := by decide +kernel
theorem d_S_safe_73 : decode b_S_safe 73 = .ok (.iload_n 1, 1) := by decide +kernel
theorem d_S_safe_74 : decode b_S_safe 74 = .ok (.invokevirtual 98, 3) := by decide +kernel
theorem d_S_safe_77 : decode b_S_safe 77 = .ok (.iinc 1 1, 3) := by decide +kernel
theorem d_S_safe_80 : decode b_S_safe 80 = .ok (.goto (-66), 3) := by decide +kernel
theorem d_S_safe_83 : decode b_S_safe 83 = .ok (.iconst 1, 1) := by decide +kernel
theorem d_S_safe_84 : decode b_S_safe 84 = .ok (.ireturn, 1) := by decide +kernel
abbrev b_S_culprit : ByteArray := prog_1_method_7_code
def y_S_culprit : MethodName := ⟨"SeatProofs", "culprit", "(I)I"⟩
abbrev w_S_culprit : List Cond := .code y_S_culprit b_S_culprit 2 (some .int) :: gT
theorem d_S_culprit_0 : decode b_S_culprit 0 = .ok (.aload_n 0, 1) := by decide +kernel
theorem d_S_culprit_1 : decode b_S_culprit 1 = .ok (.getfield 36, 3) := by decide +kernel
theorem d_S_culprit_4 : decode b_S_culprit 4 = .ok (.ifCond .eq 12, 3) := by decide +kernel
theorem d_S_culprit_7 : decode b_S_culprit 7 = .ok (.iload_n 1, 1) := by decide +kernel
theorem d_S_culprit_8 : decode b_S_culprit 8 = .ok (.ifCond .lt 8, 3) := by decide +kernel
theorem d_S_culprit_11 : decode b_S_culprit 11 = .ok (.iload_n 1, 1) := by decide +kernel
theorem d_S_culprit_12 : decode b_S_culprit 12 = .ok (.iconst 4, 1) := by decide +kernel
theorem d_S_culprit_13 : decode b_S_culprit 13 = .ok (.if_icmp .lt 5, 3) := by decide +kernel
theorem d_S_culprit_16 : decode b_S_culprit 16 = .ok (.iconst (-1), 1) := by decide +kernel
theorem d_S_culprit_17 : decode b_S_culprit 17 = .ok (.ireturn, 1) := by decide +kernel
theorem d_S_culprit_18 : decode b_S_culprit 18 = .ok (.aload_n 0, 1) := by decide +kernel
theorem d_S_culprit_19 : decode b_S_culprit 19 = .ok (.getfield 32, 3) := by decide +kernel
theorem d_S_culprit_22 : decode b_S_culprit 22 = .ok (.iload_n 1, 1) := by decide +kernel
theorem d_S_culprit_23 : decode b_S_culprit 23 = .ok (.iaload, 1) := by decide +kernel
theorem d_S_culprit_24 : decode b_S_culprit 24 = .ok (.ireturn, 1) := by decide +kernel
abbrev b_S_rows : ByteArray := prog_1_method_8_code
def y_S_rows : MethodName := ⟨"SeatProofs", "rows", "()I"⟩
abbrev w_S_rows : List Cond := .code y_S_rows b_S_rows 1 (some .int) :: gT
theorem d_S_rows_0 : decode b_S_rows 0 = .ok (.aload_n 0, 1) := by decide +kernel
theorem d_S_rows_1 : decode b_S_rows 1 = .ok (.getfield 28, 3) := by decide +kernel
theorem d_S_rows_4 : decode b_S_rows 4 = .ok (.getfield 101, 3) := by decide +kernel
theorem d_S_rows_7 : decode b_S_rows 7 = .ok (.ireturn, 1) := by decide +kernel
abbrev b_S_row : ByteArray := prog_1_method_9_code
def y_S_row : MethodName := ⟨"SeatProofs", "row", "(II)I"⟩
abbrev w_S_row : List Cond := .code y_S_row b_S_row 3 (some .int) :: gT
theorem d_S_row_0 : decode b_S_row 0 = .ok (.aload_n 0, 1) := by decide +kernel
theorem d_S_row_1 : decode b_S_row 1 = .ok (.getfield 28, 3) := by decide +kernel
theorem d_S_row_4 : decode b_S_row 4 = .ok (.iload_n 1, 1) := by decide +kernel
theorem d_S_row_5 : decode b_S_row 5 = .ok (.invokevirtual 104, 3) := by decide +kernel
theorem d_S_row_8 : decode b_S_row 8 = .ok (.ifCond .eq 7, 3) := by decide +kernel
theorem d_S_row_11 : decode b_S_row 11 = .ok (.iload_n 2, 1) := by decide +kernel
theorem d_S_row_12 : decode b_S_row 12 = .ok (.ifCond .ge 5, 3) := by decide +kernel
theorem d_S_row_15 : decode b_S_row 15 = .ok (.iconst (-1), 1) := by decide +kernel
theorem d_S_row_16 : decode b_S_row 16 = .ok (.ireturn, 1) := by decide +kernel
theorem d_S_row_17 : decode b_S_row 17 = .ok (.iload_n 2, 1) := by decide +kernel
theorem d_S_row_18 : decode b_S_row 18 = .ok (.tableswitch 76 0 3 #[30, 40, 50, 63], 30) := by decide +kernel
theorem d_S_row_48 : decode b_S_row 48 = .ok (.aload_n 0, 1) := by decide +kernel
theorem d_S_row_49 : decode b_S_row 49 = .ok (.getfield 28, 3) := by decide +kernel
theorem d_S_row_52 : decode b_S_row 52 = .ok (.getfield 107, 3) := by decide +kernel
theorem d_S_row_55 : decode b_S_row 55 = .ok (.iload_n 1, 1) := by decide +kernel
theorem d_S_row_56 : decode b_S_row 56 = .ok (.iaload, 1) := by decide +kernel
theorem d_S_row_57 : decode b_S_row 57 = .ok (.ireturn, 1) := by decide +kernel
theorem d_S_row_58 : decode b_S_row 58 = .ok (.aload_n 0, 1) := by decide +kernel
theorem d_S_row_59 : decode b_S_row 59 = .ok (.getfield 28, 3) := by decide +kernel
theorem d_S_row_62 : decode b_S_row 62 = .ok (.getfield 110, 3) := by decide +kernel
theorem d_S_row_65 : decode b_S_row 65 = .ok (.iload_n 1, 1) := by decide +kernel
theorem d_S_row_66 : decode b_S_row 66 = .ok (.iaload, 1) := by decide +kernel
theorem d_S_row_67 : decode b_S_row 67 = .ok (.ireturn, 1) := by decide +kernel
theorem d_S_row_68 : decode b_S_row 68 = .ok (.aload_n 0, 1) := by decide +kernel
theorem d_S_row_69 : decode b_S_row 69 = .ok (.getfield 28, 3) := by decide +kernel
theorem d_S_row_72 : decode b_S_row 72 = .ok (.getfield 113, 3) := by decide +kernel
theorem d_S_row_75 : decode b_S_row 75 = .ok (.iload_n 1, 1) := by decide +kernel
theorem d_S_row_76 : decode b_S_row 76 = .ok (.laload, 1) := by decide +kernel
theorem d_S_row_77 : decode b_S_row 77 = .ok (.invokestatic 117, 3) := by decide +kernel
theorem d_S_row_80 : decode b_S_row 80 = .ok (.ireturn, 1) := by decide +kernel
theorem d_S_row_81 : decode b_S_row 81 = .ok (.aload_n 0, 1) := by decide +kernel
theorem d_S_row_82 : decode b_S_row 82 = .ok (.getfield 28, 3) := by decide +kernel
theorem d_S_row_85 : decode b_S_row 85 = .ok (.getfield 122, 3) := by decide +kernel
theorem d_S_row_88 : decode b_S_row 88 = .ok (.iload_n 1, 1) := by decide +kernel
theorem d_S_row_89 : decode b_S_row 89 = .ok (.laload, 1) := by decide +kernel
theorem d_S_row_90 : decode b_S_row 90 = .ok (.invokestatic 117, 3) := by decide +kernel
theorem d_S_row_93 : decode b_S_row 93 = .ok (.ireturn, 1) := by decide +kernel
theorem d_S_row_94 : decode b_S_row 94 = .ok (.aload_n 0, 1) := by decide +kernel
theorem d_S_row_95 : decode b_S_row 95 = .ok (.getfield 28, 3) := by decide +kernel
theorem d_S_row_98 : decode b_S_row 98 = .ok (.getfield 122, 3) := by decide +kernel
theorem d_S_row_101 : decode b_S_row 101 = .ok (.iload_n 1, 1) := by decide +kernel
theorem d_S_row_102 : decode b_S_row 102 = .ok (.laload, 1) := by decide +kernel
theorem d_S_row_103 : decode b_S_row 103 = .ok (.iload_n 2, 1) := by decide +kernel
theorem d_S_row_104 : decode b_S_row 104 = .ok (.iconst 4, 1) := by decide +kernel
theorem d_S_row_105 : decode b_S_row 105 = .ok (.isub, 1) := by decide +kernel
theorem d_S_row_106 : decode b_S_row 106 = .ok (.invokestatic 125, 3) := by decide +kernel
theorem d_S_row_109 : decode b_S_row 109 = .ok (.ireturn, 1) := by decide +kernel
abbrev b_S_check : ByteArray := prog_1_method_10_code
def y_S_check : MethodName := ⟨"SeatProofs", "check", "()I"⟩
abbrev w_S_check : List Cond := .code y_S_check b_S_check 3 (some .int) :: gT
theorem d_S_check_0 : decode b_S_check 0 = .ok (.iconst (-1), 1) := by decide +kernel
theorem d_S_check_1 : decode b_S_check 1 = .ok (.istore_n 1, 1) := by decide +kernel
theorem d_S_check_2 : decode b_S_check 2 = .ok (.iconst 0, 1) := by decide +kernel
theorem d_S_check_3 : decode b_S_check 3 = .ok (.istore_n 2, 1) := by decide +kernel
theorem d_S_check_4 : decode b_S_check 4 = .ok (.iload_n 2, 1) := by decide +kernel
theorem d_S_check_5 : decode b_S_check 5 = .ok (.aload_n 0, 1) := by decide +kernel
theorem d_S_check_6 : decode b_S_check 6 = .ok (.getfield 28, 3) := by decide +kernel
theorem d_S_check_9 : decode b_S_check 9 = .ok (.getfield 101, 3) := by decide +kernel
theorem d_S_check_12 : decode b_S_check 12 = .ok (.if_icmp .ge 59, 3) := by decide +kernel
theorem d_S_check_15 : decode b_S_check 15 = .ok (.aload_n 0, 1) := by decide +kernel
theorem d_S_check_16 : decode b_S_check 16 = .ok (.getfield 28, 3) := by decide +kernel
theorem d_S_check_19 : decode b_S_check 19 = .ok (.getfield 107, 3) := by decide +kernel
theorem d_S_check_22 : decode b_S_check 22 = .ok (.iload_n 2, 1) := by decide +kernel
theorem d_S_check_23 : decode b_S_check 23 = .ok (.iaload, 1) := by decide +kernel
theorem d_S_check_24 : decode b_S_check 24 = .ok (.iload_n 1, 1) := by decide +kernel
theorem d_S_check_25 : decode b_S_check 25 = .ok (.if_icmp .eq 28, 3) := by decide +kernel
theorem d_S_check_28 : decode b_S_check 28 = .ok (.aload_n 0, 1) := by decide +kernel
theorem d_S_check_29 : decode b_S_check 29 = .ok (.getfield 28, 3) := by decide +kernel
theorem d_S_check_32 : decode b_S_check 32 = .ok (.getfield 107, 3) := by decide +kernel
theorem d_S_check_35 : decode b_S_check 35 = .ok (.iload_n 2, 1) := by decide +kernel
theorem d_S_check_36 : decode b_S_check 36 = .ok (.iaload, 1) := by decide +kernel
theorem d_S_check_37 : decode b_S_check 37 = .ok (.istore_n 1, 1) := by decide +kernel
theorem d_S_check_38 : decode b_S_check 38 = .ok (.aload_n 0, 1) := by decide +kernel
theorem d_S_check_39 : decode b_S_check 39 = .ok (.getfield 21, 3) := by decide +kernel
theorem d_S_check_42 : decode b_S_check 42 = .ok (.iload_n 1, 1) := by decide +kernel
theorem d_S_check_43 : decode b_S_check 43 = .ok (.invokevirtual 80, 3) := by decide +kernel
theorem d_S_check_46 : decode b_S_check 46 = .ok (.aload_n 0, 1) := by decide +kernel
theorem d_S_check_47 : decode b_S_check 47 = .ok (.getfield 21, 3) := by decide +kernel
theorem d_S_check_50 : decode b_S_check 50 = .ok (.invokevirtual 84, 3) := by decide +kernel
theorem d_S_check_53 : decode b_S_check 53 = .ok (.aload_n 0, 1) := by decide +kernel
theorem d_S_check_54 : decode b_S_check 54 = .ok (.iload_n 2, 1) := by decide +kernel
theorem d_S_check_55 : decode b_S_check 55 = .ok (.invokevirtual 129, 3) := by decide +kernel
theorem d_S_check_58 : decode b_S_check 58 = .ok (.ifCond .ne 7, 3) := by decide +kernel
theorem d_S_check_61 : decode b_S_check 61 = .ok (.iconst 1, 1) := by decide +kernel
theorem d_S_check_62 : decode b_S_check 62 = .ok (.iload_n 2, 1) := by decide +kernel
theorem d_S_check_63 : decode b_S_check 63 = .ok (.iadd, 1) := by decide +kernel
theorem d_S_check_64 : decode b_S_check 64 = .ok (.ireturn, 1) := by decide +kernel
theorem d_S_check_65 : decode b_S_check 65 = .ok (.iinc 2 1, 3) := by decide +kernel
theorem d_S_check_68 : decode b_S_check 68 = .ok (.goto (-64), 3) := by decide +kernel
theorem d_S_check_71 : decode b_S_check 71 = .ok (.aload_n 0, 1) := by decide +kernel
theorem d_S_check_72 : decode b_S_check 72 = .ok (.getfield 28, 3) := by decide +kernel
theorem d_S_check_75 : decode b_S_check 75 = .ok (.getfield 101, 3) := by decide +kernel
theorem d_S_check_78 : decode b_S_check 78 = .ok (.aload_n 0, 1) := by decide +kernel
theorem d_S_check_79 : decode b_S_check 79 = .ok (.getfield 12, 3) := by decide +kernel
theorem d_S_check_82 : decode b_S_check 82 = .ok (.invokevirtual 132, 3) := by decide +kernel
theorem d_S_check_85 : decode b_S_check 85 = .ok (.if_icmp .ge 15, 3) := by decide +kernel
theorem d_S_check_88 : decode b_S_check 88 = .ok (.iconst 1, 1) := by decide +kernel
theorem d_S_check_89 : decode b_S_check 89 = .ok (.aload_n 0, 1) := by decide +kernel
theorem d_S_check_90 : decode b_S_check 90 = .ok (.getfield 28, 3) := by decide +kernel
theorem d_S_check_93 : decode b_S_check 93 = .ok (.getfield 101, 3) := by decide +kernel
theorem d_S_check_96 : decode b_S_check 96 = .ok (.iadd, 1) := by decide +kernel
theorem d_S_check_97 : decode b_S_check 97 = .ok (.goto 4, 3) := by decide +kernel
theorem d_S_check_100 : decode b_S_check 100 = .ok (.iconst 0, 1) := by decide +kernel
theorem d_S_check_101 : decode b_S_check 101 = .ok (.ireturn, 1) := by decide +kernel
abbrev b_S_set : ByteArray := prog_1_method_11_code
def y_S_set : MethodName := ⟨"SeatProofs", "set", "(IZ)Z"⟩
abbrev w_S_set : List Cond := .code y_S_set b_S_set 3 (some .boolean) :: gT
theorem d_S_set_0 : decode b_S_set 0 = .ok (.aload_n 0, 1) := by decide +kernel
theorem d_S_set_1 : decode b_S_set 1 = .ok (.getfield 12, 3) := by decide +kernel
theorem d_S_set_4 : decode b_S_set 4 = .ok (.iload_n 1, 1) := by decide +kernel
theorem d_S_set_5 : decode b_S_set 5 = .ok (.invokevirtual 136, 3) := by decide +kernel
theorem d_S_set_8 : decode b_S_set 8 = .ok (.ifCond .ne 13, 3) := by decide +kernel
theorem d_S_set_11 : decode b_S_set 11 = .ok (.new 139, 3) := by decide +kernel
theorem d_S_set_14 : decode b_S_set 14 = .ok (.dup, 1) := by decide +kernel
theorem d_S_set_15 : decode b_S_set 15 = .ok (.ldc 141, 2) := by decide +kernel
theorem d_S_set_17 : decode b_S_set 17 = .ok (.invokespecial 143, 3) := by decide +kernel
theorem d_S_set_20 : decode b_S_set 20 = .ok (.athrow, 1) := by decide +kernel
theorem d_S_set_21 : decode b_S_set 21 = .ok (.aload_n 0, 1) := by decide +kernel
theorem d_S_set_22 : decode b_S_set 22 = .ok (.getfield 12, 3) := by decide +kernel
theorem d_S_set_25 : decode b_S_set 25 = .ok (.iload_n 1, 1) := by decide +kernel
theorem d_S_set_26 : decode b_S_set 26 = .ok (.iload_n 2, 1) := by decide +kernel
theorem d_S_set_27 : decode b_S_set 27 = .ok (.invokevirtual 146, 3) := by decide +kernel
theorem d_S_set_30 : decode b_S_set 30 = .ok (.aload_n 0, 1) := by decide +kernel
theorem d_S_set_31 : decode b_S_set 31 = .ok (.aload_n 0, 1) := by decide +kernel
theorem d_S_set_32 : decode b_S_set 32 = .ok (.iload_n 1, 1) := by decide +kernel
theorem d_S_set_33 : decode b_S_set 33 = .ok (.invokevirtual 150, 3) := by decide +kernel
theorem d_S_set_36 : decode b_S_set 36 = .ok (.putfield 40, 3) := by decide +kernel
theorem d_S_set_39 : decode b_S_set 39 = .ok (.aload_n 0, 1) := by decide +kernel
theorem d_S_set_40 : decode b_S_set 40 = .ok (.invokevirtual 153, 3) := by decide +kernel
theorem d_S_set_43 : decode b_S_set 43 = .ok (.ifCond .eq 10, 3) := by decide +kernel
theorem d_S_set_46 : decode b_S_set 46 = .ok (.aload_n 0, 1) := by decide +kernel
theorem d_S_set_47 : decode b_S_set 47 = .ok (.getfield 28, 3) := by decide +kernel
theorem d_S_set_50 : decode b_S_set 50 = .ok (.invokevirtual 47, 3) := by decide +kernel
theorem d_S_set_53 : decode b_S_set 53 = .ok (.aload_n 0, 1) := by decide +kernel
theorem d_S_set_54 : decode b_S_set 54 = .ok (.getfield 28, 3) := by decide +kernel
theorem d_S_set_57 : decode b_S_set 57 = .ok (.getfield 101, 3) := by decide +kernel
theorem d_S_set_60 : decode b_S_set 60 = .ok (.ifCond .le 7, 3) := by decide +kernel
theorem d_S_set_63 : decode b_S_set 63 = .ok (.iconst 1, 1) := by decide +kernel
theorem d_S_set_64 : decode b_S_set 64 = .ok (.goto 4, 3) := by decide +kernel
theorem d_S_set_67 : decode b_S_set 67 = .ok (.iconst 0, 1) := by decide +kernel
theorem d_S_set_68 : decode b_S_set 68 = .ok (.ireturn, 1) := by decide +kernel
abbrev b_S_unsure : ByteArray := prog_1_method_12_code
def y_S_unsure : MethodName := ⟨"SeatProofs", "unsure", "(IZ)Z"⟩
abbrev w_S_unsure : List Cond := .code y_S_unsure b_S_unsure 3 (some .boolean) :: gT
theorem d_S_unsure_0 : decode b_S_unsure 0 = .ok (.aload_n 0, 1) := by decide +kernel
theorem d_S_unsure_1 : decode b_S_unsure 1 = .ok (.getfield 12, 3) := by decide +kernel
theorem d_S_unsure_4 : decode b_S_unsure 4 = .ok (.iload_n 1, 1) := by decide +kernel
theorem d_S_unsure_5 : decode b_S_unsure 5 = .ok (.invokevirtual 136, 3) := by decide +kernel
theorem d_S_unsure_8 : decode b_S_unsure 8 = .ok (.ifCond .ne 13, 3) := by decide +kernel
theorem d_S_unsure_11 : decode b_S_unsure 11 = .ok (.new 139, 3) := by decide +kernel
theorem d_S_unsure_14 : decode b_S_unsure 14 = .ok (.dup, 1) := by decide +kernel
theorem d_S_unsure_15 : decode b_S_unsure 15 = .ok (.ldc 141, 2) := by decide +kernel
theorem d_S_unsure_17 : decode b_S_unsure 17 = .ok (.invokespecial 143, 3) := by decide +kernel
theorem d_S_unsure_20 : decode b_S_unsure 20 = .ok (.athrow, 1) := by decide +kernel
theorem d_S_unsure_21 : decode b_S_unsure 21 = .ok (.aload_n 0, 1) := by decide +kernel
theorem d_S_unsure_22 : decode b_S_unsure 22 = .ok (.getfield 12, 3) := by decide +kernel
theorem d_S_unsure_25 : decode b_S_unsure 25 = .ok (.getfield 157, 3) := by decide +kernel
theorem d_S_unsure_28 : decode b_S_unsure 28 = .ok (.iload_n 1, 1) := by decide +kernel
theorem d_S_unsure_29 : decode b_S_unsure 29 = .ok (.invokestatic 161, 3) := by decide +kernel
theorem d_S_unsure_32 : decode b_S_unsure 32 = .ok (.iload_n 2, 1) := by decide +kernel
theorem d_S_unsure_33 : decode b_S_unsure 33 = .ok (.if_icmp .ne 5, 3) := by decide +kernel
theorem d_S_unsure_36 : decode b_S_unsure 36 = .ok (.iconst 0, 1) := by decide +kernel
theorem d_S_unsure_37 : decode b_S_unsure 37 = .ok (.ireturn, 1) := by decide +kernel
theorem d_S_unsure_38 : decode b_S_unsure 38 = .ok (.aload_n 0, 1) := by decide +kernel
theorem d_S_unsure_39 : decode b_S_unsure 39 = .ok (.getfield 12, 3) := by decide +kernel
theorem d_S_unsure_42 : decode b_S_unsure 42 = .ok (.iload_n 1, 1) := by decide +kernel
theorem d_S_unsure_43 : decode b_S_unsure 43 = .ok (.iload_n 2, 1) := by decide +kernel
theorem d_S_unsure_44 : decode b_S_unsure 44 = .ok (.invokevirtual 165, 3) := by decide +kernel
theorem d_S_unsure_47 : decode b_S_unsure 47 = .ok (.aload_n 0, 1) := by decide +kernel
theorem d_S_unsure_48 : decode b_S_unsure 48 = .ok (.getfield 28, 3) := by decide +kernel
theorem d_S_unsure_51 : decode b_S_unsure 51 = .ok (.invokevirtual 47, 3) := by decide +kernel
theorem d_S_unsure_54 : decode b_S_unsure 54 = .ok (.iconst 1, 1) := by decide +kernel
theorem d_S_unsure_55 : decode b_S_unsure 55 = .ok (.ireturn, 1) := by decide +kernel
abbrev b_S_tested : ByteArray := prog_1_method_13_code
def y_S_tested : MethodName := ⟨"SeatProofs", "tested", "()I"⟩
abbrev w_S_tested : List Cond := .code y_S_tested b_S_tested 1 (some .int) :: gT
theorem d_S_tested_0 : decode b_S_tested 0 = .ok (.aload_n 0, 1) := by decide +kernel
theorem d_S_tested_1 : decode b_S_tested 1 = .ok (.getfield 40, 3) := by decide +kernel
theorem d_S_tested_4 : decode b_S_tested 4 = .ok (.ireturn, 1) := by decide +kernel
abbrev b_S_drop : ByteArray := prog_1_method_14_code
def y_S_drop : MethodName := ⟨"SeatProofs", "drop", "(I)Z"⟩
abbrev w_S_drop : List Cond := .code y_S_drop b_S_drop 2 (some .boolean) :: gT
theorem d_S_drop_0 : decode b_S_drop 0 = .ok (.aload_n 0, 1) := by decide +kernel
theorem d_S_drop_1 : decode b_S_drop 1 = .ok (.getfield 28, 3) := by decide +kernel
theorem d_S_drop_4 : decode b_S_drop 4 = .ok (.iload_n 1, 1) := by decide +kernel
theorem d_S_drop_5 : decode b_S_drop 5 = .ok (.invokevirtual 104, 3) := by decide +kernel
theorem d_S_drop_8 : decode b_S_drop 8 = .ok (.ifCond .ne 5, 3) := by decide +kernel
theorem d_S_drop_11 : decode b_S_drop 11 = .ok (.iconst 0, 1) := by decide +kernel
theorem d_S_drop_12 : decode b_S_drop 12 = .ok (.ireturn, 1) := by decide +kernel
theorem d_S_drop_13 : decode b_S_drop 13 = .ok (.aload_n 0, 1) := by decide +kernel
theorem d_S_drop_14 : decode b_S_drop 14 = .ok (.getfield 28, 3) := by decide +kernel
theorem d_S_drop_17 : decode b_S_drop 17 = .ok (.iload_n 1, 1) := by decide +kernel
theorem d_S_drop_18 : decode b_S_drop 18 = .ok (.invokevirtual 168, 3) := by decide +kernel
theorem d_S_drop_21 : decode b_S_drop 21 = .ok (.iconst 1, 1) := by decide +kernel
theorem d_S_drop_22 : decode b_S_drop 22 = .ok (.ireturn, 1) := by decide +kernel
abbrev b_S_clear : ByteArray := prog_1_method_15_code
def y_S_clear : MethodName := ⟨"SeatProofs", "clear", "()V"⟩
abbrev w_S_clear : List Cond := .code y_S_clear b_S_clear 1 none :: gT
theorem d_S_clear_0 : decode b_S_clear 0 = .ok (.aload_n 0, 1) := by decide +kernel
theorem d_S_clear_1 : decode b_S_clear 1 = .ok (.getfield 12, 3) := by decide +kernel
theorem d_S_clear_4 : decode b_S_clear 4 = .ok (.invokevirtual 171, 3) := by decide +kernel
theorem d_S_clear_7 : decode b_S_clear 7 = .ok (.aload_n 0, 1) := by decide +kernel
theorem d_S_clear_8 : decode b_S_clear 8 = .ok (.getfield 28, 3) := by decide +kernel
theorem d_S_clear_11 : decode b_S_clear 11 = .ok (.invokevirtual 47, 3) := by decide +kernel
theorem d_S_clear_14 : decode b_S_clear 14 = .ok (.aload_n 0, 1) := by decide +kernel
theorem d_S_clear_15 : decode b_S_clear 15 = .ok (.iconst 0, 1) := by decide +kernel
theorem d_S_clear_16 : decode b_S_clear 16 = .ok (.putfield 36, 3) := by decide +kernel
theorem d_S_clear_19 : decode b_S_clear 19 = .ok (.aload_n 0, 1) := by decide +kernel
theorem d_S_clear_20 : decode b_S_clear 20 = .ok (.iconst 0, 1) := by decide +kernel
theorem d_S_clear_21 : decode b_S_clear 21 = .ok (.putfield 40, 3) := by decide +kernel
theorem d_S_clear_24 : decode b_S_clear 24 = .ok (.return_, 1) := by decide +kernel
abbrev b_S_keepCulprit : ByteArray := prog_1_method_16_code
def y_S_keepCulprit : MethodName := ⟨"SeatProofs", "keepCulprit", "(II)V"⟩
abbrev w_S_keepCulprit : List Cond := .code y_S_keepCulprit b_S_keepCulprit 4 none :: gT
theorem d_S_keepCulprit_0 : decode b_S_keepCulprit 0 = .ok (.aload_n 0, 1) := by decide +kernel
theorem d_S_keepCulprit_1 : decode b_S_keepCulprit 1 = .ok (.iconst 1, 1) := by decide +kernel
theorem d_S_keepCulprit_2 : decode b_S_keepCulprit 2 = .ok (.putfield 36, 3) := by decide +kernel
theorem d_S_keepCulprit_5 : decode b_S_keepCulprit 5 = .ok (.aload_n 0, 1) := by decide +kernel
theorem d_S_keepCulprit_6 : decode b_S_keepCulprit 6 = .ok (.getfield 32, 3) := by decide +kernel
theorem d_S_keepCulprit_9 : decode b_S_keepCulprit 9 = .ok (.iconst 0, 1) := by decide +kernel
theorem d_S_keepCulprit_10 : decode b_S_keepCulprit 10 = .ok (.iload_n 1, 1) := by decide +kernel
theorem d_S_keepCulprit_11 : decode b_S_keepCulprit 11 = .ok (.iastore, 1) := by decide +kernel
theorem d_S_keepCulprit_12 : decode b_S_keepCulprit 12 = .ok (.aload_n 0, 1) := by decide +kernel
theorem d_S_keepCulprit_13 : decode b_S_keepCulprit 13 = .ok (.getfield 32, 3) := by decide +kernel
theorem d_S_keepCulprit_16 : decode b_S_keepCulprit 16 = .ok (.iconst 1, 1) := by decide +kernel
theorem d_S_keepCulprit_17 : decode b_S_keepCulprit 17 = .ok (.iload_n 2, 1) := by decide +kernel
theorem d_S_keepCulprit_18 : decode b_S_keepCulprit 18 = .ok (.iastore, 1) := by decide +kernel
theorem d_S_keepCulprit_19 : decode b_S_keepCulprit 19 = .ok (.aload_n 0, 1) := by decide +kernel
theorem d_S_keepCulprit_20 : decode b_S_keepCulprit 20 = .ok (.getfield 21, 3) := by decide +kernel
theorem d_S_keepCulprit_23 : decode b_S_keepCulprit 23 = .ok (.iload_n 2, 1) := by decide +kernel
theorem d_S_keepCulprit_24 : decode b_S_keepCulprit 24 = .ok (.iconst 0, 1) := by decide +kernel
theorem d_S_keepCulprit_25 : decode b_S_keepCulprit 25 = .ok (.invokevirtual 172, 3) := by decide +kernel
theorem d_S_keepCulprit_28 : decode b_S_keepCulprit 28 = .ok (.istore_n 3, 1) := by decide +kernel
theorem d_S_keepCulprit_29 : decode b_S_keepCulprit 29 = .ok (.aload_n 0, 1) := by decide +kernel
theorem d_S_keepCulprit_30 : decode b_S_keepCulprit 30 = .ok (.getfield 32, 3) := by decide +kernel
theorem d_S_keepCulprit_33 : decode b_S_keepCulprit 33 = .ok (.iconst 2, 1) := by decide +kernel
theorem d_S_keepCulprit_34 : decode b_S_keepCulprit 34 = .ok (.iload_n 3, 1) := by decide +kernel
theorem d_S_keepCulprit_35 : decode b_S_keepCulprit 35 = .ok (.iastore, 1) := by decide +kernel
theorem d_S_keepCulprit_36 : decode b_S_keepCulprit 36 = .ok (.aload_n 0, 1) := by decide +kernel
theorem d_S_keepCulprit_37 : decode b_S_keepCulprit 37 = .ok (.getfield 32, 3) := by decide +kernel
theorem d_S_keepCulprit_40 : decode b_S_keepCulprit 40 = .ok (.iconst 3, 1) := by decide +kernel
theorem d_S_keepCulprit_41 : decode b_S_keepCulprit 41 = .ok (.aload_n 0, 1) := by decide +kernel
theorem d_S_keepCulprit_42 : decode b_S_keepCulprit 42 = .ok (.getfield 21, 3) := by decide +kernel
theorem d_S_keepCulprit_45 : decode b_S_keepCulprit 45 = .ok (.iload_n 2, 1) := by decide +kernel
theorem d_S_keepCulprit_46 : decode b_S_keepCulprit 46 = .ok (.iload_n 3, 1) := by decide +kernel
theorem d_S_keepCulprit_47 : decode b_S_keepCulprit 47 = .ok (.invokevirtual 172, 3) := by decide +kernel
theorem d_S_keepCulprit_50 : decode b_S_keepCulprit 50 = .ok (.iastore, 1) := by decide +kernel
theorem d_S_keepCulprit_51 : decode b_S_keepCulprit 51 = .ok (.return_, 1) := by decide +kernel
abbrev b_S_addRows : ByteArray := prog_1_method_17_code
def y_S_addRows : MethodName := ⟨"SeatProofs", "addRows", "(I)V"⟩
abbrev w_S_addRows : List Cond := .code y_S_addRows b_S_addRows 5 none :: gT
theorem d_S_addRows_0 : decode b_S_addRows 0 = .ok (.iconst 1, 1) := by decide +kernel
theorem d_S_addRows_1 : decode b_S_addRows 1 = .ok (.istore_n 2, 1) := by decide +kernel
theorem d_S_addRows_2 : decode b_S_addRows 2 = .ok (.iload_n 2, 1) := by decide +kernel
theorem d_S_addRows_3 : decode b_S_addRows 3 = .ok (.bipush 16, 2) := by decide +kernel
theorem d_S_addRows_5 : decode b_S_addRows 5 = .ok (.if_icmp .ge 43, 3) := by decide +kernel
theorem d_S_addRows_8 : decode b_S_addRows 8 = .ok (.aload_n 0, 1) := by decide +kernel
theorem d_S_addRows_9 : decode b_S_addRows 9 = .ok (.getfield 21, 3) := by decide +kernel
theorem d_S_addRows_12 : decode b_S_addRows 12 = .ok (.getfield 176, 3) := by decide +kernel
theorem d_S_addRows_15 : decode b_S_addRows 15 = .ok (.iload_n 2, 1) := by decide +kernel
theorem d_S_addRows_16 : decode b_S_addRows 16 = .ok (.laload, 1) := by decide +kernel
theorem d_S_addRows_17 : decode b_S_addRows 17 = .ok (.lstore_n 3, 1) := by decide +kernel
theorem d_S_addRows_18 : decode b_S_addRows 18 = .ok (.lload_n 3, 1) := by decide +kernel
theorem d_S_addRows_19 : decode b_S_addRows 19 = .ok (.lconst 0, 1) := by decide +kernel
theorem d_S_addRows_20 : decode b_S_addRows 20 = .ok (.lcmp, 1) := by decide +kernel
theorem d_S_addRows_21 : decode b_S_addRows 21 = .ok (.ifCond .eq 21, 3) := by decide +kernel
theorem d_S_addRows_24 : decode b_S_addRows 24 = .ok (.aload_n 0, 1) := by decide +kernel
theorem d_S_addRows_25 : decode b_S_addRows 25 = .ok (.getfield 28, 3) := by decide +kernel
theorem d_S_addRows_28 : decode b_S_addRows 28 = .ok (.iload_n 1, 1) := by decide +kernel
theorem d_S_addRows_29 : decode b_S_addRows 29 = .ok (.iload_n 2, 1) := by decide +kernel
theorem d_S_addRows_30 : decode b_S_addRows 30 = .ok (.lload_n 3, 1) := by decide +kernel
theorem d_S_addRows_31 : decode b_S_addRows 31 = .ok (.aload_n 0, 1) := by decide +kernel
theorem d_S_addRows_32 : decode b_S_addRows 32 = .ok (.getfield 21, 3) := by decide +kernel
theorem d_S_addRows_35 : decode b_S_addRows 35 = .ok (.lload_n 3, 1) := by decide +kernel
theorem d_S_addRows_36 : decode b_S_addRows 36 = .ok (.invokevirtual 179, 3) := by decide +kernel
theorem d_S_addRows_39 : decode b_S_addRows 39 = .ok (.invokevirtual 183, 3) := by decide +kernel
theorem d_S_addRows_42 : decode b_S_addRows 42 = .ok (.iinc 2 1, 3) := by decide +kernel
theorem d_S_addRows_45 : decode b_S_addRows 45 = .ok (.goto (-43), 3) := by decide +kernel
theorem d_S_addRows_48 : decode b_S_addRows 48 = .ok (.return_, 1) := by decide +kernel
abbrev b_S_isRight : ByteArray := prog_1_method_18_code
def y_S_isRight : MethodName := ⟨"SeatProofs", "isRight", "(I)Z"⟩
abbrev w_S_isRight : List Cond := .code y_S_isRight b_S_isRight 5 (some .boolean) :: gT
theorem d_S_isRight_0 : decode b_S_isRight 0 = .ok (.aload_n 0, 1) := by decide +kernel
theorem d_S_isRight_1 : decode b_S_isRight 1 = .ok (.getfield 28, 3) := by decide +kernel
theorem d_S_isRight_4 : decode b_S_isRight 4 = .ok (.getfield 110, 3) := by decide +kernel
theorem d_S_isRight_7 : decode b_S_isRight 7 = .ok (.iload_n 1, 1) := by decide +kernel
theorem d_S_isRight_8 : decode b_S_isRight 8 = .ok (.iaload, 1) := by decide +kernel
theorem d_S_isRight_9 : decode b_S_isRight 9 = .ok (.istore_n 2, 1) := by decide +kernel
theorem d_S_isRight_10 : decode b_S_isRight 10 = .ok (.aload_n 0, 1) := by decide +kernel
theorem d_S_isRight_11 : decode b_S_isRight 11 = .ok (.getfield 28, 3) := by decide +kernel
theorem d_S_isRight_14 : decode b_S_isRight 14 = .ok (.getfield 113, 3) := by decide +kernel
theorem d_S_isRight_17 : decode b_S_isRight 17 = .ok (.iload_n 1, 1) := by decide +kernel
theorem d_S_isRight_18 : decode b_S_isRight 18 = .ok (.laload, 1) := by decide +kernel
theorem d_S_isRight_19 : decode b_S_isRight 19 = .ok (.lstore_n 3, 1) := by decide +kernel
theorem d_S_isRight_20 : decode b_S_isRight 20 = .ok (.lload_n 3, 1) := by decide +kernel
theorem d_S_isRight_21 : decode b_S_isRight 21 = .ok (.aload_n 0, 1) := by decide +kernel
theorem d_S_isRight_22 : decode b_S_isRight 22 = .ok (.getfield 21, 3) := by decide +kernel
theorem d_S_isRight_25 : decode b_S_isRight 25 = .ok (.getfield 176, 3) := by decide +kernel
theorem d_S_isRight_28 : decode b_S_isRight 28 = .ok (.iload_n 2, 1) := by decide +kernel
theorem d_S_isRight_29 : decode b_S_isRight 29 = .ok (.laload, 1) := by decide +kernel
theorem d_S_isRight_30 : decode b_S_isRight 30 = .ok (.lcmp, 1) := by decide +kernel
theorem d_S_isRight_31 : decode b_S_isRight 31 = .ok (.ifCond .ne 40, 3) := by decide +kernel
theorem d_S_isRight_34 : decode b_S_isRight 34 = .ok (.aload_n 0, 1) := by decide +kernel
theorem d_S_isRight_35 : decode b_S_isRight 35 = .ok (.getfield 28, 3) := by decide +kernel
theorem d_S_isRight_38 : decode b_S_isRight 38 = .ok (.getfield 122, 3) := by decide +kernel
theorem d_S_isRight_41 : decode b_S_isRight 41 = .ok (.iload_n 1, 1) := by decide +kernel
theorem d_S_isRight_42 : decode b_S_isRight 42 = .ok (.laload, 1) := by decide +kernel
theorem d_S_isRight_43 : decode b_S_isRight 43 = .ok (.aload_n 0, 1) := by decide +kernel
theorem d_S_isRight_44 : decode b_S_isRight 44 = .ok (.getfield 21, 3) := by decide +kernel
theorem d_S_isRight_47 : decode b_S_isRight 47 = .ok (.lload_n 3, 1) := by decide +kernel
theorem d_S_isRight_48 : decode b_S_isRight 48 = .ok (.invokevirtual 179, 3) := by decide +kernel
theorem d_S_isRight_51 : decode b_S_isRight 51 = .ok (.lcmp, 1) := by decide +kernel
theorem d_S_isRight_52 : decode b_S_isRight 52 = .ok (.ifCond .ne 19, 3) := by decide +kernel
theorem d_S_isRight_55 : decode b_S_isRight 55 = .ok (.aload_n 0, 1) := by decide +kernel
theorem d_S_isRight_56 : decode b_S_isRight 56 = .ok (.getfield 21, 3) := by decide +kernel
theorem d_S_isRight_59 : decode b_S_isRight 59 = .ok (.iload_n 2, 1) := by decide +kernel
theorem d_S_isRight_60 : decode b_S_isRight 60 = .ok (.lload_n 3, 1) := by decide +kernel
theorem d_S_isRight_61 : decode b_S_isRight 61 = .ok (.invokevirtual 187, 3) := by decide +kernel
theorem d_S_isRight_64 : decode b_S_isRight 64 = .ok (.ifCond .ne 7, 3) := by decide +kernel
theorem d_S_isRight_67 : decode b_S_isRight 67 = .ok (.iconst 1, 1) := by decide +kernel
theorem d_S_isRight_68 : decode b_S_isRight 68 = .ok (.goto 4, 3) := by decide +kernel
theorem d_S_isRight_71 : decode b_S_isRight 71 = .ok (.iconst 0, 1) := by decide +kernel
theorem d_S_isRight_72 : decode b_S_isRight 72 = .ok (.ireturn, 1) := by decide +kernel
abbrev b_S_remakeTouched : ByteArray := prog_1_method_19_code
def y_S_remakeTouched : MethodName := ⟨"SeatProofs", "remakeTouched", "(I)I"⟩
abbrev w_S_remakeTouched : List Cond := .code y_S_remakeTouched b_S_remakeTouched 5 (some .int) :: gT
theorem d_S_remakeTouched_0 : decode b_S_remakeTouched 0 = .ok (.iconst (-1), 1) := by decide +kernel
theorem d_S_remakeTouched_1 : decode b_S_remakeTouched 1 = .ok (.istore_n 2, 1) := by decide +kernel
theorem d_S_remakeTouched_2 : decode b_S_remakeTouched 2 = .ok (.iconst 0, 1) := by decide +kernel
theorem d_S_remakeTouched_3 : decode b_S_remakeTouched 3 = .ok (.istore_n 3, 1) := by decide +kernel
theorem d_S_remakeTouched_4 : decode b_S_remakeTouched 4 = .ok (.iconst 0, 1) := by decide +kernel
theorem d_S_remakeTouched_5 : decode b_S_remakeTouched 5 = .ok (.istore 4, 2) := by decide +kernel
theorem d_S_remakeTouched_7 : decode b_S_remakeTouched 7 = .ok (.iload 4, 2) := by decide +kernel
theorem d_S_remakeTouched_9 : decode b_S_remakeTouched 9 = .ok (.aload_n 0, 1) := by decide +kernel
theorem d_S_remakeTouched_10 : decode b_S_remakeTouched 10 = .ok (.getfield 28, 3) := by decide +kernel
theorem d_S_remakeTouched_13 : decode b_S_remakeTouched 13 = .ok (.getfield 101, 3) := by decide +kernel
theorem d_S_remakeTouched_16 : decode b_S_remakeTouched 16 = .ok (.if_icmp .ge 109, 3) := by decide +kernel
theorem d_S_remakeTouched_19 : decode b_S_remakeTouched 19 = .ok (.aload_n 0, 1) := by decide +kernel
theorem d_S_remakeTouched_20 : decode b_S_remakeTouched 20 = .ok (.iload 4, 2) := by decide +kernel
theorem d_S_remakeTouched_22 : decode b_S_remakeTouched 22 = .ok (.iload_n 1, 1) := by decide +kernel
theorem d_S_remakeTouched_23 : decode b_S_remakeTouched 23 = .ok (.invokevirtual 191, 3) := by decide +kernel
theorem d_S_remakeTouched_26 : decode b_S_remakeTouched 26 = .ok (.ifCond .eq 93, 3) := by decide +kernel
theorem d_S_remakeTouched_29 : decode b_S_remakeTouched 29 = .ok (.aload_n 0, 1) := by decide +kernel
theorem d_S_remakeTouched_30 : decode b_S_remakeTouched 30 = .ok (.getfield 28, 3) := by decide +kernel
theorem d_S_remakeTouched_33 : decode b_S_remakeTouched 33 = .ok (.getfield 107, 3) := by decide +kernel
theorem d_S_remakeTouched_36 : decode b_S_remakeTouched 36 = .ok (.iload 4, 2) := by decide +kernel
theorem d_S_remakeTouched_38 : decode b_S_remakeTouched 38 = .ok (.iaload, 1) := by decide +kernel
theorem d_S_remakeTouched_39 : decode b_S_remakeTouched 39 = .ok (.iload_n 2, 1) := by decide +kernel
theorem d_S_remakeTouched_40 : decode b_S_remakeTouched 40 = .ok (.if_icmp .eq 22, 3) := by decide +kernel
theorem d_S_remakeTouched_43 : decode b_S_remakeTouched 43 = .ok (.aload_n 0, 1) := by decide +kernel
theorem d_S_remakeTouched_44 : decode b_S_remakeTouched 44 = .ok (.getfield 28, 3) := by decide +kernel
theorem d_S_remakeTouched_47 : decode b_S_remakeTouched 47 = .ok (.getfield 107, 3) := by decide +kernel
theorem d_S_remakeTouched_50 : decode b_S_remakeTouched 50 = .ok (.iload 4, 2) := by decide +kernel
theorem d_S_remakeTouched_52 : decode b_S_remakeTouched 52 = .ok (.iaload, 1) := by decide +kernel
theorem d_S_remakeTouched_53 : decode b_S_remakeTouched 53 = .ok (.istore_n 2, 1) := by decide +kernel
theorem d_S_remakeTouched_54 : decode b_S_remakeTouched 54 = .ok (.aload_n 0, 1) := by decide +kernel
theorem d_S_remakeTouched_55 : decode b_S_remakeTouched 55 = .ok (.getfield 21, 3) := by decide +kernel
theorem d_S_remakeTouched_58 : decode b_S_remakeTouched 58 = .ok (.iload_n 2, 1) := by decide +kernel
theorem d_S_remakeTouched_59 : decode b_S_remakeTouched 59 = .ok (.invokevirtual 80, 3) := by decide +kernel
theorem d_S_remakeTouched_62 : decode b_S_remakeTouched 62 = .ok (.aload_n 0, 1) := by decide +kernel
theorem d_S_remakeTouched_63 : decode b_S_remakeTouched 63 = .ok (.getfield 28, 3) := by decide +kernel
theorem d_S_remakeTouched_66 : decode b_S_remakeTouched 66 = .ok (.getfield 113, 3) := by decide +kernel
theorem d_S_remakeTouched_69 : decode b_S_remakeTouched 69 = .ok (.iload 4, 2) := by decide +kernel
theorem d_S_remakeTouched_71 : decode b_S_remakeTouched 71 = .ok (.aload_n 0, 1) := by decide +kernel
theorem d_S_remakeTouched_72 : decode b_S_remakeTouched 72 = .ok (.getfield 21, 3) := by decide +kernel
theorem d_S_remakeTouched_75 : decode b_S_remakeTouched 75 = .ok (.aload_n 0, 1) := by decide +kernel
theorem d_S_remakeTouched_76 : decode b_S_remakeTouched 76 = .ok (.getfield 28, 3) := by decide +kernel
theorem d_S_remakeTouched_79 : decode b_S_remakeTouched 79 = .ok (.getfield 110, 3) := by decide +kernel
theorem d_S_remakeTouched_82 : decode b_S_remakeTouched 82 = .ok (.iload 4, 2) := by decide +kernel
theorem d_S_remakeTouched_84 : decode b_S_remakeTouched 84 = .ok (.iaload, 1) := by decide +kernel
theorem d_S_remakeTouched_85 : decode b_S_remakeTouched 85 = .ok (.invokevirtual 194, 3) := by decide +kernel
theorem d_S_remakeTouched_88 : decode b_S_remakeTouched 88 = .ok (.lastore, 1) := by decide +kernel
theorem d_S_remakeTouched_89 : decode b_S_remakeTouched 89 = .ok (.aload_n 0, 1) := by decide +kernel
theorem d_S_remakeTouched_90 : decode b_S_remakeTouched 90 = .ok (.getfield 28, 3) := by decide +kernel
theorem d_S_remakeTouched_93 : decode b_S_remakeTouched 93 = .ok (.getfield 122, 3) := by decide +kernel
theorem d_S_remakeTouched_96 : decode b_S_remakeTouched 96 = .ok (.iload 4, 2) := by decide +kernel
theorem d_S_remakeTouched_98 : decode b_S_remakeTouched 98 = .ok (.aload_n 0, 1) := by decide +kernel
theorem d_S_remakeTouched_99 : decode b_S_remakeTouched 99 = .ok (.getfield 21, 3) := by decide +kernel
theorem d_S_remakeTouched_102 : decode b_S_remakeTouched 102 = .ok (.aload_n 0, 1) := by decide +kernel
theorem d_S_remakeTouched_103 : decode b_S_remakeTouched 103 = .ok (.getfield 28, 3) := by decide +kernel
theorem d_S_remakeTouched_106 : decode b_S_remakeTouched 106 = .ok (.getfield 113, 3) := by decide +kernel
theorem d_S_remakeTouched_109 : decode b_S_remakeTouched 109 = .ok (.iload 4, 2) := by decide +kernel
theorem d_S_remakeTouched_111 : decode b_S_remakeTouched 111 = .ok (.laload, 1) := by decide +kernel
theorem d_S_remakeTouched_112 : decode b_S_remakeTouched 112 = .ok (.invokevirtual 179, 3) := by decide +kernel
theorem d_S_remakeTouched_115 : decode b_S_remakeTouched 115 = .ok (.lastore, 1) := by decide +kernel
theorem d_S_remakeTouched_116 : decode b_S_remakeTouched 116 = .ok (.iinc 3 1, 3) := by decide +kernel
theorem d_S_remakeTouched_119 : decode b_S_remakeTouched 119 = .ok (.iinc 4 1, 3) := by decide +kernel
theorem d_S_remakeTouched_122 : decode b_S_remakeTouched 122 = .ok (.goto (-115), 3) := by decide +kernel
theorem d_S_remakeTouched_125 : decode b_S_remakeTouched 125 = .ok (.iload_n 3, 1) := by decide +kernel
theorem d_S_remakeTouched_126 : decode b_S_remakeTouched 126 = .ok (.ireturn, 1) := by decide +kernel
abbrev b_S_isTouched : ByteArray := prog_1_method_20_code
def y_S_isTouched : MethodName := ⟨"SeatProofs", "isTouched", "(II)Z"⟩
abbrev w_S_isTouched : List Cond := .code y_S_isTouched b_S_isTouched 3 (some .boolean) :: gT
theorem d_S_isTouched_0 : decode b_S_isTouched 0 = .ok (.aload_n 0, 1) := by decide +kernel
theorem d_S_isTouched_1 : decode b_S_isTouched 1 = .ok (.getfield 28, 3) := by decide +kernel
theorem d_S_isTouched_4 : decode b_S_isTouched 4 = .ok (.getfield 107, 3) := by decide +kernel
theorem d_S_isTouched_7 : decode b_S_isTouched 7 = .ok (.iload_n 1, 1) := by decide +kernel
theorem d_S_isTouched_8 : decode b_S_isTouched 8 = .ok (.iaload, 1) := by decide +kernel
theorem d_S_isTouched_9 : decode b_S_isTouched 9 = .ok (.iconst 1, 1) := by decide +kernel
theorem d_S_isTouched_10 : decode b_S_isTouched 10 = .ok (.iload_n 2, 1) := by decide +kernel
theorem d_S_isTouched_11 : decode b_S_isTouched 11 = .ok (.iadd, 1) := by decide +kernel
theorem d_S_isTouched_12 : decode b_S_isTouched 12 = .ok (.if_icmp .eq 51, 3) := by decide +kernel
theorem d_S_isTouched_15 : decode b_S_isTouched 15 = .ok (.aload_n 0, 1) := by decide +kernel
theorem d_S_isTouched_16 : decode b_S_isTouched 16 = .ok (.getfield 28, 3) := by decide +kernel
theorem d_S_isTouched_19 : decode b_S_isTouched 19 = .ok (.getfield 113, 3) := by decide +kernel
theorem d_S_isTouched_22 : decode b_S_isTouched 22 = .ok (.iload_n 1, 1) := by decide +kernel
theorem d_S_isTouched_23 : decode b_S_isTouched 23 = .ok (.laload, 1) := by decide +kernel
theorem d_S_isTouched_24 : decode b_S_isTouched 24 = .ok (.aload_n 0, 1) := by decide +kernel
theorem d_S_isTouched_25 : decode b_S_isTouched 25 = .ok (.getfield 12, 3) := by decide +kernel
theorem d_S_isTouched_28 : decode b_S_isTouched 28 = .ok (.getfield 198, 3) := by decide +kernel
theorem d_S_isTouched_31 : decode b_S_isTouched 31 = .ok (.iload_n 2, 1) := by decide +kernel
theorem d_S_isTouched_32 : decode b_S_isTouched 32 = .ok (.iaload, 1) := by decide +kernel
theorem d_S_isTouched_33 : decode b_S_isTouched 33 = .ok (.invokestatic 161, 3) := by decide +kernel
theorem d_S_isTouched_36 : decode b_S_isTouched 36 = .ok (.ifCond .ne 27, 3) := by decide +kernel
theorem d_S_isTouched_39 : decode b_S_isTouched 39 = .ok (.aload_n 0, 1) := by decide +kernel
theorem d_S_isTouched_40 : decode b_S_isTouched 40 = .ok (.getfield 28, 3) := by decide +kernel
theorem d_S_isTouched_43 : decode b_S_isTouched 43 = .ok (.getfield 113, 3) := by decide +kernel
theorem d_S_isTouched_46 : decode b_S_isTouched 46 = .ok (.iload_n 1, 1) := by decide +kernel
theorem d_S_isTouched_47 : decode b_S_isTouched 47 = .ok (.laload, 1) := by decide +kernel
theorem d_S_isTouched_48 : decode b_S_isTouched 48 = .ok (.aload_n 0, 1) := by decide +kernel
theorem d_S_isTouched_49 : decode b_S_isTouched 49 = .ok (.getfield 12, 3) := by decide +kernel
theorem d_S_isTouched_52 : decode b_S_isTouched 52 = .ok (.getfield 201, 3) := by decide +kernel
theorem d_S_isTouched_55 : decode b_S_isTouched 55 = .ok (.iload_n 2, 1) := by decide +kernel
theorem d_S_isTouched_56 : decode b_S_isTouched 56 = .ok (.iaload, 1) := by decide +kernel
theorem d_S_isTouched_57 : decode b_S_isTouched 57 = .ok (.invokestatic 161, 3) := by decide +kernel
theorem d_S_isTouched_60 : decode b_S_isTouched 60 = .ok (.ifCond .eq 7, 3) := by decide +kernel
theorem d_S_isTouched_63 : decode b_S_isTouched 63 = .ok (.iconst 1, 1) := by decide +kernel
theorem d_S_isTouched_64 : decode b_S_isTouched 64 = .ok (.goto 4, 3) := by decide +kernel
theorem d_S_isTouched_67 : decode b_S_isTouched 67 = .ok (.iconst 0, 1) := by decide +kernel
theorem d_S_isTouched_68 : decode b_S_isTouched 68 = .ok (.ireturn, 1) := by decide +kernel
abbrev b_S_rowsClash : ByteArray := prog_1_method_21_code
def y_S_rowsClash : MethodName := ⟨"SeatProofs", "rowsClash", "()Z"⟩
abbrev w_S_rowsClash : List Cond := .code y_S_rowsClash b_S_rowsClash 3 (some .boolean) :: gT
theorem d_S_rowsClash_0 : decode b_S_rowsClash 0 = .ok (.iconst 0, 1) := by decide +kernel
theorem d_S_rowsClash_1 : decode b_S_rowsClash 1 = .ok (.istore_n 1, 1) := by decide +kernel
theorem d_S_rowsClash_2 : decode b_S_rowsClash 2 = .ok (.iload_n 1, 1) := by decide +kernel
theorem d_S_rowsClash_3 : decode b_S_rowsClash 3 = .ok (.aload_n 0, 1) := by decide +kernel
theorem d_S_rowsClash_4 : decode b_S_rowsClash 4 = .ok (.getfield 28, 3) := by decide +kernel
theorem d_S_rowsClash_7 : decode b_S_rowsClash 7 = .ok (.getfield 101, 3) := by decide +kernel
theorem d_S_rowsClash_10 : decode b_S_rowsClash 10 = .ok (.if_icmp .ge 105, 3) := by decide +kernel
theorem d_S_rowsClash_13 : decode b_S_rowsClash 13 = .ok (.iload_n 1, 1) := by decide +kernel
theorem d_S_rowsClash_14 : decode b_S_rowsClash 14 = .ok (.iconst 1, 1) := by decide +kernel
theorem d_S_rowsClash_15 : decode b_S_rowsClash 15 = .ok (.iadd, 1) := by decide +kernel
theorem d_S_rowsClash_16 : decode b_S_rowsClash 16 = .ok (.istore_n 2, 1) := by decide +kernel
theorem d_S_rowsClash_17 : decode b_S_rowsClash 17 = .ok (.iload_n 2, 1) := by decide +kernel
theorem d_S_rowsClash_18 : decode b_S_rowsClash 18 = .ok (.aload_n 0, 1) := by decide +kernel
theorem d_S_rowsClash_19 : decode b_S_rowsClash 19 = .ok (.getfield 28, 3) := by decide +kernel
theorem d_S_rowsClash_22 : decode b_S_rowsClash 22 = .ok (.getfield 101, 3) := by decide +kernel
theorem d_S_rowsClash_25 : decode b_S_rowsClash 25 = .ok (.if_icmp .ge 84, 3) := by decide +kernel
theorem d_S_rowsClash_28 : decode b_S_rowsClash 28 = .ok (.aload_n 0, 1) := by decide +kernel
theorem d_S_rowsClash_29 : decode b_S_rowsClash 29 = .ok (.getfield 28, 3) := by decide +kernel
theorem d_S_rowsClash_32 : decode b_S_rowsClash 32 = .ok (.getfield 107, 3) := by decide +kernel
theorem d_S_rowsClash_35 : decode b_S_rowsClash 35 = .ok (.iload_n 2, 1) := by decide +kernel
theorem d_S_rowsClash_36 : decode b_S_rowsClash 36 = .ok (.iaload, 1) := by decide +kernel
theorem d_S_rowsClash_37 : decode b_S_rowsClash 37 = .ok (.aload_n 0, 1) := by decide +kernel
theorem d_S_rowsClash_38 : decode b_S_rowsClash 38 = .ok (.getfield 28, 3) := by decide +kernel
theorem d_S_rowsClash_41 : decode b_S_rowsClash 41 = .ok (.getfield 107, 3) := by decide +kernel
theorem d_S_rowsClash_44 : decode b_S_rowsClash 44 = .ok (.iload_n 1, 1) := by decide +kernel
theorem d_S_rowsClash_45 : decode b_S_rowsClash 45 = .ok (.iaload, 1) := by decide +kernel
theorem d_S_rowsClash_46 : decode b_S_rowsClash 46 = .ok (.if_icmp .ne 63, 3) := by decide +kernel
theorem d_S_rowsClash_49 : decode b_S_rowsClash 49 = .ok (.aload_n 0, 1) := by decide +kernel
theorem d_S_rowsClash_50 : decode b_S_rowsClash 50 = .ok (.getfield 28, 3) := by decide +kernel
theorem d_S_rowsClash_53 : decode b_S_rowsClash 53 = .ok (.getfield 113, 3) := by decide +kernel
theorem d_S_rowsClash_56 : decode b_S_rowsClash 56 = .ok (.iload_n 1, 1) := by decide +kernel
theorem d_S_rowsClash_57 : decode b_S_rowsClash 57 = .ok (.laload, 1) := by decide +kernel
theorem d_S_rowsClash_58 : decode b_S_rowsClash 58 = .ok (.aload_n 0, 1) := by decide +kernel
theorem d_S_rowsClash_59 : decode b_S_rowsClash 59 = .ok (.getfield 28, 3) := by decide +kernel
theorem d_S_rowsClash_62 : decode b_S_rowsClash 62 = .ok (.getfield 113, 3) := by decide +kernel
theorem d_S_rowsClash_65 : decode b_S_rowsClash 65 = .ok (.iload_n 2, 1) := by decide +kernel
theorem d_S_rowsClash_66 : decode b_S_rowsClash 66 = .ok (.laload, 1) := by decide +kernel
theorem d_S_rowsClash_67 : decode b_S_rowsClash 67 = .ok (.land, 1) := by decide +kernel
theorem d_S_rowsClash_68 : decode b_S_rowsClash 68 = .ok (.lconst 0, 1) := by decide +kernel
theorem d_S_rowsClash_69 : decode b_S_rowsClash 69 = .ok (.lcmp, 1) := by decide +kernel
theorem d_S_rowsClash_70 : decode b_S_rowsClash 70 = .ok (.ifCond .eq 33, 3) := by decide +kernel
theorem d_S_rowsClash_73 : decode b_S_rowsClash 73 = .ok (.aload_n 0, 1) := by decide +kernel
theorem d_S_rowsClash_74 : decode b_S_rowsClash 74 = .ok (.getfield 12, 3) := by decide +kernel
theorem d_S_rowsClash_77 : decode b_S_rowsClash 77 = .ok (.aload_n 0, 1) := by decide +kernel
theorem d_S_rowsClash_78 : decode b_S_rowsClash 78 = .ok (.getfield 28, 3) := by decide +kernel
theorem d_S_rowsClash_81 : decode b_S_rowsClash 81 = .ok (.getfield 110, 3) := by decide +kernel
theorem d_S_rowsClash_84 : decode b_S_rowsClash 84 = .ok (.iload_n 1, 1) := by decide +kernel
theorem d_S_rowsClash_85 : decode b_S_rowsClash 85 = .ok (.iaload, 1) := by decide +kernel
theorem d_S_rowsClash_86 : decode b_S_rowsClash 86 = .ok (.aload_n 0, 1) := by decide +kernel
theorem d_S_rowsClash_87 : decode b_S_rowsClash 87 = .ok (.getfield 28, 3) := by decide +kernel
theorem d_S_rowsClash_90 : decode b_S_rowsClash 90 = .ok (.getfield 110, 3) := by decide +kernel
theorem d_S_rowsClash_93 : decode b_S_rowsClash 93 = .ok (.iload_n 2, 1) := by decide +kernel
theorem d_S_rowsClash_94 : decode b_S_rowsClash 94 = .ok (.iaload, 1) := by decide +kernel
theorem d_S_rowsClash_95 : decode b_S_rowsClash 95 = .ok (.invokevirtual 72, 3) := by decide +kernel
theorem d_S_rowsClash_98 : decode b_S_rowsClash 98 = .ok (.ifCond .ne 5, 3) := by decide +kernel
theorem d_S_rowsClash_101 : decode b_S_rowsClash 101 = .ok (.iconst 1, 1) := by decide +kernel
theorem d_S_rowsClash_102 : decode b_S_rowsClash 102 = .ok (.ireturn, 1) := by decide +kernel
theorem d_S_rowsClash_103 : decode b_S_rowsClash 103 = .ok (.iinc 2 1, 3) := by decide +kernel
theorem d_S_rowsClash_106 : decode b_S_rowsClash 106 = .ok (.goto (-89), 3) := by decide +kernel
theorem d_S_rowsClash_109 : decode b_S_rowsClash 109 = .ok (.iinc 1 1, 3) := by decide +kernel
theorem d_S_rowsClash_112 : decode b_S_rowsClash 112 = .ok (.goto (-110), 3) := by decide +kernel
theorem d_S_rowsClash_115 : decode b_S_rowsClash 115 = .ok (.iconst 0, 1) := by decide +kernel
theorem d_S_rowsClash_116 : decode b_S_rowsClash 116 = .ok (.ireturn, 1) := by decide +kernel
abbrev b_S_isLiquid : ByteArray := prog_1_method_22_code
def y_S_isLiquid : MethodName := ⟨"SeatProofs", "isLiquid", "(I)Z"⟩
abbrev w_S_isLiquid : List Cond := .code y_S_isLiquid b_S_isLiquid 1 (some .boolean) :: gT
theorem d_S_isLiquid_0 : decode b_S_isLiquid 0 = .ok (.iload_n 0, 1) := by decide +kernel
theorem d_S_isLiquid_1 : decode b_S_isLiquid 1 = .ok (.iconst 1, 1) := by decide +kernel
theorem d_S_isLiquid_2 : decode b_S_isLiquid 2 = .ok (.if_icmp .lt 13, 3) := by decide +kernel
theorem d_S_isLiquid_5 : decode b_S_isLiquid 5 = .ok (.iload_n 0, 1) := by decide +kernel
theorem d_S_isLiquid_6 : decode b_S_isLiquid 6 = .ok (.bipush 16, 2) := by decide +kernel
theorem d_S_isLiquid_8 : decode b_S_isLiquid 8 = .ok (.if_icmp .ge 7, 3) := by decide +kernel
theorem d_S_isLiquid_11 : decode b_S_isLiquid 11 = .ok (.iconst 1, 1) := by decide +kernel
theorem d_S_isLiquid_12 : decode b_S_isLiquid 12 = .ok (.goto 4, 3) := by decide +kernel
theorem d_S_isLiquid_15 : decode b_S_isLiquid 15 = .ok (.iconst 0, 1) := by decide +kernel
theorem d_S_isLiquid_16 : decode b_S_isLiquid 16 = .ok (.ireturn, 1) := by decide +kernel
abbrev b_S_only : ByteArray := prog_1_method_23_code
def y_S_only : MethodName := ⟨"SeatProofs", "only", "(I)J"⟩
abbrev w_S_only : List Cond := .code y_S_only b_S_only 1 (some .long) :: gT
theorem d_S_only_0 : decode b_S_only 0 = .ok (.lconst 1, 1) := by decide +kernel
theorem d_S_only_1 : decode b_S_only 1 = .ok (.iload_n 0, 1) := by decide +kernel
theorem d_S_only_2 : decode b_S_only 2 = .ok (.lshl, 1) := by decide +kernel
theorem d_S_only_3 : decode b_S_only 3 = .ok (.lreturn, 1) := by decide +kernel
abbrev b_S_has : ByteArray := prog_1_method_24_code
def y_S_has : MethodName := ⟨"SeatProofs", "has", "(JI)Z"⟩
abbrev w_S_has : List Cond := .code y_S_has b_S_has 3 (some .boolean) :: gT
theorem d_S_has_0 : decode b_S_has 0 = .ok (.lload_n 0, 1) := by decide +kernel
theorem d_S_has_1 : decode b_S_has 1 = .ok (.iload_n 2, 1) := by decide +kernel
theorem d_S_has_2 : decode b_S_has 2 = .ok (.invokestatic 204, 3) := by decide +kernel
theorem d_S_has_5 : decode b_S_has 5 = .ok (.land, 1) := by decide +kernel
theorem d_S_has_6 : decode b_S_has 6 = .ok (.lconst 0, 1) := by decide +kernel
theorem d_S_has_7 : decode b_S_has 7 = .ok (.lcmp, 1) := by decide +kernel
theorem d_S_has_8 : decode b_S_has 8 = .ok (.ifCond .eq 7, 3) := by decide +kernel
theorem d_S_has_11 : decode b_S_has 11 = .ok (.iconst 1, 1) := by decide +kernel
theorem d_S_has_12 : decode b_S_has 12 = .ok (.goto 4, 3) := by decide +kernel
theorem d_S_has_15 : decode b_S_has 15 = .ok (.iconst 0, 1) := by decide +kernel
theorem d_S_has_16 : decode b_S_has 16 = .ok (.ireturn, 1) := by decide +kernel
abbrev b_S_lowest : ByteArray := prog_1_method_25_code
def y_S_lowest : MethodName := ⟨"SeatProofs", "lowest", "(J)I"⟩
abbrev w_S_lowest : List Cond := .code y_S_lowest b_S_lowest 2 (some .int) :: gT
theorem d_S_lowest_0 : decode b_S_lowest 0 = .ok (.lload_n 0, 1) := by decide +kernel
theorem d_S_lowest_1 : decode b_S_lowest 1 = .ok (.lload_n 0, 1) := by decide +kernel
theorem d_S_lowest_2 : decode b_S_lowest 2 = .ok (.lneg, 1) := by decide +kernel
theorem d_S_lowest_3 : decode b_S_lowest 3 = .ok (.land, 1) := by decide +kernel
theorem d_S_lowest_4 : decode b_S_lowest 4 = .ok (.lconst 1, 1) := by decide +kernel
theorem d_S_lowest_5 : decode b_S_lowest 5 = .ok (.lsub, 1) := by decide +kernel
theorem d_S_lowest_6 : decode b_S_lowest 6 = .ok (.invokestatic 117, 3) := by decide +kernel
theorem d_S_lowest_9 : decode b_S_lowest 9 = .ok (.ireturn, 1) := by decide +kernel
abbrev b_S_memberAt : ByteArray := prog_1_method_26_code
def y_S_memberAt : MethodName := ⟨"SeatProofs", "memberAt", "(JI)I"⟩
abbrev w_S_memberAt : List Cond := .code y_S_memberAt b_S_memberAt 6 (some .int) :: gT
theorem d_S_memberAt_0 : decode b_S_memberAt 0 = .ok (.iload_n 2, 1) := by decide +kernel
theorem d_S_memberAt_1 : decode b_S_memberAt 1 = .ok (.ifCond .lt 11, 3) := by decide +kernel
theorem d_S_memberAt_4 : decode b_S_memberAt 4 = .ok (.iload_n 2, 1) := by decide +kernel
theorem d_S_memberAt_5 : decode b_S_memberAt 5 = .ok (.lload_n 0, 1) := by decide +kernel
theorem d_S_memberAt_6 : decode b_S_memberAt 6 = .ok (.invokestatic 117, 3) := by decide +kernel
theorem d_S_memberAt_9 : decode b_S_memberAt 9 = .ok (.if_icmp .lt 5, 3) := by decide +kernel
theorem d_S_memberAt_12 : decode b_S_memberAt 12 = .ok (.iconst (-1), 1) := by decide +kernel
theorem d_S_memberAt_13 : decode b_S_memberAt 13 = .ok (.ireturn, 1) := by decide +kernel
theorem d_S_memberAt_14 : decode b_S_memberAt 14 = .ok (.lload_n 0, 1) := by decide +kernel
theorem d_S_memberAt_15 : decode b_S_memberAt 15 = .ok (.lstore_n 3, 1) := by decide +kernel
theorem d_S_memberAt_16 : decode b_S_memberAt 16 = .ok (.iconst 0, 1) := by decide +kernel
theorem d_S_memberAt_17 : decode b_S_memberAt 17 = .ok (.istore 5, 2) := by decide +kernel
theorem d_S_memberAt_19 : decode b_S_memberAt 19 = .ok (.iload 5, 2) := by decide +kernel
theorem d_S_memberAt_21 : decode b_S_memberAt 21 = .ok (.iload_n 2, 1) := by decide +kernel
theorem d_S_memberAt_22 : decode b_S_memberAt 22 = .ok (.if_icmp .ge 15, 3) := by decide +kernel
theorem d_S_memberAt_25 : decode b_S_memberAt 25 = .ok (.lload_n 3, 1) := by decide +kernel
theorem d_S_memberAt_26 : decode b_S_memberAt 26 = .ok (.lload_n 3, 1) := by decide +kernel
theorem d_S_memberAt_27 : decode b_S_memberAt 27 = .ok (.lconst 1, 1) := by decide +kernel
theorem d_S_memberAt_28 : decode b_S_memberAt 28 = .ok (.lsub, 1) := by decide +kernel
theorem d_S_memberAt_29 : decode b_S_memberAt 29 = .ok (.land, 1) := by decide +kernel
theorem d_S_memberAt_30 : decode b_S_memberAt 30 = .ok (.lstore_n 3, 1) := by decide +kernel
theorem d_S_memberAt_31 : decode b_S_memberAt 31 = .ok (.iinc 5 1, 3) := by decide +kernel
theorem d_S_memberAt_34 : decode b_S_memberAt 34 = .ok (.goto (-15), 3) := by decide +kernel
theorem d_S_memberAt_37 : decode b_S_memberAt 37 = .ok (.lload_n 3, 1) := by decide +kernel
theorem d_S_memberAt_38 : decode b_S_memberAt 38 = .ok (.invokestatic 91, 3) := by decide +kernel
theorem d_S_memberAt_41 : decode b_S_memberAt 41 = .ok (.ireturn, 1) := by decide +kernel
abbrev b_F_init : ByteArray := prog_2_method_1_code
def y_F_init : MethodName := ⟨"SeatProofs$Flow", "<init>", "(LSeatProofs$Plant;)V"⟩
abbrev w_F_init : List Cond := .code y_F_init b_F_init 2 none :: gT
theorem d_F_init_0 : decode b_F_init 0 = .ok (.aload_n 0, 1) := by decide +kernel
theorem d_F_init_1 : decode b_F_init 1 = .ok (.invokespecial 3, 3) := by decide +kernel
theorem d_F_init_4 : decode b_F_init 4 = .ok (.aload_n 0, 1) := by decide +kernel
theorem d_F_init_5 : decode b_F_init 5 = .ok (.bipush 64, 2) := by decide +kernel
theorem d_F_init_7 : decode b_F_init 7 = .ok (.newarray .long, 2) := by decide +kernel
theorem d_F_init_9 : decode b_F_init 9 = .ok (.putfield 9, 3) := by decide +kernel
theorem d_F_init_12 : decode b_F_init 12 = .ok (.aload_n 0, 1) := by decide +kernel
theorem d_F_init_13 : decode b_F_init 13 = .ok (.bipush 16, 2) := by decide +kernel
theorem d_F_init_15 : decode b_F_init 15 = .ok (.newarray .long, 2) := by decide +kernel
theorem d_F_init_17 : decode b_F_init 17 = .ok (.putfield 15, 3) := by decide +kernel
theorem d_F_init_20 : decode b_F_init 20 = .ok (.aload_n 0, 1) := by decide +kernel
theorem d_F_init_21 : decode b_F_init 21 = .ok (.aload_n 1, 1) := by decide +kernel
theorem d_F_init_22 : decode b_F_init 22 = .ok (.putfield 18, 3) := by decide +kernel
theorem d_F_init_25 : decode b_F_init 25 = .ok (.return_, 1) := by decide +kernel
abbrev b_F_lay : ByteArray := prog_2_method_2_code
def y_F_lay : MethodName := ⟨"SeatProofs$Flow", "lay", "(I)V"⟩
abbrev w_F_lay : List Cond := .code y_F_lay b_F_lay 3 none :: gT
theorem d_F_lay_0 : decode b_F_lay 0 = .ok (.aload_n 0, 1) := by decide +kernel
theorem d_F_lay_1 : decode b_F_lay 1 = .ok (.aload_n 0, 1) := by decide +kernel
theorem d_F_lay_2 : decode b_F_lay 2 = .ok (.getfield 18, 3) := by decide +kernel
theorem d_F_lay_5 : decode b_F_lay 5 = .ok (.iload_n 1, 1) := by decide +kernel
theorem d_F_lay_6 : decode b_F_lay 6 = .ok (.invokevirtual 22, 3) := by decide +kernel
theorem d_F_lay_9 : decode b_F_lay 9 = .ok (.putfield 28, 3) := by decide +kernel
theorem d_F_lay_12 : decode b_F_lay 12 = .ok (.iconst 0, 1) := by decide +kernel
theorem d_F_lay_13 : decode b_F_lay 13 = .ok (.istore_n 2, 1) := by decide +kernel
theorem d_F_lay_14 : decode b_F_lay 14 = .ok (.iload_n 2, 1) := by decide +kernel
theorem d_F_lay_15 : decode b_F_lay 15 = .ok (.aload_n 0, 1) := by decide +kernel
theorem d_F_lay_16 : decode b_F_lay 16 = .ok (.getfield 18, 3) := by decide +kernel
theorem d_F_lay_19 : decode b_F_lay 19 = .ok (.getfield 31, 3) := by decide +kernel
theorem d_F_lay_22 : decode b_F_lay 22 = .ok (.if_icmp .ge 16, 3) := by decide +kernel
theorem d_F_lay_25 : decode b_F_lay 25 = .ok (.aload_n 0, 1) := by decide +kernel
theorem d_F_lay_26 : decode b_F_lay 26 = .ok (.getfield 9, 3) := by decide +kernel
theorem d_F_lay_29 : decode b_F_lay 29 = .ok (.iload_n 2, 1) := by decide +kernel
theorem d_F_lay_30 : decode b_F_lay 30 = .ok (.lconst 0, 1) := by decide +kernel
theorem d_F_lay_31 : decode b_F_lay 31 = .ok (.lastore, 1) := by decide +kernel
theorem d_F_lay_32 : decode b_F_lay 32 = .ok (.iinc 2 1, 3) := by decide +kernel
theorem d_F_lay_35 : decode b_F_lay 35 = .ok (.goto (-21), 3) := by decide +kernel
theorem d_F_lay_38 : decode b_F_lay 38 = .ok (.iconst 0, 1) := by decide +kernel
theorem d_F_lay_39 : decode b_F_lay 39 = .ok (.istore_n 2, 1) := by decide +kernel
theorem d_F_lay_40 : decode b_F_lay 40 = .ok (.iload_n 2, 1) := by decide +kernel
theorem d_F_lay_41 : decode b_F_lay 41 = .ok (.aload_n 0, 1) := by decide +kernel
theorem d_F_lay_42 : decode b_F_lay 42 = .ok (.getfield 18, 3) := by decide +kernel
theorem d_F_lay_45 : decode b_F_lay 45 = .ok (.getfield 35, 3) := by decide +kernel
theorem d_F_lay_48 : decode b_F_lay 48 = .ok (.if_icmp .ge 66, 3) := by decide +kernel
theorem d_F_lay_51 : decode b_F_lay 51 = .ok (.aload_n 0, 1) := by decide +kernel
theorem d_F_lay_52 : decode b_F_lay 52 = .ok (.getfield 28, 3) := by decide +kernel
theorem d_F_lay_55 : decode b_F_lay 55 = .ok (.iload_n 2, 1) := by decide +kernel
theorem d_F_lay_56 : decode b_F_lay 56 = .ok (.invokestatic 38, 3) := by decide +kernel
theorem d_F_lay_59 : decode b_F_lay 59 = .ok (.ifCond .eq 49, 3) := by decide +kernel
theorem d_F_lay_62 : decode b_F_lay 62 = .ok (.aload_n 0, 1) := by decide +kernel
theorem d_F_lay_63 : decode b_F_lay 63 = .ok (.iload_n 2, 1) := by decide +kernel
theorem d_F_lay_64 : decode b_F_lay 64 = .ok (.aload_n 0, 1) := by decide +kernel
theorem d_F_lay_65 : decode b_F_lay 65 = .ok (.getfield 18, 3) := by decide +kernel
theorem d_F_lay_68 : decode b_F_lay 68 = .ok (.getfield 42, 3) := by decide +kernel
theorem d_F_lay_71 : decode b_F_lay 71 = .ok (.iload_n 2, 1) := by decide +kernel
theorem d_F_lay_72 : decode b_F_lay 72 = .ok (.iaload, 1) := by decide +kernel
theorem d_F_lay_73 : decode b_F_lay 73 = .ok (.aload_n 0, 1) := by decide +kernel
theorem d_F_lay_74 : decode b_F_lay 74 = .ok (.getfield 18, 3) := by decide +kernel
theorem d_F_lay_77 : decode b_F_lay 77 = .ok (.getfield 46, 3) := by decide +kernel
theorem d_F_lay_80 : decode b_F_lay 80 = .ok (.iload_n 2, 1) := by decide +kernel
theorem d_F_lay_81 : decode b_F_lay 81 = .ok (.iaload, 1) := by decide +kernel
theorem d_F_lay_82 : decode b_F_lay 82 = .ok (.invokevirtual 49, 3) := by decide +kernel
theorem d_F_lay_85 : decode b_F_lay 85 = .ok (.aload_n 0, 1) := by decide +kernel
theorem d_F_lay_86 : decode b_F_lay 86 = .ok (.iload_n 2, 1) := by decide +kernel
theorem d_F_lay_87 : decode b_F_lay 87 = .ok (.aload_n 0, 1) := by decide +kernel
theorem d_F_lay_88 : decode b_F_lay 88 = .ok (.getfield 18, 3) := by decide +kernel
theorem d_F_lay_91 : decode b_F_lay 91 = .ok (.getfield 46, 3) := by decide +kernel
theorem d_F_lay_94 : decode b_F_lay 94 = .ok (.iload_n 2, 1) := by decide +kernel
theorem d_F_lay_95 : decode b_F_lay 95 = .ok (.iaload, 1) := by decide +kernel
theorem d_F_lay_96 : decode b_F_lay 96 = .ok (.aload_n 0, 1) := by decide +kernel
theorem d_F_lay_97 : decode b_F_lay 97 = .ok (.getfield 18, 3) := by decide +kernel
theorem d_F_lay_100 : decode b_F_lay 100 = .ok (.getfield 42, 3) := by decide +kernel
theorem d_F_lay_103 : decode b_F_lay 103 = .ok (.iload_n 2, 1) := by decide +kernel
theorem d_F_lay_104 : decode b_F_lay 104 = .ok (.iaload, 1) := by decide +kernel
theorem d_F_lay_105 : decode b_F_lay 105 = .ok (.invokevirtual 49, 3) := by decide +kernel
theorem d_F_lay_108 : decode b_F_lay 108 = .ok (.iinc 2 1, 3) := by decide +kernel
theorem d_F_lay_111 : decode b_F_lay 111 = .ok (.goto (-71), 3) := by decide +kernel
theorem d_F_lay_114 : decode b_F_lay 114 = .ok (.return_, 1) := by decide +kernel
abbrev b_F_layWay : ByteArray := prog_2_method_3_code
def y_F_layWay : MethodName := ⟨"SeatProofs$Flow", "layWay", "(III)V"⟩
abbrev w_F_layWay : List Cond := .code y_F_layWay b_F_layWay 4 none :: gT
theorem d_F_layWay_0 : decode b_F_layWay 0 = .ok (.aload_n 0, 1) := by decide +kernel
theorem d_F_layWay_1 : decode b_F_layWay 1 = .ok (.getfield 18, 3) := by decide +kernel
theorem d_F_layWay_4 : decode b_F_layWay 4 = .ok (.getfield 53, 3) := by decide +kernel
theorem d_F_layWay_7 : decode b_F_layWay 7 = .ok (.iload_n 2, 1) := by decide +kernel
theorem d_F_layWay_8 : decode b_F_layWay 8 = .ok (.laload, 1) := by decide +kernel
theorem d_F_layWay_9 : decode b_F_layWay 9 = .ok (.iload_n 1, 1) := by decide +kernel
theorem d_F_layWay_10 : decode b_F_layWay 10 = .ok (.invokestatic 38, 3) := by decide +kernel
theorem d_F_layWay_13 : decode b_F_layWay 13 = .ok (.ifCond .eq 16, 3) := by decide +kernel
theorem d_F_layWay_16 : decode b_F_layWay 16 = .ok (.aload_n 0, 1) := by decide +kernel
theorem d_F_layWay_17 : decode b_F_layWay 17 = .ok (.getfield 9, 3) := by decide +kernel
theorem d_F_layWay_20 : decode b_F_layWay 20 = .ok (.iload_n 2, 1) := by decide +kernel
theorem d_F_layWay_21 : decode b_F_layWay 21 = .ok (.dup2, 1) := by decide +kernel
theorem d_F_layWay_22 : decode b_F_layWay 22 = .ok (.laload, 1) := by decide +kernel
theorem d_F_layWay_23 : decode b_F_layWay 23 = .ok (.iload_n 3, 1) := by decide +kernel
theorem d_F_layWay_24 : decode b_F_layWay 24 = .ok (.invokestatic 56, 3) := by decide +kernel
theorem d_F_layWay_27 : decode b_F_layWay 27 = .ok (.lor, 1) := by decide +kernel
theorem d_F_layWay_28 : decode b_F_layWay 28 = .ok (.lastore, 1) := by decide +kernel
theorem d_F_layWay_29 : decode b_F_layWay 29 = .ok (.return_, 1) := by decide +kernel
abbrev b_F_floodAll : ByteArray := prog_2_method_4_code
def y_F_floodAll : MethodName := ⟨"SeatProofs$Flow", "floodAll", "()V"⟩
abbrev w_F_floodAll : List Cond := .code y_F_floodAll b_F_floodAll 2 none :: gT
theorem d_F_floodAll_0 : decode b_F_floodAll 0 = .ok (.iconst 1, 1) := by decide +kernel
theorem d_F_floodAll_1 : decode b_F_floodAll 1 = .ok (.istore_n 1, 1) := by decide +kernel
theorem d_F_floodAll_2 : decode b_F_floodAll 2 = .ok (.iload_n 1, 1) := by decide +kernel
theorem d_F_floodAll_3 : decode b_F_floodAll 3 = .ok (.bipush 16, 2) := by decide +kernel
theorem d_F_floodAll_5 : decode b_F_floodAll 5 = .ok (.if_icmp .ge 20, 3) := by decide +kernel
theorem d_F_floodAll_8 : decode b_F_floodAll 8 = .ok (.aload_n 0, 1) := by decide +kernel
theorem d_F_floodAll_9 : decode b_F_floodAll 9 = .ok (.getfield 15, 3) := by decide +kernel
theorem d_F_floodAll_12 : decode b_F_floodAll 12 = .ok (.iload_n 1, 1) := by decide +kernel
theorem d_F_floodAll_13 : decode b_F_floodAll 13 = .ok (.aload_n 0, 1) := by decide +kernel
theorem d_F_floodAll_14 : decode b_F_floodAll 14 = .ok (.iload_n 1, 1) := by decide +kernel
theorem d_F_floodAll_15 : decode b_F_floodAll 15 = .ok (.invokevirtual 59, 3) := by decide +kernel
theorem d_F_floodAll_18 : decode b_F_floodAll 18 = .ok (.lastore, 1) := by decide +kernel
theorem d_F_floodAll_19 : decode b_F_floodAll 19 = .ok (.iinc 1 1, 3) := by decide +kernel
theorem d_F_floodAll_22 : decode b_F_floodAll 22 = .ok (.goto (-20), 3) := by decide +kernel
theorem d_F_floodAll_25 : decode b_F_floodAll 25 = .ok (.return_, 1) := by decide +kernel
abbrev b_F_floodOf : ByteArray := prog_2_method_5_code
def y_F_floodOf : MethodName := ⟨"SeatProofs$Flow", "floodOf", "(I)J"⟩
abbrev w_F_floodOf : List Cond := .code y_F_floodOf b_F_floodOf 9 (some .long) :: gT
theorem d_F_floodOf_0 : decode b_F_floodOf 0 = .ok (.aload_n 0, 1) := by decide +kernel
theorem d_F_floodOf_1 : decode b_F_floodOf 1 = .ok (.getfield 18, 3) := by decide +kernel
theorem d_F_floodOf_4 : decode b_F_floodOf 4 = .ok (.getfield 62, 3) := by decide +kernel
theorem d_F_floodOf_7 : decode b_F_floodOf 7 = .ok (.iload_n 1, 1) := by decide +kernel
theorem d_F_floodOf_8 : decode b_F_floodOf 8 = .ok (.laload, 1) := by decide +kernel
theorem d_F_floodOf_9 : decode b_F_floodOf 9 = .ok (.lstore_n 2, 1) := by decide +kernel
theorem d_F_floodOf_10 : decode b_F_floodOf 10 = .ok (.lload_n 2, 1) := by decide +kernel
theorem d_F_floodOf_11 : decode b_F_floodOf 11 = .ok (.lstore 4, 2) := by decide +kernel
theorem d_F_floodOf_13 : decode b_F_floodOf 13 = .ok (.iconst 0, 1) := by decide +kernel
theorem d_F_floodOf_14 : decode b_F_floodOf 14 = .ok (.istore 6, 2) := by decide +kernel
theorem d_F_floodOf_16 : decode b_F_floodOf 16 = .ok (.iload 6, 2) := by decide +kernel
theorem d_F_floodOf_18 : decode b_F_floodOf 18 = .ok (.bipush 64, 2) := by decide +kernel
theorem d_F_floodOf_20 : decode b_F_floodOf 20 = .ok (.if_icmp .ge 51, 3) := by decide +kernel
theorem d_F_floodOf_23 : decode b_F_floodOf 23 = .ok (.lload 4, 2) := by decide +kernel
theorem d_F_floodOf_25 : decode b_F_floodOf 25 = .ok (.lconst 0, 1) := by decide +kernel
theorem d_F_floodOf_26 : decode b_F_floodOf 26 = .ok (.lcmp, 1) := by decide +kernel
theorem d_F_floodOf_27 : decode b_F_floodOf 27 = .ok (.ifCond .eq 44, 3) := by decide +kernel
theorem d_F_floodOf_30 : decode b_F_floodOf 30 = .ok (.aload_n 0, 1) := by decide +kernel
theorem d_F_floodOf_31 : decode b_F_floodOf 31 = .ok (.getfield 9, 3) := by decide +kernel
theorem d_F_floodOf_34 : decode b_F_floodOf 34 = .ok (.lload 4, 2) := by decide +kernel
theorem d_F_floodOf_36 : decode b_F_floodOf 36 = .ok (.invokestatic 65, 3) := by decide +kernel
theorem d_F_floodOf_39 : decode b_F_floodOf 39 = .ok (.laload, 1) := by decide +kernel
theorem d_F_floodOf_40 : decode b_F_floodOf 40 = .ok (.lload_n 2, 1) := by decide +kernel
theorem d_F_floodOf_41 : decode b_F_floodOf 41 = .ok (.ldc2_w 69, 3) := by decide +kernel
theorem d_F_floodOf_44 : decode b_F_floodOf 44 = .ok (.lxor, 1) := by decide +kernel
theorem d_F_floodOf_45 : decode b_F_floodOf 45 = .ok (.land, 1) := by decide +kernel
theorem d_F_floodOf_46 : decode b_F_floodOf 46 = .ok (.lstore 7, 2) := by decide +kernel
theorem d_F_floodOf_48 : decode b_F_floodOf 48 = .ok (.lload_n 2, 1) := by decide +kernel
theorem d_F_floodOf_49 : decode b_F_floodOf 49 = .ok (.lload 7, 2) := by decide +kernel
theorem d_F_floodOf_51 : decode b_F_floodOf 51 = .ok (.lor, 1) := by decide +kernel
theorem d_F_floodOf_52 : decode b_F_floodOf 52 = .ok (.lstore_n 2, 1) := by decide +kernel
theorem d_F_floodOf_53 : decode b_F_floodOf 53 = .ok (.lload 4, 2) := by decide +kernel
theorem d_F_floodOf_55 : decode b_F_floodOf 55 = .ok (.lload 4, 2) := by decide +kernel
theorem d_F_floodOf_57 : decode b_F_floodOf 57 = .ok (.lconst 1, 1) := by decide +kernel
theorem d_F_floodOf_58 : decode b_F_floodOf 58 = .ok (.lsub, 1) := by decide +kernel
theorem d_F_floodOf_59 : decode b_F_floodOf 59 = .ok (.land, 1) := by decide +kernel
theorem d_F_floodOf_60 : decode b_F_floodOf 60 = .ok (.lload 7, 2) := by decide +kernel
theorem d_F_floodOf_62 : decode b_F_floodOf 62 = .ok (.lor, 1) := by decide +kernel
theorem d_F_floodOf_63 : decode b_F_floodOf 63 = .ok (.lstore 4, 2) := by decide +kernel
theorem d_F_floodOf_65 : decode b_F_floodOf 65 = .ok (.iinc 6 1, 3) := by decide +kernel
theorem d_F_floodOf_68 : decode b_F_floodOf 68 = .ok (.goto (-52), 3) := by decide +kernel
theorem d_F_floodOf_71 : decode b_F_floodOf 71 = .ok (.lload_n 2, 1) := by decide +kernel
theorem d_F_floodOf_72 : decode b_F_floodOf 72 = .ok (.lreturn, 1) := by decide +kernel
abbrev b_F_cutOf : ByteArray := prog_2_method_6_code
def y_F_cutOf : MethodName := ⟨"SeatProofs$Flow", "cutOf", "(J)J"⟩
abbrev w_F_cutOf : List Cond := .code y_F_cutOf b_F_cutOf 11 (some .long) :: gT
theorem d_F_cutOf_0 : decode b_F_cutOf 0 = .ok (.lconst 0, 1) := by decide +kernel
theorem d_F_cutOf_1 : decode b_F_cutOf 1 = .ok (.lstore_n 3, 1) := by decide +kernel
theorem d_F_cutOf_2 : decode b_F_cutOf 2 = .ok (.lconst 0, 1) := by decide +kernel
theorem d_F_cutOf_3 : decode b_F_cutOf 3 = .ok (.lstore 5, 2) := by decide +kernel
theorem d_F_cutOf_5 : decode b_F_cutOf 5 = .ok (.lload_n 1, 1) := by decide +kernel
theorem d_F_cutOf_6 : decode b_F_cutOf 6 = .ok (.lstore 7, 2) := by decide +kernel
theorem d_F_cutOf_8 : decode b_F_cutOf 8 = .ok (.iconst 0, 1) := by decide +kernel
theorem d_F_cutOf_9 : decode b_F_cutOf 9 = .ok (.istore 9, 2) := by decide +kernel
theorem d_F_cutOf_11 : decode b_F_cutOf 11 = .ok (.iload 9, 2) := by decide +kernel
theorem d_F_cutOf_13 : decode b_F_cutOf 13 = .ok (.bipush 64, 2) := by decide +kernel
theorem d_F_cutOf_15 : decode b_F_cutOf 15 = .ok (.if_icmp .ge 60, 3) := by decide +kernel
theorem d_F_cutOf_18 : decode b_F_cutOf 18 = .ok (.lload 7, 2) := by decide +kernel
theorem d_F_cutOf_20 : decode b_F_cutOf 20 = .ok (.lconst 0, 1) := by decide +kernel
theorem d_F_cutOf_21 : decode b_F_cutOf 21 = .ok (.lcmp, 1) := by decide +kernel
theorem d_F_cutOf_22 : decode b_F_cutOf 22 = .ok (.ifCond .eq 53, 3) := by decide +kernel
theorem d_F_cutOf_25 : decode b_F_cutOf 25 = .ok (.lload 7, 2) := by decide +kernel
theorem d_F_cutOf_27 : decode b_F_cutOf 27 = .ok (.invokestatic 65, 3) := by decide +kernel
theorem d_F_cutOf_30 : decode b_F_cutOf 30 = .ok (.istore 10, 2) := by decide +kernel
theorem d_F_cutOf_32 : decode b_F_cutOf 32 = .ok (.lload_n 3, 1) := by decide +kernel
theorem d_F_cutOf_33 : decode b_F_cutOf 33 = .ok (.aload_n 0, 1) := by decide +kernel
theorem d_F_cutOf_34 : decode b_F_cutOf 34 = .ok (.getfield 18, 3) := by decide +kernel
theorem d_F_cutOf_37 : decode b_F_cutOf 37 = .ok (.getfield 71, 3) := by decide +kernel
theorem d_F_cutOf_40 : decode b_F_cutOf 40 = .ok (.iload 10, 2) := by decide +kernel
theorem d_F_cutOf_42 : decode b_F_cutOf 42 = .ok (.laload, 1) := by decide +kernel
theorem d_F_cutOf_43 : decode b_F_cutOf 43 = .ok (.lxor, 1) := by decide +kernel
theorem d_F_cutOf_44 : decode b_F_cutOf 44 = .ok (.lstore_n 3, 1) := by decide +kernel
theorem d_F_cutOf_45 : decode b_F_cutOf 45 = .ok (.lload 5, 2) := by decide +kernel
theorem d_F_cutOf_47 : decode b_F_cutOf 47 = .ok (.aload_n 0, 1) := by decide +kernel
theorem d_F_cutOf_48 : decode b_F_cutOf 48 = .ok (.getfield 18, 3) := by decide +kernel
theorem d_F_cutOf_51 : decode b_F_cutOf 51 = .ok (.getfield 53, 3) := by decide +kernel
theorem d_F_cutOf_54 : decode b_F_cutOf 54 = .ok (.iload 10, 2) := by decide +kernel
theorem d_F_cutOf_56 : decode b_F_cutOf 56 = .ok (.laload, 1) := by decide +kernel
theorem d_F_cutOf_57 : decode b_F_cutOf 57 = .ok (.lor, 1) := by decide +kernel
theorem d_F_cutOf_58 : decode b_F_cutOf 58 = .ok (.lstore 5, 2) := by decide +kernel
theorem d_F_cutOf_60 : decode b_F_cutOf 60 = .ok (.lload 7, 2) := by decide +kernel
theorem d_F_cutOf_62 : decode b_F_cutOf 62 = .ok (.lload 7, 2) := by decide +kernel
theorem d_F_cutOf_64 : decode b_F_cutOf 64 = .ok (.lconst 1, 1) := by decide +kernel
theorem d_F_cutOf_65 : decode b_F_cutOf 65 = .ok (.lsub, 1) := by decide +kernel
theorem d_F_cutOf_66 : decode b_F_cutOf 66 = .ok (.land, 1) := by decide +kernel
theorem d_F_cutOf_67 : decode b_F_cutOf 67 = .ok (.lstore 7, 2) := by decide +kernel
theorem d_F_cutOf_69 : decode b_F_cutOf 69 = .ok (.iinc 9 1, 3) := by decide +kernel
theorem d_F_cutOf_72 : decode b_F_cutOf 72 = .ok (.goto (-61), 3) := by decide +kernel
theorem d_F_cutOf_75 : decode b_F_cutOf 75 = .ok (.lload_n 3, 1) := by decide +kernel
theorem d_F_cutOf_76 : decode b_F_cutOf 76 = .ok (.lload 5, 2) := by decide +kernel
theorem d_F_cutOf_78 : decode b_F_cutOf 78 = .ok (.land, 1) := by decide +kernel
theorem d_F_cutOf_79 : decode b_F_cutOf 79 = .ok (.aload_n 0, 1) := by decide +kernel
theorem d_F_cutOf_80 : decode b_F_cutOf 80 = .ok (.getfield 28, 3) := by decide +kernel
theorem d_F_cutOf_83 : decode b_F_cutOf 83 = .ok (.ldc2_w 69, 3) := by decide +kernel
theorem d_F_cutOf_86 : decode b_F_cutOf 86 = .ok (.lxor, 1) := by decide +kernel
theorem d_F_cutOf_87 : decode b_F_cutOf 87 = .ok (.land, 1) := by decide +kernel
theorem d_F_cutOf_88 : decode b_F_cutOf 88 = .ok (.lreturn, 1) := by decide +kernel
abbrev b_F_clashes : ByteArray := prog_2_method_7_code
def y_F_clashes : MethodName := ⟨"SeatProofs$Flow", "clashes", "(IJ)Z"⟩
abbrev w_F_clashes : List Cond := .code y_F_clashes b_F_clashes 5 (some .boolean) :: gT
theorem d_F_clashes_0 : decode b_F_clashes 0 = .ok (.iconst 1, 1) := by decide +kernel
theorem d_F_clashes_1 : decode b_F_clashes 1 = .ok (.istore 4, 2) := by decide +kernel
theorem d_F_clashes_3 : decode b_F_clashes 3 = .ok (.iload 4, 2) := by decide +kernel
theorem d_F_clashes_5 : decode b_F_clashes 5 = .ok (.bipush 16, 2) := by decide +kernel
theorem d_F_clashes_7 : decode b_F_clashes 7 = .ok (.if_icmp .ge 44, 3) := by decide +kernel
theorem d_F_clashes_10 : decode b_F_clashes 10 = .ok (.iload 4, 2) := by decide +kernel
theorem d_F_clashes_12 : decode b_F_clashes 12 = .ok (.iload_n 1, 1) := by decide +kernel
theorem d_F_clashes_13 : decode b_F_clashes 13 = .ok (.if_icmp .eq 32, 3) := by decide +kernel
theorem d_F_clashes_16 : decode b_F_clashes 16 = .ok (.aload_n 0, 1) := by decide +kernel
theorem d_F_clashes_17 : decode b_F_clashes 17 = .ok (.getfield 15, 3) := by decide +kernel
theorem d_F_clashes_20 : decode b_F_clashes 20 = .ok (.iload 4, 2) := by decide +kernel
theorem d_F_clashes_22 : decode b_F_clashes 22 = .ok (.laload, 1) := by decide +kernel
theorem d_F_clashes_23 : decode b_F_clashes 23 = .ok (.lload_n 2, 1) := by decide +kernel
theorem d_F_clashes_24 : decode b_F_clashes 24 = .ok (.land, 1) := by decide +kernel
theorem d_F_clashes_25 : decode b_F_clashes 25 = .ok (.lconst 0, 1) := by decide +kernel
theorem d_F_clashes_26 : decode b_F_clashes 26 = .ok (.lcmp, 1) := by decide +kernel
theorem d_F_clashes_27 : decode b_F_clashes 27 = .ok (.ifCond .eq 18, 3) := by decide +kernel
theorem d_F_clashes_30 : decode b_F_clashes 30 = .ok (.aload_n 0, 1) := by decide +kernel
theorem d_F_clashes_31 : decode b_F_clashes 31 = .ok (.getfield 18, 3) := by decide +kernel
theorem d_F_clashes_34 : decode b_F_clashes 34 = .ok (.iload_n 1, 1) := by decide +kernel
theorem d_F_clashes_35 : decode b_F_clashes 35 = .ok (.iload 4, 2) := by decide +kernel
theorem d_F_clashes_37 : decode b_F_clashes 37 = .ok (.invokevirtual 74, 3) := by decide +kernel
theorem d_F_clashes_40 : decode b_F_clashes 40 = .ok (.ifCond .ne 5, 3) := by decide +kernel
theorem d_F_clashes_43 : decode b_F_clashes 43 = .ok (.iconst 1, 1) := by decide +kernel
theorem d_F_clashes_44 : decode b_F_clashes 44 = .ok (.ireturn, 1) := by decide +kernel
theorem d_F_clashes_45 : decode b_F_clashes 45 = .ok (.iinc 4 1, 3) := by decide +kernel
theorem d_F_clashes_48 : decode b_F_clashes 48 = .ok (.goto (-45), 3) := by decide +kernel
theorem d_F_clashes_51 : decode b_F_clashes 51 = .ok (.iconst 0, 1) := by decide +kernel
theorem d_F_clashes_52 : decode b_F_clashes 52 = .ok (.ireturn, 1) := by decide +kernel
abbrev b_F_meetings : ByteArray := prog_2_method_8_code
def y_F_meetings : MethodName := ⟨"SeatProofs$Flow", "meetings", "()J"⟩
abbrev w_F_meetings : List Cond := .code y_F_meetings b_F_meetings 5 (some .long) :: gT
theorem d_F_meetings_0 : decode b_F_meetings 0 = .ok (.lconst 0, 1) := by decide +kernel
theorem d_F_meetings_1 : decode b_F_meetings 1 = .ok (.lstore_n 1, 1) := by decide +kernel
theorem d_F_meetings_2 : decode b_F_meetings 2 = .ok (.iconst 1, 1) := by decide +kernel
theorem d_F_meetings_3 : decode b_F_meetings 3 = .ok (.istore_n 3, 1) := by decide +kernel
theorem d_F_meetings_4 : decode b_F_meetings 4 = .ok (.iload_n 3, 1) := by decide +kernel
theorem d_F_meetings_5 : decode b_F_meetings 5 = .ok (.bipush 16, 2) := by decide +kernel
theorem d_F_meetings_7 : decode b_F_meetings 7 = .ok (.if_icmp .ge 57, 3) := by decide +kernel
theorem d_F_meetings_10 : decode b_F_meetings 10 = .ok (.iload_n 3, 1) := by decide +kernel
theorem d_F_meetings_11 : decode b_F_meetings 11 = .ok (.iconst 1, 1) := by decide +kernel
theorem d_F_meetings_12 : decode b_F_meetings 12 = .ok (.iadd, 1) := by decide +kernel
theorem d_F_meetings_13 : decode b_F_meetings 13 = .ok (.istore 4, 2) := by decide +kernel
theorem d_F_meetings_15 : decode b_F_meetings 15 = .ok (.iload 4, 2) := by decide +kernel
theorem d_F_meetings_17 : decode b_F_meetings 17 = .ok (.bipush 16, 2) := by decide +kernel
theorem d_F_meetings_19 : decode b_F_meetings 19 = .ok (.if_icmp .ge 39, 3) := by decide +kernel
theorem d_F_meetings_22 : decode b_F_meetings 22 = .ok (.aload_n 0, 1) := by decide +kernel
theorem d_F_meetings_23 : decode b_F_meetings 23 = .ok (.getfield 18, 3) := by decide +kernel
theorem d_F_meetings_26 : decode b_F_meetings 26 = .ok (.iload_n 3, 1) := by decide +kernel
theorem d_F_meetings_27 : decode b_F_meetings 27 = .ok (.iload 4, 2) := by decide +kernel
theorem d_F_meetings_29 : decode b_F_meetings 29 = .ok (.invokevirtual 74, 3) := by decide +kernel
theorem d_F_meetings_32 : decode b_F_meetings 32 = .ok (.ifCond .ne 20, 3) := by decide +kernel
theorem d_F_meetings_35 : decode b_F_meetings 35 = .ok (.lload_n 1, 1) := by decide +kernel
theorem d_F_meetings_36 : decode b_F_meetings 36 = .ok (.aload_n 0, 1) := by decide +kernel
theorem d_F_meetings_37 : decode b_F_meetings 37 = .ok (.getfield 15, 3) := by decide +kernel
theorem d_F_meetings_40 : decode b_F_meetings 40 = .ok (.iload_n 3, 1) := by decide +kernel
theorem d_F_meetings_41 : decode b_F_meetings 41 = .ok (.laload, 1) := by decide +kernel
theorem d_F_meetings_42 : decode b_F_meetings 42 = .ok (.aload_n 0, 1) := by decide +kernel
theorem d_F_meetings_43 : decode b_F_meetings 43 = .ok (.getfield 15, 3) := by decide +kernel
theorem d_F_meetings_46 : decode b_F_meetings 46 = .ok (.iload 4, 2) := by decide +kernel
theorem d_F_meetings_48 : decode b_F_meetings 48 = .ok (.laload, 1) := by decide +kernel
theorem d_F_meetings_49 : decode b_F_meetings 49 = .ok (.land, 1) := by decide +kernel
theorem d_F_meetings_50 : decode b_F_meetings 50 = .ok (.lor, 1) := by decide +kernel
theorem d_F_meetings_51 : decode b_F_meetings 51 = .ok (.lstore_n 1, 1) := by decide +kernel
theorem d_F_meetings_52 : decode b_F_meetings 52 = .ok (.iinc 4 1, 3) := by decide +kernel
theorem d_F_meetings_55 : decode b_F_meetings 55 = .ok (.goto (-40), 3) := by decide +kernel
theorem d_F_meetings_58 : decode b_F_meetings 58 = .ok (.iinc 3 1, 3) := by decide +kernel
theorem d_F_meetings_61 : decode b_F_meetings 61 = .ok (.goto (-57), 3) := by decide +kernel
theorem d_F_meetings_64 : decode b_F_meetings 64 = .ok (.lload_n 1, 1) := by decide +kernel
theorem d_F_meetings_65 : decode b_F_meetings 65 = .ok (.lreturn, 1) := by decide +kernel
abbrev b_F_leastClashing : ByteArray := prog_2_method_9_code
def y_F_leastClashing : MethodName := ⟨"SeatProofs$Flow", "leastClashing", "(II)I"⟩
abbrev w_F_leastClashing : List Cond := .code y_F_leastClashing b_F_leastClashing 5 (some .int) :: gT
theorem d_F_leastClashing_0 : decode b_F_leastClashing 0 = .ok (.iconst 1, 1) := by decide +kernel
theorem d_F_leastClashing_1 : decode b_F_leastClashing 1 = .ok (.istore_n 3, 1) := by decide +kernel
theorem d_F_leastClashing_2 : decode b_F_leastClashing 2 = .ok (.iload_n 3, 1) := by decide +kernel
theorem d_F_leastClashing_3 : decode b_F_leastClashing 3 = .ok (.bipush 16, 2) := by decide +kernel
theorem d_F_leastClashing_5 : decode b_F_leastClashing 5 = .ok (.if_icmp .ge 69, 3) := by decide +kernel
theorem d_F_leastClashing_8 : decode b_F_leastClashing 8 = .ok (.aload_n 0, 1) := by decide +kernel
theorem d_F_leastClashing_9 : decode b_F_leastClashing 9 = .ok (.getfield 15, 3) := by decide +kernel
theorem d_F_leastClashing_12 : decode b_F_leastClashing 12 = .ok (.iload_n 3, 1) := by decide +kernel
theorem d_F_leastClashing_13 : decode b_F_leastClashing 13 = .ok (.laload, 1) := by decide +kernel
theorem d_F_leastClashing_14 : decode b_F_leastClashing 14 = .ok (.iload_n 1, 1) := by decide +kernel
theorem d_F_leastClashing_15 : decode b_F_leastClashing 15 = .ok (.invokestatic 38, 3) := by decide +kernel
theorem d_F_leastClashing_18 : decode b_F_leastClashing 18 = .ok (.ifCond .eq 50, 3) := by decide +kernel
theorem d_F_leastClashing_21 : decode b_F_leastClashing 21 = .ok (.iload_n 3, 1) := by decide +kernel
theorem d_F_leastClashing_22 : decode b_F_leastClashing 22 = .ok (.iload_n 2, 1) := by decide +kernel
theorem d_F_leastClashing_23 : decode b_F_leastClashing 23 = .ok (.if_icmp .eq 45, 3) := by decide +kernel
theorem d_F_leastClashing_26 : decode b_F_leastClashing 26 = .ok (.iload_n 2, 1) := by decide +kernel
theorem d_F_leastClashing_27 : decode b_F_leastClashing 27 = .ok (.ifCond .ne 15, 3) := by decide +kernel
theorem d_F_leastClashing_30 : decode b_F_leastClashing 30 = .ok (.aload_n 0, 1) := by decide +kernel
theorem d_F_leastClashing_31 : decode b_F_leastClashing 31 = .ok (.iload_n 3, 1) := by decide +kernel
theorem d_F_leastClashing_32 : decode b_F_leastClashing 32 = .ok (.iload_n 1, 1) := by decide +kernel
theorem d_F_leastClashing_33 : decode b_F_leastClashing 33 = .ok (.invokestatic 56, 3) := by decide +kernel
theorem d_F_leastClashing_36 : decode b_F_leastClashing 36 = .ok (.invokevirtual 78, 3) := by decide +kernel
theorem d_F_leastClashing_39 : decode b_F_leastClashing 39 = .ok (.goto 20, 3) := by decide +kernel
theorem d_F_leastClashing_42 : decode b_F_leastClashing 42 = .ok (.aload_n 0, 1) := by decide +kernel
theorem d_F_leastClashing_43 : decode b_F_leastClashing 43 = .ok (.getfield 18, 3) := by decide +kernel
theorem d_F_leastClashing_46 : decode b_F_leastClashing 46 = .ok (.iload_n 3, 1) := by decide +kernel
theorem d_F_leastClashing_47 : decode b_F_leastClashing 47 = .ok (.iload_n 2, 1) := by decide +kernel
theorem d_F_leastClashing_48 : decode b_F_leastClashing 48 = .ok (.invokevirtual 74, 3) := by decide +kernel
theorem d_F_leastClashing_51 : decode b_F_leastClashing 51 = .ok (.ifCond .ne 7, 3) := by decide +kernel
theorem d_F_leastClashing_54 : decode b_F_leastClashing 54 = .ok (.iconst 1, 1) := by decide +kernel
theorem d_F_leastClashing_55 : decode b_F_leastClashing 55 = .ok (.goto 4, 3) := by decide +kernel
theorem d_F_leastClashing_58 : decode b_F_leastClashing 58 = .ok (.iconst 0, 1) := by decide +kernel
theorem d_F_leastClashing_59 : decode b_F_leastClashing 59 = .ok (.istore 4, 2) := by decide +kernel
theorem d_F_leastClashing_61 : decode b_F_leastClashing 61 = .ok (.iload 4, 2) := by decide +kernel
theorem d_F_leastClashing_63 : decode b_F_leastClashing 63 = .ok (.ifCond .eq 5, 3) := by decide +kernel
theorem d_F_leastClashing_66 : decode b_F_leastClashing 66 = .ok (.iload_n 3, 1) := by decide +kernel
theorem d_F_leastClashing_67 : decode b_F_leastClashing 67 = .ok (.ireturn, 1) := by decide +kernel
theorem d_F_leastClashing_68 : decode b_F_leastClashing 68 = .ok (.iinc 3 1, 3) := by decide +kernel
theorem d_F_leastClashing_71 : decode b_F_leastClashing 71 = .ok (.goto (-69), 3) := by decide +kernel
theorem d_F_leastClashing_74 : decode b_F_leastClashing 74 = .ok (.iconst (-1), 1) := by decide +kernel
theorem d_F_leastClashing_75 : decode b_F_leastClashing 75 = .ok (.ireturn, 1) := by decide +kernel
abbrev b_P_init : ByteArray := prog_3_method_1_code
def y_P_init : MethodName := ⟨"SeatProofs$Plant", "<init>", "()V"⟩
abbrev w_P_init : List Cond := .code y_P_init b_P_init 1 none :: gT
theorem d_P_init_0 : decode b_P_init 0 = .ok (.aload_n 0, 1) := by decide +kernel
theorem d_P_init_1 : decode b_P_init 1 = .ok (.invokespecial 3, 3) := by decide +kernel
theorem d_P_init_4 : decode b_P_init 4 = .ok (.aload_n 0, 1) := by decide +kernel
theorem d_P_init_5 : decode b_P_init 5 = .ok (.bipush 64, 2) := by decide +kernel
theorem d_P_init_7 : decode b_P_init 7 = .ok (.newarray .long, 2) := by decide +kernel
theorem d_P_init_9 : decode b_P_init 9 = .ok (.putfield 9, 3) := by decide +kernel
theorem d_P_init_12 : decode b_P_init 12 = .ok (.aload_n 0, 1) := by decide +kernel
theorem d_P_init_13 : decode b_P_init 13 = .ok (.bipush 16, 2) := by decide +kernel
theorem d_P_init_15 : decode b_P_init 15 = .ok (.newarray .long, 2) := by decide +kernel
theorem d_P_init_17 : decode b_P_init 17 = .ok (.putfield 15, 3) := by decide +kernel
theorem d_P_init_20 : decode b_P_init 20 = .ok (.aload_n 0, 1) := by decide +kernel
theorem d_P_init_21 : decode b_P_init 21 = .ok (.bipush 16, 2) := by decide +kernel
theorem d_P_init_23 : decode b_P_init 23 = .ok (.newarray .int, 2) := by decide +kernel
theorem d_P_init_25 : decode b_P_init 25 = .ok (.putfield 18, 3) := by decide +kernel
theorem d_P_init_28 : decode b_P_init 28 = .ok (.aload_n 0, 1) := by decide +kernel
theorem d_P_init_29 : decode b_P_init 29 = .ok (.bipush 64, 2) := by decide +kernel
theorem d_P_init_31 : decode b_P_init 31 = .ok (.newarray .int, 2) := by decide +kernel
theorem d_P_init_33 : decode b_P_init 33 = .ok (.putfield 22, 3) := by decide +kernel
theorem d_P_init_36 : decode b_P_init 36 = .ok (.aload_n 0, 1) := by decide +kernel
theorem d_P_init_37 : decode b_P_init 37 = .ok (.bipush 64, 2) := by decide +kernel
theorem d_P_init_39 : decode b_P_init 39 = .ok (.newarray .int, 2) := by decide +kernel
theorem d_P_init_41 : decode b_P_init 41 = .ok (.putfield 25, 3) := by decide +kernel
theorem d_P_init_44 : decode b_P_init 44 = .ok (.aload_n 0, 1) := by decide +kernel
theorem d_P_init_45 : decode b_P_init 45 = .ok (.bipush 64, 2) := by decide +kernel
theorem d_P_init_47 : decode b_P_init 47 = .ok (.newarray .long, 2) := by decide +kernel
theorem d_P_init_49 : decode b_P_init 49 = .ok (.putfield 28, 3) := by decide +kernel
theorem d_P_init_52 : decode b_P_init 52 = .ok (.aload_n 0, 1) := by decide +kernel
theorem d_P_init_53 : decode b_P_init 53 = .ok (.bipush 64, 2) := by decide +kernel
theorem d_P_init_55 : decode b_P_init 55 = .ok (.newarray .long, 2) := by decide +kernel
theorem d_P_init_57 : decode b_P_init 57 = .ok (.putfield 31, 3) := by decide +kernel
theorem d_P_init_60 : decode b_P_init 60 = .ok (.return_, 1) := by decide +kernel
abbrev b_P_empty : ByteArray := prog_3_method_2_code
def y_P_empty : MethodName := ⟨"SeatProofs$Plant", "empty", "()V"⟩
abbrev w_P_empty : List Cond := .code y_P_empty b_P_empty 2 none :: gT
theorem d_P_empty_0 : decode b_P_empty 0 = .ok (.aload_n 0, 1) := by decide +kernel
theorem d_P_empty_1 : decode b_P_empty 1 = .ok (.iconst 0, 1) := by decide +kernel
theorem d_P_empty_2 : decode b_P_empty 2 = .ok (.putfield 34, 3) := by decide +kernel
theorem d_P_empty_5 : decode b_P_empty 5 = .ok (.aload_n 0, 1) := by decide +kernel
theorem d_P_empty_6 : decode b_P_empty 6 = .ok (.iconst 0, 1) := by decide +kernel
theorem d_P_empty_7 : decode b_P_empty 7 = .ok (.putfield 38, 3) := by decide +kernel
theorem d_P_empty_10 : decode b_P_empty 10 = .ok (.aload_n 0, 1) := by decide +kernel
theorem d_P_empty_11 : decode b_P_empty 11 = .ok (.lconst 0, 1) := by decide +kernel
theorem d_P_empty_12 : decode b_P_empty 12 = .ok (.putfield 41, 3) := by decide +kernel
theorem d_P_empty_15 : decode b_P_empty 15 = .ok (.aload_n 0, 1) := by decide +kernel
theorem d_P_empty_16 : decode b_P_empty 16 = .ok (.lconst 0, 1) := by decide +kernel
theorem d_P_empty_17 : decode b_P_empty 17 = .ok (.putfield 45, 3) := by decide +kernel
theorem d_P_empty_20 : decode b_P_empty 20 = .ok (.aload_n 0, 1) := by decide +kernel
theorem d_P_empty_21 : decode b_P_empty 21 = .ok (.lconst 0, 1) := by decide +kernel
theorem d_P_empty_22 : decode b_P_empty 22 = .ok (.putfield 48, 3) := by decide +kernel
theorem d_P_empty_25 : decode b_P_empty 25 = .ok (.iconst 0, 1) := by decide +kernel
theorem d_P_empty_26 : decode b_P_empty 26 = .ok (.istore_n 1, 1) := by decide +kernel
theorem d_P_empty_27 : decode b_P_empty 27 = .ok (.iload_n 1, 1) := by decide +kernel
theorem d_P_empty_28 : decode b_P_empty 28 = .ok (.bipush 16, 2) := by decide +kernel
theorem d_P_empty_30 : decode b_P_empty 30 = .ok (.if_icmp .ge 23, 3) := by decide +kernel
theorem d_P_empty_33 : decode b_P_empty 33 = .ok (.aload_n 0, 1) := by decide +kernel
theorem d_P_empty_34 : decode b_P_empty 34 = .ok (.getfield 15, 3) := by decide +kernel
theorem d_P_empty_37 : decode b_P_empty 37 = .ok (.iload_n 1, 1) := by decide +kernel
theorem d_P_empty_38 : decode b_P_empty 38 = .ok (.lconst 0, 1) := by decide +kernel
theorem d_P_empty_39 : decode b_P_empty 39 = .ok (.lastore, 1) := by decide +kernel
theorem d_P_empty_40 : decode b_P_empty 40 = .ok (.aload_n 0, 1) := by decide +kernel
theorem d_P_empty_41 : decode b_P_empty 41 = .ok (.getfield 18, 3) := by decide +kernel
theorem d_P_empty_44 : decode b_P_empty 44 = .ok (.iload_n 1, 1) := by decide +kernel
theorem d_P_empty_45 : decode b_P_empty 45 = .ok (.iconst 0, 1) := by decide +kernel
theorem d_P_empty_46 : decode b_P_empty 46 = .ok (.iastore, 1) := by decide +kernel
theorem d_P_empty_47 : decode b_P_empty 47 = .ok (.iinc 1 1, 3) := by decide +kernel
theorem d_P_empty_50 : decode b_P_empty 50 = .ok (.goto (-23), 3) := by decide +kernel
theorem d_P_empty_53 : decode b_P_empty 53 = .ok (.return_, 1) := by decide +kernel
abbrev b_P_hasSpace : ByteArray := prog_3_method_3_code
def y_P_hasSpace : MethodName := ⟨"SeatProofs$Plant", "hasSpace", "(I)Z"⟩
abbrev w_P_hasSpace : List Cond := .code y_P_hasSpace b_P_hasSpace 2 (some .boolean) :: gT
theorem d_P_hasSpace_0 : decode b_P_hasSpace 0 = .ok (.iload_n 1, 1) := by decide +kernel
theorem d_P_hasSpace_1 : decode b_P_hasSpace 1 = .ok (.ifCond .lt 15, 3) := by decide +kernel
theorem d_P_hasSpace_4 : decode b_P_hasSpace 4 = .ok (.iload_n 1, 1) := by decide +kernel
theorem d_P_hasSpace_5 : decode b_P_hasSpace 5 = .ok (.aload_n 0, 1) := by decide +kernel
theorem d_P_hasSpace_6 : decode b_P_hasSpace 6 = .ok (.getfield 34, 3) := by decide +kernel
theorem d_P_hasSpace_9 : decode b_P_hasSpace 9 = .ok (.if_icmp .ge 7, 3) := by decide +kernel
theorem d_P_hasSpace_12 : decode b_P_hasSpace 12 = .ok (.iconst 1, 1) := by decide +kernel
theorem d_P_hasSpace_13 : decode b_P_hasSpace 13 = .ok (.goto 4, 3) := by decide +kernel
theorem d_P_hasSpace_16 : decode b_P_hasSpace 16 = .ok (.iconst 0, 1) := by decide +kernel
theorem d_P_hasSpace_17 : decode b_P_hasSpace 17 = .ok (.ireturn, 1) := by decide +kernel
abbrev b_P_hasValve : ByteArray := prog_3_method_4_code
def y_P_hasValve : MethodName := ⟨"SeatProofs$Plant", "hasValve", "(I)Z"⟩
abbrev w_P_hasValve : List Cond := .code y_P_hasValve b_P_hasValve 2 (some .boolean) :: gT
theorem d_P_hasValve_0 : decode b_P_hasValve 0 = .ok (.iload_n 1, 1) := by decide +kernel
theorem d_P_hasValve_1 : decode b_P_hasValve 1 = .ok (.ifCond .lt 15, 3) := by decide +kernel
theorem d_P_hasValve_4 : decode b_P_hasValve 4 = .ok (.iload_n 1, 1) := by decide +kernel
theorem d_P_hasValve_5 : decode b_P_hasValve 5 = .ok (.aload_n 0, 1) := by decide +kernel
theorem d_P_hasValve_6 : decode b_P_hasValve 6 = .ok (.getfield 38, 3) := by decide +kernel
theorem d_P_hasValve_9 : decode b_P_hasValve 9 = .ok (.if_icmp .ge 7, 3) := by decide +kernel
theorem d_P_hasValve_12 : decode b_P_hasValve 12 = .ok (.iconst 1, 1) := by decide +kernel
theorem d_P_hasValve_13 : decode b_P_hasValve 13 = .ok (.goto 4, 3) := by decide +kernel
theorem d_P_hasValve_16 : decode b_P_hasValve 16 = .ok (.iconst 0, 1) := by decide +kernel
theorem d_P_hasValve_17 : decode b_P_hasValve 17 = .ok (.ireturn, 1) := by decide +kernel
abbrev b_P_addSpace : ByteArray := prog_3_method_5_code
def y_P_addSpace : MethodName := ⟨"SeatProofs$Plant", "addSpace", "(I)I"⟩
abbrev w_P_addSpace : List Cond := .code y_P_addSpace b_P_addSpace 3 (some .int) :: gT
theorem d_P_addSpace_0 : decode b_P_addSpace 0 = .ok (.aload_n 0, 1) := by decide +kernel
theorem d_P_addSpace_1 : decode b_P_addSpace 1 = .ok (.getfield 34, 3) := by decide +kernel
theorem d_P_addSpace_4 : decode b_P_addSpace 4 = .ok (.istore_n 2, 1) := by decide +kernel
theorem d_P_addSpace_5 : decode b_P_addSpace 5 = .ok (.aload_n 0, 1) := by decide +kernel
theorem d_P_addSpace_6 : decode b_P_addSpace 6 = .ok (.getfield 9, 3) := by decide +kernel
theorem d_P_addSpace_9 : decode b_P_addSpace 9 = .ok (.iload_n 2, 1) := by decide +kernel
theorem d_P_addSpace_10 : decode b_P_addSpace 10 = .ok (.lconst 0, 1) := by decide +kernel
theorem d_P_addSpace_11 : decode b_P_addSpace 11 = .ok (.lastore, 1) := by decide +kernel
theorem d_P_addSpace_12 : decode b_P_addSpace 12 = .ok (.aload_n 0, 1) := by decide +kernel
theorem d_P_addSpace_13 : decode b_P_addSpace 13 = .ok (.getfield 28, 3) := by decide +kernel
theorem d_P_addSpace_16 : decode b_P_addSpace 16 = .ok (.iload_n 2, 1) := by decide +kernel
theorem d_P_addSpace_17 : decode b_P_addSpace 17 = .ok (.lconst 0, 1) := by decide +kernel
theorem d_P_addSpace_18 : decode b_P_addSpace 18 = .ok (.lastore, 1) := by decide +kernel
theorem d_P_addSpace_19 : decode b_P_addSpace 19 = .ok (.aload_n 0, 1) := by decide +kernel
theorem d_P_addSpace_20 : decode b_P_addSpace 20 = .ok (.getfield 31, 3) := by decide +kernel
theorem d_P_addSpace_23 : decode b_P_addSpace 23 = .ok (.iload_n 2, 1) := by decide +kernel
theorem d_P_addSpace_24 : decode b_P_addSpace 24 = .ok (.lconst 0, 1) := by decide +kernel
theorem d_P_addSpace_25 : decode b_P_addSpace 25 = .ok (.lastore, 1) := by decide +kernel
theorem d_P_addSpace_26 : decode b_P_addSpace 26 = .ok (.aload_n 0, 1) := by decide +kernel
theorem d_P_addSpace_27 : decode b_P_addSpace 27 = .ok (.getfield 15, 3) := by decide +kernel
theorem d_P_addSpace_30 : decode b_P_addSpace 30 = .ok (.iload_n 1, 1) := by decide +kernel
theorem d_P_addSpace_31 : decode b_P_addSpace 31 = .ok (.dup2, 1) := by decide +kernel
theorem d_P_addSpace_32 : decode b_P_addSpace 32 = .ok (.laload, 1) := by decide +kernel
theorem d_P_addSpace_33 : decode b_P_addSpace 33 = .ok (.iload_n 2, 1) := by decide +kernel
theorem d_P_addSpace_34 : decode b_P_addSpace 34 = .ok (.invokestatic 51, 3) := by decide +kernel
theorem d_P_addSpace_37 : decode b_P_addSpace 37 = .ok (.lor, 1) := by decide +kernel
theorem d_P_addSpace_38 : decode b_P_addSpace 38 = .ok (.lastore, 1) := by decide +kernel
theorem d_P_addSpace_39 : decode b_P_addSpace 39 = .ok (.aload_n 0, 1) := by decide +kernel
theorem d_P_addSpace_40 : decode b_P_addSpace 40 = .ok (.dup, 1) := by decide +kernel
theorem d_P_addSpace_41 : decode b_P_addSpace 41 = .ok (.getfield 34, 3) := by decide +kernel
theorem d_P_addSpace_44 : decode b_P_addSpace 44 = .ok (.iconst 1, 1) := by decide +kernel
theorem d_P_addSpace_45 : decode b_P_addSpace 45 = .ok (.iadd, 1) := by decide +kernel
theorem d_P_addSpace_46 : decode b_P_addSpace 46 = .ok (.putfield 34, 3) := by decide +kernel
theorem d_P_addSpace_49 : decode b_P_addSpace 49 = .ok (.iload_n 2, 1) := by decide +kernel
theorem d_P_addSpace_50 : decode b_P_addSpace 50 = .ok (.ireturn, 1) := by decide +kernel
abbrev b_P_addValve : ByteArray := prog_3_method_6_code
def y_P_addValve : MethodName := ⟨"SeatProofs$Plant", "addValve", "(IIZZ)I"⟩
abbrev w_P_addValve : List Cond := .code y_P_addValve b_P_addValve 6 (some .int) :: gT
theorem d_P_addValve_0 : decode b_P_addValve 0 = .ok (.aload_n 0, 1) := by decide +kernel
theorem d_P_addValve_1 : decode b_P_addValve 1 = .ok (.getfield 38, 3) := by decide +kernel
theorem d_P_addValve_4 : decode b_P_addValve 4 = .ok (.istore 5, 2) := by decide +kernel
theorem d_P_addValve_6 : decode b_P_addValve 6 = .ok (.aload_n 0, 1) := by decide +kernel
theorem d_P_addValve_7 : decode b_P_addValve 7 = .ok (.getfield 22, 3) := by decide +kernel
theorem d_P_addValve_10 : decode b_P_addValve 10 = .ok (.iload 5, 2) := by decide +kernel
theorem d_P_addValve_12 : decode b_P_addValve 12 = .ok (.iload_n 1, 1) := by decide +kernel
theorem d_P_addValve_13 : decode b_P_addValve 13 = .ok (.iastore, 1) := by decide +kernel
theorem d_P_addValve_14 : decode b_P_addValve 14 = .ok (.aload_n 0, 1) := by decide +kernel
theorem d_P_addValve_15 : decode b_P_addValve 15 = .ok (.getfield 25, 3) := by decide +kernel
theorem d_P_addValve_18 : decode b_P_addValve 18 = .ok (.iload 5, 2) := by decide +kernel
theorem d_P_addValve_20 : decode b_P_addValve 20 = .ok (.iload_n 2, 1) := by decide +kernel
theorem d_P_addValve_21 : decode b_P_addValve 21 = .ok (.iastore, 1) := by decide +kernel
theorem d_P_addValve_22 : decode b_P_addValve 22 = .ok (.aload_n 0, 1) := by decide +kernel
theorem d_P_addValve_23 : decode b_P_addValve 23 = .ok (.getfield 28, 3) := by decide +kernel
theorem d_P_addValve_26 : decode b_P_addValve 26 = .ok (.iload_n 1, 1) := by decide +kernel
theorem d_P_addValve_27 : decode b_P_addValve 27 = .ok (.dup2, 1) := by decide +kernel
theorem d_P_addValve_28 : decode b_P_addValve 28 = .ok (.laload, 1) := by decide +kernel
theorem d_P_addValve_29 : decode b_P_addValve 29 = .ok (.iload 5, 2) := by decide +kernel
theorem d_P_addValve_31 : decode b_P_addValve 31 = .ok (.invokestatic 51, 3) := by decide +kernel
theorem d_P_addValve_34 : decode b_P_addValve 34 = .ok (.lor, 1) := by decide +kernel
theorem d_P_addValve_35 : decode b_P_addValve 35 = .ok (.lastore, 1) := by decide +kernel
theorem d_P_addValve_36 : decode b_P_addValve 36 = .ok (.aload_n 0, 1) := by decide +kernel
theorem d_P_addValve_37 : decode b_P_addValve 37 = .ok (.getfield 28, 3) := by decide +kernel
theorem d_P_addValve_40 : decode b_P_addValve 40 = .ok (.iload_n 2, 1) := by decide +kernel
theorem d_P_addValve_41 : decode b_P_addValve 41 = .ok (.dup2, 1) := by decide +kernel
theorem d_P_addValve_42 : decode b_P_addValve 42 = .ok (.laload, 1) := by decide +kernel
theorem d_P_addValve_43 : decode b_P_addValve 43 = .ok (.iload 5, 2) := by decide +kernel
theorem d_P_addValve_45 : decode b_P_addValve 45 = .ok (.invokestatic 51, 3) := by decide +kernel
theorem d_P_addValve_48 : decode b_P_addValve 48 = .ok (.lor, 1) := by decide +kernel
theorem d_P_addValve_49 : decode b_P_addValve 49 = .ok (.lastore, 1) := by decide +kernel
theorem d_P_addValve_50 : decode b_P_addValve 50 = .ok (.iload_n 3, 1) := by decide +kernel
theorem d_P_addValve_51 : decode b_P_addValve 51 = .ok (.ifCond .eq 17, 3) := by decide +kernel
theorem d_P_addValve_54 : decode b_P_addValve 54 = .ok (.aload_n 0, 1) := by decide +kernel
theorem d_P_addValve_55 : decode b_P_addValve 55 = .ok (.dup, 1) := by decide +kernel
theorem d_P_addValve_56 : decode b_P_addValve 56 = .ok (.getfield 48, 3) := by decide +kernel
theorem d_P_addValve_59 : decode b_P_addValve 59 = .ok (.iload 5, 2) := by decide +kernel
theorem d_P_addValve_61 : decode b_P_addValve 61 = .ok (.invokestatic 51, 3) := by decide +kernel
theorem d_P_addValve_64 : decode b_P_addValve 64 = .ok (.lor, 1) := by decide +kernel
theorem d_P_addValve_65 : decode b_P_addValve 65 = .ok (.putfield 48, 3) := by decide +kernel
theorem d_P_addValve_68 : decode b_P_addValve 68 = .ok (.aload_n 0, 1) := by decide +kernel
theorem d_P_addValve_69 : decode b_P_addValve 69 = .ok (.iload 5, 2) := by decide +kernel
theorem d_P_addValve_71 : decode b_P_addValve 71 = .ok (.iload 4, 2) := by decide +kernel
theorem d_P_addValve_73 : decode b_P_addValve 73 = .ok (.invokevirtual 55, 3) := by decide +kernel
theorem d_P_addValve_76 : decode b_P_addValve 76 = .ok (.aload_n 0, 1) := by decide +kernel
theorem d_P_addValve_77 : decode b_P_addValve 77 = .ok (.dup, 1) := by decide +kernel
theorem d_P_addValve_78 : decode b_P_addValve 78 = .ok (.getfield 38, 3) := by decide +kernel
theorem d_P_addValve_81 : decode b_P_addValve 81 = .ok (.iconst 1, 1) := by decide +kernel
theorem d_P_addValve_82 : decode b_P_addValve 82 = .ok (.iadd, 1) := by decide +kernel
theorem d_P_addValve_83 : decode b_P_addValve 83 = .ok (.putfield 38, 3) := by decide +kernel
theorem d_P_addValve_86 : decode b_P_addValve 86 = .ok (.aload_n 0, 1) := by decide +kernel
theorem d_P_addValve_87 : decode b_P_addValve 87 = .ok (.iload 5, 2) := by decide +kernel
theorem d_P_addValve_89 : decode b_P_addValve 89 = .ok (.invokevirtual 59, 3) := by decide +kernel
theorem d_P_addValve_92 : decode b_P_addValve 92 = .ok (.iload 5, 2) := by decide +kernel
theorem d_P_addValve_94 : decode b_P_addValve 94 = .ok (.ireturn, 1) := by decide +kernel
abbrev b_P_raiseTo : ByteArray := prog_3_method_7_code
def y_P_raiseTo : MethodName := ⟨"SeatProofs$Plant", "raiseTo", "(IJ)V"⟩
abbrev w_P_raiseTo : List Cond := .code y_P_raiseTo b_P_raiseTo 5 none :: gT
theorem d_P_raiseTo_0 : decode b_P_raiseTo 0 = .ok (.aload_n 0, 1) := by decide +kernel
theorem d_P_raiseTo_1 : decode b_P_raiseTo 1 = .ok (.getfield 9, 3) := by decide +kernel
theorem d_P_raiseTo_4 : decode b_P_raiseTo 4 = .ok (.iload_n 1, 1) := by decide +kernel
theorem d_P_raiseTo_5 : decode b_P_raiseTo 5 = .ok (.lload_n 2, 1) := by decide +kernel
theorem d_P_raiseTo_6 : decode b_P_raiseTo 6 = .ok (.lastore, 1) := by decide +kernel
theorem d_P_raiseTo_7 : decode b_P_raiseTo 7 = .ok (.iconst 0, 1) := by decide +kernel
theorem d_P_raiseTo_8 : decode b_P_raiseTo 8 = .ok (.istore 4, 2) := by decide +kernel
theorem d_P_raiseTo_10 : decode b_P_raiseTo 10 = .ok (.iload 4, 2) := by decide +kernel
theorem d_P_raiseTo_12 : decode b_P_raiseTo 12 = .ok (.aload_n 0, 1) := by decide +kernel
theorem d_P_raiseTo_13 : decode b_P_raiseTo 13 = .ok (.getfield 38, 3) := by decide +kernel
theorem d_P_raiseTo_16 : decode b_P_raiseTo 16 = .ok (.if_icmp .ge 29, 3) := by decide +kernel
theorem d_P_raiseTo_19 : decode b_P_raiseTo 19 = .ok (.aload_n 0, 1) := by decide +kernel
theorem d_P_raiseTo_20 : decode b_P_raiseTo 20 = .ok (.getfield 28, 3) := by decide +kernel
theorem d_P_raiseTo_23 : decode b_P_raiseTo 23 = .ok (.iload_n 1, 1) := by decide +kernel
theorem d_P_raiseTo_24 : decode b_P_raiseTo 24 = .ok (.laload, 1) := by decide +kernel
theorem d_P_raiseTo_25 : decode b_P_raiseTo 25 = .ok (.iload 4, 2) := by decide +kernel
theorem d_P_raiseTo_27 : decode b_P_raiseTo 27 = .ok (.invokestatic 63, 3) := by decide +kernel
theorem d_P_raiseTo_30 : decode b_P_raiseTo 30 = .ok (.ifCond .eq 9, 3) := by decide +kernel
theorem d_P_raiseTo_33 : decode b_P_raiseTo 33 = .ok (.aload_n 0, 1) := by decide +kernel
theorem d_P_raiseTo_34 : decode b_P_raiseTo 34 = .ok (.iload 4, 2) := by decide +kernel
theorem d_P_raiseTo_36 : decode b_P_raiseTo 36 = .ok (.invokevirtual 59, 3) := by decide +kernel
theorem d_P_raiseTo_39 : decode b_P_raiseTo 39 = .ok (.iinc 4 1, 3) := by decide +kernel
theorem d_P_raiseTo_42 : decode b_P_raiseTo 42 = .ok (.goto (-32), 3) := by decide +kernel
theorem d_P_raiseTo_45 : decode b_P_raiseTo 45 = .ok (.return_, 1) := by decide +kernel
abbrev b_P_measure : ByteArray := prog_3_method_8_code
def y_P_measure : MethodName := ⟨"SeatProofs$Plant", "measure", "(I)V"⟩
abbrev w_P_measure : List Cond := .code y_P_measure b_P_measure 4 none :: gT
theorem d_P_measure_0 : decode b_P_measure 0 = .ok (.aload_n 0, 1) := by decide +kernel
theorem d_P_measure_1 : decode b_P_measure 1 = .ok (.getfield 22, 3) := by decide +kernel
theorem d_P_measure_4 : decode b_P_measure 4 = .ok (.iload_n 1, 1) := by decide +kernel
theorem d_P_measure_5 : decode b_P_measure 5 = .ok (.iaload, 1) := by decide +kernel
theorem d_P_measure_6 : decode b_P_measure 6 = .ok (.istore_n 2, 1) := by decide +kernel
theorem d_P_measure_7 : decode b_P_measure 7 = .ok (.aload_n 0, 1) := by decide +kernel
theorem d_P_measure_8 : decode b_P_measure 8 = .ok (.getfield 25, 3) := by decide +kernel
theorem d_P_measure_11 : decode b_P_measure 11 = .ok (.iload_n 1, 1) := by decide +kernel
theorem d_P_measure_12 : decode b_P_measure 12 = .ok (.iaload, 1) := by decide +kernel
theorem d_P_measure_13 : decode b_P_measure 13 = .ok (.istore_n 3, 1) := by decide +kernel
theorem d_P_measure_14 : decode b_P_measure 14 = .ok (.aload_n 0, 1) := by decide +kernel
theorem d_P_measure_15 : decode b_P_measure 15 = .ok (.getfield 31, 3) := by decide +kernel
theorem d_P_measure_18 : decode b_P_measure 18 = .ok (.iload_n 2, 1) := by decide +kernel
theorem d_P_measure_19 : decode b_P_measure 19 = .ok (.aload_n 0, 1) := by decide +kernel
theorem d_P_measure_20 : decode b_P_measure 20 = .ok (.getfield 31, 3) := by decide +kernel
theorem d_P_measure_23 : decode b_P_measure 23 = .ok (.iload_n 2, 1) := by decide +kernel
theorem d_P_measure_24 : decode b_P_measure 24 = .ok (.laload, 1) := by decide +kernel
theorem d_P_measure_25 : decode b_P_measure 25 = .ok (.iload_n 1, 1) := by decide +kernel
theorem d_P_measure_26 : decode b_P_measure 26 = .ok (.aload_n 0, 1) := by decide +kernel
theorem d_P_measure_27 : decode b_P_measure 27 = .ok (.getfield 9, 3) := by decide +kernel
theorem d_P_measure_30 : decode b_P_measure 30 = .ok (.iload_n 3, 1) := by decide +kernel
theorem d_P_measure_31 : decode b_P_measure 31 = .ok (.laload, 1) := by decide +kernel
theorem d_P_measure_32 : decode b_P_measure 32 = .ok (.aload_n 0, 1) := by decide +kernel
theorem d_P_measure_33 : decode b_P_measure 33 = .ok (.getfield 9, 3) := by decide +kernel
theorem d_P_measure_36 : decode b_P_measure 36 = .ok (.iload_n 2, 1) := by decide +kernel
theorem d_P_measure_37 : decode b_P_measure 37 = .ok (.laload, 1) := by decide +kernel
theorem d_P_measure_38 : decode b_P_measure 38 = .ok (.lcmp, 1) := by decide +kernel
theorem d_P_measure_39 : decode b_P_measure 39 = .ok (.ifCond .gt 7, 3) := by decide +kernel
theorem d_P_measure_42 : decode b_P_measure 42 = .ok (.iconst 1, 1) := by decide +kernel
theorem d_P_measure_43 : decode b_P_measure 43 = .ok (.goto 4, 3) := by decide +kernel
theorem d_P_measure_46 : decode b_P_measure 46 = .ok (.iconst 0, 1) := by decide +kernel
theorem d_P_measure_47 : decode b_P_measure 47 = .ok (.invokestatic 67, 3) := by decide +kernel
theorem d_P_measure_50 : decode b_P_measure 50 = .ok (.lastore, 1) := by decide +kernel
theorem d_P_measure_51 : decode b_P_measure 51 = .ok (.aload_n 0, 1) := by decide +kernel
theorem d_P_measure_52 : decode b_P_measure 52 = .ok (.getfield 31, 3) := by decide +kernel
theorem d_P_measure_55 : decode b_P_measure 55 = .ok (.iload_n 3, 1) := by decide +kernel
theorem d_P_measure_56 : decode b_P_measure 56 = .ok (.aload_n 0, 1) := by decide +kernel
theorem d_P_measure_57 : decode b_P_measure 57 = .ok (.getfield 31, 3) := by decide +kernel
theorem d_P_measure_60 : decode b_P_measure 60 = .ok (.iload_n 3, 1) := by decide +kernel
theorem d_P_measure_61 : decode b_P_measure 61 = .ok (.laload, 1) := by decide +kernel
theorem d_P_measure_62 : decode b_P_measure 62 = .ok (.iload_n 1, 1) := by decide +kernel
theorem d_P_measure_63 : decode b_P_measure 63 = .ok (.aload_n 0, 1) := by decide +kernel
theorem d_P_measure_64 : decode b_P_measure 64 = .ok (.getfield 9, 3) := by decide +kernel
theorem d_P_measure_67 : decode b_P_measure 67 = .ok (.iload_n 2, 1) := by decide +kernel
theorem d_P_measure_68 : decode b_P_measure 68 = .ok (.laload, 1) := by decide +kernel
theorem d_P_measure_69 : decode b_P_measure 69 = .ok (.aload_n 0, 1) := by decide +kernel
theorem d_P_measure_70 : decode b_P_measure 70 = .ok (.getfield 9, 3) := by decide +kernel
theorem d_P_measure_73 : decode b_P_measure 73 = .ok (.iload_n 3, 1) := by decide +kernel
theorem d_P_measure_74 : decode b_P_measure 74 = .ok (.laload, 1) := by decide +kernel
theorem d_P_measure_75 : decode b_P_measure 75 = .ok (.lcmp, 1) := by decide +kernel
theorem d_P_measure_76 : decode b_P_measure 76 = .ok (.ifCond .gt 7, 3) := by decide +kernel
theorem d_P_measure_79 : decode b_P_measure 79 = .ok (.iconst 1, 1) := by decide +kernel
theorem d_P_measure_80 : decode b_P_measure 80 = .ok (.goto 4, 3) := by decide +kernel
theorem d_P_measure_83 : decode b_P_measure 83 = .ok (.iconst 0, 1) := by decide +kernel
theorem d_P_measure_84 : decode b_P_measure 84 = .ok (.invokestatic 67, 3) := by decide +kernel
theorem d_P_measure_87 : decode b_P_measure 87 = .ok (.lastore, 1) := by decide +kernel
theorem d_P_measure_88 : decode b_P_measure 88 = .ok (.return_, 1) := by decide +kernel
abbrev b_P_turn : ByteArray := prog_3_method_9_code
def y_P_turn : MethodName := ⟨"SeatProofs$Plant", "turn", "(IZ)V"⟩
abbrev w_P_turn : List Cond := .code y_P_turn b_P_turn 3 none :: gT
theorem d_P_turn_0 : decode b_P_turn 0 = .ok (.aload_n 0, 1) := by decide +kernel
theorem d_P_turn_1 : decode b_P_turn 1 = .ok (.aload_n 0, 1) := by decide +kernel
theorem d_P_turn_2 : decode b_P_turn 2 = .ok (.getfield 41, 3) := by decide +kernel
theorem d_P_turn_5 : decode b_P_turn 5 = .ok (.iload_n 1, 1) := by decide +kernel
theorem d_P_turn_6 : decode b_P_turn 6 = .ok (.iload_n 2, 1) := by decide +kernel
theorem d_P_turn_7 : decode b_P_turn 7 = .ok (.invokestatic 67, 3) := by decide +kernel
theorem d_P_turn_10 : decode b_P_turn 10 = .ok (.putfield 41, 3) := by decide +kernel
theorem d_P_turn_13 : decode b_P_turn 13 = .ok (.return_, 1) := by decide +kernel
abbrev b_P_doubt : ByteArray := prog_3_method_10_code
def y_P_doubt : MethodName := ⟨"SeatProofs$Plant", "doubt", "(IZ)V"⟩
abbrev w_P_doubt : List Cond := .code y_P_doubt b_P_doubt 3 none :: gT
theorem d_P_doubt_0 : decode b_P_doubt 0 = .ok (.aload_n 0, 1) := by decide +kernel
theorem d_P_doubt_1 : decode b_P_doubt 1 = .ok (.aload_n 0, 1) := by decide +kernel
theorem d_P_doubt_2 : decode b_P_doubt 2 = .ok (.getfield 45, 3) := by decide +kernel
theorem d_P_doubt_5 : decode b_P_doubt 5 = .ok (.iload_n 1, 1) := by decide +kernel
theorem d_P_doubt_6 : decode b_P_doubt 6 = .ok (.iload_n 2, 1) := by decide +kernel
theorem d_P_doubt_7 : decode b_P_doubt 7 = .ok (.invokestatic 67, 3) := by decide +kernel
theorem d_P_doubt_10 : decode b_P_doubt 10 = .ok (.putfield 45, 3) := by decide +kernel
theorem d_P_doubt_13 : decode b_P_doubt 13 = .ok (.return_, 1) := by decide +kernel
abbrev b_P_with : ByteArray := prog_3_method_11_code
def y_P_with : MethodName := ⟨"SeatProofs$Plant", "with", "(JIZ)J"⟩
abbrev w_P_with : List Cond := .code y_P_with b_P_with 4 (some .long) :: gT
theorem d_P_with_0 : decode b_P_with 0 = .ok (.iload_n 3, 1) := by decide +kernel
theorem d_P_with_1 : decode b_P_with 1 = .ok (.ifCond .eq 12, 3) := by decide +kernel
theorem d_P_with_4 : decode b_P_with 4 = .ok (.lload_n 0, 1) := by decide +kernel
theorem d_P_with_5 : decode b_P_with 5 = .ok (.iload_n 2, 1) := by decide +kernel
theorem d_P_with_6 : decode b_P_with 6 = .ok (.invokestatic 51, 3) := by decide +kernel
theorem d_P_with_9 : decode b_P_with 9 = .ok (.lor, 1) := by decide +kernel
theorem d_P_with_10 : decode b_P_with 10 = .ok (.goto 13, 3) := by decide +kernel
theorem d_P_with_13 : decode b_P_with 13 = .ok (.lload_n 0, 1) := by decide +kernel
theorem d_P_with_14 : decode b_P_with 14 = .ok (.iload_n 2, 1) := by decide +kernel
theorem d_P_with_15 : decode b_P_with 15 = .ok (.invokestatic 51, 3) := by decide +kernel
theorem d_P_with_18 : decode b_P_with 18 = .ok (.ldc2_w 71, 3) := by decide +kernel
theorem d_P_with_21 : decode b_P_with 21 = .ok (.lxor, 1) := by decide +kernel
theorem d_P_with_22 : decode b_P_with 22 = .ok (.land, 1) := by decide +kernel
theorem d_P_with_23 : decode b_P_with 23 = .ok (.lreturn, 1) := by decide +kernel
abbrev b_P_areFriends : ByteArray := prog_3_method_12_code
def y_P_areFriends : MethodName := ⟨"SeatProofs$Plant", "areFriends", "(II)Z"⟩
abbrev w_P_areFriends : List Cond := .code y_P_areFriends b_P_areFriends 3 (some .boolean) :: gT
theorem d_P_areFriends_0 : decode b_P_areFriends 0 = .ok (.aload_n 0, 1) := by decide +kernel
theorem d_P_areFriends_1 : decode b_P_areFriends 1 = .ok (.getfield 18, 3) := by decide +kernel
theorem d_P_areFriends_4 : decode b_P_areFriends 4 = .ok (.iload_n 1, 1) := by decide +kernel
theorem d_P_areFriends_5 : decode b_P_areFriends 5 = .ok (.iaload, 1) := by decide +kernel
theorem d_P_areFriends_6 : decode b_P_areFriends 6 = .ok (.iconst 1, 1) := by decide +kernel
theorem d_P_areFriends_7 : decode b_P_areFriends 7 = .ok (.iload_n 2, 1) := by decide +kernel
theorem d_P_areFriends_8 : decode b_P_areFriends 8 = .ok (.ishl, 1) := by decide +kernel
theorem d_P_areFriends_9 : decode b_P_areFriends 9 = .ok (.iand, 1) := by decide +kernel
theorem d_P_areFriends_10 : decode b_P_areFriends 10 = .ok (.ifCond .eq 7, 3) := by decide +kernel
theorem d_P_areFriends_13 : decode b_P_areFriends 13 = .ok (.iconst 1, 1) := by decide +kernel
theorem d_P_areFriends_14 : decode b_P_areFriends 14 = .ok (.goto 4, 3) := by decide +kernel
theorem d_P_areFriends_17 : decode b_P_areFriends 17 = .ok (.iconst 0, 1) := by decide +kernel
theorem d_P_areFriends_18 : decode b_P_areFriends 18 = .ok (.ireturn, 1) := by decide +kernel
abbrev b_P_befriend : ByteArray := prog_3_method_13_code
def y_P_befriend : MethodName := ⟨"SeatProofs$Plant", "befriend", "(II)V"⟩
abbrev w_P_befriend : List Cond := .code y_P_befriend b_P_befriend 3 none :: gT
theorem d_P_befriend_0 : decode b_P_befriend 0 = .ok (.aload_n 0, 1) := by decide +kernel
theorem d_P_befriend_1 : decode b_P_befriend 1 = .ok (.getfield 18, 3) := by decide +kernel
theorem d_P_befriend_4 : decode b_P_befriend 4 = .ok (.iload_n 1, 1) := by decide +kernel
theorem d_P_befriend_5 : decode b_P_befriend 5 = .ok (.dup2, 1) := by decide +kernel
theorem d_P_befriend_6 : decode b_P_befriend 6 = .ok (.iaload, 1) := by decide +kernel
theorem d_P_befriend_7 : decode b_P_befriend 7 = .ok (.iconst 1, 1) := by decide +kernel
theorem d_P_befriend_8 : decode b_P_befriend 8 = .ok (.iload_n 2, 1) := by decide +kernel
theorem d_P_befriend_9 : decode b_P_befriend 9 = .ok (.ishl, 1) := by decide +kernel
theorem d_P_befriend_10 : decode b_P_befriend 10 = .ok (.ior, 1) := by decide +kernel
theorem d_P_befriend_11 : decode b_P_befriend 11 = .ok (.iastore, 1) := by decide +kernel
theorem d_P_befriend_12 : decode b_P_befriend 12 = .ok (.aload_n 0, 1) := by decide +kernel
theorem d_P_befriend_13 : decode b_P_befriend 13 = .ok (.getfield 18, 3) := by decide +kernel
theorem d_P_befriend_16 : decode b_P_befriend 16 = .ok (.iload_n 2, 1) := by decide +kernel
theorem d_P_befriend_17 : decode b_P_befriend 17 = .ok (.dup2, 1) := by decide +kernel
theorem d_P_befriend_18 : decode b_P_befriend 18 = .ok (.iaload, 1) := by decide +kernel
theorem d_P_befriend_19 : decode b_P_befriend 19 = .ok (.iconst 1, 1) := by decide +kernel
theorem d_P_befriend_20 : decode b_P_befriend 20 = .ok (.iload_n 1, 1) := by decide +kernel
theorem d_P_befriend_21 : decode b_P_befriend 21 = .ok (.ishl, 1) := by decide +kernel
theorem d_P_befriend_22 : decode b_P_befriend 22 = .ok (.ior, 1) := by decide +kernel
theorem d_P_befriend_23 : decode b_P_befriend 23 = .ok (.iastore, 1) := by decide +kernel
theorem d_P_befriend_24 : decode b_P_befriend 24 = .ok (.return_, 1) := by decide +kernel
abbrev b_P_rowsDue : ByteArray := prog_3_method_14_code
def y_P_rowsDue : MethodName := ⟨"SeatProofs$Plant", "rowsDue", "()I"⟩
abbrev w_P_rowsDue : List Cond := .code y_P_rowsDue b_P_rowsDue 3 (some .int) :: gT
theorem d_P_rowsDue_0 : decode b_P_rowsDue 0 = .ok (.iconst 0, 1) := by decide +kernel
theorem d_P_rowsDue_1 : decode b_P_rowsDue 1 = .ok (.istore_n 1, 1) := by decide +kernel
theorem d_P_rowsDue_2 : decode b_P_rowsDue 2 = .ok (.iconst 1, 1) := by decide +kernel
theorem d_P_rowsDue_3 : decode b_P_rowsDue 3 = .ok (.istore_n 2, 1) := by decide +kernel
theorem d_P_rowsDue_4 : decode b_P_rowsDue 4 = .ok (.iload_n 2, 1) := by decide +kernel
theorem d_P_rowsDue_5 : decode b_P_rowsDue 5 = .ok (.bipush 16, 2) := by decide +kernel
theorem d_P_rowsDue_7 : decode b_P_rowsDue 7 = .ok (.if_icmp .ge 23, 3) := by decide +kernel
theorem d_P_rowsDue_10 : decode b_P_rowsDue 10 = .ok (.aload_n 0, 1) := by decide +kernel
theorem d_P_rowsDue_11 : decode b_P_rowsDue 11 = .ok (.getfield 15, 3) := by decide +kernel
theorem d_P_rowsDue_14 : decode b_P_rowsDue 14 = .ok (.iload_n 2, 1) := by decide +kernel
theorem d_P_rowsDue_15 : decode b_P_rowsDue 15 = .ok (.laload, 1) := by decide +kernel
theorem d_P_rowsDue_16 : decode b_P_rowsDue 16 = .ok (.lconst 0, 1) := by decide +kernel
theorem d_P_rowsDue_17 : decode b_P_rowsDue 17 = .ok (.lcmp, 1) := by decide +kernel
theorem d_P_rowsDue_18 : decode b_P_rowsDue 18 = .ok (.ifCond .eq 6, 3) := by decide +kernel
theorem d_P_rowsDue_21 : decode b_P_rowsDue 21 = .ok (.iinc 1 1, 3) := by decide +kernel
theorem d_P_rowsDue_24 : decode b_P_rowsDue 24 = .ok (.iinc 2 1, 3) := by decide +kernel
theorem d_P_rowsDue_27 : decode b_P_rowsDue 27 = .ok (.goto (-23), 3) := by decide +kernel
theorem d_P_rowsDue_30 : decode b_P_rowsDue 30 = .ok (.iconst 1, 1) := by decide +kernel
theorem d_P_rowsDue_31 : decode b_P_rowsDue 31 = .ok (.aload_n 0, 1) := by decide +kernel
theorem d_P_rowsDue_32 : decode b_P_rowsDue 32 = .ok (.getfield 38, 3) := by decide +kernel
theorem d_P_rowsDue_35 : decode b_P_rowsDue 35 = .ok (.iadd, 1) := by decide +kernel
theorem d_P_rowsDue_36 : decode b_P_rowsDue 36 = .ok (.iload_n 1, 1) := by decide +kernel
theorem d_P_rowsDue_37 : decode b_P_rowsDue 37 = .ok (.imul, 1) := by decide +kernel
theorem d_P_rowsDue_38 : decode b_P_rowsDue 38 = .ok (.ireturn, 1) := by decide +kernel
abbrev b_P_letting : ByteArray := prog_3_method_15_code
def y_P_letting : MethodName := ⟨"SeatProofs$Plant", "letting", "(I)J"⟩
abbrev w_P_letting : List Cond := .code y_P_letting b_P_letting 6 (some .long) :: gT
theorem d_P_letting_0 : decode b_P_letting 0 = .ok (.iload_n 1, 1) := by decide +kernel
theorem d_P_letting_1 : decode b_P_letting 1 = .ok (.ifCond .ne 7, 3) := by decide +kernel
theorem d_P_letting_4 : decode b_P_letting 4 = .ok (.lconst 0, 1) := by decide +kernel
theorem d_P_letting_5 : decode b_P_letting 5 = .ok (.goto 9, 3) := by decide +kernel
theorem d_P_letting_8 : decode b_P_letting 8 = .ok (.iload_n 1, 1) := by decide +kernel
theorem d_P_letting_9 : decode b_P_letting 9 = .ok (.iconst 1, 1) := by decide +kernel
theorem d_P_letting_10 : decode b_P_letting 10 = .ok (.isub, 1) := by decide +kernel
theorem d_P_letting_11 : decode b_P_letting 11 = .ok (.invokestatic 51, 3) := by decide +kernel
theorem d_P_letting_14 : decode b_P_letting 14 = .ok (.lstore_n 2, 1) := by decide +kernel
theorem d_P_letting_15 : decode b_P_letting 15 = .ok (.aload_n 0, 1) := by decide +kernel
theorem d_P_letting_16 : decode b_P_letting 16 = .ok (.getfield 48, 3) := by decide +kernel
theorem d_P_letting_19 : decode b_P_letting 19 = .ok (.aload_n 0, 1) := by decide +kernel
theorem d_P_letting_20 : decode b_P_letting 20 = .ok (.getfield 41, 3) := by decide +kernel
theorem d_P_letting_23 : decode b_P_letting 23 = .ok (.ldc2_w 71, 3) := by decide +kernel
theorem d_P_letting_26 : decode b_P_letting 26 = .ok (.lxor, 1) := by decide +kernel
theorem d_P_letting_27 : decode b_P_letting 27 = .ok (.land, 1) := by decide +kernel
theorem d_P_letting_28 : decode b_P_letting 28 = .ok (.lstore 4, 2) := by decide +kernel
theorem d_P_letting_30 : decode b_P_letting 30 = .ok (.aload_n 0, 1) := by decide +kernel
theorem d_P_letting_31 : decode b_P_letting 31 = .ok (.getfield 41, 3) := by decide +kernel
theorem d_P_letting_34 : decode b_P_letting 34 = .ok (.lload_n 2, 1) := by decide +kernel
theorem d_P_letting_35 : decode b_P_letting 35 = .ok (.ldc2_w 71, 3) := by decide +kernel
theorem d_P_letting_38 : decode b_P_letting 38 = .ok (.lxor, 1) := by decide +kernel
theorem d_P_letting_39 : decode b_P_letting 39 = .ok (.land, 1) := by decide +kernel
theorem d_P_letting_40 : decode b_P_letting 40 = .ok (.lload_n 2, 1) := by decide +kernel
theorem d_P_letting_41 : decode b_P_letting 41 = .ok (.aload_n 0, 1) := by decide +kernel
theorem d_P_letting_42 : decode b_P_letting 42 = .ok (.getfield 41, 3) := by decide +kernel
theorem d_P_letting_45 : decode b_P_letting 45 = .ok (.ldc2_w 71, 3) := by decide +kernel
theorem d_P_letting_48 : decode b_P_letting 48 = .ok (.lxor, 1) := by decide +kernel
theorem d_P_letting_49 : decode b_P_letting 49 = .ok (.land, 1) := by decide +kernel
theorem d_P_letting_50 : decode b_P_letting 50 = .ok (.aload_n 0, 1) := by decide +kernel
theorem d_P_letting_51 : decode b_P_letting 51 = .ok (.getfield 48, 3) := by decide +kernel
theorem d_P_letting_54 : decode b_P_letting 54 = .ok (.ldc2_w 71, 3) := by decide +kernel
theorem d_P_letting_57 : decode b_P_letting 57 = .ok (.lxor, 1) := by decide +kernel
theorem d_P_letting_58 : decode b_P_letting 58 = .ok (.land, 1) := by decide +kernel
theorem d_P_letting_59 : decode b_P_letting 59 = .ok (.lor, 1) := by decide +kernel
theorem d_P_letting_60 : decode b_P_letting 60 = .ok (.aload_n 0, 1) := by decide +kernel
theorem d_P_letting_61 : decode b_P_letting 61 = .ok (.getfield 45, 3) := by decide +kernel
theorem d_P_letting_64 : decode b_P_letting 64 = .ok (.lload 4, 2) := by decide +kernel
theorem d_P_letting_66 : decode b_P_letting 66 = .ok (.ldc2_w 71, 3) := by decide +kernel
theorem d_P_letting_69 : decode b_P_letting 69 = .ok (.lxor, 1) := by decide +kernel
theorem d_P_letting_70 : decode b_P_letting 70 = .ok (.land, 1) := by decide +kernel
theorem d_P_letting_71 : decode b_P_letting 71 = .ok (.lor, 1) := by decide +kernel
theorem d_P_letting_72 : decode b_P_letting 72 = .ok (.lreturn, 1) := by decide +kernel
abbrev b_Q_init : ByteArray := prog_4_method_1_code
def y_Q_init : MethodName := ⟨"SeatProofs$Proof", "<init>", "()V"⟩
abbrev w_Q_init : List Cond := .code y_Q_init b_Q_init 1 none :: gT
theorem d_Q_init_0 : decode b_Q_init 0 = .ok (.aload_n 0, 1) := by decide +kernel
theorem d_Q_init_1 : decode b_Q_init 1 = .ok (.invokespecial 3, 3) := by decide +kernel
theorem d_Q_init_4 : decode b_Q_init 4 = .ok (.aload_n 0, 1) := by decide +kernel
theorem d_Q_init_5 : decode b_Q_init 5 = .ok (.sipush 975, 3) := by decide +kernel
theorem d_Q_init_8 : decode b_Q_init 8 = .ok (.newarray .int, 2) := by decide +kernel
theorem d_Q_init_10 : decode b_Q_init 10 = .ok (.putfield 9, 3) := by decide +kernel
theorem d_Q_init_13 : decode b_Q_init 13 = .ok (.aload_n 0, 1) := by decide +kernel
theorem d_Q_init_14 : decode b_Q_init 14 = .ok (.sipush 975, 3) := by decide +kernel
theorem d_Q_init_17 : decode b_Q_init 17 = .ok (.newarray .int, 2) := by decide +kernel
theorem d_Q_init_19 : decode b_Q_init 19 = .ok (.putfield 15, 3) := by decide +kernel
theorem d_Q_init_22 : decode b_Q_init 22 = .ok (.aload_n 0, 1) := by decide +kernel
theorem d_Q_init_23 : decode b_Q_init 23 = .ok (.sipush 975, 3) := by decide +kernel
theorem d_Q_init_26 : decode b_Q_init 26 = .ok (.newarray .long, 2) := by decide +kernel
theorem d_Q_init_28 : decode b_Q_init 28 = .ok (.putfield 18, 3) := by decide +kernel
theorem d_Q_init_31 : decode b_Q_init 31 = .ok (.aload_n 0, 1) := by decide +kernel
theorem d_Q_init_32 : decode b_Q_init 32 = .ok (.sipush 975, 3) := by decide +kernel
theorem d_Q_init_35 : decode b_Q_init 35 = .ok (.newarray .long, 2) := by decide +kernel
theorem d_Q_init_37 : decode b_Q_init 37 = .ok (.putfield 22, 3) := by decide +kernel
theorem d_Q_init_40 : decode b_Q_init 40 = .ok (.return_, 1) := by decide +kernel
abbrev b_Q_empty : ByteArray := prog_4_method_2_code
def y_Q_empty : MethodName := ⟨"SeatProofs$Proof", "empty", "()V"⟩
abbrev w_Q_empty : List Cond := .code y_Q_empty b_Q_empty 1 none :: gT
theorem d_Q_empty_0 : decode b_Q_empty 0 = .ok (.aload_n 0, 1) := by decide +kernel
theorem d_Q_empty_1 : decode b_Q_empty 1 = .ok (.iconst 0, 1) := by decide +kernel
theorem d_Q_empty_2 : decode b_Q_empty 2 = .ok (.putfield 25, 3) := by decide +kernel
theorem d_Q_empty_5 : decode b_Q_empty 5 = .ok (.return_, 1) := by decide +kernel
abbrev b_Q_hasRow : ByteArray := prog_4_method_3_code
def y_Q_hasRow : MethodName := ⟨"SeatProofs$Proof", "hasRow", "(I)Z"⟩
abbrev w_Q_hasRow : List Cond := .code y_Q_hasRow b_Q_hasRow 2 (some .boolean) :: gT
theorem d_Q_hasRow_0 : decode b_Q_hasRow 0 = .ok (.iload_n 1, 1) := by decide +kernel
theorem d_Q_hasRow_1 : decode b_Q_hasRow 1 = .ok (.ifCond .lt 15, 3) := by decide +kernel
theorem d_Q_hasRow_4 : decode b_Q_hasRow 4 = .ok (.iload_n 1, 1) := by decide +kernel
theorem d_Q_hasRow_5 : decode b_Q_hasRow 5 = .ok (.aload_n 0, 1) := by decide +kernel
theorem d_Q_hasRow_6 : decode b_Q_hasRow 6 = .ok (.getfield 25, 3) := by decide +kernel
theorem d_Q_hasRow_9 : decode b_Q_hasRow 9 = .ok (.if_icmp .ge 7, 3) := by decide +kernel
theorem d_Q_hasRow_12 : decode b_Q_hasRow 12 = .ok (.iconst 1, 1) := by decide +kernel
theorem d_Q_hasRow_13 : decode b_Q_hasRow 13 = .ok (.goto 4, 3) := by decide +kernel
theorem d_Q_hasRow_16 : decode b_Q_hasRow 16 = .ok (.iconst 0, 1) := by decide +kernel
theorem d_Q_hasRow_17 : decode b_Q_hasRow 17 = .ok (.ireturn, 1) := by decide +kernel
abbrev b_Q_add : ByteArray := prog_4_method_4_code
def y_Q_add : MethodName := ⟨"SeatProofs$Proof", "add", "(IIJJ)V"⟩
abbrev w_Q_add : List Cond := .code y_Q_add b_Q_add 7 none :: gT
theorem d_Q_add_0 : decode b_Q_add 0 = .ok (.aload_n 0, 1) := by decide +kernel
theorem d_Q_add_1 : decode b_Q_add 1 = .ok (.getfield 25, 3) := by decide +kernel
theorem d_Q_add_4 : decode b_Q_add 4 = .ok (.sipush 975, 3) := by decide +kernel
theorem d_Q_add_7 : decode b_Q_add 7 = .ok (.if_icmp .ge 54, 3) := by decide +kernel
theorem d_Q_add_10 : decode b_Q_add 10 = .ok (.aload_n 0, 1) := by decide +kernel
theorem d_Q_add_11 : decode b_Q_add 11 = .ok (.getfield 9, 3) := by decide +kernel
theorem d_Q_add_14 : decode b_Q_add 14 = .ok (.aload_n 0, 1) := by decide +kernel
theorem d_Q_add_15 : decode b_Q_add 15 = .ok (.getfield 25, 3) := by decide +kernel
theorem d_Q_add_18 : decode b_Q_add 18 = .ok (.iload_n 1, 1) := by decide +kernel
theorem d_Q_add_19 : decode b_Q_add 19 = .ok (.iastore, 1) := by decide +kernel
theorem d_Q_add_20 : decode b_Q_add 20 = .ok (.aload_n 0, 1) := by decide +kernel
theorem d_Q_add_21 : decode b_Q_add 21 = .ok (.getfield 15, 3) := by decide +kernel
theorem d_Q_add_24 : decode b_Q_add 24 = .ok (.aload_n 0, 1) := by decide +kernel
theorem d_Q_add_25 : decode b_Q_add 25 = .ok (.getfield 25, 3) := by decide +kernel
theorem d_Q_add_28 : decode b_Q_add 28 = .ok (.iload_n 2, 1) := by decide +kernel
theorem d_Q_add_29 : decode b_Q_add 29 = .ok (.iastore, 1) := by decide +kernel
theorem d_Q_add_30 : decode b_Q_add 30 = .ok (.aload_n 0, 1) := by decide +kernel
theorem d_Q_add_31 : decode b_Q_add 31 = .ok (.getfield 18, 3) := by decide +kernel
theorem d_Q_add_34 : decode b_Q_add 34 = .ok (.aload_n 0, 1) := by decide +kernel
theorem d_Q_add_35 : decode b_Q_add 35 = .ok (.getfield 25, 3) := by decide +kernel
theorem d_Q_add_38 : decode b_Q_add 38 = .ok (.lload_n 3, 1) := by decide +kernel
theorem d_Q_add_39 : decode b_Q_add 39 = .ok (.lastore, 1) := by decide +kernel
theorem d_Q_add_40 : decode b_Q_add 40 = .ok (.aload_n 0, 1) := by decide +kernel
theorem d_Q_add_41 : decode b_Q_add 41 = .ok (.getfield 22, 3) := by decide +kernel
theorem d_Q_add_44 : decode b_Q_add 44 = .ok (.aload_n 0, 1) := by decide +kernel
theorem d_Q_add_45 : decode b_Q_add 45 = .ok (.getfield 25, 3) := by decide +kernel
theorem d_Q_add_48 : decode b_Q_add 48 = .ok (.lload 5, 2) := by decide +kernel
theorem d_Q_add_50 : decode b_Q_add 50 = .ok (.lastore, 1) := by decide +kernel
theorem d_Q_add_51 : decode b_Q_add 51 = .ok (.aload_n 0, 1) := by decide +kernel
theorem d_Q_add_52 : decode b_Q_add 52 = .ok (.dup, 1) := by decide +kernel
theorem d_Q_add_53 : decode b_Q_add 53 = .ok (.getfield 25, 3) := by decide +kernel
theorem d_Q_add_56 : decode b_Q_add 56 = .ok (.iconst 1, 1) := by decide +kernel
theorem d_Q_add_57 : decode b_Q_add 57 = .ok (.iadd, 1) := by decide +kernel
theorem d_Q_add_58 : decode b_Q_add 58 = .ok (.putfield 25, 3) := by decide +kernel
theorem d_Q_add_61 : decode b_Q_add 61 = .ok (.return_, 1) := by decide +kernel
abbrev b_Q_remove : ByteArray := prog_4_method_5_code
def y_Q_remove : MethodName := ⟨"SeatProofs$Proof", "remove", "(I)V"⟩
abbrev w_Q_remove : List Cond := .code y_Q_remove b_Q_remove 3 none :: gT
theorem d_Q_remove_0 : decode b_Q_remove 0 = .ok (.aload_n 0, 1) := by decide +kernel
theorem d_Q_remove_1 : decode b_Q_remove 1 = .ok (.getfield 25, 3) := by decide +kernel
theorem d_Q_remove_4 : decode b_Q_remove 4 = .ok (.iload_n 1, 1) := by decide +kernel
theorem d_Q_remove_5 : decode b_Q_remove 5 = .ok (.isub, 1) := by decide +kernel
theorem d_Q_remove_6 : decode b_Q_remove 6 = .ok (.iconst 1, 1) := by decide +kernel
theorem d_Q_remove_7 : decode b_Q_remove 7 = .ok (.isub, 1) := by decide +kernel
theorem d_Q_remove_8 : decode b_Q_remove 8 = .ok (.istore_n 2, 1) := by decide +kernel
theorem d_Q_remove_9 : decode b_Q_remove 9 = .ok (.aload_n 0, 1) := by decide +kernel
theorem d_Q_remove_10 : decode b_Q_remove 10 = .ok (.getfield 9, 3) := by decide +kernel
theorem d_Q_remove_13 : decode b_Q_remove 13 = .ok (.iload_n 1, 1) := by decide +kernel
theorem d_Q_remove_14 : decode b_Q_remove 14 = .ok (.iconst 1, 1) := by decide +kernel
theorem d_Q_remove_15 : decode b_Q_remove 15 = .ok (.iadd, 1) := by decide +kernel
theorem d_Q_remove_16 : decode b_Q_remove 16 = .ok (.aload_n 0, 1) := by decide +kernel
theorem d_Q_remove_17 : decode b_Q_remove 17 = .ok (.getfield 9, 3) := by decide +kernel
theorem d_Q_remove_20 : decode b_Q_remove 20 = .ok (.iload_n 1, 1) := by decide +kernel
theorem d_Q_remove_21 : decode b_Q_remove 21 = .ok (.iload_n 2, 1) := by decide +kernel
theorem d_Q_remove_22 : decode b_Q_remove 22 = .ok (.invokestatic 29, 3) := by decide +kernel
theorem d_Q_remove_25 : decode b_Q_remove 25 = .ok (.aload_n 0, 1) := by decide +kernel
theorem d_Q_remove_26 : decode b_Q_remove 26 = .ok (.getfield 15, 3) := by decide +kernel
theorem d_Q_remove_29 : decode b_Q_remove 29 = .ok (.iload_n 1, 1) := by decide +kernel
theorem d_Q_remove_30 : decode b_Q_remove 30 = .ok (.iconst 1, 1) := by decide +kernel
theorem d_Q_remove_31 : decode b_Q_remove 31 = .ok (.iadd, 1) := by decide +kernel
theorem d_Q_remove_32 : decode b_Q_remove 32 = .ok (.aload_n 0, 1) := by decide +kernel
theorem d_Q_remove_33 : decode b_Q_remove 33 = .ok (.getfield 15, 3) := by decide +kernel
theorem d_Q_remove_36 : decode b_Q_remove 36 = .ok (.iload_n 1, 1) := by decide +kernel
theorem d_Q_remove_37 : decode b_Q_remove 37 = .ok (.iload_n 2, 1) := by decide +kernel
theorem d_Q_remove_38 : decode b_Q_remove 38 = .ok (.invokestatic 29, 3) := by decide +kernel
theorem d_Q_remove_41 : decode b_Q_remove 41 = .ok (.aload_n 0, 1) := by decide +kernel
theorem d_Q_remove_42 : decode b_Q_remove 42 = .ok (.getfield 18, 3) := by decide +kernel
theorem d_Q_remove_45 : decode b_Q_remove 45 = .ok (.iload_n 1, 1) := by decide +kernel
theorem d_Q_remove_46 : decode b_Q_remove 46 = .ok (.iconst 1, 1) := by decide +kernel
theorem d_Q_remove_47 : decode b_Q_remove 47 = .ok (.iadd, 1) := by decide +kernel
theorem d_Q_remove_48 : decode b_Q_remove 48 = .ok (.aload_n 0, 1) := by decide +kernel
theorem d_Q_remove_49 : decode b_Q_remove 49 = .ok (.getfield 18, 3) := by decide +kernel
theorem d_Q_remove_52 : decode b_Q_remove 52 = .ok (.iload_n 1, 1) := by decide +kernel
theorem d_Q_remove_53 : decode b_Q_remove 53 = .ok (.iload_n 2, 1) := by decide +kernel
theorem d_Q_remove_54 : decode b_Q_remove 54 = .ok (.invokestatic 29, 3) := by decide +kernel
theorem d_Q_remove_57 : decode b_Q_remove 57 = .ok (.aload_n 0, 1) := by decide +kernel
theorem d_Q_remove_58 : decode b_Q_remove 58 = .ok (.getfield 22, 3) := by decide +kernel
theorem d_Q_remove_61 : decode b_Q_remove 61 = .ok (.iload_n 1, 1) := by decide +kernel
theorem d_Q_remove_62 : decode b_Q_remove 62 = .ok (.iconst 1, 1) := by decide +kernel
theorem d_Q_remove_63 : decode b_Q_remove 63 = .ok (.iadd, 1) := by decide +kernel
theorem d_Q_remove_64 : decode b_Q_remove 64 = .ok (.aload_n 0, 1) := by decide +kernel
theorem d_Q_remove_65 : decode b_Q_remove 65 = .ok (.getfield 22, 3) := by decide +kernel
theorem d_Q_remove_68 : decode b_Q_remove 68 = .ok (.iload_n 1, 1) := by decide +kernel
theorem d_Q_remove_69 : decode b_Q_remove 69 = .ok (.iload_n 2, 1) := by decide +kernel
theorem d_Q_remove_70 : decode b_Q_remove 70 = .ok (.invokestatic 29, 3) := by decide +kernel
theorem d_Q_remove_73 : decode b_Q_remove 73 = .ok (.aload_n 0, 1) := by decide +kernel
theorem d_Q_remove_74 : decode b_Q_remove 74 = .ok (.dup, 1) := by decide +kernel
theorem d_Q_remove_75 : decode b_Q_remove 75 = .ok (.getfield 25, 3) := by decide +kernel
theorem d_Q_remove_78 : decode b_Q_remove 78 = .ok (.iconst 1, 1) := by decide +kernel
theorem d_Q_remove_79 : decode b_Q_remove 79 = .ok (.isub, 1) := by decide +kernel
theorem d_Q_remove_80 : decode b_Q_remove 80 = .ok (.putfield 25, 3) := by decide +kernel
theorem d_Q_remove_83 : decode b_Q_remove 83 = .ok (.return_, 1) := by decide +kernel
abbrev b_Lg_bitCount : ByteArray := prog_9_method_50_code
def y_Lg_bitCount : MethodName := ⟨"java/lang/Long", "bitCount", "(J)I"⟩
abbrev w_Lg_bitCount : List Cond := .code y_Lg_bitCount b_Lg_bitCount 2 (some .int) :: gT
theorem d_Lg_bitCount_0 : decode b_Lg_bitCount 0 = .ok (.lload_n 0, 1) := by decide +kernel
theorem d_Lg_bitCount_1 : decode b_Lg_bitCount 1 = .ok (.lload_n 0, 1) := by decide +kernel
theorem d_Lg_bitCount_2 : decode b_Lg_bitCount 2 = .ok (.iconst 1, 1) := by decide +kernel
theorem d_Lg_bitCount_3 : decode b_Lg_bitCount 3 = .ok (.lushr, 1) := by decide +kernel
theorem d_Lg_bitCount_4 : decode b_Lg_bitCount 4 = .ok (.ldc2_w 314, 3) := by decide +kernel
theorem d_Lg_bitCount_7 : decode b_Lg_bitCount 7 = .ok (.land, 1) := by decide +kernel
theorem d_Lg_bitCount_8 : decode b_Lg_bitCount 8 = .ok (.lsub, 1) := by decide +kernel
theorem d_Lg_bitCount_9 : decode b_Lg_bitCount 9 = .ok (.lstore_n 0, 1) := by decide +kernel
theorem d_Lg_bitCount_10 : decode b_Lg_bitCount 10 = .ok (.lload_n 0, 1) := by decide +kernel
theorem d_Lg_bitCount_11 : decode b_Lg_bitCount 11 = .ok (.ldc2_w 316, 3) := by decide +kernel
theorem d_Lg_bitCount_14 : decode b_Lg_bitCount 14 = .ok (.land, 1) := by decide +kernel
theorem d_Lg_bitCount_15 : decode b_Lg_bitCount 15 = .ok (.lload_n 0, 1) := by decide +kernel
theorem d_Lg_bitCount_16 : decode b_Lg_bitCount 16 = .ok (.iconst 2, 1) := by decide +kernel
theorem d_Lg_bitCount_17 : decode b_Lg_bitCount 17 = .ok (.lushr, 1) := by decide +kernel
theorem d_Lg_bitCount_18 : decode b_Lg_bitCount 18 = .ok (.ldc2_w 316, 3) := by decide +kernel
theorem d_Lg_bitCount_21 : decode b_Lg_bitCount 21 = .ok (.land, 1) := by decide +kernel
theorem d_Lg_bitCount_22 : decode b_Lg_bitCount 22 = .ok (.ladd, 1) := by decide +kernel
theorem d_Lg_bitCount_23 : decode b_Lg_bitCount 23 = .ok (.lstore_n 0, 1) := by decide +kernel
theorem d_Lg_bitCount_24 : decode b_Lg_bitCount 24 = .ok (.lload_n 0, 1) := by decide +kernel
theorem d_Lg_bitCount_25 : decode b_Lg_bitCount 25 = .ok (.lload_n 0, 1) := by decide +kernel
theorem d_Lg_bitCount_26 : decode b_Lg_bitCount 26 = .ok (.iconst 4, 1) := by decide +kernel
theorem d_Lg_bitCount_27 : decode b_Lg_bitCount 27 = .ok (.lushr, 1) := by decide +kernel
theorem d_Lg_bitCount_28 : decode b_Lg_bitCount 28 = .ok (.ladd, 1) := by decide +kernel
theorem d_Lg_bitCount_29 : decode b_Lg_bitCount 29 = .ok (.ldc2_w 318, 3) := by decide +kernel
theorem d_Lg_bitCount_32 : decode b_Lg_bitCount 32 = .ok (.land, 1) := by decide +kernel
theorem d_Lg_bitCount_33 : decode b_Lg_bitCount 33 = .ok (.lstore_n 0, 1) := by decide +kernel
theorem d_Lg_bitCount_34 : decode b_Lg_bitCount 34 = .ok (.lload_n 0, 1) := by decide +kernel
theorem d_Lg_bitCount_35 : decode b_Lg_bitCount 35 = .ok (.lload_n 0, 1) := by decide +kernel
theorem d_Lg_bitCount_36 : decode b_Lg_bitCount 36 = .ok (.bipush 8, 2) := by decide +kernel
theorem d_Lg_bitCount_38 : decode b_Lg_bitCount 38 = .ok (.lushr, 1) := by decide +kernel
theorem d_Lg_bitCount_39 : decode b_Lg_bitCount 39 = .ok (.ladd, 1) := by decide +kernel
theorem d_Lg_bitCount_40 : decode b_Lg_bitCount 40 = .ok (.lstore_n 0, 1) := by decide +kernel
theorem d_Lg_bitCount_41 : decode b_Lg_bitCount 41 = .ok (.lload_n 0, 1) := by decide +kernel
theorem d_Lg_bitCount_42 : decode b_Lg_bitCount 42 = .ok (.lload_n 0, 1) := by decide +kernel
theorem d_Lg_bitCount_43 : decode b_Lg_bitCount 43 = .ok (.bipush 16, 2) := by decide +kernel
theorem d_Lg_bitCount_45 : decode b_Lg_bitCount 45 = .ok (.lushr, 1) := by decide +kernel
theorem d_Lg_bitCount_46 : decode b_Lg_bitCount 46 = .ok (.ladd, 1) := by decide +kernel
theorem d_Lg_bitCount_47 : decode b_Lg_bitCount 47 = .ok (.lstore_n 0, 1) := by decide +kernel
theorem d_Lg_bitCount_48 : decode b_Lg_bitCount 48 = .ok (.lload_n 0, 1) := by decide +kernel
theorem d_Lg_bitCount_49 : decode b_Lg_bitCount 49 = .ok (.lload_n 0, 1) := by decide +kernel
theorem d_Lg_bitCount_50 : decode b_Lg_bitCount 50 = .ok (.bipush 32, 2) := by decide +kernel
theorem d_Lg_bitCount_52 : decode b_Lg_bitCount 52 = .ok (.lushr, 1) := by decide +kernel
theorem d_Lg_bitCount_53 : decode b_Lg_bitCount 53 = .ok (.ladd, 1) := by decide +kernel
theorem d_Lg_bitCount_54 : decode b_Lg_bitCount 54 = .ok (.lstore_n 0, 1) := by decide +kernel
theorem d_Lg_bitCount_55 : decode b_Lg_bitCount 55 = .ok (.lload_n 0, 1) := by decide +kernel
theorem d_Lg_bitCount_56 : decode b_Lg_bitCount 56 = .ok (.l2i, 1) := by decide +kernel
theorem d_Lg_bitCount_57 : decode b_Lg_bitCount 57 = .ok (.bipush 127, 2) := by decide +kernel
theorem d_Lg_bitCount_59 : decode b_Lg_bitCount 59 = .ok (.iand, 1) := by decide +kernel
theorem d_Lg_bitCount_60 : decode b_Lg_bitCount 60 = .ok (.ireturn, 1) := by decide +kernel
theorem gg_S_init : GoodIn gT w_S_init := good_c iw_16
theorem gg_S_space : GoodIn gT w_S_space := good_c iw_146
theorem gg_S_valve : GoodIn gT w_S_valve := good_c iw_161
theorem gg_S_level : GoodIn gT w_S_level := good_c iw_185
theorem gg_S_may : GoodIn gT w_S_may := good_c iw_197
theorem gg_S_safe : GoodIn gT w_S_safe := good_c iw_212
theorem gg_S_culprit : GoodIn gT w_S_culprit := good_c iw_278
theorem gg_S_rows : GoodIn gT w_S_rows := good_c iw_282
theorem gg_S_row : GoodIn gT w_S_row := good_c iw_286
theorem gg_S_check : GoodIn gT w_S_check := good_c iw_297
theorem gg_S_set : GoodIn gT w_S_set := good_c iw_337
theorem gg_S_unsure : GoodIn gT w_S_unsure := good_c iw_429
theorem gg_S_tested : GoodIn gT w_S_tested := good_c iw_310
theorem gg_S_drop : GoodIn gT w_S_drop := good_c iw_314
theorem gg_S_clear : GoodIn gT w_S_clear := good_c iw_325
theorem gg_S_keepCulprit : GoodIn gT w_S_keepCulprit := good_c iw_254
theorem gg_S_addRows : GoodIn gT w_S_addRows := good_c iw_266
theorem gg_S_isRight : GoodIn gT w_S_isRight := good_c iw_301
theorem gg_S_remakeTouched : GoodIn gT w_S_remakeTouched := good_c iw_412
theorem gg_S_isTouched : GoodIn gT w_S_isTouched := good_c iw_416
theorem gg_S_rowsClash : GoodIn gT w_S_rowsClash := good_c iw_422
theorem gg_S_isLiquid : GoodIn gT w_S_isLiquid := good_c iw_200
theorem gg_S_only : GoodIn gT w_S_only := good_c iw_157
theorem gg_S_has : GoodIn gT w_S_has := good_c iw_192
theorem gg_S_lowest : GoodIn gT w_S_lowest := good_c iw_237
theorem gg_S_memberAt : GoodIn gT w_S_memberAt := good_c iw_293
theorem gg_F_init : GoodIn gT w_F_init := good_c iw_81
theorem gg_F_lay : GoodIn gT w_F_lay := good_c iw_216
theorem gg_F_layWay : GoodIn gT w_F_layWay := good_c iw_225
theorem gg_F_floodAll : GoodIn gT w_F_floodAll := good_c iw_230
theorem gg_F_floodOf : GoodIn gT w_F_floodOf := good_c iw_234
theorem gg_F_cutOf : GoodIn gT w_F_cutOf := good_c iw_270
theorem gg_F_clashes : GoodIn gT w_F_clashes := good_c iw_262
theorem gg_F_meetings : GoodIn gT w_F_meetings := good_c iw_248
theorem gg_F_leastClashing : GoodIn gT w_F_leastClashing := good_c iw_258
theorem gg_P_init : GoodIn gT w_P_init := good_c iw_24
theorem gg_P_empty : GoodIn gT w_P_empty := good_c iw_329
theorem gg_P_hasSpace : GoodIn gT w_P_hasSpace := good_c iw_165
theorem gg_P_hasValve : GoodIn gT w_P_hasValve := good_c iw_341
theorem gg_P_addSpace : GoodIn gT w_P_addSpace := good_c iw_154
theorem gg_P_addValve : GoodIn gT w_P_addValve := good_c iw_169
theorem gg_P_raiseTo : GoodIn gT w_P_raiseTo := good_c iw_189
theorem gg_P_measure : GoodIn gT w_P_measure := good_c iw_181
theorem gg_P_turn : GoodIn gT w_P_turn := good_c iw_173
theorem gg_P_doubt : GoodIn gT w_P_doubt := good_c iw_433
theorem gg_P_with : GoodIn gT w_P_with := good_c iw_176
theorem gg_P_areFriends : GoodIn gT w_P_areFriends := good_c iw_204
theorem gg_P_befriend : GoodIn gT w_P_befriend := good_c iw_208
theorem gg_P_rowsDue : GoodIn gT w_P_rowsDue := good_c iw_306
theorem gg_P_letting : GoodIn gT w_P_letting := good_c iw_220
theorem gg_Q_init : GoodIn gT w_Q_init := good_c iw_101
theorem gg_Q_empty : GoodIn gT w_Q_empty := good_c iw_150
theorem gg_Q_hasRow : GoodIn gT w_Q_hasRow := good_c iw_290
theorem gg_Q_add : GoodIn gT w_Q_add := good_c iw_274
theorem gg_Q_remove : GoodIn gT w_Q_remove := good_c iw_318
theorem gg_Lg_bitCount : GoodIn gT w_Lg_bitCount := good_c iw_240
end
section
theorem bc_fin {x i1 i2 i3 i4 i5 i6 : Int64}
    (e1 : i1 = x - ((x.toUInt64 >>> ((nI 1).toInt64.toUInt64 &&& Int64.toUInt64 63)).toInt64 &&& 6148914691236517205))
    (e2 : i2 = (i1 &&& 3689348814741910323) + ((i1.toUInt64 >>> ((nI 2).toInt64.toUInt64 &&& Int64.toUInt64 63)).toInt64 &&& 3689348814741910323))
    (e3 : i3 = (i2 + (i2.toUInt64 >>> ((nI 4).toInt64.toUInt64 &&& Int64.toUInt64 63)).toInt64) &&& 1085102592571150095)
    (e4 : i4 = i3 + (i3.toUInt64 >>> ((nI 8).toInt64.toUInt64 &&& Int64.toUInt64 63)).toInt64)
    (e5 : i5 = i4 + (i4.toUInt64 >>> ((nI 16).toInt64.toUInt64 &&& Int64.toUInt64 63)).toInt64)
    (e6 : i6 = i5 + (i5.toUInt64 >>> ((nI 32).toInt64.toUInt64 &&& Int64.toUInt64 63)).toInt64) : (i6.toInt32 &&& nI 127) = nI (pcn (tb x) 64) := by
  obtain ⟨n, hn, rfl⟩ := wb_of x
  have m5 : (6148914691236517205 : Int64) = lN (ps_m 85 8) := by decide +kernel
  have m3 : (3689348814741910323 : Int64) = lN (ps_m 51 8) := by decide +kernel
  have mf : (1085102592571150095 : Int64) = lN (ps_m 15 8) := by decide +kernel
  have b5 : ps_m 85 8 = 6148914691236517205 := by decide +kernel
  have b3 : ps_m 51 8 = 3689348814741910323 := by decide +kernel
  have bf : ps_m 15 8 = 1085102592571150095 := by decide +kernel
  have a1 : n / 2 ^ 1 &&& ps_m 85 8 ≤ n / 2 ^ 1 := Nat.and_le_left
  have f1 : i1 = lN (ps_F1 (ps_m 85 8) n) := by
    rw [e1, wb_shr hn (by decide), m5, wb_and (by omega) (by omega), lN_sub (by omega)]; rfl
  generalize hF1 : ps_F1 (ps_m 85 8) n = n1 at f1
  have l1 : n1 < 2 ^ 64 := by rw [← hF1]; unfold ps_F1; omega
  have f2 : i2 = lN (ps_F2 (ps_m 51 8) n1) := by
    rw [e2, f1, wb_shr l1 (by decide), m3, wb_and l1 (by omega), wb_and (a := n1 / 2 ^ 2) (by omega) (by omega), lN_add]; rfl
  have l2 : ps_F2 (ps_m 51 8) n1 < 2 ^ 63 := by
    unfold ps_F2
    have q1 : n1 &&& ps_m 51 8 ≤ ps_m 51 8 := Nat.and_le_right
    have q2 : n1 / 4 &&& ps_m 51 8 ≤ ps_m 51 8 := Nat.and_le_right
    omega
  generalize hF2 : ps_F2 (ps_m 51 8) n1 = n2 at f2 l2
  have f3 : i3 = lN (ps_F3 (ps_m 15 8) n2) := by
    rw [e3, f2, wb_shr (by omega) (by decide), mf, lN_add, wb_and (by omega) (by omega)]; rfl
  have l3 : ps_F3 (ps_m 15 8) n2 ≤ ps_m 15 8 := Nat.and_le_right
  have hG : ps_G 8 n = ps_F3 (ps_m 15 8) n2 := by unfold ps_G; rw [hF1, hF2]
  generalize hF3 : ps_F3 (ps_m 15 8) n2 = n3 at f3 l3 hG
  have f4 : i4 = lN (n3 + n3 / 256) := by rw [e4, f3, wb_shr (by omega) (by decide), lN_add]
  have f5 : i5 = lN ((n3 + n3 / 256) + (n3 + n3 / 256) / 65536) := by rw [e5, f4, wb_shr (by omega) (by decide), lN_add]
  have f6 : i6 = lN (((n3 + n3 / 256) + (n3 + n3 / 256) / 65536) + ((n3 + n3 / 256) + (n3 + n3 / 256) / 65536) / 4294967296) := by rw [e6, f5, wb_shr (by omega) (by decide), lN_add]
  rw [f6, lN_i, pk_and _ 7 (by decide)]
  congr 1
  have hz : ∀ N : Nat, (nI N).toBitVec.toNat % 2 ^ 7 = N % 128 := by
    intro N
    show (BitVec.ofNat 32 N).toNat % 2 ^ 7 = N % 128
    rw [BitVec.toNat_ofNat]; omega
  rw [hz, show pcn (tb (lN n)) 64 = pcn n.testBit 64 from pcn_congr fun i hi => tb_lN hi, ← ps_sw n hn, hG]
  rfl
/-- the lowest set place, as the class reckons it -/
def lowN (x : Int64) : Nat := pcn (tb ((x &&& -x) - 1)) 64
theorem lowN_spec (x : Int64) (hx : ¬ x = 0) : lowN x < 64 ∧ tb x (lowN x) = true ∧ (∀ j, j < lowN x → tb x j = false) ∧ ∀ i, tb (x &&& (x - 1)) i = (tb x i && decide (i ≠ lowN x)) := by
  obtain ⟨k, h1, h2, h3, h4, h5⟩ := low_spec x hx
  have e : lowN x = k := by unfold lowN; rw [h4]; exact pcn_low h1
  rw [e]; exact ⟨h1, h2, h3, h5⟩
/-- with or without a place -/
def wth (x : Int64) (k : Nat) (b : Bool) : Int64 := if b = true then x ||| bt k else x &&& (bt k ^^^ (-1))
theorem tb_wth (x : Int64) {k : Nat} (hk : k < 64) (b : Bool) (i : Nat) : tb (wth x k b) i = if i = k then b else tb x i := by
  unfold wth
  cases b with
  | true =>
    rw [if_pos rfl, tb_or, tb_bt hk]
    by_cases e : i = k <;> simp [e]
  | false =>
    rw [if_neg (by decide), tb_andn, tb_bt hk]
    by_cases e : i = k <;> simp [e]
/-! ints by their bits -/
def t32 (x : Int32) (i : Nat) : Bool := x.toBitVec.getLsbD i
def b32 (k : Nat) : Int32 := nI 1 <<< (nI k &&& 31)
theorem t32_or (x y : Int32) (i : Nat) : t32 (x ||| y) i = (t32 x i || t32 y i) := by unfold t32; rw [Int32.toBitVec_or, BitVec.getLsbD_or]
theorem t32_b32 : ∀ k, k < 16 → ∀ i, i < 32 → t32 (b32 k) i = decide (i = k) := by decide +kernel
theorem t32_0 (i : Nat) : t32 0 i = false := by unfold t32; simp
theorem b32_bv : ∀ k, k < 16 → (b32 k).toBitVec = BitVec.twoPow 32 k := by decide +kernel
theorem t32_has (x : Int32) {k : Nat} (hk : k < 16) : (x &&& b32 k) = 0 ↔ t32 x k = false := by
  unfold t32
  constructor
  · intro h
    have h2 : (x &&& b32 k).toBitVec = 0#32 := by rw [h]; rfl
    rw [Int32.toBitVec_and, b32_bv k hk] at h2
    have h3 := congrArg (fun z => BitVec.getLsbD z k) h2
    simp only [BitVec.getLsbD_and, BitVec.getLsbD_twoPow] at h3
    simpa [show k < 32 by omega] using h3
  · intro h
    apply Int32.toBitVec_inj.mp
    rw [Int32.toBitVec_and, b32_bv k hk]
    apply BitVec.eq_of_getLsbD_eq
    intro i hi
    rw [BitVec.getLsbD_and, BitVec.getLsbD_twoPow]
    by_cases e : i = k
    · subst e; rw [h]; simp
    · simp [Ne.symm e]
end
section
abbrev CSt : Type := (Bool) × (Nat) × (Nat) × (Nat) × (Int64) × (Int64) × (Int64) × (Int64) × (Nat) × (Nat → Int64) × (Nat → Int64) × (Nat → Int32) × (Nat → Nat) × (Nat → Nat) × (Nat → Int64) × (Nat → Int64) × (Nat → Int64) × (Nat → Int64) × (Nat → Int32) × (Nat → Nat) × (Nat → Nat) × (Nat → Int64) × (Nat → Int64)
abbrev k_fu (u : CSt) : Bool := u.1
abbrev k_re (u : CSt) : Nat := u.2.1
abbrev k_nS (u : CSt) : Nat := u.2.2.1
abbrev k_nV (u : CSt) : Nat := u.2.2.2.1
abbrev k_opn (u : CSt) : Int64 := u.2.2.2.2.1
abbrev k_uns (u : CSt) : Int64 := u.2.2.2.2.2.1
abbrev k_dbl (u : CSt) : Int64 := u.2.2.2.2.2.2.1
abbrev k_lett (u : CSt) : Int64 := u.2.2.2.2.2.2.2.1
abbrev k_cnt (u : CSt) : Nat := u.2.2.2.2.2.2.2.2.1
abbrev k_lev (u : CSt) : Nat → Int64 := u.2.2.2.2.2.2.2.2.2.1
abbrev k_src (u : CSt) : Nat → Int64 := u.2.2.2.2.2.2.2.2.2.2.1
abbrev k_fr (u : CSt) : Nat → Int32 := u.2.2.2.2.2.2.2.2.2.2.2.1
abbrev k_e1 (u : CSt) : Nat → Nat := u.2.2.2.2.2.2.2.2.2.2.2.2.1
abbrev k_e2 (u : CSt) : Nat → Nat := u.2.2.2.2.2.2.2.2.2.2.2.2.2.1
abbrev k_ends (u : CSt) : Nat → Int64 := u.2.2.2.2.2.2.2.2.2.2.2.2.2.2.1
abbrev k_fal (u : CSt) : Nat → Int64 := u.2.2.2.2.2.2.2.2.2.2.2.2.2.2.2.1
abbrev k_ways (u : CSt) : Nat → Int64 := u.2.2.2.2.2.2.2.2.2.2.2.2.2.2.2.2.1
abbrev k_fls (u : CSt) : Nat → Int64 := u.2.2.2.2.2.2.2.2.2.2.2.2.2.2.2.2.2.1
abbrev k_fnd (u : CSt) : Nat → Int32 := u.2.2.2.2.2.2.2.2.2.2.2.2.2.2.2.2.2.2.1
abbrev k_pf (u : CSt) : Nat → Nat := u.2.2.2.2.2.2.2.2.2.2.2.2.2.2.2.2.2.2.2.1
abbrev k_pl (u : CSt) : Nat → Nat := u.2.2.2.2.2.2.2.2.2.2.2.2.2.2.2.2.2.2.2.2.1
abbrev k_pw (u : CSt) : Nat → Int64 := u.2.2.2.2.2.2.2.2.2.2.2.2.2.2.2.2.2.2.2.2.2.1
abbrev k_pc (u : CSt) : Nat → Int64 := u.2.2.2.2.2.2.2.2.2.2.2.2.2.2.2.2.2.2.2.2.2.2
abbrev k_s_fu (u : CSt) (x : Bool) : CSt := (x, u.2.1, u.2.2.1, u.2.2.2.1, u.2.2.2.2.1, u.2.2.2.2.2.1, u.2.2.2.2.2.2.1, u.2.2.2.2.2.2.2.1, u.2.2.2.2.2.2.2.2.1, u.2.2.2.2.2.2.2.2.2.1, u.2.2.2.2.2.2.2.2.2.2.1, u.2.2.2.2.2.2.2.2.2.2.2.1, u.2.2.2.2.2.2.2.2.2.2.2.2.1, u.2.2.2.2.2.2.2.2.2.2.2.2.2.1, u.2.2.2.2.2.2.2.2.2.2.2.2.2.2.1, u.2.2.2.2.2.2.2.2.2.2.2.2.2.2.2.1, u.2.2.2.2.2.2.2.2.2.2.2.2.2.2.2.2.1, u.2.2.2.2.2.2.2.2.2.2.2.2.2.2.2.2.2.1, u.2.2.2.2.2.2.2.2.2.2.2.2.2.2.2.2.2.2.1, u.2.2.2.2.2.2.2.2.2.2.2.2.2.2.2.2.2.2.2.1, u.2.2.2.2.2.2.2.2.2.2.2.2.2.2.2.2.2.2.2.2.1, u.2.2.2.2.2.2.2.2.2.2.2.2.2.2.2.2.2.2.2.2.2.1, u.2.2.2.2.2.2.2.2.2.2.2.2.2.2.2.2.2.2.2.2.2.2)
abbrev k_s_re (u : CSt) (x : Nat) : CSt := (u.1, x, u.2.2.1, u.2.2.2.1, u.2.2.2.2.1, u.2.2.2.2.2.1, u.2.2.2.2.2.2.1, u.2.2.2.2.2.2.2.1, u.2.2.2.2.2.2.2.2.1, u.2.2.2.2.2.2.2.2.2.1, u.2.2.2.2.2.2.2.2.2.2.1, u.2.2.2.2.2.2.2.2.2.2.2.1, u.2.2.2.2.2.2.2.2.2.2.2.2.1, u.2.2.2.2.2.2.2.2.2.2.2.2.2.1, u.2.2.2.2.2.2.2.2.2.2.2.2.2.2.1, u.2.2.2.2.2.2.2.2.2.2.2.2.2.2.2.1, u.2.2.2.2.2.2.2.2.2.2.2.2.2.2.2.2.1, u.2.2.2.2.2.2.2.2.2.2.2.2.2.2.2.2.2.1, u.2.2.2.2.2.2.2.2.2.2.2.2.2.2.2.2.2.2.1, u.2.2.2.2.2.2.2.2.2.2.2.2.2.2.2.2.2.2.2.1, u.2.2.2.2.2.2.2.2.2.2.2.2.2.2.2.2.2.2.2.2.1, u.2.2.2.2.2.2.2.2.2.2.2.2.2.2.2.2.2.2.2.2.2.1, u.2.2.2.2.2.2.2.2.2.2.2.2.2.2.2.2.2.2.2.2.2.2)
abbrev k_s_nS (u : CSt) (x : Nat) : CSt := (u.1, u.2.1, x, u.2.2.2.1, u.2.2.2.2.1, u.2.2.2.2.2.1, u.2.2.2.2.2.2.1, u.2.2.2.2.2.2.2.1, u.2.2.2.2.2.2.2.2.1, u.2.2.2.2.2.2.2.2.2.1, u.2.2.2.2.2.2.2.2.2.2.1, u.2.2.2.2.2.2.2.2.2.2.2.1, u.2.2.2.2.2.2.2.2.2.2.2.2.1, u.2.2.2.2.2.2.2.2.2.2.2.2.2.1, u.2.2.2.2.2.2.2.2.2.2.2.2.2.2.1, u.2.2.2.2.2.2.2.2.2.2.2.2.2.2.2.1, u.2.2.2.2.2.2.2.2.2.2.2.2.2.2.2.2.1, u.2.2.2.2.2.2.2.2.2.2.2.2.2.2.2.2.2.1, u.2.2.2.2.2.2.2.2.2.2.2.2.2.2.2.2.2.2.1, u.2.2.2.2.2.2.2.2.2.2.2.2.2.2.2.2.2.2.2.1, u.2.2.2.2.2.2.2.2.2.2.2.2.2.2.2.2.2.2.2.2.1, u.2.2.2.2.2.2.2.2.2.2.2.2.2.2.2.2.2.2.2.2.2.1, u.2.2.2.2.2.2.2.2.2.2.2.2.2.2.2.2.2.2.2.2.2.2)
abbrev k_s_nV (u : CSt) (x : Nat) : CSt := (u.1, u.2.1, u.2.2.1, x, u.2.2.2.2.1, u.2.2.2.2.2.1, u.2.2.2.2.2.2.1, u.2.2.2.2.2.2.2.1, u.2.2.2.2.2.2.2.2.1, u.2.2.2.2.2.2.2.2.2.1, u.2.2.2.2.2.2.2.2.2.2.1, u.2.2.2.2.2.2.2.2.2.2.2.1, u.2.2.2.2.2.2.2.2.2.2.2.2.1, u.2.2.2.2.2.2.2.2.2.2.2.2.2.1, u.2.2.2.2.2.2.2.2.2.2.2.2.2.2.1, u.2.2.2.2.2.2.2.2.2.2.2.2.2.2.2.1, u.2.2.2.2.2.2.2.2.2.2.2.2.2.2.2.2.1, u.2.2.2.2.2.2.2.2.2.2.2.2.2.2.2.2.2.1, u.2.2.2.2.2.2.2.2.2.2.2.2.2.2.2.2.2.2.1, u.2.2.2.2.2.2.2.2.2.2.2.2.2.2.2.2.2.2.2.1, u.2.2.2.2.2.2.2.2.2.2.2.2.2.2.2.2.2.2.2.2.1, u.2.2.2.2.2.2.2.2.2.2.2.2.2.2.2.2.2.2.2.2.2.1, u.2.2.2.2.2.2.2.2.2.2.2.2.2.2.2.2.2.2.2.2.2.2)
abbrev k_s_opn (u : CSt) (x : Int64) : CSt := (u.1, u.2.1, u.2.2.1, u.2.2.2.1, x, u.2.2.2.2.2.1, u.2.2.2.2.2.2.1, u.2.2.2.2.2.2.2.1, u.2.2.2.2.2.2.2.2.1, u.2.2.2.2.2.2.2.2.2.1, u.2.2.2.2.2.2.2.2.2.2.1, u.2.2.2.2.2.2.2.2.2.2.2.1, u.2.2.2.2.2.2.2.2.2.2.2.2.1, u.2.2.2.2.2.2.2.2.2.2.2.2.2.1, u.2.2.2.2.2.2.2.2.2.2.2.2.2.2.1, u.2.2.2.2.2.2.2.2.2.2.2.2.2.2.2.1, u.2.2.2.2.2.2.2.2.2.2.2.2.2.2.2.2.1, u.2.2.2.2.2.2.2.2.2.2.2.2.2.2.2.2.2.1, u.2.2.2.2.2.2.2.2.2.2.2.2.2.2.2.2.2.2.1, u.2.2.2.2.2.2.2.2.2.2.2.2.2.2.2.2.2.2.2.1, u.2.2.2.2.2.2.2.2.2.2.2.2.2.2.2.2.2.2.2.2.1, u.2.2.2.2.2.2.2.2.2.2.2.2.2.2.2.2.2.2.2.2.2.1, u.2.2.2.2.2.2.2.2.2.2.2.2.2.2.2.2.2.2.2.2.2.2)
abbrev k_s_uns (u : CSt) (x : Int64) : CSt := (u.1, u.2.1, u.2.2.1, u.2.2.2.1, u.2.2.2.2.1, x, u.2.2.2.2.2.2.1, u.2.2.2.2.2.2.2.1, u.2.2.2.2.2.2.2.2.1, u.2.2.2.2.2.2.2.2.2.1, u.2.2.2.2.2.2.2.2.2.2.1, u.2.2.2.2.2.2.2.2.2.2.2.1, u.2.2.2.2.2.2.2.2.2.2.2.2.1, u.2.2.2.2.2.2.2.2.2.2.2.2.2.1, u.2.2.2.2.2.2.2.2.2.2.2.2.2.2.1, u.2.2.2.2.2.2.2.2.2.2.2.2.2.2.2.1, u.2.2.2.2.2.2.2.2.2.2.2.2.2.2.2.2.1, u.2.2.2.2.2.2.2.2.2.2.2.2.2.2.2.2.2.1, u.2.2.2.2.2.2.2.2.2.2.2.2.2.2.2.2.2.2.1, u.2.2.2.2.2.2.2.2.2.2.2.2.2.2.2.2.2.2.2.1, u.2.2.2.2.2.2.2.2.2.2.2.2.2.2.2.2.2.2.2.2.1, u.2.2.2.2.2.2.2.2.2.2.2.2.2.2.2.2.2.2.2.2.2.1, u.2.2.2.2.2.2.2.2.2.2.2.2.2.2.2.2.2.2.2.2.2.2)
abbrev k_s_dbl (u : CSt) (x : Int64) : CSt := (u.1, u.2.1, u.2.2.1, u.2.2.2.1, u.2.2.2.2.1, u.2.2.2.2.2.1, x, u.2.2.2.2.2.2.2.1, u.2.2.2.2.2.2.2.2.1, u.2.2.2.2.2.2.2.2.2.1, u.2.2.2.2.2.2.2.2.2.2.1, u.2.2.2.2.2.2.2.2.2.2.2.1, u.2.2.2.2.2.2.2.2.2.2.2.2.1, u.2.2.2.2.2.2.2.2.2.2.2.2.2.1, u.2.2.2.2.2.2.2.2.2.2.2.2.2.2.1, u.2.2.2.2.2.2.2.2.2.2.2.2.2.2.2.1, u.2.2.2.2.2.2.2.2.2.2.2.2.2.2.2.2.1, u.2.2.2.2.2.2.2.2.2.2.2.2.2.2.2.2.2.1, u.2.2.2.2.2.2.2.2.2.2.2.2.2.2.2.2.2.2.1, u.2.2.2.2.2.2.2.2.2.2.2.2.2.2.2.2.2.2.2.1, u.2.2.2.2.2.2.2.2.2.2.2.2.2.2.2.2.2.2.2.2.1, u.2.2.2.2.2.2.2.2.2.2.2.2.2.2.2.2.2.2.2.2.2.1, u.2.2.2.2.2.2.2.2.2.2.2.2.2.2.2.2.2.2.2.2.2.2)
abbrev k_s_lett (u : CSt) (x : Int64) : CSt := (u.1, u.2.1, u.2.2.1, u.2.2.2.1, u.2.2.2.2.1, u.2.2.2.2.2.1, u.2.2.2.2.2.2.1, x, u.2.2.2.2.2.2.2.2.1, u.2.2.2.2.2.2.2.2.2.1, u.2.2.2.2.2.2.2.2.2.2.1, u.2.2.2.2.2.2.2.2.2.2.2.1, u.2.2.2.2.2.2.2.2.2.2.2.2.1, u.2.2.2.2.2.2.2.2.2.2.2.2.2.1, u.2.2.2.2.2.2.2.2.2.2.2.2.2.2.1, u.2.2.2.2.2.2.2.2.2.2.2.2.2.2.2.1, u.2.2.2.2.2.2.2.2.2.2.2.2.2.2.2.2.1, u.2.2.2.2.2.2.2.2.2.2.2.2.2.2.2.2.2.1, u.2.2.2.2.2.2.2.2.2.2.2.2.2.2.2.2.2.2.1, u.2.2.2.2.2.2.2.2.2.2.2.2.2.2.2.2.2.2.2.1, u.2.2.2.2.2.2.2.2.2.2.2.2.2.2.2.2.2.2.2.2.1, u.2.2.2.2.2.2.2.2.2.2.2.2.2.2.2.2.2.2.2.2.2.1, u.2.2.2.2.2.2.2.2.2.2.2.2.2.2.2.2.2.2.2.2.2.2)
abbrev k_s_cnt (u : CSt) (x : Nat) : CSt := (u.1, u.2.1, u.2.2.1, u.2.2.2.1, u.2.2.2.2.1, u.2.2.2.2.2.1, u.2.2.2.2.2.2.1, u.2.2.2.2.2.2.2.1, x, u.2.2.2.2.2.2.2.2.2.1, u.2.2.2.2.2.2.2.2.2.2.1, u.2.2.2.2.2.2.2.2.2.2.2.1, u.2.2.2.2.2.2.2.2.2.2.2.2.1, u.2.2.2.2.2.2.2.2.2.2.2.2.2.1, u.2.2.2.2.2.2.2.2.2.2.2.2.2.2.1, u.2.2.2.2.2.2.2.2.2.2.2.2.2.2.2.1, u.2.2.2.2.2.2.2.2.2.2.2.2.2.2.2.2.1, u.2.2.2.2.2.2.2.2.2.2.2.2.2.2.2.2.2.1, u.2.2.2.2.2.2.2.2.2.2.2.2.2.2.2.2.2.2.1, u.2.2.2.2.2.2.2.2.2.2.2.2.2.2.2.2.2.2.2.1, u.2.2.2.2.2.2.2.2.2.2.2.2.2.2.2.2.2.2.2.2.1, u.2.2.2.2.2.2.2.2.2.2.2.2.2.2.2.2.2.2.2.2.2.1, u.2.2.2.2.2.2.2.2.2.2.2.2.2.2.2.2.2.2.2.2.2.2)
abbrev k_s_lev (u : CSt) (x : Nat → Int64) : CSt := (u.1, u.2.1, u.2.2.1, u.2.2.2.1, u.2.2.2.2.1, u.2.2.2.2.2.1, u.2.2.2.2.2.2.1, u.2.2.2.2.2.2.2.1, u.2.2.2.2.2.2.2.2.1, x, u.2.2.2.2.2.2.2.2.2.2.1, u.2.2.2.2.2.2.2.2.2.2.2.1, u.2.2.2.2.2.2.2.2.2.2.2.2.1, u.2.2.2.2.2.2.2.2.2.2.2.2.2.1, u.2.2.2.2.2.2.2.2.2.2.2.2.2.2.1, u.2.2.2.2.2.2.2.2.2.2.2.2.2.2.2.1, u.2.2.2.2.2.2.2.2.2.2.2.2.2.2.2.2.1, u.2.2.2.2.2.2.2.2.2.2.2.2.2.2.2.2.2.1, u.2.2.2.2.2.2.2.2.2.2.2.2.2.2.2.2.2.2.1, u.2.2.2.2.2.2.2.2.2.2.2.2.2.2.2.2.2.2.2.1, u.2.2.2.2.2.2.2.2.2.2.2.2.2.2.2.2.2.2.2.2.1, u.2.2.2.2.2.2.2.2.2.2.2.2.2.2.2.2.2.2.2.2.2.1, u.2.2.2.2.2.2.2.2.2.2.2.2.2.2.2.2.2.2.2.2.2.2)
abbrev k_s_src (u : CSt) (x : Nat → Int64) : CSt := (u.1, u.2.1, u.2.2.1, u.2.2.2.1, u.2.2.2.2.1, u.2.2.2.2.2.1, u.2.2.2.2.2.2.1, u.2.2.2.2.2.2.2.1, u.2.2.2.2.2.2.2.2.1, u.2.2.2.2.2.2.2.2.2.1, x, u.2.2.2.2.2.2.2.2.2.2.2.1, u.2.2.2.2.2.2.2.2.2.2.2.2.1, u.2.2.2.2.2.2.2.2.2.2.2.2.2.1, u.2.2.2.2.2.2.2.2.2.2.2.2.2.2.1, u.2.2.2.2.2.2.2.2.2.2.2.2.2.2.2.1, u.2.2.2.2.2.2.2.2.2.2.2.2.2.2.2.2.1, u.2.2.2.2.2.2.2.2.2.2.2.2.2.2.2.2.2.1, u.2.2.2.2.2.2.2.2.2.2.2.2.2.2.2.2.2.2.1, u.2.2.2.2.2.2.2.2.2.2.2.2.2.2.2.2.2.2.2.1, u.2.2.2.2.2.2.2.2.2.2.2.2.2.2.2.2.2.2.2.2.1, u.2.2.2.2.2.2.2.2.2.2.2.2.2.2.2.2.2.2.2.2.2.1, u.2.2.2.2.2.2.2.2.2.2.2.2.2.2.2.2.2.2.2.2.2.2)
abbrev k_s_fr (u : CSt) (x : Nat → Int32) : CSt := (u.1, u.2.1, u.2.2.1, u.2.2.2.1, u.2.2.2.2.1, u.2.2.2.2.2.1, u.2.2.2.2.2.2.1, u.2.2.2.2.2.2.2.1, u.2.2.2.2.2.2.2.2.1, u.2.2.2.2.2.2.2.2.2.1, u.2.2.2.2.2.2.2.2.2.2.1, x, u.2.2.2.2.2.2.2.2.2.2.2.2.1, u.2.2.2.2.2.2.2.2.2.2.2.2.2.1, u.2.2.2.2.2.2.2.2.2.2.2.2.2.2.1, u.2.2.2.2.2.2.2.2.2.2.2.2.2.2.2.1, u.2.2.2.2.2.2.2.2.2.2.2.2.2.2.2.2.1, u.2.2.2.2.2.2.2.2.2.2.2.2.2.2.2.2.2.1, u.2.2.2.2.2.2.2.2.2.2.2.2.2.2.2.2.2.2.1, u.2.2.2.2.2.2.2.2.2.2.2.2.2.2.2.2.2.2.2.1, u.2.2.2.2.2.2.2.2.2.2.2.2.2.2.2.2.2.2.2.2.1, u.2.2.2.2.2.2.2.2.2.2.2.2.2.2.2.2.2.2.2.2.2.1, u.2.2.2.2.2.2.2.2.2.2.2.2.2.2.2.2.2.2.2.2.2.2)
abbrev k_s_e1 (u : CSt) (x : Nat → Nat) : CSt := (u.1, u.2.1, u.2.2.1, u.2.2.2.1, u.2.2.2.2.1, u.2.2.2.2.2.1, u.2.2.2.2.2.2.1, u.2.2.2.2.2.2.2.1, u.2.2.2.2.2.2.2.2.1, u.2.2.2.2.2.2.2.2.2.1, u.2.2.2.2.2.2.2.2.2.2.1, u.2.2.2.2.2.2.2.2.2.2.2.1, x, u.2.2.2.2.2.2.2.2.2.2.2.2.2.1, u.2.2.2.2.2.2.2.2.2.2.2.2.2.2.1, u.2.2.2.2.2.2.2.2.2.2.2.2.2.2.2.1, u.2.2.2.2.2.2.2.2.2.2.2.2.2.2.2.2.1, u.2.2.2.2.2.2.2.2.2.2.2.2.2.2.2.2.2.1, u.2.2.2.2.2.2.2.2.2.2.2.2.2.2.2.2.2.2.1, u.2.2.2.2.2.2.2.2.2.2.2.2.2.2.2.2.2.2.2.1, u.2.2.2.2.2.2.2.2.2.2.2.2.2.2.2.2.2.2.2.2.1, u.2.2.2.2.2.2.2.2.2.2.2.2.2.2.2.2.2.2.2.2.2.1, u.2.2.2.2.2.2.2.2.2.2.2.2.2.2.2.2.2.2.2.2.2.2)
abbrev k_s_e2 (u : CSt) (x : Nat → Nat) : CSt := (u.1, u.2.1, u.2.2.1, u.2.2.2.1, u.2.2.2.2.1, u.2.2.2.2.2.1, u.2.2.2.2.2.2.1, u.2.2.2.2.2.2.2.1, u.2.2.2.2.2.2.2.2.1, u.2.2.2.2.2.2.2.2.2.1, u.2.2.2.2.2.2.2.2.2.2.1, u.2.2.2.2.2.2.2.2.2.2.2.1, u.2.2.2.2.2.2.2.2.2.2.2.2.1, x, u.2.2.2.2.2.2.2.2.2.2.2.2.2.2.1, u.2.2.2.2.2.2.2.2.2.2.2.2.2.2.2.1, u.2.2.2.2.2.2.2.2.2.2.2.2.2.2.2.2.1, u.2.2.2.2.2.2.2.2.2.2.2.2.2.2.2.2.2.1, u.2.2.2.2.2.2.2.2.2.2.2.2.2.2.2.2.2.2.1, u.2.2.2.2.2.2.2.2.2.2.2.2.2.2.2.2.2.2.2.1, u.2.2.2.2.2.2.2.2.2.2.2.2.2.2.2.2.2.2.2.2.1, u.2.2.2.2.2.2.2.2.2.2.2.2.2.2.2.2.2.2.2.2.2.1, u.2.2.2.2.2.2.2.2.2.2.2.2.2.2.2.2.2.2.2.2.2.2)
abbrev k_s_ends (u : CSt) (x : Nat → Int64) : CSt := (u.1, u.2.1, u.2.2.1, u.2.2.2.1, u.2.2.2.2.1, u.2.2.2.2.2.1, u.2.2.2.2.2.2.1, u.2.2.2.2.2.2.2.1, u.2.2.2.2.2.2.2.2.1, u.2.2.2.2.2.2.2.2.2.1, u.2.2.2.2.2.2.2.2.2.2.1, u.2.2.2.2.2.2.2.2.2.2.2.1, u.2.2.2.2.2.2.2.2.2.2.2.2.1, u.2.2.2.2.2.2.2.2.2.2.2.2.2.1, x, u.2.2.2.2.2.2.2.2.2.2.2.2.2.2.2.1, u.2.2.2.2.2.2.2.2.2.2.2.2.2.2.2.2.1, u.2.2.2.2.2.2.2.2.2.2.2.2.2.2.2.2.2.1, u.2.2.2.2.2.2.2.2.2.2.2.2.2.2.2.2.2.2.1, u.2.2.2.2.2.2.2.2.2.2.2.2.2.2.2.2.2.2.2.1, u.2.2.2.2.2.2.2.2.2.2.2.2.2.2.2.2.2.2.2.2.1, u.2.2.2.2.2.2.2.2.2.2.2.2.2.2.2.2.2.2.2.2.2.1, u.2.2.2.2.2.2.2.2.2.2.2.2.2.2.2.2.2.2.2.2.2.2)
abbrev k_s_fal (u : CSt) (x : Nat → Int64) : CSt := (u.1, u.2.1, u.2.2.1, u.2.2.2.1, u.2.2.2.2.1, u.2.2.2.2.2.1, u.2.2.2.2.2.2.1, u.2.2.2.2.2.2.2.1, u.2.2.2.2.2.2.2.2.1, u.2.2.2.2.2.2.2.2.2.1, u.2.2.2.2.2.2.2.2.2.2.1, u.2.2.2.2.2.2.2.2.2.2.2.1, u.2.2.2.2.2.2.2.2.2.2.2.2.1, u.2.2.2.2.2.2.2.2.2.2.2.2.2.1, u.2.2.2.2.2.2.2.2.2.2.2.2.2.2.1, x, u.2.2.2.2.2.2.2.2.2.2.2.2.2.2.2.2.1, u.2.2.2.2.2.2.2.2.2.2.2.2.2.2.2.2.2.1, u.2.2.2.2.2.2.2.2.2.2.2.2.2.2.2.2.2.2.1, u.2.2.2.2.2.2.2.2.2.2.2.2.2.2.2.2.2.2.2.1, u.2.2.2.2.2.2.2.2.2.2.2.2.2.2.2.2.2.2.2.2.1, u.2.2.2.2.2.2.2.2.2.2.2.2.2.2.2.2.2.2.2.2.2.1, u.2.2.2.2.2.2.2.2.2.2.2.2.2.2.2.2.2.2.2.2.2.2)
abbrev k_s_ways (u : CSt) (x : Nat → Int64) : CSt := (u.1, u.2.1, u.2.2.1, u.2.2.2.1, u.2.2.2.2.1, u.2.2.2.2.2.1, u.2.2.2.2.2.2.1, u.2.2.2.2.2.2.2.1, u.2.2.2.2.2.2.2.2.1, u.2.2.2.2.2.2.2.2.2.1, u.2.2.2.2.2.2.2.2.2.2.1, u.2.2.2.2.2.2.2.2.2.2.2.1, u.2.2.2.2.2.2.2.2.2.2.2.2.1, u.2.2.2.2.2.2.2.2.2.2.2.2.2.1, u.2.2.2.2.2.2.2.2.2.2.2.2.2.2.1, u.2.2.2.2.2.2.2.2.2.2.2.2.2.2.2.1, x, u.2.2.2.2.2.2.2.2.2.2.2.2.2.2.2.2.2.1, u.2.2.2.2.2.2.2.2.2.2.2.2.2.2.2.2.2.2.1, u.2.2.2.2.2.2.2.2.2.2.2.2.2.2.2.2.2.2.2.1, u.2.2.2.2.2.2.2.2.2.2.2.2.2.2.2.2.2.2.2.2.1, u.2.2.2.2.2.2.2.2.2.2.2.2.2.2.2.2.2.2.2.2.2.1, u.2.2.2.2.2.2.2.2.2.2.2.2.2.2.2.2.2.2.2.2.2.2)
abbrev k_s_fls (u : CSt) (x : Nat → Int64) : CSt := (u.1, u.2.1, u.2.2.1, u.2.2.2.1, u.2.2.2.2.1, u.2.2.2.2.2.1, u.2.2.2.2.2.2.1, u.2.2.2.2.2.2.2.1, u.2.2.2.2.2.2.2.2.1, u.2.2.2.2.2.2.2.2.2.1, u.2.2.2.2.2.2.2.2.2.2.1, u.2.2.2.2.2.2.2.2.2.2.2.1, u.2.2.2.2.2.2.2.2.2.2.2.2.1, u.2.2.2.2.2.2.2.2.2.2.2.2.2.1, u.2.2.2.2.2.2.2.2.2.2.2.2.2.2.1, u.2.2.2.2.2.2.2.2.2.2.2.2.2.2.2.1, u.2.2.2.2.2.2.2.2.2.2.2.2.2.2.2.2.1, x, u.2.2.2.2.2.2.2.2.2.2.2.2.2.2.2.2.2.2.1, u.2.2.2.2.2.2.2.2.2.2.2.2.2.2.2.2.2.2.2.1, u.2.2.2.2.2.2.2.2.2.2.2.2.2.2.2.2.2.2.2.2.1, u.2.2.2.2.2.2.2.2.2.2.2.2.2.2.2.2.2.2.2.2.2.1, u.2.2.2.2.2.2.2.2.2.2.2.2.2.2.2.2.2.2.2.2.2.2)
abbrev k_s_fnd (u : CSt) (x : Nat → Int32) : CSt := (u.1, u.2.1, u.2.2.1, u.2.2.2.1, u.2.2.2.2.1, u.2.2.2.2.2.1, u.2.2.2.2.2.2.1, u.2.2.2.2.2.2.2.1, u.2.2.2.2.2.2.2.2.1, u.2.2.2.2.2.2.2.2.2.1, u.2.2.2.2.2.2.2.2.2.2.1, u.2.2.2.2.2.2.2.2.2.2.2.1, u.2.2.2.2.2.2.2.2.2.2.2.2.1, u.2.2.2.2.2.2.2.2.2.2.2.2.2.1, u.2.2.2.2.2.2.2.2.2.2.2.2.2.2.1, u.2.2.2.2.2.2.2.2.2.2.2.2.2.2.2.1, u.2.2.2.2.2.2.2.2.2.2.2.2.2.2.2.2.1, u.2.2.2.2.2.2.2.2.2.2.2.2.2.2.2.2.2.1, x, u.2.2.2.2.2.2.2.2.2.2.2.2.2.2.2.2.2.2.2.1, u.2.2.2.2.2.2.2.2.2.2.2.2.2.2.2.2.2.2.2.2.1, u.2.2.2.2.2.2.2.2.2.2.2.2.2.2.2.2.2.2.2.2.2.1, u.2.2.2.2.2.2.2.2.2.2.2.2.2.2.2.2.2.2.2.2.2.2)
abbrev k_s_pf (u : CSt) (x : Nat → Nat) : CSt := (u.1, u.2.1, u.2.2.1, u.2.2.2.1, u.2.2.2.2.1, u.2.2.2.2.2.1, u.2.2.2.2.2.2.1, u.2.2.2.2.2.2.2.1, u.2.2.2.2.2.2.2.2.1, u.2.2.2.2.2.2.2.2.2.1, u.2.2.2.2.2.2.2.2.2.2.1, u.2.2.2.2.2.2.2.2.2.2.2.1, u.2.2.2.2.2.2.2.2.2.2.2.2.1, u.2.2.2.2.2.2.2.2.2.2.2.2.2.1, u.2.2.2.2.2.2.2.2.2.2.2.2.2.2.1, u.2.2.2.2.2.2.2.2.2.2.2.2.2.2.2.1, u.2.2.2.2.2.2.2.2.2.2.2.2.2.2.2.2.1, u.2.2.2.2.2.2.2.2.2.2.2.2.2.2.2.2.2.1, u.2.2.2.2.2.2.2.2.2.2.2.2.2.2.2.2.2.2.1, x, u.2.2.2.2.2.2.2.2.2.2.2.2.2.2.2.2.2.2.2.2.1, u.2.2.2.2.2.2.2.2.2.2.2.2.2.2.2.2.2.2.2.2.2.1, u.2.2.2.2.2.2.2.2.2.2.2.2.2.2.2.2.2.2.2.2.2.2)
abbrev k_s_pl (u : CSt) (x : Nat → Nat) : CSt := (u.1, u.2.1, u.2.2.1, u.2.2.2.1, u.2.2.2.2.1, u.2.2.2.2.2.1, u.2.2.2.2.2.2.1, u.2.2.2.2.2.2.2.1, u.2.2.2.2.2.2.2.2.1, u.2.2.2.2.2.2.2.2.2.1, u.2.2.2.2.2.2.2.2.2.2.1, u.2.2.2.2.2.2.2.2.2.2.2.1, u.2.2.2.2.2.2.2.2.2.2.2.2.1, u.2.2.2.2.2.2.2.2.2.2.2.2.2.1, u.2.2.2.2.2.2.2.2.2.2.2.2.2.2.1, u.2.2.2.2.2.2.2.2.2.2.2.2.2.2.2.1, u.2.2.2.2.2.2.2.2.2.2.2.2.2.2.2.2.1, u.2.2.2.2.2.2.2.2.2.2.2.2.2.2.2.2.2.1, u.2.2.2.2.2.2.2.2.2.2.2.2.2.2.2.2.2.2.1, u.2.2.2.2.2.2.2.2.2.2.2.2.2.2.2.2.2.2.2.1, x, u.2.2.2.2.2.2.2.2.2.2.2.2.2.2.2.2.2.2.2.2.2.1, u.2.2.2.2.2.2.2.2.2.2.2.2.2.2.2.2.2.2.2.2.2.2)
abbrev k_s_pw (u : CSt) (x : Nat → Int64) : CSt := (u.1, u.2.1, u.2.2.1, u.2.2.2.1, u.2.2.2.2.1, u.2.2.2.2.2.1, u.2.2.2.2.2.2.1, u.2.2.2.2.2.2.2.1, u.2.2.2.2.2.2.2.2.1, u.2.2.2.2.2.2.2.2.2.1, u.2.2.2.2.2.2.2.2.2.2.1, u.2.2.2.2.2.2.2.2.2.2.2.1, u.2.2.2.2.2.2.2.2.2.2.2.2.1, u.2.2.2.2.2.2.2.2.2.2.2.2.2.1, u.2.2.2.2.2.2.2.2.2.2.2.2.2.2.1, u.2.2.2.2.2.2.2.2.2.2.2.2.2.2.2.1, u.2.2.2.2.2.2.2.2.2.2.2.2.2.2.2.2.1, u.2.2.2.2.2.2.2.2.2.2.2.2.2.2.2.2.2.1, u.2.2.2.2.2.2.2.2.2.2.2.2.2.2.2.2.2.2.1, u.2.2.2.2.2.2.2.2.2.2.2.2.2.2.2.2.2.2.2.1, u.2.2.2.2.2.2.2.2.2.2.2.2.2.2.2.2.2.2.2.2.1, x, u.2.2.2.2.2.2.2.2.2.2.2.2.2.2.2.2.2.2.2.2.2.2)
abbrev k_s_pc (u : CSt) (x : Nat → Int64) : CSt := (u.1, u.2.1, u.2.2.1, u.2.2.2.1, u.2.2.2.2.1, u.2.2.2.2.2.1, u.2.2.2.2.2.2.1, u.2.2.2.2.2.2.2.1, u.2.2.2.2.2.2.2.2.1, u.2.2.2.2.2.2.2.2.2.1, u.2.2.2.2.2.2.2.2.2.2.1, u.2.2.2.2.2.2.2.2.2.2.2.1, u.2.2.2.2.2.2.2.2.2.2.2.2.1, u.2.2.2.2.2.2.2.2.2.2.2.2.2.1, u.2.2.2.2.2.2.2.2.2.2.2.2.2.2.1, u.2.2.2.2.2.2.2.2.2.2.2.2.2.2.2.1, u.2.2.2.2.2.2.2.2.2.2.2.2.2.2.2.2.1, u.2.2.2.2.2.2.2.2.2.2.2.2.2.2.2.2.2.1, u.2.2.2.2.2.2.2.2.2.2.2.2.2.2.2.2.2.2.1, u.2.2.2.2.2.2.2.2.2.2.2.2.2.2.2.2.2.2.2.1, u.2.2.2.2.2.2.2.2.2.2.2.2.2.2.2.2.2.2.2.2.1, u.2.2.2.2.2.2.2.2.2.2.2.2.2.2.2.2.2.2.2.2.2.1, x)
abbrev k_mk (x0 : Bool) (x1 : Nat) (x2 : Nat) (x3 : Nat) (x4 : Int64) (x5 : Int64) (x6 : Int64) (x7 : Int64) (x8 : Nat) (x9 : Nat → Int64) (x10 : Nat → Int64) (x11 : Nat → Int32) (x12 : Nat → Nat) (x13 : Nat → Nat) (x14 : Nat → Int64) (x15 : Nat → Int64) (x16 : Nat → Int64) (x17 : Nat → Int64) (x18 : Nat → Int32) (x19 : Nat → Nat) (x20 : Nat → Nat) (x21 : Nat → Int64) (x22 : Nat → Int64) : CSt := (x0, x1, x2, x3, x4, x5, x6, x7, x8, x9, x10, x11, x12, x13, x14, x15, x16, x17, x18, x19, x20, x21, x22)
abbrev CA : Type := Nat × Nat × Nat × Nat × Nat × Nat × Nat × Nat × Nat × Nat × Nat × Nat × Nat × Nat × Nat × Nat × Nat × Nat × ClassId × ClassId
abbrev ca_o (q : CA) : Nat := q.1
abbrev ca_p (q : CA) : Nat := q.2.1
abbrev ca_f (q : CA) : Nat := q.2.2.1
abbrev ca_q (q : CA) : Nat := q.2.2.2.1
abbrev ca_lev (q : CA) : Nat := q.2.2.2.2.1
abbrev ca_src (q : CA) : Nat := q.2.2.2.2.2.1
abbrev ca_fr (q : CA) : Nat := q.2.2.2.2.2.2.1
abbrev ca_e1 (q : CA) : Nat := q.2.2.2.2.2.2.2.1
abbrev ca_e2 (q : CA) : Nat := q.2.2.2.2.2.2.2.2.1
abbrev ca_ends (q : CA) : Nat := q.2.2.2.2.2.2.2.2.2.1
abbrev ca_fal (q : CA) : Nat := q.2.2.2.2.2.2.2.2.2.2.1
abbrev ca_ways (q : CA) : Nat := q.2.2.2.2.2.2.2.2.2.2.2.1
abbrev ca_fls (q : CA) : Nat := q.2.2.2.2.2.2.2.2.2.2.2.2.1
abbrev ca_fnd (q : CA) : Nat := q.2.2.2.2.2.2.2.2.2.2.2.2.2.1
abbrev ca_pf (q : CA) : Nat := q.2.2.2.2.2.2.2.2.2.2.2.2.2.2.1
abbrev ca_pl (q : CA) : Nat := q.2.2.2.2.2.2.2.2.2.2.2.2.2.2.2.1
abbrev ca_pw (q : CA) : Nat := q.2.2.2.2.2.2.2.2.2.2.2.2.2.2.2.2.1
abbrev ca_pc (q : CA) : Nat := q.2.2.2.2.2.2.2.2.2.2.2.2.2.2.2.2.2.1
abbrev ca_cI (q : CA) : ClassId := q.2.2.2.2.2.2.2.2.2.2.2.2.2.2.2.2.2.2.1
abbrev ca_cJ (q : CA) : ClassId := q.2.2.2.2.2.2.2.2.2.2.2.2.2.2.2.2.2.2.2
abbrev tC (q : CA) : List (ClassId × FieldType) := [(ca_cI q, .int), (ca_cJ q, .long)]
abbrev wC (q : CA) (u : CSt) : va_W := [(ca_o q, .inr (3, [.ref (ca_p q), .ref (ca_f q), .ref (ca_q q), .ref (ca_fnd q), .int (bI (k_fu u)), .int (nI (k_re u))])),
  (ca_p q, .inr (0, [.int (nI (k_nS u)), .int (nI (k_nV u)), .ref (ca_lev q), .ref (ca_src q), .ref (ca_fr q), .ref (ca_e1 q), .ref (ca_e2 q), .long (k_opn u), .long (k_uns u), .long (k_dbl u), .ref (ca_ends q), .ref (ca_fal q)])),
  (ca_f q, .inr (1, [.ref (ca_p q), .long (k_lett u), .ref (ca_ways q), .ref (ca_fls q)])),
  (ca_q q, .inr (2, [.int (nI (k_cnt u)), .ref (ca_pf q), .ref (ca_pl q), .ref (ca_pw q), .ref (ca_pc q)])),
  (ca_lev q, .inl (ca_cJ q, 64, .inr (.inl (k_lev u)))),
  (ca_src q, .inl (ca_cJ q, 16, .inr (.inl (k_src u)))),
  (ca_fr q, .inl (ca_cI q, 16, .inl (k_fr u))),
  (ca_e1 q, .inl (ca_cI q, 64, .inl (fun j => nI (k_e1 u j)))),
  (ca_e2 q, .inl (ca_cI q, 64, .inl (fun j => nI (k_e2 u j)))),
  (ca_ends q, .inl (ca_cJ q, 64, .inr (.inl (k_ends u)))),
  (ca_fal q, .inl (ca_cJ q, 64, .inr (.inl (k_fal u)))),
  (ca_ways q, .inl (ca_cJ q, 64, .inr (.inl (k_ways u)))),
  (ca_fls q, .inl (ca_cJ q, 16, .inr (.inl (k_fls u)))),
  (ca_fnd q, .inl (ca_cI q, 4, .inl (k_fnd u))),
  (ca_pf q, .inl (ca_cI q, 975, .inl (fun j => nI (k_pf u j)))),
  (ca_pl q, .inl (ca_cI q, 975, .inl (fun j => nI (k_pl u j)))),
  (ca_pw q, .inl (ca_cJ q, 975, .inr (.inl (k_pw u)))),
  (ca_pc q, .inl (ca_cJ q, 975, .inr (.inl (k_pc u))))]
end
section
def liqB (x : Int32) : Bool := decide (¬ x < nI 1 ∧ ¬ nI 16 ≤ x)
/-- the valve that fails, as a long -/
def kfl (f : Nat) : Int64 := if f = 0 then 0 else bt (f - 1)
/-- the valves that let through in failure f -/
def kl (u : CSt) (f : Nat) : Int64 := ((k_opn u &&& (kfl f ^^^ (-1))) ||| ((kfl f &&& (k_opn u ^^^ (-1))) &&& (k_dbl u ^^^ (-1)))) ||| (k_uns u &&& ((k_dbl u &&& (k_opn u ^^^ (-1))) ^^^ (-1)))
theorem kl_cg {u v : CSt} {f : Nat} (h1 : k_opn u = k_opn v) (h2 : k_uns u = k_uns v) (h3 : k_dbl u = k_dbl v) : kl u f = kl v f := by unfold kl; rw [h1, h2, h3]
def bfr (g : Nat → Int32) (a b : Nat) : Nat → Int32 := va_up (va_up g a (g a ||| b32 b)) b ((va_up g a (g a ||| b32 b)) b ||| b32 a)
def k_addS (u : CSt) (a : Nat) : CSt := k_s_fal (k_s_ends (k_s_src (k_s_lev (k_s_nS u (k_nS u + 1)) (va_up (k_lev u) (k_nS u) 0)) (va_up (k_src u) a (k_src u a ||| bt (k_nS u)))) (va_up (k_ends u) (k_nS u) 0)) (va_up (k_fal u) (k_nS u) 0)
/-- what measure makes of 'falls' -/
def kms (u : CSt) (x : Nat) : Nat → Int64 :=
  va_up (va_up (k_fal u) (k_e1 u x) (wth (k_fal u (k_e1 u x)) x (decide (k_lev u (k_e2 u x) ≤ k_lev u (k_e1 u x))))) (k_e2 u x)
    (wth ((va_up (k_fal u) (k_e1 u x) (wth (k_fal u (k_e1 u x)) x (decide (k_lev u (k_e2 u x) ≤ k_lev u (k_e1 u x))))) (k_e2 u x)) x (decide (k_lev u (k_e1 u x) ≤ k_lev u (k_e2 u x))))
end
section
set_option maxHeartbeats 4000000 in
set_option maxRecDepth 100000 in
theorem c_Lg_bitCount (l : Launch) (x : Int64) : Met l y_Lg_bitCount w_Lg_bitCount ({ frames := 0, cells := 0, slots := 0, locals := 0 }) (va_Pc [Value.long x] NW) (vp_Si (fun r : Int32 => r = nI (pcn (tb x) 64))) 0 0 (fun _ => False) := by
  refine Met.ofW (cc := b_Lg_bitCount) (maxL := 2) (ret := (some .int)) (by decide) rfl ?_
  intro p e s m args below meth c s₁ B hml hv
  obtain ⟨rfl, hN⟩ := hv
  have hx := B.exec
  have hb := B.bytes
  have hr := B.returns
  have hts := atoms_spec (ws := w_Lg_bitCount) B.pre
  have hown : s.vm.findClass "java/lang/Long" = some m.cls := findClass_of_methodNamed B.named
  have hlocks := B.notSynchronized
  have hl := lv_entry ([Value.long x]) (n := 2) (Nat.le_of_ble_eq_true rfl)
  rw [lg_entry_eq]
  generalize (lg_sl ([Value.long x]) ++ List.replicate (2 - (lg_sl ([Value.long x])).length) Slot.unset).toArray = ls at hl ⊢
  have hl : lv_has ls 2 [(0, .long x)] := hl
  refine lv_lload_n hx hb d_Lg_bitCount_0 rfl (lv_at hl 0 rfl) ?_
  refine lv_lload_n hx hb d_Lg_bitCount_1 rfl (lv_at hl 0 rfl) ?_
  refine lv_iconst (v := nI 1) hx hb d_Lg_bitCount_2 (by decide) ?_
  refine lv_lushr (v := (x.toUInt64 >>> ((nI 1).toInt64.toUInt64 &&& Int64.toUInt64 63)).toInt64) hx hb d_Lg_bitCount_3 rfl ?_
  refine lv_ldc2 (v := 6148914691236517205) hx hb hown (hts _ (List.mem_cons_of_mem _ iw_241)) d_Lg_bitCount_4 ?_
  refine lv_land hx hb d_Lg_bitCount_7 ?_
  refine lv_lsub hx hb d_Lg_bitCount_8 ?_
  refine lv_topl (fun i1 e1 => ?_)
  refine lv_lstore_n (lv' := [(0, .long i1)]) hx hb d_Lg_bitCount_9 rfl hl (by decide) rfl (fun ls hl => ?_)
  refine lv_lload_n hx hb d_Lg_bitCount_10 rfl (lv_at hl 0 rfl) ?_
  refine lv_ldc2 (v := 3689348814741910323) hx hb hown (hts _ (List.mem_cons_of_mem _ iw_242)) d_Lg_bitCount_11 ?_
  refine lv_land hx hb d_Lg_bitCount_14 ?_
  refine lv_lload_n hx hb d_Lg_bitCount_15 rfl (lv_at hl 0 rfl) ?_
  refine lv_iconst (v := nI 2) hx hb d_Lg_bitCount_16 (by decide) ?_
  refine lv_lushr (v := (i1.toUInt64 >>> ((nI 2).toInt64.toUInt64 &&& Int64.toUInt64 63)).toInt64) hx hb d_Lg_bitCount_17 rfl ?_
  refine lv_ldc2 (v := 3689348814741910323) hx hb hown (hts _ (List.mem_cons_of_mem _ iw_242)) d_Lg_bitCount_18 ?_
  refine lv_land hx hb d_Lg_bitCount_21 ?_
  refine lv_ladd hx hb d_Lg_bitCount_22 ?_
  refine lv_topl (fun i2 e2 => ?_)
  refine lv_lstore_n (lv' := [(0, .long i2)]) hx hb d_Lg_bitCount_23 rfl hl (by decide) rfl (fun ls hl => ?_)
  refine lv_lload_n hx hb d_Lg_bitCount_24 rfl (lv_at hl 0 rfl) ?_
  refine lv_lload_n hx hb d_Lg_bitCount_25 rfl (lv_at hl 0 rfl) ?_
  refine lv_iconst (v := nI 4) hx hb d_Lg_bitCount_26 (by decide) ?_
  refine lv_lushr (v := (i2.toUInt64 >>> ((nI 4).toInt64.toUInt64 &&& Int64.toUInt64 63)).toInt64) hx hb d_Lg_bitCount_27 rfl ?_
  refine lv_ladd hx hb d_Lg_bitCount_28 ?_
  refine lv_ldc2 (v := 1085102592571150095) hx hb hown (hts _ (List.mem_cons_of_mem _ iw_243)) d_Lg_bitCount_29 ?_
  refine lv_land hx hb d_Lg_bitCount_32 ?_
  refine lv_topl (fun i3 e3 => ?_)
  refine lv_lstore_n (lv' := [(0, .long i3)]) hx hb d_Lg_bitCount_33 rfl hl (by decide) rfl (fun ls hl => ?_)
  refine lv_lload_n hx hb d_Lg_bitCount_34 rfl (lv_at hl 0 rfl) ?_
  refine lv_lload_n hx hb d_Lg_bitCount_35 rfl (lv_at hl 0 rfl) ?_
  refine lv_bipush (v := nI 8) hx hb d_Lg_bitCount_36 (by decide) ?_
  refine lv_lushr (v := (i3.toUInt64 >>> ((nI 8).toInt64.toUInt64 &&& Int64.toUInt64 63)).toInt64) hx hb d_Lg_bitCount_38 rfl ?_
  refine lv_ladd hx hb d_Lg_bitCount_39 ?_
  refine lv_topl (fun i4 e4 => ?_)
  refine lv_lstore_n (lv' := [(0, .long i4)]) hx hb d_Lg_bitCount_40 rfl hl (by decide) rfl (fun ls hl => ?_)
  refine lv_lload_n hx hb d_Lg_bitCount_41 rfl (lv_at hl 0 rfl) ?_
  refine lv_lload_n hx hb d_Lg_bitCount_42 rfl (lv_at hl 0 rfl) ?_
  refine lv_bipush (v := nI 16) hx hb d_Lg_bitCount_43 (by decide) ?_
  refine lv_lushr (v := (i4.toUInt64 >>> ((nI 16).toInt64.toUInt64 &&& Int64.toUInt64 63)).toInt64) hx hb d_Lg_bitCount_45 rfl ?_
  refine lv_ladd hx hb d_Lg_bitCount_46 ?_
  refine lv_topl (fun i5 e5 => ?_)
  refine lv_lstore_n (lv' := [(0, .long i5)]) hx hb d_Lg_bitCount_47 rfl hl (by decide) rfl (fun ls hl => ?_)
  refine lv_lload_n hx hb d_Lg_bitCount_48 rfl (lv_at hl 0 rfl) ?_
  refine lv_lload_n hx hb d_Lg_bitCount_49 rfl (lv_at hl 0 rfl) ?_
  refine lv_bipush (v := nI 32) hx hb d_Lg_bitCount_50 (by decide) ?_
  refine lv_lushr (v := (i5.toUInt64 >>> ((nI 32).toInt64.toUInt64 &&& Int64.toUInt64 63)).toInt64) hx hb d_Lg_bitCount_52 rfl ?_
  refine lv_ladd hx hb d_Lg_bitCount_53 ?_
  refine lv_topl (fun i6 e6 => ?_)
  refine lv_lstore_n (lv' := [(0, .long i6)]) hx hb d_Lg_bitCount_54 rfl hl (by decide) rfl (fun ls hl => ?_)
  refine lv_lload_n hx hb d_Lg_bitCount_55 rfl (lv_at hl 0 rfl) ?_
  refine lv_l2i (v := (i6).toInt32) hx hb d_Lg_bitCount_56 rfl ?_
  refine lv_bipush (v := nI 127) hx hb d_Lg_bitCount_57 (by decide) ?_
  refine lv_iand hx hb d_Lg_bitCount_59 ?_
  exact W.iret hx hb hr (fun t9 ht9 _ => ⟨_, rfl, (bc_fin e1 e2 e3 e4 e5 e6), ht9⟩) (fun _ h => by cases h) d_Lg_bitCount_60
set_option maxHeartbeats 4000000 in
set_option maxRecDepth 100000 in
theorem c_S_only (l : Launch) (k : Nat) : Met l y_S_only w_S_only ({ frames := 0, cells := 0, slots := 0, locals := 0 }) (va_Pc [Value.int (nI k)] NW) (vp_Sl (fun r : Int64 => r = bt k)) 0 0 (fun _ => False) := by
  refine Met.ofW (cc := b_S_only) (maxL := 1) (ret := (some .long)) (by decide) rfl ?_
  intro p e s m args below meth c s₁ B hml hv
  obtain ⟨rfl, hN⟩ := hv
  have hx := B.exec
  have hb := B.bytes
  have hr := B.returns
  have hts := atoms_spec (ws := w_S_only) B.pre
  have hown : s.vm.findClass "SeatProofs" = some m.cls := findClass_of_methodNamed B.named
  have hlocks := B.notSynchronized
  have hl := lv_entry ([Value.int (nI k)]) (n := 1) (Nat.le_of_ble_eq_true rfl)
  rw [lg_entry_eq]
  generalize (lg_sl ([Value.int (nI k)]) ++ List.replicate (1 - (lg_sl ([Value.int (nI k)])).length) Slot.unset).toArray = ls at hl ⊢
  have hl : lv_has ls 1 [(0, .int (nI k))] := hl
  refine lv_lconst (v := 1) hx hb d_S_only_0 (by decide) ?_
  refine lv_iload_n hx hb d_S_only_1 rfl (lv_at hl 0 rfl) ?_
  refine lv_lshl (v := 1 <<< ((nI k).toInt64 &&& 63)) hx hb d_S_only_2 rfl ?_
  refine tp_l (bt k) rfl ?_
  exact W.lret hx hb hr (fun t9 ht9 _ => ⟨_, rfl, rfl, ht9⟩) (fun _ h => by cases h) d_S_only_3
set_option maxHeartbeats 4000000 in
set_option maxRecDepth 100000 in
theorem c_S_has (l : Launch) (x : Int64) (k : Nat) (hk : k < 64) : Met l y_S_has w_S_has ({ frames := 1, cells := 0, slots := 0, locals := 20 }) (va_Pc [Value.long x, Value.int (nI k)] NW) (vp_Si (fun r : Int32 => r = bI (tb x k))) 0 0 (fun _ => False) := by
  refine Met.ofW (cc := b_S_has) (maxL := 3) (ret := (some .boolean)) (by decide) rfl ?_
  intro p e s m args below meth c s₁ B hml hv
  obtain ⟨rfl, hN⟩ := hv
  have hx := B.exec
  have hb := B.bytes
  have hr := B.returns
  have hts := atoms_spec (ws := w_S_has) B.pre
  have hown : s.vm.findClass "SeatProofs" = some m.cls := findClass_of_methodNamed B.named
  have hlocks := B.notSynchronized
  have hl := lv_entry ([Value.long x, Value.int (nI k)]) (n := 3) (Nat.le_of_ble_eq_true rfl)
  rw [lg_entry_eq]
  generalize (lg_sl ([Value.long x, Value.int (nI k)]) ++ List.replicate (3 - (lg_sl ([Value.long x, Value.int (nI k)])).length) Slot.unset).toArray = ls at hl ⊢
  have hl : lv_has ls 3 [(0, .long x), (2, .int (nI k))] := hl
  refine lv_lload_n hx hb d_S_has_0 rfl (lv_at hl 0 rfl) ?_
  refine lv_iload_n hx hb d_S_has_1 rfl (lv_at hl 1 rfl) ?_
  refine vp_callSl (va_Run.run (va_runS (As := [.int (nI k)]) (rest := [.long x]) ⟨hx, hb, hml, hown, hts⟩ (c_S_only l k) (va_cwS 1 hts (good_up (good_S iw_193 iw_156 iw_1 gg_S_only)) rfl rfl rfl (by decide +kernel) ⟨Nat.le_of_ble_eq_true rfl, Nat.le_of_ble_eq_true rfl⟩) (ps_0 [.int (nI k)] hN) rfl rfl hl.1 rfl (lv_room (Nat.le_of_ble_eq_true rfl)) d_S_has_2 ⟨Nat.le_of_ble_eq_true rfl, Nat.le_of_ble_eq_true rfl⟩)) (fun r_1 hr_1 => ?_)
  subst hr_1
  refine lv_land hx hb d_S_has_5 ?_
  refine lv_lconst (v := 0) hx hb d_S_has_6 (by decide) ?_
  refine W.lcmp hx hb d_S_has_7 ?_
  refine l0_eq (tgt := 15) hx hb d_S_has_8 (by decide) (fun c_2 => ?_) (fun c_2 => ?_)
  · refine lv_iconst (v := nI 0) hx hb d_S_has_15 (by decide) ?_
    refine tp_i (bI false) (by decide) ?_
    exact W.zret hx hb hr (bI_narrow _) (fun t9 ht9 _ => ⟨_, rfl, (by rw [(tb_has x hk).mp c_2]), ht9⟩) (fun _ h => by cases h) d_S_has_16
  · refine lv_iconst (v := nI 1) hx hb d_S_has_11 (by decide) ?_
    refine lv_goto (tgt := 16) hx hb d_S_has_12 (by decide) ?_
    refine tp_i (bI true) (by decide) ?_
    exact W.zret hx hb hr (bI_narrow _) (fun t9 ht9 _ => ⟨_, rfl, (by rw [ts_nf (fun h => c_2 ((tb_has x hk).mpr h))]), ht9⟩) (fun _ h => by cases h) d_S_has_16
set_option maxHeartbeats 4000000 in
set_option maxRecDepth 100000 in
theorem c_S_lowest (l : Launch) (x : Int64) : Met l y_S_lowest w_S_lowest ({ frames := 1, cells := 0, slots := 0, locals := 21 }) (va_Pc [Value.long x] NW) (vp_Si (fun r : Int32 => r = nI (lowN x))) 0 0 (fun _ => False) := by
  refine Met.ofW (cc := b_S_lowest) (maxL := 2) (ret := (some .int)) (by decide) rfl ?_
  intro p e s m args below meth c s₁ B hml hv
  obtain ⟨rfl, hN⟩ := hv
  have hx := B.exec
  have hb := B.bytes
  have hr := B.returns
  have hts := atoms_spec (ws := w_S_lowest) B.pre
  have hown : s.vm.findClass "SeatProofs" = some m.cls := findClass_of_methodNamed B.named
  have hlocks := B.notSynchronized
  have hl := lv_entry ([Value.long x]) (n := 2) (Nat.le_of_ble_eq_true rfl)
  rw [lg_entry_eq]
  generalize (lg_sl ([Value.long x]) ++ List.replicate (2 - (lg_sl ([Value.long x])).length) Slot.unset).toArray = ls at hl ⊢
  have hl : lv_has ls 2 [(0, .long x)] := hl
  refine lv_lload_n hx hb d_S_lowest_0 rfl (lv_at hl 0 rfl) ?_
  refine lv_lload_n hx hb d_S_lowest_1 rfl (lv_at hl 0 rfl) ?_
  refine lv_lneg hx hb d_S_lowest_2 ?_
  refine lv_land hx hb d_S_lowest_3 ?_
  refine lv_lconst (v := 1) hx hb d_S_lowest_4 (by decide) ?_
  refine lv_lsub hx hb d_S_lowest_5 ?_
  refine vp_callSi (va_Run.run (va_runS (As := [.long ((x &&& (-x)) - 1)]) (rest := []) ⟨hx, hb, hml, hown, hts⟩ (c_Lg_bitCount l ((x &&& (-x)) - 1)) (va_cwS 1 hts (good_up (good_S iw_238 iw_239 iw_6 gg_Lg_bitCount)) rfl rfl rfl (by decide +kernel) ⟨Nat.le_of_ble_eq_true rfl, Nat.le_of_ble_eq_true rfl⟩) (ps_0 [.long ((x &&& (-x)) - 1)] hN) rfl rfl hl.1 rfl (lv_room (Nat.le_of_ble_eq_true rfl)) d_S_lowest_6 ⟨Nat.le_of_ble_eq_true rfl, Nat.le_of_ble_eq_true rfl⟩)) (fun r_1 hr_1 => ?_)
  subst hr_1
  exact W.iret hx hb hr (fun t9 ht9 _ => ⟨_, rfl, rfl, ht9⟩) (fun _ h => by cases h) d_S_lowest_9
set_option maxHeartbeats 4000000 in
set_option maxRecDepth 100000 in
theorem c_S_isLiquid (l : Launch) (x : Int32) : Met l y_S_isLiquid w_S_isLiquid ({ frames := 0, cells := 0, slots := 0, locals := 0 }) (va_Pc [Value.int x] NW) (vp_Si (fun r : Int32 => r = bI (liqB x))) 0 0 (fun _ => False) := by
  refine Met.ofW (cc := b_S_isLiquid) (maxL := 1) (ret := (some .boolean)) (by decide) rfl ?_
  intro p e s m args below meth c s₁ B hml hv
  obtain ⟨rfl, hN⟩ := hv
  have hx := B.exec
  have hb := B.bytes
  have hr := B.returns
  have hts := atoms_spec (ws := w_S_isLiquid) B.pre
  have hown : s.vm.findClass "SeatProofs" = some m.cls := findClass_of_methodNamed B.named
  have hlocks := B.notSynchronized
  have hl := lv_entry ([Value.int x]) (n := 1) (Nat.le_of_ble_eq_true rfl)
  rw [lg_entry_eq]
  generalize (lg_sl ([Value.int x]) ++ List.replicate (1 - (lg_sl ([Value.int x])).length) Slot.unset).toArray = ls at hl ⊢
  have hl : lv_has ls 1 [(0, .int x)] := hl
  refine lv_iload_n hx hb d_S_isLiquid_0 rfl (lv_at hl 0 rfl) ?_
  refine lv_iconst (v := nI 1) hx hb d_S_isLiquid_1 (by decide) ?_
  refine lv_icmp_lt (tgt := 15) hx hb d_S_isLiquid_2 (by decide) (fun c_1 => ?_) (fun c_1 => ?_)
  · refine lv_iconst (v := nI 0) hx hb d_S_isLiquid_15 (by decide) ?_
    refine tp_i (bI false) (by decide) ?_
    exact W.zret hx hb hr (bI_narrow _) (fun t9 ht9 _ => ⟨_, rfl, (by simp [liqB, c_1]), ht9⟩) (fun _ h => by cases h) d_S_isLiquid_16
  · refine lv_iload_n hx hb d_S_isLiquid_5 rfl (lv_at hl 0 rfl) ?_
    refine lv_bipush (v := nI 16) hx hb d_S_isLiquid_6 (by decide) ?_
    refine lv_icmp_ge (tgt := 15) hx hb d_S_isLiquid_8 (by decide) (fun c_2 => ?_) (fun c_2 => ?_)
    · refine lv_iconst (v := nI 0) hx hb d_S_isLiquid_15 (by decide) ?_
      refine tp_i (bI false) (by decide) ?_
      exact W.zret hx hb hr (bI_narrow _) (fun t9 ht9 _ => ⟨_, rfl, (by simp [liqB, c_1, c_2]), ht9⟩) (fun _ h => by cases h) d_S_isLiquid_16
    · refine lv_iconst (v := nI 1) hx hb d_S_isLiquid_11 (by decide) ?_
      refine lv_goto (tgt := 16) hx hb d_S_isLiquid_12 (by decide) ?_
      refine tp_i (bI true) (by decide) ?_
      exact W.zret hx hb hr (bI_narrow _) (fun t9 ht9 _ => ⟨_, rfl, (by simp [liqB, c_1, c_2]), ht9⟩) (fun _ h => by cases h) d_S_isLiquid_16
set_option maxHeartbeats 4000000 in
set_option maxRecDepth 100000 in
theorem c_P_with (l : Launch) (x : Int64) (k : Nat) (b : Bool) : Met l y_P_with w_P_with ({ frames := 1, cells := 0, slots := 0, locals := 20 }) (va_Pc [Value.long x, Value.int (nI k), Value.int (bI b)] NW) (vp_Sl (fun r : Int64 => r = wth x k b)) 0 0 (fun _ => False) := by
  refine Met.ofW (cc := b_P_with) (maxL := 4) (ret := (some .long)) (by decide) rfl ?_
  intro p e s m args below meth c s₁ B hml hv
  obtain ⟨rfl, hN⟩ := hv
  have hx := B.exec
  have hb := B.bytes
  have hr := B.returns
  have hts := atoms_spec (ws := w_P_with) B.pre
  have hown : s.vm.findClass "SeatProofs$Plant" = some m.cls := findClass_of_methodNamed B.named
  have hlocks := B.notSynchronized
  have hl := lv_entry ([Value.long x, Value.int (nI k), Value.int (bI b)]) (n := 4) (Nat.le_of_ble_eq_true rfl)
  rw [lg_entry_eq]
  generalize (lg_sl ([Value.long x, Value.int (nI k), Value.int (bI b)]) ++ List.replicate (4 - (lg_sl ([Value.long x, Value.int (nI k), Value.int (bI b)])).length) Slot.unset).toArray = ls at hl ⊢
  have hl : lv_has ls 4 [(0, .long x), (2, .int (nI k)), (3, .int (bI b))] := hl
  refine lv_iload_n hx hb d_P_with_0 rfl (lv_at hl 2 rfl) ?_
  refine b0_eq (tgt := 13) hx hb d_P_with_1 (by decide) (fun c_1 => ?_) (fun c_1 => ?_)
  · refine lv_lload_n hx hb d_P_with_13 rfl (lv_at hl 0 rfl) ?_
    refine lv_iload_n hx hb d_P_with_14 rfl (lv_at hl 1 rfl) ?_
    refine vp_callSl (va_Run.run (va_runSN (As := [.int (nI k)]) (rest := [.long x]) ⟨hx, hb, hml, hown, hts⟩ (c_S_only l k) ⟨va_cnB 1 hts (good_up gg_S_only) rfl rfl rfl (hN _ in_155) (hts _ (List.mem_cons_of_mem _ iw_1)) (by decide +kernel) ⟨Nat.le_of_ble_eq_true rfl, Nat.le_of_ble_eq_true rfl⟩, hts _ (List.mem_cons_of_mem _ iw_156), trivial⟩ (ps_0 [.int (nI k)] hN) rfl rfl hl.1 rfl (lv_room (Nat.le_of_ble_eq_true rfl)) d_P_with_15 ⟨Nat.le_of_ble_eq_true rfl, Nat.le_of_ble_eq_true rfl⟩)) (fun r_2 hr_2 => ?_)
    subst hr_2
    refine lv_ldc2 (v := (-1)) hx hb hown (hts _ (List.mem_cons_of_mem _ iw_177)) d_P_with_18 ?_
    refine lv_lxor hx hb d_P_with_21 ?_
    refine lv_land hx hb d_P_with_22 ?_
    exact W.lret hx hb hr (fun t9 ht9 _ => ⟨_, rfl, (by rw [wth, if_neg (fun h => absurd (h.symm.trans c_1) (by decide))]), ht9⟩) (fun _ h => by cases h) d_P_with_23
  · refine lv_lload_n hx hb d_P_with_4 rfl (lv_at hl 0 rfl) ?_
    refine lv_iload_n hx hb d_P_with_5 rfl (lv_at hl 1 rfl) ?_
    refine vp_callSl (va_Run.run (va_runSN (As := [.int (nI k)]) (rest := [.long x]) ⟨hx, hb, hml, hown, hts⟩ (c_S_only l k) ⟨va_cnB 1 hts (good_up gg_S_only) rfl rfl rfl (hN _ in_155) (hts _ (List.mem_cons_of_mem _ iw_1)) (by decide +kernel) ⟨Nat.le_of_ble_eq_true rfl, Nat.le_of_ble_eq_true rfl⟩, hts _ (List.mem_cons_of_mem _ iw_156), trivial⟩ (ps_0 [.int (nI k)] hN) rfl rfl hl.1 rfl (lv_room (Nat.le_of_ble_eq_true rfl)) d_P_with_6 ⟨Nat.le_of_ble_eq_true rfl, Nat.le_of_ble_eq_true rfl⟩)) (fun r_3 hr_3 => ?_)
    subst hr_3
    refine lv_lor hx hb d_P_with_9 ?_
    refine lv_goto (tgt := 23) hx hb d_P_with_10 (by decide) ?_
    exact W.lret hx hb hr (fun t9 ht9 _ => ⟨_, rfl, (by rw [wth, if_pos c_1]), ht9⟩) (fun _ h => by cases h) d_P_with_23
set_option maxHeartbeats 4000000 in
set_option maxRecDepth 100000 in
theorem c_P_hasSpace (l : Launch) (dC : Nat → ClassId) (dI : Nat → Nat → Nat) (q : CA) (u : CSt) (x : Int32) : Met l y_P_hasSpace w_P_hasSpace ({ frames := 0, cells := 0, slots := 0, locals := 0 }) (sPc (dC, dI) vwCl (tC q) (wC q u) [Value.ref (ca_p q), Value.int x]) (vp_Si (fun r : Int32 => r = bI (ixB x (k_nS u)))) 0 0 (fun _ => False) := by
  refine Met.ofW (cc := b_P_hasSpace) (maxL := 2) (ret := (some .boolean)) (by decide) rfl ?_
  intro p e s m args below meth c s₁ B hml hv
  obtain ⟨rfl, hP, hK, hN⟩ := hv
  have hx := B.exec
  have hb := B.bytes
  have hr := B.returns
  have hts := atoms_spec (ws := w_P_hasSpace) B.pre
  have hown : s.vm.findClass "SeatProofs$Plant" = some m.cls := findClass_of_methodNamed B.named
  have hlocks := B.notSynchronized
  have hl := lv_entry ([Value.ref (ca_p q), Value.int x]) (n := 2) (Nat.le_of_ble_eq_true rfl)
  rw [lg_entry_eq]
  generalize (lg_sl ([Value.ref (ca_p q), Value.int x]) ++ List.replicate (2 - (lg_sl ([Value.ref (ca_p q), Value.int x])).length) Slot.unset).toArray = ls at hl ⊢
  have hl : lv_has ls 2 [(0, .ref (ca_p q)), (1, .int x)] := hl
  refine lv_iload_n hx hb d_P_hasSpace_0 rfl (lv_at hl 1 rfl) ?_
  refine lv_if_lt (tgt := 16) hx hb d_P_hasSpace_1 (by decide) (fun c_1 => ?_) (fun c_1 => ?_)
  · refine lv_iconst (v := nI 0) hx hb d_P_hasSpace_16 (by decide) ?_
    refine tp_i (bI false) (by decide) ?_
    exact W.zret hx hb hr (bI_narrow _) (fun t9 ht9 _ => ⟨_, rfl, (by simp [ixB, c_1]), ht9⟩) (fun _ h => by cases h) d_P_hasSpace_17
  · refine lv_iload_n hx hb d_P_hasSpace_4 rfl (lv_at hl 1 rfl) ?_
    refine lv_aload_n hx hb d_P_hasSpace_5 rfl (lv_at hl 0 rfl) ?_
    refine va_get (D := (dC, dI)) (ci := 0) (v := .int (nI (k_nS u))) (C := "SeatProofs$Plant") (T := F_P) (N := 12) hx hb hts (iu_P _) hown hK hP 1 rfl rfl 0 (by decide) (hts _ (List.mem_cons_of_mem _ iw_26)) (fun _ h9 => h9) rfl d_P_hasSpace_6 ?_
    refine lv_icmp_ge (tgt := 16) hx hb d_P_hasSpace_9 (by decide) (fun c_2 => ?_) (fun c_2 => ?_)
    · refine lv_iconst (v := nI 0) hx hb d_P_hasSpace_16 (by decide) ?_
      refine tp_i (bI false) (by decide) ?_
      exact W.zret hx hb hr (bI_narrow _) (fun t9 ht9 _ => ⟨_, rfl, (by simp [ixB, c_1, c_2]), ht9⟩) (fun _ h => by cases h) d_P_hasSpace_17
    · refine lv_iconst (v := nI 1) hx hb d_P_hasSpace_12 (by decide) ?_
      refine lv_goto (tgt := 17) hx hb d_P_hasSpace_13 (by decide) ?_
      refine tp_i (bI true) (by decide) ?_
      exact W.zret hx hb hr (bI_narrow _) (fun t9 ht9 _ => ⟨_, rfl, (by simp [ixB, c_1, c_2]), ht9⟩) (fun _ h => by cases h) d_P_hasSpace_17
set_option maxHeartbeats 4000000 in
set_option maxRecDepth 100000 in
theorem c_P_hasValve (l : Launch) (dC : Nat → ClassId) (dI : Nat → Nat → Nat) (q : CA) (u : CSt) (x : Int32) : Met l y_P_hasValve w_P_hasValve ({ frames := 0, cells := 0, slots := 0, locals := 0 }) (sPc (dC, dI) vwCl (tC q) (wC q u) [Value.ref (ca_p q), Value.int x]) (vp_Si (fun r : Int32 => r = bI (ixB x (k_nV u)))) 0 0 (fun _ => False) := by
  refine Met.ofW (cc := b_P_hasValve) (maxL := 2) (ret := (some .boolean)) (by decide) rfl ?_
  intro p e s m args below meth c s₁ B hml hv
  obtain ⟨rfl, hP, hK, hN⟩ := hv
  have hx := B.exec
  have hb := B.bytes
  have hr := B.returns
  have hts := atoms_spec (ws := w_P_hasValve) B.pre
  have hown : s.vm.findClass "SeatProofs$Plant" = some m.cls := findClass_of_methodNamed B.named
  have hlocks := B.notSynchronized
  have hl := lv_entry ([Value.ref (ca_p q), Value.int x]) (n := 2) (Nat.le_of_ble_eq_true rfl)
  rw [lg_entry_eq]
  generalize (lg_sl ([Value.ref (ca_p q), Value.int x]) ++ List.replicate (2 - (lg_sl ([Value.ref (ca_p q), Value.int x])).length) Slot.unset).toArray = ls at hl ⊢
  have hl : lv_has ls 2 [(0, .ref (ca_p q)), (1, .int x)] := hl
  refine lv_iload_n hx hb d_P_hasValve_0 rfl (lv_at hl 1 rfl) ?_
  refine lv_if_lt (tgt := 16) hx hb d_P_hasValve_1 (by decide) (fun c_1 => ?_) (fun c_1 => ?_)
  · refine lv_iconst (v := nI 0) hx hb d_P_hasValve_16 (by decide) ?_
    refine tp_i (bI false) (by decide) ?_
    exact W.zret hx hb hr (bI_narrow _) (fun t9 ht9 _ => ⟨_, rfl, (by simp [ixB, c_1]), ht9⟩) (fun _ h => by cases h) d_P_hasValve_17
  · refine lv_iload_n hx hb d_P_hasValve_4 rfl (lv_at hl 1 rfl) ?_
    refine lv_aload_n hx hb d_P_hasValve_5 rfl (lv_at hl 0 rfl) ?_
    refine va_get (D := (dC, dI)) (ci := 0) (v := .int (nI (k_nV u))) (C := "SeatProofs$Plant") (T := F_P) (N := 12) hx hb hts (iu_P _) hown hK hP 1 rfl rfl 1 (by decide) (hts _ (List.mem_cons_of_mem _ iw_29)) (fun _ h9 => h9) rfl d_P_hasValve_6 ?_
    refine lv_icmp_ge (tgt := 16) hx hb d_P_hasValve_9 (by decide) (fun c_2 => ?_) (fun c_2 => ?_)
    · refine lv_iconst (v := nI 0) hx hb d_P_hasValve_16 (by decide) ?_
      refine tp_i (bI false) (by decide) ?_
      exact W.zret hx hb hr (bI_narrow _) (fun t9 ht9 _ => ⟨_, rfl, (by simp [ixB, c_1, c_2]), ht9⟩) (fun _ h => by cases h) d_P_hasValve_17
    · refine lv_iconst (v := nI 1) hx hb d_P_hasValve_12 (by decide) ?_
      refine lv_goto (tgt := 17) hx hb d_P_hasValve_13 (by decide) ?_
      refine tp_i (bI true) (by decide) ?_
      exact W.zret hx hb hr (bI_narrow _) (fun t9 ht9 _ => ⟨_, rfl, (by simp [ixB, c_1, c_2]), ht9⟩) (fun _ h => by cases h) d_P_hasValve_17
set_option maxHeartbeats 4000000 in
set_option maxRecDepth 100000 in
theorem c_P_areFriends (l : Launch) (dC : Nat → ClassId) (dI : Nat → Nat → Nat) (q : CA) (u : CSt) (a b : Nat) (ha : a < 16) (hb9 : b < 16) : Met l y_P_areFriends w_P_areFriends ({ frames := 0, cells := 0, slots := 0, locals := 0 }) (sPc (dC, dI) vwCl (tC q) (wC q u) [Value.ref (ca_p q), Value.int (nI a), Value.int (nI b)]) (vp_Si (fun r : Int32 => r = bI (t32 (k_fr u a) b))) 0 0 (fun _ => False) := by
  refine Met.ofW (cc := b_P_areFriends) (maxL := 3) (ret := (some .boolean)) (by decide) rfl ?_
  intro p e s m args below meth c s₁ B hml hv
  obtain ⟨rfl, hP, hK, hN⟩ := hv
  have hx := B.exec
  have hb := B.bytes
  have hr := B.returns
  have hts := atoms_spec (ws := w_P_areFriends) B.pre
  have hown : s.vm.findClass "SeatProofs$Plant" = some m.cls := findClass_of_methodNamed B.named
  have hlocks := B.notSynchronized
  have hl := lv_entry ([Value.ref (ca_p q), Value.int (nI a), Value.int (nI b)]) (n := 3) (Nat.le_of_ble_eq_true rfl)
  rw [lg_entry_eq]
  generalize (lg_sl ([Value.ref (ca_p q), Value.int (nI a), Value.int (nI b)]) ++ List.replicate (3 - (lg_sl ([Value.ref (ca_p q), Value.int (nI a), Value.int (nI b)])).length) Slot.unset).toArray = ls at hl ⊢
  have hl : lv_has ls 3 [(0, .ref (ca_p q)), (1, .int (nI a)), (2, .int (nI b))] := hl
  refine lv_aload_n hx hb d_P_areFriends_0 rfl (lv_at hl 0 rfl) ?_
  refine va_get (D := (dC, dI)) (ci := 0) (v := .ref (ca_fr q)) (C := "SeatProofs$Plant") (T := F_P) (N := 12) hx hb hts (iu_P _) hown hK hP 1 rfl rfl 4 (by decide) (hts _ (List.mem_cons_of_mem _ iw_35)) (fun _ h9 => h9) rfl d_P_areFriends_1 ?_
  refine lv_iload_n hx hb d_P_areFriends_4 rfl (lv_at hl 1 rfl) ?_
  refine ld_i hx hb hK hP 6 0 rfl rfl (k_fr u a) (by omega) (by decide) rfl d_P_areFriends_5 ?_
  refine lv_iconst (v := nI 1) hx hb d_P_areFriends_6 (by decide) ?_
  refine lv_iload_n hx hb d_P_areFriends_7 rfl (lv_at hl 2 rfl) ?_
  refine lv_ishl hx hb d_P_areFriends_8 ?_
  refine tp_i (b32 b) rfl ?_
  refine lv_iand hx hb d_P_areFriends_9 ?_
  refine lv_if_eq (tgt := 17) hx hb d_P_areFriends_10 (by decide) (fun c_1 => ?_) (fun c_1 => ?_)
  · refine lv_iconst (v := nI 0) hx hb d_P_areFriends_17 (by decide) ?_
    refine tp_i (bI false) (by decide) ?_
    exact W.zret hx hb hr (bI_narrow _) (fun t9 ht9 _ => ⟨_, rfl, (by rw [(t32_has _ hb9).mp c_1]), ht9⟩) (fun _ h => by cases h) d_P_areFriends_18
  · refine lv_iconst (v := nI 1) hx hb d_P_areFriends_13 (by decide) ?_
    refine lv_goto (tgt := 18) hx hb d_P_areFriends_14 (by decide) ?_
    refine tp_i (bI true) (by decide) ?_
    exact W.zret hx hb hr (bI_narrow _) (fun t9 ht9 _ => ⟨_, rfl, (by rw [ts_nf (fun h => c_1 ((t32_has _ hb9).mpr h))]), ht9⟩) (fun _ h => by cases h) d_P_areFriends_18
set_option maxHeartbeats 4000000 in
set_option maxRecDepth 100000 in
theorem c_P_rowsDue (l : Launch) (dC : Nat → ClassId) (dI : Nat → Nat → Nat) (q : CA) (u : CSt) (h1 : k_nV u ≤ 64) : Met l y_P_rowsDue w_P_rowsDue ({ frames := 0, cells := 0, slots := 0, locals := 0 }) (sPc (dC, dI) vwCl (tC q) (wC q u) [Value.ref (ca_p q)]) (vp_Si (fun r : Int32 => ∃ n, n < 2000 ∧ r = nI n)) 0 0 (fun _ => False) := by
  refine Met.ofW (cc := b_P_rowsDue) (maxL := 3) (ret := (some .int)) (by decide) rfl ?_
  intro p e s m args below meth c s₁ B hml hv
  obtain ⟨rfl, hP, hK, hN⟩ := hv
  have hx := B.exec
  have hb := B.bytes
  have hr := B.returns
  have hts := atoms_spec (ws := w_P_rowsDue) B.pre
  have hown : s.vm.findClass "SeatProofs$Plant" = some m.cls := findClass_of_methodNamed B.named
  have hlocks := B.notSynchronized
  have hl := lv_entry ([Value.ref (ca_p q)]) (n := 3) (Nat.le_of_ble_eq_true rfl)
  rw [lg_entry_eq]
  generalize (lg_sl ([Value.ref (ca_p q)]) ++ List.replicate (3 - (lg_sl ([Value.ref (ca_p q)])).length) Slot.unset).toArray = ls at hl ⊢
  have hl : lv_has ls 3 [(0, .ref (ca_p q))] := hl
  refine lv_iconst (v := nI 0) hx hb d_P_rowsDue_0 (by decide) ?_
  refine lv_istore_n (lv' := [(1, .int (nI 0)), (0, .ref (ca_p q))]) hx hb d_P_rowsDue_1 rfl hl (by decide) rfl (fun ls hl => ?_)
  refine lv_iconst (v := nI 1) hx hb d_P_rowsDue_2 (by decide) ?_
  refine lv_istore_n (lv' := [(2, .int (nI 1)), (1, .int (nI 0)), (0, .ref (ca_p q))]) hx hb d_P_rowsDue_3 rfl hl (by decide) rfl (fun ls hl => ?_)
  have L4 : ∀ (n4 : Nat) (i : Nat) (n : Nat), (1 ≤ i) → (i ≤ 16) → (n + 1 ≤ i) → 16 - i < n4 → ∀ (ls : Array Slot), lv_has ls 3 [(0, .ref (ca_p q)), (1, .int (nI n)), (2, .int (nI i))] → W p l e (headSpec w_P_rowsDue ({ frames := 0, cells := 0, slots := 0, locals := 0 })).room s m [Value.ref (ca_p q)].toArray below meth c s.heap [] 0 0 (MQ below (vp_Si (fun r : Int32 => ∃ n, n < 2000 ∧ r = nI n)) [Value.ref (ca_p q)].toArray s 0 0 (fun _ => False)) (F0 m 4 ls []) := by
    intro n4
    induction n4 with
    | zero => intro i n hi4 hi4b hn4 hm; exact absurd hm (Nat.not_lt_zero _)
    | succ n4 ih4 =>
      intro i n hi4 hi4b hn4 hm4 ls hl
      refine lv_iload_n hx hb d_P_rowsDue_4 rfl (lv_at hl 2 rfl) ?_
      refine lv_bipush (v := nI 16) hx hb d_P_rowsDue_5 (by decide) ?_
      refine nv_ge (tgt := 30) hx hb d_P_rowsDue_7 (by decide) (by omega) (by omega) (fun c_1 => ?_) (fun c_1 => ?_)
      · refine lv_iconst (v := nI 1) hx hb d_P_rowsDue_30 (by decide) ?_
        refine lv_aload_n hx hb d_P_rowsDue_31 rfl (lv_at hl 0 rfl) ?_
        refine va_get (D := (dC, dI)) (ci := 0) (v := .int (nI (k_nV u))) (C := "SeatProofs$Plant") (T := F_P) (N := 12) hx hb hts (iu_P _) hown hK hP 1 rfl rfl 1 (by decide) (hts _ (List.mem_cons_of_mem _ iw_29)) (fun _ h9 => h9) rfl d_P_rowsDue_32 ?_
        refine lv_iadd hx hb d_P_rowsDue_35 ?_
        refine tp_i (nI (1 + k_nV u)) (nI_add _ _) ?_
        refine lv_iload_n hx hb d_P_rowsDue_36 rfl (lv_at hl 1 rfl) ?_
        refine lv_imul hx hb d_P_rowsDue_37 ?_
        refine tp_i (nI ((1 + k_nV u) * n)) (pk_mul _ _) ?_
        exact W.iret hx hb hr (fun t9 ht9 _ => ⟨_, rfl, ⟨_, (by have := Nat.mul_le_mul (show 1 + k_nV u ≤ 65 by omega) (show n ≤ 15 by omega); omega), rfl⟩, ht9⟩) (fun _ h => by cases h) d_P_rowsDue_38
      · refine lv_aload_n hx hb d_P_rowsDue_10 rfl (lv_at hl 0 rfl) ?_
        refine va_get (D := (dC, dI)) (ci := 0) (v := .ref (ca_src q)) (C := "SeatProofs$Plant") (T := F_P) (N := 12) hx hb hts (iu_P _) hown hK hP 1 rfl rfl 3 (by decide) (hts _ (List.mem_cons_of_mem _ iw_33)) (fun _ h9 => h9) rfl d_P_rowsDue_11 ?_
        refine lv_iload_n hx hb d_P_rowsDue_14 rfl (lv_at hl 2 rfl) ?_
        refine ld_l hx hb hK hP 5 1 rfl rfl (k_src u i) (by omega) (by decide) rfl d_P_rowsDue_15 ?_
        refine lv_lconst (v := 0) hx hb d_P_rowsDue_16 (by decide) ?_
        refine W.lcmp hx hb d_P_rowsDue_17 ?_
        refine l0_eq (tgt := 24) hx hb d_P_rowsDue_18 (by decide) (fun c_2 => ?_) (fun c_2 => ?_)
        · refine lv_iinc (v := nI (i + 1)) (lv' := [(2, .int (nI (i + 1))), (0, .ref (ca_p q)), (1, .int (nI n))]) hx hb d_P_rowsDue_24 hl (k := 2) rfl (nI_1 _) (by decide) rfl (fun ls hl => ?_)
          refine lv_goto (tgt := 4) hx hb d_P_rowsDue_27 (by decide) ?_
          exact ih4 (i + 1) n (by omega) (by omega) (by omega) (by omega) ls (lv_sub hl [1, 2, 0] rfl)
        · refine lv_iinc (v := nI (n + 1)) (lv' := [(1, .int (nI (n + 1))), (0, .ref (ca_p q)), (2, .int (nI i))]) hx hb d_P_rowsDue_21 hl (k := 1) rfl (nI_1 _) (by decide) rfl (fun ls hl => ?_)
          refine lv_iinc (v := nI (i + 1)) (lv' := [(2, .int (nI (i + 1))), (1, .int (nI (n + 1))), (0, .ref (ca_p q))]) hx hb d_P_rowsDue_24 hl (k := 2) rfl (nI_1 _) (by decide) rfl (fun ls hl => ?_)
          refine lv_goto (tgt := 4) hx hb d_P_rowsDue_27 (by decide) ?_
          exact ih4 (i + 1) (n + 1) (by omega) (by omega) (by omega) (by omega) ls (lv_sub hl [2, 1, 0] rfl)
  exact L4 _ 1 0 (by omega) (by omega) (by omega) (Nat.lt_succ_self _) ls (lv_sub hl [2, 1, 0] rfl)
set_option maxHeartbeats 4000000 in
set_option maxRecDepth 100000 in
theorem c_P_letting (l : Launch) (dC : Nat → ClassId) (dI : Nat → Nat → Nat) (q : CA) (u : CSt) (f : Nat) (hf : f < 66) : Met l y_P_letting w_P_letting ({ frames := 1, cells := 0, slots := 0, locals := 20 }) (sPc (dC, dI) vwCl (tC q) (wC q u) [Value.ref (ca_p q), Value.int (nI f)]) (vp_Sl (fun r : Int64 => r = kl u f)) 0 0 (fun _ => False) := by
  refine Met.ofW (cc := b_P_letting) (maxL := 6) (ret := (some .long)) (by decide) rfl ?_
  intro p e s m args below meth c s₁ B hml hv
  obtain ⟨rfl, hP, hK, hN⟩ := hv
  have hx := B.exec
  have hb := B.bytes
  have hr := B.returns
  have hts := atoms_spec (ws := w_P_letting) B.pre
  have hown : s.vm.findClass "SeatProofs$Plant" = some m.cls := findClass_of_methodNamed B.named
  have hlocks := B.notSynchronized
  have hl := lv_entry ([Value.ref (ca_p q), Value.int (nI f)]) (n := 6) (Nat.le_of_ble_eq_true rfl)
  rw [lg_entry_eq]
  generalize (lg_sl ([Value.ref (ca_p q), Value.int (nI f)]) ++ List.replicate (6 - (lg_sl ([Value.ref (ca_p q), Value.int (nI f)])).length) Slot.unset).toArray = ls at hl ⊢
  have hl : lv_has ls 6 [(0, .ref (ca_p q)), (1, .int (nI f))] := hl
  refine lv_iload_n hx hb d_P_letting_0 rfl (lv_at hl 1 rfl) ?_
  refine n0_ne (tgt := 8) hx hb d_P_letting_1 (by decide) (by omega) (fun c_1 => ?_) (fun c_1 => ?_)
  · refine lv_iload_n hx hb d_P_letting_8 rfl (lv_at hl 1 rfl) ?_
    refine lv_iconst (v := nI 1) hx hb d_P_letting_9 (by decide) ?_
    refine lv_isub hx hb d_P_letting_10 ?_
    refine tp_i (nI (f - 1)) (pk_sub (by omega)) ?_
    refine vp_callSl (va_Run.run (va_runSN (As := [.int (nI (f - 1))]) (rest := []) ⟨hx, hb, hml, hown, hts⟩ (c_S_only l (f - 1)) ⟨va_cnB 1 hts (good_up gg_S_only) rfl rfl rfl (hN _ in_155) (hts _ (List.mem_cons_of_mem _ iw_1)) (by decide +kernel) ⟨Nat.le_of_ble_eq_true rfl, Nat.le_of_ble_eq_true rfl⟩, hts _ (List.mem_cons_of_mem _ iw_156), trivial⟩ (ps_0 [.int (nI (f - 1))] hN) rfl rfl hl.1 rfl (lv_room (Nat.le_of_ble_eq_true rfl)) d_P_letting_11 ⟨Nat.le_of_ble_eq_true rfl, Nat.le_of_ble_eq_true rfl⟩)) (fun r_2 hr_2 => ?_)
    subst hr_2
    refine lv_lstore_n (lv' := [(2, .long (bt (f - 1))), (0, .ref (ca_p q)), (1, .int (nI f))]) hx hb d_P_letting_14 rfl hl (by decide) rfl (fun ls hl => ?_)
    refine lv_aload_n hx hb d_P_letting_15 rfl (lv_at hl 1 rfl) ?_
    refine va_get (D := (dC, dI)) (ci := 0) (v := .long (k_dbl u)) (C := "SeatProofs$Plant") (T := F_P) (N := 12) hx hb hts (iu_P _) hown hK hP 1 rfl rfl 9 (by decide) (hts _ (List.mem_cons_of_mem _ iw_45)) (fun _ h9 => h9) rfl d_P_letting_16 ?_
    refine lv_aload_n hx hb d_P_letting_19 rfl (lv_at hl 1 rfl) ?_
    refine va_get (D := (dC, dI)) (ci := 0) (v := .long (k_opn u)) (C := "SeatProofs$Plant") (T := F_P) (N := 12) hx hb hts (iu_P _) hown hK hP 1 rfl rfl 7 (by decide) (hts _ (List.mem_cons_of_mem _ iw_42)) (fun _ h9 => h9) rfl d_P_letting_20 ?_
    refine lv_ldc2 (v := (-1)) hx hb hown (hts _ (List.mem_cons_of_mem _ iw_177)) d_P_letting_23 ?_
    refine lv_lxor hx hb d_P_letting_26 ?_
    refine lv_land hx hb d_P_letting_27 ?_
    refine lv_lstore (lv' := [(4, .long ((k_dbl u) &&& ((k_opn u) ^^^ ((-1))))), (2, .long (bt (f - 1))), (0, .ref (ca_p q)), (1, .int (nI f))]) hx hb d_P_letting_28 hl (by decide) rfl (fun ls hl => ?_)
    refine lv_aload_n hx hb d_P_letting_30 rfl (lv_at hl 2 rfl) ?_
    refine va_get (D := (dC, dI)) (ci := 0) (v := .long (k_opn u)) (C := "SeatProofs$Plant") (T := F_P) (N := 12) hx hb hts (iu_P _) hown hK hP 1 rfl rfl 7 (by decide) (hts _ (List.mem_cons_of_mem _ iw_42)) (fun _ h9 => h9) rfl d_P_letting_31 ?_
    refine lv_lload_n hx hb d_P_letting_34 rfl (lv_at hl 1 rfl) ?_
    refine lv_ldc2 (v := (-1)) hx hb hown (hts _ (List.mem_cons_of_mem _ iw_177)) d_P_letting_35 ?_
    refine lv_lxor hx hb d_P_letting_38 ?_
    refine lv_land hx hb d_P_letting_39 ?_
    refine lv_lload_n hx hb d_P_letting_40 rfl (lv_at hl 1 rfl) ?_
    refine lv_aload_n hx hb d_P_letting_41 rfl (lv_at hl 2 rfl) ?_
    refine va_get (D := (dC, dI)) (ci := 0) (v := .long (k_opn u)) (C := "SeatProofs$Plant") (T := F_P) (N := 12) hx hb hts (iu_P _) hown hK hP 1 rfl rfl 7 (by decide) (hts _ (List.mem_cons_of_mem _ iw_42)) (fun _ h9 => h9) rfl d_P_letting_42 ?_
    refine lv_ldc2 (v := (-1)) hx hb hown (hts _ (List.mem_cons_of_mem _ iw_177)) d_P_letting_45 ?_
    refine lv_lxor hx hb d_P_letting_48 ?_
    refine lv_land hx hb d_P_letting_49 ?_
    refine lv_aload_n hx hb d_P_letting_50 rfl (lv_at hl 2 rfl) ?_
    refine va_get (D := (dC, dI)) (ci := 0) (v := .long (k_dbl u)) (C := "SeatProofs$Plant") (T := F_P) (N := 12) hx hb hts (iu_P _) hown hK hP 1 rfl rfl 9 (by decide) (hts _ (List.mem_cons_of_mem _ iw_45)) (fun _ h9 => h9) rfl d_P_letting_51 ?_
    refine lv_ldc2 (v := (-1)) hx hb hown (hts _ (List.mem_cons_of_mem _ iw_177)) d_P_letting_54 ?_
    refine lv_lxor hx hb d_P_letting_57 ?_
    refine lv_land hx hb d_P_letting_58 ?_
    refine lv_lor hx hb d_P_letting_59 ?_
    refine lv_aload_n hx hb d_P_letting_60 rfl (lv_at hl 2 rfl) ?_
    refine va_get (D := (dC, dI)) (ci := 0) (v := .long (k_uns u)) (C := "SeatProofs$Plant") (T := F_P) (N := 12) hx hb hts (iu_P _) hown hK hP 1 rfl rfl 8 (by decide) (hts _ (List.mem_cons_of_mem _ iw_43)) (fun _ h9 => h9) rfl d_P_letting_61 ?_
    refine lv_lload hx hb d_P_letting_64 (lv_at hl 0 rfl) ?_
    refine lv_ldc2 (v := (-1)) hx hb hown (hts _ (List.mem_cons_of_mem _ iw_177)) d_P_letting_66 ?_
    refine lv_lxor hx hb d_P_letting_69 ?_
    refine lv_land hx hb d_P_letting_70 ?_
    refine lv_lor hx hb d_P_letting_71 ?_
    exact W.lret hx hb hr (fun t9 ht9 _ => ⟨_, rfl, (by rw [kl, kfl, if_neg c_1]), ht9⟩) (fun _ h => by cases h) d_P_letting_72
  · refine lv_lconst (v := 0) hx hb d_P_letting_4 (by decide) ?_
    refine lv_goto (tgt := 14) hx hb d_P_letting_5 (by decide) ?_
    refine lv_lstore_n (lv' := [(2, .long 0), (0, .ref (ca_p q)), (1, .int (nI f))]) hx hb d_P_letting_14 rfl hl (by decide) rfl (fun ls hl => ?_)
    refine lv_aload_n hx hb d_P_letting_15 rfl (lv_at hl 1 rfl) ?_
    refine va_get (D := (dC, dI)) (ci := 0) (v := .long (k_dbl u)) (C := "SeatProofs$Plant") (T := F_P) (N := 12) hx hb hts (iu_P _) hown hK hP 1 rfl rfl 9 (by decide) (hts _ (List.mem_cons_of_mem _ iw_45)) (fun _ h9 => h9) rfl d_P_letting_16 ?_
    refine lv_aload_n hx hb d_P_letting_19 rfl (lv_at hl 1 rfl) ?_
    refine va_get (D := (dC, dI)) (ci := 0) (v := .long (k_opn u)) (C := "SeatProofs$Plant") (T := F_P) (N := 12) hx hb hts (iu_P _) hown hK hP 1 rfl rfl 7 (by decide) (hts _ (List.mem_cons_of_mem _ iw_42)) (fun _ h9 => h9) rfl d_P_letting_20 ?_
    refine lv_ldc2 (v := (-1)) hx hb hown (hts _ (List.mem_cons_of_mem _ iw_177)) d_P_letting_23 ?_
    refine lv_lxor hx hb d_P_letting_26 ?_
    refine lv_land hx hb d_P_letting_27 ?_
    refine lv_lstore (lv' := [(4, .long ((k_dbl u) &&& ((k_opn u) ^^^ ((-1))))), (2, .long 0), (0, .ref (ca_p q)), (1, .int (nI f))]) hx hb d_P_letting_28 hl (by decide) rfl (fun ls hl => ?_)
    refine lv_aload_n hx hb d_P_letting_30 rfl (lv_at hl 2 rfl) ?_
    refine va_get (D := (dC, dI)) (ci := 0) (v := .long (k_opn u)) (C := "SeatProofs$Plant") (T := F_P) (N := 12) hx hb hts (iu_P _) hown hK hP 1 rfl rfl 7 (by decide) (hts _ (List.mem_cons_of_mem _ iw_42)) (fun _ h9 => h9) rfl d_P_letting_31 ?_
    refine lv_lload_n hx hb d_P_letting_34 rfl (lv_at hl 1 rfl) ?_
    refine lv_ldc2 (v := (-1)) hx hb hown (hts _ (List.mem_cons_of_mem _ iw_177)) d_P_letting_35 ?_
    refine lv_lxor hx hb d_P_letting_38 ?_
    refine lv_land hx hb d_P_letting_39 ?_
    refine lv_lload_n hx hb d_P_letting_40 rfl (lv_at hl 1 rfl) ?_
    refine lv_aload_n hx hb d_P_letting_41 rfl (lv_at hl 2 rfl) ?_
    refine va_get (D := (dC, dI)) (ci := 0) (v := .long (k_opn u)) (C := "SeatProofs$Plant") (T := F_P) (N := 12) hx hb hts (iu_P _) hown hK hP 1 rfl rfl 7 (by decide) (hts _ (List.mem_cons_of_mem _ iw_42)) (fun _ h9 => h9) rfl d_P_letting_42 ?_
    refine lv_ldc2 (v := (-1)) hx hb hown (hts _ (List.mem_cons_of_mem _ iw_177)) d_P_letting_45 ?_
    refine lv_lxor hx hb d_P_letting_48 ?_
    refine lv_land hx hb d_P_letting_49 ?_
    refine lv_aload_n hx hb d_P_letting_50 rfl (lv_at hl 2 rfl) ?_
    refine va_get (D := (dC, dI)) (ci := 0) (v := .long (k_dbl u)) (C := "SeatProofs$Plant") (T := F_P) (N := 12) hx hb hts (iu_P _) hown hK hP 1 rfl rfl 9 (by decide) (hts _ (List.mem_cons_of_mem _ iw_45)) (fun _ h9 => h9) rfl d_P_letting_51 ?_
    refine lv_ldc2 (v := (-1)) hx hb hown (hts _ (List.mem_cons_of_mem _ iw_177)) d_P_letting_54 ?_
    refine lv_lxor hx hb d_P_letting_57 ?_
    refine lv_land hx hb d_P_letting_58 ?_
    refine lv_lor hx hb d_P_letting_59 ?_
    refine lv_aload_n hx hb d_P_letting_60 rfl (lv_at hl 2 rfl) ?_
    refine va_get (D := (dC, dI)) (ci := 0) (v := .long (k_uns u)) (C := "SeatProofs$Plant") (T := F_P) (N := 12) hx hb hts (iu_P _) hown hK hP 1 rfl rfl 8 (by decide) (hts _ (List.mem_cons_of_mem _ iw_43)) (fun _ h9 => h9) rfl d_P_letting_61 ?_
    refine lv_lload hx hb d_P_letting_64 (lv_at hl 0 rfl) ?_
    refine lv_ldc2 (v := (-1)) hx hb hown (hts _ (List.mem_cons_of_mem _ iw_177)) d_P_letting_66 ?_
    refine lv_lxor hx hb d_P_letting_69 ?_
    refine lv_land hx hb d_P_letting_70 ?_
    refine lv_lor hx hb d_P_letting_71 ?_
    exact W.lret hx hb hr (fun t9 ht9 _ => ⟨_, rfl, (by rw [kl, kfl, if_pos c_1]), ht9⟩) (fun _ h => by cases h) d_P_letting_72
set_option maxHeartbeats 4000000 in
set_option maxRecDepth 100000 in
theorem c_P_turn (l : Launch) (dC : Nat → ClassId) (dI : Nat → Nat → Nat) (q : CA) (u : CSt) (sz : Nat) (x : Nat) (b : Bool) : Met l y_P_turn w_P_turn ({ frames := 2, cells := 0, slots := 0, locals := 43 }) (qPc (dC, dI) vwCl (tC q) (wC q u) sz [Value.ref (ca_p q), Value.int (nI x), Value.int (bI b)]) (va_Qv (fun z : CSt => z = k_s_opn u (wth (k_opn u) x b)) (qB (dC, dI) vwCl (tC q) (wC q u) sz (wC q)) (va_A (wC q u) sz)) 0 0 (va_A (wC q u) sz) := by
  refine Met.ofW (cc := b_P_turn) (maxL := 3) (ret := none) (by decide) rfl ?_
  intro p e s m args below meth c s₁ B hml hv
  obtain ⟨rfl, hsz, hP, hK, hD0, hN⟩ := hv
  have hx := B.exec
  have hb := B.bytes
  have hr := B.returns
  have hts := atoms_spec (ws := w_P_turn) B.pre
  have hown : s.vm.findClass "SeatProofs$Plant" = some m.cls := findClass_of_methodNamed B.named
  have hlocks := B.notSynchronized
  subst hsz
  have hD := hD0.self (sz := s.heap.size)
  have hA : ∀ z : Nat, s.heap.size ≤ z → va_A (wC q u) s.heap.size z := fun z h => Or.inr h
  have hS : va_S (va_A (wC q u) s.heap.size) s.heap s.heap [] := va_S.rf
  have hl := lv_entry ([Value.ref (ca_p q), Value.int (nI x), Value.int (bI b)]) (n := 3) (Nat.le_of_ble_eq_true rfl)
  rw [lg_entry_eq]
  generalize (lg_sl ([Value.ref (ca_p q), Value.int (nI x), Value.int (bI b)]) ++ List.replicate (3 - (lg_sl ([Value.ref (ca_p q), Value.int (nI x), Value.int (bI b)])).length) Slot.unset).toArray = ls at hl ⊢
  have hl : lv_has ls 3 [(0, .ref (ca_p q)), (1, .int (nI x)), (2, .int (bI b))] := hl
  refine lv_aload_n hx hb d_P_turn_0 rfl (lv_at hl 0 rfl) ?_
  refine lv_aload_n hx hb d_P_turn_1 rfl (lv_at hl 0 rfl) ?_
  refine va_get (D := (dC, dI)) (ci := 0) (v := .long (k_opn u)) (C := "SeatProofs$Plant") (T := F_P) (N := 12) hx hb hts (iu_P _) hown hK hP 1 rfl rfl 7 (by decide) (hts _ (List.mem_cons_of_mem _ iw_42)) (fun _ h9 => h9) rfl d_P_turn_2 ?_
  refine lv_iload_n hx hb d_P_turn_5 rfl (lv_at hl 1 rfl) ?_
  refine lv_iload_n hx hb d_P_turn_6 rfl (lv_at hl 2 rfl) ?_
  refine vp_callSl (va_Run.run (va_runS (As := [.long (k_opn u), .int (nI x), .int (bI b)]) (rest := [.ref (ca_p q)]) ⟨hx, hb, hml, hown, hts⟩ (c_P_with l (k_opn u) x b) (va_cwS 3 hts (good_up (good_S iw_174 iw_175 iw_2 gg_P_with)) rfl rfl rfl (by decide +kernel) ⟨Nat.le_of_ble_eq_true rfl, Nat.le_of_ble_eq_true rfl⟩) (ps_0 [.long (k_opn u), .int (nI x), .int (bI b)] hN) rfl rfl hl.1 rfl (lv_room (Nat.le_of_ble_eq_true rfl)) d_P_turn_7 ⟨Nat.le_of_ble_eq_true rfl, Nat.le_of_ble_eq_true rfl⟩)) (fun r_1 hr_1 => ?_)
  subst hr_1
  refine va_put (D := (dC, dI)) (ci := 0) (v := .long (wth (k_opn u) x b)) (ty := .long) (C := "SeatProofs$Plant") (T := F_P) (N := 12) hx hb hts (iu_P _) t_P t_P_ok n_P hown hK hP hD hS 1 rfl rfl 7 (by decide) (hts _ (List.mem_cons_of_mem _ iw_42)) (fun _ h9 => h9) rfl (by decide +kernel) rfl rfl (Nat.le_of_ble_eq_true rfl) d_P_turn_10 (fun H locs hP hD hS => ?_)
  have hP : va_P (dC, dI) vwCl (wC q (k_mk (k_fu u) (k_re u) (k_nS u) (k_nV u) (wth (k_opn u) x b) (k_uns u) (k_dbl u) (k_lett u) (k_cnt u) (k_lev u) (k_src u) (k_fr u) (k_e1 u) (k_e2 u) (k_ends u) (k_fal u) (k_ways u) (k_fls u) (k_fnd u) (k_pf u) (k_pl u) (k_pw u) (k_pc u))) H := hP
  have hD : va_D (va_A (wC q u) s.heap.size) (wC q (k_mk (k_fu u) (k_re u) (k_nS u) (k_nV u) (wth (k_opn u) x b) (k_uns u) (k_dbl u) (k_lett u) (k_cnt u) (k_lev u) (k_src u) (k_fr u) (k_e1 u) (k_e2 u) (k_ends u) (k_fal u) (k_ways u) (k_fls u) (k_fnd u) (k_pf u) (k_pl u) (k_pw u) (k_pc u))) := hD
  exact W.vret hx hb hr (fun t9 ht9 hW9 => ⟨⟨(k_mk (k_fu u) (k_re u) (k_nS u) (k_nV u) (wth (k_opn u) x b) (k_uns u) (k_dbl u) (k_lett u) (k_cnt u) (k_lev u) (k_src u) (k_fr u) (k_e1 u) (k_e2 u) (k_ends u) (k_fal u) (k_ways u) (k_fls u) (k_fnd u) (k_pf u) (k_pl u) (k_pw u) (k_pc u)), rfl, rfl, by rw [ht9]; exact hP, va_K.moved hW9.alike hK, hD⟩, hS.F ht9⟩) hS.2.2 d_P_turn_13
set_option maxHeartbeats 4000000 in
set_option maxRecDepth 100000 in
theorem c_P_doubt (l : Launch) (dC : Nat → ClassId) (dI : Nat → Nat → Nat) (q : CA) (u : CSt) (sz : Nat) (x : Nat) (b : Bool) : Met l y_P_doubt w_P_doubt ({ frames := 2, cells := 0, slots := 0, locals := 43 }) (qPc (dC, dI) vwCl (tC q) (wC q u) sz [Value.ref (ca_p q), Value.int (nI x), Value.int (bI b)]) (va_Qv (fun z : CSt => z = k_s_uns u (wth (k_uns u) x b)) (qB (dC, dI) vwCl (tC q) (wC q u) sz (wC q)) (va_A (wC q u) sz)) 0 0 (va_A (wC q u) sz) := by
  refine Met.ofW (cc := b_P_doubt) (maxL := 3) (ret := none) (by decide) rfl ?_
  intro p e s m args below meth c s₁ B hml hv
  obtain ⟨rfl, hsz, hP, hK, hD0, hN⟩ := hv
  have hx := B.exec
  have hb := B.bytes
  have hr := B.returns
  have hts := atoms_spec (ws := w_P_doubt) B.pre
  have hown : s.vm.findClass "SeatProofs$Plant" = some m.cls := findClass_of_methodNamed B.named
  have hlocks := B.notSynchronized
  subst hsz
  have hD := hD0.self (sz := s.heap.size)
  have hA : ∀ z : Nat, s.heap.size ≤ z → va_A (wC q u) s.heap.size z := fun z h => Or.inr h
  have hS : va_S (va_A (wC q u) s.heap.size) s.heap s.heap [] := va_S.rf
  have hl := lv_entry ([Value.ref (ca_p q), Value.int (nI x), Value.int (bI b)]) (n := 3) (Nat.le_of_ble_eq_true rfl)
  rw [lg_entry_eq]
  generalize (lg_sl ([Value.ref (ca_p q), Value.int (nI x), Value.int (bI b)]) ++ List.replicate (3 - (lg_sl ([Value.ref (ca_p q), Value.int (nI x), Value.int (bI b)])).length) Slot.unset).toArray = ls at hl ⊢
  have hl : lv_has ls 3 [(0, .ref (ca_p q)), (1, .int (nI x)), (2, .int (bI b))] := hl
  refine lv_aload_n hx hb d_P_doubt_0 rfl (lv_at hl 0 rfl) ?_
  refine lv_aload_n hx hb d_P_doubt_1 rfl (lv_at hl 0 rfl) ?_
  refine va_get (D := (dC, dI)) (ci := 0) (v := .long (k_uns u)) (C := "SeatProofs$Plant") (T := F_P) (N := 12) hx hb hts (iu_P _) hown hK hP 1 rfl rfl 8 (by decide) (hts _ (List.mem_cons_of_mem _ iw_43)) (fun _ h9 => h9) rfl d_P_doubt_2 ?_
  refine lv_iload_n hx hb d_P_doubt_5 rfl (lv_at hl 1 rfl) ?_
  refine lv_iload_n hx hb d_P_doubt_6 rfl (lv_at hl 2 rfl) ?_
  refine vp_callSl (va_Run.run (va_runS (As := [.long (k_uns u), .int (nI x), .int (bI b)]) (rest := [.ref (ca_p q)]) ⟨hx, hb, hml, hown, hts⟩ (c_P_with l (k_uns u) x b) (va_cwS 3 hts (good_up (good_S iw_174 iw_175 iw_2 gg_P_with)) rfl rfl rfl (by decide +kernel) ⟨Nat.le_of_ble_eq_true rfl, Nat.le_of_ble_eq_true rfl⟩) (ps_0 [.long (k_uns u), .int (nI x), .int (bI b)] hN) rfl rfl hl.1 rfl (lv_room (Nat.le_of_ble_eq_true rfl)) d_P_doubt_7 ⟨Nat.le_of_ble_eq_true rfl, Nat.le_of_ble_eq_true rfl⟩)) (fun r_1 hr_1 => ?_)
  subst hr_1
  refine va_put (D := (dC, dI)) (ci := 0) (v := .long (wth (k_uns u) x b)) (ty := .long) (C := "SeatProofs$Plant") (T := F_P) (N := 12) hx hb hts (iu_P _) t_P t_P_ok n_P hown hK hP hD hS 1 rfl rfl 8 (by decide) (hts _ (List.mem_cons_of_mem _ iw_43)) (fun _ h9 => h9) rfl (by decide +kernel) rfl rfl (Nat.le_of_ble_eq_true rfl) d_P_doubt_10 (fun H locs hP hD hS => ?_)
  have hP : va_P (dC, dI) vwCl (wC q (k_mk (k_fu u) (k_re u) (k_nS u) (k_nV u) (k_opn u) (wth (k_uns u) x b) (k_dbl u) (k_lett u) (k_cnt u) (k_lev u) (k_src u) (k_fr u) (k_e1 u) (k_e2 u) (k_ends u) (k_fal u) (k_ways u) (k_fls u) (k_fnd u) (k_pf u) (k_pl u) (k_pw u) (k_pc u))) H := hP
  have hD : va_D (va_A (wC q u) s.heap.size) (wC q (k_mk (k_fu u) (k_re u) (k_nS u) (k_nV u) (k_opn u) (wth (k_uns u) x b) (k_dbl u) (k_lett u) (k_cnt u) (k_lev u) (k_src u) (k_fr u) (k_e1 u) (k_e2 u) (k_ends u) (k_fal u) (k_ways u) (k_fls u) (k_fnd u) (k_pf u) (k_pl u) (k_pw u) (k_pc u))) := hD
  exact W.vret hx hb hr (fun t9 ht9 hW9 => ⟨⟨(k_mk (k_fu u) (k_re u) (k_nS u) (k_nV u) (k_opn u) (wth (k_uns u) x b) (k_dbl u) (k_lett u) (k_cnt u) (k_lev u) (k_src u) (k_fr u) (k_e1 u) (k_e2 u) (k_ends u) (k_fal u) (k_ways u) (k_fls u) (k_fnd u) (k_pf u) (k_pl u) (k_pw u) (k_pc u)), rfl, rfl, by rw [ht9]; exact hP, va_K.moved hW9.alike hK, hD⟩, hS.F ht9⟩) hS.2.2 d_P_doubt_13
set_option maxHeartbeats 4000000 in
set_option maxRecDepth 100000 in
theorem c_P_befriend (l : Launch) (dC : Nat → ClassId) (dI : Nat → Nat → Nat) (q : CA) (u : CSt) (sz : Nat) (a b : Nat) (ha : a < 16) (hb9 : b < 16) : Met l y_P_befriend w_P_befriend ({ frames := 0, cells := 0, slots := 0, locals := 0 }) (qPc (dC, dI) vwCl (tC q) (wC q u) sz [Value.ref (ca_p q), Value.int (nI a), Value.int (nI b)]) (va_Qv (fun z : CSt => z = k_s_fr u (bfr (k_fr u) a b)) (qB (dC, dI) vwCl (tC q) (wC q u) sz (wC q)) (va_A (wC q u) sz)) 0 0 (va_A (wC q u) sz) := by
  refine Met.ofW (cc := b_P_befriend) (maxL := 3) (ret := none) (by decide) rfl ?_
  intro p e s m args below meth c s₁ B hml hv
  obtain ⟨rfl, hsz, hP, hK, hD0, hN⟩ := hv
  have hx := B.exec
  have hb := B.bytes
  have hr := B.returns
  have hts := atoms_spec (ws := w_P_befriend) B.pre
  have hown : s.vm.findClass "SeatProofs$Plant" = some m.cls := findClass_of_methodNamed B.named
  have hlocks := B.notSynchronized
  subst hsz
  have hD := hD0.self (sz := s.heap.size)
  have hA : ∀ z : Nat, s.heap.size ≤ z → va_A (wC q u) s.heap.size z := fun z h => Or.inr h
  have hS : va_S (va_A (wC q u) s.heap.size) s.heap s.heap [] := va_S.rf
  have hl := lv_entry ([Value.ref (ca_p q), Value.int (nI a), Value.int (nI b)]) (n := 3) (Nat.le_of_ble_eq_true rfl)
  rw [lg_entry_eq]
  generalize (lg_sl ([Value.ref (ca_p q), Value.int (nI a), Value.int (nI b)]) ++ List.replicate (3 - (lg_sl ([Value.ref (ca_p q), Value.int (nI a), Value.int (nI b)])).length) Slot.unset).toArray = ls at hl ⊢
  have hl : lv_has ls 3 [(0, .ref (ca_p q)), (1, .int (nI a)), (2, .int (nI b))] := hl
  refine lv_aload_n hx hb d_P_befriend_0 rfl (lv_at hl 0 rfl) ?_
  refine va_get (D := (dC, dI)) (ci := 0) (v := .ref (ca_fr q)) (C := "SeatProofs$Plant") (T := F_P) (N := 12) hx hb hts (iu_P _) hown hK hP 1 rfl rfl 4 (by decide) (hts _ (List.mem_cons_of_mem _ iw_35)) (fun _ h9 => h9) rfl d_P_befriend_1 ?_
  refine lv_iload_n hx hb d_P_befriend_4 rfl (lv_at hl 1 rfl) ?_
  refine lv_dup2_11 hx hb d_P_befriend_5 rfl rfl ?_
  refine ld_i hx hb hK hP 6 0 rfl rfl (k_fr u a) (by omega) (by decide) rfl d_P_befriend_6 ?_
  refine lv_iconst (v := nI 1) hx hb d_P_befriend_7 (by decide) ?_
  refine lv_iload_n hx hb d_P_befriend_8 rfl (lv_at hl 2 rfl) ?_
  refine lv_ishl hx hb d_P_befriend_9 ?_
  refine tp_i (b32 b) rfl ?_
  refine lv_ior hx hb d_P_befriend_10 ?_
  refine st_i hx hb hK hP hD hS 6 0 rfl rfl (va_up (k_fr u) a ((k_fr u a) ||| (b32 b))) (by omega) (by decide) (rfl) d_P_befriend_11 (fun H locs hP hD hS => ?_)
  have hP : va_P (dC, dI) vwCl (wC q (k_mk (k_fu u) (k_re u) (k_nS u) (k_nV u) (k_opn u) (k_uns u) (k_dbl u) (k_lett u) (k_cnt u) (k_lev u) (k_src u) (va_up (k_fr u) a ((k_fr u a) ||| (b32 b))) (k_e1 u) (k_e2 u) (k_ends u) (k_fal u) (k_ways u) (k_fls u) (k_fnd u) (k_pf u) (k_pl u) (k_pw u) (k_pc u))) H := hP
  have hD : va_D (va_A (wC q u) s.heap.size) (wC q (k_mk (k_fu u) (k_re u) (k_nS u) (k_nV u) (k_opn u) (k_uns u) (k_dbl u) (k_lett u) (k_cnt u) (k_lev u) (k_src u) (va_up (k_fr u) a ((k_fr u a) ||| (b32 b))) (k_e1 u) (k_e2 u) (k_ends u) (k_fal u) (k_ways u) (k_fls u) (k_fnd u) (k_pf u) (k_pl u) (k_pw u) (k_pc u))) := hD
  refine lv_aload_n hx hb d_P_befriend_12 rfl (lv_at hl 0 rfl) ?_
  refine va_get (D := (dC, dI)) (ci := 0) (v := .ref (ca_fr q)) (C := "SeatProofs$Plant") (T := F_P) (N := 12) hx hb hts (iu_P _) hown hK hP 1 rfl rfl 4 (by decide) (hts _ (List.mem_cons_of_mem _ iw_35)) (fun _ h9 => h9) rfl d_P_befriend_13 ?_
  refine lv_iload_n hx hb d_P_befriend_16 rfl (lv_at hl 2 rfl) ?_
  refine lv_dup2_11 hx hb d_P_befriend_17 rfl rfl ?_
  refine ld_i hx hb hK hP 6 0 rfl rfl ((va_up (k_fr u) a ((k_fr u a) ||| (b32 b))) b) (by omega) (by decide) rfl d_P_befriend_18 ?_
  refine lv_iconst (v := nI 1) hx hb d_P_befriend_19 (by decide) ?_
  refine lv_iload_n hx hb d_P_befriend_20 rfl (lv_at hl 1 rfl) ?_
  refine lv_ishl hx hb d_P_befriend_21 ?_
  refine tp_i (b32 a) rfl ?_
  refine lv_ior hx hb d_P_befriend_22 ?_
  refine st_i hx hb hK hP hD hS 6 0 rfl rfl (va_up (va_up (k_fr u) a ((k_fr u a) ||| (b32 b))) b (((va_up (k_fr u) a ((k_fr u a) ||| (b32 b))) b) ||| (b32 a))) (by omega) (by decide) (rfl) d_P_befriend_23 (fun H locs hP hD hS => ?_)
  have hP : va_P (dC, dI) vwCl (wC q (k_mk (k_fu u) (k_re u) (k_nS u) (k_nV u) (k_opn u) (k_uns u) (k_dbl u) (k_lett u) (k_cnt u) (k_lev u) (k_src u) (va_up (va_up (k_fr u) a ((k_fr u a) ||| (b32 b))) b (((va_up (k_fr u) a ((k_fr u a) ||| (b32 b))) b) ||| (b32 a))) (k_e1 u) (k_e2 u) (k_ends u) (k_fal u) (k_ways u) (k_fls u) (k_fnd u) (k_pf u) (k_pl u) (k_pw u) (k_pc u))) H := hP
  have hD : va_D (va_A (wC q u) s.heap.size) (wC q (k_mk (k_fu u) (k_re u) (k_nS u) (k_nV u) (k_opn u) (k_uns u) (k_dbl u) (k_lett u) (k_cnt u) (k_lev u) (k_src u) (va_up (va_up (k_fr u) a ((k_fr u a) ||| (b32 b))) b (((va_up (k_fr u) a ((k_fr u a) ||| (b32 b))) b) ||| (b32 a))) (k_e1 u) (k_e2 u) (k_ends u) (k_fal u) (k_ways u) (k_fls u) (k_fnd u) (k_pf u) (k_pl u) (k_pw u) (k_pc u))) := hD
  exact W.vret hx hb hr (fun t9 ht9 hW9 => ⟨⟨(k_mk (k_fu u) (k_re u) (k_nS u) (k_nV u) (k_opn u) (k_uns u) (k_dbl u) (k_lett u) (k_cnt u) (k_lev u) (k_src u) (va_up (va_up (k_fr u) a ((k_fr u a) ||| (b32 b))) b (((va_up (k_fr u) a ((k_fr u a) ||| (b32 b))) b) ||| (b32 a))) (k_e1 u) (k_e2 u) (k_ends u) (k_fal u) (k_ways u) (k_fls u) (k_fnd u) (k_pf u) (k_pl u) (k_pw u) (k_pc u)), rfl, rfl, by rw [ht9]; exact hP, va_K.moved hW9.alike hK, hD⟩, hS.F ht9⟩) hS.2.2 d_P_befriend_24
set_option maxHeartbeats 4000000 in
set_option maxRecDepth 100000 in
theorem c_P_addSpace (l : Launch) (dC : Nat → ClassId) (dI : Nat → Nat → Nat) (q : CA) (u : CSt) (sz : Nat) (a : Nat) (ha : a < 16) (h1 : k_nS u < 64) : Met l y_P_addSpace w_P_addSpace ({ frames := 1, cells := 0, slots := 0, locals := 20 }) (qPc (dC, dI) vwCl (tC q) (wC q u) sz [Value.ref (ca_p q), Value.int (nI a)]) (va_Qi (fun (r : Int32) (z : CSt) => r = nI (k_nS u) ∧ z = k_addS u a) (qB (dC, dI) vwCl (tC q) (wC q u) sz (wC q)) (va_A (wC q u) sz)) 0 0 (va_A (wC q u) sz) := by
  refine Met.ofW (cc := b_P_addSpace) (maxL := 3) (ret := (some .int)) (by decide) rfl ?_
  intro p e s m args below meth c s₁ B hml hv
  obtain ⟨rfl, hsz, hP, hK, hD0, hN⟩ := hv
  have hx := B.exec
  have hb := B.bytes
  have hr := B.returns
  have hts := atoms_spec (ws := w_P_addSpace) B.pre
  have hown : s.vm.findClass "SeatProofs$Plant" = some m.cls := findClass_of_methodNamed B.named
  have hlocks := B.notSynchronized
  subst hsz
  have hD := hD0.self (sz := s.heap.size)
  have hA : ∀ z : Nat, s.heap.size ≤ z → va_A (wC q u) s.heap.size z := fun z h => Or.inr h
  have hS : va_S (va_A (wC q u) s.heap.size) s.heap s.heap [] := va_S.rf
  have hl := lv_entry ([Value.ref (ca_p q), Value.int (nI a)]) (n := 3) (Nat.le_of_ble_eq_true rfl)
  rw [lg_entry_eq]
  generalize (lg_sl ([Value.ref (ca_p q), Value.int (nI a)]) ++ List.replicate (3 - (lg_sl ([Value.ref (ca_p q), Value.int (nI a)])).length) Slot.unset).toArray = ls at hl ⊢
  have hl : lv_has ls 3 [(0, .ref (ca_p q)), (1, .int (nI a))] := hl
  refine lv_aload_n hx hb d_P_addSpace_0 rfl (lv_at hl 0 rfl) ?_
  refine va_get (D := (dC, dI)) (ci := 0) (v := .int (nI (k_nS u))) (C := "SeatProofs$Plant") (T := F_P) (N := 12) hx hb hts (iu_P _) hown hK hP 1 rfl rfl 0 (by decide) (hts _ (List.mem_cons_of_mem _ iw_26)) (fun _ h9 => h9) rfl d_P_addSpace_1 ?_
  refine lv_istore_n (lv' := [(2, .int (nI (k_nS u))), (0, .ref (ca_p q)), (1, .int (nI a))]) hx hb d_P_addSpace_4 rfl hl (by decide) rfl (fun ls hl => ?_)
  refine lv_aload_n hx hb d_P_addSpace_5 rfl (lv_at hl 1 rfl) ?_
  refine va_get (D := (dC, dI)) (ci := 0) (v := .ref (ca_lev q)) (C := "SeatProofs$Plant") (T := F_P) (N := 12) hx hb hts (iu_P _) hown hK hP 1 rfl rfl 2 (by decide) (hts _ (List.mem_cons_of_mem _ iw_32)) (fun _ h9 => h9) rfl d_P_addSpace_6 ?_
  refine lv_iload_n hx hb d_P_addSpace_9 rfl (lv_at hl 0 rfl) ?_
  refine lv_lconst (v := 0) hx hb d_P_addSpace_10 (by decide) ?_
  refine st_l hx hb hK hP hD hS 4 1 rfl rfl (va_up (k_lev u) (k_nS u) 0) (by omega) (by decide) (updL_up _ _ _) d_P_addSpace_11 (fun H locs hP hD hS => ?_)
  have hP : va_P (dC, dI) vwCl (wC q (k_mk (k_fu u) (k_re u) (k_nS u) (k_nV u) (k_opn u) (k_uns u) (k_dbl u) (k_lett u) (k_cnt u) (va_up (k_lev u) (k_nS u) 0) (k_src u) (k_fr u) (k_e1 u) (k_e2 u) (k_ends u) (k_fal u) (k_ways u) (k_fls u) (k_fnd u) (k_pf u) (k_pl u) (k_pw u) (k_pc u))) H := hP
  have hD : va_D (va_A (wC q u) s.heap.size) (wC q (k_mk (k_fu u) (k_re u) (k_nS u) (k_nV u) (k_opn u) (k_uns u) (k_dbl u) (k_lett u) (k_cnt u) (va_up (k_lev u) (k_nS u) 0) (k_src u) (k_fr u) (k_e1 u) (k_e2 u) (k_ends u) (k_fal u) (k_ways u) (k_fls u) (k_fnd u) (k_pf u) (k_pl u) (k_pw u) (k_pc u))) := hD
  refine lv_aload_n hx hb d_P_addSpace_12 rfl (lv_at hl 1 rfl) ?_
  refine va_get (D := (dC, dI)) (ci := 0) (v := .ref (ca_ends q)) (C := "SeatProofs$Plant") (T := F_P) (N := 12) hx hb hts (iu_P _) hown hK hP 1 rfl rfl 10 (by decide) (hts _ (List.mem_cons_of_mem _ iw_46)) (fun _ h9 => h9) rfl d_P_addSpace_13 ?_
  refine lv_iload_n hx hb d_P_addSpace_16 rfl (lv_at hl 0 rfl) ?_
  refine lv_lconst (v := 0) hx hb d_P_addSpace_17 (by decide) ?_
  refine st_l hx hb hK hP hD hS 9 1 rfl rfl (va_up (k_ends u) (k_nS u) 0) (by omega) (by decide) (updL_up _ _ _) d_P_addSpace_18 (fun H locs hP hD hS => ?_)
  have hP : va_P (dC, dI) vwCl (wC q (k_mk (k_fu u) (k_re u) (k_nS u) (k_nV u) (k_opn u) (k_uns u) (k_dbl u) (k_lett u) (k_cnt u) (va_up (k_lev u) (k_nS u) 0) (k_src u) (k_fr u) (k_e1 u) (k_e2 u) (va_up (k_ends u) (k_nS u) 0) (k_fal u) (k_ways u) (k_fls u) (k_fnd u) (k_pf u) (k_pl u) (k_pw u) (k_pc u))) H := hP
  have hD : va_D (va_A (wC q u) s.heap.size) (wC q (k_mk (k_fu u) (k_re u) (k_nS u) (k_nV u) (k_opn u) (k_uns u) (k_dbl u) (k_lett u) (k_cnt u) (va_up (k_lev u) (k_nS u) 0) (k_src u) (k_fr u) (k_e1 u) (k_e2 u) (va_up (k_ends u) (k_nS u) 0) (k_fal u) (k_ways u) (k_fls u) (k_fnd u) (k_pf u) (k_pl u) (k_pw u) (k_pc u))) := hD
  refine lv_aload_n hx hb d_P_addSpace_19 rfl (lv_at hl 1 rfl) ?_
  refine va_get (D := (dC, dI)) (ci := 0) (v := .ref (ca_fal q)) (C := "SeatProofs$Plant") (T := F_P) (N := 12) hx hb hts (iu_P _) hown hK hP 1 rfl rfl 11 (by decide) (hts _ (List.mem_cons_of_mem _ iw_48)) (fun _ h9 => h9) rfl d_P_addSpace_20 ?_
  refine lv_iload_n hx hb d_P_addSpace_23 rfl (lv_at hl 0 rfl) ?_
  refine lv_lconst (v := 0) hx hb d_P_addSpace_24 (by decide) ?_
  refine st_l hx hb hK hP hD hS 10 1 rfl rfl (va_up (k_fal u) (k_nS u) 0) (by omega) (by decide) (updL_up _ _ _) d_P_addSpace_25 (fun H locs hP hD hS => ?_)
  have hP : va_P (dC, dI) vwCl (wC q (k_mk (k_fu u) (k_re u) (k_nS u) (k_nV u) (k_opn u) (k_uns u) (k_dbl u) (k_lett u) (k_cnt u) (va_up (k_lev u) (k_nS u) 0) (k_src u) (k_fr u) (k_e1 u) (k_e2 u) (va_up (k_ends u) (k_nS u) 0) (va_up (k_fal u) (k_nS u) 0) (k_ways u) (k_fls u) (k_fnd u) (k_pf u) (k_pl u) (k_pw u) (k_pc u))) H := hP
  have hD : va_D (va_A (wC q u) s.heap.size) (wC q (k_mk (k_fu u) (k_re u) (k_nS u) (k_nV u) (k_opn u) (k_uns u) (k_dbl u) (k_lett u) (k_cnt u) (va_up (k_lev u) (k_nS u) 0) (k_src u) (k_fr u) (k_e1 u) (k_e2 u) (va_up (k_ends u) (k_nS u) 0) (va_up (k_fal u) (k_nS u) 0) (k_ways u) (k_fls u) (k_fnd u) (k_pf u) (k_pl u) (k_pw u) (k_pc u))) := hD
  refine lv_aload_n hx hb d_P_addSpace_26 rfl (lv_at hl 1 rfl) ?_
  refine va_get (D := (dC, dI)) (ci := 0) (v := .ref (ca_src q)) (C := "SeatProofs$Plant") (T := F_P) (N := 12) hx hb hts (iu_P _) hown hK hP 1 rfl rfl 3 (by decide) (hts _ (List.mem_cons_of_mem _ iw_33)) (fun _ h9 => h9) rfl d_P_addSpace_27 ?_
  refine lv_iload_n hx hb d_P_addSpace_30 rfl (lv_at hl 2 rfl) ?_
  refine lv_dup2_11 hx hb d_P_addSpace_31 rfl rfl ?_
  refine ld_l hx hb hK hP 5 1 rfl rfl (k_src u a) (by omega) (by decide) rfl d_P_addSpace_32 ?_
  refine lv_iload_n hx hb d_P_addSpace_33 rfl (lv_at hl 0 rfl) ?_
  refine vp_callSl (va_Run.run (va_runSN (As := [.int (nI (k_nS u))]) (rest := [.long (k_src u a), .int (nI a), .ref (ca_src q)]) ⟨hx, hb, hml, hown, hts⟩ (c_S_only l (k_nS u)) ⟨va_cnB 1 hts (good_up gg_S_only) rfl rfl rfl (hN _ in_155) (hts _ (List.mem_cons_of_mem _ iw_1)) (by decide +kernel) ⟨Nat.le_of_ble_eq_true rfl, Nat.le_of_ble_eq_true rfl⟩, hts _ (List.mem_cons_of_mem _ iw_156), trivial⟩ (ps_0 [.int (nI (k_nS u))] hN) rfl rfl hl.1 rfl (lv_room (Nat.le_of_ble_eq_true rfl)) d_P_addSpace_34 ⟨Nat.le_of_ble_eq_true rfl, Nat.le_of_ble_eq_true rfl⟩)) (fun r_1 hr_1 => ?_)
  subst hr_1
  refine lv_lor hx hb d_P_addSpace_37 ?_
  refine st_l hx hb hK hP hD hS 5 1 rfl rfl (va_up (k_src u) a ((k_src u a) ||| (bt (k_nS u)))) (by omega) (by decide) (updL_up _ _ _) d_P_addSpace_38 (fun H locs hP hD hS => ?_)
  have hP : va_P (dC, dI) vwCl (wC q (k_mk (k_fu u) (k_re u) (k_nS u) (k_nV u) (k_opn u) (k_uns u) (k_dbl u) (k_lett u) (k_cnt u) (va_up (k_lev u) (k_nS u) 0) (va_up (k_src u) a ((k_src u a) ||| (bt (k_nS u)))) (k_fr u) (k_e1 u) (k_e2 u) (va_up (k_ends u) (k_nS u) 0) (va_up (k_fal u) (k_nS u) 0) (k_ways u) (k_fls u) (k_fnd u) (k_pf u) (k_pl u) (k_pw u) (k_pc u))) H := hP
  have hD : va_D (va_A (wC q u) s.heap.size) (wC q (k_mk (k_fu u) (k_re u) (k_nS u) (k_nV u) (k_opn u) (k_uns u) (k_dbl u) (k_lett u) (k_cnt u) (va_up (k_lev u) (k_nS u) 0) (va_up (k_src u) a ((k_src u a) ||| (bt (k_nS u)))) (k_fr u) (k_e1 u) (k_e2 u) (va_up (k_ends u) (k_nS u) 0) (va_up (k_fal u) (k_nS u) 0) (k_ways u) (k_fls u) (k_fnd u) (k_pf u) (k_pl u) (k_pw u) (k_pc u))) := hD
  refine lv_aload_n hx hb d_P_addSpace_39 rfl (lv_at hl 1 rfl) ?_
  refine lv_dup hx hb d_P_addSpace_40 rfl ?_
  refine va_get (D := (dC, dI)) (ci := 0) (v := .int (nI (k_nS u))) (C := "SeatProofs$Plant") (T := F_P) (N := 12) hx hb hts (iu_P _) hown hK hP 1 rfl rfl 0 (by decide) (hts _ (List.mem_cons_of_mem _ iw_26)) (fun _ h9 => h9) rfl d_P_addSpace_41 ?_
  refine lv_iconst (v := nI 1) hx hb d_P_addSpace_44 (by decide) ?_
  refine lv_iadd hx hb d_P_addSpace_45 ?_
  refine tp_i (nI (k_nS u + 1)) (nI_add _ _) ?_
  refine va_put (D := (dC, dI)) (ci := 0) (v := .int (nI (k_nS u + 1))) (ty := .int) (C := "SeatProofs$Plant") (T := F_P) (N := 12) hx hb hts (iu_P _) t_P t_P_ok n_P hown hK hP hD hS 1 rfl rfl 0 (by decide) (hts _ (List.mem_cons_of_mem _ iw_26)) (fun _ h9 => h9) rfl (by decide +kernel) rfl rfl (Nat.le_of_ble_eq_true rfl) d_P_addSpace_46 (fun H locs hP hD hS => ?_)
  have hP : va_P (dC, dI) vwCl (wC q (k_mk (k_fu u) (k_re u) (k_nS u + 1) (k_nV u) (k_opn u) (k_uns u) (k_dbl u) (k_lett u) (k_cnt u) (va_up (k_lev u) (k_nS u) 0) (va_up (k_src u) a ((k_src u a) ||| (bt (k_nS u)))) (k_fr u) (k_e1 u) (k_e2 u) (va_up (k_ends u) (k_nS u) 0) (va_up (k_fal u) (k_nS u) 0) (k_ways u) (k_fls u) (k_fnd u) (k_pf u) (k_pl u) (k_pw u) (k_pc u))) H := hP
  have hD : va_D (va_A (wC q u) s.heap.size) (wC q (k_mk (k_fu u) (k_re u) (k_nS u + 1) (k_nV u) (k_opn u) (k_uns u) (k_dbl u) (k_lett u) (k_cnt u) (va_up (k_lev u) (k_nS u) 0) (va_up (k_src u) a ((k_src u a) ||| (bt (k_nS u)))) (k_fr u) (k_e1 u) (k_e2 u) (va_up (k_ends u) (k_nS u) 0) (va_up (k_fal u) (k_nS u) 0) (k_ways u) (k_fls u) (k_fnd u) (k_pf u) (k_pl u) (k_pw u) (k_pc u))) := hD
  refine lv_iload_n hx hb d_P_addSpace_49 rfl (lv_at hl 0 rfl) ?_
  exact W.iret hx hb hr (fun t9 ht9 hW9 => ⟨⟨_, (k_mk (k_fu u) (k_re u) (k_nS u + 1) (k_nV u) (k_opn u) (k_uns u) (k_dbl u) (k_lett u) (k_cnt u) (va_up (k_lev u) (k_nS u) 0) (va_up (k_src u) a ((k_src u a) ||| (bt (k_nS u)))) (k_fr u) (k_e1 u) (k_e2 u) (va_up (k_ends u) (k_nS u) 0) (va_up (k_fal u) (k_nS u) 0) (k_ways u) (k_fls u) (k_fnd u) (k_pf u) (k_pl u) (k_pw u) (k_pc u)), rfl, ⟨rfl, rfl⟩, by rw [ht9]; exact hP, va_K.moved hW9.alike hK, hD⟩, hS.F ht9⟩) hS.2.2 d_P_addSpace_50
set_option maxHeartbeats 4000000 in
set_option maxRecDepth 100000 in
theorem c_P_measure (l : Launch) (dC : Nat → ClassId) (dI : Nat → Nat → Nat) (q : CA) (u : CSt) (sz : Nat) (x : Nat) (hx9 : x < 64) (h1 : k_e1 u x < 64) (h2 : k_e2 u x < 64) : Met l y_P_measure w_P_measure ({ frames := 2, cells := 0, slots := 0, locals := 43 }) (qPc (dC, dI) vwCl (tC q) (wC q u) sz [Value.ref (ca_p q), Value.int (nI x)]) (va_Qv (fun z : CSt => z = k_s_fal u (kms u x)) (qB (dC, dI) vwCl (tC q) (wC q u) sz (wC q)) (va_A (wC q u) sz)) 0 0 (va_A (wC q u) sz) := by
  refine Met.ofW (cc := b_P_measure) (maxL := 4) (ret := none) (by decide) rfl ?_
  intro p e s m args below meth c s₁ B hml hv
  obtain ⟨rfl, hsz, hP, hK, hD0, hN⟩ := hv
  have hx := B.exec
  have hb := B.bytes
  have hr := B.returns
  have hts := atoms_spec (ws := w_P_measure) B.pre
  have hown : s.vm.findClass "SeatProofs$Plant" = some m.cls := findClass_of_methodNamed B.named
  have hlocks := B.notSynchronized
  subst hsz
  have hD := hD0.self (sz := s.heap.size)
  have hA : ∀ z : Nat, s.heap.size ≤ z → va_A (wC q u) s.heap.size z := fun z h => Or.inr h
  have hS : va_S (va_A (wC q u) s.heap.size) s.heap s.heap [] := va_S.rf
  have hl := lv_entry ([Value.ref (ca_p q), Value.int (nI x)]) (n := 4) (Nat.le_of_ble_eq_true rfl)
  rw [lg_entry_eq]
  generalize (lg_sl ([Value.ref (ca_p q), Value.int (nI x)]) ++ List.replicate (4 - (lg_sl ([Value.ref (ca_p q), Value.int (nI x)])).length) Slot.unset).toArray = ls at hl ⊢
  have hl : lv_has ls 4 [(0, .ref (ca_p q)), (1, .int (nI x))] := hl
  refine lv_aload_n hx hb d_P_measure_0 rfl (lv_at hl 0 rfl) ?_
  refine va_get (D := (dC, dI)) (ci := 0) (v := .ref (ca_e1 q)) (C := "SeatProofs$Plant") (T := F_P) (N := 12) hx hb hts (iu_P _) hown hK hP 1 rfl rfl 5 (by decide) (hts _ (List.mem_cons_of_mem _ iw_36)) (fun _ h9 => h9) rfl d_P_measure_1 ?_
  refine lv_iload_n hx hb d_P_measure_4 rfl (lv_at hl 1 rfl) ?_
  refine ld_i hx hb hK hP 7 0 rfl rfl (nI (k_e1 u x)) (by omega) (by decide) rfl d_P_measure_5 ?_
  refine lv_istore_n (lv' := [(2, .int (nI (k_e1 u x))), (0, .ref (ca_p q)), (1, .int (nI x))]) hx hb d_P_measure_6 rfl hl (by decide) rfl (fun ls hl => ?_)
  refine lv_aload_n hx hb d_P_measure_7 rfl (lv_at hl 1 rfl) ?_
  refine va_get (D := (dC, dI)) (ci := 0) (v := .ref (ca_e2 q)) (C := "SeatProofs$Plant") (T := F_P) (N := 12) hx hb hts (iu_P _) hown hK hP 1 rfl rfl 6 (by decide) (hts _ (List.mem_cons_of_mem _ iw_39)) (fun _ h9 => h9) rfl d_P_measure_8 ?_
  refine lv_iload_n hx hb d_P_measure_11 rfl (lv_at hl 2 rfl) ?_
  refine ld_i hx hb hK hP 8 0 rfl rfl (nI (k_e2 u x)) (by omega) (by decide) rfl d_P_measure_12 ?_
  refine lv_istore_n (lv' := [(3, .int (nI (k_e2 u x))), (2, .int (nI (k_e1 u x))), (0, .ref (ca_p q)), (1, .int (nI x))]) hx hb d_P_measure_13 rfl hl (by decide) rfl (fun ls hl => ?_)
  have L47 : ∀ (b : Bool), (b = decide (k_lev u (k_e2 u x) ≤ k_lev u (k_e1 u x))) → ∀ (H : Heap) (locs : List Loc) (ls : Array Slot), va_P (dC, dI) vwCl (wC q u) H → va_D (va_A (wC q u) s.heap.size) (wC q u) → va_S (va_A (wC q u) s.heap.size) s.heap H locs → lv_has ls 4 [(0, .ref (ca_p q)), (1, .int (nI x)), (2, .int (nI (k_e1 u x))), (3, .int (nI (k_e2 u x)))] → W p l e (headSpec w_P_measure ({ frames := 2, cells := 0, slots := 0, locals := 43 })).room s m [Value.ref (ca_p q), Value.int (nI x)].toArray below meth c H locs 0 0 (MQ below (va_Qv (fun z : CSt => z = k_s_fal u (kms u x)) (qB (dC, dI) vwCl (tC q) (wC q u) s.heap.size (wC q)) (va_A (wC q u) s.heap.size)) [Value.ref (ca_p q), Value.int (nI x)].toArray s 0 0 (va_A (wC q u) s.heap.size)) (F0 m 47 ls [.int (bI b), .int (nI x), .long (k_fal u (k_e1 u x)), .int (nI (k_e1 u x)), .ref (ca_fal q)]) := by
    intro b hb47 H locs ls hP hD hS hl
    refine vp_callSl (va_Run.run (va_runS (As := [.long (k_fal u (k_e1 u x)), .int (nI x), .int (bI b)]) (rest := [.int (nI (k_e1 u x)), .ref (ca_fal q)]) ⟨hx, hb, hml, hown, hts⟩ (c_P_with l (k_fal u (k_e1 u x)) x b) (va_cwS 3 hts (good_up (good_S iw_174 iw_175 iw_2 gg_P_with)) rfl rfl rfl (by decide +kernel) ⟨Nat.le_of_ble_eq_true rfl, Nat.le_of_ble_eq_true rfl⟩) (ps_0 [.long (k_fal u (k_e1 u x)), .int (nI x), .int (bI b)] hN) rfl rfl hl.1 rfl (lv_room (Nat.le_of_ble_eq_true rfl)) d_P_measure_47 ⟨Nat.le_of_ble_eq_true rfl, Nat.le_of_ble_eq_true rfl⟩)) (fun r_1 hr_1 => ?_)
    subst hr_1
    refine st_l hx hb hK hP hD hS 10 1 rfl rfl (va_up (k_fal u) (k_e1 u x) (wth (k_fal u (k_e1 u x)) x b)) (by omega) (by decide) (updL_up _ _ _) d_P_measure_50 (fun H locs hP hD hS => ?_)
    have hP : va_P (dC, dI) vwCl (wC q (k_mk (k_fu u) (k_re u) (k_nS u) (k_nV u) (k_opn u) (k_uns u) (k_dbl u) (k_lett u) (k_cnt u) (k_lev u) (k_src u) (k_fr u) (k_e1 u) (k_e2 u) (k_ends u) (va_up (k_fal u) (k_e1 u x) (wth (k_fal u (k_e1 u x)) x b)) (k_ways u) (k_fls u) (k_fnd u) (k_pf u) (k_pl u) (k_pw u) (k_pc u))) H := hP
    have hD : va_D (va_A (wC q u) s.heap.size) (wC q (k_mk (k_fu u) (k_re u) (k_nS u) (k_nV u) (k_opn u) (k_uns u) (k_dbl u) (k_lett u) (k_cnt u) (k_lev u) (k_src u) (k_fr u) (k_e1 u) (k_e2 u) (k_ends u) (va_up (k_fal u) (k_e1 u x) (wth (k_fal u (k_e1 u x)) x b)) (k_ways u) (k_fls u) (k_fnd u) (k_pf u) (k_pl u) (k_pw u) (k_pc u))) := hD
    have L84 : ∀ (b2 : Bool), (b2 = decide (k_lev u (k_e1 u x) ≤ k_lev u (k_e2 u x))) → ∀ (H : Heap) (locs : List Loc) (ls : Array Slot), va_P (dC, dI) vwCl (wC q (k_mk (k_fu u) (k_re u) (k_nS u) (k_nV u) (k_opn u) (k_uns u) (k_dbl u) (k_lett u) (k_cnt u) (k_lev u) (k_src u) (k_fr u) (k_e1 u) (k_e2 u) (k_ends u) (va_up (k_fal u) (k_e1 u x) (wth (k_fal u (k_e1 u x)) x b)) (k_ways u) (k_fls u) (k_fnd u) (k_pf u) (k_pl u) (k_pw u) (k_pc u))) H → va_D (va_A (wC q u) s.heap.size) (wC q (k_mk (k_fu u) (k_re u) (k_nS u) (k_nV u) (k_opn u) (k_uns u) (k_dbl u) (k_lett u) (k_cnt u) (k_lev u) (k_src u) (k_fr u) (k_e1 u) (k_e2 u) (k_ends u) (va_up (k_fal u) (k_e1 u x) (wth (k_fal u (k_e1 u x)) x b)) (k_ways u) (k_fls u) (k_fnd u) (k_pf u) (k_pl u) (k_pw u) (k_pc u))) → va_S (va_A (wC q u) s.heap.size) s.heap H locs → lv_has ls 4 [(0, .ref (ca_p q))] → W p l e (headSpec w_P_measure ({ frames := 2, cells := 0, slots := 0, locals := 43 })).room s m [Value.ref (ca_p q), Value.int (nI x)].toArray below meth c H locs 0 0 (MQ below (va_Qv (fun z : CSt => z = k_s_fal u (kms u x)) (qB (dC, dI) vwCl (tC q) (wC q u) s.heap.size (wC q)) (va_A (wC q u) s.heap.size)) [Value.ref (ca_p q), Value.int (nI x)].toArray s 0 0 (va_A (wC q u) s.heap.size)) (F0 m 84 ls [.int (bI b2), .int (nI x), .long (va_up (k_fal u) (k_e1 u x) (wth (k_fal u (k_e1 u x)) x b) (k_e2 u x)), .int (nI (k_e2 u x)), .ref (ca_fal q)]) := by
      intro b2 hb84 H locs ls hP hD hS hl
      refine vp_callSl (va_Run.run (va_runS (As := [.long (va_up (k_fal u) (k_e1 u x) (wth (k_fal u (k_e1 u x)) x b) (k_e2 u x)), .int (nI x), .int (bI b2)]) (rest := [.int (nI (k_e2 u x)), .ref (ca_fal q)]) ⟨hx, hb, hml, hown, hts⟩ (c_P_with l (va_up (k_fal u) (k_e1 u x) (wth (k_fal u (k_e1 u x)) x b) (k_e2 u x)) x b2) (va_cwS 3 hts (good_up (good_S iw_174 iw_175 iw_2 gg_P_with)) rfl rfl rfl (by decide +kernel) ⟨Nat.le_of_ble_eq_true rfl, Nat.le_of_ble_eq_true rfl⟩) (ps_0 [.long (va_up (k_fal u) (k_e1 u x) (wth (k_fal u (k_e1 u x)) x b) (k_e2 u x)), .int (nI x), .int (bI b2)] hN) rfl rfl hl.1 rfl (lv_room (Nat.le_of_ble_eq_true rfl)) d_P_measure_84 ⟨Nat.le_of_ble_eq_true rfl, Nat.le_of_ble_eq_true rfl⟩)) (fun r_2 hr_2 => ?_)
      subst hr_2
      refine st_l hx hb hK hP hD hS 10 1 rfl rfl (va_up (va_up (k_fal u) (k_e1 u x) (wth (k_fal u (k_e1 u x)) x b)) (k_e2 u x) (wth (va_up (k_fal u) (k_e1 u x) (wth (k_fal u (k_e1 u x)) x b) (k_e2 u x)) x b2)) (by omega) (by decide) (updL_up _ _ _) d_P_measure_87 (fun H locs hP hD hS => ?_)
      have hP : va_P (dC, dI) vwCl (wC q (k_mk (k_fu u) (k_re u) (k_nS u) (k_nV u) (k_opn u) (k_uns u) (k_dbl u) (k_lett u) (k_cnt u) (k_lev u) (k_src u) (k_fr u) (k_e1 u) (k_e2 u) (k_ends u) (va_up (va_up (k_fal u) (k_e1 u x) (wth (k_fal u (k_e1 u x)) x b)) (k_e2 u x) (wth (va_up (k_fal u) (k_e1 u x) (wth (k_fal u (k_e1 u x)) x b) (k_e2 u x)) x b2)) (k_ways u) (k_fls u) (k_fnd u) (k_pf u) (k_pl u) (k_pw u) (k_pc u))) H := hP
      have hD : va_D (va_A (wC q u) s.heap.size) (wC q (k_mk (k_fu u) (k_re u) (k_nS u) (k_nV u) (k_opn u) (k_uns u) (k_dbl u) (k_lett u) (k_cnt u) (k_lev u) (k_src u) (k_fr u) (k_e1 u) (k_e2 u) (k_ends u) (va_up (va_up (k_fal u) (k_e1 u x) (wth (k_fal u (k_e1 u x)) x b)) (k_e2 u x) (wth (va_up (k_fal u) (k_e1 u x) (wth (k_fal u (k_e1 u x)) x b) (k_e2 u x)) x b2)) (k_ways u) (k_fls u) (k_fnd u) (k_pf u) (k_pl u) (k_pw u) (k_pc u))) := hD
      exact W.vret hx hb hr (fun t9 ht9 hW9 => ⟨⟨(k_mk (k_fu u) (k_re u) (k_nS u) (k_nV u) (k_opn u) (k_uns u) (k_dbl u) (k_lett u) (k_cnt u) (k_lev u) (k_src u) (k_fr u) (k_e1 u) (k_e2 u) (k_ends u) (va_up (va_up (k_fal u) (k_e1 u x) (wth (k_fal u (k_e1 u x)) x b)) (k_e2 u x) (wth (va_up (k_fal u) (k_e1 u x) (wth (k_fal u (k_e1 u x)) x b) (k_e2 u x)) x b2)) (k_ways u) (k_fls u) (k_fnd u) (k_pf u) (k_pl u) (k_pw u) (k_pc u)), rfl, (by subst hb47; subst hb84; rfl), by rw [ht9]; exact hP, va_K.moved hW9.alike hK, hD⟩, hS.F ht9⟩) hS.2.2 d_P_measure_88
    refine lv_aload_n hx hb d_P_measure_51 rfl (lv_at hl 0 rfl) ?_
    refine va_get (D := (dC, dI)) (ci := 0) (v := .ref (ca_fal q)) (C := "SeatProofs$Plant") (T := F_P) (N := 12) hx hb hts (iu_P _) hown hK hP 1 rfl rfl 11 (by decide) (hts _ (List.mem_cons_of_mem _ iw_48)) (fun _ h9 => h9) rfl d_P_measure_52 ?_
    refine lv_iload_n hx hb d_P_measure_55 rfl (lv_at hl 3 rfl) ?_
    refine lv_aload_n hx hb d_P_measure_56 rfl (lv_at hl 0 rfl) ?_
    refine va_get (D := (dC, dI)) (ci := 0) (v := .ref (ca_fal q)) (C := "SeatProofs$Plant") (T := F_P) (N := 12) hx hb hts (iu_P _) hown hK hP 1 rfl rfl 11 (by decide) (hts _ (List.mem_cons_of_mem _ iw_48)) (fun _ h9 => h9) rfl d_P_measure_57 ?_
    refine lv_iload_n hx hb d_P_measure_60 rfl (lv_at hl 3 rfl) ?_
    refine ld_l hx hb hK hP 10 1 rfl rfl ((va_up (k_fal u) (k_e1 u x) (wth (k_fal u (k_e1 u x)) x b)) (k_e2 u x)) (by omega) (by decide) rfl d_P_measure_61 ?_
    refine lv_iload_n hx hb d_P_measure_62 rfl (lv_at hl 1 rfl) ?_
    refine lv_aload_n hx hb d_P_measure_63 rfl (lv_at hl 0 rfl) ?_
    refine va_get (D := (dC, dI)) (ci := 0) (v := .ref (ca_lev q)) (C := "SeatProofs$Plant") (T := F_P) (N := 12) hx hb hts (iu_P _) hown hK hP 1 rfl rfl 2 (by decide) (hts _ (List.mem_cons_of_mem _ iw_32)) (fun _ h9 => h9) rfl d_P_measure_64 ?_
    refine lv_iload_n hx hb d_P_measure_67 rfl (lv_at hl 2 rfl) ?_
    refine ld_l hx hb hK hP 4 1 rfl rfl (k_lev u (k_e1 u x)) (by omega) (by decide) rfl d_P_measure_68 ?_
    refine lv_aload_n hx hb d_P_measure_69 rfl (lv_at hl 0 rfl) ?_
    refine va_get (D := (dC, dI)) (ci := 0) (v := .ref (ca_lev q)) (C := "SeatProofs$Plant") (T := F_P) (N := 12) hx hb hts (iu_P _) hown hK hP 1 rfl rfl 2 (by decide) (hts _ (List.mem_cons_of_mem _ iw_32)) (fun _ h9 => h9) rfl d_P_measure_70 ?_
    refine lv_iload_n hx hb d_P_measure_73 rfl (lv_at hl 3 rfl) ?_
    refine ld_l hx hb hK hP 4 1 rfl rfl (k_lev u (k_e2 u x)) (by omega) (by decide) rfl d_P_measure_74 ?_
    refine W.lcmp hx hb d_P_measure_75 ?_
    refine l0_gt (tgt := 83) hx hb d_P_measure_76 (by decide) (fun c_3 => ?_) (fun c_3 => ?_)
    · refine lv_iconst (v := nI 0) hx hb d_P_measure_83 (by decide) ?_
      refine tp_i (bI false) (by decide) ?_
      exact L84 false ((decide_eq_false c_3).symm) _ _ ls hP hD hS (lv_sub hl [0] rfl)
    · refine lv_iconst (v := nI 1) hx hb d_P_measure_79 (by decide) ?_
      refine lv_goto (tgt := 84) hx hb d_P_measure_80 (by decide) ?_
      refine tp_i (bI true) (by decide) ?_
      exact L84 true ((decide_eq_true c_3).symm) _ _ ls hP hD hS (lv_sub hl [0] rfl)
  refine lv_aload_n hx hb d_P_measure_14 rfl (lv_at hl 2 rfl) ?_
  refine va_get (D := (dC, dI)) (ci := 0) (v := .ref (ca_fal q)) (C := "SeatProofs$Plant") (T := F_P) (N := 12) hx hb hts (iu_P _) hown hK hP 1 rfl rfl 11 (by decide) (hts _ (List.mem_cons_of_mem _ iw_48)) (fun _ h9 => h9) rfl d_P_measure_15 ?_
  refine lv_iload_n hx hb d_P_measure_18 rfl (lv_at hl 1 rfl) ?_
  refine lv_aload_n hx hb d_P_measure_19 rfl (lv_at hl 2 rfl) ?_
  refine va_get (D := (dC, dI)) (ci := 0) (v := .ref (ca_fal q)) (C := "SeatProofs$Plant") (T := F_P) (N := 12) hx hb hts (iu_P _) hown hK hP 1 rfl rfl 11 (by decide) (hts _ (List.mem_cons_of_mem _ iw_48)) (fun _ h9 => h9) rfl d_P_measure_20 ?_
  refine lv_iload_n hx hb d_P_measure_23 rfl (lv_at hl 1 rfl) ?_
  refine ld_l hx hb hK hP 10 1 rfl rfl (k_fal u (k_e1 u x)) (by omega) (by decide) rfl d_P_measure_24 ?_
  refine lv_iload_n hx hb d_P_measure_25 rfl (lv_at hl 3 rfl) ?_
  refine lv_aload_n hx hb d_P_measure_26 rfl (lv_at hl 2 rfl) ?_
  refine va_get (D := (dC, dI)) (ci := 0) (v := .ref (ca_lev q)) (C := "SeatProofs$Plant") (T := F_P) (N := 12) hx hb hts (iu_P _) hown hK hP 1 rfl rfl 2 (by decide) (hts _ (List.mem_cons_of_mem _ iw_32)) (fun _ h9 => h9) rfl d_P_measure_27 ?_
  refine lv_iload_n hx hb d_P_measure_30 rfl (lv_at hl 0 rfl) ?_
  refine ld_l hx hb hK hP 4 1 rfl rfl (k_lev u (k_e2 u x)) (by omega) (by decide) rfl d_P_measure_31 ?_
  refine lv_aload_n hx hb d_P_measure_32 rfl (lv_at hl 2 rfl) ?_
  refine va_get (D := (dC, dI)) (ci := 0) (v := .ref (ca_lev q)) (C := "SeatProofs$Plant") (T := F_P) (N := 12) hx hb hts (iu_P _) hown hK hP 1 rfl rfl 2 (by decide) (hts _ (List.mem_cons_of_mem _ iw_32)) (fun _ h9 => h9) rfl d_P_measure_33 ?_
  refine lv_iload_n hx hb d_P_measure_36 rfl (lv_at hl 1 rfl) ?_
  refine ld_l hx hb hK hP 4 1 rfl rfl (k_lev u (k_e1 u x)) (by omega) (by decide) rfl d_P_measure_37 ?_
  refine W.lcmp hx hb d_P_measure_38 ?_
  refine l0_gt (tgt := 46) hx hb d_P_measure_39 (by decide) (fun c_4 => ?_) (fun c_4 => ?_)
  · refine lv_iconst (v := nI 0) hx hb d_P_measure_46 (by decide) ?_
    refine tp_i (bI false) (by decide) ?_
    exact L47 false ((decide_eq_false c_4).symm) _ _ ls hP hD hS (lv_sub hl [2, 3, 1, 0] rfl)
  · refine lv_iconst (v := nI 1) hx hb d_P_measure_42 (by decide) ?_
    refine lv_goto (tgt := 47) hx hb d_P_measure_43 (by decide) ?_
    refine tp_i (bI true) (by decide) ?_
    exact L47 true ((decide_eq_true c_4).symm) _ _ ls hP hD hS (lv_sub hl [2, 3, 1, 0] rfl)
set_option maxHeartbeats 4000000 in
set_option maxRecDepth 100000 in
theorem c_P_empty (l : Launch) (dC : Nat → ClassId) (dI : Nat → Nat → Nat) (q : CA) (u : CSt) (sz : Nat)  : Met l y_P_empty w_P_empty ({ frames := 0, cells := 0, slots := 0, locals := 0 }) (qPc (dC, dI) vwCl (tC q) (wC q u) sz [Value.ref (ca_p q)]) (va_Qv (fun z : CSt => ∃ g h, (∀ t, t < 16 → g t = 0) ∧ (∀ t, t < 16 → h t = nI 0) ∧ z = k_s_fr (k_s_src (k_s_dbl (k_s_uns (k_s_opn (k_s_nV (k_s_nS u 0) 0) 0) 0) 0) g) h) (qB (dC, dI) vwCl (tC q) (wC q u) sz (wC q)) (va_A (wC q u) sz)) 0 0 (va_A (wC q u) sz) := by
  refine Met.ofW (cc := b_P_empty) (maxL := 2) (ret := none) (by decide) rfl ?_
  intro p e s m args below meth c s₁ B hml hv
  obtain ⟨rfl, hsz, hP, hK, hD0, hN⟩ := hv
  have hx := B.exec
  have hb := B.bytes
  have hr := B.returns
  have hts := atoms_spec (ws := w_P_empty) B.pre
  have hown : s.vm.findClass "SeatProofs$Plant" = some m.cls := findClass_of_methodNamed B.named
  have hlocks := B.notSynchronized
  subst hsz
  have hD := hD0.self (sz := s.heap.size)
  have hA : ∀ z : Nat, s.heap.size ≤ z → va_A (wC q u) s.heap.size z := fun z h => Or.inr h
  have hS : va_S (va_A (wC q u) s.heap.size) s.heap s.heap [] := va_S.rf
  have hl := lv_entry ([Value.ref (ca_p q)]) (n := 2) (Nat.le_of_ble_eq_true rfl)
  rw [lg_entry_eq]
  generalize (lg_sl ([Value.ref (ca_p q)]) ++ List.replicate (2 - (lg_sl ([Value.ref (ca_p q)])).length) Slot.unset).toArray = ls at hl ⊢
  have hl : lv_has ls 2 [(0, .ref (ca_p q))] := hl
  refine lv_aload_n hx hb d_P_empty_0 rfl (lv_at hl 0 rfl) ?_
  refine lv_iconst (v := nI 0) hx hb d_P_empty_1 (by decide) ?_
  refine va_put (D := (dC, dI)) (ci := 0) (v := .int (nI 0)) (ty := .int) (C := "SeatProofs$Plant") (T := F_P) (N := 12) hx hb hts (iu_P _) t_P t_P_ok n_P hown hK hP hD hS 1 rfl rfl 0 (by decide) (hts _ (List.mem_cons_of_mem _ iw_26)) (fun _ h9 => h9) rfl (by decide +kernel) rfl rfl (Nat.le_of_ble_eq_true rfl) d_P_empty_2 (fun H locs hP hD hS => ?_)
  have hP : va_P (dC, dI) vwCl (wC q (k_mk (k_fu u) (k_re u) 0 (k_nV u) (k_opn u) (k_uns u) (k_dbl u) (k_lett u) (k_cnt u) (k_lev u) (k_src u) (k_fr u) (k_e1 u) (k_e2 u) (k_ends u) (k_fal u) (k_ways u) (k_fls u) (k_fnd u) (k_pf u) (k_pl u) (k_pw u) (k_pc u))) H := hP
  have hD : va_D (va_A (wC q u) s.heap.size) (wC q (k_mk (k_fu u) (k_re u) 0 (k_nV u) (k_opn u) (k_uns u) (k_dbl u) (k_lett u) (k_cnt u) (k_lev u) (k_src u) (k_fr u) (k_e1 u) (k_e2 u) (k_ends u) (k_fal u) (k_ways u) (k_fls u) (k_fnd u) (k_pf u) (k_pl u) (k_pw u) (k_pc u))) := hD
  refine lv_aload_n hx hb d_P_empty_5 rfl (lv_at hl 0 rfl) ?_
  refine lv_iconst (v := nI 0) hx hb d_P_empty_6 (by decide) ?_
  refine va_put (D := (dC, dI)) (ci := 0) (v := .int (nI 0)) (ty := .int) (C := "SeatProofs$Plant") (T := F_P) (N := 12) hx hb hts (iu_P _) t_P t_P_ok n_P hown hK hP hD hS 1 rfl rfl 1 (by decide) (hts _ (List.mem_cons_of_mem _ iw_29)) (fun _ h9 => h9) rfl (by decide +kernel) rfl rfl (Nat.le_of_ble_eq_true rfl) d_P_empty_7 (fun H locs hP hD hS => ?_)
  have hP : va_P (dC, dI) vwCl (wC q (k_mk (k_fu u) (k_re u) 0 0 (k_opn u) (k_uns u) (k_dbl u) (k_lett u) (k_cnt u) (k_lev u) (k_src u) (k_fr u) (k_e1 u) (k_e2 u) (k_ends u) (k_fal u) (k_ways u) (k_fls u) (k_fnd u) (k_pf u) (k_pl u) (k_pw u) (k_pc u))) H := hP
  have hD : va_D (va_A (wC q u) s.heap.size) (wC q (k_mk (k_fu u) (k_re u) 0 0 (k_opn u) (k_uns u) (k_dbl u) (k_lett u) (k_cnt u) (k_lev u) (k_src u) (k_fr u) (k_e1 u) (k_e2 u) (k_ends u) (k_fal u) (k_ways u) (k_fls u) (k_fnd u) (k_pf u) (k_pl u) (k_pw u) (k_pc u))) := hD
  refine lv_aload_n hx hb d_P_empty_10 rfl (lv_at hl 0 rfl) ?_
  refine lv_lconst (v := 0) hx hb d_P_empty_11 (by decide) ?_
  refine va_put (D := (dC, dI)) (ci := 0) (v := .long 0) (ty := .long) (C := "SeatProofs$Plant") (T := F_P) (N := 12) hx hb hts (iu_P _) t_P t_P_ok n_P hown hK hP hD hS 1 rfl rfl 7 (by decide) (hts _ (List.mem_cons_of_mem _ iw_42)) (fun _ h9 => h9) rfl (by decide +kernel) rfl rfl (Nat.le_of_ble_eq_true rfl) d_P_empty_12 (fun H locs hP hD hS => ?_)
  have hP : va_P (dC, dI) vwCl (wC q (k_mk (k_fu u) (k_re u) 0 0 0 (k_uns u) (k_dbl u) (k_lett u) (k_cnt u) (k_lev u) (k_src u) (k_fr u) (k_e1 u) (k_e2 u) (k_ends u) (k_fal u) (k_ways u) (k_fls u) (k_fnd u) (k_pf u) (k_pl u) (k_pw u) (k_pc u))) H := hP
  have hD : va_D (va_A (wC q u) s.heap.size) (wC q (k_mk (k_fu u) (k_re u) 0 0 0 (k_uns u) (k_dbl u) (k_lett u) (k_cnt u) (k_lev u) (k_src u) (k_fr u) (k_e1 u) (k_e2 u) (k_ends u) (k_fal u) (k_ways u) (k_fls u) (k_fnd u) (k_pf u) (k_pl u) (k_pw u) (k_pc u))) := hD
  refine lv_aload_n hx hb d_P_empty_15 rfl (lv_at hl 0 rfl) ?_
  refine lv_lconst (v := 0) hx hb d_P_empty_16 (by decide) ?_
  refine va_put (D := (dC, dI)) (ci := 0) (v := .long 0) (ty := .long) (C := "SeatProofs$Plant") (T := F_P) (N := 12) hx hb hts (iu_P _) t_P t_P_ok n_P hown hK hP hD hS 1 rfl rfl 8 (by decide) (hts _ (List.mem_cons_of_mem _ iw_43)) (fun _ h9 => h9) rfl (by decide +kernel) rfl rfl (Nat.le_of_ble_eq_true rfl) d_P_empty_17 (fun H locs hP hD hS => ?_)
  have hP : va_P (dC, dI) vwCl (wC q (k_mk (k_fu u) (k_re u) 0 0 0 0 (k_dbl u) (k_lett u) (k_cnt u) (k_lev u) (k_src u) (k_fr u) (k_e1 u) (k_e2 u) (k_ends u) (k_fal u) (k_ways u) (k_fls u) (k_fnd u) (k_pf u) (k_pl u) (k_pw u) (k_pc u))) H := hP
  have hD : va_D (va_A (wC q u) s.heap.size) (wC q (k_mk (k_fu u) (k_re u) 0 0 0 0 (k_dbl u) (k_lett u) (k_cnt u) (k_lev u) (k_src u) (k_fr u) (k_e1 u) (k_e2 u) (k_ends u) (k_fal u) (k_ways u) (k_fls u) (k_fnd u) (k_pf u) (k_pl u) (k_pw u) (k_pc u))) := hD
  refine lv_aload_n hx hb d_P_empty_20 rfl (lv_at hl 0 rfl) ?_
  refine lv_lconst (v := 0) hx hb d_P_empty_21 (by decide) ?_
  refine va_put (D := (dC, dI)) (ci := 0) (v := .long 0) (ty := .long) (C := "SeatProofs$Plant") (T := F_P) (N := 12) hx hb hts (iu_P _) t_P t_P_ok n_P hown hK hP hD hS 1 rfl rfl 9 (by decide) (hts _ (List.mem_cons_of_mem _ iw_45)) (fun _ h9 => h9) rfl (by decide +kernel) rfl rfl (Nat.le_of_ble_eq_true rfl) d_P_empty_22 (fun H locs hP hD hS => ?_)
  have hP : va_P (dC, dI) vwCl (wC q (k_mk (k_fu u) (k_re u) 0 0 0 0 0 (k_lett u) (k_cnt u) (k_lev u) (k_src u) (k_fr u) (k_e1 u) (k_e2 u) (k_ends u) (k_fal u) (k_ways u) (k_fls u) (k_fnd u) (k_pf u) (k_pl u) (k_pw u) (k_pc u))) H := hP
  have hD : va_D (va_A (wC q u) s.heap.size) (wC q (k_mk (k_fu u) (k_re u) 0 0 0 0 0 (k_lett u) (k_cnt u) (k_lev u) (k_src u) (k_fr u) (k_e1 u) (k_e2 u) (k_ends u) (k_fal u) (k_ways u) (k_fls u) (k_fnd u) (k_pf u) (k_pl u) (k_pw u) (k_pc u))) := hD
  refine lv_iconst (v := nI 0) hx hb d_P_empty_25 (by decide) ?_
  refine lv_istore_n (lv' := [(1, .int (nI 0)), (0, .ref (ca_p q))]) hx hb d_P_empty_26 rfl hl (by decide) rfl (fun ls hl => ?_)
  have L27 : ∀ (n27 : Nat) (i : Nat) (g : Nat → Int64) (h : Nat → Int32), (i ≤ 16) → (∀ t, t < i → g t = 0) → (∀ t, t < i → h t = nI 0) → 16 - i < n27 → ∀ (H : Heap) (locs : List Loc) (ls : Array Slot), va_P (dC, dI) vwCl (wC q (k_mk (k_fu u) (k_re u) 0 0 0 0 0 (k_lett u) (k_cnt u) (k_lev u) g h (k_e1 u) (k_e2 u) (k_ends u) (k_fal u) (k_ways u) (k_fls u) (k_fnd u) (k_pf u) (k_pl u) (k_pw u) (k_pc u))) H → va_D (va_A (wC q u) s.heap.size) (wC q (k_mk (k_fu u) (k_re u) 0 0 0 0 0 (k_lett u) (k_cnt u) (k_lev u) g h (k_e1 u) (k_e2 u) (k_ends u) (k_fal u) (k_ways u) (k_fls u) (k_fnd u) (k_pf u) (k_pl u) (k_pw u) (k_pc u))) → va_S (va_A (wC q u) s.heap.size) s.heap H locs → lv_has ls 2 [(0, .ref (ca_p q)), (1, .int (nI i))] → W p l e (headSpec w_P_empty ({ frames := 0, cells := 0, slots := 0, locals := 0 })).room s m [Value.ref (ca_p q)].toArray below meth c H locs 0 0 (MQ below (va_Qv (fun z : CSt => ∃ g h, (∀ t, t < 16 → g t = 0) ∧ (∀ t, t < 16 → h t = nI 0) ∧ z = k_s_fr (k_s_src (k_s_dbl (k_s_uns (k_s_opn (k_s_nV (k_s_nS u 0) 0) 0) 0) 0) g) h) (qB (dC, dI) vwCl (tC q) (wC q u) s.heap.size (wC q)) (va_A (wC q u) s.heap.size)) [Value.ref (ca_p q)].toArray s 0 0 (va_A (wC q u) s.heap.size)) (F0 m 27 ls []) := by
    intro n27
    induction n27 with
    | zero => intro i g h hi27 hg27 hh27 hm; exact absurd hm (Nat.not_lt_zero _)
    | succ n27 ih27 =>
      intro i g h hi27 hg27 hh27 hm27 H locs ls hP hD hS hl
      refine lv_iload_n hx hb d_P_empty_27 rfl (lv_at hl 1 rfl) ?_
      refine lv_bipush (v := nI 16) hx hb d_P_empty_28 (by decide) ?_
      refine nv_ge (tgt := 53) hx hb d_P_empty_30 (by decide) (by omega) (by omega) (fun c_1 => ?_) (fun c_1 => ?_)
      · exact W.vret hx hb hr (fun t9 ht9 hW9 => ⟨⟨(k_mk (k_fu u) (k_re u) 0 0 0 0 0 (k_lett u) (k_cnt u) (k_lev u) g h (k_e1 u) (k_e2 u) (k_ends u) (k_fal u) (k_ways u) (k_fls u) (k_fnd u) (k_pf u) (k_pl u) (k_pw u) (k_pc u)), rfl, ⟨g, h, fun t ht => hg27 t (by omega), fun t ht => hh27 t (by omega), rfl⟩, by rw [ht9]; exact hP, va_K.moved hW9.alike hK, hD⟩, hS.F ht9⟩) hS.2.2 d_P_empty_53
      · refine lv_aload_n hx hb d_P_empty_33 rfl (lv_at hl 0 rfl) ?_
        refine va_get (D := (dC, dI)) (ci := 0) (v := .ref (ca_src q)) (C := "SeatProofs$Plant") (T := F_P) (N := 12) hx hb hts (iu_P _) hown hK hP 1 rfl rfl 3 (by decide) (hts _ (List.mem_cons_of_mem _ iw_33)) (fun _ h9 => h9) rfl d_P_empty_34 ?_
        refine lv_iload_n hx hb d_P_empty_37 rfl (lv_at hl 1 rfl) ?_
        refine lv_lconst (v := 0) hx hb d_P_empty_38 (by decide) ?_
        refine st_l hx hb hK hP hD hS 5 1 rfl rfl (va_up g i 0) (by omega) (by decide) (updL_up _ _ _) d_P_empty_39 (fun H locs hP hD hS => ?_)
        have hP : va_P (dC, dI) vwCl (wC q (k_mk (k_fu u) (k_re u) 0 0 0 0 0 (k_lett u) (k_cnt u) (k_lev u) (va_up g i 0) h (k_e1 u) (k_e2 u) (k_ends u) (k_fal u) (k_ways u) (k_fls u) (k_fnd u) (k_pf u) (k_pl u) (k_pw u) (k_pc u))) H := hP
        have hD : va_D (va_A (wC q u) s.heap.size) (wC q (k_mk (k_fu u) (k_re u) 0 0 0 0 0 (k_lett u) (k_cnt u) (k_lev u) (va_up g i 0) h (k_e1 u) (k_e2 u) (k_ends u) (k_fal u) (k_ways u) (k_fls u) (k_fnd u) (k_pf u) (k_pl u) (k_pw u) (k_pc u))) := hD
        refine lv_aload_n hx hb d_P_empty_40 rfl (lv_at hl 0 rfl) ?_
        refine va_get (D := (dC, dI)) (ci := 0) (v := .ref (ca_fr q)) (C := "SeatProofs$Plant") (T := F_P) (N := 12) hx hb hts (iu_P _) hown hK hP 1 rfl rfl 4 (by decide) (hts _ (List.mem_cons_of_mem _ iw_35)) (fun _ h9 => h9) rfl d_P_empty_41 ?_
        refine lv_iload_n hx hb d_P_empty_44 rfl (lv_at hl 1 rfl) ?_
        refine lv_iconst (v := nI 0) hx hb d_P_empty_45 (by decide) ?_
        refine st_i hx hb hK hP hD hS 6 0 rfl rfl (va_up h i (nI 0)) (by omega) (by decide) (rfl) d_P_empty_46 (fun H locs hP hD hS => ?_)
        have hP : va_P (dC, dI) vwCl (wC q (k_mk (k_fu u) (k_re u) 0 0 0 0 0 (k_lett u) (k_cnt u) (k_lev u) (va_up g i 0) (va_up h i (nI 0)) (k_e1 u) (k_e2 u) (k_ends u) (k_fal u) (k_ways u) (k_fls u) (k_fnd u) (k_pf u) (k_pl u) (k_pw u) (k_pc u))) H := hP
        have hD : va_D (va_A (wC q u) s.heap.size) (wC q (k_mk (k_fu u) (k_re u) 0 0 0 0 0 (k_lett u) (k_cnt u) (k_lev u) (va_up g i 0) (va_up h i (nI 0)) (k_e1 u) (k_e2 u) (k_ends u) (k_fal u) (k_ways u) (k_fls u) (k_fnd u) (k_pf u) (k_pl u) (k_pw u) (k_pc u))) := hD
        refine lv_iinc (v := nI (i + 1)) (lv' := [(1, .int (nI (i + 1))), (0, .ref (ca_p q))]) hx hb d_P_empty_47 hl (k := 1) rfl (nI_1 _) (by decide) rfl (fun ls hl => ?_)
        refine lv_goto (tgt := 27) hx hb d_P_empty_50 (by decide) ?_
        exact ih27 (i + 1) (va_up g i 0) (va_up h i (nI 0)) (by omega) (up_lt (h := fun _ => (0 : Int64)) hg27 rfl) (up_lt (h := fun _ => nI 0) hh27 rfl) (by omega) _ _ ls hP hD hS (lv_sub hl [1, 0] rfl)
  exact L27 _ 0 (k_src u) (k_fr u) (Nat.zero_le _) (fun t ht => absurd ht (Nat.not_lt_zero t)) (fun t ht => absurd ht (Nat.not_lt_zero t)) (Nat.lt_succ_self _) _ _ ls hP hD hS (lv_sub hl [1, 0] rfl)
end
