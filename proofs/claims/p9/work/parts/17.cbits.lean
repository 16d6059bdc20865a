theorem bc_fin {x i1 i2 i3 i4 i5 i6 : Int64}
    (e1 : i1 = x - ((x.toUInt64 >>> ((nI 1).toInt64.toUInt64 &&& Int64.toUInt64 63)).toInt64 &&& 6148914691236517205))
    (e2 : i2 = (i1 &&& 3689348814741910323) + ((i1.toUInt64 >>> ((nI 2).toInt64.toUInt64 &&& Int64.toUInt64 63)).toInt64 &&& 3689348814741910323))
    (e3 : i3 = (i2 + (i2.toUInt64 >>> ((nI 4).toInt64.toUInt64 &&& Int64.toUInt64 63)).toInt64) &&& 1085102592571150095)
    (e4 : i4 = i3 + (i3.toUInt64 >>> ((nI 8).toInt64.toUInt64 &&& Int64.toUInt64 63)).toInt64)
    (e5 : i5 = i4 + (i4.toUInt64 >>> ((nI 16).toInt64.toUInt64 &&& Int64.toUInt64 63)).toInt64)
    (e6 : i6 = i5 + (i5.toUInt64 >>> ((nI 32).toInt64.toUInt64 &&& Int64.toUInt64 63)).toInt64) : (i6.toInt32 &&& nI 127) = nI (pcn (tb x) 64) := by
  obtain ⟨n, hn, rfl⟩ := wb_of x
  have m5 : (6148914691236517205 : Int64) = lN (ps_m 85 8) := by decide +kernel
  have m3 : (3689348814741910323 : Int64) = lN (ps_m 51 8) := by decide +kernel
  have mf : (1085102592571150095 : Int64) = lN (ps_m 15 8) := by decide +kernel
  have b5 : ps_m 85 8 = 6148914691236517205 := by decide +kernel
  have b3 : ps_m 51 8 = 3689348814741910323 := by decide +kernel
  have bf : ps_m 15 8 = 1085102592571150095 := by decide +kernel
  have a1 : n / 2 ^ 1 &&& ps_m 85 8 ≤ n / 2 ^ 1 := Nat.and_le_left
  have f1 : i1 = lN (ps_F1 (ps_m 85 8) n) := by
    rw [e1, wb_shr hn (by decide), m5, wb_and (by omega) (by omega), lN_sub (by omega)]; rfl
  generalize hF1 : ps_F1 (ps_m 85 8) n = n1 at f1
  have l1 : n1 < 2 ^ 64 := by rw [← hF1]; unfold ps_F1; omega
  have f2 : i2 = lN (ps_F2 (ps_m 51 8) n1) := by
    rw [e2, f1, wb_shr l1 (by decide), m3, wb_and l1 (by omega), wb_and (a := n1 / 2 ^ 2) (by omega) (by omega), lN_add]; rfl
  have l2 : ps_F2 (ps_m 51 8) n1 < 2 ^ 63 := by
    unfold ps_F2
    have q1 : n1 &&& ps_m 51 8 ≤ ps_m 51 8 := Nat.and_le_right
    have q2 : n1 / 4 &&& ps_m 51 8 ≤ ps_m 51 8 := Nat.and_le_right
    omega
  generalize hF2 : ps_F2 (ps_m 51 8) n1 = n2 at f2 l2
  have f3 : i3 = lN (ps_F3 (ps_m 15 8) n2) := by
    rw [e3, f2, wb_shr (by omega) (by decide), mf, lN_add, wb_and (by omega) (by omega)]; rfl
  have l3 : ps_F3 (ps_m 15 8) n2 ≤ ps_m 15 8 := Nat.and_le_right
  have hG : ps_G 8 n = ps_F3 (ps_m 15 8) n2 := by unfold ps_G; rw [hF1, hF2]
  generalize hF3 : ps_F3 (ps_m 15 8) n2 = n3 at f3 l3 hG
  have f4 : i4 = lN (n3 + n3 / 256) := by rw [e4, f3, wb_shr (by omega) (by decide), lN_add]
  have f5 : i5 = lN ((n3 + n3 / 256) + (n3 + n3 / 256) / 65536) := by rw [e5, f4, wb_shr (by omega) (by decide), lN_add]
  have f6 : i6 = lN (((n3 + n3 / 256) + (n3 + n3 / 256) / 65536) + ((n3 + n3 / 256) + (n3 + n3 / 256) / 65536) / 4294967296) := by rw [e6, f5, wb_shr (by omega) (by decide), lN_add]
  rw [f6, lN_i, pk_and _ 7 (by decide)]
  congr 1
  have hz : ∀ N : Nat, (nI N).toBitVec.toNat % 2 ^ 7 = N % 128 := by
    intro N
    show (BitVec.ofNat 32 N).toNat % 2 ^ 7 = N % 128
    rw [BitVec.toNat_ofNat]; omega
  rw [hz, show pcn (tb (lN n)) 64 = pcn n.testBit 64 from pcn_congr fun i hi => tb_lN hi, ← ps_sw n hn, hG]
  rfl
/-- the lowest set place, as the class reckons it -/
def lowN (x : Int64) : Nat := pcn (tb ((x &&& -x) - 1)) 64
theorem lowN_spec (x : Int64) (hx : ¬ x = 0) : lowN x < 64 ∧ tb x (lowN x) = true ∧ (∀ j, j < lowN x → tb x j = false) ∧ ∀ i, tb (x &&& (x - 1)) i = (tb x i && decide (i ≠ lowN x)) := by
  obtain ⟨k, h1, h2, h3, h4, h5⟩ := low_spec x hx
  have e : lowN x = k := by unfold lowN; rw [h4]; exact pcn_low h1
  rw [e]; exact ⟨h1, h2, h3, h5⟩
/-- with or without a place -/
def wth (x : Int64) (k : Nat) (b : Bool) : Int64 := if b = true then x ||| bt k else x &&& (bt k ^^^ (-1))
theorem tb_wth (x : Int64) {k : Nat} (hk : k < 64) (b : Bool) (i : Nat) : tb (wth x k b) i = if i = k then b else tb x i := by
  unfold wth
  cases b with
  | true =>
    rw [if_pos rfl, tb_or, tb_bt hk]
    by_cases e : i = k <;> simp [e]
  | false =>
    rw [if_neg (by decide), tb_andn, tb_bt hk]
    by_cases e : i = k <;> simp [e]
/-! ints by their bits -/
def t32 (x : Int32) (i : Nat) : Bool := x.toBitVec.getLsbD i
def b32 (k : Nat) : Int32 := nI 1 <<< (nI k &&& 31)
theorem t32_or (x y : Int32) (i : Nat) : t32 (x ||| y) i = (t32 x i || t32 y i) := by unfold t32; rw [Int32.toBitVec_or, BitVec.getLsbD_or]
theorem t32_b32 : ∀ k, k < 16 → ∀ i, i < 32 → t32 (b32 k) i = decide (i = k) := by decide +kernel
theorem t32_0 (i : Nat) : t32 0 i = false := by unfold t32; simp
theorem b32_bv : ∀ k, k < 16 → (b32 k).toBitVec = BitVec.twoPow 32 k := by decide +kernel
theorem t32_has (x : Int32) {k : Nat} (hk : k < 16) : (x &&& b32 k) = 0 ↔ t32 x k = false := by
  unfold t32
  constructor
  · intro h
    have h2 : (x &&& b32 k).toBitVec = 0#32 := by rw [h]; rfl
    rw [Int32.toBitVec_and, b32_bv k hk] at h2
    have h3 := congrArg (fun z => BitVec.getLsbD z k) h2
    simp only [BitVec.getLsbD_and, BitVec.getLsbD_twoPow] at h3
    simpa [show k < 32 by omega] using h3
  · intro h
    apply Int32.toBitVec_inj.mp
    rw [Int32.toBitVec_and, b32_bv k hk]
    apply BitVec.eq_of_getLsbD_eq
    intro i hi
    rw [BitVec.getLsbD_and, BitVec.getLsbD_twoPow]
    by_cases e : i = k
    · subst e; rw [h]; simp
    · simp [Ne.symm e]
section COPY
variable {p : Program} {l : Launch} {e : Env} {R : Room} {s : State} {m : MethodId} {args : Array Value} {below : List Frame} {meth : Method} {c : Code} {H : Heap} {locs : List Loc} {cells slots : Nat} {Q : State → Prop} {cc : ByteArray} {pc : Nat} {ls : Array Slot} {rest : List Value}
variable {D : va_G} {cl : List vw_C} {tys : List (ClassId × FieldType)} {ws : va_W} {a : Nat} {A : Nat → Prop} {H0 : Heap}
theorem cp_i (hx : p.tables.exec = Jvm.exec) (hb : c.code = cc) (hml : c.maxLocals = ls.size) {own : String} {index : Nat} (hown : s.vm.findClass own = some m.cls) (hlink : (Cond.methodLink own index arraycopyName).before args s = true) (hnat : (Cond.native arraycopyName).before args s = true) (hstat : (Cond.static arraycopyName).before args s = true) (hini : (Cond.initialized "java/lang/System").before args s = true)
    (hK : va_K D cl tys s) (hP : va_P D cl ws H) (hD : va_D A ws) (hS : va_S A H0 H locs) (q0 t0 : Nat) {cA : ClassId} {n : Nat} {f : Nat → Int32} (ha : ws[q0]? = some (a, .inl (cA, n, .inl f))) (ht : tys[t0]? = some (cA, .int)) {k b : Nat} (g : Nat → Int32) (hn : n < 2 ^ 31) (h4 : k + 1 + b ≤ n) (hg : va_cpy f f (k + 1) k b = g)
    (hframes : 1 ≤ R.frames) (hlocals : (rest.map fun v => v.category).sum + (nativeFrameWords "java/lang/System" "arraycopy" 5 + 11) ≤ R.locals) (hdg : decode cc pc = .ok (.invokestatic index, 3))
    (kk : ∀ (H1 : Heap) (locs1 : List Loc), va_P D cl (ws.set q0 (a, .inl (cA, n, .inl g))) H1 → va_D A (ws.set q0 (a, .inl (cA, n, .inl g))) → va_S A H0 H1 locs1 → W p l e R s m args below meth c H1 locs1 cells slots Q (F0 m (pc + 3) ls rest)) : W p l e R s m args below meth c H locs cells slots Q (F0 m pc ls (.int (nI b) :: .int (nI k) :: .ref a :: .int (nI (k + 1)) :: .ref a :: rest)) := by
  have c1 : (nI (k + 1)).toNatClampNeg = k + 1 := nI_clamp (by omega)
  have c2 : (nI k).toNatClampNeg = k := nI_clamp (by omega)
  have c3 : (nI b).toNatClampNeg = b := nI_clamp (by omega)
  refine va_copyi hx hb hml hown hlink hnat hstat hini hK hP hD hS q0 q0 t0 t0 ha ha ht ht rfl (nI_pos (by omega)) (nI_pos (by omega)) (nI_pos (by omega)) (by rw [c1, c3]; exact h4) (by rw [c2, c3]; omega) (fun _ _ => rfl) hframes hlocals hdg (fun H1 locs1 h1 h2 h3 => ?_)
  rw [c1, c2, c3, hg] at h1 h2
  exact kk H1 locs1 h1 h2 h3
theorem cp_l (hx : p.tables.exec = Jvm.exec) (hb : c.code = cc) (hml : c.maxLocals = ls.size) {own : String} {index : Nat} (hown : s.vm.findClass own = some m.cls) (hlink : (Cond.methodLink own index arraycopyName).before args s = true) (hnat : (Cond.native arraycopyName).before args s = true) (hstat : (Cond.static arraycopyName).before args s = true) (hini : (Cond.initialized "java/lang/System").before args s = true)
    (hK : va_K D cl tys s) (hP : va_P D cl ws H) (hD : va_D A ws) (hS : va_S A H0 H locs) (q0 t0 : Nat) {cA : ClassId} {n : Nat} {f : Nat → Int64} (ha : ws[q0]? = some (a, .inl (cA, n, .inr (.inl f)))) (ht : tys[t0]? = some (cA, .long)) {k b : Nat} (g : Nat → Int64) (hn : n < 2 ^ 31) (h4 : k + 1 + b ≤ n) (hg : va_cpy f f (k + 1) k b = g)
    (hframes : 1 ≤ R.frames) (hlocals : (rest.map fun v => v.category).sum + (nativeFrameWords "java/lang/System" "arraycopy" 5 + 11) ≤ R.locals) (hdg : decode cc pc = .ok (.invokestatic index, 3))
    (kk : ∀ (H1 : Heap) (locs1 : List Loc), va_P D cl (ws.set q0 (a, .inl (cA, n, .inr (.inl g)))) H1 → va_D A (ws.set q0 (a, .inl (cA, n, .inr (.inl g)))) → va_S A H0 H1 locs1 → W p l e R s m args below meth c H1 locs1 cells slots Q (F0 m (pc + 3) ls rest)) : W p l e R s m args below meth c H locs cells slots Q (F0 m pc ls (.int (nI b) :: .int (nI k) :: .ref a :: .int (nI (k + 1)) :: .ref a :: rest)) := by
  have c1 : (nI (k + 1)).toNatClampNeg = k + 1 := nI_clamp (by omega)
  have c2 : (nI k).toNatClampNeg = k := nI_clamp (by omega)
  have c3 : (nI b).toNatClampNeg = b := nI_clamp (by omega)
  refine va_copyl hx hb hml hown hlink hnat hstat hini hK hP hD hS q0 q0 t0 t0 ha ha ht ht rfl (nI_pos (by omega)) (nI_pos (by omega)) (nI_pos (by omega)) (by rw [c1, c3]; exact h4) (by rw [c2, c3]; omega) (fun _ _ => rfl) hframes hlocals hdg (fun H1 locs1 h1 h2 h3 => ?_)
  rw [c1, c2, c3, hg] at h1 h2
  exact kk H1 locs1 h1 h2 h3
end COPY
abbrev CSt : Type := (Bool) × (Nat) × (Nat) × (Nat) × (Int64) × (Int64) × (Int64) × (Int64) × (Nat) × (Nat → Int64) × (Nat → Int64) × (Nat → Int32) × (Nat → Nat) × (Nat → Nat) × (Nat → Int64) × (Nat → Int64) × (Nat → Int64) × (Nat → Int64) × (Nat → Int32) × (Nat → Nat) × (Nat → Nat) × (Nat → Int64) × (Nat → Int64)
abbrev k_fu (u : CSt) : Bool := u.1
abbrev k_re (u : CSt) : Nat := u.2.1
abbrev k_nS (u : CSt) : Nat := u.2.2.1
abbrev k_nV (u : CSt) : Nat := u.2.2.2.1
abbrev k_opn (u : CSt) : Int64 := u.2.2.2.2.1
abbrev k_uns (u : CSt) : Int64 := u.2.2.2.2.2.1
abbrev k_dbl (u : CSt) : Int64 := u.2.2.2.2.2.2.1
abbrev k_lett (u : CSt) : Int64 := u.2.2.2.2.2.2.2.1
abbrev k_cnt (u : CSt) : Nat := u.2.2.2.2.2.2.2.2.1
abbrev k_lev (u : CSt) : Nat → Int64 := u.2.2.2.2.2.2.2.2.2.1
abbrev k_src (u : CSt) : Nat → Int64 := u.2.2.2.2.2.2.2.2.2.2.1
abbrev k_fr (u : CSt) : Nat → Int32 := u.2.2.2.2.2.2.2.2.2.2.2.1
abbrev k_e1 (u : CSt) : Nat → Nat := u.2.2.2.2.2.2.2.2.2.2.2.2.1
abbrev k_e2 (u : CSt) : Nat → Nat := u.2.2.2.2.2.2.2.2.2.2.2.2.2.1
abbrev k_ends (u : CSt) : Nat → Int64 := u.2.2.2.2.2.2.2.2.2.2.2.2.2.2.1
abbrev k_fal (u : CSt) : Nat → Int64 := u.2.2.2.2.2.2.2.2.2.2.2.2.2.2.2.1
abbrev k_ways (u : CSt) : Nat → Int64 := u.2.2.2.2.2.2.2.2.2.2.2.2.2.2.2.2.1
abbrev k_fls (u : CSt) : Nat → Int64 := u.2.2.2.2.2.2.2.2.2.2.2.2.2.2.2.2.2.1
abbrev k_fnd (u : CSt) : Nat → Int32 := u.2.2.2.2.2.2.2.2.2.2.2.2.2.2.2.2.2.2.1
abbrev k_pf (u : CSt) : Nat → Nat := u.2.2.2.2.2.2.2.2.2.2.2.2.2.2.2.2.2.2.2.1
abbrev k_pl (u : CSt) : Nat → Nat := u.2.2.2.2.2.2.2.2.2.2.2.2.2.2.2.2.2.2.2.2.1
abbrev k_pw (u : CSt) : Nat → Int64 := u.2.2.2.2.2.2.2.2.2.2.2.2.2.2.2.2.2.2.2.2.2.1
abbrev k_pc (u : CSt) : Nat → Int64 := u.2.2.2.2.2.2.2.2.2.2.2.2.2.2.2.2.2.2.2.2.2.2
abbrev k_s_fu (u : CSt) (x : Bool) : CSt := (x, u.2.1, u.2.2.1, u.2.2.2.1, u.2.2.2.2.1, u.2.2.2.2.2.1, u.2.2.2.2.2.2.1, u.2.2.2.2.2.2.2.1, u.2.2.2.2.2.2.2.2.1, u.2.2.2.2.2.2.2.2.2.1, u.2.2.2.2.2.2.2.2.2.2.1, u.2.2.2.2.2.2.2.2.2.2.2.1, u.2.2.2.2.2.2.2.2.2.2.2.2.1, u.2.2.2.2.2.2.2.2.2.2.2.2.2.1, u.2.2.2.2.2.2.2.2.2.2.2.2.2.2.1, u.2.2.2.2.2.2.2.2.2.2.2.2.2.2.2.1, u.2.2.2.2.2.2.2.2.2.2.2.2.2.2.2.2.1, u.2.2.2.2.2.2.2.2.2.2.2.2.2.2.2.2.2.1, u.2.2.2.2.2.2.2.2.2.2.2.2.2.2.2.2.2.2.1, u.2.2.2.2.2.2.2.2.2.2.2.2.2.2.2.2.2.2.2.1, u.2.2.2.2.2.2.2.2.2.2.2.2.2.2.2.2.2.2.2.2.1, u.2.2.2.2.2.2.2.2.2.2.2.2.2.2.2.2.2.2.2.2.2.1, u.2.2.2.2.2.2.2.2.2.2.2.2.2.2.2.2.2.2.2.2.2.2)
abbrev k_s_re (u : CSt) (x : Nat) : CSt := (u.1, x, u.2.2.1, u.2.2.2.1, u.2.2.2.2.1, u.2.2.2.2.2.1, u.2.2.2.2.2.2.1, u.2.2.2.2.2.2.2.1, u.2.2.2.2.2.2.2.2.1, u.2.2.2.2.2.2.2.2.2.1, u.2.2.2.2.2.2.2.2.2.2.1, u.2.2.2.2.2.2.2.2.2.2.2.1, u.2.2.2.2.2.2.2.2.2.2.2.2.1, u.2.2.2.2.2.2.2.2.2.2.2.2.2.1, u.2.2.2.2.2.2.2.2.2.2.2.2.2.2.1, u.2.2.2.2.2.2.2.2.2.2.2.2.2.2.2.1, u.2.2.2.2.2.2.2.2.2.2.2.2.2.2.2.2.1, u.2.2.2.2.2.2.2.2.2.2.2.2.2.2.2.2.2.1, u.2.2.2.2.2.2.2.2.2.2.2.2.2.2.2.2.2.2.1, u.2.2.2.2.2.2.2.2.2.2.2.2.2.2.2.2.2.2.2.1, u.2.2.2.2.2.2.2.2.2.2.2.2.2.2.2.2.2.2.2.2.1, u.2.2.2.2.2.2.2.2.2.2.2.2.2.2.2.2.2.2.2.2.2.1, u.2.2.2.2.2.2.2.2.2.2.2.2.2.2.2.2.2.2.2.2.2.2)
abbrev k_s_nS (u : CSt) (x : Nat) : CSt := (u.1, u.2.1, x, u.2.2.2.1, u.2.2.2.2.1, u.2.2.2.2.2.1, u.2.2.2.2.2.2.1, u.2.2.2.2.2.2.2.1, u.2.2.2.2.2.2.2.2.1, u.2.2.2.2.2.2.2.2.2.1, u.2.2.2.2.2.2.2.2.2.2.1, u.2.2.2.2.2.2.2.2.2.2.2.1, u.2.2.2.2.2.2.2.2.2.2.2.2.1, u.2.2.2.2.2.2.2.2.2.2.2.2.2.1, u.2.2.2.2.2.2.2.2.2.2.2.2.2.2.1, u.2.2.2.2.2.2.2.2.2.2.2.2.2.2.2.1, u.2.2.2.2.2.2.2.2.2.2.2.2.2.2.2.2.1, u.2.2.2.2.2.2.2.2.2.2.2.2.2.2.2.2.2.1, u.2.2.2.2.2.2.2.2.2.2.2.2.2.2.2.2.2.2.1, u.2.2.2.2.2.2.2.2.2.2.2.2.2.2.2.2.2.2.2.1, u.2.2.2.2.2.2.2.2.2.2.2.2.2.2.2.2.2.2.2.2.1, u.2.2.2.2.2.2.2.2.2.2.2.2.2.2.2.2.2.2.2.2.2.1, u.2.2.2.2.2.2.2.2.2.2.2.2.2.2.2.2.2.2.2.2.2.2)
abbrev k_s_nV (u : CSt) (x : Nat) : CSt := (u.1, u.2.1, u.2.2.1, x, u.2.2.2.2.1, u.2.2.2.2.2.1, u.2.2.2.2.2.2.1, u.2.2.2.2.2.2.2.1, u.2.2.2.2.2.2.2.2.1, u.2.2.2.2.2.2.2.2.2.1, u.2.2.2.2.2.2.2.2.2.2.1, u.2.2.2.2.2.2.2.2.2.2.2.1, u.2.2.2.2.2.2.2.2.2.2.2.2.1, u.2.2.2.2.2.2.2.2.2.2.2.2.2.1, u.2.2.2.2.2.2.2.2.2.2.2.2.2.2.1, u.2.2.2.2.2.2.2.2.2.2.2.2.2.2.2.1, u.2.2.2.2.2.2.2.2.2.2.2.2.2.2.2.2.1, u.2.2.2.2.2.2.2.2.2.2.2.2.2.2.2.2.2.1, u.2.2.2.2.2.2.2.2.2.2.2.2.2.2.2.2.2.2.1, u.2.2.2.2.2.2.2.2.2.2.2.2.2.2.2.2.2.2.2.1, u.2.2.2.2.2.2.2.2.2.2.2.2.2.2.2.2.2.2.2.2.1, u.2.2.2.2.2.2.2.2.2.2.2.2.2.2.2.2.2.2.2.2.2.1, u.2.2.2.2.2.2.2.2.2.2.2.2.2.2.2.2.2.2.2.2.2.2)
abbrev k_s_opn (u : CSt) (x : Int64) : CSt := (u.1, u.2.1, u.2.2.1, u.2.2.2.1, x, u.2.2.2.2.2.1, u.2.2.2.2.2.2.1, u.2.2.2.2.2.2.2.1, u.2.2.2.2.2.2.2.2.1, u.2.2.2.2.2.2.2.2.2.1, u.2.2.2.2.2.2.2.2.2.2.1, u.2.2.2.2.2.2.2.2.2.2.2.1, u.2.2.2.2.2.2.2.2.2.2.2.2.1, u.2.2.2.2.2.2.2.2.2.2.2.2.2.1, u.2.2.2.2.2.2.2.2.2.2.2.2.2.2.1, u.2.2.2.2.2.2.2.2.2.2.2.2.2.2.2.1, u.2.2.2.2.2.2.2.2.2.2.2.2.2.2.2.2.1, u.2.2.2.2.2.2.2.2.2.2.2.2.2.2.2.2.2.1, u.2.2.2.2.2.2.2.2.2.2.2.2.2.2.2.2.2.2.1, u.2.2.2.2.2.2.2.2.2.2.2.2.2.2.2.2.2.2.2.1, u.2.2.2.2.2.2.2.2.2.2.2.2.2.2.2.2.2.2.2.2.1, u.2.2.2.2.2.2.2.2.2.2.2.2.2.2.2.2.2.2.2.2.2.1, u.2.2.2.2.2.2.2.2.2.2.2.2.2.2.2.2.2.2.2.2.2.2)
abbrev k_s_uns (u : CSt) (x : Int64) : CSt := (u.1, u.2.1, u.2.2.1, u.2.2.2.1, u.2.2.2.2.1, x, u.2.2.2.2.2.2.1, u.2.2.2.2.2.2.2.1, u.2.2.2.2.2.2.2.2.1, u.2.2.2.2.2.2.2.2.2.1, u.2.2.2.2.2.2.2.2.2.2.1, u.2.2.2.2.2.2.2.2.2.2.2.1, u.2.2.2.2.2.2.2.2.2.2.2.2.1, u.2.2.2.2.2.2.2.2.2.2.2.2.2.1, u.2.2.2.2.2.2.2.2.2.2.2.2.2.2.1, u.2.2.2.2.2.2.2.2.2.2.2.2.2.2.2.1, u.2.2.2.2.2.2.2.2.2.2.2.2.2.2.2.2.1, u.2.2.2.2.2.2.2.2.2.2.2.2.2.2.2.2.2.1, u.2.2.2.2.2.2.2.2.2.2.2.2.2.2.2.2.2.2.1, u.2.2.2.2.2.2.2.2.2.2.2.2.2.2.2.2.2.2.2.1, u.2.2.2.2.2.2.2.2.2.2.2.2.2.2.2.2.2.2.2.2.1, u.2.2.2.2.2.2.2.2.2.2.2.2.2.2.2.2.2.2.2.2.2.1, u.2.2.2.2.2.2.2.2.2.2.2.2.2.2.2.2.2.2.2.2.2.2)
abbrev k_s_dbl (u : CSt) (x : Int64) : CSt := (u.1, u.2.1, u.2.2.1, u.2.2.2.1, u.2.2.2.2.1, u.2.2.2.2.2.1, x, u.2.2.2.2.2.2.2.1, u.2.2.2.2.2.2.2.2.1, u.2.2.2.2.2.2.2.2.2.1, u.2.2.2.2.2.2.2.2.2.2.1, u.2.2.2.2.2.2.2.2.2.2.2.1, u.2.2.2.2.2.2.2.2.2.2.2.2.1, u.2.2.2.2.2.2.2.2.2.2.2.2.2.1, u.2.2.2.2.2.2.2.2.2.2.2.2.2.2.1, u.2.2.2.2.2.2.2.2.2.2.2.2.2.2.2.1, u.2.2.2.2.2.2.2.2.2.2.2.2.2.2.2.2.1, u.2.2.2.2.2.2.2.2.2.2.2.2.2.2.2.2.2.1, u.2.2.2.2.2.2.2.2.2.2.2.2.2.2.2.2.2.2.1, u.2.2.2.2.2.2.2.2.2.2.2.2.2.2.2.2.2.2.2.1, u.2.2.2.2.2.2.2.2.2.2.2.2.2.2.2.2.2.2.2.2.1, u.2.2.2.2.2.2.2.2.2.2.2.2.2.2.2.2.2.2.2.2.2.1, u.2.2.2.2.2.2.2.2.2.2.2.2.2.2.2.2.2.2.2.2.2.2)
abbrev k_s_lett (u : CSt) (x : Int64) : CSt := (u.1, u.2.1, u.2.2.1, u.2.2.2.1, u.2.2.2.2.1, u.2.2.2.2.2.1, u.2.2.2.2.2.2.1, x, u.2.2.2.2.2.2.2.2.1, u.2.2.2.2.2.2.2.2.2.1, u.2.2.2.2.2.2.2.2.2.2.1, u.2.2.2.2.2.2.2.2.2.2.2.1, u.2.2.2.2.2.2.2.2.2.2.2.2.1, u.2.2.2.2.2.2.2.2.2.2.2.2.2.1, u.2.2.2.2.2.2.2.2.2.2.2.2.2.2.1, u.2.2.2.2.2.2.2.2.2.2.2.2.2.2.2.1, u.2.2.2.2.2.2.2.2.2.2.2.2.2.2.2.2.1, u.2.2.2.2.2.2.2.2.2.2.2.2.2.2.2.2.2.1, u.2.2.2.2.2.2.2.2.2.2.2.2.2.2.2.2.2.2.1, u.2.2.2.2.2.2.2.2.2.2.2.2.2.2.2.2.2.2.2.1, u.2.2.2.2.2.2.2.2.2.2.2.2.2.2.2.2.2.2.2.2.1, u.2.2.2.2.2.2.2.2.2.2.2.2.2.2.2.2.2.2.2.2.2.1, u.2.2.2.2.2.2.2.2.2.2.2.2.2.2.2.2.2.2.2.2.2.2)
abbrev k_s_cnt (u : CSt) (x : Nat) : CSt := (u.1, u.2.1, u.2.2.1, u.2.2.2.1, u.2.2.2.2.1, u.2.2.2.2.2.1, u.2.2.2.2.2.2.1, u.2.2.2.2.2.2.2.1, x, u.2.2.2.2.2.2.2.2.2.1, u.2.2.2.2.2.2.2.2.2.2.1, u.2.2.2.2.2.2.2.2.2.2.2.1, u.2.2.2.2.2.2.2.2.2.2.2.2.1, u.2.2.2.2.2.2.2.2.2.2.2.2.2.1, u.2.2.2.2.2.2.2.2.2.2.2.2.2.2.1, u.2.2.2.2.2.2.2.2.2.2.2.2.2.2.2.1, u.2.2.2.2.2.2.2.2.2.2.2.2.2.2.2.2.1, u.2.2.2.2.2.2.2.2.2.2.2.2.2.2.2.2.2.1, u.2.2.2.2.2.2.2.2.2.2.2.2.2.2.2.2.2.2.1, u.2.2.2.2.2.2.2.2.2.2.2.2.2.2.2.2.2.2.2.1, u.2.2.2.2.2.2.2.2.2.2.2.2.2.2.2.2.2.2.2.2.1, u.2.2.2.2.2.2.2.2.2.2.2.2.2.2.2.2.2.2.2.2.2.1, u.2.2.2.2.2.2.2.2.2.2.2.2.2.2.2.2.2.2.2.2.2.2)
abbrev k_s_lev (u : CSt) (x : Nat → Int64) : CSt := (u.1, u.2.1, u.2.2.1, u.2.2.2.1, u.2.2.2.2.1, u.2.2.2.2.2.1, u.2.2.2.2.2.2.1, u.2.2.2.2.2.2.2.1, u.2.2.2.2.2.2.2.2.1, x, u.2.2.2.2.2.2.2.2.2.2.1, u.2.2.2.2.2.2.2.2.2.2.2.1, u.2.2.2.2.2.2.2.2.2.2.2.2.1, u.2.2.2.2.2.2.2.2.2.2.2.2.2.1, u.2.2.2.2.2.2.2.2.2.2.2.2.2.2.1, u.2.2.2.2.2.2.2.2.2.2.2.2.2.2.2.1, u.2.2.2.2.2.2.2.2.2.2.2.2.2.2.2.2.1, u.2.2.2.2.2.2.2.2.2.2.2.2.2.2.2.2.2.1, u.2.2.2.2.2.2.2.2.2.2.2.2.2.2.2.2.2.2.1, u.2.2.2.2.2.2.2.2.2.2.2.2.2.2.2.2.2.2.2.1, u.2.2.2.2.2.2.2.2.2.2.2.2.2.2.2.2.2.2.2.2.1, u.2.2.2.2.2.2.2.2.2.2.2.2.2.2.2.2.2.2.2.2.2.1, u.2.2.2.2.2.2.2.2.2.2.2.2.2.2.2.2.2.2.2.2.2.2)
abbrev k_s_src (u : CSt) (x : Nat → Int64) : CSt := (u.1, u.2.1, u.2.2.1, u.2.2.2.1, u.2.2.2.2.1, u.2.2.2.2.2.1, u.2.2.2.2.2.2.1, u.2.2.2.2.2.2.2.1, u.2.2.2.2.2.2.2.2.1, u.2.2.2.2.2.2.2.2.2.1, x, u.2.2.2.2.2.2.2.2.2.2.2.1, u.2.2.2.2.2.2.2.2.2.2.2.2.1, u.2.2.2.2.2.2.2.2.2.2.2.2.2.1, u.2.2.2.2.2.2.2.2.2.2.2.2.2.2.1, u.2.2.2.2.2.2.2.2.2.2.2.2.2.2.2.1, u.2.2.2.2.2.2.2.2.2.2.2.2.2.2.2.2.1, u.2.2.2.2.2.2.2.2.2.2.2.2.2.2.2.2.2.1, u.2.2.2.2.2.2.2.2.2.2.2.2.2.2.2.2.2.2.1, u.2.2.2.2.2.2.2.2.2.2.2.2.2.2.2.2.2.2.2.1, u.2.2.2.2.2.2.2.2.2.2.2.2.2.2.2.2.2.2.2.2.1, u.2.2.2.2.2.2.2.2.2.2.2.2.2.2.2.2.2.2.2.2.2.1, u.2.2.2.2.2.2.2.2.2.2.2.2.2.2.2.2.2.2.2.2.2.2)
abbrev k_s_fr (u : CSt) (x : Nat → Int32) : CSt := (u.1, u.2.1, u.2.2.1, u.2.2.2.1, u.2.2.2.2.1, u.2.2.2.2.2.1, u.2.2.2.2.2.2.1, u.2.2.2.2.2.2.2.1, u.2.2.2.2.2.2.2.2.1, u.2.2.2.2.2.2.2.2.2.1, u.2.2.2.2.2.2.2.2.2.2.1, x, u.2.2.2.2.2.2.2.2.2.2.2.2.1, u.2.2.2.2.2.2.2.2.2.2.2.2.2.1, u.2.2.2.2.2.2.2.2.2.2.2.2.2.2.1, u.2.2.2.2.2.2.2.2.2.2.2.2.2.2.2.1, u.2.2.2.2.2.2.2.2.2.2.2.2.2.2.2.2.1, u.2.2.2.2.2.2.2.2.2.2.2.2.2.2.2.2.2.1, u.2.2.2.2.2.2.2.2.2.2.2.2.2.2.2.2.2.2.1, u.2.2.2.2.2.2.2.2.2.2.2.2.2.2.2.2.2.2.2.1, u.2.2.2.2.2.2.2.2.2.2.2.2.2.2.2.2.2.2.2.2.1, u.2.2.2.2.2.2.2.2.2.2.2.2.2.2.2.2.2.2.2.2.2.1, u.2.2.2.2.2.2.2.2.2.2.2.2.2.2.2.2.2.2.2.2.2.2)
abbrev k_s_e1 (u : CSt) (x : Nat → Nat) : CSt := (u.1, u.2.1, u.2.2.1, u.2.2.2.1, u.2.2.2.2.1, u.2.2.2.2.2.1, u.2.2.2.2.2.2.1, u.2.2.2.2.2.2.2.1, u.2.2.2.2.2.2.2.2.1, u.2.2.2.2.2.2.2.2.2.1, u.2.2.2.2.2.2.2.2.2.2.1, u.2.2.2.2.2.2.2.2.2.2.2.1, x, u.2.2.2.2.2.2.2.2.2.2.2.2.2.1, u.2.2.2.2.2.2.2.2.2.2.2.2.2.2.1, u.2.2.2.2.2.2.2.2.2.2.2.2.2.2.2.1, u.2.2.2.2.2.2.2.2.2.2.2.2.2.2.2.2.1, u.2.2.2.2.2.2.2.2.2.2.2.2.2.2.2.2.2.1, u.2.2.2.2.2.2.2.2.2.2.2.2.2.2.2.2.2.2.1, u.2.2.2.2.2.2.2.2.2.2.2.2.2.2.2.2.2.2.2.1, u.2.2.2.2.2.2.2.2.2.2.2.2.2.2.2.2.2.2.2.2.1, u.2.2.2.2.2.2.2.2.2.2.2.2.2.2.2.2.2.2.2.2.2.1, u.2.2.2.2.2.2.2.2.2.2.2.2.2.2.2.2.2.2.2.2.2.2)
abbrev k_s_e2 (u : CSt) (x : Nat → Nat) : CSt := (u.1, u.2.1, u.2.2.1, u.2.2.2.1, u.2.2.2.2.1, u.2.2.2.2.2.1, u.2.2.2.2.2.2.1, u.2.2.2.2.2.2.2.1, u.2.2.2.2.2.2.2.2.1, u.2.2.2.2.2.2.2.2.2.1, u.2.2.2.2.2.2.2.2.2.2.1, u.2.2.2.2.2.2.2.2.2.2.2.1, u.2.2.2.2.2.2.2.2.2.2.2.2.1, x, u.2.2.2.2.2.2.2.2.2.2.2.2.2.2.1, u.2.2.2.2.2.2.2.2.2.2.2.2.2.2.2.1, u.2.2.2.2.2.2.2.2.2.2.2.2.2.2.2.2.1, u.2.2.2.2.2.2.2.2.2.2.2.2.2.2.2.2.2.1, u.2.2.2.2.2.2.2.2.2.2.2.2.2.2.2.2.2.2.1, u.2.2.2.2.2.2.2.2.2.2.2.2.2.2.2.2.2.2.2.1, u.2.2.2.2.2.2.2.2.2.2.2.2.2.2.2.2.2.2.2.2.1, u.2.2.2.2.2.2.2.2.2.2.2.2.2.2.2.2.2.2.2.2.2.1, u.2.2.2.2.2.2.2.2.2.2.2.2.2.2.2.2.2.2.2.2.2.2)
abbrev k_s_ends (u : CSt) (x : Nat → Int64) : CSt := (u.1, u.2.1, u.2.2.1, u.2.2.2.1, u.2.2.2.2.1, u.2.2.2.2.2.1, u.2.2.2.2.2.2.1, u.2.2.2.2.2.2.2.1, u.2.2.2.2.2.2.2.2.1, u.2.2.2.2.2.2.2.2.2.1, u.2.2.2.2.2.2.2.2.2.2.1, u.2.2.2.2.2.2.2.2.2.2.2.1, u.2.2.2.2.2.2.2.2.2.2.2.2.1, u.2.2.2.2.2.2.2.2.2.2.2.2.2.1, x, u.2.2.2.2.2.2.2.2.2.2.2.2.2.2.2.1, u.2.2.2.2.2.2.2.2.2.2.2.2.2.2.2.2.1, u.2.2.2.2.2.2.2.2.2.2.2.2.2.2.2.2.2.1, u.2.2.2.2.2.2.2.2.2.2.2.2.2.2.2.2.2.2.1, u.2.2.2.2.2.2.2.2.2.2.2.2.2.2.2.2.2.2.2.1, u.2.2.2.2.2.2.2.2.2.2.2.2.2.2.2.2.2.2.2.2.1, u.2.2.2.2.2.2.2.2.2.2.2.2.2.2.2.2.2.2.2.2.2.1, u.2.2.2.2.2.2.2.2.2.2.2.2.2.2.2.2.2.2.2.2.2.2)
abbrev k_s_fal (u : CSt) (x : Nat → Int64) : CSt := (u.1, u.2.1, u.2.2.1, u.2.2.2.1, u.2.2.2.2.1, u.2.2.2.2.2.1, u.2.2.2.2.2.2.1, u.2.2.2.2.2.2.2.1, u.2.2.2.2.2.2.2.2.1, u.2.2.2.2.2.2.2.2.2.1, u.2.2.2.2.2.2.2.2.2.2.1, u.2.2.2.2.2.2.2.2.2.2.2.1, u.2.2.2.2.2.2.2.2.2.2.2.2.1, u.2.2.2.2.2.2.2.2.2.2.2.2.2.1, u.2.2.2.2.2.2.2.2.2.2.2.2.2.2.1, x, u.2.2.2.2.2.2.2.2.2.2.2.2.2.2.2.2.1, u.2.2.2.2.2.2.2.2.2.2.2.2.2.2.2.2.2.1, u.2.2.2.2.2.2.2.2.2.2.2.2.2.2.2.2.2.2.1, u.2.2.2.2.2.2.2.2.2.2.2.2.2.2.2.2.2.2.2.1, u.2.2.2.2.2.2.2.2.2.2.2.2.2.2.2.2.2.2.2.2.1, u.2.2.2.2.2.2.2.2.2.2.2.2.2.2.2.2.2.2.2.2.2.1, u.2.2.2.2.2.2.2.2.2.2.2.2.2.2.2.2.2.2.2.2.2.2)
abbrev k_s_ways (u : CSt) (x : Nat → Int64) : CSt := (u.1, u.2.1, u.2.2.1, u.2.2.2.1, u.2.2.2.2.1, u.2.2.2.2.2.1, u.2.2.2.2.2.2.1, u.2.2.2.2.2.2.2.1, u.2.2.2.2.2.2.2.2.1, u.2.2.2.2.2.2.2.2.2.1, u.2.2.2.2.2.2.2.2.2.2.1, u.2.2.2.2.2.2.2.2.2.2.2.1, u.2.2.2.2.2.2.2.2.2.2.2.2.1, u.2.2.2.2.2.2.2.2.2.2.2.2.2.1, u.2.2.2.2.2.2.2.2.2.2.2.2.2.2.1, u.2.2.2.2.2.2.2.2.2.2.2.2.2.2.2.1, x, u.2.2.2.2.2.2.2.2.2.2.2.2.2.2.2.2.2.1, u.2.2.2.2.2.2.2.2.2.2.2.2.2.2.2.2.2.2.1, u.2.2.2.2.2.2.2.2.2.2.2.2.2.2.2.2.2.2.2.1, u.2.2.2.2.2.2.2.2.2.2.2.2.2.2.2.2.2.2.2.2.1, u.2.2.2.2.2.2.2.2.2.2.2.2.2.2.2.2.2.2.2.2.2.1, u.2.2.2.2.2.2.2.2.2.2.2.2.2.2.2.2.2.2.2.2.2.2)
abbrev k_s_fls (u : CSt) (x : Nat → Int64) : CSt := (u.1, u.2.1, u.2.2.1, u.2.2.2.1, u.2.2.2.2.1, u.2.2.2.2.2.1, u.2.2.2.2.2.2.1, u.2.2.2.2.2.2.2.1, u.2.2.2.2.2.2.2.2.1, u.2.2.2.2.2.2.2.2.2.1, u.2.2.2.2.2.2.2.2.2.2.1, u.2.2.2.2.2.2.2.2.2.2.2.1, u.2.2.2.2.2.2.2.2.2.2.2.2.1, u.2.2.2.2.2.2.2.2.2.2.2.2.2.1, u.2.2.2.2.2.2.2.2.2.2.2.2.2.2.1, u.2.2.2.2.2.2.2.2.2.2.2.2.2.2.2.1, u.2.2.2.2.2.2.2.2.2.2.2.2.2.2.2.2.1, x, u.2.2.2.2.2.2.2.2.2.2.2.2.2.2.2.2.2.2.1, u.2.2.2.2.2.2.2.2.2.2.2.2.2.2.2.2.2.2.2.1, u.2.2.2.2.2.2.2.2.2.2.2.2.2.2.2.2.2.2.2.2.1, u.2.2.2.2.2.2.2.2.2.2.2.2.2.2.2.2.2.2.2.2.2.1, u.2.2.2.2.2.2.2.2.2.2.2.2.2.2.2.2.2.2.2.2.2.2)
abbrev k_s_fnd (u : CSt) (x : Nat → Int32) : CSt := (u.1, u.2.1, u.2.2.1, u.2.2.2.1, u.2.2.2.2.1, u.2.2.2.2.2.1, u.2.2.2.2.2.2.1, u.2.2.2.2.2.2.2.1, u.2.2.2.2.2.2.2.2.1, u.2.2.2.2.2.2.2.2.2.1, u.2.2.2.2.2.2.2.2.2.2.1, u.2.2.2.2.2.2.2.2.2.2.2.1, u.2.2.2.2.2.2.2.2.2.2.2.2.1, u.2.2.2.2.2.2.2.2.2.2.2.2.2.1, u.2.2.2.2.2.2.2.2.2.2.2.2.2.2.1, u.2.2.2.2.2.2.2.2.2.2.2.2.2.2.2.1, u.2.2.2.2.2.2.2.2.2.2.2.2.2.2.2.2.1, u.2.2.2.2.2.2.2.2.2.2.2.2.2.2.2.2.2.1, x, u.2.2.2.2.2.2.2.2.2.2.2.2.2.2.2.2.2.2.2.1, u.2.2.2.2.2.2.2.2.2.2.2.2.2.2.2.2.2.2.2.2.1, u.2.2.2.2.2.2.2.2.2.2.2.2.2.2.2.2.2.2.2.2.2.1, u.2.2.2.2.2.2.2.2.2.2.2.2.2.2.2.2.2.2.2.2.2.2)
abbrev k_s_pf (u : CSt) (x : Nat → Nat) : CSt := (u.1, u.2.1, u.2.2.1, u.2.2.2.1, u.2.2.2.2.1, u.2.2.2.2.2.1, u.2.2.2.2.2.2.1, u.2.2.2.2.2.2.2.1, u.2.2.2.2.2.2.2.2.1, u.2.2.2.2.2.2.2.2.2.1, u.2.2.2.2.2.2.2.2.2.2.1, u.2.2.2.2.2.2.2.2.2.2.2.1, u.2.2.2.2.2.2.2.2.2.2.2.2.1, u.2.2.2.2.2.2.2.2.2.2.2.2.2.1, u.2.2.2.2.2.2.2.2.2.2.2.2.2.2.1, u.2.2.2.2.2.2.2.2.2.2.2.2.2.2.2.1, u.2.2.2.2.2.2.2.2.2.2.2.2.2.2.2.2.1, u.2.2.2.2.2.2.2.2.2.2.2.2.2.2.2.2.2.1, u.2.2.2.2.2.2.2.2.2.2.2.2.2.2.2.2.2.2.1, x, u.2.2.2.2.2.2.2.2.2.2.2.2.2.2.2.2.2.2.2.2.1, u.2.2.2.2.2.2.2.2.2.2.2.2.2.2.2.2.2.2.2.2.2.1, u.2.2.2.2.2.2.2.2.2.2.2.2.2.2.2.2.2.2.2.2.2.2)
abbrev k_s_pl (u : CSt) (x : Nat → Nat) : CSt := (u.1, u.2.1, u.2.2.1, u.2.2.2.1, u.2.2.2.2.1, u.2.2.2.2.2.1, u.2.2.2.2.2.2.1, u.2.2.2.2.2.2.2.1, u.2.2.2.2.2.2.2.2.1, u.2.2.2.2.2.2.2.2.2.1, u.2.2.2.2.2.2.2.2.2.2.1, u.2.2.2.2.2.2.2.2.2.2.2.1, u.2.2.2.2.2.2.2.2.2.2.2.2.1, u.2.2.2.2.2.2.2.2.2.2.2.2.2.1, u.2.2.2.2.2.2.2.2.2.2.2.2.2.2.1, u.2.2.2.2.2.2.2.2.2.2.2.2.2.2.2.1, u.2.2.2.2.2.2.2.2.2.2.2.2.2.2.2.2.1, u.2.2.2.2.2.2.2.2.2.2.2.2.2.2.2.2.2.1, u.2.2.2.2.2.2.2.2.2.2.2.2.2.2.2.2.2.2.1, u.2.2.2.2.2.2.2.2.2.2.2.2.2.2.2.2.2.2.2.1, x, u.2.2.2.2.2.2.2.2.2.2.2.2.2.2.2.2.2.2.2.2.2.1, u.2.2.2.2.2.2.2.2.2.2.2.2.2.2.2.2.2.2.2.2.2.2)
abbrev k_s_pw (u : CSt) (x : Nat → Int64) : CSt := (u.1, u.2.1, u.2.2.1, u.2.2.2.1, u.2.2.2.2.1, u.2.2.2.2.2.1, u.2.2.2.2.2.2.1, u.2.2.2.2.2.2.2.1, u.2.2.2.2.2.2.2.2.1, u.2.2.2.2.2.2.2.2.2.1, u.2.2.2.2.2.2.2.2.2.2.1, u.2.2.2.2.2.2.2.2.2.2.2.1, u.2.2.2.2.2.2.2.2.2.2.2.2.1, u.2.2.2.2.2.2.2.2.2.2.2.2.2.1, u.2.2.2.2.2.2.2.2.2.2.2.2.2.2.1, u.2.2.2.2.2.2.2.2.2.2.2.2.2.2.2.1, u.2.2.2.2.2.2.2.2.2.2.2.2.2.2.2.2.1, u.2.2.2.2.2.2.2.2.2.2.2.2.2.2.2.2.2.1, u.2.2.2.2.2.2.2.2.2.2.2.2.2.2.2.2.2.2.1, u.2.2.2.2.2.2.2.2.2.2.2.2.2.2.2.2.2.2.2.1, u.2.2.2.2.2.2.2.2.2.2.2.2.2.2.2.2.2.2.2.2.1, x, u.2.2.2.2.2.2.2.2.2.2.2.2.2.2.2.2.2.2.2.2.2.2)
abbrev k_s_pc (u : CSt) (x : Nat → Int64) : CSt := (u.1, u.2.1, u.2.2.1, u.2.2.2.1, u.2.2.2.2.1, u.2.2.2.2.2.1, u.2.2.2.2.2.2.1, u.2.2.2.2.2.2.2.1, u.2.2.2.2.2.2.2.2.1, u.2.2.2.2.2.2.2.2.2.1, u.2.2.2.2.2.2.2.2.2.2.1, u.2.2.2.2.2.2.2.2.2.2.2.1, u.2.2.2.2.2.2.2.2.2.2.2.2.1, u.2.2.2.2.2.2.2.2.2.2.2.2.2.1, u.2.2.2.2.2.2.2.2.2.2.2.2.2.2.1, u.2.2.2.2.2.2.2.2.2.2.2.2.2.2.2.1, u.2.2.2.2.2.2.2.2.2.2.2.2.2.2.2.2.1, u.2.2.2.2.2.2.2.2.2.2.2.2.2.2.2.2.2.1, u.2.2.2.2.2.2.2.2.2.2.2.2.2.2.2.2.2.2.1, u.2.2.2.2.2.2.2.2.2.2.2.2.2.2.2.2.2.2.2.1, u.2.2.2.2.2.2.2.2.2.2.2.2.2.2.2.2.2.2.2.2.1, u.2.2.2.2.2.2.2.2.2.2.2.2.2.2.2.2.2.2.2.2.2.1, x)
abbrev k_mk (x0 : Bool) (x1 : Nat) (x2 : Nat) (x3 : Nat) (x4 : Int64) (x5 : Int64) (x6 : Int64) (x7 : Int64) (x8 : Nat) (x9 : Nat → Int64) (x10 : Nat → Int64) (x11 : Nat → Int32) (x12 : Nat → Nat) (x13 : Nat → Nat) (x14 : Nat → Int64) (x15 : Nat → Int64) (x16 : Nat → Int64) (x17 : Nat → Int64) (x18 : Nat → Int32) (x19 : Nat → Nat) (x20 : Nat → Nat) (x21 : Nat → Int64) (x22 : Nat → Int64) : CSt := (x0, x1, x2, x3, x4, x5, x6, x7, x8, x9, x10, x11, x12, x13, x14, x15, x16, x17, x18, x19, x20, x21, x22)
theorem k_mk_fu {x0 : Bool} {x1 : Nat} {x2 : Nat} {x3 : Nat} {x4 : Int64} {x5 : Int64} {x6 : Int64} {x7 : Int64} {x8 : Nat} {x9 : Nat → Int64} {x10 : Nat → Int64} {x11 : Nat → Int32} {x12 : Nat → Nat} {x13 : Nat → Nat} {x14 : Nat → Int64} {x15 : Nat → Int64} {x16 : Nat → Int64} {x17 : Nat → Int64} {x18 : Nat → Int32} {x19 : Nat → Nat} {x20 : Nat → Nat} {x21 : Nat → Int64} {x22 : Nat → Int64} : k_fu (k_mk x0 x1 x2 x3 x4 x5 x6 x7 x8 x9 x10 x11 x12 x13 x14 x15 x16 x17 x18 x19 x20 x21 x22) = x0 := rfl
theorem k_mk_re {x0 : Bool} {x1 : Nat} {x2 : Nat} {x3 : Nat} {x4 : Int64} {x5 : Int64} {x6 : Int64} {x7 : Int64} {x8 : Nat} {x9 : Nat → Int64} {x10 : Nat → Int64} {x11 : Nat → Int32} {x12 : Nat → Nat} {x13 : Nat → Nat} {x14 : Nat → Int64} {x15 : Nat → Int64} {x16 : Nat → Int64} {x17 : Nat → Int64} {x18 : Nat → Int32} {x19 : Nat → Nat} {x20 : Nat → Nat} {x21 : Nat → Int64} {x22 : Nat → Int64} : k_re (k_mk x0 x1 x2 x3 x4 x5 x6 x7 x8 x9 x10 x11 x12 x13 x14 x15 x16 x17 x18 x19 x20 x21 x22) = x1 := rfl
theorem k_mk_nS {x0 : Bool} {x1 : Nat} {x2 : Nat} {x3 : Nat} {x4 : Int64} {x5 : Int64} {x6 : Int64} {x7 : Int64} {x8 : Nat} {x9 : Nat → Int64} {x10 : Nat → Int64} {x11 : Nat → Int32} {x12 : Nat → Nat} {x13 : Nat → Nat} {x14 : Nat → Int64} {x15 : Nat → Int64} {x16 : Nat → Int64} {x17 : Nat → Int64} {x18 : Nat → Int32} {x19 : Nat → Nat} {x20 : Nat → Nat} {x21 : Nat → Int64} {x22 : Nat → Int64} : k_nS (k_mk x0 x1 x2 x3 x4 x5 x6 x7 x8 x9 x10 x11 x12 x13 x14 x15 x16 x17 x18 x19 x20 x21 x22) = x2 := rfl
theorem k_mk_nV {x0 : Bool} {x1 : Nat} {x2 : Nat} {x3 : Nat} {x4 : Int64} {x5 : Int64} {x6 : Int64} {x7 : Int64} {x8 : Nat} {x9 : Nat → Int64} {x10 : Nat → Int64} {x11 : Nat → Int32} {x12 : Nat → Nat} {x13 : Nat → Nat} {x14 : Nat → Int64} {x15 : Nat → Int64} {x16 : Nat → Int64} {x17 : Nat → Int64} {x18 : Nat → Int32} {x19 : Nat → Nat} {x20 : Nat → Nat} {x21 : Nat → Int64} {x22 : Nat → Int64} : k_nV (k_mk x0 x1 x2 x3 x4 x5 x6 x7 x8 x9 x10 x11 x12 x13 x14 x15 x16 x17 x18 x19 x20 x21 x22) = x3 := rfl
theorem k_mk_opn {x0 : Bool} {x1 : Nat} {x2 : Nat} {x3 : Nat} {x4 : Int64} {x5 : Int64} {x6 : Int64} {x7 : Int64} {x8 : Nat} {x9 : Nat → Int64} {x10 : Nat → Int64} {x11 : Nat → Int32} {x12 : Nat → Nat} {x13 : Nat → Nat} {x14 : Nat → Int64} {x15 : Nat → Int64} {x16 : Nat → Int64} {x17 : Nat → Int64} {x18 : Nat → Int32} {x19 : Nat → Nat} {x20 : Nat → Nat} {x21 : Nat → Int64} {x22 : Nat → Int64} : k_opn (k_mk x0 x1 x2 x3 x4 x5 x6 x7 x8 x9 x10 x11 x12 x13 x14 x15 x16 x17 x18 x19 x20 x21 x22) = x4 := rfl
theorem k_mk_uns {x0 : Bool} {x1 : Nat} {x2 : Nat} {x3 : Nat} {x4 : Int64} {x5 : Int64} {x6 : Int64} {x7 : Int64} {x8 : Nat} {x9 : Nat → Int64} {x10 : Nat → Int64} {x11 : Nat → Int32} {x12 : Nat → Nat} {x13 : Nat → Nat} {x14 : Nat → Int64} {x15 : Nat → Int64} {x16 : Nat → Int64} {x17 : Nat → Int64} {x18 : Nat → Int32} {x19 : Nat → Nat} {x20 : Nat → Nat} {x21 : Nat → Int64} {x22 : Nat → Int64} : k_uns (k_mk x0 x1 x2 x3 x4 x5 x6 x7 x8 x9 x10 x11 x12 x13 x14 x15 x16 x17 x18 x19 x20 x21 x22) = x5 := rfl
theorem k_mk_dbl {x0 : Bool} {x1 : Nat} {x2 : Nat} {x3 : Nat} {x4 : Int64} {x5 : Int64} {x6 : Int64} {x7 : Int64} {x8 : Nat} {x9 : Nat → Int64} {x10 : Nat → Int64} {x11 : Nat → Int32} {x12 : Nat → Nat} {x13 : Nat → Nat} {x14 : Nat → Int64} {x15 : Nat → Int64} {x16 : Nat → Int64} {x17 : Nat → Int64} {x18 : Nat → Int32} {x19 : Nat → Nat} {x20 : Nat → Nat} {x21 : Nat → Int64} {x22 : Nat → Int64} : k_dbl (k_mk x0 x1 x2 x3 x4 x5 x6 x7 x8 x9 x10 x11 x12 x13 x14 x15 x16 x17 x18 x19 x20 x21 x22) = x6 := rfl
theorem k_mk_lett {x0 : Bool} {x1 : Nat} {x2 : Nat} {x3 : Nat} {x4 : Int64} {x5 : Int64} {x6 : Int64} {x7 : Int64} {x8 : Nat} {x9 : Nat → Int64} {x10 : Nat → Int64} {x11 : Nat → Int32} {x12 : Nat → Nat} {x13 : Nat → Nat} {x14 : Nat → Int64} {x15 : Nat → Int64} {x16 : Nat → Int64} {x17 : Nat → Int64} {x18 : Nat → Int32} {x19 : Nat → Nat} {x20 : Nat → Nat} {x21 : Nat → Int64} {x22 : Nat → Int64} : k_lett (k_mk x0 x1 x2 x3 x4 x5 x6 x7 x8 x9 x10 x11 x12 x13 x14 x15 x16 x17 x18 x19 x20 x21 x22) = x7 := rfl
theorem k_mk_cnt {x0 : Bool} {x1 : Nat} {x2 : Nat} {x3 : Nat} {x4 : Int64} {x5 : Int64} {x6 : Int64} {x7 : Int64} {x8 : Nat} {x9 : Nat → Int64} {x10 : Nat → Int64} {x11 : Nat → Int32} {x12 : Nat → Nat} {x13 : Nat → Nat} {x14 : Nat → Int64} {x15 : Nat → Int64} {x16 : Nat → Int64} {x17 : Nat → Int64} {x18 : Nat → Int32} {x19 : Nat → Nat} {x20 : Nat → Nat} {x21 : Nat → Int64} {x22 : Nat → Int64} : k_cnt (k_mk x0 x1 x2 x3 x4 x5 x6 x7 x8 x9 x10 x11 x12 x13 x14 x15 x16 x17 x18 x19 x20 x21 x22) = x8 := rfl
theorem k_mk_lev {x0 : Bool} {x1 : Nat} {x2 : Nat} {x3 : Nat} {x4 : Int64} {x5 : Int64} {x6 : Int64} {x7 : Int64} {x8 : Nat} {x9 : Nat → Int64} {x10 : Nat → Int64} {x11 : Nat → Int32} {x12 : Nat → Nat} {x13 : Nat → Nat} {x14 : Nat → Int64} {x15 : Nat → Int64} {x16 : Nat → Int64} {x17 : Nat → Int64} {x18 : Nat → Int32} {x19 : Nat → Nat} {x20 : Nat → Nat} {x21 : Nat → Int64} {x22 : Nat → Int64} : k_lev (k_mk x0 x1 x2 x3 x4 x5 x6 x7 x8 x9 x10 x11 x12 x13 x14 x15 x16 x17 x18 x19 x20 x21 x22) = x9 := rfl
theorem k_mk_src {x0 : Bool} {x1 : Nat} {x2 : Nat} {x3 : Nat} {x4 : Int64} {x5 : Int64} {x6 : Int64} {x7 : Int64} {x8 : Nat} {x9 : Nat → Int64} {x10 : Nat → Int64} {x11 : Nat → Int32} {x12 : Nat → Nat} {x13 : Nat → Nat} {x14 : Nat → Int64} {x15 : Nat → Int64} {x16 : Nat → Int64} {x17 : Nat → Int64} {x18 : Nat → Int32} {x19 : Nat → Nat} {x20 : Nat → Nat} {x21 : Nat → Int64} {x22 : Nat → Int64} : k_src (k_mk x0 x1 x2 x3 x4 x5 x6 x7 x8 x9 x10 x11 x12 x13 x14 x15 x16 x17 x18 x19 x20 x21 x22) = x10 := rfl
theorem k_mk_fr {x0 : Bool} {x1 : Nat} {x2 : Nat} {x3 : Nat} {x4 : Int64} {x5 : Int64} {x6 : Int64} {x7 : Int64} {x8 : Nat} {x9 : Nat → Int64} {x10 : Nat → Int64} {x11 : Nat → Int32} {x12 : Nat → Nat} {x13 : Nat → Nat} {x14 : Nat → Int64} {x15 : Nat → Int64} {x16 : Nat → Int64} {x17 : Nat → Int64} {x18 : Nat → Int32} {x19 : Nat → Nat} {x20 : Nat → Nat} {x21 : Nat → Int64} {x22 : Nat → Int64} : k_fr (k_mk x0 x1 x2 x3 x4 x5 x6 x7 x8 x9 x10 x11 x12 x13 x14 x15 x16 x17 x18 x19 x20 x21 x22) = x11 := rfl
theorem k_mk_e1 {x0 : Bool} {x1 : Nat} {x2 : Nat} {x3 : Nat} {x4 : Int64} {x5 : Int64} {x6 : Int64} {x7 : Int64} {x8 : Nat} {x9 : Nat → Int64} {x10 : Nat → Int64} {x11 : Nat → Int32} {x12 : Nat → Nat} {x13 : Nat → Nat} {x14 : Nat → Int64} {x15 : Nat → Int64} {x16 : Nat → Int64} {x17 : Nat → Int64} {x18 : Nat → Int32} {x19 : Nat → Nat} {x20 : Nat → Nat} {x21 : Nat → Int64} {x22 : Nat → Int64} : k_e1 (k_mk x0 x1 x2 x3 x4 x5 x6 x7 x8 x9 x10 x11 x12 x13 x14 x15 x16 x17 x18 x19 x20 x21 x22) = x12 := rfl
theorem k_mk_e2 {x0 : Bool} {x1 : Nat} {x2 : Nat} {x3 : Nat} {x4 : Int64} {x5 : Int64} {x6 : Int64} {x7 : Int64} {x8 : Nat} {x9 : Nat → Int64} {x10 : Nat → Int64} {x11 : Nat → Int32} {x12 : Nat → Nat} {x13 : Nat → Nat} {x14 : Nat → Int64} {x15 : Nat → Int64} {x16 : Nat → Int64} {x17 : Nat → Int64} {x18 : Nat → Int32} {x19 : Nat → Nat} {x20 : Nat → Nat} {x21 : Nat → Int64} {x22 : Nat → Int64} : k_e2 (k_mk x0 x1 x2 x3 x4 x5 x6 x7 x8 x9 x10 x11 x12 x13 x14 x15 x16 x17 x18 x19 x20 x21 x22) = x13 := rfl
theorem k_mk_ends {x0 : Bool} {x1 : Nat} {x2 : Nat} {x3 : Nat} {x4 : Int64} {x5 : Int64} {x6 : Int64} {x7 : Int64} {x8 : Nat} {x9 : Nat → Int64} {x10 : Nat → Int64} {x11 : Nat → Int32} {x12 : Nat → Nat} {x13 : Nat → Nat} {x14 : Nat → Int64} {x15 : Nat → Int64} {x16 : Nat → Int64} {x17 : Nat → Int64} {x18 : Nat → Int32} {x19 : Nat → Nat} {x20 : Nat → Nat} {x21 : Nat → Int64} {x22 : Nat → Int64} : k_ends (k_mk x0 x1 x2 x3 x4 x5 x6 x7 x8 x9 x10 x11 x12 x13 x14 x15 x16 x17 x18 x19 x20 x21 x22) = x14 := rfl
theorem k_mk_fal {x0 : Bool} {x1 : Nat} {x2 : Nat} {x3 : Nat} {x4 : Int64} {x5 : Int64} {x6 : Int64} {x7 : Int64} {x8 : Nat} {x9 : Nat → Int64} {x10 : Nat → Int64} {x11 : Nat → Int32} {x12 : Nat → Nat} {x13 : Nat → Nat} {x14 : Nat → Int64} {x15 : Nat → Int64} {x16 : Nat → Int64} {x17 : Nat → Int64} {x18 : Nat → Int32} {x19 : Nat → Nat} {x20 : Nat → Nat} {x21 : Nat → Int64} {x22 : Nat → Int64} : k_fal (k_mk x0 x1 x2 x3 x4 x5 x6 x7 x8 x9 x10 x11 x12 x13 x14 x15 x16 x17 x18 x19 x20 x21 x22) = x15 := rfl
theorem k_mk_ways {x0 : Bool} {x1 : Nat} {x2 : Nat} {x3 : Nat} {x4 : Int64} {x5 : Int64} {x6 : Int64} {x7 : Int64} {x8 : Nat} {x9 : Nat → Int64} {x10 : Nat → Int64} {x11 : Nat → Int32} {x12 : Nat → Nat} {x13 : Nat → Nat} {x14 : Nat → Int64} {x15 : Nat → Int64} {x16 : Nat → Int64} {x17 : Nat → Int64} {x18 : Nat → Int32} {x19 : Nat → Nat} {x20 : Nat → Nat} {x21 : Nat → Int64} {x22 : Nat → Int64} : k_ways (k_mk x0 x1 x2 x3 x4 x5 x6 x7 x8 x9 x10 x11 x12 x13 x14 x15 x16 x17 x18 x19 x20 x21 x22) = x16 := rfl
theorem k_mk_fls {x0 : Bool} {x1 : Nat} {x2 : Nat} {x3 : Nat} {x4 : Int64} {x5 : Int64} {x6 : Int64} {x7 : Int64} {x8 : Nat} {x9 : Nat → Int64} {x10 : Nat → Int64} {x11 : Nat → Int32} {x12 : Nat → Nat} {x13 : Nat → Nat} {x14 : Nat → Int64} {x15 : Nat → Int64} {x16 : Nat → Int64} {x17 : Nat → Int64} {x18 : Nat → Int32} {x19 : Nat → Nat} {x20 : Nat → Nat} {x21 : Nat → Int64} {x22 : Nat → Int64} : k_fls (k_mk x0 x1 x2 x3 x4 x5 x6 x7 x8 x9 x10 x11 x12 x13 x14 x15 x16 x17 x18 x19 x20 x21 x22) = x17 := rfl
theorem k_mk_fnd {x0 : Bool} {x1 : Nat} {x2 : Nat} {x3 : Nat} {x4 : Int64} {x5 : Int64} {x6 : Int64} {x7 : Int64} {x8 : Nat} {x9 : Nat → Int64} {x10 : Nat → Int64} {x11 : Nat → Int32} {x12 : Nat → Nat} {x13 : Nat → Nat} {x14 : Nat → Int64} {x15 : Nat → Int64} {x16 : Nat → Int64} {x17 : Nat → Int64} {x18 : Nat → Int32} {x19 : Nat → Nat} {x20 : Nat → Nat} {x21 : Nat → Int64} {x22 : Nat → Int64} : k_fnd (k_mk x0 x1 x2 x3 x4 x5 x6 x7 x8 x9 x10 x11 x12 x13 x14 x15 x16 x17 x18 x19 x20 x21 x22) = x18 := rfl
theorem k_mk_pf {x0 : Bool} {x1 : Nat} {x2 : Nat} {x3 : Nat} {x4 : Int64} {x5 : Int64} {x6 : Int64} {x7 : Int64} {x8 : Nat} {x9 : Nat → Int64} {x10 : Nat → Int64} {x11 : Nat → Int32} {x12 : Nat → Nat} {x13 : Nat → Nat} {x14 : Nat → Int64} {x15 : Nat → Int64} {x16 : Nat → Int64} {x17 : Nat → Int64} {x18 : Nat → Int32} {x19 : Nat → Nat} {x20 : Nat → Nat} {x21 : Nat → Int64} {x22 : Nat → Int64} : k_pf (k_mk x0 x1 x2 x3 x4 x5 x6 x7 x8 x9 x10 x11 x12 x13 x14 x15 x16 x17 x18 x19 x20 x21 x22) = x19 := rfl
theorem k_mk_pl {x0 : Bool} {x1 : Nat} {x2 : Nat} {x3 : Nat} {x4 : Int64} {x5 : Int64} {x6 : Int64} {x7 : Int64} {x8 : Nat} {x9 : Nat → Int64} {x10 : Nat → Int64} {x11 : Nat → Int32} {x12 : Nat → Nat} {x13 : Nat → Nat} {x14 : Nat → Int64} {x15 : Nat → Int64} {x16 : Nat → Int64} {x17 : Nat → Int64} {x18 : Nat → Int32} {x19 : Nat → Nat} {x20 : Nat → Nat} {x21 : Nat → Int64} {x22 : Nat → Int64} : k_pl (k_mk x0 x1 x2 x3 x4 x5 x6 x7 x8 x9 x10 x11 x12 x13 x14 x15 x16 x17 x18 x19 x20 x21 x22) = x20 := rfl
theorem k_mk_pw {x0 : Bool} {x1 : Nat} {x2 : Nat} {x3 : Nat} {x4 : Int64} {x5 : Int64} {x6 : Int64} {x7 : Int64} {x8 : Nat} {x9 : Nat → Int64} {x10 : Nat → Int64} {x11 : Nat → Int32} {x12 : Nat → Nat} {x13 : Nat → Nat} {x14 : Nat → Int64} {x15 : Nat → Int64} {x16 : Nat → Int64} {x17 : Nat → Int64} {x18 : Nat → Int32} {x19 : Nat → Nat} {x20 : Nat → Nat} {x21 : Nat → Int64} {x22 : Nat → Int64} : k_pw (k_mk x0 x1 x2 x3 x4 x5 x6 x7 x8 x9 x10 x11 x12 x13 x14 x15 x16 x17 x18 x19 x20 x21 x22) = x21 := rfl
theorem k_mk_pc {x0 : Bool} {x1 : Nat} {x2 : Nat} {x3 : Nat} {x4 : Int64} {x5 : Int64} {x6 : Int64} {x7 : Int64} {x8 : Nat} {x9 : Nat → Int64} {x10 : Nat → Int64} {x11 : Nat → Int32} {x12 : Nat → Nat} {x13 : Nat → Nat} {x14 : Nat → Int64} {x15 : Nat → Int64} {x16 : Nat → Int64} {x17 : Nat → Int64} {x18 : Nat → Int32} {x19 : Nat → Nat} {x20 : Nat → Nat} {x21 : Nat → Int64} {x22 : Nat → Int64} : k_pc (k_mk x0 x1 x2 x3 x4 x5 x6 x7 x8 x9 x10 x11 x12 x13 x14 x15 x16 x17 x18 x19 x20 x21 x22) = x22 := rfl
abbrev CA : Type := Nat × Nat × Nat × Nat × Nat × Nat × Nat × Nat × Nat × Nat × Nat × Nat × Nat × Nat × Nat × Nat × Nat × Nat × ClassId × ClassId
abbrev ca_o (q : CA) : Nat := q.1
abbrev ca_p (q : CA) : Nat := q.2.1
abbrev ca_f (q : CA) : Nat := q.2.2.1
abbrev ca_q (q : CA) : Nat := q.2.2.2.1
abbrev ca_lev (q : CA) : Nat := q.2.2.2.2.1
abbrev ca_src (q : CA) : Nat := q.2.2.2.2.2.1
abbrev ca_fr (q : CA) : Nat := q.2.2.2.2.2.2.1
abbrev ca_e1 (q : CA) : Nat := q.2.2.2.2.2.2.2.1
abbrev ca_e2 (q : CA) : Nat := q.2.2.2.2.2.2.2.2.1
abbrev ca_ends (q : CA) : Nat := q.2.2.2.2.2.2.2.2.2.1
abbrev ca_fal (q : CA) : Nat := q.2.2.2.2.2.2.2.2.2.2.1
abbrev ca_ways (q : CA) : Nat := q.2.2.2.2.2.2.2.2.2.2.2.1
abbrev ca_fls (q : CA) : Nat := q.2.2.2.2.2.2.2.2.2.2.2.2.1
abbrev ca_fnd (q : CA) : Nat := q.2.2.2.2.2.2.2.2.2.2.2.2.2.1
abbrev ca_pf (q : CA) : Nat := q.2.2.2.2.2.2.2.2.2.2.2.2.2.2.1
abbrev ca_pl (q : CA) : Nat := q.2.2.2.2.2.2.2.2.2.2.2.2.2.2.2.1
abbrev ca_pw (q : CA) : Nat := q.2.2.2.2.2.2.2.2.2.2.2.2.2.2.2.2.1
abbrev ca_pc (q : CA) : Nat := q.2.2.2.2.2.2.2.2.2.2.2.2.2.2.2.2.2.1
abbrev ca_cI (q : CA) : ClassId := q.2.2.2.2.2.2.2.2.2.2.2.2.2.2.2.2.2.2.1
abbrev ca_cJ (q : CA) : ClassId := q.2.2.2.2.2.2.2.2.2.2.2.2.2.2.2.2.2.2.2
abbrev tC (q : CA) : List (ClassId × FieldType) := [(ca_cI q, .int), (ca_cJ q, .long)]
abbrev wCx (q : CA) (x0 : Bool) (x1 : Nat) (x2 : Nat) (x3 : Nat) (x4 : Int64) (x5 : Int64) (x6 : Int64) (x7 : Int64) (x8 : Nat) (x9 : Nat → Int64) (x10 : Nat → Int64) (x11 : Nat → Int32) (x12 : Nat → Nat) (x13 : Nat → Nat) (x14 : Nat → Int64) (x15 : Nat → Int64) (x16 : Nat → Int64) (x17 : Nat → Int64) (x18 : Nat → Int32) (x19 : Nat → Nat) (x20 : Nat → Nat) (x21 : Nat → Int64) (x22 : Nat → Int64) : va_W := [(ca_o q, .inr (3, [.ref (ca_p q), .ref (ca_f q), .ref (ca_q q), .ref (ca_fnd q), .int (bI x0), .int (nI x1)])),
  (ca_p q, .inr (0, [.int (nI x2), .int (nI x3), .ref (ca_lev q), .ref (ca_src q), .ref (ca_fr q), .ref (ca_e1 q), .ref (ca_e2 q), .long x4, .long x5, .long x6, .ref (ca_ends q), .ref (ca_fal q)])),
  (ca_f q, .inr (1, [.ref (ca_p q), .long x7, .ref (ca_ways q), .ref (ca_fls q)])),
  (ca_q q, .inr (2, [.int (nI x8), .ref (ca_pf q), .ref (ca_pl q), .ref (ca_pw q), .ref (ca_pc q)])),
  (ca_lev q, .inl (ca_cJ q, 64, .inr (.inl x9))),
  (ca_src q, .inl (ca_cJ q, 16, .inr (.inl x10))),
  (ca_fr q, .inl (ca_cI q, 16, .inl x11)),
  (ca_e1 q, .inl (ca_cI q, 64, .inl (fun j => nI (x12 j)))),
  (ca_e2 q, .inl (ca_cI q, 64, .inl (fun j => nI (x13 j)))),
  (ca_ends q, .inl (ca_cJ q, 64, .inr (.inl x14))),
  (ca_fal q, .inl (ca_cJ q, 64, .inr (.inl x15))),
  (ca_ways q, .inl (ca_cJ q, 64, .inr (.inl x16))),
  (ca_fls q, .inl (ca_cJ q, 16, .inr (.inl x17))),
  (ca_fnd q, .inl (ca_cI q, 4, .inl x18)),
  (ca_pf q, .inl (ca_cI q, 975, .inl (fun j => nI (x19 j)))),
  (ca_pl q, .inl (ca_cI q, 975, .inl (fun j => nI (x20 j)))),
  (ca_pw q, .inl (ca_cJ q, 975, .inr (.inl x21))),
  (ca_pc q, .inl (ca_cJ q, 975, .inr (.inl x22)))]
abbrev wC (q : CA) (u : CSt) : va_W := wCx q (k_fu u) (k_re u) (k_nS u) (k_nV u) (k_opn u) (k_uns u) (k_dbl u) (k_lett u) (k_cnt u) (k_lev u) (k_src u) (k_fr u) (k_e1 u) (k_e2 u) (k_ends u) (k_fal u) (k_ways u) (k_fls u) (k_fnd u) (k_pf u) (k_pl u) (k_pw u) (k_pc u)
def liqB (x : Int32) : Bool := decide (¬ x < nI 1 ∧ ¬ nI 16 ≤ x)
/-- the valve that fails, as a long -/
def kfl (f : Nat) : Int64 := if f = 0 then 0 else bt (f - 1)
/-- the valves that let through in failure f -/
def kl (u : CSt) (f : Nat) : Int64 := ((k_opn u &&& (kfl f ^^^ (-1))) ||| ((kfl f &&& (k_opn u ^^^ (-1))) &&& (k_dbl u ^^^ (-1)))) ||| (k_uns u &&& ((k_dbl u &&& (k_opn u ^^^ (-1))) ^^^ (-1)))
theorem kl_cg {u v : CSt} {f : Nat} (h1 : k_opn u = k_opn v) (h2 : k_uns u = k_uns v) (h3 : k_dbl u = k_dbl v) : kl u f = kl v f := by unfold kl; rw [h1, h2, h3]
def bfr (g : Nat → Int32) (a b : Nat) : Nat → Int32 := va_up (va_up g a (g a ||| b32 b)) b ((va_up g a (g a ||| b32 b)) b ||| b32 a)
def k_addS (u : CSt) (a : Nat) : CSt := k_s_fal (k_s_ends (k_s_src (k_s_lev (k_s_nS u (k_nS u + 1)) (va_up (k_lev u) (k_nS u) 0)) (va_up (k_src u) a (k_src u a ||| bt (k_nS u)))) (va_up (k_ends u) (k_nS u) 0)) (va_up (k_fal u) (k_nS u) 0)
/-- what measure makes of 'falls' -/
def kms (u : CSt) (x : Nat) : Nat → Int64 :=
  va_up (va_up (k_fal u) (k_e1 u x) (wth (k_fal u (k_e1 u x)) x (decide (k_lev u (k_e2 u x) ≤ k_lev u (k_e1 u x))))) (k_e2 u x)
    (wth ((va_up (k_fal u) (k_e1 u x) (wth (k_fal u (k_e1 u x)) x (decide (k_lev u (k_e2 u x) ≤ k_lev u (k_e1 u x))))) (k_e2 u x)) x (decide (k_lev u (k_e1 u x) ≤ k_lev u (k_e2 u x))))
def k_addV1 (u : CSt) (a b : Nat) (tw o : Bool) : CSt := k_s_ends (k_s_e2 (k_s_e1 (k_s_dbl (k_s_opn (k_s_nV u (k_nV u + 1)) (wth (k_opn u) (k_nV u) o)) (if tw = true then k_dbl u ||| bt (k_nV u) else k_dbl u)) (va_up (k_e1 u) (k_nV u) a)) (va_up (k_e2 u) (k_nV u) b)) (va_up (va_up (k_ends u) a (k_ends u a ||| bt (k_nV u))) b ((va_up (k_ends u) a (k_ends u a ||| bt (k_nV u))) b ||| bt (k_nV u)))
def k_addV (u : CSt) (a b : Nat) (tw o : Bool) : CSt := k_s_fal (k_addV1 u a b tw o) (kms (k_addV1 u a b tw o) (k_nV u))
/-- what raiseTo makes of 'falls' -/
def krs (u : CSt) (n : Nat) : Nat → (Nat → Int64)
  | 0 => k_fal u
  | x + 1 => if tb (k_ends u n) x = true then kms (k_s_fal u (krs u n x)) x else krs u n x
/-- a way over valve x -/
def lw (u : CSt) (g : Nat → Int64) (x a b : Nat) : Nat → Int64 := if tb (k_fal u a) x = true then va_up g a (g a ||| bt b) else g
theorem lw_cg {u v : CSt} {g : Nat → Int64} {x a b : Nat} (h : k_fal u = k_fal v) : lw u g x a b = lw v g x a b := by unfold lw; rw [h]
def kWs (u : CSt) (L : Int64) (g : Nat → Int64) : Nat → (Nat → Int64)
  | 0 => g
  | x + 1 => if tb L x = true then lw u (lw u (kWs u L g x) x (k_e1 u x) (k_e2 u x)) x (k_e2 u x) (k_e1 u x) else kWs u L g x
/-- the flood by the ways -/
def kFl (w : Nat → Int64) (s : Int64) (t : Nat) : Prop := ∀ X : Nat → Prop, (∀ i, tb s i = true → X i) → (∀ i j, X i → tb (w i) j = true → X j) → X t
noncomputable def kF (u : CSt) (a : Nat) : Int64 := ofB (fun i => pB (kFl (k_ways u) (k_src u a) i))
theorem kF_cg {u v : CSt} {a : Nat} (h1 : k_ways u = k_ways v) (h2 : k_src u = k_src v) : kF u a = kF v a := by unfold kF; rw [h1, h2]
/-- the worklist's invariant -/
def KI (w : Nat → Int64) (s x l : Int64) (n : Nat) : Prop := (∀ i, tb s i = true → tb x i = true) ∧ (∀ i, tb l i = true → tb x i = true) ∧ (∀ i, tb x i = true → kFl w s i) ∧ (∀ i, tb x i = true → tb l i = false → ∀ j, tb (w i) j = true → tb x j = true) ∧ pcn (fun i => tb x i && !tb l i) 64 = n
theorem KI_0 {w : Nat → Int64} {s : Int64} : KI w s s s 0 :=
  ⟨fun _ h => h, fun _ h => h, fun i h X h1 _ => h1 i h, fun i h1 h2 => absurd (h1.symm.trans h2) (by decide), pcn_zero fun i _ => by cases tb s i <;> rfl⟩
theorem KI_s {w : Nat → Int64} {s x l : Int64} {n : Nat} (h : KI w s x l n) (hl : ¬ l = 0) : KI w s (x ||| (w (lowN l) &&& (x ^^^ (-1)))) ((l &&& (l - 1)) ||| (w (lowN l) &&& (x ^^^ (-1)))) (n + 1) := by
  obtain ⟨h1, h2, h3, h4, h5⟩ := h
  obtain ⟨q1, q2, q3, q4⟩ := lowN_spec l hl
  have bx : ∀ i, tb (x ||| (w (lowN l) &&& (x ^^^ (-1)))) i = (tb x i || tb (w (lowN l)) i) := by
    intro i; rw [tb_or, tb_andn]; cases tb x i <;> simp
  have bl : ∀ i, tb ((l &&& (l - 1)) ||| (w (lowN l) &&& (x ^^^ (-1)))) i = ((tb l i && decide (i ≠ lowN l)) || (tb (w (lowN l)) i && !tb x i)) := by
    intro i; rw [tb_or, tb_andn, q4]
  refine ⟨fun i hi => by rw [bx, h1 i hi]; rfl, fun i hi => ?_, fun i hi => ?_, fun i hi hn j hj => ?_, ?_⟩
  · rw [bl] at hi; rw [bx]
    rcases Bool.or_eq_true_iff.mp hi with z | z
    · rw [h2 i (Bool.and_eq_true_iff.mp z).1]; rfl
    · rw [(Bool.and_eq_true_iff.mp z).1]; simp
  · rw [bx] at hi
    rcases Bool.or_eq_true_iff.mp hi with z | z
    · exact h3 i z
    · intro X a b; exact b (lowN l) i (h3 _ (h2 _ q2) X a b) z
  · rw [bx] at hi; rw [bl] at hn; rw [bx]
    by_cases e : i = lowN l
    · subst e; rw [hj]; simp
    · have hxi : tb x i = true := by
        rcases Bool.or_eq_true_iff.mp hi with z | z
        · exact z
        · cases hx : tb x i with
          | true => rfl
          | false => rw [z, hx] at hn; simp at hn
      have hli : tb l i = false := by
        cases hz : tb l i with
        | false => rfl
        | true => rw [hz] at hn; simp [e] at hn
      rw [h4 i hxi hli j hj]; rfl
  · rw [← h5]
    refine pcn_set (k := lowN l) q1 ?_ ?_ ?_
    · rw [q2, h2 _ q2]; rfl
    · rw [bx, bl, h2 _ q2, q2]; simp
    · intro i hi
      rw [bx, bl]
      cases hz : tb x i with
      | true => simp [hi]
      | false =>
        have : tb l i = false := by
          cases hy : tb l i with
          | false => rfl
          | true => rw [h2 i hy] at hz; cases hz
        rw [this]
        cases tb (w (lowN l)) i <;> simp
theorem KI_e {w : Nat → Int64} {s x l : Int64} {n : Nat} (h : KI w s x l n) (he : l = 0 ∨ 64 ≤ n) : x = ofB (fun i => pB (kFl w s i)) := by
  obtain ⟨h1, h2, h3, h4, h5⟩ := h
  have hl : ∀ i, tb l i = false := by
    rcases he with z | z
    · intro i; rw [z, tb_0]
    · intro i
      rcases Nat.lt_or_ge i 64 with q | q
      · have hle := pcn_le (fun i => tb x i && !tb l i) 64
        have := pcn_full (show pcn (fun i => tb x i && !tb l i) 64 = 64 by omega) i q
        simp at this; exact this.2
      · exact tb_big q
  refine ofB_eq fun i _ => ?_
  cases hx : tb x i with
  | true => exact (pB_t.mpr (h3 i hx)).symm
  | false =>
    refine (pB_f.mpr fun q => ?_).symm
    have := q (fun i => tb x i = true) h1 (fun i j a b => h4 i a (hl i) j b)
    rw [hx] at this; cases this
/-! cutOf: the places of x in turn -/
def cX (g : Nat → Int64) (x : Int64) : Nat → Int64
  | 0 => 0
  | s + 1 => if tb x s = true then cX g x s ^^^ g s else cX g x s
def cO (g : Nat → Int64) (x : Int64) : Nat → Int64
  | 0 => 0
  | s + 1 => if tb x s = true then cO g x s ||| g s else cO g x s
def kC (u : CSt) (x : Int64) : Int64 := (cX (k_ends u) x 64 &&& cO (k_fal u) x 64) &&& (k_lett u ^^^ (-1))
theorem kC_cg {u v : CSt} {x : Int64} (h1 : k_ends u = k_ends v) (h2 : k_fal u = k_fal v) (h3 : k_lett u = k_lett v) : kC u x = kC v x := by unfold kC; rw [h1, h2, h3]
theorem cX_gap {g : Nat → Int64} {x : Int64} {a : Nat} : ∀ {b : Nat}, a ≤ b → (∀ i, a ≤ i → i < b → tb x i = false) → cX g x b = cX g x a
  | 0, h, _ => by rw [show a = 0 by omega]
  | b + 1, h, hz => by
    by_cases e : a = b + 1
    · rw [e]
    · show (if tb x b = true then _ else cX g x b) = _
      rw [if_neg (fun q => absurd (q.symm.trans (hz b (by omega) (by omega))) (by decide))]
      exact cX_gap (by omega) fun i h1 h2 => hz i h1 (by omega)
theorem cO_gap {g : Nat → Int64} {x : Int64} {a : Nat} : ∀ {b : Nat}, a ≤ b → (∀ i, a ≤ i → i < b → tb x i = false) → cO g x b = cO g x a
  | 0, h, _ => by rw [show a = 0 by omega]
  | b + 1, h, hz => by
    by_cases e : a = b + 1
    · rw [e]
    · show (if tb x b = true then _ else cO g x b) = _
      rw [if_neg (fun q => absurd (q.symm.trans (hz b (by omega) (by omega))) (by decide))]
      exact cO_gap (by omega) fun i h1 h2 => hz i h1 (by omega)
def CI (g h : Nat → Int64) (x e f l : Int64) (n : Nat) : Prop := ∃ s, n ≤ s ∧ s ≤ 64 ∧ (∀ i, tb l i = (tb x i && decide (s ≤ i))) ∧ e = cX g x s ∧ f = cO h x s
theorem CI_0 {g h : Nat → Int64} {x : Int64} : CI g h x 0 0 x 0 := ⟨0, Nat.le_refl _, by omega, fun i => by simp, rfl, rfl⟩
theorem CI_s {g h : Nat → Int64} {x e f l : Int64} {n : Nat} (H : CI g h x e f l n) (hl : ¬ l = 0) : CI g h x (e ^^^ g (lowN l)) (f ||| h (lowN l)) (l &&& (l - 1)) (n + 1) := by
  obtain ⟨s, h1, h2, h3, h4, h5⟩ := H
  obtain ⟨q1, q2, q3, q4⟩ := lowN_spec l hl
  have hk : tb x (lowN l) = true ∧ s ≤ lowN l := by
    have := h3 (lowN l); rw [q2] at this; simpa using this.symm
  have hg : ∀ i, s ≤ i → i < lowN l → tb x i = false := by
    intro i a b
    have := h3 i; rw [q3 i b] at this; simpa [a] using this.symm
  refine ⟨lowN l + 1, by omega, by omega, fun i => ?_, ?_, ?_⟩
  · rw [q4, h3]
    by_cases e : i = lowN l
    · subst e; simp
    · by_cases e2 : s ≤ i
      · by_cases e3 : lowN l + 1 ≤ i
        · simp [e, e2, e3]
        · rw [hg i e2 (by omega)]; simp
      · simp [e2]; intro _; omega
  · show _ = if tb x (lowN l) = true then cX g x (lowN l) ^^^ g (lowN l) else _
    rw [if_pos hk.1, cX_gap hk.2 hg, h4]
  · show _ = if tb x (lowN l) = true then cO h x (lowN l) ||| h (lowN l) else _
    rw [if_pos hk.1, cO_gap hk.2 hg, h5]
theorem CI_e {g h : Nat → Int64} {x e f l : Int64} {n : Nat} (H : CI g h x e f l n) (he : l = 0 ∨ 64 ≤ n) : e = cX g x 64 ∧ f = cO h x 64 := by
  obtain ⟨s, h1, h2, h3, h4, h5⟩ := H
  have hg : ∀ i, s ≤ i → i < 64 → tb x i = false := by
    intro i a b
    rcases he with z | z
    · have := h3 i; rw [z, tb_0] at this; simpa [a] using this.symm
    · omega
  exact ⟨by rw [h4, cX_gap h2 hg], by rw [h5, cO_gap h2 hg]⟩
/-! memberAt -/
theorem MA_0 {x : Int64} : ∀ i, tb x i = (tb x i && decide (0 ≤ pcn (tb x) i)) := fun i => by simp
theorem MA_low {x l : Int64} {n : Nat} (h : ∀ i, tb l i = (tb x i && decide (n ≤ pcn (tb x) i))) (hn : n < pcn (tb x) 64) : ¬ l = 0 ∧ tb x (lowN l) = true ∧ pcn (tb x) (lowN l) = n ∧ lowN l < 64 ∧ ∀ i, tb (l &&& (l - 1)) i = (tb x i && decide (n + 1 ≤ pcn (tb x) i)) := by
  obtain ⟨a, a1, a2, a3⟩ := pcn_inv hn
  have hl : ¬ l = 0 := tb_ne0.mpr ⟨a, a1, by rw [h a, a2, a3]; simp⟩
  obtain ⟨q1, q2, q3, q4⟩ := lowN_spec l hl
  have hk : tb x (lowN l) = true ∧ n ≤ pcn (tb x) (lowN l) := by
    have := h (lowN l); rw [q2] at this; simpa using this.symm
  have he : lowN l = a := by
    rcases Nat.lt_trichotomy (lowN l) a with z | z | z
    · have := pcn_lt hk.1 z; omega
    · exact z
    · have := q3 a z; rw [h a, a2, a3] at this; simp at this
  refine ⟨hl, hk.1, by rw [he]; exact a3, q1, fun i => ?_⟩
  rw [q4, h i]
  cases hx : tb x i with
  | false => rfl
  | true =>
    by_cases e : i = lowN l
    · subst e; rw [he, a3]; simp
    · by_cases e2 : n ≤ pcn (tb x) i
      · have : pcn (tb x) i ≠ n := fun z => e (by rw [he]; exact pcn_eq hx a2 (z.trans a3.symm))
        simp [e, e2]; omega
      · simp [e2]; omega
theorem nthB_p {g : Nat → Bool} {k p : Nat} (hp : pcn g p = k) : ∀ {n : Nat}, n ≤ p → nthB g k n = none
  | 0, _ => rfl
  | n + 1, h => nthB_n (nthB_p hp (by omega)) fun a b => by have := pcn_lt a (show n < p by omega); omega
theorem nthB_is {g : Nat → Bool} {k p n : Nat} (hg : g p = true) (hp : pcn g p = k) (hn : p < n) : nthB g k n = some p := nthB_at (nthB_p hp (Nat.le_refl _)) hn hg hp
theorem nthB_no {g : Nat → Bool} {k : Nat} : ∀ {n : Nat}, pcn g n ≤ k → nthB g k n = none
  | 0, _ => rfl
  | n + 1, h => nthB_n (nthB_no (Nat.le_trans (pcn_mono (Nat.le_succ n)) h)) fun a b => by have := pcn_lt a (show n < n + 1 by omega); omega
/-! clashes, meetings, leastClashing -/
def kcl (u : CSt) (a : Nat) (x : Int64) (o : Nat) : Bool := decide (1 ≤ o) && (!decide (o = a) && (!decide ((k_fls u o &&& x) = 0) && !t32 (k_fr u a) o))
theorem kcl_t {u : CSt} {a o : Nat} {x : Int64} : kcl u a x o = true ↔ 1 ≤ o ∧ ¬ o = a ∧ ¬ (k_fls u o &&& x) = 0 ∧ t32 (k_fr u a) o = false := by
  unfold kcl; simp
theorem any_n {g : Nat → Bool} {n : Nat} (h : anyB g n = false) (h2 : g n = false) : anyB g (n + 1) = false := by unfold anyB; rw [h, h2]; rfl
theorem any_y {g : Nat → Bool} {n i : Nat} (h : g i = true) (hi : i < n) : anyB g n = true := anyB_t.mpr ⟨i, hi, h⟩
def kM (u : CSt) (a b t : Nat) : Prop := t32 (k_fr u a) b = false ∧ tb (k_fls u a) t = true ∧ tb (k_fls u b) t = true
def kLC (u : CSt) (p f o : Nat) : Prop := tb (k_fls u o) p = true ∧ ¬ o = f ∧ (if f = 0 then anyB (kcl u o (bt p)) 16 = true else t32 (k_fr u o) f = false)
theorem cpy_nI (g : Nat → Nat) (k n : Nat) : va_cpy (fun j => nI (g j)) (fun j => nI (g j)) (k + 1) k n = fun j => nI (sh g k (k + n) j) := by
  funext j
  unfold va_cpy sh
  by_cases e : k ≤ j ∧ j < k + n
  · rw [if_pos e, if_pos e, show k + 1 + (j - k) = j + 1 by omega]
  · rw [if_neg e, if_neg e]
theorem cpy_L (g : Nat → Int64) (k n : Nat) : va_cpy g g (k + 1) k n = sh g k (k + n) := by
  funext j
  unfold va_cpy sh
  by_cases e : k ≤ j ∧ j < k + n
  · rw [if_pos e, if_pos e, show k + 1 + (j - k) = j + 1 by omega]
  · rw [if_neg e, if_neg e]
def k_addR (u : CSt) (f a : Nat) (x y : Int64) : CSt := k_s_pc (k_s_pw (k_s_pl (k_s_pf (k_s_cnt u (k_cnt u + 1)) (va_up (k_pf u) (k_cnt u) f)) (va_up (k_pl u) (k_cnt u) a)) (va_up (k_pw u) (k_cnt u) x)) (va_up (k_pc u) (k_cnt u) y)
def k_remR (u : CSt) (k : Nat) : CSt := k_s_pc (k_s_pw (k_s_pl (k_s_pf (k_s_cnt u (k_cnt u - 1)) (sh (k_pf u) k (k_cnt u - 1))) (sh (k_pl u) k (k_cnt u - 1))) (sh (k_pw u) k (k_cnt u - 1))) (sh (k_pc u) k (k_cnt u - 1))
theorem fa_s {g F : Nat → Int64} {i : Nat} (h : ∀ t, 1 ≤ t → t < i → g t = F t) : ∀ t, 1 ≤ t → t < i + 1 → va_up g i (F i) t = F t := by
  intro t h1 h2
  unfold va_up; split
  · rename_i e; rw [e]
  · exact h t h1 (by omega)
/-! meetings -/
section MT
variable {P : Nat → Nat → Nat → Prop} {a b : Nat} {x y : Int64}
def MTa (P : Nat → Nat → Nat → Prop) (a : Nat) (x : Int64) : Prop := ∀ t, tb x t = true ↔ ∃ p q, 1 ≤ p ∧ p < a ∧ p < q ∧ q < 16 ∧ P p q t
def MTb (P : Nat → Nat → Nat → Prop) (a b : Nat) (x : Int64) : Prop := ∀ t, tb x t = true ↔ (∃ p q, 1 ≤ p ∧ p < a ∧ p < q ∧ q < 16 ∧ P p q t) ∨ ∃ q, a < q ∧ q < b ∧ P a q t
theorem MT_0 : MTa P 1 0 := fun t => by
  rw [tb_0]; constructor
  · intro h; cases h
  · rintro ⟨p, q, h1, h2, -⟩; omega
theorem MT_1 (h : MTa P a x) : MTb P a (a + 1) x := fun t => by
  rw [h t]; constructor
  · intro z; exact Or.inl z
  · rintro (z | ⟨q, h1, h2, -⟩)
    · exact z
    · omega
theorem MT_n (h : MTb P a b x) (hn : ∀ t, ¬ P a b t) : MTb P a (b + 1) x := fun t => by
  rw [h t]; constructor
  · rintro (z | ⟨q, h1, h2, h3⟩)
    · exact Or.inl z
    · exact Or.inr ⟨q, h1, by omega, h3⟩
  · rintro (z | ⟨q, h1, h2, h3⟩)
    · exact Or.inl z
    · by_cases e : q = b
      · subst e; exact absurd h3 (hn t)
      · exact Or.inr ⟨q, h1, by omega, h3⟩
theorem MT_y (h : MTb P a b x) (hab : a < b) (hy : ∀ t, tb y t = true ↔ P a b t) : MTb P a (b + 1) (x ||| y) := fun t => by
  rw [tb_or, Bool.or_eq_true, h t, hy t]; constructor
  · rintro ((z | ⟨q, h1, h2, h3⟩) | z)
    · exact Or.inl z
    · exact Or.inr ⟨q, h1, by omega, h3⟩
    · exact Or.inr ⟨b, hab, by omega, z⟩
  · rintro (z | ⟨q, h1, h2, h3⟩)
    · exact Or.inl (Or.inl z)
    · by_cases e : q = b
      · subst e; exact Or.inr h3
      · exact Or.inl (Or.inr ⟨q, h1, by omega, h3⟩)
theorem MT_e (h : MTb P a b x) (ha : 1 ≤ a) (hb : b = 16) : MTa P (a + 1) x := fun t => by
  rw [h t]; constructor
  · rintro (⟨p, q, h1, h2, h3⟩ | ⟨q, h1, h2, h3⟩)
    · exact ⟨p, q, h1, by omega, h3⟩
    · exact ⟨a, q, ha, by omega, h1, by omega, h3⟩
  · rintro ⟨p, q, h1, h2, h3, h4, h5⟩
    by_cases e : p = a
    · subst e; exact Or.inr ⟨q, h3, by omega, h5⟩
    · exact Or.inl ⟨p, q, h1, by omega, h3, h4, h5⟩
end MT
theorem kM_b {u : CSt} {a b : Nat} (h : t32 (k_fr u a) b = false) : ∀ t, tb (k_fls u a &&& k_fls u b) t = true ↔ kM u a b t := fun t => by
  rw [tb_and, Bool.and_eq_true]; exact ⟨fun q => ⟨h, q.1, q.2⟩, fun q => ⟨q.2.1, q.2.2⟩⟩
theorem lc_some {u : CSt} {p f : Nat} {r : Int32} (hE : ∃ o, 1 ≤ o ∧ o < 16 ∧ kLC u p f o) (h : (∃ o, 1 ≤ o ∧ o < 16 ∧ kLC u p f o ∧ (∀ o2, 1 ≤ o2 → o2 < o → ¬ kLC u p f o2) ∧ r = nI o) ∨ ((∀ o, 1 ≤ o → o < 16 → ¬ kLC u p f o) ∧ r = -1)) : ∃ o, 1 ≤ o ∧ o < 16 ∧ kLC u p f o ∧ (∀ o2, 1 ≤ o2 → o2 < o → ¬ kLC u p f o2) ∧ r = nI o := by
  rcases h with h | h
  · exact h
  · obtain ⟨o, h1, h2, h3⟩ := hE; exact absurd h3 (h.1 o h1 h2)
/-! a row that a valve touches; rows that clash -/
def kt (u : CSt) (x k : Nat) : Bool := decide (k_pf u k = 1 + x) || (tb (k_pw u k) (k_e1 u x) || tb (k_pw u k) (k_e2 u x))
def kK (u : CSt) (x y : Nat) : Prop := k_pf u x = k_pf u y ∧ ¬ (k_pw u x &&& k_pw u y) = 0 ∧ t32 (k_fr u (k_pl u x)) (k_pl u y) = false
theorem kK_2 {P : Nat → Nat → Prop} {x y n : Nat} (h : ∀ p q, p < x → p < q → q < n → ¬ P p q) (h2 : ∀ q, x < q → q < y → ¬ P x q) (h3 : ∀ q, y ≤ q → q < n → ¬ P x q) : ∀ p q, p < x + 1 → p < q → q < n → ¬ P p q := by
  intro p q h4 h5 h6
  by_cases e : p = x
  · subst e
    rcases Nat.lt_or_ge q y with z | z
    · exact h2 q h5 z
    · exact h3 q z h6
  · exact h p q (by omega) h5 h6
theorem kK_17 {P : Nat → Prop} {x y : Nat} (h : ∀ q, x < q → q < y → ¬ P q) (hn : ¬ P y) : ∀ q, x < q → q < y + 1 → ¬ P q := by
  intro q h1 h2
  by_cases e : q = y
  · subst e; exact hn
  · exact h q h1 (by omega)
theorem kK_out {u : CSt} {x y n : Nat} (hs : ∀ x y, x < y → y < n → k_pf u x ≤ k_pf u y) (hxy : x < y) (hy : y < n) (hne : ¬ k_pf u y = k_pf u x) : ∀ q, y ≤ q → q < n → ¬ kK u x q := by
  intro q h1 h2 h
  have h3 := hs x y hxy hy
  have h4 := h.1
  rcases Nat.lt_or_ge y q with z | z
  · have := hs y q z h2; omega
  · have e : q = y := by omega
    rw [e] at h4; exact hne h4.symm
theorem liqB_of {x : Int32} (h : liqB x = true) : ∃ j : Nat, 1 ≤ j ∧ j < 16 ∧ x = nI j := by
  have h := of_decide_eq_true h
  rcases pk_ix x (show 16 < 2 ^ 31 by decide) with q | q | ⟨j, q, rfl⟩
  · exact absurd (Int32.lt_trans q (by decide)) h.1
  · exact absurd q h.2
  · refine ⟨j, ?_, q, rfl⟩
    rcases Nat.eq_zero_or_pos j with z | z
    · subst z; exact absurd (by decide) h.1
    · exact z
def C_culprit (u : CSt) (x : Int32) : Int32 := if k_fu u = true ∧ ¬ x < 0 ∧ ¬ nI 4 ≤ x then k_fnd u x.toNatClampNeg else -1
def C_space (u : CSt) (x : Int32) : Int32 × CSt := if x < 0 ∨ ¬ x < nI 16 then (-1, u) else if 64 ≤ k_nS u then (-2, u) else (nI (k_nS u), k_addS (k_s_cnt u 0) x.toNatClampNeg)
def C_valve (u : CSt) (x y k : Int32) (o : Bool) : Int32 × CSt := if ixB x (k_nS u) = false ∨ ixB y (k_nS u) = false ∨ x = y then (-1, u) else if ¬ k = nI 1 ∧ ¬ k = nI 2 then (-1, u) else if 64 ≤ k_nV u then (-2, u) else (nI (k_nV u), k_addV (k_s_cnt u 0) x.toNatClampNeg y.toNatClampNeg (decide (k = nI 2)) o)
def C_level (u : CSt) (x : Int32) (h : Int64) : Bool × CSt := if ixB x (k_nS u) = false then (false, u) else (true, k_s_cnt (k_s_fal (k_s_lev u (va_up (k_lev u) x.toNatClampNeg h)) (krs (k_s_lev u (va_up (k_lev u) x.toNatClampNeg h)) x.toNatClampNeg (k_nV u))) 0)
def C_may (u : CSt) (x y : Int32) : Bool × CSt := if liqB x = false ∨ liqB y = false ∨ x = y ∨ t32 (k_fr u x.toNatClampNeg) y.toNatClampNeg = true then (false, u) else (true, k_s_cnt (k_s_fr u (bfr (k_fr u) x.toNatClampNeg y.toNatClampNeg)) 0)
def C_drop (u : CSt) (x : Int32) : Bool × CSt := if ixB x (k_cnt u) = false then (false, u) else (true, k_remR u x.toNatClampNeg)
def crN (u : CSt) (i k : Nat) : Int32 := if k = 0 then nI (k_pf u i) else if k = 1 then nI (k_pl u i) else if k = 2 then nI (pcn (tb (k_pw u i)) 64) else if k = 3 then nI (pcn (tb (k_pc u i)) 64) else oI (nthB (tb (k_pc u i)) (k - 4) 64)
def C_row (u : CSt) (x y : Int32) : Int32 := if ixB x (k_cnt u) = false ∨ y < 0 then -1 else crN u x.toNatClampNeg y.toNatClampNeg
theorem lcs_cg {u v : CSt} (h1 : k_fls u = k_fls v) (h2 : k_fr u = k_fr v) : kLC u = kLC v := by
  have e : kcl u = kcl v := by funext a x o; unfold kcl; rw [h1, h2]
  funext p f o
  unfold kLC
  rw [e, h1, h2]
