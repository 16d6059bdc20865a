theorem bc_fin {x i1 i2 i3 i4 i5 i6 : Int64}
    (e1 : i1 = x - ((x.toUInt64 >>> ((nI 1).toInt64.toUInt64 &&& Int64.toUInt64 63)).toInt64 &&& 6148914691236517205))
    (e2 : i2 = (i1 &&& 3689348814741910323) + ((i1.toUInt64 >>> ((nI 2).toInt64.toUInt64 &&& Int64.toUInt64 63)).toInt64 &&& 3689348814741910323))
    (e3 : i3 = (i2 + (i2.toUInt64 >>> ((nI 4).toInt64.toUInt64 &&& Int64.toUInt64 63)).toInt64) &&& 1085102592571150095)
    (e4 : i4 = i3 + (i3.toUInt64 >>> ((nI 8).toInt64.toUInt64 &&& Int64.toUInt64 63)).toInt64)
    (e5 : i5 = i4 + (i4.toUInt64 >>> ((nI 16).toInt64.toUInt64 &&& Int64.toUInt64 63)).toInt64)
    (e6 : i6 = i5 + (i5.toUInt64 >>> ((nI 32).toInt64.toUInt64 &&& Int64.toUInt64 63)).toInt64) : (i6.toInt32 &&& nI 127) = nI (pcn (tb x) 64) := by
  obtain ⟨n, hn, rfl⟩ := wb_of x
  have m5 : (6148914691236517205 : Int64) = lN (ps_m 85 8) := by decide +kernel
  have m3 : (3689348814741910323 : Int64) = lN (ps_m 51 8) := by decide +kernel
  have mf : (1085102592571150095 : Int64) = lN (ps_m 15 8) := by decide +kernel
  have b5 : ps_m 85 8 = 6148914691236517205 := by decide +kernel
  have b3 : ps_m 51 8 = 3689348814741910323 := by decide +kernel
  have bf : ps_m 15 8 = 1085102592571150095 := by decide +kernel
  have a1 : n / 2 ^ 1 &&& ps_m 85 8 ≤ n / 2 ^ 1 := Nat.and_le_left
  have f1 : i1 = lN (ps_F1 (ps_m 85 8) n) := by
    rw [e1, wb_shr hn (by decide), m5, wb_and (by omega) (by omega), lN_sub (by omega)]; rfl
  generalize hF1 : ps_F1 (ps_m 85 8) n = n1 at f1
  have l1 : n1 < 2 ^ 64 := by rw [← hF1]; unfold ps_F1; omega
  have f2 : i2 = lN (ps_F2 (ps_m 51 8) n1) := by
    rw [e2, f1, wb_shr l1 (by decide), m3, wb_and l1 (by omega), wb_and (a := n1 / 2 ^ 2) (by omega) (by omega), lN_add]; rfl
  have l2 : ps_F2 (ps_m 51 8) n1 < 2 ^ 63 := by
    unfold ps_F2
    have q1 : n1 &&& ps_m 51 8 ≤ ps_m 51 8 := Nat.and_le_right
    have q2 : n1 / 4 &&& ps_m 51 8 ≤ ps_m 51 8 := Nat.and_le_right
    omega
  generalize hF2 : ps_F2 (ps_m 51 8) n1 = n2 at f2 l2
  have f3 : i3 = lN (ps_F3 (ps_m 15 8) n2) := by
    rw [e3, f2, wb_shr (by omega) (by decide), mf, lN_add, wb_and (by omega) (by omega)]; rfl
  have l3 : ps_F3 (ps_m 15 8) n2 ≤ ps_m 15 8 := Nat.and_le_right
  have hG : ps_G 8 n = ps_F3 (ps_m 15 8) n2 := by unfold ps_G; rw [hF1, hF2]
  generalize hF3 : ps_F3 (ps_m 15 8) n2 = n3 at f3 l3 hG
  have f4 : i4 = lN (n3 + n3 / 256) := by rw [e4, f3, wb_shr (by omega) (by decide), lN_add]
  have f5 : i5 = lN ((n3 + n3 / 256) + (n3 + n3 / 256) / 65536) := by rw [e5, f4, wb_shr (by omega) (by decide), lN_add]
  have f6 : i6 = lN (((n3 + n3 / 256) + (n3 + n3 / 256) / 65536) + ((n3 + n3 / 256) + (n3 + n3 / 256) / 65536) / 4294967296) := by rw [e6, f5, wb_shr (by omega) (by decide), lN_add]
  rw [f6, lN_i, pk_and _ 7 (by decide)]
  congr 1
  have hz : ∀ N : Nat, (nI N).toBitVec.toNat % 2 ^ 7 = N % 128 := by
    intro N
    show (BitVec.ofNat 32 N).toNat % 2 ^ 7 = N % 128
    rw [BitVec.toNat_ofNat]; omega
  rw [hz, show pcn (tb (lN n)) 64 = pcn n.testBit 64 from pcn_congr fun i hi => tb_lN hi, ← ps_sw n hn, hG]
  rfl
/-- the lowest set place, as the class reckons it -/
def lowN (x : Int64) : Nat := pcn (tb ((x &&& -x) - 1)) 64
theorem lowN_spec (x : Int64) (hx : ¬ x = 0) : lowN x < 64 ∧ tb x (lowN x) = true ∧ (∀ j, j < lowN x → tb x j = false) ∧ ∀ i, tb (x &&& (x - 1)) i = (tb x i && decide (i ≠ lowN x)) := by
  obtain ⟨k, h1, h2, h3, h4, h5⟩ := low_spec x hx
  have e : lowN x = k := by unfold lowN; rw [h4]; exact pcn_low h1
  rw [e]; exact ⟨h1, h2, h3, h5⟩
/-- with or without a place -/
def wth (x : Int64) (k : Nat) (b : Bool) : Int64 := if b = true then x ||| bt k else x &&& (bt k ^^^ (-1))
theorem tb_wth (x : Int64) {k : Nat} (hk : k < 64) (b : Bool) (i : Nat) : tb (wth x k b) i = if i = k then b else tb x i := by
  unfold wth
  cases b with
  | true =>
    rw [if_pos rfl, tb_or, tb_bt hk]
    by_cases e : i = k <;> simp [e]
  | false =>
    rw [if_neg (by decide), tb_andn, tb_bt hk]
    by_cases e : i = k <;> simp [e]
/-! ints by their bits -/
def t32 (x : Int32) (i : Nat) : Bool := x.toBitVec.getLsbD i
def b32 (k : Nat) : Int32 := nI 1 <<< (nI k &&& 31)
theorem t32_or (x y : Int32) (i : Nat) : t32 (x ||| y) i = (t32 x i || t32 y i) := by unfold t32; rw [Int32.toBitVec_or, BitVec.getLsbD_or]
theorem t32_b32 : ∀ k, k < 16 → ∀ i, i < 32 → t32 (b32 k) i = decide (i = k) := by decide +kernel
theorem t32_0 (i : Nat) : t32 0 i = false := by unfold t32; simp
theorem b32_bv : ∀ k, k < 16 → (b32 k).toBitVec = BitVec.twoPow 32 k := by decide +kernel
theorem t32_has (x : Int32) {k : Nat} (hk : k < 16) : (x &&& b32 k) = 0 ↔ t32 x k = false := by
  unfold t32
  constructor
  · intro h
    have h2 : (x &&& b32 k).toBitVec = 0#32 := by rw [h]; rfl
    rw [Int32.toBitVec_and, b32_bv k hk] at h2
    have h3 := congrArg (fun z => BitVec.getLsbD z k) h2
    simp only [BitVec.getLsbD_and, BitVec.getLsbD_twoPow] at h3
    simpa [show k < 32 by omega] using h3
  · intro h
    apply Int32.toBitVec_inj.mp
    rw [Int32.toBitVec_and, b32_bv k hk]
    apply BitVec.eq_of_getLsbD_eq
    intro i hi
    rw [BitVec.getLsbD_and, BitVec.getLsbD_twoPow]
    by_cases e : i = k
    · subst e; rw [h]; simp
    · simp [Ne.symm e]
section COPY
variable {p : Program} {l : Launch} {e : Env} {R : Room} {s : State} {m : MethodId} {args : Array Value} {below : List Frame} {meth : Method} {c : Code} {H : Heap} {locs : List Loc} {cells slots : Nat} {Q : State → Prop} {cc : ByteArray} {pc : Nat} {ls : Array Slot} {rest : List Value}
variable {D : va_G} {cl : List vw_C} {tys : List (ClassId × FieldType)} {ws : va_W} {a : Nat} {A : Nat → Prop} {H0 : Heap}
theorem cp_i (hx : p.tables.exec = Jvm.exec) (hb : c.code = cc) (hml : c.maxLocals = ls.size) {own : String} {index : Nat} (hown : s.vm.findClass own = some m.cls) (hlink : (Cond.methodLink own index arraycopyName).before args s = true) (hnat : (Cond.native arraycopyName).before args s = true) (hstat : (Cond.static arraycopyName).before args s = true) (hini : (Cond.initialized "java/lang/System").before args s = true)
    (hK : va_K D cl tys s) (hP : va_P D cl ws H) (hD : va_D A ws) (hS : va_S A H0 H locs) (q0 t0 : Nat) {cA : ClassId} {n : Nat} {f : Nat → Int32} (ha : ws[q0]? = some (a, .inl (cA, n, .inl f))) (ht : tys[t0]? = some (cA, .int)) {k b : Nat} (g : Nat → Int32) (hn : n < 2 ^ 31) (h4 : k + 1 + b ≤ n) (hg : va_cpy f f (k + 1) k b = g)
    (hframes : 1 ≤ R.frames) (hlocals : (rest.map fun v => v.category).sum + (nativeFrameWords "java/lang/System" "arraycopy" 5 + 11) ≤ R.locals) (hdg : decode cc pc = .ok (.invokestatic index, 3))
    (kk : ∀ (H1 : Heap) (locs1 : List Loc), va_P D cl (ws.set q0 (a, .inl (cA, n, .inl g))) H1 → va_D A (ws.set q0 (a, .inl (cA, n, .inl g))) → va_S A H0 H1 locs1 → W p l e R s m args below meth c H1 locs1 cells slots Q (F0 m (pc + 3) ls rest)) : W p l e R s m args below meth c H locs cells slots Q (F0 m pc ls (.int (nI b) :: .int (nI k) :: .ref a :: .int (nI (k + 1)) :: .ref a :: rest)) := by
  have c1 : (nI (k + 1)).toNatClampNeg = k + 1 := nI_clamp (by omega)
  have c2 : (nI k).toNatClampNeg = k := nI_clamp (by omega)
  have c3 : (nI b).toNatClampNeg = b := nI_clamp (by omega)
  refine va_copyi hx hb hml hown hlink hnat hstat hini hK hP hD hS q0 q0 t0 t0 ha ha ht ht rfl (nI_pos (by omega)) (nI_pos (by omega)) (nI_pos (by omega)) (by rw [c1, c3]; exact h4) (by rw [c2, c3]; omega) (fun _ _ => rfl) hframes hlocals hdg (fun H1 locs1 h1 h2 h3 => ?_)
  rw [c1, c2, c3, hg] at h1 h2
  exact kk H1 locs1 h1 h2 h3
theorem cp_l (hx : p.tables.exec = Jvm.exec) (hb : c.code = cc) (hml : c.maxLocals = ls.size) {own : String} {index : Nat} (hown : s.vm.findClass own = some m.cls) (hlink : (Cond.methodLink own index arraycopyName).before args s = true) (hnat : (Cond.native arraycopyName).before args s = true) (hstat : (Cond.static arraycopyName).before args s = true) (hini : (Cond.initialized "java/lang/System").before args s = true)
    (hK : va_K D cl tys s) (hP : va_P D cl ws H) (hD : va_D A ws) (hS : va_S A H0 H locs) (q0 t0 : Nat) {cA : ClassId} {n : Nat} {f : Nat → Int64} (ha : ws[q0]? = some (a, .inl (cA, n, .inr (.inl f)))) (ht : tys[t0]? = some (cA, .long)) {k b : Nat} (g : Nat → Int64) (hn : n < 2 ^ 31) (h4 : k + 1 + b ≤ n) (hg : va_cpy f f (k + 1) k b = g)
    (hframes : 1 ≤ R.frames) (hlocals : (rest.map fun v => v.category).sum + (nativeFrameWords "java/lang/System" "arraycopy" 5 + 11) ≤ R.locals) (hdg : decode cc pc = .ok (.invokestatic index, 3))
    (kk : ∀ (H1 : Heap) (locs1 : List Loc), va_P D cl (ws.set q0 (a, .inl (cA, n, .inr (.inl g)))) H1 → va_D A (ws.set q0 (a, .inl (cA, n, .inr (.inl g)))) → va_S A H0 H1 locs1 → W p l e R s m args below meth c H1 locs1 cells slots Q (F0 m (pc + 3) ls rest)) : W p l e R s m args below meth c H locs cells slots Q (F0 m pc ls (.int (nI b) :: .int (nI k) :: .ref a :: .int (nI (k + 1)) :: .ref a :: rest)) := by
  have c1 : (nI (k + 1)).toNatClampNeg = k + 1 := nI_clamp (by omega)
  have c2 : (nI k).toNatClampNeg = k := nI_clamp (by omega)
  have c3 : (nI b).toNatClampNeg = b := nI_clamp (by omega)
  refine va_copyl hx hb hml hown hlink hnat hstat hini hK hP hD hS q0 q0 t0 t0 ha ha ht ht rfl (nI_pos (by omega)) (nI_pos (by omega)) (nI_pos (by omega)) (by rw [c1, c3]; exact h4) (by rw [c2, c3]; omega) (fun _ _ => rfl) hframes hlocals hdg (fun H1 locs1 h1 h2 h3 => ?_)
  rw [c1, c2, c3, hg] at h1 h2
  exact kk H1 locs1 h1 h2 h3
end COPY
