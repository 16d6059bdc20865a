/-! constructors: the world grows -/
abbrev T3 (cI cJ cZ : ClassId) : List (ClassId × FieldType) := [(cI, .int), (cJ, .long), (cZ, .boolean)]
section CTOR
variable {p : Program} {l : Launch} {e : Env} {R : Room} {s : State} {m : MethodId} {args : Array Value} {below : List Frame} {meth : Method} {c : Code} {H : Heap} {locs : List Loc} {cells slots : Nat} {Q : State → Prop} {cc : ByteArray} {pc : Nat} {ls : Array Slot} {rest : List Value}
variable {D : va_G} {cl : List vw_C} {tys : List (ClassId × FieldType)} {ws : va_W} {A : Nat → Prop} {H0 : Heap}
theorem nw_a (hx : p.tables.exec = Jvm.exec) (hb : c.code = cc) {atype : ArrayType} (harr : (Cond.arrayClass (newarray.typeOf atype)).before args s = true) {ty : FieldType} (hty : newarray.typeOf atype = ty) (hK : va_K D cl tys s) (t0 : Nat) {cT : ClassId} (ht : tys[t0]? = some (cT, ty)) (hra : ∀ (U : State) (cA : ClassId), va_RA U cA ty → U.vm.findClass ("[" ++ ty.toString) = some cA)
    (hP : va_P D cl ws H) (hD : va_D A ws) (hS : va_S A H0 H locs) (hA : ∀ q, H0.size ≤ q → A q) {n : Int32} {N' : Nat} {a0 : vp_A} (ha : ∀ cA : ClassId, vp_cell cA a0 = arrV cA N' (fun _ => defaultValue ty)) (hn : ¬ n < 0) (hN : n.toNatClampNeg = N') (hbytes : N' * componentBytes ty ≤ 536870912) (hcells : cells + 1 ≤ R.cells) (hslots : slots + N' ≤ R.slots) (hdg : decode cc pc = .ok (.newarray atype, 2))
    (kk : ∀ (q : Nat) (H1 : Heap), va_P D cl (ws ++ [(q, .inl (cT, a0))]) H1 → va_D A (ws ++ [(q, .inl (cT, a0))]) → va_S A H0 H1 locs → W p l e R s m args below meth c H1 locs (cells + 1) (slots + N') Q (F0 m (pc + 2) ls (.ref q :: rest))) : W p l e R s m args below meth c H locs cells slots Q (F0 m pc ls (.int n :: rest)) := by
  refine va_newa hx hb harr hty hK hP hD hS hA ha hn hN hbytes hcells hslots hdg (fun q cA H1 hK1 hP1 hD1 hS1 => ?_)
  have h1 := hra s cA (hK1.2 tys.length (cA, ty) (by simp)).2
  have h2 := hra s cT (hK.2 t0 _ ht).2
  have h3 : cA = cT := Option.some.inj (h1.symm.trans h2)
  subst h3
  exact kk q H1 hP1 hD1 hS1
theorem pi_Q {w : va_W} (As : List Value) (hN : NW s) (hK : va_K D cl tys s) (hP : va_P D cl w H) (hD : va_D A w) : PreS s H (qPc D cl tys w H.size As) As :=
  ⟨fb_Q, fun U hU hW => ⟨rfl, by rw [hU], by rw [hU]; exact hP, va_K.moved hW.alike hK, hD.weaken (fun _ _ _ _ => trivial), NW.warm hW hN⟩⟩
end CTOR
abbrev wP0 (cI cJ cZ : ClassId) (h0 : Nat) (z : Nat × Nat × Nat × Nat × Nat × Nat × Nat) : va_W := [(h0, .inr (0, [.int 0, .int 0, .ref (z.1), .ref (z.2.1), .ref (z.2.2.1), .ref (z.2.2.2.1), .ref (z.2.2.2.2.1), .long 0, .long 0, .long 0, .ref (z.2.2.2.2.2.1), .ref (z.2.2.2.2.2.2)])), (z.1, .inl (cJ, 64, .inr (.inl (fun _ => (0 : Int64))))), (z.2.1, .inl (cJ, 16, .inr (.inl (fun _ => (0 : Int64))))), (z.2.2.1, .inl (cI, 16, .inl (fun _ => (0 : Int32)))), (z.2.2.2.1, .inl (cI, 64, .inl (fun _ => (0 : Int32)))), (z.2.2.2.2.1, .inl (cI, 64, .inl (fun _ => (0 : Int32)))), (z.2.2.2.2.2.1, .inl (cJ, 64, .inr (.inl (fun _ => (0 : Int64))))), (z.2.2.2.2.2.2, .inl (cJ, 64, .inr (.inl (fun _ => (0 : Int64)))))]
set_option maxHeartbeats 4000000 in
set_option maxRecDepth 100000 in
theorem c_P_init (l : Launch) (dC : Nat → ClassId) (dI : Nat → Nat → Nat) (cI cJ cZ : ClassId) (h0 sz : Nat) : Met l y_P_init w_P_init ({ frames := 1, cells := 7, slots := 352, locals := 24 }) (qPc (dC, dI) vwCl (T3 cI cJ cZ) [(h0, .inr (0, [.int 0, .int 0, .null, .null, .null, .null, .null, .long 0, .long 0, .long 0, .null, .null]))] sz [Value.ref h0]) (va_Qv (fun _ : Nat × Nat × Nat × Nat × Nat × Nat × Nat => True) (qB (dC, dI) vwCl (T3 cI cJ cZ) [(h0, .inr (0, [.int 0, .int 0, .null, .null, .null, .null, .null, .long 0, .long 0, .long 0, .null, .null]))] sz (wP0 cI cJ cZ h0)) (va_A [(h0, .inr (0, [.int 0, .int 0, .null, .null, .null, .null, .null, .long 0, .long 0, .long 0, .null, .null]))] sz)) 7 352 (va_A [(h0, .inr (0, [.int 0, .int 0, .null, .null, .null, .null, .null, .long 0, .long 0, .long 0, .null, .null]))] sz) := by
  refine Met.ofW (cc := b_P_init) (maxL := 1) (ret := none) (by decide) rfl ?_
  intro p e s m args below meth c s₁ B hml hv
  obtain ⟨rfl, hsz, hP, hK, hD0, hN⟩ := hv
  have hx := B.exec
  have hb := B.bytes
  have hr := B.returns
  have hts := atoms_spec (ws := w_P_init) B.pre
  have hown : s.vm.findClass "SeatProofs$Plant" = some m.cls := findClass_of_methodNamed B.named
  have hlocks := B.notSynchronized
  have hin : meth.name = "<init>" := (name_of_methodNamed B.named B.method).1
  subst hsz
  have hD := hD0.self (sz := s.heap.size)
  obtain ⟨A, hAe⟩ : ∃ A, A = va_A [(h0, .inr (0, [.int 0, .int 0, .null, .null, .null, .null, .null, .long 0, .long 0, .long 0, .null, .null]))] s.heap.size := ⟨_, rfl⟩
  rw [← hAe] at hD
  have hA : ∀ q : Nat, s.heap.size ≤ q → A q := fun q h => by rw [hAe]; exact Or.inr h
  have hS : va_S A s.heap s.heap [] := va_S.rf
  have hl := lv_entry ([Value.ref h0]) (n := 1) (Nat.le_of_ble_eq_true rfl)
  rw [lg_entry_eq]
  generalize (lg_sl ([Value.ref h0]) ++ List.replicate (1 - (lg_sl ([Value.ref h0])).length) Slot.unset).toArray = ls at hl ⊢
  have hl : lv_has ls 1 [(0, .ref h0)] := hl
  refine lv_aload_n hx hb d_P_init_0 rfl (lv_at hl 0 rfl) ?_
  refine W.objInit hx hb hown (hts _ (List.mem_cons_of_mem _ iw_25)) (hts _ (List.mem_cons_of_mem _ iw_18)) (hts _ (List.mem_cons_of_mem _ iw_19)) rfl (by rw [hml]; exact hl.1) rfl d_P_init_1 (Nat.le_of_ble_eq_true rfl) (Nat.le_of_ble_eq_true rfl) ?_
  refine W.eq (g2 := F0 m 4 ls []) rfl ?_
  refine lv_aload_n hx hb d_P_init_4 rfl (lv_at hl 0 rfl) ?_
  refine lv_bipush (v := nI 64) hx hb d_P_init_5 (by decide) ?_
  refine nw_a (atype := .long) (ty := .long) (a0 := (64, .inr (.inl (fun _ => (0 : Int64))))) hx hb (hts _ (List.mem_cons_of_mem _ iw_75)) rfl hK 1 rfl (fun _ _ h => h) hP hD hS hA (fun _ => rfl) (by decide) (by decide) (by decide) (Nat.le_of_ble_eq_true rfl) (Nat.le_of_ble_eq_true rfl) d_P_init_7 (fun a7 H hP hD hS => ?_)
  have hP : va_P (dC, dI) vwCl [(h0, .inr (0, [.int 0, .int 0, .null, .null, .null, .null, .null, .long 0, .long 0, .long 0, .null, .null])), (a7, .inl (cJ, 64, .inr (.inl (fun _ => (0 : Int64)))))] H := hP
  have hD : va_D A [(h0, .inr (0, [.int 0, .int 0, .null, .null, .null, .null, .null, .long 0, .long 0, .long 0, .null, .null])), (a7, .inl (cJ, 64, .inr (.inl (fun _ => (0 : Int64)))))] := hD
  refine va_putF (D := (dC, dI)) (ci := 0) (v := .ref a7) (ty := .array .long) (C := "SeatProofs$Plant") (T := F_P) (N := 12) hx hb hts (iu_P _) t_P t_P_ok n_P hown hK hP hD hS 0 rfl rfl 2 (by decide) (hts _ (List.mem_cons_of_mem _ iw_32)) (fun _ h9 => h9) rfl hin rfl (by decide +kernel) rfl rfl (Nat.le_of_ble_eq_true rfl) d_P_init_9 (fun H locs hP hD hS => ?_)
  have hP : va_P (dC, dI) vwCl [(h0, .inr (0, [.int 0, .int 0, .ref a7, .null, .null, .null, .null, .long 0, .long 0, .long 0, .null, .null])), (a7, .inl (cJ, 64, .inr (.inl (fun _ => (0 : Int64)))))] H := hP
  have hD : va_D A [(h0, .inr (0, [.int 0, .int 0, .ref a7, .null, .null, .null, .null, .long 0, .long 0, .long 0, .null, .null])), (a7, .inl (cJ, 64, .inr (.inl (fun _ => (0 : Int64)))))] := hD
  refine lv_aload_n hx hb d_P_init_12 rfl (lv_at hl 0 rfl) ?_
  refine lv_bipush (v := nI 16) hx hb d_P_init_13 (by decide) ?_
  refine nw_a (atype := .long) (ty := .long) (a0 := (16, .inr (.inl (fun _ => (0 : Int64))))) hx hb (hts _ (List.mem_cons_of_mem _ iw_75)) rfl hK 1 rfl (fun _ _ h => h) hP hD hS hA (fun _ => rfl) (by decide) (by decide) (by decide) (Nat.le_of_ble_eq_true rfl) (Nat.le_of_ble_eq_true rfl) d_P_init_15 (fun a15 H hP hD hS => ?_)
  have hP : va_P (dC, dI) vwCl [(h0, .inr (0, [.int 0, .int 0, .ref a7, .null, .null, .null, .null, .long 0, .long 0, .long 0, .null, .null])), (a7, .inl (cJ, 64, .inr (.inl (fun _ => (0 : Int64))))), (a15, .inl (cJ, 16, .inr (.inl (fun _ => (0 : Int64)))))] H := hP
  have hD : va_D A [(h0, .inr (0, [.int 0, .int 0, .ref a7, .null, .null, .null, .null, .long 0, .long 0, .long 0, .null, .null])), (a7, .inl (cJ, 64, .inr (.inl (fun _ => (0 : Int64))))), (a15, .inl (cJ, 16, .inr (.inl (fun _ => (0 : Int64)))))] := hD
  refine va_putF (D := (dC, dI)) (ci := 0) (v := .ref a15) (ty := .array .long) (C := "SeatProofs$Plant") (T := F_P) (N := 12) hx hb hts (iu_P _) t_P t_P_ok n_P hown hK hP hD hS 0 rfl rfl 3 (by decide) (hts _ (List.mem_cons_of_mem _ iw_33)) (fun _ h9 => h9) rfl hin rfl (by decide +kernel) rfl rfl (Nat.le_of_ble_eq_true rfl) d_P_init_17 (fun H locs hP hD hS => ?_)
  have hP : va_P (dC, dI) vwCl [(h0, .inr (0, [.int 0, .int 0, .ref a7, .ref a15, .null, .null, .null, .long 0, .long 0, .long 0, .null, .null])), (a7, .inl (cJ, 64, .inr (.inl (fun _ => (0 : Int64))))), (a15, .inl (cJ, 16, .inr (.inl (fun _ => (0 : Int64)))))] H := hP
  have hD : va_D A [(h0, .inr (0, [.int 0, .int 0, .ref a7, .ref a15, .null, .null, .null, .long 0, .long 0, .long 0, .null, .null])), (a7, .inl (cJ, 64, .inr (.inl (fun _ => (0 : Int64))))), (a15, .inl (cJ, 16, .inr (.inl (fun _ => (0 : Int64)))))] := hD
  refine lv_aload_n hx hb d_P_init_20 rfl (lv_at hl 0 rfl) ?_
  refine lv_bipush (v := nI 16) hx hb d_P_init_21 (by decide) ?_
  refine nw_a (atype := .int) (ty := .int) (a0 := (16, .inl (fun _ => (0 : Int32)))) hx hb (hts _ (List.mem_cons_of_mem _ iw_76)) rfl hK 0 rfl (fun _ _ h => h) hP hD hS hA (fun _ => rfl) (by decide) (by decide) (by decide) (Nat.le_of_ble_eq_true rfl) (Nat.le_of_ble_eq_true rfl) d_P_init_23 (fun a23 H hP hD hS => ?_)
  have hP : va_P (dC, dI) vwCl [(h0, .inr (0, [.int 0, .int 0, .ref a7, .ref a15, .null, .null, .null, .long 0, .long 0, .long 0, .null, .null])), (a7, .inl (cJ, 64, .inr (.inl (fun _ => (0 : Int64))))), (a15, .inl (cJ, 16, .inr (.inl (fun _ => (0 : Int64))))), (a23, .inl (cI, 16, .inl (fun _ => (0 : Int32))))] H := hP
  have hD : va_D A [(h0, .inr (0, [.int 0, .int 0, .ref a7, .ref a15, .null, .null, .null, .long 0, .long 0, .long 0, .null, .null])), (a7, .inl (cJ, 64, .inr (.inl (fun _ => (0 : Int64))))), (a15, .inl (cJ, 16, .inr (.inl (fun _ => (0 : Int64))))), (a23, .inl (cI, 16, .inl (fun _ => (0 : Int32))))] := hD
  refine va_putF (D := (dC, dI)) (ci := 0) (v := .ref a23) (ty := .array .int) (C := "SeatProofs$Plant") (T := F_P) (N := 12) hx hb hts (iu_P _) t_P t_P_ok n_P hown hK hP hD hS 0 rfl rfl 4 (by decide) (hts _ (List.mem_cons_of_mem _ iw_35)) (fun _ h9 => h9) rfl hin rfl (by decide +kernel) rfl rfl (Nat.le_of_ble_eq_true rfl) d_P_init_25 (fun H locs hP hD hS => ?_)
  have hP : va_P (dC, dI) vwCl [(h0, .inr (0, [.int 0, .int 0, .ref a7, .ref a15, .ref a23, .null, .null, .long 0, .long 0, .long 0, .null, .null])), (a7, .inl (cJ, 64, .inr (.inl (fun _ => (0 : Int64))))), (a15, .inl (cJ, 16, .inr (.inl (fun _ => (0 : Int64))))), (a23, .inl (cI, 16, .inl (fun _ => (0 : Int32))))] H := hP
  have hD : va_D A [(h0, .inr (0, [.int 0, .int 0, .ref a7, .ref a15, .ref a23, .null, .null, .long 0, .long 0, .long 0, .null, .null])), (a7, .inl (cJ, 64, .inr (.inl (fun _ => (0 : Int64))))), (a15, .inl (cJ, 16, .inr (.inl (fun _ => (0 : Int64))))), (a23, .inl (cI, 16, .inl (fun _ => (0 : Int32))))] := hD
  refine lv_aload_n hx hb d_P_init_28 rfl (lv_at hl 0 rfl) ?_
  refine lv_bipush (v := nI 64) hx hb d_P_init_29 (by decide) ?_
  refine nw_a (atype := .int) (ty := .int) (a0 := (64, .inl (fun _ => (0 : Int32)))) hx hb (hts _ (List.mem_cons_of_mem _ iw_76)) rfl hK 0 rfl (fun _ _ h => h) hP hD hS hA (fun _ => rfl) (by decide) (by decide) (by decide) (Nat.le_of_ble_eq_true rfl) (Nat.le_of_ble_eq_true rfl) d_P_init_31 (fun a31 H hP hD hS => ?_)
  have hP : va_P (dC, dI) vwCl [(h0, .inr (0, [.int 0, .int 0, .ref a7, .ref a15, .ref a23, .null, .null, .long 0, .long 0, .long 0, .null, .null])), (a7, .inl (cJ, 64, .inr (.inl (fun _ => (0 : Int64))))), (a15, .inl (cJ, 16, .inr (.inl (fun _ => (0 : Int64))))), (a23, .inl (cI, 16, .inl (fun _ => (0 : Int32)))), (a31, .inl (cI, 64, .inl (fun _ => (0 : Int32))))] H := hP
  have hD : va_D A [(h0, .inr (0, [.int 0, .int 0, .ref a7, .ref a15, .ref a23, .null, .null, .long 0, .long 0, .long 0, .null, .null])), (a7, .inl (cJ, 64, .inr (.inl (fun _ => (0 : Int64))))), (a15, .inl (cJ, 16, .inr (.inl (fun _ => (0 : Int64))))), (a23, .inl (cI, 16, .inl (fun _ => (0 : Int32)))), (a31, .inl (cI, 64, .inl (fun _ => (0 : Int32))))] := hD
  refine va_putF (D := (dC, dI)) (ci := 0) (v := .ref a31) (ty := .array .int) (C := "SeatProofs$Plant") (T := F_P) (N := 12) hx hb hts (iu_P _) t_P t_P_ok n_P hown hK hP hD hS 0 rfl rfl 5 (by decide) (hts _ (List.mem_cons_of_mem _ iw_36)) (fun _ h9 => h9) rfl hin rfl (by decide +kernel) rfl rfl (Nat.le_of_ble_eq_true rfl) d_P_init_33 (fun H locs hP hD hS => ?_)
  have hP : va_P (dC, dI) vwCl [(h0, .inr (0, [.int 0, .int 0, .ref a7, .ref a15, .ref a23, .ref a31, .null, .long 0, .long 0, .long 0, .null, .null])), (a7, .inl (cJ, 64, .inr (.inl (fun _ => (0 : Int64))))), (a15, .inl (cJ, 16, .inr (.inl (fun _ => (0 : Int64))))), (a23, .inl (cI, 16, .inl (fun _ => (0 : Int32)))), (a31, .inl (cI, 64, .inl (fun _ => (0 : Int32))))] H := hP
  have hD : va_D A [(h0, .inr (0, [.int 0, .int 0, .ref a7, .ref a15, .ref a23, .ref a31, .null, .long 0, .long 0, .long 0, .null, .null])), (a7, .inl (cJ, 64, .inr (.inl (fun _ => (0 : Int64))))), (a15, .inl (cJ, 16, .inr (.inl (fun _ => (0 : Int64))))), (a23, .inl (cI, 16, .inl (fun _ => (0 : Int32)))), (a31, .inl (cI, 64, .inl (fun _ => (0 : Int32))))] := hD
  refine lv_aload_n hx hb d_P_init_36 rfl (lv_at hl 0 rfl) ?_
  refine lv_bipush (v := nI 64) hx hb d_P_init_37 (by decide) ?_
  refine nw_a (atype := .int) (ty := .int) (a0 := (64, .inl (fun _ => (0 : Int32)))) hx hb (hts _ (List.mem_cons_of_mem _ iw_76)) rfl hK 0 rfl (fun _ _ h => h) hP hD hS hA (fun _ => rfl) (by decide) (by decide) (by decide) (Nat.le_of_ble_eq_true rfl) (Nat.le_of_ble_eq_true rfl) d_P_init_39 (fun a39 H hP hD hS => ?_)
  have hP : va_P (dC, dI) vwCl [(h0, .inr (0, [.int 0, .int 0, .ref a7, .ref a15, .ref a23, .ref a31, .null, .long 0, .long 0, .long 0, .null, .null])), (a7, .inl (cJ, 64, .inr (.inl (fun _ => (0 : Int64))))), (a15, .inl (cJ, 16, .inr (.inl (fun _ => (0 : Int64))))), (a23, .inl (cI, 16, .inl (fun _ => (0 : Int32)))), (a31, .inl (cI, 64, .inl (fun _ => (0 : Int32)))), (a39, .inl (cI, 64, .inl (fun _ => (0 : Int32))))] H := hP
  have hD : va_D A [(h0, .inr (0, [.int 0, .int 0, .ref a7, .ref a15, .ref a23, .ref a31, .null, .long 0, .long 0, .long 0, .null, .null])), (a7, .inl (cJ, 64, .inr (.inl (fun _ => (0 : Int64))))), (a15, .inl (cJ, 16, .inr (.inl (fun _ => (0 : Int64))))), (a23, .inl (cI, 16, .inl (fun _ => (0 : Int32)))), (a31, .inl (cI, 64, .inl (fun _ => (0 : Int32)))), (a39, .inl (cI, 64, .inl (fun _ => (0 : Int32))))] := hD
  refine va_putF (D := (dC, dI)) (ci := 0) (v := .ref a39) (ty := .array .int) (C := "SeatProofs$Plant") (T := F_P) (N := 12) hx hb hts (iu_P _) t_P t_P_ok n_P hown hK hP hD hS 0 rfl rfl 6 (by decide) (hts _ (List.mem_cons_of_mem _ iw_39)) (fun _ h9 => h9) rfl hin rfl (by decide +kernel) rfl rfl (Nat.le_of_ble_eq_true rfl) d_P_init_41 (fun H locs hP hD hS => ?_)
  have hP : va_P (dC, dI) vwCl [(h0, .inr (0, [.int 0, .int 0, .ref a7, .ref a15, .ref a23, .ref a31, .ref a39, .long 0, .long 0, .long 0, .null, .null])), (a7, .inl (cJ, 64, .inr (.inl (fun _ => (0 : Int64))))), (a15, .inl (cJ, 16, .inr (.inl (fun _ => (0 : Int64))))), (a23, .inl (cI, 16, .inl (fun _ => (0 : Int32)))), (a31, .inl (cI, 64, .inl (fun _ => (0 : Int32)))), (a39, .inl (cI, 64, .inl (fun _ => (0 : Int32))))] H := hP
  have hD : va_D A [(h0, .inr (0, [.int 0, .int 0, .ref a7, .ref a15, .ref a23, .ref a31, .ref a39, .long 0, .long 0, .long 0, .null, .null])), (a7, .inl (cJ, 64, .inr (.inl (fun _ => (0 : Int64))))), (a15, .inl (cJ, 16, .inr (.inl (fun _ => (0 : Int64))))), (a23, .inl (cI, 16, .inl (fun _ => (0 : Int32)))), (a31, .inl (cI, 64, .inl (fun _ => (0 : Int32)))), (a39, .inl (cI, 64, .inl (fun _ => (0 : Int32))))] := hD
  refine lv_aload_n hx hb d_P_init_44 rfl (lv_at hl 0 rfl) ?_
  refine lv_bipush (v := nI 64) hx hb d_P_init_45 (by decide) ?_
  refine nw_a (atype := .long) (ty := .long) (a0 := (64, .inr (.inl (fun _ => (0 : Int64))))) hx hb (hts _ (List.mem_cons_of_mem _ iw_75)) rfl hK 1 rfl (fun _ _ h => h) hP hD hS hA (fun _ => rfl) (by decide) (by decide) (by decide) (Nat.le_of_ble_eq_true rfl) (Nat.le_of_ble_eq_true rfl) d_P_init_47 (fun a47 H hP hD hS => ?_)
  have hP : va_P (dC, dI) vwCl [(h0, .inr (0, [.int 0, .int 0, .ref a7, .ref a15, .ref a23, .ref a31, .ref a39, .long 0, .long 0, .long 0, .null, .null])), (a7, .inl (cJ, 64, .inr (.inl (fun _ => (0 : Int64))))), (a15, .inl (cJ, 16, .inr (.inl (fun _ => (0 : Int64))))), (a23, .inl (cI, 16, .inl (fun _ => (0 : Int32)))), (a31, .inl (cI, 64, .inl (fun _ => (0 : Int32)))), (a39, .inl (cI, 64, .inl (fun _ => (0 : Int32)))), (a47, .inl (cJ, 64, .inr (.inl (fun _ => (0 : Int64)))))] H := hP
  have hD : va_D A [(h0, .inr (0, [.int 0, .int 0, .ref a7, .ref a15, .ref a23, .ref a31, .ref a39, .long 0, .long 0, .long 0, .null, .null])), (a7, .inl (cJ, 64, .inr (.inl (fun _ => (0 : Int64))))), (a15, .inl (cJ, 16, .inr (.inl (fun _ => (0 : Int64))))), (a23, .inl (cI, 16, .inl (fun _ => (0 : Int32)))), (a31, .inl (cI, 64, .inl (fun _ => (0 : Int32)))), (a39, .inl (cI, 64, .inl (fun _ => (0 : Int32)))), (a47, .inl (cJ, 64, .inr (.inl (fun _ => (0 : Int64)))))] := hD
  refine va_putF (D := (dC, dI)) (ci := 0) (v := .ref a47) (ty := .array .long) (C := "SeatProofs$Plant") (T := F_P) (N := 12) hx hb hts (iu_P _) t_P t_P_ok n_P hown hK hP hD hS 0 rfl rfl 10 (by decide) (hts _ (List.mem_cons_of_mem _ iw_46)) (fun _ h9 => h9) rfl hin rfl (by decide +kernel) rfl rfl (Nat.le_of_ble_eq_true rfl) d_P_init_49 (fun H locs hP hD hS => ?_)
  have hP : va_P (dC, dI) vwCl [(h0, .inr (0, [.int 0, .int 0, .ref a7, .ref a15, .ref a23, .ref a31, .ref a39, .long 0, .long 0, .long 0, .ref a47, .null])), (a7, .inl (cJ, 64, .inr (.inl (fun _ => (0 : Int64))))), (a15, .inl (cJ, 16, .inr (.inl (fun _ => (0 : Int64))))), (a23, .inl (cI, 16, .inl (fun _ => (0 : Int32)))), (a31, .inl (cI, 64, .inl (fun _ => (0 : Int32)))), (a39, .inl (cI, 64, .inl (fun _ => (0 : Int32)))), (a47, .inl (cJ, 64, .inr (.inl (fun _ => (0 : Int64)))))] H := hP
  have hD : va_D A [(h0, .inr (0, [.int 0, .int 0, .ref a7, .ref a15, .ref a23, .ref a31, .ref a39, .long 0, .long 0, .long 0, .ref a47, .null])), (a7, .inl (cJ, 64, .inr (.inl (fun _ => (0 : Int64))))), (a15, .inl (cJ, 16, .inr (.inl (fun _ => (0 : Int64))))), (a23, .inl (cI, 16, .inl (fun _ => (0 : Int32)))), (a31, .inl (cI, 64, .inl (fun _ => (0 : Int32)))), (a39, .inl (cI, 64, .inl (fun _ => (0 : Int32)))), (a47, .inl (cJ, 64, .inr (.inl (fun _ => (0 : Int64)))))] := hD
  refine lv_aload_n hx hb d_P_init_52 rfl (lv_at hl 0 rfl) ?_
  refine lv_bipush (v := nI 64) hx hb d_P_init_53 (by decide) ?_
  refine nw_a (atype := .long) (ty := .long) (a0 := (64, .inr (.inl (fun _ => (0 : Int64))))) hx hb (hts _ (List.mem_cons_of_mem _ iw_75)) rfl hK 1 rfl (fun _ _ h => h) hP hD hS hA (fun _ => rfl) (by decide) (by decide) (by decide) (Nat.le_of_ble_eq_true rfl) (Nat.le_of_ble_eq_true rfl) d_P_init_55 (fun a55 H hP hD hS => ?_)
  have hP : va_P (dC, dI) vwCl [(h0, .inr (0, [.int 0, .int 0, .ref a7, .ref a15, .ref a23, .ref a31, .ref a39, .long 0, .long 0, .long 0, .ref a47, .null])), (a7, .inl (cJ, 64, .inr (.inl (fun _ => (0 : Int64))))), (a15, .inl (cJ, 16, .inr (.inl (fun _ => (0 : Int64))))), (a23, .inl (cI, 16, .inl (fun _ => (0 : Int32)))), (a31, .inl (cI, 64, .inl (fun _ => (0 : Int32)))), (a39, .inl (cI, 64, .inl (fun _ => (0 : Int32)))), (a47, .inl (cJ, 64, .inr (.inl (fun _ => (0 : Int64))))), (a55, .inl (cJ, 64, .inr (.inl (fun _ => (0 : Int64)))))] H := hP
  have hD : va_D A [(h0, .inr (0, [.int 0, .int 0, .ref a7, .ref a15, .ref a23, .ref a31, .ref a39, .long 0, .long 0, .long 0, .ref a47, .null])), (a7, .inl (cJ, 64, .inr (.inl (fun _ => (0 : Int64))))), (a15, .inl (cJ, 16, .inr (.inl (fun _ => (0 : Int64))))), (a23, .inl (cI, 16, .inl (fun _ => (0 : Int32)))), (a31, .inl (cI, 64, .inl (fun _ => (0 : Int32)))), (a39, .inl (cI, 64, .inl (fun _ => (0 : Int32)))), (a47, .inl (cJ, 64, .inr (.inl (fun _ => (0 : Int64))))), (a55, .inl (cJ, 64, .inr (.inl (fun _ => (0 : Int64)))))] := hD
  refine va_putF (D := (dC, dI)) (ci := 0) (v := .ref a55) (ty := .array .long) (C := "SeatProofs$Plant") (T := F_P) (N := 12) hx hb hts (iu_P _) t_P t_P_ok n_P hown hK hP hD hS 0 rfl rfl 11 (by decide) (hts _ (List.mem_cons_of_mem _ iw_48)) (fun _ h9 => h9) rfl hin rfl (by decide +kernel) rfl rfl (Nat.le_of_ble_eq_true rfl) d_P_init_57 (fun H locs hP hD hS => ?_)
  have hP : va_P (dC, dI) vwCl [(h0, .inr (0, [.int 0, .int 0, .ref a7, .ref a15, .ref a23, .ref a31, .ref a39, .long 0, .long 0, .long 0, .ref a47, .ref a55])), (a7, .inl (cJ, 64, .inr (.inl (fun _ => (0 : Int64))))), (a15, .inl (cJ, 16, .inr (.inl (fun _ => (0 : Int64))))), (a23, .inl (cI, 16, .inl (fun _ => (0 : Int32)))), (a31, .inl (cI, 64, .inl (fun _ => (0 : Int32)))), (a39, .inl (cI, 64, .inl (fun _ => (0 : Int32)))), (a47, .inl (cJ, 64, .inr (.inl (fun _ => (0 : Int64))))), (a55, .inl (cJ, 64, .inr (.inl (fun _ => (0 : Int64)))))] H := hP
  have hD : va_D A [(h0, .inr (0, [.int 0, .int 0, .ref a7, .ref a15, .ref a23, .ref a31, .ref a39, .long 0, .long 0, .long 0, .ref a47, .ref a55])), (a7, .inl (cJ, 64, .inr (.inl (fun _ => (0 : Int64))))), (a15, .inl (cJ, 16, .inr (.inl (fun _ => (0 : Int64))))), (a23, .inl (cI, 16, .inl (fun _ => (0 : Int32)))), (a31, .inl (cI, 64, .inl (fun _ => (0 : Int32)))), (a39, .inl (cI, 64, .inl (fun _ => (0 : Int32)))), (a47, .inl (cJ, 64, .inr (.inl (fun _ => (0 : Int64))))), (a55, .inl (cJ, 64, .inr (.inl (fun _ => (0 : Int64)))))] := hD
  refine W.widen (k := 7) (n := 352) (Nat.le_of_ble_eq_true rfl) (Nat.le_of_ble_eq_true rfl) ?_
  exact W.vret hx hb hr (fun t9 ht9 hW9 => ⟨⟨(a7, a15, a23, a31, a39, a47, a55), rfl, trivial, by rw [ht9]; exact hP, va_K.moved hW9.alike hK, by rw [← hAe]; exact hD⟩, by rw [← hAe]; exact hS.F ht9⟩) (by rw [← hAe]; exact hS.2.2) d_P_init_60
abbrev wF0 (cI cJ cZ : ClassId) (h0 pa : Nat) (z : Nat × Nat) : va_W := [(h0, .inr (1, [.ref (pa), .long 0, .ref (z.1), .ref (z.2)])), (z.1, .inl (cJ, 64, .inr (.inl (fun _ => (0 : Int64))))), (z.2, .inl (cJ, 16, .inr (.inl (fun _ => (0 : Int64)))))]
set_option maxHeartbeats 4000000 in
set_option maxRecDepth 100000 in
theorem c_F_init (l : Launch) (dC : Nat → ClassId) (dI : Nat → Nat → Nat) (cI cJ cZ : ClassId) (h0 pa sz : Nat) : Met l y_F_init w_F_init ({ frames := 1, cells := 2, slots := 80, locals := 24 }) (qPc (dC, dI) vwCl (T3 cI cJ cZ) [(h0, .inr (1, [.null, .long 0, .null, .null]))] sz [Value.ref h0, Value.ref pa]) (va_Qv (fun _ : Nat × Nat => True) (qB (dC, dI) vwCl (T3 cI cJ cZ) [(h0, .inr (1, [.null, .long 0, .null, .null]))] sz (wF0 cI cJ cZ h0 pa)) (va_A [(h0, .inr (1, [.null, .long 0, .null, .null]))] sz)) 2 80 (va_A [(h0, .inr (1, [.null, .long 0, .null, .null]))] sz) := by
  refine Met.ofW (cc := b_F_init) (maxL := 2) (ret := none) (by decide) rfl ?_
  intro p e s m args below meth c s₁ B hml hv
  obtain ⟨rfl, hsz, hP, hK, hD0, hN⟩ := hv
  have hx := B.exec
  have hb := B.bytes
  have hr := B.returns
  have hts := atoms_spec (ws := w_F_init) B.pre
  have hown : s.vm.findClass "SeatProofs$Flow" = some m.cls := findClass_of_methodNamed B.named
  have hlocks := B.notSynchronized
  have hin : meth.name = "<init>" := (name_of_methodNamed B.named B.method).1
  subst hsz
  have hD := hD0.self (sz := s.heap.size)
  obtain ⟨A, hAe⟩ : ∃ A, A = va_A [(h0, .inr (1, [.null, .long 0, .null, .null]))] s.heap.size := ⟨_, rfl⟩
  rw [← hAe] at hD
  have hA : ∀ q : Nat, s.heap.size ≤ q → A q := fun q h => by rw [hAe]; exact Or.inr h
  have hS : va_S A s.heap s.heap [] := va_S.rf
  have hl := lv_entry ([Value.ref h0, Value.ref pa]) (n := 2) (Nat.le_of_ble_eq_true rfl)
  rw [lg_entry_eq]
  generalize (lg_sl ([Value.ref h0, Value.ref pa]) ++ List.replicate (2 - (lg_sl ([Value.ref h0, Value.ref pa])).length) Slot.unset).toArray = ls at hl ⊢
  have hl : lv_has ls 2 [(0, .ref h0), (1, .ref pa)] := hl
  refine lv_aload_n hx hb d_F_init_0 rfl (lv_at hl 0 rfl) ?_
  refine W.objInit hx hb hown (hts _ (List.mem_cons_of_mem _ iw_82)) (hts _ (List.mem_cons_of_mem _ iw_18)) (hts _ (List.mem_cons_of_mem _ iw_19)) rfl (by rw [hml]; exact hl.1) rfl d_F_init_1 (Nat.le_of_ble_eq_true rfl) (Nat.le_of_ble_eq_true rfl) ?_
  refine W.eq (g2 := F0 m 4 ls []) rfl ?_
  refine lv_aload_n hx hb d_F_init_4 rfl (lv_at hl 0 rfl) ?_
  refine lv_bipush (v := nI 64) hx hb d_F_init_5 (by decide) ?_
  refine nw_a (atype := .long) (ty := .long) (a0 := (64, .inr (.inl (fun _ => (0 : Int64))))) hx hb (hts _ (List.mem_cons_of_mem _ iw_75)) rfl hK 1 rfl (fun _ _ h => h) hP hD hS hA (fun _ => rfl) (by decide) (by decide) (by decide) (Nat.le_of_ble_eq_true rfl) (Nat.le_of_ble_eq_true rfl) d_F_init_7 (fun a7 H hP hD hS => ?_)
  have hP : va_P (dC, dI) vwCl [(h0, .inr (1, [.null, .long 0, .null, .null])), (a7, .inl (cJ, 64, .inr (.inl (fun _ => (0 : Int64)))))] H := hP
  have hD : va_D A [(h0, .inr (1, [.null, .long 0, .null, .null])), (a7, .inl (cJ, 64, .inr (.inl (fun _ => (0 : Int64)))))] := hD
  refine va_putF (D := (dC, dI)) (ci := 1) (v := .ref a7) (ty := .array .long) (C := "SeatProofs$Flow") (T := F_F) (N := 4) hx hb hts (iu_F _) t_F t_F_ok n_F hown hK hP hD hS 0 rfl rfl 2 (by decide) (hts _ (List.mem_cons_of_mem _ iw_85)) (fun _ h9 => h9) rfl hin rfl (by decide +kernel) rfl rfl (Nat.le_of_ble_eq_true rfl) d_F_init_9 (fun H locs hP hD hS => ?_)
  have hP : va_P (dC, dI) vwCl [(h0, .inr (1, [.null, .long 0, .ref a7, .null])), (a7, .inl (cJ, 64, .inr (.inl (fun _ => (0 : Int64)))))] H := hP
  have hD : va_D A [(h0, .inr (1, [.null, .long 0, .ref a7, .null])), (a7, .inl (cJ, 64, .inr (.inl (fun _ => (0 : Int64)))))] := hD
  refine lv_aload_n hx hb d_F_init_12 rfl (lv_at hl 0 rfl) ?_
  refine lv_bipush (v := nI 16) hx hb d_F_init_13 (by decide) ?_
  refine nw_a (atype := .long) (ty := .long) (a0 := (16, .inr (.inl (fun _ => (0 : Int64))))) hx hb (hts _ (List.mem_cons_of_mem _ iw_75)) rfl hK 1 rfl (fun _ _ h => h) hP hD hS hA (fun _ => rfl) (by decide) (by decide) (by decide) (Nat.le_of_ble_eq_true rfl) (Nat.le_of_ble_eq_true rfl) d_F_init_15 (fun a15 H hP hD hS => ?_)
  have hP : va_P (dC, dI) vwCl [(h0, .inr (1, [.null, .long 0, .ref a7, .null])), (a7, .inl (cJ, 64, .inr (.inl (fun _ => (0 : Int64))))), (a15, .inl (cJ, 16, .inr (.inl (fun _ => (0 : Int64)))))] H := hP
  have hD : va_D A [(h0, .inr (1, [.null, .long 0, .ref a7, .null])), (a7, .inl (cJ, 64, .inr (.inl (fun _ => (0 : Int64))))), (a15, .inl (cJ, 16, .inr (.inl (fun _ => (0 : Int64)))))] := hD
  refine va_putF (D := (dC, dI)) (ci := 1) (v := .ref a15) (ty := .array .long) (C := "SeatProofs$Flow") (T := F_F) (N := 4) hx hb hts (iu_F _) t_F t_F_ok n_F hown hK hP hD hS 0 rfl rfl 3 (by decide) (hts _ (List.mem_cons_of_mem _ iw_86)) (fun _ h9 => h9) rfl hin rfl (by decide +kernel) rfl rfl (Nat.le_of_ble_eq_true rfl) d_F_init_17 (fun H locs hP hD hS => ?_)
  have hP : va_P (dC, dI) vwCl [(h0, .inr (1, [.null, .long 0, .ref a7, .ref a15])), (a7, .inl (cJ, 64, .inr (.inl (fun _ => (0 : Int64))))), (a15, .inl (cJ, 16, .inr (.inl (fun _ => (0 : Int64)))))] H := hP
  have hD : va_D A [(h0, .inr (1, [.null, .long 0, .ref a7, .ref a15])), (a7, .inl (cJ, 64, .inr (.inl (fun _ => (0 : Int64))))), (a15, .inl (cJ, 16, .inr (.inl (fun _ => (0 : Int64)))))] := hD
  refine lv_aload_n hx hb d_F_init_20 rfl (lv_at hl 0 rfl) ?_
  refine lv_aload_n hx hb d_F_init_21 rfl (lv_at hl 1 rfl) ?_
  refine va_putF (D := (dC, dI)) (ci := 1) (v := .ref pa) (ty := .object "SeatProofs$Plant") (C := "SeatProofs$Flow") (T := F_F) (N := 4) hx hb hts (iu_F _) t_F t_F_ok n_F hown hK hP hD hS 0 rfl rfl 0 (by decide) (hts _ (List.mem_cons_of_mem _ iw_83)) (fun _ h9 => h9) rfl hin rfl (by decide +kernel) rfl rfl (Nat.le_of_ble_eq_true rfl) d_F_init_22 (fun H locs hP hD hS => ?_)
  have hP : va_P (dC, dI) vwCl [(h0, .inr (1, [.ref pa, .long 0, .ref a7, .ref a15])), (a7, .inl (cJ, 64, .inr (.inl (fun _ => (0 : Int64))))), (a15, .inl (cJ, 16, .inr (.inl (fun _ => (0 : Int64)))))] H := hP
  have hD : va_D A [(h0, .inr (1, [.ref pa, .long 0, .ref a7, .ref a15])), (a7, .inl (cJ, 64, .inr (.inl (fun _ => (0 : Int64))))), (a15, .inl (cJ, 16, .inr (.inl (fun _ => (0 : Int64)))))] := hD
  refine W.widen (k := 2) (n := 80) (Nat.le_of_ble_eq_true rfl) (Nat.le_of_ble_eq_true rfl) ?_
  exact W.vret hx hb hr (fun t9 ht9 hW9 => ⟨⟨(a7, a15), rfl, trivial, by rw [ht9]; exact hP, va_K.moved hW9.alike hK, by rw [← hAe]; exact hD⟩, by rw [← hAe]; exact hS.F ht9⟩) (by rw [← hAe]; exact hS.2.2) d_F_init_25
abbrev wQ0 (cI cJ cZ : ClassId) (h0 : Nat) (z : Nat × Nat × Nat × Nat) : va_W := [(h0, .inr (2, [.int 0, .ref (z.1), .ref (z.2.1), .ref (z.2.2.1), .ref (z.2.2.2)])), (z.1, .inl (cI, 975, .inl (fun _ => (0 : Int32)))), (z.2.1, .inl (cI, 975, .inl (fun _ => (0 : Int32)))), (z.2.2.1, .inl (cJ, 975, .inr (.inl (fun _ => (0 : Int64))))), (z.2.2.2, .inl (cJ, 975, .inr (.inl (fun _ => (0 : Int64)))))]
set_option maxHeartbeats 4000000 in
set_option maxRecDepth 100000 in
theorem c_Q_init (l : Launch) (dC : Nat → ClassId) (dI : Nat → Nat → Nat) (cI cJ cZ : ClassId) (h0 sz : Nat) : Met l y_Q_init w_Q_init ({ frames := 1, cells := 4, slots := 3900, locals := 24 }) (qPc (dC, dI) vwCl (T3 cI cJ cZ) [(h0, .inr (2, [.int 0, .null, .null, .null, .null]))] sz [Value.ref h0]) (va_Qv (fun _ : Nat × Nat × Nat × Nat => True) (qB (dC, dI) vwCl (T3 cI cJ cZ) [(h0, .inr (2, [.int 0, .null, .null, .null, .null]))] sz (wQ0 cI cJ cZ h0)) (va_A [(h0, .inr (2, [.int 0, .null, .null, .null, .null]))] sz)) 4 3900 (va_A [(h0, .inr (2, [.int 0, .null, .null, .null, .null]))] sz) := by
  refine Met.ofW (cc := b_Q_init) (maxL := 1) (ret := none) (by decide) rfl ?_
  intro p e s m args below meth c s₁ B hml hv
  obtain ⟨rfl, hsz, hP, hK, hD0, hN⟩ := hv
  have hx := B.exec
  have hb := B.bytes
  have hr := B.returns
  have hts := atoms_spec (ws := w_Q_init) B.pre
  have hown : s.vm.findClass "SeatProofs$Proof" = some m.cls := findClass_of_methodNamed B.named
  have hlocks := B.notSynchronized
  have hin : meth.name = "<init>" := (name_of_methodNamed B.named B.method).1
  subst hsz
  have hD := hD0.self (sz := s.heap.size)
  obtain ⟨A, hAe⟩ : ∃ A, A = va_A [(h0, .inr (2, [.int 0, .null, .null, .null, .null]))] s.heap.size := ⟨_, rfl⟩
  rw [← hAe] at hD
  have hA : ∀ q : Nat, s.heap.size ≤ q → A q := fun q h => by rw [hAe]; exact Or.inr h
  have hS : va_S A s.heap s.heap [] := va_S.rf
  have hl := lv_entry ([Value.ref h0]) (n := 1) (Nat.le_of_ble_eq_true rfl)
  rw [lg_entry_eq]
  generalize (lg_sl ([Value.ref h0]) ++ List.replicate (1 - (lg_sl ([Value.ref h0])).length) Slot.unset).toArray = ls at hl ⊢
  have hl : lv_has ls 1 [(0, .ref h0)] := hl
  refine lv_aload_n hx hb d_Q_init_0 rfl (lv_at hl 0 rfl) ?_
  refine W.objInit hx hb hown (hts _ (List.mem_cons_of_mem _ iw_102)) (hts _ (List.mem_cons_of_mem _ iw_18)) (hts _ (List.mem_cons_of_mem _ iw_19)) rfl (by rw [hml]; exact hl.1) rfl d_Q_init_1 (Nat.le_of_ble_eq_true rfl) (Nat.le_of_ble_eq_true rfl) ?_
  refine W.eq (g2 := F0 m 4 ls []) rfl ?_
  refine lv_aload_n hx hb d_Q_init_4 rfl (lv_at hl 0 rfl) ?_
  refine lv_sipush (v := nI 975) hx hb d_Q_init_5 (by decide) ?_
  refine nw_a (atype := .int) (ty := .int) (a0 := (975, .inl (fun _ => (0 : Int32)))) hx hb (hts _ (List.mem_cons_of_mem _ iw_76)) rfl hK 0 rfl (fun _ _ h => h) hP hD hS hA (fun _ => rfl) (by decide) (by decide) (by decide) (Nat.le_of_ble_eq_true rfl) (Nat.le_of_ble_eq_true rfl) d_Q_init_8 (fun a8 H hP hD hS => ?_)
  have hP : va_P (dC, dI) vwCl [(h0, .inr (2, [.int 0, .null, .null, .null, .null])), (a8, .inl (cI, 975, .inl (fun _ => (0 : Int32))))] H := hP
  have hD : va_D A [(h0, .inr (2, [.int 0, .null, .null, .null, .null])), (a8, .inl (cI, 975, .inl (fun _ => (0 : Int32))))] := hD
  refine va_putF (D := (dC, dI)) (ci := 2) (v := .ref a8) (ty := .array .int) (C := "SeatProofs$Proof") (T := F_Q) (N := 5) hx hb hts (iu_Q _) t_Q t_Q_ok n_Q hown hK hP hD hS 0 rfl rfl 1 (by decide) (hts _ (List.mem_cons_of_mem _ iw_105)) (fun _ h9 => h9) rfl hin rfl (by decide +kernel) rfl rfl (Nat.le_of_ble_eq_true rfl) d_Q_init_10 (fun H locs hP hD hS => ?_)
  have hP : va_P (dC, dI) vwCl [(h0, .inr (2, [.int 0, .ref a8, .null, .null, .null])), (a8, .inl (cI, 975, .inl (fun _ => (0 : Int32))))] H := hP
  have hD : va_D A [(h0, .inr (2, [.int 0, .ref a8, .null, .null, .null])), (a8, .inl (cI, 975, .inl (fun _ => (0 : Int32))))] := hD
  refine lv_aload_n hx hb d_Q_init_13 rfl (lv_at hl 0 rfl) ?_
  refine lv_sipush (v := nI 975) hx hb d_Q_init_14 (by decide) ?_
  refine nw_a (atype := .int) (ty := .int) (a0 := (975, .inl (fun _ => (0 : Int32)))) hx hb (hts _ (List.mem_cons_of_mem _ iw_76)) rfl hK 0 rfl (fun _ _ h => h) hP hD hS hA (fun _ => rfl) (by decide) (by decide) (by decide) (Nat.le_of_ble_eq_true rfl) (Nat.le_of_ble_eq_true rfl) d_Q_init_17 (fun a17 H hP hD hS => ?_)
  have hP : va_P (dC, dI) vwCl [(h0, .inr (2, [.int 0, .ref a8, .null, .null, .null])), (a8, .inl (cI, 975, .inl (fun _ => (0 : Int32)))), (a17, .inl (cI, 975, .inl (fun _ => (0 : Int32))))] H := hP
  have hD : va_D A [(h0, .inr (2, [.int 0, .ref a8, .null, .null, .null])), (a8, .inl (cI, 975, .inl (fun _ => (0 : Int32)))), (a17, .inl (cI, 975, .inl (fun _ => (0 : Int32))))] := hD
  refine va_putF (D := (dC, dI)) (ci := 2) (v := .ref a17) (ty := .array .int) (C := "SeatProofs$Proof") (T := F_Q) (N := 5) hx hb hts (iu_Q _) t_Q t_Q_ok n_Q hown hK hP hD hS 0 rfl rfl 2 (by decide) (hts _ (List.mem_cons_of_mem _ iw_107)) (fun _ h9 => h9) rfl hin rfl (by decide +kernel) rfl rfl (Nat.le_of_ble_eq_true rfl) d_Q_init_19 (fun H locs hP hD hS => ?_)
  have hP : va_P (dC, dI) vwCl [(h0, .inr (2, [.int 0, .ref a8, .ref a17, .null, .null])), (a8, .inl (cI, 975, .inl (fun _ => (0 : Int32)))), (a17, .inl (cI, 975, .inl (fun _ => (0 : Int32))))] H := hP
  have hD : va_D A [(h0, .inr (2, [.int 0, .ref a8, .ref a17, .null, .null])), (a8, .inl (cI, 975, .inl (fun _ => (0 : Int32)))), (a17, .inl (cI, 975, .inl (fun _ => (0 : Int32))))] := hD
  refine lv_aload_n hx hb d_Q_init_22 rfl (lv_at hl 0 rfl) ?_
  refine lv_sipush (v := nI 975) hx hb d_Q_init_23 (by decide) ?_
  refine nw_a (atype := .long) (ty := .long) (a0 := (975, .inr (.inl (fun _ => (0 : Int64))))) hx hb (hts _ (List.mem_cons_of_mem _ iw_75)) rfl hK 1 rfl (fun _ _ h => h) hP hD hS hA (fun _ => rfl) (by decide) (by decide) (by decide) (Nat.le_of_ble_eq_true rfl) (Nat.le_of_ble_eq_true rfl) d_Q_init_26 (fun a26 H hP hD hS => ?_)
  have hP : va_P (dC, dI) vwCl [(h0, .inr (2, [.int 0, .ref a8, .ref a17, .null, .null])), (a8, .inl (cI, 975, .inl (fun _ => (0 : Int32)))), (a17, .inl (cI, 975, .inl (fun _ => (0 : Int32)))), (a26, .inl (cJ, 975, .inr (.inl (fun _ => (0 : Int64)))))] H := hP
  have hD : va_D A [(h0, .inr (2, [.int 0, .ref a8, .ref a17, .null, .null])), (a8, .inl (cI, 975, .inl (fun _ => (0 : Int32)))), (a17, .inl (cI, 975, .inl (fun _ => (0 : Int32)))), (a26, .inl (cJ, 975, .inr (.inl (fun _ => (0 : Int64)))))] := hD
  refine va_putF (D := (dC, dI)) (ci := 2) (v := .ref a26) (ty := .array .long) (C := "SeatProofs$Proof") (T := F_Q) (N := 5) hx hb hts (iu_Q _) t_Q t_Q_ok n_Q hown hK hP hD hS 0 rfl rfl 3 (by decide) (hts _ (List.mem_cons_of_mem _ iw_109)) (fun _ h9 => h9) rfl hin rfl (by decide +kernel) rfl rfl (Nat.le_of_ble_eq_true rfl) d_Q_init_28 (fun H locs hP hD hS => ?_)
  have hP : va_P (dC, dI) vwCl [(h0, .inr (2, [.int 0, .ref a8, .ref a17, .ref a26, .null])), (a8, .inl (cI, 975, .inl (fun _ => (0 : Int32)))), (a17, .inl (cI, 975, .inl (fun _ => (0 : Int32)))), (a26, .inl (cJ, 975, .inr (.inl (fun _ => (0 : Int64)))))] H := hP
  have hD : va_D A [(h0, .inr (2, [.int 0, .ref a8, .ref a17, .ref a26, .null])), (a8, .inl (cI, 975, .inl (fun _ => (0 : Int32)))), (a17, .inl (cI, 975, .inl (fun _ => (0 : Int32)))), (a26, .inl (cJ, 975, .inr (.inl (fun _ => (0 : Int64)))))] := hD
  refine lv_aload_n hx hb d_Q_init_31 rfl (lv_at hl 0 rfl) ?_
  refine lv_sipush (v := nI 975) hx hb d_Q_init_32 (by decide) ?_
  refine nw_a (atype := .long) (ty := .long) (a0 := (975, .inr (.inl (fun _ => (0 : Int64))))) hx hb (hts _ (List.mem_cons_of_mem _ iw_75)) rfl hK 1 rfl (fun _ _ h => h) hP hD hS hA (fun _ => rfl) (by decide) (by decide) (by decide) (Nat.le_of_ble_eq_true rfl) (Nat.le_of_ble_eq_true rfl) d_Q_init_35 (fun a35 H hP hD hS => ?_)
  have hP : va_P (dC, dI) vwCl [(h0, .inr (2, [.int 0, .ref a8, .ref a17, .ref a26, .null])), (a8, .inl (cI, 975, .inl (fun _ => (0 : Int32)))), (a17, .inl (cI, 975, .inl (fun _ => (0 : Int32)))), (a26, .inl (cJ, 975, .inr (.inl (fun _ => (0 : Int64))))), (a35, .inl (cJ, 975, .inr (.inl (fun _ => (0 : Int64)))))] H := hP
  have hD : va_D A [(h0, .inr (2, [.int 0, .ref a8, .ref a17, .ref a26, .null])), (a8, .inl (cI, 975, .inl (fun _ => (0 : Int32)))), (a17, .inl (cI, 975, .inl (fun _ => (0 : Int32)))), (a26, .inl (cJ, 975, .inr (.inl (fun _ => (0 : Int64))))), (a35, .inl (cJ, 975, .inr (.inl (fun _ => (0 : Int64)))))] := hD
  refine va_putF (D := (dC, dI)) (ci := 2) (v := .ref a35) (ty := .array .long) (C := "SeatProofs$Proof") (T := F_Q) (N := 5) hx hb hts (iu_Q _) t_Q t_Q_ok n_Q hown hK hP hD hS 0 rfl rfl 4 (by decide) (hts _ (List.mem_cons_of_mem _ iw_111)) (fun _ h9 => h9) rfl hin rfl (by decide +kernel) rfl rfl (Nat.le_of_ble_eq_true rfl) d_Q_init_37 (fun H locs hP hD hS => ?_)
  have hP : va_P (dC, dI) vwCl [(h0, .inr (2, [.int 0, .ref a8, .ref a17, .ref a26, .ref a35])), (a8, .inl (cI, 975, .inl (fun _ => (0 : Int32)))), (a17, .inl (cI, 975, .inl (fun _ => (0 : Int32)))), (a26, .inl (cJ, 975, .inr (.inl (fun _ => (0 : Int64))))), (a35, .inl (cJ, 975, .inr (.inl (fun _ => (0 : Int64)))))] H := hP
  have hD : va_D A [(h0, .inr (2, [.int 0, .ref a8, .ref a17, .ref a26, .ref a35])), (a8, .inl (cI, 975, .inl (fun _ => (0 : Int32)))), (a17, .inl (cI, 975, .inl (fun _ => (0 : Int32)))), (a26, .inl (cJ, 975, .inr (.inl (fun _ => (0 : Int64))))), (a35, .inl (cJ, 975, .inr (.inl (fun _ => (0 : Int64)))))] := hD
  refine W.widen (k := 4) (n := 3900) (Nat.le_of_ble_eq_true rfl) (Nat.le_of_ble_eq_true rfl) ?_
  exact W.vret hx hb hr (fun t9 ht9 hW9 => ⟨⟨(a8, a17, a26, a35), rfl, trivial, by rw [ht9]; exact hP, va_K.moved hW9.alike hK, by rw [← hAe]; exact hD⟩, by rw [← hAe]; exact hS.F ht9⟩) (by rw [← hAe]; exact hS.2.2) d_Q_init_40
