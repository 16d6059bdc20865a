set_option maxHeartbeats 4000000 in
set_option maxRecDepth 100000 in
theorem c_Lg_bitCount (l : Launch) (x : Int64) : Met l y_Lg_bitCount w_Lg_bitCount ({ frames := 0, cells := 0, slots := 0, locals := 0 }) (va_Pc [Value.long x] NW) (vp_Si (fun r : Int32 => r = nI (pcn (tb x) 64))) 0 0 (fun _ => False) := by
  refine Met.ofW (cc := b_Lg_bitCount) (maxL := 2) (ret := (some .int)) (by decide) rfl ?_
  intro p e s m args below meth c s₁ B hml hv
  obtain ⟨rfl, hN⟩ := hv
  have hx := B.exec
  have hb := B.bytes
  have hr := B.returns
  have hts := atoms_spec (ws := w_Lg_bitCount) B.pre
  have hown : s.vm.findClass "java/lang/Long" = some m.cls := findClass_of_methodNamed B.named
  have hlocks := B.notSynchronized
  have hl := lv_entry ([Value.long x]) (n := 2) (Nat.le_of_ble_eq_true rfl)
  rw [lg_entry_eq]
  generalize (lg_sl ([Value.long x]) ++ List.replicate (2 - (lg_sl ([Value.long x])).length) Slot.unset).toArray = ls at hl ⊢
  have hl : lv_has ls 2 [(0, .long x)] := hl
  refine lv_lload_n hx hb d_Lg_bitCount_0 rfl (lv_at hl 0 rfl) ?_
  refine lv_lload_n hx hb d_Lg_bitCount_1 rfl (lv_at hl 0 rfl) ?_
  refine lv_iconst (v := nI 1) hx hb d_Lg_bitCount_2 (by decide) ?_
  refine lv_lushr (v := (x.toUInt64 >>> ((nI 1).toInt64.toUInt64 &&& Int64.toUInt64 63)).toInt64) hx hb d_Lg_bitCount_3 rfl ?_
  refine lv_ldc2 (v := 6148914691236517205) hx hb hown (hts _ (List.mem_cons_of_mem _ iw_241)) d_Lg_bitCount_4 ?_
  refine lv_land hx hb d_Lg_bitCount_7 ?_
  refine lv_lsub hx hb d_Lg_bitCount_8 ?_
  refine lv_topl (fun i1 e1 => ?_)
  refine lv_lstore_n (lv' := [(0, .long i1)]) hx hb d_Lg_bitCount_9 rfl hl (by decide) rfl (fun ls hl => ?_)
  refine lv_lload_n hx hb d_Lg_bitCount_10 rfl (lv_at hl 0 rfl) ?_
  refine lv_ldc2 (v := 3689348814741910323) hx hb hown (hts _ (List.mem_cons_of_mem _ iw_242)) d_Lg_bitCount_11 ?_
  refine lv_land hx hb d_Lg_bitCount_14 ?_
  refine lv_lload_n hx hb d_Lg_bitCount_15 rfl (lv_at hl 0 rfl) ?_
  refine lv_iconst (v := nI 2) hx hb d_Lg_bitCount_16 (by decide) ?_
  refine lv_lushr (v := (i1.toUInt64 >>> ((nI 2).toInt64.toUInt64 &&& Int64.toUInt64 63)).toInt64) hx hb d_Lg_bitCount_17 rfl ?_
  refine lv_ldc2 (v := 3689348814741910323) hx hb hown (hts _ (List.mem_cons_of_mem _ iw_242)) d_Lg_bitCount_18 ?_
  refine lv_land hx hb d_Lg_bitCount_21 ?_
  refine lv_ladd hx hb d_Lg_bitCount_22 ?_
  refine lv_topl (fun i2 e2 => ?_)
  refine lv_lstore_n (lv' := [(0, .long i2)]) hx hb d_Lg_bitCount_23 rfl hl (by decide) rfl (fun ls hl => ?_)
  refine lv_lload_n hx hb d_Lg_bitCount_24 rfl (lv_at hl 0 rfl) ?_
  refine lv_lload_n hx hb d_Lg_bitCount_25 rfl (lv_at hl 0 rfl) ?_
  refine lv_iconst (v := nI 4) hx hb d_Lg_bitCount_26 (by decide) ?_
  refine lv_lushr (v := (i2.toUInt64 >>> ((nI 4).toInt64.toUInt64 &&& Int64.toUInt64 63)).toInt64) hx hb d_Lg_bitCount_27 rfl ?_
  refine lv_ladd hx hb d_Lg_bitCount_28 ?_
  refine lv_ldc2 (v := 1085102592571150095) hx hb hown (hts _ (List.mem_cons_of_mem _ iw_243)) d_Lg_bitCount_29 ?_
  refine lv_land hx hb d_Lg_bitCount_32 ?_
  refine lv_topl (fun i3 e3 => ?_)
  refine lv_lstore_n (lv' := [(0, .long i3)]) hx hb d_Lg_bitCount_33 rfl hl (by decide) rfl (fun ls hl => ?_)
  refine lv_lload_n hx hb d_Lg_bitCount_34 rfl (lv_at hl 0 rfl) ?_
  refine lv_lload_n hx hb d_Lg_bitCount_35 rfl (lv_at hl 0 rfl) ?_
  refine lv_bipush (v := nI 8) hx hb d_Lg_bitCount_36 (by decide) ?_
  refine lv_lushr (v := (i3.toUInt64 >>> ((nI 8).toInt64.toUInt64 &&& Int64.toUInt64 63)).toInt64) hx hb d_Lg_bitCount_38 rfl ?_
  refine lv_ladd hx hb d_Lg_bitCount_39 ?_
  refine lv_topl (fun i4 e4 => ?_)
  refine lv_lstore_n (lv' := [(0, .long i4)]) hx hb d_Lg_bitCount_40 rfl hl (by decide) rfl (fun ls hl => ?_)
  refine lv_lload_n hx hb d_Lg_bitCount_41 rfl (lv_at hl 0 rfl) ?_
  refine lv_lload_n hx hb d_Lg_bitCount_42 rfl (lv_at hl 0 rfl) ?_
  refine lv_bipush (v := nI 16) hx hb d_Lg_bitCount_43 (by decide) ?_
  refine lv_lushr (v := (i4.toUInt64 >>> ((nI 16).toInt64.toUInt64 &&& Int64.toUInt64 63)).toInt64) hx hb d_Lg_bitCount_45 rfl ?_
  refine lv_ladd hx hb d_Lg_bitCount_46 ?_
  refine lv_topl (fun i5 e5 => ?_)
  refine lv_lstore_n (lv' := [(0, .long i5)]) hx hb d_Lg_bitCount_47 rfl hl (by decide) rfl (fun ls hl => ?_)
  refine lv_lload_n hx hb d_Lg_bitCount_48 rfl (lv_at hl 0 rfl) ?_
  refine lv_lload_n hx hb d_Lg_bitCount_49 rfl (lv_at hl 0 rfl) ?_
  refine lv_bipush (v := nI 32) hx hb d_Lg_bitCount_50 (by decide) ?_
  refine lv_lushr (v := (i5.toUInt64 >>> ((nI 32).toInt64.toUInt64 &&& Int64.toUInt64 63)).toInt64) hx hb d_Lg_bitCount_52 rfl ?_
  refine lv_ladd hx hb d_Lg_bitCount_53 ?_
  refine lv_topl (fun i6 e6 => ?_)
  refine lv_lstore_n (lv' := [(0, .long i6)]) hx hb d_Lg_bitCount_54 rfl hl (by decide) rfl (fun ls hl => ?_)
  refine lv_lload_n hx hb d_Lg_bitCount_55 rfl (lv_at hl 0 rfl) ?_
  refine lv_l2i (v := (i6).toInt32) hx hb d_Lg_bitCount_56 rfl ?_
  refine lv_bipush (v := nI 127) hx hb d_Lg_bitCount_57 (by decide) ?_
  refine lv_iand hx hb d_Lg_bitCount_59 ?_
  exact W.iret hx hb hr (fun t9 ht9 _ => ⟨_, rfl, (bc_fin e1 e2 e3 e4 e5 e6), ht9⟩) (fun _ h => by cases h) d_Lg_bitCount_60
set_option maxHeartbeats 4000000 in
set_option maxRecDepth 100000 in
theorem c_S_only (l : Launch) (k : Nat) : Met l y_S_only w_S_only ({ frames := 0, cells := 0, slots := 0, locals := 0 }) (va_Pc [Value.int (nI k)] NW) (vp_Sl (fun r : Int64 => r = bt k)) 0 0 (fun _ => False) := by
  refine Met.ofW (cc := b_S_only) (maxL := 1) (ret := (some .long)) (by decide) rfl ?_
  intro p e s m args below meth c s₁ B hml hv
  obtain ⟨rfl, hN⟩ := hv
  have hx := B.exec
  have hb := B.bytes
  have hr := B.returns
  have hts := atoms_spec (ws := w_S_only) B.pre
  have hown : s.vm.findClass "SeatProofs" = some m.cls := findClass_of_methodNamed B.named
  have hlocks := B.notSynchronized
  have hl := lv_entry ([Value.int (nI k)]) (n := 1) (Nat.le_of_ble_eq_true rfl)
  rw [lg_entry_eq]
  generalize (lg_sl ([Value.int (nI k)]) ++ List.replicate (1 - (lg_sl ([Value.int (nI k)])).length) Slot.unset).toArray = ls at hl ⊢
  have hl : lv_has ls 1 [(0, .int (nI k))] := hl
  refine lv_lconst (v := 1) hx hb d_S_only_0 (by decide) ?_
  refine lv_iload_n hx hb d_S_only_1 rfl (lv_at hl 0 rfl) ?_
  refine lv_lshl (v := 1 <<< ((nI k).toInt64 &&& 63)) hx hb d_S_only_2 rfl ?_
  refine tp_l (bt k) rfl ?_
  exact W.lret hx hb hr (fun t9 ht9 _ => ⟨_, rfl, rfl, ht9⟩) (fun _ h => by cases h) d_S_only_3
set_option maxHeartbeats 4000000 in
set_option maxRecDepth 100000 in
theorem c_S_has (l : Launch) (x : Int64) (k : Nat) (hk : k < 64) : Met l y_S_has w_S_has ({ frames := 1, cells := 0, slots := 0, locals := 20 }) (va_Pc [Value.long x, Value.int (nI k)] NW) (vp_Si (fun r : Int32 => r = bI (tb x k))) 0 0 (fun _ => False) := by
  refine Met.ofW (cc := b_S_has) (maxL := 3) (ret := (some .boolean)) (by decide) rfl ?_
  intro p e s m args below meth c s₁ B hml hv
  obtain ⟨rfl, hN⟩ := hv
  have hx := B.exec
  have hb := B.bytes
  have hr := B.returns
  have hts := atoms_spec (ws := w_S_has) B.pre
  have hown : s.vm.findClass "SeatProofs" = some m.cls := findClass_of_methodNamed B.named
  have hlocks := B.notSynchronized
  have hl := lv_entry ([Value.long x, Value.int (nI k)]) (n := 3) (Nat.le_of_ble_eq_true rfl)
  rw [lg_entry_eq]
  generalize (lg_sl ([Value.long x, Value.int (nI k)]) ++ List.replicate (3 - (lg_sl ([Value.long x, Value.int (nI k)])).length) Slot.unset).toArray = ls at hl ⊢
  have hl : lv_has ls 3 [(0, .long x), (2, .int (nI k))] := hl
  refine lv_lload_n hx hb d_S_has_0 rfl (lv_at hl 0 rfl) ?_
  refine lv_iload_n hx hb d_S_has_1 rfl (lv_at hl 1 rfl) ?_
  refine vp_callSl (va_Run.run (va_runS (As := [.int (nI k)]) (rest := [.long x]) ⟨hx, hb, hml, hown, hts⟩ (c_S_only l k) (va_cwS 1 hts (good_up (good_S iw_193 iw_156 iw_1 gg_S_only)) rfl rfl rfl (by decide +kernel) ⟨Nat.le_of_ble_eq_true rfl, Nat.le_of_ble_eq_true rfl⟩) (ps_0 [.int (nI k)] hN) rfl rfl hl.1 rfl (lv_room (Nat.le_of_ble_eq_true rfl)) d_S_has_2 ⟨Nat.le_of_ble_eq_true rfl, Nat.le_of_ble_eq_true rfl⟩)) (fun r_1 hr_1 => ?_)
  subst hr_1
  refine lv_land hx hb d_S_has_5 ?_
  refine lv_lconst (v := 0) hx hb d_S_has_6 (by decide) ?_
  refine W.lcmp hx hb d_S_has_7 ?_
  refine l0_eq (tgt := 15) hx hb d_S_has_8 (by decide) (fun c_2 => ?_) (fun c_2 => ?_)
  · refine lv_iconst (v := nI 0) hx hb d_S_has_15 (by decide) ?_
    refine tp_i (bI false) (by decide) ?_
    exact W.zret hx hb hr (bI_narrow _) (fun t9 ht9 _ => ⟨_, rfl, (by rw [(tb_has x hk).mp c_2]), ht9⟩) (fun _ h => by cases h) d_S_has_16
  · refine lv_iconst (v := nI 1) hx hb d_S_has_11 (by decide) ?_
    refine lv_goto (tgt := 16) hx hb d_S_has_12 (by decide) ?_
    refine tp_i (bI true) (by decide) ?_
    exact W.zret hx hb hr (bI_narrow _) (fun t9 ht9 _ => ⟨_, rfl, (by rw [ts_nf (fun h => c_2 ((tb_has x hk).mpr h))]), ht9⟩) (fun _ h => by cases h) d_S_has_16
set_option maxHeartbeats 4000000 in
set_option maxRecDepth 100000 in
theorem c_S_lowest (l : Launch) (x : Int64) : Met l y_S_lowest w_S_lowest ({ frames := 1, cells := 0, slots := 0, locals := 21 }) (va_Pc [Value.long x] NW) (vp_Si (fun r : Int32 => r = nI (lowN x))) 0 0 (fun _ => False) := by
  refine Met.ofW (cc := b_S_lowest) (maxL := 2) (ret := (some .int)) (by decide) rfl ?_
  intro p e s m args below meth c s₁ B hml hv
  obtain ⟨rfl, hN⟩ := hv
  have hx := B.exec
  have hb := B.bytes
  have hr := B.returns
  have hts := atoms_spec (ws := w_S_lowest) B.pre
  have hown : s.vm.findClass "SeatProofs" = some m.cls := findClass_of_methodNamed B.named
  have hlocks := B.notSynchronized
  have hl := lv_entry ([Value.long x]) (n := 2) (Nat.le_of_ble_eq_true rfl)
  rw [lg_entry_eq]
  generalize (lg_sl ([Value.long x]) ++ List.replicate (2 - (lg_sl ([Value.long x])).length) Slot.unset).toArray = ls at hl ⊢
  have hl : lv_has ls 2 [(0, .long x)] := hl
  refine lv_lload_n hx hb d_S_lowest_0 rfl (lv_at hl 0 rfl) ?_
  refine lv_lload_n hx hb d_S_lowest_1 rfl (lv_at hl 0 rfl) ?_
  refine lv_lneg hx hb d_S_lowest_2 ?_
  refine lv_land hx hb d_S_lowest_3 ?_
  refine lv_lconst (v := 1) hx hb d_S_lowest_4 (by decide) ?_
  refine lv_lsub hx hb d_S_lowest_5 ?_
  refine vp_callSi (va_Run.run (va_runS (As := [.long ((x &&& (-x)) - 1)]) (rest := []) ⟨hx, hb, hml, hown, hts⟩ (c_Lg_bitCount l ((x &&& (-x)) - 1)) (va_cwS 1 hts (good_up (good_S iw_238 iw_239 iw_6 gg_Lg_bitCount)) rfl rfl rfl (by decide +kernel) ⟨Nat.le_of_ble_eq_true rfl, Nat.le_of_ble_eq_true rfl⟩) (ps_0 [.long ((x &&& (-x)) - 1)] hN) rfl rfl hl.1 rfl (lv_room (Nat.le_of_ble_eq_true rfl)) d_S_lowest_6 ⟨Nat.le_of_ble_eq_true rfl, Nat.le_of_ble_eq_true rfl⟩)) (fun r_1 hr_1 => ?_)
  subst hr_1
  exact W.iret hx hb hr (fun t9 ht9 _ => ⟨_, rfl, rfl, ht9⟩) (fun _ h => by cases h) d_S_lowest_9
set_option maxHeartbeats 4000000 in
set_option maxRecDepth 100000 in
theorem c_S_isLiquid (l : Launch) (x : Int32) : Met l y_S_isLiquid w_S_isLiquid ({ frames := 0, cells := 0, slots := 0, locals := 0 }) (va_Pc [Value.int x] NW) (vp_Si (fun r : Int32 => r = bI (liqB x))) 0 0 (fun _ => False) := by
  refine Met.ofW (cc := b_S_isLiquid) (maxL := 1) (ret := (some .boolean)) (by decide) rfl ?_
  intro p e s m args below meth c s₁ B hml hv
  obtain ⟨rfl, hN⟩ := hv
  have hx := B.exec
  have hb := B.bytes
  have hr := B.returns
  have hts := atoms_spec (ws := w_S_isLiquid) B.pre
  have hown : s.vm.findClass "SeatProofs" = some m.cls := findClass_of_methodNamed B.named
  have hlocks := B.notSynchronized
  have hl := lv_entry ([Value.int x]) (n := 1) (Nat.le_of_ble_eq_true rfl)
  rw [lg_entry_eq]
  generalize (lg_sl ([Value.int x]) ++ List.replicate (1 - (lg_sl ([Value.int x])).length) Slot.unset).toArray = ls at hl ⊢
  have hl : lv_has ls 1 [(0, .int x)] := hl
  refine lv_iload_n hx hb d_S_isLiquid_0 rfl (lv_at hl 0 rfl) ?_
  refine lv_iconst (v := nI 1) hx hb d_S_isLiquid_1 (by decide) ?_
  refine lv_icmp_lt (tgt := 15) hx hb d_S_isLiquid_2 (by decide) (fun c_1 => ?_) (fun c_1 => ?_)
  · refine lv_iconst (v := nI 0) hx hb d_S_isLiquid_15 (by decide) ?_
    refine tp_i (bI false) (by decide) ?_
    exact W.zret hx hb hr (bI_narrow _) (fun t9 ht9 _ => ⟨_, rfl, (by simp [liqB, c_1]), ht9⟩) (fun _ h => by cases h) d_S_isLiquid_16
  · refine lv_iload_n hx hb d_S_isLiquid_5 rfl (lv_at hl 0 rfl) ?_
    refine lv_bipush (v := nI 16) hx hb d_S_isLiquid_6 (by decide) ?_
    refine lv_icmp_ge (tgt := 15) hx hb d_S_isLiquid_8 (by decide) (fun c_2 => ?_) (fun c_2 => ?_)
    · refine lv_iconst (v := nI 0) hx hb d_S_isLiquid_15 (by decide) ?_
      refine tp_i (bI false) (by decide) ?_
      exact W.zret hx hb hr (bI_narrow _) (fun t9 ht9 _ => ⟨_, rfl, (by simp [liqB, c_1, c_2]), ht9⟩) (fun _ h => by cases h) d_S_isLiquid_16
    · refine lv_iconst (v := nI 1) hx hb d_S_isLiquid_11 (by decide) ?_
      refine lv_goto (tgt := 16) hx hb d_S_isLiquid_12 (by decide) ?_
      refine tp_i (bI true) (by decide) ?_
      exact W.zret hx hb hr (bI_narrow _) (fun t9 ht9 _ => ⟨_, rfl, (by simp [liqB, c_1, c_2]), ht9⟩) (fun _ h => by cases h) d_S_isLiquid_16
set_option maxHeartbeats 4000000 in
set_option maxRecDepth 100000 in
theorem c_P_with (l : Launch) (x : Int64) (k : Nat) (b : Bool) : Met l y_P_with w_P_with ({ frames := 1, cells := 0, slots := 0, locals := 20 }) (va_Pc [Value.long x, Value.int (nI k), Value.int (bI b)] NW) (vp_Sl (fun r : Int64 => r = wth x k b)) 0 0 (fun _ => False) := by
  refine Met.ofW (cc := b_P_with) (maxL := 4) (ret := (some .long)) (by decide) rfl ?_
  intro p e s m args below meth c s₁ B hml hv
  obtain ⟨rfl, hN⟩ := hv
  have hx := B.exec
  have hb := B.bytes
  have hr := B.returns
  have hts := atoms_spec (ws := w_P_with) B.pre
  have hown : s.vm.findClass "SeatProofs$Plant" = some m.cls := findClass_of_methodNamed B.named
  have hlocks := B.notSynchronized
  have hl := lv_entry ([Value.long x, Value.int (nI k), Value.int (bI b)]) (n := 4) (Nat.le_of_ble_eq_true rfl)
  rw [lg_entry_eq]
  generalize (lg_sl ([Value.long x, Value.int (nI k), Value.int (bI b)]) ++ List.replicate (4 - (lg_sl ([Value.long x, Value.int (nI k), Value.int (bI b)])).length) Slot.unset).toArray = ls at hl ⊢
  have hl : lv_has ls 4 [(0, .long x), (2, .int (nI k)), (3, .int (bI b))] := hl
  refine lv_iload_n hx hb d_P_with_0 rfl (lv_at hl 2 rfl) ?_
  refine b0_eq (tgt := 13) hx hb d_P_with_1 (by decide) (fun c_1 => ?_) (fun c_1 => ?_)
  · refine lv_lload_n hx hb d_P_with_13 rfl (lv_at hl 0 rfl) ?_
    refine lv_iload_n hx hb d_P_with_14 rfl (lv_at hl 1 rfl) ?_
    refine vp_callSl (va_Run.run (va_runSN (As := [.int (nI k)]) (rest := [.long x]) ⟨hx, hb, hml, hown, hts⟩ (c_S_only l k) ⟨va_cnB 1 hts (good_up gg_S_only) rfl rfl rfl (hN _ in_155) (hts _ (List.mem_cons_of_mem _ iw_1)) (by decide +kernel) ⟨Nat.le_of_ble_eq_true rfl, Nat.le_of_ble_eq_true rfl⟩, hts _ (List.mem_cons_of_mem _ iw_156), trivial⟩ (ps_0 [.int (nI k)] hN) rfl rfl hl.1 rfl (lv_room (Nat.le_of_ble_eq_true rfl)) d_P_with_15 ⟨Nat.le_of_ble_eq_true rfl, Nat.le_of_ble_eq_true rfl⟩)) (fun r_2 hr_2 => ?_)
    subst hr_2
    refine lv_ldc2 (v := (-1)) hx hb hown (hts _ (List.mem_cons_of_mem _ iw_177)) d_P_with_18 ?_
    refine lv_lxor hx hb d_P_with_21 ?_
    refine lv_land hx hb d_P_with_22 ?_
    exact W.lret hx hb hr (fun t9 ht9 _ => ⟨_, rfl, (by rw [wth, if_neg (fun h => absurd (h.symm.trans c_1) (by decide))]), ht9⟩) (fun _ h => by cases h) d_P_with_23
  · refine lv_lload_n hx hb d_P_with_4 rfl (lv_at hl 0 rfl) ?_
    refine lv_iload_n hx hb d_P_with_5 rfl (lv_at hl 1 rfl) ?_
    refine vp_callSl (va_Run.run (va_runSN (As := [.int (nI k)]) (rest := [.long x]) ⟨hx, hb, hml, hown, hts⟩ (c_S_only l k) ⟨va_cnB 1 hts (good_up gg_S_only) rfl rfl rfl (hN _ in_155) (hts _ (List.mem_cons_of_mem _ iw_1)) (by decide +kernel) ⟨Nat.le_of_ble_eq_true rfl, Nat.le_of_ble_eq_true rfl⟩, hts _ (List.mem_cons_of_mem _ iw_156), trivial⟩ (ps_0 [.int (nI k)] hN) rfl rfl hl.1 rfl (lv_room (Nat.le_of_ble_eq_true rfl)) d_P_with_6 ⟨Nat.le_of_ble_eq_true rfl, Nat.le_of_ble_eq_true rfl⟩)) (fun r_3 hr_3 => ?_)
    subst hr_3
    refine lv_lor hx hb d_P_with_9 ?_
    refine lv_goto (tgt := 23) hx hb d_P_with_10 (by decide) ?_
    exact W.lret hx hb hr (fun t9 ht9 _ => ⟨_, rfl, (by rw [wth, if_pos c_1]), ht9⟩) (fun _ h => by cases h) d_P_with_23
set_option maxHeartbeats 4000000 in
set_option maxRecDepth 100000 in
theorem c_P_hasSpace (l : Launch) (dC : Nat → ClassId) (dI : Nat → Nat → Nat) (q : CA) (u : CSt) (x : Int32) : Met l y_P_hasSpace w_P_hasSpace ({ frames := 0, cells := 0, slots := 0, locals := 0 }) (sPc (dC, dI) vwCl (tC q) (wC q u) [Value.ref (ca_p q), Value.int x]) (vp_Si (fun r : Int32 => r = bI (ixB x (k_nS u)))) 0 0 (fun _ => False) := by
  refine Met.ofW (cc := b_P_hasSpace) (maxL := 2) (ret := (some .boolean)) (by decide) rfl ?_
  intro p e s m args below meth c s₁ B hml hv
  obtain ⟨rfl, hP, hK, hN⟩ := hv
  have hx := B.exec
  have hb := B.bytes
  have hr := B.returns
  have hts := atoms_spec (ws := w_P_hasSpace) B.pre
  have hown : s.vm.findClass "SeatProofs$Plant" = some m.cls := findClass_of_methodNamed B.named
  have hlocks := B.notSynchronized
  have hl := lv_entry ([Value.ref (ca_p q), Value.int x]) (n := 2) (Nat.le_of_ble_eq_true rfl)
  rw [lg_entry_eq]
  generalize (lg_sl ([Value.ref (ca_p q), Value.int x]) ++ List.replicate (2 - (lg_sl ([Value.ref (ca_p q), Value.int x])).length) Slot.unset).toArray = ls at hl ⊢
  have hl : lv_has ls 2 [(0, .ref (ca_p q)), (1, .int x)] := hl
  refine lv_iload_n hx hb d_P_hasSpace_0 rfl (lv_at hl 1 rfl) ?_
  refine lv_if_lt (tgt := 16) hx hb d_P_hasSpace_1 (by decide) (fun c_1 => ?_) (fun c_1 => ?_)
  · refine lv_iconst (v := nI 0) hx hb d_P_hasSpace_16 (by decide) ?_
    refine tp_i (bI false) (by decide) ?_
    exact W.zret hx hb hr (bI_narrow _) (fun t9 ht9 _ => ⟨_, rfl, (by simp [ixB, c_1]), ht9⟩) (fun _ h => by cases h) d_P_hasSpace_17
  · refine lv_iload_n hx hb d_P_hasSpace_4 rfl (lv_at hl 1 rfl) ?_
    refine lv_aload_n hx hb d_P_hasSpace_5 rfl (lv_at hl 0 rfl) ?_
    refine va_get (D := (dC, dI)) (ci := 0) (v := .int (nI (k_nS u))) (C := "SeatProofs$Plant") (T := F_P) (N := 12) hx hb hts (iu_P _) hown hK hP 1 rfl rfl 0 (by decide) (hts _ (List.mem_cons_of_mem _ iw_26)) (fun _ h9 => h9) rfl d_P_hasSpace_6 ?_
    refine lv_icmp_ge (tgt := 16) hx hb d_P_hasSpace_9 (by decide) (fun c_2 => ?_) (fun c_2 => ?_)
    · refine lv_iconst (v := nI 0) hx hb d_P_hasSpace_16 (by decide) ?_
      refine tp_i (bI false) (by decide) ?_
      exact W.zret hx hb hr (bI_narrow _) (fun t9 ht9 _ => ⟨_, rfl, (by simp [ixB, c_1, c_2]), ht9⟩) (fun _ h => by cases h) d_P_hasSpace_17
    · refine lv_iconst (v := nI 1) hx hb d_P_hasSpace_12 (by decide) ?_
      refine lv_goto (tgt := 17) hx hb d_P_hasSpace_13 (by decide) ?_
      refine tp_i (bI true) (by decide) ?_
      exact W.zret hx hb hr (bI_narrow _) (fun t9 ht9 _ => ⟨_, rfl, (by simp [ixB, c_1, c_2]), ht9⟩) (fun _ h => by cases h) d_P_hasSpace_17
set_option maxHeartbeats 4000000 in
set_option maxRecDepth 100000 in
theorem c_P_hasValve (l : Launch) (dC : Nat → ClassId) (dI : Nat → Nat → Nat) (q : CA) (u : CSt) (x : Int32) : Met l y_P_hasValve w_P_hasValve ({ frames := 0, cells := 0, slots := 0, locals := 0 }) (sPc (dC, dI) vwCl (tC q) (wC q u) [Value.ref (ca_p q), Value.int x]) (vp_Si (fun r : Int32 => r = bI (ixB x (k_nV u)))) 0 0 (fun _ => False) := by
  refine Met.ofW (cc := b_P_hasValve) (maxL := 2) (ret := (some .boolean)) (by decide) rfl ?_
  intro p e s m args below meth c s₁ B hml hv
  obtain ⟨rfl, hP, hK, hN⟩ := hv
  have hx := B.exec
  have hb := B.bytes
  have hr := B.returns
  have hts := atoms_spec (ws := w_P_hasValve) B.pre
  have hown : s.vm.findClass "SeatProofs$Plant" = some m.cls := findClass_of_methodNamed B.named
  have hlocks := B.notSynchronized
  have hl := lv_entry ([Value.ref (ca_p q), Value.int x]) (n := 2) (Nat.le_of_ble_eq_true rfl)
  rw [lg_entry_eq]
  generalize (lg_sl ([Value.ref (ca_p q), Value.int x]) ++ List.replicate (2 - (lg_sl ([Value.ref (ca_p q), Value.int x])).length) Slot.unset).toArray = ls at hl ⊢
  have hl : lv_has ls 2 [(0, .ref (ca_p q)), (1, .int x)] := hl
  refine lv_iload_n hx hb d_P_hasValve_0 rfl (lv_at hl 1 rfl) ?_
  refine lv_if_lt (tgt := 16) hx hb d_P_hasValve_1 (by decide) (fun c_1 => ?_) (fun c_1 => ?_)
  · refine lv_iconst (v := nI 0) hx hb d_P_hasValve_16 (by decide) ?_
    refine tp_i (bI false) (by decide) ?_
    exact W.zret hx hb hr (bI_narrow _) (fun t9 ht9 _ => ⟨_, rfl, (by simp [ixB, c_1]), ht9⟩) (fun _ h => by cases h) d_P_hasValve_17
  · refine lv_iload_n hx hb d_P_hasValve_4 rfl (lv_at hl 1 rfl) ?_
    refine lv_aload_n hx hb d_P_hasValve_5 rfl (lv_at hl 0 rfl) ?_
    refine va_get (D := (dC, dI)) (ci := 0) (v := .int (nI (k_nV u))) (C := "SeatProofs$Plant") (T := F_P) (N := 12) hx hb hts (iu_P _) hown hK hP 1 rfl rfl 1 (by decide) (hts _ (List.mem_cons_of_mem _ iw_29)) (fun _ h9 => h9) rfl d_P_hasValve_6 ?_
    refine lv_icmp_ge (tgt := 16) hx hb d_P_hasValve_9 (by decide) (fun c_2 => ?_) (fun c_2 => ?_)
    · refine lv_iconst (v := nI 0) hx hb d_P_hasValve_16 (by decide) ?_
      refine tp_i (bI false) (by decide) ?_
      exact W.zret hx hb hr (bI_narrow _) (fun t9 ht9 _ => ⟨_, rfl, (by simp [ixB, c_1, c_2]), ht9⟩) (fun _ h => by cases h) d_P_hasValve_17
    · refine lv_iconst (v := nI 1) hx hb d_P_hasValve_12 (by decide) ?_
      refine lv_goto (tgt := 17) hx hb d_P_hasValve_13 (by decide) ?_
      refine tp_i (bI true) (by decide) ?_
      exact W.zret hx hb hr (bI_narrow _) (fun t9 ht9 _ => ⟨_, rfl, (by simp [ixB, c_1, c_2]), ht9⟩) (fun _ h => by cases h) d_P_hasValve_17
set_option maxHeartbeats 4000000 in
set_option maxRecDepth 100000 in
theorem c_P_areFriends (l : Launch) (dC : Nat → ClassId) (dI : Nat → Nat → Nat) (q : CA) (u : CSt) (a b : Nat) (ha : a < 16) (hb9 : b < 16) : Met l y_P_areFriends w_P_areFriends ({ frames := 0, cells := 0, slots := 0, locals := 0 }) (sPc (dC, dI) vwCl (tC q) (wC q u) [Value.ref (ca_p q), Value.int (nI a), Value.int (nI b)]) (vp_Si (fun r : Int32 => r = bI (t32 (k_fr u a) b))) 0 0 (fun _ => False) := by
  refine Met.ofW (cc := b_P_areFriends) (maxL := 3) (ret := (some .boolean)) (by decide) rfl ?_
  intro p e s m args below meth c s₁ B hml hv
  obtain ⟨rfl, hP, hK, hN⟩ := hv
  have hx := B.exec
  have hb := B.bytes
  have hr := B.returns
  have hts := atoms_spec (ws := w_P_areFriends) B.pre
  have hown : s.vm.findClass "SeatProofs$Plant" = some m.cls := findClass_of_methodNamed B.named
  have hlocks := B.notSynchronized
  have hl := lv_entry ([Value.ref (ca_p q), Value.int (nI a), Value.int (nI b)]) (n := 3) (Nat.le_of_ble_eq_true rfl)
  rw [lg_entry_eq]
  generalize (lg_sl ([Value.ref (ca_p q), Value.int (nI a), Value.int (nI b)]) ++ List.replicate (3 - (lg_sl ([Value.ref (ca_p q), Value.int (nI a), Value.int (nI b)])).length) Slot.unset).toArray = ls at hl ⊢
  have hl : lv_has ls 3 [(0, .ref (ca_p q)), (1, .int (nI a)), (2, .int (nI b))] := hl
  refine lv_aload_n hx hb d_P_areFriends_0 rfl (lv_at hl 0 rfl) ?_
  refine va_get (D := (dC, dI)) (ci := 0) (v := .ref (ca_fr q)) (C := "SeatProofs$Plant") (T := F_P) (N := 12) hx hb hts (iu_P _) hown hK hP 1 rfl rfl 4 (by decide) (hts _ (List.mem_cons_of_mem _ iw_35)) (fun _ h9 => h9) rfl d_P_areFriends_1 ?_
  refine lv_iload_n hx hb d_P_areFriends_4 rfl (lv_at hl 1 rfl) ?_
  refine ld_i hx hb hK hP 6 0 rfl rfl (k_fr u a) (by omega) (by decide) rfl d_P_areFriends_5 ?_
  refine lv_iconst (v := nI 1) hx hb d_P_areFriends_6 (by decide) ?_
  refine lv_iload_n hx hb d_P_areFriends_7 rfl (lv_at hl 2 rfl) ?_
  refine lv_ishl hx hb d_P_areFriends_8 ?_
  refine tp_i (b32 b) rfl ?_
  refine lv_iand hx hb d_P_areFriends_9 ?_
  refine lv_if_eq (tgt := 17) hx hb d_P_areFriends_10 (by decide) (fun c_1 => ?_) (fun c_1 => ?_)
  · refine lv_iconst (v := nI 0) hx hb d_P_areFriends_17 (by decide) ?_
    refine tp_i (bI false) (by decide) ?_
    exact W.zret hx hb hr (bI_narrow _) (fun t9 ht9 _ => ⟨_, rfl, (by rw [(t32_has _ hb9).mp c_1]), ht9⟩) (fun _ h => by cases h) d_P_areFriends_18
  · refine lv_iconst (v := nI 1) hx hb d_P_areFriends_13 (by decide) ?_
    refine lv_goto (tgt := 18) hx hb d_P_areFriends_14 (by decide) ?_
    refine tp_i (bI true) (by decide) ?_
    exact W.zret hx hb hr (bI_narrow _) (fun t9 ht9 _ => ⟨_, rfl, (by rw [ts_nf (fun h => c_1 ((t32_has _ hb9).mpr h))]), ht9⟩) (fun _ h => by cases h) d_P_areFriends_18
set_option maxHeartbeats 4000000 in
set_option maxRecDepth 100000 in
theorem c_P_rowsDue (l : Launch) (dC : Nat → ClassId) (dI : Nat → Nat → Nat) (q : CA) (u : CSt) (h1 : k_nV u ≤ 64) : Met l y_P_rowsDue w_P_rowsDue ({ frames := 0, cells := 0, slots := 0, locals := 0 }) (sPc (dC, dI) vwCl (tC q) (wC q u) [Value.ref (ca_p q)]) (vp_Si (fun r : Int32 => ∃ n, n < 2000 ∧ r = nI n)) 0 0 (fun _ => False) := by
  refine Met.ofW (cc := b_P_rowsDue) (maxL := 3) (ret := (some .int)) (by decide) rfl ?_
  intro p e s m args below meth c s₁ B hml hv
  obtain ⟨rfl, hP, hK, hN⟩ := hv
  have hx := B.exec
  have hb := B.bytes
  have hr := B.returns
  have hts := atoms_spec (ws := w_P_rowsDue) B.pre
  have hown : s.vm.findClass "SeatProofs$Plant" = some m.cls := findClass_of_methodNamed B.named
  have hlocks := B.notSynchronized
  have hl := lv_entry ([Value.ref (ca_p q)]) (n := 3) (Nat.le_of_ble_eq_true rfl)
  rw [lg_entry_eq]
  generalize (lg_sl ([Value.ref (ca_p q)]) ++ List.replicate (3 - (lg_sl ([Value.ref (ca_p q)])).length) Slot.unset).toArray = ls at hl ⊢
  have hl : lv_has ls 3 [(0, .ref (ca_p q))] := hl
  refine lv_iconst (v := nI 0) hx hb d_P_rowsDue_0 (by decide) ?_
  refine lv_istore_n (lv' := [(1, .int (nI 0)), (0, .ref (ca_p q))]) hx hb d_P_rowsDue_1 rfl hl (by decide) rfl (fun ls hl => ?_)
  refine lv_iconst (v := nI 1) hx hb d_P_rowsDue_2 (by decide) ?_
  refine lv_istore_n (lv' := [(2, .int (nI 1)), (1, .int (nI 0)), (0, .ref (ca_p q))]) hx hb d_P_rowsDue_3 rfl hl (by decide) rfl (fun ls hl => ?_)
  have L4 : ∀ (n4 : Nat) (i : Nat) (n : Nat), (1 ≤ i) → (i ≤ 16) → (n + 1 ≤ i) → 16 - i < n4 → ∀ (ls : Array Slot), lv_has ls 3 [(0, .ref (ca_p q)), (1, .int (nI n)), (2, .int (nI i))] → W p l e (headSpec w_P_rowsDue ({ frames := 0, cells := 0, slots := 0, locals := 0 })).room s m [Value.ref (ca_p q)].toArray below meth c s.heap [] 0 0 (MQ below (vp_Si (fun r : Int32 => ∃ n, n < 2000 ∧ r = nI n)) [Value.ref (ca_p q)].toArray s 0 0 (fun _ => False)) (F0 m 4 ls []) := by
    intro n4
    induction n4 with
    | zero => intro i n hi4 hi4b hn4 hm; exact absurd hm (Nat.not_lt_zero _)
    | succ n4 ih4 =>
      intro i n hi4 hi4b hn4 hm4 ls hl
      refine lv_iload_n hx hb d_P_rowsDue_4 rfl (lv_at hl 2 rfl) ?_
      refine lv_bipush (v := nI 16) hx hb d_P_rowsDue_5 (by decide) ?_
      refine nv_ge (tgt := 30) hx hb d_P_rowsDue_7 (by decide) (by omega) (by omega) (fun c_1 => ?_) (fun c_1 => ?_)
      · refine lv_iconst (v := nI 1) hx hb d_P_rowsDue_30 (by decide) ?_
        refine lv_aload_n hx hb d_P_rowsDue_31 rfl (lv_at hl 0 rfl) ?_
        refine va_get (D := (dC, dI)) (ci := 0) (v := .int (nI (k_nV u))) (C := "SeatProofs$Plant") (T := F_P) (N := 12) hx hb hts (iu_P _) hown hK hP 1 rfl rfl 1 (by decide) (hts _ (List.mem_cons_of_mem _ iw_29)) (fun _ h9 => h9) rfl d_P_rowsDue_32 ?_
        refine lv_iadd hx hb d_P_rowsDue_35 ?_
        refine tp_i (nI (1 + k_nV u)) (nI_add _ _) ?_
        refine lv_iload_n hx hb d_P_rowsDue_36 rfl (lv_at hl 1 rfl) ?_
        refine lv_imul hx hb d_P_rowsDue_37 ?_
        refine tp_i (nI ((1 + k_nV u) * n)) (pk_mul _ _) ?_
        exact W.iret hx hb hr (fun t9 ht9 _ => ⟨_, rfl, ⟨_, (by have := Nat.mul_le_mul (show 1 + k_nV u ≤ 65 by omega) (show n ≤ 15 by omega); omega), rfl⟩, ht9⟩) (fun _ h => by cases h) d_P_rowsDue_38
      · refine lv_aload_n hx hb d_P_rowsDue_10 rfl (lv_at hl 0 rfl) ?_
        refine va_get (D := (dC, dI)) (ci := 0) (v := .ref (ca_src q)) (C := "SeatProofs$Plant") (T := F_P) (N := 12) hx hb hts (iu_P _) hown hK hP 1 rfl rfl 3 (by decide) (hts _ (List.mem_cons_of_mem _ iw_33)) (fun _ h9 => h9) rfl d_P_rowsDue_11 ?_
        refine lv_iload_n hx hb d_P_rowsDue_14 rfl (lv_at hl 2 rfl) ?_
        refine ld_l hx hb hK hP 5 1 rfl rfl (k_src u i) (by omega) (by decide) rfl d_P_rowsDue_15 ?_
        refine lv_lconst (v := 0) hx hb d_P_rowsDue_16 (by decide) ?_
        refine W.lcmp hx hb d_P_rowsDue_17 ?_
        refine l0_eq (tgt := 24) hx hb d_P_rowsDue_18 (by decide) (fun c_2 => ?_) (fun c_2 => ?_)
        · refine lv_iinc (v := nI (i + 1)) (lv' := [(2, .int (nI (i + 1))), (0, .ref (ca_p q)), (1, .int (nI n))]) hx hb d_P_rowsDue_24 hl (k := 2) rfl (nI_1 _) (by decide) rfl (fun ls hl => ?_)
          refine lv_goto (tgt := 4) hx hb d_P_rowsDue_27 (by decide) ?_
          exact ih4 (i + 1) n (by omega) (by omega) (by omega) (by omega) ls (lv_sub hl [1, 2, 0] rfl)
        · refine lv_iinc (v := nI (n + 1)) (lv' := [(1, .int (nI (n + 1))), (0, .ref (ca_p q)), (2, .int (nI i))]) hx hb d_P_rowsDue_21 hl (k := 1) rfl (nI_1 _) (by decide) rfl (fun ls hl => ?_)
          refine lv_iinc (v := nI (i + 1)) (lv' := [(2, .int (nI (i + 1))), (1, .int (nI (n + 1))), (0, .ref (ca_p q))]) hx hb d_P_rowsDue_24 hl (k := 2) rfl (nI_1 _) (by decide) rfl (fun ls hl => ?_)
          refine lv_goto (tgt := 4) hx hb d_P_rowsDue_27 (by decide) ?_
          exact ih4 (i + 1) (n + 1) (by omega) (by omega) (by omega) (by omega) ls (lv_sub hl [2, 1, 0] rfl)
  exact L4 _ 1 0 (by omega) (by omega) (by omega) (Nat.lt_succ_self _) ls (lv_sub hl [2, 1, 0] rfl)
set_option maxHeartbeats 4000000 in
set_option maxRecDepth 100000 in
theorem c_P_letting (l : Launch) (dC : Nat → ClassId) (dI : Nat → Nat → Nat) (q : CA) (u : CSt) (f : Nat) (hf : f < 66) : Met l y_P_letting w_P_letting ({ frames := 1, cells := 0, slots := 0, locals := 20 }) (sPc (dC, dI) vwCl (tC q) (wC q u) [Value.ref (ca_p q), Value.int (nI f)]) (vp_Sl (fun r : Int64 => r = kl u f)) 0 0 (fun _ => False) := by
  refine Met.ofW (cc := b_P_letting) (maxL := 6) (ret := (some .long)) (by decide) rfl ?_
  intro p e s m args below meth c s₁ B hml hv
  obtain ⟨rfl, hP, hK, hN⟩ := hv
  have hx := B.exec
  have hb := B.bytes
  have hr := B.returns
  have hts := atoms_spec (ws := w_P_letting) B.pre
  have hown : s.vm.findClass "SeatProofs$Plant" = some m.cls := findClass_of_methodNamed B.named
  have hlocks := B.notSynchronized
  have hl := lv_entry ([Value.ref (ca_p q), Value.int (nI f)]) (n := 6) (Nat.le_of_ble_eq_true rfl)
  rw [lg_entry_eq]
  generalize (lg_sl ([Value.ref (ca_p q), Value.int (nI f)]) ++ List.replicate (6 - (lg_sl ([Value.ref (ca_p q), Value.int (nI f)])).length) Slot.unset).toArray = ls at hl ⊢
  have hl : lv_has ls 6 [(0, .ref (ca_p q)), (1, .int (nI f))] := hl
  refine lv_iload_n hx hb d_P_letting_0 rfl (lv_at hl 1 rfl) ?_
  refine n0_ne (tgt := 8) hx hb d_P_letting_1 (by decide) (by omega) (fun c_1 => ?_) (fun c_1 => ?_)
  · refine lv_iload_n hx hb d_P_letting_8 rfl (lv_at hl 1 rfl) ?_
    refine lv_iconst (v := nI 1) hx hb d_P_letting_9 (by decide) ?_
    refine lv_isub hx hb d_P_letting_10 ?_
    refine tp_i (nI (f - 1)) (pk_sub (by omega)) ?_
    refine vp_callSl (va_Run.run (va_runSN (As := [.int (nI (f - 1))]) (rest := []) ⟨hx, hb, hml, hown, hts⟩ (c_S_only l (f - 1)) ⟨va_cnB 1 hts (good_up gg_S_only) rfl rfl rfl (hN _ in_155) (hts _ (List.mem_cons_of_mem _ iw_1)) (by decide +kernel) ⟨Nat.le_of_ble_eq_true rfl, Nat.le_of_ble_eq_true rfl⟩, hts _ (List.mem_cons_of_mem _ iw_156), trivial⟩ (ps_0 [.int (nI (f - 1))] hN) rfl rfl hl.1 rfl (lv_room (Nat.le_of_ble_eq_true rfl)) d_P_letting_11 ⟨Nat.le_of_ble_eq_true rfl, Nat.le_of_ble_eq_true rfl⟩)) (fun r_2 hr_2 => ?_)
    subst hr_2
    refine lv_lstore_n (lv' := [(2, .long (bt (f - 1))), (0, .ref (ca_p q)), (1, .int (nI f))]) hx hb d_P_letting_14 rfl hl (by decide) rfl (fun ls hl => ?_)
    refine lv_aload_n hx hb d_P_letting_15 rfl (lv_at hl 1 rfl) ?_
    refine va_get (D := (dC, dI)) (ci := 0) (v := .long (k_dbl u)) (C := "SeatProofs$Plant") (T := F_P) (N := 12) hx hb hts (iu_P _) hown hK hP 1 rfl rfl 9 (by decide) (hts _ (List.mem_cons_of_mem _ iw_45)) (fun _ h9 => h9) rfl d_P_letting_16 ?_
    refine lv_aload_n hx hb d_P_letting_19 rfl (lv_at hl 1 rfl) ?_
    refine va_get (D := (dC, dI)) (ci := 0) (v := .long (k_opn u)) (C := "SeatProofs$Plant") (T := F_P) (N := 12) hx hb hts (iu_P _) hown hK hP 1 rfl rfl 7 (by decide) (hts _ (List.mem_cons_of_mem _ iw_42)) (fun _ h9 => h9) rfl d_P_letting_20 ?_
    refine lv_ldc2 (v := (-1)) hx hb hown (hts _ (List.mem_cons_of_mem _ iw_177)) d_P_letting_23 ?_
    refine lv_lxor hx hb d_P_letting_26 ?_
    refine lv_land hx hb d_P_letting_27 ?_
    refine lv_lstore (lv' := [(4, .long ((k_dbl u) &&& ((k_opn u) ^^^ ((-1))))), (2, .long (bt (f - 1))), (0, .ref (ca_p q)), (1, .int (nI f))]) hx hb d_P_letting_28 hl (by decide) rfl (fun ls hl => ?_)
    refine lv_aload_n hx hb d_P_letting_30 rfl (lv_at hl 2 rfl) ?_
    refine va_get (D := (dC, dI)) (ci := 0) (v := .long (k_opn u)) (C := "SeatProofs$Plant") (T := F_P) (N := 12) hx hb hts (iu_P _) hown hK hP 1 rfl rfl 7 (by decide) (hts _ (List.mem_cons_of_mem _ iw_42)) (fun _ h9 => h9) rfl d_P_letting_31 ?_
    refine lv_lload_n hx hb d_P_letting_34 rfl (lv_at hl 1 rfl) ?_
    refine lv_ldc2 (v := (-1)) hx hb hown (hts _ (List.mem_cons_of_mem _ iw_177)) d_P_letting_35 ?_
    refine lv_lxor hx hb d_P_letting_38 ?_
    refine lv_land hx hb d_P_letting_39 ?_
    refine lv_lload_n hx hb d_P_letting_40 rfl (lv_at hl 1 rfl) ?_
    refine lv_aload_n hx hb d_P_letting_41 rfl (lv_at hl 2 rfl) ?_
    refine va_get (D := (dC, dI)) (ci := 0) (v := .long (k_opn u)) (C := "SeatProofs$Plant") (T := F_P) (N := 12) hx hb hts (iu_P _) hown hK hP 1 rfl rfl 7 (by decide) (hts _ (List.mem_cons_of_mem _ iw_42)) (fun _ h9 => h9) rfl d_P_letting_42 ?_
    refine lv_ldc2 (v := (-1)) hx hb hown (hts _ (List.mem_cons_of_mem _ iw_177)) d_P_letting_45 ?_
    refine lv_lxor hx hb d_P_letting_48 ?_
    refine lv_land hx hb d_P_letting_49 ?_
    refine lv_aload_n hx hb d_P_letting_50 rfl (lv_at hl 2 rfl) ?_
    refine va_get (D := (dC, dI)) (ci := 0) (v := .long (k_dbl u)) (C := "SeatProofs$Plant") (T := F_P) (N := 12) hx hb hts (iu_P _) hown hK hP 1 rfl rfl 9 (by decide) (hts _ (List.mem_cons_of_mem _ iw_45)) (fun _ h9 => h9) rfl d_P_letting_51 ?_
    refine lv_ldc2 (v := (-1)) hx hb hown (hts _ (List.mem_cons_of_mem _ iw_177)) d_P_letting_54 ?_
    refine lv_lxor hx hb d_P_letting_57 ?_
    refine lv_land hx hb d_P_letting_58 ?_
    refine lv_lor hx hb d_P_letting_59 ?_
    refine lv_aload_n hx hb d_P_letting_60 rfl (lv_at hl 2 rfl) ?_
    refine va_get (D := (dC, dI)) (ci := 0) (v := .long (k_uns u)) (C := "SeatProofs$Plant") (T := F_P) (N := 12) hx hb hts (iu_P _) hown hK hP 1 rfl rfl 8 (by decide) (hts _ (List.mem_cons_of_mem _ iw_43)) (fun _ h9 => h9) rfl d_P_letting_61 ?_
    refine lv_lload hx hb d_P_letting_64 (lv_at hl 0 rfl) ?_
    refine lv_ldc2 (v := (-1)) hx hb hown (hts _ (List.mem_cons_of_mem _ iw_177)) d_P_letting_66 ?_
    refine lv_lxor hx hb d_P_letting_69 ?_
    refine lv_land hx hb d_P_letting_70 ?_
    refine lv_lor hx hb d_P_letting_71 ?_
    exact W.lret hx hb hr (fun t9 ht9 _ => ⟨_, rfl, (by rw [kl, kfl, if_neg c_1]), ht9⟩) (fun _ h => by cases h) d_P_letting_72
  · refine lv_lconst (v := 0) hx hb d_P_letting_4 (by decide) ?_
    refine lv_goto (tgt := 14) hx hb d_P_letting_5 (by decide) ?_
    refine lv_lstore_n (lv' := [(2, .long 0), (0, .ref (ca_p q)), (1, .int (nI f))]) hx hb d_P_letting_14 rfl hl (by decide) rfl (fun ls hl => ?_)
    refine lv_aload_n hx hb d_P_letting_15 rfl (lv_at hl 1 rfl) ?_
    refine va_get (D := (dC, dI)) (ci := 0) (v := .long (k_dbl u)) (C := "SeatProofs$Plant") (T := F_P) (N := 12) hx hb hts (iu_P _) hown hK hP 1 rfl rfl 9 (by decide) (hts _ (List.mem_cons_of_mem _ iw_45)) (fun _ h9 => h9) rfl d_P_letting_16 ?_
    refine lv_aload_n hx hb d_P_letting_19 rfl (lv_at hl 1 rfl) ?_
    refine va_get (D := (dC, dI)) (ci := 0) (v := .long (k_opn u)) (C := "SeatProofs$Plant") (T := F_P) (N := 12) hx hb hts (iu_P _) hown hK hP 1 rfl rfl 7 (by decide) (hts _ (List.mem_cons_of_mem _ iw_42)) (fun _ h9 => h9) rfl d_P_letting_20 ?_
    refine lv_ldc2 (v := (-1)) hx hb hown (hts _ (List.mem_cons_of_mem _ iw_177)) d_P_letting_23 ?_
    refine lv_lxor hx hb d_P_letting_26 ?_
    refine lv_land hx hb d_P_letting_27 ?_
    refine lv_lstore (lv' := [(4, .long ((k_dbl u) &&& ((k_opn u) ^^^ ((-1))))), (2, .long 0), (0, .ref (ca_p q)), (1, .int (nI f))]) hx hb d_P_letting_28 hl (by decide) rfl (fun ls hl => ?_)
    refine lv_aload_n hx hb d_P_letting_30 rfl (lv_at hl 2 rfl) ?_
    refine va_get (D := (dC, dI)) (ci := 0) (v := .long (k_opn u)) (C := "SeatProofs$Plant") (T := F_P) (N := 12) hx hb hts (iu_P _) hown hK hP 1 rfl rfl 7 (by decide) (hts _ (List.mem_cons_of_mem _ iw_42)) (fun _ h9 => h9) rfl d_P_letting_31 ?_
    refine lv_lload_n hx hb d_P_letting_34 rfl (lv_at hl 1 rfl) ?_
    refine lv_ldc2 (v := (-1)) hx hb hown (hts _ (List.mem_cons_of_mem _ iw_177)) d_P_letting_35 ?_
    refine lv_lxor hx hb d_P_letting_38 ?_
    refine lv_land hx hb d_P_letting_39 ?_
    refine lv_lload_n hx hb d_P_letting_40 rfl (lv_at hl 1 rfl) ?_
    refine lv_aload_n hx hb d_P_letting_41 rfl (lv_at hl 2 rfl) ?_
    refine va_get (D := (dC, dI)) (ci := 0) (v := .long (k_opn u)) (C := "SeatProofs$Plant") (T := F_P) (N := 12) hx hb hts (iu_P _) hown hK hP 1 rfl rfl 7 (by decide) (hts _ (List.mem_cons_of_mem _ iw_42)) (fun _ h9 => h9) rfl d_P_letting_42 ?_
    refine lv_ldc2 (v := (-1)) hx hb hown (hts _ (List.mem_cons_of_mem _ iw_177)) d_P_letting_45 ?_
    refine lv_lxor hx hb d_P_letting_48 ?_
    refine lv_land hx hb d_P_letting_49 ?_
    refine lv_aload_n hx hb d_P_letting_50 rfl (lv_at hl 2 rfl) ?_
    refine va_get (D := (dC, dI)) (ci := 0) (v := .long (k_dbl u)) (C := "SeatProofs$Plant") (T := F_P) (N := 12) hx hb hts (iu_P _) hown hK hP 1 rfl rfl 9 (by decide) (hts _ (List.mem_cons_of_mem _ iw_45)) (fun _ h9 => h9) rfl d_P_letting_51 ?_
    refine lv_ldc2 (v := (-1)) hx hb hown (hts _ (List.mem_cons_of_mem _ iw_177)) d_P_letting_54 ?_
    refine lv_lxor hx hb d_P_letting_57 ?_
    refine lv_land hx hb d_P_letting_58 ?_
    refine lv_lor hx hb d_P_letting_59 ?_
    refine lv_aload_n hx hb d_P_letting_60 rfl (lv_at hl 2 rfl) ?_
    refine va_get (D := (dC, dI)) (ci := 0) (v := .long (k_uns u)) (C := "SeatProofs$Plant") (T := F_P) (N := 12) hx hb hts (iu_P _) hown hK hP 1 rfl rfl 8 (by decide) (hts _ (List.mem_cons_of_mem _ iw_43)) (fun _ h9 => h9) rfl d_P_letting_61 ?_
    refine lv_lload hx hb d_P_letting_64 (lv_at hl 0 rfl) ?_
    refine lv_ldc2 (v := (-1)) hx hb hown (hts _ (List.mem_cons_of_mem _ iw_177)) d_P_letting_66 ?_
    refine lv_lxor hx hb d_P_letting_69 ?_
    refine lv_land hx hb d_P_letting_70 ?_
    refine lv_lor hx hb d_P_letting_71 ?_
    exact W.lret hx hb hr (fun t9 ht9 _ => ⟨_, rfl, (by rw [kl, kfl, if_pos c_1]), ht9⟩) (fun _ h => by cases h) d_P_letting_72
set_option maxHeartbeats 4000000 in
set_option maxRecDepth 100000 in
theorem c_P_turn (l : Launch) (dC : Nat → ClassId) (dI : Nat → Nat → Nat) (q : CA) (u : CSt) (sz : Nat) (x : Nat) (b : Bool) : Met l y_P_turn w_P_turn ({ frames := 2, cells := 0, slots := 0, locals := 43 }) (qPc (dC, dI) vwCl (tC q) (wC q u) sz [Value.ref (ca_p q), Value.int (nI x), Value.int (bI b)]) (va_Qv (fun z : CSt => z = k_s_opn u (wth (k_opn u) x b)) (qB (dC, dI) vwCl (tC q) (wC q u) sz (wC q)) (va_A (wC q u) sz)) 0 0 (va_A (wC q u) sz) := by
  refine Met.ofW (cc := b_P_turn) (maxL := 3) (ret := none) (by decide) rfl ?_
  intro p e s m args below meth c s₁ B hml hv
  obtain ⟨rfl, hsz, hP, hK, hD0, hN⟩ := hv
  have hx := B.exec
  have hb := B.bytes
  have hr := B.returns
  have hts := atoms_spec (ws := w_P_turn) B.pre
  have hown : s.vm.findClass "SeatProofs$Plant" = some m.cls := findClass_of_methodNamed B.named
  have hlocks := B.notSynchronized
  subst hsz
  have hD := hD0.self (sz := s.heap.size)
  have hA : ∀ z : Nat, s.heap.size ≤ z → va_A (wC q u) s.heap.size z := fun z h => Or.inr h
  have hS : va_S (va_A (wC q u) s.heap.size) s.heap s.heap [] := va_S.rf
  have hl := lv_entry ([Value.ref (ca_p q), Value.int (nI x), Value.int (bI b)]) (n := 3) (Nat.le_of_ble_eq_true rfl)
  rw [lg_entry_eq]
  generalize (lg_sl ([Value.ref (ca_p q), Value.int (nI x), Value.int (bI b)]) ++ List.replicate (3 - (lg_sl ([Value.ref (ca_p q), Value.int (nI x), Value.int (bI b)])).length) Slot.unset).toArray = ls at hl ⊢
  have hl : lv_has ls 3 [(0, .ref (ca_p q)), (1, .int (nI x)), (2, .int (bI b))] := hl
  refine lv_aload_n hx hb d_P_turn_0 rfl (lv_at hl 0 rfl) ?_
  refine lv_aload_n hx hb d_P_turn_1 rfl (lv_at hl 0 rfl) ?_
  refine va_get (D := (dC, dI)) (ci := 0) (v := .long (k_opn u)) (C := "SeatProofs$Plant") (T := F_P) (N := 12) hx hb hts (iu_P _) hown hK hP 1 rfl rfl 7 (by decide) (hts _ (List.mem_cons_of_mem _ iw_42)) (fun _ h9 => h9) rfl d_P_turn_2 ?_
  refine lv_iload_n hx hb d_P_turn_5 rfl (lv_at hl 1 rfl) ?_
  refine lv_iload_n hx hb d_P_turn_6 rfl (lv_at hl 2 rfl) ?_
  refine vp_callSl (va_Run.run (va_runS (As := [.long (k_opn u), .int (nI x), .int (bI b)]) (rest := [.ref (ca_p q)]) ⟨hx, hb, hml, hown, hts⟩ (c_P_with l (k_opn u) x b) (va_cwS 3 hts (good_up (good_S iw_174 iw_175 iw_2 gg_P_with)) rfl rfl rfl (by decide +kernel) ⟨Nat.le_of_ble_eq_true rfl, Nat.le_of_ble_eq_true rfl⟩) (ps_0 [.long (k_opn u), .int (nI x), .int (bI b)] hN) rfl rfl hl.1 rfl (lv_room (Nat.le_of_ble_eq_true rfl)) d_P_turn_7 ⟨Nat.le_of_ble_eq_true rfl, Nat.le_of_ble_eq_true rfl⟩)) (fun r_1 hr_1 => ?_)
  subst hr_1
  refine va_put (D := (dC, dI)) (ci := 0) (v := .long (wth (k_opn u) x b)) (ty := .long) (C := "SeatProofs$Plant") (T := F_P) (N := 12) hx hb hts (iu_P _) t_P t_P_ok n_P hown hK hP hD hS 1 rfl rfl 7 (by decide) (hts _ (List.mem_cons_of_mem _ iw_42)) (fun _ h9 => h9) rfl (by decide +kernel) rfl rfl (Nat.le_of_ble_eq_true rfl) d_P_turn_10 (fun H locs hP hD hS => ?_)
  have hP : va_P (dC, dI) vwCl (wCx q (k_fu u) (k_re u) (k_nS u) (k_nV u) (wth (k_opn u) x b) (k_uns u) (k_dbl u) (k_lett u) (k_cnt u) (k_lev u) (k_src u) (k_fr u) (k_e1 u) (k_e2 u) (k_ends u) (k_fal u) (k_ways u) (k_fls u) (k_fnd u) (k_pf u) (k_pl u) (k_pw u) (k_pc u)) H := hP
  have hD : va_D (va_A (wC q u) s.heap.size) (wCx q (k_fu u) (k_re u) (k_nS u) (k_nV u) (wth (k_opn u) x b) (k_uns u) (k_dbl u) (k_lett u) (k_cnt u) (k_lev u) (k_src u) (k_fr u) (k_e1 u) (k_e2 u) (k_ends u) (k_fal u) (k_ways u) (k_fls u) (k_fnd u) (k_pf u) (k_pl u) (k_pw u) (k_pc u)) := hD
  exact W.vret hx hb hr (fun t9 ht9 hW9 => ⟨⟨(k_mk (k_fu u) (k_re u) (k_nS u) (k_nV u) (wth (k_opn u) x b) (k_uns u) (k_dbl u) (k_lett u) (k_cnt u) (k_lev u) (k_src u) (k_fr u) (k_e1 u) (k_e2 u) (k_ends u) (k_fal u) (k_ways u) (k_fls u) (k_fnd u) (k_pf u) (k_pl u) (k_pw u) (k_pc u)), rfl, rfl, by rw [ht9]; exact hP, va_K.moved hW9.alike hK, hD⟩, hS.F ht9⟩) hS.2.2 d_P_turn_13
set_option maxHeartbeats 4000000 in
set_option maxRecDepth 100000 in
theorem c_P_doubt (l : Launch) (dC : Nat → ClassId) (dI : Nat → Nat → Nat) (q : CA) (u : CSt) (sz : Nat) (x : Nat) (b : Bool) : Met l y_P_doubt w_P_doubt ({ frames := 2, cells := 0, slots := 0, locals := 43 }) (qPc (dC, dI) vwCl (tC q) (wC q u) sz [Value.ref (ca_p q), Value.int (nI x), Value.int (bI b)]) (va_Qv (fun z : CSt => z = k_s_uns u (wth (k_uns u) x b)) (qB (dC, dI) vwCl (tC q) (wC q u) sz (wC q)) (va_A (wC q u) sz)) 0 0 (va_A (wC q u) sz) := by
  refine Met.ofW (cc := b_P_doubt) (maxL := 3) (ret := none) (by decide) rfl ?_
  intro p e s m args below meth c s₁ B hml hv
  obtain ⟨rfl, hsz, hP, hK, hD0, hN⟩ := hv
  have hx := B.exec
  have hb := B.bytes
  have hr := B.returns
  have hts := atoms_spec (ws := w_P_doubt) B.pre
  have hown : s.vm.findClass "SeatProofs$Plant" = some m.cls := findClass_of_methodNamed B.named
  have hlocks := B.notSynchronized
  subst hsz
  have hD := hD0.self (sz := s.heap.size)
  have hA : ∀ z : Nat, s.heap.size ≤ z → va_A (wC q u) s.heap.size z := fun z h => Or.inr h
  have hS : va_S (va_A (wC q u) s.heap.size) s.heap s.heap [] := va_S.rf
  have hl := lv_entry ([Value.ref (ca_p q), Value.int (nI x), Value.int (bI b)]) (n := 3) (Nat.le_of_ble_eq_true rfl)
  rw [lg_entry_eq]
  generalize (lg_sl ([Value.ref (ca_p q), Value.int (nI x), Value.int (bI b)]) ++ List.replicate (3 - (lg_sl ([Value.ref (ca_p q), Value.int (nI x), Value.int (bI b)])).length) Slot.unset).toArray = ls at hl ⊢
  have hl : lv_has ls 3 [(0, .ref (ca_p q)), (1, .int (nI x)), (2, .int (bI b))] := hl
  refine lv_aload_n hx hb d_P_doubt_0 rfl (lv_at hl 0 rfl) ?_
  refine lv_aload_n hx hb d_P_doubt_1 rfl (lv_at hl 0 rfl) ?_
  refine va_get (D := (dC, dI)) (ci := 0) (v := .long (k_uns u)) (C := "SeatProofs$Plant") (T := F_P) (N := 12) hx hb hts (iu_P _) hown hK hP 1 rfl rfl 8 (by decide) (hts _ (List.mem_cons_of_mem _ iw_43)) (fun _ h9 => h9) rfl d_P_doubt_2 ?_
  refine lv_iload_n hx hb d_P_doubt_5 rfl (lv_at hl 1 rfl) ?_
  refine lv_iload_n hx hb d_P_doubt_6 rfl (lv_at hl 2 rfl) ?_
  refine vp_callSl (va_Run.run (va_runS (As := [.long (k_uns u), .int (nI x), .int (bI b)]) (rest := [.ref (ca_p q)]) ⟨hx, hb, hml, hown, hts⟩ (c_P_with l (k_uns u) x b) (va_cwS 3 hts (good_up (good_S iw_174 iw_175 iw_2 gg_P_with)) rfl rfl rfl (by decide +kernel) ⟨Nat.le_of_ble_eq_true rfl, Nat.le_of_ble_eq_true rfl⟩) (ps_0 [.long (k_uns u), .int (nI x), .int (bI b)] hN) rfl rfl hl.1 rfl (lv_room (Nat.le_of_ble_eq_true rfl)) d_P_doubt_7 ⟨Nat.le_of_ble_eq_true rfl, Nat.le_of_ble_eq_true rfl⟩)) (fun r_1 hr_1 => ?_)
  subst hr_1
  refine va_put (D := (dC, dI)) (ci := 0) (v := .long (wth (k_uns u) x b)) (ty := .long) (C := "SeatProofs$Plant") (T := F_P) (N := 12) hx hb hts (iu_P _) t_P t_P_ok n_P hown hK hP hD hS 1 rfl rfl 8 (by decide) (hts _ (List.mem_cons_of_mem _ iw_43)) (fun _ h9 => h9) rfl (by decide +kernel) rfl rfl (Nat.le_of_ble_eq_true rfl) d_P_doubt_10 (fun H locs hP hD hS => ?_)
  have hP : va_P (dC, dI) vwCl (wCx q (k_fu u) (k_re u) (k_nS u) (k_nV u) (k_opn u) (wth (k_uns u) x b) (k_dbl u) (k_lett u) (k_cnt u) (k_lev u) (k_src u) (k_fr u) (k_e1 u) (k_e2 u) (k_ends u) (k_fal u) (k_ways u) (k_fls u) (k_fnd u) (k_pf u) (k_pl u) (k_pw u) (k_pc u)) H := hP
  have hD : va_D (va_A (wC q u) s.heap.size) (wCx q (k_fu u) (k_re u) (k_nS u) (k_nV u) (k_opn u) (wth (k_uns u) x b) (k_dbl u) (k_lett u) (k_cnt u) (k_lev u) (k_src u) (k_fr u) (k_e1 u) (k_e2 u) (k_ends u) (k_fal u) (k_ways u) (k_fls u) (k_fnd u) (k_pf u) (k_pl u) (k_pw u) (k_pc u)) := hD
  exact W.vret hx hb hr (fun t9 ht9 hW9 => ⟨⟨(k_mk (k_fu u) (k_re u) (k_nS u) (k_nV u) (k_opn u) (wth (k_uns u) x b) (k_dbl u) (k_lett u) (k_cnt u) (k_lev u) (k_src u) (k_fr u) (k_e1 u) (k_e2 u) (k_ends u) (k_fal u) (k_ways u) (k_fls u) (k_fnd u) (k_pf u) (k_pl u) (k_pw u) (k_pc u)), rfl, rfl, by rw [ht9]; exact hP, va_K.moved hW9.alike hK, hD⟩, hS.F ht9⟩) hS.2.2 d_P_doubt_13
set_option maxHeartbeats 4000000 in
set_option maxRecDepth 100000 in
theorem c_P_befriend (l : Launch) (dC : Nat → ClassId) (dI : Nat → Nat → Nat) (q : CA) (u : CSt) (sz : Nat) (a b : Nat) (ha : a < 16) (hb9 : b < 16) : Met l y_P_befriend w_P_befriend ({ frames := 0, cells := 0, slots := 0, locals := 0 }) (qPc (dC, dI) vwCl (tC q) (wC q u) sz [Value.ref (ca_p q), Value.int (nI a), Value.int (nI b)]) (va_Qv (fun z : CSt => z = k_s_fr u (bfr (k_fr u) a b)) (qB (dC, dI) vwCl (tC q) (wC q u) sz (wC q)) (va_A (wC q u) sz)) 0 0 (va_A (wC q u) sz) := by
  refine Met.ofW (cc := b_P_befriend) (maxL := 3) (ret := none) (by decide) rfl ?_
  intro p e s m args below meth c s₁ B hml hv
  obtain ⟨rfl, hsz, hP, hK, hD0, hN⟩ := hv
  have hx := B.exec
  have hb := B.bytes
  have hr := B.returns
  have hts := atoms_spec (ws := w_P_befriend) B.pre
  have hown : s.vm.findClass "SeatProofs$Plant" = some m.cls := findClass_of_methodNamed B.named
  have hlocks := B.notSynchronized
  subst hsz
  have hD := hD0.self (sz := s.heap.size)
  have hA : ∀ z : Nat, s.heap.size ≤ z → va_A (wC q u) s.heap.size z := fun z h => Or.inr h
  have hS : va_S (va_A (wC q u) s.heap.size) s.heap s.heap [] := va_S.rf
  have hl := lv_entry ([Value.ref (ca_p q), Value.int (nI a), Value.int (nI b)]) (n := 3) (Nat.le_of_ble_eq_true rfl)
  rw [lg_entry_eq]
  generalize (lg_sl ([Value.ref (ca_p q), Value.int (nI a), Value.int (nI b)]) ++ List.replicate (3 - (lg_sl ([Value.ref (ca_p q), Value.int (nI a), Value.int (nI b)])).length) Slot.unset).toArray = ls at hl ⊢
  have hl : lv_has ls 3 [(0, .ref (ca_p q)), (1, .int (nI a)), (2, .int (nI b))] := hl
  refine lv_aload_n hx hb d_P_befriend_0 rfl (lv_at hl 0 rfl) ?_
  refine va_get (D := (dC, dI)) (ci := 0) (v := .ref (ca_fr q)) (C := "SeatProofs$Plant") (T := F_P) (N := 12) hx hb hts (iu_P _) hown hK hP 1 rfl rfl 4 (by decide) (hts _ (List.mem_cons_of_mem _ iw_35)) (fun _ h9 => h9) rfl d_P_befriend_1 ?_
  refine lv_iload_n hx hb d_P_befriend_4 rfl (lv_at hl 1 rfl) ?_
  refine lv_dup2_11 hx hb d_P_befriend_5 rfl rfl ?_
  refine ld_i hx hb hK hP 6 0 rfl rfl (k_fr u a) (by omega) (by decide) rfl d_P_befriend_6 ?_
  refine lv_iconst (v := nI 1) hx hb d_P_befriend_7 (by decide) ?_
  refine lv_iload_n hx hb d_P_befriend_8 rfl (lv_at hl 2 rfl) ?_
  refine lv_ishl hx hb d_P_befriend_9 ?_
  refine tp_i (b32 b) rfl ?_
  refine lv_ior hx hb d_P_befriend_10 ?_
  refine st_i hx hb hK hP hD hS 6 0 rfl rfl (va_up (k_fr u) a ((k_fr u a) ||| (b32 b))) (by omega) (by decide) (rfl) d_P_befriend_11 (fun H locs hP hD hS => ?_)
  have hP : va_P (dC, dI) vwCl (wCx q (k_fu u) (k_re u) (k_nS u) (k_nV u) (k_opn u) (k_uns u) (k_dbl u) (k_lett u) (k_cnt u) (k_lev u) (k_src u) (va_up (k_fr u) a ((k_fr u a) ||| (b32 b))) (k_e1 u) (k_e2 u) (k_ends u) (k_fal u) (k_ways u) (k_fls u) (k_fnd u) (k_pf u) (k_pl u) (k_pw u) (k_pc u)) H := hP
  have hD : va_D (va_A (wC q u) s.heap.size) (wCx q (k_fu u) (k_re u) (k_nS u) (k_nV u) (k_opn u) (k_uns u) (k_dbl u) (k_lett u) (k_cnt u) (k_lev u) (k_src u) (va_up (k_fr u) a ((k_fr u a) ||| (b32 b))) (k_e1 u) (k_e2 u) (k_ends u) (k_fal u) (k_ways u) (k_fls u) (k_fnd u) (k_pf u) (k_pl u) (k_pw u) (k_pc u)) := hD
  refine lv_aload_n hx hb d_P_befriend_12 rfl (lv_at hl 0 rfl) ?_
  refine va_get (D := (dC, dI)) (ci := 0) (v := .ref (ca_fr q)) (C := "SeatProofs$Plant") (T := F_P) (N := 12) hx hb hts (iu_P _) hown hK hP 1 rfl rfl 4 (by decide) (hts _ (List.mem_cons_of_mem _ iw_35)) (fun _ h9 => h9) rfl d_P_befriend_13 ?_
  refine lv_iload_n hx hb d_P_befriend_16 rfl (lv_at hl 2 rfl) ?_
  refine lv_dup2_11 hx hb d_P_befriend_17 rfl rfl ?_
  refine ld_i hx hb hK hP 6 0 rfl rfl ((va_up (k_fr u) a ((k_fr u a) ||| (b32 b))) b) (by omega) (by decide) rfl d_P_befriend_18 ?_
  refine lv_iconst (v := nI 1) hx hb d_P_befriend_19 (by decide) ?_
  refine lv_iload_n hx hb d_P_befriend_20 rfl (lv_at hl 1 rfl) ?_
  refine lv_ishl hx hb d_P_befriend_21 ?_
  refine tp_i (b32 a) rfl ?_
  refine lv_ior hx hb d_P_befriend_22 ?_
  refine st_i hx hb hK hP hD hS 6 0 rfl rfl (va_up (va_up (k_fr u) a ((k_fr u a) ||| (b32 b))) b (((va_up (k_fr u) a ((k_fr u a) ||| (b32 b))) b) ||| (b32 a))) (by omega) (by decide) (rfl) d_P_befriend_23 (fun H locs hP hD hS => ?_)
  have hP : va_P (dC, dI) vwCl (wCx q (k_fu u) (k_re u) (k_nS u) (k_nV u) (k_opn u) (k_uns u) (k_dbl u) (k_lett u) (k_cnt u) (k_lev u) (k_src u) (va_up (va_up (k_fr u) a ((k_fr u a) ||| (b32 b))) b (((va_up (k_fr u) a ((k_fr u a) ||| (b32 b))) b) ||| (b32 a))) (k_e1 u) (k_e2 u) (k_ends u) (k_fal u) (k_ways u) (k_fls u) (k_fnd u) (k_pf u) (k_pl u) (k_pw u) (k_pc u)) H := hP
  have hD : va_D (va_A (wC q u) s.heap.size) (wCx q (k_fu u) (k_re u) (k_nS u) (k_nV u) (k_opn u) (k_uns u) (k_dbl u) (k_lett u) (k_cnt u) (k_lev u) (k_src u) (va_up (va_up (k_fr u) a ((k_fr u a) ||| (b32 b))) b (((va_up (k_fr u) a ((k_fr u a) ||| (b32 b))) b) ||| (b32 a))) (k_e1 u) (k_e2 u) (k_ends u) (k_fal u) (k_ways u) (k_fls u) (k_fnd u) (k_pf u) (k_pl u) (k_pw u) (k_pc u)) := hD
  exact W.vret hx hb hr (fun t9 ht9 hW9 => ⟨⟨(k_mk (k_fu u) (k_re u) (k_nS u) (k_nV u) (k_opn u) (k_uns u) (k_dbl u) (k_lett u) (k_cnt u) (k_lev u) (k_src u) (va_up (va_up (k_fr u) a ((k_fr u a) ||| (b32 b))) b (((va_up (k_fr u) a ((k_fr u a) ||| (b32 b))) b) ||| (b32 a))) (k_e1 u) (k_e2 u) (k_ends u) (k_fal u) (k_ways u) (k_fls u) (k_fnd u) (k_pf u) (k_pl u) (k_pw u) (k_pc u)), rfl, rfl, by rw [ht9]; exact hP, va_K.moved hW9.alike hK, hD⟩, hS.F ht9⟩) hS.2.2 d_P_befriend_24
set_option maxHeartbeats 4000000 in
set_option maxRecDepth 100000 in
theorem c_P_addSpace (l : Launch) (dC : Nat → ClassId) (dI : Nat → Nat → Nat) (q : CA) (u : CSt) (sz : Nat) (a : Nat) (ha : a < 16) (h1 : k_nS u < 64) : Met l y_P_addSpace w_P_addSpace ({ frames := 1, cells := 0, slots := 0, locals := 20 }) (qPc (dC, dI) vwCl (tC q) (wC q u) sz [Value.ref (ca_p q), Value.int (nI a)]) (va_Qi (fun (r : Int32) (z : CSt) => r = nI (k_nS u) ∧ z = k_addS u a) (qB (dC, dI) vwCl (tC q) (wC q u) sz (wC q)) (va_A (wC q u) sz)) 0 0 (va_A (wC q u) sz) := by
  refine Met.ofW (cc := b_P_addSpace) (maxL := 3) (ret := (some .int)) (by decide) rfl ?_
  intro p e s m args below meth c s₁ B hml hv
  obtain ⟨rfl, hsz, hP, hK, hD0, hN⟩ := hv
  have hx := B.exec
  have hb := B.bytes
  have hr := B.returns
  have hts := atoms_spec (ws := w_P_addSpace) B.pre
  have hown : s.vm.findClass "SeatProofs$Plant" = some m.cls := findClass_of_methodNamed B.named
  have hlocks := B.notSynchronized
  subst hsz
  have hD := hD0.self (sz := s.heap.size)
  have hA : ∀ z : Nat, s.heap.size ≤ z → va_A (wC q u) s.heap.size z := fun z h => Or.inr h
  have hS : va_S (va_A (wC q u) s.heap.size) s.heap s.heap [] := va_S.rf
  have hl := lv_entry ([Value.ref (ca_p q), Value.int (nI a)]) (n := 3) (Nat.le_of_ble_eq_true rfl)
  rw [lg_entry_eq]
  generalize (lg_sl ([Value.ref (ca_p q), Value.int (nI a)]) ++ List.replicate (3 - (lg_sl ([Value.ref (ca_p q), Value.int (nI a)])).length) Slot.unset).toArray = ls at hl ⊢
  have hl : lv_has ls 3 [(0, .ref (ca_p q)), (1, .int (nI a))] := hl
  refine lv_aload_n hx hb d_P_addSpace_0 rfl (lv_at hl 0 rfl) ?_
  refine va_get (D := (dC, dI)) (ci := 0) (v := .int (nI (k_nS u))) (C := "SeatProofs$Plant") (T := F_P) (N := 12) hx hb hts (iu_P _) hown hK hP 1 rfl rfl 0 (by decide) (hts _ (List.mem_cons_of_mem _ iw_26)) (fun _ h9 => h9) rfl d_P_addSpace_1 ?_
  refine lv_istore_n (lv' := [(2, .int (nI (k_nS u))), (0, .ref (ca_p q)), (1, .int (nI a))]) hx hb d_P_addSpace_4 rfl hl (by decide) rfl (fun ls hl => ?_)
  refine lv_aload_n hx hb d_P_addSpace_5 rfl (lv_at hl 1 rfl) ?_
  refine va_get (D := (dC, dI)) (ci := 0) (v := .ref (ca_lev q)) (C := "SeatProofs$Plant") (T := F_P) (N := 12) hx hb hts (iu_P _) hown hK hP 1 rfl rfl 2 (by decide) (hts _ (List.mem_cons_of_mem _ iw_32)) (fun _ h9 => h9) rfl d_P_addSpace_6 ?_
  refine lv_iload_n hx hb d_P_addSpace_9 rfl (lv_at hl 0 rfl) ?_
  refine lv_lconst (v := 0) hx hb d_P_addSpace_10 (by decide) ?_
  refine st_l hx hb hK hP hD hS 4 1 rfl rfl (va_up (k_lev u) (k_nS u) 0) (by omega) (by decide) (updL_up _ _ _) d_P_addSpace_11 (fun H locs hP hD hS => ?_)
  have hP : va_P (dC, dI) vwCl (wCx q (k_fu u) (k_re u) (k_nS u) (k_nV u) (k_opn u) (k_uns u) (k_dbl u) (k_lett u) (k_cnt u) (va_up (k_lev u) (k_nS u) 0) (k_src u) (k_fr u) (k_e1 u) (k_e2 u) (k_ends u) (k_fal u) (k_ways u) (k_fls u) (k_fnd u) (k_pf u) (k_pl u) (k_pw u) (k_pc u)) H := hP
  have hD : va_D (va_A (wC q u) s.heap.size) (wCx q (k_fu u) (k_re u) (k_nS u) (k_nV u) (k_opn u) (k_uns u) (k_dbl u) (k_lett u) (k_cnt u) (va_up (k_lev u) (k_nS u) 0) (k_src u) (k_fr u) (k_e1 u) (k_e2 u) (k_ends u) (k_fal u) (k_ways u) (k_fls u) (k_fnd u) (k_pf u) (k_pl u) (k_pw u) (k_pc u)) := hD
  refine lv_aload_n hx hb d_P_addSpace_12 rfl (lv_at hl 1 rfl) ?_
  refine va_get (D := (dC, dI)) (ci := 0) (v := .ref (ca_ends q)) (C := "SeatProofs$Plant") (T := F_P) (N := 12) hx hb hts (iu_P _) hown hK hP 1 rfl rfl 10 (by decide) (hts _ (List.mem_cons_of_mem _ iw_46)) (fun _ h9 => h9) rfl d_P_addSpace_13 ?_
  refine lv_iload_n hx hb d_P_addSpace_16 rfl (lv_at hl 0 rfl) ?_
  refine lv_lconst (v := 0) hx hb d_P_addSpace_17 (by decide) ?_
  refine st_l hx hb hK hP hD hS 9 1 rfl rfl (va_up (k_ends u) (k_nS u) 0) (by omega) (by decide) (updL_up _ _ _) d_P_addSpace_18 (fun H locs hP hD hS => ?_)
  have hP : va_P (dC, dI) vwCl (wCx q (k_fu u) (k_re u) (k_nS u) (k_nV u) (k_opn u) (k_uns u) (k_dbl u) (k_lett u) (k_cnt u) (va_up (k_lev u) (k_nS u) 0) (k_src u) (k_fr u) (k_e1 u) (k_e2 u) (va_up (k_ends u) (k_nS u) 0) (k_fal u) (k_ways u) (k_fls u) (k_fnd u) (k_pf u) (k_pl u) (k_pw u) (k_pc u)) H := hP
  have hD : va_D (va_A (wC q u) s.heap.size) (wCx q (k_fu u) (k_re u) (k_nS u) (k_nV u) (k_opn u) (k_uns u) (k_dbl u) (k_lett u) (k_cnt u) (va_up (k_lev u) (k_nS u) 0) (k_src u) (k_fr u) (k_e1 u) (k_e2 u) (va_up (k_ends u) (k_nS u) 0) (k_fal u) (k_ways u) (k_fls u) (k_fnd u) (k_pf u) (k_pl u) (k_pw u) (k_pc u)) := hD
  refine lv_aload_n hx hb d_P_addSpace_19 rfl (lv_at hl 1 rfl) ?_
  refine va_get (D := (dC, dI)) (ci := 0) (v := .ref (ca_fal q)) (C := "SeatProofs$Plant") (T := F_P) (N := 12) hx hb hts (iu_P _) hown hK hP 1 rfl rfl 11 (by decide) (hts _ (List.mem_cons_of_mem _ iw_48)) (fun _ h9 => h9) rfl d_P_addSpace_20 ?_
  refine lv_iload_n hx hb d_P_addSpace_23 rfl (lv_at hl 0 rfl) ?_
  refine lv_lconst (v := 0) hx hb d_P_addSpace_24 (by decide) ?_
  refine st_l hx hb hK hP hD hS 10 1 rfl rfl (va_up (k_fal u) (k_nS u) 0) (by omega) (by decide) (updL_up _ _ _) d_P_addSpace_25 (fun H locs hP hD hS => ?_)
  have hP : va_P (dC, dI) vwCl (wCx q (k_fu u) (k_re u) (k_nS u) (k_nV u) (k_opn u) (k_uns u) (k_dbl u) (k_lett u) (k_cnt u) (va_up (k_lev u) (k_nS u) 0) (k_src u) (k_fr u) (k_e1 u) (k_e2 u) (va_up (k_ends u) (k_nS u) 0) (va_up (k_fal u) (k_nS u) 0) (k_ways u) (k_fls u) (k_fnd u) (k_pf u) (k_pl u) (k_pw u) (k_pc u)) H := hP
  have hD : va_D (va_A (wC q u) s.heap.size) (wCx q (k_fu u) (k_re u) (k_nS u) (k_nV u) (k_opn u) (k_uns u) (k_dbl u) (k_lett u) (k_cnt u) (va_up (k_lev u) (k_nS u) 0) (k_src u) (k_fr u) (k_e1 u) (k_e2 u) (va_up (k_ends u) (k_nS u) 0) (va_up (k_fal u) (k_nS u) 0) (k_ways u) (k_fls u) (k_fnd u) (k_pf u) (k_pl u) (k_pw u) (k_pc u)) := hD
  refine lv_aload_n hx hb d_P_addSpace_26 rfl (lv_at hl 1 rfl) ?_
  refine va_get (D := (dC, dI)) (ci := 0) (v := .ref (ca_src q)) (C := "SeatProofs$Plant") (T := F_P) (N := 12) hx hb hts (iu_P _) hown hK hP 1 rfl rfl 3 (by decide) (hts _ (List.mem_cons_of_mem _ iw_33)) (fun _ h9 => h9) rfl d_P_addSpace_27 ?_
  refine lv_iload_n hx hb d_P_addSpace_30 rfl (lv_at hl 2 rfl) ?_
  refine lv_dup2_11 hx hb d_P_addSpace_31 rfl rfl ?_
  refine ld_l hx hb hK hP 5 1 rfl rfl (k_src u a) (by omega) (by decide) rfl d_P_addSpace_32 ?_
  refine lv_iload_n hx hb d_P_addSpace_33 rfl (lv_at hl 0 rfl) ?_
  refine vp_callSl (va_Run.run (va_runSN (As := [.int (nI (k_nS u))]) (rest := [.long (k_src u a), .int (nI a), .ref (ca_src q)]) ⟨hx, hb, hml, hown, hts⟩ (c_S_only l (k_nS u)) ⟨va_cnB 1 hts (good_up gg_S_only) rfl rfl rfl (hN _ in_155) (hts _ (List.mem_cons_of_mem _ iw_1)) (by decide +kernel) ⟨Nat.le_of_ble_eq_true rfl, Nat.le_of_ble_eq_true rfl⟩, hts _ (List.mem_cons_of_mem _ iw_156), trivial⟩ (ps_0 [.int (nI (k_nS u))] hN) rfl rfl hl.1 rfl (lv_room (Nat.le_of_ble_eq_true rfl)) d_P_addSpace_34 ⟨Nat.le_of_ble_eq_true rfl, Nat.le_of_ble_eq_true rfl⟩)) (fun r_1 hr_1 => ?_)
  subst hr_1
  refine lv_lor hx hb d_P_addSpace_37 ?_
  refine st_l hx hb hK hP hD hS 5 1 rfl rfl (va_up (k_src u) a ((k_src u a) ||| (bt (k_nS u)))) (by omega) (by decide) (updL_up _ _ _) d_P_addSpace_38 (fun H locs hP hD hS => ?_)
  have hP : va_P (dC, dI) vwCl (wCx q (k_fu u) (k_re u) (k_nS u) (k_nV u) (k_opn u) (k_uns u) (k_dbl u) (k_lett u) (k_cnt u) (va_up (k_lev u) (k_nS u) 0) (va_up (k_src u) a ((k_src u a) ||| (bt (k_nS u)))) (k_fr u) (k_e1 u) (k_e2 u) (va_up (k_ends u) (k_nS u) 0) (va_up (k_fal u) (k_nS u) 0) (k_ways u) (k_fls u) (k_fnd u) (k_pf u) (k_pl u) (k_pw u) (k_pc u)) H := hP
  have hD : va_D (va_A (wC q u) s.heap.size) (wCx q (k_fu u) (k_re u) (k_nS u) (k_nV u) (k_opn u) (k_uns u) (k_dbl u) (k_lett u) (k_cnt u) (va_up (k_lev u) (k_nS u) 0) (va_up (k_src u) a ((k_src u a) ||| (bt (k_nS u)))) (k_fr u) (k_e1 u) (k_e2 u) (va_up (k_ends u) (k_nS u) 0) (va_up (k_fal u) (k_nS u) 0) (k_ways u) (k_fls u) (k_fnd u) (k_pf u) (k_pl u) (k_pw u) (k_pc u)) := hD
  refine lv_aload_n hx hb d_P_addSpace_39 rfl (lv_at hl 1 rfl) ?_
  refine lv_dup hx hb d_P_addSpace_40 rfl ?_
  refine va_get (D := (dC, dI)) (ci := 0) (v := .int (nI (k_nS u))) (C := "SeatProofs$Plant") (T := F_P) (N := 12) hx hb hts (iu_P _) hown hK hP 1 rfl rfl 0 (by decide) (hts _ (List.mem_cons_of_mem _ iw_26)) (fun _ h9 => h9) rfl d_P_addSpace_41 ?_
  refine lv_iconst (v := nI 1) hx hb d_P_addSpace_44 (by decide) ?_
  refine lv_iadd hx hb d_P_addSpace_45 ?_
  refine tp_i (nI (k_nS u + 1)) (nI_add _ _) ?_
  refine va_put (D := (dC, dI)) (ci := 0) (v := .int (nI (k_nS u + 1))) (ty := .int) (C := "SeatProofs$Plant") (T := F_P) (N := 12) hx hb hts (iu_P _) t_P t_P_ok n_P hown hK hP hD hS 1 rfl rfl 0 (by decide) (hts _ (List.mem_cons_of_mem _ iw_26)) (fun _ h9 => h9) rfl (by decide +kernel) rfl rfl (Nat.le_of_ble_eq_true rfl) d_P_addSpace_46 (fun H locs hP hD hS => ?_)
  have hP : va_P (dC, dI) vwCl (wCx q (k_fu u) (k_re u) (k_nS u + 1) (k_nV u) (k_opn u) (k_uns u) (k_dbl u) (k_lett u) (k_cnt u) (va_up (k_lev u) (k_nS u) 0) (va_up (k_src u) a ((k_src u a) ||| (bt (k_nS u)))) (k_fr u) (k_e1 u) (k_e2 u) (va_up (k_ends u) (k_nS u) 0) (va_up (k_fal u) (k_nS u) 0) (k_ways u) (k_fls u) (k_fnd u) (k_pf u) (k_pl u) (k_pw u) (k_pc u)) H := hP
  have hD : va_D (va_A (wC q u) s.heap.size) (wCx q (k_fu u) (k_re u) (k_nS u + 1) (k_nV u) (k_opn u) (k_uns u) (k_dbl u) (k_lett u) (k_cnt u) (va_up (k_lev u) (k_nS u) 0) (va_up (k_src u) a ((k_src u a) ||| (bt (k_nS u)))) (k_fr u) (k_e1 u) (k_e2 u) (va_up (k_ends u) (k_nS u) 0) (va_up (k_fal u) (k_nS u) 0) (k_ways u) (k_fls u) (k_fnd u) (k_pf u) (k_pl u) (k_pw u) (k_pc u)) := hD
  refine lv_iload_n hx hb d_P_addSpace_49 rfl (lv_at hl 0 rfl) ?_
  exact W.iret hx hb hr (fun t9 ht9 hW9 => ⟨⟨_, (k_mk (k_fu u) (k_re u) (k_nS u + 1) (k_nV u) (k_opn u) (k_uns u) (k_dbl u) (k_lett u) (k_cnt u) (va_up (k_lev u) (k_nS u) 0) (va_up (k_src u) a ((k_src u a) ||| (bt (k_nS u)))) (k_fr u) (k_e1 u) (k_e2 u) (va_up (k_ends u) (k_nS u) 0) (va_up (k_fal u) (k_nS u) 0) (k_ways u) (k_fls u) (k_fnd u) (k_pf u) (k_pl u) (k_pw u) (k_pc u)), rfl, ⟨rfl, rfl⟩, by rw [ht9]; exact hP, va_K.moved hW9.alike hK, hD⟩, hS.F ht9⟩) hS.2.2 d_P_addSpace_50
set_option maxHeartbeats 4000000 in
set_option maxRecDepth 100000 in
theorem c_P_measure (l : Launch) (dC : Nat → ClassId) (dI : Nat → Nat → Nat) (q : CA) (u : CSt) (sz : Nat) (x : Nat) (hx9 : x < 64) (h1 : k_e1 u x < 64) (h2 : k_e2 u x < 64) : Met l y_P_measure w_P_measure ({ frames := 2, cells := 0, slots := 0, locals := 43 }) (qPc (dC, dI) vwCl (tC q) (wC q u) sz [Value.ref (ca_p q), Value.int (nI x)]) (va_Qv (fun z : CSt => z = k_s_fal u (kms u x)) (qB (dC, dI) vwCl (tC q) (wC q u) sz (wC q)) (va_A (wC q u) sz)) 0 0 (va_A (wC q u) sz) := by
  refine Met.ofW (cc := b_P_measure) (maxL := 4) (ret := none) (by decide) rfl ?_
  intro p e s m args below meth c s₁ B hml hv
  obtain ⟨rfl, hsz, hP, hK, hD0, hN⟩ := hv
  have hx := B.exec
  have hb := B.bytes
  have hr := B.returns
  have hts := atoms_spec (ws := w_P_measure) B.pre
  have hown : s.vm.findClass "SeatProofs$Plant" = some m.cls := findClass_of_methodNamed B.named
  have hlocks := B.notSynchronized
  subst hsz
  have hD := hD0.self (sz := s.heap.size)
  have hA : ∀ z : Nat, s.heap.size ≤ z → va_A (wC q u) s.heap.size z := fun z h => Or.inr h
  have hS : va_S (va_A (wC q u) s.heap.size) s.heap s.heap [] := va_S.rf
  have hl := lv_entry ([Value.ref (ca_p q), Value.int (nI x)]) (n := 4) (Nat.le_of_ble_eq_true rfl)
  rw [lg_entry_eq]
  generalize (lg_sl ([Value.ref (ca_p q), Value.int (nI x)]) ++ List.replicate (4 - (lg_sl ([Value.ref (ca_p q), Value.int (nI x)])).length) Slot.unset).toArray = ls at hl ⊢
  have hl : lv_has ls 4 [(0, .ref (ca_p q)), (1, .int (nI x))] := hl
  refine lv_aload_n hx hb d_P_measure_0 rfl (lv_at hl 0 rfl) ?_
  refine va_get (D := (dC, dI)) (ci := 0) (v := .ref (ca_e1 q)) (C := "SeatProofs$Plant") (T := F_P) (N := 12) hx hb hts (iu_P _) hown hK hP 1 rfl rfl 5 (by decide) (hts _ (List.mem_cons_of_mem _ iw_36)) (fun _ h9 => h9) rfl d_P_measure_1 ?_
  refine lv_iload_n hx hb d_P_measure_4 rfl (lv_at hl 1 rfl) ?_
  refine ld_i hx hb hK hP 7 0 rfl rfl (nI (k_e1 u x)) (by omega) (by decide) rfl d_P_measure_5 ?_
  refine lv_istore_n (lv' := [(2, .int (nI (k_e1 u x))), (0, .ref (ca_p q)), (1, .int (nI x))]) hx hb d_P_measure_6 rfl hl (by decide) rfl (fun ls hl => ?_)
  refine lv_aload_n hx hb d_P_measure_7 rfl (lv_at hl 1 rfl) ?_
  refine va_get (D := (dC, dI)) (ci := 0) (v := .ref (ca_e2 q)) (C := "SeatProofs$Plant") (T := F_P) (N := 12) hx hb hts (iu_P _) hown hK hP 1 rfl rfl 6 (by decide) (hts _ (List.mem_cons_of_mem _ iw_39)) (fun _ h9 => h9) rfl d_P_measure_8 ?_
  refine lv_iload_n hx hb d_P_measure_11 rfl (lv_at hl 2 rfl) ?_
  refine ld_i hx hb hK hP 8 0 rfl rfl (nI (k_e2 u x)) (by omega) (by decide) rfl d_P_measure_12 ?_
  refine lv_istore_n (lv' := [(3, .int (nI (k_e2 u x))), (2, .int (nI (k_e1 u x))), (0, .ref (ca_p q)), (1, .int (nI x))]) hx hb d_P_measure_13 rfl hl (by decide) rfl (fun ls hl => ?_)
  have L47 : ∀ (b : Bool), (b = decide (k_lev u (k_e2 u x) ≤ k_lev u (k_e1 u x))) → ∀ (H : Heap) (locs : List Loc) (ls : Array Slot), va_P (dC, dI) vwCl (wC q u) H → va_D (va_A (wC q u) s.heap.size) (wC q u) → va_S (va_A (wC q u) s.heap.size) s.heap H locs → lv_has ls 4 [(0, .ref (ca_p q)), (1, .int (nI x)), (2, .int (nI (k_e1 u x))), (3, .int (nI (k_e2 u x)))] → W p l e (headSpec w_P_measure ({ frames := 2, cells := 0, slots := 0, locals := 43 })).room s m [Value.ref (ca_p q), Value.int (nI x)].toArray below meth c H locs 0 0 (MQ below (va_Qv (fun z : CSt => z = k_s_fal u (kms u x)) (qB (dC, dI) vwCl (tC q) (wC q u) s.heap.size (wC q)) (va_A (wC q u) s.heap.size)) [Value.ref (ca_p q), Value.int (nI x)].toArray s 0 0 (va_A (wC q u) s.heap.size)) (F0 m 47 ls [.int (bI b), .int (nI x), .long (k_fal u (k_e1 u x)), .int (nI (k_e1 u x)), .ref (ca_fal q)]) := by
    intro b hb47 H locs ls hP hD hS hl
    refine vp_callSl (va_Run.run (va_runS (As := [.long (k_fal u (k_e1 u x)), .int (nI x), .int (bI b)]) (rest := [.int (nI (k_e1 u x)), .ref (ca_fal q)]) ⟨hx, hb, hml, hown, hts⟩ (c_P_with l (k_fal u (k_e1 u x)) x b) (va_cwS 3 hts (good_up (good_S iw_174 iw_175 iw_2 gg_P_with)) rfl rfl rfl (by decide +kernel) ⟨Nat.le_of_ble_eq_true rfl, Nat.le_of_ble_eq_true rfl⟩) (ps_0 [.long (k_fal u (k_e1 u x)), .int (nI x), .int (bI b)] hN) rfl rfl hl.1 rfl (lv_room (Nat.le_of_ble_eq_true rfl)) d_P_measure_47 ⟨Nat.le_of_ble_eq_true rfl, Nat.le_of_ble_eq_true rfl⟩)) (fun r_1 hr_1 => ?_)
    subst hr_1
    refine st_l hx hb hK hP hD hS 10 1 rfl rfl (va_up (k_fal u) (k_e1 u x) (wth (k_fal u (k_e1 u x)) x b)) (by omega) (by decide) (updL_up _ _ _) d_P_measure_50 (fun H locs hP hD hS => ?_)
    have hP : va_P (dC, dI) vwCl (wCx q (k_fu u) (k_re u) (k_nS u) (k_nV u) (k_opn u) (k_uns u) (k_dbl u) (k_lett u) (k_cnt u) (k_lev u) (k_src u) (k_fr u) (k_e1 u) (k_e2 u) (k_ends u) (va_up (k_fal u) (k_e1 u x) (wth (k_fal u (k_e1 u x)) x b)) (k_ways u) (k_fls u) (k_fnd u) (k_pf u) (k_pl u) (k_pw u) (k_pc u)) H := hP
    have hD : va_D (va_A (wC q u) s.heap.size) (wCx q (k_fu u) (k_re u) (k_nS u) (k_nV u) (k_opn u) (k_uns u) (k_dbl u) (k_lett u) (k_cnt u) (k_lev u) (k_src u) (k_fr u) (k_e1 u) (k_e2 u) (k_ends u) (va_up (k_fal u) (k_e1 u x) (wth (k_fal u (k_e1 u x)) x b)) (k_ways u) (k_fls u) (k_fnd u) (k_pf u) (k_pl u) (k_pw u) (k_pc u)) := hD
    have L84 : ∀ (b2 : Bool), (b2 = decide (k_lev u (k_e1 u x) ≤ k_lev u (k_e2 u x))) → ∀ (H : Heap) (locs : List Loc) (ls : Array Slot), va_P (dC, dI) vwCl (wCx q (k_fu u) (k_re u) (k_nS u) (k_nV u) (k_opn u) (k_uns u) (k_dbl u) (k_lett u) (k_cnt u) (k_lev u) (k_src u) (k_fr u) (k_e1 u) (k_e2 u) (k_ends u) (va_up (k_fal u) (k_e1 u x) (wth (k_fal u (k_e1 u x)) x b)) (k_ways u) (k_fls u) (k_fnd u) (k_pf u) (k_pl u) (k_pw u) (k_pc u)) H → va_D (va_A (wC q u) s.heap.size) (wCx q (k_fu u) (k_re u) (k_nS u) (k_nV u) (k_opn u) (k_uns u) (k_dbl u) (k_lett u) (k_cnt u) (k_lev u) (k_src u) (k_fr u) (k_e1 u) (k_e2 u) (k_ends u) (va_up (k_fal u) (k_e1 u x) (wth (k_fal u (k_e1 u x)) x b)) (k_ways u) (k_fls u) (k_fnd u) (k_pf u) (k_pl u) (k_pw u) (k_pc u)) → va_S (va_A (wC q u) s.heap.size) s.heap H locs → lv_has ls 4 [(0, .ref (ca_p q))] → W p l e (headSpec w_P_measure ({ frames := 2, cells := 0, slots := 0, locals := 43 })).room s m [Value.ref (ca_p q), Value.int (nI x)].toArray below meth c H locs 0 0 (MQ below (va_Qv (fun z : CSt => z = k_s_fal u (kms u x)) (qB (dC, dI) vwCl (tC q) (wC q u) s.heap.size (wC q)) (va_A (wC q u) s.heap.size)) [Value.ref (ca_p q), Value.int (nI x)].toArray s 0 0 (va_A (wC q u) s.heap.size)) (F0 m 84 ls [.int (bI b2), .int (nI x), .long (va_up (k_fal u) (k_e1 u x) (wth (k_fal u (k_e1 u x)) x b) (k_e2 u x)), .int (nI (k_e2 u x)), .ref (ca_fal q)]) := by
      intro b2 hb84 H locs ls hP hD hS hl
      refine vp_callSl (va_Run.run (va_runS (As := [.long (va_up (k_fal u) (k_e1 u x) (wth (k_fal u (k_e1 u x)) x b) (k_e2 u x)), .int (nI x), .int (bI b2)]) (rest := [.int (nI (k_e2 u x)), .ref (ca_fal q)]) ⟨hx, hb, hml, hown, hts⟩ (c_P_with l (va_up (k_fal u) (k_e1 u x) (wth (k_fal u (k_e1 u x)) x b) (k_e2 u x)) x b2) (va_cwS 3 hts (good_up (good_S iw_174 iw_175 iw_2 gg_P_with)) rfl rfl rfl (by decide +kernel) ⟨Nat.le_of_ble_eq_true rfl, Nat.le_of_ble_eq_true rfl⟩) (ps_0 [.long (va_up (k_fal u) (k_e1 u x) (wth (k_fal u (k_e1 u x)) x b) (k_e2 u x)), .int (nI x), .int (bI b2)] hN) rfl rfl hl.1 rfl (lv_room (Nat.le_of_ble_eq_true rfl)) d_P_measure_84 ⟨Nat.le_of_ble_eq_true rfl, Nat.le_of_ble_eq_true rfl⟩)) (fun r_2 hr_2 => ?_)
      subst hr_2
      refine st_l hx hb hK hP hD hS 10 1 rfl rfl (va_up (va_up (k_fal u) (k_e1 u x) (wth (k_fal u (k_e1 u x)) x b)) (k_e2 u x) (wth (va_up (k_fal u) (k_e1 u x) (wth (k_fal u (k_e1 u x)) x b) (k_e2 u x)) x b2)) (by omega) (by decide) (updL_up _ _ _) d_P_measure_87 (fun H locs hP hD hS => ?_)
      have hP : va_P (dC, dI) vwCl (wCx q (k_fu u) (k_re u) (k_nS u) (k_nV u) (k_opn u) (k_uns u) (k_dbl u) (k_lett u) (k_cnt u) (k_lev u) (k_src u) (k_fr u) (k_e1 u) (k_e2 u) (k_ends u) (va_up (va_up (k_fal u) (k_e1 u x) (wth (k_fal u (k_e1 u x)) x b)) (k_e2 u x) (wth (va_up (k_fal u) (k_e1 u x) (wth (k_fal u (k_e1 u x)) x b) (k_e2 u x)) x b2)) (k_ways u) (k_fls u) (k_fnd u) (k_pf u) (k_pl u) (k_pw u) (k_pc u)) H := hP
      have hD : va_D (va_A (wC q u) s.heap.size) (wCx q (k_fu u) (k_re u) (k_nS u) (k_nV u) (k_opn u) (k_uns u) (k_dbl u) (k_lett u) (k_cnt u) (k_lev u) (k_src u) (k_fr u) (k_e1 u) (k_e2 u) (k_ends u) (va_up (va_up (k_fal u) (k_e1 u x) (wth (k_fal u (k_e1 u x)) x b)) (k_e2 u x) (wth (va_up (k_fal u) (k_e1 u x) (wth (k_fal u (k_e1 u x)) x b) (k_e2 u x)) x b2)) (k_ways u) (k_fls u) (k_fnd u) (k_pf u) (k_pl u) (k_pw u) (k_pc u)) := hD
      exact W.vret hx hb hr (fun t9 ht9 hW9 => ⟨⟨(k_mk (k_fu u) (k_re u) (k_nS u) (k_nV u) (k_opn u) (k_uns u) (k_dbl u) (k_lett u) (k_cnt u) (k_lev u) (k_src u) (k_fr u) (k_e1 u) (k_e2 u) (k_ends u) (va_up (va_up (k_fal u) (k_e1 u x) (wth (k_fal u (k_e1 u x)) x b)) (k_e2 u x) (wth (va_up (k_fal u) (k_e1 u x) (wth (k_fal u (k_e1 u x)) x b) (k_e2 u x)) x b2)) (k_ways u) (k_fls u) (k_fnd u) (k_pf u) (k_pl u) (k_pw u) (k_pc u)), rfl, (by subst hb47; subst hb84; rfl), by rw [ht9]; exact hP, va_K.moved hW9.alike hK, hD⟩, hS.F ht9⟩) hS.2.2 d_P_measure_88
    refine lv_aload_n hx hb d_P_measure_51 rfl (lv_at hl 0 rfl) ?_
    refine va_get (D := (dC, dI)) (ci := 0) (v := .ref (ca_fal q)) (C := "SeatProofs$Plant") (T := F_P) (N := 12) hx hb hts (iu_P _) hown hK hP 1 rfl rfl 11 (by decide) (hts _ (List.mem_cons_of_mem _ iw_48)) (fun _ h9 => h9) rfl d_P_measure_52 ?_
    refine lv_iload_n hx hb d_P_measure_55 rfl (lv_at hl 3 rfl) ?_
    refine lv_aload_n hx hb d_P_measure_56 rfl (lv_at hl 0 rfl) ?_
    refine va_get (D := (dC, dI)) (ci := 0) (v := .ref (ca_fal q)) (C := "SeatProofs$Plant") (T := F_P) (N := 12) hx hb hts (iu_P _) hown hK hP 1 rfl rfl 11 (by decide) (hts _ (List.mem_cons_of_mem _ iw_48)) (fun _ h9 => h9) rfl d_P_measure_57 ?_
    refine lv_iload_n hx hb d_P_measure_60 rfl (lv_at hl 3 rfl) ?_
    refine ld_l hx hb hK hP 10 1 rfl rfl ((va_up (k_fal u) (k_e1 u x) (wth (k_fal u (k_e1 u x)) x b)) (k_e2 u x)) (by omega) (by decide) rfl d_P_measure_61 ?_
    refine lv_iload_n hx hb d_P_measure_62 rfl (lv_at hl 1 rfl) ?_
    refine lv_aload_n hx hb d_P_measure_63 rfl (lv_at hl 0 rfl) ?_
    refine va_get (D := (dC, dI)) (ci := 0) (v := .ref (ca_lev q)) (C := "SeatProofs$Plant") (T := F_P) (N := 12) hx hb hts (iu_P _) hown hK hP 1 rfl rfl 2 (by decide) (hts _ (List.mem_cons_of_mem _ iw_32)) (fun _ h9 => h9) rfl d_P_measure_64 ?_
    refine lv_iload_n hx hb d_P_measure_67 rfl (lv_at hl 2 rfl) ?_
    refine ld_l hx hb hK hP 4 1 rfl rfl (k_lev u (k_e1 u x)) (by omega) (by decide) rfl d_P_measure_68 ?_
    refine lv_aload_n hx hb d_P_measure_69 rfl (lv_at hl 0 rfl) ?_
    refine va_get (D := (dC, dI)) (ci := 0) (v := .ref (ca_lev q)) (C := "SeatProofs$Plant") (T := F_P) (N := 12) hx hb hts (iu_P _) hown hK hP 1 rfl rfl 2 (by decide) (hts _ (List.mem_cons_of_mem _ iw_32)) (fun _ h9 => h9) rfl d_P_measure_70 ?_
    refine lv_iload_n hx hb d_P_measure_73 rfl (lv_at hl 3 rfl) ?_
    refine ld_l hx hb hK hP 4 1 rfl rfl (k_lev u (k_e2 u x)) (by omega) (by decide) rfl d_P_measure_74 ?_
    refine W.lcmp hx hb d_P_measure_75 ?_
    refine l0_gt (tgt := 83) hx hb d_P_measure_76 (by decide) (fun c_3 => ?_) (fun c_3 => ?_)
    · refine lv_iconst (v := nI 0) hx hb d_P_measure_83 (by decide) ?_
      refine tp_i (bI false) (by decide) ?_
      exact L84 false ((decide_eq_false c_3).symm) _ _ ls hP hD hS (lv_sub hl [0] rfl)
    · refine lv_iconst (v := nI 1) hx hb d_P_measure_79 (by decide) ?_
      refine lv_goto (tgt := 84) hx hb d_P_measure_80 (by decide) ?_
      refine tp_i (bI true) (by decide) ?_
      exact L84 true ((decide_eq_true c_3).symm) _ _ ls hP hD hS (lv_sub hl [0] rfl)
  refine lv_aload_n hx hb d_P_measure_14 rfl (lv_at hl 2 rfl) ?_
  refine va_get (D := (dC, dI)) (ci := 0) (v := .ref (ca_fal q)) (C := "SeatProofs$Plant") (T := F_P) (N := 12) hx hb hts (iu_P _) hown hK hP 1 rfl rfl 11 (by decide) (hts _ (List.mem_cons_of_mem _ iw_48)) (fun _ h9 => h9) rfl d_P_measure_15 ?_
  refine lv_iload_n hx hb d_P_measure_18 rfl (lv_at hl 1 rfl) ?_
  refine lv_aload_n hx hb d_P_measure_19 rfl (lv_at hl 2 rfl) ?_
  refine va_get (D := (dC, dI)) (ci := 0) (v := .ref (ca_fal q)) (C := "SeatProofs$Plant") (T := F_P) (N := 12) hx hb hts (iu_P _) hown hK hP 1 rfl rfl 11 (by decide) (hts _ (List.mem_cons_of_mem _ iw_48)) (fun _ h9 => h9) rfl d_P_measure_20 ?_
  refine lv_iload_n hx hb d_P_measure_23 rfl (lv_at hl 1 rfl) ?_
  refine ld_l hx hb hK hP 10 1 rfl rfl (k_fal u (k_e1 u x)) (by omega) (by decide) rfl d_P_measure_24 ?_
  refine lv_iload_n hx hb d_P_measure_25 rfl (lv_at hl 3 rfl) ?_
  refine lv_aload_n hx hb d_P_measure_26 rfl (lv_at hl 2 rfl) ?_
  refine va_get (D := (dC, dI)) (ci := 0) (v := .ref (ca_lev q)) (C := "SeatProofs$Plant") (T := F_P) (N := 12) hx hb hts (iu_P _) hown hK hP 1 rfl rfl 2 (by decide) (hts _ (List.mem_cons_of_mem _ iw_32)) (fun _ h9 => h9) rfl d_P_measure_27 ?_
  refine lv_iload_n hx hb d_P_measure_30 rfl (lv_at hl 0 rfl) ?_
  refine ld_l hx hb hK hP 4 1 rfl rfl (k_lev u (k_e2 u x)) (by omega) (by decide) rfl d_P_measure_31 ?_
  refine lv_aload_n hx hb d_P_measure_32 rfl (lv_at hl 2 rfl) ?_
  refine va_get (D := (dC, dI)) (ci := 0) (v := .ref (ca_lev q)) (C := "SeatProofs$Plant") (T := F_P) (N := 12) hx hb hts (iu_P _) hown hK hP 1 rfl rfl 2 (by decide) (hts _ (List.mem_cons_of_mem _ iw_32)) (fun _ h9 => h9) rfl d_P_measure_33 ?_
  refine lv_iload_n hx hb d_P_measure_36 rfl (lv_at hl 1 rfl) ?_
  refine ld_l hx hb hK hP 4 1 rfl rfl (k_lev u (k_e1 u x)) (by omega) (by decide) rfl d_P_measure_37 ?_
  refine W.lcmp hx hb d_P_measure_38 ?_
  refine l0_gt (tgt := 46) hx hb d_P_measure_39 (by decide) (fun c_4 => ?_) (fun c_4 => ?_)
  · refine lv_iconst (v := nI 0) hx hb d_P_measure_46 (by decide) ?_
    refine tp_i (bI false) (by decide) ?_
    exact L47 false ((decide_eq_false c_4).symm) _ _ ls hP hD hS (lv_sub hl [2, 3, 1, 0] rfl)
  · refine lv_iconst (v := nI 1) hx hb d_P_measure_42 (by decide) ?_
    refine lv_goto (tgt := 47) hx hb d_P_measure_43 (by decide) ?_
    refine tp_i (bI true) (by decide) ?_
    exact L47 true ((decide_eq_true c_4).symm) _ _ ls hP hD hS (lv_sub hl [2, 3, 1, 0] rfl)
set_option maxHeartbeats 4000000 in
set_option maxRecDepth 100000 in
theorem c_P_empty (l : Launch) (dC : Nat → ClassId) (dI : Nat → Nat → Nat) (q : CA) (u : CSt) (sz : Nat)  : Met l y_P_empty w_P_empty ({ frames := 0, cells := 0, slots := 0, locals := 0 }) (qPc (dC, dI) vwCl (tC q) (wC q u) sz [Value.ref (ca_p q)]) (va_Qv (fun z : CSt => ∃ g h, (∀ t, t < 16 → g t = 0) ∧ (∀ t, t < 16 → h t = nI 0) ∧ z = k_s_fr (k_s_src (k_s_dbl (k_s_uns (k_s_opn (k_s_nV (k_s_nS u 0) 0) 0) 0) 0) g) h) (qB (dC, dI) vwCl (tC q) (wC q u) sz (wC q)) (va_A (wC q u) sz)) 0 0 (va_A (wC q u) sz) := by
  refine Met.ofW (cc := b_P_empty) (maxL := 2) (ret := none) (by decide) rfl ?_
  intro p e s m args below meth c s₁ B hml hv
  obtain ⟨rfl, hsz, hP, hK, hD0, hN⟩ := hv
  have hx := B.exec
  have hb := B.bytes
  have hr := B.returns
  have hts := atoms_spec (ws := w_P_empty) B.pre
  have hown : s.vm.findClass "SeatProofs$Plant" = some m.cls := findClass_of_methodNamed B.named
  have hlocks := B.notSynchronized
  subst hsz
  have hD := hD0.self (sz := s.heap.size)
  have hA : ∀ z : Nat, s.heap.size ≤ z → va_A (wC q u) s.heap.size z := fun z h => Or.inr h
  have hS : va_S (va_A (wC q u) s.heap.size) s.heap s.heap [] := va_S.rf
  have hl := lv_entry ([Value.ref (ca_p q)]) (n := 2) (Nat.le_of_ble_eq_true rfl)
  rw [lg_entry_eq]
  generalize (lg_sl ([Value.ref (ca_p q)]) ++ List.replicate (2 - (lg_sl ([Value.ref (ca_p q)])).length) Slot.unset).toArray = ls at hl ⊢
  have hl : lv_has ls 2 [(0, .ref (ca_p q))] := hl
  refine lv_aload_n hx hb d_P_empty_0 rfl (lv_at hl 0 rfl) ?_
  refine lv_iconst (v := nI 0) hx hb d_P_empty_1 (by decide) ?_
  refine va_put (D := (dC, dI)) (ci := 0) (v := .int (nI 0)) (ty := .int) (C := "SeatProofs$Plant") (T := F_P) (N := 12) hx hb hts (iu_P _) t_P t_P_ok n_P hown hK hP hD hS 1 rfl rfl 0 (by decide) (hts _ (List.mem_cons_of_mem _ iw_26)) (fun _ h9 => h9) rfl (by decide +kernel) rfl rfl (Nat.le_of_ble_eq_true rfl) d_P_empty_2 (fun H locs hP hD hS => ?_)
  have hP : va_P (dC, dI) vwCl (wCx q (k_fu u) (k_re u) 0 (k_nV u) (k_opn u) (k_uns u) (k_dbl u) (k_lett u) (k_cnt u) (k_lev u) (k_src u) (k_fr u) (k_e1 u) (k_e2 u) (k_ends u) (k_fal u) (k_ways u) (k_fls u) (k_fnd u) (k_pf u) (k_pl u) (k_pw u) (k_pc u)) H := hP
  have hD : va_D (va_A (wC q u) s.heap.size) (wCx q (k_fu u) (k_re u) 0 (k_nV u) (k_opn u) (k_uns u) (k_dbl u) (k_lett u) (k_cnt u) (k_lev u) (k_src u) (k_fr u) (k_e1 u) (k_e2 u) (k_ends u) (k_fal u) (k_ways u) (k_fls u) (k_fnd u) (k_pf u) (k_pl u) (k_pw u) (k_pc u)) := hD
  refine lv_aload_n hx hb d_P_empty_5 rfl (lv_at hl 0 rfl) ?_
  refine lv_iconst (v := nI 0) hx hb d_P_empty_6 (by decide) ?_
  refine va_put (D := (dC, dI)) (ci := 0) (v := .int (nI 0)) (ty := .int) (C := "SeatProofs$Plant") (T := F_P) (N := 12) hx hb hts (iu_P _) t_P t_P_ok n_P hown hK hP hD hS 1 rfl rfl 1 (by decide) (hts _ (List.mem_cons_of_mem _ iw_29)) (fun _ h9 => h9) rfl (by decide +kernel) rfl rfl (Nat.le_of_ble_eq_true rfl) d_P_empty_7 (fun H locs hP hD hS => ?_)
  have hP : va_P (dC, dI) vwCl (wCx q (k_fu u) (k_re u) 0 0 (k_opn u) (k_uns u) (k_dbl u) (k_lett u) (k_cnt u) (k_lev u) (k_src u) (k_fr u) (k_e1 u) (k_e2 u) (k_ends u) (k_fal u) (k_ways u) (k_fls u) (k_fnd u) (k_pf u) (k_pl u) (k_pw u) (k_pc u)) H := hP
  have hD : va_D (va_A (wC q u) s.heap.size) (wCx q (k_fu u) (k_re u) 0 0 (k_opn u) (k_uns u) (k_dbl u) (k_lett u) (k_cnt u) (k_lev u) (k_src u) (k_fr u) (k_e1 u) (k_e2 u) (k_ends u) (k_fal u) (k_ways u) (k_fls u) (k_fnd u) (k_pf u) (k_pl u) (k_pw u) (k_pc u)) := hD
  refine lv_aload_n hx hb d_P_empty_10 rfl (lv_at hl 0 rfl) ?_
  refine lv_lconst (v := 0) hx hb d_P_empty_11 (by decide) ?_
  refine va_put (D := (dC, dI)) (ci := 0) (v := .long 0) (ty := .long) (C := "SeatProofs$Plant") (T := F_P) (N := 12) hx hb hts (iu_P _) t_P t_P_ok n_P hown hK hP hD hS 1 rfl rfl 7 (by decide) (hts _ (List.mem_cons_of_mem _ iw_42)) (fun _ h9 => h9) rfl (by decide +kernel) rfl rfl (Nat.le_of_ble_eq_true rfl) d_P_empty_12 (fun H locs hP hD hS => ?_)
  have hP : va_P (dC, dI) vwCl (wCx q (k_fu u) (k_re u) 0 0 0 (k_uns u) (k_dbl u) (k_lett u) (k_cnt u) (k_lev u) (k_src u) (k_fr u) (k_e1 u) (k_e2 u) (k_ends u) (k_fal u) (k_ways u) (k_fls u) (k_fnd u) (k_pf u) (k_pl u) (k_pw u) (k_pc u)) H := hP
  have hD : va_D (va_A (wC q u) s.heap.size) (wCx q (k_fu u) (k_re u) 0 0 0 (k_uns u) (k_dbl u) (k_lett u) (k_cnt u) (k_lev u) (k_src u) (k_fr u) (k_e1 u) (k_e2 u) (k_ends u) (k_fal u) (k_ways u) (k_fls u) (k_fnd u) (k_pf u) (k_pl u) (k_pw u) (k_pc u)) := hD
  refine lv_aload_n hx hb d_P_empty_15 rfl (lv_at hl 0 rfl) ?_
  refine lv_lconst (v := 0) hx hb d_P_empty_16 (by decide) ?_
  refine va_put (D := (dC, dI)) (ci := 0) (v := .long 0) (ty := .long) (C := "SeatProofs$Plant") (T := F_P) (N := 12) hx hb hts (iu_P _) t_P t_P_ok n_P hown hK hP hD hS 1 rfl rfl 8 (by decide) (hts _ (List.mem_cons_of_mem _ iw_43)) (fun _ h9 => h9) rfl (by decide +kernel) rfl rfl (Nat.le_of_ble_eq_true rfl) d_P_empty_17 (fun H locs hP hD hS => ?_)
  have hP : va_P (dC, dI) vwCl (wCx q (k_fu u) (k_re u) 0 0 0 0 (k_dbl u) (k_lett u) (k_cnt u) (k_lev u) (k_src u) (k_fr u) (k_e1 u) (k_e2 u) (k_ends u) (k_fal u) (k_ways u) (k_fls u) (k_fnd u) (k_pf u) (k_pl u) (k_pw u) (k_pc u)) H := hP
  have hD : va_D (va_A (wC q u) s.heap.size) (wCx q (k_fu u) (k_re u) 0 0 0 0 (k_dbl u) (k_lett u) (k_cnt u) (k_lev u) (k_src u) (k_fr u) (k_e1 u) (k_e2 u) (k_ends u) (k_fal u) (k_ways u) (k_fls u) (k_fnd u) (k_pf u) (k_pl u) (k_pw u) (k_pc u)) := hD
  refine lv_aload_n hx hb d_P_empty_20 rfl (lv_at hl 0 rfl) ?_
  refine lv_lconst (v := 0) hx hb d_P_empty_21 (by decide) ?_
  refine va_put (D := (dC, dI)) (ci := 0) (v := .long 0) (ty := .long) (C := "SeatProofs$Plant") (T := F_P) (N := 12) hx hb hts (iu_P _) t_P t_P_ok n_P hown hK hP hD hS 1 rfl rfl 9 (by decide) (hts _ (List.mem_cons_of_mem _ iw_45)) (fun _ h9 => h9) rfl (by decide +kernel) rfl rfl (Nat.le_of_ble_eq_true rfl) d_P_empty_22 (fun H locs hP hD hS => ?_)
  have hP : va_P (dC, dI) vwCl (wCx q (k_fu u) (k_re u) 0 0 0 0 0 (k_lett u) (k_cnt u) (k_lev u) (k_src u) (k_fr u) (k_e1 u) (k_e2 u) (k_ends u) (k_fal u) (k_ways u) (k_fls u) (k_fnd u) (k_pf u) (k_pl u) (k_pw u) (k_pc u)) H := hP
  have hD : va_D (va_A (wC q u) s.heap.size) (wCx q (k_fu u) (k_re u) 0 0 0 0 0 (k_lett u) (k_cnt u) (k_lev u) (k_src u) (k_fr u) (k_e1 u) (k_e2 u) (k_ends u) (k_fal u) (k_ways u) (k_fls u) (k_fnd u) (k_pf u) (k_pl u) (k_pw u) (k_pc u)) := hD
  refine lv_iconst (v := nI 0) hx hb d_P_empty_25 (by decide) ?_
  refine lv_istore_n (lv' := [(1, .int (nI 0)), (0, .ref (ca_p q))]) hx hb d_P_empty_26 rfl hl (by decide) rfl (fun ls hl => ?_)
  have L27 : ∀ (n27 : Nat) (i : Nat) (g : Nat → Int64) (h : Nat → Int32), (i ≤ 16) → (∀ t, t < i → g t = 0) → (∀ t, t < i → h t = nI 0) → 16 - i < n27 → ∀ (H : Heap) (locs : List Loc) (ls : Array Slot), va_P (dC, dI) vwCl (wCx q (k_fu u) (k_re u) 0 0 0 0 0 (k_lett u) (k_cnt u) (k_lev u) g h (k_e1 u) (k_e2 u) (k_ends u) (k_fal u) (k_ways u) (k_fls u) (k_fnd u) (k_pf u) (k_pl u) (k_pw u) (k_pc u)) H → va_D (va_A (wC q u) s.heap.size) (wCx q (k_fu u) (k_re u) 0 0 0 0 0 (k_lett u) (k_cnt u) (k_lev u) g h (k_e1 u) (k_e2 u) (k_ends u) (k_fal u) (k_ways u) (k_fls u) (k_fnd u) (k_pf u) (k_pl u) (k_pw u) (k_pc u)) → va_S (va_A (wC q u) s.heap.size) s.heap H locs → lv_has ls 2 [(0, .ref (ca_p q)), (1, .int (nI i))] → W p l e (headSpec w_P_empty ({ frames := 0, cells := 0, slots := 0, locals := 0 })).room s m [Value.ref (ca_p q)].toArray below meth c H locs 0 0 (MQ below (va_Qv (fun z : CSt => ∃ g h, (∀ t, t < 16 → g t = 0) ∧ (∀ t, t < 16 → h t = nI 0) ∧ z = k_s_fr (k_s_src (k_s_dbl (k_s_uns (k_s_opn (k_s_nV (k_s_nS u 0) 0) 0) 0) 0) g) h) (qB (dC, dI) vwCl (tC q) (wC q u) s.heap.size (wC q)) (va_A (wC q u) s.heap.size)) [Value.ref (ca_p q)].toArray s 0 0 (va_A (wC q u) s.heap.size)) (F0 m 27 ls []) := by
    intro n27
    induction n27 with
    | zero => intro i g h hi27 hg27 hh27 hm; exact absurd hm (Nat.not_lt_zero _)
    | succ n27 ih27 =>
      intro i g h hi27 hg27 hh27 hm27 H locs ls hP hD hS hl
      refine lv_iload_n hx hb d_P_empty_27 rfl (lv_at hl 1 rfl) ?_
      refine lv_bipush (v := nI 16) hx hb d_P_empty_28 (by decide) ?_
      refine nv_ge (tgt := 53) hx hb d_P_empty_30 (by decide) (by omega) (by omega) (fun c_1 => ?_) (fun c_1 => ?_)
      · exact W.vret hx hb hr (fun t9 ht9 hW9 => ⟨⟨(k_mk (k_fu u) (k_re u) 0 0 0 0 0 (k_lett u) (k_cnt u) (k_lev u) g h (k_e1 u) (k_e2 u) (k_ends u) (k_fal u) (k_ways u) (k_fls u) (k_fnd u) (k_pf u) (k_pl u) (k_pw u) (k_pc u)), rfl, ⟨g, h, fun t ht => hg27 t (by omega), fun t ht => hh27 t (by omega), rfl⟩, by rw [ht9]; exact hP, va_K.moved hW9.alike hK, hD⟩, hS.F ht9⟩) hS.2.2 d_P_empty_53
      · refine lv_aload_n hx hb d_P_empty_33 rfl (lv_at hl 0 rfl) ?_
        refine va_get (D := (dC, dI)) (ci := 0) (v := .ref (ca_src q)) (C := "SeatProofs$Plant") (T := F_P) (N := 12) hx hb hts (iu_P _) hown hK hP 1 rfl rfl 3 (by decide) (hts _ (List.mem_cons_of_mem _ iw_33)) (fun _ h9 => h9) rfl d_P_empty_34 ?_
        refine lv_iload_n hx hb d_P_empty_37 rfl (lv_at hl 1 rfl) ?_
        refine lv_lconst (v := 0) hx hb d_P_empty_38 (by decide) ?_
        refine st_l hx hb hK hP hD hS 5 1 rfl rfl (va_up g i 0) (by omega) (by decide) (updL_up _ _ _) d_P_empty_39 (fun H locs hP hD hS => ?_)
        have hP : va_P (dC, dI) vwCl (wCx q (k_fu u) (k_re u) 0 0 0 0 0 (k_lett u) (k_cnt u) (k_lev u) (va_up g i 0) h (k_e1 u) (k_e2 u) (k_ends u) (k_fal u) (k_ways u) (k_fls u) (k_fnd u) (k_pf u) (k_pl u) (k_pw u) (k_pc u)) H := hP
        have hD : va_D (va_A (wC q u) s.heap.size) (wCx q (k_fu u) (k_re u) 0 0 0 0 0 (k_lett u) (k_cnt u) (k_lev u) (va_up g i 0) h (k_e1 u) (k_e2 u) (k_ends u) (k_fal u) (k_ways u) (k_fls u) (k_fnd u) (k_pf u) (k_pl u) (k_pw u) (k_pc u)) := hD
        refine lv_aload_n hx hb d_P_empty_40 rfl (lv_at hl 0 rfl) ?_
        refine va_get (D := (dC, dI)) (ci := 0) (v := .ref (ca_fr q)) (C := "SeatProofs$Plant") (T := F_P) (N := 12) hx hb hts (iu_P _) hown hK hP 1 rfl rfl 4 (by decide) (hts _ (List.mem_cons_of_mem _ iw_35)) (fun _ h9 => h9) rfl d_P_empty_41 ?_
        refine lv_iload_n hx hb d_P_empty_44 rfl (lv_at hl 1 rfl) ?_
        refine lv_iconst (v := nI 0) hx hb d_P_empty_45 (by decide) ?_
        refine st_i hx hb hK hP hD hS 6 0 rfl rfl (va_up h i (nI 0)) (by omega) (by decide) (rfl) d_P_empty_46 (fun H locs hP hD hS => ?_)
        have hP : va_P (dC, dI) vwCl (wCx q (k_fu u) (k_re u) 0 0 0 0 0 (k_lett u) (k_cnt u) (k_lev u) (va_up g i 0) (va_up h i (nI 0)) (k_e1 u) (k_e2 u) (k_ends u) (k_fal u) (k_ways u) (k_fls u) (k_fnd u) (k_pf u) (k_pl u) (k_pw u) (k_pc u)) H := hP
        have hD : va_D (va_A (wC q u) s.heap.size) (wCx q (k_fu u) (k_re u) 0 0 0 0 0 (k_lett u) (k_cnt u) (k_lev u) (va_up g i 0) (va_up h i (nI 0)) (k_e1 u) (k_e2 u) (k_ends u) (k_fal u) (k_ways u) (k_fls u) (k_fnd u) (k_pf u) (k_pl u) (k_pw u) (k_pc u)) := hD
        refine lv_iinc (v := nI (i + 1)) (lv' := [(1, .int (nI (i + 1))), (0, .ref (ca_p q))]) hx hb d_P_empty_47 hl (k := 1) rfl (nI_1 _) (by decide) rfl (fun ls hl => ?_)
        refine lv_goto (tgt := 27) hx hb d_P_empty_50 (by decide) ?_
        exact ih27 (i + 1) (va_up g i 0) (va_up h i (nI 0)) (by omega) (up_lt (h := fun _ => (0 : Int64)) hg27 rfl) (up_lt (h := fun _ => nI 0) hh27 rfl) (by omega) _ _ ls hP hD hS (lv_sub hl [1, 0] rfl)
  exact L27 _ 0 (k_src u) (k_fr u) (Nat.zero_le _) (fun t ht => absurd ht (Nat.not_lt_zero t)) (fun t ht => absurd ht (Nat.not_lt_zero t)) (Nat.lt_succ_self _) _ _ ls hP hD hS (lv_sub hl [1, 0] rfl)
