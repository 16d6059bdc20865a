set_option maxHeartbeats 4000000 in
set_option maxRecDepth 100000 in
theorem c_M_space (l : Launch) (dC : Nat → ClassId) (dI : Nat → Nat → Nat) (q : MA) (u : MSt) (sz : Nat) (x : Int32) (hu : MOk u) : Met l y_M_space w_M_space ({ frames := 0, cells := 0, slots := 0, locals := 0 }) (qPc (dC, dI) vwCl (tM q) (wM q u) sz [Value.ref (ma_o q), Value.int x]) (va_Qi (fun (r : Int32) (z : MSt) => (r, z) = M_space u x) (qB (dC, dI) vwCl (tM q) (wM q u) sz (wM q)) (va_A (wM q u) sz)) 0 0 (va_A (wM q u) sz) := by
  refine Met.ofW (cc := b_M_space) (maxL := 2) (ret := (some .int)) (by decide) rfl ?_
  intro p e s m args below meth c s₁ B hml hv
  obtain ⟨rfl, hsz, hP, hK, hD0, hN⟩ := hv
  have hx := B.exec
  have hb := B.bytes
  have hr := B.returns
  have hts := atoms_spec (ws := w_M_space) B.pre
  have hown : s.vm.findClass "SeatProofsModel" = some m.cls := findClass_of_methodNamed B.named
  have hlocks := B.notSynchronized
  subst hsz
  have hD := hD0.self (sz := s.heap.size)
  have hA : ∀ z : Nat, s.heap.size ≤ z → va_A (wM q u) s.heap.size z := fun z h => Or.inr h
  have hS : va_S (va_A (wM q u) s.heap.size) s.heap s.heap [] := va_S.rf
  have hl := lv_entry ([Value.ref (ma_o q), Value.int x]) (n := 2) (Nat.le_of_ble_eq_true rfl)
  rw [lg_entry_eq]
  generalize (lg_sl ([Value.ref (ma_o q), Value.int x]) ++ List.replicate (2 - (lg_sl ([Value.ref (ma_o q), Value.int x])).length) Slot.unset).toArray = ls at hl ⊢
  have hl : lv_has ls 2 [(0, .ref (ma_o q)), (1, .int x)] := hl
  obtain ⟨k1, k2, k3, k4, k5, k6, k7, k8, k9, k10, k11⟩ := id hu
  refine lv_aload_n hx hb d_M_space_0 rfl (lv_at hl 0 rfl) ?_
  refine lv_iconst (v := nI 0) hx hb d_M_space_1 (by decide) ?_
  refine va_put (D := (dC, dI)) (ci := 4) (v := .int (nI 0)) (ty := .int) (C := "SeatProofsModel") (T := F_M) (N := 20) hx hb hts (iu_M _) t_M t_M_ok n_M hown hK hP hD hS 0 rfl rfl 18 (by decide) (hts _ (List.mem_cons_of_mem _ iw_458)) (fun _ h9 => h9) rfl (by decide +kernel) rfl rfl (Nat.le_of_ble_eq_true rfl) d_M_space_2 (fun H locs hP hD hS => ?_)
  have hP : va_P (dC, dI) vwCl (wMx q (m_liq u) (m_lev u) (m_nS u) (m_fa u) (m_fb u) (m_seat u) (m_op u) (m_un u) (m_nV u) (m_may u) (m_nR u) (m_rf u) (m_rl u) (m_rw u) (m_rc u) (m_cul u) (m_gu u) (m_te u) 0 (m_wet u)) H := hP
  have hD : va_D (va_A (wM q u) s.heap.size) (wMx q (m_liq u) (m_lev u) (m_nS u) (m_fa u) (m_fb u) (m_seat u) (m_op u) (m_un u) (m_nV u) (m_may u) (m_nR u) (m_rf u) (m_rl u) (m_rw u) (m_rc u) (m_cul u) (m_gu u) (m_te u) 0 (m_wet u)) := hD
  refine lv_iload_n hx hb d_M_space_5 rfl (lv_at hl 1 rfl) ?_
  refine lv_if_lt (tgt := 15) hx hb d_M_space_6 (by decide) (fun c_1 => ?_) (fun c_1 => ?_)
  · refine lv_iconst (v := (-1)) hx hb d_M_space_15 (by decide) ?_
    exact W.iret hx hb hr (fun t9 ht9 hW9 => ⟨⟨_, (m_mk (m_liq u) (m_lev u) (m_nS u) (m_fa u) (m_fb u) (m_seat u) (m_op u) (m_un u) (m_nV u) (m_may u) (m_nR u) (m_rf u) (m_rl u) (m_rw u) (m_rc u) (m_cul u) (m_gu u) (m_te u) 0 (m_wet u)), rfl, (by rw [M_space, if_pos (Or.inl c_1)]), by rw [ht9]; exact hP, va_K.moved hW9.alike hK, hD⟩, hS.F ht9⟩) hS.2.2 d_M_space_16
  · refine lv_iload_n hx hb d_M_space_9 rfl (lv_at hl 1 rfl) ?_
    refine lv_bipush (v := nI 16) hx hb d_M_space_10 (by decide) ?_
    refine lv_icmp_lt (tgt := 17) hx hb d_M_space_12 (by decide) (fun c_2 => ?_) (fun c_2 => ?_)
    · obtain ⟨j, hj, rfl⟩ := nI_of c_1
      have hj2 : j < 16 := (nI_ltI hj (by decide)).mp c_2
      refine lv_aload_n hx hb d_M_space_17 rfl (lv_at hl 0 rfl) ?_
      refine va_get (D := (dC, dI)) (ci := 4) (v := .int (nI (m_nS u))) (C := "SeatProofsModel") (T := F_M) (N := 20) hx hb hts (iu_M _) hown hK hP 0 rfl rfl 2 (by decide) (hts _ (List.mem_cons_of_mem _ iw_442)) (fun _ h9 => h9) rfl d_M_space_18 ?_
      refine lv_bipush (v := nI 64) hx hb d_M_space_21 (by decide) ?_
      refine nv_ne (tgt := 29) hx hb d_M_space_23 (by decide) (by omega) (by omega) (fun c_3 => ?_) (fun c_3 => ?_)
      · refine lv_aload_n hx hb d_M_space_29 rfl (lv_at hl 0 rfl) ?_
        refine va_get (D := (dC, dI)) (ci := 4) (v := .ref (ma_liq q)) (C := "SeatProofsModel") (T := F_M) (N := 20) hx hb hts (iu_M _) hown hK hP 0 rfl rfl 0 (by decide) (hts _ (List.mem_cons_of_mem _ iw_440)) (fun _ h9 => h9) rfl d_M_space_30 ?_
        refine lv_aload_n hx hb d_M_space_33 rfl (lv_at hl 0 rfl) ?_
        refine va_get (D := (dC, dI)) (ci := 4) (v := .int (nI (m_nS u))) (C := "SeatProofsModel") (T := F_M) (N := 20) hx hb hts (iu_M _) hown hK hP 0 rfl rfl 2 (by decide) (hts _ (List.mem_cons_of_mem _ iw_442)) (fun _ h9 => h9) rfl d_M_space_34 ?_
        refine lv_iload_n hx hb d_M_space_37 rfl (lv_at hl 1 rfl) ?_
        refine st_i hx hb hK hP hD hS 1 0 rfl rfl (fun j9 => nI (va_up (m_liq u) (m_nS u) j j9)) (by omega) (by decide) (upd_nI _ _ _) d_M_space_38 (fun H locs hP hD hS => ?_)
        have hP : va_P (dC, dI) vwCl (wMx q (va_up (m_liq u) (m_nS u) j) (m_lev u) (m_nS u) (m_fa u) (m_fb u) (m_seat u) (m_op u) (m_un u) (m_nV u) (m_may u) (m_nR u) (m_rf u) (m_rl u) (m_rw u) (m_rc u) (m_cul u) (m_gu u) (m_te u) 0 (m_wet u)) H := hP
        have hD : va_D (va_A (wM q u) s.heap.size) (wMx q (va_up (m_liq u) (m_nS u) j) (m_lev u) (m_nS u) (m_fa u) (m_fb u) (m_seat u) (m_op u) (m_un u) (m_nV u) (m_may u) (m_nR u) (m_rf u) (m_rl u) (m_rw u) (m_rc u) (m_cul u) (m_gu u) (m_te u) 0 (m_wet u)) := hD
        refine lv_aload_n hx hb d_M_space_39 rfl (lv_at hl 0 rfl) ?_
        refine va_get (D := (dC, dI)) (ci := 4) (v := .ref (ma_lev q)) (C := "SeatProofsModel") (T := F_M) (N := 20) hx hb hts (iu_M _) hown hK hP 0 rfl rfl 1 (by decide) (hts _ (List.mem_cons_of_mem _ iw_441)) (fun _ h9 => h9) rfl d_M_space_40 ?_
        refine lv_aload_n hx hb d_M_space_43 rfl (lv_at hl 0 rfl) ?_
        refine va_get (D := (dC, dI)) (ci := 4) (v := .int (nI (m_nS u))) (C := "SeatProofsModel") (T := F_M) (N := 20) hx hb hts (iu_M _) hown hK hP 0 rfl rfl 2 (by decide) (hts _ (List.mem_cons_of_mem _ iw_442)) (fun _ h9 => h9) rfl d_M_space_44 ?_
        refine lv_lconst (v := 0) hx hb d_M_space_47 (by decide) ?_
        refine st_l hx hb hK hP hD hS 2 1 rfl rfl (va_up (m_lev u) (m_nS u) 0) (by omega) (by decide) (updL_up _ _ _) d_M_space_48 (fun H locs hP hD hS => ?_)
        have hP : va_P (dC, dI) vwCl (wMx q (va_up (m_liq u) (m_nS u) j) (va_up (m_lev u) (m_nS u) 0) (m_nS u) (m_fa u) (m_fb u) (m_seat u) (m_op u) (m_un u) (m_nV u) (m_may u) (m_nR u) (m_rf u) (m_rl u) (m_rw u) (m_rc u) (m_cul u) (m_gu u) (m_te u) 0 (m_wet u)) H := hP
        have hD : va_D (va_A (wM q u) s.heap.size) (wMx q (va_up (m_liq u) (m_nS u) j) (va_up (m_lev u) (m_nS u) 0) (m_nS u) (m_fa u) (m_fb u) (m_seat u) (m_op u) (m_un u) (m_nV u) (m_may u) (m_nR u) (m_rf u) (m_rl u) (m_rw u) (m_rc u) (m_cul u) (m_gu u) (m_te u) 0 (m_wet u)) := hD
        refine lv_aload_n hx hb d_M_space_49 rfl (lv_at hl 0 rfl) ?_
        refine lv_dup hx hb d_M_space_50 rfl ?_
        refine va_get (D := (dC, dI)) (ci := 4) (v := .int (nI (m_nS u))) (C := "SeatProofsModel") (T := F_M) (N := 20) hx hb hts (iu_M _) hown hK hP 0 rfl rfl 2 (by decide) (hts _ (List.mem_cons_of_mem _ iw_442)) (fun _ h9 => h9) rfl d_M_space_51 ?_
        refine lv_iconst (v := nI 1) hx hb d_M_space_54 (by decide) ?_
        refine lv_iadd hx hb d_M_space_55 ?_
        refine tp_i (nI (m_nS u + 1)) (nI_add _ _) ?_
        refine va_put (D := (dC, dI)) (ci := 4) (v := .int (nI (m_nS u + 1))) (ty := .int) (C := "SeatProofsModel") (T := F_M) (N := 20) hx hb hts (iu_M _) t_M t_M_ok n_M hown hK hP hD hS 0 rfl rfl 2 (by decide) (hts _ (List.mem_cons_of_mem _ iw_442)) (fun _ h9 => h9) rfl (by decide +kernel) rfl rfl (Nat.le_of_ble_eq_true rfl) d_M_space_56 (fun H locs hP hD hS => ?_)
        have hP : va_P (dC, dI) vwCl (wMx q (va_up (m_liq u) (m_nS u) j) (va_up (m_lev u) (m_nS u) 0) (m_nS u + 1) (m_fa u) (m_fb u) (m_seat u) (m_op u) (m_un u) (m_nV u) (m_may u) (m_nR u) (m_rf u) (m_rl u) (m_rw u) (m_rc u) (m_cul u) (m_gu u) (m_te u) 0 (m_wet u)) H := hP
        have hD : va_D (va_A (wM q u) s.heap.size) (wMx q (va_up (m_liq u) (m_nS u) j) (va_up (m_lev u) (m_nS u) 0) (m_nS u + 1) (m_fa u) (m_fb u) (m_seat u) (m_op u) (m_un u) (m_nV u) (m_may u) (m_nR u) (m_rf u) (m_rl u) (m_rw u) (m_rc u) (m_cul u) (m_gu u) (m_te u) 0 (m_wet u)) := hD
        refine lv_aload_n hx hb d_M_space_59 rfl (lv_at hl 0 rfl) ?_
        refine lv_iconst (v := nI 0) hx hb d_M_space_60 (by decide) ?_
        refine va_put (D := (dC, dI)) (ci := 4) (v := .int (nI 0)) (ty := .int) (C := "SeatProofsModel") (T := F_M) (N := 20) hx hb hts (iu_M _) t_M t_M_ok n_M hown hK hP hD hS 0 rfl rfl 10 (by decide) (hts _ (List.mem_cons_of_mem _ iw_450)) (fun _ h9 => h9) rfl (by decide +kernel) rfl rfl (Nat.le_of_ble_eq_true rfl) d_M_space_61 (fun H locs hP hD hS => ?_)
        have hP : va_P (dC, dI) vwCl (wMx q (va_up (m_liq u) (m_nS u) j) (va_up (m_lev u) (m_nS u) 0) (m_nS u + 1) (m_fa u) (m_fb u) (m_seat u) (m_op u) (m_un u) (m_nV u) (m_may u) 0 (m_rf u) (m_rl u) (m_rw u) (m_rc u) (m_cul u) (m_gu u) (m_te u) 0 (m_wet u)) H := hP
        have hD : va_D (va_A (wM q u) s.heap.size) (wMx q (va_up (m_liq u) (m_nS u) j) (va_up (m_lev u) (m_nS u) 0) (m_nS u + 1) (m_fa u) (m_fb u) (m_seat u) (m_op u) (m_un u) (m_nV u) (m_may u) 0 (m_rf u) (m_rl u) (m_rw u) (m_rc u) (m_cul u) (m_gu u) (m_te u) 0 (m_wet u)) := hD
        refine lv_aload_n hx hb d_M_space_64 rfl (lv_at hl 0 rfl) ?_
        refine va_get (D := (dC, dI)) (ci := 4) (v := .int (nI (m_nS u + 1))) (C := "SeatProofsModel") (T := F_M) (N := 20) hx hb hts (iu_M _) hown hK hP 0 rfl rfl 2 (by decide) (hts _ (List.mem_cons_of_mem _ iw_442)) (fun _ h9 => h9) rfl d_M_space_65 ?_
        refine lv_iconst (v := nI 1) hx hb d_M_space_68 (by decide) ?_
        refine lv_isub hx hb d_M_space_69 ?_
        refine tp_i (nI ((m_nS u + 1) - 1)) (pk_sub (by omega)) ?_
        exact W.iret hx hb hr (fun t9 ht9 hW9 => ⟨⟨_, (m_mk (va_up (m_liq u) (m_nS u) j) (va_up (m_lev u) (m_nS u) 0) (m_nS u + 1) (m_fa u) (m_fb u) (m_seat u) (m_op u) (m_un u) (m_nV u) (m_may u) 0 (m_rf u) (m_rl u) (m_rw u) (m_rc u) (m_cul u) (m_gu u) (m_te u) 0 (m_wet u)), rfl, (by rw [M_space, if_neg (fun h => h.elim c_1 (fun h => h c_2)), if_neg c_3, nI_clamp hj]; first | done | rfl), by rw [ht9]; exact hP, va_K.moved hW9.alike hK, hD⟩, hS.F ht9⟩) hS.2.2 d_M_space_70
      · refine lv_bipush (v := (-2)) hx hb d_M_space_26 (by decide) ?_
        exact W.iret hx hb hr (fun t9 ht9 hW9 => ⟨⟨_, (m_mk (m_liq u) (m_lev u) (m_nS u) (m_fa u) (m_fb u) (m_seat u) (m_op u) (m_un u) (m_nV u) (m_may u) (m_nR u) (m_rf u) (m_rl u) (m_rw u) (m_rc u) (m_cul u) (m_gu u) (m_te u) 0 (m_wet u)), rfl, (by rw [M_space, if_neg (fun h => h.elim c_1 (fun h => h c_2)), if_pos c_3]), by rw [ht9]; exact hP, va_K.moved hW9.alike hK, hD⟩, hS.F ht9⟩) hS.2.2 d_M_space_28
    · refine lv_iconst (v := (-1)) hx hb d_M_space_15 (by decide) ?_
      exact W.iret hx hb hr (fun t9 ht9 hW9 => ⟨⟨_, (m_mk (m_liq u) (m_lev u) (m_nS u) (m_fa u) (m_fb u) (m_seat u) (m_op u) (m_un u) (m_nV u) (m_may u) (m_nR u) (m_rf u) (m_rl u) (m_rw u) (m_rc u) (m_cul u) (m_gu u) (m_te u) 0 (m_wet u)), rfl, (by rw [M_space, if_pos (Or.inr c_2)]), by rw [ht9]; exact hP, va_K.moved hW9.alike hK, hD⟩, hS.F ht9⟩) hS.2.2 d_M_space_16
set_option maxHeartbeats 4000000 in
set_option maxRecDepth 100000 in
theorem c_M_valve (l : Launch) (dC : Nat → ClassId) (dI : Nat → Nat → Nat) (q : MA) (u : MSt) (sz : Nat) (x y k : Int32) (o : Bool) (hu : MOk u) : Met l y_M_valve w_M_valve ({ frames := 1, cells := 0, slots := 0, locals := 21 }) (qPc (dC, dI) vwCl (tM q) (wM q u) sz [Value.ref (ma_o q), Value.int x, Value.int y, Value.int k, Value.int (bI o)]) (va_Qi (fun (r : Int32) (z : MSt) => (r, z) = M_valve u x y k o) (qB (dC, dI) vwCl (tM q) (wM q u) sz (wM q)) (va_A (wM q u) sz)) 0 0 (va_A (wM q u) sz) := by
  refine Met.ofW (cc := b_M_valve) (maxL := 5) (ret := (some .int)) (by decide) rfl ?_
  intro p e s m args below meth c s₁ B hml hv
  obtain ⟨rfl, hsz, hP, hK, hD0, hN⟩ := hv
  have hx := B.exec
  have hb := B.bytes
  have hr := B.returns
  have hts := atoms_spec (ws := w_M_valve) B.pre
  have hown : s.vm.findClass "SeatProofsModel" = some m.cls := findClass_of_methodNamed B.named
  have hlocks := B.notSynchronized
  subst hsz
  have hD := hD0.self (sz := s.heap.size)
  have hA : ∀ z : Nat, s.heap.size ≤ z → va_A (wM q u) s.heap.size z := fun z h => Or.inr h
  have hS : va_S (va_A (wM q u) s.heap.size) s.heap s.heap [] := va_S.rf
  have hl := lv_entry ([Value.ref (ma_o q), Value.int x, Value.int y, Value.int k, Value.int (bI o)]) (n := 5) (Nat.le_of_ble_eq_true rfl)
  rw [lg_entry_eq]
  generalize (lg_sl ([Value.ref (ma_o q), Value.int x, Value.int y, Value.int k, Value.int (bI o)]) ++ List.replicate (5 - (lg_sl ([Value.ref (ma_o q), Value.int x, Value.int y, Value.int k, Value.int (bI o)])).length) Slot.unset).toArray = ls at hl ⊢
  have hl : lv_has ls 5 [(0, .ref (ma_o q)), (1, .int x), (2, .int y), (3, .int k), (4, .int (bI o))] := hl
  obtain ⟨k1, k2, k3, k4, k5, k6, k7, k8, k9, k10, k11⟩ := id hu
  refine lv_aload_n hx hb d_M_valve_0 rfl (lv_at hl 0 rfl) ?_
  refine lv_iconst (v := nI 0) hx hb d_M_valve_1 (by decide) ?_
  refine va_put (D := (dC, dI)) (ci := 4) (v := .int (nI 0)) (ty := .int) (C := "SeatProofsModel") (T := F_M) (N := 20) hx hb hts (iu_M _) t_M t_M_ok n_M hown hK hP hD hS 0 rfl rfl 18 (by decide) (hts _ (List.mem_cons_of_mem _ iw_458)) (fun _ h9 => h9) rfl (by decide +kernel) rfl rfl (Nat.le_of_ble_eq_true rfl) d_M_valve_2 (fun H locs hP hD hS => ?_)
  have hP : va_P (dC, dI) vwCl (wMx q (m_liq u) (m_lev u) (m_nS u) (m_fa u) (m_fb u) (m_seat u) (m_op u) (m_un u) (m_nV u) (m_may u) (m_nR u) (m_rf u) (m_rl u) (m_rw u) (m_rc u) (m_cul u) (m_gu u) (m_te u) 0 (m_wet u)) H := hP
  have hD : va_D (va_A (wM q u) s.heap.size) (wMx q (m_liq u) (m_lev u) (m_nS u) (m_fa u) (m_fb u) (m_seat u) (m_op u) (m_un u) (m_nV u) (m_may u) (m_nR u) (m_rf u) (m_rl u) (m_rw u) (m_rc u) (m_cul u) (m_gu u) (m_te u) 0 (m_wet u)) := hD
  refine lv_aload_n hx hb d_M_valve_5 rfl (lv_at hl 0 rfl) ?_
  refine lv_iload_n hx hb d_M_valve_6 rfl (lv_at hl 1 rfl) ?_
  refine vp_callSi (va_Run.run (va_runV (As := [.int x]) (rest := []) ⟨hx, hb, hml, hown, hts⟩ (c_M_isSpace l dC dI q (m_mk (m_liq u) (m_lev u) (m_nS u) (m_fa u) (m_fb u) (m_seat u) (m_op u) (m_un u) (m_nV u) (m_may u) (m_nR u) (m_rf u) (m_rl u) (m_rw u) (m_rc u) (m_cul u) (m_gu u) (m_te u) 0 (m_wet u)) x) (cwV 1 hts (good_up (good_V iw_510 iw_512 ip_9 iw_5 gg_M_isSpace)) rfl rfl rfl (by decide +kernel) ⟨Nat.le_of_ble_eq_true rfl, Nat.le_of_ble_eq_true rfl⟩) (pv_S [.int x] hN hK hP (ci := 4) (q0 := 0) rfl rfl) rfl rfl hl.1 rfl (lv_room (Nat.le_of_ble_eq_true rfl)) d_M_valve_7 ⟨Nat.le_of_ble_eq_true rfl, Nat.le_of_ble_eq_true rfl⟩)) (fun r_1 hr_1 => ?_)
  subst hr_1
  refine b0_eq (tgt := 36) hx hb d_M_valve_10 (by decide) (fun c_2 => ?_) (fun c_2 => ?_)
  · refine lv_iconst (v := (-1)) hx hb d_M_valve_36 (by decide) ?_
    exact W.iret hx hb hr (fun t9 ht9 hW9 => ⟨⟨_, (m_mk (m_liq u) (m_lev u) (m_nS u) (m_fa u) (m_fb u) (m_seat u) (m_op u) (m_un u) (m_nV u) (m_may u) (m_nR u) (m_rf u) (m_rl u) (m_rw u) (m_rc u) (m_cul u) (m_gu u) (m_te u) 0 (m_wet u)), rfl, (by rw [M_valve, if_pos (Or.inl c_2)]), by rw [ht9]; exact hP, va_K.moved hW9.alike hK, hD⟩, hS.F ht9⟩) hS.2.2 d_M_valve_37
  · obtain ⟨i, hi, rfl⟩ := ixB_of (by show m_nS u < 2 ^ 31; omega) c_2
    have hi : i < m_nS u := hi
    refine lv_aload_n hx hb d_M_valve_13 rfl (lv_at hl 0 rfl) ?_
    refine lv_iload_n hx hb d_M_valve_14 rfl (lv_at hl 2 rfl) ?_
    refine vp_callSi (va_Run.run (va_runV (As := [.int y]) (rest := []) ⟨hx, hb, hml, hown, hts⟩ (c_M_isSpace l dC dI q (m_mk (m_liq u) (m_lev u) (m_nS u) (m_fa u) (m_fb u) (m_seat u) (m_op u) (m_un u) (m_nV u) (m_may u) (m_nR u) (m_rf u) (m_rl u) (m_rw u) (m_rc u) (m_cul u) (m_gu u) (m_te u) 0 (m_wet u)) y) (cwV 1 hts (good_up (good_V iw_510 iw_512 ip_9 iw_5 gg_M_isSpace)) rfl rfl rfl (by decide +kernel) ⟨Nat.le_of_ble_eq_true rfl, Nat.le_of_ble_eq_true rfl⟩) (pv_S [.int y] hN hK hP (ci := 4) (q0 := 0) rfl rfl) rfl rfl hl.1 rfl (lv_room (Nat.le_of_ble_eq_true rfl)) d_M_valve_15 ⟨Nat.le_of_ble_eq_true rfl, Nat.le_of_ble_eq_true rfl⟩)) (fun r_3 hr_3 => ?_)
    subst hr_3
    refine b0_eq (tgt := 36) hx hb d_M_valve_18 (by decide) (fun c_4 => ?_) (fun c_4 => ?_)
    · refine lv_iconst (v := (-1)) hx hb d_M_valve_36 (by decide) ?_
      exact W.iret hx hb hr (fun t9 ht9 hW9 => ⟨⟨_, (m_mk (m_liq u) (m_lev u) (m_nS u) (m_fa u) (m_fb u) (m_seat u) (m_op u) (m_un u) (m_nV u) (m_may u) (m_nR u) (m_rf u) (m_rl u) (m_rw u) (m_rc u) (m_cul u) (m_gu u) (m_te u) 0 (m_wet u)), rfl, (by rw [M_valve, if_pos (Or.inr (Or.inl c_4))]), by rw [ht9]; exact hP, va_K.moved hW9.alike hK, hD⟩, hS.F ht9⟩) hS.2.2 d_M_valve_37
    · obtain ⟨j, hj, rfl⟩ := ixB_of (by show m_nS u < 2 ^ 31; omega) c_4
      have hj : j < m_nS u := hj
      refine lv_iload_n hx hb d_M_valve_21 rfl (lv_at hl 1 rfl) ?_
      refine lv_iload_n hx hb d_M_valve_22 rfl (lv_at hl 2 rfl) ?_
      refine nv_eq (tgt := 36) hx hb d_M_valve_23 (by decide) (by omega) (by omega) (fun c_5 => ?_) (fun c_5 => ?_)
      · refine lv_iconst (v := (-1)) hx hb d_M_valve_36 (by decide) ?_
        exact W.iret hx hb hr (fun t9 ht9 hW9 => ⟨⟨_, (m_mk (m_liq u) (m_lev u) (m_nS u) (m_fa u) (m_fb u) (m_seat u) (m_op u) (m_un u) (m_nV u) (m_may u) (m_nR u) (m_rf u) (m_rl u) (m_rw u) (m_rc u) (m_cul u) (m_gu u) (m_te u) 0 (m_wet u)), rfl, (by rw [M_valve, if_pos (Or.inr (Or.inr (Or.inl (by rw [c_5]))))]), by rw [ht9]; exact hP, va_K.moved hW9.alike hK, hD⟩, hS.F ht9⟩) hS.2.2 d_M_valve_37
      · refine lv_iload_n hx hb d_M_valve_26 rfl (lv_at hl 3 rfl) ?_
        refine lv_iconst (v := nI 1) hx hb d_M_valve_27 (by decide) ?_
        refine lv_icmp_lt (tgt := 36) hx hb d_M_valve_28 (by decide) (fun c_6 => ?_) (fun c_6 => ?_)
        · refine lv_iconst (v := (-1)) hx hb d_M_valve_36 (by decide) ?_
          exact W.iret hx hb hr (fun t9 ht9 hW9 => ⟨⟨_, (m_mk (m_liq u) (m_lev u) (m_nS u) (m_fa u) (m_fb u) (m_seat u) (m_op u) (m_un u) (m_nV u) (m_may u) (m_nR u) (m_rf u) (m_rl u) (m_rw u) (m_rc u) (m_cul u) (m_gu u) (m_te u) 0 (m_wet u)), rfl, (by rw [M_valve, if_pos (Or.inr (Or.inr (Or.inr (Or.inl c_6))))]), by rw [ht9]; exact hP, va_K.moved hW9.alike hK, hD⟩, hS.F ht9⟩) hS.2.2 d_M_valve_37
        · refine lv_iload_n hx hb d_M_valve_31 rfl (lv_at hl 3 rfl) ?_
          refine lv_iconst (v := nI 2) hx hb d_M_valve_32 (by decide) ?_
          refine lv_icmp_le (tgt := 38) hx hb d_M_valve_33 (by decide) (fun c_7 => ?_) (fun c_7 => ?_)
          · obtain ⟨t, ht, rfl⟩ := nI_of2 (M := nI 2) (n := 2) (by decide) (fun q => c_6 (Int32.lt_trans q (by decide))) c_7
            refine lv_aload_n hx hb d_M_valve_38 rfl (lv_at hl 0 rfl) ?_
            refine va_get (D := (dC, dI)) (ci := 4) (v := .int (nI (m_nV u))) (C := "SeatProofsModel") (T := F_M) (N := 20) hx hb hts (iu_M _) hown hK hP 0 rfl rfl 8 (by decide) (hts _ (List.mem_cons_of_mem _ iw_448)) (fun _ h9 => h9) rfl d_M_valve_39 ?_
            refine lv_bipush (v := nI 64) hx hb d_M_valve_42 (by decide) ?_
            refine nv_ne (tgt := 50) hx hb d_M_valve_44 (by decide) (by omega) (by omega) (fun c_8 => ?_) (fun c_8 => ?_)
            · refine lv_aload_n hx hb d_M_valve_50 rfl (lv_at hl 0 rfl) ?_
              refine va_get (D := (dC, dI)) (ci := 4) (v := .ref (ma_fa q)) (C := "SeatProofsModel") (T := F_M) (N := 20) hx hb hts (iu_M _) hown hK hP 0 rfl rfl 3 (by decide) (hts _ (List.mem_cons_of_mem _ iw_443)) (fun _ h9 => h9) rfl d_M_valve_51 ?_
              refine lv_aload_n hx hb d_M_valve_54 rfl (lv_at hl 0 rfl) ?_
              refine va_get (D := (dC, dI)) (ci := 4) (v := .int (nI (m_nV u))) (C := "SeatProofsModel") (T := F_M) (N := 20) hx hb hts (iu_M _) hown hK hP 0 rfl rfl 8 (by decide) (hts _ (List.mem_cons_of_mem _ iw_448)) (fun _ h9 => h9) rfl d_M_valve_55 ?_
              refine lv_iload_n hx hb d_M_valve_58 rfl (lv_at hl 1 rfl) ?_
              refine st_i hx hb hK hP hD hS 3 0 rfl rfl (fun j9 => nI (va_up (m_fa u) (m_nV u) i j9)) (by omega) (by decide) (upd_nI _ _ _) d_M_valve_59 (fun H locs hP hD hS => ?_)
              have hP : va_P (dC, dI) vwCl (wMx q (m_liq u) (m_lev u) (m_nS u) (va_up (m_fa u) (m_nV u) i) (m_fb u) (m_seat u) (m_op u) (m_un u) (m_nV u) (m_may u) (m_nR u) (m_rf u) (m_rl u) (m_rw u) (m_rc u) (m_cul u) (m_gu u) (m_te u) 0 (m_wet u)) H := hP
              have hD : va_D (va_A (wM q u) s.heap.size) (wMx q (m_liq u) (m_lev u) (m_nS u) (va_up (m_fa u) (m_nV u) i) (m_fb u) (m_seat u) (m_op u) (m_un u) (m_nV u) (m_may u) (m_nR u) (m_rf u) (m_rl u) (m_rw u) (m_rc u) (m_cul u) (m_gu u) (m_te u) 0 (m_wet u)) := hD
              refine lv_aload_n hx hb d_M_valve_60 rfl (lv_at hl 0 rfl) ?_
              refine va_get (D := (dC, dI)) (ci := 4) (v := .ref (ma_fb q)) (C := "SeatProofsModel") (T := F_M) (N := 20) hx hb hts (iu_M _) hown hK hP 0 rfl rfl 4 (by decide) (hts _ (List.mem_cons_of_mem _ iw_444)) (fun _ h9 => h9) rfl d_M_valve_61 ?_
              refine lv_aload_n hx hb d_M_valve_64 rfl (lv_at hl 0 rfl) ?_
              refine va_get (D := (dC, dI)) (ci := 4) (v := .int (nI (m_nV u))) (C := "SeatProofsModel") (T := F_M) (N := 20) hx hb hts (iu_M _) hown hK hP 0 rfl rfl 8 (by decide) (hts _ (List.mem_cons_of_mem _ iw_448)) (fun _ h9 => h9) rfl d_M_valve_65 ?_
              refine lv_iload_n hx hb d_M_valve_68 rfl (lv_at hl 2 rfl) ?_
              refine st_i hx hb hK hP hD hS 4 0 rfl rfl (fun j9 => nI (va_up (m_fb u) (m_nV u) j j9)) (by omega) (by decide) (upd_nI _ _ _) d_M_valve_69 (fun H locs hP hD hS => ?_)
              have hP : va_P (dC, dI) vwCl (wMx q (m_liq u) (m_lev u) (m_nS u) (va_up (m_fa u) (m_nV u) i) (va_up (m_fb u) (m_nV u) j) (m_seat u) (m_op u) (m_un u) (m_nV u) (m_may u) (m_nR u) (m_rf u) (m_rl u) (m_rw u) (m_rc u) (m_cul u) (m_gu u) (m_te u) 0 (m_wet u)) H := hP
              have hD : va_D (va_A (wM q u) s.heap.size) (wMx q (m_liq u) (m_lev u) (m_nS u) (va_up (m_fa u) (m_nV u) i) (va_up (m_fb u) (m_nV u) j) (m_seat u) (m_op u) (m_un u) (m_nV u) (m_may u) (m_nR u) (m_rf u) (m_rl u) (m_rw u) (m_rc u) (m_cul u) (m_gu u) (m_te u) 0 (m_wet u)) := hD
              refine lv_aload_n hx hb d_M_valve_70 rfl (lv_at hl 0 rfl) ?_
              refine va_get (D := (dC, dI)) (ci := 4) (v := .ref (ma_seat q)) (C := "SeatProofsModel") (T := F_M) (N := 20) hx hb hts (iu_M _) hown hK hP 0 rfl rfl 5 (by decide) (hts _ (List.mem_cons_of_mem _ iw_445)) (fun _ h9 => h9) rfl d_M_valve_71 ?_
              refine lv_aload_n hx hb d_M_valve_74 rfl (lv_at hl 0 rfl) ?_
              refine va_get (D := (dC, dI)) (ci := 4) (v := .int (nI (m_nV u))) (C := "SeatProofsModel") (T := F_M) (N := 20) hx hb hts (iu_M _) hown hK hP 0 rfl rfl 8 (by decide) (hts _ (List.mem_cons_of_mem _ iw_448)) (fun _ h9 => h9) rfl d_M_valve_75 ?_
              refine lv_iload_n hx hb d_M_valve_78 rfl (lv_at hl 3 rfl) ?_
              refine st_i hx hb hK hP hD hS 5 0 rfl rfl (fun j9 => nI (va_up (m_seat u) (m_nV u) t j9)) (by omega) (by decide) (upd_nI _ _ _) d_M_valve_79 (fun H locs hP hD hS => ?_)
              have hP : va_P (dC, dI) vwCl (wMx q (m_liq u) (m_lev u) (m_nS u) (va_up (m_fa u) (m_nV u) i) (va_up (m_fb u) (m_nV u) j) (va_up (m_seat u) (m_nV u) t) (m_op u) (m_un u) (m_nV u) (m_may u) (m_nR u) (m_rf u) (m_rl u) (m_rw u) (m_rc u) (m_cul u) (m_gu u) (m_te u) 0 (m_wet u)) H := hP
              have hD : va_D (va_A (wM q u) s.heap.size) (wMx q (m_liq u) (m_lev u) (m_nS u) (va_up (m_fa u) (m_nV u) i) (va_up (m_fb u) (m_nV u) j) (va_up (m_seat u) (m_nV u) t) (m_op u) (m_un u) (m_nV u) (m_may u) (m_nR u) (m_rf u) (m_rl u) (m_rw u) (m_rc u) (m_cul u) (m_gu u) (m_te u) 0 (m_wet u)) := hD
              refine lv_aload_n hx hb d_M_valve_80 rfl (lv_at hl 0 rfl) ?_
              refine va_get (D := (dC, dI)) (ci := 4) (v := .ref (ma_op q)) (C := "SeatProofsModel") (T := F_M) (N := 20) hx hb hts (iu_M _) hown hK hP 0 rfl rfl 6 (by decide) (hts _ (List.mem_cons_of_mem _ iw_446)) (fun _ h9 => h9) rfl d_M_valve_81 ?_
              refine lv_aload_n hx hb d_M_valve_84 rfl (lv_at hl 0 rfl) ?_
              refine va_get (D := (dC, dI)) (ci := 4) (v := .int (nI (m_nV u))) (C := "SeatProofsModel") (T := F_M) (N := 20) hx hb hts (iu_M _) hown hK hP 0 rfl rfl 8 (by decide) (hts _ (List.mem_cons_of_mem _ iw_448)) (fun _ h9 => h9) rfl d_M_valve_85 ?_
              refine lv_iload hx hb d_M_valve_88 (lv_at hl 4 rfl) ?_
              refine st_z hx hb hK hP hD hS 6 2 rfl rfl (fun j9 => bI (va_up (m_op u) (m_nV u) o j9)) (by omega) (by decide) (upd_bI _ _ _) d_M_valve_90 (fun H locs hP hD hS => ?_)
              have hP : va_P (dC, dI) vwCl (wMx q (m_liq u) (m_lev u) (m_nS u) (va_up (m_fa u) (m_nV u) i) (va_up (m_fb u) (m_nV u) j) (va_up (m_seat u) (m_nV u) t) (va_up (m_op u) (m_nV u) o) (m_un u) (m_nV u) (m_may u) (m_nR u) (m_rf u) (m_rl u) (m_rw u) (m_rc u) (m_cul u) (m_gu u) (m_te u) 0 (m_wet u)) H := hP
              have hD : va_D (va_A (wM q u) s.heap.size) (wMx q (m_liq u) (m_lev u) (m_nS u) (va_up (m_fa u) (m_nV u) i) (va_up (m_fb u) (m_nV u) j) (va_up (m_seat u) (m_nV u) t) (va_up (m_op u) (m_nV u) o) (m_un u) (m_nV u) (m_may u) (m_nR u) (m_rf u) (m_rl u) (m_rw u) (m_rc u) (m_cul u) (m_gu u) (m_te u) 0 (m_wet u)) := hD
              refine lv_aload_n hx hb d_M_valve_91 rfl (lv_at hl 0 rfl) ?_
              refine va_get (D := (dC, dI)) (ci := 4) (v := .ref (ma_un q)) (C := "SeatProofsModel") (T := F_M) (N := 20) hx hb hts (iu_M _) hown hK hP 0 rfl rfl 7 (by decide) (hts _ (List.mem_cons_of_mem _ iw_447)) (fun _ h9 => h9) rfl d_M_valve_92 ?_
              refine lv_aload_n hx hb d_M_valve_95 rfl (lv_at hl 0 rfl) ?_
              refine va_get (D := (dC, dI)) (ci := 4) (v := .int (nI (m_nV u))) (C := "SeatProofsModel") (T := F_M) (N := 20) hx hb hts (iu_M _) hown hK hP 0 rfl rfl 8 (by decide) (hts _ (List.mem_cons_of_mem _ iw_448)) (fun _ h9 => h9) rfl d_M_valve_96 ?_
              refine lv_iconst (v := nI 0) hx hb d_M_valve_99 (by decide) ?_
              refine tp_i (bI false) (by decide) ?_
              refine st_z hx hb hK hP hD hS 7 2 rfl rfl (fun j9 => bI (va_up (m_un u) (m_nV u) false j9)) (by omega) (by decide) (upd_bI _ _ _) d_M_valve_100 (fun H locs hP hD hS => ?_)
              have hP : va_P (dC, dI) vwCl (wMx q (m_liq u) (m_lev u) (m_nS u) (va_up (m_fa u) (m_nV u) i) (va_up (m_fb u) (m_nV u) j) (va_up (m_seat u) (m_nV u) t) (va_up (m_op u) (m_nV u) o) (va_up (m_un u) (m_nV u) false) (m_nV u) (m_may u) (m_nR u) (m_rf u) (m_rl u) (m_rw u) (m_rc u) (m_cul u) (m_gu u) (m_te u) 0 (m_wet u)) H := hP
              have hD : va_D (va_A (wM q u) s.heap.size) (wMx q (m_liq u) (m_lev u) (m_nS u) (va_up (m_fa u) (m_nV u) i) (va_up (m_fb u) (m_nV u) j) (va_up (m_seat u) (m_nV u) t) (va_up (m_op u) (m_nV u) o) (va_up (m_un u) (m_nV u) false) (m_nV u) (m_may u) (m_nR u) (m_rf u) (m_rl u) (m_rw u) (m_rc u) (m_cul u) (m_gu u) (m_te u) 0 (m_wet u)) := hD
              refine lv_aload_n hx hb d_M_valve_101 rfl (lv_at hl 0 rfl) ?_
              refine lv_dup hx hb d_M_valve_102 rfl ?_
              refine va_get (D := (dC, dI)) (ci := 4) (v := .int (nI (m_nV u))) (C := "SeatProofsModel") (T := F_M) (N := 20) hx hb hts (iu_M _) hown hK hP 0 rfl rfl 8 (by decide) (hts _ (List.mem_cons_of_mem _ iw_448)) (fun _ h9 => h9) rfl d_M_valve_103 ?_
              refine lv_iconst (v := nI 1) hx hb d_M_valve_106 (by decide) ?_
              refine lv_iadd hx hb d_M_valve_107 ?_
              refine tp_i (nI (m_nV u + 1)) (nI_add _ _) ?_
              refine va_put (D := (dC, dI)) (ci := 4) (v := .int (nI (m_nV u + 1))) (ty := .int) (C := "SeatProofsModel") (T := F_M) (N := 20) hx hb hts (iu_M _) t_M t_M_ok n_M hown hK hP hD hS 0 rfl rfl 8 (by decide) (hts _ (List.mem_cons_of_mem _ iw_448)) (fun _ h9 => h9) rfl (by decide +kernel) rfl rfl (Nat.le_of_ble_eq_true rfl) d_M_valve_108 (fun H locs hP hD hS => ?_)
              have hP : va_P (dC, dI) vwCl (wMx q (m_liq u) (m_lev u) (m_nS u) (va_up (m_fa u) (m_nV u) i) (va_up (m_fb u) (m_nV u) j) (va_up (m_seat u) (m_nV u) t) (va_up (m_op u) (m_nV u) o) (va_up (m_un u) (m_nV u) false) (m_nV u + 1) (m_may u) (m_nR u) (m_rf u) (m_rl u) (m_rw u) (m_rc u) (m_cul u) (m_gu u) (m_te u) 0 (m_wet u)) H := hP
              have hD : va_D (va_A (wM q u) s.heap.size) (wMx q (m_liq u) (m_lev u) (m_nS u) (va_up (m_fa u) (m_nV u) i) (va_up (m_fb u) (m_nV u) j) (va_up (m_seat u) (m_nV u) t) (va_up (m_op u) (m_nV u) o) (va_up (m_un u) (m_nV u) false) (m_nV u + 1) (m_may u) (m_nR u) (m_rf u) (m_rl u) (m_rw u) (m_rc u) (m_cul u) (m_gu u) (m_te u) 0 (m_wet u)) := hD
              refine lv_aload_n hx hb d_M_valve_111 rfl (lv_at hl 0 rfl) ?_
              refine lv_iconst (v := nI 0) hx hb d_M_valve_112 (by decide) ?_
              refine va_put (D := (dC, dI)) (ci := 4) (v := .int (nI 0)) (ty := .int) (C := "SeatProofsModel") (T := F_M) (N := 20) hx hb hts (iu_M _) t_M t_M_ok n_M hown hK hP hD hS 0 rfl rfl 10 (by decide) (hts _ (List.mem_cons_of_mem _ iw_450)) (fun _ h9 => h9) rfl (by decide +kernel) rfl rfl (Nat.le_of_ble_eq_true rfl) d_M_valve_113 (fun H locs hP hD hS => ?_)
              have hP : va_P (dC, dI) vwCl (wMx q (m_liq u) (m_lev u) (m_nS u) (va_up (m_fa u) (m_nV u) i) (va_up (m_fb u) (m_nV u) j) (va_up (m_seat u) (m_nV u) t) (va_up (m_op u) (m_nV u) o) (va_up (m_un u) (m_nV u) false) (m_nV u + 1) (m_may u) 0 (m_rf u) (m_rl u) (m_rw u) (m_rc u) (m_cul u) (m_gu u) (m_te u) 0 (m_wet u)) H := hP
              have hD : va_D (va_A (wM q u) s.heap.size) (wMx q (m_liq u) (m_lev u) (m_nS u) (va_up (m_fa u) (m_nV u) i) (va_up (m_fb u) (m_nV u) j) (va_up (m_seat u) (m_nV u) t) (va_up (m_op u) (m_nV u) o) (va_up (m_un u) (m_nV u) false) (m_nV u + 1) (m_may u) 0 (m_rf u) (m_rl u) (m_rw u) (m_rc u) (m_cul u) (m_gu u) (m_te u) 0 (m_wet u)) := hD
              refine lv_aload_n hx hb d_M_valve_116 rfl (lv_at hl 0 rfl) ?_
              refine va_get (D := (dC, dI)) (ci := 4) (v := .int (nI (m_nV u + 1))) (C := "SeatProofsModel") (T := F_M) (N := 20) hx hb hts (iu_M _) hown hK hP 0 rfl rfl 8 (by decide) (hts _ (List.mem_cons_of_mem _ iw_448)) (fun _ h9 => h9) rfl d_M_valve_117 ?_
              refine lv_iconst (v := nI 1) hx hb d_M_valve_120 (by decide) ?_
              refine lv_isub hx hb d_M_valve_121 ?_
              refine tp_i (nI ((m_nV u + 1) - 1)) (pk_sub (by omega)) ?_
              exact W.iret hx hb hr (fun t9 ht9 hW9 => ⟨⟨_, (m_mk (m_liq u) (m_lev u) (m_nS u) (va_up (m_fa u) (m_nV u) i) (va_up (m_fb u) (m_nV u) j) (va_up (m_seat u) (m_nV u) t) (va_up (m_op u) (m_nV u) o) (va_up (m_un u) (m_nV u) false) (m_nV u + 1) (m_may u) 0 (m_rf u) (m_rl u) (m_rw u) (m_rc u) (m_cul u) (m_gu u) (m_te u) 0 (m_wet u)), rfl, (by rw [M_valve, if_neg (fun h => by rcases h with h | h | h | h | h <;> first | exact absurd (h.symm.trans c_2) (by decide) | exact absurd (h.symm.trans c_4) (by decide) | exact c_5 ((nI_eq (by omega) (by omega)).mp h) | exact c_6 h | exact h c_7), if_neg c_8, nI_clamp (by omega), nI_clamp (by omega), nI_clamp (by omega)]; first | done | rfl), by rw [ht9]; exact hP, va_K.moved hW9.alike hK, hD⟩, hS.F ht9⟩) hS.2.2 d_M_valve_122
            · refine lv_bipush (v := (-2)) hx hb d_M_valve_47 (by decide) ?_
              exact W.iret hx hb hr (fun t9 ht9 hW9 => ⟨⟨_, (m_mk (m_liq u) (m_lev u) (m_nS u) (m_fa u) (m_fb u) (m_seat u) (m_op u) (m_un u) (m_nV u) (m_may u) (m_nR u) (m_rf u) (m_rl u) (m_rw u) (m_rc u) (m_cul u) (m_gu u) (m_te u) 0 (m_wet u)), rfl, (by rw [M_valve, if_neg (fun h => by rcases h with h | h | h | h | h <;> first | exact absurd (h.symm.trans c_2) (by decide) | exact absurd (h.symm.trans c_4) (by decide) | exact c_5 ((nI_eq (by omega) (by omega)).mp h) | exact c_6 h | exact h c_7), if_pos c_8]), by rw [ht9]; exact hP, va_K.moved hW9.alike hK, hD⟩, hS.F ht9⟩) hS.2.2 d_M_valve_49
          · refine lv_iconst (v := (-1)) hx hb d_M_valve_36 (by decide) ?_
            exact W.iret hx hb hr (fun t9 ht9 hW9 => ⟨⟨_, (m_mk (m_liq u) (m_lev u) (m_nS u) (m_fa u) (m_fb u) (m_seat u) (m_op u) (m_un u) (m_nV u) (m_may u) (m_nR u) (m_rf u) (m_rl u) (m_rw u) (m_rc u) (m_cul u) (m_gu u) (m_te u) 0 (m_wet u)), rfl, (by rw [M_valve, if_pos (Or.inr (Or.inr (Or.inr (Or.inr c_7))))]), by rw [ht9]; exact hP, va_K.moved hW9.alike hK, hD⟩, hS.F ht9⟩) hS.2.2 d_M_valve_37
set_option maxHeartbeats 4000000 in
set_option maxRecDepth 100000 in
theorem c_M_level (l : Launch) (dC : Nat → ClassId) (dI : Nat → Nat → Nat) (q : MA) (u : MSt) (sz : Nat) (x : Int32) (h : Int64) (hu : MOk u) : Met l y_M_level w_M_level ({ frames := 1, cells := 0, slots := 0, locals := 21 }) (qPc (dC, dI) vwCl (tM q) (wM q u) sz [Value.ref (ma_o q), Value.int x, Value.long h]) (va_Qi (fun (r : Int32) (z : MSt) => r = bI (M_level u x h).1 ∧ z = (M_level u x h).2) (qB (dC, dI) vwCl (tM q) (wM q u) sz (wM q)) (va_A (wM q u) sz)) 0 0 (va_A (wM q u) sz) := by
  refine Met.ofW (cc := b_M_level) (maxL := 4) (ret := (some .boolean)) (by decide) rfl ?_
  intro p e s m args below meth c s₁ B hml hv
  obtain ⟨rfl, hsz, hP, hK, hD0, hN⟩ := hv
  have hx := B.exec
  have hb := B.bytes
  have hr := B.returns
  have hts := atoms_spec (ws := w_M_level) B.pre
  have hown : s.vm.findClass "SeatProofsModel" = some m.cls := findClass_of_methodNamed B.named
  have hlocks := B.notSynchronized
  subst hsz
  have hD := hD0.self (sz := s.heap.size)
  have hA : ∀ z : Nat, s.heap.size ≤ z → va_A (wM q u) s.heap.size z := fun z h => Or.inr h
  have hS : va_S (va_A (wM q u) s.heap.size) s.heap s.heap [] := va_S.rf
  have hl := lv_entry ([Value.ref (ma_o q), Value.int x, Value.long h]) (n := 4) (Nat.le_of_ble_eq_true rfl)
  rw [lg_entry_eq]
  generalize (lg_sl ([Value.ref (ma_o q), Value.int x, Value.long h]) ++ List.replicate (4 - (lg_sl ([Value.ref (ma_o q), Value.int x, Value.long h])).length) Slot.unset).toArray = ls at hl ⊢
  have hl : lv_has ls 4 [(0, .ref (ma_o q)), (1, .int x), (2, .long h)] := hl
  obtain ⟨k1, k2, k3, k4, k5, k6, k7, k8, k9, k10, k11⟩ := id hu
  refine lv_aload_n hx hb d_M_level_0 rfl (lv_at hl 0 rfl) ?_
  refine lv_iconst (v := nI 0) hx hb d_M_level_1 (by decide) ?_
  refine va_put (D := (dC, dI)) (ci := 4) (v := .int (nI 0)) (ty := .int) (C := "SeatProofsModel") (T := F_M) (N := 20) hx hb hts (iu_M _) t_M t_M_ok n_M hown hK hP hD hS 0 rfl rfl 18 (by decide) (hts _ (List.mem_cons_of_mem _ iw_458)) (fun _ h9 => h9) rfl (by decide +kernel) rfl rfl (Nat.le_of_ble_eq_true rfl) d_M_level_2 (fun H locs hP hD hS => ?_)
  have hP : va_P (dC, dI) vwCl (wMx q (m_liq u) (m_lev u) (m_nS u) (m_fa u) (m_fb u) (m_seat u) (m_op u) (m_un u) (m_nV u) (m_may u) (m_nR u) (m_rf u) (m_rl u) (m_rw u) (m_rc u) (m_cul u) (m_gu u) (m_te u) 0 (m_wet u)) H := hP
  have hD : va_D (va_A (wM q u) s.heap.size) (wMx q (m_liq u) (m_lev u) (m_nS u) (m_fa u) (m_fb u) (m_seat u) (m_op u) (m_un u) (m_nV u) (m_may u) (m_nR u) (m_rf u) (m_rl u) (m_rw u) (m_rc u) (m_cul u) (m_gu u) (m_te u) 0 (m_wet u)) := hD
  refine lv_aload_n hx hb d_M_level_5 rfl (lv_at hl 0 rfl) ?_
  refine lv_iload_n hx hb d_M_level_6 rfl (lv_at hl 1 rfl) ?_
  refine vp_callSi (va_Run.run (va_runV (As := [.int x]) (rest := []) ⟨hx, hb, hml, hown, hts⟩ (c_M_isSpace l dC dI q (m_mk (m_liq u) (m_lev u) (m_nS u) (m_fa u) (m_fb u) (m_seat u) (m_op u) (m_un u) (m_nV u) (m_may u) (m_nR u) (m_rf u) (m_rl u) (m_rw u) (m_rc u) (m_cul u) (m_gu u) (m_te u) 0 (m_wet u)) x) (cwV 1 hts (good_up (good_V iw_510 iw_512 ip_9 iw_5 gg_M_isSpace)) rfl rfl rfl (by decide +kernel) ⟨Nat.le_of_ble_eq_true rfl, Nat.le_of_ble_eq_true rfl⟩) (pv_S [.int x] hN hK hP (ci := 4) (q0 := 0) rfl rfl) rfl rfl hl.1 rfl (lv_room (Nat.le_of_ble_eq_true rfl)) d_M_level_7 ⟨Nat.le_of_ble_eq_true rfl, Nat.le_of_ble_eq_true rfl⟩)) (fun r_1 hr_1 => ?_)
  subst hr_1
  refine b0_ne (tgt := 15) hx hb d_M_level_10 (by decide) (fun c_2 => ?_) (fun c_2 => ?_)
  · obtain ⟨i, hi, rfl⟩ := ixB_of (by show m_nS u < 2 ^ 31; omega) c_2
    have hi : i < m_nS u := hi
    refine lv_aload_n hx hb d_M_level_15 rfl (lv_at hl 0 rfl) ?_
    refine va_get (D := (dC, dI)) (ci := 4) (v := .ref (ma_lev q)) (C := "SeatProofsModel") (T := F_M) (N := 20) hx hb hts (iu_M _) hown hK hP 0 rfl rfl 1 (by decide) (hts _ (List.mem_cons_of_mem _ iw_441)) (fun _ h9 => h9) rfl d_M_level_16 ?_
    refine lv_iload_n hx hb d_M_level_19 rfl (lv_at hl 1 rfl) ?_
    refine lv_lload_n hx hb d_M_level_20 rfl (lv_at hl 2 rfl) ?_
    refine st_l hx hb hK hP hD hS 2 1 rfl rfl (va_up (m_lev u) i h) (by omega) (by decide) (updL_up _ _ _) d_M_level_21 (fun H locs hP hD hS => ?_)
    have hP : va_P (dC, dI) vwCl (wMx q (m_liq u) (va_up (m_lev u) i h) (m_nS u) (m_fa u) (m_fb u) (m_seat u) (m_op u) (m_un u) (m_nV u) (m_may u) (m_nR u) (m_rf u) (m_rl u) (m_rw u) (m_rc u) (m_cul u) (m_gu u) (m_te u) 0 (m_wet u)) H := hP
    have hD : va_D (va_A (wM q u) s.heap.size) (wMx q (m_liq u) (va_up (m_lev u) i h) (m_nS u) (m_fa u) (m_fb u) (m_seat u) (m_op u) (m_un u) (m_nV u) (m_may u) (m_nR u) (m_rf u) (m_rl u) (m_rw u) (m_rc u) (m_cul u) (m_gu u) (m_te u) 0 (m_wet u)) := hD
    refine lv_aload_n hx hb d_M_level_22 rfl (lv_at hl 0 rfl) ?_
    refine lv_iconst (v := nI 0) hx hb d_M_level_23 (by decide) ?_
    refine va_put (D := (dC, dI)) (ci := 4) (v := .int (nI 0)) (ty := .int) (C := "SeatProofsModel") (T := F_M) (N := 20) hx hb hts (iu_M _) t_M t_M_ok n_M hown hK hP hD hS 0 rfl rfl 10 (by decide) (hts _ (List.mem_cons_of_mem _ iw_450)) (fun _ h9 => h9) rfl (by decide +kernel) rfl rfl (Nat.le_of_ble_eq_true rfl) d_M_level_24 (fun H locs hP hD hS => ?_)
    have hP : va_P (dC, dI) vwCl (wMx q (m_liq u) (va_up (m_lev u) i h) (m_nS u) (m_fa u) (m_fb u) (m_seat u) (m_op u) (m_un u) (m_nV u) (m_may u) 0 (m_rf u) (m_rl u) (m_rw u) (m_rc u) (m_cul u) (m_gu u) (m_te u) 0 (m_wet u)) H := hP
    have hD : va_D (va_A (wM q u) s.heap.size) (wMx q (m_liq u) (va_up (m_lev u) i h) (m_nS u) (m_fa u) (m_fb u) (m_seat u) (m_op u) (m_un u) (m_nV u) (m_may u) 0 (m_rf u) (m_rl u) (m_rw u) (m_rc u) (m_cul u) (m_gu u) (m_te u) 0 (m_wet u)) := hD
    refine lv_iconst (v := nI 1) hx hb d_M_level_27 (by decide) ?_
    refine tp_i (bI true) (by decide) ?_
    exact W.zret hx hb hr (bI_narrow _) (fun t9 ht9 hW9 => ⟨⟨_, (m_mk (m_liq u) (va_up (m_lev u) i h) (m_nS u) (m_fa u) (m_fb u) (m_seat u) (m_op u) (m_un u) (m_nV u) (m_may u) 0 (m_rf u) (m_rl u) (m_rw u) (m_rc u) (m_cul u) (m_gu u) (m_te u) 0 (m_wet u)), rfl, ⟨by rw [M_level, if_neg (fun h => absurd (h.symm.trans c_2) (by decide))], by rw [M_level, if_neg (fun h => absurd (h.symm.trans c_2) (by decide)), nI_clamp (by omega)]; first | done | rfl⟩, by rw [ht9]; exact hP, va_K.moved hW9.alike hK, hD⟩, hS.F ht9⟩) hS.2.2 d_M_level_28
  · refine lv_iconst (v := nI 0) hx hb d_M_level_13 (by decide) ?_
    refine tp_i (bI false) (by decide) ?_
    exact W.zret hx hb hr (bI_narrow _) (fun t9 ht9 hW9 => ⟨⟨_, (m_mk (m_liq u) (m_lev u) (m_nS u) (m_fa u) (m_fb u) (m_seat u) (m_op u) (m_un u) (m_nV u) (m_may u) (m_nR u) (m_rf u) (m_rl u) (m_rw u) (m_rc u) (m_cul u) (m_gu u) (m_te u) 0 (m_wet u)), rfl, ⟨by rw [M_level, if_pos c_2], by rw [M_level, if_pos c_2]⟩, by rw [ht9]; exact hP, va_K.moved hW9.alike hK, hD⟩, hS.F ht9⟩) hS.2.2 d_M_level_14
set_option maxHeartbeats 4000000 in
set_option maxRecDepth 100000 in
theorem c_M_may (l : Launch) (dC : Nat → ClassId) (dI : Nat → Nat → Nat) (q : MA) (u : MSt) (sz : Nat) (x y : Int32) : Met l y_M_may w_M_may ({ frames := 0, cells := 0, slots := 0, locals := 0 }) (qPc (dC, dI) vwCl (tM q) (wM q u) sz [Value.ref (ma_o q), Value.int x, Value.int y]) (va_Qi (fun (r : Int32) (z : MSt) => r = bI (M_may u x y).1 ∧ z = (M_may u x y).2) (qB (dC, dI) vwCl (tM q) (wM q u) sz (wM q)) (va_A (wM q u) sz)) 0 0 (va_A (wM q u) sz) := by
  refine Met.ofW (cc := b_M_may) (maxL := 4) (ret := (some .boolean)) (by decide) rfl ?_
  intro p e s m args below meth c s₁ B hml hv
  obtain ⟨rfl, hsz, hP, hK, hD0, hN⟩ := hv
  have hx := B.exec
  have hb := B.bytes
  have hr := B.returns
  have hts := atoms_spec (ws := w_M_may) B.pre
  have hown : s.vm.findClass "SeatProofsModel" = some m.cls := findClass_of_methodNamed B.named
  have hlocks := B.notSynchronized
  subst hsz
  have hD := hD0.self (sz := s.heap.size)
  have hA : ∀ z : Nat, s.heap.size ≤ z → va_A (wM q u) s.heap.size z := fun z h => Or.inr h
  have hS : va_S (va_A (wM q u) s.heap.size) s.heap s.heap [] := va_S.rf
  have hl := lv_entry ([Value.ref (ma_o q), Value.int x, Value.int y]) (n := 4) (Nat.le_of_ble_eq_true rfl)
  rw [lg_entry_eq]
  generalize (lg_sl ([Value.ref (ma_o q), Value.int x, Value.int y]) ++ List.replicate (4 - (lg_sl ([Value.ref (ma_o q), Value.int x, Value.int y])).length) Slot.unset).toArray = ls at hl ⊢
  have hl : lv_has ls 4 [(0, .ref (ma_o q)), (1, .int x), (2, .int y)] := hl
  refine lv_aload_n hx hb d_M_may_0 rfl (lv_at hl 0 rfl) ?_
  refine lv_iconst (v := nI 0) hx hb d_M_may_1 (by decide) ?_
  refine va_put (D := (dC, dI)) (ci := 4) (v := .int (nI 0)) (ty := .int) (C := "SeatProofsModel") (T := F_M) (N := 20) hx hb hts (iu_M _) t_M t_M_ok n_M hown hK hP hD hS 0 rfl rfl 18 (by decide) (hts _ (List.mem_cons_of_mem _ iw_458)) (fun _ h9 => h9) rfl (by decide +kernel) rfl rfl (Nat.le_of_ble_eq_true rfl) d_M_may_2 (fun H locs hP hD hS => ?_)
  have hP : va_P (dC, dI) vwCl (wMx q (m_liq u) (m_lev u) (m_nS u) (m_fa u) (m_fb u) (m_seat u) (m_op u) (m_un u) (m_nV u) (m_may u) (m_nR u) (m_rf u) (m_rl u) (m_rw u) (m_rc u) (m_cul u) (m_gu u) (m_te u) 0 (m_wet u)) H := hP
  have hD : va_D (va_A (wM q u) s.heap.size) (wMx q (m_liq u) (m_lev u) (m_nS u) (m_fa u) (m_fb u) (m_seat u) (m_op u) (m_un u) (m_nV u) (m_may u) (m_nR u) (m_rf u) (m_rl u) (m_rw u) (m_rc u) (m_cul u) (m_gu u) (m_te u) 0 (m_wet u)) := hD
  refine lv_iload_n hx hb d_M_may_5 rfl (lv_at hl 1 rfl) ?_
  refine lv_if_le (tgt := 34) hx hb d_M_may_6 (by decide) (fun c_1 => ?_) (fun c_1 => ?_)
  · refine lv_iconst (v := nI 0) hx hb d_M_may_34 (by decide) ?_
    refine lv_istore_n (lv' := [(3, .int (nI 0)), (0, .ref (ma_o q)), (1, .int x), (2, .int y)]) hx hb d_M_may_35 rfl hl (by decide) rfl (fun ls hl => ?_)
    refine lv_iload_n hx hb d_M_may_36 rfl (lv_at hl 0 rfl) ?_
    refine n0_eq (tgt := 54) hx hb d_M_may_37 (by decide) (by omega) (fun c_2 => ?_) (fun c_2 => ?_)
    · refine lv_iconst (v := nI 0) hx hb d_M_may_54 (by decide) ?_
      refine tp_i (bI false) (by decide) ?_
      exact W.zret hx hb hr (bI_narrow _) (fun t9 ht9 hW9 => ⟨⟨_, (m_mk (m_liq u) (m_lev u) (m_nS u) (m_fa u) (m_fb u) (m_seat u) (m_op u) (m_un u) (m_nV u) (m_may u) (m_nR u) (m_rf u) (m_rl u) (m_rw u) (m_rc u) (m_cul u) (m_gu u) (m_te u) 0 (m_wet u)), rfl, ⟨by rw [M_may, if_pos (Or.inl (Or.inl c_1))], by rw [M_may, if_pos (Or.inl (Or.inl c_1))]⟩, by rw [ht9]; exact hP, va_K.moved hW9.alike hK, hD⟩, hS.F ht9⟩) hS.2.2 d_M_may_55
    · exact absurd c_2 (by decide)
  · refine lv_iload_n hx hb d_M_may_9 rfl (lv_at hl 1 rfl) ?_
    refine lv_bipush (v := nI 16) hx hb d_M_may_10 (by decide) ?_
    refine lv_icmp_ge (tgt := 34) hx hb d_M_may_12 (by decide) (fun c_3 => ?_) (fun c_3 => ?_)
    · refine lv_iconst (v := nI 0) hx hb d_M_may_34 (by decide) ?_
      refine lv_istore_n (lv' := [(3, .int (nI 0)), (0, .ref (ma_o q)), (1, .int x), (2, .int y)]) hx hb d_M_may_35 rfl hl (by decide) rfl (fun ls hl => ?_)
      refine lv_iload_n hx hb d_M_may_36 rfl (lv_at hl 0 rfl) ?_
      refine n0_eq (tgt := 54) hx hb d_M_may_37 (by decide) (by omega) (fun c_4 => ?_) (fun c_4 => ?_)
      · refine lv_iconst (v := nI 0) hx hb d_M_may_54 (by decide) ?_
        refine tp_i (bI false) (by decide) ?_
        exact W.zret hx hb hr (bI_narrow _) (fun t9 ht9 hW9 => ⟨⟨_, (m_mk (m_liq u) (m_lev u) (m_nS u) (m_fa u) (m_fb u) (m_seat u) (m_op u) (m_un u) (m_nV u) (m_may u) (m_nR u) (m_rf u) (m_rl u) (m_rw u) (m_rc u) (m_cul u) (m_gu u) (m_te u) 0 (m_wet u)), rfl, ⟨by rw [M_may, if_pos (Or.inl (Or.inr (Or.inl c_3)))], by rw [M_may, if_pos (Or.inl (Or.inr (Or.inl c_3)))]⟩, by rw [ht9]; exact hP, va_K.moved hW9.alike hK, hD⟩, hS.F ht9⟩) hS.2.2 d_M_may_55
      · exact absurd c_4 (by decide)
    · refine lv_iload_n hx hb d_M_may_15 rfl (lv_at hl 2 rfl) ?_
      refine lv_if_le (tgt := 34) hx hb d_M_may_16 (by decide) (fun c_5 => ?_) (fun c_5 => ?_)
      · refine lv_iconst (v := nI 0) hx hb d_M_may_34 (by decide) ?_
        refine lv_istore_n (lv' := [(3, .int (nI 0)), (0, .ref (ma_o q)), (1, .int x), (2, .int y)]) hx hb d_M_may_35 rfl hl (by decide) rfl (fun ls hl => ?_)
        refine lv_iload_n hx hb d_M_may_36 rfl (lv_at hl 0 rfl) ?_
        refine n0_eq (tgt := 54) hx hb d_M_may_37 (by decide) (by omega) (fun c_6 => ?_) (fun c_6 => ?_)
        · refine lv_iconst (v := nI 0) hx hb d_M_may_54 (by decide) ?_
          refine tp_i (bI false) (by decide) ?_
          exact W.zret hx hb hr (bI_narrow _) (fun t9 ht9 hW9 => ⟨⟨_, (m_mk (m_liq u) (m_lev u) (m_nS u) (m_fa u) (m_fb u) (m_seat u) (m_op u) (m_un u) (m_nV u) (m_may u) (m_nR u) (m_rf u) (m_rl u) (m_rw u) (m_rc u) (m_cul u) (m_gu u) (m_te u) 0 (m_wet u)), rfl, ⟨by rw [M_may, if_pos (Or.inl (Or.inr (Or.inr (Or.inl c_5))))], by rw [M_may, if_pos (Or.inl (Or.inr (Or.inr (Or.inl c_5))))]⟩, by rw [ht9]; exact hP, va_K.moved hW9.alike hK, hD⟩, hS.F ht9⟩) hS.2.2 d_M_may_55
        · exact absurd c_6 (by decide)
      · refine lv_iload_n hx hb d_M_may_19 rfl (lv_at hl 2 rfl) ?_
        refine lv_bipush (v := nI 16) hx hb d_M_may_20 (by decide) ?_
        refine lv_icmp_ge (tgt := 34) hx hb d_M_may_22 (by decide) (fun c_7 => ?_) (fun c_7 => ?_)
        · refine lv_iconst (v := nI 0) hx hb d_M_may_34 (by decide) ?_
          refine lv_istore_n (lv' := [(3, .int (nI 0)), (0, .ref (ma_o q)), (1, .int x), (2, .int y)]) hx hb d_M_may_35 rfl hl (by decide) rfl (fun ls hl => ?_)
          refine lv_iload_n hx hb d_M_may_36 rfl (lv_at hl 0 rfl) ?_
          refine n0_eq (tgt := 54) hx hb d_M_may_37 (by decide) (by omega) (fun c_8 => ?_) (fun c_8 => ?_)
          · refine lv_iconst (v := nI 0) hx hb d_M_may_54 (by decide) ?_
            refine tp_i (bI false) (by decide) ?_
            exact W.zret hx hb hr (bI_narrow _) (fun t9 ht9 hW9 => ⟨⟨_, (m_mk (m_liq u) (m_lev u) (m_nS u) (m_fa u) (m_fb u) (m_seat u) (m_op u) (m_un u) (m_nV u) (m_may u) (m_nR u) (m_rf u) (m_rl u) (m_rw u) (m_rc u) (m_cul u) (m_gu u) (m_te u) 0 (m_wet u)), rfl, ⟨by rw [M_may, if_pos (Or.inl (Or.inr (Or.inr (Or.inr (Or.inl c_7)))))], by rw [M_may, if_pos (Or.inl (Or.inr (Or.inr (Or.inr (Or.inl c_7)))))]⟩, by rw [ht9]; exact hP, va_K.moved hW9.alike hK, hD⟩, hS.F ht9⟩) hS.2.2 d_M_may_55
          · exact absurd c_8 (by decide)
        · refine lv_iload_n hx hb d_M_may_25 rfl (lv_at hl 1 rfl) ?_
          refine lv_iload_n hx hb d_M_may_26 rfl (lv_at hl 2 rfl) ?_
          refine lv_icmp_eq (tgt := 34) hx hb d_M_may_27 (by decide) (fun c_9 => ?_) (fun c_9 => ?_)
          · refine lv_iconst (v := nI 0) hx hb d_M_may_34 (by decide) ?_
            refine lv_istore_n (lv' := [(3, .int (nI 0)), (0, .ref (ma_o q)), (1, .int x), (2, .int y)]) hx hb d_M_may_35 rfl hl (by decide) rfl (fun ls hl => ?_)
            refine lv_iload_n hx hb d_M_may_36 rfl (lv_at hl 0 rfl) ?_
            refine n0_eq (tgt := 54) hx hb d_M_may_37 (by decide) (by omega) (fun c_10 => ?_) (fun c_10 => ?_)
            · refine lv_iconst (v := nI 0) hx hb d_M_may_54 (by decide) ?_
              refine tp_i (bI false) (by decide) ?_
              exact W.zret hx hb hr (bI_narrow _) (fun t9 ht9 hW9 => ⟨⟨_, (m_mk (m_liq u) (m_lev u) (m_nS u) (m_fa u) (m_fb u) (m_seat u) (m_op u) (m_un u) (m_nV u) (m_may u) (m_nR u) (m_rf u) (m_rl u) (m_rw u) (m_rc u) (m_cul u) (m_gu u) (m_te u) 0 (m_wet u)), rfl, ⟨by rw [M_may, if_pos (Or.inl (Or.inr (Or.inr (Or.inr (Or.inr c_9)))))], by rw [M_may, if_pos (Or.inl (Or.inr (Or.inr (Or.inr (Or.inr c_9)))))]⟩, by rw [ht9]; exact hP, va_K.moved hW9.alike hK, hD⟩, hS.F ht9⟩) hS.2.2 d_M_may_55
            · exact absurd c_10 (by decide)
          · have hnx : ¬ x = y := c_9
            obtain ⟨i, hi, rfl⟩ := ixB_of (n := 16) (by decide) (decide_eq_true ⟨fun q => c_1 (Int32.le_of_lt q), c_3⟩)
            obtain ⟨j, hj, rfl⟩ := ixB_of (n := 16) (by decide) (decide_eq_true ⟨fun q => c_5 (Int32.le_of_lt q), c_7⟩)
            refine lv_iconst (v := nI 1) hx hb d_M_may_30 (by decide) ?_
            refine lv_goto (tgt := 35) hx hb d_M_may_31 (by decide) ?_
            refine lv_istore_n (lv' := [(3, .int (nI 1)), (0, .ref (ma_o q)), (1, .int (nI i)), (2, .int (nI j))]) hx hb d_M_may_35 rfl hl (by decide) rfl (fun ls hl => ?_)
            refine lv_iload_n hx hb d_M_may_36 rfl (lv_at hl 0 rfl) ?_
            refine n0_eq (tgt := 54) hx hb d_M_may_37 (by decide) (by omega) (fun c_11 => ?_) (fun c_11 => ?_)
            · exact absurd c_11 (by decide)
            · refine lv_aload_n hx hb d_M_may_40 rfl (lv_at hl 1 rfl) ?_
              refine va_get (D := (dC, dI)) (ci := 4) (v := .ref (ma_may q)) (C := "SeatProofsModel") (T := F_M) (N := 20) hx hb hts (iu_M _) hown hK hP 0 rfl rfl 9 (by decide) (hts _ (List.mem_cons_of_mem _ iw_449)) (fun _ h9 => h9) rfl d_M_may_41 ?_
              refine lv_bipush (v := nI 16) hx hb d_M_may_44 (by decide) ?_
              refine lv_iload_n hx hb d_M_may_46 rfl (lv_at hl 2 rfl) ?_
              refine lv_imul hx hb d_M_may_47 ?_
              refine tp_i (nI (16 * i)) (pk_mul _ _) ?_
              refine lv_iload_n hx hb d_M_may_48 rfl (lv_at hl 3 rfl) ?_
              refine lv_iadd hx hb d_M_may_49 ?_
              refine tp_i (nI ((16 * i) + j)) (nI_add _ _) ?_
              refine ld_z hx hb hK hP 8 2 rfl rfl (bI (m_may u ((16 * i) + j))) (by omega) (by decide) rfl d_M_may_50 ?_
              refine b0_eq (tgt := 56) hx hb d_M_may_51 (by decide) (fun c_12 => ?_) (fun c_12 => ?_)
              · refine lv_aload_n hx hb d_M_may_56 rfl (lv_at hl 1 rfl) ?_
                refine va_get (D := (dC, dI)) (ci := 4) (v := .ref (ma_may q)) (C := "SeatProofsModel") (T := F_M) (N := 20) hx hb hts (iu_M _) hown hK hP 0 rfl rfl 9 (by decide) (hts _ (List.mem_cons_of_mem _ iw_449)) (fun _ h9 => h9) rfl d_M_may_57 ?_
                refine lv_bipush (v := nI 16) hx hb d_M_may_60 (by decide) ?_
                refine lv_iload_n hx hb d_M_may_62 rfl (lv_at hl 2 rfl) ?_
                refine lv_imul hx hb d_M_may_63 ?_
                refine tp_i (nI (16 * i)) (pk_mul _ _) ?_
                refine lv_iload_n hx hb d_M_may_64 rfl (lv_at hl 3 rfl) ?_
                refine lv_iadd hx hb d_M_may_65 ?_
                refine tp_i (nI ((16 * i) + j)) (nI_add _ _) ?_
                refine lv_iconst (v := nI 1) hx hb d_M_may_66 (by decide) ?_
                refine tp_i (bI true) (by decide) ?_
                refine st_z hx hb hK hP hD hS 8 2 rfl rfl (fun j9 => bI (va_up (m_may u) ((16 * i) + j) true j9)) (by omega) (by decide) (upd_bI _ _ _) d_M_may_67 (fun H locs hP hD hS => ?_)
                have hP : va_P (dC, dI) vwCl (wMx q (m_liq u) (m_lev u) (m_nS u) (m_fa u) (m_fb u) (m_seat u) (m_op u) (m_un u) (m_nV u) (va_up (m_may u) ((16 * i) + j) true) (m_nR u) (m_rf u) (m_rl u) (m_rw u) (m_rc u) (m_cul u) (m_gu u) (m_te u) 0 (m_wet u)) H := hP
                have hD : va_D (va_A (wM q u) s.heap.size) (wMx q (m_liq u) (m_lev u) (m_nS u) (m_fa u) (m_fb u) (m_seat u) (m_op u) (m_un u) (m_nV u) (va_up (m_may u) ((16 * i) + j) true) (m_nR u) (m_rf u) (m_rl u) (m_rw u) (m_rc u) (m_cul u) (m_gu u) (m_te u) 0 (m_wet u)) := hD
                refine lv_aload_n hx hb d_M_may_68 rfl (lv_at hl 1 rfl) ?_
                refine va_get (D := (dC, dI)) (ci := 4) (v := .ref (ma_may q)) (C := "SeatProofsModel") (T := F_M) (N := 20) hx hb hts (iu_M _) hown hK hP 0 rfl rfl 9 (by decide) (hts _ (List.mem_cons_of_mem _ iw_449)) (fun _ h9 => h9) rfl d_M_may_69 ?_
                refine lv_bipush (v := nI 16) hx hb d_M_may_72 (by decide) ?_
                refine lv_iload_n hx hb d_M_may_74 rfl (lv_at hl 3 rfl) ?_
                refine lv_imul hx hb d_M_may_75 ?_
                refine tp_i (nI (16 * j)) (pk_mul _ _) ?_
                refine lv_iload_n hx hb d_M_may_76 rfl (lv_at hl 2 rfl) ?_
                refine lv_iadd hx hb d_M_may_77 ?_
                refine tp_i (nI ((16 * j) + i)) (nI_add _ _) ?_
                refine lv_iconst (v := nI 1) hx hb d_M_may_78 (by decide) ?_
                refine tp_i (bI true) (by decide) ?_
                refine st_z hx hb hK hP hD hS 8 2 rfl rfl (fun j9 => bI (va_up (va_up (m_may u) ((16 * i) + j) true) ((16 * j) + i) true j9)) (by omega) (by decide) (upd_bI _ _ _) d_M_may_79 (fun H locs hP hD hS => ?_)
                have hP : va_P (dC, dI) vwCl (wMx q (m_liq u) (m_lev u) (m_nS u) (m_fa u) (m_fb u) (m_seat u) (m_op u) (m_un u) (m_nV u) (va_up (va_up (m_may u) ((16 * i) + j) true) ((16 * j) + i) true) (m_nR u) (m_rf u) (m_rl u) (m_rw u) (m_rc u) (m_cul u) (m_gu u) (m_te u) 0 (m_wet u)) H := hP
                have hD : va_D (va_A (wM q u) s.heap.size) (wMx q (m_liq u) (m_lev u) (m_nS u) (m_fa u) (m_fb u) (m_seat u) (m_op u) (m_un u) (m_nV u) (va_up (va_up (m_may u) ((16 * i) + j) true) ((16 * j) + i) true) (m_nR u) (m_rf u) (m_rl u) (m_rw u) (m_rc u) (m_cul u) (m_gu u) (m_te u) 0 (m_wet u)) := hD
                refine lv_aload_n hx hb d_M_may_80 rfl (lv_at hl 1 rfl) ?_
                refine lv_iconst (v := nI 0) hx hb d_M_may_81 (by decide) ?_
                refine va_put (D := (dC, dI)) (ci := 4) (v := .int (nI 0)) (ty := .int) (C := "SeatProofsModel") (T := F_M) (N := 20) hx hb hts (iu_M _) t_M t_M_ok n_M hown hK hP hD hS 0 rfl rfl 10 (by decide) (hts _ (List.mem_cons_of_mem _ iw_450)) (fun _ h9 => h9) rfl (by decide +kernel) rfl rfl (Nat.le_of_ble_eq_true rfl) d_M_may_82 (fun H locs hP hD hS => ?_)
                have hP : va_P (dC, dI) vwCl (wMx q (m_liq u) (m_lev u) (m_nS u) (m_fa u) (m_fb u) (m_seat u) (m_op u) (m_un u) (m_nV u) (va_up (va_up (m_may u) ((16 * i) + j) true) ((16 * j) + i) true) 0 (m_rf u) (m_rl u) (m_rw u) (m_rc u) (m_cul u) (m_gu u) (m_te u) 0 (m_wet u)) H := hP
                have hD : va_D (va_A (wM q u) s.heap.size) (wMx q (m_liq u) (m_lev u) (m_nS u) (m_fa u) (m_fb u) (m_seat u) (m_op u) (m_un u) (m_nV u) (va_up (va_up (m_may u) ((16 * i) + j) true) ((16 * j) + i) true) 0 (m_rf u) (m_rl u) (m_rw u) (m_rc u) (m_cul u) (m_gu u) (m_te u) 0 (m_wet u)) := hD
                refine lv_iconst (v := nI 1) hx hb d_M_may_85 (by decide) ?_
                refine tp_i (bI true) (by decide) ?_
                exact W.zret hx hb hr (bI_narrow _) (fun t9 ht9 hW9 => ⟨⟨_, (m_mk (m_liq u) (m_lev u) (m_nS u) (m_fa u) (m_fb u) (m_seat u) (m_op u) (m_un u) (m_nV u) (va_up (va_up (m_may u) ((16 * i) + j) true) ((16 * j) + i) true) 0 (m_rf u) (m_rl u) (m_rw u) (m_rc u) (m_cul u) (m_gu u) (m_te u) 0 (m_wet u)), rfl, ⟨by rw [M_may, if_neg (fun h => by rcases h with (h | h | h | h | h) | h <;> first | exact c_1 h | exact c_3 h | exact c_5 h | exact c_7 h | exact hnx h | (rw [nI_clamp (show i < 2 ^ 31 by omega), nI_clamp (show j < 2 ^ 31 by omega)] at h; exact absurd (h.symm.trans c_12) (by decide)))], by rw [M_may, if_neg (fun h => by rcases h with (h | h | h | h | h) | h <;> first | exact c_1 h | exact c_3 h | exact c_5 h | exact c_7 h | exact hnx h | (rw [nI_clamp (show i < 2 ^ 31 by omega), nI_clamp (show j < 2 ^ 31 by omega)] at h; exact absurd (h.symm.trans c_12) (by decide))), nI_clamp (show i < 2 ^ 31 by omega), nI_clamp (show j < 2 ^ 31 by omega)]; first | done | rfl⟩, by rw [ht9]; exact hP, va_K.moved hW9.alike hK, hD⟩, hS.F ht9⟩) hS.2.2 d_M_may_86
              · refine lv_iconst (v := nI 0) hx hb d_M_may_54 (by decide) ?_
                refine tp_i (bI false) (by decide) ?_
                exact W.zret hx hb hr (bI_narrow _) (fun t9 ht9 hW9 => ⟨⟨_, (m_mk (m_liq u) (m_lev u) (m_nS u) (m_fa u) (m_fb u) (m_seat u) (m_op u) (m_un u) (m_nV u) (m_may u) (m_nR u) (m_rf u) (m_rl u) (m_rw u) (m_rc u) (m_cul u) (m_gu u) (m_te u) 0 (m_wet u)), rfl, ⟨by rw [M_may, if_pos (Or.inr (by rw [nI_clamp (show i < 2 ^ 31 by omega), nI_clamp (show j < 2 ^ 31 by omega)]; exact c_12))], by rw [M_may, if_pos (Or.inr (by rw [nI_clamp (show i < 2 ^ 31 by omega), nI_clamp (show j < 2 ^ 31 by omega)]; exact c_12))]⟩, by rw [ht9]; exact hP, va_K.moved hW9.alike hK, hD⟩, hS.F ht9⟩) hS.2.2 d_M_may_55
set_option maxHeartbeats 4000000 in
set_option maxRecDepth 100000 in
theorem c_M_unsure (l : Launch) (dC : Nat → ClassId) (dI : Nat → Nat → Nat) (q : MA) (u : MSt) (sz : Nat) (x : Int32) (b : Bool) (hu : MOk u) : Met l y_M_unsure w_M_unsure ({ frames := 0, cells := 0, slots := 0, locals := 0 }) (qPc (dC, dI) vwCl (tM q) (wM q u) sz [Value.ref (ma_o q), Value.int x, Value.int (bI b)]) (va_Qi (fun (r : Int32) (z : MSt) => r = bI (M_unsure u x b).1 ∧ z = (M_unsure u x b).2) (qB (dC, dI) vwCl (tM q) (wM q u) sz (wM q)) (va_A (wM q u) sz)) 0 0 (va_A (wM q u) sz) := by
  refine Met.ofW (cc := b_M_unsure) (maxL := 3) (ret := (some .boolean)) (by decide) rfl ?_
  intro p e s m args below meth c s₁ B hml hv
  obtain ⟨rfl, hsz, hP, hK, hD0, hN⟩ := hv
  have hx := B.exec
  have hb := B.bytes
  have hr := B.returns
  have hts := atoms_spec (ws := w_M_unsure) B.pre
  have hown : s.vm.findClass "SeatProofsModel" = some m.cls := findClass_of_methodNamed B.named
  have hlocks := B.notSynchronized
  subst hsz
  have hD := hD0.self (sz := s.heap.size)
  have hA : ∀ z : Nat, s.heap.size ≤ z → va_A (wM q u) s.heap.size z := fun z h => Or.inr h
  have hS : va_S (va_A (wM q u) s.heap.size) s.heap s.heap [] := va_S.rf
  have hl := lv_entry ([Value.ref (ma_o q), Value.int x, Value.int (bI b)]) (n := 3) (Nat.le_of_ble_eq_true rfl)
  rw [lg_entry_eq]
  generalize (lg_sl ([Value.ref (ma_o q), Value.int x, Value.int (bI b)]) ++ List.replicate (3 - (lg_sl ([Value.ref (ma_o q), Value.int x, Value.int (bI b)])).length) Slot.unset).toArray = ls at hl ⊢
  have hl : lv_has ls 3 [(0, .ref (ma_o q)), (1, .int x), (2, .int (bI b))] := hl
  obtain ⟨k1, k2, k3, k4, k5, k6, k7, k8, k9, k10, k11⟩ := id hu
  refine lv_aload_n hx hb d_M_unsure_0 rfl (lv_at hl 0 rfl) ?_
  refine lv_iload_n hx hb d_M_unsure_1 rfl (lv_at hl 1 rfl) ?_
  refine lv_if_lt (tgt := 13) hx hb d_M_unsure_2 (by decide) (fun c_1 => ?_) (fun c_1 => ?_)
  · refine lv_iconst (v := nI 1) hx hb d_M_unsure_13 (by decide) ?_
    refine lv_goto (tgt := 18) hx hb d_M_unsure_14 (by decide) ?_
    refine va_put (D := (dC, dI)) (ci := 4) (v := .int (nI 1)) (ty := .int) (C := "SeatProofsModel") (T := F_M) (N := 20) hx hb hts (iu_M _) t_M t_M_ok n_M hown hK hP hD hS 0 rfl rfl 18 (by decide) (hts _ (List.mem_cons_of_mem _ iw_458)) (fun _ h9 => h9) rfl (by decide +kernel) rfl rfl (Nat.le_of_ble_eq_true rfl) d_M_unsure_18 (fun H locs hP hD hS => ?_)
    have hP : va_P (dC, dI) vwCl (wMx q (m_liq u) (m_lev u) (m_nS u) (m_fa u) (m_fb u) (m_seat u) (m_op u) (m_un u) (m_nV u) (m_may u) (m_nR u) (m_rf u) (m_rl u) (m_rw u) (m_rc u) (m_cul u) (m_gu u) (m_te u) 1 (m_wet u)) H := hP
    have hD : va_D (va_A (wM q u) s.heap.size) (wMx q (m_liq u) (m_lev u) (m_nS u) (m_fa u) (m_fb u) (m_seat u) (m_op u) (m_un u) (m_nV u) (m_may u) (m_nR u) (m_rf u) (m_rl u) (m_rw u) (m_rc u) (m_cul u) (m_gu u) (m_te u) 1 (m_wet u)) := hD
    refine lv_aload_n hx hb d_M_unsure_21 rfl (lv_at hl 0 rfl) ?_
    refine va_get (D := (dC, dI)) (ci := 4) (v := .int (nI 1)) (C := "SeatProofsModel") (T := F_M) (N := 20) hx hb hts (iu_M _) hown hK hP 0 rfl rfl 18 (by decide) (hts _ (List.mem_cons_of_mem _ iw_458)) (fun _ h9 => h9) rfl d_M_unsure_22 ?_
    refine n0_gt (tgt := 38) hx hb d_M_unsure_25 (by decide) (by omega) (fun c_2 => ?_) (fun c_2 => ?_)
    · refine lv_iconst (v := nI 0) hx hb d_M_unsure_38 (by decide) ?_
      refine tp_i (bI false) (by decide) ?_
      exact W.zret hx hb hr (bI_narrow _) (fun t9 ht9 hW9 => ⟨⟨_, (m_mk (m_liq u) (m_lev u) (m_nS u) (m_fa u) (m_fb u) (m_seat u) (m_op u) (m_un u) (m_nV u) (m_may u) (m_nR u) (m_rf u) (m_rl u) (m_rw u) (m_rc u) (m_cul u) (m_gu u) (m_te u) 1 (m_wet u)), rfl, ⟨by rw [M_unsure, if_pos (ixB_lo c_1)], by rw [M_unsure, if_pos (ixB_lo c_1)]; first | done | rfl⟩, by rw [ht9]; exact hP, va_K.moved hW9.alike hK, hD⟩, hS.F ht9⟩) hS.2.2 d_M_unsure_39
    · exact absurd c_2 (by decide)
  · refine lv_iload_n hx hb d_M_unsure_5 rfl (lv_at hl 1 rfl) ?_
    refine lv_aload_n hx hb d_M_unsure_6 rfl (lv_at hl 0 rfl) ?_
    refine va_get (D := (dC, dI)) (ci := 4) (v := .int (nI (m_nV u))) (C := "SeatProofsModel") (T := F_M) (N := 20) hx hb hts (iu_M _) hown hK hP 0 rfl rfl 8 (by decide) (hts _ (List.mem_cons_of_mem _ iw_448)) (fun _ h9 => h9) rfl d_M_unsure_7 ?_
    refine lv_icmp_lt (tgt := 17) hx hb d_M_unsure_10 (by decide) (fun c_3 => ?_) (fun c_3 => ?_)
    · have hux : ixB x (m_nV u) = true := decide_eq_true ⟨c_1, Int32.not_le.mpr c_3⟩
      obtain ⟨i, hi, rfl⟩ := ixB_of (by show m_nV u < 2 ^ 31; omega) hux
      have hi : i < m_nV u := hi
      refine lv_iconst (v := nI 0) hx hb d_M_unsure_17 (by decide) ?_
      refine va_put (D := (dC, dI)) (ci := 4) (v := .int (nI 0)) (ty := .int) (C := "SeatProofsModel") (T := F_M) (N := 20) hx hb hts (iu_M _) t_M t_M_ok n_M hown hK hP hD hS 0 rfl rfl 18 (by decide) (hts _ (List.mem_cons_of_mem _ iw_458)) (fun _ h9 => h9) rfl (by decide +kernel) rfl rfl (Nat.le_of_ble_eq_true rfl) d_M_unsure_18 (fun H locs hP hD hS => ?_)
      have hP : va_P (dC, dI) vwCl (wMx q (m_liq u) (m_lev u) (m_nS u) (m_fa u) (m_fb u) (m_seat u) (m_op u) (m_un u) (m_nV u) (m_may u) (m_nR u) (m_rf u) (m_rl u) (m_rw u) (m_rc u) (m_cul u) (m_gu u) (m_te u) 0 (m_wet u)) H := hP
      have hD : va_D (va_A (wM q u) s.heap.size) (wMx q (m_liq u) (m_lev u) (m_nS u) (m_fa u) (m_fb u) (m_seat u) (m_op u) (m_un u) (m_nV u) (m_may u) (m_nR u) (m_rf u) (m_rl u) (m_rw u) (m_rc u) (m_cul u) (m_gu u) (m_te u) 0 (m_wet u)) := hD
      refine lv_aload_n hx hb d_M_unsure_21 rfl (lv_at hl 0 rfl) ?_
      refine va_get (D := (dC, dI)) (ci := 4) (v := .int (nI 0)) (C := "SeatProofsModel") (T := F_M) (N := 20) hx hb hts (iu_M _) hown hK hP 0 rfl rfl 18 (by decide) (hts _ (List.mem_cons_of_mem _ iw_458)) (fun _ h9 => h9) rfl d_M_unsure_22 ?_
      refine n0_gt (tgt := 38) hx hb d_M_unsure_25 (by decide) (by omega) (fun c_4 => ?_) (fun c_4 => ?_)
      · exact absurd c_4 (by decide)
      · refine lv_aload_n hx hb d_M_unsure_28 rfl (lv_at hl 0 rfl) ?_
        refine va_get (D := (dC, dI)) (ci := 4) (v := .ref (ma_un q)) (C := "SeatProofsModel") (T := F_M) (N := 20) hx hb hts (iu_M _) hown hK hP 0 rfl rfl 7 (by decide) (hts _ (List.mem_cons_of_mem _ iw_447)) (fun _ h9 => h9) rfl d_M_unsure_29 ?_
        refine lv_iload_n hx hb d_M_unsure_32 rfl (lv_at hl 1 rfl) ?_
        refine ld_z hx hb hK hP 7 2 rfl rfl (bI (m_un u i)) (by omega) (by decide) rfl d_M_unsure_33 ?_
        refine lv_iload_n hx hb d_M_unsure_34 rfl (lv_at hl 2 rfl) ?_
        refine bv_ne (tgt := 40) hx hb d_M_unsure_35 (by decide) (fun c_5 => ?_) (fun c_5 => ?_)
        · refine lv_aload_n hx hb d_M_unsure_40 rfl (lv_at hl 0 rfl) ?_
          refine va_get (D := (dC, dI)) (ci := 4) (v := .ref (ma_un q)) (C := "SeatProofsModel") (T := F_M) (N := 20) hx hb hts (iu_M _) hown hK hP 0 rfl rfl 7 (by decide) (hts _ (List.mem_cons_of_mem _ iw_447)) (fun _ h9 => h9) rfl d_M_unsure_41 ?_
          refine lv_iload_n hx hb d_M_unsure_44 rfl (lv_at hl 1 rfl) ?_
          refine lv_iload_n hx hb d_M_unsure_45 rfl (lv_at hl 2 rfl) ?_
          refine st_z hx hb hK hP hD hS 7 2 rfl rfl (fun j9 => bI (va_up (m_un u) i b j9)) (by omega) (by decide) (upd_bI _ _ _) d_M_unsure_46 (fun H locs hP hD hS => ?_)
          have hP : va_P (dC, dI) vwCl (wMx q (m_liq u) (m_lev u) (m_nS u) (m_fa u) (m_fb u) (m_seat u) (m_op u) (va_up (m_un u) i b) (m_nV u) (m_may u) (m_nR u) (m_rf u) (m_rl u) (m_rw u) (m_rc u) (m_cul u) (m_gu u) (m_te u) 0 (m_wet u)) H := hP
          have hD : va_D (va_A (wM q u) s.heap.size) (wMx q (m_liq u) (m_lev u) (m_nS u) (m_fa u) (m_fb u) (m_seat u) (m_op u) (va_up (m_un u) i b) (m_nV u) (m_may u) (m_nR u) (m_rf u) (m_rl u) (m_rw u) (m_rc u) (m_cul u) (m_gu u) (m_te u) 0 (m_wet u)) := hD
          refine lv_aload_n hx hb d_M_unsure_47 rfl (lv_at hl 0 rfl) ?_
          refine lv_iconst (v := nI 0) hx hb d_M_unsure_48 (by decide) ?_
          refine va_put (D := (dC, dI)) (ci := 4) (v := .int (nI 0)) (ty := .int) (C := "SeatProofsModel") (T := F_M) (N := 20) hx hb hts (iu_M _) t_M t_M_ok n_M hown hK hP hD hS 0 rfl rfl 10 (by decide) (hts _ (List.mem_cons_of_mem _ iw_450)) (fun _ h9 => h9) rfl (by decide +kernel) rfl rfl (Nat.le_of_ble_eq_true rfl) d_M_unsure_49 (fun H locs hP hD hS => ?_)
          have hP : va_P (dC, dI) vwCl (wMx q (m_liq u) (m_lev u) (m_nS u) (m_fa u) (m_fb u) (m_seat u) (m_op u) (va_up (m_un u) i b) (m_nV u) (m_may u) 0 (m_rf u) (m_rl u) (m_rw u) (m_rc u) (m_cul u) (m_gu u) (m_te u) 0 (m_wet u)) H := hP
          have hD : va_D (va_A (wM q u) s.heap.size) (wMx q (m_liq u) (m_lev u) (m_nS u) (m_fa u) (m_fb u) (m_seat u) (m_op u) (va_up (m_un u) i b) (m_nV u) (m_may u) 0 (m_rf u) (m_rl u) (m_rw u) (m_rc u) (m_cul u) (m_gu u) (m_te u) 0 (m_wet u)) := hD
          refine lv_iconst (v := nI 1) hx hb d_M_unsure_52 (by decide) ?_
          refine tp_i (bI true) (by decide) ?_
          exact W.zret hx hb hr (bI_narrow _) (fun t9 ht9 hW9 => ⟨⟨_, (m_mk (m_liq u) (m_lev u) (m_nS u) (m_fa u) (m_fb u) (m_seat u) (m_op u) (va_up (m_un u) i b) (m_nV u) (m_may u) 0 (m_rf u) (m_rl u) (m_rw u) (m_rc u) (m_cul u) (m_gu u) (m_te u) 0 (m_wet u)), rfl, ⟨by rw [M_unsure, if_neg (fun h => absurd (h.symm.trans hux) (by decide)), nI_clamp (show i < 2 ^ 31 by omega), if_neg c_5], by rw [M_unsure, if_neg (fun h => absurd (h.symm.trans hux) (by decide)), nI_clamp (show i < 2 ^ 31 by omega), if_neg c_5]; first | done | rfl⟩, by rw [ht9]; exact hP, va_K.moved hW9.alike hK, hD⟩, hS.F ht9⟩) hS.2.2 d_M_unsure_53
        · refine lv_iconst (v := nI 0) hx hb d_M_unsure_38 (by decide) ?_
          refine tp_i (bI false) (by decide) ?_
          exact W.zret hx hb hr (bI_narrow _) (fun t9 ht9 hW9 => ⟨⟨_, (m_mk (m_liq u) (m_lev u) (m_nS u) (m_fa u) (m_fb u) (m_seat u) (m_op u) (m_un u) (m_nV u) (m_may u) (m_nR u) (m_rf u) (m_rl u) (m_rw u) (m_rc u) (m_cul u) (m_gu u) (m_te u) 0 (m_wet u)), rfl, ⟨by rw [M_unsure, if_neg (fun h => absurd (h.symm.trans hux) (by decide)), nI_clamp (show i < 2 ^ 31 by omega), if_pos c_5], by rw [M_unsure, if_neg (fun h => absurd (h.symm.trans hux) (by decide)), nI_clamp (show i < 2 ^ 31 by omega), if_pos c_5]⟩, by rw [ht9]; exact hP, va_K.moved hW9.alike hK, hD⟩, hS.F ht9⟩) hS.2.2 d_M_unsure_39
    · refine lv_iconst (v := nI 1) hx hb d_M_unsure_13 (by decide) ?_
      refine lv_goto (tgt := 18) hx hb d_M_unsure_14 (by decide) ?_
      refine va_put (D := (dC, dI)) (ci := 4) (v := .int (nI 1)) (ty := .int) (C := "SeatProofsModel") (T := F_M) (N := 20) hx hb hts (iu_M _) t_M t_M_ok n_M hown hK hP hD hS 0 rfl rfl 18 (by decide) (hts _ (List.mem_cons_of_mem _ iw_458)) (fun _ h9 => h9) rfl (by decide +kernel) rfl rfl (Nat.le_of_ble_eq_true rfl) d_M_unsure_18 (fun H locs hP hD hS => ?_)
      have hP : va_P (dC, dI) vwCl (wMx q (m_liq u) (m_lev u) (m_nS u) (m_fa u) (m_fb u) (m_seat u) (m_op u) (m_un u) (m_nV u) (m_may u) (m_nR u) (m_rf u) (m_rl u) (m_rw u) (m_rc u) (m_cul u) (m_gu u) (m_te u) 1 (m_wet u)) H := hP
      have hD : va_D (va_A (wM q u) s.heap.size) (wMx q (m_liq u) (m_lev u) (m_nS u) (m_fa u) (m_fb u) (m_seat u) (m_op u) (m_un u) (m_nV u) (m_may u) (m_nR u) (m_rf u) (m_rl u) (m_rw u) (m_rc u) (m_cul u) (m_gu u) (m_te u) 1 (m_wet u)) := hD
      refine lv_aload_n hx hb d_M_unsure_21 rfl (lv_at hl 0 rfl) ?_
      refine va_get (D := (dC, dI)) (ci := 4) (v := .int (nI 1)) (C := "SeatProofsModel") (T := F_M) (N := 20) hx hb hts (iu_M _) hown hK hP 0 rfl rfl 18 (by decide) (hts _ (List.mem_cons_of_mem _ iw_458)) (fun _ h9 => h9) rfl d_M_unsure_22 ?_
      refine n0_gt (tgt := 38) hx hb d_M_unsure_25 (by decide) (by omega) (fun c_6 => ?_) (fun c_6 => ?_)
      · refine lv_iconst (v := nI 0) hx hb d_M_unsure_38 (by decide) ?_
        refine tp_i (bI false) (by decide) ?_
        exact W.zret hx hb hr (bI_narrow _) (fun t9 ht9 hW9 => ⟨⟨_, (m_mk (m_liq u) (m_lev u) (m_nS u) (m_fa u) (m_fb u) (m_seat u) (m_op u) (m_un u) (m_nV u) (m_may u) (m_nR u) (m_rf u) (m_rl u) (m_rw u) (m_rc u) (m_cul u) (m_gu u) (m_te u) 1 (m_wet u)), rfl, ⟨by rw [M_unsure, if_pos (ixB_nl c_3)], by rw [M_unsure, if_pos (ixB_nl c_3)]; first | done | rfl⟩, by rw [ht9]; exact hP, va_K.moved hW9.alike hK, hD⟩, hS.F ht9⟩) hS.2.2 d_M_unsure_39
      · exact absurd c_6 (by decide)
