set_option maxHeartbeats 4000000 in
set_option maxRecDepth 100000 in
theorem t_S_set (l : Launch) (dC : Nat → ClassId) (dI : Nat → Nat → Nat) (q : CA) (u : CSt) (hfl : l.flags = pinnedFlags ++ [noTraceFlag]) (x : Int32) (b : Bool) (hx9 : ixB x (k_nV u) = false) : MetT l y_S_set w_S_set ({ frames := 6, cells := 1, slots := 6, locals := 111 }) (tPc (dC, dI) vwCl (tC q) (wC q u) [Value.ref (ca_o q), Value.int x, Value.int (bI b)]) := by
  refine MetT.ofW (cc := b_S_set) (maxL := 3) (ret := (some .boolean)) (by decide) rfl ?_
  intro p e s m args below meth c s₁ B hml hv
  obtain ⟨rfl, hP, hK, hN, hTW⟩ := hv
  have hx := B.exec
  have hb := B.bytes
  have hr := B.returns
  have hts := atoms_spec (ws := w_S_set) B.pre
  have hown : s.vm.findClass "SeatProofs" = some m.cls := findClass_of_methodNamed B.named
  have hlocks := B.notSynchronized
  have hl := lv_entry ([Value.ref (ca_o q), Value.int x, Value.int (bI b)]) (n := 3) (Nat.le_of_ble_eq_true rfl)
  rw [lg_entry_eq]
  generalize (lg_sl ([Value.ref (ca_o q), Value.int x, Value.int (bI b)]) ++ List.replicate (3 - (lg_sl ([Value.ref (ca_o q), Value.int x, Value.int (bI b)])).length) Slot.unset).toArray = ls at hl ⊢
  have hl : lv_has ls 3 [(0, .ref (ca_o q)), (1, .int x), (2, .int (bI b))] := hl
  refine lv_aload_n hx hb d_S_set_0 rfl (lv_at hl 0 rfl) ?_
  refine va_get (D := (dC, dI)) (ci := 3) (v := .ref (ca_p q)) (C := "SeatProofs") (T := F_S) (N := 6) hx hb hts (iu_S _) hown hK hP 0 rfl rfl 0 (by decide) (hts _ (List.mem_cons_of_mem _ iw_124)) (fun _ h9 => h9) rfl d_S_set_1 ?_
  refine lv_iload_n hx hb d_S_set_4 rfl (lv_at hl 1 rfl) ?_
  refine vp_callSi (va_Run.run (va_runV (As := [.int x]) (rest := []) ⟨hx, hb, hml, hown, hts⟩ (c_P_hasValve l dC dI q u x) (cwV 1 hts (good_up (good_V iw_338 iw_339 iw_340 iw_2 gg_P_hasValve)) rfl rfl rfl (by decide +kernel) ⟨Nat.le_of_ble_eq_true rfl, Nat.le_of_ble_eq_true rfl⟩) (pv_S [.int x] hN hK hP (ci := 0) (q0 := 1) rfl rfl) rfl rfl hl.1 rfl (lv_room (Nat.le_of_ble_eq_true rfl)) d_S_set_5 ⟨Nat.le_of_ble_eq_true rfl, Nat.le_of_ble_eq_true rfl⟩)) (fun r_1 hr_1 => ?_)
  subst hr_1
  refine b0_ne (tgt := 21) hx hb d_S_set_8 (by decide) (fun c_2 => ?_) (fun c_2 => ?_)
  · exact absurd (c_2.symm.trans hx9) (by decide)
  · refine W.newc (C := "java/lang/IndexOutOfBoundsException") (n := 6) hx hb hown (hts _ (List.mem_cons_of_mem _ iw_342)) (hts _ (List.mem_cons_of_mem _ iw_343)) (hts _ (List.mem_cons_of_mem _ iw_10)) rfl d_S_set_11 (Nat.le_of_ble_eq_true rfl) (Nat.le_of_ble_eq_true rfl) (fun cX kX n1 n2 n3 n4 => ?_)
    obtain ⟨hT1, qs, hqs⟩ := hTW
    refine lv_dup (pc := 14) (rest := []) hx hb d_S_set_14 rfl ?_
    refine va_ldcS hx hb hown hqs d_S_set_15 ?_
    exact thr_end hfl hx hb hown (own_at hts ⟨hT1, qs, hqs⟩) (BodyLoose.noHandlers B (hts _ List.mem_cons_self)) (hl.1.trans hml.symm) n1 n2 (Nat.le_of_ble_eq_true rfl) (Nat.le_of_ble_eq_true rfl) hlocks d_S_set_17 d_S_set_20
set_option maxHeartbeats 4000000 in
set_option maxRecDepth 100000 in
theorem t_S_unsure (l : Launch) (dC : Nat → ClassId) (dI : Nat → Nat → Nat) (q : CA) (u : CSt) (hfl : l.flags = pinnedFlags ++ [noTraceFlag]) (x : Int32) (b : Bool) (hx9 : ixB x (k_nV u) = false) : MetT l y_S_unsure w_S_unsure ({ frames := 6, cells := 1, slots := 6, locals := 82 }) (tPc (dC, dI) vwCl (tC q) (wC q u) [Value.ref (ca_o q), Value.int x, Value.int (bI b)]) := by
  refine MetT.ofW (cc := b_S_unsure) (maxL := 3) (ret := (some .boolean)) (by decide) rfl ?_
  intro p e s m args below meth c s₁ B hml hv
  obtain ⟨rfl, hP, hK, hN, hTW⟩ := hv
  have hx := B.exec
  have hb := B.bytes
  have hr := B.returns
  have hts := atoms_spec (ws := w_S_unsure) B.pre
  have hown : s.vm.findClass "SeatProofs" = some m.cls := findClass_of_methodNamed B.named
  have hlocks := B.notSynchronized
  have hl := lv_entry ([Value.ref (ca_o q), Value.int x, Value.int (bI b)]) (n := 3) (Nat.le_of_ble_eq_true rfl)
  rw [lg_entry_eq]
  generalize (lg_sl ([Value.ref (ca_o q), Value.int x, Value.int (bI b)]) ++ List.replicate (3 - (lg_sl ([Value.ref (ca_o q), Value.int x, Value.int (bI b)])).length) Slot.unset).toArray = ls at hl ⊢
  have hl : lv_has ls 3 [(0, .ref (ca_o q)), (1, .int x), (2, .int (bI b))] := hl
  refine lv_aload_n hx hb d_S_unsure_0 rfl (lv_at hl 0 rfl) ?_
  refine va_get (D := (dC, dI)) (ci := 3) (v := .ref (ca_p q)) (C := "SeatProofs") (T := F_S) (N := 6) hx hb hts (iu_S _) hown hK hP 0 rfl rfl 0 (by decide) (hts _ (List.mem_cons_of_mem _ iw_124)) (fun _ h9 => h9) rfl d_S_unsure_1 ?_
  refine lv_iload_n hx hb d_S_unsure_4 rfl (lv_at hl 1 rfl) ?_
  refine vp_callSi (va_Run.run (va_runV (As := [.int x]) (rest := []) ⟨hx, hb, hml, hown, hts⟩ (c_P_hasValve l dC dI q u x) (cwV 1 hts (good_up (good_V iw_338 iw_339 iw_340 iw_2 gg_P_hasValve)) rfl rfl rfl (by decide +kernel) ⟨Nat.le_of_ble_eq_true rfl, Nat.le_of_ble_eq_true rfl⟩) (pv_S [.int x] hN hK hP (ci := 0) (q0 := 1) rfl rfl) rfl rfl hl.1 rfl (lv_room (Nat.le_of_ble_eq_true rfl)) d_S_unsure_5 ⟨Nat.le_of_ble_eq_true rfl, Nat.le_of_ble_eq_true rfl⟩)) (fun r_1 hr_1 => ?_)
  subst hr_1
  refine b0_ne (tgt := 21) hx hb d_S_unsure_8 (by decide) (fun c_2 => ?_) (fun c_2 => ?_)
  · exact absurd (c_2.symm.trans hx9) (by decide)
  · refine W.newc (C := "java/lang/IndexOutOfBoundsException") (n := 6) hx hb hown (hts _ (List.mem_cons_of_mem _ iw_342)) (hts _ (List.mem_cons_of_mem _ iw_343)) (hts _ (List.mem_cons_of_mem _ iw_10)) rfl d_S_unsure_11 (Nat.le_of_ble_eq_true rfl) (Nat.le_of_ble_eq_true rfl) (fun cX kX n1 n2 n3 n4 => ?_)
    obtain ⟨hT1, qs, hqs⟩ := hTW
    refine lv_dup (pc := 14) (rest := []) hx hb d_S_unsure_14 rfl ?_
    refine va_ldcS hx hb hown hqs d_S_unsure_15 ?_
    exact thr_end hfl hx hb hown (own_at hts ⟨hT1, qs, hqs⟩) (BodyLoose.noHandlers B (hts _ List.mem_cons_self)) (hl.1.trans hml.symm) n1 n2 (Nat.le_of_ble_eq_true rfl) (Nat.le_of_ble_eq_true rfl) hlocks d_S_unsure_17 d_S_unsure_20
set_option maxHeartbeats 4000000 in
set_option maxRecDepth 100000 in
theorem c_S_unsure (l : Launch) (dC : Nat → ClassId) (dI : Nat → Nat → Nat) (q : CA) (u : CSt) (sz : Nat) (x : Nat) (b : Bool) (hx9 : x < k_nV u) (h1 : k_nV u ≤ 64) : Met l y_S_unsure w_S_unsure ({ frames := 3, cells := 0, slots := 0, locals := 65 }) (qPc (dC, dI) vwCl (tC q) (wC q u) sz [Value.ref (ca_o q), Value.int (nI x), Value.int (bI b)]) (va_Qi (fun (r : Int32) (z : CSt) => (tb (k_uns u) x = b ∧ r = bI false ∧ z = u) ∨ (¬ tb (k_uns u) x = b ∧ r = bI true ∧ z = k_s_cnt (k_s_uns u (wth (k_uns u) x b)) 0)) (qB (dC, dI) vwCl (tC q) (wC q u) sz (wC q)) (va_A (wC q u) sz)) 0 0 (va_A (wC q u) sz) := by
  refine Met.ofW (cc := b_S_unsure) (maxL := 3) (ret := (some .boolean)) (by decide) rfl ?_
  intro p e s m args below meth c s₁ B hml hv
  obtain ⟨rfl, hsz, hP, hK, hD0, hN⟩ := hv
  have hx := B.exec
  have hb := B.bytes
  have hr := B.returns
  have hts := atoms_spec (ws := w_S_unsure) B.pre
  have hown : s.vm.findClass "SeatProofs" = some m.cls := findClass_of_methodNamed B.named
  have hlocks := B.notSynchronized
  subst hsz
  have hD := hD0.self (sz := s.heap.size)
  have hA : ∀ z : Nat, s.heap.size ≤ z → va_A (wC q u) s.heap.size z := fun z h => Or.inr h
  have hS : va_S (va_A (wC q u) s.heap.size) s.heap s.heap [] := va_S.rf
  have hl := lv_entry ([Value.ref (ca_o q), Value.int (nI x), Value.int (bI b)]) (n := 3) (Nat.le_of_ble_eq_true rfl)
  rw [lg_entry_eq]
  generalize (lg_sl ([Value.ref (ca_o q), Value.int (nI x), Value.int (bI b)]) ++ List.replicate (3 - (lg_sl ([Value.ref (ca_o q), Value.int (nI x), Value.int (bI b)])).length) Slot.unset).toArray = ls at hl ⊢
  have hl : lv_has ls 3 [(0, .ref (ca_o q)), (1, .int (nI x)), (2, .int (bI b))] := hl
  refine lv_aload_n hx hb d_S_unsure_0 rfl (lv_at hl 0 rfl) ?_
  refine va_get (D := (dC, dI)) (ci := 3) (v := .ref (ca_p q)) (C := "SeatProofs") (T := F_S) (N := 6) hx hb hts (iu_S _) hown hK hP 0 rfl rfl 0 (by decide) (hts _ (List.mem_cons_of_mem _ iw_124)) (fun _ h9 => h9) rfl d_S_unsure_1 ?_
  refine lv_iload_n hx hb d_S_unsure_4 rfl (lv_at hl 1 rfl) ?_
  refine vp_callSi (va_Run.run (va_runV (As := [.int (nI x)]) (rest := []) ⟨hx, hb, hml, hown, hts⟩ (c_P_hasValve l dC dI q u (nI x)) (cwV 1 hts (good_up (good_V iw_338 iw_339 iw_340 iw_2 gg_P_hasValve)) rfl rfl rfl (by decide +kernel) ⟨Nat.le_of_ble_eq_true rfl, Nat.le_of_ble_eq_true rfl⟩) (pv_S [.int (nI x)] hN hK hP (ci := 0) (q0 := 1) rfl rfl) rfl rfl hl.1 rfl (lv_room (Nat.le_of_ble_eq_true rfl)) d_S_unsure_5 ⟨Nat.le_of_ble_eq_true rfl, Nat.le_of_ble_eq_true rfl⟩)) (fun r_1 hr_1 => ?_)
  subst hr_1
  refine b0_ne (tgt := 21) hx hb d_S_unsure_8 (by decide) (fun c_2 => ?_) (fun c_2 => ?_)
  · refine lv_aload_n hx hb d_S_unsure_21 rfl (lv_at hl 0 rfl) ?_
    refine va_get (D := (dC, dI)) (ci := 3) (v := .ref (ca_p q)) (C := "SeatProofs") (T := F_S) (N := 6) hx hb hts (iu_S _) hown hK hP 0 rfl rfl 0 (by decide) (hts _ (List.mem_cons_of_mem _ iw_124)) (fun _ h9 => h9) rfl d_S_unsure_22 ?_
    refine va_getN (D := (dC, dI)) (ci := 0) (v := .long (k_uns u)) (C := "SeatProofs$Plant") (T := F_P) (N := 12) hx hb hts (iu_P _) hown hK hP 1 rfl rfl 8 (by decide) (NW.use hN in_44) (fun _ h9 => h9) rfl d_S_unsure_25 ?_
    refine lv_iload_n hx hb d_S_unsure_28 rfl (lv_at hl 1 rfl) ?_
    refine vp_callSi (va_Run.run (va_runS (As := [.long (k_uns u), .int (nI x)]) (rest := []) ⟨hx, hb, hml, hown, hts⟩ (c_S_has l (k_uns u) x (by omega)) (va_cwS 2 hts (good_up (good_S iw_417 iw_191 iw_1 gg_S_has)) rfl rfl rfl (by decide +kernel) ⟨Nat.le_of_ble_eq_true rfl, Nat.le_of_ble_eq_true rfl⟩) (ps_0 [.long (k_uns u), .int (nI x)] hN) rfl rfl hl.1 rfl (lv_room (Nat.le_of_ble_eq_true rfl)) d_S_unsure_29 ⟨Nat.le_of_ble_eq_true rfl, Nat.le_of_ble_eq_true rfl⟩)) (fun r_3 hr_3 => ?_)
    subst hr_3
    refine lv_iload_n hx hb d_S_unsure_32 rfl (lv_at hl 2 rfl) ?_
    refine bv_ne (tgt := 38) hx hb d_S_unsure_33 (by decide) (fun c_4 => ?_) (fun c_4 => ?_)
    · refine lv_aload_n hx hb d_S_unsure_38 rfl (lv_at hl 0 rfl) ?_
      refine va_get (D := (dC, dI)) (ci := 3) (v := .ref (ca_p q)) (C := "SeatProofs") (T := F_S) (N := 6) hx hb hts (iu_S _) hown hK hP 0 rfl rfl 0 (by decide) (hts _ (List.mem_cons_of_mem _ iw_124)) (fun _ h9 => h9) rfl d_S_unsure_39 ?_
      refine lv_iload_n hx hb d_S_unsure_42 rfl (lv_at hl 1 rfl) ?_
      refine lv_iload_n hx hb d_S_unsure_43 rfl (lv_at hl 2 rfl) ?_
      refine cq_v (va_runV (As := [.int (nI x), .int (bI b)]) (rest := []) ⟨hx, hb, hml, hown, hts⟩ (c_P_doubt l dC dI q u _ x b) (cwV 2 hts (good_up (good_V iw_430 iw_431 iw_432 iw_2 gg_P_doubt)) rfl rfl rfl (by decide +kernel) ⟨Nat.le_of_ble_eq_true rfl, Nat.le_of_ble_eq_true rfl⟩) (pv_Q [.int (nI x), .int (bI b)] hN hK hP hD (ci := 0) (q0 := 1) rfl rfl) rfl rfl hl.1 rfl (lv_room (Nat.le_of_ble_eq_true rfl)) d_S_unsure_44 ⟨Nat.le_of_ble_eq_true rfl, Nat.le_of_ble_eq_true rfl⟩) hD hS hA (fun z_6 H locs hr_5 hP hD hS => ?_)
      subst hr_5
      have hP : va_P (dC, dI) vwCl (wCx q (k_fu u) (k_re u) (k_nS u) (k_nV u) (k_opn u) (wth (k_uns u) x b) (k_dbl u) (k_lett u) (k_cnt u) (k_lev u) (k_src u) (k_fr u) (k_e1 u) (k_e2 u) (k_ends u) (k_fal u) (k_ways u) (k_fls u) (k_fnd u) (k_pf u) (k_pl u) (k_pw u) (k_pc u)) H := hP
      have hD : va_D (va_A (wC q u) s.heap.size) (wCx q (k_fu u) (k_re u) (k_nS u) (k_nV u) (k_opn u) (wth (k_uns u) x b) (k_dbl u) (k_lett u) (k_cnt u) (k_lev u) (k_src u) (k_fr u) (k_e1 u) (k_e2 u) (k_ends u) (k_fal u) (k_ways u) (k_fls u) (k_fnd u) (k_pf u) (k_pl u) (k_pw u) (k_pc u)) := hD
      refine lv_aload_n hx hb d_S_unsure_47 rfl (lv_at hl 0 rfl) ?_
      refine va_get (D := (dC, dI)) (ci := 3) (v := .ref (ca_q q)) (C := "SeatProofs") (T := F_S) (N := 6) hx hb hts (iu_S _) hown hK hP 0 rfl rfl 2 (by decide) (hts _ (List.mem_cons_of_mem _ iw_126)) (fun _ h9 => h9) rfl d_S_unsure_48 ?_
      refine cq_v (va_runV (As := []) (rest := []) ⟨hx, hb, hml, hown, hts⟩ (c_Q_empty l dC dI q (k_mk (k_fu u) (k_re u) (k_nS u) (k_nV u) (k_opn u) (wth (k_uns u) x b) (k_dbl u) (k_lett u) (k_cnt u) (k_lev u) (k_src u) (k_fr u) (k_e1 u) (k_e2 u) (k_ends u) (k_fal u) (k_ways u) (k_fls u) (k_fnd u) (k_pf u) (k_pl u) (k_pw u) (k_pc u)) _) (cwV 0 hts (good_up (good_V iw_147 iw_148 iw_149 iw_4 gg_Q_empty)) rfl rfl rfl (by decide +kernel) ⟨Nat.le_of_ble_eq_true rfl, Nat.le_of_ble_eq_true rfl⟩) (pv_Q [] hN hK hP hD (ci := 2) (q0 := 3) rfl rfl) rfl rfl hl.1 rfl (lv_room (Nat.le_of_ble_eq_true rfl)) d_S_unsure_51 ⟨Nat.le_of_ble_eq_true rfl, Nat.le_of_ble_eq_true rfl⟩) hD hS hA (fun z_9 H locs hr_8 hP hD hS => ?_)
      subst hr_8
      have hP : va_P (dC, dI) vwCl (wCx q (k_fu u) (k_re u) (k_nS u) (k_nV u) (k_opn u) (wth (k_uns u) x b) (k_dbl u) (k_lett u) 0 (k_lev u) (k_src u) (k_fr u) (k_e1 u) (k_e2 u) (k_ends u) (k_fal u) (k_ways u) (k_fls u) (k_fnd u) (k_pf u) (k_pl u) (k_pw u) (k_pc u)) H := hP
      have hD : va_D (va_A (wC q u) s.heap.size) (wCx q (k_fu u) (k_re u) (k_nS u) (k_nV u) (k_opn u) (wth (k_uns u) x b) (k_dbl u) (k_lett u) 0 (k_lev u) (k_src u) (k_fr u) (k_e1 u) (k_e2 u) (k_ends u) (k_fal u) (k_ways u) (k_fls u) (k_fnd u) (k_pf u) (k_pl u) (k_pw u) (k_pc u)) := hD
      refine lv_iconst (v := nI 1) hx hb d_S_unsure_54 (by decide) ?_
      refine tp_i (bI true) (by decide) ?_
      exact W.zret hx hb hr (bI_narrow _) (fun t9 ht9 hW9 => ⟨⟨_, (k_mk (k_fu u) (k_re u) (k_nS u) (k_nV u) (k_opn u) (wth (k_uns u) x b) (k_dbl u) (k_lett u) 0 (k_lev u) (k_src u) (k_fr u) (k_e1 u) (k_e2 u) (k_ends u) (k_fal u) (k_ways u) (k_fls u) (k_fnd u) (k_pf u) (k_pl u) (k_pw u) (k_pc u)), rfl, Or.inr ⟨c_4, rfl, rfl⟩, by rw [ht9]; exact hP, va_K.moved hW9.alike hK, hD⟩, hS.F ht9⟩) hS.2.2 d_S_unsure_55
    · refine lv_iconst (v := nI 0) hx hb d_S_unsure_36 (by decide) ?_
      refine tp_i (bI false) (by decide) ?_
      exact W.zret hx hb hr (bI_narrow _) (fun t9 ht9 hW9 => ⟨⟨_, u, rfl, Or.inl ⟨c_4, rfl, rfl⟩, by rw [ht9]; exact hP, va_K.moved hW9.alike hK, hD⟩, hS.F ht9⟩) hS.2.2 d_S_unsure_37
  · exact absurd (c_2.symm.trans (ixB_nI (by omega) hx9)) (by decide)
set_option maxHeartbeats 4000000 in
set_option maxRecDepth 100000 in
theorem c_S_set (l : Launch) (dC : Nat → ClassId) (dI : Nat → Nat → Nat) (q : CA) (u : CSt) (sz : Nat) (x : Nat) (b : Bool) (v : MSt) (hc : CP (k_s_opn u (wth (k_opn u) x b)) v) (hx9 : x < k_nV u) (h1 : k_nV u ≤ 64) (h0 : k_cnt u ≤ 975) (b1 : ∀ j, k_pf u j < 65) (b2 : ∀ j, k_pl u j < 16) (hpf : ∀ j, j < k_cnt u → k_pf u j ≤ m_nV v) (hs : ∀ x y, x < y → y < k_cnt u → k_pf u x ≤ k_pf u y) : Met l y_S_set w_S_set ({ frames := 5, cells := 0, slots := 0, locals := 111 }) (qPc (dC, dI) vwCl (tC q) (wC q u) sz [Value.ref (ca_o q), Value.int (nI x), Value.int (bI b)]) (va_Qi (fun (r : Int32) (z : CSt) => ∃ (g3 g4 : Nat → Int64) (L : Int64) (Wy : Nat → Int64) (b9 : Bool), (∀ j, g3 j = if j < k_cnt u ∧ kt u x j = true then mF v (k_pl u j) (k_pf u j) else k_pw u j) ∧ (∀ j, g4 j = if j < k_cnt u ∧ kt u x j = true then mC v (mF v (k_pl u j) (k_pf u j)) (k_pf u j) else k_pc u j) ∧ (b9 = true ↔ (0 < k_cnt u ∧ ∀ p9 q9, p9 < q9 → q9 < k_cnt u → ¬ kK (k_s_pw u g3) p9 q9)) ∧ r = bI b9 ∧ z = k_s_cnt (k_s_re (k_s_ways (k_s_lett (k_s_pc (k_s_pw (k_s_opn u (wth (k_opn u) x b)) g3) g4) L) Wy) (pcn (kt u x) (k_cnt u))) (if b9 = true then k_cnt u else 0)) (qB (dC, dI) vwCl (tC q) (wC q u) sz (wC q)) (va_A (wC q u) sz)) 0 0 (va_A (wC q u) sz) := by
  refine Met.ofW (cc := b_S_set) (maxL := 3) (ret := (some .boolean)) (by decide) rfl ?_
  intro p e s m args below meth c s₁ B hml hv
  obtain ⟨rfl, hsz, hP, hK, hD0, hN⟩ := hv
  have hx := B.exec
  have hb := B.bytes
  have hr := B.returns
  have hts := atoms_spec (ws := w_S_set) B.pre
  have hown : s.vm.findClass "SeatProofs" = some m.cls := findClass_of_methodNamed B.named
  have hlocks := B.notSynchronized
  subst hsz
  have hD := hD0.self (sz := s.heap.size)
  have hA : ∀ z : Nat, s.heap.size ≤ z → va_A (wC q u) s.heap.size z := fun z h => Or.inr h
  have hS : va_S (va_A (wC q u) s.heap.size) s.heap s.heap [] := va_S.rf
  have hl := lv_entry ([Value.ref (ca_o q), Value.int (nI x), Value.int (bI b)]) (n := 3) (Nat.le_of_ble_eq_true rfl)
  rw [lg_entry_eq]
  generalize (lg_sl ([Value.ref (ca_o q), Value.int (nI x), Value.int (bI b)]) ++ List.replicate (3 - (lg_sl ([Value.ref (ca_o q), Value.int (nI x), Value.int (bI b)])).length) Slot.unset).toArray = ls at hl ⊢
  have hl : lv_has ls 3 [(0, .ref (ca_o q)), (1, .int (nI x)), (2, .int (bI b))] := hl
  refine lv_aload_n hx hb d_S_set_0 rfl (lv_at hl 0 rfl) ?_
  refine va_get (D := (dC, dI)) (ci := 3) (v := .ref (ca_p q)) (C := "SeatProofs") (T := F_S) (N := 6) hx hb hts (iu_S _) hown hK hP 0 rfl rfl 0 (by decide) (hts _ (List.mem_cons_of_mem _ iw_124)) (fun _ h9 => h9) rfl d_S_set_1 ?_
  refine lv_iload_n hx hb d_S_set_4 rfl (lv_at hl 1 rfl) ?_
  refine vp_callSi (va_Run.run (va_runV (As := [.int (nI x)]) (rest := []) ⟨hx, hb, hml, hown, hts⟩ (c_P_hasValve l dC dI q u (nI x)) (cwV 1 hts (good_up (good_V iw_338 iw_339 iw_340 iw_2 gg_P_hasValve)) rfl rfl rfl (by decide +kernel) ⟨Nat.le_of_ble_eq_true rfl, Nat.le_of_ble_eq_true rfl⟩) (pv_S [.int (nI x)] hN hK hP (ci := 0) (q0 := 1) rfl rfl) rfl rfl hl.1 rfl (lv_room (Nat.le_of_ble_eq_true rfl)) d_S_set_5 ⟨Nat.le_of_ble_eq_true rfl, Nat.le_of_ble_eq_true rfl⟩)) (fun r_1 hr_1 => ?_)
  subst hr_1
  refine b0_ne (tgt := 21) hx hb d_S_set_8 (by decide) (fun c_2 => ?_) (fun c_2 => ?_)
  · refine lv_aload_n hx hb d_S_set_21 rfl (lv_at hl 0 rfl) ?_
    refine va_get (D := (dC, dI)) (ci := 3) (v := .ref (ca_p q)) (C := "SeatProofs") (T := F_S) (N := 6) hx hb hts (iu_S _) hown hK hP 0 rfl rfl 0 (by decide) (hts _ (List.mem_cons_of_mem _ iw_124)) (fun _ h9 => h9) rfl d_S_set_22 ?_
    refine lv_iload_n hx hb d_S_set_25 rfl (lv_at hl 1 rfl) ?_
    refine lv_iload_n hx hb d_S_set_26 rfl (lv_at hl 2 rfl) ?_
    refine cq_v (va_runV (As := [.int (nI x), .int (bI b)]) (rest := []) ⟨hx, hb, hml, hown, hts⟩ (c_P_turn l dC dI q u _ x b) (cwV 2 hts (good_up (good_V iw_408 iw_171 iw_172 iw_2 gg_P_turn)) rfl rfl rfl (by decide +kernel) ⟨Nat.le_of_ble_eq_true rfl, Nat.le_of_ble_eq_true rfl⟩) (pv_Q [.int (nI x), .int (bI b)] hN hK hP hD (ci := 0) (q0 := 1) rfl rfl) rfl rfl hl.1 rfl (lv_room (Nat.le_of_ble_eq_true rfl)) d_S_set_27 ⟨Nat.le_of_ble_eq_true rfl, Nat.le_of_ble_eq_true rfl⟩) hD hS hA (fun z_4 H locs hr_3 hP hD hS => ?_)
    subst hr_3
    have hP : va_P (dC, dI) vwCl (wCx q (k_fu u) (k_re u) (k_nS u) (k_nV u) (wth (k_opn u) x b) (k_uns u) (k_dbl u) (k_lett u) (k_cnt u) (k_lev u) (k_src u) (k_fr u) (k_e1 u) (k_e2 u) (k_ends u) (k_fal u) (k_ways u) (k_fls u) (k_fnd u) (k_pf u) (k_pl u) (k_pw u) (k_pc u)) H := hP
    have hD : va_D (va_A (wC q u) s.heap.size) (wCx q (k_fu u) (k_re u) (k_nS u) (k_nV u) (wth (k_opn u) x b) (k_uns u) (k_dbl u) (k_lett u) (k_cnt u) (k_lev u) (k_src u) (k_fr u) (k_e1 u) (k_e2 u) (k_ends u) (k_fal u) (k_ways u) (k_fls u) (k_fnd u) (k_pf u) (k_pl u) (k_pw u) (k_pc u)) := hD
    refine lv_aload_n hx hb d_S_set_30 rfl (lv_at hl 0 rfl) ?_
    refine lv_aload_n hx hb d_S_set_31 rfl (lv_at hl 0 rfl) ?_
    refine lv_iload_n hx hb d_S_set_32 rfl (lv_at hl 1 rfl) ?_
    refine cq_i (va_runV (As := [.int (nI x)]) (rest := [.ref (ca_o q)]) ⟨hx, hb, hml, hown, hts⟩ (c_S_remakeTouched l dC dI q (k_mk (k_fu u) (k_re u) (k_nS u) (k_nV u) (wth (k_opn u) x b) (k_uns u) (k_dbl u) (k_lett u) (k_cnt u) (k_lev u) (k_src u) (k_fr u) (k_e1 u) (k_e2 u) (k_ends u) (k_fal u) (k_ways u) (k_fls u) (k_fnd u) (k_pf u) (k_pl u) (k_pw u) (k_pc u)) _ x v (CP_cg hc rfl rfl rfl rfl rfl rfl rfl rfl rfl rfl rfl rfl) (by omega) h0 b1 b2 hpf) (cwV 1 hts (good_up (good_V iw_409 iw_411 ip_6 iw_1 gg_S_remakeTouched)) rfl rfl rfl (by decide +kernel) ⟨Nat.le_of_ble_eq_true rfl, Nat.le_of_ble_eq_true rfl⟩) (pv_Q [.int (nI x)] hN hK hP hD (ci := 3) (q0 := 0) rfl rfl) rfl rfl hl.1 rfl (lv_room (Nat.le_of_ble_eq_true rfl)) d_S_set_33 ⟨Nat.le_of_ble_eq_true rfl, Nat.le_of_ble_eq_true rfl⟩) hD hS hA (fun r_8 z_7 H locs hr_6 hP hD hS => ?_)
    obtain ⟨g3, g4, L9, W9, hr9, h39, h49, hz9⟩ := hr_6
    have ekt : kt (k_mk (k_fu u) (k_re u) (k_nS u) (k_nV u) (wth (k_opn u) x b) (k_uns u) (k_dbl u) (k_lett u) (k_cnt u) (k_lev u) (k_src u) (k_fr u) (k_e1 u) (k_e2 u) (k_ends u) (k_fal u) (k_ways u) (k_fls u) (k_fnd u) (k_pf u) (k_pl u) (k_pw u) (k_pc u)) x = kt u x := funext fun j => kt_cg rfl rfl rfl rfl
    rw [ekt] at hr9
    subst hr9
    subst hz9
    have h3 : ∀ j, g3 j = if j < k_cnt u ∧ kt u x j = true then mF v (k_pl u j) (k_pf u j) else k_pw u j := fun j => by rw [← ekt]; exact h39 j
    have h4 : ∀ j, g4 j = if j < k_cnt u ∧ kt u x j = true then mC v (mF v (k_pl u j) (k_pf u j)) (k_pf u j) else k_pc u j := fun j => by rw [← ekt]; exact h49 j
    have hP : va_P (dC, dI) vwCl (wCx q (k_fu u) (k_re u) (k_nS u) (k_nV u) (wth (k_opn u) x b) (k_uns u) (k_dbl u) L9 (k_cnt u) (k_lev u) (k_src u) (k_fr u) (k_e1 u) (k_e2 u) (k_ends u) (k_fal u) W9 (k_fls u) (k_fnd u) (k_pf u) (k_pl u) g3 g4) H := hP
    have hD : va_D (va_A (wC q u) s.heap.size) (wCx q (k_fu u) (k_re u) (k_nS u) (k_nV u) (wth (k_opn u) x b) (k_uns u) (k_dbl u) L9 (k_cnt u) (k_lev u) (k_src u) (k_fr u) (k_e1 u) (k_e2 u) (k_ends u) (k_fal u) W9 (k_fls u) (k_fnd u) (k_pf u) (k_pl u) g3 g4) := hD
    refine va_put (D := (dC, dI)) (ci := 3) (v := .int (nI (pcn (kt u x) (k_cnt u)))) (ty := .int) (C := "SeatProofs") (T := F_S) (N := 6) hx hb hts (iu_S _) t_S t_S_ok n_S hown hK hP hD hS 0 rfl rfl 5 (by decide) (hts _ (List.mem_cons_of_mem _ iw_129)) (fun _ h9 => h9) rfl (by decide +kernel) rfl rfl (Nat.le_of_ble_eq_true rfl) d_S_set_36 (fun H locs hP hD hS => ?_)
    have hP : va_P (dC, dI) vwCl (wCx q (k_fu u) (pcn (kt u x) (k_cnt u)) (k_nS u) (k_nV u) (wth (k_opn u) x b) (k_uns u) (k_dbl u) L9 (k_cnt u) (k_lev u) (k_src u) (k_fr u) (k_e1 u) (k_e2 u) (k_ends u) (k_fal u) W9 (k_fls u) (k_fnd u) (k_pf u) (k_pl u) g3 g4) H := hP
    have hD : va_D (va_A (wC q u) s.heap.size) (wCx q (k_fu u) (pcn (kt u x) (k_cnt u)) (k_nS u) (k_nV u) (wth (k_opn u) x b) (k_uns u) (k_dbl u) L9 (k_cnt u) (k_lev u) (k_src u) (k_fr u) (k_e1 u) (k_e2 u) (k_ends u) (k_fal u) W9 (k_fls u) (k_fnd u) (k_pf u) (k_pl u) g3 g4) := hD
    refine lv_aload_n hx hb d_S_set_39 rfl (lv_at hl 0 rfl) ?_
    refine vp_callSi (va_Run.run (va_runV (As := []) (rest := []) ⟨hx, hb, hml, hown, hts⟩ (c_S_rowsClash l dC dI q (k_mk (k_fu u) (pcn (kt u x) (k_cnt u)) (k_nS u) (k_nV u) (wth (k_opn u) x b) (k_uns u) (k_dbl u) L9 (k_cnt u) (k_lev u) (k_src u) (k_fr u) (k_e1 u) (k_e2 u) (k_ends u) (k_fal u) W9 (k_fls u) (k_fnd u) (k_pf u) (k_pl u) g3 g4) h0 b1 b2 hs) (cwV 0 hts (good_up (good_V iw_419 iw_421 ip_8 iw_1 gg_S_rowsClash)) rfl rfl rfl (by decide +kernel) ⟨Nat.le_of_ble_eq_true rfl, Nat.le_of_ble_eq_true rfl⟩) (pv_S [] hN hK hP (ci := 3) (q0 := 0) rfl rfl) rfl rfl hl.1 rfl (lv_room (Nat.le_of_ble_eq_true rfl)) d_S_set_40 ⟨Nat.le_of_ble_eq_true rfl, Nat.le_of_ble_eq_true rfl⟩)) (fun r_9 hr_9 => ?_)
    obtain ⟨b_10, rfl, hr_9⟩ := hr_9
    have hr_9 : b_10 = true ↔ ∃ x y, x < y ∧ y < k_cnt u ∧ kK (k_s_pw u g3) x y := hr_9
    refine b0_eq (tgt := 53) hx hb d_S_set_43 (by decide) (fun c_11 => ?_) (fun c_11 => ?_)
    · refine lv_aload_n hx hb d_S_set_53 rfl (lv_at hl 0 rfl) ?_
      refine va_get (D := (dC, dI)) (ci := 3) (v := .ref (ca_q q)) (C := "SeatProofs") (T := F_S) (N := 6) hx hb hts (iu_S _) hown hK hP 0 rfl rfl 2 (by decide) (hts _ (List.mem_cons_of_mem _ iw_126)) (fun _ h9 => h9) rfl d_S_set_54 ?_
      refine va_getN (D := (dC, dI)) (ci := 2) (v := .int (nI (k_cnt u))) (C := "SeatProofs$Proof") (T := F_Q) (N := 5) hx hb hts (iu_Q _) hown hK hP 3 rfl rfl 0 (by decide) (NW.use hN in_104) (fun _ h9 => h9) rfl d_S_set_57 ?_
      refine n0_le (tgt := 67) hx hb d_S_set_60 (by decide) (by omega) (fun c_12 => ?_) (fun c_12 => ?_)
      · refine lv_iconst (v := nI 0) hx hb d_S_set_67 (by decide) ?_
        refine tp_i (bI false) (by decide) ?_
        exact W.zret hx hb hr (bI_narrow _) (fun t9 ht9 hW9 => ⟨⟨_, (k_mk (k_fu u) (pcn (kt u x) (k_cnt u)) (k_nS u) (k_nV u) (wth (k_opn u) x b) (k_uns u) (k_dbl u) L9 (k_cnt u) (k_lev u) (k_src u) (k_fr u) (k_e1 u) (k_e2 u) (k_ends u) (k_fal u) W9 (k_fls u) (k_fnd u) (k_pf u) (k_pl u) g3 g4), rfl, ⟨g3, g4, L9, W9, false, h3, h4, ⟨fun h => absurd h (by decide), fun h => by have := h.1; omega⟩, rfl, by rw [if_neg (by decide), c_12]⟩, by rw [ht9]; exact hP, va_K.moved hW9.alike hK, hD⟩, hS.F ht9⟩) hS.2.2 d_S_set_68
      · refine lv_iconst (v := nI 1) hx hb d_S_set_63 (by decide) ?_
        refine lv_goto (tgt := 68) hx hb d_S_set_64 (by decide) ?_
        refine tp_i (bI true) (by decide) ?_
        exact W.zret hx hb hr (bI_narrow _) (fun t9 ht9 hW9 => ⟨⟨_, (k_mk (k_fu u) (pcn (kt u x) (k_cnt u)) (k_nS u) (k_nV u) (wth (k_opn u) x b) (k_uns u) (k_dbl u) L9 (k_cnt u) (k_lev u) (k_src u) (k_fr u) (k_e1 u) (k_e2 u) (k_ends u) (k_fal u) W9 (k_fls u) (k_fnd u) (k_pf u) (k_pl u) g3 g4), rfl, ⟨g3, g4, L9, W9, true, h3, h4, ⟨fun _ => ⟨by omega, fun p q9 z1 z2 z3 => absurd (hr_9.mpr ⟨p, q9, z1, z2, z3⟩) (by rw [c_11]; decide)⟩, fun _ => rfl⟩, rfl, rfl⟩, by rw [ht9]; exact hP, va_K.moved hW9.alike hK, hD⟩, hS.F ht9⟩) hS.2.2 d_S_set_68
    · refine lv_aload_n hx hb d_S_set_46 rfl (lv_at hl 0 rfl) ?_
      refine va_get (D := (dC, dI)) (ci := 3) (v := .ref (ca_q q)) (C := "SeatProofs") (T := F_S) (N := 6) hx hb hts (iu_S _) hown hK hP 0 rfl rfl 2 (by decide) (hts _ (List.mem_cons_of_mem _ iw_126)) (fun _ h9 => h9) rfl d_S_set_47 ?_
      refine cq_v (va_runV (As := []) (rest := []) ⟨hx, hb, hml, hown, hts⟩ (c_Q_empty l dC dI q (k_mk (k_fu u) (pcn (kt u x) (k_cnt u)) (k_nS u) (k_nV u) (wth (k_opn u) x b) (k_uns u) (k_dbl u) L9 (k_cnt u) (k_lev u) (k_src u) (k_fr u) (k_e1 u) (k_e2 u) (k_ends u) (k_fal u) W9 (k_fls u) (k_fnd u) (k_pf u) (k_pl u) g3 g4) _) (cwV 0 hts (good_up (good_V iw_147 iw_148 iw_149 iw_4 gg_Q_empty)) rfl rfl rfl (by decide +kernel) ⟨Nat.le_of_ble_eq_true rfl, Nat.le_of_ble_eq_true rfl⟩) (pv_Q [] hN hK hP hD (ci := 2) (q0 := 3) rfl rfl) rfl rfl hl.1 rfl (lv_room (Nat.le_of_ble_eq_true rfl)) d_S_set_50 ⟨Nat.le_of_ble_eq_true rfl, Nat.le_of_ble_eq_true rfl⟩) hD hS hA (fun z_14 H locs hr_13 hP hD hS => ?_)
      subst hr_13
      have hP : va_P (dC, dI) vwCl (wCx q (k_fu u) (pcn (kt u x) (k_cnt u)) (k_nS u) (k_nV u) (wth (k_opn u) x b) (k_uns u) (k_dbl u) L9 0 (k_lev u) (k_src u) (k_fr u) (k_e1 u) (k_e2 u) (k_ends u) (k_fal u) W9 (k_fls u) (k_fnd u) (k_pf u) (k_pl u) g3 g4) H := hP
      have hD : va_D (va_A (wC q u) s.heap.size) (wCx q (k_fu u) (pcn (kt u x) (k_cnt u)) (k_nS u) (k_nV u) (wth (k_opn u) x b) (k_uns u) (k_dbl u) L9 0 (k_lev u) (k_src u) (k_fr u) (k_e1 u) (k_e2 u) (k_ends u) (k_fal u) W9 (k_fls u) (k_fnd u) (k_pf u) (k_pl u) g3 g4) := hD
      refine lv_aload_n hx hb d_S_set_53 rfl (lv_at hl 0 rfl) ?_
      refine va_get (D := (dC, dI)) (ci := 3) (v := .ref (ca_q q)) (C := "SeatProofs") (T := F_S) (N := 6) hx hb hts (iu_S _) hown hK hP 0 rfl rfl 2 (by decide) (hts _ (List.mem_cons_of_mem _ iw_126)) (fun _ h9 => h9) rfl d_S_set_54 ?_
      refine va_getN (D := (dC, dI)) (ci := 2) (v := .int (nI 0)) (C := "SeatProofs$Proof") (T := F_Q) (N := 5) hx hb hts (iu_Q _) hown hK hP 3 rfl rfl 0 (by decide) (NW.use hN in_104) (fun _ h9 => h9) rfl d_S_set_57 ?_
      refine n0_le (tgt := 67) hx hb d_S_set_60 (by decide) (by omega) (fun c_16 => ?_) (fun c_16 => ?_)
      · refine lv_iconst (v := nI 0) hx hb d_S_set_67 (by decide) ?_
        refine tp_i (bI false) (by decide) ?_
        exact W.zret hx hb hr (bI_narrow _) (fun t9 ht9 hW9 => ⟨⟨_, (k_mk (k_fu u) (pcn (kt u x) (k_cnt u)) (k_nS u) (k_nV u) (wth (k_opn u) x b) (k_uns u) (k_dbl u) L9 0 (k_lev u) (k_src u) (k_fr u) (k_e1 u) (k_e2 u) (k_ends u) (k_fal u) W9 (k_fls u) (k_fnd u) (k_pf u) (k_pl u) g3 g4), rfl, ⟨g3, g4, L9, W9, false, h3, h4, ⟨fun h => absurd h (by decide), fun h => by obtain ⟨p, q9, z1, z2, z3⟩ := hr_9.mp c_11; exact absurd z3 (h.2 p q9 z1 z2)⟩, rfl, rfl⟩, by rw [ht9]; exact hP, va_K.moved hW9.alike hK, hD⟩, hS.F ht9⟩) hS.2.2 d_S_set_68
      · exact absurd c_16 (by decide)
  · exact absurd (c_2.symm.trans (ixB_nI (by omega) hx9)) (by decide)
