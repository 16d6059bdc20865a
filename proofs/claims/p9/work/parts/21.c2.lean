set_option maxHeartbeats 4000000 in
set_option maxRecDepth 100000 in
theorem c_P_addValve (l : Launch) (dC : Nat → ClassId) (dI : Nat → Nat → Nat) (q : CA) (u : CSt) (sz : Nat) (a b : Nat) (tw o : Bool) (ha : a < 64) (hb9 : b < 64) (h1 : k_nV u < 64) : Met l y_P_addValve w_P_addValve ({ frames := 3, cells := 0, slots := 0, locals := 66 }) (qPc (dC, dI) vwCl (tC q) (wC q u) sz [Value.ref (ca_p q), Value.int (nI a), Value.int (nI b), Value.int (bI tw), Value.int (bI o)]) (va_Qi (fun (r : Int32) (z : CSt) => r = nI (k_nV u) ∧ z = k_addV u a b tw o) (qB (dC, dI) vwCl (tC q) (wC q u) sz (wC q)) (va_A (wC q u) sz)) 0 0 (va_A (wC q u) sz) := by
  refine Met.ofW (cc := b_P_addValve) (maxL := 6) (ret := (some .int)) (by decide) rfl ?_
  intro p e s m args below meth c s₁ B hml hv
  obtain ⟨rfl, hsz, hP, hK, hD0, hN⟩ := hv
  have hx := B.exec
  have hb := B.bytes
  have hr := B.returns
  have hts := atoms_spec (ws := w_P_addValve) B.pre
  have hown : s.vm.findClass "SeatProofs$Plant" = some m.cls := findClass_of_methodNamed B.named
  have hlocks := B.notSynchronized
  subst hsz
  have hD := hD0.self (sz := s.heap.size)
  have hA : ∀ z : Nat, s.heap.size ≤ z → va_A (wC q u) s.heap.size z := fun z h => Or.inr h
  have hS : va_S (va_A (wC q u) s.heap.size) s.heap s.heap [] := va_S.rf
  have hl := lv_entry ([Value.ref (ca_p q), Value.int (nI a), Value.int (nI b), Value.int (bI tw), Value.int (bI o)]) (n := 6) (Nat.le_of_ble_eq_true rfl)
  rw [lg_entry_eq]
  generalize (lg_sl ([Value.ref (ca_p q), Value.int (nI a), Value.int (nI b), Value.int (bI tw), Value.int (bI o)]) ++ List.replicate (6 - (lg_sl ([Value.ref (ca_p q), Value.int (nI a), Value.int (nI b), Value.int (bI tw), Value.int (bI o)])).length) Slot.unset).toArray = ls at hl ⊢
  have hl : lv_has ls 6 [(0, .ref (ca_p q)), (1, .int (nI a)), (2, .int (nI b)), (3, .int (bI tw)), (4, .int (bI o))] := hl
  refine lv_aload_n hx hb d_P_addValve_0 rfl (lv_at hl 0 rfl) ?_
  refine va_get (D := (dC, dI)) (ci := 0) (v := .int (nI (k_nV u))) (C := "SeatProofs$Plant") (T := F_P) (N := 12) hx hb hts (iu_P _) hown hK hP 1 rfl rfl 1 (by decide) (hts _ (List.mem_cons_of_mem _ iw_29)) (fun _ h9 => h9) rfl d_P_addValve_1 ?_
  refine lv_istore (lv' := [(5, .int (nI (k_nV u))), (0, .ref (ca_p q)), (1, .int (nI a)), (2, .int (nI b)), (3, .int (bI tw)), (4, .int (bI o))]) hx hb d_P_addValve_4 hl (by decide) rfl (fun ls hl => ?_)
  refine lv_aload_n hx hb d_P_addValve_6 rfl (lv_at hl 1 rfl) ?_
  refine va_get (D := (dC, dI)) (ci := 0) (v := .ref (ca_e1 q)) (C := "SeatProofs$Plant") (T := F_P) (N := 12) hx hb hts (iu_P _) hown hK hP 1 rfl rfl 5 (by decide) (hts _ (List.mem_cons_of_mem _ iw_36)) (fun _ h9 => h9) rfl d_P_addValve_7 ?_
  refine lv_iload hx hb d_P_addValve_10 (lv_at hl 0 rfl) ?_
  refine lv_iload_n hx hb d_P_addValve_12 rfl (lv_at hl 2 rfl) ?_
  refine st_i hx hb hK hP hD hS 7 0 rfl rfl (fun j9 => nI (va_up (k_e1 u) (k_nV u) a j9)) (by omega) (by decide) (upd_nI _ _ _) d_P_addValve_13 (fun H locs hP hD hS => ?_)
  have hP : va_P (dC, dI) vwCl (wCx q (k_fu u) (k_re u) (k_nS u) (k_nV u) (k_opn u) (k_uns u) (k_dbl u) (k_lett u) (k_cnt u) (k_lev u) (k_src u) (k_fr u) (va_up (k_e1 u) (k_nV u) a) (k_e2 u) (k_ends u) (k_fal u) (k_ways u) (k_fls u) (k_fnd u) (k_pf u) (k_pl u) (k_pw u) (k_pc u)) H := hP
  have hD : va_D (va_A (wC q u) s.heap.size) (wCx q (k_fu u) (k_re u) (k_nS u) (k_nV u) (k_opn u) (k_uns u) (k_dbl u) (k_lett u) (k_cnt u) (k_lev u) (k_src u) (k_fr u) (va_up (k_e1 u) (k_nV u) a) (k_e2 u) (k_ends u) (k_fal u) (k_ways u) (k_fls u) (k_fnd u) (k_pf u) (k_pl u) (k_pw u) (k_pc u)) := hD
  refine lv_aload_n hx hb d_P_addValve_14 rfl (lv_at hl 1 rfl) ?_
  refine va_get (D := (dC, dI)) (ci := 0) (v := .ref (ca_e2 q)) (C := "SeatProofs$Plant") (T := F_P) (N := 12) hx hb hts (iu_P _) hown hK hP 1 rfl rfl 6 (by decide) (hts _ (List.mem_cons_of_mem _ iw_39)) (fun _ h9 => h9) rfl d_P_addValve_15 ?_
  refine lv_iload hx hb d_P_addValve_18 (lv_at hl 0 rfl) ?_
  refine lv_iload_n hx hb d_P_addValve_20 rfl (lv_at hl 3 rfl) ?_
  refine st_i hx hb hK hP hD hS 8 0 rfl rfl (fun j9 => nI (va_up (k_e2 u) (k_nV u) b j9)) (by omega) (by decide) (upd_nI _ _ _) d_P_addValve_21 (fun H locs hP hD hS => ?_)
  have hP : va_P (dC, dI) vwCl (wCx q (k_fu u) (k_re u) (k_nS u) (k_nV u) (k_opn u) (k_uns u) (k_dbl u) (k_lett u) (k_cnt u) (k_lev u) (k_src u) (k_fr u) (va_up (k_e1 u) (k_nV u) a) (va_up (k_e2 u) (k_nV u) b) (k_ends u) (k_fal u) (k_ways u) (k_fls u) (k_fnd u) (k_pf u) (k_pl u) (k_pw u) (k_pc u)) H := hP
  have hD : va_D (va_A (wC q u) s.heap.size) (wCx q (k_fu u) (k_re u) (k_nS u) (k_nV u) (k_opn u) (k_uns u) (k_dbl u) (k_lett u) (k_cnt u) (k_lev u) (k_src u) (k_fr u) (va_up (k_e1 u) (k_nV u) a) (va_up (k_e2 u) (k_nV u) b) (k_ends u) (k_fal u) (k_ways u) (k_fls u) (k_fnd u) (k_pf u) (k_pl u) (k_pw u) (k_pc u)) := hD
  refine lv_aload_n hx hb d_P_addValve_22 rfl (lv_at hl 1 rfl) ?_
  refine va_get (D := (dC, dI)) (ci := 0) (v := .ref (ca_ends q)) (C := "SeatProofs$Plant") (T := F_P) (N := 12) hx hb hts (iu_P _) hown hK hP 1 rfl rfl 10 (by decide) (hts _ (List.mem_cons_of_mem _ iw_46)) (fun _ h9 => h9) rfl d_P_addValve_23 ?_
  refine lv_iload_n hx hb d_P_addValve_26 rfl (lv_at hl 2 rfl) ?_
  refine lv_dup2_11 hx hb d_P_addValve_27 rfl rfl ?_
  refine ld_l hx hb hK hP 9 1 rfl rfl (k_ends u a) (by omega) (by decide) rfl d_P_addValve_28 ?_
  refine lv_iload hx hb d_P_addValve_29 (lv_at hl 0 rfl) ?_
  refine vp_callSl (va_Run.run (va_runSN (As := [.int (nI (k_nV u))]) (rest := [.long (k_ends u a), .int (nI a), .ref (ca_ends q)]) ⟨hx, hb, hml, hown, hts⟩ (c_S_only l (k_nV u)) ⟨va_cnB 1 hts (good_up gg_S_only) rfl rfl rfl (hN _ in_155) (hts _ (List.mem_cons_of_mem _ iw_1)) (by decide +kernel) ⟨Nat.le_of_ble_eq_true rfl, Nat.le_of_ble_eq_true rfl⟩, hts _ (List.mem_cons_of_mem _ iw_156), trivial⟩ (ps_0 [.int (nI (k_nV u))] hN) rfl rfl hl.1 rfl (lv_room (Nat.le_of_ble_eq_true rfl)) d_P_addValve_31 ⟨Nat.le_of_ble_eq_true rfl, Nat.le_of_ble_eq_true rfl⟩)) (fun r_1 hr_1 => ?_)
  subst hr_1
  refine lv_lor hx hb d_P_addValve_34 ?_
  refine st_l hx hb hK hP hD hS 9 1 rfl rfl (va_up (k_ends u) a ((k_ends u a) ||| (bt (k_nV u)))) (by omega) (by decide) (updL_up _ _ _) d_P_addValve_35 (fun H locs hP hD hS => ?_)
  have hP : va_P (dC, dI) vwCl (wCx q (k_fu u) (k_re u) (k_nS u) (k_nV u) (k_opn u) (k_uns u) (k_dbl u) (k_lett u) (k_cnt u) (k_lev u) (k_src u) (k_fr u) (va_up (k_e1 u) (k_nV u) a) (va_up (k_e2 u) (k_nV u) b) (va_up (k_ends u) a ((k_ends u a) ||| (bt (k_nV u)))) (k_fal u) (k_ways u) (k_fls u) (k_fnd u) (k_pf u) (k_pl u) (k_pw u) (k_pc u)) H := hP
  have hD : va_D (va_A (wC q u) s.heap.size) (wCx q (k_fu u) (k_re u) (k_nS u) (k_nV u) (k_opn u) (k_uns u) (k_dbl u) (k_lett u) (k_cnt u) (k_lev u) (k_src u) (k_fr u) (va_up (k_e1 u) (k_nV u) a) (va_up (k_e2 u) (k_nV u) b) (va_up (k_ends u) a ((k_ends u a) ||| (bt (k_nV u)))) (k_fal u) (k_ways u) (k_fls u) (k_fnd u) (k_pf u) (k_pl u) (k_pw u) (k_pc u)) := hD
  refine lv_aload_n hx hb d_P_addValve_36 rfl (lv_at hl 1 rfl) ?_
  refine va_get (D := (dC, dI)) (ci := 0) (v := .ref (ca_ends q)) (C := "SeatProofs$Plant") (T := F_P) (N := 12) hx hb hts (iu_P _) hown hK hP 1 rfl rfl 10 (by decide) (hts _ (List.mem_cons_of_mem _ iw_46)) (fun _ h9 => h9) rfl d_P_addValve_37 ?_
  refine lv_iload_n hx hb d_P_addValve_40 rfl (lv_at hl 3 rfl) ?_
  refine lv_dup2_11 hx hb d_P_addValve_41 rfl rfl ?_
  refine ld_l hx hb hK hP 9 1 rfl rfl ((va_up (k_ends u) a ((k_ends u a) ||| (bt (k_nV u)))) b) (by omega) (by decide) rfl d_P_addValve_42 ?_
  refine lv_iload hx hb d_P_addValve_43 (lv_at hl 0 rfl) ?_
  refine vp_callSl (va_Run.run (va_runSN (As := [.int (nI (k_nV u))]) (rest := [.long ((va_up (k_ends u) a ((k_ends u a) ||| (bt (k_nV u)))) b), .int (nI b), .ref (ca_ends q)]) ⟨hx, hb, hml, hown, hts⟩ (c_S_only l (k_nV u)) ⟨va_cnB 1 hts (good_up gg_S_only) rfl rfl rfl (hN _ in_155) (hts _ (List.mem_cons_of_mem _ iw_1)) (by decide +kernel) ⟨Nat.le_of_ble_eq_true rfl, Nat.le_of_ble_eq_true rfl⟩, hts _ (List.mem_cons_of_mem _ iw_156), trivial⟩ (ps_0 [.int (nI (k_nV u))] hN) rfl rfl hl.1 rfl (lv_room (Nat.le_of_ble_eq_true rfl)) d_P_addValve_45 ⟨Nat.le_of_ble_eq_true rfl, Nat.le_of_ble_eq_true rfl⟩)) (fun r_2 hr_2 => ?_)
  subst hr_2
  refine lv_lor hx hb d_P_addValve_48 ?_
  refine st_l hx hb hK hP hD hS 9 1 rfl rfl (va_up (va_up (k_ends u) a ((k_ends u a) ||| (bt (k_nV u)))) b (((va_up (k_ends u) a ((k_ends u a) ||| (bt (k_nV u)))) b) ||| (bt (k_nV u)))) (by omega) (by decide) (updL_up _ _ _) d_P_addValve_49 (fun H locs hP hD hS => ?_)
  have hP : va_P (dC, dI) vwCl (wCx q (k_fu u) (k_re u) (k_nS u) (k_nV u) (k_opn u) (k_uns u) (k_dbl u) (k_lett u) (k_cnt u) (k_lev u) (k_src u) (k_fr u) (va_up (k_e1 u) (k_nV u) a) (va_up (k_e2 u) (k_nV u) b) (va_up (va_up (k_ends u) a ((k_ends u a) ||| (bt (k_nV u)))) b (((va_up (k_ends u) a ((k_ends u a) ||| (bt (k_nV u)))) b) ||| (bt (k_nV u)))) (k_fal u) (k_ways u) (k_fls u) (k_fnd u) (k_pf u) (k_pl u) (k_pw u) (k_pc u)) H := hP
  have hD : va_D (va_A (wC q u) s.heap.size) (wCx q (k_fu u) (k_re u) (k_nS u) (k_nV u) (k_opn u) (k_uns u) (k_dbl u) (k_lett u) (k_cnt u) (k_lev u) (k_src u) (k_fr u) (va_up (k_e1 u) (k_nV u) a) (va_up (k_e2 u) (k_nV u) b) (va_up (va_up (k_ends u) a ((k_ends u a) ||| (bt (k_nV u)))) b (((va_up (k_ends u) a ((k_ends u a) ||| (bt (k_nV u)))) b) ||| (bt (k_nV u)))) (k_fal u) (k_ways u) (k_fls u) (k_fnd u) (k_pf u) (k_pl u) (k_pw u) (k_pc u)) := hD
  refine lv_iload_n hx hb d_P_addValve_50 rfl (lv_at hl 4 rfl) ?_
  refine b0_eq (tgt := 68) hx hb d_P_addValve_51 (by decide) (fun c_3 => ?_) (fun c_3 => ?_)
  · refine lv_aload_n hx hb d_P_addValve_68 rfl (lv_at hl 1 rfl) ?_
    refine lv_iload hx hb d_P_addValve_69 (lv_at hl 0 rfl) ?_
    refine lv_iload hx hb d_P_addValve_71 (lv_at hl 5 rfl) ?_
    refine cq_v (va_runV (As := [.int (nI (k_nV u)), .int (bI o)]) (rest := []) ⟨hx, hb, hml, hown, hts⟩ (c_P_turn l dC dI q (k_mk (k_fu u) (k_re u) (k_nS u) (k_nV u) (k_opn u) (k_uns u) (k_dbl u) (k_lett u) (k_cnt u) (k_lev u) (k_src u) (k_fr u) (va_up (k_e1 u) (k_nV u) a) (va_up (k_e2 u) (k_nV u) b) (va_up (va_up (k_ends u) a ((k_ends u a) ||| (bt (k_nV u)))) b (((va_up (k_ends u) a ((k_ends u a) ||| (bt (k_nV u)))) b) ||| (bt (k_nV u)))) (k_fal u) (k_ways u) (k_fls u) (k_fnd u) (k_pf u) (k_pl u) (k_pw u) (k_pc u)) _ (k_nV u) o) (cwV 2 hts (good_up (good_V iw_170 iw_171 iw_172 iw_2 gg_P_turn)) rfl rfl rfl (by decide +kernel) ⟨Nat.le_of_ble_eq_true rfl, Nat.le_of_ble_eq_true rfl⟩) (pv_Q [.int (nI (k_nV u)), .int (bI o)] hN hK hP hD (ci := 0) (q0 := 1) rfl rfl) rfl rfl hl.1 rfl (lv_room (Nat.le_of_ble_eq_true rfl)) d_P_addValve_73 ⟨Nat.le_of_ble_eq_true rfl, Nat.le_of_ble_eq_true rfl⟩) hD hS hA (fun z_5 H locs hr_4 hP hD hS => ?_)
    subst hr_4
    have hP : va_P (dC, dI) vwCl (wCx q (k_fu u) (k_re u) (k_nS u) (k_nV u) (wth (k_opn u) (k_nV u) o) (k_uns u) (k_dbl u) (k_lett u) (k_cnt u) (k_lev u) (k_src u) (k_fr u) (va_up (k_e1 u) (k_nV u) a) (va_up (k_e2 u) (k_nV u) b) (va_up (va_up (k_ends u) a ((k_ends u a) ||| (bt (k_nV u)))) b (((va_up (k_ends u) a ((k_ends u a) ||| (bt (k_nV u)))) b) ||| (bt (k_nV u)))) (k_fal u) (k_ways u) (k_fls u) (k_fnd u) (k_pf u) (k_pl u) (k_pw u) (k_pc u)) H := hP
    have hD : va_D (va_A (wC q u) s.heap.size) (wCx q (k_fu u) (k_re u) (k_nS u) (k_nV u) (wth (k_opn u) (k_nV u) o) (k_uns u) (k_dbl u) (k_lett u) (k_cnt u) (k_lev u) (k_src u) (k_fr u) (va_up (k_e1 u) (k_nV u) a) (va_up (k_e2 u) (k_nV u) b) (va_up (va_up (k_ends u) a ((k_ends u a) ||| (bt (k_nV u)))) b (((va_up (k_ends u) a ((k_ends u a) ||| (bt (k_nV u)))) b) ||| (bt (k_nV u)))) (k_fal u) (k_ways u) (k_fls u) (k_fnd u) (k_pf u) (k_pl u) (k_pw u) (k_pc u)) := hD
    refine lv_aload_n hx hb d_P_addValve_76 rfl (lv_at hl 1 rfl) ?_
    refine lv_dup hx hb d_P_addValve_77 rfl ?_
    refine va_get (D := (dC, dI)) (ci := 0) (v := .int (nI (k_nV u))) (C := "SeatProofs$Plant") (T := F_P) (N := 12) hx hb hts (iu_P _) hown hK hP 1 rfl rfl 1 (by decide) (hts _ (List.mem_cons_of_mem _ iw_29)) (fun _ h9 => h9) rfl d_P_addValve_78 ?_
    refine lv_iconst (v := nI 1) hx hb d_P_addValve_81 (by decide) ?_
    refine lv_iadd hx hb d_P_addValve_82 ?_
    refine tp_i (nI (k_nV u + 1)) (nI_add _ _) ?_
    refine va_put (D := (dC, dI)) (ci := 0) (v := .int (nI (k_nV u + 1))) (ty := .int) (C := "SeatProofs$Plant") (T := F_P) (N := 12) hx hb hts (iu_P _) t_P t_P_ok n_P hown hK hP hD hS 1 rfl rfl 1 (by decide) (hts _ (List.mem_cons_of_mem _ iw_29)) (fun _ h9 => h9) rfl (by decide +kernel) rfl rfl (Nat.le_of_ble_eq_true rfl) d_P_addValve_83 (fun H locs hP hD hS => ?_)
    have hP : va_P (dC, dI) vwCl (wCx q (k_fu u) (k_re u) (k_nS u) (k_nV u + 1) (wth (k_opn u) (k_nV u) o) (k_uns u) (k_dbl u) (k_lett u) (k_cnt u) (k_lev u) (k_src u) (k_fr u) (va_up (k_e1 u) (k_nV u) a) (va_up (k_e2 u) (k_nV u) b) (va_up (va_up (k_ends u) a ((k_ends u a) ||| (bt (k_nV u)))) b (((va_up (k_ends u) a ((k_ends u a) ||| (bt (k_nV u)))) b) ||| (bt (k_nV u)))) (k_fal u) (k_ways u) (k_fls u) (k_fnd u) (k_pf u) (k_pl u) (k_pw u) (k_pc u)) H := hP
    have hD : va_D (va_A (wC q u) s.heap.size) (wCx q (k_fu u) (k_re u) (k_nS u) (k_nV u + 1) (wth (k_opn u) (k_nV u) o) (k_uns u) (k_dbl u) (k_lett u) (k_cnt u) (k_lev u) (k_src u) (k_fr u) (va_up (k_e1 u) (k_nV u) a) (va_up (k_e2 u) (k_nV u) b) (va_up (va_up (k_ends u) a ((k_ends u a) ||| (bt (k_nV u)))) b (((va_up (k_ends u) a ((k_ends u a) ||| (bt (k_nV u)))) b) ||| (bt (k_nV u)))) (k_fal u) (k_ways u) (k_fls u) (k_fnd u) (k_pf u) (k_pl u) (k_pw u) (k_pc u)) := hD
    refine lv_aload_n hx hb d_P_addValve_86 rfl (lv_at hl 1 rfl) ?_
    refine lv_iload hx hb d_P_addValve_87 (lv_at hl 0 rfl) ?_
    refine cq_v (va_runV (As := [.int (nI (k_nV u))]) (rest := []) ⟨hx, hb, hml, hown, hts⟩ (c_P_measure l dC dI q (k_mk (k_fu u) (k_re u) (k_nS u) (k_nV u + 1) (wth (k_opn u) (k_nV u) o) (k_uns u) (k_dbl u) (k_lett u) (k_cnt u) (k_lev u) (k_src u) (k_fr u) (va_up (k_e1 u) (k_nV u) a) (va_up (k_e2 u) (k_nV u) b) (va_up (va_up (k_ends u) a ((k_ends u a) ||| (bt (k_nV u)))) b (((va_up (k_ends u) a ((k_ends u a) ||| (bt (k_nV u)))) b) ||| (bt (k_nV u)))) (k_fal u) (k_ways u) (k_fls u) (k_fnd u) (k_pf u) (k_pl u) (k_pw u) (k_pc u)) _ (k_nV u) h1 (by show va_up (k_e1 u) (k_nV u) a (k_nV u) < 64; rw [va_up_self]; exact ha) (by show va_up (k_e2 u) (k_nV u) b (k_nV u) < 64; rw [va_up_self]; exact hb9)) (cwV 1 hts (good_up (good_V iw_178 iw_180 ip_0 iw_2 gg_P_measure)) rfl rfl rfl (by decide +kernel) ⟨Nat.le_of_ble_eq_true rfl, Nat.le_of_ble_eq_true rfl⟩) (pv_Q [.int (nI (k_nV u))] hN hK hP hD (ci := 0) (q0 := 1) rfl rfl) rfl rfl hl.1 rfl (lv_room (Nat.le_of_ble_eq_true rfl)) d_P_addValve_89 ⟨Nat.le_of_ble_eq_true rfl, Nat.le_of_ble_eq_true rfl⟩) hD hS hA (fun z_8 H locs hr_7 hP hD hS => ?_)
    subst hr_7
    have hP : va_P (dC, dI) vwCl (wCx q (k_fu u) (k_re u) (k_nS u) (k_nV u + 1) (wth (k_opn u) (k_nV u) o) (k_uns u) (k_dbl u) (k_lett u) (k_cnt u) (k_lev u) (k_src u) (k_fr u) (va_up (k_e1 u) (k_nV u) a) (va_up (k_e2 u) (k_nV u) b) (va_up (va_up (k_ends u) a ((k_ends u a) ||| (bt (k_nV u)))) b (((va_up (k_ends u) a ((k_ends u a) ||| (bt (k_nV u)))) b) ||| (bt (k_nV u)))) (kms (k_mk (k_fu u) (k_re u) (k_nS u) (k_nV u + 1) (wth (k_opn u) (k_nV u) o) (k_uns u) (k_dbl u) (k_lett u) (k_cnt u) (k_lev u) (k_src u) (k_fr u) (va_up (k_e1 u) (k_nV u) a) (va_up (k_e2 u) (k_nV u) b) (va_up (va_up (k_ends u) a ((k_ends u a) ||| (bt (k_nV u)))) b (((va_up (k_ends u) a ((k_ends u a) ||| (bt (k_nV u)))) b) ||| (bt (k_nV u)))) (k_fal u) (k_ways u) (k_fls u) (k_fnd u) (k_pf u) (k_pl u) (k_pw u) (k_pc u)) (k_nV u)) (k_ways u) (k_fls u) (k_fnd u) (k_pf u) (k_pl u) (k_pw u) (k_pc u)) H := hP
    have hD : va_D (va_A (wC q u) s.heap.size) (wCx q (k_fu u) (k_re u) (k_nS u) (k_nV u + 1) (wth (k_opn u) (k_nV u) o) (k_uns u) (k_dbl u) (k_lett u) (k_cnt u) (k_lev u) (k_src u) (k_fr u) (va_up (k_e1 u) (k_nV u) a) (va_up (k_e2 u) (k_nV u) b) (va_up (va_up (k_ends u) a ((k_ends u a) ||| (bt (k_nV u)))) b (((va_up (k_ends u) a ((k_ends u a) ||| (bt (k_nV u)))) b) ||| (bt (k_nV u)))) (kms (k_mk (k_fu u) (k_re u) (k_nS u) (k_nV u + 1) (wth (k_opn u) (k_nV u) o) (k_uns u) (k_dbl u) (k_lett u) (k_cnt u) (k_lev u) (k_src u) (k_fr u) (va_up (k_e1 u) (k_nV u) a) (va_up (k_e2 u) (k_nV u) b) (va_up (va_up (k_ends u) a ((k_ends u a) ||| (bt (k_nV u)))) b (((va_up (k_ends u) a ((k_ends u a) ||| (bt (k_nV u)))) b) ||| (bt (k_nV u)))) (k_fal u) (k_ways u) (k_fls u) (k_fnd u) (k_pf u) (k_pl u) (k_pw u) (k_pc u)) (k_nV u)) (k_ways u) (k_fls u) (k_fnd u) (k_pf u) (k_pl u) (k_pw u) (k_pc u)) := hD
    refine lv_iload hx hb d_P_addValve_92 (lv_at hl 0 rfl) ?_
    exact W.iret hx hb hr (fun t9 ht9 hW9 => ⟨⟨_, (k_mk (k_fu u) (k_re u) (k_nS u) (k_nV u + 1) (wth (k_opn u) (k_nV u) o) (k_uns u) (k_dbl u) (k_lett u) (k_cnt u) (k_lev u) (k_src u) (k_fr u) (va_up (k_e1 u) (k_nV u) a) (va_up (k_e2 u) (k_nV u) b) (va_up (va_up (k_ends u) a ((k_ends u a) ||| (bt (k_nV u)))) b (((va_up (k_ends u) a ((k_ends u a) ||| (bt (k_nV u)))) b) ||| (bt (k_nV u)))) (kms (k_mk (k_fu u) (k_re u) (k_nS u) (k_nV u + 1) (wth (k_opn u) (k_nV u) o) (k_uns u) (k_dbl u) (k_lett u) (k_cnt u) (k_lev u) (k_src u) (k_fr u) (va_up (k_e1 u) (k_nV u) a) (va_up (k_e2 u) (k_nV u) b) (va_up (va_up (k_ends u) a ((k_ends u a) ||| (bt (k_nV u)))) b (((va_up (k_ends u) a ((k_ends u a) ||| (bt (k_nV u)))) b) ||| (bt (k_nV u)))) (k_fal u) (k_ways u) (k_fls u) (k_fnd u) (k_pf u) (k_pl u) (k_pw u) (k_pc u)) (k_nV u)) (k_ways u) (k_fls u) (k_fnd u) (k_pf u) (k_pl u) (k_pw u) (k_pc u)), rfl, ⟨rfl, by rw [k_addV, k_addV1, if_neg (fun h => absurd (h.symm.trans c_3) (by decide))]; first | done | rfl⟩, by rw [ht9]; exact hP, va_K.moved hW9.alike hK, hD⟩, hS.F ht9⟩) hS.2.2 d_P_addValve_94
  · refine lv_aload_n hx hb d_P_addValve_54 rfl (lv_at hl 1 rfl) ?_
    refine lv_dup hx hb d_P_addValve_55 rfl ?_
    refine va_get (D := (dC, dI)) (ci := 0) (v := .long (k_dbl u)) (C := "SeatProofs$Plant") (T := F_P) (N := 12) hx hb hts (iu_P _) hown hK hP 1 rfl rfl 9 (by decide) (hts _ (List.mem_cons_of_mem _ iw_45)) (fun _ h9 => h9) rfl d_P_addValve_56 ?_
    refine lv_iload hx hb d_P_addValve_59 (lv_at hl 0 rfl) ?_
    refine vp_callSl (va_Run.run (va_runSN (As := [.int (nI (k_nV u))]) (rest := [.long (k_dbl u), .ref (ca_p q)]) ⟨hx, hb, hml, hown, hts⟩ (c_S_only l (k_nV u)) ⟨va_cnB 1 hts (good_up gg_S_only) rfl rfl rfl (hN _ in_155) (hts _ (List.mem_cons_of_mem _ iw_1)) (by decide +kernel) ⟨Nat.le_of_ble_eq_true rfl, Nat.le_of_ble_eq_true rfl⟩, hts _ (List.mem_cons_of_mem _ iw_156), trivial⟩ (ps_0 [.int (nI (k_nV u))] hN) rfl rfl hl.1 rfl (lv_room (Nat.le_of_ble_eq_true rfl)) d_P_addValve_61 ⟨Nat.le_of_ble_eq_true rfl, Nat.le_of_ble_eq_true rfl⟩)) (fun r_10 hr_10 => ?_)
    subst hr_10
    refine lv_lor hx hb d_P_addValve_64 ?_
    refine va_put (D := (dC, dI)) (ci := 0) (v := .long ((k_dbl u) ||| (bt (k_nV u)))) (ty := .long) (C := "SeatProofs$Plant") (T := F_P) (N := 12) hx hb hts (iu_P _) t_P t_P_ok n_P hown hK hP hD hS 1 rfl rfl 9 (by decide) (hts _ (List.mem_cons_of_mem _ iw_45)) (fun _ h9 => h9) rfl (by decide +kernel) rfl rfl (Nat.le_of_ble_eq_true rfl) d_P_addValve_65 (fun H locs hP hD hS => ?_)
    have hP : va_P (dC, dI) vwCl (wCx q (k_fu u) (k_re u) (k_nS u) (k_nV u) (k_opn u) (k_uns u) ((k_dbl u) ||| (bt (k_nV u))) (k_lett u) (k_cnt u) (k_lev u) (k_src u) (k_fr u) (va_up (k_e1 u) (k_nV u) a) (va_up (k_e2 u) (k_nV u) b) (va_up (va_up (k_ends u) a ((k_ends u a) ||| (bt (k_nV u)))) b (((va_up (k_ends u) a ((k_ends u a) ||| (bt (k_nV u)))) b) ||| (bt (k_nV u)))) (k_fal u) (k_ways u) (k_fls u) (k_fnd u) (k_pf u) (k_pl u) (k_pw u) (k_pc u)) H := hP
    have hD : va_D (va_A (wC q u) s.heap.size) (wCx q (k_fu u) (k_re u) (k_nS u) (k_nV u) (k_opn u) (k_uns u) ((k_dbl u) ||| (bt (k_nV u))) (k_lett u) (k_cnt u) (k_lev u) (k_src u) (k_fr u) (va_up (k_e1 u) (k_nV u) a) (va_up (k_e2 u) (k_nV u) b) (va_up (va_up (k_ends u) a ((k_ends u a) ||| (bt (k_nV u)))) b (((va_up (k_ends u) a ((k_ends u a) ||| (bt (k_nV u)))) b) ||| (bt (k_nV u)))) (k_fal u) (k_ways u) (k_fls u) (k_fnd u) (k_pf u) (k_pl u) (k_pw u) (k_pc u)) := hD
    refine lv_aload_n hx hb d_P_addValve_68 rfl (lv_at hl 1 rfl) ?_
    refine lv_iload hx hb d_P_addValve_69 (lv_at hl 0 rfl) ?_
    refine lv_iload hx hb d_P_addValve_71 (lv_at hl 5 rfl) ?_
    refine cq_v (va_runV (As := [.int (nI (k_nV u)), .int (bI o)]) (rest := []) ⟨hx, hb, hml, hown, hts⟩ (c_P_turn l dC dI q (k_mk (k_fu u) (k_re u) (k_nS u) (k_nV u) (k_opn u) (k_uns u) ((k_dbl u) ||| (bt (k_nV u))) (k_lett u) (k_cnt u) (k_lev u) (k_src u) (k_fr u) (va_up (k_e1 u) (k_nV u) a) (va_up (k_e2 u) (k_nV u) b) (va_up (va_up (k_ends u) a ((k_ends u a) ||| (bt (k_nV u)))) b (((va_up (k_ends u) a ((k_ends u a) ||| (bt (k_nV u)))) b) ||| (bt (k_nV u)))) (k_fal u) (k_ways u) (k_fls u) (k_fnd u) (k_pf u) (k_pl u) (k_pw u) (k_pc u)) _ (k_nV u) o) (cwV 2 hts (good_up (good_V iw_170 iw_171 iw_172 iw_2 gg_P_turn)) rfl rfl rfl (by decide +kernel) ⟨Nat.le_of_ble_eq_true rfl, Nat.le_of_ble_eq_true rfl⟩) (pv_Q [.int (nI (k_nV u)), .int (bI o)] hN hK hP hD (ci := 0) (q0 := 1) rfl rfl) rfl rfl hl.1 rfl (lv_room (Nat.le_of_ble_eq_true rfl)) d_P_addValve_73 ⟨Nat.le_of_ble_eq_true rfl, Nat.le_of_ble_eq_true rfl⟩) hD hS hA (fun z_12 H locs hr_11 hP hD hS => ?_)
    subst hr_11
    have hP : va_P (dC, dI) vwCl (wCx q (k_fu u) (k_re u) (k_nS u) (k_nV u) (wth (k_opn u) (k_nV u) o) (k_uns u) ((k_dbl u) ||| (bt (k_nV u))) (k_lett u) (k_cnt u) (k_lev u) (k_src u) (k_fr u) (va_up (k_e1 u) (k_nV u) a) (va_up (k_e2 u) (k_nV u) b) (va_up (va_up (k_ends u) a ((k_ends u a) ||| (bt (k_nV u)))) b (((va_up (k_ends u) a ((k_ends u a) ||| (bt (k_nV u)))) b) ||| (bt (k_nV u)))) (k_fal u) (k_ways u) (k_fls u) (k_fnd u) (k_pf u) (k_pl u) (k_pw u) (k_pc u)) H := hP
    have hD : va_D (va_A (wC q u) s.heap.size) (wCx q (k_fu u) (k_re u) (k_nS u) (k_nV u) (wth (k_opn u) (k_nV u) o) (k_uns u) ((k_dbl u) ||| (bt (k_nV u))) (k_lett u) (k_cnt u) (k_lev u) (k_src u) (k_fr u) (va_up (k_e1 u) (k_nV u) a) (va_up (k_e2 u) (k_nV u) b) (va_up (va_up (k_ends u) a ((k_ends u a) ||| (bt (k_nV u)))) b (((va_up (k_ends u) a ((k_ends u a) ||| (bt (k_nV u)))) b) ||| (bt (k_nV u)))) (k_fal u) (k_ways u) (k_fls u) (k_fnd u) (k_pf u) (k_pl u) (k_pw u) (k_pc u)) := hD
    refine lv_aload_n hx hb d_P_addValve_76 rfl (lv_at hl 1 rfl) ?_
    refine lv_dup hx hb d_P_addValve_77 rfl ?_
    refine va_get (D := (dC, dI)) (ci := 0) (v := .int (nI (k_nV u))) (C := "SeatProofs$Plant") (T := F_P) (N := 12) hx hb hts (iu_P _) hown hK hP 1 rfl rfl 1 (by decide) (hts _ (List.mem_cons_of_mem _ iw_29)) (fun _ h9 => h9) rfl d_P_addValve_78 ?_
    refine lv_iconst (v := nI 1) hx hb d_P_addValve_81 (by decide) ?_
    refine lv_iadd hx hb d_P_addValve_82 ?_
    refine tp_i (nI (k_nV u + 1)) (nI_add _ _) ?_
    refine va_put (D := (dC, dI)) (ci := 0) (v := .int (nI (k_nV u + 1))) (ty := .int) (C := "SeatProofs$Plant") (T := F_P) (N := 12) hx hb hts (iu_P _) t_P t_P_ok n_P hown hK hP hD hS 1 rfl rfl 1 (by decide) (hts _ (List.mem_cons_of_mem _ iw_29)) (fun _ h9 => h9) rfl (by decide +kernel) rfl rfl (Nat.le_of_ble_eq_true rfl) d_P_addValve_83 (fun H locs hP hD hS => ?_)
    have hP : va_P (dC, dI) vwCl (wCx q (k_fu u) (k_re u) (k_nS u) (k_nV u + 1) (wth (k_opn u) (k_nV u) o) (k_uns u) ((k_dbl u) ||| (bt (k_nV u))) (k_lett u) (k_cnt u) (k_lev u) (k_src u) (k_fr u) (va_up (k_e1 u) (k_nV u) a) (va_up (k_e2 u) (k_nV u) b) (va_up (va_up (k_ends u) a ((k_ends u a) ||| (bt (k_nV u)))) b (((va_up (k_ends u) a ((k_ends u a) ||| (bt (k_nV u)))) b) ||| (bt (k_nV u)))) (k_fal u) (k_ways u) (k_fls u) (k_fnd u) (k_pf u) (k_pl u) (k_pw u) (k_pc u)) H := hP
    have hD : va_D (va_A (wC q u) s.heap.size) (wCx q (k_fu u) (k_re u) (k_nS u) (k_nV u + 1) (wth (k_opn u) (k_nV u) o) (k_uns u) ((k_dbl u) ||| (bt (k_nV u))) (k_lett u) (k_cnt u) (k_lev u) (k_src u) (k_fr u) (va_up (k_e1 u) (k_nV u) a) (va_up (k_e2 u) (k_nV u) b) (va_up (va_up (k_ends u) a ((k_ends u a) ||| (bt (k_nV u)))) b (((va_up (k_ends u) a ((k_ends u a) ||| (bt (k_nV u)))) b) ||| (bt (k_nV u)))) (k_fal u) (k_ways u) (k_fls u) (k_fnd u) (k_pf u) (k_pl u) (k_pw u) (k_pc u)) := hD
    refine lv_aload_n hx hb d_P_addValve_86 rfl (lv_at hl 1 rfl) ?_
    refine lv_iload hx hb d_P_addValve_87 (lv_at hl 0 rfl) ?_
    refine cq_v (va_runV (As := [.int (nI (k_nV u))]) (rest := []) ⟨hx, hb, hml, hown, hts⟩ (c_P_measure l dC dI q (k_mk (k_fu u) (k_re u) (k_nS u) (k_nV u + 1) (wth (k_opn u) (k_nV u) o) (k_uns u) ((k_dbl u) ||| (bt (k_nV u))) (k_lett u) (k_cnt u) (k_lev u) (k_src u) (k_fr u) (va_up (k_e1 u) (k_nV u) a) (va_up (k_e2 u) (k_nV u) b) (va_up (va_up (k_ends u) a ((k_ends u a) ||| (bt (k_nV u)))) b (((va_up (k_ends u) a ((k_ends u a) ||| (bt (k_nV u)))) b) ||| (bt (k_nV u)))) (k_fal u) (k_ways u) (k_fls u) (k_fnd u) (k_pf u) (k_pl u) (k_pw u) (k_pc u)) _ (k_nV u) h1 (by show va_up (k_e1 u) (k_nV u) a (k_nV u) < 64; rw [va_up_self]; exact ha) (by show va_up (k_e2 u) (k_nV u) b (k_nV u) < 64; rw [va_up_self]; exact hb9)) (cwV 1 hts (good_up (good_V iw_178 iw_180 ip_0 iw_2 gg_P_measure)) rfl rfl rfl (by decide +kernel) ⟨Nat.le_of_ble_eq_true rfl, Nat.le_of_ble_eq_true rfl⟩) (pv_Q [.int (nI (k_nV u))] hN hK hP hD (ci := 0) (q0 := 1) rfl rfl) rfl rfl hl.1 rfl (lv_room (Nat.le_of_ble_eq_true rfl)) d_P_addValve_89 ⟨Nat.le_of_ble_eq_true rfl, Nat.le_of_ble_eq_true rfl⟩) hD hS hA (fun z_15 H locs hr_14 hP hD hS => ?_)
    subst hr_14
    have hP : va_P (dC, dI) vwCl (wCx q (k_fu u) (k_re u) (k_nS u) (k_nV u + 1) (wth (k_opn u) (k_nV u) o) (k_uns u) ((k_dbl u) ||| (bt (k_nV u))) (k_lett u) (k_cnt u) (k_lev u) (k_src u) (k_fr u) (va_up (k_e1 u) (k_nV u) a) (va_up (k_e2 u) (k_nV u) b) (va_up (va_up (k_ends u) a ((k_ends u a) ||| (bt (k_nV u)))) b (((va_up (k_ends u) a ((k_ends u a) ||| (bt (k_nV u)))) b) ||| (bt (k_nV u)))) (kms (k_mk (k_fu u) (k_re u) (k_nS u) (k_nV u + 1) (wth (k_opn u) (k_nV u) o) (k_uns u) ((k_dbl u) ||| (bt (k_nV u))) (k_lett u) (k_cnt u) (k_lev u) (k_src u) (k_fr u) (va_up (k_e1 u) (k_nV u) a) (va_up (k_e2 u) (k_nV u) b) (va_up (va_up (k_ends u) a ((k_ends u a) ||| (bt (k_nV u)))) b (((va_up (k_ends u) a ((k_ends u a) ||| (bt (k_nV u)))) b) ||| (bt (k_nV u)))) (k_fal u) (k_ways u) (k_fls u) (k_fnd u) (k_pf u) (k_pl u) (k_pw u) (k_pc u)) (k_nV u)) (k_ways u) (k_fls u) (k_fnd u) (k_pf u) (k_pl u) (k_pw u) (k_pc u)) H := hP
    have hD : va_D (va_A (wC q u) s.heap.size) (wCx q (k_fu u) (k_re u) (k_nS u) (k_nV u + 1) (wth (k_opn u) (k_nV u) o) (k_uns u) ((k_dbl u) ||| (bt (k_nV u))) (k_lett u) (k_cnt u) (k_lev u) (k_src u) (k_fr u) (va_up (k_e1 u) (k_nV u) a) (va_up (k_e2 u) (k_nV u) b) (va_up (va_up (k_ends u) a ((k_ends u a) ||| (bt (k_nV u)))) b (((va_up (k_ends u) a ((k_ends u a) ||| (bt (k_nV u)))) b) ||| (bt (k_nV u)))) (kms (k_mk (k_fu u) (k_re u) (k_nS u) (k_nV u + 1) (wth (k_opn u) (k_nV u) o) (k_uns u) ((k_dbl u) ||| (bt (k_nV u))) (k_lett u) (k_cnt u) (k_lev u) (k_src u) (k_fr u) (va_up (k_e1 u) (k_nV u) a) (va_up (k_e2 u) (k_nV u) b) (va_up (va_up (k_ends u) a ((k_ends u a) ||| (bt (k_nV u)))) b (((va_up (k_ends u) a ((k_ends u a) ||| (bt (k_nV u)))) b) ||| (bt (k_nV u)))) (k_fal u) (k_ways u) (k_fls u) (k_fnd u) (k_pf u) (k_pl u) (k_pw u) (k_pc u)) (k_nV u)) (k_ways u) (k_fls u) (k_fnd u) (k_pf u) (k_pl u) (k_pw u) (k_pc u)) := hD
    refine lv_iload hx hb d_P_addValve_92 (lv_at hl 0 rfl) ?_
    exact W.iret hx hb hr (fun t9 ht9 hW9 => ⟨⟨_, (k_mk (k_fu u) (k_re u) (k_nS u) (k_nV u + 1) (wth (k_opn u) (k_nV u) o) (k_uns u) ((k_dbl u) ||| (bt (k_nV u))) (k_lett u) (k_cnt u) (k_lev u) (k_src u) (k_fr u) (va_up (k_e1 u) (k_nV u) a) (va_up (k_e2 u) (k_nV u) b) (va_up (va_up (k_ends u) a ((k_ends u a) ||| (bt (k_nV u)))) b (((va_up (k_ends u) a ((k_ends u a) ||| (bt (k_nV u)))) b) ||| (bt (k_nV u)))) (kms (k_mk (k_fu u) (k_re u) (k_nS u) (k_nV u + 1) (wth (k_opn u) (k_nV u) o) (k_uns u) ((k_dbl u) ||| (bt (k_nV u))) (k_lett u) (k_cnt u) (k_lev u) (k_src u) (k_fr u) (va_up (k_e1 u) (k_nV u) a) (va_up (k_e2 u) (k_nV u) b) (va_up (va_up (k_ends u) a ((k_ends u a) ||| (bt (k_nV u)))) b (((va_up (k_ends u) a ((k_ends u a) ||| (bt (k_nV u)))) b) ||| (bt (k_nV u)))) (k_fal u) (k_ways u) (k_fls u) (k_fnd u) (k_pf u) (k_pl u) (k_pw u) (k_pc u)) (k_nV u)) (k_ways u) (k_fls u) (k_fnd u) (k_pf u) (k_pl u) (k_pw u) (k_pc u)), rfl, ⟨rfl, by rw [k_addV, k_addV1, if_pos c_3]; first | done | rfl⟩, by rw [ht9]; exact hP, va_K.moved hW9.alike hK, hD⟩, hS.F ht9⟩) hS.2.2 d_P_addValve_94
set_option maxHeartbeats 4000000 in
set_option maxRecDepth 100000 in
theorem c_P_raiseTo (l : Launch) (dC : Nat → ClassId) (dI : Nat → Nat → Nat) (q : CA) (u : CSt) (sz : Nat) (n : Nat) (h : Int64) (hn : n < 64) (h1 : k_nV u ≤ 64) (h2 : ∀ j, k_e1 u j < 64) (h3 : ∀ j, k_e2 u j < 64) : Met l y_P_raiseTo w_P_raiseTo ({ frames := 3, cells := 0, slots := 0, locals := 66 }) (qPc (dC, dI) vwCl (tC q) (wC q u) sz [Value.ref (ca_p q), Value.int (nI n), Value.long h]) (va_Qv (fun z : CSt => z = k_s_fal (k_s_lev u (va_up (k_lev u) n h)) (krs (k_s_lev u (va_up (k_lev u) n h)) n (k_nV u))) (qB (dC, dI) vwCl (tC q) (wC q u) sz (wC q)) (va_A (wC q u) sz)) 0 0 (va_A (wC q u) sz) := by
  refine Met.ofW (cc := b_P_raiseTo) (maxL := 5) (ret := none) (by decide) rfl ?_
  intro p e s m args below meth c s₁ B hml hv
  obtain ⟨rfl, hsz, hP, hK, hD0, hN⟩ := hv
  have hx := B.exec
  have hb := B.bytes
  have hr := B.returns
  have hts := atoms_spec (ws := w_P_raiseTo) B.pre
  have hown : s.vm.findClass "SeatProofs$Plant" = some m.cls := findClass_of_methodNamed B.named
  have hlocks := B.notSynchronized
  subst hsz
  have hD := hD0.self (sz := s.heap.size)
  have hA : ∀ z : Nat, s.heap.size ≤ z → va_A (wC q u) s.heap.size z := fun z h => Or.inr h
  have hS : va_S (va_A (wC q u) s.heap.size) s.heap s.heap [] := va_S.rf
  have hl := lv_entry ([Value.ref (ca_p q), Value.int (nI n), Value.long h]) (n := 5) (Nat.le_of_ble_eq_true rfl)
  rw [lg_entry_eq]
  generalize (lg_sl ([Value.ref (ca_p q), Value.int (nI n), Value.long h]) ++ List.replicate (5 - (lg_sl ([Value.ref (ca_p q), Value.int (nI n), Value.long h])).length) Slot.unset).toArray = ls at hl ⊢
  have hl : lv_has ls 5 [(0, .ref (ca_p q)), (1, .int (nI n)), (2, .long h)] := hl
  refine lv_aload_n hx hb d_P_raiseTo_0 rfl (lv_at hl 0 rfl) ?_
  refine va_get (D := (dC, dI)) (ci := 0) (v := .ref (ca_lev q)) (C := "SeatProofs$Plant") (T := F_P) (N := 12) hx hb hts (iu_P _) hown hK hP 1 rfl rfl 2 (by decide) (hts _ (List.mem_cons_of_mem _ iw_32)) (fun _ h9 => h9) rfl d_P_raiseTo_1 ?_
  refine lv_iload_n hx hb d_P_raiseTo_4 rfl (lv_at hl 1 rfl) ?_
  refine lv_lload_n hx hb d_P_raiseTo_5 rfl (lv_at hl 2 rfl) ?_
  refine st_l hx hb hK hP hD hS 4 1 rfl rfl (va_up (k_lev u) n h) (by omega) (by decide) (updL_up _ _ _) d_P_raiseTo_6 (fun H locs hP hD hS => ?_)
  have hP : va_P (dC, dI) vwCl (wCx q (k_fu u) (k_re u) (k_nS u) (k_nV u) (k_opn u) (k_uns u) (k_dbl u) (k_lett u) (k_cnt u) (va_up (k_lev u) n h) (k_src u) (k_fr u) (k_e1 u) (k_e2 u) (k_ends u) (k_fal u) (k_ways u) (k_fls u) (k_fnd u) (k_pf u) (k_pl u) (k_pw u) (k_pc u)) H := hP
  have hD : va_D (va_A (wC q u) s.heap.size) (wCx q (k_fu u) (k_re u) (k_nS u) (k_nV u) (k_opn u) (k_uns u) (k_dbl u) (k_lett u) (k_cnt u) (va_up (k_lev u) n h) (k_src u) (k_fr u) (k_e1 u) (k_e2 u) (k_ends u) (k_fal u) (k_ways u) (k_fls u) (k_fnd u) (k_pf u) (k_pl u) (k_pw u) (k_pc u)) := hD
  refine lv_iconst (v := nI 0) hx hb d_P_raiseTo_7 (by decide) ?_
  refine lv_istore (lv' := [(4, .int (nI 0)), (0, .ref (ca_p q)), (1, .int (nI n)), (2, .long h)]) hx hb d_P_raiseTo_8 hl (by decide) rfl (fun ls hl => ?_)
  have L10 : ∀ (n10 : Nat) (x : Nat) (g : Nat → Int64), (x ≤ k_nV u) → (g = krs (k_s_lev u (va_up (k_lev u) n h)) n x) → k_nV u - x < n10 → ∀ (H : Heap) (locs : List Loc) (ls : Array Slot), va_P (dC, dI) vwCl (wCx q (k_fu u) (k_re u) (k_nS u) (k_nV u) (k_opn u) (k_uns u) (k_dbl u) (k_lett u) (k_cnt u) (va_up (k_lev u) n h) (k_src u) (k_fr u) (k_e1 u) (k_e2 u) (k_ends u) g (k_ways u) (k_fls u) (k_fnd u) (k_pf u) (k_pl u) (k_pw u) (k_pc u)) H → va_D (va_A (wC q u) s.heap.size) (wCx q (k_fu u) (k_re u) (k_nS u) (k_nV u) (k_opn u) (k_uns u) (k_dbl u) (k_lett u) (k_cnt u) (va_up (k_lev u) n h) (k_src u) (k_fr u) (k_e1 u) (k_e2 u) (k_ends u) g (k_ways u) (k_fls u) (k_fnd u) (k_pf u) (k_pl u) (k_pw u) (k_pc u)) → va_S (va_A (wC q u) s.heap.size) s.heap H locs → lv_has ls 5 [(0, .ref (ca_p q)), (1, .int (nI n)), (4, .int (nI x))] → W p l e (headSpec w_P_raiseTo ({ frames := 3, cells := 0, slots := 0, locals := 66 })).room s m [Value.ref (ca_p q), Value.int (nI n), Value.long h].toArray below meth c H locs 0 0 (MQ below (va_Qv (fun z : CSt => z = k_s_fal (k_s_lev u (va_up (k_lev u) n h)) (krs (k_s_lev u (va_up (k_lev u) n h)) n (k_nV u))) (qB (dC, dI) vwCl (tC q) (wC q u) s.heap.size (wC q)) (va_A (wC q u) s.heap.size)) [Value.ref (ca_p q), Value.int (nI n), Value.long h].toArray s 0 0 (va_A (wC q u) s.heap.size)) (F0 m 10 ls []) := by
    intro n10
    induction n10 with
    | zero => intro x g hx10 hg10 hm; exact absurd hm (Nat.not_lt_zero _)
    | succ n10 ih10 =>
      intro x g hx10 hg10 hm10 H locs ls hP hD hS hl
      refine lv_iload hx hb d_P_raiseTo_10 (lv_at hl 2 rfl) ?_
      refine lv_aload_n hx hb d_P_raiseTo_12 rfl (lv_at hl 0 rfl) ?_
      refine va_get (D := (dC, dI)) (ci := 0) (v := .int (nI (k_nV u))) (C := "SeatProofs$Plant") (T := F_P) (N := 12) hx hb hts (iu_P _) hown hK hP 1 rfl rfl 1 (by decide) (hts _ (List.mem_cons_of_mem _ iw_29)) (fun _ h9 => h9) rfl d_P_raiseTo_13 ?_
      refine nv_ge (tgt := 45) hx hb d_P_raiseTo_16 (by decide) (by omega) (by omega) (fun c_1 => ?_) (fun c_1 => ?_)
      · exact W.vret hx hb hr (fun t9 ht9 hW9 => ⟨⟨(k_mk (k_fu u) (k_re u) (k_nS u) (k_nV u) (k_opn u) (k_uns u) (k_dbl u) (k_lett u) (k_cnt u) (va_up (k_lev u) n h) (k_src u) (k_fr u) (k_e1 u) (k_e2 u) (k_ends u) g (k_ways u) (k_fls u) (k_fnd u) (k_pf u) (k_pl u) (k_pw u) (k_pc u)), rfl, (by rw [hg10, show x = k_nV u from by omega]), by rw [ht9]; exact hP, va_K.moved hW9.alike hK, hD⟩, hS.F ht9⟩) hS.2.2 d_P_raiseTo_45
      · refine lv_aload_n hx hb d_P_raiseTo_19 rfl (lv_at hl 0 rfl) ?_
        refine va_get (D := (dC, dI)) (ci := 0) (v := .ref (ca_ends q)) (C := "SeatProofs$Plant") (T := F_P) (N := 12) hx hb hts (iu_P _) hown hK hP 1 rfl rfl 10 (by decide) (hts _ (List.mem_cons_of_mem _ iw_46)) (fun _ h9 => h9) rfl d_P_raiseTo_20 ?_
        refine lv_iload_n hx hb d_P_raiseTo_23 rfl (lv_at hl 1 rfl) ?_
        refine ld_l hx hb hK hP 9 1 rfl rfl (k_ends u n) (by omega) (by decide) rfl d_P_raiseTo_24 ?_
        refine lv_iload hx hb d_P_raiseTo_25 (lv_at hl 2 rfl) ?_
        refine vp_callSi (va_Run.run (va_runSN (As := [.long (k_ends u n), .int (nI x)]) (rest := []) ⟨hx, hb, hml, hown, hts⟩ (c_S_has l (k_ends u n) x (by omega)) ⟨va_cnB 2 hts (good_up gg_S_has) rfl rfl rfl (hN _ in_190) (hts _ (List.mem_cons_of_mem _ iw_1)) (by decide +kernel) ⟨Nat.le_of_ble_eq_true rfl, Nat.le_of_ble_eq_true rfl⟩, hts _ (List.mem_cons_of_mem _ iw_191), trivial⟩ (ps_0 [.long (k_ends u n), .int (nI x)] hN) rfl rfl hl.1 rfl (lv_room (Nat.le_of_ble_eq_true rfl)) d_P_raiseTo_27 ⟨Nat.le_of_ble_eq_true rfl, Nat.le_of_ble_eq_true rfl⟩)) (fun r_2 hr_2 => ?_)
        subst hr_2
        refine b0_eq (tgt := 39) hx hb d_P_raiseTo_30 (by decide) (fun c_3 => ?_) (fun c_3 => ?_)
        · refine lv_iinc (v := nI (x + 1)) (lv' := [(4, .int (nI (x + 1))), (0, .ref (ca_p q)), (1, .int (nI n))]) hx hb d_P_raiseTo_39 hl (k := 2) rfl (nI_1 _) (by decide) rfl (fun ls hl => ?_)
          refine lv_goto (tgt := 10) hx hb d_P_raiseTo_42 (by decide) ?_
          exact ih10 (x + 1) g (by omega) (by rw [krs, if_neg (fun q => absurd (q.symm.trans c_3) (by decide))]; exact hg10) (by omega) _ _ ls hP hD hS (lv_sub hl [1, 2, 0] rfl)
        · refine lv_aload_n hx hb d_P_raiseTo_33 rfl (lv_at hl 0 rfl) ?_
          refine lv_iload hx hb d_P_raiseTo_34 (lv_at hl 2 rfl) ?_
          refine cq_v (va_runV (As := [.int (nI x)]) (rest := []) ⟨hx, hb, hml, hown, hts⟩ (c_P_measure l dC dI q (k_mk (k_fu u) (k_re u) (k_nS u) (k_nV u) (k_opn u) (k_uns u) (k_dbl u) (k_lett u) (k_cnt u) (va_up (k_lev u) n h) (k_src u) (k_fr u) (k_e1 u) (k_e2 u) (k_ends u) g (k_ways u) (k_fls u) (k_fnd u) (k_pf u) (k_pl u) (k_pw u) (k_pc u)) _ x (by omega) (h2 _) (h3 _)) (cwV 1 hts (good_up (good_V iw_178 iw_180 ip_0 iw_2 gg_P_measure)) rfl rfl rfl (by decide +kernel) ⟨Nat.le_of_ble_eq_true rfl, Nat.le_of_ble_eq_true rfl⟩) (pv_Q [.int (nI x)] hN hK hP hD (ci := 0) (q0 := 1) rfl rfl) rfl rfl hl.1 rfl (lv_room (Nat.le_of_ble_eq_true rfl)) d_P_raiseTo_36 ⟨Nat.le_of_ble_eq_true rfl, Nat.le_of_ble_eq_true rfl⟩) hD hS hA (fun z_5 H locs hr_4 hP hD hS => ?_)
          subst hr_4
          have hP : va_P (dC, dI) vwCl (wCx q (k_fu u) (k_re u) (k_nS u) (k_nV u) (k_opn u) (k_uns u) (k_dbl u) (k_lett u) (k_cnt u) (va_up (k_lev u) n h) (k_src u) (k_fr u) (k_e1 u) (k_e2 u) (k_ends u) (kms (k_mk (k_fu u) (k_re u) (k_nS u) (k_nV u) (k_opn u) (k_uns u) (k_dbl u) (k_lett u) (k_cnt u) (va_up (k_lev u) n h) (k_src u) (k_fr u) (k_e1 u) (k_e2 u) (k_ends u) g (k_ways u) (k_fls u) (k_fnd u) (k_pf u) (k_pl u) (k_pw u) (k_pc u)) x) (k_ways u) (k_fls u) (k_fnd u) (k_pf u) (k_pl u) (k_pw u) (k_pc u)) H := hP
          have hD : va_D (va_A (wC q u) s.heap.size) (wCx q (k_fu u) (k_re u) (k_nS u) (k_nV u) (k_opn u) (k_uns u) (k_dbl u) (k_lett u) (k_cnt u) (va_up (k_lev u) n h) (k_src u) (k_fr u) (k_e1 u) (k_e2 u) (k_ends u) (kms (k_mk (k_fu u) (k_re u) (k_nS u) (k_nV u) (k_opn u) (k_uns u) (k_dbl u) (k_lett u) (k_cnt u) (va_up (k_lev u) n h) (k_src u) (k_fr u) (k_e1 u) (k_e2 u) (k_ends u) g (k_ways u) (k_fls u) (k_fnd u) (k_pf u) (k_pl u) (k_pw u) (k_pc u)) x) (k_ways u) (k_fls u) (k_fnd u) (k_pf u) (k_pl u) (k_pw u) (k_pc u)) := hD
          refine lv_iinc (v := nI (x + 1)) (lv' := [(4, .int (nI (x + 1))), (0, .ref (ca_p q)), (1, .int (nI n))]) hx hb d_P_raiseTo_39 hl (k := 2) rfl (nI_1 _) (by decide) rfl (fun ls hl => ?_)
          refine lv_goto (tgt := 10) hx hb d_P_raiseTo_42 (by decide) ?_
          exact ih10 (x + 1) (kms (k_mk (k_fu u) (k_re u) (k_nS u) (k_nV u) (k_opn u) (k_uns u) (k_dbl u) (k_lett u) (k_cnt u) (va_up (k_lev u) n h) (k_src u) (k_fr u) (k_e1 u) (k_e2 u) (k_ends u) g (k_ways u) (k_fls u) (k_fnd u) (k_pf u) (k_pl u) (k_pw u) (k_pc u)) x) (by omega) (by rw [krs, if_pos c_3, ← hg10]; first | done | rfl) (by omega) _ _ ls hP hD hS (lv_sub hl [1, 2, 0] rfl)
  exact L10 _ 0 (k_fal u) (Nat.zero_le _) rfl (Nat.lt_succ_self _) _ _ ls hP hD hS (lv_sub hl [1, 2, 0] rfl)
set_option maxHeartbeats 4000000 in
set_option maxRecDepth 100000 in
theorem c_S_memberAt (l : Launch) (x : Int64) (k : Nat) (hk : k < 2 ^ 31) : Met l y_S_memberAt w_S_memberAt ({ frames := 2, cells := 0, slots := 0, locals := 42 }) (va_Pc [Value.long x, Value.int (nI k)] NW) (vp_Si (fun r : Int32 => r = oI (nthB (tb x) k 64))) 0 0 (fun _ => False) := by
  refine Met.ofW (cc := b_S_memberAt) (maxL := 6) (ret := (some .int)) (by decide) rfl ?_
  intro p e s m args below meth c s₁ B hml hv
  obtain ⟨rfl, hN⟩ := hv
  have hx := B.exec
  have hb := B.bytes
  have hr := B.returns
  have hts := atoms_spec (ws := w_S_memberAt) B.pre
  have hown : s.vm.findClass "SeatProofs" = some m.cls := findClass_of_methodNamed B.named
  have hlocks := B.notSynchronized
  have hl := lv_entry ([Value.long x, Value.int (nI k)]) (n := 6) (Nat.le_of_ble_eq_true rfl)
  rw [lg_entry_eq]
  generalize (lg_sl ([Value.long x, Value.int (nI k)]) ++ List.replicate (6 - (lg_sl ([Value.long x, Value.int (nI k)])).length) Slot.unset).toArray = ls at hl ⊢
  have hl : lv_has ls 6 [(0, .long x), (2, .int (nI k))] := hl
  refine lv_iload_n hx hb d_S_memberAt_0 rfl (lv_at hl 1 rfl) ?_
  refine lv_if_lt (tgt := 12) hx hb d_S_memberAt_1 (by decide) (fun c_1 => ?_) (fun c_1 => ?_)
  · exact absurd c_1 (nI_pos hk)
  · refine lv_iload_n hx hb d_S_memberAt_4 rfl (lv_at hl 1 rfl) ?_
    refine lv_lload_n hx hb d_S_memberAt_5 rfl (lv_at hl 0 rfl) ?_
    refine vp_callSi (va_Run.run (va_runS (As := [.long x]) (rest := [.int (nI k)]) ⟨hx, hb, hml, hown, hts⟩ (c_Lg_bitCount l x) (va_cwS 1 hts (good_up (good_S iw_238 iw_239 iw_6 gg_Lg_bitCount)) rfl rfl rfl (by decide +kernel) ⟨Nat.le_of_ble_eq_true rfl, Nat.le_of_ble_eq_true rfl⟩) (ps_0 [.long x] hN) rfl rfl hl.1 rfl (lv_room (Nat.le_of_ble_eq_true rfl)) d_S_memberAt_6 ⟨Nat.le_of_ble_eq_true rfl, Nat.le_of_ble_eq_true rfl⟩)) (fun r_2 hr_2 => ?_)
    subst hr_2
    refine nv_lt (tgt := 14) hx hb d_S_memberAt_9 (by decide) (by omega) (by have := pcn_le (tb x) 64; omega) (fun c_3 => ?_) (fun c_3 => ?_)
    · refine lv_lload_n hx hb d_S_memberAt_14 rfl (lv_at hl 0 rfl) ?_
      refine lv_lstore_n (lv' := [(3, .long x), (0, .long x), (2, .int (nI k))]) hx hb d_S_memberAt_15 rfl hl (by decide) rfl (fun ls hl => ?_)
      refine lv_iconst (v := nI 0) hx hb d_S_memberAt_16 (by decide) ?_
      refine lv_istore (lv' := [(5, .int (nI 0)), (3, .long x), (0, .long x), (2, .int (nI k))]) hx hb d_S_memberAt_17 hl (by decide) rfl (fun ls hl => ?_)
      have L19 : ∀ (n19 : Nat) (n5 : Nat) (y : Int64), (n5 ≤ k) → (∀ i, tb y i = (tb x i && decide (n5 ≤ pcn (tb x) i))) → k - n5 < n19 → ∀ (ls : Array Slot), lv_has ls 6 [(2, .int (nI k)), (3, .long y), (5, .int (nI n5))] → W p l e (headSpec w_S_memberAt ({ frames := 2, cells := 0, slots := 0, locals := 42 })).room s m [Value.long x, Value.int (nI k)].toArray below meth c s.heap [] 0 0 (MQ below (vp_Si (fun r : Int32 => r = oI (nthB (tb x) k 64))) [Value.long x, Value.int (nI k)].toArray s 0 0 (fun _ => False)) (F0 m 19 ls []) := by
        intro n19
        induction n19 with
        | zero => intro n5 y hn19 hl19 hm; exact absurd hm (Nat.not_lt_zero _)
        | succ n19 ih19 =>
          intro n5 y hn19 hl19 hm19 ls hl
          refine lv_iload hx hb d_S_memberAt_19 (lv_at hl 2 rfl) ?_
          refine lv_iload_n hx hb d_S_memberAt_21 rfl (lv_at hl 0 rfl) ?_
          refine nv_ge (tgt := 37) hx hb d_S_memberAt_22 (by decide) (by omega) (by omega) (fun c_4 => ?_) (fun c_4 => ?_)
          · refine lv_lload_n hx hb d_S_memberAt_37 rfl (lv_at hl 1 rfl) ?_
            refine vp_callSi (va_Run.run (va_runS (As := [.long y]) (rest := []) ⟨hx, hb, hml, hown, hts⟩ (c_S_lowest l y) (va_cwS 1 hts (good_up (good_S iw_250 iw_236 iw_1 gg_S_lowest)) rfl rfl rfl (by decide +kernel) ⟨Nat.le_of_ble_eq_true rfl, Nat.le_of_ble_eq_true rfl⟩) (ps_0 [.long y] hN) rfl rfl hl.1 rfl (lv_room (Nat.le_of_ble_eq_true rfl)) d_S_memberAt_38 ⟨Nat.le_of_ble_eq_true rfl, Nat.le_of_ble_eq_true rfl⟩)) (fun r_5 hr_5 => ?_)
            subst hr_5
            exact W.iret hx hb hr (fun t9 ht9 _ => ⟨_, rfl, (by obtain ⟨q1, q2, q3, q4, -⟩ := MA_low hl19 (show n5 < pcn (tb x) 64 by omega); rw [nthB_is q2 (q3.trans (show n5 = k from by omega)) q4]; rfl), ht9⟩) (fun _ h => by cases h) d_S_memberAt_41
          · refine lv_lload_n hx hb d_S_memberAt_25 rfl (lv_at hl 1 rfl) ?_
            refine lv_lload_n hx hb d_S_memberAt_26 rfl (lv_at hl 1 rfl) ?_
            refine lv_lconst (v := 1) hx hb d_S_memberAt_27 (by decide) ?_
            refine lv_lsub hx hb d_S_memberAt_28 ?_
            refine lv_land hx hb d_S_memberAt_29 ?_
            refine lv_lstore_n (lv' := [(3, .long (y &&& (y - 1))), (2, .int (nI k)), (5, .int (nI n5))]) hx hb d_S_memberAt_30 rfl hl (by decide) rfl (fun ls hl => ?_)
            refine lv_iinc (v := nI (n5 + 1)) (lv' := [(5, .int (nI (n5 + 1))), (3, .long (y &&& (y - 1))), (2, .int (nI k))]) hx hb d_S_memberAt_31 hl (k := 2) rfl (nI_1 _) (by decide) rfl (fun ls hl => ?_)
            refine lv_goto (tgt := 19) hx hb d_S_memberAt_34 (by decide) ?_
            exact ih19 (n5 + 1) (y &&& (y - 1)) (by omega) ((MA_low hl19 (by omega)).2.2.2.2) (by omega) ls (lv_sub hl [2, 1, 0] rfl)
      exact L19 _ 0 x (Nat.zero_le _) MA_0 (Nat.lt_succ_self _) ls (lv_sub hl [3, 1, 0] rfl)
    · refine lv_iconst (v := (-1)) hx hb d_S_memberAt_12 (by decide) ?_
      exact W.iret hx hb hr (fun t9 ht9 _ => ⟨_, rfl, (by rw [nthB_no c_3]; rfl), ht9⟩) (fun _ h => by cases h) d_S_memberAt_13
set_option maxHeartbeats 4000000 in
set_option maxRecDepth 100000 in
theorem c_F_layWay (l : Launch) (dC : Nat → ClassId) (dI : Nat → Nat → Nat) (q : CA) (u : CSt) (sz : Nat) (x a b : Nat) (hx9 : x < 64) (ha : a < 64) : Met l y_F_layWay w_F_layWay ({ frames := 2, cells := 0, slots := 0, locals := 42 }) (qPc (dC, dI) vwCl (tC q) (wC q u) sz [Value.ref (ca_f q), Value.int (nI x), Value.int (nI a), Value.int (nI b)]) (va_Qv (fun z : CSt => z = k_s_ways u (lw u (k_ways u) x a b)) (qB (dC, dI) vwCl (tC q) (wC q u) sz (wC q)) (va_A (wC q u) sz)) 0 0 (va_A (wC q u) sz) := by
  refine Met.ofW (cc := b_F_layWay) (maxL := 4) (ret := none) (by decide) rfl ?_
  intro p e s m args below meth c s₁ B hml hv
  obtain ⟨rfl, hsz, hP, hK, hD0, hN⟩ := hv
  have hx := B.exec
  have hb := B.bytes
  have hr := B.returns
  have hts := atoms_spec (ws := w_F_layWay) B.pre
  have hown : s.vm.findClass "SeatProofs$Flow" = some m.cls := findClass_of_methodNamed B.named
  have hlocks := B.notSynchronized
  subst hsz
  have hD := hD0.self (sz := s.heap.size)
  have hA : ∀ z : Nat, s.heap.size ≤ z → va_A (wC q u) s.heap.size z := fun z h => Or.inr h
  have hS : va_S (va_A (wC q u) s.heap.size) s.heap s.heap [] := va_S.rf
  have hl := lv_entry ([Value.ref (ca_f q), Value.int (nI x), Value.int (nI a), Value.int (nI b)]) (n := 4) (Nat.le_of_ble_eq_true rfl)
  rw [lg_entry_eq]
  generalize (lg_sl ([Value.ref (ca_f q), Value.int (nI x), Value.int (nI a), Value.int (nI b)]) ++ List.replicate (4 - (lg_sl ([Value.ref (ca_f q), Value.int (nI x), Value.int (nI a), Value.int (nI b)])).length) Slot.unset).toArray = ls at hl ⊢
  have hl : lv_has ls 4 [(0, .ref (ca_f q)), (1, .int (nI x)), (2, .int (nI a)), (3, .int (nI b))] := hl
  refine lv_aload_n hx hb d_F_layWay_0 rfl (lv_at hl 0 rfl) ?_
  refine va_get (D := (dC, dI)) (ci := 1) (v := .ref (ca_p q)) (C := "SeatProofs$Flow") (T := F_F) (N := 4) hx hb hts (iu_F _) hown hK hP 2 rfl rfl 0 (by decide) (hts _ (List.mem_cons_of_mem _ iw_83)) (fun _ h9 => h9) rfl d_F_layWay_1 ?_
  refine va_getN (D := (dC, dI)) (ci := 0) (v := .ref (ca_fal q)) (C := "SeatProofs$Plant") (T := F_P) (N := 12) hx hb hts (iu_P _) hown hK hP 1 rfl rfl 11 (by decide) (NW.use hN in_49) (fun _ h9 => h9) rfl d_F_layWay_4 ?_
  refine lv_iload_n hx hb d_F_layWay_7 rfl (lv_at hl 2 rfl) ?_
  refine ld_l hx hb hK hP 10 1 rfl rfl (k_fal u a) (by omega) (by decide) rfl d_F_layWay_8 ?_
  refine lv_iload_n hx hb d_F_layWay_9 rfl (lv_at hl 1 rfl) ?_
  refine vp_callSi (va_Run.run (va_runSN (As := [.long (k_fal u a), .int (nI x)]) (rest := []) ⟨hx, hb, hml, hown, hts⟩ (c_S_has l (k_fal u a) x hx9) ⟨va_cnB 2 hts (good_up gg_S_has) rfl rfl rfl (hN _ in_221) (hts _ (List.mem_cons_of_mem _ iw_1)) (by decide +kernel) ⟨Nat.le_of_ble_eq_true rfl, Nat.le_of_ble_eq_true rfl⟩, hts _ (List.mem_cons_of_mem _ iw_191), trivial⟩ (ps_0 [.long (k_fal u a), .int (nI x)] hN) rfl rfl hl.1 rfl (lv_room (Nat.le_of_ble_eq_true rfl)) d_F_layWay_10 ⟨Nat.le_of_ble_eq_true rfl, Nat.le_of_ble_eq_true rfl⟩)) (fun r_1 hr_1 => ?_)
  subst hr_1
  refine b0_eq (tgt := 29) hx hb d_F_layWay_13 (by decide) (fun c_2 => ?_) (fun c_2 => ?_)
  · exact W.vret hx hb hr (fun t9 ht9 hW9 => ⟨⟨u, rfl, (by rw [lw, if_neg (fun h => absurd (h.symm.trans c_2) (by decide))]), by rw [ht9]; exact hP, va_K.moved hW9.alike hK, hD⟩, hS.F ht9⟩) hS.2.2 d_F_layWay_29
  · refine lv_aload_n hx hb d_F_layWay_16 rfl (lv_at hl 0 rfl) ?_
    refine va_get (D := (dC, dI)) (ci := 1) (v := .ref (ca_ways q)) (C := "SeatProofs$Flow") (T := F_F) (N := 4) hx hb hts (iu_F _) hown hK hP 2 rfl rfl 2 (by decide) (hts _ (List.mem_cons_of_mem _ iw_85)) (fun _ h9 => h9) rfl d_F_layWay_17 ?_
    refine lv_iload_n hx hb d_F_layWay_20 rfl (lv_at hl 2 rfl) ?_
    refine lv_dup2_11 hx hb d_F_layWay_21 rfl rfl ?_
    refine ld_l hx hb hK hP 11 1 rfl rfl (k_ways u a) (by omega) (by decide) rfl d_F_layWay_22 ?_
    refine lv_iload_n hx hb d_F_layWay_23 rfl (lv_at hl 3 rfl) ?_
    refine vp_callSl (va_Run.run (va_runSN (As := [.int (nI b)]) (rest := [.long (k_ways u a), .int (nI a), .ref (ca_ways q)]) ⟨hx, hb, hml, hown, hts⟩ (c_S_only l b) ⟨va_cnB 1 hts (good_up gg_S_only) rfl rfl rfl (hN _ in_226) (hts _ (List.mem_cons_of_mem _ iw_1)) (by decide +kernel) ⟨Nat.le_of_ble_eq_true rfl, Nat.le_of_ble_eq_true rfl⟩, hts _ (List.mem_cons_of_mem _ iw_156), trivial⟩ (ps_0 [.int (nI b)] hN) rfl rfl hl.1 rfl (lv_room (Nat.le_of_ble_eq_true rfl)) d_F_layWay_24 ⟨Nat.le_of_ble_eq_true rfl, Nat.le_of_ble_eq_true rfl⟩)) (fun r_3 hr_3 => ?_)
    subst hr_3
    refine lv_lor hx hb d_F_layWay_27 ?_
    refine st_l hx hb hK hP hD hS 11 1 rfl rfl (va_up (k_ways u) a ((k_ways u a) ||| (bt b))) (by omega) (by decide) (updL_up _ _ _) d_F_layWay_28 (fun H locs hP hD hS => ?_)
    have hP : va_P (dC, dI) vwCl (wCx q (k_fu u) (k_re u) (k_nS u) (k_nV u) (k_opn u) (k_uns u) (k_dbl u) (k_lett u) (k_cnt u) (k_lev u) (k_src u) (k_fr u) (k_e1 u) (k_e2 u) (k_ends u) (k_fal u) (va_up (k_ways u) a ((k_ways u a) ||| (bt b))) (k_fls u) (k_fnd u) (k_pf u) (k_pl u) (k_pw u) (k_pc u)) H := hP
    have hD : va_D (va_A (wC q u) s.heap.size) (wCx q (k_fu u) (k_re u) (k_nS u) (k_nV u) (k_opn u) (k_uns u) (k_dbl u) (k_lett u) (k_cnt u) (k_lev u) (k_src u) (k_fr u) (k_e1 u) (k_e2 u) (k_ends u) (k_fal u) (va_up (k_ways u) a ((k_ways u a) ||| (bt b))) (k_fls u) (k_fnd u) (k_pf u) (k_pl u) (k_pw u) (k_pc u)) := hD
    exact W.vret hx hb hr (fun t9 ht9 hW9 => ⟨⟨(k_mk (k_fu u) (k_re u) (k_nS u) (k_nV u) (k_opn u) (k_uns u) (k_dbl u) (k_lett u) (k_cnt u) (k_lev u) (k_src u) (k_fr u) (k_e1 u) (k_e2 u) (k_ends u) (k_fal u) (va_up (k_ways u) a ((k_ways u a) ||| (bt b))) (k_fls u) (k_fnd u) (k_pf u) (k_pl u) (k_pw u) (k_pc u)), rfl, (by rw [lw, if_pos c_2]), by rw [ht9]; exact hP, va_K.moved hW9.alike hK, hD⟩, hS.F ht9⟩) hS.2.2 d_F_layWay_29
