set_option maxHeartbeats 4000000 in
set_option maxRecDepth 100000 in
theorem c_Q_remove (l : Launch) (dC : Nat → ClassId) (dI : Nat → Nat → Nat) (q : CA) (u : CSt) (sz : Nat) (k : Nat) (hk : k < k_cnt u) (h1 : k_cnt u ≤ 975) : Met l y_Q_remove w_Q_remove ({ frames := 1, cells := 0, slots := 0, locals := 60 }) (qPc (dC, dI) vwCl (tC q) (wC q u) sz [Value.ref (ca_q q), Value.int (nI k)]) (va_Qv (fun z : CSt => z = k_remR u k) (qB (dC, dI) vwCl (tC q) (wC q u) sz (wC q)) (va_A (wC q u) sz)) 0 0 (va_A (wC q u) sz) := by
  refine Met.ofW (cc := b_Q_remove) (maxL := 3) (ret := none) (by decide) rfl ?_
  intro p e s m args below meth c s₁ B hml hv
  obtain ⟨rfl, hsz, hP, hK, hD0, hN⟩ := hv
  have hx := B.exec
  have hb := B.bytes
  have hr := B.returns
  have hts := atoms_spec (ws := w_Q_remove) B.pre
  have hown : s.vm.findClass "SeatProofs$Proof" = some m.cls := findClass_of_methodNamed B.named
  have hlocks := B.notSynchronized
  subst hsz
  have hD := hD0.self (sz := s.heap.size)
  have hA : ∀ z : Nat, s.heap.size ≤ z → va_A (wC q u) s.heap.size z := fun z h => Or.inr h
  have hS : va_S (va_A (wC q u) s.heap.size) s.heap s.heap [] := va_S.rf
  have hl := lv_entry ([Value.ref (ca_q q), Value.int (nI k)]) (n := 3) (Nat.le_of_ble_eq_true rfl)
  rw [lg_entry_eq]
  generalize (lg_sl ([Value.ref (ca_q q), Value.int (nI k)]) ++ List.replicate (3 - (lg_sl ([Value.ref (ca_q q), Value.int (nI k)])).length) Slot.unset).toArray = ls at hl ⊢
  have hl : lv_has ls 3 [(0, .ref (ca_q q)), (1, .int (nI k))] := hl
  refine lv_aload_n hx hb d_Q_remove_0 rfl (lv_at hl 0 rfl) ?_
  refine va_get (D := (dC, dI)) (ci := 2) (v := .int (nI (k_cnt u))) (C := "SeatProofs$Proof") (T := F_Q) (N := 5) hx hb hts (iu_Q _) hown hK hP 3 rfl rfl 0 (by decide) (hts _ (List.mem_cons_of_mem _ iw_103)) (fun _ h9 => h9) rfl d_Q_remove_1 ?_
  refine lv_iload_n hx hb d_Q_remove_4 rfl (lv_at hl 1 rfl) ?_
  refine lv_isub hx hb d_Q_remove_5 ?_
  refine tp_i (nI (k_cnt u - k)) (pk_sub (by omega)) ?_
  refine lv_iconst (v := nI 1) hx hb d_Q_remove_6 (by decide) ?_
  refine lv_isub hx hb d_Q_remove_7 ?_
  refine tp_i (nI ((k_cnt u - k) - 1)) (pk_sub (by omega)) ?_
  refine lv_istore_n (lv' := [(2, .int (nI ((k_cnt u - k) - 1))), (0, .ref (ca_q q)), (1, .int (nI k))]) hx hb d_Q_remove_8 rfl hl (by decide) rfl (fun ls hl => ?_)
  refine lv_aload_n hx hb d_Q_remove_9 rfl (lv_at hl 1 rfl) ?_
  refine va_get (D := (dC, dI)) (ci := 2) (v := .ref (ca_pf q)) (C := "SeatProofs$Proof") (T := F_Q) (N := 5) hx hb hts (iu_Q _) hown hK hP 3 rfl rfl 1 (by decide) (hts _ (List.mem_cons_of_mem _ iw_105)) (fun _ h9 => h9) rfl d_Q_remove_10 ?_
  refine lv_iload_n hx hb d_Q_remove_13 rfl (lv_at hl 2 rfl) ?_
  refine lv_iconst (v := nI 1) hx hb d_Q_remove_14 (by decide) ?_
  refine lv_iadd hx hb d_Q_remove_15 ?_
  refine tp_i (nI (k + 1)) (nI_add _ _) ?_
  refine lv_aload_n hx hb d_Q_remove_16 rfl (lv_at hl 1 rfl) ?_
  refine va_get (D := (dC, dI)) (ci := 2) (v := .ref (ca_pf q)) (C := "SeatProofs$Proof") (T := F_Q) (N := 5) hx hb hts (iu_Q _) hown hK hP 3 rfl rfl 1 (by decide) (hts _ (List.mem_cons_of_mem _ iw_105)) (fun _ h9 => h9) rfl d_Q_remove_17 ?_
  refine lv_iload_n hx hb d_Q_remove_20 rfl (lv_at hl 2 rfl) ?_
  refine lv_iload_n hx hb d_Q_remove_21 rfl (lv_at hl 0 rfl) ?_
  refine cp_i hx hb (hml.trans hl.1.symm) hown (hts _ (List.mem_cons_of_mem _ iw_319)) (hts _ (List.mem_cons_of_mem _ iw_321)) (hts _ (List.mem_cons_of_mem _ iw_320)) (hts _ (List.mem_cons_of_mem _ iw_11)) hK hP hD hS 14 0 rfl rfl (fun j9 => nI (sh (k_pf u) k (k_cnt u - 1) j9)) (by decide) (by omega) ((cpy_nI _ _ _).trans (by rw [show k + ((k_cnt u - k) - 1) = k_cnt u - 1 from by omega])) (Nat.le_of_ble_eq_true rfl) (Nat.le_of_ble_eq_true rfl) d_Q_remove_22 (fun H locs hP hD hS => ?_)
  have hP : va_P (dC, dI) vwCl (wCx q (k_fu u) (k_re u) (k_nS u) (k_nV u) (k_opn u) (k_uns u) (k_dbl u) (k_lett u) (k_cnt u) (k_lev u) (k_src u) (k_fr u) (k_e1 u) (k_e2 u) (k_ends u) (k_fal u) (k_ways u) (k_fls u) (k_fnd u) (sh (k_pf u) k (k_cnt u - 1)) (k_pl u) (k_pw u) (k_pc u)) H := hP
  have hD : va_D (va_A (wC q u) s.heap.size) (wCx q (k_fu u) (k_re u) (k_nS u) (k_nV u) (k_opn u) (k_uns u) (k_dbl u) (k_lett u) (k_cnt u) (k_lev u) (k_src u) (k_fr u) (k_e1 u) (k_e2 u) (k_ends u) (k_fal u) (k_ways u) (k_fls u) (k_fnd u) (sh (k_pf u) k (k_cnt u - 1)) (k_pl u) (k_pw u) (k_pc u)) := hD
  refine lv_aload_n hx hb d_Q_remove_25 rfl (lv_at hl 1 rfl) ?_
  refine va_get (D := (dC, dI)) (ci := 2) (v := .ref (ca_pl q)) (C := "SeatProofs$Proof") (T := F_Q) (N := 5) hx hb hts (iu_Q _) hown hK hP 3 rfl rfl 2 (by decide) (hts _ (List.mem_cons_of_mem _ iw_107)) (fun _ h9 => h9) rfl d_Q_remove_26 ?_
  refine lv_iload_n hx hb d_Q_remove_29 rfl (lv_at hl 2 rfl) ?_
  refine lv_iconst (v := nI 1) hx hb d_Q_remove_30 (by decide) ?_
  refine lv_iadd hx hb d_Q_remove_31 ?_
  refine tp_i (nI (k + 1)) (nI_add _ _) ?_
  refine lv_aload_n hx hb d_Q_remove_32 rfl (lv_at hl 1 rfl) ?_
  refine va_get (D := (dC, dI)) (ci := 2) (v := .ref (ca_pl q)) (C := "SeatProofs$Proof") (T := F_Q) (N := 5) hx hb hts (iu_Q _) hown hK hP 3 rfl rfl 2 (by decide) (hts _ (List.mem_cons_of_mem _ iw_107)) (fun _ h9 => h9) rfl d_Q_remove_33 ?_
  refine lv_iload_n hx hb d_Q_remove_36 rfl (lv_at hl 2 rfl) ?_
  refine lv_iload_n hx hb d_Q_remove_37 rfl (lv_at hl 0 rfl) ?_
  refine cp_i hx hb (hml.trans hl.1.symm) hown (hts _ (List.mem_cons_of_mem _ iw_319)) (hts _ (List.mem_cons_of_mem _ iw_321)) (hts _ (List.mem_cons_of_mem _ iw_320)) (hts _ (List.mem_cons_of_mem _ iw_11)) hK hP hD hS 15 0 rfl rfl (fun j9 => nI (sh (k_pl u) k (k_cnt u - 1) j9)) (by decide) (by omega) ((cpy_nI _ _ _).trans (by rw [show k + ((k_cnt u - k) - 1) = k_cnt u - 1 from by omega])) (Nat.le_of_ble_eq_true rfl) (Nat.le_of_ble_eq_true rfl) d_Q_remove_38 (fun H locs hP hD hS => ?_)
  have hP : va_P (dC, dI) vwCl (wCx q (k_fu u) (k_re u) (k_nS u) (k_nV u) (k_opn u) (k_uns u) (k_dbl u) (k_lett u) (k_cnt u) (k_lev u) (k_src u) (k_fr u) (k_e1 u) (k_e2 u) (k_ends u) (k_fal u) (k_ways u) (k_fls u) (k_fnd u) (sh (k_pf u) k (k_cnt u - 1)) (sh (k_pl u) k (k_cnt u - 1)) (k_pw u) (k_pc u)) H := hP
  have hD : va_D (va_A (wC q u) s.heap.size) (wCx q (k_fu u) (k_re u) (k_nS u) (k_nV u) (k_opn u) (k_uns u) (k_dbl u) (k_lett u) (k_cnt u) (k_lev u) (k_src u) (k_fr u) (k_e1 u) (k_e2 u) (k_ends u) (k_fal u) (k_ways u) (k_fls u) (k_fnd u) (sh (k_pf u) k (k_cnt u - 1)) (sh (k_pl u) k (k_cnt u - 1)) (k_pw u) (k_pc u)) := hD
  refine lv_aload_n hx hb d_Q_remove_41 rfl (lv_at hl 1 rfl) ?_
  refine va_get (D := (dC, dI)) (ci := 2) (v := .ref (ca_pw q)) (C := "SeatProofs$Proof") (T := F_Q) (N := 5) hx hb hts (iu_Q _) hown hK hP 3 rfl rfl 3 (by decide) (hts _ (List.mem_cons_of_mem _ iw_109)) (fun _ h9 => h9) rfl d_Q_remove_42 ?_
  refine lv_iload_n hx hb d_Q_remove_45 rfl (lv_at hl 2 rfl) ?_
  refine lv_iconst (v := nI 1) hx hb d_Q_remove_46 (by decide) ?_
  refine lv_iadd hx hb d_Q_remove_47 ?_
  refine tp_i (nI (k + 1)) (nI_add _ _) ?_
  refine lv_aload_n hx hb d_Q_remove_48 rfl (lv_at hl 1 rfl) ?_
  refine va_get (D := (dC, dI)) (ci := 2) (v := .ref (ca_pw q)) (C := "SeatProofs$Proof") (T := F_Q) (N := 5) hx hb hts (iu_Q _) hown hK hP 3 rfl rfl 3 (by decide) (hts _ (List.mem_cons_of_mem _ iw_109)) (fun _ h9 => h9) rfl d_Q_remove_49 ?_
  refine lv_iload_n hx hb d_Q_remove_52 rfl (lv_at hl 2 rfl) ?_
  refine lv_iload_n hx hb d_Q_remove_53 rfl (lv_at hl 0 rfl) ?_
  refine cp_l hx hb (hml.trans hl.1.symm) hown (hts _ (List.mem_cons_of_mem _ iw_319)) (hts _ (List.mem_cons_of_mem _ iw_321)) (hts _ (List.mem_cons_of_mem _ iw_320)) (hts _ (List.mem_cons_of_mem _ iw_11)) hK hP hD hS 16 1 rfl rfl (sh (k_pw u) k (k_cnt u - 1)) (by decide) (by omega) ((cpy_L _ _ _).trans (by rw [show k + ((k_cnt u - k) - 1) = k_cnt u - 1 from by omega])) (Nat.le_of_ble_eq_true rfl) (Nat.le_of_ble_eq_true rfl) d_Q_remove_54 (fun H locs hP hD hS => ?_)
  have hP : va_P (dC, dI) vwCl (wCx q (k_fu u) (k_re u) (k_nS u) (k_nV u) (k_opn u) (k_uns u) (k_dbl u) (k_lett u) (k_cnt u) (k_lev u) (k_src u) (k_fr u) (k_e1 u) (k_e2 u) (k_ends u) (k_fal u) (k_ways u) (k_fls u) (k_fnd u) (sh (k_pf u) k (k_cnt u - 1)) (sh (k_pl u) k (k_cnt u - 1)) (sh (k_pw u) k (k_cnt u - 1)) (k_pc u)) H := hP
  have hD : va_D (va_A (wC q u) s.heap.size) (wCx q (k_fu u) (k_re u) (k_nS u) (k_nV u) (k_opn u) (k_uns u) (k_dbl u) (k_lett u) (k_cnt u) (k_lev u) (k_src u) (k_fr u) (k_e1 u) (k_e2 u) (k_ends u) (k_fal u) (k_ways u) (k_fls u) (k_fnd u) (sh (k_pf u) k (k_cnt u - 1)) (sh (k_pl u) k (k_cnt u - 1)) (sh (k_pw u) k (k_cnt u - 1)) (k_pc u)) := hD
  refine lv_aload_n hx hb d_Q_remove_57 rfl (lv_at hl 1 rfl) ?_
  refine va_get (D := (dC, dI)) (ci := 2) (v := .ref (ca_pc q)) (C := "SeatProofs$Proof") (T := F_Q) (N := 5) hx hb hts (iu_Q _) hown hK hP 3 rfl rfl 4 (by decide) (hts _ (List.mem_cons_of_mem _ iw_111)) (fun _ h9 => h9) rfl d_Q_remove_58 ?_
  refine lv_iload_n hx hb d_Q_remove_61 rfl (lv_at hl 2 rfl) ?_
  refine lv_iconst (v := nI 1) hx hb d_Q_remove_62 (by decide) ?_
  refine lv_iadd hx hb d_Q_remove_63 ?_
  refine tp_i (nI (k + 1)) (nI_add _ _) ?_
  refine lv_aload_n hx hb d_Q_remove_64 rfl (lv_at hl 1 rfl) ?_
  refine va_get (D := (dC, dI)) (ci := 2) (v := .ref (ca_pc q)) (C := "SeatProofs$Proof") (T := F_Q) (N := 5) hx hb hts (iu_Q _) hown hK hP 3 rfl rfl 4 (by decide) (hts _ (List.mem_cons_of_mem _ iw_111)) (fun _ h9 => h9) rfl d_Q_remove_65 ?_
  refine lv_iload_n hx hb d_Q_remove_68 rfl (lv_at hl 2 rfl) ?_
  refine lv_iload_n hx hb d_Q_remove_69 rfl (lv_at hl 0 rfl) ?_
  refine cp_l hx hb (hml.trans hl.1.symm) hown (hts _ (List.mem_cons_of_mem _ iw_319)) (hts _ (List.mem_cons_of_mem _ iw_321)) (hts _ (List.mem_cons_of_mem _ iw_320)) (hts _ (List.mem_cons_of_mem _ iw_11)) hK hP hD hS 17 1 rfl rfl (sh (k_pc u) k (k_cnt u - 1)) (by decide) (by omega) ((cpy_L _ _ _).trans (by rw [show k + ((k_cnt u - k) - 1) = k_cnt u - 1 from by omega])) (Nat.le_of_ble_eq_true rfl) (Nat.le_of_ble_eq_true rfl) d_Q_remove_70 (fun H locs hP hD hS => ?_)
  have hP : va_P (dC, dI) vwCl (wCx q (k_fu u) (k_re u) (k_nS u) (k_nV u) (k_opn u) (k_uns u) (k_dbl u) (k_lett u) (k_cnt u) (k_lev u) (k_src u) (k_fr u) (k_e1 u) (k_e2 u) (k_ends u) (k_fal u) (k_ways u) (k_fls u) (k_fnd u) (sh (k_pf u) k (k_cnt u - 1)) (sh (k_pl u) k (k_cnt u - 1)) (sh (k_pw u) k (k_cnt u - 1)) (sh (k_pc u) k (k_cnt u - 1))) H := hP
  have hD : va_D (va_A (wC q u) s.heap.size) (wCx q (k_fu u) (k_re u) (k_nS u) (k_nV u) (k_opn u) (k_uns u) (k_dbl u) (k_lett u) (k_cnt u) (k_lev u) (k_src u) (k_fr u) (k_e1 u) (k_e2 u) (k_ends u) (k_fal u) (k_ways u) (k_fls u) (k_fnd u) (sh (k_pf u) k (k_cnt u - 1)) (sh (k_pl u) k (k_cnt u - 1)) (sh (k_pw u) k (k_cnt u - 1)) (sh (k_pc u) k (k_cnt u - 1))) := hD
  refine lv_aload_n hx hb d_Q_remove_73 rfl (lv_at hl 1 rfl) ?_
  refine lv_dup hx hb d_Q_remove_74 rfl ?_
  refine va_get (D := (dC, dI)) (ci := 2) (v := .int (nI (k_cnt u))) (C := "SeatProofs$Proof") (T := F_Q) (N := 5) hx hb hts (iu_Q _) hown hK hP 3 rfl rfl 0 (by decide) (hts _ (List.mem_cons_of_mem _ iw_103)) (fun _ h9 => h9) rfl d_Q_remove_75 ?_
  refine lv_iconst (v := nI 1) hx hb d_Q_remove_78 (by decide) ?_
  refine lv_isub hx hb d_Q_remove_79 ?_
  refine tp_i (nI (k_cnt u - 1)) (pk_sub (by omega)) ?_
  refine va_put (D := (dC, dI)) (ci := 2) (v := .int (nI (k_cnt u - 1))) (ty := .int) (C := "SeatProofs$Proof") (T := F_Q) (N := 5) hx hb hts (iu_Q _) t_Q t_Q_ok n_Q hown hK hP hD hS 3 rfl rfl 0 (by decide) (hts _ (List.mem_cons_of_mem _ iw_103)) (fun _ h9 => h9) rfl (by decide +kernel) rfl rfl (Nat.le_of_ble_eq_true rfl) d_Q_remove_80 (fun H locs hP hD hS => ?_)
  have hP : va_P (dC, dI) vwCl (wCx q (k_fu u) (k_re u) (k_nS u) (k_nV u) (k_opn u) (k_uns u) (k_dbl u) (k_lett u) (k_cnt u - 1) (k_lev u) (k_src u) (k_fr u) (k_e1 u) (k_e2 u) (k_ends u) (k_fal u) (k_ways u) (k_fls u) (k_fnd u) (sh (k_pf u) k (k_cnt u - 1)) (sh (k_pl u) k (k_cnt u - 1)) (sh (k_pw u) k (k_cnt u - 1)) (sh (k_pc u) k (k_cnt u - 1))) H := hP
  have hD : va_D (va_A (wC q u) s.heap.size) (wCx q (k_fu u) (k_re u) (k_nS u) (k_nV u) (k_opn u) (k_uns u) (k_dbl u) (k_lett u) (k_cnt u - 1) (k_lev u) (k_src u) (k_fr u) (k_e1 u) (k_e2 u) (k_ends u) (k_fal u) (k_ways u) (k_fls u) (k_fnd u) (sh (k_pf u) k (k_cnt u - 1)) (sh (k_pl u) k (k_cnt u - 1)) (sh (k_pw u) k (k_cnt u - 1)) (sh (k_pc u) k (k_cnt u - 1))) := hD
  exact W.vret hx hb hr (fun t9 ht9 hW9 => ⟨⟨(k_mk (k_fu u) (k_re u) (k_nS u) (k_nV u) (k_opn u) (k_uns u) (k_dbl u) (k_lett u) (k_cnt u - 1) (k_lev u) (k_src u) (k_fr u) (k_e1 u) (k_e2 u) (k_ends u) (k_fal u) (k_ways u) (k_fls u) (k_fnd u) (sh (k_pf u) k (k_cnt u - 1)) (sh (k_pl u) k (k_cnt u - 1)) (sh (k_pw u) k (k_cnt u - 1)) (sh (k_pc u) k (k_cnt u - 1))), rfl, rfl, by rw [ht9]; exact hP, va_K.moved hW9.alike hK, hD⟩, hS.F ht9⟩) hS.2.2 d_Q_remove_83
set_option maxHeartbeats 4000000 in
set_option maxRecDepth 100000 in
theorem c_S_tested (l : Launch) (dC : Nat → ClassId) (dI : Nat → Nat → Nat) (q : CA) (u : CSt)  : Met l y_S_tested w_S_tested ({ frames := 0, cells := 0, slots := 0, locals := 0 }) (sPc (dC, dI) vwCl (tC q) (wC q u) [Value.ref (ca_o q)]) (vp_Si (fun r : Int32 => r = nI (k_re u))) 0 0 (fun _ => False) := by
  refine Met.ofW (cc := b_S_tested) (maxL := 1) (ret := (some .int)) (by decide) rfl ?_
  intro p e s m args below meth c s₁ B hml hv
  obtain ⟨rfl, hP, hK, hN⟩ := hv
  have hx := B.exec
  have hb := B.bytes
  have hr := B.returns
  have hts := atoms_spec (ws := w_S_tested) B.pre
  have hown : s.vm.findClass "SeatProofs" = some m.cls := findClass_of_methodNamed B.named
  have hlocks := B.notSynchronized
  have hl := lv_entry ([Value.ref (ca_o q)]) (n := 1) (Nat.le_of_ble_eq_true rfl)
  rw [lg_entry_eq]
  generalize (lg_sl ([Value.ref (ca_o q)]) ++ List.replicate (1 - (lg_sl ([Value.ref (ca_o q)])).length) Slot.unset).toArray = ls at hl ⊢
  have hl : lv_has ls 1 [(0, .ref (ca_o q))] := hl
  refine lv_aload_n hx hb d_S_tested_0 rfl (lv_at hl 0 rfl) ?_
  refine va_get (D := (dC, dI)) (ci := 3) (v := .int (nI (k_re u))) (C := "SeatProofs") (T := F_S) (N := 6) hx hb hts (iu_S _) hown hK hP 0 rfl rfl 5 (by decide) (hts _ (List.mem_cons_of_mem _ iw_129)) (fun _ h9 => h9) rfl d_S_tested_1 ?_
  exact W.iret hx hb hr (fun t9 ht9 _ => ⟨_, rfl, rfl, ht9⟩) (fun _ h => by cases h) d_S_tested_4
set_option maxHeartbeats 4000000 in
set_option maxRecDepth 100000 in
theorem c_S_rows (l : Launch) (dC : Nat → ClassId) (dI : Nat → Nat → Nat) (q : CA) (u : CSt)  : Met l y_S_rows w_S_rows ({ frames := 0, cells := 0, slots := 0, locals := 0 }) (sPc (dC, dI) vwCl (tC q) (wC q u) [Value.ref (ca_o q)]) (vp_Si (fun r : Int32 => r = nI (k_cnt u))) 0 0 (fun _ => False) := by
  refine Met.ofW (cc := b_S_rows) (maxL := 1) (ret := (some .int)) (by decide) rfl ?_
  intro p e s m args below meth c s₁ B hml hv
  obtain ⟨rfl, hP, hK, hN⟩ := hv
  have hx := B.exec
  have hb := B.bytes
  have hr := B.returns
  have hts := atoms_spec (ws := w_S_rows) B.pre
  have hown : s.vm.findClass "SeatProofs" = some m.cls := findClass_of_methodNamed B.named
  have hlocks := B.notSynchronized
  have hl := lv_entry ([Value.ref (ca_o q)]) (n := 1) (Nat.le_of_ble_eq_true rfl)
  rw [lg_entry_eq]
  generalize (lg_sl ([Value.ref (ca_o q)]) ++ List.replicate (1 - (lg_sl ([Value.ref (ca_o q)])).length) Slot.unset).toArray = ls at hl ⊢
  have hl : lv_has ls 1 [(0, .ref (ca_o q))] := hl
  refine lv_aload_n hx hb d_S_rows_0 rfl (lv_at hl 0 rfl) ?_
  refine va_get (D := (dC, dI)) (ci := 3) (v := .ref (ca_q q)) (C := "SeatProofs") (T := F_S) (N := 6) hx hb hts (iu_S _) hown hK hP 0 rfl rfl 2 (by decide) (hts _ (List.mem_cons_of_mem _ iw_126)) (fun _ h9 => h9) rfl d_S_rows_1 ?_
  refine va_getN (D := (dC, dI)) (ci := 2) (v := .int (nI (k_cnt u))) (C := "SeatProofs$Proof") (T := F_Q) (N := 5) hx hb hts (iu_Q _) hown hK hP 3 rfl rfl 0 (by decide) (NW.use hN in_104) (fun _ h9 => h9) rfl d_S_rows_4 ?_
  exact W.iret hx hb hr (fun t9 ht9 _ => ⟨_, rfl, rfl, ht9⟩) (fun _ h => by cases h) d_S_rows_7
set_option maxHeartbeats 4000000 in
set_option maxRecDepth 100000 in
theorem c_S_culprit (l : Launch) (dC : Nat → ClassId) (dI : Nat → Nat → Nat) (q : CA) (u : CSt) (x : Int32) : Met l y_S_culprit w_S_culprit ({ frames := 0, cells := 0, slots := 0, locals := 0 }) (sPc (dC, dI) vwCl (tC q) (wC q u) [Value.ref (ca_o q), Value.int x]) (vp_Si (fun r : Int32 => r = C_culprit u x)) 0 0 (fun _ => False) := by
  refine Met.ofW (cc := b_S_culprit) (maxL := 2) (ret := (some .int)) (by decide) rfl ?_
  intro p e s m args below meth c s₁ B hml hv
  obtain ⟨rfl, hP, hK, hN⟩ := hv
  have hx := B.exec
  have hb := B.bytes
  have hr := B.returns
  have hts := atoms_spec (ws := w_S_culprit) B.pre
  have hown : s.vm.findClass "SeatProofs" = some m.cls := findClass_of_methodNamed B.named
  have hlocks := B.notSynchronized
  have hl := lv_entry ([Value.ref (ca_o q), Value.int x]) (n := 2) (Nat.le_of_ble_eq_true rfl)
  rw [lg_entry_eq]
  generalize (lg_sl ([Value.ref (ca_o q), Value.int x]) ++ List.replicate (2 - (lg_sl ([Value.ref (ca_o q), Value.int x])).length) Slot.unset).toArray = ls at hl ⊢
  have hl : lv_has ls 2 [(0, .ref (ca_o q)), (1, .int x)] := hl
  refine lv_aload_n hx hb d_S_culprit_0 rfl (lv_at hl 0 rfl) ?_
  refine va_get (D := (dC, dI)) (ci := 3) (v := .int (bI (k_fu u))) (C := "SeatProofs") (T := F_S) (N := 6) hx hb hts (iu_S _) hown hK hP 0 rfl rfl 4 (by decide) (hts _ (List.mem_cons_of_mem _ iw_128)) (fun _ h9 => h9) rfl d_S_culprit_1 ?_
  refine b0_eq (tgt := 16) hx hb d_S_culprit_4 (by decide) (fun c_1 => ?_) (fun c_1 => ?_)
  · refine lv_iconst (v := (-1)) hx hb d_S_culprit_16 (by decide) ?_
    exact W.iret hx hb hr (fun t9 ht9 _ => ⟨_, rfl, (by rw [C_culprit, if_neg (fun h => absurd (h.1.symm.trans c_1) (by decide))]), ht9⟩) (fun _ h => by cases h) d_S_culprit_17
  · refine lv_iload_n hx hb d_S_culprit_7 rfl (lv_at hl 1 rfl) ?_
    refine lv_if_lt (tgt := 16) hx hb d_S_culprit_8 (by decide) (fun c_2 => ?_) (fun c_2 => ?_)
    · refine lv_iconst (v := (-1)) hx hb d_S_culprit_16 (by decide) ?_
      exact W.iret hx hb hr (fun t9 ht9 _ => ⟨_, rfl, (by rw [C_culprit, if_neg (fun h => h.2.1 c_2)]), ht9⟩) (fun _ h => by cases h) d_S_culprit_17
    · refine lv_iload_n hx hb d_S_culprit_11 rfl (lv_at hl 1 rfl) ?_
      refine lv_iconst (v := nI 4) hx hb d_S_culprit_12 (by decide) ?_
      refine lv_icmp_lt (tgt := 18) hx hb d_S_culprit_13 (by decide) (fun c_3 => ?_) (fun c_3 => ?_)
      · obtain ⟨j, hj, rfl⟩ := ixB_of (n := 4) (by decide) (decide_eq_true ⟨c_2, Int32.not_le.mpr c_3⟩)
        refine lv_aload_n hx hb d_S_culprit_18 rfl (lv_at hl 0 rfl) ?_
        refine va_get (D := (dC, dI)) (ci := 3) (v := .ref (ca_fnd q)) (C := "SeatProofs") (T := F_S) (N := 6) hx hb hts (iu_S _) hown hK hP 0 rfl rfl 3 (by decide) (hts _ (List.mem_cons_of_mem _ iw_127)) (fun _ h9 => h9) rfl d_S_culprit_19 ?_
        refine lv_iload_n hx hb d_S_culprit_22 rfl (lv_at hl 1 rfl) ?_
        refine ld_i hx hb hK hP 13 0 rfl rfl (k_fnd u j) (by omega) (by decide) rfl d_S_culprit_23 ?_
        exact W.iret hx hb hr (fun t9 ht9 _ => ⟨_, rfl, (by rw [C_culprit, if_pos ⟨c_1, c_2, Int32.not_le.mpr c_3⟩, nI_clamp (by omega)]), ht9⟩) (fun _ h => by cases h) d_S_culprit_24
      · refine lv_iconst (v := (-1)) hx hb d_S_culprit_16 (by decide) ?_
        exact W.iret hx hb hr (fun t9 ht9 _ => ⟨_, rfl, (by rw [C_culprit, if_neg (fun h => h.2.2 (Int32.not_lt.mp c_3))]), ht9⟩) (fun _ h => by cases h) d_S_culprit_17
set_option maxHeartbeats 4000000 in
set_option maxRecDepth 100000 in
theorem c_S_space (l : Launch) (dC : Nat → ClassId) (dI : Nat → Nat → Nat) (q : CA) (u : CSt) (sz : Nat) (x : Int32) (h0 : k_nS u ≤ 64) : Met l y_S_space w_S_space ({ frames := 2, cells := 0, slots := 0, locals := 42 }) (qPc (dC, dI) vwCl (tC q) (wC q u) sz [Value.ref (ca_o q), Value.int x]) (va_Qi (fun (r : Int32) (z : CSt) => (r, z) = C_space u x) (qB (dC, dI) vwCl (tC q) (wC q u) sz (wC q)) (va_A (wC q u) sz)) 0 0 (va_A (wC q u) sz) := by
  refine Met.ofW (cc := b_S_space) (maxL := 2) (ret := (some .int)) (by decide) rfl ?_
  intro p e s m args below meth c s₁ B hml hv
  obtain ⟨rfl, hsz, hP, hK, hD0, hN⟩ := hv
  have hx := B.exec
  have hb := B.bytes
  have hr := B.returns
  have hts := atoms_spec (ws := w_S_space) B.pre
  have hown : s.vm.findClass "SeatProofs" = some m.cls := findClass_of_methodNamed B.named
  have hlocks := B.notSynchronized
  subst hsz
  have hD := hD0.self (sz := s.heap.size)
  have hA : ∀ z : Nat, s.heap.size ≤ z → va_A (wC q u) s.heap.size z := fun z h => Or.inr h
  have hS : va_S (va_A (wC q u) s.heap.size) s.heap s.heap [] := va_S.rf
  have hl := lv_entry ([Value.ref (ca_o q), Value.int x]) (n := 2) (Nat.le_of_ble_eq_true rfl)
  rw [lg_entry_eq]
  generalize (lg_sl ([Value.ref (ca_o q), Value.int x]) ++ List.replicate (2 - (lg_sl ([Value.ref (ca_o q), Value.int x])).length) Slot.unset).toArray = ls at hl ⊢
  have hl : lv_has ls 2 [(0, .ref (ca_o q)), (1, .int x)] := hl
  refine lv_iload_n hx hb d_S_space_0 rfl (lv_at hl 1 rfl) ?_
  refine lv_if_lt (tgt := 10) hx hb d_S_space_1 (by decide) (fun c_1 => ?_) (fun c_1 => ?_)
  · refine lv_iconst (v := (-1)) hx hb d_S_space_10 (by decide) ?_
    exact W.iret hx hb hr (fun t9 ht9 hW9 => ⟨⟨_, u, rfl, (by rw [C_space, if_pos (Or.inl c_1)]), by rw [ht9]; exact hP, va_K.moved hW9.alike hK, hD⟩, hS.F ht9⟩) hS.2.2 d_S_space_11
  · refine lv_iload_n hx hb d_S_space_4 rfl (lv_at hl 1 rfl) ?_
    refine lv_bipush (v := nI 16) hx hb d_S_space_5 (by decide) ?_
    refine lv_icmp_lt (tgt := 12) hx hb d_S_space_7 (by decide) (fun c_2 => ?_) (fun c_2 => ?_)
    · obtain ⟨j, hj, rfl⟩ := nI_of c_1
      have hj2 : j < 16 := (nI_ltI hj (by decide)).mp c_2
      refine lv_aload_n hx hb d_S_space_12 rfl (lv_at hl 0 rfl) ?_
      refine va_get (D := (dC, dI)) (ci := 3) (v := .ref (ca_p q)) (C := "SeatProofs") (T := F_S) (N := 6) hx hb hts (iu_S _) hown hK hP 0 rfl rfl 0 (by decide) (hts _ (List.mem_cons_of_mem _ iw_124)) (fun _ h9 => h9) rfl d_S_space_13 ?_
      refine va_getN (D := (dC, dI)) (ci := 0) (v := .int (nI (k_nS u))) (C := "SeatProofs$Plant") (T := F_P) (N := 12) hx hb hts (iu_P _) hown hK hP 1 rfl rfl 0 (by decide) (NW.use hN in_27) (fun _ h9 => h9) rfl d_S_space_16 ?_
      refine lv_bipush (v := nI 64) hx hb d_S_space_19 (by decide) ?_
      refine nv_lt (tgt := 27) hx hb d_S_space_21 (by decide) (by omega) (by omega) (fun c_3 => ?_) (fun c_3 => ?_)
      · refine lv_aload_n hx hb d_S_space_27 rfl (lv_at hl 0 rfl) ?_
        refine va_get (D := (dC, dI)) (ci := 3) (v := .ref (ca_q q)) (C := "SeatProofs") (T := F_S) (N := 6) hx hb hts (iu_S _) hown hK hP 0 rfl rfl 2 (by decide) (hts _ (List.mem_cons_of_mem _ iw_126)) (fun _ h9 => h9) rfl d_S_space_28 ?_
        refine cq_v (va_runV (As := []) (rest := []) ⟨hx, hb, hml, hown, hts⟩ (c_Q_empty l dC dI q u _) (cwV 0 hts (good_up (good_V iw_147 iw_148 iw_149 iw_4 gg_Q_empty)) rfl rfl rfl (by decide +kernel) ⟨Nat.le_of_ble_eq_true rfl, Nat.le_of_ble_eq_true rfl⟩) (pv_Q [] hN hK hP hD (ci := 2) (q0 := 3) rfl rfl) rfl rfl hl.1 rfl (lv_room (Nat.le_of_ble_eq_true rfl)) d_S_space_31 ⟨Nat.le_of_ble_eq_true rfl, Nat.le_of_ble_eq_true rfl⟩) hD hS hA (fun z_5 H locs hr_4 hP hD hS => ?_)
        subst hr_4
        have hP : va_P (dC, dI) vwCl (wCx q (k_fu u) (k_re u) (k_nS u) (k_nV u) (k_opn u) (k_uns u) (k_dbl u) (k_lett u) 0 (k_lev u) (k_src u) (k_fr u) (k_e1 u) (k_e2 u) (k_ends u) (k_fal u) (k_ways u) (k_fls u) (k_fnd u) (k_pf u) (k_pl u) (k_pw u) (k_pc u)) H := hP
        have hD : va_D (va_A (wC q u) s.heap.size) (wCx q (k_fu u) (k_re u) (k_nS u) (k_nV u) (k_opn u) (k_uns u) (k_dbl u) (k_lett u) 0 (k_lev u) (k_src u) (k_fr u) (k_e1 u) (k_e2 u) (k_ends u) (k_fal u) (k_ways u) (k_fls u) (k_fnd u) (k_pf u) (k_pl u) (k_pw u) (k_pc u)) := hD
        refine lv_aload_n hx hb d_S_space_34 rfl (lv_at hl 0 rfl) ?_
        refine va_get (D := (dC, dI)) (ci := 3) (v := .ref (ca_p q)) (C := "SeatProofs") (T := F_S) (N := 6) hx hb hts (iu_S _) hown hK hP 0 rfl rfl 0 (by decide) (hts _ (List.mem_cons_of_mem _ iw_124)) (fun _ h9 => h9) rfl d_S_space_35 ?_
        refine lv_iload_n hx hb d_S_space_38 rfl (lv_at hl 1 rfl) ?_
        refine cq_i (va_runV (As := [.int (nI j)]) (rest := []) ⟨hx, hb, hml, hown, hts⟩ (c_P_addSpace l dC dI q (k_mk (k_fu u) (k_re u) (k_nS u) (k_nV u) (k_opn u) (k_uns u) (k_dbl u) (k_lett u) 0 (k_lev u) (k_src u) (k_fr u) (k_e1 u) (k_e2 u) (k_ends u) (k_fal u) (k_ways u) (k_fls u) (k_fnd u) (k_pf u) (k_pl u) (k_pw u) (k_pc u)) _ j hj2 (by show k_nS u < 64; omega)) (cwV 1 hts (good_up (good_V iw_151 iw_152 iw_153 iw_2 gg_P_addSpace)) rfl rfl rfl (by decide +kernel) ⟨Nat.le_of_ble_eq_true rfl, Nat.le_of_ble_eq_true rfl⟩) (pv_Q [.int (nI j)] hN hK hP hD (ci := 0) (q0 := 1) rfl rfl) rfl rfl hl.1 rfl (lv_room (Nat.le_of_ble_eq_true rfl)) d_S_space_39 ⟨Nat.le_of_ble_eq_true rfl, Nat.le_of_ble_eq_true rfl⟩) hD hS hA (fun r_9 z_8 H locs hr_7 hP hD hS => ?_)
        obtain ⟨rfl, hz_10⟩ := hr_7
        have hP : va_P (dC, dI) vwCl (wC q z_8) H := hP
        have hD : va_D (va_A (wC q u) s.heap.size) (wC q z_8) := hD
        exact W.iret hx hb hr (fun t9 ht9 hW9 => ⟨⟨_, z_8, rfl, (by rw [C_space, if_neg (fun h => h.elim c_1 (fun h => h c_2)), if_neg (by omega), nI_clamp hj, hz_10]; first | done | rfl), by rw [ht9]; exact hP, va_K.moved hW9.alike hK, hD⟩, hS.F ht9⟩) hS.2.2 d_S_space_42
      · refine lv_bipush (v := (-2)) hx hb d_S_space_24 (by decide) ?_
        exact W.iret hx hb hr (fun t9 ht9 hW9 => ⟨⟨_, u, rfl, (by rw [C_space, if_neg (fun h => h.elim c_1 (fun h => h c_2)), if_pos c_3]), by rw [ht9]; exact hP, va_K.moved hW9.alike hK, hD⟩, hS.F ht9⟩) hS.2.2 d_S_space_26
    · refine lv_iconst (v := (-1)) hx hb d_S_space_10 (by decide) ?_
      exact W.iret hx hb hr (fun t9 ht9 hW9 => ⟨⟨_, u, rfl, (by rw [C_space, if_pos (Or.inr c_2)]), by rw [ht9]; exact hP, va_K.moved hW9.alike hK, hD⟩, hS.F ht9⟩) hS.2.2 d_S_space_11
set_option maxHeartbeats 4000000 in
set_option maxRecDepth 100000 in
theorem c_S_valve (l : Launch) (dC : Nat → ClassId) (dI : Nat → Nat → Nat) (q : CA) (u : CSt) (sz : Nat) (x y k : Int32) (o : Bool) (h0 : k_nS u ≤ 64) (h9 : k_nV u ≤ 64) : Met l y_S_valve w_S_valve ({ frames := 4, cells := 0, slots := 0, locals := 91 }) (qPc (dC, dI) vwCl (tC q) (wC q u) sz [Value.ref (ca_o q), Value.int x, Value.int y, Value.int k, Value.int (bI o)]) (va_Qi (fun (r : Int32) (z : CSt) => (r, z) = C_valve u x y k o) (qB (dC, dI) vwCl (tC q) (wC q u) sz (wC q)) (va_A (wC q u) sz)) 0 0 (va_A (wC q u) sz) := by
  refine Met.ofW (cc := b_S_valve) (maxL := 5) (ret := (some .int)) (by decide) rfl ?_
  intro p e s m args below meth c s₁ B hml hv
  obtain ⟨rfl, hsz, hP, hK, hD0, hN⟩ := hv
  have hx := B.exec
  have hb := B.bytes
  have hr := B.returns
  have hts := atoms_spec (ws := w_S_valve) B.pre
  have hown : s.vm.findClass "SeatProofs" = some m.cls := findClass_of_methodNamed B.named
  have hlocks := B.notSynchronized
  subst hsz
  have hD := hD0.self (sz := s.heap.size)
  have hA : ∀ z : Nat, s.heap.size ≤ z → va_A (wC q u) s.heap.size z := fun z h => Or.inr h
  have hS : va_S (va_A (wC q u) s.heap.size) s.heap s.heap [] := va_S.rf
  have hl := lv_entry ([Value.ref (ca_o q), Value.int x, Value.int y, Value.int k, Value.int (bI o)]) (n := 5) (Nat.le_of_ble_eq_true rfl)
  rw [lg_entry_eq]
  generalize (lg_sl ([Value.ref (ca_o q), Value.int x, Value.int y, Value.int k, Value.int (bI o)]) ++ List.replicate (5 - (lg_sl ([Value.ref (ca_o q), Value.int x, Value.int y, Value.int k, Value.int (bI o)])).length) Slot.unset).toArray = ls at hl ⊢
  have hl : lv_has ls 5 [(0, .ref (ca_o q)), (1, .int x), (2, .int y), (3, .int k), (4, .int (bI o))] := hl
  refine lv_aload_n hx hb d_S_valve_0 rfl (lv_at hl 0 rfl) ?_
  refine va_get (D := (dC, dI)) (ci := 3) (v := .ref (ca_p q)) (C := "SeatProofs") (T := F_S) (N := 6) hx hb hts (iu_S _) hown hK hP 0 rfl rfl 0 (by decide) (hts _ (List.mem_cons_of_mem _ iw_124)) (fun _ h9 => h9) rfl d_S_valve_1 ?_
  refine lv_iload_n hx hb d_S_valve_4 rfl (lv_at hl 1 rfl) ?_
  refine vp_callSi (va_Run.run (va_runV (As := [.int x]) (rest := []) ⟨hx, hb, hml, hown, hts⟩ (c_P_hasSpace l dC dI q u x) (cwV 1 hts (good_up (good_V iw_162 iw_163 iw_164 iw_2 gg_P_hasSpace)) rfl rfl rfl (by decide +kernel) ⟨Nat.le_of_ble_eq_true rfl, Nat.le_of_ble_eq_true rfl⟩) (pv_S [.int x] hN hK hP (ci := 0) (q0 := 1) rfl rfl) rfl rfl hl.1 rfl (lv_room (Nat.le_of_ble_eq_true rfl)) d_S_valve_5 ⟨Nat.le_of_ble_eq_true rfl, Nat.le_of_ble_eq_true rfl⟩)) (fun r_1 hr_1 => ?_)
  subst hr_1
  refine b0_eq (tgt := 27) hx hb d_S_valve_8 (by decide) (fun c_2 => ?_) (fun c_2 => ?_)
  · refine lv_iconst (v := (-1)) hx hb d_S_valve_27 (by decide) ?_
    exact W.iret hx hb hr (fun t9 ht9 hW9 => ⟨⟨_, u, rfl, (by rw [C_valve, if_pos (Or.inl c_2)]), by rw [ht9]; exact hP, va_K.moved hW9.alike hK, hD⟩, hS.F ht9⟩) hS.2.2 d_S_valve_28
  · obtain ⟨i, hi, rfl⟩ := ixB_of (by show k_nS u < 2 ^ 31; omega) c_2
    have hi : i < k_nS u := hi
    refine lv_aload_n hx hb d_S_valve_11 rfl (lv_at hl 0 rfl) ?_
    refine va_get (D := (dC, dI)) (ci := 3) (v := .ref (ca_p q)) (C := "SeatProofs") (T := F_S) (N := 6) hx hb hts (iu_S _) hown hK hP 0 rfl rfl 0 (by decide) (hts _ (List.mem_cons_of_mem _ iw_124)) (fun _ h9 => h9) rfl d_S_valve_12 ?_
    refine lv_iload_n hx hb d_S_valve_15 rfl (lv_at hl 2 rfl) ?_
    refine vp_callSi (va_Run.run (va_runV (As := [.int y]) (rest := []) ⟨hx, hb, hml, hown, hts⟩ (c_P_hasSpace l dC dI q u y) (cwV 1 hts (good_up (good_V iw_162 iw_163 iw_164 iw_2 gg_P_hasSpace)) rfl rfl rfl (by decide +kernel) ⟨Nat.le_of_ble_eq_true rfl, Nat.le_of_ble_eq_true rfl⟩) (pv_S [.int y] hN hK hP (ci := 0) (q0 := 1) rfl rfl) rfl rfl hl.1 rfl (lv_room (Nat.le_of_ble_eq_true rfl)) d_S_valve_16 ⟨Nat.le_of_ble_eq_true rfl, Nat.le_of_ble_eq_true rfl⟩)) (fun r_3 hr_3 => ?_)
    subst hr_3
    refine b0_eq (tgt := 27) hx hb d_S_valve_19 (by decide) (fun c_4 => ?_) (fun c_4 => ?_)
    · refine lv_iconst (v := (-1)) hx hb d_S_valve_27 (by decide) ?_
      exact W.iret hx hb hr (fun t9 ht9 hW9 => ⟨⟨_, u, rfl, (by rw [C_valve, if_pos (Or.inr (Or.inl c_4))]), by rw [ht9]; exact hP, va_K.moved hW9.alike hK, hD⟩, hS.F ht9⟩) hS.2.2 d_S_valve_28
    · obtain ⟨j, hj, rfl⟩ := ixB_of (by show k_nS u < 2 ^ 31; omega) c_4
      have hj : j < k_nS u := hj
      refine lv_iload_n hx hb d_S_valve_22 rfl (lv_at hl 1 rfl) ?_
      refine lv_iload_n hx hb d_S_valve_23 rfl (lv_at hl 2 rfl) ?_
      refine nv_ne (tgt := 29) hx hb d_S_valve_24 (by decide) (by omega) (by omega) (fun c_5 => ?_) (fun c_5 => ?_)
      · refine lv_iload_n hx hb d_S_valve_29 rfl (lv_at hl 3 rfl) ?_
        refine lv_iconst (v := nI 1) hx hb d_S_valve_30 (by decide) ?_
        refine lv_icmp_eq (tgt := 41) hx hb d_S_valve_31 (by decide) (fun c_6 => ?_) (fun c_6 => ?_)
        · refine lv_aload_n hx hb d_S_valve_41 rfl (lv_at hl 0 rfl) ?_
          refine va_get (D := (dC, dI)) (ci := 3) (v := .ref (ca_p q)) (C := "SeatProofs") (T := F_S) (N := 6) hx hb hts (iu_S _) hown hK hP 0 rfl rfl 0 (by decide) (hts _ (List.mem_cons_of_mem _ iw_124)) (fun _ h9 => h9) rfl d_S_valve_42 ?_
          refine va_getN (D := (dC, dI)) (ci := 0) (v := .int (nI (k_nV u))) (C := "SeatProofs$Plant") (T := F_P) (N := 12) hx hb hts (iu_P _) hown hK hP 1 rfl rfl 1 (by decide) (NW.use hN in_31) (fun _ h9 => h9) rfl d_S_valve_45 ?_
          refine lv_bipush (v := nI 64) hx hb d_S_valve_48 (by decide) ?_
          refine nv_lt (tgt := 56) hx hb d_S_valve_50 (by decide) (by omega) (by omega) (fun c_7 => ?_) (fun c_7 => ?_)
          · refine lv_aload_n hx hb d_S_valve_56 rfl (lv_at hl 0 rfl) ?_
            refine va_get (D := (dC, dI)) (ci := 3) (v := .ref (ca_q q)) (C := "SeatProofs") (T := F_S) (N := 6) hx hb hts (iu_S _) hown hK hP 0 rfl rfl 2 (by decide) (hts _ (List.mem_cons_of_mem _ iw_126)) (fun _ h9 => h9) rfl d_S_valve_57 ?_
            refine cq_v (va_runV (As := []) (rest := []) ⟨hx, hb, hml, hown, hts⟩ (c_Q_empty l dC dI q u _) (cwV 0 hts (good_up (good_V iw_147 iw_148 iw_149 iw_4 gg_Q_empty)) rfl rfl rfl (by decide +kernel) ⟨Nat.le_of_ble_eq_true rfl, Nat.le_of_ble_eq_true rfl⟩) (pv_Q [] hN hK hP hD (ci := 2) (q0 := 3) rfl rfl) rfl rfl hl.1 rfl (lv_room (Nat.le_of_ble_eq_true rfl)) d_S_valve_60 ⟨Nat.le_of_ble_eq_true rfl, Nat.le_of_ble_eq_true rfl⟩) hD hS hA (fun z_9 H locs hr_8 hP hD hS => ?_)
            subst hr_8
            have hP : va_P (dC, dI) vwCl (wCx q (k_fu u) (k_re u) (k_nS u) (k_nV u) (k_opn u) (k_uns u) (k_dbl u) (k_lett u) 0 (k_lev u) (k_src u) (k_fr u) (k_e1 u) (k_e2 u) (k_ends u) (k_fal u) (k_ways u) (k_fls u) (k_fnd u) (k_pf u) (k_pl u) (k_pw u) (k_pc u)) H := hP
            have hD : va_D (va_A (wC q u) s.heap.size) (wCx q (k_fu u) (k_re u) (k_nS u) (k_nV u) (k_opn u) (k_uns u) (k_dbl u) (k_lett u) 0 (k_lev u) (k_src u) (k_fr u) (k_e1 u) (k_e2 u) (k_ends u) (k_fal u) (k_ways u) (k_fls u) (k_fnd u) (k_pf u) (k_pl u) (k_pw u) (k_pc u)) := hD
            refine lv_aload_n hx hb d_S_valve_63 rfl (lv_at hl 0 rfl) ?_
            refine va_get (D := (dC, dI)) (ci := 3) (v := .ref (ca_p q)) (C := "SeatProofs") (T := F_S) (N := 6) hx hb hts (iu_S _) hown hK hP 0 rfl rfl 0 (by decide) (hts _ (List.mem_cons_of_mem _ iw_124)) (fun _ h9 => h9) rfl d_S_valve_64 ?_
            refine lv_iload_n hx hb d_S_valve_67 rfl (lv_at hl 1 rfl) ?_
            refine lv_iload_n hx hb d_S_valve_68 rfl (lv_at hl 2 rfl) ?_
            refine lv_iload_n hx hb d_S_valve_69 rfl (lv_at hl 3 rfl) ?_
            refine lv_iconst (v := nI 2) hx hb d_S_valve_70 (by decide) ?_
            refine lv_icmp_ne (tgt := 78) hx hb d_S_valve_71 (by decide) (fun c_11 => ?_) (fun c_11 => ?_)
            · refine lv_iconst (v := nI 0) hx hb d_S_valve_78 (by decide) ?_
              refine lv_iload hx hb d_S_valve_79 (lv_at hl 4 rfl) ?_
              refine cq_i (va_runV (As := [.int (nI i), .int (nI j), .int (nI 0), .int (bI o)]) (rest := []) ⟨hx, hb, hml, hown, hts⟩ (c_P_addValve l dC dI q (k_mk (k_fu u) (k_re u) (k_nS u) (k_nV u) (k_opn u) (k_uns u) (k_dbl u) (k_lett u) 0 (k_lev u) (k_src u) (k_fr u) (k_e1 u) (k_e2 u) (k_ends u) (k_fal u) (k_ways u) (k_fls u) (k_fnd u) (k_pf u) (k_pl u) (k_pw u) (k_pc u)) _ i j false o (by omega) (by omega) (by show k_nV u < 64; omega)) (cwV 4 hts (good_up (good_V iw_166 iw_167 iw_168 iw_2 gg_P_addValve)) rfl rfl rfl (by decide +kernel) ⟨Nat.le_of_ble_eq_true rfl, Nat.le_of_ble_eq_true rfl⟩) (pv_Q [.int (nI i), .int (nI j), .int (nI 0), .int (bI o)] hN hK hP hD (ci := 0) (q0 := 1) rfl rfl) rfl rfl hl.1 rfl (lv_room (Nat.le_of_ble_eq_true rfl)) d_S_valve_81 ⟨Nat.le_of_ble_eq_true rfl, Nat.le_of_ble_eq_true rfl⟩) hD hS hA (fun r_14 z_13 H locs hr_12 hP hD hS => ?_)
              obtain ⟨rfl, hz_15⟩ := hr_12
              have hP : va_P (dC, dI) vwCl (wC q z_13) H := hP
              have hD : va_D (va_A (wC q u) s.heap.size) (wC q z_13) := hD
              exact W.iret hx hb hr (fun t9 ht9 hW9 => ⟨⟨_, z_13, rfl, (by rw [C_valve, if_neg (fun h => by rcases h with h | h | h <;> first | exact absurd (h.symm.trans c_2) (by decide) | exact absurd (h.symm.trans c_4) (by decide) | exact c_5 ((nI_eq (by omega) (by omega)).mp h)), if_neg (fun h => h.1 c_6), if_neg (by omega), nI_clamp (by omega), nI_clamp (by omega), decide_eq_false c_11, hz_15]; first | done | rfl), by rw [ht9]; exact hP, va_K.moved hW9.alike hK, hD⟩, hS.F ht9⟩) hS.2.2 d_S_valve_84
            · refine lv_iconst (v := nI 1) hx hb d_S_valve_74 (by decide) ?_
              refine lv_goto (tgt := 79) hx hb d_S_valve_75 (by decide) ?_
              refine lv_iload hx hb d_S_valve_79 (lv_at hl 4 rfl) ?_
              refine cq_i (va_runV (As := [.int (nI i), .int (nI j), .int (nI 1), .int (bI o)]) (rest := []) ⟨hx, hb, hml, hown, hts⟩ (c_P_addValve l dC dI q (k_mk (k_fu u) (k_re u) (k_nS u) (k_nV u) (k_opn u) (k_uns u) (k_dbl u) (k_lett u) 0 (k_lev u) (k_src u) (k_fr u) (k_e1 u) (k_e2 u) (k_ends u) (k_fal u) (k_ways u) (k_fls u) (k_fnd u) (k_pf u) (k_pl u) (k_pw u) (k_pc u)) _ i j true o (by omega) (by omega) (by show k_nV u < 64; omega)) (cwV 4 hts (good_up (good_V iw_166 iw_167 iw_168 iw_2 gg_P_addValve)) rfl rfl rfl (by decide +kernel) ⟨Nat.le_of_ble_eq_true rfl, Nat.le_of_ble_eq_true rfl⟩) (pv_Q [.int (nI i), .int (nI j), .int (nI 1), .int (bI o)] hN hK hP hD (ci := 0) (q0 := 1) rfl rfl) rfl rfl hl.1 rfl (lv_room (Nat.le_of_ble_eq_true rfl)) d_S_valve_81 ⟨Nat.le_of_ble_eq_true rfl, Nat.le_of_ble_eq_true rfl⟩) hD hS hA (fun r_18 z_17 H locs hr_16 hP hD hS => ?_)
              obtain ⟨rfl, hz_19⟩ := hr_16
              have hP : va_P (dC, dI) vwCl (wC q z_17) H := hP
              have hD : va_D (va_A (wC q u) s.heap.size) (wC q z_17) := hD
              exact W.iret hx hb hr (fun t9 ht9 hW9 => ⟨⟨_, z_17, rfl, (by rw [C_valve, if_neg (fun h => by rcases h with h | h | h <;> first | exact absurd (h.symm.trans c_2) (by decide) | exact absurd (h.symm.trans c_4) (by decide) | exact c_5 ((nI_eq (by omega) (by omega)).mp h)), if_neg (fun h => h.1 c_6), if_neg (by omega), nI_clamp (by omega), nI_clamp (by omega), decide_eq_true c_11, hz_19]; first | done | rfl), by rw [ht9]; exact hP, va_K.moved hW9.alike hK, hD⟩, hS.F ht9⟩) hS.2.2 d_S_valve_84
          · refine lv_bipush (v := (-2)) hx hb d_S_valve_53 (by decide) ?_
            exact W.iret hx hb hr (fun t9 ht9 hW9 => ⟨⟨_, u, rfl, (by rw [C_valve, if_neg (fun h => by rcases h with h | h | h <;> first | exact absurd (h.symm.trans c_2) (by decide) | exact absurd (h.symm.trans c_4) (by decide) | exact c_5 ((nI_eq (by omega) (by omega)).mp h)), if_neg (fun h => h.1 c_6), if_pos c_7]), by rw [ht9]; exact hP, va_K.moved hW9.alike hK, hD⟩, hS.F ht9⟩) hS.2.2 d_S_valve_55
        · refine lv_iload_n hx hb d_S_valve_34 rfl (lv_at hl 3 rfl) ?_
          refine lv_iconst (v := nI 2) hx hb d_S_valve_35 (by decide) ?_
          refine lv_icmp_eq (tgt := 41) hx hb d_S_valve_36 (by decide) (fun c_20 => ?_) (fun c_20 => ?_)
          · refine lv_aload_n hx hb d_S_valve_41 rfl (lv_at hl 0 rfl) ?_
            refine va_get (D := (dC, dI)) (ci := 3) (v := .ref (ca_p q)) (C := "SeatProofs") (T := F_S) (N := 6) hx hb hts (iu_S _) hown hK hP 0 rfl rfl 0 (by decide) (hts _ (List.mem_cons_of_mem _ iw_124)) (fun _ h9 => h9) rfl d_S_valve_42 ?_
            refine va_getN (D := (dC, dI)) (ci := 0) (v := .int (nI (k_nV u))) (C := "SeatProofs$Plant") (T := F_P) (N := 12) hx hb hts (iu_P _) hown hK hP 1 rfl rfl 1 (by decide) (NW.use hN in_31) (fun _ h9 => h9) rfl d_S_valve_45 ?_
            refine lv_bipush (v := nI 64) hx hb d_S_valve_48 (by decide) ?_
            refine nv_lt (tgt := 56) hx hb d_S_valve_50 (by decide) (by omega) (by omega) (fun c_21 => ?_) (fun c_21 => ?_)
            · refine lv_aload_n hx hb d_S_valve_56 rfl (lv_at hl 0 rfl) ?_
              refine va_get (D := (dC, dI)) (ci := 3) (v := .ref (ca_q q)) (C := "SeatProofs") (T := F_S) (N := 6) hx hb hts (iu_S _) hown hK hP 0 rfl rfl 2 (by decide) (hts _ (List.mem_cons_of_mem _ iw_126)) (fun _ h9 => h9) rfl d_S_valve_57 ?_
              refine cq_v (va_runV (As := []) (rest := []) ⟨hx, hb, hml, hown, hts⟩ (c_Q_empty l dC dI q u _) (cwV 0 hts (good_up (good_V iw_147 iw_148 iw_149 iw_4 gg_Q_empty)) rfl rfl rfl (by decide +kernel) ⟨Nat.le_of_ble_eq_true rfl, Nat.le_of_ble_eq_true rfl⟩) (pv_Q [] hN hK hP hD (ci := 2) (q0 := 3) rfl rfl) rfl rfl hl.1 rfl (lv_room (Nat.le_of_ble_eq_true rfl)) d_S_valve_60 ⟨Nat.le_of_ble_eq_true rfl, Nat.le_of_ble_eq_true rfl⟩) hD hS hA (fun z_23 H locs hr_22 hP hD hS => ?_)
              subst hr_22
              have hP : va_P (dC, dI) vwCl (wCx q (k_fu u) (k_re u) (k_nS u) (k_nV u) (k_opn u) (k_uns u) (k_dbl u) (k_lett u) 0 (k_lev u) (k_src u) (k_fr u) (k_e1 u) (k_e2 u) (k_ends u) (k_fal u) (k_ways u) (k_fls u) (k_fnd u) (k_pf u) (k_pl u) (k_pw u) (k_pc u)) H := hP
              have hD : va_D (va_A (wC q u) s.heap.size) (wCx q (k_fu u) (k_re u) (k_nS u) (k_nV u) (k_opn u) (k_uns u) (k_dbl u) (k_lett u) 0 (k_lev u) (k_src u) (k_fr u) (k_e1 u) (k_e2 u) (k_ends u) (k_fal u) (k_ways u) (k_fls u) (k_fnd u) (k_pf u) (k_pl u) (k_pw u) (k_pc u)) := hD
              refine lv_aload_n hx hb d_S_valve_63 rfl (lv_at hl 0 rfl) ?_
              refine va_get (D := (dC, dI)) (ci := 3) (v := .ref (ca_p q)) (C := "SeatProofs") (T := F_S) (N := 6) hx hb hts (iu_S _) hown hK hP 0 rfl rfl 0 (by decide) (hts _ (List.mem_cons_of_mem _ iw_124)) (fun _ h9 => h9) rfl d_S_valve_64 ?_
              refine lv_iload_n hx hb d_S_valve_67 rfl (lv_at hl 1 rfl) ?_
              refine lv_iload_n hx hb d_S_valve_68 rfl (lv_at hl 2 rfl) ?_
              refine lv_iload_n hx hb d_S_valve_69 rfl (lv_at hl 3 rfl) ?_
              refine lv_iconst (v := nI 2) hx hb d_S_valve_70 (by decide) ?_
              refine lv_icmp_ne (tgt := 78) hx hb d_S_valve_71 (by decide) (fun c_25 => ?_) (fun c_25 => ?_)
              · refine lv_iconst (v := nI 0) hx hb d_S_valve_78 (by decide) ?_
                refine lv_iload hx hb d_S_valve_79 (lv_at hl 4 rfl) ?_
                refine cq_i (va_runV (As := [.int (nI i), .int (nI j), .int (nI 0), .int (bI o)]) (rest := []) ⟨hx, hb, hml, hown, hts⟩ (c_P_addValve l dC dI q (k_mk (k_fu u) (k_re u) (k_nS u) (k_nV u) (k_opn u) (k_uns u) (k_dbl u) (k_lett u) 0 (k_lev u) (k_src u) (k_fr u) (k_e1 u) (k_e2 u) (k_ends u) (k_fal u) (k_ways u) (k_fls u) (k_fnd u) (k_pf u) (k_pl u) (k_pw u) (k_pc u)) _ i j false o (by omega) (by omega) (by show k_nV u < 64; omega)) (cwV 4 hts (good_up (good_V iw_166 iw_167 iw_168 iw_2 gg_P_addValve)) rfl rfl rfl (by decide +kernel) ⟨Nat.le_of_ble_eq_true rfl, Nat.le_of_ble_eq_true rfl⟩) (pv_Q [.int (nI i), .int (nI j), .int (nI 0), .int (bI o)] hN hK hP hD (ci := 0) (q0 := 1) rfl rfl) rfl rfl hl.1 rfl (lv_room (Nat.le_of_ble_eq_true rfl)) d_S_valve_81 ⟨Nat.le_of_ble_eq_true rfl, Nat.le_of_ble_eq_true rfl⟩) hD hS hA (fun r_28 z_27 H locs hr_26 hP hD hS => ?_)
                obtain ⟨rfl, hz_29⟩ := hr_26
                have hP : va_P (dC, dI) vwCl (wC q z_27) H := hP
                have hD : va_D (va_A (wC q u) s.heap.size) (wC q z_27) := hD
                exact W.iret hx hb hr (fun t9 ht9 hW9 => ⟨⟨_, z_27, rfl, (by rw [C_valve, if_neg (fun h => by rcases h with h | h | h <;> first | exact absurd (h.symm.trans c_2) (by decide) | exact absurd (h.symm.trans c_4) (by decide) | exact c_5 ((nI_eq (by omega) (by omega)).mp h)), if_neg (fun h => h.2 c_20), if_neg (by omega), nI_clamp (by omega), nI_clamp (by omega), decide_eq_false c_25, hz_29]; first | done | rfl), by rw [ht9]; exact hP, va_K.moved hW9.alike hK, hD⟩, hS.F ht9⟩) hS.2.2 d_S_valve_84
              · refine lv_iconst (v := nI 1) hx hb d_S_valve_74 (by decide) ?_
                refine lv_goto (tgt := 79) hx hb d_S_valve_75 (by decide) ?_
                refine lv_iload hx hb d_S_valve_79 (lv_at hl 4 rfl) ?_
                refine cq_i (va_runV (As := [.int (nI i), .int (nI j), .int (nI 1), .int (bI o)]) (rest := []) ⟨hx, hb, hml, hown, hts⟩ (c_P_addValve l dC dI q (k_mk (k_fu u) (k_re u) (k_nS u) (k_nV u) (k_opn u) (k_uns u) (k_dbl u) (k_lett u) 0 (k_lev u) (k_src u) (k_fr u) (k_e1 u) (k_e2 u) (k_ends u) (k_fal u) (k_ways u) (k_fls u) (k_fnd u) (k_pf u) (k_pl u) (k_pw u) (k_pc u)) _ i j true o (by omega) (by omega) (by show k_nV u < 64; omega)) (cwV 4 hts (good_up (good_V iw_166 iw_167 iw_168 iw_2 gg_P_addValve)) rfl rfl rfl (by decide +kernel) ⟨Nat.le_of_ble_eq_true rfl, Nat.le_of_ble_eq_true rfl⟩) (pv_Q [.int (nI i), .int (nI j), .int (nI 1), .int (bI o)] hN hK hP hD (ci := 0) (q0 := 1) rfl rfl) rfl rfl hl.1 rfl (lv_room (Nat.le_of_ble_eq_true rfl)) d_S_valve_81 ⟨Nat.le_of_ble_eq_true rfl, Nat.le_of_ble_eq_true rfl⟩) hD hS hA (fun r_32 z_31 H locs hr_30 hP hD hS => ?_)
                obtain ⟨rfl, hz_33⟩ := hr_30
                have hP : va_P (dC, dI) vwCl (wC q z_31) H := hP
                have hD : va_D (va_A (wC q u) s.heap.size) (wC q z_31) := hD
                exact W.iret hx hb hr (fun t9 ht9 hW9 => ⟨⟨_, z_31, rfl, (by rw [C_valve, if_neg (fun h => by rcases h with h | h | h <;> first | exact absurd (h.symm.trans c_2) (by decide) | exact absurd (h.symm.trans c_4) (by decide) | exact c_5 ((nI_eq (by omega) (by omega)).mp h)), if_neg (fun h => h.2 c_20), if_neg (by omega), nI_clamp (by omega), nI_clamp (by omega), decide_eq_true c_25, hz_33]; first | done | rfl), by rw [ht9]; exact hP, va_K.moved hW9.alike hK, hD⟩, hS.F ht9⟩) hS.2.2 d_S_valve_84
            · refine lv_bipush (v := (-2)) hx hb d_S_valve_53 (by decide) ?_
              exact W.iret hx hb hr (fun t9 ht9 hW9 => ⟨⟨_, u, rfl, (by rw [C_valve, if_neg (fun h => by rcases h with h | h | h <;> first | exact absurd (h.symm.trans c_2) (by decide) | exact absurd (h.symm.trans c_4) (by decide) | exact c_5 ((nI_eq (by omega) (by omega)).mp h)), if_neg (fun h => h.2 c_20), if_pos c_21]), by rw [ht9]; exact hP, va_K.moved hW9.alike hK, hD⟩, hS.F ht9⟩) hS.2.2 d_S_valve_55
          · refine lv_iconst (v := (-1)) hx hb d_S_valve_39 (by decide) ?_
            exact W.iret hx hb hr (fun t9 ht9 hW9 => ⟨⟨_, u, rfl, (by rw [C_valve, if_neg (fun h => by rcases h with h | h | h <;> first | exact absurd (h.symm.trans c_2) (by decide) | exact absurd (h.symm.trans c_4) (by decide) | exact c_5 ((nI_eq (by omega) (by omega)).mp h)), if_pos ⟨c_6, c_20⟩]), by rw [ht9]; exact hP, va_K.moved hW9.alike hK, hD⟩, hS.F ht9⟩) hS.2.2 d_S_valve_40
      · refine lv_iconst (v := (-1)) hx hb d_S_valve_27 (by decide) ?_
        exact W.iret hx hb hr (fun t9 ht9 hW9 => ⟨⟨_, u, rfl, (by rw [C_valve, if_pos (Or.inr (Or.inr (by rw [c_5])))]), by rw [ht9]; exact hP, va_K.moved hW9.alike hK, hD⟩, hS.F ht9⟩) hS.2.2 d_S_valve_28
set_option maxHeartbeats 4000000 in
set_option maxRecDepth 100000 in
theorem c_S_level (l : Launch) (dC : Nat → ClassId) (dI : Nat → Nat → Nat) (q : CA) (u : CSt) (sz : Nat) (x : Int32) (h : Int64) (h0 : k_nS u ≤ 64) (h1 : k_nV u ≤ 64) (h2 : ∀ j, k_e1 u j < 64) (h3 : ∀ j, k_e2 u j < 64) : Met l y_S_level w_S_level ({ frames := 4, cells := 0, slots := 0, locals := 90 }) (qPc (dC, dI) vwCl (tC q) (wC q u) sz [Value.ref (ca_o q), Value.int x, Value.long h]) (va_Qi (fun (r : Int32) (z : CSt) => r = bI (C_level u x h).1 ∧ z = (C_level u x h).2) (qB (dC, dI) vwCl (tC q) (wC q u) sz (wC q)) (va_A (wC q u) sz)) 0 0 (va_A (wC q u) sz) := by
  refine Met.ofW (cc := b_S_level) (maxL := 4) (ret := (some .boolean)) (by decide) rfl ?_
  intro p e s m args below meth c s₁ B hml hv
  obtain ⟨rfl, hsz, hP, hK, hD0, hN⟩ := hv
  have hx := B.exec
  have hb := B.bytes
  have hr := B.returns
  have hts := atoms_spec (ws := w_S_level) B.pre
  have hown : s.vm.findClass "SeatProofs" = some m.cls := findClass_of_methodNamed B.named
  have hlocks := B.notSynchronized
  subst hsz
  have hD := hD0.self (sz := s.heap.size)
  have hA : ∀ z : Nat, s.heap.size ≤ z → va_A (wC q u) s.heap.size z := fun z h => Or.inr h
  have hS : va_S (va_A (wC q u) s.heap.size) s.heap s.heap [] := va_S.rf
  have hl := lv_entry ([Value.ref (ca_o q), Value.int x, Value.long h]) (n := 4) (Nat.le_of_ble_eq_true rfl)
  rw [lg_entry_eq]
  generalize (lg_sl ([Value.ref (ca_o q), Value.int x, Value.long h]) ++ List.replicate (4 - (lg_sl ([Value.ref (ca_o q), Value.int x, Value.long h])).length) Slot.unset).toArray = ls at hl ⊢
  have hl : lv_has ls 4 [(0, .ref (ca_o q)), (1, .int x), (2, .long h)] := hl
  refine lv_aload_n hx hb d_S_level_0 rfl (lv_at hl 0 rfl) ?_
  refine va_get (D := (dC, dI)) (ci := 3) (v := .ref (ca_p q)) (C := "SeatProofs") (T := F_S) (N := 6) hx hb hts (iu_S _) hown hK hP 0 rfl rfl 0 (by decide) (hts _ (List.mem_cons_of_mem _ iw_124)) (fun _ h9 => h9) rfl d_S_level_1 ?_
  refine lv_iload_n hx hb d_S_level_4 rfl (lv_at hl 1 rfl) ?_
  refine vp_callSi (va_Run.run (va_runV (As := [.int x]) (rest := []) ⟨hx, hb, hml, hown, hts⟩ (c_P_hasSpace l dC dI q u x) (cwV 1 hts (good_up (good_V iw_162 iw_163 iw_164 iw_2 gg_P_hasSpace)) rfl rfl rfl (by decide +kernel) ⟨Nat.le_of_ble_eq_true rfl, Nat.le_of_ble_eq_true rfl⟩) (pv_S [.int x] hN hK hP (ci := 0) (q0 := 1) rfl rfl) rfl rfl hl.1 rfl (lv_room (Nat.le_of_ble_eq_true rfl)) d_S_level_5 ⟨Nat.le_of_ble_eq_true rfl, Nat.le_of_ble_eq_true rfl⟩)) (fun r_1 hr_1 => ?_)
  subst hr_1
  refine b0_ne (tgt := 13) hx hb d_S_level_8 (by decide) (fun c_2 => ?_) (fun c_2 => ?_)
  · obtain ⟨i, hi, rfl⟩ := ixB_of (by show k_nS u < 2 ^ 31; omega) c_2
    have hi : i < k_nS u := hi
    refine lv_aload_n hx hb d_S_level_13 rfl (lv_at hl 0 rfl) ?_
    refine va_get (D := (dC, dI)) (ci := 3) (v := .ref (ca_p q)) (C := "SeatProofs") (T := F_S) (N := 6) hx hb hts (iu_S _) hown hK hP 0 rfl rfl 0 (by decide) (hts _ (List.mem_cons_of_mem _ iw_124)) (fun _ h9 => h9) rfl d_S_level_14 ?_
    refine lv_iload_n hx hb d_S_level_17 rfl (lv_at hl 1 rfl) ?_
    refine lv_lload_n hx hb d_S_level_18 rfl (lv_at hl 2 rfl) ?_
    refine cq_v (va_runV (As := [.int (nI i), .long h]) (rest := []) ⟨hx, hb, hml, hown, hts⟩ (c_P_raiseTo l dC dI q u _ i h (by omega) h1 h2 h3) (cwV 2 hts (good_up (good_V iw_186 iw_187 iw_188 iw_2 gg_P_raiseTo)) rfl rfl rfl (by decide +kernel) ⟨Nat.le_of_ble_eq_true rfl, Nat.le_of_ble_eq_true rfl⟩) (pv_Q [.int (nI i), .long h] hN hK hP hD (ci := 0) (q0 := 1) rfl rfl) rfl rfl hl.1 rfl (lv_room (Nat.le_of_ble_eq_true rfl)) d_S_level_19 ⟨Nat.le_of_ble_eq_true rfl, Nat.le_of_ble_eq_true rfl⟩) hD hS hA (fun z_4 H locs hr_3 hP hD hS => ?_)
    subst hr_3
    have hP : va_P (dC, dI) vwCl (wCx q (k_fu u) (k_re u) (k_nS u) (k_nV u) (k_opn u) (k_uns u) (k_dbl u) (k_lett u) (k_cnt u) (va_up (k_lev u) i h) (k_src u) (k_fr u) (k_e1 u) (k_e2 u) (k_ends u) (krs (k_s_lev u (va_up (k_lev u) i h)) i (k_nV u)) (k_ways u) (k_fls u) (k_fnd u) (k_pf u) (k_pl u) (k_pw u) (k_pc u)) H := hP
    have hD : va_D (va_A (wC q u) s.heap.size) (wCx q (k_fu u) (k_re u) (k_nS u) (k_nV u) (k_opn u) (k_uns u) (k_dbl u) (k_lett u) (k_cnt u) (va_up (k_lev u) i h) (k_src u) (k_fr u) (k_e1 u) (k_e2 u) (k_ends u) (krs (k_s_lev u (va_up (k_lev u) i h)) i (k_nV u)) (k_ways u) (k_fls u) (k_fnd u) (k_pf u) (k_pl u) (k_pw u) (k_pc u)) := hD
    refine lv_aload_n hx hb d_S_level_22 rfl (lv_at hl 0 rfl) ?_
    refine va_get (D := (dC, dI)) (ci := 3) (v := .ref (ca_q q)) (C := "SeatProofs") (T := F_S) (N := 6) hx hb hts (iu_S _) hown hK hP 0 rfl rfl 2 (by decide) (hts _ (List.mem_cons_of_mem _ iw_126)) (fun _ h9 => h9) rfl d_S_level_23 ?_
    refine cq_v (va_runV (As := []) (rest := []) ⟨hx, hb, hml, hown, hts⟩ (c_Q_empty l dC dI q (k_mk (k_fu u) (k_re u) (k_nS u) (k_nV u) (k_opn u) (k_uns u) (k_dbl u) (k_lett u) (k_cnt u) (va_up (k_lev u) i h) (k_src u) (k_fr u) (k_e1 u) (k_e2 u) (k_ends u) (krs (k_s_lev u (va_up (k_lev u) i h)) i (k_nV u)) (k_ways u) (k_fls u) (k_fnd u) (k_pf u) (k_pl u) (k_pw u) (k_pc u)) _) (cwV 0 hts (good_up (good_V iw_147 iw_148 iw_149 iw_4 gg_Q_empty)) rfl rfl rfl (by decide +kernel) ⟨Nat.le_of_ble_eq_true rfl, Nat.le_of_ble_eq_true rfl⟩) (pv_Q [] hN hK hP hD (ci := 2) (q0 := 3) rfl rfl) rfl rfl hl.1 rfl (lv_room (Nat.le_of_ble_eq_true rfl)) d_S_level_26 ⟨Nat.le_of_ble_eq_true rfl, Nat.le_of_ble_eq_true rfl⟩) hD hS hA (fun z_7 H locs hr_6 hP hD hS => ?_)
    subst hr_6
    have hP : va_P (dC, dI) vwCl (wCx q (k_fu u) (k_re u) (k_nS u) (k_nV u) (k_opn u) (k_uns u) (k_dbl u) (k_lett u) 0 (va_up (k_lev u) i h) (k_src u) (k_fr u) (k_e1 u) (k_e2 u) (k_ends u) (krs (k_s_lev u (va_up (k_lev u) i h)) i (k_nV u)) (k_ways u) (k_fls u) (k_fnd u) (k_pf u) (k_pl u) (k_pw u) (k_pc u)) H := hP
    have hD : va_D (va_A (wC q u) s.heap.size) (wCx q (k_fu u) (k_re u) (k_nS u) (k_nV u) (k_opn u) (k_uns u) (k_dbl u) (k_lett u) 0 (va_up (k_lev u) i h) (k_src u) (k_fr u) (k_e1 u) (k_e2 u) (k_ends u) (krs (k_s_lev u (va_up (k_lev u) i h)) i (k_nV u)) (k_ways u) (k_fls u) (k_fnd u) (k_pf u) (k_pl u) (k_pw u) (k_pc u)) := hD
    refine lv_iconst (v := nI 1) hx hb d_S_level_29 (by decide) ?_
    refine tp_i (bI true) (by decide) ?_
    exact W.zret hx hb hr (bI_narrow _) (fun t9 ht9 hW9 => ⟨⟨_, (k_mk (k_fu u) (k_re u) (k_nS u) (k_nV u) (k_opn u) (k_uns u) (k_dbl u) (k_lett u) 0 (va_up (k_lev u) i h) (k_src u) (k_fr u) (k_e1 u) (k_e2 u) (k_ends u) (krs (k_s_lev u (va_up (k_lev u) i h)) i (k_nV u)) (k_ways u) (k_fls u) (k_fnd u) (k_pf u) (k_pl u) (k_pw u) (k_pc u)), rfl, ⟨by rw [C_level, if_neg (fun h => absurd (h.symm.trans c_2) (by decide))], by rw [C_level, if_neg (fun h => absurd (h.symm.trans c_2) (by decide)), nI_clamp (by omega)]; first | done | rfl⟩, by rw [ht9]; exact hP, va_K.moved hW9.alike hK, hD⟩, hS.F ht9⟩) hS.2.2 d_S_level_30
  · refine lv_iconst (v := nI 0) hx hb d_S_level_11 (by decide) ?_
    refine tp_i (bI false) (by decide) ?_
    exact W.zret hx hb hr (bI_narrow _) (fun t9 ht9 hW9 => ⟨⟨_, u, rfl, ⟨by rw [C_level, if_pos c_2], by rw [C_level, if_pos c_2]⟩, by rw [ht9]; exact hP, va_K.moved hW9.alike hK, hD⟩, hS.F ht9⟩) hS.2.2 d_S_level_12
set_option maxHeartbeats 4000000 in
set_option maxRecDepth 100000 in
theorem c_S_may (l : Launch) (dC : Nat → ClassId) (dI : Nat → Nat → Nat) (q : CA) (u : CSt) (sz : Nat) (x y : Int32) : Met l y_S_may w_S_may ({ frames := 1, cells := 0, slots := 0, locals := 22 }) (qPc (dC, dI) vwCl (tC q) (wC q u) sz [Value.ref (ca_o q), Value.int x, Value.int y]) (va_Qi (fun (r : Int32) (z : CSt) => r = bI (C_may u x y).1 ∧ z = (C_may u x y).2) (qB (dC, dI) vwCl (tC q) (wC q u) sz (wC q)) (va_A (wC q u) sz)) 0 0 (va_A (wC q u) sz) := by
  refine Met.ofW (cc := b_S_may) (maxL := 3) (ret := (some .boolean)) (by decide) rfl ?_
  intro p e s m args below meth c s₁ B hml hv
  obtain ⟨rfl, hsz, hP, hK, hD0, hN⟩ := hv
  have hx := B.exec
  have hb := B.bytes
  have hr := B.returns
  have hts := atoms_spec (ws := w_S_may) B.pre
  have hown : s.vm.findClass "SeatProofs" = some m.cls := findClass_of_methodNamed B.named
  have hlocks := B.notSynchronized
  subst hsz
  have hD := hD0.self (sz := s.heap.size)
  have hA : ∀ z : Nat, s.heap.size ≤ z → va_A (wC q u) s.heap.size z := fun z h => Or.inr h
  have hS : va_S (va_A (wC q u) s.heap.size) s.heap s.heap [] := va_S.rf
  have hl := lv_entry ([Value.ref (ca_o q), Value.int x, Value.int y]) (n := 3) (Nat.le_of_ble_eq_true rfl)
  rw [lg_entry_eq]
  generalize (lg_sl ([Value.ref (ca_o q), Value.int x, Value.int y]) ++ List.replicate (3 - (lg_sl ([Value.ref (ca_o q), Value.int x, Value.int y])).length) Slot.unset).toArray = ls at hl ⊢
  have hl : lv_has ls 3 [(0, .ref (ca_o q)), (1, .int x), (2, .int y)] := hl
  refine lv_iload_n hx hb d_S_may_0 rfl (lv_at hl 1 rfl) ?_
  refine vp_callSi (va_Run.run (va_runS (As := [.int x]) (rest := []) ⟨hx, hb, hml, hown, hts⟩ (c_S_isLiquid l x) (va_cwS 1 hts (good_up (good_S iw_198 iw_199 iw_1 gg_S_isLiquid)) rfl rfl rfl (by decide +kernel) ⟨Nat.le_of_ble_eq_true rfl, Nat.le_of_ble_eq_true rfl⟩) (ps_0 [.int x] hN) rfl rfl hl.1 rfl (lv_room (Nat.le_of_ble_eq_true rfl)) d_S_may_1 ⟨Nat.le_of_ble_eq_true rfl, Nat.le_of_ble_eq_true rfl⟩)) (fun r_1 hr_1 => ?_)
  subst hr_1
  refine b0_eq (tgt := 19) hx hb d_S_may_4 (by decide) (fun c_2 => ?_) (fun c_2 => ?_)
  · refine lv_iconst (v := nI 0) hx hb d_S_may_19 (by decide) ?_
    refine tp_i (bI false) (by decide) ?_
    exact W.zret hx hb hr (bI_narrow _) (fun t9 ht9 hW9 => ⟨⟨_, u, rfl, ⟨by rw [C_may, if_pos (Or.inl c_2)], by rw [C_may, if_pos (Or.inl c_2)]⟩, by rw [ht9]; exact hP, va_K.moved hW9.alike hK, hD⟩, hS.F ht9⟩) hS.2.2 d_S_may_20
  · refine lv_iload_n hx hb d_S_may_7 rfl (lv_at hl 2 rfl) ?_
    refine vp_callSi (va_Run.run (va_runS (As := [.int y]) (rest := []) ⟨hx, hb, hml, hown, hts⟩ (c_S_isLiquid l y) (va_cwS 1 hts (good_up (good_S iw_198 iw_199 iw_1 gg_S_isLiquid)) rfl rfl rfl (by decide +kernel) ⟨Nat.le_of_ble_eq_true rfl, Nat.le_of_ble_eq_true rfl⟩) (ps_0 [.int y] hN) rfl rfl hl.1 rfl (lv_room (Nat.le_of_ble_eq_true rfl)) d_S_may_8 ⟨Nat.le_of_ble_eq_true rfl, Nat.le_of_ble_eq_true rfl⟩)) (fun r_3 hr_3 => ?_)
    subst hr_3
    refine b0_eq (tgt := 19) hx hb d_S_may_11 (by decide) (fun c_4 => ?_) (fun c_4 => ?_)
    · refine lv_iconst (v := nI 0) hx hb d_S_may_19 (by decide) ?_
      refine tp_i (bI false) (by decide) ?_
      exact W.zret hx hb hr (bI_narrow _) (fun t9 ht9 hW9 => ⟨⟨_, u, rfl, ⟨by rw [C_may, if_pos (Or.inr (Or.inl c_4))], by rw [C_may, if_pos (Or.inr (Or.inl c_4))]⟩, by rw [ht9]; exact hP, va_K.moved hW9.alike hK, hD⟩, hS.F ht9⟩) hS.2.2 d_S_may_20
    · refine lv_iload_n hx hb d_S_may_14 rfl (lv_at hl 1 rfl) ?_
      refine lv_iload_n hx hb d_S_may_15 rfl (lv_at hl 2 rfl) ?_
      refine lv_icmp_ne (tgt := 21) hx hb d_S_may_16 (by decide) (fun c_5 => ?_) (fun c_5 => ?_)
      · have hnx : ¬ x = y := c_5
        obtain ⟨i, hi, hi2, rfl⟩ := liqB_of c_2
        obtain ⟨j, hj, hj2, rfl⟩ := liqB_of c_4
        refine lv_aload_n hx hb d_S_may_21 rfl (lv_at hl 0 rfl) ?_
        refine va_get (D := (dC, dI)) (ci := 3) (v := .ref (ca_p q)) (C := "SeatProofs") (T := F_S) (N := 6) hx hb hts (iu_S _) hown hK hP 0 rfl rfl 0 (by decide) (hts _ (List.mem_cons_of_mem _ iw_124)) (fun _ h9 => h9) rfl d_S_may_22 ?_
        refine lv_iload_n hx hb d_S_may_25 rfl (lv_at hl 1 rfl) ?_
        refine lv_iload_n hx hb d_S_may_26 rfl (lv_at hl 2 rfl) ?_
        refine vp_callSi (va_Run.run (va_runV (As := [.int (nI i), .int (nI j)]) (rest := []) ⟨hx, hb, hml, hown, hts⟩ (c_P_areFriends l dC dI q u i j (by omega) (by omega)) (cwV 2 hts (good_up (good_V iw_201 iw_202 iw_203 iw_2 gg_P_areFriends)) rfl rfl rfl (by decide +kernel) ⟨Nat.le_of_ble_eq_true rfl, Nat.le_of_ble_eq_true rfl⟩) (pv_S [.int (nI i), .int (nI j)] hN hK hP (ci := 0) (q0 := 1) rfl rfl) rfl rfl hl.1 rfl (lv_room (Nat.le_of_ble_eq_true rfl)) d_S_may_27 ⟨Nat.le_of_ble_eq_true rfl, Nat.le_of_ble_eq_true rfl⟩)) (fun r_6 hr_6 => ?_)
        subst hr_6
        refine b0_eq (tgt := 35) hx hb d_S_may_30 (by decide) (fun c_7 => ?_) (fun c_7 => ?_)
        · refine lv_aload_n hx hb d_S_may_35 rfl (lv_at hl 0 rfl) ?_
          refine va_get (D := (dC, dI)) (ci := 3) (v := .ref (ca_p q)) (C := "SeatProofs") (T := F_S) (N := 6) hx hb hts (iu_S _) hown hK hP 0 rfl rfl 0 (by decide) (hts _ (List.mem_cons_of_mem _ iw_124)) (fun _ h9 => h9) rfl d_S_may_36 ?_
          refine lv_iload_n hx hb d_S_may_39 rfl (lv_at hl 1 rfl) ?_
          refine lv_iload_n hx hb d_S_may_40 rfl (lv_at hl 2 rfl) ?_
          refine cq_v (va_runV (As := [.int (nI i), .int (nI j)]) (rest := []) ⟨hx, hb, hml, hown, hts⟩ (c_P_befriend l dC dI q u _ i j (by omega) (by omega)) (cwV 2 hts (good_up (good_V iw_205 iw_206 iw_207 iw_2 gg_P_befriend)) rfl rfl rfl (by decide +kernel) ⟨Nat.le_of_ble_eq_true rfl, Nat.le_of_ble_eq_true rfl⟩) (pv_Q [.int (nI i), .int (nI j)] hN hK hP hD (ci := 0) (q0 := 1) rfl rfl) rfl rfl hl.1 rfl (lv_room (Nat.le_of_ble_eq_true rfl)) d_S_may_41 ⟨Nat.le_of_ble_eq_true rfl, Nat.le_of_ble_eq_true rfl⟩) hD hS hA (fun z_9 H locs hr_8 hP hD hS => ?_)
          subst hr_8
          have hP : va_P (dC, dI) vwCl (wCx q (k_fu u) (k_re u) (k_nS u) (k_nV u) (k_opn u) (k_uns u) (k_dbl u) (k_lett u) (k_cnt u) (k_lev u) (k_src u) (bfr (k_fr u) i j) (k_e1 u) (k_e2 u) (k_ends u) (k_fal u) (k_ways u) (k_fls u) (k_fnd u) (k_pf u) (k_pl u) (k_pw u) (k_pc u)) H := hP
          have hD : va_D (va_A (wC q u) s.heap.size) (wCx q (k_fu u) (k_re u) (k_nS u) (k_nV u) (k_opn u) (k_uns u) (k_dbl u) (k_lett u) (k_cnt u) (k_lev u) (k_src u) (bfr (k_fr u) i j) (k_e1 u) (k_e2 u) (k_ends u) (k_fal u) (k_ways u) (k_fls u) (k_fnd u) (k_pf u) (k_pl u) (k_pw u) (k_pc u)) := hD
          refine lv_aload_n hx hb d_S_may_44 rfl (lv_at hl 0 rfl) ?_
          refine va_get (D := (dC, dI)) (ci := 3) (v := .ref (ca_q q)) (C := "SeatProofs") (T := F_S) (N := 6) hx hb hts (iu_S _) hown hK hP 0 rfl rfl 2 (by decide) (hts _ (List.mem_cons_of_mem _ iw_126)) (fun _ h9 => h9) rfl d_S_may_45 ?_
          refine cq_v (va_runV (As := []) (rest := []) ⟨hx, hb, hml, hown, hts⟩ (c_Q_empty l dC dI q (k_mk (k_fu u) (k_re u) (k_nS u) (k_nV u) (k_opn u) (k_uns u) (k_dbl u) (k_lett u) (k_cnt u) (k_lev u) (k_src u) (bfr (k_fr u) i j) (k_e1 u) (k_e2 u) (k_ends u) (k_fal u) (k_ways u) (k_fls u) (k_fnd u) (k_pf u) (k_pl u) (k_pw u) (k_pc u)) _) (cwV 0 hts (good_up (good_V iw_147 iw_148 iw_149 iw_4 gg_Q_empty)) rfl rfl rfl (by decide +kernel) ⟨Nat.le_of_ble_eq_true rfl, Nat.le_of_ble_eq_true rfl⟩) (pv_Q [] hN hK hP hD (ci := 2) (q0 := 3) rfl rfl) rfl rfl hl.1 rfl (lv_room (Nat.le_of_ble_eq_true rfl)) d_S_may_48 ⟨Nat.le_of_ble_eq_true rfl, Nat.le_of_ble_eq_true rfl⟩) hD hS hA (fun z_12 H locs hr_11 hP hD hS => ?_)
          subst hr_11
          have hP : va_P (dC, dI) vwCl (wCx q (k_fu u) (k_re u) (k_nS u) (k_nV u) (k_opn u) (k_uns u) (k_dbl u) (k_lett u) 0 (k_lev u) (k_src u) (bfr (k_fr u) i j) (k_e1 u) (k_e2 u) (k_ends u) (k_fal u) (k_ways u) (k_fls u) (k_fnd u) (k_pf u) (k_pl u) (k_pw u) (k_pc u)) H := hP
          have hD : va_D (va_A (wC q u) s.heap.size) (wCx q (k_fu u) (k_re u) (k_nS u) (k_nV u) (k_opn u) (k_uns u) (k_dbl u) (k_lett u) 0 (k_lev u) (k_src u) (bfr (k_fr u) i j) (k_e1 u) (k_e2 u) (k_ends u) (k_fal u) (k_ways u) (k_fls u) (k_fnd u) (k_pf u) (k_pl u) (k_pw u) (k_pc u)) := hD
          refine lv_iconst (v := nI 1) hx hb d_S_may_51 (by decide) ?_
          refine tp_i (bI true) (by decide) ?_
          exact W.zret hx hb hr (bI_narrow _) (fun t9 ht9 hW9 => ⟨⟨_, (k_mk (k_fu u) (k_re u) (k_nS u) (k_nV u) (k_opn u) (k_uns u) (k_dbl u) (k_lett u) 0 (k_lev u) (k_src u) (bfr (k_fr u) i j) (k_e1 u) (k_e2 u) (k_ends u) (k_fal u) (k_ways u) (k_fls u) (k_fnd u) (k_pf u) (k_pl u) (k_pw u) (k_pc u)), rfl, ⟨by rw [C_may, if_neg (fun h => by rcases h with h | h | h | h <;> first | exact absurd (h.symm.trans c_2) (by decide) | exact absurd (h.symm.trans c_4) (by decide) | exact hnx h | (rw [nI_clamp (show i < 2 ^ 31 by omega), nI_clamp (show j < 2 ^ 31 by omega)] at h; exact absurd (h.symm.trans c_7) (by decide)))], by rw [C_may, if_neg (fun h => by rcases h with h | h | h | h <;> first | exact absurd (h.symm.trans c_2) (by decide) | exact absurd (h.symm.trans c_4) (by decide) | exact hnx h | (rw [nI_clamp (show i < 2 ^ 31 by omega), nI_clamp (show j < 2 ^ 31 by omega)] at h; exact absurd (h.symm.trans c_7) (by decide))), nI_clamp (show i < 2 ^ 31 by omega), nI_clamp (show j < 2 ^ 31 by omega)]; first | done | rfl⟩, by rw [ht9]; exact hP, va_K.moved hW9.alike hK, hD⟩, hS.F ht9⟩) hS.2.2 d_S_may_52
        · refine lv_iconst (v := nI 0) hx hb d_S_may_33 (by decide) ?_
          refine tp_i (bI false) (by decide) ?_
          exact W.zret hx hb hr (bI_narrow _) (fun t9 ht9 hW9 => ⟨⟨_, u, rfl, ⟨by rw [C_may, if_pos (Or.inr (Or.inr (Or.inr (by rw [nI_clamp (show i < 2 ^ 31 by omega), nI_clamp (show j < 2 ^ 31 by omega)]; exact c_7))))], by rw [C_may, if_pos (Or.inr (Or.inr (Or.inr (by rw [nI_clamp (show i < 2 ^ 31 by omega), nI_clamp (show j < 2 ^ 31 by omega)]; exact c_7))))]⟩, by rw [ht9]; exact hP, va_K.moved hW9.alike hK, hD⟩, hS.F ht9⟩) hS.2.2 d_S_may_34
      · refine lv_iconst (v := nI 0) hx hb d_S_may_19 (by decide) ?_
        refine tp_i (bI false) (by decide) ?_
        exact W.zret hx hb hr (bI_narrow _) (fun t9 ht9 hW9 => ⟨⟨_, u, rfl, ⟨by rw [C_may, if_pos (Or.inr (Or.inr (Or.inl c_5)))], by rw [C_may, if_pos (Or.inr (Or.inr (Or.inl c_5)))]⟩, by rw [ht9]; exact hP, va_K.moved hW9.alike hK, hD⟩, hS.F ht9⟩) hS.2.2 d_S_may_20
set_option maxHeartbeats 4000000 in
set_option maxRecDepth 100000 in
theorem c_S_drop (l : Launch) (dC : Nat → ClassId) (dI : Nat → Nat → Nat) (q : CA) (u : CSt) (sz : Nat) (x : Int32) (h1 : k_cnt u ≤ 975) : Met l y_S_drop w_S_drop ({ frames := 2, cells := 0, slots := 0, locals := 82 }) (qPc (dC, dI) vwCl (tC q) (wC q u) sz [Value.ref (ca_o q), Value.int x]) (va_Qi (fun (r : Int32) (z : CSt) => r = bI (C_drop u x).1 ∧ z = (C_drop u x).2) (qB (dC, dI) vwCl (tC q) (wC q u) sz (wC q)) (va_A (wC q u) sz)) 0 0 (va_A (wC q u) sz) := by
  refine Met.ofW (cc := b_S_drop) (maxL := 2) (ret := (some .boolean)) (by decide) rfl ?_
  intro p e s m args below meth c s₁ B hml hv
  obtain ⟨rfl, hsz, hP, hK, hD0, hN⟩ := hv
  have hx := B.exec
  have hb := B.bytes
  have hr := B.returns
  have hts := atoms_spec (ws := w_S_drop) B.pre
  have hown : s.vm.findClass "SeatProofs" = some m.cls := findClass_of_methodNamed B.named
  have hlocks := B.notSynchronized
  subst hsz
  have hD := hD0.self (sz := s.heap.size)
  have hA : ∀ z : Nat, s.heap.size ≤ z → va_A (wC q u) s.heap.size z := fun z h => Or.inr h
  have hS : va_S (va_A (wC q u) s.heap.size) s.heap s.heap [] := va_S.rf
  have hl := lv_entry ([Value.ref (ca_o q), Value.int x]) (n := 2) (Nat.le_of_ble_eq_true rfl)
  rw [lg_entry_eq]
  generalize (lg_sl ([Value.ref (ca_o q), Value.int x]) ++ List.replicate (2 - (lg_sl ([Value.ref (ca_o q), Value.int x])).length) Slot.unset).toArray = ls at hl ⊢
  have hl : lv_has ls 2 [(0, .ref (ca_o q)), (1, .int x)] := hl
  refine lv_aload_n hx hb d_S_drop_0 rfl (lv_at hl 0 rfl) ?_
  refine va_get (D := (dC, dI)) (ci := 3) (v := .ref (ca_q q)) (C := "SeatProofs") (T := F_S) (N := 6) hx hb hts (iu_S _) hown hK hP 0 rfl rfl 2 (by decide) (hts _ (List.mem_cons_of_mem _ iw_126)) (fun _ h9 => h9) rfl d_S_drop_1 ?_
  refine lv_iload_n hx hb d_S_drop_4 rfl (lv_at hl 1 rfl) ?_
  refine vp_callSi (va_Run.run (va_runV (As := [.int x]) (rest := []) ⟨hx, hb, hml, hown, hts⟩ (c_Q_hasRow l dC dI q u x) (cwV 1 hts (good_up (good_V iw_287 iw_288 iw_289 iw_4 gg_Q_hasRow)) rfl rfl rfl (by decide +kernel) ⟨Nat.le_of_ble_eq_true rfl, Nat.le_of_ble_eq_true rfl⟩) (pv_S [.int x] hN hK hP (ci := 2) (q0 := 3) rfl rfl) rfl rfl hl.1 rfl (lv_room (Nat.le_of_ble_eq_true rfl)) d_S_drop_5 ⟨Nat.le_of_ble_eq_true rfl, Nat.le_of_ble_eq_true rfl⟩)) (fun r_1 hr_1 => ?_)
  subst hr_1
  refine b0_ne (tgt := 13) hx hb d_S_drop_8 (by decide) (fun c_2 => ?_) (fun c_2 => ?_)
  · obtain ⟨i, hi, rfl⟩ := ixB_of (by show k_cnt u < 2 ^ 31; omega) c_2
    have hi : i < k_cnt u := hi
    refine lv_aload_n hx hb d_S_drop_13 rfl (lv_at hl 0 rfl) ?_
    refine va_get (D := (dC, dI)) (ci := 3) (v := .ref (ca_q q)) (C := "SeatProofs") (T := F_S) (N := 6) hx hb hts (iu_S _) hown hK hP 0 rfl rfl 2 (by decide) (hts _ (List.mem_cons_of_mem _ iw_126)) (fun _ h9 => h9) rfl d_S_drop_14 ?_
    refine lv_iload_n hx hb d_S_drop_17 rfl (lv_at hl 1 rfl) ?_
    refine cq_v (va_runV (As := [.int (nI i)]) (rest := []) ⟨hx, hb, hml, hown, hts⟩ (c_Q_remove l dC dI q u _ i hi h1) (cwV 1 hts (good_up (good_V iw_315 iw_316 iw_317 iw_4 gg_Q_remove)) rfl rfl rfl (by decide +kernel) ⟨Nat.le_of_ble_eq_true rfl, Nat.le_of_ble_eq_true rfl⟩) (pv_Q [.int (nI i)] hN hK hP hD (ci := 2) (q0 := 3) rfl rfl) rfl rfl hl.1 rfl (lv_room (Nat.le_of_ble_eq_true rfl)) d_S_drop_18 ⟨Nat.le_of_ble_eq_true rfl, Nat.le_of_ble_eq_true rfl⟩) hD hS hA (fun z_4 H locs hr_3 hP hD hS => ?_)
    subst hr_3
    have hP : va_P (dC, dI) vwCl (wCx q (k_fu u) (k_re u) (k_nS u) (k_nV u) (k_opn u) (k_uns u) (k_dbl u) (k_lett u) (k_cnt (k_remR u i)) (k_lev u) (k_src u) (k_fr u) (k_e1 u) (k_e2 u) (k_ends u) (k_fal u) (k_ways u) (k_fls u) (k_fnd u) (k_pf (k_remR u i)) (k_pl (k_remR u i)) (k_pw (k_remR u i)) (k_pc (k_remR u i))) H := hP
    have hD : va_D (va_A (wC q u) s.heap.size) (wCx q (k_fu u) (k_re u) (k_nS u) (k_nV u) (k_opn u) (k_uns u) (k_dbl u) (k_lett u) (k_cnt (k_remR u i)) (k_lev u) (k_src u) (k_fr u) (k_e1 u) (k_e2 u) (k_ends u) (k_fal u) (k_ways u) (k_fls u) (k_fnd u) (k_pf (k_remR u i)) (k_pl (k_remR u i)) (k_pw (k_remR u i)) (k_pc (k_remR u i))) := hD
    refine lv_iconst (v := nI 1) hx hb d_S_drop_21 (by decide) ?_
    refine tp_i (bI true) (by decide) ?_
    exact W.zret hx hb hr (bI_narrow _) (fun t9 ht9 hW9 => ⟨⟨_, (k_mk (k_fu u) (k_re u) (k_nS u) (k_nV u) (k_opn u) (k_uns u) (k_dbl u) (k_lett u) (k_cnt (k_remR u i)) (k_lev u) (k_src u) (k_fr u) (k_e1 u) (k_e2 u) (k_ends u) (k_fal u) (k_ways u) (k_fls u) (k_fnd u) (k_pf (k_remR u i)) (k_pl (k_remR u i)) (k_pw (k_remR u i)) (k_pc (k_remR u i))), rfl, ⟨by rw [C_drop, if_neg (fun h => absurd (h.symm.trans c_2) (by decide))], by rw [C_drop, if_neg (fun h => absurd (h.symm.trans c_2) (by decide)), nI_clamp (by omega)]; first | done | rfl⟩, by rw [ht9]; exact hP, va_K.moved hW9.alike hK, hD⟩, hS.F ht9⟩) hS.2.2 d_S_drop_22
  · refine lv_iconst (v := nI 0) hx hb d_S_drop_11 (by decide) ?_
    refine tp_i (bI false) (by decide) ?_
    exact W.zret hx hb hr (bI_narrow _) (fun t9 ht9 hW9 => ⟨⟨_, u, rfl, ⟨by rw [C_drop, if_pos c_2], by rw [C_drop, if_pos c_2]⟩, by rw [ht9]; exact hP, va_K.moved hW9.alike hK, hD⟩, hS.F ht9⟩) hS.2.2 d_S_drop_12
set_option maxHeartbeats 4000000 in
set_option maxRecDepth 100000 in
theorem c_S_clear (l : Launch) (dC : Nat → ClassId) (dI : Nat → Nat → Nat) (q : CA) (u : CSt) (sz : Nat)  : Met l y_S_clear w_S_clear ({ frames := 1, cells := 0, slots := 0, locals := 21 }) (qPc (dC, dI) vwCl (tC q) (wC q u) sz [Value.ref (ca_o q)]) (va_Qv (fun z : CSt => ∃ g h, (∀ t, t < 16 → g t = 0) ∧ (∀ t, t < 16 → h t = nI 0) ∧ z = k_s_re (k_s_fu (k_s_cnt (k_s_fr (k_s_src (k_s_dbl (k_s_uns (k_s_opn (k_s_nV (k_s_nS u 0) 0) 0) 0) 0) g) h) 0) false) 0) (qB (dC, dI) vwCl (tC q) (wC q u) sz (wC q)) (va_A (wC q u) sz)) 0 0 (va_A (wC q u) sz) := by
  refine Met.ofW (cc := b_S_clear) (maxL := 1) (ret := none) (by decide) rfl ?_
  intro p e s m args below meth c s₁ B hml hv
  obtain ⟨rfl, hsz, hP, hK, hD0, hN⟩ := hv
  have hx := B.exec
  have hb := B.bytes
  have hr := B.returns
  have hts := atoms_spec (ws := w_S_clear) B.pre
  have hown : s.vm.findClass "SeatProofs" = some m.cls := findClass_of_methodNamed B.named
  have hlocks := B.notSynchronized
  subst hsz
  have hD := hD0.self (sz := s.heap.size)
  have hA : ∀ z : Nat, s.heap.size ≤ z → va_A (wC q u) s.heap.size z := fun z h => Or.inr h
  have hS : va_S (va_A (wC q u) s.heap.size) s.heap s.heap [] := va_S.rf
  have hl := lv_entry ([Value.ref (ca_o q)]) (n := 1) (Nat.le_of_ble_eq_true rfl)
  rw [lg_entry_eq]
  generalize (lg_sl ([Value.ref (ca_o q)]) ++ List.replicate (1 - (lg_sl ([Value.ref (ca_o q)])).length) Slot.unset).toArray = ls at hl ⊢
  have hl : lv_has ls 1 [(0, .ref (ca_o q))] := hl
  refine lv_aload_n hx hb d_S_clear_0 rfl (lv_at hl 0 rfl) ?_
  refine va_get (D := (dC, dI)) (ci := 3) (v := .ref (ca_p q)) (C := "SeatProofs") (T := F_S) (N := 6) hx hb hts (iu_S _) hown hK hP 0 rfl rfl 0 (by decide) (hts _ (List.mem_cons_of_mem _ iw_124)) (fun _ h9 => h9) rfl d_S_clear_1 ?_
  refine cq_v (va_runV (As := []) (rest := []) ⟨hx, hb, hml, hown, hts⟩ (c_P_empty l dC dI q u _) (cwV 0 hts (good_up (good_V iw_326 iw_327 iw_328 iw_2 gg_P_empty)) rfl rfl rfl (by decide +kernel) ⟨Nat.le_of_ble_eq_true rfl, Nat.le_of_ble_eq_true rfl⟩) (pv_Q [] hN hK hP hD (ci := 0) (q0 := 1) rfl rfl) rfl rfl hl.1 rfl (lv_room (Nat.le_of_ble_eq_true rfl)) d_S_clear_4 ⟨Nat.le_of_ble_eq_true rfl, Nat.le_of_ble_eq_true rfl⟩) hD hS hA (fun z_2 H locs hr_1 hP hD hS => ?_)
  obtain ⟨g9, h9, hg9, hh9, rfl⟩ := hr_1
  have hP : va_P (dC, dI) vwCl (wCx q (k_fu u) (k_re u) 0 0 0 0 0 (k_lett u) (k_cnt u) (k_lev u) g9 h9 (k_e1 u) (k_e2 u) (k_ends u) (k_fal u) (k_ways u) (k_fls u) (k_fnd u) (k_pf u) (k_pl u) (k_pw u) (k_pc u)) H := hP
  have hD : va_D (va_A (wC q u) s.heap.size) (wCx q (k_fu u) (k_re u) 0 0 0 0 0 (k_lett u) (k_cnt u) (k_lev u) g9 h9 (k_e1 u) (k_e2 u) (k_ends u) (k_fal u) (k_ways u) (k_fls u) (k_fnd u) (k_pf u) (k_pl u) (k_pw u) (k_pc u)) := hD
  refine lv_aload_n hx hb d_S_clear_7 rfl (lv_at hl 0 rfl) ?_
  refine va_get (D := (dC, dI)) (ci := 3) (v := .ref (ca_q q)) (C := "SeatProofs") (T := F_S) (N := 6) hx hb hts (iu_S _) hown hK hP 0 rfl rfl 2 (by decide) (hts _ (List.mem_cons_of_mem _ iw_126)) (fun _ h9 => h9) rfl d_S_clear_8 ?_
  refine cq_v (va_runV (As := []) (rest := []) ⟨hx, hb, hml, hown, hts⟩ (c_Q_empty l dC dI q (k_mk (k_fu u) (k_re u) 0 0 0 0 0 (k_lett u) (k_cnt u) (k_lev u) g9 h9 (k_e1 u) (k_e2 u) (k_ends u) (k_fal u) (k_ways u) (k_fls u) (k_fnd u) (k_pf u) (k_pl u) (k_pw u) (k_pc u)) _) (cwV 0 hts (good_up (good_V iw_147 iw_148 iw_149 iw_4 gg_Q_empty)) rfl rfl rfl (by decide +kernel) ⟨Nat.le_of_ble_eq_true rfl, Nat.le_of_ble_eq_true rfl⟩) (pv_Q [] hN hK hP hD (ci := 2) (q0 := 3) rfl rfl) rfl rfl hl.1 rfl (lv_room (Nat.le_of_ble_eq_true rfl)) d_S_clear_11 ⟨Nat.le_of_ble_eq_true rfl, Nat.le_of_ble_eq_true rfl⟩) hD hS hA (fun z_5 H locs hr_4 hP hD hS => ?_)
  subst hr_4
  have hP : va_P (dC, dI) vwCl (wCx q (k_fu u) (k_re u) 0 0 0 0 0 (k_lett u) 0 (k_lev u) g9 h9 (k_e1 u) (k_e2 u) (k_ends u) (k_fal u) (k_ways u) (k_fls u) (k_fnd u) (k_pf u) (k_pl u) (k_pw u) (k_pc u)) H := hP
  have hD : va_D (va_A (wC q u) s.heap.size) (wCx q (k_fu u) (k_re u) 0 0 0 0 0 (k_lett u) 0 (k_lev u) g9 h9 (k_e1 u) (k_e2 u) (k_ends u) (k_fal u) (k_ways u) (k_fls u) (k_fnd u) (k_pf u) (k_pl u) (k_pw u) (k_pc u)) := hD
  refine lv_aload_n hx hb d_S_clear_14 rfl (lv_at hl 0 rfl) ?_
  refine lv_iconst (v := nI 0) hx hb d_S_clear_15 (by decide) ?_
  refine tp_i (bI false) (by decide) ?_
  refine va_put (D := (dC, dI)) (ci := 3) (v := .int (bI false)) (ty := .boolean) (C := "SeatProofs") (T := F_S) (N := 6) hx hb hts (iu_S _) t_S t_S_ok n_S hown hK hP hD hS 0 rfl rfl 4 (by decide) (hts _ (List.mem_cons_of_mem _ iw_128)) (fun _ h9 => h9) rfl (by decide +kernel) (bI_narrow _) (bI_fits _) (Nat.le_of_ble_eq_true rfl) d_S_clear_16 (fun H locs hP hD hS => ?_)
  have hP : va_P (dC, dI) vwCl (wCx q false (k_re u) 0 0 0 0 0 (k_lett u) 0 (k_lev u) g9 h9 (k_e1 u) (k_e2 u) (k_ends u) (k_fal u) (k_ways u) (k_fls u) (k_fnd u) (k_pf u) (k_pl u) (k_pw u) (k_pc u)) H := hP
  have hD : va_D (va_A (wC q u) s.heap.size) (wCx q false (k_re u) 0 0 0 0 0 (k_lett u) 0 (k_lev u) g9 h9 (k_e1 u) (k_e2 u) (k_ends u) (k_fal u) (k_ways u) (k_fls u) (k_fnd u) (k_pf u) (k_pl u) (k_pw u) (k_pc u)) := hD
  refine lv_aload_n hx hb d_S_clear_19 rfl (lv_at hl 0 rfl) ?_
  refine lv_iconst (v := nI 0) hx hb d_S_clear_20 (by decide) ?_
  refine va_put (D := (dC, dI)) (ci := 3) (v := .int (nI 0)) (ty := .int) (C := "SeatProofs") (T := F_S) (N := 6) hx hb hts (iu_S _) t_S t_S_ok n_S hown hK hP hD hS 0 rfl rfl 5 (by decide) (hts _ (List.mem_cons_of_mem _ iw_129)) (fun _ h9 => h9) rfl (by decide +kernel) rfl rfl (Nat.le_of_ble_eq_true rfl) d_S_clear_21 (fun H locs hP hD hS => ?_)
  have hP : va_P (dC, dI) vwCl (wCx q false 0 0 0 0 0 0 (k_lett u) 0 (k_lev u) g9 h9 (k_e1 u) (k_e2 u) (k_ends u) (k_fal u) (k_ways u) (k_fls u) (k_fnd u) (k_pf u) (k_pl u) (k_pw u) (k_pc u)) H := hP
  have hD : va_D (va_A (wC q u) s.heap.size) (wCx q false 0 0 0 0 0 0 (k_lett u) 0 (k_lev u) g9 h9 (k_e1 u) (k_e2 u) (k_ends u) (k_fal u) (k_ways u) (k_fls u) (k_fnd u) (k_pf u) (k_pl u) (k_pw u) (k_pc u)) := hD
  exact W.vret hx hb hr (fun t9 ht9 hW9 => ⟨⟨(k_mk false 0 0 0 0 0 0 (k_lett u) 0 (k_lev u) g9 h9 (k_e1 u) (k_e2 u) (k_ends u) (k_fal u) (k_ways u) (k_fls u) (k_fnd u) (k_pf u) (k_pl u) (k_pw u) (k_pc u)), rfl, ⟨g9, h9, hg9, hh9, rfl⟩, by rw [ht9]; exact hP, va_K.moved hW9.alike hK, hD⟩, hS.F ht9⟩) hS.2.2 d_S_clear_24
