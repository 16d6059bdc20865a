set_option maxHeartbeats 4000000 in
set_option maxRecDepth 100000 in
theorem c_P_rowsDue0 (l : Launch) (dC : Nat → ClassId) (dI : Nat → Nat → Nat) (q : CA) (u : CSt) (h1 : ∀ a, a < 16 → k_src u a = 0) : Met l y_P_rowsDue w_P_rowsDue ({ frames := 0, cells := 0, slots := 0, locals := 0 }) (sPc (dC, dI) vwCl (tC q) (wC q u) [Value.ref (ca_p q)]) (vp_Si (fun r : Int32 => r = nI 0)) 0 0 (fun _ => False) := by
  refine Met.ofW (cc := b_P_rowsDue) (maxL := 3) (ret := (some .int)) (by decide) rfl ?_
  intro p e s m args below meth c s₁ B hml hv
  obtain ⟨rfl, hP, hK, hN⟩ := hv
  have hx := B.exec
  have hb := B.bytes
  have hr := B.returns
  have hts := atoms_spec (ws := w_P_rowsDue) B.pre
  have hown : s.vm.findClass "SeatProofs$Plant" = some m.cls := findClass_of_methodNamed B.named
  have hlocks := B.notSynchronized
  have hl := lv_entry ([Value.ref (ca_p q)]) (n := 3) (Nat.le_of_ble_eq_true rfl)
  rw [lg_entry_eq]
  generalize (lg_sl ([Value.ref (ca_p q)]) ++ List.replicate (3 - (lg_sl ([Value.ref (ca_p q)])).length) Slot.unset).toArray = ls at hl ⊢
  have hl : lv_has ls 3 [(0, .ref (ca_p q))] := hl
  refine lv_iconst (v := nI 0) hx hb d_P_rowsDue_0 (by decide) ?_
  refine lv_istore_n (lv' := [(1, .int (nI 0)), (0, .ref (ca_p q))]) hx hb d_P_rowsDue_1 rfl hl (by decide) rfl (fun ls hl => ?_)
  refine lv_iconst (v := nI 1) hx hb d_P_rowsDue_2 (by decide) ?_
  refine lv_istore_n (lv' := [(2, .int (nI 1)), (1, .int (nI 0)), (0, .ref (ca_p q))]) hx hb d_P_rowsDue_3 rfl hl (by decide) rfl (fun ls hl => ?_)
  have L4 : ∀ (n4 : Nat) (i : Nat), (1 ≤ i) → (i ≤ 16) → 16 - i < n4 → ∀ (ls : Array Slot), lv_has ls 3 [(0, .ref (ca_p q)), (1, .int (nI 0)), (2, .int (nI i))] → W p l e (headSpec w_P_rowsDue ({ frames := 0, cells := 0, slots := 0, locals := 0 })).room s m [Value.ref (ca_p q)].toArray below meth c s.heap [] 0 0 (MQ below (vp_Si (fun r : Int32 => r = nI 0)) [Value.ref (ca_p q)].toArray s 0 0 (fun _ => False)) (F0 m 4 ls []) := by
    intro n4
    induction n4 with
    | zero => intro i hi4 hi4b hm; exact absurd hm (Nat.not_lt_zero _)
    | succ n4 ih4 =>
      intro i hi4 hi4b hm4 ls hl
      refine lv_iload_n hx hb d_P_rowsDue_4 rfl (lv_at hl 2 rfl) ?_
      refine lv_bipush (v := nI 16) hx hb d_P_rowsDue_5 (by decide) ?_
      refine nv_ge (tgt := 30) hx hb d_P_rowsDue_7 (by decide) (by omega) (by omega) (fun c_1 => ?_) (fun c_1 => ?_)
      · refine lv_iconst (v := nI 1) hx hb d_P_rowsDue_30 (by decide) ?_
        refine lv_aload_n hx hb d_P_rowsDue_31 rfl (lv_at hl 0 rfl) ?_
        refine va_get (D := (dC, dI)) (ci := 0) (v := .int (nI (k_nV u))) (C := "SeatProofs$Plant") (T := F_P) (N := 12) hx hb hts (iu_P _) hown hK hP 1 rfl rfl 1 (by decide) (hts _ (List.mem_cons_of_mem _ iw_29)) (fun _ h9 => h9) rfl d_P_rowsDue_32 ?_
        refine lv_iadd hx hb d_P_rowsDue_35 ?_
        refine tp_i (nI (1 + k_nV u)) (nI_add _ _) ?_
        refine lv_iload_n hx hb d_P_rowsDue_36 rfl (lv_at hl 1 rfl) ?_
        refine lv_imul hx hb d_P_rowsDue_37 ?_
        refine tp_i (nI ((1 + k_nV u) * 0)) (pk_mul _ _) ?_
        exact W.iret hx hb hr (fun t9 ht9 _ => ⟨_, rfl, (by rw [Nat.mul_zero]), ht9⟩) (fun _ h => by cases h) d_P_rowsDue_38
      · refine lv_aload_n hx hb d_P_rowsDue_10 rfl (lv_at hl 0 rfl) ?_
        refine va_get (D := (dC, dI)) (ci := 0) (v := .ref (ca_src q)) (C := "SeatProofs$Plant") (T := F_P) (N := 12) hx hb hts (iu_P _) hown hK hP 1 rfl rfl 3 (by decide) (hts _ (List.mem_cons_of_mem _ iw_33)) (fun _ h9 => h9) rfl d_P_rowsDue_11 ?_
        refine lv_iload_n hx hb d_P_rowsDue_14 rfl (lv_at hl 2 rfl) ?_
        refine ld_l hx hb hK hP 5 1 rfl rfl (k_src u i) (by omega) (by decide) rfl d_P_rowsDue_15 ?_
        refine lv_lconst (v := 0) hx hb d_P_rowsDue_16 (by decide) ?_
        refine W.lcmp hx hb d_P_rowsDue_17 ?_
        refine l0_eq (tgt := 24) hx hb d_P_rowsDue_18 (by decide) (fun c_2 => ?_) (fun c_2 => ?_)
        · refine lv_iinc (v := nI (i + 1)) (lv' := [(2, .int (nI (i + 1))), (0, .ref (ca_p q)), (1, .int (nI 0))]) hx hb d_P_rowsDue_24 hl (k := 2) rfl (nI_1 _) (by decide) rfl (fun ls hl => ?_)
          refine lv_goto (tgt := 4) hx hb d_P_rowsDue_27 (by decide) ?_
          exact ih4 (i + 1) (by omega) (by omega) (by omega) ls (lv_sub hl [1, 2, 0] rfl)
        · exact absurd (h1 i (by omega)) c_2
  exact L4 _ 1 (by omega) (by omega) (Nat.lt_succ_self _) ls (lv_sub hl [2, 1, 0] rfl)
set_option maxHeartbeats 4000000 in
set_option maxRecDepth 100000 in
theorem c_S_check0 (l : Launch) (dC : Nat → ClassId) (dI : Nat → Nat → Nat) (q : CA) (u : CSt) (sz : Nat) (h0 : k_cnt u = 0) (h1 : ∀ a, a < 16 → k_src u a = 0) : Met l y_S_check w_S_check ({ frames := 4, cells := 0, slots := 0, locals := 96 }) (qPc (dC, dI) vwCl (tC q) (wC q u) sz [Value.ref (ca_o q)]) (va_Qi (fun (r : Int32) (z : CSt) => r = nI 0 ∧ ∃ (L : Int64) (Wy fl : Nat → Int64), z = k_s_fls (k_s_ways (k_s_lett u L) Wy) fl) (qB (dC, dI) vwCl (tC q) (wC q u) sz (wC q)) (va_A (wC q u) sz)) 0 0 (va_A (wC q u) sz) := by
  refine Met.ofW (cc := b_S_check) (maxL := 3) (ret := (some .int)) (by decide) rfl ?_
  intro p e s m args below meth c s₁ B hml hv
  obtain ⟨rfl, hsz, hP, hK, hD0, hN⟩ := hv
  have hx := B.exec
  have hb := B.bytes
  have hr := B.returns
  have hts := atoms_spec (ws := w_S_check) B.pre
  have hown : s.vm.findClass "SeatProofs" = some m.cls := findClass_of_methodNamed B.named
  have hlocks := B.notSynchronized
  subst hsz
  have hD := hD0.self (sz := s.heap.size)
  have hA : ∀ z : Nat, s.heap.size ≤ z → va_A (wC q u) s.heap.size z := fun z h => Or.inr h
  have hS : va_S (va_A (wC q u) s.heap.size) s.heap s.heap [] := va_S.rf
  have hl := lv_entry ([Value.ref (ca_o q)]) (n := 3) (Nat.le_of_ble_eq_true rfl)
  rw [lg_entry_eq]
  generalize (lg_sl ([Value.ref (ca_o q)]) ++ List.replicate (3 - (lg_sl ([Value.ref (ca_o q)])).length) Slot.unset).toArray = ls at hl ⊢
  have hl : lv_has ls 3 [(0, .ref (ca_o q))] := hl
  refine lv_iconst (v := (-1)) hx hb d_S_check_0 (by decide) ?_
  refine lv_istore_n (lv' := [(1, .int ((-1))), (0, .ref (ca_o q))]) hx hb d_S_check_1 rfl hl (by decide) rfl (fun ls hl => ?_)
  refine lv_iconst (v := nI 0) hx hb d_S_check_2 (by decide) ?_
  refine lv_istore_n (lv' := [(2, .int (nI 0)), (1, .int ((-1))), (0, .ref (ca_o q))]) hx hb d_S_check_3 rfl hl (by decide) rfl (fun ls hl => ?_)
  have L4 : ∀ (n4 : Nat) (k : Nat) (la : Int32) (L : Int64) (Wy : Nat → Int64) (fl : Nat → Int64), (k ≤ k_cnt u) → k_cnt u - k < n4 → ∀ (H : Heap) (locs : List Loc) (ls : Array Slot), va_P (dC, dI) vwCl (wCx q (k_fu u) (k_re u) (k_nS u) (k_nV u) (k_opn u) (k_uns u) (k_dbl u) L (k_cnt u) (k_lev u) (k_src u) (k_fr u) (k_e1 u) (k_e2 u) (k_ends u) (k_fal u) Wy fl (k_fnd u) (k_pf u) (k_pl u) (k_pw u) (k_pc u)) H → va_D (va_A (wC q u) s.heap.size) (wCx q (k_fu u) (k_re u) (k_nS u) (k_nV u) (k_opn u) (k_uns u) (k_dbl u) L (k_cnt u) (k_lev u) (k_src u) (k_fr u) (k_e1 u) (k_e2 u) (k_ends u) (k_fal u) Wy fl (k_fnd u) (k_pf u) (k_pl u) (k_pw u) (k_pc u)) → va_S (va_A (wC q u) s.heap.size) s.heap H locs → lv_has ls 3 [(0, .ref (ca_o q)), (1, .int la), (2, .int (nI k))] → W p l e (headSpec w_S_check ({ frames := 4, cells := 0, slots := 0, locals := 96 })).room s m [Value.ref (ca_o q)].toArray below meth c H locs 0 0 (MQ below (va_Qi (fun (r : Int32) (z : CSt) => r = nI 0 ∧ ∃ (L : Int64) (Wy fl : Nat → Int64), z = k_s_fls (k_s_ways (k_s_lett u L) Wy) fl) (qB (dC, dI) vwCl (tC q) (wC q u) s.heap.size (wC q)) (va_A (wC q u) s.heap.size)) [Value.ref (ca_o q)].toArray s 0 0 (va_A (wC q u) s.heap.size)) (F0 m 4 ls []) := by
    intro n4
    induction n4 with
    | zero => intro k la L Wy fl hk4 hm; exact absurd hm (Nat.not_lt_zero _)
    | succ n4 ih4 =>
      intro k la L Wy fl hk4 hm4 H locs ls hP hD hS hl
      refine lv_iload_n hx hb d_S_check_4 rfl (lv_at hl 2 rfl) ?_
      refine lv_aload_n hx hb d_S_check_5 rfl (lv_at hl 0 rfl) ?_
      refine va_get (D := (dC, dI)) (ci := 3) (v := .ref (ca_q q)) (C := "SeatProofs") (T := F_S) (N := 6) hx hb hts (iu_S _) hown hK hP 0 rfl rfl 2 (by decide) (hts _ (List.mem_cons_of_mem _ iw_126)) (fun _ h9 => h9) rfl d_S_check_6 ?_
      refine va_getN (D := (dC, dI)) (ci := 2) (v := .int (nI (k_cnt u))) (C := "SeatProofs$Proof") (T := F_Q) (N := 5) hx hb hts (iu_Q _) hown hK hP 3 rfl rfl 0 (by decide) (NW.use hN in_104) (fun _ h9 => h9) rfl d_S_check_9 ?_
      refine nv_ge (tgt := 71) hx hb d_S_check_12 (by decide) (by omega) (by omega) (fun c_1 => ?_) (fun c_1 => ?_)
      · refine lv_aload_n hx hb d_S_check_71 rfl (lv_at hl 0 rfl) ?_
        refine va_get (D := (dC, dI)) (ci := 3) (v := .ref (ca_q q)) (C := "SeatProofs") (T := F_S) (N := 6) hx hb hts (iu_S _) hown hK hP 0 rfl rfl 2 (by decide) (hts _ (List.mem_cons_of_mem _ iw_126)) (fun _ h9 => h9) rfl d_S_check_72 ?_
        refine va_getN (D := (dC, dI)) (ci := 2) (v := .int (nI (k_cnt u))) (C := "SeatProofs$Proof") (T := F_Q) (N := 5) hx hb hts (iu_Q _) hown hK hP 3 rfl rfl 0 (by decide) (NW.use hN in_104) (fun _ h9 => h9) rfl d_S_check_75 ?_
        refine lv_aload_n hx hb d_S_check_78 rfl (lv_at hl 0 rfl) ?_
        refine va_get (D := (dC, dI)) (ci := 3) (v := .ref (ca_p q)) (C := "SeatProofs") (T := F_S) (N := 6) hx hb hts (iu_S _) hown hK hP 0 rfl rfl 0 (by decide) (hts _ (List.mem_cons_of_mem _ iw_124)) (fun _ h9 => h9) rfl d_S_check_79 ?_
        refine vp_callSi (va_Run.run (va_runV (As := []) (rest := [.int (nI (k_cnt u))]) ⟨hx, hb, hml, hown, hts⟩ (c_P_rowsDue0 l dC dI q (k_mk (k_fu u) (k_re u) (k_nS u) (k_nV u) (k_opn u) (k_uns u) (k_dbl u) L (k_cnt u) (k_lev u) (k_src u) (k_fr u) (k_e1 u) (k_e2 u) (k_ends u) (k_fal u) Wy fl (k_fnd u) (k_pf u) (k_pl u) (k_pw u) (k_pc u)) h1) (cwV 0 hts (good_up (good_V iw_303 iw_304 iw_305 iw_2 gg_P_rowsDue)) rfl rfl rfl (by decide +kernel) ⟨Nat.le_of_ble_eq_true rfl, Nat.le_of_ble_eq_true rfl⟩) (pv_S [] hN hK hP (ci := 0) (q0 := 1) rfl rfl) rfl rfl hl.1 rfl (lv_room (Nat.le_of_ble_eq_true rfl)) d_S_check_82 ⟨Nat.le_of_ble_eq_true rfl, Nat.le_of_ble_eq_true rfl⟩)) (fun r_2 hr_2 => ?_)
        subst hr_2
        refine nv_ge (tgt := 100) hx hb d_S_check_85 (by decide) (by omega) (by omega) (fun c_3 => ?_) (fun c_3 => ?_)
        · refine lv_iconst (v := nI 0) hx hb d_S_check_100 (by decide) ?_
          exact W.iret hx hb hr (fun t9 ht9 hW9 => ⟨⟨_, (k_mk (k_fu u) (k_re u) (k_nS u) (k_nV u) (k_opn u) (k_uns u) (k_dbl u) L (k_cnt u) (k_lev u) (k_src u) (k_fr u) (k_e1 u) (k_e2 u) (k_ends u) (k_fal u) Wy fl (k_fnd u) (k_pf u) (k_pl u) (k_pw u) (k_pc u)), rfl, ⟨rfl, L, Wy, fl, rfl⟩, by rw [ht9]; exact hP, va_K.moved hW9.alike hK, hD⟩, hS.F ht9⟩) hS.2.2 d_S_check_101
        · exact (show False by omega).elim
      · exact (show False by omega).elim
  exact L4 _ 0 ((-1)) (k_lett u) (k_ways u) (k_fls u) (Nat.zero_le _) (Nat.lt_succ_self _) _ _ ls hP hD hS (lv_sub hl [2, 1, 0] rfl)
