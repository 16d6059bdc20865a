set_option maxHeartbeats 4000000 in
set_option maxRecDepth 100000 in
theorem c_S_remakeTouched (l : Launch) (dC : Nat → ClassId) (dI : Nat → Nat → Nat) (q : CA) (u : CSt) (sz : Nat) (x : Nat) (v : MSt) (hc : CP u v) (hx9 : x < 64) (h0 : k_cnt u ≤ 975) (b1 : ∀ j, k_pf u j < 65) (b2 : ∀ j, k_pl u j < 16) (hpf : ∀ j, j < k_cnt u → k_pf u j ≤ m_nV v) : Met l y_S_remakeTouched w_S_remakeTouched ({ frames := 4, cells := 0, slots := 0, locals := 87 }) (qPc (dC, dI) vwCl (tC q) (wC q u) sz [Value.ref (ca_o q), Value.int (nI x)]) (va_Qi (fun (r : Int32) (z : CSt) => ∃ (g3 g4 : Nat → Int64) (L : Int64) (Wy : Nat → Int64), r = nI (pcn (kt u x) (k_cnt u)) ∧ (∀ j, g3 j = if j < k_cnt u ∧ kt u x j = true then mF v (k_pl u j) (k_pf u j) else k_pw u j) ∧ (∀ j, g4 j = if j < k_cnt u ∧ kt u x j = true then mC v (mF v (k_pl u j) (k_pf u j)) (k_pf u j) else k_pc u j) ∧ z = k_s_ways (k_s_lett (k_s_pc (k_s_pw u g3) g4) L) Wy) (qB (dC, dI) vwCl (tC q) (wC q u) sz (wC q)) (va_A (wC q u) sz)) 0 0 (va_A (wC q u) sz) := by
  refine Met.ofW (cc := b_S_remakeTouched) (maxL := 5) (ret := (some .int)) (by decide) rfl ?_
  intro p e s m args below meth c s₁ B hml hv
  obtain ⟨rfl, hsz, hP, hK, hD0, hN⟩ := hv
  have hx := B.exec
  have hb := B.bytes
  have hr := B.returns
  have hts := atoms_spec (ws := w_S_remakeTouched) B.pre
  have hown : s.vm.findClass "SeatProofs" = some m.cls := findClass_of_methodNamed B.named
  have hlocks := B.notSynchronized
  subst hsz
  have hD := hD0.self (sz := s.heap.size)
  have hA : ∀ z : Nat, s.heap.size ≤ z → va_A (wC q u) s.heap.size z := fun z h => Or.inr h
  have hS : va_S (va_A (wC q u) s.heap.size) s.heap s.heap [] := va_S.rf
  have hl := lv_entry ([Value.ref (ca_o q), Value.int (nI x)]) (n := 5) (Nat.le_of_ble_eq_true rfl)
  rw [lg_entry_eq]
  generalize (lg_sl ([Value.ref (ca_o q), Value.int (nI x)]) ++ List.replicate (5 - (lg_sl ([Value.ref (ca_o q), Value.int (nI x)])).length) Slot.unset).toArray = ls at hl ⊢
  have hl : lv_has ls 5 [(0, .ref (ca_o q)), (1, .int (nI x))] := hl
  obtain ⟨c1, c2, c3, c4, c5, c6, c7, c8, c9, c10, c11, c12, c13, c14, c15⟩ := id hc
  have w1 := c1.1
  have w2 := c1.2.1
  refine lv_iconst (v := (-1)) hx hb d_S_remakeTouched_0 (by decide) ?_
  refine lv_istore_n (lv' := [(2, .int ((-1))), (0, .ref (ca_o q)), (1, .int (nI x))]) hx hb d_S_remakeTouched_1 rfl hl (by decide) rfl (fun ls hl => ?_)
  refine lv_iconst (v := nI 0) hx hb d_S_remakeTouched_2 (by decide) ?_
  refine lv_istore_n (lv' := [(3, .int (nI 0)), (2, .int ((-1))), (0, .ref (ca_o q)), (1, .int (nI x))]) hx hb d_S_remakeTouched_3 rfl hl (by decide) rfl (fun ls hl => ?_)
  refine lv_iconst (v := nI 0) hx hb d_S_remakeTouched_4 (by decide) ?_
  refine lv_istore (lv' := [(4, .int (nI 0)), (3, .int (nI 0)), (2, .int ((-1))), (0, .ref (ca_o q)), (1, .int (nI x))]) hx hb d_S_remakeTouched_5 hl (by decide) rfl (fun ls hl => ?_)
  have L7 : ∀ (n7 : Nat) (k : Nat) (c9 : Nat) (la : Int32) (g3 : Nat → Int64) (g4 : Nat → Int64) (L : Int64) (Wy : Nat → Int64), (k ≤ k_cnt u) → (∀ j, g3 j = if j < k ∧ kt u x j = true then mF v (k_pl u j) (k_pf u j) else k_pw u j) → (∀ j, g4 j = if j < k ∧ kt u x j = true then mC v (mF v (k_pl u j) (k_pf u j)) (k_pf u j) else k_pc u j) → (c9 = pcn (kt u x) k) → (LaQ (k_mk (k_fu u) (k_re u) (k_nS u) (k_nV u) (k_opn u) (k_uns u) (k_dbl u) L (k_cnt u) (k_lev u) (k_src u) (k_fr u) (k_e1 u) (k_e2 u) (k_ends u) (k_fal u) Wy (k_fls u) (k_fnd u) (k_pf u) (k_pl u) g3 g4) v la) → k_cnt u - k < n7 → ∀ (H : Heap) (locs : List Loc) (ls : Array Slot), va_P (dC, dI) vwCl (wCx q (k_fu u) (k_re u) (k_nS u) (k_nV u) (k_opn u) (k_uns u) (k_dbl u) L (k_cnt u) (k_lev u) (k_src u) (k_fr u) (k_e1 u) (k_e2 u) (k_ends u) (k_fal u) Wy (k_fls u) (k_fnd u) (k_pf u) (k_pl u) g3 g4) H → va_D (va_A (wC q u) s.heap.size) (wCx q (k_fu u) (k_re u) (k_nS u) (k_nV u) (k_opn u) (k_uns u) (k_dbl u) L (k_cnt u) (k_lev u) (k_src u) (k_fr u) (k_e1 u) (k_e2 u) (k_ends u) (k_fal u) Wy (k_fls u) (k_fnd u) (k_pf u) (k_pl u) g3 g4) → va_S (va_A (wC q u) s.heap.size) s.heap H locs → lv_has ls 5 [(0, .ref (ca_o q)), (1, .int (nI x)), (2, .int la), (3, .int (nI c9)), (4, .int (nI k))] → W p l e (headSpec w_S_remakeTouched ({ frames := 4, cells := 0, slots := 0, locals := 87 })).room s m [Value.ref (ca_o q), Value.int (nI x)].toArray below meth c H locs 0 0 (MQ below (va_Qi (fun (r : Int32) (z : CSt) => ∃ (g3 g4 : Nat → Int64) (L : Int64) (Wy : Nat → Int64), r = nI (pcn (kt u x) (k_cnt u)) ∧ (∀ j, g3 j = if j < k_cnt u ∧ kt u x j = true then mF v (k_pl u j) (k_pf u j) else k_pw u j) ∧ (∀ j, g4 j = if j < k_cnt u ∧ kt u x j = true then mC v (mF v (k_pl u j) (k_pf u j)) (k_pf u j) else k_pc u j) ∧ z = k_s_ways (k_s_lett (k_s_pc (k_s_pw u g3) g4) L) Wy) (qB (dC, dI) vwCl (tC q) (wC q u) s.heap.size (wC q)) (va_A (wC q u) s.heap.size)) [Value.ref (ca_o q), Value.int (nI x)].toArray s 0 0 (va_A (wC q u) s.heap.size)) (F0 m 7 ls []) := by
    intro n7
    induction n7 with
    | zero => intro k c9 la g3 g4 L Wy hk7 h3 h4 hc7 hla hm; exact absurd hm (Nat.not_lt_zero _)
    | succ n7 ih7 =>
      intro k c9 la g3 g4 L Wy hk7 h3 h4 hc7 hla hm7 H locs ls hP hD hS hl
      refine lv_iload hx hb d_S_remakeTouched_7 (lv_at hl 4 rfl) ?_
      refine lv_aload_n hx hb d_S_remakeTouched_9 rfl (lv_at hl 0 rfl) ?_
      refine va_get (D := (dC, dI)) (ci := 3) (v := .ref (ca_q q)) (C := "SeatProofs") (T := F_S) (N := 6) hx hb hts (iu_S _) hown hK hP 0 rfl rfl 2 (by decide) (hts _ (List.mem_cons_of_mem _ iw_126)) (fun _ h9 => h9) rfl d_S_remakeTouched_10 ?_
      refine va_getN (D := (dC, dI)) (ci := 2) (v := .int (nI (k_cnt u))) (C := "SeatProofs$Proof") (T := F_Q) (N := 5) hx hb hts (iu_Q _) hown hK hP 3 rfl rfl 0 (by decide) (NW.use hN in_104) (fun _ h9 => h9) rfl d_S_remakeTouched_13 ?_
      refine nv_ge (tgt := 125) hx hb d_S_remakeTouched_16 (by decide) (by omega) (by omega) (fun c_1 => ?_) (fun c_1 => ?_)
      · refine lv_iload_n hx hb d_S_remakeTouched_125 rfl (lv_at hl 3 rfl) ?_
        exact W.iret hx hb hr (fun t9 ht9 hW9 => ⟨⟨_, (k_mk (k_fu u) (k_re u) (k_nS u) (k_nV u) (k_opn u) (k_uns u) (k_dbl u) L (k_cnt u) (k_lev u) (k_src u) (k_fr u) (k_e1 u) (k_e2 u) (k_ends u) (k_fal u) Wy (k_fls u) (k_fnd u) (k_pf u) (k_pl u) g3 g4), rfl, ⟨g3, g4, L, Wy, by rw [hc7, show k = k_cnt u from by omega], fun j => by rw [h3 j, show k = k_cnt u from by omega], fun j => by rw [h4 j, show k = k_cnt u from by omega], rfl⟩, by rw [ht9]; exact hP, va_K.moved hW9.alike hK, hD⟩, hS.F ht9⟩) hS.2.2 d_S_remakeTouched_126
      · refine lv_aload_n hx hb d_S_remakeTouched_19 rfl (lv_at hl 0 rfl) ?_
        refine lv_iload hx hb d_S_remakeTouched_20 (lv_at hl 4 rfl) ?_
        refine lv_iload_n hx hb d_S_remakeTouched_22 rfl (lv_at hl 1 rfl) ?_
        refine vp_callSi (va_Run.run (va_runV (As := [.int (nI k), .int (nI x)]) (rest := []) ⟨hx, hb, hml, hown, hts⟩ (c_S_isTouched l dC dI q (k_mk (k_fu u) (k_re u) (k_nS u) (k_nV u) (k_opn u) (k_uns u) (k_dbl u) L (k_cnt u) (k_lev u) (k_src u) (k_fr u) (k_e1 u) (k_e2 u) (k_ends u) (k_fal u) Wy (k_fls u) (k_fnd u) (k_pf u) (k_pl u) g3 g4) k x (by omega) hx9 c13 c14 b1) (cwV 2 hts (good_up (good_V iw_413 iw_415 ip_7 iw_1 gg_S_isTouched)) rfl rfl rfl (by decide +kernel) ⟨Nat.le_of_ble_eq_true rfl, Nat.le_of_ble_eq_true rfl⟩) (pv_S [.int (nI k), .int (nI x)] hN hK hP (ci := 3) (q0 := 0) rfl rfl) rfl rfl hl.1 rfl (lv_room (Nat.le_of_ble_eq_true rfl)) d_S_remakeTouched_23 ⟨Nat.le_of_ble_eq_true rfl, Nat.le_of_ble_eq_true rfl⟩)) (fun r_2 hr_2 => ?_)
        subst hr_2
        refine b0_eq (tgt := 119) hx hb d_S_remakeTouched_26 (by decide) (fun c_3 => ?_) (fun c_3 => ?_)
        · have hktf : kt u x k = false := (kt_cg (u := u) (U := (k_mk (k_fu u) (k_re u) (k_nS u) (k_nV u) (k_opn u) (k_uns u) (k_dbl u) L (k_cnt u) (k_lev u) (k_src u) (k_fr u) (k_e1 u) (k_e2 u) (k_ends u) (k_fal u) Wy (k_fls u) (k_fnd u) (k_pf u) (k_pl u) g3 g4)) rfl (up_at h3) rfl rfl).symm.trans c_3
          refine lv_iinc (v := nI (k + 1)) (lv' := [(4, .int (nI (k + 1))), (0, .ref (ca_o q)), (1, .int (nI x)), (2, .int la), (3, .int (nI c9))]) hx hb d_S_remakeTouched_119 hl (k := 4) rfl (nI_1 _) (by decide) rfl (fun ls hl => ?_)
          refine lv_goto (tgt := 7) hx hb d_S_remakeTouched_122 (by decide) ?_
          exact ih7 (k + 1) c9 la g3 g4 L Wy (by omega) (up_no (F := fun j => mF v (k_pl u j) (k_pf u j)) h3 hktf) (up_no (F := fun j => mC v (mF v (k_pl u j) (k_pf u j)) (k_pf u j)) h4 hktf) (by rw [pcn_sf hktf]; exact hc7) hla (by omega) _ _ ls hP hD hS (lv_sub hl [1, 2, 3, 4, 0] rfl)
        · have hkt : kt u x k = true := (kt_cg (u := u) (U := (k_mk (k_fu u) (k_re u) (k_nS u) (k_nV u) (k_opn u) (k_uns u) (k_dbl u) L (k_cnt u) (k_lev u) (k_src u) (k_fr u) (k_e1 u) (k_e2 u) (k_ends u) (k_fal u) Wy (k_fls u) (k_fnd u) (k_pf u) (k_pl u) g3 g4)) rfl (up_at h3) rfl rfl).symm.trans c_3
          have L62 : ∀ (L62 : Int64) (W62 : Nat → Int64), (Laid (k_mk (k_fu u) (k_re u) (k_nS u) (k_nV u) (k_opn u) (k_uns u) (k_dbl u) L62 (k_cnt u) (k_lev u) (k_src u) (k_fr u) (k_e1 u) (k_e2 u) (k_ends u) (k_fal u) W62 (k_fls u) (k_fnd u) (k_pf u) (k_pl u) g3 g4) v (k_pf u k)) → ∀ (H : Heap) (locs : List Loc) (ls : Array Slot), va_P (dC, dI) vwCl (wCx q (k_fu u) (k_re u) (k_nS u) (k_nV u) (k_opn u) (k_uns u) (k_dbl u) L62 (k_cnt u) (k_lev u) (k_src u) (k_fr u) (k_e1 u) (k_e2 u) (k_ends u) (k_fal u) W62 (k_fls u) (k_fnd u) (k_pf u) (k_pl u) g3 g4) H → va_D (va_A (wC q u) s.heap.size) (wCx q (k_fu u) (k_re u) (k_nS u) (k_nV u) (k_opn u) (k_uns u) (k_dbl u) L62 (k_cnt u) (k_lev u) (k_src u) (k_fr u) (k_e1 u) (k_e2 u) (k_ends u) (k_fal u) W62 (k_fls u) (k_fnd u) (k_pf u) (k_pl u) g3 g4) → va_S (va_A (wC q u) s.heap.size) s.heap H locs → lv_has ls 5 [(0, .ref (ca_o q)), (1, .int (nI x)), (2, .int (nI (k_pf u k))), (3, .int (nI c9)), (4, .int (nI k))] → W p l e (headSpec w_S_remakeTouched ({ frames := 4, cells := 0, slots := 0, locals := 87 })).room s m [Value.ref (ca_o q), Value.int (nI x)].toArray below meth c H locs 0 0 (MQ below (va_Qi (fun (r : Int32) (z : CSt) => ∃ (g3 g4 : Nat → Int64) (L : Int64) (Wy : Nat → Int64), r = nI (pcn (kt u x) (k_cnt u)) ∧ (∀ j, g3 j = if j < k_cnt u ∧ kt u x j = true then mF v (k_pl u j) (k_pf u j) else k_pw u j) ∧ (∀ j, g4 j = if j < k_cnt u ∧ kt u x j = true then mC v (mF v (k_pl u j) (k_pf u j)) (k_pf u j) else k_pc u j) ∧ z = k_s_ways (k_s_lett (k_s_pc (k_s_pw u g3) g4) L) Wy) (qB (dC, dI) vwCl (tC q) (wC q u) s.heap.size (wC q)) (va_A (wC q u) s.heap.size)) [Value.ref (ca_o q), Value.int (nI x)].toArray s 0 0 (va_A (wC q u) s.heap.size)) (F0 m 62 ls []) := by
            intro L62 W62 hlaid62 H locs ls hP hD hS hl
            refine lv_aload_n hx hb d_S_remakeTouched_62 rfl (lv_at hl 0 rfl) ?_
            refine va_get (D := (dC, dI)) (ci := 3) (v := .ref (ca_q q)) (C := "SeatProofs") (T := F_S) (N := 6) hx hb hts (iu_S _) hown hK hP 0 rfl rfl 2 (by decide) (hts _ (List.mem_cons_of_mem _ iw_126)) (fun _ h9 => h9) rfl d_S_remakeTouched_63 ?_
            refine va_getN (D := (dC, dI)) (ci := 2) (v := .ref (ca_pw q)) (C := "SeatProofs$Proof") (T := F_Q) (N := 5) hx hb hts (iu_Q _) hown hK hP 3 rfl rfl 3 (by decide) (NW.use hN in_110) (fun _ h9 => h9) rfl d_S_remakeTouched_66 ?_
            refine lv_iload hx hb d_S_remakeTouched_69 (lv_at hl 4 rfl) ?_
            refine lv_aload_n hx hb d_S_remakeTouched_71 rfl (lv_at hl 0 rfl) ?_
            refine va_get (D := (dC, dI)) (ci := 3) (v := .ref (ca_f q)) (C := "SeatProofs") (T := F_S) (N := 6) hx hb hts (iu_S _) hown hK hP 0 rfl rfl 1 (by decide) (hts _ (List.mem_cons_of_mem _ iw_125)) (fun _ h9 => h9) rfl d_S_remakeTouched_72 ?_
            refine lv_aload_n hx hb d_S_remakeTouched_75 rfl (lv_at hl 0 rfl) ?_
            refine va_get (D := (dC, dI)) (ci := 3) (v := .ref (ca_q q)) (C := "SeatProofs") (T := F_S) (N := 6) hx hb hts (iu_S _) hown hK hP 0 rfl rfl 2 (by decide) (hts _ (List.mem_cons_of_mem _ iw_126)) (fun _ h9 => h9) rfl d_S_remakeTouched_76 ?_
            refine va_getN (D := (dC, dI)) (ci := 2) (v := .ref (ca_pl q)) (C := "SeatProofs$Proof") (T := F_Q) (N := 5) hx hb hts (iu_Q _) hown hK hP 3 rfl rfl 2 (by decide) (NW.use hN in_108) (fun _ h9 => h9) rfl d_S_remakeTouched_79 ?_
            refine lv_iload hx hb d_S_remakeTouched_82 (lv_at hl 4 rfl) ?_
            refine ld_i hx hb hK hP 15 0 rfl rfl (nI (k_pl u k)) (by omega) (by decide) rfl d_S_remakeTouched_84 ?_
            refine vp_callSl (va_Run.run (va_runV (As := [.int (nI (k_pl u k))]) (rest := [.int (nI k), .ref (ca_pw q)]) ⟨hx, hb, hml, hown, hts⟩ (c_F_floodOf l dC dI q (k_mk (k_fu u) (k_re u) (k_nS u) (k_nV u) (k_opn u) (k_uns u) (k_dbl u) L62 (k_cnt u) (k_lev u) (k_src u) (k_fr u) (k_e1 u) (k_e2 u) (k_ends u) (k_fal u) W62 (k_fls u) (k_fnd u) (k_pf u) (k_pl u) g3 g4) (k_pl u k) (b2 _)) (cwV 1 hts (good_up (good_V iw_418 iw_232 iw_233 iw_3 gg_F_floodOf)) rfl rfl rfl (by decide +kernel) ⟨Nat.le_of_ble_eq_true rfl, Nat.le_of_ble_eq_true rfl⟩) (pv_S [.int (nI (k_pl u k))] hN hK hP (ci := 1) (q0 := 2) rfl rfl) rfl rfl hl.1 rfl (lv_room (Nat.le_of_ble_eq_true rfl)) d_S_remakeTouched_85 ⟨Nat.le_of_ble_eq_true rfl, Nat.le_of_ble_eq_true rfl⟩)) (fun r_4 hr_4 => ?_)
            subst hr_4
            refine tp_l (kF (k_s_ways u W62) (k_pl u k)) (kF_cg rfl rfl) ?_
            have hcp62 : CP (k_mk (k_fu u) (k_re u) (k_nS u) (k_nV u) (k_opn u) (k_uns u) (k_dbl u) L62 (k_cnt u) (k_lev u) (k_src u) (k_fr u) (k_e1 u) (k_e2 u) (k_ends u) (k_fal u) W62 (k_fls u) (k_fnd u) (k_pf u) (k_pl u) g3 g4) v := CP_cg hc rfl rfl rfl rfl rfl rfl rfl rfl rfl rfl rfl rfl
            refine tp_l (mF v (k_pl u k) (k_pf u k)) ((kF_cg (u := (k_s_ways u W62)) (v := (k_mk (k_fu u) (k_re u) (k_nS u) (k_nV u) (k_opn u) (k_uns u) (k_dbl u) L62 (k_cnt u) (k_lev u) (k_src u) (k_fr u) (k_e1 u) (k_e2 u) (k_ends u) (k_fal u) W62 (k_fls u) (k_fnd u) (k_pf u) (k_pl u) g3 g4)) rfl rfl).trans (kF_mF hcp62 (Laid_cg hlaid62 rfl rfl rfl rfl rfl) (b2 _))) ?_
            refine st_l hx hb hK hP hD hS 16 1 rfl rfl (va_up g3 k (mF v (k_pl u k) (k_pf u k))) (by omega) (by decide) (updL_up _ _ _) d_S_remakeTouched_88 (fun H locs hP hD hS => ?_)
            have hP : va_P (dC, dI) vwCl (wCx q (k_fu u) (k_re u) (k_nS u) (k_nV u) (k_opn u) (k_uns u) (k_dbl u) L62 (k_cnt u) (k_lev u) (k_src u) (k_fr u) (k_e1 u) (k_e2 u) (k_ends u) (k_fal u) W62 (k_fls u) (k_fnd u) (k_pf u) (k_pl u) (va_up g3 k (mF v (k_pl u k) (k_pf u k))) g4) H := hP
            have hD : va_D (va_A (wC q u) s.heap.size) (wCx q (k_fu u) (k_re u) (k_nS u) (k_nV u) (k_opn u) (k_uns u) (k_dbl u) L62 (k_cnt u) (k_lev u) (k_src u) (k_fr u) (k_e1 u) (k_e2 u) (k_ends u) (k_fal u) W62 (k_fls u) (k_fnd u) (k_pf u) (k_pl u) (va_up g3 k (mF v (k_pl u k) (k_pf u k))) g4) := hD
            refine lv_aload_n hx hb d_S_remakeTouched_89 rfl (lv_at hl 0 rfl) ?_
            refine va_get (D := (dC, dI)) (ci := 3) (v := .ref (ca_q q)) (C := "SeatProofs") (T := F_S) (N := 6) hx hb hts (iu_S _) hown hK hP 0 rfl rfl 2 (by decide) (hts _ (List.mem_cons_of_mem _ iw_126)) (fun _ h9 => h9) rfl d_S_remakeTouched_90 ?_
            refine va_getN (D := (dC, dI)) (ci := 2) (v := .ref (ca_pc q)) (C := "SeatProofs$Proof") (T := F_Q) (N := 5) hx hb hts (iu_Q _) hown hK hP 3 rfl rfl 4 (by decide) (NW.use hN in_112) (fun _ h9 => h9) rfl d_S_remakeTouched_93 ?_
            refine lv_iload hx hb d_S_remakeTouched_96 (lv_at hl 4 rfl) ?_
            refine lv_aload_n hx hb d_S_remakeTouched_98 rfl (lv_at hl 0 rfl) ?_
            refine va_get (D := (dC, dI)) (ci := 3) (v := .ref (ca_f q)) (C := "SeatProofs") (T := F_S) (N := 6) hx hb hts (iu_S _) hown hK hP 0 rfl rfl 1 (by decide) (hts _ (List.mem_cons_of_mem _ iw_125)) (fun _ h9 => h9) rfl d_S_remakeTouched_99 ?_
            refine lv_aload_n hx hb d_S_remakeTouched_102 rfl (lv_at hl 0 rfl) ?_
            refine va_get (D := (dC, dI)) (ci := 3) (v := .ref (ca_q q)) (C := "SeatProofs") (T := F_S) (N := 6) hx hb hts (iu_S _) hown hK hP 0 rfl rfl 2 (by decide) (hts _ (List.mem_cons_of_mem _ iw_126)) (fun _ h9 => h9) rfl d_S_remakeTouched_103 ?_
            refine va_getN (D := (dC, dI)) (ci := 2) (v := .ref (ca_pw q)) (C := "SeatProofs$Proof") (T := F_Q) (N := 5) hx hb hts (iu_Q _) hown hK hP 3 rfl rfl 3 (by decide) (NW.use hN in_110) (fun _ h9 => h9) rfl d_S_remakeTouched_106 ?_
            refine lv_iload hx hb d_S_remakeTouched_109 (lv_at hl 4 rfl) ?_
            refine ld_l hx hb hK hP 16 1 rfl rfl (mF v (k_pl u k) (k_pf u k)) (by omega) (by decide) (va_up_self _ _ _) d_S_remakeTouched_111 ?_
            refine vp_callSl (va_Run.run (va_runV (As := [.long (mF v (k_pl u k) (k_pf u k))]) (rest := [.int (nI k), .ref (ca_pc q)]) ⟨hx, hb, hml, hown, hts⟩ (c_F_cutOf l dC dI q (k_mk (k_fu u) (k_re u) (k_nS u) (k_nV u) (k_opn u) (k_uns u) (k_dbl u) L62 (k_cnt u) (k_lev u) (k_src u) (k_fr u) (k_e1 u) (k_e2 u) (k_ends u) (k_fal u) W62 (k_fls u) (k_fnd u) (k_pf u) (k_pl u) (va_up g3 k (mF v (k_pl u k) (k_pf u k))) g4) (mF v (k_pl u k) (k_pf u k))) (cwV 1 hts (good_up (good_V iw_267 iw_268 iw_269 iw_3 gg_F_cutOf)) rfl rfl rfl (by decide +kernel) ⟨Nat.le_of_ble_eq_true rfl, Nat.le_of_ble_eq_true rfl⟩) (pv_S [.long (mF v (k_pl u k) (k_pf u k))] hN hK hP (ci := 1) (q0 := 2) rfl rfl) rfl rfl hl.1 rfl (lv_room (Nat.le_of_ble_eq_true rfl)) d_S_remakeTouched_112 ⟨Nat.le_of_ble_eq_true rfl, Nat.le_of_ble_eq_true rfl⟩)) (fun r_5 hr_5 => ?_)
            subst hr_5
            refine tp_l (kC (k_s_lett u L62) (mF v (k_pl u k) (k_pf u k))) (kC_cg rfl rfl rfl) ?_
            have hcp63 : CP (k_mk (k_fu u) (k_re u) (k_nS u) (k_nV u) (k_opn u) (k_uns u) (k_dbl u) L62 (k_cnt u) (k_lev u) (k_src u) (k_fr u) (k_e1 u) (k_e2 u) (k_ends u) (k_fal u) W62 (k_fls u) (k_fnd u) (k_pf u) (k_pl u) (va_up g3 k (mF v (k_pl u k) (k_pf u k))) g4) v := CP_cg hc rfl rfl rfl rfl rfl rfl rfl rfl rfl rfl rfl rfl
            refine tp_l (mC v (mF v (k_pl u k) (k_pf u k)) (k_pf u k)) ((kC_cg (u := (k_s_lett u L62)) (v := (k_mk (k_fu u) (k_re u) (k_nS u) (k_nV u) (k_opn u) (k_uns u) (k_dbl u) L62 (k_cnt u) (k_lev u) (k_src u) (k_fr u) (k_e1 u) (k_e2 u) (k_ends u) (k_fal u) W62 (k_fls u) (k_fnd u) (k_pf u) (k_pl u) (va_up g3 k (mF v (k_pl u k) (k_pf u k))) g4)) rfl rfl rfl).trans (kC_mC hcp63 (Laid_cg hlaid62 rfl rfl rfl rfl rfl) (fun i hi => (mF_in c1 hi).2))) ?_
            refine st_l hx hb hK hP hD hS 17 1 rfl rfl (va_up g4 k (mC v (mF v (k_pl u k) (k_pf u k)) (k_pf u k))) (by omega) (by decide) (updL_up _ _ _) d_S_remakeTouched_115 (fun H locs hP hD hS => ?_)
            have hP : va_P (dC, dI) vwCl (wCx q (k_fu u) (k_re u) (k_nS u) (k_nV u) (k_opn u) (k_uns u) (k_dbl u) L62 (k_cnt u) (k_lev u) (k_src u) (k_fr u) (k_e1 u) (k_e2 u) (k_ends u) (k_fal u) W62 (k_fls u) (k_fnd u) (k_pf u) (k_pl u) (va_up g3 k (mF v (k_pl u k) (k_pf u k))) (va_up g4 k (mC v (mF v (k_pl u k) (k_pf u k)) (k_pf u k)))) H := hP
            have hD : va_D (va_A (wC q u) s.heap.size) (wCx q (k_fu u) (k_re u) (k_nS u) (k_nV u) (k_opn u) (k_uns u) (k_dbl u) L62 (k_cnt u) (k_lev u) (k_src u) (k_fr u) (k_e1 u) (k_e2 u) (k_ends u) (k_fal u) W62 (k_fls u) (k_fnd u) (k_pf u) (k_pl u) (va_up g3 k (mF v (k_pl u k) (k_pf u k))) (va_up g4 k (mC v (mF v (k_pl u k) (k_pf u k)) (k_pf u k)))) := hD
            refine lv_iinc (v := nI (c9 + 1)) (lv' := [(3, .int (nI (c9 + 1))), (0, .ref (ca_o q)), (1, .int (nI x)), (2, .int (nI (k_pf u k))), (4, .int (nI k))]) hx hb d_S_remakeTouched_116 hl (k := 3) rfl (nI_1 _) (by decide) rfl (fun ls hl => ?_)
            refine lv_iinc (v := nI (k + 1)) (lv' := [(4, .int (nI (k + 1))), (3, .int (nI (c9 + 1))), (0, .ref (ca_o q)), (1, .int (nI x)), (2, .int (nI (k_pf u k)))]) hx hb d_S_remakeTouched_119 hl (k := 4) rfl (nI_1 _) (by decide) rfl (fun ls hl => ?_)
            refine lv_goto (tgt := 7) hx hb d_S_remakeTouched_122 (by decide) ?_
            exact ih7 (k + 1) (c9 + 1) (nI (k_pf u k)) (va_up g3 k (mF v (k_pl u k) (k_pf u k))) (va_up g4 k (mC v (mF v (k_pl u k) (k_pf u k)) (k_pf u k))) L62 W62 (by omega) (up_if (F := fun j => mF v (k_pl u j) (k_pf u j)) h3 hkt) (up_if (F := fun j => mC v (mF v (k_pl u j) (k_pf u j)) (k_pf u j)) h4 hkt) (by rw [pcn_st hkt, hc7]) (Or.inr ⟨k_pf u k, rfl, hpf k (by omega), Laid_cg hlaid62 rfl rfl rfl rfl rfl⟩) (by omega) _ _ ls hP hD hS (lv_sub hl [2, 3, 4, 1, 0] rfl)
          refine lv_aload_n hx hb d_S_remakeTouched_29 rfl (lv_at hl 0 rfl) ?_
          refine va_get (D := (dC, dI)) (ci := 3) (v := .ref (ca_q q)) (C := "SeatProofs") (T := F_S) (N := 6) hx hb hts (iu_S _) hown hK hP 0 rfl rfl 2 (by decide) (hts _ (List.mem_cons_of_mem _ iw_126)) (fun _ h9 => h9) rfl d_S_remakeTouched_30 ?_
          refine va_getN (D := (dC, dI)) (ci := 2) (v := .ref (ca_pf q)) (C := "SeatProofs$Proof") (T := F_Q) (N := 5) hx hb hts (iu_Q _) hown hK hP 3 rfl rfl 1 (by decide) (NW.use hN in_106) (fun _ h9 => h9) rfl d_S_remakeTouched_33 ?_
          refine lv_iload hx hb d_S_remakeTouched_36 (lv_at hl 4 rfl) ?_
          refine ld_i hx hb hK hP 14 0 rfl rfl (nI (k_pf u k)) (by omega) (by decide) rfl d_S_remakeTouched_38 ?_
          refine lv_iload_n hx hb d_S_remakeTouched_39 rfl (lv_at hl 2 rfl) ?_
          refine lv_icmp_eq (tgt := 62) hx hb d_S_remakeTouched_40 (by decide) (fun c_6 => ?_) (fun c_6 => ?_)
          · rw [← c_6] at hl
            exact L62 L Wy (LaQ_at hla c1 (b1 k) c_6) _ _ ls hP hD hS (lv_sub hl [0, 1, 2, 3, 4] rfl)
          · refine lv_aload_n hx hb d_S_remakeTouched_43 rfl (lv_at hl 0 rfl) ?_
            refine va_get (D := (dC, dI)) (ci := 3) (v := .ref (ca_q q)) (C := "SeatProofs") (T := F_S) (N := 6) hx hb hts (iu_S _) hown hK hP 0 rfl rfl 2 (by decide) (hts _ (List.mem_cons_of_mem _ iw_126)) (fun _ h9 => h9) rfl d_S_remakeTouched_44 ?_
            refine va_getN (D := (dC, dI)) (ci := 2) (v := .ref (ca_pf q)) (C := "SeatProofs$Proof") (T := F_Q) (N := 5) hx hb hts (iu_Q _) hown hK hP 3 rfl rfl 1 (by decide) (NW.use hN in_106) (fun _ h9 => h9) rfl d_S_remakeTouched_47 ?_
            refine lv_iload hx hb d_S_remakeTouched_50 (lv_at hl 4 rfl) ?_
            refine ld_i hx hb hK hP 14 0 rfl rfl (nI (k_pf u k)) (by omega) (by decide) rfl d_S_remakeTouched_52 ?_
            refine lv_istore_n (lv' := [(2, .int (nI (k_pf u k))), (0, .ref (ca_o q)), (1, .int (nI x)), (3, .int (nI c9)), (4, .int (nI k))]) hx hb d_S_remakeTouched_53 rfl hl (by decide) rfl (fun ls hl => ?_)
            refine lv_aload_n hx hb d_S_remakeTouched_54 rfl (lv_at hl 1 rfl) ?_
            refine va_get (D := (dC, dI)) (ci := 3) (v := .ref (ca_f q)) (C := "SeatProofs") (T := F_S) (N := 6) hx hb hts (iu_S _) hown hK hP 0 rfl rfl 1 (by decide) (hts _ (List.mem_cons_of_mem _ iw_125)) (fun _ h9 => h9) rfl d_S_remakeTouched_55 ?_
            refine lv_iload_n hx hb d_S_remakeTouched_58 rfl (lv_at hl 0 rfl) ?_
            refine cq_v (va_runV (As := [.int (nI (k_pf u k))]) (rest := []) ⟨hx, hb, hml, hown, hts⟩ (c_F_lay l dC dI q (k_mk (k_fu u) (k_re u) (k_nS u) (k_nV u) (k_opn u) (k_uns u) (k_dbl u) L (k_cnt u) (k_lev u) (k_src u) (k_fr u) (k_e1 u) (k_e2 u) (k_ends u) (k_fal u) Wy (k_fls u) (k_fnd u) (k_pf u) (k_pl u) g3 g4) _ (k_pf u k) (by have := b1 k; omega) (by show k_nS u ≤ 64; omega) (by show k_nV u ≤ 64; omega) c13 c14) (cwV 1 hts (good_up (good_V iw_213 iw_214 iw_215 iw_3 gg_F_lay)) rfl rfl rfl (by decide +kernel) ⟨Nat.le_of_ble_eq_true rfl, Nat.le_of_ble_eq_true rfl⟩) (pv_Q [.int (nI (k_pf u k))] hN hK hP hD (ci := 1) (q0 := 2) rfl rfl) rfl rfl hl.1 rfl (lv_room (Nat.le_of_ble_eq_true rfl)) d_S_remakeTouched_59 ⟨Nat.le_of_ble_eq_true rfl, Nat.le_of_ble_eq_true rfl⟩) hD hS hA (fun z_8 H locs hr_7 hP hD hS => ?_)
            obtain ⟨g_10, hg_11, hr_7⟩ := hr_7
            generalize hL_13 : kl (k_mk (k_fu u) (k_re u) (k_nS u) (k_nV u) (k_opn u) (k_uns u) (k_dbl u) L (k_cnt u) (k_lev u) (k_src u) (k_fr u) (k_e1 u) (k_e2 u) (k_ends u) (k_fal u) Wy (k_fls u) (k_fnd u) (k_pf u) (k_pl u) g3 g4) (k_pf u k) = L_12 at hr_7
            generalize hy_15 : kWs (k_mk (k_fu u) (k_re u) (k_nS u) (k_nV u) (k_opn u) (k_uns u) (k_dbl u) L (k_cnt u) (k_lev u) (k_src u) (k_fr u) (k_e1 u) (k_e2 u) (k_ends u) (k_fal u) Wy (k_fls u) (k_fnd u) (k_pf u) (k_pl u) g3 g4) L_12 g_10 _ = y_14 at hr_7
            subst hr_7
            have hP : va_P (dC, dI) vwCl (wCx q (k_fu u) (k_re u) (k_nS u) (k_nV u) (k_opn u) (k_uns u) (k_dbl u) L_12 (k_cnt u) (k_lev u) (k_src u) (k_fr u) (k_e1 u) (k_e2 u) (k_ends u) (k_fal u) y_14 (k_fls u) (k_fnd u) (k_pf u) (k_pl u) g3 g4) H := hP
            have hD : va_D (va_A (wC q u) s.heap.size) (wCx q (k_fu u) (k_re u) (k_nS u) (k_nV u) (k_opn u) (k_uns u) (k_dbl u) L_12 (k_cnt u) (k_lev u) (k_src u) (k_fr u) (k_e1 u) (k_e2 u) (k_ends u) (k_fal u) y_14 (k_fls u) (k_fnd u) (k_pf u) (k_pl u) g3 g4) := hD
            exact L62 L_12 y_14 (Laid_of (U := (k_mk (k_fu u) (k_re u) (k_nS u) (k_nV u) (k_opn u) (k_uns u) (k_dbl u) L (k_cnt u) (k_lev u) (k_src u) (k_fr u) (k_e1 u) (k_e2 u) (k_ends u) (k_fal u) Wy (k_fls u) (k_fnd u) (k_pf u) (k_pl u) g3 g4)) hc (hpf k (by omega)) hg_11 hL_13 hy_15 rfl rfl rfl rfl rfl rfl rfl rfl) _ _ ls hP hD hS (lv_sub hl [1, 2, 0, 3, 4] rfl)
  exact L7 _ 0 0 ((-1)) (k_pw u) (k_pc u) (k_lett u) (k_ways u) (Nat.zero_le _) (fun j => by rw [if_neg (by omega)]) (fun j => by rw [if_neg (by omega)]) rfl (Or.inl rfl) (Nat.lt_succ_self _) _ _ ls hP hD hS (lv_sub hl [3, 4, 2, 1, 0] rfl)
set_option maxHeartbeats 4000000 in
set_option maxRecDepth 100000 in
theorem c_S_check (l : Launch) (dC : Nat → ClassId) (dI : Nat → Nat → Nat) (q : CA) (u : CSt) (sz : Nat) (h0 : k_cnt u ≤ 975) (hS9 : k_nS u ≤ 64) (hV9 : k_nV u ≤ 64) (c13 : ∀ j, k_e1 u j < 64) (c14 : ∀ j, k_e2 u j < 64) (b1 : ∀ j, k_pf u j < 65) (b2 : ∀ j, k_pl u j < 16) : Met l y_S_check w_S_check ({ frames := 4, cells := 0, slots := 0, locals := 96 }) (qPc (dC, dI) vwCl (tC q) (wC q u) sz [Value.ref (ca_o q)]) (va_Qi (fun (r : Int32) (z : CSt) => ∃ (L : Int64) (Wy fl : Nat → Int64), z = k_s_fls (k_s_ways (k_s_lett u L) Wy) fl) (qB (dC, dI) vwCl (tC q) (wC q u) sz (wC q)) (va_A (wC q u) sz)) 0 0 (va_A (wC q u) sz) := by
  refine Met.ofW (cc := b_S_check) (maxL := 3) (ret := (some .int)) (by decide) rfl ?_
  intro p e s m args below meth c s₁ B hml hv
  obtain ⟨rfl, hsz, hP, hK, hD0, hN⟩ := hv
  have hx := B.exec
  have hb := B.bytes
  have hr := B.returns
  have hts := atoms_spec (ws := w_S_check) B.pre
  have hown : s.vm.findClass "SeatProofs" = some m.cls := findClass_of_methodNamed B.named
  have hlocks := B.notSynchronized
  subst hsz
  have hD := hD0.self (sz := s.heap.size)
  have hA : ∀ z : Nat, s.heap.size ≤ z → va_A (wC q u) s.heap.size z := fun z h => Or.inr h
  have hS : va_S (va_A (wC q u) s.heap.size) s.heap s.heap [] := va_S.rf
  have hl := lv_entry ([Value.ref (ca_o q)]) (n := 3) (Nat.le_of_ble_eq_true rfl)
  rw [lg_entry_eq]
  generalize (lg_sl ([Value.ref (ca_o q)]) ++ List.replicate (3 - (lg_sl ([Value.ref (ca_o q)])).length) Slot.unset).toArray = ls at hl ⊢
  have hl : lv_has ls 3 [(0, .ref (ca_o q))] := hl
  refine lv_iconst (v := (-1)) hx hb d_S_check_0 (by decide) ?_
  refine lv_istore_n (lv' := [(1, .int ((-1))), (0, .ref (ca_o q))]) hx hb d_S_check_1 rfl hl (by decide) rfl (fun ls hl => ?_)
  refine lv_iconst (v := nI 0) hx hb d_S_check_2 (by decide) ?_
  refine lv_istore_n (lv' := [(2, .int (nI 0)), (1, .int ((-1))), (0, .ref (ca_o q))]) hx hb d_S_check_3 rfl hl (by decide) rfl (fun ls hl => ?_)
  have L4 : ∀ (n4 : Nat) (k : Nat) (la : Int32) (L : Int64) (Wy : Nat → Int64) (fl : Nat → Int64), (k ≤ k_cnt u) → k_cnt u - k < n4 → ∀ (H : Heap) (locs : List Loc) (ls : Array Slot), va_P (dC, dI) vwCl (wCx q (k_fu u) (k_re u) (k_nS u) (k_nV u) (k_opn u) (k_uns u) (k_dbl u) L (k_cnt u) (k_lev u) (k_src u) (k_fr u) (k_e1 u) (k_e2 u) (k_ends u) (k_fal u) Wy fl (k_fnd u) (k_pf u) (k_pl u) (k_pw u) (k_pc u)) H → va_D (va_A (wC q u) s.heap.size) (wCx q (k_fu u) (k_re u) (k_nS u) (k_nV u) (k_opn u) (k_uns u) (k_dbl u) L (k_cnt u) (k_lev u) (k_src u) (k_fr u) (k_e1 u) (k_e2 u) (k_ends u) (k_fal u) Wy fl (k_fnd u) (k_pf u) (k_pl u) (k_pw u) (k_pc u)) → va_S (va_A (wC q u) s.heap.size) s.heap H locs → lv_has ls 3 [(0, .ref (ca_o q)), (1, .int la), (2, .int (nI k))] → W p l e (headSpec w_S_check ({ frames := 4, cells := 0, slots := 0, locals := 96 })).room s m [Value.ref (ca_o q)].toArray below meth c H locs 0 0 (MQ below (va_Qi (fun (r : Int32) (z : CSt) => ∃ (L : Int64) (Wy fl : Nat → Int64), z = k_s_fls (k_s_ways (k_s_lett u L) Wy) fl) (qB (dC, dI) vwCl (tC q) (wC q u) s.heap.size (wC q)) (va_A (wC q u) s.heap.size)) [Value.ref (ca_o q)].toArray s 0 0 (va_A (wC q u) s.heap.size)) (F0 m 4 ls []) := by
    intro n4
    induction n4 with
    | zero => intro k la L Wy fl hk4 hm; exact absurd hm (Nat.not_lt_zero _)
    | succ n4 ih4 =>
      intro k la L Wy fl hk4 hm4 H locs ls hP hD hS hl
      refine lv_iload_n hx hb d_S_check_4 rfl (lv_at hl 2 rfl) ?_
      refine lv_aload_n hx hb d_S_check_5 rfl (lv_at hl 0 rfl) ?_
      refine va_get (D := (dC, dI)) (ci := 3) (v := .ref (ca_q q)) (C := "SeatProofs") (T := F_S) (N := 6) hx hb hts (iu_S _) hown hK hP 0 rfl rfl 2 (by decide) (hts _ (List.mem_cons_of_mem _ iw_126)) (fun _ h9 => h9) rfl d_S_check_6 ?_
      refine va_getN (D := (dC, dI)) (ci := 2) (v := .int (nI (k_cnt u))) (C := "SeatProofs$Proof") (T := F_Q) (N := 5) hx hb hts (iu_Q _) hown hK hP 3 rfl rfl 0 (by decide) (NW.use hN in_104) (fun _ h9 => h9) rfl d_S_check_9 ?_
      refine nv_ge (tgt := 71) hx hb d_S_check_12 (by decide) (by omega) (by omega) (fun c_1 => ?_) (fun c_1 => ?_)
      · refine lv_aload_n hx hb d_S_check_71 rfl (lv_at hl 0 rfl) ?_
        refine va_get (D := (dC, dI)) (ci := 3) (v := .ref (ca_q q)) (C := "SeatProofs") (T := F_S) (N := 6) hx hb hts (iu_S _) hown hK hP 0 rfl rfl 2 (by decide) (hts _ (List.mem_cons_of_mem _ iw_126)) (fun _ h9 => h9) rfl d_S_check_72 ?_
        refine va_getN (D := (dC, dI)) (ci := 2) (v := .int (nI (k_cnt u))) (C := "SeatProofs$Proof") (T := F_Q) (N := 5) hx hb hts (iu_Q _) hown hK hP 3 rfl rfl 0 (by decide) (NW.use hN in_104) (fun _ h9 => h9) rfl d_S_check_75 ?_
        refine lv_aload_n hx hb d_S_check_78 rfl (lv_at hl 0 rfl) ?_
        refine va_get (D := (dC, dI)) (ci := 3) (v := .ref (ca_p q)) (C := "SeatProofs") (T := F_S) (N := 6) hx hb hts (iu_S _) hown hK hP 0 rfl rfl 0 (by decide) (hts _ (List.mem_cons_of_mem _ iw_124)) (fun _ h9 => h9) rfl d_S_check_79 ?_
        refine vp_callSi (va_Run.run (va_runV (As := []) (rest := [.int (nI (k_cnt u))]) ⟨hx, hb, hml, hown, hts⟩ (c_P_rowsDue l dC dI q (k_mk (k_fu u) (k_re u) (k_nS u) (k_nV u) (k_opn u) (k_uns u) (k_dbl u) L (k_cnt u) (k_lev u) (k_src u) (k_fr u) (k_e1 u) (k_e2 u) (k_ends u) (k_fal u) Wy fl (k_fnd u) (k_pf u) (k_pl u) (k_pw u) (k_pc u)) hV9) (cwV 0 hts (good_up (good_V iw_303 iw_304 iw_305 iw_2 gg_P_rowsDue)) rfl rfl rfl (by decide +kernel) ⟨Nat.le_of_ble_eq_true rfl, Nat.le_of_ble_eq_true rfl⟩) (pv_S [] hN hK hP (ci := 0) (q0 := 1) rfl rfl) rfl rfl hl.1 rfl (lv_room (Nat.le_of_ble_eq_true rfl)) d_S_check_82 ⟨Nat.le_of_ble_eq_true rfl, Nat.le_of_ble_eq_true rfl⟩)) (fun r_2 hr_2 => ?_)
        obtain ⟨n9, hn9, rfl⟩ := hr_2
        refine nv_ge (tgt := 100) hx hb d_S_check_85 (by decide) (by omega) (by omega) (fun c_3 => ?_) (fun c_3 => ?_)
        · refine lv_iconst (v := nI 0) hx hb d_S_check_100 (by decide) ?_
          exact W.iret hx hb hr (fun t9 ht9 hW9 => ⟨⟨_, (k_mk (k_fu u) (k_re u) (k_nS u) (k_nV u) (k_opn u) (k_uns u) (k_dbl u) L (k_cnt u) (k_lev u) (k_src u) (k_fr u) (k_e1 u) (k_e2 u) (k_ends u) (k_fal u) Wy fl (k_fnd u) (k_pf u) (k_pl u) (k_pw u) (k_pc u)), rfl, ⟨L, Wy, fl, rfl⟩, by rw [ht9]; exact hP, va_K.moved hW9.alike hK, hD⟩, hS.F ht9⟩) hS.2.2 d_S_check_101
        · refine lv_iconst (v := nI 1) hx hb d_S_check_88 (by decide) ?_
          refine lv_aload_n hx hb d_S_check_89 rfl (lv_at hl 0 rfl) ?_
          refine va_get (D := (dC, dI)) (ci := 3) (v := .ref (ca_q q)) (C := "SeatProofs") (T := F_S) (N := 6) hx hb hts (iu_S _) hown hK hP 0 rfl rfl 2 (by decide) (hts _ (List.mem_cons_of_mem _ iw_126)) (fun _ h9 => h9) rfl d_S_check_90 ?_
          refine va_getN (D := (dC, dI)) (ci := 2) (v := .int (nI (k_cnt u))) (C := "SeatProofs$Proof") (T := F_Q) (N := 5) hx hb hts (iu_Q _) hown hK hP 3 rfl rfl 0 (by decide) (NW.use hN in_104) (fun _ h9 => h9) rfl d_S_check_93 ?_
          refine lv_iadd hx hb d_S_check_96 ?_
          refine tp_i (nI (1 + k_cnt u)) (nI_add _ _) ?_
          refine lv_goto (tgt := 101) hx hb d_S_check_97 (by decide) ?_
          exact W.iret hx hb hr (fun t9 ht9 hW9 => ⟨⟨_, (k_mk (k_fu u) (k_re u) (k_nS u) (k_nV u) (k_opn u) (k_uns u) (k_dbl u) L (k_cnt u) (k_lev u) (k_src u) (k_fr u) (k_e1 u) (k_e2 u) (k_ends u) (k_fal u) Wy fl (k_fnd u) (k_pf u) (k_pl u) (k_pw u) (k_pc u)), rfl, ⟨L, Wy, fl, rfl⟩, by rw [ht9]; exact hP, va_K.moved hW9.alike hK, hD⟩, hS.F ht9⟩) hS.2.2 d_S_check_101
      · refine lv_aload_n hx hb d_S_check_15 rfl (lv_at hl 0 rfl) ?_
        refine va_get (D := (dC, dI)) (ci := 3) (v := .ref (ca_q q)) (C := "SeatProofs") (T := F_S) (N := 6) hx hb hts (iu_S _) hown hK hP 0 rfl rfl 2 (by decide) (hts _ (List.mem_cons_of_mem _ iw_126)) (fun _ h9 => h9) rfl d_S_check_16 ?_
        refine va_getN (D := (dC, dI)) (ci := 2) (v := .ref (ca_pf q)) (C := "SeatProofs$Proof") (T := F_Q) (N := 5) hx hb hts (iu_Q _) hown hK hP 3 rfl rfl 1 (by decide) (NW.use hN in_106) (fun _ h9 => h9) rfl d_S_check_19 ?_
        refine lv_iload_n hx hb d_S_check_22 rfl (lv_at hl 2 rfl) ?_
        refine ld_i hx hb hK hP 14 0 rfl rfl (nI (k_pf u k)) (by omega) (by decide) rfl d_S_check_23 ?_
        refine lv_iload_n hx hb d_S_check_24 rfl (lv_at hl 1 rfl) ?_
        refine lv_icmp_eq (tgt := 53) hx hb d_S_check_25 (by decide) (fun c_4 => ?_) (fun c_4 => ?_)
        · refine lv_aload_n hx hb d_S_check_53 rfl (lv_at hl 0 rfl) ?_
          refine lv_iload_n hx hb d_S_check_54 rfl (lv_at hl 2 rfl) ?_
          refine vp_callSi (va_Run.run (va_runV (As := [.int (nI k)]) (rest := []) ⟨hx, hb, hml, hown, hts⟩ (c_S_isRight l dC dI q (k_mk (k_fu u) (k_re u) (k_nS u) (k_nV u) (k_opn u) (k_uns u) (k_dbl u) L (k_cnt u) (k_lev u) (k_src u) (k_fr u) (k_e1 u) (k_e2 u) (k_ends u) (k_fal u) Wy fl (k_fnd u) (k_pf u) (k_pl u) (k_pw u) (k_pc u)) k (by omega) b2) (cwV 1 hts (good_up (good_V iw_298 iw_300 ip_4 iw_1 gg_S_isRight)) rfl rfl rfl (by decide +kernel) ⟨Nat.le_of_ble_eq_true rfl, Nat.le_of_ble_eq_true rfl⟩) (pv_S [.int (nI k)] hN hK hP (ci := 3) (q0 := 0) rfl rfl) rfl rfl hl.1 rfl (lv_room (Nat.le_of_ble_eq_true rfl)) d_S_check_55 ⟨Nat.le_of_ble_eq_true rfl, Nat.le_of_ble_eq_true rfl⟩)) (fun r_5 hr_5 => ?_)
          obtain ⟨b_6, rfl⟩ := hr_5
          refine b0_ne (tgt := 65) hx hb d_S_check_58 (by decide) (fun c_7 => ?_) (fun c_7 => ?_)
          · refine lv_iinc (v := nI (k + 1)) (lv' := [(2, .int (nI (k + 1))), (0, .ref (ca_o q)), (1, .int la)]) hx hb d_S_check_65 hl (k := 2) rfl (nI_1 _) (by decide) rfl (fun ls hl => ?_)
            refine lv_goto (tgt := 4) hx hb d_S_check_68 (by decide) ?_
            exact ih4 (k + 1) la L Wy fl (by omega) (by omega) _ _ ls hP hD hS (lv_sub hl [1, 2, 0] rfl)
          · refine lv_iconst (v := nI 1) hx hb d_S_check_61 (by decide) ?_
            refine lv_iload_n hx hb d_S_check_62 rfl (lv_at hl 2 rfl) ?_
            refine lv_iadd hx hb d_S_check_63 ?_
            refine tp_i (nI (1 + k)) (nI_add _ _) ?_
            exact W.iret hx hb hr (fun t9 ht9 hW9 => ⟨⟨_, (k_mk (k_fu u) (k_re u) (k_nS u) (k_nV u) (k_opn u) (k_uns u) (k_dbl u) L (k_cnt u) (k_lev u) (k_src u) (k_fr u) (k_e1 u) (k_e2 u) (k_ends u) (k_fal u) Wy fl (k_fnd u) (k_pf u) (k_pl u) (k_pw u) (k_pc u)), rfl, ⟨L, Wy, fl, rfl⟩, by rw [ht9]; exact hP, va_K.moved hW9.alike hK, hD⟩, hS.F ht9⟩) hS.2.2 d_S_check_64
        · refine lv_aload_n hx hb d_S_check_28 rfl (lv_at hl 0 rfl) ?_
          refine va_get (D := (dC, dI)) (ci := 3) (v := .ref (ca_q q)) (C := "SeatProofs") (T := F_S) (N := 6) hx hb hts (iu_S _) hown hK hP 0 rfl rfl 2 (by decide) (hts _ (List.mem_cons_of_mem _ iw_126)) (fun _ h9 => h9) rfl d_S_check_29 ?_
          refine va_getN (D := (dC, dI)) (ci := 2) (v := .ref (ca_pf q)) (C := "SeatProofs$Proof") (T := F_Q) (N := 5) hx hb hts (iu_Q _) hown hK hP 3 rfl rfl 1 (by decide) (NW.use hN in_106) (fun _ h9 => h9) rfl d_S_check_32 ?_
          refine lv_iload_n hx hb d_S_check_35 rfl (lv_at hl 2 rfl) ?_
          refine ld_i hx hb hK hP 14 0 rfl rfl (nI (k_pf u k)) (by omega) (by decide) rfl d_S_check_36 ?_
          refine lv_istore_n (lv' := [(1, .int (nI (k_pf u k))), (0, .ref (ca_o q)), (2, .int (nI k))]) hx hb d_S_check_37 rfl hl (by decide) rfl (fun ls hl => ?_)
          refine lv_aload_n hx hb d_S_check_38 rfl (lv_at hl 1 rfl) ?_
          refine va_get (D := (dC, dI)) (ci := 3) (v := .ref (ca_f q)) (C := "SeatProofs") (T := F_S) (N := 6) hx hb hts (iu_S _) hown hK hP 0 rfl rfl 1 (by decide) (hts _ (List.mem_cons_of_mem _ iw_125)) (fun _ h9 => h9) rfl d_S_check_39 ?_
          refine lv_iload_n hx hb d_S_check_42 rfl (lv_at hl 0 rfl) ?_
          refine cq_v (va_runV (As := [.int (nI (k_pf u k))]) (rest := []) ⟨hx, hb, hml, hown, hts⟩ (c_F_lay l dC dI q (k_mk (k_fu u) (k_re u) (k_nS u) (k_nV u) (k_opn u) (k_uns u) (k_dbl u) L (k_cnt u) (k_lev u) (k_src u) (k_fr u) (k_e1 u) (k_e2 u) (k_ends u) (k_fal u) Wy fl (k_fnd u) (k_pf u) (k_pl u) (k_pw u) (k_pc u)) _ (k_pf u k) (by have := b1 k; omega) hS9 hV9 c13 c14) (cwV 1 hts (good_up (good_V iw_213 iw_214 iw_215 iw_3 gg_F_lay)) rfl rfl rfl (by decide +kernel) ⟨Nat.le_of_ble_eq_true rfl, Nat.le_of_ble_eq_true rfl⟩) (pv_Q [.int (nI (k_pf u k))] hN hK hP hD (ci := 1) (q0 := 2) rfl rfl) rfl rfl hl.1 rfl (lv_room (Nat.le_of_ble_eq_true rfl)) d_S_check_43 ⟨Nat.le_of_ble_eq_true rfl, Nat.le_of_ble_eq_true rfl⟩) hD hS hA (fun z_9 H locs hr_8 hP hD hS => ?_)
          obtain ⟨g_11, hg_12, hr_8⟩ := hr_8
          generalize hL_14 : kl (k_mk (k_fu u) (k_re u) (k_nS u) (k_nV u) (k_opn u) (k_uns u) (k_dbl u) L (k_cnt u) (k_lev u) (k_src u) (k_fr u) (k_e1 u) (k_e2 u) (k_ends u) (k_fal u) Wy fl (k_fnd u) (k_pf u) (k_pl u) (k_pw u) (k_pc u)) (k_pf u k) = L_13 at hr_8
          generalize hy_16 : kWs (k_mk (k_fu u) (k_re u) (k_nS u) (k_nV u) (k_opn u) (k_uns u) (k_dbl u) L (k_cnt u) (k_lev u) (k_src u) (k_fr u) (k_e1 u) (k_e2 u) (k_ends u) (k_fal u) Wy fl (k_fnd u) (k_pf u) (k_pl u) (k_pw u) (k_pc u)) L_13 g_11 _ = y_15 at hr_8
          subst hr_8
          have hP : va_P (dC, dI) vwCl (wCx q (k_fu u) (k_re u) (k_nS u) (k_nV u) (k_opn u) (k_uns u) (k_dbl u) L_13 (k_cnt u) (k_lev u) (k_src u) (k_fr u) (k_e1 u) (k_e2 u) (k_ends u) (k_fal u) y_15 fl (k_fnd u) (k_pf u) (k_pl u) (k_pw u) (k_pc u)) H := hP
          have hD : va_D (va_A (wC q u) s.heap.size) (wCx q (k_fu u) (k_re u) (k_nS u) (k_nV u) (k_opn u) (k_uns u) (k_dbl u) L_13 (k_cnt u) (k_lev u) (k_src u) (k_fr u) (k_e1 u) (k_e2 u) (k_ends u) (k_fal u) y_15 fl (k_fnd u) (k_pf u) (k_pl u) (k_pw u) (k_pc u)) := hD
          refine lv_aload_n hx hb d_S_check_46 rfl (lv_at hl 1 rfl) ?_
          refine va_get (D := (dC, dI)) (ci := 3) (v := .ref (ca_f q)) (C := "SeatProofs") (T := F_S) (N := 6) hx hb hts (iu_S _) hown hK hP 0 rfl rfl 1 (by decide) (hts _ (List.mem_cons_of_mem _ iw_125)) (fun _ h9 => h9) rfl d_S_check_47 ?_
          refine cq_v (va_runV (As := []) (rest := []) ⟨hx, hb, hml, hown, hts⟩ (c_F_floodAll l dC dI q (k_mk (k_fu u) (k_re u) (k_nS u) (k_nV u) (k_opn u) (k_uns u) (k_dbl u) L_13 (k_cnt u) (k_lev u) (k_src u) (k_fr u) (k_e1 u) (k_e2 u) (k_ends u) (k_fal u) y_15 fl (k_fnd u) (k_pf u) (k_pl u) (k_pw u) (k_pc u)) _) (cwV 0 hts (good_up (good_V iw_227 iw_228 iw_229 iw_3 gg_F_floodAll)) rfl rfl rfl (by decide +kernel) ⟨Nat.le_of_ble_eq_true rfl, Nat.le_of_ble_eq_true rfl⟩) (pv_Q [] hN hK hP hD (ci := 1) (q0 := 2) rfl rfl) rfl rfl hl.1 rfl (lv_room (Nat.le_of_ble_eq_true rfl)) d_S_check_50 ⟨Nat.le_of_ble_eq_true rfl, Nat.le_of_ble_eq_true rfl⟩) hD hS hA (fun z_18 H locs hr_17 hP hD hS => ?_)
          obtain ⟨g_20, hg_21, rfl⟩ := hr_17
          have hP : va_P (dC, dI) vwCl (wCx q (k_fu u) (k_re u) (k_nS u) (k_nV u) (k_opn u) (k_uns u) (k_dbl u) L_13 (k_cnt u) (k_lev u) (k_src u) (k_fr u) (k_e1 u) (k_e2 u) (k_ends u) (k_fal u) y_15 g_20 (k_fnd u) (k_pf u) (k_pl u) (k_pw u) (k_pc u)) H := hP
          have hD : va_D (va_A (wC q u) s.heap.size) (wCx q (k_fu u) (k_re u) (k_nS u) (k_nV u) (k_opn u) (k_uns u) (k_dbl u) L_13 (k_cnt u) (k_lev u) (k_src u) (k_fr u) (k_e1 u) (k_e2 u) (k_ends u) (k_fal u) y_15 g_20 (k_fnd u) (k_pf u) (k_pl u) (k_pw u) (k_pc u)) := hD
          refine lv_aload_n hx hb d_S_check_53 rfl (lv_at hl 1 rfl) ?_
          refine lv_iload_n hx hb d_S_check_54 rfl (lv_at hl 2 rfl) ?_
          refine vp_callSi (va_Run.run (va_runV (As := [.int (nI k)]) (rest := []) ⟨hx, hb, hml, hown, hts⟩ (c_S_isRight l dC dI q (k_mk (k_fu u) (k_re u) (k_nS u) (k_nV u) (k_opn u) (k_uns u) (k_dbl u) L_13 (k_cnt u) (k_lev u) (k_src u) (k_fr u) (k_e1 u) (k_e2 u) (k_ends u) (k_fal u) y_15 g_20 (k_fnd u) (k_pf u) (k_pl u) (k_pw u) (k_pc u)) k (by omega) b2) (cwV 1 hts (good_up (good_V iw_298 iw_300 ip_4 iw_1 gg_S_isRight)) rfl rfl rfl (by decide +kernel) ⟨Nat.le_of_ble_eq_true rfl, Nat.le_of_ble_eq_true rfl⟩) (pv_S [.int (nI k)] hN hK hP (ci := 3) (q0 := 0) rfl rfl) rfl rfl hl.1 rfl (lv_room (Nat.le_of_ble_eq_true rfl)) d_S_check_55 ⟨Nat.le_of_ble_eq_true rfl, Nat.le_of_ble_eq_true rfl⟩)) (fun r_22 hr_22 => ?_)
          obtain ⟨b_23, rfl⟩ := hr_22
          refine b0_ne (tgt := 65) hx hb d_S_check_58 (by decide) (fun c_24 => ?_) (fun c_24 => ?_)
          · refine lv_iinc (v := nI (k + 1)) (lv' := [(2, .int (nI (k + 1))), (1, .int (nI (k_pf u k))), (0, .ref (ca_o q))]) hx hb d_S_check_65 hl (k := 2) rfl (nI_1 _) (by decide) rfl (fun ls hl => ?_)
            refine lv_goto (tgt := 4) hx hb d_S_check_68 (by decide) ?_
            exact ih4 (k + 1) (nI (k_pf u k)) L_13 y_15 g_20 (by omega) (by omega) _ _ ls hP hD hS (lv_sub hl [2, 1, 0] rfl)
          · refine lv_iconst (v := nI 1) hx hb d_S_check_61 (by decide) ?_
            refine lv_iload_n hx hb d_S_check_62 rfl (lv_at hl 2 rfl) ?_
            refine lv_iadd hx hb d_S_check_63 ?_
            refine tp_i (nI (1 + k)) (nI_add _ _) ?_
            exact W.iret hx hb hr (fun t9 ht9 hW9 => ⟨⟨_, (k_mk (k_fu u) (k_re u) (k_nS u) (k_nV u) (k_opn u) (k_uns u) (k_dbl u) L_13 (k_cnt u) (k_lev u) (k_src u) (k_fr u) (k_e1 u) (k_e2 u) (k_ends u) (k_fal u) y_15 g_20 (k_fnd u) (k_pf u) (k_pl u) (k_pw u) (k_pc u)), rfl, ⟨L_13, y_15, g_20, rfl⟩, by rw [ht9]; exact hP, va_K.moved hW9.alike hK, hD⟩, hS.F ht9⟩) hS.2.2 d_S_check_64
  exact L4 _ 0 ((-1)) (k_lett u) (k_ways u) (k_fls u) (Nat.zero_le _) (Nat.lt_succ_self _) _ _ ls hP hD hS (lv_sub hl [2, 1, 0] rfl)
