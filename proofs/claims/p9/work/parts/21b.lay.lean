set_option maxHeartbeats 4000000 in
set_option maxRecDepth 100000 in
theorem c_F_lay (l : Launch) (dC : Nat → ClassId) (dI : Nat → Nat → Nat) (q : CA) (u : CSt) (sz : Nat) (f : Nat) (hf : f < 66) (h0 : k_nS u ≤ 64) (h1 : k_nV u ≤ 64) (h2 : ∀ j, k_e1 u j < 64) (h3 : ∀ j, k_e2 u j < 64) : Met l y_F_lay w_F_lay ({ frames := 3, cells := 0, slots := 0, locals := 65 }) (qPc (dC, dI) vwCl (tC q) (wC q u) sz [Value.ref (ca_f q), Value.int (nI f)]) (va_Qv (fun z : CSt => ∃ g, (∀ t, t < k_nS u → g t = 0) ∧ z = k_s_ways (k_s_lett u (kl u f)) (kWs u (kl u f) g (k_nV u))) (qB (dC, dI) vwCl (tC q) (wC q u) sz (wC q)) (va_A (wC q u) sz)) 0 0 (va_A (wC q u) sz) := by
  refine Met.ofW (cc := b_F_lay) (maxL := 3) (ret := none) (by decide) rfl ?_
  intro p e s m args below meth c s₁ B hml hv
  obtain ⟨rfl, hsz, hP, hK, hD0, hN⟩ := hv
  have hx := B.exec
  have hb := B.bytes
  have hr := B.returns
  have hts := atoms_spec (ws := w_F_lay) B.pre
  have hown : s.vm.findClass "SeatProofs$Flow" = some m.cls := findClass_of_methodNamed B.named
  have hlocks := B.notSynchronized
  subst hsz
  have hD := hD0.self (sz := s.heap.size)
  have hA : ∀ z : Nat, s.heap.size ≤ z → va_A (wC q u) s.heap.size z := fun z h => Or.inr h
  have hS : va_S (va_A (wC q u) s.heap.size) s.heap s.heap [] := va_S.rf
  have hl := lv_entry ([Value.ref (ca_f q), Value.int (nI f)]) (n := 3) (Nat.le_of_ble_eq_true rfl)
  rw [lg_entry_eq]
  generalize (lg_sl ([Value.ref (ca_f q), Value.int (nI f)]) ++ List.replicate (3 - (lg_sl ([Value.ref (ca_f q), Value.int (nI f)])).length) Slot.unset).toArray = ls at hl ⊢
  have hl : lv_has ls 3 [(0, .ref (ca_f q)), (1, .int (nI f))] := hl
  refine lv_aload_n hx hb d_F_lay_0 rfl (lv_at hl 0 rfl) ?_
  refine lv_aload_n hx hb d_F_lay_1 rfl (lv_at hl 0 rfl) ?_
  refine va_get (D := (dC, dI)) (ci := 1) (v := .ref (ca_p q)) (C := "SeatProofs$Flow") (T := F_F) (N := 4) hx hb hts (iu_F _) hown hK hP 2 rfl rfl 0 (by decide) (hts _ (List.mem_cons_of_mem _ iw_83)) (fun _ h9 => h9) rfl d_F_lay_2 ?_
  refine lv_iload_n hx hb d_F_lay_5 rfl (lv_at hl 1 rfl) ?_
  refine vp_callSl (va_Run.run (va_runV (As := [.int (nI f)]) (rest := [.ref (ca_f q)]) ⟨hx, hb, hml, hown, hts⟩ (c_P_letting l dC dI q u f hf) (cwV 1 hts (good_up (good_V iw_217 iw_218 iw_219 iw_2 gg_P_letting)) rfl rfl rfl (by decide +kernel) ⟨Nat.le_of_ble_eq_true rfl, Nat.le_of_ble_eq_true rfl⟩) (pv_S [.int (nI f)] hN hK hP (ci := 0) (q0 := 1) rfl rfl) rfl rfl hl.1 rfl (lv_room (Nat.le_of_ble_eq_true rfl)) d_F_lay_6 ⟨Nat.le_of_ble_eq_true rfl, Nat.le_of_ble_eq_true rfl⟩)) (fun r_1 hr_1 => ?_)
  refine va_put (D := (dC, dI)) (ci := 1) (v := .long r_1) (ty := .long) (C := "SeatProofs$Flow") (T := F_F) (N := 4) hx hb hts (iu_F _) t_F t_F_ok n_F hown hK hP hD hS 2 rfl rfl 1 (by decide) (hts _ (List.mem_cons_of_mem _ iw_84)) (fun _ h9 => h9) rfl (by decide +kernel) rfl rfl (Nat.le_of_ble_eq_true rfl) d_F_lay_9 (fun H locs hP hD hS => ?_)
  have hP : va_P (dC, dI) vwCl (wCx q (k_fu u) (k_re u) (k_nS u) (k_nV u) (k_opn u) (k_uns u) (k_dbl u) r_1 (k_cnt u) (k_lev u) (k_src u) (k_fr u) (k_e1 u) (k_e2 u) (k_ends u) (k_fal u) (k_ways u) (k_fls u) (k_fnd u) (k_pf u) (k_pl u) (k_pw u) (k_pc u)) H := hP
  have hD : va_D (va_A (wC q u) s.heap.size) (wCx q (k_fu u) (k_re u) (k_nS u) (k_nV u) (k_opn u) (k_uns u) (k_dbl u) r_1 (k_cnt u) (k_lev u) (k_src u) (k_fr u) (k_e1 u) (k_e2 u) (k_ends u) (k_fal u) (k_ways u) (k_fls u) (k_fnd u) (k_pf u) (k_pl u) (k_pw u) (k_pc u)) := hD
  refine lv_iconst (v := nI 0) hx hb d_F_lay_12 (by decide) ?_
  refine lv_istore_n (lv' := [(2, .int (nI 0)), (0, .ref (ca_f q)), (1, .int (nI f))]) hx hb d_F_lay_13 rfl hl (by decide) rfl (fun ls hl => ?_)
  have L14 : ∀ (n14 : Nat) (i : Nat) (g : Nat → Int64), (i ≤ k_nS u) → (∀ t, t < i → g t = 0) → k_nS u - i < n14 → ∀ (H : Heap) (locs : List Loc) (ls : Array Slot), va_P (dC, dI) vwCl (wCx q (k_fu u) (k_re u) (k_nS u) (k_nV u) (k_opn u) (k_uns u) (k_dbl u) r_1 (k_cnt u) (k_lev u) (k_src u) (k_fr u) (k_e1 u) (k_e2 u) (k_ends u) (k_fal u) g (k_fls u) (k_fnd u) (k_pf u) (k_pl u) (k_pw u) (k_pc u)) H → va_D (va_A (wC q u) s.heap.size) (wCx q (k_fu u) (k_re u) (k_nS u) (k_nV u) (k_opn u) (k_uns u) (k_dbl u) r_1 (k_cnt u) (k_lev u) (k_src u) (k_fr u) (k_e1 u) (k_e2 u) (k_ends u) (k_fal u) g (k_fls u) (k_fnd u) (k_pf u) (k_pl u) (k_pw u) (k_pc u)) → va_S (va_A (wC q u) s.heap.size) s.heap H locs → lv_has ls 3 [(0, .ref (ca_f q)), (1, .int (nI f)), (2, .int (nI i))] → W p l e (headSpec w_F_lay ({ frames := 3, cells := 0, slots := 0, locals := 65 })).room s m [Value.ref (ca_f q), Value.int (nI f)].toArray below meth c H locs 0 0 (MQ below (va_Qv (fun z : CSt => ∃ g, (∀ t, t < k_nS u → g t = 0) ∧ z = k_s_ways (k_s_lett u (kl u f)) (kWs u (kl u f) g (k_nV u))) (qB (dC, dI) vwCl (tC q) (wC q u) s.heap.size (wC q)) (va_A (wC q u) s.heap.size)) [Value.ref (ca_f q), Value.int (nI f)].toArray s 0 0 (va_A (wC q u) s.heap.size)) (F0 m 14 ls []) := by
    intro n14
    induction n14 with
    | zero => intro i g hi14 hg14 hm; exact absurd hm (Nat.not_lt_zero _)
    | succ n14 ih14 =>
      intro i g hi14 hg14 hm14 H locs ls hP hD hS hl
      refine lv_iload_n hx hb d_F_lay_14 rfl (lv_at hl 2 rfl) ?_
      refine lv_aload_n hx hb d_F_lay_15 rfl (lv_at hl 0 rfl) ?_
      refine va_get (D := (dC, dI)) (ci := 1) (v := .ref (ca_p q)) (C := "SeatProofs$Flow") (T := F_F) (N := 4) hx hb hts (iu_F _) hown hK hP 2 rfl rfl 0 (by decide) (hts _ (List.mem_cons_of_mem _ iw_83)) (fun _ h9 => h9) rfl d_F_lay_16 ?_
      refine va_getN (D := (dC, dI)) (ci := 0) (v := .int (nI (k_nS u))) (C := "SeatProofs$Plant") (T := F_P) (N := 12) hx hb hts (iu_P _) hown hK hP 1 rfl rfl 0 (by decide) (NW.use hN in_28) (fun _ h9 => h9) rfl d_F_lay_19 ?_
      refine nv_ge (tgt := 38) hx hb d_F_lay_22 (by decide) (by omega) (by omega) (fun c_2 => ?_) (fun c_2 => ?_)
      · refine lv_iconst (v := nI 0) hx hb d_F_lay_38 (by decide) ?_
        refine lv_istore_n (lv' := [(2, .int (nI 0)), (0, .ref (ca_f q)), (1, .int (nI f))]) hx hb d_F_lay_39 rfl hl (by decide) rfl (fun ls hl => ?_)
        have L40 : ∀ (n40 : Nat) (x : Nat) (w : Nat → Int64), (x ≤ k_nV u) → (w = kWs u (kl u f) g x) → k_nV u - x < n40 → ∀ (H : Heap) (locs : List Loc) (ls : Array Slot), va_P (dC, dI) vwCl (wCx q (k_fu u) (k_re u) (k_nS u) (k_nV u) (k_opn u) (k_uns u) (k_dbl u) r_1 (k_cnt u) (k_lev u) (k_src u) (k_fr u) (k_e1 u) (k_e2 u) (k_ends u) (k_fal u) w (k_fls u) (k_fnd u) (k_pf u) (k_pl u) (k_pw u) (k_pc u)) H → va_D (va_A (wC q u) s.heap.size) (wCx q (k_fu u) (k_re u) (k_nS u) (k_nV u) (k_opn u) (k_uns u) (k_dbl u) r_1 (k_cnt u) (k_lev u) (k_src u) (k_fr u) (k_e1 u) (k_e2 u) (k_ends u) (k_fal u) w (k_fls u) (k_fnd u) (k_pf u) (k_pl u) (k_pw u) (k_pc u)) → va_S (va_A (wC q u) s.heap.size) s.heap H locs → lv_has ls 3 [(0, .ref (ca_f q)), (2, .int (nI x))] → W p l e (headSpec w_F_lay ({ frames := 3, cells := 0, slots := 0, locals := 65 })).room s m [Value.ref (ca_f q), Value.int (nI f)].toArray below meth c H locs 0 0 (MQ below (va_Qv (fun z : CSt => ∃ g, (∀ t, t < k_nS u → g t = 0) ∧ z = k_s_ways (k_s_lett u (kl u f)) (kWs u (kl u f) g (k_nV u))) (qB (dC, dI) vwCl (tC q) (wC q u) s.heap.size (wC q)) (va_A (wC q u) s.heap.size)) [Value.ref (ca_f q), Value.int (nI f)].toArray s 0 0 (va_A (wC q u) s.heap.size)) (F0 m 40 ls []) := by
          intro n40
          induction n40 with
          | zero => intro x w hx40 hw40 hm; exact absurd hm (Nat.not_lt_zero _)
          | succ n40 ih40 =>
            intro x w hx40 hw40 hm40 H locs ls hP hD hS hl
            refine lv_iload_n hx hb d_F_lay_40 rfl (lv_at hl 1 rfl) ?_
            refine lv_aload_n hx hb d_F_lay_41 rfl (lv_at hl 0 rfl) ?_
            refine va_get (D := (dC, dI)) (ci := 1) (v := .ref (ca_p q)) (C := "SeatProofs$Flow") (T := F_F) (N := 4) hx hb hts (iu_F _) hown hK hP 2 rfl rfl 0 (by decide) (hts _ (List.mem_cons_of_mem _ iw_83)) (fun _ h9 => h9) rfl d_F_lay_42 ?_
            refine va_getN (D := (dC, dI)) (ci := 0) (v := .int (nI (k_nV u))) (C := "SeatProofs$Plant") (T := F_P) (N := 12) hx hb hts (iu_P _) hown hK hP 1 rfl rfl 1 (by decide) (NW.use hN in_30) (fun _ h9 => h9) rfl d_F_lay_45 ?_
            refine nv_ge (tgt := 114) hx hb d_F_lay_48 (by decide) (by omega) (by omega) (fun c_3 => ?_) (fun c_3 => ?_)
            · exact W.vret hx hb hr (fun t9 ht9 hW9 => ⟨⟨(k_mk (k_fu u) (k_re u) (k_nS u) (k_nV u) (k_opn u) (k_uns u) (k_dbl u) r_1 (k_cnt u) (k_lev u) (k_src u) (k_fr u) (k_e1 u) (k_e2 u) (k_ends u) (k_fal u) w (k_fls u) (k_fnd u) (k_pf u) (k_pl u) (k_pw u) (k_pc u)), rfl, ⟨g, fun t ht => hg14 t (by omega), by rw [show kWs u (kl u f) g (k_nV u) = w from by rw [hw40, show x = k_nV u from by omega], ← hr_1]⟩, by rw [ht9]; exact hP, va_K.moved hW9.alike hK, hD⟩, hS.F ht9⟩) hS.2.2 d_F_lay_114
            · refine lv_aload_n hx hb d_F_lay_51 rfl (lv_at hl 0 rfl) ?_
              refine va_get (D := (dC, dI)) (ci := 1) (v := .long r_1) (C := "SeatProofs$Flow") (T := F_F) (N := 4) hx hb hts (iu_F _) hown hK hP 2 rfl rfl 1 (by decide) (hts _ (List.mem_cons_of_mem _ iw_84)) (fun _ h9 => h9) rfl d_F_lay_52 ?_
              refine lv_iload_n hx hb d_F_lay_55 rfl (lv_at hl 1 rfl) ?_
              refine vp_callSi (va_Run.run (va_runSN (As := [.long r_1, .int (nI x)]) (rest := []) ⟨hx, hb, hml, hown, hts⟩ (c_S_has l r_1 x (by omega)) ⟨va_cnB 2 hts (good_up gg_S_has) rfl rfl rfl (hN _ in_221) (hts _ (List.mem_cons_of_mem _ iw_1)) (by decide +kernel) ⟨Nat.le_of_ble_eq_true rfl, Nat.le_of_ble_eq_true rfl⟩, hts _ (List.mem_cons_of_mem _ iw_191), trivial⟩ (ps_0 [.long r_1, .int (nI x)] hN) rfl rfl hl.1 rfl (lv_room (Nat.le_of_ble_eq_true rfl)) d_F_lay_56 ⟨Nat.le_of_ble_eq_true rfl, Nat.le_of_ble_eq_true rfl⟩)) (fun r_4 hr_4 => ?_)
              subst hr_4
              refine b0_eq (tgt := 108) hx hb d_F_lay_59 (by decide) (fun c_5 => ?_) (fun c_5 => ?_)
              · refine lv_iinc (v := nI (x + 1)) (lv' := [(2, .int (nI (x + 1))), (0, .ref (ca_f q))]) hx hb d_F_lay_108 hl (k := 1) rfl (nI_1 _) (by decide) rfl (fun ls hl => ?_)
                refine lv_goto (tgt := 40) hx hb d_F_lay_111 (by decide) ?_
                exact ih40 (x + 1) w (by omega) (by rw [kWs, ← hr_1, if_neg (fun q => absurd (q.symm.trans c_5) (by decide)), hr_1]; exact hw40) (by omega) _ _ ls hP hD hS (lv_sub hl [1, 0] rfl)
              · refine lv_aload_n hx hb d_F_lay_62 rfl (lv_at hl 0 rfl) ?_
                refine lv_iload_n hx hb d_F_lay_63 rfl (lv_at hl 1 rfl) ?_
                refine lv_aload_n hx hb d_F_lay_64 rfl (lv_at hl 0 rfl) ?_
                refine va_get (D := (dC, dI)) (ci := 1) (v := .ref (ca_p q)) (C := "SeatProofs$Flow") (T := F_F) (N := 4) hx hb hts (iu_F _) hown hK hP 2 rfl rfl 0 (by decide) (hts _ (List.mem_cons_of_mem _ iw_83)) (fun _ h9 => h9) rfl d_F_lay_65 ?_
                refine va_getN (D := (dC, dI)) (ci := 0) (v := .ref (ca_e1 q)) (C := "SeatProofs$Plant") (T := F_P) (N := 12) hx hb hts (iu_P _) hown hK hP 1 rfl rfl 5 (by decide) (NW.use hN in_37) (fun _ h9 => h9) rfl d_F_lay_68 ?_
                refine lv_iload_n hx hb d_F_lay_71 rfl (lv_at hl 1 rfl) ?_
                refine ld_i hx hb hK hP 7 0 rfl rfl (nI (k_e1 u x)) (by omega) (by decide) rfl d_F_lay_72 ?_
                refine lv_aload_n hx hb d_F_lay_73 rfl (lv_at hl 0 rfl) ?_
                refine va_get (D := (dC, dI)) (ci := 1) (v := .ref (ca_p q)) (C := "SeatProofs$Flow") (T := F_F) (N := 4) hx hb hts (iu_F _) hown hK hP 2 rfl rfl 0 (by decide) (hts _ (List.mem_cons_of_mem _ iw_83)) (fun _ h9 => h9) rfl d_F_lay_74 ?_
                refine va_getN (D := (dC, dI)) (ci := 0) (v := .ref (ca_e2 q)) (C := "SeatProofs$Plant") (T := F_P) (N := 12) hx hb hts (iu_P _) hown hK hP 1 rfl rfl 6 (by decide) (NW.use hN in_40) (fun _ h9 => h9) rfl d_F_lay_77 ?_
                refine lv_iload_n hx hb d_F_lay_80 rfl (lv_at hl 1 rfl) ?_
                refine ld_i hx hb hK hP 8 0 rfl rfl (nI (k_e2 u x)) (by omega) (by decide) rfl d_F_lay_81 ?_
                refine cq_v (va_runV (As := [.int (nI x), .int (nI (k_e1 u x)), .int (nI (k_e2 u x))]) (rest := []) ⟨hx, hb, hml, hown, hts⟩ (c_F_layWay l dC dI q (k_mk (k_fu u) (k_re u) (k_nS u) (k_nV u) (k_opn u) (k_uns u) (k_dbl u) r_1 (k_cnt u) (k_lev u) (k_src u) (k_fr u) (k_e1 u) (k_e2 u) (k_ends u) (k_fal u) w (k_fls u) (k_fnd u) (k_pf u) (k_pl u) (k_pw u) (k_pc u)) _ x (k_e1 u x) (k_e2 u x) (by omega) (by first | exact h2 _ | exact h3 _)) (cwV 3 hts (good_up (good_V iw_222 iw_224 ip_1 iw_3 gg_F_layWay)) rfl rfl rfl (by decide +kernel) ⟨Nat.le_of_ble_eq_true rfl, Nat.le_of_ble_eq_true rfl⟩) (pv_Q [.int (nI x), .int (nI (k_e1 u x)), .int (nI (k_e2 u x))] hN hK hP hD (ci := 1) (q0 := 2) rfl rfl) rfl rfl hl.1 rfl (lv_room (Nat.le_of_ble_eq_true rfl)) d_F_lay_82 ⟨Nat.le_of_ble_eq_true rfl, Nat.le_of_ble_eq_true rfl⟩) hD hS hA (fun z_7 H locs hr_6 hP hD hS => ?_)
                rw [lw_cg (u := (k_mk (k_fu u) (k_re u) (k_nS u) (k_nV u) (k_opn u) (k_uns u) (k_dbl u) r_1 (k_cnt u) (k_lev u) (k_src u) (k_fr u) (k_e1 u) (k_e2 u) (k_ends u) (k_fal u) w (k_fls u) (k_fnd u) (k_pf u) (k_pl u) (k_pw u) (k_pc u))) (v := u) rfl, k_mk_ways] at hr_6
                generalize hy_10 : lw u w x (k_e1 u x) (k_e2 u x) = y_9 at hr_6
                subst hr_6
                have hP : va_P (dC, dI) vwCl (wCx q (k_fu u) (k_re u) (k_nS u) (k_nV u) (k_opn u) (k_uns u) (k_dbl u) r_1 (k_cnt u) (k_lev u) (k_src u) (k_fr u) (k_e1 u) (k_e2 u) (k_ends u) (k_fal u) y_9 (k_fls u) (k_fnd u) (k_pf u) (k_pl u) (k_pw u) (k_pc u)) H := hP
                have hD : va_D (va_A (wC q u) s.heap.size) (wCx q (k_fu u) (k_re u) (k_nS u) (k_nV u) (k_opn u) (k_uns u) (k_dbl u) r_1 (k_cnt u) (k_lev u) (k_src u) (k_fr u) (k_e1 u) (k_e2 u) (k_ends u) (k_fal u) y_9 (k_fls u) (k_fnd u) (k_pf u) (k_pl u) (k_pw u) (k_pc u)) := hD
                refine lv_aload_n hx hb d_F_lay_85 rfl (lv_at hl 0 rfl) ?_
                refine lv_iload_n hx hb d_F_lay_86 rfl (lv_at hl 1 rfl) ?_
                refine lv_aload_n hx hb d_F_lay_87 rfl (lv_at hl 0 rfl) ?_
                refine va_get (D := (dC, dI)) (ci := 1) (v := .ref (ca_p q)) (C := "SeatProofs$Flow") (T := F_F) (N := 4) hx hb hts (iu_F _) hown hK hP 2 rfl rfl 0 (by decide) (hts _ (List.mem_cons_of_mem _ iw_83)) (fun _ h9 => h9) rfl d_F_lay_88 ?_
                refine va_getN (D := (dC, dI)) (ci := 0) (v := .ref (ca_e2 q)) (C := "SeatProofs$Plant") (T := F_P) (N := 12) hx hb hts (iu_P _) hown hK hP 1 rfl rfl 6 (by decide) (NW.use hN in_40) (fun _ h9 => h9) rfl d_F_lay_91 ?_
                refine lv_iload_n hx hb d_F_lay_94 rfl (lv_at hl 1 rfl) ?_
                refine ld_i hx hb hK hP 8 0 rfl rfl (nI (k_e2 u x)) (by omega) (by decide) rfl d_F_lay_95 ?_
                refine lv_aload_n hx hb d_F_lay_96 rfl (lv_at hl 0 rfl) ?_
                refine va_get (D := (dC, dI)) (ci := 1) (v := .ref (ca_p q)) (C := "SeatProofs$Flow") (T := F_F) (N := 4) hx hb hts (iu_F _) hown hK hP 2 rfl rfl 0 (by decide) (hts _ (List.mem_cons_of_mem _ iw_83)) (fun _ h9 => h9) rfl d_F_lay_97 ?_
                refine va_getN (D := (dC, dI)) (ci := 0) (v := .ref (ca_e1 q)) (C := "SeatProofs$Plant") (T := F_P) (N := 12) hx hb hts (iu_P _) hown hK hP 1 rfl rfl 5 (by decide) (NW.use hN in_37) (fun _ h9 => h9) rfl d_F_lay_100 ?_
                refine lv_iload_n hx hb d_F_lay_103 rfl (lv_at hl 1 rfl) ?_
                refine ld_i hx hb hK hP 7 0 rfl rfl (nI (k_e1 u x)) (by omega) (by decide) rfl d_F_lay_104 ?_
                refine cq_v (va_runV (As := [.int (nI x), .int (nI (k_e2 u x)), .int (nI (k_e1 u x))]) (rest := []) ⟨hx, hb, hml, hown, hts⟩ (c_F_layWay l dC dI q (k_mk (k_fu u) (k_re u) (k_nS u) (k_nV u) (k_opn u) (k_uns u) (k_dbl u) r_1 (k_cnt u) (k_lev u) (k_src u) (k_fr u) (k_e1 u) (k_e2 u) (k_ends u) (k_fal u) y_9 (k_fls u) (k_fnd u) (k_pf u) (k_pl u) (k_pw u) (k_pc u)) _ x (k_e2 u x) (k_e1 u x) (by omega) (by first | exact h2 _ | exact h3 _)) (cwV 3 hts (good_up (good_V iw_222 iw_224 ip_1 iw_3 gg_F_layWay)) rfl rfl rfl (by decide +kernel) ⟨Nat.le_of_ble_eq_true rfl, Nat.le_of_ble_eq_true rfl⟩) (pv_Q [.int (nI x), .int (nI (k_e2 u x)), .int (nI (k_e1 u x))] hN hK hP hD (ci := 1) (q0 := 2) rfl rfl) rfl rfl hl.1 rfl (lv_room (Nat.le_of_ble_eq_true rfl)) d_F_lay_105 ⟨Nat.le_of_ble_eq_true rfl, Nat.le_of_ble_eq_true rfl⟩) hD hS hA (fun z_12 H locs hr_11 hP hD hS => ?_)
                rw [lw_cg (u := (k_mk (k_fu u) (k_re u) (k_nS u) (k_nV u) (k_opn u) (k_uns u) (k_dbl u) r_1 (k_cnt u) (k_lev u) (k_src u) (k_fr u) (k_e1 u) (k_e2 u) (k_ends u) (k_fal u) y_9 (k_fls u) (k_fnd u) (k_pf u) (k_pl u) (k_pw u) (k_pc u))) (v := u) rfl, k_mk_ways] at hr_11
                generalize hy_15 : lw u y_9 x (k_e2 u x) (k_e1 u x) = y_14 at hr_11
                subst hr_11
                have hP : va_P (dC, dI) vwCl (wCx q (k_fu u) (k_re u) (k_nS u) (k_nV u) (k_opn u) (k_uns u) (k_dbl u) r_1 (k_cnt u) (k_lev u) (k_src u) (k_fr u) (k_e1 u) (k_e2 u) (k_ends u) (k_fal u) y_14 (k_fls u) (k_fnd u) (k_pf u) (k_pl u) (k_pw u) (k_pc u)) H := hP
                have hD : va_D (va_A (wC q u) s.heap.size) (wCx q (k_fu u) (k_re u) (k_nS u) (k_nV u) (k_opn u) (k_uns u) (k_dbl u) r_1 (k_cnt u) (k_lev u) (k_src u) (k_fr u) (k_e1 u) (k_e2 u) (k_ends u) (k_fal u) y_14 (k_fls u) (k_fnd u) (k_pf u) (k_pl u) (k_pw u) (k_pc u)) := hD
                refine lv_iinc (v := nI (x + 1)) (lv' := [(2, .int (nI (x + 1))), (0, .ref (ca_f q))]) hx hb d_F_lay_108 hl (k := 1) rfl (nI_1 _) (by decide) rfl (fun ls hl => ?_)
                refine lv_goto (tgt := 40) hx hb d_F_lay_111 (by decide) ?_
                exact ih40 (x + 1) y_14 (by omega) (by rw [kWs, ← hr_1, if_pos c_5, hr_1, ← hw40, hy_10, hy_15]) (by omega) _ _ ls hP hD hS (lv_sub hl [1, 0] rfl)
        exact L40 _ 0 g (Nat.zero_le _) rfl (Nat.lt_succ_self _) _ _ ls hP hD hS (lv_sub hl [1, 0] rfl)
      · refine lv_aload_n hx hb d_F_lay_25 rfl (lv_at hl 0 rfl) ?_
        refine va_get (D := (dC, dI)) (ci := 1) (v := .ref (ca_ways q)) (C := "SeatProofs$Flow") (T := F_F) (N := 4) hx hb hts (iu_F _) hown hK hP 2 rfl rfl 2 (by decide) (hts _ (List.mem_cons_of_mem _ iw_85)) (fun _ h9 => h9) rfl d_F_lay_26 ?_
        refine lv_iload_n hx hb d_F_lay_29 rfl (lv_at hl 2 rfl) ?_
        refine lv_lconst (v := 0) hx hb d_F_lay_30 (by decide) ?_
        obtain ⟨y_16, hy_17⟩ : ∃ z99 : Nat → Int64, z99 = va_up g i 0 := ⟨_, rfl⟩
        refine st_l hx hb hK hP hD hS 11 1 rfl rfl (y_16) (by omega) (by decide) ((updL_up _ _ _).trans (by rw [hy_17])) d_F_lay_31 (fun H locs hP hD hS => ?_)
        have hP : va_P (dC, dI) vwCl (wCx q (k_fu u) (k_re u) (k_nS u) (k_nV u) (k_opn u) (k_uns u) (k_dbl u) r_1 (k_cnt u) (k_lev u) (k_src u) (k_fr u) (k_e1 u) (k_e2 u) (k_ends u) (k_fal u) y_16 (k_fls u) (k_fnd u) (k_pf u) (k_pl u) (k_pw u) (k_pc u)) H := hP
        have hD : va_D (va_A (wC q u) s.heap.size) (wCx q (k_fu u) (k_re u) (k_nS u) (k_nV u) (k_opn u) (k_uns u) (k_dbl u) r_1 (k_cnt u) (k_lev u) (k_src u) (k_fr u) (k_e1 u) (k_e2 u) (k_ends u) (k_fal u) y_16 (k_fls u) (k_fnd u) (k_pf u) (k_pl u) (k_pw u) (k_pc u)) := hD
        refine lv_iinc (v := nI (i + 1)) (lv' := [(2, .int (nI (i + 1))), (0, .ref (ca_f q)), (1, .int (nI f))]) hx hb d_F_lay_32 hl (k := 2) rfl (nI_1 _) (by decide) rfl (fun ls hl => ?_)
        refine lv_goto (tgt := 14) hx hb d_F_lay_35 (by decide) ?_
        subst hy_17
        exact ih14 (i + 1) (va_up g i 0) (by omega) (up_lt (h := fun _ => (0 : Int64)) hg14 rfl) (by omega) _ _ ls hP hD hS (lv_sub hl [1, 2, 0] rfl)
  exact L14 _ 0 (k_ways u) (Nat.zero_le _) (fun t ht => absurd ht (Nat.not_lt_zero t)) (Nat.lt_succ_self _) _ _ ls hP hD hS (lv_sub hl [1, 2, 0] rfl)
