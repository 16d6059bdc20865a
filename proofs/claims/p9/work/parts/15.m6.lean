set_option maxHeartbeats 4000000 in
set_option maxRecDepth 100000 in
theorem c_M_isRight (l : Launch) (dC : Nat → ClassId) (dI : Nat → Nat → Nat) (q : MA) (u : MSt) (sz : Nat) (k : Nat) (hu : MOk u) (hk : k < 975) : Met l y_M_isRight w_M_isRight ({ frames := 2, cells := 0, slots := 0, locals := 53 }) (qPc (dC, dI) vwCl (tM q) (wM q u) sz [Value.ref (ma_o q), Value.int (nI k)]) (va_Qi (fun (r : Int32) (z : MSt) => ∃ w b, z = m_s_wet u w ∧ r = bI b) (qB (dC, dI) vwCl (tM q) (wM q u) sz (wM q)) (va_A (wM q u) sz)) 0 0 (va_A (wM q u) sz) := by
  refine Met.ofW (cc := b_M_isRight) (maxL := 6) (ret := (some .boolean)) (by decide) rfl ?_
  intro p e s m args below meth c s₁ B hml hv
  obtain ⟨rfl, hsz, hP, hK, hD0, hN⟩ := hv
  have hx := B.exec
  have hb := B.bytes
  have hr := B.returns
  have hts := atoms_spec (ws := w_M_isRight) B.pre
  have hown : s.vm.findClass "SeatProofsModel" = some m.cls := findClass_of_methodNamed B.named
  have hlocks := B.notSynchronized
  subst hsz
  have hD := hD0.self (sz := s.heap.size)
  have hA : ∀ z : Nat, s.heap.size ≤ z → va_A (wM q u) s.heap.size z := fun z h => Or.inr h
  have hS : va_S (va_A (wM q u) s.heap.size) s.heap s.heap [] := va_S.rf
  have hl := lv_entry ([Value.ref (ma_o q), Value.int (nI k)]) (n := 6) (Nat.le_of_ble_eq_true rfl)
  rw [lg_entry_eq]
  generalize (lg_sl ([Value.ref (ma_o q), Value.int (nI k)]) ++ List.replicate (6 - (lg_sl ([Value.ref (ma_o q), Value.int (nI k)])).length) Slot.unset).toArray = ls at hl ⊢
  have hl : lv_has ls 6 [(0, .ref (ma_o q)), (1, .int (nI k))] := hl
  obtain ⟨k1, k2, k3, k4, k5, k6, k7, k8, k9, k10, k11⟩ := id hu
  refine lv_aload_n hx hb d_M_isRight_0 rfl (lv_at hl 0 rfl) ?_
  refine lv_aload_n hx hb d_M_isRight_1 rfl (lv_at hl 0 rfl) ?_
  refine va_get (D := (dC, dI)) (ci := 4) (v := .ref (ma_rl q)) (C := "SeatProofsModel") (T := F_M) (N := 20) hx hb hts (iu_M _) hown hK hP 0 rfl rfl 12 (by decide) (hts _ (List.mem_cons_of_mem _ iw_452)) (fun _ h9 => h9) rfl d_M_isRight_2 ?_
  refine lv_iload_n hx hb d_M_isRight_5 rfl (lv_at hl 1 rfl) ?_
  refine ld_i hx hb hK hP 10 0 rfl rfl (nI (m_rl u k)) (by omega) (by decide) rfl d_M_isRight_6 ?_
  refine lv_aload_n hx hb d_M_isRight_7 rfl (lv_at hl 0 rfl) ?_
  refine va_get (D := (dC, dI)) (ci := 4) (v := .ref (ma_rf q)) (C := "SeatProofsModel") (T := F_M) (N := 20) hx hb hts (iu_M _) hown hK hP 0 rfl rfl 11 (by decide) (hts _ (List.mem_cons_of_mem _ iw_451)) (fun _ h9 => h9) rfl d_M_isRight_8 ?_
  refine lv_iload_n hx hb d_M_isRight_11 rfl (lv_at hl 1 rfl) ?_
  refine ld_i hx hb hK hP 9 0 rfl rfl (nI (m_rf u k)) (by omega) (by decide) rfl d_M_isRight_12 ?_
  refine cq_l (va_runV (As := [.int (nI (m_rl u k)), .int (nI (m_rf u k))]) (rest := []) ⟨hx, hb, hml, hown, hts⟩ (c_M_flood l dC dI q u _ (m_rl u k) (m_rf u k) hu (k8 _) (k7 _)) (cwV 2 hts (good_up (good_V iw_530 iw_532 ip_11 iw_5 gg_M_flood)) rfl rfl rfl (by decide +kernel) ⟨Nat.le_of_ble_eq_true rfl, Nat.le_of_ble_eq_true rfl⟩) (pv_Q [.int (nI (m_rl u k)), .int (nI (m_rf u k))] hN hK hP hD (ci := 4) (q0 := 0) rfl rfl) rfl rfl hl.1 rfl (lv_room (Nat.le_of_ble_eq_true rfl)) d_M_isRight_13 ⟨Nat.le_of_ble_eq_true rfl, Nat.le_of_ble_eq_true rfl⟩) hD hS hA (fun r_3 z_2 H locs hr_1 hP hD hS => ?_)
  obtain ⟨w_4, rfl, rfl⟩ := hr_1
  have hP : va_P (dC, dI) vwCl (wMx q (m_liq u) (m_lev u) (m_nS u) (m_fa u) (m_fb u) (m_seat u) (m_op u) (m_un u) (m_nV u) (m_may u) (m_nR u) (m_rf u) (m_rl u) (m_rw u) (m_rc u) (m_cul u) (m_gu u) (m_te u) (m_th u) w_4) H := hP
  have hD : va_D (va_A (wM q u) s.heap.size) (wMx q (m_liq u) (m_lev u) (m_nS u) (m_fa u) (m_fb u) (m_seat u) (m_op u) (m_un u) (m_nV u) (m_may u) (m_nR u) (m_rf u) (m_rl u) (m_rw u) (m_rc u) (m_cul u) (m_gu u) (m_te u) (m_th u) w_4) := hD
  refine tp_l (mF u (m_rl u k) (m_rf u k)) (mF_cg rfl rfl rfl rfl rfl rfl rfl rfl rfl) ?_
  refine lv_lstore_n (lv' := [(2, .long (mF u (m_rl u k) (m_rf u k))), (0, .ref (ma_o q)), (1, .int (nI k))]) hx hb d_M_isRight_16 rfl hl (by decide) rfl (fun ls hl => ?_)
  have L54 : ∀ (b : Bool), ∀ (H : Heap) (locs : List Loc) (ls : Array Slot), va_P (dC, dI) vwCl (wMx q (m_liq u) (m_lev u) (m_nS u) (m_fa u) (m_fb u) (m_seat u) (m_op u) (m_un u) (m_nV u) (m_may u) (m_nR u) (m_rf u) (m_rl u) (m_rw u) (m_rc u) (m_cul u) (m_gu u) (m_te u) (m_th u) w_4) H → va_D (va_A (wM q u) s.heap.size) (wMx q (m_liq u) (m_lev u) (m_nS u) (m_fa u) (m_fb u) (m_seat u) (m_op u) (m_un u) (m_nV u) (m_may u) (m_nR u) (m_rf u) (m_rl u) (m_rw u) (m_rc u) (m_cul u) (m_gu u) (m_te u) (m_th u) w_4) → va_S (va_A (wM q u) s.heap.size) s.heap H locs → lv_has ls 6 [(0, .ref (ma_o q)), (1, .int (nI k)), (2, .long (mF u (m_rl u k) (m_rf u k)))] → W p l e (headSpec w_M_isRight ({ frames := 2, cells := 0, slots := 0, locals := 53 })).room s m [Value.ref (ma_o q), Value.int (nI k)].toArray below meth c H locs 0 0 (MQ below (va_Qi (fun (r : Int32) (z : MSt) => ∃ w b, z = m_s_wet u w ∧ r = bI b) (qB (dC, dI) vwCl (tM q) (wM q u) s.heap.size (wM q)) (va_A (wM q u) s.heap.size)) [Value.ref (ma_o q), Value.int (nI k)].toArray s 0 0 (va_A (wM q u) s.heap.size)) (F0 m 54 ls [.int (bI b)]) := by
    intro b  H locs ls hP hD hS hl
    refine lv_istore (lv' := [(4, .int (bI b)), (0, .ref (ma_o q)), (1, .int (nI k)), (2, .long (mF u (m_rl u k) (m_rf u k)))]) hx hb d_M_isRight_54 hl (by decide) rfl (fun ls hl => ?_)
    refine lv_iconst (v := nI 0) hx hb d_M_isRight_56 (by decide) ?_
    refine lv_istore (lv' := [(5, .int (nI 0)), (4, .int (bI b)), (0, .ref (ma_o q)), (1, .int (nI k)), (2, .long (mF u (m_rl u k) (m_rf u k)))]) hx hb d_M_isRight_57 hl (by decide) rfl (fun ls hl => ?_)
    have L59 : ∀ (n59 : Nat) (i : Nat) (b2 : Bool), (i ≤ m_nS u) → m_nS u - i < n59 → ∀ (H : Heap) (locs : List Loc) (ls : Array Slot), va_P (dC, dI) vwCl (wMx q (m_liq u) (m_lev u) (m_nS u) (m_fa u) (m_fb u) (m_seat u) (m_op u) (m_un u) (m_nV u) (m_may u) (m_nR u) (m_rf u) (m_rl u) (m_rw u) (m_rc u) (m_cul u) (m_gu u) (m_te u) (m_th u) w_4) H → va_D (va_A (wM q u) s.heap.size) (wMx q (m_liq u) (m_lev u) (m_nS u) (m_fa u) (m_fb u) (m_seat u) (m_op u) (m_un u) (m_nV u) (m_may u) (m_nR u) (m_rf u) (m_rl u) (m_rw u) (m_rc u) (m_cul u) (m_gu u) (m_te u) (m_th u) w_4) → va_S (va_A (wM q u) s.heap.size) s.heap H locs → lv_has ls 6 [(0, .ref (ma_o q)), (1, .int (nI k)), (2, .long (mF u (m_rl u k) (m_rf u k))), (4, .int (bI b2)), (5, .int (nI i))] → W p l e (headSpec w_M_isRight ({ frames := 2, cells := 0, slots := 0, locals := 53 })).room s m [Value.ref (ma_o q), Value.int (nI k)].toArray below meth c H locs 0 0 (MQ below (va_Qi (fun (r : Int32) (z : MSt) => ∃ w b, z = m_s_wet u w ∧ r = bI b) (qB (dC, dI) vwCl (tM q) (wM q u) s.heap.size (wM q)) (va_A (wM q u) s.heap.size)) [Value.ref (ma_o q), Value.int (nI k)].toArray s 0 0 (va_A (wM q u) s.heap.size)) (F0 m 59 ls []) := by
      intro n59
      induction n59 with
      | zero => intro i b2 hi59 hm; exact absurd hm (Nat.not_lt_zero _)
      | succ n59 ih59 =>
        intro i b2 hi59 hm59 H locs ls hP hD hS hl
        refine lv_iload hx hb d_M_isRight_59 (lv_at hl 4 rfl) ?_
        refine lv_aload_n hx hb d_M_isRight_61 rfl (lv_at hl 0 rfl) ?_
        refine va_get (D := (dC, dI)) (ci := 4) (v := .int (nI (m_nS u))) (C := "SeatProofsModel") (T := F_M) (N := 20) hx hb hts (iu_M _) hown hK hP 0 rfl rfl 2 (by decide) (hts _ (List.mem_cons_of_mem _ iw_442)) (fun _ h9 => h9) rfl d_M_isRight_62 ?_
        refine nv_ge (tgt := 146) hx hb d_M_isRight_65 (by decide) (by omega) (by omega) (fun c_5 => ?_) (fun c_5 => ?_)
        · refine lv_iload hx hb d_M_isRight_146 (lv_at hl 3 rfl) ?_
          exact W.zret hx hb hr (bI_narrow _) (fun t9 ht9 hW9 => ⟨⟨_, (m_mk (m_liq u) (m_lev u) (m_nS u) (m_fa u) (m_fb u) (m_seat u) (m_op u) (m_un u) (m_nV u) (m_may u) (m_nR u) (m_rf u) (m_rl u) (m_rw u) (m_rc u) (m_cul u) (m_gu u) (m_te u) (m_th u) w_4), rfl, ⟨w_4, b2, rfl, rfl⟩, by rw [ht9]; exact hP, va_K.moved hW9.alike hK, hD⟩, hS.F ht9⟩) hS.2.2 d_M_isRight_148
        · refine lv_iload hx hb d_M_isRight_68 (lv_at hl 3 rfl) ?_
          refine b0_eq (tgt := 146) hx hb d_M_isRight_70 (by decide) (fun c_6 => ?_) (fun c_6 => ?_)
          · refine lv_iload hx hb d_M_isRight_146 (lv_at hl 3 rfl) ?_
            exact W.zret hx hb hr (bI_narrow _) (fun t9 ht9 hW9 => ⟨⟨_, (m_mk (m_liq u) (m_lev u) (m_nS u) (m_fa u) (m_fb u) (m_seat u) (m_op u) (m_un u) (m_nV u) (m_may u) (m_nR u) (m_rf u) (m_rl u) (m_rw u) (m_rc u) (m_cul u) (m_gu u) (m_te u) (m_th u) w_4), rfl, ⟨w_4, b2, rfl, rfl⟩, by rw [ht9]; exact hP, va_K.moved hW9.alike hK, hD⟩, hS.F ht9⟩) hS.2.2 d_M_isRight_148
          · refine lv_lload_n hx hb d_M_isRight_73 rfl (lv_at hl 2 rfl) ?_
            refine lv_iload hx hb d_M_isRight_74 (lv_at hl 4 rfl) ?_
            refine vp_callSi (va_Run.run (va_runS (As := [.long (mF u (m_rl u k) (m_rf u k)), .int (nI i)]) (rest := []) ⟨hx, hb, hml, hown, hts⟩ (c_M_has l (mF u (m_rl u k) (m_rf u k)) i (by omega)) (va_cwS 2 hts (good_up (good_S iw_542 iw_543 iw_5 gg_M_has)) rfl rfl rfl (by decide +kernel) ⟨Nat.le_of_ble_eq_true rfl, Nat.le_of_ble_eq_true rfl⟩) (ps_0 [.long (mF u (m_rl u k) (m_rf u k)), .int (nI i)] hN) rfl rfl hl.1 rfl (lv_room (Nat.le_of_ble_eq_true rfl)) d_M_isRight_76 ⟨Nat.le_of_ble_eq_true rfl, Nat.le_of_ble_eq_true rfl⟩)) (fun r_7 hr_7 => ?_)
            subst hr_7
            refine b0_eq (tgt := 133) hx hb d_M_isRight_79 (by decide) (fun c_8 => ?_) (fun c_8 => ?_)
            · refine lv_iconst (v := nI 1) hx hb d_M_isRight_133 (by decide) ?_
              refine lv_goto (tgt := 138) hx hb d_M_isRight_134 (by decide) ?_
              refine lv_istore (lv' := [(4, .int (nI 1)), (0, .ref (ma_o q)), (1, .int (nI k)), (2, .long (mF u (m_rl u k) (m_rf u k))), (5, .int (nI i))]) hx hb d_M_isRight_138 hl (by decide) rfl (fun ls hl => ?_)
              refine lv_iinc (v := nI (i + 1)) (lv' := [(5, .int (nI (i + 1))), (4, .int (nI 1)), (0, .ref (ma_o q)), (1, .int (nI k)), (2, .long (mF u (m_rl u k) (m_rf u k)))]) hx hb d_M_isRight_140 hl (k := 4) rfl (nI_1 _) (by decide) rfl (fun ls hl => ?_)
              refine lv_goto (tgt := 59) hx hb d_M_isRight_143 (by decide) ?_
              exact ih59 (i + 1) true (by omega) (by omega) _ _ ls hP hD hS (lv_sub hl [2, 3, 4, 1, 0] rfl)
            · refine lv_aload_n hx hb d_M_isRight_82 rfl (lv_at hl 0 rfl) ?_
              refine va_get (D := (dC, dI)) (ci := 4) (v := .ref (ma_liq q)) (C := "SeatProofsModel") (T := F_M) (N := 20) hx hb hts (iu_M _) hown hK hP 0 rfl rfl 0 (by decide) (hts _ (List.mem_cons_of_mem _ iw_440)) (fun _ h9 => h9) rfl d_M_isRight_83 ?_
              refine lv_iload hx hb d_M_isRight_86 (lv_at hl 4 rfl) ?_
              refine ld_i hx hb hK hP 1 0 rfl rfl (nI (m_liq u i)) (by omega) (by decide) rfl d_M_isRight_88 ?_
              refine n0_eq (tgt := 133) hx hb d_M_isRight_89 (by decide) (by have := k4 i; omega) (fun c_9 => ?_) (fun c_9 => ?_)
              · refine lv_iconst (v := nI 1) hx hb d_M_isRight_133 (by decide) ?_
                refine lv_goto (tgt := 138) hx hb d_M_isRight_134 (by decide) ?_
                refine lv_istore (lv' := [(4, .int (nI 1)), (0, .ref (ma_o q)), (1, .int (nI k)), (2, .long (mF u (m_rl u k) (m_rf u k))), (5, .int (nI i))]) hx hb d_M_isRight_138 hl (by decide) rfl (fun ls hl => ?_)
                refine lv_iinc (v := nI (i + 1)) (lv' := [(5, .int (nI (i + 1))), (4, .int (nI 1)), (0, .ref (ma_o q)), (1, .int (nI k)), (2, .long (mF u (m_rl u k) (m_rf u k)))]) hx hb d_M_isRight_140 hl (k := 4) rfl (nI_1 _) (by decide) rfl (fun ls hl => ?_)
                refine lv_goto (tgt := 59) hx hb d_M_isRight_143 (by decide) ?_
                exact ih59 (i + 1) true (by omega) (by omega) _ _ ls hP hD hS (lv_sub hl [2, 3, 4, 1, 0] rfl)
              · refine lv_aload_n hx hb d_M_isRight_92 rfl (lv_at hl 0 rfl) ?_
                refine va_get (D := (dC, dI)) (ci := 4) (v := .ref (ma_liq q)) (C := "SeatProofsModel") (T := F_M) (N := 20) hx hb hts (iu_M _) hown hK hP 0 rfl rfl 0 (by decide) (hts _ (List.mem_cons_of_mem _ iw_440)) (fun _ h9 => h9) rfl d_M_isRight_93 ?_
                refine lv_iload hx hb d_M_isRight_96 (lv_at hl 4 rfl) ?_
                refine ld_i hx hb hK hP 1 0 rfl rfl (nI (m_liq u i)) (by omega) (by decide) rfl d_M_isRight_98 ?_
                refine lv_aload_n hx hb d_M_isRight_99 rfl (lv_at hl 0 rfl) ?_
                refine va_get (D := (dC, dI)) (ci := 4) (v := .ref (ma_rl q)) (C := "SeatProofsModel") (T := F_M) (N := 20) hx hb hts (iu_M _) hown hK hP 0 rfl rfl 12 (by decide) (hts _ (List.mem_cons_of_mem _ iw_452)) (fun _ h9 => h9) rfl d_M_isRight_100 ?_
                refine lv_iload_n hx hb d_M_isRight_103 rfl (lv_at hl 1 rfl) ?_
                refine ld_i hx hb hK hP 10 0 rfl rfl (nI (m_rl u k)) (by omega) (by decide) rfl d_M_isRight_104 ?_
                refine nv_eq (tgt := 133) hx hb d_M_isRight_105 (by decide) (by have := k4 i; omega) (by have := k8 k; omega) (fun c_10 => ?_) (fun c_10 => ?_)
                · refine lv_iconst (v := nI 1) hx hb d_M_isRight_133 (by decide) ?_
                  refine lv_goto (tgt := 138) hx hb d_M_isRight_134 (by decide) ?_
                  refine lv_istore (lv' := [(4, .int (nI 1)), (0, .ref (ma_o q)), (1, .int (nI k)), (2, .long (mF u (m_rl u k) (m_rf u k))), (5, .int (nI i))]) hx hb d_M_isRight_138 hl (by decide) rfl (fun ls hl => ?_)
                  refine lv_iinc (v := nI (i + 1)) (lv' := [(5, .int (nI (i + 1))), (4, .int (nI 1)), (0, .ref (ma_o q)), (1, .int (nI k)), (2, .long (mF u (m_rl u k) (m_rf u k)))]) hx hb d_M_isRight_140 hl (k := 4) rfl (nI_1 _) (by decide) rfl (fun ls hl => ?_)
                  refine lv_goto (tgt := 59) hx hb d_M_isRight_143 (by decide) ?_
                  exact ih59 (i + 1) true (by omega) (by omega) _ _ ls hP hD hS (lv_sub hl [2, 3, 4, 1, 0] rfl)
                · refine lv_aload_n hx hb d_M_isRight_108 rfl (lv_at hl 0 rfl) ?_
                  refine va_get (D := (dC, dI)) (ci := 4) (v := .ref (ma_may q)) (C := "SeatProofsModel") (T := F_M) (N := 20) hx hb hts (iu_M _) hown hK hP 0 rfl rfl 9 (by decide) (hts _ (List.mem_cons_of_mem _ iw_449)) (fun _ h9 => h9) rfl d_M_isRight_109 ?_
                  refine lv_bipush (v := nI 16) hx hb d_M_isRight_112 (by decide) ?_
                  refine lv_aload_n hx hb d_M_isRight_114 rfl (lv_at hl 0 rfl) ?_
                  refine va_get (D := (dC, dI)) (ci := 4) (v := .ref (ma_rl q)) (C := "SeatProofsModel") (T := F_M) (N := 20) hx hb hts (iu_M _) hown hK hP 0 rfl rfl 12 (by decide) (hts _ (List.mem_cons_of_mem _ iw_452)) (fun _ h9 => h9) rfl d_M_isRight_115 ?_
                  refine lv_iload_n hx hb d_M_isRight_118 rfl (lv_at hl 1 rfl) ?_
                  refine ld_i hx hb hK hP 10 0 rfl rfl (nI (m_rl u k)) (by omega) (by decide) rfl d_M_isRight_119 ?_
                  refine lv_imul hx hb d_M_isRight_120 ?_
                  refine tp_i (nI (16 * (m_rl u k))) (pk_mul _ _) ?_
                  refine lv_aload_n hx hb d_M_isRight_121 rfl (lv_at hl 0 rfl) ?_
                  refine va_get (D := (dC, dI)) (ci := 4) (v := .ref (ma_liq q)) (C := "SeatProofsModel") (T := F_M) (N := 20) hx hb hts (iu_M _) hown hK hP 0 rfl rfl 0 (by decide) (hts _ (List.mem_cons_of_mem _ iw_440)) (fun _ h9 => h9) rfl d_M_isRight_122 ?_
                  refine lv_iload hx hb d_M_isRight_125 (lv_at hl 4 rfl) ?_
                  refine ld_i hx hb hK hP 1 0 rfl rfl (nI (m_liq u i)) (by omega) (by decide) rfl d_M_isRight_127 ?_
                  refine lv_iadd hx hb d_M_isRight_128 ?_
                  refine tp_i (nI ((16 * (m_rl u k)) + m_liq u i)) (nI_add _ _) ?_
                  refine ld_z hx hb hK hP 8 2 rfl rfl (bI (m_may u ((16 * (m_rl u k)) + m_liq u i))) (by have := k4 i; have := k8 k; omega) (by decide) rfl d_M_isRight_129 ?_
                  refine b0_eq (tgt := 137) hx hb d_M_isRight_130 (by decide) (fun c_11 => ?_) (fun c_11 => ?_)
                  · refine lv_iconst (v := nI 0) hx hb d_M_isRight_137 (by decide) ?_
                    refine lv_istore (lv' := [(4, .int (nI 0)), (0, .ref (ma_o q)), (1, .int (nI k)), (2, .long (mF u (m_rl u k) (m_rf u k))), (5, .int (nI i))]) hx hb d_M_isRight_138 hl (by decide) rfl (fun ls hl => ?_)
                    refine lv_iinc (v := nI (i + 1)) (lv' := [(5, .int (nI (i + 1))), (4, .int (nI 0)), (0, .ref (ma_o q)), (1, .int (nI k)), (2, .long (mF u (m_rl u k) (m_rf u k)))]) hx hb d_M_isRight_140 hl (k := 4) rfl (nI_1 _) (by decide) rfl (fun ls hl => ?_)
                    refine lv_goto (tgt := 59) hx hb d_M_isRight_143 (by decide) ?_
                    exact ih59 (i + 1) false (by omega) (by omega) _ _ ls hP hD hS (lv_sub hl [2, 3, 4, 1, 0] rfl)
                  · refine lv_iconst (v := nI 1) hx hb d_M_isRight_133 (by decide) ?_
                    refine lv_goto (tgt := 138) hx hb d_M_isRight_134 (by decide) ?_
                    refine lv_istore (lv' := [(4, .int (nI 1)), (0, .ref (ma_o q)), (1, .int (nI k)), (2, .long (mF u (m_rl u k) (m_rf u k))), (5, .int (nI i))]) hx hb d_M_isRight_138 hl (by decide) rfl (fun ls hl => ?_)
                    refine lv_iinc (v := nI (i + 1)) (lv' := [(5, .int (nI (i + 1))), (4, .int (nI 1)), (0, .ref (ma_o q)), (1, .int (nI k)), (2, .long (mF u (m_rl u k) (m_rf u k)))]) hx hb d_M_isRight_140 hl (k := 4) rfl (nI_1 _) (by decide) rfl (fun ls hl => ?_)
                    refine lv_goto (tgt := 59) hx hb d_M_isRight_143 (by decide) ?_
                    exact ih59 (i + 1) true (by omega) (by omega) _ _ ls hP hD hS (lv_sub hl [2, 3, 4, 1, 0] rfl)
    exact L59 _ 0 b (Nat.zero_le _) (Nat.lt_succ_self _) _ _ ls hP hD hS (lv_sub hl [2, 3, 4, 1, 0] rfl)
  refine lv_lload_n hx hb d_M_isRight_17 rfl (lv_at hl 0 rfl) ?_
  refine lv_aload_n hx hb d_M_isRight_18 rfl (lv_at hl 1 rfl) ?_
  refine va_get (D := (dC, dI)) (ci := 4) (v := .ref (ma_rw q)) (C := "SeatProofsModel") (T := F_M) (N := 20) hx hb hts (iu_M _) hown hK hP 0 rfl rfl 13 (by decide) (hts _ (List.mem_cons_of_mem _ iw_453)) (fun _ h9 => h9) rfl d_M_isRight_19 ?_
  refine lv_iload_n hx hb d_M_isRight_22 rfl (lv_at hl 2 rfl) ?_
  refine ld_l hx hb hK hP 11 1 rfl rfl (m_rw u k) (by omega) (by decide) rfl d_M_isRight_23 ?_
  refine W.lcmp hx hb d_M_isRight_24 ?_
  refine l0_ne (tgt := 53) hx hb d_M_isRight_25 (by decide) (fun c_12 => ?_) (fun c_12 => ?_)
  · refine lv_iconst (v := nI 0) hx hb d_M_isRight_53 (by decide) ?_
    refine tp_i (bI false) (by decide) ?_
    exact L54 false _ _ ls hP hD hS (lv_sub hl [1, 2, 0] rfl)
  · refine lv_aload_n hx hb d_M_isRight_28 rfl (lv_at hl 1 rfl) ?_
    refine lv_lload_n hx hb d_M_isRight_29 rfl (lv_at hl 0 rfl) ?_
    refine lv_aload_n hx hb d_M_isRight_30 rfl (lv_at hl 1 rfl) ?_
    refine va_get (D := (dC, dI)) (ci := 4) (v := .ref (ma_rf q)) (C := "SeatProofsModel") (T := F_M) (N := 20) hx hb hts (iu_M _) hown hK hP 0 rfl rfl 11 (by decide) (hts _ (List.mem_cons_of_mem _ iw_451)) (fun _ h9 => h9) rfl d_M_isRight_31 ?_
    refine lv_iload_n hx hb d_M_isRight_34 rfl (lv_at hl 2 rfl) ?_
    refine ld_i hx hb hK hP 9 0 rfl rfl (nI (m_rf u k)) (by omega) (by decide) rfl d_M_isRight_35 ?_
    refine vp_callSl (va_Run.run (va_runV (As := [.long (mF u (m_rl u k) (m_rf u k)), .int (nI (m_rf u k))]) (rest := []) ⟨hx, hb, hml, hown, hts⟩ (c_M_cut l dC dI q (m_mk (m_liq u) (m_lev u) (m_nS u) (m_fa u) (m_fb u) (m_seat u) (m_op u) (m_un u) (m_nV u) (m_may u) (m_nR u) (m_rf u) (m_rl u) (m_rw u) (m_rc u) (m_cul u) (m_gu u) (m_te u) (m_th u) w_4) (mF u (m_rl u k) (m_rf u k)) (m_rf u k) hu (k7 _)) (cwV 2 hts (good_up (good_V iw_538 iw_540 ip_13 iw_5 gg_M_cut)) rfl rfl rfl (by decide +kernel) ⟨Nat.le_of_ble_eq_true rfl, Nat.le_of_ble_eq_true rfl⟩) (pv_S [.long (mF u (m_rl u k) (m_rf u k)), .int (nI (m_rf u k))] hN hK hP (ci := 4) (q0 := 0) rfl rfl) rfl rfl hl.1 rfl (lv_room (Nat.le_of_ble_eq_true rfl)) d_M_isRight_36 ⟨Nat.le_of_ble_eq_true rfl, Nat.le_of_ble_eq_true rfl⟩)) (fun r_13 hr_13 => ?_)
    subst hr_13
    refine tp_l (mC u (mF u (m_rl u k) (m_rf u k)) (m_rf u k)) (mC_cg rfl rfl rfl rfl rfl rfl rfl) ?_
    refine lv_aload_n hx hb d_M_isRight_39 rfl (lv_at hl 1 rfl) ?_
    refine va_get (D := (dC, dI)) (ci := 4) (v := .ref (ma_rc q)) (C := "SeatProofsModel") (T := F_M) (N := 20) hx hb hts (iu_M _) hown hK hP 0 rfl rfl 14 (by decide) (hts _ (List.mem_cons_of_mem _ iw_454)) (fun _ h9 => h9) rfl d_M_isRight_40 ?_
    refine lv_iload_n hx hb d_M_isRight_43 rfl (lv_at hl 2 rfl) ?_
    refine ld_l hx hb hK hP 12 1 rfl rfl (m_rc u k) (by omega) (by decide) rfl d_M_isRight_44 ?_
    refine W.lcmp hx hb d_M_isRight_45 ?_
    refine l0_ne (tgt := 53) hx hb d_M_isRight_46 (by decide) (fun c_14 => ?_) (fun c_14 => ?_)
    · refine lv_iconst (v := nI 0) hx hb d_M_isRight_53 (by decide) ?_
      refine tp_i (bI false) (by decide) ?_
      exact L54 false _ _ ls hP hD hS (lv_sub hl [1, 2, 0] rfl)
    · refine lv_iconst (v := nI 1) hx hb d_M_isRight_49 (by decide) ?_
      refine lv_goto (tgt := 54) hx hb d_M_isRight_50 (by decide) ?_
      refine tp_i (bI true) (by decide) ?_
      exact L54 true _ _ ls hP hD hS (lv_sub hl [1, 2, 0] rfl)
set_option maxHeartbeats 4000000 in
set_option maxRecDepth 100000 in
theorem c_M_check (l : Launch) (dC : Nat → ClassId) (dI : Nat → Nat → Nat) (q : MA) (u : MSt) (sz : Nat) (hu : MOk u) : Met l y_M_check w_M_check ({ frames := 3, cells := 0, slots := 0, locals := 78 }) (qPc (dC, dI) vwCl (tM q) (wM q u) sz [Value.ref (ma_o q)]) (va_Qi (fun (r : Int32) (z : MSt) => ∃ w, z = m_s_th (m_s_wet u w) 0) (qB (dC, dI) vwCl (tM q) (wM q u) sz (wM q)) (va_A (wM q u) sz)) 0 0 (va_A (wM q u) sz) := by
  refine Met.ofW (cc := b_M_check) (maxL := 5) (ret := (some .int)) (by decide) rfl ?_
  intro p e s m args below meth c s₁ B hml hv
  obtain ⟨rfl, hsz, hP, hK, hD0, hN⟩ := hv
  have hx := B.exec
  have hb := B.bytes
  have hr := B.returns
  have hts := atoms_spec (ws := w_M_check) B.pre
  have hown : s.vm.findClass "SeatProofsModel" = some m.cls := findClass_of_methodNamed B.named
  have hlocks := B.notSynchronized
  subst hsz
  have hD := hD0.self (sz := s.heap.size)
  have hA : ∀ z : Nat, s.heap.size ≤ z → va_A (wM q u) s.heap.size z := fun z h => Or.inr h
  have hS : va_S (va_A (wM q u) s.heap.size) s.heap s.heap [] := va_S.rf
  have hl := lv_entry ([Value.ref (ma_o q)]) (n := 5) (Nat.le_of_ble_eq_true rfl)
  rw [lg_entry_eq]
  generalize (lg_sl ([Value.ref (ma_o q)]) ++ List.replicate (5 - (lg_sl ([Value.ref (ma_o q)])).length) Slot.unset).toArray = ls at hl ⊢
  have hl : lv_has ls 5 [(0, .ref (ma_o q))] := hl
  obtain ⟨k1, k2, k3, k4, k5, k6, k7, k8, k9, k10, k11⟩ := id hu
  refine lv_aload_n hx hb d_M_check_0 rfl (lv_at hl 0 rfl) ?_
  refine lv_iconst (v := nI 0) hx hb d_M_check_1 (by decide) ?_
  refine va_put (D := (dC, dI)) (ci := 4) (v := .int (nI 0)) (ty := .int) (C := "SeatProofsModel") (T := F_M) (N := 20) hx hb hts (iu_M _) t_M t_M_ok n_M hown hK hP hD hS 0 rfl rfl 18 (by decide) (hts _ (List.mem_cons_of_mem _ iw_458)) (fun _ h9 => h9) rfl (by decide +kernel) rfl rfl (Nat.le_of_ble_eq_true rfl) d_M_check_2 (fun H locs hP hD hS => ?_)
  have hP : va_P (dC, dI) vwCl (wMx q (m_liq u) (m_lev u) (m_nS u) (m_fa u) (m_fb u) (m_seat u) (m_op u) (m_un u) (m_nV u) (m_may u) (m_nR u) (m_rf u) (m_rl u) (m_rw u) (m_rc u) (m_cul u) (m_gu u) (m_te u) 0 (m_wet u)) H := hP
  have hD : va_D (va_A (wM q u) s.heap.size) (wMx q (m_liq u) (m_lev u) (m_nS u) (m_fa u) (m_fb u) (m_seat u) (m_op u) (m_un u) (m_nV u) (m_may u) (m_nR u) (m_rf u) (m_rl u) (m_rw u) (m_rc u) (m_cul u) (m_gu u) (m_te u) 0 (m_wet u)) := hD
  refine lv_iconst (v := nI 0) hx hb d_M_check_5 (by decide) ?_
  refine lv_istore_n (lv' := [(1, .int (nI 0)), (0, .ref (ma_o q))]) hx hb d_M_check_6 rfl hl (by decide) rfl (fun ls hl => ?_)
  have L7 : ∀ (n7 : Nat) (k : Nat) (w : Nat → Bool), (k ≤ m_nR u) → m_nR u - k < n7 → ∀ (H : Heap) (locs : List Loc) (ls : Array Slot), va_P (dC, dI) vwCl (wMx q (m_liq u) (m_lev u) (m_nS u) (m_fa u) (m_fb u) (m_seat u) (m_op u) (m_un u) (m_nV u) (m_may u) (m_nR u) (m_rf u) (m_rl u) (m_rw u) (m_rc u) (m_cul u) (m_gu u) (m_te u) 0 w) H → va_D (va_A (wM q u) s.heap.size) (wMx q (m_liq u) (m_lev u) (m_nS u) (m_fa u) (m_fb u) (m_seat u) (m_op u) (m_un u) (m_nV u) (m_may u) (m_nR u) (m_rf u) (m_rl u) (m_rw u) (m_rc u) (m_cul u) (m_gu u) (m_te u) 0 w) → va_S (va_A (wM q u) s.heap.size) s.heap H locs → lv_has ls 5 [(0, .ref (ma_o q)), (1, .int (nI k))] → W p l e (headSpec w_M_check ({ frames := 3, cells := 0, slots := 0, locals := 78 })).room s m [Value.ref (ma_o q)].toArray below meth c H locs 0 0 (MQ below (va_Qi (fun (r : Int32) (z : MSt) => ∃ w, z = m_s_th (m_s_wet u w) 0) (qB (dC, dI) vwCl (tM q) (wM q u) s.heap.size (wM q)) (va_A (wM q u) s.heap.size)) [Value.ref (ma_o q)].toArray s 0 0 (va_A (wM q u) s.heap.size)) (F0 m 7 ls []) := by
    intro n7
    induction n7 with
    | zero => intro k w hk7 hm; exact absurd hm (Nat.not_lt_zero _)
    | succ n7 ih7 =>
      intro k w hk7 hm7 H locs ls hP hD hS hl
      refine lv_iload_n hx hb d_M_check_7 rfl (lv_at hl 1 rfl) ?_
      refine lv_aload_n hx hb d_M_check_8 rfl (lv_at hl 0 rfl) ?_
      refine va_get (D := (dC, dI)) (ci := 4) (v := .int (nI (m_nR u))) (C := "SeatProofsModel") (T := F_M) (N := 20) hx hb hts (iu_M _) hown hK hP 0 rfl rfl 10 (by decide) (hts _ (List.mem_cons_of_mem _ iw_450)) (fun _ h9 => h9) rfl d_M_check_9 ?_
      refine nv_ge (tgt := 33) hx hb d_M_check_12 (by decide) (by omega) (by omega) (fun c_1 => ?_) (fun c_1 => ?_)
      · refine lv_iconst (v := nI 0) hx hb d_M_check_33 (by decide) ?_
        refine lv_istore_n (lv' := [(1, .int (nI 0)), (0, .ref (ma_o q))]) hx hb d_M_check_34 rfl hl (by decide) rfl (fun ls hl => ?_)
        have L35 : ∀ (n35 : Nat) (f : Nat), (f ≤ m_nV u + 1) → m_nV u + 1 - f < n35 → ∀ (H : Heap) (locs : List Loc) (ls : Array Slot), va_P (dC, dI) vwCl (wMx q (m_liq u) (m_lev u) (m_nS u) (m_fa u) (m_fb u) (m_seat u) (m_op u) (m_un u) (m_nV u) (m_may u) (m_nR u) (m_rf u) (m_rl u) (m_rw u) (m_rc u) (m_cul u) (m_gu u) (m_te u) 0 w) H → va_D (va_A (wM q u) s.heap.size) (wMx q (m_liq u) (m_lev u) (m_nS u) (m_fa u) (m_fb u) (m_seat u) (m_op u) (m_un u) (m_nV u) (m_may u) (m_nR u) (m_rf u) (m_rl u) (m_rw u) (m_rc u) (m_cul u) (m_gu u) (m_te u) 0 w) → va_S (va_A (wM q u) s.heap.size) s.heap H locs → lv_has ls 5 [(0, .ref (ma_o q)), (1, .int (nI f))] → W p l e (headSpec w_M_check ({ frames := 3, cells := 0, slots := 0, locals := 78 })).room s m [Value.ref (ma_o q)].toArray below meth c H locs 0 0 (MQ below (va_Qi (fun (r : Int32) (z : MSt) => ∃ w, z = m_s_th (m_s_wet u w) 0) (qB (dC, dI) vwCl (tM q) (wM q u) s.heap.size (wM q)) (va_A (wM q u) s.heap.size)) [Value.ref (ma_o q)].toArray s 0 0 (va_A (wM q u) s.heap.size)) (F0 m 35 ls []) := by
          intro n35
          induction n35 with
          | zero => intro f hf35 hm; exact absurd hm (Nat.not_lt_zero _)
          | succ n35 ih35 =>
            intro f hf35 hm35 H locs ls hP hD hS hl
            refine lv_iload_n hx hb d_M_check_35 rfl (lv_at hl 1 rfl) ?_
            refine lv_aload_n hx hb d_M_check_36 rfl (lv_at hl 0 rfl) ?_
            refine va_get (D := (dC, dI)) (ci := 4) (v := .int (nI (m_nV u))) (C := "SeatProofsModel") (T := F_M) (N := 20) hx hb hts (iu_M _) hown hK hP 0 rfl rfl 8 (by decide) (hts _ (List.mem_cons_of_mem _ iw_448)) (fun _ h9 => h9) rfl d_M_check_37 ?_
            refine nv_gt (tgt := 138) hx hb d_M_check_40 (by decide) (by omega) (by omega) (fun c_2 => ?_) (fun c_2 => ?_)
            · refine lv_iconst (v := nI 0) hx hb d_M_check_138 (by decide) ?_
              exact W.iret hx hb hr (fun t9 ht9 hW9 => ⟨⟨_, (m_mk (m_liq u) (m_lev u) (m_nS u) (m_fa u) (m_fb u) (m_seat u) (m_op u) (m_un u) (m_nV u) (m_may u) (m_nR u) (m_rf u) (m_rl u) (m_rw u) (m_rc u) (m_cul u) (m_gu u) (m_te u) 0 w), rfl, ⟨w, rfl⟩, by rw [ht9]; exact hP, va_K.moved hW9.alike hK, hD⟩, hS.F ht9⟩) hS.2.2 d_M_check_139
            · refine lv_iconst (v := nI 1) hx hb d_M_check_43 (by decide) ?_
              refine lv_istore_n (lv' := [(2, .int (nI 1)), (0, .ref (ma_o q)), (1, .int (nI f))]) hx hb d_M_check_44 rfl hl (by decide) rfl (fun ls hl => ?_)
              have L45 : ∀ (n45 : Nat) (l9 : Nat), (1 ≤ l9) → (l9 ≤ 16) → 16 - l9 < n45 → ∀ (H : Heap) (locs : List Loc) (ls : Array Slot), va_P (dC, dI) vwCl (wMx q (m_liq u) (m_lev u) (m_nS u) (m_fa u) (m_fb u) (m_seat u) (m_op u) (m_un u) (m_nV u) (m_may u) (m_nR u) (m_rf u) (m_rl u) (m_rw u) (m_rc u) (m_cul u) (m_gu u) (m_te u) 0 w) H → va_D (va_A (wM q u) s.heap.size) (wMx q (m_liq u) (m_lev u) (m_nS u) (m_fa u) (m_fb u) (m_seat u) (m_op u) (m_un u) (m_nV u) (m_may u) (m_nR u) (m_rf u) (m_rl u) (m_rw u) (m_rc u) (m_cul u) (m_gu u) (m_te u) 0 w) → va_S (va_A (wM q u) s.heap.size) s.heap H locs → lv_has ls 5 [(0, .ref (ma_o q)), (1, .int (nI f)), (2, .int (nI l9))] → W p l e (headSpec w_M_check ({ frames := 3, cells := 0, slots := 0, locals := 78 })).room s m [Value.ref (ma_o q)].toArray below meth c H locs 0 0 (MQ below (va_Qi (fun (r : Int32) (z : MSt) => ∃ w, z = m_s_th (m_s_wet u w) 0) (qB (dC, dI) vwCl (tM q) (wM q u) s.heap.size (wM q)) (va_A (wM q u) s.heap.size)) [Value.ref (ma_o q)].toArray s 0 0 (va_A (wM q u) s.heap.size)) (F0 m 45 ls []) := by
                intro n45
                induction n45 with
                | zero => intro l9 hl45 hl45b hm; exact absurd hm (Nat.not_lt_zero _)
                | succ n45 ih45 =>
                  intro l9 hl45 hl45b hm45 H locs ls hP hD hS hl
                  refine lv_iload_n hx hb d_M_check_45 rfl (lv_at hl 2 rfl) ?_
                  refine lv_bipush (v := nI 16) hx hb d_M_check_46 (by decide) ?_
                  refine nv_ge (tgt := 132) hx hb d_M_check_48 (by decide) (by omega) (by omega) (fun c_3 => ?_) (fun c_3 => ?_)
                  · refine lv_iinc (v := nI (f + 1)) (lv' := [(1, .int (nI (f + 1))), (0, .ref (ma_o q)), (2, .int (nI l9))]) hx hb d_M_check_132 hl (k := 1) rfl (nI_1 _) (by decide) rfl (fun ls hl => ?_)
                    refine lv_goto (tgt := 35) hx hb d_M_check_135 (by decide) ?_
                    exact ih35 (f + 1) (by omega) (by omega) _ _ ls hP hD hS (lv_sub hl [1, 0] rfl)
                  · refine lv_aload_n hx hb d_M_check_51 rfl (lv_at hl 0 rfl) ?_
                    refine lv_iload_n hx hb d_M_check_52 rfl (lv_at hl 2 rfl) ?_
                    refine vp_callSi (va_Run.run (va_runV (As := [.int (nI l9)]) (rest := []) ⟨hx, hb, hml, hown, hts⟩ (c_M_isThere l dC dI q (m_mk (m_liq u) (m_lev u) (m_nS u) (m_fa u) (m_fb u) (m_seat u) (m_op u) (m_un u) (m_nV u) (m_may u) (m_nR u) (m_rf u) (m_rl u) (m_rw u) (m_rc u) (m_cul u) (m_gu u) (m_te u) 0 w) l9 hu (by omega)) (cwV 1 hts (good_up (good_V iw_526 iw_528 ip_10 iw_5 gg_M_isThere)) rfl rfl rfl (by decide +kernel) ⟨Nat.le_of_ble_eq_true rfl, Nat.le_of_ble_eq_true rfl⟩) (pv_S [.int (nI l9)] hN hK hP (ci := 4) (q0 := 0) rfl rfl) rfl rfl hl.1 rfl (lv_room (Nat.le_of_ble_eq_true rfl)) d_M_check_53 ⟨Nat.le_of_ble_eq_true rfl, Nat.le_of_ble_eq_true rfl⟩)) (fun r_4 hr_4 => ?_)
                    subst hr_4
                    refine tp_i (bI (mTh u l9)) (congrArg bI (mTh_cg rfl rfl)) ?_
                    refine b0_ne (tgt := 63) hx hb d_M_check_56 (by decide) (fun c_5 => ?_) (fun c_5 => ?_)
                    · refine lv_iconst (v := nI 0) hx hb d_M_check_63 (by decide) ?_
                      refine lv_istore_n (lv' := [(3, .int (nI 0)), (0, .ref (ma_o q)), (1, .int (nI f)), (2, .int (nI l9))]) hx hb d_M_check_64 rfl hl (by decide) rfl (fun ls hl => ?_)
                      refine lv_iconst (v := nI 0) hx hb d_M_check_65 (by decide) ?_
                      refine lv_istore (lv' := [(4, .int (nI 0)), (3, .int (nI 0)), (0, .ref (ma_o q)), (1, .int (nI f)), (2, .int (nI l9))]) hx hb d_M_check_66 hl (by decide) rfl (fun ls hl => ?_)
                      have L68 : ∀ (n68 : Nat) (k2 : Nat) (b : Bool), (k2 ≤ m_nR u) → m_nR u - k2 < n68 → ∀ (H : Heap) (locs : List Loc) (ls : Array Slot), va_P (dC, dI) vwCl (wMx q (m_liq u) (m_lev u) (m_nS u) (m_fa u) (m_fb u) (m_seat u) (m_op u) (m_un u) (m_nV u) (m_may u) (m_nR u) (m_rf u) (m_rl u) (m_rw u) (m_rc u) (m_cul u) (m_gu u) (m_te u) 0 w) H → va_D (va_A (wM q u) s.heap.size) (wMx q (m_liq u) (m_lev u) (m_nS u) (m_fa u) (m_fb u) (m_seat u) (m_op u) (m_un u) (m_nV u) (m_may u) (m_nR u) (m_rf u) (m_rl u) (m_rw u) (m_rc u) (m_cul u) (m_gu u) (m_te u) 0 w) → va_S (va_A (wM q u) s.heap.size) s.heap H locs → lv_has ls 5 [(0, .ref (ma_o q)), (1, .int (nI f)), (2, .int (nI l9)), (3, .int (bI b)), (4, .int (nI k2))] → W p l e (headSpec w_M_check ({ frames := 3, cells := 0, slots := 0, locals := 78 })).room s m [Value.ref (ma_o q)].toArray below meth c H locs 0 0 (MQ below (va_Qi (fun (r : Int32) (z : MSt) => ∃ w, z = m_s_th (m_s_wet u w) 0) (qB (dC, dI) vwCl (tM q) (wM q u) s.heap.size (wM q)) (va_A (wM q u) s.heap.size)) [Value.ref (ma_o q)].toArray s 0 0 (va_A (wM q u) s.heap.size)) (F0 m 68 ls []) := by
                        intro n68
                        induction n68 with
                        | zero => intro k2 b hk68 hm; exact absurd hm (Nat.not_lt_zero _)
                        | succ n68 ih68 =>
                          intro k2 b hk68 hm68 H locs ls hP hD hS hl
                          refine lv_iload hx hb d_M_check_68 (lv_at hl 4 rfl) ?_
                          refine lv_aload_n hx hb d_M_check_70 rfl (lv_at hl 0 rfl) ?_
                          refine va_get (D := (dC, dI)) (ci := 4) (v := .int (nI (m_nR u))) (C := "SeatProofsModel") (T := F_M) (N := 20) hx hb hts (iu_M _) hown hK hP 0 rfl rfl 10 (by decide) (hts _ (List.mem_cons_of_mem _ iw_450)) (fun _ h9 => h9) rfl d_M_check_71 ?_
                          refine nv_ge (tgt := 115) hx hb d_M_check_74 (by decide) (by omega) (by omega) (fun c_6 => ?_) (fun c_6 => ?_)
                          · refine lv_iload_n hx hb d_M_check_115 rfl (lv_at hl 3 rfl) ?_
                            refine b0_ne (tgt := 126) hx hb d_M_check_116 (by decide) (fun c_7 => ?_) (fun c_7 => ?_)
                            · refine lv_iinc (v := nI (l9 + 1)) (lv' := [(2, .int (nI (l9 + 1))), (0, .ref (ma_o q)), (1, .int (nI f)), (3, .int (bI b)), (4, .int (nI k2))]) hx hb d_M_check_126 hl (k := 2) rfl (nI_1 _) (by decide) rfl (fun ls hl => ?_)
                              refine lv_goto (tgt := 45) hx hb d_M_check_129 (by decide) ?_
                              exact ih45 (l9 + 1) (by omega) (by omega) (by omega) _ _ ls hP hD hS (lv_sub hl [1, 2, 0] rfl)
                            · refine lv_aload_n hx hb d_M_check_119 rfl (lv_at hl 0 rfl) ?_
                              refine va_get (D := (dC, dI)) (ci := 4) (v := .int (nI (m_nR u))) (C := "SeatProofsModel") (T := F_M) (N := 20) hx hb hts (iu_M _) hown hK hP 0 rfl rfl 10 (by decide) (hts _ (List.mem_cons_of_mem _ iw_450)) (fun _ h9 => h9) rfl d_M_check_120 ?_
                              refine lv_iconst (v := nI 1) hx hb d_M_check_123 (by decide) ?_
                              refine lv_iadd hx hb d_M_check_124 ?_
                              refine tp_i (nI (m_nR u + 1)) (nI_add _ _) ?_
                              exact W.iret hx hb hr (fun t9 ht9 hW9 => ⟨⟨_, (m_mk (m_liq u) (m_lev u) (m_nS u) (m_fa u) (m_fb u) (m_seat u) (m_op u) (m_un u) (m_nV u) (m_may u) (m_nR u) (m_rf u) (m_rl u) (m_rw u) (m_rc u) (m_cul u) (m_gu u) (m_te u) 0 w), rfl, ⟨w, rfl⟩, by rw [ht9]; exact hP, va_K.moved hW9.alike hK, hD⟩, hS.F ht9⟩) hS.2.2 d_M_check_125
                          · refine lv_iload_n hx hb d_M_check_77 rfl (lv_at hl 3 rfl) ?_
                            refine b0_ne (tgt := 115) hx hb d_M_check_78 (by decide) (fun c_8 => ?_) (fun c_8 => ?_)
                            · refine lv_iload_n hx hb d_M_check_115 rfl (lv_at hl 3 rfl) ?_
                              refine b0_ne (tgt := 126) hx hb d_M_check_116 (by decide) (fun c_9 => ?_) (fun c_9 => ?_)
                              · refine lv_iinc (v := nI (l9 + 1)) (lv' := [(2, .int (nI (l9 + 1))), (0, .ref (ma_o q)), (1, .int (nI f)), (3, .int (bI b)), (4, .int (nI k2))]) hx hb d_M_check_126 hl (k := 2) rfl (nI_1 _) (by decide) rfl (fun ls hl => ?_)
                                refine lv_goto (tgt := 45) hx hb d_M_check_129 (by decide) ?_
                                exact ih45 (l9 + 1) (by omega) (by omega) (by omega) _ _ ls hP hD hS (lv_sub hl [1, 2, 0] rfl)
                              · refine lv_aload_n hx hb d_M_check_119 rfl (lv_at hl 0 rfl) ?_
                                refine va_get (D := (dC, dI)) (ci := 4) (v := .int (nI (m_nR u))) (C := "SeatProofsModel") (T := F_M) (N := 20) hx hb hts (iu_M _) hown hK hP 0 rfl rfl 10 (by decide) (hts _ (List.mem_cons_of_mem _ iw_450)) (fun _ h9 => h9) rfl d_M_check_120 ?_
                                refine lv_iconst (v := nI 1) hx hb d_M_check_123 (by decide) ?_
                                refine lv_iadd hx hb d_M_check_124 ?_
                                refine tp_i (nI (m_nR u + 1)) (nI_add _ _) ?_
                                exact W.iret hx hb hr (fun t9 ht9 hW9 => ⟨⟨_, (m_mk (m_liq u) (m_lev u) (m_nS u) (m_fa u) (m_fb u) (m_seat u) (m_op u) (m_un u) (m_nV u) (m_may u) (m_nR u) (m_rf u) (m_rl u) (m_rw u) (m_rc u) (m_cul u) (m_gu u) (m_te u) 0 w), rfl, ⟨w, rfl⟩, by rw [ht9]; exact hP, va_K.moved hW9.alike hK, hD⟩, hS.F ht9⟩) hS.2.2 d_M_check_125
                            · refine lv_aload_n hx hb d_M_check_81 rfl (lv_at hl 0 rfl) ?_
                              refine va_get (D := (dC, dI)) (ci := 4) (v := .ref (ma_rf q)) (C := "SeatProofsModel") (T := F_M) (N := 20) hx hb hts (iu_M _) hown hK hP 0 rfl rfl 11 (by decide) (hts _ (List.mem_cons_of_mem _ iw_451)) (fun _ h9 => h9) rfl d_M_check_82 ?_
                              refine lv_iload hx hb d_M_check_85 (lv_at hl 4 rfl) ?_
                              refine ld_i hx hb hK hP 9 0 rfl rfl (nI (m_rf u k2)) (by omega) (by decide) rfl d_M_check_87 ?_
                              refine lv_iload_n hx hb d_M_check_88 rfl (lv_at hl 1 rfl) ?_
                              refine nv_ne (tgt := 107) hx hb d_M_check_89 (by decide) (by have := k7 k2; omega) (by omega) (fun c_10 => ?_) (fun c_10 => ?_)
                              · refine lv_iconst (v := nI 0) hx hb d_M_check_107 (by decide) ?_
                                refine lv_istore_n (lv' := [(3, .int (nI 0)), (0, .ref (ma_o q)), (1, .int (nI f)), (2, .int (nI l9)), (4, .int (nI k2))]) hx hb d_M_check_108 rfl hl (by decide) rfl (fun ls hl => ?_)
                                refine lv_iinc (v := nI (k2 + 1)) (lv' := [(4, .int (nI (k2 + 1))), (3, .int (nI 0)), (0, .ref (ma_o q)), (1, .int (nI f)), (2, .int (nI l9))]) hx hb d_M_check_109 hl (k := 4) rfl (nI_1 _) (by decide) rfl (fun ls hl => ?_)
                                refine lv_goto (tgt := 68) hx hb d_M_check_112 (by decide) ?_
                                exact ih68 (k2 + 1) false (by omega) (by omega) _ _ ls hP hD hS (lv_sub hl [2, 3, 4, 1, 0] rfl)
                              · refine lv_aload_n hx hb d_M_check_92 rfl (lv_at hl 0 rfl) ?_
                                refine va_get (D := (dC, dI)) (ci := 4) (v := .ref (ma_rl q)) (C := "SeatProofsModel") (T := F_M) (N := 20) hx hb hts (iu_M _) hown hK hP 0 rfl rfl 12 (by decide) (hts _ (List.mem_cons_of_mem _ iw_452)) (fun _ h9 => h9) rfl d_M_check_93 ?_
                                refine lv_iload hx hb d_M_check_96 (lv_at hl 4 rfl) ?_
                                refine ld_i hx hb hK hP 10 0 rfl rfl (nI (m_rl u k2)) (by omega) (by decide) rfl d_M_check_98 ?_
                                refine lv_iload_n hx hb d_M_check_99 rfl (lv_at hl 2 rfl) ?_
                                refine nv_ne (tgt := 107) hx hb d_M_check_100 (by decide) (by have := k8 k2; omega) (by omega) (fun c_11 => ?_) (fun c_11 => ?_)
                                · refine lv_iconst (v := nI 0) hx hb d_M_check_107 (by decide) ?_
                                  refine lv_istore_n (lv' := [(3, .int (nI 0)), (0, .ref (ma_o q)), (1, .int (nI f)), (2, .int (nI l9)), (4, .int (nI k2))]) hx hb d_M_check_108 rfl hl (by decide) rfl (fun ls hl => ?_)
                                  refine lv_iinc (v := nI (k2 + 1)) (lv' := [(4, .int (nI (k2 + 1))), (3, .int (nI 0)), (0, .ref (ma_o q)), (1, .int (nI f)), (2, .int (nI l9))]) hx hb d_M_check_109 hl (k := 4) rfl (nI_1 _) (by decide) rfl (fun ls hl => ?_)
                                  refine lv_goto (tgt := 68) hx hb d_M_check_112 (by decide) ?_
                                  exact ih68 (k2 + 1) false (by omega) (by omega) _ _ ls hP hD hS (lv_sub hl [2, 3, 4, 1, 0] rfl)
                                · refine lv_iconst (v := nI 1) hx hb d_M_check_103 (by decide) ?_
                                  refine lv_goto (tgt := 108) hx hb d_M_check_104 (by decide) ?_
                                  refine lv_istore_n (lv' := [(3, .int (nI 1)), (0, .ref (ma_o q)), (1, .int (nI f)), (2, .int (nI l9)), (4, .int (nI k2))]) hx hb d_M_check_108 rfl hl (by decide) rfl (fun ls hl => ?_)
                                  refine lv_iinc (v := nI (k2 + 1)) (lv' := [(4, .int (nI (k2 + 1))), (3, .int (nI 1)), (0, .ref (ma_o q)), (1, .int (nI f)), (2, .int (nI l9))]) hx hb d_M_check_109 hl (k := 4) rfl (nI_1 _) (by decide) rfl (fun ls hl => ?_)
                                  refine lv_goto (tgt := 68) hx hb d_M_check_112 (by decide) ?_
                                  exact ih68 (k2 + 1) true (by omega) (by omega) _ _ ls hP hD hS (lv_sub hl [2, 3, 4, 1, 0] rfl)
                      exact L68 _ 0 false (Nat.zero_le _) (Nat.lt_succ_self _) _ _ ls hP hD hS (lv_sub hl [2, 3, 4, 1, 0] rfl)
                    · refine lv_iconst (v := nI 1) hx hb d_M_check_59 (by decide) ?_
                      refine lv_goto (tgt := 64) hx hb d_M_check_60 (by decide) ?_
                      refine lv_istore_n (lv' := [(3, .int (nI 1)), (0, .ref (ma_o q)), (1, .int (nI f)), (2, .int (nI l9))]) hx hb d_M_check_64 rfl hl (by decide) rfl (fun ls hl => ?_)
                      refine lv_iconst (v := nI 0) hx hb d_M_check_65 (by decide) ?_
                      refine lv_istore (lv' := [(4, .int (nI 0)), (3, .int (nI 1)), (0, .ref (ma_o q)), (1, .int (nI f)), (2, .int (nI l9))]) hx hb d_M_check_66 hl (by decide) rfl (fun ls hl => ?_)
                      have L68 : ∀ (n68 : Nat) (k2 : Nat) (b : Bool), (k2 ≤ m_nR u) → m_nR u - k2 < n68 → ∀ (H : Heap) (locs : List Loc) (ls : Array Slot), va_P (dC, dI) vwCl (wMx q (m_liq u) (m_lev u) (m_nS u) (m_fa u) (m_fb u) (m_seat u) (m_op u) (m_un u) (m_nV u) (m_may u) (m_nR u) (m_rf u) (m_rl u) (m_rw u) (m_rc u) (m_cul u) (m_gu u) (m_te u) 0 w) H → va_D (va_A (wM q u) s.heap.size) (wMx q (m_liq u) (m_lev u) (m_nS u) (m_fa u) (m_fb u) (m_seat u) (m_op u) (m_un u) (m_nV u) (m_may u) (m_nR u) (m_rf u) (m_rl u) (m_rw u) (m_rc u) (m_cul u) (m_gu u) (m_te u) 0 w) → va_S (va_A (wM q u) s.heap.size) s.heap H locs → lv_has ls 5 [(0, .ref (ma_o q)), (1, .int (nI f)), (2, .int (nI l9)), (3, .int (bI b)), (4, .int (nI k2))] → W p l e (headSpec w_M_check ({ frames := 3, cells := 0, slots := 0, locals := 78 })).room s m [Value.ref (ma_o q)].toArray below meth c H locs 0 0 (MQ below (va_Qi (fun (r : Int32) (z : MSt) => ∃ w, z = m_s_th (m_s_wet u w) 0) (qB (dC, dI) vwCl (tM q) (wM q u) s.heap.size (wM q)) (va_A (wM q u) s.heap.size)) [Value.ref (ma_o q)].toArray s 0 0 (va_A (wM q u) s.heap.size)) (F0 m 68 ls []) := by
                        intro n68
                        induction n68 with
                        | zero => intro k2 b hk68 hm; exact absurd hm (Nat.not_lt_zero _)
                        | succ n68 ih68 =>
                          intro k2 b hk68 hm68 H locs ls hP hD hS hl
                          refine lv_iload hx hb d_M_check_68 (lv_at hl 4 rfl) ?_
                          refine lv_aload_n hx hb d_M_check_70 rfl (lv_at hl 0 rfl) ?_
                          refine va_get (D := (dC, dI)) (ci := 4) (v := .int (nI (m_nR u))) (C := "SeatProofsModel") (T := F_M) (N := 20) hx hb hts (iu_M _) hown hK hP 0 rfl rfl 10 (by decide) (hts _ (List.mem_cons_of_mem _ iw_450)) (fun _ h9 => h9) rfl d_M_check_71 ?_
                          refine nv_ge (tgt := 115) hx hb d_M_check_74 (by decide) (by omega) (by omega) (fun c_12 => ?_) (fun c_12 => ?_)
                          · refine lv_iload_n hx hb d_M_check_115 rfl (lv_at hl 3 rfl) ?_
                            refine b0_ne (tgt := 126) hx hb d_M_check_116 (by decide) (fun c_13 => ?_) (fun c_13 => ?_)
                            · refine lv_iinc (v := nI (l9 + 1)) (lv' := [(2, .int (nI (l9 + 1))), (0, .ref (ma_o q)), (1, .int (nI f)), (3, .int (bI b)), (4, .int (nI k2))]) hx hb d_M_check_126 hl (k := 2) rfl (nI_1 _) (by decide) rfl (fun ls hl => ?_)
                              refine lv_goto (tgt := 45) hx hb d_M_check_129 (by decide) ?_
                              exact ih45 (l9 + 1) (by omega) (by omega) (by omega) _ _ ls hP hD hS (lv_sub hl [1, 2, 0] rfl)
                            · refine lv_aload_n hx hb d_M_check_119 rfl (lv_at hl 0 rfl) ?_
                              refine va_get (D := (dC, dI)) (ci := 4) (v := .int (nI (m_nR u))) (C := "SeatProofsModel") (T := F_M) (N := 20) hx hb hts (iu_M _) hown hK hP 0 rfl rfl 10 (by decide) (hts _ (List.mem_cons_of_mem _ iw_450)) (fun _ h9 => h9) rfl d_M_check_120 ?_
                              refine lv_iconst (v := nI 1) hx hb d_M_check_123 (by decide) ?_
                              refine lv_iadd hx hb d_M_check_124 ?_
                              refine tp_i (nI (m_nR u + 1)) (nI_add _ _) ?_
                              exact W.iret hx hb hr (fun t9 ht9 hW9 => ⟨⟨_, (m_mk (m_liq u) (m_lev u) (m_nS u) (m_fa u) (m_fb u) (m_seat u) (m_op u) (m_un u) (m_nV u) (m_may u) (m_nR u) (m_rf u) (m_rl u) (m_rw u) (m_rc u) (m_cul u) (m_gu u) (m_te u) 0 w), rfl, ⟨w, rfl⟩, by rw [ht9]; exact hP, va_K.moved hW9.alike hK, hD⟩, hS.F ht9⟩) hS.2.2 d_M_check_125
                          · refine lv_iload_n hx hb d_M_check_77 rfl (lv_at hl 3 rfl) ?_
                            refine b0_ne (tgt := 115) hx hb d_M_check_78 (by decide) (fun c_14 => ?_) (fun c_14 => ?_)
                            · refine lv_iload_n hx hb d_M_check_115 rfl (lv_at hl 3 rfl) ?_
                              refine b0_ne (tgt := 126) hx hb d_M_check_116 (by decide) (fun c_15 => ?_) (fun c_15 => ?_)
                              · refine lv_iinc (v := nI (l9 + 1)) (lv' := [(2, .int (nI (l9 + 1))), (0, .ref (ma_o q)), (1, .int (nI f)), (3, .int (bI b)), (4, .int (nI k2))]) hx hb d_M_check_126 hl (k := 2) rfl (nI_1 _) (by decide) rfl (fun ls hl => ?_)
                                refine lv_goto (tgt := 45) hx hb d_M_check_129 (by decide) ?_
                                exact ih45 (l9 + 1) (by omega) (by omega) (by omega) _ _ ls hP hD hS (lv_sub hl [1, 2, 0] rfl)
                              · refine lv_aload_n hx hb d_M_check_119 rfl (lv_at hl 0 rfl) ?_
                                refine va_get (D := (dC, dI)) (ci := 4) (v := .int (nI (m_nR u))) (C := "SeatProofsModel") (T := F_M) (N := 20) hx hb hts (iu_M _) hown hK hP 0 rfl rfl 10 (by decide) (hts _ (List.mem_cons_of_mem _ iw_450)) (fun _ h9 => h9) rfl d_M_check_120 ?_
                                refine lv_iconst (v := nI 1) hx hb d_M_check_123 (by decide) ?_
                                refine lv_iadd hx hb d_M_check_124 ?_
                                refine tp_i (nI (m_nR u + 1)) (nI_add _ _) ?_
                                exact W.iret hx hb hr (fun t9 ht9 hW9 => ⟨⟨_, (m_mk (m_liq u) (m_lev u) (m_nS u) (m_fa u) (m_fb u) (m_seat u) (m_op u) (m_un u) (m_nV u) (m_may u) (m_nR u) (m_rf u) (m_rl u) (m_rw u) (m_rc u) (m_cul u) (m_gu u) (m_te u) 0 w), rfl, ⟨w, rfl⟩, by rw [ht9]; exact hP, va_K.moved hW9.alike hK, hD⟩, hS.F ht9⟩) hS.2.2 d_M_check_125
                            · refine lv_aload_n hx hb d_M_check_81 rfl (lv_at hl 0 rfl) ?_
                              refine va_get (D := (dC, dI)) (ci := 4) (v := .ref (ma_rf q)) (C := "SeatProofsModel") (T := F_M) (N := 20) hx hb hts (iu_M _) hown hK hP 0 rfl rfl 11 (by decide) (hts _ (List.mem_cons_of_mem _ iw_451)) (fun _ h9 => h9) rfl d_M_check_82 ?_
                              refine lv_iload hx hb d_M_check_85 (lv_at hl 4 rfl) ?_
                              refine ld_i hx hb hK hP 9 0 rfl rfl (nI (m_rf u k2)) (by omega) (by decide) rfl d_M_check_87 ?_
                              refine lv_iload_n hx hb d_M_check_88 rfl (lv_at hl 1 rfl) ?_
                              refine nv_ne (tgt := 107) hx hb d_M_check_89 (by decide) (by have := k7 k2; omega) (by omega) (fun c_16 => ?_) (fun c_16 => ?_)
                              · refine lv_iconst (v := nI 0) hx hb d_M_check_107 (by decide) ?_
                                refine lv_istore_n (lv' := [(3, .int (nI 0)), (0, .ref (ma_o q)), (1, .int (nI f)), (2, .int (nI l9)), (4, .int (nI k2))]) hx hb d_M_check_108 rfl hl (by decide) rfl (fun ls hl => ?_)
                                refine lv_iinc (v := nI (k2 + 1)) (lv' := [(4, .int (nI (k2 + 1))), (3, .int (nI 0)), (0, .ref (ma_o q)), (1, .int (nI f)), (2, .int (nI l9))]) hx hb d_M_check_109 hl (k := 4) rfl (nI_1 _) (by decide) rfl (fun ls hl => ?_)
                                refine lv_goto (tgt := 68) hx hb d_M_check_112 (by decide) ?_
                                exact ih68 (k2 + 1) false (by omega) (by omega) _ _ ls hP hD hS (lv_sub hl [2, 3, 4, 1, 0] rfl)
                              · refine lv_aload_n hx hb d_M_check_92 rfl (lv_at hl 0 rfl) ?_
                                refine va_get (D := (dC, dI)) (ci := 4) (v := .ref (ma_rl q)) (C := "SeatProofsModel") (T := F_M) (N := 20) hx hb hts (iu_M _) hown hK hP 0 rfl rfl 12 (by decide) (hts _ (List.mem_cons_of_mem _ iw_452)) (fun _ h9 => h9) rfl d_M_check_93 ?_
                                refine lv_iload hx hb d_M_check_96 (lv_at hl 4 rfl) ?_
                                refine ld_i hx hb hK hP 10 0 rfl rfl (nI (m_rl u k2)) (by omega) (by decide) rfl d_M_check_98 ?_
                                refine lv_iload_n hx hb d_M_check_99 rfl (lv_at hl 2 rfl) ?_
                                refine nv_ne (tgt := 107) hx hb d_M_check_100 (by decide) (by have := k8 k2; omega) (by omega) (fun c_17 => ?_) (fun c_17 => ?_)
                                · refine lv_iconst (v := nI 0) hx hb d_M_check_107 (by decide) ?_
                                  refine lv_istore_n (lv' := [(3, .int (nI 0)), (0, .ref (ma_o q)), (1, .int (nI f)), (2, .int (nI l9)), (4, .int (nI k2))]) hx hb d_M_check_108 rfl hl (by decide) rfl (fun ls hl => ?_)
                                  refine lv_iinc (v := nI (k2 + 1)) (lv' := [(4, .int (nI (k2 + 1))), (3, .int (nI 0)), (0, .ref (ma_o q)), (1, .int (nI f)), (2, .int (nI l9))]) hx hb d_M_check_109 hl (k := 4) rfl (nI_1 _) (by decide) rfl (fun ls hl => ?_)
                                  refine lv_goto (tgt := 68) hx hb d_M_check_112 (by decide) ?_
                                  exact ih68 (k2 + 1) false (by omega) (by omega) _ _ ls hP hD hS (lv_sub hl [2, 3, 4, 1, 0] rfl)
                                · refine lv_iconst (v := nI 1) hx hb d_M_check_103 (by decide) ?_
                                  refine lv_goto (tgt := 108) hx hb d_M_check_104 (by decide) ?_
                                  refine lv_istore_n (lv' := [(3, .int (nI 1)), (0, .ref (ma_o q)), (1, .int (nI f)), (2, .int (nI l9)), (4, .int (nI k2))]) hx hb d_M_check_108 rfl hl (by decide) rfl (fun ls hl => ?_)
                                  refine lv_iinc (v := nI (k2 + 1)) (lv' := [(4, .int (nI (k2 + 1))), (3, .int (nI 1)), (0, .ref (ma_o q)), (1, .int (nI f)), (2, .int (nI l9))]) hx hb d_M_check_109 hl (k := 4) rfl (nI_1 _) (by decide) rfl (fun ls hl => ?_)
                                  refine lv_goto (tgt := 68) hx hb d_M_check_112 (by decide) ?_
                                  exact ih68 (k2 + 1) true (by omega) (by omega) _ _ ls hP hD hS (lv_sub hl [2, 3, 4, 1, 0] rfl)
                      exact L68 _ 0 true (Nat.zero_le _) (Nat.lt_succ_self _) _ _ ls hP hD hS (lv_sub hl [2, 3, 4, 1, 0] rfl)
              exact L45 _ 1 (by omega) (by omega) (Nat.lt_succ_self _) _ _ ls hP hD hS (lv_sub hl [1, 2, 0] rfl)
        exact L35 _ 0 (Nat.zero_le _) (Nat.lt_succ_self _) _ _ ls hP hD hS (lv_sub hl [1, 0] rfl)
      · refine lv_aload_n hx hb d_M_check_15 rfl (lv_at hl 0 rfl) ?_
        refine lv_iload_n hx hb d_M_check_16 rfl (lv_at hl 1 rfl) ?_
        refine cq_i (va_runV (As := [.int (nI k)]) (rest := []) ⟨hx, hb, hml, hown, hts⟩ (c_M_isRight l dC dI q (m_mk (m_liq u) (m_lev u) (m_nS u) (m_fa u) (m_fb u) (m_seat u) (m_op u) (m_un u) (m_nV u) (m_may u) (m_nR u) (m_rf u) (m_rl u) (m_rw u) (m_rc u) (m_cul u) (m_gu u) (m_te u) 0 w) _ k hu (by omega)) (cwV 1 hts (good_up (good_V iw_568 iw_570 ip_15 iw_5 gg_M_isRight)) rfl rfl rfl (by decide +kernel) ⟨Nat.le_of_ble_eq_true rfl, Nat.le_of_ble_eq_true rfl⟩) (pv_Q [.int (nI k)] hN hK hP hD (ci := 4) (q0 := 0) rfl rfl) rfl rfl hl.1 rfl (lv_room (Nat.le_of_ble_eq_true rfl)) d_M_check_17 ⟨Nat.le_of_ble_eq_true rfl, Nat.le_of_ble_eq_true rfl⟩) hD hS hA (fun r_20 z_19 H locs hr_18 hP hD hS => ?_)
        obtain ⟨w_21, b_22, rfl, rfl⟩ := hr_18
        have hP : va_P (dC, dI) vwCl (wMx q (m_liq u) (m_lev u) (m_nS u) (m_fa u) (m_fb u) (m_seat u) (m_op u) (m_un u) (m_nV u) (m_may u) (m_nR u) (m_rf u) (m_rl u) (m_rw u) (m_rc u) (m_cul u) (m_gu u) (m_te u) 0 w_21) H := hP
        have hD : va_D (va_A (wM q u) s.heap.size) (wMx q (m_liq u) (m_lev u) (m_nS u) (m_fa u) (m_fb u) (m_seat u) (m_op u) (m_un u) (m_nV u) (m_may u) (m_nR u) (m_rf u) (m_rl u) (m_rw u) (m_rc u) (m_cul u) (m_gu u) (m_te u) 0 w_21) := hD
        refine b0_ne (tgt := 27) hx hb d_M_check_20 (by decide) (fun c_23 => ?_) (fun c_23 => ?_)
        · refine lv_iinc (v := nI (k + 1)) (lv' := [(1, .int (nI (k + 1))), (0, .ref (ma_o q))]) hx hb d_M_check_27 hl (k := 1) rfl (nI_1 _) (by decide) rfl (fun ls hl => ?_)
          refine lv_goto (tgt := 7) hx hb d_M_check_30 (by decide) ?_
          exact ih7 (k + 1) w_21 (by omega) (by omega) _ _ ls hP hD hS (lv_sub hl [1, 0] rfl)
        · refine lv_iload_n hx hb d_M_check_23 rfl (lv_at hl 1 rfl) ?_
          refine lv_iconst (v := nI 1) hx hb d_M_check_24 (by decide) ?_
          refine lv_iadd hx hb d_M_check_25 ?_
          refine tp_i (nI (k + 1)) (nI_add _ _) ?_
          exact W.iret hx hb hr (fun t9 ht9 hW9 => ⟨⟨_, (m_mk (m_liq u) (m_lev u) (m_nS u) (m_fa u) (m_fb u) (m_seat u) (m_op u) (m_un u) (m_nV u) (m_may u) (m_nR u) (m_rf u) (m_rl u) (m_rw u) (m_rc u) (m_cul u) (m_gu u) (m_te u) 0 w_21), rfl, ⟨w_21, rfl⟩, by rw [ht9]; exact hP, va_K.moved hW9.alike hK, hD⟩, hS.F ht9⟩) hS.2.2 d_M_check_26
  exact L7 _ 0 (m_wet u) (Nat.zero_le _) (Nat.lt_succ_self _) _ _ ls hP hD hS (lv_sub hl [1, 0] rfl)
