theorem mTh_e {u : MSt} {a : Nat} (h : m_nS u = 0) : mTh u a = false := by unfold mTh; rw [h]; rfl
set_option maxHeartbeats 4000000 in
set_option maxRecDepth 100000 in
theorem c_M_check0 (l : Launch) (dC : Nat → ClassId) (dI : Nat → Nat → Nat) (q : MA) (u : MSt) (sz : Nat) (hu : MOk u) (h0 : m_nR u = 0) (h1 : m_nS u = 0) : Met l y_M_check w_M_check ({ frames := 3, cells := 0, slots := 0, locals := 78 }) (qPc (dC, dI) vwCl (tM q) (wM q u) sz [Value.ref (ma_o q)]) (va_Qi (fun (r : Int32) (z : MSt) => r = nI 0 ∧ ∃ w, z = m_s_th (m_s_wet u w) 0) (qB (dC, dI) vwCl (tM q) (wM q u) sz (wM q)) (va_A (wM q u) sz)) 0 0 (va_A (wM q u) sz) := by
  refine Met.ofW (cc := b_M_check) (maxL := 5) (ret := (some .int)) (by decide) rfl ?_
  intro p e s m args below meth c s₁ B hml hv
  obtain ⟨rfl, hsz, hP, hK, hD0, hN⟩ := hv
  have hx := B.exec
  have hb := B.bytes
  have hr := B.returns
  have hts := atoms_spec (ws := w_M_check) B.pre
  have hown : s.vm.findClass "SeatProofsModel" = some m.cls := findClass_of_methodNamed B.named
  have hlocks := B.notSynchronized
  subst hsz
  have hD := hD0.self (sz := s.heap.size)
  have hA : ∀ z : Nat, s.heap.size ≤ z → va_A (wM q u) s.heap.size z := fun z h => Or.inr h
  have hS : va_S (va_A (wM q u) s.heap.size) s.heap s.heap [] := va_S.rf
  have hl := lv_entry ([Value.ref (ma_o q)]) (n := 5) (Nat.le_of_ble_eq_true rfl)
  rw [lg_entry_eq]
  generalize (lg_sl ([Value.ref (ma_o q)]) ++ List.replicate (5 - (lg_sl ([Value.ref (ma_o q)])).length) Slot.unset).toArray = ls at hl ⊢
  have hl : lv_has ls 5 [(0, .ref (ma_o q))] := hl
  obtain ⟨k1, k2, k3, k4, k5, k6, k7, k8, k9, k10, k11⟩ := id hu
  refine lv_aload_n hx hb d_M_check_0 rfl (lv_at hl 0 rfl) ?_
  refine lv_iconst (v := nI 0) hx hb d_M_check_1 (by decide) ?_
  refine va_put (D := (dC, dI)) (ci := 4) (v := .int (nI 0)) (ty := .int) (C := "SeatProofsModel") (T := F_M) (N := 20) hx hb hts (iu_M _) t_M t_M_ok n_M hown hK hP hD hS 0 rfl rfl 18 (by decide) (hts _ (List.mem_cons_of_mem _ iw_458)) (fun _ h9 => h9) rfl (by decide +kernel) rfl rfl (Nat.le_of_ble_eq_true rfl) d_M_check_2 (fun H locs hP hD hS => ?_)
  have hP : va_P (dC, dI) vwCl (wMx q (m_liq u) (m_lev u) (m_nS u) (m_fa u) (m_fb u) (m_seat u) (m_op u) (m_un u) (m_nV u) (m_may u) (m_nR u) (m_rf u) (m_rl u) (m_rw u) (m_rc u) (m_cul u) (m_gu u) (m_te u) 0 (m_wet u)) H := hP
  have hD : va_D (va_A (wM q u) s.heap.size) (wMx q (m_liq u) (m_lev u) (m_nS u) (m_fa u) (m_fb u) (m_seat u) (m_op u) (m_un u) (m_nV u) (m_may u) (m_nR u) (m_rf u) (m_rl u) (m_rw u) (m_rc u) (m_cul u) (m_gu u) (m_te u) 0 (m_wet u)) := hD
  refine lv_iconst (v := nI 0) hx hb d_M_check_5 (by decide) ?_
  refine lv_istore_n (lv' := [(1, .int (nI 0)), (0, .ref (ma_o q))]) hx hb d_M_check_6 rfl hl (by decide) rfl (fun ls hl => ?_)
  have L7 : ∀ (n7 : Nat) (k : Nat) (w : Nat → Bool), (k ≤ m_nR u) → m_nR u - k < n7 → ∀ (H : Heap) (locs : List Loc) (ls : Array Slot), va_P (dC, dI) vwCl (wMx q (m_liq u) (m_lev u) (m_nS u) (m_fa u) (m_fb u) (m_seat u) (m_op u) (m_un u) (m_nV u) (m_may u) (m_nR u) (m_rf u) (m_rl u) (m_rw u) (m_rc u) (m_cul u) (m_gu u) (m_te u) 0 w) H → va_D (va_A (wM q u) s.heap.size) (wMx q (m_liq u) (m_lev u) (m_nS u) (m_fa u) (m_fb u) (m_seat u) (m_op u) (m_un u) (m_nV u) (m_may u) (m_nR u) (m_rf u) (m_rl u) (m_rw u) (m_rc u) (m_cul u) (m_gu u) (m_te u) 0 w) → va_S (va_A (wM q u) s.heap.size) s.heap H locs → lv_has ls 5 [(0, .ref (ma_o q)), (1, .int (nI k))] → W p l e (headSpec w_M_check ({ frames := 3, cells := 0, slots := 0, locals := 78 })).room s m [Value.ref (ma_o q)].toArray below meth c H locs 0 0 (MQ below (va_Qi (fun (r : Int32) (z : MSt) => r = nI 0 ∧ ∃ w, z = m_s_th (m_s_wet u w) 0) (qB (dC, dI) vwCl (tM q) (wM q u) s.heap.size (wM q)) (va_A (wM q u) s.heap.size)) [Value.ref (ma_o q)].toArray s 0 0 (va_A (wM q u) s.heap.size)) (F0 m 7 ls []) := by
    intro n7
    induction n7 with
    | zero => intro k w hk7 hm; exact absurd hm (Nat.not_lt_zero _)
    | succ n7 ih7 =>
      intro k w hk7 hm7 H locs ls hP hD hS hl
      refine lv_iload_n hx hb d_M_check_7 rfl (lv_at hl 1 rfl) ?_
      refine lv_aload_n hx hb d_M_check_8 rfl (lv_at hl 0 rfl) ?_
      refine va_get (D := (dC, dI)) (ci := 4) (v := .int (nI (m_nR u))) (C := "SeatProofsModel") (T := F_M) (N := 20) hx hb hts (iu_M _) hown hK hP 0 rfl rfl 10 (by decide) (hts _ (List.mem_cons_of_mem _ iw_450)) (fun _ h9 => h9) rfl d_M_check_9 ?_
      refine nv_ge (tgt := 33) hx hb d_M_check_12 (by decide) (by omega) (by omega) (fun c_1 => ?_) (fun c_1 => ?_)
      · refine lv_iconst (v := nI 0) hx hb d_M_check_33 (by decide) ?_
        refine lv_istore_n (lv' := [(1, .int (nI 0)), (0, .ref (ma_o q))]) hx hb d_M_check_34 rfl hl (by decide) rfl (fun ls hl => ?_)
        have L35 : ∀ (n35 : Nat) (f : Nat), (f ≤ m_nV u + 1) → m_nV u + 1 - f < n35 → ∀ (H : Heap) (locs : List Loc) (ls : Array Slot), va_P (dC, dI) vwCl (wMx q (m_liq u) (m_lev u) (m_nS u) (m_fa u) (m_fb u) (m_seat u) (m_op u) (m_un u) (m_nV u) (m_may u) (m_nR u) (m_rf u) (m_rl u) (m_rw u) (m_rc u) (m_cul u) (m_gu u) (m_te u) 0 w) H → va_D (va_A (wM q u) s.heap.size) (wMx q (m_liq u) (m_lev u) (m_nS u) (m_fa u) (m_fb u) (m_seat u) (m_op u) (m_un u) (m_nV u) (m_may u) (m_nR u) (m_rf u) (m_rl u) (m_rw u) (m_rc u) (m_cul u) (m_gu u) (m_te u) 0 w) → va_S (va_A (wM q u) s.heap.size) s.heap H locs → lv_has ls 5 [(0, .ref (ma_o q)), (1, .int (nI f))] → W p l e (headSpec w_M_check ({ frames := 3, cells := 0, slots := 0, locals := 78 })).room s m [Value.ref (ma_o q)].toArray below meth c H locs 0 0 (MQ below (va_Qi (fun (r : Int32) (z : MSt) => r = nI 0 ∧ ∃ w, z = m_s_th (m_s_wet u w) 0) (qB (dC, dI) vwCl (tM q) (wM q u) s.heap.size (wM q)) (va_A (wM q u) s.heap.size)) [Value.ref (ma_o q)].toArray s 0 0 (va_A (wM q u) s.heap.size)) (F0 m 35 ls []) := by
          intro n35
          induction n35 with
          | zero => intro f hf35 hm; exact absurd hm (Nat.not_lt_zero _)
          | succ n35 ih35 =>
            intro f hf35 hm35 H locs ls hP hD hS hl
            refine lv_iload_n hx hb d_M_check_35 rfl (lv_at hl 1 rfl) ?_
            refine lv_aload_n hx hb d_M_check_36 rfl (lv_at hl 0 rfl) ?_
            refine va_get (D := (dC, dI)) (ci := 4) (v := .int (nI (m_nV u))) (C := "SeatProofsModel") (T := F_M) (N := 20) hx hb hts (iu_M _) hown hK hP 0 rfl rfl 8 (by decide) (hts _ (List.mem_cons_of_mem _ iw_448)) (fun _ h9 => h9) rfl d_M_check_37 ?_
            refine nv_gt (tgt := 138) hx hb d_M_check_40 (by decide) (by omega) (by omega) (fun c_2 => ?_) (fun c_2 => ?_)
            · refine lv_iconst (v := nI 0) hx hb d_M_check_138 (by decide) ?_
              exact W.iret hx hb hr (fun t9 ht9 hW9 => ⟨⟨_, (m_mk (m_liq u) (m_lev u) (m_nS u) (m_fa u) (m_fb u) (m_seat u) (m_op u) (m_un u) (m_nV u) (m_may u) (m_nR u) (m_rf u) (m_rl u) (m_rw u) (m_rc u) (m_cul u) (m_gu u) (m_te u) 0 w), rfl, ⟨rfl, w, rfl⟩, by rw [ht9]; exact hP, va_K.moved hW9.alike hK, hD⟩, hS.F ht9⟩) hS.2.2 d_M_check_139
            · refine lv_iconst (v := nI 1) hx hb d_M_check_43 (by decide) ?_
              refine lv_istore_n (lv' := [(2, .int (nI 1)), (0, .ref (ma_o q)), (1, .int (nI f))]) hx hb d_M_check_44 rfl hl (by decide) rfl (fun ls hl => ?_)
              have L45 : ∀ (n45 : Nat) (l9 : Nat), (1 ≤ l9) → (l9 ≤ 16) → 16 - l9 < n45 → ∀ (H : Heap) (locs : List Loc) (ls : Array Slot), va_P (dC, dI) vwCl (wMx q (m_liq u) (m_lev u) (m_nS u) (m_fa u) (m_fb u) (m_seat u) (m_op u) (m_un u) (m_nV u) (m_may u) (m_nR u) (m_rf u) (m_rl u) (m_rw u) (m_rc u) (m_cul u) (m_gu u) (m_te u) 0 w) H → va_D (va_A (wM q u) s.heap.size) (wMx q (m_liq u) (m_lev u) (m_nS u) (m_fa u) (m_fb u) (m_seat u) (m_op u) (m_un u) (m_nV u) (m_may u) (m_nR u) (m_rf u) (m_rl u) (m_rw u) (m_rc u) (m_cul u) (m_gu u) (m_te u) 0 w) → va_S (va_A (wM q u) s.heap.size) s.heap H locs → lv_has ls 5 [(0, .ref (ma_o q)), (1, .int (nI f)), (2, .int (nI l9))] → W p l e (headSpec w_M_check ({ frames := 3, cells := 0, slots := 0, locals := 78 })).room s m [Value.ref (ma_o q)].toArray below meth c H locs 0 0 (MQ below (va_Qi (fun (r : Int32) (z : MSt) => r = nI 0 ∧ ∃ w, z = m_s_th (m_s_wet u w) 0) (qB (dC, dI) vwCl (tM q) (wM q u) s.heap.size (wM q)) (va_A (wM q u) s.heap.size)) [Value.ref (ma_o q)].toArray s 0 0 (va_A (wM q u) s.heap.size)) (F0 m 45 ls []) := by
                intro n45
                induction n45 with
                | zero => intro l9 hl45 hl45b hm; exact absurd hm (Nat.not_lt_zero _)
                | succ n45 ih45 =>
                  intro l9 hl45 hl45b hm45 H locs ls hP hD hS hl
                  refine lv_iload_n hx hb d_M_check_45 rfl (lv_at hl 2 rfl) ?_
                  refine lv_bipush (v := nI 16) hx hb d_M_check_46 (by decide) ?_
                  refine nv_ge (tgt := 132) hx hb d_M_check_48 (by decide) (by omega) (by omega) (fun c_3 => ?_) (fun c_3 => ?_)
                  · refine lv_iinc (v := nI (f + 1)) (lv' := [(1, .int (nI (f + 1))), (0, .ref (ma_o q)), (2, .int (nI l9))]) hx hb d_M_check_132 hl (k := 1) rfl (nI_1 _) (by decide) rfl (fun ls hl => ?_)
                    refine lv_goto (tgt := 35) hx hb d_M_check_135 (by decide) ?_
                    exact ih35 (f + 1) (by omega) (by omega) _ _ ls hP hD hS (lv_sub hl [1, 0] rfl)
                  · refine lv_aload_n hx hb d_M_check_51 rfl (lv_at hl 0 rfl) ?_
                    refine lv_iload_n hx hb d_M_check_52 rfl (lv_at hl 2 rfl) ?_
                    refine vp_callSi (va_Run.run (va_runV (As := [.int (nI l9)]) (rest := []) ⟨hx, hb, hml, hown, hts⟩ (c_M_isThere l dC dI q (m_mk (m_liq u) (m_lev u) (m_nS u) (m_fa u) (m_fb u) (m_seat u) (m_op u) (m_un u) (m_nV u) (m_may u) (m_nR u) (m_rf u) (m_rl u) (m_rw u) (m_rc u) (m_cul u) (m_gu u) (m_te u) 0 w) l9 hu (by omega)) (cwV 1 hts (good_up (good_V iw_530 iw_532 ip_10 iw_5 gg_M_isThere)) rfl rfl rfl (by decide +kernel) ⟨Nat.le_of_ble_eq_true rfl, Nat.le_of_ble_eq_true rfl⟩) (pv_S [.int (nI l9)] hN hK hP (ci := 4) (q0 := 0) rfl rfl) rfl rfl hl.1 rfl (lv_room (Nat.le_of_ble_eq_true rfl)) d_M_check_53 ⟨Nat.le_of_ble_eq_true rfl, Nat.le_of_ble_eq_true rfl⟩)) (fun r_4 hr_4 => ?_)
                    subst hr_4
                    refine tp_i (bI (mTh u l9)) (congrArg bI (mTh_cg rfl rfl)) ?_
                    refine b0_ne (tgt := 63) hx hb d_M_check_56 (by decide) (fun c_5 => ?_) (fun c_5 => ?_)
                    · exact absurd (c_5.symm.trans (mTh_e h1)) (by decide)
                    · refine lv_iconst (v := nI 1) hx hb d_M_check_59 (by decide) ?_
                      refine lv_goto (tgt := 64) hx hb d_M_check_60 (by decide) ?_
                      refine lv_istore_n (lv' := [(3, .int (nI 1)), (0, .ref (ma_o q)), (1, .int (nI f)), (2, .int (nI l9))]) hx hb d_M_check_64 rfl hl (by decide) rfl (fun ls hl => ?_)
                      refine lv_iconst (v := nI 0) hx hb d_M_check_65 (by decide) ?_
                      refine lv_istore (lv' := [(4, .int (nI 0)), (3, .int (nI 1)), (0, .ref (ma_o q)), (1, .int (nI f)), (2, .int (nI l9))]) hx hb d_M_check_66 hl (by decide) rfl (fun ls hl => ?_)
                      refine lv_iload hx hb d_M_check_68 (lv_at hl 0 rfl) ?_
                      refine lv_aload_n hx hb d_M_check_70 rfl (lv_at hl 2 rfl) ?_
                      refine va_get (D := (dC, dI)) (ci := 4) (v := .int (nI (m_nR u))) (C := "SeatProofsModel") (T := F_M) (N := 20) hx hb hts (iu_M _) hown hK hP 0 rfl rfl 10 (by decide) (hts _ (List.mem_cons_of_mem _ iw_450)) (fun _ h9 => h9) rfl d_M_check_71 ?_
                      refine nv_ge (tgt := 115) hx hb d_M_check_74 (by decide) (by omega) (by omega) (fun c_6 => ?_) (fun c_6 => ?_)
                      · refine lv_iload_n hx hb d_M_check_115 rfl (lv_at hl 1 rfl) ?_
                        refine n0_ne (tgt := 126) hx hb d_M_check_116 (by decide) (by omega) (fun c_7 => ?_) (fun c_7 => ?_)
                        · refine lv_iinc (v := nI (l9 + 1)) (lv' := [(2, .int (nI (l9 + 1))), (4, .int (nI 0)), (3, .int (nI 1)), (0, .ref (ma_o q)), (1, .int (nI f))]) hx hb d_M_check_126 hl (k := 4) rfl (nI_1 _) (by decide) rfl (fun ls hl => ?_)
                          refine lv_goto (tgt := 45) hx hb d_M_check_129 (by decide) ?_
                          exact ih45 (l9 + 1) (by omega) (by omega) (by omega) _ _ ls hP hD hS (lv_sub hl [3, 4, 0] rfl)
                        · exact absurd c_7 (by decide)
                      · exact (show False by omega).elim
              exact L45 _ 1 (by omega) (by omega) (Nat.lt_succ_self _) _ _ ls hP hD hS (lv_sub hl [1, 2, 0] rfl)
        exact L35 _ 0 (Nat.zero_le _) (Nat.lt_succ_self _) _ _ ls hP hD hS (lv_sub hl [1, 0] rfl)
      · exact (show False by omega).elim
  exact L7 _ 0 (m_wet u) (Nat.zero_le _) (Nat.lt_succ_self _) _ _ ls hP hD hS (lv_sub hl [1, 0] rfl)
