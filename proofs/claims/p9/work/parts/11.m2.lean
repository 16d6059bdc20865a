set_option maxHeartbeats 4000000 in
set_option maxRecDepth 100000 in
theorem c_M_cut (l : Launch) (dC : Nat → ClassId) (dI : Nat → Nat → Nat) (q : MA) (u : MSt) (x : Int64) (f : Nat) (hu : MOk u) (hf : f < 65) : Met l y_M_cut w_M_cut ({ frames := 1, cells := 0, slots := 0, locals := 23 }) (sPc (dC, dI) vwCl (tM q) (wM q u) [Value.ref (ma_o q), Value.long x, Value.int (nI f)]) (vp_Sl (fun r : Int64 => r = mC u x f)) 0 0 (fun _ => False) := by
  refine Met.ofW (cc := b_M_cut) (maxL := 11) (ret := (some .long)) (by decide) rfl ?_
  intro p e s m args below meth c s₁ B hml hv
  obtain ⟨rfl, hP, hK, hN⟩ := hv
  have hx := B.exec
  have hb := B.bytes
  have hr := B.returns
  have hts := atoms_spec (ws := w_M_cut) B.pre
  have hown : s.vm.findClass "SeatProofsModel" = some m.cls := findClass_of_methodNamed B.named
  have hlocks := B.notSynchronized
  have hl := lv_entry ([Value.ref (ma_o q), Value.long x, Value.int (nI f)]) (n := 11) (Nat.le_of_ble_eq_true rfl)
  rw [lg_entry_eq]
  generalize (lg_sl ([Value.ref (ma_o q), Value.long x, Value.int (nI f)]) ++ List.replicate (11 - (lg_sl ([Value.ref (ma_o q), Value.long x, Value.int (nI f)])).length) Slot.unset).toArray = ls at hl ⊢
  have hl : lv_has ls 11 [(0, .ref (ma_o q)), (1, .long x), (3, .int (nI f))] := hl
  obtain ⟨k1, k2, k3, k4, k5, k6, k7, k8, k9, k10, k11⟩ := id hu
  refine lv_lconst (v := 0) hx hb d_M_cut_0 (by decide) ?_
  refine lv_lstore (lv' := [(4, .long 0), (0, .ref (ma_o q)), (1, .long x), (3, .int (nI f))]) hx hb d_M_cut_1 hl (by decide) rfl (fun ls hl => ?_)
  refine lv_iconst (v := nI 0) hx hb d_M_cut_3 (by decide) ?_
  refine lv_istore (lv' := [(6, .int (nI 0)), (4, .long 0), (0, .ref (ma_o q)), (1, .long x), (3, .int (nI f))]) hx hb d_M_cut_4 hl (by decide) rfl (fun ls hl => ?_)
  have L6 : ∀ (n6 : Nat) (i : Nat) (y : Int64), (i ≤ m_nV u) → (∀ j, tb y j = (decide (j < i) && mCb u x f j)) → m_nV u - i < n6 → ∀ (ls : Array Slot), lv_has ls 11 [(0, .ref (ma_o q)), (1, .long x), (3, .int (nI f)), (4, .long y), (6, .int (nI i))] → W p l e (headSpec w_M_cut ({ frames := 1, cells := 0, slots := 0, locals := 23 })).room s m [Value.ref (ma_o q), Value.long x, Value.int (nI f)].toArray below meth c s.heap [] 0 0 (MQ below (vp_Sl (fun r : Int64 => r = mC u x f)) [Value.ref (ma_o q), Value.long x, Value.int (nI f)].toArray s 0 0 (fun _ => False)) (F0 m 6 ls []) := by
    intro n6
    induction n6 with
    | zero => intro i y hi6 hy6 hm; exact absurd hm (Nat.not_lt_zero _)
    | succ n6 ih6 =>
      intro i y hi6 hy6 hm6 ls hl
      refine lv_iload hx hb d_M_cut_6 (lv_at hl 4 rfl) ?_
      refine lv_aload_n hx hb d_M_cut_8 rfl (lv_at hl 0 rfl) ?_
      refine va_get (D := (dC, dI)) (ci := 4) (v := .int (nI (m_nV u))) (C := "SeatProofsModel") (T := F_M) (N := 20) hx hb hts (iu_M _) hown hK hP 0 rfl rfl 8 (by decide) (hts _ (List.mem_cons_of_mem _ iw_448)) (fun _ h9 => h9) rfl d_M_cut_9 ?_
      refine nv_ge (tgt := 139) hx hb d_M_cut_12 (by decide) (by omega) (by omega) (fun c_1 => ?_) (fun c_1 => ?_)
      · refine lv_lload hx hb d_M_cut_139 (lv_at hl 3 rfl) ?_
        exact W.lret hx hb hr (fun t9 ht9 _ => ⟨_, rfl, (ofB_eq fun j _ => by rw [hy6 j, show i = m_nV u from by omega]), ht9⟩) (fun _ h => by cases h) d_M_cut_141
      · refine lv_lload_n hx hb d_M_cut_15 rfl (lv_at hl 1 rfl) ?_
        refine lv_aload_n hx hb d_M_cut_16 rfl (lv_at hl 0 rfl) ?_
        refine va_get (D := (dC, dI)) (ci := 4) (v := .ref (ma_fa q)) (C := "SeatProofsModel") (T := F_M) (N := 20) hx hb hts (iu_M _) hown hK hP 0 rfl rfl 3 (by decide) (hts _ (List.mem_cons_of_mem _ iw_443)) (fun _ h9 => h9) rfl d_M_cut_17 ?_
        refine lv_iload hx hb d_M_cut_20 (lv_at hl 4 rfl) ?_
        refine ld_i hx hb hK hP 3 0 rfl rfl (nI (m_fa u i)) (by omega) (by decide) rfl d_M_cut_22 ?_
        refine vp_callSi (va_Run.run (va_runS (As := [.long x, .int (nI (m_fa u i))]) (rest := []) ⟨hx, hb, hml, hown, hts⟩ (c_M_has l x (m_fa u i) (k5 _)) (va_cwS 2 hts (good_up (good_S iw_542 iw_543 iw_5 gg_M_has)) rfl rfl rfl (by decide +kernel) ⟨Nat.le_of_ble_eq_true rfl, Nat.le_of_ble_eq_true rfl⟩) (ps_0 [.long x, .int (nI (m_fa u i))] hN) rfl rfl hl.1 rfl (lv_room (Nat.le_of_ble_eq_true rfl)) d_M_cut_23 ⟨Nat.le_of_ble_eq_true rfl, Nat.le_of_ble_eq_true rfl⟩)) (fun r_2 hr_2 => ?_)
        subst hr_2
        refine lv_istore (lv' := [(7, .int (bI (tb x (m_fa u i)))), (0, .ref (ma_o q)), (1, .long x), (3, .int (nI f)), (4, .long y), (6, .int (nI i))]) hx hb d_M_cut_26 hl (by decide) rfl (fun ls hl => ?_)
        refine lv_lload_n hx hb d_M_cut_28 rfl (lv_at hl 2 rfl) ?_
        refine lv_aload_n hx hb d_M_cut_29 rfl (lv_at hl 1 rfl) ?_
        refine va_get (D := (dC, dI)) (ci := 4) (v := .ref (ma_fb q)) (C := "SeatProofsModel") (T := F_M) (N := 20) hx hb hts (iu_M _) hown hK hP 0 rfl rfl 4 (by decide) (hts _ (List.mem_cons_of_mem _ iw_444)) (fun _ h9 => h9) rfl d_M_cut_30 ?_
        refine lv_iload hx hb d_M_cut_33 (lv_at hl 5 rfl) ?_
        refine ld_i hx hb hK hP 4 0 rfl rfl (nI (m_fb u i)) (by omega) (by decide) rfl d_M_cut_35 ?_
        refine vp_callSi (va_Run.run (va_runS (As := [.long x, .int (nI (m_fb u i))]) (rest := []) ⟨hx, hb, hml, hown, hts⟩ (c_M_has l x (m_fb u i) (k6 _)) (va_cwS 2 hts (good_up (good_S iw_542 iw_543 iw_5 gg_M_has)) rfl rfl rfl (by decide +kernel) ⟨Nat.le_of_ble_eq_true rfl, Nat.le_of_ble_eq_true rfl⟩) (ps_0 [.long x, .int (nI (m_fb u i))] hN) rfl rfl hl.1 rfl (lv_room (Nat.le_of_ble_eq_true rfl)) d_M_cut_36 ⟨Nat.le_of_ble_eq_true rfl, Nat.le_of_ble_eq_true rfl⟩)) (fun r_3 hr_3 => ?_)
        subst hr_3
        refine lv_istore (lv' := [(8, .int (bI (tb x (m_fb u i)))), (7, .int (bI (tb x (m_fa u i)))), (0, .ref (ma_o q)), (1, .long x), (3, .int (nI f)), (4, .long y), (6, .int (nI i))]) hx hb d_M_cut_39 hl (by decide) rfl (fun ls hl => ?_)
        refine lv_iload hx hb d_M_cut_41 (lv_at hl 1 rfl) ?_
        refine b0_eq (tgt := 56) hx hb d_M_cut_43 (by decide) (fun c_4 => ?_) (fun c_4 => ?_)
        · refine lv_aload_n hx hb d_M_cut_56 rfl (lv_at hl 2 rfl) ?_
          refine va_get (D := (dC, dI)) (ci := 4) (v := .ref (ma_fb q)) (C := "SeatProofsModel") (T := F_M) (N := 20) hx hb hts (iu_M _) hown hK hP 0 rfl rfl 4 (by decide) (hts _ (List.mem_cons_of_mem _ iw_444)) (fun _ h9 => h9) rfl d_M_cut_57 ?_
          refine lv_iload hx hb d_M_cut_60 (lv_at hl 6 rfl) ?_
          refine ld_i hx hb hK hP 4 0 rfl rfl (nI (m_fb u i)) (by omega) (by decide) rfl d_M_cut_62 ?_
          refine lv_istore (lv' := [(9, .int (nI (m_fb u i))), (8, .int (bI (tb x (m_fb u i)))), (7, .int (bI (tb x (m_fa u i)))), (0, .ref (ma_o q)), (1, .long x), (3, .int (nI f)), (4, .long y), (6, .int (nI i))]) hx hb d_M_cut_63 hl (by decide) rfl (fun ls hl => ?_)
          refine lv_iload hx hb d_M_cut_65 (lv_at hl 2 rfl) ?_
          refine b0_eq (tgt := 80) hx hb d_M_cut_67 (by decide) (fun c_5 => ?_) (fun c_5 => ?_)
          · refine lv_aload_n hx hb d_M_cut_80 rfl (lv_at hl 3 rfl) ?_
            refine va_get (D := (dC, dI)) (ci := 4) (v := .ref (ma_fa q)) (C := "SeatProofsModel") (T := F_M) (N := 20) hx hb hts (iu_M _) hown hK hP 0 rfl rfl 3 (by decide) (hts _ (List.mem_cons_of_mem _ iw_443)) (fun _ h9 => h9) rfl d_M_cut_81 ?_
            refine lv_iload hx hb d_M_cut_84 (lv_at hl 7 rfl) ?_
            refine ld_i hx hb hK hP 3 0 rfl rfl (nI (m_fa u i)) (by omega) (by decide) rfl d_M_cut_86 ?_
            refine lv_istore (lv' := [(10, .int (nI (m_fa u i))), (9, .int (nI (m_fb u i))), (8, .int (bI (tb x (m_fb u i)))), (7, .int (bI (tb x (m_fa u i)))), (0, .ref (ma_o q)), (1, .long x), (3, .int (nI f)), (4, .long y), (6, .int (nI i))]) hx hb d_M_cut_87 hl (by decide) rfl (fun ls hl => ?_)
            refine lv_iload hx hb d_M_cut_89 (lv_at hl 3 rfl) ?_
            refine lv_iload hx hb d_M_cut_91 (lv_at hl 2 rfl) ?_
            refine bv_eq (tgt := 133) hx hb d_M_cut_93 (by decide) (fun c_6 => ?_) (fun c_6 => ?_)
            · refine lv_iinc (v := nI (i + 1)) (lv' := [(6, .int (nI (i + 1))), (10, .int (nI (m_fa u i))), (9, .int (nI (m_fb u i))), (8, .int (bI (tb x (m_fb u i)))), (7, .int (bI (tb x (m_fa u i)))), (0, .ref (ma_o q)), (1, .long x), (3, .int (nI f)), (4, .long y)]) hx hb d_M_cut_133 hl (k := 8) rfl (nI_1 _) (by decide) rfl (fun ls hl => ?_)
              refine lv_goto (tgt := 6) hx hb d_M_cut_136 (by decide) ?_
              exact ih6 (i + 1) y (by omega) (bits_f hy6 (mCb_fe c_6)) (by omega) ls (lv_sub hl [5, 6, 7, 8, 0] rfl)
            · refine lv_aload_n hx hb d_M_cut_96 rfl (lv_at hl 4 rfl) ?_
              refine lv_iload hx hb d_M_cut_97 (lv_at hl 8 rfl) ?_
              refine lv_iload_n hx hb d_M_cut_99 rfl (lv_at hl 6 rfl) ?_
              refine vp_callSi (va_Run.run (va_runV (As := [.int (nI i), .int (nI f)]) (rest := []) ⟨hx, hb, hml, hown, hts⟩ (c_M_lets l dC dI q u i f hu (by omega) (by omega)) (cwV 2 hts (good_up (good_V iw_534 iw_536 ip_12 iw_5 gg_M_lets)) rfl rfl rfl (by decide +kernel) ⟨Nat.le_of_ble_eq_true rfl, Nat.le_of_ble_eq_true rfl⟩) (pv_S [.int (nI i), .int (nI f)] hN hK hP (ci := 4) (q0 := 0) rfl rfl) rfl rfl hl.1 rfl (lv_room (Nat.le_of_ble_eq_true rfl)) d_M_cut_100 ⟨Nat.le_of_ble_eq_true rfl, Nat.le_of_ble_eq_true rfl⟩)) (fun r_7 hr_7 => ?_)
              subst hr_7
              refine b0_ne (tgt := 133) hx hb d_M_cut_103 (by decide) (fun c_8 => ?_) (fun c_8 => ?_)
              · refine lv_iinc (v := nI (i + 1)) (lv' := [(6, .int (nI (i + 1))), (10, .int (nI (m_fa u i))), (9, .int (nI (m_fb u i))), (8, .int (bI (tb x (m_fb u i)))), (7, .int (bI (tb x (m_fa u i)))), (0, .ref (ma_o q)), (1, .long x), (3, .int (nI f)), (4, .long y)]) hx hb d_M_cut_133 hl (k := 8) rfl (nI_1 _) (by decide) rfl (fun ls hl => ?_)
                refine lv_goto (tgt := 6) hx hb d_M_cut_136 (by decide) ?_
                exact ih6 (i + 1) y (by omega) (bits_f hy6 (mCb_fl c_8)) (by omega) ls (lv_sub hl [5, 6, 7, 8, 0] rfl)
              · refine lv_aload_n hx hb d_M_cut_106 rfl (lv_at hl 4 rfl) ?_
                refine va_get (D := (dC, dI)) (ci := 4) (v := .ref (ma_lev q)) (C := "SeatProofsModel") (T := F_M) (N := 20) hx hb hts (iu_M _) hown hK hP 0 rfl rfl 1 (by decide) (hts _ (List.mem_cons_of_mem _ iw_441)) (fun _ h9 => h9) rfl d_M_cut_107 ?_
                refine lv_iload hx hb d_M_cut_110 (lv_at hl 0 rfl) ?_
                refine ld_l hx hb hK hP 2 1 rfl rfl (m_lev u (m_fa u i)) (by first | exact k5 _ | exact k6 _) (by decide) rfl d_M_cut_112 ?_
                refine lv_aload_n hx hb d_M_cut_113 rfl (lv_at hl 4 rfl) ?_
                refine va_get (D := (dC, dI)) (ci := 4) (v := .ref (ma_lev q)) (C := "SeatProofsModel") (T := F_M) (N := 20) hx hb hts (iu_M _) hown hK hP 0 rfl rfl 1 (by decide) (hts _ (List.mem_cons_of_mem _ iw_441)) (fun _ h9 => h9) rfl d_M_cut_114 ?_
                refine lv_iload hx hb d_M_cut_117 (lv_at hl 1 rfl) ?_
                refine ld_l hx hb hK hP 2 1 rfl rfl (m_lev u (m_fb u i)) (by first | exact k5 _ | exact k6 _) (by decide) rfl d_M_cut_119 ?_
                refine W.lcmp hx hb d_M_cut_120 ?_
                refine l0_gt (tgt := 133) hx hb d_M_cut_121 (by decide) (fun c_9 => ?_) (fun c_9 => ?_)
                · refine lv_iinc (v := nI (i + 1)) (lv' := [(6, .int (nI (i + 1))), (10, .int (nI (m_fa u i))), (9, .int (nI (m_fb u i))), (8, .int (bI (tb x (m_fb u i)))), (7, .int (bI (tb x (m_fa u i)))), (0, .ref (ma_o q)), (1, .long x), (3, .int (nI f)), (4, .long y)]) hx hb d_M_cut_133 hl (k := 8) rfl (nI_1 _) (by decide) rfl (fun ls hl => ?_)
                  refine lv_goto (tgt := 6) hx hb d_M_cut_136 (by decide) ?_
                  exact ih6 (i + 1) y (by omega) (bits_f hy6 (mCb_f0 c_4 c_9)) (by omega) ls (lv_sub hl [5, 6, 7, 8, 0] rfl)
                · refine lv_lload hx hb d_M_cut_124 (lv_at hl 7 rfl) ?_
                  refine lv_lconst (v := 1) hx hb d_M_cut_126 (by decide) ?_
                  refine lv_iload hx hb d_M_cut_127 (lv_at hl 8 rfl) ?_
                  refine lv_lshl (v := 1 <<< ((nI i).toInt64 &&& 63)) hx hb d_M_cut_129 rfl ?_
                  refine tp_l (bt i) rfl ?_
                  refine lv_lor hx hb d_M_cut_130 ?_
                  refine lv_lstore (lv' := [(4, .long (y ||| (bt i))), (10, .int (nI (m_fa u i))), (9, .int (nI (m_fb u i))), (8, .int (bI (tb x (m_fb u i)))), (7, .int (bI (tb x (m_fa u i)))), (0, .ref (ma_o q)), (1, .long x), (3, .int (nI f)), (6, .int (nI i))]) hx hb d_M_cut_131 hl (by decide) rfl (fun ls hl => ?_)
                  refine lv_iinc (v := nI (i + 1)) (lv' := [(6, .int (nI (i + 1))), (4, .long (y ||| (bt i))), (10, .int (nI (m_fa u i))), (9, .int (nI (m_fb u i))), (8, .int (bI (tb x (m_fb u i)))), (7, .int (bI (tb x (m_fa u i)))), (0, .ref (ma_o q)), (1, .long x), (3, .int (nI f))]) hx hb d_M_cut_133 hl (k := 8) rfl (nI_1 _) (by decide) rfl (fun ls hl => ?_)
                  refine lv_goto (tgt := 6) hx hb d_M_cut_136 (by decide) ?_
                  exact ih6 (i + 1) (y ||| (bt i)) (by omega) (bits_t hy6 (by omega) (mCb_t0 c_4 c_6 c_8 c_9)) (by omega) ls (lv_sub hl [6, 7, 8, 1, 0] rfl)
          · exact absurd (c_5.symm.trans c_4) (by decide)
        · refine lv_aload_n hx hb d_M_cut_46 rfl (lv_at hl 2 rfl) ?_
          refine va_get (D := (dC, dI)) (ci := 4) (v := .ref (ma_fa q)) (C := "SeatProofsModel") (T := F_M) (N := 20) hx hb hts (iu_M _) hown hK hP 0 rfl rfl 3 (by decide) (hts _ (List.mem_cons_of_mem _ iw_443)) (fun _ h9 => h9) rfl d_M_cut_47 ?_
          refine lv_iload hx hb d_M_cut_50 (lv_at hl 6 rfl) ?_
          refine ld_i hx hb hK hP 3 0 rfl rfl (nI (m_fa u i)) (by omega) (by decide) rfl d_M_cut_52 ?_
          refine lv_goto (tgt := 63) hx hb d_M_cut_53 (by decide) ?_
          refine lv_istore (lv' := [(9, .int (nI (m_fa u i))), (8, .int (bI (tb x (m_fb u i)))), (7, .int (bI (tb x (m_fa u i)))), (0, .ref (ma_o q)), (1, .long x), (3, .int (nI f)), (4, .long y), (6, .int (nI i))]) hx hb d_M_cut_63 hl (by decide) rfl (fun ls hl => ?_)
          refine lv_iload hx hb d_M_cut_65 (lv_at hl 2 rfl) ?_
          refine b0_eq (tgt := 80) hx hb d_M_cut_67 (by decide) (fun c_10 => ?_) (fun c_10 => ?_)
          · exact absurd (c_10.symm.trans c_4) (by decide)
          · refine lv_aload_n hx hb d_M_cut_70 rfl (lv_at hl 3 rfl) ?_
            refine va_get (D := (dC, dI)) (ci := 4) (v := .ref (ma_fb q)) (C := "SeatProofsModel") (T := F_M) (N := 20) hx hb hts (iu_M _) hown hK hP 0 rfl rfl 4 (by decide) (hts _ (List.mem_cons_of_mem _ iw_444)) (fun _ h9 => h9) rfl d_M_cut_71 ?_
            refine lv_iload hx hb d_M_cut_74 (lv_at hl 7 rfl) ?_
            refine ld_i hx hb hK hP 4 0 rfl rfl (nI (m_fb u i)) (by omega) (by decide) rfl d_M_cut_76 ?_
            refine lv_goto (tgt := 87) hx hb d_M_cut_77 (by decide) ?_
            refine lv_istore (lv' := [(10, .int (nI (m_fb u i))), (9, .int (nI (m_fa u i))), (8, .int (bI (tb x (m_fb u i)))), (7, .int (bI (tb x (m_fa u i)))), (0, .ref (ma_o q)), (1, .long x), (3, .int (nI f)), (4, .long y), (6, .int (nI i))]) hx hb d_M_cut_87 hl (by decide) rfl (fun ls hl => ?_)
            refine lv_iload hx hb d_M_cut_89 (lv_at hl 3 rfl) ?_
            refine lv_iload hx hb d_M_cut_91 (lv_at hl 2 rfl) ?_
            refine bv_eq (tgt := 133) hx hb d_M_cut_93 (by decide) (fun c_11 => ?_) (fun c_11 => ?_)
            · refine lv_iinc (v := nI (i + 1)) (lv' := [(6, .int (nI (i + 1))), (10, .int (nI (m_fb u i))), (9, .int (nI (m_fa u i))), (8, .int (bI (tb x (m_fb u i)))), (7, .int (bI (tb x (m_fa u i)))), (0, .ref (ma_o q)), (1, .long x), (3, .int (nI f)), (4, .long y)]) hx hb d_M_cut_133 hl (k := 8) rfl (nI_1 _) (by decide) rfl (fun ls hl => ?_)
              refine lv_goto (tgt := 6) hx hb d_M_cut_136 (by decide) ?_
              exact ih6 (i + 1) y (by omega) (bits_f hy6 (mCb_fe c_11)) (by omega) ls (lv_sub hl [5, 6, 7, 8, 0] rfl)
            · refine lv_aload_n hx hb d_M_cut_96 rfl (lv_at hl 4 rfl) ?_
              refine lv_iload hx hb d_M_cut_97 (lv_at hl 8 rfl) ?_
              refine lv_iload_n hx hb d_M_cut_99 rfl (lv_at hl 6 rfl) ?_
              refine vp_callSi (va_Run.run (va_runV (As := [.int (nI i), .int (nI f)]) (rest := []) ⟨hx, hb, hml, hown, hts⟩ (c_M_lets l dC dI q u i f hu (by omega) (by omega)) (cwV 2 hts (good_up (good_V iw_534 iw_536 ip_12 iw_5 gg_M_lets)) rfl rfl rfl (by decide +kernel) ⟨Nat.le_of_ble_eq_true rfl, Nat.le_of_ble_eq_true rfl⟩) (pv_S [.int (nI i), .int (nI f)] hN hK hP (ci := 4) (q0 := 0) rfl rfl) rfl rfl hl.1 rfl (lv_room (Nat.le_of_ble_eq_true rfl)) d_M_cut_100 ⟨Nat.le_of_ble_eq_true rfl, Nat.le_of_ble_eq_true rfl⟩)) (fun r_12 hr_12 => ?_)
              subst hr_12
              refine b0_ne (tgt := 133) hx hb d_M_cut_103 (by decide) (fun c_13 => ?_) (fun c_13 => ?_)
              · refine lv_iinc (v := nI (i + 1)) (lv' := [(6, .int (nI (i + 1))), (10, .int (nI (m_fb u i))), (9, .int (nI (m_fa u i))), (8, .int (bI (tb x (m_fb u i)))), (7, .int (bI (tb x (m_fa u i)))), (0, .ref (ma_o q)), (1, .long x), (3, .int (nI f)), (4, .long y)]) hx hb d_M_cut_133 hl (k := 8) rfl (nI_1 _) (by decide) rfl (fun ls hl => ?_)
                refine lv_goto (tgt := 6) hx hb d_M_cut_136 (by decide) ?_
                exact ih6 (i + 1) y (by omega) (bits_f hy6 (mCb_fl c_13)) (by omega) ls (lv_sub hl [5, 6, 7, 8, 0] rfl)
              · refine lv_aload_n hx hb d_M_cut_106 rfl (lv_at hl 4 rfl) ?_
                refine va_get (D := (dC, dI)) (ci := 4) (v := .ref (ma_lev q)) (C := "SeatProofsModel") (T := F_M) (N := 20) hx hb hts (iu_M _) hown hK hP 0 rfl rfl 1 (by decide) (hts _ (List.mem_cons_of_mem _ iw_441)) (fun _ h9 => h9) rfl d_M_cut_107 ?_
                refine lv_iload hx hb d_M_cut_110 (lv_at hl 0 rfl) ?_
                refine ld_l hx hb hK hP 2 1 rfl rfl (m_lev u (m_fb u i)) (by first | exact k5 _ | exact k6 _) (by decide) rfl d_M_cut_112 ?_
                refine lv_aload_n hx hb d_M_cut_113 rfl (lv_at hl 4 rfl) ?_
                refine va_get (D := (dC, dI)) (ci := 4) (v := .ref (ma_lev q)) (C := "SeatProofsModel") (T := F_M) (N := 20) hx hb hts (iu_M _) hown hK hP 0 rfl rfl 1 (by decide) (hts _ (List.mem_cons_of_mem _ iw_441)) (fun _ h9 => h9) rfl d_M_cut_114 ?_
                refine lv_iload hx hb d_M_cut_117 (lv_at hl 1 rfl) ?_
                refine ld_l hx hb hK hP 2 1 rfl rfl (m_lev u (m_fa u i)) (by first | exact k5 _ | exact k6 _) (by decide) rfl d_M_cut_119 ?_
                refine W.lcmp hx hb d_M_cut_120 ?_
                refine l0_gt (tgt := 133) hx hb d_M_cut_121 (by decide) (fun c_14 => ?_) (fun c_14 => ?_)
                · refine lv_iinc (v := nI (i + 1)) (lv' := [(6, .int (nI (i + 1))), (10, .int (nI (m_fb u i))), (9, .int (nI (m_fa u i))), (8, .int (bI (tb x (m_fb u i)))), (7, .int (bI (tb x (m_fa u i)))), (0, .ref (ma_o q)), (1, .long x), (3, .int (nI f)), (4, .long y)]) hx hb d_M_cut_133 hl (k := 8) rfl (nI_1 _) (by decide) rfl (fun ls hl => ?_)
                  refine lv_goto (tgt := 6) hx hb d_M_cut_136 (by decide) ?_
                  exact ih6 (i + 1) y (by omega) (bits_f hy6 (mCb_f1 c_4 c_14)) (by omega) ls (lv_sub hl [5, 6, 7, 8, 0] rfl)
                · refine lv_lload hx hb d_M_cut_124 (lv_at hl 7 rfl) ?_
                  refine lv_lconst (v := 1) hx hb d_M_cut_126 (by decide) ?_
                  refine lv_iload hx hb d_M_cut_127 (lv_at hl 8 rfl) ?_
                  refine lv_lshl (v := 1 <<< ((nI i).toInt64 &&& 63)) hx hb d_M_cut_129 rfl ?_
                  refine tp_l (bt i) rfl ?_
                  refine lv_lor hx hb d_M_cut_130 ?_
                  refine lv_lstore (lv' := [(4, .long (y ||| (bt i))), (10, .int (nI (m_fb u i))), (9, .int (nI (m_fa u i))), (8, .int (bI (tb x (m_fb u i)))), (7, .int (bI (tb x (m_fa u i)))), (0, .ref (ma_o q)), (1, .long x), (3, .int (nI f)), (6, .int (nI i))]) hx hb d_M_cut_131 hl (by decide) rfl (fun ls hl => ?_)
                  refine lv_iinc (v := nI (i + 1)) (lv' := [(6, .int (nI (i + 1))), (4, .long (y ||| (bt i))), (10, .int (nI (m_fb u i))), (9, .int (nI (m_fa u i))), (8, .int (bI (tb x (m_fb u i)))), (7, .int (bI (tb x (m_fa u i)))), (0, .ref (ma_o q)), (1, .long x), (3, .int (nI f))]) hx hb d_M_cut_133 hl (k := 8) rfl (nI_1 _) (by decide) rfl (fun ls hl => ?_)
                  refine lv_goto (tgt := 6) hx hb d_M_cut_136 (by decide) ?_
                  exact ih6 (i + 1) (y ||| (bt i)) (by omega) (bits_t hy6 (by omega) (mCb_t1 c_4 c_11 c_13 c_14)) (by omega) ls (lv_sub hl [6, 7, 8, 1, 0] rfl)
  exact L6 _ 0 0 (Nat.zero_le _) bits_0 (Nat.lt_succ_self _) ls (lv_sub hl [2, 3, 4, 1, 0] rfl)
set_option maxHeartbeats 4000000 in
set_option maxRecDepth 100000 in
theorem c_M_isThere (l : Launch) (dC : Nat → ClassId) (dI : Nat → Nat → Nat) (q : MA) (u : MSt) (a : Nat) (hu : MOk u) (ha : a < 16) : Met l y_M_isThere w_M_isThere ({ frames := 0, cells := 0, slots := 0, locals := 0 }) (sPc (dC, dI) vwCl (tM q) (wM q u) [Value.ref (ma_o q), Value.int (nI a)]) (vp_Si (fun r : Int32 => r = bI (mTh u a))) 0 0 (fun _ => False) := by
  refine Met.ofW (cc := b_M_isThere) (maxL := 4) (ret := (some .boolean)) (by decide) rfl ?_
  intro p e s m args below meth c s₁ B hml hv
  obtain ⟨rfl, hP, hK, hN⟩ := hv
  have hx := B.exec
  have hb := B.bytes
  have hr := B.returns
  have hts := atoms_spec (ws := w_M_isThere) B.pre
  have hown : s.vm.findClass "SeatProofsModel" = some m.cls := findClass_of_methodNamed B.named
  have hlocks := B.notSynchronized
  have hl := lv_entry ([Value.ref (ma_o q), Value.int (nI a)]) (n := 4) (Nat.le_of_ble_eq_true rfl)
  rw [lg_entry_eq]
  generalize (lg_sl ([Value.ref (ma_o q), Value.int (nI a)]) ++ List.replicate (4 - (lg_sl ([Value.ref (ma_o q), Value.int (nI a)])).length) Slot.unset).toArray = ls at hl ⊢
  have hl : lv_has ls 4 [(0, .ref (ma_o q)), (1, .int (nI a))] := hl
  obtain ⟨k1, k2, k3, k4, k5, k6, k7, k8, k9, k10, k11⟩ := id hu
  refine lv_iconst (v := nI 0) hx hb d_M_isThere_0 (by decide) ?_
  refine lv_istore_n (lv' := [(2, .int (nI 0)), (0, .ref (ma_o q)), (1, .int (nI a))]) hx hb d_M_isThere_1 rfl hl (by decide) rfl (fun ls hl => ?_)
  refine lv_iconst (v := nI 0) hx hb d_M_isThere_2 (by decide) ?_
  refine lv_istore_n (lv' := [(3, .int (nI 0)), (2, .int (nI 0)), (0, .ref (ma_o q)), (1, .int (nI a))]) hx hb d_M_isThere_3 rfl hl (by decide) rfl (fun ls hl => ?_)
  have L4 : ∀ (n4 : Nat) (i : Nat) (b : Bool), (i ≤ m_nS u) → (b = anyB (fun t => decide (m_liq u t = a)) i) → m_nS u - i < n4 → ∀ (ls : Array Slot), lv_has ls 4 [(0, .ref (ma_o q)), (1, .int (nI a)), (2, .int (bI b)), (3, .int (nI i))] → W p l e (headSpec w_M_isThere ({ frames := 0, cells := 0, slots := 0, locals := 0 })).room s m [Value.ref (ma_o q), Value.int (nI a)].toArray below meth c s.heap [] 0 0 (MQ below (vp_Si (fun r : Int32 => r = bI (mTh u a))) [Value.ref (ma_o q), Value.int (nI a)].toArray s 0 0 (fun _ => False)) (F0 m 4 ls []) := by
    intro n4
    induction n4 with
    | zero => intro i b hi4 hb4 hm; exact absurd hm (Nat.not_lt_zero _)
    | succ n4 ih4 =>
      intro i b hi4 hb4 hm4 ls hl
      refine lv_iload_n hx hb d_M_isThere_4 rfl (lv_at hl 3 rfl) ?_
      refine lv_aload_n hx hb d_M_isThere_5 rfl (lv_at hl 0 rfl) ?_
      refine va_get (D := (dC, dI)) (ci := 4) (v := .int (nI (m_nS u))) (C := "SeatProofsModel") (T := F_M) (N := 20) hx hb hts (iu_M _) hown hK hP 0 rfl rfl 2 (by decide) (hts _ (List.mem_cons_of_mem _ iw_442)) (fun _ h9 => h9) rfl d_M_isThere_6 ?_
      refine nv_ge (tgt := 38) hx hb d_M_isThere_9 (by decide) (by omega) (by omega) (fun c_1 => ?_) (fun c_1 => ?_)
      · refine lv_iload_n hx hb d_M_isThere_38 rfl (lv_at hl 2 rfl) ?_
        refine b0_eq (tgt := 50) hx hb d_M_isThere_39 (by decide) (fun c_2 => ?_) (fun c_2 => ?_)
        · refine lv_iconst (v := nI 0) hx hb d_M_isThere_50 (by decide) ?_
          refine tp_i (bI false) (by decide) ?_
          exact W.zret hx hb hr (bI_narrow _) (fun t9 ht9 _ => ⟨_, rfl, (by rw [mTh, ← show i = m_nS u from by omega, ← hb4, c_2]; rfl), ht9⟩) (fun _ h => by cases h) d_M_isThere_51
        · refine lv_iload_n hx hb d_M_isThere_42 rfl (lv_at hl 1 rfl) ?_
          refine n0_le (tgt := 50) hx hb d_M_isThere_43 (by decide) (by omega) (fun c_3 => ?_) (fun c_3 => ?_)
          · refine lv_iconst (v := nI 0) hx hb d_M_isThere_50 (by decide) ?_
            refine tp_i (bI false) (by decide) ?_
            exact W.zret hx hb hr (bI_narrow _) (fun t9 ht9 _ => ⟨_, rfl, (by rw [mTh, ← show i = m_nS u from by omega, ← hb4, c_2]; rw [c_3]; rfl), ht9⟩) (fun _ h => by cases h) d_M_isThere_51
          · refine lv_iconst (v := nI 1) hx hb d_M_isThere_46 (by decide) ?_
            refine lv_goto (tgt := 51) hx hb d_M_isThere_47 (by decide) ?_
            refine tp_i (bI true) (by decide) ?_
            exact W.zret hx hb hr (bI_narrow _) (fun t9 ht9 _ => ⟨_, rfl, (by rw [mTh, ← show i = m_nS u from by omega, ← hb4, c_2]; rw [decide_eq_true (Nat.pos_of_ne_zero c_3)]; rfl), ht9⟩) (fun _ h => by cases h) d_M_isThere_51
      · refine lv_iload_n hx hb d_M_isThere_12 rfl (lv_at hl 2 rfl) ?_
        refine b0_ne (tgt := 26) hx hb d_M_isThere_13 (by decide) (fun c_4 => ?_) (fun c_4 => ?_)
        · refine lv_iconst (v := nI 1) hx hb d_M_isThere_26 (by decide) ?_
          refine lv_goto (tgt := 31) hx hb d_M_isThere_27 (by decide) ?_
          refine lv_istore_n (lv' := [(2, .int (nI 1)), (0, .ref (ma_o q)), (1, .int (nI a)), (3, .int (nI i))]) hx hb d_M_isThere_31 rfl hl (by decide) rfl (fun ls hl => ?_)
          refine lv_iinc (v := nI (i + 1)) (lv' := [(3, .int (nI (i + 1))), (2, .int (nI 1)), (0, .ref (ma_o q)), (1, .int (nI a))]) hx hb d_M_isThere_32 hl (k := 3) rfl (nI_1 _) (by decide) rfl (fun ls hl => ?_)
          refine lv_goto (tgt := 4) hx hb d_M_isThere_35 (by decide) ?_
          exact ih4 (i + 1) true (by omega) (by unfold anyB; rw [← hb4, c_4]; rfl) (by omega) ls (lv_sub hl [2, 3, 1, 0] rfl)
        · refine lv_aload_n hx hb d_M_isThere_16 rfl (lv_at hl 0 rfl) ?_
          refine va_get (D := (dC, dI)) (ci := 4) (v := .ref (ma_liq q)) (C := "SeatProofsModel") (T := F_M) (N := 20) hx hb hts (iu_M _) hown hK hP 0 rfl rfl 0 (by decide) (hts _ (List.mem_cons_of_mem _ iw_440)) (fun _ h9 => h9) rfl d_M_isThere_17 ?_
          refine lv_iload_n hx hb d_M_isThere_20 rfl (lv_at hl 3 rfl) ?_
          refine ld_i hx hb hK hP 1 0 rfl rfl (nI (m_liq u i)) (by omega) (by decide) rfl d_M_isThere_21 ?_
          refine lv_iload_n hx hb d_M_isThere_22 rfl (lv_at hl 1 rfl) ?_
          refine nv_ne (tgt := 30) hx hb d_M_isThere_23 (by decide) (by have := k4 i; omega) (by omega) (fun c_5 => ?_) (fun c_5 => ?_)
          · refine lv_iconst (v := nI 0) hx hb d_M_isThere_30 (by decide) ?_
            refine lv_istore_n (lv' := [(2, .int (nI 0)), (0, .ref (ma_o q)), (1, .int (nI a)), (3, .int (nI i))]) hx hb d_M_isThere_31 rfl hl (by decide) rfl (fun ls hl => ?_)
            refine lv_iinc (v := nI (i + 1)) (lv' := [(3, .int (nI (i + 1))), (2, .int (nI 0)), (0, .ref (ma_o q)), (1, .int (nI a))]) hx hb d_M_isThere_32 hl (k := 3) rfl (nI_1 _) (by decide) rfl (fun ls hl => ?_)
            refine lv_goto (tgt := 4) hx hb d_M_isThere_35 (by decide) ?_
            exact ih4 (i + 1) false (by omega) (by unfold anyB; rw [← hb4, c_4]; simp [c_5]) (by omega) ls (lv_sub hl [2, 3, 1, 0] rfl)
          · refine lv_iconst (v := nI 1) hx hb d_M_isThere_26 (by decide) ?_
            refine lv_goto (tgt := 31) hx hb d_M_isThere_27 (by decide) ?_
            refine lv_istore_n (lv' := [(2, .int (nI 1)), (0, .ref (ma_o q)), (1, .int (nI a)), (3, .int (nI i))]) hx hb d_M_isThere_31 rfl hl (by decide) rfl (fun ls hl => ?_)
            refine lv_iinc (v := nI (i + 1)) (lv' := [(3, .int (nI (i + 1))), (2, .int (nI 1)), (0, .ref (ma_o q)), (1, .int (nI a))]) hx hb d_M_isThere_32 hl (k := 3) rfl (nI_1 _) (by decide) rfl (fun ls hl => ?_)
            refine lv_goto (tgt := 4) hx hb d_M_isThere_35 (by decide) ?_
            exact ih4 (i + 1) true (by omega) (by unfold anyB; rw [← hb4, c_4]; simp [c_5]) (by omega) ls (lv_sub hl [2, 3, 1, 0] rfl)
  exact L4 _ 0 false (Nat.zero_le _) rfl (Nat.lt_succ_self _) ls (lv_sub hl [2, 3, 1, 0] rfl)
set_option maxHeartbeats 4000000 in
set_option maxRecDepth 100000 in
theorem c_M_size (l : Launch) (x : Int64) : Met l y_M_size w_M_size ({ frames := 1, cells := 0, slots := 0, locals := 22 }) (va_Pc [Value.long x] NW) (vp_Si (fun r : Int32 => r = nI (pcn (tb x) 64))) 0 0 (fun _ => False) := by
  refine Met.ofW (cc := b_M_size) (maxL := 4) (ret := (some .int)) (by decide) rfl ?_
  intro p e s m args below meth c s₁ B hml hv
  obtain ⟨rfl, hN⟩ := hv
  have hx := B.exec
  have hb := B.bytes
  have hr := B.returns
  have hts := atoms_spec (ws := w_M_size) B.pre
  have hown : s.vm.findClass "SeatProofsModel" = some m.cls := findClass_of_methodNamed B.named
  have hlocks := B.notSynchronized
  have hl := lv_entry ([Value.long x]) (n := 4) (Nat.le_of_ble_eq_true rfl)
  rw [lg_entry_eq]
  generalize (lg_sl ([Value.long x]) ++ List.replicate (4 - (lg_sl ([Value.long x])).length) Slot.unset).toArray = ls at hl ⊢
  have hl : lv_has ls 4 [(0, .long x)] := hl
  refine lv_iconst (v := nI 0) hx hb d_M_size_0 (by decide) ?_
  refine lv_istore_n (lv' := [(2, .int (nI 0)), (0, .long x)]) hx hb d_M_size_1 rfl hl (by decide) rfl (fun ls hl => ?_)
  refine lv_iconst (v := nI 0) hx hb d_M_size_2 (by decide) ?_
  refine lv_istore_n (lv' := [(3, .int (nI 0)), (2, .int (nI 0)), (0, .long x)]) hx hb d_M_size_3 rfl hl (by decide) rfl (fun ls hl => ?_)
  have L4 : ∀ (n4 : Nat) (i : Nat) (n : Nat), (i ≤ 64) → (n = pcn (tb x) i) → 64 - i < n4 → ∀ (ls : Array Slot), lv_has ls 4 [(0, .long x), (2, .int (nI n)), (3, .int (nI i))] → W p l e (headSpec w_M_size ({ frames := 1, cells := 0, slots := 0, locals := 22 })).room s m [Value.long x].toArray below meth c s.heap [] 0 0 (MQ below (vp_Si (fun r : Int32 => r = nI (pcn (tb x) 64))) [Value.long x].toArray s 0 0 (fun _ => False)) (F0 m 4 ls []) := by
    intro n4
    induction n4 with
    | zero => intro i n hi4 hn4 hm; exact absurd hm (Nat.not_lt_zero _)
    | succ n4 ih4 =>
      intro i n hi4 hn4 hm4 ls hl
      refine lv_iload_n hx hb d_M_size_4 rfl (lv_at hl 2 rfl) ?_
      refine lv_bipush (v := nI 64) hx hb d_M_size_5 (by decide) ?_
      refine nv_ge (tgt := 32) hx hb d_M_size_7 (by decide) (by omega) (by omega) (fun c_1 => ?_) (fun c_1 => ?_)
      · refine lv_iload_n hx hb d_M_size_32 rfl (lv_at hl 1 rfl) ?_
        exact W.iret hx hb hr (fun t9 ht9 _ => ⟨_, rfl, (by rw [hn4, show i = 64 from by omega]), ht9⟩) (fun _ h => by cases h) d_M_size_33
      · refine lv_iload_n hx hb d_M_size_10 rfl (lv_at hl 1 rfl) ?_
        refine lv_lload_n hx hb d_M_size_11 rfl (lv_at hl 0 rfl) ?_
        refine lv_iload_n hx hb d_M_size_12 rfl (lv_at hl 2 rfl) ?_
        refine vp_callSi (va_Run.run (va_runS (As := [.long x, .int (nI i)]) (rest := [.int (nI n)]) ⟨hx, hb, hml, hown, hts⟩ (c_M_has l x i (by omega)) (va_cwS 2 hts (good_up (good_S iw_542 iw_543 iw_5 gg_M_has)) rfl rfl rfl (by decide +kernel) ⟨Nat.le_of_ble_eq_true rfl, Nat.le_of_ble_eq_true rfl⟩) (ps_0 [.long x, .int (nI i)] hN) rfl rfl hl.1 rfl (lv_room (Nat.le_of_ble_eq_true rfl)) d_M_size_13 ⟨Nat.le_of_ble_eq_true rfl, Nat.le_of_ble_eq_true rfl⟩)) (fun r_2 hr_2 => ?_)
        subst hr_2
        refine b0_eq (tgt := 23) hx hb d_M_size_16 (by decide) (fun c_3 => ?_) (fun c_3 => ?_)
        · refine lv_iconst (v := nI 0) hx hb d_M_size_23 (by decide) ?_
          refine lv_iadd hx hb d_M_size_24 ?_
          refine tp_i (nI (n + 0)) (nI_add _ _) ?_
          refine lv_istore_n (lv' := [(2, .int (nI (n + 0))), (0, .long x), (3, .int (nI i))]) hx hb d_M_size_25 rfl hl (by decide) rfl (fun ls hl => ?_)
          refine lv_iinc (v := nI (i + 1)) (lv' := [(3, .int (nI (i + 1))), (2, .int (nI (n + 0))), (0, .long x)]) hx hb d_M_size_26 hl (k := 2) rfl (nI_1 _) (by decide) rfl (fun ls hl => ?_)
          refine lv_goto (tgt := 4) hx hb d_M_size_29 (by decide) ?_
          exact ih4 (i + 1) (n + 0) (by omega) (by rw [hn4]; simp [pcn, c_3]) (by omega) ls (lv_sub hl [2, 1, 0] rfl)
        · refine lv_iconst (v := nI 1) hx hb d_M_size_19 (by decide) ?_
          refine lv_goto (tgt := 24) hx hb d_M_size_20 (by decide) ?_
          refine lv_iadd hx hb d_M_size_24 ?_
          refine tp_i (nI (n + 1)) (nI_add _ _) ?_
          refine lv_istore_n (lv' := [(2, .int (nI (n + 1))), (0, .long x), (3, .int (nI i))]) hx hb d_M_size_25 rfl hl (by decide) rfl (fun ls hl => ?_)
          refine lv_iinc (v := nI (i + 1)) (lv' := [(3, .int (nI (i + 1))), (2, .int (nI (n + 1))), (0, .long x)]) hx hb d_M_size_26 hl (k := 2) rfl (nI_1 _) (by decide) rfl (fun ls hl => ?_)
          refine lv_goto (tgt := 4) hx hb d_M_size_29 (by decide) ?_
          exact ih4 (i + 1) (n + 1) (by omega) (by rw [hn4]; simp [pcn, c_3]) (by omega) ls (lv_sub hl [2, 1, 0] rfl)
  exact L4 _ 0 0 (Nat.zero_le _) rfl (Nat.lt_succ_self _) ls (lv_sub hl [2, 1, 0] rfl)
set_option maxHeartbeats 4000000 in
set_option maxRecDepth 100000 in
theorem c_M_rows (l : Launch) (dC : Nat → ClassId) (dI : Nat → Nat → Nat) (q : MA) (u : MSt) (sz : Nat)  : Met l y_M_rows w_M_rows ({ frames := 0, cells := 0, slots := 0, locals := 0 }) (qPc (dC, dI) vwCl (tM q) (wM q u) sz [Value.ref (ma_o q)]) (va_Qi (fun (r : Int32) (z : MSt) => r = nI (m_nR u) ∧ z = m_s_th u 0) (qB (dC, dI) vwCl (tM q) (wM q u) sz (wM q)) (va_A (wM q u) sz)) 0 0 (va_A (wM q u) sz) := by
  refine Met.ofW (cc := b_M_rows) (maxL := 1) (ret := (some .int)) (by decide) rfl ?_
  intro p e s m args below meth c s₁ B hml hv
  obtain ⟨rfl, hsz, hP, hK, hD0, hN⟩ := hv
  have hx := B.exec
  have hb := B.bytes
  have hr := B.returns
  have hts := atoms_spec (ws := w_M_rows) B.pre
  have hown : s.vm.findClass "SeatProofsModel" = some m.cls := findClass_of_methodNamed B.named
  have hlocks := B.notSynchronized
  subst hsz
  have hD := hD0.self (sz := s.heap.size)
  have hA : ∀ z : Nat, s.heap.size ≤ z → va_A (wM q u) s.heap.size z := fun z h => Or.inr h
  have hS : va_S (va_A (wM q u) s.heap.size) s.heap s.heap [] := va_S.rf
  have hl := lv_entry ([Value.ref (ma_o q)]) (n := 1) (Nat.le_of_ble_eq_true rfl)
  rw [lg_entry_eq]
  generalize (lg_sl ([Value.ref (ma_o q)]) ++ List.replicate (1 - (lg_sl ([Value.ref (ma_o q)])).length) Slot.unset).toArray = ls at hl ⊢
  have hl : lv_has ls 1 [(0, .ref (ma_o q))] := hl
  refine lv_aload_n hx hb d_M_rows_0 rfl (lv_at hl 0 rfl) ?_
  refine lv_iconst (v := nI 0) hx hb d_M_rows_1 (by decide) ?_
  refine va_put (D := (dC, dI)) (ci := 4) (v := .int (nI 0)) (ty := .int) (C := "SeatProofsModel") (T := F_M) (N := 20) hx hb hts (iu_M _) t_M t_M_ok n_M hown hK hP hD hS 0 rfl rfl 18 (by decide) (hts _ (List.mem_cons_of_mem _ iw_458)) (fun _ h9 => h9) rfl (by decide +kernel) rfl rfl (Nat.le_of_ble_eq_true rfl) d_M_rows_2 (fun H locs hP hD hS => ?_)
  have hP : va_P (dC, dI) vwCl (wMx q (m_liq u) (m_lev u) (m_nS u) (m_fa u) (m_fb u) (m_seat u) (m_op u) (m_un u) (m_nV u) (m_may u) (m_nR u) (m_rf u) (m_rl u) (m_rw u) (m_rc u) (m_cul u) (m_gu u) (m_te u) 0 (m_wet u)) H := hP
  have hD : va_D (va_A (wM q u) s.heap.size) (wMx q (m_liq u) (m_lev u) (m_nS u) (m_fa u) (m_fb u) (m_seat u) (m_op u) (m_un u) (m_nV u) (m_may u) (m_nR u) (m_rf u) (m_rl u) (m_rw u) (m_rc u) (m_cul u) (m_gu u) (m_te u) 0 (m_wet u)) := hD
  refine lv_aload_n hx hb d_M_rows_5 rfl (lv_at hl 0 rfl) ?_
  refine va_get (D := (dC, dI)) (ci := 4) (v := .int (nI (m_nR u))) (C := "SeatProofsModel") (T := F_M) (N := 20) hx hb hts (iu_M _) hown hK hP 0 rfl rfl 10 (by decide) (hts _ (List.mem_cons_of_mem _ iw_450)) (fun _ h9 => h9) rfl d_M_rows_6 ?_
  exact W.iret hx hb hr (fun t9 ht9 hW9 => ⟨⟨_, (m_mk (m_liq u) (m_lev u) (m_nS u) (m_fa u) (m_fb u) (m_seat u) (m_op u) (m_un u) (m_nV u) (m_may u) (m_nR u) (m_rf u) (m_rl u) (m_rw u) (m_rc u) (m_cul u) (m_gu u) (m_te u) 0 (m_wet u)), rfl, ⟨rfl, rfl⟩, by rw [ht9]; exact hP, va_K.moved hW9.alike hK, hD⟩, hS.F ht9⟩) hS.2.2 d_M_rows_9
set_option maxHeartbeats 4000000 in
set_option maxRecDepth 100000 in
theorem c_M_tested (l : Launch) (dC : Nat → ClassId) (dI : Nat → Nat → Nat) (q : MA) (u : MSt) (sz : Nat)  : Met l y_M_tested w_M_tested ({ frames := 0, cells := 0, slots := 0, locals := 0 }) (qPc (dC, dI) vwCl (tM q) (wM q u) sz [Value.ref (ma_o q)]) (va_Qi (fun (r : Int32) (z : MSt) => r = nI (m_te u) ∧ z = m_s_th u 0) (qB (dC, dI) vwCl (tM q) (wM q u) sz (wM q)) (va_A (wM q u) sz)) 0 0 (va_A (wM q u) sz) := by
  refine Met.ofW (cc := b_M_tested) (maxL := 1) (ret := (some .int)) (by decide) rfl ?_
  intro p e s m args below meth c s₁ B hml hv
  obtain ⟨rfl, hsz, hP, hK, hD0, hN⟩ := hv
  have hx := B.exec
  have hb := B.bytes
  have hr := B.returns
  have hts := atoms_spec (ws := w_M_tested) B.pre
  have hown : s.vm.findClass "SeatProofsModel" = some m.cls := findClass_of_methodNamed B.named
  have hlocks := B.notSynchronized
  subst hsz
  have hD := hD0.self (sz := s.heap.size)
  have hA : ∀ z : Nat, s.heap.size ≤ z → va_A (wM q u) s.heap.size z := fun z h => Or.inr h
  have hS : va_S (va_A (wM q u) s.heap.size) s.heap s.heap [] := va_S.rf
  have hl := lv_entry ([Value.ref (ma_o q)]) (n := 1) (Nat.le_of_ble_eq_true rfl)
  rw [lg_entry_eq]
  generalize (lg_sl ([Value.ref (ma_o q)]) ++ List.replicate (1 - (lg_sl ([Value.ref (ma_o q)])).length) Slot.unset).toArray = ls at hl ⊢
  have hl : lv_has ls 1 [(0, .ref (ma_o q))] := hl
  refine lv_aload_n hx hb d_M_tested_0 rfl (lv_at hl 0 rfl) ?_
  refine lv_iconst (v := nI 0) hx hb d_M_tested_1 (by decide) ?_
  refine va_put (D := (dC, dI)) (ci := 4) (v := .int (nI 0)) (ty := .int) (C := "SeatProofsModel") (T := F_M) (N := 20) hx hb hts (iu_M _) t_M t_M_ok n_M hown hK hP hD hS 0 rfl rfl 18 (by decide) (hts _ (List.mem_cons_of_mem _ iw_458)) (fun _ h9 => h9) rfl (by decide +kernel) rfl rfl (Nat.le_of_ble_eq_true rfl) d_M_tested_2 (fun H locs hP hD hS => ?_)
  have hP : va_P (dC, dI) vwCl (wMx q (m_liq u) (m_lev u) (m_nS u) (m_fa u) (m_fb u) (m_seat u) (m_op u) (m_un u) (m_nV u) (m_may u) (m_nR u) (m_rf u) (m_rl u) (m_rw u) (m_rc u) (m_cul u) (m_gu u) (m_te u) 0 (m_wet u)) H := hP
  have hD : va_D (va_A (wM q u) s.heap.size) (wMx q (m_liq u) (m_lev u) (m_nS u) (m_fa u) (m_fb u) (m_seat u) (m_op u) (m_un u) (m_nV u) (m_may u) (m_nR u) (m_rf u) (m_rl u) (m_rw u) (m_rc u) (m_cul u) (m_gu u) (m_te u) 0 (m_wet u)) := hD
  refine lv_aload_n hx hb d_M_tested_5 rfl (lv_at hl 0 rfl) ?_
  refine va_get (D := (dC, dI)) (ci := 4) (v := .int (nI (m_te u))) (C := "SeatProofsModel") (T := F_M) (N := 20) hx hb hts (iu_M _) hown hK hP 0 rfl rfl 17 (by decide) (hts _ (List.mem_cons_of_mem _ iw_457)) (fun _ h9 => h9) rfl d_M_tested_6 ?_
  exact W.iret hx hb hr (fun t9 ht9 hW9 => ⟨⟨_, (m_mk (m_liq u) (m_lev u) (m_nS u) (m_fa u) (m_fb u) (m_seat u) (m_op u) (m_un u) (m_nV u) (m_may u) (m_nR u) (m_rf u) (m_rl u) (m_rw u) (m_rc u) (m_cul u) (m_gu u) (m_te u) 0 (m_wet u)), rfl, ⟨rfl, rfl⟩, by rw [ht9]; exact hP, va_K.moved hW9.alike hK, hD⟩, hS.F ht9⟩) hS.2.2 d_M_tested_9
set_option maxHeartbeats 4000000 in
set_option maxRecDepth 100000 in
theorem c_M_culprit (l : Launch) (dC : Nat → ClassId) (dI : Nat → Nat → Nat) (q : MA) (u : MSt) (sz : Nat) (x : Int32) : Met l y_M_culprit w_M_culprit ({ frames := 0, cells := 0, slots := 0, locals := 0 }) (qPc (dC, dI) vwCl (tM q) (wM q u) sz [Value.ref (ma_o q), Value.int x]) (va_Qi (fun (r : Int32) (z : MSt) => r = M_culprit u x ∧ z = m_s_th u 0) (qB (dC, dI) vwCl (tM q) (wM q u) sz (wM q)) (va_A (wM q u) sz)) 0 0 (va_A (wM q u) sz) := by
  refine Met.ofW (cc := b_M_culprit) (maxL := 2) (ret := (some .int)) (by decide) rfl ?_
  intro p e s m args below meth c s₁ B hml hv
  obtain ⟨rfl, hsz, hP, hK, hD0, hN⟩ := hv
  have hx := B.exec
  have hb := B.bytes
  have hr := B.returns
  have hts := atoms_spec (ws := w_M_culprit) B.pre
  have hown : s.vm.findClass "SeatProofsModel" = some m.cls := findClass_of_methodNamed B.named
  have hlocks := B.notSynchronized
  subst hsz
  have hD := hD0.self (sz := s.heap.size)
  have hA : ∀ z : Nat, s.heap.size ≤ z → va_A (wM q u) s.heap.size z := fun z h => Or.inr h
  have hS : va_S (va_A (wM q u) s.heap.size) s.heap s.heap [] := va_S.rf
  have hl := lv_entry ([Value.ref (ma_o q), Value.int x]) (n := 2) (Nat.le_of_ble_eq_true rfl)
  rw [lg_entry_eq]
  generalize (lg_sl ([Value.ref (ma_o q), Value.int x]) ++ List.replicate (2 - (lg_sl ([Value.ref (ma_o q), Value.int x])).length) Slot.unset).toArray = ls at hl ⊢
  have hl : lv_has ls 2 [(0, .ref (ma_o q)), (1, .int x)] := hl
  refine lv_aload_n hx hb d_M_culprit_0 rfl (lv_at hl 0 rfl) ?_
  refine lv_iconst (v := nI 0) hx hb d_M_culprit_1 (by decide) ?_
  refine va_put (D := (dC, dI)) (ci := 4) (v := .int (nI 0)) (ty := .int) (C := "SeatProofsModel") (T := F_M) (N := 20) hx hb hts (iu_M _) t_M t_M_ok n_M hown hK hP hD hS 0 rfl rfl 18 (by decide) (hts _ (List.mem_cons_of_mem _ iw_458)) (fun _ h9 => h9) rfl (by decide +kernel) rfl rfl (Nat.le_of_ble_eq_true rfl) d_M_culprit_2 (fun H locs hP hD hS => ?_)
  have hP : va_P (dC, dI) vwCl (wMx q (m_liq u) (m_lev u) (m_nS u) (m_fa u) (m_fb u) (m_seat u) (m_op u) (m_un u) (m_nV u) (m_may u) (m_nR u) (m_rf u) (m_rl u) (m_rw u) (m_rc u) (m_cul u) (m_gu u) (m_te u) 0 (m_wet u)) H := hP
  have hD : va_D (va_A (wM q u) s.heap.size) (wMx q (m_liq u) (m_lev u) (m_nS u) (m_fa u) (m_fb u) (m_seat u) (m_op u) (m_un u) (m_nV u) (m_may u) (m_nR u) (m_rf u) (m_rl u) (m_rw u) (m_rc u) (m_cul u) (m_gu u) (m_te u) 0 (m_wet u)) := hD
  refine lv_aload_n hx hb d_M_culprit_5 rfl (lv_at hl 0 rfl) ?_
  refine va_get (D := (dC, dI)) (ci := 4) (v := .int (bI (m_gu u))) (C := "SeatProofsModel") (T := F_M) (N := 20) hx hb hts (iu_M _) hown hK hP 0 rfl rfl 16 (by decide) (hts _ (List.mem_cons_of_mem _ iw_456)) (fun _ h9 => h9) rfl d_M_culprit_6 ?_
  refine b0_eq (tgt := 30) hx hb d_M_culprit_9 (by decide) (fun c_1 => ?_) (fun c_1 => ?_)
  · refine lv_iconst (v := (-1)) hx hb d_M_culprit_30 (by decide) ?_
    exact W.iret hx hb hr (fun t9 ht9 hW9 => ⟨⟨_, (m_mk (m_liq u) (m_lev u) (m_nS u) (m_fa u) (m_fb u) (m_seat u) (m_op u) (m_un u) (m_nV u) (m_may u) (m_nR u) (m_rf u) (m_rl u) (m_rw u) (m_rc u) (m_cul u) (m_gu u) (m_te u) 0 (m_wet u)), rfl, ⟨by rw [M_culprit, if_neg (fun h => absurd (h.1.symm.trans c_1) (by decide))], rfl⟩, by rw [ht9]; exact hP, va_K.moved hW9.alike hK, hD⟩, hS.F ht9⟩) hS.2.2 d_M_culprit_31
  · refine lv_iload_n hx hb d_M_culprit_12 rfl (lv_at hl 1 rfl) ?_
    refine lv_if_lt (tgt := 30) hx hb d_M_culprit_13 (by decide) (fun c_2 => ?_) (fun c_2 => ?_)
    · refine lv_iconst (v := (-1)) hx hb d_M_culprit_30 (by decide) ?_
      exact W.iret hx hb hr (fun t9 ht9 hW9 => ⟨⟨_, (m_mk (m_liq u) (m_lev u) (m_nS u) (m_fa u) (m_fb u) (m_seat u) (m_op u) (m_un u) (m_nV u) (m_may u) (m_nR u) (m_rf u) (m_rl u) (m_rw u) (m_rc u) (m_cul u) (m_gu u) (m_te u) 0 (m_wet u)), rfl, ⟨by rw [M_culprit, if_neg (fun h => h.2.1 c_2)], rfl⟩, by rw [ht9]; exact hP, va_K.moved hW9.alike hK, hD⟩, hS.F ht9⟩) hS.2.2 d_M_culprit_31
    · refine lv_iload_n hx hb d_M_culprit_16 rfl (lv_at hl 1 rfl) ?_
      refine lv_iconst (v := nI 4) hx hb d_M_culprit_17 (by decide) ?_
      refine lv_icmp_ge (tgt := 30) hx hb d_M_culprit_18 (by decide) (fun c_3 => ?_) (fun c_3 => ?_)
      · refine lv_iconst (v := (-1)) hx hb d_M_culprit_30 (by decide) ?_
        exact W.iret hx hb hr (fun t9 ht9 hW9 => ⟨⟨_, (m_mk (m_liq u) (m_lev u) (m_nS u) (m_fa u) (m_fb u) (m_seat u) (m_op u) (m_un u) (m_nV u) (m_may u) (m_nR u) (m_rf u) (m_rl u) (m_rw u) (m_rc u) (m_cul u) (m_gu u) (m_te u) 0 (m_wet u)), rfl, ⟨by rw [M_culprit, if_neg (fun h => h.2.2 c_3)], rfl⟩, by rw [ht9]; exact hP, va_K.moved hW9.alike hK, hD⟩, hS.F ht9⟩) hS.2.2 d_M_culprit_31
      · obtain ⟨j, hj, rfl⟩ := ixB_of (n := 4) (by decide) (decide_eq_true ⟨c_2, c_3⟩)
        refine lv_aload_n hx hb d_M_culprit_21 rfl (lv_at hl 0 rfl) ?_
        refine va_get (D := (dC, dI)) (ci := 4) (v := .ref (ma_cul q)) (C := "SeatProofsModel") (T := F_M) (N := 20) hx hb hts (iu_M _) hown hK hP 0 rfl rfl 15 (by decide) (hts _ (List.mem_cons_of_mem _ iw_455)) (fun _ h9 => h9) rfl d_M_culprit_22 ?_
        refine lv_iload_n hx hb d_M_culprit_25 rfl (lv_at hl 1 rfl) ?_
        refine ld_i hx hb hK hP 13 0 rfl rfl (nI (m_cul u j)) (by omega) (by decide) rfl d_M_culprit_26 ?_
        refine lv_goto (tgt := 31) hx hb d_M_culprit_27 (by decide) ?_
        exact W.iret hx hb hr (fun t9 ht9 hW9 => ⟨⟨_, (m_mk (m_liq u) (m_lev u) (m_nS u) (m_fa u) (m_fb u) (m_seat u) (m_op u) (m_un u) (m_nV u) (m_may u) (m_nR u) (m_rf u) (m_rl u) (m_rw u) (m_rc u) (m_cul u) (m_gu u) (m_te u) 0 (m_wet u)), rfl, ⟨by rw [M_culprit, if_pos ⟨c_1, c_2, c_3⟩, nI_clamp (by omega)], rfl⟩, by rw [ht9]; exact hP, va_K.moved hW9.alike hK, hD⟩, hS.F ht9⟩) hS.2.2 d_M_culprit_31
