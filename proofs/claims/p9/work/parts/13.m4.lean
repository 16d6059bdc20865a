set_option maxHeartbeats 4000000 in
set_option maxRecDepth 100000 in
theorem c_M_clear (l : Launch) (dC : Nat → ClassId) (dI : Nat → Nat → Nat) (q : MA) (u : MSt) (sz : Nat)  : Met l y_M_clear w_M_clear ({ frames := 0, cells := 0, slots := 0, locals := 0 }) (qPc (dC, dI) vwCl (tM q) (wM q u) sz [Value.ref (ma_o q)]) (va_Qv (fun z : MSt => ∃ g, (∀ t, t < 256 → g t = false) ∧ z = m_s_th (m_s_te (m_s_gu (m_s_nR (m_s_may (m_s_nV (m_s_nS u 0) 0) g) 0) false) 0) 0) (qB (dC, dI) vwCl (tM q) (wM q u) sz (wM q)) (va_A (wM q u) sz)) 0 0 (va_A (wM q u) sz) := by
  refine Met.ofW (cc := b_M_clear) (maxL := 2) (ret := none) (by decide) rfl ?_
  intro p e s m args below meth c s₁ B hml hv
  obtain ⟨rfl, hsz, hP, hK, hD0, hN⟩ := hv
  have hx := B.exec
  have hb := B.bytes
  have hr := B.returns
  have hts := atoms_spec (ws := w_M_clear) B.pre
  have hown : s.vm.findClass "SeatProofsModel" = some m.cls := findClass_of_methodNamed B.named
  have hlocks := B.notSynchronized
  subst hsz
  have hD := hD0.self (sz := s.heap.size)
  have hA : ∀ z : Nat, s.heap.size ≤ z → va_A (wM q u) s.heap.size z := fun z h => Or.inr h
  have hS : va_S (va_A (wM q u) s.heap.size) s.heap s.heap [] := va_S.rf
  have hl := lv_entry ([Value.ref (ma_o q)]) (n := 2) (Nat.le_of_ble_eq_true rfl)
  rw [lg_entry_eq]
  generalize (lg_sl ([Value.ref (ma_o q)]) ++ List.replicate (2 - (lg_sl ([Value.ref (ma_o q)])).length) Slot.unset).toArray = ls at hl ⊢
  have hl : lv_has ls 2 [(0, .ref (ma_o q))] := hl
  refine lv_aload_n hx hb d_M_clear_0 rfl (lv_at hl 0 rfl) ?_
  refine lv_iconst (v := nI 0) hx hb d_M_clear_1 (by decide) ?_
  refine va_put (D := (dC, dI)) (ci := 4) (v := .int (nI 0)) (ty := .int) (C := "SeatProofsModel") (T := F_M) (N := 20) hx hb hts (iu_M _) t_M t_M_ok n_M hown hK hP hD hS 0 rfl rfl 18 (by decide) (hts _ (List.mem_cons_of_mem _ iw_458)) (fun _ h9 => h9) rfl (by decide +kernel) rfl rfl (Nat.le_of_ble_eq_true rfl) d_M_clear_2 (fun H locs hP hD hS => ?_)
  have hP : va_P (dC, dI) vwCl (wMx q (m_liq u) (m_lev u) (m_nS u) (m_fa u) (m_fb u) (m_seat u) (m_op u) (m_un u) (m_nV u) (m_may u) (m_nR u) (m_rf u) (m_rl u) (m_rw u) (m_rc u) (m_cul u) (m_gu u) (m_te u) 0 (m_wet u)) H := hP
  have hD : va_D (va_A (wM q u) s.heap.size) (wMx q (m_liq u) (m_lev u) (m_nS u) (m_fa u) (m_fb u) (m_seat u) (m_op u) (m_un u) (m_nV u) (m_may u) (m_nR u) (m_rf u) (m_rl u) (m_rw u) (m_rc u) (m_cul u) (m_gu u) (m_te u) 0 (m_wet u)) := hD
  refine lv_iconst (v := nI 0) hx hb d_M_clear_5 (by decide) ?_
  refine lv_istore_n (lv' := [(1, .int (nI 0)), (0, .ref (ma_o q))]) hx hb d_M_clear_6 rfl hl (by decide) rfl (fun ls hl => ?_)
  have L7 : ∀ (n7 : Nat) (i : Nat) (g : Nat → Bool), (i ≤ 256) → (∀ t, t < i → g t = false) → 256 - i < n7 → ∀ (H : Heap) (locs : List Loc) (ls : Array Slot), va_P (dC, dI) vwCl (wMx q (m_liq u) (m_lev u) (m_nS u) (m_fa u) (m_fb u) (m_seat u) (m_op u) (m_un u) (m_nV u) g (m_nR u) (m_rf u) (m_rl u) (m_rw u) (m_rc u) (m_cul u) (m_gu u) (m_te u) 0 (m_wet u)) H → va_D (va_A (wM q u) s.heap.size) (wMx q (m_liq u) (m_lev u) (m_nS u) (m_fa u) (m_fb u) (m_seat u) (m_op u) (m_un u) (m_nV u) g (m_nR u) (m_rf u) (m_rl u) (m_rw u) (m_rc u) (m_cul u) (m_gu u) (m_te u) 0 (m_wet u)) → va_S (va_A (wM q u) s.heap.size) s.heap H locs → lv_has ls 2 [(0, .ref (ma_o q)), (1, .int (nI i))] → W p l e (headSpec w_M_clear ({ frames := 0, cells := 0, slots := 0, locals := 0 })).room s m [Value.ref (ma_o q)].toArray below meth c H locs 0 0 (MQ below (va_Qv (fun z : MSt => ∃ g, (∀ t, t < 256 → g t = false) ∧ z = m_s_th (m_s_te (m_s_gu (m_s_nR (m_s_may (m_s_nV (m_s_nS u 0) 0) g) 0) false) 0) 0) (qB (dC, dI) vwCl (tM q) (wM q u) s.heap.size (wM q)) (va_A (wM q u) s.heap.size)) [Value.ref (ma_o q)].toArray s 0 0 (va_A (wM q u) s.heap.size)) (F0 m 7 ls []) := by
    intro n7
    induction n7 with
    | zero => intro i g hi7 hg7 hm; exact absurd hm (Nat.not_lt_zero _)
    | succ n7 ih7 =>
      intro i g hi7 hg7 hm7 H locs ls hP hD hS hl
      refine lv_iload_n hx hb d_M_clear_7 rfl (lv_at hl 1 rfl) ?_
      refine lv_sipush (v := nI 256) hx hb d_M_clear_8 (by decide) ?_
      refine nv_ge (tgt := 27) hx hb d_M_clear_11 (by decide) (by omega) (by omega) (fun c_1 => ?_) (fun c_1 => ?_)
      · refine lv_aload_n hx hb d_M_clear_27 rfl (lv_at hl 0 rfl) ?_
        refine lv_iconst (v := nI 0) hx hb d_M_clear_28 (by decide) ?_
        refine va_put (D := (dC, dI)) (ci := 4) (v := .int (nI 0)) (ty := .int) (C := "SeatProofsModel") (T := F_M) (N := 20) hx hb hts (iu_M _) t_M t_M_ok n_M hown hK hP hD hS 0 rfl rfl 2 (by decide) (hts _ (List.mem_cons_of_mem _ iw_442)) (fun _ h9 => h9) rfl (by decide +kernel) rfl rfl (Nat.le_of_ble_eq_true rfl) d_M_clear_29 (fun H locs hP hD hS => ?_)
        have hP : va_P (dC, dI) vwCl (wMx q (m_liq u) (m_lev u) 0 (m_fa u) (m_fb u) (m_seat u) (m_op u) (m_un u) (m_nV u) g (m_nR u) (m_rf u) (m_rl u) (m_rw u) (m_rc u) (m_cul u) (m_gu u) (m_te u) 0 (m_wet u)) H := hP
        have hD : va_D (va_A (wM q u) s.heap.size) (wMx q (m_liq u) (m_lev u) 0 (m_fa u) (m_fb u) (m_seat u) (m_op u) (m_un u) (m_nV u) g (m_nR u) (m_rf u) (m_rl u) (m_rw u) (m_rc u) (m_cul u) (m_gu u) (m_te u) 0 (m_wet u)) := hD
        refine lv_aload_n hx hb d_M_clear_32 rfl (lv_at hl 0 rfl) ?_
        refine lv_iconst (v := nI 0) hx hb d_M_clear_33 (by decide) ?_
        refine va_put (D := (dC, dI)) (ci := 4) (v := .int (nI 0)) (ty := .int) (C := "SeatProofsModel") (T := F_M) (N := 20) hx hb hts (iu_M _) t_M t_M_ok n_M hown hK hP hD hS 0 rfl rfl 8 (by decide) (hts _ (List.mem_cons_of_mem _ iw_448)) (fun _ h9 => h9) rfl (by decide +kernel) rfl rfl (Nat.le_of_ble_eq_true rfl) d_M_clear_34 (fun H locs hP hD hS => ?_)
        have hP : va_P (dC, dI) vwCl (wMx q (m_liq u) (m_lev u) 0 (m_fa u) (m_fb u) (m_seat u) (m_op u) (m_un u) 0 g (m_nR u) (m_rf u) (m_rl u) (m_rw u) (m_rc u) (m_cul u) (m_gu u) (m_te u) 0 (m_wet u)) H := hP
        have hD : va_D (va_A (wM q u) s.heap.size) (wMx q (m_liq u) (m_lev u) 0 (m_fa u) (m_fb u) (m_seat u) (m_op u) (m_un u) 0 g (m_nR u) (m_rf u) (m_rl u) (m_rw u) (m_rc u) (m_cul u) (m_gu u) (m_te u) 0 (m_wet u)) := hD
        refine lv_aload_n hx hb d_M_clear_37 rfl (lv_at hl 0 rfl) ?_
        refine lv_iconst (v := nI 0) hx hb d_M_clear_38 (by decide) ?_
        refine va_put (D := (dC, dI)) (ci := 4) (v := .int (nI 0)) (ty := .int) (C := "SeatProofsModel") (T := F_M) (N := 20) hx hb hts (iu_M _) t_M t_M_ok n_M hown hK hP hD hS 0 rfl rfl 10 (by decide) (hts _ (List.mem_cons_of_mem _ iw_450)) (fun _ h9 => h9) rfl (by decide +kernel) rfl rfl (Nat.le_of_ble_eq_true rfl) d_M_clear_39 (fun H locs hP hD hS => ?_)
        have hP : va_P (dC, dI) vwCl (wMx q (m_liq u) (m_lev u) 0 (m_fa u) (m_fb u) (m_seat u) (m_op u) (m_un u) 0 g 0 (m_rf u) (m_rl u) (m_rw u) (m_rc u) (m_cul u) (m_gu u) (m_te u) 0 (m_wet u)) H := hP
        have hD : va_D (va_A (wM q u) s.heap.size) (wMx q (m_liq u) (m_lev u) 0 (m_fa u) (m_fb u) (m_seat u) (m_op u) (m_un u) 0 g 0 (m_rf u) (m_rl u) (m_rw u) (m_rc u) (m_cul u) (m_gu u) (m_te u) 0 (m_wet u)) := hD
        refine lv_aload_n hx hb d_M_clear_42 rfl (lv_at hl 0 rfl) ?_
        refine lv_iconst (v := nI 0) hx hb d_M_clear_43 (by decide) ?_
        refine tp_i (bI false) (by decide) ?_
        refine va_put (D := (dC, dI)) (ci := 4) (v := .int (bI false)) (ty := .boolean) (C := "SeatProofsModel") (T := F_M) (N := 20) hx hb hts (iu_M _) t_M t_M_ok n_M hown hK hP hD hS 0 rfl rfl 16 (by decide) (hts _ (List.mem_cons_of_mem _ iw_456)) (fun _ h9 => h9) rfl (by decide +kernel) (bI_narrow _) (bI_fits _) (Nat.le_of_ble_eq_true rfl) d_M_clear_44 (fun H locs hP hD hS => ?_)
        have hP : va_P (dC, dI) vwCl (wMx q (m_liq u) (m_lev u) 0 (m_fa u) (m_fb u) (m_seat u) (m_op u) (m_un u) 0 g 0 (m_rf u) (m_rl u) (m_rw u) (m_rc u) (m_cul u) false (m_te u) 0 (m_wet u)) H := hP
        have hD : va_D (va_A (wM q u) s.heap.size) (wMx q (m_liq u) (m_lev u) 0 (m_fa u) (m_fb u) (m_seat u) (m_op u) (m_un u) 0 g 0 (m_rf u) (m_rl u) (m_rw u) (m_rc u) (m_cul u) false (m_te u) 0 (m_wet u)) := hD
        refine lv_aload_n hx hb d_M_clear_47 rfl (lv_at hl 0 rfl) ?_
        refine lv_iconst (v := nI 0) hx hb d_M_clear_48 (by decide) ?_
        refine va_put (D := (dC, dI)) (ci := 4) (v := .int (nI 0)) (ty := .int) (C := "SeatProofsModel") (T := F_M) (N := 20) hx hb hts (iu_M _) t_M t_M_ok n_M hown hK hP hD hS 0 rfl rfl 17 (by decide) (hts _ (List.mem_cons_of_mem _ iw_457)) (fun _ h9 => h9) rfl (by decide +kernel) rfl rfl (Nat.le_of_ble_eq_true rfl) d_M_clear_49 (fun H locs hP hD hS => ?_)
        have hP : va_P (dC, dI) vwCl (wMx q (m_liq u) (m_lev u) 0 (m_fa u) (m_fb u) (m_seat u) (m_op u) (m_un u) 0 g 0 (m_rf u) (m_rl u) (m_rw u) (m_rc u) (m_cul u) false 0 0 (m_wet u)) H := hP
        have hD : va_D (va_A (wM q u) s.heap.size) (wMx q (m_liq u) (m_lev u) 0 (m_fa u) (m_fb u) (m_seat u) (m_op u) (m_un u) 0 g 0 (m_rf u) (m_rl u) (m_rw u) (m_rc u) (m_cul u) false 0 0 (m_wet u)) := hD
        exact W.vret hx hb hr (fun t9 ht9 hW9 => ⟨⟨(m_mk (m_liq u) (m_lev u) 0 (m_fa u) (m_fb u) (m_seat u) (m_op u) (m_un u) 0 g 0 (m_rf u) (m_rl u) (m_rw u) (m_rc u) (m_cul u) false 0 0 (m_wet u)), rfl, ⟨g, fun t ht => hg7 t (by omega), rfl⟩, by rw [ht9]; exact hP, va_K.moved hW9.alike hK, hD⟩, hS.F ht9⟩) hS.2.2 d_M_clear_52
      · refine lv_aload_n hx hb d_M_clear_14 rfl (lv_at hl 0 rfl) ?_
        refine va_get (D := (dC, dI)) (ci := 4) (v := .ref (ma_may q)) (C := "SeatProofsModel") (T := F_M) (N := 20) hx hb hts (iu_M _) hown hK hP 0 rfl rfl 9 (by decide) (hts _ (List.mem_cons_of_mem _ iw_449)) (fun _ h9 => h9) rfl d_M_clear_15 ?_
        refine lv_iload_n hx hb d_M_clear_18 rfl (lv_at hl 1 rfl) ?_
        refine lv_iconst (v := nI 0) hx hb d_M_clear_19 (by decide) ?_
        refine tp_i (bI false) (by decide) ?_
        refine st_z hx hb hK hP hD hS 8 2 rfl rfl (fun j9 => bI (va_up g i false j9)) (by omega) (by decide) (upd_bI _ _ _) d_M_clear_20 (fun H locs hP hD hS => ?_)
        have hP : va_P (dC, dI) vwCl (wMx q (m_liq u) (m_lev u) (m_nS u) (m_fa u) (m_fb u) (m_seat u) (m_op u) (m_un u) (m_nV u) (va_up g i false) (m_nR u) (m_rf u) (m_rl u) (m_rw u) (m_rc u) (m_cul u) (m_gu u) (m_te u) 0 (m_wet u)) H := hP
        have hD : va_D (va_A (wM q u) s.heap.size) (wMx q (m_liq u) (m_lev u) (m_nS u) (m_fa u) (m_fb u) (m_seat u) (m_op u) (m_un u) (m_nV u) (va_up g i false) (m_nR u) (m_rf u) (m_rl u) (m_rw u) (m_rc u) (m_cul u) (m_gu u) (m_te u) 0 (m_wet u)) := hD
        refine lv_iinc (v := nI (i + 1)) (lv' := [(1, .int (nI (i + 1))), (0, .ref (ma_o q))]) hx hb d_M_clear_21 hl (k := 1) rfl (nI_1 _) (by decide) rfl (fun ls hl => ?_)
        refine lv_goto (tgt := 7) hx hb d_M_clear_24 (by decide) ?_
        exact ih7 (i + 1) (va_up g i false) (by omega) (up_lt (h := fun _ => false) hg7 rfl) (by omega) _ _ ls hP hD hS (lv_sub hl [1, 0] rfl)
  exact L7 _ 0 (m_may u) (Nat.zero_le _) (fun t ht => absurd ht (Nat.not_lt_zero t)) (Nat.lt_succ_self _) _ _ ls hP hD hS (lv_sub hl [1, 0] rfl)
set_option maxHeartbeats 4000000 in
set_option maxRecDepth 100000 in
theorem c_M_drop (l : Launch) (dC : Nat → ClassId) (dI : Nat → Nat → Nat) (q : MA) (u : MSt) (sz : Nat) (x : Int32) (hu : MOk u) : Met l y_M_drop w_M_drop ({ frames := 0, cells := 0, slots := 0, locals := 0 }) (qPc (dC, dI) vwCl (tM q) (wM q u) sz [Value.ref (ma_o q), Value.int x]) (va_Qi (fun (r : Int32) (z : MSt) => r = bI (M_drop u x).1 ∧ z = (M_drop u x).2) (qB (dC, dI) vwCl (tM q) (wM q u) sz (wM q)) (va_A (wM q u) sz)) 0 0 (va_A (wM q u) sz) := by
  refine Met.ofW (cc := b_M_drop) (maxL := 3) (ret := (some .boolean)) (by decide) rfl ?_
  intro p e s m args below meth c s₁ B hml hv
  obtain ⟨rfl, hsz, hP, hK, hD0, hN⟩ := hv
  have hx := B.exec
  have hb := B.bytes
  have hr := B.returns
  have hts := atoms_spec (ws := w_M_drop) B.pre
  have hown : s.vm.findClass "SeatProofsModel" = some m.cls := findClass_of_methodNamed B.named
  have hlocks := B.notSynchronized
  subst hsz
  have hD := hD0.self (sz := s.heap.size)
  have hA : ∀ z : Nat, s.heap.size ≤ z → va_A (wM q u) s.heap.size z := fun z h => Or.inr h
  have hS : va_S (va_A (wM q u) s.heap.size) s.heap s.heap [] := va_S.rf
  have hl := lv_entry ([Value.ref (ma_o q), Value.int x]) (n := 3) (Nat.le_of_ble_eq_true rfl)
  rw [lg_entry_eq]
  generalize (lg_sl ([Value.ref (ma_o q), Value.int x]) ++ List.replicate (3 - (lg_sl ([Value.ref (ma_o q), Value.int x])).length) Slot.unset).toArray = ls at hl ⊢
  have hl : lv_has ls 3 [(0, .ref (ma_o q)), (1, .int x)] := hl
  obtain ⟨k1, k2, k3, k4, k5, k6, k7, k8, k9, k10, k11⟩ := id hu
  refine lv_aload_n hx hb d_M_drop_0 rfl (lv_at hl 0 rfl) ?_
  refine lv_iconst (v := nI 0) hx hb d_M_drop_1 (by decide) ?_
  refine va_put (D := (dC, dI)) (ci := 4) (v := .int (nI 0)) (ty := .int) (C := "SeatProofsModel") (T := F_M) (N := 20) hx hb hts (iu_M _) t_M t_M_ok n_M hown hK hP hD hS 0 rfl rfl 18 (by decide) (hts _ (List.mem_cons_of_mem _ iw_458)) (fun _ h9 => h9) rfl (by decide +kernel) rfl rfl (Nat.le_of_ble_eq_true rfl) d_M_drop_2 (fun H locs hP hD hS => ?_)
  have hP : va_P (dC, dI) vwCl (wMx q (m_liq u) (m_lev u) (m_nS u) (m_fa u) (m_fb u) (m_seat u) (m_op u) (m_un u) (m_nV u) (m_may u) (m_nR u) (m_rf u) (m_rl u) (m_rw u) (m_rc u) (m_cul u) (m_gu u) (m_te u) 0 (m_wet u)) H := hP
  have hD : va_D (va_A (wM q u) s.heap.size) (wMx q (m_liq u) (m_lev u) (m_nS u) (m_fa u) (m_fb u) (m_seat u) (m_op u) (m_un u) (m_nV u) (m_may u) (m_nR u) (m_rf u) (m_rl u) (m_rw u) (m_rc u) (m_cul u) (m_gu u) (m_te u) 0 (m_wet u)) := hD
  refine lv_iload_n hx hb d_M_drop_5 rfl (lv_at hl 1 rfl) ?_
  refine lv_if_lt (tgt := 17) hx hb d_M_drop_6 (by decide) (fun c_1 => ?_) (fun c_1 => ?_)
  · refine lv_iconst (v := nI 0) hx hb d_M_drop_17 (by decide) ?_
    refine tp_i (bI false) (by decide) ?_
    exact W.zret hx hb hr (bI_narrow _) (fun t9 ht9 hW9 => ⟨⟨_, (m_mk (m_liq u) (m_lev u) (m_nS u) (m_fa u) (m_fb u) (m_seat u) (m_op u) (m_un u) (m_nV u) (m_may u) (m_nR u) (m_rf u) (m_rl u) (m_rw u) (m_rc u) (m_cul u) (m_gu u) (m_te u) 0 (m_wet u)), rfl, ⟨by rw [M_drop, if_pos (ixB_lo c_1)], by rw [M_drop, if_pos (ixB_lo c_1)]; first | done | rfl⟩, by rw [ht9]; exact hP, va_K.moved hW9.alike hK, hD⟩, hS.F ht9⟩) hS.2.2 d_M_drop_18
  · refine lv_iload_n hx hb d_M_drop_9 rfl (lv_at hl 1 rfl) ?_
    refine lv_aload_n hx hb d_M_drop_10 rfl (lv_at hl 0 rfl) ?_
    refine va_get (D := (dC, dI)) (ci := 4) (v := .int (nI (m_nR u))) (C := "SeatProofsModel") (T := F_M) (N := 20) hx hb hts (iu_M _) hown hK hP 0 rfl rfl 10 (by decide) (hts _ (List.mem_cons_of_mem _ iw_450)) (fun _ h9 => h9) rfl d_M_drop_11 ?_
    refine lv_icmp_lt (tgt := 19) hx hb d_M_drop_14 (by decide) (fun c_2 => ?_) (fun c_2 => ?_)
    · have hdx : ixB x (m_nR u) = true := decide_eq_true ⟨c_1, Int32.not_le.mpr c_2⟩
      obtain ⟨j, hj, rfl⟩ := ixB_of (by show m_nR u < 2 ^ 31; omega) hdx
      have hj : j < m_nR u := hj
      refine lv_iload_n hx hb d_M_drop_19 rfl (lv_at hl 1 rfl) ?_
      refine lv_istore_n (lv' := [(2, .int (nI j)), (0, .ref (ma_o q)), (1, .int (nI j))]) hx hb d_M_drop_20 rfl hl (by decide) rfl (fun ls hl => ?_)
      have L21 : ∀ (n21 : Nat) (k : Nat) (g1 : Nat → Nat) (g2 : Nat → Nat) (g3 : Nat → Int64) (g4 : Nat → Int64), (j ≤ k) → (k < m_nR u) → (g1 = sh (m_rf u) j k) → (g2 = sh (m_rl u) j k) → (g3 = sh (m_rw u) j k) → (g4 = sh (m_rc u) j k) → m_nR u - k < n21 → ∀ (H : Heap) (locs : List Loc) (ls : Array Slot), va_P (dC, dI) vwCl (wMx q (m_liq u) (m_lev u) (m_nS u) (m_fa u) (m_fb u) (m_seat u) (m_op u) (m_un u) (m_nV u) (m_may u) (m_nR u) g1 g2 g3 g4 (m_cul u) (m_gu u) (m_te u) 0 (m_wet u)) H → va_D (va_A (wM q u) s.heap.size) (wMx q (m_liq u) (m_lev u) (m_nS u) (m_fa u) (m_fb u) (m_seat u) (m_op u) (m_un u) (m_nV u) (m_may u) (m_nR u) g1 g2 g3 g4 (m_cul u) (m_gu u) (m_te u) 0 (m_wet u)) → va_S (va_A (wM q u) s.heap.size) s.heap H locs → lv_has ls 3 [(0, .ref (ma_o q)), (1, .int (nI j)), (2, .int (nI k))] → W p l e (headSpec w_M_drop ({ frames := 0, cells := 0, slots := 0, locals := 0 })).room s m [Value.ref (ma_o q), Value.int (nI j)].toArray below meth c H locs 0 0 (MQ below (va_Qi (fun (r : Int32) (z : MSt) => r = bI (M_drop u (nI j)).1 ∧ z = (M_drop u (nI j)).2) (qB (dC, dI) vwCl (tM q) (wM q u) s.heap.size (wM q)) (va_A (wM q u) s.heap.size)) [Value.ref (ma_o q), Value.int (nI j)].toArray s 0 0 (va_A (wM q u) s.heap.size)) (F0 m 21 ls []) := by
        intro n21
        induction n21 with
        | zero => intro k g1 g2 g3 g4 hk1 hk2 h1 h2 h3 h4 hm; exact absurd hm (Nat.not_lt_zero _)
        | succ n21 ih21 =>
          intro k g1 g2 g3 g4 hk1 hk2 h1 h2 h3 h4 hm21 H locs ls hP hD hS hl
          refine lv_iload_n hx hb d_M_drop_21 rfl (lv_at hl 2 rfl) ?_
          refine lv_iconst (v := nI 1) hx hb d_M_drop_22 (by decide) ?_
          refine lv_iadd hx hb d_M_drop_23 ?_
          refine tp_i (nI (k + 1)) (nI_add _ _) ?_
          refine lv_aload_n hx hb d_M_drop_24 rfl (lv_at hl 0 rfl) ?_
          refine va_get (D := (dC, dI)) (ci := 4) (v := .int (nI (m_nR u))) (C := "SeatProofsModel") (T := F_M) (N := 20) hx hb hts (iu_M _) hown hK hP 0 rfl rfl 10 (by decide) (hts _ (List.mem_cons_of_mem _ iw_450)) (fun _ h9 => h9) rfl d_M_drop_25 ?_
          refine nv_ge (tgt := 93) hx hb d_M_drop_28 (by decide) (by omega) (by omega) (fun c_3 => ?_) (fun c_3 => ?_)
          · refine lv_aload_n hx hb d_M_drop_93 rfl (lv_at hl 0 rfl) ?_
            refine lv_dup hx hb d_M_drop_94 rfl ?_
            refine va_get (D := (dC, dI)) (ci := 4) (v := .int (nI (m_nR u))) (C := "SeatProofsModel") (T := F_M) (N := 20) hx hb hts (iu_M _) hown hK hP 0 rfl rfl 10 (by decide) (hts _ (List.mem_cons_of_mem _ iw_450)) (fun _ h9 => h9) rfl d_M_drop_95 ?_
            refine lv_iconst (v := nI 1) hx hb d_M_drop_98 (by decide) ?_
            refine lv_isub hx hb d_M_drop_99 ?_
            refine tp_i (nI (m_nR u - 1)) (pk_sub (by omega)) ?_
            refine va_put (D := (dC, dI)) (ci := 4) (v := .int (nI (m_nR u - 1))) (ty := .int) (C := "SeatProofsModel") (T := F_M) (N := 20) hx hb hts (iu_M _) t_M t_M_ok n_M hown hK hP hD hS 0 rfl rfl 10 (by decide) (hts _ (List.mem_cons_of_mem _ iw_450)) (fun _ h9 => h9) rfl (by decide +kernel) rfl rfl (Nat.le_of_ble_eq_true rfl) d_M_drop_100 (fun H locs hP hD hS => ?_)
            have hP : va_P (dC, dI) vwCl (wMx q (m_liq u) (m_lev u) (m_nS u) (m_fa u) (m_fb u) (m_seat u) (m_op u) (m_un u) (m_nV u) (m_may u) (m_nR u - 1) g1 g2 g3 g4 (m_cul u) (m_gu u) (m_te u) 0 (m_wet u)) H := hP
            have hD : va_D (va_A (wM q u) s.heap.size) (wMx q (m_liq u) (m_lev u) (m_nS u) (m_fa u) (m_fb u) (m_seat u) (m_op u) (m_un u) (m_nV u) (m_may u) (m_nR u - 1) g1 g2 g3 g4 (m_cul u) (m_gu u) (m_te u) 0 (m_wet u)) := hD
            refine lv_iconst (v := nI 1) hx hb d_M_drop_103 (by decide) ?_
            refine tp_i (bI true) (by decide) ?_
            exact W.zret hx hb hr (bI_narrow _) (fun t9 ht9 hW9 => ⟨⟨_, (m_mk (m_liq u) (m_lev u) (m_nS u) (m_fa u) (m_fb u) (m_seat u) (m_op u) (m_un u) (m_nV u) (m_may u) (m_nR u - 1) g1 g2 g3 g4 (m_cul u) (m_gu u) (m_te u) 0 (m_wet u)), rfl, ⟨by rw [M_drop, if_neg (fun h => absurd (h.symm.trans hdx) (by decide))], by rw [M_drop, if_neg (fun h => absurd (h.symm.trans hdx) (by decide)), nI_clamp (show j < 2 ^ 31 by omega), h1, h2, h3, h4, show k = m_nR u - 1 from by omega]; first | done | rfl⟩, by rw [ht9]; exact hP, va_K.moved hW9.alike hK, hD⟩, hS.F ht9⟩) hS.2.2 d_M_drop_104
          · refine lv_aload_n hx hb d_M_drop_31 rfl (lv_at hl 0 rfl) ?_
            refine va_get (D := (dC, dI)) (ci := 4) (v := .ref (ma_rf q)) (C := "SeatProofsModel") (T := F_M) (N := 20) hx hb hts (iu_M _) hown hK hP 0 rfl rfl 11 (by decide) (hts _ (List.mem_cons_of_mem _ iw_451)) (fun _ h9 => h9) rfl d_M_drop_32 ?_
            refine lv_iload_n hx hb d_M_drop_35 rfl (lv_at hl 2 rfl) ?_
            refine lv_aload_n hx hb d_M_drop_36 rfl (lv_at hl 0 rfl) ?_
            refine va_get (D := (dC, dI)) (ci := 4) (v := .ref (ma_rf q)) (C := "SeatProofsModel") (T := F_M) (N := 20) hx hb hts (iu_M _) hown hK hP 0 rfl rfl 11 (by decide) (hts _ (List.mem_cons_of_mem _ iw_451)) (fun _ h9 => h9) rfl d_M_drop_37 ?_
            refine lv_iload_n hx hb d_M_drop_40 rfl (lv_at hl 2 rfl) ?_
            refine lv_iconst (v := nI 1) hx hb d_M_drop_41 (by decide) ?_
            refine lv_iadd hx hb d_M_drop_42 ?_
            refine tp_i (nI (k + 1)) (nI_add _ _) ?_
            refine ld_i hx hb hK hP 9 0 rfl rfl (nI (g1 (k + 1))) (by omega) (by decide) rfl d_M_drop_43 ?_
            refine st_i hx hb hK hP hD hS 9 0 rfl rfl (fun j9 => nI (va_up g1 k (g1 (k + 1)) j9)) (by omega) (by decide) (upd_nI _ _ _) d_M_drop_44 (fun H locs hP hD hS => ?_)
            have hP : va_P (dC, dI) vwCl (wMx q (m_liq u) (m_lev u) (m_nS u) (m_fa u) (m_fb u) (m_seat u) (m_op u) (m_un u) (m_nV u) (m_may u) (m_nR u) (va_up g1 k (g1 (k + 1))) g2 g3 g4 (m_cul u) (m_gu u) (m_te u) 0 (m_wet u)) H := hP
            have hD : va_D (va_A (wM q u) s.heap.size) (wMx q (m_liq u) (m_lev u) (m_nS u) (m_fa u) (m_fb u) (m_seat u) (m_op u) (m_un u) (m_nV u) (m_may u) (m_nR u) (va_up g1 k (g1 (k + 1))) g2 g3 g4 (m_cul u) (m_gu u) (m_te u) 0 (m_wet u)) := hD
            refine lv_aload_n hx hb d_M_drop_45 rfl (lv_at hl 0 rfl) ?_
            refine va_get (D := (dC, dI)) (ci := 4) (v := .ref (ma_rl q)) (C := "SeatProofsModel") (T := F_M) (N := 20) hx hb hts (iu_M _) hown hK hP 0 rfl rfl 12 (by decide) (hts _ (List.mem_cons_of_mem _ iw_452)) (fun _ h9 => h9) rfl d_M_drop_46 ?_
            refine lv_iload_n hx hb d_M_drop_49 rfl (lv_at hl 2 rfl) ?_
            refine lv_aload_n hx hb d_M_drop_50 rfl (lv_at hl 0 rfl) ?_
            refine va_get (D := (dC, dI)) (ci := 4) (v := .ref (ma_rl q)) (C := "SeatProofsModel") (T := F_M) (N := 20) hx hb hts (iu_M _) hown hK hP 0 rfl rfl 12 (by decide) (hts _ (List.mem_cons_of_mem _ iw_452)) (fun _ h9 => h9) rfl d_M_drop_51 ?_
            refine lv_iload_n hx hb d_M_drop_54 rfl (lv_at hl 2 rfl) ?_
            refine lv_iconst (v := nI 1) hx hb d_M_drop_55 (by decide) ?_
            refine lv_iadd hx hb d_M_drop_56 ?_
            refine tp_i (nI (k + 1)) (nI_add _ _) ?_
            refine ld_i hx hb hK hP 10 0 rfl rfl (nI (g2 (k + 1))) (by omega) (by decide) rfl d_M_drop_57 ?_
            refine st_i hx hb hK hP hD hS 10 0 rfl rfl (fun j9 => nI (va_up g2 k (g2 (k + 1)) j9)) (by omega) (by decide) (upd_nI _ _ _) d_M_drop_58 (fun H locs hP hD hS => ?_)
            have hP : va_P (dC, dI) vwCl (wMx q (m_liq u) (m_lev u) (m_nS u) (m_fa u) (m_fb u) (m_seat u) (m_op u) (m_un u) (m_nV u) (m_may u) (m_nR u) (va_up g1 k (g1 (k + 1))) (va_up g2 k (g2 (k + 1))) g3 g4 (m_cul u) (m_gu u) (m_te u) 0 (m_wet u)) H := hP
            have hD : va_D (va_A (wM q u) s.heap.size) (wMx q (m_liq u) (m_lev u) (m_nS u) (m_fa u) (m_fb u) (m_seat u) (m_op u) (m_un u) (m_nV u) (m_may u) (m_nR u) (va_up g1 k (g1 (k + 1))) (va_up g2 k (g2 (k + 1))) g3 g4 (m_cul u) (m_gu u) (m_te u) 0 (m_wet u)) := hD
            refine lv_aload_n hx hb d_M_drop_59 rfl (lv_at hl 0 rfl) ?_
            refine va_get (D := (dC, dI)) (ci := 4) (v := .ref (ma_rw q)) (C := "SeatProofsModel") (T := F_M) (N := 20) hx hb hts (iu_M _) hown hK hP 0 rfl rfl 13 (by decide) (hts _ (List.mem_cons_of_mem _ iw_453)) (fun _ h9 => h9) rfl d_M_drop_60 ?_
            refine lv_iload_n hx hb d_M_drop_63 rfl (lv_at hl 2 rfl) ?_
            refine lv_aload_n hx hb d_M_drop_64 rfl (lv_at hl 0 rfl) ?_
            refine va_get (D := (dC, dI)) (ci := 4) (v := .ref (ma_rw q)) (C := "SeatProofsModel") (T := F_M) (N := 20) hx hb hts (iu_M _) hown hK hP 0 rfl rfl 13 (by decide) (hts _ (List.mem_cons_of_mem _ iw_453)) (fun _ h9 => h9) rfl d_M_drop_65 ?_
            refine lv_iload_n hx hb d_M_drop_68 rfl (lv_at hl 2 rfl) ?_
            refine lv_iconst (v := nI 1) hx hb d_M_drop_69 (by decide) ?_
            refine lv_iadd hx hb d_M_drop_70 ?_
            refine tp_i (nI (k + 1)) (nI_add _ _) ?_
            refine ld_l hx hb hK hP 11 1 rfl rfl (g3 (k + 1)) (by omega) (by decide) rfl d_M_drop_71 ?_
            refine st_l hx hb hK hP hD hS 11 1 rfl rfl (va_up g3 k (g3 (k + 1))) (by omega) (by decide) (updL_up _ _ _) d_M_drop_72 (fun H locs hP hD hS => ?_)
            have hP : va_P (dC, dI) vwCl (wMx q (m_liq u) (m_lev u) (m_nS u) (m_fa u) (m_fb u) (m_seat u) (m_op u) (m_un u) (m_nV u) (m_may u) (m_nR u) (va_up g1 k (g1 (k + 1))) (va_up g2 k (g2 (k + 1))) (va_up g3 k (g3 (k + 1))) g4 (m_cul u) (m_gu u) (m_te u) 0 (m_wet u)) H := hP
            have hD : va_D (va_A (wM q u) s.heap.size) (wMx q (m_liq u) (m_lev u) (m_nS u) (m_fa u) (m_fb u) (m_seat u) (m_op u) (m_un u) (m_nV u) (m_may u) (m_nR u) (va_up g1 k (g1 (k + 1))) (va_up g2 k (g2 (k + 1))) (va_up g3 k (g3 (k + 1))) g4 (m_cul u) (m_gu u) (m_te u) 0 (m_wet u)) := hD
            refine lv_aload_n hx hb d_M_drop_73 rfl (lv_at hl 0 rfl) ?_
            refine va_get (D := (dC, dI)) (ci := 4) (v := .ref (ma_rc q)) (C := "SeatProofsModel") (T := F_M) (N := 20) hx hb hts (iu_M _) hown hK hP 0 rfl rfl 14 (by decide) (hts _ (List.mem_cons_of_mem _ iw_454)) (fun _ h9 => h9) rfl d_M_drop_74 ?_
            refine lv_iload_n hx hb d_M_drop_77 rfl (lv_at hl 2 rfl) ?_
            refine lv_aload_n hx hb d_M_drop_78 rfl (lv_at hl 0 rfl) ?_
            refine va_get (D := (dC, dI)) (ci := 4) (v := .ref (ma_rc q)) (C := "SeatProofsModel") (T := F_M) (N := 20) hx hb hts (iu_M _) hown hK hP 0 rfl rfl 14 (by decide) (hts _ (List.mem_cons_of_mem _ iw_454)) (fun _ h9 => h9) rfl d_M_drop_79 ?_
            refine lv_iload_n hx hb d_M_drop_82 rfl (lv_at hl 2 rfl) ?_
            refine lv_iconst (v := nI 1) hx hb d_M_drop_83 (by decide) ?_
            refine lv_iadd hx hb d_M_drop_84 ?_
            refine tp_i (nI (k + 1)) (nI_add _ _) ?_
            refine ld_l hx hb hK hP 12 1 rfl rfl (g4 (k + 1)) (by omega) (by decide) rfl d_M_drop_85 ?_
            refine st_l hx hb hK hP hD hS 12 1 rfl rfl (va_up g4 k (g4 (k + 1))) (by omega) (by decide) (updL_up _ _ _) d_M_drop_86 (fun H locs hP hD hS => ?_)
            have hP : va_P (dC, dI) vwCl (wMx q (m_liq u) (m_lev u) (m_nS u) (m_fa u) (m_fb u) (m_seat u) (m_op u) (m_un u) (m_nV u) (m_may u) (m_nR u) (va_up g1 k (g1 (k + 1))) (va_up g2 k (g2 (k + 1))) (va_up g3 k (g3 (k + 1))) (va_up g4 k (g4 (k + 1))) (m_cul u) (m_gu u) (m_te u) 0 (m_wet u)) H := hP
            have hD : va_D (va_A (wM q u) s.heap.size) (wMx q (m_liq u) (m_lev u) (m_nS u) (m_fa u) (m_fb u) (m_seat u) (m_op u) (m_un u) (m_nV u) (m_may u) (m_nR u) (va_up g1 k (g1 (k + 1))) (va_up g2 k (g2 (k + 1))) (va_up g3 k (g3 (k + 1))) (va_up g4 k (g4 (k + 1))) (m_cul u) (m_gu u) (m_te u) 0 (m_wet u)) := hD
            refine lv_iinc (v := nI (k + 1)) (lv' := [(2, .int (nI (k + 1))), (0, .ref (ma_o q)), (1, .int (nI j))]) hx hb d_M_drop_87 hl (k := 2) rfl (nI_1 _) (by decide) rfl (fun ls hl => ?_)
            refine lv_goto (tgt := 21) hx hb d_M_drop_90 (by decide) ?_
            exact ih21 (k + 1) (va_up g1 k (g1 (k + 1))) (va_up g2 k (g2 (k + 1))) (va_up g3 k (g3 (k + 1))) (va_up g4 k (g4 (k + 1))) (by omega) (by omega) (sh_s h1 hk1) (sh_s h2 hk1) (sh_s h3 hk1) (sh_s h4 hk1) (by omega) _ _ ls hP hD hS (lv_sub hl [1, 2, 0] rfl)
      exact L21 _ j (m_rf u) (m_rl u) (m_rw u) (m_rc u) (Nat.le_refl _) hj sh_0 sh_0 sh_0 sh_0 (Nat.lt_succ_self _) _ _ ls hP hD hS (lv_sub hl [1, 2, 0] rfl)
    · refine lv_iconst (v := nI 0) hx hb d_M_drop_17 (by decide) ?_
      refine tp_i (bI false) (by decide) ?_
      exact W.zret hx hb hr (bI_narrow _) (fun t9 ht9 hW9 => ⟨⟨_, (m_mk (m_liq u) (m_lev u) (m_nS u) (m_fa u) (m_fb u) (m_seat u) (m_op u) (m_un u) (m_nV u) (m_may u) (m_nR u) (m_rf u) (m_rl u) (m_rw u) (m_rc u) (m_cul u) (m_gu u) (m_te u) 0 (m_wet u)), rfl, ⟨by rw [M_drop, if_pos (ixB_nl c_2)], by rw [M_drop, if_pos (ixB_nl c_2)]; first | done | rfl⟩, by rw [ht9]; exact hP, va_K.moved hW9.alike hK, hD⟩, hS.F ht9⟩) hS.2.2 d_M_drop_18
set_option maxHeartbeats 4000000 in
set_option maxRecDepth 100000 in
theorem c_M_row (l : Launch) (dC : Nat → ClassId) (dI : Nat → Nat → Nat) (q : MA) (u : MSt) (sz : Nat) (x y : Int32) (hu : MOk u) : Met l y_M_row w_M_row ({ frames := 2, cells := 0, slots := 0, locals := 45 }) (qPc (dC, dI) vwCl (tM q) (wM q u) sz [Value.ref (ma_o q), Value.int x, Value.int y]) (va_Qi (fun (r : Int32) (z : MSt) => r = M_row u x y ∧ z = m_s_th u 0) (qB (dC, dI) vwCl (tM q) (wM q u) sz (wM q)) (va_A (wM q u) sz)) 0 0 (va_A (wM q u) sz) := by
  refine Met.ofW (cc := b_M_row) (maxL := 5) (ret := (some .int)) (by decide) rfl ?_
  intro p e s m args below meth c s₁ B hml hv
  obtain ⟨rfl, hsz, hP, hK, hD0, hN⟩ := hv
  have hx := B.exec
  have hb := B.bytes
  have hr := B.returns
  have hts := atoms_spec (ws := w_M_row) B.pre
  have hown : s.vm.findClass "SeatProofsModel" = some m.cls := findClass_of_methodNamed B.named
  have hlocks := B.notSynchronized
  subst hsz
  have hD := hD0.self (sz := s.heap.size)
  have hA : ∀ z : Nat, s.heap.size ≤ z → va_A (wM q u) s.heap.size z := fun z h => Or.inr h
  have hS : va_S (va_A (wM q u) s.heap.size) s.heap s.heap [] := va_S.rf
  have hl := lv_entry ([Value.ref (ma_o q), Value.int x, Value.int y]) (n := 5) (Nat.le_of_ble_eq_true rfl)
  rw [lg_entry_eq]
  generalize (lg_sl ([Value.ref (ma_o q), Value.int x, Value.int y]) ++ List.replicate (5 - (lg_sl ([Value.ref (ma_o q), Value.int x, Value.int y])).length) Slot.unset).toArray = ls at hl ⊢
  have hl : lv_has ls 5 [(0, .ref (ma_o q)), (1, .int x), (2, .int y)] := hl
  obtain ⟨k1, k2, k3, k4, k5, k6, k7, k8, k9, k10, k11⟩ := id hu
  refine lv_aload_n hx hb d_M_row_0 rfl (lv_at hl 0 rfl) ?_
  refine lv_iconst (v := nI 0) hx hb d_M_row_1 (by decide) ?_
  refine va_put (D := (dC, dI)) (ci := 4) (v := .int (nI 0)) (ty := .int) (C := "SeatProofsModel") (T := F_M) (N := 20) hx hb hts (iu_M _) t_M t_M_ok n_M hown hK hP hD hS 0 rfl rfl 18 (by decide) (hts _ (List.mem_cons_of_mem _ iw_458)) (fun _ h9 => h9) rfl (by decide +kernel) rfl rfl (Nat.le_of_ble_eq_true rfl) d_M_row_2 (fun H locs hP hD hS => ?_)
  have hP : va_P (dC, dI) vwCl (wMx q (m_liq u) (m_lev u) (m_nS u) (m_fa u) (m_fb u) (m_seat u) (m_op u) (m_un u) (m_nV u) (m_may u) (m_nR u) (m_rf u) (m_rl u) (m_rw u) (m_rc u) (m_cul u) (m_gu u) (m_te u) 0 (m_wet u)) H := hP
  have hD : va_D (va_A (wM q u) s.heap.size) (wMx q (m_liq u) (m_lev u) (m_nS u) (m_fa u) (m_fb u) (m_seat u) (m_op u) (m_un u) (m_nV u) (m_may u) (m_nR u) (m_rf u) (m_rl u) (m_rw u) (m_rc u) (m_cul u) (m_gu u) (m_te u) 0 (m_wet u)) := hD
  refine lv_iload_n hx hb d_M_row_5 rfl (lv_at hl 1 rfl) ?_
  refine lv_if_lt (tgt := 21) hx hb d_M_row_6 (by decide) (fun c_1 => ?_) (fun c_1 => ?_)
  · refine lv_iconst (v := (-1)) hx hb d_M_row_21 (by decide) ?_
    exact W.iret hx hb hr (fun t9 ht9 hW9 => ⟨⟨_, (m_mk (m_liq u) (m_lev u) (m_nS u) (m_fa u) (m_fb u) (m_seat u) (m_op u) (m_un u) (m_nV u) (m_may u) (m_nR u) (m_rf u) (m_rl u) (m_rw u) (m_rc u) (m_cul u) (m_gu u) (m_te u) 0 (m_wet u)), rfl, ⟨by rw [M_row, if_pos (Or.inl (ixB_lo c_1))], rfl⟩, by rw [ht9]; exact hP, va_K.moved hW9.alike hK, hD⟩, hS.F ht9⟩) hS.2.2 d_M_row_22
  · refine lv_iload_n hx hb d_M_row_9 rfl (lv_at hl 1 rfl) ?_
    refine lv_aload_n hx hb d_M_row_10 rfl (lv_at hl 0 rfl) ?_
    refine va_get (D := (dC, dI)) (ci := 4) (v := .int (nI (m_nR u))) (C := "SeatProofsModel") (T := F_M) (N := 20) hx hb hts (iu_M _) hown hK hP 0 rfl rfl 10 (by decide) (hts _ (List.mem_cons_of_mem _ iw_450)) (fun _ h9 => h9) rfl d_M_row_11 ?_
    refine lv_icmp_ge (tgt := 21) hx hb d_M_row_14 (by decide) (fun c_2 => ?_) (fun c_2 => ?_)
    · refine lv_iconst (v := (-1)) hx hb d_M_row_21 (by decide) ?_
      exact W.iret hx hb hr (fun t9 ht9 hW9 => ⟨⟨_, (m_mk (m_liq u) (m_lev u) (m_nS u) (m_fa u) (m_fb u) (m_seat u) (m_op u) (m_un u) (m_nV u) (m_may u) (m_nR u) (m_rf u) (m_rl u) (m_rw u) (m_rc u) (m_cul u) (m_gu u) (m_te u) 0 (m_wet u)), rfl, ⟨by rw [M_row, if_pos (Or.inl (ixB_hi c_2))], rfl⟩, by rw [ht9]; exact hP, va_K.moved hW9.alike hK, hD⟩, hS.F ht9⟩) hS.2.2 d_M_row_22
    · have hrx : ixB x (m_nR u) = true := decide_eq_true ⟨c_1, c_2⟩
      obtain ⟨i, hi, rfl⟩ := ixB_of (by show m_nR u < 2 ^ 31; omega) hrx
      have hi : i < m_nR u := hi
      refine lv_iload_n hx hb d_M_row_17 rfl (lv_at hl 2 rfl) ?_
      refine lv_if_ge (tgt := 23) hx hb d_M_row_18 (by decide) (fun c_3 => ?_) (fun c_3 => ?_)
      · have hry : ¬ y < 0 := Int32.not_lt.mpr c_3
        obtain ⟨ym, hym, rfl⟩ := nI_of hry
        refine lv_iload_n hx hb d_M_row_23 rfl (lv_at hl 2 rfl) ?_
        refine lv_iconst (v := nI 4) hx hb d_M_row_24 (by decide) ?_
        refine nv_ge (tgt := 82) hx hb d_M_row_25 (by decide) (by omega) (by omega) (fun c_4 => ?_) (fun c_4 => ?_)
        · refine lv_iload_n hx hb d_M_row_82 rfl (lv_at hl 2 rfl) ?_
          refine lv_iconst (v := nI 4) hx hb d_M_row_83 (by decide) ?_
          refine lv_isub hx hb d_M_row_84 ?_
          refine tp_i (nI (ym - 4)) (pk_sub (by omega)) ?_
          refine lv_istore_n (lv' := [(3, .int (nI (ym - 4))), (0, .ref (ma_o q)), (1, .int (nI i)), (2, .int (nI ym))]) hx hb d_M_row_85 rfl hl (by decide) rfl (fun ls hl => ?_)
          refine lv_iconst (v := nI 0) hx hb d_M_row_86 (by decide) ?_
          refine lv_istore (lv' := [(4, .int (nI 0)), (3, .int (nI (ym - 4))), (0, .ref (ma_o q)), (1, .int (nI i)), (2, .int (nI ym))]) hx hb d_M_row_87 hl (by decide) rfl (fun ls hl => ?_)
          have L89 : ∀ (n89 : Nat) (v : Nat) (t : Nat), (v ≤ m_nV u) → (t + pcn (tb (m_rc u i)) v = ym - 4) → (nthB (tb (m_rc u i)) (ym - 4) v = none) → m_nV u - v < n89 → ∀ (H : Heap) (locs : List Loc) (ls : Array Slot), va_P (dC, dI) vwCl (wMx q (m_liq u) (m_lev u) (m_nS u) (m_fa u) (m_fb u) (m_seat u) (m_op u) (m_un u) (m_nV u) (m_may u) (m_nR u) (m_rf u) (m_rl u) (m_rw u) (m_rc u) (m_cul u) (m_gu u) (m_te u) 0 (m_wet u)) H → va_D (va_A (wM q u) s.heap.size) (wMx q (m_liq u) (m_lev u) (m_nS u) (m_fa u) (m_fb u) (m_seat u) (m_op u) (m_un u) (m_nV u) (m_may u) (m_nR u) (m_rf u) (m_rl u) (m_rw u) (m_rc u) (m_cul u) (m_gu u) (m_te u) 0 (m_wet u)) → va_S (va_A (wM q u) s.heap.size) s.heap H locs → lv_has ls 5 [(0, .ref (ma_o q)), (1, .int (nI i)), (3, .int (nI t)), (4, .int (nI v))] → W p l e (headSpec w_M_row ({ frames := 2, cells := 0, slots := 0, locals := 45 })).room s m [Value.ref (ma_o q), Value.int (nI i), Value.int (nI ym)].toArray below meth c H locs 0 0 (MQ below (va_Qi (fun (r : Int32) (z : MSt) => r = M_row u (nI i) (nI ym) ∧ z = m_s_th u 0) (qB (dC, dI) vwCl (tM q) (wM q u) s.heap.size (wM q)) (va_A (wM q u) s.heap.size)) [Value.ref (ma_o q), Value.int (nI i), Value.int (nI ym)].toArray s 0 0 (va_A (wM q u) s.heap.size)) (F0 m 89 ls []) := by
            intro n89
            induction n89 with
            | zero => intro v t hv89 ht89 hn89 hm; exact absurd hm (Nat.not_lt_zero _)
            | succ n89 ih89 =>
              intro v t hv89 ht89 hn89 hm89 H locs ls hP hD hS hl
              refine lv_iload hx hb d_M_row_89 (lv_at hl 3 rfl) ?_
              refine lv_aload_n hx hb d_M_row_91 rfl (lv_at hl 0 rfl) ?_
              refine va_get (D := (dC, dI)) (ci := 4) (v := .int (nI (m_nV u))) (C := "SeatProofsModel") (T := F_M) (N := 20) hx hb hts (iu_M _) hown hK hP 0 rfl rfl 8 (by decide) (hts _ (List.mem_cons_of_mem _ iw_448)) (fun _ h9 => h9) rfl d_M_row_92 ?_
              refine nv_ge (tgt := 128) hx hb d_M_row_95 (by decide) (by omega) (by omega) (fun c_5 => ?_) (fun c_5 => ?_)
              · refine lv_iconst (v := (-1)) hx hb d_M_row_128 (by decide) ?_
                exact W.iret hx hb hr (fun t9 ht9 hW9 => ⟨⟨_, (m_mk (m_liq u) (m_lev u) (m_nS u) (m_fa u) (m_fb u) (m_seat u) (m_op u) (m_un u) (m_nV u) (m_may u) (m_nR u) (m_rf u) (m_rl u) (m_rw u) (m_rc u) (m_cul u) (m_gu u) (m_te u) 0 (m_wet u)), rfl, ⟨by rw [M_row, if_neg (fun h => by rcases h with h | h <;> first | exact absurd (h.symm.trans hrx) (by decide) | exact hry h), nI_clamp (show i < 2 ^ 31 by omega), nI_clamp hym, rowN, if_neg (by omega), if_neg (by omega), if_neg (by omega), if_neg (by omega), show m_nV u = v from by omega, hn89]; rfl, rfl⟩, by rw [ht9]; exact hP, va_K.moved hW9.alike hK, hD⟩, hS.F ht9⟩) hS.2.2 d_M_row_129
              · refine lv_aload_n hx hb d_M_row_98 rfl (lv_at hl 0 rfl) ?_
                refine va_get (D := (dC, dI)) (ci := 4) (v := .ref (ma_rc q)) (C := "SeatProofsModel") (T := F_M) (N := 20) hx hb hts (iu_M _) hown hK hP 0 rfl rfl 14 (by decide) (hts _ (List.mem_cons_of_mem _ iw_454)) (fun _ h9 => h9) rfl d_M_row_99 ?_
                refine lv_iload_n hx hb d_M_row_102 rfl (lv_at hl 1 rfl) ?_
                refine ld_l hx hb hK hP 12 1 rfl rfl (m_rc u i) (by omega) (by decide) rfl d_M_row_103 ?_
                refine lv_iload hx hb d_M_row_104 (lv_at hl 3 rfl) ?_
                refine vp_callSi (va_Run.run (va_runS (As := [.long (m_rc u i), .int (nI v)]) (rest := []) ⟨hx, hb, hml, hown, hts⟩ (c_M_has l (m_rc u i) v (by omega)) (va_cwS 2 hts (good_up (good_S iw_542 iw_543 iw_5 gg_M_has)) rfl rfl rfl (by decide +kernel) ⟨Nat.le_of_ble_eq_true rfl, Nat.le_of_ble_eq_true rfl⟩) (ps_0 [.long (m_rc u i), .int (nI v)] hN) rfl rfl hl.1 rfl (lv_room (Nat.le_of_ble_eq_true rfl)) d_M_row_106 ⟨Nat.le_of_ble_eq_true rfl, Nat.le_of_ble_eq_true rfl⟩)) (fun r_6 hr_6 => ?_)
                subst hr_6
                refine b0_eq (tgt := 122) hx hb d_M_row_109 (by decide) (fun c_7 => ?_) (fun c_7 => ?_)
                · refine lv_iinc (v := nI (v + 1)) (lv' := [(4, .int (nI (v + 1))), (0, .ref (ma_o q)), (1, .int (nI i)), (3, .int (nI t))]) hx hb d_M_row_122 hl (k := 3) rfl (nI_1 _) (by decide) rfl (fun ls hl => ?_)
                  refine lv_goto (tgt := 89) hx hb d_M_row_125 (by decide) ?_
                  exact ih89 (v + 1) t (by omega) (by rw [pcn, c_7]; simp; omega) (nthB_n hn89 (fun h _ => absurd (h.symm.trans c_7) (by decide))) (by omega) _ _ ls hP hD hS (lv_sub hl [1, 2, 3, 0] rfl)
                · refine lv_iload_n hx hb d_M_row_112 rfl (lv_at hl 2 rfl) ?_
                  refine n0_ne (tgt := 119) hx hb d_M_row_113 (by decide) (by omega) (fun c_8 => ?_) (fun c_8 => ?_)
                  · refine lv_iinc (v := nI (t - 1)) (lv' := [(3, .int (nI (t - 1))), (0, .ref (ma_o q)), (1, .int (nI i)), (4, .int (nI v))]) hx hb d_M_row_119 hl (k := 2) rfl (sb_m1 (by omega)) (by decide) rfl (fun ls hl => ?_)
                    refine lv_iinc (v := nI (v + 1)) (lv' := [(4, .int (nI (v + 1))), (3, .int (nI (t - 1))), (0, .ref (ma_o q)), (1, .int (nI i))]) hx hb d_M_row_122 hl (k := 3) rfl (nI_1 _) (by decide) rfl (fun ls hl => ?_)
                    refine lv_goto (tgt := 89) hx hb d_M_row_125 (by decide) ?_
                    exact ih89 (v + 1) (t - 1) (by omega) (by rw [pcn, c_7]; simp; omega) (nthB_n hn89 (fun _ h => by omega)) (by omega) _ _ ls hP hD hS (lv_sub hl [2, 3, 1, 0] rfl)
                  · refine lv_iload hx hb d_M_row_116 (lv_at hl 3 rfl) ?_
                    exact W.iret hx hb hr (fun t9 ht9 hW9 => ⟨⟨_, (m_mk (m_liq u) (m_lev u) (m_nS u) (m_fa u) (m_fb u) (m_seat u) (m_op u) (m_un u) (m_nV u) (m_may u) (m_nR u) (m_rf u) (m_rl u) (m_rw u) (m_rc u) (m_cul u) (m_gu u) (m_te u) 0 (m_wet u)), rfl, ⟨by rw [M_row, if_neg (fun h => by rcases h with h | h <;> first | exact absurd (h.symm.trans hrx) (by decide) | exact hry h), nI_clamp (show i < 2 ^ 31 by omega), nI_clamp hym, rowN, if_neg (by omega), if_neg (by omega), if_neg (by omega), if_neg (by omega), nthB_at hn89 (show v + 1 ≤ m_nV u by omega) c_7 (by omega)]; rfl, rfl⟩, by rw [ht9]; exact hP, va_K.moved hW9.alike hK, hD⟩, hS.F ht9⟩) hS.2.2 d_M_row_118
          exact L89 _ 0 (ym - 4) (Nat.zero_le _) (by simp [pcn]) rfl (Nat.lt_succ_self _) _ _ ls hP hD hS (lv_sub hl [2, 3, 1, 0] rfl)
        · refine lv_iload_n hx hb d_M_row_28 rfl (lv_at hl 2 rfl) ?_
          refine n0_ne (tgt := 41) hx hb d_M_row_29 (by decide) (by omega) (fun c_9 => ?_) (fun c_9 => ?_)
          · refine lv_iload_n hx hb d_M_row_41 rfl (lv_at hl 2 rfl) ?_
            refine lv_iconst (v := nI 1) hx hb d_M_row_42 (by decide) ?_
            refine nv_ne (tgt := 55) hx hb d_M_row_43 (by decide) (by omega) (by omega) (fun c_10 => ?_) (fun c_10 => ?_)
            · refine lv_iload_n hx hb d_M_row_55 rfl (lv_at hl 2 rfl) ?_
              refine lv_iconst (v := nI 2) hx hb d_M_row_56 (by decide) ?_
              refine nv_ne (tgt := 72) hx hb d_M_row_57 (by decide) (by omega) (by omega) (fun c_11 => ?_) (fun c_11 => ?_)
              · refine lv_aload_n hx hb d_M_row_72 rfl (lv_at hl 0 rfl) ?_
                refine va_get (D := (dC, dI)) (ci := 4) (v := .ref (ma_rc q)) (C := "SeatProofsModel") (T := F_M) (N := 20) hx hb hts (iu_M _) hown hK hP 0 rfl rfl 14 (by decide) (hts _ (List.mem_cons_of_mem _ iw_454)) (fun _ h9 => h9) rfl d_M_row_73 ?_
                refine lv_iload_n hx hb d_M_row_76 rfl (lv_at hl 1 rfl) ?_
                refine ld_l hx hb hK hP 12 1 rfl rfl (m_rc u i) (by omega) (by decide) rfl d_M_row_77 ?_
                refine vp_callSi (va_Run.run (va_runS (As := [.long (m_rc u i)]) (rest := []) ⟨hx, hb, hml, hown, hts⟩ (c_M_size l (m_rc u i)) (va_cwS 1 hts (good_up (good_S iw_561 iw_562 iw_5 gg_M_size)) rfl rfl rfl (by decide +kernel) ⟨Nat.le_of_ble_eq_true rfl, Nat.le_of_ble_eq_true rfl⟩) (ps_0 [.long (m_rc u i)] hN) rfl rfl hl.1 rfl (lv_room (Nat.le_of_ble_eq_true rfl)) d_M_row_78 ⟨Nat.le_of_ble_eq_true rfl, Nat.le_of_ble_eq_true rfl⟩)) (fun r_12 hr_12 => ?_)
                subst hr_12
                exact W.iret hx hb hr (fun t9 ht9 hW9 => ⟨⟨_, (m_mk (m_liq u) (m_lev u) (m_nS u) (m_fa u) (m_fb u) (m_seat u) (m_op u) (m_un u) (m_nV u) (m_may u) (m_nR u) (m_rf u) (m_rl u) (m_rw u) (m_rc u) (m_cul u) (m_gu u) (m_te u) 0 (m_wet u)), rfl, ⟨by rw [M_row, if_neg (fun h => by rcases h with h | h <;> first | exact absurd (h.symm.trans hrx) (by decide) | exact hry h), nI_clamp (show i < 2 ^ 31 by omega), nI_clamp hym, rowN, if_neg (by omega), if_neg (by omega), if_neg (by omega), if_pos (by omega)], rfl⟩, by rw [ht9]; exact hP, va_K.moved hW9.alike hK, hD⟩, hS.F ht9⟩) hS.2.2 d_M_row_81
              · refine lv_aload_n hx hb d_M_row_60 rfl (lv_at hl 0 rfl) ?_
                refine va_get (D := (dC, dI)) (ci := 4) (v := .ref (ma_rw q)) (C := "SeatProofsModel") (T := F_M) (N := 20) hx hb hts (iu_M _) hown hK hP 0 rfl rfl 13 (by decide) (hts _ (List.mem_cons_of_mem _ iw_453)) (fun _ h9 => h9) rfl d_M_row_61 ?_
                refine lv_iload_n hx hb d_M_row_64 rfl (lv_at hl 1 rfl) ?_
                refine ld_l hx hb hK hP 11 1 rfl rfl (m_rw u i) (by omega) (by decide) rfl d_M_row_65 ?_
                refine vp_callSi (va_Run.run (va_runS (As := [.long (m_rw u i)]) (rest := []) ⟨hx, hb, hml, hown, hts⟩ (c_M_size l (m_rw u i)) (va_cwS 1 hts (good_up (good_S iw_561 iw_562 iw_5 gg_M_size)) rfl rfl rfl (by decide +kernel) ⟨Nat.le_of_ble_eq_true rfl, Nat.le_of_ble_eq_true rfl⟩) (ps_0 [.long (m_rw u i)] hN) rfl rfl hl.1 rfl (lv_room (Nat.le_of_ble_eq_true rfl)) d_M_row_66 ⟨Nat.le_of_ble_eq_true rfl, Nat.le_of_ble_eq_true rfl⟩)) (fun r_13 hr_13 => ?_)
                subst hr_13
                refine lv_goto (tgt := 81) hx hb d_M_row_69 (by decide) ?_
                exact W.iret hx hb hr (fun t9 ht9 hW9 => ⟨⟨_, (m_mk (m_liq u) (m_lev u) (m_nS u) (m_fa u) (m_fb u) (m_seat u) (m_op u) (m_un u) (m_nV u) (m_may u) (m_nR u) (m_rf u) (m_rl u) (m_rw u) (m_rc u) (m_cul u) (m_gu u) (m_te u) 0 (m_wet u)), rfl, ⟨by rw [M_row, if_neg (fun h => by rcases h with h | h <;> first | exact absurd (h.symm.trans hrx) (by decide) | exact hry h), nI_clamp (show i < 2 ^ 31 by omega), nI_clamp hym, rowN, if_neg (by omega), if_neg (by omega), if_pos c_11], rfl⟩, by rw [ht9]; exact hP, va_K.moved hW9.alike hK, hD⟩, hS.F ht9⟩) hS.2.2 d_M_row_81
            · refine lv_aload_n hx hb d_M_row_46 rfl (lv_at hl 0 rfl) ?_
              refine va_get (D := (dC, dI)) (ci := 4) (v := .ref (ma_rl q)) (C := "SeatProofsModel") (T := F_M) (N := 20) hx hb hts (iu_M _) hown hK hP 0 rfl rfl 12 (by decide) (hts _ (List.mem_cons_of_mem _ iw_452)) (fun _ h9 => h9) rfl d_M_row_47 ?_
              refine lv_iload_n hx hb d_M_row_50 rfl (lv_at hl 1 rfl) ?_
              refine ld_i hx hb hK hP 10 0 rfl rfl (nI (m_rl u i)) (by omega) (by decide) rfl d_M_row_51 ?_
              refine lv_goto (tgt := 81) hx hb d_M_row_52 (by decide) ?_
              exact W.iret hx hb hr (fun t9 ht9 hW9 => ⟨⟨_, (m_mk (m_liq u) (m_lev u) (m_nS u) (m_fa u) (m_fb u) (m_seat u) (m_op u) (m_un u) (m_nV u) (m_may u) (m_nR u) (m_rf u) (m_rl u) (m_rw u) (m_rc u) (m_cul u) (m_gu u) (m_te u) 0 (m_wet u)), rfl, ⟨by rw [M_row, if_neg (fun h => by rcases h with h | h <;> first | exact absurd (h.symm.trans hrx) (by decide) | exact hry h), nI_clamp (show i < 2 ^ 31 by omega), nI_clamp hym, rowN, if_neg (by omega), if_pos c_10], rfl⟩, by rw [ht9]; exact hP, va_K.moved hW9.alike hK, hD⟩, hS.F ht9⟩) hS.2.2 d_M_row_81
          · refine lv_aload_n hx hb d_M_row_32 rfl (lv_at hl 0 rfl) ?_
            refine va_get (D := (dC, dI)) (ci := 4) (v := .ref (ma_rf q)) (C := "SeatProofsModel") (T := F_M) (N := 20) hx hb hts (iu_M _) hown hK hP 0 rfl rfl 11 (by decide) (hts _ (List.mem_cons_of_mem _ iw_451)) (fun _ h9 => h9) rfl d_M_row_33 ?_
            refine lv_iload_n hx hb d_M_row_36 rfl (lv_at hl 1 rfl) ?_
            refine ld_i hx hb hK hP 9 0 rfl rfl (nI (m_rf u i)) (by omega) (by decide) rfl d_M_row_37 ?_
            refine lv_goto (tgt := 81) hx hb d_M_row_38 (by decide) ?_
            exact W.iret hx hb hr (fun t9 ht9 hW9 => ⟨⟨_, (m_mk (m_liq u) (m_lev u) (m_nS u) (m_fa u) (m_fb u) (m_seat u) (m_op u) (m_un u) (m_nV u) (m_may u) (m_nR u) (m_rf u) (m_rl u) (m_rw u) (m_rc u) (m_cul u) (m_gu u) (m_te u) 0 (m_wet u)), rfl, ⟨by rw [M_row, if_neg (fun h => by rcases h with h | h <;> first | exact absurd (h.symm.trans hrx) (by decide) | exact hry h), nI_clamp (show i < 2 ^ 31 by omega), nI_clamp hym, rowN, if_pos c_9], rfl⟩, by rw [ht9]; exact hP, va_K.moved hW9.alike hK, hD⟩, hS.F ht9⟩) hS.2.2 d_M_row_81
      · refine lv_iconst (v := (-1)) hx hb d_M_row_21 (by decide) ?_
        exact W.iret hx hb hr (fun t9 ht9 hW9 => ⟨⟨_, (m_mk (m_liq u) (m_lev u) (m_nS u) (m_fa u) (m_fb u) (m_seat u) (m_op u) (m_un u) (m_nV u) (m_may u) (m_nR u) (m_rf u) (m_rl u) (m_rw u) (m_rc u) (m_cul u) (m_gu u) (m_te u) 0 (m_wet u)), rfl, ⟨by rw [M_row, if_pos (Or.inr (Int32.not_le.mp c_3))], rfl⟩, by rw [ht9]; exact hP, va_K.moved hW9.alike hK, hD⟩, hS.F ht9⟩) hS.2.2 d_M_row_22
