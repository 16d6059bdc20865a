set_option maxHeartbeats 4000000 in
set_option maxRecDepth 100000 in
theorem c_M_set (l : Launch) (dC : Nat → ClassId) (dI : Nat → Nat → Nat) (q : MA) (u : MSt) (sz : Nat) (x : Int32) (o : Bool) (hu : MOk u) : Met l y_M_set w_M_set ({ frames := 2, cells := 0, slots := 0, locals := 53 }) (qPc (dC, dI) vwCl (tM q) (wM q u) sz [Value.ref (ma_o q), Value.int x, Value.int (bI o)]) (va_Qi (fun (r : Int32) (z : MSt) => (ixB x (m_nV u) = false ∧ r = bI false ∧ z = m_s_th u 1) ∨ (∃ i9, i9 < m_nV u ∧ x = nI i9 ∧ ∃ (g3 g4 : Nat → Int64) (w : Nat → Bool) (b : Bool), (∀ j, g3 j = if j < m_nR u ∧ mt u i9 j = true then sF u (m_s_op u (va_up (m_op u) i9 o)) j else m_rw u j) ∧ (∀ j, g4 j = if j < m_nR u ∧ mt u i9 j = true then sC u (m_s_op u (va_up (m_op u) i9 o)) j else m_rc u j) ∧ (b = true ↔ (0 < m_nR u ∧ ∀ p9 q9, p9 < q9 → q9 < m_nR u → ¬ mK u g3 p9 q9)) ∧ r = bI b ∧ z = m_s_wet (m_s_th (m_s_te (m_s_rc (m_s_rw (m_s_nR (m_s_op u (va_up (m_op u) i9 o)) (if b = true then m_nR u else 0)) g3) g4) (pcn (mt u i9) (m_nR u))) 0) w)) (qB (dC, dI) vwCl (tM q) (wM q u) sz (wM q)) (va_A (wM q u) sz)) 0 0 (va_A (wM q u) sz) := by
  refine Met.ofW (cc := b_M_set) (maxL := 6) (ret := (some .boolean)) (by decide) rfl ?_
  intro p e s m args below meth c s₁ B hml hv
  obtain ⟨rfl, hsz, hP, hK, hD0, hN⟩ := hv
  have hx := B.exec
  have hb := B.bytes
  have hr := B.returns
  have hts := atoms_spec (ws := w_M_set) B.pre
  have hown : s.vm.findClass "SeatProofsModel" = some m.cls := findClass_of_methodNamed B.named
  have hlocks := B.notSynchronized
  subst hsz
  have hD := hD0.self (sz := s.heap.size)
  have hA : ∀ z : Nat, s.heap.size ≤ z → va_A (wM q u) s.heap.size z := fun z h => Or.inr h
  have hS : va_S (va_A (wM q u) s.heap.size) s.heap s.heap [] := va_S.rf
  have hl := lv_entry ([Value.ref (ma_o q), Value.int x, Value.int (bI o)]) (n := 6) (Nat.le_of_ble_eq_true rfl)
  rw [lg_entry_eq]
  generalize (lg_sl ([Value.ref (ma_o q), Value.int x, Value.int (bI o)]) ++ List.replicate (6 - (lg_sl ([Value.ref (ma_o q), Value.int x, Value.int (bI o)])).length) Slot.unset).toArray = ls at hl ⊢
  have hl : lv_has ls 6 [(0, .ref (ma_o q)), (1, .int x), (2, .int (bI o))] := hl
  obtain ⟨k1, k2, k3, k4, k5, k6, k7, k8, k9, k10, k11⟩ := id hu
  refine lv_aload_n hx hb d_M_set_0 rfl (lv_at hl 0 rfl) ?_
  refine lv_iload_n hx hb d_M_set_1 rfl (lv_at hl 1 rfl) ?_
  refine lv_if_lt (tgt := 13) hx hb d_M_set_2 (by decide) (fun c_1 => ?_) (fun c_1 => ?_)
  · refine lv_iconst (v := nI 1) hx hb d_M_set_13 (by decide) ?_
    refine lv_goto (tgt := 18) hx hb d_M_set_14 (by decide) ?_
    refine va_put (D := (dC, dI)) (ci := 4) (v := .int (nI 1)) (ty := .int) (C := "SeatProofsModel") (T := F_M) (N := 20) hx hb hts (iu_M _) t_M t_M_ok n_M hown hK hP hD hS 0 rfl rfl 18 (by decide) (hts _ (List.mem_cons_of_mem _ iw_458)) (fun _ h9 => h9) rfl (by decide +kernel) rfl rfl (Nat.le_of_ble_eq_true rfl) d_M_set_18 (fun H locs hP hD hS => ?_)
    have hP : va_P (dC, dI) vwCl (wMx q (m_liq u) (m_lev u) (m_nS u) (m_fa u) (m_fb u) (m_seat u) (m_op u) (m_un u) (m_nV u) (m_may u) (m_nR u) (m_rf u) (m_rl u) (m_rw u) (m_rc u) (m_cul u) (m_gu u) (m_te u) 1 (m_wet u)) H := hP
    have hD : va_D (va_A (wM q u) s.heap.size) (wMx q (m_liq u) (m_lev u) (m_nS u) (m_fa u) (m_fb u) (m_seat u) (m_op u) (m_un u) (m_nV u) (m_may u) (m_nR u) (m_rf u) (m_rl u) (m_rw u) (m_rc u) (m_cul u) (m_gu u) (m_te u) 1 (m_wet u)) := hD
    refine lv_aload_n hx hb d_M_set_21 rfl (lv_at hl 0 rfl) ?_
    refine va_get (D := (dC, dI)) (ci := 4) (v := .int (nI 1)) (C := "SeatProofsModel") (T := F_M) (N := 20) hx hb hts (iu_M _) hown hK hP 0 rfl rfl 18 (by decide) (hts _ (List.mem_cons_of_mem _ iw_458)) (fun _ h9 => h9) rfl d_M_set_22 ?_
    refine n0_le (tgt := 30) hx hb d_M_set_25 (by decide) (by omega) (fun c_2 => ?_) (fun c_2 => ?_)
    · exact absurd c_2 (by decide)
    · refine lv_iconst (v := nI 0) hx hb d_M_set_28 (by decide) ?_
      refine tp_i (bI false) (by decide) ?_
      exact W.zret hx hb hr (bI_narrow _) (fun t9 ht9 hW9 => ⟨⟨_, (m_mk (m_liq u) (m_lev u) (m_nS u) (m_fa u) (m_fb u) (m_seat u) (m_op u) (m_un u) (m_nV u) (m_may u) (m_nR u) (m_rf u) (m_rl u) (m_rw u) (m_rc u) (m_cul u) (m_gu u) (m_te u) 1 (m_wet u)), rfl, Or.inl ⟨ixB_lo c_1, rfl, rfl⟩, by rw [ht9]; exact hP, va_K.moved hW9.alike hK, hD⟩, hS.F ht9⟩) hS.2.2 d_M_set_29
  · refine lv_iload_n hx hb d_M_set_5 rfl (lv_at hl 1 rfl) ?_
    refine lv_aload_n hx hb d_M_set_6 rfl (lv_at hl 0 rfl) ?_
    refine va_get (D := (dC, dI)) (ci := 4) (v := .int (nI (m_nV u))) (C := "SeatProofsModel") (T := F_M) (N := 20) hx hb hts (iu_M _) hown hK hP 0 rfl rfl 8 (by decide) (hts _ (List.mem_cons_of_mem _ iw_448)) (fun _ h9 => h9) rfl d_M_set_7 ?_
    refine lv_icmp_lt (tgt := 17) hx hb d_M_set_10 (by decide) (fun c_3 => ?_) (fun c_3 => ?_)
    · have hsx : ixB x (m_nV u) = true := decide_eq_true ⟨c_1, Int32.not_le.mpr c_3⟩
      obtain ⟨i, hi, rfl⟩ := ixB_of (by show m_nV u < 2 ^ 31; omega) hsx
      have hi : i < m_nV u := hi
      refine lv_iconst (v := nI 0) hx hb d_M_set_17 (by decide) ?_
      refine va_put (D := (dC, dI)) (ci := 4) (v := .int (nI 0)) (ty := .int) (C := "SeatProofsModel") (T := F_M) (N := 20) hx hb hts (iu_M _) t_M t_M_ok n_M hown hK hP hD hS 0 rfl rfl 18 (by decide) (hts _ (List.mem_cons_of_mem _ iw_458)) (fun _ h9 => h9) rfl (by decide +kernel) rfl rfl (Nat.le_of_ble_eq_true rfl) d_M_set_18 (fun H locs hP hD hS => ?_)
      have hP : va_P (dC, dI) vwCl (wMx q (m_liq u) (m_lev u) (m_nS u) (m_fa u) (m_fb u) (m_seat u) (m_op u) (m_un u) (m_nV u) (m_may u) (m_nR u) (m_rf u) (m_rl u) (m_rw u) (m_rc u) (m_cul u) (m_gu u) (m_te u) 0 (m_wet u)) H := hP
      have hD : va_D (va_A (wM q u) s.heap.size) (wMx q (m_liq u) (m_lev u) (m_nS u) (m_fa u) (m_fb u) (m_seat u) (m_op u) (m_un u) (m_nV u) (m_may u) (m_nR u) (m_rf u) (m_rl u) (m_rw u) (m_rc u) (m_cul u) (m_gu u) (m_te u) 0 (m_wet u)) := hD
      refine lv_aload_n hx hb d_M_set_21 rfl (lv_at hl 0 rfl) ?_
      refine va_get (D := (dC, dI)) (ci := 4) (v := .int (nI 0)) (C := "SeatProofsModel") (T := F_M) (N := 20) hx hb hts (iu_M _) hown hK hP 0 rfl rfl 18 (by decide) (hts _ (List.mem_cons_of_mem _ iw_458)) (fun _ h9 => h9) rfl d_M_set_22 ?_
      refine n0_le (tgt := 30) hx hb d_M_set_25 (by decide) (by omega) (fun c_4 => ?_) (fun c_4 => ?_)
      · refine lv_aload_n hx hb d_M_set_30 rfl (lv_at hl 0 rfl) ?_
        refine lv_iconst (v := nI 0) hx hb d_M_set_31 (by decide) ?_
        refine va_put (D := (dC, dI)) (ci := 4) (v := .int (nI 0)) (ty := .int) (C := "SeatProofsModel") (T := F_M) (N := 20) hx hb hts (iu_M _) t_M t_M_ok n_M hown hK hP hD hS 0 rfl rfl 17 (by decide) (hts _ (List.mem_cons_of_mem _ iw_457)) (fun _ h9 => h9) rfl (by decide +kernel) rfl rfl (Nat.le_of_ble_eq_true rfl) d_M_set_32 (fun H locs hP hD hS => ?_)
        have hP : va_P (dC, dI) vwCl (wMx q (m_liq u) (m_lev u) (m_nS u) (m_fa u) (m_fb u) (m_seat u) (m_op u) (m_un u) (m_nV u) (m_may u) (m_nR u) (m_rf u) (m_rl u) (m_rw u) (m_rc u) (m_cul u) (m_gu u) 0 0 (m_wet u)) H := hP
        have hD : va_D (va_A (wM q u) s.heap.size) (wMx q (m_liq u) (m_lev u) (m_nS u) (m_fa u) (m_fb u) (m_seat u) (m_op u) (m_un u) (m_nV u) (m_may u) (m_nR u) (m_rf u) (m_rl u) (m_rw u) (m_rc u) (m_cul u) (m_gu u) 0 0 (m_wet u)) := hD
        refine lv_aload_n hx hb d_M_set_35 rfl (lv_at hl 0 rfl) ?_
        refine va_get (D := (dC, dI)) (ci := 4) (v := .ref (ma_op q)) (C := "SeatProofsModel") (T := F_M) (N := 20) hx hb hts (iu_M _) hown hK hP 0 rfl rfl 6 (by decide) (hts _ (List.mem_cons_of_mem _ iw_446)) (fun _ h9 => h9) rfl d_M_set_36 ?_
        refine lv_iload_n hx hb d_M_set_39 rfl (lv_at hl 1 rfl) ?_
        refine lv_iload_n hx hb d_M_set_40 rfl (lv_at hl 2 rfl) ?_
        refine st_z hx hb hK hP hD hS 6 2 rfl rfl (fun j9 => bI (va_up (m_op u) i o j9)) (by omega) (by decide) (upd_bI _ _ _) d_M_set_41 (fun H locs hP hD hS => ?_)
        have hP : va_P (dC, dI) vwCl (wMx q (m_liq u) (m_lev u) (m_nS u) (m_fa u) (m_fb u) (m_seat u) (va_up (m_op u) i o) (m_un u) (m_nV u) (m_may u) (m_nR u) (m_rf u) (m_rl u) (m_rw u) (m_rc u) (m_cul u) (m_gu u) 0 0 (m_wet u)) H := hP
        have hD : va_D (va_A (wM q u) s.heap.size) (wMx q (m_liq u) (m_lev u) (m_nS u) (m_fa u) (m_fb u) (m_seat u) (va_up (m_op u) i o) (m_un u) (m_nV u) (m_may u) (m_nR u) (m_rf u) (m_rl u) (m_rw u) (m_rc u) (m_cul u) (m_gu u) 0 0 (m_wet u)) := hD
        refine lv_iconst (v := nI 0) hx hb d_M_set_42 (by decide) ?_
        refine lv_istore_n (lv' := [(3, .int (nI 0)), (0, .ref (ma_o q)), (1, .int (nI i)), (2, .int (bI o))]) hx hb d_M_set_43 rfl hl (by decide) rfl (fun ls hl => ?_)
        have L44 : ∀ (n44 : Nat) (k : Nat) (g3 : Nat → Int64) (g4 : Nat → Int64) (t : Nat) (w : Nat → Bool), (k ≤ m_nR u) → (∀ j, g3 j = if j < k ∧ mt u i j = true then sF u (m_s_op u (va_up (m_op u) i o)) j else m_rw u j) → (∀ j, g4 j = if j < k ∧ mt u i j = true then sC u (m_s_op u (va_up (m_op u) i o)) j else m_rc u j) → (t = pcn (mt u i) k) → m_nR u - k < n44 → ∀ (H : Heap) (locs : List Loc) (ls : Array Slot), va_P (dC, dI) vwCl (wMx q (m_liq u) (m_lev u) (m_nS u) (m_fa u) (m_fb u) (m_seat u) (va_up (m_op u) i o) (m_un u) (m_nV u) (m_may u) (m_nR u) (m_rf u) (m_rl u) g3 g4 (m_cul u) (m_gu u) t 0 w) H → va_D (va_A (wM q u) s.heap.size) (wMx q (m_liq u) (m_lev u) (m_nS u) (m_fa u) (m_fb u) (m_seat u) (va_up (m_op u) i o) (m_un u) (m_nV u) (m_may u) (m_nR u) (m_rf u) (m_rl u) g3 g4 (m_cul u) (m_gu u) t 0 w) → va_S (va_A (wM q u) s.heap.size) s.heap H locs → lv_has ls 6 [(0, .ref (ma_o q)), (1, .int (nI i)), (2, .int (bI o)), (3, .int (nI k))] → W p l e (headSpec w_M_set ({ frames := 2, cells := 0, slots := 0, locals := 53 })).room s m [Value.ref (ma_o q), Value.int (nI i), Value.int (bI o)].toArray below meth c H locs 0 0 (MQ below (va_Qi (fun (r : Int32) (z : MSt) => (ixB (nI i) (m_nV u) = false ∧ r = bI false ∧ z = m_s_th u 1) ∨ (∃ i9, i9 < m_nV u ∧ (nI i) = nI i9 ∧ ∃ (g3 g4 : Nat → Int64) (w : Nat → Bool) (b : Bool), (∀ j, g3 j = if j < m_nR u ∧ mt u i9 j = true then sF u (m_s_op u (va_up (m_op u) i9 o)) j else m_rw u j) ∧ (∀ j, g4 j = if j < m_nR u ∧ mt u i9 j = true then sC u (m_s_op u (va_up (m_op u) i9 o)) j else m_rc u j) ∧ (b = true ↔ (0 < m_nR u ∧ ∀ p9 q9, p9 < q9 → q9 < m_nR u → ¬ mK u g3 p9 q9)) ∧ r = bI b ∧ z = m_s_wet (m_s_th (m_s_te (m_s_rc (m_s_rw (m_s_nR (m_s_op u (va_up (m_op u) i9 o)) (if b = true then m_nR u else 0)) g3) g4) (pcn (mt u i9) (m_nR u))) 0) w)) (qB (dC, dI) vwCl (tM q) (wM q u) s.heap.size (wM q)) (va_A (wM q u) s.heap.size)) [Value.ref (ma_o q), Value.int (nI i), Value.int (bI o)].toArray s 0 0 (va_A (wM q u) s.heap.size)) (F0 m 44 ls []) := by
          intro n44
          induction n44 with
          | zero => intro k g3 g4 t w hk44 h3 h4 ht44 hm; exact absurd hm (Nat.not_lt_zero _)
          | succ n44 ih44 =>
            intro k g3 g4 t w hk44 h3 h4 ht44 hm44 H locs ls hP hD hS hl
            refine lv_iload_n hx hb d_M_set_44 rfl (lv_at hl 3 rfl) ?_
            refine lv_aload_n hx hb d_M_set_45 rfl (lv_at hl 0 rfl) ?_
            refine va_get (D := (dC, dI)) (ci := 4) (v := .int (nI (m_nR u))) (C := "SeatProofsModel") (T := F_M) (N := 20) hx hb hts (iu_M _) hown hK hP 0 rfl rfl 10 (by decide) (hts _ (List.mem_cons_of_mem _ iw_450)) (fun _ h9 => h9) rfl d_M_set_46 ?_
            refine nv_ge (tgt := 160) hx hb d_M_set_49 (by decide) (by omega) (by omega) (fun c_5 => ?_) (fun c_5 => ?_)
            · have L172 : ∀ (b172 : Bool), (b172 = decide (0 < m_nR u)) → ∀ (H : Heap) (locs : List Loc) (ls : Array Slot), va_P (dC, dI) vwCl (wMx q (m_liq u) (m_lev u) (m_nS u) (m_fa u) (m_fb u) (m_seat u) (va_up (m_op u) i o) (m_un u) (m_nV u) (m_may u) (m_nR u) (m_rf u) (m_rl u) g3 g4 (m_cul u) (m_gu u) t 0 w) H → va_D (va_A (wM q u) s.heap.size) (wMx q (m_liq u) (m_lev u) (m_nS u) (m_fa u) (m_fb u) (m_seat u) (va_up (m_op u) i o) (m_un u) (m_nV u) (m_may u) (m_nR u) (m_rf u) (m_rl u) g3 g4 (m_cul u) (m_gu u) t 0 w) → va_S (va_A (wM q u) s.heap.size) s.heap H locs → lv_has ls 6 [(0, .ref (ma_o q))] → W p l e (headSpec w_M_set ({ frames := 2, cells := 0, slots := 0, locals := 53 })).room s m [Value.ref (ma_o q), Value.int (nI i), Value.int (bI o)].toArray below meth c H locs 0 0 (MQ below (va_Qi (fun (r : Int32) (z : MSt) => (ixB (nI i) (m_nV u) = false ∧ r = bI false ∧ z = m_s_th u 1) ∨ (∃ i9, i9 < m_nV u ∧ (nI i) = nI i9 ∧ ∃ (g3 g4 : Nat → Int64) (w : Nat → Bool) (b : Bool), (∀ j, g3 j = if j < m_nR u ∧ mt u i9 j = true then sF u (m_s_op u (va_up (m_op u) i9 o)) j else m_rw u j) ∧ (∀ j, g4 j = if j < m_nR u ∧ mt u i9 j = true then sC u (m_s_op u (va_up (m_op u) i9 o)) j else m_rc u j) ∧ (b = true ↔ (0 < m_nR u ∧ ∀ p9 q9, p9 < q9 → q9 < m_nR u → ¬ mK u g3 p9 q9)) ∧ r = bI b ∧ z = m_s_wet (m_s_th (m_s_te (m_s_rc (m_s_rw (m_s_nR (m_s_op u (va_up (m_op u) i9 o)) (if b = true then m_nR u else 0)) g3) g4) (pcn (mt u i9) (m_nR u))) 0) w)) (qB (dC, dI) vwCl (tM q) (wM q u) s.heap.size (wM q)) (va_A (wM q u) s.heap.size)) [Value.ref (ma_o q), Value.int (nI i), Value.int (bI o)].toArray s 0 0 (va_A (wM q u) s.heap.size)) (F0 m 172 ls [.int (bI b172)]) := by
                intro b172 hb172 H locs ls hP hD hS hl
                refine lv_istore_n (lv' := [(3, .int (bI b172)), (0, .ref (ma_o q))]) hx hb d_M_set_172 rfl hl (by decide) rfl (fun ls hl => ?_)
                refine lv_iconst (v := nI 0) hx hb d_M_set_173 (by decide) ?_
                refine lv_istore (lv' := [(4, .int (nI 0)), (3, .int (bI b172)), (0, .ref (ma_o q))]) hx hb d_M_set_174 hl (by decide) rfl (fun ls hl => ?_)
                have L176 : ∀ (n176 : Nat) (j : Nat) (b176 : Bool), (j ≤ m_nR u) → (b176 = true ↔ (0 < m_nR u ∧ ∀ x y, x < j → x < y → y < m_nR u → ¬ mK u g3 x y)) → m_nR u - j < n176 → ∀ (H : Heap) (locs : List Loc) (ls : Array Slot), va_P (dC, dI) vwCl (wMx q (m_liq u) (m_lev u) (m_nS u) (m_fa u) (m_fb u) (m_seat u) (va_up (m_op u) i o) (m_un u) (m_nV u) (m_may u) (m_nR u) (m_rf u) (m_rl u) g3 g4 (m_cul u) (m_gu u) t 0 w) H → va_D (va_A (wM q u) s.heap.size) (wMx q (m_liq u) (m_lev u) (m_nS u) (m_fa u) (m_fb u) (m_seat u) (va_up (m_op u) i o) (m_un u) (m_nV u) (m_may u) (m_nR u) (m_rf u) (m_rl u) g3 g4 (m_cul u) (m_gu u) t 0 w) → va_S (va_A (wM q u) s.heap.size) s.heap H locs → lv_has ls 6 [(0, .ref (ma_o q)), (3, .int (bI b176)), (4, .int (nI j))] → W p l e (headSpec w_M_set ({ frames := 2, cells := 0, slots := 0, locals := 53 })).room s m [Value.ref (ma_o q), Value.int (nI i), Value.int (bI o)].toArray below meth c H locs 0 0 (MQ below (va_Qi (fun (r : Int32) (z : MSt) => (ixB (nI i) (m_nV u) = false ∧ r = bI false ∧ z = m_s_th u 1) ∨ (∃ i9, i9 < m_nV u ∧ (nI i) = nI i9 ∧ ∃ (g3 g4 : Nat → Int64) (w : Nat → Bool) (b : Bool), (∀ j, g3 j = if j < m_nR u ∧ mt u i9 j = true then sF u (m_s_op u (va_up (m_op u) i9 o)) j else m_rw u j) ∧ (∀ j, g4 j = if j < m_nR u ∧ mt u i9 j = true then sC u (m_s_op u (va_up (m_op u) i9 o)) j else m_rc u j) ∧ (b = true ↔ (0 < m_nR u ∧ ∀ p9 q9, p9 < q9 → q9 < m_nR u → ¬ mK u g3 p9 q9)) ∧ r = bI b ∧ z = m_s_wet (m_s_th (m_s_te (m_s_rc (m_s_rw (m_s_nR (m_s_op u (va_up (m_op u) i9 o)) (if b = true then m_nR u else 0)) g3) g4) (pcn (mt u i9) (m_nR u))) 0) w)) (qB (dC, dI) vwCl (tM q) (wM q u) s.heap.size (wM q)) (va_A (wM q u) s.heap.size)) [Value.ref (ma_o q), Value.int (nI i), Value.int (bI o)].toArray s 0 0 (va_A (wM q u) s.heap.size)) (F0 m 176 ls []) := by
                  intro n176
                  induction n176 with
                  | zero => intro j b176 hj176 hb176 hm; exact absurd hm (Nat.not_lt_zero _)
                  | succ n176 ih176 =>
                    intro j b176 hj176 hb176 hm176 H locs ls hP hD hS hl
                    refine lv_iload hx hb d_M_set_176 (lv_at hl 2 rfl) ?_
                    refine lv_aload_n hx hb d_M_set_178 rfl (lv_at hl 0 rfl) ?_
                    refine va_get (D := (dC, dI)) (ci := 4) (v := .int (nI (m_nR u))) (C := "SeatProofsModel") (T := F_M) (N := 20) hx hb hts (iu_M _) hown hK hP 0 rfl rfl 10 (by decide) (hts _ (List.mem_cons_of_mem _ iw_450)) (fun _ h9 => h9) rfl d_M_set_179 ?_
                    refine nv_ge (tgt := 289) hx hb d_M_set_182 (by decide) (by omega) (by omega) (fun c_6 => ?_) (fun c_6 => ?_)
                    · refine lv_aload_n hx hb d_M_set_289 rfl (lv_at hl 0 rfl) ?_
                      refine lv_iload_n hx hb d_M_set_290 rfl (lv_at hl 1 rfl) ?_
                      refine b0_eq (tgt := 301) hx hb d_M_set_291 (by decide) (fun c_7 => ?_) (fun c_7 => ?_)
                      · refine lv_iconst (v := nI 0) hx hb d_M_set_301 (by decide) ?_
                        refine va_put (D := (dC, dI)) (ci := 4) (v := .int (nI 0)) (ty := .int) (C := "SeatProofsModel") (T := F_M) (N := 20) hx hb hts (iu_M _) t_M t_M_ok n_M hown hK hP hD hS 0 rfl rfl 10 (by decide) (hts _ (List.mem_cons_of_mem _ iw_450)) (fun _ h9 => h9) rfl (by decide +kernel) rfl rfl (Nat.le_of_ble_eq_true rfl) d_M_set_302 (fun H locs hP hD hS => ?_)
                        have hP : va_P (dC, dI) vwCl (wMx q (m_liq u) (m_lev u) (m_nS u) (m_fa u) (m_fb u) (m_seat u) (va_up (m_op u) i o) (m_un u) (m_nV u) (m_may u) 0 (m_rf u) (m_rl u) g3 g4 (m_cul u) (m_gu u) t 0 w) H := hP
                        have hD : va_D (va_A (wM q u) s.heap.size) (wMx q (m_liq u) (m_lev u) (m_nS u) (m_fa u) (m_fb u) (m_seat u) (va_up (m_op u) i o) (m_un u) (m_nV u) (m_may u) 0 (m_rf u) (m_rl u) g3 g4 (m_cul u) (m_gu u) t 0 w) := hD
                        refine lv_iload_n hx hb d_M_set_305 rfl (lv_at hl 1 rfl) ?_
                        exact W.zret hx hb hr (bI_narrow _) (fun t9 ht9 hW9 => ⟨⟨_, (m_mk (m_liq u) (m_lev u) (m_nS u) (m_fa u) (m_fb u) (m_seat u) (va_up (m_op u) i o) (m_un u) (m_nV u) (m_may u) 0 (m_rf u) (m_rl u) g3 g4 (m_cul u) (m_gu u) t 0 w), rfl, Or.inr ⟨i, hi, rfl, g3, g4, w, b176, fun j => by rw [h3 j, show k = m_nR u from by omega], fun j => by rw [h4 j, show k = m_nR u from by omega], kk_e hb176 (Or.inl c_6), rfl, by rw [ht44, show k = m_nR u from by omega, if_neg (fun h => absurd (h.symm.trans c_7) (by decide))]⟩, by rw [ht9]; exact hP, va_K.moved hW9.alike hK, hD⟩, hS.F ht9⟩) hS.2.2 d_M_set_306
                      · refine lv_aload_n hx hb d_M_set_294 rfl (lv_at hl 0 rfl) ?_
                        refine va_get (D := (dC, dI)) (ci := 4) (v := .int (nI (m_nR u))) (C := "SeatProofsModel") (T := F_M) (N := 20) hx hb hts (iu_M _) hown hK hP 0 rfl rfl 10 (by decide) (hts _ (List.mem_cons_of_mem _ iw_450)) (fun _ h9 => h9) rfl d_M_set_295 ?_
                        refine lv_goto (tgt := 302) hx hb d_M_set_298 (by decide) ?_
                        refine va_put (D := (dC, dI)) (ci := 4) (v := .int (nI (m_nR u))) (ty := .int) (C := "SeatProofsModel") (T := F_M) (N := 20) hx hb hts (iu_M _) t_M t_M_ok n_M hown hK hP hD hS 0 rfl rfl 10 (by decide) (hts _ (List.mem_cons_of_mem _ iw_450)) (fun _ h9 => h9) rfl (by decide +kernel) rfl rfl (Nat.le_of_ble_eq_true rfl) d_M_set_302 (fun H locs hP hD hS => ?_)
                        have hP : va_P (dC, dI) vwCl (wMx q (m_liq u) (m_lev u) (m_nS u) (m_fa u) (m_fb u) (m_seat u) (va_up (m_op u) i o) (m_un u) (m_nV u) (m_may u) (m_nR u) (m_rf u) (m_rl u) g3 g4 (m_cul u) (m_gu u) t 0 w) H := hP
                        have hD : va_D (va_A (wM q u) s.heap.size) (wMx q (m_liq u) (m_lev u) (m_nS u) (m_fa u) (m_fb u) (m_seat u) (va_up (m_op u) i o) (m_un u) (m_nV u) (m_may u) (m_nR u) (m_rf u) (m_rl u) g3 g4 (m_cul u) (m_gu u) t 0 w) := hD
                        refine lv_iload_n hx hb d_M_set_305 rfl (lv_at hl 1 rfl) ?_
                        exact W.zret hx hb hr (bI_narrow _) (fun t9 ht9 hW9 => ⟨⟨_, (m_mk (m_liq u) (m_lev u) (m_nS u) (m_fa u) (m_fb u) (m_seat u) (va_up (m_op u) i o) (m_un u) (m_nV u) (m_may u) (m_nR u) (m_rf u) (m_rl u) g3 g4 (m_cul u) (m_gu u) t 0 w), rfl, Or.inr ⟨i, hi, rfl, g3, g4, w, b176, fun j => by rw [h3 j, show k = m_nR u from by omega], fun j => by rw [h4 j, show k = m_nR u from by omega], kk_e hb176 (Or.inl c_6), rfl, by rw [ht44, show k = m_nR u from by omega, if_pos c_7]⟩, by rw [ht9]; exact hP, va_K.moved hW9.alike hK, hD⟩, hS.F ht9⟩) hS.2.2 d_M_set_306
                    · refine lv_iload_n hx hb d_M_set_185 rfl (lv_at hl 1 rfl) ?_
                      refine b0_eq (tgt := 289) hx hb d_M_set_186 (by decide) (fun c_8 => ?_) (fun c_8 => ?_)
                      · refine lv_aload_n hx hb d_M_set_289 rfl (lv_at hl 0 rfl) ?_
                        refine lv_iload_n hx hb d_M_set_290 rfl (lv_at hl 1 rfl) ?_
                        refine b0_eq (tgt := 301) hx hb d_M_set_291 (by decide) (fun c_9 => ?_) (fun c_9 => ?_)
                        · refine lv_iconst (v := nI 0) hx hb d_M_set_301 (by decide) ?_
                          refine va_put (D := (dC, dI)) (ci := 4) (v := .int (nI 0)) (ty := .int) (C := "SeatProofsModel") (T := F_M) (N := 20) hx hb hts (iu_M _) t_M t_M_ok n_M hown hK hP hD hS 0 rfl rfl 10 (by decide) (hts _ (List.mem_cons_of_mem _ iw_450)) (fun _ h9 => h9) rfl (by decide +kernel) rfl rfl (Nat.le_of_ble_eq_true rfl) d_M_set_302 (fun H locs hP hD hS => ?_)
                          have hP : va_P (dC, dI) vwCl (wMx q (m_liq u) (m_lev u) (m_nS u) (m_fa u) (m_fb u) (m_seat u) (va_up (m_op u) i o) (m_un u) (m_nV u) (m_may u) 0 (m_rf u) (m_rl u) g3 g4 (m_cul u) (m_gu u) t 0 w) H := hP
                          have hD : va_D (va_A (wM q u) s.heap.size) (wMx q (m_liq u) (m_lev u) (m_nS u) (m_fa u) (m_fb u) (m_seat u) (va_up (m_op u) i o) (m_un u) (m_nV u) (m_may u) 0 (m_rf u) (m_rl u) g3 g4 (m_cul u) (m_gu u) t 0 w) := hD
                          refine lv_iload_n hx hb d_M_set_305 rfl (lv_at hl 1 rfl) ?_
                          exact W.zret hx hb hr (bI_narrow _) (fun t9 ht9 hW9 => ⟨⟨_, (m_mk (m_liq u) (m_lev u) (m_nS u) (m_fa u) (m_fb u) (m_seat u) (va_up (m_op u) i o) (m_un u) (m_nV u) (m_may u) 0 (m_rf u) (m_rl u) g3 g4 (m_cul u) (m_gu u) t 0 w), rfl, Or.inr ⟨i, hi, rfl, g3, g4, w, b176, fun j => by rw [h3 j, show k = m_nR u from by omega], fun j => by rw [h4 j, show k = m_nR u from by omega], kk_e hb176 (Or.inr c_8), rfl, by rw [ht44, show k = m_nR u from by omega, if_neg (fun h => absurd (h.symm.trans c_9) (by decide))]⟩, by rw [ht9]; exact hP, va_K.moved hW9.alike hK, hD⟩, hS.F ht9⟩) hS.2.2 d_M_set_306
                        · refine lv_aload_n hx hb d_M_set_294 rfl (lv_at hl 0 rfl) ?_
                          refine va_get (D := (dC, dI)) (ci := 4) (v := .int (nI (m_nR u))) (C := "SeatProofsModel") (T := F_M) (N := 20) hx hb hts (iu_M _) hown hK hP 0 rfl rfl 10 (by decide) (hts _ (List.mem_cons_of_mem _ iw_450)) (fun _ h9 => h9) rfl d_M_set_295 ?_
                          refine lv_goto (tgt := 302) hx hb d_M_set_298 (by decide) ?_
                          refine va_put (D := (dC, dI)) (ci := 4) (v := .int (nI (m_nR u))) (ty := .int) (C := "SeatProofsModel") (T := F_M) (N := 20) hx hb hts (iu_M _) t_M t_M_ok n_M hown hK hP hD hS 0 rfl rfl 10 (by decide) (hts _ (List.mem_cons_of_mem _ iw_450)) (fun _ h9 => h9) rfl (by decide +kernel) rfl rfl (Nat.le_of_ble_eq_true rfl) d_M_set_302 (fun H locs hP hD hS => ?_)
                          have hP : va_P (dC, dI) vwCl (wMx q (m_liq u) (m_lev u) (m_nS u) (m_fa u) (m_fb u) (m_seat u) (va_up (m_op u) i o) (m_un u) (m_nV u) (m_may u) (m_nR u) (m_rf u) (m_rl u) g3 g4 (m_cul u) (m_gu u) t 0 w) H := hP
                          have hD : va_D (va_A (wM q u) s.heap.size) (wMx q (m_liq u) (m_lev u) (m_nS u) (m_fa u) (m_fb u) (m_seat u) (va_up (m_op u) i o) (m_un u) (m_nV u) (m_may u) (m_nR u) (m_rf u) (m_rl u) g3 g4 (m_cul u) (m_gu u) t 0 w) := hD
                          refine lv_iload_n hx hb d_M_set_305 rfl (lv_at hl 1 rfl) ?_
                          exact W.zret hx hb hr (bI_narrow _) (fun t9 ht9 hW9 => ⟨⟨_, (m_mk (m_liq u) (m_lev u) (m_nS u) (m_fa u) (m_fb u) (m_seat u) (va_up (m_op u) i o) (m_un u) (m_nV u) (m_may u) (m_nR u) (m_rf u) (m_rl u) g3 g4 (m_cul u) (m_gu u) t 0 w), rfl, Or.inr ⟨i, hi, rfl, g3, g4, w, b176, fun j => by rw [h3 j, show k = m_nR u from by omega], fun j => by rw [h4 j, show k = m_nR u from by omega], kk_e hb176 (Or.inr c_8), rfl, by rw [ht44, show k = m_nR u from by omega, if_pos c_9]⟩, by rw [ht9]; exact hP, va_K.moved hW9.alike hK, hD⟩, hS.F ht9⟩) hS.2.2 d_M_set_306
                      · refine lv_iload hx hb d_M_set_189 (lv_at hl 2 rfl) ?_
                        refine lv_iconst (v := nI 1) hx hb d_M_set_191 (by decide) ?_
                        refine lv_iadd hx hb d_M_set_192 ?_
                        refine tp_i (nI (j + 1)) (nI_add _ _) ?_
                        refine lv_istore (lv' := [(5, .int (nI (j + 1))), (0, .ref (ma_o q)), (3, .int (bI b176)), (4, .int (nI j))]) hx hb d_M_set_193 hl (by decide) rfl (fun ls hl => ?_)
                        have L195 : ∀ (n195 : Nat) (k5 : Nat) (b195 : Bool), (j < k5) → (k5 ≤ m_nR u) → (b195 = true ↔ (0 < m_nR u ∧ (∀ x y, x < j → x < y → y < m_nR u → ¬ mK u g3 x y) ∧ ∀ y, j < y → y < k5 → ¬ mK u g3 j y)) → m_nR u - k5 < n195 → ∀ (H : Heap) (locs : List Loc) (ls : Array Slot), va_P (dC, dI) vwCl (wMx q (m_liq u) (m_lev u) (m_nS u) (m_fa u) (m_fb u) (m_seat u) (va_up (m_op u) i o) (m_un u) (m_nV u) (m_may u) (m_nR u) (m_rf u) (m_rl u) g3 g4 (m_cul u) (m_gu u) t 0 w) H → va_D (va_A (wM q u) s.heap.size) (wMx q (m_liq u) (m_lev u) (m_nS u) (m_fa u) (m_fb u) (m_seat u) (va_up (m_op u) i o) (m_un u) (m_nV u) (m_may u) (m_nR u) (m_rf u) (m_rl u) g3 g4 (m_cul u) (m_gu u) t 0 w) → va_S (va_A (wM q u) s.heap.size) s.heap H locs → lv_has ls 6 [(0, .ref (ma_o q)), (3, .int (bI b195)), (4, .int (nI j)), (5, .int (nI k5))] → W p l e (headSpec w_M_set ({ frames := 2, cells := 0, slots := 0, locals := 53 })).room s m [Value.ref (ma_o q), Value.int (nI i), Value.int (bI o)].toArray below meth c H locs 0 0 (MQ below (va_Qi (fun (r : Int32) (z : MSt) => (ixB (nI i) (m_nV u) = false ∧ r = bI false ∧ z = m_s_th u 1) ∨ (∃ i9, i9 < m_nV u ∧ (nI i) = nI i9 ∧ ∃ (g3 g4 : Nat → Int64) (w : Nat → Bool) (b : Bool), (∀ j, g3 j = if j < m_nR u ∧ mt u i9 j = true then sF u (m_s_op u (va_up (m_op u) i9 o)) j else m_rw u j) ∧ (∀ j, g4 j = if j < m_nR u ∧ mt u i9 j = true then sC u (m_s_op u (va_up (m_op u) i9 o)) j else m_rc u j) ∧ (b = true ↔ (0 < m_nR u ∧ ∀ p9 q9, p9 < q9 → q9 < m_nR u → ¬ mK u g3 p9 q9)) ∧ r = bI b ∧ z = m_s_wet (m_s_th (m_s_te (m_s_rc (m_s_rw (m_s_nR (m_s_op u (va_up (m_op u) i9 o)) (if b = true then m_nR u else 0)) g3) g4) (pcn (mt u i9) (m_nR u))) 0) w)) (qB (dC, dI) vwCl (tM q) (wM q u) s.heap.size (wM q)) (va_A (wM q u) s.heap.size)) [Value.ref (ma_o q), Value.int (nI i), Value.int (bI o)].toArray s 0 0 (va_A (wM q u) s.heap.size)) (F0 m 195 ls []) := by
                          intro n195
                          induction n195 with
                          | zero => intro k5 b195 hj195 hk195 hb195 hm; exact absurd hm (Nat.not_lt_zero _)
                          | succ n195 ih195 =>
                            intro k5 b195 hj195 hk195 hb195 hm195 H locs ls hP hD hS hl
                            refine lv_iload hx hb d_M_set_195 (lv_at hl 3 rfl) ?_
                            refine lv_aload_n hx hb d_M_set_197 rfl (lv_at hl 0 rfl) ?_
                            refine va_get (D := (dC, dI)) (ci := 4) (v := .int (nI (m_nR u))) (C := "SeatProofsModel") (T := F_M) (N := 20) hx hb hts (iu_M _) hown hK hP 0 rfl rfl 10 (by decide) (hts _ (List.mem_cons_of_mem _ iw_450)) (fun _ h9 => h9) rfl d_M_set_198 ?_
                            refine nv_ge (tgt := 283) hx hb d_M_set_201 (by decide) (by omega) (by omega) (fun c_10 => ?_) (fun c_10 => ?_)
                            · refine lv_iinc (v := nI (j + 1)) (lv' := [(4, .int (nI (j + 1))), (0, .ref (ma_o q)), (3, .int (bI b195)), (5, .int (nI k5))]) hx hb d_M_set_283 hl (k := 2) rfl (nI_1 _) (by decide) rfl (fun ls hl => ?_)
                              refine lv_goto (tgt := 176) hx hb d_M_set_286 (by decide) ?_
                              exact ih176 (j + 1) b195 (by omega) (kk_s hb195 hk195 (Or.inl c_10)) (by omega) _ _ ls hP hD hS (lv_sub hl [1, 2, 0] rfl)
                            · refine lv_iload_n hx hb d_M_set_204 rfl (lv_at hl 1 rfl) ?_
                              refine b0_eq (tgt := 283) hx hb d_M_set_205 (by decide) (fun c_11 => ?_) (fun c_11 => ?_)
                              · refine lv_iinc (v := nI (j + 1)) (lv' := [(4, .int (nI (j + 1))), (0, .ref (ma_o q)), (3, .int (bI b195)), (5, .int (nI k5))]) hx hb d_M_set_283 hl (k := 2) rfl (nI_1 _) (by decide) rfl (fun ls hl => ?_)
                                refine lv_goto (tgt := 176) hx hb d_M_set_286 (by decide) ?_
                                exact ih176 (j + 1) b195 (by omega) (kk_s hb195 hk195 (Or.inr c_11)) (by omega) _ _ ls hP hD hS (lv_sub hl [1, 2, 0] rfl)
                              · refine lv_aload_n hx hb d_M_set_208 rfl (lv_at hl 0 rfl) ?_
                                refine va_get (D := (dC, dI)) (ci := 4) (v := .ref (ma_rf q)) (C := "SeatProofsModel") (T := F_M) (N := 20) hx hb hts (iu_M _) hown hK hP 0 rfl rfl 11 (by decide) (hts _ (List.mem_cons_of_mem _ iw_451)) (fun _ h9 => h9) rfl d_M_set_209 ?_
                                refine lv_iload hx hb d_M_set_212 (lv_at hl 2 rfl) ?_
                                refine ld_i hx hb hK hP 9 0 rfl rfl (nI (m_rf u j)) (by omega) (by decide) rfl d_M_set_214 ?_
                                refine lv_aload_n hx hb d_M_set_215 rfl (lv_at hl 0 rfl) ?_
                                refine va_get (D := (dC, dI)) (ci := 4) (v := .ref (ma_rf q)) (C := "SeatProofsModel") (T := F_M) (N := 20) hx hb hts (iu_M _) hown hK hP 0 rfl rfl 11 (by decide) (hts _ (List.mem_cons_of_mem _ iw_451)) (fun _ h9 => h9) rfl d_M_set_216 ?_
                                refine lv_iload hx hb d_M_set_219 (lv_at hl 3 rfl) ?_
                                refine ld_i hx hb hK hP 9 0 rfl rfl (nI (m_rf u k5)) (by omega) (by decide) rfl d_M_set_221 ?_
                                refine nv_ne (tgt := 271) hx hb d_M_set_222 (by decide) (by have := k7 j; omega) (by have := k7 k5; omega) (fun c_12 => ?_) (fun c_12 => ?_)
                                · refine lv_iconst (v := nI 1) hx hb d_M_set_271 (by decide) ?_
                                  refine lv_goto (tgt := 276) hx hb d_M_set_272 (by decide) ?_
                                  refine lv_istore_n (lv' := [(3, .int (nI 1)), (0, .ref (ma_o q)), (4, .int (nI j)), (5, .int (nI k5))]) hx hb d_M_set_276 rfl hl (by decide) rfl (fun ls hl => ?_)
                                  refine lv_iinc (v := nI (k5 + 1)) (lv' := [(5, .int (nI (k5 + 1))), (3, .int (nI 1)), (0, .ref (ma_o q)), (4, .int (nI j))]) hx hb d_M_set_277 hl (k := 3) rfl (nI_1 _) (by decide) rfl (fun ls hl => ?_)
                                  refine lv_goto (tgt := 195) hx hb d_M_set_280 (by decide) ?_
                                  exact ih195 (k5 + 1) true (by omega) (by omega) (kk_k hb195 c_11 hj195 ⟨fun _ h => c_12 h.1, fun _ => rfl⟩) (by omega) _ _ ls hP hD hS (lv_sub hl [2, 1, 3, 0] rfl)
                                · refine lv_aload_n hx hb d_M_set_225 rfl (lv_at hl 0 rfl) ?_
                                  refine va_get (D := (dC, dI)) (ci := 4) (v := .ref (ma_rw q)) (C := "SeatProofsModel") (T := F_M) (N := 20) hx hb hts (iu_M _) hown hK hP 0 rfl rfl 13 (by decide) (hts _ (List.mem_cons_of_mem _ iw_453)) (fun _ h9 => h9) rfl d_M_set_226 ?_
                                  refine lv_iload hx hb d_M_set_229 (lv_at hl 2 rfl) ?_
                                  refine ld_l hx hb hK hP 11 1 rfl rfl (g3 j) (by omega) (by decide) rfl d_M_set_231 ?_
                                  refine lv_aload_n hx hb d_M_set_232 rfl (lv_at hl 0 rfl) ?_
                                  refine va_get (D := (dC, dI)) (ci := 4) (v := .ref (ma_rw q)) (C := "SeatProofsModel") (T := F_M) (N := 20) hx hb hts (iu_M _) hown hK hP 0 rfl rfl 13 (by decide) (hts _ (List.mem_cons_of_mem _ iw_453)) (fun _ h9 => h9) rfl d_M_set_233 ?_
                                  refine lv_iload hx hb d_M_set_236 (lv_at hl 3 rfl) ?_
                                  refine ld_l hx hb hK hP 11 1 rfl rfl (g3 k5) (by omega) (by decide) rfl d_M_set_238 ?_
                                  refine lv_land hx hb d_M_set_239 ?_
                                  refine lv_lconst (v := 0) hx hb d_M_set_240 (by decide) ?_
                                  refine W.lcmp hx hb d_M_set_241 ?_
                                  refine l0_eq (tgt := 271) hx hb d_M_set_242 (by decide) (fun c_13 => ?_) (fun c_13 => ?_)
                                  · refine lv_iconst (v := nI 1) hx hb d_M_set_271 (by decide) ?_
                                    refine lv_goto (tgt := 276) hx hb d_M_set_272 (by decide) ?_
                                    refine lv_istore_n (lv' := [(3, .int (nI 1)), (0, .ref (ma_o q)), (4, .int (nI j)), (5, .int (nI k5))]) hx hb d_M_set_276 rfl hl (by decide) rfl (fun ls hl => ?_)
                                    refine lv_iinc (v := nI (k5 + 1)) (lv' := [(5, .int (nI (k5 + 1))), (3, .int (nI 1)), (0, .ref (ma_o q)), (4, .int (nI j))]) hx hb d_M_set_277 hl (k := 3) rfl (nI_1 _) (by decide) rfl (fun ls hl => ?_)
                                    refine lv_goto (tgt := 195) hx hb d_M_set_280 (by decide) ?_
                                    exact ih195 (k5 + 1) true (by omega) (by omega) (kk_k hb195 c_11 hj195 ⟨fun _ h => h.2.1 c_13, fun _ => rfl⟩) (by omega) _ _ ls hP hD hS (lv_sub hl [2, 1, 3, 0] rfl)
                                  · refine lv_aload_n hx hb d_M_set_245 rfl (lv_at hl 0 rfl) ?_
                                    refine va_get (D := (dC, dI)) (ci := 4) (v := .ref (ma_may q)) (C := "SeatProofsModel") (T := F_M) (N := 20) hx hb hts (iu_M _) hown hK hP 0 rfl rfl 9 (by decide) (hts _ (List.mem_cons_of_mem _ iw_449)) (fun _ h9 => h9) rfl d_M_set_246 ?_
                                    refine lv_bipush (v := nI 16) hx hb d_M_set_249 (by decide) ?_
                                    refine lv_aload_n hx hb d_M_set_251 rfl (lv_at hl 0 rfl) ?_
                                    refine va_get (D := (dC, dI)) (ci := 4) (v := .ref (ma_rl q)) (C := "SeatProofsModel") (T := F_M) (N := 20) hx hb hts (iu_M _) hown hK hP 0 rfl rfl 12 (by decide) (hts _ (List.mem_cons_of_mem _ iw_452)) (fun _ h9 => h9) rfl d_M_set_252 ?_
                                    refine lv_iload hx hb d_M_set_255 (lv_at hl 2 rfl) ?_
                                    refine ld_i hx hb hK hP 10 0 rfl rfl (nI (m_rl u j)) (by omega) (by decide) rfl d_M_set_257 ?_
                                    refine lv_imul hx hb d_M_set_258 ?_
                                    refine tp_i (nI (16 * (m_rl u j))) (pk_mul _ _) ?_
                                    refine lv_aload_n hx hb d_M_set_259 rfl (lv_at hl 0 rfl) ?_
                                    refine va_get (D := (dC, dI)) (ci := 4) (v := .ref (ma_rl q)) (C := "SeatProofsModel") (T := F_M) (N := 20) hx hb hts (iu_M _) hown hK hP 0 rfl rfl 12 (by decide) (hts _ (List.mem_cons_of_mem _ iw_452)) (fun _ h9 => h9) rfl d_M_set_260 ?_
                                    refine lv_iload hx hb d_M_set_263 (lv_at hl 3 rfl) ?_
                                    refine ld_i hx hb hK hP 10 0 rfl rfl (nI (m_rl u k5)) (by omega) (by decide) rfl d_M_set_265 ?_
                                    refine lv_iadd hx hb d_M_set_266 ?_
                                    refine tp_i (nI ((16 * (m_rl u j)) + m_rl u k5)) (nI_add _ _) ?_
                                    refine ld_z hx hb hK hP 8 2 rfl rfl (bI (m_may u ((16 * (m_rl u j)) + m_rl u k5))) (by have := k8 j; have := k8 k5; omega) (by decide) rfl d_M_set_267 ?_
                                    refine b0_eq (tgt := 275) hx hb d_M_set_268 (by decide) (fun c_14 => ?_) (fun c_14 => ?_)
                                    · refine lv_iconst (v := nI 0) hx hb d_M_set_275 (by decide) ?_
                                      refine lv_istore_n (lv' := [(3, .int (nI 0)), (0, .ref (ma_o q)), (4, .int (nI j)), (5, .int (nI k5))]) hx hb d_M_set_276 rfl hl (by decide) rfl (fun ls hl => ?_)
                                      refine lv_iinc (v := nI (k5 + 1)) (lv' := [(5, .int (nI (k5 + 1))), (3, .int (nI 0)), (0, .ref (ma_o q)), (4, .int (nI j))]) hx hb d_M_set_277 hl (k := 3) rfl (nI_1 _) (by decide) rfl (fun ls hl => ?_)
                                      refine lv_goto (tgt := 195) hx hb d_M_set_280 (by decide) ?_
                                      exact ih195 (k5 + 1) false (by omega) (by omega) (kk_k hb195 c_11 hj195 ⟨fun h => absurd h (by decide), fun h => absurd ⟨c_12, c_13, c_14⟩ h⟩) (by omega) _ _ ls hP hD hS (lv_sub hl [2, 1, 3, 0] rfl)
                                    · refine lv_iconst (v := nI 1) hx hb d_M_set_271 (by decide) ?_
                                      refine lv_goto (tgt := 276) hx hb d_M_set_272 (by decide) ?_
                                      refine lv_istore_n (lv' := [(3, .int (nI 1)), (0, .ref (ma_o q)), (4, .int (nI j)), (5, .int (nI k5))]) hx hb d_M_set_276 rfl hl (by decide) rfl (fun ls hl => ?_)
                                      refine lv_iinc (v := nI (k5 + 1)) (lv' := [(5, .int (nI (k5 + 1))), (3, .int (nI 1)), (0, .ref (ma_o q)), (4, .int (nI j))]) hx hb d_M_set_277 hl (k := 3) rfl (nI_1 _) (by decide) rfl (fun ls hl => ?_)
                                      refine lv_goto (tgt := 195) hx hb d_M_set_280 (by decide) ?_
                                      exact ih195 (k5 + 1) true (by omega) (by omega) (kk_k hb195 c_11 hj195 ⟨fun _ h => absurd (h.2.2.symm.trans c_14) (by decide), fun _ => rfl⟩) (by omega) _ _ ls hP hD hS (lv_sub hl [2, 1, 3, 0] rfl)
                        exact L195 _ (j + 1) b176 (by omega) (by omega) (kk_1 hb176) (Nat.lt_succ_self _) _ _ ls hP hD hS (lv_sub hl [1, 2, 3, 0] rfl)
                exact L176 _ 0 b172 (Nat.zero_le _) (⟨fun h => ⟨of_decide_eq_true (hb172.symm.trans h), fun x _ hx => absurd hx (Nat.not_lt_zero x)⟩, fun h => hb172.trans (decide_eq_true h.1)⟩) (Nat.lt_succ_self _) _ _ ls hP hD hS (lv_sub hl [2, 1, 0] rfl)
              refine lv_aload_n hx hb d_M_set_160 rfl (lv_at hl 0 rfl) ?_
              refine va_get (D := (dC, dI)) (ci := 4) (v := .int (nI (m_nR u))) (C := "SeatProofsModel") (T := F_M) (N := 20) hx hb hts (iu_M _) hown hK hP 0 rfl rfl 10 (by decide) (hts _ (List.mem_cons_of_mem _ iw_450)) (fun _ h9 => h9) rfl d_M_set_161 ?_
              refine n0_le (tgt := 171) hx hb d_M_set_164 (by decide) (by omega) (fun c_15 => ?_) (fun c_15 => ?_)
              · refine lv_iconst (v := nI 0) hx hb d_M_set_171 (by decide) ?_
                refine tp_i (bI false) (by decide) ?_
                exact L172 false (by simp [c_15]) _ _ ls hP hD hS (lv_sub hl [0] rfl)
              · refine lv_iconst (v := nI 1) hx hb d_M_set_167 (by decide) ?_
                refine lv_goto (tgt := 172) hx hb d_M_set_168 (by decide) ?_
                refine tp_i (bI true) (by decide) ?_
                exact L172 true ((decide_eq_true (Nat.pos_of_ne_zero c_15)).symm) _ _ ls hP hD hS (lv_sub hl [0] rfl)
            · have L100 : (mt u i k = true) → ∀ (H : Heap) (locs : List Loc) (ls : Array Slot), va_P (dC, dI) vwCl (wMx q (m_liq u) (m_lev u) (m_nS u) (m_fa u) (m_fb u) (m_seat u) (va_up (m_op u) i o) (m_un u) (m_nV u) (m_may u) (m_nR u) (m_rf u) (m_rl u) g3 g4 (m_cul u) (m_gu u) t 0 w) H → va_D (va_A (wM q u) s.heap.size) (wMx q (m_liq u) (m_lev u) (m_nS u) (m_fa u) (m_fb u) (m_seat u) (va_up (m_op u) i o) (m_un u) (m_nV u) (m_may u) (m_nR u) (m_rf u) (m_rl u) g3 g4 (m_cul u) (m_gu u) t 0 w) → va_S (va_A (wM q u) s.heap.size) s.heap H locs → lv_has ls 6 [(0, .ref (ma_o q)), (1, .int (nI i)), (2, .int (bI o)), (3, .int (nI k))] → W p l e (headSpec w_M_set ({ frames := 2, cells := 0, slots := 0, locals := 53 })).room s m [Value.ref (ma_o q), Value.int (nI i), Value.int (bI o)].toArray below meth c H locs 0 0 (MQ below (va_Qi (fun (r : Int32) (z : MSt) => (ixB (nI i) (m_nV u) = false ∧ r = bI false ∧ z = m_s_th u 1) ∨ (∃ i9, i9 < m_nV u ∧ (nI i) = nI i9 ∧ ∃ (g3 g4 : Nat → Int64) (w : Nat → Bool) (b : Bool), (∀ j, g3 j = if j < m_nR u ∧ mt u i9 j = true then sF u (m_s_op u (va_up (m_op u) i9 o)) j else m_rw u j) ∧ (∀ j, g4 j = if j < m_nR u ∧ mt u i9 j = true then sC u (m_s_op u (va_up (m_op u) i9 o)) j else m_rc u j) ∧ (b = true ↔ (0 < m_nR u ∧ ∀ p9 q9, p9 < q9 → q9 < m_nR u → ¬ mK u g3 p9 q9)) ∧ r = bI b ∧ z = m_s_wet (m_s_th (m_s_te (m_s_rc (m_s_rw (m_s_nR (m_s_op u (va_up (m_op u) i9 o)) (if b = true then m_nR u else 0)) g3) g4) (pcn (mt u i9) (m_nR u))) 0) w)) (qB (dC, dI) vwCl (tM q) (wM q u) s.heap.size (wM q)) (va_A (wM q u) s.heap.size)) [Value.ref (ma_o q), Value.int (nI i), Value.int (bI o)].toArray s 0 0 (va_A (wM q u) s.heap.size)) (F0 m 100 ls []) := by
                intro  hmt H locs ls hP hD hS hl
                refine lv_aload_n hx hb d_M_set_100 rfl (lv_at hl 0 rfl) ?_
                refine va_get (D := (dC, dI)) (ci := 4) (v := .ref (ma_rw q)) (C := "SeatProofsModel") (T := F_M) (N := 20) hx hb hts (iu_M _) hown hK hP 0 rfl rfl 13 (by decide) (hts _ (List.mem_cons_of_mem _ iw_453)) (fun _ h9 => h9) rfl d_M_set_101 ?_
                refine lv_iload_n hx hb d_M_set_104 rfl (lv_at hl 3 rfl) ?_
                refine lv_aload_n hx hb d_M_set_105 rfl (lv_at hl 0 rfl) ?_
                refine lv_aload_n hx hb d_M_set_106 rfl (lv_at hl 0 rfl) ?_
                refine va_get (D := (dC, dI)) (ci := 4) (v := .ref (ma_rl q)) (C := "SeatProofsModel") (T := F_M) (N := 20) hx hb hts (iu_M _) hown hK hP 0 rfl rfl 12 (by decide) (hts _ (List.mem_cons_of_mem _ iw_452)) (fun _ h9 => h9) rfl d_M_set_107 ?_
                refine lv_iload_n hx hb d_M_set_110 rfl (lv_at hl 3 rfl) ?_
                refine ld_i hx hb hK hP 10 0 rfl rfl (nI (m_rl u k)) (by omega) (by decide) rfl d_M_set_111 ?_
                refine lv_aload_n hx hb d_M_set_112 rfl (lv_at hl 0 rfl) ?_
                refine va_get (D := (dC, dI)) (ci := 4) (v := .ref (ma_rf q)) (C := "SeatProofsModel") (T := F_M) (N := 20) hx hb hts (iu_M _) hown hK hP 0 rfl rfl 11 (by decide) (hts _ (List.mem_cons_of_mem _ iw_451)) (fun _ h9 => h9) rfl d_M_set_113 ?_
                refine lv_iload_n hx hb d_M_set_116 rfl (lv_at hl 3 rfl) ?_
                refine ld_i hx hb hK hP 9 0 rfl rfl (nI (m_rf u k)) (by omega) (by decide) rfl d_M_set_117 ?_
                refine cq_l (va_runV (As := [.int (nI (m_rl u k)), .int (nI (m_rf u k))]) (rest := [.int (nI k), .ref (ma_rw q)]) ⟨hx, hb, hml, hown, hts⟩ (c_M_flood l dC dI q (m_mk (m_liq u) (m_lev u) (m_nS u) (m_fa u) (m_fb u) (m_seat u) (va_up (m_op u) i o) (m_un u) (m_nV u) (m_may u) (m_nR u) (m_rf u) (m_rl u) g3 g4 (m_cul u) (m_gu u) t 0 w) _ (m_rl u k) (m_rf u k) (MOk_set hu (by have := pcn_le (mt u i) k; omega)) (k8 _) (k7 _)) (cwV 2 hts (good_up (good_V iw_530 iw_532 ip_11 iw_5 gg_M_flood)) rfl rfl rfl (by decide +kernel) ⟨Nat.le_of_ble_eq_true rfl, Nat.le_of_ble_eq_true rfl⟩) (pv_Q [.int (nI (m_rl u k)), .int (nI (m_rf u k))] hN hK hP hD (ci := 4) (q0 := 0) rfl rfl) rfl rfl hl.1 rfl (lv_room (Nat.le_of_ble_eq_true rfl)) d_M_set_118 ⟨Nat.le_of_ble_eq_true rfl, Nat.le_of_ble_eq_true rfl⟩) hD hS hA (fun r_18 z_17 H locs hr_16 hP hD hS => ?_)
                obtain ⟨w_19, rfl, rfl⟩ := hr_16
                have hP : va_P (dC, dI) vwCl (wMx q (m_liq u) (m_lev u) (m_nS u) (m_fa u) (m_fb u) (m_seat u) (va_up (m_op u) i o) (m_un u) (m_nV u) (m_may u) (m_nR u) (m_rf u) (m_rl u) g3 g4 (m_cul u) (m_gu u) t 0 w_19) H := hP
                have hD : va_D (va_A (wM q u) s.heap.size) (wMx q (m_liq u) (m_lev u) (m_nS u) (m_fa u) (m_fb u) (m_seat u) (va_up (m_op u) i o) (m_un u) (m_nV u) (m_may u) (m_nR u) (m_rf u) (m_rl u) g3 g4 (m_cul u) (m_gu u) t 0 w_19) := hD
                refine tp_l (mF (m_s_op u (va_up (m_op u) i o)) (m_rl u k) (m_rf u k)) (mF_cg rfl rfl rfl rfl rfl rfl rfl rfl rfl) ?_
                refine st_l hx hb hK hP hD hS 11 1 rfl rfl (va_up g3 k (mF (m_s_op u (va_up (m_op u) i o)) (m_rl u k) (m_rf u k))) (by omega) (by decide) (updL_up _ _ _) d_M_set_121 (fun H locs hP hD hS => ?_)
                have hP : va_P (dC, dI) vwCl (wMx q (m_liq u) (m_lev u) (m_nS u) (m_fa u) (m_fb u) (m_seat u) (va_up (m_op u) i o) (m_un u) (m_nV u) (m_may u) (m_nR u) (m_rf u) (m_rl u) (va_up g3 k (mF (m_s_op u (va_up (m_op u) i o)) (m_rl u k) (m_rf u k))) g4 (m_cul u) (m_gu u) t 0 w_19) H := hP
                have hD : va_D (va_A (wM q u) s.heap.size) (wMx q (m_liq u) (m_lev u) (m_nS u) (m_fa u) (m_fb u) (m_seat u) (va_up (m_op u) i o) (m_un u) (m_nV u) (m_may u) (m_nR u) (m_rf u) (m_rl u) (va_up g3 k (mF (m_s_op u (va_up (m_op u) i o)) (m_rl u k) (m_rf u k))) g4 (m_cul u) (m_gu u) t 0 w_19) := hD
                refine lv_aload_n hx hb d_M_set_122 rfl (lv_at hl 0 rfl) ?_
                refine va_get (D := (dC, dI)) (ci := 4) (v := .ref (ma_rc q)) (C := "SeatProofsModel") (T := F_M) (N := 20) hx hb hts (iu_M _) hown hK hP 0 rfl rfl 14 (by decide) (hts _ (List.mem_cons_of_mem _ iw_454)) (fun _ h9 => h9) rfl d_M_set_123 ?_
                refine lv_iload_n hx hb d_M_set_126 rfl (lv_at hl 3 rfl) ?_
                refine lv_aload_n hx hb d_M_set_127 rfl (lv_at hl 0 rfl) ?_
                refine lv_aload_n hx hb d_M_set_128 rfl (lv_at hl 0 rfl) ?_
                refine va_get (D := (dC, dI)) (ci := 4) (v := .ref (ma_rw q)) (C := "SeatProofsModel") (T := F_M) (N := 20) hx hb hts (iu_M _) hown hK hP 0 rfl rfl 13 (by decide) (hts _ (List.mem_cons_of_mem _ iw_453)) (fun _ h9 => h9) rfl d_M_set_129 ?_
                refine lv_iload_n hx hb d_M_set_132 rfl (lv_at hl 3 rfl) ?_
                refine ld_l hx hb hK hP 11 1 rfl rfl (mF (m_s_op u (va_up (m_op u) i o)) (m_rl u k) (m_rf u k)) (by omega) (by decide) (va_up_self _ _ _) d_M_set_133 ?_
                refine lv_aload_n hx hb d_M_set_134 rfl (lv_at hl 0 rfl) ?_
                refine va_get (D := (dC, dI)) (ci := 4) (v := .ref (ma_rf q)) (C := "SeatProofsModel") (T := F_M) (N := 20) hx hb hts (iu_M _) hown hK hP 0 rfl rfl 11 (by decide) (hts _ (List.mem_cons_of_mem _ iw_451)) (fun _ h9 => h9) rfl d_M_set_135 ?_
                refine lv_iload_n hx hb d_M_set_138 rfl (lv_at hl 3 rfl) ?_
                refine ld_i hx hb hK hP 9 0 rfl rfl (nI (m_rf u k)) (by omega) (by decide) rfl d_M_set_139 ?_
                refine vp_callSl (va_Run.run (va_runV (As := [.long (mF (m_s_op u (va_up (m_op u) i o)) (m_rl u k) (m_rf u k)), .int (nI (m_rf u k))]) (rest := [.int (nI k), .ref (ma_rc q)]) ⟨hx, hb, hml, hown, hts⟩ (c_M_cut l dC dI q (m_mk (m_liq u) (m_lev u) (m_nS u) (m_fa u) (m_fb u) (m_seat u) (va_up (m_op u) i o) (m_un u) (m_nV u) (m_may u) (m_nR u) (m_rf u) (m_rl u) (va_up g3 k (mF (m_s_op u (va_up (m_op u) i o)) (m_rl u k) (m_rf u k))) g4 (m_cul u) (m_gu u) t 0 w_19) (mF (m_s_op u (va_up (m_op u) i o)) (m_rl u k) (m_rf u k)) (m_rf u k) (MOk_set hu (by have := pcn_le (mt u i) k; omega)) (k7 _)) (cwV 2 hts (good_up (good_V iw_538 iw_540 ip_13 iw_5 gg_M_cut)) rfl rfl rfl (by decide +kernel) ⟨Nat.le_of_ble_eq_true rfl, Nat.le_of_ble_eq_true rfl⟩) (pv_S [.long (mF (m_s_op u (va_up (m_op u) i o)) (m_rl u k) (m_rf u k)), .int (nI (m_rf u k))] hN hK hP (ci := 4) (q0 := 0) rfl rfl) rfl rfl hl.1 rfl (lv_room (Nat.le_of_ble_eq_true rfl)) d_M_set_140 ⟨Nat.le_of_ble_eq_true rfl, Nat.le_of_ble_eq_true rfl⟩)) (fun r_20 hr_20 => ?_)
                subst hr_20
                refine tp_l (mC (m_s_op u (va_up (m_op u) i o)) (mF (m_s_op u (va_up (m_op u) i o)) (m_rl u k) (m_rf u k)) (m_rf u k)) (mC_cg rfl rfl rfl rfl rfl rfl rfl) ?_
                refine st_l hx hb hK hP hD hS 12 1 rfl rfl (va_up g4 k (mC (m_s_op u (va_up (m_op u) i o)) (mF (m_s_op u (va_up (m_op u) i o)) (m_rl u k) (m_rf u k)) (m_rf u k))) (by omega) (by decide) (updL_up _ _ _) d_M_set_143 (fun H locs hP hD hS => ?_)
                have hP : va_P (dC, dI) vwCl (wMx q (m_liq u) (m_lev u) (m_nS u) (m_fa u) (m_fb u) (m_seat u) (va_up (m_op u) i o) (m_un u) (m_nV u) (m_may u) (m_nR u) (m_rf u) (m_rl u) (va_up g3 k (mF (m_s_op u (va_up (m_op u) i o)) (m_rl u k) (m_rf u k))) (va_up g4 k (mC (m_s_op u (va_up (m_op u) i o)) (mF (m_s_op u (va_up (m_op u) i o)) (m_rl u k) (m_rf u k)) (m_rf u k))) (m_cul u) (m_gu u) t 0 w_19) H := hP
                have hD : va_D (va_A (wM q u) s.heap.size) (wMx q (m_liq u) (m_lev u) (m_nS u) (m_fa u) (m_fb u) (m_seat u) (va_up (m_op u) i o) (m_un u) (m_nV u) (m_may u) (m_nR u) (m_rf u) (m_rl u) (va_up g3 k (mF (m_s_op u (va_up (m_op u) i o)) (m_rl u k) (m_rf u k))) (va_up g4 k (mC (m_s_op u (va_up (m_op u) i o)) (mF (m_s_op u (va_up (m_op u) i o)) (m_rl u k) (m_rf u k)) (m_rf u k))) (m_cul u) (m_gu u) t 0 w_19) := hD
                refine lv_aload_n hx hb d_M_set_144 rfl (lv_at hl 0 rfl) ?_
                refine lv_dup hx hb d_M_set_145 rfl ?_
                refine va_get (D := (dC, dI)) (ci := 4) (v := .int (nI t)) (C := "SeatProofsModel") (T := F_M) (N := 20) hx hb hts (iu_M _) hown hK hP 0 rfl rfl 17 (by decide) (hts _ (List.mem_cons_of_mem _ iw_457)) (fun _ h9 => h9) rfl d_M_set_146 ?_
                refine lv_iconst (v := nI 1) hx hb d_M_set_149 (by decide) ?_
                refine lv_iadd hx hb d_M_set_150 ?_
                refine tp_i (nI (t + 1)) (nI_add _ _) ?_
                refine va_put (D := (dC, dI)) (ci := 4) (v := .int (nI (t + 1))) (ty := .int) (C := "SeatProofsModel") (T := F_M) (N := 20) hx hb hts (iu_M _) t_M t_M_ok n_M hown hK hP hD hS 0 rfl rfl 17 (by decide) (hts _ (List.mem_cons_of_mem _ iw_457)) (fun _ h9 => h9) rfl (by decide +kernel) rfl rfl (Nat.le_of_ble_eq_true rfl) d_M_set_151 (fun H locs hP hD hS => ?_)
                have hP : va_P (dC, dI) vwCl (wMx q (m_liq u) (m_lev u) (m_nS u) (m_fa u) (m_fb u) (m_seat u) (va_up (m_op u) i o) (m_un u) (m_nV u) (m_may u) (m_nR u) (m_rf u) (m_rl u) (va_up g3 k (mF (m_s_op u (va_up (m_op u) i o)) (m_rl u k) (m_rf u k))) (va_up g4 k (mC (m_s_op u (va_up (m_op u) i o)) (mF (m_s_op u (va_up (m_op u) i o)) (m_rl u k) (m_rf u k)) (m_rf u k))) (m_cul u) (m_gu u) (t + 1) 0 w_19) H := hP
                have hD : va_D (va_A (wM q u) s.heap.size) (wMx q (m_liq u) (m_lev u) (m_nS u) (m_fa u) (m_fb u) (m_seat u) (va_up (m_op u) i o) (m_un u) (m_nV u) (m_may u) (m_nR u) (m_rf u) (m_rl u) (va_up g3 k (mF (m_s_op u (va_up (m_op u) i o)) (m_rl u k) (m_rf u k))) (va_up g4 k (mC (m_s_op u (va_up (m_op u) i o)) (mF (m_s_op u (va_up (m_op u) i o)) (m_rl u k) (m_rf u k)) (m_rf u k))) (m_cul u) (m_gu u) (t + 1) 0 w_19) := hD
                refine lv_iinc (v := nI (k + 1)) (lv' := [(3, .int (nI (k + 1))), (0, .ref (ma_o q)), (1, .int (nI i)), (2, .int (bI o))]) hx hb d_M_set_154 hl (k := 3) rfl (nI_1 _) (by decide) rfl (fun ls hl => ?_)
                refine lv_goto (tgt := 44) hx hb d_M_set_157 (by decide) ?_
                exact ih44 (k + 1) (va_up g3 k (mF (m_s_op u (va_up (m_op u) i o)) (m_rl u k) (m_rf u k))) (va_up g4 k (mC (m_s_op u (va_up (m_op u) i o)) (mF (m_s_op u (va_up (m_op u) i o)) (m_rl u k) (m_rf u k)) (m_rf u k))) (t + 1) w_19 (by omega) (up_if (F := sF u (m_s_op u (va_up (m_op u) i o))) h3 hmt) (up_if (F := sC u (m_s_op u (va_up (m_op u) i o))) h4 hmt) (by rw [pcn_st hmt, ht44]) (by omega) _ _ ls hP hD hS (lv_sub hl [1, 2, 3, 0] rfl)
              refine lv_aload_n hx hb d_M_set_52 rfl (lv_at hl 0 rfl) ?_
              refine va_get (D := (dC, dI)) (ci := 4) (v := .ref (ma_rf q)) (C := "SeatProofsModel") (T := F_M) (N := 20) hx hb hts (iu_M _) hown hK hP 0 rfl rfl 11 (by decide) (hts _ (List.mem_cons_of_mem _ iw_451)) (fun _ h9 => h9) rfl d_M_set_53 ?_
              refine lv_iload_n hx hb d_M_set_56 rfl (lv_at hl 3 rfl) ?_
              refine ld_i hx hb hK hP 9 0 rfl rfl (nI (m_rf u k)) (by omega) (by decide) rfl d_M_set_57 ?_
              refine lv_iload_n hx hb d_M_set_58 rfl (lv_at hl 1 rfl) ?_
              refine lv_iconst (v := nI 1) hx hb d_M_set_59 (by decide) ?_
              refine lv_iadd hx hb d_M_set_60 ?_
              refine tp_i (nI (i + 1)) (nI_add _ _) ?_
              refine nv_eq (tgt := 100) hx hb d_M_set_61 (by decide) (by have := k7 k; omega) (by omega) (fun c_21 => ?_) (fun c_21 => ?_)
              · exact L100 (by rw [mt, decide_eq_true c_21]; rfl) _ _ ls hP hD hS (lv_sub hl [0, 1, 2, 3] rfl)
              · refine lv_aload_n hx hb d_M_set_64 rfl (lv_at hl 0 rfl) ?_
                refine va_get (D := (dC, dI)) (ci := 4) (v := .ref (ma_rw q)) (C := "SeatProofsModel") (T := F_M) (N := 20) hx hb hts (iu_M _) hown hK hP 0 rfl rfl 13 (by decide) (hts _ (List.mem_cons_of_mem _ iw_453)) (fun _ h9 => h9) rfl d_M_set_65 ?_
                refine lv_iload_n hx hb d_M_set_68 rfl (lv_at hl 3 rfl) ?_
                refine ld_l hx hb hK hP 11 1 rfl rfl (g3 k) (by omega) (by decide) rfl d_M_set_69 ?_
                refine lv_aload_n hx hb d_M_set_70 rfl (lv_at hl 0 rfl) ?_
                refine va_get (D := (dC, dI)) (ci := 4) (v := .ref (ma_fa q)) (C := "SeatProofsModel") (T := F_M) (N := 20) hx hb hts (iu_M _) hown hK hP 0 rfl rfl 3 (by decide) (hts _ (List.mem_cons_of_mem _ iw_443)) (fun _ h9 => h9) rfl d_M_set_71 ?_
                refine lv_iload_n hx hb d_M_set_74 rfl (lv_at hl 1 rfl) ?_
                refine ld_i hx hb hK hP 3 0 rfl rfl (nI (m_fa u i)) (by omega) (by decide) rfl d_M_set_75 ?_
                refine vp_callSi (va_Run.run (va_runS (As := [.long (g3 k), .int (nI (m_fa u i))]) (rest := []) ⟨hx, hb, hml, hown, hts⟩ (c_M_has l (g3 k) (m_fa u i) (k5 _)) (va_cwS 2 hts (good_up (good_S iw_542 iw_543 iw_5 gg_M_has)) rfl rfl rfl (by decide +kernel) ⟨Nat.le_of_ble_eq_true rfl, Nat.le_of_ble_eq_true rfl⟩) (ps_0 [.long (g3 k), .int (nI (m_fa u i))] hN) rfl rfl hl.1 rfl (lv_room (Nat.le_of_ble_eq_true rfl)) d_M_set_76 ⟨Nat.le_of_ble_eq_true rfl, Nat.le_of_ble_eq_true rfl⟩)) (fun r_22 hr_22 => ?_)
                subst hr_22
                refine b0_ne (tgt := 100) hx hb d_M_set_79 (by decide) (fun c_23 => ?_) (fun c_23 => ?_)
                · exact L100 (by rw [up_at h3] at c_23; rw [mt, c_23]; simp) _ _ ls hP hD hS (lv_sub hl [0, 1, 2, 3] rfl)
                · refine lv_aload_n hx hb d_M_set_82 rfl (lv_at hl 0 rfl) ?_
                  refine va_get (D := (dC, dI)) (ci := 4) (v := .ref (ma_rw q)) (C := "SeatProofsModel") (T := F_M) (N := 20) hx hb hts (iu_M _) hown hK hP 0 rfl rfl 13 (by decide) (hts _ (List.mem_cons_of_mem _ iw_453)) (fun _ h9 => h9) rfl d_M_set_83 ?_
                  refine lv_iload_n hx hb d_M_set_86 rfl (lv_at hl 3 rfl) ?_
                  refine ld_l hx hb hK hP 11 1 rfl rfl (g3 k) (by omega) (by decide) rfl d_M_set_87 ?_
                  refine lv_aload_n hx hb d_M_set_88 rfl (lv_at hl 0 rfl) ?_
                  refine va_get (D := (dC, dI)) (ci := 4) (v := .ref (ma_fb q)) (C := "SeatProofsModel") (T := F_M) (N := 20) hx hb hts (iu_M _) hown hK hP 0 rfl rfl 4 (by decide) (hts _ (List.mem_cons_of_mem _ iw_444)) (fun _ h9 => h9) rfl d_M_set_89 ?_
                  refine lv_iload_n hx hb d_M_set_92 rfl (lv_at hl 1 rfl) ?_
                  refine ld_i hx hb hK hP 4 0 rfl rfl (nI (m_fb u i)) (by omega) (by decide) rfl d_M_set_93 ?_
                  refine vp_callSi (va_Run.run (va_runS (As := [.long (g3 k), .int (nI (m_fb u i))]) (rest := []) ⟨hx, hb, hml, hown, hts⟩ (c_M_has l (g3 k) (m_fb u i) (k6 _)) (va_cwS 2 hts (good_up (good_S iw_542 iw_543 iw_5 gg_M_has)) rfl rfl rfl (by decide +kernel) ⟨Nat.le_of_ble_eq_true rfl, Nat.le_of_ble_eq_true rfl⟩) (ps_0 [.long (g3 k), .int (nI (m_fb u i))] hN) rfl rfl hl.1 rfl (lv_room (Nat.le_of_ble_eq_true rfl)) d_M_set_94 ⟨Nat.le_of_ble_eq_true rfl, Nat.le_of_ble_eq_true rfl⟩)) (fun r_24 hr_24 => ?_)
                  subst hr_24
                  refine b0_eq (tgt := 154) hx hb d_M_set_97 (by decide) (fun c_25 => ?_) (fun c_25 => ?_)
                  · have hmf : mt u i k = false := by
                      rw [up_at h3] at c_23 c_25
                      rw [mt, decide_eq_false c_21, c_23, c_25]; rfl
                    refine lv_iinc (v := nI (k + 1)) (lv' := [(3, .int (nI (k + 1))), (0, .ref (ma_o q)), (1, .int (nI i)), (2, .int (bI o))]) hx hb d_M_set_154 hl (k := 3) rfl (nI_1 _) (by decide) rfl (fun ls hl => ?_)
                    refine lv_goto (tgt := 44) hx hb d_M_set_157 (by decide) ?_
                    exact ih44 (k + 1) g3 g4 t w (by omega) (up_no (F := sF u (m_s_op u (va_up (m_op u) i o))) h3 hmf) (up_no (F := sC u (m_s_op u (va_up (m_op u) i o))) h4 hmf) (by rw [pcn_sf hmf]; exact ht44) (by omega) _ _ ls hP hD hS (lv_sub hl [1, 2, 3, 0] rfl)
                  · exact L100 (by rw [up_at h3] at c_25; rw [mt, c_25]; simp) _ _ ls hP hD hS (lv_sub hl [0, 1, 2, 3] rfl)
        exact L44 _ 0 (m_rw u) (m_rc u) 0 (m_wet u) (Nat.zero_le _) (fun j => by rw [if_neg (by omega)]) (fun j => by rw [if_neg (by omega)]) rfl (Nat.lt_succ_self _) _ _ ls hP hD hS (lv_sub hl [1, 2, 3, 0] rfl)
      · exact absurd c_4 (by decide)
    · refine lv_iconst (v := nI 1) hx hb d_M_set_13 (by decide) ?_
      refine lv_goto (tgt := 18) hx hb d_M_set_14 (by decide) ?_
      refine va_put (D := (dC, dI)) (ci := 4) (v := .int (nI 1)) (ty := .int) (C := "SeatProofsModel") (T := F_M) (N := 20) hx hb hts (iu_M _) t_M t_M_ok n_M hown hK hP hD hS 0 rfl rfl 18 (by decide) (hts _ (List.mem_cons_of_mem _ iw_458)) (fun _ h9 => h9) rfl (by decide +kernel) rfl rfl (Nat.le_of_ble_eq_true rfl) d_M_set_18 (fun H locs hP hD hS => ?_)
      have hP : va_P (dC, dI) vwCl (wMx q (m_liq u) (m_lev u) (m_nS u) (m_fa u) (m_fb u) (m_seat u) (m_op u) (m_un u) (m_nV u) (m_may u) (m_nR u) (m_rf u) (m_rl u) (m_rw u) (m_rc u) (m_cul u) (m_gu u) (m_te u) 1 (m_wet u)) H := hP
      have hD : va_D (va_A (wM q u) s.heap.size) (wMx q (m_liq u) (m_lev u) (m_nS u) (m_fa u) (m_fb u) (m_seat u) (m_op u) (m_un u) (m_nV u) (m_may u) (m_nR u) (m_rf u) (m_rl u) (m_rw u) (m_rc u) (m_cul u) (m_gu u) (m_te u) 1 (m_wet u)) := hD
      refine lv_aload_n hx hb d_M_set_21 rfl (lv_at hl 0 rfl) ?_
      refine va_get (D := (dC, dI)) (ci := 4) (v := .int (nI 1)) (C := "SeatProofsModel") (T := F_M) (N := 20) hx hb hts (iu_M _) hown hK hP 0 rfl rfl 18 (by decide) (hts _ (List.mem_cons_of_mem _ iw_458)) (fun _ h9 => h9) rfl d_M_set_22 ?_
      refine n0_le (tgt := 30) hx hb d_M_set_25 (by decide) (by omega) (fun c_26 => ?_) (fun c_26 => ?_)
      · exact absurd c_26 (by decide)
      · refine lv_iconst (v := nI 0) hx hb d_M_set_28 (by decide) ?_
        refine tp_i (bI false) (by decide) ?_
        exact W.zret hx hb hr (bI_narrow _) (fun t9 ht9 hW9 => ⟨⟨_, (m_mk (m_liq u) (m_lev u) (m_nS u) (m_fa u) (m_fb u) (m_seat u) (m_op u) (m_un u) (m_nV u) (m_may u) (m_nR u) (m_rf u) (m_rl u) (m_rw u) (m_rc u) (m_cul u) (m_gu u) (m_te u) 1 (m_wet u)), rfl, Or.inl ⟨ixB_nl c_3, rfl, rfl⟩, by rw [ht9]; exact hP, va_K.moved hW9.alike hK, hD⟩, hS.F ht9⟩) hS.2.2 d_M_set_29
