set_option maxHeartbeats 4000000 in
set_option maxRecDepth 100000 in
theorem c_M_safe (l : Launch) (dC : Nat → ClassId) (dI : Nat → Nat → Nat) (q : MA) (u : MSt) (sz : Nat) (hu : MOk u) : Met l y_M_safe w_M_safe ({ frames := 2, cells := 0, slots := 0, locals := 53 }) (qPc (dC, dI) vwCl (tM q) (wM q u) sz [Value.ref (ma_o q)]) (va_Qi (fun (r : Int32) (z : MSt) => (r = nI 1 ∧ (∀ x, x < m_nV u + 1 → mNo u x) ∧ ∃ (n : Nat) (g1 g2 : Nat → Nat) (g3 g4 : Nat → Int64) (w : Nat → Bool), RT (mTh u) (mF u) (fun a x => mC u (mF u a x) x) (m_nV u + 1) 1 n g1 g2 g3 g4 ∧ n ≤ 975 ∧ (∀ j, g1 j < 65) ∧ (∀ j, g2 j < 16) ∧ z = m_s_wet (m_s_th (m_s_gu (m_s_cul (m_s_rc (m_s_rw (m_s_rl (m_s_rf (m_s_nR u n) g1) g2) g3) g4) (m_cul u)) false) 0) w) ∨ (r = nI 0 ∧ ∃ f t a b, f ≤ m_nV u ∧ (∀ x, x < f → mNo u x) ∧ mCul u f t a b ∧ ∃ (g1 g2 : Nat → Nat) (g3 g4 : Nat → Int64) (w : Nat → Bool), (∀ j, g1 j < 65) ∧ (∀ j, g2 j < 16) ∧ z = m_s_wet (m_s_th (m_s_gu (m_s_cul (m_s_rc (m_s_rw (m_s_rl (m_s_rf (m_s_nR u 0) g1) g2) g3) g4) (cu4 (m_cul u) f t a b)) true) 0) w)) (qB (dC, dI) vwCl (tM q) (wM q u) sz (wM q)) (va_A (wM q u) sz)) 0 0 (va_A (wM q u) sz) := by
  refine Met.ofW (cc := b_M_safe) (maxL := 4) (ret := (some .int)) (by decide) rfl ?_
  intro p e s m args below meth c s₁ B hml hv
  obtain ⟨rfl, hsz, hP, hK, hD0, hN⟩ := hv
  have hx := B.exec
  have hb := B.bytes
  have hr := B.returns
  have hts := atoms_spec (ws := w_M_safe) B.pre
  have hown : s.vm.findClass "SeatProofsModel" = some m.cls := findClass_of_methodNamed B.named
  have hlocks := B.notSynchronized
  subst hsz
  have hD := hD0.self (sz := s.heap.size)
  have hA : ∀ z : Nat, s.heap.size ≤ z → va_A (wM q u) s.heap.size z := fun z h => Or.inr h
  have hS : va_S (va_A (wM q u) s.heap.size) s.heap s.heap [] := va_S.rf
  have hl := lv_entry ([Value.ref (ma_o q)]) (n := 4) (Nat.le_of_ble_eq_true rfl)
  rw [lg_entry_eq]
  generalize (lg_sl ([Value.ref (ma_o q)]) ++ List.replicate (4 - (lg_sl ([Value.ref (ma_o q)])).length) Slot.unset).toArray = ls at hl ⊢
  have hl : lv_has ls 4 [(0, .ref (ma_o q))] := hl
  obtain ⟨k1, k2, k3, k4, k5, k6, k7, k8, k9, k10, k11⟩ := id hu
  refine lv_aload_n hx hb d_M_safe_0 rfl (lv_at hl 0 rfl) ?_
  refine lv_iconst (v := nI 0) hx hb d_M_safe_1 (by decide) ?_
  refine va_put (D := (dC, dI)) (ci := 4) (v := .int (nI 0)) (ty := .int) (C := "SeatProofsModel") (T := F_M) (N := 20) hx hb hts (iu_M _) t_M t_M_ok n_M hown hK hP hD hS 0 rfl rfl 18 (by decide) (hts _ (List.mem_cons_of_mem _ iw_458)) (fun _ h9 => h9) rfl (by decide +kernel) rfl rfl (Nat.le_of_ble_eq_true rfl) d_M_safe_2 (fun H locs hP hD hS => ?_)
  have hP : va_P (dC, dI) vwCl (wMx q (m_liq u) (m_lev u) (m_nS u) (m_fa u) (m_fb u) (m_seat u) (m_op u) (m_un u) (m_nV u) (m_may u) (m_nR u) (m_rf u) (m_rl u) (m_rw u) (m_rc u) (m_cul u) (m_gu u) (m_te u) 0 (m_wet u)) H := hP
  have hD : va_D (va_A (wM q u) s.heap.size) (wMx q (m_liq u) (m_lev u) (m_nS u) (m_fa u) (m_fb u) (m_seat u) (m_op u) (m_un u) (m_nV u) (m_may u) (m_nR u) (m_rf u) (m_rl u) (m_rw u) (m_rc u) (m_cul u) (m_gu u) (m_te u) 0 (m_wet u)) := hD
  refine lv_aload_n hx hb d_M_safe_5 rfl (lv_at hl 0 rfl) ?_
  refine lv_iconst (v := nI 0) hx hb d_M_safe_6 (by decide) ?_
  refine va_put (D := (dC, dI)) (ci := 4) (v := .int (nI 0)) (ty := .int) (C := "SeatProofsModel") (T := F_M) (N := 20) hx hb hts (iu_M _) t_M t_M_ok n_M hown hK hP hD hS 0 rfl rfl 10 (by decide) (hts _ (List.mem_cons_of_mem _ iw_450)) (fun _ h9 => h9) rfl (by decide +kernel) rfl rfl (Nat.le_of_ble_eq_true rfl) d_M_safe_7 (fun H locs hP hD hS => ?_)
  have hP : va_P (dC, dI) vwCl (wMx q (m_liq u) (m_lev u) (m_nS u) (m_fa u) (m_fb u) (m_seat u) (m_op u) (m_un u) (m_nV u) (m_may u) 0 (m_rf u) (m_rl u) (m_rw u) (m_rc u) (m_cul u) (m_gu u) (m_te u) 0 (m_wet u)) H := hP
  have hD : va_D (va_A (wM q u) s.heap.size) (wMx q (m_liq u) (m_lev u) (m_nS u) (m_fa u) (m_fb u) (m_seat u) (m_op u) (m_un u) (m_nV u) (m_may u) 0 (m_rf u) (m_rl u) (m_rw u) (m_rc u) (m_cul u) (m_gu u) (m_te u) 0 (m_wet u)) := hD
  refine lv_aload_n hx hb d_M_safe_10 rfl (lv_at hl 0 rfl) ?_
  refine lv_iconst (v := nI 0) hx hb d_M_safe_11 (by decide) ?_
  refine tp_i (bI false) (by decide) ?_
  refine va_put (D := (dC, dI)) (ci := 4) (v := .int (bI false)) (ty := .boolean) (C := "SeatProofsModel") (T := F_M) (N := 20) hx hb hts (iu_M _) t_M t_M_ok n_M hown hK hP hD hS 0 rfl rfl 16 (by decide) (hts _ (List.mem_cons_of_mem _ iw_456)) (fun _ h9 => h9) rfl (by decide +kernel) (bI_narrow _) (bI_fits _) (Nat.le_of_ble_eq_true rfl) d_M_safe_12 (fun H locs hP hD hS => ?_)
  have hP : va_P (dC, dI) vwCl (wMx q (m_liq u) (m_lev u) (m_nS u) (m_fa u) (m_fb u) (m_seat u) (m_op u) (m_un u) (m_nV u) (m_may u) 0 (m_rf u) (m_rl u) (m_rw u) (m_rc u) (m_cul u) false (m_te u) 0 (m_wet u)) H := hP
  have hD : va_D (va_A (wM q u) s.heap.size) (wMx q (m_liq u) (m_lev u) (m_nS u) (m_fa u) (m_fb u) (m_seat u) (m_op u) (m_un u) (m_nV u) (m_may u) 0 (m_rf u) (m_rl u) (m_rw u) (m_rc u) (m_cul u) false (m_te u) 0 (m_wet u)) := hD
  refine lv_iconst (v := nI 0) hx hb d_M_safe_15 (by decide) ?_
  refine lv_istore_n (lv' := [(1, .int (nI 0)), (0, .ref (ma_o q))]) hx hb d_M_safe_16 rfl hl (by decide) rfl (fun ls hl => ?_)
  have L17 : ∀ (n17 : Nat) (f : Nat) (n : Nat) (g1 : Nat → Nat) (g2 : Nat → Nat) (g3 : Nat → Int64) (g4 : Nat → Int64) (w : Nat → Bool) (gu : Bool) (cu : Nat → Nat), (f ≤ m_nV u + 1) → (RT (mTh u) (mF u) (fun a x => mC u (mF u a x) x) f 1 n g1 g2 g3 g4) → (∀ j, g1 j < 65) → (∀ j, g2 j < 16) → (mG u f gu cu) → (n ≤ 975) → m_nV u + 1 - f < n17 → ∀ (H : Heap) (locs : List Loc) (ls : Array Slot), va_P (dC, dI) vwCl (wMx q (m_liq u) (m_lev u) (m_nS u) (m_fa u) (m_fb u) (m_seat u) (m_op u) (m_un u) (m_nV u) (m_may u) n g1 g2 g3 g4 cu gu (m_te u) 0 w) H → va_D (va_A (wM q u) s.heap.size) (wMx q (m_liq u) (m_lev u) (m_nS u) (m_fa u) (m_fb u) (m_seat u) (m_op u) (m_un u) (m_nV u) (m_may u) n g1 g2 g3 g4 cu gu (m_te u) 0 w) → va_S (va_A (wM q u) s.heap.size) s.heap H locs → lv_has ls 4 [(0, .ref (ma_o q)), (1, .int (nI f))] → W p l e (headSpec w_M_safe ({ frames := 2, cells := 0, slots := 0, locals := 53 })).room s m [Value.ref (ma_o q)].toArray below meth c H locs 0 0 (MQ below (va_Qi (fun (r : Int32) (z : MSt) => (r = nI 1 ∧ (∀ x, x < m_nV u + 1 → mNo u x) ∧ ∃ (n : Nat) (g1 g2 : Nat → Nat) (g3 g4 : Nat → Int64) (w : Nat → Bool), RT (mTh u) (mF u) (fun a x => mC u (mF u a x) x) (m_nV u + 1) 1 n g1 g2 g3 g4 ∧ n ≤ 975 ∧ (∀ j, g1 j < 65) ∧ (∀ j, g2 j < 16) ∧ z = m_s_wet (m_s_th (m_s_gu (m_s_cul (m_s_rc (m_s_rw (m_s_rl (m_s_rf (m_s_nR u n) g1) g2) g3) g4) (m_cul u)) false) 0) w) ∨ (r = nI 0 ∧ ∃ f t a b, f ≤ m_nV u ∧ (∀ x, x < f → mNo u x) ∧ mCul u f t a b ∧ ∃ (g1 g2 : Nat → Nat) (g3 g4 : Nat → Int64) (w : Nat → Bool), (∀ j, g1 j < 65) ∧ (∀ j, g2 j < 16) ∧ z = m_s_wet (m_s_th (m_s_gu (m_s_cul (m_s_rc (m_s_rw (m_s_rl (m_s_rf (m_s_nR u 0) g1) g2) g3) g4) (cu4 (m_cul u) f t a b)) true) 0) w)) (qB (dC, dI) vwCl (tM q) (wM q u) s.heap.size (wM q)) (va_A (wM q u) s.heap.size)) [Value.ref (ma_o q)].toArray s 0 0 (va_A (wM q u) s.heap.size)) (F0 m 17 ls []) := by
    intro n17
    induction n17 with
    | zero => intro f n g1 g2 g3 g4 w gu cu hf17 hR17 hq1 hq2 hG17 hn17 hm; exact absurd hm (Nat.not_lt_zero _)
    | succ n17 ih17 =>
      intro f n g1 g2 g3 g4 w gu cu hf17 hR17 hq1 hq2 hG17 hn17 hm17 H locs ls hP hD hS hl
      refine lv_iload_n hx hb d_M_safe_17 rfl (lv_at hl 1 rfl) ?_
      refine lv_aload_n hx hb d_M_safe_18 rfl (lv_at hl 0 rfl) ?_
      refine va_get (D := (dC, dI)) (ci := 4) (v := .int (nI (m_nV u))) (C := "SeatProofsModel") (T := F_M) (N := 20) hx hb hts (iu_M _) hown hK hP 0 rfl rfl 8 (by decide) (hts _ (List.mem_cons_of_mem _ iw_448)) (fun _ h9 => h9) rfl d_M_safe_19 ?_
      refine nv_gt (tgt := 143) hx hb d_M_safe_22 (by decide) (by omega) (by omega) (fun c_1 => ?_) (fun c_1 => ?_)
      · refine lv_aload_n hx hb d_M_safe_143 rfl (lv_at hl 0 rfl) ?_
        refine lv_aload_n hx hb d_M_safe_144 rfl (lv_at hl 0 rfl) ?_
        refine va_get (D := (dC, dI)) (ci := 4) (v := .int (bI gu)) (C := "SeatProofsModel") (T := F_M) (N := 20) hx hb hts (iu_M _) hown hK hP 0 rfl rfl 16 (by decide) (hts _ (List.mem_cons_of_mem _ iw_456)) (fun _ h9 => h9) rfl d_M_safe_145 ?_
        refine b0_eq (tgt := 155) hx hb d_M_safe_148 (by decide) (fun c_2 => ?_) (fun c_2 => ?_)
        · refine lv_aload_n hx hb d_M_safe_155 rfl (lv_at hl 0 rfl) ?_
          refine va_get (D := (dC, dI)) (ci := 4) (v := .int (nI n)) (C := "SeatProofsModel") (T := F_M) (N := 20) hx hb hts (iu_M _) hown hK hP 0 rfl rfl 10 (by decide) (hts _ (List.mem_cons_of_mem _ iw_450)) (fun _ h9 => h9) rfl d_M_safe_156 ?_
          refine va_put (D := (dC, dI)) (ci := 4) (v := .int (nI n)) (ty := .int) (C := "SeatProofsModel") (T := F_M) (N := 20) hx hb hts (iu_M _) t_M t_M_ok n_M hown hK hP hD hS 0 rfl rfl 10 (by decide) (hts _ (List.mem_cons_of_mem _ iw_450)) (fun _ h9 => h9) rfl (by decide +kernel) rfl rfl (Nat.le_of_ble_eq_true rfl) d_M_safe_159 (fun H locs hP hD hS => ?_)
          have hP : va_P (dC, dI) vwCl (wMx q (m_liq u) (m_lev u) (m_nS u) (m_fa u) (m_fb u) (m_seat u) (m_op u) (m_un u) (m_nV u) (m_may u) n g1 g2 g3 g4 cu gu (m_te u) 0 w) H := hP
          have hD : va_D (va_A (wM q u) s.heap.size) (wMx q (m_liq u) (m_lev u) (m_nS u) (m_fa u) (m_fb u) (m_seat u) (m_op u) (m_un u) (m_nV u) (m_may u) n g1 g2 g3 g4 cu gu (m_te u) 0 w) := hD
          refine lv_aload_n hx hb d_M_safe_162 rfl (lv_at hl 0 rfl) ?_
          refine va_get (D := (dC, dI)) (ci := 4) (v := .int (bI gu)) (C := "SeatProofsModel") (T := F_M) (N := 20) hx hb hts (iu_M _) hown hK hP 0 rfl rfl 16 (by decide) (hts _ (List.mem_cons_of_mem _ iw_456)) (fun _ h9 => h9) rfl d_M_safe_163 ?_
          refine b0_eq (tgt := 173) hx hb d_M_safe_166 (by decide) (fun c_3 => ?_) (fun c_3 => ?_)
          · refine lv_iconst (v := nI 1) hx hb d_M_safe_173 (by decide) ?_
            exact W.iret hx hb hr (fun t9 ht9 hW9 => ⟨⟨_, (m_mk (m_liq u) (m_lev u) (m_nS u) (m_fa u) (m_fb u) (m_seat u) (m_op u) (m_un u) (m_nV u) (m_may u) n g1 g2 g3 g4 cu gu (m_te u) 0 w), rfl, (by
                rcases hG17 with ⟨-, rfl, hno⟩ | ⟨e, -⟩
                · exact Or.inl ⟨rfl, fun x hx => hno x (by omega), n, g1, g2, g3, g4, w, by rw [show m_nV u + 1 = f from by omega]; exact hR17, hn17, hq1, hq2, by rw [c_2]⟩
                · exact absurd (e.symm.trans c_2) (by decide)), by rw [ht9]; exact hP, va_K.moved hW9.alike hK, hD⟩, hS.F ht9⟩) hS.2.2 d_M_safe_174
          · exact absurd (c_3.symm.trans c_2) (by decide)
        · refine lv_iconst (v := nI 0) hx hb d_M_safe_151 (by decide) ?_
          refine lv_goto (tgt := 159) hx hb d_M_safe_152 (by decide) ?_
          refine va_put (D := (dC, dI)) (ci := 4) (v := .int (nI 0)) (ty := .int) (C := "SeatProofsModel") (T := F_M) (N := 20) hx hb hts (iu_M _) t_M t_M_ok n_M hown hK hP hD hS 0 rfl rfl 10 (by decide) (hts _ (List.mem_cons_of_mem _ iw_450)) (fun _ h9 => h9) rfl (by decide +kernel) rfl rfl (Nat.le_of_ble_eq_true rfl) d_M_safe_159 (fun H locs hP hD hS => ?_)
          have hP : va_P (dC, dI) vwCl (wMx q (m_liq u) (m_lev u) (m_nS u) (m_fa u) (m_fb u) (m_seat u) (m_op u) (m_un u) (m_nV u) (m_may u) 0 g1 g2 g3 g4 cu gu (m_te u) 0 w) H := hP
          have hD : va_D (va_A (wM q u) s.heap.size) (wMx q (m_liq u) (m_lev u) (m_nS u) (m_fa u) (m_fb u) (m_seat u) (m_op u) (m_un u) (m_nV u) (m_may u) 0 g1 g2 g3 g4 cu gu (m_te u) 0 w) := hD
          refine lv_aload_n hx hb d_M_safe_162 rfl (lv_at hl 0 rfl) ?_
          refine va_get (D := (dC, dI)) (ci := 4) (v := .int (bI gu)) (C := "SeatProofsModel") (T := F_M) (N := 20) hx hb hts (iu_M _) hown hK hP 0 rfl rfl 16 (by decide) (hts _ (List.mem_cons_of_mem _ iw_456)) (fun _ h9 => h9) rfl d_M_safe_163 ?_
          refine b0_eq (tgt := 173) hx hb d_M_safe_166 (by decide) (fun c_4 => ?_) (fun c_4 => ?_)
          · exact absurd (c_4.symm.trans c_2) (by decide)
          · refine lv_iconst (v := nI 0) hx hb d_M_safe_169 (by decide) ?_
            refine lv_goto (tgt := 174) hx hb d_M_safe_170 (by decide) ?_
            exact W.iret hx hb hr (fun t9 ht9 hW9 => ⟨⟨_, (m_mk (m_liq u) (m_lev u) (m_nS u) (m_fa u) (m_fb u) (m_seat u) (m_op u) (m_un u) (m_nV u) (m_may u) 0 g1 g2 g3 g4 cu gu (m_te u) 0 w), rfl, (by
                rcases hG17 with ⟨e, -⟩ | ⟨-, f0, t0, a0, c0, ef, h1, h2, rfl⟩
                · exact absurd (e.symm.trans c_2) (by decide)
                · exact Or.inr ⟨rfl, f0, t0, a0, c0, by omega, h1, h2, g1, g2, g3, g4, w, hq1, hq2, by rw [c_2]⟩), by rw [ht9]; exact hP, va_K.moved hW9.alike hK, hD⟩, hS.F ht9⟩) hS.2.2 d_M_safe_174
      · refine lv_aload_n hx hb d_M_safe_25 rfl (lv_at hl 0 rfl) ?_
        refine va_get (D := (dC, dI)) (ci := 4) (v := .int (bI gu)) (C := "SeatProofsModel") (T := F_M) (N := 20) hx hb hts (iu_M _) hown hK hP 0 rfl rfl 16 (by decide) (hts _ (List.mem_cons_of_mem _ iw_456)) (fun _ h9 => h9) rfl d_M_safe_26 ?_
        refine b0_ne (tgt := 143) hx hb d_M_safe_29 (by decide) (fun c_5 => ?_) (fun c_5 => ?_)
        · refine lv_aload_n hx hb d_M_safe_143 rfl (lv_at hl 0 rfl) ?_
          refine lv_aload_n hx hb d_M_safe_144 rfl (lv_at hl 0 rfl) ?_
          refine va_get (D := (dC, dI)) (ci := 4) (v := .int (bI gu)) (C := "SeatProofsModel") (T := F_M) (N := 20) hx hb hts (iu_M _) hown hK hP 0 rfl rfl 16 (by decide) (hts _ (List.mem_cons_of_mem _ iw_456)) (fun _ h9 => h9) rfl d_M_safe_145 ?_
          refine b0_eq (tgt := 155) hx hb d_M_safe_148 (by decide) (fun c_6 => ?_) (fun c_6 => ?_)
          · exact absurd (c_6.symm.trans c_5) (by decide)
          · refine lv_iconst (v := nI 0) hx hb d_M_safe_151 (by decide) ?_
            refine lv_goto (tgt := 159) hx hb d_M_safe_152 (by decide) ?_
            refine va_put (D := (dC, dI)) (ci := 4) (v := .int (nI 0)) (ty := .int) (C := "SeatProofsModel") (T := F_M) (N := 20) hx hb hts (iu_M _) t_M t_M_ok n_M hown hK hP hD hS 0 rfl rfl 10 (by decide) (hts _ (List.mem_cons_of_mem _ iw_450)) (fun _ h9 => h9) rfl (by decide +kernel) rfl rfl (Nat.le_of_ble_eq_true rfl) d_M_safe_159 (fun H locs hP hD hS => ?_)
            have hP : va_P (dC, dI) vwCl (wMx q (m_liq u) (m_lev u) (m_nS u) (m_fa u) (m_fb u) (m_seat u) (m_op u) (m_un u) (m_nV u) (m_may u) 0 g1 g2 g3 g4 cu gu (m_te u) 0 w) H := hP
            have hD : va_D (va_A (wM q u) s.heap.size) (wMx q (m_liq u) (m_lev u) (m_nS u) (m_fa u) (m_fb u) (m_seat u) (m_op u) (m_un u) (m_nV u) (m_may u) 0 g1 g2 g3 g4 cu gu (m_te u) 0 w) := hD
            refine lv_aload_n hx hb d_M_safe_162 rfl (lv_at hl 0 rfl) ?_
            refine va_get (D := (dC, dI)) (ci := 4) (v := .int (bI gu)) (C := "SeatProofsModel") (T := F_M) (N := 20) hx hb hts (iu_M _) hown hK hP 0 rfl rfl 16 (by decide) (hts _ (List.mem_cons_of_mem _ iw_456)) (fun _ h9 => h9) rfl d_M_safe_163 ?_
            refine b0_eq (tgt := 173) hx hb d_M_safe_166 (by decide) (fun c_7 => ?_) (fun c_7 => ?_)
            · exact absurd (c_7.symm.trans c_5) (by decide)
            · refine lv_iconst (v := nI 0) hx hb d_M_safe_169 (by decide) ?_
              refine lv_goto (tgt := 174) hx hb d_M_safe_170 (by decide) ?_
              exact W.iret hx hb hr (fun t9 ht9 hW9 => ⟨⟨_, (m_mk (m_liq u) (m_lev u) (m_nS u) (m_fa u) (m_fb u) (m_seat u) (m_op u) (m_un u) (m_nV u) (m_may u) 0 g1 g2 g3 g4 cu gu (m_te u) 0 w), rfl, (by
                  rcases hG17 with ⟨e, -⟩ | ⟨-, f0, t0, a0, c0, ef, h1, h2, rfl⟩
                  · exact absurd (e.symm.trans c_6) (by decide)
                  · exact Or.inr ⟨rfl, f0, t0, a0, c0, by omega, h1, h2, g1, g2, g3, g4, w, hq1, hq2, by rw [c_6]⟩), by rw [ht9]; exact hP, va_K.moved hW9.alike hK, hD⟩, hS.F ht9⟩) hS.2.2 d_M_safe_174
        · refine lv_aload_n hx hb d_M_safe_32 rfl (lv_at hl 0 rfl) ?_
          refine va_get (D := (dC, dI)) (ci := 4) (v := .int (nI n)) (C := "SeatProofsModel") (T := F_M) (N := 20) hx hb hts (iu_M _) hown hK hP 0 rfl rfl 10 (by decide) (hts _ (List.mem_cons_of_mem _ iw_450)) (fun _ h9 => h9) rfl d_M_safe_33 ?_
          refine lv_istore_n (lv' := [(2, .int (nI n)), (0, .ref (ma_o q)), (1, .int (nI f))]) hx hb d_M_safe_36 rfl hl (by decide) rfl (fun ls hl => ?_)
          refine lv_iconst (v := nI 1) hx hb d_M_safe_37 (by decide) ?_
          refine lv_istore_n (lv' := [(3, .int (nI 1)), (2, .int (nI n)), (0, .ref (ma_o q)), (1, .int (nI f))]) hx hb d_M_safe_38 rfl hl (by decide) rfl (fun ls hl => ?_)
          have L39 : ∀ (n39 : Nat) (l9 : Nat) (n2 : Nat) (p1 : Nat → Nat) (p2 : Nat → Nat) (p3 : Nat → Int64) (p4 : Nat → Int64) (w2 : Nat → Bool), (1 ≤ l9) → (l9 ≤ 16) → (RT (mTh u) (mF u) (fun a x => mC u (mF u a x) x) f l9 n2 p1 p2 p3 p4) → (∀ j, p1 j < 65) → (∀ j, p2 j < 16) → 16 - l9 < n39 → ∀ (H : Heap) (locs : List Loc) (ls : Array Slot), va_P (dC, dI) vwCl (wMx q (m_liq u) (m_lev u) (m_nS u) (m_fa u) (m_fb u) (m_seat u) (m_op u) (m_un u) (m_nV u) (m_may u) n2 p1 p2 p3 p4 cu gu (m_te u) 0 w2) H → va_D (va_A (wM q u) s.heap.size) (wMx q (m_liq u) (m_lev u) (m_nS u) (m_fa u) (m_fb u) (m_seat u) (m_op u) (m_un u) (m_nV u) (m_may u) n2 p1 p2 p3 p4 cu gu (m_te u) 0 w2) → va_S (va_A (wM q u) s.heap.size) s.heap H locs → lv_has ls 4 [(0, .ref (ma_o q)), (1, .int (nI f)), (2, .int (nI n)), (3, .int (nI l9))] → W p l e (headSpec w_M_safe ({ frames := 2, cells := 0, slots := 0, locals := 53 })).room s m [Value.ref (ma_o q)].toArray below meth c H locs 0 0 (MQ below (va_Qi (fun (r : Int32) (z : MSt) => (r = nI 1 ∧ (∀ x, x < m_nV u + 1 → mNo u x) ∧ ∃ (n : Nat) (g1 g2 : Nat → Nat) (g3 g4 : Nat → Int64) (w : Nat → Bool), RT (mTh u) (mF u) (fun a x => mC u (mF u a x) x) (m_nV u + 1) 1 n g1 g2 g3 g4 ∧ n ≤ 975 ∧ (∀ j, g1 j < 65) ∧ (∀ j, g2 j < 16) ∧ z = m_s_wet (m_s_th (m_s_gu (m_s_cul (m_s_rc (m_s_rw (m_s_rl (m_s_rf (m_s_nR u n) g1) g2) g3) g4) (m_cul u)) false) 0) w) ∨ (r = nI 0 ∧ ∃ f t a b, f ≤ m_nV u ∧ (∀ x, x < f → mNo u x) ∧ mCul u f t a b ∧ ∃ (g1 g2 : Nat → Nat) (g3 g4 : Nat → Int64) (w : Nat → Bool), (∀ j, g1 j < 65) ∧ (∀ j, g2 j < 16) ∧ z = m_s_wet (m_s_th (m_s_gu (m_s_cul (m_s_rc (m_s_rw (m_s_rl (m_s_rf (m_s_nR u 0) g1) g2) g3) g4) (cu4 (m_cul u) f t a b)) true) 0) w)) (qB (dC, dI) vwCl (tM q) (wM q u) s.heap.size (wM q)) (va_A (wM q u) s.heap.size)) [Value.ref (ma_o q)].toArray s 0 0 (va_A (wM q u) s.heap.size)) (F0 m 39 ls []) := by
            intro n39
            induction n39 with
            | zero => intro l9 n2 p1 p2 p3 p4 w2 hl39 hl39b hR39 hp1 hp2 hm; exact absurd hm (Nat.not_lt_zero _)
            | succ n39 ih39 =>
              intro l9 n2 p1 p2 p3 p4 w2 hl39 hl39b hR39 hp1 hp2 hm39 H locs ls hP hD hS hl
              refine lv_iload_n hx hb d_M_safe_39 rfl (lv_at hl 3 rfl) ?_
              refine lv_bipush (v := nI 16) hx hb d_M_safe_40 (by decide) ?_
              refine nv_ge (tgt := 127) hx hb d_M_safe_42 (by decide) (by omega) (by omega) (fun c_8 => ?_) (fun c_8 => ?_)
              · refine lv_aload_n hx hb d_M_safe_127 rfl (lv_at hl 0 rfl) ?_
                refine lv_aload_n hx hb d_M_safe_128 rfl (lv_at hl 0 rfl) ?_
                refine lv_iload_n hx hb d_M_safe_129 rfl (lv_at hl 2 rfl) ?_
                refine lv_iload_n hx hb d_M_safe_130 rfl (lv_at hl 1 rfl) ?_
                refine cq_i (va_runV (As := [.int (nI n), .int (nI f)]) (rest := [.ref (ma_o q)]) ⟨hx, hb, hml, hown, hts⟩ (c_M_meet l dC dI q (m_mk (m_liq u) (m_lev u) (m_nS u) (m_fa u) (m_fb u) (m_seat u) (m_op u) (m_un u) (m_nV u) (m_may u) n2 p1 p2 p3 p4 cu gu (m_te u) 0 w2) _ n f (MOk_safe hu (RT_le hR39 (mTh_0 u) (by omega) (by omega)) hp1 hp2) (by show n ≤ n2; rw [hR17.1, hR39.1]; have := pcn_mono (g := mTh u) (show 1 ≤ l9 from hl39); omega)) (cwV 2 hts (good_up (good_V iw_545 iw_547 ip_14 iw_5 gg_M_meet)) rfl rfl rfl (by decide +kernel) ⟨Nat.le_of_ble_eq_true rfl, Nat.le_of_ble_eq_true rfl⟩) (pv_Q [.int (nI n), .int (nI f)] hN hK hP hD (ci := 4) (q0 := 0) rfl rfl) rfl rfl hl.1 rfl (lv_room (Nat.le_of_ble_eq_true rfl)) d_M_safe_131 ⟨Nat.le_of_ble_eq_true rfl, Nat.le_of_ble_eq_true rfl⟩) hD hS hA (fun r_11 z_10 H locs hr_9 hP hD hS => ?_)
                obtain ⟨b_12, cu_13, rfl, rfl, hr_9⟩ := hr_9
                have hP : va_P (dC, dI) vwCl (wMx q (m_liq u) (m_lev u) (m_nS u) (m_fa u) (m_fb u) (m_seat u) (m_op u) (m_un u) (m_nV u) (m_may u) n2 p1 p2 p3 p4 cu_13 gu (m_te u) 0 w2) H := hP
                have hD : va_D (va_A (wM q u) s.heap.size) (wMx q (m_liq u) (m_lev u) (m_nS u) (m_fa u) (m_fb u) (m_seat u) (m_op u) (m_un u) (m_nV u) (m_may u) n2 p1 p2 p3 p4 cu_13 gu (m_te u) 0 w2) := hD
                refine va_put (D := (dC, dI)) (ci := 4) (v := .int (bI b_12)) (ty := .boolean) (C := "SeatProofsModel") (T := F_M) (N := 20) hx hb hts (iu_M _) t_M t_M_ok n_M hown hK hP hD hS 0 rfl rfl 16 (by decide) (hts _ (List.mem_cons_of_mem _ iw_456)) (fun _ h9 => h9) rfl (by decide +kernel) (bI_narrow _) (bI_fits _) (Nat.le_of_ble_eq_true rfl) d_M_safe_134 (fun H locs hP hD hS => ?_)
                have hP : va_P (dC, dI) vwCl (wMx q (m_liq u) (m_lev u) (m_nS u) (m_fa u) (m_fb u) (m_seat u) (m_op u) (m_un u) (m_nV u) (m_may u) n2 p1 p2 p3 p4 cu_13 b_12 (m_te u) 0 w2) H := hP
                have hD : va_D (va_A (wM q u) s.heap.size) (wMx q (m_liq u) (m_lev u) (m_nS u) (m_fa u) (m_fb u) (m_seat u) (m_op u) (m_un u) (m_nV u) (m_may u) n2 p1 p2 p3 p4 cu_13 b_12 (m_te u) 0 w2) := hD
                refine lv_iinc (v := nI (f + 1)) (lv' := [(1, .int (nI (f + 1))), (0, .ref (ma_o q)), (2, .int (nI n)), (3, .int (nI l9))]) hx hb d_M_safe_137 hl (k := 1) rfl (nI_1 _) (by decide) rfl (fun ls hl => ?_)
                refine lv_goto (tgt := 17) hx hb d_M_safe_140 (by decide) ?_
                exact ih17 (f + 1) n2 p1 p2 p3 p4 w2 b_12 cu_13 (by omega) (RT_n (show RT (mTh u) (mF u) (fun a x => mC u (mF u a x) x) f 16 n2 p1 p2 p3 p4 from by rw [show 16 = l9 from by omega]; exact hR39) (mTh_0 u)) hp1 hp2 (mG_step (U := (m_mk (m_liq u) (m_lev u) (m_nS u) (m_fa u) (m_fb u) (m_seat u) (m_op u) (m_un u) (m_nV u) (m_may u) n2 p1 p2 p3 p4 cu gu (m_te u) 0 w2)) hG17 c_5 hR17 (show RT (mTh u) (mF u) (fun a x => mC u (mF u a x) x) f 16 n2 p1 p2 p3 p4 from by rw [show 16 = l9 from by omega]; exact hR39) rfl rfl rfl rfl rfl rfl hr_9) (RT_le hR39 (mTh_0 u) (by omega) (by omega)) (by omega) _ _ ls hP hD hS (lv_sub hl [1, 0] rfl)
              · refine lv_aload_n hx hb d_M_safe_45 rfl (lv_at hl 0 rfl) ?_
                refine lv_iload_n hx hb d_M_safe_46 rfl (lv_at hl 3 rfl) ?_
                refine vp_callSi (va_Run.run (va_runV (As := [.int (nI l9)]) (rest := []) ⟨hx, hb, hml, hown, hts⟩ (c_M_isThere l dC dI q (m_mk (m_liq u) (m_lev u) (m_nS u) (m_fa u) (m_fb u) (m_seat u) (m_op u) (m_un u) (m_nV u) (m_may u) n2 p1 p2 p3 p4 cu gu (m_te u) 0 w2) l9 (MOk_safe hu (RT_le hR39 (mTh_0 u) (by omega) (by omega)) hp1 hp2) (by omega)) (cwV 1 hts (good_up (good_V iw_526 iw_528 ip_10 iw_5 gg_M_isThere)) rfl rfl rfl (by decide +kernel) ⟨Nat.le_of_ble_eq_true rfl, Nat.le_of_ble_eq_true rfl⟩) (pv_S [.int (nI l9)] hN hK hP (ci := 4) (q0 := 0) rfl rfl) rfl rfl hl.1 rfl (lv_room (Nat.le_of_ble_eq_true rfl)) d_M_safe_47 ⟨Nat.le_of_ble_eq_true rfl, Nat.le_of_ble_eq_true rfl⟩)) (fun r_14 hr_14 => ?_)
                subst hr_14
                refine tp_i (bI (mTh u l9)) (congrArg bI (mTh_cg rfl rfl)) ?_
                refine b0_eq (tgt := 121) hx hb d_M_safe_50 (by decide) (fun c_15 => ?_) (fun c_15 => ?_)
                · refine lv_iinc (v := nI (l9 + 1)) (lv' := [(3, .int (nI (l9 + 1))), (0, .ref (ma_o q)), (1, .int (nI f)), (2, .int (nI n))]) hx hb d_M_safe_121 hl (k := 3) rfl (nI_1 _) (by decide) rfl (fun ls hl => ?_)
                  refine lv_goto (tgt := 39) hx hb d_M_safe_124 (by decide) ?_
                  exact ih39 (l9 + 1) n2 p1 p2 p3 p4 w2 (by omega) (by omega) (RT_f hR39 c_15) hp1 hp2 (by omega) _ _ ls hP hD hS (lv_sub hl [1, 2, 3, 0] rfl)
                · refine lv_aload_n hx hb d_M_safe_53 rfl (lv_at hl 0 rfl) ?_
                  refine va_get (D := (dC, dI)) (ci := 4) (v := .ref (ma_rf q)) (C := "SeatProofsModel") (T := F_M) (N := 20) hx hb hts (iu_M _) hown hK hP 0 rfl rfl 11 (by decide) (hts _ (List.mem_cons_of_mem _ iw_451)) (fun _ h9 => h9) rfl d_M_safe_54 ?_
                  refine lv_aload_n hx hb d_M_safe_57 rfl (lv_at hl 0 rfl) ?_
                  refine va_get (D := (dC, dI)) (ci := 4) (v := .int (nI n2)) (C := "SeatProofsModel") (T := F_M) (N := 20) hx hb hts (iu_M _) hown hK hP 0 rfl rfl 10 (by decide) (hts _ (List.mem_cons_of_mem _ iw_450)) (fun _ h9 => h9) rfl d_M_safe_58 ?_
                  refine lv_iload_n hx hb d_M_safe_61 rfl (lv_at hl 1 rfl) ?_
                  refine st_i hx hb hK hP hD hS 9 0 rfl rfl (fun j9 => nI (va_up p1 n2 f j9)) (RT_lt hR39 (mTh_0 u) (by omega) hl39 (by omega)) (by decide) (upd_nI _ _ _) d_M_safe_62 (fun H locs hP hD hS => ?_)
                  have hP : va_P (dC, dI) vwCl (wMx q (m_liq u) (m_lev u) (m_nS u) (m_fa u) (m_fb u) (m_seat u) (m_op u) (m_un u) (m_nV u) (m_may u) n2 (va_up p1 n2 f) p2 p3 p4 cu gu (m_te u) 0 w2) H := hP
                  have hD : va_D (va_A (wM q u) s.heap.size) (wMx q (m_liq u) (m_lev u) (m_nS u) (m_fa u) (m_fb u) (m_seat u) (m_op u) (m_un u) (m_nV u) (m_may u) n2 (va_up p1 n2 f) p2 p3 p4 cu gu (m_te u) 0 w2) := hD
                  refine lv_aload_n hx hb d_M_safe_63 rfl (lv_at hl 0 rfl) ?_
                  refine va_get (D := (dC, dI)) (ci := 4) (v := .ref (ma_rl q)) (C := "SeatProofsModel") (T := F_M) (N := 20) hx hb hts (iu_M _) hown hK hP 0 rfl rfl 12 (by decide) (hts _ (List.mem_cons_of_mem _ iw_452)) (fun _ h9 => h9) rfl d_M_safe_64 ?_
                  refine lv_aload_n hx hb d_M_safe_67 rfl (lv_at hl 0 rfl) ?_
                  refine va_get (D := (dC, dI)) (ci := 4) (v := .int (nI n2)) (C := "SeatProofsModel") (T := F_M) (N := 20) hx hb hts (iu_M _) hown hK hP 0 rfl rfl 10 (by decide) (hts _ (List.mem_cons_of_mem _ iw_450)) (fun _ h9 => h9) rfl d_M_safe_68 ?_
                  refine lv_iload_n hx hb d_M_safe_71 rfl (lv_at hl 3 rfl) ?_
                  refine st_i hx hb hK hP hD hS 10 0 rfl rfl (fun j9 => nI (va_up p2 n2 l9 j9)) (RT_lt hR39 (mTh_0 u) (by omega) hl39 (by omega)) (by decide) (upd_nI _ _ _) d_M_safe_72 (fun H locs hP hD hS => ?_)
                  have hP : va_P (dC, dI) vwCl (wMx q (m_liq u) (m_lev u) (m_nS u) (m_fa u) (m_fb u) (m_seat u) (m_op u) (m_un u) (m_nV u) (m_may u) n2 (va_up p1 n2 f) (va_up p2 n2 l9) p3 p4 cu gu (m_te u) 0 w2) H := hP
                  have hD : va_D (va_A (wM q u) s.heap.size) (wMx q (m_liq u) (m_lev u) (m_nS u) (m_fa u) (m_fb u) (m_seat u) (m_op u) (m_un u) (m_nV u) (m_may u) n2 (va_up p1 n2 f) (va_up p2 n2 l9) p3 p4 cu gu (m_te u) 0 w2) := hD
                  refine lv_aload_n hx hb d_M_safe_73 rfl (lv_at hl 0 rfl) ?_
                  refine va_get (D := (dC, dI)) (ci := 4) (v := .ref (ma_rw q)) (C := "SeatProofsModel") (T := F_M) (N := 20) hx hb hts (iu_M _) hown hK hP 0 rfl rfl 13 (by decide) (hts _ (List.mem_cons_of_mem _ iw_453)) (fun _ h9 => h9) rfl d_M_safe_74 ?_
                  refine lv_aload_n hx hb d_M_safe_77 rfl (lv_at hl 0 rfl) ?_
                  refine va_get (D := (dC, dI)) (ci := 4) (v := .int (nI n2)) (C := "SeatProofsModel") (T := F_M) (N := 20) hx hb hts (iu_M _) hown hK hP 0 rfl rfl 10 (by decide) (hts _ (List.mem_cons_of_mem _ iw_450)) (fun _ h9 => h9) rfl d_M_safe_78 ?_
                  refine lv_aload_n hx hb d_M_safe_81 rfl (lv_at hl 0 rfl) ?_
                  refine lv_iload_n hx hb d_M_safe_82 rfl (lv_at hl 3 rfl) ?_
                  refine lv_iload_n hx hb d_M_safe_83 rfl (lv_at hl 1 rfl) ?_
                  refine cq_l (va_runV (As := [.int (nI l9), .int (nI f)]) (rest := [.int (nI n2), .ref (ma_rw q)]) ⟨hx, hb, hml, hown, hts⟩ (c_M_flood l dC dI q (m_mk (m_liq u) (m_lev u) (m_nS u) (m_fa u) (m_fb u) (m_seat u) (m_op u) (m_un u) (m_nV u) (m_may u) n2 (va_up p1 n2 f) (va_up p2 n2 l9) p3 p4 cu gu (m_te u) 0 w2) _ l9 f (MOk_safe hu (Nat.le_of_lt (RT_lt hR39 (mTh_0 u) (by omega) hl39 (by omega))) (up_bd hp1 (by omega)) (up_bd hp2 (by omega))) (by omega) (by omega)) (cwV 2 hts (good_up (good_V iw_530 iw_532 ip_11 iw_5 gg_M_flood)) rfl rfl rfl (by decide +kernel) ⟨Nat.le_of_ble_eq_true rfl, Nat.le_of_ble_eq_true rfl⟩) (pv_Q [.int (nI l9), .int (nI f)] hN hK hP hD (ci := 4) (q0 := 0) rfl rfl) rfl rfl hl.1 rfl (lv_room (Nat.le_of_ble_eq_true rfl)) d_M_safe_84 ⟨Nat.le_of_ble_eq_true rfl, Nat.le_of_ble_eq_true rfl⟩) hD hS hA (fun r_18 z_17 H locs hr_16 hP hD hS => ?_)
                  obtain ⟨w_19, rfl, rfl⟩ := hr_16
                  have hP : va_P (dC, dI) vwCl (wMx q (m_liq u) (m_lev u) (m_nS u) (m_fa u) (m_fb u) (m_seat u) (m_op u) (m_un u) (m_nV u) (m_may u) n2 (va_up p1 n2 f) (va_up p2 n2 l9) p3 p4 cu gu (m_te u) 0 w_19) H := hP
                  have hD : va_D (va_A (wM q u) s.heap.size) (wMx q (m_liq u) (m_lev u) (m_nS u) (m_fa u) (m_fb u) (m_seat u) (m_op u) (m_un u) (m_nV u) (m_may u) n2 (va_up p1 n2 f) (va_up p2 n2 l9) p3 p4 cu gu (m_te u) 0 w_19) := hD
                  refine tp_l (mF u l9 f) (mF_cg rfl rfl rfl rfl rfl rfl rfl rfl rfl) ?_
                  refine st_l hx hb hK hP hD hS 11 1 rfl rfl (va_up p3 n2 (mF u l9 f)) (RT_lt hR39 (mTh_0 u) (by omega) hl39 (by omega)) (by decide) (updL_up _ _ _) d_M_safe_87 (fun H locs hP hD hS => ?_)
                  have hP : va_P (dC, dI) vwCl (wMx q (m_liq u) (m_lev u) (m_nS u) (m_fa u) (m_fb u) (m_seat u) (m_op u) (m_un u) (m_nV u) (m_may u) n2 (va_up p1 n2 f) (va_up p2 n2 l9) (va_up p3 n2 (mF u l9 f)) p4 cu gu (m_te u) 0 w_19) H := hP
                  have hD : va_D (va_A (wM q u) s.heap.size) (wMx q (m_liq u) (m_lev u) (m_nS u) (m_fa u) (m_fb u) (m_seat u) (m_op u) (m_un u) (m_nV u) (m_may u) n2 (va_up p1 n2 f) (va_up p2 n2 l9) (va_up p3 n2 (mF u l9 f)) p4 cu gu (m_te u) 0 w_19) := hD
                  refine lv_aload_n hx hb d_M_safe_88 rfl (lv_at hl 0 rfl) ?_
                  refine va_get (D := (dC, dI)) (ci := 4) (v := .ref (ma_rc q)) (C := "SeatProofsModel") (T := F_M) (N := 20) hx hb hts (iu_M _) hown hK hP 0 rfl rfl 14 (by decide) (hts _ (List.mem_cons_of_mem _ iw_454)) (fun _ h9 => h9) rfl d_M_safe_89 ?_
                  refine lv_aload_n hx hb d_M_safe_92 rfl (lv_at hl 0 rfl) ?_
                  refine va_get (D := (dC, dI)) (ci := 4) (v := .int (nI n2)) (C := "SeatProofsModel") (T := F_M) (N := 20) hx hb hts (iu_M _) hown hK hP 0 rfl rfl 10 (by decide) (hts _ (List.mem_cons_of_mem _ iw_450)) (fun _ h9 => h9) rfl d_M_safe_93 ?_
                  refine lv_aload_n hx hb d_M_safe_96 rfl (lv_at hl 0 rfl) ?_
                  refine lv_aload_n hx hb d_M_safe_97 rfl (lv_at hl 0 rfl) ?_
                  refine va_get (D := (dC, dI)) (ci := 4) (v := .ref (ma_rw q)) (C := "SeatProofsModel") (T := F_M) (N := 20) hx hb hts (iu_M _) hown hK hP 0 rfl rfl 13 (by decide) (hts _ (List.mem_cons_of_mem _ iw_453)) (fun _ h9 => h9) rfl d_M_safe_98 ?_
                  refine lv_aload_n hx hb d_M_safe_101 rfl (lv_at hl 0 rfl) ?_
                  refine va_get (D := (dC, dI)) (ci := 4) (v := .int (nI n2)) (C := "SeatProofsModel") (T := F_M) (N := 20) hx hb hts (iu_M _) hown hK hP 0 rfl rfl 10 (by decide) (hts _ (List.mem_cons_of_mem _ iw_450)) (fun _ h9 => h9) rfl d_M_safe_102 ?_
                  refine ld_l hx hb hK hP 11 1 rfl rfl (mF u l9 f) (RT_lt hR39 (mTh_0 u) (by omega) hl39 (by omega)) (by decide) (va_up_self _ _ _) d_M_safe_105 ?_
                  refine lv_iload_n hx hb d_M_safe_106 rfl (lv_at hl 1 rfl) ?_
                  refine vp_callSl (va_Run.run (va_runV (As := [.long (mF u l9 f), .int (nI f)]) (rest := [.int (nI n2), .ref (ma_rc q)]) ⟨hx, hb, hml, hown, hts⟩ (c_M_cut l dC dI q (m_mk (m_liq u) (m_lev u) (m_nS u) (m_fa u) (m_fb u) (m_seat u) (m_op u) (m_un u) (m_nV u) (m_may u) n2 (va_up p1 n2 f) (va_up p2 n2 l9) (va_up p3 n2 (mF u l9 f)) p4 cu gu (m_te u) 0 w_19) (mF u l9 f) f (MOk_safe hu (Nat.le_of_lt (RT_lt hR39 (mTh_0 u) (by omega) hl39 (by omega))) (up_bd hp1 (by omega)) (up_bd hp2 (by omega))) (by omega)) (cwV 2 hts (good_up (good_V iw_538 iw_540 ip_13 iw_5 gg_M_cut)) rfl rfl rfl (by decide +kernel) ⟨Nat.le_of_ble_eq_true rfl, Nat.le_of_ble_eq_true rfl⟩) (pv_S [.long (mF u l9 f), .int (nI f)] hN hK hP (ci := 4) (q0 := 0) rfl rfl) rfl rfl hl.1 rfl (lv_room (Nat.le_of_ble_eq_true rfl)) d_M_safe_107 ⟨Nat.le_of_ble_eq_true rfl, Nat.le_of_ble_eq_true rfl⟩)) (fun r_20 hr_20 => ?_)
                  subst hr_20
                  refine tp_l (mC u (mF u l9 f) f) (mC_cg rfl rfl rfl rfl rfl rfl rfl) ?_
                  refine st_l hx hb hK hP hD hS 12 1 rfl rfl (va_up p4 n2 (mC u (mF u l9 f) f)) (RT_lt hR39 (mTh_0 u) (by omega) hl39 (by omega)) (by decide) (updL_up _ _ _) d_M_safe_110 (fun H locs hP hD hS => ?_)
                  have hP : va_P (dC, dI) vwCl (wMx q (m_liq u) (m_lev u) (m_nS u) (m_fa u) (m_fb u) (m_seat u) (m_op u) (m_un u) (m_nV u) (m_may u) n2 (va_up p1 n2 f) (va_up p2 n2 l9) (va_up p3 n2 (mF u l9 f)) (va_up p4 n2 (mC u (mF u l9 f) f)) cu gu (m_te u) 0 w_19) H := hP
                  have hD : va_D (va_A (wM q u) s.heap.size) (wMx q (m_liq u) (m_lev u) (m_nS u) (m_fa u) (m_fb u) (m_seat u) (m_op u) (m_un u) (m_nV u) (m_may u) n2 (va_up p1 n2 f) (va_up p2 n2 l9) (va_up p3 n2 (mF u l9 f)) (va_up p4 n2 (mC u (mF u l9 f) f)) cu gu (m_te u) 0 w_19) := hD
                  refine lv_aload_n hx hb d_M_safe_111 rfl (lv_at hl 0 rfl) ?_
                  refine lv_dup hx hb d_M_safe_112 rfl ?_
                  refine va_get (D := (dC, dI)) (ci := 4) (v := .int (nI n2)) (C := "SeatProofsModel") (T := F_M) (N := 20) hx hb hts (iu_M _) hown hK hP 0 rfl rfl 10 (by decide) (hts _ (List.mem_cons_of_mem _ iw_450)) (fun _ h9 => h9) rfl d_M_safe_113 ?_
                  refine lv_iconst (v := nI 1) hx hb d_M_safe_116 (by decide) ?_
                  refine lv_iadd hx hb d_M_safe_117 ?_
                  refine tp_i (nI (n2 + 1)) (nI_add _ _) ?_
                  refine va_put (D := (dC, dI)) (ci := 4) (v := .int (nI (n2 + 1))) (ty := .int) (C := "SeatProofsModel") (T := F_M) (N := 20) hx hb hts (iu_M _) t_M t_M_ok n_M hown hK hP hD hS 0 rfl rfl 10 (by decide) (hts _ (List.mem_cons_of_mem _ iw_450)) (fun _ h9 => h9) rfl (by decide +kernel) rfl rfl (Nat.le_of_ble_eq_true rfl) d_M_safe_118 (fun H locs hP hD hS => ?_)
                  have hP : va_P (dC, dI) vwCl (wMx q (m_liq u) (m_lev u) (m_nS u) (m_fa u) (m_fb u) (m_seat u) (m_op u) (m_un u) (m_nV u) (m_may u) (n2 + 1) (va_up p1 n2 f) (va_up p2 n2 l9) (va_up p3 n2 (mF u l9 f)) (va_up p4 n2 (mC u (mF u l9 f) f)) cu gu (m_te u) 0 w_19) H := hP
                  have hD : va_D (va_A (wM q u) s.heap.size) (wMx q (m_liq u) (m_lev u) (m_nS u) (m_fa u) (m_fb u) (m_seat u) (m_op u) (m_un u) (m_nV u) (m_may u) (n2 + 1) (va_up p1 n2 f) (va_up p2 n2 l9) (va_up p3 n2 (mF u l9 f)) (va_up p4 n2 (mC u (mF u l9 f) f)) cu gu (m_te u) 0 w_19) := hD
                  refine lv_iinc (v := nI (l9 + 1)) (lv' := [(3, .int (nI (l9 + 1))), (0, .ref (ma_o q)), (1, .int (nI f)), (2, .int (nI n))]) hx hb d_M_safe_121 hl (k := 3) rfl (nI_1 _) (by decide) rfl (fun ls hl => ?_)
                  refine lv_goto (tgt := 39) hx hb d_M_safe_124 (by decide) ?_
                  exact ih39 (l9 + 1) (n2 + 1) (va_up p1 n2 f) (va_up p2 n2 l9) (va_up p3 n2 (mF u l9 f)) (va_up p4 n2 (mC u (mF u l9 f) f)) w_19 (by omega) (by omega) (RT_t hR39 c_15) (up_bd hp1 (by omega)) (up_bd hp2 (by omega)) (by omega) _ _ ls hP hD hS (lv_sub hl [1, 2, 3, 0] rfl)
          exact L39 _ 1 n g1 g2 g3 g4 w (Nat.le_refl _) (by omega) hR17 hq1 hq2 (Nat.lt_succ_self _) _ _ ls hP hD hS (lv_sub hl [2, 3, 1, 0] rfl)
  exact L17 _ 0 0 (m_rf u) (m_rl u) (m_rw u) (m_rc u) (m_wet u) false (m_cul u) (Nat.zero_le _) (RT_0 (mTh_0 u)) k7 k8 (Or.inl ⟨rfl, rfl, fun x hx => absurd hx (Nat.not_lt_zero x)⟩) (Nat.zero_le _) (Nat.lt_succ_self _) _ _ ls hP hD hS (lv_sub hl [1, 0] rfl)
