set_option maxHeartbeats 4000000 in
set_option maxRecDepth 100000 in
theorem c_L_set (l : Launch) (hfl : l.flags = pinnedFlags ++ [noTraceFlag]) (dC : Nat → ClassId) (dI : Nat → Nat → Nat) (q : CA) (u : CSt) (sz : Nat) (oa : Nat) (f : Nat → Int64) (x : Int32) (b : Bool) (v : MSt) (hset : ∀ i, i < k_nV u → CP (k_s_opn u (wth (k_opn u) i b)) (m_s_op v (va_up (m_op v) i b))) (h1 : k_nV u ≤ 64) (h0 : k_cnt u ≤ 975) (b1 : ∀ j, k_pf u j < 65) (b2 : ∀ j, k_pl u j < 16) (hpf : ∀ j, j < k_cnt u → k_pf u j ≤ m_nV v) (hs : ∀ x y, x < y → y < k_cnt u → k_pf u x ≤ k_pf u y) : Met l y_L_set w_L_set ({ frames := 7, cells := 1, slots := 6, locals := 133 }) (lPc (dC, dI) vwCl (tC q) (wL q oa (u, f)) sz [Value.ref (ca_o q), Value.int x, Value.int (bI b), Value.ref oa]) (va_Qi (fun (r : Int32) (z : CSt × (Nat → Int64)) => L_set u f v x b r z) (qB (dC, dI) vwCl (tC q) (wL q oa (u, f)) sz (wL q oa)) (va_A (wL q oa (u, f)) sz)) 1 6 (va_A (wL q oa (u, f)) sz) := by
  refine va_MetW (cc := b_L_set) (maxL := 5) (ret := (some .int)) (hh := [(0, 17, 20, 13)]) (by decide) rfl ?_
  intro p e s m args below meth c s₁ B hml hv
  obtain ⟨rfl, hsz, hP, hK, hD0, hN, hTW⟩ := hv
  have hx := B.exec
  have hb := B.bytes
  have hr := B.returns
  have hts := atoms_spec (ws := w_L_set) B.pre
  have hown : s.vm.findClass "SeatProofsLaw" = some m.cls := findClass_of_methodNamed B.named
  have hlocks := B.notSynchronized
  obtain ⟨xe, hxe, hx1, hx2, hx3, hx4⟩ := tab1 (s := s) B (hts _ List.mem_cons_self)
  subst hsz
  have hD := hD0.self (sz := s.heap.size)
  have hA : ∀ z : Nat, s.heap.size ≤ z → va_A (wL q oa (u, f)) s.heap.size z := fun z h => Or.inr h
  have hS : va_S (va_A (wL q oa (u, f)) s.heap.size) s.heap s.heap [] := va_S.rf
  have hl := lv_entry ([Value.ref (ca_o q), Value.int x, Value.int (bI b), Value.ref oa]) (n := 5) (Nat.le_of_ble_eq_true rfl)
  rw [lg_entry_eq]
  generalize (lg_sl ([Value.ref (ca_o q), Value.int x, Value.int (bI b), Value.ref oa]) ++ List.replicate (5 - (lg_sl ([Value.ref (ca_o q), Value.int x, Value.int (bI b), Value.ref oa])).length) Slot.unset).toArray = ls at hl ⊢
  have hl : lv_has ls 5 [(0, .ref (ca_o q)), (1, .int x), (2, .int (bI b)), (3, .ref oa)] := hl
  refine lv_aload_n hx hb d_L_set_0 rfl (lv_at hl 3 rfl) ?_
  refine lv_iconst (v := nI 0) hx hb d_L_set_1 (by decide) ?_
  refine lv_aload_n hx hb d_L_set_2 rfl (lv_at hl 0 rfl) ?_
  refine lv_iload_n hx hb d_L_set_3 rfl (lv_at hl 1 rfl) ?_
  refine lv_iload_n hx hb d_L_set_4 rfl (lv_at hl 2 rfl) ?_
  cases hv9 : ixB x (k_nV u) with
  | false =>
    refine thr_V (As := [.int x, .int (bI b)]) (rest := [.int (nI 0), .ref oa]) ⟨hx, hb, hml, hown, hts⟩ (t_S_set l dC dI q u hfl x b hv9) (cwV 2 hts (good_up (good_V iw_334 iw_335 iw_336 iw_1 gg_S_set)) rfl rfl rfl (by decide +kernel) ⟨Nat.le_of_ble_eq_true rfl, Nat.le_of_ble_eq_true rfl⟩) (pv_T [.int x, .int (bI b)] hN hTW (fun _ _ => rfl) hK hP.L (ci := 3) (q0 := 0) rfl rfl) rfl hl.1 (Nat.le_of_ble_eq_true rfl) d_L_set_5 ⟨Nat.le_of_ble_eq_true rfl, Nat.le_of_ble_eq_true rfl⟩ hxe (by show (decide (xe.startPc ≤ _) && decide (_ < xe.endPc)) = true; rw [hx1, hx2]; rfl) (by rw [hx4]; decide) (by rw [hx4]; exact hts _ (List.mem_cons_of_mem _ iw_333)) (fun z H1 g1 g2 => ?_)
    rw [hx3]
    refine lv_astore (lv' := [(4, .ref z), (0, .ref (ca_o q)), (1, .int x), (2, .int (bI b)), (3, .ref oa)]) hx hb d_L_set_20 hl (by decide) rfl (fun ls hl => ?_)
    refine lv_iconst (v := nI 1) hx hb d_L_set_22 (by decide) ?_
    have hS1 : va_S (va_A (wL q oa (u, f)) s.heap.size) s.heap H1 [] := ⟨g1, fun q h _ => g2 q h, fun _ h => by cases h⟩
    have hP1 : va_P (dC, dI) vwCl (wL q oa (u, f)) H1 := fun k e9 he => (hP k e9 he).kept (g2 e9.1 (hP k e9 he).lt)
    exact W.iret hx hb hr (fun t9 ht9 hW9 => ⟨⟨_, (u, f), rfl, Or.inl ⟨hv9, rfl, rfl⟩, by rw [ht9]; exact hP1, va_K.moved hW9.alike hK, hD⟩, hS1.F ht9⟩) hS1.2.2 d_L_set_23
  | true =>
    obtain ⟨i, hi, rfl⟩ := ixB_of (by omega) hv9
    refine cL_i (va_runV (As := [.int (nI i), .int (bI b)]) (rest := [.int (nI 0), .ref oa]) ⟨hx, hb, hml, hown, hts⟩ (c_S_set l dC dI q u _ i b _ (hset i hi) hi h1 h0 b1 b2 hpf hs) (cwV 2 hts (good_up (good_V iw_334 iw_335 iw_336 iw_1 gg_S_set)) rfl rfl rfl (by decide +kernel) ⟨Nat.le_of_ble_eq_true rfl, Nat.le_of_ble_eq_true rfl⟩) (pv_Q [.int (nI i), .int (bI b)] hN hK hP.L hD.L (ci := 3) (q0 := 0) rfl rfl) rfl rfl hl.1 rfl (lv_room (Nat.le_of_ble_eq_true rfl)) d_L_set_5 ⟨Nat.le_of_ble_eq_true rfl, Nat.le_of_ble_eq_true rfl⟩) hP hD hS hA (fun r9 z9 H locs hpost hP hD hS => ?_)
    obtain ⟨g3, g4, L9, W9, b9, p3, p4, p5, rfl, p6⟩ := hpost
    have hz9 : C_set u i b (m_s_op v (va_up (m_op v) i b)) b9 z9 := ⟨g3, g4, L9, W9, p3, p4, p5, p6⟩
    clear p3 p4 p5 p6
    refine b0_eq (tgt := 15) hx hb d_L_set_8 (by decide) (fun c9 => ?_) (fun c9 => ?_)
    · refine lv_lconst (v := 0) hx hb d_L_set_15 (by decide) ?_
      refine st_l hx hb hK hP hD hS 18 1 rfl rfl (va_up f 0 0) (by decide) (by decide) (updL_up _ _ _) d_L_set_16 (fun H locs hP hD hS => ?_)
      refine lv_goto (tgt := 24) hx hb d_L_set_17 (by decide) ?_
      refine lv_iconst (v := nI 0) hx hb d_L_set_24 (by decide) ?_
      refine W.widen (k := 1) (n := 6) (Nat.le_of_ble_eq_true rfl) (Nat.le_of_ble_eq_true rfl) ?_
      exact W.iret hx hb hr (fun t9 ht9 hW9 => ⟨⟨_, (z9, va_up f 0 0), rfl, Or.inr ⟨i, hi, rfl, b9, z9, hz9, rfl, by rw [c9]; rfl⟩, by rw [ht9]; exact hP, va_K.moved hW9.alike hK, hD⟩, hS.F ht9⟩) hS.2.2 d_L_set_25
    · refine lv_lconst (v := 1) hx hb d_L_set_11 (by decide) ?_
      refine lv_goto (tgt := 16) hx hb d_L_set_12 (by decide) ?_
      refine st_l hx hb hK hP hD hS 18 1 rfl rfl (va_up f 0 1) (by decide) (by decide) (updL_up _ _ _) d_L_set_16 (fun H locs hP hD hS => ?_)
      refine lv_goto (tgt := 24) hx hb d_L_set_17 (by decide) ?_
      refine lv_iconst (v := nI 0) hx hb d_L_set_24 (by decide) ?_
      refine W.widen (k := 1) (n := 6) (Nat.le_of_ble_eq_true rfl) (Nat.le_of_ble_eq_true rfl) ?_
      exact W.iret hx hb hr (fun t9 ht9 hW9 => ⟨⟨_, (z9, va_up f 0 1), rfl, Or.inr ⟨i, hi, rfl, b9, z9, hz9, rfl, by rw [c9]; rfl⟩, by rw [ht9]; exact hP, va_K.moved hW9.alike hK, hD⟩, hS.F ht9⟩) hS.2.2 d_L_set_25
set_option maxHeartbeats 4000000 in
set_option maxRecDepth 100000 in
theorem c_L_unsure (l : Launch) (hfl : l.flags = pinnedFlags ++ [noTraceFlag]) (dC : Nat → ClassId) (dI : Nat → Nat → Nat) (q : CA) (u : CSt) (sz : Nat) (oa : Nat) (f : Nat → Int64) (x : Int32) (b : Bool) (h1 : k_nV u ≤ 64) : Met l y_L_unsure w_L_unsure ({ frames := 7, cells := 1, slots := 6, locals := 104 }) (lPc (dC, dI) vwCl (tC q) (wL q oa (u, f)) sz [Value.ref (ca_o q), Value.int x, Value.int (bI b), Value.ref oa]) (va_Qi (fun (r : Int32) (z : CSt × (Nat → Int64)) => L_unsure u f x b r z) (qB (dC, dI) vwCl (tC q) (wL q oa (u, f)) sz (wL q oa)) (va_A (wL q oa (u, f)) sz)) 1 6 (va_A (wL q oa (u, f)) sz) := by
  refine va_MetW (cc := b_L_unsure) (maxL := 5) (ret := (some .int)) (hh := [(0, 17, 20, 13)]) (by decide) rfl ?_
  intro p e s m args below meth c s₁ B hml hv
  obtain ⟨rfl, hsz, hP, hK, hD0, hN, hTW⟩ := hv
  have hx := B.exec
  have hb := B.bytes
  have hr := B.returns
  have hts := atoms_spec (ws := w_L_unsure) B.pre
  have hown : s.vm.findClass "SeatProofsLaw" = some m.cls := findClass_of_methodNamed B.named
  have hlocks := B.notSynchronized
  obtain ⟨xe, hxe, hx1, hx2, hx3, hx4⟩ := tab1 (s := s) B (hts _ List.mem_cons_self)
  subst hsz
  have hD := hD0.self (sz := s.heap.size)
  have hA : ∀ z : Nat, s.heap.size ≤ z → va_A (wL q oa (u, f)) s.heap.size z := fun z h => Or.inr h
  have hS : va_S (va_A (wL q oa (u, f)) s.heap.size) s.heap s.heap [] := va_S.rf
  have hl := lv_entry ([Value.ref (ca_o q), Value.int x, Value.int (bI b), Value.ref oa]) (n := 5) (Nat.le_of_ble_eq_true rfl)
  rw [lg_entry_eq]
  generalize (lg_sl ([Value.ref (ca_o q), Value.int x, Value.int (bI b), Value.ref oa]) ++ List.replicate (5 - (lg_sl ([Value.ref (ca_o q), Value.int x, Value.int (bI b), Value.ref oa])).length) Slot.unset).toArray = ls at hl ⊢
  have hl : lv_has ls 5 [(0, .ref (ca_o q)), (1, .int x), (2, .int (bI b)), (3, .ref oa)] := hl
  refine lv_aload_n hx hb d_L_unsure_0 rfl (lv_at hl 3 rfl) ?_
  refine lv_iconst (v := nI 0) hx hb d_L_unsure_1 (by decide) ?_
  refine lv_aload_n hx hb d_L_unsure_2 rfl (lv_at hl 0 rfl) ?_
  refine lv_iload_n hx hb d_L_unsure_3 rfl (lv_at hl 1 rfl) ?_
  refine lv_iload_n hx hb d_L_unsure_4 rfl (lv_at hl 2 rfl) ?_
  cases hv9 : ixB x (k_nV u) with
  | false =>
    refine thr_V (As := [.int x, .int (bI b)]) (rest := [.int (nI 0), .ref oa]) ⟨hx, hb, hml, hown, hts⟩ (t_S_unsure l dC dI q u hfl x b hv9) (cwV 2 hts (good_up (good_V iw_426 iw_427 iw_428 iw_1 gg_S_unsure)) rfl rfl rfl (by decide +kernel) ⟨Nat.le_of_ble_eq_true rfl, Nat.le_of_ble_eq_true rfl⟩) (pv_T [.int x, .int (bI b)] hN hTW (fun _ _ => rfl) hK hP.L (ci := 3) (q0 := 0) rfl rfl) rfl hl.1 (Nat.le_of_ble_eq_true rfl) d_L_unsure_5 ⟨Nat.le_of_ble_eq_true rfl, Nat.le_of_ble_eq_true rfl⟩ hxe (by show (decide (xe.startPc ≤ _) && decide (_ < xe.endPc)) = true; rw [hx1, hx2]; rfl) (by rw [hx4]; decide) (by rw [hx4]; exact hts _ (List.mem_cons_of_mem _ iw_333)) (fun z H1 g1 g2 => ?_)
    rw [hx3]
    refine lv_astore (lv' := [(4, .ref z), (0, .ref (ca_o q)), (1, .int x), (2, .int (bI b)), (3, .ref oa)]) hx hb d_L_unsure_20 hl (by decide) rfl (fun ls hl => ?_)
    refine lv_iconst (v := nI 1) hx hb d_L_unsure_22 (by decide) ?_
    have hS1 : va_S (va_A (wL q oa (u, f)) s.heap.size) s.heap H1 [] := ⟨g1, fun q h _ => g2 q h, fun _ h => by cases h⟩
    have hP1 : va_P (dC, dI) vwCl (wL q oa (u, f)) H1 := fun k e9 he => (hP k e9 he).kept (g2 e9.1 (hP k e9 he).lt)
    exact W.iret hx hb hr (fun t9 ht9 hW9 => ⟨⟨_, (u, f), rfl, Or.inl ⟨hv9, rfl, rfl⟩, by rw [ht9]; exact hP1, va_K.moved hW9.alike hK, hD⟩, hS1.F ht9⟩) hS1.2.2 d_L_unsure_23
  | true =>
    obtain ⟨i, hi, rfl⟩ := ixB_of (by omega) hv9
    refine cL_i (va_runV (As := [.int (nI i), .int (bI b)]) (rest := [.int (nI 0), .ref oa]) ⟨hx, hb, hml, hown, hts⟩ (c_S_unsure l dC dI q u _ i b hi h1) (cwV 2 hts (good_up (good_V iw_426 iw_427 iw_428 iw_1 gg_S_unsure)) rfl rfl rfl (by decide +kernel) ⟨Nat.le_of_ble_eq_true rfl, Nat.le_of_ble_eq_true rfl⟩) (pv_Q [.int (nI i), .int (bI b)] hN hK hP.L hD.L (ci := 3) (q0 := 0) rfl rfl) rfl rfl hl.1 rfl (lv_room (Nat.le_of_ble_eq_true rfl)) d_L_unsure_5 ⟨Nat.le_of_ble_eq_true rfl, Nat.le_of_ble_eq_true rfl⟩) hP hD hS hA (fun r9 z9 H locs hpost hP hD hS => ?_)
    obtain ⟨b9, rfl, hz9⟩ : ∃ b9 : Bool, r9 = bI b9 ∧ C_unsure u i b b9 z9 := by
      rcases hpost with ⟨h1, h2, h3⟩ | ⟨h1, h2, h3⟩
      · exact ⟨false, h2, Or.inl ⟨h1, rfl, h3⟩⟩
      · exact ⟨true, h2, Or.inr ⟨h1, rfl, h3⟩⟩
    refine b0_eq (tgt := 15) hx hb d_L_unsure_8 (by decide) (fun c9 => ?_) (fun c9 => ?_)
    · refine lv_lconst (v := 0) hx hb d_L_unsure_15 (by decide) ?_
      refine st_l hx hb hK hP hD hS 18 1 rfl rfl (va_up f 0 0) (by decide) (by decide) (updL_up _ _ _) d_L_unsure_16 (fun H locs hP hD hS => ?_)
      refine lv_goto (tgt := 24) hx hb d_L_unsure_17 (by decide) ?_
      refine lv_iconst (v := nI 0) hx hb d_L_unsure_24 (by decide) ?_
      refine W.widen (k := 1) (n := 6) (Nat.le_of_ble_eq_true rfl) (Nat.le_of_ble_eq_true rfl) ?_
      exact W.iret hx hb hr (fun t9 ht9 hW9 => ⟨⟨_, (z9, va_up f 0 0), rfl, Or.inr ⟨i, hi, rfl, b9, z9, hz9, rfl, by rw [c9]; rfl⟩, by rw [ht9]; exact hP, va_K.moved hW9.alike hK, hD⟩, hS.F ht9⟩) hS.2.2 d_L_unsure_25
    · refine lv_lconst (v := 1) hx hb d_L_unsure_11 (by decide) ?_
      refine lv_goto (tgt := 16) hx hb d_L_unsure_12 (by decide) ?_
      refine st_l hx hb hK hP hD hS 18 1 rfl rfl (va_up f 0 1) (by decide) (by decide) (updL_up _ _ _) d_L_unsure_16 (fun H locs hP hD hS => ?_)
      refine lv_goto (tgt := 24) hx hb d_L_unsure_17 (by decide) ?_
      refine lv_iconst (v := nI 0) hx hb d_L_unsure_24 (by decide) ?_
      refine W.widen (k := 1) (n := 6) (Nat.le_of_ble_eq_true rfl) (Nat.le_of_ble_eq_true rfl) ?_
      exact W.iret hx hb hr (fun t9 ht9 hW9 => ⟨⟨_, (z9, va_up f 0 1), rfl, Or.inr ⟨i, hi, rfl, b9, z9, hz9, rfl, by rw [c9]; rfl⟩, by rw [ht9]; exact hP, va_K.moved hW9.alike hK, hD⟩, hS.F ht9⟩) hS.2.2 d_L_unsure_25
