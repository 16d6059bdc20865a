set_option maxHeartbeats 4000000 in
set_option maxRecDepth 100000 in
theorem c_Q_hasRow (l : Launch) (dC : Nat → ClassId) (dI : Nat → Nat → Nat) (q : CA) (u : CSt) (x : Int32) : Met l y_Q_hasRow w_Q_hasRow ({ frames := 0, cells := 0, slots := 0, locals := 0 }) (sPc (dC, dI) vwCl (tC q) (wC q u) [Value.ref (ca_q q), Value.int x]) (vp_Si (fun r : Int32 => r = bI (ixB x (k_cnt u)))) 0 0 (fun _ => False) := by
  refine Met.ofW (cc := b_Q_hasRow) (maxL := 2) (ret := (some .boolean)) (by decide) rfl ?_
  intro p e s m args below meth c s₁ B hml hv
  obtain ⟨rfl, hP, hK, hN⟩ := hv
  have hx := B.exec
  have hb := B.bytes
  have hr := B.returns
  have hts := atoms_spec (ws := w_Q_hasRow) B.pre
  have hown : s.vm.findClass "SeatProofs$Proof" = some m.cls := findClass_of_methodNamed B.named
  have hlocks := B.notSynchronized
  have hl := lv_entry ([Value.ref (ca_q q), Value.int x]) (n := 2) (Nat.le_of_ble_eq_true rfl)
  rw [lg_entry_eq]
  generalize (lg_sl ([Value.ref (ca_q q), Value.int x]) ++ List.replicate (2 - (lg_sl ([Value.ref (ca_q q), Value.int x])).length) Slot.unset).toArray = ls at hl ⊢
  have hl : lv_has ls 2 [(0, .ref (ca_q q)), (1, .int x)] := hl
  refine lv_iload_n hx hb d_Q_hasRow_0 rfl (lv_at hl 1 rfl) ?_
  refine lv_if_lt (tgt := 16) hx hb d_Q_hasRow_1 (by decide) (fun c_1 => ?_) (fun c_1 => ?_)
  · refine lv_iconst (v := nI 0) hx hb d_Q_hasRow_16 (by decide) ?_
    refine tp_i (bI false) (by decide) ?_
    exact W.zret hx hb hr (bI_narrow _) (fun t9 ht9 _ => ⟨_, rfl, (by simp [ixB, c_1]), ht9⟩) (fun _ h => by cases h) d_Q_hasRow_17
  · refine lv_iload_n hx hb d_Q_hasRow_4 rfl (lv_at hl 1 rfl) ?_
    refine lv_aload_n hx hb d_Q_hasRow_5 rfl (lv_at hl 0 rfl) ?_
    refine va_get (D := (dC, dI)) (ci := 2) (v := .int (nI (k_cnt u))) (C := "SeatProofs$Proof") (T := F_Q) (N := 5) hx hb hts (iu_Q _) hown hK hP 3 rfl rfl 0 (by decide) (hts _ (List.mem_cons_of_mem _ iw_103)) (fun _ h9 => h9) rfl d_Q_hasRow_6 ?_
    refine lv_icmp_ge (tgt := 16) hx hb d_Q_hasRow_9 (by decide) (fun c_2 => ?_) (fun c_2 => ?_)
    · refine lv_iconst (v := nI 0) hx hb d_Q_hasRow_16 (by decide) ?_
      refine tp_i (bI false) (by decide) ?_
      exact W.zret hx hb hr (bI_narrow _) (fun t9 ht9 _ => ⟨_, rfl, (by simp [ixB, c_1, c_2]), ht9⟩) (fun _ h => by cases h) d_Q_hasRow_17
    · refine lv_iconst (v := nI 1) hx hb d_Q_hasRow_12 (by decide) ?_
      refine lv_goto (tgt := 17) hx hb d_Q_hasRow_13 (by decide) ?_
      refine tp_i (bI true) (by decide) ?_
      exact W.zret hx hb hr (bI_narrow _) (fun t9 ht9 _ => ⟨_, rfl, (by simp [ixB, c_1, c_2]), ht9⟩) (fun _ h => by cases h) d_Q_hasRow_17
set_option maxHeartbeats 4000000 in
set_option maxRecDepth 100000 in
theorem c_Q_empty (l : Launch) (dC : Nat → ClassId) (dI : Nat → Nat → Nat) (q : CA) (u : CSt) (sz : Nat)  : Met l y_Q_empty w_Q_empty ({ frames := 0, cells := 0, slots := 0, locals := 0 }) (qPc (dC, dI) vwCl (tC q) (wC q u) sz [Value.ref (ca_q q)]) (va_Qv (fun z : CSt => z = k_s_cnt u 0) (qB (dC, dI) vwCl (tC q) (wC q u) sz (wC q)) (va_A (wC q u) sz)) 0 0 (va_A (wC q u) sz) := by
  refine Met.ofW (cc := b_Q_empty) (maxL := 1) (ret := none) (by decide) rfl ?_
  intro p e s m args below meth c s₁ B hml hv
  obtain ⟨rfl, hsz, hP, hK, hD0, hN⟩ := hv
  have hx := B.exec
  have hb := B.bytes
  have hr := B.returns
  have hts := atoms_spec (ws := w_Q_empty) B.pre
  have hown : s.vm.findClass "SeatProofs$Proof" = some m.cls := findClass_of_methodNamed B.named
  have hlocks := B.notSynchronized
  subst hsz
  have hD := hD0.self (sz := s.heap.size)
  have hA : ∀ z : Nat, s.heap.size ≤ z → va_A (wC q u) s.heap.size z := fun z h => Or.inr h
  have hS : va_S (va_A (wC q u) s.heap.size) s.heap s.heap [] := va_S.rf
  have hl := lv_entry ([Value.ref (ca_q q)]) (n := 1) (Nat.le_of_ble_eq_true rfl)
  rw [lg_entry_eq]
  generalize (lg_sl ([Value.ref (ca_q q)]) ++ List.replicate (1 - (lg_sl ([Value.ref (ca_q q)])).length) Slot.unset).toArray = ls at hl ⊢
  have hl : lv_has ls 1 [(0, .ref (ca_q q))] := hl
  refine lv_aload_n hx hb d_Q_empty_0 rfl (lv_at hl 0 rfl) ?_
  refine lv_iconst (v := nI 0) hx hb d_Q_empty_1 (by decide) ?_
  refine va_put (D := (dC, dI)) (ci := 2) (v := .int (nI 0)) (ty := .int) (C := "SeatProofs$Proof") (T := F_Q) (N := 5) hx hb hts (iu_Q _) t_Q t_Q_ok n_Q hown hK hP hD hS 3 rfl rfl 0 (by decide) (hts _ (List.mem_cons_of_mem _ iw_103)) (fun _ h9 => h9) rfl (by decide +kernel) rfl rfl (Nat.le_of_ble_eq_true rfl) d_Q_empty_2 (fun H locs hP hD hS => ?_)
  have hP : va_P (dC, dI) vwCl (wCx q (k_fu u) (k_re u) (k_nS u) (k_nV u) (k_opn u) (k_uns u) (k_dbl u) (k_lett u) 0 (k_lev u) (k_src u) (k_fr u) (k_e1 u) (k_e2 u) (k_ends u) (k_fal u) (k_ways u) (k_fls u) (k_fnd u) (k_pf u) (k_pl u) (k_pw u) (k_pc u)) H := hP
  have hD : va_D (va_A (wC q u) s.heap.size) (wCx q (k_fu u) (k_re u) (k_nS u) (k_nV u) (k_opn u) (k_uns u) (k_dbl u) (k_lett u) 0 (k_lev u) (k_src u) (k_fr u) (k_e1 u) (k_e2 u) (k_ends u) (k_fal u) (k_ways u) (k_fls u) (k_fnd u) (k_pf u) (k_pl u) (k_pw u) (k_pc u)) := hD
  exact W.vret hx hb hr (fun t9 ht9 hW9 => ⟨⟨(k_mk (k_fu u) (k_re u) (k_nS u) (k_nV u) (k_opn u) (k_uns u) (k_dbl u) (k_lett u) 0 (k_lev u) (k_src u) (k_fr u) (k_e1 u) (k_e2 u) (k_ends u) (k_fal u) (k_ways u) (k_fls u) (k_fnd u) (k_pf u) (k_pl u) (k_pw u) (k_pc u)), rfl, rfl, by rw [ht9]; exact hP, va_K.moved hW9.alike hK, hD⟩, hS.F ht9⟩) hS.2.2 d_Q_empty_5
set_option maxHeartbeats 4000000 in
set_option maxRecDepth 100000 in
theorem c_Q_add (l : Launch) (dC : Nat → ClassId) (dI : Nat → Nat → Nat) (q : CA) (u : CSt) (sz : Nat) (f a : Nat) (x y : Int64) (h1 : k_cnt u < 975) : Met l y_Q_add w_Q_add ({ frames := 0, cells := 0, slots := 0, locals := 0 }) (qPc (dC, dI) vwCl (tC q) (wC q u) sz [Value.ref (ca_q q), Value.int (nI f), Value.int (nI a), Value.long x, Value.long y]) (va_Qv (fun z : CSt => z = k_addR u f a x y) (qB (dC, dI) vwCl (tC q) (wC q u) sz (wC q)) (va_A (wC q u) sz)) 0 0 (va_A (wC q u) sz) := by
  refine Met.ofW (cc := b_Q_add) (maxL := 7) (ret := none) (by decide) rfl ?_
  intro p e s m args below meth c s₁ B hml hv
  obtain ⟨rfl, hsz, hP, hK, hD0, hN⟩ := hv
  have hx := B.exec
  have hb := B.bytes
  have hr := B.returns
  have hts := atoms_spec (ws := w_Q_add) B.pre
  have hown : s.vm.findClass "SeatProofs$Proof" = some m.cls := findClass_of_methodNamed B.named
  have hlocks := B.notSynchronized
  subst hsz
  have hD := hD0.self (sz := s.heap.size)
  have hA : ∀ z : Nat, s.heap.size ≤ z → va_A (wC q u) s.heap.size z := fun z h => Or.inr h
  have hS : va_S (va_A (wC q u) s.heap.size) s.heap s.heap [] := va_S.rf
  have hl := lv_entry ([Value.ref (ca_q q), Value.int (nI f), Value.int (nI a), Value.long x, Value.long y]) (n := 7) (Nat.le_of_ble_eq_true rfl)
  rw [lg_entry_eq]
  generalize (lg_sl ([Value.ref (ca_q q), Value.int (nI f), Value.int (nI a), Value.long x, Value.long y]) ++ List.replicate (7 - (lg_sl ([Value.ref (ca_q q), Value.int (nI f), Value.int (nI a), Value.long x, Value.long y])).length) Slot.unset).toArray = ls at hl ⊢
  have hl : lv_has ls 7 [(0, .ref (ca_q q)), (1, .int (nI f)), (2, .int (nI a)), (3, .long x), (5, .long y)] := hl
  refine lv_aload_n hx hb d_Q_add_0 rfl (lv_at hl 0 rfl) ?_
  refine va_get (D := (dC, dI)) (ci := 2) (v := .int (nI (k_cnt u))) (C := "SeatProofs$Proof") (T := F_Q) (N := 5) hx hb hts (iu_Q _) hown hK hP 3 rfl rfl 0 (by decide) (hts _ (List.mem_cons_of_mem _ iw_103)) (fun _ h9 => h9) rfl d_Q_add_1 ?_
  refine lv_sipush (v := nI 975) hx hb d_Q_add_4 (by decide) ?_
  refine nv_ge (tgt := 61) hx hb d_Q_add_7 (by decide) (by omega) (by omega) (fun c_1 => ?_) (fun c_1 => ?_)
  · exact absurd h1 (by omega)
  · refine lv_aload_n hx hb d_Q_add_10 rfl (lv_at hl 0 rfl) ?_
    refine va_get (D := (dC, dI)) (ci := 2) (v := .ref (ca_pf q)) (C := "SeatProofs$Proof") (T := F_Q) (N := 5) hx hb hts (iu_Q _) hown hK hP 3 rfl rfl 1 (by decide) (hts _ (List.mem_cons_of_mem _ iw_105)) (fun _ h9 => h9) rfl d_Q_add_11 ?_
    refine lv_aload_n hx hb d_Q_add_14 rfl (lv_at hl 0 rfl) ?_
    refine va_get (D := (dC, dI)) (ci := 2) (v := .int (nI (k_cnt u))) (C := "SeatProofs$Proof") (T := F_Q) (N := 5) hx hb hts (iu_Q _) hown hK hP 3 rfl rfl 0 (by decide) (hts _ (List.mem_cons_of_mem _ iw_103)) (fun _ h9 => h9) rfl d_Q_add_15 ?_
    refine lv_iload_n hx hb d_Q_add_18 rfl (lv_at hl 1 rfl) ?_
    obtain ⟨y_2, hy_3⟩ : ∃ z99 : Nat → Nat, z99 = va_up (k_pf u) (k_cnt u) f := ⟨_, rfl⟩
    refine st_i hx hb hK hP hD hS 14 0 rfl rfl (fun j9 => nI (y_2 j9)) (by omega) (by decide) ((upd_nI _ _ _).trans (by rw [hy_3])) d_Q_add_19 (fun H locs hP hD hS => ?_)
    have hP : va_P (dC, dI) vwCl (wCx q (k_fu u) (k_re u) (k_nS u) (k_nV u) (k_opn u) (k_uns u) (k_dbl u) (k_lett u) (k_cnt u) (k_lev u) (k_src u) (k_fr u) (k_e1 u) (k_e2 u) (k_ends u) (k_fal u) (k_ways u) (k_fls u) (k_fnd u) y_2 (k_pl u) (k_pw u) (k_pc u)) H := hP
    have hD : va_D (va_A (wC q u) s.heap.size) (wCx q (k_fu u) (k_re u) (k_nS u) (k_nV u) (k_opn u) (k_uns u) (k_dbl u) (k_lett u) (k_cnt u) (k_lev u) (k_src u) (k_fr u) (k_e1 u) (k_e2 u) (k_ends u) (k_fal u) (k_ways u) (k_fls u) (k_fnd u) y_2 (k_pl u) (k_pw u) (k_pc u)) := hD
    refine lv_aload_n hx hb d_Q_add_20 rfl (lv_at hl 0 rfl) ?_
    refine va_get (D := (dC, dI)) (ci := 2) (v := .ref (ca_pl q)) (C := "SeatProofs$Proof") (T := F_Q) (N := 5) hx hb hts (iu_Q _) hown hK hP 3 rfl rfl 2 (by decide) (hts _ (List.mem_cons_of_mem _ iw_107)) (fun _ h9 => h9) rfl d_Q_add_21 ?_
    refine lv_aload_n hx hb d_Q_add_24 rfl (lv_at hl 0 rfl) ?_
    refine va_get (D := (dC, dI)) (ci := 2) (v := .int (nI (k_cnt u))) (C := "SeatProofs$Proof") (T := F_Q) (N := 5) hx hb hts (iu_Q _) hown hK hP 3 rfl rfl 0 (by decide) (hts _ (List.mem_cons_of_mem _ iw_103)) (fun _ h9 => h9) rfl d_Q_add_25 ?_
    refine lv_iload_n hx hb d_Q_add_28 rfl (lv_at hl 2 rfl) ?_
    obtain ⟨y_4, hy_5⟩ : ∃ z99 : Nat → Nat, z99 = va_up (k_pl u) (k_cnt u) a := ⟨_, rfl⟩
    refine st_i hx hb hK hP hD hS 15 0 rfl rfl (fun j9 => nI (y_4 j9)) (by omega) (by decide) ((upd_nI _ _ _).trans (by rw [hy_5])) d_Q_add_29 (fun H locs hP hD hS => ?_)
    have hP : va_P (dC, dI) vwCl (wCx q (k_fu u) (k_re u) (k_nS u) (k_nV u) (k_opn u) (k_uns u) (k_dbl u) (k_lett u) (k_cnt u) (k_lev u) (k_src u) (k_fr u) (k_e1 u) (k_e2 u) (k_ends u) (k_fal u) (k_ways u) (k_fls u) (k_fnd u) y_2 y_4 (k_pw u) (k_pc u)) H := hP
    have hD : va_D (va_A (wC q u) s.heap.size) (wCx q (k_fu u) (k_re u) (k_nS u) (k_nV u) (k_opn u) (k_uns u) (k_dbl u) (k_lett u) (k_cnt u) (k_lev u) (k_src u) (k_fr u) (k_e1 u) (k_e2 u) (k_ends u) (k_fal u) (k_ways u) (k_fls u) (k_fnd u) y_2 y_4 (k_pw u) (k_pc u)) := hD
    refine lv_aload_n hx hb d_Q_add_30 rfl (lv_at hl 0 rfl) ?_
    refine va_get (D := (dC, dI)) (ci := 2) (v := .ref (ca_pw q)) (C := "SeatProofs$Proof") (T := F_Q) (N := 5) hx hb hts (iu_Q _) hown hK hP 3 rfl rfl 3 (by decide) (hts _ (List.mem_cons_of_mem _ iw_109)) (fun _ h9 => h9) rfl d_Q_add_31 ?_
    refine lv_aload_n hx hb d_Q_add_34 rfl (lv_at hl 0 rfl) ?_
    refine va_get (D := (dC, dI)) (ci := 2) (v := .int (nI (k_cnt u))) (C := "SeatProofs$Proof") (T := F_Q) (N := 5) hx hb hts (iu_Q _) hown hK hP 3 rfl rfl 0 (by decide) (hts _ (List.mem_cons_of_mem _ iw_103)) (fun _ h9 => h9) rfl d_Q_add_35 ?_
    refine lv_lload_n hx hb d_Q_add_38 rfl (lv_at hl 3 rfl) ?_
    obtain ⟨y_6, hy_7⟩ : ∃ z99 : Nat → Int64, z99 = va_up (k_pw u) (k_cnt u) x := ⟨_, rfl⟩
    refine st_l hx hb hK hP hD hS 16 1 rfl rfl (y_6) (by omega) (by decide) ((updL_up _ _ _).trans (by rw [hy_7])) d_Q_add_39 (fun H locs hP hD hS => ?_)
    have hP : va_P (dC, dI) vwCl (wCx q (k_fu u) (k_re u) (k_nS u) (k_nV u) (k_opn u) (k_uns u) (k_dbl u) (k_lett u) (k_cnt u) (k_lev u) (k_src u) (k_fr u) (k_e1 u) (k_e2 u) (k_ends u) (k_fal u) (k_ways u) (k_fls u) (k_fnd u) y_2 y_4 y_6 (k_pc u)) H := hP
    have hD : va_D (va_A (wC q u) s.heap.size) (wCx q (k_fu u) (k_re u) (k_nS u) (k_nV u) (k_opn u) (k_uns u) (k_dbl u) (k_lett u) (k_cnt u) (k_lev u) (k_src u) (k_fr u) (k_e1 u) (k_e2 u) (k_ends u) (k_fal u) (k_ways u) (k_fls u) (k_fnd u) y_2 y_4 y_6 (k_pc u)) := hD
    refine lv_aload_n hx hb d_Q_add_40 rfl (lv_at hl 0 rfl) ?_
    refine va_get (D := (dC, dI)) (ci := 2) (v := .ref (ca_pc q)) (C := "SeatProofs$Proof") (T := F_Q) (N := 5) hx hb hts (iu_Q _) hown hK hP 3 rfl rfl 4 (by decide) (hts _ (List.mem_cons_of_mem _ iw_111)) (fun _ h9 => h9) rfl d_Q_add_41 ?_
    refine lv_aload_n hx hb d_Q_add_44 rfl (lv_at hl 0 rfl) ?_
    refine va_get (D := (dC, dI)) (ci := 2) (v := .int (nI (k_cnt u))) (C := "SeatProofs$Proof") (T := F_Q) (N := 5) hx hb hts (iu_Q _) hown hK hP 3 rfl rfl 0 (by decide) (hts _ (List.mem_cons_of_mem _ iw_103)) (fun _ h9 => h9) rfl d_Q_add_45 ?_
    refine lv_lload hx hb d_Q_add_48 (lv_at hl 4 rfl) ?_
    obtain ⟨y_8, hy_9⟩ : ∃ z99 : Nat → Int64, z99 = va_up (k_pc u) (k_cnt u) y := ⟨_, rfl⟩
    refine st_l hx hb hK hP hD hS 17 1 rfl rfl (y_8) (by omega) (by decide) ((updL_up _ _ _).trans (by rw [hy_9])) d_Q_add_50 (fun H locs hP hD hS => ?_)
    have hP : va_P (dC, dI) vwCl (wCx q (k_fu u) (k_re u) (k_nS u) (k_nV u) (k_opn u) (k_uns u) (k_dbl u) (k_lett u) (k_cnt u) (k_lev u) (k_src u) (k_fr u) (k_e1 u) (k_e2 u) (k_ends u) (k_fal u) (k_ways u) (k_fls u) (k_fnd u) y_2 y_4 y_6 y_8) H := hP
    have hD : va_D (va_A (wC q u) s.heap.size) (wCx q (k_fu u) (k_re u) (k_nS u) (k_nV u) (k_opn u) (k_uns u) (k_dbl u) (k_lett u) (k_cnt u) (k_lev u) (k_src u) (k_fr u) (k_e1 u) (k_e2 u) (k_ends u) (k_fal u) (k_ways u) (k_fls u) (k_fnd u) y_2 y_4 y_6 y_8) := hD
    refine lv_aload_n hx hb d_Q_add_51 rfl (lv_at hl 0 rfl) ?_
    refine lv_dup hx hb d_Q_add_52 rfl ?_
    refine va_get (D := (dC, dI)) (ci := 2) (v := .int (nI (k_cnt u))) (C := "SeatProofs$Proof") (T := F_Q) (N := 5) hx hb hts (iu_Q _) hown hK hP 3 rfl rfl 0 (by decide) (hts _ (List.mem_cons_of_mem _ iw_103)) (fun _ h9 => h9) rfl d_Q_add_53 ?_
    refine lv_iconst (v := nI 1) hx hb d_Q_add_56 (by decide) ?_
    refine lv_iadd hx hb d_Q_add_57 ?_
    refine tp_i (nI (k_cnt u + 1)) (nI_add _ _) ?_
    refine va_put (D := (dC, dI)) (ci := 2) (v := .int (nI (k_cnt u + 1))) (ty := .int) (C := "SeatProofs$Proof") (T := F_Q) (N := 5) hx hb hts (iu_Q _) t_Q t_Q_ok n_Q hown hK hP hD hS 3 rfl rfl 0 (by decide) (hts _ (List.mem_cons_of_mem _ iw_103)) (fun _ h9 => h9) rfl (by decide +kernel) rfl rfl (Nat.le_of_ble_eq_true rfl) d_Q_add_58 (fun H locs hP hD hS => ?_)
    have hP : va_P (dC, dI) vwCl (wCx q (k_fu u) (k_re u) (k_nS u) (k_nV u) (k_opn u) (k_uns u) (k_dbl u) (k_lett u) (k_cnt u + 1) (k_lev u) (k_src u) (k_fr u) (k_e1 u) (k_e2 u) (k_ends u) (k_fal u) (k_ways u) (k_fls u) (k_fnd u) y_2 y_4 y_6 y_8) H := hP
    have hD : va_D (va_A (wC q u) s.heap.size) (wCx q (k_fu u) (k_re u) (k_nS u) (k_nV u) (k_opn u) (k_uns u) (k_dbl u) (k_lett u) (k_cnt u + 1) (k_lev u) (k_src u) (k_fr u) (k_e1 u) (k_e2 u) (k_ends u) (k_fal u) (k_ways u) (k_fls u) (k_fnd u) y_2 y_4 y_6 y_8) := hD
    subst hy_3
    subst hy_5
    subst hy_7
    subst hy_9
    exact W.vret hx hb hr (fun t9 ht9 hW9 => ⟨⟨(k_mk (k_fu u) (k_re u) (k_nS u) (k_nV u) (k_opn u) (k_uns u) (k_dbl u) (k_lett u) (k_cnt u + 1) (k_lev u) (k_src u) (k_fr u) (k_e1 u) (k_e2 u) (k_ends u) (k_fal u) (k_ways u) (k_fls u) (k_fnd u) (va_up (k_pf u) (k_cnt u) f) (va_up (k_pl u) (k_cnt u) a) (va_up (k_pw u) (k_cnt u) x) (va_up (k_pc u) (k_cnt u) y)), rfl, rfl, by rw [ht9]; exact hP, va_K.moved hW9.alike hK, hD⟩, hS.F ht9⟩) hS.2.2 d_Q_add_61
set_option maxHeartbeats 4000000 in
set_option maxRecDepth 100000 in
theorem c_F_floodAll (l : Launch) (dC : Nat → ClassId) (dI : Nat → Nat → Nat) (q : CA) (u : CSt) (sz : Nat)  : Met l y_F_floodAll w_F_floodAll ({ frames := 3, cells := 0, slots := 0, locals := 70 }) (qPc (dC, dI) vwCl (tC q) (wC q u) sz [Value.ref (ca_f q)]) (va_Qv (fun z : CSt => ∃ g, (∀ t, 1 ≤ t → t < 16 → g t = kF u t) ∧ z = k_s_fls u g) (qB (dC, dI) vwCl (tC q) (wC q u) sz (wC q)) (va_A (wC q u) sz)) 0 0 (va_A (wC q u) sz) := by
  refine Met.ofW (cc := b_F_floodAll) (maxL := 2) (ret := none) (by decide) rfl ?_
  intro p e s m args below meth c s₁ B hml hv
  obtain ⟨rfl, hsz, hP, hK, hD0, hN⟩ := hv
  have hx := B.exec
  have hb := B.bytes
  have hr := B.returns
  have hts := atoms_spec (ws := w_F_floodAll) B.pre
  have hown : s.vm.findClass "SeatProofs$Flow" = some m.cls := findClass_of_methodNamed B.named
  have hlocks := B.notSynchronized
  subst hsz
  have hD := hD0.self (sz := s.heap.size)
  have hA : ∀ z : Nat, s.heap.size ≤ z → va_A (wC q u) s.heap.size z := fun z h => Or.inr h
  have hS : va_S (va_A (wC q u) s.heap.size) s.heap s.heap [] := va_S.rf
  have hl := lv_entry ([Value.ref (ca_f q)]) (n := 2) (Nat.le_of_ble_eq_true rfl)
  rw [lg_entry_eq]
  generalize (lg_sl ([Value.ref (ca_f q)]) ++ List.replicate (2 - (lg_sl ([Value.ref (ca_f q)])).length) Slot.unset).toArray = ls at hl ⊢
  have hl : lv_has ls 2 [(0, .ref (ca_f q))] := hl
  refine lv_iconst (v := nI 1) hx hb d_F_floodAll_0 (by decide) ?_
  refine lv_istore_n (lv' := [(1, .int (nI 1)), (0, .ref (ca_f q))]) hx hb d_F_floodAll_1 rfl hl (by decide) rfl (fun ls hl => ?_)
  have L2 : ∀ (n2 : Nat) (i : Nat) (g : Nat → Int64), (1 ≤ i) → (i ≤ 16) → (∀ t, 1 ≤ t → t < i → g t = kF u t) → 16 - i < n2 → ∀ (H : Heap) (locs : List Loc) (ls : Array Slot), va_P (dC, dI) vwCl (wCx q (k_fu u) (k_re u) (k_nS u) (k_nV u) (k_opn u) (k_uns u) (k_dbl u) (k_lett u) (k_cnt u) (k_lev u) (k_src u) (k_fr u) (k_e1 u) (k_e2 u) (k_ends u) (k_fal u) (k_ways u) g (k_fnd u) (k_pf u) (k_pl u) (k_pw u) (k_pc u)) H → va_D (va_A (wC q u) s.heap.size) (wCx q (k_fu u) (k_re u) (k_nS u) (k_nV u) (k_opn u) (k_uns u) (k_dbl u) (k_lett u) (k_cnt u) (k_lev u) (k_src u) (k_fr u) (k_e1 u) (k_e2 u) (k_ends u) (k_fal u) (k_ways u) g (k_fnd u) (k_pf u) (k_pl u) (k_pw u) (k_pc u)) → va_S (va_A (wC q u) s.heap.size) s.heap H locs → lv_has ls 2 [(0, .ref (ca_f q)), (1, .int (nI i))] → W p l e (headSpec w_F_floodAll ({ frames := 3, cells := 0, slots := 0, locals := 70 })).room s m [Value.ref (ca_f q)].toArray below meth c H locs 0 0 (MQ below (va_Qv (fun z : CSt => ∃ g, (∀ t, 1 ≤ t → t < 16 → g t = kF u t) ∧ z = k_s_fls u g) (qB (dC, dI) vwCl (tC q) (wC q u) s.heap.size (wC q)) (va_A (wC q u) s.heap.size)) [Value.ref (ca_f q)].toArray s 0 0 (va_A (wC q u) s.heap.size)) (F0 m 2 ls []) := by
    intro n2
    induction n2 with
    | zero => intro i g hi2 hi2b hg2 hm; exact absurd hm (Nat.not_lt_zero _)
    | succ n2 ih2 =>
      intro i g hi2 hi2b hg2 hm2 H locs ls hP hD hS hl
      refine lv_iload_n hx hb d_F_floodAll_2 rfl (lv_at hl 1 rfl) ?_
      refine lv_bipush (v := nI 16) hx hb d_F_floodAll_3 (by decide) ?_
      refine nv_ge (tgt := 25) hx hb d_F_floodAll_5 (by decide) (by omega) (by omega) (fun c_1 => ?_) (fun c_1 => ?_)
      · exact W.vret hx hb hr (fun t9 ht9 hW9 => ⟨⟨(k_mk (k_fu u) (k_re u) (k_nS u) (k_nV u) (k_opn u) (k_uns u) (k_dbl u) (k_lett u) (k_cnt u) (k_lev u) (k_src u) (k_fr u) (k_e1 u) (k_e2 u) (k_ends u) (k_fal u) (k_ways u) g (k_fnd u) (k_pf u) (k_pl u) (k_pw u) (k_pc u)), rfl, ⟨g, fun t h1 h2 => hg2 t h1 (by omega), rfl⟩, by rw [ht9]; exact hP, va_K.moved hW9.alike hK, hD⟩, hS.F ht9⟩) hS.2.2 d_F_floodAll_25
      · refine lv_aload_n hx hb d_F_floodAll_8 rfl (lv_at hl 0 rfl) ?_
        refine va_get (D := (dC, dI)) (ci := 1) (v := .ref (ca_fls q)) (C := "SeatProofs$Flow") (T := F_F) (N := 4) hx hb hts (iu_F _) hown hK hP 2 rfl rfl 3 (by decide) (hts _ (List.mem_cons_of_mem _ iw_86)) (fun _ h9 => h9) rfl d_F_floodAll_9 ?_
        refine lv_iload_n hx hb d_F_floodAll_12 rfl (lv_at hl 1 rfl) ?_
        refine lv_aload_n hx hb d_F_floodAll_13 rfl (lv_at hl 0 rfl) ?_
        refine lv_iload_n hx hb d_F_floodAll_14 rfl (lv_at hl 1 rfl) ?_
        refine vp_callSl (va_Run.run (va_runV (As := [.int (nI i)]) (rest := [.int (nI i), .ref (ca_fls q)]) ⟨hx, hb, hml, hown, hts⟩ (c_F_floodOf l dC dI q (k_mk (k_fu u) (k_re u) (k_nS u) (k_nV u) (k_opn u) (k_uns u) (k_dbl u) (k_lett u) (k_cnt u) (k_lev u) (k_src u) (k_fr u) (k_e1 u) (k_e2 u) (k_ends u) (k_fal u) (k_ways u) g (k_fnd u) (k_pf u) (k_pl u) (k_pw u) (k_pc u)) i (by omega)) (cwV 1 hts (good_up (good_V iw_231 iw_232 iw_233 iw_3 gg_F_floodOf)) rfl rfl rfl (by decide +kernel) ⟨Nat.le_of_ble_eq_true rfl, Nat.le_of_ble_eq_true rfl⟩) (pv_S [.int (nI i)] hN hK hP (ci := 1) (q0 := 2) rfl rfl) rfl rfl hl.1 rfl (lv_room (Nat.le_of_ble_eq_true rfl)) d_F_floodAll_15 ⟨Nat.le_of_ble_eq_true rfl, Nat.le_of_ble_eq_true rfl⟩)) (fun r_2 hr_2 => ?_)
        subst hr_2
        refine tp_l (kF u i) (kF_cg rfl rfl) ?_
        refine st_l hx hb hK hP hD hS 12 1 rfl rfl (va_up g i (kF u i)) (by omega) (by decide) (updL_up _ _ _) d_F_floodAll_18 (fun H locs hP hD hS => ?_)
        have hP : va_P (dC, dI) vwCl (wCx q (k_fu u) (k_re u) (k_nS u) (k_nV u) (k_opn u) (k_uns u) (k_dbl u) (k_lett u) (k_cnt u) (k_lev u) (k_src u) (k_fr u) (k_e1 u) (k_e2 u) (k_ends u) (k_fal u) (k_ways u) (va_up g i (kF u i)) (k_fnd u) (k_pf u) (k_pl u) (k_pw u) (k_pc u)) H := hP
        have hD : va_D (va_A (wC q u) s.heap.size) (wCx q (k_fu u) (k_re u) (k_nS u) (k_nV u) (k_opn u) (k_uns u) (k_dbl u) (k_lett u) (k_cnt u) (k_lev u) (k_src u) (k_fr u) (k_e1 u) (k_e2 u) (k_ends u) (k_fal u) (k_ways u) (va_up g i (kF u i)) (k_fnd u) (k_pf u) (k_pl u) (k_pw u) (k_pc u)) := hD
        refine lv_iinc (v := nI (i + 1)) (lv' := [(1, .int (nI (i + 1))), (0, .ref (ca_f q))]) hx hb d_F_floodAll_19 hl (k := 1) rfl (nI_1 _) (by decide) rfl (fun ls hl => ?_)
        refine lv_goto (tgt := 2) hx hb d_F_floodAll_22 (by decide) ?_
        exact ih2 (i + 1) (va_up g i (kF u i)) (by omega) (by omega) (fa_s (F := kF u) hg2) (by omega) _ _ ls hP hD hS (lv_sub hl [1, 0] rfl)
  exact L2 _ 1 (k_fls u) (by omega) (by omega) (fun t h1 h2 => absurd h1 (by omega)) (Nat.lt_succ_self _) _ _ ls hP hD hS (lv_sub hl [1, 0] rfl)
set_option maxHeartbeats 4000000 in
set_option maxRecDepth 100000 in
theorem c_F_meetings (l : Launch) (dC : Nat → ClassId) (dI : Nat → Nat → Nat) (q : CA) (u : CSt)  : Met l y_F_meetings w_F_meetings ({ frames := 1, cells := 0, slots := 0, locals := 22 }) (sPc (dC, dI) vwCl (tC q) (wC q u) [Value.ref (ca_f q)]) (vp_Sl (fun r : Int64 => MTa (kM u) 16 r)) 0 0 (fun _ => False) := by
  refine Met.ofW (cc := b_F_meetings) (maxL := 5) (ret := (some .long)) (by decide) rfl ?_
  intro p e s m args below meth c s₁ B hml hv
  obtain ⟨rfl, hP, hK, hN⟩ := hv
  have hx := B.exec
  have hb := B.bytes
  have hr := B.returns
  have hts := atoms_spec (ws := w_F_meetings) B.pre
  have hown : s.vm.findClass "SeatProofs$Flow" = some m.cls := findClass_of_methodNamed B.named
  have hlocks := B.notSynchronized
  have hl := lv_entry ([Value.ref (ca_f q)]) (n := 5) (Nat.le_of_ble_eq_true rfl)
  rw [lg_entry_eq]
  generalize (lg_sl ([Value.ref (ca_f q)]) ++ List.replicate (5 - (lg_sl ([Value.ref (ca_f q)])).length) Slot.unset).toArray = ls at hl ⊢
  have hl : lv_has ls 5 [(0, .ref (ca_f q))] := hl
  refine lv_lconst (v := 0) hx hb d_F_meetings_0 (by decide) ?_
  refine lv_lstore_n (lv' := [(1, .long 0), (0, .ref (ca_f q))]) hx hb d_F_meetings_1 rfl hl (by decide) rfl (fun ls hl => ?_)
  refine lv_iconst (v := nI 1) hx hb d_F_meetings_2 (by decide) ?_
  refine lv_istore_n (lv' := [(3, .int (nI 1)), (1, .long 0), (0, .ref (ca_f q))]) hx hb d_F_meetings_3 rfl hl (by decide) rfl (fun ls hl => ?_)
  have L4 : ∀ (n4 : Nat) (a : Nat) (x : Int64), (1 ≤ a) → (a ≤ 16) → (MTa (kM u) a x) → 16 - a < n4 → ∀ (ls : Array Slot), lv_has ls 5 [(0, .ref (ca_f q)), (1, .long x), (3, .int (nI a))] → W p l e (headSpec w_F_meetings ({ frames := 1, cells := 0, slots := 0, locals := 22 })).room s m [Value.ref (ca_f q)].toArray below meth c s.heap [] 0 0 (MQ below (vp_Sl (fun r : Int64 => MTa (kM u) 16 r)) [Value.ref (ca_f q)].toArray s 0 0 (fun _ => False)) (F0 m 4 ls []) := by
    intro n4
    induction n4 with
    | zero => intro a x ha4 ha4b hM4 hm; exact absurd hm (Nat.not_lt_zero _)
    | succ n4 ih4 =>
      intro a x ha4 ha4b hM4 hm4 ls hl
      refine lv_iload_n hx hb d_F_meetings_4 rfl (lv_at hl 2 rfl) ?_
      refine lv_bipush (v := nI 16) hx hb d_F_meetings_5 (by decide) ?_
      refine nv_ge (tgt := 64) hx hb d_F_meetings_7 (by decide) (by omega) (by omega) (fun c_1 => ?_) (fun c_1 => ?_)
      · refine lv_lload_n hx hb d_F_meetings_64 rfl (lv_at hl 1 rfl) ?_
        exact W.lret hx hb hr (fun t9 ht9 _ => ⟨_, rfl, (by rw [show a = 16 from by omega] at hM4; exact hM4), ht9⟩) (fun _ h => by cases h) d_F_meetings_65
      · refine lv_iload_n hx hb d_F_meetings_10 rfl (lv_at hl 2 rfl) ?_
        refine lv_iconst (v := nI 1) hx hb d_F_meetings_11 (by decide) ?_
        refine lv_iadd hx hb d_F_meetings_12 ?_
        refine tp_i (nI (a + 1)) (nI_add _ _) ?_
        refine lv_istore (lv' := [(4, .int (nI (a + 1))), (0, .ref (ca_f q)), (1, .long x), (3, .int (nI a))]) hx hb d_F_meetings_13 hl (by decide) rfl (fun ls hl => ?_)
        have L15 : ∀ (n15 : Nat) (b : Nat) (y : Int64), (a < b) → (b ≤ 16) → (MTb (kM u) a b y) → 16 - b < n15 → ∀ (ls : Array Slot), lv_has ls 5 [(0, .ref (ca_f q)), (1, .long y), (3, .int (nI a)), (4, .int (nI b))] → W p l e (headSpec w_F_meetings ({ frames := 1, cells := 0, slots := 0, locals := 22 })).room s m [Value.ref (ca_f q)].toArray below meth c s.heap [] 0 0 (MQ below (vp_Sl (fun r : Int64 => MTa (kM u) 16 r)) [Value.ref (ca_f q)].toArray s 0 0 (fun _ => False)) (F0 m 15 ls []) := by
          intro n15
          induction n15 with
          | zero => intro b y hb15 hb15b hM15 hm; exact absurd hm (Nat.not_lt_zero _)
          | succ n15 ih15 =>
            intro b y hb15 hb15b hM15 hm15 ls hl
            refine lv_iload hx hb d_F_meetings_15 (lv_at hl 3 rfl) ?_
            refine lv_bipush (v := nI 16) hx hb d_F_meetings_17 (by decide) ?_
            refine nv_ge (tgt := 58) hx hb d_F_meetings_19 (by decide) (by omega) (by omega) (fun c_2 => ?_) (fun c_2 => ?_)
            · refine lv_iinc (v := nI (a + 1)) (lv' := [(3, .int (nI (a + 1))), (0, .ref (ca_f q)), (1, .long y), (4, .int (nI b))]) hx hb d_F_meetings_58 hl (k := 2) rfl (nI_1 _) (by decide) rfl (fun ls hl => ?_)
              refine lv_goto (tgt := 4) hx hb d_F_meetings_61 (by decide) ?_
              exact ih4 (a + 1) y (by omega) (by omega) (MT_e hM15 ha4 (by omega)) (by omega) ls (lv_sub hl [1, 2, 0] rfl)
            · refine lv_aload_n hx hb d_F_meetings_22 rfl (lv_at hl 0 rfl) ?_
              refine va_get (D := (dC, dI)) (ci := 1) (v := .ref (ca_p q)) (C := "SeatProofs$Flow") (T := F_F) (N := 4) hx hb hts (iu_F _) hown hK hP 2 rfl rfl 0 (by decide) (hts _ (List.mem_cons_of_mem _ iw_83)) (fun _ h9 => h9) rfl d_F_meetings_23 ?_
              refine lv_iload_n hx hb d_F_meetings_26 rfl (lv_at hl 2 rfl) ?_
              refine lv_iload hx hb d_F_meetings_27 (lv_at hl 3 rfl) ?_
              refine vp_callSi (va_Run.run (va_runV (As := [.int (nI a), .int (nI b)]) (rest := []) ⟨hx, hb, hml, hown, hts⟩ (c_P_areFriends l dC dI q u a b (by omega) (by omega)) (cwV 2 hts (good_up (good_V iw_249 iw_202 iw_203 iw_2 gg_P_areFriends)) rfl rfl rfl (by decide +kernel) ⟨Nat.le_of_ble_eq_true rfl, Nat.le_of_ble_eq_true rfl⟩) (pv_S [.int (nI a), .int (nI b)] hN hK hP (ci := 0) (q0 := 1) rfl rfl) rfl rfl hl.1 rfl (lv_room (Nat.le_of_ble_eq_true rfl)) d_F_meetings_29 ⟨Nat.le_of_ble_eq_true rfl, Nat.le_of_ble_eq_true rfl⟩)) (fun r_3 hr_3 => ?_)
              subst hr_3
              refine b0_ne (tgt := 52) hx hb d_F_meetings_32 (by decide) (fun c_4 => ?_) (fun c_4 => ?_)
              · refine lv_iinc (v := nI (b + 1)) (lv' := [(4, .int (nI (b + 1))), (0, .ref (ca_f q)), (1, .long y), (3, .int (nI a))]) hx hb d_F_meetings_52 hl (k := 3) rfl (nI_1 _) (by decide) rfl (fun ls hl => ?_)
                refine lv_goto (tgt := 15) hx hb d_F_meetings_55 (by decide) ?_
                exact ih15 (b + 1) y (by omega) (by omega) (MT_n hM15 (fun t h => absurd (h.1.symm.trans c_4) (by decide))) (by omega) ls (lv_sub hl [1, 2, 3, 0] rfl)
              · refine lv_lload_n hx hb d_F_meetings_35 rfl (lv_at hl 1 rfl) ?_
                refine lv_aload_n hx hb d_F_meetings_36 rfl (lv_at hl 0 rfl) ?_
                refine va_get (D := (dC, dI)) (ci := 1) (v := .ref (ca_fls q)) (C := "SeatProofs$Flow") (T := F_F) (N := 4) hx hb hts (iu_F _) hown hK hP 2 rfl rfl 3 (by decide) (hts _ (List.mem_cons_of_mem _ iw_86)) (fun _ h9 => h9) rfl d_F_meetings_37 ?_
                refine lv_iload_n hx hb d_F_meetings_40 rfl (lv_at hl 2 rfl) ?_
                refine ld_l hx hb hK hP 12 1 rfl rfl (k_fls u a) (by omega) (by decide) rfl d_F_meetings_41 ?_
                refine lv_aload_n hx hb d_F_meetings_42 rfl (lv_at hl 0 rfl) ?_
                refine va_get (D := (dC, dI)) (ci := 1) (v := .ref (ca_fls q)) (C := "SeatProofs$Flow") (T := F_F) (N := 4) hx hb hts (iu_F _) hown hK hP 2 rfl rfl 3 (by decide) (hts _ (List.mem_cons_of_mem _ iw_86)) (fun _ h9 => h9) rfl d_F_meetings_43 ?_
                refine lv_iload hx hb d_F_meetings_46 (lv_at hl 3 rfl) ?_
                refine ld_l hx hb hK hP 12 1 rfl rfl (k_fls u b) (by omega) (by decide) rfl d_F_meetings_48 ?_
                refine lv_land hx hb d_F_meetings_49 ?_
                refine lv_lor hx hb d_F_meetings_50 ?_
                refine lv_lstore_n (lv' := [(1, .long (y ||| ((k_fls u a) &&& (k_fls u b)))), (0, .ref (ca_f q)), (3, .int (nI a)), (4, .int (nI b))]) hx hb d_F_meetings_51 rfl hl (by decide) rfl (fun ls hl => ?_)
                refine lv_iinc (v := nI (b + 1)) (lv' := [(4, .int (nI (b + 1))), (1, .long (y ||| ((k_fls u a) &&& (k_fls u b)))), (0, .ref (ca_f q)), (3, .int (nI a))]) hx hb d_F_meetings_52 hl (k := 3) rfl (nI_1 _) (by decide) rfl (fun ls hl => ?_)
                refine lv_goto (tgt := 15) hx hb d_F_meetings_55 (by decide) ?_
                exact ih15 (b + 1) (y ||| ((k_fls u a) &&& (k_fls u b))) (by omega) (by omega) (MT_y hM15 hb15 (kM_b c_4)) (by omega) ls (lv_sub hl [2, 1, 3, 0] rfl)
        exact L15 _ (a + 1) x (by omega) (by omega) (MT_1 hM4) (Nat.lt_succ_self _) ls (lv_sub hl [1, 2, 3, 0] rfl)
  exact L4 _ 1 0 (by omega) (by omega) MT_0 (Nat.lt_succ_self _) ls (lv_sub hl [2, 1, 0] rfl)
set_option maxHeartbeats 4000000 in
set_option maxRecDepth 100000 in
theorem c_F_leastClashing (l : Launch) (dC : Nat → ClassId) (dI : Nat → Nat → Nat) (q : CA) (u : CSt) (p9 f : Nat) (hp : p9 < 64) (hf : f < 16) : Met l y_F_leastClashing w_F_leastClashing ({ frames := 2, cells := 0, slots := 0, locals := 46 }) (sPc (dC, dI) vwCl (tC q) (wC q u) [Value.ref (ca_f q), Value.int (nI p9), Value.int (nI f)]) (vp_Si (fun r : Int32 => (∃ o, 1 ≤ o ∧ o < 16 ∧ kLC u p9 f o ∧ (∀ o2, 1 ≤ o2 → o2 < o → ¬ kLC u p9 f o2) ∧ r = nI o) ∨ ((∀ o, 1 ≤ o → o < 16 → ¬ kLC u p9 f o) ∧ r = -1))) 0 0 (fun _ => False) := by
  refine Met.ofW (cc := b_F_leastClashing) (maxL := 5) (ret := (some .int)) (by decide) rfl ?_
  intro p e s m args below meth c s₁ B hml hv
  obtain ⟨rfl, hP, hK, hN⟩ := hv
  have hx := B.exec
  have hb := B.bytes
  have hr := B.returns
  have hts := atoms_spec (ws := w_F_leastClashing) B.pre
  have hown : s.vm.findClass "SeatProofs$Flow" = some m.cls := findClass_of_methodNamed B.named
  have hlocks := B.notSynchronized
  have hl := lv_entry ([Value.ref (ca_f q), Value.int (nI p9), Value.int (nI f)]) (n := 5) (Nat.le_of_ble_eq_true rfl)
  rw [lg_entry_eq]
  generalize (lg_sl ([Value.ref (ca_f q), Value.int (nI p9), Value.int (nI f)]) ++ List.replicate (5 - (lg_sl ([Value.ref (ca_f q), Value.int (nI p9), Value.int (nI f)])).length) Slot.unset).toArray = ls at hl ⊢
  have hl : lv_has ls 5 [(0, .ref (ca_f q)), (1, .int (nI p9)), (2, .int (nI f))] := hl
  refine lv_iconst (v := nI 1) hx hb d_F_leastClashing_0 (by decide) ?_
  refine lv_istore_n (lv' := [(3, .int (nI 1)), (0, .ref (ca_f q)), (1, .int (nI p9)), (2, .int (nI f))]) hx hb d_F_leastClashing_1 rfl hl (by decide) rfl (fun ls hl => ?_)
  have L2 : ∀ (n2 : Nat) (i : Nat), (1 ≤ i) → (i ≤ 16) → (∀ o, 1 ≤ o → o < i → ¬ kLC u p9 f o) → 16 - i < n2 → ∀ (ls : Array Slot), lv_has ls 5 [(0, .ref (ca_f q)), (1, .int (nI p9)), (2, .int (nI f)), (3, .int (nI i))] → W p l e (headSpec w_F_leastClashing ({ frames := 2, cells := 0, slots := 0, locals := 46 })).room s m [Value.ref (ca_f q), Value.int (nI p9), Value.int (nI f)].toArray below meth c s.heap [] 0 0 (MQ below (vp_Si (fun r : Int32 => (∃ o, 1 ≤ o ∧ o < 16 ∧ kLC u p9 f o ∧ (∀ o2, 1 ≤ o2 → o2 < o → ¬ kLC u p9 f o2) ∧ r = nI o) ∨ ((∀ o, 1 ≤ o → o < 16 → ¬ kLC u p9 f o) ∧ r = -1))) [Value.ref (ca_f q), Value.int (nI p9), Value.int (nI f)].toArray s 0 0 (fun _ => False)) (F0 m 2 ls []) := by
    intro n2
    induction n2 with
    | zero => intro i hi2 hi2b hn2 hm; exact absurd hm (Nat.not_lt_zero _)
    | succ n2 ih2 =>
      intro i hi2 hi2b hn2 hm2 ls hl
      refine lv_iload_n hx hb d_F_leastClashing_2 rfl (lv_at hl 3 rfl) ?_
      refine lv_bipush (v := nI 16) hx hb d_F_leastClashing_3 (by decide) ?_
      refine nv_ge (tgt := 74) hx hb d_F_leastClashing_5 (by decide) (by omega) (by omega) (fun c_1 => ?_) (fun c_1 => ?_)
      · refine lv_iconst (v := (-1)) hx hb d_F_leastClashing_74 (by decide) ?_
        exact W.iret hx hb hr (fun t9 ht9 _ => ⟨_, rfl, Or.inr ⟨fun o h1 h2 => hn2 o h1 (by omega), rfl⟩, ht9⟩) (fun _ h => by cases h) d_F_leastClashing_75
      · refine lv_aload_n hx hb d_F_leastClashing_8 rfl (lv_at hl 0 rfl) ?_
        refine va_get (D := (dC, dI)) (ci := 1) (v := .ref (ca_fls q)) (C := "SeatProofs$Flow") (T := F_F) (N := 4) hx hb hts (iu_F _) hown hK hP 2 rfl rfl 3 (by decide) (hts _ (List.mem_cons_of_mem _ iw_86)) (fun _ h9 => h9) rfl d_F_leastClashing_9 ?_
        refine lv_iload_n hx hb d_F_leastClashing_12 rfl (lv_at hl 3 rfl) ?_
        refine ld_l hx hb hK hP 12 1 rfl rfl (k_fls u i) (by omega) (by decide) rfl d_F_leastClashing_13 ?_
        refine lv_iload_n hx hb d_F_leastClashing_14 rfl (lv_at hl 1 rfl) ?_
        refine vp_callSi (va_Run.run (va_runSN (As := [.long (k_fls u i), .int (nI p9)]) (rest := []) ⟨hx, hb, hml, hown, hts⟩ (c_S_has l (k_fls u i) p9 hp) ⟨va_cnB 2 hts (good_up gg_S_has) rfl rfl rfl (hN _ in_221) (hts _ (List.mem_cons_of_mem _ iw_1)) (by decide +kernel) ⟨Nat.le_of_ble_eq_true rfl, Nat.le_of_ble_eq_true rfl⟩, hts _ (List.mem_cons_of_mem _ iw_191), trivial⟩ (ps_0 [.long (k_fls u i), .int (nI p9)] hN) rfl rfl hl.1 rfl (lv_room (Nat.le_of_ble_eq_true rfl)) d_F_leastClashing_15 ⟨Nat.le_of_ble_eq_true rfl, Nat.le_of_ble_eq_true rfl⟩)) (fun r_2 hr_2 => ?_)
        subst hr_2
        refine b0_eq (tgt := 68) hx hb d_F_leastClashing_18 (by decide) (fun c_3 => ?_) (fun c_3 => ?_)
        · refine lv_iinc (v := nI (i + 1)) (lv' := [(3, .int (nI (i + 1))), (0, .ref (ca_f q)), (1, .int (nI p9)), (2, .int (nI f))]) hx hb d_F_leastClashing_68 hl (k := 3) rfl (nI_1 _) (by decide) rfl (fun ls hl => ?_)
          refine lv_goto (tgt := 2) hx hb d_F_leastClashing_71 (by decide) ?_
          exact ih2 (i + 1) (by omega) (by omega) (fun o h1 h2 h => by
            by_cases e9 : o = i
            · subst e9; exact absurd (h.1.symm.trans c_3) (by decide)
            · exact hn2 o h1 (by omega) h) (by omega) ls (lv_sub hl [1, 2, 3, 0] rfl)
        · refine lv_iload_n hx hb d_F_leastClashing_21 rfl (lv_at hl 3 rfl) ?_
          refine lv_iload_n hx hb d_F_leastClashing_22 rfl (lv_at hl 2 rfl) ?_
          refine nv_eq (tgt := 68) hx hb d_F_leastClashing_23 (by decide) (by omega) (by omega) (fun c_4 => ?_) (fun c_4 => ?_)
          · refine lv_iinc (v := nI (i + 1)) (lv' := [(3, .int (nI (i + 1))), (0, .ref (ca_f q)), (1, .int (nI p9)), (2, .int (nI f))]) hx hb d_F_leastClashing_68 hl (k := 3) rfl (nI_1 _) (by decide) rfl (fun ls hl => ?_)
            refine lv_goto (tgt := 2) hx hb d_F_leastClashing_71 (by decide) ?_
            exact ih2 (i + 1) (by omega) (by omega) (fun o h1 h2 h => by
              by_cases e9 : o = i
              · subst e9; exact h.2.1 c_4
              · exact hn2 o h1 (by omega) h) (by omega) ls (lv_sub hl [1, 2, 3, 0] rfl)
          · have L59 : ∀ (b : Bool), (b = true ↔ (if f = 0 then anyB (kcl u i (bt p9)) 16 = true else t32 (k_fr u i) f = false)) → ∀ (ls : Array Slot), lv_has ls 5 [(0, .ref (ca_f q)), (1, .int (nI p9)), (2, .int (nI f)), (3, .int (nI i))] → W p l e (headSpec w_F_leastClashing ({ frames := 2, cells := 0, slots := 0, locals := 46 })).room s m [Value.ref (ca_f q), Value.int (nI p9), Value.int (nI f)].toArray below meth c s.heap [] 0 0 (MQ below (vp_Si (fun r : Int32 => (∃ o, 1 ≤ o ∧ o < 16 ∧ kLC u p9 f o ∧ (∀ o2, 1 ≤ o2 → o2 < o → ¬ kLC u p9 f o2) ∧ r = nI o) ∨ ((∀ o, 1 ≤ o → o < 16 → ¬ kLC u p9 f o) ∧ r = -1))) [Value.ref (ca_f q), Value.int (nI p9), Value.int (nI f)].toArray s 0 0 (fun _ => False)) (F0 m 59 ls [.int (bI b)]) := by
              intro b hb59 ls hl
              refine lv_istore (lv' := [(4, .int (bI b)), (0, .ref (ca_f q)), (1, .int (nI p9)), (2, .int (nI f)), (3, .int (nI i))]) hx hb d_F_leastClashing_59 hl (by decide) rfl (fun ls hl => ?_)
              refine lv_iload hx hb d_F_leastClashing_61 (lv_at hl 0 rfl) ?_
              refine b0_eq (tgt := 68) hx hb d_F_leastClashing_63 (by decide) (fun c_5 => ?_) (fun c_5 => ?_)
              · refine lv_iinc (v := nI (i + 1)) (lv' := [(3, .int (nI (i + 1))), (4, .int (bI b)), (0, .ref (ca_f q)), (1, .int (nI p9)), (2, .int (nI f))]) hx hb d_F_leastClashing_68 hl (k := 4) rfl (nI_1 _) (by decide) rfl (fun ls hl => ?_)
                refine lv_goto (tgt := 2) hx hb d_F_leastClashing_71 (by decide) ?_
                exact ih2 (i + 1) (by omega) (by omega) (fun o h1 h2 h => by
                  by_cases e9 : o = i
                  · subst e9; exact absurd ((hb59.mpr h.2.2).symm.trans c_5) (by decide)
                  · exact hn2 o h1 (by omega) h) (by omega) ls (lv_sub hl [2, 3, 4, 0] rfl)
              · refine lv_iload_n hx hb d_F_leastClashing_66 rfl (lv_at hl 4 rfl) ?_
                exact W.iret hx hb hr (fun t9 ht9 _ => ⟨_, rfl, Or.inl ⟨i, hi2, by omega, ⟨c_3, c_4, hb59.mp c_5⟩, hn2, rfl⟩, ht9⟩) (fun _ h => by cases h) d_F_leastClashing_67
            refine lv_iload_n hx hb d_F_leastClashing_26 rfl (lv_at hl 2 rfl) ?_
            refine n0_ne (tgt := 42) hx hb d_F_leastClashing_27 (by decide) (by omega) (fun c_6 => ?_) (fun c_6 => ?_)
            · refine lv_aload_n hx hb d_F_leastClashing_42 rfl (lv_at hl 0 rfl) ?_
              refine va_get (D := (dC, dI)) (ci := 1) (v := .ref (ca_p q)) (C := "SeatProofs$Flow") (T := F_F) (N := 4) hx hb hts (iu_F _) hown hK hP 2 rfl rfl 0 (by decide) (hts _ (List.mem_cons_of_mem _ iw_83)) (fun _ h9 => h9) rfl d_F_leastClashing_43 ?_
              refine lv_iload_n hx hb d_F_leastClashing_46 rfl (lv_at hl 3 rfl) ?_
              refine lv_iload_n hx hb d_F_leastClashing_47 rfl (lv_at hl 2 rfl) ?_
              refine vp_callSi (va_Run.run (va_runV (As := [.int (nI i), .int (nI f)]) (rest := []) ⟨hx, hb, hml, hown, hts⟩ (c_P_areFriends l dC dI q u i f (by omega) (by omega)) (cwV 2 hts (good_up (good_V iw_249 iw_202 iw_203 iw_2 gg_P_areFriends)) rfl rfl rfl (by decide +kernel) ⟨Nat.le_of_ble_eq_true rfl, Nat.le_of_ble_eq_true rfl⟩) (pv_S [.int (nI i), .int (nI f)] hN hK hP (ci := 0) (q0 := 1) rfl rfl) rfl rfl hl.1 rfl (lv_room (Nat.le_of_ble_eq_true rfl)) d_F_leastClashing_48 ⟨Nat.le_of_ble_eq_true rfl, Nat.le_of_ble_eq_true rfl⟩)) (fun r_7 hr_7 => ?_)
              subst hr_7
              refine b0_ne (tgt := 58) hx hb d_F_leastClashing_51 (by decide) (fun c_8 => ?_) (fun c_8 => ?_)
              · refine lv_iconst (v := nI 0) hx hb d_F_leastClashing_58 (by decide) ?_
                refine tp_i (bI false) (by decide) ?_
                exact L59 false (by rw [if_neg c_6]; exact ⟨fun h => absurd h (by decide), fun h => absurd (h.symm.trans c_8) (by decide)⟩) ls (lv_sub hl [0, 1, 2, 3] rfl)
              · refine lv_iconst (v := nI 1) hx hb d_F_leastClashing_54 (by decide) ?_
                refine lv_goto (tgt := 59) hx hb d_F_leastClashing_55 (by decide) ?_
                refine tp_i (bI true) (by decide) ?_
                exact L59 true (by rw [if_neg c_6]; exact ⟨fun _ => c_8, fun _ => rfl⟩) ls (lv_sub hl [0, 1, 2, 3] rfl)
            · refine lv_aload_n hx hb d_F_leastClashing_30 rfl (lv_at hl 0 rfl) ?_
              refine lv_iload_n hx hb d_F_leastClashing_31 rfl (lv_at hl 3 rfl) ?_
              refine lv_iload_n hx hb d_F_leastClashing_32 rfl (lv_at hl 1 rfl) ?_
              refine vp_callSl (va_Run.run (va_runSN (As := [.int (nI p9)]) (rest := [.int (nI i), .ref (ca_f q)]) ⟨hx, hb, hml, hown, hts⟩ (c_S_only l p9) ⟨va_cnB 1 hts (good_up gg_S_only) rfl rfl rfl (hN _ in_226) (hts _ (List.mem_cons_of_mem _ iw_1)) (by decide +kernel) ⟨Nat.le_of_ble_eq_true rfl, Nat.le_of_ble_eq_true rfl⟩, hts _ (List.mem_cons_of_mem _ iw_156), trivial⟩ (ps_0 [.int (nI p9)] hN) rfl rfl hl.1 rfl (lv_room (Nat.le_of_ble_eq_true rfl)) d_F_leastClashing_33 ⟨Nat.le_of_ble_eq_true rfl, Nat.le_of_ble_eq_true rfl⟩)) (fun r_9 hr_9 => ?_)
              subst hr_9
              refine vp_callSi (va_Run.run (va_runV (As := [.int (nI i), .long (bt p9)]) (rest := []) ⟨hx, hb, hml, hown, hts⟩ (c_F_clashes l dC dI q u i (bt p9) (by omega)) (cwV 2 hts (good_up (good_V iw_259 iw_260 iw_261 iw_3 gg_F_clashes)) rfl rfl rfl (by decide +kernel) ⟨Nat.le_of_ble_eq_true rfl, Nat.le_of_ble_eq_true rfl⟩) (pv_S [.int (nI i), .long (bt p9)] hN hK hP (ci := 1) (q0 := 2) rfl rfl) rfl rfl hl.1 rfl (lv_room (Nat.le_of_ble_eq_true rfl)) d_F_leastClashing_36 ⟨Nat.le_of_ble_eq_true rfl, Nat.le_of_ble_eq_true rfl⟩)) (fun r_10 hr_10 => ?_)
              subst hr_10
              refine lv_goto (tgt := 59) hx hb d_F_leastClashing_39 (by decide) ?_
              exact L59 (anyB (kcl u i (bt p9)) 16) (by rw [if_pos c_6]) ls (lv_sub hl [0, 1, 2, 3] rfl)
  exact L2 _ 1 (by omega) (by omega) (fun o h1 h2 => absurd h1 (by omega)) (Nat.lt_succ_self _) ls (lv_sub hl [1, 2, 3, 0] rfl)
set_option maxHeartbeats 4000000 in
set_option maxRecDepth 100000 in
theorem c_S_isTouched (l : Launch) (dC : Nat → ClassId) (dI : Nat → Nat → Nat) (q : CA) (u : CSt) (k x : Nat) (hk : k < 975) (hx9 : x < 64) (h1 : ∀ j, k_e1 u j < 64) (h2 : ∀ j, k_e2 u j < 64) (h3 : ∀ j, k_pf u j < 65) : Met l y_S_isTouched w_S_isTouched ({ frames := 2, cells := 0, slots := 0, locals := 42 }) (sPc (dC, dI) vwCl (tC q) (wC q u) [Value.ref (ca_o q), Value.int (nI k), Value.int (nI x)]) (vp_Si (fun r : Int32 => r = bI (kt u x k))) 0 0 (fun _ => False) := by
  refine Met.ofW (cc := b_S_isTouched) (maxL := 3) (ret := (some .boolean)) (by decide) rfl ?_
  intro p e s m args below meth c s₁ B hml hv
  obtain ⟨rfl, hP, hK, hN⟩ := hv
  have hx := B.exec
  have hb := B.bytes
  have hr := B.returns
  have hts := atoms_spec (ws := w_S_isTouched) B.pre
  have hown : s.vm.findClass "SeatProofs" = some m.cls := findClass_of_methodNamed B.named
  have hlocks := B.notSynchronized
  have hl := lv_entry ([Value.ref (ca_o q), Value.int (nI k), Value.int (nI x)]) (n := 3) (Nat.le_of_ble_eq_true rfl)
  rw [lg_entry_eq]
  generalize (lg_sl ([Value.ref (ca_o q), Value.int (nI k), Value.int (nI x)]) ++ List.replicate (3 - (lg_sl ([Value.ref (ca_o q), Value.int (nI k), Value.int (nI x)])).length) Slot.unset).toArray = ls at hl ⊢
  have hl : lv_has ls 3 [(0, .ref (ca_o q)), (1, .int (nI k)), (2, .int (nI x))] := hl
  refine lv_aload_n hx hb d_S_isTouched_0 rfl (lv_at hl 0 rfl) ?_
  refine va_get (D := (dC, dI)) (ci := 3) (v := .ref (ca_q q)) (C := "SeatProofs") (T := F_S) (N := 6) hx hb hts (iu_S _) hown hK hP 0 rfl rfl 2 (by decide) (hts _ (List.mem_cons_of_mem _ iw_126)) (fun _ h9 => h9) rfl d_S_isTouched_1 ?_
  refine va_getN (D := (dC, dI)) (ci := 2) (v := .ref (ca_pf q)) (C := "SeatProofs$Proof") (T := F_Q) (N := 5) hx hb hts (iu_Q _) hown hK hP 3 rfl rfl 1 (by decide) (NW.use hN in_106) (fun _ h9 => h9) rfl d_S_isTouched_4 ?_
  refine lv_iload_n hx hb d_S_isTouched_7 rfl (lv_at hl 1 rfl) ?_
  refine ld_i hx hb hK hP 14 0 rfl rfl (nI (k_pf u k)) (by omega) (by decide) rfl d_S_isTouched_8 ?_
  refine lv_iconst (v := nI 1) hx hb d_S_isTouched_9 (by decide) ?_
  refine lv_iload_n hx hb d_S_isTouched_10 rfl (lv_at hl 2 rfl) ?_
  refine lv_iadd hx hb d_S_isTouched_11 ?_
  refine tp_i (nI (1 + x)) (nI_add _ _) ?_
  refine nv_eq (tgt := 63) hx hb d_S_isTouched_12 (by decide) (by have := h3 k; omega) (by omega) (fun c_1 => ?_) (fun c_1 => ?_)
  · refine lv_iconst (v := nI 1) hx hb d_S_isTouched_63 (by decide) ?_
    refine lv_goto (tgt := 68) hx hb d_S_isTouched_64 (by decide) ?_
    refine tp_i (bI true) (by decide) ?_
    exact W.zret hx hb hr (bI_narrow _) (fun t9 ht9 _ => ⟨_, rfl, (by rw [kt, decide_eq_true c_1]; rfl), ht9⟩) (fun _ h => by cases h) d_S_isTouched_68
  · refine lv_aload_n hx hb d_S_isTouched_15 rfl (lv_at hl 0 rfl) ?_
    refine va_get (D := (dC, dI)) (ci := 3) (v := .ref (ca_q q)) (C := "SeatProofs") (T := F_S) (N := 6) hx hb hts (iu_S _) hown hK hP 0 rfl rfl 2 (by decide) (hts _ (List.mem_cons_of_mem _ iw_126)) (fun _ h9 => h9) rfl d_S_isTouched_16 ?_
    refine va_getN (D := (dC, dI)) (ci := 2) (v := .ref (ca_pw q)) (C := "SeatProofs$Proof") (T := F_Q) (N := 5) hx hb hts (iu_Q _) hown hK hP 3 rfl rfl 3 (by decide) (NW.use hN in_110) (fun _ h9 => h9) rfl d_S_isTouched_19 ?_
    refine lv_iload_n hx hb d_S_isTouched_22 rfl (lv_at hl 1 rfl) ?_
    refine ld_l hx hb hK hP 16 1 rfl rfl (k_pw u k) (by omega) (by decide) rfl d_S_isTouched_23 ?_
    refine lv_aload_n hx hb d_S_isTouched_24 rfl (lv_at hl 0 rfl) ?_
    refine va_get (D := (dC, dI)) (ci := 3) (v := .ref (ca_p q)) (C := "SeatProofs") (T := F_S) (N := 6) hx hb hts (iu_S _) hown hK hP 0 rfl rfl 0 (by decide) (hts _ (List.mem_cons_of_mem _ iw_124)) (fun _ h9 => h9) rfl d_S_isTouched_25 ?_
    refine va_getN (D := (dC, dI)) (ci := 0) (v := .ref (ca_e1 q)) (C := "SeatProofs$Plant") (T := F_P) (N := 12) hx hb hts (iu_P _) hown hK hP 1 rfl rfl 5 (by decide) (NW.use hN in_38) (fun _ h9 => h9) rfl d_S_isTouched_28 ?_
    refine lv_iload_n hx hb d_S_isTouched_31 rfl (lv_at hl 2 rfl) ?_
    refine ld_i hx hb hK hP 7 0 rfl rfl (nI (k_e1 u x)) (by omega) (by decide) rfl d_S_isTouched_32 ?_
    refine vp_callSi (va_Run.run (va_runS (As := [.long (k_pw u k), .int (nI (k_e1 u x))]) (rest := []) ⟨hx, hb, hml, hown, hts⟩ (c_S_has l (k_pw u k) (k_e1 u x) (h1 _)) (va_cwS 2 hts (good_up (good_S iw_417 iw_191 iw_1 gg_S_has)) rfl rfl rfl (by decide +kernel) ⟨Nat.le_of_ble_eq_true rfl, Nat.le_of_ble_eq_true rfl⟩) (ps_0 [.long (k_pw u k), .int (nI (k_e1 u x))] hN) rfl rfl hl.1 rfl (lv_room (Nat.le_of_ble_eq_true rfl)) d_S_isTouched_33 ⟨Nat.le_of_ble_eq_true rfl, Nat.le_of_ble_eq_true rfl⟩)) (fun r_2 hr_2 => ?_)
    subst hr_2
    refine b0_ne (tgt := 63) hx hb d_S_isTouched_36 (by decide) (fun c_3 => ?_) (fun c_3 => ?_)
    · refine lv_iconst (v := nI 1) hx hb d_S_isTouched_63 (by decide) ?_
      refine lv_goto (tgt := 68) hx hb d_S_isTouched_64 (by decide) ?_
      refine tp_i (bI true) (by decide) ?_
      exact W.zret hx hb hr (bI_narrow _) (fun t9 ht9 _ => ⟨_, rfl, (by rw [kt, decide_eq_false c_1, c_3]; rfl), ht9⟩) (fun _ h => by cases h) d_S_isTouched_68
    · refine lv_aload_n hx hb d_S_isTouched_39 rfl (lv_at hl 0 rfl) ?_
      refine va_get (D := (dC, dI)) (ci := 3) (v := .ref (ca_q q)) (C := "SeatProofs") (T := F_S) (N := 6) hx hb hts (iu_S _) hown hK hP 0 rfl rfl 2 (by decide) (hts _ (List.mem_cons_of_mem _ iw_126)) (fun _ h9 => h9) rfl d_S_isTouched_40 ?_
      refine va_getN (D := (dC, dI)) (ci := 2) (v := .ref (ca_pw q)) (C := "SeatProofs$Proof") (T := F_Q) (N := 5) hx hb hts (iu_Q _) hown hK hP 3 rfl rfl 3 (by decide) (NW.use hN in_110) (fun _ h9 => h9) rfl d_S_isTouched_43 ?_
      refine lv_iload_n hx hb d_S_isTouched_46 rfl (lv_at hl 1 rfl) ?_
      refine ld_l hx hb hK hP 16 1 rfl rfl (k_pw u k) (by omega) (by decide) rfl d_S_isTouched_47 ?_
      refine lv_aload_n hx hb d_S_isTouched_48 rfl (lv_at hl 0 rfl) ?_
      refine va_get (D := (dC, dI)) (ci := 3) (v := .ref (ca_p q)) (C := "SeatProofs") (T := F_S) (N := 6) hx hb hts (iu_S _) hown hK hP 0 rfl rfl 0 (by decide) (hts _ (List.mem_cons_of_mem _ iw_124)) (fun _ h9 => h9) rfl d_S_isTouched_49 ?_
      refine va_getN (D := (dC, dI)) (ci := 0) (v := .ref (ca_e2 q)) (C := "SeatProofs$Plant") (T := F_P) (N := 12) hx hb hts (iu_P _) hown hK hP 1 rfl rfl 6 (by decide) (NW.use hN in_41) (fun _ h9 => h9) rfl d_S_isTouched_52 ?_
      refine lv_iload_n hx hb d_S_isTouched_55 rfl (lv_at hl 2 rfl) ?_
      refine ld_i hx hb hK hP 8 0 rfl rfl (nI (k_e2 u x)) (by omega) (by decide) rfl d_S_isTouched_56 ?_
      refine vp_callSi (va_Run.run (va_runS (As := [.long (k_pw u k), .int (nI (k_e2 u x))]) (rest := []) ⟨hx, hb, hml, hown, hts⟩ (c_S_has l (k_pw u k) (k_e2 u x) (h2 _)) (va_cwS 2 hts (good_up (good_S iw_417 iw_191 iw_1 gg_S_has)) rfl rfl rfl (by decide +kernel) ⟨Nat.le_of_ble_eq_true rfl, Nat.le_of_ble_eq_true rfl⟩) (ps_0 [.long (k_pw u k), .int (nI (k_e2 u x))] hN) rfl rfl hl.1 rfl (lv_room (Nat.le_of_ble_eq_true rfl)) d_S_isTouched_57 ⟨Nat.le_of_ble_eq_true rfl, Nat.le_of_ble_eq_true rfl⟩)) (fun r_4 hr_4 => ?_)
      subst hr_4
      refine b0_eq (tgt := 67) hx hb d_S_isTouched_60 (by decide) (fun c_5 => ?_) (fun c_5 => ?_)
      · refine lv_iconst (v := nI 0) hx hb d_S_isTouched_67 (by decide) ?_
        refine tp_i (bI false) (by decide) ?_
        exact W.zret hx hb hr (bI_narrow _) (fun t9 ht9 _ => ⟨_, rfl, (by rw [kt, decide_eq_false c_1, c_3, c_5]; rfl), ht9⟩) (fun _ h => by cases h) d_S_isTouched_68
      · refine lv_iconst (v := nI 1) hx hb d_S_isTouched_63 (by decide) ?_
        refine lv_goto (tgt := 68) hx hb d_S_isTouched_64 (by decide) ?_
        refine tp_i (bI true) (by decide) ?_
        exact W.zret hx hb hr (bI_narrow _) (fun t9 ht9 _ => ⟨_, rfl, (by rw [kt, decide_eq_false c_1, c_3, c_5]; rfl), ht9⟩) (fun _ h => by cases h) d_S_isTouched_68
set_option maxHeartbeats 4000000 in
set_option maxRecDepth 100000 in
theorem c_S_rowsClash (l : Launch) (dC : Nat → ClassId) (dI : Nat → Nat → Nat) (q : CA) (u : CSt) (h0 : k_cnt u ≤ 975) (h1 : ∀ j, k_pf u j < 65) (h2 : ∀ j, k_pl u j < 16) (hs : ∀ x y, x < y → y < k_cnt u → k_pf u x ≤ k_pf u y) : Met l y_S_rowsClash w_S_rowsClash ({ frames := 1, cells := 0, slots := 0, locals := 22 }) (sPc (dC, dI) vwCl (tC q) (wC q u) [Value.ref (ca_o q)]) (vp_Si (fun r : Int32 => ∃ b : Bool, r = bI b ∧ (b = true ↔ ∃ x y, x < y ∧ y < k_cnt u ∧ kK u x y))) 0 0 (fun _ => False) := by
  refine Met.ofW (cc := b_S_rowsClash) (maxL := 3) (ret := (some .boolean)) (by decide) rfl ?_
  intro p e s m args below meth c s₁ B hml hv
  obtain ⟨rfl, hP, hK, hN⟩ := hv
  have hx := B.exec
  have hb := B.bytes
  have hr := B.returns
  have hts := atoms_spec (ws := w_S_rowsClash) B.pre
  have hown : s.vm.findClass "SeatProofs" = some m.cls := findClass_of_methodNamed B.named
  have hlocks := B.notSynchronized
  have hl := lv_entry ([Value.ref (ca_o q)]) (n := 3) (Nat.le_of_ble_eq_true rfl)
  rw [lg_entry_eq]
  generalize (lg_sl ([Value.ref (ca_o q)]) ++ List.replicate (3 - (lg_sl ([Value.ref (ca_o q)])).length) Slot.unset).toArray = ls at hl ⊢
  have hl : lv_has ls 3 [(0, .ref (ca_o q))] := hl
  refine lv_iconst (v := nI 0) hx hb d_S_rowsClash_0 (by decide) ?_
  refine lv_istore_n (lv' := [(1, .int (nI 0)), (0, .ref (ca_o q))]) hx hb d_S_rowsClash_1 rfl hl (by decide) rfl (fun ls hl => ?_)
  have L2 : ∀ (n2 : Nat) (x : Nat), (x ≤ k_cnt u) → (∀ p9 q9, p9 < x → p9 < q9 → q9 < k_cnt u → ¬ kK u p9 q9) → k_cnt u - x < n2 → ∀ (ls : Array Slot), lv_has ls 3 [(0, .ref (ca_o q)), (1, .int (nI x))] → W p l e (headSpec w_S_rowsClash ({ frames := 1, cells := 0, slots := 0, locals := 22 })).room s m [Value.ref (ca_o q)].toArray below meth c s.heap [] 0 0 (MQ below (vp_Si (fun r : Int32 => ∃ b : Bool, r = bI b ∧ (b = true ↔ ∃ x y, x < y ∧ y < k_cnt u ∧ kK u x y))) [Value.ref (ca_o q)].toArray s 0 0 (fun _ => False)) (F0 m 2 ls []) := by
    intro n2
    induction n2 with
    | zero => intro x hx2 hn2 hm; exact absurd hm (Nat.not_lt_zero _)
    | succ n2 ih2 =>
      intro x hx2 hn2 hm2 ls hl
      refine lv_iload_n hx hb d_S_rowsClash_2 rfl (lv_at hl 1 rfl) ?_
      refine lv_aload_n hx hb d_S_rowsClash_3 rfl (lv_at hl 0 rfl) ?_
      refine va_get (D := (dC, dI)) (ci := 3) (v := .ref (ca_q q)) (C := "SeatProofs") (T := F_S) (N := 6) hx hb hts (iu_S _) hown hK hP 0 rfl rfl 2 (by decide) (hts _ (List.mem_cons_of_mem _ iw_126)) (fun _ h9 => h9) rfl d_S_rowsClash_4 ?_
      refine va_getN (D := (dC, dI)) (ci := 2) (v := .int (nI (k_cnt u))) (C := "SeatProofs$Proof") (T := F_Q) (N := 5) hx hb hts (iu_Q _) hown hK hP 3 rfl rfl 0 (by decide) (NW.use hN in_104) (fun _ h9 => h9) rfl d_S_rowsClash_7 ?_
      refine nv_ge (tgt := 115) hx hb d_S_rowsClash_10 (by decide) (by omega) (by omega) (fun c_1 => ?_) (fun c_1 => ?_)
      · refine lv_iconst (v := nI 0) hx hb d_S_rowsClash_115 (by decide) ?_
        refine tp_i (bI false) (by decide) ?_
        exact W.zret hx hb hr (bI_narrow _) (fun t9 ht9 _ => ⟨_, rfl, ⟨false, rfl, fun h => absurd h (by decide), fun ⟨x1, y1, h3, h4, h5⟩ => absurd h5 (hn2 x1 y1 (by omega) h3 h4)⟩, ht9⟩) (fun _ h => by cases h) d_S_rowsClash_116
      · refine lv_iload_n hx hb d_S_rowsClash_13 rfl (lv_at hl 1 rfl) ?_
        refine lv_iconst (v := nI 1) hx hb d_S_rowsClash_14 (by decide) ?_
        refine lv_iadd hx hb d_S_rowsClash_15 ?_
        refine tp_i (nI (x + 1)) (nI_add _ _) ?_
        refine lv_istore_n (lv' := [(2, .int (nI (x + 1))), (0, .ref (ca_o q)), (1, .int (nI x))]) hx hb d_S_rowsClash_16 rfl hl (by decide) rfl (fun ls hl => ?_)
        have L17 : ∀ (n17 : Nat) (y : Nat), (x < y) → (y ≤ k_cnt u) → (∀ q9, x < q9 → q9 < y → ¬ kK u x q9) → k_cnt u - y < n17 → ∀ (ls : Array Slot), lv_has ls 3 [(0, .ref (ca_o q)), (1, .int (nI x)), (2, .int (nI y))] → W p l e (headSpec w_S_rowsClash ({ frames := 1, cells := 0, slots := 0, locals := 22 })).room s m [Value.ref (ca_o q)].toArray below meth c s.heap [] 0 0 (MQ below (vp_Si (fun r : Int32 => ∃ b : Bool, r = bI b ∧ (b = true ↔ ∃ x y, x < y ∧ y < k_cnt u ∧ kK u x y))) [Value.ref (ca_o q)].toArray s 0 0 (fun _ => False)) (F0 m 17 ls []) := by
          intro n17
          induction n17 with
          | zero => intro y hy17 hy17b hn17 hm; exact absurd hm (Nat.not_lt_zero _)
          | succ n17 ih17 =>
            intro y hy17 hy17b hn17 hm17 ls hl
            refine lv_iload_n hx hb d_S_rowsClash_17 rfl (lv_at hl 2 rfl) ?_
            refine lv_aload_n hx hb d_S_rowsClash_18 rfl (lv_at hl 0 rfl) ?_
            refine va_get (D := (dC, dI)) (ci := 3) (v := .ref (ca_q q)) (C := "SeatProofs") (T := F_S) (N := 6) hx hb hts (iu_S _) hown hK hP 0 rfl rfl 2 (by decide) (hts _ (List.mem_cons_of_mem _ iw_126)) (fun _ h9 => h9) rfl d_S_rowsClash_19 ?_
            refine va_getN (D := (dC, dI)) (ci := 2) (v := .int (nI (k_cnt u))) (C := "SeatProofs$Proof") (T := F_Q) (N := 5) hx hb hts (iu_Q _) hown hK hP 3 rfl rfl 0 (by decide) (NW.use hN in_104) (fun _ h9 => h9) rfl d_S_rowsClash_22 ?_
            refine nv_ge (tgt := 109) hx hb d_S_rowsClash_25 (by decide) (by omega) (by omega) (fun c_2 => ?_) (fun c_2 => ?_)
            · refine lv_iinc (v := nI (x + 1)) (lv' := [(1, .int (nI (x + 1))), (0, .ref (ca_o q)), (2, .int (nI y))]) hx hb d_S_rowsClash_109 hl (k := 1) rfl (nI_1 _) (by decide) rfl (fun ls hl => ?_)
              refine lv_goto (tgt := 2) hx hb d_S_rowsClash_112 (by decide) ?_
              exact ih2 (x + 1) (by omega) (kK_2 hn2 hn17 (fun q9 h1 h2 => absurd h2 (by omega))) (by omega) ls (lv_sub hl [1, 0] rfl)
            · refine lv_aload_n hx hb d_S_rowsClash_28 rfl (lv_at hl 0 rfl) ?_
              refine va_get (D := (dC, dI)) (ci := 3) (v := .ref (ca_q q)) (C := "SeatProofs") (T := F_S) (N := 6) hx hb hts (iu_S _) hown hK hP 0 rfl rfl 2 (by decide) (hts _ (List.mem_cons_of_mem _ iw_126)) (fun _ h9 => h9) rfl d_S_rowsClash_29 ?_
              refine va_getN (D := (dC, dI)) (ci := 2) (v := .ref (ca_pf q)) (C := "SeatProofs$Proof") (T := F_Q) (N := 5) hx hb hts (iu_Q _) hown hK hP 3 rfl rfl 1 (by decide) (NW.use hN in_106) (fun _ h9 => h9) rfl d_S_rowsClash_32 ?_
              refine lv_iload_n hx hb d_S_rowsClash_35 rfl (lv_at hl 2 rfl) ?_
              refine ld_i hx hb hK hP 14 0 rfl rfl (nI (k_pf u y)) (by omega) (by decide) rfl d_S_rowsClash_36 ?_
              refine lv_aload_n hx hb d_S_rowsClash_37 rfl (lv_at hl 0 rfl) ?_
              refine va_get (D := (dC, dI)) (ci := 3) (v := .ref (ca_q q)) (C := "SeatProofs") (T := F_S) (N := 6) hx hb hts (iu_S _) hown hK hP 0 rfl rfl 2 (by decide) (hts _ (List.mem_cons_of_mem _ iw_126)) (fun _ h9 => h9) rfl d_S_rowsClash_38 ?_
              refine va_getN (D := (dC, dI)) (ci := 2) (v := .ref (ca_pf q)) (C := "SeatProofs$Proof") (T := F_Q) (N := 5) hx hb hts (iu_Q _) hown hK hP 3 rfl rfl 1 (by decide) (NW.use hN in_106) (fun _ h9 => h9) rfl d_S_rowsClash_41 ?_
              refine lv_iload_n hx hb d_S_rowsClash_44 rfl (lv_at hl 1 rfl) ?_
              refine ld_i hx hb hK hP 14 0 rfl rfl (nI (k_pf u x)) (by omega) (by decide) rfl d_S_rowsClash_45 ?_
              refine nv_ne (tgt := 109) hx hb d_S_rowsClash_46 (by decide) (by have := h1 y; omega) (by have := h1 x; omega) (fun c_3 => ?_) (fun c_3 => ?_)
              · refine lv_iinc (v := nI (x + 1)) (lv' := [(1, .int (nI (x + 1))), (0, .ref (ca_o q)), (2, .int (nI y))]) hx hb d_S_rowsClash_109 hl (k := 1) rfl (nI_1 _) (by decide) rfl (fun ls hl => ?_)
                refine lv_goto (tgt := 2) hx hb d_S_rowsClash_112 (by decide) ?_
                exact ih2 (x + 1) (by omega) (kK_2 hn2 hn17 (kK_out hs hy17 (by omega) c_3)) (by omega) ls (lv_sub hl [1, 0] rfl)
              · refine lv_aload_n hx hb d_S_rowsClash_49 rfl (lv_at hl 0 rfl) ?_
                refine va_get (D := (dC, dI)) (ci := 3) (v := .ref (ca_q q)) (C := "SeatProofs") (T := F_S) (N := 6) hx hb hts (iu_S _) hown hK hP 0 rfl rfl 2 (by decide) (hts _ (List.mem_cons_of_mem _ iw_126)) (fun _ h9 => h9) rfl d_S_rowsClash_50 ?_
                refine va_getN (D := (dC, dI)) (ci := 2) (v := .ref (ca_pw q)) (C := "SeatProofs$Proof") (T := F_Q) (N := 5) hx hb hts (iu_Q _) hown hK hP 3 rfl rfl 3 (by decide) (NW.use hN in_110) (fun _ h9 => h9) rfl d_S_rowsClash_53 ?_
                refine lv_iload_n hx hb d_S_rowsClash_56 rfl (lv_at hl 1 rfl) ?_
                refine ld_l hx hb hK hP 16 1 rfl rfl (k_pw u x) (by omega) (by decide) rfl d_S_rowsClash_57 ?_
                refine lv_aload_n hx hb d_S_rowsClash_58 rfl (lv_at hl 0 rfl) ?_
                refine va_get (D := (dC, dI)) (ci := 3) (v := .ref (ca_q q)) (C := "SeatProofs") (T := F_S) (N := 6) hx hb hts (iu_S _) hown hK hP 0 rfl rfl 2 (by decide) (hts _ (List.mem_cons_of_mem _ iw_126)) (fun _ h9 => h9) rfl d_S_rowsClash_59 ?_
                refine va_getN (D := (dC, dI)) (ci := 2) (v := .ref (ca_pw q)) (C := "SeatProofs$Proof") (T := F_Q) (N := 5) hx hb hts (iu_Q _) hown hK hP 3 rfl rfl 3 (by decide) (NW.use hN in_110) (fun _ h9 => h9) rfl d_S_rowsClash_62 ?_
                refine lv_iload_n hx hb d_S_rowsClash_65 rfl (lv_at hl 2 rfl) ?_
                refine ld_l hx hb hK hP 16 1 rfl rfl (k_pw u y) (by omega) (by decide) rfl d_S_rowsClash_66 ?_
                refine lv_land hx hb d_S_rowsClash_67 ?_
                refine lv_lconst (v := 0) hx hb d_S_rowsClash_68 (by decide) ?_
                refine W.lcmp hx hb d_S_rowsClash_69 ?_
                refine l0_eq (tgt := 103) hx hb d_S_rowsClash_70 (by decide) (fun c_4 => ?_) (fun c_4 => ?_)
                · refine lv_iinc (v := nI (y + 1)) (lv' := [(2, .int (nI (y + 1))), (0, .ref (ca_o q)), (1, .int (nI x))]) hx hb d_S_rowsClash_103 hl (k := 2) rfl (nI_1 _) (by decide) rfl (fun ls hl => ?_)
                  refine lv_goto (tgt := 17) hx hb d_S_rowsClash_106 (by decide) ?_
                  exact ih17 (y + 1) (by omega) (by omega) (kK_17 hn17 (fun h => h.2.1 c_4)) (by omega) ls (lv_sub hl [1, 2, 0] rfl)
                · refine lv_aload_n hx hb d_S_rowsClash_73 rfl (lv_at hl 0 rfl) ?_
                  refine va_get (D := (dC, dI)) (ci := 3) (v := .ref (ca_p q)) (C := "SeatProofs") (T := F_S) (N := 6) hx hb hts (iu_S _) hown hK hP 0 rfl rfl 0 (by decide) (hts _ (List.mem_cons_of_mem _ iw_124)) (fun _ h9 => h9) rfl d_S_rowsClash_74 ?_
                  refine lv_aload_n hx hb d_S_rowsClash_77 rfl (lv_at hl 0 rfl) ?_
                  refine va_get (D := (dC, dI)) (ci := 3) (v := .ref (ca_q q)) (C := "SeatProofs") (T := F_S) (N := 6) hx hb hts (iu_S _) hown hK hP 0 rfl rfl 2 (by decide) (hts _ (List.mem_cons_of_mem _ iw_126)) (fun _ h9 => h9) rfl d_S_rowsClash_78 ?_
                  refine va_getN (D := (dC, dI)) (ci := 2) (v := .ref (ca_pl q)) (C := "SeatProofs$Proof") (T := F_Q) (N := 5) hx hb hts (iu_Q _) hown hK hP 3 rfl rfl 2 (by decide) (NW.use hN in_108) (fun _ h9 => h9) rfl d_S_rowsClash_81 ?_
                  refine lv_iload_n hx hb d_S_rowsClash_84 rfl (lv_at hl 1 rfl) ?_
                  refine ld_i hx hb hK hP 15 0 rfl rfl (nI (k_pl u x)) (by omega) (by decide) rfl d_S_rowsClash_85 ?_
                  refine lv_aload_n hx hb d_S_rowsClash_86 rfl (lv_at hl 0 rfl) ?_
                  refine va_get (D := (dC, dI)) (ci := 3) (v := .ref (ca_q q)) (C := "SeatProofs") (T := F_S) (N := 6) hx hb hts (iu_S _) hown hK hP 0 rfl rfl 2 (by decide) (hts _ (List.mem_cons_of_mem _ iw_126)) (fun _ h9 => h9) rfl d_S_rowsClash_87 ?_
                  refine va_getN (D := (dC, dI)) (ci := 2) (v := .ref (ca_pl q)) (C := "SeatProofs$Proof") (T := F_Q) (N := 5) hx hb hts (iu_Q _) hown hK hP 3 rfl rfl 2 (by decide) (NW.use hN in_108) (fun _ h9 => h9) rfl d_S_rowsClash_90 ?_
                  refine lv_iload_n hx hb d_S_rowsClash_93 rfl (lv_at hl 2 rfl) ?_
                  refine ld_i hx hb hK hP 15 0 rfl rfl (nI (k_pl u y)) (by omega) (by decide) rfl d_S_rowsClash_94 ?_
                  refine vp_callSi (va_Run.run (va_runV (As := [.int (nI (k_pl u x)), .int (nI (k_pl u y))]) (rest := []) ⟨hx, hb, hml, hown, hts⟩ (c_P_areFriends l dC dI q u (k_pl u x) (k_pl u y) (h2 _) (h2 _)) (cwV 2 hts (good_up (good_V iw_201 iw_202 iw_203 iw_2 gg_P_areFriends)) rfl rfl rfl (by decide +kernel) ⟨Nat.le_of_ble_eq_true rfl, Nat.le_of_ble_eq_true rfl⟩) (pv_S [.int (nI (k_pl u x)), .int (nI (k_pl u y))] hN hK hP (ci := 0) (q0 := 1) rfl rfl) rfl rfl hl.1 rfl (lv_room (Nat.le_of_ble_eq_true rfl)) d_S_rowsClash_95 ⟨Nat.le_of_ble_eq_true rfl, Nat.le_of_ble_eq_true rfl⟩)) (fun r_5 hr_5 => ?_)
                  subst hr_5
                  refine b0_ne (tgt := 103) hx hb d_S_rowsClash_98 (by decide) (fun c_6 => ?_) (fun c_6 => ?_)
                  · refine lv_iinc (v := nI (y + 1)) (lv' := [(2, .int (nI (y + 1))), (0, .ref (ca_o q)), (1, .int (nI x))]) hx hb d_S_rowsClash_103 hl (k := 2) rfl (nI_1 _) (by decide) rfl (fun ls hl => ?_)
                    refine lv_goto (tgt := 17) hx hb d_S_rowsClash_106 (by decide) ?_
                    exact ih17 (y + 1) (by omega) (by omega) (kK_17 hn17 (fun h => absurd (h.2.2.symm.trans c_6) (by decide))) (by omega) ls (lv_sub hl [1, 2, 0] rfl)
                  · refine lv_iconst (v := nI 1) hx hb d_S_rowsClash_101 (by decide) ?_
                    refine tp_i (bI true) (by decide) ?_
                    exact W.zret hx hb hr (bI_narrow _) (fun t9 ht9 _ => ⟨_, rfl, ⟨true, rfl, fun _ => ⟨x, y, hy17, by omega, c_3.symm, c_4, c_6⟩, fun _ => rfl⟩, ht9⟩) (fun _ h => by cases h) d_S_rowsClash_102
        exact L17 _ (x + 1) (by omega) (by omega) (fun q9 h1 h2 => absurd h1 (by omega)) (Nat.lt_succ_self _) ls (lv_sub hl [1, 2, 0] rfl)
  exact L2 _ 0 (Nat.zero_le _) (fun p9 q9 h1 => absurd h1 (Nat.not_lt_zero _)) (Nat.lt_succ_self _) ls (lv_sub hl [1, 0] rfl)
