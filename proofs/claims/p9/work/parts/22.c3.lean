set_option maxHeartbeats 4000000 in
set_option maxRecDepth 100000 in
theorem c_F_floodOf (l : Launch) (dC : Nat → ClassId) (dI : Nat → Nat → Nat) (q : CA) (u : CSt) (a : Nat) (ha : a < 16) : Met l y_F_floodOf w_F_floodOf ({ frames := 2, cells := 0, slots := 0, locals := 42 }) (sPc (dC, dI) vwCl (tC q) (wC q u) [Value.ref (ca_f q), Value.int (nI a)]) (vp_Sl (fun r : Int64 => r = kF u a)) 0 0 (fun _ => False) := by
  refine Met.ofW (cc := b_F_floodOf) (maxL := 9) (ret := (some .long)) (by decide) rfl ?_
  intro p e s m args below meth c s₁ B hml hv
  obtain ⟨rfl, hP, hK, hN⟩ := hv
  have hx := B.exec
  have hb := B.bytes
  have hr := B.returns
  have hts := atoms_spec (ws := w_F_floodOf) B.pre
  have hown : s.vm.findClass "SeatProofs$Flow" = some m.cls := findClass_of_methodNamed B.named
  have hlocks := B.notSynchronized
  have hl := lv_entry ([Value.ref (ca_f q), Value.int (nI a)]) (n := 9) (Nat.le_of_ble_eq_true rfl)
  rw [lg_entry_eq]
  generalize (lg_sl ([Value.ref (ca_f q), Value.int (nI a)]) ++ List.replicate (9 - (lg_sl ([Value.ref (ca_f q), Value.int (nI a)])).length) Slot.unset).toArray = ls at hl ⊢
  have hl : lv_has ls 9 [(0, .ref (ca_f q)), (1, .int (nI a))] := hl
  refine lv_aload_n hx hb d_F_floodOf_0 rfl (lv_at hl 0 rfl) ?_
  refine va_get (D := (dC, dI)) (ci := 1) (v := .ref (ca_p q)) (C := "SeatProofs$Flow") (T := F_F) (N := 4) hx hb hts (iu_F _) hown hK hP 2 rfl rfl 0 (by decide) (hts _ (List.mem_cons_of_mem _ iw_83)) (fun _ h9 => h9) rfl d_F_floodOf_1 ?_
  refine va_getN (D := (dC, dI)) (ci := 0) (v := .ref (ca_src q)) (C := "SeatProofs$Plant") (T := F_P) (N := 12) hx hb hts (iu_P _) hown hK hP 1 rfl rfl 3 (by decide) (NW.use hN in_34) (fun _ h9 => h9) rfl d_F_floodOf_4 ?_
  refine lv_iload_n hx hb d_F_floodOf_7 rfl (lv_at hl 1 rfl) ?_
  refine ld_l hx hb hK hP 5 1 rfl rfl (k_src u a) (by omega) (by decide) rfl d_F_floodOf_8 ?_
  refine lv_lstore_n (lv' := [(2, .long (k_src u a)), (0, .ref (ca_f q)), (1, .int (nI a))]) hx hb d_F_floodOf_9 rfl hl (by decide) rfl (fun ls hl => ?_)
  refine lv_lload_n hx hb d_F_floodOf_10 rfl (lv_at hl 0 rfl) ?_
  refine lv_lstore (lv' := [(4, .long (k_src u a)), (2, .long (k_src u a)), (0, .ref (ca_f q)), (1, .int (nI a))]) hx hb d_F_floodOf_11 hl (by decide) rfl (fun ls hl => ?_)
  refine lv_iconst (v := nI 0) hx hb d_F_floodOf_13 (by decide) ?_
  refine lv_istore (lv' := [(6, .int (nI 0)), (4, .long (k_src u a)), (2, .long (k_src u a)), (0, .ref (ca_f q)), (1, .int (nI a))]) hx hb d_F_floodOf_14 hl (by decide) rfl (fun ls hl => ?_)
  have L16 : ∀ (n16 : Nat) (n : Nat) (x : Int64) (y : Int64), (n ≤ 64) → (KI (k_ways u) (k_src u a) x y n) → 64 - n < n16 → ∀ (ls : Array Slot), lv_has ls 9 [(0, .ref (ca_f q)), (1, .int (nI a)), (2, .long x), (4, .long y), (6, .int (nI n))] → W p l e (headSpec w_F_floodOf ({ frames := 2, cells := 0, slots := 0, locals := 42 })).room s m [Value.ref (ca_f q), Value.int (nI a)].toArray below meth c s.heap [] 0 0 (MQ below (vp_Sl (fun r : Int64 => r = kF u a)) [Value.ref (ca_f q), Value.int (nI a)].toArray s 0 0 (fun _ => False)) (F0 m 16 ls []) := by
    intro n16
    induction n16 with
    | zero => intro n x y hn16 hK16 hm; exact absurd hm (Nat.not_lt_zero _)
    | succ n16 ih16 =>
      intro n x y hn16 hK16 hm16 ls hl
      refine lv_iload hx hb d_F_floodOf_16 (lv_at hl 4 rfl) ?_
      refine lv_bipush (v := nI 64) hx hb d_F_floodOf_18 (by decide) ?_
      refine nv_ge (tgt := 71) hx hb d_F_floodOf_20 (by decide) (by omega) (by omega) (fun c_1 => ?_) (fun c_1 => ?_)
      · refine lv_lload_n hx hb d_F_floodOf_71 rfl (lv_at hl 2 rfl) ?_
        exact W.lret hx hb hr (fun t9 ht9 _ => ⟨_, rfl, (KI_e hK16 (Or.inr c_1)), ht9⟩) (fun _ h => by cases h) d_F_floodOf_72
      · refine lv_lload hx hb d_F_floodOf_23 (lv_at hl 3 rfl) ?_
        refine lv_lconst (v := 0) hx hb d_F_floodOf_25 (by decide) ?_
        refine W.lcmp hx hb d_F_floodOf_26 ?_
        refine l0_eq (tgt := 71) hx hb d_F_floodOf_27 (by decide) (fun c_2 => ?_) (fun c_2 => ?_)
        · refine lv_lload_n hx hb d_F_floodOf_71 rfl (lv_at hl 2 rfl) ?_
          exact W.lret hx hb hr (fun t9 ht9 _ => ⟨_, rfl, (KI_e hK16 (Or.inl c_2)), ht9⟩) (fun _ h => by cases h) d_F_floodOf_72
        · refine lv_aload_n hx hb d_F_floodOf_30 rfl (lv_at hl 0 rfl) ?_
          refine va_get (D := (dC, dI)) (ci := 1) (v := .ref (ca_ways q)) (C := "SeatProofs$Flow") (T := F_F) (N := 4) hx hb hts (iu_F _) hown hK hP 2 rfl rfl 2 (by decide) (hts _ (List.mem_cons_of_mem _ iw_85)) (fun _ h9 => h9) rfl d_F_floodOf_31 ?_
          refine lv_lload hx hb d_F_floodOf_34 (lv_at hl 3 rfl) ?_
          refine vp_callSi (va_Run.run (va_runSN (As := [.long y]) (rest := [.ref (ca_ways q)]) ⟨hx, hb, hml, hown, hts⟩ (c_S_lowest l y) ⟨va_cnB 1 hts (good_up gg_S_lowest) rfl rfl rfl (hN _ in_235) (hts _ (List.mem_cons_of_mem _ iw_1)) (by decide +kernel) ⟨Nat.le_of_ble_eq_true rfl, Nat.le_of_ble_eq_true rfl⟩, hts _ (List.mem_cons_of_mem _ iw_236), trivial⟩ (ps_0 [.long y] hN) rfl rfl hl.1 rfl (lv_room (Nat.le_of_ble_eq_true rfl)) d_F_floodOf_36 ⟨Nat.le_of_ble_eq_true rfl, Nat.le_of_ble_eq_true rfl⟩)) (fun r_3 hr_3 => ?_)
          subst hr_3
          refine ld_l hx hb hK hP 11 1 rfl rfl (k_ways u (lowN y)) (lowN_spec y c_2).1 (by decide) rfl d_F_floodOf_39 ?_
          refine lv_lload_n hx hb d_F_floodOf_40 rfl (lv_at hl 2 rfl) ?_
          refine lv_ldc2 (v := (-1)) hx hb hown (hts _ (List.mem_cons_of_mem _ iw_244)) d_F_floodOf_41 ?_
          refine lv_lxor hx hb d_F_floodOf_44 ?_
          refine lv_land hx hb d_F_floodOf_45 ?_
          refine lv_lstore (lv' := [(7, .long ((k_ways u (lowN y)) &&& (x ^^^ ((-1))))), (0, .ref (ca_f q)), (1, .int (nI a)), (2, .long x), (4, .long y), (6, .int (nI n))]) hx hb d_F_floodOf_46 hl (by decide) rfl (fun ls hl => ?_)
          refine lv_lload_n hx hb d_F_floodOf_48 rfl (lv_at hl 3 rfl) ?_
          refine lv_lload hx hb d_F_floodOf_49 (lv_at hl 0 rfl) ?_
          refine lv_lor hx hb d_F_floodOf_51 ?_
          refine lv_lstore_n (lv' := [(2, .long (x ||| ((k_ways u (lowN y)) &&& (x ^^^ ((-1)))))), (7, .long ((k_ways u (lowN y)) &&& (x ^^^ ((-1))))), (0, .ref (ca_f q)), (1, .int (nI a)), (4, .long y), (6, .int (nI n))]) hx hb d_F_floodOf_52 rfl hl (by decide) rfl (fun ls hl => ?_)
          refine lv_lload hx hb d_F_floodOf_53 (lv_at hl 4 rfl) ?_
          refine lv_lload hx hb d_F_floodOf_55 (lv_at hl 4 rfl) ?_
          refine lv_lconst (v := 1) hx hb d_F_floodOf_57 (by decide) ?_
          refine lv_lsub hx hb d_F_floodOf_58 ?_
          refine lv_land hx hb d_F_floodOf_59 ?_
          refine lv_lload hx hb d_F_floodOf_60 (lv_at hl 1 rfl) ?_
          refine lv_lor hx hb d_F_floodOf_62 ?_
          refine lv_lstore (lv' := [(4, .long ((y &&& (y - 1)) ||| ((k_ways u (lowN y)) &&& (x ^^^ ((-1)))))), (2, .long (x ||| ((k_ways u (lowN y)) &&& (x ^^^ ((-1)))))), (7, .long ((k_ways u (lowN y)) &&& (x ^^^ ((-1))))), (0, .ref (ca_f q)), (1, .int (nI a)), (6, .int (nI n))]) hx hb d_F_floodOf_63 hl (by decide) rfl (fun ls hl => ?_)
          refine lv_iinc (v := nI (n + 1)) (lv' := [(6, .int (nI (n + 1))), (4, .long ((y &&& (y - 1)) ||| ((k_ways u (lowN y)) &&& (x ^^^ ((-1)))))), (2, .long (x ||| ((k_ways u (lowN y)) &&& (x ^^^ ((-1)))))), (7, .long ((k_ways u (lowN y)) &&& (x ^^^ ((-1))))), (0, .ref (ca_f q)), (1, .int (nI a))]) hx hb d_F_floodOf_65 hl (k := 5) rfl (nI_1 _) (by decide) rfl (fun ls hl => ?_)
          refine lv_goto (tgt := 16) hx hb d_F_floodOf_68 (by decide) ?_
          exact ih16 (n + 1) (x ||| ((k_ways u (lowN y)) &&& (x ^^^ ((-1))))) ((y &&& (y - 1)) ||| ((k_ways u (lowN y)) &&& (x ^^^ ((-1))))) (by omega) (KI_s hK16 c_2) (by omega) ls (lv_sub hl [4, 5, 2, 1, 0] rfl)
  exact L16 _ 0 (k_src u a) (k_src u a) (Nat.zero_le _) KI_0 (Nat.lt_succ_self _) ls (lv_sub hl [3, 4, 2, 1, 0] rfl)
set_option maxHeartbeats 4000000 in
set_option maxRecDepth 100000 in
theorem c_F_cutOf (l : Launch) (dC : Nat → ClassId) (dI : Nat → Nat → Nat) (q : CA) (u : CSt) (x : Int64) : Met l y_F_cutOf w_F_cutOf ({ frames := 2, cells := 0, slots := 0, locals := 42 }) (sPc (dC, dI) vwCl (tC q) (wC q u) [Value.ref (ca_f q), Value.long x]) (vp_Sl (fun r : Int64 => r = kC u x)) 0 0 (fun _ => False) := by
  refine Met.ofW (cc := b_F_cutOf) (maxL := 11) (ret := (some .long)) (by decide) rfl ?_
  intro p e s m args below meth c s₁ B hml hv
  obtain ⟨rfl, hP, hK, hN⟩ := hv
  have hx := B.exec
  have hb := B.bytes
  have hr := B.returns
  have hts := atoms_spec (ws := w_F_cutOf) B.pre
  have hown : s.vm.findClass "SeatProofs$Flow" = some m.cls := findClass_of_methodNamed B.named
  have hlocks := B.notSynchronized
  have hl := lv_entry ([Value.ref (ca_f q), Value.long x]) (n := 11) (Nat.le_of_ble_eq_true rfl)
  rw [lg_entry_eq]
  generalize (lg_sl ([Value.ref (ca_f q), Value.long x]) ++ List.replicate (11 - (lg_sl ([Value.ref (ca_f q), Value.long x])).length) Slot.unset).toArray = ls at hl ⊢
  have hl : lv_has ls 11 [(0, .ref (ca_f q)), (1, .long x)] := hl
  refine lv_lconst (v := 0) hx hb d_F_cutOf_0 (by decide) ?_
  refine lv_lstore_n (lv' := [(3, .long 0), (0, .ref (ca_f q)), (1, .long x)]) hx hb d_F_cutOf_1 rfl hl (by decide) rfl (fun ls hl => ?_)
  refine lv_lconst (v := 0) hx hb d_F_cutOf_2 (by decide) ?_
  refine lv_lstore (lv' := [(5, .long 0), (3, .long 0), (0, .ref (ca_f q)), (1, .long x)]) hx hb d_F_cutOf_3 hl (by decide) rfl (fun ls hl => ?_)
  refine lv_lload_n hx hb d_F_cutOf_5 rfl (lv_at hl 3 rfl) ?_
  refine lv_lstore (lv' := [(7, .long x), (5, .long 0), (3, .long 0), (0, .ref (ca_f q)), (1, .long x)]) hx hb d_F_cutOf_6 hl (by decide) rfl (fun ls hl => ?_)
  refine lv_iconst (v := nI 0) hx hb d_F_cutOf_8 (by decide) ?_
  refine lv_istore (lv' := [(9, .int (nI 0)), (7, .long x), (5, .long 0), (3, .long 0), (0, .ref (ca_f q)), (1, .long x)]) hx hb d_F_cutOf_9 hl (by decide) rfl (fun ls hl => ?_)
  have L11 : ∀ (n11 : Nat) (n : Nat) (e9 : Int64) (f9 : Int64) (y : Int64), (n ≤ 64) → (CI (k_ends u) (k_fal u) x e9 f9 y n) → 64 - n < n11 → ∀ (ls : Array Slot), lv_has ls 11 [(0, .ref (ca_f q)), (3, .long e9), (5, .long f9), (7, .long y), (9, .int (nI n))] → W p l e (headSpec w_F_cutOf ({ frames := 2, cells := 0, slots := 0, locals := 42 })).room s m [Value.ref (ca_f q), Value.long x].toArray below meth c s.heap [] 0 0 (MQ below (vp_Sl (fun r : Int64 => r = kC u x)) [Value.ref (ca_f q), Value.long x].toArray s 0 0 (fun _ => False)) (F0 m 11 ls []) := by
    intro n11
    induction n11 with
    | zero => intro n e9 f9 y hn11 hC11 hm; exact absurd hm (Nat.not_lt_zero _)
    | succ n11 ih11 =>
      intro n e9 f9 y hn11 hC11 hm11 ls hl
      refine lv_iload hx hb d_F_cutOf_11 (lv_at hl 4 rfl) ?_
      refine lv_bipush (v := nI 64) hx hb d_F_cutOf_13 (by decide) ?_
      refine nv_ge (tgt := 75) hx hb d_F_cutOf_15 (by decide) (by omega) (by omega) (fun c_1 => ?_) (fun c_1 => ?_)
      · refine lv_lload_n hx hb d_F_cutOf_75 rfl (lv_at hl 1 rfl) ?_
        refine lv_lload hx hb d_F_cutOf_76 (lv_at hl 2 rfl) ?_
        refine lv_land hx hb d_F_cutOf_78 ?_
        refine lv_aload_n hx hb d_F_cutOf_79 rfl (lv_at hl 0 rfl) ?_
        refine va_get (D := (dC, dI)) (ci := 1) (v := .long (k_lett u)) (C := "SeatProofs$Flow") (T := F_F) (N := 4) hx hb hts (iu_F _) hown hK hP 2 rfl rfl 1 (by decide) (hts _ (List.mem_cons_of_mem _ iw_84)) (fun _ h9 => h9) rfl d_F_cutOf_80 ?_
        refine lv_ldc2 (v := (-1)) hx hb hown (hts _ (List.mem_cons_of_mem _ iw_244)) d_F_cutOf_83 ?_
        refine lv_lxor hx hb d_F_cutOf_86 ?_
        refine lv_land hx hb d_F_cutOf_87 ?_
        exact W.lret hx hb hr (fun t9 ht9 _ => ⟨_, rfl, (by obtain ⟨q1, q2⟩ := CI_e hC11 (Or.inr c_1); rw [kC, q1, q2]), ht9⟩) (fun _ h => by cases h) d_F_cutOf_88
      · refine lv_lload hx hb d_F_cutOf_18 (lv_at hl 3 rfl) ?_
        refine lv_lconst (v := 0) hx hb d_F_cutOf_20 (by decide) ?_
        refine W.lcmp hx hb d_F_cutOf_21 ?_
        refine l0_eq (tgt := 75) hx hb d_F_cutOf_22 (by decide) (fun c_2 => ?_) (fun c_2 => ?_)
        · refine lv_lload_n hx hb d_F_cutOf_75 rfl (lv_at hl 1 rfl) ?_
          refine lv_lload hx hb d_F_cutOf_76 (lv_at hl 2 rfl) ?_
          refine lv_land hx hb d_F_cutOf_78 ?_
          refine lv_aload_n hx hb d_F_cutOf_79 rfl (lv_at hl 0 rfl) ?_
          refine va_get (D := (dC, dI)) (ci := 1) (v := .long (k_lett u)) (C := "SeatProofs$Flow") (T := F_F) (N := 4) hx hb hts (iu_F _) hown hK hP 2 rfl rfl 1 (by decide) (hts _ (List.mem_cons_of_mem _ iw_84)) (fun _ h9 => h9) rfl d_F_cutOf_80 ?_
          refine lv_ldc2 (v := (-1)) hx hb hown (hts _ (List.mem_cons_of_mem _ iw_244)) d_F_cutOf_83 ?_
          refine lv_lxor hx hb d_F_cutOf_86 ?_
          refine lv_land hx hb d_F_cutOf_87 ?_
          exact W.lret hx hb hr (fun t9 ht9 _ => ⟨_, rfl, (by obtain ⟨q1, q2⟩ := CI_e hC11 (Or.inl c_2); rw [kC, q1, q2]), ht9⟩) (fun _ h => by cases h) d_F_cutOf_88
        · refine lv_lload hx hb d_F_cutOf_25 (lv_at hl 3 rfl) ?_
          refine vp_callSi (va_Run.run (va_runSN (As := [.long y]) (rest := []) ⟨hx, hb, hml, hown, hts⟩ (c_S_lowest l y) ⟨va_cnB 1 hts (good_up gg_S_lowest) rfl rfl rfl (hN _ in_235) (hts _ (List.mem_cons_of_mem _ iw_1)) (by decide +kernel) ⟨Nat.le_of_ble_eq_true rfl, Nat.le_of_ble_eq_true rfl⟩, hts _ (List.mem_cons_of_mem _ iw_236), trivial⟩ (ps_0 [.long y] hN) rfl rfl hl.1 rfl (lv_room (Nat.le_of_ble_eq_true rfl)) d_F_cutOf_27 ⟨Nat.le_of_ble_eq_true rfl, Nat.le_of_ble_eq_true rfl⟩)) (fun r_3 hr_3 => ?_)
          subst hr_3
          refine lv_istore (lv' := [(10, .int (nI (lowN y))), (0, .ref (ca_f q)), (3, .long e9), (5, .long f9), (7, .long y), (9, .int (nI n))]) hx hb d_F_cutOf_30 hl (by decide) rfl (fun ls hl => ?_)
          refine lv_lload_n hx hb d_F_cutOf_32 rfl (lv_at hl 2 rfl) ?_
          refine lv_aload_n hx hb d_F_cutOf_33 rfl (lv_at hl 1 rfl) ?_
          refine va_get (D := (dC, dI)) (ci := 1) (v := .ref (ca_p q)) (C := "SeatProofs$Flow") (T := F_F) (N := 4) hx hb hts (iu_F _) hown hK hP 2 rfl rfl 0 (by decide) (hts _ (List.mem_cons_of_mem _ iw_83)) (fun _ h9 => h9) rfl d_F_cutOf_34 ?_
          refine va_getN (D := (dC, dI)) (ci := 0) (v := .ref (ca_ends q)) (C := "SeatProofs$Plant") (T := F_P) (N := 12) hx hb hts (iu_P _) hown hK hP 1 rfl rfl 10 (by decide) (NW.use hN in_47) (fun _ h9 => h9) rfl d_F_cutOf_37 ?_
          refine lv_iload hx hb d_F_cutOf_40 (lv_at hl 0 rfl) ?_
          refine ld_l hx hb hK hP 9 1 rfl rfl (k_ends u (lowN y)) (lowN_spec y c_2).1 (by decide) rfl d_F_cutOf_42 ?_
          refine lv_lxor hx hb d_F_cutOf_43 ?_
          refine lv_lstore_n (lv' := [(3, .long (e9 ^^^ (k_ends u (lowN y)))), (10, .int (nI (lowN y))), (0, .ref (ca_f q)), (5, .long f9), (7, .long y), (9, .int (nI n))]) hx hb d_F_cutOf_44 rfl hl (by decide) rfl (fun ls hl => ?_)
          refine lv_lload hx hb d_F_cutOf_45 (lv_at hl 3 rfl) ?_
          refine lv_aload_n hx hb d_F_cutOf_47 rfl (lv_at hl 2 rfl) ?_
          refine va_get (D := (dC, dI)) (ci := 1) (v := .ref (ca_p q)) (C := "SeatProofs$Flow") (T := F_F) (N := 4) hx hb hts (iu_F _) hown hK hP 2 rfl rfl 0 (by decide) (hts _ (List.mem_cons_of_mem _ iw_83)) (fun _ h9 => h9) rfl d_F_cutOf_48 ?_
          refine va_getN (D := (dC, dI)) (ci := 0) (v := .ref (ca_fal q)) (C := "SeatProofs$Plant") (T := F_P) (N := 12) hx hb hts (iu_P _) hown hK hP 1 rfl rfl 11 (by decide) (NW.use hN in_49) (fun _ h9 => h9) rfl d_F_cutOf_51 ?_
          refine lv_iload hx hb d_F_cutOf_54 (lv_at hl 1 rfl) ?_
          refine ld_l hx hb hK hP 10 1 rfl rfl (k_fal u (lowN y)) (lowN_spec y c_2).1 (by decide) rfl d_F_cutOf_56 ?_
          refine lv_lor hx hb d_F_cutOf_57 ?_
          refine lv_lstore (lv' := [(5, .long (f9 ||| (k_fal u (lowN y)))), (3, .long (e9 ^^^ (k_ends u (lowN y)))), (10, .int (nI (lowN y))), (0, .ref (ca_f q)), (7, .long y), (9, .int (nI n))]) hx hb d_F_cutOf_58 hl (by decide) rfl (fun ls hl => ?_)
          refine lv_lload hx hb d_F_cutOf_60 (lv_at hl 4 rfl) ?_
          refine lv_lload hx hb d_F_cutOf_62 (lv_at hl 4 rfl) ?_
          refine lv_lconst (v := 1) hx hb d_F_cutOf_64 (by decide) ?_
          refine lv_lsub hx hb d_F_cutOf_65 ?_
          refine lv_land hx hb d_F_cutOf_66 ?_
          refine lv_lstore (lv' := [(7, .long (y &&& (y - 1))), (5, .long (f9 ||| (k_fal u (lowN y)))), (3, .long (e9 ^^^ (k_ends u (lowN y)))), (10, .int (nI (lowN y))), (0, .ref (ca_f q)), (9, .int (nI n))]) hx hb d_F_cutOf_67 hl (by decide) rfl (fun ls hl => ?_)
          refine lv_iinc (v := nI (n + 1)) (lv' := [(9, .int (nI (n + 1))), (7, .long (y &&& (y - 1))), (5, .long (f9 ||| (k_fal u (lowN y)))), (3, .long (e9 ^^^ (k_ends u (lowN y)))), (10, .int (nI (lowN y))), (0, .ref (ca_f q))]) hx hb d_F_cutOf_69 hl (k := 5) rfl (nI_1 _) (by decide) rfl (fun ls hl => ?_)
          refine lv_goto (tgt := 11) hx hb d_F_cutOf_72 (by decide) ?_
          exact ih11 (n + 1) (e9 ^^^ (k_ends u (lowN y))) (f9 ||| (k_fal u (lowN y))) (y &&& (y - 1)) (by omega) (CI_s hC11 c_2) (by omega) ls (lv_sub hl [5, 3, 2, 1, 0] rfl)
  exact L11 _ 0 0 0 x (Nat.zero_le _) CI_0 (Nat.lt_succ_self _) ls (lv_sub hl [4, 3, 2, 1, 0] rfl)
set_option maxHeartbeats 4000000 in
set_option maxRecDepth 100000 in
theorem c_F_clashes (l : Launch) (dC : Nat → ClassId) (dI : Nat → Nat → Nat) (q : CA) (u : CSt) (a : Nat) (x : Int64) (ha : a < 16) : Met l y_F_clashes w_F_clashes ({ frames := 1, cells := 0, slots := 0, locals := 22 }) (sPc (dC, dI) vwCl (tC q) (wC q u) [Value.ref (ca_f q), Value.int (nI a), Value.long x]) (vp_Si (fun r : Int32 => r = bI (anyB (kcl u a x) 16))) 0 0 (fun _ => False) := by
  refine Met.ofW (cc := b_F_clashes) (maxL := 5) (ret := (some .boolean)) (by decide) rfl ?_
  intro p e s m args below meth c s₁ B hml hv
  obtain ⟨rfl, hP, hK, hN⟩ := hv
  have hx := B.exec
  have hb := B.bytes
  have hr := B.returns
  have hts := atoms_spec (ws := w_F_clashes) B.pre
  have hown : s.vm.findClass "SeatProofs$Flow" = some m.cls := findClass_of_methodNamed B.named
  have hlocks := B.notSynchronized
  have hl := lv_entry ([Value.ref (ca_f q), Value.int (nI a), Value.long x]) (n := 5) (Nat.le_of_ble_eq_true rfl)
  rw [lg_entry_eq]
  generalize (lg_sl ([Value.ref (ca_f q), Value.int (nI a), Value.long x]) ++ List.replicate (5 - (lg_sl ([Value.ref (ca_f q), Value.int (nI a), Value.long x])).length) Slot.unset).toArray = ls at hl ⊢
  have hl : lv_has ls 5 [(0, .ref (ca_f q)), (1, .int (nI a)), (2, .long x)] := hl
  refine lv_iconst (v := nI 1) hx hb d_F_clashes_0 (by decide) ?_
  refine lv_istore (lv' := [(4, .int (nI 1)), (0, .ref (ca_f q)), (1, .int (nI a)), (2, .long x)]) hx hb d_F_clashes_1 hl (by decide) rfl (fun ls hl => ?_)
  have L3 : ∀ (n3 : Nat) (i : Nat), (1 ≤ i) → (i ≤ 16) → (anyB (kcl u a x) i = false) → 16 - i < n3 → ∀ (ls : Array Slot), lv_has ls 5 [(0, .ref (ca_f q)), (1, .int (nI a)), (2, .long x), (4, .int (nI i))] → W p l e (headSpec w_F_clashes ({ frames := 1, cells := 0, slots := 0, locals := 22 })).room s m [Value.ref (ca_f q), Value.int (nI a), Value.long x].toArray below meth c s.heap [] 0 0 (MQ below (vp_Si (fun r : Int32 => r = bI (anyB (kcl u a x) 16))) [Value.ref (ca_f q), Value.int (nI a), Value.long x].toArray s 0 0 (fun _ => False)) (F0 m 3 ls []) := by
    intro n3
    induction n3 with
    | zero => intro i hi3 hi3b ha3 hm; exact absurd hm (Nat.not_lt_zero _)
    | succ n3 ih3 =>
      intro i hi3 hi3b ha3 hm3 ls hl
      refine lv_iload hx hb d_F_clashes_3 (lv_at hl 3 rfl) ?_
      refine lv_bipush (v := nI 16) hx hb d_F_clashes_5 (by decide) ?_
      refine nv_ge (tgt := 51) hx hb d_F_clashes_7 (by decide) (by omega) (by omega) (fun c_1 => ?_) (fun c_1 => ?_)
      · refine lv_iconst (v := nI 0) hx hb d_F_clashes_51 (by decide) ?_
        refine tp_i (bI false) (by decide) ?_
        exact W.zret hx hb hr (bI_narrow _) (fun t9 ht9 _ => ⟨_, rfl, (by rw [← show i = 16 from by omega, ha3]), ht9⟩) (fun _ h => by cases h) d_F_clashes_52
      · refine lv_iload hx hb d_F_clashes_10 (lv_at hl 3 rfl) ?_
        refine lv_iload_n hx hb d_F_clashes_12 rfl (lv_at hl 1 rfl) ?_
        refine nv_eq (tgt := 45) hx hb d_F_clashes_13 (by decide) (by omega) (by omega) (fun c_2 => ?_) (fun c_2 => ?_)
        · refine lv_iinc (v := nI (i + 1)) (lv' := [(4, .int (nI (i + 1))), (0, .ref (ca_f q)), (1, .int (nI a)), (2, .long x)]) hx hb d_F_clashes_45 hl (k := 3) rfl (nI_1 _) (by decide) rfl (fun ls hl => ?_)
          refine lv_goto (tgt := 3) hx hb d_F_clashes_48 (by decide) ?_
          exact ih3 (i + 1) (by omega) (by omega) (any_n ha3 (ts_nt fun h => by have h := kcl_t.mp h; exact h.2.1 c_2)) (by omega) ls (lv_sub hl [1, 2, 3, 0] rfl)
        · refine lv_aload_n hx hb d_F_clashes_16 rfl (lv_at hl 0 rfl) ?_
          refine va_get (D := (dC, dI)) (ci := 1) (v := .ref (ca_fls q)) (C := "SeatProofs$Flow") (T := F_F) (N := 4) hx hb hts (iu_F _) hown hK hP 2 rfl rfl 3 (by decide) (hts _ (List.mem_cons_of_mem _ iw_86)) (fun _ h9 => h9) rfl d_F_clashes_17 ?_
          refine lv_iload hx hb d_F_clashes_20 (lv_at hl 3 rfl) ?_
          refine ld_l hx hb hK hP 12 1 rfl rfl (k_fls u i) (by omega) (by decide) rfl d_F_clashes_22 ?_
          refine lv_lload_n hx hb d_F_clashes_23 rfl (lv_at hl 2 rfl) ?_
          refine lv_land hx hb d_F_clashes_24 ?_
          refine lv_lconst (v := 0) hx hb d_F_clashes_25 (by decide) ?_
          refine W.lcmp hx hb d_F_clashes_26 ?_
          refine l0_eq (tgt := 45) hx hb d_F_clashes_27 (by decide) (fun c_3 => ?_) (fun c_3 => ?_)
          · refine lv_iinc (v := nI (i + 1)) (lv' := [(4, .int (nI (i + 1))), (0, .ref (ca_f q)), (1, .int (nI a)), (2, .long x)]) hx hb d_F_clashes_45 hl (k := 3) rfl (nI_1 _) (by decide) rfl (fun ls hl => ?_)
            refine lv_goto (tgt := 3) hx hb d_F_clashes_48 (by decide) ?_
            exact ih3 (i + 1) (by omega) (by omega) (any_n ha3 (ts_nt fun h => by have h := kcl_t.mp h; exact h.2.2.1 c_3)) (by omega) ls (lv_sub hl [1, 2, 3, 0] rfl)
          · refine lv_aload_n hx hb d_F_clashes_30 rfl (lv_at hl 0 rfl) ?_
            refine va_get (D := (dC, dI)) (ci := 1) (v := .ref (ca_p q)) (C := "SeatProofs$Flow") (T := F_F) (N := 4) hx hb hts (iu_F _) hown hK hP 2 rfl rfl 0 (by decide) (hts _ (List.mem_cons_of_mem _ iw_83)) (fun _ h9 => h9) rfl d_F_clashes_31 ?_
            refine lv_iload_n hx hb d_F_clashes_34 rfl (lv_at hl 1 rfl) ?_
            refine lv_iload hx hb d_F_clashes_35 (lv_at hl 3 rfl) ?_
            refine vp_callSi (va_Run.run (va_runV (As := [.int (nI a), .int (nI i)]) (rest := []) ⟨hx, hb, hml, hown, hts⟩ (c_P_areFriends l dC dI q u a i (by omega) (by omega)) (cwV 2 hts (good_up (good_V iw_249 iw_202 iw_203 iw_2 gg_P_areFriends)) rfl rfl rfl (by decide +kernel) ⟨Nat.le_of_ble_eq_true rfl, Nat.le_of_ble_eq_true rfl⟩) (pv_S [.int (nI a), .int (nI i)] hN hK hP (ci := 0) (q0 := 1) rfl rfl) rfl rfl hl.1 rfl (lv_room (Nat.le_of_ble_eq_true rfl)) d_F_clashes_37 ⟨Nat.le_of_ble_eq_true rfl, Nat.le_of_ble_eq_true rfl⟩)) (fun r_4 hr_4 => ?_)
            subst hr_4
            refine b0_ne (tgt := 45) hx hb d_F_clashes_40 (by decide) (fun c_5 => ?_) (fun c_5 => ?_)
            · refine lv_iinc (v := nI (i + 1)) (lv' := [(4, .int (nI (i + 1))), (0, .ref (ca_f q)), (1, .int (nI a)), (2, .long x)]) hx hb d_F_clashes_45 hl (k := 3) rfl (nI_1 _) (by decide) rfl (fun ls hl => ?_)
              refine lv_goto (tgt := 3) hx hb d_F_clashes_48 (by decide) ?_
              exact ih3 (i + 1) (by omega) (by omega) (any_n ha3 (ts_nt fun h => by have h := kcl_t.mp h; exact absurd (h.2.2.2.symm.trans c_5) (by decide))) (by omega) ls (lv_sub hl [1, 2, 3, 0] rfl)
            · refine lv_iconst (v := nI 1) hx hb d_F_clashes_43 (by decide) ?_
              refine tp_i (bI true) (by decide) ?_
              exact W.zret hx hb hr (bI_narrow _) (fun t9 ht9 _ => ⟨_, rfl, (by rw [any_y (kcl_t.mpr ⟨hi3, c_2, c_3, c_5⟩) (show i < 16 by omega)]), ht9⟩) (fun _ h => by cases h) d_F_clashes_44
  exact L3 _ 1 (by omega) (by omega) rfl (Nat.lt_succ_self _) ls (lv_sub hl [1, 2, 3, 0] rfl)
