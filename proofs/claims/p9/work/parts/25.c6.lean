set_option maxHeartbeats 4000000 in
set_option maxRecDepth 100000 in
theorem c_S_row (l : Launch) (dC : Nat → ClassId) (dI : Nat → Nat → Nat) (q : CA) (u : CSt) (x y : Int32) (h1 : k_cnt u ≤ 975) : Met l y_S_row w_S_row ({ frames := 3, cells := 0, slots := 0, locals := 67 }) (sPc (dC, dI) vwCl (tC q) (wC q u) [Value.ref (ca_o q), Value.int x, Value.int y]) (vp_Si (fun r : Int32 => r = C_row u x y)) 0 0 (fun _ => False) := by
  refine Met.ofW (cc := b_S_row) (maxL := 3) (ret := (some .int)) (by decide) rfl ?_
  intro p e s m args below meth c s₁ B hml hv
  obtain ⟨rfl, hP, hK, hN⟩ := hv
  have hx := B.exec
  have hb := B.bytes
  have hr := B.returns
  have hts := atoms_spec (ws := w_S_row) B.pre
  have hown : s.vm.findClass "SeatProofs" = some m.cls := findClass_of_methodNamed B.named
  have hlocks := B.notSynchronized
  have hl := lv_entry ([Value.ref (ca_o q), Value.int x, Value.int y]) (n := 3) (Nat.le_of_ble_eq_true rfl)
  rw [lg_entry_eq]
  generalize (lg_sl ([Value.ref (ca_o q), Value.int x, Value.int y]) ++ List.replicate (3 - (lg_sl ([Value.ref (ca_o q), Value.int x, Value.int y])).length) Slot.unset).toArray = ls at hl ⊢
  have hl : lv_has ls 3 [(0, .ref (ca_o q)), (1, .int x), (2, .int y)] := hl
  refine lv_aload_n hx hb d_S_row_0 rfl (lv_at hl 0 rfl) ?_
  refine va_get (D := (dC, dI)) (ci := 3) (v := .ref (ca_q q)) (C := "SeatProofs") (T := F_S) (N := 6) hx hb hts (iu_S _) hown hK hP 0 rfl rfl 2 (by decide) (hts _ (List.mem_cons_of_mem _ iw_126)) (fun _ h9 => h9) rfl d_S_row_1 ?_
  refine lv_iload_n hx hb d_S_row_4 rfl (lv_at hl 1 rfl) ?_
  refine vp_callSi (va_Run.run (va_runV (As := [.int x]) (rest := []) ⟨hx, hb, hml, hown, hts⟩ (c_Q_hasRow l dC dI q u x) (cwV 1 hts (good_up (good_V iw_287 iw_288 iw_289 iw_4 gg_Q_hasRow)) rfl rfl rfl (by decide +kernel) ⟨Nat.le_of_ble_eq_true rfl, Nat.le_of_ble_eq_true rfl⟩) (pv_S [.int x] hN hK hP (ci := 2) (q0 := 3) rfl rfl) rfl rfl hl.1 rfl (lv_room (Nat.le_of_ble_eq_true rfl)) d_S_row_5 ⟨Nat.le_of_ble_eq_true rfl, Nat.le_of_ble_eq_true rfl⟩)) (fun r_1 hr_1 => ?_)
  subst hr_1
  refine b0_eq (tgt := 15) hx hb d_S_row_8 (by decide) (fun c_2 => ?_) (fun c_2 => ?_)
  · refine lv_iconst (v := (-1)) hx hb d_S_row_15 (by decide) ?_
    exact W.iret hx hb hr (fun t9 ht9 _ => ⟨_, rfl, (by rw [C_row, if_pos (Or.inl c_2)]), ht9⟩) (fun _ h => by cases h) d_S_row_16
  · have hrx : ixB x (k_cnt u) = true := c_2
    obtain ⟨i, hi, rfl⟩ := ixB_of (by show k_cnt u < 2 ^ 31; omega) hrx
    have hi : i < k_cnt u := hi
    refine lv_iload_n hx hb d_S_row_11 rfl (lv_at hl 2 rfl) ?_
    refine lv_if_ge (tgt := 17) hx hb d_S_row_12 (by decide) (fun c_3 => ?_) (fun c_3 => ?_)
    · have hry : ¬ y < 0 := Int32.not_lt.mpr c_3
      obtain ⟨ym, hym, rfl⟩ := nI_of hry
      refine lv_iload_n hx hb d_S_row_17 rfl (lv_at hl 2 rfl) ?_
      rcases (show ym = 0 ∨ ym = 1 ∨ ym = 2 ∨ ym = 3 ∨ 4 ≤ ym by omega) with rfl | rfl | rfl | rfl | hge
      · refine lv_tableIn (off := 30) (tgt := 48) hx hb d_S_row_18 (by decide) (by decide) (by decide) (by decide) ?_
        refine lv_aload_n hx hb d_S_row_48 rfl (lv_at hl 0 rfl) ?_
        refine va_get (D := (dC, dI)) (ci := 3) (v := .ref (ca_q q)) (C := "SeatProofs") (T := F_S) (N := 6) hx hb hts (iu_S _) hown hK hP 0 rfl rfl 2 (by decide) (hts _ (List.mem_cons_of_mem _ iw_126)) (fun _ h9 => h9) rfl d_S_row_49 ?_
        refine va_getN (D := (dC, dI)) (ci := 2) (v := .ref (ca_pf q)) (C := "SeatProofs$Proof") (T := F_Q) (N := 5) hx hb hts (iu_Q _) hown hK hP 3 rfl rfl 1 (by decide) (NW.use hN in_106) (fun _ h9 => h9) rfl d_S_row_52 ?_
        refine lv_iload_n hx hb d_S_row_55 rfl (lv_at hl 1 rfl) ?_
        refine ld_i hx hb hK hP 14 0 rfl rfl (nI (k_pf u i)) (by omega) (by decide) rfl d_S_row_56 ?_
        exact W.iret hx hb hr (fun t9 ht9 _ => ⟨_, rfl, (by rw [C_row, if_neg (fun h => by rcases h with h | h <;> first | exact absurd (h.symm.trans hrx) (by decide) | exact hry h), nI_clamp (show i < 2 ^ 31 by omega), nI_clamp hym, crN, if_pos rfl]), ht9⟩) (fun _ h => by cases h) d_S_row_57
      · refine lv_tableIn (off := 40) (tgt := 58) hx hb d_S_row_18 (by decide) (by decide) (by decide) (by decide) ?_
        refine lv_aload_n hx hb d_S_row_58 rfl (lv_at hl 0 rfl) ?_
        refine va_get (D := (dC, dI)) (ci := 3) (v := .ref (ca_q q)) (C := "SeatProofs") (T := F_S) (N := 6) hx hb hts (iu_S _) hown hK hP 0 rfl rfl 2 (by decide) (hts _ (List.mem_cons_of_mem _ iw_126)) (fun _ h9 => h9) rfl d_S_row_59 ?_
        refine va_getN (D := (dC, dI)) (ci := 2) (v := .ref (ca_pl q)) (C := "SeatProofs$Proof") (T := F_Q) (N := 5) hx hb hts (iu_Q _) hown hK hP 3 rfl rfl 2 (by decide) (NW.use hN in_108) (fun _ h9 => h9) rfl d_S_row_62 ?_
        refine lv_iload_n hx hb d_S_row_65 rfl (lv_at hl 1 rfl) ?_
        refine ld_i hx hb hK hP 15 0 rfl rfl (nI (k_pl u i)) (by omega) (by decide) rfl d_S_row_66 ?_
        exact W.iret hx hb hr (fun t9 ht9 _ => ⟨_, rfl, (by rw [C_row, if_neg (fun h => by rcases h with h | h <;> first | exact absurd (h.symm.trans hrx) (by decide) | exact hry h), nI_clamp (show i < 2 ^ 31 by omega), nI_clamp hym, crN, if_neg (by decide), if_pos rfl]), ht9⟩) (fun _ h => by cases h) d_S_row_67
      · refine lv_tableIn (off := 50) (tgt := 68) hx hb d_S_row_18 (by decide) (by decide) (by decide) (by decide) ?_
        refine lv_aload_n hx hb d_S_row_68 rfl (lv_at hl 0 rfl) ?_
        refine va_get (D := (dC, dI)) (ci := 3) (v := .ref (ca_q q)) (C := "SeatProofs") (T := F_S) (N := 6) hx hb hts (iu_S _) hown hK hP 0 rfl rfl 2 (by decide) (hts _ (List.mem_cons_of_mem _ iw_126)) (fun _ h9 => h9) rfl d_S_row_69 ?_
        refine va_getN (D := (dC, dI)) (ci := 2) (v := .ref (ca_pw q)) (C := "SeatProofs$Proof") (T := F_Q) (N := 5) hx hb hts (iu_Q _) hown hK hP 3 rfl rfl 3 (by decide) (NW.use hN in_110) (fun _ h9 => h9) rfl d_S_row_72 ?_
        refine lv_iload_n hx hb d_S_row_75 rfl (lv_at hl 1 rfl) ?_
        refine ld_l hx hb hK hP 16 1 rfl rfl (k_pw u i) (by omega) (by decide) rfl d_S_row_76 ?_
        refine vp_callSi (va_Run.run (va_runS (As := [.long (k_pw u i)]) (rest := []) ⟨hx, hb, hml, hown, hts⟩ (c_Lg_bitCount l (k_pw u i)) (va_cwS 1 hts (good_up (good_S iw_238 iw_239 iw_6 gg_Lg_bitCount)) rfl rfl rfl (by decide +kernel) ⟨Nat.le_of_ble_eq_true rfl, Nat.le_of_ble_eq_true rfl⟩) (ps_0 [.long (k_pw u i)] hN) rfl rfl hl.1 rfl (lv_room (Nat.le_of_ble_eq_true rfl)) d_S_row_77 ⟨Nat.le_of_ble_eq_true rfl, Nat.le_of_ble_eq_true rfl⟩)) (fun r_4 hr_4 => ?_)
        subst hr_4
        exact W.iret hx hb hr (fun t9 ht9 _ => ⟨_, rfl, (by rw [C_row, if_neg (fun h => by rcases h with h | h <;> first | exact absurd (h.symm.trans hrx) (by decide) | exact hry h), nI_clamp (show i < 2 ^ 31 by omega), nI_clamp hym, crN, if_neg (by decide), if_neg (by decide), if_pos rfl]), ht9⟩) (fun _ h => by cases h) d_S_row_80
      · refine lv_tableIn (off := 63) (tgt := 81) hx hb d_S_row_18 (by decide) (by decide) (by decide) (by decide) ?_
        refine lv_aload_n hx hb d_S_row_81 rfl (lv_at hl 0 rfl) ?_
        refine va_get (D := (dC, dI)) (ci := 3) (v := .ref (ca_q q)) (C := "SeatProofs") (T := F_S) (N := 6) hx hb hts (iu_S _) hown hK hP 0 rfl rfl 2 (by decide) (hts _ (List.mem_cons_of_mem _ iw_126)) (fun _ h9 => h9) rfl d_S_row_82 ?_
        refine va_getN (D := (dC, dI)) (ci := 2) (v := .ref (ca_pc q)) (C := "SeatProofs$Proof") (T := F_Q) (N := 5) hx hb hts (iu_Q _) hown hK hP 3 rfl rfl 4 (by decide) (NW.use hN in_112) (fun _ h9 => h9) rfl d_S_row_85 ?_
        refine lv_iload_n hx hb d_S_row_88 rfl (lv_at hl 1 rfl) ?_
        refine ld_l hx hb hK hP 17 1 rfl rfl (k_pc u i) (by omega) (by decide) rfl d_S_row_89 ?_
        refine vp_callSi (va_Run.run (va_runS (As := [.long (k_pc u i)]) (rest := []) ⟨hx, hb, hml, hown, hts⟩ (c_Lg_bitCount l (k_pc u i)) (va_cwS 1 hts (good_up (good_S iw_238 iw_239 iw_6 gg_Lg_bitCount)) rfl rfl rfl (by decide +kernel) ⟨Nat.le_of_ble_eq_true rfl, Nat.le_of_ble_eq_true rfl⟩) (ps_0 [.long (k_pc u i)] hN) rfl rfl hl.1 rfl (lv_room (Nat.le_of_ble_eq_true rfl)) d_S_row_90 ⟨Nat.le_of_ble_eq_true rfl, Nat.le_of_ble_eq_true rfl⟩)) (fun r_5 hr_5 => ?_)
        subst hr_5
        exact W.iret hx hb hr (fun t9 ht9 _ => ⟨_, rfl, (by rw [C_row, if_neg (fun h => by rcases h with h | h <;> first | exact absurd (h.symm.trans hrx) (by decide) | exact hry h), nI_clamp (show i < 2 ^ 31 by omega), nI_clamp hym, crN, if_neg (by decide), if_neg (by decide), if_neg (by decide), if_pos rfl]), ht9⟩) (fun _ h => by cases h) d_S_row_93
      · refine lv_tableOut (tgt := 94) hx hb d_S_row_18 (Or.inr (by rw [nI_toInt hym]; omega)) (by decide) ?_
        refine lv_aload_n hx hb d_S_row_94 rfl (lv_at hl 0 rfl) ?_
        refine va_get (D := (dC, dI)) (ci := 3) (v := .ref (ca_q q)) (C := "SeatProofs") (T := F_S) (N := 6) hx hb hts (iu_S _) hown hK hP 0 rfl rfl 2 (by decide) (hts _ (List.mem_cons_of_mem _ iw_126)) (fun _ h9 => h9) rfl d_S_row_95 ?_
        refine va_getN (D := (dC, dI)) (ci := 2) (v := .ref (ca_pc q)) (C := "SeatProofs$Proof") (T := F_Q) (N := 5) hx hb hts (iu_Q _) hown hK hP 3 rfl rfl 4 (by decide) (NW.use hN in_112) (fun _ h9 => h9) rfl d_S_row_98 ?_
        refine lv_iload_n hx hb d_S_row_101 rfl (lv_at hl 1 rfl) ?_
        refine ld_l hx hb hK hP 17 1 rfl rfl (k_pc u i) (by omega) (by decide) rfl d_S_row_102 ?_
        refine lv_iload_n hx hb d_S_row_103 rfl (lv_at hl 2 rfl) ?_
        refine lv_iconst (v := nI 4) hx hb d_S_row_104 (by decide) ?_
        refine lv_isub hx hb d_S_row_105 ?_
        refine tp_i (nI (ym - 4)) (pk_sub (by omega)) ?_
        refine vp_callSi (va_Run.run (va_runS (As := [.long (k_pc u i), .int (nI (ym - 4))]) (rest := []) ⟨hx, hb, hml, hown, hts⟩ (c_S_memberAt l (k_pc u i) (ym - 4) (by omega)) (va_cwS 2 hts (good_up (good_S iw_291 iw_292 iw_1 gg_S_memberAt)) rfl rfl rfl (by decide +kernel) ⟨Nat.le_of_ble_eq_true rfl, Nat.le_of_ble_eq_true rfl⟩) (ps_0 [.long (k_pc u i), .int (nI (ym - 4))] hN) rfl rfl hl.1 rfl (lv_room (Nat.le_of_ble_eq_true rfl)) d_S_row_106 ⟨Nat.le_of_ble_eq_true rfl, Nat.le_of_ble_eq_true rfl⟩)) (fun r_6 hr_6 => ?_)
        subst hr_6
        exact W.iret hx hb hr (fun t9 ht9 _ => ⟨_, rfl, (by rw [C_row, if_neg (fun h => by rcases h with h | h <;> first | exact absurd (h.symm.trans hrx) (by decide) | exact hry h), nI_clamp (show i < 2 ^ 31 by omega), nI_clamp hym, crN, if_neg (by omega), if_neg (by omega), if_neg (by omega), if_neg (by omega)]), ht9⟩) (fun _ h => by cases h) d_S_row_109
    · refine lv_iconst (v := (-1)) hx hb d_S_row_15 (by decide) ?_
      exact W.iret hx hb hr (fun t9 ht9 _ => ⟨_, rfl, (by rw [C_row, if_pos (Or.inr (Int32.not_le.mp c_3))]), ht9⟩) (fun _ h => by cases h) d_S_row_16
set_option maxHeartbeats 4000000 in
set_option maxRecDepth 100000 in
theorem c_S_isRight (l : Launch) (dC : Nat → ClassId) (dI : Nat → Nat → Nat) (q : CA) (u : CSt) (k : Nat) (hk : k < 975) (h2 : ∀ j, k_pl u j < 16) : Met l y_S_isRight w_S_isRight ({ frames := 3, cells := 0, slots := 0, locals := 72 }) (sPc (dC, dI) vwCl (tC q) (wC q u) [Value.ref (ca_o q), Value.int (nI k)]) (vp_Si (fun r : Int32 => ∃ b : Bool, r = bI b)) 0 0 (fun _ => False) := by
  refine Met.ofW (cc := b_S_isRight) (maxL := 5) (ret := (some .boolean)) (by decide) rfl ?_
  intro p e s m args below meth c s₁ B hml hv
  obtain ⟨rfl, hP, hK, hN⟩ := hv
  have hx := B.exec
  have hb := B.bytes
  have hr := B.returns
  have hts := atoms_spec (ws := w_S_isRight) B.pre
  have hown : s.vm.findClass "SeatProofs" = some m.cls := findClass_of_methodNamed B.named
  have hlocks := B.notSynchronized
  have hl := lv_entry ([Value.ref (ca_o q), Value.int (nI k)]) (n := 5) (Nat.le_of_ble_eq_true rfl)
  rw [lg_entry_eq]
  generalize (lg_sl ([Value.ref (ca_o q), Value.int (nI k)]) ++ List.replicate (5 - (lg_sl ([Value.ref (ca_o q), Value.int (nI k)])).length) Slot.unset).toArray = ls at hl ⊢
  have hl : lv_has ls 5 [(0, .ref (ca_o q)), (1, .int (nI k))] := hl
  refine lv_aload_n hx hb d_S_isRight_0 rfl (lv_at hl 0 rfl) ?_
  refine va_get (D := (dC, dI)) (ci := 3) (v := .ref (ca_q q)) (C := "SeatProofs") (T := F_S) (N := 6) hx hb hts (iu_S _) hown hK hP 0 rfl rfl 2 (by decide) (hts _ (List.mem_cons_of_mem _ iw_126)) (fun _ h9 => h9) rfl d_S_isRight_1 ?_
  refine va_getN (D := (dC, dI)) (ci := 2) (v := .ref (ca_pl q)) (C := "SeatProofs$Proof") (T := F_Q) (N := 5) hx hb hts (iu_Q _) hown hK hP 3 rfl rfl 2 (by decide) (NW.use hN in_108) (fun _ h9 => h9) rfl d_S_isRight_4 ?_
  refine lv_iload_n hx hb d_S_isRight_7 rfl (lv_at hl 1 rfl) ?_
  refine ld_i hx hb hK hP 15 0 rfl rfl (nI (k_pl u k)) (by omega) (by decide) rfl d_S_isRight_8 ?_
  refine lv_istore_n (lv' := [(2, .int (nI (k_pl u k))), (0, .ref (ca_o q)), (1, .int (nI k))]) hx hb d_S_isRight_9 rfl hl (by decide) rfl (fun ls hl => ?_)
  refine lv_aload_n hx hb d_S_isRight_10 rfl (lv_at hl 1 rfl) ?_
  refine va_get (D := (dC, dI)) (ci := 3) (v := .ref (ca_q q)) (C := "SeatProofs") (T := F_S) (N := 6) hx hb hts (iu_S _) hown hK hP 0 rfl rfl 2 (by decide) (hts _ (List.mem_cons_of_mem _ iw_126)) (fun _ h9 => h9) rfl d_S_isRight_11 ?_
  refine va_getN (D := (dC, dI)) (ci := 2) (v := .ref (ca_pw q)) (C := "SeatProofs$Proof") (T := F_Q) (N := 5) hx hb hts (iu_Q _) hown hK hP 3 rfl rfl 3 (by decide) (NW.use hN in_110) (fun _ h9 => h9) rfl d_S_isRight_14 ?_
  refine lv_iload_n hx hb d_S_isRight_17 rfl (lv_at hl 2 rfl) ?_
  refine ld_l hx hb hK hP 16 1 rfl rfl (k_pw u k) (by omega) (by decide) rfl d_S_isRight_18 ?_
  refine lv_lstore_n (lv' := [(3, .long (k_pw u k)), (2, .int (nI (k_pl u k))), (0, .ref (ca_o q)), (1, .int (nI k))]) hx hb d_S_isRight_19 rfl hl (by decide) rfl (fun ls hl => ?_)
  refine lv_lload_n hx hb d_S_isRight_20 rfl (lv_at hl 0 rfl) ?_
  refine lv_aload_n hx hb d_S_isRight_21 rfl (lv_at hl 2 rfl) ?_
  refine va_get (D := (dC, dI)) (ci := 3) (v := .ref (ca_f q)) (C := "SeatProofs") (T := F_S) (N := 6) hx hb hts (iu_S _) hown hK hP 0 rfl rfl 1 (by decide) (hts _ (List.mem_cons_of_mem _ iw_125)) (fun _ h9 => h9) rfl d_S_isRight_22 ?_
  refine va_getN (D := (dC, dI)) (ci := 1) (v := .ref (ca_fls q)) (C := "SeatProofs$Flow") (T := F_F) (N := 4) hx hb hts (iu_F _) hown hK hP 2 rfl rfl 3 (by decide) (NW.use hN in_87) (fun _ h9 => h9) rfl d_S_isRight_25 ?_
  refine lv_iload_n hx hb d_S_isRight_28 rfl (lv_at hl 1 rfl) ?_
  refine ld_l hx hb hK hP 12 1 rfl rfl (k_fls u (k_pl u k)) (h2 _) (by decide) rfl d_S_isRight_29 ?_
  refine W.lcmp hx hb d_S_isRight_30 ?_
  refine l0_ne (tgt := 71) hx hb d_S_isRight_31 (by decide) (fun c_1 => ?_) (fun c_1 => ?_)
  · refine lv_iconst (v := nI 0) hx hb d_S_isRight_71 (by decide) ?_
    refine tp_i (bI false) (by decide) ?_
    exact W.zret hx hb hr (bI_narrow _) (fun t9 ht9 _ => ⟨_, rfl, ⟨_, rfl⟩, ht9⟩) (fun _ h => by cases h) d_S_isRight_72
  · refine lv_aload_n hx hb d_S_isRight_34 rfl (lv_at hl 2 rfl) ?_
    refine va_get (D := (dC, dI)) (ci := 3) (v := .ref (ca_q q)) (C := "SeatProofs") (T := F_S) (N := 6) hx hb hts (iu_S _) hown hK hP 0 rfl rfl 2 (by decide) (hts _ (List.mem_cons_of_mem _ iw_126)) (fun _ h9 => h9) rfl d_S_isRight_35 ?_
    refine va_getN (D := (dC, dI)) (ci := 2) (v := .ref (ca_pc q)) (C := "SeatProofs$Proof") (T := F_Q) (N := 5) hx hb hts (iu_Q _) hown hK hP 3 rfl rfl 4 (by decide) (NW.use hN in_112) (fun _ h9 => h9) rfl d_S_isRight_38 ?_
    refine lv_iload_n hx hb d_S_isRight_41 rfl (lv_at hl 3 rfl) ?_
    refine ld_l hx hb hK hP 17 1 rfl rfl (k_pc u k) (by omega) (by decide) rfl d_S_isRight_42 ?_
    refine lv_aload_n hx hb d_S_isRight_43 rfl (lv_at hl 2 rfl) ?_
    refine va_get (D := (dC, dI)) (ci := 3) (v := .ref (ca_f q)) (C := "SeatProofs") (T := F_S) (N := 6) hx hb hts (iu_S _) hown hK hP 0 rfl rfl 1 (by decide) (hts _ (List.mem_cons_of_mem _ iw_125)) (fun _ h9 => h9) rfl d_S_isRight_44 ?_
    refine lv_lload_n hx hb d_S_isRight_47 rfl (lv_at hl 0 rfl) ?_
    refine vp_callSl (va_Run.run (va_runV (As := [.long (k_pw u k)]) (rest := [.long (k_pc u k)]) ⟨hx, hb, hml, hown, hts⟩ (c_F_cutOf l dC dI q u (k_pw u k)) (cwV 1 hts (good_up (good_V iw_267 iw_268 iw_269 iw_3 gg_F_cutOf)) rfl rfl rfl (by decide +kernel) ⟨Nat.le_of_ble_eq_true rfl, Nat.le_of_ble_eq_true rfl⟩) (pv_S [.long (k_pw u k)] hN hK hP (ci := 1) (q0 := 2) rfl rfl) rfl rfl hl.1 rfl (lv_room (Nat.le_of_ble_eq_true rfl)) d_S_isRight_48 ⟨Nat.le_of_ble_eq_true rfl, Nat.le_of_ble_eq_true rfl⟩)) (fun r_2 hr_2 => ?_)
    subst hr_2
    refine W.lcmp hx hb d_S_isRight_51 ?_
    refine l0_ne (tgt := 71) hx hb d_S_isRight_52 (by decide) (fun c_3 => ?_) (fun c_3 => ?_)
    · refine lv_iconst (v := nI 0) hx hb d_S_isRight_71 (by decide) ?_
      refine tp_i (bI false) (by decide) ?_
      exact W.zret hx hb hr (bI_narrow _) (fun t9 ht9 _ => ⟨_, rfl, ⟨_, rfl⟩, ht9⟩) (fun _ h => by cases h) d_S_isRight_72
    · refine lv_aload_n hx hb d_S_isRight_55 rfl (lv_at hl 2 rfl) ?_
      refine va_get (D := (dC, dI)) (ci := 3) (v := .ref (ca_f q)) (C := "SeatProofs") (T := F_S) (N := 6) hx hb hts (iu_S _) hown hK hP 0 rfl rfl 1 (by decide) (hts _ (List.mem_cons_of_mem _ iw_125)) (fun _ h9 => h9) rfl d_S_isRight_56 ?_
      refine lv_iload_n hx hb d_S_isRight_59 rfl (lv_at hl 1 rfl) ?_
      refine lv_lload_n hx hb d_S_isRight_60 rfl (lv_at hl 0 rfl) ?_
      refine vp_callSi (va_Run.run (va_runV (As := [.int (nI (k_pl u k)), .long (k_pw u k)]) (rest := []) ⟨hx, hb, hml, hown, hts⟩ (c_F_clashes l dC dI q u (k_pl u k) (k_pw u k) (h2 _)) (cwV 2 hts (good_up (good_V iw_302 iw_260 iw_261 iw_3 gg_F_clashes)) rfl rfl rfl (by decide +kernel) ⟨Nat.le_of_ble_eq_true rfl, Nat.le_of_ble_eq_true rfl⟩) (pv_S [.int (nI (k_pl u k)), .long (k_pw u k)] hN hK hP (ci := 1) (q0 := 2) rfl rfl) rfl rfl hl.1 rfl (lv_room (Nat.le_of_ble_eq_true rfl)) d_S_isRight_61 ⟨Nat.le_of_ble_eq_true rfl, Nat.le_of_ble_eq_true rfl⟩)) (fun r_4 hr_4 => ?_)
      subst hr_4
      refine b0_ne (tgt := 71) hx hb d_S_isRight_64 (by decide) (fun c_5 => ?_) (fun c_5 => ?_)
      · refine lv_iconst (v := nI 0) hx hb d_S_isRight_71 (by decide) ?_
        refine tp_i (bI false) (by decide) ?_
        exact W.zret hx hb hr (bI_narrow _) (fun t9 ht9 _ => ⟨_, rfl, ⟨_, rfl⟩, ht9⟩) (fun _ h => by cases h) d_S_isRight_72
      · refine lv_iconst (v := nI 1) hx hb d_S_isRight_67 (by decide) ?_
        refine lv_goto (tgt := 72) hx hb d_S_isRight_68 (by decide) ?_
        refine tp_i (bI true) (by decide) ?_
        exact W.zret hx hb hr (bI_narrow _) (fun t9 ht9 _ => ⟨_, rfl, ⟨_, rfl⟩, ht9⟩) (fun _ h => by cases h) d_S_isRight_72
set_option maxHeartbeats 4000000 in
set_option maxRecDepth 100000 in
theorem c_S_addRows (l : Launch) (dC : Nat → ClassId) (dI : Nat → Nat → Nat) (q : CA) (u : CSt) (sz : Nat) (th : Nat → Bool) (F9 C9 : Nat → Nat → Int64) (f : Nat) (h0 : th 0 = false) (hf : f ≤ 64) (hth : ∀ a, 1 ≤ a → a < 16 → th a = decide (¬ k_fls u a = 0) ∧ F9 a f = k_fls u a ∧ C9 a f = kC u (k_fls u a)) (hR : RT th F9 C9 f 1 (k_cnt u) (k_pf u) (k_pl u) (k_pw u) (k_pc u)) (b1 : ∀ j, k_pf u j < 65) (b2 : ∀ j, k_pl u j < 16) : Met l y_S_addRows w_S_addRows ({ frames := 3, cells := 0, slots := 0, locals := 72 }) (qPc (dC, dI) vwCl (tC q) (wC q u) sz [Value.ref (ca_o q), Value.int (nI f)]) (va_Qv (fun z : CSt => ∃ (n : Nat) (g1 g2 : Nat → Nat) (g3 g4 : Nat → Int64), RT th F9 C9 f 16 n g1 g2 g3 g4 ∧ (∀ j, g1 j < 65) ∧ (∀ j, g2 j < 16) ∧ z = k_s_pc (k_s_pw (k_s_pl (k_s_pf (k_s_cnt u n) g1) g2) g3) g4) (qB (dC, dI) vwCl (tC q) (wC q u) sz (wC q)) (va_A (wC q u) sz)) 0 0 (va_A (wC q u) sz) := by
  refine Met.ofW (cc := b_S_addRows) (maxL := 5) (ret := none) (by decide) rfl ?_
  intro p e s m args below meth c s₁ B hml hv
  obtain ⟨rfl, hsz, hP, hK, hD0, hN⟩ := hv
  have hx := B.exec
  have hb := B.bytes
  have hr := B.returns
  have hts := atoms_spec (ws := w_S_addRows) B.pre
  have hown : s.vm.findClass "SeatProofs" = some m.cls := findClass_of_methodNamed B.named
  have hlocks := B.notSynchronized
  subst hsz
  have hD := hD0.self (sz := s.heap.size)
  have hA : ∀ z : Nat, s.heap.size ≤ z → va_A (wC q u) s.heap.size z := fun z h => Or.inr h
  have hS : va_S (va_A (wC q u) s.heap.size) s.heap s.heap [] := va_S.rf
  have hl := lv_entry ([Value.ref (ca_o q), Value.int (nI f)]) (n := 5) (Nat.le_of_ble_eq_true rfl)
  rw [lg_entry_eq]
  generalize (lg_sl ([Value.ref (ca_o q), Value.int (nI f)]) ++ List.replicate (5 - (lg_sl ([Value.ref (ca_o q), Value.int (nI f)])).length) Slot.unset).toArray = ls at hl ⊢
  have hl : lv_has ls 5 [(0, .ref (ca_o q)), (1, .int (nI f))] := hl
  refine lv_iconst (v := nI 1) hx hb d_S_addRows_0 (by decide) ?_
  refine lv_istore_n (lv' := [(2, .int (nI 1)), (0, .ref (ca_o q)), (1, .int (nI f))]) hx hb d_S_addRows_1 rfl hl (by decide) rfl (fun ls hl => ?_)
  have L2 : ∀ (n2 : Nat) (a : Nat) (n : Nat) (g1 : Nat → Nat) (g2 : Nat → Nat) (g3 : Nat → Int64) (g4 : Nat → Int64), (1 ≤ a) → (a ≤ 16) → (RT th F9 C9 f a n g1 g2 g3 g4) → (∀ j, g1 j < 65) → (∀ j, g2 j < 16) → 16 - a < n2 → ∀ (H : Heap) (locs : List Loc) (ls : Array Slot), va_P (dC, dI) vwCl (wCx q (k_fu u) (k_re u) (k_nS u) (k_nV u) (k_opn u) (k_uns u) (k_dbl u) (k_lett u) n (k_lev u) (k_src u) (k_fr u) (k_e1 u) (k_e2 u) (k_ends u) (k_fal u) (k_ways u) (k_fls u) (k_fnd u) g1 g2 g3 g4) H → va_D (va_A (wC q u) s.heap.size) (wCx q (k_fu u) (k_re u) (k_nS u) (k_nV u) (k_opn u) (k_uns u) (k_dbl u) (k_lett u) n (k_lev u) (k_src u) (k_fr u) (k_e1 u) (k_e2 u) (k_ends u) (k_fal u) (k_ways u) (k_fls u) (k_fnd u) g1 g2 g3 g4) → va_S (va_A (wC q u) s.heap.size) s.heap H locs → lv_has ls 5 [(0, .ref (ca_o q)), (1, .int (nI f)), (2, .int (nI a))] → W p l e (headSpec w_S_addRows ({ frames := 3, cells := 0, slots := 0, locals := 72 })).room s m [Value.ref (ca_o q), Value.int (nI f)].toArray below meth c H locs 0 0 (MQ below (va_Qv (fun z : CSt => ∃ (n : Nat) (g1 g2 : Nat → Nat) (g3 g4 : Nat → Int64), RT th F9 C9 f 16 n g1 g2 g3 g4 ∧ (∀ j, g1 j < 65) ∧ (∀ j, g2 j < 16) ∧ z = k_s_pc (k_s_pw (k_s_pl (k_s_pf (k_s_cnt u n) g1) g2) g3) g4) (qB (dC, dI) vwCl (tC q) (wC q u) s.heap.size (wC q)) (va_A (wC q u) s.heap.size)) [Value.ref (ca_o q), Value.int (nI f)].toArray s 0 0 (va_A (wC q u) s.heap.size)) (F0 m 2 ls []) := by
    intro n2
    induction n2 with
    | zero => intro a n g1 g2 g3 g4 ha2 ha2b hR2 hp1 hp2 hm; exact absurd hm (Nat.not_lt_zero _)
    | succ n2 ih2 =>
      intro a n g1 g2 g3 g4 ha2 ha2b hR2 hp1 hp2 hm2 H locs ls hP hD hS hl
      refine lv_iload_n hx hb d_S_addRows_2 rfl (lv_at hl 2 rfl) ?_
      refine lv_bipush (v := nI 16) hx hb d_S_addRows_3 (by decide) ?_
      refine nv_ge (tgt := 48) hx hb d_S_addRows_5 (by decide) (by omega) (by omega) (fun c_1 => ?_) (fun c_1 => ?_)
      · exact W.vret hx hb hr (fun t9 ht9 hW9 => ⟨⟨(k_mk (k_fu u) (k_re u) (k_nS u) (k_nV u) (k_opn u) (k_uns u) (k_dbl u) (k_lett u) n (k_lev u) (k_src u) (k_fr u) (k_e1 u) (k_e2 u) (k_ends u) (k_fal u) (k_ways u) (k_fls u) (k_fnd u) g1 g2 g3 g4), rfl, ⟨n, g1, g2, g3, g4, by rw [show 16 = a from by omega]; exact hR2, hp1, hp2, rfl⟩, by rw [ht9]; exact hP, va_K.moved hW9.alike hK, hD⟩, hS.F ht9⟩) hS.2.2 d_S_addRows_48
      · refine lv_aload_n hx hb d_S_addRows_8 rfl (lv_at hl 0 rfl) ?_
        refine va_get (D := (dC, dI)) (ci := 3) (v := .ref (ca_f q)) (C := "SeatProofs") (T := F_S) (N := 6) hx hb hts (iu_S _) hown hK hP 0 rfl rfl 1 (by decide) (hts _ (List.mem_cons_of_mem _ iw_125)) (fun _ h9 => h9) rfl d_S_addRows_9 ?_
        refine va_getN (D := (dC, dI)) (ci := 1) (v := .ref (ca_fls q)) (C := "SeatProofs$Flow") (T := F_F) (N := 4) hx hb hts (iu_F _) hown hK hP 2 rfl rfl 3 (by decide) (NW.use hN in_87) (fun _ h9 => h9) rfl d_S_addRows_12 ?_
        refine lv_iload_n hx hb d_S_addRows_15 rfl (lv_at hl 2 rfl) ?_
        refine ld_l hx hb hK hP 12 1 rfl rfl (k_fls u a) (by omega) (by decide) rfl d_S_addRows_16 ?_
        refine lv_lstore_n (lv' := [(3, .long (k_fls u a)), (0, .ref (ca_o q)), (1, .int (nI f)), (2, .int (nI a))]) hx hb d_S_addRows_17 rfl hl (by decide) rfl (fun ls hl => ?_)
        refine lv_lload_n hx hb d_S_addRows_18 rfl (lv_at hl 0 rfl) ?_
        refine lv_lconst (v := 0) hx hb d_S_addRows_19 (by decide) ?_
        refine W.lcmp hx hb d_S_addRows_20 ?_
        refine l0_eq (tgt := 42) hx hb d_S_addRows_21 (by decide) (fun c_2 => ?_) (fun c_2 => ?_)
        · refine lv_iinc (v := nI (a + 1)) (lv' := [(2, .int (nI (a + 1))), (3, .long (k_fls u a)), (0, .ref (ca_o q)), (1, .int (nI f))]) hx hb d_S_addRows_42 hl (k := 3) rfl (nI_1 _) (by decide) rfl (fun ls hl => ?_)
          refine lv_goto (tgt := 2) hx hb d_S_addRows_45 (by decide) ?_
          exact ih2 (a + 1) n g1 g2 g3 g4 (by omega) (by omega) (RT_f hR2 (by rw [(hth a ha2 (by omega)).1]; exact decide_eq_false (fun h => h c_2))) hp1 hp2 (by omega) _ _ ls hP hD hS (lv_sub hl [2, 3, 0] rfl)
        · refine lv_aload_n hx hb d_S_addRows_24 rfl (lv_at hl 1 rfl) ?_
          refine va_get (D := (dC, dI)) (ci := 3) (v := .ref (ca_q q)) (C := "SeatProofs") (T := F_S) (N := 6) hx hb hts (iu_S _) hown hK hP 0 rfl rfl 2 (by decide) (hts _ (List.mem_cons_of_mem _ iw_126)) (fun _ h9 => h9) rfl d_S_addRows_25 ?_
          refine lv_iload_n hx hb d_S_addRows_28 rfl (lv_at hl 2 rfl) ?_
          refine lv_iload_n hx hb d_S_addRows_29 rfl (lv_at hl 3 rfl) ?_
          refine lv_lload_n hx hb d_S_addRows_30 rfl (lv_at hl 0 rfl) ?_
          refine lv_aload_n hx hb d_S_addRows_31 rfl (lv_at hl 1 rfl) ?_
          refine va_get (D := (dC, dI)) (ci := 3) (v := .ref (ca_f q)) (C := "SeatProofs") (T := F_S) (N := 6) hx hb hts (iu_S _) hown hK hP 0 rfl rfl 1 (by decide) (hts _ (List.mem_cons_of_mem _ iw_125)) (fun _ h9 => h9) rfl d_S_addRows_32 ?_
          refine lv_lload_n hx hb d_S_addRows_35 rfl (lv_at hl 0 rfl) ?_
          refine vp_callSl (va_Run.run (va_runV (As := [.long (k_fls u a)]) (rest := [.long (k_fls u a), .int (nI a), .int (nI f), .ref (ca_q q)]) ⟨hx, hb, hml, hown, hts⟩ (c_F_cutOf l dC dI q (k_mk (k_fu u) (k_re u) (k_nS u) (k_nV u) (k_opn u) (k_uns u) (k_dbl u) (k_lett u) n (k_lev u) (k_src u) (k_fr u) (k_e1 u) (k_e2 u) (k_ends u) (k_fal u) (k_ways u) (k_fls u) (k_fnd u) g1 g2 g3 g4) (k_fls u a)) (cwV 1 hts (good_up (good_V iw_267 iw_268 iw_269 iw_3 gg_F_cutOf)) rfl rfl rfl (by decide +kernel) ⟨Nat.le_of_ble_eq_true rfl, Nat.le_of_ble_eq_true rfl⟩) (pv_S [.long (k_fls u a)] hN hK hP (ci := 1) (q0 := 2) rfl rfl) rfl rfl hl.1 rfl (lv_room (Nat.le_of_ble_eq_true rfl)) d_S_addRows_36 ⟨Nat.le_of_ble_eq_true rfl, Nat.le_of_ble_eq_true rfl⟩)) (fun r_3 hr_3 => ?_)
          subst hr_3
          refine tp_l (kC u (k_fls u a)) (kC_cg rfl rfl rfl) ?_
          refine cq_v (va_runV (As := [.int (nI f), .int (nI a), .long (k_fls u a), .long (kC u (k_fls u a))]) (rest := []) ⟨hx, hb, hml, hown, hts⟩ (c_Q_add l dC dI q (k_mk (k_fu u) (k_re u) (k_nS u) (k_nV u) (k_opn u) (k_uns u) (k_dbl u) (k_lett u) n (k_lev u) (k_src u) (k_fr u) (k_e1 u) (k_e2 u) (k_ends u) (k_fal u) (k_ways u) (k_fls u) (k_fnd u) g1 g2 g3 g4) _ f a (k_fls u a) (kC u (k_fls u a)) (RT_lt hR2 h0 hf ha2 (by omega))) (cwV 4 hts (good_up (good_V iw_271 iw_272 iw_273 iw_4 gg_Q_add)) rfl rfl rfl (by decide +kernel) ⟨Nat.le_of_ble_eq_true rfl, Nat.le_of_ble_eq_true rfl⟩) (pv_Q [.int (nI f), .int (nI a), .long (k_fls u a), .long (kC u (k_fls u a))] hN hK hP hD (ci := 2) (q0 := 3) rfl rfl) rfl rfl hl.1 rfl (lv_room (Nat.le_of_ble_eq_true rfl)) d_S_addRows_39 ⟨Nat.le_of_ble_eq_true rfl, Nat.le_of_ble_eq_true rfl⟩) hD hS hA (fun z_5 H locs hr_4 hP hD hS => ?_)
          subst hr_4
          have hP : va_P (dC, dI) vwCl (wCx q (k_fu u) (k_re u) (k_nS u) (k_nV u) (k_opn u) (k_uns u) (k_dbl u) (k_lett u) (n + 1) (k_lev u) (k_src u) (k_fr u) (k_e1 u) (k_e2 u) (k_ends u) (k_fal u) (k_ways u) (k_fls u) (k_fnd u) (va_up g1 n f) (va_up g2 n a) (va_up g3 n (k_fls u a)) (va_up g4 n (kC u (k_fls u a)))) H := hP
          have hD : va_D (va_A (wC q u) s.heap.size) (wCx q (k_fu u) (k_re u) (k_nS u) (k_nV u) (k_opn u) (k_uns u) (k_dbl u) (k_lett u) (n + 1) (k_lev u) (k_src u) (k_fr u) (k_e1 u) (k_e2 u) (k_ends u) (k_fal u) (k_ways u) (k_fls u) (k_fnd u) (va_up g1 n f) (va_up g2 n a) (va_up g3 n (k_fls u a)) (va_up g4 n (kC u (k_fls u a)))) := hD
          refine lv_iinc (v := nI (a + 1)) (lv' := [(2, .int (nI (a + 1))), (3, .long (k_fls u a)), (0, .ref (ca_o q)), (1, .int (nI f))]) hx hb d_S_addRows_42 hl (k := 3) rfl (nI_1 _) (by decide) rfl (fun ls hl => ?_)
          refine lv_goto (tgt := 2) hx hb d_S_addRows_45 (by decide) ?_
          exact ih2 (a + 1) (n + 1) (va_up g1 n f) (va_up g2 n a) (va_up g3 n (k_fls u a)) (va_up g4 n (kC u (k_fls u a))) (by omega) (by omega) (by have h9 := RT_t hR2 (show th a = true by rw [(hth a ha2 (by omega)).1]; exact decide_eq_true c_2); rw [(hth a ha2 (by omega)).2.1, (hth a ha2 (by omega)).2.2] at h9; exact h9) (up_bd hp1 (by omega)) (up_bd hp2 (by omega)) (by omega) _ _ ls hP hD hS (lv_sub hl [2, 3, 0] rfl)
  exact L2 _ 1 (k_cnt u) (k_pf u) (k_pl u) (k_pw u) (k_pc u) (by omega) (by omega) hR b1 b2 (Nat.lt_succ_self _) _ _ ls hP hD hS (lv_sub hl [1, 2, 0] rfl)
set_option maxHeartbeats 4000000 in
set_option maxRecDepth 100000 in
theorem c_S_keepCulprit (l : Launch) (dC : Nat → ClassId) (dI : Nat → Nat → Nat) (q : CA) (u : CSt) (sz : Nat) (f p9 : Nat) (hp : p9 < 64) (hE : ∃ o, 1 ≤ o ∧ o < 16 ∧ kLC u p9 0 o) : Met l y_S_keepCulprit w_S_keepCulprit ({ frames := 3, cells := 0, slots := 0, locals := 70 }) (qPc (dC, dI) vwCl (tC q) (wC q u) sz [Value.ref (ca_o q), Value.int (nI f), Value.int (nI p9)]) (va_Qv (fun z : CSt => ∃ (a : Nat) (r2 : Int32), 1 ≤ a ∧ a < 16 ∧ kLC u p9 0 a ∧ (∀ o2, 1 ≤ o2 → o2 < a → ¬ kLC u p9 0 o2) ∧ ((∃ o, 1 ≤ o ∧ o < 16 ∧ kLC u p9 a o ∧ (∀ o2, 1 ≤ o2 → o2 < o → ¬ kLC u p9 a o2) ∧ r2 = nI o) ∨ ((∀ o, 1 ≤ o → o < 16 → ¬ kLC u p9 a o) ∧ r2 = -1)) ∧ z = k_s_fnd (k_s_fu u true) (va_up (va_up (va_up (va_up (k_fnd u) 0 (nI f)) 1 (nI p9)) 2 (nI a)) 3 r2)) (qB (dC, dI) vwCl (tC q) (wC q u) sz (wC q)) (va_A (wC q u) sz)) 0 0 (va_A (wC q u) sz) := by
  refine Met.ofW (cc := b_S_keepCulprit) (maxL := 4) (ret := none) (by decide) rfl ?_
  intro p e s m args below meth c s₁ B hml hv
  obtain ⟨rfl, hsz, hP, hK, hD0, hN⟩ := hv
  have hx := B.exec
  have hb := B.bytes
  have hr := B.returns
  have hts := atoms_spec (ws := w_S_keepCulprit) B.pre
  have hown : s.vm.findClass "SeatProofs" = some m.cls := findClass_of_methodNamed B.named
  have hlocks := B.notSynchronized
  subst hsz
  have hD := hD0.self (sz := s.heap.size)
  have hA : ∀ z : Nat, s.heap.size ≤ z → va_A (wC q u) s.heap.size z := fun z h => Or.inr h
  have hS : va_S (va_A (wC q u) s.heap.size) s.heap s.heap [] := va_S.rf
  have hl := lv_entry ([Value.ref (ca_o q), Value.int (nI f), Value.int (nI p9)]) (n := 4) (Nat.le_of_ble_eq_true rfl)
  rw [lg_entry_eq]
  generalize (lg_sl ([Value.ref (ca_o q), Value.int (nI f), Value.int (nI p9)]) ++ List.replicate (4 - (lg_sl ([Value.ref (ca_o q), Value.int (nI f), Value.int (nI p9)])).length) Slot.unset).toArray = ls at hl ⊢
  have hl : lv_has ls 4 [(0, .ref (ca_o q)), (1, .int (nI f)), (2, .int (nI p9))] := hl
  refine lv_aload_n hx hb d_S_keepCulprit_0 rfl (lv_at hl 0 rfl) ?_
  refine lv_iconst (v := nI 1) hx hb d_S_keepCulprit_1 (by decide) ?_
  refine tp_i (bI true) (by decide) ?_
  refine va_put (D := (dC, dI)) (ci := 3) (v := .int (bI true)) (ty := .boolean) (C := "SeatProofs") (T := F_S) (N := 6) hx hb hts (iu_S _) t_S t_S_ok n_S hown hK hP hD hS 0 rfl rfl 4 (by decide) (hts _ (List.mem_cons_of_mem _ iw_128)) (fun _ h9 => h9) rfl (by decide +kernel) (bI_narrow _) (bI_fits _) (Nat.le_of_ble_eq_true rfl) d_S_keepCulprit_2 (fun H locs hP hD hS => ?_)
  have hP : va_P (dC, dI) vwCl (wCx q true (k_re u) (k_nS u) (k_nV u) (k_opn u) (k_uns u) (k_dbl u) (k_lett u) (k_cnt u) (k_lev u) (k_src u) (k_fr u) (k_e1 u) (k_e2 u) (k_ends u) (k_fal u) (k_ways u) (k_fls u) (k_fnd u) (k_pf u) (k_pl u) (k_pw u) (k_pc u)) H := hP
  have hD : va_D (va_A (wC q u) s.heap.size) (wCx q true (k_re u) (k_nS u) (k_nV u) (k_opn u) (k_uns u) (k_dbl u) (k_lett u) (k_cnt u) (k_lev u) (k_src u) (k_fr u) (k_e1 u) (k_e2 u) (k_ends u) (k_fal u) (k_ways u) (k_fls u) (k_fnd u) (k_pf u) (k_pl u) (k_pw u) (k_pc u)) := hD
  refine lv_aload_n hx hb d_S_keepCulprit_5 rfl (lv_at hl 0 rfl) ?_
  refine va_get (D := (dC, dI)) (ci := 3) (v := .ref (ca_fnd q)) (C := "SeatProofs") (T := F_S) (N := 6) hx hb hts (iu_S _) hown hK hP 0 rfl rfl 3 (by decide) (hts _ (List.mem_cons_of_mem _ iw_127)) (fun _ h9 => h9) rfl d_S_keepCulprit_6 ?_
  refine lv_iconst (v := nI 0) hx hb d_S_keepCulprit_9 (by decide) ?_
  refine lv_iload_n hx hb d_S_keepCulprit_10 rfl (lv_at hl 1 rfl) ?_
  refine st_i hx hb hK hP hD hS 13 0 rfl rfl (va_up (k_fnd u) 0 (nI f)) (by omega) (by decide) (rfl) d_S_keepCulprit_11 (fun H locs hP hD hS => ?_)
  have hP : va_P (dC, dI) vwCl (wCx q true (k_re u) (k_nS u) (k_nV u) (k_opn u) (k_uns u) (k_dbl u) (k_lett u) (k_cnt u) (k_lev u) (k_src u) (k_fr u) (k_e1 u) (k_e2 u) (k_ends u) (k_fal u) (k_ways u) (k_fls u) (va_up (k_fnd u) 0 (nI f)) (k_pf u) (k_pl u) (k_pw u) (k_pc u)) H := hP
  have hD : va_D (va_A (wC q u) s.heap.size) (wCx q true (k_re u) (k_nS u) (k_nV u) (k_opn u) (k_uns u) (k_dbl u) (k_lett u) (k_cnt u) (k_lev u) (k_src u) (k_fr u) (k_e1 u) (k_e2 u) (k_ends u) (k_fal u) (k_ways u) (k_fls u) (va_up (k_fnd u) 0 (nI f)) (k_pf u) (k_pl u) (k_pw u) (k_pc u)) := hD
  refine lv_aload_n hx hb d_S_keepCulprit_12 rfl (lv_at hl 0 rfl) ?_
  refine va_get (D := (dC, dI)) (ci := 3) (v := .ref (ca_fnd q)) (C := "SeatProofs") (T := F_S) (N := 6) hx hb hts (iu_S _) hown hK hP 0 rfl rfl 3 (by decide) (hts _ (List.mem_cons_of_mem _ iw_127)) (fun _ h9 => h9) rfl d_S_keepCulprit_13 ?_
  refine lv_iconst (v := nI 1) hx hb d_S_keepCulprit_16 (by decide) ?_
  refine lv_iload_n hx hb d_S_keepCulprit_17 rfl (lv_at hl 2 rfl) ?_
  refine st_i hx hb hK hP hD hS 13 0 rfl rfl (va_up (va_up (k_fnd u) 0 (nI f)) 1 (nI p9)) (by omega) (by decide) (rfl) d_S_keepCulprit_18 (fun H locs hP hD hS => ?_)
  have hP : va_P (dC, dI) vwCl (wCx q true (k_re u) (k_nS u) (k_nV u) (k_opn u) (k_uns u) (k_dbl u) (k_lett u) (k_cnt u) (k_lev u) (k_src u) (k_fr u) (k_e1 u) (k_e2 u) (k_ends u) (k_fal u) (k_ways u) (k_fls u) (va_up (va_up (k_fnd u) 0 (nI f)) 1 (nI p9)) (k_pf u) (k_pl u) (k_pw u) (k_pc u)) H := hP
  have hD : va_D (va_A (wC q u) s.heap.size) (wCx q true (k_re u) (k_nS u) (k_nV u) (k_opn u) (k_uns u) (k_dbl u) (k_lett u) (k_cnt u) (k_lev u) (k_src u) (k_fr u) (k_e1 u) (k_e2 u) (k_ends u) (k_fal u) (k_ways u) (k_fls u) (va_up (va_up (k_fnd u) 0 (nI f)) 1 (nI p9)) (k_pf u) (k_pl u) (k_pw u) (k_pc u)) := hD
  refine lv_aload_n hx hb d_S_keepCulprit_19 rfl (lv_at hl 0 rfl) ?_
  refine va_get (D := (dC, dI)) (ci := 3) (v := .ref (ca_f q)) (C := "SeatProofs") (T := F_S) (N := 6) hx hb hts (iu_S _) hown hK hP 0 rfl rfl 1 (by decide) (hts _ (List.mem_cons_of_mem _ iw_125)) (fun _ h9 => h9) rfl d_S_keepCulprit_20 ?_
  refine lv_iload_n hx hb d_S_keepCulprit_23 rfl (lv_at hl 2 rfl) ?_
  refine lv_iconst (v := nI 0) hx hb d_S_keepCulprit_24 (by decide) ?_
  refine vp_callSi (va_Run.run (va_runV (As := [.int (nI p9), .int (nI 0)]) (rest := []) ⟨hx, hb, hml, hown, hts⟩ (c_F_leastClashing l dC dI q (k_mk true (k_re u) (k_nS u) (k_nV u) (k_opn u) (k_uns u) (k_dbl u) (k_lett u) (k_cnt u) (k_lev u) (k_src u) (k_fr u) (k_e1 u) (k_e2 u) (k_ends u) (k_fal u) (k_ways u) (k_fls u) (va_up (va_up (k_fnd u) 0 (nI f)) 1 (nI p9)) (k_pf u) (k_pl u) (k_pw u) (k_pc u)) p9 0 hp (by decide)) (cwV 2 hts (good_up (good_V iw_255 iw_256 iw_257 iw_3 gg_F_leastClashing)) rfl rfl rfl (by decide +kernel) ⟨Nat.le_of_ble_eq_true rfl, Nat.le_of_ble_eq_true rfl⟩) (pv_S [.int (nI p9), .int (nI 0)] hN hK hP (ci := 1) (q0 := 2) rfl rfl) rfl rfl hl.1 rfl (lv_room (Nat.le_of_ble_eq_true rfl)) d_S_keepCulprit_25 ⟨Nat.le_of_ble_eq_true rfl, Nat.le_of_ble_eq_true rfl⟩)) (fun r_1 hr_1 => ?_)
  rw [lcs_cg (u := (k_mk true (k_re u) (k_nS u) (k_nV u) (k_opn u) (k_uns u) (k_dbl u) (k_lett u) (k_cnt u) (k_lev u) (k_src u) (k_fr u) (k_e1 u) (k_e2 u) (k_ends u) (k_fal u) (k_ways u) (k_fls u) (va_up (va_up (k_fnd u) 0 (nI f)) 1 (nI p9)) (k_pf u) (k_pl u) (k_pw u) (k_pc u))) (v := u) rfl rfl] at hr_1
  obtain ⟨a9, ha1, ha2, ha3, ha4, rfl⟩ := lc_some hE hr_1
  refine lv_istore_n (lv' := [(3, .int (nI a9)), (0, .ref (ca_o q)), (1, .int (nI f)), (2, .int (nI p9))]) hx hb d_S_keepCulprit_28 rfl hl (by decide) rfl (fun ls hl => ?_)
  refine lv_aload_n hx hb d_S_keepCulprit_29 rfl (lv_at hl 1 rfl) ?_
  refine va_get (D := (dC, dI)) (ci := 3) (v := .ref (ca_fnd q)) (C := "SeatProofs") (T := F_S) (N := 6) hx hb hts (iu_S _) hown hK hP 0 rfl rfl 3 (by decide) (hts _ (List.mem_cons_of_mem _ iw_127)) (fun _ h9 => h9) rfl d_S_keepCulprit_30 ?_
  refine lv_iconst (v := nI 2) hx hb d_S_keepCulprit_33 (by decide) ?_
  refine lv_iload_n hx hb d_S_keepCulprit_34 rfl (lv_at hl 0 rfl) ?_
  refine st_i hx hb hK hP hD hS 13 0 rfl rfl (va_up (va_up (va_up (k_fnd u) 0 (nI f)) 1 (nI p9)) 2 (nI a9)) (by omega) (by decide) (rfl) d_S_keepCulprit_35 (fun H locs hP hD hS => ?_)
  have hP : va_P (dC, dI) vwCl (wCx q true (k_re u) (k_nS u) (k_nV u) (k_opn u) (k_uns u) (k_dbl u) (k_lett u) (k_cnt u) (k_lev u) (k_src u) (k_fr u) (k_e1 u) (k_e2 u) (k_ends u) (k_fal u) (k_ways u) (k_fls u) (va_up (va_up (va_up (k_fnd u) 0 (nI f)) 1 (nI p9)) 2 (nI a9)) (k_pf u) (k_pl u) (k_pw u) (k_pc u)) H := hP
  have hD : va_D (va_A (wC q u) s.heap.size) (wCx q true (k_re u) (k_nS u) (k_nV u) (k_opn u) (k_uns u) (k_dbl u) (k_lett u) (k_cnt u) (k_lev u) (k_src u) (k_fr u) (k_e1 u) (k_e2 u) (k_ends u) (k_fal u) (k_ways u) (k_fls u) (va_up (va_up (va_up (k_fnd u) 0 (nI f)) 1 (nI p9)) 2 (nI a9)) (k_pf u) (k_pl u) (k_pw u) (k_pc u)) := hD
  refine lv_aload_n hx hb d_S_keepCulprit_36 rfl (lv_at hl 1 rfl) ?_
  refine va_get (D := (dC, dI)) (ci := 3) (v := .ref (ca_fnd q)) (C := "SeatProofs") (T := F_S) (N := 6) hx hb hts (iu_S _) hown hK hP 0 rfl rfl 3 (by decide) (hts _ (List.mem_cons_of_mem _ iw_127)) (fun _ h9 => h9) rfl d_S_keepCulprit_37 ?_
  refine lv_iconst (v := nI 3) hx hb d_S_keepCulprit_40 (by decide) ?_
  refine lv_aload_n hx hb d_S_keepCulprit_41 rfl (lv_at hl 1 rfl) ?_
  refine va_get (D := (dC, dI)) (ci := 3) (v := .ref (ca_f q)) (C := "SeatProofs") (T := F_S) (N := 6) hx hb hts (iu_S _) hown hK hP 0 rfl rfl 1 (by decide) (hts _ (List.mem_cons_of_mem _ iw_125)) (fun _ h9 => h9) rfl d_S_keepCulprit_42 ?_
  refine lv_iload_n hx hb d_S_keepCulprit_45 rfl (lv_at hl 3 rfl) ?_
  refine lv_iload_n hx hb d_S_keepCulprit_46 rfl (lv_at hl 0 rfl) ?_
  refine vp_callSi (va_Run.run (va_runV (As := [.int (nI p9), .int (nI a9)]) (rest := [.int (nI 3), .ref (ca_fnd q)]) ⟨hx, hb, hml, hown, hts⟩ (c_F_leastClashing l dC dI q (k_mk true (k_re u) (k_nS u) (k_nV u) (k_opn u) (k_uns u) (k_dbl u) (k_lett u) (k_cnt u) (k_lev u) (k_src u) (k_fr u) (k_e1 u) (k_e2 u) (k_ends u) (k_fal u) (k_ways u) (k_fls u) (va_up (va_up (va_up (k_fnd u) 0 (nI f)) 1 (nI p9)) 2 (nI a9)) (k_pf u) (k_pl u) (k_pw u) (k_pc u)) p9 a9 hp ha2) (cwV 2 hts (good_up (good_V iw_255 iw_256 iw_257 iw_3 gg_F_leastClashing)) rfl rfl rfl (by decide +kernel) ⟨Nat.le_of_ble_eq_true rfl, Nat.le_of_ble_eq_true rfl⟩) (pv_S [.int (nI p9), .int (nI a9)] hN hK hP (ci := 1) (q0 := 2) rfl rfl) rfl rfl hl.1 rfl (lv_room (Nat.le_of_ble_eq_true rfl)) d_S_keepCulprit_47 ⟨Nat.le_of_ble_eq_true rfl, Nat.le_of_ble_eq_true rfl⟩)) (fun r_2 hr_2 => ?_)
  rw [lcs_cg (u := (k_mk true (k_re u) (k_nS u) (k_nV u) (k_opn u) (k_uns u) (k_dbl u) (k_lett u) (k_cnt u) (k_lev u) (k_src u) (k_fr u) (k_e1 u) (k_e2 u) (k_ends u) (k_fal u) (k_ways u) (k_fls u) (va_up (va_up (va_up (k_fnd u) 0 (nI f)) 1 (nI p9)) 2 (nI a9)) (k_pf u) (k_pl u) (k_pw u) (k_pc u))) (v := u) rfl rfl] at hr_2
  refine st_i hx hb hK hP hD hS 13 0 rfl rfl (va_up (va_up (va_up (va_up (k_fnd u) 0 (nI f)) 1 (nI p9)) 2 (nI a9)) 3 r_2) (by omega) (by decide) (rfl) d_S_keepCulprit_50 (fun H locs hP hD hS => ?_)
  have hP : va_P (dC, dI) vwCl (wCx q true (k_re u) (k_nS u) (k_nV u) (k_opn u) (k_uns u) (k_dbl u) (k_lett u) (k_cnt u) (k_lev u) (k_src u) (k_fr u) (k_e1 u) (k_e2 u) (k_ends u) (k_fal u) (k_ways u) (k_fls u) (va_up (va_up (va_up (va_up (k_fnd u) 0 (nI f)) 1 (nI p9)) 2 (nI a9)) 3 r_2) (k_pf u) (k_pl u) (k_pw u) (k_pc u)) H := hP
  have hD : va_D (va_A (wC q u) s.heap.size) (wCx q true (k_re u) (k_nS u) (k_nV u) (k_opn u) (k_uns u) (k_dbl u) (k_lett u) (k_cnt u) (k_lev u) (k_src u) (k_fr u) (k_e1 u) (k_e2 u) (k_ends u) (k_fal u) (k_ways u) (k_fls u) (va_up (va_up (va_up (va_up (k_fnd u) 0 (nI f)) 1 (nI p9)) 2 (nI a9)) 3 r_2) (k_pf u) (k_pl u) (k_pw u) (k_pc u)) := hD
  exact W.vret hx hb hr (fun t9 ht9 hW9 => ⟨⟨(k_mk true (k_re u) (k_nS u) (k_nV u) (k_opn u) (k_uns u) (k_dbl u) (k_lett u) (k_cnt u) (k_lev u) (k_src u) (k_fr u) (k_e1 u) (k_e2 u) (k_ends u) (k_fal u) (k_ways u) (k_fls u) (va_up (va_up (va_up (va_up (k_fnd u) 0 (nI f)) 1 (nI p9)) 2 (nI a9)) 3 r_2) (k_pf u) (k_pl u) (k_pw u) (k_pc u)), rfl, ⟨a9, r_2, ha1, ha2, ha3, ha4, hr_2, rfl⟩, by rw [ht9]; exact hP, va_K.moved hW9.alike hK, hD⟩, hS.F ht9⟩) hS.2.2 d_S_keepCulprit_51
