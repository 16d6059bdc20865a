set_option maxHeartbeats 4000000 in
set_option maxRecDepth 100000 in
theorem c_M_thrown (l : Launch) (dC : Nat → ClassId) (dI : Nat → Nat → Nat) (q : MA) (u : MSt)  : Met l y_M_thrown w_M_thrown ({ frames := 0, cells := 0, slots := 0, locals := 0 }) (sPc (dC, dI) vwCl (tM q) (wM q u) [Value.ref (ma_o q)]) (vp_Si (fun r : Int32 => r = nI (m_th u))) 0 0 (fun _ => False) := by
  refine Met.ofW (cc := b_M_thrown) (maxL := 1) (ret := (some .int)) (by decide) rfl ?_
  intro p e s m args below meth c s₁ B hml hv
  obtain ⟨rfl, hP, hK, hN⟩ := hv
  have hx := B.exec
  have hb := B.bytes
  have hr := B.returns
  have hts := atoms_spec (ws := w_M_thrown) B.pre
  have hown : s.vm.findClass "SeatProofsModel" = some m.cls := findClass_of_methodNamed B.named
  have hlocks := B.notSynchronized
  have hl := lv_entry ([Value.ref (ma_o q)]) (n := 1) (Nat.le_of_ble_eq_true rfl)
  rw [lg_entry_eq]
  generalize (lg_sl ([Value.ref (ma_o q)]) ++ List.replicate (1 - (lg_sl ([Value.ref (ma_o q)])).length) Slot.unset).toArray = ls at hl ⊢
  have hl : lv_has ls 1 [(0, .ref (ma_o q))] := hl
  refine lv_aload_n hx hb d_M_thrown_0 rfl (lv_at hl 0 rfl) ?_
  refine va_get (D := (dC, dI)) (ci := 4) (v := .int (nI (m_th u))) (C := "SeatProofsModel") (T := F_M) (N := 20) hx hb hts (iu_M _) hown hK hP 0 rfl rfl 18 (by decide) (hts _ (List.mem_cons_of_mem _ iw_458)) (fun _ h9 => h9) rfl d_M_thrown_1 ?_
  exact W.iret hx hb hr (fun t9 ht9 _ => ⟨_, rfl, rfl, ht9⟩) (fun _ h => by cases h) d_M_thrown_4
set_option maxHeartbeats 4000000 in
set_option maxRecDepth 100000 in
theorem c_M_isSpace (l : Launch) (dC : Nat → ClassId) (dI : Nat → Nat → Nat) (q : MA) (u : MSt) (x : Int32) : Met l y_M_isSpace w_M_isSpace ({ frames := 0, cells := 0, slots := 0, locals := 0 }) (sPc (dC, dI) vwCl (tM q) (wM q u) [Value.ref (ma_o q), Value.int x]) (vp_Si (fun r : Int32 => r = bI (ixB x (m_nS u)))) 0 0 (fun _ => False) := by
  refine Met.ofW (cc := b_M_isSpace) (maxL := 2) (ret := (some .boolean)) (by decide) rfl ?_
  intro p e s m args below meth c s₁ B hml hv
  obtain ⟨rfl, hP, hK, hN⟩ := hv
  have hx := B.exec
  have hb := B.bytes
  have hr := B.returns
  have hts := atoms_spec (ws := w_M_isSpace) B.pre
  have hown : s.vm.findClass "SeatProofsModel" = some m.cls := findClass_of_methodNamed B.named
  have hlocks := B.notSynchronized
  have hl := lv_entry ([Value.ref (ma_o q), Value.int x]) (n := 2) (Nat.le_of_ble_eq_true rfl)
  rw [lg_entry_eq]
  generalize (lg_sl ([Value.ref (ma_o q), Value.int x]) ++ List.replicate (2 - (lg_sl ([Value.ref (ma_o q), Value.int x])).length) Slot.unset).toArray = ls at hl ⊢
  have hl : lv_has ls 2 [(0, .ref (ma_o q)), (1, .int x)] := hl
  refine lv_iload_n hx hb d_M_isSpace_0 rfl (lv_at hl 1 rfl) ?_
  refine lv_if_lt (tgt := 16) hx hb d_M_isSpace_1 (by decide) (fun c_1 => ?_) (fun c_1 => ?_)
  · refine lv_iconst (v := nI 0) hx hb d_M_isSpace_16 (by decide) ?_
    refine tp_i (bI false) (by decide) ?_
    exact W.zret hx hb hr (bI_narrow _) (fun t9 ht9 _ => ⟨_, rfl, (by simp [ixB, c_1]), ht9⟩) (fun _ h => by cases h) d_M_isSpace_17
  · refine lv_iload_n hx hb d_M_isSpace_4 rfl (lv_at hl 1 rfl) ?_
    refine lv_aload_n hx hb d_M_isSpace_5 rfl (lv_at hl 0 rfl) ?_
    refine va_get (D := (dC, dI)) (ci := 4) (v := .int (nI (m_nS u))) (C := "SeatProofsModel") (T := F_M) (N := 20) hx hb hts (iu_M _) hown hK hP 0 rfl rfl 2 (by decide) (hts _ (List.mem_cons_of_mem _ iw_442)) (fun _ h9 => h9) rfl d_M_isSpace_6 ?_
    refine lv_icmp_ge (tgt := 16) hx hb d_M_isSpace_9 (by decide) (fun c_2 => ?_) (fun c_2 => ?_)
    · refine lv_iconst (v := nI 0) hx hb d_M_isSpace_16 (by decide) ?_
      refine tp_i (bI false) (by decide) ?_
      exact W.zret hx hb hr (bI_narrow _) (fun t9 ht9 _ => ⟨_, rfl, (by simp [ixB, c_1, c_2]), ht9⟩) (fun _ h => by cases h) d_M_isSpace_17
    · refine lv_iconst (v := nI 1) hx hb d_M_isSpace_12 (by decide) ?_
      refine lv_goto (tgt := 17) hx hb d_M_isSpace_13 (by decide) ?_
      refine tp_i (bI true) (by decide) ?_
      exact W.zret hx hb hr (bI_narrow _) (fun t9 ht9 _ => ⟨_, rfl, (by simp [ixB, c_1, c_2]), ht9⟩) (fun _ h => by cases h) d_M_isSpace_17
set_option maxHeartbeats 4000000 in
set_option maxRecDepth 100000 in
theorem c_M_has (l : Launch) (x : Int64) (k : Nat) (hk : k < 64) : Met l y_M_has w_M_has ({ frames := 0, cells := 0, slots := 0, locals := 0 }) (va_Pc [Value.long x, Value.int (nI k)] NW) (vp_Si (fun r : Int32 => r = bI (tb x k))) 0 0 (fun _ => False) := by
  refine Met.ofW (cc := b_M_has) (maxL := 3) (ret := (some .boolean)) (by decide) rfl ?_
  intro p e s m args below meth c s₁ B hml hv
  obtain ⟨rfl, hN⟩ := hv
  have hx := B.exec
  have hb := B.bytes
  have hr := B.returns
  have hts := atoms_spec (ws := w_M_has) B.pre
  have hown : s.vm.findClass "SeatProofsModel" = some m.cls := findClass_of_methodNamed B.named
  have hlocks := B.notSynchronized
  have hl := lv_entry ([Value.long x, Value.int (nI k)]) (n := 3) (Nat.le_of_ble_eq_true rfl)
  rw [lg_entry_eq]
  generalize (lg_sl ([Value.long x, Value.int (nI k)]) ++ List.replicate (3 - (lg_sl ([Value.long x, Value.int (nI k)])).length) Slot.unset).toArray = ls at hl ⊢
  have hl : lv_has ls 3 [(0, .long x), (2, .int (nI k))] := hl
  refine lv_lload_n hx hb d_M_has_0 rfl (lv_at hl 0 rfl) ?_
  refine lv_iload_n hx hb d_M_has_1 rfl (lv_at hl 1 rfl) ?_
  refine lv_lushr (v := (x.toUInt64 >>> ((nI k).toInt64.toUInt64 &&& Int64.toUInt64 63)).toInt64) hx hb d_M_has_2 rfl ?_
  refine lv_lconst (v := 1) hx hb d_M_has_3 (by decide) ?_
  refine lv_land hx hb d_M_has_4 ?_
  refine lv_lconst (v := 1) hx hb d_M_has_5 (by decide) ?_
  refine W.lcmp hx hb d_M_has_6 ?_
  refine l0_ne (tgt := 14) hx hb d_M_has_7 (by decide) (fun c_1 => ?_) (fun c_1 => ?_)
  · refine lv_iconst (v := nI 0) hx hb d_M_has_14 (by decide) ?_
    refine tp_i (bI false) (by decide) ?_
    exact W.zret hx hb hr (bI_narrow _) (fun t9 ht9 _ => ⟨_, rfl, (by rw [ts_nt (fun h => c_1 ((tb_shr1 x hk).mpr h))]), ht9⟩) (fun _ h => by cases h) d_M_has_15
  · refine lv_iconst (v := nI 1) hx hb d_M_has_10 (by decide) ?_
    refine lv_goto (tgt := 15) hx hb d_M_has_11 (by decide) ?_
    refine tp_i (bI true) (by decide) ?_
    exact W.zret hx hb hr (bI_narrow _) (fun t9 ht9 _ => ⟨_, rfl, (by rw [(tb_shr1 x hk).mp c_1]), ht9⟩) (fun _ h => by cases h) d_M_has_15
set_option maxHeartbeats 4000000 in
set_option maxRecDepth 100000 in
theorem c_M_lets (l : Launch) (dC : Nat → ClassId) (dI : Nat → Nat → Nat) (q : MA) (u : MSt) (v f : Nat) (hu : MOk u) (hv : v < 64) (hf : f < 65) : Met l y_M_lets w_M_lets ({ frames := 0, cells := 0, slots := 0, locals := 0 }) (sPc (dC, dI) vwCl (tM q) (wM q u) [Value.ref (ma_o q), Value.int (nI v), Value.int (nI f)]) (vp_Si (fun r : Int32 => r = bI (mlets u v f))) 0 0 (fun _ => False) := by
  refine Met.ofW (cc := b_M_lets) (maxL := 4) (ret := (some .boolean)) (by decide) rfl ?_
  intro p e s m args below meth c s₁ B hml hv
  obtain ⟨rfl, hP, hK, hN⟩ := hv
  have hx := B.exec
  have hb := B.bytes
  have hr := B.returns
  have hts := atoms_spec (ws := w_M_lets) B.pre
  have hown : s.vm.findClass "SeatProofsModel" = some m.cls := findClass_of_methodNamed B.named
  have hlocks := B.notSynchronized
  have hl := lv_entry ([Value.ref (ma_o q), Value.int (nI v), Value.int (nI f)]) (n := 4) (Nat.le_of_ble_eq_true rfl)
  rw [lg_entry_eq]
  generalize (lg_sl ([Value.ref (ma_o q), Value.int (nI v), Value.int (nI f)]) ++ List.replicate (4 - (lg_sl ([Value.ref (ma_o q), Value.int (nI v), Value.int (nI f)])).length) Slot.unset).toArray = ls at hl ⊢
  have hl : lv_has ls 4 [(0, .ref (ma_o q)), (1, .int (nI v)), (2, .int (nI f))] := hl
  obtain ⟨k1, k2, k3, k4, k5, k6, k7, k8, k9, k10, k11⟩ := id hu
  refine lv_iload_n hx hb d_M_lets_0 rfl (lv_at hl 2 rfl) ?_
  refine lv_iload_n hx hb d_M_lets_1 rfl (lv_at hl 1 rfl) ?_
  refine lv_iconst (v := nI 1) hx hb d_M_lets_2 (by decide) ?_
  refine lv_iadd hx hb d_M_lets_3 ?_
  refine tp_i (nI (v + 1)) (nI_add _ _) ?_
  have L12 : ∀ (b : Bool), (b = decide (f = v + 1)) → ∀ (ls : Array Slot), lv_has ls 4 [(0, .ref (ma_o q)), (1, .int (nI v)), (2, .int (nI f))] → W p l e (headSpec w_M_lets ({ frames := 0, cells := 0, slots := 0, locals := 0 })).room s m [Value.ref (ma_o q), Value.int (nI v), Value.int (nI f)].toArray below meth c s.heap [] 0 0 (MQ below (vp_Si (fun r : Int32 => r = bI (mlets u v f))) [Value.ref (ma_o q), Value.int (nI v), Value.int (nI f)].toArray s 0 0 (fun _ => False)) (F0 m 12 ls [.int (bI b)]) := by
    intro b hbf ls hl
    refine lv_istore_n (lv' := [(3, .int (bI b)), (0, .ref (ma_o q)), (1, .int (nI v)), (2, .int (nI f))]) hx hb d_M_lets_12 rfl hl (by decide) rfl (fun ls hl => ?_)
    refine lv_aload_n hx hb d_M_lets_13 rfl (lv_at hl 1 rfl) ?_
    refine va_get (D := (dC, dI)) (ci := 4) (v := .ref (ma_seat q)) (C := "SeatProofsModel") (T := F_M) (N := 20) hx hb hts (iu_M _) hown hK hP 0 rfl rfl 5 (by decide) (hts _ (List.mem_cons_of_mem _ iw_445)) (fun _ h9 => h9) rfl d_M_lets_14 ?_
    refine lv_iload_n hx hb d_M_lets_17 rfl (lv_at hl 2 rfl) ?_
    refine ld_i hx hb hK hP 5 0 rfl rfl (nI (m_seat u v)) (by omega) (by decide) rfl d_M_lets_18 ?_
    refine lv_iconst (v := nI 2) hx hb d_M_lets_19 (by decide) ?_
    refine nv_ne (tgt := 34) hx hb d_M_lets_20 (by decide) (by have := k11 v; omega) (by omega) (fun c_1 => ?_) (fun c_1 => ?_)
    · refine lv_aload_n hx hb d_M_lets_34 rfl (lv_at hl 1 rfl) ?_
      refine va_get (D := (dC, dI)) (ci := 4) (v := .ref (ma_un q)) (C := "SeatProofsModel") (T := F_M) (N := 20) hx hb hts (iu_M _) hown hK hP 0 rfl rfl 7 (by decide) (hts _ (List.mem_cons_of_mem _ iw_447)) (fun _ h9 => h9) rfl d_M_lets_35 ?_
      refine lv_iload_n hx hb d_M_lets_38 rfl (lv_at hl 2 rfl) ?_
      refine ld_z hx hb hK hP 7 2 rfl rfl (bI (m_un u v)) (by omega) (by decide) rfl d_M_lets_39 ?_
      refine b0_ne (tgt := 53) hx hb d_M_lets_40 (by decide) (fun c_2 => ?_) (fun c_2 => ?_)
      · refine lv_iconst (v := nI 1) hx hb d_M_lets_53 (by decide) ?_
        refine lv_goto (tgt := 58) hx hb d_M_lets_54 (by decide) ?_
        refine tp_i (bI true) (by decide) ?_
        exact W.zret hx hb hr (bI_narrow _) (fun t9 ht9 _ => ⟨_, rfl, (by rw [mlets, if_neg (fun h => c_1 h.1), c_2, Bool.true_or]), ht9⟩) (fun _ h => by cases h) d_M_lets_58
      · refine lv_aload_n hx hb d_M_lets_43 rfl (lv_at hl 1 rfl) ?_
        refine va_get (D := (dC, dI)) (ci := 4) (v := .ref (ma_op q)) (C := "SeatProofsModel") (T := F_M) (N := 20) hx hb hts (iu_M _) hown hK hP 0 rfl rfl 6 (by decide) (hts _ (List.mem_cons_of_mem _ iw_446)) (fun _ h9 => h9) rfl d_M_lets_44 ?_
        refine lv_iload_n hx hb d_M_lets_47 rfl (lv_at hl 2 rfl) ?_
        refine ld_z hx hb hK hP 6 2 rfl rfl (bI (m_op u v)) (by omega) (by decide) rfl d_M_lets_48 ?_
        refine lv_iload_n hx hb d_M_lets_49 rfl (lv_at hl 0 rfl) ?_
        refine bv_eq (tgt := 57) hx hb d_M_lets_50 (by decide) (fun c_3 => ?_) (fun c_3 => ?_)
        · refine lv_iconst (v := nI 0) hx hb d_M_lets_57 (by decide) ?_
          refine tp_i (bI false) (by decide) ?_
          exact W.zret hx hb hr (bI_narrow _) (fun t9 ht9 _ => ⟨_, rfl, (by rw [mlets, if_neg (fun h => c_1 h.1), c_2, Bool.false_or, ← hbf, c_3, bne_self_eq_false]), ht9⟩) (fun _ h => by cases h) d_M_lets_58
        · refine lv_iconst (v := nI 1) hx hb d_M_lets_53 (by decide) ?_
          refine lv_goto (tgt := 58) hx hb d_M_lets_54 (by decide) ?_
          refine tp_i (bI true) (by decide) ?_
          exact W.zret hx hb hr (bI_narrow _) (fun t9 ht9 _ => ⟨_, rfl, (by rw [mlets, if_neg (fun h => c_1 h.1), c_2, Bool.false_or, ← hbf, bne_iff_ne.mpr c_3]), ht9⟩) (fun _ h => by cases h) d_M_lets_58
    · refine lv_aload_n hx hb d_M_lets_23 rfl (lv_at hl 1 rfl) ?_
      refine va_get (D := (dC, dI)) (ci := 4) (v := .ref (ma_op q)) (C := "SeatProofsModel") (T := F_M) (N := 20) hx hb hts (iu_M _) hown hK hP 0 rfl rfl 6 (by decide) (hts _ (List.mem_cons_of_mem _ iw_446)) (fun _ h9 => h9) rfl d_M_lets_24 ?_
      refine lv_iload_n hx hb d_M_lets_27 rfl (lv_at hl 2 rfl) ?_
      refine ld_z hx hb hK hP 6 2 rfl rfl (bI (m_op u v)) (by omega) (by decide) rfl d_M_lets_28 ?_
      refine b0_ne (tgt := 34) hx hb d_M_lets_29 (by decide) (fun c_4 => ?_) (fun c_4 => ?_)
      · refine lv_aload_n hx hb d_M_lets_34 rfl (lv_at hl 1 rfl) ?_
        refine va_get (D := (dC, dI)) (ci := 4) (v := .ref (ma_un q)) (C := "SeatProofsModel") (T := F_M) (N := 20) hx hb hts (iu_M _) hown hK hP 0 rfl rfl 7 (by decide) (hts _ (List.mem_cons_of_mem _ iw_447)) (fun _ h9 => h9) rfl d_M_lets_35 ?_
        refine lv_iload_n hx hb d_M_lets_38 rfl (lv_at hl 2 rfl) ?_
        refine ld_z hx hb hK hP 7 2 rfl rfl (bI (m_un u v)) (by omega) (by decide) rfl d_M_lets_39 ?_
        refine b0_ne (tgt := 53) hx hb d_M_lets_40 (by decide) (fun c_5 => ?_) (fun c_5 => ?_)
        · refine lv_iconst (v := nI 1) hx hb d_M_lets_53 (by decide) ?_
          refine lv_goto (tgt := 58) hx hb d_M_lets_54 (by decide) ?_
          refine tp_i (bI true) (by decide) ?_
          exact W.zret hx hb hr (bI_narrow _) (fun t9 ht9 _ => ⟨_, rfl, (by rw [mlets, if_neg (fun h => absurd (h.2.symm.trans c_4) (by decide)), c_5, Bool.true_or]), ht9⟩) (fun _ h => by cases h) d_M_lets_58
        · refine lv_aload_n hx hb d_M_lets_43 rfl (lv_at hl 1 rfl) ?_
          refine va_get (D := (dC, dI)) (ci := 4) (v := .ref (ma_op q)) (C := "SeatProofsModel") (T := F_M) (N := 20) hx hb hts (iu_M _) hown hK hP 0 rfl rfl 6 (by decide) (hts _ (List.mem_cons_of_mem _ iw_446)) (fun _ h9 => h9) rfl d_M_lets_44 ?_
          refine lv_iload_n hx hb d_M_lets_47 rfl (lv_at hl 2 rfl) ?_
          refine ld_z hx hb hK hP 6 2 rfl rfl (bI (m_op u v)) (by omega) (by decide) rfl d_M_lets_48 ?_
          refine lv_iload_n hx hb d_M_lets_49 rfl (lv_at hl 0 rfl) ?_
          refine bv_eq (tgt := 57) hx hb d_M_lets_50 (by decide) (fun c_6 => ?_) (fun c_6 => ?_)
          · refine lv_iconst (v := nI 0) hx hb d_M_lets_57 (by decide) ?_
            refine tp_i (bI false) (by decide) ?_
            exact W.zret hx hb hr (bI_narrow _) (fun t9 ht9 _ => ⟨_, rfl, (by rw [mlets, if_neg (fun h => absurd (h.2.symm.trans c_4) (by decide)), c_5, Bool.false_or, ← hbf, c_6, bne_self_eq_false]), ht9⟩) (fun _ h => by cases h) d_M_lets_58
          · refine lv_iconst (v := nI 1) hx hb d_M_lets_53 (by decide) ?_
            refine lv_goto (tgt := 58) hx hb d_M_lets_54 (by decide) ?_
            refine tp_i (bI true) (by decide) ?_
            exact W.zret hx hb hr (bI_narrow _) (fun t9 ht9 _ => ⟨_, rfl, (by rw [mlets, if_neg (fun h => absurd (h.2.symm.trans c_4) (by decide)), c_5, Bool.false_or, ← hbf, bne_iff_ne.mpr c_6]), ht9⟩) (fun _ h => by cases h) d_M_lets_58
      · refine lv_iconst (v := nI 0) hx hb d_M_lets_32 (by decide) ?_
        refine tp_i (bI false) (by decide) ?_
        exact W.zret hx hb hr (bI_narrow _) (fun t9 ht9 _ => ⟨_, rfl, (by rw [mlets, if_pos ⟨c_1, c_4⟩]), ht9⟩) (fun _ h => by cases h) d_M_lets_33
  refine nv_ne (tgt := 11) hx hb d_M_lets_4 (by decide) (by omega) (by omega) (fun c_7 => ?_) (fun c_7 => ?_)
  · refine lv_iconst (v := nI 0) hx hb d_M_lets_11 (by decide) ?_
    refine tp_i (bI false) (by decide) ?_
    exact L12 false (by simp [c_7]) ls (lv_sub hl [0, 1, 2] rfl)
  · refine lv_iconst (v := nI 1) hx hb d_M_lets_7 (by decide) ?_
    refine lv_goto (tgt := 12) hx hb d_M_lets_8 (by decide) ?_
    refine tp_i (bI true) (by decide) ?_
    exact L12 true (by simp [c_7]) ls (lv_sub hl [0, 1, 2] rfl)
