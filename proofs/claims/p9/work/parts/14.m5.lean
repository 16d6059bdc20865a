set_option maxHeartbeats 4000000 in
set_option maxRecDepth 100000 in
theorem c_M_flood (l : Launch) (dC : Nat → ClassId) (dI : Nat → Nat → Nat) (q : MA) (u : MSt) (sz : Nat) (a f : Nat) (hu : MOk u) (ha : a < 16) (hf : f < 65) : Met l y_M_flood w_M_flood ({ frames := 1, cells := 0, slots := 0, locals := 23 }) (qPc (dC, dI) vwCl (tM q) (wM q u) sz [Value.ref (ma_o q), Value.int (nI a), Value.int (nI f)]) (va_Ql (fun (r : Int64) (z : MSt) => ∃ w, z = m_s_wet u w ∧ r = mF u a f) (qB (dC, dI) vwCl (tM q) (wM q u) sz (wM q)) (va_A (wM q u) sz)) 0 0 (va_A (wM q u) sz) := by
  refine Met.ofW (cc := b_M_flood) (maxL := 9) (ret := (some .long)) (by decide) rfl ?_
  intro p e s m args below meth c s₁ B hml hv
  obtain ⟨rfl, hsz, hP, hK, hD0, hN⟩ := hv
  have hx := B.exec
  have hb := B.bytes
  have hr := B.returns
  have hts := atoms_spec (ws := w_M_flood) B.pre
  have hown : s.vm.findClass "SeatProofsModel" = some m.cls := findClass_of_methodNamed B.named
  have hlocks := B.notSynchronized
  subst hsz
  have hD := hD0.self (sz := s.heap.size)
  have hA : ∀ z : Nat, s.heap.size ≤ z → va_A (wM q u) s.heap.size z := fun z h => Or.inr h
  have hS : va_S (va_A (wM q u) s.heap.size) s.heap s.heap [] := va_S.rf
  have hl := lv_entry ([Value.ref (ma_o q), Value.int (nI a), Value.int (nI f)]) (n := 9) (Nat.le_of_ble_eq_true rfl)
  rw [lg_entry_eq]
  generalize (lg_sl ([Value.ref (ma_o q), Value.int (nI a), Value.int (nI f)]) ++ List.replicate (9 - (lg_sl ([Value.ref (ma_o q), Value.int (nI a), Value.int (nI f)])).length) Slot.unset).toArray = ls at hl ⊢
  have hl : lv_has ls 9 [(0, .ref (ma_o q)), (1, .int (nI a)), (2, .int (nI f))] := hl
  obtain ⟨k1, k2, k3, k4, k5, k6, k7, k8, k9, k10, k11⟩ := id hu
  refine lv_iconst (v := nI 0) hx hb d_M_flood_0 (by decide) ?_
  refine lv_istore_n (lv' := [(3, .int (nI 0)), (0, .ref (ma_o q)), (1, .int (nI a)), (2, .int (nI f))]) hx hb d_M_flood_1 rfl hl (by decide) rfl (fun ls hl => ?_)
  have L2 : ∀ (n2 : Nat) (i : Nat) (w2 : Nat → Bool), (i ≤ m_nS u) → (∀ t, t < i → w2 t = decide (m_liq u t = a)) → m_nS u - i < n2 → ∀ (H : Heap) (locs : List Loc) (ls : Array Slot), va_P (dC, dI) vwCl (wMx q (m_liq u) (m_lev u) (m_nS u) (m_fa u) (m_fb u) (m_seat u) (m_op u) (m_un u) (m_nV u) (m_may u) (m_nR u) (m_rf u) (m_rl u) (m_rw u) (m_rc u) (m_cul u) (m_gu u) (m_te u) (m_th u) w2) H → va_D (va_A (wM q u) s.heap.size) (wMx q (m_liq u) (m_lev u) (m_nS u) (m_fa u) (m_fb u) (m_seat u) (m_op u) (m_un u) (m_nV u) (m_may u) (m_nR u) (m_rf u) (m_rl u) (m_rw u) (m_rc u) (m_cul u) (m_gu u) (m_te u) (m_th u) w2) → va_S (va_A (wM q u) s.heap.size) s.heap H locs → lv_has ls 9 [(0, .ref (ma_o q)), (1, .int (nI a)), (2, .int (nI f)), (3, .int (nI i))] → W p l e (headSpec w_M_flood ({ frames := 1, cells := 0, slots := 0, locals := 23 })).room s m [Value.ref (ma_o q), Value.int (nI a), Value.int (nI f)].toArray below meth c H locs 0 0 (MQ below (va_Ql (fun (r : Int64) (z : MSt) => ∃ w, z = m_s_wet u w ∧ r = mF u a f) (qB (dC, dI) vwCl (tM q) (wM q u) s.heap.size (wM q)) (va_A (wM q u) s.heap.size)) [Value.ref (ma_o q), Value.int (nI a), Value.int (nI f)].toArray s 0 0 (va_A (wM q u) s.heap.size)) (F0 m 2 ls []) := by
    intro n2
    induction n2 with
    | zero => intro i w2 hi2 hw2 hm; exact absurd hm (Nat.not_lt_zero _)
    | succ n2 ih2 =>
      intro i w2 hi2 hw2 hm2 H locs ls hP hD hS hl
      refine lv_iload_n hx hb d_M_flood_2 rfl (lv_at hl 3 rfl) ?_
      refine lv_aload_n hx hb d_M_flood_3 rfl (lv_at hl 0 rfl) ?_
      refine va_get (D := (dC, dI)) (ci := 4) (v := .int (nI (m_nS u))) (C := "SeatProofsModel") (T := F_M) (N := 20) hx hb hts (iu_M _) hown hK hP 0 rfl rfl 2 (by decide) (hts _ (List.mem_cons_of_mem _ iw_442)) (fun _ h9 => h9) rfl d_M_flood_4 ?_
      refine nv_ge (tgt := 37) hx hb d_M_flood_7 (by decide) (by omega) (by omega) (fun c_1 => ?_) (fun c_1 => ?_)
      · refine lv_iconst (v := nI 1) hx hb d_M_flood_37 (by decide) ?_
        refine lv_istore_n (lv' := [(3, .int (nI 1)), (0, .ref (ma_o q)), (1, .int (nI a)), (2, .int (nI f))]) hx hb d_M_flood_38 rfl hl (by decide) rfl (fun ls hl => ?_)
        have L39 : ∀ (n39 : Nat) (w39 : Nat → Bool) (mo : Bool), (FI u a f w39) → (mo = false → FC u f w39 (m_nV u)) → 2 * dry w39 (m_nS u) + (if mo = true then 1 else 0) < n39 → ∀ (H : Heap) (locs : List Loc) (ls : Array Slot), va_P (dC, dI) vwCl (wMx q (m_liq u) (m_lev u) (m_nS u) (m_fa u) (m_fb u) (m_seat u) (m_op u) (m_un u) (m_nV u) (m_may u) (m_nR u) (m_rf u) (m_rl u) (m_rw u) (m_rc u) (m_cul u) (m_gu u) (m_te u) (m_th u) w39) H → va_D (va_A (wM q u) s.heap.size) (wMx q (m_liq u) (m_lev u) (m_nS u) (m_fa u) (m_fb u) (m_seat u) (m_op u) (m_un u) (m_nV u) (m_may u) (m_nR u) (m_rf u) (m_rl u) (m_rw u) (m_rc u) (m_cul u) (m_gu u) (m_te u) (m_th u) w39) → va_S (va_A (wM q u) s.heap.size) s.heap H locs → lv_has ls 9 [(0, .ref (ma_o q)), (1, .int (nI a)), (2, .int (nI f)), (3, .int (bI mo))] → W p l e (headSpec w_M_flood ({ frames := 1, cells := 0, slots := 0, locals := 23 })).room s m [Value.ref (ma_o q), Value.int (nI a), Value.int (nI f)].toArray below meth c H locs 0 0 (MQ below (va_Ql (fun (r : Int64) (z : MSt) => ∃ w, z = m_s_wet u w ∧ r = mF u a f) (qB (dC, dI) vwCl (tM q) (wM q u) s.heap.size (wM q)) (va_A (wM q u) s.heap.size)) [Value.ref (ma_o q), Value.int (nI a), Value.int (nI f)].toArray s 0 0 (va_A (wM q u) s.heap.size)) (F0 m 39 ls []) := by
          intro n39
          induction n39 with
          | zero => intro w39 mo hI39 hC39 hm; exact absurd hm (Nat.not_lt_zero _)
          | succ n39 ih39 =>
            intro w39 mo hI39 hC39 hm39 H locs ls hP hD hS hl
            refine lv_iload_n hx hb d_M_flood_39 rfl (lv_at hl 3 rfl) ?_
            refine b0_eq (tgt := 177) hx hb d_M_flood_40 (by decide) (fun c_2 => ?_) (fun c_2 => ?_)
            · refine lv_lconst (v := 0) hx hb d_M_flood_177 (by decide) ?_
              refine lv_lstore (lv' := [(4, .long 0), (0, .ref (ma_o q)), (1, .int (nI a)), (2, .int (nI f)), (3, .int (bI mo))]) hx hb d_M_flood_178 hl (by decide) rfl (fun ls hl => ?_)
              refine lv_iconst (v := nI 0) hx hb d_M_flood_180 (by decide) ?_
              refine lv_istore (lv' := [(6, .int (nI 0)), (4, .long 0), (0, .ref (ma_o q)), (1, .int (nI a)), (2, .int (nI f)), (3, .int (bI mo))]) hx hb d_M_flood_181 hl (by decide) rfl (fun ls hl => ?_)
              have L183 : ∀ (n183 : Nat) (i : Nat) (x : Int64), (i ≤ m_nS u) → (∀ j, tb x j = (decide (j < i) && w39 j)) → m_nS u - i < n183 → ∀ (H : Heap) (locs : List Loc) (ls : Array Slot), va_P (dC, dI) vwCl (wMx q (m_liq u) (m_lev u) (m_nS u) (m_fa u) (m_fb u) (m_seat u) (m_op u) (m_un u) (m_nV u) (m_may u) (m_nR u) (m_rf u) (m_rl u) (m_rw u) (m_rc u) (m_cul u) (m_gu u) (m_te u) (m_th u) w39) H → va_D (va_A (wM q u) s.heap.size) (wMx q (m_liq u) (m_lev u) (m_nS u) (m_fa u) (m_fb u) (m_seat u) (m_op u) (m_un u) (m_nV u) (m_may u) (m_nR u) (m_rf u) (m_rl u) (m_rw u) (m_rc u) (m_cul u) (m_gu u) (m_te u) (m_th u) w39) → va_S (va_A (wM q u) s.heap.size) s.heap H locs → lv_has ls 9 [(0, .ref (ma_o q)), (4, .long x), (6, .int (nI i))] → W p l e (headSpec w_M_flood ({ frames := 1, cells := 0, slots := 0, locals := 23 })).room s m [Value.ref (ma_o q), Value.int (nI a), Value.int (nI f)].toArray below meth c H locs 0 0 (MQ below (va_Ql (fun (r : Int64) (z : MSt) => ∃ w, z = m_s_wet u w ∧ r = mF u a f) (qB (dC, dI) vwCl (tM q) (wM q u) s.heap.size (wM q)) (va_A (wM q u) s.heap.size)) [Value.ref (ma_o q), Value.int (nI a), Value.int (nI f)].toArray s 0 0 (va_A (wM q u) s.heap.size)) (F0 m 183 ls []) := by
                intro n183
                induction n183 with
                | zero => intro i x hi183 hx183 hm; exact absurd hm (Nat.not_lt_zero _)
                | succ n183 ih183 =>
                  intro i x hi183 hx183 hm183 H locs ls hP hD hS hl
                  refine lv_iload hx hb d_M_flood_183 (lv_at hl 2 rfl) ?_
                  refine lv_aload_n hx hb d_M_flood_185 rfl (lv_at hl 0 rfl) ?_
                  refine va_get (D := (dC, dI)) (ci := 4) (v := .int (nI (m_nS u))) (C := "SeatProofsModel") (T := F_M) (N := 20) hx hb hts (iu_M _) hown hK hP 0 rfl rfl 2 (by decide) (hts _ (List.mem_cons_of_mem _ iw_442)) (fun _ h9 => h9) rfl d_M_flood_186 ?_
                  refine nv_ge (tgt := 222) hx hb d_M_flood_189 (by decide) (by omega) (by omega) (fun c_3 => ?_) (fun c_3 => ?_)
                  · refine lv_lload hx hb d_M_flood_222 (lv_at hl 1 rfl) ?_
                    exact W.lret hx hb hr (fun t9 ht9 hW9 => ⟨⟨_, (m_mk (m_liq u) (m_lev u) (m_nS u) (m_fa u) (m_fb u) (m_seat u) (m_op u) (m_un u) (m_nV u) (m_may u) (m_nR u) (m_rf u) (m_rl u) (m_rw u) (m_rc u) (m_cul u) (m_gu u) (m_te u) (m_th u) w39), rfl, ⟨w39, rfl, FI_end hu hI39 (hC39 c_2) (fun j => by rw [hx183 j, show i = m_nS u from by omega])⟩, by rw [ht9]; exact hP, va_K.moved hW9.alike hK, hD⟩, hS.F ht9⟩) hS.2.2 d_M_flood_224
                  · refine lv_aload_n hx hb d_M_flood_192 rfl (lv_at hl 0 rfl) ?_
                    refine va_get (D := (dC, dI)) (ci := 4) (v := .ref (ma_wet q)) (C := "SeatProofsModel") (T := F_M) (N := 20) hx hb hts (iu_M _) hown hK hP 0 rfl rfl 19 (by decide) (hts _ (List.mem_cons_of_mem _ iw_459)) (fun _ h9 => h9) rfl d_M_flood_193 ?_
                    refine lv_iload hx hb d_M_flood_196 (lv_at hl 2 rfl) ?_
                    refine ld_z hx hb hK hP 14 2 rfl rfl (bI (w39 i)) (by omega) (by decide) rfl d_M_flood_198 ?_
                    refine b0_eq (tgt := 212) hx hb d_M_flood_199 (by decide) (fun c_4 => ?_) (fun c_4 => ?_)
                    · refine lv_lload hx hb d_M_flood_212 (lv_at hl 1 rfl) ?_
                      refine lv_lstore (lv' := [(4, .long x), (0, .ref (ma_o q)), (6, .int (nI i))]) hx hb d_M_flood_214 hl (by decide) rfl (fun ls hl => ?_)
                      refine lv_iinc (v := nI (i + 1)) (lv' := [(6, .int (nI (i + 1))), (4, .long x), (0, .ref (ma_o q))]) hx hb d_M_flood_216 hl (k := 2) rfl (nI_1 _) (by decide) rfl (fun ls hl => ?_)
                      refine lv_goto (tgt := 183) hx hb d_M_flood_219 (by decide) ?_
                      exact ih183 (i + 1) x (by omega) (bits_f hx183 c_4) (by omega) _ _ ls hP hD hS (lv_sub hl [2, 1, 0] rfl)
                    · refine lv_lload hx hb d_M_flood_202 (lv_at hl 1 rfl) ?_
                      refine lv_lconst (v := 1) hx hb d_M_flood_204 (by decide) ?_
                      refine lv_iload hx hb d_M_flood_205 (lv_at hl 2 rfl) ?_
                      refine lv_lshl (v := 1 <<< ((nI i).toInt64 &&& 63)) hx hb d_M_flood_207 rfl ?_
                      refine tp_l (bt i) rfl ?_
                      refine lv_lor hx hb d_M_flood_208 ?_
                      refine lv_goto (tgt := 214) hx hb d_M_flood_209 (by decide) ?_
                      refine lv_lstore (lv' := [(4, .long (x ||| (bt i))), (0, .ref (ma_o q)), (6, .int (nI i))]) hx hb d_M_flood_214 hl (by decide) rfl (fun ls hl => ?_)
                      refine lv_iinc (v := nI (i + 1)) (lv' := [(6, .int (nI (i + 1))), (4, .long (x ||| (bt i))), (0, .ref (ma_o q))]) hx hb d_M_flood_216 hl (k := 2) rfl (nI_1 _) (by decide) rfl (fun ls hl => ?_)
                      refine lv_goto (tgt := 183) hx hb d_M_flood_219 (by decide) ?_
                      exact ih183 (i + 1) (x ||| (bt i)) (by omega) (bits_t hx183 (by omega) c_4) (by omega) _ _ ls hP hD hS (lv_sub hl [2, 1, 0] rfl)
              exact L183 _ 0 0 (Nat.zero_le _) bits_0 (Nat.lt_succ_self _) _ _ ls hP hD hS (lv_sub hl [2, 1, 0] rfl)
            · refine lv_iconst (v := nI 0) hx hb d_M_flood_43 (by decide) ?_
              refine lv_istore_n (lv' := [(3, .int (nI 0)), (0, .ref (ma_o q)), (1, .int (nI a)), (2, .int (nI f))]) hx hb d_M_flood_44 rfl hl (by decide) rfl (fun ls hl => ?_)
              refine lv_iconst (v := nI 0) hx hb d_M_flood_45 (by decide) ?_
              refine lv_istore (lv' := [(4, .int (nI 0)), (3, .int (nI 0)), (0, .ref (ma_o q)), (1, .int (nI a)), (2, .int (nI f))]) hx hb d_M_flood_46 hl (by decide) rfl (fun ls hl => ?_)
              have L48 : ∀ (n48 : Nat) (v : Nat) (w48 : Nat → Bool) (mo2 : Bool), (v ≤ m_nV u) → (FI u a f w48) → (mo2 = false → FC u f w48 v) → ((mo2 = true → dry w48 (m_nS u) < dry w39 (m_nS u)) ∧ dry w48 (m_nS u) ≤ dry w39 (m_nS u)) → m_nV u - v < n48 → ∀ (H : Heap) (locs : List Loc) (ls : Array Slot), va_P (dC, dI) vwCl (wMx q (m_liq u) (m_lev u) (m_nS u) (m_fa u) (m_fb u) (m_seat u) (m_op u) (m_un u) (m_nV u) (m_may u) (m_nR u) (m_rf u) (m_rl u) (m_rw u) (m_rc u) (m_cul u) (m_gu u) (m_te u) (m_th u) w48) H → va_D (va_A (wM q u) s.heap.size) (wMx q (m_liq u) (m_lev u) (m_nS u) (m_fa u) (m_fb u) (m_seat u) (m_op u) (m_un u) (m_nV u) (m_may u) (m_nR u) (m_rf u) (m_rl u) (m_rw u) (m_rc u) (m_cul u) (m_gu u) (m_te u) (m_th u) w48) → va_S (va_A (wM q u) s.heap.size) s.heap H locs → lv_has ls 9 [(0, .ref (ma_o q)), (1, .int (nI a)), (2, .int (nI f)), (3, .int (bI mo2)), (4, .int (nI v))] → W p l e (headSpec w_M_flood ({ frames := 1, cells := 0, slots := 0, locals := 23 })).room s m [Value.ref (ma_o q), Value.int (nI a), Value.int (nI f)].toArray below meth c H locs 0 0 (MQ below (va_Ql (fun (r : Int64) (z : MSt) => ∃ w, z = m_s_wet u w ∧ r = mF u a f) (qB (dC, dI) vwCl (tM q) (wM q u) s.heap.size (wM q)) (va_A (wM q u) s.heap.size)) [Value.ref (ma_o q), Value.int (nI a), Value.int (nI f)].toArray s 0 0 (va_A (wM q u) s.heap.size)) (F0 m 48 ls []) := by
                intro n48
                induction n48 with
                | zero => intro v w48 mo2 hv48 hI48 hC48 hD48 hm; exact absurd hm (Nat.not_lt_zero _)
                | succ n48 ih48 =>
                  intro v w48 mo2 hv48 hI48 hC48 hD48 hm48 H locs ls hP hD hS hl
                  refine lv_iload hx hb d_M_flood_48 (lv_at hl 4 rfl) ?_
                  refine lv_aload_n hx hb d_M_flood_50 rfl (lv_at hl 0 rfl) ?_
                  refine va_get (D := (dC, dI)) (ci := 4) (v := .int (nI (m_nV u))) (C := "SeatProofsModel") (T := F_M) (N := 20) hx hb hts (iu_M _) hown hK hP 0 rfl rfl 8 (by decide) (hts _ (List.mem_cons_of_mem _ iw_448)) (fun _ h9 => h9) rfl d_M_flood_51 ?_
                  refine nv_ge (tgt := 174) hx hb d_M_flood_54 (by decide) (by omega) (by omega) (fun c_5 => ?_) (fun c_5 => ?_)
                  · refine lv_goto (tgt := 39) hx hb d_M_flood_174 (by decide) ?_
                    exact ih39 w48 mo2 hI48 (fun h => by rw [show m_nV u = v from by omega]; exact hC48 h) (dry_39 hD48 c_2 hm39) _ _ ls hP hD hS (lv_sub hl [0, 1, 2, 3] rfl)
                  · refine lv_aload_n hx hb d_M_flood_57 rfl (lv_at hl 0 rfl) ?_
                    refine va_get (D := (dC, dI)) (ci := 4) (v := .ref (ma_fa q)) (C := "SeatProofsModel") (T := F_M) (N := 20) hx hb hts (iu_M _) hown hK hP 0 rfl rfl 3 (by decide) (hts _ (List.mem_cons_of_mem _ iw_443)) (fun _ h9 => h9) rfl d_M_flood_58 ?_
                    refine lv_iload hx hb d_M_flood_61 (lv_at hl 4 rfl) ?_
                    refine ld_i hx hb hK hP 3 0 rfl rfl (nI (m_fa u v)) (by omega) (by decide) rfl d_M_flood_63 ?_
                    refine lv_istore (lv' := [(5, .int (nI (m_fa u v))), (0, .ref (ma_o q)), (1, .int (nI a)), (2, .int (nI f)), (3, .int (bI mo2)), (4, .int (nI v))]) hx hb d_M_flood_64 hl (by decide) rfl (fun ls hl => ?_)
                    refine lv_aload_n hx hb d_M_flood_66 rfl (lv_at hl 1 rfl) ?_
                    refine va_get (D := (dC, dI)) (ci := 4) (v := .ref (ma_fb q)) (C := "SeatProofsModel") (T := F_M) (N := 20) hx hb hts (iu_M _) hown hK hP 0 rfl rfl 4 (by decide) (hts _ (List.mem_cons_of_mem _ iw_444)) (fun _ h9 => h9) rfl d_M_flood_67 ?_
                    refine lv_iload hx hb d_M_flood_70 (lv_at hl 5 rfl) ?_
                    refine ld_i hx hb hK hP 4 0 rfl rfl (nI (m_fb u v)) (by omega) (by decide) rfl d_M_flood_72 ?_
                    refine lv_istore (lv' := [(6, .int (nI (m_fb u v))), (5, .int (nI (m_fa u v))), (0, .ref (ma_o q)), (1, .int (nI a)), (2, .int (nI f)), (3, .int (bI mo2)), (4, .int (nI v))]) hx hb d_M_flood_73 hl (by decide) rfl (fun ls hl => ?_)
                    refine lv_aload_n hx hb d_M_flood_75 rfl (lv_at hl 2 rfl) ?_
                    refine lv_iload hx hb d_M_flood_76 (lv_at hl 6 rfl) ?_
                    refine lv_iload_n hx hb d_M_flood_78 rfl (lv_at hl 4 rfl) ?_
                    refine vp_callSi (va_Run.run (va_runV (As := [.int (nI v), .int (nI f)]) (rest := []) ⟨hx, hb, hml, hown, hts⟩ (c_M_lets l dC dI q (m_mk (m_liq u) (m_lev u) (m_nS u) (m_fa u) (m_fb u) (m_seat u) (m_op u) (m_un u) (m_nV u) (m_may u) (m_nR u) (m_rf u) (m_rl u) (m_rw u) (m_rc u) (m_cul u) (m_gu u) (m_te u) (m_th u) w48) v f hu (by omega) (by omega)) (cwV 2 hts (good_up (good_V iw_534 iw_536 ip_12 iw_5 gg_M_lets)) rfl rfl rfl (by decide +kernel) ⟨Nat.le_of_ble_eq_true rfl, Nat.le_of_ble_eq_true rfl⟩) (pv_S [.int (nI v), .int (nI f)] hN hK hP (ci := 4) (q0 := 0) rfl rfl) rfl rfl hl.1 rfl (lv_room (Nat.le_of_ble_eq_true rfl)) d_M_flood_79 ⟨Nat.le_of_ble_eq_true rfl, Nat.le_of_ble_eq_true rfl⟩)) (fun r_6 hr_6 => ?_)
                    subst hr_6
                    refine b0_eq (tgt := 168) hx hb d_M_flood_82 (by decide) (fun c_7 => ?_) (fun c_7 => ?_)
                    · have c_7 : mlets u v f = false := c_7
                      refine lv_iinc (v := nI (v + 1)) (lv' := [(4, .int (nI (v + 1))), (6, .int (nI (m_fb u v))), (5, .int (nI (m_fa u v))), (0, .ref (ma_o q)), (1, .int (nI a)), (2, .int (nI f)), (3, .int (bI mo2))]) hx hb d_M_flood_168 hl (k := 6) rfl (nI_1 _) (by decide) rfl (fun ls hl => ?_)
                      refine lv_goto (tgt := 48) hx hb d_M_flood_171 (by decide) ?_
                      exact ih48 (v + 1) w48 mo2 (by omega) hI48 (fun h => FC_s (hC48 h) (fun q => absurd (q.symm.trans c_7) (by decide))) hD48 (by omega) _ _ ls hP hD hS (lv_sub hl [3, 4, 5, 6, 0] rfl)
                    · have c_7 : mlets u v f = true := c_7
                      refine lv_aload_n hx hb d_M_flood_85 rfl (lv_at hl 2 rfl) ?_
                      refine va_get (D := (dC, dI)) (ci := 4) (v := .ref (ma_wet q)) (C := "SeatProofsModel") (T := F_M) (N := 20) hx hb hts (iu_M _) hown hK hP 0 rfl rfl 19 (by decide) (hts _ (List.mem_cons_of_mem _ iw_459)) (fun _ h9 => h9) rfl d_M_flood_86 ?_
                      refine lv_iload hx hb d_M_flood_89 (lv_at hl 1 rfl) ?_
                      refine ld_z hx hb hK hP 14 2 rfl rfl (bI (w48 (m_fa u v))) (k5 _) (by decide) rfl d_M_flood_91 ?_
                      refine lv_aload_n hx hb d_M_flood_92 rfl (lv_at hl 2 rfl) ?_
                      refine va_get (D := (dC, dI)) (ci := 4) (v := .ref (ma_wet q)) (C := "SeatProofsModel") (T := F_M) (N := 20) hx hb hts (iu_M _) hown hK hP 0 rfl rfl 19 (by decide) (hts _ (List.mem_cons_of_mem _ iw_459)) (fun _ h9 => h9) rfl d_M_flood_93 ?_
                      refine lv_iload hx hb d_M_flood_96 (lv_at hl 0 rfl) ?_
                      refine ld_z hx hb hK hP 14 2 rfl rfl (bI (w48 (m_fb u v))) (k6 _) (by decide) rfl d_M_flood_98 ?_
                      refine bv_eq (tgt := 168) hx hb d_M_flood_99 (by decide) (fun c_8 => ?_) (fun c_8 => ?_)
                      · refine lv_iinc (v := nI (v + 1)) (lv' := [(4, .int (nI (v + 1))), (6, .int (nI (m_fb u v))), (5, .int (nI (m_fa u v))), (0, .ref (ma_o q)), (1, .int (nI a)), (2, .int (nI f)), (3, .int (bI mo2))]) hx hb d_M_flood_168 hl (k := 6) rfl (nI_1 _) (by decide) rfl (fun ls hl => ?_)
                        refine lv_goto (tgt := 48) hx hb d_M_flood_171 (by decide) ?_
                        exact ih48 (v + 1) w48 mo2 (by omega) hI48 (fun h => FC_s (hC48 h) (fun _ => ⟨fun q _ => (c_8).symm.trans q, fun q _ => (c_8).trans q⟩)) hD48 (by omega) _ _ ls hP hD hS (lv_sub hl [3, 4, 5, 6, 0] rfl)
                      · refine lv_aload_n hx hb d_M_flood_102 rfl (lv_at hl 2 rfl) ?_
                        refine va_get (D := (dC, dI)) (ci := 4) (v := .ref (ma_wet q)) (C := "SeatProofsModel") (T := F_M) (N := 20) hx hb hts (iu_M _) hown hK hP 0 rfl rfl 19 (by decide) (hts _ (List.mem_cons_of_mem _ iw_459)) (fun _ h9 => h9) rfl d_M_flood_103 ?_
                        refine lv_iload hx hb d_M_flood_106 (lv_at hl 1 rfl) ?_
                        refine ld_z hx hb hK hP 14 2 rfl rfl (bI (w48 (m_fa u v))) (k5 _) (by decide) rfl d_M_flood_108 ?_
                        refine b0_eq (tgt := 117) hx hb d_M_flood_109 (by decide) (fun c_9 => ?_) (fun c_9 => ?_)
                        · refine lv_iload hx hb d_M_flood_117 (lv_at hl 0 rfl) ?_
                          refine lv_istore (lv' := [(7, .int (nI (m_fb u v))), (6, .int (nI (m_fb u v))), (5, .int (nI (m_fa u v))), (0, .ref (ma_o q)), (1, .int (nI a)), (2, .int (nI f)), (3, .int (bI mo2)), (4, .int (nI v))]) hx hb d_M_flood_119 hl (by decide) rfl (fun ls hl => ?_)
                          refine lv_aload_n hx hb d_M_flood_121 rfl (lv_at hl 3 rfl) ?_
                          refine va_get (D := (dC, dI)) (ci := 4) (v := .ref (ma_wet q)) (C := "SeatProofsModel") (T := F_M) (N := 20) hx hb hts (iu_M _) hown hK hP 0 rfl rfl 19 (by decide) (hts _ (List.mem_cons_of_mem _ iw_459)) (fun _ h9 => h9) rfl d_M_flood_122 ?_
                          refine lv_iload hx hb d_M_flood_125 (lv_at hl 2 rfl) ?_
                          refine ld_z hx hb hK hP 14 2 rfl rfl (bI (w48 (m_fa u v))) (k5 _) (by decide) rfl d_M_flood_127 ?_
                          refine b0_eq (tgt := 136) hx hb d_M_flood_128 (by decide) (fun c_10 => ?_) (fun c_10 => ?_)
                          · refine lv_iload hx hb d_M_flood_136 (lv_at hl 2 rfl) ?_
                            refine lv_istore (lv' := [(8, .int (nI (m_fa u v))), (7, .int (nI (m_fb u v))), (6, .int (nI (m_fb u v))), (5, .int (nI (m_fa u v))), (0, .ref (ma_o q)), (1, .int (nI a)), (2, .int (nI f)), (3, .int (bI mo2)), (4, .int (nI v))]) hx hb d_M_flood_138 hl (by decide) rfl (fun ls hl => ?_)
                            refine lv_aload_n hx hb d_M_flood_140 rfl (lv_at hl 4 rfl) ?_
                            refine va_get (D := (dC, dI)) (ci := 4) (v := .ref (ma_lev q)) (C := "SeatProofsModel") (T := F_M) (N := 20) hx hb hts (iu_M _) hown hK hP 0 rfl rfl 1 (by decide) (hts _ (List.mem_cons_of_mem _ iw_441)) (fun _ h9 => h9) rfl d_M_flood_141 ?_
                            refine lv_iload hx hb d_M_flood_144 (lv_at hl 0 rfl) ?_
                            refine ld_l hx hb hK hP 2 1 rfl rfl (m_lev u (m_fa u v)) (by first | exact k5 _ | exact k6 _) (by decide) rfl d_M_flood_146 ?_
                            refine lv_aload_n hx hb d_M_flood_147 rfl (lv_at hl 4 rfl) ?_
                            refine va_get (D := (dC, dI)) (ci := 4) (v := .ref (ma_lev q)) (C := "SeatProofsModel") (T := F_M) (N := 20) hx hb hts (iu_M _) hown hK hP 0 rfl rfl 1 (by decide) (hts _ (List.mem_cons_of_mem _ iw_441)) (fun _ h9 => h9) rfl d_M_flood_148 ?_
                            refine lv_iload hx hb d_M_flood_151 (lv_at hl 1 rfl) ?_
                            refine ld_l hx hb hK hP 2 1 rfl rfl (m_lev u (m_fb u v)) (by first | exact k5 _ | exact k6 _) (by decide) rfl d_M_flood_153 ?_
                            refine W.lcmp hx hb d_M_flood_154 ?_
                            refine l0_gt (tgt := 168) hx hb d_M_flood_155 (by decide) (fun c_11 => ?_) (fun c_11 => ?_)
                            · refine lv_iinc (v := nI (v + 1)) (lv' := [(4, .int (nI (v + 1))), (8, .int (nI (m_fa u v))), (7, .int (nI (m_fb u v))), (6, .int (nI (m_fb u v))), (5, .int (nI (m_fa u v))), (0, .ref (ma_o q)), (1, .int (nI a)), (2, .int (nI f)), (3, .int (bI mo2))]) hx hb d_M_flood_168 hl (k := 8) rfl (nI_1 _) (by decide) rfl (fun ls hl => ?_)
                              refine lv_goto (tgt := 48) hx hb d_M_flood_171 (by decide) ?_
                              exact ih48 (v + 1) w48 mo2 (by omega) hI48 (fun h => FC_s (hC48 h) (fun _ => ⟨fun q _ => absurd (q.symm.trans c_9) (by decide), fun _ q => absurd q c_11⟩)) hD48 (by omega) _ _ ls hP hD hS (lv_sub hl [5, 6, 7, 8, 0] rfl)
                            · have hdr : w48 (m_fb u v) = true := ts_nf (fun q => c_8 (c_9.trans q.symm))
                              refine lv_aload_n hx hb d_M_flood_158 rfl (lv_at hl 4 rfl) ?_
                              refine va_get (D := (dC, dI)) (ci := 4) (v := .ref (ma_wet q)) (C := "SeatProofsModel") (T := F_M) (N := 20) hx hb hts (iu_M _) hown hK hP 0 rfl rfl 19 (by decide) (hts _ (List.mem_cons_of_mem _ iw_459)) (fun _ h9 => h9) rfl d_M_flood_159 ?_
                              refine lv_iload hx hb d_M_flood_162 (lv_at hl 0 rfl) ?_
                              refine lv_iconst (v := nI 1) hx hb d_M_flood_164 (by decide) ?_
                              refine tp_i (bI true) (by decide) ?_
                              refine st_z hx hb hK hP hD hS 14 2 rfl rfl (fun j9 => bI (va_up w48 (m_fa u v) true j9)) (by first | exact k5 _ | exact k6 _) (by decide) (upd_bI _ _ _) d_M_flood_165 (fun H locs hP hD hS => ?_)
                              have hP : va_P (dC, dI) vwCl (wMx q (m_liq u) (m_lev u) (m_nS u) (m_fa u) (m_fb u) (m_seat u) (m_op u) (m_un u) (m_nV u) (m_may u) (m_nR u) (m_rf u) (m_rl u) (m_rw u) (m_rc u) (m_cul u) (m_gu u) (m_te u) (m_th u) (va_up w48 (m_fa u v) true)) H := hP
                              have hD : va_D (va_A (wM q u) s.heap.size) (wMx q (m_liq u) (m_lev u) (m_nS u) (m_fa u) (m_fb u) (m_seat u) (m_op u) (m_un u) (m_nV u) (m_may u) (m_nR u) (m_rf u) (m_rl u) (m_rw u) (m_rc u) (m_cul u) (m_gu u) (m_te u) (m_th u) (va_up w48 (m_fa u v) true)) := hD
                              refine lv_iconst (v := nI 1) hx hb d_M_flood_166 (by decide) ?_
                              refine lv_istore_n (lv' := [(3, .int (nI 1)), (8, .int (nI (m_fa u v))), (7, .int (nI (m_fb u v))), (6, .int (nI (m_fb u v))), (5, .int (nI (m_fa u v))), (0, .ref (ma_o q)), (1, .int (nI a)), (2, .int (nI f)), (4, .int (nI v))]) hx hb d_M_flood_167 rfl hl (by decide) rfl (fun ls hl => ?_)
                              refine lv_iinc (v := nI (v + 1)) (lv' := [(4, .int (nI (v + 1))), (3, .int (nI 1)), (8, .int (nI (m_fa u v))), (7, .int (nI (m_fb u v))), (6, .int (nI (m_fb u v))), (5, .int (nI (m_fa u v))), (0, .ref (ma_o q)), (1, .int (nI a)), (2, .int (nI f))]) hx hb d_M_flood_168 hl (k := 8) rfl (nI_1 _) (by decide) rfl (fun ls hl => ?_)
                              refine lv_goto (tgt := 48) hx hb d_M_flood_171 (by decide) ?_
                              exact ih48 (v + 1) (va_up w48 (m_fa u v) true) true (by omega) (FI_ba hu (by omega) c_7 hI48 hdr c_11) (fun h => absurd h (by decide)) (dry_go hD48 (dry_up (k9 v (by omega)).1 c_9)) (by omega) _ _ ls hP hD hS (lv_sub hl [6, 7, 8, 1, 0] rfl)
                          · exact absurd (c_10.symm.trans c_9) (by decide)
                        · refine lv_iload hx hb d_M_flood_112 (lv_at hl 1 rfl) ?_
                          refine lv_goto (tgt := 119) hx hb d_M_flood_114 (by decide) ?_
                          refine lv_istore (lv' := [(7, .int (nI (m_fa u v))), (6, .int (nI (m_fb u v))), (5, .int (nI (m_fa u v))), (0, .ref (ma_o q)), (1, .int (nI a)), (2, .int (nI f)), (3, .int (bI mo2)), (4, .int (nI v))]) hx hb d_M_flood_119 hl (by decide) rfl (fun ls hl => ?_)
                          refine lv_aload_n hx hb d_M_flood_121 rfl (lv_at hl 3 rfl) ?_
                          refine va_get (D := (dC, dI)) (ci := 4) (v := .ref (ma_wet q)) (C := "SeatProofsModel") (T := F_M) (N := 20) hx hb hts (iu_M _) hown hK hP 0 rfl rfl 19 (by decide) (hts _ (List.mem_cons_of_mem _ iw_459)) (fun _ h9 => h9) rfl d_M_flood_122 ?_
                          refine lv_iload hx hb d_M_flood_125 (lv_at hl 2 rfl) ?_
                          refine ld_z hx hb hK hP 14 2 rfl rfl (bI (w48 (m_fa u v))) (k5 _) (by decide) rfl d_M_flood_127 ?_
                          refine b0_eq (tgt := 136) hx hb d_M_flood_128 (by decide) (fun c_12 => ?_) (fun c_12 => ?_)
                          · exact absurd (c_12.symm.trans c_9) (by decide)
                          · refine lv_iload hx hb d_M_flood_131 (lv_at hl 1 rfl) ?_
                            refine lv_goto (tgt := 138) hx hb d_M_flood_133 (by decide) ?_
                            refine lv_istore (lv' := [(8, .int (nI (m_fb u v))), (7, .int (nI (m_fa u v))), (6, .int (nI (m_fb u v))), (5, .int (nI (m_fa u v))), (0, .ref (ma_o q)), (1, .int (nI a)), (2, .int (nI f)), (3, .int (bI mo2)), (4, .int (nI v))]) hx hb d_M_flood_138 hl (by decide) rfl (fun ls hl => ?_)
                            refine lv_aload_n hx hb d_M_flood_140 rfl (lv_at hl 4 rfl) ?_
                            refine va_get (D := (dC, dI)) (ci := 4) (v := .ref (ma_lev q)) (C := "SeatProofsModel") (T := F_M) (N := 20) hx hb hts (iu_M _) hown hK hP 0 rfl rfl 1 (by decide) (hts _ (List.mem_cons_of_mem _ iw_441)) (fun _ h9 => h9) rfl d_M_flood_141 ?_
                            refine lv_iload hx hb d_M_flood_144 (lv_at hl 0 rfl) ?_
                            refine ld_l hx hb hK hP 2 1 rfl rfl (m_lev u (m_fb u v)) (by first | exact k5 _ | exact k6 _) (by decide) rfl d_M_flood_146 ?_
                            refine lv_aload_n hx hb d_M_flood_147 rfl (lv_at hl 4 rfl) ?_
                            refine va_get (D := (dC, dI)) (ci := 4) (v := .ref (ma_lev q)) (C := "SeatProofsModel") (T := F_M) (N := 20) hx hb hts (iu_M _) hown hK hP 0 rfl rfl 1 (by decide) (hts _ (List.mem_cons_of_mem _ iw_441)) (fun _ h9 => h9) rfl d_M_flood_148 ?_
                            refine lv_iload hx hb d_M_flood_151 (lv_at hl 1 rfl) ?_
                            refine ld_l hx hb hK hP 2 1 rfl rfl (m_lev u (m_fa u v)) (by first | exact k5 _ | exact k6 _) (by decide) rfl d_M_flood_153 ?_
                            refine W.lcmp hx hb d_M_flood_154 ?_
                            refine l0_gt (tgt := 168) hx hb d_M_flood_155 (by decide) (fun c_13 => ?_) (fun c_13 => ?_)
                            · refine lv_iinc (v := nI (v + 1)) (lv' := [(4, .int (nI (v + 1))), (8, .int (nI (m_fb u v))), (7, .int (nI (m_fa u v))), (6, .int (nI (m_fb u v))), (5, .int (nI (m_fa u v))), (0, .ref (ma_o q)), (1, .int (nI a)), (2, .int (nI f)), (3, .int (bI mo2))]) hx hb d_M_flood_168 hl (k := 8) rfl (nI_1 _) (by decide) rfl (fun ls hl => ?_)
                              refine lv_goto (tgt := 48) hx hb d_M_flood_171 (by decide) ?_
                              exact ih48 (v + 1) w48 mo2 (by omega) hI48 (fun h => FC_s (hC48 h) (fun _ => ⟨fun _ q => absurd q c_13, fun _ _ => c_9⟩)) hD48 (by omega) _ _ ls hP hD hS (lv_sub hl [5, 6, 7, 8, 0] rfl)
                            · have hdr : w48 (m_fb u v) = false := ts_nt (fun q => c_8 (c_9.trans q.symm))
                              refine lv_aload_n hx hb d_M_flood_158 rfl (lv_at hl 4 rfl) ?_
                              refine va_get (D := (dC, dI)) (ci := 4) (v := .ref (ma_wet q)) (C := "SeatProofsModel") (T := F_M) (N := 20) hx hb hts (iu_M _) hown hK hP 0 rfl rfl 19 (by decide) (hts _ (List.mem_cons_of_mem _ iw_459)) (fun _ h9 => h9) rfl d_M_flood_159 ?_
                              refine lv_iload hx hb d_M_flood_162 (lv_at hl 0 rfl) ?_
                              refine lv_iconst (v := nI 1) hx hb d_M_flood_164 (by decide) ?_
                              refine tp_i (bI true) (by decide) ?_
                              refine st_z hx hb hK hP hD hS 14 2 rfl rfl (fun j9 => bI (va_up w48 (m_fb u v) true j9)) (by first | exact k5 _ | exact k6 _) (by decide) (upd_bI _ _ _) d_M_flood_165 (fun H locs hP hD hS => ?_)
                              have hP : va_P (dC, dI) vwCl (wMx q (m_liq u) (m_lev u) (m_nS u) (m_fa u) (m_fb u) (m_seat u) (m_op u) (m_un u) (m_nV u) (m_may u) (m_nR u) (m_rf u) (m_rl u) (m_rw u) (m_rc u) (m_cul u) (m_gu u) (m_te u) (m_th u) (va_up w48 (m_fb u v) true)) H := hP
                              have hD : va_D (va_A (wM q u) s.heap.size) (wMx q (m_liq u) (m_lev u) (m_nS u) (m_fa u) (m_fb u) (m_seat u) (m_op u) (m_un u) (m_nV u) (m_may u) (m_nR u) (m_rf u) (m_rl u) (m_rw u) (m_rc u) (m_cul u) (m_gu u) (m_te u) (m_th u) (va_up w48 (m_fb u v) true)) := hD
                              refine lv_iconst (v := nI 1) hx hb d_M_flood_166 (by decide) ?_
                              refine lv_istore_n (lv' := [(3, .int (nI 1)), (8, .int (nI (m_fb u v))), (7, .int (nI (m_fa u v))), (6, .int (nI (m_fb u v))), (5, .int (nI (m_fa u v))), (0, .ref (ma_o q)), (1, .int (nI a)), (2, .int (nI f)), (4, .int (nI v))]) hx hb d_M_flood_167 rfl hl (by decide) rfl (fun ls hl => ?_)
                              refine lv_iinc (v := nI (v + 1)) (lv' := [(4, .int (nI (v + 1))), (3, .int (nI 1)), (8, .int (nI (m_fb u v))), (7, .int (nI (m_fa u v))), (6, .int (nI (m_fb u v))), (5, .int (nI (m_fa u v))), (0, .ref (ma_o q)), (1, .int (nI a)), (2, .int (nI f))]) hx hb d_M_flood_168 hl (k := 8) rfl (nI_1 _) (by decide) rfl (fun ls hl => ?_)
                              refine lv_goto (tgt := 48) hx hb d_M_flood_171 (by decide) ?_
                              exact ih48 (v + 1) (va_up w48 (m_fb u v) true) true (by omega) (FI_ab hu (by omega) c_7 hI48 c_9 c_13) (fun h => absurd h (by decide)) (dry_go hD48 (dry_up (k9 v (by omega)).2.1 hdr)) (by omega) _ _ ls hP hD hS (lv_sub hl [6, 7, 8, 1, 0] rfl)
              exact L48 _ 0 w39 false (Nat.zero_le _) hI39 (fun _ => FC_0) (⟨fun h => absurd h (by decide), Nat.le_refl _⟩) (Nat.lt_succ_self _) _ _ ls hP hD hS (lv_sub hl [2, 3, 4, 1, 0] rfl)
        exact L39 _ w2 true (FI_0 (fun t ht => hw2 t (by omega))) (fun h => absurd h (by decide)) (Nat.lt_succ_self _) _ _ ls hP hD hS (lv_sub hl [1, 2, 3, 0] rfl)
      · refine lv_aload_n hx hb d_M_flood_10 rfl (lv_at hl 0 rfl) ?_
        refine va_get (D := (dC, dI)) (ci := 4) (v := .ref (ma_wet q)) (C := "SeatProofsModel") (T := F_M) (N := 20) hx hb hts (iu_M _) hown hK hP 0 rfl rfl 19 (by decide) (hts _ (List.mem_cons_of_mem _ iw_459)) (fun _ h9 => h9) rfl d_M_flood_11 ?_
        refine lv_iload_n hx hb d_M_flood_14 rfl (lv_at hl 3 rfl) ?_
        refine lv_aload_n hx hb d_M_flood_15 rfl (lv_at hl 0 rfl) ?_
        refine va_get (D := (dC, dI)) (ci := 4) (v := .ref (ma_liq q)) (C := "SeatProofsModel") (T := F_M) (N := 20) hx hb hts (iu_M _) hown hK hP 0 rfl rfl 0 (by decide) (hts _ (List.mem_cons_of_mem _ iw_440)) (fun _ h9 => h9) rfl d_M_flood_16 ?_
        refine lv_iload_n hx hb d_M_flood_19 rfl (lv_at hl 3 rfl) ?_
        refine ld_i hx hb hK hP 1 0 rfl rfl (nI (m_liq u i)) (by omega) (by decide) rfl d_M_flood_20 ?_
        refine lv_iload_n hx hb d_M_flood_21 rfl (lv_at hl 1 rfl) ?_
        refine nv_ne (tgt := 29) hx hb d_M_flood_22 (by decide) (by have := k4 i; omega) (by omega) (fun c_14 => ?_) (fun c_14 => ?_)
        · refine lv_iconst (v := nI 0) hx hb d_M_flood_29 (by decide) ?_
          refine tp_i (bI false) (by decide) ?_
          refine st_z hx hb hK hP hD hS 14 2 rfl rfl (fun j9 => bI (va_up w2 i false j9)) (by omega) (by decide) (upd_bI _ _ _) d_M_flood_30 (fun H locs hP hD hS => ?_)
          have hP : va_P (dC, dI) vwCl (wMx q (m_liq u) (m_lev u) (m_nS u) (m_fa u) (m_fb u) (m_seat u) (m_op u) (m_un u) (m_nV u) (m_may u) (m_nR u) (m_rf u) (m_rl u) (m_rw u) (m_rc u) (m_cul u) (m_gu u) (m_te u) (m_th u) (va_up w2 i false)) H := hP
          have hD : va_D (va_A (wM q u) s.heap.size) (wMx q (m_liq u) (m_lev u) (m_nS u) (m_fa u) (m_fb u) (m_seat u) (m_op u) (m_un u) (m_nV u) (m_may u) (m_nR u) (m_rf u) (m_rl u) (m_rw u) (m_rc u) (m_cul u) (m_gu u) (m_te u) (m_th u) (va_up w2 i false)) := hD
          refine lv_iinc (v := nI (i + 1)) (lv' := [(3, .int (nI (i + 1))), (0, .ref (ma_o q)), (1, .int (nI a)), (2, .int (nI f))]) hx hb d_M_flood_31 hl (k := 3) rfl (nI_1 _) (by decide) rfl (fun ls hl => ?_)
          refine lv_goto (tgt := 2) hx hb d_M_flood_34 (by decide) ?_
          exact ih2 (i + 1) (va_up w2 i false) (by omega) (up_lt hw2 (by simp [c_14])) (by omega) _ _ ls hP hD hS (lv_sub hl [1, 2, 3, 0] rfl)
        · refine lv_iconst (v := nI 1) hx hb d_M_flood_25 (by decide) ?_
          refine lv_goto (tgt := 30) hx hb d_M_flood_26 (by decide) ?_
          refine tp_i (bI true) (by decide) ?_
          refine st_z hx hb hK hP hD hS 14 2 rfl rfl (fun j9 => bI (va_up w2 i true j9)) (by omega) (by decide) (upd_bI _ _ _) d_M_flood_30 (fun H locs hP hD hS => ?_)
          have hP : va_P (dC, dI) vwCl (wMx q (m_liq u) (m_lev u) (m_nS u) (m_fa u) (m_fb u) (m_seat u) (m_op u) (m_un u) (m_nV u) (m_may u) (m_nR u) (m_rf u) (m_rl u) (m_rw u) (m_rc u) (m_cul u) (m_gu u) (m_te u) (m_th u) (va_up w2 i true)) H := hP
          have hD : va_D (va_A (wM q u) s.heap.size) (wMx q (m_liq u) (m_lev u) (m_nS u) (m_fa u) (m_fb u) (m_seat u) (m_op u) (m_un u) (m_nV u) (m_may u) (m_nR u) (m_rf u) (m_rl u) (m_rw u) (m_rc u) (m_cul u) (m_gu u) (m_te u) (m_th u) (va_up w2 i true)) := hD
          refine lv_iinc (v := nI (i + 1)) (lv' := [(3, .int (nI (i + 1))), (0, .ref (ma_o q)), (1, .int (nI a)), (2, .int (nI f))]) hx hb d_M_flood_31 hl (k := 3) rfl (nI_1 _) (by decide) rfl (fun ls hl => ?_)
          refine lv_goto (tgt := 2) hx hb d_M_flood_34 (by decide) ?_
          exact ih2 (i + 1) (va_up w2 i true) (by omega) (up_lt hw2 (by simp [c_14])) (by omega) _ _ ls hP hD hS (lv_sub hl [1, 2, 3, 0] rfl)
  exact L2 _ 0 (m_wet u) (Nat.zero_le _) (fun t ht => absurd ht (Nat.not_lt_zero t)) (Nat.lt_succ_self _) _ _ ls hP hD hS (lv_sub hl [1, 2, 3, 0] rfl)
set_option maxHeartbeats 4000000 in
set_option maxRecDepth 100000 in
theorem c_M_meet (l : Launch) (dC : Nat → ClassId) (dI : Nat → Nat → Nat) (q : MA) (u : MSt) (sz : Nat) (a f : Nat) (hu : MOk u) (ha : a ≤ m_nR u) : Met l y_M_meet w_M_meet ({ frames := 1, cells := 0, slots := 0, locals := 22 }) (qPc (dC, dI) vwCl (tM q) (wM q u) sz [Value.ref (ma_o q), Value.int (nI a), Value.int (nI f)]) (va_Qi (fun (r : Int32) (z : MSt) => ∃ b cu, r = bI b ∧ z = m_s_cul u cu ∧ ((b = false ∧ cu = m_cul u ∧ ∀ t x y, t < m_nS u → a ≤ x → x < y → y < m_nR u → ¬ mM u t x y) ∨ (b = true ∧ ∃ t x y, t < m_nS u ∧ a ≤ x ∧ x < y ∧ y < m_nR u ∧ mM u t x y ∧ (∀ t2, t2 < t → ∀ x2 y2, a ≤ x2 → x2 < y2 → y2 < m_nR u → ¬ mM u t2 x2 y2) ∧ (∀ x2, x2 < x → a ≤ x2 → ∀ y2, x2 < y2 → y2 < m_nR u → ¬ mM u t x2 y2) ∧ (∀ y2, y2 < y → x < y2 → ¬ mM u t x y2) ∧ cu = cu4 (m_cul u) f t (m_rl u x) (m_rl u y)))) (qB (dC, dI) vwCl (tM q) (wM q u) sz (wM q)) (va_A (wM q u) sz)) 0 0 (va_A (wM q u) sz) := by
  refine Met.ofW (cc := b_M_meet) (maxL := 6) (ret := (some .boolean)) (by decide) rfl ?_
  intro p e s m args below meth c s₁ B hml hv
  obtain ⟨rfl, hsz, hP, hK, hD0, hN⟩ := hv
  have hx := B.exec
  have hb := B.bytes
  have hr := B.returns
  have hts := atoms_spec (ws := w_M_meet) B.pre
  have hown : s.vm.findClass "SeatProofsModel" = some m.cls := findClass_of_methodNamed B.named
  have hlocks := B.notSynchronized
  subst hsz
  have hD := hD0.self (sz := s.heap.size)
  have hA : ∀ z : Nat, s.heap.size ≤ z → va_A (wM q u) s.heap.size z := fun z h => Or.inr h
  have hS : va_S (va_A (wM q u) s.heap.size) s.heap s.heap [] := va_S.rf
  have hl := lv_entry ([Value.ref (ma_o q), Value.int (nI a), Value.int (nI f)]) (n := 6) (Nat.le_of_ble_eq_true rfl)
  rw [lg_entry_eq]
  generalize (lg_sl ([Value.ref (ma_o q), Value.int (nI a), Value.int (nI f)]) ++ List.replicate (6 - (lg_sl ([Value.ref (ma_o q), Value.int (nI a), Value.int (nI f)])).length) Slot.unset).toArray = ls at hl ⊢
  have hl : lv_has ls 6 [(0, .ref (ma_o q)), (1, .int (nI a)), (2, .int (nI f))] := hl
  obtain ⟨k1, k2, k3, k4, k5, k6, k7, k8, k9, k10, k11⟩ := id hu
  refine lv_iconst (v := nI 0) hx hb d_M_meet_0 (by decide) ?_
  refine lv_istore_n (lv' := [(3, .int (nI 0)), (0, .ref (ma_o q)), (1, .int (nI a)), (2, .int (nI f))]) hx hb d_M_meet_1 rfl hl (by decide) rfl (fun ls hl => ?_)
  have L2 : ∀ (n2 : Nat) (s9 : Nat), (s9 ≤ m_nS u) → (∀ t, t < s9 → ∀ x y, a ≤ x → x < y → y < m_nR u → ¬ mM u t x y) → m_nS u - s9 < n2 → ∀ (H : Heap) (locs : List Loc) (ls : Array Slot), va_P (dC, dI) vwCl (wM q u) H → va_D (va_A (wM q u) s.heap.size) (wM q u) → va_S (va_A (wM q u) s.heap.size) s.heap H locs → lv_has ls 6 [(0, .ref (ma_o q)), (1, .int (nI a)), (2, .int (nI f)), (3, .int (nI s9))] → W p l e (headSpec w_M_meet ({ frames := 1, cells := 0, slots := 0, locals := 22 })).room s m [Value.ref (ma_o q), Value.int (nI a), Value.int (nI f)].toArray below meth c H locs 0 0 (MQ below (va_Qi (fun (r : Int32) (z : MSt) => ∃ b cu, r = bI b ∧ z = m_s_cul u cu ∧ ((b = false ∧ cu = m_cul u ∧ ∀ t x y, t < m_nS u → a ≤ x → x < y → y < m_nR u → ¬ mM u t x y) ∨ (b = true ∧ ∃ t x y, t < m_nS u ∧ a ≤ x ∧ x < y ∧ y < m_nR u ∧ mM u t x y ∧ (∀ t2, t2 < t → ∀ x2 y2, a ≤ x2 → x2 < y2 → y2 < m_nR u → ¬ mM u t2 x2 y2) ∧ (∀ x2, x2 < x → a ≤ x2 → ∀ y2, x2 < y2 → y2 < m_nR u → ¬ mM u t x2 y2) ∧ (∀ y2, y2 < y → x < y2 → ¬ mM u t x y2) ∧ cu = cu4 (m_cul u) f t (m_rl u x) (m_rl u y)))) (qB (dC, dI) vwCl (tM q) (wM q u) s.heap.size (wM q)) (va_A (wM q u) s.heap.size)) [Value.ref (ma_o q), Value.int (nI a), Value.int (nI f)].toArray s 0 0 (va_A (wM q u) s.heap.size)) (F0 m 2 ls []) := by
    intro n2
    induction n2 with
    | zero => intro s9 hs2 hN2 hm; exact absurd hm (Nat.not_lt_zero _)
    | succ n2 ih2 =>
      intro s9 hs2 hN2 hm2 H locs ls hP hD hS hl
      refine lv_iload_n hx hb d_M_meet_2 rfl (lv_at hl 3 rfl) ?_
      refine lv_aload_n hx hb d_M_meet_3 rfl (lv_at hl 0 rfl) ?_
      refine va_get (D := (dC, dI)) (ci := 4) (v := .int (nI (m_nS u))) (C := "SeatProofsModel") (T := F_M) (N := 20) hx hb hts (iu_M _) hown hK hP 0 rfl rfl 2 (by decide) (hts _ (List.mem_cons_of_mem _ iw_442)) (fun _ h9 => h9) rfl d_M_meet_4 ?_
      refine nv_ge (tgt := 151) hx hb d_M_meet_7 (by decide) (by omega) (by omega) (fun c_1 => ?_) (fun c_1 => ?_)
      · refine lv_iconst (v := nI 0) hx hb d_M_meet_151 (by decide) ?_
        refine tp_i (bI false) (by decide) ?_
        exact W.zret hx hb hr (bI_narrow _) (fun t9 ht9 hW9 => ⟨⟨_, u, rfl, ⟨false, m_cul u, rfl, rfl, Or.inl ⟨rfl, rfl, fun t x y h0 h1 h2 h3 => hN2 t (by omega) x y h1 h2 h3⟩⟩, by rw [ht9]; exact hP, va_K.moved hW9.alike hK, hD⟩, hS.F ht9⟩) hS.2.2 d_M_meet_152
      · refine lv_iload_n hx hb d_M_meet_10 rfl (lv_at hl 1 rfl) ?_
        refine lv_istore (lv' := [(4, .int (nI a)), (0, .ref (ma_o q)), (1, .int (nI a)), (2, .int (nI f)), (3, .int (nI s9))]) hx hb d_M_meet_11 hl (by decide) rfl (fun ls hl => ?_)
        have L13 : ∀ (n13 : Nat) (j : Nat), (a ≤ j) → (j ≤ m_nR u) → (∀ x, x < j → a ≤ x → ∀ y, x < y → y < m_nR u → ¬ mM u s9 x y) → m_nR u - j < n13 → ∀ (H : Heap) (locs : List Loc) (ls : Array Slot), va_P (dC, dI) vwCl (wM q u) H → va_D (va_A (wM q u) s.heap.size) (wM q u) → va_S (va_A (wM q u) s.heap.size) s.heap H locs → lv_has ls 6 [(0, .ref (ma_o q)), (1, .int (nI a)), (2, .int (nI f)), (3, .int (nI s9)), (4, .int (nI j))] → W p l e (headSpec w_M_meet ({ frames := 1, cells := 0, slots := 0, locals := 22 })).room s m [Value.ref (ma_o q), Value.int (nI a), Value.int (nI f)].toArray below meth c H locs 0 0 (MQ below (va_Qi (fun (r : Int32) (z : MSt) => ∃ b cu, r = bI b ∧ z = m_s_cul u cu ∧ ((b = false ∧ cu = m_cul u ∧ ∀ t x y, t < m_nS u → a ≤ x → x < y → y < m_nR u → ¬ mM u t x y) ∨ (b = true ∧ ∃ t x y, t < m_nS u ∧ a ≤ x ∧ x < y ∧ y < m_nR u ∧ mM u t x y ∧ (∀ t2, t2 < t → ∀ x2 y2, a ≤ x2 → x2 < y2 → y2 < m_nR u → ¬ mM u t2 x2 y2) ∧ (∀ x2, x2 < x → a ≤ x2 → ∀ y2, x2 < y2 → y2 < m_nR u → ¬ mM u t x2 y2) ∧ (∀ y2, y2 < y → x < y2 → ¬ mM u t x y2) ∧ cu = cu4 (m_cul u) f t (m_rl u x) (m_rl u y)))) (qB (dC, dI) vwCl (tM q) (wM q u) s.heap.size (wM q)) (va_A (wM q u) s.heap.size)) [Value.ref (ma_o q), Value.int (nI a), Value.int (nI f)].toArray s 0 0 (va_A (wM q u) s.heap.size)) (F0 m 13 ls []) := by
          intro n13
          induction n13 with
          | zero => intro j hj13 hj13b hN13 hm; exact absurd hm (Nat.not_lt_zero _)
          | succ n13 ih13 =>
            intro j hj13 hj13b hN13 hm13 H locs ls hP hD hS hl
            refine lv_iload hx hb d_M_meet_13 (lv_at hl 4 rfl) ?_
            refine lv_aload_n hx hb d_M_meet_15 rfl (lv_at hl 0 rfl) ?_
            refine va_get (D := (dC, dI)) (ci := 4) (v := .int (nI (m_nR u))) (C := "SeatProofsModel") (T := F_M) (N := 20) hx hb hts (iu_M _) hown hK hP 0 rfl rfl 10 (by decide) (hts _ (List.mem_cons_of_mem _ iw_450)) (fun _ h9 => h9) rfl d_M_meet_16 ?_
            refine nv_ge (tgt := 145) hx hb d_M_meet_19 (by decide) (by omega) (by omega) (fun c_2 => ?_) (fun c_2 => ?_)
            · refine lv_iinc (v := nI (s9 + 1)) (lv' := [(3, .int (nI (s9 + 1))), (0, .ref (ma_o q)), (1, .int (nI a)), (2, .int (nI f)), (4, .int (nI j))]) hx hb d_M_meet_145 hl (k := 3) rfl (nI_1 _) (by decide) rfl (fun ls hl => ?_)
              refine lv_goto (tgt := 2) hx hb d_M_meet_148 (by decide) ?_
              exact ih2 (s9 + 1) (by omega) (mM_2 hN2 hN13 (by omega)) (by omega) _ _ ls hP hD hS (lv_sub hl [1, 2, 3, 0] rfl)
            · refine lv_iload hx hb d_M_meet_22 (lv_at hl 4 rfl) ?_
              refine lv_iconst (v := nI 1) hx hb d_M_meet_24 (by decide) ?_
              refine lv_iadd hx hb d_M_meet_25 ?_
              refine tp_i (nI (j + 1)) (nI_add _ _) ?_
              refine lv_istore (lv' := [(5, .int (nI (j + 1))), (0, .ref (ma_o q)), (1, .int (nI a)), (2, .int (nI f)), (3, .int (nI s9)), (4, .int (nI j))]) hx hb d_M_meet_26 hl (by decide) rfl (fun ls hl => ?_)
              have L28 : ∀ (n28 : Nat) (k : Nat), (j < k) → (k ≤ m_nR u) → (∀ y, y < k → j < y → ¬ mM u s9 j y) → m_nR u - k < n28 → ∀ (H : Heap) (locs : List Loc) (ls : Array Slot), va_P (dC, dI) vwCl (wM q u) H → va_D (va_A (wM q u) s.heap.size) (wM q u) → va_S (va_A (wM q u) s.heap.size) s.heap H locs → lv_has ls 6 [(0, .ref (ma_o q)), (1, .int (nI a)), (2, .int (nI f)), (3, .int (nI s9)), (4, .int (nI j)), (5, .int (nI k))] → W p l e (headSpec w_M_meet ({ frames := 1, cells := 0, slots := 0, locals := 22 })).room s m [Value.ref (ma_o q), Value.int (nI a), Value.int (nI f)].toArray below meth c H locs 0 0 (MQ below (va_Qi (fun (r : Int32) (z : MSt) => ∃ b cu, r = bI b ∧ z = m_s_cul u cu ∧ ((b = false ∧ cu = m_cul u ∧ ∀ t x y, t < m_nS u → a ≤ x → x < y → y < m_nR u → ¬ mM u t x y) ∨ (b = true ∧ ∃ t x y, t < m_nS u ∧ a ≤ x ∧ x < y ∧ y < m_nR u ∧ mM u t x y ∧ (∀ t2, t2 < t → ∀ x2 y2, a ≤ x2 → x2 < y2 → y2 < m_nR u → ¬ mM u t2 x2 y2) ∧ (∀ x2, x2 < x → a ≤ x2 → ∀ y2, x2 < y2 → y2 < m_nR u → ¬ mM u t x2 y2) ∧ (∀ y2, y2 < y → x < y2 → ¬ mM u t x y2) ∧ cu = cu4 (m_cul u) f t (m_rl u x) (m_rl u y)))) (qB (dC, dI) vwCl (tM q) (wM q u) s.heap.size (wM q)) (va_A (wM q u) s.heap.size)) [Value.ref (ma_o q), Value.int (nI a), Value.int (nI f)].toArray s 0 0 (va_A (wM q u) s.heap.size)) (F0 m 28 ls []) := by
                intro n28
                induction n28 with
                | zero => intro k hk28 hk28b hN28 hm; exact absurd hm (Nat.not_lt_zero _)
                | succ n28 ih28 =>
                  intro k hk28 hk28b hN28 hm28 H locs ls hP hD hS hl
                  refine lv_iload hx hb d_M_meet_28 (lv_at hl 5 rfl) ?_
                  refine lv_aload_n hx hb d_M_meet_30 rfl (lv_at hl 0 rfl) ?_
                  refine va_get (D := (dC, dI)) (ci := 4) (v := .int (nI (m_nR u))) (C := "SeatProofsModel") (T := F_M) (N := 20) hx hb hts (iu_M _) hown hK hP 0 rfl rfl 10 (by decide) (hts _ (List.mem_cons_of_mem _ iw_450)) (fun _ h9 => h9) rfl d_M_meet_31 ?_
                  refine nv_ge (tgt := 139) hx hb d_M_meet_34 (by decide) (by omega) (by omega) (fun c_3 => ?_) (fun c_3 => ?_)
                  · refine lv_iinc (v := nI (j + 1)) (lv' := [(4, .int (nI (j + 1))), (0, .ref (ma_o q)), (1, .int (nI a)), (2, .int (nI f)), (3, .int (nI s9)), (5, .int (nI k))]) hx hb d_M_meet_139 hl (k := 4) rfl (nI_1 _) (by decide) rfl (fun ls hl => ?_)
                    refine lv_goto (tgt := 13) hx hb d_M_meet_142 (by decide) ?_
                    exact ih13 (j + 1) (by omega) (by omega) (mM_13 hN13 hN28 (by omega)) (by omega) _ _ ls hP hD hS (lv_sub hl [1, 2, 3, 4, 0] rfl)
                  · refine lv_aload_n hx hb d_M_meet_37 rfl (lv_at hl 0 rfl) ?_
                    refine va_get (D := (dC, dI)) (ci := 4) (v := .ref (ma_rw q)) (C := "SeatProofsModel") (T := F_M) (N := 20) hx hb hts (iu_M _) hown hK hP 0 rfl rfl 13 (by decide) (hts _ (List.mem_cons_of_mem _ iw_453)) (fun _ h9 => h9) rfl d_M_meet_38 ?_
                    refine lv_iload hx hb d_M_meet_41 (lv_at hl 4 rfl) ?_
                    refine ld_l hx hb hK hP 11 1 rfl rfl (m_rw u j) (by omega) (by decide) rfl d_M_meet_43 ?_
                    refine lv_iload_n hx hb d_M_meet_44 rfl (lv_at hl 3 rfl) ?_
                    refine vp_callSi (va_Run.run (va_runS (As := [.long (m_rw u j), .int (nI s9)]) (rest := []) ⟨hx, hb, hml, hown, hts⟩ (c_M_has l (m_rw u j) s9 (by omega)) (va_cwS 2 hts (good_up (good_S iw_542 iw_543 iw_5 gg_M_has)) rfl rfl rfl (by decide +kernel) ⟨Nat.le_of_ble_eq_true rfl, Nat.le_of_ble_eq_true rfl⟩) (ps_0 [.long (m_rw u j), .int (nI s9)] hN) rfl rfl hl.1 rfl (lv_room (Nat.le_of_ble_eq_true rfl)) d_M_meet_45 ⟨Nat.le_of_ble_eq_true rfl, Nat.le_of_ble_eq_true rfl⟩)) (fun r_4 hr_4 => ?_)
                    subst hr_4
                    refine b0_eq (tgt := 133) hx hb d_M_meet_48 (by decide) (fun c_5 => ?_) (fun c_5 => ?_)
                    · refine lv_iinc (v := nI (k + 1)) (lv' := [(5, .int (nI (k + 1))), (0, .ref (ma_o q)), (1, .int (nI a)), (2, .int (nI f)), (3, .int (nI s9)), (4, .int (nI j))]) hx hb d_M_meet_133 hl (k := 5) rfl (nI_1 _) (by decide) rfl (fun ls hl => ?_)
                      refine lv_goto (tgt := 28) hx hb d_M_meet_136 (by decide) ?_
                      exact ih28 (k + 1) (by omega) (by omega) (mM_28 hN28 (fun h => absurd (h.1.symm.trans c_5) (by decide))) (by omega) _ _ ls hP hD hS (lv_sub hl [1, 2, 3, 4, 5, 0] rfl)
                    · refine lv_aload_n hx hb d_M_meet_51 rfl (lv_at hl 0 rfl) ?_
                      refine va_get (D := (dC, dI)) (ci := 4) (v := .ref (ma_rw q)) (C := "SeatProofsModel") (T := F_M) (N := 20) hx hb hts (iu_M _) hown hK hP 0 rfl rfl 13 (by decide) (hts _ (List.mem_cons_of_mem _ iw_453)) (fun _ h9 => h9) rfl d_M_meet_52 ?_
                      refine lv_iload hx hb d_M_meet_55 (lv_at hl 5 rfl) ?_
                      refine ld_l hx hb hK hP 11 1 rfl rfl (m_rw u k) (by omega) (by decide) rfl d_M_meet_57 ?_
                      refine lv_iload_n hx hb d_M_meet_58 rfl (lv_at hl 3 rfl) ?_
                      refine vp_callSi (va_Run.run (va_runS (As := [.long (m_rw u k), .int (nI s9)]) (rest := []) ⟨hx, hb, hml, hown, hts⟩ (c_M_has l (m_rw u k) s9 (by omega)) (va_cwS 2 hts (good_up (good_S iw_542 iw_543 iw_5 gg_M_has)) rfl rfl rfl (by decide +kernel) ⟨Nat.le_of_ble_eq_true rfl, Nat.le_of_ble_eq_true rfl⟩) (ps_0 [.long (m_rw u k), .int (nI s9)] hN) rfl rfl hl.1 rfl (lv_room (Nat.le_of_ble_eq_true rfl)) d_M_meet_59 ⟨Nat.le_of_ble_eq_true rfl, Nat.le_of_ble_eq_true rfl⟩)) (fun r_6 hr_6 => ?_)
                      subst hr_6
                      refine b0_eq (tgt := 133) hx hb d_M_meet_62 (by decide) (fun c_7 => ?_) (fun c_7 => ?_)
                      · refine lv_iinc (v := nI (k + 1)) (lv' := [(5, .int (nI (k + 1))), (0, .ref (ma_o q)), (1, .int (nI a)), (2, .int (nI f)), (3, .int (nI s9)), (4, .int (nI j))]) hx hb d_M_meet_133 hl (k := 5) rfl (nI_1 _) (by decide) rfl (fun ls hl => ?_)
                        refine lv_goto (tgt := 28) hx hb d_M_meet_136 (by decide) ?_
                        exact ih28 (k + 1) (by omega) (by omega) (mM_28 hN28 (fun h => absurd (h.2.1.symm.trans c_7) (by decide))) (by omega) _ _ ls hP hD hS (lv_sub hl [1, 2, 3, 4, 5, 0] rfl)
                      · refine lv_aload_n hx hb d_M_meet_65 rfl (lv_at hl 0 rfl) ?_
                        refine va_get (D := (dC, dI)) (ci := 4) (v := .ref (ma_may q)) (C := "SeatProofsModel") (T := F_M) (N := 20) hx hb hts (iu_M _) hown hK hP 0 rfl rfl 9 (by decide) (hts _ (List.mem_cons_of_mem _ iw_449)) (fun _ h9 => h9) rfl d_M_meet_66 ?_
                        refine lv_bipush (v := nI 16) hx hb d_M_meet_69 (by decide) ?_
                        refine lv_aload_n hx hb d_M_meet_71 rfl (lv_at hl 0 rfl) ?_
                        refine va_get (D := (dC, dI)) (ci := 4) (v := .ref (ma_rl q)) (C := "SeatProofsModel") (T := F_M) (N := 20) hx hb hts (iu_M _) hown hK hP 0 rfl rfl 12 (by decide) (hts _ (List.mem_cons_of_mem _ iw_452)) (fun _ h9 => h9) rfl d_M_meet_72 ?_
                        refine lv_iload hx hb d_M_meet_75 (lv_at hl 4 rfl) ?_
                        refine ld_i hx hb hK hP 10 0 rfl rfl (nI (m_rl u j)) (by omega) (by decide) rfl d_M_meet_77 ?_
                        refine lv_imul hx hb d_M_meet_78 ?_
                        refine tp_i (nI (16 * (m_rl u j))) (pk_mul _ _) ?_
                        refine lv_aload_n hx hb d_M_meet_79 rfl (lv_at hl 0 rfl) ?_
                        refine va_get (D := (dC, dI)) (ci := 4) (v := .ref (ma_rl q)) (C := "SeatProofsModel") (T := F_M) (N := 20) hx hb hts (iu_M _) hown hK hP 0 rfl rfl 12 (by decide) (hts _ (List.mem_cons_of_mem _ iw_452)) (fun _ h9 => h9) rfl d_M_meet_80 ?_
                        refine lv_iload hx hb d_M_meet_83 (lv_at hl 5 rfl) ?_
                        refine ld_i hx hb hK hP 10 0 rfl rfl (nI (m_rl u k)) (by omega) (by decide) rfl d_M_meet_85 ?_
                        refine lv_iadd hx hb d_M_meet_86 ?_
                        refine tp_i (nI ((16 * (m_rl u j)) + m_rl u k)) (nI_add _ _) ?_
                        refine ld_z hx hb hK hP 8 2 rfl rfl (bI (m_may u ((16 * (m_rl u j)) + m_rl u k))) (by have := k8 j; have := k8 k; omega) (by decide) rfl d_M_meet_87 ?_
                        refine b0_ne (tgt := 133) hx hb d_M_meet_88 (by decide) (fun c_8 => ?_) (fun c_8 => ?_)
                        · refine lv_iinc (v := nI (k + 1)) (lv' := [(5, .int (nI (k + 1))), (0, .ref (ma_o q)), (1, .int (nI a)), (2, .int (nI f)), (3, .int (nI s9)), (4, .int (nI j))]) hx hb d_M_meet_133 hl (k := 5) rfl (nI_1 _) (by decide) rfl (fun ls hl => ?_)
                          refine lv_goto (tgt := 28) hx hb d_M_meet_136 (by decide) ?_
                          exact ih28 (k + 1) (by omega) (by omega) (mM_28 hN28 (fun h => absurd (h.2.2.symm.trans c_8) (by decide))) (by omega) _ _ ls hP hD hS (lv_sub hl [1, 2, 3, 4, 5, 0] rfl)
                        · refine lv_aload_n hx hb d_M_meet_91 rfl (lv_at hl 0 rfl) ?_
                          refine va_get (D := (dC, dI)) (ci := 4) (v := .ref (ma_cul q)) (C := "SeatProofsModel") (T := F_M) (N := 20) hx hb hts (iu_M _) hown hK hP 0 rfl rfl 15 (by decide) (hts _ (List.mem_cons_of_mem _ iw_455)) (fun _ h9 => h9) rfl d_M_meet_92 ?_
                          refine lv_iconst (v := nI 0) hx hb d_M_meet_95 (by decide) ?_
                          refine lv_iload_n hx hb d_M_meet_96 rfl (lv_at hl 2 rfl) ?_
                          refine st_i hx hb hK hP hD hS 13 0 rfl rfl (fun j9 => nI (va_up (m_cul u) 0 f j9)) (by omega) (by decide) (upd_nI _ _ _) d_M_meet_97 (fun H locs hP hD hS => ?_)
                          have hP : va_P (dC, dI) vwCl (wMx q (m_liq u) (m_lev u) (m_nS u) (m_fa u) (m_fb u) (m_seat u) (m_op u) (m_un u) (m_nV u) (m_may u) (m_nR u) (m_rf u) (m_rl u) (m_rw u) (m_rc u) (va_up (m_cul u) 0 f) (m_gu u) (m_te u) (m_th u) (m_wet u)) H := hP
                          have hD : va_D (va_A (wM q u) s.heap.size) (wMx q (m_liq u) (m_lev u) (m_nS u) (m_fa u) (m_fb u) (m_seat u) (m_op u) (m_un u) (m_nV u) (m_may u) (m_nR u) (m_rf u) (m_rl u) (m_rw u) (m_rc u) (va_up (m_cul u) 0 f) (m_gu u) (m_te u) (m_th u) (m_wet u)) := hD
                          refine lv_aload_n hx hb d_M_meet_98 rfl (lv_at hl 0 rfl) ?_
                          refine va_get (D := (dC, dI)) (ci := 4) (v := .ref (ma_cul q)) (C := "SeatProofsModel") (T := F_M) (N := 20) hx hb hts (iu_M _) hown hK hP 0 rfl rfl 15 (by decide) (hts _ (List.mem_cons_of_mem _ iw_455)) (fun _ h9 => h9) rfl d_M_meet_99 ?_
                          refine lv_iconst (v := nI 1) hx hb d_M_meet_102 (by decide) ?_
                          refine lv_iload_n hx hb d_M_meet_103 rfl (lv_at hl 3 rfl) ?_
                          refine st_i hx hb hK hP hD hS 13 0 rfl rfl (fun j9 => nI (va_up (va_up (m_cul u) 0 f) 1 s9 j9)) (by omega) (by decide) (upd_nI _ _ _) d_M_meet_104 (fun H locs hP hD hS => ?_)
                          have hP : va_P (dC, dI) vwCl (wMx q (m_liq u) (m_lev u) (m_nS u) (m_fa u) (m_fb u) (m_seat u) (m_op u) (m_un u) (m_nV u) (m_may u) (m_nR u) (m_rf u) (m_rl u) (m_rw u) (m_rc u) (va_up (va_up (m_cul u) 0 f) 1 s9) (m_gu u) (m_te u) (m_th u) (m_wet u)) H := hP
                          have hD : va_D (va_A (wM q u) s.heap.size) (wMx q (m_liq u) (m_lev u) (m_nS u) (m_fa u) (m_fb u) (m_seat u) (m_op u) (m_un u) (m_nV u) (m_may u) (m_nR u) (m_rf u) (m_rl u) (m_rw u) (m_rc u) (va_up (va_up (m_cul u) 0 f) 1 s9) (m_gu u) (m_te u) (m_th u) (m_wet u)) := hD
                          refine lv_aload_n hx hb d_M_meet_105 rfl (lv_at hl 0 rfl) ?_
                          refine va_get (D := (dC, dI)) (ci := 4) (v := .ref (ma_cul q)) (C := "SeatProofsModel") (T := F_M) (N := 20) hx hb hts (iu_M _) hown hK hP 0 rfl rfl 15 (by decide) (hts _ (List.mem_cons_of_mem _ iw_455)) (fun _ h9 => h9) rfl d_M_meet_106 ?_
                          refine lv_iconst (v := nI 2) hx hb d_M_meet_109 (by decide) ?_
                          refine lv_aload_n hx hb d_M_meet_110 rfl (lv_at hl 0 rfl) ?_
                          refine va_get (D := (dC, dI)) (ci := 4) (v := .ref (ma_rl q)) (C := "SeatProofsModel") (T := F_M) (N := 20) hx hb hts (iu_M _) hown hK hP 0 rfl rfl 12 (by decide) (hts _ (List.mem_cons_of_mem _ iw_452)) (fun _ h9 => h9) rfl d_M_meet_111 ?_
                          refine lv_iload hx hb d_M_meet_114 (lv_at hl 4 rfl) ?_
                          refine ld_i hx hb hK hP 10 0 rfl rfl (nI (m_rl u j)) (by omega) (by decide) rfl d_M_meet_116 ?_
                          refine st_i hx hb hK hP hD hS 13 0 rfl rfl (fun j9 => nI (va_up (va_up (va_up (m_cul u) 0 f) 1 s9) 2 (m_rl u j) j9)) (by omega) (by decide) (upd_nI _ _ _) d_M_meet_117 (fun H locs hP hD hS => ?_)
                          have hP : va_P (dC, dI) vwCl (wMx q (m_liq u) (m_lev u) (m_nS u) (m_fa u) (m_fb u) (m_seat u) (m_op u) (m_un u) (m_nV u) (m_may u) (m_nR u) (m_rf u) (m_rl u) (m_rw u) (m_rc u) (va_up (va_up (va_up (m_cul u) 0 f) 1 s9) 2 (m_rl u j)) (m_gu u) (m_te u) (m_th u) (m_wet u)) H := hP
                          have hD : va_D (va_A (wM q u) s.heap.size) (wMx q (m_liq u) (m_lev u) (m_nS u) (m_fa u) (m_fb u) (m_seat u) (m_op u) (m_un u) (m_nV u) (m_may u) (m_nR u) (m_rf u) (m_rl u) (m_rw u) (m_rc u) (va_up (va_up (va_up (m_cul u) 0 f) 1 s9) 2 (m_rl u j)) (m_gu u) (m_te u) (m_th u) (m_wet u)) := hD
                          refine lv_aload_n hx hb d_M_meet_118 rfl (lv_at hl 0 rfl) ?_
                          refine va_get (D := (dC, dI)) (ci := 4) (v := .ref (ma_cul q)) (C := "SeatProofsModel") (T := F_M) (N := 20) hx hb hts (iu_M _) hown hK hP 0 rfl rfl 15 (by decide) (hts _ (List.mem_cons_of_mem _ iw_455)) (fun _ h9 => h9) rfl d_M_meet_119 ?_
                          refine lv_iconst (v := nI 3) hx hb d_M_meet_122 (by decide) ?_
                          refine lv_aload_n hx hb d_M_meet_123 rfl (lv_at hl 0 rfl) ?_
                          refine va_get (D := (dC, dI)) (ci := 4) (v := .ref (ma_rl q)) (C := "SeatProofsModel") (T := F_M) (N := 20) hx hb hts (iu_M _) hown hK hP 0 rfl rfl 12 (by decide) (hts _ (List.mem_cons_of_mem _ iw_452)) (fun _ h9 => h9) rfl d_M_meet_124 ?_
                          refine lv_iload hx hb d_M_meet_127 (lv_at hl 5 rfl) ?_
                          refine ld_i hx hb hK hP 10 0 rfl rfl (nI (m_rl u k)) (by omega) (by decide) rfl d_M_meet_129 ?_
                          refine st_i hx hb hK hP hD hS 13 0 rfl rfl (fun j9 => nI (va_up (va_up (va_up (va_up (m_cul u) 0 f) 1 s9) 2 (m_rl u j)) 3 (m_rl u k) j9)) (by omega) (by decide) (upd_nI _ _ _) d_M_meet_130 (fun H locs hP hD hS => ?_)
                          have hP : va_P (dC, dI) vwCl (wMx q (m_liq u) (m_lev u) (m_nS u) (m_fa u) (m_fb u) (m_seat u) (m_op u) (m_un u) (m_nV u) (m_may u) (m_nR u) (m_rf u) (m_rl u) (m_rw u) (m_rc u) (va_up (va_up (va_up (va_up (m_cul u) 0 f) 1 s9) 2 (m_rl u j)) 3 (m_rl u k)) (m_gu u) (m_te u) (m_th u) (m_wet u)) H := hP
                          have hD : va_D (va_A (wM q u) s.heap.size) (wMx q (m_liq u) (m_lev u) (m_nS u) (m_fa u) (m_fb u) (m_seat u) (m_op u) (m_un u) (m_nV u) (m_may u) (m_nR u) (m_rf u) (m_rl u) (m_rw u) (m_rc u) (va_up (va_up (va_up (va_up (m_cul u) 0 f) 1 s9) 2 (m_rl u j)) 3 (m_rl u k)) (m_gu u) (m_te u) (m_th u) (m_wet u)) := hD
                          refine lv_iconst (v := nI 1) hx hb d_M_meet_131 (by decide) ?_
                          refine tp_i (bI true) (by decide) ?_
                          exact W.zret hx hb hr (bI_narrow _) (fun t9 ht9 hW9 => ⟨⟨_, (m_mk (m_liq u) (m_lev u) (m_nS u) (m_fa u) (m_fb u) (m_seat u) (m_op u) (m_un u) (m_nV u) (m_may u) (m_nR u) (m_rf u) (m_rl u) (m_rw u) (m_rc u) (va_up (va_up (va_up (va_up (m_cul u) 0 f) 1 s9) 2 (m_rl u j)) 3 (m_rl u k)) (m_gu u) (m_te u) (m_th u) (m_wet u)), rfl, ⟨true, va_up (va_up (va_up (va_up (m_cul u) 0 f) 1 s9) 2 (m_rl u j)) 3 (m_rl u k), rfl, rfl, Or.inr ⟨rfl, s9, j, k, by omega, by omega, by omega, by omega, ⟨c_5, c_7, c_8⟩, hN2, hN13, hN28, rfl⟩⟩, by rw [ht9]; exact hP, va_K.moved hW9.alike hK, hD⟩, hS.F ht9⟩) hS.2.2 d_M_meet_132
              exact L28 _ (j + 1) (by omega) (by omega) (fun t h1 h2 => absurd h1 (by omega)) (Nat.lt_succ_self _) _ _ ls hP hD hS (lv_sub hl [1, 2, 3, 4, 5, 0] rfl)
        exact L13 _ a (Nat.le_refl _) ha (fun t h1 h2 => absurd h1 (by omega)) (Nat.lt_succ_self _) _ _ ls hP hD hS (lv_sub hl [1, 2, 3, 4, 0] rfl)
  exact L2 _ 0 (Nat.zero_le _) (fun t ht => absurd ht (Nat.not_lt_zero t)) (Nat.lt_succ_self _) _ _ ls hP hD hS (lv_sub hl [1, 2, 3, 0] rfl)
