set_option maxHeartbeats 8000000 in
set_option maxRecDepth 100000 in
theorem law_loop {p : Program} {e : Env} {s : State} {m : MethodId} {below : List Frame} {meth : Method} {c : Code} (l : Launch) (hfl : l.flags = pinnedFlags ++ [noTraceFlag]) {b L : Nat} {xs : Nat → Int32} (hL : L ≤ 2560) (C0 : lw_At p s m meth c b L xs) (hTW : TW s) {dC : Nat → ClassId} {dI : Nat → Nat → Nat} {q : CA} {q2 : MA} {oa : Nat} (hKC : va_K (dC, dI) vwCl (tC q) s) (hKM : va_K (dC, dI) vwCl (tM q2) s) :
    ∀ (n t : Nat) (u : CSt) (v : MSt) (f : Nat → Int64) (cells slots : Nat), 5 * t ≤ L → L + 1 ≤ 5 * t + n → CR u v → cells ≤ 34 + t → slots ≤ 9056 + 6 * t → ∀ (H : Heap) (locs : List Loc) (ls : Array Slot), va_P (dC, dI) vwCl (wC q u ++ ([(oa, .inl (ca_cJ q, 1, .inr (.inl f)))] ++ wM q2 v)) H → va_D (fun z9 : Nat => s.heap.size ≤ z9) (wC q u ++ ([(oa, .inl (ca_cJ q, 1, .inr (.inl f)))] ++ wM q2 v)) → va_S (fun z9 : Nat => s.heap.size ≤ z9) s.heap H locs → lv_has ls 7 [(0, .ref b), (1, .ref (ca_o q)), (2, .ref (ma_o q2)), (3, .ref oa), (4, .int (nI (5 * t)))] → W p l e room_1 s m #[Value.ref b] below meth c H locs cells slots (lw_Z below #[Value.ref b] s) (F0 m 23 ls []) := by
  obtain ⟨hx, hb, hr, hml, hown, hts, hX, hbl, hlocks, hgv⟩ := id C0
  have hN : NW s := NW_of hts
  have hA : ∀ q : Nat, s.heap.size ≤ q → (fun z9 : Nat => s.heap.size ≤ z9) q := fun _ h => h
  have hbA : ¬ (fun z9 : Nat => s.heap.size ≤ z9) b := Nat.not_le.mpr hbl
  intro n
  induction n with
  | zero => intro t u v f cells slots h1 h2; exact absurd h2 (by omega)
  | succ n ih =>
    intro t u v f cells slots ht hn hCR hC hSl H locs ls hP hD hS hl
    have back : ∀ (u : CSt) (v : MSt) (f : Nat → Int64) (cells slots : Nat) (H : Heap) (locs : List Loc) (ls : Array Slot), CR u v → cells ≤ 34 + (t + 1) → slots ≤ 9056 + 6 * (t + 1) → 5 * t + 5 ≤ L → va_P (dC, dI) vwCl (wC q u ++ ([(oa, .inl (ca_cJ q, 1, .inr (.inl f)))] ++ wM q2 v)) H → va_D (fun z9 : Nat => s.heap.size ≤ z9) (wC q u ++ ([(oa, .inl (ca_cJ q, 1, .inr (.inl f)))] ++ wM q2 v)) → va_S (fun z9 : Nat => s.heap.size ≤ z9) s.heap H locs → lv_has ls 7 [(0, .ref b), (1, .ref (ca_o q)), (2, .ref (ma_o q2)), (3, .ref oa), (4, .int (nI (5 * t)))] → W p l e room_1 s m #[Value.ref b] below meth c H locs cells slots (lw_Z below #[Value.ref b] s) (F0 m 578 ls []) := by
      intro u v f cells slots H locs ls hCR hC hSl h5 hP hD hS hl
      refine lv_iinc (v := nI (5 * (t + 1))) (lv' := [(4, .int (nI (5 * (t + 1)))), (0, .ref b), (1, .ref (ca_o q)), (2, .ref (ma_o q2)), (3, .ref oa)]) hx hb d_law_578 hl (k := 4) rfl (nI_add (5 * t) 5) (by decide) rfl (fun ls hl => ?_)
      refine lv_goto (tgt := 23) hx hb d_law_581 (by decide) ?_
      exact ih (t + 1) u v f cells slots (by omega) (by omega) hCR hC hSl H locs ls hP hD hS (lv_sub hl [1, 2, 3, 4, 0] rfl)
    have qS : k_nS u ≤ 64 := by rw [hCR.1.2.1]; exact hCR.1.1.1
    have qV : k_nV u ≤ 64 := by rw [hCR.1.2.2.1]; exact hCR.1.1.2.1
    have qR : k_cnt u ≤ 975 := by rw [hCR.2.1.1]; exact hCR.1.1.2.2.1
    have qb1 := hCR.2.1.2.2.1
    have qb2 := hCR.2.1.2.2.2.1
    have qe1 := hCR.1.2.2.2.2.2.2.2.2.2.2.2.2.1
    have qe2 := hCR.1.2.2.2.2.2.2.2.2.2.2.2.2.2.1
    have hu : MOk v := hCR.1.1
    have hcm : cells + 1 ≤ 1060 := by omega
    have hsm : slots + 6 ≤ 17260 := by omega
    have hH0 : ∀ q, q < s.heap.size → H[q]? = s.heap[q]? := fun q h => hS.2.1 q h (Nat.not_le.mpr h)
    refine lv_iload hx hb d_law_23 (lv_at hl 4 rfl) ?_
    refine lv_aload_n hx hb d_law_25 rfl (lv_at hl 0 rfl) ?_
    refine va_slen hx hb hX hbl hbA hS d_law_26 ?_
    refine tp_i (nI L) rfl ?_
    refine lv_iconst (v := nI 5) hx hb d_law_27 (by decide) ?_
    refine lv_isub hx hb d_law_28 ?_
    refine lv_icmp_gt (tgt := 584) hx hb d_law_29 (by decide) (fun c_1 => ?_) (fun c_1 => ?_)
    · refine va_forget hS.2.2 ?_
      refine W.widen (k := 1060) (n := 17260) (by omega) (by omega) ?_
      refine lv_iconst (v := 1) hx hb d_law_584 (by decide) ?_
      exact lw_ret hx hb hr hlocks d_law_585
    · have h9 : ¬ L < 5 * t + 5 := fun z => c_1 ((li_gt (by omega) (by omega)).mpr z)
      have h5 : 5 * t + 5 ≤ L := by omega
      refine lv_aload_n hx hb d_law_32 rfl (lv_at hl 0 rfl) ?_
      refine lv_iload hx hb d_law_33 (lv_at hl 4 rfl) ?_
      refine va_sld hx hb hX hbl hbA hS (vp_in_nI (show 5 * t < L by omega) (by omega)) d_law_35 ?_
      refine tp_i (xs (5 * t)) (by rw [nI_clamp (by omega)]) ?_
      refine lv_bipush (v := nI 15) hx hb d_law_36 (by decide) ?_
      refine lv_iand hx hb d_law_38 ?_
      obtain ⟨ks, hks, eks⟩ := and15 (xs (5 * t))
      refine tp_i (nI ks) eks ?_
      rcases (show ks = 0 ∨ ks = 1 ∨ ks = 2 ∨ ks = 3 ∨ ks = 4 ∨ ks = 5 ∨ ks = 6 ∨ ks = 7 ∨ ks = 8 ∨ ks = 9 ∨ ks = 10 ∨ ks = 11 ∨ ks = 12 ∨ ks = 13 ∨ ks = 14 ∨ ks = 15 by omega) with rfl | rfl | rfl | rfl | rfl | rfl | rfl | rfl | rfl | rfl | rfl | rfl | rfl | rfl | rfl | rfl
      · refine lv_tableIn (off := 69) (tgt := 108) hx hb d_law_39 (by decide) (by decide) (by decide) (by decide) ?_
        refine lv_aload_n hx hb d_law_108 rfl (lv_at hl 1 rfl) ?_
        refine lv_aload_n hx hb d_law_109 rfl (lv_at hl 0 rfl) ?_
        refine lv_iload hx hb d_law_110 (lv_at hl 4 rfl) ?_
        refine lv_iconst (v := nI 1) hx hb d_law_112 (by decide) ?_
        refine lv_iadd hx hb d_law_113 ?_
        refine tp_i (nI (5 * t + 1)) (nI_add _ _) ?_
        refine va_sld hx hb hX hbl hbA hS (vp_in_nI (show 5 * t + 1 < L by omega) (by omega)) d_law_114 ?_
        refine tp_i (xs (5 * t + 1)) (by rw [nI_clamp (by omega)]) ?_
        refine cL_i (va_runV (As := [.int (xs (5 * t + 1))]) (rest := []) ⟨hx, hb, hml, hown, hts⟩ (c_S_space l dC dI q u _ (xs (5 * t + 1)) qS) (cwV 1 hts (good_tbl (good_V iw_143 iw_144 iw_145 iw_1 gg_S_space)) rfl rfl rfl (by decide +kernel) ⟨Nat.le_of_ble_eq_true rfl, Nat.le_of_ble_eq_true rfl⟩) (pv_Q [.int (xs (5 * t + 1))] hN hKC hP.L hD.L (ci := 3) (q0 := 0) rfl rfl) rfl rfl hl.1 rfl (lv_room (Nat.le_of_ble_eq_true rfl)) d_law_115 ⟨(show cells + 0 ≤ 1060 by omega), (show slots + 0 ≤ 17260 by omega)⟩) hP hD hS hA (fun r1 z1 H locs hC1 hP hD hS => ?_)
        refine lv_pop hx hb d_law_118 rfl ?_
        refine lv_aload_n hx hb d_law_119 rfl (lv_at hl 2 rfl) ?_
        refine lv_aload_n hx hb d_law_120 rfl (lv_at hl 0 rfl) ?_
        refine lv_iload hx hb d_law_121 (lv_at hl 4 rfl) ?_
        refine lv_iconst (v := nI 1) hx hb d_law_123 (by decide) ?_
        refine lv_iadd hx hb d_law_124 ?_
        refine tp_i (nI (5 * t + 1)) (nI_add _ _) ?_
        refine va_sld hx hb hX hbl hbA hS (vp_in_nI (show 5 * t + 1 < L by omega) (by omega)) d_law_125 ?_
        refine tp_i (xs (5 * t + 1)) (by rw [nI_clamp (by omega)]) ?_
        have hP8 : va_P (dC, dI) vwCl ((wC q z1 ++ [(oa, .inl (ca_cJ q, 1, .inr (.inl f)))]) ++ wM q2 v) H := by rw [List.append_assoc]; exact hP
        have hD8 : va_D (fun z9 : Nat => s.heap.size ≤ z9) ((wC q z1 ++ [(oa, .inl (ca_cJ q, 1, .inr (.inl f)))]) ++ wM q2 v) := by rw [List.append_assoc]; exact hD
        refine cR_i (va_runV (As := [.int (xs (5 * t + 1))]) (rest := []) ⟨hx, hb, hml, hown, hts⟩ (c_M_space l dC dI q2 v _ (xs (5 * t + 1)) hu) (cwV 1 hts (good_tbl (good_V iw_502 iw_503 iw_504 iw_5 gg_M_space)) rfl rfl rfl (by decide +kernel) ⟨Nat.le_of_ble_eq_true rfl, Nat.le_of_ble_eq_true rfl⟩) (pv_Q [.int (xs (5 * t + 1))] hN hKM hP8.R hD8.R (ci := 4) (q0 := 0) rfl rfl) rfl rfl hl.1 rfl (lv_room (Nat.le_of_ble_eq_true rfl)) d_law_126 ⟨(show cells + 0 + 0 ≤ 1060 by omega), (show slots + 0 + 0 ≤ 17260 by omega)⟩) hP8 hD8 hS hA (fun r2 z2 H locs hM2 hP hD hS => ?_)
        rw [List.append_assoc] at hP hD
        have e9 := st_space hCR (xs (5 * t + 1))
        rw [← hC1, ← hM2] at e9
        refine lv_pop hx hb d_law_129 rfl ?_
        refine lv_goto (tgt := 578) hx hb d_law_130 (by decide) ?_
        exact back z1 z2 f _ _ _ _ _ e9.2 (by omega) (by omega) (by omega) hP hD hS (lv_sub hl [0, 1, 2, 3, 4] rfl)
      · refine lv_tableIn (off := 94) (tgt := 133) hx hb d_law_39 (by decide) (by decide) (by decide) (by decide) ?_
        refine lv_aload_n hx hb d_law_133 rfl (lv_at hl 1 rfl) ?_
        refine lv_aload_n hx hb d_law_134 rfl (lv_at hl 0 rfl) ?_
        refine lv_iload hx hb d_law_135 (lv_at hl 4 rfl) ?_
        refine lv_iconst (v := nI 1) hx hb d_law_137 (by decide) ?_
        refine lv_iadd hx hb d_law_138 ?_
        refine tp_i (nI (5 * t + 1)) (nI_add _ _) ?_
        refine va_sld hx hb hX hbl hbA hS (vp_in_nI (show 5 * t + 1 < L by omega) (by omega)) d_law_139 ?_
        refine tp_i (xs (5 * t + 1)) (by rw [nI_clamp (by omega)]) ?_
        refine lv_aload_n hx hb d_law_140 rfl (lv_at hl 0 rfl) ?_
        refine lv_iload hx hb d_law_141 (lv_at hl 4 rfl) ?_
        refine lv_iconst (v := nI 2) hx hb d_law_143 (by decide) ?_
        refine lv_iadd hx hb d_law_144 ?_
        refine tp_i (nI (5 * t + 2)) (nI_add _ _) ?_
        refine va_sld hx hb hX hbl hbA hS (vp_in_nI (show 5 * t + 2 < L by omega) (by omega)) d_law_145 ?_
        refine tp_i (xs (5 * t + 2)) (by rw [nI_clamp (by omega)]) ?_
        refine lv_aload_n hx hb d_law_146 rfl (lv_at hl 0 rfl) ?_
        refine lv_iload hx hb d_law_147 (lv_at hl 4 rfl) ?_
        refine lv_iconst (v := nI 3) hx hb d_law_149 (by decide) ?_
        refine lv_iadd hx hb d_law_150 ?_
        refine tp_i (nI (5 * t + 3)) (nI_add _ _) ?_
        refine va_sld hx hb hX hbl hbA hS (vp_in_nI (show 5 * t + 3 < L by omega) (by omega)) d_law_151 ?_
        refine tp_i (xs (5 * t + 3)) (by rw [nI_clamp (by omega)]) ?_
        refine lv_aload_n hx hb d_law_152 rfl (lv_at hl 0 rfl) ?_
        refine lv_iload hx hb d_law_153 (lv_at hl 4 rfl) ?_
        refine lv_iconst (v := nI 4) hx hb d_law_155 (by decide) ?_
        refine lv_iadd hx hb d_law_156 ?_
        refine tp_i (nI (5 * t + 4)) (nI_add _ _) ?_
        refine va_sld hx hb hX hbl hbA hS (vp_in_nI (show 5 * t + 4 < L by omega) (by omega)) d_law_157 ?_
        refine tp_i (xs (5 * t + 4)) (by rw [nI_clamp (by omega)]) ?_
        refine lv_if_eq (tgt := 165) hx hb d_law_158 (by decide) (fun c_2 => ?_) (fun c_2 => ?_)
        · refine lv_iconst (v := nI 0) hx hb d_law_165 (by decide) ?_
          refine W.eq (g2 := F0 m 166 ls (.int (bI false) :: .int (xs (5 * t + 3)) :: .int (xs (5 * t + 2)) :: .int (xs (5 * t + 1)) :: .ref (ca_o q) :: [])) rfl ?_
          refine cL_i (va_runV (As := [.int (xs (5 * t + 1)), .int (xs (5 * t + 2)), .int (xs (5 * t + 3)), .int (bI false)]) (rest := []) ⟨hx, hb, hml, hown, hts⟩ (c_S_valve l dC dI q u _ (xs (5 * t + 1)) (xs (5 * t + 2)) (xs (5 * t + 3)) false qS qV) (cwV 4 hts (good_tbl (good_V iw_158 iw_159 iw_160 iw_1 gg_S_valve)) rfl rfl rfl (by decide +kernel) ⟨Nat.le_of_ble_eq_true rfl, Nat.le_of_ble_eq_true rfl⟩) (pv_Q [.int (xs (5 * t + 1)), .int (xs (5 * t + 2)), .int (xs (5 * t + 3)), .int (bI false)] hN hKC hP.L hD.L (ci := 3) (q0 := 0) rfl rfl) rfl rfl hl.1 rfl (lv_room (Nat.le_of_ble_eq_true rfl)) d_law_166 ⟨(show cells + 0 ≤ 1060 by omega), (show slots + 0 ≤ 17260 by omega)⟩) hP hD hS hA (fun r1 z1 H locs hC1 hP hD hS => ?_)
          refine lv_pop hx hb d_law_169 rfl ?_
          refine lv_aload_n hx hb d_law_170 rfl (lv_at hl 2 rfl) ?_
          refine lv_aload_n hx hb d_law_171 rfl (lv_at hl 0 rfl) ?_
          refine lv_iload hx hb d_law_172 (lv_at hl 4 rfl) ?_
          refine lv_iconst (v := nI 1) hx hb d_law_174 (by decide) ?_
          refine lv_iadd hx hb d_law_175 ?_
          refine tp_i (nI (5 * t + 1)) (nI_add _ _) ?_
          refine va_sld hx hb hX hbl hbA hS (vp_in_nI (show 5 * t + 1 < L by omega) (by omega)) d_law_176 ?_
          refine tp_i (xs (5 * t + 1)) (by rw [nI_clamp (by omega)]) ?_
          refine lv_aload_n hx hb d_law_177 rfl (lv_at hl 0 rfl) ?_
          refine lv_iload hx hb d_law_178 (lv_at hl 4 rfl) ?_
          refine lv_iconst (v := nI 2) hx hb d_law_180 (by decide) ?_
          refine lv_iadd hx hb d_law_181 ?_
          refine tp_i (nI (5 * t + 2)) (nI_add _ _) ?_
          refine va_sld hx hb hX hbl hbA hS (vp_in_nI (show 5 * t + 2 < L by omega) (by omega)) d_law_182 ?_
          refine tp_i (xs (5 * t + 2)) (by rw [nI_clamp (by omega)]) ?_
          refine lv_aload_n hx hb d_law_183 rfl (lv_at hl 0 rfl) ?_
          refine lv_iload hx hb d_law_184 (lv_at hl 4 rfl) ?_
          refine lv_iconst (v := nI 3) hx hb d_law_186 (by decide) ?_
          refine lv_iadd hx hb d_law_187 ?_
          refine tp_i (nI (5 * t + 3)) (nI_add _ _) ?_
          refine va_sld hx hb hX hbl hbA hS (vp_in_nI (show 5 * t + 3 < L by omega) (by omega)) d_law_188 ?_
          refine tp_i (xs (5 * t + 3)) (by rw [nI_clamp (by omega)]) ?_
          refine lv_aload_n hx hb d_law_189 rfl (lv_at hl 0 rfl) ?_
          refine lv_iload hx hb d_law_190 (lv_at hl 4 rfl) ?_
          refine lv_iconst (v := nI 4) hx hb d_law_192 (by decide) ?_
          refine lv_iadd hx hb d_law_193 ?_
          refine tp_i (nI (5 * t + 4)) (nI_add _ _) ?_
          refine va_sld hx hb hX hbl hbA hS (vp_in_nI (show 5 * t + 4 < L by omega) (by omega)) d_law_194 ?_
          refine tp_i (xs (5 * t + 4)) (by rw [nI_clamp (by omega)]) ?_
          refine lv_if_eq (tgt := 202) hx hb d_law_195 (by decide) (fun c_3 => ?_) (fun c_3 => ?_)
          · refine lv_iconst (v := nI 0) hx hb d_law_202 (by decide) ?_
            refine W.eq (g2 := F0 m 203 ls (.int (bI false) :: .int (xs (5 * t + 3)) :: .int (xs (5 * t + 2)) :: .int (xs (5 * t + 1)) :: .ref (ma_o q2) :: [])) rfl ?_
            have hP8 : va_P (dC, dI) vwCl ((wC q z1 ++ [(oa, .inl (ca_cJ q, 1, .inr (.inl f)))]) ++ wM q2 v) H := by rw [List.append_assoc]; exact hP
            have hD8 : va_D (fun z9 : Nat => s.heap.size ≤ z9) ((wC q z1 ++ [(oa, .inl (ca_cJ q, 1, .inr (.inl f)))]) ++ wM q2 v) := by rw [List.append_assoc]; exact hD
            refine cR_i (va_runV (As := [.int (xs (5 * t + 1)), .int (xs (5 * t + 2)), .int (xs (5 * t + 3)), .int (bI false)]) (rest := []) ⟨hx, hb, hml, hown, hts⟩ (c_M_valve l dC dI q2 v _ (xs (5 * t + 1)) (xs (5 * t + 2)) (xs (5 * t + 3)) false hu) (cwV 4 hts (good_tbl (good_V iw_506 iw_507 iw_508 iw_5 gg_M_valve)) rfl rfl rfl (by decide +kernel) ⟨Nat.le_of_ble_eq_true rfl, Nat.le_of_ble_eq_true rfl⟩) (pv_Q [.int (xs (5 * t + 1)), .int (xs (5 * t + 2)), .int (xs (5 * t + 3)), .int (bI false)] hN hKM hP8.R hD8.R (ci := 4) (q0 := 0) rfl rfl) rfl rfl hl.1 rfl (lv_room (Nat.le_of_ble_eq_true rfl)) d_law_203 ⟨(show cells + 0 + 0 ≤ 1060 by omega), (show slots + 0 + 0 ≤ 17260 by omega)⟩) hP8 hD8 hS hA (fun r2 z2 H locs hM2 hP hD hS => ?_)
            rw [List.append_assoc] at hP hD
            have e9 := st_valve hCR (xs (5 * t + 1)) (xs (5 * t + 2)) (xs (5 * t + 3)) false
            rw [← hC1, ← hM2] at e9
            refine lv_pop hx hb d_law_206 rfl ?_
            refine lv_goto (tgt := 578) hx hb d_law_207 (by decide) ?_
            exact back z1 z2 f _ _ _ _ _ e9.2 (by omega) (by omega) (by omega) hP hD hS (lv_sub hl [0, 1, 2, 3, 4] rfl)
          · exact absurd c_2 c_3
        · refine lv_iconst (v := nI 1) hx hb d_law_161 (by decide) ?_
          refine lv_goto (tgt := 166) hx hb d_law_162 (by decide) ?_
          refine W.eq (g2 := F0 m 166 ls (.int (bI true) :: .int (xs (5 * t + 3)) :: .int (xs (5 * t + 2)) :: .int (xs (5 * t + 1)) :: .ref (ca_o q) :: [])) rfl ?_
          refine cL_i (va_runV (As := [.int (xs (5 * t + 1)), .int (xs (5 * t + 2)), .int (xs (5 * t + 3)), .int (bI true)]) (rest := []) ⟨hx, hb, hml, hown, hts⟩ (c_S_valve l dC dI q u _ (xs (5 * t + 1)) (xs (5 * t + 2)) (xs (5 * t + 3)) true qS qV) (cwV 4 hts (good_tbl (good_V iw_158 iw_159 iw_160 iw_1 gg_S_valve)) rfl rfl rfl (by decide +kernel) ⟨Nat.le_of_ble_eq_true rfl, Nat.le_of_ble_eq_true rfl⟩) (pv_Q [.int (xs (5 * t + 1)), .int (xs (5 * t + 2)), .int (xs (5 * t + 3)), .int (bI true)] hN hKC hP.L hD.L (ci := 3) (q0 := 0) rfl rfl) rfl rfl hl.1 rfl (lv_room (Nat.le_of_ble_eq_true rfl)) d_law_166 ⟨(show cells + 0 ≤ 1060 by omega), (show slots + 0 ≤ 17260 by omega)⟩) hP hD hS hA (fun r1 z1 H locs hC1 hP hD hS => ?_)
          refine lv_pop hx hb d_law_169 rfl ?_
          refine lv_aload_n hx hb d_law_170 rfl (lv_at hl 2 rfl) ?_
          refine lv_aload_n hx hb d_law_171 rfl (lv_at hl 0 rfl) ?_
          refine lv_iload hx hb d_law_172 (lv_at hl 4 rfl) ?_
          refine lv_iconst (v := nI 1) hx hb d_law_174 (by decide) ?_
          refine lv_iadd hx hb d_law_175 ?_
          refine tp_i (nI (5 * t + 1)) (nI_add _ _) ?_
          refine va_sld hx hb hX hbl hbA hS (vp_in_nI (show 5 * t + 1 < L by omega) (by omega)) d_law_176 ?_
          refine tp_i (xs (5 * t + 1)) (by rw [nI_clamp (by omega)]) ?_
          refine lv_aload_n hx hb d_law_177 rfl (lv_at hl 0 rfl) ?_
          refine lv_iload hx hb d_law_178 (lv_at hl 4 rfl) ?_
          refine lv_iconst (v := nI 2) hx hb d_law_180 (by decide) ?_
          refine lv_iadd hx hb d_law_181 ?_
          refine tp_i (nI (5 * t + 2)) (nI_add _ _) ?_
          refine va_sld hx hb hX hbl hbA hS (vp_in_nI (show 5 * t + 2 < L by omega) (by omega)) d_law_182 ?_
          refine tp_i (xs (5 * t + 2)) (by rw [nI_clamp (by omega)]) ?_
          refine lv_aload_n hx hb d_law_183 rfl (lv_at hl 0 rfl) ?_
          refine lv_iload hx hb d_law_184 (lv_at hl 4 rfl) ?_
          refine lv_iconst (v := nI 3) hx hb d_law_186 (by decide) ?_
          refine lv_iadd hx hb d_law_187 ?_
          refine tp_i (nI (5 * t + 3)) (nI_add _ _) ?_
          refine va_sld hx hb hX hbl hbA hS (vp_in_nI (show 5 * t + 3 < L by omega) (by omega)) d_law_188 ?_
          refine tp_i (xs (5 * t + 3)) (by rw [nI_clamp (by omega)]) ?_
          refine lv_aload_n hx hb d_law_189 rfl (lv_at hl 0 rfl) ?_
          refine lv_iload hx hb d_law_190 (lv_at hl 4 rfl) ?_
          refine lv_iconst (v := nI 4) hx hb d_law_192 (by decide) ?_
          refine lv_iadd hx hb d_law_193 ?_
          refine tp_i (nI (5 * t + 4)) (nI_add _ _) ?_
          refine va_sld hx hb hX hbl hbA hS (vp_in_nI (show 5 * t + 4 < L by omega) (by omega)) d_law_194 ?_
          refine tp_i (xs (5 * t + 4)) (by rw [nI_clamp (by omega)]) ?_
          refine lv_if_eq (tgt := 202) hx hb d_law_195 (by decide) (fun c_4 => ?_) (fun c_4 => ?_)
          · exact absurd c_4 c_2
          · refine lv_iconst (v := nI 1) hx hb d_law_198 (by decide) ?_
            refine lv_goto (tgt := 203) hx hb d_law_199 (by decide) ?_
            refine W.eq (g2 := F0 m 203 ls (.int (bI true) :: .int (xs (5 * t + 3)) :: .int (xs (5 * t + 2)) :: .int (xs (5 * t + 1)) :: .ref (ma_o q2) :: [])) rfl ?_
            have hP8 : va_P (dC, dI) vwCl ((wC q z1 ++ [(oa, .inl (ca_cJ q, 1, .inr (.inl f)))]) ++ wM q2 v) H := by rw [List.append_assoc]; exact hP
            have hD8 : va_D (fun z9 : Nat => s.heap.size ≤ z9) ((wC q z1 ++ [(oa, .inl (ca_cJ q, 1, .inr (.inl f)))]) ++ wM q2 v) := by rw [List.append_assoc]; exact hD
            refine cR_i (va_runV (As := [.int (xs (5 * t + 1)), .int (xs (5 * t + 2)), .int (xs (5 * t + 3)), .int (bI true)]) (rest := []) ⟨hx, hb, hml, hown, hts⟩ (c_M_valve l dC dI q2 v _ (xs (5 * t + 1)) (xs (5 * t + 2)) (xs (5 * t + 3)) true hu) (cwV 4 hts (good_tbl (good_V iw_506 iw_507 iw_508 iw_5 gg_M_valve)) rfl rfl rfl (by decide +kernel) ⟨Nat.le_of_ble_eq_true rfl, Nat.le_of_ble_eq_true rfl⟩) (pv_Q [.int (xs (5 * t + 1)), .int (xs (5 * t + 2)), .int (xs (5 * t + 3)), .int (bI true)] hN hKM hP8.R hD8.R (ci := 4) (q0 := 0) rfl rfl) rfl rfl hl.1 rfl (lv_room (Nat.le_of_ble_eq_true rfl)) d_law_203 ⟨(show cells + 0 + 0 ≤ 1060 by omega), (show slots + 0 + 0 ≤ 17260 by omega)⟩) hP8 hD8 hS hA (fun r2 z2 H locs hM2 hP hD hS => ?_)
            rw [List.append_assoc] at hP hD
            have e9 := st_valve hCR (xs (5 * t + 1)) (xs (5 * t + 2)) (xs (5 * t + 3)) true
            rw [← hC1, ← hM2] at e9
            refine lv_pop hx hb d_law_206 rfl ?_
            refine lv_goto (tgt := 578) hx hb d_law_207 (by decide) ?_
            exact back z1 z2 f _ _ _ _ _ e9.2 (by omega) (by omega) (by omega) hP hD hS (lv_sub hl [0, 1, 2, 3, 4] rfl)
      · refine lv_tableIn (off := 171) (tgt := 210) hx hb d_law_39 (by decide) (by decide) (by decide) (by decide) ?_
        refine lv_aload_n hx hb d_law_210 rfl (lv_at hl 1 rfl) ?_
        refine lv_aload_n hx hb d_law_211 rfl (lv_at hl 0 rfl) ?_
        refine lv_iload hx hb d_law_212 (lv_at hl 4 rfl) ?_
        refine lv_iconst (v := nI 1) hx hb d_law_214 (by decide) ?_
        refine lv_iadd hx hb d_law_215 ?_
        refine tp_i (nI (5 * t + 1)) (nI_add _ _) ?_
        refine va_sld hx hb hX hbl hbA hS (vp_in_nI (show 5 * t + 1 < L by omega) (by omega)) d_law_216 ?_
        refine tp_i (xs (5 * t + 1)) (by rw [nI_clamp (by omega)]) ?_
        refine lv_aload_n hx hb d_law_217 rfl (lv_at hl 0 rfl) ?_
        refine lv_iload hx hb d_law_218 (lv_at hl 4 rfl) ?_
        refine lv_iconst (v := nI 2) hx hb d_law_220 (by decide) ?_
        refine lv_iadd hx hb d_law_221 ?_
        refine tp_i (nI (5 * t + 2)) (nI_add _ _) ?_
        refine va_sld hx hb hX hbl hbA hS (vp_in_nI (show 5 * t + 2 < L by omega) (by omega)) d_law_222 ?_
        refine tp_i (xs (5 * t + 2)) (by rw [nI_clamp (by omega)]) ?_
        refine lv_i2l (v := (xs (5 * t + 2)).toInt64) hx hb d_law_223 rfl ?_
        refine lv_bipush (v := nI 32) hx hb d_law_224 (by decide) ?_
        refine lv_lshl (v := ((xs (5 * t + 2)).toInt64) <<< ((nI 32).toInt64 &&& 63)) hx hb d_law_226 rfl ?_
        refine lv_aload_n hx hb d_law_227 rfl (lv_at hl 0 rfl) ?_
        refine lv_iload hx hb d_law_228 (lv_at hl 4 rfl) ?_
        refine lv_iconst (v := nI 3) hx hb d_law_230 (by decide) ?_
        refine lv_iadd hx hb d_law_231 ?_
        refine tp_i (nI (5 * t + 3)) (nI_add _ _) ?_
        refine va_sld hx hb hX hbl hbA hS (vp_in_nI (show 5 * t + 3 < L by omega) (by omega)) d_law_232 ?_
        refine tp_i (xs (5 * t + 3)) (by rw [nI_clamp (by omega)]) ?_
        refine lv_i2l (v := (xs (5 * t + 3)).toInt64) hx hb d_law_233 rfl ?_
        refine lv_ldc2 (v := 4294967295) hx hb hown (hts _ (gT_good iw_592).1) d_law_234 ?_
        refine lv_land hx hb d_law_237 ?_
        refine lv_lor hx hb d_law_238 ?_
        refine cL_i (va_runV (As := [.int (xs (5 * t + 1)), .long ((((xs (5 * t + 2)).toInt64) <<< ((nI 32).toInt64 &&& 63)) ||| (((xs (5 * t + 3)).toInt64) &&& 4294967295))]) (rest := []) ⟨hx, hb, hml, hown, hts⟩ (c_S_level l dC dI q u _ (xs (5 * t + 1)) ((((xs (5 * t + 2)).toInt64) <<< ((nI 32).toInt64 &&& 63)) ||| (((xs (5 * t + 3)).toInt64) &&& 4294967295)) qS qV qe1 qe2) (cwV 2 hts (good_tbl (good_V iw_182 iw_183 iw_184 iw_1 gg_S_level)) rfl rfl rfl (by decide +kernel) ⟨Nat.le_of_ble_eq_true rfl, Nat.le_of_ble_eq_true rfl⟩) (pv_Q [.int (xs (5 * t + 1)), .long ((((xs (5 * t + 2)).toInt64) <<< ((nI 32).toInt64 &&& 63)) ||| (((xs (5 * t + 3)).toInt64) &&& 4294967295))] hN hKC hP.L hD.L (ci := 3) (q0 := 0) rfl rfl) rfl rfl hl.1 rfl (lv_room (Nat.le_of_ble_eq_true rfl)) d_law_239 ⟨(show cells + 0 ≤ 1060 by omega), (show slots + 0 ≤ 17260 by omega)⟩) hP hD hS hA (fun r1 z1 H locs hC1 hP hD hS => ?_)
        refine lv_pop hx hb d_law_242 rfl ?_
        refine lv_aload_n hx hb d_law_243 rfl (lv_at hl 2 rfl) ?_
        refine lv_aload_n hx hb d_law_244 rfl (lv_at hl 0 rfl) ?_
        refine lv_iload hx hb d_law_245 (lv_at hl 4 rfl) ?_
        refine lv_iconst (v := nI 1) hx hb d_law_247 (by decide) ?_
        refine lv_iadd hx hb d_law_248 ?_
        refine tp_i (nI (5 * t + 1)) (nI_add _ _) ?_
        refine va_sld hx hb hX hbl hbA hS (vp_in_nI (show 5 * t + 1 < L by omega) (by omega)) d_law_249 ?_
        refine tp_i (xs (5 * t + 1)) (by rw [nI_clamp (by omega)]) ?_
        refine lv_aload_n hx hb d_law_250 rfl (lv_at hl 0 rfl) ?_
        refine lv_iload hx hb d_law_251 (lv_at hl 4 rfl) ?_
        refine lv_iconst (v := nI 2) hx hb d_law_253 (by decide) ?_
        refine lv_iadd hx hb d_law_254 ?_
        refine tp_i (nI (5 * t + 2)) (nI_add _ _) ?_
        refine va_sld hx hb hX hbl hbA hS (vp_in_nI (show 5 * t + 2 < L by omega) (by omega)) d_law_255 ?_
        refine tp_i (xs (5 * t + 2)) (by rw [nI_clamp (by omega)]) ?_
        refine lv_i2l (v := (xs (5 * t + 2)).toInt64) hx hb d_law_256 rfl ?_
        refine lv_bipush (v := nI 32) hx hb d_law_257 (by decide) ?_
        refine lv_lshl (v := ((xs (5 * t + 2)).toInt64) <<< ((nI 32).toInt64 &&& 63)) hx hb d_law_259 rfl ?_
        refine lv_aload_n hx hb d_law_260 rfl (lv_at hl 0 rfl) ?_
        refine lv_iload hx hb d_law_261 (lv_at hl 4 rfl) ?_
        refine lv_iconst (v := nI 3) hx hb d_law_263 (by decide) ?_
        refine lv_iadd hx hb d_law_264 ?_
        refine tp_i (nI (5 * t + 3)) (nI_add _ _) ?_
        refine va_sld hx hb hX hbl hbA hS (vp_in_nI (show 5 * t + 3 < L by omega) (by omega)) d_law_265 ?_
        refine tp_i (xs (5 * t + 3)) (by rw [nI_clamp (by omega)]) ?_
        refine lv_i2l (v := (xs (5 * t + 3)).toInt64) hx hb d_law_266 rfl ?_
        refine lv_ldc2 (v := 4294967295) hx hb hown (hts _ (gT_good iw_592).1) d_law_267 ?_
        refine lv_land hx hb d_law_270 ?_
        refine lv_lor hx hb d_law_271 ?_
        have hP8 : va_P (dC, dI) vwCl ((wC q z1 ++ [(oa, .inl (ca_cJ q, 1, .inr (.inl f)))]) ++ wM q2 v) H := by rw [List.append_assoc]; exact hP
        have hD8 : va_D (fun z9 : Nat => s.heap.size ≤ z9) ((wC q z1 ++ [(oa, .inl (ca_cJ q, 1, .inr (.inl f)))]) ++ wM q2 v) := by rw [List.append_assoc]; exact hD
        refine cR_i (va_runV (As := [.int (xs (5 * t + 1)), .long ((((xs (5 * t + 2)).toInt64) <<< ((nI 32).toInt64 &&& 63)) ||| (((xs (5 * t + 3)).toInt64) &&& 4294967295))]) (rest := []) ⟨hx, hb, hml, hown, hts⟩ (c_M_level l dC dI q2 v _ (xs (5 * t + 1)) ((((xs (5 * t + 2)).toInt64) <<< ((nI 32).toInt64 &&& 63)) ||| (((xs (5 * t + 3)).toInt64) &&& 4294967295)) hu) (cwV 2 hts (good_tbl (good_V iw_514 iw_515 iw_516 iw_5 gg_M_level)) rfl rfl rfl (by decide +kernel) ⟨Nat.le_of_ble_eq_true rfl, Nat.le_of_ble_eq_true rfl⟩) (pv_Q [.int (xs (5 * t + 1)), .long ((((xs (5 * t + 2)).toInt64) <<< ((nI 32).toInt64 &&& 63)) ||| (((xs (5 * t + 3)).toInt64) &&& 4294967295))] hN hKM hP8.R hD8.R (ci := 4) (q0 := 0) rfl rfl) rfl rfl hl.1 rfl (lv_room (Nat.le_of_ble_eq_true rfl)) d_law_272 ⟨(show cells + 0 + 0 ≤ 1060 by omega), (show slots + 0 + 0 ≤ 17260 by omega)⟩) hP8 hD8 hS hA (fun r2 z2 H locs hM2 hP hD hS => ?_)
        rw [List.append_assoc] at hP hD
        have e9 := st_level hCR (xs (5 * t + 1)) ((((xs (5 * t + 2)).toInt64) <<< ((nI 32).toInt64 &&& 63)) ||| (((xs (5 * t + 3)).toInt64) &&& 4294967295))
        rw [← hC1.2, ← hM2.2] at e9
        refine lv_pop hx hb d_law_275 rfl ?_
        refine lv_goto (tgt := 578) hx hb d_law_276 (by decide) ?_
        exact back z1 z2 f _ _ _ _ _ e9.2 (by omega) (by omega) (by omega) hP hD hS (lv_sub hl [0, 1, 2, 3, 4] rfl)
      · refine lv_tableIn (off := 240) (tgt := 279) hx hb d_law_39 (by decide) (by decide) (by decide) (by decide) ?_
        refine lv_aload_n hx hb d_law_279 rfl (lv_at hl 1 rfl) ?_
        refine lv_aload_n hx hb d_law_280 rfl (lv_at hl 0 rfl) ?_
        refine lv_iload hx hb d_law_281 (lv_at hl 4 rfl) ?_
        refine lv_iconst (v := nI 1) hx hb d_law_283 (by decide) ?_
        refine lv_iadd hx hb d_law_284 ?_
        refine tp_i (nI (5 * t + 1)) (nI_add _ _) ?_
        refine va_sld hx hb hX hbl hbA hS (vp_in_nI (show 5 * t + 1 < L by omega) (by omega)) d_law_285 ?_
        refine tp_i (xs (5 * t + 1)) (by rw [nI_clamp (by omega)]) ?_
        refine lv_aload_n hx hb d_law_286 rfl (lv_at hl 0 rfl) ?_
        refine lv_iload hx hb d_law_287 (lv_at hl 4 rfl) ?_
        refine lv_iconst (v := nI 2) hx hb d_law_289 (by decide) ?_
        refine lv_iadd hx hb d_law_290 ?_
        refine tp_i (nI (5 * t + 2)) (nI_add _ _) ?_
        refine va_sld hx hb hX hbl hbA hS (vp_in_nI (show 5 * t + 2 < L by omega) (by omega)) d_law_291 ?_
        refine tp_i (xs (5 * t + 2)) (by rw [nI_clamp (by omega)]) ?_
        refine cL_i (va_runV (As := [.int (xs (5 * t + 1)), .int (xs (5 * t + 2))]) (rest := []) ⟨hx, hb, hml, hown, hts⟩ (c_S_may l dC dI q u _ (xs (5 * t + 1)) (xs (5 * t + 2)) ) (cwV 2 hts (good_tbl (good_V iw_194 iw_195 iw_196 iw_1 gg_S_may)) rfl rfl rfl (by decide +kernel) ⟨Nat.le_of_ble_eq_true rfl, Nat.le_of_ble_eq_true rfl⟩) (pv_Q [.int (xs (5 * t + 1)), .int (xs (5 * t + 2))] hN hKC hP.L hD.L (ci := 3) (q0 := 0) rfl rfl) rfl rfl hl.1 rfl (lv_room (Nat.le_of_ble_eq_true rfl)) d_law_292 ⟨(show cells + 0 ≤ 1060 by omega), (show slots + 0 ≤ 17260 by omega)⟩) hP hD hS hA (fun r1 z1 H locs hC1 hP hD hS => ?_)
        refine lv_pop hx hb d_law_295 rfl ?_
        refine lv_aload_n hx hb d_law_296 rfl (lv_at hl 2 rfl) ?_
        refine lv_aload_n hx hb d_law_297 rfl (lv_at hl 0 rfl) ?_
        refine lv_iload hx hb d_law_298 (lv_at hl 4 rfl) ?_
        refine lv_iconst (v := nI 1) hx hb d_law_300 (by decide) ?_
        refine lv_iadd hx hb d_law_301 ?_
        refine tp_i (nI (5 * t + 1)) (nI_add _ _) ?_
        refine va_sld hx hb hX hbl hbA hS (vp_in_nI (show 5 * t + 1 < L by omega) (by omega)) d_law_302 ?_
        refine tp_i (xs (5 * t + 1)) (by rw [nI_clamp (by omega)]) ?_
        refine lv_aload_n hx hb d_law_303 rfl (lv_at hl 0 rfl) ?_
        refine lv_iload hx hb d_law_304 (lv_at hl 4 rfl) ?_
        refine lv_iconst (v := nI 2) hx hb d_law_306 (by decide) ?_
        refine lv_iadd hx hb d_law_307 ?_
        refine tp_i (nI (5 * t + 2)) (nI_add _ _) ?_
        refine va_sld hx hb hX hbl hbA hS (vp_in_nI (show 5 * t + 2 < L by omega) (by omega)) d_law_308 ?_
        refine tp_i (xs (5 * t + 2)) (by rw [nI_clamp (by omega)]) ?_
        have hP8 : va_P (dC, dI) vwCl ((wC q z1 ++ [(oa, .inl (ca_cJ q, 1, .inr (.inl f)))]) ++ wM q2 v) H := by rw [List.append_assoc]; exact hP
        have hD8 : va_D (fun z9 : Nat => s.heap.size ≤ z9) ((wC q z1 ++ [(oa, .inl (ca_cJ q, 1, .inr (.inl f)))]) ++ wM q2 v) := by rw [List.append_assoc]; exact hD
        refine cR_i (va_runV (As := [.int (xs (5 * t + 1)), .int (xs (5 * t + 2))]) (rest := []) ⟨hx, hb, hml, hown, hts⟩ (c_M_may l dC dI q2 v _ (xs (5 * t + 1)) (xs (5 * t + 2)) ) (cwV 2 hts (good_tbl (good_V iw_518 iw_519 iw_520 iw_5 gg_M_may)) rfl rfl rfl (by decide +kernel) ⟨Nat.le_of_ble_eq_true rfl, Nat.le_of_ble_eq_true rfl⟩) (pv_Q [.int (xs (5 * t + 1)), .int (xs (5 * t + 2))] hN hKM hP8.R hD8.R (ci := 4) (q0 := 0) rfl rfl) rfl rfl hl.1 rfl (lv_room (Nat.le_of_ble_eq_true rfl)) d_law_309 ⟨(show cells + 0 + 0 ≤ 1060 by omega), (show slots + 0 + 0 ≤ 17260 by omega)⟩) hP8 hD8 hS hA (fun r2 z2 H locs hM2 hP hD hS => ?_)
        rw [List.append_assoc] at hP hD
        have e9 := st_may hCR (xs (5 * t + 1)) (xs (5 * t + 2))
        rw [← hC1.2, ← hM2.2] at e9
        refine lv_pop hx hb d_law_312 rfl ?_
        refine lv_goto (tgt := 578) hx hb d_law_313 (by decide) ?_
        exact back z1 z2 f _ _ _ _ _ e9.2 (by omega) (by omega) (by omega) hP hD hS (lv_sub hl [0, 1, 2, 3, 4] rfl)
      · refine lv_tableIn (off := 277) (tgt := 316) hx hb d_law_39 (by decide) (by decide) (by decide) (by decide) ?_
        refine lv_aload_n hx hb d_law_316 rfl (lv_at hl 1 rfl) ?_
        refine cL_i (va_runV (As := []) (rest := []) ⟨hx, hb, hml, hown, hts⟩ (c_S_safe l dC dI q u _  v hCR.1 qb1 qb2) (cwV 0 hts (good_tbl (good_V iw_209 iw_210 iw_211 iw_1 gg_S_safe)) rfl rfl rfl (by decide +kernel) ⟨Nat.le_of_ble_eq_true rfl, Nat.le_of_ble_eq_true rfl⟩) (pv_Q [] hN hKC hP.L hD.L (ci := 3) (q0 := 0) rfl rfl) rfl rfl hl.1 rfl (lv_room (Nat.le_of_ble_eq_true rfl)) d_law_317 ⟨(show cells + 0 ≤ 1060 by omega), (show slots + 0 ≤ 17260 by omega)⟩) hP hD hS hA (fun r1 z1 H locs hC1 hP hD hS => ?_)
        refine lv_pop hx hb d_law_320 rfl ?_
        refine lv_aload_n hx hb d_law_321 rfl (lv_at hl 2 rfl) ?_
        have hP8 : va_P (dC, dI) vwCl ((wC q z1 ++ [(oa, .inl (ca_cJ q, 1, .inr (.inl f)))]) ++ wM q2 v) H := by rw [List.append_assoc]; exact hP
        have hD8 : va_D (fun z9 : Nat => s.heap.size ≤ z9) ((wC q z1 ++ [(oa, .inl (ca_cJ q, 1, .inr (.inl f)))]) ++ wM q2 v) := by rw [List.append_assoc]; exact hD
        refine cR_i (va_runV (As := []) (rest := []) ⟨hx, hb, hml, hown, hts⟩ (c_M_safe l dC dI q2 v _  hu) (cwV 0 hts (good_tbl (good_V iw_522 iw_523 iw_524 iw_5 gg_M_safe)) rfl rfl rfl (by decide +kernel) ⟨Nat.le_of_ble_eq_true rfl, Nat.le_of_ble_eq_true rfl⟩) (pv_Q [] hN hKM hP8.R hD8.R (ci := 4) (q0 := 0) rfl rfl) rfl rfl hl.1 rfl (lv_room (Nat.le_of_ble_eq_true rfl)) d_law_322 ⟨(show cells + 0 + 0 ≤ 1060 by omega), (show slots + 0 + 0 ≤ 17260 by omega)⟩) hP8 hD8 hS hA (fun r2 z2 H locs hM2 hP hD hS => ?_)
        rw [List.append_assoc] at hP hD
        have e9 := st_safe hCR hC1 hM2
        refine lv_pop hx hb d_law_325 rfl ?_
        refine lv_goto (tgt := 578) hx hb d_law_326 (by decide) ?_
        exact back z1 z2 f _ _ _ _ _ e9.2 (by omega) (by omega) (by omega) hP hD hS (lv_sub hl [0, 1, 2, 3, 4] rfl)
      · refine lv_tableIn (off := 290) (tgt := 329) hx hb d_law_39 (by decide) (by decide) (by decide) (by decide) ?_
        refine lv_aload_n hx hb d_law_329 rfl (lv_at hl 1 rfl) ?_
        refine lv_aload_n hx hb d_law_330 rfl (lv_at hl 0 rfl) ?_
        refine lv_iload hx hb d_law_331 (lv_at hl 4 rfl) ?_
        refine lv_iconst (v := nI 1) hx hb d_law_333 (by decide) ?_
        refine lv_iadd hx hb d_law_334 ?_
        refine tp_i (nI (5 * t + 1)) (nI_add _ _) ?_
        refine va_sld hx hb hX hbl hbA hS (vp_in_nI (show 5 * t + 1 < L by omega) (by omega)) d_law_335 ?_
        refine tp_i (xs (5 * t + 1)) (by rw [nI_clamp (by omega)]) ?_
        refine vp_callSi (va_Run.run (va_runV (As := [.int (xs (5 * t + 1))]) (rest := []) ⟨hx, hb, hml, hown, hts⟩ (c_S_culprit l dC dI q u (xs (5 * t + 1)) ) (cwV 1 hts (good_tbl (good_V iw_275 iw_276 iw_277 iw_1 gg_S_culprit)) rfl rfl rfl (by decide +kernel) ⟨Nat.le_of_ble_eq_true rfl, Nat.le_of_ble_eq_true rfl⟩) (pv_S [.int (xs (5 * t + 1))] hN hKC hP.L (ci := 3) (q0 := 0) rfl rfl) rfl rfl hl.1 rfl (lv_room (Nat.le_of_ble_eq_true rfl)) d_law_336 ⟨(show cells + 0 ≤ 1060 by omega), (show slots + 0 ≤ 17260 by omega)⟩)) (fun r1 hC1 => ?_)
        refine lv_pop hx hb d_law_339 rfl ?_
        refine lv_aload_n hx hb d_law_340 rfl (lv_at hl 2 rfl) ?_
        refine lv_aload_n hx hb d_law_341 rfl (lv_at hl 0 rfl) ?_
        refine lv_iload hx hb d_law_342 (lv_at hl 4 rfl) ?_
        refine lv_iconst (v := nI 1) hx hb d_law_344 (by decide) ?_
        refine lv_iadd hx hb d_law_345 ?_
        refine tp_i (nI (5 * t + 1)) (nI_add _ _) ?_
        refine va_sld hx hb hX hbl hbA hS (vp_in_nI (show 5 * t + 1 < L by omega) (by omega)) d_law_346 ?_
        refine tp_i (xs (5 * t + 1)) (by rw [nI_clamp (by omega)]) ?_
        have hP8 : va_P (dC, dI) vwCl ((wC q u ++ [(oa, .inl (ca_cJ q, 1, .inr (.inl f)))]) ++ wM q2 v) H := by rw [List.append_assoc]; exact hP
        have hD8 : va_D (fun z9 : Nat => s.heap.size ≤ z9) ((wC q u ++ [(oa, .inl (ca_cJ q, 1, .inr (.inl f)))]) ++ wM q2 v) := by rw [List.append_assoc]; exact hD
        refine cR_i (va_runV (As := [.int (xs (5 * t + 1))]) (rest := []) ⟨hx, hb, hml, hown, hts⟩ (c_M_culprit l dC dI q2 v _ (xs (5 * t + 1)) ) (cwV 1 hts (good_tbl (good_V iw_549 iw_550 iw_551 iw_5 gg_M_culprit)) rfl rfl rfl (by decide +kernel) ⟨Nat.le_of_ble_eq_true rfl, Nat.le_of_ble_eq_true rfl⟩) (pv_Q [.int (xs (5 * t + 1))] hN hKM hP8.R hD8.R (ci := 4) (q0 := 0) rfl rfl) rfl rfl hl.1 rfl (lv_room (Nat.le_of_ble_eq_true rfl)) d_law_347 ⟨(show cells + 0 ≤ 1060 by omega), (show slots + 0 ≤ 17260 by omega)⟩) hP8 hD8 hS hA (fun r2 z2 H locs hM2 hP hD hS => ?_)
        rw [List.append_assoc] at hP hD
        have e9 : CR u z2 := by rw [hM2.2]; exact CR_th hCR
        refine lv_pop hx hb d_law_350 rfl ?_
        refine lv_goto (tgt := 578) hx hb d_law_351 (by decide) ?_
        exact back u z2 f _ _ _ _ _ e9 (by omega) (by omega) (by omega) hP hD hS (lv_sub hl [0, 1, 2, 3, 4] rfl)
      · refine lv_tableIn (off := 315) (tgt := 354) hx hb d_law_39 (by decide) (by decide) (by decide) (by decide) ?_
        refine lv_aload_n hx hb d_law_354 rfl (lv_at hl 1 rfl) ?_
        refine vp_callSi (va_Run.run (va_runV (As := []) (rest := []) ⟨hx, hb, hml, hown, hts⟩ (c_S_rows l dC dI q u  ) (cwV 0 hts (good_tbl (good_V iw_279 iw_280 iw_281 iw_1 gg_S_rows)) rfl rfl rfl (by decide +kernel) ⟨Nat.le_of_ble_eq_true rfl, Nat.le_of_ble_eq_true rfl⟩) (pv_S [] hN hKC hP.L (ci := 3) (q0 := 0) rfl rfl) rfl rfl hl.1 rfl (lv_room (Nat.le_of_ble_eq_true rfl)) d_law_355 ⟨(show cells + 0 ≤ 1060 by omega), (show slots + 0 ≤ 17260 by omega)⟩)) (fun r1 hC1 => ?_)
        refine lv_pop hx hb d_law_358 rfl ?_
        refine lv_aload_n hx hb d_law_359 rfl (lv_at hl 2 rfl) ?_
        have hP8 : va_P (dC, dI) vwCl ((wC q u ++ [(oa, .inl (ca_cJ q, 1, .inr (.inl f)))]) ++ wM q2 v) H := by rw [List.append_assoc]; exact hP
        have hD8 : va_D (fun z9 : Nat => s.heap.size ≤ z9) ((wC q u ++ [(oa, .inl (ca_cJ q, 1, .inr (.inl f)))]) ++ wM q2 v) := by rw [List.append_assoc]; exact hD
        refine cR_i (va_runV (As := []) (rest := []) ⟨hx, hb, hml, hown, hts⟩ (c_M_rows l dC dI q2 v _  ) (cwV 0 hts (good_tbl (good_V iw_553 iw_554 iw_555 iw_5 gg_M_rows)) rfl rfl rfl (by decide +kernel) ⟨Nat.le_of_ble_eq_true rfl, Nat.le_of_ble_eq_true rfl⟩) (pv_Q [] hN hKM hP8.R hD8.R (ci := 4) (q0 := 0) rfl rfl) rfl rfl hl.1 rfl (lv_room (Nat.le_of_ble_eq_true rfl)) d_law_360 ⟨(show cells + 0 ≤ 1060 by omega), (show slots + 0 ≤ 17260 by omega)⟩) hP8 hD8 hS hA (fun r2 z2 H locs hM2 hP hD hS => ?_)
        rw [List.append_assoc] at hP hD
        have e9 : CR u z2 := by rw [hM2.2]; exact CR_th hCR
        refine lv_pop hx hb d_law_363 rfl ?_
        refine lv_goto (tgt := 578) hx hb d_law_364 (by decide) ?_
        exact back u z2 f _ _ _ _ _ e9 (by omega) (by omega) (by omega) hP hD hS (lv_sub hl [0, 1, 2, 3, 4] rfl)
      · refine lv_tableIn (off := 328) (tgt := 367) hx hb d_law_39 (by decide) (by decide) (by decide) (by decide) ?_
        refine lv_aload_n hx hb d_law_367 rfl (lv_at hl 1 rfl) ?_
        refine lv_aload_n hx hb d_law_368 rfl (lv_at hl 0 rfl) ?_
        refine lv_iload hx hb d_law_369 (lv_at hl 4 rfl) ?_
        refine lv_iconst (v := nI 1) hx hb d_law_371 (by decide) ?_
        refine lv_iadd hx hb d_law_372 ?_
        refine tp_i (nI (5 * t + 1)) (nI_add _ _) ?_
        refine va_sld hx hb hX hbl hbA hS (vp_in_nI (show 5 * t + 1 < L by omega) (by omega)) d_law_373 ?_
        refine tp_i (xs (5 * t + 1)) (by rw [nI_clamp (by omega)]) ?_
        refine lv_aload_n hx hb d_law_374 rfl (lv_at hl 0 rfl) ?_
        refine lv_iload hx hb d_law_375 (lv_at hl 4 rfl) ?_
        refine lv_iconst (v := nI 2) hx hb d_law_377 (by decide) ?_
        refine lv_iadd hx hb d_law_378 ?_
        refine tp_i (nI (5 * t + 2)) (nI_add _ _) ?_
        refine va_sld hx hb hX hbl hbA hS (vp_in_nI (show 5 * t + 2 < L by omega) (by omega)) d_law_379 ?_
        refine tp_i (xs (5 * t + 2)) (by rw [nI_clamp (by omega)]) ?_
        refine vp_callSi (va_Run.run (va_runV (As := [.int (xs (5 * t + 1)), .int (xs (5 * t + 2))]) (rest := []) ⟨hx, hb, hml, hown, hts⟩ (c_S_row l dC dI q u (xs (5 * t + 1)) (xs (5 * t + 2)) qR) (cwV 2 hts (good_tbl (good_V iw_283 iw_284 iw_285 iw_1 gg_S_row)) rfl rfl rfl (by decide +kernel) ⟨Nat.le_of_ble_eq_true rfl, Nat.le_of_ble_eq_true rfl⟩) (pv_S [.int (xs (5 * t + 1)), .int (xs (5 * t + 2))] hN hKC hP.L (ci := 3) (q0 := 0) rfl rfl) rfl rfl hl.1 rfl (lv_room (Nat.le_of_ble_eq_true rfl)) d_law_380 ⟨(show cells + 0 ≤ 1060 by omega), (show slots + 0 ≤ 17260 by omega)⟩)) (fun r1 hC1 => ?_)
        refine lv_aload_n hx hb d_law_383 rfl (lv_at hl 2 rfl) ?_
        refine lv_aload_n hx hb d_law_384 rfl (lv_at hl 0 rfl) ?_
        refine lv_iload hx hb d_law_385 (lv_at hl 4 rfl) ?_
        refine lv_iconst (v := nI 1) hx hb d_law_387 (by decide) ?_
        refine lv_iadd hx hb d_law_388 ?_
        refine tp_i (nI (5 * t + 1)) (nI_add _ _) ?_
        refine va_sld hx hb hX hbl hbA hS (vp_in_nI (show 5 * t + 1 < L by omega) (by omega)) d_law_389 ?_
        refine tp_i (xs (5 * t + 1)) (by rw [nI_clamp (by omega)]) ?_
        refine lv_aload_n hx hb d_law_390 rfl (lv_at hl 0 rfl) ?_
        refine lv_iload hx hb d_law_391 (lv_at hl 4 rfl) ?_
        refine lv_iconst (v := nI 2) hx hb d_law_393 (by decide) ?_
        refine lv_iadd hx hb d_law_394 ?_
        refine tp_i (nI (5 * t + 2)) (nI_add _ _) ?_
        refine va_sld hx hb hX hbl hbA hS (vp_in_nI (show 5 * t + 2 < L by omega) (by omega)) d_law_395 ?_
        refine tp_i (xs (5 * t + 2)) (by rw [nI_clamp (by omega)]) ?_
        have hP8 : va_P (dC, dI) vwCl ((wC q u ++ [(oa, .inl (ca_cJ q, 1, .inr (.inl f)))]) ++ wM q2 v) H := by rw [List.append_assoc]; exact hP
        have hD8 : va_D (fun z9 : Nat => s.heap.size ≤ z9) ((wC q u ++ [(oa, .inl (ca_cJ q, 1, .inr (.inl f)))]) ++ wM q2 v) := by rw [List.append_assoc]; exact hD
        refine cR_i (va_runV (As := [.int (xs (5 * t + 1)), .int (xs (5 * t + 2))]) (rest := [.int r1]) ⟨hx, hb, hml, hown, hts⟩ (c_M_row l dC dI q2 v _ (xs (5 * t + 1)) (xs (5 * t + 2)) hu) (cwV 2 hts (good_tbl (good_V iw_557 iw_558 iw_559 iw_5 gg_M_row)) rfl rfl rfl (by decide +kernel) ⟨Nat.le_of_ble_eq_true rfl, Nat.le_of_ble_eq_true rfl⟩) (pv_Q [.int (xs (5 * t + 1)), .int (xs (5 * t + 2))] hN hKM hP8.R hD8.R (ci := 4) (q0 := 0) rfl rfl) rfl rfl hl.1 rfl (lv_room (Nat.le_of_ble_eq_true rfl)) d_law_396 ⟨(show cells + 0 ≤ 1060 by omega), (show slots + 0 ≤ 17260 by omega)⟩) hP8 hD8 hS hA (fun r2 z2 H locs hM2 hP hD hS => ?_)
        rw [List.append_assoc] at hP hD
        have e9 : CR u z2 := by rw [hM2.2]; exact CR_th hCR
        refine lv_icmp_eq (tgt := 578) hx hb d_law_399 (by decide) (fun c_5 => ?_) (fun c_5 => ?_)
        · exact back u z2 f _ _ _ _ _ e9 (by omega) (by omega) (by omega) hP hD hS (lv_sub hl [0, 1, 2, 3, 4] rfl)
        · exact absurd ((by rw [hC1, hM2.1]; exact st_row hCR (xs (5 * t + 1)) (xs (5 * t + 2)))) c_5
      · refine lv_tableIn (off := 365) (tgt := 404) hx hb d_law_39 (by decide) (by decide) (by decide) (by decide) ?_
        refine lv_aload_n hx hb d_law_404 rfl (lv_at hl 1 rfl) ?_
        refine cL_i (va_runV (As := []) (rest := []) ⟨hx, hb, hml, hown, hts⟩ (c_S_check l dC dI q u _  qR qS qV qe1 qe2 qb1 qb2) (cwV 0 hts (good_tbl (good_V iw_294 iw_295 iw_296 iw_1 gg_S_check)) rfl rfl rfl (by decide +kernel) ⟨Nat.le_of_ble_eq_true rfl, Nat.le_of_ble_eq_true rfl⟩) (pv_Q [] hN hKC hP.L hD.L (ci := 3) (q0 := 0) rfl rfl) rfl rfl hl.1 rfl (lv_room (Nat.le_of_ble_eq_true rfl)) d_law_405 ⟨(show cells + 0 ≤ 1060 by omega), (show slots + 0 ≤ 17260 by omega)⟩) hP hD hS hA (fun r1 z1 H locs hC1 hP hD hS => ?_)
        refine lv_pop hx hb d_law_408 rfl ?_
        refine lv_aload_n hx hb d_law_409 rfl (lv_at hl 2 rfl) ?_
        have hP8 : va_P (dC, dI) vwCl ((wC q z1 ++ [(oa, .inl (ca_cJ q, 1, .inr (.inl f)))]) ++ wM q2 v) H := by rw [List.append_assoc]; exact hP
        have hD8 : va_D (fun z9 : Nat => s.heap.size ≤ z9) ((wC q z1 ++ [(oa, .inl (ca_cJ q, 1, .inr (.inl f)))]) ++ wM q2 v) := by rw [List.append_assoc]; exact hD
        refine cR_i (va_runV (As := []) (rest := []) ⟨hx, hb, hml, hown, hts⟩ (c_M_check l dC dI q2 v _  hu) (cwV 0 hts (good_tbl (good_V iw_564 iw_565 iw_566 iw_5 gg_M_check)) rfl rfl rfl (by decide +kernel) ⟨Nat.le_of_ble_eq_true rfl, Nat.le_of_ble_eq_true rfl⟩) (pv_Q [] hN hKM hP8.R hD8.R (ci := 4) (q0 := 0) rfl rfl) rfl rfl hl.1 rfl (lv_room (Nat.le_of_ble_eq_true rfl)) d_law_410 ⟨(show cells + 0 + 0 ≤ 1060 by omega), (show slots + 0 + 0 ≤ 17260 by omega)⟩) hP8 hD8 hS hA (fun r2 z2 H locs hM2 hP hD hS => ?_)
        rw [List.append_assoc] at hP hD
        obtain ⟨L9, W9, f9, rfl⟩ := hC1
        obtain ⟨w9, rfl⟩ := hM2
        refine lv_pop hx hb d_law_413 rfl ?_
        refine lv_goto (tgt := 578) hx hb d_law_414 (by decide) ?_
        exact back (k_s_fls (k_s_ways (k_s_lett u L9) W9) f9) (m_s_th (m_s_wet v w9) 0) f _ _ _ _ _ (st_check hCR) (by omega) (by omega) (by omega) hP hD hS (lv_sub hl [0, 1, 2, 3, 4] rfl)
      · refine lv_tableIn (off := 378) (tgt := 417) hx hb d_law_39 (by decide) (by decide) (by decide) (by decide) ?_
        refine lv_aload_n hx hb d_law_417 rfl (lv_at hl 1 rfl) ?_
        refine lv_aload_n hx hb d_law_418 rfl (lv_at hl 0 rfl) ?_
        refine lv_iload hx hb d_law_419 (lv_at hl 4 rfl) ?_
        refine lv_iconst (v := nI 1) hx hb d_law_421 (by decide) ?_
        refine lv_iadd hx hb d_law_422 ?_
        refine tp_i (nI (5 * t + 1)) (nI_add _ _) ?_
        refine va_sld hx hb hX hbl hbA hS (vp_in_nI (show 5 * t + 1 < L by omega) (by omega)) d_law_423 ?_
        refine tp_i (xs (5 * t + 1)) (by rw [nI_clamp (by omega)]) ?_
        refine lv_aload_n hx hb d_law_424 rfl (lv_at hl 0 rfl) ?_
        refine lv_iload hx hb d_law_425 (lv_at hl 4 rfl) ?_
        refine lv_iconst (v := nI 2) hx hb d_law_427 (by decide) ?_
        refine lv_iadd hx hb d_law_428 ?_
        refine tp_i (nI (5 * t + 2)) (nI_add _ _) ?_
        refine va_sld hx hb hX hbl hbA hS (vp_in_nI (show 5 * t + 2 < L by omega) (by omega)) d_law_429 ?_
        refine tp_i (xs (5 * t + 2)) (by rw [nI_clamp (by omega)]) ?_
        refine lv_if_eq (tgt := 437) hx hb d_law_430 (by decide) (fun c_6 => ?_) (fun c_6 => ?_)
        · refine lv_iconst (v := nI 0) hx hb d_law_437 (by decide) ?_
          refine lv_aload_n hx hb d_law_438 rfl (lv_at hl 3 rfl) ?_
          refine W.eq (g2 := F0 m 439 ls (.ref oa :: .int (bI false) :: .int (xs (5 * t + 1)) :: .ref (ca_o q) :: [])) rfl ?_
          have hP8 : va_P (dC, dI) vwCl (wL q oa (u, f) ++ wM q2 v) H := hP
          have hD8 : va_D (fun z9 : Nat => s.heap.size ≤ z9) (wL q oa (u, f) ++ wM q2 v) := hD
          refine cL_i (run_SW (n := 4) (As := [.ref (ca_o q), .int (xs (5 * t + 1)), .int (bI false), .ref oa]) (rest := []) ⟨hx, hb, hml, hown, hts⟩ (c_L_set l hfl dC dI q u _ oa f (xs (5 * t + 1)) false v (fun i hi => CP_set hCR.1 (by rw [← hCR.1.2.2.1]; exact hi) rfl rfl rfl rfl rfl rfl rfl rfl rfl rfl rfl rfl rfl rfl rfl rfl rfl rfl rfl rfl rfl rfl (MOk_op hu)) qV qR qb1 qb2 (fun j hj => by rw [hCR.2.1.1] at hj; rw [(hCR.2.1.2.1 j hj).1]; exact (hCR.2.1.2.2.2.2.2 j hj).1) (fun x y h1 h2 => by rw [hCR.2.1.1] at h2; rw [(hCR.2.1.2.1 x (by omega)).1, (hCR.2.1.2.1 y h2).1]; exact hCR.2.1.2.2.2.2.1 x y h1 h2)) (good_tbl gg_L_set) rfl rfl rfl (hts _ (gT_good iw_330).1) (hts _ (gT_good iw_331).1) (hts _ (gT_good iw_0).1) (by decide +kernel) ⟨Nat.le_of_ble_eq_true rfl, Nat.le_of_ble_eq_true rfl⟩ (pl_Q [.ref (ca_o q), .int (xs (5 * t + 1)), .int (bI false), .ref oa] hN hTW hH0 hKC hP8.L hD8.L) rfl rfl hl.1 rfl (lv_room (Nat.le_of_ble_eq_true rfl)) d_law_439 ⟨(show cells + 1 ≤ 1060 by omega), (show slots + 6 ≤ 17260 by omega)⟩) hP8 hD8 hS hA (fun r1 z1 H locs hC1 hP hD hS => ?_)
          obtain ⟨zc, zf⟩ := z1
          have hP : va_P (dC, dI) vwCl (wC q zc ++ ([(oa, .inl (ca_cJ q, 1, .inr (.inl zf)))] ++ wM q2 v)) H := hP
          have hD : va_D (fun z9 : Nat => s.heap.size ≤ z9) (wC q zc ++ ([(oa, .inl (ca_cJ q, 1, .inr (.inl zf)))] ++ wM q2 v)) := hD
          refine lv_istore (lv' := [(5, .int r1), (0, .ref b), (1, .ref (ca_o q)), (2, .ref (ma_o q2)), (3, .ref oa), (4, .int (nI (5 * t)))]) hx hb d_law_442 hl (by decide) rfl (fun ls hl => ?_)
          refine lv_aload_n hx hb d_law_444 rfl (lv_at hl 3 rfl) ?_
          refine lv_aload_n hx hb d_law_445 rfl (lv_at hl 1 rfl) ?_
          refine lv_iload hx hb d_law_446 (lv_at hl 5 rfl) ?_
          refine lv_iconst (v := nI 1) hx hb d_law_448 (by decide) ?_
          refine lv_iadd hx hb d_law_449 ?_
          refine tp_i (nI (5 * t + 1)) (nI_add _ _) ?_
          refine va_sld hx hb hX hbl hbA hS (vp_in_nI (show 5 * t + 1 < L by omega) (by omega)) d_law_450 ?_
          refine tp_i (xs (5 * t + 1)) (by rw [nI_clamp (by omega)]) ?_
          refine lv_aload_n hx hb d_law_451 rfl (lv_at hl 1 rfl) ?_
          refine lv_iload hx hb d_law_452 (lv_at hl 5 rfl) ?_
          refine lv_iconst (v := nI 2) hx hb d_law_454 (by decide) ?_
          refine lv_iadd hx hb d_law_455 ?_
          refine tp_i (nI (5 * t + 2)) (nI_add _ _) ?_
          refine va_sld hx hb hX hbl hbA hS (vp_in_nI (show 5 * t + 2 < L by omega) (by omega)) d_law_456 ?_
          refine tp_i (xs (5 * t + 2)) (by rw [nI_clamp (by omega)]) ?_
          refine lv_if_eq (tgt := 464) hx hb d_law_457 (by decide) (fun c_7 => ?_) (fun c_7 => ?_)
          · refine lv_iconst (v := nI 0) hx hb d_law_464 (by decide) ?_
            refine W.eq (g2 := F0 m 465 ls (.int (bI false) :: .int (xs (5 * t + 1)) :: .ref (ma_o q2) :: [])) rfl ?_
            have hP8 : va_P (dC, dI) vwCl ((wC q zc ++ [(oa, .inl (ca_cJ q, 1, .inr (.inl zf)))]) ++ wM q2 v) H := by rw [List.append_assoc]; exact hP
            have hD8 : va_D (fun z9 : Nat => s.heap.size ≤ z9) ((wC q zc ++ [(oa, .inl (ca_cJ q, 1, .inr (.inl zf)))]) ++ wM q2 v) := by rw [List.append_assoc]; exact hD
            refine cR_i (va_runV (As := [.int (xs (5 * t + 1)), .int (bI false)]) (rest := []) ⟨hx, hb, hml, hown, hts⟩ (c_M_set l dC dI q2 v _ (xs (5 * t + 1)) false hu) (cwV 2 hts (good_tbl (good_V iw_572 iw_573 iw_574 iw_5 gg_M_set)) rfl rfl rfl (by decide +kernel) ⟨Nat.le_of_ble_eq_true rfl, Nat.le_of_ble_eq_true rfl⟩) (pv_Q [.int (xs (5 * t + 1)), .int (bI false)] hN hKM hP8.R hD8.R (ci := 4) (q0 := 0) rfl rfl) rfl rfl hl.1 rfl (lv_room (Nat.le_of_ble_eq_true rfl)) d_law_465 ⟨(show cells + 1 + 0 ≤ 1060 by omega), (show slots + 6 + 0 ≤ 17260 by omega)⟩) hP8 hD8 hS hA (fun r2 z2 H locs hM2 hP hD hS => ?_)
            rw [List.append_assoc] at hP hD
            have e9 := st_set hCR hC1 hM2
            refine lv_istore (lv' := [(6, .int r2), (5, .int r1), (0, .ref b), (1, .ref (ca_o q)), (2, .ref (ma_o q2)), (3, .ref oa), (4, .int (nI (5 * t)))]) hx hb d_law_468 hl (by decide) rfl (fun ls hl => ?_)
            refine lv_goto (tgt := 578) hx hb d_law_470 (by decide) ?_
            exact back zc z2 zf _ _ _ _ _ e9.2.1 (by omega) (by omega) (by omega) hP hD hS (lv_sub hl [2, 3, 4, 5, 6] rfl)
          · exact absurd c_6 c_7
        · refine lv_iconst (v := nI 1) hx hb d_law_433 (by decide) ?_
          refine lv_goto (tgt := 438) hx hb d_law_434 (by decide) ?_
          refine lv_aload_n hx hb d_law_438 rfl (lv_at hl 3 rfl) ?_
          refine W.eq (g2 := F0 m 439 ls (.ref oa :: .int (bI true) :: .int (xs (5 * t + 1)) :: .ref (ca_o q) :: [])) rfl ?_
          have hP8 : va_P (dC, dI) vwCl (wL q oa (u, f) ++ wM q2 v) H := hP
          have hD8 : va_D (fun z9 : Nat => s.heap.size ≤ z9) (wL q oa (u, f) ++ wM q2 v) := hD
          refine cL_i (run_SW (n := 4) (As := [.ref (ca_o q), .int (xs (5 * t + 1)), .int (bI true), .ref oa]) (rest := []) ⟨hx, hb, hml, hown, hts⟩ (c_L_set l hfl dC dI q u _ oa f (xs (5 * t + 1)) true v (fun i hi => CP_set hCR.1 (by rw [← hCR.1.2.2.1]; exact hi) rfl rfl rfl rfl rfl rfl rfl rfl rfl rfl rfl rfl rfl rfl rfl rfl rfl rfl rfl rfl rfl rfl (MOk_op hu)) qV qR qb1 qb2 (fun j hj => by rw [hCR.2.1.1] at hj; rw [(hCR.2.1.2.1 j hj).1]; exact (hCR.2.1.2.2.2.2.2 j hj).1) (fun x y h1 h2 => by rw [hCR.2.1.1] at h2; rw [(hCR.2.1.2.1 x (by omega)).1, (hCR.2.1.2.1 y h2).1]; exact hCR.2.1.2.2.2.2.1 x y h1 h2)) (good_tbl gg_L_set) rfl rfl rfl (hts _ (gT_good iw_330).1) (hts _ (gT_good iw_331).1) (hts _ (gT_good iw_0).1) (by decide +kernel) ⟨Nat.le_of_ble_eq_true rfl, Nat.le_of_ble_eq_true rfl⟩ (pl_Q [.ref (ca_o q), .int (xs (5 * t + 1)), .int (bI true), .ref oa] hN hTW hH0 hKC hP8.L hD8.L) rfl rfl hl.1 rfl (lv_room (Nat.le_of_ble_eq_true rfl)) d_law_439 ⟨(show cells + 1 ≤ 1060 by omega), (show slots + 6 ≤ 17260 by omega)⟩) hP8 hD8 hS hA (fun r1 z1 H locs hC1 hP hD hS => ?_)
          obtain ⟨zc, zf⟩ := z1
          have hP : va_P (dC, dI) vwCl (wC q zc ++ ([(oa, .inl (ca_cJ q, 1, .inr (.inl zf)))] ++ wM q2 v)) H := hP
          have hD : va_D (fun z9 : Nat => s.heap.size ≤ z9) (wC q zc ++ ([(oa, .inl (ca_cJ q, 1, .inr (.inl zf)))] ++ wM q2 v)) := hD
          refine lv_istore (lv' := [(5, .int r1), (0, .ref b), (1, .ref (ca_o q)), (2, .ref (ma_o q2)), (3, .ref oa), (4, .int (nI (5 * t)))]) hx hb d_law_442 hl (by decide) rfl (fun ls hl => ?_)
          refine lv_aload_n hx hb d_law_444 rfl (lv_at hl 3 rfl) ?_
          refine lv_aload_n hx hb d_law_445 rfl (lv_at hl 1 rfl) ?_
          refine lv_iload hx hb d_law_446 (lv_at hl 5 rfl) ?_
          refine lv_iconst (v := nI 1) hx hb d_law_448 (by decide) ?_
          refine lv_iadd hx hb d_law_449 ?_
          refine tp_i (nI (5 * t + 1)) (nI_add _ _) ?_
          refine va_sld hx hb hX hbl hbA hS (vp_in_nI (show 5 * t + 1 < L by omega) (by omega)) d_law_450 ?_
          refine tp_i (xs (5 * t + 1)) (by rw [nI_clamp (by omega)]) ?_
          refine lv_aload_n hx hb d_law_451 rfl (lv_at hl 1 rfl) ?_
          refine lv_iload hx hb d_law_452 (lv_at hl 5 rfl) ?_
          refine lv_iconst (v := nI 2) hx hb d_law_454 (by decide) ?_
          refine lv_iadd hx hb d_law_455 ?_
          refine tp_i (nI (5 * t + 2)) (nI_add _ _) ?_
          refine va_sld hx hb hX hbl hbA hS (vp_in_nI (show 5 * t + 2 < L by omega) (by omega)) d_law_456 ?_
          refine tp_i (xs (5 * t + 2)) (by rw [nI_clamp (by omega)]) ?_
          refine lv_if_eq (tgt := 464) hx hb d_law_457 (by decide) (fun c_8 => ?_) (fun c_8 => ?_)
          · exact absurd c_8 c_6
          · refine lv_iconst (v := nI 1) hx hb d_law_460 (by decide) ?_
            refine lv_goto (tgt := 465) hx hb d_law_461 (by decide) ?_
            refine W.eq (g2 := F0 m 465 ls (.int (bI true) :: .int (xs (5 * t + 1)) :: .ref (ma_o q2) :: [])) rfl ?_
            have hP8 : va_P (dC, dI) vwCl ((wC q zc ++ [(oa, .inl (ca_cJ q, 1, .inr (.inl zf)))]) ++ wM q2 v) H := by rw [List.append_assoc]; exact hP
            have hD8 : va_D (fun z9 : Nat => s.heap.size ≤ z9) ((wC q zc ++ [(oa, .inl (ca_cJ q, 1, .inr (.inl zf)))]) ++ wM q2 v) := by rw [List.append_assoc]; exact hD
            refine cR_i (va_runV (As := [.int (xs (5 * t + 1)), .int (bI true)]) (rest := []) ⟨hx, hb, hml, hown, hts⟩ (c_M_set l dC dI q2 v _ (xs (5 * t + 1)) true hu) (cwV 2 hts (good_tbl (good_V iw_572 iw_573 iw_574 iw_5 gg_M_set)) rfl rfl rfl (by decide +kernel) ⟨Nat.le_of_ble_eq_true rfl, Nat.le_of_ble_eq_true rfl⟩) (pv_Q [.int (xs (5 * t + 1)), .int (bI true)] hN hKM hP8.R hD8.R (ci := 4) (q0 := 0) rfl rfl) rfl rfl hl.1 rfl (lv_room (Nat.le_of_ble_eq_true rfl)) d_law_465 ⟨(show cells + 1 + 0 ≤ 1060 by omega), (show slots + 6 + 0 ≤ 17260 by omega)⟩) hP8 hD8 hS hA (fun r2 z2 H locs hM2 hP hD hS => ?_)
            rw [List.append_assoc] at hP hD
            have e9 := st_set hCR hC1 hM2
            refine lv_istore (lv' := [(6, .int r2), (5, .int r1), (0, .ref b), (1, .ref (ca_o q)), (2, .ref (ma_o q2)), (3, .ref oa), (4, .int (nI (5 * t)))]) hx hb d_law_468 hl (by decide) rfl (fun ls hl => ?_)
            refine lv_goto (tgt := 578) hx hb d_law_470 (by decide) ?_
            exact back zc z2 zf _ _ _ _ _ e9.2.1 (by omega) (by omega) (by omega) hP hD hS (lv_sub hl [2, 3, 4, 5, 6] rfl)
      · refine lv_tableIn (off := 434) (tgt := 473) hx hb d_law_39 (by decide) (by decide) (by decide) (by decide) ?_
        refine lv_aload_n hx hb d_law_473 rfl (lv_at hl 1 rfl) ?_
        refine lv_aload_n hx hb d_law_474 rfl (lv_at hl 0 rfl) ?_
        refine lv_iload hx hb d_law_475 (lv_at hl 4 rfl) ?_
        refine lv_iconst (v := nI 1) hx hb d_law_477 (by decide) ?_
        refine lv_iadd hx hb d_law_478 ?_
        refine tp_i (nI (5 * t + 1)) (nI_add _ _) ?_
        refine va_sld hx hb hX hbl hbA hS (vp_in_nI (show 5 * t + 1 < L by omega) (by omega)) d_law_479 ?_
        refine tp_i (xs (5 * t + 1)) (by rw [nI_clamp (by omega)]) ?_
        refine lv_aload_n hx hb d_law_480 rfl (lv_at hl 0 rfl) ?_
        refine lv_iload hx hb d_law_481 (lv_at hl 4 rfl) ?_
        refine lv_iconst (v := nI 2) hx hb d_law_483 (by decide) ?_
        refine lv_iadd hx hb d_law_484 ?_
        refine tp_i (nI (5 * t + 2)) (nI_add _ _) ?_
        refine va_sld hx hb hX hbl hbA hS (vp_in_nI (show 5 * t + 2 < L by omega) (by omega)) d_law_485 ?_
        refine tp_i (xs (5 * t + 2)) (by rw [nI_clamp (by omega)]) ?_
        refine lv_if_eq (tgt := 493) hx hb d_law_486 (by decide) (fun c_9 => ?_) (fun c_9 => ?_)
        · refine lv_iconst (v := nI 0) hx hb d_law_493 (by decide) ?_
          refine lv_aload_n hx hb d_law_494 rfl (lv_at hl 3 rfl) ?_
          refine W.eq (g2 := F0 m 495 ls (.ref oa :: .int (bI false) :: .int (xs (5 * t + 1)) :: .ref (ca_o q) :: [])) rfl ?_
          have hP8 : va_P (dC, dI) vwCl (wL q oa (u, f) ++ wM q2 v) H := hP
          have hD8 : va_D (fun z9 : Nat => s.heap.size ≤ z9) (wL q oa (u, f) ++ wM q2 v) := hD
          refine cL_i (run_SW (n := 4) (As := [.ref (ca_o q), .int (xs (5 * t + 1)), .int (bI false), .ref oa]) (rest := []) ⟨hx, hb, hml, hown, hts⟩ (c_L_unsure l hfl dC dI q u _ oa f (xs (5 * t + 1)) false qV) (good_tbl gg_L_unsure) rfl rfl rfl (hts _ (gT_good iw_423).1) (hts _ (gT_good iw_424).1) (hts _ (gT_good iw_0).1) (by decide +kernel) ⟨Nat.le_of_ble_eq_true rfl, Nat.le_of_ble_eq_true rfl⟩ (pl_Q [.ref (ca_o q), .int (xs (5 * t + 1)), .int (bI false), .ref oa] hN hTW hH0 hKC hP8.L hD8.L) rfl rfl hl.1 rfl (lv_room (Nat.le_of_ble_eq_true rfl)) d_law_495 ⟨(show cells + 1 ≤ 1060 by omega), (show slots + 6 ≤ 17260 by omega)⟩) hP8 hD8 hS hA (fun r1 z1 H locs hC1 hP hD hS => ?_)
          obtain ⟨zc, zf⟩ := z1
          have hP : va_P (dC, dI) vwCl (wC q zc ++ ([(oa, .inl (ca_cJ q, 1, .inr (.inl zf)))] ++ wM q2 v)) H := hP
          have hD : va_D (fun z9 : Nat => s.heap.size ≤ z9) (wC q zc ++ ([(oa, .inl (ca_cJ q, 1, .inr (.inl zf)))] ++ wM q2 v)) := hD
          refine lv_istore (lv' := [(5, .int r1), (0, .ref b), (1, .ref (ca_o q)), (2, .ref (ma_o q2)), (3, .ref oa), (4, .int (nI (5 * t)))]) hx hb d_law_498 hl (by decide) rfl (fun ls hl => ?_)
          refine lv_aload_n hx hb d_law_500 rfl (lv_at hl 3 rfl) ?_
          refine lv_aload_n hx hb d_law_501 rfl (lv_at hl 1 rfl) ?_
          refine lv_iload hx hb d_law_502 (lv_at hl 5 rfl) ?_
          refine lv_iconst (v := nI 1) hx hb d_law_504 (by decide) ?_
          refine lv_iadd hx hb d_law_505 ?_
          refine tp_i (nI (5 * t + 1)) (nI_add _ _) ?_
          refine va_sld hx hb hX hbl hbA hS (vp_in_nI (show 5 * t + 1 < L by omega) (by omega)) d_law_506 ?_
          refine tp_i (xs (5 * t + 1)) (by rw [nI_clamp (by omega)]) ?_
          refine lv_aload_n hx hb d_law_507 rfl (lv_at hl 1 rfl) ?_
          refine lv_iload hx hb d_law_508 (lv_at hl 5 rfl) ?_
          refine lv_iconst (v := nI 2) hx hb d_law_510 (by decide) ?_
          refine lv_iadd hx hb d_law_511 ?_
          refine tp_i (nI (5 * t + 2)) (nI_add _ _) ?_
          refine va_sld hx hb hX hbl hbA hS (vp_in_nI (show 5 * t + 2 < L by omega) (by omega)) d_law_512 ?_
          refine tp_i (xs (5 * t + 2)) (by rw [nI_clamp (by omega)]) ?_
          refine lv_if_eq (tgt := 520) hx hb d_law_513 (by decide) (fun c_10 => ?_) (fun c_10 => ?_)
          · refine lv_iconst (v := nI 0) hx hb d_law_520 (by decide) ?_
            refine W.eq (g2 := F0 m 521 ls (.int (bI false) :: .int (xs (5 * t + 1)) :: .ref (ma_o q2) :: [])) rfl ?_
            have hP8 : va_P (dC, dI) vwCl ((wC q zc ++ [(oa, .inl (ca_cJ q, 1, .inr (.inl zf)))]) ++ wM q2 v) H := by rw [List.append_assoc]; exact hP
            have hD8 : va_D (fun z9 : Nat => s.heap.size ≤ z9) ((wC q zc ++ [(oa, .inl (ca_cJ q, 1, .inr (.inl zf)))]) ++ wM q2 v) := by rw [List.append_assoc]; exact hD
            refine cR_i (va_runV (As := [.int (xs (5 * t + 1)), .int (bI false)]) (rest := []) ⟨hx, hb, hml, hown, hts⟩ (c_M_unsure l dC dI q2 v _ (xs (5 * t + 1)) false hu) (cwV 2 hts (good_tbl (good_V iw_576 iw_577 iw_578 iw_5 gg_M_unsure)) rfl rfl rfl (by decide +kernel) ⟨Nat.le_of_ble_eq_true rfl, Nat.le_of_ble_eq_true rfl⟩) (pv_Q [.int (xs (5 * t + 1)), .int (bI false)] hN hKM hP8.R hD8.R (ci := 4) (q0 := 0) rfl rfl) rfl rfl hl.1 rfl (lv_room (Nat.le_of_ble_eq_true rfl)) d_law_521 ⟨(show cells + 1 + 0 ≤ 1060 by omega), (show slots + 6 + 0 ≤ 17260 by omega)⟩) hP8 hD8 hS hA (fun r2 z2 H locs hM2 hP hD hS => ?_)
            rw [List.append_assoc] at hP hD
            have e9 := st_unsure hCR hC1
            rw [← hM2.2] at e9
            refine lv_istore (lv' := [(6, .int r2), (5, .int r1), (0, .ref b), (1, .ref (ca_o q)), (2, .ref (ma_o q2)), (3, .ref oa), (4, .int (nI (5 * t)))]) hx hb d_law_524 hl (by decide) rfl (fun ls hl => ?_)
            refine lv_goto (tgt := 578) hx hb d_law_526 (by decide) ?_
            exact back zc z2 zf _ _ _ _ _ e9.2.1 (by omega) (by omega) (by omega) hP hD hS (lv_sub hl [2, 3, 4, 5, 6] rfl)
          · exact absurd c_9 c_10
        · refine lv_iconst (v := nI 1) hx hb d_law_489 (by decide) ?_
          refine lv_goto (tgt := 494) hx hb d_law_490 (by decide) ?_
          refine lv_aload_n hx hb d_law_494 rfl (lv_at hl 3 rfl) ?_
          refine W.eq (g2 := F0 m 495 ls (.ref oa :: .int (bI true) :: .int (xs (5 * t + 1)) :: .ref (ca_o q) :: [])) rfl ?_
          have hP8 : va_P (dC, dI) vwCl (wL q oa (u, f) ++ wM q2 v) H := hP
          have hD8 : va_D (fun z9 : Nat => s.heap.size ≤ z9) (wL q oa (u, f) ++ wM q2 v) := hD
          refine cL_i (run_SW (n := 4) (As := [.ref (ca_o q), .int (xs (5 * t + 1)), .int (bI true), .ref oa]) (rest := []) ⟨hx, hb, hml, hown, hts⟩ (c_L_unsure l hfl dC dI q u _ oa f (xs (5 * t + 1)) true qV) (good_tbl gg_L_unsure) rfl rfl rfl (hts _ (gT_good iw_423).1) (hts _ (gT_good iw_424).1) (hts _ (gT_good iw_0).1) (by decide +kernel) ⟨Nat.le_of_ble_eq_true rfl, Nat.le_of_ble_eq_true rfl⟩ (pl_Q [.ref (ca_o q), .int (xs (5 * t + 1)), .int (bI true), .ref oa] hN hTW hH0 hKC hP8.L hD8.L) rfl rfl hl.1 rfl (lv_room (Nat.le_of_ble_eq_true rfl)) d_law_495 ⟨(show cells + 1 ≤ 1060 by omega), (show slots + 6 ≤ 17260 by omega)⟩) hP8 hD8 hS hA (fun r1 z1 H locs hC1 hP hD hS => ?_)
          obtain ⟨zc, zf⟩ := z1
          have hP : va_P (dC, dI) vwCl (wC q zc ++ ([(oa, .inl (ca_cJ q, 1, .inr (.inl zf)))] ++ wM q2 v)) H := hP
          have hD : va_D (fun z9 : Nat => s.heap.size ≤ z9) (wC q zc ++ ([(oa, .inl (ca_cJ q, 1, .inr (.inl zf)))] ++ wM q2 v)) := hD
          refine lv_istore (lv' := [(5, .int r1), (0, .ref b), (1, .ref (ca_o q)), (2, .ref (ma_o q2)), (3, .ref oa), (4, .int (nI (5 * t)))]) hx hb d_law_498 hl (by decide) rfl (fun ls hl => ?_)
          refine lv_aload_n hx hb d_law_500 rfl (lv_at hl 3 rfl) ?_
          refine lv_aload_n hx hb d_law_501 rfl (lv_at hl 1 rfl) ?_
          refine lv_iload hx hb d_law_502 (lv_at hl 5 rfl) ?_
          refine lv_iconst (v := nI 1) hx hb d_law_504 (by decide) ?_
          refine lv_iadd hx hb d_law_505 ?_
          refine tp_i (nI (5 * t + 1)) (nI_add _ _) ?_
          refine va_sld hx hb hX hbl hbA hS (vp_in_nI (show 5 * t + 1 < L by omega) (by omega)) d_law_506 ?_
          refine tp_i (xs (5 * t + 1)) (by rw [nI_clamp (by omega)]) ?_
          refine lv_aload_n hx hb d_law_507 rfl (lv_at hl 1 rfl) ?_
          refine lv_iload hx hb d_law_508 (lv_at hl 5 rfl) ?_
          refine lv_iconst (v := nI 2) hx hb d_law_510 (by decide) ?_
          refine lv_iadd hx hb d_law_511 ?_
          refine tp_i (nI (5 * t + 2)) (nI_add _ _) ?_
          refine va_sld hx hb hX hbl hbA hS (vp_in_nI (show 5 * t + 2 < L by omega) (by omega)) d_law_512 ?_
          refine tp_i (xs (5 * t + 2)) (by rw [nI_clamp (by omega)]) ?_
          refine lv_if_eq (tgt := 520) hx hb d_law_513 (by decide) (fun c_11 => ?_) (fun c_11 => ?_)
          · exact absurd c_11 c_9
          · refine lv_iconst (v := nI 1) hx hb d_law_516 (by decide) ?_
            refine lv_goto (tgt := 521) hx hb d_law_517 (by decide) ?_
            refine W.eq (g2 := F0 m 521 ls (.int (bI true) :: .int (xs (5 * t + 1)) :: .ref (ma_o q2) :: [])) rfl ?_
            have hP8 : va_P (dC, dI) vwCl ((wC q zc ++ [(oa, .inl (ca_cJ q, 1, .inr (.inl zf)))]) ++ wM q2 v) H := by rw [List.append_assoc]; exact hP
            have hD8 : va_D (fun z9 : Nat => s.heap.size ≤ z9) ((wC q zc ++ [(oa, .inl (ca_cJ q, 1, .inr (.inl zf)))]) ++ wM q2 v) := by rw [List.append_assoc]; exact hD
            refine cR_i (va_runV (As := [.int (xs (5 * t + 1)), .int (bI true)]) (rest := []) ⟨hx, hb, hml, hown, hts⟩ (c_M_unsure l dC dI q2 v _ (xs (5 * t + 1)) true hu) (cwV 2 hts (good_tbl (good_V iw_576 iw_577 iw_578 iw_5 gg_M_unsure)) rfl rfl rfl (by decide +kernel) ⟨Nat.le_of_ble_eq_true rfl, Nat.le_of_ble_eq_true rfl⟩) (pv_Q [.int (xs (5 * t + 1)), .int (bI true)] hN hKM hP8.R hD8.R (ci := 4) (q0 := 0) rfl rfl) rfl rfl hl.1 rfl (lv_room (Nat.le_of_ble_eq_true rfl)) d_law_521 ⟨(show cells + 1 + 0 ≤ 1060 by omega), (show slots + 6 + 0 ≤ 17260 by omega)⟩) hP8 hD8 hS hA (fun r2 z2 H locs hM2 hP hD hS => ?_)
            rw [List.append_assoc] at hP hD
            have e9 := st_unsure hCR hC1
            rw [← hM2.2] at e9
            refine lv_istore (lv' := [(6, .int r2), (5, .int r1), (0, .ref b), (1, .ref (ca_o q)), (2, .ref (ma_o q2)), (3, .ref oa), (4, .int (nI (5 * t)))]) hx hb d_law_524 hl (by decide) rfl (fun ls hl => ?_)
            refine lv_goto (tgt := 578) hx hb d_law_526 (by decide) ?_
            exact back zc z2 zf _ _ _ _ _ e9.2.1 (by omega) (by omega) (by omega) hP hD hS (lv_sub hl [2, 3, 4, 5, 6] rfl)
      · refine lv_tableIn (off := 490) (tgt := 529) hx hb d_law_39 (by decide) (by decide) (by decide) (by decide) ?_
        refine lv_aload_n hx hb d_law_529 rfl (lv_at hl 1 rfl) ?_
        refine vp_callSi (va_Run.run (va_runV (As := []) (rest := []) ⟨hx, hb, hml, hown, hts⟩ (c_S_tested l dC dI q u  ) (cwV 0 hts (good_tbl (good_V iw_307 iw_308 iw_309 iw_1 gg_S_tested)) rfl rfl rfl (by decide +kernel) ⟨Nat.le_of_ble_eq_true rfl, Nat.le_of_ble_eq_true rfl⟩) (pv_S [] hN hKC hP.L (ci := 3) (q0 := 0) rfl rfl) rfl rfl hl.1 rfl (lv_room (Nat.le_of_ble_eq_true rfl)) d_law_530 ⟨(show cells + 0 ≤ 1060 by omega), (show slots + 0 ≤ 17260 by omega)⟩)) (fun r1 hC1 => ?_)
        refine lv_pop hx hb d_law_533 rfl ?_
        refine lv_aload_n hx hb d_law_534 rfl (lv_at hl 2 rfl) ?_
        have hP8 : va_P (dC, dI) vwCl ((wC q u ++ [(oa, .inl (ca_cJ q, 1, .inr (.inl f)))]) ++ wM q2 v) H := by rw [List.append_assoc]; exact hP
        have hD8 : va_D (fun z9 : Nat => s.heap.size ≤ z9) ((wC q u ++ [(oa, .inl (ca_cJ q, 1, .inr (.inl f)))]) ++ wM q2 v) := by rw [List.append_assoc]; exact hD
        refine cR_i (va_runV (As := []) (rest := []) ⟨hx, hb, hml, hown, hts⟩ (c_M_tested l dC dI q2 v _  ) (cwV 0 hts (good_tbl (good_V iw_580 iw_581 iw_582 iw_5 gg_M_tested)) rfl rfl rfl (by decide +kernel) ⟨Nat.le_of_ble_eq_true rfl, Nat.le_of_ble_eq_true rfl⟩) (pv_Q [] hN hKM hP8.R hD8.R (ci := 4) (q0 := 0) rfl rfl) rfl rfl hl.1 rfl (lv_room (Nat.le_of_ble_eq_true rfl)) d_law_535 ⟨(show cells + 0 ≤ 1060 by omega), (show slots + 0 ≤ 17260 by omega)⟩) hP8 hD8 hS hA (fun r2 z2 H locs hM2 hP hD hS => ?_)
        rw [List.append_assoc] at hP hD
        have e9 : CR u z2 := by rw [hM2.2]; exact CR_th hCR
        refine lv_pop hx hb d_law_538 rfl ?_
        refine lv_goto (tgt := 578) hx hb d_law_539 (by decide) ?_
        exact back u z2 f _ _ _ _ _ e9 (by omega) (by omega) (by omega) hP hD hS (lv_sub hl [0, 1, 2, 3, 4] rfl)
      · refine lv_tableIn (off := 503) (tgt := 542) hx hb d_law_39 (by decide) (by decide) (by decide) (by decide) ?_
        refine lv_aload_n hx hb d_law_542 rfl (lv_at hl 1 rfl) ?_
        refine lv_aload_n hx hb d_law_543 rfl (lv_at hl 0 rfl) ?_
        refine lv_iload hx hb d_law_544 (lv_at hl 4 rfl) ?_
        refine lv_iconst (v := nI 1) hx hb d_law_546 (by decide) ?_
        refine lv_iadd hx hb d_law_547 ?_
        refine tp_i (nI (5 * t + 1)) (nI_add _ _) ?_
        refine va_sld hx hb hX hbl hbA hS (vp_in_nI (show 5 * t + 1 < L by omega) (by omega)) d_law_548 ?_
        refine tp_i (xs (5 * t + 1)) (by rw [nI_clamp (by omega)]) ?_
        refine cL_i (va_runV (As := [.int (xs (5 * t + 1))]) (rest := []) ⟨hx, hb, hml, hown, hts⟩ (c_S_drop l dC dI q u _ (xs (5 * t + 1)) qR) (cwV 1 hts (good_tbl (good_V iw_311 iw_312 iw_313 iw_1 gg_S_drop)) rfl rfl rfl (by decide +kernel) ⟨Nat.le_of_ble_eq_true rfl, Nat.le_of_ble_eq_true rfl⟩) (pv_Q [.int (xs (5 * t + 1))] hN hKC hP.L hD.L (ci := 3) (q0 := 0) rfl rfl) rfl rfl hl.1 rfl (lv_room (Nat.le_of_ble_eq_true rfl)) d_law_549 ⟨(show cells + 0 ≤ 1060 by omega), (show slots + 0 ≤ 17260 by omega)⟩) hP hD hS hA (fun r1 z1 H locs hC1 hP hD hS => ?_)
        refine lv_pop hx hb d_law_552 rfl ?_
        refine lv_aload_n hx hb d_law_553 rfl (lv_at hl 2 rfl) ?_
        refine lv_aload_n hx hb d_law_554 rfl (lv_at hl 0 rfl) ?_
        refine lv_iload hx hb d_law_555 (lv_at hl 4 rfl) ?_
        refine lv_iconst (v := nI 1) hx hb d_law_557 (by decide) ?_
        refine lv_iadd hx hb d_law_558 ?_
        refine tp_i (nI (5 * t + 1)) (nI_add _ _) ?_
        refine va_sld hx hb hX hbl hbA hS (vp_in_nI (show 5 * t + 1 < L by omega) (by omega)) d_law_559 ?_
        refine tp_i (xs (5 * t + 1)) (by rw [nI_clamp (by omega)]) ?_
        have hP8 : va_P (dC, dI) vwCl ((wC q z1 ++ [(oa, .inl (ca_cJ q, 1, .inr (.inl f)))]) ++ wM q2 v) H := by rw [List.append_assoc]; exact hP
        have hD8 : va_D (fun z9 : Nat => s.heap.size ≤ z9) ((wC q z1 ++ [(oa, .inl (ca_cJ q, 1, .inr (.inl f)))]) ++ wM q2 v) := by rw [List.append_assoc]; exact hD
        refine cR_i (va_runV (As := [.int (xs (5 * t + 1))]) (rest := []) ⟨hx, hb, hml, hown, hts⟩ (c_M_drop l dC dI q2 v _ (xs (5 * t + 1)) hu) (cwV 1 hts (good_tbl (good_V iw_584 iw_585 iw_586 iw_5 gg_M_drop)) rfl rfl rfl (by decide +kernel) ⟨Nat.le_of_ble_eq_true rfl, Nat.le_of_ble_eq_true rfl⟩) (pv_Q [.int (xs (5 * t + 1))] hN hKM hP8.R hD8.R (ci := 4) (q0 := 0) rfl rfl) rfl rfl hl.1 rfl (lv_room (Nat.le_of_ble_eq_true rfl)) d_law_560 ⟨(show cells + 0 + 0 ≤ 1060 by omega), (show slots + 0 + 0 ≤ 17260 by omega)⟩) hP8 hD8 hS hA (fun r2 z2 H locs hM2 hP hD hS => ?_)
        rw [List.append_assoc] at hP hD
        have e9 := st_drop hCR (xs (5 * t + 1))
        rw [← hC1.2, ← hM2.2] at e9
        refine lv_pop hx hb d_law_563 rfl ?_
        refine lv_goto (tgt := 578) hx hb d_law_564 (by decide) ?_
        exact back z1 z2 f _ _ _ _ _ e9.2 (by omega) (by omega) (by omega) hP hD hS (lv_sub hl [0, 1, 2, 3, 4] rfl)
      · refine lv_tableIn (off := 528) (tgt := 567) hx hb d_law_39 (by decide) (by decide) (by decide) (by decide) ?_
        refine lv_aload_n hx hb d_law_567 rfl (lv_at hl 1 rfl) ?_
        refine cL_v (va_runV (As := []) (rest := []) ⟨hx, hb, hml, hown, hts⟩ (c_S_clear l dC dI q u _  ) (cwV 0 hts (good_tbl (good_V iw_322 iw_323 iw_324 iw_1 gg_S_clear)) rfl rfl rfl (by decide +kernel) ⟨Nat.le_of_ble_eq_true rfl, Nat.le_of_ble_eq_true rfl⟩) (pv_Q [] hN hKC hP.L hD.L (ci := 3) (q0 := 0) rfl rfl) rfl rfl hl.1 rfl (lv_room (Nat.le_of_ble_eq_true rfl)) d_law_568 ⟨(show cells + 0 ≤ 1060 by omega), (show slots + 0 ≤ 17260 by omega)⟩) hP hD hS hA (fun z1 H locs hC1 hP hD hS => ?_)
        refine lv_aload_n hx hb d_law_571 rfl (lv_at hl 2 rfl) ?_
        have hP8 : va_P (dC, dI) vwCl ((wC q z1 ++ [(oa, .inl (ca_cJ q, 1, .inr (.inl f)))]) ++ wM q2 v) H := by rw [List.append_assoc]; exact hP
        have hD8 : va_D (fun z9 : Nat => s.heap.size ≤ z9) ((wC q z1 ++ [(oa, .inl (ca_cJ q, 1, .inr (.inl f)))]) ++ wM q2 v) := by rw [List.append_assoc]; exact hD
        refine cR_v (va_runV (As := []) (rest := []) ⟨hx, hb, hml, hown, hts⟩ (c_M_clear l dC dI q2 v _  ) (cwV 0 hts (good_tbl (good_V iw_588 iw_589 iw_590 iw_5 gg_M_clear)) rfl rfl rfl (by decide +kernel) ⟨Nat.le_of_ble_eq_true rfl, Nat.le_of_ble_eq_true rfl⟩) (pv_Q [] hN hKM hP8.R hD8.R (ci := 4) (q0 := 0) rfl rfl) rfl rfl hl.1 rfl (lv_room (Nat.le_of_ble_eq_true rfl)) d_law_572 ⟨(show cells + 0 + 0 ≤ 1060 by omega), (show slots + 0 + 0 ≤ 17260 by omega)⟩) hP8 hD8 hS hA (fun z2 H locs hM2 hP hD hS => ?_)
        rw [List.append_assoc] at hP hD
        obtain ⟨g9, h9, k1, k2, rfl⟩ := hC1
        obtain ⟨g8, k3, rfl⟩ := hM2
        refine lv_goto (tgt := 578) hx hb d_law_575 (by decide) ?_
        exact back _ _ f _ _ _ _ _ (st_clear hCR k1 k2 k3) (by omega) (by omega) (by omega) hP hD hS (lv_sub hl [0, 1, 2, 3, 4] rfl)
      · refine lv_tableOut (tgt := 578) hx hb d_law_39 (Or.inr (by decide)) (by decide) ?_
        exact back u v f _ _ _ _ _ hCR (by omega) (by omega) (by omega) hP hD hS (lv_sub hl [0, 1, 2, 3, 4] rfl)
      · refine lv_tableOut (tgt := 578) hx hb d_law_39 (Or.inr (by decide)) (by decide) ?_
        exact back u v f _ _ _ _ _ hCR (by omega) (by omega) (by omega) hP hD hS (lv_sub hl [0, 1, 2, 3, 4] rfl)
