theorem z_freeF {A0 : Nat → Prop} {cs rs full : va_W} {H0 H : Heap} {locs : List Loc} (hp : (cs ++ rs).Perm full) (hD : va_D A0 full) (hS : va_S A0 H0 H locs) (hA : ∀ q, H0.size ≤ q → A0 q) : ∀ q, va_A cs H.size q → A0 q := by
  intro q h
  rcases h with ⟨k, e, h⟩ | h
  · obtain ⟨j, hj⟩ := List.getElem?_of_mem (hp.mem_iff.mp (List.mem_append_left rs (List.mem_of_getElem? h)))
    exact hD.2 j (q, e) hj
  · exact hA q (Nat.le_trans hS.1 h)
theorem z_slc (sl : zSL) (a : Int32) : (vp_in a 4 → sl a.toNatClampNeg = none) ∨ (vp_in a 4 ∧ ∃ ln len, sl a.toNatClampNeg = some (ln, len)) := by
  rcases e : sl a.toNatClampNeg with _ | ⟨ln, len⟩
  · exact Or.inl (fun _ => rfl)
  · rcases Classical.em (vp_in a 4) with h | h
    · exact Or.inr ⟨h, ln, len, rfl⟩
    · exact Or.inl (fun q => absurd q h)
theorem z_slc2 (sl : zSL) (a b : Int32) : (vp_in a 4 → vp_in b 4 → sl a.toNatClampNeg = none ∨ sl b.toNatClampNeg = none) ∨ (vp_in a 4 ∧ vp_in b 4 ∧ b.toNatClampNeg = a.toNatClampNeg ∧ ∃ ln len, sl a.toNatClampNeg = some (ln, len)) ∨ (vp_in a 4 ∧ vp_in b 4 ∧ ¬ b.toNatClampNeg = a.toNatClampNeg ∧ ∃ ln len lm lem, sl a.toNatClampNeg = some (ln, len) ∧ sl b.toNatClampNeg = some (lm, lem)) := by
  rcases z_slc sl a with h | ⟨ha, ln, len, ea⟩
  · exact Or.inl (fun q _ => Or.inl (h q))
  · rcases z_slc sl b with h | ⟨hb, lm, lem, eb⟩
    · exact Or.inl (fun _ q => Or.inr (h q))
    · by_cases e : b.toNatClampNeg = a.toNatClampNeg
      · exact Or.inr (Or.inl ⟨ha, hb, e, ln, len, ea⟩)
      · exact Or.inr (Or.inr ⟨ha, hb, e, ln, len, lm, lem, ea, eb⟩)
theorem z_shc (a b d : Int32) : ¬ (((vp_in a 4 ∧ vp_in b 3) ∧ d ≤ 24) ∧ 0 ≤ d) ∨ (vp_in a 4 ∧ vp_in b 3 ∧ ∃ u : Nat, u ≤ 24 ∧ d = nI u) := by
  rcases Classical.em (((vp_in a 4 ∧ vp_in b 3) ∧ d ≤ 24) ∧ 0 ≤ d) with h | h
  · obtain ⟨u, hu, e⟩ := z_n24 h.2 h.1.2
    exact Or.inr ⟨h.1.1.1, h.1.1.2, u, hu, e⟩
  · exact Or.inl h
set_option maxHeartbeats 4000000 in
set_option maxRecDepth 100000 in
theorem law_0 {p : Program} {l : Launch} {e : Env} {s : State} {m : MethodId} {below : List Frame} {meth : Method} {c : Code} {b L : Nat} {xs : Nat → Int32} (C0 : lw_At p s m meth c b L xs) {A : Nat → Prop} (hAe : A = fun q : Nat => s.heap.size ≤ q) (Z : gZ) (kA vA wA : Nat) (hK : va_K Z.1 vwCl (gT Z) s) (hN : gN Z s) (hG : gS kA vA A s) (hG2 : gW wA A s) {x0 m0 tn : Nat} {kp : Int32} {sl : zSL} {im : zIM} {st : spT} {xw mw : va_W} (hX : zX Z x0 tn kp sl im st xw) (hM : zM Z m0 tn kp sl im st mw) {j ce sc : Nat} (hok : zIv st tn (10000 * j)) (hjL : j + 6 ≤ L) (hL : L ≤ 3072) (hce : ce + 2 ≤ 600000) (hsc : sc + 26 ≤ 7302250) (kk : ∀ (tn : Nat) (kp : Int32) (sl : zSL) (im : zIM) (st : spT) (xw mw : va_W) (H : Heap) (locs : List Loc) (ls : Array Slot), zX Z x0 tn kp sl im st xw → zM Z m0 tn kp sl im st mw → zIv st tn (10000 * (j + 6)) → va_P Z.1 vwCl (xw ++ mw) H → va_D A (xw ++ mw) → va_S A s.heap H locs → lv_has ls 4 [(0, .ref b), (1, .ref x0), (2, .ref m0), (3, .int (nI j))] → W p l e room_1 s m #[Value.ref b] below meth c H locs (ce + 2) (sc + 26) (lw_Z below #[Value.ref b] s) (F0 m 1053 ls [])) {H : Heap} {locs : List Loc} {ls : Array Slot} (hP : va_P Z.1 vwCl (xw ++ mw) H) (hD : va_D A (xw ++ mw)) (hS : va_S A s.heap H locs) (hl : lv_has ls 4 [(0, .ref b), (1, .ref x0), (2, .ref m0), (3, .int (nI j))]) : W p l e room_1 s m #[Value.ref b] below meth c H locs (ce) (sc) (lw_Z below #[Value.ref b] s) (F0 m 156 ls []) := by
  obtain ⟨hx, hb, hr, hml, hown0, hts0, hX0, hbl, hlocks, hgv⟩ := id C0
  have hown : s.vm.findClass RL = some m.cls := hown0
  have hts : ∀ w ∈ wsL_law, w.before #[Value.ref b] s = true := fun w h => hts0 w (wsL_law_in w h)
  have hA : ∀ q : Nat, s.heap.size ≤ q → A q := by rw [hAe]; exact fun _ h => h
  have hbA : ¬ A b := by rw [hAe]; exact Nat.not_le.mpr hbl
  refine lv_aload_n hx hb dL_law_156 rfl (lv_at hl 1 rfl) ?_
  refine lv_aload_n hx hb dL_law_157 rfl (lv_at hl 0 rfl) ?_
  refine lv_iload_n hx hb dL_law_158 rfl (lv_at hl 3 rfl) ?_
  refine lv_iconst (v := 1) hx hb dL_law_159 (by decide) ?_
  refine lv_iadd hx hb dL_law_160 ?_
  refine lv_topi (fun f_1 ef_1 => ?_)
  obtain rfl : nI (j + 1) = f_1 := (ef_1.trans (nI_add j 1)).symm
  refine va_sld hx hb hX0 hbl hbA hS (vp_in_nI (by omega) (by omega)) dL_law_161 ?_
  refine lv_aload_n hx hb dL_law_162 rfl (lv_at hl 0 rfl) ?_
  refine lv_iload_n hx hb dL_law_163 rfl (lv_at hl 3 rfl) ?_
  refine lv_iconst (v := 2) hx hb dL_law_164 (by decide) ?_
  refine lv_iadd hx hb dL_law_165 ?_
  refine lv_topi (fun f_2 ef_2 => ?_)
  obtain rfl : nI (j + 2) = f_2 := (ef_2.trans (nI_add j 2)).symm
  refine va_sld hx hb hX0 hbl hbA hS (vp_in_nI (by omega) (by omega)) dL_law_166 ?_
  have hPf := z_Pp ((List.Perm.refl (xw ++ mw))).symm hP
  have hDf := z_Dp ((List.Perm.refl (xw ++ mw))).symm hD
  have hPc := z_P0 hPf
  have hDc := z_D0 hDf
  have hFc := z_freeF (cs := xw) (rs := mw) (List.Perm.refl (xw ++ mw)) hD hS hA
  obtain ⟨kx, fsx, hkx⟩ := zX_cell hX
  refine va_calli (va_runV (As := [.int (xs (nI (j + 1)).toNatClampNeg), .int (xs (nI (j + 2)).toNatClampNeg)]) (rest := []) ⟨hx, hb, hml, hown, hts⟩ (cx_X8_person l Z H.size x0 tn kp sl im st _ hok (by omega) kA vA wA (xs (nI (j + 1)).toNatClampNeg) (xs (nI (j + 2)).toNatClampNeg) xw hX ) (cwV 2 hts gL_law_X8_person rfl rfl rfl (by decide +kernel) ⟨Nat.le_of_ble_eq_true rfl, Nat.le_of_ble_eq_true rfl⟩) ⟨fun a U g mk q => by obtain ⟨q0, q1, qP, qK, qD, qN, qG, qW⟩ := q; exact ⟨q0, q1, qP, va_K.moved (u := U) (U := U.calling g mk a) (Vm.Alike.refl U.vm) qK, qD, z_Nc (u := U) (U := U.calling g mk a) rfl qN, z_Gc (u := U) (U := U.calling g mk a) rfl rfl qG, z_Wc (u := U) (U := U.calling g mk a) rfl rfl qW⟩, va_recv hK hPc (ci := 8) rfl hkx, fun U hU hW => ⟨rfl, by rw [hU], by rw [hU]; exact hPc, va_K.moved hW.alike hK, hDc.weaken (fun _ _ _ _ => trivial), z_N hW hN, z_G hW hG hS hU hFc, z_W hW hG2 hS hU hFc⟩⟩ rfl rfl hl.1 rfl (lv_room (Nat.le_of_ble_eq_true rfl)) dL_law_167 ⟨show ce + 0 ≤ 600000 by omega, show sc + 0 ≤ 7302250 by omega⟩) hS (fun q _ h => hFc q h) hFc (fun r_1 u0 t9 H1 locs ht hvm hw hB hz1 hk1 hS => ?_)
  obtain ⟨hX, ha0⟩ := hw
  obtain ⟨hP1, hD1⟩ := hB
  rw [ht] at hP1
  have hj9 := z_joinF (cs := xw) (rs := mw) (full := xw ++ mw) (List.Perm.refl (xw ++ mw)) hP hD hk1 hFc hP1 hD1
  have hP := z_Pp (List.perm_append_comm (l₁ := mw) (l₂ := u0)) hj9.1
  have hD := z_Dp (List.perm_append_comm (l₁ := mw) (l₂ := u0)) hj9.2
  clear hPc hDc hPf hDf hP1 hD1 hj9 hk1 hz1 hFc ht hvm hkx
  generalize H1 = H at hP hS ⊢
  refine W.widen (k := ce) (n := sc) (by omega) (by omega) ?_
  refine lv_pop hx hb dL_law_170 rfl ?_
  refine lv_aload_n hx hb dL_law_171 rfl (lv_at hl 2 rfl) ?_
  refine lv_aload_n hx hb dL_law_172 rfl (lv_at hl 0 rfl) ?_
  refine lv_iload_n hx hb dL_law_173 rfl (lv_at hl 3 rfl) ?_
  refine lv_iconst (v := 1) hx hb dL_law_174 (by decide) ?_
  refine lv_iadd hx hb dL_law_175 ?_
  refine lv_topi (fun f_3 ef_3 => ?_)
  obtain rfl : nI (j + 1) = f_3 := (ef_3.trans (nI_add j 1)).symm
  refine va_sld hx hb hX0 hbl hbA hS (vp_in_nI (by omega) (by omega)) dL_law_176 ?_
  refine lv_aload_n hx hb dL_law_177 rfl (lv_at hl 0 rfl) ?_
  refine lv_iload_n hx hb dL_law_178 rfl (lv_at hl 3 rfl) ?_
  refine lv_iconst (v := 2) hx hb dL_law_179 (by decide) ?_
  refine lv_iadd hx hb dL_law_180 ?_
  refine lv_topi (fun f_4 ef_4 => ?_)
  obtain rfl : nI (j + 2) = f_4 := (ef_4.trans (nI_add j 2)).symm
  refine va_sld hx hb hX0 hbl hbA hS (vp_in_nI (by omega) (by omega)) dL_law_181 ?_
  have hPf := z_Pp ((List.perm_append_comm (l₁ := mw) (l₂ := u0))).symm hP
  have hDf := z_Dp ((List.perm_append_comm (l₁ := mw) (l₂ := u0))).symm hD
  have hPc := z_P0 hPf
  have hDc := z_D0 hDf
  have hFc := z_freeF (cs := mw) (rs := u0) (List.perm_append_comm (l₁ := mw) (l₂ := u0)) hD hS hA
  obtain ⟨kx, fsx, hkx⟩ := zM_cell hM
  refine va_calli (va_runV (As := [.int (xs (nI (j + 1)).toNatClampNeg), .int (xs (nI (j + 2)).toNatClampNeg)]) (rest := []) ⟨hx, hb, hml, hown, hts⟩ (cm_person l Z H.size m0 tn kp sl im st _ hok (by omega) (xs (nI (j + 1)).toNatClampNeg) (xs (nI (j + 2)).toNatClampNeg) mw hM) (cwV 2 hts gL_law_X9_person rfl rfl rfl (by decide +kernel) ⟨Nat.le_of_ble_eq_true rfl, Nat.le_of_ble_eq_true rfl⟩) ⟨fun a U g mk q => by obtain ⟨q0, q1, qP, qK, qD⟩ := q; exact ⟨q0, q1, qP, va_K.moved (u := U) (U := U.calling g mk a) (Vm.Alike.refl U.vm) qK, qD⟩, va_recv hK hPc (ci := 9) rfl hkx, fun U hU hW => ⟨rfl, by rw [hU], by rw [hU]; exact hPc, va_K.moved hW.alike hK, hDc.weaken (fun _ _ _ _ => trivial)⟩⟩ rfl rfl hl.1 rfl (lv_room (Nat.le_of_ble_eq_true rfl)) dL_law_182 ⟨show ce + 0 ≤ 600000 by omega, show sc + 0 ≤ 7302250 by omega⟩) hS (fun q _ h => hFc q h) hFc (fun r_2 u1 t9 H1 locs ht hvm hw hB hz1 hk1 hS => ?_)
  obtain ⟨hM, ha1⟩ := hw
  obtain ⟨hP1, hD1⟩ := hB
  rw [ht] at hP1
  have hj9 := z_joinF (cs := mw) (rs := u0) (full := u0 ++ mw) (List.perm_append_comm (l₁ := mw) (l₂ := u0)) hP hD hk1 hFc hP1 hD1
  have hP := hj9.1
  have hD := hj9.2
  clear hPc hDc hPf hDf hP1 hD1 hj9 hk1 hz1 hFc ht hvm hkx
  generalize H1 = H at hP hS ⊢
  refine W.widen (k := ce) (n := sc) (by omega) (by omega) ?_
  refine lv_pop hx hb dL_law_185 rfl ?_
  refine lv_goto (tgt := 1053) hx hb dL_law_186 (by decide) ?_
  refine W.widen (k := ce + 2) (n := sc + 26) (by omega) (by omega) ?_
  exact kk _ _ _ _ _ _ _ H locs ls hX hM (zIv_mono (iv_person hok) (by omega)) hP hD hS (lv_sub hl [0, 1, 2, 3] rfl)
set_option maxHeartbeats 4000000 in
set_option maxRecDepth 100000 in
theorem law_1 {p : Program} {l : Launch} {e : Env} {s : State} {m : MethodId} {below : List Frame} {meth : Method} {c : Code} {b L : Nat} {xs : Nat → Int32} (C0 : lw_At p s m meth c b L xs) {A : Nat → Prop} (hAe : A = fun q : Nat => s.heap.size ≤ q) (Z : gZ) (kA vA wA : Nat) (hK : va_K Z.1 vwCl (gT Z) s) (hN : gN Z s) (hG : gS kA vA A s) (hG2 : gW wA A s) {x0 m0 tn : Nat} {kp : Int32} {sl : zSL} {im : zIM} {st : spT} {xw mw : va_W} (hX : zX Z x0 tn kp sl im st xw) (hM : zM Z m0 tn kp sl im st mw) {j ce sc : Nat} (hok : zIv st tn (10000 * j)) (hjL : j + 6 ≤ L) (hL : L ≤ 3072) (hce : ce + 2 ≤ 600000) (hsc : sc + 26 ≤ 7302250) (kk : ∀ (tn : Nat) (kp : Int32) (sl : zSL) (im : zIM) (st : spT) (xw mw : va_W) (H : Heap) (locs : List Loc) (ls : Array Slot), zX Z x0 tn kp sl im st xw → zM Z m0 tn kp sl im st mw → zIv st tn (10000 * (j + 6)) → va_P Z.1 vwCl (xw ++ mw) H → va_D A (xw ++ mw) → va_S A s.heap H locs → lv_has ls 4 [(0, .ref b), (1, .ref x0), (2, .ref m0), (3, .int (nI j))] → W p l e room_1 s m #[Value.ref b] below meth c H locs (ce + 2) (sc + 26) (lw_Z below #[Value.ref b] s) (F0 m 1053 ls [])) {H : Heap} {locs : List Loc} {ls : Array Slot} (hP : va_P Z.1 vwCl (xw ++ mw) H) (hD : va_D A (xw ++ mw)) (hS : va_S A s.heap H locs) (hl : lv_has ls 4 [(0, .ref b), (1, .ref x0), (2, .ref m0), (3, .int (nI j))]) : W p l e room_1 s m #[Value.ref b] below meth c H locs (ce) (sc) (lw_Z below #[Value.ref b] s) (F0 m 189 ls []) := by
  obtain ⟨hx, hb, hr, hml, hown0, hts0, hX0, hbl, hlocks, hgv⟩ := id C0
  have hown : s.vm.findClass RL = some m.cls := hown0
  have hts : ∀ w ∈ wsL_law, w.before #[Value.ref b] s = true := fun w h => hts0 w (wsL_law_in w h)
  have hA : ∀ q : Nat, s.heap.size ≤ q → A q := by rw [hAe]; exact fun _ h => h
  have hbA : ¬ A b := by rw [hAe]; exact Nat.not_le.mpr hbl
  refine lv_aload_n hx hb dL_law_189 rfl (lv_at hl 1 rfl) ?_
  refine lv_aload_n hx hb dL_law_190 rfl (lv_at hl 0 rfl) ?_
  refine lv_iload_n hx hb dL_law_191 rfl (lv_at hl 3 rfl) ?_
  refine lv_iconst (v := 1) hx hb dL_law_192 (by decide) ?_
  refine lv_iadd hx hb dL_law_193 ?_
  refine lv_topi (fun f_1 ef_1 => ?_)
  obtain rfl : nI (j + 1) = f_1 := (ef_1.trans (nI_add j 1)).symm
  refine va_sld hx hb hX0 hbl hbA hS (vp_in_nI (by omega) (by omega)) dL_law_194 ?_
  refine lv_aload_n hx hb dL_law_195 rfl (lv_at hl 0 rfl) ?_
  refine lv_iload_n hx hb dL_law_196 rfl (lv_at hl 3 rfl) ?_
  refine lv_iconst (v := 2) hx hb dL_law_197 (by decide) ?_
  refine lv_iadd hx hb dL_law_198 ?_
  refine lv_topi (fun f_2 ef_2 => ?_)
  obtain rfl : nI (j + 2) = f_2 := (ef_2.trans (nI_add j 2)).symm
  refine va_sld hx hb hX0 hbl hbA hS (vp_in_nI (by omega) (by omega)) dL_law_199 ?_
  have hPf := z_Pp ((List.Perm.refl (xw ++ mw))).symm hP
  have hDf := z_Dp ((List.Perm.refl (xw ++ mw))).symm hD
  have hPc := z_P0 hPf
  have hDc := z_D0 hDf
  have hFc := z_freeF (cs := xw) (rs := mw) (List.Perm.refl (xw ++ mw)) hD hS hA
  obtain ⟨kx, fsx, hkx⟩ := zX_cell hX
  refine va_calli (va_runV (As := [.int (xs (nI (j + 1)).toNatClampNeg), .int (xs (nI (j + 2)).toNatClampNeg)]) (rest := []) ⟨hx, hb, hml, hown, hts⟩ (cx_X8_set l Z H.size x0 tn kp sl im st _ hok (by omega) kA vA wA (xs (nI (j + 1)).toNatClampNeg) (xs (nI (j + 2)).toNatClampNeg) xw hX ) (cwV 2 hts gL_law_X8_set rfl rfl rfl (by decide +kernel) ⟨Nat.le_of_ble_eq_true rfl, Nat.le_of_ble_eq_true rfl⟩) ⟨fun a U g mk q => by obtain ⟨q0, q1, qP, qK, qD, qN, qG, qW⟩ := q; exact ⟨q0, q1, qP, va_K.moved (u := U) (U := U.calling g mk a) (Vm.Alike.refl U.vm) qK, qD, z_Nc (u := U) (U := U.calling g mk a) rfl qN, z_Gc (u := U) (U := U.calling g mk a) rfl rfl qG, z_Wc (u := U) (U := U.calling g mk a) rfl rfl qW⟩, va_recv hK hPc (ci := 8) rfl hkx, fun U hU hW => ⟨rfl, by rw [hU], by rw [hU]; exact hPc, va_K.moved hW.alike hK, hDc.weaken (fun _ _ _ _ => trivial), z_N hW hN, z_G hW hG hS hU hFc, z_W hW hG2 hS hU hFc⟩⟩ rfl rfl hl.1 rfl (lv_room (Nat.le_of_ble_eq_true rfl)) dL_law_200 ⟨show ce + 0 ≤ 600000 by omega, show sc + 0 ≤ 7302250 by omega⟩) hS (fun q _ h => hFc q h) hFc (fun r_1 u0 t9 H1 locs ht hvm hw hB hz1 hk1 hS => ?_)
  obtain ⟨hX, ha0⟩ := hw
  obtain ⟨hP1, hD1⟩ := hB
  rw [ht] at hP1
  have hj9 := z_joinF (cs := xw) (rs := mw) (full := xw ++ mw) (List.Perm.refl (xw ++ mw)) hP hD hk1 hFc hP1 hD1
  have hP := z_Pp (List.perm_append_comm (l₁ := mw) (l₂ := u0)) hj9.1
  have hD := z_Dp (List.perm_append_comm (l₁ := mw) (l₂ := u0)) hj9.2
  clear hPc hDc hPf hDf hP1 hD1 hj9 hk1 hz1 hFc ht hvm hkx
  generalize H1 = H at hP hS ⊢
  refine W.widen (k := ce) (n := sc) (by omega) (by omega) ?_
  refine lv_pop hx hb dL_law_203 rfl ?_
  refine lv_aload_n hx hb dL_law_204 rfl (lv_at hl 2 rfl) ?_
  refine lv_aload_n hx hb dL_law_205 rfl (lv_at hl 0 rfl) ?_
  refine lv_iload_n hx hb dL_law_206 rfl (lv_at hl 3 rfl) ?_
  refine lv_iconst (v := 1) hx hb dL_law_207 (by decide) ?_
  refine lv_iadd hx hb dL_law_208 ?_
  refine lv_topi (fun f_3 ef_3 => ?_)
  obtain rfl : nI (j + 1) = f_3 := (ef_3.trans (nI_add j 1)).symm
  refine va_sld hx hb hX0 hbl hbA hS (vp_in_nI (by omega) (by omega)) dL_law_209 ?_
  refine lv_aload_n hx hb dL_law_210 rfl (lv_at hl 0 rfl) ?_
  refine lv_iload_n hx hb dL_law_211 rfl (lv_at hl 3 rfl) ?_
  refine lv_iconst (v := 2) hx hb dL_law_212 (by decide) ?_
  refine lv_iadd hx hb dL_law_213 ?_
  refine lv_topi (fun f_4 ef_4 => ?_)
  obtain rfl : nI (j + 2) = f_4 := (ef_4.trans (nI_add j 2)).symm
  refine va_sld hx hb hX0 hbl hbA hS (vp_in_nI (by omega) (by omega)) dL_law_214 ?_
  have hPf := z_Pp ((List.perm_append_comm (l₁ := mw) (l₂ := u0))).symm hP
  have hDf := z_Dp ((List.perm_append_comm (l₁ := mw) (l₂ := u0))).symm hD
  have hPc := z_P0 hPf
  have hDc := z_D0 hDf
  have hFc := z_freeF (cs := mw) (rs := u0) (List.perm_append_comm (l₁ := mw) (l₂ := u0)) hD hS hA
  obtain ⟨kx, fsx, hkx⟩ := zM_cell hM
  refine va_calli (va_runV (As := [.int (xs (nI (j + 1)).toNatClampNeg), .int (xs (nI (j + 2)).toNatClampNeg)]) (rest := []) ⟨hx, hb, hml, hown, hts⟩ (cm_set l Z H.size m0 tn kp sl im st _ hok (by omega) (xs (nI (j + 1)).toNatClampNeg) (xs (nI (j + 2)).toNatClampNeg) mw hM) (cwV 2 hts gL_law_X9_set rfl rfl rfl (by decide +kernel) ⟨Nat.le_of_ble_eq_true rfl, Nat.le_of_ble_eq_true rfl⟩) ⟨fun a U g mk q => by obtain ⟨q0, q1, qP, qK, qD⟩ := q; exact ⟨q0, q1, qP, va_K.moved (u := U) (U := U.calling g mk a) (Vm.Alike.refl U.vm) qK, qD⟩, va_recv hK hPc (ci := 9) rfl hkx, fun U hU hW => ⟨rfl, by rw [hU], by rw [hU]; exact hPc, va_K.moved hW.alike hK, hDc.weaken (fun _ _ _ _ => trivial)⟩⟩ rfl rfl hl.1 rfl (lv_room (Nat.le_of_ble_eq_true rfl)) dL_law_215 ⟨show ce + 0 ≤ 600000 by omega, show sc + 0 ≤ 7302250 by omega⟩) hS (fun q _ h => hFc q h) hFc (fun r_2 u1 t9 H1 locs ht hvm hw hB hz1 hk1 hS => ?_)
  obtain ⟨hM, ha1⟩ := hw
  obtain ⟨hP1, hD1⟩ := hB
  rw [ht] at hP1
  have hj9 := z_joinF (cs := mw) (rs := u0) (full := u0 ++ mw) (List.perm_append_comm (l₁ := mw) (l₂ := u0)) hP hD hk1 hFc hP1 hD1
  have hP := hj9.1
  have hD := hj9.2
  clear hPc hDc hPf hDf hP1 hD1 hj9 hk1 hz1 hFc ht hvm hkx
  generalize H1 = H at hP hS ⊢
  refine W.widen (k := ce) (n := sc) (by omega) (by omega) ?_
  refine lv_pop hx hb dL_law_218 rfl ?_
  refine lv_goto (tgt := 1053) hx hb dL_law_219 (by decide) ?_
  refine W.widen (k := ce + 2) (n := sc + 26) (by omega) (by omega) ?_
  exact kk _ _ _ _ _ _ _ H locs ls hX hM (zIv_mono (iv_set hok) (by omega)) hP hD hS (lv_sub hl [0, 1, 2, 3] rfl)
set_option maxHeartbeats 4000000 in
set_option maxRecDepth 100000 in
theorem law_2 {p : Program} {l : Launch} {e : Env} {s : State} {m : MethodId} {below : List Frame} {meth : Method} {c : Code} {b L : Nat} {xs : Nat → Int32} (C0 : lw_At p s m meth c b L xs) {A : Nat → Prop} (hAe : A = fun q : Nat => s.heap.size ≤ q) (Z : gZ) (kA vA wA : Nat) (hK : va_K Z.1 vwCl (gT Z) s) (hN : gN Z s) (hG : gS kA vA A s) (hG2 : gW wA A s) {x0 m0 tn : Nat} {kp : Int32} {sl : zSL} {im : zIM} {st : spT} {xw mw : va_W} (hX : zX Z x0 tn kp sl im st xw) (hM : zM Z m0 tn kp sl im st mw) {j ce sc : Nat} (hok : zIv st tn (10000 * j)) (hjL : j + 6 ≤ L) (hL : L ≤ 3072) (hce : ce + 2 ≤ 600000) (hsc : sc + 26 ≤ 7302250) (kk : ∀ (tn : Nat) (kp : Int32) (sl : zSL) (im : zIM) (st : spT) (xw mw : va_W) (H : Heap) (locs : List Loc) (ls : Array Slot), zX Z x0 tn kp sl im st xw → zM Z m0 tn kp sl im st mw → zIv st tn (10000 * (j + 6)) → va_P Z.1 vwCl (xw ++ mw) H → va_D A (xw ++ mw) → va_S A s.heap H locs → lv_has ls 4 [(0, .ref b), (1, .ref x0), (2, .ref m0), (3, .int (nI j))] → W p l e room_1 s m #[Value.ref b] below meth c H locs (ce + 2) (sc + 26) (lw_Z below #[Value.ref b] s) (F0 m 1053 ls [])) {H : Heap} {locs : List Loc} {ls : Array Slot} (hP : va_P Z.1 vwCl (xw ++ mw) H) (hD : va_D A (xw ++ mw)) (hS : va_S A s.heap H locs) (hl : lv_has ls 4 [(0, .ref b), (1, .ref x0), (2, .ref m0), (3, .int (nI j))]) : W p l e room_1 s m #[Value.ref b] below meth c H locs (ce) (sc) (lw_Z below #[Value.ref b] s) (F0 m 222 ls []) := by
  obtain ⟨hx, hb, hr, hml, hown0, hts0, hX0, hbl, hlocks, hgv⟩ := id C0
  have hown : s.vm.findClass RL = some m.cls := hown0
  have hts : ∀ w ∈ wsL_law, w.before #[Value.ref b] s = true := fun w h => hts0 w (wsL_law_in w h)
  have hA : ∀ q : Nat, s.heap.size ≤ q → A q := by rw [hAe]; exact fun _ h => h
  have hbA : ¬ A b := by rw [hAe]; exact Nat.not_le.mpr hbl
  refine lv_aload_n hx hb dL_law_222 rfl (lv_at hl 1 rfl) ?_
  refine lv_aload_n hx hb dL_law_223 rfl (lv_at hl 0 rfl) ?_
  refine lv_iload_n hx hb dL_law_224 rfl (lv_at hl 3 rfl) ?_
  refine lv_iconst (v := 1) hx hb dL_law_225 (by decide) ?_
  refine lv_iadd hx hb dL_law_226 ?_
  refine lv_topi (fun f_1 ef_1 => ?_)
  obtain rfl : nI (j + 1) = f_1 := (ef_1.trans (nI_add j 1)).symm
  refine va_sld hx hb hX0 hbl hbA hS (vp_in_nI (by omega) (by omega)) dL_law_227 ?_
  refine lv_aload_n hx hb dL_law_228 rfl (lv_at hl 0 rfl) ?_
  refine lv_iload_n hx hb dL_law_229 rfl (lv_at hl 3 rfl) ?_
  refine lv_iconst (v := 2) hx hb dL_law_230 (by decide) ?_
  refine lv_iadd hx hb dL_law_231 ?_
  refine lv_topi (fun f_2 ef_2 => ?_)
  obtain rfl : nI (j + 2) = f_2 := (ef_2.trans (nI_add j 2)).symm
  refine va_sld hx hb hX0 hbl hbA hS (vp_in_nI (by omega) (by omega)) dL_law_232 ?_
  have hPf := z_Pp ((List.Perm.refl (xw ++ mw))).symm hP
  have hDf := z_Dp ((List.Perm.refl (xw ++ mw))).symm hD
  have hPc := z_P0 hPf
  have hDc := z_D0 hDf
  have hFc := z_freeF (cs := xw) (rs := mw) (List.Perm.refl (xw ++ mw)) hD hS hA
  obtain ⟨kx, fsx, hkx⟩ := zX_cell hX
  refine va_calli (va_runV (As := [.int (xs (nI (j + 1)).toNatClampNeg), .int (xs (nI (j + 2)).toNatClampNeg)]) (rest := []) ⟨hx, hb, hml, hown, hts⟩ (cx_X8_told l Z H.size x0 tn kp sl im st _ hok (by omega) kA vA wA (xs (nI (j + 1)).toNatClampNeg) (xs (nI (j + 2)).toNatClampNeg) xw hX ) (cwV 2 hts gL_law_X8_told rfl rfl rfl (by decide +kernel) ⟨Nat.le_of_ble_eq_true rfl, Nat.le_of_ble_eq_true rfl⟩) ⟨fun a U g mk q => by obtain ⟨q0, q1, qP, qK, qD, qN, qG, qW⟩ := q; exact ⟨q0, q1, qP, va_K.moved (u := U) (U := U.calling g mk a) (Vm.Alike.refl U.vm) qK, qD, z_Nc (u := U) (U := U.calling g mk a) rfl qN, z_Gc (u := U) (U := U.calling g mk a) rfl rfl qG, z_Wc (u := U) (U := U.calling g mk a) rfl rfl qW⟩, va_recv hK hPc (ci := 8) rfl hkx, fun U hU hW => ⟨rfl, by rw [hU], by rw [hU]; exact hPc, va_K.moved hW.alike hK, hDc.weaken (fun _ _ _ _ => trivial), z_N hW hN, z_G hW hG hS hU hFc, z_W hW hG2 hS hU hFc⟩⟩ rfl rfl hl.1 rfl (lv_room (Nat.le_of_ble_eq_true rfl)) dL_law_233 ⟨show ce + 0 ≤ 600000 by omega, show sc + 0 ≤ 7302250 by omega⟩) hS (fun q _ h => hFc q h) hFc (fun r_1 u0 t9 H1 locs ht hvm hw hB hz1 hk1 hS => ?_)
  obtain ⟨hX, ha0⟩ := hw
  obtain ⟨hP1, hD1⟩ := hB
  rw [ht] at hP1
  have hj9 := z_joinF (cs := xw) (rs := mw) (full := xw ++ mw) (List.Perm.refl (xw ++ mw)) hP hD hk1 hFc hP1 hD1
  have hP := z_Pp (List.perm_append_comm (l₁ := mw) (l₂ := u0)) hj9.1
  have hD := z_Dp (List.perm_append_comm (l₁ := mw) (l₂ := u0)) hj9.2
  clear hPc hDc hPf hDf hP1 hD1 hj9 hk1 hz1 hFc ht hvm hkx
  generalize H1 = H at hP hS ⊢
  refine W.widen (k := ce) (n := sc) (by omega) (by omega) ?_
  refine lv_pop hx hb dL_law_236 rfl ?_
  refine lv_aload_n hx hb dL_law_237 rfl (lv_at hl 2 rfl) ?_
  refine lv_aload_n hx hb dL_law_238 rfl (lv_at hl 0 rfl) ?_
  refine lv_iload_n hx hb dL_law_239 rfl (lv_at hl 3 rfl) ?_
  refine lv_iconst (v := 1) hx hb dL_law_240 (by decide) ?_
  refine lv_iadd hx hb dL_law_241 ?_
  refine lv_topi (fun f_3 ef_3 => ?_)
  obtain rfl : nI (j + 1) = f_3 := (ef_3.trans (nI_add j 1)).symm
  refine va_sld hx hb hX0 hbl hbA hS (vp_in_nI (by omega) (by omega)) dL_law_242 ?_
  refine lv_aload_n hx hb dL_law_243 rfl (lv_at hl 0 rfl) ?_
  refine lv_iload_n hx hb dL_law_244 rfl (lv_at hl 3 rfl) ?_
  refine lv_iconst (v := 2) hx hb dL_law_245 (by decide) ?_
  refine lv_iadd hx hb dL_law_246 ?_
  refine lv_topi (fun f_4 ef_4 => ?_)
  obtain rfl : nI (j + 2) = f_4 := (ef_4.trans (nI_add j 2)).symm
  refine va_sld hx hb hX0 hbl hbA hS (vp_in_nI (by omega) (by omega)) dL_law_247 ?_
  have hPf := z_Pp ((List.perm_append_comm (l₁ := mw) (l₂ := u0))).symm hP
  have hDf := z_Dp ((List.perm_append_comm (l₁ := mw) (l₂ := u0))).symm hD
  have hPc := z_P0 hPf
  have hDc := z_D0 hDf
  have hFc := z_freeF (cs := mw) (rs := u0) (List.perm_append_comm (l₁ := mw) (l₂ := u0)) hD hS hA
  obtain ⟨kx, fsx, hkx⟩ := zM_cell hM
  refine va_calli (va_runV (As := [.int (xs (nI (j + 1)).toNatClampNeg), .int (xs (nI (j + 2)).toNatClampNeg)]) (rest := []) ⟨hx, hb, hml, hown, hts⟩ (cm_told l Z H.size m0 tn kp sl im st _ hok (by omega) (xs (nI (j + 1)).toNatClampNeg) (xs (nI (j + 2)).toNatClampNeg) mw hM) (cwV 2 hts gL_law_X9_told rfl rfl rfl (by decide +kernel) ⟨Nat.le_of_ble_eq_true rfl, Nat.le_of_ble_eq_true rfl⟩) ⟨fun a U g mk q => by obtain ⟨q0, q1, qP, qK, qD⟩ := q; exact ⟨q0, q1, qP, va_K.moved (u := U) (U := U.calling g mk a) (Vm.Alike.refl U.vm) qK, qD⟩, va_recv hK hPc (ci := 9) rfl hkx, fun U hU hW => ⟨rfl, by rw [hU], by rw [hU]; exact hPc, va_K.moved hW.alike hK, hDc.weaken (fun _ _ _ _ => trivial)⟩⟩ rfl rfl hl.1 rfl (lv_room (Nat.le_of_ble_eq_true rfl)) dL_law_248 ⟨show ce + 0 ≤ 600000 by omega, show sc + 0 ≤ 7302250 by omega⟩) hS (fun q _ h => hFc q h) hFc (fun r_2 u1 t9 H1 locs ht hvm hw hB hz1 hk1 hS => ?_)
  obtain ⟨hM, ha1⟩ := hw
  obtain ⟨hP1, hD1⟩ := hB
  rw [ht] at hP1
  have hj9 := z_joinF (cs := mw) (rs := u0) (full := u0 ++ mw) (List.perm_append_comm (l₁ := mw) (l₂ := u0)) hP hD hk1 hFc hP1 hD1
  have hP := hj9.1
  have hD := hj9.2
  clear hPc hDc hPf hDf hP1 hD1 hj9 hk1 hz1 hFc ht hvm hkx
  generalize H1 = H at hP hS ⊢
  refine W.widen (k := ce) (n := sc) (by omega) (by omega) ?_
  refine lv_pop hx hb dL_law_251 rfl ?_
  refine lv_goto (tgt := 1053) hx hb dL_law_252 (by decide) ?_
  refine W.widen (k := ce + 2) (n := sc + 26) (by omega) (by omega) ?_
  exact kk _ _ _ _ _ _ _ H locs ls hX hM (zIv_mono (iv_same hok) (by omega)) hP hD hS (lv_sub hl [0, 1, 2, 3] rfl)
set_option maxHeartbeats 4000000 in
set_option maxRecDepth 100000 in
theorem law_3 {p : Program} {l : Launch} {e : Env} {s : State} {m : MethodId} {below : List Frame} {meth : Method} {c : Code} {b L : Nat} {xs : Nat → Int32} (C0 : lw_At p s m meth c b L xs) {A : Nat → Prop} (hAe : A = fun q : Nat => s.heap.size ≤ q) (Z : gZ) (kA vA wA : Nat) (hK : va_K Z.1 vwCl (gT Z) s) (hN : gN Z s) (hG : gS kA vA A s) (hG2 : gW wA A s) {x0 m0 tn : Nat} {kp : Int32} {sl : zSL} {im : zIM} {st : spT} {xw mw : va_W} (hX : zX Z x0 tn kp sl im st xw) (hM : zM Z m0 tn kp sl im st mw) {j ce sc : Nat} (hok : zIv st tn (10000 * j)) (hjL : j + 6 ≤ L) (hL : L ≤ 3072) (hce : ce + 2 ≤ 600000) (hsc : sc + 26 ≤ 7302250) (kk : ∀ (tn : Nat) (kp : Int32) (sl : zSL) (im : zIM) (st : spT) (xw mw : va_W) (H : Heap) (locs : List Loc) (ls : Array Slot), zX Z x0 tn kp sl im st xw → zM Z m0 tn kp sl im st mw → zIv st tn (10000 * (j + 6)) → va_P Z.1 vwCl (xw ++ mw) H → va_D A (xw ++ mw) → va_S A s.heap H locs → lv_has ls 4 [(0, .ref b), (1, .ref x0), (2, .ref m0), (3, .int (nI j))] → W p l e room_1 s m #[Value.ref b] below meth c H locs (ce + 2) (sc + 26) (lw_Z below #[Value.ref b] s) (F0 m 1053 ls [])) {H : Heap} {locs : List Loc} {ls : Array Slot} (hP : va_P Z.1 vwCl (xw ++ mw) H) (hD : va_D A (xw ++ mw)) (hS : va_S A s.heap H locs) (hl : lv_has ls 4 [(0, .ref b), (1, .ref x0), (2, .ref m0), (3, .int (nI j))]) : W p l e room_1 s m #[Value.ref b] below meth c H locs (ce) (sc) (lw_Z below #[Value.ref b] s) (F0 m 255 ls []) := by
  obtain ⟨hx, hb, hr, hml, hown0, hts0, hX0, hbl, hlocks, hgv⟩ := id C0
  have hown : s.vm.findClass RL = some m.cls := hown0
  have hts : ∀ w ∈ wsL_law, w.before #[Value.ref b] s = true := fun w h => hts0 w (wsL_law_in w h)
  have hA : ∀ q : Nat, s.heap.size ≤ q → A q := by rw [hAe]; exact fun _ h => h
  have hbA : ¬ A b := by rw [hAe]; exact Nat.not_le.mpr hbl
  refine lv_aload_n hx hb dL_law_255 rfl (lv_at hl 1 rfl) ?_
  refine lv_aload_n hx hb dL_law_256 rfl (lv_at hl 0 rfl) ?_
  refine lv_iload_n hx hb dL_law_257 rfl (lv_at hl 3 rfl) ?_
  refine lv_iconst (v := 1) hx hb dL_law_258 (by decide) ?_
  refine lv_iadd hx hb dL_law_259 ?_
  refine lv_topi (fun f_1 ef_1 => ?_)
  obtain rfl : nI (j + 1) = f_1 := (ef_1.trans (nI_add j 1)).symm
  refine va_sld hx hb hX0 hbl hbA hS (vp_in_nI (by omega) (by omega)) dL_law_260 ?_
  refine lv_aload_n hx hb dL_law_261 rfl (lv_at hl 0 rfl) ?_
  refine lv_iload_n hx hb dL_law_262 rfl (lv_at hl 3 rfl) ?_
  refine lv_iconst (v := 2) hx hb dL_law_263 (by decide) ?_
  refine lv_iadd hx hb dL_law_264 ?_
  refine lv_topi (fun f_2 ef_2 => ?_)
  obtain rfl : nI (j + 2) = f_2 := (ef_2.trans (nI_add j 2)).symm
  refine va_sld hx hb hX0 hbl hbA hS (vp_in_nI (by omega) (by omega)) dL_law_265 ?_
  refine lv_aload_n hx hb dL_law_266 rfl (lv_at hl 0 rfl) ?_
  refine lv_iload_n hx hb dL_law_267 rfl (lv_at hl 3 rfl) ?_
  refine lv_iconst (v := 3) hx hb dL_law_268 (by decide) ?_
  refine lv_iadd hx hb dL_law_269 ?_
  refine lv_topi (fun f_3 ef_3 => ?_)
  obtain rfl : nI (j + 3) = f_3 := (ef_3.trans (nI_add j 3)).symm
  refine va_sld hx hb hX0 hbl hbA hS (vp_in_nI (by omega) (by omega)) dL_law_270 ?_
  refine lv_if_eq (tgt := 278) hx hb dL_law_271 (by decide) (fun c_4 => ?_) (fun c_4 => ?_)
  · refine lv_iconst (v := 0) hx hb dL_law_278 (by decide) ?_
    have hPf := z_Pp ((List.Perm.refl (xw ++ mw))).symm hP
    have hDf := z_Dp ((List.Perm.refl (xw ++ mw))).symm hD
    have hPc := z_P0 hPf
    have hDc := z_D0 hDf
    have hFc := z_freeF (cs := xw) (rs := mw) (List.Perm.refl (xw ++ mw)) hD hS hA
    obtain ⟨kx, fsx, hkx⟩ := zX_cell hX
    refine va_calli (va_runV (As := [.int (xs (nI (j + 1)).toNatClampNeg), .int (xs (nI (j + 2)).toNatClampNeg), .int 0]) (rest := []) ⟨hx, hb, hml, hown, hts⟩ (cx_X8_knows l Z H.size x0 tn kp sl im st _ hok (by omega) kA vA wA (xs (nI (j + 1)).toNatClampNeg) (xs (nI (j + 2)).toNatClampNeg) 0 xw hX ) (cwV 3 hts gL_law_X8_knows rfl rfl rfl (by decide +kernel) ⟨Nat.le_of_ble_eq_true rfl, Nat.le_of_ble_eq_true rfl⟩) ⟨fun a U g mk q => by obtain ⟨q0, q1, qP, qK, qD, qN, qG, qW⟩ := q; exact ⟨q0, q1, qP, va_K.moved (u := U) (U := U.calling g mk a) (Vm.Alike.refl U.vm) qK, qD, z_Nc (u := U) (U := U.calling g mk a) rfl qN, z_Gc (u := U) (U := U.calling g mk a) rfl rfl qG, z_Wc (u := U) (U := U.calling g mk a) rfl rfl qW⟩, va_recv hK hPc (ci := 8) rfl hkx, fun U hU hW => ⟨rfl, by rw [hU], by rw [hU]; exact hPc, va_K.moved hW.alike hK, hDc.weaken (fun _ _ _ _ => trivial), z_N hW hN, z_G hW hG hS hU hFc, z_W hW hG2 hS hU hFc⟩⟩ rfl rfl hl.1 rfl (lv_room (Nat.le_of_ble_eq_true rfl)) dL_law_279 ⟨show ce + 0 ≤ 600000 by omega, show sc + 0 ≤ 7302250 by omega⟩) hS (fun q _ h => hFc q h) hFc (fun r_1 u0 t9 H1 locs ht hvm hw hB hz1 hk1 hS => ?_)
    obtain ⟨hX, ha0⟩ := hw
    obtain ⟨hP1, hD1⟩ := hB
    rw [ht] at hP1
    have hj9 := z_joinF (cs := xw) (rs := mw) (full := xw ++ mw) (List.Perm.refl (xw ++ mw)) hP hD hk1 hFc hP1 hD1
    have hP := z_Pp (List.perm_append_comm (l₁ := mw) (l₂ := u0)) hj9.1
    have hD := z_Dp (List.perm_append_comm (l₁ := mw) (l₂ := u0)) hj9.2
    clear hPc hDc hPf hDf hP1 hD1 hj9 hk1 hz1 hFc ht hvm hkx
    generalize H1 = H at hP hS ⊢
    refine W.widen (k := ce) (n := sc) (by omega) (by omega) ?_
    refine lv_pop hx hb dL_law_282 rfl ?_
    refine lv_aload_n hx hb dL_law_283 rfl (lv_at hl 2 rfl) ?_
    refine lv_aload_n hx hb dL_law_284 rfl (lv_at hl 0 rfl) ?_
    refine lv_iload_n hx hb dL_law_285 rfl (lv_at hl 3 rfl) ?_
    refine lv_iconst (v := 1) hx hb dL_law_286 (by decide) ?_
    refine lv_iadd hx hb dL_law_287 ?_
    refine lv_topi (fun f_5 ef_5 => ?_)
    obtain rfl : nI (j + 1) = f_5 := (ef_5.trans (nI_add j 1)).symm
    refine va_sld hx hb hX0 hbl hbA hS (vp_in_nI (by omega) (by omega)) dL_law_288 ?_
    refine lv_aload_n hx hb dL_law_289 rfl (lv_at hl 0 rfl) ?_
    refine lv_iload_n hx hb dL_law_290 rfl (lv_at hl 3 rfl) ?_
    refine lv_iconst (v := 2) hx hb dL_law_291 (by decide) ?_
    refine lv_iadd hx hb dL_law_292 ?_
    refine lv_topi (fun f_6 ef_6 => ?_)
    obtain rfl : nI (j + 2) = f_6 := (ef_6.trans (nI_add j 2)).symm
    refine va_sld hx hb hX0 hbl hbA hS (vp_in_nI (by omega) (by omega)) dL_law_293 ?_
    refine lv_aload_n hx hb dL_law_294 rfl (lv_at hl 0 rfl) ?_
    refine lv_iload_n hx hb dL_law_295 rfl (lv_at hl 3 rfl) ?_
    refine lv_iconst (v := 3) hx hb dL_law_296 (by decide) ?_
    refine lv_iadd hx hb dL_law_297 ?_
    refine lv_topi (fun f_7 ef_7 => ?_)
    obtain rfl : nI (j + 3) = f_7 := (ef_7.trans (nI_add j 3)).symm
    refine va_sld hx hb hX0 hbl hbA hS (vp_in_nI (by omega) (by omega)) dL_law_298 ?_
    refine lv_if_eq (tgt := 306) hx hb dL_law_299 (by decide) (fun _ => ?_) (fun c9 => absurd c_4 c9)
    refine lv_iconst (v := 0) hx hb dL_law_306 (by decide) ?_
    have hPf := z_Pp ((List.perm_append_comm (l₁ := mw) (l₂ := u0))).symm hP
    have hDf := z_Dp ((List.perm_append_comm (l₁ := mw) (l₂ := u0))).symm hD
    have hPc := z_P0 hPf
    have hDc := z_D0 hDf
    have hFc := z_freeF (cs := mw) (rs := u0) (List.perm_append_comm (l₁ := mw) (l₂ := u0)) hD hS hA
    obtain ⟨kx, fsx, hkx⟩ := zM_cell hM
    refine va_calli (va_runV (As := [.int (xs (nI (j + 1)).toNatClampNeg), .int (xs (nI (j + 2)).toNatClampNeg), .int 0]) (rest := []) ⟨hx, hb, hml, hown, hts⟩ (cm_knows l Z H.size m0 tn kp sl im st _ hok (by omega) (xs (nI (j + 1)).toNatClampNeg) (xs (nI (j + 2)).toNatClampNeg) 0 mw hM) (cwV 3 hts gL_law_X9_knows rfl rfl rfl (by decide +kernel) ⟨Nat.le_of_ble_eq_true rfl, Nat.le_of_ble_eq_true rfl⟩) ⟨fun a U g mk q => by obtain ⟨q0, q1, qP, qK, qD⟩ := q; exact ⟨q0, q1, qP, va_K.moved (u := U) (U := U.calling g mk a) (Vm.Alike.refl U.vm) qK, qD⟩, va_recv hK hPc (ci := 9) rfl hkx, fun U hU hW => ⟨rfl, by rw [hU], by rw [hU]; exact hPc, va_K.moved hW.alike hK, hDc.weaken (fun _ _ _ _ => trivial)⟩⟩ rfl rfl hl.1 rfl (lv_room (Nat.le_of_ble_eq_true rfl)) dL_law_307 ⟨show ce + 0 ≤ 600000 by omega, show sc + 0 ≤ 7302250 by omega⟩) hS (fun q _ h => hFc q h) hFc (fun r_2 u1 t9 H1 locs ht hvm hw hB hz1 hk1 hS => ?_)
    obtain ⟨hM, ha1⟩ := hw
    obtain ⟨hP1, hD1⟩ := hB
    rw [ht] at hP1
    have hj9 := z_joinF (cs := mw) (rs := u0) (full := u0 ++ mw) (List.perm_append_comm (l₁ := mw) (l₂ := u0)) hP hD hk1 hFc hP1 hD1
    have hP := hj9.1
    have hD := hj9.2
    clear hPc hDc hPf hDf hP1 hD1 hj9 hk1 hz1 hFc ht hvm hkx
    generalize H1 = H at hP hS ⊢
    refine W.widen (k := ce) (n := sc) (by omega) (by omega) ?_
    refine lv_pop hx hb dL_law_310 rfl ?_
    refine lv_goto (tgt := 1053) hx hb dL_law_311 (by decide) ?_
    refine W.widen (k := ce + 2) (n := sc + 26) (by omega) (by omega) ?_
    exact kk _ _ _ _ _ _ _ H locs ls hX hM (zIv_mono (iv_knows hok) (by omega)) hP hD hS (lv_sub hl [0, 1, 2, 3] rfl)
  · refine lv_iconst (v := 1) hx hb dL_law_274 (by decide) ?_
    refine lv_goto (tgt := 279) hx hb dL_law_275 (by decide) ?_
    have hPf := z_Pp ((List.Perm.refl (xw ++ mw))).symm hP
    have hDf := z_Dp ((List.Perm.refl (xw ++ mw))).symm hD
    have hPc := z_P0 hPf
    have hDc := z_D0 hDf
    have hFc := z_freeF (cs := xw) (rs := mw) (List.Perm.refl (xw ++ mw)) hD hS hA
    obtain ⟨kx, fsx, hkx⟩ := zX_cell hX
    refine va_calli (va_runV (As := [.int (xs (nI (j + 1)).toNatClampNeg), .int (xs (nI (j + 2)).toNatClampNeg), .int 1]) (rest := []) ⟨hx, hb, hml, hown, hts⟩ (cx_X8_knows l Z H.size x0 tn kp sl im st _ hok (by omega) kA vA wA (xs (nI (j + 1)).toNatClampNeg) (xs (nI (j + 2)).toNatClampNeg) 1 xw hX ) (cwV 3 hts gL_law_X8_knows rfl rfl rfl (by decide +kernel) ⟨Nat.le_of_ble_eq_true rfl, Nat.le_of_ble_eq_true rfl⟩) ⟨fun a U g mk q => by obtain ⟨q0, q1, qP, qK, qD, qN, qG, qW⟩ := q; exact ⟨q0, q1, qP, va_K.moved (u := U) (U := U.calling g mk a) (Vm.Alike.refl U.vm) qK, qD, z_Nc (u := U) (U := U.calling g mk a) rfl qN, z_Gc (u := U) (U := U.calling g mk a) rfl rfl qG, z_Wc (u := U) (U := U.calling g mk a) rfl rfl qW⟩, va_recv hK hPc (ci := 8) rfl hkx, fun U hU hW => ⟨rfl, by rw [hU], by rw [hU]; exact hPc, va_K.moved hW.alike hK, hDc.weaken (fun _ _ _ _ => trivial), z_N hW hN, z_G hW hG hS hU hFc, z_W hW hG2 hS hU hFc⟩⟩ rfl rfl hl.1 rfl (lv_room (Nat.le_of_ble_eq_true rfl)) dL_law_279 ⟨show ce + 0 ≤ 600000 by omega, show sc + 0 ≤ 7302250 by omega⟩) hS (fun q _ h => hFc q h) hFc (fun r_1 u0 t9 H1 locs ht hvm hw hB hz1 hk1 hS => ?_)
    obtain ⟨hX, ha0⟩ := hw
    obtain ⟨hP1, hD1⟩ := hB
    rw [ht] at hP1
    have hj9 := z_joinF (cs := xw) (rs := mw) (full := xw ++ mw) (List.Perm.refl (xw ++ mw)) hP hD hk1 hFc hP1 hD1
    have hP := z_Pp (List.perm_append_comm (l₁ := mw) (l₂ := u0)) hj9.1
    have hD := z_Dp (List.perm_append_comm (l₁ := mw) (l₂ := u0)) hj9.2
    clear hPc hDc hPf hDf hP1 hD1 hj9 hk1 hz1 hFc ht hvm hkx
    generalize H1 = H at hP hS ⊢
    refine W.widen (k := ce) (n := sc) (by omega) (by omega) ?_
    refine lv_pop hx hb dL_law_282 rfl ?_
    refine lv_aload_n hx hb dL_law_283 rfl (lv_at hl 2 rfl) ?_
    refine lv_aload_n hx hb dL_law_284 rfl (lv_at hl 0 rfl) ?_
    refine lv_iload_n hx hb dL_law_285 rfl (lv_at hl 3 rfl) ?_
    refine lv_iconst (v := 1) hx hb dL_law_286 (by decide) ?_
    refine lv_iadd hx hb dL_law_287 ?_
    refine lv_topi (fun f_8 ef_8 => ?_)
    obtain rfl : nI (j + 1) = f_8 := (ef_8.trans (nI_add j 1)).symm
    refine va_sld hx hb hX0 hbl hbA hS (vp_in_nI (by omega) (by omega)) dL_law_288 ?_
    refine lv_aload_n hx hb dL_law_289 rfl (lv_at hl 0 rfl) ?_
    refine lv_iload_n hx hb dL_law_290 rfl (lv_at hl 3 rfl) ?_
    refine lv_iconst (v := 2) hx hb dL_law_291 (by decide) ?_
    refine lv_iadd hx hb dL_law_292 ?_
    refine lv_topi (fun f_9 ef_9 => ?_)
    obtain rfl : nI (j + 2) = f_9 := (ef_9.trans (nI_add j 2)).symm
    refine va_sld hx hb hX0 hbl hbA hS (vp_in_nI (by omega) (by omega)) dL_law_293 ?_
    refine lv_aload_n hx hb dL_law_294 rfl (lv_at hl 0 rfl) ?_
    refine lv_iload_n hx hb dL_law_295 rfl (lv_at hl 3 rfl) ?_
    refine lv_iconst (v := 3) hx hb dL_law_296 (by decide) ?_
    refine lv_iadd hx hb dL_law_297 ?_
    refine lv_topi (fun f_10 ef_10 => ?_)
    obtain rfl : nI (j + 3) = f_10 := (ef_10.trans (nI_add j 3)).symm
    refine va_sld hx hb hX0 hbl hbA hS (vp_in_nI (by omega) (by omega)) dL_law_298 ?_
    refine lv_if_eq (tgt := 306) hx hb dL_law_299 (by decide) (fun c9 => absurd c9 c_4) (fun _ => ?_)
    refine lv_iconst (v := 1) hx hb dL_law_302 (by decide) ?_
    refine lv_goto (tgt := 307) hx hb dL_law_303 (by decide) ?_
    have hPf := z_Pp ((List.perm_append_comm (l₁ := mw) (l₂ := u0))).symm hP
    have hDf := z_Dp ((List.perm_append_comm (l₁ := mw) (l₂ := u0))).symm hD
    have hPc := z_P0 hPf
    have hDc := z_D0 hDf
    have hFc := z_freeF (cs := mw) (rs := u0) (List.perm_append_comm (l₁ := mw) (l₂ := u0)) hD hS hA
    obtain ⟨kx, fsx, hkx⟩ := zM_cell hM
    refine va_calli (va_runV (As := [.int (xs (nI (j + 1)).toNatClampNeg), .int (xs (nI (j + 2)).toNatClampNeg), .int 1]) (rest := []) ⟨hx, hb, hml, hown, hts⟩ (cm_knows l Z H.size m0 tn kp sl im st _ hok (by omega) (xs (nI (j + 1)).toNatClampNeg) (xs (nI (j + 2)).toNatClampNeg) 1 mw hM) (cwV 3 hts gL_law_X9_knows rfl rfl rfl (by decide +kernel) ⟨Nat.le_of_ble_eq_true rfl, Nat.le_of_ble_eq_true rfl⟩) ⟨fun a U g mk q => by obtain ⟨q0, q1, qP, qK, qD⟩ := q; exact ⟨q0, q1, qP, va_K.moved (u := U) (U := U.calling g mk a) (Vm.Alike.refl U.vm) qK, qD⟩, va_recv hK hPc (ci := 9) rfl hkx, fun U hU hW => ⟨rfl, by rw [hU], by rw [hU]; exact hPc, va_K.moved hW.alike hK, hDc.weaken (fun _ _ _ _ => trivial)⟩⟩ rfl rfl hl.1 rfl (lv_room (Nat.le_of_ble_eq_true rfl)) dL_law_307 ⟨show ce + 0 ≤ 600000 by omega, show sc + 0 ≤ 7302250 by omega⟩) hS (fun q _ h => hFc q h) hFc (fun r_2 u1 t9 H1 locs ht hvm hw hB hz1 hk1 hS => ?_)
    obtain ⟨hM, ha1⟩ := hw
    obtain ⟨hP1, hD1⟩ := hB
    rw [ht] at hP1
    have hj9 := z_joinF (cs := mw) (rs := u0) (full := u0 ++ mw) (List.perm_append_comm (l₁ := mw) (l₂ := u0)) hP hD hk1 hFc hP1 hD1
    have hP := hj9.1
    have hD := hj9.2
    clear hPc hDc hPf hDf hP1 hD1 hj9 hk1 hz1 hFc ht hvm hkx
    generalize H1 = H at hP hS ⊢
    refine W.widen (k := ce) (n := sc) (by omega) (by omega) ?_
    refine lv_pop hx hb dL_law_310 rfl ?_
    refine lv_goto (tgt := 1053) hx hb dL_law_311 (by decide) ?_
    refine W.widen (k := ce + 2) (n := sc + 26) (by omega) (by omega) ?_
    exact kk _ _ _ _ _ _ _ H locs ls hX hM (zIv_mono (iv_knows hok) (by omega)) hP hD hS (lv_sub hl [0, 1, 2, 3] rfl)
set_option maxHeartbeats 4000000 in
set_option maxRecDepth 100000 in
theorem law_4 {p : Program} {l : Launch} {e : Env} {s : State} {m : MethodId} {below : List Frame} {meth : Method} {c : Code} {b L : Nat} {xs : Nat → Int32} (C0 : lw_At p s m meth c b L xs) {A : Nat → Prop} (hAe : A = fun q : Nat => s.heap.size ≤ q) (Z : gZ) (kA vA wA : Nat) (hK : va_K Z.1 vwCl (gT Z) s) (hN : gN Z s) (hG : gS kA vA A s) (hG2 : gW wA A s) {x0 m0 tn : Nat} {kp : Int32} {sl : zSL} {im : zIM} {st : spT} {xw mw : va_W} (hX : zX Z x0 tn kp sl im st xw) (hM : zM Z m0 tn kp sl im st mw) {j ce sc : Nat} (hok : zIv st tn (10000 * j)) (hjL : j + 6 ≤ L) (hL : L ≤ 3072) (hce : ce + 2 ≤ 600000) (hsc : sc + 26 ≤ 7302250) (kk : ∀ (tn : Nat) (kp : Int32) (sl : zSL) (im : zIM) (st : spT) (xw mw : va_W) (H : Heap) (locs : List Loc) (ls : Array Slot), zX Z x0 tn kp sl im st xw → zM Z m0 tn kp sl im st mw → zIv st tn (10000 * (j + 6)) → va_P Z.1 vwCl (xw ++ mw) H → va_D A (xw ++ mw) → va_S A s.heap H locs → lv_has ls 4 [(0, .ref b), (1, .ref x0), (2, .ref m0), (3, .int (nI j))] → W p l e room_1 s m #[Value.ref b] below meth c H locs (ce + 2) (sc + 26) (lw_Z below #[Value.ref b] s) (F0 m 1053 ls [])) {H : Heap} {locs : List Loc} {ls : Array Slot} (hP : va_P Z.1 vwCl (xw ++ mw) H) (hD : va_D A (xw ++ mw)) (hS : va_S A s.heap H locs) (hl : lv_has ls 4 [(0, .ref b), (1, .ref x0), (2, .ref m0), (3, .int (nI j))]) : W p l e room_1 s m #[Value.ref b] below meth c H locs (ce) (sc) (lw_Z below #[Value.ref b] s) (F0 m 314 ls []) := by
  obtain ⟨hx, hb, hr, hml, hown0, hts0, hX0, hbl, hlocks, hgv⟩ := id C0
  have hown : s.vm.findClass RL = some m.cls := hown0
  have hts : ∀ w ∈ wsL_law, w.before #[Value.ref b] s = true := fun w h => hts0 w (wsL_law_in w h)
  have hA : ∀ q : Nat, s.heap.size ≤ q → A q := by rw [hAe]; exact fun _ h => h
  have hbA : ¬ A b := by rw [hAe]; exact Nat.not_le.mpr hbl
  refine lv_aload_n hx hb dL_law_314 rfl (lv_at hl 1 rfl) ?_
  refine lv_aload_n hx hb dL_law_315 rfl (lv_at hl 0 rfl) ?_
  refine lv_iload_n hx hb dL_law_316 rfl (lv_at hl 3 rfl) ?_
  refine lv_iconst (v := 1) hx hb dL_law_317 (by decide) ?_
  refine lv_iadd hx hb dL_law_318 ?_
  refine lv_topi (fun f_1 ef_1 => ?_)
  obtain rfl : nI (j + 1) = f_1 := (ef_1.trans (nI_add j 1)).symm
  refine va_sld hx hb hX0 hbl hbA hS (vp_in_nI (by omega) (by omega)) dL_law_319 ?_
  refine lv_aload_n hx hb dL_law_320 rfl (lv_at hl 0 rfl) ?_
  refine lv_iload_n hx hb dL_law_321 rfl (lv_at hl 3 rfl) ?_
  refine lv_iconst (v := 2) hx hb dL_law_322 (by decide) ?_
  refine lv_iadd hx hb dL_law_323 ?_
  refine lv_topi (fun f_2 ef_2 => ?_)
  obtain rfl : nI (j + 2) = f_2 := (ef_2.trans (nI_add j 2)).symm
  refine va_sld hx hb hX0 hbl hbA hS (vp_in_nI (by omega) (by omega)) dL_law_324 ?_
  have hPf := z_Pp ((List.Perm.refl (xw ++ mw))).symm hP
  have hDf := z_Dp ((List.Perm.refl (xw ++ mw))).symm hD
  have hPc := z_P0 hPf
  have hDc := z_D0 hDf
  have hFc := z_freeF (cs := xw) (rs := mw) (List.Perm.refl (xw ++ mw)) hD hS hA
  obtain ⟨kx, fsx, hkx⟩ := zX_cell hX
  refine va_calli (va_runV (As := [.int (xs (nI (j + 1)).toNatClampNeg), .int (xs (nI (j + 2)).toNatClampNeg)]) (rest := []) ⟨hx, hb, hml, hown, hts⟩ (cx_X8_ask l Z H.size x0 tn kp sl im st _ hok (by omega) kA vA wA (xs (nI (j + 1)).toNatClampNeg) (xs (nI (j + 2)).toNatClampNeg) xw hX ) (cwV 2 hts gL_law_X8_ask rfl rfl rfl (by decide +kernel) ⟨Nat.le_of_ble_eq_true rfl, Nat.le_of_ble_eq_true rfl⟩) ⟨fun a U g mk q => by obtain ⟨q0, q1, qP, qK, qD, qN, qG, qW⟩ := q; exact ⟨q0, q1, qP, va_K.moved (u := U) (U := U.calling g mk a) (Vm.Alike.refl U.vm) qK, qD, z_Nc (u := U) (U := U.calling g mk a) rfl qN, z_Gc (u := U) (U := U.calling g mk a) rfl rfl qG, z_Wc (u := U) (U := U.calling g mk a) rfl rfl qW⟩, va_recv hK hPc (ci := 8) rfl hkx, fun U hU hW => ⟨rfl, by rw [hU], by rw [hU]; exact hPc, va_K.moved hW.alike hK, hDc.weaken (fun _ _ _ _ => trivial), z_N hW hN, z_G hW hG hS hU hFc, z_W hW hG2 hS hU hFc⟩⟩ rfl rfl hl.1 rfl (lv_room (Nat.le_of_ble_eq_true rfl)) dL_law_325 ⟨show ce + 0 ≤ 600000 by omega, show sc + 0 ≤ 7302250 by omega⟩) hS (fun q _ h => hFc q h) hFc (fun r_1 u0 t9 H1 locs ht hvm hw hB hz1 hk1 hS => ?_)
  obtain ⟨hX, ha0⟩ := hw
  obtain ⟨hP1, hD1⟩ := hB
  rw [ht] at hP1
  have hj9 := z_joinF (cs := xw) (rs := mw) (full := xw ++ mw) (List.Perm.refl (xw ++ mw)) hP hD hk1 hFc hP1 hD1
  have hP := z_Pp (List.perm_append_comm (l₁ := mw) (l₂ := u0)) hj9.1
  have hD := z_Dp (List.perm_append_comm (l₁ := mw) (l₂ := u0)) hj9.2
  clear hPc hDc hPf hDf hP1 hD1 hj9 hk1 hz1 hFc ht hvm hkx
  generalize H1 = H at hP hS ⊢
  refine W.widen (k := ce) (n := sc) (by omega) (by omega) ?_
  refine lv_pop hx hb dL_law_328 rfl ?_
  refine lv_aload_n hx hb dL_law_329 rfl (lv_at hl 2 rfl) ?_
  refine lv_aload_n hx hb dL_law_330 rfl (lv_at hl 0 rfl) ?_
  refine lv_iload_n hx hb dL_law_331 rfl (lv_at hl 3 rfl) ?_
  refine lv_iconst (v := 1) hx hb dL_law_332 (by decide) ?_
  refine lv_iadd hx hb dL_law_333 ?_
  refine lv_topi (fun f_3 ef_3 => ?_)
  obtain rfl : nI (j + 1) = f_3 := (ef_3.trans (nI_add j 1)).symm
  refine va_sld hx hb hX0 hbl hbA hS (vp_in_nI (by omega) (by omega)) dL_law_334 ?_
  refine lv_aload_n hx hb dL_law_335 rfl (lv_at hl 0 rfl) ?_
  refine lv_iload_n hx hb dL_law_336 rfl (lv_at hl 3 rfl) ?_
  refine lv_iconst (v := 2) hx hb dL_law_337 (by decide) ?_
  refine lv_iadd hx hb dL_law_338 ?_
  refine lv_topi (fun f_4 ef_4 => ?_)
  obtain rfl : nI (j + 2) = f_4 := (ef_4.trans (nI_add j 2)).symm
  refine va_sld hx hb hX0 hbl hbA hS (vp_in_nI (by omega) (by omega)) dL_law_339 ?_
  have hPf := z_Pp ((List.perm_append_comm (l₁ := mw) (l₂ := u0))).symm hP
  have hDf := z_Dp ((List.perm_append_comm (l₁ := mw) (l₂ := u0))).symm hD
  have hPc := z_P0 hPf
  have hDc := z_D0 hDf
  have hFc := z_freeF (cs := mw) (rs := u0) (List.perm_append_comm (l₁ := mw) (l₂ := u0)) hD hS hA
  obtain ⟨kx, fsx, hkx⟩ := zM_cell hM
  refine va_calli (va_runV (As := [.int (xs (nI (j + 1)).toNatClampNeg), .int (xs (nI (j + 2)).toNatClampNeg)]) (rest := []) ⟨hx, hb, hml, hown, hts⟩ (cm_ask l Z H.size m0 tn kp sl im st _ hok (by omega) (xs (nI (j + 1)).toNatClampNeg) (xs (nI (j + 2)).toNatClampNeg) mw hM) (cwV 2 hts gL_law_X9_ask rfl rfl rfl (by decide +kernel) ⟨Nat.le_of_ble_eq_true rfl, Nat.le_of_ble_eq_true rfl⟩) ⟨fun a U g mk q => by obtain ⟨q0, q1, qP, qK, qD⟩ := q; exact ⟨q0, q1, qP, va_K.moved (u := U) (U := U.calling g mk a) (Vm.Alike.refl U.vm) qK, qD⟩, va_recv hK hPc (ci := 9) rfl hkx, fun U hU hW => ⟨rfl, by rw [hU], by rw [hU]; exact hPc, va_K.moved hW.alike hK, hDc.weaken (fun _ _ _ _ => trivial)⟩⟩ rfl rfl hl.1 rfl (lv_room (Nat.le_of_ble_eq_true rfl)) dL_law_340 ⟨show ce + 0 ≤ 600000 by omega, show sc + 0 ≤ 7302250 by omega⟩) hS (fun q _ h => hFc q h) hFc (fun r_2 u1 t9 H1 locs ht hvm hw hB hz1 hk1 hS => ?_)
  obtain ⟨hM, ha1⟩ := hw
  obtain ⟨hP1, hD1⟩ := hB
  rw [ht] at hP1
  have hj9 := z_joinF (cs := mw) (rs := u0) (full := u0 ++ mw) (List.perm_append_comm (l₁ := mw) (l₂ := u0)) hP hD hk1 hFc hP1 hD1
  have hP := hj9.1
  have hD := hj9.2
  clear hPc hDc hPf hDf hP1 hD1 hj9 hk1 hz1 hFc ht hvm hkx
  generalize H1 = H at hP hS ⊢
  refine W.widen (k := ce) (n := sc) (by omega) (by omega) ?_
  refine lv_pop hx hb dL_law_343 rfl ?_
  refine lv_goto (tgt := 1053) hx hb dL_law_344 (by decide) ?_
  refine W.widen (k := ce + 2) (n := sc + 26) (by omega) (by omega) ?_
  exact kk _ _ _ _ _ _ _ H locs ls hX hM (zIv_mono (iv_ask hok) (by omega)) hP hD hS (lv_sub hl [0, 1, 2, 3] rfl)
set_option maxHeartbeats 4000000 in
set_option maxRecDepth 100000 in
theorem law_5 {p : Program} {l : Launch} {e : Env} {s : State} {m : MethodId} {below : List Frame} {meth : Method} {c : Code} {b L : Nat} {xs : Nat → Int32} (C0 : lw_At p s m meth c b L xs) {A : Nat → Prop} (hAe : A = fun q : Nat => s.heap.size ≤ q) (Z : gZ) (kA vA wA : Nat) (hK : va_K Z.1 vwCl (gT Z) s) (hN : gN Z s) (hG : gS kA vA A s) (hG2 : gW wA A s) {x0 m0 tn : Nat} {kp : Int32} {sl : zSL} {im : zIM} {st : spT} {xw mw : va_W} (hX : zX Z x0 tn kp sl im st xw) (hM : zM Z m0 tn kp sl im st mw) {j ce sc : Nat} (hok : zIv st tn (10000 * j)) (hjL : j + 6 ≤ L) (hL : L ≤ 3072) (hce : ce + 2 ≤ 600000) (hsc : sc + 26 ≤ 7302250) (kk : ∀ (tn : Nat) (kp : Int32) (sl : zSL) (im : zIM) (st : spT) (xw mw : va_W) (H : Heap) (locs : List Loc) (ls : Array Slot), zX Z x0 tn kp sl im st xw → zM Z m0 tn kp sl im st mw → zIv st tn (10000 * (j + 6)) → va_P Z.1 vwCl (xw ++ mw) H → va_D A (xw ++ mw) → va_S A s.heap H locs → lv_has ls 4 [(0, .ref b), (1, .ref x0), (2, .ref m0), (3, .int (nI j))] → W p l e room_1 s m #[Value.ref b] below meth c H locs (ce + 2) (sc + 26) (lw_Z below #[Value.ref b] s) (F0 m 1053 ls [])) {H : Heap} {locs : List Loc} {ls : Array Slot} (hP : va_P Z.1 vwCl (xw ++ mw) H) (hD : va_D A (xw ++ mw)) (hS : va_S A s.heap H locs) (hl : lv_has ls 4 [(0, .ref b), (1, .ref x0), (2, .ref m0), (3, .int (nI j))]) : W p l e room_1 s m #[Value.ref b] below meth c H locs (ce) (sc) (lw_Z below #[Value.ref b] s) (F0 m 347 ls []) := by
  obtain ⟨hx, hb, hr, hml, hown0, hts0, hX0, hbl, hlocks, hgv⟩ := id C0
  have hown : s.vm.findClass RL = some m.cls := hown0
  have hts : ∀ w ∈ wsL_law, w.before #[Value.ref b] s = true := fun w h => hts0 w (wsL_law_in w h)
  have hA : ∀ q : Nat, s.heap.size ≤ q → A q := by rw [hAe]; exact fun _ h => h
  have hbA : ¬ A b := by rw [hAe]; exact Nat.not_le.mpr hbl
  refine lv_aload_n hx hb dL_law_347 rfl (lv_at hl 1 rfl) ?_
  have hPf := z_Pp ((List.Perm.refl (xw ++ mw))).symm hP
  have hDf := z_Dp ((List.Perm.refl (xw ++ mw))).symm hD
  have hPc := z_P0 hPf
  have hDc := z_D0 hDf
  have hFc := z_freeF (cs := xw) (rs := mw) (List.Perm.refl (xw ++ mw)) hD hS hA
  obtain ⟨kx, fsx, hkx⟩ := zX_cell hX
  refine va_calli (va_runV (As := []) (rest := []) ⟨hx, hb, hml, hown, hts⟩ (cx_X8_week l Z H.size x0 tn kp sl im st _ hok (by omega) kA vA wA  xw hX ) (cwV 0 hts gL_law_X8_week rfl rfl rfl (by decide +kernel) ⟨Nat.le_of_ble_eq_true rfl, Nat.le_of_ble_eq_true rfl⟩) ⟨fun a U g mk q => by obtain ⟨q0, q1, qP, qK, qD, qN, qG, qW⟩ := q; exact ⟨q0, q1, qP, va_K.moved (u := U) (U := U.calling g mk a) (Vm.Alike.refl U.vm) qK, qD, z_Nc (u := U) (U := U.calling g mk a) rfl qN, z_Gc (u := U) (U := U.calling g mk a) rfl rfl qG, z_Wc (u := U) (U := U.calling g mk a) rfl rfl qW⟩, va_recv hK hPc (ci := 8) rfl hkx, fun U hU hW => ⟨rfl, by rw [hU], by rw [hU]; exact hPc, va_K.moved hW.alike hK, hDc.weaken (fun _ _ _ _ => trivial), z_N hW hN, z_G hW hG hS hU hFc, z_W hW hG2 hS hU hFc⟩⟩ rfl rfl hl.1 rfl (lv_room (Nat.le_of_ble_eq_true rfl)) dL_law_348 ⟨show ce + 0 ≤ 600000 by omega, show sc + 0 ≤ 7302250 by omega⟩) hS (fun q _ h => hFc q h) hFc (fun r_1 u0 t9 H1 locs ht hvm hw hB hz1 hk1 hS => ?_)
  obtain ⟨hX, ha0⟩ := hw
  obtain ⟨hP1, hD1⟩ := hB
  rw [ht] at hP1
  have hj9 := z_joinF (cs := xw) (rs := mw) (full := xw ++ mw) (List.Perm.refl (xw ++ mw)) hP hD hk1 hFc hP1 hD1
  have hP := z_Pp (List.perm_append_comm (l₁ := mw) (l₂ := u0)) hj9.1
  have hD := z_Dp (List.perm_append_comm (l₁ := mw) (l₂ := u0)) hj9.2
  clear hPc hDc hPf hDf hP1 hD1 hj9 hk1 hz1 hFc ht hvm hkx
  generalize H1 = H at hP hS ⊢
  refine W.widen (k := ce) (n := sc) (by omega) (by omega) ?_
  refine lv_pop hx hb dL_law_351 rfl ?_
  refine lv_aload_n hx hb dL_law_352 rfl (lv_at hl 2 rfl) ?_
  have hPf := z_Pp ((List.perm_append_comm (l₁ := mw) (l₂ := u0))).symm hP
  have hDf := z_Dp ((List.perm_append_comm (l₁ := mw) (l₂ := u0))).symm hD
  have hPc := z_P0 hPf
  have hDc := z_D0 hDf
  have hFc := z_freeF (cs := mw) (rs := u0) (List.perm_append_comm (l₁ := mw) (l₂ := u0)) hD hS hA
  obtain ⟨kx, fsx, hkx⟩ := zM_cell hM
  refine va_calli (va_runV (As := []) (rest := []) ⟨hx, hb, hml, hown, hts⟩ (cm_week l Z H.size m0 tn kp sl im st _ hok (by omega)  mw hM) (cwV 0 hts gL_law_X9_week rfl rfl rfl (by decide +kernel) ⟨Nat.le_of_ble_eq_true rfl, Nat.le_of_ble_eq_true rfl⟩) ⟨fun a U g mk q => by obtain ⟨q0, q1, qP, qK, qD⟩ := q; exact ⟨q0, q1, qP, va_K.moved (u := U) (U := U.calling g mk a) (Vm.Alike.refl U.vm) qK, qD⟩, va_recv hK hPc (ci := 9) rfl hkx, fun U hU hW => ⟨rfl, by rw [hU], by rw [hU]; exact hPc, va_K.moved hW.alike hK, hDc.weaken (fun _ _ _ _ => trivial)⟩⟩ rfl rfl hl.1 rfl (lv_room (Nat.le_of_ble_eq_true rfl)) dL_law_353 ⟨show ce + 0 ≤ 600000 by omega, show sc + 0 ≤ 7302250 by omega⟩) hS (fun q _ h => hFc q h) hFc (fun r_2 u1 t9 H1 locs ht hvm hw hB hz1 hk1 hS => ?_)
  obtain ⟨hM, ha1⟩ := hw
  obtain ⟨hP1, hD1⟩ := hB
  rw [ht] at hP1
  have hj9 := z_joinF (cs := mw) (rs := u0) (full := u0 ++ mw) (List.perm_append_comm (l₁ := mw) (l₂ := u0)) hP hD hk1 hFc hP1 hD1
  have hP := hj9.1
  have hD := hj9.2
  clear hPc hDc hPf hDf hP1 hD1 hj9 hk1 hz1 hFc ht hvm hkx
  generalize H1 = H at hP hS ⊢
  refine W.widen (k := ce) (n := sc) (by omega) (by omega) ?_
  refine lv_pop hx hb dL_law_356 rfl ?_
  refine lv_goto (tgt := 1053) hx hb dL_law_357 (by decide) ?_
  refine W.widen (k := ce + 2) (n := sc + 26) (by omega) (by omega) ?_
  exact kk _ _ _ _ _ _ _ H locs ls hX hM (zIv_mono (iv_week hok) (by omega)) hP hD hS (lv_sub hl [0, 1, 2, 3] rfl)
set_option maxHeartbeats 4000000 in
set_option maxRecDepth 100000 in
theorem law_6 {p : Program} {l : Launch} {e : Env} {s : State} {m : MethodId} {below : List Frame} {meth : Method} {c : Code} {b L : Nat} {xs : Nat → Int32} (C0 : lw_At p s m meth c b L xs) {A : Nat → Prop} (hAe : A = fun q : Nat => s.heap.size ≤ q) (Z : gZ) (kA vA wA : Nat) (hK : va_K Z.1 vwCl (gT Z) s) (hN : gN Z s) (hG : gS kA vA A s) (hG2 : gW wA A s) {x0 m0 tn : Nat} {kp : Int32} {sl : zSL} {im : zIM} {st : spT} {xw mw : va_W} (hX : zX Z x0 tn kp sl im st xw) (hM : zM Z m0 tn kp sl im st mw) {j ce sc : Nat} (hok : zIv st tn (10000 * j)) (hjL : j + 6 ≤ L) (hL : L ≤ 3072) (hce : ce + 2 ≤ 600000) (hsc : sc + 26 ≤ 7302250) (kk : ∀ (tn : Nat) (kp : Int32) (sl : zSL) (im : zIM) (st : spT) (xw mw : va_W) (H : Heap) (locs : List Loc) (ls : Array Slot), zX Z x0 tn kp sl im st xw → zM Z m0 tn kp sl im st mw → zIv st tn (10000 * (j + 6)) → va_P Z.1 vwCl (xw ++ mw) H → va_D A (xw ++ mw) → va_S A s.heap H locs → lv_has ls 4 [(0, .ref b), (1, .ref x0), (2, .ref m0), (3, .int (nI j))] → W p l e room_1 s m #[Value.ref b] below meth c H locs (ce + 2) (sc + 26) (lw_Z below #[Value.ref b] s) (F0 m 1053 ls [])) {H : Heap} {locs : List Loc} {ls : Array Slot} (hP : va_P Z.1 vwCl (xw ++ mw) H) (hD : va_D A (xw ++ mw)) (hS : va_S A s.heap H locs) (hl : lv_has ls 4 [(0, .ref b), (1, .ref x0), (2, .ref m0), (3, .int (nI j))]) : W p l e room_1 s m #[Value.ref b] below meth c H locs (ce) (sc) (lw_Z below #[Value.ref b] s) (F0 m 360 ls []) := by
  obtain ⟨hx, hb, hr, hml, hown0, hts0, hX0, hbl, hlocks, hgv⟩ := id C0
  have hown : s.vm.findClass RL = some m.cls := hown0
  have hts : ∀ w ∈ wsL_law, w.before #[Value.ref b] s = true := fun w h => hts0 w (wsL_law_in w h)
  have hA : ∀ q : Nat, s.heap.size ≤ q → A q := by rw [hAe]; exact fun _ h => h
  have hbA : ¬ A b := by rw [hAe]; exact Nat.not_le.mpr hbl
  refine lv_aload_n hx hb dL_law_360 rfl (lv_at hl 1 rfl) ?_
  refine lv_aload_n hx hb dL_law_361 rfl (lv_at hl 0 rfl) ?_
  refine lv_iload_n hx hb dL_law_362 rfl (lv_at hl 3 rfl) ?_
  refine lv_iconst (v := 1) hx hb dL_law_363 (by decide) ?_
  refine lv_iadd hx hb dL_law_364 ?_
  refine lv_topi (fun f_1 ef_1 => ?_)
  obtain rfl : nI (j + 1) = f_1 := (ef_1.trans (nI_add j 1)).symm
  refine va_sld hx hb hX0 hbl hbA hS (vp_in_nI (by omega) (by omega)) dL_law_365 ?_
  refine lv_i2l hx hb dL_law_366 rfl ?_
  refine lv_bipush (v := 32) hx hb dL_law_367 (by decide) ?_
  refine lv_lshl hx hb dL_law_369 rfl ?_
  refine lv_aload_n hx hb dL_law_370 rfl (lv_at hl 0 rfl) ?_
  refine lv_iload_n hx hb dL_law_371 rfl (lv_at hl 3 rfl) ?_
  refine lv_iconst (v := 2) hx hb dL_law_372 (by decide) ?_
  refine lv_iadd hx hb dL_law_373 ?_
  refine lv_topi (fun f_2 ef_2 => ?_)
  obtain rfl : nI (j + 2) = f_2 := (ef_2.trans (nI_add j 2)).symm
  refine va_sld hx hb hX0 hbl hbA hS (vp_in_nI (by omega) (by omega)) dL_law_374 ?_
  refine lv_i2l hx hb dL_law_375 rfl ?_
  refine lv_ldc2 (v := 4294967295) hx hb hown (hts (.constantLong RL 40 (4294967295)) (by decide +kernel)) dL_law_376 ?_
  refine lv_land hx hb dL_law_379 ?_
  refine lv_lor hx hb dL_law_380 ?_
  refine lv_aload_n hx hb dL_law_381 rfl (lv_at hl 0 rfl) ?_
  refine lv_iload_n hx hb dL_law_382 rfl (lv_at hl 3 rfl) ?_
  refine lv_iconst (v := 3) hx hb dL_law_383 (by decide) ?_
  refine lv_iadd hx hb dL_law_384 ?_
  refine lv_topi (fun f_3 ef_3 => ?_)
  obtain rfl : nI (j + 3) = f_3 := (ef_3.trans (nI_add j 3)).symm
  refine va_sld hx hb hX0 hbl hbA hS (vp_in_nI (by omega) (by omega)) dL_law_385 ?_
  have hPf := z_Pp ((List.Perm.refl (xw ++ mw))).symm hP
  have hDf := z_Dp ((List.Perm.refl (xw ++ mw))).symm hD
  have hPc := z_P0 hPf
  have hDc := z_D0 hDf
  have hFc := z_freeF (cs := xw) (rs := mw) (List.Perm.refl (xw ++ mw)) hD hS hA
  obtain ⟨kx, fsx, hkx⟩ := zX_cell hX
  refine va_calli (va_runV (As := [.long ((((xs (nI (j + 1)).toNatClampNeg).toInt64) <<< ((32 : Int32).toInt64 &&& 63)) ||| (((xs (nI (j + 2)).toNatClampNeg).toInt64) &&& 4294967295)), .int (xs (nI (j + 3)).toNatClampNeg)]) (rest := []) ⟨hx, hb, hml, hown, hts⟩ (cx_X8_type l Z H.size x0 tn kp sl im st _ hok (by omega) kA vA wA ((((xs (nI (j + 1)).toNatClampNeg).toInt64) <<< ((32 : Int32).toInt64 &&& 63)) ||| (((xs (nI (j + 2)).toNatClampNeg).toInt64) &&& 4294967295)) (xs (nI (j + 3)).toNatClampNeg) xw hX ) (cwV 2 hts gL_law_X8_type rfl rfl rfl (by decide +kernel) ⟨Nat.le_of_ble_eq_true rfl, Nat.le_of_ble_eq_true rfl⟩) ⟨fun a U g mk q => by obtain ⟨q0, q1, qP, qK, qD, qN, qG, qW⟩ := q; exact ⟨q0, q1, qP, va_K.moved (u := U) (U := U.calling g mk a) (Vm.Alike.refl U.vm) qK, qD, z_Nc (u := U) (U := U.calling g mk a) rfl qN, z_Gc (u := U) (U := U.calling g mk a) rfl rfl qG, z_Wc (u := U) (U := U.calling g mk a) rfl rfl qW⟩, va_recv hK hPc (ci := 8) rfl hkx, fun U hU hW => ⟨rfl, by rw [hU], by rw [hU]; exact hPc, va_K.moved hW.alike hK, hDc.weaken (fun _ _ _ _ => trivial), z_N hW hN, z_G hW hG hS hU hFc, z_W hW hG2 hS hU hFc⟩⟩ rfl rfl hl.1 rfl (lv_room (Nat.le_of_ble_eq_true rfl)) dL_law_386 ⟨show ce + 0 ≤ 600000 by omega, show sc + 0 ≤ 7302250 by omega⟩) hS (fun q _ h => hFc q h) hFc (fun r_1 u0 t9 H1 locs ht hvm hw hB hz1 hk1 hS => ?_)
  obtain ⟨hX, ha0⟩ := hw
  obtain ⟨hP1, hD1⟩ := hB
  rw [ht] at hP1
  have hj9 := z_joinF (cs := xw) (rs := mw) (full := xw ++ mw) (List.Perm.refl (xw ++ mw)) hP hD hk1 hFc hP1 hD1
  have hP := z_Pp (List.perm_append_comm (l₁ := mw) (l₂ := u0)) hj9.1
  have hD := z_Dp (List.perm_append_comm (l₁ := mw) (l₂ := u0)) hj9.2
  clear hPc hDc hPf hDf hP1 hD1 hj9 hk1 hz1 hFc ht hvm hkx
  generalize H1 = H at hP hS ⊢
  refine W.widen (k := ce) (n := sc) (by omega) (by omega) ?_
  refine lv_pop hx hb dL_law_389 rfl ?_
  refine lv_aload_n hx hb dL_law_390 rfl (lv_at hl 2 rfl) ?_
  refine lv_aload_n hx hb dL_law_391 rfl (lv_at hl 0 rfl) ?_
  refine lv_iload_n hx hb dL_law_392 rfl (lv_at hl 3 rfl) ?_
  refine lv_iconst (v := 1) hx hb dL_law_393 (by decide) ?_
  refine lv_iadd hx hb dL_law_394 ?_
  refine lv_topi (fun f_4 ef_4 => ?_)
  obtain rfl : nI (j + 1) = f_4 := (ef_4.trans (nI_add j 1)).symm
  refine va_sld hx hb hX0 hbl hbA hS (vp_in_nI (by omega) (by omega)) dL_law_395 ?_
  refine lv_i2l hx hb dL_law_396 rfl ?_
  refine lv_bipush (v := 32) hx hb dL_law_397 (by decide) ?_
  refine lv_lshl hx hb dL_law_399 rfl ?_
  refine lv_aload_n hx hb dL_law_400 rfl (lv_at hl 0 rfl) ?_
  refine lv_iload_n hx hb dL_law_401 rfl (lv_at hl 3 rfl) ?_
  refine lv_iconst (v := 2) hx hb dL_law_402 (by decide) ?_
  refine lv_iadd hx hb dL_law_403 ?_
  refine lv_topi (fun f_5 ef_5 => ?_)
  obtain rfl : nI (j + 2) = f_5 := (ef_5.trans (nI_add j 2)).symm
  refine va_sld hx hb hX0 hbl hbA hS (vp_in_nI (by omega) (by omega)) dL_law_404 ?_
  refine lv_i2l hx hb dL_law_405 rfl ?_
  refine lv_ldc2 (v := 4294967295) hx hb hown (hts (.constantLong RL 40 (4294967295)) (by decide +kernel)) dL_law_406 ?_
  refine lv_land hx hb dL_law_409 ?_
  refine lv_lor hx hb dL_law_410 ?_
  refine lv_aload_n hx hb dL_law_411 rfl (lv_at hl 0 rfl) ?_
  refine lv_iload_n hx hb dL_law_412 rfl (lv_at hl 3 rfl) ?_
  refine lv_iconst (v := 3) hx hb dL_law_413 (by decide) ?_
  refine lv_iadd hx hb dL_law_414 ?_
  refine lv_topi (fun f_6 ef_6 => ?_)
  obtain rfl : nI (j + 3) = f_6 := (ef_6.trans (nI_add j 3)).symm
  refine va_sld hx hb hX0 hbl hbA hS (vp_in_nI (by omega) (by omega)) dL_law_415 ?_
  have hPf := z_Pp ((List.perm_append_comm (l₁ := mw) (l₂ := u0))).symm hP
  have hDf := z_Dp ((List.perm_append_comm (l₁ := mw) (l₂ := u0))).symm hD
  have hPc := z_P0 hPf
  have hDc := z_D0 hDf
  have hFc := z_freeF (cs := mw) (rs := u0) (List.perm_append_comm (l₁ := mw) (l₂ := u0)) hD hS hA
  obtain ⟨kx, fsx, hkx⟩ := zM_cell hM
  refine va_calli (va_runV (As := [.long ((((xs (nI (j + 1)).toNatClampNeg).toInt64) <<< ((32 : Int32).toInt64 &&& 63)) ||| (((xs (nI (j + 2)).toNatClampNeg).toInt64) &&& 4294967295)), .int (xs (nI (j + 3)).toNatClampNeg)]) (rest := []) ⟨hx, hb, hml, hown, hts⟩ (cm_type l Z H.size m0 tn kp sl im st _ hok (by omega) ((((xs (nI (j + 1)).toNatClampNeg).toInt64) <<< ((32 : Int32).toInt64 &&& 63)) ||| (((xs (nI (j + 2)).toNatClampNeg).toInt64) &&& 4294967295)) (xs (nI (j + 3)).toNatClampNeg) mw hM) (cwV 2 hts gL_law_X9_type rfl rfl rfl (by decide +kernel) ⟨Nat.le_of_ble_eq_true rfl, Nat.le_of_ble_eq_true rfl⟩) ⟨fun a U g mk q => by obtain ⟨q0, q1, qP, qK, qD⟩ := q; exact ⟨q0, q1, qP, va_K.moved (u := U) (U := U.calling g mk a) (Vm.Alike.refl U.vm) qK, qD⟩, va_recv hK hPc (ci := 9) rfl hkx, fun U hU hW => ⟨rfl, by rw [hU], by rw [hU]; exact hPc, va_K.moved hW.alike hK, hDc.weaken (fun _ _ _ _ => trivial)⟩⟩ rfl rfl hl.1 rfl (lv_room (Nat.le_of_ble_eq_true rfl)) dL_law_416 ⟨show ce + 0 ≤ 600000 by omega, show sc + 0 ≤ 7302250 by omega⟩) hS (fun q _ h => hFc q h) hFc (fun r_2 u1 t9 H1 locs ht hvm hw hB hz1 hk1 hS => ?_)
  obtain ⟨hM, ha1⟩ := hw
  obtain ⟨hP1, hD1⟩ := hB
  rw [ht] at hP1
  have hj9 := z_joinF (cs := mw) (rs := u0) (full := u0 ++ mw) (List.perm_append_comm (l₁ := mw) (l₂ := u0)) hP hD hk1 hFc hP1 hD1
  have hP := hj9.1
  have hD := hj9.2
  clear hPc hDc hPf hDf hP1 hD1 hj9 hk1 hz1 hFc ht hvm hkx
  generalize H1 = H at hP hS ⊢
  refine W.widen (k := ce) (n := sc) (by omega) (by omega) ?_
  refine lv_pop hx hb dL_law_419 rfl ?_
  refine lv_goto (tgt := 1053) hx hb dL_law_420 (by decide) ?_
  refine W.widen (k := ce + 2) (n := sc + 26) (by omega) (by omega) ?_
  exact kk _ _ _ _ _ _ _ H locs ls hX hM (zIv_mono (iv_type hok) (by omega)) hP hD hS (lv_sub hl [0, 1, 2, 3] rfl)
set_option maxHeartbeats 4000000 in
set_option maxRecDepth 100000 in
theorem law_7 {p : Program} {l : Launch} {e : Env} {s : State} {m : MethodId} {below : List Frame} {meth : Method} {c : Code} {b L : Nat} {xs : Nat → Int32} (C0 : lw_At p s m meth c b L xs) {A : Nat → Prop} (hAe : A = fun q : Nat => s.heap.size ≤ q) (Z : gZ) (kA vA wA : Nat) (hK : va_K Z.1 vwCl (gT Z) s) (hN : gN Z s) (hG : gS kA vA A s) (hG2 : gW wA A s) {x0 m0 tn : Nat} {kp : Int32} {sl : zSL} {im : zIM} {st : spT} {xw mw : va_W} (hX : zX Z x0 tn kp sl im st xw) (hM : zM Z m0 tn kp sl im st mw) {j ce sc : Nat} (hok : zIv st tn (10000 * j)) (hjL : j + 6 ≤ L) (hL : L ≤ 3072) (hce : ce + 2 ≤ 600000) (hsc : sc + 26 ≤ 7302250) (kk : ∀ (tn : Nat) (kp : Int32) (sl : zSL) (im : zIM) (st : spT) (xw mw : va_W) (H : Heap) (locs : List Loc) (ls : Array Slot), zX Z x0 tn kp sl im st xw → zM Z m0 tn kp sl im st mw → zIv st tn (10000 * (j + 6)) → va_P Z.1 vwCl (xw ++ mw) H → va_D A (xw ++ mw) → va_S A s.heap H locs → lv_has ls 4 [(0, .ref b), (1, .ref x0), (2, .ref m0), (3, .int (nI j))] → W p l e room_1 s m #[Value.ref b] below meth c H locs (ce + 2) (sc + 26) (lw_Z below #[Value.ref b] s) (F0 m 1053 ls [])) {H : Heap} {locs : List Loc} {ls : Array Slot} (hP : va_P Z.1 vwCl (xw ++ mw) H) (hD : va_D A (xw ++ mw)) (hS : va_S A s.heap H locs) (hl : lv_has ls 4 [(0, .ref b), (1, .ref x0), (2, .ref m0), (3, .int (nI j))]) : W p l e room_1 s m #[Value.ref b] below meth c H locs (ce) (sc) (lw_Z below #[Value.ref b] s) (F0 m 423 ls []) := by
  obtain ⟨hx, hb, hr, hml, hown0, hts0, hX0, hbl, hlocks, hgv⟩ := id C0
  have hown : s.vm.findClass RL = some m.cls := hown0
  have hts : ∀ w ∈ wsL_law, w.before #[Value.ref b] s = true := fun w h => hts0 w (wsL_law_in w h)
  have hA : ∀ q : Nat, s.heap.size ≤ q → A q := by rw [hAe]; exact fun _ h => h
  have hbA : ¬ A b := by rw [hAe]; exact Nat.not_le.mpr hbl
  refine lv_aload_n hx hb dL_law_423 rfl (lv_at hl 1 rfl) ?_
  have hPf := z_Pp ((List.Perm.refl (xw ++ mw))).symm hP
  have hDf := z_Dp ((List.Perm.refl (xw ++ mw))).symm hD
  have hPc := z_P0 hPf
  have hDc := z_D0 hDf
  have hFc := z_freeF (cs := xw) (rs := mw) (List.Perm.refl (xw ++ mw)) hD hS hA
  obtain ⟨kx, fsx, hkx⟩ := zX_cell hX
  refine va_calli (va_runV (As := []) (rest := []) ⟨hx, hb, hml, hown, hts⟩ (cx_X8_people l Z H.size x0 tn kp sl im st _ hok (by omega) kA vA wA  xw hX ) (cwV 0 hts gL_law_X8_people rfl rfl rfl (by decide +kernel) ⟨Nat.le_of_ble_eq_true rfl, Nat.le_of_ble_eq_true rfl⟩) ⟨fun a U g mk q => by obtain ⟨q0, q1, qP, qK, qD, qN, qG, qW⟩ := q; exact ⟨q0, q1, qP, va_K.moved (u := U) (U := U.calling g mk a) (Vm.Alike.refl U.vm) qK, qD, z_Nc (u := U) (U := U.calling g mk a) rfl qN, z_Gc (u := U) (U := U.calling g mk a) rfl rfl qG, z_Wc (u := U) (U := U.calling g mk a) rfl rfl qW⟩, va_recv hK hPc (ci := 8) rfl hkx, fun U hU hW => ⟨rfl, by rw [hU], by rw [hU]; exact hPc, va_K.moved hW.alike hK, hDc.weaken (fun _ _ _ _ => trivial), z_N hW hN, z_G hW hG hS hU hFc, z_W hW hG2 hS hU hFc⟩⟩ rfl rfl hl.1 rfl (lv_room (Nat.le_of_ble_eq_true rfl)) dL_law_424 ⟨show ce + 0 ≤ 600000 by omega, show sc + 0 ≤ 7302250 by omega⟩) hS (fun q _ h => hFc q h) hFc (fun r_1 u0 t9 H1 locs ht hvm hw hB hz1 hk1 hS => ?_)
  obtain ⟨hX, ha0⟩ := hw
  obtain ⟨hP1, hD1⟩ := hB
  rw [ht] at hP1
  have hj9 := z_joinF (cs := xw) (rs := mw) (full := xw ++ mw) (List.Perm.refl (xw ++ mw)) hP hD hk1 hFc hP1 hD1
  have hP := z_Pp (List.perm_append_comm (l₁ := mw) (l₂ := u0)) hj9.1
  have hD := z_Dp (List.perm_append_comm (l₁ := mw) (l₂ := u0)) hj9.2
  clear hPc hDc hPf hDf hP1 hD1 hj9 hk1 hz1 hFc ht hvm hkx
  generalize H1 = H at hP hS ⊢
  refine W.widen (k := ce) (n := sc) (by omega) (by omega) ?_
  refine lv_pop hx hb dL_law_427 rfl ?_
  refine lv_aload_n hx hb dL_law_428 rfl (lv_at hl 2 rfl) ?_
  have hPf := z_Pp ((List.perm_append_comm (l₁ := mw) (l₂ := u0))).symm hP
  have hDf := z_Dp ((List.perm_append_comm (l₁ := mw) (l₂ := u0))).symm hD
  have hPc := z_P0 hPf
  have hDc := z_D0 hDf
  have hFc := z_freeF (cs := mw) (rs := u0) (List.perm_append_comm (l₁ := mw) (l₂ := u0)) hD hS hA
  obtain ⟨kx, fsx, hkx⟩ := zM_cell hM
  refine va_calli (va_runV (As := []) (rest := []) ⟨hx, hb, hml, hown, hts⟩ (cm_people l Z H.size m0 tn kp sl im st _ hok (by omega)  mw hM) (cwV 0 hts gL_law_X9_people rfl rfl rfl (by decide +kernel) ⟨Nat.le_of_ble_eq_true rfl, Nat.le_of_ble_eq_true rfl⟩) ⟨fun a U g mk q => by obtain ⟨q0, q1, qP, qK, qD⟩ := q; exact ⟨q0, q1, qP, va_K.moved (u := U) (U := U.calling g mk a) (Vm.Alike.refl U.vm) qK, qD⟩, va_recv hK hPc (ci := 9) rfl hkx, fun U hU hW => ⟨rfl, by rw [hU], by rw [hU]; exact hPc, va_K.moved hW.alike hK, hDc.weaken (fun _ _ _ _ => trivial)⟩⟩ rfl rfl hl.1 rfl (lv_room (Nat.le_of_ble_eq_true rfl)) dL_law_429 ⟨show ce + 0 ≤ 600000 by omega, show sc + 0 ≤ 7302250 by omega⟩) hS (fun q _ h => hFc q h) hFc (fun r_2 u1 t9 H1 locs ht hvm hw hB hz1 hk1 hS => ?_)
  obtain ⟨hM, ha1⟩ := hw
  obtain ⟨hP1, hD1⟩ := hB
  rw [ht] at hP1
  have hj9 := z_joinF (cs := mw) (rs := u0) (full := u0 ++ mw) (List.perm_append_comm (l₁ := mw) (l₂ := u0)) hP hD hk1 hFc hP1 hD1
  have hP := hj9.1
  have hD := hj9.2
  clear hPc hDc hPf hDf hP1 hD1 hj9 hk1 hz1 hFc ht hvm hkx
  generalize H1 = H at hP hS ⊢
  refine W.widen (k := ce) (n := sc) (by omega) (by omega) ?_
  refine lv_pop hx hb dL_law_432 rfl ?_
  refine lv_goto (tgt := 1053) hx hb dL_law_433 (by decide) ?_
  refine W.widen (k := ce + 2) (n := sc + 26) (by omega) (by omega) ?_
  exact kk _ _ _ _ _ _ _ H locs ls hX hM (zIv_mono (iv_people hok) (by omega)) hP hD hS (lv_sub hl [0, 1, 2, 3] rfl)
set_option maxHeartbeats 4000000 in
set_option maxRecDepth 100000 in
theorem law_8 {p : Program} {l : Launch} {e : Env} {s : State} {m : MethodId} {below : List Frame} {meth : Method} {c : Code} {b L : Nat} {xs : Nat → Int32} (C0 : lw_At p s m meth c b L xs) {A : Nat → Prop} (hAe : A = fun q : Nat => s.heap.size ≤ q) (Z : gZ) (kA vA wA : Nat) (hK : va_K Z.1 vwCl (gT Z) s) (hN : gN Z s) (hG : gS kA vA A s) (hG2 : gW wA A s) {x0 m0 tn : Nat} {kp : Int32} {sl : zSL} {im : zIM} {st : spT} {xw mw : va_W} (hX : zX Z x0 tn kp sl im st xw) (hM : zM Z m0 tn kp sl im st mw) {j ce sc : Nat} (hok : zIv st tn (10000 * j)) (hjL : j + 6 ≤ L) (hL : L ≤ 3072) (hce : ce + 2 ≤ 600000) (hsc : sc + 26 ≤ 7302250) (kk : ∀ (tn : Nat) (kp : Int32) (sl : zSL) (im : zIM) (st : spT) (xw mw : va_W) (H : Heap) (locs : List Loc) (ls : Array Slot), zX Z x0 tn kp sl im st xw → zM Z m0 tn kp sl im st mw → zIv st tn (10000 * (j + 6)) → va_P Z.1 vwCl (xw ++ mw) H → va_D A (xw ++ mw) → va_S A s.heap H locs → lv_has ls 4 [(0, .ref b), (1, .ref x0), (2, .ref m0), (3, .int (nI j))] → W p l e room_1 s m #[Value.ref b] below meth c H locs (ce + 2) (sc + 26) (lw_Z below #[Value.ref b] s) (F0 m 1053 ls [])) {H : Heap} {locs : List Loc} {ls : Array Slot} (hP : va_P Z.1 vwCl (xw ++ mw) H) (hD : va_D A (xw ++ mw)) (hS : va_S A s.heap H locs) (hl : lv_has ls 4 [(0, .ref b), (1, .ref x0), (2, .ref m0), (3, .int (nI j))]) : W p l e room_1 s m #[Value.ref b] below meth c H locs (ce) (sc) (lw_Z below #[Value.ref b] s) (F0 m 436 ls []) := by
  obtain ⟨hx, hb, hr, hml, hown0, hts0, hX0, hbl, hlocks, hgv⟩ := id C0
  have hown : s.vm.findClass RL = some m.cls := hown0
  have hts : ∀ w ∈ wsL_law, w.before #[Value.ref b] s = true := fun w h => hts0 w (wsL_law_in w h)
  have hA : ∀ q : Nat, s.heap.size ≤ q → A q := by rw [hAe]; exact fun _ h => h
  have hbA : ¬ A b := by rw [hAe]; exact Nat.not_le.mpr hbl
  refine lv_aload_n hx hb dL_law_436 rfl (lv_at hl 1 rfl) ?_
  have hPf := z_Pp ((List.Perm.refl (xw ++ mw))).symm hP
  have hDf := z_Dp ((List.Perm.refl (xw ++ mw))).symm hD
  have hPc := z_P0 hPf
  have hDc := z_D0 hDf
  have hFc := z_freeF (cs := xw) (rs := mw) (List.Perm.refl (xw ++ mw)) hD hS hA
  obtain ⟨kx, fsx, hkx⟩ := zX_cell hX
  refine va_calli (va_runV (As := []) (rest := []) ⟨hx, hb, hml, hown, hts⟩ (cx_X8_plan l Z H.size x0 tn kp sl im st _ hok (by omega) kA vA wA  xw hX ) (cwV 0 hts gL_law_X8_plan rfl rfl rfl (by decide +kernel) ⟨Nat.le_of_ble_eq_true rfl, Nat.le_of_ble_eq_true rfl⟩) ⟨fun a U g mk q => by obtain ⟨q0, q1, qP, qK, qD, qN, qG, qW⟩ := q; exact ⟨q0, q1, qP, va_K.moved (u := U) (U := U.calling g mk a) (Vm.Alike.refl U.vm) qK, qD, z_Nc (u := U) (U := U.calling g mk a) rfl qN, z_Gc (u := U) (U := U.calling g mk a) rfl rfl qG, z_Wc (u := U) (U := U.calling g mk a) rfl rfl qW⟩, va_recv hK hPc (ci := 8) rfl hkx, fun U hU hW => ⟨rfl, by rw [hU], by rw [hU]; exact hPc, va_K.moved hW.alike hK, hDc.weaken (fun _ _ _ _ => trivial), z_N hW hN, z_G hW hG hS hU hFc, z_W hW hG2 hS hU hFc⟩⟩ rfl rfl hl.1 rfl (lv_room (Nat.le_of_ble_eq_true rfl)) dL_law_437 ⟨show ce + 0 ≤ 600000 by omega, show sc + 0 ≤ 7302250 by omega⟩) hS (fun q _ h => hFc q h) hFc (fun r_1 u0 t9 H1 locs ht hvm hw hB hz1 hk1 hS => ?_)
  obtain ⟨hX, ha0⟩ := hw
  obtain ⟨hP1, hD1⟩ := hB
  rw [ht] at hP1
  have hj9 := z_joinF (cs := xw) (rs := mw) (full := xw ++ mw) (List.Perm.refl (xw ++ mw)) hP hD hk1 hFc hP1 hD1
  have hP := z_Pp (List.perm_append_comm (l₁ := mw) (l₂ := u0)) hj9.1
  have hD := z_Dp (List.perm_append_comm (l₁ := mw) (l₂ := u0)) hj9.2
  clear hPc hDc hPf hDf hP1 hD1 hj9 hk1 hz1 hFc ht hvm hkx
  generalize H1 = H at hP hS ⊢
  refine W.widen (k := ce) (n := sc) (by omega) (by omega) ?_
  refine lv_pop hx hb dL_law_440 rfl ?_
  refine lv_aload_n hx hb dL_law_441 rfl (lv_at hl 2 rfl) ?_
  have hPf := z_Pp ((List.perm_append_comm (l₁ := mw) (l₂ := u0))).symm hP
  have hDf := z_Dp ((List.perm_append_comm (l₁ := mw) (l₂ := u0))).symm hD
  have hPc := z_P0 hPf
  have hDc := z_D0 hDf
  have hFc := z_freeF (cs := mw) (rs := u0) (List.perm_append_comm (l₁ := mw) (l₂ := u0)) hD hS hA
  obtain ⟨kx, fsx, hkx⟩ := zM_cell hM
  refine va_calli (va_runV (As := []) (rest := []) ⟨hx, hb, hml, hown, hts⟩ (cm_plan l Z H.size m0 tn kp sl im st _ hok (by omega)  mw hM) (cwV 0 hts gL_law_X9_plan rfl rfl rfl (by decide +kernel) ⟨Nat.le_of_ble_eq_true rfl, Nat.le_of_ble_eq_true rfl⟩) ⟨fun a U g mk q => by obtain ⟨q0, q1, qP, qK, qD⟩ := q; exact ⟨q0, q1, qP, va_K.moved (u := U) (U := U.calling g mk a) (Vm.Alike.refl U.vm) qK, qD⟩, va_recv hK hPc (ci := 9) rfl hkx, fun U hU hW => ⟨rfl, by rw [hU], by rw [hU]; exact hPc, va_K.moved hW.alike hK, hDc.weaken (fun _ _ _ _ => trivial)⟩⟩ rfl rfl hl.1 rfl (lv_room (Nat.le_of_ble_eq_true rfl)) dL_law_442 ⟨show ce + 0 ≤ 600000 by omega, show sc + 0 ≤ 7302250 by omega⟩) hS (fun q _ h => hFc q h) hFc (fun r_2 u1 t9 H1 locs ht hvm hw hB hz1 hk1 hS => ?_)
  obtain ⟨hM, ha1⟩ := hw
  obtain ⟨hP1, hD1⟩ := hB
  rw [ht] at hP1
  have hj9 := z_joinF (cs := mw) (rs := u0) (full := u0 ++ mw) (List.perm_append_comm (l₁ := mw) (l₂ := u0)) hP hD hk1 hFc hP1 hD1
  have hP := hj9.1
  have hD := hj9.2
  clear hPc hDc hPf hDf hP1 hD1 hj9 hk1 hz1 hFc ht hvm hkx
  generalize H1 = H at hP hS ⊢
  refine W.widen (k := ce) (n := sc) (by omega) (by omega) ?_
  refine lv_pop hx hb dL_law_445 rfl ?_
  refine lv_goto (tgt := 1053) hx hb dL_law_446 (by decide) ?_
  refine W.widen (k := ce + 2) (n := sc + 26) (by omega) (by omega) ?_
  exact kk _ _ _ _ _ _ _ H locs ls hX hM (zIv_mono (iv_plan hok) (by omega)) hP hD hS (lv_sub hl [0, 1, 2, 3] rfl)
set_option maxHeartbeats 4000000 in
set_option maxRecDepth 100000 in
theorem law_9 {p : Program} {l : Launch} {e : Env} {s : State} {m : MethodId} {below : List Frame} {meth : Method} {c : Code} {b L : Nat} {xs : Nat → Int32} (C0 : lw_At p s m meth c b L xs) {A : Nat → Prop} (hAe : A = fun q : Nat => s.heap.size ≤ q) (Z : gZ) (kA vA wA : Nat) (hK : va_K Z.1 vwCl (gT Z) s) (hN : gN Z s) (hG : gS kA vA A s) (hG2 : gW wA A s) {x0 m0 tn : Nat} {kp : Int32} {sl : zSL} {im : zIM} {st : spT} {xw mw : va_W} (hX : zX Z x0 tn kp sl im st xw) (hM : zM Z m0 tn kp sl im st mw) {j ce sc : Nat} (hok : zIv st tn (10000 * j)) (hjL : j + 6 ≤ L) (hL : L ≤ 3072) (hce : ce + 2 ≤ 600000) (hsc : sc + 26 ≤ 7302250) (kk : ∀ (tn : Nat) (kp : Int32) (sl : zSL) (im : zIM) (st : spT) (xw mw : va_W) (H : Heap) (locs : List Loc) (ls : Array Slot), zX Z x0 tn kp sl im st xw → zM Z m0 tn kp sl im st mw → zIv st tn (10000 * (j + 6)) → va_P Z.1 vwCl (xw ++ mw) H → va_D A (xw ++ mw) → va_S A s.heap H locs → lv_has ls 4 [(0, .ref b), (1, .ref x0), (2, .ref m0), (3, .int (nI j))] → W p l e room_1 s m #[Value.ref b] below meth c H locs (ce + 2) (sc + 26) (lw_Z below #[Value.ref b] s) (F0 m 1053 ls [])) {H : Heap} {locs : List Loc} {ls : Array Slot} (hP : va_P Z.1 vwCl (xw ++ mw) H) (hD : va_D A (xw ++ mw)) (hS : va_S A s.heap H locs) (hl : lv_has ls 4 [(0, .ref b), (1, .ref x0), (2, .ref m0), (3, .int (nI j))]) : W p l e room_1 s m #[Value.ref b] below meth c H locs (ce) (sc) (lw_Z below #[Value.ref b] s) (F0 m 449 ls []) := by
  obtain ⟨hx, hb, hr, hml, hown0, hts0, hX0, hbl, hlocks, hgv⟩ := id C0
  have hown : s.vm.findClass RL = some m.cls := hown0
  have hts : ∀ w ∈ wsL_law, w.before #[Value.ref b] s = true := fun w h => hts0 w (wsL_law_in w h)
  have hA : ∀ q : Nat, s.heap.size ≤ q → A q := by rw [hAe]; exact fun _ h => h
  have hbA : ¬ A b := by rw [hAe]; exact Nat.not_le.mpr hbl
  refine lv_aload_n hx hb dL_law_449 rfl (lv_at hl 1 rfl) ?_
  refine lv_aload_n hx hb dL_law_450 rfl (lv_at hl 0 rfl) ?_
  refine lv_iload_n hx hb dL_law_451 rfl (lv_at hl 3 rfl) ?_
  refine lv_iconst (v := 1) hx hb dL_law_452 (by decide) ?_
  refine lv_iadd hx hb dL_law_453 ?_
  refine lv_topi (fun f_1 ef_1 => ?_)
  obtain rfl : nI (j + 1) = f_1 := (ef_1.trans (nI_add j 1)).symm
  refine va_sld hx hb hX0 hbl hbA hS (vp_in_nI (by omega) (by omega)) dL_law_454 ?_
  have hPf := z_Pp ((List.Perm.refl (xw ++ mw))).symm hP
  have hDf := z_Dp ((List.Perm.refl (xw ++ mw))).symm hD
  have hPc := z_P0 hPf
  have hDc := z_D0 hDf
  have hFc := z_freeF (cs := xw) (rs := mw) (List.Perm.refl (xw ++ mw)) hD hS hA
  obtain ⟨kx, fsx, hkx⟩ := zX_cell hX
  refine va_calli (va_runV (As := [.int (xs (nI (j + 1)).toNatClampNeg)]) (rest := []) ⟨hx, hb, hml, hown, hts⟩ (cx_X8_count l Z H.size x0 tn kp sl im st _ hok (by omega) kA vA wA (xs (nI (j + 1)).toNatClampNeg) xw hX ) (cwV 1 hts gL_law_X8_count rfl rfl rfl (by decide +kernel) ⟨Nat.le_of_ble_eq_true rfl, Nat.le_of_ble_eq_true rfl⟩) ⟨fun a U g mk q => by obtain ⟨q0, q1, qP, qK, qD, qN, qG, qW⟩ := q; exact ⟨q0, q1, qP, va_K.moved (u := U) (U := U.calling g mk a) (Vm.Alike.refl U.vm) qK, qD, z_Nc (u := U) (U := U.calling g mk a) rfl qN, z_Gc (u := U) (U := U.calling g mk a) rfl rfl qG, z_Wc (u := U) (U := U.calling g mk a) rfl rfl qW⟩, va_recv hK hPc (ci := 8) rfl hkx, fun U hU hW => ⟨rfl, by rw [hU], by rw [hU]; exact hPc, va_K.moved hW.alike hK, hDc.weaken (fun _ _ _ _ => trivial), z_N hW hN, z_G hW hG hS hU hFc, z_W hW hG2 hS hU hFc⟩⟩ rfl rfl hl.1 rfl (lv_room (Nat.le_of_ble_eq_true rfl)) dL_law_455 ⟨show ce + 0 ≤ 600000 by omega, show sc + 0 ≤ 7302250 by omega⟩) hS (fun q _ h => hFc q h) hFc (fun r_1 u0 t9 H1 locs ht hvm hw hB hz1 hk1 hS => ?_)
  obtain ⟨hX, ha0⟩ := hw
  obtain ⟨hP1, hD1⟩ := hB
  rw [ht] at hP1
  have hj9 := z_joinF (cs := xw) (rs := mw) (full := xw ++ mw) (List.Perm.refl (xw ++ mw)) hP hD hk1 hFc hP1 hD1
  have hP := z_Pp (List.perm_append_comm (l₁ := mw) (l₂ := u0)) hj9.1
  have hD := z_Dp (List.perm_append_comm (l₁ := mw) (l₂ := u0)) hj9.2
  clear hPc hDc hPf hDf hP1 hD1 hj9 hk1 hz1 hFc ht hvm hkx
  generalize H1 = H at hP hS ⊢
  refine W.widen (k := ce) (n := sc) (by omega) (by omega) ?_
  refine lv_pop hx hb dL_law_458 rfl ?_
  refine lv_aload_n hx hb dL_law_459 rfl (lv_at hl 2 rfl) ?_
  refine lv_aload_n hx hb dL_law_460 rfl (lv_at hl 0 rfl) ?_
  refine lv_iload_n hx hb dL_law_461 rfl (lv_at hl 3 rfl) ?_
  refine lv_iconst (v := 1) hx hb dL_law_462 (by decide) ?_
  refine lv_iadd hx hb dL_law_463 ?_
  refine lv_topi (fun f_2 ef_2 => ?_)
  obtain rfl : nI (j + 1) = f_2 := (ef_2.trans (nI_add j 1)).symm
  refine va_sld hx hb hX0 hbl hbA hS (vp_in_nI (by omega) (by omega)) dL_law_464 ?_
  have hPf := z_Pp ((List.perm_append_comm (l₁ := mw) (l₂ := u0))).symm hP
  have hDf := z_Dp ((List.perm_append_comm (l₁ := mw) (l₂ := u0))).symm hD
  have hPc := z_P0 hPf
  have hDc := z_D0 hDf
  have hFc := z_freeF (cs := mw) (rs := u0) (List.perm_append_comm (l₁ := mw) (l₂ := u0)) hD hS hA
  obtain ⟨kx, fsx, hkx⟩ := zM_cell hM
  refine va_calli (va_runV (As := [.int (xs (nI (j + 1)).toNatClampNeg)]) (rest := []) ⟨hx, hb, hml, hown, hts⟩ (cm_count l Z H.size m0 tn kp sl im st _ hok (by omega) (xs (nI (j + 1)).toNatClampNeg) mw hM) (cwV 1 hts gL_law_X9_count rfl rfl rfl (by decide +kernel) ⟨Nat.le_of_ble_eq_true rfl, Nat.le_of_ble_eq_true rfl⟩) ⟨fun a U g mk q => by obtain ⟨q0, q1, qP, qK, qD⟩ := q; exact ⟨q0, q1, qP, va_K.moved (u := U) (U := U.calling g mk a) (Vm.Alike.refl U.vm) qK, qD⟩, va_recv hK hPc (ci := 9) rfl hkx, fun U hU hW => ⟨rfl, by rw [hU], by rw [hU]; exact hPc, va_K.moved hW.alike hK, hDc.weaken (fun _ _ _ _ => trivial)⟩⟩ rfl rfl hl.1 rfl (lv_room (Nat.le_of_ble_eq_true rfl)) dL_law_465 ⟨show ce + 0 ≤ 600000 by omega, show sc + 0 ≤ 7302250 by omega⟩) hS (fun q _ h => hFc q h) hFc (fun r_2 u1 t9 H1 locs ht hvm hw hB hz1 hk1 hS => ?_)
  obtain ⟨hM, ha1⟩ := hw
  obtain ⟨hP1, hD1⟩ := hB
  rw [ht] at hP1
  have hj9 := z_joinF (cs := mw) (rs := u0) (full := u0 ++ mw) (List.perm_append_comm (l₁ := mw) (l₂ := u0)) hP hD hk1 hFc hP1 hD1
  have hP := hj9.1
  have hD := hj9.2
  clear hPc hDc hPf hDf hP1 hD1 hj9 hk1 hz1 hFc ht hvm hkx
  generalize H1 = H at hP hS ⊢
  refine W.widen (k := ce) (n := sc) (by omega) (by omega) ?_
  refine lv_pop hx hb dL_law_468 rfl ?_
  refine lv_goto (tgt := 1053) hx hb dL_law_469 (by decide) ?_
  refine W.widen (k := ce + 2) (n := sc + 26) (by omega) (by omega) ?_
  exact kk _ _ _ _ _ _ _ H locs ls hX hM (zIv_mono (iv_same hok) (by omega)) hP hD hS (lv_sub hl [0, 1, 2, 3] rfl)
set_option maxHeartbeats 4000000 in
set_option maxRecDepth 100000 in
theorem law_10 {p : Program} {l : Launch} {e : Env} {s : State} {m : MethodId} {below : List Frame} {meth : Method} {c : Code} {b L : Nat} {xs : Nat → Int32} (C0 : lw_At p s m meth c b L xs) {A : Nat → Prop} (hAe : A = fun q : Nat => s.heap.size ≤ q) (Z : gZ) (kA vA wA : Nat) (hK : va_K Z.1 vwCl (gT Z) s) (hN : gN Z s) (hG : gS kA vA A s) (hG2 : gW wA A s) {x0 m0 tn : Nat} {kp : Int32} {sl : zSL} {im : zIM} {st : spT} {xw mw : va_W} (hX : zX Z x0 tn kp sl im st xw) (hM : zM Z m0 tn kp sl im st mw) {j ce sc : Nat} (hok : zIv st tn (10000 * j)) (hjL : j + 6 ≤ L) (hL : L ≤ 3072) (hce : ce + 2 ≤ 600000) (hsc : sc + 26 ≤ 7302250) (kk : ∀ (tn : Nat) (kp : Int32) (sl : zSL) (im : zIM) (st : spT) (xw mw : va_W) (H : Heap) (locs : List Loc) (ls : Array Slot), zX Z x0 tn kp sl im st xw → zM Z m0 tn kp sl im st mw → zIv st tn (10000 * (j + 6)) → va_P Z.1 vwCl (xw ++ mw) H → va_D A (xw ++ mw) → va_S A s.heap H locs → lv_has ls 4 [(0, .ref b), (1, .ref x0), (2, .ref m0), (3, .int (nI j))] → W p l e room_1 s m #[Value.ref b] below meth c H locs (ce + 2) (sc + 26) (lw_Z below #[Value.ref b] s) (F0 m 1053 ls [])) {H : Heap} {locs : List Loc} {ls : Array Slot} (hP : va_P Z.1 vwCl (xw ++ mw) H) (hD : va_D A (xw ++ mw)) (hS : va_S A s.heap H locs) (hl : lv_has ls 4 [(0, .ref b), (1, .ref x0), (2, .ref m0), (3, .int (nI j))]) : W p l e room_1 s m #[Value.ref b] below meth c H locs (ce) (sc) (lw_Z below #[Value.ref b] s) (F0 m 472 ls []) := by
  obtain ⟨hx, hb, hr, hml, hown0, hts0, hX0, hbl, hlocks, hgv⟩ := id C0
  have hown : s.vm.findClass RL = some m.cls := hown0
  have hts : ∀ w ∈ wsL_law, w.before #[Value.ref b] s = true := fun w h => hts0 w (wsL_law_in w h)
  have hA : ∀ q : Nat, s.heap.size ≤ q → A q := by rw [hAe]; exact fun _ h => h
  have hbA : ¬ A b := by rw [hAe]; exact Nat.not_le.mpr hbl
  refine lv_aload_n hx hb dL_law_472 rfl (lv_at hl 1 rfl) ?_
  have hPf := z_Pp ((List.Perm.refl (xw ++ mw))).symm hP
  have hDf := z_Dp ((List.Perm.refl (xw ++ mw))).symm hD
  have hPc := z_P0 hPf
  have hDc := z_D0 hDf
  have hFc := z_freeF (cs := xw) (rs := mw) (List.Perm.refl (xw ++ mw)) hD hS hA
  obtain ⟨kx, fsx, hkx⟩ := zX_cell hX
  refine va_calli (va_runV (As := []) (rest := []) ⟨hx, hb, hml, hown, hts⟩ (cx_X8_run l Z H.size x0 tn kp sl im st _ hok (by omega) kA vA wA  xw hX ) (cwV 0 hts gL_law_X8_run rfl rfl rfl (by decide +kernel) ⟨Nat.le_of_ble_eq_true rfl, Nat.le_of_ble_eq_true rfl⟩) ⟨fun a U g mk q => by obtain ⟨q0, q1, qP, qK, qD, qN, qG, qW⟩ := q; exact ⟨q0, q1, qP, va_K.moved (u := U) (U := U.calling g mk a) (Vm.Alike.refl U.vm) qK, qD, z_Nc (u := U) (U := U.calling g mk a) rfl qN, z_Gc (u := U) (U := U.calling g mk a) rfl rfl qG, z_Wc (u := U) (U := U.calling g mk a) rfl rfl qW⟩, va_recv hK hPc (ci := 8) rfl hkx, fun U hU hW => ⟨rfl, by rw [hU], by rw [hU]; exact hPc, va_K.moved hW.alike hK, hDc.weaken (fun _ _ _ _ => trivial), z_N hW hN, z_G hW hG hS hU hFc, z_W hW hG2 hS hU hFc⟩⟩ rfl rfl hl.1 rfl (lv_room (Nat.le_of_ble_eq_true rfl)) dL_law_473 ⟨show ce + 0 ≤ 600000 by omega, show sc + 0 ≤ 7302250 by omega⟩) hS (fun q _ h => hFc q h) hFc (fun r_1 u0 t9 H1 locs ht hvm hw hB hz1 hk1 hS => ?_)
  obtain ⟨hX, ha0⟩ := hw
  obtain ⟨hP1, hD1⟩ := hB
  rw [ht] at hP1
  have hj9 := z_joinF (cs := xw) (rs := mw) (full := xw ++ mw) (List.Perm.refl (xw ++ mw)) hP hD hk1 hFc hP1 hD1
  have hP := z_Pp (List.perm_append_comm (l₁ := mw) (l₂ := u0)) hj9.1
  have hD := z_Dp (List.perm_append_comm (l₁ := mw) (l₂ := u0)) hj9.2
  clear hPc hDc hPf hDf hP1 hD1 hj9 hk1 hz1 hFc ht hvm hkx
  generalize H1 = H at hP hS ⊢
  refine W.widen (k := ce) (n := sc) (by omega) (by omega) ?_
  refine lv_pop hx hb dL_law_476 rfl ?_
  refine lv_aload_n hx hb dL_law_477 rfl (lv_at hl 2 rfl) ?_
  have hPf := z_Pp ((List.perm_append_comm (l₁ := mw) (l₂ := u0))).symm hP
  have hDf := z_Dp ((List.perm_append_comm (l₁ := mw) (l₂ := u0))).symm hD
  have hPc := z_P0 hPf
  have hDc := z_D0 hDf
  have hFc := z_freeF (cs := mw) (rs := u0) (List.perm_append_comm (l₁ := mw) (l₂ := u0)) hD hS hA
  obtain ⟨kx, fsx, hkx⟩ := zM_cell hM
  refine va_calli (va_runV (As := []) (rest := []) ⟨hx, hb, hml, hown, hts⟩ (cm_run l Z H.size m0 tn kp sl im st _ hok (by omega)  mw hM) (cwV 0 hts gL_law_X9_run rfl rfl rfl (by decide +kernel) ⟨Nat.le_of_ble_eq_true rfl, Nat.le_of_ble_eq_true rfl⟩) ⟨fun a U g mk q => by obtain ⟨q0, q1, qP, qK, qD⟩ := q; exact ⟨q0, q1, qP, va_K.moved (u := U) (U := U.calling g mk a) (Vm.Alike.refl U.vm) qK, qD⟩, va_recv hK hPc (ci := 9) rfl hkx, fun U hU hW => ⟨rfl, by rw [hU], by rw [hU]; exact hPc, va_K.moved hW.alike hK, hDc.weaken (fun _ _ _ _ => trivial)⟩⟩ rfl rfl hl.1 rfl (lv_room (Nat.le_of_ble_eq_true rfl)) dL_law_478 ⟨show ce + 0 ≤ 600000 by omega, show sc + 0 ≤ 7302250 by omega⟩) hS (fun q _ h => hFc q h) hFc (fun r_2 u1 t9 H1 locs ht hvm hw hB hz1 hk1 hS => ?_)
  obtain ⟨hM, ha1⟩ := hw
  obtain ⟨hP1, hD1⟩ := hB
  rw [ht] at hP1
  have hj9 := z_joinF (cs := mw) (rs := u0) (full := u0 ++ mw) (List.perm_append_comm (l₁ := mw) (l₂ := u0)) hP hD hk1 hFc hP1 hD1
  have hP := hj9.1
  have hD := hj9.2
  clear hPc hDc hPf hDf hP1 hD1 hj9 hk1 hz1 hFc ht hvm hkx
  generalize H1 = H at hP hS ⊢
  refine W.widen (k := ce) (n := sc) (by omega) (by omega) ?_
  refine lv_pop hx hb dL_law_481 rfl ?_
  refine lv_goto (tgt := 1053) hx hb dL_law_482 (by decide) ?_
  refine W.widen (k := ce + 2) (n := sc + 26) (by omega) (by omega) ?_
  exact kk _ _ _ _ _ _ _ H locs ls hX hM (zIv_mono (iv_run hok) (by omega)) hP hD hS (lv_sub hl [0, 1, 2, 3] rfl)
set_option maxHeartbeats 4000000 in
set_option maxRecDepth 100000 in
theorem law_11 {p : Program} {l : Launch} {e : Env} {s : State} {m : MethodId} {below : List Frame} {meth : Method} {c : Code} {b L : Nat} {xs : Nat → Int32} (C0 : lw_At p s m meth c b L xs) {A : Nat → Prop} (hAe : A = fun q : Nat => s.heap.size ≤ q) (Z : gZ) (kA vA wA : Nat) (hK : va_K Z.1 vwCl (gT Z) s) (hN : gN Z s) (hG : gS kA vA A s) (hG2 : gW wA A s) {x0 m0 tn : Nat} {kp : Int32} {sl : zSL} {im : zIM} {st : spT} {xw mw : va_W} (hX : zX Z x0 tn kp sl im st xw) (hM : zM Z m0 tn kp sl im st mw) {j ce sc : Nat} (hok : zIv st tn (10000 * j)) (hjL : j + 6 ≤ L) (hL : L ≤ 3072) (hce : ce + 2 ≤ 600000) (hsc : sc + 26 ≤ 7302250) (kk : ∀ (tn : Nat) (kp : Int32) (sl : zSL) (im : zIM) (st : spT) (xw mw : va_W) (H : Heap) (locs : List Loc) (ls : Array Slot), zX Z x0 tn kp sl im st xw → zM Z m0 tn kp sl im st mw → zIv st tn (10000 * (j + 6)) → va_P Z.1 vwCl (xw ++ mw) H → va_D A (xw ++ mw) → va_S A s.heap H locs → lv_has ls 4 [(0, .ref b), (1, .ref x0), (2, .ref m0), (3, .int (nI j))] → W p l e room_1 s m #[Value.ref b] below meth c H locs (ce + 2) (sc + 26) (lw_Z below #[Value.ref b] s) (F0 m 1053 ls [])) {H : Heap} {locs : List Loc} {ls : Array Slot} (hP : va_P Z.1 vwCl (xw ++ mw) H) (hD : va_D A (xw ++ mw)) (hS : va_S A s.heap H locs) (hl : lv_has ls 4 [(0, .ref b), (1, .ref x0), (2, .ref m0), (3, .int (nI j))]) : W p l e room_1 s m #[Value.ref b] below meth c H locs (ce) (sc) (lw_Z below #[Value.ref b] s) (F0 m 485 ls []) := by
  obtain ⟨hx, hb, hr, hml, hown0, hts0, hX0, hbl, hlocks, hgv⟩ := id C0
  have hown : s.vm.findClass RL = some m.cls := hown0
  have hts : ∀ w ∈ wsL_law, w.before #[Value.ref b] s = true := fun w h => hts0 w (wsL_law_in w h)
  have hA : ∀ q : Nat, s.heap.size ≤ q → A q := by rw [hAe]; exact fun _ h => h
  have hbA : ¬ A b := by rw [hAe]; exact Nat.not_le.mpr hbl
  refine lv_aload_n hx hb dL_law_485 rfl (lv_at hl 1 rfl) ?_
  refine lv_aload_n hx hb dL_law_486 rfl (lv_at hl 0 rfl) ?_
  refine lv_iload_n hx hb dL_law_487 rfl (lv_at hl 3 rfl) ?_
  refine lv_iconst (v := 1) hx hb dL_law_488 (by decide) ?_
  refine lv_iadd hx hb dL_law_489 ?_
  refine lv_topi (fun f_1 ef_1 => ?_)
  obtain rfl : nI (j + 1) = f_1 := (ef_1.trans (nI_add j 1)).symm
  refine va_sld hx hb hX0 hbl hbA hS (vp_in_nI (by omega) (by omega)) dL_law_490 ?_
  have hPf := z_Pp ((List.Perm.refl (xw ++ mw))).symm hP
  have hDf := z_Dp ((List.Perm.refl (xw ++ mw))).symm hD
  have hPc := z_P0 hPf
  have hDc := z_D0 hDf
  have hFc := z_freeF (cs := xw) (rs := mw) (List.Perm.refl (xw ++ mw)) hD hS hA
  obtain ⟨kx, fsx, hkx⟩ := zX_cell hX
  refine va_calli (va_runV (As := [.int (xs (nI (j + 1)).toNatClampNeg)]) (rest := []) ⟨hx, hb, hml, hown, hts⟩ (cx_X8_most l Z H.size x0 tn kp sl im st _ hok (by omega) kA vA wA (xs (nI (j + 1)).toNatClampNeg) xw hX ) (cwV 1 hts gL_law_X8_most rfl rfl rfl (by decide +kernel) ⟨Nat.le_of_ble_eq_true rfl, Nat.le_of_ble_eq_true rfl⟩) ⟨fun a U g mk q => by obtain ⟨q0, q1, qP, qK, qD, qN, qG, qW⟩ := q; exact ⟨q0, q1, qP, va_K.moved (u := U) (U := U.calling g mk a) (Vm.Alike.refl U.vm) qK, qD, z_Nc (u := U) (U := U.calling g mk a) rfl qN, z_Gc (u := U) (U := U.calling g mk a) rfl rfl qG, z_Wc (u := U) (U := U.calling g mk a) rfl rfl qW⟩, va_recv hK hPc (ci := 8) rfl hkx, fun U hU hW => ⟨rfl, by rw [hU], by rw [hU]; exact hPc, va_K.moved hW.alike hK, hDc.weaken (fun _ _ _ _ => trivial), z_N hW hN, z_G hW hG hS hU hFc, z_W hW hG2 hS hU hFc⟩⟩ rfl rfl hl.1 rfl (lv_room (Nat.le_of_ble_eq_true rfl)) dL_law_491 ⟨show ce + 0 ≤ 600000 by omega, show sc + 0 ≤ 7302250 by omega⟩) hS (fun q _ h => hFc q h) hFc (fun r_1 u0 t9 H1 locs ht hvm hw hB hz1 hk1 hS => ?_)
  obtain ⟨hX, ha0⟩ := hw
  obtain ⟨hP1, hD1⟩ := hB
  rw [ht] at hP1
  have hj9 := z_joinF (cs := xw) (rs := mw) (full := xw ++ mw) (List.Perm.refl (xw ++ mw)) hP hD hk1 hFc hP1 hD1
  have hP := z_Pp (List.perm_append_comm (l₁ := mw) (l₂ := u0)) hj9.1
  have hD := z_Dp (List.perm_append_comm (l₁ := mw) (l₂ := u0)) hj9.2
  clear hPc hDc hPf hDf hP1 hD1 hj9 hk1 hz1 hFc ht hvm hkx
  generalize H1 = H at hP hS ⊢
  refine W.widen (k := ce) (n := sc) (by omega) (by omega) ?_
  refine lv_pop hx hb dL_law_494 rfl ?_
  refine lv_aload_n hx hb dL_law_495 rfl (lv_at hl 2 rfl) ?_
  refine lv_aload_n hx hb dL_law_496 rfl (lv_at hl 0 rfl) ?_
  refine lv_iload_n hx hb dL_law_497 rfl (lv_at hl 3 rfl) ?_
  refine lv_iconst (v := 1) hx hb dL_law_498 (by decide) ?_
  refine lv_iadd hx hb dL_law_499 ?_
  refine lv_topi (fun f_2 ef_2 => ?_)
  obtain rfl : nI (j + 1) = f_2 := (ef_2.trans (nI_add j 1)).symm
  refine va_sld hx hb hX0 hbl hbA hS (vp_in_nI (by omega) (by omega)) dL_law_500 ?_
  have hPf := z_Pp ((List.perm_append_comm (l₁ := mw) (l₂ := u0))).symm hP
  have hDf := z_Dp ((List.perm_append_comm (l₁ := mw) (l₂ := u0))).symm hD
  have hPc := z_P0 hPf
  have hDc := z_D0 hDf
  have hFc := z_freeF (cs := mw) (rs := u0) (List.perm_append_comm (l₁ := mw) (l₂ := u0)) hD hS hA
  obtain ⟨kx, fsx, hkx⟩ := zM_cell hM
  refine va_calli (va_runV (As := [.int (xs (nI (j + 1)).toNatClampNeg)]) (rest := []) ⟨hx, hb, hml, hown, hts⟩ (cm_most l Z H.size m0 tn kp sl im st _ hok (by omega) (xs (nI (j + 1)).toNatClampNeg) mw hM) (cwV 1 hts gL_law_X9_most rfl rfl rfl (by decide +kernel) ⟨Nat.le_of_ble_eq_true rfl, Nat.le_of_ble_eq_true rfl⟩) ⟨fun a U g mk q => by obtain ⟨q0, q1, qP, qK, qD⟩ := q; exact ⟨q0, q1, qP, va_K.moved (u := U) (U := U.calling g mk a) (Vm.Alike.refl U.vm) qK, qD⟩, va_recv hK hPc (ci := 9) rfl hkx, fun U hU hW => ⟨rfl, by rw [hU], by rw [hU]; exact hPc, va_K.moved hW.alike hK, hDc.weaken (fun _ _ _ _ => trivial)⟩⟩ rfl rfl hl.1 rfl (lv_room (Nat.le_of_ble_eq_true rfl)) dL_law_501 ⟨show ce + 0 ≤ 600000 by omega, show sc + 0 ≤ 7302250 by omega⟩) hS (fun q _ h => hFc q h) hFc (fun r_2 u1 t9 H1 locs ht hvm hw hB hz1 hk1 hS => ?_)
  obtain ⟨hM, ha1⟩ := hw
  obtain ⟨hP1, hD1⟩ := hB
  rw [ht] at hP1
  have hj9 := z_joinF (cs := mw) (rs := u0) (full := u0 ++ mw) (List.perm_append_comm (l₁ := mw) (l₂ := u0)) hP hD hk1 hFc hP1 hD1
  have hP := hj9.1
  have hD := hj9.2
  clear hPc hDc hPf hDf hP1 hD1 hj9 hk1 hz1 hFc ht hvm hkx
  generalize H1 = H at hP hS ⊢
  refine W.widen (k := ce) (n := sc) (by omega) (by omega) ?_
  refine lv_pop hx hb dL_law_504 rfl ?_
  refine lv_goto (tgt := 1053) hx hb dL_law_505 (by decide) ?_
  refine W.widen (k := ce + 2) (n := sc + 26) (by omega) (by omega) ?_
  exact kk _ _ _ _ _ _ _ H locs ls hX hM (zIv_mono (iv_same hok) (by omega)) hP hD hS (lv_sub hl [0, 1, 2, 3] rfl)
set_option maxHeartbeats 4000000 in
set_option maxRecDepth 100000 in
theorem law_12 {p : Program} {l : Launch} {e : Env} {s : State} {m : MethodId} {below : List Frame} {meth : Method} {c : Code} {b L : Nat} {xs : Nat → Int32} (C0 : lw_At p s m meth c b L xs) {A : Nat → Prop} (hAe : A = fun q : Nat => s.heap.size ≤ q) (Z : gZ) (kA vA wA : Nat) (hK : va_K Z.1 vwCl (gT Z) s) (hN : gN Z s) (hG : gS kA vA A s) (hG2 : gW wA A s) {x0 m0 tn : Nat} {kp : Int32} {sl : zSL} {im : zIM} {st : spT} {xw mw : va_W} (hX : zX Z x0 tn kp sl im st xw) (hM : zM Z m0 tn kp sl im st mw) {j ce sc : Nat} (hok : zIv st tn (10000 * j)) (hjL : j + 6 ≤ L) (hL : L ≤ 3072) (hce : ce + 2 ≤ 600000) (hsc : sc + 26 ≤ 7302250) (kk : ∀ (tn : Nat) (kp : Int32) (sl : zSL) (im : zIM) (st : spT) (xw mw : va_W) (H : Heap) (locs : List Loc) (ls : Array Slot), zX Z x0 tn kp sl im st xw → zM Z m0 tn kp sl im st mw → zIv st tn (10000 * (j + 6)) → va_P Z.1 vwCl (xw ++ mw) H → va_D A (xw ++ mw) → va_S A s.heap H locs → lv_has ls 4 [(0, .ref b), (1, .ref x0), (2, .ref m0), (3, .int (nI j))] → W p l e room_1 s m #[Value.ref b] below meth c H locs (ce + 2) (sc + 26) (lw_Z below #[Value.ref b] s) (F0 m 1053 ls [])) {H : Heap} {locs : List Loc} {ls : Array Slot} (hP : va_P Z.1 vwCl (xw ++ mw) H) (hD : va_D A (xw ++ mw)) (hS : va_S A s.heap H locs) (hl : lv_has ls 4 [(0, .ref b), (1, .ref x0), (2, .ref m0), (3, .int (nI j))]) : W p l e room_1 s m #[Value.ref b] below meth c H locs (ce) (sc) (lw_Z below #[Value.ref b] s) (F0 m 508 ls []) := by
  obtain ⟨hx, hb, hr, hml, hown0, hts0, hX0, hbl, hlocks, hgv⟩ := id C0
  have hown : s.vm.findClass RL = some m.cls := hown0
  have hts : ∀ w ∈ wsL_law, w.before #[Value.ref b] s = true := fun w h => hts0 w (wsL_law_in w h)
  have hA : ∀ q : Nat, s.heap.size ≤ q → A q := by rw [hAe]; exact fun _ h => h
  have hbA : ¬ A b := by rw [hAe]; exact Nat.not_le.mpr hbl
  refine lv_aload_n hx hb dL_law_508 rfl (lv_at hl 1 rfl) ?_
  refine lv_aload_n hx hb dL_law_509 rfl (lv_at hl 0 rfl) ?_
  refine lv_iload_n hx hb dL_law_510 rfl (lv_at hl 3 rfl) ?_
  refine lv_iconst (v := 1) hx hb dL_law_511 (by decide) ?_
  refine lv_iadd hx hb dL_law_512 ?_
  refine lv_topi (fun f_1 ef_1 => ?_)
  obtain rfl : nI (j + 1) = f_1 := (ef_1.trans (nI_add j 1)).symm
  refine va_sld hx hb hX0 hbl hbA hS (vp_in_nI (by omega) (by omega)) dL_law_513 ?_
  refine lv_aload_n hx hb dL_law_514 rfl (lv_at hl 0 rfl) ?_
  refine lv_iload_n hx hb dL_law_515 rfl (lv_at hl 3 rfl) ?_
  refine lv_iconst (v := 2) hx hb dL_law_516 (by decide) ?_
  refine lv_iadd hx hb dL_law_517 ?_
  refine lv_topi (fun f_2 ef_2 => ?_)
  obtain rfl : nI (j + 2) = f_2 := (ef_2.trans (nI_add j 2)).symm
  refine va_sld hx hb hX0 hbl hbA hS (vp_in_nI (by omega) (by omega)) dL_law_518 ?_
  have hPf := z_Pp ((List.Perm.refl (xw ++ mw))).symm hP
  have hDf := z_Dp ((List.Perm.refl (xw ++ mw))).symm hD
  have hPc := z_P0 hPf
  have hDc := z_D0 hDf
  have hFc := z_freeF (cs := xw) (rs := mw) (List.Perm.refl (xw ++ mw)) hD hS hA
  obtain ⟨kx, fsx, hkx⟩ := zX_cell hX
  refine va_calli (va_runV (As := [.int (xs (nI (j + 1)).toNatClampNeg), .int (xs (nI (j + 2)).toNatClampNeg)]) (rest := []) ⟨hx, hb, hml, hown, hts⟩ (cx_X8_when l Z H.size x0 tn kp sl im st _ hok (by omega) kA vA wA (xs (nI (j + 1)).toNatClampNeg) (xs (nI (j + 2)).toNatClampNeg) xw hX ) (cwV 2 hts gL_law_X8_when rfl rfl rfl (by decide +kernel) ⟨Nat.le_of_ble_eq_true rfl, Nat.le_of_ble_eq_true rfl⟩) ⟨fun a U g mk q => by obtain ⟨q0, q1, qP, qK, qD, qN, qG, qW⟩ := q; exact ⟨q0, q1, qP, va_K.moved (u := U) (U := U.calling g mk a) (Vm.Alike.refl U.vm) qK, qD, z_Nc (u := U) (U := U.calling g mk a) rfl qN, z_Gc (u := U) (U := U.calling g mk a) rfl rfl qG, z_Wc (u := U) (U := U.calling g mk a) rfl rfl qW⟩, va_recv hK hPc (ci := 8) rfl hkx, fun U hU hW => ⟨rfl, by rw [hU], by rw [hU]; exact hPc, va_K.moved hW.alike hK, hDc.weaken (fun _ _ _ _ => trivial), z_N hW hN, z_G hW hG hS hU hFc, z_W hW hG2 hS hU hFc⟩⟩ rfl rfl hl.1 rfl (lv_room (Nat.le_of_ble_eq_true rfl)) dL_law_519 ⟨show ce + 0 ≤ 600000 by omega, show sc + 0 ≤ 7302250 by omega⟩) hS (fun q _ h => hFc q h) hFc (fun r_1 u0 t9 H1 locs ht hvm hw hB hz1 hk1 hS => ?_)
  obtain ⟨hX, ha0⟩ := hw
  obtain ⟨hP1, hD1⟩ := hB
  rw [ht] at hP1
  have hj9 := z_joinF (cs := xw) (rs := mw) (full := xw ++ mw) (List.Perm.refl (xw ++ mw)) hP hD hk1 hFc hP1 hD1
  have hP := z_Pp (List.perm_append_comm (l₁ := mw) (l₂ := u0)) hj9.1
  have hD := z_Dp (List.perm_append_comm (l₁ := mw) (l₂ := u0)) hj9.2
  clear hPc hDc hPf hDf hP1 hD1 hj9 hk1 hz1 hFc ht hvm hkx
  generalize H1 = H at hP hS ⊢
  refine W.widen (k := ce) (n := sc) (by omega) (by omega) ?_
  refine lv_pop hx hb dL_law_522 rfl ?_
  refine lv_aload_n hx hb dL_law_523 rfl (lv_at hl 2 rfl) ?_
  refine lv_aload_n hx hb dL_law_524 rfl (lv_at hl 0 rfl) ?_
  refine lv_iload_n hx hb dL_law_525 rfl (lv_at hl 3 rfl) ?_
  refine lv_iconst (v := 1) hx hb dL_law_526 (by decide) ?_
  refine lv_iadd hx hb dL_law_527 ?_
  refine lv_topi (fun f_3 ef_3 => ?_)
  obtain rfl : nI (j + 1) = f_3 := (ef_3.trans (nI_add j 1)).symm
  refine va_sld hx hb hX0 hbl hbA hS (vp_in_nI (by omega) (by omega)) dL_law_528 ?_
  refine lv_aload_n hx hb dL_law_529 rfl (lv_at hl 0 rfl) ?_
  refine lv_iload_n hx hb dL_law_530 rfl (lv_at hl 3 rfl) ?_
  refine lv_iconst (v := 2) hx hb dL_law_531 (by decide) ?_
  refine lv_iadd hx hb dL_law_532 ?_
  refine lv_topi (fun f_4 ef_4 => ?_)
  obtain rfl : nI (j + 2) = f_4 := (ef_4.trans (nI_add j 2)).symm
  refine va_sld hx hb hX0 hbl hbA hS (vp_in_nI (by omega) (by omega)) dL_law_533 ?_
  have hPf := z_Pp ((List.perm_append_comm (l₁ := mw) (l₂ := u0))).symm hP
  have hDf := z_Dp ((List.perm_append_comm (l₁ := mw) (l₂ := u0))).symm hD
  have hPc := z_P0 hPf
  have hDc := z_D0 hDf
  have hFc := z_freeF (cs := mw) (rs := u0) (List.perm_append_comm (l₁ := mw) (l₂ := u0)) hD hS hA
  obtain ⟨kx, fsx, hkx⟩ := zM_cell hM
  refine va_calli (va_runV (As := [.int (xs (nI (j + 1)).toNatClampNeg), .int (xs (nI (j + 2)).toNatClampNeg)]) (rest := []) ⟨hx, hb, hml, hown, hts⟩ (cm_when l Z H.size m0 tn kp sl im st _ hok (by omega) (xs (nI (j + 1)).toNatClampNeg) (xs (nI (j + 2)).toNatClampNeg) mw hM) (cwV 2 hts gL_law_X9_when rfl rfl rfl (by decide +kernel) ⟨Nat.le_of_ble_eq_true rfl, Nat.le_of_ble_eq_true rfl⟩) ⟨fun a U g mk q => by obtain ⟨q0, q1, qP, qK, qD⟩ := q; exact ⟨q0, q1, qP, va_K.moved (u := U) (U := U.calling g mk a) (Vm.Alike.refl U.vm) qK, qD⟩, va_recv hK hPc (ci := 9) rfl hkx, fun U hU hW => ⟨rfl, by rw [hU], by rw [hU]; exact hPc, va_K.moved hW.alike hK, hDc.weaken (fun _ _ _ _ => trivial)⟩⟩ rfl rfl hl.1 rfl (lv_room (Nat.le_of_ble_eq_true rfl)) dL_law_534 ⟨show ce + 0 ≤ 600000 by omega, show sc + 0 ≤ 7302250 by omega⟩) hS (fun q _ h => hFc q h) hFc (fun r_2 u1 t9 H1 locs ht hvm hw hB hz1 hk1 hS => ?_)
  obtain ⟨hM, ha1⟩ := hw
  obtain ⟨hP1, hD1⟩ := hB
  rw [ht] at hP1
  have hj9 := z_joinF (cs := mw) (rs := u0) (full := u0 ++ mw) (List.perm_append_comm (l₁ := mw) (l₂ := u0)) hP hD hk1 hFc hP1 hD1
  have hP := hj9.1
  have hD := hj9.2
  clear hPc hDc hPf hDf hP1 hD1 hj9 hk1 hz1 hFc ht hvm hkx
  generalize H1 = H at hP hS ⊢
  refine W.widen (k := ce) (n := sc) (by omega) (by omega) ?_
  refine lv_pop hx hb dL_law_537 rfl ?_
  refine lv_goto (tgt := 1053) hx hb dL_law_538 (by decide) ?_
  refine W.widen (k := ce + 2) (n := sc + 26) (by omega) (by omega) ?_
  exact kk _ _ _ _ _ _ _ H locs ls hX hM (zIv_mono (iv_same hok) (by omega)) hP hD hS (lv_sub hl [0, 1, 2, 3] rfl)
set_option maxHeartbeats 4000000 in
set_option maxRecDepth 100000 in
theorem law_13 {p : Program} {l : Launch} {e : Env} {s : State} {m : MethodId} {below : List Frame} {meth : Method} {c : Code} {b L : Nat} {xs : Nat → Int32} (C0 : lw_At p s m meth c b L xs) {A : Nat → Prop} (hAe : A = fun q : Nat => s.heap.size ≤ q) (Z : gZ) (kA vA wA : Nat) (hK : va_K Z.1 vwCl (gT Z) s) (hN : gN Z s) (hG : gS kA vA A s) (hG2 : gW wA A s) {x0 m0 tn : Nat} {kp : Int32} {sl : zSL} {im : zIM} {st : spT} {xw mw : va_W} (hX : zX Z x0 tn kp sl im st xw) (hM : zM Z m0 tn kp sl im st mw) {j ce sc : Nat} (hok : zIv st tn (10000 * j)) (hjL : j + 6 ≤ L) (hL : L ≤ 3072) (hce : ce + 2 ≤ 600000) (hsc : sc + 26 ≤ 7302250) (kk : ∀ (tn : Nat) (kp : Int32) (sl : zSL) (im : zIM) (st : spT) (xw mw : va_W) (H : Heap) (locs : List Loc) (ls : Array Slot), zX Z x0 tn kp sl im st xw → zM Z m0 tn kp sl im st mw → zIv st tn (10000 * (j + 6)) → va_P Z.1 vwCl (xw ++ mw) H → va_D A (xw ++ mw) → va_S A s.heap H locs → lv_has ls 4 [(0, .ref b), (1, .ref x0), (2, .ref m0), (3, .int (nI j))] → W p l e room_1 s m #[Value.ref b] below meth c H locs (ce + 2) (sc + 26) (lw_Z below #[Value.ref b] s) (F0 m 1053 ls [])) {H : Heap} {locs : List Loc} {ls : Array Slot} (hP : va_P Z.1 vwCl (xw ++ mw) H) (hD : va_D A (xw ++ mw)) (hS : va_S A s.heap H locs) (hl : lv_has ls 4 [(0, .ref b), (1, .ref x0), (2, .ref m0), (3, .int (nI j))]) : W p l e room_1 s m #[Value.ref b] below meth c H locs (ce) (sc) (lw_Z below #[Value.ref b] s) (F0 m 541 ls []) := by
  obtain ⟨hx, hb, hr, hml, hown0, hts0, hX0, hbl, hlocks, hgv⟩ := id C0
  have hown : s.vm.findClass RL = some m.cls := hown0
  have hts : ∀ w ∈ wsL_law, w.before #[Value.ref b] s = true := fun w h => hts0 w (wsL_law_in w h)
  have hA : ∀ q : Nat, s.heap.size ≤ q → A q := by rw [hAe]; exact fun _ h => h
  have hbA : ¬ A b := by rw [hAe]; exact Nat.not_le.mpr hbl
  refine lv_aload_n hx hb dL_law_541 rfl (lv_at hl 1 rfl) ?_
  refine lv_aload_n hx hb dL_law_542 rfl (lv_at hl 0 rfl) ?_
  refine lv_iload_n hx hb dL_law_543 rfl (lv_at hl 3 rfl) ?_
  refine lv_iconst (v := 1) hx hb dL_law_544 (by decide) ?_
  refine lv_iadd hx hb dL_law_545 ?_
  refine lv_topi (fun f_1 ef_1 => ?_)
  obtain rfl : nI (j + 1) = f_1 := (ef_1.trans (nI_add j 1)).symm
  refine va_sld hx hb hX0 hbl hbA hS (vp_in_nI (by omega) (by omega)) dL_law_546 ?_
  have hPf := z_Pp ((List.Perm.refl (xw ++ mw))).symm hP
  have hDf := z_Dp ((List.Perm.refl (xw ++ mw))).symm hD
  have hPc := z_P0 hPf
  have hDc := z_D0 hDf
  have hFc := z_freeF (cs := xw) (rs := mw) (List.Perm.refl (xw ++ mw)) hD hS hA
  obtain ⟨kx, fsx, hkx⟩ := zX_cell hX
  refine va_calli (va_runV (As := [.int (xs (nI (j + 1)).toNatClampNeg)]) (rest := []) ⟨hx, hb, hml, hown, hts⟩ (cx_X8_turns l Z H.size x0 tn kp sl im st _ hok (by omega) kA vA wA (xs (nI (j + 1)).toNatClampNeg) xw hX ) (cwV 1 hts gL_law_X8_turns rfl rfl rfl (by decide +kernel) ⟨Nat.le_of_ble_eq_true rfl, Nat.le_of_ble_eq_true rfl⟩) ⟨fun a U g mk q => by obtain ⟨q0, q1, qP, qK, qD, qN, qG, qW⟩ := q; exact ⟨q0, q1, qP, va_K.moved (u := U) (U := U.calling g mk a) (Vm.Alike.refl U.vm) qK, qD, z_Nc (u := U) (U := U.calling g mk a) rfl qN, z_Gc (u := U) (U := U.calling g mk a) rfl rfl qG, z_Wc (u := U) (U := U.calling g mk a) rfl rfl qW⟩, va_recv hK hPc (ci := 8) rfl hkx, fun U hU hW => ⟨rfl, by rw [hU], by rw [hU]; exact hPc, va_K.moved hW.alike hK, hDc.weaken (fun _ _ _ _ => trivial), z_N hW hN, z_G hW hG hS hU hFc, z_W hW hG2 hS hU hFc⟩⟩ rfl rfl hl.1 rfl (lv_room (Nat.le_of_ble_eq_true rfl)) dL_law_547 ⟨show ce + 0 ≤ 600000 by omega, show sc + 0 ≤ 7302250 by omega⟩) hS (fun q _ h => hFc q h) hFc (fun r_1 u0 t9 H1 locs ht hvm hw hB hz1 hk1 hS => ?_)
  obtain ⟨hX, ha0⟩ := hw
  obtain ⟨hP1, hD1⟩ := hB
  rw [ht] at hP1
  have hj9 := z_joinF (cs := xw) (rs := mw) (full := xw ++ mw) (List.Perm.refl (xw ++ mw)) hP hD hk1 hFc hP1 hD1
  have hP := z_Pp (List.perm_append_comm (l₁ := mw) (l₂ := u0)) hj9.1
  have hD := z_Dp (List.perm_append_comm (l₁ := mw) (l₂ := u0)) hj9.2
  clear hPc hDc hPf hDf hP1 hD1 hj9 hk1 hz1 hFc ht hvm hkx
  generalize H1 = H at hP hS ⊢
  refine W.widen (k := ce) (n := sc) (by omega) (by omega) ?_
  refine lv_pop hx hb dL_law_550 rfl ?_
  refine lv_aload_n hx hb dL_law_551 rfl (lv_at hl 2 rfl) ?_
  refine lv_aload_n hx hb dL_law_552 rfl (lv_at hl 0 rfl) ?_
  refine lv_iload_n hx hb dL_law_553 rfl (lv_at hl 3 rfl) ?_
  refine lv_iconst (v := 1) hx hb dL_law_554 (by decide) ?_
  refine lv_iadd hx hb dL_law_555 ?_
  refine lv_topi (fun f_2 ef_2 => ?_)
  obtain rfl : nI (j + 1) = f_2 := (ef_2.trans (nI_add j 1)).symm
  refine va_sld hx hb hX0 hbl hbA hS (vp_in_nI (by omega) (by omega)) dL_law_556 ?_
  have hPf := z_Pp ((List.perm_append_comm (l₁ := mw) (l₂ := u0))).symm hP
  have hDf := z_Dp ((List.perm_append_comm (l₁ := mw) (l₂ := u0))).symm hD
  have hPc := z_P0 hPf
  have hDc := z_D0 hDf
  have hFc := z_freeF (cs := mw) (rs := u0) (List.perm_append_comm (l₁ := mw) (l₂ := u0)) hD hS hA
  obtain ⟨kx, fsx, hkx⟩ := zM_cell hM
  refine va_calli (va_runV (As := [.int (xs (nI (j + 1)).toNatClampNeg)]) (rest := []) ⟨hx, hb, hml, hown, hts⟩ (cm_turns l Z H.size m0 tn kp sl im st _ hok (by omega) (xs (nI (j + 1)).toNatClampNeg) mw hM) (cwV 1 hts gL_law_X9_turns rfl rfl rfl (by decide +kernel) ⟨Nat.le_of_ble_eq_true rfl, Nat.le_of_ble_eq_true rfl⟩) ⟨fun a U g mk q => by obtain ⟨q0, q1, qP, qK, qD⟩ := q; exact ⟨q0, q1, qP, va_K.moved (u := U) (U := U.calling g mk a) (Vm.Alike.refl U.vm) qK, qD⟩, va_recv hK hPc (ci := 9) rfl hkx, fun U hU hW => ⟨rfl, by rw [hU], by rw [hU]; exact hPc, va_K.moved hW.alike hK, hDc.weaken (fun _ _ _ _ => trivial)⟩⟩ rfl rfl hl.1 rfl (lv_room (Nat.le_of_ble_eq_true rfl)) dL_law_557 ⟨show ce + 0 ≤ 600000 by omega, show sc + 0 ≤ 7302250 by omega⟩) hS (fun q _ h => hFc q h) hFc (fun r_2 u1 t9 H1 locs ht hvm hw hB hz1 hk1 hS => ?_)
  obtain ⟨hM, ha1⟩ := hw
  obtain ⟨hP1, hD1⟩ := hB
  rw [ht] at hP1
  have hj9 := z_joinF (cs := mw) (rs := u0) (full := u0 ++ mw) (List.perm_append_comm (l₁ := mw) (l₂ := u0)) hP hD hk1 hFc hP1 hD1
  have hP := hj9.1
  have hD := hj9.2
  clear hPc hDc hPf hDf hP1 hD1 hj9 hk1 hz1 hFc ht hvm hkx
  generalize H1 = H at hP hS ⊢
  refine W.widen (k := ce) (n := sc) (by omega) (by omega) ?_
  refine lv_pop hx hb dL_law_560 rfl ?_
  refine lv_goto (tgt := 1053) hx hb dL_law_561 (by decide) ?_
  refine W.widen (k := ce + 2) (n := sc + 26) (by omega) (by omega) ?_
  exact kk _ _ _ _ _ _ _ H locs ls hX hM (zIv_mono (iv_same hok) (by omega)) hP hD hS (lv_sub hl [0, 1, 2, 3] rfl)
