set_option maxHeartbeats 4000000 in
set_option maxRecDepth 100000 in
theorem law_14 {p : Program} {l : Launch} {e : Env} {s : State} {m : MethodId} {below : List Frame} {meth : Method} {c : Code} {b L : Nat} {xs : Nat → Int32} (C0 : lw_At p s m meth c b L xs) {A : Nat → Prop} (hAe : A = fun q : Nat => s.heap.size ≤ q) (Z : gZ) (kA vA wA : Nat) (hK : va_K Z.1 vwCl (gT Z) s) (hN : gN Z s) (hG : gS kA vA A s) (hG2 : gW wA A s) {x0 m0 tn : Nat} {kp : Int32} {sl : zSL} {im : zIM} {st : spT} {xw mw : va_W} (hX : zX Z x0 tn kp sl im st xw) (hM : zM Z m0 tn kp sl im st mw) {j ce sc : Nat} (hok : zIv st tn (10000 * j)) (hjL : j + 6 ≤ L) (hL : L ≤ 3072) (hce : ce + 2 ≤ 600000) (hsc : sc + 26 ≤ 7302250) (kk : ∀ (tn : Nat) (kp : Int32) (sl : zSL) (im : zIM) (st : spT) (xw mw : va_W) (H : Heap) (locs : List Loc) (ls : Array Slot), zX Z x0 tn kp sl im st xw → zM Z m0 tn kp sl im st mw → zIv st tn (10000 * (j + 6)) → va_P Z.1 vwCl (xw ++ mw) H → va_D A (xw ++ mw) → va_S A s.heap H locs → lv_has ls 4 [(0, .ref b), (1, .ref x0), (2, .ref m0), (3, .int (nI j))] → W p l e room_1 s m #[Value.ref b] below meth c H locs (ce + 2) (sc + 26) (lw_Z below #[Value.ref b] s) (F0 m 1053 ls [])) {H : Heap} {locs : List Loc} {ls : Array Slot} (hP : va_P Z.1 vwCl (xw ++ mw) H) (hD : va_D A (xw ++ mw)) (hS : va_S A s.heap H locs) (hl : lv_has ls 4 [(0, .ref b), (1, .ref x0), (2, .ref m0), (3, .int (nI j))]) : W p l e room_1 s m #[Value.ref b] below meth c H locs (ce) (sc) (lw_Z below #[Value.ref b] s) (F0 m 564 ls []) := by
  obtain ⟨hx, hb, hr, hml, hown0, hts0, hX0, hbl, hlocks, hgv⟩ := id C0
  have hown : s.vm.findClass RL = some m.cls := hown0
  have hts : ∀ w ∈ wsL_law, w.before #[Value.ref b] s = true := fun w h => hts0 w (wsL_law_in w h)
  have hA : ∀ q : Nat, s.heap.size ≤ q → A q := by rw [hAe]; exact fun _ h => h
  have hbA : ¬ A b := by rw [hAe]; exact Nat.not_le.mpr hbl
  refine lv_aload_n hx hb dL_law_564 rfl (lv_at hl 1 rfl) ?_
  refine lv_aload_n hx hb dL_law_565 rfl (lv_at hl 0 rfl) ?_
  refine lv_iload_n hx hb dL_law_566 rfl (lv_at hl 3 rfl) ?_
  refine lv_iconst (v := 1) hx hb dL_law_567 (by decide) ?_
  refine lv_iadd hx hb dL_law_568 ?_
  refine lv_topi (fun f_1 ef_1 => ?_)
  obtain rfl : nI (j + 1) = f_1 := (ef_1.trans (nI_add j 1)).symm
  refine va_sld hx hb hX0 hbl hbA hS (vp_in_nI (by omega) (by omega)) dL_law_569 ?_
  have hPf := z_Pp ((List.Perm.refl (xw ++ mw))).symm hP
  have hDf := z_Dp ((List.Perm.refl (xw ++ mw))).symm hD
  have hPc := z_P0 hPf
  have hDc := z_D0 hDf
  have hFc := z_freeF (cs := xw) (rs := mw) (List.Perm.refl (xw ++ mw)) hD hS hA
  obtain ⟨kx, fsx, hkx⟩ := zX_cell hX
  refine va_calli (va_runV (As := [.int (xs (nI (j + 1)).toNatClampNeg)]) (rest := []) ⟨hx, hb, hml, hown, hts⟩ (cx_X8_ends l Z H.size x0 tn kp sl im st _ hok (by omega) kA vA wA (xs (nI (j + 1)).toNatClampNeg) xw hX ) (cwV 1 hts gL_law_X8_ends rfl rfl rfl (by decide +kernel) ⟨Nat.le_of_ble_eq_true rfl, Nat.le_of_ble_eq_true rfl⟩) ⟨fun a U g mk q => by obtain ⟨q0, q1, qP, qK, qD, qN, qG, qW⟩ := q; exact ⟨q0, q1, qP, va_K.moved (u := U) (U := U.calling g mk a) (Vm.Alike.refl U.vm) qK, qD, z_Nc (u := U) (U := U.calling g mk a) rfl qN, z_Gc (u := U) (U := U.calling g mk a) rfl rfl qG, z_Wc (u := U) (U := U.calling g mk a) rfl rfl qW⟩, va_recv hK hPc (ci := 8) rfl hkx, fun U hU hW => ⟨rfl, by rw [hU], by rw [hU]; exact hPc, va_K.moved hW.alike hK, hDc.weaken (fun _ _ _ _ => trivial), z_N hW hN, z_G hW hG hS hU hFc, z_W hW hG2 hS hU hFc⟩⟩ rfl rfl hl.1 rfl (lv_room (Nat.le_of_ble_eq_true rfl)) dL_law_570 ⟨show ce + 0 ≤ 600000 by omega, show sc + 0 ≤ 7302250 by omega⟩) hS (fun q _ h => hFc q h) hFc (fun r_1 u0 t9 H1 locs ht hvm hw hB hz1 hk1 hS => ?_)
  obtain ⟨hX, ha0⟩ := hw
  obtain ⟨hP1, hD1⟩ := hB
  rw [ht] at hP1
  have hj9 := z_joinF (cs := xw) (rs := mw) (full := xw ++ mw) (List.Perm.refl (xw ++ mw)) hP hD hk1 hFc hP1 hD1
  have hP := z_Pp (List.perm_append_comm (l₁ := mw) (l₂ := u0)) hj9.1
  have hD := z_Dp (List.perm_append_comm (l₁ := mw) (l₂ := u0)) hj9.2
  clear hPc hDc hPf hDf hP1 hD1 hj9 hk1 hz1 hFc ht hvm hkx
  generalize H1 = H at hP hS ⊢
  refine W.widen (k := ce) (n := sc) (by omega) (by omega) ?_
  refine lv_pop hx hb dL_law_573 rfl ?_
  refine lv_aload_n hx hb dL_law_574 rfl (lv_at hl 2 rfl) ?_
  refine lv_aload_n hx hb dL_law_575 rfl (lv_at hl 0 rfl) ?_
  refine lv_iload_n hx hb dL_law_576 rfl (lv_at hl 3 rfl) ?_
  refine lv_iconst (v := 1) hx hb dL_law_577 (by decide) ?_
  refine lv_iadd hx hb dL_law_578 ?_
  refine lv_topi (fun f_2 ef_2 => ?_)
  obtain rfl : nI (j + 1) = f_2 := (ef_2.trans (nI_add j 1)).symm
  refine va_sld hx hb hX0 hbl hbA hS (vp_in_nI (by omega) (by omega)) dL_law_579 ?_
  have hPf := z_Pp ((List.perm_append_comm (l₁ := mw) (l₂ := u0))).symm hP
  have hDf := z_Dp ((List.perm_append_comm (l₁ := mw) (l₂ := u0))).symm hD
  have hPc := z_P0 hPf
  have hDc := z_D0 hDf
  have hFc := z_freeF (cs := mw) (rs := u0) (List.perm_append_comm (l₁ := mw) (l₂ := u0)) hD hS hA
  obtain ⟨kx, fsx, hkx⟩ := zM_cell hM
  refine va_calli (va_runV (As := [.int (xs (nI (j + 1)).toNatClampNeg)]) (rest := []) ⟨hx, hb, hml, hown, hts⟩ (cm_ends l Z H.size m0 tn kp sl im st _ hok (by omega) (xs (nI (j + 1)).toNatClampNeg) mw hM) (cwV 1 hts gL_law_X9_ends rfl rfl rfl (by decide +kernel) ⟨Nat.le_of_ble_eq_true rfl, Nat.le_of_ble_eq_true rfl⟩) ⟨fun a U g mk q => by obtain ⟨q0, q1, qP, qK, qD⟩ := q; exact ⟨q0, q1, qP, va_K.moved (u := U) (U := U.calling g mk a) (Vm.Alike.refl U.vm) qK, qD⟩, va_recv hK hPc (ci := 9) rfl hkx, fun U hU hW => ⟨rfl, by rw [hU], by rw [hU]; exact hPc, va_K.moved hW.alike hK, hDc.weaken (fun _ _ _ _ => trivial)⟩⟩ rfl rfl hl.1 rfl (lv_room (Nat.le_of_ble_eq_true rfl)) dL_law_580 ⟨show ce + 0 ≤ 600000 by omega, show sc + 0 ≤ 7302250 by omega⟩) hS (fun q _ h => hFc q h) hFc (fun r_2 u1 t9 H1 locs ht hvm hw hB hz1 hk1 hS => ?_)
  obtain ⟨hM, ha1⟩ := hw
  obtain ⟨hP1, hD1⟩ := hB
  rw [ht] at hP1
  have hj9 := z_joinF (cs := mw) (rs := u0) (full := u0 ++ mw) (List.perm_append_comm (l₁ := mw) (l₂ := u0)) hP hD hk1 hFc hP1 hD1
  have hP := hj9.1
  have hD := hj9.2
  clear hPc hDc hPf hDf hP1 hD1 hj9 hk1 hz1 hFc ht hvm hkx
  generalize H1 = H at hP hS ⊢
  refine W.widen (k := ce) (n := sc) (by omega) (by omega) ?_
  refine lv_pop hx hb dL_law_583 rfl ?_
  refine lv_goto (tgt := 1053) hx hb dL_law_584 (by decide) ?_
  refine W.widen (k := ce + 2) (n := sc + 26) (by omega) (by omega) ?_
  exact kk _ _ _ _ _ _ _ H locs ls hX hM (zIv_mono (iv_same hok) (by omega)) hP hD hS (lv_sub hl [0, 1, 2, 3] rfl)
set_option maxHeartbeats 4000000 in
set_option maxRecDepth 100000 in
theorem law_15 {p : Program} {l : Launch} {e : Env} {s : State} {m : MethodId} {below : List Frame} {meth : Method} {c : Code} {b L : Nat} {xs : Nat → Int32} (C0 : lw_At p s m meth c b L xs) {A : Nat → Prop} (hAe : A = fun q : Nat => s.heap.size ≤ q) (Z : gZ) (kA vA wA : Nat) (hK : va_K Z.1 vwCl (gT Z) s) (hN : gN Z s) (hG : gS kA vA A s) (hG2 : gW wA A s) {x0 m0 tn : Nat} {kp : Int32} {sl : zSL} {im : zIM} {st : spT} {xw mw : va_W} (hX : zX Z x0 tn kp sl im st xw) (hM : zM Z m0 tn kp sl im st mw) {j ce sc : Nat} (hok : zIv st tn (10000 * j)) (hjL : j + 6 ≤ L) (hL : L ≤ 3072) (hce : ce + 2 ≤ 600000) (hsc : sc + 26 ≤ 7302250) (kk : ∀ (tn : Nat) (kp : Int32) (sl : zSL) (im : zIM) (st : spT) (xw mw : va_W) (H : Heap) (locs : List Loc) (ls : Array Slot), zX Z x0 tn kp sl im st xw → zM Z m0 tn kp sl im st mw → zIv st tn (10000 * (j + 6)) → va_P Z.1 vwCl (xw ++ mw) H → va_D A (xw ++ mw) → va_S A s.heap H locs → lv_has ls 4 [(0, .ref b), (1, .ref x0), (2, .ref m0), (3, .int (nI j))] → W p l e room_1 s m #[Value.ref b] below meth c H locs (ce + 2) (sc + 26) (lw_Z below #[Value.ref b] s) (F0 m 1053 ls [])) {H : Heap} {locs : List Loc} {ls : Array Slot} (hP : va_P Z.1 vwCl (xw ++ mw) H) (hD : va_D A (xw ++ mw)) (hS : va_S A s.heap H locs) (hl : lv_has ls 4 [(0, .ref b), (1, .ref x0), (2, .ref m0), (3, .int (nI j))]) : W p l e room_1 s m #[Value.ref b] below meth c H locs (ce) (sc) (lw_Z below #[Value.ref b] s) (F0 m 587 ls []) := by
  obtain ⟨hx, hb, hr, hml, hown0, hts0, hX0, hbl, hlocks, hgv⟩ := id C0
  have hown : s.vm.findClass RL = some m.cls := hown0
  have hts : ∀ w ∈ wsL_law, w.before #[Value.ref b] s = true := fun w h => hts0 w (wsL_law_in w h)
  have hA : ∀ q : Nat, s.heap.size ≤ q → A q := by rw [hAe]; exact fun _ h => h
  have hbA : ¬ A b := by rw [hAe]; exact Nat.not_le.mpr hbl
  refine lv_aload_n hx hb dL_law_587 rfl (lv_at hl 1 rfl) ?_
  refine lv_aload_n hx hb dL_law_588 rfl (lv_at hl 0 rfl) ?_
  refine lv_iload_n hx hb dL_law_589 rfl (lv_at hl 3 rfl) ?_
  refine lv_iconst (v := 1) hx hb dL_law_590 (by decide) ?_
  refine lv_iadd hx hb dL_law_591 ?_
  refine lv_topi (fun f_1 ef_1 => ?_)
  obtain rfl : nI (j + 1) = f_1 := (ef_1.trans (nI_add j 1)).symm
  refine va_sld hx hb hX0 hbl hbA hS (vp_in_nI (by omega) (by omega)) dL_law_592 ?_
  have hPf := z_Pp ((List.Perm.refl (xw ++ mw))).symm hP
  have hDf := z_Dp ((List.Perm.refl (xw ++ mw))).symm hD
  have hPc := z_P0 hPf
  have hDc := z_D0 hDf
  have hFc := z_freeF (cs := xw) (rs := mw) (List.Perm.refl (xw ++ mw)) hD hS hA
  obtain ⟨kx, fsx, hkx⟩ := zX_cell hX
  refine va_calli (va_runV (As := [.int (xs (nI (j + 1)).toNatClampNeg)]) (rest := []) ⟨hx, hb, hml, hown, hts⟩ (cx_X8_order l Z H.size x0 tn kp sl im st _ hok (by omega) kA vA wA (xs (nI (j + 1)).toNatClampNeg) xw hX ) (cwV 1 hts gL_law_X8_order rfl rfl rfl (by decide +kernel) ⟨Nat.le_of_ble_eq_true rfl, Nat.le_of_ble_eq_true rfl⟩) ⟨fun a U g mk q => by obtain ⟨q0, q1, qP, qK, qD, qN, qG, qW⟩ := q; exact ⟨q0, q1, qP, va_K.moved (u := U) (U := U.calling g mk a) (Vm.Alike.refl U.vm) qK, qD, z_Nc (u := U) (U := U.calling g mk a) rfl qN, z_Gc (u := U) (U := U.calling g mk a) rfl rfl qG, z_Wc (u := U) (U := U.calling g mk a) rfl rfl qW⟩, va_recv hK hPc (ci := 8) rfl hkx, fun U hU hW => ⟨rfl, by rw [hU], by rw [hU]; exact hPc, va_K.moved hW.alike hK, hDc.weaken (fun _ _ _ _ => trivial), z_N hW hN, z_G hW hG hS hU hFc, z_W hW hG2 hS hU hFc⟩⟩ rfl rfl hl.1 rfl (lv_room (Nat.le_of_ble_eq_true rfl)) dL_law_593 ⟨show ce + 0 ≤ 600000 by omega, show sc + 0 ≤ 7302250 by omega⟩) hS (fun q _ h => hFc q h) hFc (fun r_1 u0 t9 H1 locs ht hvm hw hB hz1 hk1 hS => ?_)
  obtain ⟨hX, ha0⟩ := hw
  obtain ⟨hP1, hD1⟩ := hB
  rw [ht] at hP1
  have hj9 := z_joinF (cs := xw) (rs := mw) (full := xw ++ mw) (List.Perm.refl (xw ++ mw)) hP hD hk1 hFc hP1 hD1
  have hP := z_Pp (List.perm_append_comm (l₁ := mw) (l₂ := u0)) hj9.1
  have hD := z_Dp (List.perm_append_comm (l₁ := mw) (l₂ := u0)) hj9.2
  clear hPc hDc hPf hDf hP1 hD1 hj9 hk1 hz1 hFc ht hvm hkx
  generalize H1 = H at hP hS ⊢
  refine W.widen (k := ce) (n := sc) (by omega) (by omega) ?_
  refine lv_pop hx hb dL_law_596 rfl ?_
  refine lv_aload_n hx hb dL_law_597 rfl (lv_at hl 2 rfl) ?_
  refine lv_aload_n hx hb dL_law_598 rfl (lv_at hl 0 rfl) ?_
  refine lv_iload_n hx hb dL_law_599 rfl (lv_at hl 3 rfl) ?_
  refine lv_iconst (v := 1) hx hb dL_law_600 (by decide) ?_
  refine lv_iadd hx hb dL_law_601 ?_
  refine lv_topi (fun f_2 ef_2 => ?_)
  obtain rfl : nI (j + 1) = f_2 := (ef_2.trans (nI_add j 1)).symm
  refine va_sld hx hb hX0 hbl hbA hS (vp_in_nI (by omega) (by omega)) dL_law_602 ?_
  have hPf := z_Pp ((List.perm_append_comm (l₁ := mw) (l₂ := u0))).symm hP
  have hDf := z_Dp ((List.perm_append_comm (l₁ := mw) (l₂ := u0))).symm hD
  have hPc := z_P0 hPf
  have hDc := z_D0 hDf
  have hFc := z_freeF (cs := mw) (rs := u0) (List.perm_append_comm (l₁ := mw) (l₂ := u0)) hD hS hA
  obtain ⟨kx, fsx, hkx⟩ := zM_cell hM
  refine va_calli (va_runV (As := [.int (xs (nI (j + 1)).toNatClampNeg)]) (rest := []) ⟨hx, hb, hml, hown, hts⟩ (cm_order l Z H.size m0 tn kp sl im st _ hok (by omega) (xs (nI (j + 1)).toNatClampNeg) mw hM) (cwV 1 hts gL_law_X9_order rfl rfl rfl (by decide +kernel) ⟨Nat.le_of_ble_eq_true rfl, Nat.le_of_ble_eq_true rfl⟩) ⟨fun a U g mk q => by obtain ⟨q0, q1, qP, qK, qD⟩ := q; exact ⟨q0, q1, qP, va_K.moved (u := U) (U := U.calling g mk a) (Vm.Alike.refl U.vm) qK, qD⟩, va_recv hK hPc (ci := 9) rfl hkx, fun U hU hW => ⟨rfl, by rw [hU], by rw [hU]; exact hPc, va_K.moved hW.alike hK, hDc.weaken (fun _ _ _ _ => trivial)⟩⟩ rfl rfl hl.1 rfl (lv_room (Nat.le_of_ble_eq_true rfl)) dL_law_603 ⟨show ce + 0 ≤ 600000 by omega, show sc + 0 ≤ 7302250 by omega⟩) hS (fun q _ h => hFc q h) hFc (fun r_2 u1 t9 H1 locs ht hvm hw hB hz1 hk1 hS => ?_)
  obtain ⟨hM, ha1⟩ := hw
  obtain ⟨hP1, hD1⟩ := hB
  rw [ht] at hP1
  have hj9 := z_joinF (cs := mw) (rs := u0) (full := u0 ++ mw) (List.perm_append_comm (l₁ := mw) (l₂ := u0)) hP hD hk1 hFc hP1 hD1
  have hP := hj9.1
  have hD := hj9.2
  clear hPc hDc hPf hDf hP1 hD1 hj9 hk1 hz1 hFc ht hvm hkx
  generalize H1 = H at hP hS ⊢
  refine W.widen (k := ce) (n := sc) (by omega) (by omega) ?_
  refine lv_pop hx hb dL_law_606 rfl ?_
  refine lv_goto (tgt := 1053) hx hb dL_law_607 (by decide) ?_
  refine W.widen (k := ce + 2) (n := sc + 26) (by omega) (by omega) ?_
  exact kk _ _ _ _ _ _ _ H locs ls hX hM (zIv_mono (iv_same hok) (by omega)) hP hD hS (lv_sub hl [0, 1, 2, 3] rfl)
set_option maxHeartbeats 4000000 in
set_option maxRecDepth 100000 in
theorem law_16 {p : Program} {l : Launch} {e : Env} {s : State} {m : MethodId} {below : List Frame} {meth : Method} {c : Code} {b L : Nat} {xs : Nat → Int32} (C0 : lw_At p s m meth c b L xs) {A : Nat → Prop} (hAe : A = fun q : Nat => s.heap.size ≤ q) (Z : gZ) (kA vA wA : Nat) (hK : va_K Z.1 vwCl (gT Z) s) (hN : gN Z s) (hG : gS kA vA A s) (hG2 : gW wA A s) {x0 m0 tn : Nat} {kp : Int32} {sl : zSL} {im : zIM} {st : spT} {xw mw : va_W} (hX : zX Z x0 tn kp sl im st xw) (hM : zM Z m0 tn kp sl im st mw) {j ce sc : Nat} (hok : zIv st tn (10000 * j)) (hjL : j + 6 ≤ L) (hL : L ≤ 3072) (hce : ce + 2 ≤ 600000) (hsc : sc + 26 ≤ 7302250) (kk : ∀ (tn : Nat) (kp : Int32) (sl : zSL) (im : zIM) (st : spT) (xw mw : va_W) (H : Heap) (locs : List Loc) (ls : Array Slot), zX Z x0 tn kp sl im st xw → zM Z m0 tn kp sl im st mw → zIv st tn (10000 * (j + 6)) → va_P Z.1 vwCl (xw ++ mw) H → va_D A (xw ++ mw) → va_S A s.heap H locs → lv_has ls 4 [(0, .ref b), (1, .ref x0), (2, .ref m0), (3, .int (nI j))] → W p l e room_1 s m #[Value.ref b] below meth c H locs (ce + 2) (sc + 26) (lw_Z below #[Value.ref b] s) (F0 m 1053 ls [])) {H : Heap} {locs : List Loc} {ls : Array Slot} (hP : va_P Z.1 vwCl (xw ++ mw) H) (hD : va_D A (xw ++ mw)) (hS : va_S A s.heap H locs) (hl : lv_has ls 4 [(0, .ref b), (1, .ref x0), (2, .ref m0), (3, .int (nI j))]) : W p l e room_1 s m #[Value.ref b] below meth c H locs (ce) (sc) (lw_Z below #[Value.ref b] s) (F0 m 610 ls []) := by
  obtain ⟨hx, hb, hr, hml, hown0, hts0, hX0, hbl, hlocks, hgv⟩ := id C0
  have hown : s.vm.findClass RL = some m.cls := hown0
  have hts : ∀ w ∈ wsL_law, w.before #[Value.ref b] s = true := fun w h => hts0 w (wsL_law_in w h)
  have hA : ∀ q : Nat, s.heap.size ≤ q → A q := by rw [hAe]; exact fun _ h => h
  have hbA : ¬ A b := by rw [hAe]; exact Nat.not_le.mpr hbl
  refine lv_aload_n hx hb dL_law_610 rfl (lv_at hl 1 rfl) ?_
  refine lv_aload_n hx hb dL_law_611 rfl (lv_at hl 0 rfl) ?_
  refine lv_iload_n hx hb dL_law_612 rfl (lv_at hl 3 rfl) ?_
  refine lv_iconst (v := 1) hx hb dL_law_613 (by decide) ?_
  refine lv_iadd hx hb dL_law_614 ?_
  refine lv_topi (fun f_1 ef_1 => ?_)
  obtain rfl : nI (j + 1) = f_1 := (ef_1.trans (nI_add j 1)).symm
  refine va_sld hx hb hX0 hbl hbA hS (vp_in_nI (by omega) (by omega)) dL_law_615 ?_
  refine lv_aload_n hx hb dL_law_616 rfl (lv_at hl 0 rfl) ?_
  refine lv_iload_n hx hb dL_law_617 rfl (lv_at hl 3 rfl) ?_
  refine lv_iconst (v := 2) hx hb dL_law_618 (by decide) ?_
  refine lv_iadd hx hb dL_law_619 ?_
  refine lv_topi (fun f_2 ef_2 => ?_)
  obtain rfl : nI (j + 2) = f_2 := (ef_2.trans (nI_add j 2)).symm
  refine va_sld hx hb hX0 hbl hbA hS (vp_in_nI (by omega) (by omega)) dL_law_620 ?_
  have hPf := z_Pp ((List.Perm.refl (xw ++ mw))).symm hP
  have hDf := z_Dp ((List.Perm.refl (xw ++ mw))).symm hD
  have hPc := z_P0 hPf
  have hDc := z_D0 hDf
  have hFc := z_freeF (cs := xw) (rs := mw) (List.Perm.refl (xw ++ mw)) hD hS hA
  obtain ⟨kx, fsx, hkx⟩ := zX_cell hX
  refine va_calli (va_runV (As := [.int (xs (nI (j + 1)).toNatClampNeg), .int (xs (nI (j + 2)).toNatClampNeg)]) (rest := []) ⟨hx, hb, hml, hown, hts⟩ (cx_X8_so l Z H.size x0 tn kp sl im st _ hok (by omega) kA vA wA (xs (nI (j + 1)).toNatClampNeg) (xs (nI (j + 2)).toNatClampNeg) xw hX ) (cwV 2 hts gL_law_X8_so rfl rfl rfl (by decide +kernel) ⟨Nat.le_of_ble_eq_true rfl, Nat.le_of_ble_eq_true rfl⟩) ⟨fun a U g mk q => by obtain ⟨q0, q1, qP, qK, qD, qN, qG, qW⟩ := q; exact ⟨q0, q1, qP, va_K.moved (u := U) (U := U.calling g mk a) (Vm.Alike.refl U.vm) qK, qD, z_Nc (u := U) (U := U.calling g mk a) rfl qN, z_Gc (u := U) (U := U.calling g mk a) rfl rfl qG, z_Wc (u := U) (U := U.calling g mk a) rfl rfl qW⟩, va_recv hK hPc (ci := 8) rfl hkx, fun U hU hW => ⟨rfl, by rw [hU], by rw [hU]; exact hPc, va_K.moved hW.alike hK, hDc.weaken (fun _ _ _ _ => trivial), z_N hW hN, z_G hW hG hS hU hFc, z_W hW hG2 hS hU hFc⟩⟩ rfl rfl hl.1 rfl (lv_room (Nat.le_of_ble_eq_true rfl)) dL_law_621 ⟨show ce + 0 ≤ 600000 by omega, show sc + 0 ≤ 7302250 by omega⟩) hS (fun q _ h => hFc q h) hFc (fun r_1 u0 t9 H1 locs ht hvm hw hB hz1 hk1 hS => ?_)
  obtain ⟨hX, ha0⟩ := hw
  obtain ⟨hP1, hD1⟩ := hB
  rw [ht] at hP1
  have hj9 := z_joinF (cs := xw) (rs := mw) (full := xw ++ mw) (List.Perm.refl (xw ++ mw)) hP hD hk1 hFc hP1 hD1
  have hP := z_Pp (List.perm_append_comm (l₁ := mw) (l₂ := u0)) hj9.1
  have hD := z_Dp (List.perm_append_comm (l₁ := mw) (l₂ := u0)) hj9.2
  clear hPc hDc hPf hDf hP1 hD1 hj9 hk1 hz1 hFc ht hvm hkx
  generalize H1 = H at hP hS ⊢
  refine W.widen (k := ce) (n := sc) (by omega) (by omega) ?_
  refine lv_pop hx hb dL_law_624 rfl ?_
  refine lv_aload_n hx hb dL_law_625 rfl (lv_at hl 2 rfl) ?_
  refine lv_aload_n hx hb dL_law_626 rfl (lv_at hl 0 rfl) ?_
  refine lv_iload_n hx hb dL_law_627 rfl (lv_at hl 3 rfl) ?_
  refine lv_iconst (v := 1) hx hb dL_law_628 (by decide) ?_
  refine lv_iadd hx hb dL_law_629 ?_
  refine lv_topi (fun f_3 ef_3 => ?_)
  obtain rfl : nI (j + 1) = f_3 := (ef_3.trans (nI_add j 1)).symm
  refine va_sld hx hb hX0 hbl hbA hS (vp_in_nI (by omega) (by omega)) dL_law_630 ?_
  refine lv_aload_n hx hb dL_law_631 rfl (lv_at hl 0 rfl) ?_
  refine lv_iload_n hx hb dL_law_632 rfl (lv_at hl 3 rfl) ?_
  refine lv_iconst (v := 2) hx hb dL_law_633 (by decide) ?_
  refine lv_iadd hx hb dL_law_634 ?_
  refine lv_topi (fun f_4 ef_4 => ?_)
  obtain rfl : nI (j + 2) = f_4 := (ef_4.trans (nI_add j 2)).symm
  refine va_sld hx hb hX0 hbl hbA hS (vp_in_nI (by omega) (by omega)) dL_law_635 ?_
  have hPf := z_Pp ((List.perm_append_comm (l₁ := mw) (l₂ := u0))).symm hP
  have hDf := z_Dp ((List.perm_append_comm (l₁ := mw) (l₂ := u0))).symm hD
  have hPc := z_P0 hPf
  have hDc := z_D0 hDf
  have hFc := z_freeF (cs := mw) (rs := u0) (List.perm_append_comm (l₁ := mw) (l₂ := u0)) hD hS hA
  obtain ⟨kx, fsx, hkx⟩ := zM_cell hM
  refine va_calli (va_runV (As := [.int (xs (nI (j + 1)).toNatClampNeg), .int (xs (nI (j + 2)).toNatClampNeg)]) (rest := []) ⟨hx, hb, hml, hown, hts⟩ (cm_so l Z H.size m0 tn kp sl im st _ hok (by omega) (xs (nI (j + 1)).toNatClampNeg) (xs (nI (j + 2)).toNatClampNeg) mw hM) (cwV 2 hts gL_law_X9_so rfl rfl rfl (by decide +kernel) ⟨Nat.le_of_ble_eq_true rfl, Nat.le_of_ble_eq_true rfl⟩) ⟨fun a U g mk q => by obtain ⟨q0, q1, qP, qK, qD⟩ := q; exact ⟨q0, q1, qP, va_K.moved (u := U) (U := U.calling g mk a) (Vm.Alike.refl U.vm) qK, qD⟩, va_recv hK hPc (ci := 9) rfl hkx, fun U hU hW => ⟨rfl, by rw [hU], by rw [hU]; exact hPc, va_K.moved hW.alike hK, hDc.weaken (fun _ _ _ _ => trivial)⟩⟩ rfl rfl hl.1 rfl (lv_room (Nat.le_of_ble_eq_true rfl)) dL_law_636 ⟨show ce + 0 ≤ 600000 by omega, show sc + 0 ≤ 7302250 by omega⟩) hS (fun q _ h => hFc q h) hFc (fun r_2 u1 t9 H1 locs ht hvm hw hB hz1 hk1 hS => ?_)
  obtain ⟨hM, ha1⟩ := hw
  obtain ⟨hP1, hD1⟩ := hB
  rw [ht] at hP1
  have hj9 := z_joinF (cs := mw) (rs := u0) (full := u0 ++ mw) (List.perm_append_comm (l₁ := mw) (l₂ := u0)) hP hD hk1 hFc hP1 hD1
  have hP := hj9.1
  have hD := hj9.2
  clear hPc hDc hPf hDf hP1 hD1 hj9 hk1 hz1 hFc ht hvm hkx
  generalize H1 = H at hP hS ⊢
  refine W.widen (k := ce) (n := sc) (by omega) (by omega) ?_
  refine lv_pop hx hb dL_law_639 rfl ?_
  refine lv_goto (tgt := 1053) hx hb dL_law_640 (by decide) ?_
  refine W.widen (k := ce + 2) (n := sc + 26) (by omega) (by omega) ?_
  exact kk _ _ _ _ _ _ _ H locs ls hX hM (zIv_mono (iv_same hok) (by omega)) hP hD hS (lv_sub hl [0, 1, 2, 3] rfl)
set_option maxHeartbeats 4000000 in
set_option maxRecDepth 100000 in
theorem law_17 {p : Program} {l : Launch} {e : Env} {s : State} {m : MethodId} {below : List Frame} {meth : Method} {c : Code} {b L : Nat} {xs : Nat → Int32} (C0 : lw_At p s m meth c b L xs) {A : Nat → Prop} (hAe : A = fun q : Nat => s.heap.size ≤ q) (Z : gZ) (kA vA wA : Nat) (hK : va_K Z.1 vwCl (gT Z) s) (hN : gN Z s) (hG : gS kA vA A s) (hG2 : gW wA A s) {x0 m0 tn : Nat} {kp : Int32} {sl : zSL} {im : zIM} {st : spT} {xw mw : va_W} (hX : zX Z x0 tn kp sl im st xw) (hM : zM Z m0 tn kp sl im st mw) {j ce sc : Nat} (hok : zIv st tn (10000 * j)) (hjL : j + 6 ≤ L) (hL : L ≤ 3072) (hce : ce + 2 ≤ 600000) (hsc : sc + 26 ≤ 7302250) (kk : ∀ (tn : Nat) (kp : Int32) (sl : zSL) (im : zIM) (st : spT) (xw mw : va_W) (H : Heap) (locs : List Loc) (ls : Array Slot), zX Z x0 tn kp sl im st xw → zM Z m0 tn kp sl im st mw → zIv st tn (10000 * (j + 6)) → va_P Z.1 vwCl (xw ++ mw) H → va_D A (xw ++ mw) → va_S A s.heap H locs → lv_has ls 4 [(0, .ref b), (1, .ref x0), (2, .ref m0), (3, .int (nI j))] → W p l e room_1 s m #[Value.ref b] below meth c H locs (ce + 2) (sc + 26) (lw_Z below #[Value.ref b] s) (F0 m 1053 ls [])) {H : Heap} {locs : List Loc} {ls : Array Slot} (hP : va_P Z.1 vwCl (xw ++ mw) H) (hD : va_D A (xw ++ mw)) (hS : va_S A s.heap H locs) (hl : lv_has ls 4 [(0, .ref b), (1, .ref x0), (2, .ref m0), (3, .int (nI j))]) : W p l e room_1 s m #[Value.ref b] below meth c H locs (ce) (sc) (lw_Z below #[Value.ref b] s) (F0 m 643 ls []) := by
  obtain ⟨hx, hb, hr, hml, hown0, hts0, hX0, hbl, hlocks, hgv⟩ := id C0
  have hown : s.vm.findClass RL = some m.cls := hown0
  have hts : ∀ w ∈ wsL_law, w.before #[Value.ref b] s = true := fun w h => hts0 w (wsL_law_in w h)
  have hA : ∀ q : Nat, s.heap.size ≤ q → A q := by rw [hAe]; exact fun _ h => h
  have hbA : ¬ A b := by rw [hAe]; exact Nat.not_le.mpr hbl
  refine lv_aload_n hx hb dL_law_643 rfl (lv_at hl 1 rfl) ?_
  refine lv_aload_n hx hb dL_law_644 rfl (lv_at hl 0 rfl) ?_
  refine lv_iload_n hx hb dL_law_645 rfl (lv_at hl 3 rfl) ?_
  refine lv_iconst (v := 1) hx hb dL_law_646 (by decide) ?_
  refine lv_iadd hx hb dL_law_647 ?_
  refine lv_topi (fun f_1 ef_1 => ?_)
  obtain rfl : nI (j + 1) = f_1 := (ef_1.trans (nI_add j 1)).symm
  refine va_sld hx hb hX0 hbl hbA hS (vp_in_nI (by omega) (by omega)) dL_law_648 ?_
  refine lv_aload_n hx hb dL_law_649 rfl (lv_at hl 0 rfl) ?_
  refine lv_iload_n hx hb dL_law_650 rfl (lv_at hl 3 rfl) ?_
  refine lv_iconst (v := 2) hx hb dL_law_651 (by decide) ?_
  refine lv_iadd hx hb dL_law_652 ?_
  refine lv_topi (fun f_2 ef_2 => ?_)
  obtain rfl : nI (j + 2) = f_2 := (ef_2.trans (nI_add j 2)).symm
  refine va_sld hx hb hX0 hbl hbA hS (vp_in_nI (by omega) (by omega)) dL_law_653 ?_
  refine lv_aload_n hx hb dL_law_654 rfl (lv_at hl 0 rfl) ?_
  refine lv_iload_n hx hb dL_law_655 rfl (lv_at hl 3 rfl) ?_
  refine lv_iconst (v := 3) hx hb dL_law_656 (by decide) ?_
  refine lv_iadd hx hb dL_law_657 ?_
  refine lv_topi (fun f_3 ef_3 => ?_)
  obtain rfl : nI (j + 3) = f_3 := (ef_3.trans (nI_add j 3)).symm
  refine va_sld hx hb hX0 hbl hbA hS (vp_in_nI (by omega) (by omega)) dL_law_658 ?_
  have hPf := z_Pp ((List.Perm.refl (xw ++ mw))).symm hP
  have hDf := z_Dp ((List.Perm.refl (xw ++ mw))).symm hD
  have hPc := z_P0 hPf
  have hDc := z_D0 hDf
  have hFc := z_freeF (cs := xw) (rs := mw) (List.Perm.refl (xw ++ mw)) hD hS hA
  obtain ⟨kx, fsx, hkx⟩ := zX_cell hX
  refine va_calll (va_runV (As := [.int (xs (nI (j + 1)).toNatClampNeg), .int (xs (nI (j + 2)).toNatClampNeg), .int (xs (nI (j + 3)).toNatClampNeg)]) (rest := []) ⟨hx, hb, hml, hown, hts⟩ (cx_X8_exact l Z H.size x0 tn kp sl im st _ hok (by omega) kA vA wA (xs (nI (j + 1)).toNatClampNeg) (xs (nI (j + 2)).toNatClampNeg) (xs (nI (j + 3)).toNatClampNeg) xw hX ) (cwV 3 hts gL_law_X8_exact rfl rfl rfl (by decide +kernel) ⟨Nat.le_of_ble_eq_true rfl, Nat.le_of_ble_eq_true rfl⟩) ⟨fun a U g mk q => by obtain ⟨q0, q1, qP, qK, qD, qN, qG, qW⟩ := q; exact ⟨q0, q1, qP, va_K.moved (u := U) (U := U.calling g mk a) (Vm.Alike.refl U.vm) qK, qD, z_Nc (u := U) (U := U.calling g mk a) rfl qN, z_Gc (u := U) (U := U.calling g mk a) rfl rfl qG, z_Wc (u := U) (U := U.calling g mk a) rfl rfl qW⟩, va_recv hK hPc (ci := 8) rfl hkx, fun U hU hW => ⟨rfl, by rw [hU], by rw [hU]; exact hPc, va_K.moved hW.alike hK, hDc.weaken (fun _ _ _ _ => trivial), z_N hW hN, z_G hW hG hS hU hFc, z_W hW hG2 hS hU hFc⟩⟩ rfl rfl hl.1 rfl (lv_room (Nat.le_of_ble_eq_true rfl)) dL_law_659 ⟨show ce + 0 ≤ 600000 by omega, show sc + 0 ≤ 7302250 by omega⟩) hS (fun q _ h => hFc q h) hFc (fun r_1 u0 t9 H1 locs ht hvm hw hB hz1 hk1 hS => ?_)
  obtain ⟨hX, ha0⟩ := hw
  obtain ⟨hP1, hD1⟩ := hB
  rw [ht] at hP1
  have hj9 := z_joinF (cs := xw) (rs := mw) (full := xw ++ mw) (List.Perm.refl (xw ++ mw)) hP hD hk1 hFc hP1 hD1
  have hP := z_Pp (List.perm_append_comm (l₁ := mw) (l₂ := u0)) hj9.1
  have hD := z_Dp (List.perm_append_comm (l₁ := mw) (l₂ := u0)) hj9.2
  clear hPc hDc hPf hDf hP1 hD1 hj9 hk1 hz1 hFc ht hvm hkx
  generalize H1 = H at hP hS ⊢
  refine W.widen (k := ce) (n := sc) (by omega) (by omega) ?_
  refine lv_pop2_2 hx hb dL_law_662 rfl ?_
  refine lv_aload_n hx hb dL_law_663 rfl (lv_at hl 2 rfl) ?_
  refine lv_aload_n hx hb dL_law_664 rfl (lv_at hl 0 rfl) ?_
  refine lv_iload_n hx hb dL_law_665 rfl (lv_at hl 3 rfl) ?_
  refine lv_iconst (v := 1) hx hb dL_law_666 (by decide) ?_
  refine lv_iadd hx hb dL_law_667 ?_
  refine lv_topi (fun f_4 ef_4 => ?_)
  obtain rfl : nI (j + 1) = f_4 := (ef_4.trans (nI_add j 1)).symm
  refine va_sld hx hb hX0 hbl hbA hS (vp_in_nI (by omega) (by omega)) dL_law_668 ?_
  refine lv_aload_n hx hb dL_law_669 rfl (lv_at hl 0 rfl) ?_
  refine lv_iload_n hx hb dL_law_670 rfl (lv_at hl 3 rfl) ?_
  refine lv_iconst (v := 2) hx hb dL_law_671 (by decide) ?_
  refine lv_iadd hx hb dL_law_672 ?_
  refine lv_topi (fun f_5 ef_5 => ?_)
  obtain rfl : nI (j + 2) = f_5 := (ef_5.trans (nI_add j 2)).symm
  refine va_sld hx hb hX0 hbl hbA hS (vp_in_nI (by omega) (by omega)) dL_law_673 ?_
  refine lv_aload_n hx hb dL_law_674 rfl (lv_at hl 0 rfl) ?_
  refine lv_iload_n hx hb dL_law_675 rfl (lv_at hl 3 rfl) ?_
  refine lv_iconst (v := 3) hx hb dL_law_676 (by decide) ?_
  refine lv_iadd hx hb dL_law_677 ?_
  refine lv_topi (fun f_6 ef_6 => ?_)
  obtain rfl : nI (j + 3) = f_6 := (ef_6.trans (nI_add j 3)).symm
  refine va_sld hx hb hX0 hbl hbA hS (vp_in_nI (by omega) (by omega)) dL_law_678 ?_
  have hPf := z_Pp ((List.perm_append_comm (l₁ := mw) (l₂ := u0))).symm hP
  have hDf := z_Dp ((List.perm_append_comm (l₁ := mw) (l₂ := u0))).symm hD
  have hPc := z_P0 hPf
  have hDc := z_D0 hDf
  have hFc := z_freeF (cs := mw) (rs := u0) (List.perm_append_comm (l₁ := mw) (l₂ := u0)) hD hS hA
  obtain ⟨kx, fsx, hkx⟩ := zM_cell hM
  refine va_calll (va_runV (As := [.int (xs (nI (j + 1)).toNatClampNeg), .int (xs (nI (j + 2)).toNatClampNeg), .int (xs (nI (j + 3)).toNatClampNeg)]) (rest := []) ⟨hx, hb, hml, hown, hts⟩ (cm_exact l Z H.size m0 tn kp sl im st _ hok (by omega) (xs (nI (j + 1)).toNatClampNeg) (xs (nI (j + 2)).toNatClampNeg) (xs (nI (j + 3)).toNatClampNeg) mw hM) (cwV 3 hts gL_law_X9_exact rfl rfl rfl (by decide +kernel) ⟨Nat.le_of_ble_eq_true rfl, Nat.le_of_ble_eq_true rfl⟩) ⟨fun a U g mk q => by obtain ⟨q0, q1, qP, qK, qD⟩ := q; exact ⟨q0, q1, qP, va_K.moved (u := U) (U := U.calling g mk a) (Vm.Alike.refl U.vm) qK, qD⟩, va_recv hK hPc (ci := 9) rfl hkx, fun U hU hW => ⟨rfl, by rw [hU], by rw [hU]; exact hPc, va_K.moved hW.alike hK, hDc.weaken (fun _ _ _ _ => trivial)⟩⟩ rfl rfl hl.1 rfl (lv_room (Nat.le_of_ble_eq_true rfl)) dL_law_679 ⟨show ce + 0 ≤ 600000 by omega, show sc + 0 ≤ 7302250 by omega⟩) hS (fun q _ h => hFc q h) hFc (fun r_2 u1 t9 H1 locs ht hvm hw hB hz1 hk1 hS => ?_)
  obtain ⟨hM, ha1⟩ := hw
  obtain ⟨hP1, hD1⟩ := hB
  rw [ht] at hP1
  have hj9 := z_joinF (cs := mw) (rs := u0) (full := u0 ++ mw) (List.perm_append_comm (l₁ := mw) (l₂ := u0)) hP hD hk1 hFc hP1 hD1
  have hP := hj9.1
  have hD := hj9.2
  clear hPc hDc hPf hDf hP1 hD1 hj9 hk1 hz1 hFc ht hvm hkx
  generalize H1 = H at hP hS ⊢
  refine W.widen (k := ce) (n := sc) (by omega) (by omega) ?_
  refine lv_pop2_2 hx hb dL_law_682 rfl ?_
  refine lv_goto (tgt := 1053) hx hb dL_law_683 (by decide) ?_
  refine W.widen (k := ce + 2) (n := sc + 26) (by omega) (by omega) ?_
  exact kk _ _ _ _ _ _ _ H locs ls hX hM (zIv_mono (iv_same hok) (by omega)) hP hD hS (lv_sub hl [0, 1, 2, 3] rfl)
set_option maxHeartbeats 4000000 in
set_option maxRecDepth 100000 in
theorem law_18 {p : Program} {l : Launch} {e : Env} {s : State} {m : MethodId} {below : List Frame} {meth : Method} {c : Code} {b L : Nat} {xs : Nat → Int32} (C0 : lw_At p s m meth c b L xs) {A : Nat → Prop} (hAe : A = fun q : Nat => s.heap.size ≤ q) (Z : gZ) (kA vA wA : Nat) (hK : va_K Z.1 vwCl (gT Z) s) (hN : gN Z s) (hG : gS kA vA A s) (hG2 : gW wA A s) {x0 m0 tn : Nat} {kp : Int32} {sl : zSL} {im : zIM} {st : spT} {xw mw : va_W} (hX : zX Z x0 tn kp sl im st xw) (hM : zM Z m0 tn kp sl im st mw) {j ce sc : Nat} (hok : zIv st tn (10000 * j)) (hjL : j + 6 ≤ L) (hL : L ≤ 3072) (hce : ce + 2 ≤ 600000) (hsc : sc + 26 ≤ 7302250) (kk : ∀ (tn : Nat) (kp : Int32) (sl : zSL) (im : zIM) (st : spT) (xw mw : va_W) (H : Heap) (locs : List Loc) (ls : Array Slot), zX Z x0 tn kp sl im st xw → zM Z m0 tn kp sl im st mw → zIv st tn (10000 * (j + 6)) → va_P Z.1 vwCl (xw ++ mw) H → va_D A (xw ++ mw) → va_S A s.heap H locs → lv_has ls 4 [(0, .ref b), (1, .ref x0), (2, .ref m0), (3, .int (nI j))] → W p l e room_1 s m #[Value.ref b] below meth c H locs (ce + 2) (sc + 26) (lw_Z below #[Value.ref b] s) (F0 m 1053 ls [])) {H : Heap} {locs : List Loc} {ls : Array Slot} (hP : va_P Z.1 vwCl (xw ++ mw) H) (hD : va_D A (xw ++ mw)) (hS : va_S A s.heap H locs) (hl : lv_has ls 4 [(0, .ref b), (1, .ref x0), (2, .ref m0), (3, .int (nI j))]) : W p l e room_1 s m #[Value.ref b] below meth c H locs (ce) (sc) (lw_Z below #[Value.ref b] s) (F0 m 686 ls []) := by
  obtain ⟨hx, hb, hr, hml, hown0, hts0, hX0, hbl, hlocks, hgv⟩ := id C0
  have hown : s.vm.findClass RL = some m.cls := hown0
  have hts : ∀ w ∈ wsL_law, w.before #[Value.ref b] s = true := fun w h => hts0 w (wsL_law_in w h)
  have hA : ∀ q : Nat, s.heap.size ≤ q → A q := by rw [hAe]; exact fun _ h => h
  have hbA : ¬ A b := by rw [hAe]; exact Nat.not_le.mpr hbl
  refine lv_aload_n hx hb dL_law_686 rfl (lv_at hl 1 rfl) ?_
  refine lv_aload_n hx hb dL_law_687 rfl (lv_at hl 0 rfl) ?_
  refine lv_iload_n hx hb dL_law_688 rfl (lv_at hl 3 rfl) ?_
  refine lv_iconst (v := 1) hx hb dL_law_689 (by decide) ?_
  refine lv_iadd hx hb dL_law_690 ?_
  refine lv_topi (fun f_1 ef_1 => ?_)
  obtain rfl : nI (j + 1) = f_1 := (ef_1.trans (nI_add j 1)).symm
  refine va_sld hx hb hX0 hbl hbA hS (vp_in_nI (by omega) (by omega)) dL_law_691 ?_
  have hPf := z_Pp ((List.Perm.refl (xw ++ mw))).symm hP
  have hDf := z_Dp ((List.Perm.refl (xw ++ mw))).symm hD
  have hPc := z_P0 hPf
  have hDc := z_D0 hDf
  have hFc := z_freeF (cs := xw) (rs := mw) (List.Perm.refl (xw ++ mw)) hD hS hA
  obtain ⟨kx, fsx, hkx⟩ := zX_cell hX
  refine va_calli (va_runV (As := [.int (xs (nI (j + 1)).toNatClampNeg)]) (rest := []) ⟨hx, hb, hml, hown, hts⟩ (cx_X8_shun l Z H.size x0 tn kp sl im st _ hok (by omega) kA vA wA (xs (nI (j + 1)).toNatClampNeg) xw hX ) (cwV 1 hts gL_law_X8_shun rfl rfl rfl (by decide +kernel) ⟨Nat.le_of_ble_eq_true rfl, Nat.le_of_ble_eq_true rfl⟩) ⟨fun a U g mk q => by obtain ⟨q0, q1, qP, qK, qD, qN, qG, qW⟩ := q; exact ⟨q0, q1, qP, va_K.moved (u := U) (U := U.calling g mk a) (Vm.Alike.refl U.vm) qK, qD, z_Nc (u := U) (U := U.calling g mk a) rfl qN, z_Gc (u := U) (U := U.calling g mk a) rfl rfl qG, z_Wc (u := U) (U := U.calling g mk a) rfl rfl qW⟩, va_recv hK hPc (ci := 8) rfl hkx, fun U hU hW => ⟨rfl, by rw [hU], by rw [hU]; exact hPc, va_K.moved hW.alike hK, hDc.weaken (fun _ _ _ _ => trivial), z_N hW hN, z_G hW hG hS hU hFc, z_W hW hG2 hS hU hFc⟩⟩ rfl rfl hl.1 rfl (lv_room (Nat.le_of_ble_eq_true rfl)) dL_law_692 ⟨show ce + 0 ≤ 600000 by omega, show sc + 0 ≤ 7302250 by omega⟩) hS (fun q _ h => hFc q h) hFc (fun r_1 u0 t9 H1 locs ht hvm hw hB hz1 hk1 hS => ?_)
  obtain ⟨hX, ha0⟩ := hw
  obtain ⟨hP1, hD1⟩ := hB
  rw [ht] at hP1
  have hj9 := z_joinF (cs := xw) (rs := mw) (full := xw ++ mw) (List.Perm.refl (xw ++ mw)) hP hD hk1 hFc hP1 hD1
  have hP := z_Pp (List.perm_append_comm (l₁ := mw) (l₂ := u0)) hj9.1
  have hD := z_Dp (List.perm_append_comm (l₁ := mw) (l₂ := u0)) hj9.2
  clear hPc hDc hPf hDf hP1 hD1 hj9 hk1 hz1 hFc ht hvm hkx
  generalize H1 = H at hP hS ⊢
  refine W.widen (k := ce) (n := sc) (by omega) (by omega) ?_
  refine lv_pop hx hb dL_law_695 rfl ?_
  refine lv_aload_n hx hb dL_law_696 rfl (lv_at hl 2 rfl) ?_
  refine lv_aload_n hx hb dL_law_697 rfl (lv_at hl 0 rfl) ?_
  refine lv_iload_n hx hb dL_law_698 rfl (lv_at hl 3 rfl) ?_
  refine lv_iconst (v := 1) hx hb dL_law_699 (by decide) ?_
  refine lv_iadd hx hb dL_law_700 ?_
  refine lv_topi (fun f_2 ef_2 => ?_)
  obtain rfl : nI (j + 1) = f_2 := (ef_2.trans (nI_add j 1)).symm
  refine va_sld hx hb hX0 hbl hbA hS (vp_in_nI (by omega) (by omega)) dL_law_701 ?_
  have hPf := z_Pp ((List.perm_append_comm (l₁ := mw) (l₂ := u0))).symm hP
  have hDf := z_Dp ((List.perm_append_comm (l₁ := mw) (l₂ := u0))).symm hD
  have hPc := z_P0 hPf
  have hDc := z_D0 hDf
  have hFc := z_freeF (cs := mw) (rs := u0) (List.perm_append_comm (l₁ := mw) (l₂ := u0)) hD hS hA
  obtain ⟨kx, fsx, hkx⟩ := zM_cell hM
  refine va_calli (va_runV (As := [.int (xs (nI (j + 1)).toNatClampNeg)]) (rest := []) ⟨hx, hb, hml, hown, hts⟩ (cm_shun l Z H.size m0 tn kp sl im st _ hok (by omega) (xs (nI (j + 1)).toNatClampNeg) mw hM) (cwV 1 hts gL_law_X9_shun rfl rfl rfl (by decide +kernel) ⟨Nat.le_of_ble_eq_true rfl, Nat.le_of_ble_eq_true rfl⟩) ⟨fun a U g mk q => by obtain ⟨q0, q1, qP, qK, qD⟩ := q; exact ⟨q0, q1, qP, va_K.moved (u := U) (U := U.calling g mk a) (Vm.Alike.refl U.vm) qK, qD⟩, va_recv hK hPc (ci := 9) rfl hkx, fun U hU hW => ⟨rfl, by rw [hU], by rw [hU]; exact hPc, va_K.moved hW.alike hK, hDc.weaken (fun _ _ _ _ => trivial)⟩⟩ rfl rfl hl.1 rfl (lv_room (Nat.le_of_ble_eq_true rfl)) dL_law_702 ⟨show ce + 0 ≤ 600000 by omega, show sc + 0 ≤ 7302250 by omega⟩) hS (fun q _ h => hFc q h) hFc (fun r_2 u1 t9 H1 locs ht hvm hw hB hz1 hk1 hS => ?_)
  obtain ⟨hM, ha1⟩ := hw
  obtain ⟨hP1, hD1⟩ := hB
  rw [ht] at hP1
  have hj9 := z_joinF (cs := mw) (rs := u0) (full := u0 ++ mw) (List.perm_append_comm (l₁ := mw) (l₂ := u0)) hP hD hk1 hFc hP1 hD1
  have hP := hj9.1
  have hD := hj9.2
  clear hPc hDc hPf hDf hP1 hD1 hj9 hk1 hz1 hFc ht hvm hkx
  generalize H1 = H at hP hS ⊢
  refine W.widen (k := ce) (n := sc) (by omega) (by omega) ?_
  refine lv_pop hx hb dL_law_705 rfl ?_
  refine lv_goto (tgt := 1053) hx hb dL_law_706 (by decide) ?_
  refine W.widen (k := ce + 2) (n := sc + 26) (by omega) (by omega) ?_
  exact kk _ _ _ _ _ _ _ H locs ls hX hM (zIv_mono (iv_same hok) (by omega)) hP hD hS (lv_sub hl [0, 1, 2, 3] rfl)
set_option maxHeartbeats 4000000 in
set_option maxRecDepth 100000 in
theorem law_19 {p : Program} {l : Launch} {e : Env} {s : State} {m : MethodId} {below : List Frame} {meth : Method} {c : Code} {b L : Nat} {xs : Nat → Int32} (C0 : lw_At p s m meth c b L xs) {A : Nat → Prop} (hAe : A = fun q : Nat => s.heap.size ≤ q) (Z : gZ) (kA vA wA : Nat) (hK : va_K Z.1 vwCl (gT Z) s) (hN : gN Z s) (hG : gS kA vA A s) (hG2 : gW wA A s) {x0 m0 tn : Nat} {kp : Int32} {sl : zSL} {im : zIM} {st : spT} {xw mw : va_W} (hX : zX Z x0 tn kp sl im st xw) (hM : zM Z m0 tn kp sl im st mw) {j ce sc : Nat} (hok : zIv st tn (10000 * j)) (hjL : j + 6 ≤ L) (hL : L ≤ 3072) (hce : ce + 2 ≤ 600000) (hsc : sc + 26 ≤ 7302250) (kk : ∀ (tn : Nat) (kp : Int32) (sl : zSL) (im : zIM) (st : spT) (xw mw : va_W) (H : Heap) (locs : List Loc) (ls : Array Slot), zX Z x0 tn kp sl im st xw → zM Z m0 tn kp sl im st mw → zIv st tn (10000 * (j + 6)) → va_P Z.1 vwCl (xw ++ mw) H → va_D A (xw ++ mw) → va_S A s.heap H locs → lv_has ls 4 [(0, .ref b), (1, .ref x0), (2, .ref m0), (3, .int (nI j))] → W p l e room_1 s m #[Value.ref b] below meth c H locs (ce + 2) (sc + 26) (lw_Z below #[Value.ref b] s) (F0 m 1053 ls [])) {H : Heap} {locs : List Loc} {ls : Array Slot} (hP : va_P Z.1 vwCl (xw ++ mw) H) (hD : va_D A (xw ++ mw)) (hS : va_S A s.heap H locs) (hl : lv_has ls 4 [(0, .ref b), (1, .ref x0), (2, .ref m0), (3, .int (nI j))]) : W p l e room_1 s m #[Value.ref b] below meth c H locs (ce) (sc) (lw_Z below #[Value.ref b] s) (F0 m 709 ls []) := by
  obtain ⟨hx, hb, hr, hml, hown0, hts0, hX0, hbl, hlocks, hgv⟩ := id C0
  have hown : s.vm.findClass RL = some m.cls := hown0
  have hts : ∀ w ∈ wsL_law, w.before #[Value.ref b] s = true := fun w h => hts0 w (wsL_law_in w h)
  have hA : ∀ q : Nat, s.heap.size ≤ q → A q := by rw [hAe]; exact fun _ h => h
  have hbA : ¬ A b := by rw [hAe]; exact Nat.not_le.mpr hbl
  refine lv_aload_n hx hb dL_law_709 rfl (lv_at hl 1 rfl) ?_
  have hPf := z_Pp ((List.Perm.refl (xw ++ mw))).symm hP
  have hDf := z_Dp ((List.Perm.refl (xw ++ mw))).symm hD
  have hPc := z_P0 hPf
  have hDc := z_D0 hDf
  have hFc := z_freeF (cs := xw) (rs := mw) (List.Perm.refl (xw ++ mw)) hD hS hA
  obtain ⟨kx, fsx, hkx⟩ := zX_cell hX
  refine va_calli (va_runV (As := []) (rest := []) ⟨hx, hb, hml, hown, hts⟩ (cx_X8_image l Z H.size x0 tn kp sl im st _ hok (by omega) kA vA wA  xw hX ) (cwV 0 hts gL_law_X8_image rfl rfl rfl (by decide +kernel) ⟨Nat.le_of_ble_eq_true rfl, Nat.le_of_ble_eq_true rfl⟩) ⟨fun a U g mk q => by obtain ⟨q0, q1, qP, qK, qD, qN, qG, qW⟩ := q; exact ⟨q0, q1, qP, va_K.moved (u := U) (U := U.calling g mk a) (Vm.Alike.refl U.vm) qK, qD, z_Nc (u := U) (U := U.calling g mk a) rfl qN, z_Gc (u := U) (U := U.calling g mk a) rfl rfl qG, z_Wc (u := U) (U := U.calling g mk a) rfl rfl qW⟩, va_recv hK hPc (ci := 8) rfl hkx, fun U hU hW => ⟨rfl, by rw [hU], by rw [hU]; exact hPc, va_K.moved hW.alike hK, hDc.weaken (fun _ _ _ _ => trivial), z_N hW hN, z_G hW hG hS hU hFc, z_W hW hG2 hS hU hFc⟩⟩ rfl rfl hl.1 rfl (lv_room (Nat.le_of_ble_eq_true rfl)) dL_law_710 ⟨show ce + 0 ≤ 600000 by omega, show sc + 0 ≤ 7302250 by omega⟩) hS (fun q _ h => hFc q h) hFc (fun r_1 u0 t9 H1 locs ht hvm hw hB hz1 hk1 hS => ?_)
  obtain ⟨hX, ha0⟩ := hw
  obtain ⟨hP1, hD1⟩ := hB
  rw [ht] at hP1
  have hj9 := z_joinF (cs := xw) (rs := mw) (full := xw ++ mw) (List.Perm.refl (xw ++ mw)) hP hD hk1 hFc hP1 hD1
  have hP := z_Pp (List.perm_append_comm (l₁ := mw) (l₂ := u0)) hj9.1
  have hD := z_Dp (List.perm_append_comm (l₁ := mw) (l₂ := u0)) hj9.2
  clear hPc hDc hPf hDf hP1 hD1 hj9 hk1 hz1 hFc ht hvm hkx
  generalize H1 = H at hP hS ⊢
  refine W.widen (k := ce) (n := sc) (by omega) (by omega) ?_
  refine lv_pop hx hb dL_law_713 rfl ?_
  refine lv_aload_n hx hb dL_law_714 rfl (lv_at hl 2 rfl) ?_
  have hPf := z_Pp ((List.perm_append_comm (l₁ := mw) (l₂ := u0))).symm hP
  have hDf := z_Dp ((List.perm_append_comm (l₁ := mw) (l₂ := u0))).symm hD
  have hPc := z_P0 hPf
  have hDc := z_D0 hDf
  have hFc := z_freeF (cs := mw) (rs := u0) (List.perm_append_comm (l₁ := mw) (l₂ := u0)) hD hS hA
  obtain ⟨kx, fsx, hkx⟩ := zM_cell hM
  refine va_calli (va_runV (As := []) (rest := []) ⟨hx, hb, hml, hown, hts⟩ (cm_image l Z H.size m0 tn kp sl im st _ hok (by omega)  mw hM) (cwV 0 hts gL_law_X9_image rfl rfl rfl (by decide +kernel) ⟨Nat.le_of_ble_eq_true rfl, Nat.le_of_ble_eq_true rfl⟩) ⟨fun a U g mk q => by obtain ⟨q0, q1, qP, qK, qD⟩ := q; exact ⟨q0, q1, qP, va_K.moved (u := U) (U := U.calling g mk a) (Vm.Alike.refl U.vm) qK, qD⟩, va_recv hK hPc (ci := 9) rfl hkx, fun U hU hW => ⟨rfl, by rw [hU], by rw [hU]; exact hPc, va_K.moved hW.alike hK, hDc.weaken (fun _ _ _ _ => trivial)⟩⟩ rfl rfl hl.1 rfl (lv_room (Nat.le_of_ble_eq_true rfl)) dL_law_715 ⟨show ce + 0 ≤ 600000 by omega, show sc + 0 ≤ 7302250 by omega⟩) hS (fun q _ h => hFc q h) hFc (fun r_2 u1 t9 H1 locs ht hvm hw hB hz1 hk1 hS => ?_)
  obtain ⟨hM, ha1⟩ := hw
  obtain ⟨hP1, hD1⟩ := hB
  rw [ht] at hP1
  have hj9 := z_joinF (cs := mw) (rs := u0) (full := u0 ++ mw) (List.perm_append_comm (l₁ := mw) (l₂ := u0)) hP hD hk1 hFc hP1 hD1
  have hP := hj9.1
  have hD := hj9.2
  clear hPc hDc hPf hDf hP1 hD1 hj9 hk1 hz1 hFc ht hvm hkx
  generalize H1 = H at hP hS ⊢
  refine W.widen (k := ce) (n := sc) (by omega) (by omega) ?_
  refine lv_pop hx hb dL_law_718 rfl ?_
  refine lv_goto (tgt := 1053) hx hb dL_law_719 (by decide) ?_
  refine W.widen (k := ce + 2) (n := sc + 26) (by omega) (by omega) ?_
  exact kk _ _ _ _ _ _ _ H locs ls hX hM (zIv_mono (iv_image hok) (by omega)) hP hD hS (lv_sub hl [0, 1, 2, 3] rfl)
set_option maxHeartbeats 4000000 in
set_option maxRecDepth 100000 in
theorem law_20 {p : Program} {l : Launch} {e : Env} {s : State} {m : MethodId} {below : List Frame} {meth : Method} {c : Code} {b L : Nat} {xs : Nat → Int32} (C0 : lw_At p s m meth c b L xs) {A : Nat → Prop} (hAe : A = fun q : Nat => s.heap.size ≤ q) (Z : gZ) (kA vA wA : Nat) (hK : va_K Z.1 vwCl (gT Z) s) (hN : gN Z s) (hG : gS kA vA A s) (hG2 : gW wA A s) {x0 m0 tn : Nat} {kp : Int32} {sl : zSL} {im : zIM} {st : spT} {xw mw : va_W} (hX : zX Z x0 tn kp sl im st xw) (hM : zM Z m0 tn kp sl im st mw) {j ce sc : Nat} (hok : zIv st tn (10000 * j)) (hjL : j + 6 ≤ L) (hL : L ≤ 3072) (hce : ce + 2 ≤ 600000) (hsc : sc + 26 ≤ 7302250) (kk : ∀ (tn : Nat) (kp : Int32) (sl : zSL) (im : zIM) (st : spT) (xw mw : va_W) (H : Heap) (locs : List Loc) (ls : Array Slot), zX Z x0 tn kp sl im st xw → zM Z m0 tn kp sl im st mw → zIv st tn (10000 * (j + 6)) → va_P Z.1 vwCl (xw ++ mw) H → va_D A (xw ++ mw) → va_S A s.heap H locs → lv_has ls 4 [(0, .ref b), (1, .ref x0), (2, .ref m0), (3, .int (nI j))] → W p l e room_1 s m #[Value.ref b] below meth c H locs (ce + 2) (sc + 26) (lw_Z below #[Value.ref b] s) (F0 m 1053 ls [])) {H : Heap} {locs : List Loc} {ls : Array Slot} (hP : va_P Z.1 vwCl (xw ++ mw) H) (hD : va_D A (xw ++ mw)) (hS : va_S A s.heap H locs) (hl : lv_has ls 4 [(0, .ref b), (1, .ref x0), (2, .ref m0), (3, .int (nI j))]) : W p l e room_1 s m #[Value.ref b] below meth c H locs (ce) (sc) (lw_Z below #[Value.ref b] s) (F0 m 722 ls []) := by
  obtain ⟨hx, hb, hr, hml, hown0, hts0, hX0, hbl, hlocks, hgv⟩ := id C0
  have hown : s.vm.findClass RL = some m.cls := hown0
  have hts : ∀ w ∈ wsL_law, w.before #[Value.ref b] s = true := fun w h => hts0 w (wsL_law_in w h)
  have hA : ∀ q : Nat, s.heap.size ≤ q → A q := by rw [hAe]; exact fun _ h => h
  have hbA : ¬ A b := by rw [hAe]; exact Nat.not_le.mpr hbl
  refine lv_aload_n hx hb dL_law_722 rfl (lv_at hl 1 rfl) ?_
  have hPf := z_Pp ((List.Perm.refl (xw ++ mw))).symm hP
  have hDf := z_Dp ((List.Perm.refl (xw ++ mw))).symm hD
  have hPc := z_P0 hPf
  have hDc := z_D0 hDf
  have hFc := z_freeF (cs := xw) (rs := mw) (List.Perm.refl (xw ++ mw)) hD hS hA
  obtain ⟨kx, fsx, hkx⟩ := zX_cell hX
  refine va_calli (va_runV (As := []) (rest := []) ⟨hx, hb, hml, hown, hts⟩ (cx_X8_restore l Z H.size x0 tn kp sl im st _ hok (by omega) kA vA wA  xw hX ) (cwV 0 hts gL_law_X8_restore rfl rfl rfl (by decide +kernel) ⟨Nat.le_of_ble_eq_true rfl, Nat.le_of_ble_eq_true rfl⟩) ⟨fun a U g mk q => by obtain ⟨q0, q1, qP, qK, qD, qN, qG, qW⟩ := q; exact ⟨q0, q1, qP, va_K.moved (u := U) (U := U.calling g mk a) (Vm.Alike.refl U.vm) qK, qD, z_Nc (u := U) (U := U.calling g mk a) rfl qN, z_Gc (u := U) (U := U.calling g mk a) rfl rfl qG, z_Wc (u := U) (U := U.calling g mk a) rfl rfl qW⟩, va_recv hK hPc (ci := 8) rfl hkx, fun U hU hW => ⟨rfl, by rw [hU], by rw [hU]; exact hPc, va_K.moved hW.alike hK, hDc.weaken (fun _ _ _ _ => trivial), z_N hW hN, z_G hW hG hS hU hFc, z_W hW hG2 hS hU hFc⟩⟩ rfl rfl hl.1 rfl (lv_room (Nat.le_of_ble_eq_true rfl)) dL_law_723 ⟨show ce + 0 ≤ 600000 by omega, show sc + 0 ≤ 7302250 by omega⟩) hS (fun q _ h => hFc q h) hFc (fun r_1 u0 t9 H1 locs ht hvm hw hB hz1 hk1 hS => ?_)
  obtain ⟨hX, ha0⟩ := hw
  obtain ⟨hP1, hD1⟩ := hB
  rw [ht] at hP1
  have hj9 := z_joinF (cs := xw) (rs := mw) (full := xw ++ mw) (List.Perm.refl (xw ++ mw)) hP hD hk1 hFc hP1 hD1
  have hP := z_Pp (List.perm_append_comm (l₁ := mw) (l₂ := u0)) hj9.1
  have hD := z_Dp (List.perm_append_comm (l₁ := mw) (l₂ := u0)) hj9.2
  clear hPc hDc hPf hDf hP1 hD1 hj9 hk1 hz1 hFc ht hvm hkx
  generalize H1 = H at hP hS ⊢
  refine W.widen (k := ce) (n := sc) (by omega) (by omega) ?_
  refine lv_pop hx hb dL_law_726 rfl ?_
  refine lv_aload_n hx hb dL_law_727 rfl (lv_at hl 2 rfl) ?_
  have hPf := z_Pp ((List.perm_append_comm (l₁ := mw) (l₂ := u0))).symm hP
  have hDf := z_Dp ((List.perm_append_comm (l₁ := mw) (l₂ := u0))).symm hD
  have hPc := z_P0 hPf
  have hDc := z_D0 hDf
  have hFc := z_freeF (cs := mw) (rs := u0) (List.perm_append_comm (l₁ := mw) (l₂ := u0)) hD hS hA
  obtain ⟨kx, fsx, hkx⟩ := zM_cell hM
  refine va_calli (va_runV (As := []) (rest := []) ⟨hx, hb, hml, hown, hts⟩ (cm_restore l Z H.size m0 tn kp sl im st _ hok (by omega)  mw hM) (cwV 0 hts gL_law_X9_restore rfl rfl rfl (by decide +kernel) ⟨Nat.le_of_ble_eq_true rfl, Nat.le_of_ble_eq_true rfl⟩) ⟨fun a U g mk q => by obtain ⟨q0, q1, qP, qK, qD⟩ := q; exact ⟨q0, q1, qP, va_K.moved (u := U) (U := U.calling g mk a) (Vm.Alike.refl U.vm) qK, qD⟩, va_recv hK hPc (ci := 9) rfl hkx, fun U hU hW => ⟨rfl, by rw [hU], by rw [hU]; exact hPc, va_K.moved hW.alike hK, hDc.weaken (fun _ _ _ _ => trivial)⟩⟩ rfl rfl hl.1 rfl (lv_room (Nat.le_of_ble_eq_true rfl)) dL_law_728 ⟨show ce + 0 ≤ 600000 by omega, show sc + 0 ≤ 7302250 by omega⟩) hS (fun q _ h => hFc q h) hFc (fun r_2 u1 t9 H1 locs ht hvm hw hB hz1 hk1 hS => ?_)
  obtain ⟨hM, ha1⟩ := hw
  obtain ⟨hP1, hD1⟩ := hB
  rw [ht] at hP1
  have hj9 := z_joinF (cs := mw) (rs := u0) (full := u0 ++ mw) (List.perm_append_comm (l₁ := mw) (l₂ := u0)) hP hD hk1 hFc hP1 hD1
  have hP := hj9.1
  have hD := hj9.2
  clear hPc hDc hPf hDf hP1 hD1 hj9 hk1 hz1 hFc ht hvm hkx
  generalize H1 = H at hP hS ⊢
  refine W.widen (k := ce) (n := sc) (by omega) (by omega) ?_
  refine lv_pop hx hb dL_law_731 rfl ?_
  refine lv_goto (tgt := 1053) hx hb dL_law_732 (by decide) ?_
  refine W.widen (k := ce + 2) (n := sc + 26) (by omega) (by omega) ?_
  exact kk _ _ _ _ _ _ _ H locs ls hX hM (zIv_mono (iv_restore hok) (by omega)) hP hD hS (lv_sub hl [0, 1, 2, 3] rfl)
set_option maxHeartbeats 4000000 in
set_option maxRecDepth 100000 in
theorem law_21 {p : Program} {l : Launch} {e : Env} {s : State} {m : MethodId} {below : List Frame} {meth : Method} {c : Code} {b L : Nat} {xs : Nat → Int32} (C0 : lw_At p s m meth c b L xs) {A : Nat → Prop} (hAe : A = fun q : Nat => s.heap.size ≤ q) (Z : gZ) (kA vA wA : Nat) (hK : va_K Z.1 vwCl (gT Z) s) (hN : gN Z s) (hG : gS kA vA A s) (hG2 : gW wA A s) {x0 m0 tn : Nat} {kp : Int32} {sl : zSL} {im : zIM} {st : spT} {xw mw : va_W} (hX : zX Z x0 tn kp sl im st xw) (hM : zM Z m0 tn kp sl im st mw) {j ce sc : Nat} (hok : zIv st tn (10000 * j)) (hjL : j + 6 ≤ L) (hL : L ≤ 3072) (hce : ce + 2 ≤ 600000) (hsc : sc + 26 ≤ 7302250) (kk : ∀ (tn : Nat) (kp : Int32) (sl : zSL) (im : zIM) (st : spT) (xw mw : va_W) (H : Heap) (locs : List Loc) (ls : Array Slot), zX Z x0 tn kp sl im st xw → zM Z m0 tn kp sl im st mw → zIv st tn (10000 * (j + 6)) → va_P Z.1 vwCl (xw ++ mw) H → va_D A (xw ++ mw) → va_S A s.heap H locs → lv_has ls 4 [(0, .ref b), (1, .ref x0), (2, .ref m0), (3, .int (nI j))] → W p l e room_1 s m #[Value.ref b] below meth c H locs (ce + 2) (sc + 26) (lw_Z below #[Value.ref b] s) (F0 m 1053 ls [])) {H : Heap} {locs : List Loc} {ls : Array Slot} (hP : va_P Z.1 vwCl (xw ++ mw) H) (hD : va_D A (xw ++ mw)) (hS : va_S A s.heap H locs) (hl : lv_has ls 4 [(0, .ref b), (1, .ref x0), (2, .ref m0), (3, .int (nI j))]) : W p l e room_1 s m #[Value.ref b] below meth c H locs (ce) (sc) (lw_Z below #[Value.ref b] s) (F0 m 735 ls []) := by
  obtain ⟨hx, hb, hr, hml, hown0, hts0, hX0, hbl, hlocks, hgv⟩ := id C0
  have hown : s.vm.findClass RL = some m.cls := hown0
  have hts : ∀ w ∈ wsL_law, w.before #[Value.ref b] s = true := fun w h => hts0 w (wsL_law_in w h)
  have hA : ∀ q : Nat, s.heap.size ≤ q → A q := by rw [hAe]; exact fun _ h => h
  have hbA : ¬ A b := by rw [hAe]; exact Nat.not_le.mpr hbl
  rcases z_slc sl (xs (nI (j + 1)).toNatClampNeg) with hno | ⟨ha9, ln, len, hso⟩
  · refine lv_aload_n hx hb dL_law_735 rfl (lv_at hl 1 rfl) ?_
    refine lv_aload_n hx hb dL_law_736 rfl (lv_at hl 0 rfl) ?_
    refine lv_iload_n hx hb dL_law_737 rfl (lv_at hl 3 rfl) ?_
    refine lv_iconst (v := 1) hx hb dL_law_738 (by decide) ?_
    refine lv_iadd hx hb dL_law_739 ?_
    refine lv_topi (fun f_1 ef_1 => ?_)
    obtain rfl : nI (j + 1) = f_1 := (ef_1.trans (nI_add j 1)).symm
    refine va_sld hx hb hX0 hbl hbA hS (vp_in_nI (by omega) (by omega)) dL_law_740 ?_
    refine lv_aload_n hx hb dL_law_741 rfl (lv_at hl 0 rfl) ?_
    refine lv_iload_n hx hb dL_law_742 rfl (lv_at hl 3 rfl) ?_
    refine lv_iconst (v := 2) hx hb dL_law_743 (by decide) ?_
    refine lv_iadd hx hb dL_law_744 ?_
    refine lv_topi (fun f_2 ef_2 => ?_)
    obtain rfl : nI (j + 2) = f_2 := (ef_2.trans (nI_add j 2)).symm
    refine va_sld hx hb hX0 hbl hbA hS (vp_in_nI (by omega) (by omega)) dL_law_745 ?_
    refine lv_aload_n hx hb dL_law_746 rfl (lv_at hl 0 rfl) ?_
    refine lv_iload_n hx hb dL_law_747 rfl (lv_at hl 3 rfl) ?_
    refine lv_iconst (v := 3) hx hb dL_law_748 (by decide) ?_
    refine lv_iadd hx hb dL_law_749 ?_
    refine lv_topi (fun f_3 ef_3 => ?_)
    obtain rfl : nI (j + 3) = f_3 := (ef_3.trans (nI_add j 3)).symm
    refine va_sld hx hb hX0 hbl hbA hS (vp_in_nI (by omega) (by omega)) dL_law_750 ?_
    refine lv_aload_n hx hb dL_law_751 rfl (lv_at hl 0 rfl) ?_
    refine lv_iload_n hx hb dL_law_752 rfl (lv_at hl 3 rfl) ?_
    refine lv_iconst (v := 4) hx hb dL_law_753 (by decide) ?_
    refine lv_iadd hx hb dL_law_754 ?_
    refine lv_topi (fun f_4 ef_4 => ?_)
    obtain rfl : nI (j + 4) = f_4 := (ef_4.trans (nI_add j 4)).symm
    refine va_sld hx hb hX0 hbl hbA hS (vp_in_nI (by omega) (by omega)) dL_law_755 ?_
    refine lv_aload_n hx hb dL_law_756 rfl (lv_at hl 0 rfl) ?_
    refine lv_iload_n hx hb dL_law_757 rfl (lv_at hl 3 rfl) ?_
    refine lv_iconst (v := 5) hx hb dL_law_758 (by decide) ?_
    refine lv_iadd hx hb dL_law_759 ?_
    refine lv_topi (fun f_5 ef_5 => ?_)
    obtain rfl : nI (j + 5) = f_5 := (ef_5.trans (nI_add j 5)).symm
    refine va_sld hx hb hX0 hbl hbA hS (vp_in_nI (by omega) (by omega)) dL_law_760 ?_
    have hPf := z_Pp ((List.Perm.refl (xw ++ mw))).symm hP
    have hDf := z_Dp ((List.Perm.refl (xw ++ mw))).symm hD
    have hPc := z_P0 hPf
    have hDc := z_D0 hDf
    have hFc := z_freeF (cs := xw) (rs := mw) (List.Perm.refl (xw ++ mw)) hD hS hA
    obtain ⟨kx, fsx, hkx⟩ := zX_cell hX
    refine va_calli (va_runV (As := [.int (xs (nI (j + 1)).toNatClampNeg), .int (xs (nI (j + 2)).toNatClampNeg), .int (xs (nI (j + 3)).toNatClampNeg), .int (xs (nI (j + 4)).toNatClampNeg), .int (xs (nI (j + 5)).toNatClampNeg)]) (rest := []) ⟨hx, hb, hml, hown, hts⟩ (cx_X8_who_N l Z H.size x0 tn kp sl im st _ hok (by omega) kA vA wA (xs (nI (j + 1)).toNatClampNeg) (xs (nI (j + 2)).toNatClampNeg) (xs (nI (j + 3)).toNatClampNeg) (xs (nI (j + 4)).toNatClampNeg) (xs (nI (j + 5)).toNatClampNeg) xw hX hno) (cwV 5 hts gL_law_X8_who rfl rfl rfl (by decide +kernel) ⟨Nat.le_of_ble_eq_true rfl, Nat.le_of_ble_eq_true rfl⟩) ⟨fun a U g mk q => by obtain ⟨q0, q1, qP, qK, qD, qN, qG, qW⟩ := q; exact ⟨q0, q1, qP, va_K.moved (u := U) (U := U.calling g mk a) (Vm.Alike.refl U.vm) qK, qD, z_Nc (u := U) (U := U.calling g mk a) rfl qN, z_Gc (u := U) (U := U.calling g mk a) rfl rfl qG, z_Wc (u := U) (U := U.calling g mk a) rfl rfl qW⟩, va_recv hK hPc (ci := 8) rfl hkx, fun U hU hW => ⟨rfl, by rw [hU], by rw [hU]; exact hPc, va_K.moved hW.alike hK, hDc.weaken (fun _ _ _ _ => trivial), z_N hW hN, z_G hW hG hS hU hFc, z_W hW hG2 hS hU hFc⟩⟩ rfl rfl hl.1 rfl (lv_room (Nat.le_of_ble_eq_true rfl)) dL_law_761 ⟨show ce + 0 ≤ 600000 by omega, show sc + 0 ≤ 7302250 by omega⟩) hS (fun q _ h => hFc q h) hFc (fun r_1 u0 t9 H1 locs ht hvm hw hB hz1 hk1 hS => ?_)
    obtain ⟨hX, ha0⟩ := hw
    obtain ⟨hP1, hD1⟩ := hB
    rw [ht] at hP1
    have hj9 := z_joinF (cs := xw) (rs := mw) (full := xw ++ mw) (List.Perm.refl (xw ++ mw)) hP hD hk1 hFc hP1 hD1
    have hP := z_Pp (List.perm_append_comm (l₁ := mw) (l₂ := u0)) hj9.1
    have hD := z_Dp (List.perm_append_comm (l₁ := mw) (l₂ := u0)) hj9.2
    clear hPc hDc hPf hDf hP1 hD1 hj9 hk1 hz1 hFc ht hvm hkx
    generalize H1 = H at hP hS ⊢
    refine W.widen (k := ce) (n := sc) (by omega) (by omega) ?_
    refine lv_pop hx hb dL_law_764 rfl ?_
    refine lv_aload_n hx hb dL_law_765 rfl (lv_at hl 2 rfl) ?_
    refine lv_aload_n hx hb dL_law_766 rfl (lv_at hl 0 rfl) ?_
    refine lv_iload_n hx hb dL_law_767 rfl (lv_at hl 3 rfl) ?_
    refine lv_iconst (v := 1) hx hb dL_law_768 (by decide) ?_
    refine lv_iadd hx hb dL_law_769 ?_
    refine lv_topi (fun f_6 ef_6 => ?_)
    obtain rfl : nI (j + 1) = f_6 := (ef_6.trans (nI_add j 1)).symm
    refine va_sld hx hb hX0 hbl hbA hS (vp_in_nI (by omega) (by omega)) dL_law_770 ?_
    refine lv_aload_n hx hb dL_law_771 rfl (lv_at hl 0 rfl) ?_
    refine lv_iload_n hx hb dL_law_772 rfl (lv_at hl 3 rfl) ?_
    refine lv_iconst (v := 2) hx hb dL_law_773 (by decide) ?_
    refine lv_iadd hx hb dL_law_774 ?_
    refine lv_topi (fun f_7 ef_7 => ?_)
    obtain rfl : nI (j + 2) = f_7 := (ef_7.trans (nI_add j 2)).symm
    refine va_sld hx hb hX0 hbl hbA hS (vp_in_nI (by omega) (by omega)) dL_law_775 ?_
    refine lv_aload_n hx hb dL_law_776 rfl (lv_at hl 0 rfl) ?_
    refine lv_iload_n hx hb dL_law_777 rfl (lv_at hl 3 rfl) ?_
    refine lv_iconst (v := 3) hx hb dL_law_778 (by decide) ?_
    refine lv_iadd hx hb dL_law_779 ?_
    refine lv_topi (fun f_8 ef_8 => ?_)
    obtain rfl : nI (j + 3) = f_8 := (ef_8.trans (nI_add j 3)).symm
    refine va_sld hx hb hX0 hbl hbA hS (vp_in_nI (by omega) (by omega)) dL_law_780 ?_
    refine lv_aload_n hx hb dL_law_781 rfl (lv_at hl 0 rfl) ?_
    refine lv_iload_n hx hb dL_law_782 rfl (lv_at hl 3 rfl) ?_
    refine lv_iconst (v := 4) hx hb dL_law_783 (by decide) ?_
    refine lv_iadd hx hb dL_law_784 ?_
    refine lv_topi (fun f_9 ef_9 => ?_)
    obtain rfl : nI (j + 4) = f_9 := (ef_9.trans (nI_add j 4)).symm
    refine va_sld hx hb hX0 hbl hbA hS (vp_in_nI (by omega) (by omega)) dL_law_785 ?_
    refine lv_aload_n hx hb dL_law_786 rfl (lv_at hl 0 rfl) ?_
    refine lv_iload_n hx hb dL_law_787 rfl (lv_at hl 3 rfl) ?_
    refine lv_iconst (v := 5) hx hb dL_law_788 (by decide) ?_
    refine lv_iadd hx hb dL_law_789 ?_
    refine lv_topi (fun f_10 ef_10 => ?_)
    obtain rfl : nI (j + 5) = f_10 := (ef_10.trans (nI_add j 5)).symm
    refine va_sld hx hb hX0 hbl hbA hS (vp_in_nI (by omega) (by omega)) dL_law_790 ?_
    have hPf := z_Pp ((List.perm_append_comm (l₁ := mw) (l₂ := u0))).symm hP
    have hDf := z_Dp ((List.perm_append_comm (l₁ := mw) (l₂ := u0))).symm hD
    have hPc := z_P0 hPf
    have hDc := z_D0 hDf
    have hFc := z_freeF (cs := mw) (rs := u0) (List.perm_append_comm (l₁ := mw) (l₂ := u0)) hD hS hA
    obtain ⟨kx, fsx, hkx⟩ := zM_cell hM
    refine va_calli (va_runV (As := [.int (xs (nI (j + 1)).toNatClampNeg), .int (xs (nI (j + 2)).toNatClampNeg), .int (xs (nI (j + 3)).toNatClampNeg), .int (xs (nI (j + 4)).toNatClampNeg), .int (xs (nI (j + 5)).toNatClampNeg)]) (rest := []) ⟨hx, hb, hml, hown, hts⟩ (cm_who l Z H.size m0 tn kp sl im st _ hok (by omega) (xs (nI (j + 1)).toNatClampNeg) (xs (nI (j + 2)).toNatClampNeg) (xs (nI (j + 3)).toNatClampNeg) (xs (nI (j + 4)).toNatClampNeg) (xs (nI (j + 5)).toNatClampNeg) mw hM) (cwV 5 hts gL_law_X9_who rfl rfl rfl (by decide +kernel) ⟨Nat.le_of_ble_eq_true rfl, Nat.le_of_ble_eq_true rfl⟩) ⟨fun a U g mk q => by obtain ⟨q0, q1, qP, qK, qD⟩ := q; exact ⟨q0, q1, qP, va_K.moved (u := U) (U := U.calling g mk a) (Vm.Alike.refl U.vm) qK, qD⟩, va_recv hK hPc (ci := 9) rfl hkx, fun U hU hW => ⟨rfl, by rw [hU], by rw [hU]; exact hPc, va_K.moved hW.alike hK, hDc.weaken (fun _ _ _ _ => trivial)⟩⟩ rfl rfl hl.1 rfl (lv_room (Nat.le_of_ble_eq_true rfl)) dL_law_791 ⟨show ce + 0 ≤ 600000 by omega, show sc + 0 ≤ 7302250 by omega⟩) hS (fun q _ h => hFc q h) hFc (fun r_2 u1 t9 H1 locs ht hvm hw hB hz1 hk1 hS => ?_)
    obtain ⟨hM, ha1⟩ := hw
    obtain ⟨hP1, hD1⟩ := hB
    rw [ht] at hP1
    have hj9 := z_joinF (cs := mw) (rs := u0) (full := u0 ++ mw) (List.perm_append_comm (l₁ := mw) (l₂ := u0)) hP hD hk1 hFc hP1 hD1
    have hP := hj9.1
    have hD := hj9.2
    clear hPc hDc hPf hDf hP1 hD1 hj9 hk1 hz1 hFc ht hvm hkx
    generalize H1 = H at hP hS ⊢
    refine W.widen (k := ce) (n := sc) (by omega) (by omega) ?_
    refine lv_pop hx hb dL_law_794 rfl ?_
    refine lv_goto (tgt := 1053) hx hb dL_law_795 (by decide) ?_
    refine W.widen (k := ce + 2) (n := sc + 26) (by omega) (by omega) ?_
    exact kk _ _ _ _ _ _ _ H locs ls hX hM (zIv_mono (iv_same hok) (by omega)) hP hD hS (lv_sub hl [0, 1, 2, 3] rfl)
  · refine lv_aload_n hx hb dL_law_735 rfl (lv_at hl 1 rfl) ?_
    refine lv_aload_n hx hb dL_law_736 rfl (lv_at hl 0 rfl) ?_
    refine lv_iload_n hx hb dL_law_737 rfl (lv_at hl 3 rfl) ?_
    refine lv_iconst (v := 1) hx hb dL_law_738 (by decide) ?_
    refine lv_iadd hx hb dL_law_739 ?_
    refine lv_topi (fun f_1 ef_1 => ?_)
    obtain rfl : nI (j + 1) = f_1 := (ef_1.trans (nI_add j 1)).symm
    refine va_sld hx hb hX0 hbl hbA hS (vp_in_nI (by omega) (by omega)) dL_law_740 ?_
    refine lv_aload_n hx hb dL_law_741 rfl (lv_at hl 0 rfl) ?_
    refine lv_iload_n hx hb dL_law_742 rfl (lv_at hl 3 rfl) ?_
    refine lv_iconst (v := 2) hx hb dL_law_743 (by decide) ?_
    refine lv_iadd hx hb dL_law_744 ?_
    refine lv_topi (fun f_2 ef_2 => ?_)
    obtain rfl : nI (j + 2) = f_2 := (ef_2.trans (nI_add j 2)).symm
    refine va_sld hx hb hX0 hbl hbA hS (vp_in_nI (by omega) (by omega)) dL_law_745 ?_
    refine lv_aload_n hx hb dL_law_746 rfl (lv_at hl 0 rfl) ?_
    refine lv_iload_n hx hb dL_law_747 rfl (lv_at hl 3 rfl) ?_
    refine lv_iconst (v := 3) hx hb dL_law_748 (by decide) ?_
    refine lv_iadd hx hb dL_law_749 ?_
    refine lv_topi (fun f_3 ef_3 => ?_)
    obtain rfl : nI (j + 3) = f_3 := (ef_3.trans (nI_add j 3)).symm
    refine va_sld hx hb hX0 hbl hbA hS (vp_in_nI (by omega) (by omega)) dL_law_750 ?_
    refine lv_aload_n hx hb dL_law_751 rfl (lv_at hl 0 rfl) ?_
    refine lv_iload_n hx hb dL_law_752 rfl (lv_at hl 3 rfl) ?_
    refine lv_iconst (v := 4) hx hb dL_law_753 (by decide) ?_
    refine lv_iadd hx hb dL_law_754 ?_
    refine lv_topi (fun f_4 ef_4 => ?_)
    obtain rfl : nI (j + 4) = f_4 := (ef_4.trans (nI_add j 4)).symm
    refine va_sld hx hb hX0 hbl hbA hS (vp_in_nI (by omega) (by omega)) dL_law_755 ?_
    refine lv_aload_n hx hb dL_law_756 rfl (lv_at hl 0 rfl) ?_
    refine lv_iload_n hx hb dL_law_757 rfl (lv_at hl 3 rfl) ?_
    refine lv_iconst (v := 5) hx hb dL_law_758 (by decide) ?_
    refine lv_iadd hx hb dL_law_759 ?_
    refine lv_topi (fun f_5 ef_5 => ?_)
    obtain rfl : nI (j + 5) = f_5 := (ef_5.trans (nI_add j 5)).symm
    refine va_sld hx hb hX0 hbl hbA hS (vp_in_nI (by omega) (by omega)) dL_law_760 ?_
    have hPf := z_Pp ((List.Perm.refl (xw ++ mw))).symm hP
    have hDf := z_Dp ((List.Perm.refl (xw ++ mw))).symm hD
    have hPc := z_P0 hPf
    have hDc := z_D0 hDf
    have hFc := z_freeF (cs := xw) (rs := mw) (List.Perm.refl (xw ++ mw)) hD hS hA
    obtain ⟨kx, fsx, hkx⟩ := zX_cell hX
    refine va_calli (va_runV (As := [.int (xs (nI (j + 1)).toNatClampNeg), .int (xs (nI (j + 2)).toNatClampNeg), .int (xs (nI (j + 3)).toNatClampNeg), .int (xs (nI (j + 4)).toNatClampNeg), .int (xs (nI (j + 5)).toNatClampNeg)]) (rest := []) ⟨hx, hb, hml, hown, hts⟩ (cx_X8_who_S l Z H.size x0 tn kp sl im st _ hok (by omega) kA vA wA (xs (nI (j + 1)).toNatClampNeg) (xs (nI (j + 2)).toNatClampNeg) (xs (nI (j + 3)).toNatClampNeg) (xs (nI (j + 4)).toNatClampNeg) (xs (nI (j + 5)).toNatClampNeg) ln len xw hX ha9 hso) (cwV 5 hts gL_law_X8_who rfl rfl rfl (by decide +kernel) ⟨Nat.le_of_ble_eq_true rfl, Nat.le_of_ble_eq_true rfl⟩) ⟨fun a U g mk q => by obtain ⟨q0, q1, qP, qK, qD, qN, qG, qW⟩ := q; exact ⟨q0, q1, qP, va_K.moved (u := U) (U := U.calling g mk a) (Vm.Alike.refl U.vm) qK, qD, z_Nc (u := U) (U := U.calling g mk a) rfl qN, z_Gc (u := U) (U := U.calling g mk a) rfl rfl qG, z_Wc (u := U) (U := U.calling g mk a) rfl rfl qW⟩, va_recv hK hPc (ci := 8) rfl hkx, fun U hU hW => ⟨rfl, by rw [hU], by rw [hU]; exact hPc, va_K.moved hW.alike hK, hDc.weaken (fun _ _ _ _ => trivial), z_N hW hN, z_G hW hG hS hU hFc, z_W hW hG2 hS hU hFc⟩⟩ rfl rfl hl.1 rfl (lv_room (Nat.le_of_ble_eq_true rfl)) dL_law_761 ⟨show ce + 0 ≤ 600000 by omega, show sc + 0 ≤ 7302250 by omega⟩) hS (fun q _ h => hFc q h) hFc (fun r_1 u0 t9 H1 locs ht hvm hw hB hz1 hk1 hS => ?_)
    obtain ⟨hX, ha0⟩ := hw
    obtain ⟨hP1, hD1⟩ := hB
    rw [ht] at hP1
    have hj9 := z_joinF (cs := xw) (rs := mw) (full := xw ++ mw) (List.Perm.refl (xw ++ mw)) hP hD hk1 hFc hP1 hD1
    have hP := z_Pp (List.perm_append_comm (l₁ := mw) (l₂ := u0)) hj9.1
    have hD := z_Dp (List.perm_append_comm (l₁ := mw) (l₂ := u0)) hj9.2
    clear hPc hDc hPf hDf hP1 hD1 hj9 hk1 hz1 hFc ht hvm hkx
    generalize H1 = H at hP hS ⊢
    refine W.widen (k := ce) (n := sc) (by omega) (by omega) ?_
    refine lv_pop hx hb dL_law_764 rfl ?_
    refine lv_aload_n hx hb dL_law_765 rfl (lv_at hl 2 rfl) ?_
    refine lv_aload_n hx hb dL_law_766 rfl (lv_at hl 0 rfl) ?_
    refine lv_iload_n hx hb dL_law_767 rfl (lv_at hl 3 rfl) ?_
    refine lv_iconst (v := 1) hx hb dL_law_768 (by decide) ?_
    refine lv_iadd hx hb dL_law_769 ?_
    refine lv_topi (fun f_6 ef_6 => ?_)
    obtain rfl : nI (j + 1) = f_6 := (ef_6.trans (nI_add j 1)).symm
    refine va_sld hx hb hX0 hbl hbA hS (vp_in_nI (by omega) (by omega)) dL_law_770 ?_
    refine lv_aload_n hx hb dL_law_771 rfl (lv_at hl 0 rfl) ?_
    refine lv_iload_n hx hb dL_law_772 rfl (lv_at hl 3 rfl) ?_
    refine lv_iconst (v := 2) hx hb dL_law_773 (by decide) ?_
    refine lv_iadd hx hb dL_law_774 ?_
    refine lv_topi (fun f_7 ef_7 => ?_)
    obtain rfl : nI (j + 2) = f_7 := (ef_7.trans (nI_add j 2)).symm
    refine va_sld hx hb hX0 hbl hbA hS (vp_in_nI (by omega) (by omega)) dL_law_775 ?_
    refine lv_aload_n hx hb dL_law_776 rfl (lv_at hl 0 rfl) ?_
    refine lv_iload_n hx hb dL_law_777 rfl (lv_at hl 3 rfl) ?_
    refine lv_iconst (v := 3) hx hb dL_law_778 (by decide) ?_
    refine lv_iadd hx hb dL_law_779 ?_
    refine lv_topi (fun f_8 ef_8 => ?_)
    obtain rfl : nI (j + 3) = f_8 := (ef_8.trans (nI_add j 3)).symm
    refine va_sld hx hb hX0 hbl hbA hS (vp_in_nI (by omega) (by omega)) dL_law_780 ?_
    refine lv_aload_n hx hb dL_law_781 rfl (lv_at hl 0 rfl) ?_
    refine lv_iload_n hx hb dL_law_782 rfl (lv_at hl 3 rfl) ?_
    refine lv_iconst (v := 4) hx hb dL_law_783 (by decide) ?_
    refine lv_iadd hx hb dL_law_784 ?_
    refine lv_topi (fun f_9 ef_9 => ?_)
    obtain rfl : nI (j + 4) = f_9 := (ef_9.trans (nI_add j 4)).symm
    refine va_sld hx hb hX0 hbl hbA hS (vp_in_nI (by omega) (by omega)) dL_law_785 ?_
    refine lv_aload_n hx hb dL_law_786 rfl (lv_at hl 0 rfl) ?_
    refine lv_iload_n hx hb dL_law_787 rfl (lv_at hl 3 rfl) ?_
    refine lv_iconst (v := 5) hx hb dL_law_788 (by decide) ?_
    refine lv_iadd hx hb dL_law_789 ?_
    refine lv_topi (fun f_10 ef_10 => ?_)
    obtain rfl : nI (j + 5) = f_10 := (ef_10.trans (nI_add j 5)).symm
    refine va_sld hx hb hX0 hbl hbA hS (vp_in_nI (by omega) (by omega)) dL_law_790 ?_
    have hPf := z_Pp ((List.perm_append_comm (l₁ := mw) (l₂ := u0))).symm hP
    have hDf := z_Dp ((List.perm_append_comm (l₁ := mw) (l₂ := u0))).symm hD
    have hPc := z_P0 hPf
    have hDc := z_D0 hDf
    have hFc := z_freeF (cs := mw) (rs := u0) (List.perm_append_comm (l₁ := mw) (l₂ := u0)) hD hS hA
    obtain ⟨kx, fsx, hkx⟩ := zM_cell hM
    refine va_calli (va_runV (As := [.int (xs (nI (j + 1)).toNatClampNeg), .int (xs (nI (j + 2)).toNatClampNeg), .int (xs (nI (j + 3)).toNatClampNeg), .int (xs (nI (j + 4)).toNatClampNeg), .int (xs (nI (j + 5)).toNatClampNeg)]) (rest := []) ⟨hx, hb, hml, hown, hts⟩ (cm_who l Z H.size m0 tn kp sl im st _ hok (by omega) (xs (nI (j + 1)).toNatClampNeg) (xs (nI (j + 2)).toNatClampNeg) (xs (nI (j + 3)).toNatClampNeg) (xs (nI (j + 4)).toNatClampNeg) (xs (nI (j + 5)).toNatClampNeg) mw hM) (cwV 5 hts gL_law_X9_who rfl rfl rfl (by decide +kernel) ⟨Nat.le_of_ble_eq_true rfl, Nat.le_of_ble_eq_true rfl⟩) ⟨fun a U g mk q => by obtain ⟨q0, q1, qP, qK, qD⟩ := q; exact ⟨q0, q1, qP, va_K.moved (u := U) (U := U.calling g mk a) (Vm.Alike.refl U.vm) qK, qD⟩, va_recv hK hPc (ci := 9) rfl hkx, fun U hU hW => ⟨rfl, by rw [hU], by rw [hU]; exact hPc, va_K.moved hW.alike hK, hDc.weaken (fun _ _ _ _ => trivial)⟩⟩ rfl rfl hl.1 rfl (lv_room (Nat.le_of_ble_eq_true rfl)) dL_law_791 ⟨show ce + 0 ≤ 600000 by omega, show sc + 0 ≤ 7302250 by omega⟩) hS (fun q _ h => hFc q h) hFc (fun r_2 u1 t9 H1 locs ht hvm hw hB hz1 hk1 hS => ?_)
    obtain ⟨hM, ha1⟩ := hw
    obtain ⟨hP1, hD1⟩ := hB
    rw [ht] at hP1
    have hj9 := z_joinF (cs := mw) (rs := u0) (full := u0 ++ mw) (List.perm_append_comm (l₁ := mw) (l₂ := u0)) hP hD hk1 hFc hP1 hD1
    have hP := hj9.1
    have hD := hj9.2
    clear hPc hDc hPf hDf hP1 hD1 hj9 hk1 hz1 hFc ht hvm hkx
    generalize H1 = H at hP hS ⊢
    refine W.widen (k := ce) (n := sc) (by omega) (by omega) ?_
    refine lv_pop hx hb dL_law_794 rfl ?_
    refine lv_goto (tgt := 1053) hx hb dL_law_795 (by decide) ?_
    refine W.widen (k := ce + 2) (n := sc + 26) (by omega) (by omega) ?_
    exact kk _ _ _ _ _ _ _ H locs ls hX hM (zIv_mono (iv_same hok) (by omega)) hP hD hS (lv_sub hl [0, 1, 2, 3] rfl)
set_option maxHeartbeats 4000000 in
set_option maxRecDepth 100000 in
theorem law_22 {p : Program} {l : Launch} {e : Env} {s : State} {m : MethodId} {below : List Frame} {meth : Method} {c : Code} {b L : Nat} {xs : Nat → Int32} (C0 : lw_At p s m meth c b L xs) {A : Nat → Prop} (hAe : A = fun q : Nat => s.heap.size ≤ q) (Z : gZ) (kA vA wA : Nat) (hK : va_K Z.1 vwCl (gT Z) s) (hN : gN Z s) (hG : gS kA vA A s) (hG2 : gW wA A s) {x0 m0 tn : Nat} {kp : Int32} {sl : zSL} {im : zIM} {st : spT} {xw mw : va_W} (hX : zX Z x0 tn kp sl im st xw) (hM : zM Z m0 tn kp sl im st mw) {j ce sc : Nat} (hok : zIv st tn (10000 * j)) (hjL : j + 6 ≤ L) (hL : L ≤ 3072) (hce : ce + 2 ≤ 600000) (hsc : sc + 26 ≤ 7302250) (kk : ∀ (tn : Nat) (kp : Int32) (sl : zSL) (im : zIM) (st : spT) (xw mw : va_W) (H : Heap) (locs : List Loc) (ls : Array Slot), zX Z x0 tn kp sl im st xw → zM Z m0 tn kp sl im st mw → zIv st tn (10000 * (j + 6)) → va_P Z.1 vwCl (xw ++ mw) H → va_D A (xw ++ mw) → va_S A s.heap H locs → lv_has ls 4 [(0, .ref b), (1, .ref x0), (2, .ref m0), (3, .int (nI j))] → W p l e room_1 s m #[Value.ref b] below meth c H locs (ce + 2) (sc + 26) (lw_Z below #[Value.ref b] s) (F0 m 1053 ls [])) {H : Heap} {locs : List Loc} {ls : Array Slot} (hP : va_P Z.1 vwCl (xw ++ mw) H) (hD : va_D A (xw ++ mw)) (hS : va_S A s.heap H locs) (hl : lv_has ls 4 [(0, .ref b), (1, .ref x0), (2, .ref m0), (3, .int (nI j))]) : W p l e room_1 s m #[Value.ref b] below meth c H locs (ce) (sc) (lw_Z below #[Value.ref b] s) (F0 m 798 ls []) := by
  obtain ⟨hx, hb, hr, hml, hown0, hts0, hX0, hbl, hlocks, hgv⟩ := id C0
  have hown : s.vm.findClass RL = some m.cls := hown0
  have hts : ∀ w ∈ wsL_law, w.before #[Value.ref b] s = true := fun w h => hts0 w (wsL_law_in w h)
  have hA : ∀ q : Nat, s.heap.size ≤ q → A q := by rw [hAe]; exact fun _ h => h
  have hbA : ¬ A b := by rw [hAe]; exact Nat.not_le.mpr hbl
  rcases z_shc (xs (nI (j + 1)).toNatClampNeg) (xs (nI (j + 2)).toNatClampNeg) (xs (nI (j + 3)).toNatClampNeg) with hno | ⟨ha9, hb9, u9, hu9, hd9⟩
  · refine lv_aload_n hx hb dL_law_798 rfl (lv_at hl 1 rfl) ?_
    refine lv_aload_n hx hb dL_law_799 rfl (lv_at hl 0 rfl) ?_
    refine lv_iload_n hx hb dL_law_800 rfl (lv_at hl 3 rfl) ?_
    refine lv_iconst (v := 1) hx hb dL_law_801 (by decide) ?_
    refine lv_iadd hx hb dL_law_802 ?_
    refine lv_topi (fun f_1 ef_1 => ?_)
    obtain rfl : nI (j + 1) = f_1 := (ef_1.trans (nI_add j 1)).symm
    refine va_sld hx hb hX0 hbl hbA hS (vp_in_nI (by omega) (by omega)) dL_law_803 ?_
    refine lv_aload_n hx hb dL_law_804 rfl (lv_at hl 0 rfl) ?_
    refine lv_iload_n hx hb dL_law_805 rfl (lv_at hl 3 rfl) ?_
    refine lv_iconst (v := 2) hx hb dL_law_806 (by decide) ?_
    refine lv_iadd hx hb dL_law_807 ?_
    refine lv_topi (fun f_2 ef_2 => ?_)
    obtain rfl : nI (j + 2) = f_2 := (ef_2.trans (nI_add j 2)).symm
    refine va_sld hx hb hX0 hbl hbA hS (vp_in_nI (by omega) (by omega)) dL_law_808 ?_
    refine lv_aload_n hx hb dL_law_809 rfl (lv_at hl 0 rfl) ?_
    refine lv_iload_n hx hb dL_law_810 rfl (lv_at hl 3 rfl) ?_
    refine lv_iconst (v := 3) hx hb dL_law_811 (by decide) ?_
    refine lv_iadd hx hb dL_law_812 ?_
    refine lv_topi (fun f_3 ef_3 => ?_)
    obtain rfl : nI (j + 3) = f_3 := (ef_3.trans (nI_add j 3)).symm
    refine va_sld hx hb hX0 hbl hbA hS (vp_in_nI (by omega) (by omega)) dL_law_813 ?_
    have hPf := z_Pp ((List.Perm.refl (xw ++ mw))).symm hP
    have hDf := z_Dp ((List.Perm.refl (xw ++ mw))).symm hD
    have hPc := z_P0 hPf
    have hDc := z_D0 hDf
    have hFc := z_freeF (cs := xw) (rs := mw) (List.Perm.refl (xw ++ mw)) hD hS hA
    obtain ⟨kx, fsx, hkx⟩ := zX_cell hX
    refine va_calli (va_runV (As := [.int (xs (nI (j + 1)).toNatClampNeg), .int (xs (nI (j + 2)).toNatClampNeg), .int (xs (nI (j + 3)).toNatClampNeg)]) (rest := []) ⟨hx, hb, hml, hown, hts⟩ (cx_X8_sheet_B l Z H.size x0 tn kp sl im st _ hok (by omega) kA vA wA (xs (nI (j + 1)).toNatClampNeg) (xs (nI (j + 2)).toNatClampNeg) (xs (nI (j + 3)).toNatClampNeg) xw hX hno) (cwV 3 hts gL_law_X8_sheet rfl rfl rfl (by decide +kernel) ⟨Nat.le_of_ble_eq_true rfl, Nat.le_of_ble_eq_true rfl⟩) ⟨fun a U g mk q => by obtain ⟨q0, q1, qP, qK, qD, qN, qG, qW⟩ := q; exact ⟨q0, q1, qP, va_K.moved (u := U) (U := U.calling g mk a) (Vm.Alike.refl U.vm) qK, qD, z_Nc (u := U) (U := U.calling g mk a) rfl qN, z_Gc (u := U) (U := U.calling g mk a) rfl rfl qG, z_Wc (u := U) (U := U.calling g mk a) rfl rfl qW⟩, va_recv hK hPc (ci := 8) rfl hkx, fun U hU hW => ⟨rfl, by rw [hU], by rw [hU]; exact hPc, va_K.moved hW.alike hK, hDc.weaken (fun _ _ _ _ => trivial), z_N hW hN, z_G hW hG hS hU hFc, z_W hW hG2 hS hU hFc⟩⟩ rfl rfl hl.1 rfl (lv_room (Nat.le_of_ble_eq_true rfl)) dL_law_814 ⟨show ce + 0 ≤ 600000 by omega, show sc + 0 ≤ 7302250 by omega⟩) hS (fun q _ h => hFc q h) hFc (fun r_1 u0 t9 H1 locs ht hvm hw hB hz1 hk1 hS => ?_)
    obtain ⟨hX, ha0⟩ := hw
    obtain ⟨hP1, hD1⟩ := hB
    rw [ht] at hP1
    have hj9 := z_joinF (cs := xw) (rs := mw) (full := xw ++ mw) (List.Perm.refl (xw ++ mw)) hP hD hk1 hFc hP1 hD1
    have hP := z_Pp (List.perm_append_comm (l₁ := mw) (l₂ := u0)) hj9.1
    have hD := z_Dp (List.perm_append_comm (l₁ := mw) (l₂ := u0)) hj9.2
    clear hPc hDc hPf hDf hP1 hD1 hj9 hk1 hz1 hFc ht hvm hkx
    generalize H1 = H at hP hS ⊢
    refine W.widen (k := ce) (n := sc) (by omega) (by omega) ?_
    refine lv_pop hx hb dL_law_817 rfl ?_
    refine lv_aload_n hx hb dL_law_818 rfl (lv_at hl 2 rfl) ?_
    refine lv_aload_n hx hb dL_law_819 rfl (lv_at hl 0 rfl) ?_
    refine lv_iload_n hx hb dL_law_820 rfl (lv_at hl 3 rfl) ?_
    refine lv_iconst (v := 1) hx hb dL_law_821 (by decide) ?_
    refine lv_iadd hx hb dL_law_822 ?_
    refine lv_topi (fun f_4 ef_4 => ?_)
    obtain rfl : nI (j + 1) = f_4 := (ef_4.trans (nI_add j 1)).symm
    refine va_sld hx hb hX0 hbl hbA hS (vp_in_nI (by omega) (by omega)) dL_law_823 ?_
    refine lv_aload_n hx hb dL_law_824 rfl (lv_at hl 0 rfl) ?_
    refine lv_iload_n hx hb dL_law_825 rfl (lv_at hl 3 rfl) ?_
    refine lv_iconst (v := 2) hx hb dL_law_826 (by decide) ?_
    refine lv_iadd hx hb dL_law_827 ?_
    refine lv_topi (fun f_5 ef_5 => ?_)
    obtain rfl : nI (j + 2) = f_5 := (ef_5.trans (nI_add j 2)).symm
    refine va_sld hx hb hX0 hbl hbA hS (vp_in_nI (by omega) (by omega)) dL_law_828 ?_
    refine lv_aload_n hx hb dL_law_829 rfl (lv_at hl 0 rfl) ?_
    refine lv_iload_n hx hb dL_law_830 rfl (lv_at hl 3 rfl) ?_
    refine lv_iconst (v := 3) hx hb dL_law_831 (by decide) ?_
    refine lv_iadd hx hb dL_law_832 ?_
    refine lv_topi (fun f_6 ef_6 => ?_)
    obtain rfl : nI (j + 3) = f_6 := (ef_6.trans (nI_add j 3)).symm
    refine va_sld hx hb hX0 hbl hbA hS (vp_in_nI (by omega) (by omega)) dL_law_833 ?_
    have hPf := z_Pp ((List.perm_append_comm (l₁ := mw) (l₂ := u0))).symm hP
    have hDf := z_Dp ((List.perm_append_comm (l₁ := mw) (l₂ := u0))).symm hD
    have hPc := z_P0 hPf
    have hDc := z_D0 hDf
    have hFc := z_freeF (cs := mw) (rs := u0) (List.perm_append_comm (l₁ := mw) (l₂ := u0)) hD hS hA
    obtain ⟨kx, fsx, hkx⟩ := zM_cell hM
    refine va_calli (va_runV (As := [.int (xs (nI (j + 1)).toNatClampNeg), .int (xs (nI (j + 2)).toNatClampNeg), .int (xs (nI (j + 3)).toNatClampNeg)]) (rest := []) ⟨hx, hb, hml, hown, hts⟩ (cm_sheet l Z H.size m0 tn kp sl im st _ hok (by omega) (xs (nI (j + 1)).toNatClampNeg) (xs (nI (j + 2)).toNatClampNeg) (xs (nI (j + 3)).toNatClampNeg) mw hM) (cwV 3 hts gL_law_X9_sheet rfl rfl rfl (by decide +kernel) ⟨Nat.le_of_ble_eq_true rfl, Nat.le_of_ble_eq_true rfl⟩) ⟨fun a U g mk q => by obtain ⟨q0, q1, qP, qK, qD⟩ := q; exact ⟨q0, q1, qP, va_K.moved (u := U) (U := U.calling g mk a) (Vm.Alike.refl U.vm) qK, qD⟩, va_recv hK hPc (ci := 9) rfl hkx, fun U hU hW => ⟨rfl, by rw [hU], by rw [hU]; exact hPc, va_K.moved hW.alike hK, hDc.weaken (fun _ _ _ _ => trivial)⟩⟩ rfl rfl hl.1 rfl (lv_room (Nat.le_of_ble_eq_true rfl)) dL_law_834 ⟨show ce + 0 ≤ 600000 by omega, show sc + 0 ≤ 7302250 by omega⟩) hS (fun q _ h => hFc q h) hFc (fun r_2 u1 t9 H1 locs ht hvm hw hB hz1 hk1 hS => ?_)
    obtain ⟨hM, ha1⟩ := hw
    obtain ⟨hP1, hD1⟩ := hB
    rw [ht] at hP1
    have hj9 := z_joinF (cs := mw) (rs := u0) (full := u0 ++ mw) (List.perm_append_comm (l₁ := mw) (l₂ := u0)) hP hD hk1 hFc hP1 hD1
    have hP := hj9.1
    have hD := hj9.2
    clear hPc hDc hPf hDf hP1 hD1 hj9 hk1 hz1 hFc ht hvm hkx
    generalize H1 = H at hP hS ⊢
    refine W.widen (k := ce) (n := sc) (by omega) (by omega) ?_
    refine lv_pop hx hb dL_law_837 rfl ?_
    refine lv_goto (tgt := 1053) hx hb dL_law_838 (by decide) ?_
    refine W.widen (k := ce + 2) (n := sc + 26) (by omega) (by omega) ?_
    exact kk _ _ _ _ _ _ _ H locs ls hX hM (zIv_mono (iv_same hok) (by omega)) hP hD hS (lv_sub hl [0, 1, 2, 3] rfl)
  · refine lv_aload_n hx hb dL_law_798 rfl (lv_at hl 1 rfl) ?_
    refine lv_aload_n hx hb dL_law_799 rfl (lv_at hl 0 rfl) ?_
    refine lv_iload_n hx hb dL_law_800 rfl (lv_at hl 3 rfl) ?_
    refine lv_iconst (v := 1) hx hb dL_law_801 (by decide) ?_
    refine lv_iadd hx hb dL_law_802 ?_
    refine lv_topi (fun f_1 ef_1 => ?_)
    obtain rfl : nI (j + 1) = f_1 := (ef_1.trans (nI_add j 1)).symm
    refine va_sld hx hb hX0 hbl hbA hS (vp_in_nI (by omega) (by omega)) dL_law_803 ?_
    refine lv_aload_n hx hb dL_law_804 rfl (lv_at hl 0 rfl) ?_
    refine lv_iload_n hx hb dL_law_805 rfl (lv_at hl 3 rfl) ?_
    refine lv_iconst (v := 2) hx hb dL_law_806 (by decide) ?_
    refine lv_iadd hx hb dL_law_807 ?_
    refine lv_topi (fun f_2 ef_2 => ?_)
    obtain rfl : nI (j + 2) = f_2 := (ef_2.trans (nI_add j 2)).symm
    refine va_sld hx hb hX0 hbl hbA hS (vp_in_nI (by omega) (by omega)) dL_law_808 ?_
    refine lv_aload_n hx hb dL_law_809 rfl (lv_at hl 0 rfl) ?_
    refine lv_iload_n hx hb dL_law_810 rfl (lv_at hl 3 rfl) ?_
    refine lv_iconst (v := 3) hx hb dL_law_811 (by decide) ?_
    refine lv_iadd hx hb dL_law_812 ?_
    refine lv_topi (fun f_3 ef_3 => ?_)
    obtain rfl : nI (j + 3) = f_3 := (ef_3.trans (nI_add j 3)).symm
    refine va_sld hx hb hX0 hbl hbA hS (vp_in_nI (by omega) (by omega)) dL_law_813 ?_
    refine lv_topi (fun f_4 ef_4 => ?_)
    obtain rfl : nI u9 = f_4 := (ef_4.trans hd9).symm
    have hPf := z_Pp ((List.Perm.refl (xw ++ mw))).symm hP
    have hDf := z_Dp ((List.Perm.refl (xw ++ mw))).symm hD
    have hPc := z_P0 hPf
    have hDc := z_D0 hDf
    have hFc := z_freeF (cs := xw) (rs := mw) (List.Perm.refl (xw ++ mw)) hD hS hA
    obtain ⟨kx, fsx, hkx⟩ := zX_cell hX
    refine va_calli (va_runV (As := [.int (xs (nI (j + 1)).toNatClampNeg), .int (xs (nI (j + 2)).toNatClampNeg), .int (nI u9)]) (rest := []) ⟨hx, hb, hml, hown, hts⟩ (cx_X8_sheet_G l Z H.size x0 tn kp sl im st _ hok (by omega) kA vA wA (xs (nI (j + 1)).toNatClampNeg) (xs (nI (j + 2)).toNatClampNeg) u9 xw hX ha9 hb9 hu9) (cwV 3 hts gL_law_X8_sheet rfl rfl rfl (by decide +kernel) ⟨Nat.le_of_ble_eq_true rfl, Nat.le_of_ble_eq_true rfl⟩) ⟨fun a U g mk q => by obtain ⟨q0, q1, qP, qK, qD, qN, qG, qW⟩ := q; exact ⟨q0, q1, qP, va_K.moved (u := U) (U := U.calling g mk a) (Vm.Alike.refl U.vm) qK, qD, z_Nc (u := U) (U := U.calling g mk a) rfl qN, z_Gc (u := U) (U := U.calling g mk a) rfl rfl qG, z_Wc (u := U) (U := U.calling g mk a) rfl rfl qW⟩, va_recv hK hPc (ci := 8) rfl hkx, fun U hU hW => ⟨rfl, by rw [hU], by rw [hU]; exact hPc, va_K.moved hW.alike hK, hDc.weaken (fun _ _ _ _ => trivial), z_N hW hN, z_G hW hG hS hU hFc, z_W hW hG2 hS hU hFc⟩⟩ rfl rfl hl.1 rfl (lv_room (Nat.le_of_ble_eq_true rfl)) dL_law_814 ⟨show ce + 2 ≤ 600000 by omega, show sc + 26 ≤ 7302250 by omega⟩) hS (fun q _ h => hFc q h) hFc (fun r_1 u0 t9 H1 locs ht hvm hw hB hz1 hk1 hS => ?_)
    obtain ⟨hX, ha0⟩ := hw
    obtain ⟨hP1, hD1⟩ := hB
    rw [ht] at hP1
    have hj9 := z_joinF (cs := xw) (rs := mw) (full := xw ++ mw) (List.Perm.refl (xw ++ mw)) hP hD hk1 hFc hP1 hD1
    have hP := z_Pp (List.perm_append_comm (l₁ := mw) (l₂ := u0)) hj9.1
    have hD := z_Dp (List.perm_append_comm (l₁ := mw) (l₂ := u0)) hj9.2
    clear hPc hDc hPf hDf hP1 hD1 hj9 hk1 hz1 hFc ht hvm hkx
    generalize H1 = H at hP hS ⊢
    refine W.widen (k := ce + 2) (n := sc + 26) (by omega) (by omega) ?_
    refine lv_pop hx hb dL_law_817 rfl ?_
    refine lv_aload_n hx hb dL_law_818 rfl (lv_at hl 2 rfl) ?_
    refine lv_aload_n hx hb dL_law_819 rfl (lv_at hl 0 rfl) ?_
    refine lv_iload_n hx hb dL_law_820 rfl (lv_at hl 3 rfl) ?_
    refine lv_iconst (v := 1) hx hb dL_law_821 (by decide) ?_
    refine lv_iadd hx hb dL_law_822 ?_
    refine lv_topi (fun f_5 ef_5 => ?_)
    obtain rfl : nI (j + 1) = f_5 := (ef_5.trans (nI_add j 1)).symm
    refine va_sld hx hb hX0 hbl hbA hS (vp_in_nI (by omega) (by omega)) dL_law_823 ?_
    refine lv_aload_n hx hb dL_law_824 rfl (lv_at hl 0 rfl) ?_
    refine lv_iload_n hx hb dL_law_825 rfl (lv_at hl 3 rfl) ?_
    refine lv_iconst (v := 2) hx hb dL_law_826 (by decide) ?_
    refine lv_iadd hx hb dL_law_827 ?_
    refine lv_topi (fun f_6 ef_6 => ?_)
    obtain rfl : nI (j + 2) = f_6 := (ef_6.trans (nI_add j 2)).symm
    refine va_sld hx hb hX0 hbl hbA hS (vp_in_nI (by omega) (by omega)) dL_law_828 ?_
    refine lv_aload_n hx hb dL_law_829 rfl (lv_at hl 0 rfl) ?_
    refine lv_iload_n hx hb dL_law_830 rfl (lv_at hl 3 rfl) ?_
    refine lv_iconst (v := 3) hx hb dL_law_831 (by decide) ?_
    refine lv_iadd hx hb dL_law_832 ?_
    refine lv_topi (fun f_7 ef_7 => ?_)
    obtain rfl : nI (j + 3) = f_7 := (ef_7.trans (nI_add j 3)).symm
    refine va_sld hx hb hX0 hbl hbA hS (vp_in_nI (by omega) (by omega)) dL_law_833 ?_
    refine lv_topi (fun f_8 ef_8 => ?_)
    obtain rfl : nI u9 = f_8 := (ef_8.trans hd9).symm
    have hPf := z_Pp ((List.perm_append_comm (l₁ := mw) (l₂ := u0))).symm hP
    have hDf := z_Dp ((List.perm_append_comm (l₁ := mw) (l₂ := u0))).symm hD
    have hPc := z_P0 hPf
    have hDc := z_D0 hDf
    have hFc := z_freeF (cs := mw) (rs := u0) (List.perm_append_comm (l₁ := mw) (l₂ := u0)) hD hS hA
    obtain ⟨kx, fsx, hkx⟩ := zM_cell hM
    refine va_calli (va_runV (As := [.int (xs (nI (j + 1)).toNatClampNeg), .int (xs (nI (j + 2)).toNatClampNeg), .int (nI u9)]) (rest := []) ⟨hx, hb, hml, hown, hts⟩ (cm_sheet l Z H.size m0 tn kp sl im st _ hok (by omega) (xs (nI (j + 1)).toNatClampNeg) (xs (nI (j + 2)).toNatClampNeg) (nI u9) mw hM) (cwV 3 hts gL_law_X9_sheet rfl rfl rfl (by decide +kernel) ⟨Nat.le_of_ble_eq_true rfl, Nat.le_of_ble_eq_true rfl⟩) ⟨fun a U g mk q => by obtain ⟨q0, q1, qP, qK, qD⟩ := q; exact ⟨q0, q1, qP, va_K.moved (u := U) (U := U.calling g mk a) (Vm.Alike.refl U.vm) qK, qD⟩, va_recv hK hPc (ci := 9) rfl hkx, fun U hU hW => ⟨rfl, by rw [hU], by rw [hU]; exact hPc, va_K.moved hW.alike hK, hDc.weaken (fun _ _ _ _ => trivial)⟩⟩ rfl rfl hl.1 rfl (lv_room (Nat.le_of_ble_eq_true rfl)) dL_law_834 ⟨show ce + 2 + 0 ≤ 600000 by omega, show sc + 26 + 0 ≤ 7302250 by omega⟩) hS (fun q _ h => hFc q h) hFc (fun r_2 u1 t9 H1 locs ht hvm hw hB hz1 hk1 hS => ?_)
    obtain ⟨hM, ha1⟩ := hw
    obtain ⟨hP1, hD1⟩ := hB
    rw [ht] at hP1
    have hj9 := z_joinF (cs := mw) (rs := u0) (full := u0 ++ mw) (List.perm_append_comm (l₁ := mw) (l₂ := u0)) hP hD hk1 hFc hP1 hD1
    have hP := hj9.1
    have hD := hj9.2
    clear hPc hDc hPf hDf hP1 hD1 hj9 hk1 hz1 hFc ht hvm hkx
    generalize H1 = H at hP hS ⊢
    refine W.widen (k := ce + 2) (n := sc + 26) (by omega) (by omega) ?_
    refine lv_pop hx hb dL_law_837 rfl ?_
    refine lv_goto (tgt := 1053) hx hb dL_law_838 (by decide) ?_
    refine W.widen (k := ce + 2) (n := sc + 26) (by omega) (by omega) ?_
    exact kk _ _ _ _ _ _ _ H locs ls hX hM (zIv_mono (iv_same hok) (by omega)) hP hD hS (lv_sub hl [0, 1, 2, 3] rfl)
set_option maxHeartbeats 4000000 in
set_option maxRecDepth 100000 in
theorem law_23 {p : Program} {l : Launch} {e : Env} {s : State} {m : MethodId} {below : List Frame} {meth : Method} {c : Code} {b L : Nat} {xs : Nat → Int32} (C0 : lw_At p s m meth c b L xs) {A : Nat → Prop} (hAe : A = fun q : Nat => s.heap.size ≤ q) (Z : gZ) (kA vA wA : Nat) (hK : va_K Z.1 vwCl (gT Z) s) (hN : gN Z s) (hG : gS kA vA A s) (hG2 : gW wA A s) {x0 m0 tn : Nat} {kp : Int32} {sl : zSL} {im : zIM} {st : spT} {xw mw : va_W} (hX : zX Z x0 tn kp sl im st xw) (hM : zM Z m0 tn kp sl im st mw) {j ce sc : Nat} (hok : zIv st tn (10000 * j)) (hjL : j + 6 ≤ L) (hL : L ≤ 3072) (hce : ce + 2 ≤ 600000) (hsc : sc + 26 ≤ 7302250) (kk : ∀ (tn : Nat) (kp : Int32) (sl : zSL) (im : zIM) (st : spT) (xw mw : va_W) (H : Heap) (locs : List Loc) (ls : Array Slot), zX Z x0 tn kp sl im st xw → zM Z m0 tn kp sl im st mw → zIv st tn (10000 * (j + 6)) → va_P Z.1 vwCl (xw ++ mw) H → va_D A (xw ++ mw) → va_S A s.heap H locs → lv_has ls 4 [(0, .ref b), (1, .ref x0), (2, .ref m0), (3, .int (nI j))] → W p l e room_1 s m #[Value.ref b] below meth c H locs (ce + 2) (sc + 26) (lw_Z below #[Value.ref b] s) (F0 m 1053 ls [])) {H : Heap} {locs : List Loc} {ls : Array Slot} (hP : va_P Z.1 vwCl (xw ++ mw) H) (hD : va_D A (xw ++ mw)) (hS : va_S A s.heap H locs) (hl : lv_has ls 4 [(0, .ref b), (1, .ref x0), (2, .ref m0), (3, .int (nI j))]) : W p l e room_1 s m #[Value.ref b] below meth c H locs (ce) (sc) (lw_Z below #[Value.ref b] s) (F0 m 841 ls []) := by
  obtain ⟨hx, hb, hr, hml, hown0, hts0, hX0, hbl, hlocks, hgv⟩ := id C0
  have hown : s.vm.findClass RL = some m.cls := hown0
  have hts : ∀ w ∈ wsL_law, w.before #[Value.ref b] s = true := fun w h => hts0 w (wsL_law_in w h)
  have hA : ∀ q : Nat, s.heap.size ≤ q → A q := by rw [hAe]; exact fun _ h => h
  have hbA : ¬ A b := by rw [hAe]; exact Nat.not_le.mpr hbl
  rcases z_slc sl (xs (nI (j + 1)).toNatClampNeg) with hno | ⟨ha9, ln, len, hso⟩
  · refine lv_aload_n hx hb dL_law_841 rfl (lv_at hl 1 rfl) ?_
    refine lv_aload_n hx hb dL_law_842 rfl (lv_at hl 0 rfl) ?_
    refine lv_iload_n hx hb dL_law_843 rfl (lv_at hl 3 rfl) ?_
    refine lv_iconst (v := 1) hx hb dL_law_844 (by decide) ?_
    refine lv_iadd hx hb dL_law_845 ?_
    refine lv_topi (fun f_1 ef_1 => ?_)
    obtain rfl : nI (j + 1) = f_1 := (ef_1.trans (nI_add j 1)).symm
    refine va_sld hx hb hX0 hbl hbA hS (vp_in_nI (by omega) (by omega)) dL_law_846 ?_
    have hPf := z_Pp ((List.Perm.refl (xw ++ mw))).symm hP
    have hDf := z_Dp ((List.Perm.refl (xw ++ mw))).symm hD
    have hPc := z_P0 hPf
    have hDc := z_D0 hDf
    have hFc := z_freeF (cs := xw) (rs := mw) (List.Perm.refl (xw ++ mw)) hD hS hA
    obtain ⟨kx, fsx, hkx⟩ := zX_cell hX
    refine va_calli (va_runV (As := [.int (xs (nI (j + 1)).toNatClampNeg)]) (rest := []) ⟨hx, hb, hml, hown, hts⟩ (cx_X8_drop_N l Z H.size x0 tn kp sl im st _ hok (by omega) kA vA wA (xs (nI (j + 1)).toNatClampNeg) xw hX hno) (cwV 1 hts gL_law_X8_drop rfl rfl rfl (by decide +kernel) ⟨Nat.le_of_ble_eq_true rfl, Nat.le_of_ble_eq_true rfl⟩) ⟨fun a U g mk q => by obtain ⟨q0, q1, qP, qK, qD, qN, qG, qW⟩ := q; exact ⟨q0, q1, qP, va_K.moved (u := U) (U := U.calling g mk a) (Vm.Alike.refl U.vm) qK, qD, z_Nc (u := U) (U := U.calling g mk a) rfl qN, z_Gc (u := U) (U := U.calling g mk a) rfl rfl qG, z_Wc (u := U) (U := U.calling g mk a) rfl rfl qW⟩, va_recv hK hPc (ci := 8) rfl hkx, fun U hU hW => ⟨rfl, by rw [hU], by rw [hU]; exact hPc, va_K.moved hW.alike hK, hDc.weaken (fun _ _ _ _ => trivial), z_N hW hN, z_G hW hG hS hU hFc, z_W hW hG2 hS hU hFc⟩⟩ rfl rfl hl.1 rfl (lv_room (Nat.le_of_ble_eq_true rfl)) dL_law_847 ⟨show ce + 0 ≤ 600000 by omega, show sc + 0 ≤ 7302250 by omega⟩) hS (fun q _ h => hFc q h) hFc (fun r_1 u0 t9 H1 locs ht hvm hw hB hz1 hk1 hS => ?_)
    obtain ⟨hX, ha0⟩ := hw
    obtain ⟨hP1, hD1⟩ := hB
    rw [ht] at hP1
    have hj9 := z_joinF (cs := xw) (rs := mw) (full := xw ++ mw) (List.Perm.refl (xw ++ mw)) hP hD hk1 hFc hP1 hD1
    have hP := z_Pp (List.perm_append_comm (l₁ := mw) (l₂ := u0)) hj9.1
    have hD := z_Dp (List.perm_append_comm (l₁ := mw) (l₂ := u0)) hj9.2
    clear hPc hDc hPf hDf hP1 hD1 hj9 hk1 hz1 hFc ht hvm hkx
    generalize H1 = H at hP hS ⊢
    refine W.widen (k := ce) (n := sc) (by omega) (by omega) ?_
    refine lv_pop hx hb dL_law_850 rfl ?_
    refine lv_aload_n hx hb dL_law_851 rfl (lv_at hl 2 rfl) ?_
    refine lv_aload_n hx hb dL_law_852 rfl (lv_at hl 0 rfl) ?_
    refine lv_iload_n hx hb dL_law_853 rfl (lv_at hl 3 rfl) ?_
    refine lv_iconst (v := 1) hx hb dL_law_854 (by decide) ?_
    refine lv_iadd hx hb dL_law_855 ?_
    refine lv_topi (fun f_2 ef_2 => ?_)
    obtain rfl : nI (j + 1) = f_2 := (ef_2.trans (nI_add j 1)).symm
    refine va_sld hx hb hX0 hbl hbA hS (vp_in_nI (by omega) (by omega)) dL_law_856 ?_
    have hPf := z_Pp ((List.perm_append_comm (l₁ := mw) (l₂ := u0))).symm hP
    have hDf := z_Dp ((List.perm_append_comm (l₁ := mw) (l₂ := u0))).symm hD
    have hPc := z_P0 hPf
    have hDc := z_D0 hDf
    have hFc := z_freeF (cs := mw) (rs := u0) (List.perm_append_comm (l₁ := mw) (l₂ := u0)) hD hS hA
    obtain ⟨kx, fsx, hkx⟩ := zM_cell hM
    refine va_calli (va_runV (As := [.int (xs (nI (j + 1)).toNatClampNeg)]) (rest := []) ⟨hx, hb, hml, hown, hts⟩ (cm_drop l Z H.size m0 tn kp sl im st _ hok (by omega) (xs (nI (j + 1)).toNatClampNeg) mw hM) (cwV 1 hts gL_law_X9_drop rfl rfl rfl (by decide +kernel) ⟨Nat.le_of_ble_eq_true rfl, Nat.le_of_ble_eq_true rfl⟩) ⟨fun a U g mk q => by obtain ⟨q0, q1, qP, qK, qD⟩ := q; exact ⟨q0, q1, qP, va_K.moved (u := U) (U := U.calling g mk a) (Vm.Alike.refl U.vm) qK, qD⟩, va_recv hK hPc (ci := 9) rfl hkx, fun U hU hW => ⟨rfl, by rw [hU], by rw [hU]; exact hPc, va_K.moved hW.alike hK, hDc.weaken (fun _ _ _ _ => trivial)⟩⟩ rfl rfl hl.1 rfl (lv_room (Nat.le_of_ble_eq_true rfl)) dL_law_857 ⟨show ce + 0 ≤ 600000 by omega, show sc + 0 ≤ 7302250 by omega⟩) hS (fun q _ h => hFc q h) hFc (fun r_2 u1 t9 H1 locs ht hvm hw hB hz1 hk1 hS => ?_)
    obtain ⟨hM, ha1⟩ := hw
    obtain ⟨hP1, hD1⟩ := hB
    rw [ht] at hP1
    have hj9 := z_joinF (cs := mw) (rs := u0) (full := u0 ++ mw) (List.perm_append_comm (l₁ := mw) (l₂ := u0)) hP hD hk1 hFc hP1 hD1
    have hP := hj9.1
    have hD := hj9.2
    clear hPc hDc hPf hDf hP1 hD1 hj9 hk1 hz1 hFc ht hvm hkx
    generalize H1 = H at hP hS ⊢
    refine W.widen (k := ce) (n := sc) (by omega) (by omega) ?_
    refine lv_pop hx hb dL_law_860 rfl ?_
    refine lv_goto (tgt := 1053) hx hb dL_law_861 (by decide) ?_
    refine W.widen (k := ce + 2) (n := sc + 26) (by omega) (by omega) ?_
    exact kk _ _ _ _ _ _ _ H locs ls hX hM (zIv_mono (iv_same hok) (by omega)) hP hD hS (lv_sub hl [0, 1, 2, 3] rfl)
  · refine lv_aload_n hx hb dL_law_841 rfl (lv_at hl 1 rfl) ?_
    refine lv_aload_n hx hb dL_law_842 rfl (lv_at hl 0 rfl) ?_
    refine lv_iload_n hx hb dL_law_843 rfl (lv_at hl 3 rfl) ?_
    refine lv_iconst (v := 1) hx hb dL_law_844 (by decide) ?_
    refine lv_iadd hx hb dL_law_845 ?_
    refine lv_topi (fun f_1 ef_1 => ?_)
    obtain rfl : nI (j + 1) = f_1 := (ef_1.trans (nI_add j 1)).symm
    refine va_sld hx hb hX0 hbl hbA hS (vp_in_nI (by omega) (by omega)) dL_law_846 ?_
    have hPf := z_Pp ((List.Perm.refl (xw ++ mw))).symm hP
    have hDf := z_Dp ((List.Perm.refl (xw ++ mw))).symm hD
    have hPc := z_P0 hPf
    have hDc := z_D0 hDf
    have hFc := z_freeF (cs := xw) (rs := mw) (List.Perm.refl (xw ++ mw)) hD hS hA
    obtain ⟨kx, fsx, hkx⟩ := zX_cell hX
    refine va_calli (va_runV (As := [.int (xs (nI (j + 1)).toNatClampNeg)]) (rest := []) ⟨hx, hb, hml, hown, hts⟩ (cx_X8_drop_S l Z H.size x0 tn kp sl im st _ hok (by omega) kA vA wA (xs (nI (j + 1)).toNatClampNeg) ln len xw hX ha9 hso) (cwV 1 hts gL_law_X8_drop rfl rfl rfl (by decide +kernel) ⟨Nat.le_of_ble_eq_true rfl, Nat.le_of_ble_eq_true rfl⟩) ⟨fun a U g mk q => by obtain ⟨q0, q1, qP, qK, qD, qN, qG, qW⟩ := q; exact ⟨q0, q1, qP, va_K.moved (u := U) (U := U.calling g mk a) (Vm.Alike.refl U.vm) qK, qD, z_Nc (u := U) (U := U.calling g mk a) rfl qN, z_Gc (u := U) (U := U.calling g mk a) rfl rfl qG, z_Wc (u := U) (U := U.calling g mk a) rfl rfl qW⟩, va_recv hK hPc (ci := 8) rfl hkx, fun U hU hW => ⟨rfl, by rw [hU], by rw [hU]; exact hPc, va_K.moved hW.alike hK, hDc.weaken (fun _ _ _ _ => trivial), z_N hW hN, z_G hW hG hS hU hFc, z_W hW hG2 hS hU hFc⟩⟩ rfl rfl hl.1 rfl (lv_room (Nat.le_of_ble_eq_true rfl)) dL_law_847 ⟨show ce + 0 ≤ 600000 by omega, show sc + 0 ≤ 7302250 by omega⟩) hS (fun q _ h => hFc q h) hFc (fun r_1 u0 t9 H1 locs ht hvm hw hB hz1 hk1 hS => ?_)
    obtain ⟨hX, ha0⟩ := hw
    obtain ⟨hP1, hD1⟩ := hB
    rw [ht] at hP1
    have hj9 := z_joinF (cs := xw) (rs := mw) (full := xw ++ mw) (List.Perm.refl (xw ++ mw)) hP hD hk1 hFc hP1 hD1
    have hP := z_Pp (List.perm_append_comm (l₁ := mw) (l₂ := u0)) hj9.1
    have hD := z_Dp (List.perm_append_comm (l₁ := mw) (l₂ := u0)) hj9.2
    clear hPc hDc hPf hDf hP1 hD1 hj9 hk1 hz1 hFc ht hvm hkx
    generalize H1 = H at hP hS ⊢
    refine W.widen (k := ce) (n := sc) (by omega) (by omega) ?_
    refine lv_pop hx hb dL_law_850 rfl ?_
    refine lv_aload_n hx hb dL_law_851 rfl (lv_at hl 2 rfl) ?_
    refine lv_aload_n hx hb dL_law_852 rfl (lv_at hl 0 rfl) ?_
    refine lv_iload_n hx hb dL_law_853 rfl (lv_at hl 3 rfl) ?_
    refine lv_iconst (v := 1) hx hb dL_law_854 (by decide) ?_
    refine lv_iadd hx hb dL_law_855 ?_
    refine lv_topi (fun f_2 ef_2 => ?_)
    obtain rfl : nI (j + 1) = f_2 := (ef_2.trans (nI_add j 1)).symm
    refine va_sld hx hb hX0 hbl hbA hS (vp_in_nI (by omega) (by omega)) dL_law_856 ?_
    have hPf := z_Pp ((List.perm_append_comm (l₁ := mw) (l₂ := u0))).symm hP
    have hDf := z_Dp ((List.perm_append_comm (l₁ := mw) (l₂ := u0))).symm hD
    have hPc := z_P0 hPf
    have hDc := z_D0 hDf
    have hFc := z_freeF (cs := mw) (rs := u0) (List.perm_append_comm (l₁ := mw) (l₂ := u0)) hD hS hA
    obtain ⟨kx, fsx, hkx⟩ := zM_cell hM
    refine va_calli (va_runV (As := [.int (xs (nI (j + 1)).toNatClampNeg)]) (rest := []) ⟨hx, hb, hml, hown, hts⟩ (cm_drop l Z H.size m0 tn kp sl im st _ hok (by omega) (xs (nI (j + 1)).toNatClampNeg) mw hM) (cwV 1 hts gL_law_X9_drop rfl rfl rfl (by decide +kernel) ⟨Nat.le_of_ble_eq_true rfl, Nat.le_of_ble_eq_true rfl⟩) ⟨fun a U g mk q => by obtain ⟨q0, q1, qP, qK, qD⟩ := q; exact ⟨q0, q1, qP, va_K.moved (u := U) (U := U.calling g mk a) (Vm.Alike.refl U.vm) qK, qD⟩, va_recv hK hPc (ci := 9) rfl hkx, fun U hU hW => ⟨rfl, by rw [hU], by rw [hU]; exact hPc, va_K.moved hW.alike hK, hDc.weaken (fun _ _ _ _ => trivial)⟩⟩ rfl rfl hl.1 rfl (lv_room (Nat.le_of_ble_eq_true rfl)) dL_law_857 ⟨show ce + 0 ≤ 600000 by omega, show sc + 0 ≤ 7302250 by omega⟩) hS (fun q _ h => hFc q h) hFc (fun r_2 u1 t9 H1 locs ht hvm hw hB hz1 hk1 hS => ?_)
    obtain ⟨hM, ha1⟩ := hw
    obtain ⟨hP1, hD1⟩ := hB
    rw [ht] at hP1
    have hj9 := z_joinF (cs := mw) (rs := u0) (full := u0 ++ mw) (List.perm_append_comm (l₁ := mw) (l₂ := u0)) hP hD hk1 hFc hP1 hD1
    have hP := hj9.1
    have hD := hj9.2
    clear hPc hDc hPf hDf hP1 hD1 hj9 hk1 hz1 hFc ht hvm hkx
    generalize H1 = H at hP hS ⊢
    refine W.widen (k := ce) (n := sc) (by omega) (by omega) ?_
    refine lv_pop hx hb dL_law_860 rfl ?_
    refine lv_goto (tgt := 1053) hx hb dL_law_861 (by decide) ?_
    refine W.widen (k := ce + 2) (n := sc + 26) (by omega) (by omega) ?_
    exact kk _ _ _ _ _ _ _ H locs ls hX hM (zIv_mono (iv_same hok) (by omega)) hP hD hS (lv_sub hl [0, 1, 2, 3] rfl)
set_option maxHeartbeats 4000000 in
set_option maxRecDepth 100000 in
theorem law_24 {p : Program} {l : Launch} {e : Env} {s : State} {m : MethodId} {below : List Frame} {meth : Method} {c : Code} {b L : Nat} {xs : Nat → Int32} (C0 : lw_At p s m meth c b L xs) {A : Nat → Prop} (hAe : A = fun q : Nat => s.heap.size ≤ q) (Z : gZ) (kA vA wA : Nat) (hK : va_K Z.1 vwCl (gT Z) s) (hN : gN Z s) (hG : gS kA vA A s) (hG2 : gW wA A s) {x0 m0 tn : Nat} {kp : Int32} {sl : zSL} {im : zIM} {st : spT} {xw mw : va_W} (hX : zX Z x0 tn kp sl im st xw) (hM : zM Z m0 tn kp sl im st mw) {j ce sc : Nat} (hok : zIv st tn (10000 * j)) (hjL : j + 6 ≤ L) (hL : L ≤ 3072) (hce : ce + 2 ≤ 600000) (hsc : sc + 26 ≤ 7302250) (kk : ∀ (tn : Nat) (kp : Int32) (sl : zSL) (im : zIM) (st : spT) (xw mw : va_W) (H : Heap) (locs : List Loc) (ls : Array Slot), zX Z x0 tn kp sl im st xw → zM Z m0 tn kp sl im st mw → zIv st tn (10000 * (j + 6)) → va_P Z.1 vwCl (xw ++ mw) H → va_D A (xw ++ mw) → va_S A s.heap H locs → lv_has ls 4 [(0, .ref b), (1, .ref x0), (2, .ref m0), (3, .int (nI j))] → W p l e room_1 s m #[Value.ref b] below meth c H locs (ce + 2) (sc + 26) (lw_Z below #[Value.ref b] s) (F0 m 1053 ls [])) {H : Heap} {locs : List Loc} {ls : Array Slot} (hP : va_P Z.1 vwCl (xw ++ mw) H) (hD : va_D A (xw ++ mw)) (hS : va_S A s.heap H locs) (hl : lv_has ls 4 [(0, .ref b), (1, .ref x0), (2, .ref m0), (3, .int (nI j))]) : W p l e room_1 s m #[Value.ref b] below meth c H locs (ce) (sc) (lw_Z below #[Value.ref b] s) (F0 m 864 ls []) := by
  obtain ⟨hx, hb, hr, hml, hown0, hts0, hX0, hbl, hlocks, hgv⟩ := id C0
  have hown : s.vm.findClass RL = some m.cls := hown0
  have hts : ∀ w ∈ wsL_law, w.before #[Value.ref b] s = true := fun w h => hts0 w (wsL_law_in w h)
  have hA : ∀ q : Nat, s.heap.size ≤ q → A q := by rw [hAe]; exact fun _ h => h
  have hbA : ¬ A b := by rw [hAe]; exact Nat.not_le.mpr hbl
  rcases z_slc sl (xs (nI (j + 1)).toNatClampNeg) with hno | ⟨ha9, ln, len, hso⟩
  · refine lv_aload_n hx hb dL_law_864 rfl (lv_at hl 1 rfl) ?_
    refine lv_aload_n hx hb dL_law_865 rfl (lv_at hl 0 rfl) ?_
    refine lv_iload_n hx hb dL_law_866 rfl (lv_at hl 3 rfl) ?_
    refine lv_iconst (v := 1) hx hb dL_law_867 (by decide) ?_
    refine lv_iadd hx hb dL_law_868 ?_
    refine lv_topi (fun f_1 ef_1 => ?_)
    obtain rfl : nI (j + 1) = f_1 := (ef_1.trans (nI_add j 1)).symm
    refine va_sld hx hb hX0 hbl hbA hS (vp_in_nI (by omega) (by omega)) dL_law_869 ?_
    refine lv_aload_n hx hb dL_law_870 rfl (lv_at hl 0 rfl) ?_
    refine lv_iload_n hx hb dL_law_871 rfl (lv_at hl 3 rfl) ?_
    refine lv_iconst (v := 2) hx hb dL_law_872 (by decide) ?_
    refine lv_iadd hx hb dL_law_873 ?_
    refine lv_topi (fun f_2 ef_2 => ?_)
    obtain rfl : nI (j + 2) = f_2 := (ef_2.trans (nI_add j 2)).symm
    refine va_sld hx hb hX0 hbl hbA hS (vp_in_nI (by omega) (by omega)) dL_law_874 ?_
    refine lv_aload_n hx hb dL_law_875 rfl (lv_at hl 0 rfl) ?_
    refine lv_iload_n hx hb dL_law_876 rfl (lv_at hl 3 rfl) ?_
    refine lv_iconst (v := 3) hx hb dL_law_877 (by decide) ?_
    refine lv_iadd hx hb dL_law_878 ?_
    refine lv_topi (fun f_3 ef_3 => ?_)
    obtain rfl : nI (j + 3) = f_3 := (ef_3.trans (nI_add j 3)).symm
    refine va_sld hx hb hX0 hbl hbA hS (vp_in_nI (by omega) (by omega)) dL_law_879 ?_
    refine lv_aload_n hx hb dL_law_880 rfl (lv_at hl 0 rfl) ?_
    refine lv_iload_n hx hb dL_law_881 rfl (lv_at hl 3 rfl) ?_
    refine lv_iconst (v := 4) hx hb dL_law_882 (by decide) ?_
    refine lv_iadd hx hb dL_law_883 ?_
    refine lv_topi (fun f_4 ef_4 => ?_)
    obtain rfl : nI (j + 4) = f_4 := (ef_4.trans (nI_add j 4)).symm
    refine va_sld hx hb hX0 hbl hbA hS (vp_in_nI (by omega) (by omega)) dL_law_884 ?_
    refine lv_i2l hx hb dL_law_885 rfl ?_
    refine lv_bipush (v := 32) hx hb dL_law_886 (by decide) ?_
    refine lv_lshl hx hb dL_law_888 rfl ?_
    refine lv_aload_n hx hb dL_law_889 rfl (lv_at hl 0 rfl) ?_
    refine lv_iload_n hx hb dL_law_890 rfl (lv_at hl 3 rfl) ?_
    refine lv_iconst (v := 5) hx hb dL_law_891 (by decide) ?_
    refine lv_iadd hx hb dL_law_892 ?_
    refine lv_topi (fun f_5 ef_5 => ?_)
    obtain rfl : nI (j + 5) = f_5 := (ef_5.trans (nI_add j 5)).symm
    refine va_sld hx hb hX0 hbl hbA hS (vp_in_nI (by omega) (by omega)) dL_law_893 ?_
    refine lv_i2l hx hb dL_law_894 rfl ?_
    refine lv_ldc2 (v := 4294967295) hx hb hown (hts (.constantLong RL 40 (4294967295)) (by decide +kernel)) dL_law_895 ?_
    refine lv_land hx hb dL_law_898 ?_
    refine lv_lor hx hb dL_law_899 ?_
    have hPf := z_Pp ((List.Perm.refl (xw ++ mw))).symm hP
    have hDf := z_Dp ((List.Perm.refl (xw ++ mw))).symm hD
    have hPc := z_P0 hPf
    have hDc := z_D0 hDf
    have hFc := z_freeF (cs := xw) (rs := mw) (List.Perm.refl (xw ++ mw)) hD hS hA
    obtain ⟨kx, fsx, hkx⟩ := zX_cell hX
    refine va_calli (va_runV (As := [.int (xs (nI (j + 1)).toNatClampNeg), .int (xs (nI (j + 2)).toNatClampNeg), .int (xs (nI (j + 3)).toNatClampNeg), .long ((((xs (nI (j + 4)).toNatClampNeg).toInt64) <<< ((32 : Int32).toInt64 &&& 63)) ||| (((xs (nI (j + 5)).toNatClampNeg).toInt64) &&& 4294967295))]) (rest := []) ⟨hx, hb, hml, hown, hts⟩ (cx_X8_item_N l Z H.size x0 tn kp sl im st _ hok (by omega) kA vA wA (xs (nI (j + 1)).toNatClampNeg) (xs (nI (j + 2)).toNatClampNeg) (xs (nI (j + 3)).toNatClampNeg) ((((xs (nI (j + 4)).toNatClampNeg).toInt64) <<< ((32 : Int32).toInt64 &&& 63)) ||| (((xs (nI (j + 5)).toNatClampNeg).toInt64) &&& 4294967295)) xw hX hno) (cwV 4 hts gL_law_X8_item rfl rfl rfl (by decide +kernel) ⟨Nat.le_of_ble_eq_true rfl, Nat.le_of_ble_eq_true rfl⟩) ⟨fun a U g mk q => by obtain ⟨q0, q1, qP, qK, qD, qN, qG, qW⟩ := q; exact ⟨q0, q1, qP, va_K.moved (u := U) (U := U.calling g mk a) (Vm.Alike.refl U.vm) qK, qD, z_Nc (u := U) (U := U.calling g mk a) rfl qN, z_Gc (u := U) (U := U.calling g mk a) rfl rfl qG, z_Wc (u := U) (U := U.calling g mk a) rfl rfl qW⟩, va_recv hK hPc (ci := 8) rfl hkx, fun U hU hW => ⟨rfl, by rw [hU], by rw [hU]; exact hPc, va_K.moved hW.alike hK, hDc.weaken (fun _ _ _ _ => trivial), z_N hW hN, z_G hW hG hS hU hFc, z_W hW hG2 hS hU hFc⟩⟩ rfl rfl hl.1 rfl (lv_room (Nat.le_of_ble_eq_true rfl)) dL_law_900 ⟨show ce + 0 ≤ 600000 by omega, show sc + 0 ≤ 7302250 by omega⟩) hS (fun q _ h => hFc q h) hFc (fun r_1 u0 t9 H1 locs ht hvm hw hB hz1 hk1 hS => ?_)
    obtain ⟨hX, ha0⟩ := hw
    obtain ⟨hP1, hD1⟩ := hB
    rw [ht] at hP1
    have hj9 := z_joinF (cs := xw) (rs := mw) (full := xw ++ mw) (List.Perm.refl (xw ++ mw)) hP hD hk1 hFc hP1 hD1
    have hP := z_Pp (List.perm_append_comm (l₁ := mw) (l₂ := u0)) hj9.1
    have hD := z_Dp (List.perm_append_comm (l₁ := mw) (l₂ := u0)) hj9.2
    clear hPc hDc hPf hDf hP1 hD1 hj9 hk1 hz1 hFc ht hvm hkx
    generalize H1 = H at hP hS ⊢
    refine W.widen (k := ce) (n := sc) (by omega) (by omega) ?_
    refine lv_pop hx hb dL_law_903 rfl ?_
    refine lv_aload_n hx hb dL_law_904 rfl (lv_at hl 2 rfl) ?_
    refine lv_aload_n hx hb dL_law_905 rfl (lv_at hl 0 rfl) ?_
    refine lv_iload_n hx hb dL_law_906 rfl (lv_at hl 3 rfl) ?_
    refine lv_iconst (v := 1) hx hb dL_law_907 (by decide) ?_
    refine lv_iadd hx hb dL_law_908 ?_
    refine lv_topi (fun f_6 ef_6 => ?_)
    obtain rfl : nI (j + 1) = f_6 := (ef_6.trans (nI_add j 1)).symm
    refine va_sld hx hb hX0 hbl hbA hS (vp_in_nI (by omega) (by omega)) dL_law_909 ?_
    refine lv_aload_n hx hb dL_law_910 rfl (lv_at hl 0 rfl) ?_
    refine lv_iload_n hx hb dL_law_911 rfl (lv_at hl 3 rfl) ?_
    refine lv_iconst (v := 2) hx hb dL_law_912 (by decide) ?_
    refine lv_iadd hx hb dL_law_913 ?_
    refine lv_topi (fun f_7 ef_7 => ?_)
    obtain rfl : nI (j + 2) = f_7 := (ef_7.trans (nI_add j 2)).symm
    refine va_sld hx hb hX0 hbl hbA hS (vp_in_nI (by omega) (by omega)) dL_law_914 ?_
    refine lv_aload_n hx hb dL_law_915 rfl (lv_at hl 0 rfl) ?_
    refine lv_iload_n hx hb dL_law_916 rfl (lv_at hl 3 rfl) ?_
    refine lv_iconst (v := 3) hx hb dL_law_917 (by decide) ?_
    refine lv_iadd hx hb dL_law_918 ?_
    refine lv_topi (fun f_8 ef_8 => ?_)
    obtain rfl : nI (j + 3) = f_8 := (ef_8.trans (nI_add j 3)).symm
    refine va_sld hx hb hX0 hbl hbA hS (vp_in_nI (by omega) (by omega)) dL_law_919 ?_
    refine lv_aload_n hx hb dL_law_920 rfl (lv_at hl 0 rfl) ?_
    refine lv_iload_n hx hb dL_law_921 rfl (lv_at hl 3 rfl) ?_
    refine lv_iconst (v := 4) hx hb dL_law_922 (by decide) ?_
    refine lv_iadd hx hb dL_law_923 ?_
    refine lv_topi (fun f_9 ef_9 => ?_)
    obtain rfl : nI (j + 4) = f_9 := (ef_9.trans (nI_add j 4)).symm
    refine va_sld hx hb hX0 hbl hbA hS (vp_in_nI (by omega) (by omega)) dL_law_924 ?_
    refine lv_i2l hx hb dL_law_925 rfl ?_
    refine lv_bipush (v := 32) hx hb dL_law_926 (by decide) ?_
    refine lv_lshl hx hb dL_law_928 rfl ?_
    refine lv_aload_n hx hb dL_law_929 rfl (lv_at hl 0 rfl) ?_
    refine lv_iload_n hx hb dL_law_930 rfl (lv_at hl 3 rfl) ?_
    refine lv_iconst (v := 5) hx hb dL_law_931 (by decide) ?_
    refine lv_iadd hx hb dL_law_932 ?_
    refine lv_topi (fun f_10 ef_10 => ?_)
    obtain rfl : nI (j + 5) = f_10 := (ef_10.trans (nI_add j 5)).symm
    refine va_sld hx hb hX0 hbl hbA hS (vp_in_nI (by omega) (by omega)) dL_law_933 ?_
    refine lv_i2l hx hb dL_law_934 rfl ?_
    refine lv_ldc2 (v := 4294967295) hx hb hown (hts (.constantLong RL 40 (4294967295)) (by decide +kernel)) dL_law_935 ?_
    refine lv_land hx hb dL_law_938 ?_
    refine lv_lor hx hb dL_law_939 ?_
    have hPf := z_Pp ((List.perm_append_comm (l₁ := mw) (l₂ := u0))).symm hP
    have hDf := z_Dp ((List.perm_append_comm (l₁ := mw) (l₂ := u0))).symm hD
    have hPc := z_P0 hPf
    have hDc := z_D0 hDf
    have hFc := z_freeF (cs := mw) (rs := u0) (List.perm_append_comm (l₁ := mw) (l₂ := u0)) hD hS hA
    obtain ⟨kx, fsx, hkx⟩ := zM_cell hM
    refine va_calli (va_runV (As := [.int (xs (nI (j + 1)).toNatClampNeg), .int (xs (nI (j + 2)).toNatClampNeg), .int (xs (nI (j + 3)).toNatClampNeg), .long ((((xs (nI (j + 4)).toNatClampNeg).toInt64) <<< ((32 : Int32).toInt64 &&& 63)) ||| (((xs (nI (j + 5)).toNatClampNeg).toInt64) &&& 4294967295))]) (rest := []) ⟨hx, hb, hml, hown, hts⟩ (cm_item l Z H.size m0 tn kp sl im st _ hok (by omega) (xs (nI (j + 1)).toNatClampNeg) (xs (nI (j + 2)).toNatClampNeg) (xs (nI (j + 3)).toNatClampNeg) ((((xs (nI (j + 4)).toNatClampNeg).toInt64) <<< ((32 : Int32).toInt64 &&& 63)) ||| (((xs (nI (j + 5)).toNatClampNeg).toInt64) &&& 4294967295)) mw hM) (cwV 4 hts gL_law_X9_item rfl rfl rfl (by decide +kernel) ⟨Nat.le_of_ble_eq_true rfl, Nat.le_of_ble_eq_true rfl⟩) ⟨fun a U g mk q => by obtain ⟨q0, q1, qP, qK, qD⟩ := q; exact ⟨q0, q1, qP, va_K.moved (u := U) (U := U.calling g mk a) (Vm.Alike.refl U.vm) qK, qD⟩, va_recv hK hPc (ci := 9) rfl hkx, fun U hU hW => ⟨rfl, by rw [hU], by rw [hU]; exact hPc, va_K.moved hW.alike hK, hDc.weaken (fun _ _ _ _ => trivial)⟩⟩ rfl rfl hl.1 rfl (lv_room (Nat.le_of_ble_eq_true rfl)) dL_law_940 ⟨show ce + 0 ≤ 600000 by omega, show sc + 0 ≤ 7302250 by omega⟩) hS (fun q _ h => hFc q h) hFc (fun r_2 u1 t9 H1 locs ht hvm hw hB hz1 hk1 hS => ?_)
    obtain ⟨hM, ha1⟩ := hw
    obtain ⟨hP1, hD1⟩ := hB
    rw [ht] at hP1
    have hj9 := z_joinF (cs := mw) (rs := u0) (full := u0 ++ mw) (List.perm_append_comm (l₁ := mw) (l₂ := u0)) hP hD hk1 hFc hP1 hD1
    have hP := hj9.1
    have hD := hj9.2
    clear hPc hDc hPf hDf hP1 hD1 hj9 hk1 hz1 hFc ht hvm hkx
    generalize H1 = H at hP hS ⊢
    refine W.widen (k := ce) (n := sc) (by omega) (by omega) ?_
    refine lv_pop hx hb dL_law_943 rfl ?_
    refine lv_goto (tgt := 1053) hx hb dL_law_944 (by decide) ?_
    refine W.widen (k := ce + 2) (n := sc + 26) (by omega) (by omega) ?_
    exact kk _ _ _ _ _ _ _ H locs ls hX hM (zIv_mono (iv_same hok) (by omega)) hP hD hS (lv_sub hl [0, 1, 2, 3] rfl)
  · refine lv_aload_n hx hb dL_law_864 rfl (lv_at hl 1 rfl) ?_
    refine lv_aload_n hx hb dL_law_865 rfl (lv_at hl 0 rfl) ?_
    refine lv_iload_n hx hb dL_law_866 rfl (lv_at hl 3 rfl) ?_
    refine lv_iconst (v := 1) hx hb dL_law_867 (by decide) ?_
    refine lv_iadd hx hb dL_law_868 ?_
    refine lv_topi (fun f_1 ef_1 => ?_)
    obtain rfl : nI (j + 1) = f_1 := (ef_1.trans (nI_add j 1)).symm
    refine va_sld hx hb hX0 hbl hbA hS (vp_in_nI (by omega) (by omega)) dL_law_869 ?_
    refine lv_aload_n hx hb dL_law_870 rfl (lv_at hl 0 rfl) ?_
    refine lv_iload_n hx hb dL_law_871 rfl (lv_at hl 3 rfl) ?_
    refine lv_iconst (v := 2) hx hb dL_law_872 (by decide) ?_
    refine lv_iadd hx hb dL_law_873 ?_
    refine lv_topi (fun f_2 ef_2 => ?_)
    obtain rfl : nI (j + 2) = f_2 := (ef_2.trans (nI_add j 2)).symm
    refine va_sld hx hb hX0 hbl hbA hS (vp_in_nI (by omega) (by omega)) dL_law_874 ?_
    refine lv_aload_n hx hb dL_law_875 rfl (lv_at hl 0 rfl) ?_
    refine lv_iload_n hx hb dL_law_876 rfl (lv_at hl 3 rfl) ?_
    refine lv_iconst (v := 3) hx hb dL_law_877 (by decide) ?_
    refine lv_iadd hx hb dL_law_878 ?_
    refine lv_topi (fun f_3 ef_3 => ?_)
    obtain rfl : nI (j + 3) = f_3 := (ef_3.trans (nI_add j 3)).symm
    refine va_sld hx hb hX0 hbl hbA hS (vp_in_nI (by omega) (by omega)) dL_law_879 ?_
    refine lv_aload_n hx hb dL_law_880 rfl (lv_at hl 0 rfl) ?_
    refine lv_iload_n hx hb dL_law_881 rfl (lv_at hl 3 rfl) ?_
    refine lv_iconst (v := 4) hx hb dL_law_882 (by decide) ?_
    refine lv_iadd hx hb dL_law_883 ?_
    refine lv_topi (fun f_4 ef_4 => ?_)
    obtain rfl : nI (j + 4) = f_4 := (ef_4.trans (nI_add j 4)).symm
    refine va_sld hx hb hX0 hbl hbA hS (vp_in_nI (by omega) (by omega)) dL_law_884 ?_
    refine lv_i2l hx hb dL_law_885 rfl ?_
    refine lv_bipush (v := 32) hx hb dL_law_886 (by decide) ?_
    refine lv_lshl hx hb dL_law_888 rfl ?_
    refine lv_aload_n hx hb dL_law_889 rfl (lv_at hl 0 rfl) ?_
    refine lv_iload_n hx hb dL_law_890 rfl (lv_at hl 3 rfl) ?_
    refine lv_iconst (v := 5) hx hb dL_law_891 (by decide) ?_
    refine lv_iadd hx hb dL_law_892 ?_
    refine lv_topi (fun f_5 ef_5 => ?_)
    obtain rfl : nI (j + 5) = f_5 := (ef_5.trans (nI_add j 5)).symm
    refine va_sld hx hb hX0 hbl hbA hS (vp_in_nI (by omega) (by omega)) dL_law_893 ?_
    refine lv_i2l hx hb dL_law_894 rfl ?_
    refine lv_ldc2 (v := 4294967295) hx hb hown (hts (.constantLong RL 40 (4294967295)) (by decide +kernel)) dL_law_895 ?_
    refine lv_land hx hb dL_law_898 ?_
    refine lv_lor hx hb dL_law_899 ?_
    have hPf := z_Pp ((List.Perm.refl (xw ++ mw))).symm hP
    have hDf := z_Dp ((List.Perm.refl (xw ++ mw))).symm hD
    have hPc := z_P0 hPf
    have hDc := z_D0 hDf
    have hFc := z_freeF (cs := xw) (rs := mw) (List.Perm.refl (xw ++ mw)) hD hS hA
    obtain ⟨kx, fsx, hkx⟩ := zX_cell hX
    refine va_calli (va_runV (As := [.int (xs (nI (j + 1)).toNatClampNeg), .int (xs (nI (j + 2)).toNatClampNeg), .int (xs (nI (j + 3)).toNatClampNeg), .long ((((xs (nI (j + 4)).toNatClampNeg).toInt64) <<< ((32 : Int32).toInt64 &&& 63)) ||| (((xs (nI (j + 5)).toNatClampNeg).toInt64) &&& 4294967295))]) (rest := []) ⟨hx, hb, hml, hown, hts⟩ (cx_X8_item_S l Z H.size x0 tn kp sl im st _ hok (by omega) kA vA wA (xs (nI (j + 1)).toNatClampNeg) (xs (nI (j + 2)).toNatClampNeg) (xs (nI (j + 3)).toNatClampNeg) ((((xs (nI (j + 4)).toNatClampNeg).toInt64) <<< ((32 : Int32).toInt64 &&& 63)) ||| (((xs (nI (j + 5)).toNatClampNeg).toInt64) &&& 4294967295)) ln len xw hX ha9 hso) (cwV 4 hts gL_law_X8_item rfl rfl rfl (by decide +kernel) ⟨Nat.le_of_ble_eq_true rfl, Nat.le_of_ble_eq_true rfl⟩) ⟨fun a U g mk q => by obtain ⟨q0, q1, qP, qK, qD, qN, qG, qW⟩ := q; exact ⟨q0, q1, qP, va_K.moved (u := U) (U := U.calling g mk a) (Vm.Alike.refl U.vm) qK, qD, z_Nc (u := U) (U := U.calling g mk a) rfl qN, z_Gc (u := U) (U := U.calling g mk a) rfl rfl qG, z_Wc (u := U) (U := U.calling g mk a) rfl rfl qW⟩, va_recv hK hPc (ci := 8) rfl hkx, fun U hU hW => ⟨rfl, by rw [hU], by rw [hU]; exact hPc, va_K.moved hW.alike hK, hDc.weaken (fun _ _ _ _ => trivial), z_N hW hN, z_G hW hG hS hU hFc, z_W hW hG2 hS hU hFc⟩⟩ rfl rfl hl.1 rfl (lv_room (Nat.le_of_ble_eq_true rfl)) dL_law_900 ⟨show ce + 0 ≤ 600000 by omega, show sc + 0 ≤ 7302250 by omega⟩) hS (fun q _ h => hFc q h) hFc (fun r_1 u0 t9 H1 locs ht hvm hw hB hz1 hk1 hS => ?_)
    obtain ⟨hX, ha0⟩ := hw
    obtain ⟨hP1, hD1⟩ := hB
    rw [ht] at hP1
    have hj9 := z_joinF (cs := xw) (rs := mw) (full := xw ++ mw) (List.Perm.refl (xw ++ mw)) hP hD hk1 hFc hP1 hD1
    have hP := z_Pp (List.perm_append_comm (l₁ := mw) (l₂ := u0)) hj9.1
    have hD := z_Dp (List.perm_append_comm (l₁ := mw) (l₂ := u0)) hj9.2
    clear hPc hDc hPf hDf hP1 hD1 hj9 hk1 hz1 hFc ht hvm hkx
    generalize H1 = H at hP hS ⊢
    refine W.widen (k := ce) (n := sc) (by omega) (by omega) ?_
    refine lv_pop hx hb dL_law_903 rfl ?_
    refine lv_aload_n hx hb dL_law_904 rfl (lv_at hl 2 rfl) ?_
    refine lv_aload_n hx hb dL_law_905 rfl (lv_at hl 0 rfl) ?_
    refine lv_iload_n hx hb dL_law_906 rfl (lv_at hl 3 rfl) ?_
    refine lv_iconst (v := 1) hx hb dL_law_907 (by decide) ?_
    refine lv_iadd hx hb dL_law_908 ?_
    refine lv_topi (fun f_6 ef_6 => ?_)
    obtain rfl : nI (j + 1) = f_6 := (ef_6.trans (nI_add j 1)).symm
    refine va_sld hx hb hX0 hbl hbA hS (vp_in_nI (by omega) (by omega)) dL_law_909 ?_
    refine lv_aload_n hx hb dL_law_910 rfl (lv_at hl 0 rfl) ?_
    refine lv_iload_n hx hb dL_law_911 rfl (lv_at hl 3 rfl) ?_
    refine lv_iconst (v := 2) hx hb dL_law_912 (by decide) ?_
    refine lv_iadd hx hb dL_law_913 ?_
    refine lv_topi (fun f_7 ef_7 => ?_)
    obtain rfl : nI (j + 2) = f_7 := (ef_7.trans (nI_add j 2)).symm
    refine va_sld hx hb hX0 hbl hbA hS (vp_in_nI (by omega) (by omega)) dL_law_914 ?_
    refine lv_aload_n hx hb dL_law_915 rfl (lv_at hl 0 rfl) ?_
    refine lv_iload_n hx hb dL_law_916 rfl (lv_at hl 3 rfl) ?_
    refine lv_iconst (v := 3) hx hb dL_law_917 (by decide) ?_
    refine lv_iadd hx hb dL_law_918 ?_
    refine lv_topi (fun f_8 ef_8 => ?_)
    obtain rfl : nI (j + 3) = f_8 := (ef_8.trans (nI_add j 3)).symm
    refine va_sld hx hb hX0 hbl hbA hS (vp_in_nI (by omega) (by omega)) dL_law_919 ?_
    refine lv_aload_n hx hb dL_law_920 rfl (lv_at hl 0 rfl) ?_
    refine lv_iload_n hx hb dL_law_921 rfl (lv_at hl 3 rfl) ?_
    refine lv_iconst (v := 4) hx hb dL_law_922 (by decide) ?_
    refine lv_iadd hx hb dL_law_923 ?_
    refine lv_topi (fun f_9 ef_9 => ?_)
    obtain rfl : nI (j + 4) = f_9 := (ef_9.trans (nI_add j 4)).symm
    refine va_sld hx hb hX0 hbl hbA hS (vp_in_nI (by omega) (by omega)) dL_law_924 ?_
    refine lv_i2l hx hb dL_law_925 rfl ?_
    refine lv_bipush (v := 32) hx hb dL_law_926 (by decide) ?_
    refine lv_lshl hx hb dL_law_928 rfl ?_
    refine lv_aload_n hx hb dL_law_929 rfl (lv_at hl 0 rfl) ?_
    refine lv_iload_n hx hb dL_law_930 rfl (lv_at hl 3 rfl) ?_
    refine lv_iconst (v := 5) hx hb dL_law_931 (by decide) ?_
    refine lv_iadd hx hb dL_law_932 ?_
    refine lv_topi (fun f_10 ef_10 => ?_)
    obtain rfl : nI (j + 5) = f_10 := (ef_10.trans (nI_add j 5)).symm
    refine va_sld hx hb hX0 hbl hbA hS (vp_in_nI (by omega) (by omega)) dL_law_933 ?_
    refine lv_i2l hx hb dL_law_934 rfl ?_
    refine lv_ldc2 (v := 4294967295) hx hb hown (hts (.constantLong RL 40 (4294967295)) (by decide +kernel)) dL_law_935 ?_
    refine lv_land hx hb dL_law_938 ?_
    refine lv_lor hx hb dL_law_939 ?_
    have hPf := z_Pp ((List.perm_append_comm (l₁ := mw) (l₂ := u0))).symm hP
    have hDf := z_Dp ((List.perm_append_comm (l₁ := mw) (l₂ := u0))).symm hD
    have hPc := z_P0 hPf
    have hDc := z_D0 hDf
    have hFc := z_freeF (cs := mw) (rs := u0) (List.perm_append_comm (l₁ := mw) (l₂ := u0)) hD hS hA
    obtain ⟨kx, fsx, hkx⟩ := zM_cell hM
    refine va_calli (va_runV (As := [.int (xs (nI (j + 1)).toNatClampNeg), .int (xs (nI (j + 2)).toNatClampNeg), .int (xs (nI (j + 3)).toNatClampNeg), .long ((((xs (nI (j + 4)).toNatClampNeg).toInt64) <<< ((32 : Int32).toInt64 &&& 63)) ||| (((xs (nI (j + 5)).toNatClampNeg).toInt64) &&& 4294967295))]) (rest := []) ⟨hx, hb, hml, hown, hts⟩ (cm_item l Z H.size m0 tn kp sl im st _ hok (by omega) (xs (nI (j + 1)).toNatClampNeg) (xs (nI (j + 2)).toNatClampNeg) (xs (nI (j + 3)).toNatClampNeg) ((((xs (nI (j + 4)).toNatClampNeg).toInt64) <<< ((32 : Int32).toInt64 &&& 63)) ||| (((xs (nI (j + 5)).toNatClampNeg).toInt64) &&& 4294967295)) mw hM) (cwV 4 hts gL_law_X9_item rfl rfl rfl (by decide +kernel) ⟨Nat.le_of_ble_eq_true rfl, Nat.le_of_ble_eq_true rfl⟩) ⟨fun a U g mk q => by obtain ⟨q0, q1, qP, qK, qD⟩ := q; exact ⟨q0, q1, qP, va_K.moved (u := U) (U := U.calling g mk a) (Vm.Alike.refl U.vm) qK, qD⟩, va_recv hK hPc (ci := 9) rfl hkx, fun U hU hW => ⟨rfl, by rw [hU], by rw [hU]; exact hPc, va_K.moved hW.alike hK, hDc.weaken (fun _ _ _ _ => trivial)⟩⟩ rfl rfl hl.1 rfl (lv_room (Nat.le_of_ble_eq_true rfl)) dL_law_940 ⟨show ce + 0 ≤ 600000 by omega, show sc + 0 ≤ 7302250 by omega⟩) hS (fun q _ h => hFc q h) hFc (fun r_2 u1 t9 H1 locs ht hvm hw hB hz1 hk1 hS => ?_)
    obtain ⟨hM, ha1⟩ := hw
    obtain ⟨hP1, hD1⟩ := hB
    rw [ht] at hP1
    have hj9 := z_joinF (cs := mw) (rs := u0) (full := u0 ++ mw) (List.perm_append_comm (l₁ := mw) (l₂ := u0)) hP hD hk1 hFc hP1 hD1
    have hP := hj9.1
    have hD := hj9.2
    clear hPc hDc hPf hDf hP1 hD1 hj9 hk1 hz1 hFc ht hvm hkx
    generalize H1 = H at hP hS ⊢
    refine W.widen (k := ce) (n := sc) (by omega) (by omega) ?_
    refine lv_pop hx hb dL_law_943 rfl ?_
    refine lv_goto (tgt := 1053) hx hb dL_law_944 (by decide) ?_
    refine W.widen (k := ce + 2) (n := sc + 26) (by omega) (by omega) ?_
    exact kk _ _ _ _ _ _ _ H locs ls hX hM (zIv_mono (iv_same hok) (by omega)) hP hD hS (lv_sub hl [0, 1, 2, 3] rfl)
set_option maxHeartbeats 4000000 in
set_option maxRecDepth 100000 in
theorem law_25 {p : Program} {l : Launch} {e : Env} {s : State} {m : MethodId} {below : List Frame} {meth : Method} {c : Code} {b L : Nat} {xs : Nat → Int32} (C0 : lw_At p s m meth c b L xs) {A : Nat → Prop} (hAe : A = fun q : Nat => s.heap.size ≤ q) (Z : gZ) (kA vA wA : Nat) (hK : va_K Z.1 vwCl (gT Z) s) (hN : gN Z s) (hG : gS kA vA A s) (hG2 : gW wA A s) {x0 m0 tn : Nat} {kp : Int32} {sl : zSL} {im : zIM} {st : spT} {xw mw : va_W} (hX : zX Z x0 tn kp sl im st xw) (hM : zM Z m0 tn kp sl im st mw) {j ce sc : Nat} (hok : zIv st tn (10000 * j)) (hjL : j + 6 ≤ L) (hL : L ≤ 3072) (hce : ce + 2 ≤ 600000) (hsc : sc + 26 ≤ 7302250) (kk : ∀ (tn : Nat) (kp : Int32) (sl : zSL) (im : zIM) (st : spT) (xw mw : va_W) (H : Heap) (locs : List Loc) (ls : Array Slot), zX Z x0 tn kp sl im st xw → zM Z m0 tn kp sl im st mw → zIv st tn (10000 * (j + 6)) → va_P Z.1 vwCl (xw ++ mw) H → va_D A (xw ++ mw) → va_S A s.heap H locs → lv_has ls 4 [(0, .ref b), (1, .ref x0), (2, .ref m0), (3, .int (nI j))] → W p l e room_1 s m #[Value.ref b] below meth c H locs (ce + 2) (sc + 26) (lw_Z below #[Value.ref b] s) (F0 m 1053 ls [])) {H : Heap} {locs : List Loc} {ls : Array Slot} (hP : va_P Z.1 vwCl (xw ++ mw) H) (hD : va_D A (xw ++ mw)) (hS : va_S A s.heap H locs) (hl : lv_has ls 4 [(0, .ref b), (1, .ref x0), (2, .ref m0), (3, .int (nI j))]) : W p l e room_1 s m #[Value.ref b] below meth c H locs (ce) (sc) (lw_Z below #[Value.ref b] s) (F0 m 947 ls []) := by
  obtain ⟨hx, hb, hr, hml, hown0, hts0, hX0, hbl, hlocks, hgv⟩ := id C0
  have hown : s.vm.findClass RL = some m.cls := hown0
  have hts : ∀ w ∈ wsL_law, w.before #[Value.ref b] s = true := fun w h => hts0 w (wsL_law_in w h)
  have hA : ∀ q : Nat, s.heap.size ≤ q → A q := by rw [hAe]; exact fun _ h => h
  have hbA : ¬ A b := by rw [hAe]; exact Nat.not_le.mpr hbl
  rcases z_slc sl (xs (nI (j + 1)).toNatClampNeg) with hno | ⟨ha9, ln, len, hso⟩
  · refine lv_aload_n hx hb dL_law_947 rfl (lv_at hl 1 rfl) ?_
    refine lv_aload_n hx hb dL_law_948 rfl (lv_at hl 0 rfl) ?_
    refine lv_iload_n hx hb dL_law_949 rfl (lv_at hl 3 rfl) ?_
    refine lv_iconst (v := 1) hx hb dL_law_950 (by decide) ?_
    refine lv_iadd hx hb dL_law_951 ?_
    refine lv_topi (fun f_1 ef_1 => ?_)
    obtain rfl : nI (j + 1) = f_1 := (ef_1.trans (nI_add j 1)).symm
    refine va_sld hx hb hX0 hbl hbA hS (vp_in_nI (by omega) (by omega)) dL_law_952 ?_
    refine lv_aload_n hx hb dL_law_953 rfl (lv_at hl 0 rfl) ?_
    refine lv_iload_n hx hb dL_law_954 rfl (lv_at hl 3 rfl) ?_
    refine lv_iconst (v := 2) hx hb dL_law_955 (by decide) ?_
    refine lv_iadd hx hb dL_law_956 ?_
    refine lv_topi (fun f_2 ef_2 => ?_)
    obtain rfl : nI (j + 2) = f_2 := (ef_2.trans (nI_add j 2)).symm
    refine va_sld hx hb hX0 hbl hbA hS (vp_in_nI (by omega) (by omega)) dL_law_957 ?_
    refine lv_aload_n hx hb dL_law_958 rfl (lv_at hl 0 rfl) ?_
    refine lv_iload_n hx hb dL_law_959 rfl (lv_at hl 3 rfl) ?_
    refine lv_iconst (v := 3) hx hb dL_law_960 (by decide) ?_
    refine lv_iadd hx hb dL_law_961 ?_
    refine lv_topi (fun f_3 ef_3 => ?_)
    obtain rfl : nI (j + 3) = f_3 := (ef_3.trans (nI_add j 3)).symm
    refine va_sld hx hb hX0 hbl hbA hS (vp_in_nI (by omega) (by omega)) dL_law_962 ?_
    have hPf := z_Pp ((List.Perm.refl (xw ++ mw))).symm hP
    have hDf := z_Dp ((List.Perm.refl (xw ++ mw))).symm hD
    have hPc := z_P0 hPf
    have hDc := z_D0 hDf
    have hFc := z_freeF (cs := xw) (rs := mw) (List.Perm.refl (xw ++ mw)) hD hS hA
    obtain ⟨kx, fsx, hkx⟩ := zX_cell hX
    refine va_calli (va_runV (As := [.int (xs (nI (j + 1)).toNatClampNeg), .int (xs (nI (j + 2)).toNatClampNeg), .int (xs (nI (j + 3)).toNatClampNeg)]) (rest := []) ⟨hx, hb, hml, hown, hts⟩ (cx_X8_film_N l Z H.size x0 tn kp sl im st _ hok (by omega) kA vA wA (xs (nI (j + 1)).toNatClampNeg) (xs (nI (j + 2)).toNatClampNeg) (xs (nI (j + 3)).toNatClampNeg) xw hX hno) (cwV 3 hts gL_law_X8_film rfl rfl rfl (by decide +kernel) ⟨Nat.le_of_ble_eq_true rfl, Nat.le_of_ble_eq_true rfl⟩) ⟨fun a U g mk q => by obtain ⟨q0, q1, qP, qK, qD, qN, qG, qW⟩ := q; exact ⟨q0, q1, qP, va_K.moved (u := U) (U := U.calling g mk a) (Vm.Alike.refl U.vm) qK, qD, z_Nc (u := U) (U := U.calling g mk a) rfl qN, z_Gc (u := U) (U := U.calling g mk a) rfl rfl qG, z_Wc (u := U) (U := U.calling g mk a) rfl rfl qW⟩, va_recv hK hPc (ci := 8) rfl hkx, fun U hU hW => ⟨rfl, by rw [hU], by rw [hU]; exact hPc, va_K.moved hW.alike hK, hDc.weaken (fun _ _ _ _ => trivial), z_N hW hN, z_G hW hG hS hU hFc, z_W hW hG2 hS hU hFc⟩⟩ rfl rfl hl.1 rfl (lv_room (Nat.le_of_ble_eq_true rfl)) dL_law_963 ⟨show ce + 0 ≤ 600000 by omega, show sc + 0 ≤ 7302250 by omega⟩) hS (fun q _ h => hFc q h) hFc (fun r_1 u0 t9 H1 locs ht hvm hw hB hz1 hk1 hS => ?_)
    obtain ⟨hX, ha0⟩ := hw
    obtain ⟨hP1, hD1⟩ := hB
    rw [ht] at hP1
    have hj9 := z_joinF (cs := xw) (rs := mw) (full := xw ++ mw) (List.Perm.refl (xw ++ mw)) hP hD hk1 hFc hP1 hD1
    have hP := z_Pp (List.perm_append_comm (l₁ := mw) (l₂ := u0)) hj9.1
    have hD := z_Dp (List.perm_append_comm (l₁ := mw) (l₂ := u0)) hj9.2
    clear hPc hDc hPf hDf hP1 hD1 hj9 hk1 hz1 hFc ht hvm hkx
    generalize H1 = H at hP hS ⊢
    refine W.widen (k := ce) (n := sc) (by omega) (by omega) ?_
    refine lv_pop hx hb dL_law_966 rfl ?_
    refine lv_aload_n hx hb dL_law_967 rfl (lv_at hl 2 rfl) ?_
    refine lv_aload_n hx hb dL_law_968 rfl (lv_at hl 0 rfl) ?_
    refine lv_iload_n hx hb dL_law_969 rfl (lv_at hl 3 rfl) ?_
    refine lv_iconst (v := 1) hx hb dL_law_970 (by decide) ?_
    refine lv_iadd hx hb dL_law_971 ?_
    refine lv_topi (fun f_4 ef_4 => ?_)
    obtain rfl : nI (j + 1) = f_4 := (ef_4.trans (nI_add j 1)).symm
    refine va_sld hx hb hX0 hbl hbA hS (vp_in_nI (by omega) (by omega)) dL_law_972 ?_
    refine lv_aload_n hx hb dL_law_973 rfl (lv_at hl 0 rfl) ?_
    refine lv_iload_n hx hb dL_law_974 rfl (lv_at hl 3 rfl) ?_
    refine lv_iconst (v := 2) hx hb dL_law_975 (by decide) ?_
    refine lv_iadd hx hb dL_law_976 ?_
    refine lv_topi (fun f_5 ef_5 => ?_)
    obtain rfl : nI (j + 2) = f_5 := (ef_5.trans (nI_add j 2)).symm
    refine va_sld hx hb hX0 hbl hbA hS (vp_in_nI (by omega) (by omega)) dL_law_977 ?_
    refine lv_aload_n hx hb dL_law_978 rfl (lv_at hl 0 rfl) ?_
    refine lv_iload_n hx hb dL_law_979 rfl (lv_at hl 3 rfl) ?_
    refine lv_iconst (v := 3) hx hb dL_law_980 (by decide) ?_
    refine lv_iadd hx hb dL_law_981 ?_
    refine lv_topi (fun f_6 ef_6 => ?_)
    obtain rfl : nI (j + 3) = f_6 := (ef_6.trans (nI_add j 3)).symm
    refine va_sld hx hb hX0 hbl hbA hS (vp_in_nI (by omega) (by omega)) dL_law_982 ?_
    have hPf := z_Pp ((List.perm_append_comm (l₁ := mw) (l₂ := u0))).symm hP
    have hDf := z_Dp ((List.perm_append_comm (l₁ := mw) (l₂ := u0))).symm hD
    have hPc := z_P0 hPf
    have hDc := z_D0 hDf
    have hFc := z_freeF (cs := mw) (rs := u0) (List.perm_append_comm (l₁ := mw) (l₂ := u0)) hD hS hA
    obtain ⟨kx, fsx, hkx⟩ := zM_cell hM
    refine va_calli (va_runV (As := [.int (xs (nI (j + 1)).toNatClampNeg), .int (xs (nI (j + 2)).toNatClampNeg), .int (xs (nI (j + 3)).toNatClampNeg)]) (rest := []) ⟨hx, hb, hml, hown, hts⟩ (cm_film l Z H.size m0 tn kp sl im st _ hok (by omega) (xs (nI (j + 1)).toNatClampNeg) (xs (nI (j + 2)).toNatClampNeg) (xs (nI (j + 3)).toNatClampNeg) mw hM) (cwV 3 hts gL_law_X9_film rfl rfl rfl (by decide +kernel) ⟨Nat.le_of_ble_eq_true rfl, Nat.le_of_ble_eq_true rfl⟩) ⟨fun a U g mk q => by obtain ⟨q0, q1, qP, qK, qD⟩ := q; exact ⟨q0, q1, qP, va_K.moved (u := U) (U := U.calling g mk a) (Vm.Alike.refl U.vm) qK, qD⟩, va_recv hK hPc (ci := 9) rfl hkx, fun U hU hW => ⟨rfl, by rw [hU], by rw [hU]; exact hPc, va_K.moved hW.alike hK, hDc.weaken (fun _ _ _ _ => trivial)⟩⟩ rfl rfl hl.1 rfl (lv_room (Nat.le_of_ble_eq_true rfl)) dL_law_983 ⟨show ce + 0 ≤ 600000 by omega, show sc + 0 ≤ 7302250 by omega⟩) hS (fun q _ h => hFc q h) hFc (fun r_2 u1 t9 H1 locs ht hvm hw hB hz1 hk1 hS => ?_)
    obtain ⟨hM, ha1⟩ := hw
    obtain ⟨hP1, hD1⟩ := hB
    rw [ht] at hP1
    have hj9 := z_joinF (cs := mw) (rs := u0) (full := u0 ++ mw) (List.perm_append_comm (l₁ := mw) (l₂ := u0)) hP hD hk1 hFc hP1 hD1
    have hP := hj9.1
    have hD := hj9.2
    clear hPc hDc hPf hDf hP1 hD1 hj9 hk1 hz1 hFc ht hvm hkx
    generalize H1 = H at hP hS ⊢
    refine W.widen (k := ce) (n := sc) (by omega) (by omega) ?_
    refine lv_pop hx hb dL_law_986 rfl ?_
    refine lv_goto (tgt := 1053) hx hb dL_law_987 (by decide) ?_
    refine W.widen (k := ce + 2) (n := sc + 26) (by omega) (by omega) ?_
    exact kk _ _ _ _ _ _ _ H locs ls hX hM (zIv_mono (iv_same hok) (by omega)) hP hD hS (lv_sub hl [0, 1, 2, 3] rfl)
  · refine lv_aload_n hx hb dL_law_947 rfl (lv_at hl 1 rfl) ?_
    refine lv_aload_n hx hb dL_law_948 rfl (lv_at hl 0 rfl) ?_
    refine lv_iload_n hx hb dL_law_949 rfl (lv_at hl 3 rfl) ?_
    refine lv_iconst (v := 1) hx hb dL_law_950 (by decide) ?_
    refine lv_iadd hx hb dL_law_951 ?_
    refine lv_topi (fun f_1 ef_1 => ?_)
    obtain rfl : nI (j + 1) = f_1 := (ef_1.trans (nI_add j 1)).symm
    refine va_sld hx hb hX0 hbl hbA hS (vp_in_nI (by omega) (by omega)) dL_law_952 ?_
    refine lv_aload_n hx hb dL_law_953 rfl (lv_at hl 0 rfl) ?_
    refine lv_iload_n hx hb dL_law_954 rfl (lv_at hl 3 rfl) ?_
    refine lv_iconst (v := 2) hx hb dL_law_955 (by decide) ?_
    refine lv_iadd hx hb dL_law_956 ?_
    refine lv_topi (fun f_2 ef_2 => ?_)
    obtain rfl : nI (j + 2) = f_2 := (ef_2.trans (nI_add j 2)).symm
    refine va_sld hx hb hX0 hbl hbA hS (vp_in_nI (by omega) (by omega)) dL_law_957 ?_
    refine lv_aload_n hx hb dL_law_958 rfl (lv_at hl 0 rfl) ?_
    refine lv_iload_n hx hb dL_law_959 rfl (lv_at hl 3 rfl) ?_
    refine lv_iconst (v := 3) hx hb dL_law_960 (by decide) ?_
    refine lv_iadd hx hb dL_law_961 ?_
    refine lv_topi (fun f_3 ef_3 => ?_)
    obtain rfl : nI (j + 3) = f_3 := (ef_3.trans (nI_add j 3)).symm
    refine va_sld hx hb hX0 hbl hbA hS (vp_in_nI (by omega) (by omega)) dL_law_962 ?_
    have hPf := z_Pp ((List.Perm.refl (xw ++ mw))).symm hP
    have hDf := z_Dp ((List.Perm.refl (xw ++ mw))).symm hD
    have hPc := z_P0 hPf
    have hDc := z_D0 hDf
    have hFc := z_freeF (cs := xw) (rs := mw) (List.Perm.refl (xw ++ mw)) hD hS hA
    obtain ⟨kx, fsx, hkx⟩ := zX_cell hX
    refine va_calli (va_runV (As := [.int (xs (nI (j + 1)).toNatClampNeg), .int (xs (nI (j + 2)).toNatClampNeg), .int (xs (nI (j + 3)).toNatClampNeg)]) (rest := []) ⟨hx, hb, hml, hown, hts⟩ (cx_X8_film_S l Z H.size x0 tn kp sl im st _ hok (by omega) kA vA wA (xs (nI (j + 1)).toNatClampNeg) (xs (nI (j + 2)).toNatClampNeg) (xs (nI (j + 3)).toNatClampNeg) ln len xw hX ha9 hso) (cwV 3 hts gL_law_X8_film rfl rfl rfl (by decide +kernel) ⟨Nat.le_of_ble_eq_true rfl, Nat.le_of_ble_eq_true rfl⟩) ⟨fun a U g mk q => by obtain ⟨q0, q1, qP, qK, qD, qN, qG, qW⟩ := q; exact ⟨q0, q1, qP, va_K.moved (u := U) (U := U.calling g mk a) (Vm.Alike.refl U.vm) qK, qD, z_Nc (u := U) (U := U.calling g mk a) rfl qN, z_Gc (u := U) (U := U.calling g mk a) rfl rfl qG, z_Wc (u := U) (U := U.calling g mk a) rfl rfl qW⟩, va_recv hK hPc (ci := 8) rfl hkx, fun U hU hW => ⟨rfl, by rw [hU], by rw [hU]; exact hPc, va_K.moved hW.alike hK, hDc.weaken (fun _ _ _ _ => trivial), z_N hW hN, z_G hW hG hS hU hFc, z_W hW hG2 hS hU hFc⟩⟩ rfl rfl hl.1 rfl (lv_room (Nat.le_of_ble_eq_true rfl)) dL_law_963 ⟨show ce + 0 ≤ 600000 by omega, show sc + 0 ≤ 7302250 by omega⟩) hS (fun q _ h => hFc q h) hFc (fun r_1 u0 t9 H1 locs ht hvm hw hB hz1 hk1 hS => ?_)
    obtain ⟨hX, ha0⟩ := hw
    obtain ⟨hP1, hD1⟩ := hB
    rw [ht] at hP1
    have hj9 := z_joinF (cs := xw) (rs := mw) (full := xw ++ mw) (List.Perm.refl (xw ++ mw)) hP hD hk1 hFc hP1 hD1
    have hP := z_Pp (List.perm_append_comm (l₁ := mw) (l₂ := u0)) hj9.1
    have hD := z_Dp (List.perm_append_comm (l₁ := mw) (l₂ := u0)) hj9.2
    clear hPc hDc hPf hDf hP1 hD1 hj9 hk1 hz1 hFc ht hvm hkx
    generalize H1 = H at hP hS ⊢
    refine W.widen (k := ce) (n := sc) (by omega) (by omega) ?_
    refine lv_pop hx hb dL_law_966 rfl ?_
    refine lv_aload_n hx hb dL_law_967 rfl (lv_at hl 2 rfl) ?_
    refine lv_aload_n hx hb dL_law_968 rfl (lv_at hl 0 rfl) ?_
    refine lv_iload_n hx hb dL_law_969 rfl (lv_at hl 3 rfl) ?_
    refine lv_iconst (v := 1) hx hb dL_law_970 (by decide) ?_
    refine lv_iadd hx hb dL_law_971 ?_
    refine lv_topi (fun f_4 ef_4 => ?_)
    obtain rfl : nI (j + 1) = f_4 := (ef_4.trans (nI_add j 1)).symm
    refine va_sld hx hb hX0 hbl hbA hS (vp_in_nI (by omega) (by omega)) dL_law_972 ?_
    refine lv_aload_n hx hb dL_law_973 rfl (lv_at hl 0 rfl) ?_
    refine lv_iload_n hx hb dL_law_974 rfl (lv_at hl 3 rfl) ?_
    refine lv_iconst (v := 2) hx hb dL_law_975 (by decide) ?_
    refine lv_iadd hx hb dL_law_976 ?_
    refine lv_topi (fun f_5 ef_5 => ?_)
    obtain rfl : nI (j + 2) = f_5 := (ef_5.trans (nI_add j 2)).symm
    refine va_sld hx hb hX0 hbl hbA hS (vp_in_nI (by omega) (by omega)) dL_law_977 ?_
    refine lv_aload_n hx hb dL_law_978 rfl (lv_at hl 0 rfl) ?_
    refine lv_iload_n hx hb dL_law_979 rfl (lv_at hl 3 rfl) ?_
    refine lv_iconst (v := 3) hx hb dL_law_980 (by decide) ?_
    refine lv_iadd hx hb dL_law_981 ?_
    refine lv_topi (fun f_6 ef_6 => ?_)
    obtain rfl : nI (j + 3) = f_6 := (ef_6.trans (nI_add j 3)).symm
    refine va_sld hx hb hX0 hbl hbA hS (vp_in_nI (by omega) (by omega)) dL_law_982 ?_
    have hPf := z_Pp ((List.perm_append_comm (l₁ := mw) (l₂ := u0))).symm hP
    have hDf := z_Dp ((List.perm_append_comm (l₁ := mw) (l₂ := u0))).symm hD
    have hPc := z_P0 hPf
    have hDc := z_D0 hDf
    have hFc := z_freeF (cs := mw) (rs := u0) (List.perm_append_comm (l₁ := mw) (l₂ := u0)) hD hS hA
    obtain ⟨kx, fsx, hkx⟩ := zM_cell hM
    refine va_calli (va_runV (As := [.int (xs (nI (j + 1)).toNatClampNeg), .int (xs (nI (j + 2)).toNatClampNeg), .int (xs (nI (j + 3)).toNatClampNeg)]) (rest := []) ⟨hx, hb, hml, hown, hts⟩ (cm_film l Z H.size m0 tn kp sl im st _ hok (by omega) (xs (nI (j + 1)).toNatClampNeg) (xs (nI (j + 2)).toNatClampNeg) (xs (nI (j + 3)).toNatClampNeg) mw hM) (cwV 3 hts gL_law_X9_film rfl rfl rfl (by decide +kernel) ⟨Nat.le_of_ble_eq_true rfl, Nat.le_of_ble_eq_true rfl⟩) ⟨fun a U g mk q => by obtain ⟨q0, q1, qP, qK, qD⟩ := q; exact ⟨q0, q1, qP, va_K.moved (u := U) (U := U.calling g mk a) (Vm.Alike.refl U.vm) qK, qD⟩, va_recv hK hPc (ci := 9) rfl hkx, fun U hU hW => ⟨rfl, by rw [hU], by rw [hU]; exact hPc, va_K.moved hW.alike hK, hDc.weaken (fun _ _ _ _ => trivial)⟩⟩ rfl rfl hl.1 rfl (lv_room (Nat.le_of_ble_eq_true rfl)) dL_law_983 ⟨show ce + 0 ≤ 600000 by omega, show sc + 0 ≤ 7302250 by omega⟩) hS (fun q _ h => hFc q h) hFc (fun r_2 u1 t9 H1 locs ht hvm hw hB hz1 hk1 hS => ?_)
    obtain ⟨hM, ha1⟩ := hw
    obtain ⟨hP1, hD1⟩ := hB
    rw [ht] at hP1
    have hj9 := z_joinF (cs := mw) (rs := u0) (full := u0 ++ mw) (List.perm_append_comm (l₁ := mw) (l₂ := u0)) hP hD hk1 hFc hP1 hD1
    have hP := hj9.1
    have hD := hj9.2
    clear hPc hDc hPf hDf hP1 hD1 hj9 hk1 hz1 hFc ht hvm hkx
    generalize H1 = H at hP hS ⊢
    refine W.widen (k := ce) (n := sc) (by omega) (by omega) ?_
    refine lv_pop hx hb dL_law_986 rfl ?_
    refine lv_goto (tgt := 1053) hx hb dL_law_987 (by decide) ?_
    refine W.widen (k := ce + 2) (n := sc + 26) (by omega) (by omega) ?_
    exact kk _ _ _ _ _ _ _ H locs ls hX hM (zIv_mono (iv_same hok) (by omega)) hP hD hS (lv_sub hl [0, 1, 2, 3] rfl)
set_option maxHeartbeats 4000000 in
set_option maxRecDepth 100000 in
theorem law_26 {p : Program} {l : Launch} {e : Env} {s : State} {m : MethodId} {below : List Frame} {meth : Method} {c : Code} {b L : Nat} {xs : Nat → Int32} (C0 : lw_At p s m meth c b L xs) {A : Nat → Prop} (hAe : A = fun q : Nat => s.heap.size ≤ q) (Z : gZ) (kA vA wA : Nat) (hK : va_K Z.1 vwCl (gT Z) s) (hN : gN Z s) (hG : gS kA vA A s) (hG2 : gW wA A s) {x0 m0 tn : Nat} {kp : Int32} {sl : zSL} {im : zIM} {st : spT} {xw mw : va_W} (hX : zX Z x0 tn kp sl im st xw) (hM : zM Z m0 tn kp sl im st mw) {j ce sc : Nat} (hok : zIv st tn (10000 * j)) (hjL : j + 6 ≤ L) (hL : L ≤ 3072) (hce : ce + 2 ≤ 600000) (hsc : sc + 26 ≤ 7302250) (kk : ∀ (tn : Nat) (kp : Int32) (sl : zSL) (im : zIM) (st : spT) (xw mw : va_W) (H : Heap) (locs : List Loc) (ls : Array Slot), zX Z x0 tn kp sl im st xw → zM Z m0 tn kp sl im st mw → zIv st tn (10000 * (j + 6)) → va_P Z.1 vwCl (xw ++ mw) H → va_D A (xw ++ mw) → va_S A s.heap H locs → lv_has ls 4 [(0, .ref b), (1, .ref x0), (2, .ref m0), (3, .int (nI j))] → W p l e room_1 s m #[Value.ref b] below meth c H locs (ce + 2) (sc + 26) (lw_Z below #[Value.ref b] s) (F0 m 1053 ls [])) {H : Heap} {locs : List Loc} {ls : Array Slot} (hP : va_P Z.1 vwCl (xw ++ mw) H) (hD : va_D A (xw ++ mw)) (hS : va_S A s.heap H locs) (hl : lv_has ls 4 [(0, .ref b), (1, .ref x0), (2, .ref m0), (3, .int (nI j))]) : W p l e room_1 s m #[Value.ref b] below meth c H locs (ce) (sc) (lw_Z below #[Value.ref b] s) (F0 m 990 ls []) := by
  obtain ⟨hx, hb, hr, hml, hown0, hts0, hX0, hbl, hlocks, hgv⟩ := id C0
  have hown : s.vm.findClass RL = some m.cls := hown0
  have hts : ∀ w ∈ wsL_law, w.before #[Value.ref b] s = true := fun w h => hts0 w (wsL_law_in w h)
  have hA : ∀ q : Nat, s.heap.size ≤ q → A q := by rw [hAe]; exact fun _ h => h
  have hbA : ¬ A b := by rw [hAe]; exact Nat.not_le.mpr hbl
  rcases z_slc2 sl (xs (nI (j + 1)).toNatClampNeg) (xs (nI (j + 3)).toNatClampNeg) with hno | ⟨ha9, hb9, hab, ln, len, hso⟩ | ⟨ha9, hb9, hab, ln, len, lm, lem, hso, hsm⟩
  · refine lv_aload_n hx hb dL_law_990 rfl (lv_at hl 1 rfl) ?_
    refine lv_aload_n hx hb dL_law_991 rfl (lv_at hl 0 rfl) ?_
    refine lv_iload_n hx hb dL_law_992 rfl (lv_at hl 3 rfl) ?_
    refine lv_iconst (v := 1) hx hb dL_law_993 (by decide) ?_
    refine lv_iadd hx hb dL_law_994 ?_
    refine lv_topi (fun f_1 ef_1 => ?_)
    obtain rfl : nI (j + 1) = f_1 := (ef_1.trans (nI_add j 1)).symm
    refine va_sld hx hb hX0 hbl hbA hS (vp_in_nI (by omega) (by omega)) dL_law_995 ?_
    refine lv_aload_n hx hb dL_law_996 rfl (lv_at hl 0 rfl) ?_
    refine lv_iload_n hx hb dL_law_997 rfl (lv_at hl 3 rfl) ?_
    refine lv_iconst (v := 2) hx hb dL_law_998 (by decide) ?_
    refine lv_iadd hx hb dL_law_999 ?_
    refine lv_topi (fun f_2 ef_2 => ?_)
    obtain rfl : nI (j + 2) = f_2 := (ef_2.trans (nI_add j 2)).symm
    refine va_sld hx hb hX0 hbl hbA hS (vp_in_nI (by omega) (by omega)) dL_law_1000 ?_
    refine lv_aload_n hx hb dL_law_1001 rfl (lv_at hl 0 rfl) ?_
    refine lv_iload_n hx hb dL_law_1002 rfl (lv_at hl 3 rfl) ?_
    refine lv_iconst (v := 3) hx hb dL_law_1003 (by decide) ?_
    refine lv_iadd hx hb dL_law_1004 ?_
    refine lv_topi (fun f_3 ef_3 => ?_)
    obtain rfl : nI (j + 3) = f_3 := (ef_3.trans (nI_add j 3)).symm
    refine va_sld hx hb hX0 hbl hbA hS (vp_in_nI (by omega) (by omega)) dL_law_1005 ?_
    refine lv_aload_n hx hb dL_law_1006 rfl (lv_at hl 0 rfl) ?_
    refine lv_iload_n hx hb dL_law_1007 rfl (lv_at hl 3 rfl) ?_
    refine lv_iconst (v := 4) hx hb dL_law_1008 (by decide) ?_
    refine lv_iadd hx hb dL_law_1009 ?_
    refine lv_topi (fun f_4 ef_4 => ?_)
    obtain rfl : nI (j + 4) = f_4 := (ef_4.trans (nI_add j 4)).symm
    refine va_sld hx hb hX0 hbl hbA hS (vp_in_nI (by omega) (by omega)) dL_law_1010 ?_
    refine lv_aload_n hx hb dL_law_1011 rfl (lv_at hl 0 rfl) ?_
    refine lv_iload_n hx hb dL_law_1012 rfl (lv_at hl 3 rfl) ?_
    refine lv_iconst (v := 5) hx hb dL_law_1013 (by decide) ?_
    refine lv_iadd hx hb dL_law_1014 ?_
    refine lv_topi (fun f_5 ef_5 => ?_)
    obtain rfl : nI (j + 5) = f_5 := (ef_5.trans (nI_add j 5)).symm
    refine va_sld hx hb hX0 hbl hbA hS (vp_in_nI (by omega) (by omega)) dL_law_1015 ?_
    have hPf := z_Pp ((List.Perm.refl (xw ++ mw))).symm hP
    have hDf := z_Dp ((List.Perm.refl (xw ++ mw))).symm hD
    have hPc := z_P0 hPf
    have hDc := z_D0 hDf
    have hFc := z_freeF (cs := xw) (rs := mw) (List.Perm.refl (xw ++ mw)) hD hS hA
    obtain ⟨kx, fsx, hkx⟩ := zX_cell hX
    refine va_calli (va_runV (As := [.int (xs (nI (j + 1)).toNatClampNeg), .int (xs (nI (j + 2)).toNatClampNeg), .int (xs (nI (j + 3)).toNatClampNeg), .int (xs (nI (j + 4)).toNatClampNeg), .int (xs (nI (j + 5)).toNatClampNeg)]) (rest := []) ⟨hx, hb, hml, hown, hts⟩ (cx_X8_copy_N l Z H.size x0 tn kp sl im st _ hok (by omega) kA vA wA (xs (nI (j + 1)).toNatClampNeg) (xs (nI (j + 2)).toNatClampNeg) (xs (nI (j + 3)).toNatClampNeg) (xs (nI (j + 4)).toNatClampNeg) (xs (nI (j + 5)).toNatClampNeg) xw hX hno) (cwV 5 hts gL_law_X8_copy rfl rfl rfl (by decide +kernel) ⟨Nat.le_of_ble_eq_true rfl, Nat.le_of_ble_eq_true rfl⟩) ⟨fun a U g mk q => by obtain ⟨q0, q1, qP, qK, qD, qN, qG, qW⟩ := q; exact ⟨q0, q1, qP, va_K.moved (u := U) (U := U.calling g mk a) (Vm.Alike.refl U.vm) qK, qD, z_Nc (u := U) (U := U.calling g mk a) rfl qN, z_Gc (u := U) (U := U.calling g mk a) rfl rfl qG, z_Wc (u := U) (U := U.calling g mk a) rfl rfl qW⟩, va_recv hK hPc (ci := 8) rfl hkx, fun U hU hW => ⟨rfl, by rw [hU], by rw [hU]; exact hPc, va_K.moved hW.alike hK, hDc.weaken (fun _ _ _ _ => trivial), z_N hW hN, z_G hW hG hS hU hFc, z_W hW hG2 hS hU hFc⟩⟩ rfl rfl hl.1 rfl (lv_room (Nat.le_of_ble_eq_true rfl)) dL_law_1016 ⟨show ce + 0 ≤ 600000 by omega, show sc + 0 ≤ 7302250 by omega⟩) hS (fun q _ h => hFc q h) hFc (fun r_1 u0 t9 H1 locs ht hvm hw hB hz1 hk1 hS => ?_)
    obtain ⟨hX, ha0⟩ := hw
    obtain ⟨hP1, hD1⟩ := hB
    rw [ht] at hP1
    have hj9 := z_joinF (cs := xw) (rs := mw) (full := xw ++ mw) (List.Perm.refl (xw ++ mw)) hP hD hk1 hFc hP1 hD1
    have hP := z_Pp (List.perm_append_comm (l₁ := mw) (l₂ := u0)) hj9.1
    have hD := z_Dp (List.perm_append_comm (l₁ := mw) (l₂ := u0)) hj9.2
    clear hPc hDc hPf hDf hP1 hD1 hj9 hk1 hz1 hFc ht hvm hkx
    generalize H1 = H at hP hS ⊢
    refine W.widen (k := ce) (n := sc) (by omega) (by omega) ?_
    refine lv_aload_n hx hb dL_law_1019 rfl (lv_at hl 2 rfl) ?_
    refine lv_aload_n hx hb dL_law_1020 rfl (lv_at hl 0 rfl) ?_
    refine lv_iload_n hx hb dL_law_1021 rfl (lv_at hl 3 rfl) ?_
    refine lv_iconst (v := 1) hx hb dL_law_1022 (by decide) ?_
    refine lv_iadd hx hb dL_law_1023 ?_
    refine lv_topi (fun f_6 ef_6 => ?_)
    obtain rfl : nI (j + 1) = f_6 := (ef_6.trans (nI_add j 1)).symm
    refine va_sld hx hb hX0 hbl hbA hS (vp_in_nI (by omega) (by omega)) dL_law_1024 ?_
    refine lv_aload_n hx hb dL_law_1025 rfl (lv_at hl 0 rfl) ?_
    refine lv_iload_n hx hb dL_law_1026 rfl (lv_at hl 3 rfl) ?_
    refine lv_iconst (v := 2) hx hb dL_law_1027 (by decide) ?_
    refine lv_iadd hx hb dL_law_1028 ?_
    refine lv_topi (fun f_7 ef_7 => ?_)
    obtain rfl : nI (j + 2) = f_7 := (ef_7.trans (nI_add j 2)).symm
    refine va_sld hx hb hX0 hbl hbA hS (vp_in_nI (by omega) (by omega)) dL_law_1029 ?_
    refine lv_aload_n hx hb dL_law_1030 rfl (lv_at hl 0 rfl) ?_
    refine lv_iload_n hx hb dL_law_1031 rfl (lv_at hl 3 rfl) ?_
    refine lv_iconst (v := 3) hx hb dL_law_1032 (by decide) ?_
    refine lv_iadd hx hb dL_law_1033 ?_
    refine lv_topi (fun f_8 ef_8 => ?_)
    obtain rfl : nI (j + 3) = f_8 := (ef_8.trans (nI_add j 3)).symm
    refine va_sld hx hb hX0 hbl hbA hS (vp_in_nI (by omega) (by omega)) dL_law_1034 ?_
    refine lv_aload_n hx hb dL_law_1035 rfl (lv_at hl 0 rfl) ?_
    refine lv_iload_n hx hb dL_law_1036 rfl (lv_at hl 3 rfl) ?_
    refine lv_iconst (v := 4) hx hb dL_law_1037 (by decide) ?_
    refine lv_iadd hx hb dL_law_1038 ?_
    refine lv_topi (fun f_9 ef_9 => ?_)
    obtain rfl : nI (j + 4) = f_9 := (ef_9.trans (nI_add j 4)).symm
    refine va_sld hx hb hX0 hbl hbA hS (vp_in_nI (by omega) (by omega)) dL_law_1039 ?_
    refine lv_aload_n hx hb dL_law_1040 rfl (lv_at hl 0 rfl) ?_
    refine lv_iload_n hx hb dL_law_1041 rfl (lv_at hl 3 rfl) ?_
    refine lv_iconst (v := 5) hx hb dL_law_1042 (by decide) ?_
    refine lv_iadd hx hb dL_law_1043 ?_
    refine lv_topi (fun f_10 ef_10 => ?_)
    obtain rfl : nI (j + 5) = f_10 := (ef_10.trans (nI_add j 5)).symm
    refine va_sld hx hb hX0 hbl hbA hS (vp_in_nI (by omega) (by omega)) dL_law_1044 ?_
    have hPf := z_Pp ((List.perm_append_comm (l₁ := mw) (l₂ := u0))).symm hP
    have hDf := z_Dp ((List.perm_append_comm (l₁ := mw) (l₂ := u0))).symm hD
    have hPc := z_P0 hPf
    have hDc := z_D0 hDf
    have hFc := z_freeF (cs := mw) (rs := u0) (List.perm_append_comm (l₁ := mw) (l₂ := u0)) hD hS hA
    obtain ⟨kx, fsx, hkx⟩ := zM_cell hM
    refine va_calli (va_runV (As := [.int (xs (nI (j + 1)).toNatClampNeg), .int (xs (nI (j + 2)).toNatClampNeg), .int (xs (nI (j + 3)).toNatClampNeg), .int (xs (nI (j + 4)).toNatClampNeg), .int (xs (nI (j + 5)).toNatClampNeg)]) (rest := [.int r_1]) ⟨hx, hb, hml, hown, hts⟩ (cm_copy l Z H.size m0 tn kp sl im st _ hok (by omega) (xs (nI (j + 1)).toNatClampNeg) (xs (nI (j + 2)).toNatClampNeg) (xs (nI (j + 3)).toNatClampNeg) (xs (nI (j + 4)).toNatClampNeg) (xs (nI (j + 5)).toNatClampNeg) mw hM) (cwV 5 hts gL_law_X9_copy rfl rfl rfl (by decide +kernel) ⟨Nat.le_of_ble_eq_true rfl, Nat.le_of_ble_eq_true rfl⟩) ⟨fun a U g mk q => by obtain ⟨q0, q1, qP, qK, qD⟩ := q; exact ⟨q0, q1, qP, va_K.moved (u := U) (U := U.calling g mk a) (Vm.Alike.refl U.vm) qK, qD⟩, va_recv hK hPc (ci := 9) rfl hkx, fun U hU hW => ⟨rfl, by rw [hU], by rw [hU]; exact hPc, va_K.moved hW.alike hK, hDc.weaken (fun _ _ _ _ => trivial)⟩⟩ rfl rfl hl.1 rfl (lv_room (Nat.le_of_ble_eq_true rfl)) dL_law_1045 ⟨show ce + 0 ≤ 600000 by omega, show sc + 0 ≤ 7302250 by omega⟩) hS (fun q _ h => hFc q h) hFc (fun r_2 u1 t9 H1 locs ht hvm hw hB hz1 hk1 hS => ?_)
    obtain ⟨hM, ha1⟩ := hw
    obtain ⟨hP1, hD1⟩ := hB
    rw [ht] at hP1
    have hj9 := z_joinF (cs := mw) (rs := u0) (full := u0 ++ mw) (List.perm_append_comm (l₁ := mw) (l₂ := u0)) hP hD hk1 hFc hP1 hD1
    have hP := hj9.1
    have hD := hj9.2
    clear hPc hDc hPf hDf hP1 hD1 hj9 hk1 hz1 hFc ht hvm hkx
    generalize H1 = H at hP hS ⊢
    refine W.widen (k := ce) (n := sc) (by omega) (by omega) ?_
    refine lv_icmp_eq (tgt := 1053) hx hb dL_law_1048 (by decide) (fun _ => ?_) (fun c9 => absurd (ha0.trans ha1.symm) c9)
    refine W.widen (k := ce + 2) (n := sc + 26) (by omega) (by omega) ?_
    exact kk _ _ _ _ _ _ _ H locs ls hX hM (zIv_mono (iv_same hok) (by omega)) hP hD hS (lv_sub hl [0, 1, 2, 3] rfl)
  · refine lv_aload_n hx hb dL_law_990 rfl (lv_at hl 1 rfl) ?_
    refine lv_aload_n hx hb dL_law_991 rfl (lv_at hl 0 rfl) ?_
    refine lv_iload_n hx hb dL_law_992 rfl (lv_at hl 3 rfl) ?_
    refine lv_iconst (v := 1) hx hb dL_law_993 (by decide) ?_
    refine lv_iadd hx hb dL_law_994 ?_
    refine lv_topi (fun f_1 ef_1 => ?_)
    obtain rfl : nI (j + 1) = f_1 := (ef_1.trans (nI_add j 1)).symm
    refine va_sld hx hb hX0 hbl hbA hS (vp_in_nI (by omega) (by omega)) dL_law_995 ?_
    refine lv_aload_n hx hb dL_law_996 rfl (lv_at hl 0 rfl) ?_
    refine lv_iload_n hx hb dL_law_997 rfl (lv_at hl 3 rfl) ?_
    refine lv_iconst (v := 2) hx hb dL_law_998 (by decide) ?_
    refine lv_iadd hx hb dL_law_999 ?_
    refine lv_topi (fun f_2 ef_2 => ?_)
    obtain rfl : nI (j + 2) = f_2 := (ef_2.trans (nI_add j 2)).symm
    refine va_sld hx hb hX0 hbl hbA hS (vp_in_nI (by omega) (by omega)) dL_law_1000 ?_
    refine lv_aload_n hx hb dL_law_1001 rfl (lv_at hl 0 rfl) ?_
    refine lv_iload_n hx hb dL_law_1002 rfl (lv_at hl 3 rfl) ?_
    refine lv_iconst (v := 3) hx hb dL_law_1003 (by decide) ?_
    refine lv_iadd hx hb dL_law_1004 ?_
    refine lv_topi (fun f_3 ef_3 => ?_)
    obtain rfl : nI (j + 3) = f_3 := (ef_3.trans (nI_add j 3)).symm
    refine va_sld hx hb hX0 hbl hbA hS (vp_in_nI (by omega) (by omega)) dL_law_1005 ?_
    refine lv_aload_n hx hb dL_law_1006 rfl (lv_at hl 0 rfl) ?_
    refine lv_iload_n hx hb dL_law_1007 rfl (lv_at hl 3 rfl) ?_
    refine lv_iconst (v := 4) hx hb dL_law_1008 (by decide) ?_
    refine lv_iadd hx hb dL_law_1009 ?_
    refine lv_topi (fun f_4 ef_4 => ?_)
    obtain rfl : nI (j + 4) = f_4 := (ef_4.trans (nI_add j 4)).symm
    refine va_sld hx hb hX0 hbl hbA hS (vp_in_nI (by omega) (by omega)) dL_law_1010 ?_
    refine lv_aload_n hx hb dL_law_1011 rfl (lv_at hl 0 rfl) ?_
    refine lv_iload_n hx hb dL_law_1012 rfl (lv_at hl 3 rfl) ?_
    refine lv_iconst (v := 5) hx hb dL_law_1013 (by decide) ?_
    refine lv_iadd hx hb dL_law_1014 ?_
    refine lv_topi (fun f_5 ef_5 => ?_)
    obtain rfl : nI (j + 5) = f_5 := (ef_5.trans (nI_add j 5)).symm
    refine va_sld hx hb hX0 hbl hbA hS (vp_in_nI (by omega) (by omega)) dL_law_1015 ?_
    have hPf := z_Pp ((List.Perm.refl (xw ++ mw))).symm hP
    have hDf := z_Dp ((List.Perm.refl (xw ++ mw))).symm hD
    have hPc := z_P0 hPf
    have hDc := z_D0 hDf
    have hFc := z_freeF (cs := xw) (rs := mw) (List.Perm.refl (xw ++ mw)) hD hS hA
    obtain ⟨kx, fsx, hkx⟩ := zX_cell hX
    refine va_calli (va_runV (As := [.int (xs (nI (j + 1)).toNatClampNeg), .int (xs (nI (j + 2)).toNatClampNeg), .int (xs (nI (j + 3)).toNatClampNeg), .int (xs (nI (j + 4)).toNatClampNeg), .int (xs (nI (j + 5)).toNatClampNeg)]) (rest := []) ⟨hx, hb, hml, hown, hts⟩ (cx_X8_copy_1 l Z H.size x0 tn kp sl im st _ hok (by omega) kA vA wA (xs (nI (j + 1)).toNatClampNeg) (xs (nI (j + 2)).toNatClampNeg) (xs (nI (j + 3)).toNatClampNeg) (xs (nI (j + 4)).toNatClampNeg) (xs (nI (j + 5)).toNatClampNeg) ln len xw hX ha9 hb9 hab hso) (cwV 5 hts gL_law_X8_copy rfl rfl rfl (by decide +kernel) ⟨Nat.le_of_ble_eq_true rfl, Nat.le_of_ble_eq_true rfl⟩) ⟨fun a U g mk q => by obtain ⟨q0, q1, qP, qK, qD, qN, qG, qW⟩ := q; exact ⟨q0, q1, qP, va_K.moved (u := U) (U := U.calling g mk a) (Vm.Alike.refl U.vm) qK, qD, z_Nc (u := U) (U := U.calling g mk a) rfl qN, z_Gc (u := U) (U := U.calling g mk a) rfl rfl qG, z_Wc (u := U) (U := U.calling g mk a) rfl rfl qW⟩, va_recv hK hPc (ci := 8) rfl hkx, fun U hU hW => ⟨rfl, by rw [hU], by rw [hU]; exact hPc, va_K.moved hW.alike hK, hDc.weaken (fun _ _ _ _ => trivial), z_N hW hN, z_G hW hG hS hU hFc, z_W hW hG2 hS hU hFc⟩⟩ rfl rfl hl.1 rfl (lv_room (Nat.le_of_ble_eq_true rfl)) dL_law_1016 ⟨show ce + 0 ≤ 600000 by omega, show sc + 0 ≤ 7302250 by omega⟩) hS (fun q _ h => hFc q h) hFc (fun r_1 u0 t9 H1 locs ht hvm hw hB hz1 hk1 hS => ?_)
    obtain ⟨hX, ha0⟩ := hw
    obtain ⟨hP1, hD1⟩ := hB
    rw [ht] at hP1
    have hj9 := z_joinF (cs := xw) (rs := mw) (full := xw ++ mw) (List.Perm.refl (xw ++ mw)) hP hD hk1 hFc hP1 hD1
    have hP := z_Pp (List.perm_append_comm (l₁ := mw) (l₂ := u0)) hj9.1
    have hD := z_Dp (List.perm_append_comm (l₁ := mw) (l₂ := u0)) hj9.2
    clear hPc hDc hPf hDf hP1 hD1 hj9 hk1 hz1 hFc ht hvm hkx
    generalize H1 = H at hP hS ⊢
    refine W.widen (k := ce) (n := sc) (by omega) (by omega) ?_
    refine lv_aload_n hx hb dL_law_1019 rfl (lv_at hl 2 rfl) ?_
    refine lv_aload_n hx hb dL_law_1020 rfl (lv_at hl 0 rfl) ?_
    refine lv_iload_n hx hb dL_law_1021 rfl (lv_at hl 3 rfl) ?_
    refine lv_iconst (v := 1) hx hb dL_law_1022 (by decide) ?_
    refine lv_iadd hx hb dL_law_1023 ?_
    refine lv_topi (fun f_6 ef_6 => ?_)
    obtain rfl : nI (j + 1) = f_6 := (ef_6.trans (nI_add j 1)).symm
    refine va_sld hx hb hX0 hbl hbA hS (vp_in_nI (by omega) (by omega)) dL_law_1024 ?_
    refine lv_aload_n hx hb dL_law_1025 rfl (lv_at hl 0 rfl) ?_
    refine lv_iload_n hx hb dL_law_1026 rfl (lv_at hl 3 rfl) ?_
    refine lv_iconst (v := 2) hx hb dL_law_1027 (by decide) ?_
    refine lv_iadd hx hb dL_law_1028 ?_
    refine lv_topi (fun f_7 ef_7 => ?_)
    obtain rfl : nI (j + 2) = f_7 := (ef_7.trans (nI_add j 2)).symm
    refine va_sld hx hb hX0 hbl hbA hS (vp_in_nI (by omega) (by omega)) dL_law_1029 ?_
    refine lv_aload_n hx hb dL_law_1030 rfl (lv_at hl 0 rfl) ?_
    refine lv_iload_n hx hb dL_law_1031 rfl (lv_at hl 3 rfl) ?_
    refine lv_iconst (v := 3) hx hb dL_law_1032 (by decide) ?_
    refine lv_iadd hx hb dL_law_1033 ?_
    refine lv_topi (fun f_8 ef_8 => ?_)
    obtain rfl : nI (j + 3) = f_8 := (ef_8.trans (nI_add j 3)).symm
    refine va_sld hx hb hX0 hbl hbA hS (vp_in_nI (by omega) (by omega)) dL_law_1034 ?_
    refine lv_aload_n hx hb dL_law_1035 rfl (lv_at hl 0 rfl) ?_
    refine lv_iload_n hx hb dL_law_1036 rfl (lv_at hl 3 rfl) ?_
    refine lv_iconst (v := 4) hx hb dL_law_1037 (by decide) ?_
    refine lv_iadd hx hb dL_law_1038 ?_
    refine lv_topi (fun f_9 ef_9 => ?_)
    obtain rfl : nI (j + 4) = f_9 := (ef_9.trans (nI_add j 4)).symm
    refine va_sld hx hb hX0 hbl hbA hS (vp_in_nI (by omega) (by omega)) dL_law_1039 ?_
    refine lv_aload_n hx hb dL_law_1040 rfl (lv_at hl 0 rfl) ?_
    refine lv_iload_n hx hb dL_law_1041 rfl (lv_at hl 3 rfl) ?_
    refine lv_iconst (v := 5) hx hb dL_law_1042 (by decide) ?_
    refine lv_iadd hx hb dL_law_1043 ?_
    refine lv_topi (fun f_10 ef_10 => ?_)
    obtain rfl : nI (j + 5) = f_10 := (ef_10.trans (nI_add j 5)).symm
    refine va_sld hx hb hX0 hbl hbA hS (vp_in_nI (by omega) (by omega)) dL_law_1044 ?_
    have hPf := z_Pp ((List.perm_append_comm (l₁ := mw) (l₂ := u0))).symm hP
    have hDf := z_Dp ((List.perm_append_comm (l₁ := mw) (l₂ := u0))).symm hD
    have hPc := z_P0 hPf
    have hDc := z_D0 hDf
    have hFc := z_freeF (cs := mw) (rs := u0) (List.perm_append_comm (l₁ := mw) (l₂ := u0)) hD hS hA
    obtain ⟨kx, fsx, hkx⟩ := zM_cell hM
    refine va_calli (va_runV (As := [.int (xs (nI (j + 1)).toNatClampNeg), .int (xs (nI (j + 2)).toNatClampNeg), .int (xs (nI (j + 3)).toNatClampNeg), .int (xs (nI (j + 4)).toNatClampNeg), .int (xs (nI (j + 5)).toNatClampNeg)]) (rest := [.int r_1]) ⟨hx, hb, hml, hown, hts⟩ (cm_copy l Z H.size m0 tn kp sl im st _ hok (by omega) (xs (nI (j + 1)).toNatClampNeg) (xs (nI (j + 2)).toNatClampNeg) (xs (nI (j + 3)).toNatClampNeg) (xs (nI (j + 4)).toNatClampNeg) (xs (nI (j + 5)).toNatClampNeg) mw hM) (cwV 5 hts gL_law_X9_copy rfl rfl rfl (by decide +kernel) ⟨Nat.le_of_ble_eq_true rfl, Nat.le_of_ble_eq_true rfl⟩) ⟨fun a U g mk q => by obtain ⟨q0, q1, qP, qK, qD⟩ := q; exact ⟨q0, q1, qP, va_K.moved (u := U) (U := U.calling g mk a) (Vm.Alike.refl U.vm) qK, qD⟩, va_recv hK hPc (ci := 9) rfl hkx, fun U hU hW => ⟨rfl, by rw [hU], by rw [hU]; exact hPc, va_K.moved hW.alike hK, hDc.weaken (fun _ _ _ _ => trivial)⟩⟩ rfl rfl hl.1 rfl (lv_room (Nat.le_of_ble_eq_true rfl)) dL_law_1045 ⟨show ce + 0 ≤ 600000 by omega, show sc + 0 ≤ 7302250 by omega⟩) hS (fun q _ h => hFc q h) hFc (fun r_2 u1 t9 H1 locs ht hvm hw hB hz1 hk1 hS => ?_)
    obtain ⟨hM, ha1⟩ := hw
    obtain ⟨hP1, hD1⟩ := hB
    rw [ht] at hP1
    have hj9 := z_joinF (cs := mw) (rs := u0) (full := u0 ++ mw) (List.perm_append_comm (l₁ := mw) (l₂ := u0)) hP hD hk1 hFc hP1 hD1
    have hP := hj9.1
    have hD := hj9.2
    clear hPc hDc hPf hDf hP1 hD1 hj9 hk1 hz1 hFc ht hvm hkx
    generalize H1 = H at hP hS ⊢
    refine W.widen (k := ce) (n := sc) (by omega) (by omega) ?_
    refine lv_icmp_eq (tgt := 1053) hx hb dL_law_1048 (by decide) (fun _ => ?_) (fun c9 => absurd (ha0.trans ha1.symm) c9)
    refine W.widen (k := ce + 2) (n := sc + 26) (by omega) (by omega) ?_
    exact kk _ _ _ _ _ _ _ H locs ls hX hM (zIv_mono (iv_same hok) (by omega)) hP hD hS (lv_sub hl [0, 1, 2, 3] rfl)
  · refine lv_aload_n hx hb dL_law_990 rfl (lv_at hl 1 rfl) ?_
    refine lv_aload_n hx hb dL_law_991 rfl (lv_at hl 0 rfl) ?_
    refine lv_iload_n hx hb dL_law_992 rfl (lv_at hl 3 rfl) ?_
    refine lv_iconst (v := 1) hx hb dL_law_993 (by decide) ?_
    refine lv_iadd hx hb dL_law_994 ?_
    refine lv_topi (fun f_1 ef_1 => ?_)
    obtain rfl : nI (j + 1) = f_1 := (ef_1.trans (nI_add j 1)).symm
    refine va_sld hx hb hX0 hbl hbA hS (vp_in_nI (by omega) (by omega)) dL_law_995 ?_
    refine lv_aload_n hx hb dL_law_996 rfl (lv_at hl 0 rfl) ?_
    refine lv_iload_n hx hb dL_law_997 rfl (lv_at hl 3 rfl) ?_
    refine lv_iconst (v := 2) hx hb dL_law_998 (by decide) ?_
    refine lv_iadd hx hb dL_law_999 ?_
    refine lv_topi (fun f_2 ef_2 => ?_)
    obtain rfl : nI (j + 2) = f_2 := (ef_2.trans (nI_add j 2)).symm
    refine va_sld hx hb hX0 hbl hbA hS (vp_in_nI (by omega) (by omega)) dL_law_1000 ?_
    refine lv_aload_n hx hb dL_law_1001 rfl (lv_at hl 0 rfl) ?_
    refine lv_iload_n hx hb dL_law_1002 rfl (lv_at hl 3 rfl) ?_
    refine lv_iconst (v := 3) hx hb dL_law_1003 (by decide) ?_
    refine lv_iadd hx hb dL_law_1004 ?_
    refine lv_topi (fun f_3 ef_3 => ?_)
    obtain rfl : nI (j + 3) = f_3 := (ef_3.trans (nI_add j 3)).symm
    refine va_sld hx hb hX0 hbl hbA hS (vp_in_nI (by omega) (by omega)) dL_law_1005 ?_
    refine lv_aload_n hx hb dL_law_1006 rfl (lv_at hl 0 rfl) ?_
    refine lv_iload_n hx hb dL_law_1007 rfl (lv_at hl 3 rfl) ?_
    refine lv_iconst (v := 4) hx hb dL_law_1008 (by decide) ?_
    refine lv_iadd hx hb dL_law_1009 ?_
    refine lv_topi (fun f_4 ef_4 => ?_)
    obtain rfl : nI (j + 4) = f_4 := (ef_4.trans (nI_add j 4)).symm
    refine va_sld hx hb hX0 hbl hbA hS (vp_in_nI (by omega) (by omega)) dL_law_1010 ?_
    refine lv_aload_n hx hb dL_law_1011 rfl (lv_at hl 0 rfl) ?_
    refine lv_iload_n hx hb dL_law_1012 rfl (lv_at hl 3 rfl) ?_
    refine lv_iconst (v := 5) hx hb dL_law_1013 (by decide) ?_
    refine lv_iadd hx hb dL_law_1014 ?_
    refine lv_topi (fun f_5 ef_5 => ?_)
    obtain rfl : nI (j + 5) = f_5 := (ef_5.trans (nI_add j 5)).symm
    refine va_sld hx hb hX0 hbl hbA hS (vp_in_nI (by omega) (by omega)) dL_law_1015 ?_
    have hPf := z_Pp ((List.Perm.refl (xw ++ mw))).symm hP
    have hDf := z_Dp ((List.Perm.refl (xw ++ mw))).symm hD
    have hPc := z_P0 hPf
    have hDc := z_D0 hDf
    have hFc := z_freeF (cs := xw) (rs := mw) (List.Perm.refl (xw ++ mw)) hD hS hA
    obtain ⟨kx, fsx, hkx⟩ := zX_cell hX
    refine va_calli (va_runV (As := [.int (xs (nI (j + 1)).toNatClampNeg), .int (xs (nI (j + 2)).toNatClampNeg), .int (xs (nI (j + 3)).toNatClampNeg), .int (xs (nI (j + 4)).toNatClampNeg), .int (xs (nI (j + 5)).toNatClampNeg)]) (rest := []) ⟨hx, hb, hml, hown, hts⟩ (cx_X8_copy_2 l Z H.size x0 tn kp sl im st _ hok (by omega) kA vA wA (xs (nI (j + 1)).toNatClampNeg) (xs (nI (j + 2)).toNatClampNeg) (xs (nI (j + 3)).toNatClampNeg) (xs (nI (j + 4)).toNatClampNeg) (xs (nI (j + 5)).toNatClampNeg) ln len lm lem xw hX ha9 hb9 hab hso hsm) (cwV 5 hts gL_law_X8_copy rfl rfl rfl (by decide +kernel) ⟨Nat.le_of_ble_eq_true rfl, Nat.le_of_ble_eq_true rfl⟩) ⟨fun a U g mk q => by obtain ⟨q0, q1, qP, qK, qD, qN, qG, qW⟩ := q; exact ⟨q0, q1, qP, va_K.moved (u := U) (U := U.calling g mk a) (Vm.Alike.refl U.vm) qK, qD, z_Nc (u := U) (U := U.calling g mk a) rfl qN, z_Gc (u := U) (U := U.calling g mk a) rfl rfl qG, z_Wc (u := U) (U := U.calling g mk a) rfl rfl qW⟩, va_recv hK hPc (ci := 8) rfl hkx, fun U hU hW => ⟨rfl, by rw [hU], by rw [hU]; exact hPc, va_K.moved hW.alike hK, hDc.weaken (fun _ _ _ _ => trivial), z_N hW hN, z_G hW hG hS hU hFc, z_W hW hG2 hS hU hFc⟩⟩ rfl rfl hl.1 rfl (lv_room (Nat.le_of_ble_eq_true rfl)) dL_law_1016 ⟨show ce + 0 ≤ 600000 by omega, show sc + 0 ≤ 7302250 by omega⟩) hS (fun q _ h => hFc q h) hFc (fun r_1 u0 t9 H1 locs ht hvm hw hB hz1 hk1 hS => ?_)
    obtain ⟨hX, ha0⟩ := hw
    obtain ⟨hP1, hD1⟩ := hB
    rw [ht] at hP1
    have hj9 := z_joinF (cs := xw) (rs := mw) (full := xw ++ mw) (List.Perm.refl (xw ++ mw)) hP hD hk1 hFc hP1 hD1
    have hP := z_Pp (List.perm_append_comm (l₁ := mw) (l₂ := u0)) hj9.1
    have hD := z_Dp (List.perm_append_comm (l₁ := mw) (l₂ := u0)) hj9.2
    clear hPc hDc hPf hDf hP1 hD1 hj9 hk1 hz1 hFc ht hvm hkx
    generalize H1 = H at hP hS ⊢
    refine W.widen (k := ce) (n := sc) (by omega) (by omega) ?_
    refine lv_aload_n hx hb dL_law_1019 rfl (lv_at hl 2 rfl) ?_
    refine lv_aload_n hx hb dL_law_1020 rfl (lv_at hl 0 rfl) ?_
    refine lv_iload_n hx hb dL_law_1021 rfl (lv_at hl 3 rfl) ?_
    refine lv_iconst (v := 1) hx hb dL_law_1022 (by decide) ?_
    refine lv_iadd hx hb dL_law_1023 ?_
    refine lv_topi (fun f_6 ef_6 => ?_)
    obtain rfl : nI (j + 1) = f_6 := (ef_6.trans (nI_add j 1)).symm
    refine va_sld hx hb hX0 hbl hbA hS (vp_in_nI (by omega) (by omega)) dL_law_1024 ?_
    refine lv_aload_n hx hb dL_law_1025 rfl (lv_at hl 0 rfl) ?_
    refine lv_iload_n hx hb dL_law_1026 rfl (lv_at hl 3 rfl) ?_
    refine lv_iconst (v := 2) hx hb dL_law_1027 (by decide) ?_
    refine lv_iadd hx hb dL_law_1028 ?_
    refine lv_topi (fun f_7 ef_7 => ?_)
    obtain rfl : nI (j + 2) = f_7 := (ef_7.trans (nI_add j 2)).symm
    refine va_sld hx hb hX0 hbl hbA hS (vp_in_nI (by omega) (by omega)) dL_law_1029 ?_
    refine lv_aload_n hx hb dL_law_1030 rfl (lv_at hl 0 rfl) ?_
    refine lv_iload_n hx hb dL_law_1031 rfl (lv_at hl 3 rfl) ?_
    refine lv_iconst (v := 3) hx hb dL_law_1032 (by decide) ?_
    refine lv_iadd hx hb dL_law_1033 ?_
    refine lv_topi (fun f_8 ef_8 => ?_)
    obtain rfl : nI (j + 3) = f_8 := (ef_8.trans (nI_add j 3)).symm
    refine va_sld hx hb hX0 hbl hbA hS (vp_in_nI (by omega) (by omega)) dL_law_1034 ?_
    refine lv_aload_n hx hb dL_law_1035 rfl (lv_at hl 0 rfl) ?_
    refine lv_iload_n hx hb dL_law_1036 rfl (lv_at hl 3 rfl) ?_
    refine lv_iconst (v := 4) hx hb dL_law_1037 (by decide) ?_
    refine lv_iadd hx hb dL_law_1038 ?_
    refine lv_topi (fun f_9 ef_9 => ?_)
    obtain rfl : nI (j + 4) = f_9 := (ef_9.trans (nI_add j 4)).symm
    refine va_sld hx hb hX0 hbl hbA hS (vp_in_nI (by omega) (by omega)) dL_law_1039 ?_
    refine lv_aload_n hx hb dL_law_1040 rfl (lv_at hl 0 rfl) ?_
    refine lv_iload_n hx hb dL_law_1041 rfl (lv_at hl 3 rfl) ?_
    refine lv_iconst (v := 5) hx hb dL_law_1042 (by decide) ?_
    refine lv_iadd hx hb dL_law_1043 ?_
    refine lv_topi (fun f_10 ef_10 => ?_)
    obtain rfl : nI (j + 5) = f_10 := (ef_10.trans (nI_add j 5)).symm
    refine va_sld hx hb hX0 hbl hbA hS (vp_in_nI (by omega) (by omega)) dL_law_1044 ?_
    have hPf := z_Pp ((List.perm_append_comm (l₁ := mw) (l₂ := u0))).symm hP
    have hDf := z_Dp ((List.perm_append_comm (l₁ := mw) (l₂ := u0))).symm hD
    have hPc := z_P0 hPf
    have hDc := z_D0 hDf
    have hFc := z_freeF (cs := mw) (rs := u0) (List.perm_append_comm (l₁ := mw) (l₂ := u0)) hD hS hA
    obtain ⟨kx, fsx, hkx⟩ := zM_cell hM
    refine va_calli (va_runV (As := [.int (xs (nI (j + 1)).toNatClampNeg), .int (xs (nI (j + 2)).toNatClampNeg), .int (xs (nI (j + 3)).toNatClampNeg), .int (xs (nI (j + 4)).toNatClampNeg), .int (xs (nI (j + 5)).toNatClampNeg)]) (rest := [.int r_1]) ⟨hx, hb, hml, hown, hts⟩ (cm_copy l Z H.size m0 tn kp sl im st _ hok (by omega) (xs (nI (j + 1)).toNatClampNeg) (xs (nI (j + 2)).toNatClampNeg) (xs (nI (j + 3)).toNatClampNeg) (xs (nI (j + 4)).toNatClampNeg) (xs (nI (j + 5)).toNatClampNeg) mw hM) (cwV 5 hts gL_law_X9_copy rfl rfl rfl (by decide +kernel) ⟨Nat.le_of_ble_eq_true rfl, Nat.le_of_ble_eq_true rfl⟩) ⟨fun a U g mk q => by obtain ⟨q0, q1, qP, qK, qD⟩ := q; exact ⟨q0, q1, qP, va_K.moved (u := U) (U := U.calling g mk a) (Vm.Alike.refl U.vm) qK, qD⟩, va_recv hK hPc (ci := 9) rfl hkx, fun U hU hW => ⟨rfl, by rw [hU], by rw [hU]; exact hPc, va_K.moved hW.alike hK, hDc.weaken (fun _ _ _ _ => trivial)⟩⟩ rfl rfl hl.1 rfl (lv_room (Nat.le_of_ble_eq_true rfl)) dL_law_1045 ⟨show ce + 0 ≤ 600000 by omega, show sc + 0 ≤ 7302250 by omega⟩) hS (fun q _ h => hFc q h) hFc (fun r_2 u1 t9 H1 locs ht hvm hw hB hz1 hk1 hS => ?_)
    obtain ⟨hM, ha1⟩ := hw
    obtain ⟨hP1, hD1⟩ := hB
    rw [ht] at hP1
    have hj9 := z_joinF (cs := mw) (rs := u0) (full := u0 ++ mw) (List.perm_append_comm (l₁ := mw) (l₂ := u0)) hP hD hk1 hFc hP1 hD1
    have hP := hj9.1
    have hD := hj9.2
    clear hPc hDc hPf hDf hP1 hD1 hj9 hk1 hz1 hFc ht hvm hkx
    generalize H1 = H at hP hS ⊢
    refine W.widen (k := ce) (n := sc) (by omega) (by omega) ?_
    refine lv_icmp_eq (tgt := 1053) hx hb dL_law_1048 (by decide) (fun _ => ?_) (fun c9 => absurd (ha0.trans ha1.symm) c9)
    refine W.widen (k := ce + 2) (n := sc + 26) (by omega) (by omega) ?_
    exact kk _ _ _ _ _ _ _ H locs ls hX hM (zIv_mono (iv_same hok) (by omega)) hP hD hS (lv_sub hl [0, 1, 2, 3] rfl)
