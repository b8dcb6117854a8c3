theorem z_le6L {j L : Nat} (hj : j < 100000) (hL : L < 100000) : (nI j ≤ nI L - 6 → j + 6 ≤ L) := by
  intro h
  rw [Int32.le_iff_toInt_le, nI_toInt (by omega), show nI L - 6 = nI L - nI 6 from rfl, pk_sub_toInt (by omega) (by omega)] at h
  omega
theorem z_ncell (j : Nat) (h : j ≤ 3072) : 1000 + 2 * j + 2 ≤ 600000 ∧ 10000 + 26 * j + 26 ≤ 7302250 := by omega
set_option maxHeartbeats 4000000 in
set_option maxRecDepth 100000 in
theorem law_loop {p : Program} {l : Launch} {e : Env} {s : State} {m : MethodId} {below : List Frame} {meth : Method} {c : Code} {b L : Nat} {xs : Nat → Int32} (C0 : lw_At p s m meth c b L xs) {A : Nat → Prop} (hAe : A = fun q : Nat => s.heap.size ≤ q) (Z : gZ) (kA vA wA : Nat) (hK : va_K Z.1 vwCl (gT Z) s) (hN : gN Z s) (hG : gS kA vA A s) (hG2 : gW wA A s) {x0 m0 : Nat} (hL : L ≤ 3072) : ∀ (fu9 j : Nat), L + 12 - j < fu9 → j ≤ L + 6 → ∀ (tn : Nat) (kp : Int32) (sl : zSL) (im : zIM) (st : spT) (xw mw : va_W) (H : Heap) (locs : List Loc) (ls : Array Slot), zX Z x0 tn kp sl im st xw → zM Z m0 tn kp sl im st mw → zIv st tn (10000 * j) → va_P Z.1 vwCl (xw ++ mw) H → va_D A (xw ++ mw) → va_S A s.heap H locs → lv_has ls 4 [(0, .ref b), (1, .ref x0), (2, .ref m0), (3, .int (nI j))] → W p l e room_1 s m #[Value.ref b] below meth c H locs (1000 + 2 * j) (10000 + 26 * j) (lw_Z below #[Value.ref b] s) (F0 m 18 ls []) := by
  obtain ⟨hx, hb, hr, hml, hown0, hts0, hX0, hbl, hlocks, hgv⟩ := id C0
  have hown : s.vm.findClass RL = some m.cls := hown0
  have hts : ∀ w ∈ wsL_law, w.before #[Value.ref b] s = true := fun w h => hts0 w (wsL_law_in w h)
  have hA : ∀ q : Nat, s.heap.size ≤ q → A q := by rw [hAe]; exact fun _ h => h
  have hbA : ¬ A b := by rw [hAe]; exact Nat.not_le.mpr hbl
  intro fu9
  induction fu9 with
  | zero => intro j hf9; exact absurd hf9 (Nat.not_lt_zero _)
  | succ fu9 ih =>
    intro j hf9 hj tn kp sl im st xw mw H locs ls hX hM hok hP hD hS hl
    refine lv_iload_n hx hb dL_law_18 rfl (lv_at hl 3 rfl) ?_
    refine lv_aload_n hx hb dL_law_19 rfl (lv_at hl 0 rfl) ?_
    refine va_slen hx hb hX0 hbl hbA hS dL_law_20 ?_
    refine lv_bipush (v := 6) hx hb dL_law_21 (by decide) ?_
    refine lv_isub hx hb dL_law_23 ?_
    refine lv_icmp_gt (tgt := 1059) hx hb dL_law_24 (by decide) (fun _ => ?_) (fun c1 => ?_)
    · refine lv_iconst (v := 1) hx hb dL_law_1059 (by decide) ?_
      refine va_forget (fun q hq => by have h9 := hS.2.2 q hq; rw [hAe] at h9; exact h9) ?_
      refine W.widen (k := 600000) (n := 7302250) (by omega) (by omega) ?_
      exact lw_ret hx hb hr hlocks dL_law_1060
    · have hjL : j + 6 ≤ L := z_le6L (by omega) (by omega) (Int32.not_lt.mp c1)
      refine lv_aload_n hx hb dL_law_27 rfl (lv_at hl 0 rfl) ?_
      refine lv_iload_n hx hb dL_law_28 rfl (lv_at hl 3 rfl) ?_
      refine va_sld hx hb hX0 hbl hbA hS (vp_in_nI (by omega) (by omega)) dL_law_29 ?_
      refine lv_bipush (v := 31) hx hb dL_law_30 (by decide) ?_
      refine lv_iand hx hb dL_law_32 ?_
      refine lv_topi (fun f9 e9 => ?_)
      obtain ⟨q, hq, eq9⟩ := pk_andE (xs (nI j).toNatClampNeg) (m := 31) 5 (by decide)
      obtain rfl : f9 = nI q := e9.trans eq9
      have hq : q < 32 := hq
      have kk : ∀ (tn : Nat) (kp : Int32) (sl : zSL) (im : zIM) (st : spT) (xw mw : va_W) (H : Heap) (locs : List Loc) (ls : Array Slot), zX Z x0 tn kp sl im st xw → zM Z m0 tn kp sl im st mw → zIv st tn (10000 * (j + 6)) → va_P Z.1 vwCl (xw ++ mw) H → va_D A (xw ++ mw) → va_S A s.heap H locs → lv_has ls 4 [(0, .ref b), (1, .ref x0), (2, .ref m0), (3, .int (nI j))] → W p l e room_1 s m #[Value.ref b] below meth c H locs (1000 + 2 * j + 2) (10000 + 26 * j + 26) (lw_Z below #[Value.ref b] s) (F0 m 1053 ls []) := by
        intro tn kp sl im st xw mw H locs ls hX hM hok hP hD hS hl
        refine lv_iinc (v := nI (j + 6)) (lv' := [(3, .int (nI (j + 6))), (0, .ref b), (1, .ref x0), (2, .ref m0)]) hx hb dL_law_1053 hl (k := 3) rfl (nI_add j 6) (by decide) rfl (fun ls hl => ?_)
        refine lv_goto (tgt := 18) hx hb dL_law_1056 (by decide) ?_
        refine W.widen (k := 1000 + 2 * (j + 6)) (n := 10000 + 26 * (j + 6)) (by omega) (by omega) ?_
        exact ih (j + 6) (by omega) (by omega) tn kp sl im st xw mw H locs ls hX hM hok hP hD hS (lv_sub hl [1, 2, 3, 0] rfl)
      rcases (show q = 0 ∨ q = 1 ∨ q = 2 ∨ q = 3 ∨ q = 4 ∨ q = 5 ∨ q = 6 ∨ q = 7 ∨ q = 8 ∨ q = 9 ∨ q = 10 ∨ q = 11 ∨ q = 12 ∨ q = 13 ∨ q = 14 ∨ q = 15 ∨ q = 16 ∨ q = 17 ∨ q = 18 ∨ q = 19 ∨ q = 20 ∨ q = 21 ∨ q = 22 ∨ q = 23 ∨ q = 24 ∨ q = 25 ∨ q = 26 ∨ q = 27 ∨ q = 28 ∨ q = 29 ∨ q = 30 ∨ q = 31 by omega) with rfl | rfl | rfl | rfl | rfl | rfl | rfl | rfl | rfl | rfl | rfl | rfl | rfl | rfl | rfl | rfl | rfl | rfl | rfl | rfl | rfl | rfl | rfl | rfl | rfl | rfl | rfl | rfl | rfl | rfl | rfl | rfl
      · refine lv_tableIn (tgt := 156) (off := 123) hx hb dL_law_33 (by decide) (by decide) (by decide) (by decide) ?_
        exact law_0 C0 hAe Z kA vA wA hK hN hG hG2 hX hM hok hjL hL (by omega) (by omega) kk hP hD hS hl
      · refine lv_tableIn (tgt := 189) (off := 156) hx hb dL_law_33 (by decide) (by decide) (by decide) (by decide) ?_
        exact law_1 C0 hAe Z kA vA wA hK hN hG hG2 hX hM hok hjL hL (by omega) (by omega) kk hP hD hS hl
      · refine lv_tableIn (tgt := 222) (off := 189) hx hb dL_law_33 (by decide) (by decide) (by decide) (by decide) ?_
        exact law_2 C0 hAe Z kA vA wA hK hN hG hG2 hX hM hok hjL hL (by omega) (by omega) kk hP hD hS hl
      · refine lv_tableIn (tgt := 255) (off := 222) hx hb dL_law_33 (by decide) (by decide) (by decide) (by decide) ?_
        exact law_3 C0 hAe Z kA vA wA hK hN hG hG2 hX hM hok hjL hL (by omega) (by omega) kk hP hD hS hl
      · refine lv_tableIn (tgt := 314) (off := 281) hx hb dL_law_33 (by decide) (by decide) (by decide) (by decide) ?_
        exact law_4 C0 hAe Z kA vA wA hK hN hG hG2 hX hM hok hjL hL (by omega) (by omega) kk hP hD hS hl
      · refine lv_tableIn (tgt := 347) (off := 314) hx hb dL_law_33 (by decide) (by decide) (by decide) (by decide) ?_
        exact law_5 C0 hAe Z kA vA wA hK hN hG hG2 hX hM hok hjL hL (by omega) (by omega) kk hP hD hS hl
      · refine lv_tableIn (tgt := 360) (off := 327) hx hb dL_law_33 (by decide) (by decide) (by decide) (by decide) ?_
        exact law_6 C0 hAe Z kA vA wA hK hN hG hG2 hX hM hok hjL hL (by omega) (by omega) kk hP hD hS hl
      · refine lv_tableIn (tgt := 423) (off := 390) hx hb dL_law_33 (by decide) (by decide) (by decide) (by decide) ?_
        exact law_7 C0 hAe Z kA vA wA hK hN hG hG2 hX hM hok hjL hL (by omega) (by omega) kk hP hD hS hl
      · refine lv_tableIn (tgt := 436) (off := 403) hx hb dL_law_33 (by decide) (by decide) (by decide) (by decide) ?_
        exact law_8 C0 hAe Z kA vA wA hK hN hG hG2 hX hM hok hjL hL (by omega) (by omega) kk hP hD hS hl
      · refine lv_tableIn (tgt := 449) (off := 416) hx hb dL_law_33 (by decide) (by decide) (by decide) (by decide) ?_
        exact law_9 C0 hAe Z kA vA wA hK hN hG hG2 hX hM hok hjL hL (by omega) (by omega) kk hP hD hS hl
      · refine lv_tableIn (tgt := 472) (off := 439) hx hb dL_law_33 (by decide) (by decide) (by decide) (by decide) ?_
        exact law_10 C0 hAe Z kA vA wA hK hN hG hG2 hX hM hok hjL hL (by omega) (by omega) kk hP hD hS hl
      · refine lv_tableIn (tgt := 485) (off := 452) hx hb dL_law_33 (by decide) (by decide) (by decide) (by decide) ?_
        exact law_11 C0 hAe Z kA vA wA hK hN hG hG2 hX hM hok hjL hL (by omega) (by omega) kk hP hD hS hl
      · refine lv_tableIn (tgt := 508) (off := 475) hx hb dL_law_33 (by decide) (by decide) (by decide) (by decide) ?_
        exact law_12 C0 hAe Z kA vA wA hK hN hG hG2 hX hM hok hjL hL (by omega) (by omega) kk hP hD hS hl
      · refine lv_tableIn (tgt := 541) (off := 508) hx hb dL_law_33 (by decide) (by decide) (by decide) (by decide) ?_
        exact law_13 C0 hAe Z kA vA wA hK hN hG hG2 hX hM hok hjL hL (by omega) (by omega) kk hP hD hS hl
      · refine lv_tableIn (tgt := 564) (off := 531) hx hb dL_law_33 (by decide) (by decide) (by decide) (by decide) ?_
        exact law_14 C0 hAe Z kA vA wA hK hN hG hG2 hX hM hok hjL hL (by omega) (by omega) kk hP hD hS hl
      · refine lv_tableIn (tgt := 587) (off := 554) hx hb dL_law_33 (by decide) (by decide) (by decide) (by decide) ?_
        exact law_15 C0 hAe Z kA vA wA hK hN hG hG2 hX hM hok hjL hL (by omega) (by omega) kk hP hD hS hl
      · refine lv_tableIn (tgt := 610) (off := 577) hx hb dL_law_33 (by decide) (by decide) (by decide) (by decide) ?_
        exact law_16 C0 hAe Z kA vA wA hK hN hG hG2 hX hM hok hjL hL (by omega) (by omega) kk hP hD hS hl
      · refine lv_tableIn (tgt := 643) (off := 610) hx hb dL_law_33 (by decide) (by decide) (by decide) (by decide) ?_
        exact law_17 C0 hAe Z kA vA wA hK hN hG hG2 hX hM hok hjL hL (by omega) (by omega) kk hP hD hS hl
      · refine lv_tableIn (tgt := 686) (off := 653) hx hb dL_law_33 (by decide) (by decide) (by decide) (by decide) ?_
        exact law_18 C0 hAe Z kA vA wA hK hN hG hG2 hX hM hok hjL hL (by omega) (by omega) kk hP hD hS hl
      · refine lv_tableIn (tgt := 709) (off := 676) hx hb dL_law_33 (by decide) (by decide) (by decide) (by decide) ?_
        exact law_19 C0 hAe Z kA vA wA hK hN hG hG2 hX hM hok hjL hL (by omega) (by omega) kk hP hD hS hl
      · refine lv_tableIn (tgt := 722) (off := 689) hx hb dL_law_33 (by decide) (by decide) (by decide) (by decide) ?_
        exact law_20 C0 hAe Z kA vA wA hK hN hG hG2 hX hM hok hjL hL (by omega) (by omega) kk hP hD hS hl
      · refine lv_tableIn (tgt := 735) (off := 702) hx hb dL_law_33 (by decide) (by decide) (by decide) (by decide) ?_
        exact law_21 C0 hAe Z kA vA wA hK hN hG hG2 hX hM hok hjL hL (by omega) (by omega) kk hP hD hS hl
      · refine lv_tableIn (tgt := 798) (off := 765) hx hb dL_law_33 (by decide) (by decide) (by decide) (by decide) ?_
        exact law_22 C0 hAe Z kA vA wA hK hN hG hG2 hX hM hok hjL hL (by omega) (by omega) kk hP hD hS hl
      · refine lv_tableIn (tgt := 841) (off := 808) hx hb dL_law_33 (by decide) (by decide) (by decide) (by decide) ?_
        exact law_23 C0 hAe Z kA vA wA hK hN hG hG2 hX hM hok hjL hL (by omega) (by omega) kk hP hD hS hl
      · refine lv_tableIn (tgt := 864) (off := 831) hx hb dL_law_33 (by decide) (by decide) (by decide) (by decide) ?_
        exact law_24 C0 hAe Z kA vA wA hK hN hG hG2 hX hM hok hjL hL (by omega) (by omega) kk hP hD hS hl
      · refine lv_tableIn (tgt := 947) (off := 914) hx hb dL_law_33 (by decide) (by decide) (by decide) (by decide) ?_
        exact law_25 C0 hAe Z kA vA wA hK hN hG hG2 hX hM hok hjL hL (by omega) (by omega) kk hP hD hS hl
      · refine lv_tableIn (tgt := 990) (off := 957) hx hb dL_law_33 (by decide) (by decide) (by decide) (by decide) ?_
        exact law_26 C0 hAe Z kA vA wA hK hN hG hG2 hX hM hok hjL hL (by omega) (by omega) kk hP hD hS hl
      · refine lv_tableOut (tgt := 1053) hx hb dL_law_33 (by decide) (by decide) ?_
        refine W.widen (k := 1000 + 2 * j + 2) (n := 10000 + 26 * j + 26) (by omega) (by omega) ?_
        exact kk tn kp sl im st xw mw H locs ls hX hM (zIv_mono hok (by omega)) hP hD hS hl
      · refine lv_tableOut (tgt := 1053) hx hb dL_law_33 (by decide) (by decide) ?_
        refine W.widen (k := 1000 + 2 * j + 2) (n := 10000 + 26 * j + 26) (by omega) (by omega) ?_
        exact kk tn kp sl im st xw mw H locs ls hX hM (zIv_mono hok (by omega)) hP hD hS hl
      · refine lv_tableOut (tgt := 1053) hx hb dL_law_33 (by decide) (by decide) ?_
        refine W.widen (k := 1000 + 2 * j + 2) (n := 10000 + 26 * j + 26) (by omega) (by omega) ?_
        exact kk tn kp sl im st xw mw H locs ls hX hM (zIv_mono hok (by omega)) hP hD hS hl
      · refine lv_tableOut (tgt := 1053) hx hb dL_law_33 (by decide) (by decide) ?_
        refine W.widen (k := 1000 + 2 * j + 2) (n := 10000 + 26 * j + 26) (by omega) (by omega) ?_
        exact kk tn kp sl im st xw mw H locs ls hX hM (zIv_mono hok (by omega)) hP hD hS hl
      · refine lv_tableOut (tgt := 1053) hx hb dL_law_33 (by decide) (by decide) ?_
        refine W.widen (k := 1000 + 2 * j + 2) (n := 10000 + 26 * j + 26) (by omega) (by omega) ?_
        exact kk tn kp sl im st xw mw H locs ls hX hM (zIv_mono hok (by omega)) hP hD hS hl
