abbrev zFull (Z : gZ) (x0 : Nat) (a1 : Nat) (a2 : Nat) (a3 : Nat) (a4 : Nat) (a5 : Nat) (a6 : Nat) (a7 : Nat) (a8 : Nat) (a9 : Nat) (a10 : Nat) (a11 : Nat) (a12 : Nat) (a13 : Nat) (fk : Nat) (fq : Nat) (pk : Nat) (pq : Nat) (tk : Nat) (kk : Nat) (kq : Nat) (lk : Nat) (lq : Nat) (uk : Nat) (uq : Nat) (vk : Nat) (vq : Nat) (m0 : Nat) (b1 : Nat) (b2 : Nat) (b3 : Nat) (b4 : Nat) (b5 : Nat) (b6 : Nat) (b7 : Nat) (b8 : Nat) (b9 : Nat) (b10 : Nat) (b11 : Nat) (b12 : Nat) (b13 : Nat) (b14 : Nat) (b15 : Nat) (b16 : Nat) (b17 : Nat) (b18 : Nat) (b19 : Nat) (b20 : Nat) (b21 : Nat) (b22 : Nat) (b23 : Nat) (b24 : Nat) (b25 : Nat) (fl : Nat → Int32) : va_W := [(x0, .inr (8, [.ref a1, .ref a2, .ref a3, .ref a4, .ref a5, .int 0, .ref a6, .ref a7, .ref a8, .ref a9, .ref a10, .ref a11, .ref a12, .ref a13, .int 9, .int 0, .int 0])), (a1, .inr (0, [.int 0, .int 16510910, .int 0, .ref fk, .ref fq])), (fk, .inl (Z.2 0, 5, .inl (fun _ => 0))), (fq, .inl (Z.2 0, 5, .inl (fun _ => 0))), (a2, .inr (2, [.int 0, .int 0, .ref pk, .ref pq])), (pk, .inl (Z.2 0, 8, .inl (fun _ => 0))), (pq, .inl (Z.2 0, 8, .inl (fun _ => 0))), (a3, .inr (5, [.int 0, .int 0, .ref tk])), (tk, .inl (Z.2 1, 80, .inl (fun _ => 0))), (a4, .inr (0, [.int 0, .int 16510910, .int 0, .ref kk, .ref kq])), (kk, .inl (Z.2 0, 5, .inl (fun _ => 0))), (kq, .inl (Z.2 0, 5, .inl (fun _ => 0))), (a5, .inr (2, [.int 0, .int 0, .ref lk, .ref lq])), (lk, .inl (Z.2 0, 8, .inl (fun _ => 0))), (lq, .inl (Z.2 0, 8, .inl (fun _ => 0))), (a6, .inl (Z.2 4, 4, .inr (.inr (.inr (.inr (fun _ => none)))))), (a7, .inr (0, [.int 0, .int 16510910, .int 0, .ref uk, .ref uq])), (uk, .inl (Z.2 0, 5, .inl (fun _ => 0))), (uq, .inl (Z.2 0, 5, .inl (fun _ => 0))), (a8, .inr (2, [.int 0, .int 0, .ref vk, .ref vq])), (vk, .inl (Z.2 0, 8, .inl (fun _ => 0))), (vq, .inl (Z.2 0, 8, .inl (fun _ => 0))), (m0, .inr (9, [.ref b1, .ref b2, .ref b3, .ref b4, .int 0, .ref b5, .int 0, .ref b6, .ref b7, .ref b8, .int 0, .int 0, .int 0, .ref b9, .ref b10, .ref b11, .ref b12, .ref b13, .ref b14, .ref b15, .ref b16, .ref b17, .ref b18, .int 0, .ref b19, .ref b20, .ref b21, .ref b22, .ref b23, .ref b24, .ref b25])), (b1, .inl (Z.2 0, 5, .inl (fun _ => 0))), (b2, .inl (Z.2 0, 5, .inl (fun _ => 0))), (b3, .inl (Z.2 0, 5, .inl (fun _ => 0))), (b4, .inl (Z.2 0, 5, .inl (fun _ => 0))), (b5, .inl (Z.2 0, 24, .inl (fun _ => 0))), (b6, .inl (Z.2 0, 5, .inl (fun _ => 0))), (b7, .inl (Z.2 0, 5, .inl (fun _ => 0))), (b8, .inl (Z.2 0, 80, .inl (fun _ => 0))), (b9, .inl (Z.2 0, 24, .inl (fun _ => 0))), (b19, .inl (Z.2 0, 46, .inl (fun _ => 0))), (b20, .inl (Z.2 0, 4, .inl fl)), (b21, .inl (Z.2 0, 4, .inl (fun _ => 0))), (b22, .inl (Z.2 2, 96, .inr (.inl (fun _ => 0))))]
set_option maxHeartbeats 4000000 in
set_option maxRecDepth 100000 in
/-- behind a call: the loop ends, and the law answers true -/
theorem law_tail {p : Program} {l : Launch} {e : Env} {s : State} {m : MethodId} {below : List Frame} {meth : Method} {c : Code} {b : Nat} {xs : Nat → Int32} (C0 : lw_At p s m meth c b 6 xs) {A : Nat → Prop} (hAe : A = fun q : Nat => s.heap.size ≤ q) {H : Heap} {locs : List Loc} {ls : Array Slot} {ce sl : Nat} (h1 : ce ≤ 600000) (h2 : sl ≤ 7302250) (hS : va_S A s.heap H locs) (hl : lv_has ls 4 [(0, .ref b), (3, .int 0)]) : W p l e room_1 s m #[Value.ref b] below meth c H locs ce sl (lw_Z below #[Value.ref b] s) (F0 m 1054 ls []) := by
  obtain ⟨hx, hb, hr, hml, hown0, hts0, hX, hbl, hlocks, hgv⟩ := id C0
  have hown : s.vm.findClass RL = some m.cls := hown0
  have hts : ∀ w ∈ wsL_law, w.before #[Value.ref b] s = true := fun w h => hts0 w (wsL_law_in w h)
  have hA : ∀ q : Nat, s.heap.size ≤ q → A q := by rw [hAe]; exact fun _ h => h
  have hbA : ¬ A b := by rw [hAe]; exact Nat.not_le.mpr hbl
  refine lv_iinc (v := 6) (lv' := [(3, .int 6), (0, .ref b)]) hx hb dL_law_1054 hl (k := 1) rfl (by decide) (by decide) rfl (fun ls hl => ?_)
  refine lv_goto (tgt := 18) hx hb dL_law_1057 (by decide) ?_
  refine lv_iload_n hx hb dL_law_18 rfl (lv_at hl 0 rfl) ?_
  refine lv_aload_n hx hb dL_law_19 rfl (lv_at hl 1 rfl) ?_
  refine va_slen hx hb hX hbl hbA hS dL_law_20 ?_
  refine lv_bipush (v := 6) hx hb dL_law_21 (by decide) ?_
  refine lv_isub hx hb dL_law_23 ?_
  refine lv_icmp_gt (tgt := 1060) hx hb dL_law_24 (by decide) (fun _ => ?_) (fun c9 => absurd c9 (by decide))
  refine lv_iconst (v := 1) hx hb dL_law_1060 (by decide) ?_
  refine va_forget (fun q hq => by have h9 := hS.2.2 q hq; rw [hAe] at h9; exact h9) ?_
  refine W.widen (k := 600000) (n := 7302250) h1 h2 ?_
  exact lw_ret hx hb hr hlocks dL_law_1061
set_option maxHeartbeats 4000000 in
set_option maxRecDepth 100000 in
theorem law_0 {p : Program} {l : Launch} {e : Env} {s : State} {m : MethodId} {below : List Frame} {meth : Method} {c : Code} {b : Nat} {xs : Nat → Int32} (C0 : lw_At p s m meth c b 6 xs) {A : Nat → Prop} (hAe : A = fun q : Nat => s.heap.size ≤ q) (Z : gZ) (kA vA : Nat) (hK : va_K Z.1 vwCl (gT Z) s) (hG : gS kA vA A s) (x0 : Nat) (a1 : Nat) (a2 : Nat) (a3 : Nat) (a4 : Nat) (a5 : Nat) (a6 : Nat) (a7 : Nat) (a8 : Nat) (a9 : Nat) (a10 : Nat) (a11 : Nat) (a12 : Nat) (a13 : Nat) (fk : Nat) (fq : Nat) (pk : Nat) (pq : Nat) (tk : Nat) (kk : Nat) (kq : Nat) (lk : Nat) (lq : Nat) (uk : Nat) (uq : Nat) (vk : Nat) (vq : Nat) (m0 : Nat) (b1 : Nat) (b2 : Nat) (b3 : Nat) (b4 : Nat) (b5 : Nat) (b6 : Nat) (b7 : Nat) (b8 : Nat) (b9 : Nat) (b10 : Nat) (b11 : Nat) (b12 : Nat) (b13 : Nat) (b14 : Nat) (b15 : Nat) (b16 : Nat) (b17 : Nat) (b18 : Nat) (b19 : Nat) (b20 : Nat) (b21 : Nat) (b22 : Nat) (b23 : Nat) (b24 : Nat) (b25 : Nat) (fl : Nat → Int32) (hfl : ∀ j, j < 4 → fl j = -1) {H : Heap} {locs : List Loc} {ls : Array Slot} (hP : va_P Z.1 vwCl (zFull Z x0 a1 a2 a3 a4 a5 a6 a7 a8 a9 a10 a11 a12 a13 fk fq pk pq tk kk kq lk lq uk uq vk vq m0 b1 b2 b3 b4 b5 b6 b7 b8 b9 b10 b11 b12 b13 b14 b15 b16 b17 b18 b19 b20 b21 b22 b23 b24 b25 fl) H) (hD : va_D A (zFull Z x0 a1 a2 a3 a4 a5 a6 a7 a8 a9 a10 a11 a12 a13 fk fq pk pq tk kk kq lk lq uk uq vk vq m0 b1 b2 b3 b4 b5 b6 b7 b8 b9 b10 b11 b12 b13 b14 b15 b16 b17 b18 b19 b20 b21 b22 b23 b24 b25 fl)) (hS : va_S A s.heap H locs) (hl : lv_has ls 4 [(0, .ref b), (1, .ref x0), (2, .ref m0), (3, .int 0)]) : W p l e room_1 s m #[Value.ref b] below meth c H locs 599000 7300000 (lw_Z below #[Value.ref b] s) (F0 m 156 ls []) := by
  obtain ⟨hx, hb, hr, hml, hown0, hts0, hX, hbl, hlocks, hgv⟩ := id C0
  have hown : s.vm.findClass RL = some m.cls := hown0
  have hts : ∀ w ∈ wsL_law, w.before #[Value.ref b] s = true := fun w h => hts0 w (wsL_law_in w h)
  have hA : ∀ q : Nat, s.heap.size ≤ q → A q := by rw [hAe]; exact fun _ h => h
  have hbA : ¬ A b := by rw [hAe]; exact Nat.not_le.mpr hbl
  have hP := hP.sub (ws' := [(x0, .inr (8, [.ref a1, .ref a2, .ref a3, .ref a4, .ref a5, .int 0, .ref a6, .ref a7, .ref a8, .ref a9, .ref a10, .ref a11, .ref a12, .ref a13, .int 9, .int 0, .int 0])), (a1, .inr (0, [.int 0, .int 16510910, .int 0, .ref fk, .ref fq])), (fk, .inl (Z.2 0, 5, .inl (fun _ => 0))), (fq, .inl (Z.2 0, 5, .inl (fun _ => 0))), (m0, .inr (9, [.ref b1, .ref b2, .ref b3, .ref b4, .int 0, .ref b5, .int 0, .ref b6, .ref b7, .ref b8, .int 0, .int 0, .int 0, .ref b9, .ref b10, .ref b11, .ref b12, .ref b13, .ref b14, .ref b15, .ref b16, .ref b17, .ref b18, .int 0, .ref b19, .ref b20, .ref b21, .ref b22, .ref b23, .ref b24, .ref b25])), (b1, .inl (Z.2 0, 5, .inl (fun _ => 0))), (b2, .inl (Z.2 0, 5, .inl (fun _ => 0))), (b3, .inl (Z.2 0, 5, .inl (fun _ => 0))), (b4, .inl (Z.2 0, 5, .inl (fun _ => 0)))]) [0, 1, 2, 3, 22, 23, 24, 25, 26] rfl
  have hD := hD.sub (ws' := [(x0, .inr (8, [.ref a1, .ref a2, .ref a3, .ref a4, .ref a5, .int 0, .ref a6, .ref a7, .ref a8, .ref a9, .ref a10, .ref a11, .ref a12, .ref a13, .int 9, .int 0, .int 0])), (a1, .inr (0, [.int 0, .int 16510910, .int 0, .ref fk, .ref fq])), (fk, .inl (Z.2 0, 5, .inl (fun _ => 0))), (fq, .inl (Z.2 0, 5, .inl (fun _ => 0))), (m0, .inr (9, [.ref b1, .ref b2, .ref b3, .ref b4, .int 0, .ref b5, .int 0, .ref b6, .ref b7, .ref b8, .int 0, .int 0, .int 0, .ref b9, .ref b10, .ref b11, .ref b12, .ref b13, .ref b14, .ref b15, .ref b16, .ref b17, .ref b18, .int 0, .ref b19, .ref b20, .ref b21, .ref b22, .ref b23, .ref b24, .ref b25])), (b1, .inl (Z.2 0, 5, .inl (fun _ => 0))), (b2, .inl (Z.2 0, 5, .inl (fun _ => 0))), (b3, .inl (Z.2 0, 5, .inl (fun _ => 0))), (b4, .inl (Z.2 0, 5, .inl (fun _ => 0)))]) [0, 1, 2, 3, 22, 23, 24, 25, 26] (by decide) rfl
  refine lv_aload_n hx hb dL_law_156 rfl (lv_at hl 1 rfl) ?_
  refine lv_aload_n hx hb dL_law_157 rfl (lv_at hl 0 rfl) ?_
  refine lv_iload_n hx hb dL_law_158 rfl (lv_at hl 3 rfl) ?_
  refine lv_iconst (v := 1) hx hb dL_law_159 (by decide) ?_
  refine lv_iadd hx hb dL_law_160 ?_
  refine lv_topi (fun f_1 ef_1 => ?_)
  obtain rfl : f_1 = 1 := ef_1.trans (by decide)
  refine va_sld hx hb hX hbl hbA hS (z_in (by decide)) dL_law_161 ?_
  refine lv_topi (fun f_2 ef_2 => ?_)
  obtain rfl : f_2 = xs 1 := ef_2
  refine lv_aload_n hx hb dL_law_162 rfl (lv_at hl 0 rfl) ?_
  refine lv_iload_n hx hb dL_law_163 rfl (lv_at hl 3 rfl) ?_
  refine lv_iconst (v := 2) hx hb dL_law_164 (by decide) ?_
  refine lv_iadd hx hb dL_law_165 ?_
  refine lv_topi (fun f_3 ef_3 => ?_)
  obtain rfl : f_3 = 2 := ef_3.trans (by decide)
  refine va_sld hx hb hX hbl hbA hS (z_in (by decide)) dL_law_166 ?_
  refine lv_topi (fun f_4 ef_4 => ?_)
  obtain rfl : f_4 = xs 2 := ef_4
  have hPc := hP.sub (ws' := [(x0, .inr (8, [.ref a1, .ref a2, .ref a3, .ref a4, .ref a5, .int 0, .ref a6, .ref a7, .ref a8, .ref a9, .ref a10, .ref a11, .ref a12, .ref a13, .int 9, .int 0, .int 0])), (a1, .inr (0, [.int 0, .int 16510910, .int 0, .ref fk, .ref fq])), (fk, .inl (Z.2 0, 5, .inl (fun _ => 0))), (fq, .inl (Z.2 0, 5, .inl (fun _ => 0)))]) [0, 1, 2, 3] rfl
  have hDc := hD.sub (ws' := [(x0, .inr (8, [.ref a1, .ref a2, .ref a3, .ref a4, .ref a5, .int 0, .ref a6, .ref a7, .ref a8, .ref a9, .ref a10, .ref a11, .ref a12, .ref a13, .int 9, .int 0, .int 0])), (a1, .inr (0, [.int 0, .int 16510910, .int 0, .ref fk, .ref fq])), (fk, .inl (Z.2 0, 5, .inl (fun _ => 0))), (fq, .inl (Z.2 0, 5, .inl (fun _ => 0)))]) [0, 1, 2, 3] (by decide) rfl
  have hFc := va_free (wc := [(x0, .inr (8, [.ref a1, .ref a2, .ref a3, .ref a4, .ref a5, .int 0, .ref a6, .ref a7, .ref a8, .ref a9, .ref a10, .ref a11, .ref a12, .ref a13, .int 9, .int 0, .int 0])), (a1, .inr (0, [.int 0, .int 16510910, .int 0, .ref fk, .ref fq])), (fk, .inl (Z.2 0, 5, .inl (fun _ => 0))), (fq, .inl (Z.2 0, 5, .inl (fun _ => 0)))]) hD hS hA [0, 1, 2, 3] rfl
  refine va_calli (va_runV (As := [.int (xs 1), .int (xs 2)]) (rest := []) ⟨hx, hb, hml, hown, hts⟩ (c_X8_person l Z H.size x0 a1 a2 a3 a4 a5 a6 a7 a8 a9 a10 a11 a12 a13 fk fq (xs 1) (xs 2)) (cwV 2 hts gL_law_X8_person rfl rfl rfl (by decide +kernel) ⟨Nat.le_of_ble_eq_true rfl, Nat.le_of_ble_eq_true rfl⟩) ⟨fun a U g mk q => by obtain ⟨q0, q1, qP, qK, qD⟩ := q; exact ⟨q0, q1, qP, va_K.moved (u := U) (U := U.calling g mk a) (Vm.Alike.refl U.vm) qK, qD⟩, va_recv hK hPc (ci := 8) (q0 := 0) rfl rfl, fun U hU hW => ⟨rfl, by rw [hU], by rw [hU]; exact hPc, va_K.moved hW.alike hK, hDc.weaken (fun _ _ _ _ => trivial)⟩⟩ rfl rfl hl.1 rfl (lv_room (Nat.le_of_ble_eq_true rfl)) dL_law_167 ⟨Nat.le_of_ble_eq_true rfl, Nat.le_of_ble_eq_true rfl⟩) hS (fun q _ h => hFc q h) hFc (fun r_5 u t H1 locs ht hvm hw hB hz1 hk1 hS => ?_)
  subst hw
  have hP1 : va_P Z.1 vwCl [] H1 := fun k q h => by simp at h
  have hD1 : va_D (va_A [(x0, .inr (8, [.ref a1, .ref a2, .ref a3, .ref a4, .ref a5, .int 0, .ref a6, .ref a7, .ref a8, .ref a9, .ref a10, .ref a11, .ref a12, .ref a13, .int 9, .int 0, .int 0])), (a1, .inr (0, [.int 0, .int 16510910, .int 0, .ref fk, .ref fq])), (fk, .inl (Z.2 0, 5, .inl (fun _ => 0))), (fq, .inl (Z.2 0, 5, .inl (fun _ => 0)))] H.size) [] := ⟨fun i j p q h => by simp at h, fun k q h => by simp at h⟩
  obtain ⟨hP, hD⟩ := va_join (wr := [(m0, .inr (9, [.ref b1, .ref b2, .ref b3, .ref b4, .int 0, .ref b5, .int 0, .ref b6, .ref b7, .ref b8, .int 0, .int 0, .int 0, .ref b9, .ref b10, .ref b11, .ref b12, .ref b13, .ref b14, .ref b15, .ref b16, .ref b17, .ref b18, .int 0, .ref b19, .ref b20, .ref b21, .ref b22, .ref b23, .ref b24, .ref b25])), (b1, .inl (Z.2 0, 5, .inl (fun _ => 0))), (b2, .inl (Z.2 0, 5, .inl (fun _ => 0))), (b3, .inl (Z.2 0, 5, .inl (fun _ => 0))), (b4, .inl (Z.2 0, 5, .inl (fun _ => 0)))]) (w1 := []) hP hD [0, 1, 2, 3] [4, 5, 6, 7, 8] rfl rfl (by decide) (by decide) hk1 hFc hP1 hD1
  clear hPc hDc hP1 hD1 hk1 hz1 hFc ht hvm
  generalize H1 = H at hP hS ⊢
  have hP : va_P Z.1 vwCl [(m0, .inr (9, [.ref b1, .ref b2, .ref b3, .ref b4, .int 0, .ref b5, .int 0, .ref b6, .ref b7, .ref b8, .int 0, .int 0, .int 0, .ref b9, .ref b10, .ref b11, .ref b12, .ref b13, .ref b14, .ref b15, .ref b16, .ref b17, .ref b18, .int 0, .ref b19, .ref b20, .ref b21, .ref b22, .ref b23, .ref b24, .ref b25])), (b1, .inl (Z.2 0, 5, .inl (fun _ => 0))), (b2, .inl (Z.2 0, 5, .inl (fun _ => 0))), (b3, .inl (Z.2 0, 5, .inl (fun _ => 0))), (b4, .inl (Z.2 0, 5, .inl (fun _ => 0)))] H := hP
  have hD : va_D A [(m0, .inr (9, [.ref b1, .ref b2, .ref b3, .ref b4, .int 0, .ref b5, .int 0, .ref b6, .ref b7, .ref b8, .int 0, .int 0, .int 0, .ref b9, .ref b10, .ref b11, .ref b12, .ref b13, .ref b14, .ref b15, .ref b16, .ref b17, .ref b18, .int 0, .ref b19, .ref b20, .ref b21, .ref b22, .ref b23, .ref b24, .ref b25])), (b1, .inl (Z.2 0, 5, .inl (fun _ => 0))), (b2, .inl (Z.2 0, 5, .inl (fun _ => 0))), (b3, .inl (Z.2 0, 5, .inl (fun _ => 0))), (b4, .inl (Z.2 0, 5, .inl (fun _ => 0)))] := hD
  refine lv_aload_n hx hb dL_law_170 rfl (lv_at hl 2 rfl) ?_
  refine lv_aload_n hx hb dL_law_171 rfl (lv_at hl 0 rfl) ?_
  refine lv_iload_n hx hb dL_law_172 rfl (lv_at hl 3 rfl) ?_
  refine lv_iconst (v := 1) hx hb dL_law_173 (by decide) ?_
  refine lv_iadd hx hb dL_law_174 ?_
  refine lv_topi (fun f_6 ef_6 => ?_)
  obtain rfl : f_6 = 1 := ef_6.trans (by decide)
  refine va_sld hx hb hX hbl hbA hS (z_in (by decide)) dL_law_175 ?_
  refine lv_topi (fun f_7 ef_7 => ?_)
  obtain rfl : f_7 = xs 1 := ef_7
  refine lv_aload_n hx hb dL_law_176 rfl (lv_at hl 0 rfl) ?_
  refine lv_iload_n hx hb dL_law_177 rfl (lv_at hl 3 rfl) ?_
  refine lv_iconst (v := 2) hx hb dL_law_178 (by decide) ?_
  refine lv_iadd hx hb dL_law_179 ?_
  refine lv_topi (fun f_8 ef_8 => ?_)
  obtain rfl : f_8 = 2 := ef_8.trans (by decide)
  refine va_sld hx hb hX hbl hbA hS (z_in (by decide)) dL_law_180 ?_
  refine lv_topi (fun f_9 ef_9 => ?_)
  obtain rfl : f_9 = xs 2 := ef_9
  have hPc := hP.sub (ws' := [(m0, .inr (9, [.ref b1, .ref b2, .ref b3, .ref b4, .int 0, .ref b5, .int 0, .ref b6, .ref b7, .ref b8, .int 0, .int 0, .int 0, .ref b9, .ref b10, .ref b11, .ref b12, .ref b13, .ref b14, .ref b15, .ref b16, .ref b17, .ref b18, .int 0, .ref b19, .ref b20, .ref b21, .ref b22, .ref b23, .ref b24, .ref b25])), (b1, .inl (Z.2 0, 5, .inl (fun _ => 0))), (b2, .inl (Z.2 0, 5, .inl (fun _ => 0))), (b3, .inl (Z.2 0, 5, .inl (fun _ => 0))), (b4, .inl (Z.2 0, 5, .inl (fun _ => 0)))]) [0, 1, 2, 3, 4] rfl
  have hDc := hD.sub (ws' := [(m0, .inr (9, [.ref b1, .ref b2, .ref b3, .ref b4, .int 0, .ref b5, .int 0, .ref b6, .ref b7, .ref b8, .int 0, .int 0, .int 0, .ref b9, .ref b10, .ref b11, .ref b12, .ref b13, .ref b14, .ref b15, .ref b16, .ref b17, .ref b18, .int 0, .ref b19, .ref b20, .ref b21, .ref b22, .ref b23, .ref b24, .ref b25])), (b1, .inl (Z.2 0, 5, .inl (fun _ => 0))), (b2, .inl (Z.2 0, 5, .inl (fun _ => 0))), (b3, .inl (Z.2 0, 5, .inl (fun _ => 0))), (b4, .inl (Z.2 0, 5, .inl (fun _ => 0)))]) [0, 1, 2, 3, 4] (by decide) rfl
  have hFc := va_free (wc := [(m0, .inr (9, [.ref b1, .ref b2, .ref b3, .ref b4, .int 0, .ref b5, .int 0, .ref b6, .ref b7, .ref b8, .int 0, .int 0, .int 0, .ref b9, .ref b10, .ref b11, .ref b12, .ref b13, .ref b14, .ref b15, .ref b16, .ref b17, .ref b18, .int 0, .ref b19, .ref b20, .ref b21, .ref b22, .ref b23, .ref b24, .ref b25])), (b1, .inl (Z.2 0, 5, .inl (fun _ => 0))), (b2, .inl (Z.2 0, 5, .inl (fun _ => 0))), (b3, .inl (Z.2 0, 5, .inl (fun _ => 0))), (b4, .inl (Z.2 0, 5, .inl (fun _ => 0)))]) hD hS hA [0, 1, 2, 3, 4] rfl
  refine va_calli (va_runV (As := [.int (xs 1), .int (xs 2)]) (rest := [.int (if (xs 1) < 0 then (-1 : Int32) else (if 3 < (xs 1) then (-1 : Int32) else (if (if (xs 2) < 0 then (0 : Int32) else (if 9999 < (xs 2) then (0 : Int32) else (1 : Int32))) = 0 then (-1 : Int32) else (0 : Int32))))]) ⟨hx, hb, hml, hown, hts⟩ (c_X9_person l Z H.size m0 b1 b2 b3 b4 b5 b6 b7 b8 b9 b10 b11 b12 b13 b14 b15 b16 b17 b18 b19 b20 b21 b22 b23 b24 b25 (fun _ => 0) (fun _ => 0) (fun _ => 0) (fun _ => 0) (xs 1) (xs 2)) (cwV 2 hts gL_law_X9_person rfl rfl rfl (by decide +kernel) ⟨Nat.le_of_ble_eq_true rfl, Nat.le_of_ble_eq_true rfl⟩) ⟨fun a U g mk q => by obtain ⟨q0, q1, qP, qK, qD⟩ := q; exact ⟨q0, q1, qP, va_K.moved (u := U) (U := U.calling g mk a) (Vm.Alike.refl U.vm) qK, qD⟩, va_recv hK hPc (ci := 9) (q0 := 0) rfl rfl, fun U hU hW => ⟨rfl, by rw [hU], by rw [hU]; exact hPc, va_K.moved hW.alike hK, hDc.weaken (fun _ _ _ _ => trivial)⟩⟩ rfl rfl hl.1 rfl (lv_room (Nat.le_of_ble_eq_true rfl)) dL_law_181 ⟨Nat.le_of_ble_eq_true rfl, Nat.le_of_ble_eq_true rfl⟩) hS (fun q _ h => hFc q h) hFc (fun r_10 u t H1 locs ht hvm hw hB hz1 hk1 hS => ?_)
  subst hw
  have hP1 : va_P Z.1 vwCl [] H1 := fun k q h => by simp at h
  have hD1 : va_D (va_A [(m0, .inr (9, [.ref b1, .ref b2, .ref b3, .ref b4, .int 0, .ref b5, .int 0, .ref b6, .ref b7, .ref b8, .int 0, .int 0, .int 0, .ref b9, .ref b10, .ref b11, .ref b12, .ref b13, .ref b14, .ref b15, .ref b16, .ref b17, .ref b18, .int 0, .ref b19, .ref b20, .ref b21, .ref b22, .ref b23, .ref b24, .ref b25])), (b1, .inl (Z.2 0, 5, .inl (fun _ => 0))), (b2, .inl (Z.2 0, 5, .inl (fun _ => 0))), (b3, .inl (Z.2 0, 5, .inl (fun _ => 0))), (b4, .inl (Z.2 0, 5, .inl (fun _ => 0)))] H.size) [] := ⟨fun i j p q h => by simp at h, fun k q h => by simp at h⟩
  obtain ⟨hP, hD⟩ := va_join (wr := []) (w1 := []) hP hD [0, 1, 2, 3, 4] [] rfl rfl (by decide) (by decide) hk1 hFc hP1 hD1
  clear hPc hDc hP1 hD1 hk1 hz1 hFc ht hvm
  generalize H1 = H at hP hS ⊢
  have hP : va_P Z.1 vwCl [] H := hP
  have hD : va_D A [] := hD
  refine lv_icmp_eq (tgt := 1054) hx hb dL_law_184 (by decide) (fun _ => ?_) (fun c9 => absurd (eq_person (xs 1) (xs 2)) c9)
  exact law_tail C0 hAe (Nat.le_of_ble_eq_true rfl) (Nat.le_of_ble_eq_true rfl) hS (lv_sub hl [0, 3] rfl)
set_option maxHeartbeats 4000000 in
set_option maxRecDepth 100000 in
theorem law_1 {p : Program} {l : Launch} {e : Env} {s : State} {m : MethodId} {below : List Frame} {meth : Method} {c : Code} {b : Nat} {xs : Nat → Int32} (C0 : lw_At p s m meth c b 6 xs) {A : Nat → Prop} (hAe : A = fun q : Nat => s.heap.size ≤ q) (Z : gZ) (kA vA : Nat) (hK : va_K Z.1 vwCl (gT Z) s) (hG : gS kA vA A s) (x0 : Nat) (a1 : Nat) (a2 : Nat) (a3 : Nat) (a4 : Nat) (a5 : Nat) (a6 : Nat) (a7 : Nat) (a8 : Nat) (a9 : Nat) (a10 : Nat) (a11 : Nat) (a12 : Nat) (a13 : Nat) (fk : Nat) (fq : Nat) (pk : Nat) (pq : Nat) (tk : Nat) (kk : Nat) (kq : Nat) (lk : Nat) (lq : Nat) (uk : Nat) (uq : Nat) (vk : Nat) (vq : Nat) (m0 : Nat) (b1 : Nat) (b2 : Nat) (b3 : Nat) (b4 : Nat) (b5 : Nat) (b6 : Nat) (b7 : Nat) (b8 : Nat) (b9 : Nat) (b10 : Nat) (b11 : Nat) (b12 : Nat) (b13 : Nat) (b14 : Nat) (b15 : Nat) (b16 : Nat) (b17 : Nat) (b18 : Nat) (b19 : Nat) (b20 : Nat) (b21 : Nat) (b22 : Nat) (b23 : Nat) (b24 : Nat) (b25 : Nat) (fl : Nat → Int32) (hfl : ∀ j, j < 4 → fl j = -1) {H : Heap} {locs : List Loc} {ls : Array Slot} (hP : va_P Z.1 vwCl (zFull Z x0 a1 a2 a3 a4 a5 a6 a7 a8 a9 a10 a11 a12 a13 fk fq pk pq tk kk kq lk lq uk uq vk vq m0 b1 b2 b3 b4 b5 b6 b7 b8 b9 b10 b11 b12 b13 b14 b15 b16 b17 b18 b19 b20 b21 b22 b23 b24 b25 fl) H) (hD : va_D A (zFull Z x0 a1 a2 a3 a4 a5 a6 a7 a8 a9 a10 a11 a12 a13 fk fq pk pq tk kk kq lk lq uk uq vk vq m0 b1 b2 b3 b4 b5 b6 b7 b8 b9 b10 b11 b12 b13 b14 b15 b16 b17 b18 b19 b20 b21 b22 b23 b24 b25 fl)) (hS : va_S A s.heap H locs) (hl : lv_has ls 4 [(0, .ref b), (1, .ref x0), (2, .ref m0), (3, .int 0)]) : W p l e room_1 s m #[Value.ref b] below meth c H locs 599000 7300000 (lw_Z below #[Value.ref b] s) (F0 m 189 ls []) := by
  obtain ⟨hx, hb, hr, hml, hown0, hts0, hX, hbl, hlocks, hgv⟩ := id C0
  have hown : s.vm.findClass RL = some m.cls := hown0
  have hts : ∀ w ∈ wsL_law, w.before #[Value.ref b] s = true := fun w h => hts0 w (wsL_law_in w h)
  have hA : ∀ q : Nat, s.heap.size ≤ q → A q := by rw [hAe]; exact fun _ h => h
  have hbA : ¬ A b := by rw [hAe]; exact Nat.not_le.mpr hbl
  have hP := hP.sub (ws' := [(x0, .inr (8, [.ref a1, .ref a2, .ref a3, .ref a4, .ref a5, .int 0, .ref a6, .ref a7, .ref a8, .ref a9, .ref a10, .ref a11, .ref a12, .ref a13, .int 9, .int 0, .int 0])), (a1, .inr (0, [.int 0, .int 16510910, .int 0, .ref fk, .ref fq])), (m0, .inr (9, [.ref b1, .ref b2, .ref b3, .ref b4, .int 0, .ref b5, .int 0, .ref b6, .ref b7, .ref b8, .int 0, .int 0, .int 0, .ref b9, .ref b10, .ref b11, .ref b12, .ref b13, .ref b14, .ref b15, .ref b16, .ref b17, .ref b18, .int 0, .ref b19, .ref b20, .ref b21, .ref b22, .ref b23, .ref b24, .ref b25]))]) [0, 1, 22] rfl
  have hD := hD.sub (ws' := [(x0, .inr (8, [.ref a1, .ref a2, .ref a3, .ref a4, .ref a5, .int 0, .ref a6, .ref a7, .ref a8, .ref a9, .ref a10, .ref a11, .ref a12, .ref a13, .int 9, .int 0, .int 0])), (a1, .inr (0, [.int 0, .int 16510910, .int 0, .ref fk, .ref fq])), (m0, .inr (9, [.ref b1, .ref b2, .ref b3, .ref b4, .int 0, .ref b5, .int 0, .ref b6, .ref b7, .ref b8, .int 0, .int 0, .int 0, .ref b9, .ref b10, .ref b11, .ref b12, .ref b13, .ref b14, .ref b15, .ref b16, .ref b17, .ref b18, .int 0, .ref b19, .ref b20, .ref b21, .ref b22, .ref b23, .ref b24, .ref b25]))]) [0, 1, 22] (by decide) rfl
  refine lv_aload_n hx hb dL_law_189 rfl (lv_at hl 1 rfl) ?_
  refine lv_aload_n hx hb dL_law_190 rfl (lv_at hl 0 rfl) ?_
  refine lv_iload_n hx hb dL_law_191 rfl (lv_at hl 3 rfl) ?_
  refine lv_iconst (v := 1) hx hb dL_law_192 (by decide) ?_
  refine lv_iadd hx hb dL_law_193 ?_
  refine lv_topi (fun f_1 ef_1 => ?_)
  obtain rfl : f_1 = 1 := ef_1.trans (by decide)
  refine va_sld hx hb hX hbl hbA hS (z_in (by decide)) dL_law_194 ?_
  refine lv_topi (fun f_2 ef_2 => ?_)
  obtain rfl : f_2 = xs 1 := ef_2
  refine lv_aload_n hx hb dL_law_195 rfl (lv_at hl 0 rfl) ?_
  refine lv_iload_n hx hb dL_law_196 rfl (lv_at hl 3 rfl) ?_
  refine lv_iconst (v := 2) hx hb dL_law_197 (by decide) ?_
  refine lv_iadd hx hb dL_law_198 ?_
  refine lv_topi (fun f_3 ef_3 => ?_)
  obtain rfl : f_3 = 2 := ef_3.trans (by decide)
  refine va_sld hx hb hX hbl hbA hS (z_in (by decide)) dL_law_199 ?_
  refine lv_topi (fun f_4 ef_4 => ?_)
  obtain rfl : f_4 = xs 2 := ef_4
  have hPc := hP.sub (ws' := [(x0, .inr (8, [.ref a1, .ref a2, .ref a3, .ref a4, .ref a5, .int 0, .ref a6, .ref a7, .ref a8, .ref a9, .ref a10, .ref a11, .ref a12, .ref a13, .int 9, .int 0, .int 0])), (a1, .inr (0, [.int 0, .int 16510910, .int 0, .ref fk, .ref fq]))]) [0, 1] rfl
  have hDc := hD.sub (ws' := [(x0, .inr (8, [.ref a1, .ref a2, .ref a3, .ref a4, .ref a5, .int 0, .ref a6, .ref a7, .ref a8, .ref a9, .ref a10, .ref a11, .ref a12, .ref a13, .int 9, .int 0, .int 0])), (a1, .inr (0, [.int 0, .int 16510910, .int 0, .ref fk, .ref fq]))]) [0, 1] (by decide) rfl
  have hFc := va_free (wc := [(x0, .inr (8, [.ref a1, .ref a2, .ref a3, .ref a4, .ref a5, .int 0, .ref a6, .ref a7, .ref a8, .ref a9, .ref a10, .ref a11, .ref a12, .ref a13, .int 9, .int 0, .int 0])), (a1, .inr (0, [.int 0, .int 16510910, .int 0, .ref fk, .ref fq]))]) hD hS hA [0, 1] rfl
  refine va_calli (va_runV (As := [.int (xs 1), .int (xs 2)]) (rest := []) ⟨hx, hb, hml, hown, hts⟩ (c_X8_set l Z H.size x0 a1 a2 a3 a4 a5 a6 a7 a8 a9 a10 a11 a12 a13 fk fq (xs 1) (xs 2)) (cwV 2 hts gL_law_X8_set rfl rfl rfl (by decide +kernel) ⟨Nat.le_of_ble_eq_true rfl, Nat.le_of_ble_eq_true rfl⟩) ⟨fun a U g mk q => by obtain ⟨q0, q1, qP, qK, qD⟩ := q; exact ⟨q0, q1, qP, va_K.moved (u := U) (U := U.calling g mk a) (Vm.Alike.refl U.vm) qK, qD⟩, va_recv hK hPc (ci := 8) (q0 := 0) rfl rfl, fun U hU hW => ⟨rfl, by rw [hU], by rw [hU]; exact hPc, va_K.moved hW.alike hK, hDc.weaken (fun _ _ _ _ => trivial)⟩⟩ rfl rfl hl.1 rfl (lv_room (Nat.le_of_ble_eq_true rfl)) dL_law_200 ⟨Nat.le_of_ble_eq_true rfl, Nat.le_of_ble_eq_true rfl⟩) hS (fun q _ h => hFc q h) hFc (fun r_5 u t H1 locs ht hvm hw hB hz1 hk1 hS => ?_)
  subst hw
  have hP1 : va_P Z.1 vwCl [] H1 := fun k q h => by simp at h
  have hD1 : va_D (va_A [(x0, .inr (8, [.ref a1, .ref a2, .ref a3, .ref a4, .ref a5, .int 0, .ref a6, .ref a7, .ref a8, .ref a9, .ref a10, .ref a11, .ref a12, .ref a13, .int 9, .int 0, .int 0])), (a1, .inr (0, [.int 0, .int 16510910, .int 0, .ref fk, .ref fq]))] H.size) [] := ⟨fun i j p q h => by simp at h, fun k q h => by simp at h⟩
  obtain ⟨hP, hD⟩ := va_join (wr := [(m0, .inr (9, [.ref b1, .ref b2, .ref b3, .ref b4, .int 0, .ref b5, .int 0, .ref b6, .ref b7, .ref b8, .int 0, .int 0, .int 0, .ref b9, .ref b10, .ref b11, .ref b12, .ref b13, .ref b14, .ref b15, .ref b16, .ref b17, .ref b18, .int 0, .ref b19, .ref b20, .ref b21, .ref b22, .ref b23, .ref b24, .ref b25]))]) (w1 := []) hP hD [0, 1] [2] rfl rfl (by decide) (by decide) hk1 hFc hP1 hD1
  clear hPc hDc hP1 hD1 hk1 hz1 hFc ht hvm
  generalize H1 = H at hP hS ⊢
  have hP : va_P Z.1 vwCl [(m0, .inr (9, [.ref b1, .ref b2, .ref b3, .ref b4, .int 0, .ref b5, .int 0, .ref b6, .ref b7, .ref b8, .int 0, .int 0, .int 0, .ref b9, .ref b10, .ref b11, .ref b12, .ref b13, .ref b14, .ref b15, .ref b16, .ref b17, .ref b18, .int 0, .ref b19, .ref b20, .ref b21, .ref b22, .ref b23, .ref b24, .ref b25]))] H := hP
  have hD : va_D A [(m0, .inr (9, [.ref b1, .ref b2, .ref b3, .ref b4, .int 0, .ref b5, .int 0, .ref b6, .ref b7, .ref b8, .int 0, .int 0, .int 0, .ref b9, .ref b10, .ref b11, .ref b12, .ref b13, .ref b14, .ref b15, .ref b16, .ref b17, .ref b18, .int 0, .ref b19, .ref b20, .ref b21, .ref b22, .ref b23, .ref b24, .ref b25]))] := hD
  refine lv_aload_n hx hb dL_law_203 rfl (lv_at hl 2 rfl) ?_
  refine lv_aload_n hx hb dL_law_204 rfl (lv_at hl 0 rfl) ?_
  refine lv_iload_n hx hb dL_law_205 rfl (lv_at hl 3 rfl) ?_
  refine lv_iconst (v := 1) hx hb dL_law_206 (by decide) ?_
  refine lv_iadd hx hb dL_law_207 ?_
  refine lv_topi (fun f_6 ef_6 => ?_)
  obtain rfl : f_6 = 1 := ef_6.trans (by decide)
  refine va_sld hx hb hX hbl hbA hS (z_in (by decide)) dL_law_208 ?_
  refine lv_topi (fun f_7 ef_7 => ?_)
  obtain rfl : f_7 = xs 1 := ef_7
  refine lv_aload_n hx hb dL_law_209 rfl (lv_at hl 0 rfl) ?_
  refine lv_iload_n hx hb dL_law_210 rfl (lv_at hl 3 rfl) ?_
  refine lv_iconst (v := 2) hx hb dL_law_211 (by decide) ?_
  refine lv_iadd hx hb dL_law_212 ?_
  refine lv_topi (fun f_8 ef_8 => ?_)
  obtain rfl : f_8 = 2 := ef_8.trans (by decide)
  refine va_sld hx hb hX hbl hbA hS (z_in (by decide)) dL_law_213 ?_
  refine lv_topi (fun f_9 ef_9 => ?_)
  obtain rfl : f_9 = xs 2 := ef_9
  have hPc := hP.sub (ws' := [(m0, .inr (9, [.ref b1, .ref b2, .ref b3, .ref b4, .int 0, .ref b5, .int 0, .ref b6, .ref b7, .ref b8, .int 0, .int 0, .int 0, .ref b9, .ref b10, .ref b11, .ref b12, .ref b13, .ref b14, .ref b15, .ref b16, .ref b17, .ref b18, .int 0, .ref b19, .ref b20, .ref b21, .ref b22, .ref b23, .ref b24, .ref b25]))]) [0] rfl
  have hDc := hD.sub (ws' := [(m0, .inr (9, [.ref b1, .ref b2, .ref b3, .ref b4, .int 0, .ref b5, .int 0, .ref b6, .ref b7, .ref b8, .int 0, .int 0, .int 0, .ref b9, .ref b10, .ref b11, .ref b12, .ref b13, .ref b14, .ref b15, .ref b16, .ref b17, .ref b18, .int 0, .ref b19, .ref b20, .ref b21, .ref b22, .ref b23, .ref b24, .ref b25]))]) [0] (by decide) rfl
  have hFc := va_free (wc := [(m0, .inr (9, [.ref b1, .ref b2, .ref b3, .ref b4, .int 0, .ref b5, .int 0, .ref b6, .ref b7, .ref b8, .int 0, .int 0, .int 0, .ref b9, .ref b10, .ref b11, .ref b12, .ref b13, .ref b14, .ref b15, .ref b16, .ref b17, .ref b18, .int 0, .ref b19, .ref b20, .ref b21, .ref b22, .ref b23, .ref b24, .ref b25]))]) hD hS hA [0] rfl
  refine va_calli (va_runV (As := [.int (xs 1), .int (xs 2)]) (rest := [.int (-1)]) ⟨hx, hb, hml, hown, hts⟩ (c_X9_set l Z H.size m0 b1 b2 b3 b4 b5 b6 b7 b8 b9 b10 b11 b12 b13 b14 b15 b16 b17 b18 b19 b20 b21 b22 b23 b24 b25 (xs 1) (xs 2)) (cwV 2 hts gL_law_X9_set rfl rfl rfl (by decide +kernel) ⟨Nat.le_of_ble_eq_true rfl, Nat.le_of_ble_eq_true rfl⟩) ⟨fun a U g mk q => by obtain ⟨q0, q1, qP, qK, qD⟩ := q; exact ⟨q0, q1, qP, va_K.moved (u := U) (U := U.calling g mk a) (Vm.Alike.refl U.vm) qK, qD⟩, va_recv hK hPc (ci := 9) (q0 := 0) rfl rfl, fun U hU hW => ⟨rfl, by rw [hU], by rw [hU]; exact hPc, va_K.moved hW.alike hK, hDc.weaken (fun _ _ _ _ => trivial)⟩⟩ rfl rfl hl.1 rfl (lv_room (Nat.le_of_ble_eq_true rfl)) dL_law_214 ⟨Nat.le_of_ble_eq_true rfl, Nat.le_of_ble_eq_true rfl⟩) hS (fun q _ h => hFc q h) hFc (fun r_10 u t H1 locs ht hvm hw hB hz1 hk1 hS => ?_)
  subst hw
  have hP1 : va_P Z.1 vwCl [] H1 := fun k q h => by simp at h
  have hD1 : va_D (va_A [(m0, .inr (9, [.ref b1, .ref b2, .ref b3, .ref b4, .int 0, .ref b5, .int 0, .ref b6, .ref b7, .ref b8, .int 0, .int 0, .int 0, .ref b9, .ref b10, .ref b11, .ref b12, .ref b13, .ref b14, .ref b15, .ref b16, .ref b17, .ref b18, .int 0, .ref b19, .ref b20, .ref b21, .ref b22, .ref b23, .ref b24, .ref b25]))] H.size) [] := ⟨fun i j p q h => by simp at h, fun k q h => by simp at h⟩
  obtain ⟨hP, hD⟩ := va_join (wr := []) (w1 := []) hP hD [0] [] rfl rfl (by decide) (by decide) hk1 hFc hP1 hD1
  clear hPc hDc hP1 hD1 hk1 hz1 hFc ht hvm
  generalize H1 = H at hP hS ⊢
  have hP : va_P Z.1 vwCl [] H := hP
  have hD : va_D A [] := hD
  refine lv_icmp_eq (tgt := 1054) hx hb dL_law_217 (by decide) (fun _ => ?_) (fun c9 => absurd c9 (by decide))
  exact law_tail C0 hAe (Nat.le_of_ble_eq_true rfl) (Nat.le_of_ble_eq_true rfl) hS (lv_sub hl [0, 3] rfl)
set_option maxHeartbeats 4000000 in
set_option maxRecDepth 100000 in
theorem law_2 {p : Program} {l : Launch} {e : Env} {s : State} {m : MethodId} {below : List Frame} {meth : Method} {c : Code} {b : Nat} {xs : Nat → Int32} (C0 : lw_At p s m meth c b 6 xs) {A : Nat → Prop} (hAe : A = fun q : Nat => s.heap.size ≤ q) (Z : gZ) (kA vA : Nat) (hK : va_K Z.1 vwCl (gT Z) s) (hG : gS kA vA A s) (x0 : Nat) (a1 : Nat) (a2 : Nat) (a3 : Nat) (a4 : Nat) (a5 : Nat) (a6 : Nat) (a7 : Nat) (a8 : Nat) (a9 : Nat) (a10 : Nat) (a11 : Nat) (a12 : Nat) (a13 : Nat) (fk : Nat) (fq : Nat) (pk : Nat) (pq : Nat) (tk : Nat) (kk : Nat) (kq : Nat) (lk : Nat) (lq : Nat) (uk : Nat) (uq : Nat) (vk : Nat) (vq : Nat) (m0 : Nat) (b1 : Nat) (b2 : Nat) (b3 : Nat) (b4 : Nat) (b5 : Nat) (b6 : Nat) (b7 : Nat) (b8 : Nat) (b9 : Nat) (b10 : Nat) (b11 : Nat) (b12 : Nat) (b13 : Nat) (b14 : Nat) (b15 : Nat) (b16 : Nat) (b17 : Nat) (b18 : Nat) (b19 : Nat) (b20 : Nat) (b21 : Nat) (b22 : Nat) (b23 : Nat) (b24 : Nat) (b25 : Nat) (fl : Nat → Int32) (hfl : ∀ j, j < 4 → fl j = -1) {H : Heap} {locs : List Loc} {ls : Array Slot} (hP : va_P Z.1 vwCl (zFull Z x0 a1 a2 a3 a4 a5 a6 a7 a8 a9 a10 a11 a12 a13 fk fq pk pq tk kk kq lk lq uk uq vk vq m0 b1 b2 b3 b4 b5 b6 b7 b8 b9 b10 b11 b12 b13 b14 b15 b16 b17 b18 b19 b20 b21 b22 b23 b24 b25 fl) H) (hD : va_D A (zFull Z x0 a1 a2 a3 a4 a5 a6 a7 a8 a9 a10 a11 a12 a13 fk fq pk pq tk kk kq lk lq uk uq vk vq m0 b1 b2 b3 b4 b5 b6 b7 b8 b9 b10 b11 b12 b13 b14 b15 b16 b17 b18 b19 b20 b21 b22 b23 b24 b25 fl)) (hS : va_S A s.heap H locs) (hl : lv_has ls 4 [(0, .ref b), (1, .ref x0), (2, .ref m0), (3, .int 0)]) : W p l e room_1 s m #[Value.ref b] below meth c H locs 599000 7300000 (lw_Z below #[Value.ref b] s) (F0 m 222 ls []) := by
  obtain ⟨hx, hb, hr, hml, hown0, hts0, hX, hbl, hlocks, hgv⟩ := id C0
  have hown : s.vm.findClass RL = some m.cls := hown0
  have hts : ∀ w ∈ wsL_law, w.before #[Value.ref b] s = true := fun w h => hts0 w (wsL_law_in w h)
  have hA : ∀ q : Nat, s.heap.size ≤ q → A q := by rw [hAe]; exact fun _ h => h
  have hbA : ¬ A b := by rw [hAe]; exact Nat.not_le.mpr hbl
  have hP := hP.sub (ws' := [(x0, .inr (8, [.ref a1, .ref a2, .ref a3, .ref a4, .ref a5, .int 0, .ref a6, .ref a7, .ref a8, .ref a9, .ref a10, .ref a11, .ref a12, .ref a13, .int 9, .int 0, .int 0])), (a1, .inr (0, [.int 0, .int 16510910, .int 0, .ref fk, .ref fq])), (m0, .inr (9, [.ref b1, .ref b2, .ref b3, .ref b4, .int 0, .ref b5, .int 0, .ref b6, .ref b7, .ref b8, .int 0, .int 0, .int 0, .ref b9, .ref b10, .ref b11, .ref b12, .ref b13, .ref b14, .ref b15, .ref b16, .ref b17, .ref b18, .int 0, .ref b19, .ref b20, .ref b21, .ref b22, .ref b23, .ref b24, .ref b25]))]) [0, 1, 22] rfl
  have hD := hD.sub (ws' := [(x0, .inr (8, [.ref a1, .ref a2, .ref a3, .ref a4, .ref a5, .int 0, .ref a6, .ref a7, .ref a8, .ref a9, .ref a10, .ref a11, .ref a12, .ref a13, .int 9, .int 0, .int 0])), (a1, .inr (0, [.int 0, .int 16510910, .int 0, .ref fk, .ref fq])), (m0, .inr (9, [.ref b1, .ref b2, .ref b3, .ref b4, .int 0, .ref b5, .int 0, .ref b6, .ref b7, .ref b8, .int 0, .int 0, .int 0, .ref b9, .ref b10, .ref b11, .ref b12, .ref b13, .ref b14, .ref b15, .ref b16, .ref b17, .ref b18, .int 0, .ref b19, .ref b20, .ref b21, .ref b22, .ref b23, .ref b24, .ref b25]))]) [0, 1, 22] (by decide) rfl
  refine lv_aload_n hx hb dL_law_222 rfl (lv_at hl 1 rfl) ?_
  refine lv_aload_n hx hb dL_law_223 rfl (lv_at hl 0 rfl) ?_
  refine lv_iload_n hx hb dL_law_224 rfl (lv_at hl 3 rfl) ?_
  refine lv_iconst (v := 1) hx hb dL_law_225 (by decide) ?_
  refine lv_iadd hx hb dL_law_226 ?_
  refine lv_topi (fun f_1 ef_1 => ?_)
  obtain rfl : f_1 = 1 := ef_1.trans (by decide)
  refine va_sld hx hb hX hbl hbA hS (z_in (by decide)) dL_law_227 ?_
  refine lv_topi (fun f_2 ef_2 => ?_)
  obtain rfl : f_2 = xs 1 := ef_2
  refine lv_aload_n hx hb dL_law_228 rfl (lv_at hl 0 rfl) ?_
  refine lv_iload_n hx hb dL_law_229 rfl (lv_at hl 3 rfl) ?_
  refine lv_iconst (v := 2) hx hb dL_law_230 (by decide) ?_
  refine lv_iadd hx hb dL_law_231 ?_
  refine lv_topi (fun f_3 ef_3 => ?_)
  obtain rfl : f_3 = 2 := ef_3.trans (by decide)
  refine va_sld hx hb hX hbl hbA hS (z_in (by decide)) dL_law_232 ?_
  refine lv_topi (fun f_4 ef_4 => ?_)
  obtain rfl : f_4 = xs 2 := ef_4
  have hPc := hP.sub (ws' := [(x0, .inr (8, [.ref a1, .ref a2, .ref a3, .ref a4, .ref a5, .int 0, .ref a6, .ref a7, .ref a8, .ref a9, .ref a10, .ref a11, .ref a12, .ref a13, .int 9, .int 0, .int 0])), (a1, .inr (0, [.int 0, .int 16510910, .int 0, .ref fk, .ref fq]))]) [0, 1] rfl
  have hDc := hD.sub (ws' := [(x0, .inr (8, [.ref a1, .ref a2, .ref a3, .ref a4, .ref a5, .int 0, .ref a6, .ref a7, .ref a8, .ref a9, .ref a10, .ref a11, .ref a12, .ref a13, .int 9, .int 0, .int 0])), (a1, .inr (0, [.int 0, .int 16510910, .int 0, .ref fk, .ref fq]))]) [0, 1] (by decide) rfl
  have hFc := va_free (wc := [(x0, .inr (8, [.ref a1, .ref a2, .ref a3, .ref a4, .ref a5, .int 0, .ref a6, .ref a7, .ref a8, .ref a9, .ref a10, .ref a11, .ref a12, .ref a13, .int 9, .int 0, .int 0])), (a1, .inr (0, [.int 0, .int 16510910, .int 0, .ref fk, .ref fq]))]) hD hS hA [0, 1] rfl
  refine va_calli (va_runV (As := [.int (xs 1), .int (xs 2)]) (rest := []) ⟨hx, hb, hml, hown, hts⟩ (c_X8_told l Z H.size x0 a1 a2 a3 a4 a5 a6 a7 a8 a9 a10 a11 a12 a13 fk fq (xs 1) (xs 2)) (cwV 2 hts gL_law_X8_told rfl rfl rfl (by decide +kernel) ⟨Nat.le_of_ble_eq_true rfl, Nat.le_of_ble_eq_true rfl⟩) ⟨fun a U g mk q => by obtain ⟨q0, q1, qP, qK, qD⟩ := q; exact ⟨q0, q1, qP, va_K.moved (u := U) (U := U.calling g mk a) (Vm.Alike.refl U.vm) qK, qD⟩, va_recv hK hPc (ci := 8) (q0 := 0) rfl rfl, fun U hU hW => ⟨rfl, by rw [hU], by rw [hU]; exact hPc, va_K.moved hW.alike hK, hDc.weaken (fun _ _ _ _ => trivial)⟩⟩ rfl rfl hl.1 rfl (lv_room (Nat.le_of_ble_eq_true rfl)) dL_law_233 ⟨Nat.le_of_ble_eq_true rfl, Nat.le_of_ble_eq_true rfl⟩) hS (fun q _ h => hFc q h) hFc (fun r_5 u t H1 locs ht hvm hw hB hz1 hk1 hS => ?_)
  subst hw
  have hP1 : va_P Z.1 vwCl [] H1 := fun k q h => by simp at h
  have hD1 : va_D (va_A [(x0, .inr (8, [.ref a1, .ref a2, .ref a3, .ref a4, .ref a5, .int 0, .ref a6, .ref a7, .ref a8, .ref a9, .ref a10, .ref a11, .ref a12, .ref a13, .int 9, .int 0, .int 0])), (a1, .inr (0, [.int 0, .int 16510910, .int 0, .ref fk, .ref fq]))] H.size) [] := ⟨fun i j p q h => by simp at h, fun k q h => by simp at h⟩
  obtain ⟨hP, hD⟩ := va_join (wr := [(m0, .inr (9, [.ref b1, .ref b2, .ref b3, .ref b4, .int 0, .ref b5, .int 0, .ref b6, .ref b7, .ref b8, .int 0, .int 0, .int 0, .ref b9, .ref b10, .ref b11, .ref b12, .ref b13, .ref b14, .ref b15, .ref b16, .ref b17, .ref b18, .int 0, .ref b19, .ref b20, .ref b21, .ref b22, .ref b23, .ref b24, .ref b25]))]) (w1 := []) hP hD [0, 1] [2] rfl rfl (by decide) (by decide) hk1 hFc hP1 hD1
  clear hPc hDc hP1 hD1 hk1 hz1 hFc ht hvm
  generalize H1 = H at hP hS ⊢
  have hP : va_P Z.1 vwCl [(m0, .inr (9, [.ref b1, .ref b2, .ref b3, .ref b4, .int 0, .ref b5, .int 0, .ref b6, .ref b7, .ref b8, .int 0, .int 0, .int 0, .ref b9, .ref b10, .ref b11, .ref b12, .ref b13, .ref b14, .ref b15, .ref b16, .ref b17, .ref b18, .int 0, .ref b19, .ref b20, .ref b21, .ref b22, .ref b23, .ref b24, .ref b25]))] H := hP
  have hD : va_D A [(m0, .inr (9, [.ref b1, .ref b2, .ref b3, .ref b4, .int 0, .ref b5, .int 0, .ref b6, .ref b7, .ref b8, .int 0, .int 0, .int 0, .ref b9, .ref b10, .ref b11, .ref b12, .ref b13, .ref b14, .ref b15, .ref b16, .ref b17, .ref b18, .int 0, .ref b19, .ref b20, .ref b21, .ref b22, .ref b23, .ref b24, .ref b25]))] := hD
  refine lv_aload_n hx hb dL_law_236 rfl (lv_at hl 2 rfl) ?_
  refine lv_aload_n hx hb dL_law_237 rfl (lv_at hl 0 rfl) ?_
  refine lv_iload_n hx hb dL_law_238 rfl (lv_at hl 3 rfl) ?_
  refine lv_iconst (v := 1) hx hb dL_law_239 (by decide) ?_
  refine lv_iadd hx hb dL_law_240 ?_
  refine lv_topi (fun f_6 ef_6 => ?_)
  obtain rfl : f_6 = 1 := ef_6.trans (by decide)
  refine va_sld hx hb hX hbl hbA hS (z_in (by decide)) dL_law_241 ?_
  refine lv_topi (fun f_7 ef_7 => ?_)
  obtain rfl : f_7 = xs 1 := ef_7
  refine lv_aload_n hx hb dL_law_242 rfl (lv_at hl 0 rfl) ?_
  refine lv_iload_n hx hb dL_law_243 rfl (lv_at hl 3 rfl) ?_
  refine lv_iconst (v := 2) hx hb dL_law_244 (by decide) ?_
  refine lv_iadd hx hb dL_law_245 ?_
  refine lv_topi (fun f_8 ef_8 => ?_)
  obtain rfl : f_8 = 2 := ef_8.trans (by decide)
  refine va_sld hx hb hX hbl hbA hS (z_in (by decide)) dL_law_246 ?_
  refine lv_topi (fun f_9 ef_9 => ?_)
  obtain rfl : f_9 = xs 2 := ef_9
  have hPc := hP.sub (ws' := [(m0, .inr (9, [.ref b1, .ref b2, .ref b3, .ref b4, .int 0, .ref b5, .int 0, .ref b6, .ref b7, .ref b8, .int 0, .int 0, .int 0, .ref b9, .ref b10, .ref b11, .ref b12, .ref b13, .ref b14, .ref b15, .ref b16, .ref b17, .ref b18, .int 0, .ref b19, .ref b20, .ref b21, .ref b22, .ref b23, .ref b24, .ref b25]))]) [0] rfl
  have hDc := hD.sub (ws' := [(m0, .inr (9, [.ref b1, .ref b2, .ref b3, .ref b4, .int 0, .ref b5, .int 0, .ref b6, .ref b7, .ref b8, .int 0, .int 0, .int 0, .ref b9, .ref b10, .ref b11, .ref b12, .ref b13, .ref b14, .ref b15, .ref b16, .ref b17, .ref b18, .int 0, .ref b19, .ref b20, .ref b21, .ref b22, .ref b23, .ref b24, .ref b25]))]) [0] (by decide) rfl
  have hFc := va_free (wc := [(m0, .inr (9, [.ref b1, .ref b2, .ref b3, .ref b4, .int 0, .ref b5, .int 0, .ref b6, .ref b7, .ref b8, .int 0, .int 0, .int 0, .ref b9, .ref b10, .ref b11, .ref b12, .ref b13, .ref b14, .ref b15, .ref b16, .ref b17, .ref b18, .int 0, .ref b19, .ref b20, .ref b21, .ref b22, .ref b23, .ref b24, .ref b25]))]) hD hS hA [0] rfl
  refine va_calli (va_runV (As := [.int (xs 1), .int (xs 2)]) (rest := [.int (-1)]) ⟨hx, hb, hml, hown, hts⟩ (c_X9_told l Z H.size m0 b1 b2 b3 b4 b5 b6 b7 b8 b9 b10 b11 b12 b13 b14 b15 b16 b17 b18 b19 b20 b21 b22 b23 b24 b25 (xs 1) (xs 2)) (cwV 2 hts gL_law_X9_told rfl rfl rfl (by decide +kernel) ⟨Nat.le_of_ble_eq_true rfl, Nat.le_of_ble_eq_true rfl⟩) ⟨fun a U g mk q => by obtain ⟨q0, q1, qP, qK, qD⟩ := q; exact ⟨q0, q1, qP, va_K.moved (u := U) (U := U.calling g mk a) (Vm.Alike.refl U.vm) qK, qD⟩, va_recv hK hPc (ci := 9) (q0 := 0) rfl rfl, fun U hU hW => ⟨rfl, by rw [hU], by rw [hU]; exact hPc, va_K.moved hW.alike hK, hDc.weaken (fun _ _ _ _ => trivial)⟩⟩ rfl rfl hl.1 rfl (lv_room (Nat.le_of_ble_eq_true rfl)) dL_law_247 ⟨Nat.le_of_ble_eq_true rfl, Nat.le_of_ble_eq_true rfl⟩) hS (fun q _ h => hFc q h) hFc (fun r_10 u t H1 locs ht hvm hw hB hz1 hk1 hS => ?_)
  subst hw
  have hP1 : va_P Z.1 vwCl [] H1 := fun k q h => by simp at h
  have hD1 : va_D (va_A [(m0, .inr (9, [.ref b1, .ref b2, .ref b3, .ref b4, .int 0, .ref b5, .int 0, .ref b6, .ref b7, .ref b8, .int 0, .int 0, .int 0, .ref b9, .ref b10, .ref b11, .ref b12, .ref b13, .ref b14, .ref b15, .ref b16, .ref b17, .ref b18, .int 0, .ref b19, .ref b20, .ref b21, .ref b22, .ref b23, .ref b24, .ref b25]))] H.size) [] := ⟨fun i j p q h => by simp at h, fun k q h => by simp at h⟩
  obtain ⟨hP, hD⟩ := va_join (wr := []) (w1 := []) hP hD [0] [] rfl rfl (by decide) (by decide) hk1 hFc hP1 hD1
  clear hPc hDc hP1 hD1 hk1 hz1 hFc ht hvm
  generalize H1 = H at hP hS ⊢
  have hP : va_P Z.1 vwCl [] H := hP
  have hD : va_D A [] := hD
  refine lv_icmp_eq (tgt := 1054) hx hb dL_law_250 (by decide) (fun _ => ?_) (fun c9 => absurd c9 (by decide))
  exact law_tail C0 hAe (Nat.le_of_ble_eq_true rfl) (Nat.le_of_ble_eq_true rfl) hS (lv_sub hl [0, 3] rfl)
set_option maxHeartbeats 4000000 in
set_option maxRecDepth 100000 in
theorem law_3 {p : Program} {l : Launch} {e : Env} {s : State} {m : MethodId} {below : List Frame} {meth : Method} {c : Code} {b : Nat} {xs : Nat → Int32} (C0 : lw_At p s m meth c b 6 xs) {A : Nat → Prop} (hAe : A = fun q : Nat => s.heap.size ≤ q) (Z : gZ) (kA vA : Nat) (hK : va_K Z.1 vwCl (gT Z) s) (hG : gS kA vA A s) (x0 : Nat) (a1 : Nat) (a2 : Nat) (a3 : Nat) (a4 : Nat) (a5 : Nat) (a6 : Nat) (a7 : Nat) (a8 : Nat) (a9 : Nat) (a10 : Nat) (a11 : Nat) (a12 : Nat) (a13 : Nat) (fk : Nat) (fq : Nat) (pk : Nat) (pq : Nat) (tk : Nat) (kk : Nat) (kq : Nat) (lk : Nat) (lq : Nat) (uk : Nat) (uq : Nat) (vk : Nat) (vq : Nat) (m0 : Nat) (b1 : Nat) (b2 : Nat) (b3 : Nat) (b4 : Nat) (b5 : Nat) (b6 : Nat) (b7 : Nat) (b8 : Nat) (b9 : Nat) (b10 : Nat) (b11 : Nat) (b12 : Nat) (b13 : Nat) (b14 : Nat) (b15 : Nat) (b16 : Nat) (b17 : Nat) (b18 : Nat) (b19 : Nat) (b20 : Nat) (b21 : Nat) (b22 : Nat) (b23 : Nat) (b24 : Nat) (b25 : Nat) (fl : Nat → Int32) (hfl : ∀ j, j < 4 → fl j = -1) {H : Heap} {locs : List Loc} {ls : Array Slot} (hP : va_P Z.1 vwCl (zFull Z x0 a1 a2 a3 a4 a5 a6 a7 a8 a9 a10 a11 a12 a13 fk fq pk pq tk kk kq lk lq uk uq vk vq m0 b1 b2 b3 b4 b5 b6 b7 b8 b9 b10 b11 b12 b13 b14 b15 b16 b17 b18 b19 b20 b21 b22 b23 b24 b25 fl) H) (hD : va_D A (zFull Z x0 a1 a2 a3 a4 a5 a6 a7 a8 a9 a10 a11 a12 a13 fk fq pk pq tk kk kq lk lq uk uq vk vq m0 b1 b2 b3 b4 b5 b6 b7 b8 b9 b10 b11 b12 b13 b14 b15 b16 b17 b18 b19 b20 b21 b22 b23 b24 b25 fl)) (hS : va_S A s.heap H locs) (hl : lv_has ls 4 [(0, .ref b), (1, .ref x0), (2, .ref m0), (3, .int 0)]) : W p l e room_1 s m #[Value.ref b] below meth c H locs 599000 7300000 (lw_Z below #[Value.ref b] s) (F0 m 255 ls []) := by
  obtain ⟨hx, hb, hr, hml, hown0, hts0, hX, hbl, hlocks, hgv⟩ := id C0
  have hown : s.vm.findClass RL = some m.cls := hown0
  have hts : ∀ w ∈ wsL_law, w.before #[Value.ref b] s = true := fun w h => hts0 w (wsL_law_in w h)
  have hA : ∀ q : Nat, s.heap.size ≤ q → A q := by rw [hAe]; exact fun _ h => h
  have hbA : ¬ A b := by rw [hAe]; exact Nat.not_le.mpr hbl
  have hP := hP.sub (ws' := [(x0, .inr (8, [.ref a1, .ref a2, .ref a3, .ref a4, .ref a5, .int 0, .ref a6, .ref a7, .ref a8, .ref a9, .ref a10, .ref a11, .ref a12, .ref a13, .int 9, .int 0, .int 0])), (a1, .inr (0, [.int 0, .int 16510910, .int 0, .ref fk, .ref fq])), (m0, .inr (9, [.ref b1, .ref b2, .ref b3, .ref b4, .int 0, .ref b5, .int 0, .ref b6, .ref b7, .ref b8, .int 0, .int 0, .int 0, .ref b9, .ref b10, .ref b11, .ref b12, .ref b13, .ref b14, .ref b15, .ref b16, .ref b17, .ref b18, .int 0, .ref b19, .ref b20, .ref b21, .ref b22, .ref b23, .ref b24, .ref b25]))]) [0, 1, 22] rfl
  have hD := hD.sub (ws' := [(x0, .inr (8, [.ref a1, .ref a2, .ref a3, .ref a4, .ref a5, .int 0, .ref a6, .ref a7, .ref a8, .ref a9, .ref a10, .ref a11, .ref a12, .ref a13, .int 9, .int 0, .int 0])), (a1, .inr (0, [.int 0, .int 16510910, .int 0, .ref fk, .ref fq])), (m0, .inr (9, [.ref b1, .ref b2, .ref b3, .ref b4, .int 0, .ref b5, .int 0, .ref b6, .ref b7, .ref b8, .int 0, .int 0, .int 0, .ref b9, .ref b10, .ref b11, .ref b12, .ref b13, .ref b14, .ref b15, .ref b16, .ref b17, .ref b18, .int 0, .ref b19, .ref b20, .ref b21, .ref b22, .ref b23, .ref b24, .ref b25]))]) [0, 1, 22] (by decide) rfl
  refine lv_aload_n hx hb dL_law_255 rfl (lv_at hl 1 rfl) ?_
  refine lv_aload_n hx hb dL_law_256 rfl (lv_at hl 0 rfl) ?_
  refine lv_iload_n hx hb dL_law_257 rfl (lv_at hl 3 rfl) ?_
  refine lv_iconst (v := 1) hx hb dL_law_258 (by decide) ?_
  refine lv_iadd hx hb dL_law_259 ?_
  refine lv_topi (fun f_1 ef_1 => ?_)
  obtain rfl : f_1 = 1 := ef_1.trans (by decide)
  refine va_sld hx hb hX hbl hbA hS (z_in (by decide)) dL_law_260 ?_
  refine lv_topi (fun f_2 ef_2 => ?_)
  obtain rfl : f_2 = xs 1 := ef_2
  refine lv_aload_n hx hb dL_law_261 rfl (lv_at hl 0 rfl) ?_
  refine lv_iload_n hx hb dL_law_262 rfl (lv_at hl 3 rfl) ?_
  refine lv_iconst (v := 2) hx hb dL_law_263 (by decide) ?_
  refine lv_iadd hx hb dL_law_264 ?_
  refine lv_topi (fun f_3 ef_3 => ?_)
  obtain rfl : f_3 = 2 := ef_3.trans (by decide)
  refine va_sld hx hb hX hbl hbA hS (z_in (by decide)) dL_law_265 ?_
  refine lv_topi (fun f_4 ef_4 => ?_)
  obtain rfl : f_4 = xs 2 := ef_4
  refine lv_aload_n hx hb dL_law_266 rfl (lv_at hl 0 rfl) ?_
  refine lv_iload_n hx hb dL_law_267 rfl (lv_at hl 3 rfl) ?_
  refine lv_iconst (v := 3) hx hb dL_law_268 (by decide) ?_
  refine lv_iadd hx hb dL_law_269 ?_
  refine lv_topi (fun f_5 ef_5 => ?_)
  obtain rfl : f_5 = 3 := ef_5.trans (by decide)
  refine va_sld hx hb hX hbl hbA hS (z_in (by decide)) dL_law_270 ?_
  refine lv_topi (fun f_6 ef_6 => ?_)
  obtain rfl : f_6 = xs 3 := ef_6
  refine lv_if_eq (tgt := 278) hx hb dL_law_271 (by decide) (fun c_7 => ?_) (fun c_7 => ?_)
  · refine lv_iconst (v := 0) hx hb dL_law_278 (by decide) ?_
    have hPc := hP.sub (ws' := [(x0, .inr (8, [.ref a1, .ref a2, .ref a3, .ref a4, .ref a5, .int 0, .ref a6, .ref a7, .ref a8, .ref a9, .ref a10, .ref a11, .ref a12, .ref a13, .int 9, .int 0, .int 0])), (a1, .inr (0, [.int 0, .int 16510910, .int 0, .ref fk, .ref fq]))]) [0, 1] rfl
    have hDc := hD.sub (ws' := [(x0, .inr (8, [.ref a1, .ref a2, .ref a3, .ref a4, .ref a5, .int 0, .ref a6, .ref a7, .ref a8, .ref a9, .ref a10, .ref a11, .ref a12, .ref a13, .int 9, .int 0, .int 0])), (a1, .inr (0, [.int 0, .int 16510910, .int 0, .ref fk, .ref fq]))]) [0, 1] (by decide) rfl
    have hFc := va_free (wc := [(x0, .inr (8, [.ref a1, .ref a2, .ref a3, .ref a4, .ref a5, .int 0, .ref a6, .ref a7, .ref a8, .ref a9, .ref a10, .ref a11, .ref a12, .ref a13, .int 9, .int 0, .int 0])), (a1, .inr (0, [.int 0, .int 16510910, .int 0, .ref fk, .ref fq]))]) hD hS hA [0, 1] rfl
    refine va_calli (va_runV (As := [.int (xs 1), .int (xs 2), .int 0]) (rest := []) ⟨hx, hb, hml, hown, hts⟩ (c_X8_knows l Z H.size x0 a1 a2 a3 a4 a5 a6 a7 a8 a9 a10 a11 a12 a13 fk fq (xs 1) (xs 2) 0) (cwV 3 hts gL_law_X8_knows rfl rfl rfl (by decide +kernel) ⟨Nat.le_of_ble_eq_true rfl, Nat.le_of_ble_eq_true rfl⟩) ⟨fun a U g mk q => by obtain ⟨q0, q1, qP, qK, qD⟩ := q; exact ⟨q0, q1, qP, va_K.moved (u := U) (U := U.calling g mk a) (Vm.Alike.refl U.vm) qK, qD⟩, va_recv hK hPc (ci := 8) (q0 := 0) rfl rfl, fun U hU hW => ⟨rfl, by rw [hU], by rw [hU]; exact hPc, va_K.moved hW.alike hK, hDc.weaken (fun _ _ _ _ => trivial)⟩⟩ rfl rfl hl.1 rfl (lv_room (Nat.le_of_ble_eq_true rfl)) dL_law_279 ⟨Nat.le_of_ble_eq_true rfl, Nat.le_of_ble_eq_true rfl⟩) hS (fun q _ h => hFc q h) hFc (fun r_8 u t H1 locs ht hvm hw hB hz1 hk1 hS => ?_)
    subst hw
    have hP1 : va_P Z.1 vwCl [] H1 := fun k q h => by simp at h
    have hD1 : va_D (va_A [(x0, .inr (8, [.ref a1, .ref a2, .ref a3, .ref a4, .ref a5, .int 0, .ref a6, .ref a7, .ref a8, .ref a9, .ref a10, .ref a11, .ref a12, .ref a13, .int 9, .int 0, .int 0])), (a1, .inr (0, [.int 0, .int 16510910, .int 0, .ref fk, .ref fq]))] H.size) [] := ⟨fun i j p q h => by simp at h, fun k q h => by simp at h⟩
    obtain ⟨hP, hD⟩ := va_join (wr := [(m0, .inr (9, [.ref b1, .ref b2, .ref b3, .ref b4, .int 0, .ref b5, .int 0, .ref b6, .ref b7, .ref b8, .int 0, .int 0, .int 0, .ref b9, .ref b10, .ref b11, .ref b12, .ref b13, .ref b14, .ref b15, .ref b16, .ref b17, .ref b18, .int 0, .ref b19, .ref b20, .ref b21, .ref b22, .ref b23, .ref b24, .ref b25]))]) (w1 := []) hP hD [0, 1] [2] rfl rfl (by decide) (by decide) hk1 hFc hP1 hD1
    clear hPc hDc hP1 hD1 hk1 hz1 hFc ht hvm
    generalize H1 = H at hP hS ⊢
    have hP : va_P Z.1 vwCl [(m0, .inr (9, [.ref b1, .ref b2, .ref b3, .ref b4, .int 0, .ref b5, .int 0, .ref b6, .ref b7, .ref b8, .int 0, .int 0, .int 0, .ref b9, .ref b10, .ref b11, .ref b12, .ref b13, .ref b14, .ref b15, .ref b16, .ref b17, .ref b18, .int 0, .ref b19, .ref b20, .ref b21, .ref b22, .ref b23, .ref b24, .ref b25]))] H := hP
    have hD : va_D A [(m0, .inr (9, [.ref b1, .ref b2, .ref b3, .ref b4, .int 0, .ref b5, .int 0, .ref b6, .ref b7, .ref b8, .int 0, .int 0, .int 0, .ref b9, .ref b10, .ref b11, .ref b12, .ref b13, .ref b14, .ref b15, .ref b16, .ref b17, .ref b18, .int 0, .ref b19, .ref b20, .ref b21, .ref b22, .ref b23, .ref b24, .ref b25]))] := hD
    refine lv_aload_n hx hb dL_law_282 rfl (lv_at hl 2 rfl) ?_
    refine lv_aload_n hx hb dL_law_283 rfl (lv_at hl 0 rfl) ?_
    refine lv_iload_n hx hb dL_law_284 rfl (lv_at hl 3 rfl) ?_
    refine lv_iconst (v := 1) hx hb dL_law_285 (by decide) ?_
    refine lv_iadd hx hb dL_law_286 ?_
    refine lv_topi (fun f_9 ef_9 => ?_)
    obtain rfl : f_9 = 1 := ef_9.trans (by decide)
    refine va_sld hx hb hX hbl hbA hS (z_in (by decide)) dL_law_287 ?_
    refine lv_topi (fun f_10 ef_10 => ?_)
    obtain rfl : f_10 = xs 1 := ef_10
    refine lv_aload_n hx hb dL_law_288 rfl (lv_at hl 0 rfl) ?_
    refine lv_iload_n hx hb dL_law_289 rfl (lv_at hl 3 rfl) ?_
    refine lv_iconst (v := 2) hx hb dL_law_290 (by decide) ?_
    refine lv_iadd hx hb dL_law_291 ?_
    refine lv_topi (fun f_11 ef_11 => ?_)
    obtain rfl : f_11 = 2 := ef_11.trans (by decide)
    refine va_sld hx hb hX hbl hbA hS (z_in (by decide)) dL_law_292 ?_
    refine lv_topi (fun f_12 ef_12 => ?_)
    obtain rfl : f_12 = xs 2 := ef_12
    refine lv_aload_n hx hb dL_law_293 rfl (lv_at hl 0 rfl) ?_
    refine lv_iload_n hx hb dL_law_294 rfl (lv_at hl 3 rfl) ?_
    refine lv_iconst (v := 3) hx hb dL_law_295 (by decide) ?_
    refine lv_iadd hx hb dL_law_296 ?_
    refine lv_topi (fun f_13 ef_13 => ?_)
    obtain rfl : f_13 = 3 := ef_13.trans (by decide)
    refine va_sld hx hb hX hbl hbA hS (z_in (by decide)) dL_law_297 ?_
    refine lv_topi (fun f_14 ef_14 => ?_)
    obtain rfl : f_14 = xs 3 := ef_14
    refine lv_if_eq (tgt := 305) hx hb dL_law_298 (by decide) (fun _ => ?_) (fun c9 => absurd c_7 c9)
    refine lv_iconst (v := 0) hx hb dL_law_305 (by decide) ?_
    have hPc := hP.sub (ws' := [(m0, .inr (9, [.ref b1, .ref b2, .ref b3, .ref b4, .int 0, .ref b5, .int 0, .ref b6, .ref b7, .ref b8, .int 0, .int 0, .int 0, .ref b9, .ref b10, .ref b11, .ref b12, .ref b13, .ref b14, .ref b15, .ref b16, .ref b17, .ref b18, .int 0, .ref b19, .ref b20, .ref b21, .ref b22, .ref b23, .ref b24, .ref b25]))]) [0] rfl
    have hDc := hD.sub (ws' := [(m0, .inr (9, [.ref b1, .ref b2, .ref b3, .ref b4, .int 0, .ref b5, .int 0, .ref b6, .ref b7, .ref b8, .int 0, .int 0, .int 0, .ref b9, .ref b10, .ref b11, .ref b12, .ref b13, .ref b14, .ref b15, .ref b16, .ref b17, .ref b18, .int 0, .ref b19, .ref b20, .ref b21, .ref b22, .ref b23, .ref b24, .ref b25]))]) [0] (by decide) rfl
    have hFc := va_free (wc := [(m0, .inr (9, [.ref b1, .ref b2, .ref b3, .ref b4, .int 0, .ref b5, .int 0, .ref b6, .ref b7, .ref b8, .int 0, .int 0, .int 0, .ref b9, .ref b10, .ref b11, .ref b12, .ref b13, .ref b14, .ref b15, .ref b16, .ref b17, .ref b18, .int 0, .ref b19, .ref b20, .ref b21, .ref b22, .ref b23, .ref b24, .ref b25]))]) hD hS hA [0] rfl
    refine va_calli (va_runV (As := [.int (xs 1), .int (xs 2), .int 0]) (rest := [.int (-1)]) ⟨hx, hb, hml, hown, hts⟩ (c_X9_knows l Z H.size m0 b1 b2 b3 b4 b5 b6 b7 b8 b9 b10 b11 b12 b13 b14 b15 b16 b17 b18 b19 b20 b21 b22 b23 b24 b25 (xs 1) (xs 2) 0) (cwV 3 hts gL_law_X9_knows rfl rfl rfl (by decide +kernel) ⟨Nat.le_of_ble_eq_true rfl, Nat.le_of_ble_eq_true rfl⟩) ⟨fun a U g mk q => by obtain ⟨q0, q1, qP, qK, qD⟩ := q; exact ⟨q0, q1, qP, va_K.moved (u := U) (U := U.calling g mk a) (Vm.Alike.refl U.vm) qK, qD⟩, va_recv hK hPc (ci := 9) (q0 := 0) rfl rfl, fun U hU hW => ⟨rfl, by rw [hU], by rw [hU]; exact hPc, va_K.moved hW.alike hK, hDc.weaken (fun _ _ _ _ => trivial)⟩⟩ rfl rfl hl.1 rfl (lv_room (Nat.le_of_ble_eq_true rfl)) dL_law_306 ⟨Nat.le_of_ble_eq_true rfl, Nat.le_of_ble_eq_true rfl⟩) hS (fun q _ h => hFc q h) hFc (fun r_15 u t H1 locs ht hvm hw hB hz1 hk1 hS => ?_)
    subst hw
    have hP1 : va_P Z.1 vwCl [] H1 := fun k q h => by simp at h
    have hD1 : va_D (va_A [(m0, .inr (9, [.ref b1, .ref b2, .ref b3, .ref b4, .int 0, .ref b5, .int 0, .ref b6, .ref b7, .ref b8, .int 0, .int 0, .int 0, .ref b9, .ref b10, .ref b11, .ref b12, .ref b13, .ref b14, .ref b15, .ref b16, .ref b17, .ref b18, .int 0, .ref b19, .ref b20, .ref b21, .ref b22, .ref b23, .ref b24, .ref b25]))] H.size) [] := ⟨fun i j p q h => by simp at h, fun k q h => by simp at h⟩
    obtain ⟨hP, hD⟩ := va_join (wr := []) (w1 := []) hP hD [0] [] rfl rfl (by decide) (by decide) hk1 hFc hP1 hD1
    clear hPc hDc hP1 hD1 hk1 hz1 hFc ht hvm
    generalize H1 = H at hP hS ⊢
    have hP : va_P Z.1 vwCl [] H := hP
    have hD : va_D A [] := hD
    refine lv_icmp_eq (tgt := 1054) hx hb dL_law_309 (by decide) (fun _ => ?_) (fun c9 => absurd c9 (by decide))
    exact law_tail C0 hAe (Nat.le_of_ble_eq_true rfl) (Nat.le_of_ble_eq_true rfl) hS (lv_sub hl [0, 3] rfl)
  · refine lv_iconst (v := 1) hx hb dL_law_274 (by decide) ?_
    refine lv_goto (tgt := 279) hx hb dL_law_275 (by decide) ?_
    have hPc := hP.sub (ws' := [(x0, .inr (8, [.ref a1, .ref a2, .ref a3, .ref a4, .ref a5, .int 0, .ref a6, .ref a7, .ref a8, .ref a9, .ref a10, .ref a11, .ref a12, .ref a13, .int 9, .int 0, .int 0])), (a1, .inr (0, [.int 0, .int 16510910, .int 0, .ref fk, .ref fq]))]) [0, 1] rfl
    have hDc := hD.sub (ws' := [(x0, .inr (8, [.ref a1, .ref a2, .ref a3, .ref a4, .ref a5, .int 0, .ref a6, .ref a7, .ref a8, .ref a9, .ref a10, .ref a11, .ref a12, .ref a13, .int 9, .int 0, .int 0])), (a1, .inr (0, [.int 0, .int 16510910, .int 0, .ref fk, .ref fq]))]) [0, 1] (by decide) rfl
    have hFc := va_free (wc := [(x0, .inr (8, [.ref a1, .ref a2, .ref a3, .ref a4, .ref a5, .int 0, .ref a6, .ref a7, .ref a8, .ref a9, .ref a10, .ref a11, .ref a12, .ref a13, .int 9, .int 0, .int 0])), (a1, .inr (0, [.int 0, .int 16510910, .int 0, .ref fk, .ref fq]))]) hD hS hA [0, 1] rfl
    refine va_calli (va_runV (As := [.int (xs 1), .int (xs 2), .int 1]) (rest := []) ⟨hx, hb, hml, hown, hts⟩ (c_X8_knows l Z H.size x0 a1 a2 a3 a4 a5 a6 a7 a8 a9 a10 a11 a12 a13 fk fq (xs 1) (xs 2) 1) (cwV 3 hts gL_law_X8_knows rfl rfl rfl (by decide +kernel) ⟨Nat.le_of_ble_eq_true rfl, Nat.le_of_ble_eq_true rfl⟩) ⟨fun a U g mk q => by obtain ⟨q0, q1, qP, qK, qD⟩ := q; exact ⟨q0, q1, qP, va_K.moved (u := U) (U := U.calling g mk a) (Vm.Alike.refl U.vm) qK, qD⟩, va_recv hK hPc (ci := 8) (q0 := 0) rfl rfl, fun U hU hW => ⟨rfl, by rw [hU], by rw [hU]; exact hPc, va_K.moved hW.alike hK, hDc.weaken (fun _ _ _ _ => trivial)⟩⟩ rfl rfl hl.1 rfl (lv_room (Nat.le_of_ble_eq_true rfl)) dL_law_279 ⟨Nat.le_of_ble_eq_true rfl, Nat.le_of_ble_eq_true rfl⟩) hS (fun q _ h => hFc q h) hFc (fun r_16 u t H1 locs ht hvm hw hB hz1 hk1 hS => ?_)
    subst hw
    have hP1 : va_P Z.1 vwCl [] H1 := fun k q h => by simp at h
    have hD1 : va_D (va_A [(x0, .inr (8, [.ref a1, .ref a2, .ref a3, .ref a4, .ref a5, .int 0, .ref a6, .ref a7, .ref a8, .ref a9, .ref a10, .ref a11, .ref a12, .ref a13, .int 9, .int 0, .int 0])), (a1, .inr (0, [.int 0, .int 16510910, .int 0, .ref fk, .ref fq]))] H.size) [] := ⟨fun i j p q h => by simp at h, fun k q h => by simp at h⟩
    obtain ⟨hP, hD⟩ := va_join (wr := [(m0, .inr (9, [.ref b1, .ref b2, .ref b3, .ref b4, .int 0, .ref b5, .int 0, .ref b6, .ref b7, .ref b8, .int 0, .int 0, .int 0, .ref b9, .ref b10, .ref b11, .ref b12, .ref b13, .ref b14, .ref b15, .ref b16, .ref b17, .ref b18, .int 0, .ref b19, .ref b20, .ref b21, .ref b22, .ref b23, .ref b24, .ref b25]))]) (w1 := []) hP hD [0, 1] [2] rfl rfl (by decide) (by decide) hk1 hFc hP1 hD1
    clear hPc hDc hP1 hD1 hk1 hz1 hFc ht hvm
    generalize H1 = H at hP hS ⊢
    have hP : va_P Z.1 vwCl [(m0, .inr (9, [.ref b1, .ref b2, .ref b3, .ref b4, .int 0, .ref b5, .int 0, .ref b6, .ref b7, .ref b8, .int 0, .int 0, .int 0, .ref b9, .ref b10, .ref b11, .ref b12, .ref b13, .ref b14, .ref b15, .ref b16, .ref b17, .ref b18, .int 0, .ref b19, .ref b20, .ref b21, .ref b22, .ref b23, .ref b24, .ref b25]))] H := hP
    have hD : va_D A [(m0, .inr (9, [.ref b1, .ref b2, .ref b3, .ref b4, .int 0, .ref b5, .int 0, .ref b6, .ref b7, .ref b8, .int 0, .int 0, .int 0, .ref b9, .ref b10, .ref b11, .ref b12, .ref b13, .ref b14, .ref b15, .ref b16, .ref b17, .ref b18, .int 0, .ref b19, .ref b20, .ref b21, .ref b22, .ref b23, .ref b24, .ref b25]))] := hD
    refine lv_aload_n hx hb dL_law_282 rfl (lv_at hl 2 rfl) ?_
    refine lv_aload_n hx hb dL_law_283 rfl (lv_at hl 0 rfl) ?_
    refine lv_iload_n hx hb dL_law_284 rfl (lv_at hl 3 rfl) ?_
    refine lv_iconst (v := 1) hx hb dL_law_285 (by decide) ?_
    refine lv_iadd hx hb dL_law_286 ?_
    refine lv_topi (fun f_17 ef_17 => ?_)
    obtain rfl : f_17 = 1 := ef_17.trans (by decide)
    refine va_sld hx hb hX hbl hbA hS (z_in (by decide)) dL_law_287 ?_
    refine lv_topi (fun f_18 ef_18 => ?_)
    obtain rfl : f_18 = xs 1 := ef_18
    refine lv_aload_n hx hb dL_law_288 rfl (lv_at hl 0 rfl) ?_
    refine lv_iload_n hx hb dL_law_289 rfl (lv_at hl 3 rfl) ?_
    refine lv_iconst (v := 2) hx hb dL_law_290 (by decide) ?_
    refine lv_iadd hx hb dL_law_291 ?_
    refine lv_topi (fun f_19 ef_19 => ?_)
    obtain rfl : f_19 = 2 := ef_19.trans (by decide)
    refine va_sld hx hb hX hbl hbA hS (z_in (by decide)) dL_law_292 ?_
    refine lv_topi (fun f_20 ef_20 => ?_)
    obtain rfl : f_20 = xs 2 := ef_20
    refine lv_aload_n hx hb dL_law_293 rfl (lv_at hl 0 rfl) ?_
    refine lv_iload_n hx hb dL_law_294 rfl (lv_at hl 3 rfl) ?_
    refine lv_iconst (v := 3) hx hb dL_law_295 (by decide) ?_
    refine lv_iadd hx hb dL_law_296 ?_
    refine lv_topi (fun f_21 ef_21 => ?_)
    obtain rfl : f_21 = 3 := ef_21.trans (by decide)
    refine va_sld hx hb hX hbl hbA hS (z_in (by decide)) dL_law_297 ?_
    refine lv_topi (fun f_22 ef_22 => ?_)
    obtain rfl : f_22 = xs 3 := ef_22
    refine lv_if_eq (tgt := 305) hx hb dL_law_298 (by decide) (fun c9 => absurd c9 c_7) (fun _ => ?_)
    refine lv_iconst (v := 1) hx hb dL_law_301 (by decide) ?_
    refine lv_goto (tgt := 306) hx hb dL_law_302 (by decide) ?_
    have hPc := hP.sub (ws' := [(m0, .inr (9, [.ref b1, .ref b2, .ref b3, .ref b4, .int 0, .ref b5, .int 0, .ref b6, .ref b7, .ref b8, .int 0, .int 0, .int 0, .ref b9, .ref b10, .ref b11, .ref b12, .ref b13, .ref b14, .ref b15, .ref b16, .ref b17, .ref b18, .int 0, .ref b19, .ref b20, .ref b21, .ref b22, .ref b23, .ref b24, .ref b25]))]) [0] rfl
    have hDc := hD.sub (ws' := [(m0, .inr (9, [.ref b1, .ref b2, .ref b3, .ref b4, .int 0, .ref b5, .int 0, .ref b6, .ref b7, .ref b8, .int 0, .int 0, .int 0, .ref b9, .ref b10, .ref b11, .ref b12, .ref b13, .ref b14, .ref b15, .ref b16, .ref b17, .ref b18, .int 0, .ref b19, .ref b20, .ref b21, .ref b22, .ref b23, .ref b24, .ref b25]))]) [0] (by decide) rfl
    have hFc := va_free (wc := [(m0, .inr (9, [.ref b1, .ref b2, .ref b3, .ref b4, .int 0, .ref b5, .int 0, .ref b6, .ref b7, .ref b8, .int 0, .int 0, .int 0, .ref b9, .ref b10, .ref b11, .ref b12, .ref b13, .ref b14, .ref b15, .ref b16, .ref b17, .ref b18, .int 0, .ref b19, .ref b20, .ref b21, .ref b22, .ref b23, .ref b24, .ref b25]))]) hD hS hA [0] rfl
    refine va_calli (va_runV (As := [.int (xs 1), .int (xs 2), .int 1]) (rest := [.int (-1)]) ⟨hx, hb, hml, hown, hts⟩ (c_X9_knows l Z H.size m0 b1 b2 b3 b4 b5 b6 b7 b8 b9 b10 b11 b12 b13 b14 b15 b16 b17 b18 b19 b20 b21 b22 b23 b24 b25 (xs 1) (xs 2) 1) (cwV 3 hts gL_law_X9_knows rfl rfl rfl (by decide +kernel) ⟨Nat.le_of_ble_eq_true rfl, Nat.le_of_ble_eq_true rfl⟩) ⟨fun a U g mk q => by obtain ⟨q0, q1, qP, qK, qD⟩ := q; exact ⟨q0, q1, qP, va_K.moved (u := U) (U := U.calling g mk a) (Vm.Alike.refl U.vm) qK, qD⟩, va_recv hK hPc (ci := 9) (q0 := 0) rfl rfl, fun U hU hW => ⟨rfl, by rw [hU], by rw [hU]; exact hPc, va_K.moved hW.alike hK, hDc.weaken (fun _ _ _ _ => trivial)⟩⟩ rfl rfl hl.1 rfl (lv_room (Nat.le_of_ble_eq_true rfl)) dL_law_306 ⟨Nat.le_of_ble_eq_true rfl, Nat.le_of_ble_eq_true rfl⟩) hS (fun q _ h => hFc q h) hFc (fun r_23 u t H1 locs ht hvm hw hB hz1 hk1 hS => ?_)
    subst hw
    have hP1 : va_P Z.1 vwCl [] H1 := fun k q h => by simp at h
    have hD1 : va_D (va_A [(m0, .inr (9, [.ref b1, .ref b2, .ref b3, .ref b4, .int 0, .ref b5, .int 0, .ref b6, .ref b7, .ref b8, .int 0, .int 0, .int 0, .ref b9, .ref b10, .ref b11, .ref b12, .ref b13, .ref b14, .ref b15, .ref b16, .ref b17, .ref b18, .int 0, .ref b19, .ref b20, .ref b21, .ref b22, .ref b23, .ref b24, .ref b25]))] H.size) [] := ⟨fun i j p q h => by simp at h, fun k q h => by simp at h⟩
    obtain ⟨hP, hD⟩ := va_join (wr := []) (w1 := []) hP hD [0] [] rfl rfl (by decide) (by decide) hk1 hFc hP1 hD1
    clear hPc hDc hP1 hD1 hk1 hz1 hFc ht hvm
    generalize H1 = H at hP hS ⊢
    have hP : va_P Z.1 vwCl [] H := hP
    have hD : va_D A [] := hD
    refine lv_icmp_eq (tgt := 1054) hx hb dL_law_309 (by decide) (fun _ => ?_) (fun c9 => absurd c9 (by decide))
    exact law_tail C0 hAe (Nat.le_of_ble_eq_true rfl) (Nat.le_of_ble_eq_true rfl) hS (lv_sub hl [0, 3] rfl)
set_option maxHeartbeats 4000000 in
set_option maxRecDepth 100000 in
theorem law_4 {p : Program} {l : Launch} {e : Env} {s : State} {m : MethodId} {below : List Frame} {meth : Method} {c : Code} {b : Nat} {xs : Nat → Int32} (C0 : lw_At p s m meth c b 6 xs) {A : Nat → Prop} (hAe : A = fun q : Nat => s.heap.size ≤ q) (Z : gZ) (kA vA : Nat) (hK : va_K Z.1 vwCl (gT Z) s) (hG : gS kA vA A s) (x0 : Nat) (a1 : Nat) (a2 : Nat) (a3 : Nat) (a4 : Nat) (a5 : Nat) (a6 : Nat) (a7 : Nat) (a8 : Nat) (a9 : Nat) (a10 : Nat) (a11 : Nat) (a12 : Nat) (a13 : Nat) (fk : Nat) (fq : Nat) (pk : Nat) (pq : Nat) (tk : Nat) (kk : Nat) (kq : Nat) (lk : Nat) (lq : Nat) (uk : Nat) (uq : Nat) (vk : Nat) (vq : Nat) (m0 : Nat) (b1 : Nat) (b2 : Nat) (b3 : Nat) (b4 : Nat) (b5 : Nat) (b6 : Nat) (b7 : Nat) (b8 : Nat) (b9 : Nat) (b10 : Nat) (b11 : Nat) (b12 : Nat) (b13 : Nat) (b14 : Nat) (b15 : Nat) (b16 : Nat) (b17 : Nat) (b18 : Nat) (b19 : Nat) (b20 : Nat) (b21 : Nat) (b22 : Nat) (b23 : Nat) (b24 : Nat) (b25 : Nat) (fl : Nat → Int32) (hfl : ∀ j, j < 4 → fl j = -1) {H : Heap} {locs : List Loc} {ls : Array Slot} (hP : va_P Z.1 vwCl (zFull Z x0 a1 a2 a3 a4 a5 a6 a7 a8 a9 a10 a11 a12 a13 fk fq pk pq tk kk kq lk lq uk uq vk vq m0 b1 b2 b3 b4 b5 b6 b7 b8 b9 b10 b11 b12 b13 b14 b15 b16 b17 b18 b19 b20 b21 b22 b23 b24 b25 fl) H) (hD : va_D A (zFull Z x0 a1 a2 a3 a4 a5 a6 a7 a8 a9 a10 a11 a12 a13 fk fq pk pq tk kk kq lk lq uk uq vk vq m0 b1 b2 b3 b4 b5 b6 b7 b8 b9 b10 b11 b12 b13 b14 b15 b16 b17 b18 b19 b20 b21 b22 b23 b24 b25 fl)) (hS : va_S A s.heap H locs) (hl : lv_has ls 4 [(0, .ref b), (1, .ref x0), (2, .ref m0), (3, .int 0)]) : W p l e room_1 s m #[Value.ref b] below meth c H locs 599000 7300000 (lw_Z below #[Value.ref b] s) (F0 m 314 ls []) := by
  obtain ⟨hx, hb, hr, hml, hown0, hts0, hX, hbl, hlocks, hgv⟩ := id C0
  have hown : s.vm.findClass RL = some m.cls := hown0
  have hts : ∀ w ∈ wsL_law, w.before #[Value.ref b] s = true := fun w h => hts0 w (wsL_law_in w h)
  have hA : ∀ q : Nat, s.heap.size ≤ q → A q := by rw [hAe]; exact fun _ h => h
  have hbA : ¬ A b := by rw [hAe]; exact Nat.not_le.mpr hbl
  have hP := hP.sub (ws' := [(x0, .inr (8, [.ref a1, .ref a2, .ref a3, .ref a4, .ref a5, .int 0, .ref a6, .ref a7, .ref a8, .ref a9, .ref a10, .ref a11, .ref a12, .ref a13, .int 9, .int 0, .int 0])), (a1, .inr (0, [.int 0, .int 16510910, .int 0, .ref fk, .ref fq])), (m0, .inr (9, [.ref b1, .ref b2, .ref b3, .ref b4, .int 0, .ref b5, .int 0, .ref b6, .ref b7, .ref b8, .int 0, .int 0, .int 0, .ref b9, .ref b10, .ref b11, .ref b12, .ref b13, .ref b14, .ref b15, .ref b16, .ref b17, .ref b18, .int 0, .ref b19, .ref b20, .ref b21, .ref b22, .ref b23, .ref b24, .ref b25]))]) [0, 1, 22] rfl
  have hD := hD.sub (ws' := [(x0, .inr (8, [.ref a1, .ref a2, .ref a3, .ref a4, .ref a5, .int 0, .ref a6, .ref a7, .ref a8, .ref a9, .ref a10, .ref a11, .ref a12, .ref a13, .int 9, .int 0, .int 0])), (a1, .inr (0, [.int 0, .int 16510910, .int 0, .ref fk, .ref fq])), (m0, .inr (9, [.ref b1, .ref b2, .ref b3, .ref b4, .int 0, .ref b5, .int 0, .ref b6, .ref b7, .ref b8, .int 0, .int 0, .int 0, .ref b9, .ref b10, .ref b11, .ref b12, .ref b13, .ref b14, .ref b15, .ref b16, .ref b17, .ref b18, .int 0, .ref b19, .ref b20, .ref b21, .ref b22, .ref b23, .ref b24, .ref b25]))]) [0, 1, 22] (by decide) rfl
  refine lv_aload_n hx hb dL_law_314 rfl (lv_at hl 1 rfl) ?_
  refine lv_aload_n hx hb dL_law_315 rfl (lv_at hl 0 rfl) ?_
  refine lv_iload_n hx hb dL_law_316 rfl (lv_at hl 3 rfl) ?_
  refine lv_iconst (v := 1) hx hb dL_law_317 (by decide) ?_
  refine lv_iadd hx hb dL_law_318 ?_
  refine lv_topi (fun f_1 ef_1 => ?_)
  obtain rfl : f_1 = 1 := ef_1.trans (by decide)
  refine va_sld hx hb hX hbl hbA hS (z_in (by decide)) dL_law_319 ?_
  refine lv_topi (fun f_2 ef_2 => ?_)
  obtain rfl : f_2 = xs 1 := ef_2
  refine lv_aload_n hx hb dL_law_320 rfl (lv_at hl 0 rfl) ?_
  refine lv_iload_n hx hb dL_law_321 rfl (lv_at hl 3 rfl) ?_
  refine lv_iconst (v := 2) hx hb dL_law_322 (by decide) ?_
  refine lv_iadd hx hb dL_law_323 ?_
  refine lv_topi (fun f_3 ef_3 => ?_)
  obtain rfl : f_3 = 2 := ef_3.trans (by decide)
  refine va_sld hx hb hX hbl hbA hS (z_in (by decide)) dL_law_324 ?_
  refine lv_topi (fun f_4 ef_4 => ?_)
  obtain rfl : f_4 = xs 2 := ef_4
  have hPc := hP.sub (ws' := [(x0, .inr (8, [.ref a1, .ref a2, .ref a3, .ref a4, .ref a5, .int 0, .ref a6, .ref a7, .ref a8, .ref a9, .ref a10, .ref a11, .ref a12, .ref a13, .int 9, .int 0, .int 0])), (a1, .inr (0, [.int 0, .int 16510910, .int 0, .ref fk, .ref fq]))]) [0, 1] rfl
  have hDc := hD.sub (ws' := [(x0, .inr (8, [.ref a1, .ref a2, .ref a3, .ref a4, .ref a5, .int 0, .ref a6, .ref a7, .ref a8, .ref a9, .ref a10, .ref a11, .ref a12, .ref a13, .int 9, .int 0, .int 0])), (a1, .inr (0, [.int 0, .int 16510910, .int 0, .ref fk, .ref fq]))]) [0, 1] (by decide) rfl
  have hFc := va_free (wc := [(x0, .inr (8, [.ref a1, .ref a2, .ref a3, .ref a4, .ref a5, .int 0, .ref a6, .ref a7, .ref a8, .ref a9, .ref a10, .ref a11, .ref a12, .ref a13, .int 9, .int 0, .int 0])), (a1, .inr (0, [.int 0, .int 16510910, .int 0, .ref fk, .ref fq]))]) hD hS hA [0, 1] rfl
  refine va_calli (va_runV (As := [.int (xs 1), .int (xs 2)]) (rest := []) ⟨hx, hb, hml, hown, hts⟩ (c_X8_ask l Z H.size x0 a1 a2 a3 a4 a5 a6 a7 a8 a9 a10 a11 a12 a13 fk fq (xs 1) (xs 2)) (cwV 2 hts gL_law_X8_ask rfl rfl rfl (by decide +kernel) ⟨Nat.le_of_ble_eq_true rfl, Nat.le_of_ble_eq_true rfl⟩) ⟨fun a U g mk q => by obtain ⟨q0, q1, qP, qK, qD⟩ := q; exact ⟨q0, q1, qP, va_K.moved (u := U) (U := U.calling g mk a) (Vm.Alike.refl U.vm) qK, qD⟩, va_recv hK hPc (ci := 8) (q0 := 0) rfl rfl, fun U hU hW => ⟨rfl, by rw [hU], by rw [hU]; exact hPc, va_K.moved hW.alike hK, hDc.weaken (fun _ _ _ _ => trivial)⟩⟩ rfl rfl hl.1 rfl (lv_room (Nat.le_of_ble_eq_true rfl)) dL_law_325 ⟨Nat.le_of_ble_eq_true rfl, Nat.le_of_ble_eq_true rfl⟩) hS (fun q _ h => hFc q h) hFc (fun r_5 u t H1 locs ht hvm hw hB hz1 hk1 hS => ?_)
  subst hw
  have hP1 : va_P Z.1 vwCl [] H1 := fun k q h => by simp at h
  have hD1 : va_D (va_A [(x0, .inr (8, [.ref a1, .ref a2, .ref a3, .ref a4, .ref a5, .int 0, .ref a6, .ref a7, .ref a8, .ref a9, .ref a10, .ref a11, .ref a12, .ref a13, .int 9, .int 0, .int 0])), (a1, .inr (0, [.int 0, .int 16510910, .int 0, .ref fk, .ref fq]))] H.size) [] := ⟨fun i j p q h => by simp at h, fun k q h => by simp at h⟩
  obtain ⟨hP, hD⟩ := va_join (wr := [(m0, .inr (9, [.ref b1, .ref b2, .ref b3, .ref b4, .int 0, .ref b5, .int 0, .ref b6, .ref b7, .ref b8, .int 0, .int 0, .int 0, .ref b9, .ref b10, .ref b11, .ref b12, .ref b13, .ref b14, .ref b15, .ref b16, .ref b17, .ref b18, .int 0, .ref b19, .ref b20, .ref b21, .ref b22, .ref b23, .ref b24, .ref b25]))]) (w1 := []) hP hD [0, 1] [2] rfl rfl (by decide) (by decide) hk1 hFc hP1 hD1
  clear hPc hDc hP1 hD1 hk1 hz1 hFc ht hvm
  generalize H1 = H at hP hS ⊢
  have hP : va_P Z.1 vwCl [(m0, .inr (9, [.ref b1, .ref b2, .ref b3, .ref b4, .int 0, .ref b5, .int 0, .ref b6, .ref b7, .ref b8, .int 0, .int 0, .int 0, .ref b9, .ref b10, .ref b11, .ref b12, .ref b13, .ref b14, .ref b15, .ref b16, .ref b17, .ref b18, .int 0, .ref b19, .ref b20, .ref b21, .ref b22, .ref b23, .ref b24, .ref b25]))] H := hP
  have hD : va_D A [(m0, .inr (9, [.ref b1, .ref b2, .ref b3, .ref b4, .int 0, .ref b5, .int 0, .ref b6, .ref b7, .ref b8, .int 0, .int 0, .int 0, .ref b9, .ref b10, .ref b11, .ref b12, .ref b13, .ref b14, .ref b15, .ref b16, .ref b17, .ref b18, .int 0, .ref b19, .ref b20, .ref b21, .ref b22, .ref b23, .ref b24, .ref b25]))] := hD
  refine lv_aload_n hx hb dL_law_328 rfl (lv_at hl 2 rfl) ?_
  refine lv_aload_n hx hb dL_law_329 rfl (lv_at hl 0 rfl) ?_
  refine lv_iload_n hx hb dL_law_330 rfl (lv_at hl 3 rfl) ?_
  refine lv_iconst (v := 1) hx hb dL_law_331 (by decide) ?_
  refine lv_iadd hx hb dL_law_332 ?_
  refine lv_topi (fun f_6 ef_6 => ?_)
  obtain rfl : f_6 = 1 := ef_6.trans (by decide)
  refine va_sld hx hb hX hbl hbA hS (z_in (by decide)) dL_law_333 ?_
  refine lv_topi (fun f_7 ef_7 => ?_)
  obtain rfl : f_7 = xs 1 := ef_7
  refine lv_aload_n hx hb dL_law_334 rfl (lv_at hl 0 rfl) ?_
  refine lv_iload_n hx hb dL_law_335 rfl (lv_at hl 3 rfl) ?_
  refine lv_iconst (v := 2) hx hb dL_law_336 (by decide) ?_
  refine lv_iadd hx hb dL_law_337 ?_
  refine lv_topi (fun f_8 ef_8 => ?_)
  obtain rfl : f_8 = 2 := ef_8.trans (by decide)
  refine va_sld hx hb hX hbl hbA hS (z_in (by decide)) dL_law_338 ?_
  refine lv_topi (fun f_9 ef_9 => ?_)
  obtain rfl : f_9 = xs 2 := ef_9
  have hPc := hP.sub (ws' := [(m0, .inr (9, [.ref b1, .ref b2, .ref b3, .ref b4, .int 0, .ref b5, .int 0, .ref b6, .ref b7, .ref b8, .int 0, .int 0, .int 0, .ref b9, .ref b10, .ref b11, .ref b12, .ref b13, .ref b14, .ref b15, .ref b16, .ref b17, .ref b18, .int 0, .ref b19, .ref b20, .ref b21, .ref b22, .ref b23, .ref b24, .ref b25]))]) [0] rfl
  have hDc := hD.sub (ws' := [(m0, .inr (9, [.ref b1, .ref b2, .ref b3, .ref b4, .int 0, .ref b5, .int 0, .ref b6, .ref b7, .ref b8, .int 0, .int 0, .int 0, .ref b9, .ref b10, .ref b11, .ref b12, .ref b13, .ref b14, .ref b15, .ref b16, .ref b17, .ref b18, .int 0, .ref b19, .ref b20, .ref b21, .ref b22, .ref b23, .ref b24, .ref b25]))]) [0] (by decide) rfl
  have hFc := va_free (wc := [(m0, .inr (9, [.ref b1, .ref b2, .ref b3, .ref b4, .int 0, .ref b5, .int 0, .ref b6, .ref b7, .ref b8, .int 0, .int 0, .int 0, .ref b9, .ref b10, .ref b11, .ref b12, .ref b13, .ref b14, .ref b15, .ref b16, .ref b17, .ref b18, .int 0, .ref b19, .ref b20, .ref b21, .ref b22, .ref b23, .ref b24, .ref b25]))]) hD hS hA [0] rfl
  refine va_calli (va_runV (As := [.int (xs 1), .int (xs 2)]) (rest := [.int (-1)]) ⟨hx, hb, hml, hown, hts⟩ (c_X9_ask l Z H.size m0 b1 b2 b3 b4 b5 b6 b7 b8 b9 b10 b11 b12 b13 b14 b15 b16 b17 b18 b19 b20 b21 b22 b23 b24 b25 (xs 1) (xs 2)) (cwV 2 hts gL_law_X9_ask rfl rfl rfl (by decide +kernel) ⟨Nat.le_of_ble_eq_true rfl, Nat.le_of_ble_eq_true rfl⟩) ⟨fun a U g mk q => by obtain ⟨q0, q1, qP, qK, qD⟩ := q; exact ⟨q0, q1, qP, va_K.moved (u := U) (U := U.calling g mk a) (Vm.Alike.refl U.vm) qK, qD⟩, va_recv hK hPc (ci := 9) (q0 := 0) rfl rfl, fun U hU hW => ⟨rfl, by rw [hU], by rw [hU]; exact hPc, va_K.moved hW.alike hK, hDc.weaken (fun _ _ _ _ => trivial)⟩⟩ rfl rfl hl.1 rfl (lv_room (Nat.le_of_ble_eq_true rfl)) dL_law_339 ⟨Nat.le_of_ble_eq_true rfl, Nat.le_of_ble_eq_true rfl⟩) hS (fun q _ h => hFc q h) hFc (fun r_10 u t H1 locs ht hvm hw hB hz1 hk1 hS => ?_)
  subst hw
  have hP1 : va_P Z.1 vwCl [] H1 := fun k q h => by simp at h
  have hD1 : va_D (va_A [(m0, .inr (9, [.ref b1, .ref b2, .ref b3, .ref b4, .int 0, .ref b5, .int 0, .ref b6, .ref b7, .ref b8, .int 0, .int 0, .int 0, .ref b9, .ref b10, .ref b11, .ref b12, .ref b13, .ref b14, .ref b15, .ref b16, .ref b17, .ref b18, .int 0, .ref b19, .ref b20, .ref b21, .ref b22, .ref b23, .ref b24, .ref b25]))] H.size) [] := ⟨fun i j p q h => by simp at h, fun k q h => by simp at h⟩
  obtain ⟨hP, hD⟩ := va_join (wr := []) (w1 := []) hP hD [0] [] rfl rfl (by decide) (by decide) hk1 hFc hP1 hD1
  clear hPc hDc hP1 hD1 hk1 hz1 hFc ht hvm
  generalize H1 = H at hP hS ⊢
  have hP : va_P Z.1 vwCl [] H := hP
  have hD : va_D A [] := hD
  refine lv_icmp_eq (tgt := 1054) hx hb dL_law_342 (by decide) (fun _ => ?_) (fun c9 => absurd c9 (by decide))
  exact law_tail C0 hAe (Nat.le_of_ble_eq_true rfl) (Nat.le_of_ble_eq_true rfl) hS (lv_sub hl [0, 3] rfl)
set_option maxHeartbeats 4000000 in
set_option maxRecDepth 100000 in
theorem law_5 {p : Program} {l : Launch} {e : Env} {s : State} {m : MethodId} {below : List Frame} {meth : Method} {c : Code} {b : Nat} {xs : Nat → Int32} (C0 : lw_At p s m meth c b 6 xs) {A : Nat → Prop} (hAe : A = fun q : Nat => s.heap.size ≤ q) (Z : gZ) (kA vA : Nat) (hK : va_K Z.1 vwCl (gT Z) s) (hG : gS kA vA A s) (x0 : Nat) (a1 : Nat) (a2 : Nat) (a3 : Nat) (a4 : Nat) (a5 : Nat) (a6 : Nat) (a7 : Nat) (a8 : Nat) (a9 : Nat) (a10 : Nat) (a11 : Nat) (a12 : Nat) (a13 : Nat) (fk : Nat) (fq : Nat) (pk : Nat) (pq : Nat) (tk : Nat) (kk : Nat) (kq : Nat) (lk : Nat) (lq : Nat) (uk : Nat) (uq : Nat) (vk : Nat) (vq : Nat) (m0 : Nat) (b1 : Nat) (b2 : Nat) (b3 : Nat) (b4 : Nat) (b5 : Nat) (b6 : Nat) (b7 : Nat) (b8 : Nat) (b9 : Nat) (b10 : Nat) (b11 : Nat) (b12 : Nat) (b13 : Nat) (b14 : Nat) (b15 : Nat) (b16 : Nat) (b17 : Nat) (b18 : Nat) (b19 : Nat) (b20 : Nat) (b21 : Nat) (b22 : Nat) (b23 : Nat) (b24 : Nat) (b25 : Nat) (fl : Nat → Int32) (hfl : ∀ j, j < 4 → fl j = -1) {H : Heap} {locs : List Loc} {ls : Array Slot} (hP : va_P Z.1 vwCl (zFull Z x0 a1 a2 a3 a4 a5 a6 a7 a8 a9 a10 a11 a12 a13 fk fq pk pq tk kk kq lk lq uk uq vk vq m0 b1 b2 b3 b4 b5 b6 b7 b8 b9 b10 b11 b12 b13 b14 b15 b16 b17 b18 b19 b20 b21 b22 b23 b24 b25 fl) H) (hD : va_D A (zFull Z x0 a1 a2 a3 a4 a5 a6 a7 a8 a9 a10 a11 a12 a13 fk fq pk pq tk kk kq lk lq uk uq vk vq m0 b1 b2 b3 b4 b5 b6 b7 b8 b9 b10 b11 b12 b13 b14 b15 b16 b17 b18 b19 b20 b21 b22 b23 b24 b25 fl)) (hS : va_S A s.heap H locs) (hl : lv_has ls 4 [(0, .ref b), (1, .ref x0), (2, .ref m0), (3, .int 0)]) : W p l e room_1 s m #[Value.ref b] below meth c H locs 599000 7300000 (lw_Z below #[Value.ref b] s) (F0 m 347 ls []) := by
  obtain ⟨hx, hb, hr, hml, hown0, hts0, hX, hbl, hlocks, hgv⟩ := id C0
  have hown : s.vm.findClass RL = some m.cls := hown0
  have hts : ∀ w ∈ wsL_law, w.before #[Value.ref b] s = true := fun w h => hts0 w (wsL_law_in w h)
  have hA : ∀ q : Nat, s.heap.size ≤ q → A q := by rw [hAe]; exact fun _ h => h
  have hbA : ¬ A b := by rw [hAe]; exact Nat.not_le.mpr hbl
  have hP := hP.sub (ws' := [(x0, .inr (8, [.ref a1, .ref a2, .ref a3, .ref a4, .ref a5, .int 0, .ref a6, .ref a7, .ref a8, .ref a9, .ref a10, .ref a11, .ref a12, .ref a13, .int 9, .int 0, .int 0])), (a1, .inr (0, [.int 0, .int 16510910, .int 0, .ref fk, .ref fq])), (m0, .inr (9, [.ref b1, .ref b2, .ref b3, .ref b4, .int 0, .ref b5, .int 0, .ref b6, .ref b7, .ref b8, .int 0, .int 0, .int 0, .ref b9, .ref b10, .ref b11, .ref b12, .ref b13, .ref b14, .ref b15, .ref b16, .ref b17, .ref b18, .int 0, .ref b19, .ref b20, .ref b21, .ref b22, .ref b23, .ref b24, .ref b25])), (b2, .inl (Z.2 0, 5, .inl (fun _ => 0))), (b4, .inl (Z.2 0, 5, .inl (fun _ => 0))), (b6, .inl (Z.2 0, 5, .inl (fun _ => 0))), (b7, .inl (Z.2 0, 5, .inl (fun _ => 0)))]) [0, 1, 22, 24, 26, 28, 29] rfl
  have hD := hD.sub (ws' := [(x0, .inr (8, [.ref a1, .ref a2, .ref a3, .ref a4, .ref a5, .int 0, .ref a6, .ref a7, .ref a8, .ref a9, .ref a10, .ref a11, .ref a12, .ref a13, .int 9, .int 0, .int 0])), (a1, .inr (0, [.int 0, .int 16510910, .int 0, .ref fk, .ref fq])), (m0, .inr (9, [.ref b1, .ref b2, .ref b3, .ref b4, .int 0, .ref b5, .int 0, .ref b6, .ref b7, .ref b8, .int 0, .int 0, .int 0, .ref b9, .ref b10, .ref b11, .ref b12, .ref b13, .ref b14, .ref b15, .ref b16, .ref b17, .ref b18, .int 0, .ref b19, .ref b20, .ref b21, .ref b22, .ref b23, .ref b24, .ref b25])), (b2, .inl (Z.2 0, 5, .inl (fun _ => 0))), (b4, .inl (Z.2 0, 5, .inl (fun _ => 0))), (b6, .inl (Z.2 0, 5, .inl (fun _ => 0))), (b7, .inl (Z.2 0, 5, .inl (fun _ => 0)))]) [0, 1, 22, 24, 26, 28, 29] (by decide) rfl
  refine lv_aload_n hx hb dL_law_347 rfl (lv_at hl 1 rfl) ?_
  have hPc := hP.sub (ws' := [(x0, .inr (8, [.ref a1, .ref a2, .ref a3, .ref a4, .ref a5, .int 0, .ref a6, .ref a7, .ref a8, .ref a9, .ref a10, .ref a11, .ref a12, .ref a13, .int 9, .int 0, .int 0])), (a1, .inr (0, [.int 0, .int 16510910, .int 0, .ref fk, .ref fq]))]) [0, 1] rfl
  have hDc := hD.sub (ws' := [(x0, .inr (8, [.ref a1, .ref a2, .ref a3, .ref a4, .ref a5, .int 0, .ref a6, .ref a7, .ref a8, .ref a9, .ref a10, .ref a11, .ref a12, .ref a13, .int 9, .int 0, .int 0])), (a1, .inr (0, [.int 0, .int 16510910, .int 0, .ref fk, .ref fq]))]) [0, 1] (by decide) rfl
  have hFc := va_free (wc := [(x0, .inr (8, [.ref a1, .ref a2, .ref a3, .ref a4, .ref a5, .int 0, .ref a6, .ref a7, .ref a8, .ref a9, .ref a10, .ref a11, .ref a12, .ref a13, .int 9, .int 0, .int 0])), (a1, .inr (0, [.int 0, .int 16510910, .int 0, .ref fk, .ref fq]))]) hD hS hA [0, 1] rfl
  refine va_calli (va_runV (As := []) (rest := []) ⟨hx, hb, hml, hown, hts⟩ (c_X8_week l Z H.size x0 a1 a2 a3 a4 a5 a6 a7 a8 a9 a10 a11 a12 a13 fk fq) (cwV 0 hts gL_law_X8_week rfl rfl rfl (by decide +kernel) ⟨Nat.le_of_ble_eq_true rfl, Nat.le_of_ble_eq_true rfl⟩) ⟨fun a U g mk q => by obtain ⟨q0, q1, qP, qK, qD⟩ := q; exact ⟨q0, q1, qP, va_K.moved (u := U) (U := U.calling g mk a) (Vm.Alike.refl U.vm) qK, qD⟩, va_recv hK hPc (ci := 8) (q0 := 0) rfl rfl, fun U hU hW => ⟨rfl, by rw [hU], by rw [hU]; exact hPc, va_K.moved hW.alike hK, hDc.weaken (fun _ _ _ _ => trivial)⟩⟩ rfl rfl hl.1 rfl (lv_room (Nat.le_of_ble_eq_true rfl)) dL_law_348 ⟨Nat.le_of_ble_eq_true rfl, Nat.le_of_ble_eq_true rfl⟩) hS (fun q _ h => hFc q h) hFc (fun r_1 u t H1 locs ht hvm hw hB hz1 hk1 hS => ?_)
  subst hw
  have hP1 : va_P Z.1 vwCl [] H1 := fun k q h => by simp at h
  have hD1 : va_D (va_A [(x0, .inr (8, [.ref a1, .ref a2, .ref a3, .ref a4, .ref a5, .int 0, .ref a6, .ref a7, .ref a8, .ref a9, .ref a10, .ref a11, .ref a12, .ref a13, .int 9, .int 0, .int 0])), (a1, .inr (0, [.int 0, .int 16510910, .int 0, .ref fk, .ref fq]))] H.size) [] := ⟨fun i j p q h => by simp at h, fun k q h => by simp at h⟩
  obtain ⟨hP, hD⟩ := va_join (wr := [(m0, .inr (9, [.ref b1, .ref b2, .ref b3, .ref b4, .int 0, .ref b5, .int 0, .ref b6, .ref b7, .ref b8, .int 0, .int 0, .int 0, .ref b9, .ref b10, .ref b11, .ref b12, .ref b13, .ref b14, .ref b15, .ref b16, .ref b17, .ref b18, .int 0, .ref b19, .ref b20, .ref b21, .ref b22, .ref b23, .ref b24, .ref b25])), (b2, .inl (Z.2 0, 5, .inl (fun _ => 0))), (b4, .inl (Z.2 0, 5, .inl (fun _ => 0))), (b6, .inl (Z.2 0, 5, .inl (fun _ => 0))), (b7, .inl (Z.2 0, 5, .inl (fun _ => 0)))]) (w1 := []) hP hD [0, 1] [2, 3, 4, 5, 6] rfl rfl (by decide) (by decide) hk1 hFc hP1 hD1
  clear hPc hDc hP1 hD1 hk1 hz1 hFc ht hvm
  generalize H1 = H at hP hS ⊢
  have hP : va_P Z.1 vwCl [(m0, .inr (9, [.ref b1, .ref b2, .ref b3, .ref b4, .int 0, .ref b5, .int 0, .ref b6, .ref b7, .ref b8, .int 0, .int 0, .int 0, .ref b9, .ref b10, .ref b11, .ref b12, .ref b13, .ref b14, .ref b15, .ref b16, .ref b17, .ref b18, .int 0, .ref b19, .ref b20, .ref b21, .ref b22, .ref b23, .ref b24, .ref b25])), (b2, .inl (Z.2 0, 5, .inl (fun _ => 0))), (b4, .inl (Z.2 0, 5, .inl (fun _ => 0))), (b6, .inl (Z.2 0, 5, .inl (fun _ => 0))), (b7, .inl (Z.2 0, 5, .inl (fun _ => 0)))] H := hP
  have hD : va_D A [(m0, .inr (9, [.ref b1, .ref b2, .ref b3, .ref b4, .int 0, .ref b5, .int 0, .ref b6, .ref b7, .ref b8, .int 0, .int 0, .int 0, .ref b9, .ref b10, .ref b11, .ref b12, .ref b13, .ref b14, .ref b15, .ref b16, .ref b17, .ref b18, .int 0, .ref b19, .ref b20, .ref b21, .ref b22, .ref b23, .ref b24, .ref b25])), (b2, .inl (Z.2 0, 5, .inl (fun _ => 0))), (b4, .inl (Z.2 0, 5, .inl (fun _ => 0))), (b6, .inl (Z.2 0, 5, .inl (fun _ => 0))), (b7, .inl (Z.2 0, 5, .inl (fun _ => 0)))] := hD
  refine lv_aload_n hx hb dL_law_351 rfl (lv_at hl 2 rfl) ?_
  have hPc := hP.sub (ws' := [(m0, .inr (9, [.ref b1, .ref b2, .ref b3, .ref b4, .int 0, .ref b5, .int 0, .ref b6, .ref b7, .ref b8, .int 0, .int 0, .int 0, .ref b9, .ref b10, .ref b11, .ref b12, .ref b13, .ref b14, .ref b15, .ref b16, .ref b17, .ref b18, .int 0, .ref b19, .ref b20, .ref b21, .ref b22, .ref b23, .ref b24, .ref b25])), (b2, .inl (Z.2 0, 5, .inl (fun _ => 0))), (b4, .inl (Z.2 0, 5, .inl (fun _ => 0))), (b6, .inl (Z.2 0, 5, .inl (fun _ => 0))), (b7, .inl (Z.2 0, 5, .inl (fun _ => 0)))]) [0, 1, 2, 3, 4] rfl
  have hDc := hD.sub (ws' := [(m0, .inr (9, [.ref b1, .ref b2, .ref b3, .ref b4, .int 0, .ref b5, .int 0, .ref b6, .ref b7, .ref b8, .int 0, .int 0, .int 0, .ref b9, .ref b10, .ref b11, .ref b12, .ref b13, .ref b14, .ref b15, .ref b16, .ref b17, .ref b18, .int 0, .ref b19, .ref b20, .ref b21, .ref b22, .ref b23, .ref b24, .ref b25])), (b2, .inl (Z.2 0, 5, .inl (fun _ => 0))), (b4, .inl (Z.2 0, 5, .inl (fun _ => 0))), (b6, .inl (Z.2 0, 5, .inl (fun _ => 0))), (b7, .inl (Z.2 0, 5, .inl (fun _ => 0)))]) [0, 1, 2, 3, 4] (by decide) rfl
  have hFc := va_free (wc := [(m0, .inr (9, [.ref b1, .ref b2, .ref b3, .ref b4, .int 0, .ref b5, .int 0, .ref b6, .ref b7, .ref b8, .int 0, .int 0, .int 0, .ref b9, .ref b10, .ref b11, .ref b12, .ref b13, .ref b14, .ref b15, .ref b16, .ref b17, .ref b18, .int 0, .ref b19, .ref b20, .ref b21, .ref b22, .ref b23, .ref b24, .ref b25])), (b2, .inl (Z.2 0, 5, .inl (fun _ => 0))), (b4, .inl (Z.2 0, 5, .inl (fun _ => 0))), (b6, .inl (Z.2 0, 5, .inl (fun _ => 0))), (b7, .inl (Z.2 0, 5, .inl (fun _ => 0)))]) hD hS hA [0, 1, 2, 3, 4] rfl
  refine va_calli (va_runV (As := []) (rest := [.int 0]) ⟨hx, hb, hml, hown, hts⟩ (c_X9_week l Z H.size m0 b1 b2 b3 b4 b5 b6 b7 b8 b9 b10 b11 b12 b13 b14 b15 b16 b17 b18 b19 b20 b21 b22 b23 b24 b25 (fun _ => 0) (fun _ => 0) (fun _ => 0) (fun _ => 0)) (cwV 0 hts gL_law_X9_week rfl rfl rfl (by decide +kernel) ⟨Nat.le_of_ble_eq_true rfl, Nat.le_of_ble_eq_true rfl⟩) ⟨fun a U g mk q => by obtain ⟨q0, q1, qP, qK, qD⟩ := q; exact ⟨q0, q1, qP, va_K.moved (u := U) (U := U.calling g mk a) (Vm.Alike.refl U.vm) qK, qD⟩, va_recv hK hPc (ci := 9) (q0 := 0) rfl rfl, fun U hU hW => ⟨rfl, by rw [hU], by rw [hU]; exact hPc, va_K.moved hW.alike hK, hDc.weaken (fun _ _ _ _ => trivial)⟩⟩ rfl rfl hl.1 rfl (lv_room (Nat.le_of_ble_eq_true rfl)) dL_law_352 ⟨Nat.le_of_ble_eq_true rfl, Nat.le_of_ble_eq_true rfl⟩) hS (fun q _ h => hFc q h) hFc (fun r_2 u t H1 locs ht hvm hw hB hz1 hk1 hS => ?_)
  subst hw
  have hP1 : va_P Z.1 vwCl [] H1 := fun k q h => by simp at h
  have hD1 : va_D (va_A [(m0, .inr (9, [.ref b1, .ref b2, .ref b3, .ref b4, .int 0, .ref b5, .int 0, .ref b6, .ref b7, .ref b8, .int 0, .int 0, .int 0, .ref b9, .ref b10, .ref b11, .ref b12, .ref b13, .ref b14, .ref b15, .ref b16, .ref b17, .ref b18, .int 0, .ref b19, .ref b20, .ref b21, .ref b22, .ref b23, .ref b24, .ref b25])), (b2, .inl (Z.2 0, 5, .inl (fun _ => 0))), (b4, .inl (Z.2 0, 5, .inl (fun _ => 0))), (b6, .inl (Z.2 0, 5, .inl (fun _ => 0))), (b7, .inl (Z.2 0, 5, .inl (fun _ => 0)))] H.size) [] := ⟨fun i j p q h => by simp at h, fun k q h => by simp at h⟩
  obtain ⟨hP, hD⟩ := va_join (wr := []) (w1 := []) hP hD [0, 1, 2, 3, 4] [] rfl rfl (by decide) (by decide) hk1 hFc hP1 hD1
  clear hPc hDc hP1 hD1 hk1 hz1 hFc ht hvm
  generalize H1 = H at hP hS ⊢
  have hP : va_P Z.1 vwCl [] H := hP
  have hD : va_D A [] := hD
  refine lv_icmp_eq (tgt := 1054) hx hb dL_law_355 (by decide) (fun _ => ?_) (fun c9 => absurd c9 (by decide))
  exact law_tail C0 hAe (Nat.le_of_ble_eq_true rfl) (Nat.le_of_ble_eq_true rfl) hS (lv_sub hl [0, 3] rfl)
set_option maxHeartbeats 4000000 in
set_option maxRecDepth 100000 in
theorem law_6 {p : Program} {l : Launch} {e : Env} {s : State} {m : MethodId} {below : List Frame} {meth : Method} {c : Code} {b : Nat} {xs : Nat → Int32} (C0 : lw_At p s m meth c b 6 xs) {A : Nat → Prop} (hAe : A = fun q : Nat => s.heap.size ≤ q) (Z : gZ) (kA vA : Nat) (hK : va_K Z.1 vwCl (gT Z) s) (hG : gS kA vA A s) (x0 : Nat) (a1 : Nat) (a2 : Nat) (a3 : Nat) (a4 : Nat) (a5 : Nat) (a6 : Nat) (a7 : Nat) (a8 : Nat) (a9 : Nat) (a10 : Nat) (a11 : Nat) (a12 : Nat) (a13 : Nat) (fk : Nat) (fq : Nat) (pk : Nat) (pq : Nat) (tk : Nat) (kk : Nat) (kq : Nat) (lk : Nat) (lq : Nat) (uk : Nat) (uq : Nat) (vk : Nat) (vq : Nat) (m0 : Nat) (b1 : Nat) (b2 : Nat) (b3 : Nat) (b4 : Nat) (b5 : Nat) (b6 : Nat) (b7 : Nat) (b8 : Nat) (b9 : Nat) (b10 : Nat) (b11 : Nat) (b12 : Nat) (b13 : Nat) (b14 : Nat) (b15 : Nat) (b16 : Nat) (b17 : Nat) (b18 : Nat) (b19 : Nat) (b20 : Nat) (b21 : Nat) (b22 : Nat) (b23 : Nat) (b24 : Nat) (b25 : Nat) (fl : Nat → Int32) (hfl : ∀ j, j < 4 → fl j = -1) {H : Heap} {locs : List Loc} {ls : Array Slot} (hP : va_P Z.1 vwCl (zFull Z x0 a1 a2 a3 a4 a5 a6 a7 a8 a9 a10 a11 a12 a13 fk fq pk pq tk kk kq lk lq uk uq vk vq m0 b1 b2 b3 b4 b5 b6 b7 b8 b9 b10 b11 b12 b13 b14 b15 b16 b17 b18 b19 b20 b21 b22 b23 b24 b25 fl) H) (hD : va_D A (zFull Z x0 a1 a2 a3 a4 a5 a6 a7 a8 a9 a10 a11 a12 a13 fk fq pk pq tk kk kq lk lq uk uq vk vq m0 b1 b2 b3 b4 b5 b6 b7 b8 b9 b10 b11 b12 b13 b14 b15 b16 b17 b18 b19 b20 b21 b22 b23 b24 b25 fl)) (hS : va_S A s.heap H locs) (hl : lv_has ls 4 [(0, .ref b), (1, .ref x0), (2, .ref m0), (3, .int 0)]) : W p l e room_1 s m #[Value.ref b] below meth c H locs 599000 7300000 (lw_Z below #[Value.ref b] s) (F0 m 360 ls []) := by
  obtain ⟨hx, hb, hr, hml, hown0, hts0, hX, hbl, hlocks, hgv⟩ := id C0
  have hown : s.vm.findClass RL = some m.cls := hown0
  have hts : ∀ w ∈ wsL_law, w.before #[Value.ref b] s = true := fun w h => hts0 w (wsL_law_in w h)
  have hA : ∀ q : Nat, s.heap.size ≤ q → A q := by rw [hAe]; exact fun _ h => h
  have hbA : ¬ A b := by rw [hAe]; exact Nat.not_le.mpr hbl
  have hP := hP.sub (ws' := [(x0, .inr (8, [.ref a1, .ref a2, .ref a3, .ref a4, .ref a5, .int 0, .ref a6, .ref a7, .ref a8, .ref a9, .ref a10, .ref a11, .ref a12, .ref a13, .int 9, .int 0, .int 0])), (a3, .inr (5, [.int 0, .int 0, .ref tk])), (tk, .inl (Z.2 1, 80, .inl (fun _ => 0))), (m0, .inr (9, [.ref b1, .ref b2, .ref b3, .ref b4, .int 0, .ref b5, .int 0, .ref b6, .ref b7, .ref b8, .int 0, .int 0, .int 0, .ref b9, .ref b10, .ref b11, .ref b12, .ref b13, .ref b14, .ref b15, .ref b16, .ref b17, .ref b18, .int 0, .ref b19, .ref b20, .ref b21, .ref b22, .ref b23, .ref b24, .ref b25])), (b8, .inl (Z.2 0, 80, .inl (fun _ => 0)))]) [0, 7, 8, 22, 30] rfl
  have hD := hD.sub (ws' := [(x0, .inr (8, [.ref a1, .ref a2, .ref a3, .ref a4, .ref a5, .int 0, .ref a6, .ref a7, .ref a8, .ref a9, .ref a10, .ref a11, .ref a12, .ref a13, .int 9, .int 0, .int 0])), (a3, .inr (5, [.int 0, .int 0, .ref tk])), (tk, .inl (Z.2 1, 80, .inl (fun _ => 0))), (m0, .inr (9, [.ref b1, .ref b2, .ref b3, .ref b4, .int 0, .ref b5, .int 0, .ref b6, .ref b7, .ref b8, .int 0, .int 0, .int 0, .ref b9, .ref b10, .ref b11, .ref b12, .ref b13, .ref b14, .ref b15, .ref b16, .ref b17, .ref b18, .int 0, .ref b19, .ref b20, .ref b21, .ref b22, .ref b23, .ref b24, .ref b25])), (b8, .inl (Z.2 0, 80, .inl (fun _ => 0)))]) [0, 7, 8, 22, 30] (by decide) rfl
  refine lv_aload_n hx hb dL_law_360 rfl (lv_at hl 1 rfl) ?_
  refine lv_aload_n hx hb dL_law_361 rfl (lv_at hl 0 rfl) ?_
  refine lv_iload_n hx hb dL_law_362 rfl (lv_at hl 3 rfl) ?_
  refine lv_iconst (v := 1) hx hb dL_law_363 (by decide) ?_
  refine lv_iadd hx hb dL_law_364 ?_
  refine lv_topi (fun f_1 ef_1 => ?_)
  obtain rfl : f_1 = 1 := ef_1.trans (by decide)
  refine va_sld hx hb hX hbl hbA hS (z_in (by decide)) dL_law_365 ?_
  refine lv_topi (fun f_2 ef_2 => ?_)
  obtain rfl : f_2 = xs 1 := ef_2
  refine lv_i2l hx hb dL_law_366 rfl ?_
  refine lv_bipush (v := 32) hx hb dL_law_367 (by decide) ?_
  refine lv_lshl hx hb dL_law_369 rfl ?_
  refine lv_aload_n hx hb dL_law_370 rfl (lv_at hl 0 rfl) ?_
  refine lv_iload_n hx hb dL_law_371 rfl (lv_at hl 3 rfl) ?_
  refine lv_iconst (v := 2) hx hb dL_law_372 (by decide) ?_
  refine lv_iadd hx hb dL_law_373 ?_
  refine lv_topi (fun f_3 ef_3 => ?_)
  obtain rfl : f_3 = 2 := ef_3.trans (by decide)
  refine va_sld hx hb hX hbl hbA hS (z_in (by decide)) dL_law_374 ?_
  refine lv_topi (fun f_4 ef_4 => ?_)
  obtain rfl : f_4 = xs 2 := ef_4
  refine lv_i2l hx hb dL_law_375 rfl ?_
  refine lv_ldc2 (v := 4294967295) hx hb hown (hts (.constantLong RL 40 (4294967295)) (by decide +kernel)) dL_law_376 ?_
  refine lv_land hx hb dL_law_379 ?_
  refine lv_lor hx hb dL_law_380 ?_
  refine lv_aload_n hx hb dL_law_381 rfl (lv_at hl 0 rfl) ?_
  refine lv_iload_n hx hb dL_law_382 rfl (lv_at hl 3 rfl) ?_
  refine lv_iconst (v := 3) hx hb dL_law_383 (by decide) ?_
  refine lv_iadd hx hb dL_law_384 ?_
  refine lv_topi (fun f_5 ef_5 => ?_)
  obtain rfl : f_5 = 3 := ef_5.trans (by decide)
  refine va_sld hx hb hX hbl hbA hS (z_in (by decide)) dL_law_385 ?_
  refine lv_topi (fun f_6 ef_6 => ?_)
  obtain rfl : f_6 = xs 3 := ef_6
  have hPc := hP.sub (ws' := [(x0, .inr (8, [.ref a1, .ref a2, .ref a3, .ref a4, .ref a5, .int 0, .ref a6, .ref a7, .ref a8, .ref a9, .ref a10, .ref a11, .ref a12, .ref a13, .int 9, .int 0, .int 0])), (a3, .inr (5, [.int 0, .int 0, .ref tk])), (tk, .inl (Z.2 1, 80, .inl (fun _ => 0)))]) [0, 1, 2] rfl
  have hDc := hD.sub (ws' := [(x0, .inr (8, [.ref a1, .ref a2, .ref a3, .ref a4, .ref a5, .int 0, .ref a6, .ref a7, .ref a8, .ref a9, .ref a10, .ref a11, .ref a12, .ref a13, .int 9, .int 0, .int 0])), (a3, .inr (5, [.int 0, .int 0, .ref tk])), (tk, .inl (Z.2 1, 80, .inl (fun _ => 0)))]) [0, 1, 2] (by decide) rfl
  have hFc := va_free (wc := [(x0, .inr (8, [.ref a1, .ref a2, .ref a3, .ref a4, .ref a5, .int 0, .ref a6, .ref a7, .ref a8, .ref a9, .ref a10, .ref a11, .ref a12, .ref a13, .int 9, .int 0, .int 0])), (a3, .inr (5, [.int 0, .int 0, .ref tk])), (tk, .inl (Z.2 1, 80, .inl (fun _ => 0)))]) hD hS hA [0, 1, 2] rfl
  refine va_calli (va_runV (As := [.long ((((xs 1).toInt64) <<< ((32 : Int32).toInt64 &&& 63)) ||| (((xs 2).toInt64) &&& 4294967295)), .int (xs 3)]) (rest := []) ⟨hx, hb, hml, hown, hts⟩ (c_X8_type l Z H.size x0 a1 a2 a3 a4 a5 a6 a7 a8 a9 a10 a11 a12 a13 tk ((((xs 1).toInt64) <<< ((32 : Int32).toInt64 &&& 63)) ||| (((xs 2).toInt64) &&& 4294967295)) (xs 3)) (cwV 2 hts gL_law_X8_type rfl rfl rfl (by decide +kernel) ⟨Nat.le_of_ble_eq_true rfl, Nat.le_of_ble_eq_true rfl⟩) ⟨fun a U g mk q => by obtain ⟨q0, q1, qP, qK, qD⟩ := q; exact ⟨q0, q1, qP, va_K.moved (u := U) (U := U.calling g mk a) (Vm.Alike.refl U.vm) qK, qD⟩, va_recv hK hPc (ci := 8) (q0 := 0) rfl rfl, fun U hU hW => ⟨rfl, by rw [hU], by rw [hU]; exact hPc, va_K.moved hW.alike hK, hDc.weaken (fun _ _ _ _ => trivial)⟩⟩ rfl rfl hl.1 rfl (lv_room (Nat.le_of_ble_eq_true rfl)) dL_law_386 ⟨Nat.le_of_ble_eq_true rfl, Nat.le_of_ble_eq_true rfl⟩) hS (fun q _ h => hFc q h) hFc (fun r_7 u t H1 locs ht hvm hw hB hz1 hk1 hS => ?_)
  subst hw
  have hP1 : va_P Z.1 vwCl [] H1 := fun k q h => by simp at h
  have hD1 : va_D (va_A [(x0, .inr (8, [.ref a1, .ref a2, .ref a3, .ref a4, .ref a5, .int 0, .ref a6, .ref a7, .ref a8, .ref a9, .ref a10, .ref a11, .ref a12, .ref a13, .int 9, .int 0, .int 0])), (a3, .inr (5, [.int 0, .int 0, .ref tk])), (tk, .inl (Z.2 1, 80, .inl (fun _ => 0)))] H.size) [] := ⟨fun i j p q h => by simp at h, fun k q h => by simp at h⟩
  obtain ⟨hP, hD⟩ := va_join (wr := [(m0, .inr (9, [.ref b1, .ref b2, .ref b3, .ref b4, .int 0, .ref b5, .int 0, .ref b6, .ref b7, .ref b8, .int 0, .int 0, .int 0, .ref b9, .ref b10, .ref b11, .ref b12, .ref b13, .ref b14, .ref b15, .ref b16, .ref b17, .ref b18, .int 0, .ref b19, .ref b20, .ref b21, .ref b22, .ref b23, .ref b24, .ref b25])), (b8, .inl (Z.2 0, 80, .inl (fun _ => 0)))]) (w1 := []) hP hD [0, 1, 2] [3, 4] rfl rfl (by decide) (by decide) hk1 hFc hP1 hD1
  clear hPc hDc hP1 hD1 hk1 hz1 hFc ht hvm
  generalize H1 = H at hP hS ⊢
  have hP : va_P Z.1 vwCl [(m0, .inr (9, [.ref b1, .ref b2, .ref b3, .ref b4, .int 0, .ref b5, .int 0, .ref b6, .ref b7, .ref b8, .int 0, .int 0, .int 0, .ref b9, .ref b10, .ref b11, .ref b12, .ref b13, .ref b14, .ref b15, .ref b16, .ref b17, .ref b18, .int 0, .ref b19, .ref b20, .ref b21, .ref b22, .ref b23, .ref b24, .ref b25])), (b8, .inl (Z.2 0, 80, .inl (fun _ => 0)))] H := hP
  have hD : va_D A [(m0, .inr (9, [.ref b1, .ref b2, .ref b3, .ref b4, .int 0, .ref b5, .int 0, .ref b6, .ref b7, .ref b8, .int 0, .int 0, .int 0, .ref b9, .ref b10, .ref b11, .ref b12, .ref b13, .ref b14, .ref b15, .ref b16, .ref b17, .ref b18, .int 0, .ref b19, .ref b20, .ref b21, .ref b22, .ref b23, .ref b24, .ref b25])), (b8, .inl (Z.2 0, 80, .inl (fun _ => 0)))] := hD
  refine lv_aload_n hx hb dL_law_389 rfl (lv_at hl 2 rfl) ?_
  refine lv_aload_n hx hb dL_law_390 rfl (lv_at hl 0 rfl) ?_
  refine lv_iload_n hx hb dL_law_391 rfl (lv_at hl 3 rfl) ?_
  refine lv_iconst (v := 1) hx hb dL_law_392 (by decide) ?_
  refine lv_iadd hx hb dL_law_393 ?_
  refine lv_topi (fun f_8 ef_8 => ?_)
  obtain rfl : f_8 = 1 := ef_8.trans (by decide)
  refine va_sld hx hb hX hbl hbA hS (z_in (by decide)) dL_law_394 ?_
  refine lv_topi (fun f_9 ef_9 => ?_)
  obtain rfl : f_9 = xs 1 := ef_9
  refine lv_i2l hx hb dL_law_395 rfl ?_
  refine lv_bipush (v := 32) hx hb dL_law_396 (by decide) ?_
  refine lv_lshl hx hb dL_law_398 rfl ?_
  refine lv_aload_n hx hb dL_law_399 rfl (lv_at hl 0 rfl) ?_
  refine lv_iload_n hx hb dL_law_400 rfl (lv_at hl 3 rfl) ?_
  refine lv_iconst (v := 2) hx hb dL_law_401 (by decide) ?_
  refine lv_iadd hx hb dL_law_402 ?_
  refine lv_topi (fun f_10 ef_10 => ?_)
  obtain rfl : f_10 = 2 := ef_10.trans (by decide)
  refine va_sld hx hb hX hbl hbA hS (z_in (by decide)) dL_law_403 ?_
  refine lv_topi (fun f_11 ef_11 => ?_)
  obtain rfl : f_11 = xs 2 := ef_11
  refine lv_i2l hx hb dL_law_404 rfl ?_
  refine lv_ldc2 (v := 4294967295) hx hb hown (hts (.constantLong RL 40 (4294967295)) (by decide +kernel)) dL_law_405 ?_
  refine lv_land hx hb dL_law_408 ?_
  refine lv_lor hx hb dL_law_409 ?_
  refine lv_aload_n hx hb dL_law_410 rfl (lv_at hl 0 rfl) ?_
  refine lv_iload_n hx hb dL_law_411 rfl (lv_at hl 3 rfl) ?_
  refine lv_iconst (v := 3) hx hb dL_law_412 (by decide) ?_
  refine lv_iadd hx hb dL_law_413 ?_
  refine lv_topi (fun f_12 ef_12 => ?_)
  obtain rfl : f_12 = 3 := ef_12.trans (by decide)
  refine va_sld hx hb hX hbl hbA hS (z_in (by decide)) dL_law_414 ?_
  refine lv_topi (fun f_13 ef_13 => ?_)
  obtain rfl : f_13 = xs 3 := ef_13
  have hPc := hP.sub (ws' := [(m0, .inr (9, [.ref b1, .ref b2, .ref b3, .ref b4, .int 0, .ref b5, .int 0, .ref b6, .ref b7, .ref b8, .int 0, .int 0, .int 0, .ref b9, .ref b10, .ref b11, .ref b12, .ref b13, .ref b14, .ref b15, .ref b16, .ref b17, .ref b18, .int 0, .ref b19, .ref b20, .ref b21, .ref b22, .ref b23, .ref b24, .ref b25])), (b8, .inl (Z.2 0, 80, .inl (fun _ => 0)))]) [0, 1] rfl
  have hDc := hD.sub (ws' := [(m0, .inr (9, [.ref b1, .ref b2, .ref b3, .ref b4, .int 0, .ref b5, .int 0, .ref b6, .ref b7, .ref b8, .int 0, .int 0, .int 0, .ref b9, .ref b10, .ref b11, .ref b12, .ref b13, .ref b14, .ref b15, .ref b16, .ref b17, .ref b18, .int 0, .ref b19, .ref b20, .ref b21, .ref b22, .ref b23, .ref b24, .ref b25])), (b8, .inl (Z.2 0, 80, .inl (fun _ => 0)))]) [0, 1] (by decide) rfl
  have hFc := va_free (wc := [(m0, .inr (9, [.ref b1, .ref b2, .ref b3, .ref b4, .int 0, .ref b5, .int 0, .ref b6, .ref b7, .ref b8, .int 0, .int 0, .int 0, .ref b9, .ref b10, .ref b11, .ref b12, .ref b13, .ref b14, .ref b15, .ref b16, .ref b17, .ref b18, .int 0, .ref b19, .ref b20, .ref b21, .ref b22, .ref b23, .ref b24, .ref b25])), (b8, .inl (Z.2 0, 80, .inl (fun _ => 0)))]) hD hS hA [0, 1] rfl
  refine va_calli (va_runV (As := [.long ((((xs 1).toInt64) <<< ((32 : Int32).toInt64 &&& 63)) ||| (((xs 2).toInt64) &&& 4294967295)), .int (xs 3)]) (rest := [.int (z_ty ((((xs 1).toInt64) <<< ((32 : Int32).toInt64 &&& 63)) ||| (((xs 2).toInt64) &&& 4294967295)) (xs 3))]) ⟨hx, hb, hml, hown, hts⟩ (c_X9_type l Z H.size m0 b1 b2 b3 b4 b5 b6 b7 b8 b9 b10 b11 b12 b13 b14 b15 b16 b17 b18 b19 b20 b21 b22 b23 b24 b25 (fun _ => 0) ((((xs 1).toInt64) <<< ((32 : Int32).toInt64 &&& 63)) ||| (((xs 2).toInt64) &&& 4294967295)) (xs 3)) (cwV 2 hts gL_law_X9_type rfl rfl rfl (by decide +kernel) ⟨Nat.le_of_ble_eq_true rfl, Nat.le_of_ble_eq_true rfl⟩) ⟨fun a U g mk q => by obtain ⟨q0, q1, qP, qK, qD⟩ := q; exact ⟨q0, q1, qP, va_K.moved (u := U) (U := U.calling g mk a) (Vm.Alike.refl U.vm) qK, qD⟩, va_recv hK hPc (ci := 9) (q0 := 0) rfl rfl, fun U hU hW => ⟨rfl, by rw [hU], by rw [hU]; exact hPc, va_K.moved hW.alike hK, hDc.weaken (fun _ _ _ _ => trivial)⟩⟩ rfl rfl hl.1 rfl (lv_room (Nat.le_of_ble_eq_true rfl)) dL_law_415 ⟨Nat.le_of_ble_eq_true rfl, Nat.le_of_ble_eq_true rfl⟩) hS (fun q _ h => hFc q h) hFc (fun r_14 u t H1 locs ht hvm hw hB hz1 hk1 hS => ?_)
  subst hw
  have hP1 : va_P Z.1 vwCl [] H1 := fun k q h => by simp at h
  have hD1 : va_D (va_A [(m0, .inr (9, [.ref b1, .ref b2, .ref b3, .ref b4, .int 0, .ref b5, .int 0, .ref b6, .ref b7, .ref b8, .int 0, .int 0, .int 0, .ref b9, .ref b10, .ref b11, .ref b12, .ref b13, .ref b14, .ref b15, .ref b16, .ref b17, .ref b18, .int 0, .ref b19, .ref b20, .ref b21, .ref b22, .ref b23, .ref b24, .ref b25])), (b8, .inl (Z.2 0, 80, .inl (fun _ => 0)))] H.size) [] := ⟨fun i j p q h => by simp at h, fun k q h => by simp at h⟩
  obtain ⟨hP, hD⟩ := va_join (wr := []) (w1 := []) hP hD [0, 1] [] rfl rfl (by decide) (by decide) hk1 hFc hP1 hD1
  clear hPc hDc hP1 hD1 hk1 hz1 hFc ht hvm
  generalize H1 = H at hP hS ⊢
  have hP : va_P Z.1 vwCl [] H := hP
  have hD : va_D A [] := hD
  refine lv_icmp_eq (tgt := 1054) hx hb dL_law_418 (by decide) (fun _ => ?_) (fun c9 => absurd (rfl) c9)
  exact law_tail C0 hAe (Nat.le_of_ble_eq_true rfl) (Nat.le_of_ble_eq_true rfl) hS (lv_sub hl [0, 3] rfl)
set_option maxHeartbeats 4000000 in
set_option maxRecDepth 100000 in
theorem law_7 {p : Program} {l : Launch} {e : Env} {s : State} {m : MethodId} {below : List Frame} {meth : Method} {c : Code} {b : Nat} {xs : Nat → Int32} (C0 : lw_At p s m meth c b 6 xs) {A : Nat → Prop} (hAe : A = fun q : Nat => s.heap.size ≤ q) (Z : gZ) (kA vA : Nat) (hK : va_K Z.1 vwCl (gT Z) s) (hG : gS kA vA A s) (x0 : Nat) (a1 : Nat) (a2 : Nat) (a3 : Nat) (a4 : Nat) (a5 : Nat) (a6 : Nat) (a7 : Nat) (a8 : Nat) (a9 : Nat) (a10 : Nat) (a11 : Nat) (a12 : Nat) (a13 : Nat) (fk : Nat) (fq : Nat) (pk : Nat) (pq : Nat) (tk : Nat) (kk : Nat) (kq : Nat) (lk : Nat) (lq : Nat) (uk : Nat) (uq : Nat) (vk : Nat) (vq : Nat) (m0 : Nat) (b1 : Nat) (b2 : Nat) (b3 : Nat) (b4 : Nat) (b5 : Nat) (b6 : Nat) (b7 : Nat) (b8 : Nat) (b9 : Nat) (b10 : Nat) (b11 : Nat) (b12 : Nat) (b13 : Nat) (b14 : Nat) (b15 : Nat) (b16 : Nat) (b17 : Nat) (b18 : Nat) (b19 : Nat) (b20 : Nat) (b21 : Nat) (b22 : Nat) (b23 : Nat) (b24 : Nat) (b25 : Nat) (fl : Nat → Int32) (hfl : ∀ j, j < 4 → fl j = -1) {H : Heap} {locs : List Loc} {ls : Array Slot} (hP : va_P Z.1 vwCl (zFull Z x0 a1 a2 a3 a4 a5 a6 a7 a8 a9 a10 a11 a12 a13 fk fq pk pq tk kk kq lk lq uk uq vk vq m0 b1 b2 b3 b4 b5 b6 b7 b8 b9 b10 b11 b12 b13 b14 b15 b16 b17 b18 b19 b20 b21 b22 b23 b24 b25 fl) H) (hD : va_D A (zFull Z x0 a1 a2 a3 a4 a5 a6 a7 a8 a9 a10 a11 a12 a13 fk fq pk pq tk kk kq lk lq uk uq vk vq m0 b1 b2 b3 b4 b5 b6 b7 b8 b9 b10 b11 b12 b13 b14 b15 b16 b17 b18 b19 b20 b21 b22 b23 b24 b25 fl)) (hS : va_S A s.heap H locs) (hl : lv_has ls 4 [(0, .ref b), (1, .ref x0), (2, .ref m0), (3, .int 0)]) : W p l e room_1 s m #[Value.ref b] below meth c H locs 599000 7300000 (lw_Z below #[Value.ref b] s) (F0 m 423 ls []) := by
  obtain ⟨hx, hb, hr, hml, hown0, hts0, hX, hbl, hlocks, hgv⟩ := id C0
  have hown : s.vm.findClass RL = some m.cls := hown0
  have hts : ∀ w ∈ wsL_law, w.before #[Value.ref b] s = true := fun w h => hts0 w (wsL_law_in w h)
  have hA : ∀ q : Nat, s.heap.size ≤ q → A q := by rw [hAe]; exact fun _ h => h
  have hbA : ¬ A b := by rw [hAe]; exact Nat.not_le.mpr hbl
  have hP := hP.sub (ws' := [(x0, .inr (8, [.ref a1, .ref a2, .ref a3, .ref a4, .ref a5, .int 0, .ref a6, .ref a7, .ref a8, .ref a9, .ref a10, .ref a11, .ref a12, .ref a13, .int 9, .int 0, .int 0])), (a3, .inr (5, [.int 0, .int 0, .ref tk])), (a7, .inr (0, [.int 0, .int 16510910, .int 0, .ref uk, .ref uq])), (m0, .inr (9, [.ref b1, .ref b2, .ref b3, .ref b4, .int 0, .ref b5, .int 0, .ref b6, .ref b7, .ref b8, .int 0, .int 0, .int 0, .ref b9, .ref b10, .ref b11, .ref b12, .ref b13, .ref b14, .ref b15, .ref b16, .ref b17, .ref b18, .int 0, .ref b19, .ref b20, .ref b21, .ref b22, .ref b23, .ref b24, .ref b25])), (b9, .inl (Z.2 0, 24, .inl (fun _ => 0)))]) [0, 7, 16, 22, 31] rfl
  have hD := hD.sub (ws' := [(x0, .inr (8, [.ref a1, .ref a2, .ref a3, .ref a4, .ref a5, .int 0, .ref a6, .ref a7, .ref a8, .ref a9, .ref a10, .ref a11, .ref a12, .ref a13, .int 9, .int 0, .int 0])), (a3, .inr (5, [.int 0, .int 0, .ref tk])), (a7, .inr (0, [.int 0, .int 16510910, .int 0, .ref uk, .ref uq])), (m0, .inr (9, [.ref b1, .ref b2, .ref b3, .ref b4, .int 0, .ref b5, .int 0, .ref b6, .ref b7, .ref b8, .int 0, .int 0, .int 0, .ref b9, .ref b10, .ref b11, .ref b12, .ref b13, .ref b14, .ref b15, .ref b16, .ref b17, .ref b18, .int 0, .ref b19, .ref b20, .ref b21, .ref b22, .ref b23, .ref b24, .ref b25])), (b9, .inl (Z.2 0, 24, .inl (fun _ => 0)))]) [0, 7, 16, 22, 31] (by decide) rfl
  refine lv_aload_n hx hb dL_law_423 rfl (lv_at hl 1 rfl) ?_
  have hPc := hP.sub (ws' := [(x0, .inr (8, [.ref a1, .ref a2, .ref a3, .ref a4, .ref a5, .int 0, .ref a6, .ref a7, .ref a8, .ref a9, .ref a10, .ref a11, .ref a12, .ref a13, .int 9, .int 0, .int 0])), (a3, .inr (5, [.int 0, .int 0, .ref tk])), (a7, .inr (0, [.int 0, .int 16510910, .int 0, .ref uk, .ref uq]))]) [0, 1, 2] rfl
  have hDc := hD.sub (ws' := [(x0, .inr (8, [.ref a1, .ref a2, .ref a3, .ref a4, .ref a5, .int 0, .ref a6, .ref a7, .ref a8, .ref a9, .ref a10, .ref a11, .ref a12, .ref a13, .int 9, .int 0, .int 0])), (a3, .inr (5, [.int 0, .int 0, .ref tk])), (a7, .inr (0, [.int 0, .int 16510910, .int 0, .ref uk, .ref uq]))]) [0, 1, 2] (by decide) rfl
  have hFc := va_free (wc := [(x0, .inr (8, [.ref a1, .ref a2, .ref a3, .ref a4, .ref a5, .int 0, .ref a6, .ref a7, .ref a8, .ref a9, .ref a10, .ref a11, .ref a12, .ref a13, .int 9, .int 0, .int 0])), (a3, .inr (5, [.int 0, .int 0, .ref tk])), (a7, .inr (0, [.int 0, .int 16510910, .int 0, .ref uk, .ref uq]))]) hD hS hA [0, 1, 2] rfl
  refine va_calli (va_runV (As := []) (rest := []) ⟨hx, hb, hml, hown, hts⟩ (c_X8_people l Z H.size x0 a1 a2 a3 a4 a5 a6 a7 a8 a9 a10 a11 a12 a13 tk uk uq kA vA) (cwV 0 hts gL_law_X8_people rfl rfl rfl (by decide +kernel) ⟨Nat.le_of_ble_eq_true rfl, Nat.le_of_ble_eq_true rfl⟩) ⟨fun a U g mk q => by obtain ⟨q0, q1, qP, qK, qD, qG⟩ := q; exact ⟨q0, q1, qP, va_K.moved (u := U) (U := U.calling g mk a) (Vm.Alike.refl U.vm) qK, qD, z_Gc (u := U) (U := U.calling g mk a) rfl rfl qG⟩, va_recv hK hPc (ci := 8) (q0 := 0) rfl rfl, fun U hU hW => ⟨rfl, by rw [hU], by rw [hU]; exact hPc, va_K.moved hW.alike hK, hDc.weaken (fun _ _ _ _ => trivial), z_G hW hG hS hU hFc⟩⟩ rfl rfl hl.1 rfl (lv_room (Nat.le_of_ble_eq_true rfl)) dL_law_424 ⟨Nat.le_of_ble_eq_true rfl, Nat.le_of_ble_eq_true rfl⟩) hS (fun q _ h => hFc q h) hFc (fun r_1 u t H1 locs ht hvm hw hB hz1 hk1 hS => ?_)
  subst hw
  have hP1 : va_P Z.1 vwCl [] H1 := fun k q h => by simp at h
  have hD1 : va_D (va_A [(x0, .inr (8, [.ref a1, .ref a2, .ref a3, .ref a4, .ref a5, .int 0, .ref a6, .ref a7, .ref a8, .ref a9, .ref a10, .ref a11, .ref a12, .ref a13, .int 9, .int 0, .int 0])), (a3, .inr (5, [.int 0, .int 0, .ref tk])), (a7, .inr (0, [.int 0, .int 16510910, .int 0, .ref uk, .ref uq]))] H.size) [] := ⟨fun i j p q h => by simp at h, fun k q h => by simp at h⟩
  obtain ⟨hP, hD⟩ := va_join (wr := [(m0, .inr (9, [.ref b1, .ref b2, .ref b3, .ref b4, .int 0, .ref b5, .int 0, .ref b6, .ref b7, .ref b8, .int 0, .int 0, .int 0, .ref b9, .ref b10, .ref b11, .ref b12, .ref b13, .ref b14, .ref b15, .ref b16, .ref b17, .ref b18, .int 0, .ref b19, .ref b20, .ref b21, .ref b22, .ref b23, .ref b24, .ref b25])), (b9, .inl (Z.2 0, 24, .inl (fun _ => 0)))]) (w1 := []) hP hD [0, 1, 2] [3, 4] rfl rfl (by decide) (by decide) hk1 hFc hP1 hD1
  clear hPc hDc hP1 hD1 hk1 hz1 hFc ht hvm
  generalize H1 = H at hP hS ⊢
  have hP : va_P Z.1 vwCl [(m0, .inr (9, [.ref b1, .ref b2, .ref b3, .ref b4, .int 0, .ref b5, .int 0, .ref b6, .ref b7, .ref b8, .int 0, .int 0, .int 0, .ref b9, .ref b10, .ref b11, .ref b12, .ref b13, .ref b14, .ref b15, .ref b16, .ref b17, .ref b18, .int 0, .ref b19, .ref b20, .ref b21, .ref b22, .ref b23, .ref b24, .ref b25])), (b9, .inl (Z.2 0, 24, .inl (fun _ => 0)))] H := hP
  have hD : va_D A [(m0, .inr (9, [.ref b1, .ref b2, .ref b3, .ref b4, .int 0, .ref b5, .int 0, .ref b6, .ref b7, .ref b8, .int 0, .int 0, .int 0, .ref b9, .ref b10, .ref b11, .ref b12, .ref b13, .ref b14, .ref b15, .ref b16, .ref b17, .ref b18, .int 0, .ref b19, .ref b20, .ref b21, .ref b22, .ref b23, .ref b24, .ref b25])), (b9, .inl (Z.2 0, 24, .inl (fun _ => 0)))] := hD
  refine lv_aload_n hx hb dL_law_427 rfl (lv_at hl 2 rfl) ?_
  have hPc := hP.sub (ws' := [(m0, .inr (9, [.ref b1, .ref b2, .ref b3, .ref b4, .int 0, .ref b5, .int 0, .ref b6, .ref b7, .ref b8, .int 0, .int 0, .int 0, .ref b9, .ref b10, .ref b11, .ref b12, .ref b13, .ref b14, .ref b15, .ref b16, .ref b17, .ref b18, .int 0, .ref b19, .ref b20, .ref b21, .ref b22, .ref b23, .ref b24, .ref b25])), (b9, .inl (Z.2 0, 24, .inl (fun _ => 0)))]) [0, 1] rfl
  have hDc := hD.sub (ws' := [(m0, .inr (9, [.ref b1, .ref b2, .ref b3, .ref b4, .int 0, .ref b5, .int 0, .ref b6, .ref b7, .ref b8, .int 0, .int 0, .int 0, .ref b9, .ref b10, .ref b11, .ref b12, .ref b13, .ref b14, .ref b15, .ref b16, .ref b17, .ref b18, .int 0, .ref b19, .ref b20, .ref b21, .ref b22, .ref b23, .ref b24, .ref b25])), (b9, .inl (Z.2 0, 24, .inl (fun _ => 0)))]) [0, 1] (by decide) rfl
  have hFc := va_free (wc := [(m0, .inr (9, [.ref b1, .ref b2, .ref b3, .ref b4, .int 0, .ref b5, .int 0, .ref b6, .ref b7, .ref b8, .int 0, .int 0, .int 0, .ref b9, .ref b10, .ref b11, .ref b12, .ref b13, .ref b14, .ref b15, .ref b16, .ref b17, .ref b18, .int 0, .ref b19, .ref b20, .ref b21, .ref b22, .ref b23, .ref b24, .ref b25])), (b9, .inl (Z.2 0, 24, .inl (fun _ => 0)))]) hD hS hA [0, 1] rfl
  refine va_calli (va_runV (As := []) (rest := [.int (-20)]) ⟨hx, hb, hml, hown, hts⟩ (c_X9_people l Z H.size m0 b1 b2 b3 b4 b5 b6 b7 b8 b9 b10 b11 b12 b13 b14 b15 b16 b17 b18 b19 b20 b21 b22 b23 b24 b25 (fun _ => 0)) (cwV 0 hts gL_law_X9_people rfl rfl rfl (by decide +kernel) ⟨Nat.le_of_ble_eq_true rfl, Nat.le_of_ble_eq_true rfl⟩) ⟨fun a U g mk q => by obtain ⟨q0, q1, qP, qK, qD⟩ := q; exact ⟨q0, q1, qP, va_K.moved (u := U) (U := U.calling g mk a) (Vm.Alike.refl U.vm) qK, qD⟩, va_recv hK hPc (ci := 9) (q0 := 0) rfl rfl, fun U hU hW => ⟨rfl, by rw [hU], by rw [hU]; exact hPc, va_K.moved hW.alike hK, hDc.weaken (fun _ _ _ _ => trivial)⟩⟩ rfl rfl hl.1 rfl (lv_room (Nat.le_of_ble_eq_true rfl)) dL_law_428 ⟨Nat.le_of_ble_eq_true rfl, Nat.le_of_ble_eq_true rfl⟩) hS (fun q _ h => hFc q h) hFc (fun r_2 u t H1 locs ht hvm hw hB hz1 hk1 hS => ?_)
  subst hw
  have hP1 : va_P Z.1 vwCl [] H1 := fun k q h => by simp at h
  have hD1 : va_D (va_A [(m0, .inr (9, [.ref b1, .ref b2, .ref b3, .ref b4, .int 0, .ref b5, .int 0, .ref b6, .ref b7, .ref b8, .int 0, .int 0, .int 0, .ref b9, .ref b10, .ref b11, .ref b12, .ref b13, .ref b14, .ref b15, .ref b16, .ref b17, .ref b18, .int 0, .ref b19, .ref b20, .ref b21, .ref b22, .ref b23, .ref b24, .ref b25])), (b9, .inl (Z.2 0, 24, .inl (fun _ => 0)))] H.size) [] := ⟨fun i j p q h => by simp at h, fun k q h => by simp at h⟩
  obtain ⟨hP, hD⟩ := va_join (wr := []) (w1 := []) hP hD [0, 1] [] rfl rfl (by decide) (by decide) hk1 hFc hP1 hD1
  clear hPc hDc hP1 hD1 hk1 hz1 hFc ht hvm
  generalize H1 = H at hP hS ⊢
  have hP : va_P Z.1 vwCl [] H := hP
  have hD : va_D A [] := hD
  refine lv_icmp_eq (tgt := 1054) hx hb dL_law_431 (by decide) (fun _ => ?_) (fun c9 => absurd c9 (by decide))
  exact law_tail C0 hAe (Nat.le_of_ble_eq_true rfl) (Nat.le_of_ble_eq_true rfl) hS (lv_sub hl [0, 3] rfl)
set_option maxHeartbeats 4000000 in
set_option maxRecDepth 100000 in
theorem law_8 {p : Program} {l : Launch} {e : Env} {s : State} {m : MethodId} {below : List Frame} {meth : Method} {c : Code} {b : Nat} {xs : Nat → Int32} (C0 : lw_At p s m meth c b 6 xs) {A : Nat → Prop} (hAe : A = fun q : Nat => s.heap.size ≤ q) (Z : gZ) (kA vA : Nat) (hK : va_K Z.1 vwCl (gT Z) s) (hG : gS kA vA A s) (x0 : Nat) (a1 : Nat) (a2 : Nat) (a3 : Nat) (a4 : Nat) (a5 : Nat) (a6 : Nat) (a7 : Nat) (a8 : Nat) (a9 : Nat) (a10 : Nat) (a11 : Nat) (a12 : Nat) (a13 : Nat) (fk : Nat) (fq : Nat) (pk : Nat) (pq : Nat) (tk : Nat) (kk : Nat) (kq : Nat) (lk : Nat) (lq : Nat) (uk : Nat) (uq : Nat) (vk : Nat) (vq : Nat) (m0 : Nat) (b1 : Nat) (b2 : Nat) (b3 : Nat) (b4 : Nat) (b5 : Nat) (b6 : Nat) (b7 : Nat) (b8 : Nat) (b9 : Nat) (b10 : Nat) (b11 : Nat) (b12 : Nat) (b13 : Nat) (b14 : Nat) (b15 : Nat) (b16 : Nat) (b17 : Nat) (b18 : Nat) (b19 : Nat) (b20 : Nat) (b21 : Nat) (b22 : Nat) (b23 : Nat) (b24 : Nat) (b25 : Nat) (fl : Nat → Int32) (hfl : ∀ j, j < 4 → fl j = -1) {H : Heap} {locs : List Loc} {ls : Array Slot} (hP : va_P Z.1 vwCl (zFull Z x0 a1 a2 a3 a4 a5 a6 a7 a8 a9 a10 a11 a12 a13 fk fq pk pq tk kk kq lk lq uk uq vk vq m0 b1 b2 b3 b4 b5 b6 b7 b8 b9 b10 b11 b12 b13 b14 b15 b16 b17 b18 b19 b20 b21 b22 b23 b24 b25 fl) H) (hD : va_D A (zFull Z x0 a1 a2 a3 a4 a5 a6 a7 a8 a9 a10 a11 a12 a13 fk fq pk pq tk kk kq lk lq uk uq vk vq m0 b1 b2 b3 b4 b5 b6 b7 b8 b9 b10 b11 b12 b13 b14 b15 b16 b17 b18 b19 b20 b21 b22 b23 b24 b25 fl)) (hS : va_S A s.heap H locs) (hl : lv_has ls 4 [(0, .ref b), (1, .ref x0), (2, .ref m0), (3, .int 0)]) : W p l e room_1 s m #[Value.ref b] below meth c H locs 599000 7300000 (lw_Z below #[Value.ref b] s) (F0 m 436 ls []) := by
  obtain ⟨hx, hb, hr, hml, hown0, hts0, hX, hbl, hlocks, hgv⟩ := id C0
  have hown : s.vm.findClass RL = some m.cls := hown0
  have hts : ∀ w ∈ wsL_law, w.before #[Value.ref b] s = true := fun w h => hts0 w (wsL_law_in w h)
  have hA : ∀ q : Nat, s.heap.size ≤ q → A q := by rw [hAe]; exact fun _ h => h
  have hbA : ¬ A b := by rw [hAe]; exact Nat.not_le.mpr hbl
  have hP := hP.sub (ws' := [(x0, .inr (8, [.ref a1, .ref a2, .ref a3, .ref a4, .ref a5, .int 0, .ref a6, .ref a7, .ref a8, .ref a9, .ref a10, .ref a11, .ref a12, .ref a13, .int 9, .int 0, .int 0])), (a1, .inr (0, [.int 0, .int 16510910, .int 0, .ref fk, .ref fq])), (a3, .inr (5, [.int 0, .int 0, .ref tk])), (a8, .inr (2, [.int 0, .int 0, .ref vk, .ref vq])), (m0, .inr (9, [.ref b1, .ref b2, .ref b3, .ref b4, .int 0, .ref b5, .int 0, .ref b6, .ref b7, .ref b8, .int 0, .int 0, .int 0, .ref b9, .ref b10, .ref b11, .ref b12, .ref b13, .ref b14, .ref b15, .ref b16, .ref b17, .ref b18, .int 0, .ref b19, .ref b20, .ref b21, .ref b22, .ref b23, .ref b24, .ref b25]))]) [0, 1, 7, 19, 22] rfl
  have hD := hD.sub (ws' := [(x0, .inr (8, [.ref a1, .ref a2, .ref a3, .ref a4, .ref a5, .int 0, .ref a6, .ref a7, .ref a8, .ref a9, .ref a10, .ref a11, .ref a12, .ref a13, .int 9, .int 0, .int 0])), (a1, .inr (0, [.int 0, .int 16510910, .int 0, .ref fk, .ref fq])), (a3, .inr (5, [.int 0, .int 0, .ref tk])), (a8, .inr (2, [.int 0, .int 0, .ref vk, .ref vq])), (m0, .inr (9, [.ref b1, .ref b2, .ref b3, .ref b4, .int 0, .ref b5, .int 0, .ref b6, .ref b7, .ref b8, .int 0, .int 0, .int 0, .ref b9, .ref b10, .ref b11, .ref b12, .ref b13, .ref b14, .ref b15, .ref b16, .ref b17, .ref b18, .int 0, .ref b19, .ref b20, .ref b21, .ref b22, .ref b23, .ref b24, .ref b25]))]) [0, 1, 7, 19, 22] (by decide) rfl
  refine lv_aload_n hx hb dL_law_436 rfl (lv_at hl 1 rfl) ?_
  have hPc := hP.sub (ws' := [(x0, .inr (8, [.ref a1, .ref a2, .ref a3, .ref a4, .ref a5, .int 0, .ref a6, .ref a7, .ref a8, .ref a9, .ref a10, .ref a11, .ref a12, .ref a13, .int 9, .int 0, .int 0])), (a1, .inr (0, [.int 0, .int 16510910, .int 0, .ref fk, .ref fq])), (a3, .inr (5, [.int 0, .int 0, .ref tk])), (a8, .inr (2, [.int 0, .int 0, .ref vk, .ref vq]))]) [0, 1, 2, 3] rfl
  have hDc := hD.sub (ws' := [(x0, .inr (8, [.ref a1, .ref a2, .ref a3, .ref a4, .ref a5, .int 0, .ref a6, .ref a7, .ref a8, .ref a9, .ref a10, .ref a11, .ref a12, .ref a13, .int 9, .int 0, .int 0])), (a1, .inr (0, [.int 0, .int 16510910, .int 0, .ref fk, .ref fq])), (a3, .inr (5, [.int 0, .int 0, .ref tk])), (a8, .inr (2, [.int 0, .int 0, .ref vk, .ref vq]))]) [0, 1, 2, 3] (by decide) rfl
  have hFc := va_free (wc := [(x0, .inr (8, [.ref a1, .ref a2, .ref a3, .ref a4, .ref a5, .int 0, .ref a6, .ref a7, .ref a8, .ref a9, .ref a10, .ref a11, .ref a12, .ref a13, .int 9, .int 0, .int 0])), (a1, .inr (0, [.int 0, .int 16510910, .int 0, .ref fk, .ref fq])), (a3, .inr (5, [.int 0, .int 0, .ref tk])), (a8, .inr (2, [.int 0, .int 0, .ref vk, .ref vq]))]) hD hS hA [0, 1, 2, 3] rfl
  refine va_calli (va_runV (As := []) (rest := []) ⟨hx, hb, hml, hown, hts⟩ (c_X8_plan l Z H.size x0 a1 a2 a3 a4 a5 a6 a7 a8 a9 a10 a11 a12 a13 fk fq tk vk vq) (cwV 0 hts gL_law_X8_plan rfl rfl rfl (by decide +kernel) ⟨Nat.le_of_ble_eq_true rfl, Nat.le_of_ble_eq_true rfl⟩) ⟨fun a U g mk q => by obtain ⟨q0, q1, qP, qK, qD⟩ := q; exact ⟨q0, q1, qP, va_K.moved (u := U) (U := U.calling g mk a) (Vm.Alike.refl U.vm) qK, qD⟩, va_recv hK hPc (ci := 8) (q0 := 0) rfl rfl, fun U hU hW => ⟨rfl, by rw [hU], by rw [hU]; exact hPc, va_K.moved hW.alike hK, hDc.weaken (fun _ _ _ _ => trivial)⟩⟩ rfl rfl hl.1 rfl (lv_room (Nat.le_of_ble_eq_true rfl)) dL_law_437 ⟨Nat.le_of_ble_eq_true rfl, Nat.le_of_ble_eq_true rfl⟩) hS (fun q _ h => hFc q h) hFc (fun r_1 u t H1 locs ht hvm hw hB hz1 hk1 hS => ?_)
  subst hw
  have hP1 : va_P Z.1 vwCl [] H1 := fun k q h => by simp at h
  have hD1 : va_D (va_A [(x0, .inr (8, [.ref a1, .ref a2, .ref a3, .ref a4, .ref a5, .int 0, .ref a6, .ref a7, .ref a8, .ref a9, .ref a10, .ref a11, .ref a12, .ref a13, .int 9, .int 0, .int 0])), (a1, .inr (0, [.int 0, .int 16510910, .int 0, .ref fk, .ref fq])), (a3, .inr (5, [.int 0, .int 0, .ref tk])), (a8, .inr (2, [.int 0, .int 0, .ref vk, .ref vq]))] H.size) [] := ⟨fun i j p q h => by simp at h, fun k q h => by simp at h⟩
  obtain ⟨hP, hD⟩ := va_join (wr := [(m0, .inr (9, [.ref b1, .ref b2, .ref b3, .ref b4, .int 0, .ref b5, .int 0, .ref b6, .ref b7, .ref b8, .int 0, .int 0, .int 0, .ref b9, .ref b10, .ref b11, .ref b12, .ref b13, .ref b14, .ref b15, .ref b16, .ref b17, .ref b18, .int 0, .ref b19, .ref b20, .ref b21, .ref b22, .ref b23, .ref b24, .ref b25]))]) (w1 := []) hP hD [0, 1, 2, 3] [4] rfl rfl (by decide) (by decide) hk1 hFc hP1 hD1
  clear hPc hDc hP1 hD1 hk1 hz1 hFc ht hvm
  generalize H1 = H at hP hS ⊢
  have hP : va_P Z.1 vwCl [(m0, .inr (9, [.ref b1, .ref b2, .ref b3, .ref b4, .int 0, .ref b5, .int 0, .ref b6, .ref b7, .ref b8, .int 0, .int 0, .int 0, .ref b9, .ref b10, .ref b11, .ref b12, .ref b13, .ref b14, .ref b15, .ref b16, .ref b17, .ref b18, .int 0, .ref b19, .ref b20, .ref b21, .ref b22, .ref b23, .ref b24, .ref b25]))] H := hP
  have hD : va_D A [(m0, .inr (9, [.ref b1, .ref b2, .ref b3, .ref b4, .int 0, .ref b5, .int 0, .ref b6, .ref b7, .ref b8, .int 0, .int 0, .int 0, .ref b9, .ref b10, .ref b11, .ref b12, .ref b13, .ref b14, .ref b15, .ref b16, .ref b17, .ref b18, .int 0, .ref b19, .ref b20, .ref b21, .ref b22, .ref b23, .ref b24, .ref b25]))] := hD
  refine lv_aload_n hx hb dL_law_440 rfl (lv_at hl 2 rfl) ?_
  have hPc := hP.sub (ws' := [(m0, .inr (9, [.ref b1, .ref b2, .ref b3, .ref b4, .int 0, .ref b5, .int 0, .ref b6, .ref b7, .ref b8, .int 0, .int 0, .int 0, .ref b9, .ref b10, .ref b11, .ref b12, .ref b13, .ref b14, .ref b15, .ref b16, .ref b17, .ref b18, .int 0, .ref b19, .ref b20, .ref b21, .ref b22, .ref b23, .ref b24, .ref b25]))]) [0] rfl
  have hDc := hD.sub (ws' := [(m0, .inr (9, [.ref b1, .ref b2, .ref b3, .ref b4, .int 0, .ref b5, .int 0, .ref b6, .ref b7, .ref b8, .int 0, .int 0, .int 0, .ref b9, .ref b10, .ref b11, .ref b12, .ref b13, .ref b14, .ref b15, .ref b16, .ref b17, .ref b18, .int 0, .ref b19, .ref b20, .ref b21, .ref b22, .ref b23, .ref b24, .ref b25]))]) [0] (by decide) rfl
  have hFc := va_free (wc := [(m0, .inr (9, [.ref b1, .ref b2, .ref b3, .ref b4, .int 0, .ref b5, .int 0, .ref b6, .ref b7, .ref b8, .int 0, .int 0, .int 0, .ref b9, .ref b10, .ref b11, .ref b12, .ref b13, .ref b14, .ref b15, .ref b16, .ref b17, .ref b18, .int 0, .ref b19, .ref b20, .ref b21, .ref b22, .ref b23, .ref b24, .ref b25]))]) hD hS hA [0] rfl
  refine va_calli (va_runV (As := []) (rest := [.int (-20)]) ⟨hx, hb, hml, hown, hts⟩ (c_X9_plan l Z H.size m0 b1 b2 b3 b4 b5 b6 b7 b8 b9 b10 b11 b12 b13 b14 b15 b16 b17 b18 b19 b20 b21 b22 b23 b24 b25) (cwV 0 hts gL_law_X9_plan rfl rfl rfl (by decide +kernel) ⟨Nat.le_of_ble_eq_true rfl, Nat.le_of_ble_eq_true rfl⟩) ⟨fun a U g mk q => by obtain ⟨q0, q1, qP, qK, qD⟩ := q; exact ⟨q0, q1, qP, va_K.moved (u := U) (U := U.calling g mk a) (Vm.Alike.refl U.vm) qK, qD⟩, va_recv hK hPc (ci := 9) (q0 := 0) rfl rfl, fun U hU hW => ⟨rfl, by rw [hU], by rw [hU]; exact hPc, va_K.moved hW.alike hK, hDc.weaken (fun _ _ _ _ => trivial)⟩⟩ rfl rfl hl.1 rfl (lv_room (Nat.le_of_ble_eq_true rfl)) dL_law_441 ⟨Nat.le_of_ble_eq_true rfl, Nat.le_of_ble_eq_true rfl⟩) hS (fun q _ h => hFc q h) hFc (fun r_2 u t H1 locs ht hvm hw hB hz1 hk1 hS => ?_)
  subst hw
  have hP1 : va_P Z.1 vwCl [] H1 := fun k q h => by simp at h
  have hD1 : va_D (va_A [(m0, .inr (9, [.ref b1, .ref b2, .ref b3, .ref b4, .int 0, .ref b5, .int 0, .ref b6, .ref b7, .ref b8, .int 0, .int 0, .int 0, .ref b9, .ref b10, .ref b11, .ref b12, .ref b13, .ref b14, .ref b15, .ref b16, .ref b17, .ref b18, .int 0, .ref b19, .ref b20, .ref b21, .ref b22, .ref b23, .ref b24, .ref b25]))] H.size) [] := ⟨fun i j p q h => by simp at h, fun k q h => by simp at h⟩
  obtain ⟨hP, hD⟩ := va_join (wr := []) (w1 := []) hP hD [0] [] rfl rfl (by decide) (by decide) hk1 hFc hP1 hD1
  clear hPc hDc hP1 hD1 hk1 hz1 hFc ht hvm
  generalize H1 = H at hP hS ⊢
  have hP : va_P Z.1 vwCl [] H := hP
  have hD : va_D A [] := hD
  refine lv_icmp_eq (tgt := 1054) hx hb dL_law_444 (by decide) (fun _ => ?_) (fun c9 => absurd c9 (by decide))
  exact law_tail C0 hAe (Nat.le_of_ble_eq_true rfl) (Nat.le_of_ble_eq_true rfl) hS (lv_sub hl [0, 3] rfl)
set_option maxHeartbeats 4000000 in
set_option maxRecDepth 100000 in
theorem law_9 {p : Program} {l : Launch} {e : Env} {s : State} {m : MethodId} {below : List Frame} {meth : Method} {c : Code} {b : Nat} {xs : Nat → Int32} (C0 : lw_At p s m meth c b 6 xs) {A : Nat → Prop} (hAe : A = fun q : Nat => s.heap.size ≤ q) (Z : gZ) (kA vA : Nat) (hK : va_K Z.1 vwCl (gT Z) s) (hG : gS kA vA A s) (x0 : Nat) (a1 : Nat) (a2 : Nat) (a3 : Nat) (a4 : Nat) (a5 : Nat) (a6 : Nat) (a7 : Nat) (a8 : Nat) (a9 : Nat) (a10 : Nat) (a11 : Nat) (a12 : Nat) (a13 : Nat) (fk : Nat) (fq : Nat) (pk : Nat) (pq : Nat) (tk : Nat) (kk : Nat) (kq : Nat) (lk : Nat) (lq : Nat) (uk : Nat) (uq : Nat) (vk : Nat) (vq : Nat) (m0 : Nat) (b1 : Nat) (b2 : Nat) (b3 : Nat) (b4 : Nat) (b5 : Nat) (b6 : Nat) (b7 : Nat) (b8 : Nat) (b9 : Nat) (b10 : Nat) (b11 : Nat) (b12 : Nat) (b13 : Nat) (b14 : Nat) (b15 : Nat) (b16 : Nat) (b17 : Nat) (b18 : Nat) (b19 : Nat) (b20 : Nat) (b21 : Nat) (b22 : Nat) (b23 : Nat) (b24 : Nat) (b25 : Nat) (fl : Nat → Int32) (hfl : ∀ j, j < 4 → fl j = -1) {H : Heap} {locs : List Loc} {ls : Array Slot} (hP : va_P Z.1 vwCl (zFull Z x0 a1 a2 a3 a4 a5 a6 a7 a8 a9 a10 a11 a12 a13 fk fq pk pq tk kk kq lk lq uk uq vk vq m0 b1 b2 b3 b4 b5 b6 b7 b8 b9 b10 b11 b12 b13 b14 b15 b16 b17 b18 b19 b20 b21 b22 b23 b24 b25 fl) H) (hD : va_D A (zFull Z x0 a1 a2 a3 a4 a5 a6 a7 a8 a9 a10 a11 a12 a13 fk fq pk pq tk kk kq lk lq uk uq vk vq m0 b1 b2 b3 b4 b5 b6 b7 b8 b9 b10 b11 b12 b13 b14 b15 b16 b17 b18 b19 b20 b21 b22 b23 b24 b25 fl)) (hS : va_S A s.heap H locs) (hl : lv_has ls 4 [(0, .ref b), (1, .ref x0), (2, .ref m0), (3, .int 0)]) : W p l e room_1 s m #[Value.ref b] below meth c H locs 599000 7300000 (lw_Z below #[Value.ref b] s) (F0 m 449 ls []) := by
  obtain ⟨hx, hb, hr, hml, hown0, hts0, hX, hbl, hlocks, hgv⟩ := id C0
  have hown : s.vm.findClass RL = some m.cls := hown0
  have hts : ∀ w ∈ wsL_law, w.before #[Value.ref b] s = true := fun w h => hts0 w (wsL_law_in w h)
  have hA : ∀ q : Nat, s.heap.size ≤ q → A q := by rw [hAe]; exact fun _ h => h
  have hbA : ¬ A b := by rw [hAe]; exact Nat.not_le.mpr hbl
  have hP := hP.sub (ws' := [(x0, .inr (8, [.ref a1, .ref a2, .ref a3, .ref a4, .ref a5, .int 0, .ref a6, .ref a7, .ref a8, .ref a9, .ref a10, .ref a11, .ref a12, .ref a13, .int 9, .int 0, .int 0])), (a1, .inr (0, [.int 0, .int 16510910, .int 0, .ref fk, .ref fq])), (a2, .inr (2, [.int 0, .int 0, .ref pk, .ref pq])), (m0, .inr (9, [.ref b1, .ref b2, .ref b3, .ref b4, .int 0, .ref b5, .int 0, .ref b6, .ref b7, .ref b8, .int 0, .int 0, .int 0, .ref b9, .ref b10, .ref b11, .ref b12, .ref b13, .ref b14, .ref b15, .ref b16, .ref b17, .ref b18, .int 0, .ref b19, .ref b20, .ref b21, .ref b22, .ref b23, .ref b24, .ref b25]))]) [0, 1, 4, 22] rfl
  have hD := hD.sub (ws' := [(x0, .inr (8, [.ref a1, .ref a2, .ref a3, .ref a4, .ref a5, .int 0, .ref a6, .ref a7, .ref a8, .ref a9, .ref a10, .ref a11, .ref a12, .ref a13, .int 9, .int 0, .int 0])), (a1, .inr (0, [.int 0, .int 16510910, .int 0, .ref fk, .ref fq])), (a2, .inr (2, [.int 0, .int 0, .ref pk, .ref pq])), (m0, .inr (9, [.ref b1, .ref b2, .ref b3, .ref b4, .int 0, .ref b5, .int 0, .ref b6, .ref b7, .ref b8, .int 0, .int 0, .int 0, .ref b9, .ref b10, .ref b11, .ref b12, .ref b13, .ref b14, .ref b15, .ref b16, .ref b17, .ref b18, .int 0, .ref b19, .ref b20, .ref b21, .ref b22, .ref b23, .ref b24, .ref b25]))]) [0, 1, 4, 22] (by decide) rfl
  refine lv_aload_n hx hb dL_law_449 rfl (lv_at hl 1 rfl) ?_
  refine lv_aload_n hx hb dL_law_450 rfl (lv_at hl 0 rfl) ?_
  refine lv_iload_n hx hb dL_law_451 rfl (lv_at hl 3 rfl) ?_
  refine lv_iconst (v := 1) hx hb dL_law_452 (by decide) ?_
  refine lv_iadd hx hb dL_law_453 ?_
  refine lv_topi (fun f_1 ef_1 => ?_)
  obtain rfl : f_1 = 1 := ef_1.trans (by decide)
  refine va_sld hx hb hX hbl hbA hS (z_in (by decide)) dL_law_454 ?_
  refine lv_topi (fun f_2 ef_2 => ?_)
  obtain rfl : f_2 = xs 1 := ef_2
  have hPc := hP.sub (ws' := [(x0, .inr (8, [.ref a1, .ref a2, .ref a3, .ref a4, .ref a5, .int 0, .ref a6, .ref a7, .ref a8, .ref a9, .ref a10, .ref a11, .ref a12, .ref a13, .int 9, .int 0, .int 0])), (a1, .inr (0, [.int 0, .int 16510910, .int 0, .ref fk, .ref fq])), (a2, .inr (2, [.int 0, .int 0, .ref pk, .ref pq]))]) [0, 1, 2] rfl
  have hDc := hD.sub (ws' := [(x0, .inr (8, [.ref a1, .ref a2, .ref a3, .ref a4, .ref a5, .int 0, .ref a6, .ref a7, .ref a8, .ref a9, .ref a10, .ref a11, .ref a12, .ref a13, .int 9, .int 0, .int 0])), (a1, .inr (0, [.int 0, .int 16510910, .int 0, .ref fk, .ref fq])), (a2, .inr (2, [.int 0, .int 0, .ref pk, .ref pq]))]) [0, 1, 2] (by decide) rfl
  have hFc := va_free (wc := [(x0, .inr (8, [.ref a1, .ref a2, .ref a3, .ref a4, .ref a5, .int 0, .ref a6, .ref a7, .ref a8, .ref a9, .ref a10, .ref a11, .ref a12, .ref a13, .int 9, .int 0, .int 0])), (a1, .inr (0, [.int 0, .int 16510910, .int 0, .ref fk, .ref fq])), (a2, .inr (2, [.int 0, .int 0, .ref pk, .ref pq]))]) hD hS hA [0, 1, 2] rfl
  refine va_calli (va_runV (As := [.int (xs 1)]) (rest := []) ⟨hx, hb, hml, hown, hts⟩ (c_X8_count l Z H.size x0 a1 a2 a3 a4 a5 a6 a7 a8 a9 a10 a11 a12 a13 fk fq pk pq (xs 1)) (cwV 1 hts gL_law_X8_count rfl rfl rfl (by decide +kernel) ⟨Nat.le_of_ble_eq_true rfl, Nat.le_of_ble_eq_true rfl⟩) ⟨fun a U g mk q => by obtain ⟨q0, q1, qP, qK, qD⟩ := q; exact ⟨q0, q1, qP, va_K.moved (u := U) (U := U.calling g mk a) (Vm.Alike.refl U.vm) qK, qD⟩, va_recv hK hPc (ci := 8) (q0 := 0) rfl rfl, fun U hU hW => ⟨rfl, by rw [hU], by rw [hU]; exact hPc, va_K.moved hW.alike hK, hDc.weaken (fun _ _ _ _ => trivial)⟩⟩ rfl rfl hl.1 rfl (lv_room (Nat.le_of_ble_eq_true rfl)) dL_law_455 ⟨Nat.le_of_ble_eq_true rfl, Nat.le_of_ble_eq_true rfl⟩) hS (fun q _ h => hFc q h) hFc (fun r_3 u t H1 locs ht hvm hw hB hz1 hk1 hS => ?_)
  subst hw
  have hP1 : va_P Z.1 vwCl [] H1 := fun k q h => by simp at h
  have hD1 : va_D (va_A [(x0, .inr (8, [.ref a1, .ref a2, .ref a3, .ref a4, .ref a5, .int 0, .ref a6, .ref a7, .ref a8, .ref a9, .ref a10, .ref a11, .ref a12, .ref a13, .int 9, .int 0, .int 0])), (a1, .inr (0, [.int 0, .int 16510910, .int 0, .ref fk, .ref fq])), (a2, .inr (2, [.int 0, .int 0, .ref pk, .ref pq]))] H.size) [] := ⟨fun i j p q h => by simp at h, fun k q h => by simp at h⟩
  obtain ⟨hP, hD⟩ := va_join (wr := [(m0, .inr (9, [.ref b1, .ref b2, .ref b3, .ref b4, .int 0, .ref b5, .int 0, .ref b6, .ref b7, .ref b8, .int 0, .int 0, .int 0, .ref b9, .ref b10, .ref b11, .ref b12, .ref b13, .ref b14, .ref b15, .ref b16, .ref b17, .ref b18, .int 0, .ref b19, .ref b20, .ref b21, .ref b22, .ref b23, .ref b24, .ref b25]))]) (w1 := []) hP hD [0, 1, 2] [3] rfl rfl (by decide) (by decide) hk1 hFc hP1 hD1
  clear hPc hDc hP1 hD1 hk1 hz1 hFc ht hvm
  generalize H1 = H at hP hS ⊢
  have hP : va_P Z.1 vwCl [(m0, .inr (9, [.ref b1, .ref b2, .ref b3, .ref b4, .int 0, .ref b5, .int 0, .ref b6, .ref b7, .ref b8, .int 0, .int 0, .int 0, .ref b9, .ref b10, .ref b11, .ref b12, .ref b13, .ref b14, .ref b15, .ref b16, .ref b17, .ref b18, .int 0, .ref b19, .ref b20, .ref b21, .ref b22, .ref b23, .ref b24, .ref b25]))] H := hP
  have hD : va_D A [(m0, .inr (9, [.ref b1, .ref b2, .ref b3, .ref b4, .int 0, .ref b5, .int 0, .ref b6, .ref b7, .ref b8, .int 0, .int 0, .int 0, .ref b9, .ref b10, .ref b11, .ref b12, .ref b13, .ref b14, .ref b15, .ref b16, .ref b17, .ref b18, .int 0, .ref b19, .ref b20, .ref b21, .ref b22, .ref b23, .ref b24, .ref b25]))] := hD
  refine lv_aload_n hx hb dL_law_458 rfl (lv_at hl 2 rfl) ?_
  refine lv_aload_n hx hb dL_law_459 rfl (lv_at hl 0 rfl) ?_
  refine lv_iload_n hx hb dL_law_460 rfl (lv_at hl 3 rfl) ?_
  refine lv_iconst (v := 1) hx hb dL_law_461 (by decide) ?_
  refine lv_iadd hx hb dL_law_462 ?_
  refine lv_topi (fun f_4 ef_4 => ?_)
  obtain rfl : f_4 = 1 := ef_4.trans (by decide)
  refine va_sld hx hb hX hbl hbA hS (z_in (by decide)) dL_law_463 ?_
  refine lv_topi (fun f_5 ef_5 => ?_)
  obtain rfl : f_5 = xs 1 := ef_5
  have hPc := hP.sub (ws' := [(m0, .inr (9, [.ref b1, .ref b2, .ref b3, .ref b4, .int 0, .ref b5, .int 0, .ref b6, .ref b7, .ref b8, .int 0, .int 0, .int 0, .ref b9, .ref b10, .ref b11, .ref b12, .ref b13, .ref b14, .ref b15, .ref b16, .ref b17, .ref b18, .int 0, .ref b19, .ref b20, .ref b21, .ref b22, .ref b23, .ref b24, .ref b25]))]) [0] rfl
  have hDc := hD.sub (ws' := [(m0, .inr (9, [.ref b1, .ref b2, .ref b3, .ref b4, .int 0, .ref b5, .int 0, .ref b6, .ref b7, .ref b8, .int 0, .int 0, .int 0, .ref b9, .ref b10, .ref b11, .ref b12, .ref b13, .ref b14, .ref b15, .ref b16, .ref b17, .ref b18, .int 0, .ref b19, .ref b20, .ref b21, .ref b22, .ref b23, .ref b24, .ref b25]))]) [0] (by decide) rfl
  have hFc := va_free (wc := [(m0, .inr (9, [.ref b1, .ref b2, .ref b3, .ref b4, .int 0, .ref b5, .int 0, .ref b6, .ref b7, .ref b8, .int 0, .int 0, .int 0, .ref b9, .ref b10, .ref b11, .ref b12, .ref b13, .ref b14, .ref b15, .ref b16, .ref b17, .ref b18, .int 0, .ref b19, .ref b20, .ref b21, .ref b22, .ref b23, .ref b24, .ref b25]))]) hD hS hA [0] rfl
  refine va_calli (va_runV (As := [.int (xs 1)]) (rest := [.int (if (xs 1) = 0 then (0 : Int32) else (if (xs 1) = 1 then (0 : Int32) else (if (xs 1) = 2 then (0 : Int32) else (if (xs 1) = 3 then (0 : Int32) else (if (xs 1) = 4 then (0 : Int32) else (-1 : Int32))))))]) ⟨hx, hb, hml, hown, hts⟩ (c_X9_count l Z H.size m0 b1 b2 b3 b4 b5 b6 b7 b8 b9 b10 b11 b12 b13 b14 b15 b16 b17 b18 b19 b20 b21 b22 b23 b24 b25 (xs 1)) (cwV 1 hts gL_law_X9_count rfl rfl rfl (by decide +kernel) ⟨Nat.le_of_ble_eq_true rfl, Nat.le_of_ble_eq_true rfl⟩) ⟨fun a U g mk q => by obtain ⟨q0, q1, qP, qK, qD⟩ := q; exact ⟨q0, q1, qP, va_K.moved (u := U) (U := U.calling g mk a) (Vm.Alike.refl U.vm) qK, qD⟩, va_recv hK hPc (ci := 9) (q0 := 0) rfl rfl, fun U hU hW => ⟨rfl, by rw [hU], by rw [hU]; exact hPc, va_K.moved hW.alike hK, hDc.weaken (fun _ _ _ _ => trivial)⟩⟩ rfl rfl hl.1 rfl (lv_room (Nat.le_of_ble_eq_true rfl)) dL_law_464 ⟨Nat.le_of_ble_eq_true rfl, Nat.le_of_ble_eq_true rfl⟩) hS (fun q _ h => hFc q h) hFc (fun r_6 u t H1 locs ht hvm hw hB hz1 hk1 hS => ?_)
  subst hw
  have hP1 : va_P Z.1 vwCl [] H1 := fun k q h => by simp at h
  have hD1 : va_D (va_A [(m0, .inr (9, [.ref b1, .ref b2, .ref b3, .ref b4, .int 0, .ref b5, .int 0, .ref b6, .ref b7, .ref b8, .int 0, .int 0, .int 0, .ref b9, .ref b10, .ref b11, .ref b12, .ref b13, .ref b14, .ref b15, .ref b16, .ref b17, .ref b18, .int 0, .ref b19, .ref b20, .ref b21, .ref b22, .ref b23, .ref b24, .ref b25]))] H.size) [] := ⟨fun i j p q h => by simp at h, fun k q h => by simp at h⟩
  obtain ⟨hP, hD⟩ := va_join (wr := []) (w1 := []) hP hD [0] [] rfl rfl (by decide) (by decide) hk1 hFc hP1 hD1
  clear hPc hDc hP1 hD1 hk1 hz1 hFc ht hvm
  generalize H1 = H at hP hS ⊢
  have hP : va_P Z.1 vwCl [] H := hP
  have hD : va_D A [] := hD
  refine lv_icmp_eq (tgt := 1054) hx hb dL_law_467 (by decide) (fun _ => ?_) (fun c9 => absurd (rfl) c9)
  exact law_tail C0 hAe (Nat.le_of_ble_eq_true rfl) (Nat.le_of_ble_eq_true rfl) hS (lv_sub hl [0, 3] rfl)
set_option maxHeartbeats 4000000 in
set_option maxRecDepth 100000 in
theorem law_10 {p : Program} {l : Launch} {e : Env} {s : State} {m : MethodId} {below : List Frame} {meth : Method} {c : Code} {b : Nat} {xs : Nat → Int32} (C0 : lw_At p s m meth c b 6 xs) {A : Nat → Prop} (hAe : A = fun q : Nat => s.heap.size ≤ q) (Z : gZ) (kA vA : Nat) (hK : va_K Z.1 vwCl (gT Z) s) (hG : gS kA vA A s) (x0 : Nat) (a1 : Nat) (a2 : Nat) (a3 : Nat) (a4 : Nat) (a5 : Nat) (a6 : Nat) (a7 : Nat) (a8 : Nat) (a9 : Nat) (a10 : Nat) (a11 : Nat) (a12 : Nat) (a13 : Nat) (fk : Nat) (fq : Nat) (pk : Nat) (pq : Nat) (tk : Nat) (kk : Nat) (kq : Nat) (lk : Nat) (lq : Nat) (uk : Nat) (uq : Nat) (vk : Nat) (vq : Nat) (m0 : Nat) (b1 : Nat) (b2 : Nat) (b3 : Nat) (b4 : Nat) (b5 : Nat) (b6 : Nat) (b7 : Nat) (b8 : Nat) (b9 : Nat) (b10 : Nat) (b11 : Nat) (b12 : Nat) (b13 : Nat) (b14 : Nat) (b15 : Nat) (b16 : Nat) (b17 : Nat) (b18 : Nat) (b19 : Nat) (b20 : Nat) (b21 : Nat) (b22 : Nat) (b23 : Nat) (b24 : Nat) (b25 : Nat) (fl : Nat → Int32) (hfl : ∀ j, j < 4 → fl j = -1) {H : Heap} {locs : List Loc} {ls : Array Slot} (hP : va_P Z.1 vwCl (zFull Z x0 a1 a2 a3 a4 a5 a6 a7 a8 a9 a10 a11 a12 a13 fk fq pk pq tk kk kq lk lq uk uq vk vq m0 b1 b2 b3 b4 b5 b6 b7 b8 b9 b10 b11 b12 b13 b14 b15 b16 b17 b18 b19 b20 b21 b22 b23 b24 b25 fl) H) (hD : va_D A (zFull Z x0 a1 a2 a3 a4 a5 a6 a7 a8 a9 a10 a11 a12 a13 fk fq pk pq tk kk kq lk lq uk uq vk vq m0 b1 b2 b3 b4 b5 b6 b7 b8 b9 b10 b11 b12 b13 b14 b15 b16 b17 b18 b19 b20 b21 b22 b23 b24 b25 fl)) (hS : va_S A s.heap H locs) (hl : lv_has ls 4 [(0, .ref b), (1, .ref x0), (2, .ref m0), (3, .int 0)]) : W p l e room_1 s m #[Value.ref b] below meth c H locs 599000 7300000 (lw_Z below #[Value.ref b] s) (F0 m 472 ls []) := by
  obtain ⟨hx, hb, hr, hml, hown0, hts0, hX, hbl, hlocks, hgv⟩ := id C0
  have hown : s.vm.findClass RL = some m.cls := hown0
  have hts : ∀ w ∈ wsL_law, w.before #[Value.ref b] s = true := fun w h => hts0 w (wsL_law_in w h)
  have hA : ∀ q : Nat, s.heap.size ≤ q → A q := by rw [hAe]; exact fun _ h => h
  have hbA : ¬ A b := by rw [hAe]; exact Nat.not_le.mpr hbl
  have hP := hP.sub (ws' := [(x0, .inr (8, [.ref a1, .ref a2, .ref a3, .ref a4, .ref a5, .int 0, .ref a6, .ref a7, .ref a8, .ref a9, .ref a10, .ref a11, .ref a12, .ref a13, .int 9, .int 0, .int 0])), (a2, .inr (2, [.int 0, .int 0, .ref pk, .ref pq])), (m0, .inr (9, [.ref b1, .ref b2, .ref b3, .ref b4, .int 0, .ref b5, .int 0, .ref b6, .ref b7, .ref b8, .int 0, .int 0, .int 0, .ref b9, .ref b10, .ref b11, .ref b12, .ref b13, .ref b14, .ref b15, .ref b16, .ref b17, .ref b18, .int 0, .ref b19, .ref b20, .ref b21, .ref b22, .ref b23, .ref b24, .ref b25])), (b2, .inl (Z.2 0, 5, .inl (fun _ => 0))), (b4, .inl (Z.2 0, 5, .inl (fun _ => 0))), (b6, .inl (Z.2 0, 5, .inl (fun _ => 0))), (b7, .inl (Z.2 0, 5, .inl (fun _ => 0)))]) [0, 4, 22, 24, 26, 28, 29] rfl
  have hD := hD.sub (ws' := [(x0, .inr (8, [.ref a1, .ref a2, .ref a3, .ref a4, .ref a5, .int 0, .ref a6, .ref a7, .ref a8, .ref a9, .ref a10, .ref a11, .ref a12, .ref a13, .int 9, .int 0, .int 0])), (a2, .inr (2, [.int 0, .int 0, .ref pk, .ref pq])), (m0, .inr (9, [.ref b1, .ref b2, .ref b3, .ref b4, .int 0, .ref b5, .int 0, .ref b6, .ref b7, .ref b8, .int 0, .int 0, .int 0, .ref b9, .ref b10, .ref b11, .ref b12, .ref b13, .ref b14, .ref b15, .ref b16, .ref b17, .ref b18, .int 0, .ref b19, .ref b20, .ref b21, .ref b22, .ref b23, .ref b24, .ref b25])), (b2, .inl (Z.2 0, 5, .inl (fun _ => 0))), (b4, .inl (Z.2 0, 5, .inl (fun _ => 0))), (b6, .inl (Z.2 0, 5, .inl (fun _ => 0))), (b7, .inl (Z.2 0, 5, .inl (fun _ => 0)))]) [0, 4, 22, 24, 26, 28, 29] (by decide) rfl
  refine lv_aload_n hx hb dL_law_472 rfl (lv_at hl 1 rfl) ?_
  have hPc := hP.sub (ws' := [(x0, .inr (8, [.ref a1, .ref a2, .ref a3, .ref a4, .ref a5, .int 0, .ref a6, .ref a7, .ref a8, .ref a9, .ref a10, .ref a11, .ref a12, .ref a13, .int 9, .int 0, .int 0])), (a2, .inr (2, [.int 0, .int 0, .ref pk, .ref pq]))]) [0, 1] rfl
  have hDc := hD.sub (ws' := [(x0, .inr (8, [.ref a1, .ref a2, .ref a3, .ref a4, .ref a5, .int 0, .ref a6, .ref a7, .ref a8, .ref a9, .ref a10, .ref a11, .ref a12, .ref a13, .int 9, .int 0, .int 0])), (a2, .inr (2, [.int 0, .int 0, .ref pk, .ref pq]))]) [0, 1] (by decide) rfl
  have hFc := va_free (wc := [(x0, .inr (8, [.ref a1, .ref a2, .ref a3, .ref a4, .ref a5, .int 0, .ref a6, .ref a7, .ref a8, .ref a9, .ref a10, .ref a11, .ref a12, .ref a13, .int 9, .int 0, .int 0])), (a2, .inr (2, [.int 0, .int 0, .ref pk, .ref pq]))]) hD hS hA [0, 1] rfl
  refine va_calli (va_runV (As := []) (rest := []) ⟨hx, hb, hml, hown, hts⟩ (c_X8_run l Z H.size x0 a1 a2 a3 a4 a5 a6 a7 a8 a9 a10 a11 a12 a13 pk pq) (cwV 0 hts gL_law_X8_run rfl rfl rfl (by decide +kernel) ⟨Nat.le_of_ble_eq_true rfl, Nat.le_of_ble_eq_true rfl⟩) ⟨fun a U g mk q => by obtain ⟨q0, q1, qP, qK, qD⟩ := q; exact ⟨q0, q1, qP, va_K.moved (u := U) (U := U.calling g mk a) (Vm.Alike.refl U.vm) qK, qD⟩, va_recv hK hPc (ci := 8) (q0 := 0) rfl rfl, fun U hU hW => ⟨rfl, by rw [hU], by rw [hU]; exact hPc, va_K.moved hW.alike hK, hDc.weaken (fun _ _ _ _ => trivial)⟩⟩ rfl rfl hl.1 rfl (lv_room (Nat.le_of_ble_eq_true rfl)) dL_law_473 ⟨Nat.le_of_ble_eq_true rfl, Nat.le_of_ble_eq_true rfl⟩) hS (fun q _ h => hFc q h) hFc (fun r_1 u t H1 locs ht hvm hw hB hz1 hk1 hS => ?_)
  subst hw
  have hP1 : va_P Z.1 vwCl [] H1 := fun k q h => by simp at h
  have hD1 : va_D (va_A [(x0, .inr (8, [.ref a1, .ref a2, .ref a3, .ref a4, .ref a5, .int 0, .ref a6, .ref a7, .ref a8, .ref a9, .ref a10, .ref a11, .ref a12, .ref a13, .int 9, .int 0, .int 0])), (a2, .inr (2, [.int 0, .int 0, .ref pk, .ref pq]))] H.size) [] := ⟨fun i j p q h => by simp at h, fun k q h => by simp at h⟩
  obtain ⟨hP, hD⟩ := va_join (wr := [(m0, .inr (9, [.ref b1, .ref b2, .ref b3, .ref b4, .int 0, .ref b5, .int 0, .ref b6, .ref b7, .ref b8, .int 0, .int 0, .int 0, .ref b9, .ref b10, .ref b11, .ref b12, .ref b13, .ref b14, .ref b15, .ref b16, .ref b17, .ref b18, .int 0, .ref b19, .ref b20, .ref b21, .ref b22, .ref b23, .ref b24, .ref b25])), (b2, .inl (Z.2 0, 5, .inl (fun _ => 0))), (b4, .inl (Z.2 0, 5, .inl (fun _ => 0))), (b6, .inl (Z.2 0, 5, .inl (fun _ => 0))), (b7, .inl (Z.2 0, 5, .inl (fun _ => 0)))]) (w1 := []) hP hD [0, 1] [2, 3, 4, 5, 6] rfl rfl (by decide) (by decide) hk1 hFc hP1 hD1
  clear hPc hDc hP1 hD1 hk1 hz1 hFc ht hvm
  generalize H1 = H at hP hS ⊢
  have hP : va_P Z.1 vwCl [(m0, .inr (9, [.ref b1, .ref b2, .ref b3, .ref b4, .int 0, .ref b5, .int 0, .ref b6, .ref b7, .ref b8, .int 0, .int 0, .int 0, .ref b9, .ref b10, .ref b11, .ref b12, .ref b13, .ref b14, .ref b15, .ref b16, .ref b17, .ref b18, .int 0, .ref b19, .ref b20, .ref b21, .ref b22, .ref b23, .ref b24, .ref b25])), (b2, .inl (Z.2 0, 5, .inl (fun _ => 0))), (b4, .inl (Z.2 0, 5, .inl (fun _ => 0))), (b6, .inl (Z.2 0, 5, .inl (fun _ => 0))), (b7, .inl (Z.2 0, 5, .inl (fun _ => 0)))] H := hP
  have hD : va_D A [(m0, .inr (9, [.ref b1, .ref b2, .ref b3, .ref b4, .int 0, .ref b5, .int 0, .ref b6, .ref b7, .ref b8, .int 0, .int 0, .int 0, .ref b9, .ref b10, .ref b11, .ref b12, .ref b13, .ref b14, .ref b15, .ref b16, .ref b17, .ref b18, .int 0, .ref b19, .ref b20, .ref b21, .ref b22, .ref b23, .ref b24, .ref b25])), (b2, .inl (Z.2 0, 5, .inl (fun _ => 0))), (b4, .inl (Z.2 0, 5, .inl (fun _ => 0))), (b6, .inl (Z.2 0, 5, .inl (fun _ => 0))), (b7, .inl (Z.2 0, 5, .inl (fun _ => 0)))] := hD
  refine lv_aload_n hx hb dL_law_476 rfl (lv_at hl 2 rfl) ?_
  have hPc := hP.sub (ws' := [(m0, .inr (9, [.ref b1, .ref b2, .ref b3, .ref b4, .int 0, .ref b5, .int 0, .ref b6, .ref b7, .ref b8, .int 0, .int 0, .int 0, .ref b9, .ref b10, .ref b11, .ref b12, .ref b13, .ref b14, .ref b15, .ref b16, .ref b17, .ref b18, .int 0, .ref b19, .ref b20, .ref b21, .ref b22, .ref b23, .ref b24, .ref b25])), (b2, .inl (Z.2 0, 5, .inl (fun _ => 0))), (b4, .inl (Z.2 0, 5, .inl (fun _ => 0))), (b6, .inl (Z.2 0, 5, .inl (fun _ => 0))), (b7, .inl (Z.2 0, 5, .inl (fun _ => 0)))]) [0, 1, 2, 3, 4] rfl
  have hDc := hD.sub (ws' := [(m0, .inr (9, [.ref b1, .ref b2, .ref b3, .ref b4, .int 0, .ref b5, .int 0, .ref b6, .ref b7, .ref b8, .int 0, .int 0, .int 0, .ref b9, .ref b10, .ref b11, .ref b12, .ref b13, .ref b14, .ref b15, .ref b16, .ref b17, .ref b18, .int 0, .ref b19, .ref b20, .ref b21, .ref b22, .ref b23, .ref b24, .ref b25])), (b2, .inl (Z.2 0, 5, .inl (fun _ => 0))), (b4, .inl (Z.2 0, 5, .inl (fun _ => 0))), (b6, .inl (Z.2 0, 5, .inl (fun _ => 0))), (b7, .inl (Z.2 0, 5, .inl (fun _ => 0)))]) [0, 1, 2, 3, 4] (by decide) rfl
  have hFc := va_free (wc := [(m0, .inr (9, [.ref b1, .ref b2, .ref b3, .ref b4, .int 0, .ref b5, .int 0, .ref b6, .ref b7, .ref b8, .int 0, .int 0, .int 0, .ref b9, .ref b10, .ref b11, .ref b12, .ref b13, .ref b14, .ref b15, .ref b16, .ref b17, .ref b18, .int 0, .ref b19, .ref b20, .ref b21, .ref b22, .ref b23, .ref b24, .ref b25])), (b2, .inl (Z.2 0, 5, .inl (fun _ => 0))), (b4, .inl (Z.2 0, 5, .inl (fun _ => 0))), (b6, .inl (Z.2 0, 5, .inl (fun _ => 0))), (b7, .inl (Z.2 0, 5, .inl (fun _ => 0)))]) hD hS hA [0, 1, 2, 3, 4] rfl
  refine va_calli (va_runV (As := []) (rest := [.int 0]) ⟨hx, hb, hml, hown, hts⟩ (c_X9_run l Z H.size m0 b1 b2 b3 b4 b5 b6 b7 b8 b9 b10 b11 b12 b13 b14 b15 b16 b17 b18 b19 b20 b21 b22 b23 b24 b25 (fun _ => 0) (fun _ => 0) (fun _ => 0) (fun _ => 0)) (cwV 0 hts gL_law_X9_run rfl rfl rfl (by decide +kernel) ⟨Nat.le_of_ble_eq_true rfl, Nat.le_of_ble_eq_true rfl⟩) ⟨fun a U g mk q => by obtain ⟨q0, q1, qP, qK, qD⟩ := q; exact ⟨q0, q1, qP, va_K.moved (u := U) (U := U.calling g mk a) (Vm.Alike.refl U.vm) qK, qD⟩, va_recv hK hPc (ci := 9) (q0 := 0) rfl rfl, fun U hU hW => ⟨rfl, by rw [hU], by rw [hU]; exact hPc, va_K.moved hW.alike hK, hDc.weaken (fun _ _ _ _ => trivial)⟩⟩ rfl rfl hl.1 rfl (lv_room (Nat.le_of_ble_eq_true rfl)) dL_law_477 ⟨Nat.le_of_ble_eq_true rfl, Nat.le_of_ble_eq_true rfl⟩) hS (fun q _ h => hFc q h) hFc (fun r_2 u t H1 locs ht hvm hw hB hz1 hk1 hS => ?_)
  subst hw
  have hP1 : va_P Z.1 vwCl [] H1 := fun k q h => by simp at h
  have hD1 : va_D (va_A [(m0, .inr (9, [.ref b1, .ref b2, .ref b3, .ref b4, .int 0, .ref b5, .int 0, .ref b6, .ref b7, .ref b8, .int 0, .int 0, .int 0, .ref b9, .ref b10, .ref b11, .ref b12, .ref b13, .ref b14, .ref b15, .ref b16, .ref b17, .ref b18, .int 0, .ref b19, .ref b20, .ref b21, .ref b22, .ref b23, .ref b24, .ref b25])), (b2, .inl (Z.2 0, 5, .inl (fun _ => 0))), (b4, .inl (Z.2 0, 5, .inl (fun _ => 0))), (b6, .inl (Z.2 0, 5, .inl (fun _ => 0))), (b7, .inl (Z.2 0, 5, .inl (fun _ => 0)))] H.size) [] := ⟨fun i j p q h => by simp at h, fun k q h => by simp at h⟩
  obtain ⟨hP, hD⟩ := va_join (wr := []) (w1 := []) hP hD [0, 1, 2, 3, 4] [] rfl rfl (by decide) (by decide) hk1 hFc hP1 hD1
  clear hPc hDc hP1 hD1 hk1 hz1 hFc ht hvm
  generalize H1 = H at hP hS ⊢
  have hP : va_P Z.1 vwCl [] H := hP
  have hD : va_D A [] := hD
  refine lv_icmp_eq (tgt := 1054) hx hb dL_law_480 (by decide) (fun _ => ?_) (fun c9 => absurd c9 (by decide))
  exact law_tail C0 hAe (Nat.le_of_ble_eq_true rfl) (Nat.le_of_ble_eq_true rfl) hS (lv_sub hl [0, 3] rfl)
set_option maxHeartbeats 4000000 in
set_option maxRecDepth 100000 in
theorem law_11 {p : Program} {l : Launch} {e : Env} {s : State} {m : MethodId} {below : List Frame} {meth : Method} {c : Code} {b : Nat} {xs : Nat → Int32} (C0 : lw_At p s m meth c b 6 xs) {A : Nat → Prop} (hAe : A = fun q : Nat => s.heap.size ≤ q) (Z : gZ) (kA vA : Nat) (hK : va_K Z.1 vwCl (gT Z) s) (hG : gS kA vA A s) (x0 : Nat) (a1 : Nat) (a2 : Nat) (a3 : Nat) (a4 : Nat) (a5 : Nat) (a6 : Nat) (a7 : Nat) (a8 : Nat) (a9 : Nat) (a10 : Nat) (a11 : Nat) (a12 : Nat) (a13 : Nat) (fk : Nat) (fq : Nat) (pk : Nat) (pq : Nat) (tk : Nat) (kk : Nat) (kq : Nat) (lk : Nat) (lq : Nat) (uk : Nat) (uq : Nat) (vk : Nat) (vq : Nat) (m0 : Nat) (b1 : Nat) (b2 : Nat) (b3 : Nat) (b4 : Nat) (b5 : Nat) (b6 : Nat) (b7 : Nat) (b8 : Nat) (b9 : Nat) (b10 : Nat) (b11 : Nat) (b12 : Nat) (b13 : Nat) (b14 : Nat) (b15 : Nat) (b16 : Nat) (b17 : Nat) (b18 : Nat) (b19 : Nat) (b20 : Nat) (b21 : Nat) (b22 : Nat) (b23 : Nat) (b24 : Nat) (b25 : Nat) (fl : Nat → Int32) (hfl : ∀ j, j < 4 → fl j = -1) {H : Heap} {locs : List Loc} {ls : Array Slot} (hP : va_P Z.1 vwCl (zFull Z x0 a1 a2 a3 a4 a5 a6 a7 a8 a9 a10 a11 a12 a13 fk fq pk pq tk kk kq lk lq uk uq vk vq m0 b1 b2 b3 b4 b5 b6 b7 b8 b9 b10 b11 b12 b13 b14 b15 b16 b17 b18 b19 b20 b21 b22 b23 b24 b25 fl) H) (hD : va_D A (zFull Z x0 a1 a2 a3 a4 a5 a6 a7 a8 a9 a10 a11 a12 a13 fk fq pk pq tk kk kq lk lq uk uq vk vq m0 b1 b2 b3 b4 b5 b6 b7 b8 b9 b10 b11 b12 b13 b14 b15 b16 b17 b18 b19 b20 b21 b22 b23 b24 b25 fl)) (hS : va_S A s.heap H locs) (hl : lv_has ls 4 [(0, .ref b), (1, .ref x0), (2, .ref m0), (3, .int 0)]) : W p l e room_1 s m #[Value.ref b] below meth c H locs 599000 7300000 (lw_Z below #[Value.ref b] s) (F0 m 485 ls []) := by
  obtain ⟨hx, hb, hr, hml, hown0, hts0, hX, hbl, hlocks, hgv⟩ := id C0
  have hown : s.vm.findClass RL = some m.cls := hown0
  have hts : ∀ w ∈ wsL_law, w.before #[Value.ref b] s = true := fun w h => hts0 w (wsL_law_in w h)
  have hA : ∀ q : Nat, s.heap.size ≤ q → A q := by rw [hAe]; exact fun _ h => h
  have hbA : ¬ A b := by rw [hAe]; exact Nat.not_le.mpr hbl
  have hP := hP.sub (ws' := [(x0, .inr (8, [.ref a1, .ref a2, .ref a3, .ref a4, .ref a5, .int 0, .ref a6, .ref a7, .ref a8, .ref a9, .ref a10, .ref a11, .ref a12, .ref a13, .int 9, .int 0, .int 0])), (a1, .inr (0, [.int 0, .int 16510910, .int 0, .ref fk, .ref fq])), (m0, .inr (9, [.ref b1, .ref b2, .ref b3, .ref b4, .int 0, .ref b5, .int 0, .ref b6, .ref b7, .ref b8, .int 0, .int 0, .int 0, .ref b9, .ref b10, .ref b11, .ref b12, .ref b13, .ref b14, .ref b15, .ref b16, .ref b17, .ref b18, .int 0, .ref b19, .ref b20, .ref b21, .ref b22, .ref b23, .ref b24, .ref b25]))]) [0, 1, 22] rfl
  have hD := hD.sub (ws' := [(x0, .inr (8, [.ref a1, .ref a2, .ref a3, .ref a4, .ref a5, .int 0, .ref a6, .ref a7, .ref a8, .ref a9, .ref a10, .ref a11, .ref a12, .ref a13, .int 9, .int 0, .int 0])), (a1, .inr (0, [.int 0, .int 16510910, .int 0, .ref fk, .ref fq])), (m0, .inr (9, [.ref b1, .ref b2, .ref b3, .ref b4, .int 0, .ref b5, .int 0, .ref b6, .ref b7, .ref b8, .int 0, .int 0, .int 0, .ref b9, .ref b10, .ref b11, .ref b12, .ref b13, .ref b14, .ref b15, .ref b16, .ref b17, .ref b18, .int 0, .ref b19, .ref b20, .ref b21, .ref b22, .ref b23, .ref b24, .ref b25]))]) [0, 1, 22] (by decide) rfl
  refine lv_aload_n hx hb dL_law_485 rfl (lv_at hl 1 rfl) ?_
  refine lv_aload_n hx hb dL_law_486 rfl (lv_at hl 0 rfl) ?_
  refine lv_iload_n hx hb dL_law_487 rfl (lv_at hl 3 rfl) ?_
  refine lv_iconst (v := 1) hx hb dL_law_488 (by decide) ?_
  refine lv_iadd hx hb dL_law_489 ?_
  refine lv_topi (fun f_1 ef_1 => ?_)
  obtain rfl : f_1 = 1 := ef_1.trans (by decide)
  refine va_sld hx hb hX hbl hbA hS (z_in (by decide)) dL_law_490 ?_
  refine lv_topi (fun f_2 ef_2 => ?_)
  obtain rfl : f_2 = xs 1 := ef_2
  have hPc := hP.sub (ws' := [(x0, .inr (8, [.ref a1, .ref a2, .ref a3, .ref a4, .ref a5, .int 0, .ref a6, .ref a7, .ref a8, .ref a9, .ref a10, .ref a11, .ref a12, .ref a13, .int 9, .int 0, .int 0])), (a1, .inr (0, [.int 0, .int 16510910, .int 0, .ref fk, .ref fq]))]) [0, 1] rfl
  have hDc := hD.sub (ws' := [(x0, .inr (8, [.ref a1, .ref a2, .ref a3, .ref a4, .ref a5, .int 0, .ref a6, .ref a7, .ref a8, .ref a9, .ref a10, .ref a11, .ref a12, .ref a13, .int 9, .int 0, .int 0])), (a1, .inr (0, [.int 0, .int 16510910, .int 0, .ref fk, .ref fq]))]) [0, 1] (by decide) rfl
  have hFc := va_free (wc := [(x0, .inr (8, [.ref a1, .ref a2, .ref a3, .ref a4, .ref a5, .int 0, .ref a6, .ref a7, .ref a8, .ref a9, .ref a10, .ref a11, .ref a12, .ref a13, .int 9, .int 0, .int 0])), (a1, .inr (0, [.int 0, .int 16510910, .int 0, .ref fk, .ref fq]))]) hD hS hA [0, 1] rfl
  refine va_calli (va_runV (As := [.int (xs 1)]) (rest := []) ⟨hx, hb, hml, hown, hts⟩ (c_X8_most l Z H.size x0 a1 a2 a3 a4 a5 a6 a7 a8 a9 a10 a11 a12 a13 fk fq (xs 1)) (cwV 1 hts gL_law_X8_most rfl rfl rfl (by decide +kernel) ⟨Nat.le_of_ble_eq_true rfl, Nat.le_of_ble_eq_true rfl⟩) ⟨fun a U g mk q => by obtain ⟨q0, q1, qP, qK, qD⟩ := q; exact ⟨q0, q1, qP, va_K.moved (u := U) (U := U.calling g mk a) (Vm.Alike.refl U.vm) qK, qD⟩, va_recv hK hPc (ci := 8) (q0 := 0) rfl rfl, fun U hU hW => ⟨rfl, by rw [hU], by rw [hU]; exact hPc, va_K.moved hW.alike hK, hDc.weaken (fun _ _ _ _ => trivial)⟩⟩ rfl rfl hl.1 rfl (lv_room (Nat.le_of_ble_eq_true rfl)) dL_law_491 ⟨Nat.le_of_ble_eq_true rfl, Nat.le_of_ble_eq_true rfl⟩) hS (fun q _ h => hFc q h) hFc (fun r_3 u t H1 locs ht hvm hw hB hz1 hk1 hS => ?_)
  subst hw
  have hP1 : va_P Z.1 vwCl [] H1 := fun k q h => by simp at h
  have hD1 : va_D (va_A [(x0, .inr (8, [.ref a1, .ref a2, .ref a3, .ref a4, .ref a5, .int 0, .ref a6, .ref a7, .ref a8, .ref a9, .ref a10, .ref a11, .ref a12, .ref a13, .int 9, .int 0, .int 0])), (a1, .inr (0, [.int 0, .int 16510910, .int 0, .ref fk, .ref fq]))] H.size) [] := ⟨fun i j p q h => by simp at h, fun k q h => by simp at h⟩
  obtain ⟨hP, hD⟩ := va_join (wr := [(m0, .inr (9, [.ref b1, .ref b2, .ref b3, .ref b4, .int 0, .ref b5, .int 0, .ref b6, .ref b7, .ref b8, .int 0, .int 0, .int 0, .ref b9, .ref b10, .ref b11, .ref b12, .ref b13, .ref b14, .ref b15, .ref b16, .ref b17, .ref b18, .int 0, .ref b19, .ref b20, .ref b21, .ref b22, .ref b23, .ref b24, .ref b25]))]) (w1 := []) hP hD [0, 1] [2] rfl rfl (by decide) (by decide) hk1 hFc hP1 hD1
  clear hPc hDc hP1 hD1 hk1 hz1 hFc ht hvm
  generalize H1 = H at hP hS ⊢
  have hP : va_P Z.1 vwCl [(m0, .inr (9, [.ref b1, .ref b2, .ref b3, .ref b4, .int 0, .ref b5, .int 0, .ref b6, .ref b7, .ref b8, .int 0, .int 0, .int 0, .ref b9, .ref b10, .ref b11, .ref b12, .ref b13, .ref b14, .ref b15, .ref b16, .ref b17, .ref b18, .int 0, .ref b19, .ref b20, .ref b21, .ref b22, .ref b23, .ref b24, .ref b25]))] H := hP
  have hD : va_D A [(m0, .inr (9, [.ref b1, .ref b2, .ref b3, .ref b4, .int 0, .ref b5, .int 0, .ref b6, .ref b7, .ref b8, .int 0, .int 0, .int 0, .ref b9, .ref b10, .ref b11, .ref b12, .ref b13, .ref b14, .ref b15, .ref b16, .ref b17, .ref b18, .int 0, .ref b19, .ref b20, .ref b21, .ref b22, .ref b23, .ref b24, .ref b25]))] := hD
  refine lv_aload_n hx hb dL_law_494 rfl (lv_at hl 2 rfl) ?_
  refine lv_aload_n hx hb dL_law_495 rfl (lv_at hl 0 rfl) ?_
  refine lv_iload_n hx hb dL_law_496 rfl (lv_at hl 3 rfl) ?_
  refine lv_iconst (v := 1) hx hb dL_law_497 (by decide) ?_
  refine lv_iadd hx hb dL_law_498 ?_
  refine lv_topi (fun f_4 ef_4 => ?_)
  obtain rfl : f_4 = 1 := ef_4.trans (by decide)
  refine va_sld hx hb hX hbl hbA hS (z_in (by decide)) dL_law_499 ?_
  refine lv_topi (fun f_5 ef_5 => ?_)
  obtain rfl : f_5 = xs 1 := ef_5
  have hPc := hP.sub (ws' := [(m0, .inr (9, [.ref b1, .ref b2, .ref b3, .ref b4, .int 0, .ref b5, .int 0, .ref b6, .ref b7, .ref b8, .int 0, .int 0, .int 0, .ref b9, .ref b10, .ref b11, .ref b12, .ref b13, .ref b14, .ref b15, .ref b16, .ref b17, .ref b18, .int 0, .ref b19, .ref b20, .ref b21, .ref b22, .ref b23, .ref b24, .ref b25]))]) [0] rfl
  have hDc := hD.sub (ws' := [(m0, .inr (9, [.ref b1, .ref b2, .ref b3, .ref b4, .int 0, .ref b5, .int 0, .ref b6, .ref b7, .ref b8, .int 0, .int 0, .int 0, .ref b9, .ref b10, .ref b11, .ref b12, .ref b13, .ref b14, .ref b15, .ref b16, .ref b17, .ref b18, .int 0, .ref b19, .ref b20, .ref b21, .ref b22, .ref b23, .ref b24, .ref b25]))]) [0] (by decide) rfl
  have hFc := va_free (wc := [(m0, .inr (9, [.ref b1, .ref b2, .ref b3, .ref b4, .int 0, .ref b5, .int 0, .ref b6, .ref b7, .ref b8, .int 0, .int 0, .int 0, .ref b9, .ref b10, .ref b11, .ref b12, .ref b13, .ref b14, .ref b15, .ref b16, .ref b17, .ref b18, .int 0, .ref b19, .ref b20, .ref b21, .ref b22, .ref b23, .ref b24, .ref b25]))]) hD hS hA [0] rfl
  refine va_calli (va_runV (As := [.int (xs 1)]) (rest := [.int (-1)]) ⟨hx, hb, hml, hown, hts⟩ (c_X9_most l Z H.size m0 b1 b2 b3 b4 b5 b6 b7 b8 b9 b10 b11 b12 b13 b14 b15 b16 b17 b18 b19 b20 b21 b22 b23 b24 b25 (xs 1)) (cwV 1 hts gL_law_X9_most rfl rfl rfl (by decide +kernel) ⟨Nat.le_of_ble_eq_true rfl, Nat.le_of_ble_eq_true rfl⟩) ⟨fun a U g mk q => by obtain ⟨q0, q1, qP, qK, qD⟩ := q; exact ⟨q0, q1, qP, va_K.moved (u := U) (U := U.calling g mk a) (Vm.Alike.refl U.vm) qK, qD⟩, va_recv hK hPc (ci := 9) (q0 := 0) rfl rfl, fun U hU hW => ⟨rfl, by rw [hU], by rw [hU]; exact hPc, va_K.moved hW.alike hK, hDc.weaken (fun _ _ _ _ => trivial)⟩⟩ rfl rfl hl.1 rfl (lv_room (Nat.le_of_ble_eq_true rfl)) dL_law_500 ⟨Nat.le_of_ble_eq_true rfl, Nat.le_of_ble_eq_true rfl⟩) hS (fun q _ h => hFc q h) hFc (fun r_6 u t H1 locs ht hvm hw hB hz1 hk1 hS => ?_)
  subst hw
  have hP1 : va_P Z.1 vwCl [] H1 := fun k q h => by simp at h
  have hD1 : va_D (va_A [(m0, .inr (9, [.ref b1, .ref b2, .ref b3, .ref b4, .int 0, .ref b5, .int 0, .ref b6, .ref b7, .ref b8, .int 0, .int 0, .int 0, .ref b9, .ref b10, .ref b11, .ref b12, .ref b13, .ref b14, .ref b15, .ref b16, .ref b17, .ref b18, .int 0, .ref b19, .ref b20, .ref b21, .ref b22, .ref b23, .ref b24, .ref b25]))] H.size) [] := ⟨fun i j p q h => by simp at h, fun k q h => by simp at h⟩
  obtain ⟨hP, hD⟩ := va_join (wr := []) (w1 := []) hP hD [0] [] rfl rfl (by decide) (by decide) hk1 hFc hP1 hD1
  clear hPc hDc hP1 hD1 hk1 hz1 hFc ht hvm
  generalize H1 = H at hP hS ⊢
  have hP : va_P Z.1 vwCl [] H := hP
  have hD : va_D A [] := hD
  refine lv_icmp_eq (tgt := 1054) hx hb dL_law_503 (by decide) (fun _ => ?_) (fun c9 => absurd c9 (by decide))
  exact law_tail C0 hAe (Nat.le_of_ble_eq_true rfl) (Nat.le_of_ble_eq_true rfl) hS (lv_sub hl [0, 3] rfl)
set_option maxHeartbeats 4000000 in
set_option maxRecDepth 100000 in
theorem law_12 {p : Program} {l : Launch} {e : Env} {s : State} {m : MethodId} {below : List Frame} {meth : Method} {c : Code} {b : Nat} {xs : Nat → Int32} (C0 : lw_At p s m meth c b 6 xs) {A : Nat → Prop} (hAe : A = fun q : Nat => s.heap.size ≤ q) (Z : gZ) (kA vA : Nat) (hK : va_K Z.1 vwCl (gT Z) s) (hG : gS kA vA A s) (x0 : Nat) (a1 : Nat) (a2 : Nat) (a3 : Nat) (a4 : Nat) (a5 : Nat) (a6 : Nat) (a7 : Nat) (a8 : Nat) (a9 : Nat) (a10 : Nat) (a11 : Nat) (a12 : Nat) (a13 : Nat) (fk : Nat) (fq : Nat) (pk : Nat) (pq : Nat) (tk : Nat) (kk : Nat) (kq : Nat) (lk : Nat) (lq : Nat) (uk : Nat) (uq : Nat) (vk : Nat) (vq : Nat) (m0 : Nat) (b1 : Nat) (b2 : Nat) (b3 : Nat) (b4 : Nat) (b5 : Nat) (b6 : Nat) (b7 : Nat) (b8 : Nat) (b9 : Nat) (b10 : Nat) (b11 : Nat) (b12 : Nat) (b13 : Nat) (b14 : Nat) (b15 : Nat) (b16 : Nat) (b17 : Nat) (b18 : Nat) (b19 : Nat) (b20 : Nat) (b21 : Nat) (b22 : Nat) (b23 : Nat) (b24 : Nat) (b25 : Nat) (fl : Nat → Int32) (hfl : ∀ j, j < 4 → fl j = -1) {H : Heap} {locs : List Loc} {ls : Array Slot} (hP : va_P Z.1 vwCl (zFull Z x0 a1 a2 a3 a4 a5 a6 a7 a8 a9 a10 a11 a12 a13 fk fq pk pq tk kk kq lk lq uk uq vk vq m0 b1 b2 b3 b4 b5 b6 b7 b8 b9 b10 b11 b12 b13 b14 b15 b16 b17 b18 b19 b20 b21 b22 b23 b24 b25 fl) H) (hD : va_D A (zFull Z x0 a1 a2 a3 a4 a5 a6 a7 a8 a9 a10 a11 a12 a13 fk fq pk pq tk kk kq lk lq uk uq vk vq m0 b1 b2 b3 b4 b5 b6 b7 b8 b9 b10 b11 b12 b13 b14 b15 b16 b17 b18 b19 b20 b21 b22 b23 b24 b25 fl)) (hS : va_S A s.heap H locs) (hl : lv_has ls 4 [(0, .ref b), (1, .ref x0), (2, .ref m0), (3, .int 0)]) : W p l e room_1 s m #[Value.ref b] below meth c H locs 599000 7300000 (lw_Z below #[Value.ref b] s) (F0 m 508 ls []) := by
  obtain ⟨hx, hb, hr, hml, hown0, hts0, hX, hbl, hlocks, hgv⟩ := id C0
  have hown : s.vm.findClass RL = some m.cls := hown0
  have hts : ∀ w ∈ wsL_law, w.before #[Value.ref b] s = true := fun w h => hts0 w (wsL_law_in w h)
  have hA : ∀ q : Nat, s.heap.size ≤ q → A q := by rw [hAe]; exact fun _ h => h
  have hbA : ¬ A b := by rw [hAe]; exact Nat.not_le.mpr hbl
  have hP := hP.sub (ws' := [(x0, .inr (8, [.ref a1, .ref a2, .ref a3, .ref a4, .ref a5, .int 0, .ref a6, .ref a7, .ref a8, .ref a9, .ref a10, .ref a11, .ref a12, .ref a13, .int 9, .int 0, .int 0])), (a1, .inr (0, [.int 0, .int 16510910, .int 0, .ref fk, .ref fq])), (m0, .inr (9, [.ref b1, .ref b2, .ref b3, .ref b4, .int 0, .ref b5, .int 0, .ref b6, .ref b7, .ref b8, .int 0, .int 0, .int 0, .ref b9, .ref b10, .ref b11, .ref b12, .ref b13, .ref b14, .ref b15, .ref b16, .ref b17, .ref b18, .int 0, .ref b19, .ref b20, .ref b21, .ref b22, .ref b23, .ref b24, .ref b25]))]) [0, 1, 22] rfl
  have hD := hD.sub (ws' := [(x0, .inr (8, [.ref a1, .ref a2, .ref a3, .ref a4, .ref a5, .int 0, .ref a6, .ref a7, .ref a8, .ref a9, .ref a10, .ref a11, .ref a12, .ref a13, .int 9, .int 0, .int 0])), (a1, .inr (0, [.int 0, .int 16510910, .int 0, .ref fk, .ref fq])), (m0, .inr (9, [.ref b1, .ref b2, .ref b3, .ref b4, .int 0, .ref b5, .int 0, .ref b6, .ref b7, .ref b8, .int 0, .int 0, .int 0, .ref b9, .ref b10, .ref b11, .ref b12, .ref b13, .ref b14, .ref b15, .ref b16, .ref b17, .ref b18, .int 0, .ref b19, .ref b20, .ref b21, .ref b22, .ref b23, .ref b24, .ref b25]))]) [0, 1, 22] (by decide) rfl
  refine lv_aload_n hx hb dL_law_508 rfl (lv_at hl 1 rfl) ?_
  refine lv_aload_n hx hb dL_law_509 rfl (lv_at hl 0 rfl) ?_
  refine lv_iload_n hx hb dL_law_510 rfl (lv_at hl 3 rfl) ?_
  refine lv_iconst (v := 1) hx hb dL_law_511 (by decide) ?_
  refine lv_iadd hx hb dL_law_512 ?_
  refine lv_topi (fun f_1 ef_1 => ?_)
  obtain rfl : f_1 = 1 := ef_1.trans (by decide)
  refine va_sld hx hb hX hbl hbA hS (z_in (by decide)) dL_law_513 ?_
  refine lv_topi (fun f_2 ef_2 => ?_)
  obtain rfl : f_2 = xs 1 := ef_2
  refine lv_aload_n hx hb dL_law_514 rfl (lv_at hl 0 rfl) ?_
  refine lv_iload_n hx hb dL_law_515 rfl (lv_at hl 3 rfl) ?_
  refine lv_iconst (v := 2) hx hb dL_law_516 (by decide) ?_
  refine lv_iadd hx hb dL_law_517 ?_
  refine lv_topi (fun f_3 ef_3 => ?_)
  obtain rfl : f_3 = 2 := ef_3.trans (by decide)
  refine va_sld hx hb hX hbl hbA hS (z_in (by decide)) dL_law_518 ?_
  refine lv_topi (fun f_4 ef_4 => ?_)
  obtain rfl : f_4 = xs 2 := ef_4
  have hPc := hP.sub (ws' := [(x0, .inr (8, [.ref a1, .ref a2, .ref a3, .ref a4, .ref a5, .int 0, .ref a6, .ref a7, .ref a8, .ref a9, .ref a10, .ref a11, .ref a12, .ref a13, .int 9, .int 0, .int 0])), (a1, .inr (0, [.int 0, .int 16510910, .int 0, .ref fk, .ref fq]))]) [0, 1] rfl
  have hDc := hD.sub (ws' := [(x0, .inr (8, [.ref a1, .ref a2, .ref a3, .ref a4, .ref a5, .int 0, .ref a6, .ref a7, .ref a8, .ref a9, .ref a10, .ref a11, .ref a12, .ref a13, .int 9, .int 0, .int 0])), (a1, .inr (0, [.int 0, .int 16510910, .int 0, .ref fk, .ref fq]))]) [0, 1] (by decide) rfl
  have hFc := va_free (wc := [(x0, .inr (8, [.ref a1, .ref a2, .ref a3, .ref a4, .ref a5, .int 0, .ref a6, .ref a7, .ref a8, .ref a9, .ref a10, .ref a11, .ref a12, .ref a13, .int 9, .int 0, .int 0])), (a1, .inr (0, [.int 0, .int 16510910, .int 0, .ref fk, .ref fq]))]) hD hS hA [0, 1] rfl
  refine va_calli (va_runV (As := [.int (xs 1), .int (xs 2)]) (rest := []) ⟨hx, hb, hml, hown, hts⟩ (c_X8_when l Z H.size x0 a1 a2 a3 a4 a5 a6 a7 a8 a9 a10 a11 a12 a13 fk fq (xs 1) (xs 2)) (cwV 2 hts gL_law_X8_when rfl rfl rfl (by decide +kernel) ⟨Nat.le_of_ble_eq_true rfl, Nat.le_of_ble_eq_true rfl⟩) ⟨fun a U g mk q => by obtain ⟨q0, q1, qP, qK, qD⟩ := q; exact ⟨q0, q1, qP, va_K.moved (u := U) (U := U.calling g mk a) (Vm.Alike.refl U.vm) qK, qD⟩, va_recv hK hPc (ci := 8) (q0 := 0) rfl rfl, fun U hU hW => ⟨rfl, by rw [hU], by rw [hU]; exact hPc, va_K.moved hW.alike hK, hDc.weaken (fun _ _ _ _ => trivial)⟩⟩ rfl rfl hl.1 rfl (lv_room (Nat.le_of_ble_eq_true rfl)) dL_law_519 ⟨Nat.le_of_ble_eq_true rfl, Nat.le_of_ble_eq_true rfl⟩) hS (fun q _ h => hFc q h) hFc (fun r_5 u t H1 locs ht hvm hw hB hz1 hk1 hS => ?_)
  subst hw
  have hP1 : va_P Z.1 vwCl [] H1 := fun k q h => by simp at h
  have hD1 : va_D (va_A [(x0, .inr (8, [.ref a1, .ref a2, .ref a3, .ref a4, .ref a5, .int 0, .ref a6, .ref a7, .ref a8, .ref a9, .ref a10, .ref a11, .ref a12, .ref a13, .int 9, .int 0, .int 0])), (a1, .inr (0, [.int 0, .int 16510910, .int 0, .ref fk, .ref fq]))] H.size) [] := ⟨fun i j p q h => by simp at h, fun k q h => by simp at h⟩
  obtain ⟨hP, hD⟩ := va_join (wr := [(m0, .inr (9, [.ref b1, .ref b2, .ref b3, .ref b4, .int 0, .ref b5, .int 0, .ref b6, .ref b7, .ref b8, .int 0, .int 0, .int 0, .ref b9, .ref b10, .ref b11, .ref b12, .ref b13, .ref b14, .ref b15, .ref b16, .ref b17, .ref b18, .int 0, .ref b19, .ref b20, .ref b21, .ref b22, .ref b23, .ref b24, .ref b25]))]) (w1 := []) hP hD [0, 1] [2] rfl rfl (by decide) (by decide) hk1 hFc hP1 hD1
  clear hPc hDc hP1 hD1 hk1 hz1 hFc ht hvm
  generalize H1 = H at hP hS ⊢
  have hP : va_P Z.1 vwCl [(m0, .inr (9, [.ref b1, .ref b2, .ref b3, .ref b4, .int 0, .ref b5, .int 0, .ref b6, .ref b7, .ref b8, .int 0, .int 0, .int 0, .ref b9, .ref b10, .ref b11, .ref b12, .ref b13, .ref b14, .ref b15, .ref b16, .ref b17, .ref b18, .int 0, .ref b19, .ref b20, .ref b21, .ref b22, .ref b23, .ref b24, .ref b25]))] H := hP
  have hD : va_D A [(m0, .inr (9, [.ref b1, .ref b2, .ref b3, .ref b4, .int 0, .ref b5, .int 0, .ref b6, .ref b7, .ref b8, .int 0, .int 0, .int 0, .ref b9, .ref b10, .ref b11, .ref b12, .ref b13, .ref b14, .ref b15, .ref b16, .ref b17, .ref b18, .int 0, .ref b19, .ref b20, .ref b21, .ref b22, .ref b23, .ref b24, .ref b25]))] := hD
  refine lv_aload_n hx hb dL_law_522 rfl (lv_at hl 2 rfl) ?_
  refine lv_aload_n hx hb dL_law_523 rfl (lv_at hl 0 rfl) ?_
  refine lv_iload_n hx hb dL_law_524 rfl (lv_at hl 3 rfl) ?_
  refine lv_iconst (v := 1) hx hb dL_law_525 (by decide) ?_
  refine lv_iadd hx hb dL_law_526 ?_
  refine lv_topi (fun f_6 ef_6 => ?_)
  obtain rfl : f_6 = 1 := ef_6.trans (by decide)
  refine va_sld hx hb hX hbl hbA hS (z_in (by decide)) dL_law_527 ?_
  refine lv_topi (fun f_7 ef_7 => ?_)
  obtain rfl : f_7 = xs 1 := ef_7
  refine lv_aload_n hx hb dL_law_528 rfl (lv_at hl 0 rfl) ?_
  refine lv_iload_n hx hb dL_law_529 rfl (lv_at hl 3 rfl) ?_
  refine lv_iconst (v := 2) hx hb dL_law_530 (by decide) ?_
  refine lv_iadd hx hb dL_law_531 ?_
  refine lv_topi (fun f_8 ef_8 => ?_)
  obtain rfl : f_8 = 2 := ef_8.trans (by decide)
  refine va_sld hx hb hX hbl hbA hS (z_in (by decide)) dL_law_532 ?_
  refine lv_topi (fun f_9 ef_9 => ?_)
  obtain rfl : f_9 = xs 2 := ef_9
  have hPc := hP.sub (ws' := [(m0, .inr (9, [.ref b1, .ref b2, .ref b3, .ref b4, .int 0, .ref b5, .int 0, .ref b6, .ref b7, .ref b8, .int 0, .int 0, .int 0, .ref b9, .ref b10, .ref b11, .ref b12, .ref b13, .ref b14, .ref b15, .ref b16, .ref b17, .ref b18, .int 0, .ref b19, .ref b20, .ref b21, .ref b22, .ref b23, .ref b24, .ref b25]))]) [0] rfl
  have hDc := hD.sub (ws' := [(m0, .inr (9, [.ref b1, .ref b2, .ref b3, .ref b4, .int 0, .ref b5, .int 0, .ref b6, .ref b7, .ref b8, .int 0, .int 0, .int 0, .ref b9, .ref b10, .ref b11, .ref b12, .ref b13, .ref b14, .ref b15, .ref b16, .ref b17, .ref b18, .int 0, .ref b19, .ref b20, .ref b21, .ref b22, .ref b23, .ref b24, .ref b25]))]) [0] (by decide) rfl
  have hFc := va_free (wc := [(m0, .inr (9, [.ref b1, .ref b2, .ref b3, .ref b4, .int 0, .ref b5, .int 0, .ref b6, .ref b7, .ref b8, .int 0, .int 0, .int 0, .ref b9, .ref b10, .ref b11, .ref b12, .ref b13, .ref b14, .ref b15, .ref b16, .ref b17, .ref b18, .int 0, .ref b19, .ref b20, .ref b21, .ref b22, .ref b23, .ref b24, .ref b25]))]) hD hS hA [0] rfl
  refine va_calli (va_runV (As := [.int (xs 1), .int (xs 2)]) (rest := [.int (-1)]) ⟨hx, hb, hml, hown, hts⟩ (c_X9_when l Z H.size m0 b1 b2 b3 b4 b5 b6 b7 b8 b9 b10 b11 b12 b13 b14 b15 b16 b17 b18 b19 b20 b21 b22 b23 b24 b25 (xs 1) (xs 2)) (cwV 2 hts gL_law_X9_when rfl rfl rfl (by decide +kernel) ⟨Nat.le_of_ble_eq_true rfl, Nat.le_of_ble_eq_true rfl⟩) ⟨fun a U g mk q => by obtain ⟨q0, q1, qP, qK, qD⟩ := q; exact ⟨q0, q1, qP, va_K.moved (u := U) (U := U.calling g mk a) (Vm.Alike.refl U.vm) qK, qD⟩, va_recv hK hPc (ci := 9) (q0 := 0) rfl rfl, fun U hU hW => ⟨rfl, by rw [hU], by rw [hU]; exact hPc, va_K.moved hW.alike hK, hDc.weaken (fun _ _ _ _ => trivial)⟩⟩ rfl rfl hl.1 rfl (lv_room (Nat.le_of_ble_eq_true rfl)) dL_law_533 ⟨Nat.le_of_ble_eq_true rfl, Nat.le_of_ble_eq_true rfl⟩) hS (fun q _ h => hFc q h) hFc (fun r_10 u t H1 locs ht hvm hw hB hz1 hk1 hS => ?_)
  subst hw
  have hP1 : va_P Z.1 vwCl [] H1 := fun k q h => by simp at h
  have hD1 : va_D (va_A [(m0, .inr (9, [.ref b1, .ref b2, .ref b3, .ref b4, .int 0, .ref b5, .int 0, .ref b6, .ref b7, .ref b8, .int 0, .int 0, .int 0, .ref b9, .ref b10, .ref b11, .ref b12, .ref b13, .ref b14, .ref b15, .ref b16, .ref b17, .ref b18, .int 0, .ref b19, .ref b20, .ref b21, .ref b22, .ref b23, .ref b24, .ref b25]))] H.size) [] := ⟨fun i j p q h => by simp at h, fun k q h => by simp at h⟩
  obtain ⟨hP, hD⟩ := va_join (wr := []) (w1 := []) hP hD [0] [] rfl rfl (by decide) (by decide) hk1 hFc hP1 hD1
  clear hPc hDc hP1 hD1 hk1 hz1 hFc ht hvm
  generalize H1 = H at hP hS ⊢
  have hP : va_P Z.1 vwCl [] H := hP
  have hD : va_D A [] := hD
  refine lv_icmp_eq (tgt := 1054) hx hb dL_law_536 (by decide) (fun _ => ?_) (fun c9 => absurd c9 (by decide))
  exact law_tail C0 hAe (Nat.le_of_ble_eq_true rfl) (Nat.le_of_ble_eq_true rfl) hS (lv_sub hl [0, 3] rfl)
set_option maxHeartbeats 4000000 in
set_option maxRecDepth 100000 in
theorem law_13 {p : Program} {l : Launch} {e : Env} {s : State} {m : MethodId} {below : List Frame} {meth : Method} {c : Code} {b : Nat} {xs : Nat → Int32} (C0 : lw_At p s m meth c b 6 xs) {A : Nat → Prop} (hAe : A = fun q : Nat => s.heap.size ≤ q) (Z : gZ) (kA vA : Nat) (hK : va_K Z.1 vwCl (gT Z) s) (hG : gS kA vA A s) (x0 : Nat) (a1 : Nat) (a2 : Nat) (a3 : Nat) (a4 : Nat) (a5 : Nat) (a6 : Nat) (a7 : Nat) (a8 : Nat) (a9 : Nat) (a10 : Nat) (a11 : Nat) (a12 : Nat) (a13 : Nat) (fk : Nat) (fq : Nat) (pk : Nat) (pq : Nat) (tk : Nat) (kk : Nat) (kq : Nat) (lk : Nat) (lq : Nat) (uk : Nat) (uq : Nat) (vk : Nat) (vq : Nat) (m0 : Nat) (b1 : Nat) (b2 : Nat) (b3 : Nat) (b4 : Nat) (b5 : Nat) (b6 : Nat) (b7 : Nat) (b8 : Nat) (b9 : Nat) (b10 : Nat) (b11 : Nat) (b12 : Nat) (b13 : Nat) (b14 : Nat) (b15 : Nat) (b16 : Nat) (b17 : Nat) (b18 : Nat) (b19 : Nat) (b20 : Nat) (b21 : Nat) (b22 : Nat) (b23 : Nat) (b24 : Nat) (b25 : Nat) (fl : Nat → Int32) (hfl : ∀ j, j < 4 → fl j = -1) {H : Heap} {locs : List Loc} {ls : Array Slot} (hP : va_P Z.1 vwCl (zFull Z x0 a1 a2 a3 a4 a5 a6 a7 a8 a9 a10 a11 a12 a13 fk fq pk pq tk kk kq lk lq uk uq vk vq m0 b1 b2 b3 b4 b5 b6 b7 b8 b9 b10 b11 b12 b13 b14 b15 b16 b17 b18 b19 b20 b21 b22 b23 b24 b25 fl) H) (hD : va_D A (zFull Z x0 a1 a2 a3 a4 a5 a6 a7 a8 a9 a10 a11 a12 a13 fk fq pk pq tk kk kq lk lq uk uq vk vq m0 b1 b2 b3 b4 b5 b6 b7 b8 b9 b10 b11 b12 b13 b14 b15 b16 b17 b18 b19 b20 b21 b22 b23 b24 b25 fl)) (hS : va_S A s.heap H locs) (hl : lv_has ls 4 [(0, .ref b), (1, .ref x0), (2, .ref m0), (3, .int 0)]) : W p l e room_1 s m #[Value.ref b] below meth c H locs 599000 7300000 (lw_Z below #[Value.ref b] s) (F0 m 541 ls []) := by
  obtain ⟨hx, hb, hr, hml, hown0, hts0, hX, hbl, hlocks, hgv⟩ := id C0
  have hown : s.vm.findClass RL = some m.cls := hown0
  have hts : ∀ w ∈ wsL_law, w.before #[Value.ref b] s = true := fun w h => hts0 w (wsL_law_in w h)
  have hA : ∀ q : Nat, s.heap.size ≤ q → A q := by rw [hAe]; exact fun _ h => h
  have hbA : ¬ A b := by rw [hAe]; exact Nat.not_le.mpr hbl
  have hP := hP.sub (ws' := [(x0, .inr (8, [.ref a1, .ref a2, .ref a3, .ref a4, .ref a5, .int 0, .ref a6, .ref a7, .ref a8, .ref a9, .ref a10, .ref a11, .ref a12, .ref a13, .int 9, .int 0, .int 0])), (a1, .inr (0, [.int 0, .int 16510910, .int 0, .ref fk, .ref fq])), (m0, .inr (9, [.ref b1, .ref b2, .ref b3, .ref b4, .int 0, .ref b5, .int 0, .ref b6, .ref b7, .ref b8, .int 0, .int 0, .int 0, .ref b9, .ref b10, .ref b11, .ref b12, .ref b13, .ref b14, .ref b15, .ref b16, .ref b17, .ref b18, .int 0, .ref b19, .ref b20, .ref b21, .ref b22, .ref b23, .ref b24, .ref b25]))]) [0, 1, 22] rfl
  have hD := hD.sub (ws' := [(x0, .inr (8, [.ref a1, .ref a2, .ref a3, .ref a4, .ref a5, .int 0, .ref a6, .ref a7, .ref a8, .ref a9, .ref a10, .ref a11, .ref a12, .ref a13, .int 9, .int 0, .int 0])), (a1, .inr (0, [.int 0, .int 16510910, .int 0, .ref fk, .ref fq])), (m0, .inr (9, [.ref b1, .ref b2, .ref b3, .ref b4, .int 0, .ref b5, .int 0, .ref b6, .ref b7, .ref b8, .int 0, .int 0, .int 0, .ref b9, .ref b10, .ref b11, .ref b12, .ref b13, .ref b14, .ref b15, .ref b16, .ref b17, .ref b18, .int 0, .ref b19, .ref b20, .ref b21, .ref b22, .ref b23, .ref b24, .ref b25]))]) [0, 1, 22] (by decide) rfl
  refine lv_aload_n hx hb dL_law_541 rfl (lv_at hl 1 rfl) ?_
  refine lv_aload_n hx hb dL_law_542 rfl (lv_at hl 0 rfl) ?_
  refine lv_iload_n hx hb dL_law_543 rfl (lv_at hl 3 rfl) ?_
  refine lv_iconst (v := 1) hx hb dL_law_544 (by decide) ?_
  refine lv_iadd hx hb dL_law_545 ?_
  refine lv_topi (fun f_1 ef_1 => ?_)
  obtain rfl : f_1 = 1 := ef_1.trans (by decide)
  refine va_sld hx hb hX hbl hbA hS (z_in (by decide)) dL_law_546 ?_
  refine lv_topi (fun f_2 ef_2 => ?_)
  obtain rfl : f_2 = xs 1 := ef_2
  have hPc := hP.sub (ws' := [(x0, .inr (8, [.ref a1, .ref a2, .ref a3, .ref a4, .ref a5, .int 0, .ref a6, .ref a7, .ref a8, .ref a9, .ref a10, .ref a11, .ref a12, .ref a13, .int 9, .int 0, .int 0])), (a1, .inr (0, [.int 0, .int 16510910, .int 0, .ref fk, .ref fq]))]) [0, 1] rfl
  have hDc := hD.sub (ws' := [(x0, .inr (8, [.ref a1, .ref a2, .ref a3, .ref a4, .ref a5, .int 0, .ref a6, .ref a7, .ref a8, .ref a9, .ref a10, .ref a11, .ref a12, .ref a13, .int 9, .int 0, .int 0])), (a1, .inr (0, [.int 0, .int 16510910, .int 0, .ref fk, .ref fq]))]) [0, 1] (by decide) rfl
  have hFc := va_free (wc := [(x0, .inr (8, [.ref a1, .ref a2, .ref a3, .ref a4, .ref a5, .int 0, .ref a6, .ref a7, .ref a8, .ref a9, .ref a10, .ref a11, .ref a12, .ref a13, .int 9, .int 0, .int 0])), (a1, .inr (0, [.int 0, .int 16510910, .int 0, .ref fk, .ref fq]))]) hD hS hA [0, 1] rfl
  refine va_calli (va_runV (As := [.int (xs 1)]) (rest := []) ⟨hx, hb, hml, hown, hts⟩ (c_X8_turns l Z H.size x0 a1 a2 a3 a4 a5 a6 a7 a8 a9 a10 a11 a12 a13 fk fq (xs 1)) (cwV 1 hts gL_law_X8_turns rfl rfl rfl (by decide +kernel) ⟨Nat.le_of_ble_eq_true rfl, Nat.le_of_ble_eq_true rfl⟩) ⟨fun a U g mk q => by obtain ⟨q0, q1, qP, qK, qD⟩ := q; exact ⟨q0, q1, qP, va_K.moved (u := U) (U := U.calling g mk a) (Vm.Alike.refl U.vm) qK, qD⟩, va_recv hK hPc (ci := 8) (q0 := 0) rfl rfl, fun U hU hW => ⟨rfl, by rw [hU], by rw [hU]; exact hPc, va_K.moved hW.alike hK, hDc.weaken (fun _ _ _ _ => trivial)⟩⟩ rfl rfl hl.1 rfl (lv_room (Nat.le_of_ble_eq_true rfl)) dL_law_547 ⟨Nat.le_of_ble_eq_true rfl, Nat.le_of_ble_eq_true rfl⟩) hS (fun q _ h => hFc q h) hFc (fun r_3 u t H1 locs ht hvm hw hB hz1 hk1 hS => ?_)
  subst hw
  have hP1 : va_P Z.1 vwCl [] H1 := fun k q h => by simp at h
  have hD1 : va_D (va_A [(x0, .inr (8, [.ref a1, .ref a2, .ref a3, .ref a4, .ref a5, .int 0, .ref a6, .ref a7, .ref a8, .ref a9, .ref a10, .ref a11, .ref a12, .ref a13, .int 9, .int 0, .int 0])), (a1, .inr (0, [.int 0, .int 16510910, .int 0, .ref fk, .ref fq]))] H.size) [] := ⟨fun i j p q h => by simp at h, fun k q h => by simp at h⟩
  obtain ⟨hP, hD⟩ := va_join (wr := [(m0, .inr (9, [.ref b1, .ref b2, .ref b3, .ref b4, .int 0, .ref b5, .int 0, .ref b6, .ref b7, .ref b8, .int 0, .int 0, .int 0, .ref b9, .ref b10, .ref b11, .ref b12, .ref b13, .ref b14, .ref b15, .ref b16, .ref b17, .ref b18, .int 0, .ref b19, .ref b20, .ref b21, .ref b22, .ref b23, .ref b24, .ref b25]))]) (w1 := []) hP hD [0, 1] [2] rfl rfl (by decide) (by decide) hk1 hFc hP1 hD1
  clear hPc hDc hP1 hD1 hk1 hz1 hFc ht hvm
  generalize H1 = H at hP hS ⊢
  have hP : va_P Z.1 vwCl [(m0, .inr (9, [.ref b1, .ref b2, .ref b3, .ref b4, .int 0, .ref b5, .int 0, .ref b6, .ref b7, .ref b8, .int 0, .int 0, .int 0, .ref b9, .ref b10, .ref b11, .ref b12, .ref b13, .ref b14, .ref b15, .ref b16, .ref b17, .ref b18, .int 0, .ref b19, .ref b20, .ref b21, .ref b22, .ref b23, .ref b24, .ref b25]))] H := hP
  have hD : va_D A [(m0, .inr (9, [.ref b1, .ref b2, .ref b3, .ref b4, .int 0, .ref b5, .int 0, .ref b6, .ref b7, .ref b8, .int 0, .int 0, .int 0, .ref b9, .ref b10, .ref b11, .ref b12, .ref b13, .ref b14, .ref b15, .ref b16, .ref b17, .ref b18, .int 0, .ref b19, .ref b20, .ref b21, .ref b22, .ref b23, .ref b24, .ref b25]))] := hD
  refine lv_aload_n hx hb dL_law_550 rfl (lv_at hl 2 rfl) ?_
  refine lv_aload_n hx hb dL_law_551 rfl (lv_at hl 0 rfl) ?_
  refine lv_iload_n hx hb dL_law_552 rfl (lv_at hl 3 rfl) ?_
  refine lv_iconst (v := 1) hx hb dL_law_553 (by decide) ?_
  refine lv_iadd hx hb dL_law_554 ?_
  refine lv_topi (fun f_4 ef_4 => ?_)
  obtain rfl : f_4 = 1 := ef_4.trans (by decide)
  refine va_sld hx hb hX hbl hbA hS (z_in (by decide)) dL_law_555 ?_
  refine lv_topi (fun f_5 ef_5 => ?_)
  obtain rfl : f_5 = xs 1 := ef_5
  have hPc := hP.sub (ws' := [(m0, .inr (9, [.ref b1, .ref b2, .ref b3, .ref b4, .int 0, .ref b5, .int 0, .ref b6, .ref b7, .ref b8, .int 0, .int 0, .int 0, .ref b9, .ref b10, .ref b11, .ref b12, .ref b13, .ref b14, .ref b15, .ref b16, .ref b17, .ref b18, .int 0, .ref b19, .ref b20, .ref b21, .ref b22, .ref b23, .ref b24, .ref b25]))]) [0] rfl
  have hDc := hD.sub (ws' := [(m0, .inr (9, [.ref b1, .ref b2, .ref b3, .ref b4, .int 0, .ref b5, .int 0, .ref b6, .ref b7, .ref b8, .int 0, .int 0, .int 0, .ref b9, .ref b10, .ref b11, .ref b12, .ref b13, .ref b14, .ref b15, .ref b16, .ref b17, .ref b18, .int 0, .ref b19, .ref b20, .ref b21, .ref b22, .ref b23, .ref b24, .ref b25]))]) [0] (by decide) rfl
  have hFc := va_free (wc := [(m0, .inr (9, [.ref b1, .ref b2, .ref b3, .ref b4, .int 0, .ref b5, .int 0, .ref b6, .ref b7, .ref b8, .int 0, .int 0, .int 0, .ref b9, .ref b10, .ref b11, .ref b12, .ref b13, .ref b14, .ref b15, .ref b16, .ref b17, .ref b18, .int 0, .ref b19, .ref b20, .ref b21, .ref b22, .ref b23, .ref b24, .ref b25]))]) hD hS hA [0] rfl
  refine va_calli (va_runV (As := [.int (xs 1)]) (rest := [.int (-1)]) ⟨hx, hb, hml, hown, hts⟩ (c_X9_turns l Z H.size m0 b1 b2 b3 b4 b5 b6 b7 b8 b9 b10 b11 b12 b13 b14 b15 b16 b17 b18 b19 b20 b21 b22 b23 b24 b25 (xs 1)) (cwV 1 hts gL_law_X9_turns rfl rfl rfl (by decide +kernel) ⟨Nat.le_of_ble_eq_true rfl, Nat.le_of_ble_eq_true rfl⟩) ⟨fun a U g mk q => by obtain ⟨q0, q1, qP, qK, qD⟩ := q; exact ⟨q0, q1, qP, va_K.moved (u := U) (U := U.calling g mk a) (Vm.Alike.refl U.vm) qK, qD⟩, va_recv hK hPc (ci := 9) (q0 := 0) rfl rfl, fun U hU hW => ⟨rfl, by rw [hU], by rw [hU]; exact hPc, va_K.moved hW.alike hK, hDc.weaken (fun _ _ _ _ => trivial)⟩⟩ rfl rfl hl.1 rfl (lv_room (Nat.le_of_ble_eq_true rfl)) dL_law_556 ⟨Nat.le_of_ble_eq_true rfl, Nat.le_of_ble_eq_true rfl⟩) hS (fun q _ h => hFc q h) hFc (fun r_6 u t H1 locs ht hvm hw hB hz1 hk1 hS => ?_)
  subst hw
  have hP1 : va_P Z.1 vwCl [] H1 := fun k q h => by simp at h
  have hD1 : va_D (va_A [(m0, .inr (9, [.ref b1, .ref b2, .ref b3, .ref b4, .int 0, .ref b5, .int 0, .ref b6, .ref b7, .ref b8, .int 0, .int 0, .int 0, .ref b9, .ref b10, .ref b11, .ref b12, .ref b13, .ref b14, .ref b15, .ref b16, .ref b17, .ref b18, .int 0, .ref b19, .ref b20, .ref b21, .ref b22, .ref b23, .ref b24, .ref b25]))] H.size) [] := ⟨fun i j p q h => by simp at h, fun k q h => by simp at h⟩
  obtain ⟨hP, hD⟩ := va_join (wr := []) (w1 := []) hP hD [0] [] rfl rfl (by decide) (by decide) hk1 hFc hP1 hD1
  clear hPc hDc hP1 hD1 hk1 hz1 hFc ht hvm
  generalize H1 = H at hP hS ⊢
  have hP : va_P Z.1 vwCl [] H := hP
  have hD : va_D A [] := hD
  refine lv_icmp_eq (tgt := 1054) hx hb dL_law_559 (by decide) (fun _ => ?_) (fun c9 => absurd c9 (by decide))
  exact law_tail C0 hAe (Nat.le_of_ble_eq_true rfl) (Nat.le_of_ble_eq_true rfl) hS (lv_sub hl [0, 3] rfl)
set_option maxHeartbeats 4000000 in
set_option maxRecDepth 100000 in
theorem law_14 {p : Program} {l : Launch} {e : Env} {s : State} {m : MethodId} {below : List Frame} {meth : Method} {c : Code} {b : Nat} {xs : Nat → Int32} (C0 : lw_At p s m meth c b 6 xs) {A : Nat → Prop} (hAe : A = fun q : Nat => s.heap.size ≤ q) (Z : gZ) (kA vA : Nat) (hK : va_K Z.1 vwCl (gT Z) s) (hG : gS kA vA A s) (x0 : Nat) (a1 : Nat) (a2 : Nat) (a3 : Nat) (a4 : Nat) (a5 : Nat) (a6 : Nat) (a7 : Nat) (a8 : Nat) (a9 : Nat) (a10 : Nat) (a11 : Nat) (a12 : Nat) (a13 : Nat) (fk : Nat) (fq : Nat) (pk : Nat) (pq : Nat) (tk : Nat) (kk : Nat) (kq : Nat) (lk : Nat) (lq : Nat) (uk : Nat) (uq : Nat) (vk : Nat) (vq : Nat) (m0 : Nat) (b1 : Nat) (b2 : Nat) (b3 : Nat) (b4 : Nat) (b5 : Nat) (b6 : Nat) (b7 : Nat) (b8 : Nat) (b9 : Nat) (b10 : Nat) (b11 : Nat) (b12 : Nat) (b13 : Nat) (b14 : Nat) (b15 : Nat) (b16 : Nat) (b17 : Nat) (b18 : Nat) (b19 : Nat) (b20 : Nat) (b21 : Nat) (b22 : Nat) (b23 : Nat) (b24 : Nat) (b25 : Nat) (fl : Nat → Int32) (hfl : ∀ j, j < 4 → fl j = -1) {H : Heap} {locs : List Loc} {ls : Array Slot} (hP : va_P Z.1 vwCl (zFull Z x0 a1 a2 a3 a4 a5 a6 a7 a8 a9 a10 a11 a12 a13 fk fq pk pq tk kk kq lk lq uk uq vk vq m0 b1 b2 b3 b4 b5 b6 b7 b8 b9 b10 b11 b12 b13 b14 b15 b16 b17 b18 b19 b20 b21 b22 b23 b24 b25 fl) H) (hD : va_D A (zFull Z x0 a1 a2 a3 a4 a5 a6 a7 a8 a9 a10 a11 a12 a13 fk fq pk pq tk kk kq lk lq uk uq vk vq m0 b1 b2 b3 b4 b5 b6 b7 b8 b9 b10 b11 b12 b13 b14 b15 b16 b17 b18 b19 b20 b21 b22 b23 b24 b25 fl)) (hS : va_S A s.heap H locs) (hl : lv_has ls 4 [(0, .ref b), (1, .ref x0), (2, .ref m0), (3, .int 0)]) : W p l e room_1 s m #[Value.ref b] below meth c H locs 599000 7300000 (lw_Z below #[Value.ref b] s) (F0 m 564 ls []) := by
  obtain ⟨hx, hb, hr, hml, hown0, hts0, hX, hbl, hlocks, hgv⟩ := id C0
  have hown : s.vm.findClass RL = some m.cls := hown0
  have hts : ∀ w ∈ wsL_law, w.before #[Value.ref b] s = true := fun w h => hts0 w (wsL_law_in w h)
  have hA : ∀ q : Nat, s.heap.size ≤ q → A q := by rw [hAe]; exact fun _ h => h
  have hbA : ¬ A b := by rw [hAe]; exact Nat.not_le.mpr hbl
  have hP := hP.sub (ws' := [(x0, .inr (8, [.ref a1, .ref a2, .ref a3, .ref a4, .ref a5, .int 0, .ref a6, .ref a7, .ref a8, .ref a9, .ref a10, .ref a11, .ref a12, .ref a13, .int 9, .int 0, .int 0])), (a1, .inr (0, [.int 0, .int 16510910, .int 0, .ref fk, .ref fq])), (m0, .inr (9, [.ref b1, .ref b2, .ref b3, .ref b4, .int 0, .ref b5, .int 0, .ref b6, .ref b7, .ref b8, .int 0, .int 0, .int 0, .ref b9, .ref b10, .ref b11, .ref b12, .ref b13, .ref b14, .ref b15, .ref b16, .ref b17, .ref b18, .int 0, .ref b19, .ref b20, .ref b21, .ref b22, .ref b23, .ref b24, .ref b25]))]) [0, 1, 22] rfl
  have hD := hD.sub (ws' := [(x0, .inr (8, [.ref a1, .ref a2, .ref a3, .ref a4, .ref a5, .int 0, .ref a6, .ref a7, .ref a8, .ref a9, .ref a10, .ref a11, .ref a12, .ref a13, .int 9, .int 0, .int 0])), (a1, .inr (0, [.int 0, .int 16510910, .int 0, .ref fk, .ref fq])), (m0, .inr (9, [.ref b1, .ref b2, .ref b3, .ref b4, .int 0, .ref b5, .int 0, .ref b6, .ref b7, .ref b8, .int 0, .int 0, .int 0, .ref b9, .ref b10, .ref b11, .ref b12, .ref b13, .ref b14, .ref b15, .ref b16, .ref b17, .ref b18, .int 0, .ref b19, .ref b20, .ref b21, .ref b22, .ref b23, .ref b24, .ref b25]))]) [0, 1, 22] (by decide) rfl
  refine lv_aload_n hx hb dL_law_564 rfl (lv_at hl 1 rfl) ?_
  refine lv_aload_n hx hb dL_law_565 rfl (lv_at hl 0 rfl) ?_
  refine lv_iload_n hx hb dL_law_566 rfl (lv_at hl 3 rfl) ?_
  refine lv_iconst (v := 1) hx hb dL_law_567 (by decide) ?_
  refine lv_iadd hx hb dL_law_568 ?_
  refine lv_topi (fun f_1 ef_1 => ?_)
  obtain rfl : f_1 = 1 := ef_1.trans (by decide)
  refine va_sld hx hb hX hbl hbA hS (z_in (by decide)) dL_law_569 ?_
  refine lv_topi (fun f_2 ef_2 => ?_)
  obtain rfl : f_2 = xs 1 := ef_2
  have hPc := hP.sub (ws' := [(x0, .inr (8, [.ref a1, .ref a2, .ref a3, .ref a4, .ref a5, .int 0, .ref a6, .ref a7, .ref a8, .ref a9, .ref a10, .ref a11, .ref a12, .ref a13, .int 9, .int 0, .int 0])), (a1, .inr (0, [.int 0, .int 16510910, .int 0, .ref fk, .ref fq]))]) [0, 1] rfl
  have hDc := hD.sub (ws' := [(x0, .inr (8, [.ref a1, .ref a2, .ref a3, .ref a4, .ref a5, .int 0, .ref a6, .ref a7, .ref a8, .ref a9, .ref a10, .ref a11, .ref a12, .ref a13, .int 9, .int 0, .int 0])), (a1, .inr (0, [.int 0, .int 16510910, .int 0, .ref fk, .ref fq]))]) [0, 1] (by decide) rfl
  have hFc := va_free (wc := [(x0, .inr (8, [.ref a1, .ref a2, .ref a3, .ref a4, .ref a5, .int 0, .ref a6, .ref a7, .ref a8, .ref a9, .ref a10, .ref a11, .ref a12, .ref a13, .int 9, .int 0, .int 0])), (a1, .inr (0, [.int 0, .int 16510910, .int 0, .ref fk, .ref fq]))]) hD hS hA [0, 1] rfl
  refine va_calli (va_runV (As := [.int (xs 1)]) (rest := []) ⟨hx, hb, hml, hown, hts⟩ (c_X8_ends l Z H.size x0 a1 a2 a3 a4 a5 a6 a7 a8 a9 a10 a11 a12 a13 fk fq (xs 1)) (cwV 1 hts gL_law_X8_ends rfl rfl rfl (by decide +kernel) ⟨Nat.le_of_ble_eq_true rfl, Nat.le_of_ble_eq_true rfl⟩) ⟨fun a U g mk q => by obtain ⟨q0, q1, qP, qK, qD⟩ := q; exact ⟨q0, q1, qP, va_K.moved (u := U) (U := U.calling g mk a) (Vm.Alike.refl U.vm) qK, qD⟩, va_recv hK hPc (ci := 8) (q0 := 0) rfl rfl, fun U hU hW => ⟨rfl, by rw [hU], by rw [hU]; exact hPc, va_K.moved hW.alike hK, hDc.weaken (fun _ _ _ _ => trivial)⟩⟩ rfl rfl hl.1 rfl (lv_room (Nat.le_of_ble_eq_true rfl)) dL_law_570 ⟨Nat.le_of_ble_eq_true rfl, Nat.le_of_ble_eq_true rfl⟩) hS (fun q _ h => hFc q h) hFc (fun r_3 u t H1 locs ht hvm hw hB hz1 hk1 hS => ?_)
  subst hw
  have hP1 : va_P Z.1 vwCl [] H1 := fun k q h => by simp at h
  have hD1 : va_D (va_A [(x0, .inr (8, [.ref a1, .ref a2, .ref a3, .ref a4, .ref a5, .int 0, .ref a6, .ref a7, .ref a8, .ref a9, .ref a10, .ref a11, .ref a12, .ref a13, .int 9, .int 0, .int 0])), (a1, .inr (0, [.int 0, .int 16510910, .int 0, .ref fk, .ref fq]))] H.size) [] := ⟨fun i j p q h => by simp at h, fun k q h => by simp at h⟩
  obtain ⟨hP, hD⟩ := va_join (wr := [(m0, .inr (9, [.ref b1, .ref b2, .ref b3, .ref b4, .int 0, .ref b5, .int 0, .ref b6, .ref b7, .ref b8, .int 0, .int 0, .int 0, .ref b9, .ref b10, .ref b11, .ref b12, .ref b13, .ref b14, .ref b15, .ref b16, .ref b17, .ref b18, .int 0, .ref b19, .ref b20, .ref b21, .ref b22, .ref b23, .ref b24, .ref b25]))]) (w1 := []) hP hD [0, 1] [2] rfl rfl (by decide) (by decide) hk1 hFc hP1 hD1
  clear hPc hDc hP1 hD1 hk1 hz1 hFc ht hvm
  generalize H1 = H at hP hS ⊢
  have hP : va_P Z.1 vwCl [(m0, .inr (9, [.ref b1, .ref b2, .ref b3, .ref b4, .int 0, .ref b5, .int 0, .ref b6, .ref b7, .ref b8, .int 0, .int 0, .int 0, .ref b9, .ref b10, .ref b11, .ref b12, .ref b13, .ref b14, .ref b15, .ref b16, .ref b17, .ref b18, .int 0, .ref b19, .ref b20, .ref b21, .ref b22, .ref b23, .ref b24, .ref b25]))] H := hP
  have hD : va_D A [(m0, .inr (9, [.ref b1, .ref b2, .ref b3, .ref b4, .int 0, .ref b5, .int 0, .ref b6, .ref b7, .ref b8, .int 0, .int 0, .int 0, .ref b9, .ref b10, .ref b11, .ref b12, .ref b13, .ref b14, .ref b15, .ref b16, .ref b17, .ref b18, .int 0, .ref b19, .ref b20, .ref b21, .ref b22, .ref b23, .ref b24, .ref b25]))] := hD
  refine lv_aload_n hx hb dL_law_573 rfl (lv_at hl 2 rfl) ?_
  refine lv_aload_n hx hb dL_law_574 rfl (lv_at hl 0 rfl) ?_
  refine lv_iload_n hx hb dL_law_575 rfl (lv_at hl 3 rfl) ?_
  refine lv_iconst (v := 1) hx hb dL_law_576 (by decide) ?_
  refine lv_iadd hx hb dL_law_577 ?_
  refine lv_topi (fun f_4 ef_4 => ?_)
  obtain rfl : f_4 = 1 := ef_4.trans (by decide)
  refine va_sld hx hb hX hbl hbA hS (z_in (by decide)) dL_law_578 ?_
  refine lv_topi (fun f_5 ef_5 => ?_)
  obtain rfl : f_5 = xs 1 := ef_5
  have hPc := hP.sub (ws' := [(m0, .inr (9, [.ref b1, .ref b2, .ref b3, .ref b4, .int 0, .ref b5, .int 0, .ref b6, .ref b7, .ref b8, .int 0, .int 0, .int 0, .ref b9, .ref b10, .ref b11, .ref b12, .ref b13, .ref b14, .ref b15, .ref b16, .ref b17, .ref b18, .int 0, .ref b19, .ref b20, .ref b21, .ref b22, .ref b23, .ref b24, .ref b25]))]) [0] rfl
  have hDc := hD.sub (ws' := [(m0, .inr (9, [.ref b1, .ref b2, .ref b3, .ref b4, .int 0, .ref b5, .int 0, .ref b6, .ref b7, .ref b8, .int 0, .int 0, .int 0, .ref b9, .ref b10, .ref b11, .ref b12, .ref b13, .ref b14, .ref b15, .ref b16, .ref b17, .ref b18, .int 0, .ref b19, .ref b20, .ref b21, .ref b22, .ref b23, .ref b24, .ref b25]))]) [0] (by decide) rfl
  have hFc := va_free (wc := [(m0, .inr (9, [.ref b1, .ref b2, .ref b3, .ref b4, .int 0, .ref b5, .int 0, .ref b6, .ref b7, .ref b8, .int 0, .int 0, .int 0, .ref b9, .ref b10, .ref b11, .ref b12, .ref b13, .ref b14, .ref b15, .ref b16, .ref b17, .ref b18, .int 0, .ref b19, .ref b20, .ref b21, .ref b22, .ref b23, .ref b24, .ref b25]))]) hD hS hA [0] rfl
  refine va_calli (va_runV (As := [.int (xs 1)]) (rest := [.int (-1)]) ⟨hx, hb, hml, hown, hts⟩ (c_X9_ends l Z H.size m0 b1 b2 b3 b4 b5 b6 b7 b8 b9 b10 b11 b12 b13 b14 b15 b16 b17 b18 b19 b20 b21 b22 b23 b24 b25 (xs 1)) (cwV 1 hts gL_law_X9_ends rfl rfl rfl (by decide +kernel) ⟨Nat.le_of_ble_eq_true rfl, Nat.le_of_ble_eq_true rfl⟩) ⟨fun a U g mk q => by obtain ⟨q0, q1, qP, qK, qD⟩ := q; exact ⟨q0, q1, qP, va_K.moved (u := U) (U := U.calling g mk a) (Vm.Alike.refl U.vm) qK, qD⟩, va_recv hK hPc (ci := 9) (q0 := 0) rfl rfl, fun U hU hW => ⟨rfl, by rw [hU], by rw [hU]; exact hPc, va_K.moved hW.alike hK, hDc.weaken (fun _ _ _ _ => trivial)⟩⟩ rfl rfl hl.1 rfl (lv_room (Nat.le_of_ble_eq_true rfl)) dL_law_579 ⟨Nat.le_of_ble_eq_true rfl, Nat.le_of_ble_eq_true rfl⟩) hS (fun q _ h => hFc q h) hFc (fun r_6 u t H1 locs ht hvm hw hB hz1 hk1 hS => ?_)
  subst hw
  have hP1 : va_P Z.1 vwCl [] H1 := fun k q h => by simp at h
  have hD1 : va_D (va_A [(m0, .inr (9, [.ref b1, .ref b2, .ref b3, .ref b4, .int 0, .ref b5, .int 0, .ref b6, .ref b7, .ref b8, .int 0, .int 0, .int 0, .ref b9, .ref b10, .ref b11, .ref b12, .ref b13, .ref b14, .ref b15, .ref b16, .ref b17, .ref b18, .int 0, .ref b19, .ref b20, .ref b21, .ref b22, .ref b23, .ref b24, .ref b25]))] H.size) [] := ⟨fun i j p q h => by simp at h, fun k q h => by simp at h⟩
  obtain ⟨hP, hD⟩ := va_join (wr := []) (w1 := []) hP hD [0] [] rfl rfl (by decide) (by decide) hk1 hFc hP1 hD1
  clear hPc hDc hP1 hD1 hk1 hz1 hFc ht hvm
  generalize H1 = H at hP hS ⊢
  have hP : va_P Z.1 vwCl [] H := hP
  have hD : va_D A [] := hD
  refine lv_icmp_eq (tgt := 1054) hx hb dL_law_582 (by decide) (fun _ => ?_) (fun c9 => absurd c9 (by decide))
  exact law_tail C0 hAe (Nat.le_of_ble_eq_true rfl) (Nat.le_of_ble_eq_true rfl) hS (lv_sub hl [0, 3] rfl)
set_option maxHeartbeats 4000000 in
set_option maxRecDepth 100000 in
theorem law_15 {p : Program} {l : Launch} {e : Env} {s : State} {m : MethodId} {below : List Frame} {meth : Method} {c : Code} {b : Nat} {xs : Nat → Int32} (C0 : lw_At p s m meth c b 6 xs) {A : Nat → Prop} (hAe : A = fun q : Nat => s.heap.size ≤ q) (Z : gZ) (kA vA : Nat) (hK : va_K Z.1 vwCl (gT Z) s) (hG : gS kA vA A s) (x0 : Nat) (a1 : Nat) (a2 : Nat) (a3 : Nat) (a4 : Nat) (a5 : Nat) (a6 : Nat) (a7 : Nat) (a8 : Nat) (a9 : Nat) (a10 : Nat) (a11 : Nat) (a12 : Nat) (a13 : Nat) (fk : Nat) (fq : Nat) (pk : Nat) (pq : Nat) (tk : Nat) (kk : Nat) (kq : Nat) (lk : Nat) (lq : Nat) (uk : Nat) (uq : Nat) (vk : Nat) (vq : Nat) (m0 : Nat) (b1 : Nat) (b2 : Nat) (b3 : Nat) (b4 : Nat) (b5 : Nat) (b6 : Nat) (b7 : Nat) (b8 : Nat) (b9 : Nat) (b10 : Nat) (b11 : Nat) (b12 : Nat) (b13 : Nat) (b14 : Nat) (b15 : Nat) (b16 : Nat) (b17 : Nat) (b18 : Nat) (b19 : Nat) (b20 : Nat) (b21 : Nat) (b22 : Nat) (b23 : Nat) (b24 : Nat) (b25 : Nat) (fl : Nat → Int32) (hfl : ∀ j, j < 4 → fl j = -1) {H : Heap} {locs : List Loc} {ls : Array Slot} (hP : va_P Z.1 vwCl (zFull Z x0 a1 a2 a3 a4 a5 a6 a7 a8 a9 a10 a11 a12 a13 fk fq pk pq tk kk kq lk lq uk uq vk vq m0 b1 b2 b3 b4 b5 b6 b7 b8 b9 b10 b11 b12 b13 b14 b15 b16 b17 b18 b19 b20 b21 b22 b23 b24 b25 fl) H) (hD : va_D A (zFull Z x0 a1 a2 a3 a4 a5 a6 a7 a8 a9 a10 a11 a12 a13 fk fq pk pq tk kk kq lk lq uk uq vk vq m0 b1 b2 b3 b4 b5 b6 b7 b8 b9 b10 b11 b12 b13 b14 b15 b16 b17 b18 b19 b20 b21 b22 b23 b24 b25 fl)) (hS : va_S A s.heap H locs) (hl : lv_has ls 4 [(0, .ref b), (1, .ref x0), (2, .ref m0), (3, .int 0)]) : W p l e room_1 s m #[Value.ref b] below meth c H locs 599000 7300000 (lw_Z below #[Value.ref b] s) (F0 m 587 ls []) := by
  obtain ⟨hx, hb, hr, hml, hown0, hts0, hX, hbl, hlocks, hgv⟩ := id C0
  have hown : s.vm.findClass RL = some m.cls := hown0
  have hts : ∀ w ∈ wsL_law, w.before #[Value.ref b] s = true := fun w h => hts0 w (wsL_law_in w h)
  have hA : ∀ q : Nat, s.heap.size ≤ q → A q := by rw [hAe]; exact fun _ h => h
  have hbA : ¬ A b := by rw [hAe]; exact Nat.not_le.mpr hbl
  have hP := hP.sub (ws' := [(x0, .inr (8, [.ref a1, .ref a2, .ref a3, .ref a4, .ref a5, .int 0, .ref a6, .ref a7, .ref a8, .ref a9, .ref a10, .ref a11, .ref a12, .ref a13, .int 9, .int 0, .int 0])), (a1, .inr (0, [.int 0, .int 16510910, .int 0, .ref fk, .ref fq])), (a2, .inr (2, [.int 0, .int 0, .ref pk, .ref pq])), (m0, .inr (9, [.ref b1, .ref b2, .ref b3, .ref b4, .int 0, .ref b5, .int 0, .ref b6, .ref b7, .ref b8, .int 0, .int 0, .int 0, .ref b9, .ref b10, .ref b11, .ref b12, .ref b13, .ref b14, .ref b15, .ref b16, .ref b17, .ref b18, .int 0, .ref b19, .ref b20, .ref b21, .ref b22, .ref b23, .ref b24, .ref b25]))]) [0, 1, 4, 22] rfl
  have hD := hD.sub (ws' := [(x0, .inr (8, [.ref a1, .ref a2, .ref a3, .ref a4, .ref a5, .int 0, .ref a6, .ref a7, .ref a8, .ref a9, .ref a10, .ref a11, .ref a12, .ref a13, .int 9, .int 0, .int 0])), (a1, .inr (0, [.int 0, .int 16510910, .int 0, .ref fk, .ref fq])), (a2, .inr (2, [.int 0, .int 0, .ref pk, .ref pq])), (m0, .inr (9, [.ref b1, .ref b2, .ref b3, .ref b4, .int 0, .ref b5, .int 0, .ref b6, .ref b7, .ref b8, .int 0, .int 0, .int 0, .ref b9, .ref b10, .ref b11, .ref b12, .ref b13, .ref b14, .ref b15, .ref b16, .ref b17, .ref b18, .int 0, .ref b19, .ref b20, .ref b21, .ref b22, .ref b23, .ref b24, .ref b25]))]) [0, 1, 4, 22] (by decide) rfl
  refine lv_aload_n hx hb dL_law_587 rfl (lv_at hl 1 rfl) ?_
  refine lv_aload_n hx hb dL_law_588 rfl (lv_at hl 0 rfl) ?_
  refine lv_iload_n hx hb dL_law_589 rfl (lv_at hl 3 rfl) ?_
  refine lv_iconst (v := 1) hx hb dL_law_590 (by decide) ?_
  refine lv_iadd hx hb dL_law_591 ?_
  refine lv_topi (fun f_1 ef_1 => ?_)
  obtain rfl : f_1 = 1 := ef_1.trans (by decide)
  refine va_sld hx hb hX hbl hbA hS (z_in (by decide)) dL_law_592 ?_
  refine lv_topi (fun f_2 ef_2 => ?_)
  obtain rfl : f_2 = xs 1 := ef_2
  have hPc := hP.sub (ws' := [(x0, .inr (8, [.ref a1, .ref a2, .ref a3, .ref a4, .ref a5, .int 0, .ref a6, .ref a7, .ref a8, .ref a9, .ref a10, .ref a11, .ref a12, .ref a13, .int 9, .int 0, .int 0])), (a1, .inr (0, [.int 0, .int 16510910, .int 0, .ref fk, .ref fq])), (a2, .inr (2, [.int 0, .int 0, .ref pk, .ref pq]))]) [0, 1, 2] rfl
  have hDc := hD.sub (ws' := [(x0, .inr (8, [.ref a1, .ref a2, .ref a3, .ref a4, .ref a5, .int 0, .ref a6, .ref a7, .ref a8, .ref a9, .ref a10, .ref a11, .ref a12, .ref a13, .int 9, .int 0, .int 0])), (a1, .inr (0, [.int 0, .int 16510910, .int 0, .ref fk, .ref fq])), (a2, .inr (2, [.int 0, .int 0, .ref pk, .ref pq]))]) [0, 1, 2] (by decide) rfl
  have hFc := va_free (wc := [(x0, .inr (8, [.ref a1, .ref a2, .ref a3, .ref a4, .ref a5, .int 0, .ref a6, .ref a7, .ref a8, .ref a9, .ref a10, .ref a11, .ref a12, .ref a13, .int 9, .int 0, .int 0])), (a1, .inr (0, [.int 0, .int 16510910, .int 0, .ref fk, .ref fq])), (a2, .inr (2, [.int 0, .int 0, .ref pk, .ref pq]))]) hD hS hA [0, 1, 2] rfl
  refine va_calli (va_runV (As := [.int (xs 1)]) (rest := []) ⟨hx, hb, hml, hown, hts⟩ (c_X8_order l Z H.size x0 a1 a2 a3 a4 a5 a6 a7 a8 a9 a10 a11 a12 a13 fk fq pk pq (xs 1)) (cwV 1 hts gL_law_X8_order rfl rfl rfl (by decide +kernel) ⟨Nat.le_of_ble_eq_true rfl, Nat.le_of_ble_eq_true rfl⟩) ⟨fun a U g mk q => by obtain ⟨q0, q1, qP, qK, qD⟩ := q; exact ⟨q0, q1, qP, va_K.moved (u := U) (U := U.calling g mk a) (Vm.Alike.refl U.vm) qK, qD⟩, va_recv hK hPc (ci := 8) (q0 := 0) rfl rfl, fun U hU hW => ⟨rfl, by rw [hU], by rw [hU]; exact hPc, va_K.moved hW.alike hK, hDc.weaken (fun _ _ _ _ => trivial)⟩⟩ rfl rfl hl.1 rfl (lv_room (Nat.le_of_ble_eq_true rfl)) dL_law_593 ⟨Nat.le_of_ble_eq_true rfl, Nat.le_of_ble_eq_true rfl⟩) hS (fun q _ h => hFc q h) hFc (fun r_3 u t H1 locs ht hvm hw hB hz1 hk1 hS => ?_)
  subst hw
  have hP1 : va_P Z.1 vwCl [] H1 := fun k q h => by simp at h
  have hD1 : va_D (va_A [(x0, .inr (8, [.ref a1, .ref a2, .ref a3, .ref a4, .ref a5, .int 0, .ref a6, .ref a7, .ref a8, .ref a9, .ref a10, .ref a11, .ref a12, .ref a13, .int 9, .int 0, .int 0])), (a1, .inr (0, [.int 0, .int 16510910, .int 0, .ref fk, .ref fq])), (a2, .inr (2, [.int 0, .int 0, .ref pk, .ref pq]))] H.size) [] := ⟨fun i j p q h => by simp at h, fun k q h => by simp at h⟩
  obtain ⟨hP, hD⟩ := va_join (wr := [(m0, .inr (9, [.ref b1, .ref b2, .ref b3, .ref b4, .int 0, .ref b5, .int 0, .ref b6, .ref b7, .ref b8, .int 0, .int 0, .int 0, .ref b9, .ref b10, .ref b11, .ref b12, .ref b13, .ref b14, .ref b15, .ref b16, .ref b17, .ref b18, .int 0, .ref b19, .ref b20, .ref b21, .ref b22, .ref b23, .ref b24, .ref b25]))]) (w1 := []) hP hD [0, 1, 2] [3] rfl rfl (by decide) (by decide) hk1 hFc hP1 hD1
  clear hPc hDc hP1 hD1 hk1 hz1 hFc ht hvm
  generalize H1 = H at hP hS ⊢
  have hP : va_P Z.1 vwCl [(m0, .inr (9, [.ref b1, .ref b2, .ref b3, .ref b4, .int 0, .ref b5, .int 0, .ref b6, .ref b7, .ref b8, .int 0, .int 0, .int 0, .ref b9, .ref b10, .ref b11, .ref b12, .ref b13, .ref b14, .ref b15, .ref b16, .ref b17, .ref b18, .int 0, .ref b19, .ref b20, .ref b21, .ref b22, .ref b23, .ref b24, .ref b25]))] H := hP
  have hD : va_D A [(m0, .inr (9, [.ref b1, .ref b2, .ref b3, .ref b4, .int 0, .ref b5, .int 0, .ref b6, .ref b7, .ref b8, .int 0, .int 0, .int 0, .ref b9, .ref b10, .ref b11, .ref b12, .ref b13, .ref b14, .ref b15, .ref b16, .ref b17, .ref b18, .int 0, .ref b19, .ref b20, .ref b21, .ref b22, .ref b23, .ref b24, .ref b25]))] := hD
  refine lv_aload_n hx hb dL_law_596 rfl (lv_at hl 2 rfl) ?_
  refine lv_aload_n hx hb dL_law_597 rfl (lv_at hl 0 rfl) ?_
  refine lv_iload_n hx hb dL_law_598 rfl (lv_at hl 3 rfl) ?_
  refine lv_iconst (v := 1) hx hb dL_law_599 (by decide) ?_
  refine lv_iadd hx hb dL_law_600 ?_
  refine lv_topi (fun f_4 ef_4 => ?_)
  obtain rfl : f_4 = 1 := ef_4.trans (by decide)
  refine va_sld hx hb hX hbl hbA hS (z_in (by decide)) dL_law_601 ?_
  refine lv_topi (fun f_5 ef_5 => ?_)
  obtain rfl : f_5 = xs 1 := ef_5
  have hPc := hP.sub (ws' := [(m0, .inr (9, [.ref b1, .ref b2, .ref b3, .ref b4, .int 0, .ref b5, .int 0, .ref b6, .ref b7, .ref b8, .int 0, .int 0, .int 0, .ref b9, .ref b10, .ref b11, .ref b12, .ref b13, .ref b14, .ref b15, .ref b16, .ref b17, .ref b18, .int 0, .ref b19, .ref b20, .ref b21, .ref b22, .ref b23, .ref b24, .ref b25]))]) [0] rfl
  have hDc := hD.sub (ws' := [(m0, .inr (9, [.ref b1, .ref b2, .ref b3, .ref b4, .int 0, .ref b5, .int 0, .ref b6, .ref b7, .ref b8, .int 0, .int 0, .int 0, .ref b9, .ref b10, .ref b11, .ref b12, .ref b13, .ref b14, .ref b15, .ref b16, .ref b17, .ref b18, .int 0, .ref b19, .ref b20, .ref b21, .ref b22, .ref b23, .ref b24, .ref b25]))]) [0] (by decide) rfl
  have hFc := va_free (wc := [(m0, .inr (9, [.ref b1, .ref b2, .ref b3, .ref b4, .int 0, .ref b5, .int 0, .ref b6, .ref b7, .ref b8, .int 0, .int 0, .int 0, .ref b9, .ref b10, .ref b11, .ref b12, .ref b13, .ref b14, .ref b15, .ref b16, .ref b17, .ref b18, .int 0, .ref b19, .ref b20, .ref b21, .ref b22, .ref b23, .ref b24, .ref b25]))]) hD hS hA [0] rfl
  refine va_calli (va_runV (As := [.int (xs 1)]) (rest := [.int (if (xs 1) < (-1) then (-1 : Int32) else (if (xs 1) < 6 then (-4 : Int32) else (-1 : Int32)))]) ⟨hx, hb, hml, hown, hts⟩ (c_X9_order l Z H.size m0 b1 b2 b3 b4 b5 b6 b7 b8 b9 b10 b11 b12 b13 b14 b15 b16 b17 b18 b19 b20 b21 b22 b23 b24 b25 (xs 1)) (cwV 1 hts gL_law_X9_order rfl rfl rfl (by decide +kernel) ⟨Nat.le_of_ble_eq_true rfl, Nat.le_of_ble_eq_true rfl⟩) ⟨fun a U g mk q => by obtain ⟨q0, q1, qP, qK, qD⟩ := q; exact ⟨q0, q1, qP, va_K.moved (u := U) (U := U.calling g mk a) (Vm.Alike.refl U.vm) qK, qD⟩, va_recv hK hPc (ci := 9) (q0 := 0) rfl rfl, fun U hU hW => ⟨rfl, by rw [hU], by rw [hU]; exact hPc, va_K.moved hW.alike hK, hDc.weaken (fun _ _ _ _ => trivial)⟩⟩ rfl rfl hl.1 rfl (lv_room (Nat.le_of_ble_eq_true rfl)) dL_law_602 ⟨Nat.le_of_ble_eq_true rfl, Nat.le_of_ble_eq_true rfl⟩) hS (fun q _ h => hFc q h) hFc (fun r_6 u t H1 locs ht hvm hw hB hz1 hk1 hS => ?_)
  subst hw
  have hP1 : va_P Z.1 vwCl [] H1 := fun k q h => by simp at h
  have hD1 : va_D (va_A [(m0, .inr (9, [.ref b1, .ref b2, .ref b3, .ref b4, .int 0, .ref b5, .int 0, .ref b6, .ref b7, .ref b8, .int 0, .int 0, .int 0, .ref b9, .ref b10, .ref b11, .ref b12, .ref b13, .ref b14, .ref b15, .ref b16, .ref b17, .ref b18, .int 0, .ref b19, .ref b20, .ref b21, .ref b22, .ref b23, .ref b24, .ref b25]))] H.size) [] := ⟨fun i j p q h => by simp at h, fun k q h => by simp at h⟩
  obtain ⟨hP, hD⟩ := va_join (wr := []) (w1 := []) hP hD [0] [] rfl rfl (by decide) (by decide) hk1 hFc hP1 hD1
  clear hPc hDc hP1 hD1 hk1 hz1 hFc ht hvm
  generalize H1 = H at hP hS ⊢
  have hP : va_P Z.1 vwCl [] H := hP
  have hD : va_D A [] := hD
  refine lv_icmp_eq (tgt := 1054) hx hb dL_law_605 (by decide) (fun _ => ?_) (fun c9 => absurd (eq_order (xs 1)) c9)
  exact law_tail C0 hAe (Nat.le_of_ble_eq_true rfl) (Nat.le_of_ble_eq_true rfl) hS (lv_sub hl [0, 3] rfl)
set_option maxHeartbeats 4000000 in
set_option maxRecDepth 100000 in
theorem law_16 {p : Program} {l : Launch} {e : Env} {s : State} {m : MethodId} {below : List Frame} {meth : Method} {c : Code} {b : Nat} {xs : Nat → Int32} (C0 : lw_At p s m meth c b 6 xs) {A : Nat → Prop} (hAe : A = fun q : Nat => s.heap.size ≤ q) (Z : gZ) (kA vA : Nat) (hK : va_K Z.1 vwCl (gT Z) s) (hG : gS kA vA A s) (x0 : Nat) (a1 : Nat) (a2 : Nat) (a3 : Nat) (a4 : Nat) (a5 : Nat) (a6 : Nat) (a7 : Nat) (a8 : Nat) (a9 : Nat) (a10 : Nat) (a11 : Nat) (a12 : Nat) (a13 : Nat) (fk : Nat) (fq : Nat) (pk : Nat) (pq : Nat) (tk : Nat) (kk : Nat) (kq : Nat) (lk : Nat) (lq : Nat) (uk : Nat) (uq : Nat) (vk : Nat) (vq : Nat) (m0 : Nat) (b1 : Nat) (b2 : Nat) (b3 : Nat) (b4 : Nat) (b5 : Nat) (b6 : Nat) (b7 : Nat) (b8 : Nat) (b9 : Nat) (b10 : Nat) (b11 : Nat) (b12 : Nat) (b13 : Nat) (b14 : Nat) (b15 : Nat) (b16 : Nat) (b17 : Nat) (b18 : Nat) (b19 : Nat) (b20 : Nat) (b21 : Nat) (b22 : Nat) (b23 : Nat) (b24 : Nat) (b25 : Nat) (fl : Nat → Int32) (hfl : ∀ j, j < 4 → fl j = -1) {H : Heap} {locs : List Loc} {ls : Array Slot} (hP : va_P Z.1 vwCl (zFull Z x0 a1 a2 a3 a4 a5 a6 a7 a8 a9 a10 a11 a12 a13 fk fq pk pq tk kk kq lk lq uk uq vk vq m0 b1 b2 b3 b4 b5 b6 b7 b8 b9 b10 b11 b12 b13 b14 b15 b16 b17 b18 b19 b20 b21 b22 b23 b24 b25 fl) H) (hD : va_D A (zFull Z x0 a1 a2 a3 a4 a5 a6 a7 a8 a9 a10 a11 a12 a13 fk fq pk pq tk kk kq lk lq uk uq vk vq m0 b1 b2 b3 b4 b5 b6 b7 b8 b9 b10 b11 b12 b13 b14 b15 b16 b17 b18 b19 b20 b21 b22 b23 b24 b25 fl)) (hS : va_S A s.heap H locs) (hl : lv_has ls 4 [(0, .ref b), (1, .ref x0), (2, .ref m0), (3, .int 0)]) : W p l e room_1 s m #[Value.ref b] below meth c H locs 599000 7300000 (lw_Z below #[Value.ref b] s) (F0 m 610 ls []) := by
  obtain ⟨hx, hb, hr, hml, hown0, hts0, hX, hbl, hlocks, hgv⟩ := id C0
  have hown : s.vm.findClass RL = some m.cls := hown0
  have hts : ∀ w ∈ wsL_law, w.before #[Value.ref b] s = true := fun w h => hts0 w (wsL_law_in w h)
  have hA : ∀ q : Nat, s.heap.size ≤ q → A q := by rw [hAe]; exact fun _ h => h
  have hbA : ¬ A b := by rw [hAe]; exact Nat.not_le.mpr hbl
  have hP := hP.sub (ws' := [(x0, .inr (8, [.ref a1, .ref a2, .ref a3, .ref a4, .ref a5, .int 0, .ref a6, .ref a7, .ref a8, .ref a9, .ref a10, .ref a11, .ref a12, .ref a13, .int 9, .int 0, .int 0])), (a1, .inr (0, [.int 0, .int 16510910, .int 0, .ref fk, .ref fq])), (a2, .inr (2, [.int 0, .int 0, .ref pk, .ref pq])), (m0, .inr (9, [.ref b1, .ref b2, .ref b3, .ref b4, .int 0, .ref b5, .int 0, .ref b6, .ref b7, .ref b8, .int 0, .int 0, .int 0, .ref b9, .ref b10, .ref b11, .ref b12, .ref b13, .ref b14, .ref b15, .ref b16, .ref b17, .ref b18, .int 0, .ref b19, .ref b20, .ref b21, .ref b22, .ref b23, .ref b24, .ref b25]))]) [0, 1, 4, 22] rfl
  have hD := hD.sub (ws' := [(x0, .inr (8, [.ref a1, .ref a2, .ref a3, .ref a4, .ref a5, .int 0, .ref a6, .ref a7, .ref a8, .ref a9, .ref a10, .ref a11, .ref a12, .ref a13, .int 9, .int 0, .int 0])), (a1, .inr (0, [.int 0, .int 16510910, .int 0, .ref fk, .ref fq])), (a2, .inr (2, [.int 0, .int 0, .ref pk, .ref pq])), (m0, .inr (9, [.ref b1, .ref b2, .ref b3, .ref b4, .int 0, .ref b5, .int 0, .ref b6, .ref b7, .ref b8, .int 0, .int 0, .int 0, .ref b9, .ref b10, .ref b11, .ref b12, .ref b13, .ref b14, .ref b15, .ref b16, .ref b17, .ref b18, .int 0, .ref b19, .ref b20, .ref b21, .ref b22, .ref b23, .ref b24, .ref b25]))]) [0, 1, 4, 22] (by decide) rfl
  refine lv_aload_n hx hb dL_law_610 rfl (lv_at hl 1 rfl) ?_
  refine lv_aload_n hx hb dL_law_611 rfl (lv_at hl 0 rfl) ?_
  refine lv_iload_n hx hb dL_law_612 rfl (lv_at hl 3 rfl) ?_
  refine lv_iconst (v := 1) hx hb dL_law_613 (by decide) ?_
  refine lv_iadd hx hb dL_law_614 ?_
  refine lv_topi (fun f_1 ef_1 => ?_)
  obtain rfl : f_1 = 1 := ef_1.trans (by decide)
  refine va_sld hx hb hX hbl hbA hS (z_in (by decide)) dL_law_615 ?_
  refine lv_topi (fun f_2 ef_2 => ?_)
  obtain rfl : f_2 = xs 1 := ef_2
  refine lv_aload_n hx hb dL_law_616 rfl (lv_at hl 0 rfl) ?_
  refine lv_iload_n hx hb dL_law_617 rfl (lv_at hl 3 rfl) ?_
  refine lv_iconst (v := 2) hx hb dL_law_618 (by decide) ?_
  refine lv_iadd hx hb dL_law_619 ?_
  refine lv_topi (fun f_3 ef_3 => ?_)
  obtain rfl : f_3 = 2 := ef_3.trans (by decide)
  refine va_sld hx hb hX hbl hbA hS (z_in (by decide)) dL_law_620 ?_
  refine lv_topi (fun f_4 ef_4 => ?_)
  obtain rfl : f_4 = xs 2 := ef_4
  have hPc := hP.sub (ws' := [(x0, .inr (8, [.ref a1, .ref a2, .ref a3, .ref a4, .ref a5, .int 0, .ref a6, .ref a7, .ref a8, .ref a9, .ref a10, .ref a11, .ref a12, .ref a13, .int 9, .int 0, .int 0])), (a1, .inr (0, [.int 0, .int 16510910, .int 0, .ref fk, .ref fq])), (a2, .inr (2, [.int 0, .int 0, .ref pk, .ref pq]))]) [0, 1, 2] rfl
  have hDc := hD.sub (ws' := [(x0, .inr (8, [.ref a1, .ref a2, .ref a3, .ref a4, .ref a5, .int 0, .ref a6, .ref a7, .ref a8, .ref a9, .ref a10, .ref a11, .ref a12, .ref a13, .int 9, .int 0, .int 0])), (a1, .inr (0, [.int 0, .int 16510910, .int 0, .ref fk, .ref fq])), (a2, .inr (2, [.int 0, .int 0, .ref pk, .ref pq]))]) [0, 1, 2] (by decide) rfl
  have hFc := va_free (wc := [(x0, .inr (8, [.ref a1, .ref a2, .ref a3, .ref a4, .ref a5, .int 0, .ref a6, .ref a7, .ref a8, .ref a9, .ref a10, .ref a11, .ref a12, .ref a13, .int 9, .int 0, .int 0])), (a1, .inr (0, [.int 0, .int 16510910, .int 0, .ref fk, .ref fq])), (a2, .inr (2, [.int 0, .int 0, .ref pk, .ref pq]))]) hD hS hA [0, 1, 2] rfl
  refine va_calli (va_runV (As := [.int (xs 1), .int (xs 2)]) (rest := []) ⟨hx, hb, hml, hown, hts⟩ (c_X8_so l Z H.size x0 a1 a2 a3 a4 a5 a6 a7 a8 a9 a10 a11 a12 a13 fk fq pk pq (xs 1) (xs 2)) (cwV 2 hts gL_law_X8_so rfl rfl rfl (by decide +kernel) ⟨Nat.le_of_ble_eq_true rfl, Nat.le_of_ble_eq_true rfl⟩) ⟨fun a U g mk q => by obtain ⟨q0, q1, qP, qK, qD⟩ := q; exact ⟨q0, q1, qP, va_K.moved (u := U) (U := U.calling g mk a) (Vm.Alike.refl U.vm) qK, qD⟩, va_recv hK hPc (ci := 8) (q0 := 0) rfl rfl, fun U hU hW => ⟨rfl, by rw [hU], by rw [hU]; exact hPc, va_K.moved hW.alike hK, hDc.weaken (fun _ _ _ _ => trivial)⟩⟩ rfl rfl hl.1 rfl (lv_room (Nat.le_of_ble_eq_true rfl)) dL_law_621 ⟨Nat.le_of_ble_eq_true rfl, Nat.le_of_ble_eq_true rfl⟩) hS (fun q _ h => hFc q h) hFc (fun r_5 u t H1 locs ht hvm hw hB hz1 hk1 hS => ?_)
  subst hw
  have hP1 : va_P Z.1 vwCl [] H1 := fun k q h => by simp at h
  have hD1 : va_D (va_A [(x0, .inr (8, [.ref a1, .ref a2, .ref a3, .ref a4, .ref a5, .int 0, .ref a6, .ref a7, .ref a8, .ref a9, .ref a10, .ref a11, .ref a12, .ref a13, .int 9, .int 0, .int 0])), (a1, .inr (0, [.int 0, .int 16510910, .int 0, .ref fk, .ref fq])), (a2, .inr (2, [.int 0, .int 0, .ref pk, .ref pq]))] H.size) [] := ⟨fun i j p q h => by simp at h, fun k q h => by simp at h⟩
  obtain ⟨hP, hD⟩ := va_join (wr := [(m0, .inr (9, [.ref b1, .ref b2, .ref b3, .ref b4, .int 0, .ref b5, .int 0, .ref b6, .ref b7, .ref b8, .int 0, .int 0, .int 0, .ref b9, .ref b10, .ref b11, .ref b12, .ref b13, .ref b14, .ref b15, .ref b16, .ref b17, .ref b18, .int 0, .ref b19, .ref b20, .ref b21, .ref b22, .ref b23, .ref b24, .ref b25]))]) (w1 := []) hP hD [0, 1, 2] [3] rfl rfl (by decide) (by decide) hk1 hFc hP1 hD1
  clear hPc hDc hP1 hD1 hk1 hz1 hFc ht hvm
  generalize H1 = H at hP hS ⊢
  have hP : va_P Z.1 vwCl [(m0, .inr (9, [.ref b1, .ref b2, .ref b3, .ref b4, .int 0, .ref b5, .int 0, .ref b6, .ref b7, .ref b8, .int 0, .int 0, .int 0, .ref b9, .ref b10, .ref b11, .ref b12, .ref b13, .ref b14, .ref b15, .ref b16, .ref b17, .ref b18, .int 0, .ref b19, .ref b20, .ref b21, .ref b22, .ref b23, .ref b24, .ref b25]))] H := hP
  have hD : va_D A [(m0, .inr (9, [.ref b1, .ref b2, .ref b3, .ref b4, .int 0, .ref b5, .int 0, .ref b6, .ref b7, .ref b8, .int 0, .int 0, .int 0, .ref b9, .ref b10, .ref b11, .ref b12, .ref b13, .ref b14, .ref b15, .ref b16, .ref b17, .ref b18, .int 0, .ref b19, .ref b20, .ref b21, .ref b22, .ref b23, .ref b24, .ref b25]))] := hD
  refine lv_aload_n hx hb dL_law_624 rfl (lv_at hl 2 rfl) ?_
  refine lv_aload_n hx hb dL_law_625 rfl (lv_at hl 0 rfl) ?_
  refine lv_iload_n hx hb dL_law_626 rfl (lv_at hl 3 rfl) ?_
  refine lv_iconst (v := 1) hx hb dL_law_627 (by decide) ?_
  refine lv_iadd hx hb dL_law_628 ?_
  refine lv_topi (fun f_6 ef_6 => ?_)
  obtain rfl : f_6 = 1 := ef_6.trans (by decide)
  refine va_sld hx hb hX hbl hbA hS (z_in (by decide)) dL_law_629 ?_
  refine lv_topi (fun f_7 ef_7 => ?_)
  obtain rfl : f_7 = xs 1 := ef_7
  refine lv_aload_n hx hb dL_law_630 rfl (lv_at hl 0 rfl) ?_
  refine lv_iload_n hx hb dL_law_631 rfl (lv_at hl 3 rfl) ?_
  refine lv_iconst (v := 2) hx hb dL_law_632 (by decide) ?_
  refine lv_iadd hx hb dL_law_633 ?_
  refine lv_topi (fun f_8 ef_8 => ?_)
  obtain rfl : f_8 = 2 := ef_8.trans (by decide)
  refine va_sld hx hb hX hbl hbA hS (z_in (by decide)) dL_law_634 ?_
  refine lv_topi (fun f_9 ef_9 => ?_)
  obtain rfl : f_9 = xs 2 := ef_9
  have hPc := hP.sub (ws' := [(m0, .inr (9, [.ref b1, .ref b2, .ref b3, .ref b4, .int 0, .ref b5, .int 0, .ref b6, .ref b7, .ref b8, .int 0, .int 0, .int 0, .ref b9, .ref b10, .ref b11, .ref b12, .ref b13, .ref b14, .ref b15, .ref b16, .ref b17, .ref b18, .int 0, .ref b19, .ref b20, .ref b21, .ref b22, .ref b23, .ref b24, .ref b25]))]) [0] rfl
  have hDc := hD.sub (ws' := [(m0, .inr (9, [.ref b1, .ref b2, .ref b3, .ref b4, .int 0, .ref b5, .int 0, .ref b6, .ref b7, .ref b8, .int 0, .int 0, .int 0, .ref b9, .ref b10, .ref b11, .ref b12, .ref b13, .ref b14, .ref b15, .ref b16, .ref b17, .ref b18, .int 0, .ref b19, .ref b20, .ref b21, .ref b22, .ref b23, .ref b24, .ref b25]))]) [0] (by decide) rfl
  have hFc := va_free (wc := [(m0, .inr (9, [.ref b1, .ref b2, .ref b3, .ref b4, .int 0, .ref b5, .int 0, .ref b6, .ref b7, .ref b8, .int 0, .int 0, .int 0, .ref b9, .ref b10, .ref b11, .ref b12, .ref b13, .ref b14, .ref b15, .ref b16, .ref b17, .ref b18, .int 0, .ref b19, .ref b20, .ref b21, .ref b22, .ref b23, .ref b24, .ref b25]))]) hD hS hA [0] rfl
  refine va_calli (va_runV (As := [.int (xs 1), .int (xs 2)]) (rest := [.int (if (xs 1) ≤ 0 then (-1 : Int32) else (-1 : Int32))]) ⟨hx, hb, hml, hown, hts⟩ (c_X9_so l Z H.size m0 b1 b2 b3 b4 b5 b6 b7 b8 b9 b10 b11 b12 b13 b14 b15 b16 b17 b18 b19 b20 b21 b22 b23 b24 b25 (xs 1) (xs 2)) (cwV 2 hts gL_law_X9_so rfl rfl rfl (by decide +kernel) ⟨Nat.le_of_ble_eq_true rfl, Nat.le_of_ble_eq_true rfl⟩) ⟨fun a U g mk q => by obtain ⟨q0, q1, qP, qK, qD⟩ := q; exact ⟨q0, q1, qP, va_K.moved (u := U) (U := U.calling g mk a) (Vm.Alike.refl U.vm) qK, qD⟩, va_recv hK hPc (ci := 9) (q0 := 0) rfl rfl, fun U hU hW => ⟨rfl, by rw [hU], by rw [hU]; exact hPc, va_K.moved hW.alike hK, hDc.weaken (fun _ _ _ _ => trivial)⟩⟩ rfl rfl hl.1 rfl (lv_room (Nat.le_of_ble_eq_true rfl)) dL_law_635 ⟨Nat.le_of_ble_eq_true rfl, Nat.le_of_ble_eq_true rfl⟩) hS (fun q _ h => hFc q h) hFc (fun r_10 u t H1 locs ht hvm hw hB hz1 hk1 hS => ?_)
  subst hw
  have hP1 : va_P Z.1 vwCl [] H1 := fun k q h => by simp at h
  have hD1 : va_D (va_A [(m0, .inr (9, [.ref b1, .ref b2, .ref b3, .ref b4, .int 0, .ref b5, .int 0, .ref b6, .ref b7, .ref b8, .int 0, .int 0, .int 0, .ref b9, .ref b10, .ref b11, .ref b12, .ref b13, .ref b14, .ref b15, .ref b16, .ref b17, .ref b18, .int 0, .ref b19, .ref b20, .ref b21, .ref b22, .ref b23, .ref b24, .ref b25]))] H.size) [] := ⟨fun i j p q h => by simp at h, fun k q h => by simp at h⟩
  obtain ⟨hP, hD⟩ := va_join (wr := []) (w1 := []) hP hD [0] [] rfl rfl (by decide) (by decide) hk1 hFc hP1 hD1
  clear hPc hDc hP1 hD1 hk1 hz1 hFc ht hvm
  generalize H1 = H at hP hS ⊢
  have hP : va_P Z.1 vwCl [] H := hP
  have hD : va_D A [] := hD
  refine lv_icmp_eq (tgt := 1054) hx hb dL_law_638 (by decide) (fun _ => ?_) (fun c9 => absurd (eq_so (xs 1)) c9)
  exact law_tail C0 hAe (Nat.le_of_ble_eq_true rfl) (Nat.le_of_ble_eq_true rfl) hS (lv_sub hl [0, 3] rfl)
set_option maxHeartbeats 4000000 in
set_option maxRecDepth 100000 in
theorem law_17 {p : Program} {l : Launch} {e : Env} {s : State} {m : MethodId} {below : List Frame} {meth : Method} {c : Code} {b : Nat} {xs : Nat → Int32} (C0 : lw_At p s m meth c b 6 xs) {A : Nat → Prop} (hAe : A = fun q : Nat => s.heap.size ≤ q) (Z : gZ) (kA vA : Nat) (hK : va_K Z.1 vwCl (gT Z) s) (hG : gS kA vA A s) (x0 : Nat) (a1 : Nat) (a2 : Nat) (a3 : Nat) (a4 : Nat) (a5 : Nat) (a6 : Nat) (a7 : Nat) (a8 : Nat) (a9 : Nat) (a10 : Nat) (a11 : Nat) (a12 : Nat) (a13 : Nat) (fk : Nat) (fq : Nat) (pk : Nat) (pq : Nat) (tk : Nat) (kk : Nat) (kq : Nat) (lk : Nat) (lq : Nat) (uk : Nat) (uq : Nat) (vk : Nat) (vq : Nat) (m0 : Nat) (b1 : Nat) (b2 : Nat) (b3 : Nat) (b4 : Nat) (b5 : Nat) (b6 : Nat) (b7 : Nat) (b8 : Nat) (b9 : Nat) (b10 : Nat) (b11 : Nat) (b12 : Nat) (b13 : Nat) (b14 : Nat) (b15 : Nat) (b16 : Nat) (b17 : Nat) (b18 : Nat) (b19 : Nat) (b20 : Nat) (b21 : Nat) (b22 : Nat) (b23 : Nat) (b24 : Nat) (b25 : Nat) (fl : Nat → Int32) (hfl : ∀ j, j < 4 → fl j = -1) {H : Heap} {locs : List Loc} {ls : Array Slot} (hP : va_P Z.1 vwCl (zFull Z x0 a1 a2 a3 a4 a5 a6 a7 a8 a9 a10 a11 a12 a13 fk fq pk pq tk kk kq lk lq uk uq vk vq m0 b1 b2 b3 b4 b5 b6 b7 b8 b9 b10 b11 b12 b13 b14 b15 b16 b17 b18 b19 b20 b21 b22 b23 b24 b25 fl) H) (hD : va_D A (zFull Z x0 a1 a2 a3 a4 a5 a6 a7 a8 a9 a10 a11 a12 a13 fk fq pk pq tk kk kq lk lq uk uq vk vq m0 b1 b2 b3 b4 b5 b6 b7 b8 b9 b10 b11 b12 b13 b14 b15 b16 b17 b18 b19 b20 b21 b22 b23 b24 b25 fl)) (hS : va_S A s.heap H locs) (hl : lv_has ls 4 [(0, .ref b), (1, .ref x0), (2, .ref m0), (3, .int 0)]) : W p l e room_1 s m #[Value.ref b] below meth c H locs 599000 7300000 (lw_Z below #[Value.ref b] s) (F0 m 643 ls []) := by
  obtain ⟨hx, hb, hr, hml, hown0, hts0, hX, hbl, hlocks, hgv⟩ := id C0
  have hown : s.vm.findClass RL = some m.cls := hown0
  have hts : ∀ w ∈ wsL_law, w.before #[Value.ref b] s = true := fun w h => hts0 w (wsL_law_in w h)
  have hA : ∀ q : Nat, s.heap.size ≤ q → A q := by rw [hAe]; exact fun _ h => h
  have hbA : ¬ A b := by rw [hAe]; exact Nat.not_le.mpr hbl
  have hP := hP.sub (ws' := [(x0, .inr (8, [.ref a1, .ref a2, .ref a3, .ref a4, .ref a5, .int 0, .ref a6, .ref a7, .ref a8, .ref a9, .ref a10, .ref a11, .ref a12, .ref a13, .int 9, .int 0, .int 0])), (a1, .inr (0, [.int 0, .int 16510910, .int 0, .ref fk, .ref fq])), (m0, .inr (9, [.ref b1, .ref b2, .ref b3, .ref b4, .int 0, .ref b5, .int 0, .ref b6, .ref b7, .ref b8, .int 0, .int 0, .int 0, .ref b9, .ref b10, .ref b11, .ref b12, .ref b13, .ref b14, .ref b15, .ref b16, .ref b17, .ref b18, .int 0, .ref b19, .ref b20, .ref b21, .ref b22, .ref b23, .ref b24, .ref b25]))]) [0, 1, 22] rfl
  have hD := hD.sub (ws' := [(x0, .inr (8, [.ref a1, .ref a2, .ref a3, .ref a4, .ref a5, .int 0, .ref a6, .ref a7, .ref a8, .ref a9, .ref a10, .ref a11, .ref a12, .ref a13, .int 9, .int 0, .int 0])), (a1, .inr (0, [.int 0, .int 16510910, .int 0, .ref fk, .ref fq])), (m0, .inr (9, [.ref b1, .ref b2, .ref b3, .ref b4, .int 0, .ref b5, .int 0, .ref b6, .ref b7, .ref b8, .int 0, .int 0, .int 0, .ref b9, .ref b10, .ref b11, .ref b12, .ref b13, .ref b14, .ref b15, .ref b16, .ref b17, .ref b18, .int 0, .ref b19, .ref b20, .ref b21, .ref b22, .ref b23, .ref b24, .ref b25]))]) [0, 1, 22] (by decide) rfl
  refine lv_aload_n hx hb dL_law_643 rfl (lv_at hl 1 rfl) ?_
  refine lv_aload_n hx hb dL_law_644 rfl (lv_at hl 0 rfl) ?_
  refine lv_iload_n hx hb dL_law_645 rfl (lv_at hl 3 rfl) ?_
  refine lv_iconst (v := 1) hx hb dL_law_646 (by decide) ?_
  refine lv_iadd hx hb dL_law_647 ?_
  refine lv_topi (fun f_1 ef_1 => ?_)
  obtain rfl : f_1 = 1 := ef_1.trans (by decide)
  refine va_sld hx hb hX hbl hbA hS (z_in (by decide)) dL_law_648 ?_
  refine lv_topi (fun f_2 ef_2 => ?_)
  obtain rfl : f_2 = xs 1 := ef_2
  refine lv_aload_n hx hb dL_law_649 rfl (lv_at hl 0 rfl) ?_
  refine lv_iload_n hx hb dL_law_650 rfl (lv_at hl 3 rfl) ?_
  refine lv_iconst (v := 2) hx hb dL_law_651 (by decide) ?_
  refine lv_iadd hx hb dL_law_652 ?_
  refine lv_topi (fun f_3 ef_3 => ?_)
  obtain rfl : f_3 = 2 := ef_3.trans (by decide)
  refine va_sld hx hb hX hbl hbA hS (z_in (by decide)) dL_law_653 ?_
  refine lv_topi (fun f_4 ef_4 => ?_)
  obtain rfl : f_4 = xs 2 := ef_4
  refine lv_aload_n hx hb dL_law_654 rfl (lv_at hl 0 rfl) ?_
  refine lv_iload_n hx hb dL_law_655 rfl (lv_at hl 3 rfl) ?_
  refine lv_iconst (v := 3) hx hb dL_law_656 (by decide) ?_
  refine lv_iadd hx hb dL_law_657 ?_
  refine lv_topi (fun f_5 ef_5 => ?_)
  obtain rfl : f_5 = 3 := ef_5.trans (by decide)
  refine va_sld hx hb hX hbl hbA hS (z_in (by decide)) dL_law_658 ?_
  refine lv_topi (fun f_6 ef_6 => ?_)
  obtain rfl : f_6 = xs 3 := ef_6
  have hPc := hP.sub (ws' := [(x0, .inr (8, [.ref a1, .ref a2, .ref a3, .ref a4, .ref a5, .int 0, .ref a6, .ref a7, .ref a8, .ref a9, .ref a10, .ref a11, .ref a12, .ref a13, .int 9, .int 0, .int 0])), (a1, .inr (0, [.int 0, .int 16510910, .int 0, .ref fk, .ref fq]))]) [0, 1] rfl
  have hDc := hD.sub (ws' := [(x0, .inr (8, [.ref a1, .ref a2, .ref a3, .ref a4, .ref a5, .int 0, .ref a6, .ref a7, .ref a8, .ref a9, .ref a10, .ref a11, .ref a12, .ref a13, .int 9, .int 0, .int 0])), (a1, .inr (0, [.int 0, .int 16510910, .int 0, .ref fk, .ref fq]))]) [0, 1] (by decide) rfl
  have hFc := va_free (wc := [(x0, .inr (8, [.ref a1, .ref a2, .ref a3, .ref a4, .ref a5, .int 0, .ref a6, .ref a7, .ref a8, .ref a9, .ref a10, .ref a11, .ref a12, .ref a13, .int 9, .int 0, .int 0])), (a1, .inr (0, [.int 0, .int 16510910, .int 0, .ref fk, .ref fq]))]) hD hS hA [0, 1] rfl
  refine va_calll (va_runV (As := [.int (xs 1), .int (xs 2), .int (xs 3)]) (rest := []) ⟨hx, hb, hml, hown, hts⟩ (c_X8_exact l Z H.size x0 a1 a2 a3 a4 a5 a6 a7 a8 a9 a10 a11 a12 a13 fk fq (xs 1) (xs 2) (xs 3)) (cwV 3 hts gL_law_X8_exact rfl rfl rfl (by decide +kernel) ⟨Nat.le_of_ble_eq_true rfl, Nat.le_of_ble_eq_true rfl⟩) ⟨fun a U g mk q => by obtain ⟨q0, q1, qP, qK, qD⟩ := q; exact ⟨q0, q1, qP, va_K.moved (u := U) (U := U.calling g mk a) (Vm.Alike.refl U.vm) qK, qD⟩, va_recv hK hPc (ci := 8) (q0 := 0) rfl rfl, fun U hU hW => ⟨rfl, by rw [hU], by rw [hU]; exact hPc, va_K.moved hW.alike hK, hDc.weaken (fun _ _ _ _ => trivial)⟩⟩ rfl rfl hl.1 rfl (lv_room (Nat.le_of_ble_eq_true rfl)) dL_law_659 ⟨Nat.le_of_ble_eq_true rfl, Nat.le_of_ble_eq_true rfl⟩) hS (fun q _ h => hFc q h) hFc (fun r_7 u t H1 locs ht hvm hw hB hz1 hk1 hS => ?_)
  subst hw
  have hP1 : va_P Z.1 vwCl [] H1 := fun k q h => by simp at h
  have hD1 : va_D (va_A [(x0, .inr (8, [.ref a1, .ref a2, .ref a3, .ref a4, .ref a5, .int 0, .ref a6, .ref a7, .ref a8, .ref a9, .ref a10, .ref a11, .ref a12, .ref a13, .int 9, .int 0, .int 0])), (a1, .inr (0, [.int 0, .int 16510910, .int 0, .ref fk, .ref fq]))] H.size) [] := ⟨fun i j p q h => by simp at h, fun k q h => by simp at h⟩
  obtain ⟨hP, hD⟩ := va_join (wr := [(m0, .inr (9, [.ref b1, .ref b2, .ref b3, .ref b4, .int 0, .ref b5, .int 0, .ref b6, .ref b7, .ref b8, .int 0, .int 0, .int 0, .ref b9, .ref b10, .ref b11, .ref b12, .ref b13, .ref b14, .ref b15, .ref b16, .ref b17, .ref b18, .int 0, .ref b19, .ref b20, .ref b21, .ref b22, .ref b23, .ref b24, .ref b25]))]) (w1 := []) hP hD [0, 1] [2] rfl rfl (by decide) (by decide) hk1 hFc hP1 hD1
  clear hPc hDc hP1 hD1 hk1 hz1 hFc ht hvm
  generalize H1 = H at hP hS ⊢
  have hP : va_P Z.1 vwCl [(m0, .inr (9, [.ref b1, .ref b2, .ref b3, .ref b4, .int 0, .ref b5, .int 0, .ref b6, .ref b7, .ref b8, .int 0, .int 0, .int 0, .ref b9, .ref b10, .ref b11, .ref b12, .ref b13, .ref b14, .ref b15, .ref b16, .ref b17, .ref b18, .int 0, .ref b19, .ref b20, .ref b21, .ref b22, .ref b23, .ref b24, .ref b25]))] H := hP
  have hD : va_D A [(m0, .inr (9, [.ref b1, .ref b2, .ref b3, .ref b4, .int 0, .ref b5, .int 0, .ref b6, .ref b7, .ref b8, .int 0, .int 0, .int 0, .ref b9, .ref b10, .ref b11, .ref b12, .ref b13, .ref b14, .ref b15, .ref b16, .ref b17, .ref b18, .int 0, .ref b19, .ref b20, .ref b21, .ref b22, .ref b23, .ref b24, .ref b25]))] := hD
  refine lv_aload_n hx hb dL_law_662 rfl (lv_at hl 2 rfl) ?_
  refine lv_aload_n hx hb dL_law_663 rfl (lv_at hl 0 rfl) ?_
  refine lv_iload_n hx hb dL_law_664 rfl (lv_at hl 3 rfl) ?_
  refine lv_iconst (v := 1) hx hb dL_law_665 (by decide) ?_
  refine lv_iadd hx hb dL_law_666 ?_
  refine lv_topi (fun f_8 ef_8 => ?_)
  obtain rfl : f_8 = 1 := ef_8.trans (by decide)
  refine va_sld hx hb hX hbl hbA hS (z_in (by decide)) dL_law_667 ?_
  refine lv_topi (fun f_9 ef_9 => ?_)
  obtain rfl : f_9 = xs 1 := ef_9
  refine lv_aload_n hx hb dL_law_668 rfl (lv_at hl 0 rfl) ?_
  refine lv_iload_n hx hb dL_law_669 rfl (lv_at hl 3 rfl) ?_
  refine lv_iconst (v := 2) hx hb dL_law_670 (by decide) ?_
  refine lv_iadd hx hb dL_law_671 ?_
  refine lv_topi (fun f_10 ef_10 => ?_)
  obtain rfl : f_10 = 2 := ef_10.trans (by decide)
  refine va_sld hx hb hX hbl hbA hS (z_in (by decide)) dL_law_672 ?_
  refine lv_topi (fun f_11 ef_11 => ?_)
  obtain rfl : f_11 = xs 2 := ef_11
  refine lv_aload_n hx hb dL_law_673 rfl (lv_at hl 0 rfl) ?_
  refine lv_iload_n hx hb dL_law_674 rfl (lv_at hl 3 rfl) ?_
  refine lv_iconst (v := 3) hx hb dL_law_675 (by decide) ?_
  refine lv_iadd hx hb dL_law_676 ?_
  refine lv_topi (fun f_12 ef_12 => ?_)
  obtain rfl : f_12 = 3 := ef_12.trans (by decide)
  refine va_sld hx hb hX hbl hbA hS (z_in (by decide)) dL_law_677 ?_
  refine lv_topi (fun f_13 ef_13 => ?_)
  obtain rfl : f_13 = xs 3 := ef_13
  have hPc := hP.sub (ws' := [(m0, .inr (9, [.ref b1, .ref b2, .ref b3, .ref b4, .int 0, .ref b5, .int 0, .ref b6, .ref b7, .ref b8, .int 0, .int 0, .int 0, .ref b9, .ref b10, .ref b11, .ref b12, .ref b13, .ref b14, .ref b15, .ref b16, .ref b17, .ref b18, .int 0, .ref b19, .ref b20, .ref b21, .ref b22, .ref b23, .ref b24, .ref b25]))]) [0] rfl
  have hDc := hD.sub (ws' := [(m0, .inr (9, [.ref b1, .ref b2, .ref b3, .ref b4, .int 0, .ref b5, .int 0, .ref b6, .ref b7, .ref b8, .int 0, .int 0, .int 0, .ref b9, .ref b10, .ref b11, .ref b12, .ref b13, .ref b14, .ref b15, .ref b16, .ref b17, .ref b18, .int 0, .ref b19, .ref b20, .ref b21, .ref b22, .ref b23, .ref b24, .ref b25]))]) [0] (by decide) rfl
  have hFc := va_free (wc := [(m0, .inr (9, [.ref b1, .ref b2, .ref b3, .ref b4, .int 0, .ref b5, .int 0, .ref b6, .ref b7, .ref b8, .int 0, .int 0, .int 0, .ref b9, .ref b10, .ref b11, .ref b12, .ref b13, .ref b14, .ref b15, .ref b16, .ref b17, .ref b18, .int 0, .ref b19, .ref b20, .ref b21, .ref b22, .ref b23, .ref b24, .ref b25]))]) hD hS hA [0] rfl
  refine va_calll (va_runV (As := [.int (xs 1), .int (xs 2), .int (xs 3)]) (rest := [.long (-1)]) ⟨hx, hb, hml, hown, hts⟩ (c_X9_exact l Z H.size m0 b1 b2 b3 b4 b5 b6 b7 b8 b9 b10 b11 b12 b13 b14 b15 b16 b17 b18 b19 b20 b21 b22 b23 b24 b25 (xs 1) (xs 2) (xs 3)) (cwV 3 hts gL_law_X9_exact rfl rfl rfl (by decide +kernel) ⟨Nat.le_of_ble_eq_true rfl, Nat.le_of_ble_eq_true rfl⟩) ⟨fun a U g mk q => by obtain ⟨q0, q1, qP, qK, qD⟩ := q; exact ⟨q0, q1, qP, va_K.moved (u := U) (U := U.calling g mk a) (Vm.Alike.refl U.vm) qK, qD⟩, va_recv hK hPc (ci := 9) (q0 := 0) rfl rfl, fun U hU hW => ⟨rfl, by rw [hU], by rw [hU]; exact hPc, va_K.moved hW.alike hK, hDc.weaken (fun _ _ _ _ => trivial)⟩⟩ rfl rfl hl.1 rfl (lv_room (Nat.le_of_ble_eq_true rfl)) dL_law_678 ⟨Nat.le_of_ble_eq_true rfl, Nat.le_of_ble_eq_true rfl⟩) hS (fun q _ h => hFc q h) hFc (fun r_14 u t H1 locs ht hvm hw hB hz1 hk1 hS => ?_)
  subst hw
  have hP1 : va_P Z.1 vwCl [] H1 := fun k q h => by simp at h
  have hD1 : va_D (va_A [(m0, .inr (9, [.ref b1, .ref b2, .ref b3, .ref b4, .int 0, .ref b5, .int 0, .ref b6, .ref b7, .ref b8, .int 0, .int 0, .int 0, .ref b9, .ref b10, .ref b11, .ref b12, .ref b13, .ref b14, .ref b15, .ref b16, .ref b17, .ref b18, .int 0, .ref b19, .ref b20, .ref b21, .ref b22, .ref b23, .ref b24, .ref b25]))] H.size) [] := ⟨fun i j p q h => by simp at h, fun k q h => by simp at h⟩
  obtain ⟨hP, hD⟩ := va_join (wr := []) (w1 := []) hP hD [0] [] rfl rfl (by decide) (by decide) hk1 hFc hP1 hD1
  clear hPc hDc hP1 hD1 hk1 hz1 hFc ht hvm
  generalize H1 = H at hP hS ⊢
  have hP : va_P Z.1 vwCl [] H := hP
  have hD : va_D A [] := hD
  refine W.lcmp hx hb dL_law_681 ?_
  refine lv_if_eq (tgt := 1054) hx hb dL_law_682 (by decide) (fun _ => ?_) (fun c9 => absurd (by decide) c9)
  exact law_tail C0 hAe (Nat.le_of_ble_eq_true rfl) (Nat.le_of_ble_eq_true rfl) hS (lv_sub hl [0, 3] rfl)
set_option maxHeartbeats 4000000 in
set_option maxRecDepth 100000 in
theorem law_18 {p : Program} {l : Launch} {e : Env} {s : State} {m : MethodId} {below : List Frame} {meth : Method} {c : Code} {b : Nat} {xs : Nat → Int32} (C0 : lw_At p s m meth c b 6 xs) {A : Nat → Prop} (hAe : A = fun q : Nat => s.heap.size ≤ q) (Z : gZ) (kA vA : Nat) (hK : va_K Z.1 vwCl (gT Z) s) (hG : gS kA vA A s) (x0 : Nat) (a1 : Nat) (a2 : Nat) (a3 : Nat) (a4 : Nat) (a5 : Nat) (a6 : Nat) (a7 : Nat) (a8 : Nat) (a9 : Nat) (a10 : Nat) (a11 : Nat) (a12 : Nat) (a13 : Nat) (fk : Nat) (fq : Nat) (pk : Nat) (pq : Nat) (tk : Nat) (kk : Nat) (kq : Nat) (lk : Nat) (lq : Nat) (uk : Nat) (uq : Nat) (vk : Nat) (vq : Nat) (m0 : Nat) (b1 : Nat) (b2 : Nat) (b3 : Nat) (b4 : Nat) (b5 : Nat) (b6 : Nat) (b7 : Nat) (b8 : Nat) (b9 : Nat) (b10 : Nat) (b11 : Nat) (b12 : Nat) (b13 : Nat) (b14 : Nat) (b15 : Nat) (b16 : Nat) (b17 : Nat) (b18 : Nat) (b19 : Nat) (b20 : Nat) (b21 : Nat) (b22 : Nat) (b23 : Nat) (b24 : Nat) (b25 : Nat) (fl : Nat → Int32) (hfl : ∀ j, j < 4 → fl j = -1) {H : Heap} {locs : List Loc} {ls : Array Slot} (hP : va_P Z.1 vwCl (zFull Z x0 a1 a2 a3 a4 a5 a6 a7 a8 a9 a10 a11 a12 a13 fk fq pk pq tk kk kq lk lq uk uq vk vq m0 b1 b2 b3 b4 b5 b6 b7 b8 b9 b10 b11 b12 b13 b14 b15 b16 b17 b18 b19 b20 b21 b22 b23 b24 b25 fl) H) (hD : va_D A (zFull Z x0 a1 a2 a3 a4 a5 a6 a7 a8 a9 a10 a11 a12 a13 fk fq pk pq tk kk kq lk lq uk uq vk vq m0 b1 b2 b3 b4 b5 b6 b7 b8 b9 b10 b11 b12 b13 b14 b15 b16 b17 b18 b19 b20 b21 b22 b23 b24 b25 fl)) (hS : va_S A s.heap H locs) (hl : lv_has ls 4 [(0, .ref b), (1, .ref x0), (2, .ref m0), (3, .int 0)]) : W p l e room_1 s m #[Value.ref b] below meth c H locs 599000 7300000 (lw_Z below #[Value.ref b] s) (F0 m 687 ls []) := by
  obtain ⟨hx, hb, hr, hml, hown0, hts0, hX, hbl, hlocks, hgv⟩ := id C0
  have hown : s.vm.findClass RL = some m.cls := hown0
  have hts : ∀ w ∈ wsL_law, w.before #[Value.ref b] s = true := fun w h => hts0 w (wsL_law_in w h)
  have hA : ∀ q : Nat, s.heap.size ≤ q → A q := by rw [hAe]; exact fun _ h => h
  have hbA : ¬ A b := by rw [hAe]; exact Nat.not_le.mpr hbl
  have hP := hP.sub (ws' := [(x0, .inr (8, [.ref a1, .ref a2, .ref a3, .ref a4, .ref a5, .int 0, .ref a6, .ref a7, .ref a8, .ref a9, .ref a10, .ref a11, .ref a12, .ref a13, .int 9, .int 0, .int 0])), (a1, .inr (0, [.int 0, .int 16510910, .int 0, .ref fk, .ref fq])), (m0, .inr (9, [.ref b1, .ref b2, .ref b3, .ref b4, .int 0, .ref b5, .int 0, .ref b6, .ref b7, .ref b8, .int 0, .int 0, .int 0, .ref b9, .ref b10, .ref b11, .ref b12, .ref b13, .ref b14, .ref b15, .ref b16, .ref b17, .ref b18, .int 0, .ref b19, .ref b20, .ref b21, .ref b22, .ref b23, .ref b24, .ref b25]))]) [0, 1, 22] rfl
  have hD := hD.sub (ws' := [(x0, .inr (8, [.ref a1, .ref a2, .ref a3, .ref a4, .ref a5, .int 0, .ref a6, .ref a7, .ref a8, .ref a9, .ref a10, .ref a11, .ref a12, .ref a13, .int 9, .int 0, .int 0])), (a1, .inr (0, [.int 0, .int 16510910, .int 0, .ref fk, .ref fq])), (m0, .inr (9, [.ref b1, .ref b2, .ref b3, .ref b4, .int 0, .ref b5, .int 0, .ref b6, .ref b7, .ref b8, .int 0, .int 0, .int 0, .ref b9, .ref b10, .ref b11, .ref b12, .ref b13, .ref b14, .ref b15, .ref b16, .ref b17, .ref b18, .int 0, .ref b19, .ref b20, .ref b21, .ref b22, .ref b23, .ref b24, .ref b25]))]) [0, 1, 22] (by decide) rfl
  refine lv_aload_n hx hb dL_law_687 rfl (lv_at hl 1 rfl) ?_
  refine lv_aload_n hx hb dL_law_688 rfl (lv_at hl 0 rfl) ?_
  refine lv_iload_n hx hb dL_law_689 rfl (lv_at hl 3 rfl) ?_
  refine lv_iconst (v := 1) hx hb dL_law_690 (by decide) ?_
  refine lv_iadd hx hb dL_law_691 ?_
  refine lv_topi (fun f_1 ef_1 => ?_)
  obtain rfl : f_1 = 1 := ef_1.trans (by decide)
  refine va_sld hx hb hX hbl hbA hS (z_in (by decide)) dL_law_692 ?_
  refine lv_topi (fun f_2 ef_2 => ?_)
  obtain rfl : f_2 = xs 1 := ef_2
  have hPc := hP.sub (ws' := [(x0, .inr (8, [.ref a1, .ref a2, .ref a3, .ref a4, .ref a5, .int 0, .ref a6, .ref a7, .ref a8, .ref a9, .ref a10, .ref a11, .ref a12, .ref a13, .int 9, .int 0, .int 0])), (a1, .inr (0, [.int 0, .int 16510910, .int 0, .ref fk, .ref fq]))]) [0, 1] rfl
  have hDc := hD.sub (ws' := [(x0, .inr (8, [.ref a1, .ref a2, .ref a3, .ref a4, .ref a5, .int 0, .ref a6, .ref a7, .ref a8, .ref a9, .ref a10, .ref a11, .ref a12, .ref a13, .int 9, .int 0, .int 0])), (a1, .inr (0, [.int 0, .int 16510910, .int 0, .ref fk, .ref fq]))]) [0, 1] (by decide) rfl
  have hFc := va_free (wc := [(x0, .inr (8, [.ref a1, .ref a2, .ref a3, .ref a4, .ref a5, .int 0, .ref a6, .ref a7, .ref a8, .ref a9, .ref a10, .ref a11, .ref a12, .ref a13, .int 9, .int 0, .int 0])), (a1, .inr (0, [.int 0, .int 16510910, .int 0, .ref fk, .ref fq]))]) hD hS hA [0, 1] rfl
  refine va_calli (va_runV (As := [.int (xs 1)]) (rest := []) ⟨hx, hb, hml, hown, hts⟩ (c_X8_shun l Z H.size x0 a1 a2 a3 a4 a5 a6 a7 a8 a9 a10 a11 a12 a13 fk fq (xs 1)) (cwV 1 hts gL_law_X8_shun rfl rfl rfl (by decide +kernel) ⟨Nat.le_of_ble_eq_true rfl, Nat.le_of_ble_eq_true rfl⟩) ⟨fun a U g mk q => by obtain ⟨q0, q1, qP, qK, qD⟩ := q; exact ⟨q0, q1, qP, va_K.moved (u := U) (U := U.calling g mk a) (Vm.Alike.refl U.vm) qK, qD⟩, va_recv hK hPc (ci := 8) (q0 := 0) rfl rfl, fun U hU hW => ⟨rfl, by rw [hU], by rw [hU]; exact hPc, va_K.moved hW.alike hK, hDc.weaken (fun _ _ _ _ => trivial)⟩⟩ rfl rfl hl.1 rfl (lv_room (Nat.le_of_ble_eq_true rfl)) dL_law_693 ⟨Nat.le_of_ble_eq_true rfl, Nat.le_of_ble_eq_true rfl⟩) hS (fun q _ h => hFc q h) hFc (fun r_3 u t H1 locs ht hvm hw hB hz1 hk1 hS => ?_)
  subst hw
  have hP1 : va_P Z.1 vwCl [] H1 := fun k q h => by simp at h
  have hD1 : va_D (va_A [(x0, .inr (8, [.ref a1, .ref a2, .ref a3, .ref a4, .ref a5, .int 0, .ref a6, .ref a7, .ref a8, .ref a9, .ref a10, .ref a11, .ref a12, .ref a13, .int 9, .int 0, .int 0])), (a1, .inr (0, [.int 0, .int 16510910, .int 0, .ref fk, .ref fq]))] H.size) [] := ⟨fun i j p q h => by simp at h, fun k q h => by simp at h⟩
  obtain ⟨hP, hD⟩ := va_join (wr := [(m0, .inr (9, [.ref b1, .ref b2, .ref b3, .ref b4, .int 0, .ref b5, .int 0, .ref b6, .ref b7, .ref b8, .int 0, .int 0, .int 0, .ref b9, .ref b10, .ref b11, .ref b12, .ref b13, .ref b14, .ref b15, .ref b16, .ref b17, .ref b18, .int 0, .ref b19, .ref b20, .ref b21, .ref b22, .ref b23, .ref b24, .ref b25]))]) (w1 := []) hP hD [0, 1] [2] rfl rfl (by decide) (by decide) hk1 hFc hP1 hD1
  clear hPc hDc hP1 hD1 hk1 hz1 hFc ht hvm
  generalize H1 = H at hP hS ⊢
  have hP : va_P Z.1 vwCl [(m0, .inr (9, [.ref b1, .ref b2, .ref b3, .ref b4, .int 0, .ref b5, .int 0, .ref b6, .ref b7, .ref b8, .int 0, .int 0, .int 0, .ref b9, .ref b10, .ref b11, .ref b12, .ref b13, .ref b14, .ref b15, .ref b16, .ref b17, .ref b18, .int 0, .ref b19, .ref b20, .ref b21, .ref b22, .ref b23, .ref b24, .ref b25]))] H := hP
  have hD : va_D A [(m0, .inr (9, [.ref b1, .ref b2, .ref b3, .ref b4, .int 0, .ref b5, .int 0, .ref b6, .ref b7, .ref b8, .int 0, .int 0, .int 0, .ref b9, .ref b10, .ref b11, .ref b12, .ref b13, .ref b14, .ref b15, .ref b16, .ref b17, .ref b18, .int 0, .ref b19, .ref b20, .ref b21, .ref b22, .ref b23, .ref b24, .ref b25]))] := hD
  refine lv_aload_n hx hb dL_law_696 rfl (lv_at hl 2 rfl) ?_
  refine lv_aload_n hx hb dL_law_697 rfl (lv_at hl 0 rfl) ?_
  refine lv_iload_n hx hb dL_law_698 rfl (lv_at hl 3 rfl) ?_
  refine lv_iconst (v := 1) hx hb dL_law_699 (by decide) ?_
  refine lv_iadd hx hb dL_law_700 ?_
  refine lv_topi (fun f_4 ef_4 => ?_)
  obtain rfl : f_4 = 1 := ef_4.trans (by decide)
  refine va_sld hx hb hX hbl hbA hS (z_in (by decide)) dL_law_701 ?_
  refine lv_topi (fun f_5 ef_5 => ?_)
  obtain rfl : f_5 = xs 1 := ef_5
  have hPc := hP.sub (ws' := [(m0, .inr (9, [.ref b1, .ref b2, .ref b3, .ref b4, .int 0, .ref b5, .int 0, .ref b6, .ref b7, .ref b8, .int 0, .int 0, .int 0, .ref b9, .ref b10, .ref b11, .ref b12, .ref b13, .ref b14, .ref b15, .ref b16, .ref b17, .ref b18, .int 0, .ref b19, .ref b20, .ref b21, .ref b22, .ref b23, .ref b24, .ref b25]))]) [0] rfl
  have hDc := hD.sub (ws' := [(m0, .inr (9, [.ref b1, .ref b2, .ref b3, .ref b4, .int 0, .ref b5, .int 0, .ref b6, .ref b7, .ref b8, .int 0, .int 0, .int 0, .ref b9, .ref b10, .ref b11, .ref b12, .ref b13, .ref b14, .ref b15, .ref b16, .ref b17, .ref b18, .int 0, .ref b19, .ref b20, .ref b21, .ref b22, .ref b23, .ref b24, .ref b25]))]) [0] (by decide) rfl
  have hFc := va_free (wc := [(m0, .inr (9, [.ref b1, .ref b2, .ref b3, .ref b4, .int 0, .ref b5, .int 0, .ref b6, .ref b7, .ref b8, .int 0, .int 0, .int 0, .ref b9, .ref b10, .ref b11, .ref b12, .ref b13, .ref b14, .ref b15, .ref b16, .ref b17, .ref b18, .int 0, .ref b19, .ref b20, .ref b21, .ref b22, .ref b23, .ref b24, .ref b25]))]) hD hS hA [0] rfl
  refine va_calli (va_runV (As := [.int (xs 1)]) (rest := [.int (-1)]) ⟨hx, hb, hml, hown, hts⟩ (c_X9_shun l Z H.size m0 b1 b2 b3 b4 b5 b6 b7 b8 b9 b10 b11 b12 b13 b14 b15 b16 b17 b18 b19 b20 b21 b22 b23 b24 b25 (xs 1)) (cwV 1 hts gL_law_X9_shun rfl rfl rfl (by decide +kernel) ⟨Nat.le_of_ble_eq_true rfl, Nat.le_of_ble_eq_true rfl⟩) ⟨fun a U g mk q => by obtain ⟨q0, q1, qP, qK, qD⟩ := q; exact ⟨q0, q1, qP, va_K.moved (u := U) (U := U.calling g mk a) (Vm.Alike.refl U.vm) qK, qD⟩, va_recv hK hPc (ci := 9) (q0 := 0) rfl rfl, fun U hU hW => ⟨rfl, by rw [hU], by rw [hU]; exact hPc, va_K.moved hW.alike hK, hDc.weaken (fun _ _ _ _ => trivial)⟩⟩ rfl rfl hl.1 rfl (lv_room (Nat.le_of_ble_eq_true rfl)) dL_law_702 ⟨Nat.le_of_ble_eq_true rfl, Nat.le_of_ble_eq_true rfl⟩) hS (fun q _ h => hFc q h) hFc (fun r_6 u t H1 locs ht hvm hw hB hz1 hk1 hS => ?_)
  subst hw
  have hP1 : va_P Z.1 vwCl [] H1 := fun k q h => by simp at h
  have hD1 : va_D (va_A [(m0, .inr (9, [.ref b1, .ref b2, .ref b3, .ref b4, .int 0, .ref b5, .int 0, .ref b6, .ref b7, .ref b8, .int 0, .int 0, .int 0, .ref b9, .ref b10, .ref b11, .ref b12, .ref b13, .ref b14, .ref b15, .ref b16, .ref b17, .ref b18, .int 0, .ref b19, .ref b20, .ref b21, .ref b22, .ref b23, .ref b24, .ref b25]))] H.size) [] := ⟨fun i j p q h => by simp at h, fun k q h => by simp at h⟩
  obtain ⟨hP, hD⟩ := va_join (wr := []) (w1 := []) hP hD [0] [] rfl rfl (by decide) (by decide) hk1 hFc hP1 hD1
  clear hPc hDc hP1 hD1 hk1 hz1 hFc ht hvm
  generalize H1 = H at hP hS ⊢
  have hP : va_P Z.1 vwCl [] H := hP
  have hD : va_D A [] := hD
  refine lv_icmp_eq (tgt := 1054) hx hb dL_law_705 (by decide) (fun _ => ?_) (fun c9 => absurd c9 (by decide))
  exact law_tail C0 hAe (Nat.le_of_ble_eq_true rfl) (Nat.le_of_ble_eq_true rfl) hS (lv_sub hl [0, 3] rfl)
set_option maxHeartbeats 4000000 in
set_option maxRecDepth 100000 in
theorem law_19 {p : Program} {l : Launch} {e : Env} {s : State} {m : MethodId} {below : List Frame} {meth : Method} {c : Code} {b : Nat} {xs : Nat → Int32} (C0 : lw_At p s m meth c b 6 xs) {A : Nat → Prop} (hAe : A = fun q : Nat => s.heap.size ≤ q) (Z : gZ) (kA vA : Nat) (hK : va_K Z.1 vwCl (gT Z) s) (hG : gS kA vA A s) (x0 : Nat) (a1 : Nat) (a2 : Nat) (a3 : Nat) (a4 : Nat) (a5 : Nat) (a6 : Nat) (a7 : Nat) (a8 : Nat) (a9 : Nat) (a10 : Nat) (a11 : Nat) (a12 : Nat) (a13 : Nat) (fk : Nat) (fq : Nat) (pk : Nat) (pq : Nat) (tk : Nat) (kk : Nat) (kq : Nat) (lk : Nat) (lq : Nat) (uk : Nat) (uq : Nat) (vk : Nat) (vq : Nat) (m0 : Nat) (b1 : Nat) (b2 : Nat) (b3 : Nat) (b4 : Nat) (b5 : Nat) (b6 : Nat) (b7 : Nat) (b8 : Nat) (b9 : Nat) (b10 : Nat) (b11 : Nat) (b12 : Nat) (b13 : Nat) (b14 : Nat) (b15 : Nat) (b16 : Nat) (b17 : Nat) (b18 : Nat) (b19 : Nat) (b20 : Nat) (b21 : Nat) (b22 : Nat) (b23 : Nat) (b24 : Nat) (b25 : Nat) (fl : Nat → Int32) (hfl : ∀ j, j < 4 → fl j = -1) {H : Heap} {locs : List Loc} {ls : Array Slot} (hP : va_P Z.1 vwCl (zFull Z x0 a1 a2 a3 a4 a5 a6 a7 a8 a9 a10 a11 a12 a13 fk fq pk pq tk kk kq lk lq uk uq vk vq m0 b1 b2 b3 b4 b5 b6 b7 b8 b9 b10 b11 b12 b13 b14 b15 b16 b17 b18 b19 b20 b21 b22 b23 b24 b25 fl) H) (hD : va_D A (zFull Z x0 a1 a2 a3 a4 a5 a6 a7 a8 a9 a10 a11 a12 a13 fk fq pk pq tk kk kq lk lq uk uq vk vq m0 b1 b2 b3 b4 b5 b6 b7 b8 b9 b10 b11 b12 b13 b14 b15 b16 b17 b18 b19 b20 b21 b22 b23 b24 b25 fl)) (hS : va_S A s.heap H locs) (hl : lv_has ls 4 [(0, .ref b), (1, .ref x0), (2, .ref m0), (3, .int 0)]) : W p l e room_1 s m #[Value.ref b] below meth c H locs 599000 7300000 (lw_Z below #[Value.ref b] s) (F0 m 710 ls []) := by
  obtain ⟨hx, hb, hr, hml, hown0, hts0, hX, hbl, hlocks, hgv⟩ := id C0
  have hown : s.vm.findClass RL = some m.cls := hown0
  have hts : ∀ w ∈ wsL_law, w.before #[Value.ref b] s = true := fun w h => hts0 w (wsL_law_in w h)
  have hA : ∀ q : Nat, s.heap.size ≤ q → A q := by rw [hAe]; exact fun _ h => h
  have hbA : ¬ A b := by rw [hAe]; exact Nat.not_le.mpr hbl
  have hP := hP.sub (ws' := [(x0, .inr (8, [.ref a1, .ref a2, .ref a3, .ref a4, .ref a5, .int 0, .ref a6, .ref a7, .ref a8, .ref a9, .ref a10, .ref a11, .ref a12, .ref a13, .int 9, .int 0, .int 0])), (a1, .inr (0, [.int 0, .int 16510910, .int 0, .ref fk, .ref fq])), (fk, .inl (Z.2 0, 5, .inl (fun _ => 0))), (fq, .inl (Z.2 0, 5, .inl (fun _ => 0))), (a2, .inr (2, [.int 0, .int 0, .ref pk, .ref pq])), (pk, .inl (Z.2 0, 8, .inl (fun _ => 0))), (pq, .inl (Z.2 0, 8, .inl (fun _ => 0))), (a4, .inr (0, [.int 0, .int 16510910, .int 0, .ref kk, .ref kq])), (kk, .inl (Z.2 0, 5, .inl (fun _ => 0))), (kq, .inl (Z.2 0, 5, .inl (fun _ => 0))), (a5, .inr (2, [.int 0, .int 0, .ref lk, .ref lq])), (lk, .inl (Z.2 0, 8, .inl (fun _ => 0))), (lq, .inl (Z.2 0, 8, .inl (fun _ => 0))), (m0, .inr (9, [.ref b1, .ref b2, .ref b3, .ref b4, .int 0, .ref b5, .int 0, .ref b6, .ref b7, .ref b8, .int 0, .int 0, .int 0, .ref b9, .ref b10, .ref b11, .ref b12, .ref b13, .ref b14, .ref b15, .ref b16, .ref b17, .ref b18, .int 0, .ref b19, .ref b20, .ref b21, .ref b22, .ref b23, .ref b24, .ref b25])), (b1, .inl (Z.2 0, 5, .inl (fun _ => 0))), (b2, .inl (Z.2 0, 5, .inl (fun _ => 0))), (b3, .inl (Z.2 0, 5, .inl (fun _ => 0))), (b4, .inl (Z.2 0, 5, .inl (fun _ => 0))), (b5, .inl (Z.2 0, 24, .inl (fun _ => 0))), (b19, .inl (Z.2 0, 46, .inl (fun _ => 0)))]) [0, 1, 2, 3, 4, 5, 6, 9, 10, 11, 12, 13, 14, 22, 23, 24, 25, 26, 27, 32] rfl
  have hD := hD.sub (ws' := [(x0, .inr (8, [.ref a1, .ref a2, .ref a3, .ref a4, .ref a5, .int 0, .ref a6, .ref a7, .ref a8, .ref a9, .ref a10, .ref a11, .ref a12, .ref a13, .int 9, .int 0, .int 0])), (a1, .inr (0, [.int 0, .int 16510910, .int 0, .ref fk, .ref fq])), (fk, .inl (Z.2 0, 5, .inl (fun _ => 0))), (fq, .inl (Z.2 0, 5, .inl (fun _ => 0))), (a2, .inr (2, [.int 0, .int 0, .ref pk, .ref pq])), (pk, .inl (Z.2 0, 8, .inl (fun _ => 0))), (pq, .inl (Z.2 0, 8, .inl (fun _ => 0))), (a4, .inr (0, [.int 0, .int 16510910, .int 0, .ref kk, .ref kq])), (kk, .inl (Z.2 0, 5, .inl (fun _ => 0))), (kq, .inl (Z.2 0, 5, .inl (fun _ => 0))), (a5, .inr (2, [.int 0, .int 0, .ref lk, .ref lq])), (lk, .inl (Z.2 0, 8, .inl (fun _ => 0))), (lq, .inl (Z.2 0, 8, .inl (fun _ => 0))), (m0, .inr (9, [.ref b1, .ref b2, .ref b3, .ref b4, .int 0, .ref b5, .int 0, .ref b6, .ref b7, .ref b8, .int 0, .int 0, .int 0, .ref b9, .ref b10, .ref b11, .ref b12, .ref b13, .ref b14, .ref b15, .ref b16, .ref b17, .ref b18, .int 0, .ref b19, .ref b20, .ref b21, .ref b22, .ref b23, .ref b24, .ref b25])), (b1, .inl (Z.2 0, 5, .inl (fun _ => 0))), (b2, .inl (Z.2 0, 5, .inl (fun _ => 0))), (b3, .inl (Z.2 0, 5, .inl (fun _ => 0))), (b4, .inl (Z.2 0, 5, .inl (fun _ => 0))), (b5, .inl (Z.2 0, 24, .inl (fun _ => 0))), (b19, .inl (Z.2 0, 46, .inl (fun _ => 0)))]) [0, 1, 2, 3, 4, 5, 6, 9, 10, 11, 12, 13, 14, 22, 23, 24, 25, 26, 27, 32] (by decide) rfl
  refine lv_aload_n hx hb dL_law_710 rfl (lv_at hl 1 rfl) ?_
  have hPc := hP.sub (ws' := [(x0, .inr (8, [.ref a1, .ref a2, .ref a3, .ref a4, .ref a5, .int 0, .ref a6, .ref a7, .ref a8, .ref a9, .ref a10, .ref a11, .ref a12, .ref a13, .int 9, .int 0, .int 0])), (a1, .inr (0, [.int 0, .int 16510910, .int 0, .ref fk, .ref fq])), (fk, .inl (Z.2 0, 5, .inl (fun _ => 0))), (fq, .inl (Z.2 0, 5, .inl (fun _ => 0))), (a2, .inr (2, [.int 0, .int 0, .ref pk, .ref pq])), (pk, .inl (Z.2 0, 8, .inl (fun _ => 0))), (pq, .inl (Z.2 0, 8, .inl (fun _ => 0))), (a4, .inr (0, [.int 0, .int 16510910, .int 0, .ref kk, .ref kq])), (kk, .inl (Z.2 0, 5, .inl (fun _ => 0))), (kq, .inl (Z.2 0, 5, .inl (fun _ => 0))), (a5, .inr (2, [.int 0, .int 0, .ref lk, .ref lq])), (lk, .inl (Z.2 0, 8, .inl (fun _ => 0))), (lq, .inl (Z.2 0, 8, .inl (fun _ => 0)))]) [0, 1, 2, 3, 4, 5, 6, 7, 8, 9, 10, 11, 12] rfl
  have hDc := hD.sub (ws' := [(x0, .inr (8, [.ref a1, .ref a2, .ref a3, .ref a4, .ref a5, .int 0, .ref a6, .ref a7, .ref a8, .ref a9, .ref a10, .ref a11, .ref a12, .ref a13, .int 9, .int 0, .int 0])), (a1, .inr (0, [.int 0, .int 16510910, .int 0, .ref fk, .ref fq])), (fk, .inl (Z.2 0, 5, .inl (fun _ => 0))), (fq, .inl (Z.2 0, 5, .inl (fun _ => 0))), (a2, .inr (2, [.int 0, .int 0, .ref pk, .ref pq])), (pk, .inl (Z.2 0, 8, .inl (fun _ => 0))), (pq, .inl (Z.2 0, 8, .inl (fun _ => 0))), (a4, .inr (0, [.int 0, .int 16510910, .int 0, .ref kk, .ref kq])), (kk, .inl (Z.2 0, 5, .inl (fun _ => 0))), (kq, .inl (Z.2 0, 5, .inl (fun _ => 0))), (a5, .inr (2, [.int 0, .int 0, .ref lk, .ref lq])), (lk, .inl (Z.2 0, 8, .inl (fun _ => 0))), (lq, .inl (Z.2 0, 8, .inl (fun _ => 0)))]) [0, 1, 2, 3, 4, 5, 6, 7, 8, 9, 10, 11, 12] (by decide) rfl
  have hFc := va_free (wc := [(x0, .inr (8, [.ref a1, .ref a2, .ref a3, .ref a4, .ref a5, .int 0, .ref a6, .ref a7, .ref a8, .ref a9, .ref a10, .ref a11, .ref a12, .ref a13, .int 9, .int 0, .int 0])), (a1, .inr (0, [.int 0, .int 16510910, .int 0, .ref fk, .ref fq])), (fk, .inl (Z.2 0, 5, .inl (fun _ => 0))), (fq, .inl (Z.2 0, 5, .inl (fun _ => 0))), (a2, .inr (2, [.int 0, .int 0, .ref pk, .ref pq])), (pk, .inl (Z.2 0, 8, .inl (fun _ => 0))), (pq, .inl (Z.2 0, 8, .inl (fun _ => 0))), (a4, .inr (0, [.int 0, .int 16510910, .int 0, .ref kk, .ref kq])), (kk, .inl (Z.2 0, 5, .inl (fun _ => 0))), (kq, .inl (Z.2 0, 5, .inl (fun _ => 0))), (a5, .inr (2, [.int 0, .int 0, .ref lk, .ref lq])), (lk, .inl (Z.2 0, 8, .inl (fun _ => 0))), (lq, .inl (Z.2 0, 8, .inl (fun _ => 0)))]) hD hS hA [0, 1, 2, 3, 4, 5, 6, 7, 8, 9, 10, 11, 12] rfl
  refine va_calli (va_runV (As := []) (rest := []) ⟨hx, hb, hml, hown, hts⟩ (c_X8_image l Z H.size x0 a1 a2 a3 a4 a5 a6 a7 a8 a9 a10 a11 a12 a13 fk fq pk pq kk kq lk lq) (cwV 0 hts gL_law_X8_image rfl rfl rfl (by decide +kernel) ⟨Nat.le_of_ble_eq_true rfl, Nat.le_of_ble_eq_true rfl⟩) ⟨fun a U g mk q => by obtain ⟨q0, q1, qP, qK, qD⟩ := q; exact ⟨q0, q1, qP, va_K.moved (u := U) (U := U.calling g mk a) (Vm.Alike.refl U.vm) qK, qD⟩, va_recv hK hPc (ci := 8) (q0 := 0) rfl rfl, fun U hU hW => ⟨rfl, by rw [hU], by rw [hU]; exact hPc, va_K.moved hW.alike hK, hDc.weaken (fun _ _ _ _ => trivial)⟩⟩ rfl rfl hl.1 rfl (lv_room (Nat.le_of_ble_eq_true rfl)) dL_law_711 ⟨Nat.le_of_ble_eq_true rfl, Nat.le_of_ble_eq_true rfl⟩) hS (fun q _ h => hFc q h) hFc (fun r_1 u t H1 locs ht hvm hw hB hz1 hk1 hS => ?_)
  subst hw
  have hP1 : va_P Z.1 vwCl [] H1 := fun k q h => by simp at h
  have hD1 : va_D (va_A [(x0, .inr (8, [.ref a1, .ref a2, .ref a3, .ref a4, .ref a5, .int 0, .ref a6, .ref a7, .ref a8, .ref a9, .ref a10, .ref a11, .ref a12, .ref a13, .int 9, .int 0, .int 0])), (a1, .inr (0, [.int 0, .int 16510910, .int 0, .ref fk, .ref fq])), (fk, .inl (Z.2 0, 5, .inl (fun _ => 0))), (fq, .inl (Z.2 0, 5, .inl (fun _ => 0))), (a2, .inr (2, [.int 0, .int 0, .ref pk, .ref pq])), (pk, .inl (Z.2 0, 8, .inl (fun _ => 0))), (pq, .inl (Z.2 0, 8, .inl (fun _ => 0))), (a4, .inr (0, [.int 0, .int 16510910, .int 0, .ref kk, .ref kq])), (kk, .inl (Z.2 0, 5, .inl (fun _ => 0))), (kq, .inl (Z.2 0, 5, .inl (fun _ => 0))), (a5, .inr (2, [.int 0, .int 0, .ref lk, .ref lq])), (lk, .inl (Z.2 0, 8, .inl (fun _ => 0))), (lq, .inl (Z.2 0, 8, .inl (fun _ => 0)))] H.size) [] := ⟨fun i j p q h => by simp at h, fun k q h => by simp at h⟩
  obtain ⟨hP, hD⟩ := va_join (wr := [(m0, .inr (9, [.ref b1, .ref b2, .ref b3, .ref b4, .int 0, .ref b5, .int 0, .ref b6, .ref b7, .ref b8, .int 0, .int 0, .int 0, .ref b9, .ref b10, .ref b11, .ref b12, .ref b13, .ref b14, .ref b15, .ref b16, .ref b17, .ref b18, .int 0, .ref b19, .ref b20, .ref b21, .ref b22, .ref b23, .ref b24, .ref b25])), (b1, .inl (Z.2 0, 5, .inl (fun _ => 0))), (b2, .inl (Z.2 0, 5, .inl (fun _ => 0))), (b3, .inl (Z.2 0, 5, .inl (fun _ => 0))), (b4, .inl (Z.2 0, 5, .inl (fun _ => 0))), (b5, .inl (Z.2 0, 24, .inl (fun _ => 0))), (b19, .inl (Z.2 0, 46, .inl (fun _ => 0)))]) (w1 := []) hP hD [0, 1, 2, 3, 4, 5, 6, 7, 8, 9, 10, 11, 12] [13, 14, 15, 16, 17, 18, 19] rfl rfl (by decide) (by decide) hk1 hFc hP1 hD1
  clear hPc hDc hP1 hD1 hk1 hz1 hFc ht hvm
  generalize H1 = H at hP hS ⊢
  have hP : va_P Z.1 vwCl [(m0, .inr (9, [.ref b1, .ref b2, .ref b3, .ref b4, .int 0, .ref b5, .int 0, .ref b6, .ref b7, .ref b8, .int 0, .int 0, .int 0, .ref b9, .ref b10, .ref b11, .ref b12, .ref b13, .ref b14, .ref b15, .ref b16, .ref b17, .ref b18, .int 0, .ref b19, .ref b20, .ref b21, .ref b22, .ref b23, .ref b24, .ref b25])), (b1, .inl (Z.2 0, 5, .inl (fun _ => 0))), (b2, .inl (Z.2 0, 5, .inl (fun _ => 0))), (b3, .inl (Z.2 0, 5, .inl (fun _ => 0))), (b4, .inl (Z.2 0, 5, .inl (fun _ => 0))), (b5, .inl (Z.2 0, 24, .inl (fun _ => 0))), (b19, .inl (Z.2 0, 46, .inl (fun _ => 0)))] H := hP
  have hD : va_D A [(m0, .inr (9, [.ref b1, .ref b2, .ref b3, .ref b4, .int 0, .ref b5, .int 0, .ref b6, .ref b7, .ref b8, .int 0, .int 0, .int 0, .ref b9, .ref b10, .ref b11, .ref b12, .ref b13, .ref b14, .ref b15, .ref b16, .ref b17, .ref b18, .int 0, .ref b19, .ref b20, .ref b21, .ref b22, .ref b23, .ref b24, .ref b25])), (b1, .inl (Z.2 0, 5, .inl (fun _ => 0))), (b2, .inl (Z.2 0, 5, .inl (fun _ => 0))), (b3, .inl (Z.2 0, 5, .inl (fun _ => 0))), (b4, .inl (Z.2 0, 5, .inl (fun _ => 0))), (b5, .inl (Z.2 0, 24, .inl (fun _ => 0))), (b19, .inl (Z.2 0, 46, .inl (fun _ => 0)))] := hD
  refine lv_aload_n hx hb dL_law_714 rfl (lv_at hl 2 rfl) ?_
  have hPc := hP.sub (ws' := [(m0, .inr (9, [.ref b1, .ref b2, .ref b3, .ref b4, .int 0, .ref b5, .int 0, .ref b6, .ref b7, .ref b8, .int 0, .int 0, .int 0, .ref b9, .ref b10, .ref b11, .ref b12, .ref b13, .ref b14, .ref b15, .ref b16, .ref b17, .ref b18, .int 0, .ref b19, .ref b20, .ref b21, .ref b22, .ref b23, .ref b24, .ref b25])), (b1, .inl (Z.2 0, 5, .inl (fun _ => 0))), (b2, .inl (Z.2 0, 5, .inl (fun _ => 0))), (b3, .inl (Z.2 0, 5, .inl (fun _ => 0))), (b4, .inl (Z.2 0, 5, .inl (fun _ => 0))), (b5, .inl (Z.2 0, 24, .inl (fun _ => 0))), (b19, .inl (Z.2 0, 46, .inl (fun _ => 0)))]) [0, 1, 2, 3, 4, 5, 6] rfl
  have hDc := hD.sub (ws' := [(m0, .inr (9, [.ref b1, .ref b2, .ref b3, .ref b4, .int 0, .ref b5, .int 0, .ref b6, .ref b7, .ref b8, .int 0, .int 0, .int 0, .ref b9, .ref b10, .ref b11, .ref b12, .ref b13, .ref b14, .ref b15, .ref b16, .ref b17, .ref b18, .int 0, .ref b19, .ref b20, .ref b21, .ref b22, .ref b23, .ref b24, .ref b25])), (b1, .inl (Z.2 0, 5, .inl (fun _ => 0))), (b2, .inl (Z.2 0, 5, .inl (fun _ => 0))), (b3, .inl (Z.2 0, 5, .inl (fun _ => 0))), (b4, .inl (Z.2 0, 5, .inl (fun _ => 0))), (b5, .inl (Z.2 0, 24, .inl (fun _ => 0))), (b19, .inl (Z.2 0, 46, .inl (fun _ => 0)))]) [0, 1, 2, 3, 4, 5, 6] (by decide) rfl
  have hFc := va_free (wc := [(m0, .inr (9, [.ref b1, .ref b2, .ref b3, .ref b4, .int 0, .ref b5, .int 0, .ref b6, .ref b7, .ref b8, .int 0, .int 0, .int 0, .ref b9, .ref b10, .ref b11, .ref b12, .ref b13, .ref b14, .ref b15, .ref b16, .ref b17, .ref b18, .int 0, .ref b19, .ref b20, .ref b21, .ref b22, .ref b23, .ref b24, .ref b25])), (b1, .inl (Z.2 0, 5, .inl (fun _ => 0))), (b2, .inl (Z.2 0, 5, .inl (fun _ => 0))), (b3, .inl (Z.2 0, 5, .inl (fun _ => 0))), (b4, .inl (Z.2 0, 5, .inl (fun _ => 0))), (b5, .inl (Z.2 0, 24, .inl (fun _ => 0))), (b19, .inl (Z.2 0, 46, .inl (fun _ => 0)))]) hD hS hA [0, 1, 2, 3, 4, 5, 6] rfl
  refine va_calli (va_runV (As := []) (rest := [.int 1]) ⟨hx, hb, hml, hown, hts⟩ (c_X9_image l Z H.size m0 b1 b2 b3 b4 b5 b6 b7 b8 b9 b10 b11 b12 b13 b14 b15 b16 b17 b18 b19 b20 b21 b22 b23 b24 b25 (fun _ => 0) (fun _ => 0) (fun _ => 0) (fun _ => 0) (fun _ => 0) (fun _ => 0)) (cwV 0 hts gL_law_X9_image rfl rfl rfl (by decide +kernel) ⟨Nat.le_of_ble_eq_true rfl, Nat.le_of_ble_eq_true rfl⟩) ⟨fun a U g mk q => by obtain ⟨q0, q1, qP, qK, qD⟩ := q; exact ⟨q0, q1, qP, va_K.moved (u := U) (U := U.calling g mk a) (Vm.Alike.refl U.vm) qK, qD⟩, va_recv hK hPc (ci := 9) (q0 := 0) rfl rfl, fun U hU hW => ⟨rfl, by rw [hU], by rw [hU]; exact hPc, va_K.moved hW.alike hK, hDc.weaken (fun _ _ _ _ => trivial)⟩⟩ rfl rfl hl.1 rfl (lv_room (Nat.le_of_ble_eq_true rfl)) dL_law_715 ⟨Nat.le_of_ble_eq_true rfl, Nat.le_of_ble_eq_true rfl⟩) hS (fun q _ h => hFc q h) hFc (fun r_2 u t H1 locs ht hvm hw hB hz1 hk1 hS => ?_)
  subst hw
  have hP1 : va_P Z.1 vwCl [] H1 := fun k q h => by simp at h
  have hD1 : va_D (va_A [(m0, .inr (9, [.ref b1, .ref b2, .ref b3, .ref b4, .int 0, .ref b5, .int 0, .ref b6, .ref b7, .ref b8, .int 0, .int 0, .int 0, .ref b9, .ref b10, .ref b11, .ref b12, .ref b13, .ref b14, .ref b15, .ref b16, .ref b17, .ref b18, .int 0, .ref b19, .ref b20, .ref b21, .ref b22, .ref b23, .ref b24, .ref b25])), (b1, .inl (Z.2 0, 5, .inl (fun _ => 0))), (b2, .inl (Z.2 0, 5, .inl (fun _ => 0))), (b3, .inl (Z.2 0, 5, .inl (fun _ => 0))), (b4, .inl (Z.2 0, 5, .inl (fun _ => 0))), (b5, .inl (Z.2 0, 24, .inl (fun _ => 0))), (b19, .inl (Z.2 0, 46, .inl (fun _ => 0)))] H.size) [] := ⟨fun i j p q h => by simp at h, fun k q h => by simp at h⟩
  obtain ⟨hP, hD⟩ := va_join (wr := []) (w1 := []) hP hD [0, 1, 2, 3, 4, 5, 6] [] rfl rfl (by decide) (by decide) hk1 hFc hP1 hD1
  clear hPc hDc hP1 hD1 hk1 hz1 hFc ht hvm
  generalize H1 = H at hP hS ⊢
  have hP : va_P Z.1 vwCl [] H := hP
  have hD : va_D A [] := hD
  refine lv_icmp_eq (tgt := 1054) hx hb dL_law_718 (by decide) (fun _ => ?_) (fun c9 => absurd c9 (by decide))
  exact law_tail C0 hAe (Nat.le_of_ble_eq_true rfl) (Nat.le_of_ble_eq_true rfl) hS (lv_sub hl [0, 3] rfl)
set_option maxHeartbeats 4000000 in
set_option maxRecDepth 100000 in
theorem law_20 {p : Program} {l : Launch} {e : Env} {s : State} {m : MethodId} {below : List Frame} {meth : Method} {c : Code} {b : Nat} {xs : Nat → Int32} (C0 : lw_At p s m meth c b 6 xs) {A : Nat → Prop} (hAe : A = fun q : Nat => s.heap.size ≤ q) (Z : gZ) (kA vA : Nat) (hK : va_K Z.1 vwCl (gT Z) s) (hG : gS kA vA A s) (x0 : Nat) (a1 : Nat) (a2 : Nat) (a3 : Nat) (a4 : Nat) (a5 : Nat) (a6 : Nat) (a7 : Nat) (a8 : Nat) (a9 : Nat) (a10 : Nat) (a11 : Nat) (a12 : Nat) (a13 : Nat) (fk : Nat) (fq : Nat) (pk : Nat) (pq : Nat) (tk : Nat) (kk : Nat) (kq : Nat) (lk : Nat) (lq : Nat) (uk : Nat) (uq : Nat) (vk : Nat) (vq : Nat) (m0 : Nat) (b1 : Nat) (b2 : Nat) (b3 : Nat) (b4 : Nat) (b5 : Nat) (b6 : Nat) (b7 : Nat) (b8 : Nat) (b9 : Nat) (b10 : Nat) (b11 : Nat) (b12 : Nat) (b13 : Nat) (b14 : Nat) (b15 : Nat) (b16 : Nat) (b17 : Nat) (b18 : Nat) (b19 : Nat) (b20 : Nat) (b21 : Nat) (b22 : Nat) (b23 : Nat) (b24 : Nat) (b25 : Nat) (fl : Nat → Int32) (hfl : ∀ j, j < 4 → fl j = -1) {H : Heap} {locs : List Loc} {ls : Array Slot} (hP : va_P Z.1 vwCl (zFull Z x0 a1 a2 a3 a4 a5 a6 a7 a8 a9 a10 a11 a12 a13 fk fq pk pq tk kk kq lk lq uk uq vk vq m0 b1 b2 b3 b4 b5 b6 b7 b8 b9 b10 b11 b12 b13 b14 b15 b16 b17 b18 b19 b20 b21 b22 b23 b24 b25 fl) H) (hD : va_D A (zFull Z x0 a1 a2 a3 a4 a5 a6 a7 a8 a9 a10 a11 a12 a13 fk fq pk pq tk kk kq lk lq uk uq vk vq m0 b1 b2 b3 b4 b5 b6 b7 b8 b9 b10 b11 b12 b13 b14 b15 b16 b17 b18 b19 b20 b21 b22 b23 b24 b25 fl)) (hS : va_S A s.heap H locs) (hl : lv_has ls 4 [(0, .ref b), (1, .ref x0), (2, .ref m0), (3, .int 0)]) : W p l e room_1 s m #[Value.ref b] below meth c H locs 599000 7300000 (lw_Z below #[Value.ref b] s) (F0 m 723 ls []) := by
  obtain ⟨hx, hb, hr, hml, hown0, hts0, hX, hbl, hlocks, hgv⟩ := id C0
  have hown : s.vm.findClass RL = some m.cls := hown0
  have hts : ∀ w ∈ wsL_law, w.before #[Value.ref b] s = true := fun w h => hts0 w (wsL_law_in w h)
  have hA : ∀ q : Nat, s.heap.size ≤ q → A q := by rw [hAe]; exact fun _ h => h
  have hbA : ¬ A b := by rw [hAe]; exact Nat.not_le.mpr hbl
  have hP := hP.sub (ws' := [(x0, .inr (8, [.ref a1, .ref a2, .ref a3, .ref a4, .ref a5, .int 0, .ref a6, .ref a7, .ref a8, .ref a9, .ref a10, .ref a11, .ref a12, .ref a13, .int 9, .int 0, .int 0])), (m0, .inr (9, [.ref b1, .ref b2, .ref b3, .ref b4, .int 0, .ref b5, .int 0, .ref b6, .ref b7, .ref b8, .int 0, .int 0, .int 0, .ref b9, .ref b10, .ref b11, .ref b12, .ref b13, .ref b14, .ref b15, .ref b16, .ref b17, .ref b18, .int 0, .ref b19, .ref b20, .ref b21, .ref b22, .ref b23, .ref b24, .ref b25]))]) [0, 22] rfl
  have hD := hD.sub (ws' := [(x0, .inr (8, [.ref a1, .ref a2, .ref a3, .ref a4, .ref a5, .int 0, .ref a6, .ref a7, .ref a8, .ref a9, .ref a10, .ref a11, .ref a12, .ref a13, .int 9, .int 0, .int 0])), (m0, .inr (9, [.ref b1, .ref b2, .ref b3, .ref b4, .int 0, .ref b5, .int 0, .ref b6, .ref b7, .ref b8, .int 0, .int 0, .int 0, .ref b9, .ref b10, .ref b11, .ref b12, .ref b13, .ref b14, .ref b15, .ref b16, .ref b17, .ref b18, .int 0, .ref b19, .ref b20, .ref b21, .ref b22, .ref b23, .ref b24, .ref b25]))]) [0, 22] (by decide) rfl
  refine lv_aload_n hx hb dL_law_723 rfl (lv_at hl 1 rfl) ?_
  have hPc := hP.sub (ws' := [(x0, .inr (8, [.ref a1, .ref a2, .ref a3, .ref a4, .ref a5, .int 0, .ref a6, .ref a7, .ref a8, .ref a9, .ref a10, .ref a11, .ref a12, .ref a13, .int 9, .int 0, .int 0]))]) [0] rfl
  have hDc := hD.sub (ws' := [(x0, .inr (8, [.ref a1, .ref a2, .ref a3, .ref a4, .ref a5, .int 0, .ref a6, .ref a7, .ref a8, .ref a9, .ref a10, .ref a11, .ref a12, .ref a13, .int 9, .int 0, .int 0]))]) [0] (by decide) rfl
  have hFc := va_free (wc := [(x0, .inr (8, [.ref a1, .ref a2, .ref a3, .ref a4, .ref a5, .int 0, .ref a6, .ref a7, .ref a8, .ref a9, .ref a10, .ref a11, .ref a12, .ref a13, .int 9, .int 0, .int 0]))]) hD hS hA [0] rfl
  refine va_calli (va_runV (As := []) (rest := []) ⟨hx, hb, hml, hown, hts⟩ (c_X8_restore l Z H.size x0 a1 a2 a3 a4 a5 a6 a7 a8 a9 a10 a11 a12 a13) (cwV 0 hts gL_law_X8_restore rfl rfl rfl (by decide +kernel) ⟨Nat.le_of_ble_eq_true rfl, Nat.le_of_ble_eq_true rfl⟩) ⟨fun a U g mk q => by obtain ⟨q0, q1, qP, qK, qD⟩ := q; exact ⟨q0, q1, qP, va_K.moved (u := U) (U := U.calling g mk a) (Vm.Alike.refl U.vm) qK, qD⟩, va_recv hK hPc (ci := 8) (q0 := 0) rfl rfl, fun U hU hW => ⟨rfl, by rw [hU], by rw [hU]; exact hPc, va_K.moved hW.alike hK, hDc.weaken (fun _ _ _ _ => trivial)⟩⟩ rfl rfl hl.1 rfl (lv_room (Nat.le_of_ble_eq_true rfl)) dL_law_724 ⟨Nat.le_of_ble_eq_true rfl, Nat.le_of_ble_eq_true rfl⟩) hS (fun q _ h => hFc q h) hFc (fun r_1 u t H1 locs ht hvm hw hB hz1 hk1 hS => ?_)
  subst hw
  have hP1 : va_P Z.1 vwCl [] H1 := fun k q h => by simp at h
  have hD1 : va_D (va_A [(x0, .inr (8, [.ref a1, .ref a2, .ref a3, .ref a4, .ref a5, .int 0, .ref a6, .ref a7, .ref a8, .ref a9, .ref a10, .ref a11, .ref a12, .ref a13, .int 9, .int 0, .int 0]))] H.size) [] := ⟨fun i j p q h => by simp at h, fun k q h => by simp at h⟩
  obtain ⟨hP, hD⟩ := va_join (wr := [(m0, .inr (9, [.ref b1, .ref b2, .ref b3, .ref b4, .int 0, .ref b5, .int 0, .ref b6, .ref b7, .ref b8, .int 0, .int 0, .int 0, .ref b9, .ref b10, .ref b11, .ref b12, .ref b13, .ref b14, .ref b15, .ref b16, .ref b17, .ref b18, .int 0, .ref b19, .ref b20, .ref b21, .ref b22, .ref b23, .ref b24, .ref b25]))]) (w1 := []) hP hD [0] [1] rfl rfl (by decide) (by decide) hk1 hFc hP1 hD1
  clear hPc hDc hP1 hD1 hk1 hz1 hFc ht hvm
  generalize H1 = H at hP hS ⊢
  have hP : va_P Z.1 vwCl [(m0, .inr (9, [.ref b1, .ref b2, .ref b3, .ref b4, .int 0, .ref b5, .int 0, .ref b6, .ref b7, .ref b8, .int 0, .int 0, .int 0, .ref b9, .ref b10, .ref b11, .ref b12, .ref b13, .ref b14, .ref b15, .ref b16, .ref b17, .ref b18, .int 0, .ref b19, .ref b20, .ref b21, .ref b22, .ref b23, .ref b24, .ref b25]))] H := hP
  have hD : va_D A [(m0, .inr (9, [.ref b1, .ref b2, .ref b3, .ref b4, .int 0, .ref b5, .int 0, .ref b6, .ref b7, .ref b8, .int 0, .int 0, .int 0, .ref b9, .ref b10, .ref b11, .ref b12, .ref b13, .ref b14, .ref b15, .ref b16, .ref b17, .ref b18, .int 0, .ref b19, .ref b20, .ref b21, .ref b22, .ref b23, .ref b24, .ref b25]))] := hD
  refine lv_aload_n hx hb dL_law_727 rfl (lv_at hl 2 rfl) ?_
  have hPc := hP.sub (ws' := [(m0, .inr (9, [.ref b1, .ref b2, .ref b3, .ref b4, .int 0, .ref b5, .int 0, .ref b6, .ref b7, .ref b8, .int 0, .int 0, .int 0, .ref b9, .ref b10, .ref b11, .ref b12, .ref b13, .ref b14, .ref b15, .ref b16, .ref b17, .ref b18, .int 0, .ref b19, .ref b20, .ref b21, .ref b22, .ref b23, .ref b24, .ref b25]))]) [0] rfl
  have hDc := hD.sub (ws' := [(m0, .inr (9, [.ref b1, .ref b2, .ref b3, .ref b4, .int 0, .ref b5, .int 0, .ref b6, .ref b7, .ref b8, .int 0, .int 0, .int 0, .ref b9, .ref b10, .ref b11, .ref b12, .ref b13, .ref b14, .ref b15, .ref b16, .ref b17, .ref b18, .int 0, .ref b19, .ref b20, .ref b21, .ref b22, .ref b23, .ref b24, .ref b25]))]) [0] (by decide) rfl
  have hFc := va_free (wc := [(m0, .inr (9, [.ref b1, .ref b2, .ref b3, .ref b4, .int 0, .ref b5, .int 0, .ref b6, .ref b7, .ref b8, .int 0, .int 0, .int 0, .ref b9, .ref b10, .ref b11, .ref b12, .ref b13, .ref b14, .ref b15, .ref b16, .ref b17, .ref b18, .int 0, .ref b19, .ref b20, .ref b21, .ref b22, .ref b23, .ref b24, .ref b25]))]) hD hS hA [0] rfl
  refine va_calli (va_runV (As := []) (rest := [.int (-4)]) ⟨hx, hb, hml, hown, hts⟩ (c_X9_restore l Z H.size m0 b1 b2 b3 b4 b5 b6 b7 b8 b9 b10 b11 b12 b13 b14 b15 b16 b17 b18 b19 b20 b21 b22 b23 b24 b25) (cwV 0 hts gL_law_X9_restore rfl rfl rfl (by decide +kernel) ⟨Nat.le_of_ble_eq_true rfl, Nat.le_of_ble_eq_true rfl⟩) ⟨fun a U g mk q => by obtain ⟨q0, q1, qP, qK, qD⟩ := q; exact ⟨q0, q1, qP, va_K.moved (u := U) (U := U.calling g mk a) (Vm.Alike.refl U.vm) qK, qD⟩, va_recv hK hPc (ci := 9) (q0 := 0) rfl rfl, fun U hU hW => ⟨rfl, by rw [hU], by rw [hU]; exact hPc, va_K.moved hW.alike hK, hDc.weaken (fun _ _ _ _ => trivial)⟩⟩ rfl rfl hl.1 rfl (lv_room (Nat.le_of_ble_eq_true rfl)) dL_law_728 ⟨Nat.le_of_ble_eq_true rfl, Nat.le_of_ble_eq_true rfl⟩) hS (fun q _ h => hFc q h) hFc (fun r_2 u t H1 locs ht hvm hw hB hz1 hk1 hS => ?_)
  subst hw
  have hP1 : va_P Z.1 vwCl [] H1 := fun k q h => by simp at h
  have hD1 : va_D (va_A [(m0, .inr (9, [.ref b1, .ref b2, .ref b3, .ref b4, .int 0, .ref b5, .int 0, .ref b6, .ref b7, .ref b8, .int 0, .int 0, .int 0, .ref b9, .ref b10, .ref b11, .ref b12, .ref b13, .ref b14, .ref b15, .ref b16, .ref b17, .ref b18, .int 0, .ref b19, .ref b20, .ref b21, .ref b22, .ref b23, .ref b24, .ref b25]))] H.size) [] := ⟨fun i j p q h => by simp at h, fun k q h => by simp at h⟩
  obtain ⟨hP, hD⟩ := va_join (wr := []) (w1 := []) hP hD [0] [] rfl rfl (by decide) (by decide) hk1 hFc hP1 hD1
  clear hPc hDc hP1 hD1 hk1 hz1 hFc ht hvm
  generalize H1 = H at hP hS ⊢
  have hP : va_P Z.1 vwCl [] H := hP
  have hD : va_D A [] := hD
  refine lv_icmp_eq (tgt := 1054) hx hb dL_law_731 (by decide) (fun _ => ?_) (fun c9 => absurd c9 (by decide))
  exact law_tail C0 hAe (Nat.le_of_ble_eq_true rfl) (Nat.le_of_ble_eq_true rfl) hS (lv_sub hl [0, 3] rfl)
set_option maxHeartbeats 4000000 in
set_option maxRecDepth 100000 in
theorem law_21 {p : Program} {l : Launch} {e : Env} {s : State} {m : MethodId} {below : List Frame} {meth : Method} {c : Code} {b : Nat} {xs : Nat → Int32} (C0 : lw_At p s m meth c b 6 xs) {A : Nat → Prop} (hAe : A = fun q : Nat => s.heap.size ≤ q) (Z : gZ) (kA vA : Nat) (hK : va_K Z.1 vwCl (gT Z) s) (hG : gS kA vA A s) (x0 : Nat) (a1 : Nat) (a2 : Nat) (a3 : Nat) (a4 : Nat) (a5 : Nat) (a6 : Nat) (a7 : Nat) (a8 : Nat) (a9 : Nat) (a10 : Nat) (a11 : Nat) (a12 : Nat) (a13 : Nat) (fk : Nat) (fq : Nat) (pk : Nat) (pq : Nat) (tk : Nat) (kk : Nat) (kq : Nat) (lk : Nat) (lq : Nat) (uk : Nat) (uq : Nat) (vk : Nat) (vq : Nat) (m0 : Nat) (b1 : Nat) (b2 : Nat) (b3 : Nat) (b4 : Nat) (b5 : Nat) (b6 : Nat) (b7 : Nat) (b8 : Nat) (b9 : Nat) (b10 : Nat) (b11 : Nat) (b12 : Nat) (b13 : Nat) (b14 : Nat) (b15 : Nat) (b16 : Nat) (b17 : Nat) (b18 : Nat) (b19 : Nat) (b20 : Nat) (b21 : Nat) (b22 : Nat) (b23 : Nat) (b24 : Nat) (b25 : Nat) (fl : Nat → Int32) (hfl : ∀ j, j < 4 → fl j = -1) {H : Heap} {locs : List Loc} {ls : Array Slot} (hP : va_P Z.1 vwCl (zFull Z x0 a1 a2 a3 a4 a5 a6 a7 a8 a9 a10 a11 a12 a13 fk fq pk pq tk kk kq lk lq uk uq vk vq m0 b1 b2 b3 b4 b5 b6 b7 b8 b9 b10 b11 b12 b13 b14 b15 b16 b17 b18 b19 b20 b21 b22 b23 b24 b25 fl) H) (hD : va_D A (zFull Z x0 a1 a2 a3 a4 a5 a6 a7 a8 a9 a10 a11 a12 a13 fk fq pk pq tk kk kq lk lq uk uq vk vq m0 b1 b2 b3 b4 b5 b6 b7 b8 b9 b10 b11 b12 b13 b14 b15 b16 b17 b18 b19 b20 b21 b22 b23 b24 b25 fl)) (hS : va_S A s.heap H locs) (hl : lv_has ls 4 [(0, .ref b), (1, .ref x0), (2, .ref m0), (3, .int 0)]) : W p l e room_1 s m #[Value.ref b] below meth c H locs 599000 7300000 (lw_Z below #[Value.ref b] s) (F0 m 736 ls []) := by
  obtain ⟨hx, hb, hr, hml, hown0, hts0, hX, hbl, hlocks, hgv⟩ := id C0
  have hown : s.vm.findClass RL = some m.cls := hown0
  have hts : ∀ w ∈ wsL_law, w.before #[Value.ref b] s = true := fun w h => hts0 w (wsL_law_in w h)
  have hA : ∀ q : Nat, s.heap.size ≤ q → A q := by rw [hAe]; exact fun _ h => h
  have hbA : ¬ A b := by rw [hAe]; exact Nat.not_le.mpr hbl
  have hP := hP.sub (ws' := [(x0, .inr (8, [.ref a1, .ref a2, .ref a3, .ref a4, .ref a5, .int 0, .ref a6, .ref a7, .ref a8, .ref a9, .ref a10, .ref a11, .ref a12, .ref a13, .int 9, .int 0, .int 0])), (a6, .inl (Z.2 4, 4, .inr (.inr (.inr (.inr (fun _ => none)))))), (m0, .inr (9, [.ref b1, .ref b2, .ref b3, .ref b4, .int 0, .ref b5, .int 0, .ref b6, .ref b7, .ref b8, .int 0, .int 0, .int 0, .ref b9, .ref b10, .ref b11, .ref b12, .ref b13, .ref b14, .ref b15, .ref b16, .ref b17, .ref b18, .int 0, .ref b19, .ref b20, .ref b21, .ref b22, .ref b23, .ref b24, .ref b25])), (b20, .inl (Z.2 0, 4, .inl fl))]) [0, 15, 22, 33] rfl
  have hD := hD.sub (ws' := [(x0, .inr (8, [.ref a1, .ref a2, .ref a3, .ref a4, .ref a5, .int 0, .ref a6, .ref a7, .ref a8, .ref a9, .ref a10, .ref a11, .ref a12, .ref a13, .int 9, .int 0, .int 0])), (a6, .inl (Z.2 4, 4, .inr (.inr (.inr (.inr (fun _ => none)))))), (m0, .inr (9, [.ref b1, .ref b2, .ref b3, .ref b4, .int 0, .ref b5, .int 0, .ref b6, .ref b7, .ref b8, .int 0, .int 0, .int 0, .ref b9, .ref b10, .ref b11, .ref b12, .ref b13, .ref b14, .ref b15, .ref b16, .ref b17, .ref b18, .int 0, .ref b19, .ref b20, .ref b21, .ref b22, .ref b23, .ref b24, .ref b25])), (b20, .inl (Z.2 0, 4, .inl fl))]) [0, 15, 22, 33] (by decide) rfl
  refine lv_aload_n hx hb dL_law_736 rfl (lv_at hl 1 rfl) ?_
  refine lv_aload_n hx hb dL_law_737 rfl (lv_at hl 0 rfl) ?_
  refine lv_iload_n hx hb dL_law_738 rfl (lv_at hl 3 rfl) ?_
  refine lv_iconst (v := 1) hx hb dL_law_739 (by decide) ?_
  refine lv_iadd hx hb dL_law_740 ?_
  refine lv_topi (fun f_1 ef_1 => ?_)
  obtain rfl : f_1 = 1 := ef_1.trans (by decide)
  refine va_sld hx hb hX hbl hbA hS (z_in (by decide)) dL_law_741 ?_
  refine lv_topi (fun f_2 ef_2 => ?_)
  obtain rfl : f_2 = xs 1 := ef_2
  refine lv_aload_n hx hb dL_law_742 rfl (lv_at hl 0 rfl) ?_
  refine lv_iload_n hx hb dL_law_743 rfl (lv_at hl 3 rfl) ?_
  refine lv_iconst (v := 2) hx hb dL_law_744 (by decide) ?_
  refine lv_iadd hx hb dL_law_745 ?_
  refine lv_topi (fun f_3 ef_3 => ?_)
  obtain rfl : f_3 = 2 := ef_3.trans (by decide)
  refine va_sld hx hb hX hbl hbA hS (z_in (by decide)) dL_law_746 ?_
  refine lv_topi (fun f_4 ef_4 => ?_)
  obtain rfl : f_4 = xs 2 := ef_4
  refine lv_aload_n hx hb dL_law_747 rfl (lv_at hl 0 rfl) ?_
  refine lv_iload_n hx hb dL_law_748 rfl (lv_at hl 3 rfl) ?_
  refine lv_iconst (v := 3) hx hb dL_law_749 (by decide) ?_
  refine lv_iadd hx hb dL_law_750 ?_
  refine lv_topi (fun f_5 ef_5 => ?_)
  obtain rfl : f_5 = 3 := ef_5.trans (by decide)
  refine va_sld hx hb hX hbl hbA hS (z_in (by decide)) dL_law_751 ?_
  refine lv_topi (fun f_6 ef_6 => ?_)
  obtain rfl : f_6 = xs 3 := ef_6
  refine lv_aload_n hx hb dL_law_752 rfl (lv_at hl 0 rfl) ?_
  refine lv_iload_n hx hb dL_law_753 rfl (lv_at hl 3 rfl) ?_
  refine lv_iconst (v := 4) hx hb dL_law_754 (by decide) ?_
  refine lv_iadd hx hb dL_law_755 ?_
  refine lv_topi (fun f_7 ef_7 => ?_)
  obtain rfl : f_7 = 4 := ef_7.trans (by decide)
  refine va_sld hx hb hX hbl hbA hS (z_in (by decide)) dL_law_756 ?_
  refine lv_topi (fun f_8 ef_8 => ?_)
  obtain rfl : f_8 = xs 4 := ef_8
  refine lv_aload_n hx hb dL_law_757 rfl (lv_at hl 0 rfl) ?_
  refine lv_iload_n hx hb dL_law_758 rfl (lv_at hl 3 rfl) ?_
  refine lv_iconst (v := 5) hx hb dL_law_759 (by decide) ?_
  refine lv_iadd hx hb dL_law_760 ?_
  refine lv_topi (fun f_9 ef_9 => ?_)
  obtain rfl : f_9 = 5 := ef_9.trans (by decide)
  refine va_sld hx hb hX hbl hbA hS (z_in (by decide)) dL_law_761 ?_
  refine lv_topi (fun f_10 ef_10 => ?_)
  obtain rfl : f_10 = xs 5 := ef_10
  have hPc := hP.sub (ws' := [(x0, .inr (8, [.ref a1, .ref a2, .ref a3, .ref a4, .ref a5, .int 0, .ref a6, .ref a7, .ref a8, .ref a9, .ref a10, .ref a11, .ref a12, .ref a13, .int 9, .int 0, .int 0])), (a6, .inl (Z.2 4, 4, .inr (.inr (.inr (.inr (fun _ => none))))))]) [0, 1] rfl
  have hDc := hD.sub (ws' := [(x0, .inr (8, [.ref a1, .ref a2, .ref a3, .ref a4, .ref a5, .int 0, .ref a6, .ref a7, .ref a8, .ref a9, .ref a10, .ref a11, .ref a12, .ref a13, .int 9, .int 0, .int 0])), (a6, .inl (Z.2 4, 4, .inr (.inr (.inr (.inr (fun _ => none))))))]) [0, 1] (by decide) rfl
  have hFc := va_free (wc := [(x0, .inr (8, [.ref a1, .ref a2, .ref a3, .ref a4, .ref a5, .int 0, .ref a6, .ref a7, .ref a8, .ref a9, .ref a10, .ref a11, .ref a12, .ref a13, .int 9, .int 0, .int 0])), (a6, .inl (Z.2 4, 4, .inr (.inr (.inr (.inr (fun _ => none))))))]) hD hS hA [0, 1] rfl
  refine va_calli (va_runV (As := [.int (xs 1), .int (xs 2), .int (xs 3), .int (xs 4), .int (xs 5)]) (rest := []) ⟨hx, hb, hml, hown, hts⟩ (c_X8_who l Z H.size x0 a1 a2 a3 a4 a5 a6 a7 a8 a9 a10 a11 a12 a13 (xs 1) (xs 2) (xs 3) (xs 4) (xs 5)) (cwV 5 hts gL_law_X8_who rfl rfl rfl (by decide +kernel) ⟨Nat.le_of_ble_eq_true rfl, Nat.le_of_ble_eq_true rfl⟩) ⟨fun a U g mk q => by obtain ⟨q0, q1, qP, qK, qD⟩ := q; exact ⟨q0, q1, qP, va_K.moved (u := U) (U := U.calling g mk a) (Vm.Alike.refl U.vm) qK, qD⟩, va_recv hK hPc (ci := 8) (q0 := 0) rfl rfl, fun U hU hW => ⟨rfl, by rw [hU], by rw [hU]; exact hPc, va_K.moved hW.alike hK, hDc.weaken (fun _ _ _ _ => trivial)⟩⟩ rfl rfl hl.1 rfl (lv_room (Nat.le_of_ble_eq_true rfl)) dL_law_762 ⟨Nat.le_of_ble_eq_true rfl, Nat.le_of_ble_eq_true rfl⟩) hS (fun q _ h => hFc q h) hFc (fun r_11 u t H1 locs ht hvm hw hB hz1 hk1 hS => ?_)
  subst hw
  have hP1 : va_P Z.1 vwCl [] H1 := fun k q h => by simp at h
  have hD1 : va_D (va_A [(x0, .inr (8, [.ref a1, .ref a2, .ref a3, .ref a4, .ref a5, .int 0, .ref a6, .ref a7, .ref a8, .ref a9, .ref a10, .ref a11, .ref a12, .ref a13, .int 9, .int 0, .int 0])), (a6, .inl (Z.2 4, 4, .inr (.inr (.inr (.inr (fun _ => none))))))] H.size) [] := ⟨fun i j p q h => by simp at h, fun k q h => by simp at h⟩
  obtain ⟨hP, hD⟩ := va_join (wr := [(m0, .inr (9, [.ref b1, .ref b2, .ref b3, .ref b4, .int 0, .ref b5, .int 0, .ref b6, .ref b7, .ref b8, .int 0, .int 0, .int 0, .ref b9, .ref b10, .ref b11, .ref b12, .ref b13, .ref b14, .ref b15, .ref b16, .ref b17, .ref b18, .int 0, .ref b19, .ref b20, .ref b21, .ref b22, .ref b23, .ref b24, .ref b25])), (b20, .inl (Z.2 0, 4, .inl fl))]) (w1 := []) hP hD [0, 1] [2, 3] rfl rfl (by decide) (by decide) hk1 hFc hP1 hD1
  clear hPc hDc hP1 hD1 hk1 hz1 hFc ht hvm
  generalize H1 = H at hP hS ⊢
  have hP : va_P Z.1 vwCl [(m0, .inr (9, [.ref b1, .ref b2, .ref b3, .ref b4, .int 0, .ref b5, .int 0, .ref b6, .ref b7, .ref b8, .int 0, .int 0, .int 0, .ref b9, .ref b10, .ref b11, .ref b12, .ref b13, .ref b14, .ref b15, .ref b16, .ref b17, .ref b18, .int 0, .ref b19, .ref b20, .ref b21, .ref b22, .ref b23, .ref b24, .ref b25])), (b20, .inl (Z.2 0, 4, .inl fl))] H := hP
  have hD : va_D A [(m0, .inr (9, [.ref b1, .ref b2, .ref b3, .ref b4, .int 0, .ref b5, .int 0, .ref b6, .ref b7, .ref b8, .int 0, .int 0, .int 0, .ref b9, .ref b10, .ref b11, .ref b12, .ref b13, .ref b14, .ref b15, .ref b16, .ref b17, .ref b18, .int 0, .ref b19, .ref b20, .ref b21, .ref b22, .ref b23, .ref b24, .ref b25])), (b20, .inl (Z.2 0, 4, .inl fl))] := hD
  refine lv_aload_n hx hb dL_law_765 rfl (lv_at hl 2 rfl) ?_
  refine lv_aload_n hx hb dL_law_766 rfl (lv_at hl 0 rfl) ?_
  refine lv_iload_n hx hb dL_law_767 rfl (lv_at hl 3 rfl) ?_
  refine lv_iconst (v := 1) hx hb dL_law_768 (by decide) ?_
  refine lv_iadd hx hb dL_law_769 ?_
  refine lv_topi (fun f_12 ef_12 => ?_)
  obtain rfl : f_12 = 1 := ef_12.trans (by decide)
  refine va_sld hx hb hX hbl hbA hS (z_in (by decide)) dL_law_770 ?_
  refine lv_topi (fun f_13 ef_13 => ?_)
  obtain rfl : f_13 = xs 1 := ef_13
  refine lv_aload_n hx hb dL_law_771 rfl (lv_at hl 0 rfl) ?_
  refine lv_iload_n hx hb dL_law_772 rfl (lv_at hl 3 rfl) ?_
  refine lv_iconst (v := 2) hx hb dL_law_773 (by decide) ?_
  refine lv_iadd hx hb dL_law_774 ?_
  refine lv_topi (fun f_14 ef_14 => ?_)
  obtain rfl : f_14 = 2 := ef_14.trans (by decide)
  refine va_sld hx hb hX hbl hbA hS (z_in (by decide)) dL_law_775 ?_
  refine lv_topi (fun f_15 ef_15 => ?_)
  obtain rfl : f_15 = xs 2 := ef_15
  refine lv_aload_n hx hb dL_law_776 rfl (lv_at hl 0 rfl) ?_
  refine lv_iload_n hx hb dL_law_777 rfl (lv_at hl 3 rfl) ?_
  refine lv_iconst (v := 3) hx hb dL_law_778 (by decide) ?_
  refine lv_iadd hx hb dL_law_779 ?_
  refine lv_topi (fun f_16 ef_16 => ?_)
  obtain rfl : f_16 = 3 := ef_16.trans (by decide)
  refine va_sld hx hb hX hbl hbA hS (z_in (by decide)) dL_law_780 ?_
  refine lv_topi (fun f_17 ef_17 => ?_)
  obtain rfl : f_17 = xs 3 := ef_17
  refine lv_aload_n hx hb dL_law_781 rfl (lv_at hl 0 rfl) ?_
  refine lv_iload_n hx hb dL_law_782 rfl (lv_at hl 3 rfl) ?_
  refine lv_iconst (v := 4) hx hb dL_law_783 (by decide) ?_
  refine lv_iadd hx hb dL_law_784 ?_
  refine lv_topi (fun f_18 ef_18 => ?_)
  obtain rfl : f_18 = 4 := ef_18.trans (by decide)
  refine va_sld hx hb hX hbl hbA hS (z_in (by decide)) dL_law_785 ?_
  refine lv_topi (fun f_19 ef_19 => ?_)
  obtain rfl : f_19 = xs 4 := ef_19
  refine lv_aload_n hx hb dL_law_786 rfl (lv_at hl 0 rfl) ?_
  refine lv_iload_n hx hb dL_law_787 rfl (lv_at hl 3 rfl) ?_
  refine lv_iconst (v := 5) hx hb dL_law_788 (by decide) ?_
  refine lv_iadd hx hb dL_law_789 ?_
  refine lv_topi (fun f_20 ef_20 => ?_)
  obtain rfl : f_20 = 5 := ef_20.trans (by decide)
  refine va_sld hx hb hX hbl hbA hS (z_in (by decide)) dL_law_790 ?_
  refine lv_topi (fun f_21 ef_21 => ?_)
  obtain rfl : f_21 = xs 5 := ef_21
  have hPc := hP.sub (ws' := [(m0, .inr (9, [.ref b1, .ref b2, .ref b3, .ref b4, .int 0, .ref b5, .int 0, .ref b6, .ref b7, .ref b8, .int 0, .int 0, .int 0, .ref b9, .ref b10, .ref b11, .ref b12, .ref b13, .ref b14, .ref b15, .ref b16, .ref b17, .ref b18, .int 0, .ref b19, .ref b20, .ref b21, .ref b22, .ref b23, .ref b24, .ref b25])), (b20, .inl (Z.2 0, 4, .inl fl))]) [0, 1] rfl
  have hDc := hD.sub (ws' := [(m0, .inr (9, [.ref b1, .ref b2, .ref b3, .ref b4, .int 0, .ref b5, .int 0, .ref b6, .ref b7, .ref b8, .int 0, .int 0, .int 0, .ref b9, .ref b10, .ref b11, .ref b12, .ref b13, .ref b14, .ref b15, .ref b16, .ref b17, .ref b18, .int 0, .ref b19, .ref b20, .ref b21, .ref b22, .ref b23, .ref b24, .ref b25])), (b20, .inl (Z.2 0, 4, .inl fl))]) [0, 1] (by decide) rfl
  have hFc := va_free (wc := [(m0, .inr (9, [.ref b1, .ref b2, .ref b3, .ref b4, .int 0, .ref b5, .int 0, .ref b6, .ref b7, .ref b8, .int 0, .int 0, .int 0, .ref b9, .ref b10, .ref b11, .ref b12, .ref b13, .ref b14, .ref b15, .ref b16, .ref b17, .ref b18, .int 0, .ref b19, .ref b20, .ref b21, .ref b22, .ref b23, .ref b24, .ref b25])), (b20, .inl (Z.2 0, 4, .inl fl))]) hD hS hA [0, 1] rfl
  refine va_calli (va_runV (As := [.int (xs 1), .int (xs 2), .int (xs 3), .int (xs 4), .int (xs 5)]) (rest := [.int (if (if (xs 1) < 0 then (0 : Int32) else (if 4 ≤ (xs 1) then (0 : Int32) else (1 : Int32))) = 0 then (-1 : Int32) else (if (if (xs 2) < 0 then (0 : Int32) else (if 3 ≤ (xs 2) then (0 : Int32) else (1 : Int32))) = 0 then (-1 : Int32) else (if (xs 4) < 1 then (-1 : Int32) else (if 3 < (xs 4) then (-1 : Int32) else (if (xs 5) < (-1) then (-1 : Int32) else (if (xs 5) < (xs 4) then (-11 : Int32) else (-1 : Int32)))))))]) ⟨hx, hb, hml, hown, hts⟩ (c_X9_who l Z H.size m0 b1 b2 b3 b4 b5 b6 b7 b8 b9 b10 b11 b12 b13 b14 b15 b16 b17 b18 b19 b20 b21 b22 b23 b24 b25 fl (xs 1) (xs 2) (xs 3) (xs 4) (xs 5) (hfl)) (cwV 5 hts gL_law_X9_who rfl rfl rfl (by decide +kernel) ⟨Nat.le_of_ble_eq_true rfl, Nat.le_of_ble_eq_true rfl⟩) ⟨fun a U g mk q => by obtain ⟨q0, q1, qP, qK, qD⟩ := q; exact ⟨q0, q1, qP, va_K.moved (u := U) (U := U.calling g mk a) (Vm.Alike.refl U.vm) qK, qD⟩, va_recv hK hPc (ci := 9) (q0 := 0) rfl rfl, fun U hU hW => ⟨rfl, by rw [hU], by rw [hU]; exact hPc, va_K.moved hW.alike hK, hDc.weaken (fun _ _ _ _ => trivial)⟩⟩ rfl rfl hl.1 rfl (lv_room (Nat.le_of_ble_eq_true rfl)) dL_law_791 ⟨Nat.le_of_ble_eq_true rfl, Nat.le_of_ble_eq_true rfl⟩) hS (fun q _ h => hFc q h) hFc (fun r_22 u t H1 locs ht hvm hw hB hz1 hk1 hS => ?_)
  subst hw
  have hP1 : va_P Z.1 vwCl [] H1 := fun k q h => by simp at h
  have hD1 : va_D (va_A [(m0, .inr (9, [.ref b1, .ref b2, .ref b3, .ref b4, .int 0, .ref b5, .int 0, .ref b6, .ref b7, .ref b8, .int 0, .int 0, .int 0, .ref b9, .ref b10, .ref b11, .ref b12, .ref b13, .ref b14, .ref b15, .ref b16, .ref b17, .ref b18, .int 0, .ref b19, .ref b20, .ref b21, .ref b22, .ref b23, .ref b24, .ref b25])), (b20, .inl (Z.2 0, 4, .inl fl))] H.size) [] := ⟨fun i j p q h => by simp at h, fun k q h => by simp at h⟩
  obtain ⟨hP, hD⟩ := va_join (wr := []) (w1 := []) hP hD [0, 1] [] rfl rfl (by decide) (by decide) hk1 hFc hP1 hD1
  clear hPc hDc hP1 hD1 hk1 hz1 hFc ht hvm
  generalize H1 = H at hP hS ⊢
  have hP : va_P Z.1 vwCl [] H := hP
  have hD : va_D A [] := hD
  refine lv_icmp_eq (tgt := 1054) hx hb dL_law_794 (by decide) (fun _ => ?_) (fun c9 => absurd (eq_who (xs 1) (xs 2) (xs 4) (xs 5)) c9)
  exact law_tail C0 hAe (Nat.le_of_ble_eq_true rfl) (Nat.le_of_ble_eq_true rfl) hS (lv_sub hl [0, 3] rfl)
set_option maxHeartbeats 4000000 in
set_option maxRecDepth 100000 in
theorem law_22 {p : Program} {l : Launch} {e : Env} {s : State} {m : MethodId} {below : List Frame} {meth : Method} {c : Code} {b : Nat} {xs : Nat → Int32} (C0 : lw_At p s m meth c b 6 xs) {A : Nat → Prop} (hAe : A = fun q : Nat => s.heap.size ≤ q) (Z : gZ) (kA vA : Nat) (hK : va_K Z.1 vwCl (gT Z) s) (hG : gS kA vA A s) (x0 : Nat) (a1 : Nat) (a2 : Nat) (a3 : Nat) (a4 : Nat) (a5 : Nat) (a6 : Nat) (a7 : Nat) (a8 : Nat) (a9 : Nat) (a10 : Nat) (a11 : Nat) (a12 : Nat) (a13 : Nat) (fk : Nat) (fq : Nat) (pk : Nat) (pq : Nat) (tk : Nat) (kk : Nat) (kq : Nat) (lk : Nat) (lq : Nat) (uk : Nat) (uq : Nat) (vk : Nat) (vq : Nat) (m0 : Nat) (b1 : Nat) (b2 : Nat) (b3 : Nat) (b4 : Nat) (b5 : Nat) (b6 : Nat) (b7 : Nat) (b8 : Nat) (b9 : Nat) (b10 : Nat) (b11 : Nat) (b12 : Nat) (b13 : Nat) (b14 : Nat) (b15 : Nat) (b16 : Nat) (b17 : Nat) (b18 : Nat) (b19 : Nat) (b20 : Nat) (b21 : Nat) (b22 : Nat) (b23 : Nat) (b24 : Nat) (b25 : Nat) (fl : Nat → Int32) (hfl : ∀ j, j < 4 → fl j = -1) {H : Heap} {locs : List Loc} {ls : Array Slot} (hP : va_P Z.1 vwCl (zFull Z x0 a1 a2 a3 a4 a5 a6 a7 a8 a9 a10 a11 a12 a13 fk fq pk pq tk kk kq lk lq uk uq vk vq m0 b1 b2 b3 b4 b5 b6 b7 b8 b9 b10 b11 b12 b13 b14 b15 b16 b17 b18 b19 b20 b21 b22 b23 b24 b25 fl) H) (hD : va_D A (zFull Z x0 a1 a2 a3 a4 a5 a6 a7 a8 a9 a10 a11 a12 a13 fk fq pk pq tk kk kq lk lq uk uq vk vq m0 b1 b2 b3 b4 b5 b6 b7 b8 b9 b10 b11 b12 b13 b14 b15 b16 b17 b18 b19 b20 b21 b22 b23 b24 b25 fl)) (hS : va_S A s.heap H locs) (hl : lv_has ls 4 [(0, .ref b), (1, .ref x0), (2, .ref m0), (3, .int 0)]) : W p l e room_1 s m #[Value.ref b] below meth c H locs 599000 7300000 (lw_Z below #[Value.ref b] s) (F0 m 799 ls []) := by
  obtain ⟨hx, hb, hr, hml, hown0, hts0, hX, hbl, hlocks, hgv⟩ := id C0
  have hown : s.vm.findClass RL = some m.cls := hown0
  have hts : ∀ w ∈ wsL_law, w.before #[Value.ref b] s = true := fun w h => hts0 w (wsL_law_in w h)
  have hA : ∀ q : Nat, s.heap.size ≤ q → A q := by rw [hAe]; exact fun _ h => h
  have hbA : ¬ A b := by rw [hAe]; exact Nat.not_le.mpr hbl
  have hP := hP.sub (ws' := [(x0, .inr (8, [.ref a1, .ref a2, .ref a3, .ref a4, .ref a5, .int 0, .ref a6, .ref a7, .ref a8, .ref a9, .ref a10, .ref a11, .ref a12, .ref a13, .int 9, .int 0, .int 0])), (a6, .inl (Z.2 4, 4, .inr (.inr (.inr (.inr (fun _ => none)))))), (m0, .inr (9, [.ref b1, .ref b2, .ref b3, .ref b4, .int 0, .ref b5, .int 0, .ref b6, .ref b7, .ref b8, .int 0, .int 0, .int 0, .ref b9, .ref b10, .ref b11, .ref b12, .ref b13, .ref b14, .ref b15, .ref b16, .ref b17, .ref b18, .int 0, .ref b19, .ref b20, .ref b21, .ref b22, .ref b23, .ref b24, .ref b25])), (b20, .inl (Z.2 0, 4, .inl fl)), (b21, .inl (Z.2 0, 4, .inl (fun _ => 0))), (b22, .inl (Z.2 2, 96, .inr (.inl (fun _ => 0))))]) [0, 15, 22, 33, 34, 35] rfl
  have hD := hD.sub (ws' := [(x0, .inr (8, [.ref a1, .ref a2, .ref a3, .ref a4, .ref a5, .int 0, .ref a6, .ref a7, .ref a8, .ref a9, .ref a10, .ref a11, .ref a12, .ref a13, .int 9, .int 0, .int 0])), (a6, .inl (Z.2 4, 4, .inr (.inr (.inr (.inr (fun _ => none)))))), (m0, .inr (9, [.ref b1, .ref b2, .ref b3, .ref b4, .int 0, .ref b5, .int 0, .ref b6, .ref b7, .ref b8, .int 0, .int 0, .int 0, .ref b9, .ref b10, .ref b11, .ref b12, .ref b13, .ref b14, .ref b15, .ref b16, .ref b17, .ref b18, .int 0, .ref b19, .ref b20, .ref b21, .ref b22, .ref b23, .ref b24, .ref b25])), (b20, .inl (Z.2 0, 4, .inl fl)), (b21, .inl (Z.2 0, 4, .inl (fun _ => 0))), (b22, .inl (Z.2 2, 96, .inr (.inl (fun _ => 0))))]) [0, 15, 22, 33, 34, 35] (by decide) rfl
  refine lv_aload_n hx hb dL_law_799 rfl (lv_at hl 1 rfl) ?_
  refine lv_aload_n hx hb dL_law_800 rfl (lv_at hl 0 rfl) ?_
  refine lv_iload_n hx hb dL_law_801 rfl (lv_at hl 3 rfl) ?_
  refine lv_iconst (v := 1) hx hb dL_law_802 (by decide) ?_
  refine lv_iadd hx hb dL_law_803 ?_
  refine lv_topi (fun f_1 ef_1 => ?_)
  obtain rfl : f_1 = 1 := ef_1.trans (by decide)
  refine va_sld hx hb hX hbl hbA hS (z_in (by decide)) dL_law_804 ?_
  refine lv_topi (fun f_2 ef_2 => ?_)
  obtain rfl : f_2 = xs 1 := ef_2
  refine lv_aload_n hx hb dL_law_805 rfl (lv_at hl 0 rfl) ?_
  refine lv_iload_n hx hb dL_law_806 rfl (lv_at hl 3 rfl) ?_
  refine lv_iconst (v := 2) hx hb dL_law_807 (by decide) ?_
  refine lv_iadd hx hb dL_law_808 ?_
  refine lv_topi (fun f_3 ef_3 => ?_)
  obtain rfl : f_3 = 2 := ef_3.trans (by decide)
  refine va_sld hx hb hX hbl hbA hS (z_in (by decide)) dL_law_809 ?_
  refine lv_topi (fun f_4 ef_4 => ?_)
  obtain rfl : f_4 = xs 2 := ef_4
  refine lv_aload_n hx hb dL_law_810 rfl (lv_at hl 0 rfl) ?_
  refine lv_iload_n hx hb dL_law_811 rfl (lv_at hl 3 rfl) ?_
  refine lv_iconst (v := 3) hx hb dL_law_812 (by decide) ?_
  refine lv_iadd hx hb dL_law_813 ?_
  refine lv_topi (fun f_5 ef_5 => ?_)
  obtain rfl : f_5 = 3 := ef_5.trans (by decide)
  refine va_sld hx hb hX hbl hbA hS (z_in (by decide)) dL_law_814 ?_
  refine lv_topi (fun f_6 ef_6 => ?_)
  obtain rfl : f_6 = xs 3 := ef_6
  have hPc := hP.sub (ws' := [(x0, .inr (8, [.ref a1, .ref a2, .ref a3, .ref a4, .ref a5, .int 0, .ref a6, .ref a7, .ref a8, .ref a9, .ref a10, .ref a11, .ref a12, .ref a13, .int 9, .int 0, .int 0])), (a6, .inl (Z.2 4, 4, .inr (.inr (.inr (.inr (fun _ => none))))))]) [0, 1] rfl
  have hDc := hD.sub (ws' := [(x0, .inr (8, [.ref a1, .ref a2, .ref a3, .ref a4, .ref a5, .int 0, .ref a6, .ref a7, .ref a8, .ref a9, .ref a10, .ref a11, .ref a12, .ref a13, .int 9, .int 0, .int 0])), (a6, .inl (Z.2 4, 4, .inr (.inr (.inr (.inr (fun _ => none))))))]) [0, 1] (by decide) rfl
  have hFc := va_free (wc := [(x0, .inr (8, [.ref a1, .ref a2, .ref a3, .ref a4, .ref a5, .int 0, .ref a6, .ref a7, .ref a8, .ref a9, .ref a10, .ref a11, .ref a12, .ref a13, .int 9, .int 0, .int 0])), (a6, .inl (Z.2 4, 4, .inr (.inr (.inr (.inr (fun _ => none))))))]) hD hS hA [0, 1] rfl
  refine va_calli (va_runV (As := [.int (xs 1), .int (xs 2), .int (xs 3)]) (rest := []) ⟨hx, hb, hml, hown, hts⟩ (c_X8_sheet l Z H.size x0 a1 a2 a3 a4 a5 a6 a7 a8 a9 a10 a11 a12 a13 (xs 1) (xs 2) (xs 3)) (cwV 3 hts gL_law_X8_sheet rfl rfl rfl (by decide +kernel) ⟨Nat.le_of_ble_eq_true rfl, Nat.le_of_ble_eq_true rfl⟩) ⟨fun a U g mk q => by obtain ⟨q0, q1, qP, qK, qD⟩ := q; exact ⟨q0, q1, qP, va_K.moved (u := U) (U := U.calling g mk a) (Vm.Alike.refl U.vm) qK, qD⟩, va_recv hK hPc (ci := 8) (q0 := 0) rfl rfl, fun U hU hW => ⟨rfl, by rw [hU], by rw [hU]; exact hPc, va_K.moved hW.alike hK, hDc.weaken (fun _ _ _ _ => trivial)⟩⟩ rfl rfl hl.1 rfl (lv_room (Nat.le_of_ble_eq_true rfl)) dL_law_815 ⟨Nat.le_of_ble_eq_true rfl, Nat.le_of_ble_eq_true rfl⟩) hS (fun q _ h => hFc q h) hFc (fun r_7 u t H1 locs ht hvm hw hB hz1 hk1 hS => ?_)
  subst hw
  have hP1 : va_P Z.1 vwCl [] H1 := fun k q h => by simp at h
  have hD1 : va_D (va_A [(x0, .inr (8, [.ref a1, .ref a2, .ref a3, .ref a4, .ref a5, .int 0, .ref a6, .ref a7, .ref a8, .ref a9, .ref a10, .ref a11, .ref a12, .ref a13, .int 9, .int 0, .int 0])), (a6, .inl (Z.2 4, 4, .inr (.inr (.inr (.inr (fun _ => none))))))] H.size) [] := ⟨fun i j p q h => by simp at h, fun k q h => by simp at h⟩
  obtain ⟨hP, hD⟩ := va_join (wr := [(m0, .inr (9, [.ref b1, .ref b2, .ref b3, .ref b4, .int 0, .ref b5, .int 0, .ref b6, .ref b7, .ref b8, .int 0, .int 0, .int 0, .ref b9, .ref b10, .ref b11, .ref b12, .ref b13, .ref b14, .ref b15, .ref b16, .ref b17, .ref b18, .int 0, .ref b19, .ref b20, .ref b21, .ref b22, .ref b23, .ref b24, .ref b25])), (b20, .inl (Z.2 0, 4, .inl fl)), (b21, .inl (Z.2 0, 4, .inl (fun _ => 0))), (b22, .inl (Z.2 2, 96, .inr (.inl (fun _ => 0))))]) (w1 := []) hP hD [0, 1] [2, 3, 4, 5] rfl rfl (by decide) (by decide) hk1 hFc hP1 hD1
  clear hPc hDc hP1 hD1 hk1 hz1 hFc ht hvm
  generalize H1 = H at hP hS ⊢
  have hP : va_P Z.1 vwCl [(m0, .inr (9, [.ref b1, .ref b2, .ref b3, .ref b4, .int 0, .ref b5, .int 0, .ref b6, .ref b7, .ref b8, .int 0, .int 0, .int 0, .ref b9, .ref b10, .ref b11, .ref b12, .ref b13, .ref b14, .ref b15, .ref b16, .ref b17, .ref b18, .int 0, .ref b19, .ref b20, .ref b21, .ref b22, .ref b23, .ref b24, .ref b25])), (b20, .inl (Z.2 0, 4, .inl fl)), (b21, .inl (Z.2 0, 4, .inl (fun _ => 0))), (b22, .inl (Z.2 2, 96, .inr (.inl (fun _ => 0))))] H := hP
  have hD : va_D A [(m0, .inr (9, [.ref b1, .ref b2, .ref b3, .ref b4, .int 0, .ref b5, .int 0, .ref b6, .ref b7, .ref b8, .int 0, .int 0, .int 0, .ref b9, .ref b10, .ref b11, .ref b12, .ref b13, .ref b14, .ref b15, .ref b16, .ref b17, .ref b18, .int 0, .ref b19, .ref b20, .ref b21, .ref b22, .ref b23, .ref b24, .ref b25])), (b20, .inl (Z.2 0, 4, .inl fl)), (b21, .inl (Z.2 0, 4, .inl (fun _ => 0))), (b22, .inl (Z.2 2, 96, .inr (.inl (fun _ => 0))))] := hD
  refine W.widen (k := 599002) (n := 7300026) (Nat.le_of_ble_eq_true rfl) (Nat.le_of_ble_eq_true rfl) ?_
  refine lv_aload_n hx hb dL_law_818 rfl (lv_at hl 2 rfl) ?_
  refine lv_aload_n hx hb dL_law_819 rfl (lv_at hl 0 rfl) ?_
  refine lv_iload_n hx hb dL_law_820 rfl (lv_at hl 3 rfl) ?_
  refine lv_iconst (v := 1) hx hb dL_law_821 (by decide) ?_
  refine lv_iadd hx hb dL_law_822 ?_
  refine lv_topi (fun f_8 ef_8 => ?_)
  obtain rfl : f_8 = 1 := ef_8.trans (by decide)
  refine va_sld hx hb hX hbl hbA hS (z_in (by decide)) dL_law_823 ?_
  refine lv_topi (fun f_9 ef_9 => ?_)
  obtain rfl : f_9 = xs 1 := ef_9
  refine lv_aload_n hx hb dL_law_824 rfl (lv_at hl 0 rfl) ?_
  refine lv_iload_n hx hb dL_law_825 rfl (lv_at hl 3 rfl) ?_
  refine lv_iconst (v := 2) hx hb dL_law_826 (by decide) ?_
  refine lv_iadd hx hb dL_law_827 ?_
  refine lv_topi (fun f_10 ef_10 => ?_)
  obtain rfl : f_10 = 2 := ef_10.trans (by decide)
  refine va_sld hx hb hX hbl hbA hS (z_in (by decide)) dL_law_828 ?_
  refine lv_topi (fun f_11 ef_11 => ?_)
  obtain rfl : f_11 = xs 2 := ef_11
  refine lv_aload_n hx hb dL_law_829 rfl (lv_at hl 0 rfl) ?_
  refine lv_iload_n hx hb dL_law_830 rfl (lv_at hl 3 rfl) ?_
  refine lv_iconst (v := 3) hx hb dL_law_831 (by decide) ?_
  refine lv_iadd hx hb dL_law_832 ?_
  refine lv_topi (fun f_12 ef_12 => ?_)
  obtain rfl : f_12 = 3 := ef_12.trans (by decide)
  refine va_sld hx hb hX hbl hbA hS (z_in (by decide)) dL_law_833 ?_
  refine lv_topi (fun f_13 ef_13 => ?_)
  obtain rfl : f_13 = xs 3 := ef_13
  have hPc := hP.sub (ws' := [(m0, .inr (9, [.ref b1, .ref b2, .ref b3, .ref b4, .int 0, .ref b5, .int 0, .ref b6, .ref b7, .ref b8, .int 0, .int 0, .int 0, .ref b9, .ref b10, .ref b11, .ref b12, .ref b13, .ref b14, .ref b15, .ref b16, .ref b17, .ref b18, .int 0, .ref b19, .ref b20, .ref b21, .ref b22, .ref b23, .ref b24, .ref b25])), (b20, .inl (Z.2 0, 4, .inl fl)), (b21, .inl (Z.2 0, 4, .inl (fun _ => 0))), (b22, .inl (Z.2 2, 96, .inr (.inl (fun _ => 0))))]) [0, 1, 2, 3] rfl
  have hDc := hD.sub (ws' := [(m0, .inr (9, [.ref b1, .ref b2, .ref b3, .ref b4, .int 0, .ref b5, .int 0, .ref b6, .ref b7, .ref b8, .int 0, .int 0, .int 0, .ref b9, .ref b10, .ref b11, .ref b12, .ref b13, .ref b14, .ref b15, .ref b16, .ref b17, .ref b18, .int 0, .ref b19, .ref b20, .ref b21, .ref b22, .ref b23, .ref b24, .ref b25])), (b20, .inl (Z.2 0, 4, .inl fl)), (b21, .inl (Z.2 0, 4, .inl (fun _ => 0))), (b22, .inl (Z.2 2, 96, .inr (.inl (fun _ => 0))))]) [0, 1, 2, 3] (by decide) rfl
  have hFc := va_free (wc := [(m0, .inr (9, [.ref b1, .ref b2, .ref b3, .ref b4, .int 0, .ref b5, .int 0, .ref b6, .ref b7, .ref b8, .int 0, .int 0, .int 0, .ref b9, .ref b10, .ref b11, .ref b12, .ref b13, .ref b14, .ref b15, .ref b16, .ref b17, .ref b18, .int 0, .ref b19, .ref b20, .ref b21, .ref b22, .ref b23, .ref b24, .ref b25])), (b20, .inl (Z.2 0, 4, .inl fl)), (b21, .inl (Z.2 0, 4, .inl (fun _ => 0))), (b22, .inl (Z.2 2, 96, .inr (.inl (fun _ => 0))))]) hD hS hA [0, 1, 2, 3] rfl
  refine va_calli (va_runV (As := [.int (xs 1), .int (xs 2), .int (xs 3)]) (rest := [.int (if (if (xs 1) < 0 then (0 : Int32) else (if 4 ≤ (xs 1) then (0 : Int32) else (1 : Int32))) = 0 then (-1 : Int32) else (if (if (xs 2) < 0 then (0 : Int32) else (if 3 ≤ (xs 2) then (0 : Int32) else (1 : Int32))) = 0 then (-1 : Int32) else (if (xs 3) ≤ 24 then (if 0 ≤ (xs 3) then (xs 3) else (-14 : Int32)) else (-1 : Int32))))]) ⟨hx, hb, hml, hown, hts⟩ (c_X9_sheet l Z H.size m0 b1 b2 b3 b4 b5 b6 b7 b8 b9 b10 b11 b12 b13 b14 b15 b16 b17 b18 b19 b20 b21 b22 b23 b24 b25 fl (fun _ => 0) (fun _ => 0) (xs 1) (xs 2) (xs 3)) (cwV 3 hts gL_law_X9_sheet rfl rfl rfl (by decide +kernel) ⟨Nat.le_of_ble_eq_true rfl, Nat.le_of_ble_eq_true rfl⟩) ⟨fun a U g mk q => by obtain ⟨q0, q1, qP, qK, qD⟩ := q; exact ⟨q0, q1, qP, va_K.moved (u := U) (U := U.calling g mk a) (Vm.Alike.refl U.vm) qK, qD⟩, va_recv hK hPc (ci := 9) (q0 := 0) rfl rfl, fun U hU hW => ⟨rfl, by rw [hU], by rw [hU]; exact hPc, va_K.moved hW.alike hK, hDc.weaken (fun _ _ _ _ => trivial)⟩⟩ rfl rfl hl.1 rfl (lv_room (Nat.le_of_ble_eq_true rfl)) dL_law_834 ⟨Nat.le_of_ble_eq_true rfl, Nat.le_of_ble_eq_true rfl⟩) hS (fun q _ h => hFc q h) hFc (fun r_14 u t H1 locs ht hvm hw hB hz1 hk1 hS => ?_)
  subst hw
  have hP1 : va_P Z.1 vwCl [] H1 := fun k q h => by simp at h
  have hD1 : va_D (va_A [(m0, .inr (9, [.ref b1, .ref b2, .ref b3, .ref b4, .int 0, .ref b5, .int 0, .ref b6, .ref b7, .ref b8, .int 0, .int 0, .int 0, .ref b9, .ref b10, .ref b11, .ref b12, .ref b13, .ref b14, .ref b15, .ref b16, .ref b17, .ref b18, .int 0, .ref b19, .ref b20, .ref b21, .ref b22, .ref b23, .ref b24, .ref b25])), (b20, .inl (Z.2 0, 4, .inl fl)), (b21, .inl (Z.2 0, 4, .inl (fun _ => 0))), (b22, .inl (Z.2 2, 96, .inr (.inl (fun _ => 0))))] H.size) [] := ⟨fun i j p q h => by simp at h, fun k q h => by simp at h⟩
  obtain ⟨hP, hD⟩ := va_join (wr := []) (w1 := []) hP hD [0, 1, 2, 3] [] rfl rfl (by decide) (by decide) hk1 hFc hP1 hD1
  clear hPc hDc hP1 hD1 hk1 hz1 hFc ht hvm
  generalize H1 = H at hP hS ⊢
  have hP : va_P Z.1 vwCl [] H := hP
  have hD : va_D A [] := hD
  refine lv_icmp_eq (tgt := 1054) hx hb dL_law_837 (by decide) (fun _ => ?_) (fun c9 => absurd (eq_sheet (xs 1) (xs 2) (xs 3)) c9)
  exact law_tail C0 hAe (Nat.le_of_ble_eq_true rfl) (Nat.le_of_ble_eq_true rfl) hS (lv_sub hl [0, 3] rfl)
set_option maxHeartbeats 4000000 in
set_option maxRecDepth 100000 in
theorem law_23 {p : Program} {l : Launch} {e : Env} {s : State} {m : MethodId} {below : List Frame} {meth : Method} {c : Code} {b : Nat} {xs : Nat → Int32} (C0 : lw_At p s m meth c b 6 xs) {A : Nat → Prop} (hAe : A = fun q : Nat => s.heap.size ≤ q) (Z : gZ) (kA vA : Nat) (hK : va_K Z.1 vwCl (gT Z) s) (hG : gS kA vA A s) (x0 : Nat) (a1 : Nat) (a2 : Nat) (a3 : Nat) (a4 : Nat) (a5 : Nat) (a6 : Nat) (a7 : Nat) (a8 : Nat) (a9 : Nat) (a10 : Nat) (a11 : Nat) (a12 : Nat) (a13 : Nat) (fk : Nat) (fq : Nat) (pk : Nat) (pq : Nat) (tk : Nat) (kk : Nat) (kq : Nat) (lk : Nat) (lq : Nat) (uk : Nat) (uq : Nat) (vk : Nat) (vq : Nat) (m0 : Nat) (b1 : Nat) (b2 : Nat) (b3 : Nat) (b4 : Nat) (b5 : Nat) (b6 : Nat) (b7 : Nat) (b8 : Nat) (b9 : Nat) (b10 : Nat) (b11 : Nat) (b12 : Nat) (b13 : Nat) (b14 : Nat) (b15 : Nat) (b16 : Nat) (b17 : Nat) (b18 : Nat) (b19 : Nat) (b20 : Nat) (b21 : Nat) (b22 : Nat) (b23 : Nat) (b24 : Nat) (b25 : Nat) (fl : Nat → Int32) (hfl : ∀ j, j < 4 → fl j = -1) {H : Heap} {locs : List Loc} {ls : Array Slot} (hP : va_P Z.1 vwCl (zFull Z x0 a1 a2 a3 a4 a5 a6 a7 a8 a9 a10 a11 a12 a13 fk fq pk pq tk kk kq lk lq uk uq vk vq m0 b1 b2 b3 b4 b5 b6 b7 b8 b9 b10 b11 b12 b13 b14 b15 b16 b17 b18 b19 b20 b21 b22 b23 b24 b25 fl) H) (hD : va_D A (zFull Z x0 a1 a2 a3 a4 a5 a6 a7 a8 a9 a10 a11 a12 a13 fk fq pk pq tk kk kq lk lq uk uq vk vq m0 b1 b2 b3 b4 b5 b6 b7 b8 b9 b10 b11 b12 b13 b14 b15 b16 b17 b18 b19 b20 b21 b22 b23 b24 b25 fl)) (hS : va_S A s.heap H locs) (hl : lv_has ls 4 [(0, .ref b), (1, .ref x0), (2, .ref m0), (3, .int 0)]) : W p l e room_1 s m #[Value.ref b] below meth c H locs 599000 7300000 (lw_Z below #[Value.ref b] s) (F0 m 842 ls []) := by
  obtain ⟨hx, hb, hr, hml, hown0, hts0, hX, hbl, hlocks, hgv⟩ := id C0
  have hown : s.vm.findClass RL = some m.cls := hown0
  have hts : ∀ w ∈ wsL_law, w.before #[Value.ref b] s = true := fun w h => hts0 w (wsL_law_in w h)
  have hA : ∀ q : Nat, s.heap.size ≤ q → A q := by rw [hAe]; exact fun _ h => h
  have hbA : ¬ A b := by rw [hAe]; exact Nat.not_le.mpr hbl
  have hP := hP.sub (ws' := [(x0, .inr (8, [.ref a1, .ref a2, .ref a3, .ref a4, .ref a5, .int 0, .ref a6, .ref a7, .ref a8, .ref a9, .ref a10, .ref a11, .ref a12, .ref a13, .int 9, .int 0, .int 0])), (a6, .inl (Z.2 4, 4, .inr (.inr (.inr (.inr (fun _ => none)))))), (m0, .inr (9, [.ref b1, .ref b2, .ref b3, .ref b4, .int 0, .ref b5, .int 0, .ref b6, .ref b7, .ref b8, .int 0, .int 0, .int 0, .ref b9, .ref b10, .ref b11, .ref b12, .ref b13, .ref b14, .ref b15, .ref b16, .ref b17, .ref b18, .int 0, .ref b19, .ref b20, .ref b21, .ref b22, .ref b23, .ref b24, .ref b25])), (b20, .inl (Z.2 0, 4, .inl fl))]) [0, 15, 22, 33] rfl
  have hD := hD.sub (ws' := [(x0, .inr (8, [.ref a1, .ref a2, .ref a3, .ref a4, .ref a5, .int 0, .ref a6, .ref a7, .ref a8, .ref a9, .ref a10, .ref a11, .ref a12, .ref a13, .int 9, .int 0, .int 0])), (a6, .inl (Z.2 4, 4, .inr (.inr (.inr (.inr (fun _ => none)))))), (m0, .inr (9, [.ref b1, .ref b2, .ref b3, .ref b4, .int 0, .ref b5, .int 0, .ref b6, .ref b7, .ref b8, .int 0, .int 0, .int 0, .ref b9, .ref b10, .ref b11, .ref b12, .ref b13, .ref b14, .ref b15, .ref b16, .ref b17, .ref b18, .int 0, .ref b19, .ref b20, .ref b21, .ref b22, .ref b23, .ref b24, .ref b25])), (b20, .inl (Z.2 0, 4, .inl fl))]) [0, 15, 22, 33] (by decide) rfl
  refine lv_aload_n hx hb dL_law_842 rfl (lv_at hl 1 rfl) ?_
  refine lv_aload_n hx hb dL_law_843 rfl (lv_at hl 0 rfl) ?_
  refine lv_iload_n hx hb dL_law_844 rfl (lv_at hl 3 rfl) ?_
  refine lv_iconst (v := 1) hx hb dL_law_845 (by decide) ?_
  refine lv_iadd hx hb dL_law_846 ?_
  refine lv_topi (fun f_1 ef_1 => ?_)
  obtain rfl : f_1 = 1 := ef_1.trans (by decide)
  refine va_sld hx hb hX hbl hbA hS (z_in (by decide)) dL_law_847 ?_
  refine lv_topi (fun f_2 ef_2 => ?_)
  obtain rfl : f_2 = xs 1 := ef_2
  have hPc := hP.sub (ws' := [(x0, .inr (8, [.ref a1, .ref a2, .ref a3, .ref a4, .ref a5, .int 0, .ref a6, .ref a7, .ref a8, .ref a9, .ref a10, .ref a11, .ref a12, .ref a13, .int 9, .int 0, .int 0])), (a6, .inl (Z.2 4, 4, .inr (.inr (.inr (.inr (fun _ => none))))))]) [0, 1] rfl
  have hDc := hD.sub (ws' := [(x0, .inr (8, [.ref a1, .ref a2, .ref a3, .ref a4, .ref a5, .int 0, .ref a6, .ref a7, .ref a8, .ref a9, .ref a10, .ref a11, .ref a12, .ref a13, .int 9, .int 0, .int 0])), (a6, .inl (Z.2 4, 4, .inr (.inr (.inr (.inr (fun _ => none))))))]) [0, 1] (by decide) rfl
  have hFc := va_free (wc := [(x0, .inr (8, [.ref a1, .ref a2, .ref a3, .ref a4, .ref a5, .int 0, .ref a6, .ref a7, .ref a8, .ref a9, .ref a10, .ref a11, .ref a12, .ref a13, .int 9, .int 0, .int 0])), (a6, .inl (Z.2 4, 4, .inr (.inr (.inr (.inr (fun _ => none))))))]) hD hS hA [0, 1] rfl
  refine va_calli (va_runV (As := [.int (xs 1)]) (rest := []) ⟨hx, hb, hml, hown, hts⟩ (c_X8_drop l Z H.size x0 a1 a2 a3 a4 a5 a6 a7 a8 a9 a10 a11 a12 a13 (xs 1)) (cwV 1 hts gL_law_X8_drop rfl rfl rfl (by decide +kernel) ⟨Nat.le_of_ble_eq_true rfl, Nat.le_of_ble_eq_true rfl⟩) ⟨fun a U g mk q => by obtain ⟨q0, q1, qP, qK, qD⟩ := q; exact ⟨q0, q1, qP, va_K.moved (u := U) (U := U.calling g mk a) (Vm.Alike.refl U.vm) qK, qD⟩, va_recv hK hPc (ci := 8) (q0 := 0) rfl rfl, fun U hU hW => ⟨rfl, by rw [hU], by rw [hU]; exact hPc, va_K.moved hW.alike hK, hDc.weaken (fun _ _ _ _ => trivial)⟩⟩ rfl rfl hl.1 rfl (lv_room (Nat.le_of_ble_eq_true rfl)) dL_law_848 ⟨Nat.le_of_ble_eq_true rfl, Nat.le_of_ble_eq_true rfl⟩) hS (fun q _ h => hFc q h) hFc (fun r_3 u t H1 locs ht hvm hw hB hz1 hk1 hS => ?_)
  subst hw
  have hP1 : va_P Z.1 vwCl [] H1 := fun k q h => by simp at h
  have hD1 : va_D (va_A [(x0, .inr (8, [.ref a1, .ref a2, .ref a3, .ref a4, .ref a5, .int 0, .ref a6, .ref a7, .ref a8, .ref a9, .ref a10, .ref a11, .ref a12, .ref a13, .int 9, .int 0, .int 0])), (a6, .inl (Z.2 4, 4, .inr (.inr (.inr (.inr (fun _ => none))))))] H.size) [] := ⟨fun i j p q h => by simp at h, fun k q h => by simp at h⟩
  obtain ⟨hP, hD⟩ := va_join (wr := [(m0, .inr (9, [.ref b1, .ref b2, .ref b3, .ref b4, .int 0, .ref b5, .int 0, .ref b6, .ref b7, .ref b8, .int 0, .int 0, .int 0, .ref b9, .ref b10, .ref b11, .ref b12, .ref b13, .ref b14, .ref b15, .ref b16, .ref b17, .ref b18, .int 0, .ref b19, .ref b20, .ref b21, .ref b22, .ref b23, .ref b24, .ref b25])), (b20, .inl (Z.2 0, 4, .inl fl))]) (w1 := []) hP hD [0, 1] [2, 3] rfl rfl (by decide) (by decide) hk1 hFc hP1 hD1
  clear hPc hDc hP1 hD1 hk1 hz1 hFc ht hvm
  generalize H1 = H at hP hS ⊢
  have hP : va_P Z.1 vwCl [(m0, .inr (9, [.ref b1, .ref b2, .ref b3, .ref b4, .int 0, .ref b5, .int 0, .ref b6, .ref b7, .ref b8, .int 0, .int 0, .int 0, .ref b9, .ref b10, .ref b11, .ref b12, .ref b13, .ref b14, .ref b15, .ref b16, .ref b17, .ref b18, .int 0, .ref b19, .ref b20, .ref b21, .ref b22, .ref b23, .ref b24, .ref b25])), (b20, .inl (Z.2 0, 4, .inl fl))] H := hP
  have hD : va_D A [(m0, .inr (9, [.ref b1, .ref b2, .ref b3, .ref b4, .int 0, .ref b5, .int 0, .ref b6, .ref b7, .ref b8, .int 0, .int 0, .int 0, .ref b9, .ref b10, .ref b11, .ref b12, .ref b13, .ref b14, .ref b15, .ref b16, .ref b17, .ref b18, .int 0, .ref b19, .ref b20, .ref b21, .ref b22, .ref b23, .ref b24, .ref b25])), (b20, .inl (Z.2 0, 4, .inl fl))] := hD
  refine lv_aload_n hx hb dL_law_851 rfl (lv_at hl 2 rfl) ?_
  refine lv_aload_n hx hb dL_law_852 rfl (lv_at hl 0 rfl) ?_
  refine lv_iload_n hx hb dL_law_853 rfl (lv_at hl 3 rfl) ?_
  refine lv_iconst (v := 1) hx hb dL_law_854 (by decide) ?_
  refine lv_iadd hx hb dL_law_855 ?_
  refine lv_topi (fun f_4 ef_4 => ?_)
  obtain rfl : f_4 = 1 := ef_4.trans (by decide)
  refine va_sld hx hb hX hbl hbA hS (z_in (by decide)) dL_law_856 ?_
  refine lv_topi (fun f_5 ef_5 => ?_)
  obtain rfl : f_5 = xs 1 := ef_5
  have hPc := hP.sub (ws' := [(m0, .inr (9, [.ref b1, .ref b2, .ref b3, .ref b4, .int 0, .ref b5, .int 0, .ref b6, .ref b7, .ref b8, .int 0, .int 0, .int 0, .ref b9, .ref b10, .ref b11, .ref b12, .ref b13, .ref b14, .ref b15, .ref b16, .ref b17, .ref b18, .int 0, .ref b19, .ref b20, .ref b21, .ref b22, .ref b23, .ref b24, .ref b25])), (b20, .inl (Z.2 0, 4, .inl fl))]) [0, 1] rfl
  have hDc := hD.sub (ws' := [(m0, .inr (9, [.ref b1, .ref b2, .ref b3, .ref b4, .int 0, .ref b5, .int 0, .ref b6, .ref b7, .ref b8, .int 0, .int 0, .int 0, .ref b9, .ref b10, .ref b11, .ref b12, .ref b13, .ref b14, .ref b15, .ref b16, .ref b17, .ref b18, .int 0, .ref b19, .ref b20, .ref b21, .ref b22, .ref b23, .ref b24, .ref b25])), (b20, .inl (Z.2 0, 4, .inl fl))]) [0, 1] (by decide) rfl
  have hFc := va_free (wc := [(m0, .inr (9, [.ref b1, .ref b2, .ref b3, .ref b4, .int 0, .ref b5, .int 0, .ref b6, .ref b7, .ref b8, .int 0, .int 0, .int 0, .ref b9, .ref b10, .ref b11, .ref b12, .ref b13, .ref b14, .ref b15, .ref b16, .ref b17, .ref b18, .int 0, .ref b19, .ref b20, .ref b21, .ref b22, .ref b23, .ref b24, .ref b25])), (b20, .inl (Z.2 0, 4, .inl fl))]) hD hS hA [0, 1] rfl
  refine va_calli (va_runV (As := [.int (xs 1)]) (rest := [.int (if (if (xs 1) < 0 then (0 : Int32) else (if 4 ≤ (xs 1) then (0 : Int32) else (1 : Int32))) = 0 then (-1 : Int32) else (-11 : Int32))]) ⟨hx, hb, hml, hown, hts⟩ (c_X9_drop l Z H.size m0 b1 b2 b3 b4 b5 b6 b7 b8 b9 b10 b11 b12 b13 b14 b15 b16 b17 b18 b19 b20 b21 b22 b23 b24 b25 fl (xs 1) (hfl)) (cwV 1 hts gL_law_X9_drop rfl rfl rfl (by decide +kernel) ⟨Nat.le_of_ble_eq_true rfl, Nat.le_of_ble_eq_true rfl⟩) ⟨fun a U g mk q => by obtain ⟨q0, q1, qP, qK, qD⟩ := q; exact ⟨q0, q1, qP, va_K.moved (u := U) (U := U.calling g mk a) (Vm.Alike.refl U.vm) qK, qD⟩, va_recv hK hPc (ci := 9) (q0 := 0) rfl rfl, fun U hU hW => ⟨rfl, by rw [hU], by rw [hU]; exact hPc, va_K.moved hW.alike hK, hDc.weaken (fun _ _ _ _ => trivial)⟩⟩ rfl rfl hl.1 rfl (lv_room (Nat.le_of_ble_eq_true rfl)) dL_law_857 ⟨Nat.le_of_ble_eq_true rfl, Nat.le_of_ble_eq_true rfl⟩) hS (fun q _ h => hFc q h) hFc (fun r_6 u t H1 locs ht hvm hw hB hz1 hk1 hS => ?_)
  subst hw
  have hP1 : va_P Z.1 vwCl [] H1 := fun k q h => by simp at h
  have hD1 : va_D (va_A [(m0, .inr (9, [.ref b1, .ref b2, .ref b3, .ref b4, .int 0, .ref b5, .int 0, .ref b6, .ref b7, .ref b8, .int 0, .int 0, .int 0, .ref b9, .ref b10, .ref b11, .ref b12, .ref b13, .ref b14, .ref b15, .ref b16, .ref b17, .ref b18, .int 0, .ref b19, .ref b20, .ref b21, .ref b22, .ref b23, .ref b24, .ref b25])), (b20, .inl (Z.2 0, 4, .inl fl))] H.size) [] := ⟨fun i j p q h => by simp at h, fun k q h => by simp at h⟩
  obtain ⟨hP, hD⟩ := va_join (wr := []) (w1 := []) hP hD [0, 1] [] rfl rfl (by decide) (by decide) hk1 hFc hP1 hD1
  clear hPc hDc hP1 hD1 hk1 hz1 hFc ht hvm
  generalize H1 = H at hP hS ⊢
  have hP : va_P Z.1 vwCl [] H := hP
  have hD : va_D A [] := hD
  refine lv_icmp_eq (tgt := 1054) hx hb dL_law_860 (by decide) (fun _ => ?_) (fun c9 => absurd (eq_drop (xs 1)) c9)
  exact law_tail C0 hAe (Nat.le_of_ble_eq_true rfl) (Nat.le_of_ble_eq_true rfl) hS (lv_sub hl [0, 3] rfl)
set_option maxHeartbeats 4000000 in
set_option maxRecDepth 100000 in
theorem law_24 {p : Program} {l : Launch} {e : Env} {s : State} {m : MethodId} {below : List Frame} {meth : Method} {c : Code} {b : Nat} {xs : Nat → Int32} (C0 : lw_At p s m meth c b 6 xs) {A : Nat → Prop} (hAe : A = fun q : Nat => s.heap.size ≤ q) (Z : gZ) (kA vA : Nat) (hK : va_K Z.1 vwCl (gT Z) s) (hG : gS kA vA A s) (x0 : Nat) (a1 : Nat) (a2 : Nat) (a3 : Nat) (a4 : Nat) (a5 : Nat) (a6 : Nat) (a7 : Nat) (a8 : Nat) (a9 : Nat) (a10 : Nat) (a11 : Nat) (a12 : Nat) (a13 : Nat) (fk : Nat) (fq : Nat) (pk : Nat) (pq : Nat) (tk : Nat) (kk : Nat) (kq : Nat) (lk : Nat) (lq : Nat) (uk : Nat) (uq : Nat) (vk : Nat) (vq : Nat) (m0 : Nat) (b1 : Nat) (b2 : Nat) (b3 : Nat) (b4 : Nat) (b5 : Nat) (b6 : Nat) (b7 : Nat) (b8 : Nat) (b9 : Nat) (b10 : Nat) (b11 : Nat) (b12 : Nat) (b13 : Nat) (b14 : Nat) (b15 : Nat) (b16 : Nat) (b17 : Nat) (b18 : Nat) (b19 : Nat) (b20 : Nat) (b21 : Nat) (b22 : Nat) (b23 : Nat) (b24 : Nat) (b25 : Nat) (fl : Nat → Int32) (hfl : ∀ j, j < 4 → fl j = -1) {H : Heap} {locs : List Loc} {ls : Array Slot} (hP : va_P Z.1 vwCl (zFull Z x0 a1 a2 a3 a4 a5 a6 a7 a8 a9 a10 a11 a12 a13 fk fq pk pq tk kk kq lk lq uk uq vk vq m0 b1 b2 b3 b4 b5 b6 b7 b8 b9 b10 b11 b12 b13 b14 b15 b16 b17 b18 b19 b20 b21 b22 b23 b24 b25 fl) H) (hD : va_D A (zFull Z x0 a1 a2 a3 a4 a5 a6 a7 a8 a9 a10 a11 a12 a13 fk fq pk pq tk kk kq lk lq uk uq vk vq m0 b1 b2 b3 b4 b5 b6 b7 b8 b9 b10 b11 b12 b13 b14 b15 b16 b17 b18 b19 b20 b21 b22 b23 b24 b25 fl)) (hS : va_S A s.heap H locs) (hl : lv_has ls 4 [(0, .ref b), (1, .ref x0), (2, .ref m0), (3, .int 0)]) : W p l e room_1 s m #[Value.ref b] below meth c H locs 599000 7300000 (lw_Z below #[Value.ref b] s) (F0 m 865 ls []) := by
  obtain ⟨hx, hb, hr, hml, hown0, hts0, hX, hbl, hlocks, hgv⟩ := id C0
  have hown : s.vm.findClass RL = some m.cls := hown0
  have hts : ∀ w ∈ wsL_law, w.before #[Value.ref b] s = true := fun w h => hts0 w (wsL_law_in w h)
  have hA : ∀ q : Nat, s.heap.size ≤ q → A q := by rw [hAe]; exact fun _ h => h
  have hbA : ¬ A b := by rw [hAe]; exact Nat.not_le.mpr hbl
  have hP := hP.sub (ws' := [(x0, .inr (8, [.ref a1, .ref a2, .ref a3, .ref a4, .ref a5, .int 0, .ref a6, .ref a7, .ref a8, .ref a9, .ref a10, .ref a11, .ref a12, .ref a13, .int 9, .int 0, .int 0])), (a6, .inl (Z.2 4, 4, .inr (.inr (.inr (.inr (fun _ => none)))))), (m0, .inr (9, [.ref b1, .ref b2, .ref b3, .ref b4, .int 0, .ref b5, .int 0, .ref b6, .ref b7, .ref b8, .int 0, .int 0, .int 0, .ref b9, .ref b10, .ref b11, .ref b12, .ref b13, .ref b14, .ref b15, .ref b16, .ref b17, .ref b18, .int 0, .ref b19, .ref b20, .ref b21, .ref b22, .ref b23, .ref b24, .ref b25])), (b20, .inl (Z.2 0, 4, .inl fl))]) [0, 15, 22, 33] rfl
  have hD := hD.sub (ws' := [(x0, .inr (8, [.ref a1, .ref a2, .ref a3, .ref a4, .ref a5, .int 0, .ref a6, .ref a7, .ref a8, .ref a9, .ref a10, .ref a11, .ref a12, .ref a13, .int 9, .int 0, .int 0])), (a6, .inl (Z.2 4, 4, .inr (.inr (.inr (.inr (fun _ => none)))))), (m0, .inr (9, [.ref b1, .ref b2, .ref b3, .ref b4, .int 0, .ref b5, .int 0, .ref b6, .ref b7, .ref b8, .int 0, .int 0, .int 0, .ref b9, .ref b10, .ref b11, .ref b12, .ref b13, .ref b14, .ref b15, .ref b16, .ref b17, .ref b18, .int 0, .ref b19, .ref b20, .ref b21, .ref b22, .ref b23, .ref b24, .ref b25])), (b20, .inl (Z.2 0, 4, .inl fl))]) [0, 15, 22, 33] (by decide) rfl
  refine lv_aload_n hx hb dL_law_865 rfl (lv_at hl 1 rfl) ?_
  refine lv_aload_n hx hb dL_law_866 rfl (lv_at hl 0 rfl) ?_
  refine lv_iload_n hx hb dL_law_867 rfl (lv_at hl 3 rfl) ?_
  refine lv_iconst (v := 1) hx hb dL_law_868 (by decide) ?_
  refine lv_iadd hx hb dL_law_869 ?_
  refine lv_topi (fun f_1 ef_1 => ?_)
  obtain rfl : f_1 = 1 := ef_1.trans (by decide)
  refine va_sld hx hb hX hbl hbA hS (z_in (by decide)) dL_law_870 ?_
  refine lv_topi (fun f_2 ef_2 => ?_)
  obtain rfl : f_2 = xs 1 := ef_2
  refine lv_aload_n hx hb dL_law_871 rfl (lv_at hl 0 rfl) ?_
  refine lv_iload_n hx hb dL_law_872 rfl (lv_at hl 3 rfl) ?_
  refine lv_iconst (v := 2) hx hb dL_law_873 (by decide) ?_
  refine lv_iadd hx hb dL_law_874 ?_
  refine lv_topi (fun f_3 ef_3 => ?_)
  obtain rfl : f_3 = 2 := ef_3.trans (by decide)
  refine va_sld hx hb hX hbl hbA hS (z_in (by decide)) dL_law_875 ?_
  refine lv_topi (fun f_4 ef_4 => ?_)
  obtain rfl : f_4 = xs 2 := ef_4
  refine lv_aload_n hx hb dL_law_876 rfl (lv_at hl 0 rfl) ?_
  refine lv_iload_n hx hb dL_law_877 rfl (lv_at hl 3 rfl) ?_
  refine lv_iconst (v := 3) hx hb dL_law_878 (by decide) ?_
  refine lv_iadd hx hb dL_law_879 ?_
  refine lv_topi (fun f_5 ef_5 => ?_)
  obtain rfl : f_5 = 3 := ef_5.trans (by decide)
  refine va_sld hx hb hX hbl hbA hS (z_in (by decide)) dL_law_880 ?_
  refine lv_topi (fun f_6 ef_6 => ?_)
  obtain rfl : f_6 = xs 3 := ef_6
  refine lv_aload_n hx hb dL_law_881 rfl (lv_at hl 0 rfl) ?_
  refine lv_iload_n hx hb dL_law_882 rfl (lv_at hl 3 rfl) ?_
  refine lv_iconst (v := 4) hx hb dL_law_883 (by decide) ?_
  refine lv_iadd hx hb dL_law_884 ?_
  refine lv_topi (fun f_7 ef_7 => ?_)
  obtain rfl : f_7 = 4 := ef_7.trans (by decide)
  refine va_sld hx hb hX hbl hbA hS (z_in (by decide)) dL_law_885 ?_
  refine lv_topi (fun f_8 ef_8 => ?_)
  obtain rfl : f_8 = xs 4 := ef_8
  refine lv_i2l hx hb dL_law_886 rfl ?_
  refine lv_bipush (v := 32) hx hb dL_law_887 (by decide) ?_
  refine lv_lshl hx hb dL_law_889 rfl ?_
  refine lv_aload_n hx hb dL_law_890 rfl (lv_at hl 0 rfl) ?_
  refine lv_iload_n hx hb dL_law_891 rfl (lv_at hl 3 rfl) ?_
  refine lv_iconst (v := 5) hx hb dL_law_892 (by decide) ?_
  refine lv_iadd hx hb dL_law_893 ?_
  refine lv_topi (fun f_9 ef_9 => ?_)
  obtain rfl : f_9 = 5 := ef_9.trans (by decide)
  refine va_sld hx hb hX hbl hbA hS (z_in (by decide)) dL_law_894 ?_
  refine lv_topi (fun f_10 ef_10 => ?_)
  obtain rfl : f_10 = xs 5 := ef_10
  refine lv_i2l hx hb dL_law_895 rfl ?_
  refine lv_ldc2 (v := 4294967295) hx hb hown (hts (.constantLong RL 40 (4294967295)) (by decide +kernel)) dL_law_896 ?_
  refine lv_land hx hb dL_law_899 ?_
  refine lv_lor hx hb dL_law_900 ?_
  have hPc := hP.sub (ws' := [(x0, .inr (8, [.ref a1, .ref a2, .ref a3, .ref a4, .ref a5, .int 0, .ref a6, .ref a7, .ref a8, .ref a9, .ref a10, .ref a11, .ref a12, .ref a13, .int 9, .int 0, .int 0])), (a6, .inl (Z.2 4, 4, .inr (.inr (.inr (.inr (fun _ => none))))))]) [0, 1] rfl
  have hDc := hD.sub (ws' := [(x0, .inr (8, [.ref a1, .ref a2, .ref a3, .ref a4, .ref a5, .int 0, .ref a6, .ref a7, .ref a8, .ref a9, .ref a10, .ref a11, .ref a12, .ref a13, .int 9, .int 0, .int 0])), (a6, .inl (Z.2 4, 4, .inr (.inr (.inr (.inr (fun _ => none))))))]) [0, 1] (by decide) rfl
  have hFc := va_free (wc := [(x0, .inr (8, [.ref a1, .ref a2, .ref a3, .ref a4, .ref a5, .int 0, .ref a6, .ref a7, .ref a8, .ref a9, .ref a10, .ref a11, .ref a12, .ref a13, .int 9, .int 0, .int 0])), (a6, .inl (Z.2 4, 4, .inr (.inr (.inr (.inr (fun _ => none))))))]) hD hS hA [0, 1] rfl
  refine va_calli (va_runV (As := [.int (xs 1), .int (xs 2), .int (xs 3), .long ((((xs 4).toInt64) <<< ((32 : Int32).toInt64 &&& 63)) ||| (((xs 5).toInt64) &&& 4294967295))]) (rest := []) ⟨hx, hb, hml, hown, hts⟩ (c_X8_item l Z H.size x0 a1 a2 a3 a4 a5 a6 a7 a8 a9 a10 a11 a12 a13 (xs 1) (xs 2) (xs 3) ((((xs 4).toInt64) <<< ((32 : Int32).toInt64 &&& 63)) ||| (((xs 5).toInt64) &&& 4294967295))) (cwV 4 hts gL_law_X8_item rfl rfl rfl (by decide +kernel) ⟨Nat.le_of_ble_eq_true rfl, Nat.le_of_ble_eq_true rfl⟩) ⟨fun a U g mk q => by obtain ⟨q0, q1, qP, qK, qD⟩ := q; exact ⟨q0, q1, qP, va_K.moved (u := U) (U := U.calling g mk a) (Vm.Alike.refl U.vm) qK, qD⟩, va_recv hK hPc (ci := 8) (q0 := 0) rfl rfl, fun U hU hW => ⟨rfl, by rw [hU], by rw [hU]; exact hPc, va_K.moved hW.alike hK, hDc.weaken (fun _ _ _ _ => trivial)⟩⟩ rfl rfl hl.1 rfl (lv_room (Nat.le_of_ble_eq_true rfl)) dL_law_901 ⟨Nat.le_of_ble_eq_true rfl, Nat.le_of_ble_eq_true rfl⟩) hS (fun q _ h => hFc q h) hFc (fun r_11 u t H1 locs ht hvm hw hB hz1 hk1 hS => ?_)
  subst hw
  have hP1 : va_P Z.1 vwCl [] H1 := fun k q h => by simp at h
  have hD1 : va_D (va_A [(x0, .inr (8, [.ref a1, .ref a2, .ref a3, .ref a4, .ref a5, .int 0, .ref a6, .ref a7, .ref a8, .ref a9, .ref a10, .ref a11, .ref a12, .ref a13, .int 9, .int 0, .int 0])), (a6, .inl (Z.2 4, 4, .inr (.inr (.inr (.inr (fun _ => none))))))] H.size) [] := ⟨fun i j p q h => by simp at h, fun k q h => by simp at h⟩
  obtain ⟨hP, hD⟩ := va_join (wr := [(m0, .inr (9, [.ref b1, .ref b2, .ref b3, .ref b4, .int 0, .ref b5, .int 0, .ref b6, .ref b7, .ref b8, .int 0, .int 0, .int 0, .ref b9, .ref b10, .ref b11, .ref b12, .ref b13, .ref b14, .ref b15, .ref b16, .ref b17, .ref b18, .int 0, .ref b19, .ref b20, .ref b21, .ref b22, .ref b23, .ref b24, .ref b25])), (b20, .inl (Z.2 0, 4, .inl fl))]) (w1 := []) hP hD [0, 1] [2, 3] rfl rfl (by decide) (by decide) hk1 hFc hP1 hD1
  clear hPc hDc hP1 hD1 hk1 hz1 hFc ht hvm
  generalize H1 = H at hP hS ⊢
  have hP : va_P Z.1 vwCl [(m0, .inr (9, [.ref b1, .ref b2, .ref b3, .ref b4, .int 0, .ref b5, .int 0, .ref b6, .ref b7, .ref b8, .int 0, .int 0, .int 0, .ref b9, .ref b10, .ref b11, .ref b12, .ref b13, .ref b14, .ref b15, .ref b16, .ref b17, .ref b18, .int 0, .ref b19, .ref b20, .ref b21, .ref b22, .ref b23, .ref b24, .ref b25])), (b20, .inl (Z.2 0, 4, .inl fl))] H := hP
  have hD : va_D A [(m0, .inr (9, [.ref b1, .ref b2, .ref b3, .ref b4, .int 0, .ref b5, .int 0, .ref b6, .ref b7, .ref b8, .int 0, .int 0, .int 0, .ref b9, .ref b10, .ref b11, .ref b12, .ref b13, .ref b14, .ref b15, .ref b16, .ref b17, .ref b18, .int 0, .ref b19, .ref b20, .ref b21, .ref b22, .ref b23, .ref b24, .ref b25])), (b20, .inl (Z.2 0, 4, .inl fl))] := hD
  refine lv_aload_n hx hb dL_law_904 rfl (lv_at hl 2 rfl) ?_
  refine lv_aload_n hx hb dL_law_905 rfl (lv_at hl 0 rfl) ?_
  refine lv_iload_n hx hb dL_law_906 rfl (lv_at hl 3 rfl) ?_
  refine lv_iconst (v := 1) hx hb dL_law_907 (by decide) ?_
  refine lv_iadd hx hb dL_law_908 ?_
  refine lv_topi (fun f_12 ef_12 => ?_)
  obtain rfl : f_12 = 1 := ef_12.trans (by decide)
  refine va_sld hx hb hX hbl hbA hS (z_in (by decide)) dL_law_909 ?_
  refine lv_topi (fun f_13 ef_13 => ?_)
  obtain rfl : f_13 = xs 1 := ef_13
  refine lv_aload_n hx hb dL_law_910 rfl (lv_at hl 0 rfl) ?_
  refine lv_iload_n hx hb dL_law_911 rfl (lv_at hl 3 rfl) ?_
  refine lv_iconst (v := 2) hx hb dL_law_912 (by decide) ?_
  refine lv_iadd hx hb dL_law_913 ?_
  refine lv_topi (fun f_14 ef_14 => ?_)
  obtain rfl : f_14 = 2 := ef_14.trans (by decide)
  refine va_sld hx hb hX hbl hbA hS (z_in (by decide)) dL_law_914 ?_
  refine lv_topi (fun f_15 ef_15 => ?_)
  obtain rfl : f_15 = xs 2 := ef_15
  refine lv_aload_n hx hb dL_law_915 rfl (lv_at hl 0 rfl) ?_
  refine lv_iload_n hx hb dL_law_916 rfl (lv_at hl 3 rfl) ?_
  refine lv_iconst (v := 3) hx hb dL_law_917 (by decide) ?_
  refine lv_iadd hx hb dL_law_918 ?_
  refine lv_topi (fun f_16 ef_16 => ?_)
  obtain rfl : f_16 = 3 := ef_16.trans (by decide)
  refine va_sld hx hb hX hbl hbA hS (z_in (by decide)) dL_law_919 ?_
  refine lv_topi (fun f_17 ef_17 => ?_)
  obtain rfl : f_17 = xs 3 := ef_17
  refine lv_aload_n hx hb dL_law_920 rfl (lv_at hl 0 rfl) ?_
  refine lv_iload_n hx hb dL_law_921 rfl (lv_at hl 3 rfl) ?_
  refine lv_iconst (v := 4) hx hb dL_law_922 (by decide) ?_
  refine lv_iadd hx hb dL_law_923 ?_
  refine lv_topi (fun f_18 ef_18 => ?_)
  obtain rfl : f_18 = 4 := ef_18.trans (by decide)
  refine va_sld hx hb hX hbl hbA hS (z_in (by decide)) dL_law_924 ?_
  refine lv_topi (fun f_19 ef_19 => ?_)
  obtain rfl : f_19 = xs 4 := ef_19
  refine lv_i2l hx hb dL_law_925 rfl ?_
  refine lv_bipush (v := 32) hx hb dL_law_926 (by decide) ?_
  refine lv_lshl hx hb dL_law_928 rfl ?_
  refine lv_aload_n hx hb dL_law_929 rfl (lv_at hl 0 rfl) ?_
  refine lv_iload_n hx hb dL_law_930 rfl (lv_at hl 3 rfl) ?_
  refine lv_iconst (v := 5) hx hb dL_law_931 (by decide) ?_
  refine lv_iadd hx hb dL_law_932 ?_
  refine lv_topi (fun f_20 ef_20 => ?_)
  obtain rfl : f_20 = 5 := ef_20.trans (by decide)
  refine va_sld hx hb hX hbl hbA hS (z_in (by decide)) dL_law_933 ?_
  refine lv_topi (fun f_21 ef_21 => ?_)
  obtain rfl : f_21 = xs 5 := ef_21
  refine lv_i2l hx hb dL_law_934 rfl ?_
  refine lv_ldc2 (v := 4294967295) hx hb hown (hts (.constantLong RL 40 (4294967295)) (by decide +kernel)) dL_law_935 ?_
  refine lv_land hx hb dL_law_938 ?_
  refine lv_lor hx hb dL_law_939 ?_
  have hPc := hP.sub (ws' := [(m0, .inr (9, [.ref b1, .ref b2, .ref b3, .ref b4, .int 0, .ref b5, .int 0, .ref b6, .ref b7, .ref b8, .int 0, .int 0, .int 0, .ref b9, .ref b10, .ref b11, .ref b12, .ref b13, .ref b14, .ref b15, .ref b16, .ref b17, .ref b18, .int 0, .ref b19, .ref b20, .ref b21, .ref b22, .ref b23, .ref b24, .ref b25])), (b20, .inl (Z.2 0, 4, .inl fl))]) [0, 1] rfl
  have hDc := hD.sub (ws' := [(m0, .inr (9, [.ref b1, .ref b2, .ref b3, .ref b4, .int 0, .ref b5, .int 0, .ref b6, .ref b7, .ref b8, .int 0, .int 0, .int 0, .ref b9, .ref b10, .ref b11, .ref b12, .ref b13, .ref b14, .ref b15, .ref b16, .ref b17, .ref b18, .int 0, .ref b19, .ref b20, .ref b21, .ref b22, .ref b23, .ref b24, .ref b25])), (b20, .inl (Z.2 0, 4, .inl fl))]) [0, 1] (by decide) rfl
  have hFc := va_free (wc := [(m0, .inr (9, [.ref b1, .ref b2, .ref b3, .ref b4, .int 0, .ref b5, .int 0, .ref b6, .ref b7, .ref b8, .int 0, .int 0, .int 0, .ref b9, .ref b10, .ref b11, .ref b12, .ref b13, .ref b14, .ref b15, .ref b16, .ref b17, .ref b18, .int 0, .ref b19, .ref b20, .ref b21, .ref b22, .ref b23, .ref b24, .ref b25])), (b20, .inl (Z.2 0, 4, .inl fl))]) hD hS hA [0, 1] rfl
  refine va_calli (va_runV (As := [.int (xs 1), .int (xs 2), .int (xs 3), .long ((((xs 4).toInt64) <<< ((32 : Int32).toInt64 &&& 63)) ||| (((xs 5).toInt64) &&& 4294967295))]) (rest := [.int (if (if (xs 1) < 0 then (0 : Int32) else (if 4 ≤ (xs 1) then (0 : Int32) else (1 : Int32))) = 0 then (-1 : Int32) else (if (if (xs 2) < 0 then (0 : Int32) else (if 3 ≤ (xs 2) then (0 : Int32) else (1 : Int32))) = 0 then (-1 : Int32) else (-11 : Int32)))]) ⟨hx, hb, hml, hown, hts⟩ (c_X9_item l Z H.size m0 b1 b2 b3 b4 b5 b6 b7 b8 b9 b10 b11 b12 b13 b14 b15 b16 b17 b18 b19 b20 b21 b22 b23 b24 b25 fl (xs 1) (xs 2) (xs 3) ((((xs 4).toInt64) <<< ((32 : Int32).toInt64 &&& 63)) ||| (((xs 5).toInt64) &&& 4294967295)) (hfl)) (cwV 4 hts gL_law_X9_item rfl rfl rfl (by decide +kernel) ⟨Nat.le_of_ble_eq_true rfl, Nat.le_of_ble_eq_true rfl⟩) ⟨fun a U g mk q => by obtain ⟨q0, q1, qP, qK, qD⟩ := q; exact ⟨q0, q1, qP, va_K.moved (u := U) (U := U.calling g mk a) (Vm.Alike.refl U.vm) qK, qD⟩, va_recv hK hPc (ci := 9) (q0 := 0) rfl rfl, fun U hU hW => ⟨rfl, by rw [hU], by rw [hU]; exact hPc, va_K.moved hW.alike hK, hDc.weaken (fun _ _ _ _ => trivial)⟩⟩ rfl rfl hl.1 rfl (lv_room (Nat.le_of_ble_eq_true rfl)) dL_law_940 ⟨Nat.le_of_ble_eq_true rfl, Nat.le_of_ble_eq_true rfl⟩) hS (fun q _ h => hFc q h) hFc (fun r_22 u t H1 locs ht hvm hw hB hz1 hk1 hS => ?_)
  subst hw
  have hP1 : va_P Z.1 vwCl [] H1 := fun k q h => by simp at h
  have hD1 : va_D (va_A [(m0, .inr (9, [.ref b1, .ref b2, .ref b3, .ref b4, .int 0, .ref b5, .int 0, .ref b6, .ref b7, .ref b8, .int 0, .int 0, .int 0, .ref b9, .ref b10, .ref b11, .ref b12, .ref b13, .ref b14, .ref b15, .ref b16, .ref b17, .ref b18, .int 0, .ref b19, .ref b20, .ref b21, .ref b22, .ref b23, .ref b24, .ref b25])), (b20, .inl (Z.2 0, 4, .inl fl))] H.size) [] := ⟨fun i j p q h => by simp at h, fun k q h => by simp at h⟩
  obtain ⟨hP, hD⟩ := va_join (wr := []) (w1 := []) hP hD [0, 1] [] rfl rfl (by decide) (by decide) hk1 hFc hP1 hD1
  clear hPc hDc hP1 hD1 hk1 hz1 hFc ht hvm
  generalize H1 = H at hP hS ⊢
  have hP : va_P Z.1 vwCl [] H := hP
  have hD : va_D A [] := hD
  refine lv_icmp_eq (tgt := 1054) hx hb dL_law_943 (by decide) (fun _ => ?_) (fun c9 => absurd (eq_item (xs 1) (xs 2)) c9)
  exact law_tail C0 hAe (Nat.le_of_ble_eq_true rfl) (Nat.le_of_ble_eq_true rfl) hS (lv_sub hl [0, 3] rfl)
set_option maxHeartbeats 4000000 in
set_option maxRecDepth 100000 in
theorem law_25 {p : Program} {l : Launch} {e : Env} {s : State} {m : MethodId} {below : List Frame} {meth : Method} {c : Code} {b : Nat} {xs : Nat → Int32} (C0 : lw_At p s m meth c b 6 xs) {A : Nat → Prop} (hAe : A = fun q : Nat => s.heap.size ≤ q) (Z : gZ) (kA vA : Nat) (hK : va_K Z.1 vwCl (gT Z) s) (hG : gS kA vA A s) (x0 : Nat) (a1 : Nat) (a2 : Nat) (a3 : Nat) (a4 : Nat) (a5 : Nat) (a6 : Nat) (a7 : Nat) (a8 : Nat) (a9 : Nat) (a10 : Nat) (a11 : Nat) (a12 : Nat) (a13 : Nat) (fk : Nat) (fq : Nat) (pk : Nat) (pq : Nat) (tk : Nat) (kk : Nat) (kq : Nat) (lk : Nat) (lq : Nat) (uk : Nat) (uq : Nat) (vk : Nat) (vq : Nat) (m0 : Nat) (b1 : Nat) (b2 : Nat) (b3 : Nat) (b4 : Nat) (b5 : Nat) (b6 : Nat) (b7 : Nat) (b8 : Nat) (b9 : Nat) (b10 : Nat) (b11 : Nat) (b12 : Nat) (b13 : Nat) (b14 : Nat) (b15 : Nat) (b16 : Nat) (b17 : Nat) (b18 : Nat) (b19 : Nat) (b20 : Nat) (b21 : Nat) (b22 : Nat) (b23 : Nat) (b24 : Nat) (b25 : Nat) (fl : Nat → Int32) (hfl : ∀ j, j < 4 → fl j = -1) {H : Heap} {locs : List Loc} {ls : Array Slot} (hP : va_P Z.1 vwCl (zFull Z x0 a1 a2 a3 a4 a5 a6 a7 a8 a9 a10 a11 a12 a13 fk fq pk pq tk kk kq lk lq uk uq vk vq m0 b1 b2 b3 b4 b5 b6 b7 b8 b9 b10 b11 b12 b13 b14 b15 b16 b17 b18 b19 b20 b21 b22 b23 b24 b25 fl) H) (hD : va_D A (zFull Z x0 a1 a2 a3 a4 a5 a6 a7 a8 a9 a10 a11 a12 a13 fk fq pk pq tk kk kq lk lq uk uq vk vq m0 b1 b2 b3 b4 b5 b6 b7 b8 b9 b10 b11 b12 b13 b14 b15 b16 b17 b18 b19 b20 b21 b22 b23 b24 b25 fl)) (hS : va_S A s.heap H locs) (hl : lv_has ls 4 [(0, .ref b), (1, .ref x0), (2, .ref m0), (3, .int 0)]) : W p l e room_1 s m #[Value.ref b] below meth c H locs 599000 7300000 (lw_Z below #[Value.ref b] s) (F0 m 948 ls []) := by
  obtain ⟨hx, hb, hr, hml, hown0, hts0, hX, hbl, hlocks, hgv⟩ := id C0
  have hown : s.vm.findClass RL = some m.cls := hown0
  have hts : ∀ w ∈ wsL_law, w.before #[Value.ref b] s = true := fun w h => hts0 w (wsL_law_in w h)
  have hA : ∀ q : Nat, s.heap.size ≤ q → A q := by rw [hAe]; exact fun _ h => h
  have hbA : ¬ A b := by rw [hAe]; exact Nat.not_le.mpr hbl
  have hP := hP.sub (ws' := [(x0, .inr (8, [.ref a1, .ref a2, .ref a3, .ref a4, .ref a5, .int 0, .ref a6, .ref a7, .ref a8, .ref a9, .ref a10, .ref a11, .ref a12, .ref a13, .int 9, .int 0, .int 0])), (a6, .inl (Z.2 4, 4, .inr (.inr (.inr (.inr (fun _ => none)))))), (m0, .inr (9, [.ref b1, .ref b2, .ref b3, .ref b4, .int 0, .ref b5, .int 0, .ref b6, .ref b7, .ref b8, .int 0, .int 0, .int 0, .ref b9, .ref b10, .ref b11, .ref b12, .ref b13, .ref b14, .ref b15, .ref b16, .ref b17, .ref b18, .int 0, .ref b19, .ref b20, .ref b21, .ref b22, .ref b23, .ref b24, .ref b25])), (b20, .inl (Z.2 0, 4, .inl fl))]) [0, 15, 22, 33] rfl
  have hD := hD.sub (ws' := [(x0, .inr (8, [.ref a1, .ref a2, .ref a3, .ref a4, .ref a5, .int 0, .ref a6, .ref a7, .ref a8, .ref a9, .ref a10, .ref a11, .ref a12, .ref a13, .int 9, .int 0, .int 0])), (a6, .inl (Z.2 4, 4, .inr (.inr (.inr (.inr (fun _ => none)))))), (m0, .inr (9, [.ref b1, .ref b2, .ref b3, .ref b4, .int 0, .ref b5, .int 0, .ref b6, .ref b7, .ref b8, .int 0, .int 0, .int 0, .ref b9, .ref b10, .ref b11, .ref b12, .ref b13, .ref b14, .ref b15, .ref b16, .ref b17, .ref b18, .int 0, .ref b19, .ref b20, .ref b21, .ref b22, .ref b23, .ref b24, .ref b25])), (b20, .inl (Z.2 0, 4, .inl fl))]) [0, 15, 22, 33] (by decide) rfl
  refine lv_aload_n hx hb dL_law_948 rfl (lv_at hl 1 rfl) ?_
  refine lv_aload_n hx hb dL_law_949 rfl (lv_at hl 0 rfl) ?_
  refine lv_iload_n hx hb dL_law_950 rfl (lv_at hl 3 rfl) ?_
  refine lv_iconst (v := 1) hx hb dL_law_951 (by decide) ?_
  refine lv_iadd hx hb dL_law_952 ?_
  refine lv_topi (fun f_1 ef_1 => ?_)
  obtain rfl : f_1 = 1 := ef_1.trans (by decide)
  refine va_sld hx hb hX hbl hbA hS (z_in (by decide)) dL_law_953 ?_
  refine lv_topi (fun f_2 ef_2 => ?_)
  obtain rfl : f_2 = xs 1 := ef_2
  refine lv_aload_n hx hb dL_law_954 rfl (lv_at hl 0 rfl) ?_
  refine lv_iload_n hx hb dL_law_955 rfl (lv_at hl 3 rfl) ?_
  refine lv_iconst (v := 2) hx hb dL_law_956 (by decide) ?_
  refine lv_iadd hx hb dL_law_957 ?_
  refine lv_topi (fun f_3 ef_3 => ?_)
  obtain rfl : f_3 = 2 := ef_3.trans (by decide)
  refine va_sld hx hb hX hbl hbA hS (z_in (by decide)) dL_law_958 ?_
  refine lv_topi (fun f_4 ef_4 => ?_)
  obtain rfl : f_4 = xs 2 := ef_4
  refine lv_aload_n hx hb dL_law_959 rfl (lv_at hl 0 rfl) ?_
  refine lv_iload_n hx hb dL_law_960 rfl (lv_at hl 3 rfl) ?_
  refine lv_iconst (v := 3) hx hb dL_law_961 (by decide) ?_
  refine lv_iadd hx hb dL_law_962 ?_
  refine lv_topi (fun f_5 ef_5 => ?_)
  obtain rfl : f_5 = 3 := ef_5.trans (by decide)
  refine va_sld hx hb hX hbl hbA hS (z_in (by decide)) dL_law_963 ?_
  refine lv_topi (fun f_6 ef_6 => ?_)
  obtain rfl : f_6 = xs 3 := ef_6
  have hPc := hP.sub (ws' := [(x0, .inr (8, [.ref a1, .ref a2, .ref a3, .ref a4, .ref a5, .int 0, .ref a6, .ref a7, .ref a8, .ref a9, .ref a10, .ref a11, .ref a12, .ref a13, .int 9, .int 0, .int 0])), (a6, .inl (Z.2 4, 4, .inr (.inr (.inr (.inr (fun _ => none))))))]) [0, 1] rfl
  have hDc := hD.sub (ws' := [(x0, .inr (8, [.ref a1, .ref a2, .ref a3, .ref a4, .ref a5, .int 0, .ref a6, .ref a7, .ref a8, .ref a9, .ref a10, .ref a11, .ref a12, .ref a13, .int 9, .int 0, .int 0])), (a6, .inl (Z.2 4, 4, .inr (.inr (.inr (.inr (fun _ => none))))))]) [0, 1] (by decide) rfl
  have hFc := va_free (wc := [(x0, .inr (8, [.ref a1, .ref a2, .ref a3, .ref a4, .ref a5, .int 0, .ref a6, .ref a7, .ref a8, .ref a9, .ref a10, .ref a11, .ref a12, .ref a13, .int 9, .int 0, .int 0])), (a6, .inl (Z.2 4, 4, .inr (.inr (.inr (.inr (fun _ => none))))))]) hD hS hA [0, 1] rfl
  refine va_calli (va_runV (As := [.int (xs 1), .int (xs 2), .int (xs 3)]) (rest := []) ⟨hx, hb, hml, hown, hts⟩ (c_X8_film l Z H.size x0 a1 a2 a3 a4 a5 a6 a7 a8 a9 a10 a11 a12 a13 (xs 1) (xs 2) (xs 3)) (cwV 3 hts gL_law_X8_film rfl rfl rfl (by decide +kernel) ⟨Nat.le_of_ble_eq_true rfl, Nat.le_of_ble_eq_true rfl⟩) ⟨fun a U g mk q => by obtain ⟨q0, q1, qP, qK, qD⟩ := q; exact ⟨q0, q1, qP, va_K.moved (u := U) (U := U.calling g mk a) (Vm.Alike.refl U.vm) qK, qD⟩, va_recv hK hPc (ci := 8) (q0 := 0) rfl rfl, fun U hU hW => ⟨rfl, by rw [hU], by rw [hU]; exact hPc, va_K.moved hW.alike hK, hDc.weaken (fun _ _ _ _ => trivial)⟩⟩ rfl rfl hl.1 rfl (lv_room (Nat.le_of_ble_eq_true rfl)) dL_law_964 ⟨Nat.le_of_ble_eq_true rfl, Nat.le_of_ble_eq_true rfl⟩) hS (fun q _ h => hFc q h) hFc (fun r_7 u t H1 locs ht hvm hw hB hz1 hk1 hS => ?_)
  subst hw
  have hP1 : va_P Z.1 vwCl [] H1 := fun k q h => by simp at h
  have hD1 : va_D (va_A [(x0, .inr (8, [.ref a1, .ref a2, .ref a3, .ref a4, .ref a5, .int 0, .ref a6, .ref a7, .ref a8, .ref a9, .ref a10, .ref a11, .ref a12, .ref a13, .int 9, .int 0, .int 0])), (a6, .inl (Z.2 4, 4, .inr (.inr (.inr (.inr (fun _ => none))))))] H.size) [] := ⟨fun i j p q h => by simp at h, fun k q h => by simp at h⟩
  obtain ⟨hP, hD⟩ := va_join (wr := [(m0, .inr (9, [.ref b1, .ref b2, .ref b3, .ref b4, .int 0, .ref b5, .int 0, .ref b6, .ref b7, .ref b8, .int 0, .int 0, .int 0, .ref b9, .ref b10, .ref b11, .ref b12, .ref b13, .ref b14, .ref b15, .ref b16, .ref b17, .ref b18, .int 0, .ref b19, .ref b20, .ref b21, .ref b22, .ref b23, .ref b24, .ref b25])), (b20, .inl (Z.2 0, 4, .inl fl))]) (w1 := []) hP hD [0, 1] [2, 3] rfl rfl (by decide) (by decide) hk1 hFc hP1 hD1
  clear hPc hDc hP1 hD1 hk1 hz1 hFc ht hvm
  generalize H1 = H at hP hS ⊢
  have hP : va_P Z.1 vwCl [(m0, .inr (9, [.ref b1, .ref b2, .ref b3, .ref b4, .int 0, .ref b5, .int 0, .ref b6, .ref b7, .ref b8, .int 0, .int 0, .int 0, .ref b9, .ref b10, .ref b11, .ref b12, .ref b13, .ref b14, .ref b15, .ref b16, .ref b17, .ref b18, .int 0, .ref b19, .ref b20, .ref b21, .ref b22, .ref b23, .ref b24, .ref b25])), (b20, .inl (Z.2 0, 4, .inl fl))] H := hP
  have hD : va_D A [(m0, .inr (9, [.ref b1, .ref b2, .ref b3, .ref b4, .int 0, .ref b5, .int 0, .ref b6, .ref b7, .ref b8, .int 0, .int 0, .int 0, .ref b9, .ref b10, .ref b11, .ref b12, .ref b13, .ref b14, .ref b15, .ref b16, .ref b17, .ref b18, .int 0, .ref b19, .ref b20, .ref b21, .ref b22, .ref b23, .ref b24, .ref b25])), (b20, .inl (Z.2 0, 4, .inl fl))] := hD
  refine lv_aload_n hx hb dL_law_967 rfl (lv_at hl 2 rfl) ?_
  refine lv_aload_n hx hb dL_law_968 rfl (lv_at hl 0 rfl) ?_
  refine lv_iload_n hx hb dL_law_969 rfl (lv_at hl 3 rfl) ?_
  refine lv_iconst (v := 1) hx hb dL_law_970 (by decide) ?_
  refine lv_iadd hx hb dL_law_971 ?_
  refine lv_topi (fun f_8 ef_8 => ?_)
  obtain rfl : f_8 = 1 := ef_8.trans (by decide)
  refine va_sld hx hb hX hbl hbA hS (z_in (by decide)) dL_law_972 ?_
  refine lv_topi (fun f_9 ef_9 => ?_)
  obtain rfl : f_9 = xs 1 := ef_9
  refine lv_aload_n hx hb dL_law_973 rfl (lv_at hl 0 rfl) ?_
  refine lv_iload_n hx hb dL_law_974 rfl (lv_at hl 3 rfl) ?_
  refine lv_iconst (v := 2) hx hb dL_law_975 (by decide) ?_
  refine lv_iadd hx hb dL_law_976 ?_
  refine lv_topi (fun f_10 ef_10 => ?_)
  obtain rfl : f_10 = 2 := ef_10.trans (by decide)
  refine va_sld hx hb hX hbl hbA hS (z_in (by decide)) dL_law_977 ?_
  refine lv_topi (fun f_11 ef_11 => ?_)
  obtain rfl : f_11 = xs 2 := ef_11
  refine lv_aload_n hx hb dL_law_978 rfl (lv_at hl 0 rfl) ?_
  refine lv_iload_n hx hb dL_law_979 rfl (lv_at hl 3 rfl) ?_
  refine lv_iconst (v := 3) hx hb dL_law_980 (by decide) ?_
  refine lv_iadd hx hb dL_law_981 ?_
  refine lv_topi (fun f_12 ef_12 => ?_)
  obtain rfl : f_12 = 3 := ef_12.trans (by decide)
  refine va_sld hx hb hX hbl hbA hS (z_in (by decide)) dL_law_982 ?_
  refine lv_topi (fun f_13 ef_13 => ?_)
  obtain rfl : f_13 = xs 3 := ef_13
  have hPc := hP.sub (ws' := [(m0, .inr (9, [.ref b1, .ref b2, .ref b3, .ref b4, .int 0, .ref b5, .int 0, .ref b6, .ref b7, .ref b8, .int 0, .int 0, .int 0, .ref b9, .ref b10, .ref b11, .ref b12, .ref b13, .ref b14, .ref b15, .ref b16, .ref b17, .ref b18, .int 0, .ref b19, .ref b20, .ref b21, .ref b22, .ref b23, .ref b24, .ref b25])), (b20, .inl (Z.2 0, 4, .inl fl))]) [0, 1] rfl
  have hDc := hD.sub (ws' := [(m0, .inr (9, [.ref b1, .ref b2, .ref b3, .ref b4, .int 0, .ref b5, .int 0, .ref b6, .ref b7, .ref b8, .int 0, .int 0, .int 0, .ref b9, .ref b10, .ref b11, .ref b12, .ref b13, .ref b14, .ref b15, .ref b16, .ref b17, .ref b18, .int 0, .ref b19, .ref b20, .ref b21, .ref b22, .ref b23, .ref b24, .ref b25])), (b20, .inl (Z.2 0, 4, .inl fl))]) [0, 1] (by decide) rfl
  have hFc := va_free (wc := [(m0, .inr (9, [.ref b1, .ref b2, .ref b3, .ref b4, .int 0, .ref b5, .int 0, .ref b6, .ref b7, .ref b8, .int 0, .int 0, .int 0, .ref b9, .ref b10, .ref b11, .ref b12, .ref b13, .ref b14, .ref b15, .ref b16, .ref b17, .ref b18, .int 0, .ref b19, .ref b20, .ref b21, .ref b22, .ref b23, .ref b24, .ref b25])), (b20, .inl (Z.2 0, 4, .inl fl))]) hD hS hA [0, 1] rfl
  refine va_calli (va_runV (As := [.int (xs 1), .int (xs 2), .int (xs 3)]) (rest := [.int (if (if (xs 1) < 0 then (0 : Int32) else (if 4 ≤ (xs 1) then (0 : Int32) else (1 : Int32))) = 0 then (-1 : Int32) else (if (if (xs 2) < 0 then (0 : Int32) else (if 3 ≤ (xs 2) then (0 : Int32) else (1 : Int32))) = 0 then (-1 : Int32) else (-11 : Int32)))]) ⟨hx, hb, hml, hown, hts⟩ (c_X9_film l Z H.size m0 b1 b2 b3 b4 b5 b6 b7 b8 b9 b10 b11 b12 b13 b14 b15 b16 b17 b18 b19 b20 b21 b22 b23 b24 b25 fl (xs 1) (xs 2) (xs 3) (hfl)) (cwV 3 hts gL_law_X9_film rfl rfl rfl (by decide +kernel) ⟨Nat.le_of_ble_eq_true rfl, Nat.le_of_ble_eq_true rfl⟩) ⟨fun a U g mk q => by obtain ⟨q0, q1, qP, qK, qD⟩ := q; exact ⟨q0, q1, qP, va_K.moved (u := U) (U := U.calling g mk a) (Vm.Alike.refl U.vm) qK, qD⟩, va_recv hK hPc (ci := 9) (q0 := 0) rfl rfl, fun U hU hW => ⟨rfl, by rw [hU], by rw [hU]; exact hPc, va_K.moved hW.alike hK, hDc.weaken (fun _ _ _ _ => trivial)⟩⟩ rfl rfl hl.1 rfl (lv_room (Nat.le_of_ble_eq_true rfl)) dL_law_983 ⟨Nat.le_of_ble_eq_true rfl, Nat.le_of_ble_eq_true rfl⟩) hS (fun q _ h => hFc q h) hFc (fun r_14 u t H1 locs ht hvm hw hB hz1 hk1 hS => ?_)
  subst hw
  have hP1 : va_P Z.1 vwCl [] H1 := fun k q h => by simp at h
  have hD1 : va_D (va_A [(m0, .inr (9, [.ref b1, .ref b2, .ref b3, .ref b4, .int 0, .ref b5, .int 0, .ref b6, .ref b7, .ref b8, .int 0, .int 0, .int 0, .ref b9, .ref b10, .ref b11, .ref b12, .ref b13, .ref b14, .ref b15, .ref b16, .ref b17, .ref b18, .int 0, .ref b19, .ref b20, .ref b21, .ref b22, .ref b23, .ref b24, .ref b25])), (b20, .inl (Z.2 0, 4, .inl fl))] H.size) [] := ⟨fun i j p q h => by simp at h, fun k q h => by simp at h⟩
  obtain ⟨hP, hD⟩ := va_join (wr := []) (w1 := []) hP hD [0, 1] [] rfl rfl (by decide) (by decide) hk1 hFc hP1 hD1
  clear hPc hDc hP1 hD1 hk1 hz1 hFc ht hvm
  generalize H1 = H at hP hS ⊢
  have hP : va_P Z.1 vwCl [] H := hP
  have hD : va_D A [] := hD
  refine lv_icmp_eq (tgt := 1054) hx hb dL_law_986 (by decide) (fun _ => ?_) (fun c9 => absurd (eq_film (xs 1) (xs 2)) c9)
  exact law_tail C0 hAe (Nat.le_of_ble_eq_true rfl) (Nat.le_of_ble_eq_true rfl) hS (lv_sub hl [0, 3] rfl)
set_option maxHeartbeats 4000000 in
set_option maxRecDepth 100000 in
theorem law_26 {p : Program} {l : Launch} {e : Env} {s : State} {m : MethodId} {below : List Frame} {meth : Method} {c : Code} {b : Nat} {xs : Nat → Int32} (C0 : lw_At p s m meth c b 6 xs) {A : Nat → Prop} (hAe : A = fun q : Nat => s.heap.size ≤ q) (Z : gZ) (kA vA : Nat) (hK : va_K Z.1 vwCl (gT Z) s) (hG : gS kA vA A s) (x0 : Nat) (a1 : Nat) (a2 : Nat) (a3 : Nat) (a4 : Nat) (a5 : Nat) (a6 : Nat) (a7 : Nat) (a8 : Nat) (a9 : Nat) (a10 : Nat) (a11 : Nat) (a12 : Nat) (a13 : Nat) (fk : Nat) (fq : Nat) (pk : Nat) (pq : Nat) (tk : Nat) (kk : Nat) (kq : Nat) (lk : Nat) (lq : Nat) (uk : Nat) (uq : Nat) (vk : Nat) (vq : Nat) (m0 : Nat) (b1 : Nat) (b2 : Nat) (b3 : Nat) (b4 : Nat) (b5 : Nat) (b6 : Nat) (b7 : Nat) (b8 : Nat) (b9 : Nat) (b10 : Nat) (b11 : Nat) (b12 : Nat) (b13 : Nat) (b14 : Nat) (b15 : Nat) (b16 : Nat) (b17 : Nat) (b18 : Nat) (b19 : Nat) (b20 : Nat) (b21 : Nat) (b22 : Nat) (b23 : Nat) (b24 : Nat) (b25 : Nat) (fl : Nat → Int32) (hfl : ∀ j, j < 4 → fl j = -1) {H : Heap} {locs : List Loc} {ls : Array Slot} (hP : va_P Z.1 vwCl (zFull Z x0 a1 a2 a3 a4 a5 a6 a7 a8 a9 a10 a11 a12 a13 fk fq pk pq tk kk kq lk lq uk uq vk vq m0 b1 b2 b3 b4 b5 b6 b7 b8 b9 b10 b11 b12 b13 b14 b15 b16 b17 b18 b19 b20 b21 b22 b23 b24 b25 fl) H) (hD : va_D A (zFull Z x0 a1 a2 a3 a4 a5 a6 a7 a8 a9 a10 a11 a12 a13 fk fq pk pq tk kk kq lk lq uk uq vk vq m0 b1 b2 b3 b4 b5 b6 b7 b8 b9 b10 b11 b12 b13 b14 b15 b16 b17 b18 b19 b20 b21 b22 b23 b24 b25 fl)) (hS : va_S A s.heap H locs) (hl : lv_has ls 4 [(0, .ref b), (1, .ref x0), (2, .ref m0), (3, .int 0)]) : W p l e room_1 s m #[Value.ref b] below meth c H locs 599000 7300000 (lw_Z below #[Value.ref b] s) (F0 m 991 ls []) := by
  obtain ⟨hx, hb, hr, hml, hown0, hts0, hX, hbl, hlocks, hgv⟩ := id C0
  have hown : s.vm.findClass RL = some m.cls := hown0
  have hts : ∀ w ∈ wsL_law, w.before #[Value.ref b] s = true := fun w h => hts0 w (wsL_law_in w h)
  have hA : ∀ q : Nat, s.heap.size ≤ q → A q := by rw [hAe]; exact fun _ h => h
  have hbA : ¬ A b := by rw [hAe]; exact Nat.not_le.mpr hbl
  have hP := hP.sub (ws' := [(x0, .inr (8, [.ref a1, .ref a2, .ref a3, .ref a4, .ref a5, .int 0, .ref a6, .ref a7, .ref a8, .ref a9, .ref a10, .ref a11, .ref a12, .ref a13, .int 9, .int 0, .int 0])), (a6, .inl (Z.2 4, 4, .inr (.inr (.inr (.inr (fun _ => none)))))), (m0, .inr (9, [.ref b1, .ref b2, .ref b3, .ref b4, .int 0, .ref b5, .int 0, .ref b6, .ref b7, .ref b8, .int 0, .int 0, .int 0, .ref b9, .ref b10, .ref b11, .ref b12, .ref b13, .ref b14, .ref b15, .ref b16, .ref b17, .ref b18, .int 0, .ref b19, .ref b20, .ref b21, .ref b22, .ref b23, .ref b24, .ref b25])), (b20, .inl (Z.2 0, 4, .inl fl))]) [0, 15, 22, 33] rfl
  have hD := hD.sub (ws' := [(x0, .inr (8, [.ref a1, .ref a2, .ref a3, .ref a4, .ref a5, .int 0, .ref a6, .ref a7, .ref a8, .ref a9, .ref a10, .ref a11, .ref a12, .ref a13, .int 9, .int 0, .int 0])), (a6, .inl (Z.2 4, 4, .inr (.inr (.inr (.inr (fun _ => none)))))), (m0, .inr (9, [.ref b1, .ref b2, .ref b3, .ref b4, .int 0, .ref b5, .int 0, .ref b6, .ref b7, .ref b8, .int 0, .int 0, .int 0, .ref b9, .ref b10, .ref b11, .ref b12, .ref b13, .ref b14, .ref b15, .ref b16, .ref b17, .ref b18, .int 0, .ref b19, .ref b20, .ref b21, .ref b22, .ref b23, .ref b24, .ref b25])), (b20, .inl (Z.2 0, 4, .inl fl))]) [0, 15, 22, 33] (by decide) rfl
  refine lv_aload_n hx hb dL_law_991 rfl (lv_at hl 1 rfl) ?_
  refine lv_aload_n hx hb dL_law_992 rfl (lv_at hl 0 rfl) ?_
  refine lv_iload_n hx hb dL_law_993 rfl (lv_at hl 3 rfl) ?_
  refine lv_iconst (v := 1) hx hb dL_law_994 (by decide) ?_
  refine lv_iadd hx hb dL_law_995 ?_
  refine lv_topi (fun f_1 ef_1 => ?_)
  obtain rfl : f_1 = 1 := ef_1.trans (by decide)
  refine va_sld hx hb hX hbl hbA hS (z_in (by decide)) dL_law_996 ?_
  refine lv_topi (fun f_2 ef_2 => ?_)
  obtain rfl : f_2 = xs 1 := ef_2
  refine lv_aload_n hx hb dL_law_997 rfl (lv_at hl 0 rfl) ?_
  refine lv_iload_n hx hb dL_law_998 rfl (lv_at hl 3 rfl) ?_
  refine lv_iconst (v := 2) hx hb dL_law_999 (by decide) ?_
  refine lv_iadd hx hb dL_law_1000 ?_
  refine lv_topi (fun f_3 ef_3 => ?_)
  obtain rfl : f_3 = 2 := ef_3.trans (by decide)
  refine va_sld hx hb hX hbl hbA hS (z_in (by decide)) dL_law_1001 ?_
  refine lv_topi (fun f_4 ef_4 => ?_)
  obtain rfl : f_4 = xs 2 := ef_4
  refine lv_aload_n hx hb dL_law_1002 rfl (lv_at hl 0 rfl) ?_
  refine lv_iload_n hx hb dL_law_1003 rfl (lv_at hl 3 rfl) ?_
  refine lv_iconst (v := 3) hx hb dL_law_1004 (by decide) ?_
  refine lv_iadd hx hb dL_law_1005 ?_
  refine lv_topi (fun f_5 ef_5 => ?_)
  obtain rfl : f_5 = 3 := ef_5.trans (by decide)
  refine va_sld hx hb hX hbl hbA hS (z_in (by decide)) dL_law_1006 ?_
  refine lv_topi (fun f_6 ef_6 => ?_)
  obtain rfl : f_6 = xs 3 := ef_6
  refine lv_aload_n hx hb dL_law_1007 rfl (lv_at hl 0 rfl) ?_
  refine lv_iload_n hx hb dL_law_1008 rfl (lv_at hl 3 rfl) ?_
  refine lv_iconst (v := 4) hx hb dL_law_1009 (by decide) ?_
  refine lv_iadd hx hb dL_law_1010 ?_
  refine lv_topi (fun f_7 ef_7 => ?_)
  obtain rfl : f_7 = 4 := ef_7.trans (by decide)
  refine va_sld hx hb hX hbl hbA hS (z_in (by decide)) dL_law_1011 ?_
  refine lv_topi (fun f_8 ef_8 => ?_)
  obtain rfl : f_8 = xs 4 := ef_8
  refine lv_aload_n hx hb dL_law_1012 rfl (lv_at hl 0 rfl) ?_
  refine lv_iload_n hx hb dL_law_1013 rfl (lv_at hl 3 rfl) ?_
  refine lv_iconst (v := 5) hx hb dL_law_1014 (by decide) ?_
  refine lv_iadd hx hb dL_law_1015 ?_
  refine lv_topi (fun f_9 ef_9 => ?_)
  obtain rfl : f_9 = 5 := ef_9.trans (by decide)
  refine va_sld hx hb hX hbl hbA hS (z_in (by decide)) dL_law_1016 ?_
  refine lv_topi (fun f_10 ef_10 => ?_)
  obtain rfl : f_10 = xs 5 := ef_10
  have hPc := hP.sub (ws' := [(x0, .inr (8, [.ref a1, .ref a2, .ref a3, .ref a4, .ref a5, .int 0, .ref a6, .ref a7, .ref a8, .ref a9, .ref a10, .ref a11, .ref a12, .ref a13, .int 9, .int 0, .int 0])), (a6, .inl (Z.2 4, 4, .inr (.inr (.inr (.inr (fun _ => none))))))]) [0, 1] rfl
  have hDc := hD.sub (ws' := [(x0, .inr (8, [.ref a1, .ref a2, .ref a3, .ref a4, .ref a5, .int 0, .ref a6, .ref a7, .ref a8, .ref a9, .ref a10, .ref a11, .ref a12, .ref a13, .int 9, .int 0, .int 0])), (a6, .inl (Z.2 4, 4, .inr (.inr (.inr (.inr (fun _ => none))))))]) [0, 1] (by decide) rfl
  have hFc := va_free (wc := [(x0, .inr (8, [.ref a1, .ref a2, .ref a3, .ref a4, .ref a5, .int 0, .ref a6, .ref a7, .ref a8, .ref a9, .ref a10, .ref a11, .ref a12, .ref a13, .int 9, .int 0, .int 0])), (a6, .inl (Z.2 4, 4, .inr (.inr (.inr (.inr (fun _ => none))))))]) hD hS hA [0, 1] rfl
  refine va_calli (va_runV (As := [.int (xs 1), .int (xs 2), .int (xs 3), .int (xs 4), .int (xs 5)]) (rest := []) ⟨hx, hb, hml, hown, hts⟩ (c_X8_copy l Z H.size x0 a1 a2 a3 a4 a5 a6 a7 a8 a9 a10 a11 a12 a13 (xs 1) (xs 2) (xs 3) (xs 4) (xs 5)) (cwV 5 hts gL_law_X8_copy rfl rfl rfl (by decide +kernel) ⟨Nat.le_of_ble_eq_true rfl, Nat.le_of_ble_eq_true rfl⟩) ⟨fun a U g mk q => by obtain ⟨q0, q1, qP, qK, qD⟩ := q; exact ⟨q0, q1, qP, va_K.moved (u := U) (U := U.calling g mk a) (Vm.Alike.refl U.vm) qK, qD⟩, va_recv hK hPc (ci := 8) (q0 := 0) rfl rfl, fun U hU hW => ⟨rfl, by rw [hU], by rw [hU]; exact hPc, va_K.moved hW.alike hK, hDc.weaken (fun _ _ _ _ => trivial)⟩⟩ rfl rfl hl.1 rfl (lv_room (Nat.le_of_ble_eq_true rfl)) dL_law_1017 ⟨Nat.le_of_ble_eq_true rfl, Nat.le_of_ble_eq_true rfl⟩) hS (fun q _ h => hFc q h) hFc (fun r_11 u t H1 locs ht hvm hw hB hz1 hk1 hS => ?_)
  subst hw
  have hP1 : va_P Z.1 vwCl [] H1 := fun k q h => by simp at h
  have hD1 : va_D (va_A [(x0, .inr (8, [.ref a1, .ref a2, .ref a3, .ref a4, .ref a5, .int 0, .ref a6, .ref a7, .ref a8, .ref a9, .ref a10, .ref a11, .ref a12, .ref a13, .int 9, .int 0, .int 0])), (a6, .inl (Z.2 4, 4, .inr (.inr (.inr (.inr (fun _ => none))))))] H.size) [] := ⟨fun i j p q h => by simp at h, fun k q h => by simp at h⟩
  obtain ⟨hP, hD⟩ := va_join (wr := [(m0, .inr (9, [.ref b1, .ref b2, .ref b3, .ref b4, .int 0, .ref b5, .int 0, .ref b6, .ref b7, .ref b8, .int 0, .int 0, .int 0, .ref b9, .ref b10, .ref b11, .ref b12, .ref b13, .ref b14, .ref b15, .ref b16, .ref b17, .ref b18, .int 0, .ref b19, .ref b20, .ref b21, .ref b22, .ref b23, .ref b24, .ref b25])), (b20, .inl (Z.2 0, 4, .inl fl))]) (w1 := []) hP hD [0, 1] [2, 3] rfl rfl (by decide) (by decide) hk1 hFc hP1 hD1
  clear hPc hDc hP1 hD1 hk1 hz1 hFc ht hvm
  generalize H1 = H at hP hS ⊢
  have hP : va_P Z.1 vwCl [(m0, .inr (9, [.ref b1, .ref b2, .ref b3, .ref b4, .int 0, .ref b5, .int 0, .ref b6, .ref b7, .ref b8, .int 0, .int 0, .int 0, .ref b9, .ref b10, .ref b11, .ref b12, .ref b13, .ref b14, .ref b15, .ref b16, .ref b17, .ref b18, .int 0, .ref b19, .ref b20, .ref b21, .ref b22, .ref b23, .ref b24, .ref b25])), (b20, .inl (Z.2 0, 4, .inl fl))] H := hP
  have hD : va_D A [(m0, .inr (9, [.ref b1, .ref b2, .ref b3, .ref b4, .int 0, .ref b5, .int 0, .ref b6, .ref b7, .ref b8, .int 0, .int 0, .int 0, .ref b9, .ref b10, .ref b11, .ref b12, .ref b13, .ref b14, .ref b15, .ref b16, .ref b17, .ref b18, .int 0, .ref b19, .ref b20, .ref b21, .ref b22, .ref b23, .ref b24, .ref b25])), (b20, .inl (Z.2 0, 4, .inl fl))] := hD
  refine lv_aload_n hx hb dL_law_1020 rfl (lv_at hl 2 rfl) ?_
  refine lv_aload_n hx hb dL_law_1021 rfl (lv_at hl 0 rfl) ?_
  refine lv_iload_n hx hb dL_law_1022 rfl (lv_at hl 3 rfl) ?_
  refine lv_iconst (v := 1) hx hb dL_law_1023 (by decide) ?_
  refine lv_iadd hx hb dL_law_1024 ?_
  refine lv_topi (fun f_12 ef_12 => ?_)
  obtain rfl : f_12 = 1 := ef_12.trans (by decide)
  refine va_sld hx hb hX hbl hbA hS (z_in (by decide)) dL_law_1025 ?_
  refine lv_topi (fun f_13 ef_13 => ?_)
  obtain rfl : f_13 = xs 1 := ef_13
  refine lv_aload_n hx hb dL_law_1026 rfl (lv_at hl 0 rfl) ?_
  refine lv_iload_n hx hb dL_law_1027 rfl (lv_at hl 3 rfl) ?_
  refine lv_iconst (v := 2) hx hb dL_law_1028 (by decide) ?_
  refine lv_iadd hx hb dL_law_1029 ?_
  refine lv_topi (fun f_14 ef_14 => ?_)
  obtain rfl : f_14 = 2 := ef_14.trans (by decide)
  refine va_sld hx hb hX hbl hbA hS (z_in (by decide)) dL_law_1030 ?_
  refine lv_topi (fun f_15 ef_15 => ?_)
  obtain rfl : f_15 = xs 2 := ef_15
  refine lv_aload_n hx hb dL_law_1031 rfl (lv_at hl 0 rfl) ?_
  refine lv_iload_n hx hb dL_law_1032 rfl (lv_at hl 3 rfl) ?_
  refine lv_iconst (v := 3) hx hb dL_law_1033 (by decide) ?_
  refine lv_iadd hx hb dL_law_1034 ?_
  refine lv_topi (fun f_16 ef_16 => ?_)
  obtain rfl : f_16 = 3 := ef_16.trans (by decide)
  refine va_sld hx hb hX hbl hbA hS (z_in (by decide)) dL_law_1035 ?_
  refine lv_topi (fun f_17 ef_17 => ?_)
  obtain rfl : f_17 = xs 3 := ef_17
  refine lv_aload_n hx hb dL_law_1036 rfl (lv_at hl 0 rfl) ?_
  refine lv_iload_n hx hb dL_law_1037 rfl (lv_at hl 3 rfl) ?_
  refine lv_iconst (v := 4) hx hb dL_law_1038 (by decide) ?_
  refine lv_iadd hx hb dL_law_1039 ?_
  refine lv_topi (fun f_18 ef_18 => ?_)
  obtain rfl : f_18 = 4 := ef_18.trans (by decide)
  refine va_sld hx hb hX hbl hbA hS (z_in (by decide)) dL_law_1040 ?_
  refine lv_topi (fun f_19 ef_19 => ?_)
  obtain rfl : f_19 = xs 4 := ef_19
  refine lv_aload_n hx hb dL_law_1041 rfl (lv_at hl 0 rfl) ?_
  refine lv_iload_n hx hb dL_law_1042 rfl (lv_at hl 3 rfl) ?_
  refine lv_iconst (v := 5) hx hb dL_law_1043 (by decide) ?_
  refine lv_iadd hx hb dL_law_1044 ?_
  refine lv_topi (fun f_20 ef_20 => ?_)
  obtain rfl : f_20 = 5 := ef_20.trans (by decide)
  refine va_sld hx hb hX hbl hbA hS (z_in (by decide)) dL_law_1045 ?_
  refine lv_topi (fun f_21 ef_21 => ?_)
  obtain rfl : f_21 = xs 5 := ef_21
  have hPc := hP.sub (ws' := [(m0, .inr (9, [.ref b1, .ref b2, .ref b3, .ref b4, .int 0, .ref b5, .int 0, .ref b6, .ref b7, .ref b8, .int 0, .int 0, .int 0, .ref b9, .ref b10, .ref b11, .ref b12, .ref b13, .ref b14, .ref b15, .ref b16, .ref b17, .ref b18, .int 0, .ref b19, .ref b20, .ref b21, .ref b22, .ref b23, .ref b24, .ref b25])), (b20, .inl (Z.2 0, 4, .inl fl))]) [0, 1] rfl
  have hDc := hD.sub (ws' := [(m0, .inr (9, [.ref b1, .ref b2, .ref b3, .ref b4, .int 0, .ref b5, .int 0, .ref b6, .ref b7, .ref b8, .int 0, .int 0, .int 0, .ref b9, .ref b10, .ref b11, .ref b12, .ref b13, .ref b14, .ref b15, .ref b16, .ref b17, .ref b18, .int 0, .ref b19, .ref b20, .ref b21, .ref b22, .ref b23, .ref b24, .ref b25])), (b20, .inl (Z.2 0, 4, .inl fl))]) [0, 1] (by decide) rfl
  have hFc := va_free (wc := [(m0, .inr (9, [.ref b1, .ref b2, .ref b3, .ref b4, .int 0, .ref b5, .int 0, .ref b6, .ref b7, .ref b8, .int 0, .int 0, .int 0, .ref b9, .ref b10, .ref b11, .ref b12, .ref b13, .ref b14, .ref b15, .ref b16, .ref b17, .ref b18, .int 0, .ref b19, .ref b20, .ref b21, .ref b22, .ref b23, .ref b24, .ref b25])), (b20, .inl (Z.2 0, 4, .inl fl))]) hD hS hA [0, 1] rfl
  refine va_calli (va_runV (As := [.int (xs 1), .int (xs 2), .int (xs 3), .int (xs 4), .int (xs 5)]) (rest := [.int (if (if (xs 1) < 0 then (0 : Int32) else (if 4 ≤ (xs 1) then (0 : Int32) else (1 : Int32))) = 0 then (-1 : Int32) else (if (if (xs 3) < 0 then (0 : Int32) else (if 4 ≤ (xs 3) then (0 : Int32) else (1 : Int32))) = 0 then (-1 : Int32) else (-11 : Int32)))]) ⟨hx, hb, hml, hown, hts⟩ (c_X9_copy l Z H.size m0 b1 b2 b3 b4 b5 b6 b7 b8 b9 b10 b11 b12 b13 b14 b15 b16 b17 b18 b19 b20 b21 b22 b23 b24 b25 fl (xs 1) (xs 2) (xs 3) (xs 4) (xs 5) (hfl)) (cwV 5 hts gL_law_X9_copy rfl rfl rfl (by decide +kernel) ⟨Nat.le_of_ble_eq_true rfl, Nat.le_of_ble_eq_true rfl⟩) ⟨fun a U g mk q => by obtain ⟨q0, q1, qP, qK, qD⟩ := q; exact ⟨q0, q1, qP, va_K.moved (u := U) (U := U.calling g mk a) (Vm.Alike.refl U.vm) qK, qD⟩, va_recv hK hPc (ci := 9) (q0 := 0) rfl rfl, fun U hU hW => ⟨rfl, by rw [hU], by rw [hU]; exact hPc, va_K.moved hW.alike hK, hDc.weaken (fun _ _ _ _ => trivial)⟩⟩ rfl rfl hl.1 rfl (lv_room (Nat.le_of_ble_eq_true rfl)) dL_law_1046 ⟨Nat.le_of_ble_eq_true rfl, Nat.le_of_ble_eq_true rfl⟩) hS (fun q _ h => hFc q h) hFc (fun r_22 u t H1 locs ht hvm hw hB hz1 hk1 hS => ?_)
  subst hw
  have hP1 : va_P Z.1 vwCl [] H1 := fun k q h => by simp at h
  have hD1 : va_D (va_A [(m0, .inr (9, [.ref b1, .ref b2, .ref b3, .ref b4, .int 0, .ref b5, .int 0, .ref b6, .ref b7, .ref b8, .int 0, .int 0, .int 0, .ref b9, .ref b10, .ref b11, .ref b12, .ref b13, .ref b14, .ref b15, .ref b16, .ref b17, .ref b18, .int 0, .ref b19, .ref b20, .ref b21, .ref b22, .ref b23, .ref b24, .ref b25])), (b20, .inl (Z.2 0, 4, .inl fl))] H.size) [] := ⟨fun i j p q h => by simp at h, fun k q h => by simp at h⟩
  obtain ⟨hP, hD⟩ := va_join (wr := []) (w1 := []) hP hD [0, 1] [] rfl rfl (by decide) (by decide) hk1 hFc hP1 hD1
  clear hPc hDc hP1 hD1 hk1 hz1 hFc ht hvm
  generalize H1 = H at hP hS ⊢
  have hP : va_P Z.1 vwCl [] H := hP
  have hD : va_D A [] := hD
  refine lv_icmp_eq (tgt := 1054) hx hb dL_law_1049 (by decide) (fun _ => ?_) (fun c9 => absurd (eq_copy (xs 1) (xs 3)) c9)
  exact law_tail C0 hAe (Nat.le_of_ble_eq_true rfl) (Nat.le_of_ble_eq_true rfl) hS (lv_sub hl [0, 3] rfl)
