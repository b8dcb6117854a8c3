set_option maxHeartbeats 4000000 in
set_option maxRecDepth 100000 in
theorem c_X0_newRow_9 (l : Launch) (Z : gZ) (sz : Nat)   : Met l yX0_newRow wsX0_newRow ({ frames := 2, cells := 28, slots := 144, locals := 48 }) (va_Pc [.int 9] (fun U => U.heap.size = sz ∧ va_P Z.1 vwCl [] U.heap ∧ va_K Z.1 vwCl (gT Z) U ∧ va_D (fun _ => True) [] ∧ gN Z U)) (va_Qr (fun (u : Unit) => True) (fun (u : Unit) (r : Nat) (t : State) => True) (va_A [] sz)) 28 144 (va_A [] sz) := by
  refine Met.ofW (cc := cX0_newRow) (maxL := 3) (ret := (some (.array (.object "HalfAsked$Folk")))) (by decide) rfl ?_
  intro p e s m args below meth c s₁ B hml hv
  obtain ⟨rfl, hsz, hP, hK, hD0, hN⟩ := hv
  have hx := B.exec
  have hb := B.bytes
  have hr := B.returns
  have hts := atoms_spec (ws := wsX0_newRow) B.pre
  have hown : s.vm.findClass RX0 = some m.cls := findClass_of_methodNamed B.named
  have hlocks := B.notSynchronized
  subst hsz
  have hin0 : ∀ w ∈ wsX00, w ∈ wsX0_newRow := by decide +kernel
  have hD := hD0.self (sz := s.heap.size)
  generalize hAe : va_A [] s.heap.size = A at hD ⊢
  have hA : ∀ q : Nat, s.heap.size ≤ q → A q := fun q h => by rw [← hAe]; exact Or.inr h
  have hS : va_S A s.heap s.heap [] := va_S.rf
  have hP : va_P Z.1 vwCl [] s.heap := hP
  have hl := lv_entry ([.int 9]) (n := 3) (Nat.le_of_ble_eq_true rfl)
  rw [lg_entry_eq]
  generalize (lg_sl ([.int 9]) ++ List.replicate (3 - (lg_sl ([.int 9])).length) Slot.unset).toArray = ls at hl ⊢
  have hl : lv_has ls 3 [(0, .int 9)] := hl
  refine lv_iconst (v := 0) hx hb dX0_newRow_0 (by decide) ?_
  refine lv_iload_n hx hb dX0_newRow_1 rfl (lv_at hl 0 rfl) ?_
  refine va_mmax hx hb (hml.trans hl.1.symm) hown (hts (.methodLink RX0 29 Lib.Math.max.name) (by decide +kernel)) (hts (.static Lib.Math.max.name) (by decide +kernel)) (hts (.initialized "java/lang/Math") (by decide +kernel)) (hts (.code Lib.Math.max.name Lib.Math.max.code 2 (some .int)) (by decide +kernel)) (Nat.le_of_ble_eq_true rfl) (Nat.le_of_ble_eq_true rfl) (Nat.le_of_ble_eq_true rfl) (Nat.le_of_ble_eq_true rfl) dX0_newRow_2 ?_
  refine lv_topi (fun f_1 ef_1 => ?_)
  obtain rfl : f_1 = 9 := ef_1.trans (by decide)
  refine z_newFolk (N' := 9) hx hb hown (hts (.classLink RX0 10 RX0) (by decide +kernel)) hN hK hP hD hS hA (by decide) (by decide) (Nat.le_of_ble_eq_true rfl) (Nat.le_of_ble_eq_true rfl) (Nat.le_of_ble_eq_true rfl) dX0_newRow_5 (fun q_2 H hP hD hS => ?_)
  have hP : va_P Z.1 vwCl [(q_2, .inl (Z.2 3, 9, .inr (.inr (.inr (.inr (fun _ => none))))))] H := hP
  have hD : va_D A [(q_2, .inl (Z.2 3, 9, .inr (.inr (.inr (.inr (fun _ => none))))))] := hD
  refine W.widen (k := 1) (n := 9) (Nat.le_of_ble_eq_true rfl) (Nat.le_of_ble_eq_true rfl) ?_
  refine lv_astore_n (lv' := [(1, .ref q_2), (0, .int 9)]) hx hb dX0_newRow_8 rfl hl (by decide) rfl (fun ls hl => ?_)
  refine lv_iconst (v := 0) hx hb dX0_newRow_9 (by decide) ?_
  refine lv_istore_n (lv' := [(2, .int 0), (1, .ref q_2), (0, .int 9)]) hx hb dX0_newRow_10 rfl hl (by decide) rfl (fun ls hl => ?_)
  refine lv_iload_n hx hb dX0_newRow_11 rfl (lv_at hl 0 rfl) ?_
  refine lv_aload_n hx hb dX0_newRow_12 rfl (lv_at hl 1 rfl) ?_
  refine va_alen (v := 9) hx hb hK hP 0 3 rfl rfl (show Int32.ofNat 9 = 9 by decide) dX0_newRow_13 ?_
  refine lv_icmp_ge (tgt := 33) hx hb dX0_newRow_14 (by decide) (fun c9 => absurd c9 (by decide)) (fun _ => ?_)
  refine lv_aload_n hx hb dX0_newRow_17 rfl (lv_at hl 1 rfl) ?_
  refine lv_iload_n hx hb dX0_newRow_18 rfl (lv_at hl 0 rfl) ?_
  refine va_new (ci := 0) (fs := [.int 0, .int 0, .int 0, .null, .null]) (C := RX0) (T := TX0) (N := 5) hx hb hts hin0 tyX0 tyX0_ok hown (hts (.classLink RX0 10 RX0) (by decide +kernel)) (hts (.instantiable RX0 5) (by decide +kernel)) (hts (.initialized RX0) (by decide +kernel)) hK hP hD hS hA rfl (fun j hj => by rcases (show j = 0 ∨ j = 1 ∨ j = 2 ∨ j = 3 ∨ j = 4 by omega) with rfl | rfl | rfl | rfl | rfl <;> rfl) (Nat.le_of_ble_eq_true rfl) (Nat.le_of_ble_eq_true rfl) dX0_newRow_19 (fun q_3 H hP hD hS => ?_)
  have hP : va_P Z.1 vwCl [(q_2, .inl (Z.2 3, 9, .inr (.inr (.inr (.inr (fun _ => none)))))), (q_3, .inr (0, [.int 0, .int 0, .int 0, .null, .null]))] H := hP
  have hD : va_D A [(q_2, .inl (Z.2 3, 9, .inr (.inr (.inr (.inr (fun _ => none)))))), (q_3, .inr (0, [.int 0, .int 0, .int 0, .null, .null]))] := hD
  refine W.widen (k := 2) (n := 14) (Nat.le_of_ble_eq_true rfl) (Nat.le_of_ble_eq_true rfl) ?_
  refine lv_dup hx hb dX0_newRow_22 rfl ?_
  have hPc := hP.sub (ws' := [(q_3, .inr (0, [.int 0, .int 0, .int 0, .null, .null]))]) [1] rfl
  have hDc := hD.sub (ws' := [(q_3, .inr (0, [.int 0, .int 0, .int 0, .null, .null]))]) [1] (by decide) rfl
  have hFc := va_free (wc := [(q_3, .inr (0, [.int 0, .int 0, .int 0, .null, .null]))]) hD hS hA [1] rfl
  refine va_callv (va_runI (As := []) (rest := [.ref q_3, .int 0, .ref q_2]) ⟨hx, hb, hml, hown, hts⟩ (c_X0_init l Z H.size q_3) (cwI 0 hts gX0_newRow_X0_init rfl rfl rfl (hts (.initialized RX0) (by decide +kernel)) (hts (.methodLink RX0 35 yX0_init) (by decide +kernel)) (hts (.instanceMethod yX0_init) (by decide +kernel)) rfl (by decide +kernel) ⟨Nat.le_of_ble_eq_true rfl, Nat.le_of_ble_eq_true rfl⟩) ⟨fun a U g mk q => by obtain ⟨q0, q1, qP, qK, qD⟩ := q; exact ⟨q0, q1, qP, va_K.moved (u := U) (U := U.calling g mk a) (Vm.Alike.refl U.vm) qK, qD⟩, fun U hU hW => ⟨rfl, by rw [hU], by rw [hU]; exact hPc, va_K.moved hW.alike hK, hDc.weaken (fun _ _ _ _ => trivial)⟩⟩ rfl rfl hl.1 rfl (lv_room (Nat.le_of_ble_eq_true rfl)) dX0_newRow_23 ⟨Nat.le_of_ble_eq_true rfl, Nat.le_of_ble_eq_true rfl⟩) hS (fun q _ h => hFc q h) hFc (fun u t H1 locs ht hvm hw hB hz1 hk1 hS => ?_)
  obtain ⟨k_5, q_6⟩ := u
  try dsimp only at hw hB
  obtain ⟨hP1, hD1⟩ := hB
  rw [ht] at hP1
  obtain ⟨hP, hD⟩ := va_join (wr := [(q_2, .inl (Z.2 3, 9, .inr (.inr (.inr (.inr (fun _ => none))))))]) (w1 := [(q_3, .inr (0, [.int 0, .int 16510910, .int 0, .ref k_5, .ref q_6])), (k_5, .inl (Z.2 0, 5, .inl (fun _ => 0))), (q_6, .inl (Z.2 0, 5, .inl (fun _ => 0)))]) hP hD [1] [0] rfl rfl (by decide) (by decide) hk1 hFc hP1 hD1
  clear hPc hDc hP1 hD1 hk1 hz1 hFc ht hvm
  generalize H1 = H at hP hS ⊢
  have hP : va_P Z.1 vwCl [(q_2, .inl (Z.2 3, 9, .inr (.inr (.inr (.inr (fun _ => none)))))), (q_3, .inr (0, [.int 0, .int 16510910, .int 0, .ref k_5, .ref q_6])), (k_5, .inl (Z.2 0, 5, .inl (fun _ => 0))), (q_6, .inl (Z.2 0, 5, .inl (fun _ => 0)))] H := hP
  have hD : va_D A [(q_2, .inl (Z.2 3, 9, .inr (.inr (.inr (.inr (fun _ => none)))))), (q_3, .inr (0, [.int 0, .int 16510910, .int 0, .ref k_5, .ref q_6])), (k_5, .inl (Z.2 0, 5, .inl (fun _ => 0))), (q_6, .inl (Z.2 0, 5, .inl (fun _ => 0)))] := hD
  refine W.widen (k := 4) (n := 24) (Nat.le_of_ble_eq_true rfl) (Nat.le_of_ble_eq_true rfl) ?_
  refine va_astq (r := (RX0, TX0, 5)) hx hb hK hP hD hS 0 3 1 0 rfl rfl rfl rfl (z_in (by decide)) dX0_newRow_26 (fun H locs hP hD hS => ?_)
  have hP : va_P Z.1 vwCl [(q_2, .inl (Z.2 3, 9, .inr (.inr (.inr (.inr (va_up (fun _ => none) 0 (some q_3))))))), (q_3, .inr (0, [.int 0, .int 16510910, .int 0, .ref k_5, .ref q_6])), (k_5, .inl (Z.2 0, 5, .inl (fun _ => 0))), (q_6, .inl (Z.2 0, 5, .inl (fun _ => 0)))] H := hP
  have hD : va_D A [(q_2, .inl (Z.2 3, 9, .inr (.inr (.inr (.inr (va_up (fun _ => none) 0 (some q_3))))))), (q_3, .inr (0, [.int 0, .int 16510910, .int 0, .ref k_5, .ref q_6])), (k_5, .inl (Z.2 0, 5, .inl (fun _ => 0))), (q_6, .inl (Z.2 0, 5, .inl (fun _ => 0)))] := hD
  generalize (va_up (fun _ => none) 0 (some q_3) : Nat → Option Nat) = g_7 at hP hD
  have hP := hP.sub (ws' := [(q_2, .inl (Z.2 3, 9, .inr (.inr (.inr (.inr g_7)))))]) [0] rfl
  have hD := hD.sub (ws' := [(q_2, .inl (Z.2 3, 9, .inr (.inr (.inr (.inr g_7)))))]) [0] (by decide) rfl
  refine lv_iinc (v := 1) (lv' := [(2, .int 1), (1, .ref q_2), (0, .int 9)]) hx hb dX0_newRow_27 hl (k := 0) rfl (by decide) (by decide) rfl (fun ls hl => ?_)
  refine lv_goto (tgt := 11) hx hb dX0_newRow_30 (by decide) ?_
  refine lv_iload_n hx hb dX0_newRow_11 rfl (lv_at hl 0 rfl) ?_
  refine lv_aload_n hx hb dX0_newRow_12 rfl (lv_at hl 1 rfl) ?_
  refine va_alen (v := 9) hx hb hK hP 0 3 rfl rfl (show Int32.ofNat 9 = 9 by decide) dX0_newRow_13 ?_
  refine lv_icmp_ge (tgt := 33) hx hb dX0_newRow_14 (by decide) (fun c9 => absurd c9 (by decide)) (fun _ => ?_)
  refine lv_aload_n hx hb dX0_newRow_17 rfl (lv_at hl 1 rfl) ?_
  refine lv_iload_n hx hb dX0_newRow_18 rfl (lv_at hl 0 rfl) ?_
  refine va_new (ci := 0) (fs := [.int 0, .int 0, .int 0, .null, .null]) (C := RX0) (T := TX0) (N := 5) hx hb hts hin0 tyX0 tyX0_ok hown (hts (.classLink RX0 10 RX0) (by decide +kernel)) (hts (.instantiable RX0 5) (by decide +kernel)) (hts (.initialized RX0) (by decide +kernel)) hK hP hD hS hA rfl (fun j hj => by rcases (show j = 0 ∨ j = 1 ∨ j = 2 ∨ j = 3 ∨ j = 4 by omega) with rfl | rfl | rfl | rfl | rfl <;> rfl) (Nat.le_of_ble_eq_true rfl) (Nat.le_of_ble_eq_true rfl) dX0_newRow_19 (fun q_8 H hP hD hS => ?_)
  have hP : va_P Z.1 vwCl [(q_2, .inl (Z.2 3, 9, .inr (.inr (.inr (.inr g_7))))), (q_8, .inr (0, [.int 0, .int 0, .int 0, .null, .null]))] H := hP
  have hD : va_D A [(q_2, .inl (Z.2 3, 9, .inr (.inr (.inr (.inr g_7))))), (q_8, .inr (0, [.int 0, .int 0, .int 0, .null, .null]))] := hD
  refine W.widen (k := 5) (n := 29) (Nat.le_of_ble_eq_true rfl) (Nat.le_of_ble_eq_true rfl) ?_
  refine lv_dup hx hb dX0_newRow_22 rfl ?_
  have hPc := hP.sub (ws' := [(q_8, .inr (0, [.int 0, .int 0, .int 0, .null, .null]))]) [1] rfl
  have hDc := hD.sub (ws' := [(q_8, .inr (0, [.int 0, .int 0, .int 0, .null, .null]))]) [1] (by decide) rfl
  have hFc := va_free (wc := [(q_8, .inr (0, [.int 0, .int 0, .int 0, .null, .null]))]) hD hS hA [1] rfl
  refine va_callv (va_runI (As := []) (rest := [.ref q_8, .int 1, .ref q_2]) ⟨hx, hb, hml, hown, hts⟩ (c_X0_init l Z H.size q_8) (cwI 0 hts gX0_newRow_X0_init rfl rfl rfl (hts (.initialized RX0) (by decide +kernel)) (hts (.methodLink RX0 35 yX0_init) (by decide +kernel)) (hts (.instanceMethod yX0_init) (by decide +kernel)) rfl (by decide +kernel) ⟨Nat.le_of_ble_eq_true rfl, Nat.le_of_ble_eq_true rfl⟩) ⟨fun a U g mk q => by obtain ⟨q0, q1, qP, qK, qD⟩ := q; exact ⟨q0, q1, qP, va_K.moved (u := U) (U := U.calling g mk a) (Vm.Alike.refl U.vm) qK, qD⟩, fun U hU hW => ⟨rfl, by rw [hU], by rw [hU]; exact hPc, va_K.moved hW.alike hK, hDc.weaken (fun _ _ _ _ => trivial)⟩⟩ rfl rfl hl.1 rfl (lv_room (Nat.le_of_ble_eq_true rfl)) dX0_newRow_23 ⟨Nat.le_of_ble_eq_true rfl, Nat.le_of_ble_eq_true rfl⟩) hS (fun q _ h => hFc q h) hFc (fun u t H1 locs ht hvm hw hB hz1 hk1 hS => ?_)
  obtain ⟨k_10, q_11⟩ := u
  try dsimp only at hw hB
  obtain ⟨hP1, hD1⟩ := hB
  rw [ht] at hP1
  obtain ⟨hP, hD⟩ := va_join (wr := [(q_2, .inl (Z.2 3, 9, .inr (.inr (.inr (.inr g_7)))))]) (w1 := [(q_8, .inr (0, [.int 0, .int 16510910, .int 0, .ref k_10, .ref q_11])), (k_10, .inl (Z.2 0, 5, .inl (fun _ => 0))), (q_11, .inl (Z.2 0, 5, .inl (fun _ => 0)))]) hP hD [1] [0] rfl rfl (by decide) (by decide) hk1 hFc hP1 hD1
  clear hPc hDc hP1 hD1 hk1 hz1 hFc ht hvm
  generalize H1 = H at hP hS ⊢
  have hP : va_P Z.1 vwCl [(q_2, .inl (Z.2 3, 9, .inr (.inr (.inr (.inr g_7))))), (q_8, .inr (0, [.int 0, .int 16510910, .int 0, .ref k_10, .ref q_11])), (k_10, .inl (Z.2 0, 5, .inl (fun _ => 0))), (q_11, .inl (Z.2 0, 5, .inl (fun _ => 0)))] H := hP
  have hD : va_D A [(q_2, .inl (Z.2 3, 9, .inr (.inr (.inr (.inr g_7))))), (q_8, .inr (0, [.int 0, .int 16510910, .int 0, .ref k_10, .ref q_11])), (k_10, .inl (Z.2 0, 5, .inl (fun _ => 0))), (q_11, .inl (Z.2 0, 5, .inl (fun _ => 0)))] := hD
  refine W.widen (k := 7) (n := 39) (Nat.le_of_ble_eq_true rfl) (Nat.le_of_ble_eq_true rfl) ?_
  refine va_astq (r := (RX0, TX0, 5)) hx hb hK hP hD hS 0 3 1 0 rfl rfl rfl rfl (z_in (by decide)) dX0_newRow_26 (fun H locs hP hD hS => ?_)
  have hP : va_P Z.1 vwCl [(q_2, .inl (Z.2 3, 9, .inr (.inr (.inr (.inr (va_up g_7 1 (some q_8))))))), (q_8, .inr (0, [.int 0, .int 16510910, .int 0, .ref k_10, .ref q_11])), (k_10, .inl (Z.2 0, 5, .inl (fun _ => 0))), (q_11, .inl (Z.2 0, 5, .inl (fun _ => 0)))] H := hP
  have hD : va_D A [(q_2, .inl (Z.2 3, 9, .inr (.inr (.inr (.inr (va_up g_7 1 (some q_8))))))), (q_8, .inr (0, [.int 0, .int 16510910, .int 0, .ref k_10, .ref q_11])), (k_10, .inl (Z.2 0, 5, .inl (fun _ => 0))), (q_11, .inl (Z.2 0, 5, .inl (fun _ => 0)))] := hD
  generalize (va_up g_7 1 (some q_8) : Nat → Option Nat) = g_12 at hP hD
  have hP := hP.sub (ws' := [(q_2, .inl (Z.2 3, 9, .inr (.inr (.inr (.inr g_12)))))]) [0] rfl
  have hD := hD.sub (ws' := [(q_2, .inl (Z.2 3, 9, .inr (.inr (.inr (.inr g_12)))))]) [0] (by decide) rfl
  refine lv_iinc (v := 2) (lv' := [(2, .int 2), (1, .ref q_2), (0, .int 9)]) hx hb dX0_newRow_27 hl (k := 0) rfl (by decide) (by decide) rfl (fun ls hl => ?_)
  refine lv_goto (tgt := 11) hx hb dX0_newRow_30 (by decide) ?_
  refine lv_iload_n hx hb dX0_newRow_11 rfl (lv_at hl 0 rfl) ?_
  refine lv_aload_n hx hb dX0_newRow_12 rfl (lv_at hl 1 rfl) ?_
  refine va_alen (v := 9) hx hb hK hP 0 3 rfl rfl (show Int32.ofNat 9 = 9 by decide) dX0_newRow_13 ?_
  refine lv_icmp_ge (tgt := 33) hx hb dX0_newRow_14 (by decide) (fun c9 => absurd c9 (by decide)) (fun _ => ?_)
  refine lv_aload_n hx hb dX0_newRow_17 rfl (lv_at hl 1 rfl) ?_
  refine lv_iload_n hx hb dX0_newRow_18 rfl (lv_at hl 0 rfl) ?_
  refine va_new (ci := 0) (fs := [.int 0, .int 0, .int 0, .null, .null]) (C := RX0) (T := TX0) (N := 5) hx hb hts hin0 tyX0 tyX0_ok hown (hts (.classLink RX0 10 RX0) (by decide +kernel)) (hts (.instantiable RX0 5) (by decide +kernel)) (hts (.initialized RX0) (by decide +kernel)) hK hP hD hS hA rfl (fun j hj => by rcases (show j = 0 ∨ j = 1 ∨ j = 2 ∨ j = 3 ∨ j = 4 by omega) with rfl | rfl | rfl | rfl | rfl <;> rfl) (Nat.le_of_ble_eq_true rfl) (Nat.le_of_ble_eq_true rfl) dX0_newRow_19 (fun q_13 H hP hD hS => ?_)
  have hP : va_P Z.1 vwCl [(q_2, .inl (Z.2 3, 9, .inr (.inr (.inr (.inr g_12))))), (q_13, .inr (0, [.int 0, .int 0, .int 0, .null, .null]))] H := hP
  have hD : va_D A [(q_2, .inl (Z.2 3, 9, .inr (.inr (.inr (.inr g_12))))), (q_13, .inr (0, [.int 0, .int 0, .int 0, .null, .null]))] := hD
  refine W.widen (k := 8) (n := 44) (Nat.le_of_ble_eq_true rfl) (Nat.le_of_ble_eq_true rfl) ?_
  refine lv_dup hx hb dX0_newRow_22 rfl ?_
  have hPc := hP.sub (ws' := [(q_13, .inr (0, [.int 0, .int 0, .int 0, .null, .null]))]) [1] rfl
  have hDc := hD.sub (ws' := [(q_13, .inr (0, [.int 0, .int 0, .int 0, .null, .null]))]) [1] (by decide) rfl
  have hFc := va_free (wc := [(q_13, .inr (0, [.int 0, .int 0, .int 0, .null, .null]))]) hD hS hA [1] rfl
  refine va_callv (va_runI (As := []) (rest := [.ref q_13, .int 2, .ref q_2]) ⟨hx, hb, hml, hown, hts⟩ (c_X0_init l Z H.size q_13) (cwI 0 hts gX0_newRow_X0_init rfl rfl rfl (hts (.initialized RX0) (by decide +kernel)) (hts (.methodLink RX0 35 yX0_init) (by decide +kernel)) (hts (.instanceMethod yX0_init) (by decide +kernel)) rfl (by decide +kernel) ⟨Nat.le_of_ble_eq_true rfl, Nat.le_of_ble_eq_true rfl⟩) ⟨fun a U g mk q => by obtain ⟨q0, q1, qP, qK, qD⟩ := q; exact ⟨q0, q1, qP, va_K.moved (u := U) (U := U.calling g mk a) (Vm.Alike.refl U.vm) qK, qD⟩, fun U hU hW => ⟨rfl, by rw [hU], by rw [hU]; exact hPc, va_K.moved hW.alike hK, hDc.weaken (fun _ _ _ _ => trivial)⟩⟩ rfl rfl hl.1 rfl (lv_room (Nat.le_of_ble_eq_true rfl)) dX0_newRow_23 ⟨Nat.le_of_ble_eq_true rfl, Nat.le_of_ble_eq_true rfl⟩) hS (fun q _ h => hFc q h) hFc (fun u t H1 locs ht hvm hw hB hz1 hk1 hS => ?_)
  obtain ⟨k_15, q_16⟩ := u
  try dsimp only at hw hB
  obtain ⟨hP1, hD1⟩ := hB
  rw [ht] at hP1
  obtain ⟨hP, hD⟩ := va_join (wr := [(q_2, .inl (Z.2 3, 9, .inr (.inr (.inr (.inr g_12)))))]) (w1 := [(q_13, .inr (0, [.int 0, .int 16510910, .int 0, .ref k_15, .ref q_16])), (k_15, .inl (Z.2 0, 5, .inl (fun _ => 0))), (q_16, .inl (Z.2 0, 5, .inl (fun _ => 0)))]) hP hD [1] [0] rfl rfl (by decide) (by decide) hk1 hFc hP1 hD1
  clear hPc hDc hP1 hD1 hk1 hz1 hFc ht hvm
  generalize H1 = H at hP hS ⊢
  have hP : va_P Z.1 vwCl [(q_2, .inl (Z.2 3, 9, .inr (.inr (.inr (.inr g_12))))), (q_13, .inr (0, [.int 0, .int 16510910, .int 0, .ref k_15, .ref q_16])), (k_15, .inl (Z.2 0, 5, .inl (fun _ => 0))), (q_16, .inl (Z.2 0, 5, .inl (fun _ => 0)))] H := hP
  have hD : va_D A [(q_2, .inl (Z.2 3, 9, .inr (.inr (.inr (.inr g_12))))), (q_13, .inr (0, [.int 0, .int 16510910, .int 0, .ref k_15, .ref q_16])), (k_15, .inl (Z.2 0, 5, .inl (fun _ => 0))), (q_16, .inl (Z.2 0, 5, .inl (fun _ => 0)))] := hD
  refine W.widen (k := 10) (n := 54) (Nat.le_of_ble_eq_true rfl) (Nat.le_of_ble_eq_true rfl) ?_
  refine va_astq (r := (RX0, TX0, 5)) hx hb hK hP hD hS 0 3 1 0 rfl rfl rfl rfl (z_in (by decide)) dX0_newRow_26 (fun H locs hP hD hS => ?_)
  have hP : va_P Z.1 vwCl [(q_2, .inl (Z.2 3, 9, .inr (.inr (.inr (.inr (va_up g_12 2 (some q_13))))))), (q_13, .inr (0, [.int 0, .int 16510910, .int 0, .ref k_15, .ref q_16])), (k_15, .inl (Z.2 0, 5, .inl (fun _ => 0))), (q_16, .inl (Z.2 0, 5, .inl (fun _ => 0)))] H := hP
  have hD : va_D A [(q_2, .inl (Z.2 3, 9, .inr (.inr (.inr (.inr (va_up g_12 2 (some q_13))))))), (q_13, .inr (0, [.int 0, .int 16510910, .int 0, .ref k_15, .ref q_16])), (k_15, .inl (Z.2 0, 5, .inl (fun _ => 0))), (q_16, .inl (Z.2 0, 5, .inl (fun _ => 0)))] := hD
  generalize (va_up g_12 2 (some q_13) : Nat → Option Nat) = g_17 at hP hD
  have hP := hP.sub (ws' := [(q_2, .inl (Z.2 3, 9, .inr (.inr (.inr (.inr g_17)))))]) [0] rfl
  have hD := hD.sub (ws' := [(q_2, .inl (Z.2 3, 9, .inr (.inr (.inr (.inr g_17)))))]) [0] (by decide) rfl
  refine lv_iinc (v := 3) (lv' := [(2, .int 3), (1, .ref q_2), (0, .int 9)]) hx hb dX0_newRow_27 hl (k := 0) rfl (by decide) (by decide) rfl (fun ls hl => ?_)
  refine lv_goto (tgt := 11) hx hb dX0_newRow_30 (by decide) ?_
  refine lv_iload_n hx hb dX0_newRow_11 rfl (lv_at hl 0 rfl) ?_
  refine lv_aload_n hx hb dX0_newRow_12 rfl (lv_at hl 1 rfl) ?_
  refine va_alen (v := 9) hx hb hK hP 0 3 rfl rfl (show Int32.ofNat 9 = 9 by decide) dX0_newRow_13 ?_
  refine lv_icmp_ge (tgt := 33) hx hb dX0_newRow_14 (by decide) (fun c9 => absurd c9 (by decide)) (fun _ => ?_)
  refine lv_aload_n hx hb dX0_newRow_17 rfl (lv_at hl 1 rfl) ?_
  refine lv_iload_n hx hb dX0_newRow_18 rfl (lv_at hl 0 rfl) ?_
  refine va_new (ci := 0) (fs := [.int 0, .int 0, .int 0, .null, .null]) (C := RX0) (T := TX0) (N := 5) hx hb hts hin0 tyX0 tyX0_ok hown (hts (.classLink RX0 10 RX0) (by decide +kernel)) (hts (.instantiable RX0 5) (by decide +kernel)) (hts (.initialized RX0) (by decide +kernel)) hK hP hD hS hA rfl (fun j hj => by rcases (show j = 0 ∨ j = 1 ∨ j = 2 ∨ j = 3 ∨ j = 4 by omega) with rfl | rfl | rfl | rfl | rfl <;> rfl) (Nat.le_of_ble_eq_true rfl) (Nat.le_of_ble_eq_true rfl) dX0_newRow_19 (fun q_18 H hP hD hS => ?_)
  have hP : va_P Z.1 vwCl [(q_2, .inl (Z.2 3, 9, .inr (.inr (.inr (.inr g_17))))), (q_18, .inr (0, [.int 0, .int 0, .int 0, .null, .null]))] H := hP
  have hD : va_D A [(q_2, .inl (Z.2 3, 9, .inr (.inr (.inr (.inr g_17))))), (q_18, .inr (0, [.int 0, .int 0, .int 0, .null, .null]))] := hD
  refine W.widen (k := 11) (n := 59) (Nat.le_of_ble_eq_true rfl) (Nat.le_of_ble_eq_true rfl) ?_
  refine lv_dup hx hb dX0_newRow_22 rfl ?_
  have hPc := hP.sub (ws' := [(q_18, .inr (0, [.int 0, .int 0, .int 0, .null, .null]))]) [1] rfl
  have hDc := hD.sub (ws' := [(q_18, .inr (0, [.int 0, .int 0, .int 0, .null, .null]))]) [1] (by decide) rfl
  have hFc := va_free (wc := [(q_18, .inr (0, [.int 0, .int 0, .int 0, .null, .null]))]) hD hS hA [1] rfl
  refine va_callv (va_runI (As := []) (rest := [.ref q_18, .int 3, .ref q_2]) ⟨hx, hb, hml, hown, hts⟩ (c_X0_init l Z H.size q_18) (cwI 0 hts gX0_newRow_X0_init rfl rfl rfl (hts (.initialized RX0) (by decide +kernel)) (hts (.methodLink RX0 35 yX0_init) (by decide +kernel)) (hts (.instanceMethod yX0_init) (by decide +kernel)) rfl (by decide +kernel) ⟨Nat.le_of_ble_eq_true rfl, Nat.le_of_ble_eq_true rfl⟩) ⟨fun a U g mk q => by obtain ⟨q0, q1, qP, qK, qD⟩ := q; exact ⟨q0, q1, qP, va_K.moved (u := U) (U := U.calling g mk a) (Vm.Alike.refl U.vm) qK, qD⟩, fun U hU hW => ⟨rfl, by rw [hU], by rw [hU]; exact hPc, va_K.moved hW.alike hK, hDc.weaken (fun _ _ _ _ => trivial)⟩⟩ rfl rfl hl.1 rfl (lv_room (Nat.le_of_ble_eq_true rfl)) dX0_newRow_23 ⟨Nat.le_of_ble_eq_true rfl, Nat.le_of_ble_eq_true rfl⟩) hS (fun q _ h => hFc q h) hFc (fun u t H1 locs ht hvm hw hB hz1 hk1 hS => ?_)
  obtain ⟨k_20, q_21⟩ := u
  try dsimp only at hw hB
  obtain ⟨hP1, hD1⟩ := hB
  rw [ht] at hP1
  obtain ⟨hP, hD⟩ := va_join (wr := [(q_2, .inl (Z.2 3, 9, .inr (.inr (.inr (.inr g_17)))))]) (w1 := [(q_18, .inr (0, [.int 0, .int 16510910, .int 0, .ref k_20, .ref q_21])), (k_20, .inl (Z.2 0, 5, .inl (fun _ => 0))), (q_21, .inl (Z.2 0, 5, .inl (fun _ => 0)))]) hP hD [1] [0] rfl rfl (by decide) (by decide) hk1 hFc hP1 hD1
  clear hPc hDc hP1 hD1 hk1 hz1 hFc ht hvm
  generalize H1 = H at hP hS ⊢
  have hP : va_P Z.1 vwCl [(q_2, .inl (Z.2 3, 9, .inr (.inr (.inr (.inr g_17))))), (q_18, .inr (0, [.int 0, .int 16510910, .int 0, .ref k_20, .ref q_21])), (k_20, .inl (Z.2 0, 5, .inl (fun _ => 0))), (q_21, .inl (Z.2 0, 5, .inl (fun _ => 0)))] H := hP
  have hD : va_D A [(q_2, .inl (Z.2 3, 9, .inr (.inr (.inr (.inr g_17))))), (q_18, .inr (0, [.int 0, .int 16510910, .int 0, .ref k_20, .ref q_21])), (k_20, .inl (Z.2 0, 5, .inl (fun _ => 0))), (q_21, .inl (Z.2 0, 5, .inl (fun _ => 0)))] := hD
  refine W.widen (k := 13) (n := 69) (Nat.le_of_ble_eq_true rfl) (Nat.le_of_ble_eq_true rfl) ?_
  refine va_astq (r := (RX0, TX0, 5)) hx hb hK hP hD hS 0 3 1 0 rfl rfl rfl rfl (z_in (by decide)) dX0_newRow_26 (fun H locs hP hD hS => ?_)
  have hP : va_P Z.1 vwCl [(q_2, .inl (Z.2 3, 9, .inr (.inr (.inr (.inr (va_up g_17 3 (some q_18))))))), (q_18, .inr (0, [.int 0, .int 16510910, .int 0, .ref k_20, .ref q_21])), (k_20, .inl (Z.2 0, 5, .inl (fun _ => 0))), (q_21, .inl (Z.2 0, 5, .inl (fun _ => 0)))] H := hP
  have hD : va_D A [(q_2, .inl (Z.2 3, 9, .inr (.inr (.inr (.inr (va_up g_17 3 (some q_18))))))), (q_18, .inr (0, [.int 0, .int 16510910, .int 0, .ref k_20, .ref q_21])), (k_20, .inl (Z.2 0, 5, .inl (fun _ => 0))), (q_21, .inl (Z.2 0, 5, .inl (fun _ => 0)))] := hD
  generalize (va_up g_17 3 (some q_18) : Nat → Option Nat) = g_22 at hP hD
  have hP := hP.sub (ws' := [(q_2, .inl (Z.2 3, 9, .inr (.inr (.inr (.inr g_22)))))]) [0] rfl
  have hD := hD.sub (ws' := [(q_2, .inl (Z.2 3, 9, .inr (.inr (.inr (.inr g_22)))))]) [0] (by decide) rfl
  refine lv_iinc (v := 4) (lv' := [(2, .int 4), (1, .ref q_2), (0, .int 9)]) hx hb dX0_newRow_27 hl (k := 0) rfl (by decide) (by decide) rfl (fun ls hl => ?_)
  refine lv_goto (tgt := 11) hx hb dX0_newRow_30 (by decide) ?_
  refine lv_iload_n hx hb dX0_newRow_11 rfl (lv_at hl 0 rfl) ?_
  refine lv_aload_n hx hb dX0_newRow_12 rfl (lv_at hl 1 rfl) ?_
  refine va_alen (v := 9) hx hb hK hP 0 3 rfl rfl (show Int32.ofNat 9 = 9 by decide) dX0_newRow_13 ?_
  refine lv_icmp_ge (tgt := 33) hx hb dX0_newRow_14 (by decide) (fun c9 => absurd c9 (by decide)) (fun _ => ?_)
  refine lv_aload_n hx hb dX0_newRow_17 rfl (lv_at hl 1 rfl) ?_
  refine lv_iload_n hx hb dX0_newRow_18 rfl (lv_at hl 0 rfl) ?_
  refine va_new (ci := 0) (fs := [.int 0, .int 0, .int 0, .null, .null]) (C := RX0) (T := TX0) (N := 5) hx hb hts hin0 tyX0 tyX0_ok hown (hts (.classLink RX0 10 RX0) (by decide +kernel)) (hts (.instantiable RX0 5) (by decide +kernel)) (hts (.initialized RX0) (by decide +kernel)) hK hP hD hS hA rfl (fun j hj => by rcases (show j = 0 ∨ j = 1 ∨ j = 2 ∨ j = 3 ∨ j = 4 by omega) with rfl | rfl | rfl | rfl | rfl <;> rfl) (Nat.le_of_ble_eq_true rfl) (Nat.le_of_ble_eq_true rfl) dX0_newRow_19 (fun q_23 H hP hD hS => ?_)
  have hP : va_P Z.1 vwCl [(q_2, .inl (Z.2 3, 9, .inr (.inr (.inr (.inr g_22))))), (q_23, .inr (0, [.int 0, .int 0, .int 0, .null, .null]))] H := hP
  have hD : va_D A [(q_2, .inl (Z.2 3, 9, .inr (.inr (.inr (.inr g_22))))), (q_23, .inr (0, [.int 0, .int 0, .int 0, .null, .null]))] := hD
  refine W.widen (k := 14) (n := 74) (Nat.le_of_ble_eq_true rfl) (Nat.le_of_ble_eq_true rfl) ?_
  refine lv_dup hx hb dX0_newRow_22 rfl ?_
  have hPc := hP.sub (ws' := [(q_23, .inr (0, [.int 0, .int 0, .int 0, .null, .null]))]) [1] rfl
  have hDc := hD.sub (ws' := [(q_23, .inr (0, [.int 0, .int 0, .int 0, .null, .null]))]) [1] (by decide) rfl
  have hFc := va_free (wc := [(q_23, .inr (0, [.int 0, .int 0, .int 0, .null, .null]))]) hD hS hA [1] rfl
  refine va_callv (va_runI (As := []) (rest := [.ref q_23, .int 4, .ref q_2]) ⟨hx, hb, hml, hown, hts⟩ (c_X0_init l Z H.size q_23) (cwI 0 hts gX0_newRow_X0_init rfl rfl rfl (hts (.initialized RX0) (by decide +kernel)) (hts (.methodLink RX0 35 yX0_init) (by decide +kernel)) (hts (.instanceMethod yX0_init) (by decide +kernel)) rfl (by decide +kernel) ⟨Nat.le_of_ble_eq_true rfl, Nat.le_of_ble_eq_true rfl⟩) ⟨fun a U g mk q => by obtain ⟨q0, q1, qP, qK, qD⟩ := q; exact ⟨q0, q1, qP, va_K.moved (u := U) (U := U.calling g mk a) (Vm.Alike.refl U.vm) qK, qD⟩, fun U hU hW => ⟨rfl, by rw [hU], by rw [hU]; exact hPc, va_K.moved hW.alike hK, hDc.weaken (fun _ _ _ _ => trivial)⟩⟩ rfl rfl hl.1 rfl (lv_room (Nat.le_of_ble_eq_true rfl)) dX0_newRow_23 ⟨Nat.le_of_ble_eq_true rfl, Nat.le_of_ble_eq_true rfl⟩) hS (fun q _ h => hFc q h) hFc (fun u t H1 locs ht hvm hw hB hz1 hk1 hS => ?_)
  obtain ⟨k_25, q_26⟩ := u
  try dsimp only at hw hB
  obtain ⟨hP1, hD1⟩ := hB
  rw [ht] at hP1
  obtain ⟨hP, hD⟩ := va_join (wr := [(q_2, .inl (Z.2 3, 9, .inr (.inr (.inr (.inr g_22)))))]) (w1 := [(q_23, .inr (0, [.int 0, .int 16510910, .int 0, .ref k_25, .ref q_26])), (k_25, .inl (Z.2 0, 5, .inl (fun _ => 0))), (q_26, .inl (Z.2 0, 5, .inl (fun _ => 0)))]) hP hD [1] [0] rfl rfl (by decide) (by decide) hk1 hFc hP1 hD1
  clear hPc hDc hP1 hD1 hk1 hz1 hFc ht hvm
  generalize H1 = H at hP hS ⊢
  have hP : va_P Z.1 vwCl [(q_2, .inl (Z.2 3, 9, .inr (.inr (.inr (.inr g_22))))), (q_23, .inr (0, [.int 0, .int 16510910, .int 0, .ref k_25, .ref q_26])), (k_25, .inl (Z.2 0, 5, .inl (fun _ => 0))), (q_26, .inl (Z.2 0, 5, .inl (fun _ => 0)))] H := hP
  have hD : va_D A [(q_2, .inl (Z.2 3, 9, .inr (.inr (.inr (.inr g_22))))), (q_23, .inr (0, [.int 0, .int 16510910, .int 0, .ref k_25, .ref q_26])), (k_25, .inl (Z.2 0, 5, .inl (fun _ => 0))), (q_26, .inl (Z.2 0, 5, .inl (fun _ => 0)))] := hD
  refine W.widen (k := 16) (n := 84) (Nat.le_of_ble_eq_true rfl) (Nat.le_of_ble_eq_true rfl) ?_
  refine va_astq (r := (RX0, TX0, 5)) hx hb hK hP hD hS 0 3 1 0 rfl rfl rfl rfl (z_in (by decide)) dX0_newRow_26 (fun H locs hP hD hS => ?_)
  have hP : va_P Z.1 vwCl [(q_2, .inl (Z.2 3, 9, .inr (.inr (.inr (.inr (va_up g_22 4 (some q_23))))))), (q_23, .inr (0, [.int 0, .int 16510910, .int 0, .ref k_25, .ref q_26])), (k_25, .inl (Z.2 0, 5, .inl (fun _ => 0))), (q_26, .inl (Z.2 0, 5, .inl (fun _ => 0)))] H := hP
  have hD : va_D A [(q_2, .inl (Z.2 3, 9, .inr (.inr (.inr (.inr (va_up g_22 4 (some q_23))))))), (q_23, .inr (0, [.int 0, .int 16510910, .int 0, .ref k_25, .ref q_26])), (k_25, .inl (Z.2 0, 5, .inl (fun _ => 0))), (q_26, .inl (Z.2 0, 5, .inl (fun _ => 0)))] := hD
  generalize (va_up g_22 4 (some q_23) : Nat → Option Nat) = g_27 at hP hD
  have hP := hP.sub (ws' := [(q_2, .inl (Z.2 3, 9, .inr (.inr (.inr (.inr g_27)))))]) [0] rfl
  have hD := hD.sub (ws' := [(q_2, .inl (Z.2 3, 9, .inr (.inr (.inr (.inr g_27)))))]) [0] (by decide) rfl
  refine lv_iinc (v := 5) (lv' := [(2, .int 5), (1, .ref q_2), (0, .int 9)]) hx hb dX0_newRow_27 hl (k := 0) rfl (by decide) (by decide) rfl (fun ls hl => ?_)
  refine lv_goto (tgt := 11) hx hb dX0_newRow_30 (by decide) ?_
  refine lv_iload_n hx hb dX0_newRow_11 rfl (lv_at hl 0 rfl) ?_
  refine lv_aload_n hx hb dX0_newRow_12 rfl (lv_at hl 1 rfl) ?_
  refine va_alen (v := 9) hx hb hK hP 0 3 rfl rfl (show Int32.ofNat 9 = 9 by decide) dX0_newRow_13 ?_
  refine lv_icmp_ge (tgt := 33) hx hb dX0_newRow_14 (by decide) (fun c9 => absurd c9 (by decide)) (fun _ => ?_)
  refine lv_aload_n hx hb dX0_newRow_17 rfl (lv_at hl 1 rfl) ?_
  refine lv_iload_n hx hb dX0_newRow_18 rfl (lv_at hl 0 rfl) ?_
  refine va_new (ci := 0) (fs := [.int 0, .int 0, .int 0, .null, .null]) (C := RX0) (T := TX0) (N := 5) hx hb hts hin0 tyX0 tyX0_ok hown (hts (.classLink RX0 10 RX0) (by decide +kernel)) (hts (.instantiable RX0 5) (by decide +kernel)) (hts (.initialized RX0) (by decide +kernel)) hK hP hD hS hA rfl (fun j hj => by rcases (show j = 0 ∨ j = 1 ∨ j = 2 ∨ j = 3 ∨ j = 4 by omega) with rfl | rfl | rfl | rfl | rfl <;> rfl) (Nat.le_of_ble_eq_true rfl) (Nat.le_of_ble_eq_true rfl) dX0_newRow_19 (fun q_28 H hP hD hS => ?_)
  have hP : va_P Z.1 vwCl [(q_2, .inl (Z.2 3, 9, .inr (.inr (.inr (.inr g_27))))), (q_28, .inr (0, [.int 0, .int 0, .int 0, .null, .null]))] H := hP
  have hD : va_D A [(q_2, .inl (Z.2 3, 9, .inr (.inr (.inr (.inr g_27))))), (q_28, .inr (0, [.int 0, .int 0, .int 0, .null, .null]))] := hD
  refine W.widen (k := 17) (n := 89) (Nat.le_of_ble_eq_true rfl) (Nat.le_of_ble_eq_true rfl) ?_
  refine lv_dup hx hb dX0_newRow_22 rfl ?_
  have hPc := hP.sub (ws' := [(q_28, .inr (0, [.int 0, .int 0, .int 0, .null, .null]))]) [1] rfl
  have hDc := hD.sub (ws' := [(q_28, .inr (0, [.int 0, .int 0, .int 0, .null, .null]))]) [1] (by decide) rfl
  have hFc := va_free (wc := [(q_28, .inr (0, [.int 0, .int 0, .int 0, .null, .null]))]) hD hS hA [1] rfl
  refine va_callv (va_runI (As := []) (rest := [.ref q_28, .int 5, .ref q_2]) ⟨hx, hb, hml, hown, hts⟩ (c_X0_init l Z H.size q_28) (cwI 0 hts gX0_newRow_X0_init rfl rfl rfl (hts (.initialized RX0) (by decide +kernel)) (hts (.methodLink RX0 35 yX0_init) (by decide +kernel)) (hts (.instanceMethod yX0_init) (by decide +kernel)) rfl (by decide +kernel) ⟨Nat.le_of_ble_eq_true rfl, Nat.le_of_ble_eq_true rfl⟩) ⟨fun a U g mk q => by obtain ⟨q0, q1, qP, qK, qD⟩ := q; exact ⟨q0, q1, qP, va_K.moved (u := U) (U := U.calling g mk a) (Vm.Alike.refl U.vm) qK, qD⟩, fun U hU hW => ⟨rfl, by rw [hU], by rw [hU]; exact hPc, va_K.moved hW.alike hK, hDc.weaken (fun _ _ _ _ => trivial)⟩⟩ rfl rfl hl.1 rfl (lv_room (Nat.le_of_ble_eq_true rfl)) dX0_newRow_23 ⟨Nat.le_of_ble_eq_true rfl, Nat.le_of_ble_eq_true rfl⟩) hS (fun q _ h => hFc q h) hFc (fun u t H1 locs ht hvm hw hB hz1 hk1 hS => ?_)
  obtain ⟨k_30, q_31⟩ := u
  try dsimp only at hw hB
  obtain ⟨hP1, hD1⟩ := hB
  rw [ht] at hP1
  obtain ⟨hP, hD⟩ := va_join (wr := [(q_2, .inl (Z.2 3, 9, .inr (.inr (.inr (.inr g_27)))))]) (w1 := [(q_28, .inr (0, [.int 0, .int 16510910, .int 0, .ref k_30, .ref q_31])), (k_30, .inl (Z.2 0, 5, .inl (fun _ => 0))), (q_31, .inl (Z.2 0, 5, .inl (fun _ => 0)))]) hP hD [1] [0] rfl rfl (by decide) (by decide) hk1 hFc hP1 hD1
  clear hPc hDc hP1 hD1 hk1 hz1 hFc ht hvm
  generalize H1 = H at hP hS ⊢
  have hP : va_P Z.1 vwCl [(q_2, .inl (Z.2 3, 9, .inr (.inr (.inr (.inr g_27))))), (q_28, .inr (0, [.int 0, .int 16510910, .int 0, .ref k_30, .ref q_31])), (k_30, .inl (Z.2 0, 5, .inl (fun _ => 0))), (q_31, .inl (Z.2 0, 5, .inl (fun _ => 0)))] H := hP
  have hD : va_D A [(q_2, .inl (Z.2 3, 9, .inr (.inr (.inr (.inr g_27))))), (q_28, .inr (0, [.int 0, .int 16510910, .int 0, .ref k_30, .ref q_31])), (k_30, .inl (Z.2 0, 5, .inl (fun _ => 0))), (q_31, .inl (Z.2 0, 5, .inl (fun _ => 0)))] := hD
  refine W.widen (k := 19) (n := 99) (Nat.le_of_ble_eq_true rfl) (Nat.le_of_ble_eq_true rfl) ?_
  refine va_astq (r := (RX0, TX0, 5)) hx hb hK hP hD hS 0 3 1 0 rfl rfl rfl rfl (z_in (by decide)) dX0_newRow_26 (fun H locs hP hD hS => ?_)
  have hP : va_P Z.1 vwCl [(q_2, .inl (Z.2 3, 9, .inr (.inr (.inr (.inr (va_up g_27 5 (some q_28))))))), (q_28, .inr (0, [.int 0, .int 16510910, .int 0, .ref k_30, .ref q_31])), (k_30, .inl (Z.2 0, 5, .inl (fun _ => 0))), (q_31, .inl (Z.2 0, 5, .inl (fun _ => 0)))] H := hP
  have hD : va_D A [(q_2, .inl (Z.2 3, 9, .inr (.inr (.inr (.inr (va_up g_27 5 (some q_28))))))), (q_28, .inr (0, [.int 0, .int 16510910, .int 0, .ref k_30, .ref q_31])), (k_30, .inl (Z.2 0, 5, .inl (fun _ => 0))), (q_31, .inl (Z.2 0, 5, .inl (fun _ => 0)))] := hD
  generalize (va_up g_27 5 (some q_28) : Nat → Option Nat) = g_32 at hP hD
  have hP := hP.sub (ws' := [(q_2, .inl (Z.2 3, 9, .inr (.inr (.inr (.inr g_32)))))]) [0] rfl
  have hD := hD.sub (ws' := [(q_2, .inl (Z.2 3, 9, .inr (.inr (.inr (.inr g_32)))))]) [0] (by decide) rfl
  refine lv_iinc (v := 6) (lv' := [(2, .int 6), (1, .ref q_2), (0, .int 9)]) hx hb dX0_newRow_27 hl (k := 0) rfl (by decide) (by decide) rfl (fun ls hl => ?_)
  refine lv_goto (tgt := 11) hx hb dX0_newRow_30 (by decide) ?_
  refine lv_iload_n hx hb dX0_newRow_11 rfl (lv_at hl 0 rfl) ?_
  refine lv_aload_n hx hb dX0_newRow_12 rfl (lv_at hl 1 rfl) ?_
  refine va_alen (v := 9) hx hb hK hP 0 3 rfl rfl (show Int32.ofNat 9 = 9 by decide) dX0_newRow_13 ?_
  refine lv_icmp_ge (tgt := 33) hx hb dX0_newRow_14 (by decide) (fun c9 => absurd c9 (by decide)) (fun _ => ?_)
  refine lv_aload_n hx hb dX0_newRow_17 rfl (lv_at hl 1 rfl) ?_
  refine lv_iload_n hx hb dX0_newRow_18 rfl (lv_at hl 0 rfl) ?_
  refine va_new (ci := 0) (fs := [.int 0, .int 0, .int 0, .null, .null]) (C := RX0) (T := TX0) (N := 5) hx hb hts hin0 tyX0 tyX0_ok hown (hts (.classLink RX0 10 RX0) (by decide +kernel)) (hts (.instantiable RX0 5) (by decide +kernel)) (hts (.initialized RX0) (by decide +kernel)) hK hP hD hS hA rfl (fun j hj => by rcases (show j = 0 ∨ j = 1 ∨ j = 2 ∨ j = 3 ∨ j = 4 by omega) with rfl | rfl | rfl | rfl | rfl <;> rfl) (Nat.le_of_ble_eq_true rfl) (Nat.le_of_ble_eq_true rfl) dX0_newRow_19 (fun q_33 H hP hD hS => ?_)
  have hP : va_P Z.1 vwCl [(q_2, .inl (Z.2 3, 9, .inr (.inr (.inr (.inr g_32))))), (q_33, .inr (0, [.int 0, .int 0, .int 0, .null, .null]))] H := hP
  have hD : va_D A [(q_2, .inl (Z.2 3, 9, .inr (.inr (.inr (.inr g_32))))), (q_33, .inr (0, [.int 0, .int 0, .int 0, .null, .null]))] := hD
  refine W.widen (k := 20) (n := 104) (Nat.le_of_ble_eq_true rfl) (Nat.le_of_ble_eq_true rfl) ?_
  refine lv_dup hx hb dX0_newRow_22 rfl ?_
  have hPc := hP.sub (ws' := [(q_33, .inr (0, [.int 0, .int 0, .int 0, .null, .null]))]) [1] rfl
  have hDc := hD.sub (ws' := [(q_33, .inr (0, [.int 0, .int 0, .int 0, .null, .null]))]) [1] (by decide) rfl
  have hFc := va_free (wc := [(q_33, .inr (0, [.int 0, .int 0, .int 0, .null, .null]))]) hD hS hA [1] rfl
  refine va_callv (va_runI (As := []) (rest := [.ref q_33, .int 6, .ref q_2]) ⟨hx, hb, hml, hown, hts⟩ (c_X0_init l Z H.size q_33) (cwI 0 hts gX0_newRow_X0_init rfl rfl rfl (hts (.initialized RX0) (by decide +kernel)) (hts (.methodLink RX0 35 yX0_init) (by decide +kernel)) (hts (.instanceMethod yX0_init) (by decide +kernel)) rfl (by decide +kernel) ⟨Nat.le_of_ble_eq_true rfl, Nat.le_of_ble_eq_true rfl⟩) ⟨fun a U g mk q => by obtain ⟨q0, q1, qP, qK, qD⟩ := q; exact ⟨q0, q1, qP, va_K.moved (u := U) (U := U.calling g mk a) (Vm.Alike.refl U.vm) qK, qD⟩, fun U hU hW => ⟨rfl, by rw [hU], by rw [hU]; exact hPc, va_K.moved hW.alike hK, hDc.weaken (fun _ _ _ _ => trivial)⟩⟩ rfl rfl hl.1 rfl (lv_room (Nat.le_of_ble_eq_true rfl)) dX0_newRow_23 ⟨Nat.le_of_ble_eq_true rfl, Nat.le_of_ble_eq_true rfl⟩) hS (fun q _ h => hFc q h) hFc (fun u t H1 locs ht hvm hw hB hz1 hk1 hS => ?_)
  obtain ⟨k_35, q_36⟩ := u
  try dsimp only at hw hB
  obtain ⟨hP1, hD1⟩ := hB
  rw [ht] at hP1
  obtain ⟨hP, hD⟩ := va_join (wr := [(q_2, .inl (Z.2 3, 9, .inr (.inr (.inr (.inr g_32)))))]) (w1 := [(q_33, .inr (0, [.int 0, .int 16510910, .int 0, .ref k_35, .ref q_36])), (k_35, .inl (Z.2 0, 5, .inl (fun _ => 0))), (q_36, .inl (Z.2 0, 5, .inl (fun _ => 0)))]) hP hD [1] [0] rfl rfl (by decide) (by decide) hk1 hFc hP1 hD1
  clear hPc hDc hP1 hD1 hk1 hz1 hFc ht hvm
  generalize H1 = H at hP hS ⊢
  have hP : va_P Z.1 vwCl [(q_2, .inl (Z.2 3, 9, .inr (.inr (.inr (.inr g_32))))), (q_33, .inr (0, [.int 0, .int 16510910, .int 0, .ref k_35, .ref q_36])), (k_35, .inl (Z.2 0, 5, .inl (fun _ => 0))), (q_36, .inl (Z.2 0, 5, .inl (fun _ => 0)))] H := hP
  have hD : va_D A [(q_2, .inl (Z.2 3, 9, .inr (.inr (.inr (.inr g_32))))), (q_33, .inr (0, [.int 0, .int 16510910, .int 0, .ref k_35, .ref q_36])), (k_35, .inl (Z.2 0, 5, .inl (fun _ => 0))), (q_36, .inl (Z.2 0, 5, .inl (fun _ => 0)))] := hD
  refine W.widen (k := 22) (n := 114) (Nat.le_of_ble_eq_true rfl) (Nat.le_of_ble_eq_true rfl) ?_
  refine va_astq (r := (RX0, TX0, 5)) hx hb hK hP hD hS 0 3 1 0 rfl rfl rfl rfl (z_in (by decide)) dX0_newRow_26 (fun H locs hP hD hS => ?_)
  have hP : va_P Z.1 vwCl [(q_2, .inl (Z.2 3, 9, .inr (.inr (.inr (.inr (va_up g_32 6 (some q_33))))))), (q_33, .inr (0, [.int 0, .int 16510910, .int 0, .ref k_35, .ref q_36])), (k_35, .inl (Z.2 0, 5, .inl (fun _ => 0))), (q_36, .inl (Z.2 0, 5, .inl (fun _ => 0)))] H := hP
  have hD : va_D A [(q_2, .inl (Z.2 3, 9, .inr (.inr (.inr (.inr (va_up g_32 6 (some q_33))))))), (q_33, .inr (0, [.int 0, .int 16510910, .int 0, .ref k_35, .ref q_36])), (k_35, .inl (Z.2 0, 5, .inl (fun _ => 0))), (q_36, .inl (Z.2 0, 5, .inl (fun _ => 0)))] := hD
  generalize (va_up g_32 6 (some q_33) : Nat → Option Nat) = g_37 at hP hD
  have hP := hP.sub (ws' := [(q_2, .inl (Z.2 3, 9, .inr (.inr (.inr (.inr g_37)))))]) [0] rfl
  have hD := hD.sub (ws' := [(q_2, .inl (Z.2 3, 9, .inr (.inr (.inr (.inr g_37)))))]) [0] (by decide) rfl
  refine lv_iinc (v := 7) (lv' := [(2, .int 7), (1, .ref q_2), (0, .int 9)]) hx hb dX0_newRow_27 hl (k := 0) rfl (by decide) (by decide) rfl (fun ls hl => ?_)
  refine lv_goto (tgt := 11) hx hb dX0_newRow_30 (by decide) ?_
  refine lv_iload_n hx hb dX0_newRow_11 rfl (lv_at hl 0 rfl) ?_
  refine lv_aload_n hx hb dX0_newRow_12 rfl (lv_at hl 1 rfl) ?_
  refine va_alen (v := 9) hx hb hK hP 0 3 rfl rfl (show Int32.ofNat 9 = 9 by decide) dX0_newRow_13 ?_
  refine lv_icmp_ge (tgt := 33) hx hb dX0_newRow_14 (by decide) (fun c9 => absurd c9 (by decide)) (fun _ => ?_)
  refine lv_aload_n hx hb dX0_newRow_17 rfl (lv_at hl 1 rfl) ?_
  refine lv_iload_n hx hb dX0_newRow_18 rfl (lv_at hl 0 rfl) ?_
  refine va_new (ci := 0) (fs := [.int 0, .int 0, .int 0, .null, .null]) (C := RX0) (T := TX0) (N := 5) hx hb hts hin0 tyX0 tyX0_ok hown (hts (.classLink RX0 10 RX0) (by decide +kernel)) (hts (.instantiable RX0 5) (by decide +kernel)) (hts (.initialized RX0) (by decide +kernel)) hK hP hD hS hA rfl (fun j hj => by rcases (show j = 0 ∨ j = 1 ∨ j = 2 ∨ j = 3 ∨ j = 4 by omega) with rfl | rfl | rfl | rfl | rfl <;> rfl) (Nat.le_of_ble_eq_true rfl) (Nat.le_of_ble_eq_true rfl) dX0_newRow_19 (fun q_38 H hP hD hS => ?_)
  have hP : va_P Z.1 vwCl [(q_2, .inl (Z.2 3, 9, .inr (.inr (.inr (.inr g_37))))), (q_38, .inr (0, [.int 0, .int 0, .int 0, .null, .null]))] H := hP
  have hD : va_D A [(q_2, .inl (Z.2 3, 9, .inr (.inr (.inr (.inr g_37))))), (q_38, .inr (0, [.int 0, .int 0, .int 0, .null, .null]))] := hD
  refine W.widen (k := 23) (n := 119) (Nat.le_of_ble_eq_true rfl) (Nat.le_of_ble_eq_true rfl) ?_
  refine lv_dup hx hb dX0_newRow_22 rfl ?_
  have hPc := hP.sub (ws' := [(q_38, .inr (0, [.int 0, .int 0, .int 0, .null, .null]))]) [1] rfl
  have hDc := hD.sub (ws' := [(q_38, .inr (0, [.int 0, .int 0, .int 0, .null, .null]))]) [1] (by decide) rfl
  have hFc := va_free (wc := [(q_38, .inr (0, [.int 0, .int 0, .int 0, .null, .null]))]) hD hS hA [1] rfl
  refine va_callv (va_runI (As := []) (rest := [.ref q_38, .int 7, .ref q_2]) ⟨hx, hb, hml, hown, hts⟩ (c_X0_init l Z H.size q_38) (cwI 0 hts gX0_newRow_X0_init rfl rfl rfl (hts (.initialized RX0) (by decide +kernel)) (hts (.methodLink RX0 35 yX0_init) (by decide +kernel)) (hts (.instanceMethod yX0_init) (by decide +kernel)) rfl (by decide +kernel) ⟨Nat.le_of_ble_eq_true rfl, Nat.le_of_ble_eq_true rfl⟩) ⟨fun a U g mk q => by obtain ⟨q0, q1, qP, qK, qD⟩ := q; exact ⟨q0, q1, qP, va_K.moved (u := U) (U := U.calling g mk a) (Vm.Alike.refl U.vm) qK, qD⟩, fun U hU hW => ⟨rfl, by rw [hU], by rw [hU]; exact hPc, va_K.moved hW.alike hK, hDc.weaken (fun _ _ _ _ => trivial)⟩⟩ rfl rfl hl.1 rfl (lv_room (Nat.le_of_ble_eq_true rfl)) dX0_newRow_23 ⟨Nat.le_of_ble_eq_true rfl, Nat.le_of_ble_eq_true rfl⟩) hS (fun q _ h => hFc q h) hFc (fun u t H1 locs ht hvm hw hB hz1 hk1 hS => ?_)
  obtain ⟨k_40, q_41⟩ := u
  try dsimp only at hw hB
  obtain ⟨hP1, hD1⟩ := hB
  rw [ht] at hP1
  obtain ⟨hP, hD⟩ := va_join (wr := [(q_2, .inl (Z.2 3, 9, .inr (.inr (.inr (.inr g_37)))))]) (w1 := [(q_38, .inr (0, [.int 0, .int 16510910, .int 0, .ref k_40, .ref q_41])), (k_40, .inl (Z.2 0, 5, .inl (fun _ => 0))), (q_41, .inl (Z.2 0, 5, .inl (fun _ => 0)))]) hP hD [1] [0] rfl rfl (by decide) (by decide) hk1 hFc hP1 hD1
  clear hPc hDc hP1 hD1 hk1 hz1 hFc ht hvm
  generalize H1 = H at hP hS ⊢
  have hP : va_P Z.1 vwCl [(q_2, .inl (Z.2 3, 9, .inr (.inr (.inr (.inr g_37))))), (q_38, .inr (0, [.int 0, .int 16510910, .int 0, .ref k_40, .ref q_41])), (k_40, .inl (Z.2 0, 5, .inl (fun _ => 0))), (q_41, .inl (Z.2 0, 5, .inl (fun _ => 0)))] H := hP
  have hD : va_D A [(q_2, .inl (Z.2 3, 9, .inr (.inr (.inr (.inr g_37))))), (q_38, .inr (0, [.int 0, .int 16510910, .int 0, .ref k_40, .ref q_41])), (k_40, .inl (Z.2 0, 5, .inl (fun _ => 0))), (q_41, .inl (Z.2 0, 5, .inl (fun _ => 0)))] := hD
  refine W.widen (k := 25) (n := 129) (Nat.le_of_ble_eq_true rfl) (Nat.le_of_ble_eq_true rfl) ?_
  refine va_astq (r := (RX0, TX0, 5)) hx hb hK hP hD hS 0 3 1 0 rfl rfl rfl rfl (z_in (by decide)) dX0_newRow_26 (fun H locs hP hD hS => ?_)
  have hP : va_P Z.1 vwCl [(q_2, .inl (Z.2 3, 9, .inr (.inr (.inr (.inr (va_up g_37 7 (some q_38))))))), (q_38, .inr (0, [.int 0, .int 16510910, .int 0, .ref k_40, .ref q_41])), (k_40, .inl (Z.2 0, 5, .inl (fun _ => 0))), (q_41, .inl (Z.2 0, 5, .inl (fun _ => 0)))] H := hP
  have hD : va_D A [(q_2, .inl (Z.2 3, 9, .inr (.inr (.inr (.inr (va_up g_37 7 (some q_38))))))), (q_38, .inr (0, [.int 0, .int 16510910, .int 0, .ref k_40, .ref q_41])), (k_40, .inl (Z.2 0, 5, .inl (fun _ => 0))), (q_41, .inl (Z.2 0, 5, .inl (fun _ => 0)))] := hD
  generalize (va_up g_37 7 (some q_38) : Nat → Option Nat) = g_42 at hP hD
  have hP := hP.sub (ws' := [(q_2, .inl (Z.2 3, 9, .inr (.inr (.inr (.inr g_42)))))]) [0] rfl
  have hD := hD.sub (ws' := [(q_2, .inl (Z.2 3, 9, .inr (.inr (.inr (.inr g_42)))))]) [0] (by decide) rfl
  refine lv_iinc (v := 8) (lv' := [(2, .int 8), (1, .ref q_2), (0, .int 9)]) hx hb dX0_newRow_27 hl (k := 0) rfl (by decide) (by decide) rfl (fun ls hl => ?_)
  refine lv_goto (tgt := 11) hx hb dX0_newRow_30 (by decide) ?_
  refine lv_iload_n hx hb dX0_newRow_11 rfl (lv_at hl 0 rfl) ?_
  refine lv_aload_n hx hb dX0_newRow_12 rfl (lv_at hl 1 rfl) ?_
  refine va_alen (v := 9) hx hb hK hP 0 3 rfl rfl (show Int32.ofNat 9 = 9 by decide) dX0_newRow_13 ?_
  refine lv_icmp_ge (tgt := 33) hx hb dX0_newRow_14 (by decide) (fun c9 => absurd c9 (by decide)) (fun _ => ?_)
  refine lv_aload_n hx hb dX0_newRow_17 rfl (lv_at hl 1 rfl) ?_
  refine lv_iload_n hx hb dX0_newRow_18 rfl (lv_at hl 0 rfl) ?_
  refine va_new (ci := 0) (fs := [.int 0, .int 0, .int 0, .null, .null]) (C := RX0) (T := TX0) (N := 5) hx hb hts hin0 tyX0 tyX0_ok hown (hts (.classLink RX0 10 RX0) (by decide +kernel)) (hts (.instantiable RX0 5) (by decide +kernel)) (hts (.initialized RX0) (by decide +kernel)) hK hP hD hS hA rfl (fun j hj => by rcases (show j = 0 ∨ j = 1 ∨ j = 2 ∨ j = 3 ∨ j = 4 by omega) with rfl | rfl | rfl | rfl | rfl <;> rfl) (Nat.le_of_ble_eq_true rfl) (Nat.le_of_ble_eq_true rfl) dX0_newRow_19 (fun q_43 H hP hD hS => ?_)
  have hP : va_P Z.1 vwCl [(q_2, .inl (Z.2 3, 9, .inr (.inr (.inr (.inr g_42))))), (q_43, .inr (0, [.int 0, .int 0, .int 0, .null, .null]))] H := hP
  have hD : va_D A [(q_2, .inl (Z.2 3, 9, .inr (.inr (.inr (.inr g_42))))), (q_43, .inr (0, [.int 0, .int 0, .int 0, .null, .null]))] := hD
  refine W.widen (k := 26) (n := 134) (Nat.le_of_ble_eq_true rfl) (Nat.le_of_ble_eq_true rfl) ?_
  refine lv_dup hx hb dX0_newRow_22 rfl ?_
  have hPc := hP.sub (ws' := [(q_43, .inr (0, [.int 0, .int 0, .int 0, .null, .null]))]) [1] rfl
  have hDc := hD.sub (ws' := [(q_43, .inr (0, [.int 0, .int 0, .int 0, .null, .null]))]) [1] (by decide) rfl
  have hFc := va_free (wc := [(q_43, .inr (0, [.int 0, .int 0, .int 0, .null, .null]))]) hD hS hA [1] rfl
  refine va_callv (va_runI (As := []) (rest := [.ref q_43, .int 8, .ref q_2]) ⟨hx, hb, hml, hown, hts⟩ (c_X0_init l Z H.size q_43) (cwI 0 hts gX0_newRow_X0_init rfl rfl rfl (hts (.initialized RX0) (by decide +kernel)) (hts (.methodLink RX0 35 yX0_init) (by decide +kernel)) (hts (.instanceMethod yX0_init) (by decide +kernel)) rfl (by decide +kernel) ⟨Nat.le_of_ble_eq_true rfl, Nat.le_of_ble_eq_true rfl⟩) ⟨fun a U g mk q => by obtain ⟨q0, q1, qP, qK, qD⟩ := q; exact ⟨q0, q1, qP, va_K.moved (u := U) (U := U.calling g mk a) (Vm.Alike.refl U.vm) qK, qD⟩, fun U hU hW => ⟨rfl, by rw [hU], by rw [hU]; exact hPc, va_K.moved hW.alike hK, hDc.weaken (fun _ _ _ _ => trivial)⟩⟩ rfl rfl hl.1 rfl (lv_room (Nat.le_of_ble_eq_true rfl)) dX0_newRow_23 ⟨Nat.le_of_ble_eq_true rfl, Nat.le_of_ble_eq_true rfl⟩) hS (fun q _ h => hFc q h) hFc (fun u t H1 locs ht hvm hw hB hz1 hk1 hS => ?_)
  obtain ⟨k_45, q_46⟩ := u
  try dsimp only at hw hB
  obtain ⟨hP1, hD1⟩ := hB
  rw [ht] at hP1
  obtain ⟨hP, hD⟩ := va_join (wr := [(q_2, .inl (Z.2 3, 9, .inr (.inr (.inr (.inr g_42)))))]) (w1 := [(q_43, .inr (0, [.int 0, .int 16510910, .int 0, .ref k_45, .ref q_46])), (k_45, .inl (Z.2 0, 5, .inl (fun _ => 0))), (q_46, .inl (Z.2 0, 5, .inl (fun _ => 0)))]) hP hD [1] [0] rfl rfl (by decide) (by decide) hk1 hFc hP1 hD1
  clear hPc hDc hP1 hD1 hk1 hz1 hFc ht hvm
  generalize H1 = H at hP hS ⊢
  have hP : va_P Z.1 vwCl [(q_2, .inl (Z.2 3, 9, .inr (.inr (.inr (.inr g_42))))), (q_43, .inr (0, [.int 0, .int 16510910, .int 0, .ref k_45, .ref q_46])), (k_45, .inl (Z.2 0, 5, .inl (fun _ => 0))), (q_46, .inl (Z.2 0, 5, .inl (fun _ => 0)))] H := hP
  have hD : va_D A [(q_2, .inl (Z.2 3, 9, .inr (.inr (.inr (.inr g_42))))), (q_43, .inr (0, [.int 0, .int 16510910, .int 0, .ref k_45, .ref q_46])), (k_45, .inl (Z.2 0, 5, .inl (fun _ => 0))), (q_46, .inl (Z.2 0, 5, .inl (fun _ => 0)))] := hD
  refine W.widen (k := 28) (n := 144) (Nat.le_of_ble_eq_true rfl) (Nat.le_of_ble_eq_true rfl) ?_
  refine va_astq (r := (RX0, TX0, 5)) hx hb hK hP hD hS 0 3 1 0 rfl rfl rfl rfl (z_in (by decide)) dX0_newRow_26 (fun H locs hP hD hS => ?_)
  have hP : va_P Z.1 vwCl [(q_2, .inl (Z.2 3, 9, .inr (.inr (.inr (.inr (va_up g_42 8 (some q_43))))))), (q_43, .inr (0, [.int 0, .int 16510910, .int 0, .ref k_45, .ref q_46])), (k_45, .inl (Z.2 0, 5, .inl (fun _ => 0))), (q_46, .inl (Z.2 0, 5, .inl (fun _ => 0)))] H := hP
  have hD : va_D A [(q_2, .inl (Z.2 3, 9, .inr (.inr (.inr (.inr (va_up g_42 8 (some q_43))))))), (q_43, .inr (0, [.int 0, .int 16510910, .int 0, .ref k_45, .ref q_46])), (k_45, .inl (Z.2 0, 5, .inl (fun _ => 0))), (q_46, .inl (Z.2 0, 5, .inl (fun _ => 0)))] := hD
  generalize (va_up g_42 8 (some q_43) : Nat → Option Nat) = g_47 at hP hD
  have hP := hP.sub (ws' := [(q_2, .inl (Z.2 3, 9, .inr (.inr (.inr (.inr g_47)))))]) [0] rfl
  have hD := hD.sub (ws' := [(q_2, .inl (Z.2 3, 9, .inr (.inr (.inr (.inr g_47)))))]) [0] (by decide) rfl
  refine lv_iinc (v := 9) (lv' := [(2, .int 9), (1, .ref q_2), (0, .int 9)]) hx hb dX0_newRow_27 hl (k := 0) rfl (by decide) (by decide) rfl (fun ls hl => ?_)
  refine lv_goto (tgt := 11) hx hb dX0_newRow_30 (by decide) ?_
  refine lv_iload_n hx hb dX0_newRow_11 rfl (lv_at hl 0 rfl) ?_
  refine lv_aload_n hx hb dX0_newRow_12 rfl (lv_at hl 1 rfl) ?_
  refine va_alen (v := 9) hx hb hK hP 0 3 rfl rfl (show Int32.ofNat 9 = 9 by decide) dX0_newRow_13 ?_
  refine lv_icmp_ge (tgt := 33) hx hb dX0_newRow_14 (by decide) (fun _ => ?_) (fun c9 => absurd c9 (by decide))
  refine lv_aload_n hx hb dX0_newRow_33 rfl (lv_at hl 1 rfl) ?_
  exact W.aret hx hb hr (Or.inr ⟨_, rfl⟩) (Or.inr ⟨_, rfl⟩) (fun t ht hW => ⟨⟨(), q_2, rfl, trivial, trivial⟩, hS.F ht⟩) hS.2.2 dX0_newRow_34
set_option maxHeartbeats 4000000 in
set_option maxRecDepth 100000 in
theorem c_X0_newRow_6 (l : Launch) (Z : gZ) (sz : Nat)   : Met l yX0_newRow wsX0_newRow ({ frames := 2, cells := 19, slots := 96, locals := 48 }) (va_Pc [.int 6] (fun U => U.heap.size = sz ∧ va_P Z.1 vwCl [] U.heap ∧ va_K Z.1 vwCl (gT Z) U ∧ va_D (fun _ => True) [] ∧ gN Z U)) (va_Qr (fun (u : Unit) => True) (fun (u : Unit) (r : Nat) (t : State) => True) (va_A [] sz)) 19 96 (va_A [] sz) := by
  refine Met.ofW (cc := cX0_newRow) (maxL := 3) (ret := (some (.array (.object "HalfAsked$Folk")))) (by decide) rfl ?_
  intro p e s m args below meth c s₁ B hml hv
  obtain ⟨rfl, hsz, hP, hK, hD0, hN⟩ := hv
  have hx := B.exec
  have hb := B.bytes
  have hr := B.returns
  have hts := atoms_spec (ws := wsX0_newRow) B.pre
  have hown : s.vm.findClass RX0 = some m.cls := findClass_of_methodNamed B.named
  have hlocks := B.notSynchronized
  subst hsz
  have hin0 : ∀ w ∈ wsX00, w ∈ wsX0_newRow := by decide +kernel
  have hD := hD0.self (sz := s.heap.size)
  generalize hAe : va_A [] s.heap.size = A at hD ⊢
  have hA : ∀ q : Nat, s.heap.size ≤ q → A q := fun q h => by rw [← hAe]; exact Or.inr h
  have hS : va_S A s.heap s.heap [] := va_S.rf
  have hP : va_P Z.1 vwCl [] s.heap := hP
  have hl := lv_entry ([.int 6]) (n := 3) (Nat.le_of_ble_eq_true rfl)
  rw [lg_entry_eq]
  generalize (lg_sl ([.int 6]) ++ List.replicate (3 - (lg_sl ([.int 6])).length) Slot.unset).toArray = ls at hl ⊢
  have hl : lv_has ls 3 [(0, .int 6)] := hl
  refine lv_iconst (v := 0) hx hb dX0_newRow_0 (by decide) ?_
  refine lv_iload_n hx hb dX0_newRow_1 rfl (lv_at hl 0 rfl) ?_
  refine va_mmax hx hb (hml.trans hl.1.symm) hown (hts (.methodLink RX0 29 Lib.Math.max.name) (by decide +kernel)) (hts (.static Lib.Math.max.name) (by decide +kernel)) (hts (.initialized "java/lang/Math") (by decide +kernel)) (hts (.code Lib.Math.max.name Lib.Math.max.code 2 (some .int)) (by decide +kernel)) (Nat.le_of_ble_eq_true rfl) (Nat.le_of_ble_eq_true rfl) (Nat.le_of_ble_eq_true rfl) (Nat.le_of_ble_eq_true rfl) dX0_newRow_2 ?_
  refine lv_topi (fun f_1 ef_1 => ?_)
  obtain rfl : f_1 = 6 := ef_1.trans (by decide)
  refine z_newFolk (N' := 6) hx hb hown (hts (.classLink RX0 10 RX0) (by decide +kernel)) hN hK hP hD hS hA (by decide) (by decide) (Nat.le_of_ble_eq_true rfl) (Nat.le_of_ble_eq_true rfl) (Nat.le_of_ble_eq_true rfl) dX0_newRow_5 (fun q_2 H hP hD hS => ?_)
  have hP : va_P Z.1 vwCl [(q_2, .inl (Z.2 3, 6, .inr (.inr (.inr (.inr (fun _ => none))))))] H := hP
  have hD : va_D A [(q_2, .inl (Z.2 3, 6, .inr (.inr (.inr (.inr (fun _ => none))))))] := hD
  refine W.widen (k := 1) (n := 6) (Nat.le_of_ble_eq_true rfl) (Nat.le_of_ble_eq_true rfl) ?_
  refine lv_astore_n (lv' := [(1, .ref q_2), (0, .int 6)]) hx hb dX0_newRow_8 rfl hl (by decide) rfl (fun ls hl => ?_)
  refine lv_iconst (v := 0) hx hb dX0_newRow_9 (by decide) ?_
  refine lv_istore_n (lv' := [(2, .int 0), (1, .ref q_2), (0, .int 6)]) hx hb dX0_newRow_10 rfl hl (by decide) rfl (fun ls hl => ?_)
  refine lv_iload_n hx hb dX0_newRow_11 rfl (lv_at hl 0 rfl) ?_
  refine lv_aload_n hx hb dX0_newRow_12 rfl (lv_at hl 1 rfl) ?_
  refine va_alen (v := 6) hx hb hK hP 0 3 rfl rfl (show Int32.ofNat 6 = 6 by decide) dX0_newRow_13 ?_
  refine lv_icmp_ge (tgt := 33) hx hb dX0_newRow_14 (by decide) (fun c9 => absurd c9 (by decide)) (fun _ => ?_)
  refine lv_aload_n hx hb dX0_newRow_17 rfl (lv_at hl 1 rfl) ?_
  refine lv_iload_n hx hb dX0_newRow_18 rfl (lv_at hl 0 rfl) ?_
  refine va_new (ci := 0) (fs := [.int 0, .int 0, .int 0, .null, .null]) (C := RX0) (T := TX0) (N := 5) hx hb hts hin0 tyX0 tyX0_ok hown (hts (.classLink RX0 10 RX0) (by decide +kernel)) (hts (.instantiable RX0 5) (by decide +kernel)) (hts (.initialized RX0) (by decide +kernel)) hK hP hD hS hA rfl (fun j hj => by rcases (show j = 0 ∨ j = 1 ∨ j = 2 ∨ j = 3 ∨ j = 4 by omega) with rfl | rfl | rfl | rfl | rfl <;> rfl) (Nat.le_of_ble_eq_true rfl) (Nat.le_of_ble_eq_true rfl) dX0_newRow_19 (fun q_3 H hP hD hS => ?_)
  have hP : va_P Z.1 vwCl [(q_2, .inl (Z.2 3, 6, .inr (.inr (.inr (.inr (fun _ => none)))))), (q_3, .inr (0, [.int 0, .int 0, .int 0, .null, .null]))] H := hP
  have hD : va_D A [(q_2, .inl (Z.2 3, 6, .inr (.inr (.inr (.inr (fun _ => none)))))), (q_3, .inr (0, [.int 0, .int 0, .int 0, .null, .null]))] := hD
  refine W.widen (k := 2) (n := 11) (Nat.le_of_ble_eq_true rfl) (Nat.le_of_ble_eq_true rfl) ?_
  refine lv_dup hx hb dX0_newRow_22 rfl ?_
  have hPc := hP.sub (ws' := [(q_3, .inr (0, [.int 0, .int 0, .int 0, .null, .null]))]) [1] rfl
  have hDc := hD.sub (ws' := [(q_3, .inr (0, [.int 0, .int 0, .int 0, .null, .null]))]) [1] (by decide) rfl
  have hFc := va_free (wc := [(q_3, .inr (0, [.int 0, .int 0, .int 0, .null, .null]))]) hD hS hA [1] rfl
  refine va_callv (va_runI (As := []) (rest := [.ref q_3, .int 0, .ref q_2]) ⟨hx, hb, hml, hown, hts⟩ (c_X0_init l Z H.size q_3) (cwI 0 hts gX0_newRow_X0_init rfl rfl rfl (hts (.initialized RX0) (by decide +kernel)) (hts (.methodLink RX0 35 yX0_init) (by decide +kernel)) (hts (.instanceMethod yX0_init) (by decide +kernel)) rfl (by decide +kernel) ⟨Nat.le_of_ble_eq_true rfl, Nat.le_of_ble_eq_true rfl⟩) ⟨fun a U g mk q => by obtain ⟨q0, q1, qP, qK, qD⟩ := q; exact ⟨q0, q1, qP, va_K.moved (u := U) (U := U.calling g mk a) (Vm.Alike.refl U.vm) qK, qD⟩, fun U hU hW => ⟨rfl, by rw [hU], by rw [hU]; exact hPc, va_K.moved hW.alike hK, hDc.weaken (fun _ _ _ _ => trivial)⟩⟩ rfl rfl hl.1 rfl (lv_room (Nat.le_of_ble_eq_true rfl)) dX0_newRow_23 ⟨Nat.le_of_ble_eq_true rfl, Nat.le_of_ble_eq_true rfl⟩) hS (fun q _ h => hFc q h) hFc (fun u t H1 locs ht hvm hw hB hz1 hk1 hS => ?_)
  obtain ⟨k_5, q_6⟩ := u
  try dsimp only at hw hB
  obtain ⟨hP1, hD1⟩ := hB
  rw [ht] at hP1
  obtain ⟨hP, hD⟩ := va_join (wr := [(q_2, .inl (Z.2 3, 6, .inr (.inr (.inr (.inr (fun _ => none))))))]) (w1 := [(q_3, .inr (0, [.int 0, .int 16510910, .int 0, .ref k_5, .ref q_6])), (k_5, .inl (Z.2 0, 5, .inl (fun _ => 0))), (q_6, .inl (Z.2 0, 5, .inl (fun _ => 0)))]) hP hD [1] [0] rfl rfl (by decide) (by decide) hk1 hFc hP1 hD1
  clear hPc hDc hP1 hD1 hk1 hz1 hFc ht hvm
  generalize H1 = H at hP hS ⊢
  have hP : va_P Z.1 vwCl [(q_2, .inl (Z.2 3, 6, .inr (.inr (.inr (.inr (fun _ => none)))))), (q_3, .inr (0, [.int 0, .int 16510910, .int 0, .ref k_5, .ref q_6])), (k_5, .inl (Z.2 0, 5, .inl (fun _ => 0))), (q_6, .inl (Z.2 0, 5, .inl (fun _ => 0)))] H := hP
  have hD : va_D A [(q_2, .inl (Z.2 3, 6, .inr (.inr (.inr (.inr (fun _ => none)))))), (q_3, .inr (0, [.int 0, .int 16510910, .int 0, .ref k_5, .ref q_6])), (k_5, .inl (Z.2 0, 5, .inl (fun _ => 0))), (q_6, .inl (Z.2 0, 5, .inl (fun _ => 0)))] := hD
  refine W.widen (k := 4) (n := 21) (Nat.le_of_ble_eq_true rfl) (Nat.le_of_ble_eq_true rfl) ?_
  refine va_astq (r := (RX0, TX0, 5)) hx hb hK hP hD hS 0 3 1 0 rfl rfl rfl rfl (z_in (by decide)) dX0_newRow_26 (fun H locs hP hD hS => ?_)
  have hP : va_P Z.1 vwCl [(q_2, .inl (Z.2 3, 6, .inr (.inr (.inr (.inr (va_up (fun _ => none) 0 (some q_3))))))), (q_3, .inr (0, [.int 0, .int 16510910, .int 0, .ref k_5, .ref q_6])), (k_5, .inl (Z.2 0, 5, .inl (fun _ => 0))), (q_6, .inl (Z.2 0, 5, .inl (fun _ => 0)))] H := hP
  have hD : va_D A [(q_2, .inl (Z.2 3, 6, .inr (.inr (.inr (.inr (va_up (fun _ => none) 0 (some q_3))))))), (q_3, .inr (0, [.int 0, .int 16510910, .int 0, .ref k_5, .ref q_6])), (k_5, .inl (Z.2 0, 5, .inl (fun _ => 0))), (q_6, .inl (Z.2 0, 5, .inl (fun _ => 0)))] := hD
  generalize (va_up (fun _ => none) 0 (some q_3) : Nat → Option Nat) = g_7 at hP hD
  have hP := hP.sub (ws' := [(q_2, .inl (Z.2 3, 6, .inr (.inr (.inr (.inr g_7)))))]) [0] rfl
  have hD := hD.sub (ws' := [(q_2, .inl (Z.2 3, 6, .inr (.inr (.inr (.inr g_7)))))]) [0] (by decide) rfl
  refine lv_iinc (v := 1) (lv' := [(2, .int 1), (1, .ref q_2), (0, .int 6)]) hx hb dX0_newRow_27 hl (k := 0) rfl (by decide) (by decide) rfl (fun ls hl => ?_)
  refine lv_goto (tgt := 11) hx hb dX0_newRow_30 (by decide) ?_
  refine lv_iload_n hx hb dX0_newRow_11 rfl (lv_at hl 0 rfl) ?_
  refine lv_aload_n hx hb dX0_newRow_12 rfl (lv_at hl 1 rfl) ?_
  refine va_alen (v := 6) hx hb hK hP 0 3 rfl rfl (show Int32.ofNat 6 = 6 by decide) dX0_newRow_13 ?_
  refine lv_icmp_ge (tgt := 33) hx hb dX0_newRow_14 (by decide) (fun c9 => absurd c9 (by decide)) (fun _ => ?_)
  refine lv_aload_n hx hb dX0_newRow_17 rfl (lv_at hl 1 rfl) ?_
  refine lv_iload_n hx hb dX0_newRow_18 rfl (lv_at hl 0 rfl) ?_
  refine va_new (ci := 0) (fs := [.int 0, .int 0, .int 0, .null, .null]) (C := RX0) (T := TX0) (N := 5) hx hb hts hin0 tyX0 tyX0_ok hown (hts (.classLink RX0 10 RX0) (by decide +kernel)) (hts (.instantiable RX0 5) (by decide +kernel)) (hts (.initialized RX0) (by decide +kernel)) hK hP hD hS hA rfl (fun j hj => by rcases (show j = 0 ∨ j = 1 ∨ j = 2 ∨ j = 3 ∨ j = 4 by omega) with rfl | rfl | rfl | rfl | rfl <;> rfl) (Nat.le_of_ble_eq_true rfl) (Nat.le_of_ble_eq_true rfl) dX0_newRow_19 (fun q_8 H hP hD hS => ?_)
  have hP : va_P Z.1 vwCl [(q_2, .inl (Z.2 3, 6, .inr (.inr (.inr (.inr g_7))))), (q_8, .inr (0, [.int 0, .int 0, .int 0, .null, .null]))] H := hP
  have hD : va_D A [(q_2, .inl (Z.2 3, 6, .inr (.inr (.inr (.inr g_7))))), (q_8, .inr (0, [.int 0, .int 0, .int 0, .null, .null]))] := hD
  refine W.widen (k := 5) (n := 26) (Nat.le_of_ble_eq_true rfl) (Nat.le_of_ble_eq_true rfl) ?_
  refine lv_dup hx hb dX0_newRow_22 rfl ?_
  have hPc := hP.sub (ws' := [(q_8, .inr (0, [.int 0, .int 0, .int 0, .null, .null]))]) [1] rfl
  have hDc := hD.sub (ws' := [(q_8, .inr (0, [.int 0, .int 0, .int 0, .null, .null]))]) [1] (by decide) rfl
  have hFc := va_free (wc := [(q_8, .inr (0, [.int 0, .int 0, .int 0, .null, .null]))]) hD hS hA [1] rfl
  refine va_callv (va_runI (As := []) (rest := [.ref q_8, .int 1, .ref q_2]) ⟨hx, hb, hml, hown, hts⟩ (c_X0_init l Z H.size q_8) (cwI 0 hts gX0_newRow_X0_init rfl rfl rfl (hts (.initialized RX0) (by decide +kernel)) (hts (.methodLink RX0 35 yX0_init) (by decide +kernel)) (hts (.instanceMethod yX0_init) (by decide +kernel)) rfl (by decide +kernel) ⟨Nat.le_of_ble_eq_true rfl, Nat.le_of_ble_eq_true rfl⟩) ⟨fun a U g mk q => by obtain ⟨q0, q1, qP, qK, qD⟩ := q; exact ⟨q0, q1, qP, va_K.moved (u := U) (U := U.calling g mk a) (Vm.Alike.refl U.vm) qK, qD⟩, fun U hU hW => ⟨rfl, by rw [hU], by rw [hU]; exact hPc, va_K.moved hW.alike hK, hDc.weaken (fun _ _ _ _ => trivial)⟩⟩ rfl rfl hl.1 rfl (lv_room (Nat.le_of_ble_eq_true rfl)) dX0_newRow_23 ⟨Nat.le_of_ble_eq_true rfl, Nat.le_of_ble_eq_true rfl⟩) hS (fun q _ h => hFc q h) hFc (fun u t H1 locs ht hvm hw hB hz1 hk1 hS => ?_)
  obtain ⟨k_10, q_11⟩ := u
  try dsimp only at hw hB
  obtain ⟨hP1, hD1⟩ := hB
  rw [ht] at hP1
  obtain ⟨hP, hD⟩ := va_join (wr := [(q_2, .inl (Z.2 3, 6, .inr (.inr (.inr (.inr g_7)))))]) (w1 := [(q_8, .inr (0, [.int 0, .int 16510910, .int 0, .ref k_10, .ref q_11])), (k_10, .inl (Z.2 0, 5, .inl (fun _ => 0))), (q_11, .inl (Z.2 0, 5, .inl (fun _ => 0)))]) hP hD [1] [0] rfl rfl (by decide) (by decide) hk1 hFc hP1 hD1
  clear hPc hDc hP1 hD1 hk1 hz1 hFc ht hvm
  generalize H1 = H at hP hS ⊢
  have hP : va_P Z.1 vwCl [(q_2, .inl (Z.2 3, 6, .inr (.inr (.inr (.inr g_7))))), (q_8, .inr (0, [.int 0, .int 16510910, .int 0, .ref k_10, .ref q_11])), (k_10, .inl (Z.2 0, 5, .inl (fun _ => 0))), (q_11, .inl (Z.2 0, 5, .inl (fun _ => 0)))] H := hP
  have hD : va_D A [(q_2, .inl (Z.2 3, 6, .inr (.inr (.inr (.inr g_7))))), (q_8, .inr (0, [.int 0, .int 16510910, .int 0, .ref k_10, .ref q_11])), (k_10, .inl (Z.2 0, 5, .inl (fun _ => 0))), (q_11, .inl (Z.2 0, 5, .inl (fun _ => 0)))] := hD
  refine W.widen (k := 7) (n := 36) (Nat.le_of_ble_eq_true rfl) (Nat.le_of_ble_eq_true rfl) ?_
  refine va_astq (r := (RX0, TX0, 5)) hx hb hK hP hD hS 0 3 1 0 rfl rfl rfl rfl (z_in (by decide)) dX0_newRow_26 (fun H locs hP hD hS => ?_)
  have hP : va_P Z.1 vwCl [(q_2, .inl (Z.2 3, 6, .inr (.inr (.inr (.inr (va_up g_7 1 (some q_8))))))), (q_8, .inr (0, [.int 0, .int 16510910, .int 0, .ref k_10, .ref q_11])), (k_10, .inl (Z.2 0, 5, .inl (fun _ => 0))), (q_11, .inl (Z.2 0, 5, .inl (fun _ => 0)))] H := hP
  have hD : va_D A [(q_2, .inl (Z.2 3, 6, .inr (.inr (.inr (.inr (va_up g_7 1 (some q_8))))))), (q_8, .inr (0, [.int 0, .int 16510910, .int 0, .ref k_10, .ref q_11])), (k_10, .inl (Z.2 0, 5, .inl (fun _ => 0))), (q_11, .inl (Z.2 0, 5, .inl (fun _ => 0)))] := hD
  generalize (va_up g_7 1 (some q_8) : Nat → Option Nat) = g_12 at hP hD
  have hP := hP.sub (ws' := [(q_2, .inl (Z.2 3, 6, .inr (.inr (.inr (.inr g_12)))))]) [0] rfl
  have hD := hD.sub (ws' := [(q_2, .inl (Z.2 3, 6, .inr (.inr (.inr (.inr g_12)))))]) [0] (by decide) rfl
  refine lv_iinc (v := 2) (lv' := [(2, .int 2), (1, .ref q_2), (0, .int 6)]) hx hb dX0_newRow_27 hl (k := 0) rfl (by decide) (by decide) rfl (fun ls hl => ?_)
  refine lv_goto (tgt := 11) hx hb dX0_newRow_30 (by decide) ?_
  refine lv_iload_n hx hb dX0_newRow_11 rfl (lv_at hl 0 rfl) ?_
  refine lv_aload_n hx hb dX0_newRow_12 rfl (lv_at hl 1 rfl) ?_
  refine va_alen (v := 6) hx hb hK hP 0 3 rfl rfl (show Int32.ofNat 6 = 6 by decide) dX0_newRow_13 ?_
  refine lv_icmp_ge (tgt := 33) hx hb dX0_newRow_14 (by decide) (fun c9 => absurd c9 (by decide)) (fun _ => ?_)
  refine lv_aload_n hx hb dX0_newRow_17 rfl (lv_at hl 1 rfl) ?_
  refine lv_iload_n hx hb dX0_newRow_18 rfl (lv_at hl 0 rfl) ?_
  refine va_new (ci := 0) (fs := [.int 0, .int 0, .int 0, .null, .null]) (C := RX0) (T := TX0) (N := 5) hx hb hts hin0 tyX0 tyX0_ok hown (hts (.classLink RX0 10 RX0) (by decide +kernel)) (hts (.instantiable RX0 5) (by decide +kernel)) (hts (.initialized RX0) (by decide +kernel)) hK hP hD hS hA rfl (fun j hj => by rcases (show j = 0 ∨ j = 1 ∨ j = 2 ∨ j = 3 ∨ j = 4 by omega) with rfl | rfl | rfl | rfl | rfl <;> rfl) (Nat.le_of_ble_eq_true rfl) (Nat.le_of_ble_eq_true rfl) dX0_newRow_19 (fun q_13 H hP hD hS => ?_)
  have hP : va_P Z.1 vwCl [(q_2, .inl (Z.2 3, 6, .inr (.inr (.inr (.inr g_12))))), (q_13, .inr (0, [.int 0, .int 0, .int 0, .null, .null]))] H := hP
  have hD : va_D A [(q_2, .inl (Z.2 3, 6, .inr (.inr (.inr (.inr g_12))))), (q_13, .inr (0, [.int 0, .int 0, .int 0, .null, .null]))] := hD
  refine W.widen (k := 8) (n := 41) (Nat.le_of_ble_eq_true rfl) (Nat.le_of_ble_eq_true rfl) ?_
  refine lv_dup hx hb dX0_newRow_22 rfl ?_
  have hPc := hP.sub (ws' := [(q_13, .inr (0, [.int 0, .int 0, .int 0, .null, .null]))]) [1] rfl
  have hDc := hD.sub (ws' := [(q_13, .inr (0, [.int 0, .int 0, .int 0, .null, .null]))]) [1] (by decide) rfl
  have hFc := va_free (wc := [(q_13, .inr (0, [.int 0, .int 0, .int 0, .null, .null]))]) hD hS hA [1] rfl
  refine va_callv (va_runI (As := []) (rest := [.ref q_13, .int 2, .ref q_2]) ⟨hx, hb, hml, hown, hts⟩ (c_X0_init l Z H.size q_13) (cwI 0 hts gX0_newRow_X0_init rfl rfl rfl (hts (.initialized RX0) (by decide +kernel)) (hts (.methodLink RX0 35 yX0_init) (by decide +kernel)) (hts (.instanceMethod yX0_init) (by decide +kernel)) rfl (by decide +kernel) ⟨Nat.le_of_ble_eq_true rfl, Nat.le_of_ble_eq_true rfl⟩) ⟨fun a U g mk q => by obtain ⟨q0, q1, qP, qK, qD⟩ := q; exact ⟨q0, q1, qP, va_K.moved (u := U) (U := U.calling g mk a) (Vm.Alike.refl U.vm) qK, qD⟩, fun U hU hW => ⟨rfl, by rw [hU], by rw [hU]; exact hPc, va_K.moved hW.alike hK, hDc.weaken (fun _ _ _ _ => trivial)⟩⟩ rfl rfl hl.1 rfl (lv_room (Nat.le_of_ble_eq_true rfl)) dX0_newRow_23 ⟨Nat.le_of_ble_eq_true rfl, Nat.le_of_ble_eq_true rfl⟩) hS (fun q _ h => hFc q h) hFc (fun u t H1 locs ht hvm hw hB hz1 hk1 hS => ?_)
  obtain ⟨k_15, q_16⟩ := u
  try dsimp only at hw hB
  obtain ⟨hP1, hD1⟩ := hB
  rw [ht] at hP1
  obtain ⟨hP, hD⟩ := va_join (wr := [(q_2, .inl (Z.2 3, 6, .inr (.inr (.inr (.inr g_12)))))]) (w1 := [(q_13, .inr (0, [.int 0, .int 16510910, .int 0, .ref k_15, .ref q_16])), (k_15, .inl (Z.2 0, 5, .inl (fun _ => 0))), (q_16, .inl (Z.2 0, 5, .inl (fun _ => 0)))]) hP hD [1] [0] rfl rfl (by decide) (by decide) hk1 hFc hP1 hD1
  clear hPc hDc hP1 hD1 hk1 hz1 hFc ht hvm
  generalize H1 = H at hP hS ⊢
  have hP : va_P Z.1 vwCl [(q_2, .inl (Z.2 3, 6, .inr (.inr (.inr (.inr g_12))))), (q_13, .inr (0, [.int 0, .int 16510910, .int 0, .ref k_15, .ref q_16])), (k_15, .inl (Z.2 0, 5, .inl (fun _ => 0))), (q_16, .inl (Z.2 0, 5, .inl (fun _ => 0)))] H := hP
  have hD : va_D A [(q_2, .inl (Z.2 3, 6, .inr (.inr (.inr (.inr g_12))))), (q_13, .inr (0, [.int 0, .int 16510910, .int 0, .ref k_15, .ref q_16])), (k_15, .inl (Z.2 0, 5, .inl (fun _ => 0))), (q_16, .inl (Z.2 0, 5, .inl (fun _ => 0)))] := hD
  refine W.widen (k := 10) (n := 51) (Nat.le_of_ble_eq_true rfl) (Nat.le_of_ble_eq_true rfl) ?_
  refine va_astq (r := (RX0, TX0, 5)) hx hb hK hP hD hS 0 3 1 0 rfl rfl rfl rfl (z_in (by decide)) dX0_newRow_26 (fun H locs hP hD hS => ?_)
  have hP : va_P Z.1 vwCl [(q_2, .inl (Z.2 3, 6, .inr (.inr (.inr (.inr (va_up g_12 2 (some q_13))))))), (q_13, .inr (0, [.int 0, .int 16510910, .int 0, .ref k_15, .ref q_16])), (k_15, .inl (Z.2 0, 5, .inl (fun _ => 0))), (q_16, .inl (Z.2 0, 5, .inl (fun _ => 0)))] H := hP
  have hD : va_D A [(q_2, .inl (Z.2 3, 6, .inr (.inr (.inr (.inr (va_up g_12 2 (some q_13))))))), (q_13, .inr (0, [.int 0, .int 16510910, .int 0, .ref k_15, .ref q_16])), (k_15, .inl (Z.2 0, 5, .inl (fun _ => 0))), (q_16, .inl (Z.2 0, 5, .inl (fun _ => 0)))] := hD
  generalize (va_up g_12 2 (some q_13) : Nat → Option Nat) = g_17 at hP hD
  have hP := hP.sub (ws' := [(q_2, .inl (Z.2 3, 6, .inr (.inr (.inr (.inr g_17)))))]) [0] rfl
  have hD := hD.sub (ws' := [(q_2, .inl (Z.2 3, 6, .inr (.inr (.inr (.inr g_17)))))]) [0] (by decide) rfl
  refine lv_iinc (v := 3) (lv' := [(2, .int 3), (1, .ref q_2), (0, .int 6)]) hx hb dX0_newRow_27 hl (k := 0) rfl (by decide) (by decide) rfl (fun ls hl => ?_)
  refine lv_goto (tgt := 11) hx hb dX0_newRow_30 (by decide) ?_
  refine lv_iload_n hx hb dX0_newRow_11 rfl (lv_at hl 0 rfl) ?_
  refine lv_aload_n hx hb dX0_newRow_12 rfl (lv_at hl 1 rfl) ?_
  refine va_alen (v := 6) hx hb hK hP 0 3 rfl rfl (show Int32.ofNat 6 = 6 by decide) dX0_newRow_13 ?_
  refine lv_icmp_ge (tgt := 33) hx hb dX0_newRow_14 (by decide) (fun c9 => absurd c9 (by decide)) (fun _ => ?_)
  refine lv_aload_n hx hb dX0_newRow_17 rfl (lv_at hl 1 rfl) ?_
  refine lv_iload_n hx hb dX0_newRow_18 rfl (lv_at hl 0 rfl) ?_
  refine va_new (ci := 0) (fs := [.int 0, .int 0, .int 0, .null, .null]) (C := RX0) (T := TX0) (N := 5) hx hb hts hin0 tyX0 tyX0_ok hown (hts (.classLink RX0 10 RX0) (by decide +kernel)) (hts (.instantiable RX0 5) (by decide +kernel)) (hts (.initialized RX0) (by decide +kernel)) hK hP hD hS hA rfl (fun j hj => by rcases (show j = 0 ∨ j = 1 ∨ j = 2 ∨ j = 3 ∨ j = 4 by omega) with rfl | rfl | rfl | rfl | rfl <;> rfl) (Nat.le_of_ble_eq_true rfl) (Nat.le_of_ble_eq_true rfl) dX0_newRow_19 (fun q_18 H hP hD hS => ?_)
  have hP : va_P Z.1 vwCl [(q_2, .inl (Z.2 3, 6, .inr (.inr (.inr (.inr g_17))))), (q_18, .inr (0, [.int 0, .int 0, .int 0, .null, .null]))] H := hP
  have hD : va_D A [(q_2, .inl (Z.2 3, 6, .inr (.inr (.inr (.inr g_17))))), (q_18, .inr (0, [.int 0, .int 0, .int 0, .null, .null]))] := hD
  refine W.widen (k := 11) (n := 56) (Nat.le_of_ble_eq_true rfl) (Nat.le_of_ble_eq_true rfl) ?_
  refine lv_dup hx hb dX0_newRow_22 rfl ?_
  have hPc := hP.sub (ws' := [(q_18, .inr (0, [.int 0, .int 0, .int 0, .null, .null]))]) [1] rfl
  have hDc := hD.sub (ws' := [(q_18, .inr (0, [.int 0, .int 0, .int 0, .null, .null]))]) [1] (by decide) rfl
  have hFc := va_free (wc := [(q_18, .inr (0, [.int 0, .int 0, .int 0, .null, .null]))]) hD hS hA [1] rfl
  refine va_callv (va_runI (As := []) (rest := [.ref q_18, .int 3, .ref q_2]) ⟨hx, hb, hml, hown, hts⟩ (c_X0_init l Z H.size q_18) (cwI 0 hts gX0_newRow_X0_init rfl rfl rfl (hts (.initialized RX0) (by decide +kernel)) (hts (.methodLink RX0 35 yX0_init) (by decide +kernel)) (hts (.instanceMethod yX0_init) (by decide +kernel)) rfl (by decide +kernel) ⟨Nat.le_of_ble_eq_true rfl, Nat.le_of_ble_eq_true rfl⟩) ⟨fun a U g mk q => by obtain ⟨q0, q1, qP, qK, qD⟩ := q; exact ⟨q0, q1, qP, va_K.moved (u := U) (U := U.calling g mk a) (Vm.Alike.refl U.vm) qK, qD⟩, fun U hU hW => ⟨rfl, by rw [hU], by rw [hU]; exact hPc, va_K.moved hW.alike hK, hDc.weaken (fun _ _ _ _ => trivial)⟩⟩ rfl rfl hl.1 rfl (lv_room (Nat.le_of_ble_eq_true rfl)) dX0_newRow_23 ⟨Nat.le_of_ble_eq_true rfl, Nat.le_of_ble_eq_true rfl⟩) hS (fun q _ h => hFc q h) hFc (fun u t H1 locs ht hvm hw hB hz1 hk1 hS => ?_)
  obtain ⟨k_20, q_21⟩ := u
  try dsimp only at hw hB
  obtain ⟨hP1, hD1⟩ := hB
  rw [ht] at hP1
  obtain ⟨hP, hD⟩ := va_join (wr := [(q_2, .inl (Z.2 3, 6, .inr (.inr (.inr (.inr g_17)))))]) (w1 := [(q_18, .inr (0, [.int 0, .int 16510910, .int 0, .ref k_20, .ref q_21])), (k_20, .inl (Z.2 0, 5, .inl (fun _ => 0))), (q_21, .inl (Z.2 0, 5, .inl (fun _ => 0)))]) hP hD [1] [0] rfl rfl (by decide) (by decide) hk1 hFc hP1 hD1
  clear hPc hDc hP1 hD1 hk1 hz1 hFc ht hvm
  generalize H1 = H at hP hS ⊢
  have hP : va_P Z.1 vwCl [(q_2, .inl (Z.2 3, 6, .inr (.inr (.inr (.inr g_17))))), (q_18, .inr (0, [.int 0, .int 16510910, .int 0, .ref k_20, .ref q_21])), (k_20, .inl (Z.2 0, 5, .inl (fun _ => 0))), (q_21, .inl (Z.2 0, 5, .inl (fun _ => 0)))] H := hP
  have hD : va_D A [(q_2, .inl (Z.2 3, 6, .inr (.inr (.inr (.inr g_17))))), (q_18, .inr (0, [.int 0, .int 16510910, .int 0, .ref k_20, .ref q_21])), (k_20, .inl (Z.2 0, 5, .inl (fun _ => 0))), (q_21, .inl (Z.2 0, 5, .inl (fun _ => 0)))] := hD
  refine W.widen (k := 13) (n := 66) (Nat.le_of_ble_eq_true rfl) (Nat.le_of_ble_eq_true rfl) ?_
  refine va_astq (r := (RX0, TX0, 5)) hx hb hK hP hD hS 0 3 1 0 rfl rfl rfl rfl (z_in (by decide)) dX0_newRow_26 (fun H locs hP hD hS => ?_)
  have hP : va_P Z.1 vwCl [(q_2, .inl (Z.2 3, 6, .inr (.inr (.inr (.inr (va_up g_17 3 (some q_18))))))), (q_18, .inr (0, [.int 0, .int 16510910, .int 0, .ref k_20, .ref q_21])), (k_20, .inl (Z.2 0, 5, .inl (fun _ => 0))), (q_21, .inl (Z.2 0, 5, .inl (fun _ => 0)))] H := hP
  have hD : va_D A [(q_2, .inl (Z.2 3, 6, .inr (.inr (.inr (.inr (va_up g_17 3 (some q_18))))))), (q_18, .inr (0, [.int 0, .int 16510910, .int 0, .ref k_20, .ref q_21])), (k_20, .inl (Z.2 0, 5, .inl (fun _ => 0))), (q_21, .inl (Z.2 0, 5, .inl (fun _ => 0)))] := hD
  generalize (va_up g_17 3 (some q_18) : Nat → Option Nat) = g_22 at hP hD
  have hP := hP.sub (ws' := [(q_2, .inl (Z.2 3, 6, .inr (.inr (.inr (.inr g_22)))))]) [0] rfl
  have hD := hD.sub (ws' := [(q_2, .inl (Z.2 3, 6, .inr (.inr (.inr (.inr g_22)))))]) [0] (by decide) rfl
  refine lv_iinc (v := 4) (lv' := [(2, .int 4), (1, .ref q_2), (0, .int 6)]) hx hb dX0_newRow_27 hl (k := 0) rfl (by decide) (by decide) rfl (fun ls hl => ?_)
  refine lv_goto (tgt := 11) hx hb dX0_newRow_30 (by decide) ?_
  refine lv_iload_n hx hb dX0_newRow_11 rfl (lv_at hl 0 rfl) ?_
  refine lv_aload_n hx hb dX0_newRow_12 rfl (lv_at hl 1 rfl) ?_
  refine va_alen (v := 6) hx hb hK hP 0 3 rfl rfl (show Int32.ofNat 6 = 6 by decide) dX0_newRow_13 ?_
  refine lv_icmp_ge (tgt := 33) hx hb dX0_newRow_14 (by decide) (fun c9 => absurd c9 (by decide)) (fun _ => ?_)
  refine lv_aload_n hx hb dX0_newRow_17 rfl (lv_at hl 1 rfl) ?_
  refine lv_iload_n hx hb dX0_newRow_18 rfl (lv_at hl 0 rfl) ?_
  refine va_new (ci := 0) (fs := [.int 0, .int 0, .int 0, .null, .null]) (C := RX0) (T := TX0) (N := 5) hx hb hts hin0 tyX0 tyX0_ok hown (hts (.classLink RX0 10 RX0) (by decide +kernel)) (hts (.instantiable RX0 5) (by decide +kernel)) (hts (.initialized RX0) (by decide +kernel)) hK hP hD hS hA rfl (fun j hj => by rcases (show j = 0 ∨ j = 1 ∨ j = 2 ∨ j = 3 ∨ j = 4 by omega) with rfl | rfl | rfl | rfl | rfl <;> rfl) (Nat.le_of_ble_eq_true rfl) (Nat.le_of_ble_eq_true rfl) dX0_newRow_19 (fun q_23 H hP hD hS => ?_)
  have hP : va_P Z.1 vwCl [(q_2, .inl (Z.2 3, 6, .inr (.inr (.inr (.inr g_22))))), (q_23, .inr (0, [.int 0, .int 0, .int 0, .null, .null]))] H := hP
  have hD : va_D A [(q_2, .inl (Z.2 3, 6, .inr (.inr (.inr (.inr g_22))))), (q_23, .inr (0, [.int 0, .int 0, .int 0, .null, .null]))] := hD
  refine W.widen (k := 14) (n := 71) (Nat.le_of_ble_eq_true rfl) (Nat.le_of_ble_eq_true rfl) ?_
  refine lv_dup hx hb dX0_newRow_22 rfl ?_
  have hPc := hP.sub (ws' := [(q_23, .inr (0, [.int 0, .int 0, .int 0, .null, .null]))]) [1] rfl
  have hDc := hD.sub (ws' := [(q_23, .inr (0, [.int 0, .int 0, .int 0, .null, .null]))]) [1] (by decide) rfl
  have hFc := va_free (wc := [(q_23, .inr (0, [.int 0, .int 0, .int 0, .null, .null]))]) hD hS hA [1] rfl
  refine va_callv (va_runI (As := []) (rest := [.ref q_23, .int 4, .ref q_2]) ⟨hx, hb, hml, hown, hts⟩ (c_X0_init l Z H.size q_23) (cwI 0 hts gX0_newRow_X0_init rfl rfl rfl (hts (.initialized RX0) (by decide +kernel)) (hts (.methodLink RX0 35 yX0_init) (by decide +kernel)) (hts (.instanceMethod yX0_init) (by decide +kernel)) rfl (by decide +kernel) ⟨Nat.le_of_ble_eq_true rfl, Nat.le_of_ble_eq_true rfl⟩) ⟨fun a U g mk q => by obtain ⟨q0, q1, qP, qK, qD⟩ := q; exact ⟨q0, q1, qP, va_K.moved (u := U) (U := U.calling g mk a) (Vm.Alike.refl U.vm) qK, qD⟩, fun U hU hW => ⟨rfl, by rw [hU], by rw [hU]; exact hPc, va_K.moved hW.alike hK, hDc.weaken (fun _ _ _ _ => trivial)⟩⟩ rfl rfl hl.1 rfl (lv_room (Nat.le_of_ble_eq_true rfl)) dX0_newRow_23 ⟨Nat.le_of_ble_eq_true rfl, Nat.le_of_ble_eq_true rfl⟩) hS (fun q _ h => hFc q h) hFc (fun u t H1 locs ht hvm hw hB hz1 hk1 hS => ?_)
  obtain ⟨k_25, q_26⟩ := u
  try dsimp only at hw hB
  obtain ⟨hP1, hD1⟩ := hB
  rw [ht] at hP1
  obtain ⟨hP, hD⟩ := va_join (wr := [(q_2, .inl (Z.2 3, 6, .inr (.inr (.inr (.inr g_22)))))]) (w1 := [(q_23, .inr (0, [.int 0, .int 16510910, .int 0, .ref k_25, .ref q_26])), (k_25, .inl (Z.2 0, 5, .inl (fun _ => 0))), (q_26, .inl (Z.2 0, 5, .inl (fun _ => 0)))]) hP hD [1] [0] rfl rfl (by decide) (by decide) hk1 hFc hP1 hD1
  clear hPc hDc hP1 hD1 hk1 hz1 hFc ht hvm
  generalize H1 = H at hP hS ⊢
  have hP : va_P Z.1 vwCl [(q_2, .inl (Z.2 3, 6, .inr (.inr (.inr (.inr g_22))))), (q_23, .inr (0, [.int 0, .int 16510910, .int 0, .ref k_25, .ref q_26])), (k_25, .inl (Z.2 0, 5, .inl (fun _ => 0))), (q_26, .inl (Z.2 0, 5, .inl (fun _ => 0)))] H := hP
  have hD : va_D A [(q_2, .inl (Z.2 3, 6, .inr (.inr (.inr (.inr g_22))))), (q_23, .inr (0, [.int 0, .int 16510910, .int 0, .ref k_25, .ref q_26])), (k_25, .inl (Z.2 0, 5, .inl (fun _ => 0))), (q_26, .inl (Z.2 0, 5, .inl (fun _ => 0)))] := hD
  refine W.widen (k := 16) (n := 81) (Nat.le_of_ble_eq_true rfl) (Nat.le_of_ble_eq_true rfl) ?_
  refine va_astq (r := (RX0, TX0, 5)) hx hb hK hP hD hS 0 3 1 0 rfl rfl rfl rfl (z_in (by decide)) dX0_newRow_26 (fun H locs hP hD hS => ?_)
  have hP : va_P Z.1 vwCl [(q_2, .inl (Z.2 3, 6, .inr (.inr (.inr (.inr (va_up g_22 4 (some q_23))))))), (q_23, .inr (0, [.int 0, .int 16510910, .int 0, .ref k_25, .ref q_26])), (k_25, .inl (Z.2 0, 5, .inl (fun _ => 0))), (q_26, .inl (Z.2 0, 5, .inl (fun _ => 0)))] H := hP
  have hD : va_D A [(q_2, .inl (Z.2 3, 6, .inr (.inr (.inr (.inr (va_up g_22 4 (some q_23))))))), (q_23, .inr (0, [.int 0, .int 16510910, .int 0, .ref k_25, .ref q_26])), (k_25, .inl (Z.2 0, 5, .inl (fun _ => 0))), (q_26, .inl (Z.2 0, 5, .inl (fun _ => 0)))] := hD
  generalize (va_up g_22 4 (some q_23) : Nat → Option Nat) = g_27 at hP hD
  have hP := hP.sub (ws' := [(q_2, .inl (Z.2 3, 6, .inr (.inr (.inr (.inr g_27)))))]) [0] rfl
  have hD := hD.sub (ws' := [(q_2, .inl (Z.2 3, 6, .inr (.inr (.inr (.inr g_27)))))]) [0] (by decide) rfl
  refine lv_iinc (v := 5) (lv' := [(2, .int 5), (1, .ref q_2), (0, .int 6)]) hx hb dX0_newRow_27 hl (k := 0) rfl (by decide) (by decide) rfl (fun ls hl => ?_)
  refine lv_goto (tgt := 11) hx hb dX0_newRow_30 (by decide) ?_
  refine lv_iload_n hx hb dX0_newRow_11 rfl (lv_at hl 0 rfl) ?_
  refine lv_aload_n hx hb dX0_newRow_12 rfl (lv_at hl 1 rfl) ?_
  refine va_alen (v := 6) hx hb hK hP 0 3 rfl rfl (show Int32.ofNat 6 = 6 by decide) dX0_newRow_13 ?_
  refine lv_icmp_ge (tgt := 33) hx hb dX0_newRow_14 (by decide) (fun c9 => absurd c9 (by decide)) (fun _ => ?_)
  refine lv_aload_n hx hb dX0_newRow_17 rfl (lv_at hl 1 rfl) ?_
  refine lv_iload_n hx hb dX0_newRow_18 rfl (lv_at hl 0 rfl) ?_
  refine va_new (ci := 0) (fs := [.int 0, .int 0, .int 0, .null, .null]) (C := RX0) (T := TX0) (N := 5) hx hb hts hin0 tyX0 tyX0_ok hown (hts (.classLink RX0 10 RX0) (by decide +kernel)) (hts (.instantiable RX0 5) (by decide +kernel)) (hts (.initialized RX0) (by decide +kernel)) hK hP hD hS hA rfl (fun j hj => by rcases (show j = 0 ∨ j = 1 ∨ j = 2 ∨ j = 3 ∨ j = 4 by omega) with rfl | rfl | rfl | rfl | rfl <;> rfl) (Nat.le_of_ble_eq_true rfl) (Nat.le_of_ble_eq_true rfl) dX0_newRow_19 (fun q_28 H hP hD hS => ?_)
  have hP : va_P Z.1 vwCl [(q_2, .inl (Z.2 3, 6, .inr (.inr (.inr (.inr g_27))))), (q_28, .inr (0, [.int 0, .int 0, .int 0, .null, .null]))] H := hP
  have hD : va_D A [(q_2, .inl (Z.2 3, 6, .inr (.inr (.inr (.inr g_27))))), (q_28, .inr (0, [.int 0, .int 0, .int 0, .null, .null]))] := hD
  refine W.widen (k := 17) (n := 86) (Nat.le_of_ble_eq_true rfl) (Nat.le_of_ble_eq_true rfl) ?_
  refine lv_dup hx hb dX0_newRow_22 rfl ?_
  have hPc := hP.sub (ws' := [(q_28, .inr (0, [.int 0, .int 0, .int 0, .null, .null]))]) [1] rfl
  have hDc := hD.sub (ws' := [(q_28, .inr (0, [.int 0, .int 0, .int 0, .null, .null]))]) [1] (by decide) rfl
  have hFc := va_free (wc := [(q_28, .inr (0, [.int 0, .int 0, .int 0, .null, .null]))]) hD hS hA [1] rfl
  refine va_callv (va_runI (As := []) (rest := [.ref q_28, .int 5, .ref q_2]) ⟨hx, hb, hml, hown, hts⟩ (c_X0_init l Z H.size q_28) (cwI 0 hts gX0_newRow_X0_init rfl rfl rfl (hts (.initialized RX0) (by decide +kernel)) (hts (.methodLink RX0 35 yX0_init) (by decide +kernel)) (hts (.instanceMethod yX0_init) (by decide +kernel)) rfl (by decide +kernel) ⟨Nat.le_of_ble_eq_true rfl, Nat.le_of_ble_eq_true rfl⟩) ⟨fun a U g mk q => by obtain ⟨q0, q1, qP, qK, qD⟩ := q; exact ⟨q0, q1, qP, va_K.moved (u := U) (U := U.calling g mk a) (Vm.Alike.refl U.vm) qK, qD⟩, fun U hU hW => ⟨rfl, by rw [hU], by rw [hU]; exact hPc, va_K.moved hW.alike hK, hDc.weaken (fun _ _ _ _ => trivial)⟩⟩ rfl rfl hl.1 rfl (lv_room (Nat.le_of_ble_eq_true rfl)) dX0_newRow_23 ⟨Nat.le_of_ble_eq_true rfl, Nat.le_of_ble_eq_true rfl⟩) hS (fun q _ h => hFc q h) hFc (fun u t H1 locs ht hvm hw hB hz1 hk1 hS => ?_)
  obtain ⟨k_30, q_31⟩ := u
  try dsimp only at hw hB
  obtain ⟨hP1, hD1⟩ := hB
  rw [ht] at hP1
  obtain ⟨hP, hD⟩ := va_join (wr := [(q_2, .inl (Z.2 3, 6, .inr (.inr (.inr (.inr g_27)))))]) (w1 := [(q_28, .inr (0, [.int 0, .int 16510910, .int 0, .ref k_30, .ref q_31])), (k_30, .inl (Z.2 0, 5, .inl (fun _ => 0))), (q_31, .inl (Z.2 0, 5, .inl (fun _ => 0)))]) hP hD [1] [0] rfl rfl (by decide) (by decide) hk1 hFc hP1 hD1
  clear hPc hDc hP1 hD1 hk1 hz1 hFc ht hvm
  generalize H1 = H at hP hS ⊢
  have hP : va_P Z.1 vwCl [(q_2, .inl (Z.2 3, 6, .inr (.inr (.inr (.inr g_27))))), (q_28, .inr (0, [.int 0, .int 16510910, .int 0, .ref k_30, .ref q_31])), (k_30, .inl (Z.2 0, 5, .inl (fun _ => 0))), (q_31, .inl (Z.2 0, 5, .inl (fun _ => 0)))] H := hP
  have hD : va_D A [(q_2, .inl (Z.2 3, 6, .inr (.inr (.inr (.inr g_27))))), (q_28, .inr (0, [.int 0, .int 16510910, .int 0, .ref k_30, .ref q_31])), (k_30, .inl (Z.2 0, 5, .inl (fun _ => 0))), (q_31, .inl (Z.2 0, 5, .inl (fun _ => 0)))] := hD
  refine W.widen (k := 19) (n := 96) (Nat.le_of_ble_eq_true rfl) (Nat.le_of_ble_eq_true rfl) ?_
  refine va_astq (r := (RX0, TX0, 5)) hx hb hK hP hD hS 0 3 1 0 rfl rfl rfl rfl (z_in (by decide)) dX0_newRow_26 (fun H locs hP hD hS => ?_)
  have hP : va_P Z.1 vwCl [(q_2, .inl (Z.2 3, 6, .inr (.inr (.inr (.inr (va_up g_27 5 (some q_28))))))), (q_28, .inr (0, [.int 0, .int 16510910, .int 0, .ref k_30, .ref q_31])), (k_30, .inl (Z.2 0, 5, .inl (fun _ => 0))), (q_31, .inl (Z.2 0, 5, .inl (fun _ => 0)))] H := hP
  have hD : va_D A [(q_2, .inl (Z.2 3, 6, .inr (.inr (.inr (.inr (va_up g_27 5 (some q_28))))))), (q_28, .inr (0, [.int 0, .int 16510910, .int 0, .ref k_30, .ref q_31])), (k_30, .inl (Z.2 0, 5, .inl (fun _ => 0))), (q_31, .inl (Z.2 0, 5, .inl (fun _ => 0)))] := hD
  generalize (va_up g_27 5 (some q_28) : Nat → Option Nat) = g_32 at hP hD
  have hP := hP.sub (ws' := [(q_2, .inl (Z.2 3, 6, .inr (.inr (.inr (.inr g_32)))))]) [0] rfl
  have hD := hD.sub (ws' := [(q_2, .inl (Z.2 3, 6, .inr (.inr (.inr (.inr g_32)))))]) [0] (by decide) rfl
  refine lv_iinc (v := 6) (lv' := [(2, .int 6), (1, .ref q_2), (0, .int 6)]) hx hb dX0_newRow_27 hl (k := 0) rfl (by decide) (by decide) rfl (fun ls hl => ?_)
  refine lv_goto (tgt := 11) hx hb dX0_newRow_30 (by decide) ?_
  refine lv_iload_n hx hb dX0_newRow_11 rfl (lv_at hl 0 rfl) ?_
  refine lv_aload_n hx hb dX0_newRow_12 rfl (lv_at hl 1 rfl) ?_
  refine va_alen (v := 6) hx hb hK hP 0 3 rfl rfl (show Int32.ofNat 6 = 6 by decide) dX0_newRow_13 ?_
  refine lv_icmp_ge (tgt := 33) hx hb dX0_newRow_14 (by decide) (fun _ => ?_) (fun c9 => absurd c9 (by decide))
  refine lv_aload_n hx hb dX0_newRow_33 rfl (lv_at hl 1 rfl) ?_
  exact W.aret hx hb hr (Or.inr ⟨_, rfl⟩) (Or.inr ⟨_, rfl⟩) (fun t ht hW => ⟨⟨(), q_2, rfl, trivial, trivial⟩, hS.F ht⟩) hS.2.2 dX0_newRow_34
set_option maxHeartbeats 4000000 in
set_option maxRecDepth 100000 in
theorem c_X0_newRow_7 (l : Launch) (Z : gZ) (sz : Nat)   : Met l yX0_newRow wsX0_newRow ({ frames := 2, cells := 22, slots := 112, locals := 48 }) (va_Pc [.int 7] (fun U => U.heap.size = sz ∧ va_P Z.1 vwCl [] U.heap ∧ va_K Z.1 vwCl (gT Z) U ∧ va_D (fun _ => True) [] ∧ gN Z U)) (va_Qr (fun (u : Unit) => True) (fun (u : Unit) (r : Nat) (t : State) => True) (va_A [] sz)) 22 112 (va_A [] sz) := by
  refine Met.ofW (cc := cX0_newRow) (maxL := 3) (ret := (some (.array (.object "HalfAsked$Folk")))) (by decide) rfl ?_
  intro p e s m args below meth c s₁ B hml hv
  obtain ⟨rfl, hsz, hP, hK, hD0, hN⟩ := hv
  have hx := B.exec
  have hb := B.bytes
  have hr := B.returns
  have hts := atoms_spec (ws := wsX0_newRow) B.pre
  have hown : s.vm.findClass RX0 = some m.cls := findClass_of_methodNamed B.named
  have hlocks := B.notSynchronized
  subst hsz
  have hin0 : ∀ w ∈ wsX00, w ∈ wsX0_newRow := by decide +kernel
  have hD := hD0.self (sz := s.heap.size)
  generalize hAe : va_A [] s.heap.size = A at hD ⊢
  have hA : ∀ q : Nat, s.heap.size ≤ q → A q := fun q h => by rw [← hAe]; exact Or.inr h
  have hS : va_S A s.heap s.heap [] := va_S.rf
  have hP : va_P Z.1 vwCl [] s.heap := hP
  have hl := lv_entry ([.int 7]) (n := 3) (Nat.le_of_ble_eq_true rfl)
  rw [lg_entry_eq]
  generalize (lg_sl ([.int 7]) ++ List.replicate (3 - (lg_sl ([.int 7])).length) Slot.unset).toArray = ls at hl ⊢
  have hl : lv_has ls 3 [(0, .int 7)] := hl
  refine lv_iconst (v := 0) hx hb dX0_newRow_0 (by decide) ?_
  refine lv_iload_n hx hb dX0_newRow_1 rfl (lv_at hl 0 rfl) ?_
  refine va_mmax hx hb (hml.trans hl.1.symm) hown (hts (.methodLink RX0 29 Lib.Math.max.name) (by decide +kernel)) (hts (.static Lib.Math.max.name) (by decide +kernel)) (hts (.initialized "java/lang/Math") (by decide +kernel)) (hts (.code Lib.Math.max.name Lib.Math.max.code 2 (some .int)) (by decide +kernel)) (Nat.le_of_ble_eq_true rfl) (Nat.le_of_ble_eq_true rfl) (Nat.le_of_ble_eq_true rfl) (Nat.le_of_ble_eq_true rfl) dX0_newRow_2 ?_
  refine lv_topi (fun f_1 ef_1 => ?_)
  obtain rfl : f_1 = 7 := ef_1.trans (by decide)
  refine z_newFolk (N' := 7) hx hb hown (hts (.classLink RX0 10 RX0) (by decide +kernel)) hN hK hP hD hS hA (by decide) (by decide) (Nat.le_of_ble_eq_true rfl) (Nat.le_of_ble_eq_true rfl) (Nat.le_of_ble_eq_true rfl) dX0_newRow_5 (fun q_2 H hP hD hS => ?_)
  have hP : va_P Z.1 vwCl [(q_2, .inl (Z.2 3, 7, .inr (.inr (.inr (.inr (fun _ => none))))))] H := hP
  have hD : va_D A [(q_2, .inl (Z.2 3, 7, .inr (.inr (.inr (.inr (fun _ => none))))))] := hD
  refine W.widen (k := 1) (n := 7) (Nat.le_of_ble_eq_true rfl) (Nat.le_of_ble_eq_true rfl) ?_
  refine lv_astore_n (lv' := [(1, .ref q_2), (0, .int 7)]) hx hb dX0_newRow_8 rfl hl (by decide) rfl (fun ls hl => ?_)
  refine lv_iconst (v := 0) hx hb dX0_newRow_9 (by decide) ?_
  refine lv_istore_n (lv' := [(2, .int 0), (1, .ref q_2), (0, .int 7)]) hx hb dX0_newRow_10 rfl hl (by decide) rfl (fun ls hl => ?_)
  refine lv_iload_n hx hb dX0_newRow_11 rfl (lv_at hl 0 rfl) ?_
  refine lv_aload_n hx hb dX0_newRow_12 rfl (lv_at hl 1 rfl) ?_
  refine va_alen (v := 7) hx hb hK hP 0 3 rfl rfl (show Int32.ofNat 7 = 7 by decide) dX0_newRow_13 ?_
  refine lv_icmp_ge (tgt := 33) hx hb dX0_newRow_14 (by decide) (fun c9 => absurd c9 (by decide)) (fun _ => ?_)
  refine lv_aload_n hx hb dX0_newRow_17 rfl (lv_at hl 1 rfl) ?_
  refine lv_iload_n hx hb dX0_newRow_18 rfl (lv_at hl 0 rfl) ?_
  refine va_new (ci := 0) (fs := [.int 0, .int 0, .int 0, .null, .null]) (C := RX0) (T := TX0) (N := 5) hx hb hts hin0 tyX0 tyX0_ok hown (hts (.classLink RX0 10 RX0) (by decide +kernel)) (hts (.instantiable RX0 5) (by decide +kernel)) (hts (.initialized RX0) (by decide +kernel)) hK hP hD hS hA rfl (fun j hj => by rcases (show j = 0 ∨ j = 1 ∨ j = 2 ∨ j = 3 ∨ j = 4 by omega) with rfl | rfl | rfl | rfl | rfl <;> rfl) (Nat.le_of_ble_eq_true rfl) (Nat.le_of_ble_eq_true rfl) dX0_newRow_19 (fun q_3 H hP hD hS => ?_)
  have hP : va_P Z.1 vwCl [(q_2, .inl (Z.2 3, 7, .inr (.inr (.inr (.inr (fun _ => none)))))), (q_3, .inr (0, [.int 0, .int 0, .int 0, .null, .null]))] H := hP
  have hD : va_D A [(q_2, .inl (Z.2 3, 7, .inr (.inr (.inr (.inr (fun _ => none)))))), (q_3, .inr (0, [.int 0, .int 0, .int 0, .null, .null]))] := hD
  refine W.widen (k := 2) (n := 12) (Nat.le_of_ble_eq_true rfl) (Nat.le_of_ble_eq_true rfl) ?_
  refine lv_dup hx hb dX0_newRow_22 rfl ?_
  have hPc := hP.sub (ws' := [(q_3, .inr (0, [.int 0, .int 0, .int 0, .null, .null]))]) [1] rfl
  have hDc := hD.sub (ws' := [(q_3, .inr (0, [.int 0, .int 0, .int 0, .null, .null]))]) [1] (by decide) rfl
  have hFc := va_free (wc := [(q_3, .inr (0, [.int 0, .int 0, .int 0, .null, .null]))]) hD hS hA [1] rfl
  refine va_callv (va_runI (As := []) (rest := [.ref q_3, .int 0, .ref q_2]) ⟨hx, hb, hml, hown, hts⟩ (c_X0_init l Z H.size q_3) (cwI 0 hts gX0_newRow_X0_init rfl rfl rfl (hts (.initialized RX0) (by decide +kernel)) (hts (.methodLink RX0 35 yX0_init) (by decide +kernel)) (hts (.instanceMethod yX0_init) (by decide +kernel)) rfl (by decide +kernel) ⟨Nat.le_of_ble_eq_true rfl, Nat.le_of_ble_eq_true rfl⟩) ⟨fun a U g mk q => by obtain ⟨q0, q1, qP, qK, qD⟩ := q; exact ⟨q0, q1, qP, va_K.moved (u := U) (U := U.calling g mk a) (Vm.Alike.refl U.vm) qK, qD⟩, fun U hU hW => ⟨rfl, by rw [hU], by rw [hU]; exact hPc, va_K.moved hW.alike hK, hDc.weaken (fun _ _ _ _ => trivial)⟩⟩ rfl rfl hl.1 rfl (lv_room (Nat.le_of_ble_eq_true rfl)) dX0_newRow_23 ⟨Nat.le_of_ble_eq_true rfl, Nat.le_of_ble_eq_true rfl⟩) hS (fun q _ h => hFc q h) hFc (fun u t H1 locs ht hvm hw hB hz1 hk1 hS => ?_)
  obtain ⟨k_5, q_6⟩ := u
  try dsimp only at hw hB
  obtain ⟨hP1, hD1⟩ := hB
  rw [ht] at hP1
  obtain ⟨hP, hD⟩ := va_join (wr := [(q_2, .inl (Z.2 3, 7, .inr (.inr (.inr (.inr (fun _ => none))))))]) (w1 := [(q_3, .inr (0, [.int 0, .int 16510910, .int 0, .ref k_5, .ref q_6])), (k_5, .inl (Z.2 0, 5, .inl (fun _ => 0))), (q_6, .inl (Z.2 0, 5, .inl (fun _ => 0)))]) hP hD [1] [0] rfl rfl (by decide) (by decide) hk1 hFc hP1 hD1
  clear hPc hDc hP1 hD1 hk1 hz1 hFc ht hvm
  generalize H1 = H at hP hS ⊢
  have hP : va_P Z.1 vwCl [(q_2, .inl (Z.2 3, 7, .inr (.inr (.inr (.inr (fun _ => none)))))), (q_3, .inr (0, [.int 0, .int 16510910, .int 0, .ref k_5, .ref q_6])), (k_5, .inl (Z.2 0, 5, .inl (fun _ => 0))), (q_6, .inl (Z.2 0, 5, .inl (fun _ => 0)))] H := hP
  have hD : va_D A [(q_2, .inl (Z.2 3, 7, .inr (.inr (.inr (.inr (fun _ => none)))))), (q_3, .inr (0, [.int 0, .int 16510910, .int 0, .ref k_5, .ref q_6])), (k_5, .inl (Z.2 0, 5, .inl (fun _ => 0))), (q_6, .inl (Z.2 0, 5, .inl (fun _ => 0)))] := hD
  refine W.widen (k := 4) (n := 22) (Nat.le_of_ble_eq_true rfl) (Nat.le_of_ble_eq_true rfl) ?_
  refine va_astq (r := (RX0, TX0, 5)) hx hb hK hP hD hS 0 3 1 0 rfl rfl rfl rfl (z_in (by decide)) dX0_newRow_26 (fun H locs hP hD hS => ?_)
  have hP : va_P Z.1 vwCl [(q_2, .inl (Z.2 3, 7, .inr (.inr (.inr (.inr (va_up (fun _ => none) 0 (some q_3))))))), (q_3, .inr (0, [.int 0, .int 16510910, .int 0, .ref k_5, .ref q_6])), (k_5, .inl (Z.2 0, 5, .inl (fun _ => 0))), (q_6, .inl (Z.2 0, 5, .inl (fun _ => 0)))] H := hP
  have hD : va_D A [(q_2, .inl (Z.2 3, 7, .inr (.inr (.inr (.inr (va_up (fun _ => none) 0 (some q_3))))))), (q_3, .inr (0, [.int 0, .int 16510910, .int 0, .ref k_5, .ref q_6])), (k_5, .inl (Z.2 0, 5, .inl (fun _ => 0))), (q_6, .inl (Z.2 0, 5, .inl (fun _ => 0)))] := hD
  generalize (va_up (fun _ => none) 0 (some q_3) : Nat → Option Nat) = g_7 at hP hD
  have hP := hP.sub (ws' := [(q_2, .inl (Z.2 3, 7, .inr (.inr (.inr (.inr g_7)))))]) [0] rfl
  have hD := hD.sub (ws' := [(q_2, .inl (Z.2 3, 7, .inr (.inr (.inr (.inr g_7)))))]) [0] (by decide) rfl
  refine lv_iinc (v := 1) (lv' := [(2, .int 1), (1, .ref q_2), (0, .int 7)]) hx hb dX0_newRow_27 hl (k := 0) rfl (by decide) (by decide) rfl (fun ls hl => ?_)
  refine lv_goto (tgt := 11) hx hb dX0_newRow_30 (by decide) ?_
  refine lv_iload_n hx hb dX0_newRow_11 rfl (lv_at hl 0 rfl) ?_
  refine lv_aload_n hx hb dX0_newRow_12 rfl (lv_at hl 1 rfl) ?_
  refine va_alen (v := 7) hx hb hK hP 0 3 rfl rfl (show Int32.ofNat 7 = 7 by decide) dX0_newRow_13 ?_
  refine lv_icmp_ge (tgt := 33) hx hb dX0_newRow_14 (by decide) (fun c9 => absurd c9 (by decide)) (fun _ => ?_)
  refine lv_aload_n hx hb dX0_newRow_17 rfl (lv_at hl 1 rfl) ?_
  refine lv_iload_n hx hb dX0_newRow_18 rfl (lv_at hl 0 rfl) ?_
  refine va_new (ci := 0) (fs := [.int 0, .int 0, .int 0, .null, .null]) (C := RX0) (T := TX0) (N := 5) hx hb hts hin0 tyX0 tyX0_ok hown (hts (.classLink RX0 10 RX0) (by decide +kernel)) (hts (.instantiable RX0 5) (by decide +kernel)) (hts (.initialized RX0) (by decide +kernel)) hK hP hD hS hA rfl (fun j hj => by rcases (show j = 0 ∨ j = 1 ∨ j = 2 ∨ j = 3 ∨ j = 4 by omega) with rfl | rfl | rfl | rfl | rfl <;> rfl) (Nat.le_of_ble_eq_true rfl) (Nat.le_of_ble_eq_true rfl) dX0_newRow_19 (fun q_8 H hP hD hS => ?_)
  have hP : va_P Z.1 vwCl [(q_2, .inl (Z.2 3, 7, .inr (.inr (.inr (.inr g_7))))), (q_8, .inr (0, [.int 0, .int 0, .int 0, .null, .null]))] H := hP
  have hD : va_D A [(q_2, .inl (Z.2 3, 7, .inr (.inr (.inr (.inr g_7))))), (q_8, .inr (0, [.int 0, .int 0, .int 0, .null, .null]))] := hD
  refine W.widen (k := 5) (n := 27) (Nat.le_of_ble_eq_true rfl) (Nat.le_of_ble_eq_true rfl) ?_
  refine lv_dup hx hb dX0_newRow_22 rfl ?_
  have hPc := hP.sub (ws' := [(q_8, .inr (0, [.int 0, .int 0, .int 0, .null, .null]))]) [1] rfl
  have hDc := hD.sub (ws' := [(q_8, .inr (0, [.int 0, .int 0, .int 0, .null, .null]))]) [1] (by decide) rfl
  have hFc := va_free (wc := [(q_8, .inr (0, [.int 0, .int 0, .int 0, .null, .null]))]) hD hS hA [1] rfl
  refine va_callv (va_runI (As := []) (rest := [.ref q_8, .int 1, .ref q_2]) ⟨hx, hb, hml, hown, hts⟩ (c_X0_init l Z H.size q_8) (cwI 0 hts gX0_newRow_X0_init rfl rfl rfl (hts (.initialized RX0) (by decide +kernel)) (hts (.methodLink RX0 35 yX0_init) (by decide +kernel)) (hts (.instanceMethod yX0_init) (by decide +kernel)) rfl (by decide +kernel) ⟨Nat.le_of_ble_eq_true rfl, Nat.le_of_ble_eq_true rfl⟩) ⟨fun a U g mk q => by obtain ⟨q0, q1, qP, qK, qD⟩ := q; exact ⟨q0, q1, qP, va_K.moved (u := U) (U := U.calling g mk a) (Vm.Alike.refl U.vm) qK, qD⟩, fun U hU hW => ⟨rfl, by rw [hU], by rw [hU]; exact hPc, va_K.moved hW.alike hK, hDc.weaken (fun _ _ _ _ => trivial)⟩⟩ rfl rfl hl.1 rfl (lv_room (Nat.le_of_ble_eq_true rfl)) dX0_newRow_23 ⟨Nat.le_of_ble_eq_true rfl, Nat.le_of_ble_eq_true rfl⟩) hS (fun q _ h => hFc q h) hFc (fun u t H1 locs ht hvm hw hB hz1 hk1 hS => ?_)
  obtain ⟨k_10, q_11⟩ := u
  try dsimp only at hw hB
  obtain ⟨hP1, hD1⟩ := hB
  rw [ht] at hP1
  obtain ⟨hP, hD⟩ := va_join (wr := [(q_2, .inl (Z.2 3, 7, .inr (.inr (.inr (.inr g_7)))))]) (w1 := [(q_8, .inr (0, [.int 0, .int 16510910, .int 0, .ref k_10, .ref q_11])), (k_10, .inl (Z.2 0, 5, .inl (fun _ => 0))), (q_11, .inl (Z.2 0, 5, .inl (fun _ => 0)))]) hP hD [1] [0] rfl rfl (by decide) (by decide) hk1 hFc hP1 hD1
  clear hPc hDc hP1 hD1 hk1 hz1 hFc ht hvm
  generalize H1 = H at hP hS ⊢
  have hP : va_P Z.1 vwCl [(q_2, .inl (Z.2 3, 7, .inr (.inr (.inr (.inr g_7))))), (q_8, .inr (0, [.int 0, .int 16510910, .int 0, .ref k_10, .ref q_11])), (k_10, .inl (Z.2 0, 5, .inl (fun _ => 0))), (q_11, .inl (Z.2 0, 5, .inl (fun _ => 0)))] H := hP
  have hD : va_D A [(q_2, .inl (Z.2 3, 7, .inr (.inr (.inr (.inr g_7))))), (q_8, .inr (0, [.int 0, .int 16510910, .int 0, .ref k_10, .ref q_11])), (k_10, .inl (Z.2 0, 5, .inl (fun _ => 0))), (q_11, .inl (Z.2 0, 5, .inl (fun _ => 0)))] := hD
  refine W.widen (k := 7) (n := 37) (Nat.le_of_ble_eq_true rfl) (Nat.le_of_ble_eq_true rfl) ?_
  refine va_astq (r := (RX0, TX0, 5)) hx hb hK hP hD hS 0 3 1 0 rfl rfl rfl rfl (z_in (by decide)) dX0_newRow_26 (fun H locs hP hD hS => ?_)
  have hP : va_P Z.1 vwCl [(q_2, .inl (Z.2 3, 7, .inr (.inr (.inr (.inr (va_up g_7 1 (some q_8))))))), (q_8, .inr (0, [.int 0, .int 16510910, .int 0, .ref k_10, .ref q_11])), (k_10, .inl (Z.2 0, 5, .inl (fun _ => 0))), (q_11, .inl (Z.2 0, 5, .inl (fun _ => 0)))] H := hP
  have hD : va_D A [(q_2, .inl (Z.2 3, 7, .inr (.inr (.inr (.inr (va_up g_7 1 (some q_8))))))), (q_8, .inr (0, [.int 0, .int 16510910, .int 0, .ref k_10, .ref q_11])), (k_10, .inl (Z.2 0, 5, .inl (fun _ => 0))), (q_11, .inl (Z.2 0, 5, .inl (fun _ => 0)))] := hD
  generalize (va_up g_7 1 (some q_8) : Nat → Option Nat) = g_12 at hP hD
  have hP := hP.sub (ws' := [(q_2, .inl (Z.2 3, 7, .inr (.inr (.inr (.inr g_12)))))]) [0] rfl
  have hD := hD.sub (ws' := [(q_2, .inl (Z.2 3, 7, .inr (.inr (.inr (.inr g_12)))))]) [0] (by decide) rfl
  refine lv_iinc (v := 2) (lv' := [(2, .int 2), (1, .ref q_2), (0, .int 7)]) hx hb dX0_newRow_27 hl (k := 0) rfl (by decide) (by decide) rfl (fun ls hl => ?_)
  refine lv_goto (tgt := 11) hx hb dX0_newRow_30 (by decide) ?_
  refine lv_iload_n hx hb dX0_newRow_11 rfl (lv_at hl 0 rfl) ?_
  refine lv_aload_n hx hb dX0_newRow_12 rfl (lv_at hl 1 rfl) ?_
  refine va_alen (v := 7) hx hb hK hP 0 3 rfl rfl (show Int32.ofNat 7 = 7 by decide) dX0_newRow_13 ?_
  refine lv_icmp_ge (tgt := 33) hx hb dX0_newRow_14 (by decide) (fun c9 => absurd c9 (by decide)) (fun _ => ?_)
  refine lv_aload_n hx hb dX0_newRow_17 rfl (lv_at hl 1 rfl) ?_
  refine lv_iload_n hx hb dX0_newRow_18 rfl (lv_at hl 0 rfl) ?_
  refine va_new (ci := 0) (fs := [.int 0, .int 0, .int 0, .null, .null]) (C := RX0) (T := TX0) (N := 5) hx hb hts hin0 tyX0 tyX0_ok hown (hts (.classLink RX0 10 RX0) (by decide +kernel)) (hts (.instantiable RX0 5) (by decide +kernel)) (hts (.initialized RX0) (by decide +kernel)) hK hP hD hS hA rfl (fun j hj => by rcases (show j = 0 ∨ j = 1 ∨ j = 2 ∨ j = 3 ∨ j = 4 by omega) with rfl | rfl | rfl | rfl | rfl <;> rfl) (Nat.le_of_ble_eq_true rfl) (Nat.le_of_ble_eq_true rfl) dX0_newRow_19 (fun q_13 H hP hD hS => ?_)
  have hP : va_P Z.1 vwCl [(q_2, .inl (Z.2 3, 7, .inr (.inr (.inr (.inr g_12))))), (q_13, .inr (0, [.int 0, .int 0, .int 0, .null, .null]))] H := hP
  have hD : va_D A [(q_2, .inl (Z.2 3, 7, .inr (.inr (.inr (.inr g_12))))), (q_13, .inr (0, [.int 0, .int 0, .int 0, .null, .null]))] := hD
  refine W.widen (k := 8) (n := 42) (Nat.le_of_ble_eq_true rfl) (Nat.le_of_ble_eq_true rfl) ?_
  refine lv_dup hx hb dX0_newRow_22 rfl ?_
  have hPc := hP.sub (ws' := [(q_13, .inr (0, [.int 0, .int 0, .int 0, .null, .null]))]) [1] rfl
  have hDc := hD.sub (ws' := [(q_13, .inr (0, [.int 0, .int 0, .int 0, .null, .null]))]) [1] (by decide) rfl
  have hFc := va_free (wc := [(q_13, .inr (0, [.int 0, .int 0, .int 0, .null, .null]))]) hD hS hA [1] rfl
  refine va_callv (va_runI (As := []) (rest := [.ref q_13, .int 2, .ref q_2]) ⟨hx, hb, hml, hown, hts⟩ (c_X0_init l Z H.size q_13) (cwI 0 hts gX0_newRow_X0_init rfl rfl rfl (hts (.initialized RX0) (by decide +kernel)) (hts (.methodLink RX0 35 yX0_init) (by decide +kernel)) (hts (.instanceMethod yX0_init) (by decide +kernel)) rfl (by decide +kernel) ⟨Nat.le_of_ble_eq_true rfl, Nat.le_of_ble_eq_true rfl⟩) ⟨fun a U g mk q => by obtain ⟨q0, q1, qP, qK, qD⟩ := q; exact ⟨q0, q1, qP, va_K.moved (u := U) (U := U.calling g mk a) (Vm.Alike.refl U.vm) qK, qD⟩, fun U hU hW => ⟨rfl, by rw [hU], by rw [hU]; exact hPc, va_K.moved hW.alike hK, hDc.weaken (fun _ _ _ _ => trivial)⟩⟩ rfl rfl hl.1 rfl (lv_room (Nat.le_of_ble_eq_true rfl)) dX0_newRow_23 ⟨Nat.le_of_ble_eq_true rfl, Nat.le_of_ble_eq_true rfl⟩) hS (fun q _ h => hFc q h) hFc (fun u t H1 locs ht hvm hw hB hz1 hk1 hS => ?_)
  obtain ⟨k_15, q_16⟩ := u
  try dsimp only at hw hB
  obtain ⟨hP1, hD1⟩ := hB
  rw [ht] at hP1
  obtain ⟨hP, hD⟩ := va_join (wr := [(q_2, .inl (Z.2 3, 7, .inr (.inr (.inr (.inr g_12)))))]) (w1 := [(q_13, .inr (0, [.int 0, .int 16510910, .int 0, .ref k_15, .ref q_16])), (k_15, .inl (Z.2 0, 5, .inl (fun _ => 0))), (q_16, .inl (Z.2 0, 5, .inl (fun _ => 0)))]) hP hD [1] [0] rfl rfl (by decide) (by decide) hk1 hFc hP1 hD1
  clear hPc hDc hP1 hD1 hk1 hz1 hFc ht hvm
  generalize H1 = H at hP hS ⊢
  have hP : va_P Z.1 vwCl [(q_2, .inl (Z.2 3, 7, .inr (.inr (.inr (.inr g_12))))), (q_13, .inr (0, [.int 0, .int 16510910, .int 0, .ref k_15, .ref q_16])), (k_15, .inl (Z.2 0, 5, .inl (fun _ => 0))), (q_16, .inl (Z.2 0, 5, .inl (fun _ => 0)))] H := hP
  have hD : va_D A [(q_2, .inl (Z.2 3, 7, .inr (.inr (.inr (.inr g_12))))), (q_13, .inr (0, [.int 0, .int 16510910, .int 0, .ref k_15, .ref q_16])), (k_15, .inl (Z.2 0, 5, .inl (fun _ => 0))), (q_16, .inl (Z.2 0, 5, .inl (fun _ => 0)))] := hD
  refine W.widen (k := 10) (n := 52) (Nat.le_of_ble_eq_true rfl) (Nat.le_of_ble_eq_true rfl) ?_
  refine va_astq (r := (RX0, TX0, 5)) hx hb hK hP hD hS 0 3 1 0 rfl rfl rfl rfl (z_in (by decide)) dX0_newRow_26 (fun H locs hP hD hS => ?_)
  have hP : va_P Z.1 vwCl [(q_2, .inl (Z.2 3, 7, .inr (.inr (.inr (.inr (va_up g_12 2 (some q_13))))))), (q_13, .inr (0, [.int 0, .int 16510910, .int 0, .ref k_15, .ref q_16])), (k_15, .inl (Z.2 0, 5, .inl (fun _ => 0))), (q_16, .inl (Z.2 0, 5, .inl (fun _ => 0)))] H := hP
  have hD : va_D A [(q_2, .inl (Z.2 3, 7, .inr (.inr (.inr (.inr (va_up g_12 2 (some q_13))))))), (q_13, .inr (0, [.int 0, .int 16510910, .int 0, .ref k_15, .ref q_16])), (k_15, .inl (Z.2 0, 5, .inl (fun _ => 0))), (q_16, .inl (Z.2 0, 5, .inl (fun _ => 0)))] := hD
  generalize (va_up g_12 2 (some q_13) : Nat → Option Nat) = g_17 at hP hD
  have hP := hP.sub (ws' := [(q_2, .inl (Z.2 3, 7, .inr (.inr (.inr (.inr g_17)))))]) [0] rfl
  have hD := hD.sub (ws' := [(q_2, .inl (Z.2 3, 7, .inr (.inr (.inr (.inr g_17)))))]) [0] (by decide) rfl
  refine lv_iinc (v := 3) (lv' := [(2, .int 3), (1, .ref q_2), (0, .int 7)]) hx hb dX0_newRow_27 hl (k := 0) rfl (by decide) (by decide) rfl (fun ls hl => ?_)
  refine lv_goto (tgt := 11) hx hb dX0_newRow_30 (by decide) ?_
  refine lv_iload_n hx hb dX0_newRow_11 rfl (lv_at hl 0 rfl) ?_
  refine lv_aload_n hx hb dX0_newRow_12 rfl (lv_at hl 1 rfl) ?_
  refine va_alen (v := 7) hx hb hK hP 0 3 rfl rfl (show Int32.ofNat 7 = 7 by decide) dX0_newRow_13 ?_
  refine lv_icmp_ge (tgt := 33) hx hb dX0_newRow_14 (by decide) (fun c9 => absurd c9 (by decide)) (fun _ => ?_)
  refine lv_aload_n hx hb dX0_newRow_17 rfl (lv_at hl 1 rfl) ?_
  refine lv_iload_n hx hb dX0_newRow_18 rfl (lv_at hl 0 rfl) ?_
  refine va_new (ci := 0) (fs := [.int 0, .int 0, .int 0, .null, .null]) (C := RX0) (T := TX0) (N := 5) hx hb hts hin0 tyX0 tyX0_ok hown (hts (.classLink RX0 10 RX0) (by decide +kernel)) (hts (.instantiable RX0 5) (by decide +kernel)) (hts (.initialized RX0) (by decide +kernel)) hK hP hD hS hA rfl (fun j hj => by rcases (show j = 0 ∨ j = 1 ∨ j = 2 ∨ j = 3 ∨ j = 4 by omega) with rfl | rfl | rfl | rfl | rfl <;> rfl) (Nat.le_of_ble_eq_true rfl) (Nat.le_of_ble_eq_true rfl) dX0_newRow_19 (fun q_18 H hP hD hS => ?_)
  have hP : va_P Z.1 vwCl [(q_2, .inl (Z.2 3, 7, .inr (.inr (.inr (.inr g_17))))), (q_18, .inr (0, [.int 0, .int 0, .int 0, .null, .null]))] H := hP
  have hD : va_D A [(q_2, .inl (Z.2 3, 7, .inr (.inr (.inr (.inr g_17))))), (q_18, .inr (0, [.int 0, .int 0, .int 0, .null, .null]))] := hD
  refine W.widen (k := 11) (n := 57) (Nat.le_of_ble_eq_true rfl) (Nat.le_of_ble_eq_true rfl) ?_
  refine lv_dup hx hb dX0_newRow_22 rfl ?_
  have hPc := hP.sub (ws' := [(q_18, .inr (0, [.int 0, .int 0, .int 0, .null, .null]))]) [1] rfl
  have hDc := hD.sub (ws' := [(q_18, .inr (0, [.int 0, .int 0, .int 0, .null, .null]))]) [1] (by decide) rfl
  have hFc := va_free (wc := [(q_18, .inr (0, [.int 0, .int 0, .int 0, .null, .null]))]) hD hS hA [1] rfl
  refine va_callv (va_runI (As := []) (rest := [.ref q_18, .int 3, .ref q_2]) ⟨hx, hb, hml, hown, hts⟩ (c_X0_init l Z H.size q_18) (cwI 0 hts gX0_newRow_X0_init rfl rfl rfl (hts (.initialized RX0) (by decide +kernel)) (hts (.methodLink RX0 35 yX0_init) (by decide +kernel)) (hts (.instanceMethod yX0_init) (by decide +kernel)) rfl (by decide +kernel) ⟨Nat.le_of_ble_eq_true rfl, Nat.le_of_ble_eq_true rfl⟩) ⟨fun a U g mk q => by obtain ⟨q0, q1, qP, qK, qD⟩ := q; exact ⟨q0, q1, qP, va_K.moved (u := U) (U := U.calling g mk a) (Vm.Alike.refl U.vm) qK, qD⟩, fun U hU hW => ⟨rfl, by rw [hU], by rw [hU]; exact hPc, va_K.moved hW.alike hK, hDc.weaken (fun _ _ _ _ => trivial)⟩⟩ rfl rfl hl.1 rfl (lv_room (Nat.le_of_ble_eq_true rfl)) dX0_newRow_23 ⟨Nat.le_of_ble_eq_true rfl, Nat.le_of_ble_eq_true rfl⟩) hS (fun q _ h => hFc q h) hFc (fun u t H1 locs ht hvm hw hB hz1 hk1 hS => ?_)
  obtain ⟨k_20, q_21⟩ := u
  try dsimp only at hw hB
  obtain ⟨hP1, hD1⟩ := hB
  rw [ht] at hP1
  obtain ⟨hP, hD⟩ := va_join (wr := [(q_2, .inl (Z.2 3, 7, .inr (.inr (.inr (.inr g_17)))))]) (w1 := [(q_18, .inr (0, [.int 0, .int 16510910, .int 0, .ref k_20, .ref q_21])), (k_20, .inl (Z.2 0, 5, .inl (fun _ => 0))), (q_21, .inl (Z.2 0, 5, .inl (fun _ => 0)))]) hP hD [1] [0] rfl rfl (by decide) (by decide) hk1 hFc hP1 hD1
  clear hPc hDc hP1 hD1 hk1 hz1 hFc ht hvm
  generalize H1 = H at hP hS ⊢
  have hP : va_P Z.1 vwCl [(q_2, .inl (Z.2 3, 7, .inr (.inr (.inr (.inr g_17))))), (q_18, .inr (0, [.int 0, .int 16510910, .int 0, .ref k_20, .ref q_21])), (k_20, .inl (Z.2 0, 5, .inl (fun _ => 0))), (q_21, .inl (Z.2 0, 5, .inl (fun _ => 0)))] H := hP
  have hD : va_D A [(q_2, .inl (Z.2 3, 7, .inr (.inr (.inr (.inr g_17))))), (q_18, .inr (0, [.int 0, .int 16510910, .int 0, .ref k_20, .ref q_21])), (k_20, .inl (Z.2 0, 5, .inl (fun _ => 0))), (q_21, .inl (Z.2 0, 5, .inl (fun _ => 0)))] := hD
  refine W.widen (k := 13) (n := 67) (Nat.le_of_ble_eq_true rfl) (Nat.le_of_ble_eq_true rfl) ?_
  refine va_astq (r := (RX0, TX0, 5)) hx hb hK hP hD hS 0 3 1 0 rfl rfl rfl rfl (z_in (by decide)) dX0_newRow_26 (fun H locs hP hD hS => ?_)
  have hP : va_P Z.1 vwCl [(q_2, .inl (Z.2 3, 7, .inr (.inr (.inr (.inr (va_up g_17 3 (some q_18))))))), (q_18, .inr (0, [.int 0, .int 16510910, .int 0, .ref k_20, .ref q_21])), (k_20, .inl (Z.2 0, 5, .inl (fun _ => 0))), (q_21, .inl (Z.2 0, 5, .inl (fun _ => 0)))] H := hP
  have hD : va_D A [(q_2, .inl (Z.2 3, 7, .inr (.inr (.inr (.inr (va_up g_17 3 (some q_18))))))), (q_18, .inr (0, [.int 0, .int 16510910, .int 0, .ref k_20, .ref q_21])), (k_20, .inl (Z.2 0, 5, .inl (fun _ => 0))), (q_21, .inl (Z.2 0, 5, .inl (fun _ => 0)))] := hD
  generalize (va_up g_17 3 (some q_18) : Nat → Option Nat) = g_22 at hP hD
  have hP := hP.sub (ws' := [(q_2, .inl (Z.2 3, 7, .inr (.inr (.inr (.inr g_22)))))]) [0] rfl
  have hD := hD.sub (ws' := [(q_2, .inl (Z.2 3, 7, .inr (.inr (.inr (.inr g_22)))))]) [0] (by decide) rfl
  refine lv_iinc (v := 4) (lv' := [(2, .int 4), (1, .ref q_2), (0, .int 7)]) hx hb dX0_newRow_27 hl (k := 0) rfl (by decide) (by decide) rfl (fun ls hl => ?_)
  refine lv_goto (tgt := 11) hx hb dX0_newRow_30 (by decide) ?_
  refine lv_iload_n hx hb dX0_newRow_11 rfl (lv_at hl 0 rfl) ?_
  refine lv_aload_n hx hb dX0_newRow_12 rfl (lv_at hl 1 rfl) ?_
  refine va_alen (v := 7) hx hb hK hP 0 3 rfl rfl (show Int32.ofNat 7 = 7 by decide) dX0_newRow_13 ?_
  refine lv_icmp_ge (tgt := 33) hx hb dX0_newRow_14 (by decide) (fun c9 => absurd c9 (by decide)) (fun _ => ?_)
  refine lv_aload_n hx hb dX0_newRow_17 rfl (lv_at hl 1 rfl) ?_
  refine lv_iload_n hx hb dX0_newRow_18 rfl (lv_at hl 0 rfl) ?_
  refine va_new (ci := 0) (fs := [.int 0, .int 0, .int 0, .null, .null]) (C := RX0) (T := TX0) (N := 5) hx hb hts hin0 tyX0 tyX0_ok hown (hts (.classLink RX0 10 RX0) (by decide +kernel)) (hts (.instantiable RX0 5) (by decide +kernel)) (hts (.initialized RX0) (by decide +kernel)) hK hP hD hS hA rfl (fun j hj => by rcases (show j = 0 ∨ j = 1 ∨ j = 2 ∨ j = 3 ∨ j = 4 by omega) with rfl | rfl | rfl | rfl | rfl <;> rfl) (Nat.le_of_ble_eq_true rfl) (Nat.le_of_ble_eq_true rfl) dX0_newRow_19 (fun q_23 H hP hD hS => ?_)
  have hP : va_P Z.1 vwCl [(q_2, .inl (Z.2 3, 7, .inr (.inr (.inr (.inr g_22))))), (q_23, .inr (0, [.int 0, .int 0, .int 0, .null, .null]))] H := hP
  have hD : va_D A [(q_2, .inl (Z.2 3, 7, .inr (.inr (.inr (.inr g_22))))), (q_23, .inr (0, [.int 0, .int 0, .int 0, .null, .null]))] := hD
  refine W.widen (k := 14) (n := 72) (Nat.le_of_ble_eq_true rfl) (Nat.le_of_ble_eq_true rfl) ?_
  refine lv_dup hx hb dX0_newRow_22 rfl ?_
  have hPc := hP.sub (ws' := [(q_23, .inr (0, [.int 0, .int 0, .int 0, .null, .null]))]) [1] rfl
  have hDc := hD.sub (ws' := [(q_23, .inr (0, [.int 0, .int 0, .int 0, .null, .null]))]) [1] (by decide) rfl
  have hFc := va_free (wc := [(q_23, .inr (0, [.int 0, .int 0, .int 0, .null, .null]))]) hD hS hA [1] rfl
  refine va_callv (va_runI (As := []) (rest := [.ref q_23, .int 4, .ref q_2]) ⟨hx, hb, hml, hown, hts⟩ (c_X0_init l Z H.size q_23) (cwI 0 hts gX0_newRow_X0_init rfl rfl rfl (hts (.initialized RX0) (by decide +kernel)) (hts (.methodLink RX0 35 yX0_init) (by decide +kernel)) (hts (.instanceMethod yX0_init) (by decide +kernel)) rfl (by decide +kernel) ⟨Nat.le_of_ble_eq_true rfl, Nat.le_of_ble_eq_true rfl⟩) ⟨fun a U g mk q => by obtain ⟨q0, q1, qP, qK, qD⟩ := q; exact ⟨q0, q1, qP, va_K.moved (u := U) (U := U.calling g mk a) (Vm.Alike.refl U.vm) qK, qD⟩, fun U hU hW => ⟨rfl, by rw [hU], by rw [hU]; exact hPc, va_K.moved hW.alike hK, hDc.weaken (fun _ _ _ _ => trivial)⟩⟩ rfl rfl hl.1 rfl (lv_room (Nat.le_of_ble_eq_true rfl)) dX0_newRow_23 ⟨Nat.le_of_ble_eq_true rfl, Nat.le_of_ble_eq_true rfl⟩) hS (fun q _ h => hFc q h) hFc (fun u t H1 locs ht hvm hw hB hz1 hk1 hS => ?_)
  obtain ⟨k_25, q_26⟩ := u
  try dsimp only at hw hB
  obtain ⟨hP1, hD1⟩ := hB
  rw [ht] at hP1
  obtain ⟨hP, hD⟩ := va_join (wr := [(q_2, .inl (Z.2 3, 7, .inr (.inr (.inr (.inr g_22)))))]) (w1 := [(q_23, .inr (0, [.int 0, .int 16510910, .int 0, .ref k_25, .ref q_26])), (k_25, .inl (Z.2 0, 5, .inl (fun _ => 0))), (q_26, .inl (Z.2 0, 5, .inl (fun _ => 0)))]) hP hD [1] [0] rfl rfl (by decide) (by decide) hk1 hFc hP1 hD1
  clear hPc hDc hP1 hD1 hk1 hz1 hFc ht hvm
  generalize H1 = H at hP hS ⊢
  have hP : va_P Z.1 vwCl [(q_2, .inl (Z.2 3, 7, .inr (.inr (.inr (.inr g_22))))), (q_23, .inr (0, [.int 0, .int 16510910, .int 0, .ref k_25, .ref q_26])), (k_25, .inl (Z.2 0, 5, .inl (fun _ => 0))), (q_26, .inl (Z.2 0, 5, .inl (fun _ => 0)))] H := hP
  have hD : va_D A [(q_2, .inl (Z.2 3, 7, .inr (.inr (.inr (.inr g_22))))), (q_23, .inr (0, [.int 0, .int 16510910, .int 0, .ref k_25, .ref q_26])), (k_25, .inl (Z.2 0, 5, .inl (fun _ => 0))), (q_26, .inl (Z.2 0, 5, .inl (fun _ => 0)))] := hD
  refine W.widen (k := 16) (n := 82) (Nat.le_of_ble_eq_true rfl) (Nat.le_of_ble_eq_true rfl) ?_
  refine va_astq (r := (RX0, TX0, 5)) hx hb hK hP hD hS 0 3 1 0 rfl rfl rfl rfl (z_in (by decide)) dX0_newRow_26 (fun H locs hP hD hS => ?_)
  have hP : va_P Z.1 vwCl [(q_2, .inl (Z.2 3, 7, .inr (.inr (.inr (.inr (va_up g_22 4 (some q_23))))))), (q_23, .inr (0, [.int 0, .int 16510910, .int 0, .ref k_25, .ref q_26])), (k_25, .inl (Z.2 0, 5, .inl (fun _ => 0))), (q_26, .inl (Z.2 0, 5, .inl (fun _ => 0)))] H := hP
  have hD : va_D A [(q_2, .inl (Z.2 3, 7, .inr (.inr (.inr (.inr (va_up g_22 4 (some q_23))))))), (q_23, .inr (0, [.int 0, .int 16510910, .int 0, .ref k_25, .ref q_26])), (k_25, .inl (Z.2 0, 5, .inl (fun _ => 0))), (q_26, .inl (Z.2 0, 5, .inl (fun _ => 0)))] := hD
  generalize (va_up g_22 4 (some q_23) : Nat → Option Nat) = g_27 at hP hD
  have hP := hP.sub (ws' := [(q_2, .inl (Z.2 3, 7, .inr (.inr (.inr (.inr g_27)))))]) [0] rfl
  have hD := hD.sub (ws' := [(q_2, .inl (Z.2 3, 7, .inr (.inr (.inr (.inr g_27)))))]) [0] (by decide) rfl
  refine lv_iinc (v := 5) (lv' := [(2, .int 5), (1, .ref q_2), (0, .int 7)]) hx hb dX0_newRow_27 hl (k := 0) rfl (by decide) (by decide) rfl (fun ls hl => ?_)
  refine lv_goto (tgt := 11) hx hb dX0_newRow_30 (by decide) ?_
  refine lv_iload_n hx hb dX0_newRow_11 rfl (lv_at hl 0 rfl) ?_
  refine lv_aload_n hx hb dX0_newRow_12 rfl (lv_at hl 1 rfl) ?_
  refine va_alen (v := 7) hx hb hK hP 0 3 rfl rfl (show Int32.ofNat 7 = 7 by decide) dX0_newRow_13 ?_
  refine lv_icmp_ge (tgt := 33) hx hb dX0_newRow_14 (by decide) (fun c9 => absurd c9 (by decide)) (fun _ => ?_)
  refine lv_aload_n hx hb dX0_newRow_17 rfl (lv_at hl 1 rfl) ?_
  refine lv_iload_n hx hb dX0_newRow_18 rfl (lv_at hl 0 rfl) ?_
  refine va_new (ci := 0) (fs := [.int 0, .int 0, .int 0, .null, .null]) (C := RX0) (T := TX0) (N := 5) hx hb hts hin0 tyX0 tyX0_ok hown (hts (.classLink RX0 10 RX0) (by decide +kernel)) (hts (.instantiable RX0 5) (by decide +kernel)) (hts (.initialized RX0) (by decide +kernel)) hK hP hD hS hA rfl (fun j hj => by rcases (show j = 0 ∨ j = 1 ∨ j = 2 ∨ j = 3 ∨ j = 4 by omega) with rfl | rfl | rfl | rfl | rfl <;> rfl) (Nat.le_of_ble_eq_true rfl) (Nat.le_of_ble_eq_true rfl) dX0_newRow_19 (fun q_28 H hP hD hS => ?_)
  have hP : va_P Z.1 vwCl [(q_2, .inl (Z.2 3, 7, .inr (.inr (.inr (.inr g_27))))), (q_28, .inr (0, [.int 0, .int 0, .int 0, .null, .null]))] H := hP
  have hD : va_D A [(q_2, .inl (Z.2 3, 7, .inr (.inr (.inr (.inr g_27))))), (q_28, .inr (0, [.int 0, .int 0, .int 0, .null, .null]))] := hD
  refine W.widen (k := 17) (n := 87) (Nat.le_of_ble_eq_true rfl) (Nat.le_of_ble_eq_true rfl) ?_
  refine lv_dup hx hb dX0_newRow_22 rfl ?_
  have hPc := hP.sub (ws' := [(q_28, .inr (0, [.int 0, .int 0, .int 0, .null, .null]))]) [1] rfl
  have hDc := hD.sub (ws' := [(q_28, .inr (0, [.int 0, .int 0, .int 0, .null, .null]))]) [1] (by decide) rfl
  have hFc := va_free (wc := [(q_28, .inr (0, [.int 0, .int 0, .int 0, .null, .null]))]) hD hS hA [1] rfl
  refine va_callv (va_runI (As := []) (rest := [.ref q_28, .int 5, .ref q_2]) ⟨hx, hb, hml, hown, hts⟩ (c_X0_init l Z H.size q_28) (cwI 0 hts gX0_newRow_X0_init rfl rfl rfl (hts (.initialized RX0) (by decide +kernel)) (hts (.methodLink RX0 35 yX0_init) (by decide +kernel)) (hts (.instanceMethod yX0_init) (by decide +kernel)) rfl (by decide +kernel) ⟨Nat.le_of_ble_eq_true rfl, Nat.le_of_ble_eq_true rfl⟩) ⟨fun a U g mk q => by obtain ⟨q0, q1, qP, qK, qD⟩ := q; exact ⟨q0, q1, qP, va_K.moved (u := U) (U := U.calling g mk a) (Vm.Alike.refl U.vm) qK, qD⟩, fun U hU hW => ⟨rfl, by rw [hU], by rw [hU]; exact hPc, va_K.moved hW.alike hK, hDc.weaken (fun _ _ _ _ => trivial)⟩⟩ rfl rfl hl.1 rfl (lv_room (Nat.le_of_ble_eq_true rfl)) dX0_newRow_23 ⟨Nat.le_of_ble_eq_true rfl, Nat.le_of_ble_eq_true rfl⟩) hS (fun q _ h => hFc q h) hFc (fun u t H1 locs ht hvm hw hB hz1 hk1 hS => ?_)
  obtain ⟨k_30, q_31⟩ := u
  try dsimp only at hw hB
  obtain ⟨hP1, hD1⟩ := hB
  rw [ht] at hP1
  obtain ⟨hP, hD⟩ := va_join (wr := [(q_2, .inl (Z.2 3, 7, .inr (.inr (.inr (.inr g_27)))))]) (w1 := [(q_28, .inr (0, [.int 0, .int 16510910, .int 0, .ref k_30, .ref q_31])), (k_30, .inl (Z.2 0, 5, .inl (fun _ => 0))), (q_31, .inl (Z.2 0, 5, .inl (fun _ => 0)))]) hP hD [1] [0] rfl rfl (by decide) (by decide) hk1 hFc hP1 hD1
  clear hPc hDc hP1 hD1 hk1 hz1 hFc ht hvm
  generalize H1 = H at hP hS ⊢
  have hP : va_P Z.1 vwCl [(q_2, .inl (Z.2 3, 7, .inr (.inr (.inr (.inr g_27))))), (q_28, .inr (0, [.int 0, .int 16510910, .int 0, .ref k_30, .ref q_31])), (k_30, .inl (Z.2 0, 5, .inl (fun _ => 0))), (q_31, .inl (Z.2 0, 5, .inl (fun _ => 0)))] H := hP
  have hD : va_D A [(q_2, .inl (Z.2 3, 7, .inr (.inr (.inr (.inr g_27))))), (q_28, .inr (0, [.int 0, .int 16510910, .int 0, .ref k_30, .ref q_31])), (k_30, .inl (Z.2 0, 5, .inl (fun _ => 0))), (q_31, .inl (Z.2 0, 5, .inl (fun _ => 0)))] := hD
  refine W.widen (k := 19) (n := 97) (Nat.le_of_ble_eq_true rfl) (Nat.le_of_ble_eq_true rfl) ?_
  refine va_astq (r := (RX0, TX0, 5)) hx hb hK hP hD hS 0 3 1 0 rfl rfl rfl rfl (z_in (by decide)) dX0_newRow_26 (fun H locs hP hD hS => ?_)
  have hP : va_P Z.1 vwCl [(q_2, .inl (Z.2 3, 7, .inr (.inr (.inr (.inr (va_up g_27 5 (some q_28))))))), (q_28, .inr (0, [.int 0, .int 16510910, .int 0, .ref k_30, .ref q_31])), (k_30, .inl (Z.2 0, 5, .inl (fun _ => 0))), (q_31, .inl (Z.2 0, 5, .inl (fun _ => 0)))] H := hP
  have hD : va_D A [(q_2, .inl (Z.2 3, 7, .inr (.inr (.inr (.inr (va_up g_27 5 (some q_28))))))), (q_28, .inr (0, [.int 0, .int 16510910, .int 0, .ref k_30, .ref q_31])), (k_30, .inl (Z.2 0, 5, .inl (fun _ => 0))), (q_31, .inl (Z.2 0, 5, .inl (fun _ => 0)))] := hD
  generalize (va_up g_27 5 (some q_28) : Nat → Option Nat) = g_32 at hP hD
  have hP := hP.sub (ws' := [(q_2, .inl (Z.2 3, 7, .inr (.inr (.inr (.inr g_32)))))]) [0] rfl
  have hD := hD.sub (ws' := [(q_2, .inl (Z.2 3, 7, .inr (.inr (.inr (.inr g_32)))))]) [0] (by decide) rfl
  refine lv_iinc (v := 6) (lv' := [(2, .int 6), (1, .ref q_2), (0, .int 7)]) hx hb dX0_newRow_27 hl (k := 0) rfl (by decide) (by decide) rfl (fun ls hl => ?_)
  refine lv_goto (tgt := 11) hx hb dX0_newRow_30 (by decide) ?_
  refine lv_iload_n hx hb dX0_newRow_11 rfl (lv_at hl 0 rfl) ?_
  refine lv_aload_n hx hb dX0_newRow_12 rfl (lv_at hl 1 rfl) ?_
  refine va_alen (v := 7) hx hb hK hP 0 3 rfl rfl (show Int32.ofNat 7 = 7 by decide) dX0_newRow_13 ?_
  refine lv_icmp_ge (tgt := 33) hx hb dX0_newRow_14 (by decide) (fun c9 => absurd c9 (by decide)) (fun _ => ?_)
  refine lv_aload_n hx hb dX0_newRow_17 rfl (lv_at hl 1 rfl) ?_
  refine lv_iload_n hx hb dX0_newRow_18 rfl (lv_at hl 0 rfl) ?_
  refine va_new (ci := 0) (fs := [.int 0, .int 0, .int 0, .null, .null]) (C := RX0) (T := TX0) (N := 5) hx hb hts hin0 tyX0 tyX0_ok hown (hts (.classLink RX0 10 RX0) (by decide +kernel)) (hts (.instantiable RX0 5) (by decide +kernel)) (hts (.initialized RX0) (by decide +kernel)) hK hP hD hS hA rfl (fun j hj => by rcases (show j = 0 ∨ j = 1 ∨ j = 2 ∨ j = 3 ∨ j = 4 by omega) with rfl | rfl | rfl | rfl | rfl <;> rfl) (Nat.le_of_ble_eq_true rfl) (Nat.le_of_ble_eq_true rfl) dX0_newRow_19 (fun q_33 H hP hD hS => ?_)
  have hP : va_P Z.1 vwCl [(q_2, .inl (Z.2 3, 7, .inr (.inr (.inr (.inr g_32))))), (q_33, .inr (0, [.int 0, .int 0, .int 0, .null, .null]))] H := hP
  have hD : va_D A [(q_2, .inl (Z.2 3, 7, .inr (.inr (.inr (.inr g_32))))), (q_33, .inr (0, [.int 0, .int 0, .int 0, .null, .null]))] := hD
  refine W.widen (k := 20) (n := 102) (Nat.le_of_ble_eq_true rfl) (Nat.le_of_ble_eq_true rfl) ?_
  refine lv_dup hx hb dX0_newRow_22 rfl ?_
  have hPc := hP.sub (ws' := [(q_33, .inr (0, [.int 0, .int 0, .int 0, .null, .null]))]) [1] rfl
  have hDc := hD.sub (ws' := [(q_33, .inr (0, [.int 0, .int 0, .int 0, .null, .null]))]) [1] (by decide) rfl
  have hFc := va_free (wc := [(q_33, .inr (0, [.int 0, .int 0, .int 0, .null, .null]))]) hD hS hA [1] rfl
  refine va_callv (va_runI (As := []) (rest := [.ref q_33, .int 6, .ref q_2]) ⟨hx, hb, hml, hown, hts⟩ (c_X0_init l Z H.size q_33) (cwI 0 hts gX0_newRow_X0_init rfl rfl rfl (hts (.initialized RX0) (by decide +kernel)) (hts (.methodLink RX0 35 yX0_init) (by decide +kernel)) (hts (.instanceMethod yX0_init) (by decide +kernel)) rfl (by decide +kernel) ⟨Nat.le_of_ble_eq_true rfl, Nat.le_of_ble_eq_true rfl⟩) ⟨fun a U g mk q => by obtain ⟨q0, q1, qP, qK, qD⟩ := q; exact ⟨q0, q1, qP, va_K.moved (u := U) (U := U.calling g mk a) (Vm.Alike.refl U.vm) qK, qD⟩, fun U hU hW => ⟨rfl, by rw [hU], by rw [hU]; exact hPc, va_K.moved hW.alike hK, hDc.weaken (fun _ _ _ _ => trivial)⟩⟩ rfl rfl hl.1 rfl (lv_room (Nat.le_of_ble_eq_true rfl)) dX0_newRow_23 ⟨Nat.le_of_ble_eq_true rfl, Nat.le_of_ble_eq_true rfl⟩) hS (fun q _ h => hFc q h) hFc (fun u t H1 locs ht hvm hw hB hz1 hk1 hS => ?_)
  obtain ⟨k_35, q_36⟩ := u
  try dsimp only at hw hB
  obtain ⟨hP1, hD1⟩ := hB
  rw [ht] at hP1
  obtain ⟨hP, hD⟩ := va_join (wr := [(q_2, .inl (Z.2 3, 7, .inr (.inr (.inr (.inr g_32)))))]) (w1 := [(q_33, .inr (0, [.int 0, .int 16510910, .int 0, .ref k_35, .ref q_36])), (k_35, .inl (Z.2 0, 5, .inl (fun _ => 0))), (q_36, .inl (Z.2 0, 5, .inl (fun _ => 0)))]) hP hD [1] [0] rfl rfl (by decide) (by decide) hk1 hFc hP1 hD1
  clear hPc hDc hP1 hD1 hk1 hz1 hFc ht hvm
  generalize H1 = H at hP hS ⊢
  have hP : va_P Z.1 vwCl [(q_2, .inl (Z.2 3, 7, .inr (.inr (.inr (.inr g_32))))), (q_33, .inr (0, [.int 0, .int 16510910, .int 0, .ref k_35, .ref q_36])), (k_35, .inl (Z.2 0, 5, .inl (fun _ => 0))), (q_36, .inl (Z.2 0, 5, .inl (fun _ => 0)))] H := hP
  have hD : va_D A [(q_2, .inl (Z.2 3, 7, .inr (.inr (.inr (.inr g_32))))), (q_33, .inr (0, [.int 0, .int 16510910, .int 0, .ref k_35, .ref q_36])), (k_35, .inl (Z.2 0, 5, .inl (fun _ => 0))), (q_36, .inl (Z.2 0, 5, .inl (fun _ => 0)))] := hD
  refine W.widen (k := 22) (n := 112) (Nat.le_of_ble_eq_true rfl) (Nat.le_of_ble_eq_true rfl) ?_
  refine va_astq (r := (RX0, TX0, 5)) hx hb hK hP hD hS 0 3 1 0 rfl rfl rfl rfl (z_in (by decide)) dX0_newRow_26 (fun H locs hP hD hS => ?_)
  have hP : va_P Z.1 vwCl [(q_2, .inl (Z.2 3, 7, .inr (.inr (.inr (.inr (va_up g_32 6 (some q_33))))))), (q_33, .inr (0, [.int 0, .int 16510910, .int 0, .ref k_35, .ref q_36])), (k_35, .inl (Z.2 0, 5, .inl (fun _ => 0))), (q_36, .inl (Z.2 0, 5, .inl (fun _ => 0)))] H := hP
  have hD : va_D A [(q_2, .inl (Z.2 3, 7, .inr (.inr (.inr (.inr (va_up g_32 6 (some q_33))))))), (q_33, .inr (0, [.int 0, .int 16510910, .int 0, .ref k_35, .ref q_36])), (k_35, .inl (Z.2 0, 5, .inl (fun _ => 0))), (q_36, .inl (Z.2 0, 5, .inl (fun _ => 0)))] := hD
  generalize (va_up g_32 6 (some q_33) : Nat → Option Nat) = g_37 at hP hD
  have hP := hP.sub (ws' := [(q_2, .inl (Z.2 3, 7, .inr (.inr (.inr (.inr g_37)))))]) [0] rfl
  have hD := hD.sub (ws' := [(q_2, .inl (Z.2 3, 7, .inr (.inr (.inr (.inr g_37)))))]) [0] (by decide) rfl
  refine lv_iinc (v := 7) (lv' := [(2, .int 7), (1, .ref q_2), (0, .int 7)]) hx hb dX0_newRow_27 hl (k := 0) rfl (by decide) (by decide) rfl (fun ls hl => ?_)
  refine lv_goto (tgt := 11) hx hb dX0_newRow_30 (by decide) ?_
  refine lv_iload_n hx hb dX0_newRow_11 rfl (lv_at hl 0 rfl) ?_
  refine lv_aload_n hx hb dX0_newRow_12 rfl (lv_at hl 1 rfl) ?_
  refine va_alen (v := 7) hx hb hK hP 0 3 rfl rfl (show Int32.ofNat 7 = 7 by decide) dX0_newRow_13 ?_
  refine lv_icmp_ge (tgt := 33) hx hb dX0_newRow_14 (by decide) (fun _ => ?_) (fun c9 => absurd c9 (by decide))
  refine lv_aload_n hx hb dX0_newRow_33 rfl (lv_at hl 1 rfl) ?_
  exact W.aret hx hb hr (Or.inr ⟨_, rfl⟩) (Or.inr ⟨_, rfl⟩) (fun t ht hW => ⟨⟨(), q_2, rfl, trivial, trivial⟩, hS.F ht⟩) hS.2.2 dX0_newRow_34
set_option maxHeartbeats 4000000 in
set_option maxRecDepth 100000 in
theorem c_X0_newRow_4 (l : Launch) (Z : gZ) (sz : Nat)   : Met l yX0_newRow wsX0_newRow ({ frames := 2, cells := 13, slots := 64, locals := 48 }) (va_Pc [.int 4] (fun U => U.heap.size = sz ∧ va_P Z.1 vwCl [] U.heap ∧ va_K Z.1 vwCl (gT Z) U ∧ va_D (fun _ => True) [] ∧ gN Z U)) (va_Qr (fun (u : Unit) => True) (fun (u : Unit) (r : Nat) (t : State) => True) (va_A [] sz)) 13 64 (va_A [] sz) := by
  refine Met.ofW (cc := cX0_newRow) (maxL := 3) (ret := (some (.array (.object "HalfAsked$Folk")))) (by decide) rfl ?_
  intro p e s m args below meth c s₁ B hml hv
  obtain ⟨rfl, hsz, hP, hK, hD0, hN⟩ := hv
  have hx := B.exec
  have hb := B.bytes
  have hr := B.returns
  have hts := atoms_spec (ws := wsX0_newRow) B.pre
  have hown : s.vm.findClass RX0 = some m.cls := findClass_of_methodNamed B.named
  have hlocks := B.notSynchronized
  subst hsz
  have hin0 : ∀ w ∈ wsX00, w ∈ wsX0_newRow := by decide +kernel
  have hD := hD0.self (sz := s.heap.size)
  generalize hAe : va_A [] s.heap.size = A at hD ⊢
  have hA : ∀ q : Nat, s.heap.size ≤ q → A q := fun q h => by rw [← hAe]; exact Or.inr h
  have hS : va_S A s.heap s.heap [] := va_S.rf
  have hP : va_P Z.1 vwCl [] s.heap := hP
  have hl := lv_entry ([.int 4]) (n := 3) (Nat.le_of_ble_eq_true rfl)
  rw [lg_entry_eq]
  generalize (lg_sl ([.int 4]) ++ List.replicate (3 - (lg_sl ([.int 4])).length) Slot.unset).toArray = ls at hl ⊢
  have hl : lv_has ls 3 [(0, .int 4)] := hl
  refine lv_iconst (v := 0) hx hb dX0_newRow_0 (by decide) ?_
  refine lv_iload_n hx hb dX0_newRow_1 rfl (lv_at hl 0 rfl) ?_
  refine va_mmax hx hb (hml.trans hl.1.symm) hown (hts (.methodLink RX0 29 Lib.Math.max.name) (by decide +kernel)) (hts (.static Lib.Math.max.name) (by decide +kernel)) (hts (.initialized "java/lang/Math") (by decide +kernel)) (hts (.code Lib.Math.max.name Lib.Math.max.code 2 (some .int)) (by decide +kernel)) (Nat.le_of_ble_eq_true rfl) (Nat.le_of_ble_eq_true rfl) (Nat.le_of_ble_eq_true rfl) (Nat.le_of_ble_eq_true rfl) dX0_newRow_2 ?_
  refine lv_topi (fun f_1 ef_1 => ?_)
  obtain rfl : f_1 = 4 := ef_1.trans (by decide)
  refine z_newFolk (N' := 4) hx hb hown (hts (.classLink RX0 10 RX0) (by decide +kernel)) hN hK hP hD hS hA (by decide) (by decide) (Nat.le_of_ble_eq_true rfl) (Nat.le_of_ble_eq_true rfl) (Nat.le_of_ble_eq_true rfl) dX0_newRow_5 (fun q_2 H hP hD hS => ?_)
  have hP : va_P Z.1 vwCl [(q_2, .inl (Z.2 3, 4, .inr (.inr (.inr (.inr (fun _ => none))))))] H := hP
  have hD : va_D A [(q_2, .inl (Z.2 3, 4, .inr (.inr (.inr (.inr (fun _ => none))))))] := hD
  refine W.widen (k := 1) (n := 4) (Nat.le_of_ble_eq_true rfl) (Nat.le_of_ble_eq_true rfl) ?_
  refine lv_astore_n (lv' := [(1, .ref q_2), (0, .int 4)]) hx hb dX0_newRow_8 rfl hl (by decide) rfl (fun ls hl => ?_)
  refine lv_iconst (v := 0) hx hb dX0_newRow_9 (by decide) ?_
  refine lv_istore_n (lv' := [(2, .int 0), (1, .ref q_2), (0, .int 4)]) hx hb dX0_newRow_10 rfl hl (by decide) rfl (fun ls hl => ?_)
  refine lv_iload_n hx hb dX0_newRow_11 rfl (lv_at hl 0 rfl) ?_
  refine lv_aload_n hx hb dX0_newRow_12 rfl (lv_at hl 1 rfl) ?_
  refine va_alen (v := 4) hx hb hK hP 0 3 rfl rfl (show Int32.ofNat 4 = 4 by decide) dX0_newRow_13 ?_
  refine lv_icmp_ge (tgt := 33) hx hb dX0_newRow_14 (by decide) (fun c9 => absurd c9 (by decide)) (fun _ => ?_)
  refine lv_aload_n hx hb dX0_newRow_17 rfl (lv_at hl 1 rfl) ?_
  refine lv_iload_n hx hb dX0_newRow_18 rfl (lv_at hl 0 rfl) ?_
  refine va_new (ci := 0) (fs := [.int 0, .int 0, .int 0, .null, .null]) (C := RX0) (T := TX0) (N := 5) hx hb hts hin0 tyX0 tyX0_ok hown (hts (.classLink RX0 10 RX0) (by decide +kernel)) (hts (.instantiable RX0 5) (by decide +kernel)) (hts (.initialized RX0) (by decide +kernel)) hK hP hD hS hA rfl (fun j hj => by rcases (show j = 0 ∨ j = 1 ∨ j = 2 ∨ j = 3 ∨ j = 4 by omega) with rfl | rfl | rfl | rfl | rfl <;> rfl) (Nat.le_of_ble_eq_true rfl) (Nat.le_of_ble_eq_true rfl) dX0_newRow_19 (fun q_3 H hP hD hS => ?_)
  have hP : va_P Z.1 vwCl [(q_2, .inl (Z.2 3, 4, .inr (.inr (.inr (.inr (fun _ => none)))))), (q_3, .inr (0, [.int 0, .int 0, .int 0, .null, .null]))] H := hP
  have hD : va_D A [(q_2, .inl (Z.2 3, 4, .inr (.inr (.inr (.inr (fun _ => none)))))), (q_3, .inr (0, [.int 0, .int 0, .int 0, .null, .null]))] := hD
  refine W.widen (k := 2) (n := 9) (Nat.le_of_ble_eq_true rfl) (Nat.le_of_ble_eq_true rfl) ?_
  refine lv_dup hx hb dX0_newRow_22 rfl ?_
  have hPc := hP.sub (ws' := [(q_3, .inr (0, [.int 0, .int 0, .int 0, .null, .null]))]) [1] rfl
  have hDc := hD.sub (ws' := [(q_3, .inr (0, [.int 0, .int 0, .int 0, .null, .null]))]) [1] (by decide) rfl
  have hFc := va_free (wc := [(q_3, .inr (0, [.int 0, .int 0, .int 0, .null, .null]))]) hD hS hA [1] rfl
  refine va_callv (va_runI (As := []) (rest := [.ref q_3, .int 0, .ref q_2]) ⟨hx, hb, hml, hown, hts⟩ (c_X0_init l Z H.size q_3) (cwI 0 hts gX0_newRow_X0_init rfl rfl rfl (hts (.initialized RX0) (by decide +kernel)) (hts (.methodLink RX0 35 yX0_init) (by decide +kernel)) (hts (.instanceMethod yX0_init) (by decide +kernel)) rfl (by decide +kernel) ⟨Nat.le_of_ble_eq_true rfl, Nat.le_of_ble_eq_true rfl⟩) ⟨fun a U g mk q => by obtain ⟨q0, q1, qP, qK, qD⟩ := q; exact ⟨q0, q1, qP, va_K.moved (u := U) (U := U.calling g mk a) (Vm.Alike.refl U.vm) qK, qD⟩, fun U hU hW => ⟨rfl, by rw [hU], by rw [hU]; exact hPc, va_K.moved hW.alike hK, hDc.weaken (fun _ _ _ _ => trivial)⟩⟩ rfl rfl hl.1 rfl (lv_room (Nat.le_of_ble_eq_true rfl)) dX0_newRow_23 ⟨Nat.le_of_ble_eq_true rfl, Nat.le_of_ble_eq_true rfl⟩) hS (fun q _ h => hFc q h) hFc (fun u t H1 locs ht hvm hw hB hz1 hk1 hS => ?_)
  obtain ⟨k_5, q_6⟩ := u
  try dsimp only at hw hB
  obtain ⟨hP1, hD1⟩ := hB
  rw [ht] at hP1
  obtain ⟨hP, hD⟩ := va_join (wr := [(q_2, .inl (Z.2 3, 4, .inr (.inr (.inr (.inr (fun _ => none))))))]) (w1 := [(q_3, .inr (0, [.int 0, .int 16510910, .int 0, .ref k_5, .ref q_6])), (k_5, .inl (Z.2 0, 5, .inl (fun _ => 0))), (q_6, .inl (Z.2 0, 5, .inl (fun _ => 0)))]) hP hD [1] [0] rfl rfl (by decide) (by decide) hk1 hFc hP1 hD1
  clear hPc hDc hP1 hD1 hk1 hz1 hFc ht hvm
  generalize H1 = H at hP hS ⊢
  have hP : va_P Z.1 vwCl [(q_2, .inl (Z.2 3, 4, .inr (.inr (.inr (.inr (fun _ => none)))))), (q_3, .inr (0, [.int 0, .int 16510910, .int 0, .ref k_5, .ref q_6])), (k_5, .inl (Z.2 0, 5, .inl (fun _ => 0))), (q_6, .inl (Z.2 0, 5, .inl (fun _ => 0)))] H := hP
  have hD : va_D A [(q_2, .inl (Z.2 3, 4, .inr (.inr (.inr (.inr (fun _ => none)))))), (q_3, .inr (0, [.int 0, .int 16510910, .int 0, .ref k_5, .ref q_6])), (k_5, .inl (Z.2 0, 5, .inl (fun _ => 0))), (q_6, .inl (Z.2 0, 5, .inl (fun _ => 0)))] := hD
  refine W.widen (k := 4) (n := 19) (Nat.le_of_ble_eq_true rfl) (Nat.le_of_ble_eq_true rfl) ?_
  refine va_astq (r := (RX0, TX0, 5)) hx hb hK hP hD hS 0 3 1 0 rfl rfl rfl rfl (z_in (by decide)) dX0_newRow_26 (fun H locs hP hD hS => ?_)
  have hP : va_P Z.1 vwCl [(q_2, .inl (Z.2 3, 4, .inr (.inr (.inr (.inr (va_up (fun _ => none) 0 (some q_3))))))), (q_3, .inr (0, [.int 0, .int 16510910, .int 0, .ref k_5, .ref q_6])), (k_5, .inl (Z.2 0, 5, .inl (fun _ => 0))), (q_6, .inl (Z.2 0, 5, .inl (fun _ => 0)))] H := hP
  have hD : va_D A [(q_2, .inl (Z.2 3, 4, .inr (.inr (.inr (.inr (va_up (fun _ => none) 0 (some q_3))))))), (q_3, .inr (0, [.int 0, .int 16510910, .int 0, .ref k_5, .ref q_6])), (k_5, .inl (Z.2 0, 5, .inl (fun _ => 0))), (q_6, .inl (Z.2 0, 5, .inl (fun _ => 0)))] := hD
  generalize (va_up (fun _ => none) 0 (some q_3) : Nat → Option Nat) = g_7 at hP hD
  have hP := hP.sub (ws' := [(q_2, .inl (Z.2 3, 4, .inr (.inr (.inr (.inr g_7)))))]) [0] rfl
  have hD := hD.sub (ws' := [(q_2, .inl (Z.2 3, 4, .inr (.inr (.inr (.inr g_7)))))]) [0] (by decide) rfl
  refine lv_iinc (v := 1) (lv' := [(2, .int 1), (1, .ref q_2), (0, .int 4)]) hx hb dX0_newRow_27 hl (k := 0) rfl (by decide) (by decide) rfl (fun ls hl => ?_)
  refine lv_goto (tgt := 11) hx hb dX0_newRow_30 (by decide) ?_
  refine lv_iload_n hx hb dX0_newRow_11 rfl (lv_at hl 0 rfl) ?_
  refine lv_aload_n hx hb dX0_newRow_12 rfl (lv_at hl 1 rfl) ?_
  refine va_alen (v := 4) hx hb hK hP 0 3 rfl rfl (show Int32.ofNat 4 = 4 by decide) dX0_newRow_13 ?_
  refine lv_icmp_ge (tgt := 33) hx hb dX0_newRow_14 (by decide) (fun c9 => absurd c9 (by decide)) (fun _ => ?_)
  refine lv_aload_n hx hb dX0_newRow_17 rfl (lv_at hl 1 rfl) ?_
  refine lv_iload_n hx hb dX0_newRow_18 rfl (lv_at hl 0 rfl) ?_
  refine va_new (ci := 0) (fs := [.int 0, .int 0, .int 0, .null, .null]) (C := RX0) (T := TX0) (N := 5) hx hb hts hin0 tyX0 tyX0_ok hown (hts (.classLink RX0 10 RX0) (by decide +kernel)) (hts (.instantiable RX0 5) (by decide +kernel)) (hts (.initialized RX0) (by decide +kernel)) hK hP hD hS hA rfl (fun j hj => by rcases (show j = 0 ∨ j = 1 ∨ j = 2 ∨ j = 3 ∨ j = 4 by omega) with rfl | rfl | rfl | rfl | rfl <;> rfl) (Nat.le_of_ble_eq_true rfl) (Nat.le_of_ble_eq_true rfl) dX0_newRow_19 (fun q_8 H hP hD hS => ?_)
  have hP : va_P Z.1 vwCl [(q_2, .inl (Z.2 3, 4, .inr (.inr (.inr (.inr g_7))))), (q_8, .inr (0, [.int 0, .int 0, .int 0, .null, .null]))] H := hP
  have hD : va_D A [(q_2, .inl (Z.2 3, 4, .inr (.inr (.inr (.inr g_7))))), (q_8, .inr (0, [.int 0, .int 0, .int 0, .null, .null]))] := hD
  refine W.widen (k := 5) (n := 24) (Nat.le_of_ble_eq_true rfl) (Nat.le_of_ble_eq_true rfl) ?_
  refine lv_dup hx hb dX0_newRow_22 rfl ?_
  have hPc := hP.sub (ws' := [(q_8, .inr (0, [.int 0, .int 0, .int 0, .null, .null]))]) [1] rfl
  have hDc := hD.sub (ws' := [(q_8, .inr (0, [.int 0, .int 0, .int 0, .null, .null]))]) [1] (by decide) rfl
  have hFc := va_free (wc := [(q_8, .inr (0, [.int 0, .int 0, .int 0, .null, .null]))]) hD hS hA [1] rfl
  refine va_callv (va_runI (As := []) (rest := [.ref q_8, .int 1, .ref q_2]) ⟨hx, hb, hml, hown, hts⟩ (c_X0_init l Z H.size q_8) (cwI 0 hts gX0_newRow_X0_init rfl rfl rfl (hts (.initialized RX0) (by decide +kernel)) (hts (.methodLink RX0 35 yX0_init) (by decide +kernel)) (hts (.instanceMethod yX0_init) (by decide +kernel)) rfl (by decide +kernel) ⟨Nat.le_of_ble_eq_true rfl, Nat.le_of_ble_eq_true rfl⟩) ⟨fun a U g mk q => by obtain ⟨q0, q1, qP, qK, qD⟩ := q; exact ⟨q0, q1, qP, va_K.moved (u := U) (U := U.calling g mk a) (Vm.Alike.refl U.vm) qK, qD⟩, fun U hU hW => ⟨rfl, by rw [hU], by rw [hU]; exact hPc, va_K.moved hW.alike hK, hDc.weaken (fun _ _ _ _ => trivial)⟩⟩ rfl rfl hl.1 rfl (lv_room (Nat.le_of_ble_eq_true rfl)) dX0_newRow_23 ⟨Nat.le_of_ble_eq_true rfl, Nat.le_of_ble_eq_true rfl⟩) hS (fun q _ h => hFc q h) hFc (fun u t H1 locs ht hvm hw hB hz1 hk1 hS => ?_)
  obtain ⟨k_10, q_11⟩ := u
  try dsimp only at hw hB
  obtain ⟨hP1, hD1⟩ := hB
  rw [ht] at hP1
  obtain ⟨hP, hD⟩ := va_join (wr := [(q_2, .inl (Z.2 3, 4, .inr (.inr (.inr (.inr g_7)))))]) (w1 := [(q_8, .inr (0, [.int 0, .int 16510910, .int 0, .ref k_10, .ref q_11])), (k_10, .inl (Z.2 0, 5, .inl (fun _ => 0))), (q_11, .inl (Z.2 0, 5, .inl (fun _ => 0)))]) hP hD [1] [0] rfl rfl (by decide) (by decide) hk1 hFc hP1 hD1
  clear hPc hDc hP1 hD1 hk1 hz1 hFc ht hvm
  generalize H1 = H at hP hS ⊢
  have hP : va_P Z.1 vwCl [(q_2, .inl (Z.2 3, 4, .inr (.inr (.inr (.inr g_7))))), (q_8, .inr (0, [.int 0, .int 16510910, .int 0, .ref k_10, .ref q_11])), (k_10, .inl (Z.2 0, 5, .inl (fun _ => 0))), (q_11, .inl (Z.2 0, 5, .inl (fun _ => 0)))] H := hP
  have hD : va_D A [(q_2, .inl (Z.2 3, 4, .inr (.inr (.inr (.inr g_7))))), (q_8, .inr (0, [.int 0, .int 16510910, .int 0, .ref k_10, .ref q_11])), (k_10, .inl (Z.2 0, 5, .inl (fun _ => 0))), (q_11, .inl (Z.2 0, 5, .inl (fun _ => 0)))] := hD
  refine W.widen (k := 7) (n := 34) (Nat.le_of_ble_eq_true rfl) (Nat.le_of_ble_eq_true rfl) ?_
  refine va_astq (r := (RX0, TX0, 5)) hx hb hK hP hD hS 0 3 1 0 rfl rfl rfl rfl (z_in (by decide)) dX0_newRow_26 (fun H locs hP hD hS => ?_)
  have hP : va_P Z.1 vwCl [(q_2, .inl (Z.2 3, 4, .inr (.inr (.inr (.inr (va_up g_7 1 (some q_8))))))), (q_8, .inr (0, [.int 0, .int 16510910, .int 0, .ref k_10, .ref q_11])), (k_10, .inl (Z.2 0, 5, .inl (fun _ => 0))), (q_11, .inl (Z.2 0, 5, .inl (fun _ => 0)))] H := hP
  have hD : va_D A [(q_2, .inl (Z.2 3, 4, .inr (.inr (.inr (.inr (va_up g_7 1 (some q_8))))))), (q_8, .inr (0, [.int 0, .int 16510910, .int 0, .ref k_10, .ref q_11])), (k_10, .inl (Z.2 0, 5, .inl (fun _ => 0))), (q_11, .inl (Z.2 0, 5, .inl (fun _ => 0)))] := hD
  generalize (va_up g_7 1 (some q_8) : Nat → Option Nat) = g_12 at hP hD
  have hP := hP.sub (ws' := [(q_2, .inl (Z.2 3, 4, .inr (.inr (.inr (.inr g_12)))))]) [0] rfl
  have hD := hD.sub (ws' := [(q_2, .inl (Z.2 3, 4, .inr (.inr (.inr (.inr g_12)))))]) [0] (by decide) rfl
  refine lv_iinc (v := 2) (lv' := [(2, .int 2), (1, .ref q_2), (0, .int 4)]) hx hb dX0_newRow_27 hl (k := 0) rfl (by decide) (by decide) rfl (fun ls hl => ?_)
  refine lv_goto (tgt := 11) hx hb dX0_newRow_30 (by decide) ?_
  refine lv_iload_n hx hb dX0_newRow_11 rfl (lv_at hl 0 rfl) ?_
  refine lv_aload_n hx hb dX0_newRow_12 rfl (lv_at hl 1 rfl) ?_
  refine va_alen (v := 4) hx hb hK hP 0 3 rfl rfl (show Int32.ofNat 4 = 4 by decide) dX0_newRow_13 ?_
  refine lv_icmp_ge (tgt := 33) hx hb dX0_newRow_14 (by decide) (fun c9 => absurd c9 (by decide)) (fun _ => ?_)
  refine lv_aload_n hx hb dX0_newRow_17 rfl (lv_at hl 1 rfl) ?_
  refine lv_iload_n hx hb dX0_newRow_18 rfl (lv_at hl 0 rfl) ?_
  refine va_new (ci := 0) (fs := [.int 0, .int 0, .int 0, .null, .null]) (C := RX0) (T := TX0) (N := 5) hx hb hts hin0 tyX0 tyX0_ok hown (hts (.classLink RX0 10 RX0) (by decide +kernel)) (hts (.instantiable RX0 5) (by decide +kernel)) (hts (.initialized RX0) (by decide +kernel)) hK hP hD hS hA rfl (fun j hj => by rcases (show j = 0 ∨ j = 1 ∨ j = 2 ∨ j = 3 ∨ j = 4 by omega) with rfl | rfl | rfl | rfl | rfl <;> rfl) (Nat.le_of_ble_eq_true rfl) (Nat.le_of_ble_eq_true rfl) dX0_newRow_19 (fun q_13 H hP hD hS => ?_)
  have hP : va_P Z.1 vwCl [(q_2, .inl (Z.2 3, 4, .inr (.inr (.inr (.inr g_12))))), (q_13, .inr (0, [.int 0, .int 0, .int 0, .null, .null]))] H := hP
  have hD : va_D A [(q_2, .inl (Z.2 3, 4, .inr (.inr (.inr (.inr g_12))))), (q_13, .inr (0, [.int 0, .int 0, .int 0, .null, .null]))] := hD
  refine W.widen (k := 8) (n := 39) (Nat.le_of_ble_eq_true rfl) (Nat.le_of_ble_eq_true rfl) ?_
  refine lv_dup hx hb dX0_newRow_22 rfl ?_
  have hPc := hP.sub (ws' := [(q_13, .inr (0, [.int 0, .int 0, .int 0, .null, .null]))]) [1] rfl
  have hDc := hD.sub (ws' := [(q_13, .inr (0, [.int 0, .int 0, .int 0, .null, .null]))]) [1] (by decide) rfl
  have hFc := va_free (wc := [(q_13, .inr (0, [.int 0, .int 0, .int 0, .null, .null]))]) hD hS hA [1] rfl
  refine va_callv (va_runI (As := []) (rest := [.ref q_13, .int 2, .ref q_2]) ⟨hx, hb, hml, hown, hts⟩ (c_X0_init l Z H.size q_13) (cwI 0 hts gX0_newRow_X0_init rfl rfl rfl (hts (.initialized RX0) (by decide +kernel)) (hts (.methodLink RX0 35 yX0_init) (by decide +kernel)) (hts (.instanceMethod yX0_init) (by decide +kernel)) rfl (by decide +kernel) ⟨Nat.le_of_ble_eq_true rfl, Nat.le_of_ble_eq_true rfl⟩) ⟨fun a U g mk q => by obtain ⟨q0, q1, qP, qK, qD⟩ := q; exact ⟨q0, q1, qP, va_K.moved (u := U) (U := U.calling g mk a) (Vm.Alike.refl U.vm) qK, qD⟩, fun U hU hW => ⟨rfl, by rw [hU], by rw [hU]; exact hPc, va_K.moved hW.alike hK, hDc.weaken (fun _ _ _ _ => trivial)⟩⟩ rfl rfl hl.1 rfl (lv_room (Nat.le_of_ble_eq_true rfl)) dX0_newRow_23 ⟨Nat.le_of_ble_eq_true rfl, Nat.le_of_ble_eq_true rfl⟩) hS (fun q _ h => hFc q h) hFc (fun u t H1 locs ht hvm hw hB hz1 hk1 hS => ?_)
  obtain ⟨k_15, q_16⟩ := u
  try dsimp only at hw hB
  obtain ⟨hP1, hD1⟩ := hB
  rw [ht] at hP1
  obtain ⟨hP, hD⟩ := va_join (wr := [(q_2, .inl (Z.2 3, 4, .inr (.inr (.inr (.inr g_12)))))]) (w1 := [(q_13, .inr (0, [.int 0, .int 16510910, .int 0, .ref k_15, .ref q_16])), (k_15, .inl (Z.2 0, 5, .inl (fun _ => 0))), (q_16, .inl (Z.2 0, 5, .inl (fun _ => 0)))]) hP hD [1] [0] rfl rfl (by decide) (by decide) hk1 hFc hP1 hD1
  clear hPc hDc hP1 hD1 hk1 hz1 hFc ht hvm
  generalize H1 = H at hP hS ⊢
  have hP : va_P Z.1 vwCl [(q_2, .inl (Z.2 3, 4, .inr (.inr (.inr (.inr g_12))))), (q_13, .inr (0, [.int 0, .int 16510910, .int 0, .ref k_15, .ref q_16])), (k_15, .inl (Z.2 0, 5, .inl (fun _ => 0))), (q_16, .inl (Z.2 0, 5, .inl (fun _ => 0)))] H := hP
  have hD : va_D A [(q_2, .inl (Z.2 3, 4, .inr (.inr (.inr (.inr g_12))))), (q_13, .inr (0, [.int 0, .int 16510910, .int 0, .ref k_15, .ref q_16])), (k_15, .inl (Z.2 0, 5, .inl (fun _ => 0))), (q_16, .inl (Z.2 0, 5, .inl (fun _ => 0)))] := hD
  refine W.widen (k := 10) (n := 49) (Nat.le_of_ble_eq_true rfl) (Nat.le_of_ble_eq_true rfl) ?_
  refine va_astq (r := (RX0, TX0, 5)) hx hb hK hP hD hS 0 3 1 0 rfl rfl rfl rfl (z_in (by decide)) dX0_newRow_26 (fun H locs hP hD hS => ?_)
  have hP : va_P Z.1 vwCl [(q_2, .inl (Z.2 3, 4, .inr (.inr (.inr (.inr (va_up g_12 2 (some q_13))))))), (q_13, .inr (0, [.int 0, .int 16510910, .int 0, .ref k_15, .ref q_16])), (k_15, .inl (Z.2 0, 5, .inl (fun _ => 0))), (q_16, .inl (Z.2 0, 5, .inl (fun _ => 0)))] H := hP
  have hD : va_D A [(q_2, .inl (Z.2 3, 4, .inr (.inr (.inr (.inr (va_up g_12 2 (some q_13))))))), (q_13, .inr (0, [.int 0, .int 16510910, .int 0, .ref k_15, .ref q_16])), (k_15, .inl (Z.2 0, 5, .inl (fun _ => 0))), (q_16, .inl (Z.2 0, 5, .inl (fun _ => 0)))] := hD
  generalize (va_up g_12 2 (some q_13) : Nat → Option Nat) = g_17 at hP hD
  have hP := hP.sub (ws' := [(q_2, .inl (Z.2 3, 4, .inr (.inr (.inr (.inr g_17)))))]) [0] rfl
  have hD := hD.sub (ws' := [(q_2, .inl (Z.2 3, 4, .inr (.inr (.inr (.inr g_17)))))]) [0] (by decide) rfl
  refine lv_iinc (v := 3) (lv' := [(2, .int 3), (1, .ref q_2), (0, .int 4)]) hx hb dX0_newRow_27 hl (k := 0) rfl (by decide) (by decide) rfl (fun ls hl => ?_)
  refine lv_goto (tgt := 11) hx hb dX0_newRow_30 (by decide) ?_
  refine lv_iload_n hx hb dX0_newRow_11 rfl (lv_at hl 0 rfl) ?_
  refine lv_aload_n hx hb dX0_newRow_12 rfl (lv_at hl 1 rfl) ?_
  refine va_alen (v := 4) hx hb hK hP 0 3 rfl rfl (show Int32.ofNat 4 = 4 by decide) dX0_newRow_13 ?_
  refine lv_icmp_ge (tgt := 33) hx hb dX0_newRow_14 (by decide) (fun c9 => absurd c9 (by decide)) (fun _ => ?_)
  refine lv_aload_n hx hb dX0_newRow_17 rfl (lv_at hl 1 rfl) ?_
  refine lv_iload_n hx hb dX0_newRow_18 rfl (lv_at hl 0 rfl) ?_
  refine va_new (ci := 0) (fs := [.int 0, .int 0, .int 0, .null, .null]) (C := RX0) (T := TX0) (N := 5) hx hb hts hin0 tyX0 tyX0_ok hown (hts (.classLink RX0 10 RX0) (by decide +kernel)) (hts (.instantiable RX0 5) (by decide +kernel)) (hts (.initialized RX0) (by decide +kernel)) hK hP hD hS hA rfl (fun j hj => by rcases (show j = 0 ∨ j = 1 ∨ j = 2 ∨ j = 3 ∨ j = 4 by omega) with rfl | rfl | rfl | rfl | rfl <;> rfl) (Nat.le_of_ble_eq_true rfl) (Nat.le_of_ble_eq_true rfl) dX0_newRow_19 (fun q_18 H hP hD hS => ?_)
  have hP : va_P Z.1 vwCl [(q_2, .inl (Z.2 3, 4, .inr (.inr (.inr (.inr g_17))))), (q_18, .inr (0, [.int 0, .int 0, .int 0, .null, .null]))] H := hP
  have hD : va_D A [(q_2, .inl (Z.2 3, 4, .inr (.inr (.inr (.inr g_17))))), (q_18, .inr (0, [.int 0, .int 0, .int 0, .null, .null]))] := hD
  refine W.widen (k := 11) (n := 54) (Nat.le_of_ble_eq_true rfl) (Nat.le_of_ble_eq_true rfl) ?_
  refine lv_dup hx hb dX0_newRow_22 rfl ?_
  have hPc := hP.sub (ws' := [(q_18, .inr (0, [.int 0, .int 0, .int 0, .null, .null]))]) [1] rfl
  have hDc := hD.sub (ws' := [(q_18, .inr (0, [.int 0, .int 0, .int 0, .null, .null]))]) [1] (by decide) rfl
  have hFc := va_free (wc := [(q_18, .inr (0, [.int 0, .int 0, .int 0, .null, .null]))]) hD hS hA [1] rfl
  refine va_callv (va_runI (As := []) (rest := [.ref q_18, .int 3, .ref q_2]) ⟨hx, hb, hml, hown, hts⟩ (c_X0_init l Z H.size q_18) (cwI 0 hts gX0_newRow_X0_init rfl rfl rfl (hts (.initialized RX0) (by decide +kernel)) (hts (.methodLink RX0 35 yX0_init) (by decide +kernel)) (hts (.instanceMethod yX0_init) (by decide +kernel)) rfl (by decide +kernel) ⟨Nat.le_of_ble_eq_true rfl, Nat.le_of_ble_eq_true rfl⟩) ⟨fun a U g mk q => by obtain ⟨q0, q1, qP, qK, qD⟩ := q; exact ⟨q0, q1, qP, va_K.moved (u := U) (U := U.calling g mk a) (Vm.Alike.refl U.vm) qK, qD⟩, fun U hU hW => ⟨rfl, by rw [hU], by rw [hU]; exact hPc, va_K.moved hW.alike hK, hDc.weaken (fun _ _ _ _ => trivial)⟩⟩ rfl rfl hl.1 rfl (lv_room (Nat.le_of_ble_eq_true rfl)) dX0_newRow_23 ⟨Nat.le_of_ble_eq_true rfl, Nat.le_of_ble_eq_true rfl⟩) hS (fun q _ h => hFc q h) hFc (fun u t H1 locs ht hvm hw hB hz1 hk1 hS => ?_)
  obtain ⟨k_20, q_21⟩ := u
  try dsimp only at hw hB
  obtain ⟨hP1, hD1⟩ := hB
  rw [ht] at hP1
  obtain ⟨hP, hD⟩ := va_join (wr := [(q_2, .inl (Z.2 3, 4, .inr (.inr (.inr (.inr g_17)))))]) (w1 := [(q_18, .inr (0, [.int 0, .int 16510910, .int 0, .ref k_20, .ref q_21])), (k_20, .inl (Z.2 0, 5, .inl (fun _ => 0))), (q_21, .inl (Z.2 0, 5, .inl (fun _ => 0)))]) hP hD [1] [0] rfl rfl (by decide) (by decide) hk1 hFc hP1 hD1
  clear hPc hDc hP1 hD1 hk1 hz1 hFc ht hvm
  generalize H1 = H at hP hS ⊢
  have hP : va_P Z.1 vwCl [(q_2, .inl (Z.2 3, 4, .inr (.inr (.inr (.inr g_17))))), (q_18, .inr (0, [.int 0, .int 16510910, .int 0, .ref k_20, .ref q_21])), (k_20, .inl (Z.2 0, 5, .inl (fun _ => 0))), (q_21, .inl (Z.2 0, 5, .inl (fun _ => 0)))] H := hP
  have hD : va_D A [(q_2, .inl (Z.2 3, 4, .inr (.inr (.inr (.inr g_17))))), (q_18, .inr (0, [.int 0, .int 16510910, .int 0, .ref k_20, .ref q_21])), (k_20, .inl (Z.2 0, 5, .inl (fun _ => 0))), (q_21, .inl (Z.2 0, 5, .inl (fun _ => 0)))] := hD
  refine W.widen (k := 13) (n := 64) (Nat.le_of_ble_eq_true rfl) (Nat.le_of_ble_eq_true rfl) ?_
  refine va_astq (r := (RX0, TX0, 5)) hx hb hK hP hD hS 0 3 1 0 rfl rfl rfl rfl (z_in (by decide)) dX0_newRow_26 (fun H locs hP hD hS => ?_)
  have hP : va_P Z.1 vwCl [(q_2, .inl (Z.2 3, 4, .inr (.inr (.inr (.inr (va_up g_17 3 (some q_18))))))), (q_18, .inr (0, [.int 0, .int 16510910, .int 0, .ref k_20, .ref q_21])), (k_20, .inl (Z.2 0, 5, .inl (fun _ => 0))), (q_21, .inl (Z.2 0, 5, .inl (fun _ => 0)))] H := hP
  have hD : va_D A [(q_2, .inl (Z.2 3, 4, .inr (.inr (.inr (.inr (va_up g_17 3 (some q_18))))))), (q_18, .inr (0, [.int 0, .int 16510910, .int 0, .ref k_20, .ref q_21])), (k_20, .inl (Z.2 0, 5, .inl (fun _ => 0))), (q_21, .inl (Z.2 0, 5, .inl (fun _ => 0)))] := hD
  generalize (va_up g_17 3 (some q_18) : Nat → Option Nat) = g_22 at hP hD
  have hP := hP.sub (ws' := [(q_2, .inl (Z.2 3, 4, .inr (.inr (.inr (.inr g_22)))))]) [0] rfl
  have hD := hD.sub (ws' := [(q_2, .inl (Z.2 3, 4, .inr (.inr (.inr (.inr g_22)))))]) [0] (by decide) rfl
  refine lv_iinc (v := 4) (lv' := [(2, .int 4), (1, .ref q_2), (0, .int 4)]) hx hb dX0_newRow_27 hl (k := 0) rfl (by decide) (by decide) rfl (fun ls hl => ?_)
  refine lv_goto (tgt := 11) hx hb dX0_newRow_30 (by decide) ?_
  refine lv_iload_n hx hb dX0_newRow_11 rfl (lv_at hl 0 rfl) ?_
  refine lv_aload_n hx hb dX0_newRow_12 rfl (lv_at hl 1 rfl) ?_
  refine va_alen (v := 4) hx hb hK hP 0 3 rfl rfl (show Int32.ofNat 4 = 4 by decide) dX0_newRow_13 ?_
  refine lv_icmp_ge (tgt := 33) hx hb dX0_newRow_14 (by decide) (fun _ => ?_) (fun c9 => absurd c9 (by decide))
  refine lv_aload_n hx hb dX0_newRow_33 rfl (lv_at hl 1 rfl) ?_
  exact W.aret hx hb hr (Or.inr ⟨_, rfl⟩) (Or.inr ⟨_, rfl⟩) (fun t ht hW => ⟨⟨(), q_2, rfl, trivial, trivial⟩, hS.F ht⟩) hS.2.2 dX0_newRow_34
set_option maxHeartbeats 4000000 in
set_option maxRecDepth 100000 in
theorem c_X6_init (l : Launch) (Z : gZ) (sz : Nat) (h0 : Nat)  : Met l yX6_init wsX6_init ({ frames := 3, cells := 31, slots := 164, locals := 70 }) (va_Pc [.ref h0] (fun U => U.heap.size = sz ∧ va_P Z.1 vwCl [(h0, .inr (6, [.int 0, .int 0, .int 0, .null, .null]))] U.heap ∧ va_K Z.1 vwCl (gT Z) U ∧ va_D (fun _ => True) [(h0, .inr (6, [.int 0, .int 0, .int 0, .null, .null]))] ∧ gN Z U)) (va_Qv (fun (u : Unit) => True) (fun (u : Unit) (t : State) => True) (va_A [(h0, .inr (6, [.int 0, .int 0, .int 0, .null, .null]))] sz)) 31 164 (va_A [(h0, .inr (6, [.int 0, .int 0, .int 0, .null, .null]))] sz) := by
  refine Met.ofW (cc := cX6_init) (maxL := 1) (ret := none) (by decide) rfl ?_
  intro p e s m args below meth c s₁ B hml hv
  obtain ⟨rfl, hsz, hP, hK, hD0, hN⟩ := hv
  have hx := B.exec
  have hb := B.bytes
  have hr := B.returns
  have hts := atoms_spec (ws := wsX6_init) B.pre
  have hown : s.vm.findClass RX6 = some m.cls := findClass_of_methodNamed B.named
  have hlocks := B.notSynchronized
  have hin : meth.name = "<init>" := (name_of_methodNamed B.named B.method).1
  subst hsz
  have hin2 : ∀ w ∈ wsX20, w ∈ wsX6_init := by decide +kernel
  have hin6 : ∀ w ∈ wsX60, w ∈ wsX6_init := by decide +kernel
  have hD := hD0.self (sz := s.heap.size)
  generalize hAe : va_A [(h0, .inr (6, [.int 0, .int 0, .int 0, .null, .null]))] s.heap.size = A at hD ⊢
  have hA : ∀ q : Nat, s.heap.size ≤ q → A q := fun q h => by rw [← hAe]; exact Or.inr h
  have hS : va_S A s.heap s.heap [] := va_S.rf
  have hP : va_P Z.1 vwCl [(h0, .inr (6, [.int 0, .int 0, .int 0, .null, .null]))] s.heap := hP
  have hl := lv_entry ([.ref h0]) (n := 1) (Nat.le_of_ble_eq_true rfl)
  rw [lg_entry_eq]
  generalize (lg_sl ([.ref h0]) ++ List.replicate (1 - (lg_sl ([.ref h0])).length) Slot.unset).toArray = ls at hl ⊢
  have hl : lv_has ls 1 [(0, .ref h0)] := hl
  refine lv_aload_n hx hb dX6_init_0 rfl (lv_at hl 0 rfl) ?_
  refine W.objInit hx hb hown (hts (.methodLink RX6 3 objectInit) (by decide +kernel)) (hts (.instanceMethod objectInit) (by decide +kernel)) (hts (.code objectInit ⟨#[0xb1]⟩ 1 none) (by decide +kernel)) rfl (by rw [hml]; exact hl.1) rfl dX6_init_1 (Nat.le_of_ble_eq_true rfl) (Nat.le_of_ble_eq_true rfl) ?_
  refine W.eq (g2 := F0 m 4 ls []) rfl ?_
  refine lv_aload_n hx hb dX6_init_4 rfl (lv_at hl 0 rfl) ?_
  refine lv_iconst (v := 0) hx hb dX6_init_5 (by decide) ?_
  refine va_put (D := Z.1) (ci := 6) (v := .int 0) (ty := .int) (C := RX6) (T := TX6) (N := 5) hx hb hts hin6 tyX6 tyX6_ok nmX6 hown hK hP hD hS 0 rfl rfl 0 (by decide) (hts (.fieldLink RX6 9 "HalfAsked$Timing" "most" "I") (by decide +kernel)) (fun _ h9 => h9) rfl (by decide +kernel) rfl rfl (Nat.le_of_ble_eq_true rfl) dX6_init_6 (fun H locs hP hD hS => ?_)
  have hP : va_P Z.1 vwCl [(h0, .inr (6, [.int 0, .int 0, .int 0, .null, .null]))] H := hP
  have hD : va_D A [(h0, .inr (6, [.int 0, .int 0, .int 0, .null, .null]))] := hD
  refine lv_aload_n hx hb dX6_init_9 rfl (lv_at hl 0 rfl) ?_
  refine lv_iconst (v := 0) hx hb dX6_init_10 (by decide) ?_
  refine va_put (D := Z.1) (ci := 6) (v := .int 0) (ty := .int) (C := RX6) (T := TX6) (N := 5) hx hb hts hin6 tyX6 tyX6_ok nmX6 hown hK hP hD hS 0 rfl rfl 1 (by decide) (hts (.fieldLink RX6 15 "HalfAsked$Timing" "way" "I") (by decide +kernel)) (fun _ h9 => h9) rfl (by decide +kernel) rfl rfl (Nat.le_of_ble_eq_true rfl) dX6_init_11 (fun H locs hP hD hS => ?_)
  have hP : va_P Z.1 vwCl [(h0, .inr (6, [.int 0, .int 0, .int 0, .null, .null]))] H := hP
  have hD : va_D A [(h0, .inr (6, [.int 0, .int 0, .int 0, .null, .null]))] := hD
  refine lv_aload_n hx hb dX6_init_14 rfl (lv_at hl 0 rfl) ?_
  refine lv_iconst (v := 0) hx hb dX6_init_15 (by decide) ?_
  refine va_put (D := Z.1) (ci := 6) (v := .int 0) (ty := .int) (C := RX6) (T := TX6) (N := 5) hx hb hts hin6 tyX6 tyX6_ok nmX6 hown hK hP hD hS 0 rfl rfl 2 (by decide) (hts (.fieldLink RX6 18 "HalfAsked$Timing" "asker" "I") (by decide +kernel)) (fun _ h9 => h9) rfl (by decide +kernel) rfl rfl (Nat.le_of_ble_eq_true rfl) dX6_init_16 (fun H locs hP hD hS => ?_)
  have hP : va_P Z.1 vwCl [(h0, .inr (6, [.int 0, .int 0, .int 0, .null, .null]))] H := hP
  have hD : va_D A [(h0, .inr (6, [.int 0, .int 0, .int 0, .null, .null]))] := hD
  refine lv_aload_n hx hb dX6_init_19 rfl (lv_at hl 0 rfl) ?_
  refine va_new (ci := 2) (fs := [.int 0, .int 0, .null, .null]) (C := RX2) (T := TX2) (N := 4) hx hb hts hin2 tyX2 tyX2_ok hown (hts (.classLink RX6 21 RX2) (by decide +kernel)) (hts (.instantiable RX2 4) (by decide +kernel)) (hts (.initialized RX2) (by decide +kernel)) hK hP hD hS hA rfl (fun j hj => by rcases (show j = 0 ∨ j = 1 ∨ j = 2 ∨ j = 3 by omega) with rfl | rfl | rfl | rfl <;> rfl) (Nat.le_of_ble_eq_true rfl) (Nat.le_of_ble_eq_true rfl) dX6_init_20 (fun q_1 H hP hD hS => ?_)
  have hP : va_P Z.1 vwCl [(h0, .inr (6, [.int 0, .int 0, .int 0, .null, .null])), (q_1, .inr (2, [.int 0, .int 0, .null, .null]))] H := hP
  have hD : va_D A [(h0, .inr (6, [.int 0, .int 0, .int 0, .null, .null])), (q_1, .inr (2, [.int 0, .int 0, .null, .null]))] := hD
  refine W.widen (k := 1) (n := 4) (Nat.le_of_ble_eq_true rfl) (Nat.le_of_ble_eq_true rfl) ?_
  refine lv_dup hx hb dX6_init_23 rfl ?_
  have hPc := hP.sub (ws' := [(q_1, .inr (2, [.int 0, .int 0, .null, .null]))]) [1] rfl
  have hDc := hD.sub (ws' := [(q_1, .inr (2, [.int 0, .int 0, .null, .null]))]) [1] (by decide) rfl
  have hFc := va_free (wc := [(q_1, .inr (2, [.int 0, .int 0, .null, .null]))]) hD hS hA [1] rfl
  refine va_callv (va_runIN (As := []) (rest := [.ref q_1, .ref h0]) ⟨hx, hb, hml, hown, hts⟩ (c_X2_init l Z H.size q_1) ⟨va_cnB (host := "HalfAsked") 0 hts gX6_init_X2_init_n23 rfl rfl rfl (z_nest_X6_23 hN) (hts (.initialized RX2) (by decide +kernel)) (by decide +kernel) ⟨Nat.le_of_ble_eq_true rfl, Nat.le_of_ble_eq_true rfl⟩, rfl, (hts (.instanceMethod yX2_init) (by decide +kernel))⟩ ⟨fun a U g mk q => by obtain ⟨q0, q1, qP, qK, qD⟩ := q; exact ⟨q0, q1, qP, va_K.moved (u := U) (U := U.calling g mk a) (Vm.Alike.refl U.vm) qK, qD⟩, fun U hU hW => ⟨rfl, by rw [hU], by rw [hU]; exact hPc, va_K.moved hW.alike hK, hDc.weaken (fun _ _ _ _ => trivial)⟩⟩ rfl rfl hl.1 rfl (lv_room (Nat.le_of_ble_eq_true rfl)) dX6_init_24 ⟨Nat.le_of_ble_eq_true rfl, Nat.le_of_ble_eq_true rfl⟩) hS (fun q _ h => hFc q h) hFc (fun u t H1 locs ht hvm hw hB hz1 hk1 hS => ?_)
  obtain ⟨k_3, q_4⟩ := u
  try dsimp only at hw hB
  obtain ⟨hP1, hD1⟩ := hB
  rw [ht] at hP1
  obtain ⟨hP, hD⟩ := va_join (wr := [(h0, .inr (6, [.int 0, .int 0, .int 0, .null, .null]))]) (w1 := [(q_1, .inr (2, [.int 0, .int 0, .ref k_3, .ref q_4])), (k_3, .inl (Z.2 0, 8, .inl (fun _ => 0))), (q_4, .inl (Z.2 0, 8, .inl (fun _ => 0)))]) hP hD [1] [0] rfl rfl (by decide) (by decide) hk1 hFc hP1 hD1
  clear hPc hDc hP1 hD1 hk1 hz1 hFc ht hvm
  generalize H1 = H at hP hS ⊢
  have hP : va_P Z.1 vwCl [(h0, .inr (6, [.int 0, .int 0, .int 0, .null, .null])), (q_1, .inr (2, [.int 0, .int 0, .ref k_3, .ref q_4])), (k_3, .inl (Z.2 0, 8, .inl (fun _ => 0))), (q_4, .inl (Z.2 0, 8, .inl (fun _ => 0)))] H := hP
  have hD : va_D A [(h0, .inr (6, [.int 0, .int 0, .int 0, .null, .null])), (q_1, .inr (2, [.int 0, .int 0, .ref k_3, .ref q_4])), (k_3, .inl (Z.2 0, 8, .inl (fun _ => 0))), (q_4, .inl (Z.2 0, 8, .inl (fun _ => 0)))] := hD
  refine W.widen (k := 3) (n := 20) (Nat.le_of_ble_eq_true rfl) (Nat.le_of_ble_eq_true rfl) ?_
  refine va_putF (D := Z.1) (ci := 6) (v := .ref q_1) (ty := .object "HalfAsked$Plan") (C := RX6) (T := TX6) (N := 5) hx hb hts hin6 tyX6 tyX6_ok nmX6 hown hK hP hD hS 0 rfl rfl 3 (by decide) (hts (.fieldLink RX6 24 "HalfAsked$Timing" "plan" "LHalfAsked$Plan;") (by decide +kernel)) (fun _ h9 => h9) rfl hin rfl (by decide +kernel) rfl rfl (Nat.le_of_ble_eq_true rfl) dX6_init_27 (fun H locs hP hD hS => ?_)
  have hP : va_P Z.1 vwCl [(h0, .inr (6, [.int 0, .int 0, .int 0, .ref q_1, .null])), (q_1, .inr (2, [.int 0, .int 0, .ref k_3, .ref q_4])), (k_3, .inl (Z.2 0, 8, .inl (fun _ => 0))), (q_4, .inl (Z.2 0, 8, .inl (fun _ => 0)))] H := hP
  have hD : va_D A [(h0, .inr (6, [.int 0, .int 0, .int 0, .ref q_1, .null])), (q_1, .inr (2, [.int 0, .int 0, .ref k_3, .ref q_4])), (k_3, .inl (Z.2 0, 8, .inl (fun _ => 0))), (q_4, .inl (Z.2 0, 8, .inl (fun _ => 0)))] := hD
  refine lv_aload_n hx hb dX6_init_30 rfl (lv_at hl 0 rfl) ?_
  refine lv_bipush (v := 9) hx hb dX6_init_31 (by decide) ?_
  have hPc := hP.sub (ws' := []) [] rfl
  have hDc := hD.sub (ws' := []) [] (by decide) rfl
  have hFc := va_free (wc := []) hD hS hA [] rfl
  refine va_callr (va_runS (As := [.int 9]) (rest := [.ref h0]) ⟨hx, hb, hml, hown, hts⟩ (c_X0_newRow_9 l Z H.size ) (va_cwS 1 hts gX6_init_X0_newRow rfl rfl rfl (by decide +kernel) ⟨Nat.le_of_ble_eq_true rfl, Nat.le_of_ble_eq_true rfl⟩) ⟨fun a U g mk q => by obtain ⟨q0, q1, qP, qK, qD, qN⟩ := q; exact ⟨q0, q1, qP, va_K.moved (u := U) (U := U.calling g mk a) (Vm.Alike.refl U.vm) qK, qD, z_Nc (u := U) (U := U.calling g mk a) rfl qN⟩, fun U hU hW => ⟨rfl, by rw [hU], by rw [hU]; exact hPc, va_K.moved hW.alike hK, hDc.weaken (fun _ _ _ _ => trivial), z_N hW hN⟩⟩ rfl rfl hl.1 rfl (lv_room (Nat.le_of_ble_eq_true rfl)) dX6_init_33 ⟨Nat.le_of_ble_eq_true rfl, Nat.le_of_ble_eq_true rfl⟩) hS (fun q _ h => hFc q h) hFc (fun u r_5 t H1 locs ht hvm hw hB hz1 hk1 hS => ?_)
  have hP1 : va_P Z.1 vwCl [] H1 := fun k q h => by simp at h
  have hD1 : va_D (va_A [] H.size) [] := ⟨fun i j p q h => by simp at h, fun k q h => by simp at h⟩
  obtain ⟨hP, hD⟩ := va_join (wr := [(h0, .inr (6, [.int 0, .int 0, .int 0, .ref q_1, .null])), (q_1, .inr (2, [.int 0, .int 0, .ref k_3, .ref q_4])), (k_3, .inl (Z.2 0, 8, .inl (fun _ => 0))), (q_4, .inl (Z.2 0, 8, .inl (fun _ => 0)))]) (w1 := []) hP hD [] [0, 1, 2, 3] rfl rfl (by decide) (by decide) hk1 hFc hP1 hD1
  clear hPc hDc hP1 hD1 hk1 hz1 hFc ht hvm
  generalize H1 = H at hP hS ⊢
  have hP : va_P Z.1 vwCl [(h0, .inr (6, [.int 0, .int 0, .int 0, .ref q_1, .null])), (q_1, .inr (2, [.int 0, .int 0, .ref k_3, .ref q_4])), (k_3, .inl (Z.2 0, 8, .inl (fun _ => 0))), (q_4, .inl (Z.2 0, 8, .inl (fun _ => 0)))] H := hP
  have hD : va_D A [(h0, .inr (6, [.int 0, .int 0, .int 0, .ref q_1, .null])), (q_1, .inr (2, [.int 0, .int 0, .ref k_3, .ref q_4])), (k_3, .inl (Z.2 0, 8, .inl (fun _ => 0))), (q_4, .inl (Z.2 0, 8, .inl (fun _ => 0)))] := hD
  refine W.widen (k := 31) (n := 164) (Nat.le_of_ble_eq_true rfl) (Nat.le_of_ble_eq_true rfl) ?_
  refine va_putF (D := Z.1) (ci := 6) (v := .ref r_5) (ty := .array (.object "HalfAsked$Folk")) (C := RX6) (T := TX6) (N := 5) hx hb hts hin6 tyX6 tyX6_ok nmX6 hown hK hP hD hS 0 rfl rfl 4 (by decide) (hts (.fieldLink RX6 34 "HalfAsked$Timing" "states" "[LHalfAsked$Folk;") (by decide +kernel)) (fun _ h9 => h9) rfl hin rfl (by decide +kernel) rfl rfl (Nat.le_of_ble_eq_true rfl) dX6_init_36 (fun H locs hP hD hS => ?_)
  have hP : va_P Z.1 vwCl [(h0, .inr (6, [.int 0, .int 0, .int 0, .ref q_1, .ref r_5])), (q_1, .inr (2, [.int 0, .int 0, .ref k_3, .ref q_4])), (k_3, .inl (Z.2 0, 8, .inl (fun _ => 0))), (q_4, .inl (Z.2 0, 8, .inl (fun _ => 0)))] H := hP
  have hD : va_D A [(h0, .inr (6, [.int 0, .int 0, .int 0, .ref q_1, .ref r_5])), (q_1, .inr (2, [.int 0, .int 0, .ref k_3, .ref q_4])), (k_3, .inl (Z.2 0, 8, .inl (fun _ => 0))), (q_4, .inl (Z.2 0, 8, .inl (fun _ => 0)))] := hD
  exact W.vret hx hb hr (fun t ht hW => ⟨⟨(), rfl, trivial, trivial⟩, hS.F ht⟩) hS.2.2 dX6_init_39
set_option maxHeartbeats 4000000 in
set_option maxRecDepth 100000 in
theorem c_X7_init (l : Launch) (Z : gZ) (sz : Nat) (h0 : Nat)  : Met l yX7_init wsX7_init ({ frames := 3, cells := 33, slots := 168, locals := 70 }) (va_Pc [.ref h0] (fun U => U.heap.size = sz ∧ va_P Z.1 vwCl [(h0, .inr (7, [.null, .null, .null]))] U.heap ∧ va_K Z.1 vwCl (gT Z) U ∧ va_D (fun _ => True) [(h0, .inr (7, [.null, .null, .null]))] ∧ gN Z U)) (va_Qv (fun (u : Unit) => True) (fun (u : Unit) (t : State) => True) (va_A [(h0, .inr (7, [.null, .null, .null]))] sz)) 33 168 (va_A [(h0, .inr (7, [.null, .null, .null]))] sz) := by
  refine Met.ofW (cc := cX7_init) (maxL := 1) (ret := none) (by decide) rfl ?_
  intro p e s m args below meth c s₁ B hml hv
  obtain ⟨rfl, hsz, hP, hK, hD0, hN⟩ := hv
  have hx := B.exec
  have hb := B.bytes
  have hr := B.returns
  have hts := atoms_spec (ws := wsX7_init) B.pre
  have hown : s.vm.findClass RX7 = some m.cls := findClass_of_methodNamed B.named
  have hlocks := B.notSynchronized
  have hin : meth.name = "<init>" := (name_of_methodNamed B.named B.method).1
  subst hsz
  have hin7 : ∀ w ∈ wsX70, w ∈ wsX7_init := by decide +kernel
  have hD := hD0.self (sz := s.heap.size)
  generalize hAe : va_A [(h0, .inr (7, [.null, .null, .null]))] s.heap.size = A at hD ⊢
  have hA : ∀ q : Nat, s.heap.size ≤ q → A q := fun q h => by rw [← hAe]; exact Or.inr h
  have hS : va_S A s.heap s.heap [] := va_S.rf
  have hP : va_P Z.1 vwCl [(h0, .inr (7, [.null, .null, .null]))] s.heap := hP
  have hl := lv_entry ([.ref h0]) (n := 1) (Nat.le_of_ble_eq_true rfl)
  rw [lg_entry_eq]
  generalize (lg_sl ([.ref h0]) ++ List.replicate (1 - (lg_sl ([.ref h0])).length) Slot.unset).toArray = ls at hl ⊢
  have hl : lv_has ls 1 [(0, .ref h0)] := hl
  refine lv_aload_n hx hb dX7_init_0 rfl (lv_at hl 0 rfl) ?_
  refine W.objInit hx hb hown (hts (.methodLink RX7 3 objectInit) (by decide +kernel)) (hts (.instanceMethod objectInit) (by decide +kernel)) (hts (.code objectInit ⟨#[0xb1]⟩ 1 none) (by decide +kernel)) rfl (by rw [hml]; exact hl.1) rfl dX7_init_1 (Nat.le_of_ble_eq_true rfl) (Nat.le_of_ble_eq_true rfl) ?_
  refine W.eq (g2 := F0 m 4 ls []) rfl ?_
  refine lv_aload_n hx hb dX7_init_4 rfl (lv_at hl 0 rfl) ?_
  refine lv_bipush (v := 6) hx hb dX7_init_5 (by decide) ?_
  refine lv_iconst (v := 5) hx hb dX7_init_7 (by decide) ?_
  refine z_newII (N' := 6) (K' := 5) hx hb hown (hts (.classLink RX7 9 "[[I") (by decide +kernel)) hN (hts (.arrayClass .int) (by decide +kernel)) hK hP hD hS hA (by decide) (by decide) (by decide) (by decide) (Nat.le_of_ble_eq_true rfl) (Nat.le_of_ble_eq_true rfl) (Nat.le_of_ble_eq_true rfl) (Nat.le_of_ble_eq_true rfl) (Nat.le_of_ble_eq_true rfl) dX7_init_8 (fun q_1 H hP hD hS => ?_)
  refine W.widen (k := 7) (n := 36) (Nat.le_of_ble_eq_true rfl) (Nat.le_of_ble_eq_true rfl) ?_
  refine va_putF (D := Z.1) (ci := 7) (v := .ref q_1) (ty := .array (.array .int)) (C := RX7) (T := TX7) (N := 3) hx hb hts hin7 tyX7 tyX7_ok nmX7 hown hK hP hD hS 0 rfl rfl 0 (by decide) (hts (.fieldLink RX7 11 "HalfAsked$Turns" "picked" "[[I") (by decide +kernel)) (fun _ h9 => h9) rfl hin rfl (by decide +kernel) rfl rfl (Nat.le_of_ble_eq_true rfl) dX7_init_12 (fun H locs hP hD hS => ?_)
  have hP : va_P Z.1 vwCl [(h0, .inr (7, [.ref q_1, .null, .null]))] H := hP
  have hD : va_D A [(h0, .inr (7, [.ref q_1, .null, .null]))] := hD
  refine lv_aload_n hx hb dX7_init_15 rfl (lv_at hl 0 rfl) ?_
  refine lv_bipush (v := 6) hx hb dX7_init_16 (by decide) ?_
  refine lv_iconst (v := 5) hx hb dX7_init_18 (by decide) ?_
  refine z_newII (N' := 6) (K' := 5) hx hb hown (hts (.classLink RX7 9 "[[I") (by decide +kernel)) hN (hts (.arrayClass .int) (by decide +kernel)) hK hP hD hS hA (by decide) (by decide) (by decide) (by decide) (Nat.le_of_ble_eq_true rfl) (Nat.le_of_ble_eq_true rfl) (Nat.le_of_ble_eq_true rfl) (Nat.le_of_ble_eq_true rfl) (Nat.le_of_ble_eq_true rfl) dX7_init_19 (fun q_2 H hP hD hS => ?_)
  refine W.widen (k := 14) (n := 72) (Nat.le_of_ble_eq_true rfl) (Nat.le_of_ble_eq_true rfl) ?_
  refine va_putF (D := Z.1) (ci := 7) (v := .ref q_2) (ty := .array (.array .int)) (C := RX7) (T := TX7) (N := 3) hx hb hts hin7 tyX7 tyX7_ok nmX7 hown hK hP hD hS 0 rfl rfl 1 (by decide) (hts (.fieldLink RX7 16 "HalfAsked$Turns" "ended" "[[I") (by decide +kernel)) (fun _ h9 => h9) rfl hin rfl (by decide +kernel) rfl rfl (Nat.le_of_ble_eq_true rfl) dX7_init_23 (fun H locs hP hD hS => ?_)
  have hP : va_P Z.1 vwCl [(h0, .inr (7, [.ref q_1, .ref q_2, .null]))] H := hP
  have hD : va_D A [(h0, .inr (7, [.ref q_1, .ref q_2, .null]))] := hD
  refine lv_aload_n hx hb dX7_init_26 rfl (lv_at hl 0 rfl) ?_
  refine lv_bipush (v := 6) hx hb dX7_init_27 (by decide) ?_
  have hPc := hP.sub (ws' := []) [] rfl
  have hDc := hD.sub (ws' := []) [] (by decide) rfl
  have hFc := va_free (wc := []) hD hS hA [] rfl
  refine va_callr (va_runS (As := [.int 6]) (rest := [.ref h0]) ⟨hx, hb, hml, hown, hts⟩ (c_X0_newRow_6 l Z H.size ) (va_cwS 1 hts gX7_init_X0_newRow rfl rfl rfl (by decide +kernel) ⟨Nat.le_of_ble_eq_true rfl, Nat.le_of_ble_eq_true rfl⟩) ⟨fun a U g mk q => by obtain ⟨q0, q1, qP, qK, qD, qN⟩ := q; exact ⟨q0, q1, qP, va_K.moved (u := U) (U := U.calling g mk a) (Vm.Alike.refl U.vm) qK, qD, z_Nc (u := U) (U := U.calling g mk a) rfl qN⟩, fun U hU hW => ⟨rfl, by rw [hU], by rw [hU]; exact hPc, va_K.moved hW.alike hK, hDc.weaken (fun _ _ _ _ => trivial), z_N hW hN⟩⟩ rfl rfl hl.1 rfl (lv_room (Nat.le_of_ble_eq_true rfl)) dX7_init_29 ⟨Nat.le_of_ble_eq_true rfl, Nat.le_of_ble_eq_true rfl⟩) hS (fun q _ h => hFc q h) hFc (fun u r_3 t H1 locs ht hvm hw hB hz1 hk1 hS => ?_)
  have hP1 : va_P Z.1 vwCl [] H1 := fun k q h => by simp at h
  have hD1 : va_D (va_A [] H.size) [] := ⟨fun i j p q h => by simp at h, fun k q h => by simp at h⟩
  obtain ⟨hP, hD⟩ := va_join (wr := [(h0, .inr (7, [.ref q_1, .ref q_2, .null]))]) (w1 := []) hP hD [] [0] rfl rfl (by decide) (by decide) hk1 hFc hP1 hD1
  clear hPc hDc hP1 hD1 hk1 hz1 hFc ht hvm
  generalize H1 = H at hP hS ⊢
  have hP : va_P Z.1 vwCl [(h0, .inr (7, [.ref q_1, .ref q_2, .null]))] H := hP
  have hD : va_D A [(h0, .inr (7, [.ref q_1, .ref q_2, .null]))] := hD
  refine W.widen (k := 33) (n := 168) (Nat.le_of_ble_eq_true rfl) (Nat.le_of_ble_eq_true rfl) ?_
  refine va_putF (D := Z.1) (ci := 7) (v := .ref r_3) (ty := .array (.object "HalfAsked$Folk")) (C := RX7) (T := TX7) (N := 3) hx hb hts hin7 tyX7 tyX7_ok nmX7 hown hK hP hD hS 0 rfl rfl 2 (by decide) (hts (.fieldLink RX7 25 "HalfAsked$Turns" "states" "[LHalfAsked$Folk;") (by decide +kernel)) (fun _ h9 => h9) rfl hin rfl (by decide +kernel) rfl rfl (Nat.le_of_ble_eq_true rfl) dX7_init_32 (fun H locs hP hD hS => ?_)
  have hP : va_P Z.1 vwCl [(h0, .inr (7, [.ref q_1, .ref q_2, .ref r_3]))] H := hP
  have hD : va_D A [(h0, .inr (7, [.ref q_1, .ref q_2, .ref r_3]))] := hD
  exact W.vret hx hb hr (fun t ht hW => ⟨⟨(), rfl, trivial, trivial⟩, hS.F ht⟩) hS.2.2 dX7_init_35
set_option maxHeartbeats 4000000 in
set_option maxRecDepth 100000 in
theorem c_X1_init (l : Launch) (Z : gZ) (sz : Nat) (h0 : Nat)  : Met l yX1_init wsX1_init ({ frames := 3, cells := 27, slots := 144, locals := 70 }) (va_Pc [.ref h0] (fun U => U.heap.size = sz ∧ va_P Z.1 vwCl [(h0, .inr (1, [.int 0, .int 0, .null, .null, .int 0, .int 0, .null, .null]))] U.heap ∧ va_K Z.1 vwCl (gT Z) U ∧ va_D (fun _ => True) [(h0, .inr (1, [.int 0, .int 0, .null, .null, .int 0, .int 0, .null, .null]))] ∧ gN Z U)) (va_Qv (fun (u : Unit) => True) (fun (u : Unit) (t : State) => True) (va_A [(h0, .inr (1, [.int 0, .int 0, .null, .null, .int 0, .int 0, .null, .null]))] sz)) 27 144 (va_A [(h0, .inr (1, [.int 0, .int 0, .null, .null, .int 0, .int 0, .null, .null]))] sz) := by
  refine Met.ofW (cc := cX1_init) (maxL := 1) (ret := none) (by decide) rfl ?_
  intro p e s m args below meth c s₁ B hml hv
  obtain ⟨rfl, hsz, hP, hK, hD0, hN⟩ := hv
  have hx := B.exec
  have hb := B.bytes
  have hr := B.returns
  have hts := atoms_spec (ws := wsX1_init) B.pre
  have hown : s.vm.findClass RX1 = some m.cls := findClass_of_methodNamed B.named
  have hlocks := B.notSynchronized
  have hin : meth.name = "<init>" := (name_of_methodNamed B.named B.method).1
  subst hsz
  have hin1 : ∀ w ∈ wsX10, w ∈ wsX1_init := by decide +kernel
  have hin2 : ∀ w ∈ wsX20, w ∈ wsX1_init := by decide +kernel
  have hD := hD0.self (sz := s.heap.size)
  generalize hAe : va_A [(h0, .inr (1, [.int 0, .int 0, .null, .null, .int 0, .int 0, .null, .null]))] s.heap.size = A at hD ⊢
  have hA : ∀ q : Nat, s.heap.size ≤ q → A q := fun q h => by rw [← hAe]; exact Or.inr h
  have hS : va_S A s.heap s.heap [] := va_S.rf
  have hP : va_P Z.1 vwCl [(h0, .inr (1, [.int 0, .int 0, .null, .null, .int 0, .int 0, .null, .null]))] s.heap := hP
  have hl := lv_entry ([.ref h0]) (n := 1) (Nat.le_of_ble_eq_true rfl)
  rw [lg_entry_eq]
  generalize (lg_sl ([.ref h0]) ++ List.replicate (1 - (lg_sl ([.ref h0])).length) Slot.unset).toArray = ls at hl ⊢
  have hl : lv_has ls 1 [(0, .ref h0)] := hl
  refine lv_aload_n hx hb dX1_init_0 rfl (lv_at hl 0 rfl) ?_
  refine W.objInit hx hb hown (hts (.methodLink RX1 3 objectInit) (by decide +kernel)) (hts (.instanceMethod objectInit) (by decide +kernel)) (hts (.code objectInit ⟨#[0xb1]⟩ 1 none) (by decide +kernel)) rfl (by rw [hml]; exact hl.1) rfl dX1_init_1 (Nat.le_of_ble_eq_true rfl) (Nat.le_of_ble_eq_true rfl) ?_
  refine W.eq (g2 := F0 m 4 ls []) rfl ?_
  refine lv_aload_n hx hb dX1_init_4 rfl (lv_at hl 0 rfl) ?_
  refine lv_iconst (v := (-1)) hx hb dX1_init_5 (by decide) ?_
  refine va_put (D := Z.1) (ci := 1) (v := .int (-1)) (ty := .int) (C := RX1) (T := TX1) (N := 8) hx hb hts hin1 tyX1 tyX1_ok nmX1 hown hK hP hD hS 0 rfl rfl 0 (by decide) (hts (.fieldLink RX1 9 "HalfAsked$Orders" "leastSpan" "I") (by decide +kernel)) (fun _ h9 => h9) rfl (by decide +kernel) rfl rfl (Nat.le_of_ble_eq_true rfl) dX1_init_6 (fun H locs hP hD hS => ?_)
  have hP : va_P Z.1 vwCl [(h0, .inr (1, [.int (-1), .int 0, .null, .null, .int 0, .int 0, .null, .null]))] H := hP
  have hD : va_D A [(h0, .inr (1, [.int (-1), .int 0, .null, .null, .int 0, .int 0, .null, .null]))] := hD
  refine lv_aload_n hx hb dX1_init_9 rfl (lv_at hl 0 rfl) ?_
  refine lv_iconst (v := 0) hx hb dX1_init_10 (by decide) ?_
  refine va_put (D := Z.1) (ci := 1) (v := .int 0) (ty := .int) (C := RX1) (T := TX1) (N := 8) hx hb hts hin1 tyX1 tyX1_ok nmX1 hown hK hP hD hS 0 rfl rfl 1 (by decide) (hts (.fieldLink RX1 15 "HalfAsked$Orders" "fitting" "I") (by decide +kernel)) (fun _ h9 => h9) rfl (by decide +kernel) rfl rfl (Nat.le_of_ble_eq_true rfl) dX1_init_11 (fun H locs hP hD hS => ?_)
  have hP : va_P Z.1 vwCl [(h0, .inr (1, [.int (-1), .int 0, .null, .null, .int 0, .int 0, .null, .null]))] H := hP
  have hD : va_D A [(h0, .inr (1, [.int (-1), .int 0, .null, .null, .int 0, .int 0, .null, .null]))] := hD
  refine lv_aload_n hx hb dX1_init_14 rfl (lv_at hl 0 rfl) ?_
  refine lv_bipush (v := 6) hx hb dX1_init_15 (by decide) ?_
  refine z_newint (N' := 6) hx hb (hts (.arrayClass .int) (by decide +kernel)) hK hP hD hS hA (by decide) (by decide) (Nat.le_of_ble_eq_true rfl) (Nat.le_of_ble_eq_true rfl) (Nat.le_of_ble_eq_true rfl) dX1_init_17 (fun q_1 H hP hD hS => ?_)
  have hP : va_P Z.1 vwCl [(h0, .inr (1, [.int (-1), .int 0, .null, .null, .int 0, .int 0, .null, .null])), (q_1, .inl (Z.2 0, 6, .inl (fun _ => 0)))] H := hP
  have hD : va_D A [(h0, .inr (1, [.int (-1), .int 0, .null, .null, .int 0, .int 0, .null, .null])), (q_1, .inl (Z.2 0, 6, .inl (fun _ => 0)))] := hD
  refine W.widen (k := 1) (n := 6) (Nat.le_of_ble_eq_true rfl) (Nat.le_of_ble_eq_true rfl) ?_
  refine va_putF (D := Z.1) (ci := 1) (v := .ref q_1) (ty := .array .int) (C := RX1) (T := TX1) (N := 8) hx hb hts hin1 tyX1 tyX1_ok nmX1 hown hK hP hD hS 0 rfl rfl 2 (by decide) (hts (.fieldLink RX1 18 "HalfAsked$Orders" "first" "[I") (by decide +kernel)) (fun _ h9 => h9) rfl hin rfl (by decide +kernel) rfl rfl (Nat.le_of_ble_eq_true rfl) dX1_init_19 (fun H locs hP hD hS => ?_)
  have hP : va_P Z.1 vwCl [(h0, .inr (1, [.int (-1), .int 0, .ref q_1, .null, .int 0, .int 0, .null, .null])), (q_1, .inl (Z.2 0, 6, .inl (fun _ => 0)))] H := hP
  have hD : va_D A [(h0, .inr (1, [.int (-1), .int 0, .ref q_1, .null, .int 0, .int 0, .null, .null])), (q_1, .inl (Z.2 0, 6, .inl (fun _ => 0)))] := hD
  refine lv_aload_n hx hb dX1_init_22 rfl (lv_at hl 0 rfl) ?_
  refine lv_bipush (v := 6) hx hb dX1_init_23 (by decide) ?_
  refine z_newint (N' := 6) hx hb (hts (.arrayClass .int) (by decide +kernel)) hK hP hD hS hA (by decide) (by decide) (Nat.le_of_ble_eq_true rfl) (Nat.le_of_ble_eq_true rfl) (Nat.le_of_ble_eq_true rfl) dX1_init_25 (fun q_2 H hP hD hS => ?_)
  have hP : va_P Z.1 vwCl [(h0, .inr (1, [.int (-1), .int 0, .ref q_1, .null, .int 0, .int 0, .null, .null])), (q_1, .inl (Z.2 0, 6, .inl (fun _ => 0))), (q_2, .inl (Z.2 0, 6, .inl (fun _ => 0)))] H := hP
  have hD : va_D A [(h0, .inr (1, [.int (-1), .int 0, .ref q_1, .null, .int 0, .int 0, .null, .null])), (q_1, .inl (Z.2 0, 6, .inl (fun _ => 0))), (q_2, .inl (Z.2 0, 6, .inl (fun _ => 0)))] := hD
  refine W.widen (k := 2) (n := 12) (Nat.le_of_ble_eq_true rfl) (Nat.le_of_ble_eq_true rfl) ?_
  refine va_putF (D := Z.1) (ci := 1) (v := .ref q_2) (ty := .array .int) (C := RX1) (T := TX1) (N := 8) hx hb hts hin1 tyX1 tyX1_ok nmX1 hown hK hP hD hS 0 rfl rfl 3 (by decide) (hts (.fieldLink RX1 22 "HalfAsked$Orders" "row" "[I") (by decide +kernel)) (fun _ h9 => h9) rfl hin rfl (by decide +kernel) rfl rfl (Nat.le_of_ble_eq_true rfl) dX1_init_27 (fun H locs hP hD hS => ?_)
  have hP : va_P Z.1 vwCl [(h0, .inr (1, [.int (-1), .int 0, .ref q_1, .ref q_2, .int 0, .int 0, .null, .null])), (q_1, .inl (Z.2 0, 6, .inl (fun _ => 0))), (q_2, .inl (Z.2 0, 6, .inl (fun _ => 0)))] H := hP
  have hD : va_D A [(h0, .inr (1, [.int (-1), .int 0, .ref q_1, .ref q_2, .int 0, .int 0, .null, .null])), (q_1, .inl (Z.2 0, 6, .inl (fun _ => 0))), (q_2, .inl (Z.2 0, 6, .inl (fun _ => 0)))] := hD
  refine lv_aload_n hx hb dX1_init_30 rfl (lv_at hl 0 rfl) ?_
  refine lv_iconst (v := 0) hx hb dX1_init_31 (by decide) ?_
  refine va_put (D := Z.1) (ci := 1) (v := .int 0) (ty := .int) (C := RX1) (T := TX1) (N := 8) hx hb hts hin1 tyX1 tyX1_ok nmX1 hown hK hP hD hS 0 rfl rfl 4 (by decide) (hts (.fieldLink RX1 25 "HalfAsked$Orders" "wanted" "I") (by decide +kernel)) (fun _ h9 => h9) rfl (by decide +kernel) rfl rfl (Nat.le_of_ble_eq_true rfl) dX1_init_32 (fun H locs hP hD hS => ?_)
  have hP : va_P Z.1 vwCl [(h0, .inr (1, [.int (-1), .int 0, .ref q_1, .ref q_2, .int 0, .int 0, .null, .null])), (q_1, .inl (Z.2 0, 6, .inl (fun _ => 0))), (q_2, .inl (Z.2 0, 6, .inl (fun _ => 0)))] H := hP
  have hD : va_D A [(h0, .inr (1, [.int (-1), .int 0, .ref q_1, .ref q_2, .int 0, .int 0, .null, .null])), (q_1, .inl (Z.2 0, 6, .inl (fun _ => 0))), (q_2, .inl (Z.2 0, 6, .inl (fun _ => 0)))] := hD
  refine lv_aload_n hx hb dX1_init_35 rfl (lv_at hl 0 rfl) ?_
  refine lv_iconst (v := 0) hx hb dX1_init_36 (by decide) ?_
  refine va_put (D := Z.1) (ci := 1) (v := .int 0) (ty := .int) (C := RX1) (T := TX1) (N := 8) hx hb hts hin1 tyX1 tyX1_ok nmX1 hown hK hP hD hS 0 rfl rfl 5 (by decide) (hts (.fieldLink RX1 28 "HalfAsked$Orders" "wantedPence" "I") (by decide +kernel)) (fun _ h9 => h9) rfl (by decide +kernel) rfl rfl (Nat.le_of_ble_eq_true rfl) dX1_init_37 (fun H locs hP hD hS => ?_)
  have hP : va_P Z.1 vwCl [(h0, .inr (1, [.int (-1), .int 0, .ref q_1, .ref q_2, .int 0, .int 0, .null, .null])), (q_1, .inl (Z.2 0, 6, .inl (fun _ => 0))), (q_2, .inl (Z.2 0, 6, .inl (fun _ => 0)))] H := hP
  have hD : va_D A [(h0, .inr (1, [.int (-1), .int 0, .ref q_1, .ref q_2, .int 0, .int 0, .null, .null])), (q_1, .inl (Z.2 0, 6, .inl (fun _ => 0))), (q_2, .inl (Z.2 0, 6, .inl (fun _ => 0)))] := hD
  refine lv_aload_n hx hb dX1_init_40 rfl (lv_at hl 0 rfl) ?_
  refine va_new (ci := 2) (fs := [.int 0, .int 0, .null, .null]) (C := RX2) (T := TX2) (N := 4) hx hb hts hin2 tyX2 tyX2_ok hown (hts (.classLink RX1 31 RX2) (by decide +kernel)) (hts (.instantiable RX2 4) (by decide +kernel)) (hts (.initialized RX2) (by decide +kernel)) hK hP hD hS hA rfl (fun j hj => by rcases (show j = 0 ∨ j = 1 ∨ j = 2 ∨ j = 3 by omega) with rfl | rfl | rfl | rfl <;> rfl) (Nat.le_of_ble_eq_true rfl) (Nat.le_of_ble_eq_true rfl) dX1_init_41 (fun q_3 H hP hD hS => ?_)
  have hP : va_P Z.1 vwCl [(h0, .inr (1, [.int (-1), .int 0, .ref q_1, .ref q_2, .int 0, .int 0, .null, .null])), (q_1, .inl (Z.2 0, 6, .inl (fun _ => 0))), (q_2, .inl (Z.2 0, 6, .inl (fun _ => 0))), (q_3, .inr (2, [.int 0, .int 0, .null, .null]))] H := hP
  have hD : va_D A [(h0, .inr (1, [.int (-1), .int 0, .ref q_1, .ref q_2, .int 0, .int 0, .null, .null])), (q_1, .inl (Z.2 0, 6, .inl (fun _ => 0))), (q_2, .inl (Z.2 0, 6, .inl (fun _ => 0))), (q_3, .inr (2, [.int 0, .int 0, .null, .null]))] := hD
  refine W.widen (k := 3) (n := 16) (Nat.le_of_ble_eq_true rfl) (Nat.le_of_ble_eq_true rfl) ?_
  refine lv_dup hx hb dX1_init_44 rfl ?_
  have hPc := hP.sub (ws' := [(q_3, .inr (2, [.int 0, .int 0, .null, .null]))]) [3] rfl
  have hDc := hD.sub (ws' := [(q_3, .inr (2, [.int 0, .int 0, .null, .null]))]) [3] (by decide) rfl
  have hFc := va_free (wc := [(q_3, .inr (2, [.int 0, .int 0, .null, .null]))]) hD hS hA [3] rfl
  refine va_callv (va_runIN (As := []) (rest := [.ref q_3, .ref h0]) ⟨hx, hb, hml, hown, hts⟩ (c_X2_init l Z H.size q_3) ⟨va_cnB (host := "HalfAsked") 0 hts gX1_init_X2_init_n33 rfl rfl rfl (z_nest_X1_33 hN) (hts (.initialized RX2) (by decide +kernel)) (by decide +kernel) ⟨Nat.le_of_ble_eq_true rfl, Nat.le_of_ble_eq_true rfl⟩, rfl, (hts (.instanceMethod yX2_init) (by decide +kernel))⟩ ⟨fun a U g mk q => by obtain ⟨q0, q1, qP, qK, qD⟩ := q; exact ⟨q0, q1, qP, va_K.moved (u := U) (U := U.calling g mk a) (Vm.Alike.refl U.vm) qK, qD⟩, fun U hU hW => ⟨rfl, by rw [hU], by rw [hU]; exact hPc, va_K.moved hW.alike hK, hDc.weaken (fun _ _ _ _ => trivial)⟩⟩ rfl rfl hl.1 rfl (lv_room (Nat.le_of_ble_eq_true rfl)) dX1_init_45 ⟨Nat.le_of_ble_eq_true rfl, Nat.le_of_ble_eq_true rfl⟩) hS (fun q _ h => hFc q h) hFc (fun u t H1 locs ht hvm hw hB hz1 hk1 hS => ?_)
  obtain ⟨k_5, q_6⟩ := u
  try dsimp only at hw hB
  obtain ⟨hP1, hD1⟩ := hB
  rw [ht] at hP1
  obtain ⟨hP, hD⟩ := va_join (wr := [(h0, .inr (1, [.int (-1), .int 0, .ref q_1, .ref q_2, .int 0, .int 0, .null, .null])), (q_1, .inl (Z.2 0, 6, .inl (fun _ => 0))), (q_2, .inl (Z.2 0, 6, .inl (fun _ => 0)))]) (w1 := [(q_3, .inr (2, [.int 0, .int 0, .ref k_5, .ref q_6])), (k_5, .inl (Z.2 0, 8, .inl (fun _ => 0))), (q_6, .inl (Z.2 0, 8, .inl (fun _ => 0)))]) hP hD [3] [0, 1, 2] rfl rfl (by decide) (by decide) hk1 hFc hP1 hD1
  clear hPc hDc hP1 hD1 hk1 hz1 hFc ht hvm
  generalize H1 = H at hP hS ⊢
  have hP : va_P Z.1 vwCl [(h0, .inr (1, [.int (-1), .int 0, .ref q_1, .ref q_2, .int 0, .int 0, .null, .null])), (q_1, .inl (Z.2 0, 6, .inl (fun _ => 0))), (q_2, .inl (Z.2 0, 6, .inl (fun _ => 0))), (q_3, .inr (2, [.int 0, .int 0, .ref k_5, .ref q_6])), (k_5, .inl (Z.2 0, 8, .inl (fun _ => 0))), (q_6, .inl (Z.2 0, 8, .inl (fun _ => 0)))] H := hP
  have hD : va_D A [(h0, .inr (1, [.int (-1), .int 0, .ref q_1, .ref q_2, .int 0, .int 0, .null, .null])), (q_1, .inl (Z.2 0, 6, .inl (fun _ => 0))), (q_2, .inl (Z.2 0, 6, .inl (fun _ => 0))), (q_3, .inr (2, [.int 0, .int 0, .ref k_5, .ref q_6])), (k_5, .inl (Z.2 0, 8, .inl (fun _ => 0))), (q_6, .inl (Z.2 0, 8, .inl (fun _ => 0)))] := hD
  refine W.widen (k := 5) (n := 32) (Nat.le_of_ble_eq_true rfl) (Nat.le_of_ble_eq_true rfl) ?_
  refine va_putF (D := Z.1) (ci := 1) (v := .ref q_3) (ty := .object "HalfAsked$Plan") (C := RX1) (T := TX1) (N := 8) hx hb hts hin1 tyX1 tyX1_ok nmX1 hown hK hP hD hS 0 rfl rfl 6 (by decide) (hts (.fieldLink RX1 34 "HalfAsked$Orders" "plan" "LHalfAsked$Plan;") (by decide +kernel)) (fun _ h9 => h9) rfl hin rfl (by decide +kernel) rfl rfl (Nat.le_of_ble_eq_true rfl) dX1_init_48 (fun H locs hP hD hS => ?_)
  have hP : va_P Z.1 vwCl [(h0, .inr (1, [.int (-1), .int 0, .ref q_1, .ref q_2, .int 0, .int 0, .ref q_3, .null])), (q_1, .inl (Z.2 0, 6, .inl (fun _ => 0))), (q_2, .inl (Z.2 0, 6, .inl (fun _ => 0))), (q_3, .inr (2, [.int 0, .int 0, .ref k_5, .ref q_6])), (k_5, .inl (Z.2 0, 8, .inl (fun _ => 0))), (q_6, .inl (Z.2 0, 8, .inl (fun _ => 0)))] H := hP
  have hD : va_D A [(h0, .inr (1, [.int (-1), .int 0, .ref q_1, .ref q_2, .int 0, .int 0, .ref q_3, .null])), (q_1, .inl (Z.2 0, 6, .inl (fun _ => 0))), (q_2, .inl (Z.2 0, 6, .inl (fun _ => 0))), (q_3, .inr (2, [.int 0, .int 0, .ref k_5, .ref q_6])), (k_5, .inl (Z.2 0, 8, .inl (fun _ => 0))), (q_6, .inl (Z.2 0, 8, .inl (fun _ => 0)))] := hD
  refine lv_aload_n hx hb dX1_init_51 rfl (lv_at hl 0 rfl) ?_
  refine lv_bipush (v := 7) hx hb dX1_init_52 (by decide) ?_
  have hPc := hP.sub (ws' := []) [] rfl
  have hDc := hD.sub (ws' := []) [] (by decide) rfl
  have hFc := va_free (wc := []) hD hS hA [] rfl
  refine va_callr (va_runS (As := [.int 7]) (rest := [.ref h0]) ⟨hx, hb, hml, hown, hts⟩ (c_X0_newRow_7 l Z H.size ) (va_cwS 1 hts gX1_init_X0_newRow rfl rfl rfl (by decide +kernel) ⟨Nat.le_of_ble_eq_true rfl, Nat.le_of_ble_eq_true rfl⟩) ⟨fun a U g mk q => by obtain ⟨q0, q1, qP, qK, qD, qN⟩ := q; exact ⟨q0, q1, qP, va_K.moved (u := U) (U := U.calling g mk a) (Vm.Alike.refl U.vm) qK, qD, z_Nc (u := U) (U := U.calling g mk a) rfl qN⟩, fun U hU hW => ⟨rfl, by rw [hU], by rw [hU]; exact hPc, va_K.moved hW.alike hK, hDc.weaken (fun _ _ _ _ => trivial), z_N hW hN⟩⟩ rfl rfl hl.1 rfl (lv_room (Nat.le_of_ble_eq_true rfl)) dX1_init_54 ⟨Nat.le_of_ble_eq_true rfl, Nat.le_of_ble_eq_true rfl⟩) hS (fun q _ h => hFc q h) hFc (fun u r_7 t H1 locs ht hvm hw hB hz1 hk1 hS => ?_)
  have hP1 : va_P Z.1 vwCl [] H1 := fun k q h => by simp at h
  have hD1 : va_D (va_A [] H.size) [] := ⟨fun i j p q h => by simp at h, fun k q h => by simp at h⟩
  obtain ⟨hP, hD⟩ := va_join (wr := [(h0, .inr (1, [.int (-1), .int 0, .ref q_1, .ref q_2, .int 0, .int 0, .ref q_3, .null])), (q_1, .inl (Z.2 0, 6, .inl (fun _ => 0))), (q_2, .inl (Z.2 0, 6, .inl (fun _ => 0))), (q_3, .inr (2, [.int 0, .int 0, .ref k_5, .ref q_6])), (k_5, .inl (Z.2 0, 8, .inl (fun _ => 0))), (q_6, .inl (Z.2 0, 8, .inl (fun _ => 0)))]) (w1 := []) hP hD [] [0, 1, 2, 3, 4, 5] rfl rfl (by decide) (by decide) hk1 hFc hP1 hD1
  clear hPc hDc hP1 hD1 hk1 hz1 hFc ht hvm
  generalize H1 = H at hP hS ⊢
  have hP : va_P Z.1 vwCl [(h0, .inr (1, [.int (-1), .int 0, .ref q_1, .ref q_2, .int 0, .int 0, .ref q_3, .null])), (q_1, .inl (Z.2 0, 6, .inl (fun _ => 0))), (q_2, .inl (Z.2 0, 6, .inl (fun _ => 0))), (q_3, .inr (2, [.int 0, .int 0, .ref k_5, .ref q_6])), (k_5, .inl (Z.2 0, 8, .inl (fun _ => 0))), (q_6, .inl (Z.2 0, 8, .inl (fun _ => 0)))] H := hP
  have hD : va_D A [(h0, .inr (1, [.int (-1), .int 0, .ref q_1, .ref q_2, .int 0, .int 0, .ref q_3, .null])), (q_1, .inl (Z.2 0, 6, .inl (fun _ => 0))), (q_2, .inl (Z.2 0, 6, .inl (fun _ => 0))), (q_3, .inr (2, [.int 0, .int 0, .ref k_5, .ref q_6])), (k_5, .inl (Z.2 0, 8, .inl (fun _ => 0))), (q_6, .inl (Z.2 0, 8, .inl (fun _ => 0)))] := hD
  refine W.widen (k := 27) (n := 144) (Nat.le_of_ble_eq_true rfl) (Nat.le_of_ble_eq_true rfl) ?_
  refine va_putF (D := Z.1) (ci := 1) (v := .ref r_7) (ty := .array (.object "HalfAsked$Folk")) (C := RX1) (T := TX1) (N := 8) hx hb hts hin1 tyX1 tyX1_ok nmX1 hown hK hP hD hS 0 rfl rfl 7 (by decide) (hts (.fieldLink RX1 44 "HalfAsked$Orders" "states" "[LHalfAsked$Folk;") (by decide +kernel)) (fun _ h9 => h9) rfl hin rfl (by decide +kernel) rfl rfl (Nat.le_of_ble_eq_true rfl) dX1_init_57 (fun H locs hP hD hS => ?_)
  have hP : va_P Z.1 vwCl [(h0, .inr (1, [.int (-1), .int 0, .ref q_1, .ref q_2, .int 0, .int 0, .ref q_3, .ref r_7])), (q_1, .inl (Z.2 0, 6, .inl (fun _ => 0))), (q_2, .inl (Z.2 0, 6, .inl (fun _ => 0))), (q_3, .inr (2, [.int 0, .int 0, .ref k_5, .ref q_6])), (k_5, .inl (Z.2 0, 8, .inl (fun _ => 0))), (q_6, .inl (Z.2 0, 8, .inl (fun _ => 0)))] H := hP
  have hD : va_D A [(h0, .inr (1, [.int (-1), .int 0, .ref q_1, .ref q_2, .int 0, .int 0, .ref q_3, .ref r_7])), (q_1, .inl (Z.2 0, 6, .inl (fun _ => 0))), (q_2, .inl (Z.2 0, 6, .inl (fun _ => 0))), (q_3, .inr (2, [.int 0, .int 0, .ref k_5, .ref q_6])), (k_5, .inl (Z.2 0, 8, .inl (fun _ => 0))), (q_6, .inl (Z.2 0, 8, .inl (fun _ => 0)))] := hD
  exact W.vret hx hb hr (fun t ht hW => ⟨⟨(), rfl, trivial, trivial⟩, hS.F ht⟩) hS.2.2 dX1_init_60
set_option maxHeartbeats 4000000 in
set_option maxRecDepth 100000 in
theorem c_X3_init (l : Launch) (Z : gZ) (sz : Nat) (h0 : Nat)  : Met l yX3_init wsX3_init ({ frames := 3, cells := 16, slots := 75, locals := 70 }) (va_Pc [.ref h0] (fun U => U.heap.size = sz ∧ va_P Z.1 vwCl [(h0, .inr (3, [.int 0, .null, .null, .null, .int 0, .null]))] U.heap ∧ va_K Z.1 vwCl (gT Z) U ∧ va_D (fun _ => True) [(h0, .inr (3, [.int 0, .null, .null, .null, .int 0, .null]))] ∧ gN Z U)) (va_Qv (fun (u : Unit) => True) (fun (u : Unit) (t : State) => True) (va_A [(h0, .inr (3, [.int 0, .null, .null, .null, .int 0, .null]))] sz)) 16 75 (va_A [(h0, .inr (3, [.int 0, .null, .null, .null, .int 0, .null]))] sz) := by
  refine Met.ofW (cc := cX3_init) (maxL := 1) (ret := none) (by decide) rfl ?_
  intro p e s m args below meth c s₁ B hml hv
  obtain ⟨rfl, hsz, hP, hK, hD0, hN⟩ := hv
  have hx := B.exec
  have hb := B.bytes
  have hr := B.returns
  have hts := atoms_spec (ws := wsX3_init) B.pre
  have hown : s.vm.findClass RX3 = some m.cls := findClass_of_methodNamed B.named
  have hlocks := B.notSynchronized
  have hin : meth.name = "<init>" := (name_of_methodNamed B.named B.method).1
  subst hsz
  have hin3 : ∀ w ∈ wsX30, w ∈ wsX3_init := by decide +kernel
  have hD := hD0.self (sz := s.heap.size)
  generalize hAe : va_A [(h0, .inr (3, [.int 0, .null, .null, .null, .int 0, .null]))] s.heap.size = A at hD ⊢
  have hA : ∀ q : Nat, s.heap.size ≤ q → A q := fun q h => by rw [← hAe]; exact Or.inr h
  have hS : va_S A s.heap s.heap [] := va_S.rf
  have hP : va_P Z.1 vwCl [(h0, .inr (3, [.int 0, .null, .null, .null, .int 0, .null]))] s.heap := hP
  have hl := lv_entry ([.ref h0]) (n := 1) (Nat.le_of_ble_eq_true rfl)
  rw [lg_entry_eq]
  generalize (lg_sl ([.ref h0]) ++ List.replicate (1 - (lg_sl ([.ref h0])).length) Slot.unset).toArray = ls at hl ⊢
  have hl : lv_has ls 1 [(0, .ref h0)] := hl
  refine lv_aload_n hx hb dX3_init_0 rfl (lv_at hl 0 rfl) ?_
  refine W.objInit hx hb hown (hts (.methodLink RX3 3 objectInit) (by decide +kernel)) (hts (.instanceMethod objectInit) (by decide +kernel)) (hts (.code objectInit ⟨#[0xb1]⟩ 1 none) (by decide +kernel)) rfl (by rw [hml]; exact hl.1) rfl dX3_init_1 (Nat.le_of_ble_eq_true rfl) (Nat.le_of_ble_eq_true rfl) ?_
  refine W.eq (g2 := F0 m 4 ls []) rfl ?_
  refine lv_aload_n hx hb dX3_init_4 rfl (lv_at hl 0 rfl) ?_
  refine lv_iconst (v := 0) hx hb dX3_init_5 (by decide) ?_
  refine va_put (D := Z.1) (ci := 3) (v := .int 0) (ty := .int) (C := RX3) (T := TX3) (N := 6) hx hb hts hin3 tyX3 tyX3_ok nmX3 hown hK hP hD hS 0 rfl rfl 0 (by decide) (hts (.fieldLink RX3 9 "HalfAsked$Saturdays" "rows" "I") (by decide +kernel)) (fun _ h9 => h9) rfl (by decide +kernel) rfl rfl (Nat.le_of_ble_eq_true rfl) dX3_init_6 (fun H locs hP hD hS => ?_)
  have hP : va_P Z.1 vwCl [(h0, .inr (3, [.int 0, .null, .null, .null, .int 0, .null]))] H := hP
  have hD : va_D A [(h0, .inr (3, [.int 0, .null, .null, .null, .int 0, .null]))] := hD
  refine lv_aload_n hx hb dX3_init_9 rfl (lv_at hl 0 rfl) ?_
  refine lv_iconst (v := 3) hx hb dX3_init_10 (by decide) ?_
  refine z_newint (N' := 3) hx hb (hts (.arrayClass .int) (by decide +kernel)) hK hP hD hS hA (by decide) (by decide) (Nat.le_of_ble_eq_true rfl) (Nat.le_of_ble_eq_true rfl) (Nat.le_of_ble_eq_true rfl) dX3_init_11 (fun q_1 H hP hD hS => ?_)
  have hP : va_P Z.1 vwCl [(h0, .inr (3, [.int 0, .null, .null, .null, .int 0, .null])), (q_1, .inl (Z.2 0, 3, .inl (fun _ => 0)))] H := hP
  have hD : va_D A [(h0, .inr (3, [.int 0, .null, .null, .null, .int 0, .null])), (q_1, .inl (Z.2 0, 3, .inl (fun _ => 0)))] := hD
  refine W.widen (k := 1) (n := 3) (Nat.le_of_ble_eq_true rfl) (Nat.le_of_ble_eq_true rfl) ?_
  refine va_putF (D := Z.1) (ci := 3) (v := .ref q_1) (ty := .array .int) (C := RX3) (T := TX3) (N := 6) hx hb hts hin3 tyX3 tyX3_ok nmX3 hown hK hP hD hS 0 rfl rfl 1 (by decide) (hts (.fieldLink RX3 15 "HalfAsked$Saturdays" "first" "[I") (by decide +kernel)) (fun _ h9 => h9) rfl hin rfl (by decide +kernel) rfl rfl (Nat.le_of_ble_eq_true rfl) dX3_init_13 (fun H locs hP hD hS => ?_)
  have hP : va_P Z.1 vwCl [(h0, .inr (3, [.int 0, .ref q_1, .null, .null, .int 0, .null])), (q_1, .inl (Z.2 0, 3, .inl (fun _ => 0)))] H := hP
  have hD : va_D A [(h0, .inr (3, [.int 0, .ref q_1, .null, .null, .int 0, .null])), (q_1, .inl (Z.2 0, 3, .inl (fun _ => 0)))] := hD
  refine lv_aload_n hx hb dX3_init_16 rfl (lv_at hl 0 rfl) ?_
  refine lv_iconst (v := 3) hx hb dX3_init_17 (by decide) ?_
  refine z_newint (N' := 3) hx hb (hts (.arrayClass .int) (by decide +kernel)) hK hP hD hS hA (by decide) (by decide) (Nat.le_of_ble_eq_true rfl) (Nat.le_of_ble_eq_true rfl) (Nat.le_of_ble_eq_true rfl) dX3_init_18 (fun q_2 H hP hD hS => ?_)
  have hP : va_P Z.1 vwCl [(h0, .inr (3, [.int 0, .ref q_1, .null, .null, .int 0, .null])), (q_1, .inl (Z.2 0, 3, .inl (fun _ => 0))), (q_2, .inl (Z.2 0, 3, .inl (fun _ => 0)))] H := hP
  have hD : va_D A [(h0, .inr (3, [.int 0, .ref q_1, .null, .null, .int 0, .null])), (q_1, .inl (Z.2 0, 3, .inl (fun _ => 0))), (q_2, .inl (Z.2 0, 3, .inl (fun _ => 0)))] := hD
  refine W.widen (k := 2) (n := 6) (Nat.le_of_ble_eq_true rfl) (Nat.le_of_ble_eq_true rfl) ?_
  refine va_putF (D := Z.1) (ci := 3) (v := .ref q_2) (ty := .array .int) (C := RX3) (T := TX3) (N := 6) hx hb hts hin3 tyX3 tyX3_ok nmX3 hown hK hP hD hS 0 rfl rfl 2 (by decide) (hts (.fieldLink RX3 19 "HalfAsked$Saturdays" "row" "[I") (by decide +kernel)) (fun _ h9 => h9) rfl hin rfl (by decide +kernel) rfl rfl (Nat.le_of_ble_eq_true rfl) dX3_init_20 (fun H locs hP hD hS => ?_)
  have hP : va_P Z.1 vwCl [(h0, .inr (3, [.int 0, .ref q_1, .ref q_2, .null, .int 0, .null])), (q_1, .inl (Z.2 0, 3, .inl (fun _ => 0))), (q_2, .inl (Z.2 0, 3, .inl (fun _ => 0)))] H := hP
  have hD : va_D A [(h0, .inr (3, [.int 0, .ref q_1, .ref q_2, .null, .int 0, .null])), (q_1, .inl (Z.2 0, 3, .inl (fun _ => 0))), (q_2, .inl (Z.2 0, 3, .inl (fun _ => 0)))] := hD
  refine lv_aload_n hx hb dX3_init_23 rfl (lv_at hl 0 rfl) ?_
  refine lv_iconst (v := 5) hx hb dX3_init_24 (by decide) ?_
  refine z_newint (N' := 5) hx hb (hts (.arrayClass .int) (by decide +kernel)) hK hP hD hS hA (by decide) (by decide) (Nat.le_of_ble_eq_true rfl) (Nat.le_of_ble_eq_true rfl) (Nat.le_of_ble_eq_true rfl) dX3_init_25 (fun q_3 H hP hD hS => ?_)
  have hP : va_P Z.1 vwCl [(h0, .inr (3, [.int 0, .ref q_1, .ref q_2, .null, .int 0, .null])), (q_1, .inl (Z.2 0, 3, .inl (fun _ => 0))), (q_2, .inl (Z.2 0, 3, .inl (fun _ => 0))), (q_3, .inl (Z.2 0, 5, .inl (fun _ => 0)))] H := hP
  have hD : va_D A [(h0, .inr (3, [.int 0, .ref q_1, .ref q_2, .null, .int 0, .null])), (q_1, .inl (Z.2 0, 3, .inl (fun _ => 0))), (q_2, .inl (Z.2 0, 3, .inl (fun _ => 0))), (q_3, .inl (Z.2 0, 5, .inl (fun _ => 0)))] := hD
  refine W.widen (k := 3) (n := 11) (Nat.le_of_ble_eq_true rfl) (Nat.le_of_ble_eq_true rfl) ?_
  refine va_putF (D := Z.1) (ci := 3) (v := .ref q_3) (ty := .array .int) (C := RX3) (T := TX3) (N := 6) hx hb hts hin3 tyX3 tyX3_ok nmX3 hown hK hP hD hS 0 rfl rfl 3 (by decide) (hts (.fieldLink RX3 22 "HalfAsked$Saturdays" "goal" "[I") (by decide +kernel)) (fun _ h9 => h9) rfl hin rfl (by decide +kernel) rfl rfl (Nat.le_of_ble_eq_true rfl) dX3_init_27 (fun H locs hP hD hS => ?_)
  have hP : va_P Z.1 vwCl [(h0, .inr (3, [.int 0, .ref q_1, .ref q_2, .ref q_3, .int 0, .null])), (q_1, .inl (Z.2 0, 3, .inl (fun _ => 0))), (q_2, .inl (Z.2 0, 3, .inl (fun _ => 0))), (q_3, .inl (Z.2 0, 5, .inl (fun _ => 0)))] H := hP
  have hD : va_D A [(h0, .inr (3, [.int 0, .ref q_1, .ref q_2, .ref q_3, .int 0, .null])), (q_1, .inl (Z.2 0, 3, .inl (fun _ => 0))), (q_2, .inl (Z.2 0, 3, .inl (fun _ => 0))), (q_3, .inl (Z.2 0, 5, .inl (fun _ => 0)))] := hD
  refine lv_aload_n hx hb dX3_init_30 rfl (lv_at hl 0 rfl) ?_
  refine lv_iconst (v := 0) hx hb dX3_init_31 (by decide) ?_
  refine va_put (D := Z.1) (ci := 3) (v := .int 0) (ty := .int) (C := RX3) (T := TX3) (N := 6) hx hb hts hin3 tyX3 tyX3_ok nmX3 hown hK hP hD hS 0 rfl rfl 4 (by decide) (hts (.fieldLink RX3 25 "HalfAsked$Saturdays" "length" "I") (by decide +kernel)) (fun _ h9 => h9) rfl (by decide +kernel) rfl rfl (Nat.le_of_ble_eq_true rfl) dX3_init_32 (fun H locs hP hD hS => ?_)
  have hP : va_P Z.1 vwCl [(h0, .inr (3, [.int 0, .ref q_1, .ref q_2, .ref q_3, .int 0, .null])), (q_1, .inl (Z.2 0, 3, .inl (fun _ => 0))), (q_2, .inl (Z.2 0, 3, .inl (fun _ => 0))), (q_3, .inl (Z.2 0, 5, .inl (fun _ => 0)))] H := hP
  have hD : va_D A [(h0, .inr (3, [.int 0, .ref q_1, .ref q_2, .ref q_3, .int 0, .null])), (q_1, .inl (Z.2 0, 3, .inl (fun _ => 0))), (q_2, .inl (Z.2 0, 3, .inl (fun _ => 0))), (q_3, .inl (Z.2 0, 5, .inl (fun _ => 0)))] := hD
  refine lv_aload_n hx hb dX3_init_35 rfl (lv_at hl 0 rfl) ?_
  refine lv_iconst (v := 4) hx hb dX3_init_36 (by decide) ?_
  have hPc := hP.sub (ws' := []) [] rfl
  have hDc := hD.sub (ws' := []) [] (by decide) rfl
  have hFc := va_free (wc := []) hD hS hA [] rfl
  refine va_callr (va_runS (As := [.int 4]) (rest := [.ref h0]) ⟨hx, hb, hml, hown, hts⟩ (c_X0_newRow_4 l Z H.size ) (va_cwS 1 hts gX3_init_X0_newRow rfl rfl rfl (by decide +kernel) ⟨Nat.le_of_ble_eq_true rfl, Nat.le_of_ble_eq_true rfl⟩) ⟨fun a U g mk q => by obtain ⟨q0, q1, qP, qK, qD, qN⟩ := q; exact ⟨q0, q1, qP, va_K.moved (u := U) (U := U.calling g mk a) (Vm.Alike.refl U.vm) qK, qD, z_Nc (u := U) (U := U.calling g mk a) rfl qN⟩, fun U hU hW => ⟨rfl, by rw [hU], by rw [hU]; exact hPc, va_K.moved hW.alike hK, hDc.weaken (fun _ _ _ _ => trivial), z_N hW hN⟩⟩ rfl rfl hl.1 rfl (lv_room (Nat.le_of_ble_eq_true rfl)) dX3_init_37 ⟨Nat.le_of_ble_eq_true rfl, Nat.le_of_ble_eq_true rfl⟩) hS (fun q _ h => hFc q h) hFc (fun u r_4 t H1 locs ht hvm hw hB hz1 hk1 hS => ?_)
  have hP1 : va_P Z.1 vwCl [] H1 := fun k q h => by simp at h
  have hD1 : va_D (va_A [] H.size) [] := ⟨fun i j p q h => by simp at h, fun k q h => by simp at h⟩
  obtain ⟨hP, hD⟩ := va_join (wr := [(h0, .inr (3, [.int 0, .ref q_1, .ref q_2, .ref q_3, .int 0, .null])), (q_1, .inl (Z.2 0, 3, .inl (fun _ => 0))), (q_2, .inl (Z.2 0, 3, .inl (fun _ => 0))), (q_3, .inl (Z.2 0, 5, .inl (fun _ => 0)))]) (w1 := []) hP hD [] [0, 1, 2, 3] rfl rfl (by decide) (by decide) hk1 hFc hP1 hD1
  clear hPc hDc hP1 hD1 hk1 hz1 hFc ht hvm
  generalize H1 = H at hP hS ⊢
  have hP : va_P Z.1 vwCl [(h0, .inr (3, [.int 0, .ref q_1, .ref q_2, .ref q_3, .int 0, .null])), (q_1, .inl (Z.2 0, 3, .inl (fun _ => 0))), (q_2, .inl (Z.2 0, 3, .inl (fun _ => 0))), (q_3, .inl (Z.2 0, 5, .inl (fun _ => 0)))] H := hP
  have hD : va_D A [(h0, .inr (3, [.int 0, .ref q_1, .ref q_2, .ref q_3, .int 0, .null])), (q_1, .inl (Z.2 0, 3, .inl (fun _ => 0))), (q_2, .inl (Z.2 0, 3, .inl (fun _ => 0))), (q_3, .inl (Z.2 0, 5, .inl (fun _ => 0)))] := hD
  refine W.widen (k := 16) (n := 75) (Nat.le_of_ble_eq_true rfl) (Nat.le_of_ble_eq_true rfl) ?_
  refine va_putF (D := Z.1) (ci := 3) (v := .ref r_4) (ty := .array (.object "HalfAsked$Folk")) (C := RX3) (T := TX3) (N := 6) hx hb hts hin3 tyX3 tyX3_ok nmX3 hown hK hP hD hS 0 rfl rfl 5 (by decide) (hts (.fieldLink RX3 34 "HalfAsked$Saturdays" "states" "[LHalfAsked$Folk;") (by decide +kernel)) (fun _ h9 => h9) rfl hin rfl (by decide +kernel) rfl rfl (Nat.le_of_ble_eq_true rfl) dX3_init_40 (fun H locs hP hD hS => ?_)
  have hP : va_P Z.1 vwCl [(h0, .inr (3, [.int 0, .ref q_1, .ref q_2, .ref q_3, .int 0, .ref r_4])), (q_1, .inl (Z.2 0, 3, .inl (fun _ => 0))), (q_2, .inl (Z.2 0, 3, .inl (fun _ => 0))), (q_3, .inl (Z.2 0, 5, .inl (fun _ => 0)))] H := hP
  have hD : va_D A [(h0, .inr (3, [.int 0, .ref q_1, .ref q_2, .ref q_3, .int 0, .ref r_4])), (q_1, .inl (Z.2 0, 3, .inl (fun _ => 0))), (q_2, .inl (Z.2 0, 3, .inl (fun _ => 0))), (q_3, .inl (Z.2 0, 5, .inl (fun _ => 0)))] := hD
  exact W.vret hx hb hr (fun t ht hW => ⟨⟨(), rfl, trivial, trivial⟩, hS.F ht⟩) hS.2.2 dX3_init_43
