set_option maxHeartbeats 4000000 in
set_option maxRecDepth 100000 in
theorem c_X5_readFolk (l : Launch) (Z : gZ) (sz : Nat) (h0 : Nat) (tk : Nat) (n : Nat) (x0 : Int32) (f : Nat → Int32) (h1 : Nat) (v : Int32) (kn : Int32) (ak : Int32) (k : Nat) (q : Nat) (uf : Nat → Int32) (ug : Nat → Int32) (kA : Nat) (vA : Nat) (hn : n ≤ 80) (hc : zC f) : Met l yX5_readFolk wsX5_readFolk ({ frames := 7, cells := 0, slots := 0, locals := 300 }) (va_Pc [.ref h0, .ref h1] (fun U => U.heap.size = sz ∧ va_P Z.1 vwCl [(h0, .inr (5, [.int (nI n), .int x0, .ref tk])), (tk, .inl (Z.2 1, 80, .inl f)), (h1, .inr (0, [.int v, .int kn, .int ak, .ref k, .ref q])), (k, .inl (Z.2 0, 5, .inl uf)), (q, .inl (Z.2 0, 5, .inl ug))] U.heap ∧ va_K Z.1 vwCl (gT Z) U ∧ va_D (fun _ => True) [(h0, .inr (5, [.int (nI n), .int x0, .ref tk])), (tk, .inl (Z.2 1, 80, .inl f)), (h1, .inr (0, [.int v, .int kn, .int ak, .ref k, .ref q])), (k, .inl (Z.2 0, 5, .inl uf)), (q, .inl (Z.2 0, 5, .inl ug))] ∧ gS kA vA (va_A [(h0, .inr (5, [.int (nI n), .int x0, .ref tk])), (tk, .inl (Z.2 1, 80, .inl f)), (h1, .inr (0, [.int v, .int kn, .int ak, .ref k, .ref q])), (k, .inl (Z.2 0, 5, .inl uf)), (q, .inl (Z.2 0, 5, .inl ug))] sz) U)) (va_Qi (fun (r : Int32) (u : Nat × Nat × (Nat → Int32) × (Nat → Int32)) => match u with | (p1, mm, uf1, ug1) => p1 ≤ n ∧ mm ≤ 5) (fun (u : Nat × Nat × (Nat → Int32) × (Nat → Int32)) (t9 : State) => match u with | (p1, mm, uf1, ug1) => va_P Z.1 vwCl [(h0, .inr (5, [.int (nI n), .int (nI p1), .ref tk])), (tk, .inl (Z.2 1, 80, .inl f)), (h1, .inr (0, [.int (nI mm), .int 16510910, .int 0, .ref k, .ref q])), (k, .inl (Z.2 0, 5, .inl uf1)), (q, .inl (Z.2 0, 5, .inl ug1))] t9.heap ∧ va_D (va_A [(h0, .inr (5, [.int (nI n), .int x0, .ref tk])), (tk, .inl (Z.2 1, 80, .inl f)), (h1, .inr (0, [.int v, .int kn, .int ak, .ref k, .ref q])), (k, .inl (Z.2 0, 5, .inl uf)), (q, .inl (Z.2 0, 5, .inl ug))] sz) [(h0, .inr (5, [.int (nI n), .int (nI p1), .ref tk])), (tk, .inl (Z.2 1, 80, .inl f)), (h1, .inr (0, [.int (nI mm), .int 16510910, .int 0, .ref k, .ref q])), (k, .inl (Z.2 0, 5, .inl uf1)), (q, .inl (Z.2 0, 5, .inl ug1))]) (va_A [(h0, .inr (5, [.int (nI n), .int x0, .ref tk])), (tk, .inl (Z.2 1, 80, .inl f)), (h1, .inr (0, [.int v, .int kn, .int ak, .ref k, .ref q])), (k, .inl (Z.2 0, 5, .inl uf)), (q, .inl (Z.2 0, 5, .inl ug))] sz)) 0 0 (va_A [(h0, .inr (5, [.int (nI n), .int x0, .ref tk])), (tk, .inl (Z.2 1, 80, .inl f)), (h1, .inr (0, [.int v, .int kn, .int ak, .ref k, .ref q])), (k, .inl (Z.2 0, 5, .inl uf)), (q, .inl (Z.2 0, 5, .inl ug))] sz) := by
  refine Met.ofW (cc := cX5_readFolk) (maxL := 7) (ret := (some .int)) (by decide) rfl ?_
  intro p e s m args below meth c s₁ B hml hv
  obtain ⟨rfl, hsz, hP, hK, hD0, hG⟩ := hv
  have hx := B.exec
  have hb := B.bytes
  have hr := B.returns
  have hts := atoms_spec (ws := wsX5_readFolk) B.pre
  have hown : s.vm.findClass RX5 = some m.cls := findClass_of_methodNamed B.named
  have hlocks := B.notSynchronized
  subst hsz
  have hin0 : ∀ w ∈ wsX00, w ∈ wsX5_readFolk := by decide +kernel
  have hin5 : ∀ w ∈ wsX50, w ∈ wsX5_readFolk := by decide +kernel
  have hD := hD0.self (sz := s.heap.size)
  generalize hAe : va_A [(h0, .inr (5, [.int (nI n), .int x0, .ref tk])), (tk, .inl (Z.2 1, 80, .inl f)), (h1, .inr (0, [.int v, .int kn, .int ak, .ref k, .ref q])), (k, .inl (Z.2 0, 5, .inl uf)), (q, .inl (Z.2 0, 5, .inl ug))] s.heap.size = A at hD hG ⊢
  have hA : ∀ q : Nat, s.heap.size ≤ q → A q := fun q h => by rw [← hAe]; exact Or.inr h
  have hS : va_S A s.heap s.heap [] := va_S.rf
  have hP : va_P Z.1 vwCl [(h0, .inr (5, [.int (nI n), .int x0, .ref tk])), (tk, .inl (Z.2 1, 80, .inl f)), (h1, .inr (0, [.int v, .int kn, .int ak, .ref k, .ref q])), (k, .inl (Z.2 0, 5, .inl uf)), (q, .inl (Z.2 0, 5, .inl ug))] s.heap := hP
  have hl := lv_entry ([.ref h0, .ref h1]) (n := 7) (Nat.le_of_ble_eq_true rfl)
  rw [lg_entry_eq]
  generalize (lg_sl ([.ref h0, .ref h1]) ++ List.replicate (7 - (lg_sl ([.ref h0, .ref h1])).length) Slot.unset).toArray = ls at hl ⊢
  have hl : lv_has ls 7 [(0, .ref h0), (1, .ref h1)] := hl
  refine lv_aload_n hx hb dX5_readFolk_0 rfl (lv_at hl 1 rfl) ?_
  have hPc := hP.sub (ws' := [(h1, .inr (0, [.int v, .int kn, .int ak, .ref k, .ref q]))]) [2] rfl
  have hDc := hD.sub (ws' := [(h1, .inr (0, [.int v, .int kn, .int ak, .ref k, .ref q]))]) [2] (by decide) rfl
  have hFc := va_free (wc := [(h1, .inr (0, [.int v, .int kn, .int ak, .ref k, .ref q]))]) hD hS hA [2] rfl
  refine va_callv (va_runV (As := []) (rest := []) ⟨hx, hb, hml, hown, hts⟩ (c_X0_clear l Z s.heap.size h1 v kn ak k q) (cwV 0 hts gX5_readFolk_X0_clear rfl rfl rfl (by decide +kernel) ⟨Nat.le_of_ble_eq_true rfl, Nat.le_of_ble_eq_true rfl⟩) ⟨fun a U g mk q => by obtain ⟨q0, q1, qP, qK, qD⟩ := q; exact ⟨q0, q1, qP, va_K.moved (u := U) (U := U.calling g mk a) (Vm.Alike.refl U.vm) qK, qD⟩, va_recv hK hPc (ci := 0) (q0 := 0) rfl rfl, fun U hU hW => ⟨rfl, by rw [hU], by rw [hU]; exact hPc, va_K.moved hW.alike hK, hDc.weaken (fun _ _ _ _ => trivial)⟩⟩ rfl rfl hl.1 rfl (lv_room (Nat.le_of_ble_eq_true rfl)) dX5_readFolk_1 ⟨Nat.le_of_ble_eq_true rfl, Nat.le_of_ble_eq_true rfl⟩) hS (fun q _ h => hFc q h) hFc (fun u t9 H1 locs ht hvm hw hB hz1 hk1 hS => ?_)
  obtain ⟨hP1, hD1⟩ := hB
  rw [ht] at hP1
  obtain ⟨hP, hD⟩ := va_join (wr := [(h0, .inr (5, [.int (nI n), .int x0, .ref tk])), (tk, .inl (Z.2 1, 80, .inl f)), (k, .inl (Z.2 0, 5, .inl uf)), (q, .inl (Z.2 0, 5, .inl ug))]) (w1 := [(h1, .inr (0, [.int 0, .int 16510910, .int 0, .ref k, .ref q]))]) hP hD [2] [0, 1, 3, 4] rfl rfl (by decide) (by decide) hk1 hFc hP1 hD1
  clear hPc hDc hP1 hD1 hk1 hz1 hFc ht hvm
  generalize H1 = H at hP hS ⊢
  have hP : va_P Z.1 vwCl [(h0, .inr (5, [.int (nI n), .int x0, .ref tk])), (tk, .inl (Z.2 1, 80, .inl f)), (k, .inl (Z.2 0, 5, .inl uf)), (q, .inl (Z.2 0, 5, .inl ug)), (h1, .inr (0, [.int 0, .int 16510910, .int 0, .ref k, .ref q]))] H := hP
  have hD : va_D A [(h0, .inr (5, [.int (nI n), .int x0, .ref tk])), (tk, .inl (Z.2 1, 80, .inl f)), (k, .inl (Z.2 0, 5, .inl uf)), (q, .inl (Z.2 0, 5, .inl ug)), (h1, .inr (0, [.int 0, .int 16510910, .int 0, .ref k, .ref q]))] := hD
  refine lv_aload_n hx hb dX5_readFolk_4 rfl (lv_at hl 0 rfl) ?_
  refine lv_iconst (v := 0) hx hb dX5_readFolk_5 (by decide) ?_
  refine va_put (D := Z.1) (ci := 5) (v := .int 0) (ty := .int) (C := RX5) (T := TX5) (N := 3) hx hb hts hin5 tyX5 tyX5_ok nmX5 hown hK hP hD hS 0 rfl rfl 1 (by decide) (hts (.fieldLink RX5 15 "HalfAsked$Tape" "at" "I") (by decide +kernel)) (fun _ h9 => h9) rfl (by decide +kernel) rfl rfl (Nat.le_of_ble_eq_true rfl) dX5_readFolk_6 (fun H locs hP hD hS => ?_)
  have hP : va_P Z.1 vwCl [(h0, .inr (5, [.int (nI n), .int 0, .ref tk])), (tk, .inl (Z.2 1, 80, .inl f)), (k, .inl (Z.2 0, 5, .inl uf)), (q, .inl (Z.2 0, 5, .inl ug)), (h1, .inr (0, [.int 0, .int 16510910, .int 0, .ref k, .ref q]))] H := hP
  have hD : va_D A [(h0, .inr (5, [.int (nI n), .int 0, .ref tk])), (tk, .inl (Z.2 1, 80, .inl f)), (k, .inl (Z.2 0, 5, .inl uf)), (q, .inl (Z.2 0, 5, .inl ug)), (h1, .inr (0, [.int 0, .int 16510910, .int 0, .ref k, .ref q]))] := hD
  refine lv_iconst (v := 4) hx hb dX5_readFolk_9 (by decide) ?_
  refine lv_istore_n (lv' := [(2, .int 4), (0, .ref h0), (1, .ref h1)]) hx hb dX5_readFolk_10 rfl hl (by decide) rfl (fun ls hl => ?_)
  refine lv_iload_n hx hb dX5_readFolk_11 rfl (lv_at hl 0 rfl) ?_
  refine lv_if_lt (tgt := 140) hx hb dX5_readFolk_12 (by decide) (fun c9 => absurd c9 (by decide)) (fun _ => ?_)
  refine va_ldcS hx hb hown hG.2.2.2.2.2 dX5_readFolk_15 ?_
  refine lv_aload_n hx hb dX5_readFolk_17 rfl (lv_at hl 1 rfl) ?_
  have hPc := hP.sub (ws' := [(h0, .inr (5, [.int (nI n), .int 0, .ref tk])), (tk, .inl (Z.2 1, 80, .inl f))]) [0, 1] rfl
  have hDc := hD.sub (ws' := [(h0, .inr (5, [.int (nI n), .int 0, .ref tk])), (tk, .inl (Z.2 1, 80, .inl f))]) [0, 1] (by decide) rfl
  have hFc := va_free (wc := [(h0, .inr (5, [.int (nI n), .int 0, .ref tk])), (tk, .inl (Z.2 1, 80, .inl f))]) hD hS hA [0, 1] rfl
  refine va_calli (va_runV (As := []) (rest := [.ref kA]) ⟨hx, hb, hml, hown, hts⟩ (c_X5_look l Z H.size h0 tk n 0 f (hn) (by omega) (hc)) (cwV 0 hts gX5_readFolk_X5_look rfl rfl rfl (by decide +kernel) ⟨Nat.le_of_ble_eq_true rfl, Nat.le_of_ble_eq_true rfl⟩) ⟨fun a U g mk q => by obtain ⟨q0, q1, qP, qK, qD⟩ := q; exact ⟨q0, q1, qP, va_K.moved (u := U) (U := U.calling g mk a) (Vm.Alike.refl U.vm) qK, qD⟩, va_recv hK hPc (ci := 5) (q0 := 0) rfl rfl, fun U hU hW => ⟨rfl, by rw [hU], by rw [hU]; exact hPc, va_K.moved hW.alike hK, hDc.weaken (fun _ _ _ _ => trivial)⟩⟩ rfl rfl hl.1 rfl (lv_room (Nat.le_of_ble_eq_true rfl)) dX5_readFolk_18 ⟨Nat.le_of_ble_eq_true rfl, Nat.le_of_ble_eq_true rfl⟩) hS (fun q _ h => hFc q h) hFc (fun r_2 u t9 H1 locs ht hvm hw hB hz1 hk1 hS => ?_)
  obtain ⟨p1_3, rfl⟩ : ∃ z, z = u := ⟨_, rfl⟩
  try dsimp only at hw hB
  have hwr_2 := hw
  obtain ⟨hP1, hD1⟩ := hB
  rw [ht] at hP1
  obtain ⟨hP, hD⟩ := va_join (wr := [(k, .inl (Z.2 0, 5, .inl uf)), (q, .inl (Z.2 0, 5, .inl ug)), (h1, .inr (0, [.int 0, .int 16510910, .int 0, .ref k, .ref q]))]) (w1 := [(h0, .inr (5, [.int (nI n), .int (nI p1_3), .ref tk])), (tk, .inl (Z.2 1, 80, .inl f))]) hP hD [0, 1] [2, 3, 4] rfl rfl (by decide) (by decide) hk1 hFc hP1 hD1
  clear hPc hDc hP1 hD1 hk1 hz1 hFc ht hvm
  generalize H1 = H at hP hS ⊢
  have hP : va_P Z.1 vwCl [(k, .inl (Z.2 0, 5, .inl uf)), (q, .inl (Z.2 0, 5, .inl ug)), (h1, .inr (0, [.int 0, .int 16510910, .int 0, .ref k, .ref q])), (h0, .inr (5, [.int (nI n), .int (nI p1_3), .ref tk])), (tk, .inl (Z.2 1, 80, .inl f))] H := hP
  have hD : va_D A [(k, .inl (Z.2 0, 5, .inl uf)), (q, .inl (Z.2 0, 5, .inl ug)), (h1, .inr (0, [.int 0, .int 16510910, .int 0, .ref k, .ref q])), (h0, .inr (5, [.int (nI n), .int (nI p1_3), .ref tk])), (tk, .inl (Z.2 1, 80, .inl f))] := hD
  have hPc := hP.sub (ws' := []) [] rfl
  have hDc := hD.sub (ws' := []) [] (by decide) rfl
  have hFc := va_free (wc := []) hD hS hA [] rfl
  refine va_calli (va_runV (As := [.int r_2]) (rest := []) ⟨hx, hb, hml, hown, hts⟩ (c_J0_indexOf_0f7a4 l Z H.size r_2 kA vA) (cwV 1 hts gX5_readFolk_J0_indexOf_0f7a4 rfl rfl rfl (by decide +kernel) ⟨Nat.le_of_ble_eq_true rfl, Nat.le_of_ble_eq_true rfl⟩) ⟨fun a U g mk q => by obtain ⟨q0, q1, qP, qK, qD, qG⟩ := q; exact ⟨q0, q1, qP, va_K.moved (u := U) (U := U.calling g mk a) (Vm.Alike.refl U.vm) qK, qD, z_Gc (u := U) (U := U.calling g mk a) rfl rfl qG⟩, z_recv hG hS, fun U hU hW => ⟨rfl, by rw [hU], by rw [hU]; exact hPc, va_K.moved hW.alike hK, hDc.weaken (fun _ _ _ _ => trivial), z_G hW hG hS hU hFc⟩⟩ rfl rfl hl.1 rfl (lv_room (Nat.le_of_ble_eq_true rfl)) dX5_readFolk_21 ⟨Nat.le_of_ble_eq_true rfl, Nat.le_of_ble_eq_true rfl⟩) hS (fun q _ h => hFc q h) hFc (fun r_4 u t9 H1 locs ht hvm hw hB hz1 hk1 hS => ?_)
  subst hw
  have hP1 : va_P Z.1 vwCl [] H1 := fun k q h => by simp at h
  have hD1 : va_D (va_A [] H.size) [] := ⟨fun i j p q h => by simp at h, fun k q h => by simp at h⟩
  obtain ⟨hP, hD⟩ := va_join (wr := [(k, .inl (Z.2 0, 5, .inl uf)), (q, .inl (Z.2 0, 5, .inl ug)), (h1, .inr (0, [.int 0, .int 16510910, .int 0, .ref k, .ref q])), (h0, .inr (5, [.int (nI n), .int (nI p1_3), .ref tk])), (tk, .inl (Z.2 1, 80, .inl f))]) (w1 := []) hP hD [] [0, 1, 2, 3, 4] rfl rfl (by decide) (by decide) hk1 hFc hP1 hD1
  clear hPc hDc hP1 hD1 hk1 hz1 hFc ht hvm
  generalize H1 = H at hP hS ⊢
  have hP : va_P Z.1 vwCl [(k, .inl (Z.2 0, 5, .inl uf)), (q, .inl (Z.2 0, 5, .inl ug)), (h1, .inr (0, [.int 0, .int 16510910, .int 0, .ref k, .ref q])), (h0, .inr (5, [.int (nI n), .int (nI p1_3), .ref tk])), (tk, .inl (Z.2 1, 80, .inl f))] H := hP
  have hD : va_D A [(k, .inl (Z.2 0, 5, .inl uf)), (q, .inl (Z.2 0, 5, .inl ug)), (h1, .inr (0, [.int 0, .int 16510910, .int 0, .ref k, .ref q])), (h0, .inr (5, [.int (nI n), .int (nI p1_3), .ref tk])), (tk, .inl (Z.2 1, 80, .inl f))] := hD
  refine lv_istore_n (lv' := [(3, .int (if (if r_2 < 0 then (0 : Int32) else (if 255 < r_2 then (0 : Int32) else (1 : Int32))) = 0 then (-1 : Int32) else (if (102 : Int32) = r_2.toInt8.toInt32 then (0 : Int32) else (if (99 : Int32) = r_2.toInt8.toInt32 then (1 : Int32) else (if (116 : Int32) = r_2.toInt8.toInt32 then (2 : Int32) else (if (119 : Int32) = r_2.toInt8.toInt32 then (3 : Int32) else (-1 : Int32))))))), (2, .int 4), (0, .ref h0), (1, .ref h1)]) hx hb dX5_readFolk_24 rfl hl (by decide) rfl (fun ls hl => ?_)
  refine lv_iload_n hx hb dX5_readFolk_25 rfl (lv_at hl 0 rfl) ?_
  refine lv_if_ge (tgt := 37) hx hb dX5_readFolk_26 (by decide) (fun c_5 => ?_) (fun c_5 => ?_)
  · have hq5 := hwr_2.1 (z_ix0 c_5)
    refine lv_aload_n hx hb dX5_readFolk_37 rfl (lv_at hl 2 rfl) ?_
    refine lv_dup hx hb dX5_readFolk_38 rfl ?_
    refine va_get (D := Z.1) (ci := 5) (v := .int (nI p1_3)) (C := RX5) (T := TX5) (N := 3) hx hb hts hin5 hown hK hP 3 rfl rfl 1 (by decide) (hts (.fieldLink RX5 15 "HalfAsked$Tape" "at" "I") (by decide +kernel)) (fun _ h9 => h9) rfl dX5_readFolk_39 ?_
    refine lv_iconst (v := 1) hx hb dX5_readFolk_42 (by decide) ?_
    refine lv_iadd hx hb dX5_readFolk_43 ?_
    refine lv_topi (fun f_6 ef_6 => ?_)
    obtain rfl : f_6 = nI (p1_3 + 1) := ef_6.trans (nI_1 _)
    refine va_put (D := Z.1) (ci := 5) (v := .int (nI (p1_3 + 1))) (ty := .int) (C := RX5) (T := TX5) (N := 3) hx hb hts hin5 tyX5 tyX5_ok nmX5 hown hK hP hD hS 3 rfl rfl 1 (by decide) (hts (.fieldLink RX5 15 "HalfAsked$Tape" "at" "I") (by decide +kernel)) (fun _ h9 => h9) rfl (by decide +kernel) rfl rfl (Nat.le_of_ble_eq_true rfl) dX5_readFolk_44 (fun H locs hP hD hS => ?_)
    have hP : va_P Z.1 vwCl [(k, .inl (Z.2 0, 5, .inl uf)), (q, .inl (Z.2 0, 5, .inl ug)), (h1, .inr (0, [.int 0, .int 16510910, .int 0, .ref k, .ref q])), (h0, .inr (5, [.int (nI n), .int (nI (p1_3 + 1)), .ref tk])), (tk, .inl (Z.2 1, 80, .inl f))] H := hP
    have hD : va_D A [(k, .inl (Z.2 0, 5, .inl uf)), (q, .inl (Z.2 0, 5, .inl ug)), (h1, .inr (0, [.int 0, .int 16510910, .int 0, .ref k, .ref q])), (h0, .inr (5, [.int (nI n), .int (nI (p1_3 + 1)), .ref tk])), (tk, .inl (Z.2 1, 80, .inl f))] := hD
    refine lv_aload_n hx hb dX5_readFolk_47 rfl (lv_at hl 2 rfl) ?_
    have hPc := hP.sub (ws' := [(h0, .inr (5, [.int (nI n), .int (nI (p1_3 + 1)), .ref tk])), (tk, .inl (Z.2 1, 80, .inl f))]) [3, 4] rfl
    have hDc := hD.sub (ws' := [(h0, .inr (5, [.int (nI n), .int (nI (p1_3 + 1)), .ref tk])), (tk, .inl (Z.2 1, 80, .inl f))]) [3, 4] (by decide) rfl
    have hFc := va_free (wc := [(h0, .inr (5, [.int (nI n), .int (nI (p1_3 + 1)), .ref tk])), (tk, .inl (Z.2 1, 80, .inl f))]) hD hS hA [3, 4] rfl
    refine va_callv (va_runV (As := []) (rest := []) ⟨hx, hb, hml, hown, hts⟩ (c_X5_skipBlanks l Z H.size h0 tk n (p1_3 + 1) f (hn) (by omega) (hc)) (cwV 0 hts gX5_readFolk_X5_skipBlanks rfl rfl rfl (by decide +kernel) ⟨Nat.le_of_ble_eq_true rfl, Nat.le_of_ble_eq_true rfl⟩) ⟨fun a U g mk q => by obtain ⟨q0, q1, qP, qK, qD⟩ := q; exact ⟨q0, q1, qP, va_K.moved (u := U) (U := U.calling g mk a) (Vm.Alike.refl U.vm) qK, qD⟩, va_recv hK hPc (ci := 5) (q0 := 0) rfl rfl, fun U hU hW => ⟨rfl, by rw [hU], by rw [hU]; exact hPc, va_K.moved hW.alike hK, hDc.weaken (fun _ _ _ _ => trivial)⟩⟩ rfl rfl hl.1 rfl (lv_room (Nat.le_of_ble_eq_true rfl)) dX5_readFolk_48 ⟨Nat.le_of_ble_eq_true rfl, Nat.le_of_ble_eq_true rfl⟩) hS (fun q _ h => hFc q h) hFc (fun u t9 H1 locs ht hvm hw hB hz1 hk1 hS => ?_)
    obtain ⟨p1_8, rfl⟩ : ∃ z, z = u := ⟨_, rfl⟩
    try dsimp only at hw hB
    have hwr_7 := hw
    obtain ⟨hP1, hD1⟩ := hB
    rw [ht] at hP1
    obtain ⟨hP, hD⟩ := va_join (wr := [(k, .inl (Z.2 0, 5, .inl uf)), (q, .inl (Z.2 0, 5, .inl ug)), (h1, .inr (0, [.int 0, .int 16510910, .int 0, .ref k, .ref q]))]) (w1 := [(h0, .inr (5, [.int (nI n), .int (nI p1_8), .ref tk])), (tk, .inl (Z.2 1, 80, .inl f))]) hP hD [3, 4] [0, 1, 2] rfl rfl (by decide) (by decide) hk1 hFc hP1 hD1
    clear hPc hDc hP1 hD1 hk1 hz1 hFc ht hvm
    generalize H1 = H at hP hS ⊢
    have hP : va_P Z.1 vwCl [(k, .inl (Z.2 0, 5, .inl uf)), (q, .inl (Z.2 0, 5, .inl ug)), (h1, .inr (0, [.int 0, .int 16510910, .int 0, .ref k, .ref q])), (h0, .inr (5, [.int (nI n), .int (nI p1_8), .ref tk])), (tk, .inl (Z.2 1, 80, .inl f))] H := hP
    have hD : va_D A [(k, .inl (Z.2 0, 5, .inl uf)), (q, .inl (Z.2 0, 5, .inl ug)), (h1, .inr (0, [.int 0, .int 16510910, .int 0, .ref k, .ref q])), (h0, .inr (5, [.int (nI n), .int (nI p1_8), .ref tk])), (tk, .inl (Z.2 1, 80, .inl f))] := hD
    refine lv_aload_n hx hb dX5_readFolk_51 rfl (lv_at hl 2 rfl) ?_
    refine va_get (D := Z.1) (ci := 5) (v := .int (nI p1_8)) (C := RX5) (T := TX5) (N := 3) hx hb hts hin5 hown hK hP 3 rfl rfl 1 (by decide) (hts (.fieldLink RX5 15 "HalfAsked$Tape" "at" "I") (by decide +kernel)) (fun _ h9 => h9) rfl dX5_readFolk_52 ?_
    refine lv_istore (lv' := [(4, .int (nI p1_8)), (3, .int (if (if r_2 < 0 then (0 : Int32) else (if 255 < r_2 then (0 : Int32) else (1 : Int32))) = 0 then (-1 : Int32) else (if (102 : Int32) = r_2.toInt8.toInt32 then (0 : Int32) else (if (99 : Int32) = r_2.toInt8.toInt32 then (1 : Int32) else (if (116 : Int32) = r_2.toInt8.toInt32 then (2 : Int32) else (if (119 : Int32) = r_2.toInt8.toInt32 then (3 : Int32) else (-1 : Int32))))))), (2, .int 4), (0, .ref h0), (1, .ref h1)]) hx hb dX5_readFolk_55 hl (by decide) rfl (fun ls hl => ?_)
    refine lv_aload_n hx hb dX5_readFolk_57 rfl (lv_at hl 3 rfl) ?_
    have hPc := hP.sub (ws' := [(h0, .inr (5, [.int (nI n), .int (nI p1_8), .ref tk])), (tk, .inl (Z.2 1, 80, .inl f))]) [3, 4] rfl
    have hDc := hD.sub (ws' := [(h0, .inr (5, [.int (nI n), .int (nI p1_8), .ref tk])), (tk, .inl (Z.2 1, 80, .inl f))]) [3, 4] (by decide) rfl
    have hFc := va_free (wc := [(h0, .inr (5, [.int (nI n), .int (nI p1_8), .ref tk])), (tk, .inl (Z.2 1, 80, .inl f))]) hD hS hA [3, 4] rfl
    refine va_calli (va_runV (As := []) (rest := []) ⟨hx, hb, hml, hown, hts⟩ (c_X5_readNumber l Z H.size h0 tk n p1_8 f (hn) (by omega) (hc)) (cwV 0 hts gX5_readFolk_X5_readNumber rfl rfl rfl (by decide +kernel) ⟨Nat.le_of_ble_eq_true rfl, Nat.le_of_ble_eq_true rfl⟩) ⟨fun a U g mk q => by obtain ⟨q0, q1, qP, qK, qD⟩ := q; exact ⟨q0, q1, qP, va_K.moved (u := U) (U := U.calling g mk a) (Vm.Alike.refl U.vm) qK, qD⟩, va_recv hK hPc (ci := 5) (q0 := 0) rfl rfl, fun U hU hW => ⟨rfl, by rw [hU], by rw [hU]; exact hPc, va_K.moved hW.alike hK, hDc.weaken (fun _ _ _ _ => trivial)⟩⟩ rfl rfl hl.1 rfl (lv_room (Nat.le_of_ble_eq_true rfl)) dX5_readFolk_58 ⟨Nat.le_of_ble_eq_true rfl, Nat.le_of_ble_eq_true rfl⟩) hS (fun q _ h => hFc q h) hFc (fun r_9 u t9 H1 locs ht hvm hw hB hz1 hk1 hS => ?_)
    obtain ⟨p1_10, rfl⟩ : ∃ z, z = u := ⟨_, rfl⟩
    try dsimp only at hw hB
    have hwr_9 := hw
    obtain ⟨hP1, hD1⟩ := hB
    rw [ht] at hP1
    obtain ⟨hP, hD⟩ := va_join (wr := [(k, .inl (Z.2 0, 5, .inl uf)), (q, .inl (Z.2 0, 5, .inl ug)), (h1, .inr (0, [.int 0, .int 16510910, .int 0, .ref k, .ref q]))]) (w1 := [(h0, .inr (5, [.int (nI n), .int (nI p1_10), .ref tk])), (tk, .inl (Z.2 1, 80, .inl f))]) hP hD [3, 4] [0, 1, 2] rfl rfl (by decide) (by decide) hk1 hFc hP1 hD1
    clear hPc hDc hP1 hD1 hk1 hz1 hFc ht hvm
    generalize H1 = H at hP hS ⊢
    have hP : va_P Z.1 vwCl [(k, .inl (Z.2 0, 5, .inl uf)), (q, .inl (Z.2 0, 5, .inl ug)), (h1, .inr (0, [.int 0, .int 16510910, .int 0, .ref k, .ref q])), (h0, .inr (5, [.int (nI n), .int (nI p1_10), .ref tk])), (tk, .inl (Z.2 1, 80, .inl f))] H := hP
    have hD : va_D A [(k, .inl (Z.2 0, 5, .inl uf)), (q, .inl (Z.2 0, 5, .inl ug)), (h1, .inr (0, [.int 0, .int 16510910, .int 0, .ref k, .ref q])), (h0, .inr (5, [.int (nI n), .int (nI p1_10), .ref tk])), (tk, .inl (Z.2 1, 80, .inl f))] := hD
    refine lv_istore (lv' := [(5, .int r_9), (4, .int (nI p1_8)), (3, .int (if (if r_2 < 0 then (0 : Int32) else (if 255 < r_2 then (0 : Int32) else (1 : Int32))) = 0 then (-1 : Int32) else (if (102 : Int32) = r_2.toInt8.toInt32 then (0 : Int32) else (if (99 : Int32) = r_2.toInt8.toInt32 then (1 : Int32) else (if (116 : Int32) = r_2.toInt8.toInt32 then (2 : Int32) else (if (119 : Int32) = r_2.toInt8.toInt32 then (3 : Int32) else (-1 : Int32))))))), (2, .int 4), (0, .ref h0), (1, .ref h1)]) hx hb dX5_readFolk_61 hl (by decide) rfl (fun ls hl => ?_)
    refine lv_iload hx hb dX5_readFolk_63 (lv_at hl 0 rfl) ?_
    refine lv_if_lt (tgt := 76) hx hb dX5_readFolk_65 (by decide) (fun c_11 => ?_) (fun c_11 => ?_)
    · refine lv_iload hx hb dX5_readFolk_76 (lv_at hl 1 rfl) ?_
      have hPc := hP.sub (ws' := []) [] rfl
      have hDc := hD.sub (ws' := []) [] (by decide) rfl
      have hFc := va_free (wc := []) hD hS hA [] rfl
      refine va_calli (va_runS (As := [.int (nI p1_8)]) (rest := []) ⟨hx, hb, hml, hown, hts⟩ (c_X5_fault l Z H.size (nI p1_8)) (va_cwS 1 hts gX5_readFolk_X5_fault rfl rfl rfl (by decide +kernel) ⟨Nat.le_of_ble_eq_true rfl, Nat.le_of_ble_eq_true rfl⟩) ⟨fun a U g mk q => by obtain ⟨q0, q1, qP, qK, qD⟩ := q; exact ⟨q0, q1, qP, va_K.moved (u := U) (U := U.calling g mk a) (Vm.Alike.refl U.vm) qK, qD⟩, fun U hU hW => ⟨rfl, by rw [hU], by rw [hU]; exact hPc, va_K.moved hW.alike hK, hDc.weaken (fun _ _ _ _ => trivial)⟩⟩ rfl rfl hl.1 rfl (lv_room (Nat.le_of_ble_eq_true rfl)) dX5_readFolk_78 ⟨Nat.le_of_ble_eq_true rfl, Nat.le_of_ble_eq_true rfl⟩) hS (fun q _ h => hFc q h) hFc (fun r_12 u t9 H1 locs ht hvm hw hB hz1 hk1 hS => ?_)
      subst hw
      have hP1 : va_P Z.1 vwCl [] H1 := fun k q h => by simp at h
      have hD1 : va_D (va_A [] H.size) [] := ⟨fun i j p q h => by simp at h, fun k q h => by simp at h⟩
      obtain ⟨hP, hD⟩ := va_join (wr := [(k, .inl (Z.2 0, 5, .inl uf)), (q, .inl (Z.2 0, 5, .inl ug)), (h1, .inr (0, [.int 0, .int 16510910, .int 0, .ref k, .ref q])), (h0, .inr (5, [.int (nI n), .int (nI p1_10), .ref tk])), (tk, .inl (Z.2 1, 80, .inl f))]) (w1 := []) hP hD [] [0, 1, 2, 3, 4] rfl rfl (by decide) (by decide) hk1 hFc hP1 hD1
      clear hPc hDc hP1 hD1 hk1 hz1 hFc ht hvm
      generalize H1 = H at hP hS ⊢
      have hP : va_P Z.1 vwCl [(k, .inl (Z.2 0, 5, .inl uf)), (q, .inl (Z.2 0, 5, .inl ug)), (h1, .inr (0, [.int 0, .int 16510910, .int 0, .ref k, .ref q])), (h0, .inr (5, [.int (nI n), .int (nI p1_10), .ref tk])), (tk, .inl (Z.2 1, 80, .inl f))] H := hP
      have hD : va_D A [(k, .inl (Z.2 0, 5, .inl uf)), (q, .inl (Z.2 0, 5, .inl ug)), (h1, .inr (0, [.int 0, .int 16510910, .int 0, .ref k, .ref q])), (h0, .inr (5, [.int (nI n), .int (nI p1_10), .ref tk])), (tk, .inl (Z.2 1, 80, .inl f))] := hD
      have hP9 := hP.sub (ws' := [(h0, .inr (5, [.int (nI n), .int (nI p1_10), .ref tk])), (tk, .inl (Z.2 1, 80, .inl f)), (h1, .inr (0, [.int 0, .int 16510910, .int 0, .ref k, .ref q])), (k, .inl (Z.2 0, 5, .inl uf)), (q, .inl (Z.2 0, 5, .inl ug))]) [3, 4, 2, 0, 1] rfl
      have hD9 := hD.sub (ws' := [(h0, .inr (5, [.int (nI n), .int (nI p1_10), .ref tk])), (tk, .inl (Z.2 1, 80, .inl f)), (h1, .inr (0, [.int 0, .int 16510910, .int 0, .ref k, .ref q])), (k, .inl (Z.2 0, 5, .inl uf)), (q, .inl (Z.2 0, 5, .inl ug))]) [3, 4, 2, 0, 1] (by decide) rfl
      exact W.iret (v := ((-20) - (nI p1_8))) hx hb hr (fun t9 ht hW => ⟨⟨(-20) - (nI p1_8), (p1_10, 0, uf, ug), rfl, ⟨by omega, by omega⟩, by rw [ht]; exact hP9, hD9⟩, hS.F ht⟩) hS.2.2 dX5_readFolk_81
    · refine lv_iload hx hb dX5_readFolk_68 (lv_at hl 0 rfl) ?_
      refine lv_sipush (v := 9999) hx hb dX5_readFolk_70 (by decide) ?_
      refine lv_icmp_le (tgt := 82) hx hb dX5_readFolk_73 (by decide) (fun c_13 => ?_) (fun c_13 => ?_)
      · refine lv_aload_n hx hb dX5_readFolk_82 rfl (lv_at hl 5 rfl) ?_
        refine lv_iload_n hx hb dX5_readFolk_83 rfl (lv_at hl 2 rfl) ?_
        refine lv_iload hx hb dX5_readFolk_84 (lv_at hl 0 rfl) ?_
        have hPc := hP.sub (ws' := [(h1, .inr (0, [.int 0, .int 16510910, .int 0, .ref k, .ref q])), (k, .inl (Z.2 0, 5, .inl uf)), (q, .inl (Z.2 0, 5, .inl ug))]) [2, 0, 1] rfl
        have hDc := hD.sub (ws' := [(h1, .inr (0, [.int 0, .int 16510910, .int 0, .ref k, .ref q])), (k, .inl (Z.2 0, 5, .inl uf)), (q, .inl (Z.2 0, 5, .inl ug))]) [2, 0, 1] (by decide) rfl
        have hFc := va_free (wc := [(h1, .inr (0, [.int 0, .int 16510910, .int 0, .ref k, .ref q])), (k, .inl (Z.2 0, 5, .inl uf)), (q, .inl (Z.2 0, 5, .inl ug))]) hD hS hA [2, 0, 1] rfl
        refine va_callv (va_runV (As := [.int (if (if r_2 < 0 then (0 : Int32) else (if 255 < r_2 then (0 : Int32) else (1 : Int32))) = 0 then (-1 : Int32) else (if (102 : Int32) = r_2.toInt8.toInt32 then (0 : Int32) else (if (99 : Int32) = r_2.toInt8.toInt32 then (1 : Int32) else (if (116 : Int32) = r_2.toInt8.toInt32 then (2 : Int32) else (if (119 : Int32) = r_2.toInt8.toInt32 then (3 : Int32) else (-1 : Int32)))))), .int r_9]) (rest := []) ⟨hx, hb, hml, hown, hts⟩ (c_X0_add l Z H.size h1 0 16510910 0 k q uf ug (if (if r_2 < 0 then (0 : Int32) else (if 255 < r_2 then (0 : Int32) else (1 : Int32))) = 0 then (-1 : Int32) else (if (102 : Int32) = r_2.toInt8.toInt32 then (0 : Int32) else (if (99 : Int32) = r_2.toInt8.toInt32 then (1 : Int32) else (if (116 : Int32) = r_2.toInt8.toInt32 then (2 : Int32) else (if (119 : Int32) = r_2.toInt8.toInt32 then (3 : Int32) else (-1 : Int32)))))) r_9 (by omega)) (cwV 2 hts gX5_readFolk_X0_add rfl rfl rfl (by decide +kernel) ⟨Nat.le_of_ble_eq_true rfl, Nat.le_of_ble_eq_true rfl⟩) ⟨fun a U g mk q => by obtain ⟨q0, q1, qP, qK, qD⟩ := q; exact ⟨q0, q1, qP, va_K.moved (u := U) (U := U.calling g mk a) (Vm.Alike.refl U.vm) qK, qD⟩, va_recv hK hPc (ci := 0) (q0 := 0) rfl rfl, fun U hU hW => ⟨rfl, by rw [hU], by rw [hU]; exact hPc, va_K.moved hW.alike hK, hDc.weaken (fun _ _ _ _ => trivial)⟩⟩ rfl rfl hl.1 rfl (lv_room (Nat.le_of_ble_eq_true rfl)) dX5_readFolk_86 ⟨Nat.le_of_ble_eq_true rfl, Nat.le_of_ble_eq_true rfl⟩) hS (fun q _ h => hFc q h) hFc (fun u t9 H1 locs ht hvm hw hB hz1 hk1 hS => ?_)
        obtain ⟨f1_15, g1_16⟩ := u
        try dsimp only at hw hB
        obtain ⟨hP1, hD1⟩ := hB
        rw [ht] at hP1
        obtain ⟨hP, hD⟩ := va_join (wr := [(h0, .inr (5, [.int (nI n), .int (nI p1_10), .ref tk])), (tk, .inl (Z.2 1, 80, .inl f))]) (w1 := [(h1, .inr (0, [.int (nI (0 + 1)), .int 16510910, .int 0, .ref k, .ref q])), (k, .inl (Z.2 0, 5, .inl f1_15)), (q, .inl (Z.2 0, 5, .inl g1_16))]) hP hD [2, 0, 1] [3, 4] rfl rfl (by decide) (by decide) hk1 hFc hP1 hD1
        clear hPc hDc hP1 hD1 hk1 hz1 hFc ht hvm
        generalize H1 = H at hP hS ⊢
        have hP : va_P Z.1 vwCl [(h0, .inr (5, [.int (nI n), .int (nI p1_10), .ref tk])), (tk, .inl (Z.2 1, 80, .inl f)), (h1, .inr (0, [.int (nI (0 + 1)), .int 16510910, .int 0, .ref k, .ref q])), (k, .inl (Z.2 0, 5, .inl f1_15)), (q, .inl (Z.2 0, 5, .inl g1_16))] H := hP
        have hD : va_D A [(h0, .inr (5, [.int (nI n), .int (nI p1_10), .ref tk])), (tk, .inl (Z.2 1, 80, .inl f)), (h1, .inr (0, [.int (nI (0 + 1)), .int 16510910, .int 0, .ref k, .ref q])), (k, .inl (Z.2 0, 5, .inl f1_15)), (q, .inl (Z.2 0, 5, .inl g1_16))] := hD
        refine lv_aload_n hx hb dX5_readFolk_89 rfl (lv_at hl 4 rfl) ?_
        have hPc := hP.sub (ws' := [(h0, .inr (5, [.int (nI n), .int (nI p1_10), .ref tk])), (tk, .inl (Z.2 1, 80, .inl f))]) [0, 1] rfl
        have hDc := hD.sub (ws' := [(h0, .inr (5, [.int (nI n), .int (nI p1_10), .ref tk])), (tk, .inl (Z.2 1, 80, .inl f))]) [0, 1] (by decide) rfl
        have hFc := va_free (wc := [(h0, .inr (5, [.int (nI n), .int (nI p1_10), .ref tk])), (tk, .inl (Z.2 1, 80, .inl f))]) hD hS hA [0, 1] rfl
        refine va_calli (va_runV (As := []) (rest := []) ⟨hx, hb, hml, hown, hts⟩ (c_X5_look l Z H.size h0 tk n p1_10 f (hn) (by omega) (hc)) (cwV 0 hts gX5_readFolk_X5_look rfl rfl rfl (by decide +kernel) ⟨Nat.le_of_ble_eq_true rfl, Nat.le_of_ble_eq_true rfl⟩) ⟨fun a U g mk q => by obtain ⟨q0, q1, qP, qK, qD⟩ := q; exact ⟨q0, q1, qP, va_K.moved (u := U) (U := U.calling g mk a) (Vm.Alike.refl U.vm) qK, qD⟩, va_recv hK hPc (ci := 5) (q0 := 0) rfl rfl, fun U hU hW => ⟨rfl, by rw [hU], by rw [hU]; exact hPc, va_K.moved hW.alike hK, hDc.weaken (fun _ _ _ _ => trivial)⟩⟩ rfl rfl hl.1 rfl (lv_room (Nat.le_of_ble_eq_true rfl)) dX5_readFolk_90 ⟨Nat.le_of_ble_eq_true rfl, Nat.le_of_ble_eq_true rfl⟩) hS (fun q _ h => hFc q h) hFc (fun r_17 u t9 H1 locs ht hvm hw hB hz1 hk1 hS => ?_)
        obtain ⟨p1_18, rfl⟩ : ∃ z, z = u := ⟨_, rfl⟩
        try dsimp only at hw hB
        have hwr_17 := hw
        obtain ⟨hP1, hD1⟩ := hB
        rw [ht] at hP1
        obtain ⟨hP, hD⟩ := va_join (wr := [(h1, .inr (0, [.int (nI (0 + 1)), .int 16510910, .int 0, .ref k, .ref q])), (k, .inl (Z.2 0, 5, .inl f1_15)), (q, .inl (Z.2 0, 5, .inl g1_16))]) (w1 := [(h0, .inr (5, [.int (nI n), .int (nI p1_18), .ref tk])), (tk, .inl (Z.2 1, 80, .inl f))]) hP hD [0, 1] [2, 3, 4] rfl rfl (by decide) (by decide) hk1 hFc hP1 hD1
        clear hPc hDc hP1 hD1 hk1 hz1 hFc ht hvm
        generalize H1 = H at hP hS ⊢
        have hP : va_P Z.1 vwCl [(h1, .inr (0, [.int (nI (0 + 1)), .int 16510910, .int 0, .ref k, .ref q])), (k, .inl (Z.2 0, 5, .inl f1_15)), (q, .inl (Z.2 0, 5, .inl g1_16)), (h0, .inr (5, [.int (nI n), .int (nI p1_18), .ref tk])), (tk, .inl (Z.2 1, 80, .inl f))] H := hP
        have hD : va_D A [(h1, .inr (0, [.int (nI (0 + 1)), .int 16510910, .int 0, .ref k, .ref q])), (k, .inl (Z.2 0, 5, .inl f1_15)), (q, .inl (Z.2 0, 5, .inl g1_16)), (h0, .inr (5, [.int (nI n), .int (nI p1_18), .ref tk])), (tk, .inl (Z.2 1, 80, .inl f))] := hD
        refine lv_istore (lv' := [(6, .int r_17), (5, .int r_9), (4, .int (nI p1_8)), (3, .int (if (if r_2 < 0 then (0 : Int32) else (if 255 < r_2 then (0 : Int32) else (1 : Int32))) = 0 then (-1 : Int32) else (if (102 : Int32) = r_2.toInt8.toInt32 then (0 : Int32) else (if (99 : Int32) = r_2.toInt8.toInt32 then (1 : Int32) else (if (116 : Int32) = r_2.toInt8.toInt32 then (2 : Int32) else (if (119 : Int32) = r_2.toInt8.toInt32 then (3 : Int32) else (-1 : Int32))))))), (2, .int 4), (0, .ref h0), (1, .ref h1)]) hx hb dX5_readFolk_93 hl (by decide) rfl (fun ls hl => ?_)
        refine lv_iload hx hb dX5_readFolk_95 (lv_at hl 0 rfl) ?_
        refine lv_if_ne (tgt := 105) hx hb dX5_readFolk_97 (by decide) (fun c_19 => ?_) (fun c_19 => ?_)
        · refine lv_iload hx hb dX5_readFolk_105 (lv_at hl 0 rfl) ?_
          refine lv_bipush (v := 44) hx hb dX5_readFolk_107 (by decide) ?_
          refine lv_icmp_ne (tgt := 116) hx hb dX5_readFolk_109 (by decide) (fun c_20 => ?_) (fun c_20 => ?_)
          · refine lv_aload_n hx hb dX5_readFolk_116 rfl (lv_at hl 5 rfl) ?_
            refine va_get (D := Z.1) (ci := 5) (v := .int (nI p1_18)) (C := RX5) (T := TX5) (N := 3) hx hb hts hin5 hown hK hP 3 rfl rfl 1 (by decide) (hts (.fieldLink RX5 15 "HalfAsked$Tape" "at" "I") (by decide +kernel)) (fun _ h9 => h9) rfl dX5_readFolk_117 ?_
            have hPc := hP.sub (ws' := []) [] rfl
            have hDc := hD.sub (ws' := []) [] (by decide) rfl
            have hFc := va_free (wc := []) hD hS hA [] rfl
            refine va_calli (va_runS (As := [.int (nI p1_18)]) (rest := []) ⟨hx, hb, hml, hown, hts⟩ (c_X5_fault l Z H.size (nI p1_18)) (va_cwS 1 hts gX5_readFolk_X5_fault rfl rfl rfl (by decide +kernel) ⟨Nat.le_of_ble_eq_true rfl, Nat.le_of_ble_eq_true rfl⟩) ⟨fun a U g mk q => by obtain ⟨q0, q1, qP, qK, qD⟩ := q; exact ⟨q0, q1, qP, va_K.moved (u := U) (U := U.calling g mk a) (Vm.Alike.refl U.vm) qK, qD⟩, fun U hU hW => ⟨rfl, by rw [hU], by rw [hU]; exact hPc, va_K.moved hW.alike hK, hDc.weaken (fun _ _ _ _ => trivial)⟩⟩ rfl rfl hl.1 rfl (lv_room (Nat.le_of_ble_eq_true rfl)) dX5_readFolk_120 ⟨Nat.le_of_ble_eq_true rfl, Nat.le_of_ble_eq_true rfl⟩) hS (fun q _ h => hFc q h) hFc (fun r_21 u t9 H1 locs ht hvm hw hB hz1 hk1 hS => ?_)
            subst hw
            have hP1 : va_P Z.1 vwCl [] H1 := fun k q h => by simp at h
            have hD1 : va_D (va_A [] H.size) [] := ⟨fun i j p q h => by simp at h, fun k q h => by simp at h⟩
            obtain ⟨hP, hD⟩ := va_join (wr := [(h1, .inr (0, [.int (nI (0 + 1)), .int 16510910, .int 0, .ref k, .ref q])), (k, .inl (Z.2 0, 5, .inl f1_15)), (q, .inl (Z.2 0, 5, .inl g1_16)), (h0, .inr (5, [.int (nI n), .int (nI p1_18), .ref tk])), (tk, .inl (Z.2 1, 80, .inl f))]) (w1 := []) hP hD [] [0, 1, 2, 3, 4] rfl rfl (by decide) (by decide) hk1 hFc hP1 hD1
            clear hPc hDc hP1 hD1 hk1 hz1 hFc ht hvm
            generalize H1 = H at hP hS ⊢
            have hP : va_P Z.1 vwCl [(h1, .inr (0, [.int (nI (0 + 1)), .int 16510910, .int 0, .ref k, .ref q])), (k, .inl (Z.2 0, 5, .inl f1_15)), (q, .inl (Z.2 0, 5, .inl g1_16)), (h0, .inr (5, [.int (nI n), .int (nI p1_18), .ref tk])), (tk, .inl (Z.2 1, 80, .inl f))] H := hP
            have hD : va_D A [(h1, .inr (0, [.int (nI (0 + 1)), .int 16510910, .int 0, .ref k, .ref q])), (k, .inl (Z.2 0, 5, .inl f1_15)), (q, .inl (Z.2 0, 5, .inl g1_16)), (h0, .inr (5, [.int (nI n), .int (nI p1_18), .ref tk])), (tk, .inl (Z.2 1, 80, .inl f))] := hD
            have hP9 := hP.sub (ws' := [(h0, .inr (5, [.int (nI n), .int (nI p1_18), .ref tk])), (tk, .inl (Z.2 1, 80, .inl f)), (h1, .inr (0, [.int (nI (0 + 1)), .int 16510910, .int 0, .ref k, .ref q])), (k, .inl (Z.2 0, 5, .inl f1_15)), (q, .inl (Z.2 0, 5, .inl g1_16))]) [3, 4, 0, 1, 2] rfl
            have hD9 := hD.sub (ws' := [(h0, .inr (5, [.int (nI n), .int (nI p1_18), .ref tk])), (tk, .inl (Z.2 1, 80, .inl f)), (h1, .inr (0, [.int (nI (0 + 1)), .int 16510910, .int 0, .ref k, .ref q])), (k, .inl (Z.2 0, 5, .inl f1_15)), (q, .inl (Z.2 0, 5, .inl g1_16))]) [3, 4, 0, 1, 2] (by decide) rfl
            exact W.iret (v := ((-20) - (nI p1_18))) hx hb hr (fun t9 ht hW => ⟨⟨(-20) - (nI p1_18), (p1_18, (0 + 1), f1_15, g1_16), rfl, ⟨by omega, by omega⟩, by rw [ht]; exact hP9, hD9⟩, hS.F ht⟩) hS.2.2 dX5_readFolk_123
          · refine lv_iload_n hx hb dX5_readFolk_112 rfl (lv_at hl 4 rfl) ?_
            refine lv_if_ne (tgt := 124) hx hb dX5_readFolk_113 (by decide) (fun _ => ?_) (fun c9 => absurd c9 (by decide))
            have hq21 := hwr_17.1 (z_eq0 c_20 (by decide))
            refine lv_aload_n hx hb dX5_readFolk_124 rfl (lv_at hl 5 rfl) ?_
            refine lv_dup hx hb dX5_readFolk_125 rfl ?_
            refine va_get (D := Z.1) (ci := 5) (v := .int (nI p1_18)) (C := RX5) (T := TX5) (N := 3) hx hb hts hin5 hown hK hP 3 rfl rfl 1 (by decide) (hts (.fieldLink RX5 15 "HalfAsked$Tape" "at" "I") (by decide +kernel)) (fun _ h9 => h9) rfl dX5_readFolk_126 ?_
            refine lv_iconst (v := 1) hx hb dX5_readFolk_129 (by decide) ?_
            refine lv_iadd hx hb dX5_readFolk_130 ?_
            refine lv_topi (fun f_22 ef_22 => ?_)
            obtain rfl : f_22 = nI (p1_18 + 1) := ef_22.trans (nI_1 _)
            refine va_put (D := Z.1) (ci := 5) (v := .int (nI (p1_18 + 1))) (ty := .int) (C := RX5) (T := TX5) (N := 3) hx hb hts hin5 tyX5 tyX5_ok nmX5 hown hK hP hD hS 3 rfl rfl 1 (by decide) (hts (.fieldLink RX5 15 "HalfAsked$Tape" "at" "I") (by decide +kernel)) (fun _ h9 => h9) rfl (by decide +kernel) rfl rfl (Nat.le_of_ble_eq_true rfl) dX5_readFolk_131 (fun H locs hP hD hS => ?_)
            have hP : va_P Z.1 vwCl [(h1, .inr (0, [.int (nI (0 + 1)), .int 16510910, .int 0, .ref k, .ref q])), (k, .inl (Z.2 0, 5, .inl f1_15)), (q, .inl (Z.2 0, 5, .inl g1_16)), (h0, .inr (5, [.int (nI n), .int (nI (p1_18 + 1)), .ref tk])), (tk, .inl (Z.2 1, 80, .inl f))] H := hP
            have hD : va_D A [(h1, .inr (0, [.int (nI (0 + 1)), .int 16510910, .int 0, .ref k, .ref q])), (k, .inl (Z.2 0, 5, .inl f1_15)), (q, .inl (Z.2 0, 5, .inl g1_16)), (h0, .inr (5, [.int (nI n), .int (nI (p1_18 + 1)), .ref tk])), (tk, .inl (Z.2 1, 80, .inl f))] := hD
            refine lv_iinc (v := 3) (lv' := [(2, .int 3), (6, .int r_17), (5, .int r_9), (4, .int (nI p1_8)), (3, .int (if (if r_2 < 0 then (0 : Int32) else (if 255 < r_2 then (0 : Int32) else (1 : Int32))) = 0 then (-1 : Int32) else (if (102 : Int32) = r_2.toInt8.toInt32 then (0 : Int32) else (if (99 : Int32) = r_2.toInt8.toInt32 then (1 : Int32) else (if (116 : Int32) = r_2.toInt8.toInt32 then (2 : Int32) else (if (119 : Int32) = r_2.toInt8.toInt32 then (3 : Int32) else (-1 : Int32))))))), (0, .ref h0), (1, .ref h1)]) hx hb dX5_readFolk_134 hl (k := 4) rfl (by decide) (by decide) rfl (fun ls hl => ?_)
            refine lv_goto (tgt := 11) hx hb dX5_readFolk_137 (by decide) ?_
            refine lv_iload_n hx hb dX5_readFolk_11 rfl (lv_at hl 0 rfl) ?_
            refine lv_if_lt (tgt := 140) hx hb dX5_readFolk_12 (by decide) (fun c9 => absurd c9 (by decide)) (fun _ => ?_)
            refine va_ldcS hx hb hown hG.2.2.2.2.2 dX5_readFolk_15 ?_
            refine lv_aload_n hx hb dX5_readFolk_17 rfl (lv_at hl 5 rfl) ?_
            have hPc := hP.sub (ws' := [(h0, .inr (5, [.int (nI n), .int (nI (p1_18 + 1)), .ref tk])), (tk, .inl (Z.2 1, 80, .inl f))]) [3, 4] rfl
            have hDc := hD.sub (ws' := [(h0, .inr (5, [.int (nI n), .int (nI (p1_18 + 1)), .ref tk])), (tk, .inl (Z.2 1, 80, .inl f))]) [3, 4] (by decide) rfl
            have hFc := va_free (wc := [(h0, .inr (5, [.int (nI n), .int (nI (p1_18 + 1)), .ref tk])), (tk, .inl (Z.2 1, 80, .inl f))]) hD hS hA [3, 4] rfl
            refine va_calli (va_runV (As := []) (rest := [.ref kA]) ⟨hx, hb, hml, hown, hts⟩ (c_X5_look l Z H.size h0 tk n (p1_18 + 1) f (hn) (by omega) (hc)) (cwV 0 hts gX5_readFolk_X5_look rfl rfl rfl (by decide +kernel) ⟨Nat.le_of_ble_eq_true rfl, Nat.le_of_ble_eq_true rfl⟩) ⟨fun a U g mk q => by obtain ⟨q0, q1, qP, qK, qD⟩ := q; exact ⟨q0, q1, qP, va_K.moved (u := U) (U := U.calling g mk a) (Vm.Alike.refl U.vm) qK, qD⟩, va_recv hK hPc (ci := 5) (q0 := 0) rfl rfl, fun U hU hW => ⟨rfl, by rw [hU], by rw [hU]; exact hPc, va_K.moved hW.alike hK, hDc.weaken (fun _ _ _ _ => trivial)⟩⟩ rfl rfl hl.1 rfl (lv_room (Nat.le_of_ble_eq_true rfl)) dX5_readFolk_18 ⟨Nat.le_of_ble_eq_true rfl, Nat.le_of_ble_eq_true rfl⟩) hS (fun q _ h => hFc q h) hFc (fun r_23 u t9 H1 locs ht hvm hw hB hz1 hk1 hS => ?_)
            obtain ⟨p1_24, rfl⟩ : ∃ z, z = u := ⟨_, rfl⟩
            try dsimp only at hw hB
            have hwr_23 := hw
            obtain ⟨hP1, hD1⟩ := hB
            rw [ht] at hP1
            obtain ⟨hP, hD⟩ := va_join (wr := [(h1, .inr (0, [.int (nI (0 + 1)), .int 16510910, .int 0, .ref k, .ref q])), (k, .inl (Z.2 0, 5, .inl f1_15)), (q, .inl (Z.2 0, 5, .inl g1_16))]) (w1 := [(h0, .inr (5, [.int (nI n), .int (nI p1_24), .ref tk])), (tk, .inl (Z.2 1, 80, .inl f))]) hP hD [3, 4] [0, 1, 2] rfl rfl (by decide) (by decide) hk1 hFc hP1 hD1
            clear hPc hDc hP1 hD1 hk1 hz1 hFc ht hvm
            generalize H1 = H at hP hS ⊢
            have hP : va_P Z.1 vwCl [(h1, .inr (0, [.int (nI (0 + 1)), .int 16510910, .int 0, .ref k, .ref q])), (k, .inl (Z.2 0, 5, .inl f1_15)), (q, .inl (Z.2 0, 5, .inl g1_16)), (h0, .inr (5, [.int (nI n), .int (nI p1_24), .ref tk])), (tk, .inl (Z.2 1, 80, .inl f))] H := hP
            have hD : va_D A [(h1, .inr (0, [.int (nI (0 + 1)), .int 16510910, .int 0, .ref k, .ref q])), (k, .inl (Z.2 0, 5, .inl f1_15)), (q, .inl (Z.2 0, 5, .inl g1_16)), (h0, .inr (5, [.int (nI n), .int (nI p1_24), .ref tk])), (tk, .inl (Z.2 1, 80, .inl f))] := hD
            have hPc := hP.sub (ws' := []) [] rfl
            have hDc := hD.sub (ws' := []) [] (by decide) rfl
            have hFc := va_free (wc := []) hD hS hA [] rfl
            refine va_calli (va_runV (As := [.int r_23]) (rest := []) ⟨hx, hb, hml, hown, hts⟩ (c_J0_indexOf_0f7a4 l Z H.size r_23 kA vA) (cwV 1 hts gX5_readFolk_J0_indexOf_0f7a4 rfl rfl rfl (by decide +kernel) ⟨Nat.le_of_ble_eq_true rfl, Nat.le_of_ble_eq_true rfl⟩) ⟨fun a U g mk q => by obtain ⟨q0, q1, qP, qK, qD, qG⟩ := q; exact ⟨q0, q1, qP, va_K.moved (u := U) (U := U.calling g mk a) (Vm.Alike.refl U.vm) qK, qD, z_Gc (u := U) (U := U.calling g mk a) rfl rfl qG⟩, z_recv hG hS, fun U hU hW => ⟨rfl, by rw [hU], by rw [hU]; exact hPc, va_K.moved hW.alike hK, hDc.weaken (fun _ _ _ _ => trivial), z_G hW hG hS hU hFc⟩⟩ rfl rfl hl.1 rfl (lv_room (Nat.le_of_ble_eq_true rfl)) dX5_readFolk_21 ⟨Nat.le_of_ble_eq_true rfl, Nat.le_of_ble_eq_true rfl⟩) hS (fun q _ h => hFc q h) hFc (fun r_25 u t9 H1 locs ht hvm hw hB hz1 hk1 hS => ?_)
            subst hw
            have hP1 : va_P Z.1 vwCl [] H1 := fun k q h => by simp at h
            have hD1 : va_D (va_A [] H.size) [] := ⟨fun i j p q h => by simp at h, fun k q h => by simp at h⟩
            obtain ⟨hP, hD⟩ := va_join (wr := [(h1, .inr (0, [.int (nI (0 + 1)), .int 16510910, .int 0, .ref k, .ref q])), (k, .inl (Z.2 0, 5, .inl f1_15)), (q, .inl (Z.2 0, 5, .inl g1_16)), (h0, .inr (5, [.int (nI n), .int (nI p1_24), .ref tk])), (tk, .inl (Z.2 1, 80, .inl f))]) (w1 := []) hP hD [] [0, 1, 2, 3, 4] rfl rfl (by decide) (by decide) hk1 hFc hP1 hD1
            clear hPc hDc hP1 hD1 hk1 hz1 hFc ht hvm
            generalize H1 = H at hP hS ⊢
            have hP : va_P Z.1 vwCl [(h1, .inr (0, [.int (nI (0 + 1)), .int 16510910, .int 0, .ref k, .ref q])), (k, .inl (Z.2 0, 5, .inl f1_15)), (q, .inl (Z.2 0, 5, .inl g1_16)), (h0, .inr (5, [.int (nI n), .int (nI p1_24), .ref tk])), (tk, .inl (Z.2 1, 80, .inl f))] H := hP
            have hD : va_D A [(h1, .inr (0, [.int (nI (0 + 1)), .int 16510910, .int 0, .ref k, .ref q])), (k, .inl (Z.2 0, 5, .inl f1_15)), (q, .inl (Z.2 0, 5, .inl g1_16)), (h0, .inr (5, [.int (nI n), .int (nI p1_24), .ref tk])), (tk, .inl (Z.2 1, 80, .inl f))] := hD
            refine lv_istore_n (lv' := [(3, .int (if (if r_23 < 0 then (0 : Int32) else (if 255 < r_23 then (0 : Int32) else (1 : Int32))) = 0 then (-1 : Int32) else (if (102 : Int32) = r_23.toInt8.toInt32 then (0 : Int32) else (if (99 : Int32) = r_23.toInt8.toInt32 then (1 : Int32) else (if (116 : Int32) = r_23.toInt8.toInt32 then (2 : Int32) else (if (119 : Int32) = r_23.toInt8.toInt32 then (3 : Int32) else (-1 : Int32))))))), (2, .int 3), (6, .int r_17), (5, .int r_9), (4, .int (nI p1_8)), (0, .ref h0), (1, .ref h1)]) hx hb dX5_readFolk_24 rfl hl (by decide) rfl (fun ls hl => ?_)
            refine lv_iload_n hx hb dX5_readFolk_25 rfl (lv_at hl 0 rfl) ?_
            refine lv_if_ge (tgt := 37) hx hb dX5_readFolk_26 (by decide) (fun c_26 => ?_) (fun c_26 => ?_)
            · have hq26 := hwr_23.1 (z_ix0 c_26)
              refine lv_aload_n hx hb dX5_readFolk_37 rfl (lv_at hl 5 rfl) ?_
              refine lv_dup hx hb dX5_readFolk_38 rfl ?_
              refine va_get (D := Z.1) (ci := 5) (v := .int (nI p1_24)) (C := RX5) (T := TX5) (N := 3) hx hb hts hin5 hown hK hP 3 rfl rfl 1 (by decide) (hts (.fieldLink RX5 15 "HalfAsked$Tape" "at" "I") (by decide +kernel)) (fun _ h9 => h9) rfl dX5_readFolk_39 ?_
              refine lv_iconst (v := 1) hx hb dX5_readFolk_42 (by decide) ?_
              refine lv_iadd hx hb dX5_readFolk_43 ?_
              refine lv_topi (fun f_27 ef_27 => ?_)
              obtain rfl : f_27 = nI (p1_24 + 1) := ef_27.trans (nI_1 _)
              refine va_put (D := Z.1) (ci := 5) (v := .int (nI (p1_24 + 1))) (ty := .int) (C := RX5) (T := TX5) (N := 3) hx hb hts hin5 tyX5 tyX5_ok nmX5 hown hK hP hD hS 3 rfl rfl 1 (by decide) (hts (.fieldLink RX5 15 "HalfAsked$Tape" "at" "I") (by decide +kernel)) (fun _ h9 => h9) rfl (by decide +kernel) rfl rfl (Nat.le_of_ble_eq_true rfl) dX5_readFolk_44 (fun H locs hP hD hS => ?_)
              have hP : va_P Z.1 vwCl [(h1, .inr (0, [.int (nI (0 + 1)), .int 16510910, .int 0, .ref k, .ref q])), (k, .inl (Z.2 0, 5, .inl f1_15)), (q, .inl (Z.2 0, 5, .inl g1_16)), (h0, .inr (5, [.int (nI n), .int (nI (p1_24 + 1)), .ref tk])), (tk, .inl (Z.2 1, 80, .inl f))] H := hP
              have hD : va_D A [(h1, .inr (0, [.int (nI (0 + 1)), .int 16510910, .int 0, .ref k, .ref q])), (k, .inl (Z.2 0, 5, .inl f1_15)), (q, .inl (Z.2 0, 5, .inl g1_16)), (h0, .inr (5, [.int (nI n), .int (nI (p1_24 + 1)), .ref tk])), (tk, .inl (Z.2 1, 80, .inl f))] := hD
              refine lv_aload_n hx hb dX5_readFolk_47 rfl (lv_at hl 5 rfl) ?_
              have hPc := hP.sub (ws' := [(h0, .inr (5, [.int (nI n), .int (nI (p1_24 + 1)), .ref tk])), (tk, .inl (Z.2 1, 80, .inl f))]) [3, 4] rfl
              have hDc := hD.sub (ws' := [(h0, .inr (5, [.int (nI n), .int (nI (p1_24 + 1)), .ref tk])), (tk, .inl (Z.2 1, 80, .inl f))]) [3, 4] (by decide) rfl
              have hFc := va_free (wc := [(h0, .inr (5, [.int (nI n), .int (nI (p1_24 + 1)), .ref tk])), (tk, .inl (Z.2 1, 80, .inl f))]) hD hS hA [3, 4] rfl
              refine va_callv (va_runV (As := []) (rest := []) ⟨hx, hb, hml, hown, hts⟩ (c_X5_skipBlanks l Z H.size h0 tk n (p1_24 + 1) f (hn) (by omega) (hc)) (cwV 0 hts gX5_readFolk_X5_skipBlanks rfl rfl rfl (by decide +kernel) ⟨Nat.le_of_ble_eq_true rfl, Nat.le_of_ble_eq_true rfl⟩) ⟨fun a U g mk q => by obtain ⟨q0, q1, qP, qK, qD⟩ := q; exact ⟨q0, q1, qP, va_K.moved (u := U) (U := U.calling g mk a) (Vm.Alike.refl U.vm) qK, qD⟩, va_recv hK hPc (ci := 5) (q0 := 0) rfl rfl, fun U hU hW => ⟨rfl, by rw [hU], by rw [hU]; exact hPc, va_K.moved hW.alike hK, hDc.weaken (fun _ _ _ _ => trivial)⟩⟩ rfl rfl hl.1 rfl (lv_room (Nat.le_of_ble_eq_true rfl)) dX5_readFolk_48 ⟨Nat.le_of_ble_eq_true rfl, Nat.le_of_ble_eq_true rfl⟩) hS (fun q _ h => hFc q h) hFc (fun u t9 H1 locs ht hvm hw hB hz1 hk1 hS => ?_)
              obtain ⟨p1_29, rfl⟩ : ∃ z, z = u := ⟨_, rfl⟩
              try dsimp only at hw hB
              have hwr_28 := hw
              obtain ⟨hP1, hD1⟩ := hB
              rw [ht] at hP1
              obtain ⟨hP, hD⟩ := va_join (wr := [(h1, .inr (0, [.int (nI (0 + 1)), .int 16510910, .int 0, .ref k, .ref q])), (k, .inl (Z.2 0, 5, .inl f1_15)), (q, .inl (Z.2 0, 5, .inl g1_16))]) (w1 := [(h0, .inr (5, [.int (nI n), .int (nI p1_29), .ref tk])), (tk, .inl (Z.2 1, 80, .inl f))]) hP hD [3, 4] [0, 1, 2] rfl rfl (by decide) (by decide) hk1 hFc hP1 hD1
              clear hPc hDc hP1 hD1 hk1 hz1 hFc ht hvm
              generalize H1 = H at hP hS ⊢
              have hP : va_P Z.1 vwCl [(h1, .inr (0, [.int (nI (0 + 1)), .int 16510910, .int 0, .ref k, .ref q])), (k, .inl (Z.2 0, 5, .inl f1_15)), (q, .inl (Z.2 0, 5, .inl g1_16)), (h0, .inr (5, [.int (nI n), .int (nI p1_29), .ref tk])), (tk, .inl (Z.2 1, 80, .inl f))] H := hP
              have hD : va_D A [(h1, .inr (0, [.int (nI (0 + 1)), .int 16510910, .int 0, .ref k, .ref q])), (k, .inl (Z.2 0, 5, .inl f1_15)), (q, .inl (Z.2 0, 5, .inl g1_16)), (h0, .inr (5, [.int (nI n), .int (nI p1_29), .ref tk])), (tk, .inl (Z.2 1, 80, .inl f))] := hD
              refine lv_aload_n hx hb dX5_readFolk_51 rfl (lv_at hl 5 rfl) ?_
              refine va_get (D := Z.1) (ci := 5) (v := .int (nI p1_29)) (C := RX5) (T := TX5) (N := 3) hx hb hts hin5 hown hK hP 3 rfl rfl 1 (by decide) (hts (.fieldLink RX5 15 "HalfAsked$Tape" "at" "I") (by decide +kernel)) (fun _ h9 => h9) rfl dX5_readFolk_52 ?_
              refine lv_istore (lv' := [(4, .int (nI p1_29)), (3, .int (if (if r_23 < 0 then (0 : Int32) else (if 255 < r_23 then (0 : Int32) else (1 : Int32))) = 0 then (-1 : Int32) else (if (102 : Int32) = r_23.toInt8.toInt32 then (0 : Int32) else (if (99 : Int32) = r_23.toInt8.toInt32 then (1 : Int32) else (if (116 : Int32) = r_23.toInt8.toInt32 then (2 : Int32) else (if (119 : Int32) = r_23.toInt8.toInt32 then (3 : Int32) else (-1 : Int32))))))), (2, .int 3), (6, .int r_17), (5, .int r_9), (0, .ref h0), (1, .ref h1)]) hx hb dX5_readFolk_55 hl (by decide) rfl (fun ls hl => ?_)
              refine lv_aload_n hx hb dX5_readFolk_57 rfl (lv_at hl 5 rfl) ?_
              have hPc := hP.sub (ws' := [(h0, .inr (5, [.int (nI n), .int (nI p1_29), .ref tk])), (tk, .inl (Z.2 1, 80, .inl f))]) [3, 4] rfl
              have hDc := hD.sub (ws' := [(h0, .inr (5, [.int (nI n), .int (nI p1_29), .ref tk])), (tk, .inl (Z.2 1, 80, .inl f))]) [3, 4] (by decide) rfl
              have hFc := va_free (wc := [(h0, .inr (5, [.int (nI n), .int (nI p1_29), .ref tk])), (tk, .inl (Z.2 1, 80, .inl f))]) hD hS hA [3, 4] rfl
              refine va_calli (va_runV (As := []) (rest := []) ⟨hx, hb, hml, hown, hts⟩ (c_X5_readNumber l Z H.size h0 tk n p1_29 f (hn) (by omega) (hc)) (cwV 0 hts gX5_readFolk_X5_readNumber rfl rfl rfl (by decide +kernel) ⟨Nat.le_of_ble_eq_true rfl, Nat.le_of_ble_eq_true rfl⟩) ⟨fun a U g mk q => by obtain ⟨q0, q1, qP, qK, qD⟩ := q; exact ⟨q0, q1, qP, va_K.moved (u := U) (U := U.calling g mk a) (Vm.Alike.refl U.vm) qK, qD⟩, va_recv hK hPc (ci := 5) (q0 := 0) rfl rfl, fun U hU hW => ⟨rfl, by rw [hU], by rw [hU]; exact hPc, va_K.moved hW.alike hK, hDc.weaken (fun _ _ _ _ => trivial)⟩⟩ rfl rfl hl.1 rfl (lv_room (Nat.le_of_ble_eq_true rfl)) dX5_readFolk_58 ⟨Nat.le_of_ble_eq_true rfl, Nat.le_of_ble_eq_true rfl⟩) hS (fun q _ h => hFc q h) hFc (fun r_30 u t9 H1 locs ht hvm hw hB hz1 hk1 hS => ?_)
              obtain ⟨p1_31, rfl⟩ : ∃ z, z = u := ⟨_, rfl⟩
              try dsimp only at hw hB
              have hwr_30 := hw
              obtain ⟨hP1, hD1⟩ := hB
              rw [ht] at hP1
              obtain ⟨hP, hD⟩ := va_join (wr := [(h1, .inr (0, [.int (nI (0 + 1)), .int 16510910, .int 0, .ref k, .ref q])), (k, .inl (Z.2 0, 5, .inl f1_15)), (q, .inl (Z.2 0, 5, .inl g1_16))]) (w1 := [(h0, .inr (5, [.int (nI n), .int (nI p1_31), .ref tk])), (tk, .inl (Z.2 1, 80, .inl f))]) hP hD [3, 4] [0, 1, 2] rfl rfl (by decide) (by decide) hk1 hFc hP1 hD1
              clear hPc hDc hP1 hD1 hk1 hz1 hFc ht hvm
              generalize H1 = H at hP hS ⊢
              have hP : va_P Z.1 vwCl [(h1, .inr (0, [.int (nI (0 + 1)), .int 16510910, .int 0, .ref k, .ref q])), (k, .inl (Z.2 0, 5, .inl f1_15)), (q, .inl (Z.2 0, 5, .inl g1_16)), (h0, .inr (5, [.int (nI n), .int (nI p1_31), .ref tk])), (tk, .inl (Z.2 1, 80, .inl f))] H := hP
              have hD : va_D A [(h1, .inr (0, [.int (nI (0 + 1)), .int 16510910, .int 0, .ref k, .ref q])), (k, .inl (Z.2 0, 5, .inl f1_15)), (q, .inl (Z.2 0, 5, .inl g1_16)), (h0, .inr (5, [.int (nI n), .int (nI p1_31), .ref tk])), (tk, .inl (Z.2 1, 80, .inl f))] := hD
              refine lv_istore (lv' := [(5, .int r_30), (4, .int (nI p1_29)), (3, .int (if (if r_23 < 0 then (0 : Int32) else (if 255 < r_23 then (0 : Int32) else (1 : Int32))) = 0 then (-1 : Int32) else (if (102 : Int32) = r_23.toInt8.toInt32 then (0 : Int32) else (if (99 : Int32) = r_23.toInt8.toInt32 then (1 : Int32) else (if (116 : Int32) = r_23.toInt8.toInt32 then (2 : Int32) else (if (119 : Int32) = r_23.toInt8.toInt32 then (3 : Int32) else (-1 : Int32))))))), (2, .int 3), (6, .int r_17), (0, .ref h0), (1, .ref h1)]) hx hb dX5_readFolk_61 hl (by decide) rfl (fun ls hl => ?_)
              refine lv_iload hx hb dX5_readFolk_63 (lv_at hl 0 rfl) ?_
              refine lv_if_lt (tgt := 76) hx hb dX5_readFolk_65 (by decide) (fun c_32 => ?_) (fun c_32 => ?_)
              · refine lv_iload hx hb dX5_readFolk_76 (lv_at hl 1 rfl) ?_
                have hPc := hP.sub (ws' := []) [] rfl
                have hDc := hD.sub (ws' := []) [] (by decide) rfl
                have hFc := va_free (wc := []) hD hS hA [] rfl
                refine va_calli (va_runS (As := [.int (nI p1_29)]) (rest := []) ⟨hx, hb, hml, hown, hts⟩ (c_X5_fault l Z H.size (nI p1_29)) (va_cwS 1 hts gX5_readFolk_X5_fault rfl rfl rfl (by decide +kernel) ⟨Nat.le_of_ble_eq_true rfl, Nat.le_of_ble_eq_true rfl⟩) ⟨fun a U g mk q => by obtain ⟨q0, q1, qP, qK, qD⟩ := q; exact ⟨q0, q1, qP, va_K.moved (u := U) (U := U.calling g mk a) (Vm.Alike.refl U.vm) qK, qD⟩, fun U hU hW => ⟨rfl, by rw [hU], by rw [hU]; exact hPc, va_K.moved hW.alike hK, hDc.weaken (fun _ _ _ _ => trivial)⟩⟩ rfl rfl hl.1 rfl (lv_room (Nat.le_of_ble_eq_true rfl)) dX5_readFolk_78 ⟨Nat.le_of_ble_eq_true rfl, Nat.le_of_ble_eq_true rfl⟩) hS (fun q _ h => hFc q h) hFc (fun r_33 u t9 H1 locs ht hvm hw hB hz1 hk1 hS => ?_)
                subst hw
                have hP1 : va_P Z.1 vwCl [] H1 := fun k q h => by simp at h
                have hD1 : va_D (va_A [] H.size) [] := ⟨fun i j p q h => by simp at h, fun k q h => by simp at h⟩
                obtain ⟨hP, hD⟩ := va_join (wr := [(h1, .inr (0, [.int (nI (0 + 1)), .int 16510910, .int 0, .ref k, .ref q])), (k, .inl (Z.2 0, 5, .inl f1_15)), (q, .inl (Z.2 0, 5, .inl g1_16)), (h0, .inr (5, [.int (nI n), .int (nI p1_31), .ref tk])), (tk, .inl (Z.2 1, 80, .inl f))]) (w1 := []) hP hD [] [0, 1, 2, 3, 4] rfl rfl (by decide) (by decide) hk1 hFc hP1 hD1
                clear hPc hDc hP1 hD1 hk1 hz1 hFc ht hvm
                generalize H1 = H at hP hS ⊢
                have hP : va_P Z.1 vwCl [(h1, .inr (0, [.int (nI (0 + 1)), .int 16510910, .int 0, .ref k, .ref q])), (k, .inl (Z.2 0, 5, .inl f1_15)), (q, .inl (Z.2 0, 5, .inl g1_16)), (h0, .inr (5, [.int (nI n), .int (nI p1_31), .ref tk])), (tk, .inl (Z.2 1, 80, .inl f))] H := hP
                have hD : va_D A [(h1, .inr (0, [.int (nI (0 + 1)), .int 16510910, .int 0, .ref k, .ref q])), (k, .inl (Z.2 0, 5, .inl f1_15)), (q, .inl (Z.2 0, 5, .inl g1_16)), (h0, .inr (5, [.int (nI n), .int (nI p1_31), .ref tk])), (tk, .inl (Z.2 1, 80, .inl f))] := hD
                have hP9 := hP.sub (ws' := [(h0, .inr (5, [.int (nI n), .int (nI p1_31), .ref tk])), (tk, .inl (Z.2 1, 80, .inl f)), (h1, .inr (0, [.int (nI (0 + 1)), .int 16510910, .int 0, .ref k, .ref q])), (k, .inl (Z.2 0, 5, .inl f1_15)), (q, .inl (Z.2 0, 5, .inl g1_16))]) [3, 4, 0, 1, 2] rfl
                have hD9 := hD.sub (ws' := [(h0, .inr (5, [.int (nI n), .int (nI p1_31), .ref tk])), (tk, .inl (Z.2 1, 80, .inl f)), (h1, .inr (0, [.int (nI (0 + 1)), .int 16510910, .int 0, .ref k, .ref q])), (k, .inl (Z.2 0, 5, .inl f1_15)), (q, .inl (Z.2 0, 5, .inl g1_16))]) [3, 4, 0, 1, 2] (by decide) rfl
                exact W.iret (v := ((-20) - (nI p1_29))) hx hb hr (fun t9 ht hW => ⟨⟨(-20) - (nI p1_29), (p1_31, (0 + 1), f1_15, g1_16), rfl, ⟨by omega, by omega⟩, by rw [ht]; exact hP9, hD9⟩, hS.F ht⟩) hS.2.2 dX5_readFolk_81
              · refine lv_iload hx hb dX5_readFolk_68 (lv_at hl 0 rfl) ?_
                refine lv_sipush (v := 9999) hx hb dX5_readFolk_70 (by decide) ?_
                refine lv_icmp_le (tgt := 82) hx hb dX5_readFolk_73 (by decide) (fun c_34 => ?_) (fun c_34 => ?_)
                · refine lv_aload_n hx hb dX5_readFolk_82 rfl (lv_at hl 6 rfl) ?_
                  refine lv_iload_n hx hb dX5_readFolk_83 rfl (lv_at hl 2 rfl) ?_
                  refine lv_iload hx hb dX5_readFolk_84 (lv_at hl 0 rfl) ?_
                  have hPc := hP.sub (ws' := [(h1, .inr (0, [.int (nI (0 + 1)), .int 16510910, .int 0, .ref k, .ref q])), (k, .inl (Z.2 0, 5, .inl f1_15)), (q, .inl (Z.2 0, 5, .inl g1_16))]) [0, 1, 2] rfl
                  have hDc := hD.sub (ws' := [(h1, .inr (0, [.int (nI (0 + 1)), .int 16510910, .int 0, .ref k, .ref q])), (k, .inl (Z.2 0, 5, .inl f1_15)), (q, .inl (Z.2 0, 5, .inl g1_16))]) [0, 1, 2] (by decide) rfl
                  have hFc := va_free (wc := [(h1, .inr (0, [.int (nI (0 + 1)), .int 16510910, .int 0, .ref k, .ref q])), (k, .inl (Z.2 0, 5, .inl f1_15)), (q, .inl (Z.2 0, 5, .inl g1_16))]) hD hS hA [0, 1, 2] rfl
                  refine va_callv (va_runV (As := [.int (if (if r_23 < 0 then (0 : Int32) else (if 255 < r_23 then (0 : Int32) else (1 : Int32))) = 0 then (-1 : Int32) else (if (102 : Int32) = r_23.toInt8.toInt32 then (0 : Int32) else (if (99 : Int32) = r_23.toInt8.toInt32 then (1 : Int32) else (if (116 : Int32) = r_23.toInt8.toInt32 then (2 : Int32) else (if (119 : Int32) = r_23.toInt8.toInt32 then (3 : Int32) else (-1 : Int32)))))), .int r_30]) (rest := []) ⟨hx, hb, hml, hown, hts⟩ (c_X0_add l Z H.size h1 (0 + 1) 16510910 0 k q f1_15 g1_16 (if (if r_23 < 0 then (0 : Int32) else (if 255 < r_23 then (0 : Int32) else (1 : Int32))) = 0 then (-1 : Int32) else (if (102 : Int32) = r_23.toInt8.toInt32 then (0 : Int32) else (if (99 : Int32) = r_23.toInt8.toInt32 then (1 : Int32) else (if (116 : Int32) = r_23.toInt8.toInt32 then (2 : Int32) else (if (119 : Int32) = r_23.toInt8.toInt32 then (3 : Int32) else (-1 : Int32)))))) r_30 (by omega)) (cwV 2 hts gX5_readFolk_X0_add rfl rfl rfl (by decide +kernel) ⟨Nat.le_of_ble_eq_true rfl, Nat.le_of_ble_eq_true rfl⟩) ⟨fun a U g mk q => by obtain ⟨q0, q1, qP, qK, qD⟩ := q; exact ⟨q0, q1, qP, va_K.moved (u := U) (U := U.calling g mk a) (Vm.Alike.refl U.vm) qK, qD⟩, va_recv hK hPc (ci := 0) (q0 := 0) rfl rfl, fun U hU hW => ⟨rfl, by rw [hU], by rw [hU]; exact hPc, va_K.moved hW.alike hK, hDc.weaken (fun _ _ _ _ => trivial)⟩⟩ rfl rfl hl.1 rfl (lv_room (Nat.le_of_ble_eq_true rfl)) dX5_readFolk_86 ⟨Nat.le_of_ble_eq_true rfl, Nat.le_of_ble_eq_true rfl⟩) hS (fun q _ h => hFc q h) hFc (fun u t9 H1 locs ht hvm hw hB hz1 hk1 hS => ?_)
                  obtain ⟨f1_36, g1_37⟩ := u
                  try dsimp only at hw hB
                  obtain ⟨hP1, hD1⟩ := hB
                  rw [ht] at hP1
                  obtain ⟨hP, hD⟩ := va_join (wr := [(h0, .inr (5, [.int (nI n), .int (nI p1_31), .ref tk])), (tk, .inl (Z.2 1, 80, .inl f))]) (w1 := [(h1, .inr (0, [.int (nI ((0 + 1) + 1)), .int 16510910, .int 0, .ref k, .ref q])), (k, .inl (Z.2 0, 5, .inl f1_36)), (q, .inl (Z.2 0, 5, .inl g1_37))]) hP hD [0, 1, 2] [3, 4] rfl rfl (by decide) (by decide) hk1 hFc hP1 hD1
                  clear hPc hDc hP1 hD1 hk1 hz1 hFc ht hvm
                  generalize H1 = H at hP hS ⊢
                  have hP : va_P Z.1 vwCl [(h0, .inr (5, [.int (nI n), .int (nI p1_31), .ref tk])), (tk, .inl (Z.2 1, 80, .inl f)), (h1, .inr (0, [.int (nI ((0 + 1) + 1)), .int 16510910, .int 0, .ref k, .ref q])), (k, .inl (Z.2 0, 5, .inl f1_36)), (q, .inl (Z.2 0, 5, .inl g1_37))] H := hP
                  have hD : va_D A [(h0, .inr (5, [.int (nI n), .int (nI p1_31), .ref tk])), (tk, .inl (Z.2 1, 80, .inl f)), (h1, .inr (0, [.int (nI ((0 + 1) + 1)), .int 16510910, .int 0, .ref k, .ref q])), (k, .inl (Z.2 0, 5, .inl f1_36)), (q, .inl (Z.2 0, 5, .inl g1_37))] := hD
                  refine lv_aload_n hx hb dX5_readFolk_89 rfl (lv_at hl 5 rfl) ?_
                  have hPc := hP.sub (ws' := [(h0, .inr (5, [.int (nI n), .int (nI p1_31), .ref tk])), (tk, .inl (Z.2 1, 80, .inl f))]) [0, 1] rfl
                  have hDc := hD.sub (ws' := [(h0, .inr (5, [.int (nI n), .int (nI p1_31), .ref tk])), (tk, .inl (Z.2 1, 80, .inl f))]) [0, 1] (by decide) rfl
                  have hFc := va_free (wc := [(h0, .inr (5, [.int (nI n), .int (nI p1_31), .ref tk])), (tk, .inl (Z.2 1, 80, .inl f))]) hD hS hA [0, 1] rfl
                  refine va_calli (va_runV (As := []) (rest := []) ⟨hx, hb, hml, hown, hts⟩ (c_X5_look l Z H.size h0 tk n p1_31 f (hn) (by omega) (hc)) (cwV 0 hts gX5_readFolk_X5_look rfl rfl rfl (by decide +kernel) ⟨Nat.le_of_ble_eq_true rfl, Nat.le_of_ble_eq_true rfl⟩) ⟨fun a U g mk q => by obtain ⟨q0, q1, qP, qK, qD⟩ := q; exact ⟨q0, q1, qP, va_K.moved (u := U) (U := U.calling g mk a) (Vm.Alike.refl U.vm) qK, qD⟩, va_recv hK hPc (ci := 5) (q0 := 0) rfl rfl, fun U hU hW => ⟨rfl, by rw [hU], by rw [hU]; exact hPc, va_K.moved hW.alike hK, hDc.weaken (fun _ _ _ _ => trivial)⟩⟩ rfl rfl hl.1 rfl (lv_room (Nat.le_of_ble_eq_true rfl)) dX5_readFolk_90 ⟨Nat.le_of_ble_eq_true rfl, Nat.le_of_ble_eq_true rfl⟩) hS (fun q _ h => hFc q h) hFc (fun r_38 u t9 H1 locs ht hvm hw hB hz1 hk1 hS => ?_)
                  obtain ⟨p1_39, rfl⟩ : ∃ z, z = u := ⟨_, rfl⟩
                  try dsimp only at hw hB
                  have hwr_38 := hw
                  obtain ⟨hP1, hD1⟩ := hB
                  rw [ht] at hP1
                  obtain ⟨hP, hD⟩ := va_join (wr := [(h1, .inr (0, [.int (nI ((0 + 1) + 1)), .int 16510910, .int 0, .ref k, .ref q])), (k, .inl (Z.2 0, 5, .inl f1_36)), (q, .inl (Z.2 0, 5, .inl g1_37))]) (w1 := [(h0, .inr (5, [.int (nI n), .int (nI p1_39), .ref tk])), (tk, .inl (Z.2 1, 80, .inl f))]) hP hD [0, 1] [2, 3, 4] rfl rfl (by decide) (by decide) hk1 hFc hP1 hD1
                  clear hPc hDc hP1 hD1 hk1 hz1 hFc ht hvm
                  generalize H1 = H at hP hS ⊢
                  have hP : va_P Z.1 vwCl [(h1, .inr (0, [.int (nI ((0 + 1) + 1)), .int 16510910, .int 0, .ref k, .ref q])), (k, .inl (Z.2 0, 5, .inl f1_36)), (q, .inl (Z.2 0, 5, .inl g1_37)), (h0, .inr (5, [.int (nI n), .int (nI p1_39), .ref tk])), (tk, .inl (Z.2 1, 80, .inl f))] H := hP
                  have hD : va_D A [(h1, .inr (0, [.int (nI ((0 + 1) + 1)), .int 16510910, .int 0, .ref k, .ref q])), (k, .inl (Z.2 0, 5, .inl f1_36)), (q, .inl (Z.2 0, 5, .inl g1_37)), (h0, .inr (5, [.int (nI n), .int (nI p1_39), .ref tk])), (tk, .inl (Z.2 1, 80, .inl f))] := hD
                  refine lv_istore (lv' := [(6, .int r_38), (5, .int r_30), (4, .int (nI p1_29)), (3, .int (if (if r_23 < 0 then (0 : Int32) else (if 255 < r_23 then (0 : Int32) else (1 : Int32))) = 0 then (-1 : Int32) else (if (102 : Int32) = r_23.toInt8.toInt32 then (0 : Int32) else (if (99 : Int32) = r_23.toInt8.toInt32 then (1 : Int32) else (if (116 : Int32) = r_23.toInt8.toInt32 then (2 : Int32) else (if (119 : Int32) = r_23.toInt8.toInt32 then (3 : Int32) else (-1 : Int32))))))), (2, .int 3), (0, .ref h0), (1, .ref h1)]) hx hb dX5_readFolk_93 hl (by decide) rfl (fun ls hl => ?_)
                  refine lv_iload hx hb dX5_readFolk_95 (lv_at hl 0 rfl) ?_
                  refine lv_if_ne (tgt := 105) hx hb dX5_readFolk_97 (by decide) (fun c_40 => ?_) (fun c_40 => ?_)
                  · refine lv_iload hx hb dX5_readFolk_105 (lv_at hl 0 rfl) ?_
                    refine lv_bipush (v := 44) hx hb dX5_readFolk_107 (by decide) ?_
                    refine lv_icmp_ne (tgt := 116) hx hb dX5_readFolk_109 (by decide) (fun c_41 => ?_) (fun c_41 => ?_)
                    · refine lv_aload_n hx hb dX5_readFolk_116 rfl (lv_at hl 5 rfl) ?_
                      refine va_get (D := Z.1) (ci := 5) (v := .int (nI p1_39)) (C := RX5) (T := TX5) (N := 3) hx hb hts hin5 hown hK hP 3 rfl rfl 1 (by decide) (hts (.fieldLink RX5 15 "HalfAsked$Tape" "at" "I") (by decide +kernel)) (fun _ h9 => h9) rfl dX5_readFolk_117 ?_
                      have hPc := hP.sub (ws' := []) [] rfl
                      have hDc := hD.sub (ws' := []) [] (by decide) rfl
                      have hFc := va_free (wc := []) hD hS hA [] rfl
                      refine va_calli (va_runS (As := [.int (nI p1_39)]) (rest := []) ⟨hx, hb, hml, hown, hts⟩ (c_X5_fault l Z H.size (nI p1_39)) (va_cwS 1 hts gX5_readFolk_X5_fault rfl rfl rfl (by decide +kernel) ⟨Nat.le_of_ble_eq_true rfl, Nat.le_of_ble_eq_true rfl⟩) ⟨fun a U g mk q => by obtain ⟨q0, q1, qP, qK, qD⟩ := q; exact ⟨q0, q1, qP, va_K.moved (u := U) (U := U.calling g mk a) (Vm.Alike.refl U.vm) qK, qD⟩, fun U hU hW => ⟨rfl, by rw [hU], by rw [hU]; exact hPc, va_K.moved hW.alike hK, hDc.weaken (fun _ _ _ _ => trivial)⟩⟩ rfl rfl hl.1 rfl (lv_room (Nat.le_of_ble_eq_true rfl)) dX5_readFolk_120 ⟨Nat.le_of_ble_eq_true rfl, Nat.le_of_ble_eq_true rfl⟩) hS (fun q _ h => hFc q h) hFc (fun r_42 u t9 H1 locs ht hvm hw hB hz1 hk1 hS => ?_)
                      subst hw
                      have hP1 : va_P Z.1 vwCl [] H1 := fun k q h => by simp at h
                      have hD1 : va_D (va_A [] H.size) [] := ⟨fun i j p q h => by simp at h, fun k q h => by simp at h⟩
                      obtain ⟨hP, hD⟩ := va_join (wr := [(h1, .inr (0, [.int (nI ((0 + 1) + 1)), .int 16510910, .int 0, .ref k, .ref q])), (k, .inl (Z.2 0, 5, .inl f1_36)), (q, .inl (Z.2 0, 5, .inl g1_37)), (h0, .inr (5, [.int (nI n), .int (nI p1_39), .ref tk])), (tk, .inl (Z.2 1, 80, .inl f))]) (w1 := []) hP hD [] [0, 1, 2, 3, 4] rfl rfl (by decide) (by decide) hk1 hFc hP1 hD1
                      clear hPc hDc hP1 hD1 hk1 hz1 hFc ht hvm
                      generalize H1 = H at hP hS ⊢
                      have hP : va_P Z.1 vwCl [(h1, .inr (0, [.int (nI ((0 + 1) + 1)), .int 16510910, .int 0, .ref k, .ref q])), (k, .inl (Z.2 0, 5, .inl f1_36)), (q, .inl (Z.2 0, 5, .inl g1_37)), (h0, .inr (5, [.int (nI n), .int (nI p1_39), .ref tk])), (tk, .inl (Z.2 1, 80, .inl f))] H := hP
                      have hD : va_D A [(h1, .inr (0, [.int (nI ((0 + 1) + 1)), .int 16510910, .int 0, .ref k, .ref q])), (k, .inl (Z.2 0, 5, .inl f1_36)), (q, .inl (Z.2 0, 5, .inl g1_37)), (h0, .inr (5, [.int (nI n), .int (nI p1_39), .ref tk])), (tk, .inl (Z.2 1, 80, .inl f))] := hD
                      have hP9 := hP.sub (ws' := [(h0, .inr (5, [.int (nI n), .int (nI p1_39), .ref tk])), (tk, .inl (Z.2 1, 80, .inl f)), (h1, .inr (0, [.int (nI ((0 + 1) + 1)), .int 16510910, .int 0, .ref k, .ref q])), (k, .inl (Z.2 0, 5, .inl f1_36)), (q, .inl (Z.2 0, 5, .inl g1_37))]) [3, 4, 0, 1, 2] rfl
                      have hD9 := hD.sub (ws' := [(h0, .inr (5, [.int (nI n), .int (nI p1_39), .ref tk])), (tk, .inl (Z.2 1, 80, .inl f)), (h1, .inr (0, [.int (nI ((0 + 1) + 1)), .int 16510910, .int 0, .ref k, .ref q])), (k, .inl (Z.2 0, 5, .inl f1_36)), (q, .inl (Z.2 0, 5, .inl g1_37))]) [3, 4, 0, 1, 2] (by decide) rfl
                      exact W.iret (v := ((-20) - (nI p1_39))) hx hb hr (fun t9 ht hW => ⟨⟨(-20) - (nI p1_39), (p1_39, ((0 + 1) + 1), f1_36, g1_37), rfl, ⟨by omega, by omega⟩, by rw [ht]; exact hP9, hD9⟩, hS.F ht⟩) hS.2.2 dX5_readFolk_123
                    · refine lv_iload_n hx hb dX5_readFolk_112 rfl (lv_at hl 4 rfl) ?_
                      refine lv_if_ne (tgt := 124) hx hb dX5_readFolk_113 (by decide) (fun _ => ?_) (fun c9 => absurd c9 (by decide))
                      have hq42 := hwr_38.1 (z_eq0 c_41 (by decide))
                      refine lv_aload_n hx hb dX5_readFolk_124 rfl (lv_at hl 5 rfl) ?_
                      refine lv_dup hx hb dX5_readFolk_125 rfl ?_
                      refine va_get (D := Z.1) (ci := 5) (v := .int (nI p1_39)) (C := RX5) (T := TX5) (N := 3) hx hb hts hin5 hown hK hP 3 rfl rfl 1 (by decide) (hts (.fieldLink RX5 15 "HalfAsked$Tape" "at" "I") (by decide +kernel)) (fun _ h9 => h9) rfl dX5_readFolk_126 ?_
                      refine lv_iconst (v := 1) hx hb dX5_readFolk_129 (by decide) ?_
                      refine lv_iadd hx hb dX5_readFolk_130 ?_
                      refine lv_topi (fun f_43 ef_43 => ?_)
                      obtain rfl : f_43 = nI (p1_39 + 1) := ef_43.trans (nI_1 _)
                      refine va_put (D := Z.1) (ci := 5) (v := .int (nI (p1_39 + 1))) (ty := .int) (C := RX5) (T := TX5) (N := 3) hx hb hts hin5 tyX5 tyX5_ok nmX5 hown hK hP hD hS 3 rfl rfl 1 (by decide) (hts (.fieldLink RX5 15 "HalfAsked$Tape" "at" "I") (by decide +kernel)) (fun _ h9 => h9) rfl (by decide +kernel) rfl rfl (Nat.le_of_ble_eq_true rfl) dX5_readFolk_131 (fun H locs hP hD hS => ?_)
                      have hP : va_P Z.1 vwCl [(h1, .inr (0, [.int (nI ((0 + 1) + 1)), .int 16510910, .int 0, .ref k, .ref q])), (k, .inl (Z.2 0, 5, .inl f1_36)), (q, .inl (Z.2 0, 5, .inl g1_37)), (h0, .inr (5, [.int (nI n), .int (nI (p1_39 + 1)), .ref tk])), (tk, .inl (Z.2 1, 80, .inl f))] H := hP
                      have hD : va_D A [(h1, .inr (0, [.int (nI ((0 + 1) + 1)), .int 16510910, .int 0, .ref k, .ref q])), (k, .inl (Z.2 0, 5, .inl f1_36)), (q, .inl (Z.2 0, 5, .inl g1_37)), (h0, .inr (5, [.int (nI n), .int (nI (p1_39 + 1)), .ref tk])), (tk, .inl (Z.2 1, 80, .inl f))] := hD
                      refine lv_iinc (v := 2) (lv' := [(2, .int 2), (6, .int r_38), (5, .int r_30), (4, .int (nI p1_29)), (3, .int (if (if r_23 < 0 then (0 : Int32) else (if 255 < r_23 then (0 : Int32) else (1 : Int32))) = 0 then (-1 : Int32) else (if (102 : Int32) = r_23.toInt8.toInt32 then (0 : Int32) else (if (99 : Int32) = r_23.toInt8.toInt32 then (1 : Int32) else (if (116 : Int32) = r_23.toInt8.toInt32 then (2 : Int32) else (if (119 : Int32) = r_23.toInt8.toInt32 then (3 : Int32) else (-1 : Int32))))))), (0, .ref h0), (1, .ref h1)]) hx hb dX5_readFolk_134 hl (k := 4) rfl (by decide) (by decide) rfl (fun ls hl => ?_)
                      refine lv_goto (tgt := 11) hx hb dX5_readFolk_137 (by decide) ?_
                      refine lv_iload_n hx hb dX5_readFolk_11 rfl (lv_at hl 0 rfl) ?_
                      refine lv_if_lt (tgt := 140) hx hb dX5_readFolk_12 (by decide) (fun c9 => absurd c9 (by decide)) (fun _ => ?_)
                      refine va_ldcS hx hb hown hG.2.2.2.2.2 dX5_readFolk_15 ?_
                      refine lv_aload_n hx hb dX5_readFolk_17 rfl (lv_at hl 5 rfl) ?_
                      have hPc := hP.sub (ws' := [(h0, .inr (5, [.int (nI n), .int (nI (p1_39 + 1)), .ref tk])), (tk, .inl (Z.2 1, 80, .inl f))]) [3, 4] rfl
                      have hDc := hD.sub (ws' := [(h0, .inr (5, [.int (nI n), .int (nI (p1_39 + 1)), .ref tk])), (tk, .inl (Z.2 1, 80, .inl f))]) [3, 4] (by decide) rfl
                      have hFc := va_free (wc := [(h0, .inr (5, [.int (nI n), .int (nI (p1_39 + 1)), .ref tk])), (tk, .inl (Z.2 1, 80, .inl f))]) hD hS hA [3, 4] rfl
                      refine va_calli (va_runV (As := []) (rest := [.ref kA]) ⟨hx, hb, hml, hown, hts⟩ (c_X5_look l Z H.size h0 tk n (p1_39 + 1) f (hn) (by omega) (hc)) (cwV 0 hts gX5_readFolk_X5_look rfl rfl rfl (by decide +kernel) ⟨Nat.le_of_ble_eq_true rfl, Nat.le_of_ble_eq_true rfl⟩) ⟨fun a U g mk q => by obtain ⟨q0, q1, qP, qK, qD⟩ := q; exact ⟨q0, q1, qP, va_K.moved (u := U) (U := U.calling g mk a) (Vm.Alike.refl U.vm) qK, qD⟩, va_recv hK hPc (ci := 5) (q0 := 0) rfl rfl, fun U hU hW => ⟨rfl, by rw [hU], by rw [hU]; exact hPc, va_K.moved hW.alike hK, hDc.weaken (fun _ _ _ _ => trivial)⟩⟩ rfl rfl hl.1 rfl (lv_room (Nat.le_of_ble_eq_true rfl)) dX5_readFolk_18 ⟨Nat.le_of_ble_eq_true rfl, Nat.le_of_ble_eq_true rfl⟩) hS (fun q _ h => hFc q h) hFc (fun r_44 u t9 H1 locs ht hvm hw hB hz1 hk1 hS => ?_)
                      obtain ⟨p1_45, rfl⟩ : ∃ z, z = u := ⟨_, rfl⟩
                      try dsimp only at hw hB
                      have hwr_44 := hw
                      obtain ⟨hP1, hD1⟩ := hB
                      rw [ht] at hP1
                      obtain ⟨hP, hD⟩ := va_join (wr := [(h1, .inr (0, [.int (nI ((0 + 1) + 1)), .int 16510910, .int 0, .ref k, .ref q])), (k, .inl (Z.2 0, 5, .inl f1_36)), (q, .inl (Z.2 0, 5, .inl g1_37))]) (w1 := [(h0, .inr (5, [.int (nI n), .int (nI p1_45), .ref tk])), (tk, .inl (Z.2 1, 80, .inl f))]) hP hD [3, 4] [0, 1, 2] rfl rfl (by decide) (by decide) hk1 hFc hP1 hD1
                      clear hPc hDc hP1 hD1 hk1 hz1 hFc ht hvm
                      generalize H1 = H at hP hS ⊢
                      have hP : va_P Z.1 vwCl [(h1, .inr (0, [.int (nI ((0 + 1) + 1)), .int 16510910, .int 0, .ref k, .ref q])), (k, .inl (Z.2 0, 5, .inl f1_36)), (q, .inl (Z.2 0, 5, .inl g1_37)), (h0, .inr (5, [.int (nI n), .int (nI p1_45), .ref tk])), (tk, .inl (Z.2 1, 80, .inl f))] H := hP
                      have hD : va_D A [(h1, .inr (0, [.int (nI ((0 + 1) + 1)), .int 16510910, .int 0, .ref k, .ref q])), (k, .inl (Z.2 0, 5, .inl f1_36)), (q, .inl (Z.2 0, 5, .inl g1_37)), (h0, .inr (5, [.int (nI n), .int (nI p1_45), .ref tk])), (tk, .inl (Z.2 1, 80, .inl f))] := hD
                      have hPc := hP.sub (ws' := []) [] rfl
                      have hDc := hD.sub (ws' := []) [] (by decide) rfl
                      have hFc := va_free (wc := []) hD hS hA [] rfl
                      refine va_calli (va_runV (As := [.int r_44]) (rest := []) ⟨hx, hb, hml, hown, hts⟩ (c_J0_indexOf_0f7a4 l Z H.size r_44 kA vA) (cwV 1 hts gX5_readFolk_J0_indexOf_0f7a4 rfl rfl rfl (by decide +kernel) ⟨Nat.le_of_ble_eq_true rfl, Nat.le_of_ble_eq_true rfl⟩) ⟨fun a U g mk q => by obtain ⟨q0, q1, qP, qK, qD, qG⟩ := q; exact ⟨q0, q1, qP, va_K.moved (u := U) (U := U.calling g mk a) (Vm.Alike.refl U.vm) qK, qD, z_Gc (u := U) (U := U.calling g mk a) rfl rfl qG⟩, z_recv hG hS, fun U hU hW => ⟨rfl, by rw [hU], by rw [hU]; exact hPc, va_K.moved hW.alike hK, hDc.weaken (fun _ _ _ _ => trivial), z_G hW hG hS hU hFc⟩⟩ rfl rfl hl.1 rfl (lv_room (Nat.le_of_ble_eq_true rfl)) dX5_readFolk_21 ⟨Nat.le_of_ble_eq_true rfl, Nat.le_of_ble_eq_true rfl⟩) hS (fun q _ h => hFc q h) hFc (fun r_46 u t9 H1 locs ht hvm hw hB hz1 hk1 hS => ?_)
                      subst hw
                      have hP1 : va_P Z.1 vwCl [] H1 := fun k q h => by simp at h
                      have hD1 : va_D (va_A [] H.size) [] := ⟨fun i j p q h => by simp at h, fun k q h => by simp at h⟩
                      obtain ⟨hP, hD⟩ := va_join (wr := [(h1, .inr (0, [.int (nI ((0 + 1) + 1)), .int 16510910, .int 0, .ref k, .ref q])), (k, .inl (Z.2 0, 5, .inl f1_36)), (q, .inl (Z.2 0, 5, .inl g1_37)), (h0, .inr (5, [.int (nI n), .int (nI p1_45), .ref tk])), (tk, .inl (Z.2 1, 80, .inl f))]) (w1 := []) hP hD [] [0, 1, 2, 3, 4] rfl rfl (by decide) (by decide) hk1 hFc hP1 hD1
                      clear hPc hDc hP1 hD1 hk1 hz1 hFc ht hvm
                      generalize H1 = H at hP hS ⊢
                      have hP : va_P Z.1 vwCl [(h1, .inr (0, [.int (nI ((0 + 1) + 1)), .int 16510910, .int 0, .ref k, .ref q])), (k, .inl (Z.2 0, 5, .inl f1_36)), (q, .inl (Z.2 0, 5, .inl g1_37)), (h0, .inr (5, [.int (nI n), .int (nI p1_45), .ref tk])), (tk, .inl (Z.2 1, 80, .inl f))] H := hP
                      have hD : va_D A [(h1, .inr (0, [.int (nI ((0 + 1) + 1)), .int 16510910, .int 0, .ref k, .ref q])), (k, .inl (Z.2 0, 5, .inl f1_36)), (q, .inl (Z.2 0, 5, .inl g1_37)), (h0, .inr (5, [.int (nI n), .int (nI p1_45), .ref tk])), (tk, .inl (Z.2 1, 80, .inl f))] := hD
                      refine lv_istore_n (lv' := [(3, .int (if (if r_44 < 0 then (0 : Int32) else (if 255 < r_44 then (0 : Int32) else (1 : Int32))) = 0 then (-1 : Int32) else (if (102 : Int32) = r_44.toInt8.toInt32 then (0 : Int32) else (if (99 : Int32) = r_44.toInt8.toInt32 then (1 : Int32) else (if (116 : Int32) = r_44.toInt8.toInt32 then (2 : Int32) else (if (119 : Int32) = r_44.toInt8.toInt32 then (3 : Int32) else (-1 : Int32))))))), (2, .int 2), (6, .int r_38), (5, .int r_30), (4, .int (nI p1_29)), (0, .ref h0), (1, .ref h1)]) hx hb dX5_readFolk_24 rfl hl (by decide) rfl (fun ls hl => ?_)
                      refine lv_iload_n hx hb dX5_readFolk_25 rfl (lv_at hl 0 rfl) ?_
                      refine lv_if_ge (tgt := 37) hx hb dX5_readFolk_26 (by decide) (fun c_47 => ?_) (fun c_47 => ?_)
                      · have hq47 := hwr_44.1 (z_ix0 c_47)
                        refine lv_aload_n hx hb dX5_readFolk_37 rfl (lv_at hl 5 rfl) ?_
                        refine lv_dup hx hb dX5_readFolk_38 rfl ?_
                        refine va_get (D := Z.1) (ci := 5) (v := .int (nI p1_45)) (C := RX5) (T := TX5) (N := 3) hx hb hts hin5 hown hK hP 3 rfl rfl 1 (by decide) (hts (.fieldLink RX5 15 "HalfAsked$Tape" "at" "I") (by decide +kernel)) (fun _ h9 => h9) rfl dX5_readFolk_39 ?_
                        refine lv_iconst (v := 1) hx hb dX5_readFolk_42 (by decide) ?_
                        refine lv_iadd hx hb dX5_readFolk_43 ?_
                        refine lv_topi (fun f_48 ef_48 => ?_)
                        obtain rfl : f_48 = nI (p1_45 + 1) := ef_48.trans (nI_1 _)
                        refine va_put (D := Z.1) (ci := 5) (v := .int (nI (p1_45 + 1))) (ty := .int) (C := RX5) (T := TX5) (N := 3) hx hb hts hin5 tyX5 tyX5_ok nmX5 hown hK hP hD hS 3 rfl rfl 1 (by decide) (hts (.fieldLink RX5 15 "HalfAsked$Tape" "at" "I") (by decide +kernel)) (fun _ h9 => h9) rfl (by decide +kernel) rfl rfl (Nat.le_of_ble_eq_true rfl) dX5_readFolk_44 (fun H locs hP hD hS => ?_)
                        have hP : va_P Z.1 vwCl [(h1, .inr (0, [.int (nI ((0 + 1) + 1)), .int 16510910, .int 0, .ref k, .ref q])), (k, .inl (Z.2 0, 5, .inl f1_36)), (q, .inl (Z.2 0, 5, .inl g1_37)), (h0, .inr (5, [.int (nI n), .int (nI (p1_45 + 1)), .ref tk])), (tk, .inl (Z.2 1, 80, .inl f))] H := hP
                        have hD : va_D A [(h1, .inr (0, [.int (nI ((0 + 1) + 1)), .int 16510910, .int 0, .ref k, .ref q])), (k, .inl (Z.2 0, 5, .inl f1_36)), (q, .inl (Z.2 0, 5, .inl g1_37)), (h0, .inr (5, [.int (nI n), .int (nI (p1_45 + 1)), .ref tk])), (tk, .inl (Z.2 1, 80, .inl f))] := hD
                        refine lv_aload_n hx hb dX5_readFolk_47 rfl (lv_at hl 5 rfl) ?_
                        have hPc := hP.sub (ws' := [(h0, .inr (5, [.int (nI n), .int (nI (p1_45 + 1)), .ref tk])), (tk, .inl (Z.2 1, 80, .inl f))]) [3, 4] rfl
                        have hDc := hD.sub (ws' := [(h0, .inr (5, [.int (nI n), .int (nI (p1_45 + 1)), .ref tk])), (tk, .inl (Z.2 1, 80, .inl f))]) [3, 4] (by decide) rfl
                        have hFc := va_free (wc := [(h0, .inr (5, [.int (nI n), .int (nI (p1_45 + 1)), .ref tk])), (tk, .inl (Z.2 1, 80, .inl f))]) hD hS hA [3, 4] rfl
                        refine va_callv (va_runV (As := []) (rest := []) ⟨hx, hb, hml, hown, hts⟩ (c_X5_skipBlanks l Z H.size h0 tk n (p1_45 + 1) f (hn) (by omega) (hc)) (cwV 0 hts gX5_readFolk_X5_skipBlanks rfl rfl rfl (by decide +kernel) ⟨Nat.le_of_ble_eq_true rfl, Nat.le_of_ble_eq_true rfl⟩) ⟨fun a U g mk q => by obtain ⟨q0, q1, qP, qK, qD⟩ := q; exact ⟨q0, q1, qP, va_K.moved (u := U) (U := U.calling g mk a) (Vm.Alike.refl U.vm) qK, qD⟩, va_recv hK hPc (ci := 5) (q0 := 0) rfl rfl, fun U hU hW => ⟨rfl, by rw [hU], by rw [hU]; exact hPc, va_K.moved hW.alike hK, hDc.weaken (fun _ _ _ _ => trivial)⟩⟩ rfl rfl hl.1 rfl (lv_room (Nat.le_of_ble_eq_true rfl)) dX5_readFolk_48 ⟨Nat.le_of_ble_eq_true rfl, Nat.le_of_ble_eq_true rfl⟩) hS (fun q _ h => hFc q h) hFc (fun u t9 H1 locs ht hvm hw hB hz1 hk1 hS => ?_)
                        obtain ⟨p1_50, rfl⟩ : ∃ z, z = u := ⟨_, rfl⟩
                        try dsimp only at hw hB
                        have hwr_49 := hw
                        obtain ⟨hP1, hD1⟩ := hB
                        rw [ht] at hP1
                        obtain ⟨hP, hD⟩ := va_join (wr := [(h1, .inr (0, [.int (nI ((0 + 1) + 1)), .int 16510910, .int 0, .ref k, .ref q])), (k, .inl (Z.2 0, 5, .inl f1_36)), (q, .inl (Z.2 0, 5, .inl g1_37))]) (w1 := [(h0, .inr (5, [.int (nI n), .int (nI p1_50), .ref tk])), (tk, .inl (Z.2 1, 80, .inl f))]) hP hD [3, 4] [0, 1, 2] rfl rfl (by decide) (by decide) hk1 hFc hP1 hD1
                        clear hPc hDc hP1 hD1 hk1 hz1 hFc ht hvm
                        generalize H1 = H at hP hS ⊢
                        have hP : va_P Z.1 vwCl [(h1, .inr (0, [.int (nI ((0 + 1) + 1)), .int 16510910, .int 0, .ref k, .ref q])), (k, .inl (Z.2 0, 5, .inl f1_36)), (q, .inl (Z.2 0, 5, .inl g1_37)), (h0, .inr (5, [.int (nI n), .int (nI p1_50), .ref tk])), (tk, .inl (Z.2 1, 80, .inl f))] H := hP
                        have hD : va_D A [(h1, .inr (0, [.int (nI ((0 + 1) + 1)), .int 16510910, .int 0, .ref k, .ref q])), (k, .inl (Z.2 0, 5, .inl f1_36)), (q, .inl (Z.2 0, 5, .inl g1_37)), (h0, .inr (5, [.int (nI n), .int (nI p1_50), .ref tk])), (tk, .inl (Z.2 1, 80, .inl f))] := hD
                        refine lv_aload_n hx hb dX5_readFolk_51 rfl (lv_at hl 5 rfl) ?_
                        refine va_get (D := Z.1) (ci := 5) (v := .int (nI p1_50)) (C := RX5) (T := TX5) (N := 3) hx hb hts hin5 hown hK hP 3 rfl rfl 1 (by decide) (hts (.fieldLink RX5 15 "HalfAsked$Tape" "at" "I") (by decide +kernel)) (fun _ h9 => h9) rfl dX5_readFolk_52 ?_
                        refine lv_istore (lv' := [(4, .int (nI p1_50)), (3, .int (if (if r_44 < 0 then (0 : Int32) else (if 255 < r_44 then (0 : Int32) else (1 : Int32))) = 0 then (-1 : Int32) else (if (102 : Int32) = r_44.toInt8.toInt32 then (0 : Int32) else (if (99 : Int32) = r_44.toInt8.toInt32 then (1 : Int32) else (if (116 : Int32) = r_44.toInt8.toInt32 then (2 : Int32) else (if (119 : Int32) = r_44.toInt8.toInt32 then (3 : Int32) else (-1 : Int32))))))), (2, .int 2), (6, .int r_38), (5, .int r_30), (0, .ref h0), (1, .ref h1)]) hx hb dX5_readFolk_55 hl (by decide) rfl (fun ls hl => ?_)
                        refine lv_aload_n hx hb dX5_readFolk_57 rfl (lv_at hl 5 rfl) ?_
                        have hPc := hP.sub (ws' := [(h0, .inr (5, [.int (nI n), .int (nI p1_50), .ref tk])), (tk, .inl (Z.2 1, 80, .inl f))]) [3, 4] rfl
                        have hDc := hD.sub (ws' := [(h0, .inr (5, [.int (nI n), .int (nI p1_50), .ref tk])), (tk, .inl (Z.2 1, 80, .inl f))]) [3, 4] (by decide) rfl
                        have hFc := va_free (wc := [(h0, .inr (5, [.int (nI n), .int (nI p1_50), .ref tk])), (tk, .inl (Z.2 1, 80, .inl f))]) hD hS hA [3, 4] rfl
                        refine va_calli (va_runV (As := []) (rest := []) ⟨hx, hb, hml, hown, hts⟩ (c_X5_readNumber l Z H.size h0 tk n p1_50 f (hn) (by omega) (hc)) (cwV 0 hts gX5_readFolk_X5_readNumber rfl rfl rfl (by decide +kernel) ⟨Nat.le_of_ble_eq_true rfl, Nat.le_of_ble_eq_true rfl⟩) ⟨fun a U g mk q => by obtain ⟨q0, q1, qP, qK, qD⟩ := q; exact ⟨q0, q1, qP, va_K.moved (u := U) (U := U.calling g mk a) (Vm.Alike.refl U.vm) qK, qD⟩, va_recv hK hPc (ci := 5) (q0 := 0) rfl rfl, fun U hU hW => ⟨rfl, by rw [hU], by rw [hU]; exact hPc, va_K.moved hW.alike hK, hDc.weaken (fun _ _ _ _ => trivial)⟩⟩ rfl rfl hl.1 rfl (lv_room (Nat.le_of_ble_eq_true rfl)) dX5_readFolk_58 ⟨Nat.le_of_ble_eq_true rfl, Nat.le_of_ble_eq_true rfl⟩) hS (fun q _ h => hFc q h) hFc (fun r_51 u t9 H1 locs ht hvm hw hB hz1 hk1 hS => ?_)
                        obtain ⟨p1_52, rfl⟩ : ∃ z, z = u := ⟨_, rfl⟩
                        try dsimp only at hw hB
                        have hwr_51 := hw
                        obtain ⟨hP1, hD1⟩ := hB
                        rw [ht] at hP1
                        obtain ⟨hP, hD⟩ := va_join (wr := [(h1, .inr (0, [.int (nI ((0 + 1) + 1)), .int 16510910, .int 0, .ref k, .ref q])), (k, .inl (Z.2 0, 5, .inl f1_36)), (q, .inl (Z.2 0, 5, .inl g1_37))]) (w1 := [(h0, .inr (5, [.int (nI n), .int (nI p1_52), .ref tk])), (tk, .inl (Z.2 1, 80, .inl f))]) hP hD [3, 4] [0, 1, 2] rfl rfl (by decide) (by decide) hk1 hFc hP1 hD1
                        clear hPc hDc hP1 hD1 hk1 hz1 hFc ht hvm
                        generalize H1 = H at hP hS ⊢
                        have hP : va_P Z.1 vwCl [(h1, .inr (0, [.int (nI ((0 + 1) + 1)), .int 16510910, .int 0, .ref k, .ref q])), (k, .inl (Z.2 0, 5, .inl f1_36)), (q, .inl (Z.2 0, 5, .inl g1_37)), (h0, .inr (5, [.int (nI n), .int (nI p1_52), .ref tk])), (tk, .inl (Z.2 1, 80, .inl f))] H := hP
                        have hD : va_D A [(h1, .inr (0, [.int (nI ((0 + 1) + 1)), .int 16510910, .int 0, .ref k, .ref q])), (k, .inl (Z.2 0, 5, .inl f1_36)), (q, .inl (Z.2 0, 5, .inl g1_37)), (h0, .inr (5, [.int (nI n), .int (nI p1_52), .ref tk])), (tk, .inl (Z.2 1, 80, .inl f))] := hD
                        refine lv_istore (lv' := [(5, .int r_51), (4, .int (nI p1_50)), (3, .int (if (if r_44 < 0 then (0 : Int32) else (if 255 < r_44 then (0 : Int32) else (1 : Int32))) = 0 then (-1 : Int32) else (if (102 : Int32) = r_44.toInt8.toInt32 then (0 : Int32) else (if (99 : Int32) = r_44.toInt8.toInt32 then (1 : Int32) else (if (116 : Int32) = r_44.toInt8.toInt32 then (2 : Int32) else (if (119 : Int32) = r_44.toInt8.toInt32 then (3 : Int32) else (-1 : Int32))))))), (2, .int 2), (6, .int r_38), (0, .ref h0), (1, .ref h1)]) hx hb dX5_readFolk_61 hl (by decide) rfl (fun ls hl => ?_)
                        refine lv_iload hx hb dX5_readFolk_63 (lv_at hl 0 rfl) ?_
                        refine lv_if_lt (tgt := 76) hx hb dX5_readFolk_65 (by decide) (fun c_53 => ?_) (fun c_53 => ?_)
                        · refine lv_iload hx hb dX5_readFolk_76 (lv_at hl 1 rfl) ?_
                          have hPc := hP.sub (ws' := []) [] rfl
                          have hDc := hD.sub (ws' := []) [] (by decide) rfl
                          have hFc := va_free (wc := []) hD hS hA [] rfl
                          refine va_calli (va_runS (As := [.int (nI p1_50)]) (rest := []) ⟨hx, hb, hml, hown, hts⟩ (c_X5_fault l Z H.size (nI p1_50)) (va_cwS 1 hts gX5_readFolk_X5_fault rfl rfl rfl (by decide +kernel) ⟨Nat.le_of_ble_eq_true rfl, Nat.le_of_ble_eq_true rfl⟩) ⟨fun a U g mk q => by obtain ⟨q0, q1, qP, qK, qD⟩ := q; exact ⟨q0, q1, qP, va_K.moved (u := U) (U := U.calling g mk a) (Vm.Alike.refl U.vm) qK, qD⟩, fun U hU hW => ⟨rfl, by rw [hU], by rw [hU]; exact hPc, va_K.moved hW.alike hK, hDc.weaken (fun _ _ _ _ => trivial)⟩⟩ rfl rfl hl.1 rfl (lv_room (Nat.le_of_ble_eq_true rfl)) dX5_readFolk_78 ⟨Nat.le_of_ble_eq_true rfl, Nat.le_of_ble_eq_true rfl⟩) hS (fun q _ h => hFc q h) hFc (fun r_54 u t9 H1 locs ht hvm hw hB hz1 hk1 hS => ?_)
                          subst hw
                          have hP1 : va_P Z.1 vwCl [] H1 := fun k q h => by simp at h
                          have hD1 : va_D (va_A [] H.size) [] := ⟨fun i j p q h => by simp at h, fun k q h => by simp at h⟩
                          obtain ⟨hP, hD⟩ := va_join (wr := [(h1, .inr (0, [.int (nI ((0 + 1) + 1)), .int 16510910, .int 0, .ref k, .ref q])), (k, .inl (Z.2 0, 5, .inl f1_36)), (q, .inl (Z.2 0, 5, .inl g1_37)), (h0, .inr (5, [.int (nI n), .int (nI p1_52), .ref tk])), (tk, .inl (Z.2 1, 80, .inl f))]) (w1 := []) hP hD [] [0, 1, 2, 3, 4] rfl rfl (by decide) (by decide) hk1 hFc hP1 hD1
                          clear hPc hDc hP1 hD1 hk1 hz1 hFc ht hvm
                          generalize H1 = H at hP hS ⊢
                          have hP : va_P Z.1 vwCl [(h1, .inr (0, [.int (nI ((0 + 1) + 1)), .int 16510910, .int 0, .ref k, .ref q])), (k, .inl (Z.2 0, 5, .inl f1_36)), (q, .inl (Z.2 0, 5, .inl g1_37)), (h0, .inr (5, [.int (nI n), .int (nI p1_52), .ref tk])), (tk, .inl (Z.2 1, 80, .inl f))] H := hP
                          have hD : va_D A [(h1, .inr (0, [.int (nI ((0 + 1) + 1)), .int 16510910, .int 0, .ref k, .ref q])), (k, .inl (Z.2 0, 5, .inl f1_36)), (q, .inl (Z.2 0, 5, .inl g1_37)), (h0, .inr (5, [.int (nI n), .int (nI p1_52), .ref tk])), (tk, .inl (Z.2 1, 80, .inl f))] := hD
                          have hP9 := hP.sub (ws' := [(h0, .inr (5, [.int (nI n), .int (nI p1_52), .ref tk])), (tk, .inl (Z.2 1, 80, .inl f)), (h1, .inr (0, [.int (nI ((0 + 1) + 1)), .int 16510910, .int 0, .ref k, .ref q])), (k, .inl (Z.2 0, 5, .inl f1_36)), (q, .inl (Z.2 0, 5, .inl g1_37))]) [3, 4, 0, 1, 2] rfl
                          have hD9 := hD.sub (ws' := [(h0, .inr (5, [.int (nI n), .int (nI p1_52), .ref tk])), (tk, .inl (Z.2 1, 80, .inl f)), (h1, .inr (0, [.int (nI ((0 + 1) + 1)), .int 16510910, .int 0, .ref k, .ref q])), (k, .inl (Z.2 0, 5, .inl f1_36)), (q, .inl (Z.2 0, 5, .inl g1_37))]) [3, 4, 0, 1, 2] (by decide) rfl
                          exact W.iret (v := ((-20) - (nI p1_50))) hx hb hr (fun t9 ht hW => ⟨⟨(-20) - (nI p1_50), (p1_52, ((0 + 1) + 1), f1_36, g1_37), rfl, ⟨by omega, by omega⟩, by rw [ht]; exact hP9, hD9⟩, hS.F ht⟩) hS.2.2 dX5_readFolk_81
                        · refine lv_iload hx hb dX5_readFolk_68 (lv_at hl 0 rfl) ?_
                          refine lv_sipush (v := 9999) hx hb dX5_readFolk_70 (by decide) ?_
                          refine lv_icmp_le (tgt := 82) hx hb dX5_readFolk_73 (by decide) (fun c_55 => ?_) (fun c_55 => ?_)
                          · refine lv_aload_n hx hb dX5_readFolk_82 rfl (lv_at hl 6 rfl) ?_
                            refine lv_iload_n hx hb dX5_readFolk_83 rfl (lv_at hl 2 rfl) ?_
                            refine lv_iload hx hb dX5_readFolk_84 (lv_at hl 0 rfl) ?_
                            have hPc := hP.sub (ws' := [(h1, .inr (0, [.int (nI ((0 + 1) + 1)), .int 16510910, .int 0, .ref k, .ref q])), (k, .inl (Z.2 0, 5, .inl f1_36)), (q, .inl (Z.2 0, 5, .inl g1_37))]) [0, 1, 2] rfl
                            have hDc := hD.sub (ws' := [(h1, .inr (0, [.int (nI ((0 + 1) + 1)), .int 16510910, .int 0, .ref k, .ref q])), (k, .inl (Z.2 0, 5, .inl f1_36)), (q, .inl (Z.2 0, 5, .inl g1_37))]) [0, 1, 2] (by decide) rfl
                            have hFc := va_free (wc := [(h1, .inr (0, [.int (nI ((0 + 1) + 1)), .int 16510910, .int 0, .ref k, .ref q])), (k, .inl (Z.2 0, 5, .inl f1_36)), (q, .inl (Z.2 0, 5, .inl g1_37))]) hD hS hA [0, 1, 2] rfl
                            refine va_callv (va_runV (As := [.int (if (if r_44 < 0 then (0 : Int32) else (if 255 < r_44 then (0 : Int32) else (1 : Int32))) = 0 then (-1 : Int32) else (if (102 : Int32) = r_44.toInt8.toInt32 then (0 : Int32) else (if (99 : Int32) = r_44.toInt8.toInt32 then (1 : Int32) else (if (116 : Int32) = r_44.toInt8.toInt32 then (2 : Int32) else (if (119 : Int32) = r_44.toInt8.toInt32 then (3 : Int32) else (-1 : Int32)))))), .int r_51]) (rest := []) ⟨hx, hb, hml, hown, hts⟩ (c_X0_add l Z H.size h1 ((0 + 1) + 1) 16510910 0 k q f1_36 g1_37 (if (if r_44 < 0 then (0 : Int32) else (if 255 < r_44 then (0 : Int32) else (1 : Int32))) = 0 then (-1 : Int32) else (if (102 : Int32) = r_44.toInt8.toInt32 then (0 : Int32) else (if (99 : Int32) = r_44.toInt8.toInt32 then (1 : Int32) else (if (116 : Int32) = r_44.toInt8.toInt32 then (2 : Int32) else (if (119 : Int32) = r_44.toInt8.toInt32 then (3 : Int32) else (-1 : Int32)))))) r_51 (by omega)) (cwV 2 hts gX5_readFolk_X0_add rfl rfl rfl (by decide +kernel) ⟨Nat.le_of_ble_eq_true rfl, Nat.le_of_ble_eq_true rfl⟩) ⟨fun a U g mk q => by obtain ⟨q0, q1, qP, qK, qD⟩ := q; exact ⟨q0, q1, qP, va_K.moved (u := U) (U := U.calling g mk a) (Vm.Alike.refl U.vm) qK, qD⟩, va_recv hK hPc (ci := 0) (q0 := 0) rfl rfl, fun U hU hW => ⟨rfl, by rw [hU], by rw [hU]; exact hPc, va_K.moved hW.alike hK, hDc.weaken (fun _ _ _ _ => trivial)⟩⟩ rfl rfl hl.1 rfl (lv_room (Nat.le_of_ble_eq_true rfl)) dX5_readFolk_86 ⟨Nat.le_of_ble_eq_true rfl, Nat.le_of_ble_eq_true rfl⟩) hS (fun q _ h => hFc q h) hFc (fun u t9 H1 locs ht hvm hw hB hz1 hk1 hS => ?_)
                            obtain ⟨f1_57, g1_58⟩ := u
                            try dsimp only at hw hB
                            obtain ⟨hP1, hD1⟩ := hB
                            rw [ht] at hP1
                            obtain ⟨hP, hD⟩ := va_join (wr := [(h0, .inr (5, [.int (nI n), .int (nI p1_52), .ref tk])), (tk, .inl (Z.2 1, 80, .inl f))]) (w1 := [(h1, .inr (0, [.int (nI (((0 + 1) + 1) + 1)), .int 16510910, .int 0, .ref k, .ref q])), (k, .inl (Z.2 0, 5, .inl f1_57)), (q, .inl (Z.2 0, 5, .inl g1_58))]) hP hD [0, 1, 2] [3, 4] rfl rfl (by decide) (by decide) hk1 hFc hP1 hD1
                            clear hPc hDc hP1 hD1 hk1 hz1 hFc ht hvm
                            generalize H1 = H at hP hS ⊢
                            have hP : va_P Z.1 vwCl [(h0, .inr (5, [.int (nI n), .int (nI p1_52), .ref tk])), (tk, .inl (Z.2 1, 80, .inl f)), (h1, .inr (0, [.int (nI (((0 + 1) + 1) + 1)), .int 16510910, .int 0, .ref k, .ref q])), (k, .inl (Z.2 0, 5, .inl f1_57)), (q, .inl (Z.2 0, 5, .inl g1_58))] H := hP
                            have hD : va_D A [(h0, .inr (5, [.int (nI n), .int (nI p1_52), .ref tk])), (tk, .inl (Z.2 1, 80, .inl f)), (h1, .inr (0, [.int (nI (((0 + 1) + 1) + 1)), .int 16510910, .int 0, .ref k, .ref q])), (k, .inl (Z.2 0, 5, .inl f1_57)), (q, .inl (Z.2 0, 5, .inl g1_58))] := hD
                            refine lv_aload_n hx hb dX5_readFolk_89 rfl (lv_at hl 5 rfl) ?_
                            have hPc := hP.sub (ws' := [(h0, .inr (5, [.int (nI n), .int (nI p1_52), .ref tk])), (tk, .inl (Z.2 1, 80, .inl f))]) [0, 1] rfl
                            have hDc := hD.sub (ws' := [(h0, .inr (5, [.int (nI n), .int (nI p1_52), .ref tk])), (tk, .inl (Z.2 1, 80, .inl f))]) [0, 1] (by decide) rfl
                            have hFc := va_free (wc := [(h0, .inr (5, [.int (nI n), .int (nI p1_52), .ref tk])), (tk, .inl (Z.2 1, 80, .inl f))]) hD hS hA [0, 1] rfl
                            refine va_calli (va_runV (As := []) (rest := []) ⟨hx, hb, hml, hown, hts⟩ (c_X5_look l Z H.size h0 tk n p1_52 f (hn) (by omega) (hc)) (cwV 0 hts gX5_readFolk_X5_look rfl rfl rfl (by decide +kernel) ⟨Nat.le_of_ble_eq_true rfl, Nat.le_of_ble_eq_true rfl⟩) ⟨fun a U g mk q => by obtain ⟨q0, q1, qP, qK, qD⟩ := q; exact ⟨q0, q1, qP, va_K.moved (u := U) (U := U.calling g mk a) (Vm.Alike.refl U.vm) qK, qD⟩, va_recv hK hPc (ci := 5) (q0 := 0) rfl rfl, fun U hU hW => ⟨rfl, by rw [hU], by rw [hU]; exact hPc, va_K.moved hW.alike hK, hDc.weaken (fun _ _ _ _ => trivial)⟩⟩ rfl rfl hl.1 rfl (lv_room (Nat.le_of_ble_eq_true rfl)) dX5_readFolk_90 ⟨Nat.le_of_ble_eq_true rfl, Nat.le_of_ble_eq_true rfl⟩) hS (fun q _ h => hFc q h) hFc (fun r_59 u t9 H1 locs ht hvm hw hB hz1 hk1 hS => ?_)
                            obtain ⟨p1_60, rfl⟩ : ∃ z, z = u := ⟨_, rfl⟩
                            try dsimp only at hw hB
                            have hwr_59 := hw
                            obtain ⟨hP1, hD1⟩ := hB
                            rw [ht] at hP1
                            obtain ⟨hP, hD⟩ := va_join (wr := [(h1, .inr (0, [.int (nI (((0 + 1) + 1) + 1)), .int 16510910, .int 0, .ref k, .ref q])), (k, .inl (Z.2 0, 5, .inl f1_57)), (q, .inl (Z.2 0, 5, .inl g1_58))]) (w1 := [(h0, .inr (5, [.int (nI n), .int (nI p1_60), .ref tk])), (tk, .inl (Z.2 1, 80, .inl f))]) hP hD [0, 1] [2, 3, 4] rfl rfl (by decide) (by decide) hk1 hFc hP1 hD1
                            clear hPc hDc hP1 hD1 hk1 hz1 hFc ht hvm
                            generalize H1 = H at hP hS ⊢
                            have hP : va_P Z.1 vwCl [(h1, .inr (0, [.int (nI (((0 + 1) + 1) + 1)), .int 16510910, .int 0, .ref k, .ref q])), (k, .inl (Z.2 0, 5, .inl f1_57)), (q, .inl (Z.2 0, 5, .inl g1_58)), (h0, .inr (5, [.int (nI n), .int (nI p1_60), .ref tk])), (tk, .inl (Z.2 1, 80, .inl f))] H := hP
                            have hD : va_D A [(h1, .inr (0, [.int (nI (((0 + 1) + 1) + 1)), .int 16510910, .int 0, .ref k, .ref q])), (k, .inl (Z.2 0, 5, .inl f1_57)), (q, .inl (Z.2 0, 5, .inl g1_58)), (h0, .inr (5, [.int (nI n), .int (nI p1_60), .ref tk])), (tk, .inl (Z.2 1, 80, .inl f))] := hD
                            refine lv_istore (lv' := [(6, .int r_59), (5, .int r_51), (4, .int (nI p1_50)), (3, .int (if (if r_44 < 0 then (0 : Int32) else (if 255 < r_44 then (0 : Int32) else (1 : Int32))) = 0 then (-1 : Int32) else (if (102 : Int32) = r_44.toInt8.toInt32 then (0 : Int32) else (if (99 : Int32) = r_44.toInt8.toInt32 then (1 : Int32) else (if (116 : Int32) = r_44.toInt8.toInt32 then (2 : Int32) else (if (119 : Int32) = r_44.toInt8.toInt32 then (3 : Int32) else (-1 : Int32))))))), (2, .int 2), (0, .ref h0), (1, .ref h1)]) hx hb dX5_readFolk_93 hl (by decide) rfl (fun ls hl => ?_)
                            refine lv_iload hx hb dX5_readFolk_95 (lv_at hl 0 rfl) ?_
                            refine lv_if_ne (tgt := 105) hx hb dX5_readFolk_97 (by decide) (fun c_61 => ?_) (fun c_61 => ?_)
                            · refine lv_iload hx hb dX5_readFolk_105 (lv_at hl 0 rfl) ?_
                              refine lv_bipush (v := 44) hx hb dX5_readFolk_107 (by decide) ?_
                              refine lv_icmp_ne (tgt := 116) hx hb dX5_readFolk_109 (by decide) (fun c_62 => ?_) (fun c_62 => ?_)
                              · refine lv_aload_n hx hb dX5_readFolk_116 rfl (lv_at hl 5 rfl) ?_
                                refine va_get (D := Z.1) (ci := 5) (v := .int (nI p1_60)) (C := RX5) (T := TX5) (N := 3) hx hb hts hin5 hown hK hP 3 rfl rfl 1 (by decide) (hts (.fieldLink RX5 15 "HalfAsked$Tape" "at" "I") (by decide +kernel)) (fun _ h9 => h9) rfl dX5_readFolk_117 ?_
                                have hPc := hP.sub (ws' := []) [] rfl
                                have hDc := hD.sub (ws' := []) [] (by decide) rfl
                                have hFc := va_free (wc := []) hD hS hA [] rfl
                                refine va_calli (va_runS (As := [.int (nI p1_60)]) (rest := []) ⟨hx, hb, hml, hown, hts⟩ (c_X5_fault l Z H.size (nI p1_60)) (va_cwS 1 hts gX5_readFolk_X5_fault rfl rfl rfl (by decide +kernel) ⟨Nat.le_of_ble_eq_true rfl, Nat.le_of_ble_eq_true rfl⟩) ⟨fun a U g mk q => by obtain ⟨q0, q1, qP, qK, qD⟩ := q; exact ⟨q0, q1, qP, va_K.moved (u := U) (U := U.calling g mk a) (Vm.Alike.refl U.vm) qK, qD⟩, fun U hU hW => ⟨rfl, by rw [hU], by rw [hU]; exact hPc, va_K.moved hW.alike hK, hDc.weaken (fun _ _ _ _ => trivial)⟩⟩ rfl rfl hl.1 rfl (lv_room (Nat.le_of_ble_eq_true rfl)) dX5_readFolk_120 ⟨Nat.le_of_ble_eq_true rfl, Nat.le_of_ble_eq_true rfl⟩) hS (fun q _ h => hFc q h) hFc (fun r_63 u t9 H1 locs ht hvm hw hB hz1 hk1 hS => ?_)
                                subst hw
                                have hP1 : va_P Z.1 vwCl [] H1 := fun k q h => by simp at h
                                have hD1 : va_D (va_A [] H.size) [] := ⟨fun i j p q h => by simp at h, fun k q h => by simp at h⟩
                                obtain ⟨hP, hD⟩ := va_join (wr := [(h1, .inr (0, [.int (nI (((0 + 1) + 1) + 1)), .int 16510910, .int 0, .ref k, .ref q])), (k, .inl (Z.2 0, 5, .inl f1_57)), (q, .inl (Z.2 0, 5, .inl g1_58)), (h0, .inr (5, [.int (nI n), .int (nI p1_60), .ref tk])), (tk, .inl (Z.2 1, 80, .inl f))]) (w1 := []) hP hD [] [0, 1, 2, 3, 4] rfl rfl (by decide) (by decide) hk1 hFc hP1 hD1
                                clear hPc hDc hP1 hD1 hk1 hz1 hFc ht hvm
                                generalize H1 = H at hP hS ⊢
                                have hP : va_P Z.1 vwCl [(h1, .inr (0, [.int (nI (((0 + 1) + 1) + 1)), .int 16510910, .int 0, .ref k, .ref q])), (k, .inl (Z.2 0, 5, .inl f1_57)), (q, .inl (Z.2 0, 5, .inl g1_58)), (h0, .inr (5, [.int (nI n), .int (nI p1_60), .ref tk])), (tk, .inl (Z.2 1, 80, .inl f))] H := hP
                                have hD : va_D A [(h1, .inr (0, [.int (nI (((0 + 1) + 1) + 1)), .int 16510910, .int 0, .ref k, .ref q])), (k, .inl (Z.2 0, 5, .inl f1_57)), (q, .inl (Z.2 0, 5, .inl g1_58)), (h0, .inr (5, [.int (nI n), .int (nI p1_60), .ref tk])), (tk, .inl (Z.2 1, 80, .inl f))] := hD
                                have hP9 := hP.sub (ws' := [(h0, .inr (5, [.int (nI n), .int (nI p1_60), .ref tk])), (tk, .inl (Z.2 1, 80, .inl f)), (h1, .inr (0, [.int (nI (((0 + 1) + 1) + 1)), .int 16510910, .int 0, .ref k, .ref q])), (k, .inl (Z.2 0, 5, .inl f1_57)), (q, .inl (Z.2 0, 5, .inl g1_58))]) [3, 4, 0, 1, 2] rfl
                                have hD9 := hD.sub (ws' := [(h0, .inr (5, [.int (nI n), .int (nI p1_60), .ref tk])), (tk, .inl (Z.2 1, 80, .inl f)), (h1, .inr (0, [.int (nI (((0 + 1) + 1) + 1)), .int 16510910, .int 0, .ref k, .ref q])), (k, .inl (Z.2 0, 5, .inl f1_57)), (q, .inl (Z.2 0, 5, .inl g1_58))]) [3, 4, 0, 1, 2] (by decide) rfl
                                exact W.iret (v := ((-20) - (nI p1_60))) hx hb hr (fun t9 ht hW => ⟨⟨(-20) - (nI p1_60), (p1_60, (((0 + 1) + 1) + 1), f1_57, g1_58), rfl, ⟨by omega, by omega⟩, by rw [ht]; exact hP9, hD9⟩, hS.F ht⟩) hS.2.2 dX5_readFolk_123
                              · refine lv_iload_n hx hb dX5_readFolk_112 rfl (lv_at hl 4 rfl) ?_
                                refine lv_if_ne (tgt := 124) hx hb dX5_readFolk_113 (by decide) (fun _ => ?_) (fun c9 => absurd c9 (by decide))
                                have hq63 := hwr_59.1 (z_eq0 c_62 (by decide))
                                refine lv_aload_n hx hb dX5_readFolk_124 rfl (lv_at hl 5 rfl) ?_
                                refine lv_dup hx hb dX5_readFolk_125 rfl ?_
                                refine va_get (D := Z.1) (ci := 5) (v := .int (nI p1_60)) (C := RX5) (T := TX5) (N := 3) hx hb hts hin5 hown hK hP 3 rfl rfl 1 (by decide) (hts (.fieldLink RX5 15 "HalfAsked$Tape" "at" "I") (by decide +kernel)) (fun _ h9 => h9) rfl dX5_readFolk_126 ?_
                                refine lv_iconst (v := 1) hx hb dX5_readFolk_129 (by decide) ?_
                                refine lv_iadd hx hb dX5_readFolk_130 ?_
                                refine lv_topi (fun f_64 ef_64 => ?_)
                                obtain rfl : f_64 = nI (p1_60 + 1) := ef_64.trans (nI_1 _)
                                refine va_put (D := Z.1) (ci := 5) (v := .int (nI (p1_60 + 1))) (ty := .int) (C := RX5) (T := TX5) (N := 3) hx hb hts hin5 tyX5 tyX5_ok nmX5 hown hK hP hD hS 3 rfl rfl 1 (by decide) (hts (.fieldLink RX5 15 "HalfAsked$Tape" "at" "I") (by decide +kernel)) (fun _ h9 => h9) rfl (by decide +kernel) rfl rfl (Nat.le_of_ble_eq_true rfl) dX5_readFolk_131 (fun H locs hP hD hS => ?_)
                                have hP : va_P Z.1 vwCl [(h1, .inr (0, [.int (nI (((0 + 1) + 1) + 1)), .int 16510910, .int 0, .ref k, .ref q])), (k, .inl (Z.2 0, 5, .inl f1_57)), (q, .inl (Z.2 0, 5, .inl g1_58)), (h0, .inr (5, [.int (nI n), .int (nI (p1_60 + 1)), .ref tk])), (tk, .inl (Z.2 1, 80, .inl f))] H := hP
                                have hD : va_D A [(h1, .inr (0, [.int (nI (((0 + 1) + 1) + 1)), .int 16510910, .int 0, .ref k, .ref q])), (k, .inl (Z.2 0, 5, .inl f1_57)), (q, .inl (Z.2 0, 5, .inl g1_58)), (h0, .inr (5, [.int (nI n), .int (nI (p1_60 + 1)), .ref tk])), (tk, .inl (Z.2 1, 80, .inl f))] := hD
                                refine lv_iinc (v := 1) (lv' := [(2, .int 1), (6, .int r_59), (5, .int r_51), (4, .int (nI p1_50)), (3, .int (if (if r_44 < 0 then (0 : Int32) else (if 255 < r_44 then (0 : Int32) else (1 : Int32))) = 0 then (-1 : Int32) else (if (102 : Int32) = r_44.toInt8.toInt32 then (0 : Int32) else (if (99 : Int32) = r_44.toInt8.toInt32 then (1 : Int32) else (if (116 : Int32) = r_44.toInt8.toInt32 then (2 : Int32) else (if (119 : Int32) = r_44.toInt8.toInt32 then (3 : Int32) else (-1 : Int32))))))), (0, .ref h0), (1, .ref h1)]) hx hb dX5_readFolk_134 hl (k := 4) rfl (by decide) (by decide) rfl (fun ls hl => ?_)
                                refine lv_goto (tgt := 11) hx hb dX5_readFolk_137 (by decide) ?_
                                refine lv_iload_n hx hb dX5_readFolk_11 rfl (lv_at hl 0 rfl) ?_
                                refine lv_if_lt (tgt := 140) hx hb dX5_readFolk_12 (by decide) (fun c9 => absurd c9 (by decide)) (fun _ => ?_)
                                refine va_ldcS hx hb hown hG.2.2.2.2.2 dX5_readFolk_15 ?_
                                refine lv_aload_n hx hb dX5_readFolk_17 rfl (lv_at hl 5 rfl) ?_
                                have hPc := hP.sub (ws' := [(h0, .inr (5, [.int (nI n), .int (nI (p1_60 + 1)), .ref tk])), (tk, .inl (Z.2 1, 80, .inl f))]) [3, 4] rfl
                                have hDc := hD.sub (ws' := [(h0, .inr (5, [.int (nI n), .int (nI (p1_60 + 1)), .ref tk])), (tk, .inl (Z.2 1, 80, .inl f))]) [3, 4] (by decide) rfl
                                have hFc := va_free (wc := [(h0, .inr (5, [.int (nI n), .int (nI (p1_60 + 1)), .ref tk])), (tk, .inl (Z.2 1, 80, .inl f))]) hD hS hA [3, 4] rfl
                                refine va_calli (va_runV (As := []) (rest := [.ref kA]) ⟨hx, hb, hml, hown, hts⟩ (c_X5_look l Z H.size h0 tk n (p1_60 + 1) f (hn) (by omega) (hc)) (cwV 0 hts gX5_readFolk_X5_look rfl rfl rfl (by decide +kernel) ⟨Nat.le_of_ble_eq_true rfl, Nat.le_of_ble_eq_true rfl⟩) ⟨fun a U g mk q => by obtain ⟨q0, q1, qP, qK, qD⟩ := q; exact ⟨q0, q1, qP, va_K.moved (u := U) (U := U.calling g mk a) (Vm.Alike.refl U.vm) qK, qD⟩, va_recv hK hPc (ci := 5) (q0 := 0) rfl rfl, fun U hU hW => ⟨rfl, by rw [hU], by rw [hU]; exact hPc, va_K.moved hW.alike hK, hDc.weaken (fun _ _ _ _ => trivial)⟩⟩ rfl rfl hl.1 rfl (lv_room (Nat.le_of_ble_eq_true rfl)) dX5_readFolk_18 ⟨Nat.le_of_ble_eq_true rfl, Nat.le_of_ble_eq_true rfl⟩) hS (fun q _ h => hFc q h) hFc (fun r_65 u t9 H1 locs ht hvm hw hB hz1 hk1 hS => ?_)
                                obtain ⟨p1_66, rfl⟩ : ∃ z, z = u := ⟨_, rfl⟩
                                try dsimp only at hw hB
                                have hwr_65 := hw
                                obtain ⟨hP1, hD1⟩ := hB
                                rw [ht] at hP1
                                obtain ⟨hP, hD⟩ := va_join (wr := [(h1, .inr (0, [.int (nI (((0 + 1) + 1) + 1)), .int 16510910, .int 0, .ref k, .ref q])), (k, .inl (Z.2 0, 5, .inl f1_57)), (q, .inl (Z.2 0, 5, .inl g1_58))]) (w1 := [(h0, .inr (5, [.int (nI n), .int (nI p1_66), .ref tk])), (tk, .inl (Z.2 1, 80, .inl f))]) hP hD [3, 4] [0, 1, 2] rfl rfl (by decide) (by decide) hk1 hFc hP1 hD1
                                clear hPc hDc hP1 hD1 hk1 hz1 hFc ht hvm
                                generalize H1 = H at hP hS ⊢
                                have hP : va_P Z.1 vwCl [(h1, .inr (0, [.int (nI (((0 + 1) + 1) + 1)), .int 16510910, .int 0, .ref k, .ref q])), (k, .inl (Z.2 0, 5, .inl f1_57)), (q, .inl (Z.2 0, 5, .inl g1_58)), (h0, .inr (5, [.int (nI n), .int (nI p1_66), .ref tk])), (tk, .inl (Z.2 1, 80, .inl f))] H := hP
                                have hD : va_D A [(h1, .inr (0, [.int (nI (((0 + 1) + 1) + 1)), .int 16510910, .int 0, .ref k, .ref q])), (k, .inl (Z.2 0, 5, .inl f1_57)), (q, .inl (Z.2 0, 5, .inl g1_58)), (h0, .inr (5, [.int (nI n), .int (nI p1_66), .ref tk])), (tk, .inl (Z.2 1, 80, .inl f))] := hD
                                have hPc := hP.sub (ws' := []) [] rfl
                                have hDc := hD.sub (ws' := []) [] (by decide) rfl
                                have hFc := va_free (wc := []) hD hS hA [] rfl
                                refine va_calli (va_runV (As := [.int r_65]) (rest := []) ⟨hx, hb, hml, hown, hts⟩ (c_J0_indexOf_0f7a4 l Z H.size r_65 kA vA) (cwV 1 hts gX5_readFolk_J0_indexOf_0f7a4 rfl rfl rfl (by decide +kernel) ⟨Nat.le_of_ble_eq_true rfl, Nat.le_of_ble_eq_true rfl⟩) ⟨fun a U g mk q => by obtain ⟨q0, q1, qP, qK, qD, qG⟩ := q; exact ⟨q0, q1, qP, va_K.moved (u := U) (U := U.calling g mk a) (Vm.Alike.refl U.vm) qK, qD, z_Gc (u := U) (U := U.calling g mk a) rfl rfl qG⟩, z_recv hG hS, fun U hU hW => ⟨rfl, by rw [hU], by rw [hU]; exact hPc, va_K.moved hW.alike hK, hDc.weaken (fun _ _ _ _ => trivial), z_G hW hG hS hU hFc⟩⟩ rfl rfl hl.1 rfl (lv_room (Nat.le_of_ble_eq_true rfl)) dX5_readFolk_21 ⟨Nat.le_of_ble_eq_true rfl, Nat.le_of_ble_eq_true rfl⟩) hS (fun q _ h => hFc q h) hFc (fun r_67 u t9 H1 locs ht hvm hw hB hz1 hk1 hS => ?_)
                                subst hw
                                have hP1 : va_P Z.1 vwCl [] H1 := fun k q h => by simp at h
                                have hD1 : va_D (va_A [] H.size) [] := ⟨fun i j p q h => by simp at h, fun k q h => by simp at h⟩
                                obtain ⟨hP, hD⟩ := va_join (wr := [(h1, .inr (0, [.int (nI (((0 + 1) + 1) + 1)), .int 16510910, .int 0, .ref k, .ref q])), (k, .inl (Z.2 0, 5, .inl f1_57)), (q, .inl (Z.2 0, 5, .inl g1_58)), (h0, .inr (5, [.int (nI n), .int (nI p1_66), .ref tk])), (tk, .inl (Z.2 1, 80, .inl f))]) (w1 := []) hP hD [] [0, 1, 2, 3, 4] rfl rfl (by decide) (by decide) hk1 hFc hP1 hD1
                                clear hPc hDc hP1 hD1 hk1 hz1 hFc ht hvm
                                generalize H1 = H at hP hS ⊢
                                have hP : va_P Z.1 vwCl [(h1, .inr (0, [.int (nI (((0 + 1) + 1) + 1)), .int 16510910, .int 0, .ref k, .ref q])), (k, .inl (Z.2 0, 5, .inl f1_57)), (q, .inl (Z.2 0, 5, .inl g1_58)), (h0, .inr (5, [.int (nI n), .int (nI p1_66), .ref tk])), (tk, .inl (Z.2 1, 80, .inl f))] H := hP
                                have hD : va_D A [(h1, .inr (0, [.int (nI (((0 + 1) + 1) + 1)), .int 16510910, .int 0, .ref k, .ref q])), (k, .inl (Z.2 0, 5, .inl f1_57)), (q, .inl (Z.2 0, 5, .inl g1_58)), (h0, .inr (5, [.int (nI n), .int (nI p1_66), .ref tk])), (tk, .inl (Z.2 1, 80, .inl f))] := hD
                                refine lv_istore_n (lv' := [(3, .int (if (if r_65 < 0 then (0 : Int32) else (if 255 < r_65 then (0 : Int32) else (1 : Int32))) = 0 then (-1 : Int32) else (if (102 : Int32) = r_65.toInt8.toInt32 then (0 : Int32) else (if (99 : Int32) = r_65.toInt8.toInt32 then (1 : Int32) else (if (116 : Int32) = r_65.toInt8.toInt32 then (2 : Int32) else (if (119 : Int32) = r_65.toInt8.toInt32 then (3 : Int32) else (-1 : Int32))))))), (2, .int 1), (6, .int r_59), (5, .int r_51), (4, .int (nI p1_50)), (0, .ref h0), (1, .ref h1)]) hx hb dX5_readFolk_24 rfl hl (by decide) rfl (fun ls hl => ?_)
                                refine lv_iload_n hx hb dX5_readFolk_25 rfl (lv_at hl 0 rfl) ?_
                                refine lv_if_ge (tgt := 37) hx hb dX5_readFolk_26 (by decide) (fun c_68 => ?_) (fun c_68 => ?_)
                                · have hq68 := hwr_65.1 (z_ix0 c_68)
                                  refine lv_aload_n hx hb dX5_readFolk_37 rfl (lv_at hl 5 rfl) ?_
                                  refine lv_dup hx hb dX5_readFolk_38 rfl ?_
                                  refine va_get (D := Z.1) (ci := 5) (v := .int (nI p1_66)) (C := RX5) (T := TX5) (N := 3) hx hb hts hin5 hown hK hP 3 rfl rfl 1 (by decide) (hts (.fieldLink RX5 15 "HalfAsked$Tape" "at" "I") (by decide +kernel)) (fun _ h9 => h9) rfl dX5_readFolk_39 ?_
                                  refine lv_iconst (v := 1) hx hb dX5_readFolk_42 (by decide) ?_
                                  refine lv_iadd hx hb dX5_readFolk_43 ?_
                                  refine lv_topi (fun f_69 ef_69 => ?_)
                                  obtain rfl : f_69 = nI (p1_66 + 1) := ef_69.trans (nI_1 _)
                                  refine va_put (D := Z.1) (ci := 5) (v := .int (nI (p1_66 + 1))) (ty := .int) (C := RX5) (T := TX5) (N := 3) hx hb hts hin5 tyX5 tyX5_ok nmX5 hown hK hP hD hS 3 rfl rfl 1 (by decide) (hts (.fieldLink RX5 15 "HalfAsked$Tape" "at" "I") (by decide +kernel)) (fun _ h9 => h9) rfl (by decide +kernel) rfl rfl (Nat.le_of_ble_eq_true rfl) dX5_readFolk_44 (fun H locs hP hD hS => ?_)
                                  have hP : va_P Z.1 vwCl [(h1, .inr (0, [.int (nI (((0 + 1) + 1) + 1)), .int 16510910, .int 0, .ref k, .ref q])), (k, .inl (Z.2 0, 5, .inl f1_57)), (q, .inl (Z.2 0, 5, .inl g1_58)), (h0, .inr (5, [.int (nI n), .int (nI (p1_66 + 1)), .ref tk])), (tk, .inl (Z.2 1, 80, .inl f))] H := hP
                                  have hD : va_D A [(h1, .inr (0, [.int (nI (((0 + 1) + 1) + 1)), .int 16510910, .int 0, .ref k, .ref q])), (k, .inl (Z.2 0, 5, .inl f1_57)), (q, .inl (Z.2 0, 5, .inl g1_58)), (h0, .inr (5, [.int (nI n), .int (nI (p1_66 + 1)), .ref tk])), (tk, .inl (Z.2 1, 80, .inl f))] := hD
                                  refine lv_aload_n hx hb dX5_readFolk_47 rfl (lv_at hl 5 rfl) ?_
                                  have hPc := hP.sub (ws' := [(h0, .inr (5, [.int (nI n), .int (nI (p1_66 + 1)), .ref tk])), (tk, .inl (Z.2 1, 80, .inl f))]) [3, 4] rfl
                                  have hDc := hD.sub (ws' := [(h0, .inr (5, [.int (nI n), .int (nI (p1_66 + 1)), .ref tk])), (tk, .inl (Z.2 1, 80, .inl f))]) [3, 4] (by decide) rfl
                                  have hFc := va_free (wc := [(h0, .inr (5, [.int (nI n), .int (nI (p1_66 + 1)), .ref tk])), (tk, .inl (Z.2 1, 80, .inl f))]) hD hS hA [3, 4] rfl
                                  refine va_callv (va_runV (As := []) (rest := []) ⟨hx, hb, hml, hown, hts⟩ (c_X5_skipBlanks l Z H.size h0 tk n (p1_66 + 1) f (hn) (by omega) (hc)) (cwV 0 hts gX5_readFolk_X5_skipBlanks rfl rfl rfl (by decide +kernel) ⟨Nat.le_of_ble_eq_true rfl, Nat.le_of_ble_eq_true rfl⟩) ⟨fun a U g mk q => by obtain ⟨q0, q1, qP, qK, qD⟩ := q; exact ⟨q0, q1, qP, va_K.moved (u := U) (U := U.calling g mk a) (Vm.Alike.refl U.vm) qK, qD⟩, va_recv hK hPc (ci := 5) (q0 := 0) rfl rfl, fun U hU hW => ⟨rfl, by rw [hU], by rw [hU]; exact hPc, va_K.moved hW.alike hK, hDc.weaken (fun _ _ _ _ => trivial)⟩⟩ rfl rfl hl.1 rfl (lv_room (Nat.le_of_ble_eq_true rfl)) dX5_readFolk_48 ⟨Nat.le_of_ble_eq_true rfl, Nat.le_of_ble_eq_true rfl⟩) hS (fun q _ h => hFc q h) hFc (fun u t9 H1 locs ht hvm hw hB hz1 hk1 hS => ?_)
                                  obtain ⟨p1_71, rfl⟩ : ∃ z, z = u := ⟨_, rfl⟩
                                  try dsimp only at hw hB
                                  have hwr_70 := hw
                                  obtain ⟨hP1, hD1⟩ := hB
                                  rw [ht] at hP1
                                  obtain ⟨hP, hD⟩ := va_join (wr := [(h1, .inr (0, [.int (nI (((0 + 1) + 1) + 1)), .int 16510910, .int 0, .ref k, .ref q])), (k, .inl (Z.2 0, 5, .inl f1_57)), (q, .inl (Z.2 0, 5, .inl g1_58))]) (w1 := [(h0, .inr (5, [.int (nI n), .int (nI p1_71), .ref tk])), (tk, .inl (Z.2 1, 80, .inl f))]) hP hD [3, 4] [0, 1, 2] rfl rfl (by decide) (by decide) hk1 hFc hP1 hD1
                                  clear hPc hDc hP1 hD1 hk1 hz1 hFc ht hvm
                                  generalize H1 = H at hP hS ⊢
                                  have hP : va_P Z.1 vwCl [(h1, .inr (0, [.int (nI (((0 + 1) + 1) + 1)), .int 16510910, .int 0, .ref k, .ref q])), (k, .inl (Z.2 0, 5, .inl f1_57)), (q, .inl (Z.2 0, 5, .inl g1_58)), (h0, .inr (5, [.int (nI n), .int (nI p1_71), .ref tk])), (tk, .inl (Z.2 1, 80, .inl f))] H := hP
                                  have hD : va_D A [(h1, .inr (0, [.int (nI (((0 + 1) + 1) + 1)), .int 16510910, .int 0, .ref k, .ref q])), (k, .inl (Z.2 0, 5, .inl f1_57)), (q, .inl (Z.2 0, 5, .inl g1_58)), (h0, .inr (5, [.int (nI n), .int (nI p1_71), .ref tk])), (tk, .inl (Z.2 1, 80, .inl f))] := hD
                                  refine lv_aload_n hx hb dX5_readFolk_51 rfl (lv_at hl 5 rfl) ?_
                                  refine va_get (D := Z.1) (ci := 5) (v := .int (nI p1_71)) (C := RX5) (T := TX5) (N := 3) hx hb hts hin5 hown hK hP 3 rfl rfl 1 (by decide) (hts (.fieldLink RX5 15 "HalfAsked$Tape" "at" "I") (by decide +kernel)) (fun _ h9 => h9) rfl dX5_readFolk_52 ?_
                                  refine lv_istore (lv' := [(4, .int (nI p1_71)), (3, .int (if (if r_65 < 0 then (0 : Int32) else (if 255 < r_65 then (0 : Int32) else (1 : Int32))) = 0 then (-1 : Int32) else (if (102 : Int32) = r_65.toInt8.toInt32 then (0 : Int32) else (if (99 : Int32) = r_65.toInt8.toInt32 then (1 : Int32) else (if (116 : Int32) = r_65.toInt8.toInt32 then (2 : Int32) else (if (119 : Int32) = r_65.toInt8.toInt32 then (3 : Int32) else (-1 : Int32))))))), (2, .int 1), (6, .int r_59), (5, .int r_51), (0, .ref h0), (1, .ref h1)]) hx hb dX5_readFolk_55 hl (by decide) rfl (fun ls hl => ?_)
                                  refine lv_aload_n hx hb dX5_readFolk_57 rfl (lv_at hl 5 rfl) ?_
                                  have hPc := hP.sub (ws' := [(h0, .inr (5, [.int (nI n), .int (nI p1_71), .ref tk])), (tk, .inl (Z.2 1, 80, .inl f))]) [3, 4] rfl
                                  have hDc := hD.sub (ws' := [(h0, .inr (5, [.int (nI n), .int (nI p1_71), .ref tk])), (tk, .inl (Z.2 1, 80, .inl f))]) [3, 4] (by decide) rfl
                                  have hFc := va_free (wc := [(h0, .inr (5, [.int (nI n), .int (nI p1_71), .ref tk])), (tk, .inl (Z.2 1, 80, .inl f))]) hD hS hA [3, 4] rfl
                                  refine va_calli (va_runV (As := []) (rest := []) ⟨hx, hb, hml, hown, hts⟩ (c_X5_readNumber l Z H.size h0 tk n p1_71 f (hn) (by omega) (hc)) (cwV 0 hts gX5_readFolk_X5_readNumber rfl rfl rfl (by decide +kernel) ⟨Nat.le_of_ble_eq_true rfl, Nat.le_of_ble_eq_true rfl⟩) ⟨fun a U g mk q => by obtain ⟨q0, q1, qP, qK, qD⟩ := q; exact ⟨q0, q1, qP, va_K.moved (u := U) (U := U.calling g mk a) (Vm.Alike.refl U.vm) qK, qD⟩, va_recv hK hPc (ci := 5) (q0 := 0) rfl rfl, fun U hU hW => ⟨rfl, by rw [hU], by rw [hU]; exact hPc, va_K.moved hW.alike hK, hDc.weaken (fun _ _ _ _ => trivial)⟩⟩ rfl rfl hl.1 rfl (lv_room (Nat.le_of_ble_eq_true rfl)) dX5_readFolk_58 ⟨Nat.le_of_ble_eq_true rfl, Nat.le_of_ble_eq_true rfl⟩) hS (fun q _ h => hFc q h) hFc (fun r_72 u t9 H1 locs ht hvm hw hB hz1 hk1 hS => ?_)
                                  obtain ⟨p1_73, rfl⟩ : ∃ z, z = u := ⟨_, rfl⟩
                                  try dsimp only at hw hB
                                  have hwr_72 := hw
                                  obtain ⟨hP1, hD1⟩ := hB
                                  rw [ht] at hP1
                                  obtain ⟨hP, hD⟩ := va_join (wr := [(h1, .inr (0, [.int (nI (((0 + 1) + 1) + 1)), .int 16510910, .int 0, .ref k, .ref q])), (k, .inl (Z.2 0, 5, .inl f1_57)), (q, .inl (Z.2 0, 5, .inl g1_58))]) (w1 := [(h0, .inr (5, [.int (nI n), .int (nI p1_73), .ref tk])), (tk, .inl (Z.2 1, 80, .inl f))]) hP hD [3, 4] [0, 1, 2] rfl rfl (by decide) (by decide) hk1 hFc hP1 hD1
                                  clear hPc hDc hP1 hD1 hk1 hz1 hFc ht hvm
                                  generalize H1 = H at hP hS ⊢
                                  have hP : va_P Z.1 vwCl [(h1, .inr (0, [.int (nI (((0 + 1) + 1) + 1)), .int 16510910, .int 0, .ref k, .ref q])), (k, .inl (Z.2 0, 5, .inl f1_57)), (q, .inl (Z.2 0, 5, .inl g1_58)), (h0, .inr (5, [.int (nI n), .int (nI p1_73), .ref tk])), (tk, .inl (Z.2 1, 80, .inl f))] H := hP
                                  have hD : va_D A [(h1, .inr (0, [.int (nI (((0 + 1) + 1) + 1)), .int 16510910, .int 0, .ref k, .ref q])), (k, .inl (Z.2 0, 5, .inl f1_57)), (q, .inl (Z.2 0, 5, .inl g1_58)), (h0, .inr (5, [.int (nI n), .int (nI p1_73), .ref tk])), (tk, .inl (Z.2 1, 80, .inl f))] := hD
                                  refine lv_istore (lv' := [(5, .int r_72), (4, .int (nI p1_71)), (3, .int (if (if r_65 < 0 then (0 : Int32) else (if 255 < r_65 then (0 : Int32) else (1 : Int32))) = 0 then (-1 : Int32) else (if (102 : Int32) = r_65.toInt8.toInt32 then (0 : Int32) else (if (99 : Int32) = r_65.toInt8.toInt32 then (1 : Int32) else (if (116 : Int32) = r_65.toInt8.toInt32 then (2 : Int32) else (if (119 : Int32) = r_65.toInt8.toInt32 then (3 : Int32) else (-1 : Int32))))))), (2, .int 1), (6, .int r_59), (0, .ref h0), (1, .ref h1)]) hx hb dX5_readFolk_61 hl (by decide) rfl (fun ls hl => ?_)
                                  refine lv_iload hx hb dX5_readFolk_63 (lv_at hl 0 rfl) ?_
                                  refine lv_if_lt (tgt := 76) hx hb dX5_readFolk_65 (by decide) (fun c_74 => ?_) (fun c_74 => ?_)
                                  · refine lv_iload hx hb dX5_readFolk_76 (lv_at hl 1 rfl) ?_
                                    have hPc := hP.sub (ws' := []) [] rfl
                                    have hDc := hD.sub (ws' := []) [] (by decide) rfl
                                    have hFc := va_free (wc := []) hD hS hA [] rfl
                                    refine va_calli (va_runS (As := [.int (nI p1_71)]) (rest := []) ⟨hx, hb, hml, hown, hts⟩ (c_X5_fault l Z H.size (nI p1_71)) (va_cwS 1 hts gX5_readFolk_X5_fault rfl rfl rfl (by decide +kernel) ⟨Nat.le_of_ble_eq_true rfl, Nat.le_of_ble_eq_true rfl⟩) ⟨fun a U g mk q => by obtain ⟨q0, q1, qP, qK, qD⟩ := q; exact ⟨q0, q1, qP, va_K.moved (u := U) (U := U.calling g mk a) (Vm.Alike.refl U.vm) qK, qD⟩, fun U hU hW => ⟨rfl, by rw [hU], by rw [hU]; exact hPc, va_K.moved hW.alike hK, hDc.weaken (fun _ _ _ _ => trivial)⟩⟩ rfl rfl hl.1 rfl (lv_room (Nat.le_of_ble_eq_true rfl)) dX5_readFolk_78 ⟨Nat.le_of_ble_eq_true rfl, Nat.le_of_ble_eq_true rfl⟩) hS (fun q _ h => hFc q h) hFc (fun r_75 u t9 H1 locs ht hvm hw hB hz1 hk1 hS => ?_)
                                    subst hw
                                    have hP1 : va_P Z.1 vwCl [] H1 := fun k q h => by simp at h
                                    have hD1 : va_D (va_A [] H.size) [] := ⟨fun i j p q h => by simp at h, fun k q h => by simp at h⟩
                                    obtain ⟨hP, hD⟩ := va_join (wr := [(h1, .inr (0, [.int (nI (((0 + 1) + 1) + 1)), .int 16510910, .int 0, .ref k, .ref q])), (k, .inl (Z.2 0, 5, .inl f1_57)), (q, .inl (Z.2 0, 5, .inl g1_58)), (h0, .inr (5, [.int (nI n), .int (nI p1_73), .ref tk])), (tk, .inl (Z.2 1, 80, .inl f))]) (w1 := []) hP hD [] [0, 1, 2, 3, 4] rfl rfl (by decide) (by decide) hk1 hFc hP1 hD1
                                    clear hPc hDc hP1 hD1 hk1 hz1 hFc ht hvm
                                    generalize H1 = H at hP hS ⊢
                                    have hP : va_P Z.1 vwCl [(h1, .inr (0, [.int (nI (((0 + 1) + 1) + 1)), .int 16510910, .int 0, .ref k, .ref q])), (k, .inl (Z.2 0, 5, .inl f1_57)), (q, .inl (Z.2 0, 5, .inl g1_58)), (h0, .inr (5, [.int (nI n), .int (nI p1_73), .ref tk])), (tk, .inl (Z.2 1, 80, .inl f))] H := hP
                                    have hD : va_D A [(h1, .inr (0, [.int (nI (((0 + 1) + 1) + 1)), .int 16510910, .int 0, .ref k, .ref q])), (k, .inl (Z.2 0, 5, .inl f1_57)), (q, .inl (Z.2 0, 5, .inl g1_58)), (h0, .inr (5, [.int (nI n), .int (nI p1_73), .ref tk])), (tk, .inl (Z.2 1, 80, .inl f))] := hD
                                    have hP9 := hP.sub (ws' := [(h0, .inr (5, [.int (nI n), .int (nI p1_73), .ref tk])), (tk, .inl (Z.2 1, 80, .inl f)), (h1, .inr (0, [.int (nI (((0 + 1) + 1) + 1)), .int 16510910, .int 0, .ref k, .ref q])), (k, .inl (Z.2 0, 5, .inl f1_57)), (q, .inl (Z.2 0, 5, .inl g1_58))]) [3, 4, 0, 1, 2] rfl
                                    have hD9 := hD.sub (ws' := [(h0, .inr (5, [.int (nI n), .int (nI p1_73), .ref tk])), (tk, .inl (Z.2 1, 80, .inl f)), (h1, .inr (0, [.int (nI (((0 + 1) + 1) + 1)), .int 16510910, .int 0, .ref k, .ref q])), (k, .inl (Z.2 0, 5, .inl f1_57)), (q, .inl (Z.2 0, 5, .inl g1_58))]) [3, 4, 0, 1, 2] (by decide) rfl
                                    exact W.iret (v := ((-20) - (nI p1_71))) hx hb hr (fun t9 ht hW => ⟨⟨(-20) - (nI p1_71), (p1_73, (((0 + 1) + 1) + 1), f1_57, g1_58), rfl, ⟨by omega, by omega⟩, by rw [ht]; exact hP9, hD9⟩, hS.F ht⟩) hS.2.2 dX5_readFolk_81
                                  · refine lv_iload hx hb dX5_readFolk_68 (lv_at hl 0 rfl) ?_
                                    refine lv_sipush (v := 9999) hx hb dX5_readFolk_70 (by decide) ?_
                                    refine lv_icmp_le (tgt := 82) hx hb dX5_readFolk_73 (by decide) (fun c_76 => ?_) (fun c_76 => ?_)
                                    · refine lv_aload_n hx hb dX5_readFolk_82 rfl (lv_at hl 6 rfl) ?_
                                      refine lv_iload_n hx hb dX5_readFolk_83 rfl (lv_at hl 2 rfl) ?_
                                      refine lv_iload hx hb dX5_readFolk_84 (lv_at hl 0 rfl) ?_
                                      have hPc := hP.sub (ws' := [(h1, .inr (0, [.int (nI (((0 + 1) + 1) + 1)), .int 16510910, .int 0, .ref k, .ref q])), (k, .inl (Z.2 0, 5, .inl f1_57)), (q, .inl (Z.2 0, 5, .inl g1_58))]) [0, 1, 2] rfl
                                      have hDc := hD.sub (ws' := [(h1, .inr (0, [.int (nI (((0 + 1) + 1) + 1)), .int 16510910, .int 0, .ref k, .ref q])), (k, .inl (Z.2 0, 5, .inl f1_57)), (q, .inl (Z.2 0, 5, .inl g1_58))]) [0, 1, 2] (by decide) rfl
                                      have hFc := va_free (wc := [(h1, .inr (0, [.int (nI (((0 + 1) + 1) + 1)), .int 16510910, .int 0, .ref k, .ref q])), (k, .inl (Z.2 0, 5, .inl f1_57)), (q, .inl (Z.2 0, 5, .inl g1_58))]) hD hS hA [0, 1, 2] rfl
                                      refine va_callv (va_runV (As := [.int (if (if r_65 < 0 then (0 : Int32) else (if 255 < r_65 then (0 : Int32) else (1 : Int32))) = 0 then (-1 : Int32) else (if (102 : Int32) = r_65.toInt8.toInt32 then (0 : Int32) else (if (99 : Int32) = r_65.toInt8.toInt32 then (1 : Int32) else (if (116 : Int32) = r_65.toInt8.toInt32 then (2 : Int32) else (if (119 : Int32) = r_65.toInt8.toInt32 then (3 : Int32) else (-1 : Int32)))))), .int r_72]) (rest := []) ⟨hx, hb, hml, hown, hts⟩ (c_X0_add l Z H.size h1 (((0 + 1) + 1) + 1) 16510910 0 k q f1_57 g1_58 (if (if r_65 < 0 then (0 : Int32) else (if 255 < r_65 then (0 : Int32) else (1 : Int32))) = 0 then (-1 : Int32) else (if (102 : Int32) = r_65.toInt8.toInt32 then (0 : Int32) else (if (99 : Int32) = r_65.toInt8.toInt32 then (1 : Int32) else (if (116 : Int32) = r_65.toInt8.toInt32 then (2 : Int32) else (if (119 : Int32) = r_65.toInt8.toInt32 then (3 : Int32) else (-1 : Int32)))))) r_72 (by omega)) (cwV 2 hts gX5_readFolk_X0_add rfl rfl rfl (by decide +kernel) ⟨Nat.le_of_ble_eq_true rfl, Nat.le_of_ble_eq_true rfl⟩) ⟨fun a U g mk q => by obtain ⟨q0, q1, qP, qK, qD⟩ := q; exact ⟨q0, q1, qP, va_K.moved (u := U) (U := U.calling g mk a) (Vm.Alike.refl U.vm) qK, qD⟩, va_recv hK hPc (ci := 0) (q0 := 0) rfl rfl, fun U hU hW => ⟨rfl, by rw [hU], by rw [hU]; exact hPc, va_K.moved hW.alike hK, hDc.weaken (fun _ _ _ _ => trivial)⟩⟩ rfl rfl hl.1 rfl (lv_room (Nat.le_of_ble_eq_true rfl)) dX5_readFolk_86 ⟨Nat.le_of_ble_eq_true rfl, Nat.le_of_ble_eq_true rfl⟩) hS (fun q _ h => hFc q h) hFc (fun u t9 H1 locs ht hvm hw hB hz1 hk1 hS => ?_)
                                      obtain ⟨f1_78, g1_79⟩ := u
                                      try dsimp only at hw hB
                                      obtain ⟨hP1, hD1⟩ := hB
                                      rw [ht] at hP1
                                      obtain ⟨hP, hD⟩ := va_join (wr := [(h0, .inr (5, [.int (nI n), .int (nI p1_73), .ref tk])), (tk, .inl (Z.2 1, 80, .inl f))]) (w1 := [(h1, .inr (0, [.int (nI ((((0 + 1) + 1) + 1) + 1)), .int 16510910, .int 0, .ref k, .ref q])), (k, .inl (Z.2 0, 5, .inl f1_78)), (q, .inl (Z.2 0, 5, .inl g1_79))]) hP hD [0, 1, 2] [3, 4] rfl rfl (by decide) (by decide) hk1 hFc hP1 hD1
                                      clear hPc hDc hP1 hD1 hk1 hz1 hFc ht hvm
                                      generalize H1 = H at hP hS ⊢
                                      have hP : va_P Z.1 vwCl [(h0, .inr (5, [.int (nI n), .int (nI p1_73), .ref tk])), (tk, .inl (Z.2 1, 80, .inl f)), (h1, .inr (0, [.int (nI ((((0 + 1) + 1) + 1) + 1)), .int 16510910, .int 0, .ref k, .ref q])), (k, .inl (Z.2 0, 5, .inl f1_78)), (q, .inl (Z.2 0, 5, .inl g1_79))] H := hP
                                      have hD : va_D A [(h0, .inr (5, [.int (nI n), .int (nI p1_73), .ref tk])), (tk, .inl (Z.2 1, 80, .inl f)), (h1, .inr (0, [.int (nI ((((0 + 1) + 1) + 1) + 1)), .int 16510910, .int 0, .ref k, .ref q])), (k, .inl (Z.2 0, 5, .inl f1_78)), (q, .inl (Z.2 0, 5, .inl g1_79))] := hD
                                      refine lv_aload_n hx hb dX5_readFolk_89 rfl (lv_at hl 5 rfl) ?_
                                      have hPc := hP.sub (ws' := [(h0, .inr (5, [.int (nI n), .int (nI p1_73), .ref tk])), (tk, .inl (Z.2 1, 80, .inl f))]) [0, 1] rfl
                                      have hDc := hD.sub (ws' := [(h0, .inr (5, [.int (nI n), .int (nI p1_73), .ref tk])), (tk, .inl (Z.2 1, 80, .inl f))]) [0, 1] (by decide) rfl
                                      have hFc := va_free (wc := [(h0, .inr (5, [.int (nI n), .int (nI p1_73), .ref tk])), (tk, .inl (Z.2 1, 80, .inl f))]) hD hS hA [0, 1] rfl
                                      refine va_calli (va_runV (As := []) (rest := []) ⟨hx, hb, hml, hown, hts⟩ (c_X5_look l Z H.size h0 tk n p1_73 f (hn) (by omega) (hc)) (cwV 0 hts gX5_readFolk_X5_look rfl rfl rfl (by decide +kernel) ⟨Nat.le_of_ble_eq_true rfl, Nat.le_of_ble_eq_true rfl⟩) ⟨fun a U g mk q => by obtain ⟨q0, q1, qP, qK, qD⟩ := q; exact ⟨q0, q1, qP, va_K.moved (u := U) (U := U.calling g mk a) (Vm.Alike.refl U.vm) qK, qD⟩, va_recv hK hPc (ci := 5) (q0 := 0) rfl rfl, fun U hU hW => ⟨rfl, by rw [hU], by rw [hU]; exact hPc, va_K.moved hW.alike hK, hDc.weaken (fun _ _ _ _ => trivial)⟩⟩ rfl rfl hl.1 rfl (lv_room (Nat.le_of_ble_eq_true rfl)) dX5_readFolk_90 ⟨Nat.le_of_ble_eq_true rfl, Nat.le_of_ble_eq_true rfl⟩) hS (fun q _ h => hFc q h) hFc (fun r_80 u t9 H1 locs ht hvm hw hB hz1 hk1 hS => ?_)
                                      obtain ⟨p1_81, rfl⟩ : ∃ z, z = u := ⟨_, rfl⟩
                                      try dsimp only at hw hB
                                      have hwr_80 := hw
                                      obtain ⟨hP1, hD1⟩ := hB
                                      rw [ht] at hP1
                                      obtain ⟨hP, hD⟩ := va_join (wr := [(h1, .inr (0, [.int (nI ((((0 + 1) + 1) + 1) + 1)), .int 16510910, .int 0, .ref k, .ref q])), (k, .inl (Z.2 0, 5, .inl f1_78)), (q, .inl (Z.2 0, 5, .inl g1_79))]) (w1 := [(h0, .inr (5, [.int (nI n), .int (nI p1_81), .ref tk])), (tk, .inl (Z.2 1, 80, .inl f))]) hP hD [0, 1] [2, 3, 4] rfl rfl (by decide) (by decide) hk1 hFc hP1 hD1
                                      clear hPc hDc hP1 hD1 hk1 hz1 hFc ht hvm
                                      generalize H1 = H at hP hS ⊢
                                      have hP : va_P Z.1 vwCl [(h1, .inr (0, [.int (nI ((((0 + 1) + 1) + 1) + 1)), .int 16510910, .int 0, .ref k, .ref q])), (k, .inl (Z.2 0, 5, .inl f1_78)), (q, .inl (Z.2 0, 5, .inl g1_79)), (h0, .inr (5, [.int (nI n), .int (nI p1_81), .ref tk])), (tk, .inl (Z.2 1, 80, .inl f))] H := hP
                                      have hD : va_D A [(h1, .inr (0, [.int (nI ((((0 + 1) + 1) + 1) + 1)), .int 16510910, .int 0, .ref k, .ref q])), (k, .inl (Z.2 0, 5, .inl f1_78)), (q, .inl (Z.2 0, 5, .inl g1_79)), (h0, .inr (5, [.int (nI n), .int (nI p1_81), .ref tk])), (tk, .inl (Z.2 1, 80, .inl f))] := hD
                                      refine lv_istore (lv' := [(6, .int r_80), (5, .int r_72), (4, .int (nI p1_71)), (3, .int (if (if r_65 < 0 then (0 : Int32) else (if 255 < r_65 then (0 : Int32) else (1 : Int32))) = 0 then (-1 : Int32) else (if (102 : Int32) = r_65.toInt8.toInt32 then (0 : Int32) else (if (99 : Int32) = r_65.toInt8.toInt32 then (1 : Int32) else (if (116 : Int32) = r_65.toInt8.toInt32 then (2 : Int32) else (if (119 : Int32) = r_65.toInt8.toInt32 then (3 : Int32) else (-1 : Int32))))))), (2, .int 1), (0, .ref h0), (1, .ref h1)]) hx hb dX5_readFolk_93 hl (by decide) rfl (fun ls hl => ?_)
                                      refine lv_iload hx hb dX5_readFolk_95 (lv_at hl 0 rfl) ?_
                                      refine lv_if_ne (tgt := 105) hx hb dX5_readFolk_97 (by decide) (fun c_82 => ?_) (fun c_82 => ?_)
                                      · refine lv_iload hx hb dX5_readFolk_105 (lv_at hl 0 rfl) ?_
                                        refine lv_bipush (v := 44) hx hb dX5_readFolk_107 (by decide) ?_
                                        refine lv_icmp_ne (tgt := 116) hx hb dX5_readFolk_109 (by decide) (fun c_83 => ?_) (fun c_83 => ?_)
                                        · refine lv_aload_n hx hb dX5_readFolk_116 rfl (lv_at hl 5 rfl) ?_
                                          refine va_get (D := Z.1) (ci := 5) (v := .int (nI p1_81)) (C := RX5) (T := TX5) (N := 3) hx hb hts hin5 hown hK hP 3 rfl rfl 1 (by decide) (hts (.fieldLink RX5 15 "HalfAsked$Tape" "at" "I") (by decide +kernel)) (fun _ h9 => h9) rfl dX5_readFolk_117 ?_
                                          have hPc := hP.sub (ws' := []) [] rfl
                                          have hDc := hD.sub (ws' := []) [] (by decide) rfl
                                          have hFc := va_free (wc := []) hD hS hA [] rfl
                                          refine va_calli (va_runS (As := [.int (nI p1_81)]) (rest := []) ⟨hx, hb, hml, hown, hts⟩ (c_X5_fault l Z H.size (nI p1_81)) (va_cwS 1 hts gX5_readFolk_X5_fault rfl rfl rfl (by decide +kernel) ⟨Nat.le_of_ble_eq_true rfl, Nat.le_of_ble_eq_true rfl⟩) ⟨fun a U g mk q => by obtain ⟨q0, q1, qP, qK, qD⟩ := q; exact ⟨q0, q1, qP, va_K.moved (u := U) (U := U.calling g mk a) (Vm.Alike.refl U.vm) qK, qD⟩, fun U hU hW => ⟨rfl, by rw [hU], by rw [hU]; exact hPc, va_K.moved hW.alike hK, hDc.weaken (fun _ _ _ _ => trivial)⟩⟩ rfl rfl hl.1 rfl (lv_room (Nat.le_of_ble_eq_true rfl)) dX5_readFolk_120 ⟨Nat.le_of_ble_eq_true rfl, Nat.le_of_ble_eq_true rfl⟩) hS (fun q _ h => hFc q h) hFc (fun r_84 u t9 H1 locs ht hvm hw hB hz1 hk1 hS => ?_)
                                          subst hw
                                          have hP1 : va_P Z.1 vwCl [] H1 := fun k q h => by simp at h
                                          have hD1 : va_D (va_A [] H.size) [] := ⟨fun i j p q h => by simp at h, fun k q h => by simp at h⟩
                                          obtain ⟨hP, hD⟩ := va_join (wr := [(h1, .inr (0, [.int (nI ((((0 + 1) + 1) + 1) + 1)), .int 16510910, .int 0, .ref k, .ref q])), (k, .inl (Z.2 0, 5, .inl f1_78)), (q, .inl (Z.2 0, 5, .inl g1_79)), (h0, .inr (5, [.int (nI n), .int (nI p1_81), .ref tk])), (tk, .inl (Z.2 1, 80, .inl f))]) (w1 := []) hP hD [] [0, 1, 2, 3, 4] rfl rfl (by decide) (by decide) hk1 hFc hP1 hD1
                                          clear hPc hDc hP1 hD1 hk1 hz1 hFc ht hvm
                                          generalize H1 = H at hP hS ⊢
                                          have hP : va_P Z.1 vwCl [(h1, .inr (0, [.int (nI ((((0 + 1) + 1) + 1) + 1)), .int 16510910, .int 0, .ref k, .ref q])), (k, .inl (Z.2 0, 5, .inl f1_78)), (q, .inl (Z.2 0, 5, .inl g1_79)), (h0, .inr (5, [.int (nI n), .int (nI p1_81), .ref tk])), (tk, .inl (Z.2 1, 80, .inl f))] H := hP
                                          have hD : va_D A [(h1, .inr (0, [.int (nI ((((0 + 1) + 1) + 1) + 1)), .int 16510910, .int 0, .ref k, .ref q])), (k, .inl (Z.2 0, 5, .inl f1_78)), (q, .inl (Z.2 0, 5, .inl g1_79)), (h0, .inr (5, [.int (nI n), .int (nI p1_81), .ref tk])), (tk, .inl (Z.2 1, 80, .inl f))] := hD
                                          have hP9 := hP.sub (ws' := [(h0, .inr (5, [.int (nI n), .int (nI p1_81), .ref tk])), (tk, .inl (Z.2 1, 80, .inl f)), (h1, .inr (0, [.int (nI ((((0 + 1) + 1) + 1) + 1)), .int 16510910, .int 0, .ref k, .ref q])), (k, .inl (Z.2 0, 5, .inl f1_78)), (q, .inl (Z.2 0, 5, .inl g1_79))]) [3, 4, 0, 1, 2] rfl
                                          have hD9 := hD.sub (ws' := [(h0, .inr (5, [.int (nI n), .int (nI p1_81), .ref tk])), (tk, .inl (Z.2 1, 80, .inl f)), (h1, .inr (0, [.int (nI ((((0 + 1) + 1) + 1) + 1)), .int 16510910, .int 0, .ref k, .ref q])), (k, .inl (Z.2 0, 5, .inl f1_78)), (q, .inl (Z.2 0, 5, .inl g1_79))]) [3, 4, 0, 1, 2] (by decide) rfl
                                          exact W.iret (v := ((-20) - (nI p1_81))) hx hb hr (fun t9 ht hW => ⟨⟨(-20) - (nI p1_81), (p1_81, ((((0 + 1) + 1) + 1) + 1), f1_78, g1_79), rfl, ⟨by omega, by omega⟩, by rw [ht]; exact hP9, hD9⟩, hS.F ht⟩) hS.2.2 dX5_readFolk_123
                                        · refine lv_iload_n hx hb dX5_readFolk_112 rfl (lv_at hl 4 rfl) ?_
                                          refine lv_if_ne (tgt := 124) hx hb dX5_readFolk_113 (by decide) (fun _ => ?_) (fun c9 => absurd c9 (by decide))
                                          have hq84 := hwr_80.1 (z_eq0 c_83 (by decide))
                                          refine lv_aload_n hx hb dX5_readFolk_124 rfl (lv_at hl 5 rfl) ?_
                                          refine lv_dup hx hb dX5_readFolk_125 rfl ?_
                                          refine va_get (D := Z.1) (ci := 5) (v := .int (nI p1_81)) (C := RX5) (T := TX5) (N := 3) hx hb hts hin5 hown hK hP 3 rfl rfl 1 (by decide) (hts (.fieldLink RX5 15 "HalfAsked$Tape" "at" "I") (by decide +kernel)) (fun _ h9 => h9) rfl dX5_readFolk_126 ?_
                                          refine lv_iconst (v := 1) hx hb dX5_readFolk_129 (by decide) ?_
                                          refine lv_iadd hx hb dX5_readFolk_130 ?_
                                          refine lv_topi (fun f_85 ef_85 => ?_)
                                          obtain rfl : f_85 = nI (p1_81 + 1) := ef_85.trans (nI_1 _)
                                          refine va_put (D := Z.1) (ci := 5) (v := .int (nI (p1_81 + 1))) (ty := .int) (C := RX5) (T := TX5) (N := 3) hx hb hts hin5 tyX5 tyX5_ok nmX5 hown hK hP hD hS 3 rfl rfl 1 (by decide) (hts (.fieldLink RX5 15 "HalfAsked$Tape" "at" "I") (by decide +kernel)) (fun _ h9 => h9) rfl (by decide +kernel) rfl rfl (Nat.le_of_ble_eq_true rfl) dX5_readFolk_131 (fun H locs hP hD hS => ?_)
                                          have hP : va_P Z.1 vwCl [(h1, .inr (0, [.int (nI ((((0 + 1) + 1) + 1) + 1)), .int 16510910, .int 0, .ref k, .ref q])), (k, .inl (Z.2 0, 5, .inl f1_78)), (q, .inl (Z.2 0, 5, .inl g1_79)), (h0, .inr (5, [.int (nI n), .int (nI (p1_81 + 1)), .ref tk])), (tk, .inl (Z.2 1, 80, .inl f))] H := hP
                                          have hD : va_D A [(h1, .inr (0, [.int (nI ((((0 + 1) + 1) + 1) + 1)), .int 16510910, .int 0, .ref k, .ref q])), (k, .inl (Z.2 0, 5, .inl f1_78)), (q, .inl (Z.2 0, 5, .inl g1_79)), (h0, .inr (5, [.int (nI n), .int (nI (p1_81 + 1)), .ref tk])), (tk, .inl (Z.2 1, 80, .inl f))] := hD
                                          refine lv_iinc (v := 0) (lv' := [(2, .int 0), (6, .int r_80), (5, .int r_72), (4, .int (nI p1_71)), (3, .int (if (if r_65 < 0 then (0 : Int32) else (if 255 < r_65 then (0 : Int32) else (1 : Int32))) = 0 then (-1 : Int32) else (if (102 : Int32) = r_65.toInt8.toInt32 then (0 : Int32) else (if (99 : Int32) = r_65.toInt8.toInt32 then (1 : Int32) else (if (116 : Int32) = r_65.toInt8.toInt32 then (2 : Int32) else (if (119 : Int32) = r_65.toInt8.toInt32 then (3 : Int32) else (-1 : Int32))))))), (0, .ref h0), (1, .ref h1)]) hx hb dX5_readFolk_134 hl (k := 4) rfl (by decide) (by decide) rfl (fun ls hl => ?_)
                                          refine lv_goto (tgt := 11) hx hb dX5_readFolk_137 (by decide) ?_
                                          refine lv_iload_n hx hb dX5_readFolk_11 rfl (lv_at hl 0 rfl) ?_
                                          refine lv_if_lt (tgt := 140) hx hb dX5_readFolk_12 (by decide) (fun c9 => absurd c9 (by decide)) (fun _ => ?_)
                                          refine va_ldcS hx hb hown hG.2.2.2.2.2 dX5_readFolk_15 ?_
                                          refine lv_aload_n hx hb dX5_readFolk_17 rfl (lv_at hl 5 rfl) ?_
                                          have hPc := hP.sub (ws' := [(h0, .inr (5, [.int (nI n), .int (nI (p1_81 + 1)), .ref tk])), (tk, .inl (Z.2 1, 80, .inl f))]) [3, 4] rfl
                                          have hDc := hD.sub (ws' := [(h0, .inr (5, [.int (nI n), .int (nI (p1_81 + 1)), .ref tk])), (tk, .inl (Z.2 1, 80, .inl f))]) [3, 4] (by decide) rfl
                                          have hFc := va_free (wc := [(h0, .inr (5, [.int (nI n), .int (nI (p1_81 + 1)), .ref tk])), (tk, .inl (Z.2 1, 80, .inl f))]) hD hS hA [3, 4] rfl
                                          refine va_calli (va_runV (As := []) (rest := [.ref kA]) ⟨hx, hb, hml, hown, hts⟩ (c_X5_look l Z H.size h0 tk n (p1_81 + 1) f (hn) (by omega) (hc)) (cwV 0 hts gX5_readFolk_X5_look rfl rfl rfl (by decide +kernel) ⟨Nat.le_of_ble_eq_true rfl, Nat.le_of_ble_eq_true rfl⟩) ⟨fun a U g mk q => by obtain ⟨q0, q1, qP, qK, qD⟩ := q; exact ⟨q0, q1, qP, va_K.moved (u := U) (U := U.calling g mk a) (Vm.Alike.refl U.vm) qK, qD⟩, va_recv hK hPc (ci := 5) (q0 := 0) rfl rfl, fun U hU hW => ⟨rfl, by rw [hU], by rw [hU]; exact hPc, va_K.moved hW.alike hK, hDc.weaken (fun _ _ _ _ => trivial)⟩⟩ rfl rfl hl.1 rfl (lv_room (Nat.le_of_ble_eq_true rfl)) dX5_readFolk_18 ⟨Nat.le_of_ble_eq_true rfl, Nat.le_of_ble_eq_true rfl⟩) hS (fun q _ h => hFc q h) hFc (fun r_86 u t9 H1 locs ht hvm hw hB hz1 hk1 hS => ?_)
                                          obtain ⟨p1_87, rfl⟩ : ∃ z, z = u := ⟨_, rfl⟩
                                          try dsimp only at hw hB
                                          have hwr_86 := hw
                                          obtain ⟨hP1, hD1⟩ := hB
                                          rw [ht] at hP1
                                          obtain ⟨hP, hD⟩ := va_join (wr := [(h1, .inr (0, [.int (nI ((((0 + 1) + 1) + 1) + 1)), .int 16510910, .int 0, .ref k, .ref q])), (k, .inl (Z.2 0, 5, .inl f1_78)), (q, .inl (Z.2 0, 5, .inl g1_79))]) (w1 := [(h0, .inr (5, [.int (nI n), .int (nI p1_87), .ref tk])), (tk, .inl (Z.2 1, 80, .inl f))]) hP hD [3, 4] [0, 1, 2] rfl rfl (by decide) (by decide) hk1 hFc hP1 hD1
                                          clear hPc hDc hP1 hD1 hk1 hz1 hFc ht hvm
                                          generalize H1 = H at hP hS ⊢
                                          have hP : va_P Z.1 vwCl [(h1, .inr (0, [.int (nI ((((0 + 1) + 1) + 1) + 1)), .int 16510910, .int 0, .ref k, .ref q])), (k, .inl (Z.2 0, 5, .inl f1_78)), (q, .inl (Z.2 0, 5, .inl g1_79)), (h0, .inr (5, [.int (nI n), .int (nI p1_87), .ref tk])), (tk, .inl (Z.2 1, 80, .inl f))] H := hP
                                          have hD : va_D A [(h1, .inr (0, [.int (nI ((((0 + 1) + 1) + 1) + 1)), .int 16510910, .int 0, .ref k, .ref q])), (k, .inl (Z.2 0, 5, .inl f1_78)), (q, .inl (Z.2 0, 5, .inl g1_79)), (h0, .inr (5, [.int (nI n), .int (nI p1_87), .ref tk])), (tk, .inl (Z.2 1, 80, .inl f))] := hD
                                          have hPc := hP.sub (ws' := []) [] rfl
                                          have hDc := hD.sub (ws' := []) [] (by decide) rfl
                                          have hFc := va_free (wc := []) hD hS hA [] rfl
                                          refine va_calli (va_runV (As := [.int r_86]) (rest := []) ⟨hx, hb, hml, hown, hts⟩ (c_J0_indexOf_0f7a4 l Z H.size r_86 kA vA) (cwV 1 hts gX5_readFolk_J0_indexOf_0f7a4 rfl rfl rfl (by decide +kernel) ⟨Nat.le_of_ble_eq_true rfl, Nat.le_of_ble_eq_true rfl⟩) ⟨fun a U g mk q => by obtain ⟨q0, q1, qP, qK, qD, qG⟩ := q; exact ⟨q0, q1, qP, va_K.moved (u := U) (U := U.calling g mk a) (Vm.Alike.refl U.vm) qK, qD, z_Gc (u := U) (U := U.calling g mk a) rfl rfl qG⟩, z_recv hG hS, fun U hU hW => ⟨rfl, by rw [hU], by rw [hU]; exact hPc, va_K.moved hW.alike hK, hDc.weaken (fun _ _ _ _ => trivial), z_G hW hG hS hU hFc⟩⟩ rfl rfl hl.1 rfl (lv_room (Nat.le_of_ble_eq_true rfl)) dX5_readFolk_21 ⟨Nat.le_of_ble_eq_true rfl, Nat.le_of_ble_eq_true rfl⟩) hS (fun q _ h => hFc q h) hFc (fun r_88 u t9 H1 locs ht hvm hw hB hz1 hk1 hS => ?_)
                                          subst hw
                                          have hP1 : va_P Z.1 vwCl [] H1 := fun k q h => by simp at h
                                          have hD1 : va_D (va_A [] H.size) [] := ⟨fun i j p q h => by simp at h, fun k q h => by simp at h⟩
                                          obtain ⟨hP, hD⟩ := va_join (wr := [(h1, .inr (0, [.int (nI ((((0 + 1) + 1) + 1) + 1)), .int 16510910, .int 0, .ref k, .ref q])), (k, .inl (Z.2 0, 5, .inl f1_78)), (q, .inl (Z.2 0, 5, .inl g1_79)), (h0, .inr (5, [.int (nI n), .int (nI p1_87), .ref tk])), (tk, .inl (Z.2 1, 80, .inl f))]) (w1 := []) hP hD [] [0, 1, 2, 3, 4] rfl rfl (by decide) (by decide) hk1 hFc hP1 hD1
                                          clear hPc hDc hP1 hD1 hk1 hz1 hFc ht hvm
                                          generalize H1 = H at hP hS ⊢
                                          have hP : va_P Z.1 vwCl [(h1, .inr (0, [.int (nI ((((0 + 1) + 1) + 1) + 1)), .int 16510910, .int 0, .ref k, .ref q])), (k, .inl (Z.2 0, 5, .inl f1_78)), (q, .inl (Z.2 0, 5, .inl g1_79)), (h0, .inr (5, [.int (nI n), .int (nI p1_87), .ref tk])), (tk, .inl (Z.2 1, 80, .inl f))] H := hP
                                          have hD : va_D A [(h1, .inr (0, [.int (nI ((((0 + 1) + 1) + 1) + 1)), .int 16510910, .int 0, .ref k, .ref q])), (k, .inl (Z.2 0, 5, .inl f1_78)), (q, .inl (Z.2 0, 5, .inl g1_79)), (h0, .inr (5, [.int (nI n), .int (nI p1_87), .ref tk])), (tk, .inl (Z.2 1, 80, .inl f))] := hD
                                          refine lv_istore_n (lv' := [(3, .int (if (if r_86 < 0 then (0 : Int32) else (if 255 < r_86 then (0 : Int32) else (1 : Int32))) = 0 then (-1 : Int32) else (if (102 : Int32) = r_86.toInt8.toInt32 then (0 : Int32) else (if (99 : Int32) = r_86.toInt8.toInt32 then (1 : Int32) else (if (116 : Int32) = r_86.toInt8.toInt32 then (2 : Int32) else (if (119 : Int32) = r_86.toInt8.toInt32 then (3 : Int32) else (-1 : Int32))))))), (2, .int 0), (6, .int r_80), (5, .int r_72), (4, .int (nI p1_71)), (0, .ref h0), (1, .ref h1)]) hx hb dX5_readFolk_24 rfl hl (by decide) rfl (fun ls hl => ?_)
                                          refine lv_iload_n hx hb dX5_readFolk_25 rfl (lv_at hl 0 rfl) ?_
                                          refine lv_if_ge (tgt := 37) hx hb dX5_readFolk_26 (by decide) (fun c_89 => ?_) (fun c_89 => ?_)
                                          · have hq89 := hwr_86.1 (z_ix0 c_89)
                                            refine lv_aload_n hx hb dX5_readFolk_37 rfl (lv_at hl 5 rfl) ?_
                                            refine lv_dup hx hb dX5_readFolk_38 rfl ?_
                                            refine va_get (D := Z.1) (ci := 5) (v := .int (nI p1_87)) (C := RX5) (T := TX5) (N := 3) hx hb hts hin5 hown hK hP 3 rfl rfl 1 (by decide) (hts (.fieldLink RX5 15 "HalfAsked$Tape" "at" "I") (by decide +kernel)) (fun _ h9 => h9) rfl dX5_readFolk_39 ?_
                                            refine lv_iconst (v := 1) hx hb dX5_readFolk_42 (by decide) ?_
                                            refine lv_iadd hx hb dX5_readFolk_43 ?_
                                            refine lv_topi (fun f_90 ef_90 => ?_)
                                            obtain rfl : f_90 = nI (p1_87 + 1) := ef_90.trans (nI_1 _)
                                            refine va_put (D := Z.1) (ci := 5) (v := .int (nI (p1_87 + 1))) (ty := .int) (C := RX5) (T := TX5) (N := 3) hx hb hts hin5 tyX5 tyX5_ok nmX5 hown hK hP hD hS 3 rfl rfl 1 (by decide) (hts (.fieldLink RX5 15 "HalfAsked$Tape" "at" "I") (by decide +kernel)) (fun _ h9 => h9) rfl (by decide +kernel) rfl rfl (Nat.le_of_ble_eq_true rfl) dX5_readFolk_44 (fun H locs hP hD hS => ?_)
                                            have hP : va_P Z.1 vwCl [(h1, .inr (0, [.int (nI ((((0 + 1) + 1) + 1) + 1)), .int 16510910, .int 0, .ref k, .ref q])), (k, .inl (Z.2 0, 5, .inl f1_78)), (q, .inl (Z.2 0, 5, .inl g1_79)), (h0, .inr (5, [.int (nI n), .int (nI (p1_87 + 1)), .ref tk])), (tk, .inl (Z.2 1, 80, .inl f))] H := hP
                                            have hD : va_D A [(h1, .inr (0, [.int (nI ((((0 + 1) + 1) + 1) + 1)), .int 16510910, .int 0, .ref k, .ref q])), (k, .inl (Z.2 0, 5, .inl f1_78)), (q, .inl (Z.2 0, 5, .inl g1_79)), (h0, .inr (5, [.int (nI n), .int (nI (p1_87 + 1)), .ref tk])), (tk, .inl (Z.2 1, 80, .inl f))] := hD
                                            refine lv_aload_n hx hb dX5_readFolk_47 rfl (lv_at hl 5 rfl) ?_
                                            have hPc := hP.sub (ws' := [(h0, .inr (5, [.int (nI n), .int (nI (p1_87 + 1)), .ref tk])), (tk, .inl (Z.2 1, 80, .inl f))]) [3, 4] rfl
                                            have hDc := hD.sub (ws' := [(h0, .inr (5, [.int (nI n), .int (nI (p1_87 + 1)), .ref tk])), (tk, .inl (Z.2 1, 80, .inl f))]) [3, 4] (by decide) rfl
                                            have hFc := va_free (wc := [(h0, .inr (5, [.int (nI n), .int (nI (p1_87 + 1)), .ref tk])), (tk, .inl (Z.2 1, 80, .inl f))]) hD hS hA [3, 4] rfl
                                            refine va_callv (va_runV (As := []) (rest := []) ⟨hx, hb, hml, hown, hts⟩ (c_X5_skipBlanks l Z H.size h0 tk n (p1_87 + 1) f (hn) (by omega) (hc)) (cwV 0 hts gX5_readFolk_X5_skipBlanks rfl rfl rfl (by decide +kernel) ⟨Nat.le_of_ble_eq_true rfl, Nat.le_of_ble_eq_true rfl⟩) ⟨fun a U g mk q => by obtain ⟨q0, q1, qP, qK, qD⟩ := q; exact ⟨q0, q1, qP, va_K.moved (u := U) (U := U.calling g mk a) (Vm.Alike.refl U.vm) qK, qD⟩, va_recv hK hPc (ci := 5) (q0 := 0) rfl rfl, fun U hU hW => ⟨rfl, by rw [hU], by rw [hU]; exact hPc, va_K.moved hW.alike hK, hDc.weaken (fun _ _ _ _ => trivial)⟩⟩ rfl rfl hl.1 rfl (lv_room (Nat.le_of_ble_eq_true rfl)) dX5_readFolk_48 ⟨Nat.le_of_ble_eq_true rfl, Nat.le_of_ble_eq_true rfl⟩) hS (fun q _ h => hFc q h) hFc (fun u t9 H1 locs ht hvm hw hB hz1 hk1 hS => ?_)
                                            obtain ⟨p1_92, rfl⟩ : ∃ z, z = u := ⟨_, rfl⟩
                                            try dsimp only at hw hB
                                            have hwr_91 := hw
                                            obtain ⟨hP1, hD1⟩ := hB
                                            rw [ht] at hP1
                                            obtain ⟨hP, hD⟩ := va_join (wr := [(h1, .inr (0, [.int (nI ((((0 + 1) + 1) + 1) + 1)), .int 16510910, .int 0, .ref k, .ref q])), (k, .inl (Z.2 0, 5, .inl f1_78)), (q, .inl (Z.2 0, 5, .inl g1_79))]) (w1 := [(h0, .inr (5, [.int (nI n), .int (nI p1_92), .ref tk])), (tk, .inl (Z.2 1, 80, .inl f))]) hP hD [3, 4] [0, 1, 2] rfl rfl (by decide) (by decide) hk1 hFc hP1 hD1
                                            clear hPc hDc hP1 hD1 hk1 hz1 hFc ht hvm
                                            generalize H1 = H at hP hS ⊢
                                            have hP : va_P Z.1 vwCl [(h1, .inr (0, [.int (nI ((((0 + 1) + 1) + 1) + 1)), .int 16510910, .int 0, .ref k, .ref q])), (k, .inl (Z.2 0, 5, .inl f1_78)), (q, .inl (Z.2 0, 5, .inl g1_79)), (h0, .inr (5, [.int (nI n), .int (nI p1_92), .ref tk])), (tk, .inl (Z.2 1, 80, .inl f))] H := hP
                                            have hD : va_D A [(h1, .inr (0, [.int (nI ((((0 + 1) + 1) + 1) + 1)), .int 16510910, .int 0, .ref k, .ref q])), (k, .inl (Z.2 0, 5, .inl f1_78)), (q, .inl (Z.2 0, 5, .inl g1_79)), (h0, .inr (5, [.int (nI n), .int (nI p1_92), .ref tk])), (tk, .inl (Z.2 1, 80, .inl f))] := hD
                                            refine lv_aload_n hx hb dX5_readFolk_51 rfl (lv_at hl 5 rfl) ?_
                                            refine va_get (D := Z.1) (ci := 5) (v := .int (nI p1_92)) (C := RX5) (T := TX5) (N := 3) hx hb hts hin5 hown hK hP 3 rfl rfl 1 (by decide) (hts (.fieldLink RX5 15 "HalfAsked$Tape" "at" "I") (by decide +kernel)) (fun _ h9 => h9) rfl dX5_readFolk_52 ?_
                                            refine lv_istore (lv' := [(4, .int (nI p1_92)), (3, .int (if (if r_86 < 0 then (0 : Int32) else (if 255 < r_86 then (0 : Int32) else (1 : Int32))) = 0 then (-1 : Int32) else (if (102 : Int32) = r_86.toInt8.toInt32 then (0 : Int32) else (if (99 : Int32) = r_86.toInt8.toInt32 then (1 : Int32) else (if (116 : Int32) = r_86.toInt8.toInt32 then (2 : Int32) else (if (119 : Int32) = r_86.toInt8.toInt32 then (3 : Int32) else (-1 : Int32))))))), (2, .int 0), (6, .int r_80), (5, .int r_72), (0, .ref h0), (1, .ref h1)]) hx hb dX5_readFolk_55 hl (by decide) rfl (fun ls hl => ?_)
                                            refine lv_aload_n hx hb dX5_readFolk_57 rfl (lv_at hl 5 rfl) ?_
                                            have hPc := hP.sub (ws' := [(h0, .inr (5, [.int (nI n), .int (nI p1_92), .ref tk])), (tk, .inl (Z.2 1, 80, .inl f))]) [3, 4] rfl
                                            have hDc := hD.sub (ws' := [(h0, .inr (5, [.int (nI n), .int (nI p1_92), .ref tk])), (tk, .inl (Z.2 1, 80, .inl f))]) [3, 4] (by decide) rfl
                                            have hFc := va_free (wc := [(h0, .inr (5, [.int (nI n), .int (nI p1_92), .ref tk])), (tk, .inl (Z.2 1, 80, .inl f))]) hD hS hA [3, 4] rfl
                                            refine va_calli (va_runV (As := []) (rest := []) ⟨hx, hb, hml, hown, hts⟩ (c_X5_readNumber l Z H.size h0 tk n p1_92 f (hn) (by omega) (hc)) (cwV 0 hts gX5_readFolk_X5_readNumber rfl rfl rfl (by decide +kernel) ⟨Nat.le_of_ble_eq_true rfl, Nat.le_of_ble_eq_true rfl⟩) ⟨fun a U g mk q => by obtain ⟨q0, q1, qP, qK, qD⟩ := q; exact ⟨q0, q1, qP, va_K.moved (u := U) (U := U.calling g mk a) (Vm.Alike.refl U.vm) qK, qD⟩, va_recv hK hPc (ci := 5) (q0 := 0) rfl rfl, fun U hU hW => ⟨rfl, by rw [hU], by rw [hU]; exact hPc, va_K.moved hW.alike hK, hDc.weaken (fun _ _ _ _ => trivial)⟩⟩ rfl rfl hl.1 rfl (lv_room (Nat.le_of_ble_eq_true rfl)) dX5_readFolk_58 ⟨Nat.le_of_ble_eq_true rfl, Nat.le_of_ble_eq_true rfl⟩) hS (fun q _ h => hFc q h) hFc (fun r_93 u t9 H1 locs ht hvm hw hB hz1 hk1 hS => ?_)
                                            obtain ⟨p1_94, rfl⟩ : ∃ z, z = u := ⟨_, rfl⟩
                                            try dsimp only at hw hB
                                            have hwr_93 := hw
                                            obtain ⟨hP1, hD1⟩ := hB
                                            rw [ht] at hP1
                                            obtain ⟨hP, hD⟩ := va_join (wr := [(h1, .inr (0, [.int (nI ((((0 + 1) + 1) + 1) + 1)), .int 16510910, .int 0, .ref k, .ref q])), (k, .inl (Z.2 0, 5, .inl f1_78)), (q, .inl (Z.2 0, 5, .inl g1_79))]) (w1 := [(h0, .inr (5, [.int (nI n), .int (nI p1_94), .ref tk])), (tk, .inl (Z.2 1, 80, .inl f))]) hP hD [3, 4] [0, 1, 2] rfl rfl (by decide) (by decide) hk1 hFc hP1 hD1
                                            clear hPc hDc hP1 hD1 hk1 hz1 hFc ht hvm
                                            generalize H1 = H at hP hS ⊢
                                            have hP : va_P Z.1 vwCl [(h1, .inr (0, [.int (nI ((((0 + 1) + 1) + 1) + 1)), .int 16510910, .int 0, .ref k, .ref q])), (k, .inl (Z.2 0, 5, .inl f1_78)), (q, .inl (Z.2 0, 5, .inl g1_79)), (h0, .inr (5, [.int (nI n), .int (nI p1_94), .ref tk])), (tk, .inl (Z.2 1, 80, .inl f))] H := hP
                                            have hD : va_D A [(h1, .inr (0, [.int (nI ((((0 + 1) + 1) + 1) + 1)), .int 16510910, .int 0, .ref k, .ref q])), (k, .inl (Z.2 0, 5, .inl f1_78)), (q, .inl (Z.2 0, 5, .inl g1_79)), (h0, .inr (5, [.int (nI n), .int (nI p1_94), .ref tk])), (tk, .inl (Z.2 1, 80, .inl f))] := hD
                                            refine lv_istore (lv' := [(5, .int r_93), (4, .int (nI p1_92)), (3, .int (if (if r_86 < 0 then (0 : Int32) else (if 255 < r_86 then (0 : Int32) else (1 : Int32))) = 0 then (-1 : Int32) else (if (102 : Int32) = r_86.toInt8.toInt32 then (0 : Int32) else (if (99 : Int32) = r_86.toInt8.toInt32 then (1 : Int32) else (if (116 : Int32) = r_86.toInt8.toInt32 then (2 : Int32) else (if (119 : Int32) = r_86.toInt8.toInt32 then (3 : Int32) else (-1 : Int32))))))), (2, .int 0), (6, .int r_80), (0, .ref h0), (1, .ref h1)]) hx hb dX5_readFolk_61 hl (by decide) rfl (fun ls hl => ?_)
                                            refine lv_iload hx hb dX5_readFolk_63 (lv_at hl 0 rfl) ?_
                                            refine lv_if_lt (tgt := 76) hx hb dX5_readFolk_65 (by decide) (fun c_95 => ?_) (fun c_95 => ?_)
                                            · refine lv_iload hx hb dX5_readFolk_76 (lv_at hl 1 rfl) ?_
                                              have hPc := hP.sub (ws' := []) [] rfl
                                              have hDc := hD.sub (ws' := []) [] (by decide) rfl
                                              have hFc := va_free (wc := []) hD hS hA [] rfl
                                              refine va_calli (va_runS (As := [.int (nI p1_92)]) (rest := []) ⟨hx, hb, hml, hown, hts⟩ (c_X5_fault l Z H.size (nI p1_92)) (va_cwS 1 hts gX5_readFolk_X5_fault rfl rfl rfl (by decide +kernel) ⟨Nat.le_of_ble_eq_true rfl, Nat.le_of_ble_eq_true rfl⟩) ⟨fun a U g mk q => by obtain ⟨q0, q1, qP, qK, qD⟩ := q; exact ⟨q0, q1, qP, va_K.moved (u := U) (U := U.calling g mk a) (Vm.Alike.refl U.vm) qK, qD⟩, fun U hU hW => ⟨rfl, by rw [hU], by rw [hU]; exact hPc, va_K.moved hW.alike hK, hDc.weaken (fun _ _ _ _ => trivial)⟩⟩ rfl rfl hl.1 rfl (lv_room (Nat.le_of_ble_eq_true rfl)) dX5_readFolk_78 ⟨Nat.le_of_ble_eq_true rfl, Nat.le_of_ble_eq_true rfl⟩) hS (fun q _ h => hFc q h) hFc (fun r_96 u t9 H1 locs ht hvm hw hB hz1 hk1 hS => ?_)
                                              subst hw
                                              have hP1 : va_P Z.1 vwCl [] H1 := fun k q h => by simp at h
                                              have hD1 : va_D (va_A [] H.size) [] := ⟨fun i j p q h => by simp at h, fun k q h => by simp at h⟩
                                              obtain ⟨hP, hD⟩ := va_join (wr := [(h1, .inr (0, [.int (nI ((((0 + 1) + 1) + 1) + 1)), .int 16510910, .int 0, .ref k, .ref q])), (k, .inl (Z.2 0, 5, .inl f1_78)), (q, .inl (Z.2 0, 5, .inl g1_79)), (h0, .inr (5, [.int (nI n), .int (nI p1_94), .ref tk])), (tk, .inl (Z.2 1, 80, .inl f))]) (w1 := []) hP hD [] [0, 1, 2, 3, 4] rfl rfl (by decide) (by decide) hk1 hFc hP1 hD1
                                              clear hPc hDc hP1 hD1 hk1 hz1 hFc ht hvm
                                              generalize H1 = H at hP hS ⊢
                                              have hP : va_P Z.1 vwCl [(h1, .inr (0, [.int (nI ((((0 + 1) + 1) + 1) + 1)), .int 16510910, .int 0, .ref k, .ref q])), (k, .inl (Z.2 0, 5, .inl f1_78)), (q, .inl (Z.2 0, 5, .inl g1_79)), (h0, .inr (5, [.int (nI n), .int (nI p1_94), .ref tk])), (tk, .inl (Z.2 1, 80, .inl f))] H := hP
                                              have hD : va_D A [(h1, .inr (0, [.int (nI ((((0 + 1) + 1) + 1) + 1)), .int 16510910, .int 0, .ref k, .ref q])), (k, .inl (Z.2 0, 5, .inl f1_78)), (q, .inl (Z.2 0, 5, .inl g1_79)), (h0, .inr (5, [.int (nI n), .int (nI p1_94), .ref tk])), (tk, .inl (Z.2 1, 80, .inl f))] := hD
                                              have hP9 := hP.sub (ws' := [(h0, .inr (5, [.int (nI n), .int (nI p1_94), .ref tk])), (tk, .inl (Z.2 1, 80, .inl f)), (h1, .inr (0, [.int (nI ((((0 + 1) + 1) + 1) + 1)), .int 16510910, .int 0, .ref k, .ref q])), (k, .inl (Z.2 0, 5, .inl f1_78)), (q, .inl (Z.2 0, 5, .inl g1_79))]) [3, 4, 0, 1, 2] rfl
                                              have hD9 := hD.sub (ws' := [(h0, .inr (5, [.int (nI n), .int (nI p1_94), .ref tk])), (tk, .inl (Z.2 1, 80, .inl f)), (h1, .inr (0, [.int (nI ((((0 + 1) + 1) + 1) + 1)), .int 16510910, .int 0, .ref k, .ref q])), (k, .inl (Z.2 0, 5, .inl f1_78)), (q, .inl (Z.2 0, 5, .inl g1_79))]) [3, 4, 0, 1, 2] (by decide) rfl
                                              exact W.iret (v := ((-20) - (nI p1_92))) hx hb hr (fun t9 ht hW => ⟨⟨(-20) - (nI p1_92), (p1_94, ((((0 + 1) + 1) + 1) + 1), f1_78, g1_79), rfl, ⟨by omega, by omega⟩, by rw [ht]; exact hP9, hD9⟩, hS.F ht⟩) hS.2.2 dX5_readFolk_81
                                            · refine lv_iload hx hb dX5_readFolk_68 (lv_at hl 0 rfl) ?_
                                              refine lv_sipush (v := 9999) hx hb dX5_readFolk_70 (by decide) ?_
                                              refine lv_icmp_le (tgt := 82) hx hb dX5_readFolk_73 (by decide) (fun c_97 => ?_) (fun c_97 => ?_)
                                              · refine lv_aload_n hx hb dX5_readFolk_82 rfl (lv_at hl 6 rfl) ?_
                                                refine lv_iload_n hx hb dX5_readFolk_83 rfl (lv_at hl 2 rfl) ?_
                                                refine lv_iload hx hb dX5_readFolk_84 (lv_at hl 0 rfl) ?_
                                                have hPc := hP.sub (ws' := [(h1, .inr (0, [.int (nI ((((0 + 1) + 1) + 1) + 1)), .int 16510910, .int 0, .ref k, .ref q])), (k, .inl (Z.2 0, 5, .inl f1_78)), (q, .inl (Z.2 0, 5, .inl g1_79))]) [0, 1, 2] rfl
                                                have hDc := hD.sub (ws' := [(h1, .inr (0, [.int (nI ((((0 + 1) + 1) + 1) + 1)), .int 16510910, .int 0, .ref k, .ref q])), (k, .inl (Z.2 0, 5, .inl f1_78)), (q, .inl (Z.2 0, 5, .inl g1_79))]) [0, 1, 2] (by decide) rfl
                                                have hFc := va_free (wc := [(h1, .inr (0, [.int (nI ((((0 + 1) + 1) + 1) + 1)), .int 16510910, .int 0, .ref k, .ref q])), (k, .inl (Z.2 0, 5, .inl f1_78)), (q, .inl (Z.2 0, 5, .inl g1_79))]) hD hS hA [0, 1, 2] rfl
                                                refine va_callv (va_runV (As := [.int (if (if r_86 < 0 then (0 : Int32) else (if 255 < r_86 then (0 : Int32) else (1 : Int32))) = 0 then (-1 : Int32) else (if (102 : Int32) = r_86.toInt8.toInt32 then (0 : Int32) else (if (99 : Int32) = r_86.toInt8.toInt32 then (1 : Int32) else (if (116 : Int32) = r_86.toInt8.toInt32 then (2 : Int32) else (if (119 : Int32) = r_86.toInt8.toInt32 then (3 : Int32) else (-1 : Int32)))))), .int r_93]) (rest := []) ⟨hx, hb, hml, hown, hts⟩ (c_X0_add l Z H.size h1 ((((0 + 1) + 1) + 1) + 1) 16510910 0 k q f1_78 g1_79 (if (if r_86 < 0 then (0 : Int32) else (if 255 < r_86 then (0 : Int32) else (1 : Int32))) = 0 then (-1 : Int32) else (if (102 : Int32) = r_86.toInt8.toInt32 then (0 : Int32) else (if (99 : Int32) = r_86.toInt8.toInt32 then (1 : Int32) else (if (116 : Int32) = r_86.toInt8.toInt32 then (2 : Int32) else (if (119 : Int32) = r_86.toInt8.toInt32 then (3 : Int32) else (-1 : Int32)))))) r_93 (by omega)) (cwV 2 hts gX5_readFolk_X0_add rfl rfl rfl (by decide +kernel) ⟨Nat.le_of_ble_eq_true rfl, Nat.le_of_ble_eq_true rfl⟩) ⟨fun a U g mk q => by obtain ⟨q0, q1, qP, qK, qD⟩ := q; exact ⟨q0, q1, qP, va_K.moved (u := U) (U := U.calling g mk a) (Vm.Alike.refl U.vm) qK, qD⟩, va_recv hK hPc (ci := 0) (q0 := 0) rfl rfl, fun U hU hW => ⟨rfl, by rw [hU], by rw [hU]; exact hPc, va_K.moved hW.alike hK, hDc.weaken (fun _ _ _ _ => trivial)⟩⟩ rfl rfl hl.1 rfl (lv_room (Nat.le_of_ble_eq_true rfl)) dX5_readFolk_86 ⟨Nat.le_of_ble_eq_true rfl, Nat.le_of_ble_eq_true rfl⟩) hS (fun q _ h => hFc q h) hFc (fun u t9 H1 locs ht hvm hw hB hz1 hk1 hS => ?_)
                                                obtain ⟨f1_99, g1_100⟩ := u
                                                try dsimp only at hw hB
                                                obtain ⟨hP1, hD1⟩ := hB
                                                rw [ht] at hP1
                                                obtain ⟨hP, hD⟩ := va_join (wr := [(h0, .inr (5, [.int (nI n), .int (nI p1_94), .ref tk])), (tk, .inl (Z.2 1, 80, .inl f))]) (w1 := [(h1, .inr (0, [.int (nI (((((0 + 1) + 1) + 1) + 1) + 1)), .int 16510910, .int 0, .ref k, .ref q])), (k, .inl (Z.2 0, 5, .inl f1_99)), (q, .inl (Z.2 0, 5, .inl g1_100))]) hP hD [0, 1, 2] [3, 4] rfl rfl (by decide) (by decide) hk1 hFc hP1 hD1
                                                clear hPc hDc hP1 hD1 hk1 hz1 hFc ht hvm
                                                generalize H1 = H at hP hS ⊢
                                                have hP : va_P Z.1 vwCl [(h0, .inr (5, [.int (nI n), .int (nI p1_94), .ref tk])), (tk, .inl (Z.2 1, 80, .inl f)), (h1, .inr (0, [.int (nI (((((0 + 1) + 1) + 1) + 1) + 1)), .int 16510910, .int 0, .ref k, .ref q])), (k, .inl (Z.2 0, 5, .inl f1_99)), (q, .inl (Z.2 0, 5, .inl g1_100))] H := hP
                                                have hD : va_D A [(h0, .inr (5, [.int (nI n), .int (nI p1_94), .ref tk])), (tk, .inl (Z.2 1, 80, .inl f)), (h1, .inr (0, [.int (nI (((((0 + 1) + 1) + 1) + 1) + 1)), .int 16510910, .int 0, .ref k, .ref q])), (k, .inl (Z.2 0, 5, .inl f1_99)), (q, .inl (Z.2 0, 5, .inl g1_100))] := hD
                                                refine lv_aload_n hx hb dX5_readFolk_89 rfl (lv_at hl 5 rfl) ?_
                                                have hPc := hP.sub (ws' := [(h0, .inr (5, [.int (nI n), .int (nI p1_94), .ref tk])), (tk, .inl (Z.2 1, 80, .inl f))]) [0, 1] rfl
                                                have hDc := hD.sub (ws' := [(h0, .inr (5, [.int (nI n), .int (nI p1_94), .ref tk])), (tk, .inl (Z.2 1, 80, .inl f))]) [0, 1] (by decide) rfl
                                                have hFc := va_free (wc := [(h0, .inr (5, [.int (nI n), .int (nI p1_94), .ref tk])), (tk, .inl (Z.2 1, 80, .inl f))]) hD hS hA [0, 1] rfl
                                                refine va_calli (va_runV (As := []) (rest := []) ⟨hx, hb, hml, hown, hts⟩ (c_X5_look l Z H.size h0 tk n p1_94 f (hn) (by omega) (hc)) (cwV 0 hts gX5_readFolk_X5_look rfl rfl rfl (by decide +kernel) ⟨Nat.le_of_ble_eq_true rfl, Nat.le_of_ble_eq_true rfl⟩) ⟨fun a U g mk q => by obtain ⟨q0, q1, qP, qK, qD⟩ := q; exact ⟨q0, q1, qP, va_K.moved (u := U) (U := U.calling g mk a) (Vm.Alike.refl U.vm) qK, qD⟩, va_recv hK hPc (ci := 5) (q0 := 0) rfl rfl, fun U hU hW => ⟨rfl, by rw [hU], by rw [hU]; exact hPc, va_K.moved hW.alike hK, hDc.weaken (fun _ _ _ _ => trivial)⟩⟩ rfl rfl hl.1 rfl (lv_room (Nat.le_of_ble_eq_true rfl)) dX5_readFolk_90 ⟨Nat.le_of_ble_eq_true rfl, Nat.le_of_ble_eq_true rfl⟩) hS (fun q _ h => hFc q h) hFc (fun r_101 u t9 H1 locs ht hvm hw hB hz1 hk1 hS => ?_)
                                                obtain ⟨p1_102, rfl⟩ : ∃ z, z = u := ⟨_, rfl⟩
                                                try dsimp only at hw hB
                                                have hwr_101 := hw
                                                obtain ⟨hP1, hD1⟩ := hB
                                                rw [ht] at hP1
                                                obtain ⟨hP, hD⟩ := va_join (wr := [(h1, .inr (0, [.int (nI (((((0 + 1) + 1) + 1) + 1) + 1)), .int 16510910, .int 0, .ref k, .ref q])), (k, .inl (Z.2 0, 5, .inl f1_99)), (q, .inl (Z.2 0, 5, .inl g1_100))]) (w1 := [(h0, .inr (5, [.int (nI n), .int (nI p1_102), .ref tk])), (tk, .inl (Z.2 1, 80, .inl f))]) hP hD [0, 1] [2, 3, 4] rfl rfl (by decide) (by decide) hk1 hFc hP1 hD1
                                                clear hPc hDc hP1 hD1 hk1 hz1 hFc ht hvm
                                                generalize H1 = H at hP hS ⊢
                                                have hP : va_P Z.1 vwCl [(h1, .inr (0, [.int (nI (((((0 + 1) + 1) + 1) + 1) + 1)), .int 16510910, .int 0, .ref k, .ref q])), (k, .inl (Z.2 0, 5, .inl f1_99)), (q, .inl (Z.2 0, 5, .inl g1_100)), (h0, .inr (5, [.int (nI n), .int (nI p1_102), .ref tk])), (tk, .inl (Z.2 1, 80, .inl f))] H := hP
                                                have hD : va_D A [(h1, .inr (0, [.int (nI (((((0 + 1) + 1) + 1) + 1) + 1)), .int 16510910, .int 0, .ref k, .ref q])), (k, .inl (Z.2 0, 5, .inl f1_99)), (q, .inl (Z.2 0, 5, .inl g1_100)), (h0, .inr (5, [.int (nI n), .int (nI p1_102), .ref tk])), (tk, .inl (Z.2 1, 80, .inl f))] := hD
                                                refine lv_istore (lv' := [(6, .int r_101), (5, .int r_93), (4, .int (nI p1_92)), (3, .int (if (if r_86 < 0 then (0 : Int32) else (if 255 < r_86 then (0 : Int32) else (1 : Int32))) = 0 then (-1 : Int32) else (if (102 : Int32) = r_86.toInt8.toInt32 then (0 : Int32) else (if (99 : Int32) = r_86.toInt8.toInt32 then (1 : Int32) else (if (116 : Int32) = r_86.toInt8.toInt32 then (2 : Int32) else (if (119 : Int32) = r_86.toInt8.toInt32 then (3 : Int32) else (-1 : Int32))))))), (2, .int 0), (0, .ref h0), (1, .ref h1)]) hx hb dX5_readFolk_93 hl (by decide) rfl (fun ls hl => ?_)
                                                refine lv_iload hx hb dX5_readFolk_95 (lv_at hl 0 rfl) ?_
                                                refine lv_if_ne (tgt := 105) hx hb dX5_readFolk_97 (by decide) (fun c_103 => ?_) (fun c_103 => ?_)
                                                · refine lv_iload hx hb dX5_readFolk_105 (lv_at hl 0 rfl) ?_
                                                  refine lv_bipush (v := 44) hx hb dX5_readFolk_107 (by decide) ?_
                                                  refine lv_icmp_ne (tgt := 116) hx hb dX5_readFolk_109 (by decide) (fun c_104 => ?_) (fun c_104 => ?_)
                                                  · refine lv_aload_n hx hb dX5_readFolk_116 rfl (lv_at hl 5 rfl) ?_
                                                    refine va_get (D := Z.1) (ci := 5) (v := .int (nI p1_102)) (C := RX5) (T := TX5) (N := 3) hx hb hts hin5 hown hK hP 3 rfl rfl 1 (by decide) (hts (.fieldLink RX5 15 "HalfAsked$Tape" "at" "I") (by decide +kernel)) (fun _ h9 => h9) rfl dX5_readFolk_117 ?_
                                                    have hPc := hP.sub (ws' := []) [] rfl
                                                    have hDc := hD.sub (ws' := []) [] (by decide) rfl
                                                    have hFc := va_free (wc := []) hD hS hA [] rfl
                                                    refine va_calli (va_runS (As := [.int (nI p1_102)]) (rest := []) ⟨hx, hb, hml, hown, hts⟩ (c_X5_fault l Z H.size (nI p1_102)) (va_cwS 1 hts gX5_readFolk_X5_fault rfl rfl rfl (by decide +kernel) ⟨Nat.le_of_ble_eq_true rfl, Nat.le_of_ble_eq_true rfl⟩) ⟨fun a U g mk q => by obtain ⟨q0, q1, qP, qK, qD⟩ := q; exact ⟨q0, q1, qP, va_K.moved (u := U) (U := U.calling g mk a) (Vm.Alike.refl U.vm) qK, qD⟩, fun U hU hW => ⟨rfl, by rw [hU], by rw [hU]; exact hPc, va_K.moved hW.alike hK, hDc.weaken (fun _ _ _ _ => trivial)⟩⟩ rfl rfl hl.1 rfl (lv_room (Nat.le_of_ble_eq_true rfl)) dX5_readFolk_120 ⟨Nat.le_of_ble_eq_true rfl, Nat.le_of_ble_eq_true rfl⟩) hS (fun q _ h => hFc q h) hFc (fun r_105 u t9 H1 locs ht hvm hw hB hz1 hk1 hS => ?_)
                                                    subst hw
                                                    have hP1 : va_P Z.1 vwCl [] H1 := fun k q h => by simp at h
                                                    have hD1 : va_D (va_A [] H.size) [] := ⟨fun i j p q h => by simp at h, fun k q h => by simp at h⟩
                                                    obtain ⟨hP, hD⟩ := va_join (wr := [(h1, .inr (0, [.int (nI (((((0 + 1) + 1) + 1) + 1) + 1)), .int 16510910, .int 0, .ref k, .ref q])), (k, .inl (Z.2 0, 5, .inl f1_99)), (q, .inl (Z.2 0, 5, .inl g1_100)), (h0, .inr (5, [.int (nI n), .int (nI p1_102), .ref tk])), (tk, .inl (Z.2 1, 80, .inl f))]) (w1 := []) hP hD [] [0, 1, 2, 3, 4] rfl rfl (by decide) (by decide) hk1 hFc hP1 hD1
                                                    clear hPc hDc hP1 hD1 hk1 hz1 hFc ht hvm
                                                    generalize H1 = H at hP hS ⊢
                                                    have hP : va_P Z.1 vwCl [(h1, .inr (0, [.int (nI (((((0 + 1) + 1) + 1) + 1) + 1)), .int 16510910, .int 0, .ref k, .ref q])), (k, .inl (Z.2 0, 5, .inl f1_99)), (q, .inl (Z.2 0, 5, .inl g1_100)), (h0, .inr (5, [.int (nI n), .int (nI p1_102), .ref tk])), (tk, .inl (Z.2 1, 80, .inl f))] H := hP
                                                    have hD : va_D A [(h1, .inr (0, [.int (nI (((((0 + 1) + 1) + 1) + 1) + 1)), .int 16510910, .int 0, .ref k, .ref q])), (k, .inl (Z.2 0, 5, .inl f1_99)), (q, .inl (Z.2 0, 5, .inl g1_100)), (h0, .inr (5, [.int (nI n), .int (nI p1_102), .ref tk])), (tk, .inl (Z.2 1, 80, .inl f))] := hD
                                                    have hP9 := hP.sub (ws' := [(h0, .inr (5, [.int (nI n), .int (nI p1_102), .ref tk])), (tk, .inl (Z.2 1, 80, .inl f)), (h1, .inr (0, [.int (nI (((((0 + 1) + 1) + 1) + 1) + 1)), .int 16510910, .int 0, .ref k, .ref q])), (k, .inl (Z.2 0, 5, .inl f1_99)), (q, .inl (Z.2 0, 5, .inl g1_100))]) [3, 4, 0, 1, 2] rfl
                                                    have hD9 := hD.sub (ws' := [(h0, .inr (5, [.int (nI n), .int (nI p1_102), .ref tk])), (tk, .inl (Z.2 1, 80, .inl f)), (h1, .inr (0, [.int (nI (((((0 + 1) + 1) + 1) + 1) + 1)), .int 16510910, .int 0, .ref k, .ref q])), (k, .inl (Z.2 0, 5, .inl f1_99)), (q, .inl (Z.2 0, 5, .inl g1_100))]) [3, 4, 0, 1, 2] (by decide) rfl
                                                    exact W.iret (v := ((-20) - (nI p1_102))) hx hb hr (fun t9 ht hW => ⟨⟨(-20) - (nI p1_102), (p1_102, (((((0 + 1) + 1) + 1) + 1) + 1), f1_99, g1_100), rfl, ⟨by omega, by omega⟩, by rw [ht]; exact hP9, hD9⟩, hS.F ht⟩) hS.2.2 dX5_readFolk_123
                                                  · refine lv_iload_n hx hb dX5_readFolk_112 rfl (lv_at hl 4 rfl) ?_
                                                    refine lv_if_ne (tgt := 124) hx hb dX5_readFolk_113 (by decide) (fun c9 => absurd c9 (by decide)) (fun _ => ?_)
                                                    refine lv_aload_n hx hb dX5_readFolk_116 rfl (lv_at hl 5 rfl) ?_
                                                    refine va_get (D := Z.1) (ci := 5) (v := .int (nI p1_102)) (C := RX5) (T := TX5) (N := 3) hx hb hts hin5 hown hK hP 3 rfl rfl 1 (by decide) (hts (.fieldLink RX5 15 "HalfAsked$Tape" "at" "I") (by decide +kernel)) (fun _ h9 => h9) rfl dX5_readFolk_117 ?_
                                                    have hPc := hP.sub (ws' := []) [] rfl
                                                    have hDc := hD.sub (ws' := []) [] (by decide) rfl
                                                    have hFc := va_free (wc := []) hD hS hA [] rfl
                                                    refine va_calli (va_runS (As := [.int (nI p1_102)]) (rest := []) ⟨hx, hb, hml, hown, hts⟩ (c_X5_fault l Z H.size (nI p1_102)) (va_cwS 1 hts gX5_readFolk_X5_fault rfl rfl rfl (by decide +kernel) ⟨Nat.le_of_ble_eq_true rfl, Nat.le_of_ble_eq_true rfl⟩) ⟨fun a U g mk q => by obtain ⟨q0, q1, qP, qK, qD⟩ := q; exact ⟨q0, q1, qP, va_K.moved (u := U) (U := U.calling g mk a) (Vm.Alike.refl U.vm) qK, qD⟩, fun U hU hW => ⟨rfl, by rw [hU], by rw [hU]; exact hPc, va_K.moved hW.alike hK, hDc.weaken (fun _ _ _ _ => trivial)⟩⟩ rfl rfl hl.1 rfl (lv_room (Nat.le_of_ble_eq_true rfl)) dX5_readFolk_120 ⟨Nat.le_of_ble_eq_true rfl, Nat.le_of_ble_eq_true rfl⟩) hS (fun q _ h => hFc q h) hFc (fun r_106 u t9 H1 locs ht hvm hw hB hz1 hk1 hS => ?_)
                                                    subst hw
                                                    have hP1 : va_P Z.1 vwCl [] H1 := fun k q h => by simp at h
                                                    have hD1 : va_D (va_A [] H.size) [] := ⟨fun i j p q h => by simp at h, fun k q h => by simp at h⟩
                                                    obtain ⟨hP, hD⟩ := va_join (wr := [(h1, .inr (0, [.int (nI (((((0 + 1) + 1) + 1) + 1) + 1)), .int 16510910, .int 0, .ref k, .ref q])), (k, .inl (Z.2 0, 5, .inl f1_99)), (q, .inl (Z.2 0, 5, .inl g1_100)), (h0, .inr (5, [.int (nI n), .int (nI p1_102), .ref tk])), (tk, .inl (Z.2 1, 80, .inl f))]) (w1 := []) hP hD [] [0, 1, 2, 3, 4] rfl rfl (by decide) (by decide) hk1 hFc hP1 hD1
                                                    clear hPc hDc hP1 hD1 hk1 hz1 hFc ht hvm
                                                    generalize H1 = H at hP hS ⊢
                                                    have hP : va_P Z.1 vwCl [(h1, .inr (0, [.int (nI (((((0 + 1) + 1) + 1) + 1) + 1)), .int 16510910, .int 0, .ref k, .ref q])), (k, .inl (Z.2 0, 5, .inl f1_99)), (q, .inl (Z.2 0, 5, .inl g1_100)), (h0, .inr (5, [.int (nI n), .int (nI p1_102), .ref tk])), (tk, .inl (Z.2 1, 80, .inl f))] H := hP
                                                    have hD : va_D A [(h1, .inr (0, [.int (nI (((((0 + 1) + 1) + 1) + 1) + 1)), .int 16510910, .int 0, .ref k, .ref q])), (k, .inl (Z.2 0, 5, .inl f1_99)), (q, .inl (Z.2 0, 5, .inl g1_100)), (h0, .inr (5, [.int (nI n), .int (nI p1_102), .ref tk])), (tk, .inl (Z.2 1, 80, .inl f))] := hD
                                                    have hP9 := hP.sub (ws' := [(h0, .inr (5, [.int (nI n), .int (nI p1_102), .ref tk])), (tk, .inl (Z.2 1, 80, .inl f)), (h1, .inr (0, [.int (nI (((((0 + 1) + 1) + 1) + 1) + 1)), .int 16510910, .int 0, .ref k, .ref q])), (k, .inl (Z.2 0, 5, .inl f1_99)), (q, .inl (Z.2 0, 5, .inl g1_100))]) [3, 4, 0, 1, 2] rfl
                                                    have hD9 := hD.sub (ws' := [(h0, .inr (5, [.int (nI n), .int (nI p1_102), .ref tk])), (tk, .inl (Z.2 1, 80, .inl f)), (h1, .inr (0, [.int (nI (((((0 + 1) + 1) + 1) + 1) + 1)), .int 16510910, .int 0, .ref k, .ref q])), (k, .inl (Z.2 0, 5, .inl f1_99)), (q, .inl (Z.2 0, 5, .inl g1_100))]) [3, 4, 0, 1, 2] (by decide) rfl
                                                    exact W.iret (v := ((-20) - (nI p1_102))) hx hb hr (fun t9 ht hW => ⟨⟨(-20) - (nI p1_102), (p1_102, (((((0 + 1) + 1) + 1) + 1) + 1), f1_99, g1_100), rfl, ⟨by omega, by omega⟩, by rw [ht]; exact hP9, hD9⟩, hS.F ht⟩) hS.2.2 dX5_readFolk_123
                                                · refine lv_aload_n hx hb dX5_readFolk_100 rfl (lv_at hl 6 rfl) ?_
                                                  refine va_get (D := Z.1) (ci := 0) (v := .int (nI (((((0 + 1) + 1) + 1) + 1) + 1))) (C := RX0) (T := TX0) (N := 5) hx hb hts hin0 hown hK hP 0 rfl rfl 0 (by decide) (hts (.fieldLink RX5 59 "HalfAsked$Folk" "size" "I") (by decide +kernel)) (fun _ h9 => h9) rfl dX5_readFolk_101 ?_
                                                  have hP9 := hP.sub (ws' := [(h0, .inr (5, [.int (nI n), .int (nI p1_102), .ref tk])), (tk, .inl (Z.2 1, 80, .inl f)), (h1, .inr (0, [.int (nI (((((0 + 1) + 1) + 1) + 1) + 1)), .int 16510910, .int 0, .ref k, .ref q])), (k, .inl (Z.2 0, 5, .inl f1_99)), (q, .inl (Z.2 0, 5, .inl g1_100))]) [3, 4, 0, 1, 2] rfl
                                                  have hD9 := hD.sub (ws' := [(h0, .inr (5, [.int (nI n), .int (nI p1_102), .ref tk])), (tk, .inl (Z.2 1, 80, .inl f)), (h1, .inr (0, [.int (nI (((((0 + 1) + 1) + 1) + 1) + 1)), .int 16510910, .int 0, .ref k, .ref q])), (k, .inl (Z.2 0, 5, .inl f1_99)), (q, .inl (Z.2 0, 5, .inl g1_100))]) [3, 4, 0, 1, 2] (by decide) rfl
                                                  exact W.iret (v := (nI (((((0 + 1) + 1) + 1) + 1) + 1))) hx hb hr (fun t9 ht hW => ⟨⟨nI (((((0 + 1) + 1) + 1) + 1) + 1), (p1_102, (((((0 + 1) + 1) + 1) + 1) + 1), f1_99, g1_100), rfl, ⟨by omega, by omega⟩, by rw [ht]; exact hP9, hD9⟩, hS.F ht⟩) hS.2.2 dX5_readFolk_104
                                              · refine lv_iload hx hb dX5_readFolk_76 (lv_at hl 1 rfl) ?_
                                                have hPc := hP.sub (ws' := []) [] rfl
                                                have hDc := hD.sub (ws' := []) [] (by decide) rfl
                                                have hFc := va_free (wc := []) hD hS hA [] rfl
                                                refine va_calli (va_runS (As := [.int (nI p1_92)]) (rest := []) ⟨hx, hb, hml, hown, hts⟩ (c_X5_fault l Z H.size (nI p1_92)) (va_cwS 1 hts gX5_readFolk_X5_fault rfl rfl rfl (by decide +kernel) ⟨Nat.le_of_ble_eq_true rfl, Nat.le_of_ble_eq_true rfl⟩) ⟨fun a U g mk q => by obtain ⟨q0, q1, qP, qK, qD⟩ := q; exact ⟨q0, q1, qP, va_K.moved (u := U) (U := U.calling g mk a) (Vm.Alike.refl U.vm) qK, qD⟩, fun U hU hW => ⟨rfl, by rw [hU], by rw [hU]; exact hPc, va_K.moved hW.alike hK, hDc.weaken (fun _ _ _ _ => trivial)⟩⟩ rfl rfl hl.1 rfl (lv_room (Nat.le_of_ble_eq_true rfl)) dX5_readFolk_78 ⟨Nat.le_of_ble_eq_true rfl, Nat.le_of_ble_eq_true rfl⟩) hS (fun q _ h => hFc q h) hFc (fun r_107 u t9 H1 locs ht hvm hw hB hz1 hk1 hS => ?_)
                                                subst hw
                                                have hP1 : va_P Z.1 vwCl [] H1 := fun k q h => by simp at h
                                                have hD1 : va_D (va_A [] H.size) [] := ⟨fun i j p q h => by simp at h, fun k q h => by simp at h⟩
                                                obtain ⟨hP, hD⟩ := va_join (wr := [(h1, .inr (0, [.int (nI ((((0 + 1) + 1) + 1) + 1)), .int 16510910, .int 0, .ref k, .ref q])), (k, .inl (Z.2 0, 5, .inl f1_78)), (q, .inl (Z.2 0, 5, .inl g1_79)), (h0, .inr (5, [.int (nI n), .int (nI p1_94), .ref tk])), (tk, .inl (Z.2 1, 80, .inl f))]) (w1 := []) hP hD [] [0, 1, 2, 3, 4] rfl rfl (by decide) (by decide) hk1 hFc hP1 hD1
                                                clear hPc hDc hP1 hD1 hk1 hz1 hFc ht hvm
                                                generalize H1 = H at hP hS ⊢
                                                have hP : va_P Z.1 vwCl [(h1, .inr (0, [.int (nI ((((0 + 1) + 1) + 1) + 1)), .int 16510910, .int 0, .ref k, .ref q])), (k, .inl (Z.2 0, 5, .inl f1_78)), (q, .inl (Z.2 0, 5, .inl g1_79)), (h0, .inr (5, [.int (nI n), .int (nI p1_94), .ref tk])), (tk, .inl (Z.2 1, 80, .inl f))] H := hP
                                                have hD : va_D A [(h1, .inr (0, [.int (nI ((((0 + 1) + 1) + 1) + 1)), .int 16510910, .int 0, .ref k, .ref q])), (k, .inl (Z.2 0, 5, .inl f1_78)), (q, .inl (Z.2 0, 5, .inl g1_79)), (h0, .inr (5, [.int (nI n), .int (nI p1_94), .ref tk])), (tk, .inl (Z.2 1, 80, .inl f))] := hD
                                                have hP9 := hP.sub (ws' := [(h0, .inr (5, [.int (nI n), .int (nI p1_94), .ref tk])), (tk, .inl (Z.2 1, 80, .inl f)), (h1, .inr (0, [.int (nI ((((0 + 1) + 1) + 1) + 1)), .int 16510910, .int 0, .ref k, .ref q])), (k, .inl (Z.2 0, 5, .inl f1_78)), (q, .inl (Z.2 0, 5, .inl g1_79))]) [3, 4, 0, 1, 2] rfl
                                                have hD9 := hD.sub (ws' := [(h0, .inr (5, [.int (nI n), .int (nI p1_94), .ref tk])), (tk, .inl (Z.2 1, 80, .inl f)), (h1, .inr (0, [.int (nI ((((0 + 1) + 1) + 1) + 1)), .int 16510910, .int 0, .ref k, .ref q])), (k, .inl (Z.2 0, 5, .inl f1_78)), (q, .inl (Z.2 0, 5, .inl g1_79))]) [3, 4, 0, 1, 2] (by decide) rfl
                                                exact W.iret (v := ((-20) - (nI p1_92))) hx hb hr (fun t9 ht hW => ⟨⟨(-20) - (nI p1_92), (p1_94, ((((0 + 1) + 1) + 1) + 1), f1_78, g1_79), rfl, ⟨by omega, by omega⟩, by rw [ht]; exact hP9, hD9⟩, hS.F ht⟩) hS.2.2 dX5_readFolk_81
                                          · refine lv_aload_n hx hb dX5_readFolk_29 rfl (lv_at hl 5 rfl) ?_
                                            refine va_get (D := Z.1) (ci := 5) (v := .int (nI p1_87)) (C := RX5) (T := TX5) (N := 3) hx hb hts hin5 hown hK hP 3 rfl rfl 1 (by decide) (hts (.fieldLink RX5 15 "HalfAsked$Tape" "at" "I") (by decide +kernel)) (fun _ h9 => h9) rfl dX5_readFolk_30 ?_
                                            have hPc := hP.sub (ws' := []) [] rfl
                                            have hDc := hD.sub (ws' := []) [] (by decide) rfl
                                            have hFc := va_free (wc := []) hD hS hA [] rfl
                                            refine va_calli (va_runS (As := [.int (nI p1_87)]) (rest := []) ⟨hx, hb, hml, hown, hts⟩ (c_X5_fault l Z H.size (nI p1_87)) (va_cwS 1 hts gX5_readFolk_X5_fault rfl rfl rfl (by decide +kernel) ⟨Nat.le_of_ble_eq_true rfl, Nat.le_of_ble_eq_true rfl⟩) ⟨fun a U g mk q => by obtain ⟨q0, q1, qP, qK, qD⟩ := q; exact ⟨q0, q1, qP, va_K.moved (u := U) (U := U.calling g mk a) (Vm.Alike.refl U.vm) qK, qD⟩, fun U hU hW => ⟨rfl, by rw [hU], by rw [hU]; exact hPc, va_K.moved hW.alike hK, hDc.weaken (fun _ _ _ _ => trivial)⟩⟩ rfl rfl hl.1 rfl (lv_room (Nat.le_of_ble_eq_true rfl)) dX5_readFolk_33 ⟨Nat.le_of_ble_eq_true rfl, Nat.le_of_ble_eq_true rfl⟩) hS (fun q _ h => hFc q h) hFc (fun r_108 u t9 H1 locs ht hvm hw hB hz1 hk1 hS => ?_)
                                            subst hw
                                            have hP1 : va_P Z.1 vwCl [] H1 := fun k q h => by simp at h
                                            have hD1 : va_D (va_A [] H.size) [] := ⟨fun i j p q h => by simp at h, fun k q h => by simp at h⟩
                                            obtain ⟨hP, hD⟩ := va_join (wr := [(h1, .inr (0, [.int (nI ((((0 + 1) + 1) + 1) + 1)), .int 16510910, .int 0, .ref k, .ref q])), (k, .inl (Z.2 0, 5, .inl f1_78)), (q, .inl (Z.2 0, 5, .inl g1_79)), (h0, .inr (5, [.int (nI n), .int (nI p1_87), .ref tk])), (tk, .inl (Z.2 1, 80, .inl f))]) (w1 := []) hP hD [] [0, 1, 2, 3, 4] rfl rfl (by decide) (by decide) hk1 hFc hP1 hD1
                                            clear hPc hDc hP1 hD1 hk1 hz1 hFc ht hvm
                                            generalize H1 = H at hP hS ⊢
                                            have hP : va_P Z.1 vwCl [(h1, .inr (0, [.int (nI ((((0 + 1) + 1) + 1) + 1)), .int 16510910, .int 0, .ref k, .ref q])), (k, .inl (Z.2 0, 5, .inl f1_78)), (q, .inl (Z.2 0, 5, .inl g1_79)), (h0, .inr (5, [.int (nI n), .int (nI p1_87), .ref tk])), (tk, .inl (Z.2 1, 80, .inl f))] H := hP
                                            have hD : va_D A [(h1, .inr (0, [.int (nI ((((0 + 1) + 1) + 1) + 1)), .int 16510910, .int 0, .ref k, .ref q])), (k, .inl (Z.2 0, 5, .inl f1_78)), (q, .inl (Z.2 0, 5, .inl g1_79)), (h0, .inr (5, [.int (nI n), .int (nI p1_87), .ref tk])), (tk, .inl (Z.2 1, 80, .inl f))] := hD
                                            have hP9 := hP.sub (ws' := [(h0, .inr (5, [.int (nI n), .int (nI p1_87), .ref tk])), (tk, .inl (Z.2 1, 80, .inl f)), (h1, .inr (0, [.int (nI ((((0 + 1) + 1) + 1) + 1)), .int 16510910, .int 0, .ref k, .ref q])), (k, .inl (Z.2 0, 5, .inl f1_78)), (q, .inl (Z.2 0, 5, .inl g1_79))]) [3, 4, 0, 1, 2] rfl
                                            have hD9 := hD.sub (ws' := [(h0, .inr (5, [.int (nI n), .int (nI p1_87), .ref tk])), (tk, .inl (Z.2 1, 80, .inl f)), (h1, .inr (0, [.int (nI ((((0 + 1) + 1) + 1) + 1)), .int 16510910, .int 0, .ref k, .ref q])), (k, .inl (Z.2 0, 5, .inl f1_78)), (q, .inl (Z.2 0, 5, .inl g1_79))]) [3, 4, 0, 1, 2] (by decide) rfl
                                            exact W.iret (v := ((-20) - (nI p1_87))) hx hb hr (fun t9 ht hW => ⟨⟨(-20) - (nI p1_87), (p1_87, ((((0 + 1) + 1) + 1) + 1), f1_78, g1_79), rfl, ⟨by omega, by omega⟩, by rw [ht]; exact hP9, hD9⟩, hS.F ht⟩) hS.2.2 dX5_readFolk_36
                                      · refine lv_aload_n hx hb dX5_readFolk_100 rfl (lv_at hl 6 rfl) ?_
                                        refine va_get (D := Z.1) (ci := 0) (v := .int (nI ((((0 + 1) + 1) + 1) + 1))) (C := RX0) (T := TX0) (N := 5) hx hb hts hin0 hown hK hP 0 rfl rfl 0 (by decide) (hts (.fieldLink RX5 59 "HalfAsked$Folk" "size" "I") (by decide +kernel)) (fun _ h9 => h9) rfl dX5_readFolk_101 ?_
                                        have hP9 := hP.sub (ws' := [(h0, .inr (5, [.int (nI n), .int (nI p1_81), .ref tk])), (tk, .inl (Z.2 1, 80, .inl f)), (h1, .inr (0, [.int (nI ((((0 + 1) + 1) + 1) + 1)), .int 16510910, .int 0, .ref k, .ref q])), (k, .inl (Z.2 0, 5, .inl f1_78)), (q, .inl (Z.2 0, 5, .inl g1_79))]) [3, 4, 0, 1, 2] rfl
                                        have hD9 := hD.sub (ws' := [(h0, .inr (5, [.int (nI n), .int (nI p1_81), .ref tk])), (tk, .inl (Z.2 1, 80, .inl f)), (h1, .inr (0, [.int (nI ((((0 + 1) + 1) + 1) + 1)), .int 16510910, .int 0, .ref k, .ref q])), (k, .inl (Z.2 0, 5, .inl f1_78)), (q, .inl (Z.2 0, 5, .inl g1_79))]) [3, 4, 0, 1, 2] (by decide) rfl
                                        exact W.iret (v := (nI ((((0 + 1) + 1) + 1) + 1))) hx hb hr (fun t9 ht hW => ⟨⟨nI ((((0 + 1) + 1) + 1) + 1), (p1_81, ((((0 + 1) + 1) + 1) + 1), f1_78, g1_79), rfl, ⟨by omega, by omega⟩, by rw [ht]; exact hP9, hD9⟩, hS.F ht⟩) hS.2.2 dX5_readFolk_104
                                    · refine lv_iload hx hb dX5_readFolk_76 (lv_at hl 1 rfl) ?_
                                      have hPc := hP.sub (ws' := []) [] rfl
                                      have hDc := hD.sub (ws' := []) [] (by decide) rfl
                                      have hFc := va_free (wc := []) hD hS hA [] rfl
                                      refine va_calli (va_runS (As := [.int (nI p1_71)]) (rest := []) ⟨hx, hb, hml, hown, hts⟩ (c_X5_fault l Z H.size (nI p1_71)) (va_cwS 1 hts gX5_readFolk_X5_fault rfl rfl rfl (by decide +kernel) ⟨Nat.le_of_ble_eq_true rfl, Nat.le_of_ble_eq_true rfl⟩) ⟨fun a U g mk q => by obtain ⟨q0, q1, qP, qK, qD⟩ := q; exact ⟨q0, q1, qP, va_K.moved (u := U) (U := U.calling g mk a) (Vm.Alike.refl U.vm) qK, qD⟩, fun U hU hW => ⟨rfl, by rw [hU], by rw [hU]; exact hPc, va_K.moved hW.alike hK, hDc.weaken (fun _ _ _ _ => trivial)⟩⟩ rfl rfl hl.1 rfl (lv_room (Nat.le_of_ble_eq_true rfl)) dX5_readFolk_78 ⟨Nat.le_of_ble_eq_true rfl, Nat.le_of_ble_eq_true rfl⟩) hS (fun q _ h => hFc q h) hFc (fun r_109 u t9 H1 locs ht hvm hw hB hz1 hk1 hS => ?_)
                                      subst hw
                                      have hP1 : va_P Z.1 vwCl [] H1 := fun k q h => by simp at h
                                      have hD1 : va_D (va_A [] H.size) [] := ⟨fun i j p q h => by simp at h, fun k q h => by simp at h⟩
                                      obtain ⟨hP, hD⟩ := va_join (wr := [(h1, .inr (0, [.int (nI (((0 + 1) + 1) + 1)), .int 16510910, .int 0, .ref k, .ref q])), (k, .inl (Z.2 0, 5, .inl f1_57)), (q, .inl (Z.2 0, 5, .inl g1_58)), (h0, .inr (5, [.int (nI n), .int (nI p1_73), .ref tk])), (tk, .inl (Z.2 1, 80, .inl f))]) (w1 := []) hP hD [] [0, 1, 2, 3, 4] rfl rfl (by decide) (by decide) hk1 hFc hP1 hD1
                                      clear hPc hDc hP1 hD1 hk1 hz1 hFc ht hvm
                                      generalize H1 = H at hP hS ⊢
                                      have hP : va_P Z.1 vwCl [(h1, .inr (0, [.int (nI (((0 + 1) + 1) + 1)), .int 16510910, .int 0, .ref k, .ref q])), (k, .inl (Z.2 0, 5, .inl f1_57)), (q, .inl (Z.2 0, 5, .inl g1_58)), (h0, .inr (5, [.int (nI n), .int (nI p1_73), .ref tk])), (tk, .inl (Z.2 1, 80, .inl f))] H := hP
                                      have hD : va_D A [(h1, .inr (0, [.int (nI (((0 + 1) + 1) + 1)), .int 16510910, .int 0, .ref k, .ref q])), (k, .inl (Z.2 0, 5, .inl f1_57)), (q, .inl (Z.2 0, 5, .inl g1_58)), (h0, .inr (5, [.int (nI n), .int (nI p1_73), .ref tk])), (tk, .inl (Z.2 1, 80, .inl f))] := hD
                                      have hP9 := hP.sub (ws' := [(h0, .inr (5, [.int (nI n), .int (nI p1_73), .ref tk])), (tk, .inl (Z.2 1, 80, .inl f)), (h1, .inr (0, [.int (nI (((0 + 1) + 1) + 1)), .int 16510910, .int 0, .ref k, .ref q])), (k, .inl (Z.2 0, 5, .inl f1_57)), (q, .inl (Z.2 0, 5, .inl g1_58))]) [3, 4, 0, 1, 2] rfl
                                      have hD9 := hD.sub (ws' := [(h0, .inr (5, [.int (nI n), .int (nI p1_73), .ref tk])), (tk, .inl (Z.2 1, 80, .inl f)), (h1, .inr (0, [.int (nI (((0 + 1) + 1) + 1)), .int 16510910, .int 0, .ref k, .ref q])), (k, .inl (Z.2 0, 5, .inl f1_57)), (q, .inl (Z.2 0, 5, .inl g1_58))]) [3, 4, 0, 1, 2] (by decide) rfl
                                      exact W.iret (v := ((-20) - (nI p1_71))) hx hb hr (fun t9 ht hW => ⟨⟨(-20) - (nI p1_71), (p1_73, (((0 + 1) + 1) + 1), f1_57, g1_58), rfl, ⟨by omega, by omega⟩, by rw [ht]; exact hP9, hD9⟩, hS.F ht⟩) hS.2.2 dX5_readFolk_81
                                · refine lv_aload_n hx hb dX5_readFolk_29 rfl (lv_at hl 5 rfl) ?_
                                  refine va_get (D := Z.1) (ci := 5) (v := .int (nI p1_66)) (C := RX5) (T := TX5) (N := 3) hx hb hts hin5 hown hK hP 3 rfl rfl 1 (by decide) (hts (.fieldLink RX5 15 "HalfAsked$Tape" "at" "I") (by decide +kernel)) (fun _ h9 => h9) rfl dX5_readFolk_30 ?_
                                  have hPc := hP.sub (ws' := []) [] rfl
                                  have hDc := hD.sub (ws' := []) [] (by decide) rfl
                                  have hFc := va_free (wc := []) hD hS hA [] rfl
                                  refine va_calli (va_runS (As := [.int (nI p1_66)]) (rest := []) ⟨hx, hb, hml, hown, hts⟩ (c_X5_fault l Z H.size (nI p1_66)) (va_cwS 1 hts gX5_readFolk_X5_fault rfl rfl rfl (by decide +kernel) ⟨Nat.le_of_ble_eq_true rfl, Nat.le_of_ble_eq_true rfl⟩) ⟨fun a U g mk q => by obtain ⟨q0, q1, qP, qK, qD⟩ := q; exact ⟨q0, q1, qP, va_K.moved (u := U) (U := U.calling g mk a) (Vm.Alike.refl U.vm) qK, qD⟩, fun U hU hW => ⟨rfl, by rw [hU], by rw [hU]; exact hPc, va_K.moved hW.alike hK, hDc.weaken (fun _ _ _ _ => trivial)⟩⟩ rfl rfl hl.1 rfl (lv_room (Nat.le_of_ble_eq_true rfl)) dX5_readFolk_33 ⟨Nat.le_of_ble_eq_true rfl, Nat.le_of_ble_eq_true rfl⟩) hS (fun q _ h => hFc q h) hFc (fun r_110 u t9 H1 locs ht hvm hw hB hz1 hk1 hS => ?_)
                                  subst hw
                                  have hP1 : va_P Z.1 vwCl [] H1 := fun k q h => by simp at h
                                  have hD1 : va_D (va_A [] H.size) [] := ⟨fun i j p q h => by simp at h, fun k q h => by simp at h⟩
                                  obtain ⟨hP, hD⟩ := va_join (wr := [(h1, .inr (0, [.int (nI (((0 + 1) + 1) + 1)), .int 16510910, .int 0, .ref k, .ref q])), (k, .inl (Z.2 0, 5, .inl f1_57)), (q, .inl (Z.2 0, 5, .inl g1_58)), (h0, .inr (5, [.int (nI n), .int (nI p1_66), .ref tk])), (tk, .inl (Z.2 1, 80, .inl f))]) (w1 := []) hP hD [] [0, 1, 2, 3, 4] rfl rfl (by decide) (by decide) hk1 hFc hP1 hD1
                                  clear hPc hDc hP1 hD1 hk1 hz1 hFc ht hvm
                                  generalize H1 = H at hP hS ⊢
                                  have hP : va_P Z.1 vwCl [(h1, .inr (0, [.int (nI (((0 + 1) + 1) + 1)), .int 16510910, .int 0, .ref k, .ref q])), (k, .inl (Z.2 0, 5, .inl f1_57)), (q, .inl (Z.2 0, 5, .inl g1_58)), (h0, .inr (5, [.int (nI n), .int (nI p1_66), .ref tk])), (tk, .inl (Z.2 1, 80, .inl f))] H := hP
                                  have hD : va_D A [(h1, .inr (0, [.int (nI (((0 + 1) + 1) + 1)), .int 16510910, .int 0, .ref k, .ref q])), (k, .inl (Z.2 0, 5, .inl f1_57)), (q, .inl (Z.2 0, 5, .inl g1_58)), (h0, .inr (5, [.int (nI n), .int (nI p1_66), .ref tk])), (tk, .inl (Z.2 1, 80, .inl f))] := hD
                                  have hP9 := hP.sub (ws' := [(h0, .inr (5, [.int (nI n), .int (nI p1_66), .ref tk])), (tk, .inl (Z.2 1, 80, .inl f)), (h1, .inr (0, [.int (nI (((0 + 1) + 1) + 1)), .int 16510910, .int 0, .ref k, .ref q])), (k, .inl (Z.2 0, 5, .inl f1_57)), (q, .inl (Z.2 0, 5, .inl g1_58))]) [3, 4, 0, 1, 2] rfl
                                  have hD9 := hD.sub (ws' := [(h0, .inr (5, [.int (nI n), .int (nI p1_66), .ref tk])), (tk, .inl (Z.2 1, 80, .inl f)), (h1, .inr (0, [.int (nI (((0 + 1) + 1) + 1)), .int 16510910, .int 0, .ref k, .ref q])), (k, .inl (Z.2 0, 5, .inl f1_57)), (q, .inl (Z.2 0, 5, .inl g1_58))]) [3, 4, 0, 1, 2] (by decide) rfl
                                  exact W.iret (v := ((-20) - (nI p1_66))) hx hb hr (fun t9 ht hW => ⟨⟨(-20) - (nI p1_66), (p1_66, (((0 + 1) + 1) + 1), f1_57, g1_58), rfl, ⟨by omega, by omega⟩, by rw [ht]; exact hP9, hD9⟩, hS.F ht⟩) hS.2.2 dX5_readFolk_36
                            · refine lv_aload_n hx hb dX5_readFolk_100 rfl (lv_at hl 6 rfl) ?_
                              refine va_get (D := Z.1) (ci := 0) (v := .int (nI (((0 + 1) + 1) + 1))) (C := RX0) (T := TX0) (N := 5) hx hb hts hin0 hown hK hP 0 rfl rfl 0 (by decide) (hts (.fieldLink RX5 59 "HalfAsked$Folk" "size" "I") (by decide +kernel)) (fun _ h9 => h9) rfl dX5_readFolk_101 ?_
                              have hP9 := hP.sub (ws' := [(h0, .inr (5, [.int (nI n), .int (nI p1_60), .ref tk])), (tk, .inl (Z.2 1, 80, .inl f)), (h1, .inr (0, [.int (nI (((0 + 1) + 1) + 1)), .int 16510910, .int 0, .ref k, .ref q])), (k, .inl (Z.2 0, 5, .inl f1_57)), (q, .inl (Z.2 0, 5, .inl g1_58))]) [3, 4, 0, 1, 2] rfl
                              have hD9 := hD.sub (ws' := [(h0, .inr (5, [.int (nI n), .int (nI p1_60), .ref tk])), (tk, .inl (Z.2 1, 80, .inl f)), (h1, .inr (0, [.int (nI (((0 + 1) + 1) + 1)), .int 16510910, .int 0, .ref k, .ref q])), (k, .inl (Z.2 0, 5, .inl f1_57)), (q, .inl (Z.2 0, 5, .inl g1_58))]) [3, 4, 0, 1, 2] (by decide) rfl
                              exact W.iret (v := (nI (((0 + 1) + 1) + 1))) hx hb hr (fun t9 ht hW => ⟨⟨nI (((0 + 1) + 1) + 1), (p1_60, (((0 + 1) + 1) + 1), f1_57, g1_58), rfl, ⟨by omega, by omega⟩, by rw [ht]; exact hP9, hD9⟩, hS.F ht⟩) hS.2.2 dX5_readFolk_104
                          · refine lv_iload hx hb dX5_readFolk_76 (lv_at hl 1 rfl) ?_
                            have hPc := hP.sub (ws' := []) [] rfl
                            have hDc := hD.sub (ws' := []) [] (by decide) rfl
                            have hFc := va_free (wc := []) hD hS hA [] rfl
                            refine va_calli (va_runS (As := [.int (nI p1_50)]) (rest := []) ⟨hx, hb, hml, hown, hts⟩ (c_X5_fault l Z H.size (nI p1_50)) (va_cwS 1 hts gX5_readFolk_X5_fault rfl rfl rfl (by decide +kernel) ⟨Nat.le_of_ble_eq_true rfl, Nat.le_of_ble_eq_true rfl⟩) ⟨fun a U g mk q => by obtain ⟨q0, q1, qP, qK, qD⟩ := q; exact ⟨q0, q1, qP, va_K.moved (u := U) (U := U.calling g mk a) (Vm.Alike.refl U.vm) qK, qD⟩, fun U hU hW => ⟨rfl, by rw [hU], by rw [hU]; exact hPc, va_K.moved hW.alike hK, hDc.weaken (fun _ _ _ _ => trivial)⟩⟩ rfl rfl hl.1 rfl (lv_room (Nat.le_of_ble_eq_true rfl)) dX5_readFolk_78 ⟨Nat.le_of_ble_eq_true rfl, Nat.le_of_ble_eq_true rfl⟩) hS (fun q _ h => hFc q h) hFc (fun r_111 u t9 H1 locs ht hvm hw hB hz1 hk1 hS => ?_)
                            subst hw
                            have hP1 : va_P Z.1 vwCl [] H1 := fun k q h => by simp at h
                            have hD1 : va_D (va_A [] H.size) [] := ⟨fun i j p q h => by simp at h, fun k q h => by simp at h⟩
                            obtain ⟨hP, hD⟩ := va_join (wr := [(h1, .inr (0, [.int (nI ((0 + 1) + 1)), .int 16510910, .int 0, .ref k, .ref q])), (k, .inl (Z.2 0, 5, .inl f1_36)), (q, .inl (Z.2 0, 5, .inl g1_37)), (h0, .inr (5, [.int (nI n), .int (nI p1_52), .ref tk])), (tk, .inl (Z.2 1, 80, .inl f))]) (w1 := []) hP hD [] [0, 1, 2, 3, 4] rfl rfl (by decide) (by decide) hk1 hFc hP1 hD1
                            clear hPc hDc hP1 hD1 hk1 hz1 hFc ht hvm
                            generalize H1 = H at hP hS ⊢
                            have hP : va_P Z.1 vwCl [(h1, .inr (0, [.int (nI ((0 + 1) + 1)), .int 16510910, .int 0, .ref k, .ref q])), (k, .inl (Z.2 0, 5, .inl f1_36)), (q, .inl (Z.2 0, 5, .inl g1_37)), (h0, .inr (5, [.int (nI n), .int (nI p1_52), .ref tk])), (tk, .inl (Z.2 1, 80, .inl f))] H := hP
                            have hD : va_D A [(h1, .inr (0, [.int (nI ((0 + 1) + 1)), .int 16510910, .int 0, .ref k, .ref q])), (k, .inl (Z.2 0, 5, .inl f1_36)), (q, .inl (Z.2 0, 5, .inl g1_37)), (h0, .inr (5, [.int (nI n), .int (nI p1_52), .ref tk])), (tk, .inl (Z.2 1, 80, .inl f))] := hD
                            have hP9 := hP.sub (ws' := [(h0, .inr (5, [.int (nI n), .int (nI p1_52), .ref tk])), (tk, .inl (Z.2 1, 80, .inl f)), (h1, .inr (0, [.int (nI ((0 + 1) + 1)), .int 16510910, .int 0, .ref k, .ref q])), (k, .inl (Z.2 0, 5, .inl f1_36)), (q, .inl (Z.2 0, 5, .inl g1_37))]) [3, 4, 0, 1, 2] rfl
                            have hD9 := hD.sub (ws' := [(h0, .inr (5, [.int (nI n), .int (nI p1_52), .ref tk])), (tk, .inl (Z.2 1, 80, .inl f)), (h1, .inr (0, [.int (nI ((0 + 1) + 1)), .int 16510910, .int 0, .ref k, .ref q])), (k, .inl (Z.2 0, 5, .inl f1_36)), (q, .inl (Z.2 0, 5, .inl g1_37))]) [3, 4, 0, 1, 2] (by decide) rfl
                            exact W.iret (v := ((-20) - (nI p1_50))) hx hb hr (fun t9 ht hW => ⟨⟨(-20) - (nI p1_50), (p1_52, ((0 + 1) + 1), f1_36, g1_37), rfl, ⟨by omega, by omega⟩, by rw [ht]; exact hP9, hD9⟩, hS.F ht⟩) hS.2.2 dX5_readFolk_81
                      · refine lv_aload_n hx hb dX5_readFolk_29 rfl (lv_at hl 5 rfl) ?_
                        refine va_get (D := Z.1) (ci := 5) (v := .int (nI p1_45)) (C := RX5) (T := TX5) (N := 3) hx hb hts hin5 hown hK hP 3 rfl rfl 1 (by decide) (hts (.fieldLink RX5 15 "HalfAsked$Tape" "at" "I") (by decide +kernel)) (fun _ h9 => h9) rfl dX5_readFolk_30 ?_
                        have hPc := hP.sub (ws' := []) [] rfl
                        have hDc := hD.sub (ws' := []) [] (by decide) rfl
                        have hFc := va_free (wc := []) hD hS hA [] rfl
                        refine va_calli (va_runS (As := [.int (nI p1_45)]) (rest := []) ⟨hx, hb, hml, hown, hts⟩ (c_X5_fault l Z H.size (nI p1_45)) (va_cwS 1 hts gX5_readFolk_X5_fault rfl rfl rfl (by decide +kernel) ⟨Nat.le_of_ble_eq_true rfl, Nat.le_of_ble_eq_true rfl⟩) ⟨fun a U g mk q => by obtain ⟨q0, q1, qP, qK, qD⟩ := q; exact ⟨q0, q1, qP, va_K.moved (u := U) (U := U.calling g mk a) (Vm.Alike.refl U.vm) qK, qD⟩, fun U hU hW => ⟨rfl, by rw [hU], by rw [hU]; exact hPc, va_K.moved hW.alike hK, hDc.weaken (fun _ _ _ _ => trivial)⟩⟩ rfl rfl hl.1 rfl (lv_room (Nat.le_of_ble_eq_true rfl)) dX5_readFolk_33 ⟨Nat.le_of_ble_eq_true rfl, Nat.le_of_ble_eq_true rfl⟩) hS (fun q _ h => hFc q h) hFc (fun r_112 u t9 H1 locs ht hvm hw hB hz1 hk1 hS => ?_)
                        subst hw
                        have hP1 : va_P Z.1 vwCl [] H1 := fun k q h => by simp at h
                        have hD1 : va_D (va_A [] H.size) [] := ⟨fun i j p q h => by simp at h, fun k q h => by simp at h⟩
                        obtain ⟨hP, hD⟩ := va_join (wr := [(h1, .inr (0, [.int (nI ((0 + 1) + 1)), .int 16510910, .int 0, .ref k, .ref q])), (k, .inl (Z.2 0, 5, .inl f1_36)), (q, .inl (Z.2 0, 5, .inl g1_37)), (h0, .inr (5, [.int (nI n), .int (nI p1_45), .ref tk])), (tk, .inl (Z.2 1, 80, .inl f))]) (w1 := []) hP hD [] [0, 1, 2, 3, 4] rfl rfl (by decide) (by decide) hk1 hFc hP1 hD1
                        clear hPc hDc hP1 hD1 hk1 hz1 hFc ht hvm
                        generalize H1 = H at hP hS ⊢
                        have hP : va_P Z.1 vwCl [(h1, .inr (0, [.int (nI ((0 + 1) + 1)), .int 16510910, .int 0, .ref k, .ref q])), (k, .inl (Z.2 0, 5, .inl f1_36)), (q, .inl (Z.2 0, 5, .inl g1_37)), (h0, .inr (5, [.int (nI n), .int (nI p1_45), .ref tk])), (tk, .inl (Z.2 1, 80, .inl f))] H := hP
                        have hD : va_D A [(h1, .inr (0, [.int (nI ((0 + 1) + 1)), .int 16510910, .int 0, .ref k, .ref q])), (k, .inl (Z.2 0, 5, .inl f1_36)), (q, .inl (Z.2 0, 5, .inl g1_37)), (h0, .inr (5, [.int (nI n), .int (nI p1_45), .ref tk])), (tk, .inl (Z.2 1, 80, .inl f))] := hD
                        have hP9 := hP.sub (ws' := [(h0, .inr (5, [.int (nI n), .int (nI p1_45), .ref tk])), (tk, .inl (Z.2 1, 80, .inl f)), (h1, .inr (0, [.int (nI ((0 + 1) + 1)), .int 16510910, .int 0, .ref k, .ref q])), (k, .inl (Z.2 0, 5, .inl f1_36)), (q, .inl (Z.2 0, 5, .inl g1_37))]) [3, 4, 0, 1, 2] rfl
                        have hD9 := hD.sub (ws' := [(h0, .inr (5, [.int (nI n), .int (nI p1_45), .ref tk])), (tk, .inl (Z.2 1, 80, .inl f)), (h1, .inr (0, [.int (nI ((0 + 1) + 1)), .int 16510910, .int 0, .ref k, .ref q])), (k, .inl (Z.2 0, 5, .inl f1_36)), (q, .inl (Z.2 0, 5, .inl g1_37))]) [3, 4, 0, 1, 2] (by decide) rfl
                        exact W.iret (v := ((-20) - (nI p1_45))) hx hb hr (fun t9 ht hW => ⟨⟨(-20) - (nI p1_45), (p1_45, ((0 + 1) + 1), f1_36, g1_37), rfl, ⟨by omega, by omega⟩, by rw [ht]; exact hP9, hD9⟩, hS.F ht⟩) hS.2.2 dX5_readFolk_36
                  · refine lv_aload_n hx hb dX5_readFolk_100 rfl (lv_at hl 6 rfl) ?_
                    refine va_get (D := Z.1) (ci := 0) (v := .int (nI ((0 + 1) + 1))) (C := RX0) (T := TX0) (N := 5) hx hb hts hin0 hown hK hP 0 rfl rfl 0 (by decide) (hts (.fieldLink RX5 59 "HalfAsked$Folk" "size" "I") (by decide +kernel)) (fun _ h9 => h9) rfl dX5_readFolk_101 ?_
                    have hP9 := hP.sub (ws' := [(h0, .inr (5, [.int (nI n), .int (nI p1_39), .ref tk])), (tk, .inl (Z.2 1, 80, .inl f)), (h1, .inr (0, [.int (nI ((0 + 1) + 1)), .int 16510910, .int 0, .ref k, .ref q])), (k, .inl (Z.2 0, 5, .inl f1_36)), (q, .inl (Z.2 0, 5, .inl g1_37))]) [3, 4, 0, 1, 2] rfl
                    have hD9 := hD.sub (ws' := [(h0, .inr (5, [.int (nI n), .int (nI p1_39), .ref tk])), (tk, .inl (Z.2 1, 80, .inl f)), (h1, .inr (0, [.int (nI ((0 + 1) + 1)), .int 16510910, .int 0, .ref k, .ref q])), (k, .inl (Z.2 0, 5, .inl f1_36)), (q, .inl (Z.2 0, 5, .inl g1_37))]) [3, 4, 0, 1, 2] (by decide) rfl
                    exact W.iret (v := (nI ((0 + 1) + 1))) hx hb hr (fun t9 ht hW => ⟨⟨nI ((0 + 1) + 1), (p1_39, ((0 + 1) + 1), f1_36, g1_37), rfl, ⟨by omega, by omega⟩, by rw [ht]; exact hP9, hD9⟩, hS.F ht⟩) hS.2.2 dX5_readFolk_104
                · refine lv_iload hx hb dX5_readFolk_76 (lv_at hl 1 rfl) ?_
                  have hPc := hP.sub (ws' := []) [] rfl
                  have hDc := hD.sub (ws' := []) [] (by decide) rfl
                  have hFc := va_free (wc := []) hD hS hA [] rfl
                  refine va_calli (va_runS (As := [.int (nI p1_29)]) (rest := []) ⟨hx, hb, hml, hown, hts⟩ (c_X5_fault l Z H.size (nI p1_29)) (va_cwS 1 hts gX5_readFolk_X5_fault rfl rfl rfl (by decide +kernel) ⟨Nat.le_of_ble_eq_true rfl, Nat.le_of_ble_eq_true rfl⟩) ⟨fun a U g mk q => by obtain ⟨q0, q1, qP, qK, qD⟩ := q; exact ⟨q0, q1, qP, va_K.moved (u := U) (U := U.calling g mk a) (Vm.Alike.refl U.vm) qK, qD⟩, fun U hU hW => ⟨rfl, by rw [hU], by rw [hU]; exact hPc, va_K.moved hW.alike hK, hDc.weaken (fun _ _ _ _ => trivial)⟩⟩ rfl rfl hl.1 rfl (lv_room (Nat.le_of_ble_eq_true rfl)) dX5_readFolk_78 ⟨Nat.le_of_ble_eq_true rfl, Nat.le_of_ble_eq_true rfl⟩) hS (fun q _ h => hFc q h) hFc (fun r_113 u t9 H1 locs ht hvm hw hB hz1 hk1 hS => ?_)
                  subst hw
                  have hP1 : va_P Z.1 vwCl [] H1 := fun k q h => by simp at h
                  have hD1 : va_D (va_A [] H.size) [] := ⟨fun i j p q h => by simp at h, fun k q h => by simp at h⟩
                  obtain ⟨hP, hD⟩ := va_join (wr := [(h1, .inr (0, [.int (nI (0 + 1)), .int 16510910, .int 0, .ref k, .ref q])), (k, .inl (Z.2 0, 5, .inl f1_15)), (q, .inl (Z.2 0, 5, .inl g1_16)), (h0, .inr (5, [.int (nI n), .int (nI p1_31), .ref tk])), (tk, .inl (Z.2 1, 80, .inl f))]) (w1 := []) hP hD [] [0, 1, 2, 3, 4] rfl rfl (by decide) (by decide) hk1 hFc hP1 hD1
                  clear hPc hDc hP1 hD1 hk1 hz1 hFc ht hvm
                  generalize H1 = H at hP hS ⊢
                  have hP : va_P Z.1 vwCl [(h1, .inr (0, [.int (nI (0 + 1)), .int 16510910, .int 0, .ref k, .ref q])), (k, .inl (Z.2 0, 5, .inl f1_15)), (q, .inl (Z.2 0, 5, .inl g1_16)), (h0, .inr (5, [.int (nI n), .int (nI p1_31), .ref tk])), (tk, .inl (Z.2 1, 80, .inl f))] H := hP
                  have hD : va_D A [(h1, .inr (0, [.int (nI (0 + 1)), .int 16510910, .int 0, .ref k, .ref q])), (k, .inl (Z.2 0, 5, .inl f1_15)), (q, .inl (Z.2 0, 5, .inl g1_16)), (h0, .inr (5, [.int (nI n), .int (nI p1_31), .ref tk])), (tk, .inl (Z.2 1, 80, .inl f))] := hD
                  have hP9 := hP.sub (ws' := [(h0, .inr (5, [.int (nI n), .int (nI p1_31), .ref tk])), (tk, .inl (Z.2 1, 80, .inl f)), (h1, .inr (0, [.int (nI (0 + 1)), .int 16510910, .int 0, .ref k, .ref q])), (k, .inl (Z.2 0, 5, .inl f1_15)), (q, .inl (Z.2 0, 5, .inl g1_16))]) [3, 4, 0, 1, 2] rfl
                  have hD9 := hD.sub (ws' := [(h0, .inr (5, [.int (nI n), .int (nI p1_31), .ref tk])), (tk, .inl (Z.2 1, 80, .inl f)), (h1, .inr (0, [.int (nI (0 + 1)), .int 16510910, .int 0, .ref k, .ref q])), (k, .inl (Z.2 0, 5, .inl f1_15)), (q, .inl (Z.2 0, 5, .inl g1_16))]) [3, 4, 0, 1, 2] (by decide) rfl
                  exact W.iret (v := ((-20) - (nI p1_29))) hx hb hr (fun t9 ht hW => ⟨⟨(-20) - (nI p1_29), (p1_31, (0 + 1), f1_15, g1_16), rfl, ⟨by omega, by omega⟩, by rw [ht]; exact hP9, hD9⟩, hS.F ht⟩) hS.2.2 dX5_readFolk_81
            · refine lv_aload_n hx hb dX5_readFolk_29 rfl (lv_at hl 5 rfl) ?_
              refine va_get (D := Z.1) (ci := 5) (v := .int (nI p1_24)) (C := RX5) (T := TX5) (N := 3) hx hb hts hin5 hown hK hP 3 rfl rfl 1 (by decide) (hts (.fieldLink RX5 15 "HalfAsked$Tape" "at" "I") (by decide +kernel)) (fun _ h9 => h9) rfl dX5_readFolk_30 ?_
              have hPc := hP.sub (ws' := []) [] rfl
              have hDc := hD.sub (ws' := []) [] (by decide) rfl
              have hFc := va_free (wc := []) hD hS hA [] rfl
              refine va_calli (va_runS (As := [.int (nI p1_24)]) (rest := []) ⟨hx, hb, hml, hown, hts⟩ (c_X5_fault l Z H.size (nI p1_24)) (va_cwS 1 hts gX5_readFolk_X5_fault rfl rfl rfl (by decide +kernel) ⟨Nat.le_of_ble_eq_true rfl, Nat.le_of_ble_eq_true rfl⟩) ⟨fun a U g mk q => by obtain ⟨q0, q1, qP, qK, qD⟩ := q; exact ⟨q0, q1, qP, va_K.moved (u := U) (U := U.calling g mk a) (Vm.Alike.refl U.vm) qK, qD⟩, fun U hU hW => ⟨rfl, by rw [hU], by rw [hU]; exact hPc, va_K.moved hW.alike hK, hDc.weaken (fun _ _ _ _ => trivial)⟩⟩ rfl rfl hl.1 rfl (lv_room (Nat.le_of_ble_eq_true rfl)) dX5_readFolk_33 ⟨Nat.le_of_ble_eq_true rfl, Nat.le_of_ble_eq_true rfl⟩) hS (fun q _ h => hFc q h) hFc (fun r_114 u t9 H1 locs ht hvm hw hB hz1 hk1 hS => ?_)
              subst hw
              have hP1 : va_P Z.1 vwCl [] H1 := fun k q h => by simp at h
              have hD1 : va_D (va_A [] H.size) [] := ⟨fun i j p q h => by simp at h, fun k q h => by simp at h⟩
              obtain ⟨hP, hD⟩ := va_join (wr := [(h1, .inr (0, [.int (nI (0 + 1)), .int 16510910, .int 0, .ref k, .ref q])), (k, .inl (Z.2 0, 5, .inl f1_15)), (q, .inl (Z.2 0, 5, .inl g1_16)), (h0, .inr (5, [.int (nI n), .int (nI p1_24), .ref tk])), (tk, .inl (Z.2 1, 80, .inl f))]) (w1 := []) hP hD [] [0, 1, 2, 3, 4] rfl rfl (by decide) (by decide) hk1 hFc hP1 hD1
              clear hPc hDc hP1 hD1 hk1 hz1 hFc ht hvm
              generalize H1 = H at hP hS ⊢
              have hP : va_P Z.1 vwCl [(h1, .inr (0, [.int (nI (0 + 1)), .int 16510910, .int 0, .ref k, .ref q])), (k, .inl (Z.2 0, 5, .inl f1_15)), (q, .inl (Z.2 0, 5, .inl g1_16)), (h0, .inr (5, [.int (nI n), .int (nI p1_24), .ref tk])), (tk, .inl (Z.2 1, 80, .inl f))] H := hP
              have hD : va_D A [(h1, .inr (0, [.int (nI (0 + 1)), .int 16510910, .int 0, .ref k, .ref q])), (k, .inl (Z.2 0, 5, .inl f1_15)), (q, .inl (Z.2 0, 5, .inl g1_16)), (h0, .inr (5, [.int (nI n), .int (nI p1_24), .ref tk])), (tk, .inl (Z.2 1, 80, .inl f))] := hD
              have hP9 := hP.sub (ws' := [(h0, .inr (5, [.int (nI n), .int (nI p1_24), .ref tk])), (tk, .inl (Z.2 1, 80, .inl f)), (h1, .inr (0, [.int (nI (0 + 1)), .int 16510910, .int 0, .ref k, .ref q])), (k, .inl (Z.2 0, 5, .inl f1_15)), (q, .inl (Z.2 0, 5, .inl g1_16))]) [3, 4, 0, 1, 2] rfl
              have hD9 := hD.sub (ws' := [(h0, .inr (5, [.int (nI n), .int (nI p1_24), .ref tk])), (tk, .inl (Z.2 1, 80, .inl f)), (h1, .inr (0, [.int (nI (0 + 1)), .int 16510910, .int 0, .ref k, .ref q])), (k, .inl (Z.2 0, 5, .inl f1_15)), (q, .inl (Z.2 0, 5, .inl g1_16))]) [3, 4, 0, 1, 2] (by decide) rfl
              exact W.iret (v := ((-20) - (nI p1_24))) hx hb hr (fun t9 ht hW => ⟨⟨(-20) - (nI p1_24), (p1_24, (0 + 1), f1_15, g1_16), rfl, ⟨by omega, by omega⟩, by rw [ht]; exact hP9, hD9⟩, hS.F ht⟩) hS.2.2 dX5_readFolk_36
        · refine lv_aload_n hx hb dX5_readFolk_100 rfl (lv_at hl 6 rfl) ?_
          refine va_get (D := Z.1) (ci := 0) (v := .int (nI (0 + 1))) (C := RX0) (T := TX0) (N := 5) hx hb hts hin0 hown hK hP 0 rfl rfl 0 (by decide) (hts (.fieldLink RX5 59 "HalfAsked$Folk" "size" "I") (by decide +kernel)) (fun _ h9 => h9) rfl dX5_readFolk_101 ?_
          have hP9 := hP.sub (ws' := [(h0, .inr (5, [.int (nI n), .int (nI p1_18), .ref tk])), (tk, .inl (Z.2 1, 80, .inl f)), (h1, .inr (0, [.int (nI (0 + 1)), .int 16510910, .int 0, .ref k, .ref q])), (k, .inl (Z.2 0, 5, .inl f1_15)), (q, .inl (Z.2 0, 5, .inl g1_16))]) [3, 4, 0, 1, 2] rfl
          have hD9 := hD.sub (ws' := [(h0, .inr (5, [.int (nI n), .int (nI p1_18), .ref tk])), (tk, .inl (Z.2 1, 80, .inl f)), (h1, .inr (0, [.int (nI (0 + 1)), .int 16510910, .int 0, .ref k, .ref q])), (k, .inl (Z.2 0, 5, .inl f1_15)), (q, .inl (Z.2 0, 5, .inl g1_16))]) [3, 4, 0, 1, 2] (by decide) rfl
          exact W.iret (v := (nI (0 + 1))) hx hb hr (fun t9 ht hW => ⟨⟨nI (0 + 1), (p1_18, (0 + 1), f1_15, g1_16), rfl, ⟨by omega, by omega⟩, by rw [ht]; exact hP9, hD9⟩, hS.F ht⟩) hS.2.2 dX5_readFolk_104
      · refine lv_iload hx hb dX5_readFolk_76 (lv_at hl 1 rfl) ?_
        have hPc := hP.sub (ws' := []) [] rfl
        have hDc := hD.sub (ws' := []) [] (by decide) rfl
        have hFc := va_free (wc := []) hD hS hA [] rfl
        refine va_calli (va_runS (As := [.int (nI p1_8)]) (rest := []) ⟨hx, hb, hml, hown, hts⟩ (c_X5_fault l Z H.size (nI p1_8)) (va_cwS 1 hts gX5_readFolk_X5_fault rfl rfl rfl (by decide +kernel) ⟨Nat.le_of_ble_eq_true rfl, Nat.le_of_ble_eq_true rfl⟩) ⟨fun a U g mk q => by obtain ⟨q0, q1, qP, qK, qD⟩ := q; exact ⟨q0, q1, qP, va_K.moved (u := U) (U := U.calling g mk a) (Vm.Alike.refl U.vm) qK, qD⟩, fun U hU hW => ⟨rfl, by rw [hU], by rw [hU]; exact hPc, va_K.moved hW.alike hK, hDc.weaken (fun _ _ _ _ => trivial)⟩⟩ rfl rfl hl.1 rfl (lv_room (Nat.le_of_ble_eq_true rfl)) dX5_readFolk_78 ⟨Nat.le_of_ble_eq_true rfl, Nat.le_of_ble_eq_true rfl⟩) hS (fun q _ h => hFc q h) hFc (fun r_115 u t9 H1 locs ht hvm hw hB hz1 hk1 hS => ?_)
        subst hw
        have hP1 : va_P Z.1 vwCl [] H1 := fun k q h => by simp at h
        have hD1 : va_D (va_A [] H.size) [] := ⟨fun i j p q h => by simp at h, fun k q h => by simp at h⟩
        obtain ⟨hP, hD⟩ := va_join (wr := [(k, .inl (Z.2 0, 5, .inl uf)), (q, .inl (Z.2 0, 5, .inl ug)), (h1, .inr (0, [.int 0, .int 16510910, .int 0, .ref k, .ref q])), (h0, .inr (5, [.int (nI n), .int (nI p1_10), .ref tk])), (tk, .inl (Z.2 1, 80, .inl f))]) (w1 := []) hP hD [] [0, 1, 2, 3, 4] rfl rfl (by decide) (by decide) hk1 hFc hP1 hD1
        clear hPc hDc hP1 hD1 hk1 hz1 hFc ht hvm
        generalize H1 = H at hP hS ⊢
        have hP : va_P Z.1 vwCl [(k, .inl (Z.2 0, 5, .inl uf)), (q, .inl (Z.2 0, 5, .inl ug)), (h1, .inr (0, [.int 0, .int 16510910, .int 0, .ref k, .ref q])), (h0, .inr (5, [.int (nI n), .int (nI p1_10), .ref tk])), (tk, .inl (Z.2 1, 80, .inl f))] H := hP
        have hD : va_D A [(k, .inl (Z.2 0, 5, .inl uf)), (q, .inl (Z.2 0, 5, .inl ug)), (h1, .inr (0, [.int 0, .int 16510910, .int 0, .ref k, .ref q])), (h0, .inr (5, [.int (nI n), .int (nI p1_10), .ref tk])), (tk, .inl (Z.2 1, 80, .inl f))] := hD
        have hP9 := hP.sub (ws' := [(h0, .inr (5, [.int (nI n), .int (nI p1_10), .ref tk])), (tk, .inl (Z.2 1, 80, .inl f)), (h1, .inr (0, [.int 0, .int 16510910, .int 0, .ref k, .ref q])), (k, .inl (Z.2 0, 5, .inl uf)), (q, .inl (Z.2 0, 5, .inl ug))]) [3, 4, 2, 0, 1] rfl
        have hD9 := hD.sub (ws' := [(h0, .inr (5, [.int (nI n), .int (nI p1_10), .ref tk])), (tk, .inl (Z.2 1, 80, .inl f)), (h1, .inr (0, [.int 0, .int 16510910, .int 0, .ref k, .ref q])), (k, .inl (Z.2 0, 5, .inl uf)), (q, .inl (Z.2 0, 5, .inl ug))]) [3, 4, 2, 0, 1] (by decide) rfl
        exact W.iret (v := ((-20) - (nI p1_8))) hx hb hr (fun t9 ht hW => ⟨⟨(-20) - (nI p1_8), (p1_10, 0, uf, ug), rfl, ⟨by omega, by omega⟩, by rw [ht]; exact hP9, hD9⟩, hS.F ht⟩) hS.2.2 dX5_readFolk_81
  · refine lv_aload_n hx hb dX5_readFolk_29 rfl (lv_at hl 2 rfl) ?_
    refine va_get (D := Z.1) (ci := 5) (v := .int (nI p1_3)) (C := RX5) (T := TX5) (N := 3) hx hb hts hin5 hown hK hP 3 rfl rfl 1 (by decide) (hts (.fieldLink RX5 15 "HalfAsked$Tape" "at" "I") (by decide +kernel)) (fun _ h9 => h9) rfl dX5_readFolk_30 ?_
    have hPc := hP.sub (ws' := []) [] rfl
    have hDc := hD.sub (ws' := []) [] (by decide) rfl
    have hFc := va_free (wc := []) hD hS hA [] rfl
    refine va_calli (va_runS (As := [.int (nI p1_3)]) (rest := []) ⟨hx, hb, hml, hown, hts⟩ (c_X5_fault l Z H.size (nI p1_3)) (va_cwS 1 hts gX5_readFolk_X5_fault rfl rfl rfl (by decide +kernel) ⟨Nat.le_of_ble_eq_true rfl, Nat.le_of_ble_eq_true rfl⟩) ⟨fun a U g mk q => by obtain ⟨q0, q1, qP, qK, qD⟩ := q; exact ⟨q0, q1, qP, va_K.moved (u := U) (U := U.calling g mk a) (Vm.Alike.refl U.vm) qK, qD⟩, fun U hU hW => ⟨rfl, by rw [hU], by rw [hU]; exact hPc, va_K.moved hW.alike hK, hDc.weaken (fun _ _ _ _ => trivial)⟩⟩ rfl rfl hl.1 rfl (lv_room (Nat.le_of_ble_eq_true rfl)) dX5_readFolk_33 ⟨Nat.le_of_ble_eq_true rfl, Nat.le_of_ble_eq_true rfl⟩) hS (fun q _ h => hFc q h) hFc (fun r_116 u t9 H1 locs ht hvm hw hB hz1 hk1 hS => ?_)
    subst hw
    have hP1 : va_P Z.1 vwCl [] H1 := fun k q h => by simp at h
    have hD1 : va_D (va_A [] H.size) [] := ⟨fun i j p q h => by simp at h, fun k q h => by simp at h⟩
    obtain ⟨hP, hD⟩ := va_join (wr := [(k, .inl (Z.2 0, 5, .inl uf)), (q, .inl (Z.2 0, 5, .inl ug)), (h1, .inr (0, [.int 0, .int 16510910, .int 0, .ref k, .ref q])), (h0, .inr (5, [.int (nI n), .int (nI p1_3), .ref tk])), (tk, .inl (Z.2 1, 80, .inl f))]) (w1 := []) hP hD [] [0, 1, 2, 3, 4] rfl rfl (by decide) (by decide) hk1 hFc hP1 hD1
    clear hPc hDc hP1 hD1 hk1 hz1 hFc ht hvm
    generalize H1 = H at hP hS ⊢
    have hP : va_P Z.1 vwCl [(k, .inl (Z.2 0, 5, .inl uf)), (q, .inl (Z.2 0, 5, .inl ug)), (h1, .inr (0, [.int 0, .int 16510910, .int 0, .ref k, .ref q])), (h0, .inr (5, [.int (nI n), .int (nI p1_3), .ref tk])), (tk, .inl (Z.2 1, 80, .inl f))] H := hP
    have hD : va_D A [(k, .inl (Z.2 0, 5, .inl uf)), (q, .inl (Z.2 0, 5, .inl ug)), (h1, .inr (0, [.int 0, .int 16510910, .int 0, .ref k, .ref q])), (h0, .inr (5, [.int (nI n), .int (nI p1_3), .ref tk])), (tk, .inl (Z.2 1, 80, .inl f))] := hD
    have hP9 := hP.sub (ws' := [(h0, .inr (5, [.int (nI n), .int (nI p1_3), .ref tk])), (tk, .inl (Z.2 1, 80, .inl f)), (h1, .inr (0, [.int 0, .int 16510910, .int 0, .ref k, .ref q])), (k, .inl (Z.2 0, 5, .inl uf)), (q, .inl (Z.2 0, 5, .inl ug))]) [3, 4, 2, 0, 1] rfl
    have hD9 := hD.sub (ws' := [(h0, .inr (5, [.int (nI n), .int (nI p1_3), .ref tk])), (tk, .inl (Z.2 1, 80, .inl f)), (h1, .inr (0, [.int 0, .int 16510910, .int 0, .ref k, .ref q])), (k, .inl (Z.2 0, 5, .inl uf)), (q, .inl (Z.2 0, 5, .inl ug))]) [3, 4, 2, 0, 1] (by decide) rfl
    exact W.iret (v := ((-20) - (nI p1_3))) hx hb hr (fun t9 ht hW => ⟨⟨(-20) - (nI p1_3), (p1_3, 0, uf, ug), rfl, ⟨by omega, by omega⟩, by rw [ht]; exact hP9, hD9⟩, hS.F ht⟩) hS.2.2 dX5_readFolk_36
theorem z_by {x : Int32} {mm : Nat} (hm : mm ≤ 5) (h1 : ¬ x < 0) (h2 : ¬ nI mm ≤ x) : vp_in x 5 := by
  rw [Int32.lt_iff_toInt_lt] at h1
  rw [Int32.le_iff_toInt_le, nI_toInt (by omega)] at h2
  have e0 : (0 : Int32).toInt = 0 := by decide
  exact vp_in_iff.mpr (by omega)
theorem z_by2 {x : Int32} {mm : Nat} (hm : mm ≤ 5) (h1 : ¬ x < 0) (h2 : x < nI mm) : vp_in x 5 := z_by hm h1 (Int32.not_le.mpr h2)
set_option maxHeartbeats 4000000 in
set_option maxRecDepth 100000 in
theorem c_X5_readAsking (l : Launch) (Z : gZ) (sz : Nat) (h0 : Nat) (tk : Nat) (n : Nat) (ps : Nat) (f : Nat → Int32) (h1 : Nat) (q : Nat) (en : Int32) (k : Nat) (z : Nat) (pf : Nat → Int32) (pg : Nat → Int32) (mm : Nat) (hn : n ≤ 80) (hp : ps ≤ n) (hc : zC f) (hq : q < 8) (hz : zP q pf pg) (hm : mm ≤ 5) : Met l yX5_readAsking wsX5_readAsking ({ frames := 2, cells := 0, slots := 0, locals := 40 }) (va_Pc [.ref h0, .ref h1, .int (nI mm)] (fun U => U.heap.size = sz ∧ va_P Z.1 vwCl [(h0, .inr (5, [.int (nI n), .int (nI ps), .ref tk])), (tk, .inl (Z.2 1, 80, .inl f)), (h1, .inr (2, [.int (nI q), .int en, .ref k, .ref z])), (k, .inl (Z.2 0, 8, .inl pf)), (z, .inl (Z.2 0, 8, .inl pg))] U.heap ∧ va_K Z.1 vwCl (gT Z) U ∧ va_D (fun _ => True) [(h0, .inr (5, [.int (nI n), .int (nI ps), .ref tk])), (tk, .inl (Z.2 1, 80, .inl f)), (h1, .inr (2, [.int (nI q), .int en, .ref k, .ref z])), (k, .inl (Z.2 0, 8, .inl pf)), (z, .inl (Z.2 0, 8, .inl pg))])) (va_Qi (fun (r : Int32) (u : Nat × Nat × (Nat → Int32) × (Nat → Int32)) => match u with | (p1, q1, pf1, pg1) => (r = 0 ∨ (r = 1 ∧ 1 ≤ q1)) ∧ p1 ≤ n ∧ q1 ≤ q + 1 ∧ zP q1 pf1 pg1) (fun (u : Nat × Nat × (Nat → Int32) × (Nat → Int32)) (t9 : State) => match u with | (p1, q1, pf1, pg1) => va_P Z.1 vwCl [(h0, .inr (5, [.int (nI n), .int (nI p1), .ref tk])), (tk, .inl (Z.2 1, 80, .inl f)), (h1, .inr (2, [.int (nI q1), .int en, .ref k, .ref z])), (k, .inl (Z.2 0, 8, .inl pf1)), (z, .inl (Z.2 0, 8, .inl pg1))] t9.heap ∧ va_D (va_A [(h0, .inr (5, [.int (nI n), .int (nI ps), .ref tk])), (tk, .inl (Z.2 1, 80, .inl f)), (h1, .inr (2, [.int (nI q), .int en, .ref k, .ref z])), (k, .inl (Z.2 0, 8, .inl pf)), (z, .inl (Z.2 0, 8, .inl pg))] sz) [(h0, .inr (5, [.int (nI n), .int (nI p1), .ref tk])), (tk, .inl (Z.2 1, 80, .inl f)), (h1, .inr (2, [.int (nI q1), .int en, .ref k, .ref z])), (k, .inl (Z.2 0, 8, .inl pf1)), (z, .inl (Z.2 0, 8, .inl pg1))]) (va_A [(h0, .inr (5, [.int (nI n), .int (nI ps), .ref tk])), (tk, .inl (Z.2 1, 80, .inl f)), (h1, .inr (2, [.int (nI q), .int en, .ref k, .ref z])), (k, .inl (Z.2 0, 8, .inl pf)), (z, .inl (Z.2 0, 8, .inl pg))] sz)) 0 0 (va_A [(h0, .inr (5, [.int (nI n), .int (nI ps), .ref tk])), (tk, .inl (Z.2 1, 80, .inl f)), (h1, .inr (2, [.int (nI q), .int en, .ref k, .ref z])), (k, .inl (Z.2 0, 8, .inl pf)), (z, .inl (Z.2 0, 8, .inl pg))] sz) := by
  refine Met.ofW (cc := cX5_readAsking) (maxL := 5) (ret := (some .boolean)) (by decide) rfl ?_
  intro p e s m args below meth c s₁ B hml hv
  obtain ⟨rfl, hsz, hP, hK, hD0⟩ := hv
  have hx := B.exec
  have hb := B.bytes
  have hr := B.returns
  have hts := atoms_spec (ws := wsX5_readAsking) B.pre
  have hown : s.vm.findClass RX5 = some m.cls := findClass_of_methodNamed B.named
  have hlocks := B.notSynchronized
  subst hsz
  have hin5 : ∀ w ∈ wsX50, w ∈ wsX5_readAsking := by decide +kernel
  have hD := hD0.self (sz := s.heap.size)
  generalize hAe : va_A [(h0, .inr (5, [.int (nI n), .int (nI ps), .ref tk])), (tk, .inl (Z.2 1, 80, .inl f)), (h1, .inr (2, [.int (nI q), .int en, .ref k, .ref z])), (k, .inl (Z.2 0, 8, .inl pf)), (z, .inl (Z.2 0, 8, .inl pg))] s.heap.size = A at hD ⊢
  have hA : ∀ q : Nat, s.heap.size ≤ q → A q := fun q h => by rw [← hAe]; exact Or.inr h
  have hS : va_S A s.heap s.heap [] := va_S.rf
  have hP : va_P Z.1 vwCl [(h0, .inr (5, [.int (nI n), .int (nI ps), .ref tk])), (tk, .inl (Z.2 1, 80, .inl f)), (h1, .inr (2, [.int (nI q), .int en, .ref k, .ref z])), (k, .inl (Z.2 0, 8, .inl pf)), (z, .inl (Z.2 0, 8, .inl pg))] s.heap := hP
  have hl := lv_entry ([.ref h0, .ref h1, .int (nI mm)]) (n := 5) (Nat.le_of_ble_eq_true rfl)
  rw [lg_entry_eq]
  generalize (lg_sl ([.ref h0, .ref h1, .int (nI mm)]) ++ List.replicate (5 - (lg_sl ([.ref h0, .ref h1, .int (nI mm)])).length) Slot.unset).toArray = ls at hl ⊢
  have hl : lv_has ls 5 [(0, .ref h0), (1, .ref h1), (2, .int (nI mm))] := hl
  refine lv_aload_n hx hb dX5_readAsking_0 rfl (lv_at hl 0 rfl) ?_
  have hPc := hP.sub (ws' := [(h0, .inr (5, [.int (nI n), .int (nI ps), .ref tk])), (tk, .inl (Z.2 1, 80, .inl f))]) [0, 1] rfl
  have hDc := hD.sub (ws' := [(h0, .inr (5, [.int (nI n), .int (nI ps), .ref tk])), (tk, .inl (Z.2 1, 80, .inl f))]) [0, 1] (by decide) rfl
  have hFc := va_free (wc := [(h0, .inr (5, [.int (nI n), .int (nI ps), .ref tk])), (tk, .inl (Z.2 1, 80, .inl f))]) hD hS hA [0, 1] rfl
  refine va_calli (va_runV (As := []) (rest := []) ⟨hx, hb, hml, hown, hts⟩ (c_X5_look l Z s.heap.size h0 tk n ps f (hn) (by omega) (hc)) (cwV 0 hts gX5_readAsking_X5_look rfl rfl rfl (by decide +kernel) ⟨Nat.le_of_ble_eq_true rfl, Nat.le_of_ble_eq_true rfl⟩) ⟨fun a U g mk q => by obtain ⟨q0, q1, qP, qK, qD⟩ := q; exact ⟨q0, q1, qP, va_K.moved (u := U) (U := U.calling g mk a) (Vm.Alike.refl U.vm) qK, qD⟩, va_recv hK hPc (ci := 5) (q0 := 0) rfl rfl, fun U hU hW => ⟨rfl, by rw [hU], by rw [hU]; exact hPc, va_K.moved hW.alike hK, hDc.weaken (fun _ _ _ _ => trivial)⟩⟩ rfl rfl hl.1 rfl (lv_room (Nat.le_of_ble_eq_true rfl)) dX5_readAsking_1 ⟨Nat.le_of_ble_eq_true rfl, Nat.le_of_ble_eq_true rfl⟩) hS (fun q _ h => hFc q h) hFc (fun r_1 u t9 H1 locs ht hvm hw hB hz1 hk1 hS => ?_)
  obtain ⟨p1_2, rfl⟩ : ∃ z, z = u := ⟨_, rfl⟩
  try dsimp only at hw hB
  have hwr_1 := hw
  obtain ⟨hP1, hD1⟩ := hB
  rw [ht] at hP1
  obtain ⟨hP, hD⟩ := va_join (wr := [(h1, .inr (2, [.int (nI q), .int en, .ref k, .ref z])), (k, .inl (Z.2 0, 8, .inl pf)), (z, .inl (Z.2 0, 8, .inl pg))]) (w1 := [(h0, .inr (5, [.int (nI n), .int (nI p1_2), .ref tk])), (tk, .inl (Z.2 1, 80, .inl f))]) hP hD [0, 1] [2, 3, 4] rfl rfl (by decide) (by decide) hk1 hFc hP1 hD1
  clear hPc hDc hP1 hD1 hk1 hz1 hFc ht hvm
  generalize H1 = H at hP hS ⊢
  have hP : va_P Z.1 vwCl [(h1, .inr (2, [.int (nI q), .int en, .ref k, .ref z])), (k, .inl (Z.2 0, 8, .inl pf)), (z, .inl (Z.2 0, 8, .inl pg)), (h0, .inr (5, [.int (nI n), .int (nI p1_2), .ref tk])), (tk, .inl (Z.2 1, 80, .inl f))] H := hP
  have hD : va_D A [(h1, .inr (2, [.int (nI q), .int en, .ref k, .ref z])), (k, .inl (Z.2 0, 8, .inl pf)), (z, .inl (Z.2 0, 8, .inl pg)), (h0, .inr (5, [.int (nI n), .int (nI p1_2), .ref tk])), (tk, .inl (Z.2 1, 80, .inl f))] := hD
  refine lv_bipush (v := 48) hx hb dX5_readAsking_4 (by decide) ?_
  refine lv_isub hx hb dX5_readAsking_6 ?_
  refine lv_istore_n (lv' := [(3, .int (r_1 - 48)), (0, .ref h0), (1, .ref h1), (2, .int (nI mm))]) hx hb dX5_readAsking_7 rfl hl (by decide) rfl (fun ls hl => ?_)
  refine lv_iload_n hx hb dX5_readAsking_8 rfl (lv_at hl 0 rfl) ?_
  refine lv_if_lt (tgt := 17) hx hb dX5_readAsking_9 (by decide) (fun c_3 => ?_) (fun c_3 => ?_)
  · refine lv_iconst (v := 0) hx hb dX5_readAsking_17 (by decide) ?_
    have hP9 := hP.sub (ws' := [(h0, .inr (5, [.int (nI n), .int (nI p1_2), .ref tk])), (tk, .inl (Z.2 1, 80, .inl f)), (h1, .inr (2, [.int (nI q), .int en, .ref k, .ref z])), (k, .inl (Z.2 0, 8, .inl pf)), (z, .inl (Z.2 0, 8, .inl pg))]) [3, 4, 0, 1, 2] rfl
    have hD9 := hD.sub (ws' := [(h0, .inr (5, [.int (nI n), .int (nI p1_2), .ref tk])), (tk, .inl (Z.2 1, 80, .inl f)), (h1, .inr (2, [.int (nI q), .int en, .ref k, .ref z])), (k, .inl (Z.2 0, 8, .inl pf)), (z, .inl (Z.2 0, 8, .inl pg))]) [3, 4, 0, 1, 2] (by decide) rfl
    exact W.zret (v := 0) hx hb hr rfl (fun t9 ht hW => ⟨⟨0, (p1_2, q, pf, pg), rfl, ⟨Or.inl rfl, by omega, by omega, hz⟩, by rw [ht]; exact hP9, hD9⟩, hS.F ht⟩) hS.2.2 dX5_readAsking_18
  · refine lv_iload_n hx hb dX5_readAsking_12 rfl (lv_at hl 0 rfl) ?_
    refine lv_iload_n hx hb dX5_readAsking_13 rfl (lv_at hl 3 rfl) ?_
    refine lv_icmp_lt (tgt := 19) hx hb dX5_readAsking_14 (by decide) (fun c_4 => ?_) (fun c_4 => ?_)
    · have hq4 := hwr_1.1 (z_m48 c_3)
      refine lv_aload_n hx hb dX5_readAsking_19 rfl (lv_at hl 1 rfl) ?_
      refine lv_dup hx hb dX5_readAsking_20 rfl ?_
      refine va_get (D := Z.1) (ci := 5) (v := .int (nI p1_2)) (C := RX5) (T := TX5) (N := 3) hx hb hts hin5 hown hK hP 3 rfl rfl 1 (by decide) (hts (.fieldLink RX5 15 "HalfAsked$Tape" "at" "I") (by decide +kernel)) (fun _ h9 => h9) rfl dX5_readAsking_21 ?_
      refine lv_iconst (v := 1) hx hb dX5_readAsking_24 (by decide) ?_
      refine lv_iadd hx hb dX5_readAsking_25 ?_
      refine lv_topi (fun f_5 ef_5 => ?_)
      obtain rfl : f_5 = nI (p1_2 + 1) := ef_5.trans (nI_1 _)
      refine va_put (D := Z.1) (ci := 5) (v := .int (nI (p1_2 + 1))) (ty := .int) (C := RX5) (T := TX5) (N := 3) hx hb hts hin5 tyX5 tyX5_ok nmX5 hown hK hP hD hS 3 rfl rfl 1 (by decide) (hts (.fieldLink RX5 15 "HalfAsked$Tape" "at" "I") (by decide +kernel)) (fun _ h9 => h9) rfl (by decide +kernel) rfl rfl (Nat.le_of_ble_eq_true rfl) dX5_readAsking_26 (fun H locs hP hD hS => ?_)
      have hP : va_P Z.1 vwCl [(h1, .inr (2, [.int (nI q), .int en, .ref k, .ref z])), (k, .inl (Z.2 0, 8, .inl pf)), (z, .inl (Z.2 0, 8, .inl pg)), (h0, .inr (5, [.int (nI n), .int (nI (p1_2 + 1)), .ref tk])), (tk, .inl (Z.2 1, 80, .inl f))] H := hP
      have hD : va_D A [(h1, .inr (2, [.int (nI q), .int en, .ref k, .ref z])), (k, .inl (Z.2 0, 8, .inl pf)), (z, .inl (Z.2 0, 8, .inl pg)), (h0, .inr (5, [.int (nI n), .int (nI (p1_2 + 1)), .ref tk])), (tk, .inl (Z.2 1, 80, .inl f))] := hD
      refine lv_aload_n hx hb dX5_readAsking_29 rfl (lv_at hl 1 rfl) ?_
      have hPc := hP.sub (ws' := [(h0, .inr (5, [.int (nI n), .int (nI (p1_2 + 1)), .ref tk])), (tk, .inl (Z.2 1, 80, .inl f))]) [3, 4] rfl
      have hDc := hD.sub (ws' := [(h0, .inr (5, [.int (nI n), .int (nI (p1_2 + 1)), .ref tk])), (tk, .inl (Z.2 1, 80, .inl f))]) [3, 4] (by decide) rfl
      have hFc := va_free (wc := [(h0, .inr (5, [.int (nI n), .int (nI (p1_2 + 1)), .ref tk])), (tk, .inl (Z.2 1, 80, .inl f))]) hD hS hA [3, 4] rfl
      refine va_calli (va_runV (As := []) (rest := []) ⟨hx, hb, hml, hown, hts⟩ (c_X5_look l Z H.size h0 tk n (p1_2 + 1) f (hn) (by omega) (hc)) (cwV 0 hts gX5_readAsking_X5_look rfl rfl rfl (by decide +kernel) ⟨Nat.le_of_ble_eq_true rfl, Nat.le_of_ble_eq_true rfl⟩) ⟨fun a U g mk q => by obtain ⟨q0, q1, qP, qK, qD⟩ := q; exact ⟨q0, q1, qP, va_K.moved (u := U) (U := U.calling g mk a) (Vm.Alike.refl U.vm) qK, qD⟩, va_recv hK hPc (ci := 5) (q0 := 0) rfl rfl, fun U hU hW => ⟨rfl, by rw [hU], by rw [hU]; exact hPc, va_K.moved hW.alike hK, hDc.weaken (fun _ _ _ _ => trivial)⟩⟩ rfl rfl hl.1 rfl (lv_room (Nat.le_of_ble_eq_true rfl)) dX5_readAsking_30 ⟨Nat.le_of_ble_eq_true rfl, Nat.le_of_ble_eq_true rfl⟩) hS (fun q _ h => hFc q h) hFc (fun r_6 u t9 H1 locs ht hvm hw hB hz1 hk1 hS => ?_)
      obtain ⟨p1_7, rfl⟩ : ∃ z, z = u := ⟨_, rfl⟩
      try dsimp only at hw hB
      have hwr_6 := hw
      obtain ⟨hP1, hD1⟩ := hB
      rw [ht] at hP1
      obtain ⟨hP, hD⟩ := va_join (wr := [(h1, .inr (2, [.int (nI q), .int en, .ref k, .ref z])), (k, .inl (Z.2 0, 8, .inl pf)), (z, .inl (Z.2 0, 8, .inl pg))]) (w1 := [(h0, .inr (5, [.int (nI n), .int (nI p1_7), .ref tk])), (tk, .inl (Z.2 1, 80, .inl f))]) hP hD [3, 4] [0, 1, 2] rfl rfl (by decide) (by decide) hk1 hFc hP1 hD1
      clear hPc hDc hP1 hD1 hk1 hz1 hFc ht hvm
      generalize H1 = H at hP hS ⊢
      have hP : va_P Z.1 vwCl [(h1, .inr (2, [.int (nI q), .int en, .ref k, .ref z])), (k, .inl (Z.2 0, 8, .inl pf)), (z, .inl (Z.2 0, 8, .inl pg)), (h0, .inr (5, [.int (nI n), .int (nI p1_7), .ref tk])), (tk, .inl (Z.2 1, 80, .inl f))] H := hP
      have hD : va_D A [(h1, .inr (2, [.int (nI q), .int en, .ref k, .ref z])), (k, .inl (Z.2 0, 8, .inl pf)), (z, .inl (Z.2 0, 8, .inl pg)), (h0, .inr (5, [.int (nI n), .int (nI p1_7), .ref tk])), (tk, .inl (Z.2 1, 80, .inl f))] := hD
      refine lv_bipush (v := 62) hx hb dX5_readAsking_33 (by decide) ?_
      refine lv_icmp_eq (tgt := 40) hx hb dX5_readAsking_35 (by decide) (fun c_8 => ?_) (fun c_8 => ?_)
      · have hq8 := hwr_6.1 (z_eq0 c_8 (by decide))
        refine lv_aload_n hx hb dX5_readAsking_40 rfl (lv_at hl 1 rfl) ?_
        refine lv_dup hx hb dX5_readAsking_41 rfl ?_
        refine va_get (D := Z.1) (ci := 5) (v := .int (nI p1_7)) (C := RX5) (T := TX5) (N := 3) hx hb hts hin5 hown hK hP 3 rfl rfl 1 (by decide) (hts (.fieldLink RX5 15 "HalfAsked$Tape" "at" "I") (by decide +kernel)) (fun _ h9 => h9) rfl dX5_readAsking_42 ?_
        refine lv_iconst (v := 1) hx hb dX5_readAsking_45 (by decide) ?_
        refine lv_iadd hx hb dX5_readAsking_46 ?_
        refine lv_topi (fun f_9 ef_9 => ?_)
        obtain rfl : f_9 = nI (p1_7 + 1) := ef_9.trans (nI_1 _)
        refine va_put (D := Z.1) (ci := 5) (v := .int (nI (p1_7 + 1))) (ty := .int) (C := RX5) (T := TX5) (N := 3) hx hb hts hin5 tyX5 tyX5_ok nmX5 hown hK hP hD hS 3 rfl rfl 1 (by decide) (hts (.fieldLink RX5 15 "HalfAsked$Tape" "at" "I") (by decide +kernel)) (fun _ h9 => h9) rfl (by decide +kernel) rfl rfl (Nat.le_of_ble_eq_true rfl) dX5_readAsking_47 (fun H locs hP hD hS => ?_)
        have hP : va_P Z.1 vwCl [(h1, .inr (2, [.int (nI q), .int en, .ref k, .ref z])), (k, .inl (Z.2 0, 8, .inl pf)), (z, .inl (Z.2 0, 8, .inl pg)), (h0, .inr (5, [.int (nI n), .int (nI (p1_7 + 1)), .ref tk])), (tk, .inl (Z.2 1, 80, .inl f))] H := hP
        have hD : va_D A [(h1, .inr (2, [.int (nI q), .int en, .ref k, .ref z])), (k, .inl (Z.2 0, 8, .inl pf)), (z, .inl (Z.2 0, 8, .inl pg)), (h0, .inr (5, [.int (nI n), .int (nI (p1_7 + 1)), .ref tk])), (tk, .inl (Z.2 1, 80, .inl f))] := hD
        refine lv_aload_n hx hb dX5_readAsking_50 rfl (lv_at hl 1 rfl) ?_
        have hPc := hP.sub (ws' := [(h0, .inr (5, [.int (nI n), .int (nI (p1_7 + 1)), .ref tk])), (tk, .inl (Z.2 1, 80, .inl f))]) [3, 4] rfl
        have hDc := hD.sub (ws' := [(h0, .inr (5, [.int (nI n), .int (nI (p1_7 + 1)), .ref tk])), (tk, .inl (Z.2 1, 80, .inl f))]) [3, 4] (by decide) rfl
        have hFc := va_free (wc := [(h0, .inr (5, [.int (nI n), .int (nI (p1_7 + 1)), .ref tk])), (tk, .inl (Z.2 1, 80, .inl f))]) hD hS hA [3, 4] rfl
        refine va_calli (va_runV (As := []) (rest := []) ⟨hx, hb, hml, hown, hts⟩ (c_X5_look l Z H.size h0 tk n (p1_7 + 1) f (hn) (by omega) (hc)) (cwV 0 hts gX5_readAsking_X5_look rfl rfl rfl (by decide +kernel) ⟨Nat.le_of_ble_eq_true rfl, Nat.le_of_ble_eq_true rfl⟩) ⟨fun a U g mk q => by obtain ⟨q0, q1, qP, qK, qD⟩ := q; exact ⟨q0, q1, qP, va_K.moved (u := U) (U := U.calling g mk a) (Vm.Alike.refl U.vm) qK, qD⟩, va_recv hK hPc (ci := 5) (q0 := 0) rfl rfl, fun U hU hW => ⟨rfl, by rw [hU], by rw [hU]; exact hPc, va_K.moved hW.alike hK, hDc.weaken (fun _ _ _ _ => trivial)⟩⟩ rfl rfl hl.1 rfl (lv_room (Nat.le_of_ble_eq_true rfl)) dX5_readAsking_51 ⟨Nat.le_of_ble_eq_true rfl, Nat.le_of_ble_eq_true rfl⟩) hS (fun q _ h => hFc q h) hFc (fun r_10 u t9 H1 locs ht hvm hw hB hz1 hk1 hS => ?_)
        obtain ⟨p1_11, rfl⟩ : ∃ z, z = u := ⟨_, rfl⟩
        try dsimp only at hw hB
        have hwr_10 := hw
        obtain ⟨hP1, hD1⟩ := hB
        rw [ht] at hP1
        obtain ⟨hP, hD⟩ := va_join (wr := [(h1, .inr (2, [.int (nI q), .int en, .ref k, .ref z])), (k, .inl (Z.2 0, 8, .inl pf)), (z, .inl (Z.2 0, 8, .inl pg))]) (w1 := [(h0, .inr (5, [.int (nI n), .int (nI p1_11), .ref tk])), (tk, .inl (Z.2 1, 80, .inl f))]) hP hD [3, 4] [0, 1, 2] rfl rfl (by decide) (by decide) hk1 hFc hP1 hD1
        clear hPc hDc hP1 hD1 hk1 hz1 hFc ht hvm
        generalize H1 = H at hP hS ⊢
        have hP : va_P Z.1 vwCl [(h1, .inr (2, [.int (nI q), .int en, .ref k, .ref z])), (k, .inl (Z.2 0, 8, .inl pf)), (z, .inl (Z.2 0, 8, .inl pg)), (h0, .inr (5, [.int (nI n), .int (nI p1_11), .ref tk])), (tk, .inl (Z.2 1, 80, .inl f))] H := hP
        have hD : va_D A [(h1, .inr (2, [.int (nI q), .int en, .ref k, .ref z])), (k, .inl (Z.2 0, 8, .inl pf)), (z, .inl (Z.2 0, 8, .inl pg)), (h0, .inr (5, [.int (nI n), .int (nI p1_11), .ref tk])), (tk, .inl (Z.2 1, 80, .inl f))] := hD
        refine lv_bipush (v := 48) hx hb dX5_readAsking_54 (by decide) ?_
        refine lv_isub hx hb dX5_readAsking_56 ?_
        refine lv_istore (lv' := [(4, .int (r_10 - 48)), (3, .int (r_1 - 48)), (0, .ref h0), (1, .ref h1), (2, .int (nI mm))]) hx hb dX5_readAsking_57 hl (by decide) rfl (fun ls hl => ?_)
        refine lv_iload hx hb dX5_readAsking_59 (lv_at hl 0 rfl) ?_
        refine lv_if_lt (tgt := 76) hx hb dX5_readAsking_61 (by decide) (fun c_12 => ?_) (fun c_12 => ?_)
        · refine lv_iconst (v := 0) hx hb dX5_readAsking_76 (by decide) ?_
          have hP9 := hP.sub (ws' := [(h0, .inr (5, [.int (nI n), .int (nI p1_11), .ref tk])), (tk, .inl (Z.2 1, 80, .inl f)), (h1, .inr (2, [.int (nI q), .int en, .ref k, .ref z])), (k, .inl (Z.2 0, 8, .inl pf)), (z, .inl (Z.2 0, 8, .inl pg))]) [3, 4, 0, 1, 2] rfl
          have hD9 := hD.sub (ws' := [(h0, .inr (5, [.int (nI n), .int (nI p1_11), .ref tk])), (tk, .inl (Z.2 1, 80, .inl f)), (h1, .inr (2, [.int (nI q), .int en, .ref k, .ref z])), (k, .inl (Z.2 0, 8, .inl pf)), (z, .inl (Z.2 0, 8, .inl pg))]) [3, 4, 0, 1, 2] (by decide) rfl
          exact W.zret (v := 0) hx hb hr rfl (fun t9 ht hW => ⟨⟨0, (p1_11, q, pf, pg), rfl, ⟨Or.inl rfl, by omega, by omega, hz⟩, by rw [ht]; exact hP9, hD9⟩, hS.F ht⟩) hS.2.2 dX5_readAsking_77
        · refine lv_iload hx hb dX5_readAsking_64 (lv_at hl 0 rfl) ?_
          refine lv_iload_n hx hb dX5_readAsking_66 rfl (lv_at hl 4 rfl) ?_
          refine lv_icmp_ge (tgt := 76) hx hb dX5_readAsking_67 (by decide) (fun c_13 => ?_) (fun c_13 => ?_)
          · refine lv_iconst (v := 0) hx hb dX5_readAsking_76 (by decide) ?_
            have hP9 := hP.sub (ws' := [(h0, .inr (5, [.int (nI n), .int (nI p1_11), .ref tk])), (tk, .inl (Z.2 1, 80, .inl f)), (h1, .inr (2, [.int (nI q), .int en, .ref k, .ref z])), (k, .inl (Z.2 0, 8, .inl pf)), (z, .inl (Z.2 0, 8, .inl pg))]) [3, 4, 0, 1, 2] rfl
            have hD9 := hD.sub (ws' := [(h0, .inr (5, [.int (nI n), .int (nI p1_11), .ref tk])), (tk, .inl (Z.2 1, 80, .inl f)), (h1, .inr (2, [.int (nI q), .int en, .ref k, .ref z])), (k, .inl (Z.2 0, 8, .inl pf)), (z, .inl (Z.2 0, 8, .inl pg))]) [3, 4, 0, 1, 2] (by decide) rfl
            exact W.zret (v := 0) hx hb hr rfl (fun t9 ht hW => ⟨⟨0, (p1_11, q, pf, pg), rfl, ⟨Or.inl rfl, by omega, by omega, hz⟩, by rw [ht]; exact hP9, hD9⟩, hS.F ht⟩) hS.2.2 dX5_readAsking_77
          · refine lv_iload hx hb dX5_readAsking_70 (lv_at hl 0 rfl) ?_
            refine lv_iload_n hx hb dX5_readAsking_72 rfl (lv_at hl 1 rfl) ?_
            refine lv_icmp_ne (tgt := 78) hx hb dX5_readAsking_73 (by decide) (fun c_14 => ?_) (fun c_14 => ?_)
            · have hq14 := hwr_10.1 (z_m48 c_12)
              refine lv_aload_n hx hb dX5_readAsking_78 rfl (lv_at hl 2 rfl) ?_
              refine lv_dup hx hb dX5_readAsking_79 rfl ?_
              refine va_get (D := Z.1) (ci := 5) (v := .int (nI p1_11)) (C := RX5) (T := TX5) (N := 3) hx hb hts hin5 hown hK hP 3 rfl rfl 1 (by decide) (hts (.fieldLink RX5 15 "HalfAsked$Tape" "at" "I") (by decide +kernel)) (fun _ h9 => h9) rfl dX5_readAsking_80 ?_
              refine lv_iconst (v := 1) hx hb dX5_readAsking_83 (by decide) ?_
              refine lv_iadd hx hb dX5_readAsking_84 ?_
              refine lv_topi (fun f_15 ef_15 => ?_)
              obtain rfl : f_15 = nI (p1_11 + 1) := ef_15.trans (nI_1 _)
              refine va_put (D := Z.1) (ci := 5) (v := .int (nI (p1_11 + 1))) (ty := .int) (C := RX5) (T := TX5) (N := 3) hx hb hts hin5 tyX5 tyX5_ok nmX5 hown hK hP hD hS 3 rfl rfl 1 (by decide) (hts (.fieldLink RX5 15 "HalfAsked$Tape" "at" "I") (by decide +kernel)) (fun _ h9 => h9) rfl (by decide +kernel) rfl rfl (Nat.le_of_ble_eq_true rfl) dX5_readAsking_85 (fun H locs hP hD hS => ?_)
              have hP : va_P Z.1 vwCl [(h1, .inr (2, [.int (nI q), .int en, .ref k, .ref z])), (k, .inl (Z.2 0, 8, .inl pf)), (z, .inl (Z.2 0, 8, .inl pg)), (h0, .inr (5, [.int (nI n), .int (nI (p1_11 + 1)), .ref tk])), (tk, .inl (Z.2 1, 80, .inl f))] H := hP
              have hD : va_D A [(h1, .inr (2, [.int (nI q), .int en, .ref k, .ref z])), (k, .inl (Z.2 0, 8, .inl pf)), (z, .inl (Z.2 0, 8, .inl pg)), (h0, .inr (5, [.int (nI n), .int (nI (p1_11 + 1)), .ref tk])), (tk, .inl (Z.2 1, 80, .inl f))] := hD
              refine lv_aload_n hx hb dX5_readAsking_88 rfl (lv_at hl 3 rfl) ?_
              refine lv_iload_n hx hb dX5_readAsking_89 rfl (lv_at hl 1 rfl) ?_
              refine lv_iload hx hb dX5_readAsking_90 (lv_at hl 0 rfl) ?_
              have hPc := hP.sub (ws' := [(h1, .inr (2, [.int (nI q), .int en, .ref k, .ref z])), (k, .inl (Z.2 0, 8, .inl pf)), (z, .inl (Z.2 0, 8, .inl pg))]) [0, 1, 2] rfl
              have hDc := hD.sub (ws' := [(h1, .inr (2, [.int (nI q), .int en, .ref k, .ref z])), (k, .inl (Z.2 0, 8, .inl pf)), (z, .inl (Z.2 0, 8, .inl pg))]) [0, 1, 2] (by decide) rfl
              have hFc := va_free (wc := [(h1, .inr (2, [.int (nI q), .int en, .ref k, .ref z])), (k, .inl (Z.2 0, 8, .inl pf)), (z, .inl (Z.2 0, 8, .inl pg))]) hD hS hA [0, 1, 2] rfl
              refine va_callv (va_runV (As := [.int (r_1 - 48), .int (r_10 - 48)]) (rest := []) ⟨hx, hb, hml, hown, hts⟩ (c_X2_add l Z H.size h1 q en k z pf pg (r_1 - 48) (r_10 - 48) (hq) (hz) (z_by2 hm c_3 c_4) (z_by hm c_12 c_13)) (cwV 2 hts gX5_readAsking_X2_add rfl rfl rfl (by decide +kernel) ⟨Nat.le_of_ble_eq_true rfl, Nat.le_of_ble_eq_true rfl⟩) ⟨fun a U g mk q => by obtain ⟨q0, q1, qP, qK, qD⟩ := q; exact ⟨q0, q1, qP, va_K.moved (u := U) (U := U.calling g mk a) (Vm.Alike.refl U.vm) qK, qD⟩, va_recv hK hPc (ci := 2) (q0 := 0) rfl rfl, fun U hU hW => ⟨rfl, by rw [hU], by rw [hU]; exact hPc, va_K.moved hW.alike hK, hDc.weaken (fun _ _ _ _ => trivial)⟩⟩ rfl rfl hl.1 rfl (lv_room (Nat.le_of_ble_eq_true rfl)) dX5_readAsking_92 ⟨Nat.le_of_ble_eq_true rfl, Nat.le_of_ble_eq_true rfl⟩) hS (fun q _ h => hFc q h) hFc (fun u t9 H1 locs ht hvm hw hB hz1 hk1 hS => ?_)
              obtain ⟨f1_17, g1_18⟩ := u
              try dsimp only at hw hB
              have hwr_16 := hw
              obtain ⟨hP1, hD1⟩ := hB
              rw [ht] at hP1
              obtain ⟨hP, hD⟩ := va_join (wr := [(h0, .inr (5, [.int (nI n), .int (nI (p1_11 + 1)), .ref tk])), (tk, .inl (Z.2 1, 80, .inl f))]) (w1 := [(h1, .inr (2, [.int (nI (q + 1)), .int en, .ref k, .ref z])), (k, .inl (Z.2 0, 8, .inl f1_17)), (z, .inl (Z.2 0, 8, .inl g1_18))]) hP hD [0, 1, 2] [3, 4] rfl rfl (by decide) (by decide) hk1 hFc hP1 hD1
              clear hPc hDc hP1 hD1 hk1 hz1 hFc ht hvm
              generalize H1 = H at hP hS ⊢
              have hP : va_P Z.1 vwCl [(h0, .inr (5, [.int (nI n), .int (nI (p1_11 + 1)), .ref tk])), (tk, .inl (Z.2 1, 80, .inl f)), (h1, .inr (2, [.int (nI (q + 1)), .int en, .ref k, .ref z])), (k, .inl (Z.2 0, 8, .inl f1_17)), (z, .inl (Z.2 0, 8, .inl g1_18))] H := hP
              have hD : va_D A [(h0, .inr (5, [.int (nI n), .int (nI (p1_11 + 1)), .ref tk])), (tk, .inl (Z.2 1, 80, .inl f)), (h1, .inr (2, [.int (nI (q + 1)), .int en, .ref k, .ref z])), (k, .inl (Z.2 0, 8, .inl f1_17)), (z, .inl (Z.2 0, 8, .inl g1_18))] := hD
              refine lv_iconst (v := 1) hx hb dX5_readAsking_95 (by decide) ?_
              have hP9 := hP.sub (ws' := [(h0, .inr (5, [.int (nI n), .int (nI (p1_11 + 1)), .ref tk])), (tk, .inl (Z.2 1, 80, .inl f)), (h1, .inr (2, [.int (nI (q + 1)), .int en, .ref k, .ref z])), (k, .inl (Z.2 0, 8, .inl f1_17)), (z, .inl (Z.2 0, 8, .inl g1_18))]) [0, 1, 2, 3, 4] rfl
              have hD9 := hD.sub (ws' := [(h0, .inr (5, [.int (nI n), .int (nI (p1_11 + 1)), .ref tk])), (tk, .inl (Z.2 1, 80, .inl f)), (h1, .inr (2, [.int (nI (q + 1)), .int en, .ref k, .ref z])), (k, .inl (Z.2 0, 8, .inl f1_17)), (z, .inl (Z.2 0, 8, .inl g1_18))]) [0, 1, 2, 3, 4] (by decide) rfl
              exact W.zret (v := 1) hx hb hr rfl (fun t9 ht hW => ⟨⟨1, ((p1_11 + 1), (q + 1), f1_17, g1_18), rfl, ⟨Or.inr ⟨rfl, by omega⟩, by omega, by omega, hwr_16⟩, by rw [ht]; exact hP9, hD9⟩, hS.F ht⟩) hS.2.2 dX5_readAsking_96
            · refine lv_iconst (v := 0) hx hb dX5_readAsking_76 (by decide) ?_
              have hP9 := hP.sub (ws' := [(h0, .inr (5, [.int (nI n), .int (nI p1_11), .ref tk])), (tk, .inl (Z.2 1, 80, .inl f)), (h1, .inr (2, [.int (nI q), .int en, .ref k, .ref z])), (k, .inl (Z.2 0, 8, .inl pf)), (z, .inl (Z.2 0, 8, .inl pg))]) [3, 4, 0, 1, 2] rfl
              have hD9 := hD.sub (ws' := [(h0, .inr (5, [.int (nI n), .int (nI p1_11), .ref tk])), (tk, .inl (Z.2 1, 80, .inl f)), (h1, .inr (2, [.int (nI q), .int en, .ref k, .ref z])), (k, .inl (Z.2 0, 8, .inl pf)), (z, .inl (Z.2 0, 8, .inl pg))]) [3, 4, 0, 1, 2] (by decide) rfl
              exact W.zret (v := 0) hx hb hr rfl (fun t9 ht hW => ⟨⟨0, (p1_11, q, pf, pg), rfl, ⟨Or.inl rfl, by omega, by omega, hz⟩, by rw [ht]; exact hP9, hD9⟩, hS.F ht⟩) hS.2.2 dX5_readAsking_77
      · refine lv_iconst (v := 0) hx hb dX5_readAsking_38 (by decide) ?_
        have hP9 := hP.sub (ws' := [(h0, .inr (5, [.int (nI n), .int (nI p1_7), .ref tk])), (tk, .inl (Z.2 1, 80, .inl f)), (h1, .inr (2, [.int (nI q), .int en, .ref k, .ref z])), (k, .inl (Z.2 0, 8, .inl pf)), (z, .inl (Z.2 0, 8, .inl pg))]) [3, 4, 0, 1, 2] rfl
        have hD9 := hD.sub (ws' := [(h0, .inr (5, [.int (nI n), .int (nI p1_7), .ref tk])), (tk, .inl (Z.2 1, 80, .inl f)), (h1, .inr (2, [.int (nI q), .int en, .ref k, .ref z])), (k, .inl (Z.2 0, 8, .inl pf)), (z, .inl (Z.2 0, 8, .inl pg))]) [3, 4, 0, 1, 2] (by decide) rfl
        exact W.zret (v := 0) hx hb hr rfl (fun t9 ht hW => ⟨⟨0, (p1_7, q, pf, pg), rfl, ⟨Or.inl rfl, by omega, by omega, hz⟩, by rw [ht]; exact hP9, hD9⟩, hS.F ht⟩) hS.2.2 dX5_readAsking_39
    · refine lv_iconst (v := 0) hx hb dX5_readAsking_17 (by decide) ?_
      have hP9 := hP.sub (ws' := [(h0, .inr (5, [.int (nI n), .int (nI p1_2), .ref tk])), (tk, .inl (Z.2 1, 80, .inl f)), (h1, .inr (2, [.int (nI q), .int en, .ref k, .ref z])), (k, .inl (Z.2 0, 8, .inl pf)), (z, .inl (Z.2 0, 8, .inl pg))]) [3, 4, 0, 1, 2] rfl
      have hD9 := hD.sub (ws' := [(h0, .inr (5, [.int (nI n), .int (nI p1_2), .ref tk])), (tk, .inl (Z.2 1, 80, .inl f)), (h1, .inr (2, [.int (nI q), .int en, .ref k, .ref z])), (k, .inl (Z.2 0, 8, .inl pf)), (z, .inl (Z.2 0, 8, .inl pg))]) [3, 4, 0, 1, 2] (by decide) rfl
      exact W.zret (v := 0) hx hb hr rfl (fun t9 ht hW => ⟨⟨0, (p1_2, q, pf, pg), rfl, ⟨Or.inl rfl, by omega, by omega, hz⟩, by rw [ht]; exact hP9, hD9⟩, hS.F ht⟩) hS.2.2 dX5_readAsking_18
set_option maxHeartbeats 4000000 in
set_option maxRecDepth 100000 in
theorem lp_X5_readPlan {p : Program} {l : Launch} {e : Env} {s : State} {m : MethodId} {args : Array Value} {below : List Frame} {meth : Method} {c : Code} {Q : State → Prop} {A : Nat → Prop} (Z : gZ) (h0 : Nat) (tk : Nat) (n : Nat) (f : Nat → Int32) (h1 : Nat) (k : Nat) (z : Nat) (mm : Nat) (hn : n ≤ 80) (hc : zC f) (hm : mm ≤ 5) (hx : p.tables.exec = Jvm.exec) (hb : c.code = cX5_readPlan) (hml : c.maxLocals = 5) (hts : ∀ w ∈ wsX5_readPlan, w.before args s = true) (hown : s.vm.findClass RX5 = some m.cls) (hK : va_K Z.1 vwCl (gT Z) s) (hA : ∀ q : Nat, s.heap.size ≤ q → A q) (kx_25 : ∀ (ps : Nat) (q : Nat) (j : Nat) (en : Int32) (x : Int32) (pf : Nat → Int32) (pg : Nat → Int32) (H : Heap) (locs : List Loc) (ls : Array Slot), ((ps ≤ n ∧ q ≤ 8) ∧ zP q pf pg) → va_P Z.1 vwCl [(h0, .inr (5, [.int (nI n), .int (nI ps), .ref tk])), (tk, .inl (Z.2 1, 80, .inl f)), (h1, .inr (2, [.int (nI q), .int en, .ref k, .ref z])), (k, .inl (Z.2 0, 8, .inl pf)), (z, .inl (Z.2 0, 8, .inl pg))] H → va_D A [(h0, .inr (5, [.int (nI n), .int (nI ps), .ref tk])), (tk, .inl (Z.2 1, 80, .inl f)), (h1, .inr (2, [.int (nI q), .int en, .ref k, .ref z])), (k, .inl (Z.2 0, 8, .inl pf)), (z, .inl (Z.2 0, 8, .inl pg))] → va_S A s.heap H locs → lv_has ls 5 [(0, .ref h0), (1, .ref h1), (2, .int (nI mm)), (3, .int x)] → W p l e ({ frames := 6, cells := 0, slots := 0, locals := 300 } : Room) s m args below meth c H locs 0 0 Q (F0 m 25 ls [])) (kx_80 : ∀ (ps : Nat) (q : Nat) (j : Nat) (en : Int32) (x : Int32) (pf : Nat → Int32) (pg : Nat → Int32) (H : Heap) (locs : List Loc) (ls : Array Slot), ((ps ≤ n ∧ q ≤ 8) ∧ zP q pf pg) → va_P Z.1 vwCl [(h0, .inr (5, [.int (nI n), .int (nI ps), .ref tk])), (tk, .inl (Z.2 1, 80, .inl f)), (h1, .inr (2, [.int (nI q), .int en, .ref k, .ref z])), (k, .inl (Z.2 0, 8, .inl pf)), (z, .inl (Z.2 0, 8, .inl pg))] H → va_D A [(h0, .inr (5, [.int (nI n), .int (nI ps), .ref tk])), (tk, .inl (Z.2 1, 80, .inl f)), (h1, .inr (2, [.int (nI q), .int en, .ref k, .ref z])), (k, .inl (Z.2 0, 8, .inl pf)), (z, .inl (Z.2 0, 8, .inl pg))] → va_S A s.heap H locs → lv_has ls 5 [(0, .ref h0), (1, .ref h1), (2, .int (nI mm)), (3, .int x)] → W p l e ({ frames := 6, cells := 0, slots := 0, locals := 300 } : Room) s m args below meth c H locs 0 0 Q (F0 m 80 ls [])) (kx_103 : ∀ (ps : Nat) (q : Nat) (j : Nat) (en : Int32) (x : Int32) (pf : Nat → Int32) (pg : Nat → Int32) (H : Heap) (locs : List Loc) (ls : Array Slot), ((ps ≤ n ∧ q ≤ 8) ∧ zP q pf pg) → va_P Z.1 vwCl [(h0, .inr (5, [.int (nI n), .int (nI ps), .ref tk])), (tk, .inl (Z.2 1, 80, .inl f)), (h1, .inr (2, [.int (nI q), .int en, .ref k, .ref z])), (k, .inl (Z.2 0, 8, .inl pf)), (z, .inl (Z.2 0, 8, .inl pg))] H → va_D A [(h0, .inr (5, [.int (nI n), .int (nI ps), .ref tk])), (tk, .inl (Z.2 1, 80, .inl f)), (h1, .inr (2, [.int (nI q), .int en, .ref k, .ref z])), (k, .inl (Z.2 0, 8, .inl pf)), (z, .inl (Z.2 0, 8, .inl pg))] → va_S A s.heap H locs → lv_has ls 5 [(0, .ref h0), (1, .ref h1), (2, .int (nI mm)), (3, .int x)] → W p l e ({ frames := 6, cells := 0, slots := 0, locals := 300 } : Room) s m args below meth c H locs 0 0 Q (F0 m 103 ls [])) (kx_134 : ∀ (ps : Nat) (q : Nat) (j : Nat) (en : Int32) (x : Int32) (pf : Nat → Int32) (pg : Nat → Int32) (H : Heap) (locs : List Loc) (ls : Array Slot), ((ps ≤ n ∧ q ≤ 8) ∧ zP q pf pg) → va_P Z.1 vwCl [(h0, .inr (5, [.int (nI n), .int (nI ps), .ref tk])), (tk, .inl (Z.2 1, 80, .inl f)), (h1, .inr (2, [.int (nI q), .int en, .ref k, .ref z])), (k, .inl (Z.2 0, 8, .inl pf)), (z, .inl (Z.2 0, 8, .inl pg))] H → va_D A [(h0, .inr (5, [.int (nI n), .int (nI ps), .ref tk])), (tk, .inl (Z.2 1, 80, .inl f)), (h1, .inr (2, [.int (nI q), .int en, .ref k, .ref z])), (k, .inl (Z.2 0, 8, .inl pf)), (z, .inl (Z.2 0, 8, .inl pg))] → va_S A s.heap H locs → lv_has ls 5 [(0, .ref h0), (1, .ref h1), (2, .int (nI mm)), (3, .int x)] → W p l e ({ frames := 6, cells := 0, slots := 0, locals := 300 } : Room) s m args below meth c H locs 0 0 Q (F0 m 134 ls [])) : ∀ (fu9 : Nat) (ps : Nat) (q : Nat) (j : Nat) (en : Int32) (x : Int32) (pf : Nat → Int32) (pg : Nat → Int32), j < fu9 → (ps ≤ n) → (q + j ≤ 8) → (z_dn j x) → (zP q pf pg) → ∀ (H : Heap) (locs : List Loc) (ls : Array Slot), va_P Z.1 vwCl [(h0, .inr (5, [.int (nI n), .int (nI ps), .ref tk])), (tk, .inl (Z.2 1, 80, .inl f)), (h1, .inr (2, [.int (nI q), .int en, .ref k, .ref z])), (k, .inl (Z.2 0, 8, .inl pf)), (z, .inl (Z.2 0, 8, .inl pg))] H → va_D A [(h0, .inr (5, [.int (nI n), .int (nI ps), .ref tk])), (tk, .inl (Z.2 1, 80, .inl f)), (h1, .inr (2, [.int (nI q), .int en, .ref k, .ref z])), (k, .inl (Z.2 0, 8, .inl pf)), (z, .inl (Z.2 0, 8, .inl pg))] → va_S A s.heap H locs → lv_has ls 5 [(0, .ref h0), (1, .ref h1), (2, .int (nI mm)), (3, .int x)] → W p l e ({ frames := 6, cells := 0, slots := 0, locals := 300 } : Room) s m args below meth c H locs 0 0 Q (F0 m 12 ls []) := by
  have hin2 : ∀ w ∈ wsX20, w ∈ wsX5_readPlan := by decide +kernel
  have hin5 : ∀ w ∈ wsX50, w ∈ wsX5_readPlan := by decide +kernel
  intro fu9
  induction fu9 with
  | zero => intro ps q j en x pf pg hf9; exact absurd hf9 (Nat.not_lt_zero _)
  | succ fu9 ih =>
    intro ps q j en x pf pg hf9 hp hqj hx0 hzz H locs ls hP hD hS hl
    rcases hx0 with ⟨rfl, rfl⟩ | ⟨y, rfl, rfl⟩
    · refine lv_iload_n hx hb dX5_readPlan_12 rfl (lv_at hl 3 rfl) ?_
      refine lv_if_lt (tgt := 134) hx hb dX5_readPlan_13 (by decide) (fun _ => ?_) (fun c9 => absurd c9 (by decide))
      exact kx_134 ps q 0 en (-1) pf pg H locs ls (⟨⟨by omega, by omega⟩, hzz⟩) hP hD hS (lv_sub hl [0, 1, 2, 3] rfl)
    · refine lv_iload_n hx hb dX5_readPlan_12 rfl (lv_at hl 3 rfl) ?_
      refine lv_if_lt (tgt := 134) hx hb dX5_readPlan_13 (by decide) (fun c9 => absurd c9 (nI_pos (by omega))) (fun _ => ?_)
      refine lv_aload_n hx hb dX5_readPlan_16 rfl (lv_at hl 0 rfl) ?_
      refine lv_aload_n hx hb dX5_readPlan_17 rfl (lv_at hl 1 rfl) ?_
      refine lv_iload_n hx hb dX5_readPlan_18 rfl (lv_at hl 2 rfl) ?_
      have hPc := hP.sub (ws' := [(h0, .inr (5, [.int (nI n), .int (nI ps), .ref tk])), (tk, .inl (Z.2 1, 80, .inl f)), (h1, .inr (2, [.int (nI q), .int en, .ref k, .ref z])), (k, .inl (Z.2 0, 8, .inl pf)), (z, .inl (Z.2 0, 8, .inl pg))]) [0, 1, 2, 3, 4] rfl
      have hDc := hD.sub (ws' := [(h0, .inr (5, [.int (nI n), .int (nI ps), .ref tk])), (tk, .inl (Z.2 1, 80, .inl f)), (h1, .inr (2, [.int (nI q), .int en, .ref k, .ref z])), (k, .inl (Z.2 0, 8, .inl pf)), (z, .inl (Z.2 0, 8, .inl pg))]) [0, 1, 2, 3, 4] (by decide) rfl
      have hFc := va_free (wc := [(h0, .inr (5, [.int (nI n), .int (nI ps), .ref tk])), (tk, .inl (Z.2 1, 80, .inl f)), (h1, .inr (2, [.int (nI q), .int en, .ref k, .ref z])), (k, .inl (Z.2 0, 8, .inl pf)), (z, .inl (Z.2 0, 8, .inl pg))]) hD hS hA [0, 1, 2, 3, 4] rfl
      refine va_calli (va_runV (As := [.ref h1, .int (nI mm)]) (rest := []) ⟨hx, hb, hml, hown, hts⟩ (c_X5_readAsking l Z H.size h0 tk n ps f h1 q en k z pf pg mm (hn) (by omega) (hc) (by omega) (hzz) (hm)) (cwV 2 hts gX5_readPlan_X5_readAsking rfl rfl rfl (by decide +kernel) ⟨Nat.le_of_ble_eq_true rfl, Nat.le_of_ble_eq_true rfl⟩) ⟨fun a U g mk q => by obtain ⟨q0, q1, qP, qK, qD⟩ := q; exact ⟨q0, q1, qP, va_K.moved (u := U) (U := U.calling g mk a) (Vm.Alike.refl U.vm) qK, qD⟩, va_recv hK hPc (ci := 5) (q0 := 0) rfl rfl, fun U hU hW => ⟨rfl, by rw [hU], by rw [hU]; exact hPc, va_K.moved hW.alike hK, hDc.weaken (fun _ _ _ _ => trivial)⟩⟩ rfl rfl hl.1 rfl (lv_room (Nat.le_of_ble_eq_true rfl)) dX5_readPlan_19 ⟨Nat.le_of_ble_eq_true rfl, Nat.le_of_ble_eq_true rfl⟩) hS (fun q _ h => hFc q h) hFc (fun r_1 u t9 H1 locs ht hvm hw hB hz1 hk1 hS => ?_)
      obtain ⟨p1_2, q1_3, pf1_4, pg1_5⟩ := u
      try dsimp only at hw hB
      have hwr_1 := hw
      obtain ⟨hP1, hD1⟩ := hB
      rw [ht] at hP1
      obtain ⟨hP, hD⟩ := va_join (wr := []) (w1 := [(h0, .inr (5, [.int (nI n), .int (nI p1_2), .ref tk])), (tk, .inl (Z.2 1, 80, .inl f)), (h1, .inr (2, [.int (nI q1_3), .int en, .ref k, .ref z])), (k, .inl (Z.2 0, 8, .inl pf1_4)), (z, .inl (Z.2 0, 8, .inl pg1_5))]) hP hD [0, 1, 2, 3, 4] [] rfl rfl (by decide) (by decide) hk1 hFc hP1 hD1
      clear hPc hDc hP1 hD1 hk1 hz1 hFc ht hvm
      generalize H1 = H at hP hS ⊢
      have hP : va_P Z.1 vwCl [(h0, .inr (5, [.int (nI n), .int (nI p1_2), .ref tk])), (tk, .inl (Z.2 1, 80, .inl f)), (h1, .inr (2, [.int (nI q1_3), .int en, .ref k, .ref z])), (k, .inl (Z.2 0, 8, .inl pf1_4)), (z, .inl (Z.2 0, 8, .inl pg1_5))] H := hP
      have hD : va_D A [(h0, .inr (5, [.int (nI n), .int (nI p1_2), .ref tk])), (tk, .inl (Z.2 1, 80, .inl f)), (h1, .inr (2, [.int (nI q1_3), .int en, .ref k, .ref z])), (k, .inl (Z.2 0, 8, .inl pf1_4)), (z, .inl (Z.2 0, 8, .inl pg1_5))] := hD
      have hr5 := hwr_1
      rcases hr5.1 with rfl | ⟨rfl, h15⟩
      · refine lv_if_ne (tgt := 33) hx hb dX5_readPlan_22 (by decide) (fun c9 => absurd c9 (by decide)) (fun _ => ?_)
        exact kx_25 p1_2 q1_3 (y + 1) en (nI y) pf1_4 pg1_5 H locs ls (⟨⟨by omega, by omega⟩, hwr_1.2.2.2⟩) hP hD hS (lv_sub hl [0, 1, 2, 3] rfl)
      · refine lv_if_ne (tgt := 33) hx hb dX5_readPlan_22 (by decide) (fun _ => ?_) (fun c9 => absurd c9 (by decide))
        refine lv_aload_n hx hb dX5_readPlan_33 rfl (lv_at hl 0 rfl) ?_
        have hPc := hP.sub (ws' := [(h0, .inr (5, [.int (nI n), .int (nI p1_2), .ref tk])), (tk, .inl (Z.2 1, 80, .inl f))]) [0, 1] rfl
        have hDc := hD.sub (ws' := [(h0, .inr (5, [.int (nI n), .int (nI p1_2), .ref tk])), (tk, .inl (Z.2 1, 80, .inl f))]) [0, 1] (by decide) rfl
        have hFc := va_free (wc := [(h0, .inr (5, [.int (nI n), .int (nI p1_2), .ref tk])), (tk, .inl (Z.2 1, 80, .inl f))]) hD hS hA [0, 1] rfl
        refine va_calli (va_runV (As := []) (rest := []) ⟨hx, hb, hml, hown, hts⟩ (c_X5_look l Z H.size h0 tk n p1_2 f (hn) (by omega) (hc)) (cwV 0 hts gX5_readPlan_X5_look rfl rfl rfl (by decide +kernel) ⟨Nat.le_of_ble_eq_true rfl, Nat.le_of_ble_eq_true rfl⟩) ⟨fun a U g mk q => by obtain ⟨q0, q1, qP, qK, qD⟩ := q; exact ⟨q0, q1, qP, va_K.moved (u := U) (U := U.calling g mk a) (Vm.Alike.refl U.vm) qK, qD⟩, va_recv hK hPc (ci := 5) (q0 := 0) rfl rfl, fun U hU hW => ⟨rfl, by rw [hU], by rw [hU]; exact hPc, va_K.moved hW.alike hK, hDc.weaken (fun _ _ _ _ => trivial)⟩⟩ rfl rfl hl.1 rfl (lv_room (Nat.le_of_ble_eq_true rfl)) dX5_readPlan_34 ⟨Nat.le_of_ble_eq_true rfl, Nat.le_of_ble_eq_true rfl⟩) hS (fun q _ h => hFc q h) hFc (fun r_6 u t9 H1 locs ht hvm hw hB hz1 hk1 hS => ?_)
        obtain ⟨p1_7, rfl⟩ : ∃ z, z = u := ⟨_, rfl⟩
        try dsimp only at hw hB
        have hwr_6 := hw
        obtain ⟨hP1, hD1⟩ := hB
        rw [ht] at hP1
        obtain ⟨hP, hD⟩ := va_join (wr := [(h1, .inr (2, [.int (nI q1_3), .int en, .ref k, .ref z])), (k, .inl (Z.2 0, 8, .inl pf1_4)), (z, .inl (Z.2 0, 8, .inl pg1_5))]) (w1 := [(h0, .inr (5, [.int (nI n), .int (nI p1_7), .ref tk])), (tk, .inl (Z.2 1, 80, .inl f))]) hP hD [0, 1] [2, 3, 4] rfl rfl (by decide) (by decide) hk1 hFc hP1 hD1
        clear hPc hDc hP1 hD1 hk1 hz1 hFc ht hvm
        generalize H1 = H at hP hS ⊢
        have hP : va_P Z.1 vwCl [(h1, .inr (2, [.int (nI q1_3), .int en, .ref k, .ref z])), (k, .inl (Z.2 0, 8, .inl pf1_4)), (z, .inl (Z.2 0, 8, .inl pg1_5)), (h0, .inr (5, [.int (nI n), .int (nI p1_7), .ref tk])), (tk, .inl (Z.2 1, 80, .inl f))] H := hP
        have hD : va_D A [(h1, .inr (2, [.int (nI q1_3), .int en, .ref k, .ref z])), (k, .inl (Z.2 0, 8, .inl pf1_4)), (z, .inl (Z.2 0, 8, .inl pg1_5)), (h0, .inr (5, [.int (nI n), .int (nI p1_7), .ref tk])), (tk, .inl (Z.2 1, 80, .inl f))] := hD
        refine lv_istore (lv' := [(4, .int r_6), (0, .ref h0), (1, .ref h1), (2, .int (nI mm)), (3, .int (nI y))]) hx hb dX5_readPlan_37 hl (by decide) rfl (fun ls hl => ?_)
        refine lv_iload hx hb dX5_readPlan_39 (lv_at hl 0 rfl) ?_
        refine lv_bipush (v := 59) hx hb dX5_readPlan_41 (by decide) ?_
        refine lv_icmp_ne (tgt := 73) hx hb dX5_readPlan_43 (by decide) (fun c_8 => ?_) (fun c_8 => ?_)
        · refine lv_aload_n hx hb dX5_readPlan_73 rfl (lv_at hl 1 rfl) ?_
          have hPc := hP.sub (ws' := [(h0, .inr (5, [.int (nI n), .int (nI p1_7), .ref tk])), (tk, .inl (Z.2 1, 80, .inl f))]) [3, 4] rfl
          have hDc := hD.sub (ws' := [(h0, .inr (5, [.int (nI n), .int (nI p1_7), .ref tk])), (tk, .inl (Z.2 1, 80, .inl f))]) [3, 4] (by decide) rfl
          have hFc := va_free (wc := [(h0, .inr (5, [.int (nI n), .int (nI p1_7), .ref tk])), (tk, .inl (Z.2 1, 80, .inl f))]) hD hS hA [3, 4] rfl
          refine va_calli (va_runV (As := []) (rest := []) ⟨hx, hb, hml, hown, hts⟩ (c_X5_look l Z H.size h0 tk n p1_7 f (hn) (by omega) (hc)) (cwV 0 hts gX5_readPlan_X5_look rfl rfl rfl (by decide +kernel) ⟨Nat.le_of_ble_eq_true rfl, Nat.le_of_ble_eq_true rfl⟩) ⟨fun a U g mk q => by obtain ⟨q0, q1, qP, qK, qD⟩ := q; exact ⟨q0, q1, qP, va_K.moved (u := U) (U := U.calling g mk a) (Vm.Alike.refl U.vm) qK, qD⟩, va_recv hK hPc (ci := 5) (q0 := 0) rfl rfl, fun U hU hW => ⟨rfl, by rw [hU], by rw [hU]; exact hPc, va_K.moved hW.alike hK, hDc.weaken (fun _ _ _ _ => trivial)⟩⟩ rfl rfl hl.1 rfl (lv_room (Nat.le_of_ble_eq_true rfl)) dX5_readPlan_74 ⟨Nat.le_of_ble_eq_true rfl, Nat.le_of_ble_eq_true rfl⟩) hS (fun q _ h => hFc q h) hFc (fun r_9 u t9 H1 locs ht hvm hw hB hz1 hk1 hS => ?_)
          obtain ⟨p1_10, rfl⟩ : ∃ z, z = u := ⟨_, rfl⟩
          try dsimp only at hw hB
          have hwr_9 := hw
          obtain ⟨hP1, hD1⟩ := hB
          rw [ht] at hP1
          obtain ⟨hP, hD⟩ := va_join (wr := [(h1, .inr (2, [.int (nI q1_3), .int en, .ref k, .ref z])), (k, .inl (Z.2 0, 8, .inl pf1_4)), (z, .inl (Z.2 0, 8, .inl pg1_5))]) (w1 := [(h0, .inr (5, [.int (nI n), .int (nI p1_10), .ref tk])), (tk, .inl (Z.2 1, 80, .inl f))]) hP hD [3, 4] [0, 1, 2] rfl rfl (by decide) (by decide) hk1 hFc hP1 hD1
          clear hPc hDc hP1 hD1 hk1 hz1 hFc ht hvm
          generalize H1 = H at hP hS ⊢
          have hP : va_P Z.1 vwCl [(h1, .inr (2, [.int (nI q1_3), .int en, .ref k, .ref z])), (k, .inl (Z.2 0, 8, .inl pf1_4)), (z, .inl (Z.2 0, 8, .inl pg1_5)), (h0, .inr (5, [.int (nI n), .int (nI p1_10), .ref tk])), (tk, .inl (Z.2 1, 80, .inl f))] H := hP
          have hD : va_D A [(h1, .inr (2, [.int (nI q1_3), .int en, .ref k, .ref z])), (k, .inl (Z.2 0, 8, .inl pf1_4)), (z, .inl (Z.2 0, 8, .inl pg1_5)), (h0, .inr (5, [.int (nI n), .int (nI p1_10), .ref tk])), (tk, .inl (Z.2 1, 80, .inl f))] := hD
          refine lv_if_ne (tgt := 85) hx hb dX5_readPlan_77 (by decide) (fun c_11 => ?_) (fun c_11 => ?_)
          · refine lv_iload_n hx hb dX5_readPlan_85 rfl (lv_at hl 4 rfl) ?_
            refine lv_if_eq (tgt := 103) hx hb dX5_readPlan_86 (by decide) (fun c_12 => ?_) (fun c_12 => ?_)
            · exact kx_103 p1_10 q1_3 (y + 1) en (nI y) pf1_4 pg1_5 H locs ls (⟨⟨by omega, by omega⟩, hwr_1.2.2.2⟩) (hP.sub [3, 4, 0, 1, 2] rfl) (hD.sub [3, 4, 0, 1, 2] (by decide) rfl) hS (lv_sub hl [1, 2, 3, 4] rfl)
            · refine lv_iload hx hb dX5_readPlan_89 (lv_at hl 0 rfl) ?_
              refine lv_bipush (v := 44) hx hb dX5_readPlan_91 (by decide) ?_
              refine lv_icmp_eq (tgt := 111) hx hb dX5_readPlan_93 (by decide) (fun c_13 => ?_) (fun c_13 => ?_)
              · refine lv_iload hx hb dX5_readPlan_111 (lv_at hl 0 rfl) ?_
                refine lv_bipush (v := 44) hx hb dX5_readPlan_113 (by decide) ?_
                refine lv_icmp_ne (tgt := 128) hx hb dX5_readPlan_115 (by decide) (fun c9 => absurd c_13 c9) (fun _ => ?_)
                have hq13 := hwr_9.1 c_11
                refine lv_aload_n hx hb dX5_readPlan_118 rfl (lv_at hl 1 rfl) ?_
                refine lv_dup hx hb dX5_readPlan_119 rfl ?_
                refine va_get (D := Z.1) (ci := 5) (v := .int (nI p1_10)) (C := RX5) (T := TX5) (N := 3) hx hb hts hin5 hown hK hP 3 rfl rfl 1 (by decide) (hts (.fieldLink RX5 15 "HalfAsked$Tape" "at" "I") (by decide +kernel)) (fun _ h9 => h9) rfl dX5_readPlan_120 ?_
                refine lv_iconst (v := 1) hx hb dX5_readPlan_123 (by decide) ?_
                refine lv_iadd hx hb dX5_readPlan_124 ?_
                refine lv_topi (fun f_14 ef_14 => ?_)
                obtain rfl : f_14 = nI (p1_10 + 1) := ef_14.trans (nI_1 _)
                refine va_put (D := Z.1) (ci := 5) (v := .int (nI (p1_10 + 1))) (ty := .int) (C := RX5) (T := TX5) (N := 3) hx hb hts hin5 tyX5 tyX5_ok nmX5 hown hK hP hD hS 3 rfl rfl 1 (by decide) (hts (.fieldLink RX5 15 "HalfAsked$Tape" "at" "I") (by decide +kernel)) (fun _ h9 => h9) rfl (by decide +kernel) rfl rfl (Nat.le_of_ble_eq_true rfl) dX5_readPlan_125 (fun H locs hP hD hS => ?_)
                have hP : va_P Z.1 vwCl [(h1, .inr (2, [.int (nI q1_3), .int en, .ref k, .ref z])), (k, .inl (Z.2 0, 8, .inl pf1_4)), (z, .inl (Z.2 0, 8, .inl pg1_5)), (h0, .inr (5, [.int (nI n), .int (nI (p1_10 + 1)), .ref tk])), (tk, .inl (Z.2 1, 80, .inl f))] H := hP
                have hD : va_D A [(h1, .inr (2, [.int (nI q1_3), .int en, .ref k, .ref z])), (k, .inl (Z.2 0, 8, .inl pf1_4)), (z, .inl (Z.2 0, 8, .inl pg1_5)), (h0, .inr (5, [.int (nI n), .int (nI (p1_10 + 1)), .ref tk])), (tk, .inl (Z.2 1, 80, .inl f))] := hD
                refine lv_iinc (v := nI y + (-1)) (lv' := [(3, .int (nI y + (-1))), (4, .int r_6), (0, .ref h0), (1, .ref h1), (2, .int (nI mm))]) hx hb dX5_readPlan_128 hl (k := 4) rfl rfl (by decide) rfl (fun ls hl => ?_)
                refine lv_goto (tgt := 12) hx hb dX5_readPlan_131 (by decide) ?_
                exact ih (p1_10 + 1) q1_3 y en (nI y + (-1)) pf1_4 pg1_5 (by omega) (by omega) (by omega) (z_dn_step y) (hwr_1.2.2.2) H locs ls (hP.sub [3, 4, 0, 1, 2] rfl) (hD.sub [3, 4, 0, 1, 2] (by decide) rfl) hS (lv_sub hl [2, 3, 4, 0] rfl)
              · refine lv_iload hx hb dX5_readPlan_96 (lv_at hl 0 rfl) ?_
                refine lv_bipush (v := 59) hx hb dX5_readPlan_98 (by decide) ?_
                refine lv_icmp_eq (tgt := 111) hx hb dX5_readPlan_100 (by decide) (fun c9 => absurd c9 c_8) (fun _ => ?_)
                exact kx_103 p1_10 q1_3 (y + 1) en (nI y) pf1_4 pg1_5 H locs ls (⟨⟨by omega, by omega⟩, hwr_1.2.2.2⟩) (hP.sub [3, 4, 0, 1, 2] rfl) (hD.sub [3, 4, 0, 1, 2] (by decide) rfl) hS (lv_sub hl [1, 2, 3, 4] rfl)
          · exact kx_80 p1_10 q1_3 (y + 1) en (nI y) pf1_4 pg1_5 H locs ls (⟨⟨by omega, by omega⟩, hwr_1.2.2.2⟩) (hP.sub [3, 4, 0, 1, 2] rfl) (hD.sub [3, 4, 0, 1, 2] (by decide) rfl) hS (lv_sub hl [1, 2, 3, 4] rfl)
        · have hq14 := hwr_6.1 (z_eq0 c_8 (by decide))
          refine lv_aload_n hx hb dX5_readPlan_46 rfl (lv_at hl 2 rfl) ?_
          refine lv_dup hx hb dX5_readPlan_47 rfl ?_
          refine va_get (D := Z.1) (ci := 2) (v := .int en) (C := RX2) (T := TX2) (N := 4) hx hb hts hin2 hown hK hP 0 rfl rfl 1 (by decide) (hts (.fieldLink RX5 67 "HalfAsked$Plan" "ends" "I") (by decide +kernel)) (fun _ h9 => h9) rfl dX5_readPlan_48 ?_
          refine lv_iconst (v := 1) hx hb dX5_readPlan_51 (by decide) ?_
          refine lv_aload_n hx hb dX5_readPlan_52 rfl (lv_at hl 2 rfl) ?_
          refine va_get (D := Z.1) (ci := 2) (v := .int (nI q1_3)) (C := RX2) (T := TX2) (N := 4) hx hb hts hin2 hown hK hP 0 rfl rfl 0 (by decide) (hts (.fieldLink RX5 70 "HalfAsked$Plan" "size" "I") (by decide +kernel)) (fun _ h9 => h9) rfl dX5_readPlan_53 ?_
          refine lv_iconst (v := 1) hx hb dX5_readPlan_56 (by decide) ?_
          refine lv_isub hx hb dX5_readPlan_57 ?_
          refine lv_ishl hx hb dX5_readPlan_58 ?_
          refine lv_ior hx hb dX5_readPlan_59 ?_
          refine va_put (D := Z.1) (ci := 2) (v := .int (en ||| (1 <<< (((nI q1_3) - 1) &&& 31)))) (ty := .int) (C := RX2) (T := TX2) (N := 4) hx hb hts hin2 tyX2 tyX2_ok nmX2 hown hK hP hD hS 0 rfl rfl 1 (by decide) (hts (.fieldLink RX5 67 "HalfAsked$Plan" "ends" "I") (by decide +kernel)) (fun _ h9 => h9) rfl (by decide +kernel) rfl rfl (Nat.le_of_ble_eq_true rfl) dX5_readPlan_60 (fun H locs hP hD hS => ?_)
          have hP : va_P Z.1 vwCl [(h1, .inr (2, [.int (nI q1_3), .int (en ||| (1 <<< (((nI q1_3) - 1) &&& 31))), .ref k, .ref z])), (k, .inl (Z.2 0, 8, .inl pf1_4)), (z, .inl (Z.2 0, 8, .inl pg1_5)), (h0, .inr (5, [.int (nI n), .int (nI p1_7), .ref tk])), (tk, .inl (Z.2 1, 80, .inl f))] H := hP
          have hD : va_D A [(h1, .inr (2, [.int (nI q1_3), .int (en ||| (1 <<< (((nI q1_3) - 1) &&& 31))), .ref k, .ref z])), (k, .inl (Z.2 0, 8, .inl pf1_4)), (z, .inl (Z.2 0, 8, .inl pg1_5)), (h0, .inr (5, [.int (nI n), .int (nI p1_7), .ref tk])), (tk, .inl (Z.2 1, 80, .inl f))] := hD
          refine lv_aload_n hx hb dX5_readPlan_63 rfl (lv_at hl 1 rfl) ?_
          refine lv_dup hx hb dX5_readPlan_64 rfl ?_
          refine va_get (D := Z.1) (ci := 5) (v := .int (nI p1_7)) (C := RX5) (T := TX5) (N := 3) hx hb hts hin5 hown hK hP 3 rfl rfl 1 (by decide) (hts (.fieldLink RX5 15 "HalfAsked$Tape" "at" "I") (by decide +kernel)) (fun _ h9 => h9) rfl dX5_readPlan_65 ?_
          refine lv_iconst (v := 1) hx hb dX5_readPlan_68 (by decide) ?_
          refine lv_iadd hx hb dX5_readPlan_69 ?_
          refine lv_topi (fun f_15 ef_15 => ?_)
          obtain rfl : f_15 = nI (p1_7 + 1) := ef_15.trans (nI_1 _)
          refine va_put (D := Z.1) (ci := 5) (v := .int (nI (p1_7 + 1))) (ty := .int) (C := RX5) (T := TX5) (N := 3) hx hb hts hin5 tyX5 tyX5_ok nmX5 hown hK hP hD hS 3 rfl rfl 1 (by decide) (hts (.fieldLink RX5 15 "HalfAsked$Tape" "at" "I") (by decide +kernel)) (fun _ h9 => h9) rfl (by decide +kernel) rfl rfl (Nat.le_of_ble_eq_true rfl) dX5_readPlan_70 (fun H locs hP hD hS => ?_)
          have hP : va_P Z.1 vwCl [(h1, .inr (2, [.int (nI q1_3), .int (en ||| (1 <<< (((nI q1_3) - 1) &&& 31))), .ref k, .ref z])), (k, .inl (Z.2 0, 8, .inl pf1_4)), (z, .inl (Z.2 0, 8, .inl pg1_5)), (h0, .inr (5, [.int (nI n), .int (nI (p1_7 + 1)), .ref tk])), (tk, .inl (Z.2 1, 80, .inl f))] H := hP
          have hD : va_D A [(h1, .inr (2, [.int (nI q1_3), .int (en ||| (1 <<< (((nI q1_3) - 1) &&& 31))), .ref k, .ref z])), (k, .inl (Z.2 0, 8, .inl pf1_4)), (z, .inl (Z.2 0, 8, .inl pg1_5)), (h0, .inr (5, [.int (nI n), .int (nI (p1_7 + 1)), .ref tk])), (tk, .inl (Z.2 1, 80, .inl f))] := hD
          refine lv_aload_n hx hb dX5_readPlan_73 rfl (lv_at hl 1 rfl) ?_
          have hPc := hP.sub (ws' := [(h0, .inr (5, [.int (nI n), .int (nI (p1_7 + 1)), .ref tk])), (tk, .inl (Z.2 1, 80, .inl f))]) [3, 4] rfl
          have hDc := hD.sub (ws' := [(h0, .inr (5, [.int (nI n), .int (nI (p1_7 + 1)), .ref tk])), (tk, .inl (Z.2 1, 80, .inl f))]) [3, 4] (by decide) rfl
          have hFc := va_free (wc := [(h0, .inr (5, [.int (nI n), .int (nI (p1_7 + 1)), .ref tk])), (tk, .inl (Z.2 1, 80, .inl f))]) hD hS hA [3, 4] rfl
          refine va_calli (va_runV (As := []) (rest := []) ⟨hx, hb, hml, hown, hts⟩ (c_X5_look l Z H.size h0 tk n (p1_7 + 1) f (hn) (by omega) (hc)) (cwV 0 hts gX5_readPlan_X5_look rfl rfl rfl (by decide +kernel) ⟨Nat.le_of_ble_eq_true rfl, Nat.le_of_ble_eq_true rfl⟩) ⟨fun a U g mk q => by obtain ⟨q0, q1, qP, qK, qD⟩ := q; exact ⟨q0, q1, qP, va_K.moved (u := U) (U := U.calling g mk a) (Vm.Alike.refl U.vm) qK, qD⟩, va_recv hK hPc (ci := 5) (q0 := 0) rfl rfl, fun U hU hW => ⟨rfl, by rw [hU], by rw [hU]; exact hPc, va_K.moved hW.alike hK, hDc.weaken (fun _ _ _ _ => trivial)⟩⟩ rfl rfl hl.1 rfl (lv_room (Nat.le_of_ble_eq_true rfl)) dX5_readPlan_74 ⟨Nat.le_of_ble_eq_true rfl, Nat.le_of_ble_eq_true rfl⟩) hS (fun q _ h => hFc q h) hFc (fun r_16 u t9 H1 locs ht hvm hw hB hz1 hk1 hS => ?_)
          obtain ⟨p1_17, rfl⟩ : ∃ z, z = u := ⟨_, rfl⟩
          try dsimp only at hw hB
          have hwr_16 := hw
          obtain ⟨hP1, hD1⟩ := hB
          rw [ht] at hP1
          obtain ⟨hP, hD⟩ := va_join (wr := [(h1, .inr (2, [.int (nI q1_3), .int (en ||| (1 <<< (((nI q1_3) - 1) &&& 31))), .ref k, .ref z])), (k, .inl (Z.2 0, 8, .inl pf1_4)), (z, .inl (Z.2 0, 8, .inl pg1_5))]) (w1 := [(h0, .inr (5, [.int (nI n), .int (nI p1_17), .ref tk])), (tk, .inl (Z.2 1, 80, .inl f))]) hP hD [3, 4] [0, 1, 2] rfl rfl (by decide) (by decide) hk1 hFc hP1 hD1
          clear hPc hDc hP1 hD1 hk1 hz1 hFc ht hvm
          generalize H1 = H at hP hS ⊢
          have hP : va_P Z.1 vwCl [(h1, .inr (2, [.int (nI q1_3), .int (en ||| (1 <<< (((nI q1_3) - 1) &&& 31))), .ref k, .ref z])), (k, .inl (Z.2 0, 8, .inl pf1_4)), (z, .inl (Z.2 0, 8, .inl pg1_5)), (h0, .inr (5, [.int (nI n), .int (nI p1_17), .ref tk])), (tk, .inl (Z.2 1, 80, .inl f))] H := hP
          have hD : va_D A [(h1, .inr (2, [.int (nI q1_3), .int (en ||| (1 <<< (((nI q1_3) - 1) &&& 31))), .ref k, .ref z])), (k, .inl (Z.2 0, 8, .inl pf1_4)), (z, .inl (Z.2 0, 8, .inl pg1_5)), (h0, .inr (5, [.int (nI n), .int (nI p1_17), .ref tk])), (tk, .inl (Z.2 1, 80, .inl f))] := hD
          refine lv_if_ne (tgt := 85) hx hb dX5_readPlan_77 (by decide) (fun c_18 => ?_) (fun c_18 => ?_)
          · refine lv_iload_n hx hb dX5_readPlan_85 rfl (lv_at hl 4 rfl) ?_
            refine lv_if_eq (tgt := 103) hx hb dX5_readPlan_86 (by decide) (fun c_19 => ?_) (fun c_19 => ?_)
            · exact kx_103 p1_17 q1_3 (y + 1) (en ||| (1 <<< (((nI q1_3) - 1) &&& 31))) (nI y) pf1_4 pg1_5 H locs ls (⟨⟨by omega, by omega⟩, hwr_1.2.2.2⟩) (hP.sub [3, 4, 0, 1, 2] rfl) (hD.sub [3, 4, 0, 1, 2] (by decide) rfl) hS (lv_sub hl [1, 2, 3, 4] rfl)
            · refine lv_iload hx hb dX5_readPlan_89 (lv_at hl 0 rfl) ?_
              refine lv_bipush (v := 44) hx hb dX5_readPlan_91 (by decide) ?_
              refine lv_icmp_eq (tgt := 111) hx hb dX5_readPlan_93 (by decide) (fun c_20 => ?_) (fun c_20 => ?_)
              · refine lv_iload hx hb dX5_readPlan_111 (lv_at hl 0 rfl) ?_
                refine lv_bipush (v := 44) hx hb dX5_readPlan_113 (by decide) ?_
                refine lv_icmp_ne (tgt := 128) hx hb dX5_readPlan_115 (by decide) (fun c9 => absurd c_20 c9) (fun _ => ?_)
                have hq20 := hwr_16.1 c_18
                refine lv_aload_n hx hb dX5_readPlan_118 rfl (lv_at hl 1 rfl) ?_
                refine lv_dup hx hb dX5_readPlan_119 rfl ?_
                refine va_get (D := Z.1) (ci := 5) (v := .int (nI p1_17)) (C := RX5) (T := TX5) (N := 3) hx hb hts hin5 hown hK hP 3 rfl rfl 1 (by decide) (hts (.fieldLink RX5 15 "HalfAsked$Tape" "at" "I") (by decide +kernel)) (fun _ h9 => h9) rfl dX5_readPlan_120 ?_
                refine lv_iconst (v := 1) hx hb dX5_readPlan_123 (by decide) ?_
                refine lv_iadd hx hb dX5_readPlan_124 ?_
                refine lv_topi (fun f_21 ef_21 => ?_)
                obtain rfl : f_21 = nI (p1_17 + 1) := ef_21.trans (nI_1 _)
                refine va_put (D := Z.1) (ci := 5) (v := .int (nI (p1_17 + 1))) (ty := .int) (C := RX5) (T := TX5) (N := 3) hx hb hts hin5 tyX5 tyX5_ok nmX5 hown hK hP hD hS 3 rfl rfl 1 (by decide) (hts (.fieldLink RX5 15 "HalfAsked$Tape" "at" "I") (by decide +kernel)) (fun _ h9 => h9) rfl (by decide +kernel) rfl rfl (Nat.le_of_ble_eq_true rfl) dX5_readPlan_125 (fun H locs hP hD hS => ?_)
                have hP : va_P Z.1 vwCl [(h1, .inr (2, [.int (nI q1_3), .int (en ||| (1 <<< (((nI q1_3) - 1) &&& 31))), .ref k, .ref z])), (k, .inl (Z.2 0, 8, .inl pf1_4)), (z, .inl (Z.2 0, 8, .inl pg1_5)), (h0, .inr (5, [.int (nI n), .int (nI (p1_17 + 1)), .ref tk])), (tk, .inl (Z.2 1, 80, .inl f))] H := hP
                have hD : va_D A [(h1, .inr (2, [.int (nI q1_3), .int (en ||| (1 <<< (((nI q1_3) - 1) &&& 31))), .ref k, .ref z])), (k, .inl (Z.2 0, 8, .inl pf1_4)), (z, .inl (Z.2 0, 8, .inl pg1_5)), (h0, .inr (5, [.int (nI n), .int (nI (p1_17 + 1)), .ref tk])), (tk, .inl (Z.2 1, 80, .inl f))] := hD
                refine lv_iinc (v := nI y + (-1)) (lv' := [(3, .int (nI y + (-1))), (4, .int r_6), (0, .ref h0), (1, .ref h1), (2, .int (nI mm))]) hx hb dX5_readPlan_128 hl (k := 4) rfl rfl (by decide) rfl (fun ls hl => ?_)
                refine lv_goto (tgt := 12) hx hb dX5_readPlan_131 (by decide) ?_
                exact ih (p1_17 + 1) q1_3 y (en ||| (1 <<< (((nI q1_3) - 1) &&& 31))) (nI y + (-1)) pf1_4 pg1_5 (by omega) (by omega) (by omega) (z_dn_step y) (hwr_1.2.2.2) H locs ls (hP.sub [3, 4, 0, 1, 2] rfl) (hD.sub [3, 4, 0, 1, 2] (by decide) rfl) hS (lv_sub hl [2, 3, 4, 0] rfl)
              · refine lv_iload hx hb dX5_readPlan_96 (lv_at hl 0 rfl) ?_
                refine lv_bipush (v := 59) hx hb dX5_readPlan_98 (by decide) ?_
                refine lv_icmp_eq (tgt := 111) hx hb dX5_readPlan_100 (by decide) (fun _ => ?_) (fun c9 => absurd c_8 c9)
                refine lv_iload hx hb dX5_readPlan_111 (lv_at hl 0 rfl) ?_
                refine lv_bipush (v := 44) hx hb dX5_readPlan_113 (by decide) ?_
                refine lv_icmp_ne (tgt := 128) hx hb dX5_readPlan_115 (by decide) (fun _ => ?_) (fun c9 => absurd c9 c_20)
                refine lv_iinc (v := nI y + (-1)) (lv' := [(3, .int (nI y + (-1))), (4, .int r_6), (0, .ref h0), (1, .ref h1), (2, .int (nI mm))]) hx hb dX5_readPlan_128 hl (k := 4) rfl rfl (by decide) rfl (fun ls hl => ?_)
                refine lv_goto (tgt := 12) hx hb dX5_readPlan_131 (by decide) ?_
                exact ih p1_17 q1_3 y (en ||| (1 <<< (((nI q1_3) - 1) &&& 31))) (nI y + (-1)) pf1_4 pg1_5 (by omega) (by omega) (by omega) (z_dn_step y) (hwr_1.2.2.2) H locs ls (hP.sub [3, 4, 0, 1, 2] rfl) (hD.sub [3, 4, 0, 1, 2] (by decide) rfl) hS (lv_sub hl [2, 3, 4, 0] rfl)
          · exact kx_80 p1_17 q1_3 (y + 1) (en ||| (1 <<< (((nI q1_3) - 1) &&& 31))) (nI y) pf1_4 pg1_5 H locs ls (⟨⟨by omega, by omega⟩, hwr_1.2.2.2⟩) (hP.sub [3, 4, 0, 1, 2] rfl) (hD.sub [3, 4, 0, 1, 2] (by decide) rfl) hS (lv_sub hl [1, 2, 3, 4] rfl)
set_option maxHeartbeats 4000000 in
set_option maxRecDepth 100000 in
theorem c_X5_readPlan (l : Launch) (Z : gZ) (sz : Nat) (h0 : Nat) (tk : Nat) (n : Nat) (x0 : Int32) (f : Nat → Int32) (h1 : Nat) (v : Int32) (e0 : Int32) (k : Nat) (z : Nat) (pf : Nat → Int32) (pg : Nat → Int32) (mm : Nat) (hn : n ≤ 80) (hc : zC f) (hm : mm ≤ 5) : Met l yX5_readPlan wsX5_readPlan ({ frames := 6, cells := 0, slots := 0, locals := 300 }) (va_Pc [.ref h0, .ref h1, .int (nI mm)] (fun U => U.heap.size = sz ∧ va_P Z.1 vwCl [(h0, .inr (5, [.int (nI n), .int x0, .ref tk])), (tk, .inl (Z.2 1, 80, .inl f)), (h1, .inr (2, [.int v, .int e0, .ref k, .ref z])), (k, .inl (Z.2 0, 8, .inl pf)), (z, .inl (Z.2 0, 8, .inl pg))] U.heap ∧ va_K Z.1 vwCl (gT Z) U ∧ va_D (fun _ => True) [(h0, .inr (5, [.int (nI n), .int x0, .ref tk])), (tk, .inl (Z.2 1, 80, .inl f)), (h1, .inr (2, [.int v, .int e0, .ref k, .ref z])), (k, .inl (Z.2 0, 8, .inl pf)), (z, .inl (Z.2 0, 8, .inl pg))])) (va_Qi (fun (r : Int32) (u : Nat × Nat × Int32 × (Nat → Int32) × (Nat → Int32)) => match u with | (p1, q1, en1, pf1, pg1) => p1 ≤ n ∧ q1 ≤ 8 ∧ zP q1 pf1 pg1) (fun (u : Nat × Nat × Int32 × (Nat → Int32) × (Nat → Int32)) (t9 : State) => match u with | (p1, q1, en1, pf1, pg1) => va_P Z.1 vwCl [(h0, .inr (5, [.int (nI n), .int (nI p1), .ref tk])), (tk, .inl (Z.2 1, 80, .inl f)), (h1, .inr (2, [.int (nI q1), .int en1, .ref k, .ref z])), (k, .inl (Z.2 0, 8, .inl pf1)), (z, .inl (Z.2 0, 8, .inl pg1))] t9.heap ∧ va_D (va_A [(h0, .inr (5, [.int (nI n), .int x0, .ref tk])), (tk, .inl (Z.2 1, 80, .inl f)), (h1, .inr (2, [.int v, .int e0, .ref k, .ref z])), (k, .inl (Z.2 0, 8, .inl pf)), (z, .inl (Z.2 0, 8, .inl pg))] sz) [(h0, .inr (5, [.int (nI n), .int (nI p1), .ref tk])), (tk, .inl (Z.2 1, 80, .inl f)), (h1, .inr (2, [.int (nI q1), .int en1, .ref k, .ref z])), (k, .inl (Z.2 0, 8, .inl pf1)), (z, .inl (Z.2 0, 8, .inl pg1))]) (va_A [(h0, .inr (5, [.int (nI n), .int x0, .ref tk])), (tk, .inl (Z.2 1, 80, .inl f)), (h1, .inr (2, [.int v, .int e0, .ref k, .ref z])), (k, .inl (Z.2 0, 8, .inl pf)), (z, .inl (Z.2 0, 8, .inl pg))] sz)) 0 0 (va_A [(h0, .inr (5, [.int (nI n), .int x0, .ref tk])), (tk, .inl (Z.2 1, 80, .inl f)), (h1, .inr (2, [.int v, .int e0, .ref k, .ref z])), (k, .inl (Z.2 0, 8, .inl pf)), (z, .inl (Z.2 0, 8, .inl pg))] sz) := by
  refine Met.ofW (cc := cX5_readPlan) (maxL := 5) (ret := (some .int)) (by decide) rfl ?_
  intro p e s m args below meth c s₁ B hml hv
  obtain ⟨rfl, hsz, hP, hK, hD0⟩ := hv
  have hx := B.exec
  have hb := B.bytes
  have hr := B.returns
  have hts := atoms_spec (ws := wsX5_readPlan) B.pre
  have hown : s.vm.findClass RX5 = some m.cls := findClass_of_methodNamed B.named
  have hlocks := B.notSynchronized
  subst hsz
  have hin2 : ∀ w ∈ wsX20, w ∈ wsX5_readPlan := by decide +kernel
  have hin5 : ∀ w ∈ wsX50, w ∈ wsX5_readPlan := by decide +kernel
  have hD := hD0.self (sz := s.heap.size)
  generalize hAe : va_A [(h0, .inr (5, [.int (nI n), .int x0, .ref tk])), (tk, .inl (Z.2 1, 80, .inl f)), (h1, .inr (2, [.int v, .int e0, .ref k, .ref z])), (k, .inl (Z.2 0, 8, .inl pf)), (z, .inl (Z.2 0, 8, .inl pg))] s.heap.size = A at hD ⊢
  have hA : ∀ q : Nat, s.heap.size ≤ q → A q := fun q h => by rw [← hAe]; exact Or.inr h
  have hS : va_S A s.heap s.heap [] := va_S.rf
  have hP : va_P Z.1 vwCl [(h0, .inr (5, [.int (nI n), .int x0, .ref tk])), (tk, .inl (Z.2 1, 80, .inl f)), (h1, .inr (2, [.int v, .int e0, .ref k, .ref z])), (k, .inl (Z.2 0, 8, .inl pf)), (z, .inl (Z.2 0, 8, .inl pg))] s.heap := hP
  have hl := lv_entry ([.ref h0, .ref h1, .int (nI mm)]) (n := 5) (Nat.le_of_ble_eq_true rfl)
  rw [lg_entry_eq]
  generalize (lg_sl ([.ref h0, .ref h1, .int (nI mm)]) ++ List.replicate (5 - (lg_sl ([.ref h0, .ref h1, .int (nI mm)])).length) Slot.unset).toArray = ls at hl ⊢
  have hl : lv_has ls 5 [(0, .ref h0), (1, .ref h1), (2, .int (nI mm))] := hl
  refine lv_aload_n hx hb dX5_readPlan_0 rfl (lv_at hl 1 rfl) ?_
  have hPc := hP.sub (ws' := [(h1, .inr (2, [.int v, .int e0, .ref k, .ref z]))]) [2] rfl
  have hDc := hD.sub (ws' := [(h1, .inr (2, [.int v, .int e0, .ref k, .ref z]))]) [2] (by decide) rfl
  have hFc := va_free (wc := [(h1, .inr (2, [.int v, .int e0, .ref k, .ref z]))]) hD hS hA [2] rfl
  refine va_callv (va_runV (As := []) (rest := []) ⟨hx, hb, hml, hown, hts⟩ (c_X2_clear l Z s.heap.size h1 v e0 k z) (cwV 0 hts gX5_readPlan_X2_clear rfl rfl rfl (by decide +kernel) ⟨Nat.le_of_ble_eq_true rfl, Nat.le_of_ble_eq_true rfl⟩) ⟨fun a U g mk q => by obtain ⟨q0, q1, qP, qK, qD⟩ := q; exact ⟨q0, q1, qP, va_K.moved (u := U) (U := U.calling g mk a) (Vm.Alike.refl U.vm) qK, qD⟩, va_recv hK hPc (ci := 2) (q0 := 0) rfl rfl, fun U hU hW => ⟨rfl, by rw [hU], by rw [hU]; exact hPc, va_K.moved hW.alike hK, hDc.weaken (fun _ _ _ _ => trivial)⟩⟩ rfl rfl hl.1 rfl (lv_room (Nat.le_of_ble_eq_true rfl)) dX5_readPlan_1 ⟨Nat.le_of_ble_eq_true rfl, Nat.le_of_ble_eq_true rfl⟩) hS (fun q _ h => hFc q h) hFc (fun u t9 H1 locs ht hvm hw hB hz1 hk1 hS => ?_)
  obtain ⟨hP1, hD1⟩ := hB
  rw [ht] at hP1
  obtain ⟨hP, hD⟩ := va_join (wr := [(h0, .inr (5, [.int (nI n), .int x0, .ref tk])), (tk, .inl (Z.2 1, 80, .inl f)), (k, .inl (Z.2 0, 8, .inl pf)), (z, .inl (Z.2 0, 8, .inl pg))]) (w1 := [(h1, .inr (2, [.int 0, .int 0, .ref k, .ref z]))]) hP hD [2] [0, 1, 3, 4] rfl rfl (by decide) (by decide) hk1 hFc hP1 hD1
  clear hPc hDc hP1 hD1 hk1 hz1 hFc ht hvm
  generalize H1 = H at hP hS ⊢
  have hP : va_P Z.1 vwCl [(h0, .inr (5, [.int (nI n), .int x0, .ref tk])), (tk, .inl (Z.2 1, 80, .inl f)), (k, .inl (Z.2 0, 8, .inl pf)), (z, .inl (Z.2 0, 8, .inl pg)), (h1, .inr (2, [.int 0, .int 0, .ref k, .ref z]))] H := hP
  have hD : va_D A [(h0, .inr (5, [.int (nI n), .int x0, .ref tk])), (tk, .inl (Z.2 1, 80, .inl f)), (k, .inl (Z.2 0, 8, .inl pf)), (z, .inl (Z.2 0, 8, .inl pg)), (h1, .inr (2, [.int 0, .int 0, .ref k, .ref z]))] := hD
  refine lv_aload_n hx hb dX5_readPlan_4 rfl (lv_at hl 0 rfl) ?_
  refine lv_iconst (v := 0) hx hb dX5_readPlan_5 (by decide) ?_
  refine va_put (D := Z.1) (ci := 5) (v := .int 0) (ty := .int) (C := RX5) (T := TX5) (N := 3) hx hb hts hin5 tyX5 tyX5_ok nmX5 hown hK hP hD hS 0 rfl rfl 1 (by decide) (hts (.fieldLink RX5 15 "HalfAsked$Tape" "at" "I") (by decide +kernel)) (fun _ h9 => h9) rfl (by decide +kernel) rfl rfl (Nat.le_of_ble_eq_true rfl) dX5_readPlan_6 (fun H locs hP hD hS => ?_)
  have hP : va_P Z.1 vwCl [(h0, .inr (5, [.int (nI n), .int 0, .ref tk])), (tk, .inl (Z.2 1, 80, .inl f)), (k, .inl (Z.2 0, 8, .inl pf)), (z, .inl (Z.2 0, 8, .inl pg)), (h1, .inr (2, [.int 0, .int 0, .ref k, .ref z]))] H := hP
  have hD : va_D A [(h0, .inr (5, [.int (nI n), .int 0, .ref tk])), (tk, .inl (Z.2 1, 80, .inl f)), (k, .inl (Z.2 0, 8, .inl pf)), (z, .inl (Z.2 0, 8, .inl pg)), (h1, .inr (2, [.int 0, .int 0, .ref k, .ref z]))] := hD
  refine lv_bipush (v := 7) hx hb dX5_readPlan_9 (by decide) ?_
  refine lv_istore_n (lv' := [(3, .int 7), (0, .ref h0), (1, .ref h1), (2, .int (nI mm))]) hx hb dX5_readPlan_11 rfl hl (by decide) rfl (fun ls hl => ?_)
  refine lp_X5_readPlan Z h0 tk n f h1 k z mm hn hc hm hx hb hml hts hown hK hA (fun ps q j en x pf' pg' H locs ls he hP hD hS hl => ?_) (fun ps q j en x pf' pg' H locs ls he hP hD hS hl => ?_) (fun ps q j en x pf' pg' H locs ls he hP hD hS hl => ?_) (fun ps q j en x pf' pg' H locs ls he hP hD hS hl => ?_) 9 0 0 8 0 7 pf pg (by decide) (Nat.zero_le _) (by decide) (Or.inr ⟨7, rfl, rfl⟩) (zP_0 _ _) H _ ls (hP.sub [0, 1, 4, 2, 3] rfl) (hD.sub [0, 1, 4, 2, 3] (by decide) rfl) hS (lv_sub hl [1, 2, 3, 0] rfl)
  · refine lv_aload_n hx hb dX5_readPlan_25 rfl (lv_at hl 0 rfl) ?_
    refine va_get (D := Z.1) (ci := 5) (v := .int (nI ps)) (C := RX5) (T := TX5) (N := 3) hx hb hts hin5 hown hK hP 0 rfl rfl 1 (by decide) (hts (.fieldLink RX5 15 "HalfAsked$Tape" "at" "I") (by decide +kernel)) (fun _ h9 => h9) rfl dX5_readPlan_26 ?_
    have hPc := hP.sub (ws' := []) [] rfl
    have hDc := hD.sub (ws' := []) [] (by decide) rfl
    have hFc := va_free (wc := []) hD hS hA [] rfl
    refine va_calli (va_runS (As := [.int (nI ps)]) (rest := []) ⟨hx, hb, hml, hown, hts⟩ (c_X5_fault l Z H.size (nI ps)) (va_cwS 1 hts gX5_readPlan_X5_fault rfl rfl rfl (by decide +kernel) ⟨Nat.le_of_ble_eq_true rfl, Nat.le_of_ble_eq_true rfl⟩) ⟨fun a U g mk q => by obtain ⟨q0, q1, qP, qK, qD⟩ := q; exact ⟨q0, q1, qP, va_K.moved (u := U) (U := U.calling g mk a) (Vm.Alike.refl U.vm) qK, qD⟩, fun U hU hW => ⟨rfl, by rw [hU], by rw [hU]; exact hPc, va_K.moved hW.alike hK, hDc.weaken (fun _ _ _ _ => trivial)⟩⟩ rfl rfl hl.1 rfl (lv_room (Nat.le_of_ble_eq_true rfl)) dX5_readPlan_29 ⟨Nat.le_of_ble_eq_true rfl, Nat.le_of_ble_eq_true rfl⟩) hS (fun q _ h => hFc q h) hFc (fun r_2 u t9 H1 locs ht hvm hw hB hz1 hk1 hS => ?_)
    subst hw
    have hP1 : va_P Z.1 vwCl [] H1 := fun k q h => by simp at h
    have hD1 : va_D (va_A [] H.size) [] := ⟨fun i j p q h => by simp at h, fun k q h => by simp at h⟩
    obtain ⟨hP, hD⟩ := va_join (wr := [(h0, .inr (5, [.int (nI n), .int (nI ps), .ref tk])), (tk, .inl (Z.2 1, 80, .inl f)), (h1, .inr (2, [.int (nI q), .int en, .ref k, .ref z])), (k, .inl (Z.2 0, 8, .inl pf')), (z, .inl (Z.2 0, 8, .inl pg'))]) (w1 := []) hP hD [] [0, 1, 2, 3, 4] rfl rfl (by decide) (by decide) hk1 hFc hP1 hD1
    clear hPc hDc hP1 hD1 hk1 hz1 hFc ht hvm
    generalize H1 = H at hP hS ⊢
    have hP : va_P Z.1 vwCl [(h0, .inr (5, [.int (nI n), .int (nI ps), .ref tk])), (tk, .inl (Z.2 1, 80, .inl f)), (h1, .inr (2, [.int (nI q), .int en, .ref k, .ref z])), (k, .inl (Z.2 0, 8, .inl pf')), (z, .inl (Z.2 0, 8, .inl pg'))] H := hP
    have hD : va_D A [(h0, .inr (5, [.int (nI n), .int (nI ps), .ref tk])), (tk, .inl (Z.2 1, 80, .inl f)), (h1, .inr (2, [.int (nI q), .int en, .ref k, .ref z])), (k, .inl (Z.2 0, 8, .inl pf')), (z, .inl (Z.2 0, 8, .inl pg'))] := hD
    have hP9 := hP.sub (ws' := [(h0, .inr (5, [.int (nI n), .int (nI ps), .ref tk])), (tk, .inl (Z.2 1, 80, .inl f)), (h1, .inr (2, [.int (nI q), .int en, .ref k, .ref z])), (k, .inl (Z.2 0, 8, .inl pf')), (z, .inl (Z.2 0, 8, .inl pg'))]) [0, 1, 2, 3, 4] rfl
    have hD9 := hD.sub (ws' := [(h0, .inr (5, [.int (nI n), .int (nI ps), .ref tk])), (tk, .inl (Z.2 1, 80, .inl f)), (h1, .inr (2, [.int (nI q), .int en, .ref k, .ref z])), (k, .inl (Z.2 0, 8, .inl pf')), (z, .inl (Z.2 0, 8, .inl pg'))]) [0, 1, 2, 3, 4] (by decide) rfl
    exact W.iret (v := ((-20) - (nI ps))) hx hb hr (fun t9 ht hW => ⟨⟨(-20) - (nI ps), (ps, q, en, pf', pg'), rfl, ⟨he.1.1, he.1.2, he.2⟩, by rw [ht]; exact hP9, hD9⟩, hS.F ht⟩) hS.2.2 dX5_readPlan_32
  · refine lv_aload_n hx hb dX5_readPlan_80 rfl (lv_at hl 1 rfl) ?_
    refine va_get (D := Z.1) (ci := 2) (v := .int (nI q)) (C := RX2) (T := TX2) (N := 4) hx hb hts hin2 hown hK hP 2 rfl rfl 0 (by decide) (hts (.fieldLink RX5 70 "HalfAsked$Plan" "size" "I") (by decide +kernel)) (fun _ h9 => h9) rfl dX5_readPlan_81 ?_
    have hP9 := hP.sub (ws' := [(h0, .inr (5, [.int (nI n), .int (nI ps), .ref tk])), (tk, .inl (Z.2 1, 80, .inl f)), (h1, .inr (2, [.int (nI q), .int en, .ref k, .ref z])), (k, .inl (Z.2 0, 8, .inl pf')), (z, .inl (Z.2 0, 8, .inl pg'))]) [0, 1, 2, 3, 4] rfl
    have hD9 := hD.sub (ws' := [(h0, .inr (5, [.int (nI n), .int (nI ps), .ref tk])), (tk, .inl (Z.2 1, 80, .inl f)), (h1, .inr (2, [.int (nI q), .int en, .ref k, .ref z])), (k, .inl (Z.2 0, 8, .inl pf')), (z, .inl (Z.2 0, 8, .inl pg'))]) [0, 1, 2, 3, 4] (by decide) rfl
    exact W.iret (v := (nI q)) hx hb hr (fun t9 ht hW => ⟨⟨nI q, (ps, q, en, pf', pg'), rfl, ⟨he.1.1, he.1.2, he.2⟩, by rw [ht]; exact hP9, hD9⟩, hS.F ht⟩) hS.2.2 dX5_readPlan_84
  · refine lv_aload_n hx hb dX5_readPlan_103 rfl (lv_at hl 0 rfl) ?_
    refine va_get (D := Z.1) (ci := 5) (v := .int (nI ps)) (C := RX5) (T := TX5) (N := 3) hx hb hts hin5 hown hK hP 0 rfl rfl 1 (by decide) (hts (.fieldLink RX5 15 "HalfAsked$Tape" "at" "I") (by decide +kernel)) (fun _ h9 => h9) rfl dX5_readPlan_104 ?_
    have hPc := hP.sub (ws' := []) [] rfl
    have hDc := hD.sub (ws' := []) [] (by decide) rfl
    have hFc := va_free (wc := []) hD hS hA [] rfl
    refine va_calli (va_runS (As := [.int (nI ps)]) (rest := []) ⟨hx, hb, hml, hown, hts⟩ (c_X5_fault l Z H.size (nI ps)) (va_cwS 1 hts gX5_readPlan_X5_fault rfl rfl rfl (by decide +kernel) ⟨Nat.le_of_ble_eq_true rfl, Nat.le_of_ble_eq_true rfl⟩) ⟨fun a U g mk q => by obtain ⟨q0, q1, qP, qK, qD⟩ := q; exact ⟨q0, q1, qP, va_K.moved (u := U) (U := U.calling g mk a) (Vm.Alike.refl U.vm) qK, qD⟩, fun U hU hW => ⟨rfl, by rw [hU], by rw [hU]; exact hPc, va_K.moved hW.alike hK, hDc.weaken (fun _ _ _ _ => trivial)⟩⟩ rfl rfl hl.1 rfl (lv_room (Nat.le_of_ble_eq_true rfl)) dX5_readPlan_107 ⟨Nat.le_of_ble_eq_true rfl, Nat.le_of_ble_eq_true rfl⟩) hS (fun q _ h => hFc q h) hFc (fun r_3 u t9 H1 locs ht hvm hw hB hz1 hk1 hS => ?_)
    subst hw
    have hP1 : va_P Z.1 vwCl [] H1 := fun k q h => by simp at h
    have hD1 : va_D (va_A [] H.size) [] := ⟨fun i j p q h => by simp at h, fun k q h => by simp at h⟩
    obtain ⟨hP, hD⟩ := va_join (wr := [(h0, .inr (5, [.int (nI n), .int (nI ps), .ref tk])), (tk, .inl (Z.2 1, 80, .inl f)), (h1, .inr (2, [.int (nI q), .int en, .ref k, .ref z])), (k, .inl (Z.2 0, 8, .inl pf')), (z, .inl (Z.2 0, 8, .inl pg'))]) (w1 := []) hP hD [] [0, 1, 2, 3, 4] rfl rfl (by decide) (by decide) hk1 hFc hP1 hD1
    clear hPc hDc hP1 hD1 hk1 hz1 hFc ht hvm
    generalize H1 = H at hP hS ⊢
    have hP : va_P Z.1 vwCl [(h0, .inr (5, [.int (nI n), .int (nI ps), .ref tk])), (tk, .inl (Z.2 1, 80, .inl f)), (h1, .inr (2, [.int (nI q), .int en, .ref k, .ref z])), (k, .inl (Z.2 0, 8, .inl pf')), (z, .inl (Z.2 0, 8, .inl pg'))] H := hP
    have hD : va_D A [(h0, .inr (5, [.int (nI n), .int (nI ps), .ref tk])), (tk, .inl (Z.2 1, 80, .inl f)), (h1, .inr (2, [.int (nI q), .int en, .ref k, .ref z])), (k, .inl (Z.2 0, 8, .inl pf')), (z, .inl (Z.2 0, 8, .inl pg'))] := hD
    have hP9 := hP.sub (ws' := [(h0, .inr (5, [.int (nI n), .int (nI ps), .ref tk])), (tk, .inl (Z.2 1, 80, .inl f)), (h1, .inr (2, [.int (nI q), .int en, .ref k, .ref z])), (k, .inl (Z.2 0, 8, .inl pf')), (z, .inl (Z.2 0, 8, .inl pg'))]) [0, 1, 2, 3, 4] rfl
    have hD9 := hD.sub (ws' := [(h0, .inr (5, [.int (nI n), .int (nI ps), .ref tk])), (tk, .inl (Z.2 1, 80, .inl f)), (h1, .inr (2, [.int (nI q), .int en, .ref k, .ref z])), (k, .inl (Z.2 0, 8, .inl pf')), (z, .inl (Z.2 0, 8, .inl pg'))]) [0, 1, 2, 3, 4] (by decide) rfl
    exact W.iret (v := ((-20) - (nI ps))) hx hb hr (fun t9 ht hW => ⟨⟨(-20) - (nI ps), (ps, q, en, pf', pg'), rfl, ⟨he.1.1, he.1.2, he.2⟩, by rw [ht]; exact hP9, hD9⟩, hS.F ht⟩) hS.2.2 dX5_readPlan_110
  · refine lv_aload_n hx hb dX5_readPlan_134 rfl (lv_at hl 0 rfl) ?_
    refine va_get (D := Z.1) (ci := 5) (v := .int (nI ps)) (C := RX5) (T := TX5) (N := 3) hx hb hts hin5 hown hK hP 0 rfl rfl 1 (by decide) (hts (.fieldLink RX5 15 "HalfAsked$Tape" "at" "I") (by decide +kernel)) (fun _ h9 => h9) rfl dX5_readPlan_135 ?_
    have hPc := hP.sub (ws' := []) [] rfl
    have hDc := hD.sub (ws' := []) [] (by decide) rfl
    have hFc := va_free (wc := []) hD hS hA [] rfl
    refine va_calli (va_runS (As := [.int (nI ps)]) (rest := []) ⟨hx, hb, hml, hown, hts⟩ (c_X5_fault l Z H.size (nI ps)) (va_cwS 1 hts gX5_readPlan_X5_fault rfl rfl rfl (by decide +kernel) ⟨Nat.le_of_ble_eq_true rfl, Nat.le_of_ble_eq_true rfl⟩) ⟨fun a U g mk q => by obtain ⟨q0, q1, qP, qK, qD⟩ := q; exact ⟨q0, q1, qP, va_K.moved (u := U) (U := U.calling g mk a) (Vm.Alike.refl U.vm) qK, qD⟩, fun U hU hW => ⟨rfl, by rw [hU], by rw [hU]; exact hPc, va_K.moved hW.alike hK, hDc.weaken (fun _ _ _ _ => trivial)⟩⟩ rfl rfl hl.1 rfl (lv_room (Nat.le_of_ble_eq_true rfl)) dX5_readPlan_138 ⟨Nat.le_of_ble_eq_true rfl, Nat.le_of_ble_eq_true rfl⟩) hS (fun q _ h => hFc q h) hFc (fun r_4 u t9 H1 locs ht hvm hw hB hz1 hk1 hS => ?_)
    subst hw
    have hP1 : va_P Z.1 vwCl [] H1 := fun k q h => by simp at h
    have hD1 : va_D (va_A [] H.size) [] := ⟨fun i j p q h => by simp at h, fun k q h => by simp at h⟩
    obtain ⟨hP, hD⟩ := va_join (wr := [(h0, .inr (5, [.int (nI n), .int (nI ps), .ref tk])), (tk, .inl (Z.2 1, 80, .inl f)), (h1, .inr (2, [.int (nI q), .int en, .ref k, .ref z])), (k, .inl (Z.2 0, 8, .inl pf')), (z, .inl (Z.2 0, 8, .inl pg'))]) (w1 := []) hP hD [] [0, 1, 2, 3, 4] rfl rfl (by decide) (by decide) hk1 hFc hP1 hD1
    clear hPc hDc hP1 hD1 hk1 hz1 hFc ht hvm
    generalize H1 = H at hP hS ⊢
    have hP : va_P Z.1 vwCl [(h0, .inr (5, [.int (nI n), .int (nI ps), .ref tk])), (tk, .inl (Z.2 1, 80, .inl f)), (h1, .inr (2, [.int (nI q), .int en, .ref k, .ref z])), (k, .inl (Z.2 0, 8, .inl pf')), (z, .inl (Z.2 0, 8, .inl pg'))] H := hP
    have hD : va_D A [(h0, .inr (5, [.int (nI n), .int (nI ps), .ref tk])), (tk, .inl (Z.2 1, 80, .inl f)), (h1, .inr (2, [.int (nI q), .int en, .ref k, .ref z])), (k, .inl (Z.2 0, 8, .inl pf')), (z, .inl (Z.2 0, 8, .inl pg'))] := hD
    have hP9 := hP.sub (ws' := [(h0, .inr (5, [.int (nI n), .int (nI ps), .ref tk])), (tk, .inl (Z.2 1, 80, .inl f)), (h1, .inr (2, [.int (nI q), .int en, .ref k, .ref z])), (k, .inl (Z.2 0, 8, .inl pf')), (z, .inl (Z.2 0, 8, .inl pg'))]) [0, 1, 2, 3, 4] rfl
    have hD9 := hD.sub (ws' := [(h0, .inr (5, [.int (nI n), .int (nI ps), .ref tk])), (tk, .inl (Z.2 1, 80, .inl f)), (h1, .inr (2, [.int (nI q), .int en, .ref k, .ref z])), (k, .inl (Z.2 0, 8, .inl pf')), (z, .inl (Z.2 0, 8, .inl pg'))]) [0, 1, 2, 3, 4] (by decide) rfl
    exact W.iret (v := ((-20) - (nI ps))) hx hb hr (fun t9 ht hW => ⟨⟨(-20) - (nI ps), (ps, q, en, pf', pg'), rfl, ⟨he.1.1, he.1.2, he.2⟩, by rw [ht]; exact hP9, hD9⟩, hS.F ht⟩) hS.2.2 dX5_readPlan_141
