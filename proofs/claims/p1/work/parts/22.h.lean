set_option maxHeartbeats 4000000 in
set_option maxRecDepth 100000 in
theorem c_X5_skipBlanks (l : Launch) (Z : gZ) (sz : Nat) (h0 : Nat) (tk : Nat)  : Met l yX5_skipBlanks wsX5_skipBlanks ({ frames := 0, cells := 0, slots := 0, locals := 0 }) (va_Pc [.ref h0] (fun U => U.heap.size = sz ∧ va_P Z.1 vwCl [(h0, .inr (5, [.int 0, .int 0, .ref tk]))] U.heap ∧ va_K Z.1 vwCl (gT Z) U ∧ va_D (fun _ => True) [(h0, .inr (5, [.int 0, .int 0, .ref tk]))])) (va_Qv (fun (u : Unit) => True) (fun (u : Unit) (t : State) => va_P Z.1 vwCl [(h0, .inr (5, [.int 0, .int 0, .ref tk]))] t.heap ∧ va_D (va_A [(h0, .inr (5, [.int 0, .int 0, .ref tk]))] sz) [(h0, .inr (5, [.int 0, .int 0, .ref tk]))]) (va_A [(h0, .inr (5, [.int 0, .int 0, .ref tk]))] sz)) 0 0 (va_A [(h0, .inr (5, [.int 0, .int 0, .ref tk]))] sz) := by
  refine Met.ofW (cc := cX5_skipBlanks) (maxL := 1) (ret := none) (by decide) rfl ?_
  intro p e s m args below meth c s₁ B hml hv
  obtain ⟨rfl, hsz, hP, hK, hD0⟩ := hv
  have hx := B.exec
  have hb := B.bytes
  have hr := B.returns
  have hts := atoms_spec (ws := wsX5_skipBlanks) B.pre
  have hown : s.vm.findClass RX5 = some m.cls := findClass_of_methodNamed B.named
  have hlocks := B.notSynchronized
  subst hsz
  have hin5 : ∀ w ∈ wsX50, w ∈ wsX5_skipBlanks := by decide +kernel
  have hD := hD0.self (sz := s.heap.size)
  generalize hAe : va_A [(h0, .inr (5, [.int 0, .int 0, .ref tk]))] s.heap.size = A at hD ⊢
  have hA : ∀ q : Nat, s.heap.size ≤ q → A q := fun q h => by rw [← hAe]; exact Or.inr h
  have hS : va_S A s.heap s.heap [] := va_S.rf
  have hP : va_P Z.1 vwCl [(h0, .inr (5, [.int 0, .int 0, .ref tk]))] s.heap := hP
  have hl := lv_entry ([.ref h0]) (n := 1) (Nat.le_of_ble_eq_true rfl)
  rw [lg_entry_eq]
  generalize (lg_sl ([.ref h0]) ++ List.replicate (1 - (lg_sl ([.ref h0])).length) Slot.unset).toArray = ls at hl ⊢
  have hl : lv_has ls 1 [(0, .ref h0)] := hl
  refine lv_aload_n hx hb dX5_skipBlanks_0 rfl (lv_at hl 0 rfl) ?_
  refine va_get (D := Z.1) (ci := 5) (v := .int 0) (C := RX5) (T := TX5) (N := 3) hx hb hts hin5 hown hK hP 0 rfl rfl 1 (by decide) (hts (.fieldLink RX5 15 "HalfAsked$Tape" "at" "I") (by decide +kernel)) (fun _ h9 => h9) rfl dX5_skipBlanks_1 ?_
  refine lv_aload_n hx hb dX5_skipBlanks_4 rfl (lv_at hl 0 rfl) ?_
  refine va_get (D := Z.1) (ci := 5) (v := .int 0) (C := RX5) (T := TX5) (N := 3) hx hb hts hin5 hown hK hP 0 rfl rfl 0 (by decide) (hts (.fieldLink RX5 9 "HalfAsked$Tape" "size" "I") (by decide +kernel)) (fun _ h9 => h9) rfl dX5_skipBlanks_5 ?_
  refine lv_icmp_ge (tgt := 38) hx hb dX5_skipBlanks_8 (by decide) (fun _ => ?_) (fun c9 => absurd c9 (by decide))
  have hP9 := hP.sub (ws' := [(h0, .inr (5, [.int 0, .int 0, .ref tk]))]) [0] rfl
  have hD9 := hD.sub (ws' := [(h0, .inr (5, [.int 0, .int 0, .ref tk]))]) [0] (by decide) rfl
  exact W.vret hx hb hr (fun t ht hW => ⟨⟨(), rfl, trivial, by rw [ht]; exact hP9, hD9⟩, hS.F ht⟩) hS.2.2 dX5_skipBlanks_38
set_option maxHeartbeats 4000000 in
set_option maxRecDepth 100000 in
theorem c_X5_look (l : Launch) (Z : gZ) (sz : Nat) (h0 : Nat) (tk : Nat)  : Met l yX5_look wsX5_look ({ frames := 1, cells := 0, slots := 0, locals := 20 }) (va_Pc [.ref h0] (fun U => U.heap.size = sz ∧ va_P Z.1 vwCl [(h0, .inr (5, [.int 0, .int 0, .ref tk]))] U.heap ∧ va_K Z.1 vwCl (gT Z) U ∧ va_D (fun _ => True) [(h0, .inr (5, [.int 0, .int 0, .ref tk]))])) (va_Qi (fun (r : Int32) (u : Unit) => r = 0) (fun (u : Unit) (t : State) => va_P Z.1 vwCl [(h0, .inr (5, [.int 0, .int 0, .ref tk]))] t.heap ∧ va_D (va_A [(h0, .inr (5, [.int 0, .int 0, .ref tk]))] sz) [(h0, .inr (5, [.int 0, .int 0, .ref tk]))]) (va_A [(h0, .inr (5, [.int 0, .int 0, .ref tk]))] sz)) 0 0 (va_A [(h0, .inr (5, [.int 0, .int 0, .ref tk]))] sz) := by
  refine Met.ofW (cc := cX5_look) (maxL := 1) (ret := (some .char)) (by decide) rfl ?_
  intro p e s m args below meth c s₁ B hml hv
  obtain ⟨rfl, hsz, hP, hK, hD0⟩ := hv
  have hx := B.exec
  have hb := B.bytes
  have hr := B.returns
  have hts := atoms_spec (ws := wsX5_look) B.pre
  have hown : s.vm.findClass RX5 = some m.cls := findClass_of_methodNamed B.named
  have hlocks := B.notSynchronized
  subst hsz
  have hin5 : ∀ w ∈ wsX50, w ∈ wsX5_look := by decide +kernel
  have hD := hD0.self (sz := s.heap.size)
  generalize hAe : va_A [(h0, .inr (5, [.int 0, .int 0, .ref tk]))] s.heap.size = A at hD ⊢
  have hA : ∀ q : Nat, s.heap.size ≤ q → A q := fun q h => by rw [← hAe]; exact Or.inr h
  have hS : va_S A s.heap s.heap [] := va_S.rf
  have hP : va_P Z.1 vwCl [(h0, .inr (5, [.int 0, .int 0, .ref tk]))] s.heap := hP
  have hl := lv_entry ([.ref h0]) (n := 1) (Nat.le_of_ble_eq_true rfl)
  rw [lg_entry_eq]
  generalize (lg_sl ([.ref h0]) ++ List.replicate (1 - (lg_sl ([.ref h0])).length) Slot.unset).toArray = ls at hl ⊢
  have hl : lv_has ls 1 [(0, .ref h0)] := hl
  refine lv_aload_n hx hb dX5_look_0 rfl (lv_at hl 0 rfl) ?_
  have hPc := hP.sub (ws' := [(h0, .inr (5, [.int 0, .int 0, .ref tk]))]) [0] rfl
  have hDc := hD.sub (ws' := [(h0, .inr (5, [.int 0, .int 0, .ref tk]))]) [0] (by decide) rfl
  have hFc := va_free (wc := [(h0, .inr (5, [.int 0, .int 0, .ref tk]))]) hD hS hA [0] rfl
  refine va_callv (va_runV (As := []) (rest := []) ⟨hx, hb, hml, hown, hts⟩ (c_X5_skipBlanks l Z s.heap.size h0 tk) (cwV 0 hts gX5_look_X5_skipBlanks rfl rfl rfl (by decide +kernel) ⟨Nat.le_of_ble_eq_true rfl, Nat.le_of_ble_eq_true rfl⟩) ⟨fun a U g mk q => by obtain ⟨q0, q1, qP, qK, qD⟩ := q; exact ⟨q0, q1, qP, va_K.moved (u := U) (U := U.calling g mk a) (Vm.Alike.refl U.vm) qK, qD⟩, va_recv hK hPc (ci := 5) (q0 := 0) rfl rfl, fun U hU hW => ⟨rfl, by rw [hU], by rw [hU]; exact hPc, va_K.moved hW.alike hK, hDc.weaken (fun _ _ _ _ => trivial)⟩⟩ rfl rfl hl.1 rfl (lv_room (Nat.le_of_ble_eq_true rfl)) dX5_look_1 ⟨Nat.le_of_ble_eq_true rfl, Nat.le_of_ble_eq_true rfl⟩) hS (fun q _ h => hFc q h) hFc (fun u t H1 locs ht hvm hw hB hz1 hk1 hS => ?_)
  obtain ⟨hP1, hD1⟩ := hB
  rw [ht] at hP1
  obtain ⟨hP, hD⟩ := va_join (wr := []) (w1 := [(h0, .inr (5, [.int 0, .int 0, .ref tk]))]) hP hD [0] [] rfl rfl (by decide) (by decide) hk1 hFc hP1 hD1
  clear hPc hDc hP1 hD1 hk1 hz1 hFc ht hvm
  generalize H1 = H at hP hS ⊢
  have hP : va_P Z.1 vwCl [(h0, .inr (5, [.int 0, .int 0, .ref tk]))] H := hP
  have hD : va_D A [(h0, .inr (5, [.int 0, .int 0, .ref tk]))] := hD
  refine lv_aload_n hx hb dX5_look_4 rfl (lv_at hl 0 rfl) ?_
  refine va_get (D := Z.1) (ci := 5) (v := .int 0) (C := RX5) (T := TX5) (N := 3) hx hb hts hin5 hown hK hP 0 rfl rfl 1 (by decide) (hts (.fieldLink RX5 15 "HalfAsked$Tape" "at" "I") (by decide +kernel)) (fun _ h9 => h9) rfl dX5_look_5 ?_
  refine lv_aload_n hx hb dX5_look_8 rfl (lv_at hl 0 rfl) ?_
  refine va_get (D := Z.1) (ci := 5) (v := .int 0) (C := RX5) (T := TX5) (N := 3) hx hb hts hin5 hown hK hP 0 rfl rfl 0 (by decide) (hts (.fieldLink RX5 9 "HalfAsked$Tape" "size" "I") (by decide +kernel)) (fun _ h9 => h9) rfl dX5_look_9 ?_
  refine lv_icmp_ge (tgt := 27) hx hb dX5_look_12 (by decide) (fun _ => ?_) (fun c9 => absurd c9 (by decide))
  refine lv_iconst (v := 0) hx hb dX5_look_27 (by decide) ?_
  have hP9 := hP.sub (ws' := [(h0, .inr (5, [.int 0, .int 0, .ref tk]))]) [0] rfl
  have hD9 := hD.sub (ws' := [(h0, .inr (5, [.int 0, .int 0, .ref tk]))]) [0] (by decide) rfl
  exact W.zret (v := 0) hx hb hr rfl (fun t ht hW => ⟨⟨0, (), rfl, rfl, by rw [ht]; exact hP9, hD9⟩, hS.F ht⟩) hS.2.2 dX5_look_28
set_option maxHeartbeats 4000000 in
set_option maxRecDepth 100000 in
theorem c_X5_fault (l : Launch) (Z : gZ) (sz : Nat)   : Met l yX5_fault wsX5_fault ({ frames := 0, cells := 0, slots := 0, locals := 0 }) (va_Pc [.int 0] (fun U => U.heap.size = sz ∧ va_P Z.1 vwCl [] U.heap ∧ va_K Z.1 vwCl (gT Z) U ∧ va_D (fun _ => True) [])) (va_Qi (fun (r : Int32) (u : Unit) => r = (-20)) (fun (u : Unit) (t : State) => True) (va_A [] sz)) 0 0 (va_A [] sz) := by
  refine Met.ofW (cc := cX5_fault) (maxL := 1) (ret := (some .int)) (by decide) rfl ?_
  intro p e s m args below meth c s₁ B hml hv
  obtain ⟨rfl, hsz, hP, hK, hD0⟩ := hv
  have hx := B.exec
  have hb := B.bytes
  have hr := B.returns
  have hts := atoms_spec (ws := wsX5_fault) B.pre
  have hown : s.vm.findClass RX5 = some m.cls := findClass_of_methodNamed B.named
  have hlocks := B.notSynchronized
  subst hsz
  have hD := hD0.self (sz := s.heap.size)
  generalize hAe : va_A [] s.heap.size = A at hD ⊢
  have hA : ∀ q : Nat, s.heap.size ≤ q → A q := fun q h => by rw [← hAe]; exact Or.inr h
  have hS : va_S A s.heap s.heap [] := va_S.rf
  have hP : va_P Z.1 vwCl [] s.heap := hP
  have hl := lv_entry ([.int 0]) (n := 1) (Nat.le_of_ble_eq_true rfl)
  rw [lg_entry_eq]
  generalize (lg_sl ([.int 0]) ++ List.replicate (1 - (lg_sl ([.int 0])).length) Slot.unset).toArray = ls at hl ⊢
  have hl : lv_has ls 1 [(0, .int 0)] := hl
  refine lv_bipush (v := (-20)) hx hb dX5_fault_0 (by decide) ?_
  refine lv_iload_n hx hb dX5_fault_2 rfl (lv_at hl 0 rfl) ?_
  refine lv_isub hx hb dX5_fault_3 ?_
  refine lv_topi (fun f_1 ef_1 => ?_)
  obtain rfl : f_1 = (-20) := ef_1.trans (by decide)
  exact W.iret (v := (-20)) hx hb hr (fun t ht hW => ⟨⟨(-20), (), rfl, rfl, trivial⟩, hS.F ht⟩) hS.2.2 dX5_fault_4
set_option maxHeartbeats 4000000 in
set_option maxRecDepth 100000 in
theorem c_X5_readAsking (l : Launch) (Z : gZ) (sz : Nat) (h0 : Nat) (tk : Nat) (h1 : Nat)  : Met l yX5_readAsking wsX5_readAsking ({ frames := 2, cells := 0, slots := 0, locals := 40 }) (va_Pc [.ref h0, .ref h1, .int 0] (fun U => U.heap.size = sz ∧ va_P Z.1 vwCl [(h0, .inr (5, [.int 0, .int 0, .ref tk]))] U.heap ∧ va_K Z.1 vwCl (gT Z) U ∧ va_D (fun _ => True) [(h0, .inr (5, [.int 0, .int 0, .ref tk]))])) (va_Qi (fun (r : Int32) (u : Unit) => r = 0) (fun (u : Unit) (t : State) => va_P Z.1 vwCl [(h0, .inr (5, [.int 0, .int 0, .ref tk]))] t.heap ∧ va_D (va_A [(h0, .inr (5, [.int 0, .int 0, .ref tk]))] sz) [(h0, .inr (5, [.int 0, .int 0, .ref tk]))]) (va_A [(h0, .inr (5, [.int 0, .int 0, .ref tk]))] sz)) 0 0 (va_A [(h0, .inr (5, [.int 0, .int 0, .ref tk]))] sz) := by
  refine Met.ofW (cc := cX5_readAsking) (maxL := 5) (ret := (some .boolean)) (by decide) rfl ?_
  intro p e s m args below meth c s₁ B hml hv
  obtain ⟨rfl, hsz, hP, hK, hD0⟩ := hv
  have hx := B.exec
  have hb := B.bytes
  have hr := B.returns
  have hts := atoms_spec (ws := wsX5_readAsking) B.pre
  have hown : s.vm.findClass RX5 = some m.cls := findClass_of_methodNamed B.named
  have hlocks := B.notSynchronized
  subst hsz
  have hD := hD0.self (sz := s.heap.size)
  generalize hAe : va_A [(h0, .inr (5, [.int 0, .int 0, .ref tk]))] s.heap.size = A at hD ⊢
  have hA : ∀ q : Nat, s.heap.size ≤ q → A q := fun q h => by rw [← hAe]; exact Or.inr h
  have hS : va_S A s.heap s.heap [] := va_S.rf
  have hP : va_P Z.1 vwCl [(h0, .inr (5, [.int 0, .int 0, .ref tk]))] s.heap := hP
  have hl := lv_entry ([.ref h0, .ref h1, .int 0]) (n := 5) (Nat.le_of_ble_eq_true rfl)
  rw [lg_entry_eq]
  generalize (lg_sl ([.ref h0, .ref h1, .int 0]) ++ List.replicate (5 - (lg_sl ([.ref h0, .ref h1, .int 0])).length) Slot.unset).toArray = ls at hl ⊢
  have hl : lv_has ls 5 [(0, .ref h0), (1, .ref h1), (2, .int 0)] := hl
  refine lv_aload_n hx hb dX5_readAsking_0 rfl (lv_at hl 0 rfl) ?_
  have hPc := hP.sub (ws' := [(h0, .inr (5, [.int 0, .int 0, .ref tk]))]) [0] rfl
  have hDc := hD.sub (ws' := [(h0, .inr (5, [.int 0, .int 0, .ref tk]))]) [0] (by decide) rfl
  have hFc := va_free (wc := [(h0, .inr (5, [.int 0, .int 0, .ref tk]))]) hD hS hA [0] rfl
  refine va_calli (va_runV (As := []) (rest := []) ⟨hx, hb, hml, hown, hts⟩ (c_X5_look l Z s.heap.size h0 tk) (cwV 0 hts gX5_readAsking_X5_look rfl rfl rfl (by decide +kernel) ⟨Nat.le_of_ble_eq_true rfl, Nat.le_of_ble_eq_true rfl⟩) ⟨fun a U g mk q => by obtain ⟨q0, q1, qP, qK, qD⟩ := q; exact ⟨q0, q1, qP, va_K.moved (u := U) (U := U.calling g mk a) (Vm.Alike.refl U.vm) qK, qD⟩, va_recv hK hPc (ci := 5) (q0 := 0) rfl rfl, fun U hU hW => ⟨rfl, by rw [hU], by rw [hU]; exact hPc, va_K.moved hW.alike hK, hDc.weaken (fun _ _ _ _ => trivial)⟩⟩ rfl rfl hl.1 rfl (lv_room (Nat.le_of_ble_eq_true rfl)) dX5_readAsking_1 ⟨Nat.le_of_ble_eq_true rfl, Nat.le_of_ble_eq_true rfl⟩) hS (fun q _ h => hFc q h) hFc (fun r_1 u t H1 locs ht hvm hw hB hz1 hk1 hS => ?_)
  subst hw
  obtain ⟨hP1, hD1⟩ := hB
  rw [ht] at hP1
  obtain ⟨hP, hD⟩ := va_join (wr := []) (w1 := [(h0, .inr (5, [.int 0, .int 0, .ref tk]))]) hP hD [0] [] rfl rfl (by decide) (by decide) hk1 hFc hP1 hD1
  clear hPc hDc hP1 hD1 hk1 hz1 hFc ht hvm
  generalize H1 = H at hP hS ⊢
  have hP : va_P Z.1 vwCl [(h0, .inr (5, [.int 0, .int 0, .ref tk]))] H := hP
  have hD : va_D A [(h0, .inr (5, [.int 0, .int 0, .ref tk]))] := hD
  refine lv_bipush (v := 48) hx hb dX5_readAsking_4 (by decide) ?_
  refine lv_isub hx hb dX5_readAsking_6 ?_
  refine lv_topi (fun f_2 ef_2 => ?_)
  obtain rfl : f_2 = (-48) := ef_2.trans (by decide)
  refine lv_istore_n (lv' := [(3, .int (-48)), (0, .ref h0), (1, .ref h1), (2, .int 0)]) hx hb dX5_readAsking_7 rfl hl (by decide) rfl (fun ls hl => ?_)
  refine lv_iload_n hx hb dX5_readAsking_8 rfl (lv_at hl 0 rfl) ?_
  refine lv_if_lt (tgt := 17) hx hb dX5_readAsking_9 (by decide) (fun _ => ?_) (fun c9 => absurd c9 (by decide))
  refine lv_iconst (v := 0) hx hb dX5_readAsking_17 (by decide) ?_
  have hP9 := hP.sub (ws' := [(h0, .inr (5, [.int 0, .int 0, .ref tk]))]) [0] rfl
  have hD9 := hD.sub (ws' := [(h0, .inr (5, [.int 0, .int 0, .ref tk]))]) [0] (by decide) rfl
  exact W.zret (v := 0) hx hb hr rfl (fun t ht hW => ⟨⟨0, (), rfl, rfl, by rw [ht]; exact hP9, hD9⟩, hS.F ht⟩) hS.2.2 dX5_readAsking_18
set_option maxHeartbeats 4000000 in
set_option maxRecDepth 100000 in
theorem c_X5_readPlan (l : Launch) (Z : gZ) (sz : Nat) (h0 : Nat) (tk : Nat) (h1 : Nat) (v : Int32) (en : Int32) (k : Nat) (q : Nat)  : Met l yX5_readPlan wsX5_readPlan ({ frames := 3, cells := 0, slots := 0, locals := 64 }) (va_Pc [.ref h0, .ref h1, .int 0] (fun U => U.heap.size = sz ∧ va_P Z.1 vwCl [(h0, .inr (5, [.int 0, .int 0, .ref tk])), (h1, .inr (2, [.int v, .int en, .ref k, .ref q]))] U.heap ∧ va_K Z.1 vwCl (gT Z) U ∧ va_D (fun _ => True) [(h0, .inr (5, [.int 0, .int 0, .ref tk])), (h1, .inr (2, [.int v, .int en, .ref k, .ref q]))])) (va_Qi (fun (r : Int32) (u : Unit) => r = (-20)) (fun (u : Unit) (t : State) => va_P Z.1 vwCl [(h0, .inr (5, [.int 0, .int 0, .ref tk]))] t.heap ∧ va_D (va_A [(h0, .inr (5, [.int 0, .int 0, .ref tk])), (h1, .inr (2, [.int v, .int en, .ref k, .ref q]))] sz) [(h0, .inr (5, [.int 0, .int 0, .ref tk]))]) (va_A [(h0, .inr (5, [.int 0, .int 0, .ref tk])), (h1, .inr (2, [.int v, .int en, .ref k, .ref q]))] sz)) 0 0 (va_A [(h0, .inr (5, [.int 0, .int 0, .ref tk])), (h1, .inr (2, [.int v, .int en, .ref k, .ref q]))] sz) := by
  refine Met.ofW (cc := cX5_readPlan) (maxL := 5) (ret := (some .int)) (by decide) rfl ?_
  intro p e s m args below meth c s₁ B hml hv
  obtain ⟨rfl, hsz, hP, hK, hD0⟩ := hv
  have hx := B.exec
  have hb := B.bytes
  have hr := B.returns
  have hts := atoms_spec (ws := wsX5_readPlan) B.pre
  have hown : s.vm.findClass RX5 = some m.cls := findClass_of_methodNamed B.named
  have hlocks := B.notSynchronized
  subst hsz
  have hin5 : ∀ w ∈ wsX50, w ∈ wsX5_readPlan := by decide +kernel
  have hD := hD0.self (sz := s.heap.size)
  generalize hAe : va_A [(h0, .inr (5, [.int 0, .int 0, .ref tk])), (h1, .inr (2, [.int v, .int en, .ref k, .ref q]))] s.heap.size = A at hD ⊢
  have hA : ∀ q : Nat, s.heap.size ≤ q → A q := fun q h => by rw [← hAe]; exact Or.inr h
  have hS : va_S A s.heap s.heap [] := va_S.rf
  have hP : va_P Z.1 vwCl [(h0, .inr (5, [.int 0, .int 0, .ref tk])), (h1, .inr (2, [.int v, .int en, .ref k, .ref q]))] s.heap := hP
  have hl := lv_entry ([.ref h0, .ref h1, .int 0]) (n := 5) (Nat.le_of_ble_eq_true rfl)
  rw [lg_entry_eq]
  generalize (lg_sl ([.ref h0, .ref h1, .int 0]) ++ List.replicate (5 - (lg_sl ([.ref h0, .ref h1, .int 0])).length) Slot.unset).toArray = ls at hl ⊢
  have hl : lv_has ls 5 [(0, .ref h0), (1, .ref h1), (2, .int 0)] := hl
  refine lv_aload_n hx hb dX5_readPlan_0 rfl (lv_at hl 1 rfl) ?_
  have hPc := hP.sub (ws' := [(h1, .inr (2, [.int v, .int en, .ref k, .ref q]))]) [1] rfl
  have hDc := hD.sub (ws' := [(h1, .inr (2, [.int v, .int en, .ref k, .ref q]))]) [1] (by decide) rfl
  have hFc := va_free (wc := [(h1, .inr (2, [.int v, .int en, .ref k, .ref q]))]) hD hS hA [1] rfl
  refine va_callv (va_runV (As := []) (rest := []) ⟨hx, hb, hml, hown, hts⟩ (c_X2_clear l Z s.heap.size h1 v en k q) (cwV 0 hts gX5_readPlan_X2_clear rfl rfl rfl (by decide +kernel) ⟨Nat.le_of_ble_eq_true rfl, Nat.le_of_ble_eq_true rfl⟩) ⟨fun a U g mk q => by obtain ⟨q0, q1, qP, qK, qD⟩ := q; exact ⟨q0, q1, qP, va_K.moved (u := U) (U := U.calling g mk a) (Vm.Alike.refl U.vm) qK, qD⟩, va_recv hK hPc (ci := 2) (q0 := 0) rfl rfl, fun U hU hW => ⟨rfl, by rw [hU], by rw [hU]; exact hPc, va_K.moved hW.alike hK, hDc.weaken (fun _ _ _ _ => trivial)⟩⟩ rfl rfl hl.1 rfl (lv_room (Nat.le_of_ble_eq_true rfl)) dX5_readPlan_1 ⟨Nat.le_of_ble_eq_true rfl, Nat.le_of_ble_eq_true rfl⟩) hS (fun q _ h => hFc q h) hFc (fun u t H1 locs ht hvm hw hB hz1 hk1 hS => ?_)
  obtain ⟨hP1, hD1⟩ := hB
  rw [ht] at hP1
  obtain ⟨hP, hD⟩ := va_join (wr := [(h0, .inr (5, [.int 0, .int 0, .ref tk]))]) (w1 := [(h1, .inr (2, [.int 0, .int 0, .ref k, .ref q]))]) hP hD [1] [0] rfl rfl (by decide) (by decide) hk1 hFc hP1 hD1
  clear hPc hDc hP1 hD1 hk1 hz1 hFc ht hvm
  generalize H1 = H at hP hS ⊢
  have hP : va_P Z.1 vwCl [(h0, .inr (5, [.int 0, .int 0, .ref tk])), (h1, .inr (2, [.int 0, .int 0, .ref k, .ref q]))] H := hP
  have hD : va_D A [(h0, .inr (5, [.int 0, .int 0, .ref tk])), (h1, .inr (2, [.int 0, .int 0, .ref k, .ref q]))] := hD
  refine lv_aload_n hx hb dX5_readPlan_4 rfl (lv_at hl 0 rfl) ?_
  refine lv_iconst (v := 0) hx hb dX5_readPlan_5 (by decide) ?_
  refine va_put (D := Z.1) (ci := 5) (v := .int 0) (ty := .int) (C := RX5) (T := TX5) (N := 3) hx hb hts hin5 tyX5 tyX5_ok nmX5 hown hK hP hD hS 0 rfl rfl 1 (by decide) (hts (.fieldLink RX5 15 "HalfAsked$Tape" "at" "I") (by decide +kernel)) (fun _ h9 => h9) rfl (by decide +kernel) rfl rfl (Nat.le_of_ble_eq_true rfl) dX5_readPlan_6 (fun H locs hP hD hS => ?_)
  have hP : va_P Z.1 vwCl [(h0, .inr (5, [.int 0, .int 0, .ref tk])), (h1, .inr (2, [.int 0, .int 0, .ref k, .ref q]))] H := hP
  have hD : va_D A [(h0, .inr (5, [.int 0, .int 0, .ref tk])), (h1, .inr (2, [.int 0, .int 0, .ref k, .ref q]))] := hD
  refine lv_bipush (v := 7) hx hb dX5_readPlan_9 (by decide) ?_
  refine lv_istore_n (lv' := [(3, .int 7), (0, .ref h0), (1, .ref h1), (2, .int 0)]) hx hb dX5_readPlan_11 rfl hl (by decide) rfl (fun ls hl => ?_)
  refine lv_iload_n hx hb dX5_readPlan_12 rfl (lv_at hl 0 rfl) ?_
  refine lv_if_lt (tgt := 134) hx hb dX5_readPlan_13 (by decide) (fun c9 => absurd c9 (by decide)) (fun _ => ?_)
  refine lv_aload_n hx hb dX5_readPlan_16 rfl (lv_at hl 1 rfl) ?_
  refine lv_aload_n hx hb dX5_readPlan_17 rfl (lv_at hl 2 rfl) ?_
  refine lv_iload_n hx hb dX5_readPlan_18 rfl (lv_at hl 3 rfl) ?_
  have hPc := hP.sub (ws' := [(h0, .inr (5, [.int 0, .int 0, .ref tk]))]) [0] rfl
  have hDc := hD.sub (ws' := [(h0, .inr (5, [.int 0, .int 0, .ref tk]))]) [0] (by decide) rfl
  have hFc := va_free (wc := [(h0, .inr (5, [.int 0, .int 0, .ref tk]))]) hD hS hA [0] rfl
  refine va_calli (va_runV (As := [.ref h1, .int 0]) (rest := []) ⟨hx, hb, hml, hown, hts⟩ (c_X5_readAsking l Z H.size h0 tk h1) (cwV 2 hts gX5_readPlan_X5_readAsking rfl rfl rfl (by decide +kernel) ⟨Nat.le_of_ble_eq_true rfl, Nat.le_of_ble_eq_true rfl⟩) ⟨fun a U g mk q => by obtain ⟨q0, q1, qP, qK, qD⟩ := q; exact ⟨q0, q1, qP, va_K.moved (u := U) (U := U.calling g mk a) (Vm.Alike.refl U.vm) qK, qD⟩, va_recv hK hPc (ci := 5) (q0 := 0) rfl rfl, fun U hU hW => ⟨rfl, by rw [hU], by rw [hU]; exact hPc, va_K.moved hW.alike hK, hDc.weaken (fun _ _ _ _ => trivial)⟩⟩ rfl rfl hl.1 rfl (lv_room (Nat.le_of_ble_eq_true rfl)) dX5_readPlan_19 ⟨Nat.le_of_ble_eq_true rfl, Nat.le_of_ble_eq_true rfl⟩) hS (fun q _ h => hFc q h) hFc (fun r_2 u t H1 locs ht hvm hw hB hz1 hk1 hS => ?_)
  subst hw
  obtain ⟨hP1, hD1⟩ := hB
  rw [ht] at hP1
  obtain ⟨hP, hD⟩ := va_join (wr := [(h1, .inr (2, [.int 0, .int 0, .ref k, .ref q]))]) (w1 := [(h0, .inr (5, [.int 0, .int 0, .ref tk]))]) hP hD [0] [1] rfl rfl (by decide) (by decide) hk1 hFc hP1 hD1
  clear hPc hDc hP1 hD1 hk1 hz1 hFc ht hvm
  generalize H1 = H at hP hS ⊢
  have hP : va_P Z.1 vwCl [(h1, .inr (2, [.int 0, .int 0, .ref k, .ref q])), (h0, .inr (5, [.int 0, .int 0, .ref tk]))] H := hP
  have hD : va_D A [(h1, .inr (2, [.int 0, .int 0, .ref k, .ref q])), (h0, .inr (5, [.int 0, .int 0, .ref tk]))] := hD
  refine lv_if_ne (tgt := 33) hx hb dX5_readPlan_22 (by decide) (fun c9 => absurd c9 (by decide)) (fun _ => ?_)
  refine lv_aload_n hx hb dX5_readPlan_25 rfl (lv_at hl 1 rfl) ?_
  refine va_get (D := Z.1) (ci := 5) (v := .int 0) (C := RX5) (T := TX5) (N := 3) hx hb hts hin5 hown hK hP 1 rfl rfl 1 (by decide) (hts (.fieldLink RX5 15 "HalfAsked$Tape" "at" "I") (by decide +kernel)) (fun _ h9 => h9) rfl dX5_readPlan_26 ?_
  have hPc := hP.sub (ws' := []) [] rfl
  have hDc := hD.sub (ws' := []) [] (by decide) rfl
  have hFc := va_free (wc := []) hD hS hA [] rfl
  refine va_calli (va_runS (As := [.int 0]) (rest := []) ⟨hx, hb, hml, hown, hts⟩ (c_X5_fault l Z H.size ) (va_cwS 1 hts gX5_readPlan_X5_fault rfl rfl rfl (by decide +kernel) ⟨Nat.le_of_ble_eq_true rfl, Nat.le_of_ble_eq_true rfl⟩) ⟨fun a U g mk q => by obtain ⟨q0, q1, qP, qK, qD⟩ := q; exact ⟨q0, q1, qP, va_K.moved (u := U) (U := U.calling g mk a) (Vm.Alike.refl U.vm) qK, qD⟩, fun U hU hW => ⟨rfl, by rw [hU], by rw [hU]; exact hPc, va_K.moved hW.alike hK, hDc.weaken (fun _ _ _ _ => trivial)⟩⟩ rfl rfl hl.1 rfl (lv_room (Nat.le_of_ble_eq_true rfl)) dX5_readPlan_29 ⟨Nat.le_of_ble_eq_true rfl, Nat.le_of_ble_eq_true rfl⟩) hS (fun q _ h => hFc q h) hFc (fun r_3 u t H1 locs ht hvm hw hB hz1 hk1 hS => ?_)
  subst hw
  have hP1 : va_P Z.1 vwCl [] H1 := fun k q h => by simp at h
  have hD1 : va_D (va_A [] H.size) [] := ⟨fun i j p q h => by simp at h, fun k q h => by simp at h⟩
  obtain ⟨hP, hD⟩ := va_join (wr := [(h1, .inr (2, [.int 0, .int 0, .ref k, .ref q])), (h0, .inr (5, [.int 0, .int 0, .ref tk]))]) (w1 := []) hP hD [] [0, 1] rfl rfl (by decide) (by decide) hk1 hFc hP1 hD1
  clear hPc hDc hP1 hD1 hk1 hz1 hFc ht hvm
  generalize H1 = H at hP hS ⊢
  have hP : va_P Z.1 vwCl [(h1, .inr (2, [.int 0, .int 0, .ref k, .ref q])), (h0, .inr (5, [.int 0, .int 0, .ref tk]))] H := hP
  have hD : va_D A [(h1, .inr (2, [.int 0, .int 0, .ref k, .ref q])), (h0, .inr (5, [.int 0, .int 0, .ref tk]))] := hD
  have hP9 := hP.sub (ws' := [(h0, .inr (5, [.int 0, .int 0, .ref tk]))]) [1] rfl
  have hD9 := hD.sub (ws' := [(h0, .inr (5, [.int 0, .int 0, .ref tk]))]) [1] (by decide) rfl
  exact W.iret (v := (-20)) hx hb hr (fun t ht hW => ⟨⟨(-20), (), rfl, rfl, by rw [ht]; exact hP9, hD9⟩, hS.F ht⟩) hS.2.2 dX5_readPlan_32
set_option maxHeartbeats 4000000 in
set_option maxRecDepth 100000 in
theorem c_X8_plan (l : Launch) (Z : gZ) (sz : Nat) (h0 : Nat) (a1 : Nat) (a2 : Nat) (a3 : Nat) (a4 : Nat) (a5 : Nat) (a6 : Nat) (a7 : Nat) (a8 : Nat) (a9 : Nat) (a10 : Nat) (a11 : Nat) (a12 : Nat) (a13 : Nat) (fk : Nat) (fq : Nat) (tk : Nat) (vk : Nat) (vq : Nat)  : Met l yX8_plan wsX8_plan ({ frames := 4, cells := 0, slots := 0, locals := 88 }) (va_Pc [.ref h0] (fun U => U.heap.size = sz ∧ va_P Z.1 vwCl [(h0, .inr (8, [.ref a1, .ref a2, .ref a3, .ref a4, .ref a5, .int 0, .ref a6, .ref a7, .ref a8, .ref a9, .ref a10, .ref a11, .ref a12, .ref a13, .int 9, .int 0, .int 0])), (a1, .inr (0, [.int 0, .int 16510910, .int 0, .ref fk, .ref fq])), (a3, .inr (5, [.int 0, .int 0, .ref tk])), (a8, .inr (2, [.int 0, .int 0, .ref vk, .ref vq]))] U.heap ∧ va_K Z.1 vwCl (gT Z) U ∧ va_D (fun _ => True) [(h0, .inr (8, [.ref a1, .ref a2, .ref a3, .ref a4, .ref a5, .int 0, .ref a6, .ref a7, .ref a8, .ref a9, .ref a10, .ref a11, .ref a12, .ref a13, .int 9, .int 0, .int 0])), (a1, .inr (0, [.int 0, .int 16510910, .int 0, .ref fk, .ref fq])), (a3, .inr (5, [.int 0, .int 0, .ref tk])), (a8, .inr (2, [.int 0, .int 0, .ref vk, .ref vq]))])) (va_Qi (fun (r : Int32) (u : Unit) => r = (-20)) (fun (u : Unit) (t : State) => True) (va_A [(h0, .inr (8, [.ref a1, .ref a2, .ref a3, .ref a4, .ref a5, .int 0, .ref a6, .ref a7, .ref a8, .ref a9, .ref a10, .ref a11, .ref a12, .ref a13, .int 9, .int 0, .int 0])), (a1, .inr (0, [.int 0, .int 16510910, .int 0, .ref fk, .ref fq])), (a3, .inr (5, [.int 0, .int 0, .ref tk])), (a8, .inr (2, [.int 0, .int 0, .ref vk, .ref vq]))] sz)) 0 0 (va_A [(h0, .inr (8, [.ref a1, .ref a2, .ref a3, .ref a4, .ref a5, .int 0, .ref a6, .ref a7, .ref a8, .ref a9, .ref a10, .ref a11, .ref a12, .ref a13, .int 9, .int 0, .int 0])), (a1, .inr (0, [.int 0, .int 16510910, .int 0, .ref fk, .ref fq])), (a3, .inr (5, [.int 0, .int 0, .ref tk])), (a8, .inr (2, [.int 0, .int 0, .ref vk, .ref vq]))] sz) := by
  refine Met.ofW (cc := cX8_plan) (maxL := 2) (ret := (some .int)) (by decide) rfl ?_
  intro p e s m args below meth c s₁ B hml hv
  obtain ⟨rfl, hsz, hP, hK, hD0⟩ := hv
  have hx := B.exec
  have hb := B.bytes
  have hr := B.returns
  have hts := atoms_spec (ws := wsX8_plan) B.pre
  have hown : s.vm.findClass RX8 = some m.cls := findClass_of_methodNamed B.named
  have hlocks := B.notSynchronized
  subst hsz
  have hin0 : ∀ w ∈ wsX00, w ∈ wsX8_plan := by decide +kernel
  have hin5 : ∀ w ∈ wsX50, w ∈ wsX8_plan := by decide +kernel
  have hin8 : ∀ w ∈ wsX80, w ∈ wsX8_plan := by decide +kernel
  have hD := hD0.self (sz := s.heap.size)
  generalize hAe : va_A [(h0, .inr (8, [.ref a1, .ref a2, .ref a3, .ref a4, .ref a5, .int 0, .ref a6, .ref a7, .ref a8, .ref a9, .ref a10, .ref a11, .ref a12, .ref a13, .int 9, .int 0, .int 0])), (a1, .inr (0, [.int 0, .int 16510910, .int 0, .ref fk, .ref fq])), (a3, .inr (5, [.int 0, .int 0, .ref tk])), (a8, .inr (2, [.int 0, .int 0, .ref vk, .ref vq]))] s.heap.size = A at hD ⊢
  have hA : ∀ q : Nat, s.heap.size ≤ q → A q := fun q h => by rw [← hAe]; exact Or.inr h
  have hS : va_S A s.heap s.heap [] := va_S.rf
  have hP : va_P Z.1 vwCl [(h0, .inr (8, [.ref a1, .ref a2, .ref a3, .ref a4, .ref a5, .int 0, .ref a6, .ref a7, .ref a8, .ref a9, .ref a10, .ref a11, .ref a12, .ref a13, .int 9, .int 0, .int 0])), (a1, .inr (0, [.int 0, .int 16510910, .int 0, .ref fk, .ref fq])), (a3, .inr (5, [.int 0, .int 0, .ref tk])), (a8, .inr (2, [.int 0, .int 0, .ref vk, .ref vq]))] s.heap := hP
  have hl := lv_entry ([.ref h0]) (n := 2) (Nat.le_of_ble_eq_true rfl)
  rw [lg_entry_eq]
  generalize (lg_sl ([.ref h0]) ++ List.replicate (2 - (lg_sl ([.ref h0])).length) Slot.unset).toArray = ls at hl ⊢
  have hl : lv_has ls 2 [(0, .ref h0)] := hl
  refine lv_aload_n hx hb dX8_plan_0 rfl (lv_at hl 0 rfl) ?_
  refine va_get (D := Z.1) (ci := 8) (v := .ref a3) (C := RX8) (T := TX8) (N := 17) hx hb hts hin8 hown hK hP 0 rfl rfl 2 (by decide) (hts (.fieldLink RX8 26 "HalfAsked" "tape" "LHalfAsked$Tape;") (by decide +kernel)) (fun _ h9 => h9) rfl dX8_plan_1 ?_
  refine lv_aload_n hx hb dX8_plan_4 rfl (lv_at hl 0 rfl) ?_
  refine va_get (D := Z.1) (ci := 8) (v := .ref a8) (C := RX8) (T := TX8) (N := 17) hx hb hts hin8 hown hK hP 0 rfl rfl 8 (by decide) (hts (.fieldLink RX8 49 "HalfAsked" "trialPlan" "LHalfAsked$Plan;") (by decide +kernel)) (fun _ h9 => h9) rfl dX8_plan_5 ?_
  refine lv_aload_n hx hb dX8_plan_8 rfl (lv_at hl 0 rfl) ?_
  refine va_get (D := Z.1) (ci := 8) (v := .ref a1) (C := RX8) (T := TX8) (N := 17) hx hb hts hin8 hown hK hP 0 rfl rfl 0 (by decide) (hts (.fieldLink RX8 10 "HalfAsked" "folk" "LHalfAsked$Folk;") (by decide +kernel)) (fun _ h9 => h9) rfl dX8_plan_9 ?_
  refine va_get (D := Z.1) (ci := 0) (v := .int 0) (C := RX0) (T := TX0) (N := 5) hx hb hts hin0 hown hK hP 1 rfl rfl 0 (by decide) (hts (.fieldLink RX8 98 "HalfAsked$Folk" "size" "I") (by decide +kernel)) (fun _ h9 => h9) rfl dX8_plan_12 ?_
  have hPc := hP.sub (ws' := [(a3, .inr (5, [.int 0, .int 0, .ref tk])), (a8, .inr (2, [.int 0, .int 0, .ref vk, .ref vq]))]) [2, 3] rfl
  have hDc := hD.sub (ws' := [(a3, .inr (5, [.int 0, .int 0, .ref tk])), (a8, .inr (2, [.int 0, .int 0, .ref vk, .ref vq]))]) [2, 3] (by decide) rfl
  have hFc := va_free (wc := [(a3, .inr (5, [.int 0, .int 0, .ref tk])), (a8, .inr (2, [.int 0, .int 0, .ref vk, .ref vq]))]) hD hS hA [2, 3] rfl
  refine va_calli (va_runV (As := [.ref a8, .int 0]) (rest := []) ⟨hx, hb, hml, hown, hts⟩ (c_X5_readPlan l Z s.heap.size a3 tk a8 0 0 vk vq) (cwV 2 hts gX8_plan_X5_readPlan rfl rfl rfl (by decide +kernel) ⟨Nat.le_of_ble_eq_true rfl, Nat.le_of_ble_eq_true rfl⟩) ⟨fun a U g mk q => by obtain ⟨q0, q1, qP, qK, qD⟩ := q; exact ⟨q0, q1, qP, va_K.moved (u := U) (U := U.calling g mk a) (Vm.Alike.refl U.vm) qK, qD⟩, va_recv hK hPc (ci := 5) (q0 := 0) rfl rfl, fun U hU hW => ⟨rfl, by rw [hU], by rw [hU]; exact hPc, va_K.moved hW.alike hK, hDc.weaken (fun _ _ _ _ => trivial)⟩⟩ rfl rfl hl.1 rfl (lv_room (Nat.le_of_ble_eq_true rfl)) dX8_plan_15 ⟨Nat.le_of_ble_eq_true rfl, Nat.le_of_ble_eq_true rfl⟩) hS (fun q _ h => hFc q h) hFc (fun r_1 u t H1 locs ht hvm hw hB hz1 hk1 hS => ?_)
  subst hw
  obtain ⟨hP1, hD1⟩ := hB
  rw [ht] at hP1
  obtain ⟨hP, hD⟩ := va_join (wr := [(h0, .inr (8, [.ref a1, .ref a2, .ref a3, .ref a4, .ref a5, .int 0, .ref a6, .ref a7, .ref a8, .ref a9, .ref a10, .ref a11, .ref a12, .ref a13, .int 9, .int 0, .int 0])), (a1, .inr (0, [.int 0, .int 16510910, .int 0, .ref fk, .ref fq]))]) (w1 := [(a3, .inr (5, [.int 0, .int 0, .ref tk]))]) hP hD [2, 3] [0, 1] rfl rfl (by decide) (by decide) hk1 hFc hP1 hD1
  clear hPc hDc hP1 hD1 hk1 hz1 hFc ht hvm
  generalize H1 = H at hP hS ⊢
  have hP : va_P Z.1 vwCl [(h0, .inr (8, [.ref a1, .ref a2, .ref a3, .ref a4, .ref a5, .int 0, .ref a6, .ref a7, .ref a8, .ref a9, .ref a10, .ref a11, .ref a12, .ref a13, .int 9, .int 0, .int 0])), (a1, .inr (0, [.int 0, .int 16510910, .int 0, .ref fk, .ref fq])), (a3, .inr (5, [.int 0, .int 0, .ref tk]))] H := hP
  have hD : va_D A [(h0, .inr (8, [.ref a1, .ref a2, .ref a3, .ref a4, .ref a5, .int 0, .ref a6, .ref a7, .ref a8, .ref a9, .ref a10, .ref a11, .ref a12, .ref a13, .int 9, .int 0, .int 0])), (a1, .inr (0, [.int 0, .int 16510910, .int 0, .ref fk, .ref fq])), (a3, .inr (5, [.int 0, .int 0, .ref tk]))] := hD
  refine lv_istore_n (lv' := [(1, .int (-20)), (0, .ref h0)]) hx hb dX8_plan_18 rfl hl (by decide) rfl (fun ls hl => ?_)
  refine lv_aload_n hx hb dX8_plan_19 rfl (lv_at hl 1 rfl) ?_
  refine va_get (D := Z.1) (ci := 8) (v := .ref a3) (C := RX8) (T := TX8) (N := 17) hx hb hts hin8 hown hK hP 0 rfl rfl 2 (by decide) (hts (.fieldLink RX8 26 "HalfAsked" "tape" "LHalfAsked$Tape;") (by decide +kernel)) (fun _ h9 => h9) rfl dX8_plan_20 ?_
  refine lv_iconst (v := 0) hx hb dX8_plan_23 (by decide) ?_
  refine va_put (D := Z.1) (ci := 5) (v := .int 0) (ty := .int) (C := RX5) (T := TX5) (N := 3) hx hb hts hin5 tyX5 tyX5_ok nmX5 hown hK hP hD hS 2 rfl rfl 0 (by decide) (hts (.fieldLink RX8 150 "HalfAsked$Tape" "size" "I") (by decide +kernel)) (fun _ h9 => h9) rfl (by decide +kernel) rfl rfl (Nat.le_of_ble_eq_true rfl) dX8_plan_24 (fun H locs hP hD hS => ?_)
  have hP : va_P Z.1 vwCl [(h0, .inr (8, [.ref a1, .ref a2, .ref a3, .ref a4, .ref a5, .int 0, .ref a6, .ref a7, .ref a8, .ref a9, .ref a10, .ref a11, .ref a12, .ref a13, .int 9, .int 0, .int 0])), (a1, .inr (0, [.int 0, .int 16510910, .int 0, .ref fk, .ref fq])), (a3, .inr (5, [.int 0, .int 0, .ref tk]))] H := hP
  have hD : va_D A [(h0, .inr (8, [.ref a1, .ref a2, .ref a3, .ref a4, .ref a5, .int 0, .ref a6, .ref a7, .ref a8, .ref a9, .ref a10, .ref a11, .ref a12, .ref a13, .int 9, .int 0, .int 0])), (a1, .inr (0, [.int 0, .int 16510910, .int 0, .ref fk, .ref fq])), (a3, .inr (5, [.int 0, .int 0, .ref tk]))] := hD
  refine lv_iload_n hx hb dX8_plan_27 rfl (lv_at hl 0 rfl) ?_
  refine lv_if_le (tgt := 46) hx hb dX8_plan_28 (by decide) (fun _ => ?_) (fun c9 => absurd c9 (by decide))
  refine lv_iload_n hx hb dX8_plan_46 rfl (lv_at hl 0 rfl) ?_
  exact W.iret (v := (-20)) hx hb hr (fun t ht hW => ⟨⟨(-20), (), rfl, rfl, trivial⟩, hS.F ht⟩) hS.2.2 dX8_plan_47
theorem z_min24 {j : Nat} (h : j ≤ 24) : (if (24 : Int32) < nI j then (24 : Int32) else nI j) = nI j := if_neg (nI_nlt (a := 24) h (by decide))
theorem z_max0 (j : Nat) (h : j ≤ 24) : (if (0 : Int32) < nI j then nI j else (0 : Int32)) = nI j := by
  rcases Nat.eq_zero_or_pos j with e | e
  · subst e; rfl
  · exact if_pos (nI_lt (a := 0) e (by omega))
theorem z_n24 {d : Int32} (h1 : 0 ≤ d) (h2 : d ≤ 24) : ∃ j : Nat, j ≤ 24 ∧ d = nI j := nI_of2 (M := 24) (n := 24) (by decide) (Int32.not_lt.mpr h1) h2
set_option maxHeartbeats 4000000 in
set_option maxRecDepth 100000 in
theorem c_X4_init (l : Launch) (Z : gZ) (sz : Nat) (h0 : Nat) (a : Int32) (j : Nat) (hj : j ≤ 24) : Met l yX4_init wsX4_init ({ frames := 1, cells := 1, slots := 24, locals := 29 }) (va_Pc [.ref h0, .int a, .int (nI j)] (fun U => U.heap.size = sz ∧ va_P Z.1 vwCl [(h0, .inr (4, [.int 0, .null]))] U.heap ∧ va_K Z.1 vwCl (gT Z) U ∧ va_D (fun _ => True) [(h0, .inr (4, [.int 0, .null]))])) (va_Qv (fun (u : Nat) => match u with | it => True) (fun (u : Nat) (t : State) => match u with | it => va_P Z.1 vwCl [(h0, .inr (4, [.int a, .ref it]))] t.heap ∧ va_D (va_A [(h0, .inr (4, [.int 0, .null]))] sz) [(h0, .inr (4, [.int a, .ref it]))]) (va_A [(h0, .inr (4, [.int 0, .null]))] sz)) 1 24 (va_A [(h0, .inr (4, [.int 0, .null]))] sz) := by
  refine Met.ofW (cc := cX4_init) (maxL := 3) (ret := none) (by decide) rfl ?_
  intro p e s m args below meth c s₁ B hml hv
  obtain ⟨rfl, hsz, hP, hK, hD0⟩ := hv
  have hx := B.exec
  have hb := B.bytes
  have hr := B.returns
  have hts := atoms_spec (ws := wsX4_init) B.pre
  have hown : s.vm.findClass RX4 = some m.cls := findClass_of_methodNamed B.named
  have hlocks := B.notSynchronized
  have hin : meth.name = "<init>" := (name_of_methodNamed B.named B.method).1
  subst hsz
  have hin4 : ∀ w ∈ wsX40, w ∈ wsX4_init := by decide +kernel
  have hD := hD0.self (sz := s.heap.size)
  generalize hAe : va_A [(h0, .inr (4, [.int 0, .null]))] s.heap.size = A at hD ⊢
  have hA : ∀ q : Nat, s.heap.size ≤ q → A q := fun q h => by rw [← hAe]; exact Or.inr h
  have hS : va_S A s.heap s.heap [] := va_S.rf
  have hP : va_P Z.1 vwCl [(h0, .inr (4, [.int 0, .null]))] s.heap := hP
  have hl := lv_entry ([.ref h0, .int a, .int (nI j)]) (n := 3) (Nat.le_of_ble_eq_true rfl)
  rw [lg_entry_eq]
  generalize (lg_sl ([.ref h0, .int a, .int (nI j)]) ++ List.replicate (3 - (lg_sl ([.ref h0, .int a, .int (nI j)])).length) Slot.unset).toArray = ls at hl ⊢
  have hl : lv_has ls 3 [(0, .ref h0), (1, .int a), (2, .int (nI j))] := hl
  refine lv_aload_n hx hb dX4_init_0 rfl (lv_at hl 0 rfl) ?_
  refine W.objInit hx hb hown (hts (.methodLink RX4 3 objectInit) (by decide +kernel)) (hts (.instanceMethod objectInit) (by decide +kernel)) (hts (.code objectInit ⟨#[0xb1]⟩ 1 none) (by decide +kernel)) rfl (by rw [hml]; exact hl.1) rfl dX4_init_1 (Nat.le_of_ble_eq_true rfl) (Nat.le_of_ble_eq_true rfl) ?_
  refine W.eq (g2 := F0 m 4 ls []) rfl ?_
  refine lv_aload_n hx hb dX4_init_4 rfl (lv_at hl 0 rfl) ?_
  refine lv_iload_n hx hb dX4_init_5 rfl (lv_at hl 1 rfl) ?_
  refine va_putF (D := Z.1) (ci := 4) (v := .int a) (ty := .int) (C := RX4) (T := TX4) (N := 2) hx hb hts hin4 tyX4 tyX4_ok nmX4 hown hK hP hD hS 0 rfl rfl 0 (by decide) (hts (.fieldLink RX4 9 "HalfAsked$Sheet" "lane" "I") (by decide +kernel)) (fun _ h9 => h9) rfl hin rfl (by decide +kernel) rfl rfl (Nat.le_of_ble_eq_true rfl) dX4_init_6 (fun H locs hP hD hS => ?_)
  have hP : va_P Z.1 vwCl [(h0, .inr (4, [.int a, .null]))] H := hP
  have hD : va_D A [(h0, .inr (4, [.int a, .null]))] := hD
  refine lv_aload_n hx hb dX4_init_9 rfl (lv_at hl 0 rfl) ?_
  refine lv_iconst (v := 0) hx hb dX4_init_10 (by decide) ?_
  refine lv_iload_n hx hb dX4_init_11 rfl (lv_at hl 2 rfl) ?_
  refine lv_bipush (v := 24) hx hb dX4_init_12 (by decide) ?_
  refine va_mmin hx hb (hml.trans hl.1.symm) hown (hts (.methodLink RX4 15 Lib.Math.min.name) (by decide +kernel)) (hts (.static Lib.Math.min.name) (by decide +kernel)) (hts (.initialized "java/lang/Math") (by decide +kernel)) (hts (.code Lib.Math.min.name Lib.Math.min.code 2 (some .int)) (by decide +kernel)) (Nat.le_of_ble_eq_true rfl) (Nat.le_of_ble_eq_true rfl) (Nat.le_of_ble_eq_true rfl) (Nat.le_of_ble_eq_true rfl) dX4_init_14 ?_
  refine lv_topi (fun f_1 ef_1 => ?_)
  obtain rfl : f_1 = nI j := ef_1.trans (z_min24 hj)
  refine va_mmax hx hb (hml.trans hl.1.symm) hown (hts (.methodLink RX4 21 Lib.Math.max.name) (by decide +kernel)) (hts (.static Lib.Math.max.name) (by decide +kernel)) (hts (.initialized "java/lang/Math") (by decide +kernel)) (hts (.code Lib.Math.max.name Lib.Math.max.code 2 (some .int)) (by decide +kernel)) (Nat.le_of_ble_eq_true rfl) (Nat.le_of_ble_eq_true rfl) (Nat.le_of_ble_eq_true rfl) (Nat.le_of_ble_eq_true rfl) dX4_init_17 ?_
  refine lv_topi (fun f_2 ef_2 => ?_)
  obtain rfl : f_2 = nI j := ef_2.trans (z_max0 j hj)
  refine z_newlong (N' := j) hx hb (hts (.arrayClass .long) (by decide +kernel)) hK hP hD hS hA (nI_pos (by omega)) (nI_clamp (by omega)) (by omega) (Nat.le_of_ble_eq_true rfl) (show 0 + j ≤ 24 by omega) dX4_init_20 (fun q_3 H hP hD hS => ?_)
  have hP : va_P Z.1 vwCl [(h0, .inr (4, [.int a, .null])), (q_3, .inl (Z.2 2, j, .inr (.inl (fun _ => 0))))] H := hP
  have hD : va_D A [(h0, .inr (4, [.int a, .null])), (q_3, .inl (Z.2 2, j, .inr (.inl (fun _ => 0))))] := hD
  refine W.widen (k := 1) (n := 24) (Nat.le_of_ble_eq_true rfl) (show 0 + j ≤ 24 by omega) ?_
  refine va_putF (D := Z.1) (ci := 4) (v := .ref q_3) (ty := .array .long) (C := RX4) (T := TX4) (N := 2) hx hb hts hin4 tyX4 tyX4_ok nmX4 hown hK hP hD hS 0 rfl rfl 1 (by decide) (hts (.fieldLink RX4 24 "HalfAsked$Sheet" "items" "[J") (by decide +kernel)) (fun _ h9 => h9) rfl hin rfl (by decide +kernel) rfl rfl (Nat.le_of_ble_eq_true rfl) dX4_init_22 (fun H locs hP hD hS => ?_)
  have hP : va_P Z.1 vwCl [(h0, .inr (4, [.int a, .ref q_3])), (q_3, .inl (Z.2 2, j, .inr (.inl (fun _ => 0))))] H := hP
  have hD : va_D A [(h0, .inr (4, [.int a, .ref q_3])), (q_3, .inl (Z.2 2, j, .inr (.inl (fun _ => 0))))] := hD
  have hP9 := hP.sub (ws' := [(h0, .inr (4, [.int a, .ref q_3]))]) [0] rfl
  have hD9 := hD.sub (ws' := [(h0, .inr (4, [.int a, .ref q_3]))]) [0] (by decide) rfl
  exact W.vret hx hb hr (fun t ht hW => ⟨⟨q_3, rfl, trivial, by rw [ht]; exact hP9, hD9⟩, hS.F ht⟩) hS.2.2 dX4_init_25
set_option maxHeartbeats 4000000 in
set_option maxRecDepth 100000 in
theorem c_X8_sheet (l : Launch) (Z : gZ) (sz : Nat) (h0 : Nat) (a1 : Nat) (a2 : Nat) (a3 : Nat) (a4 : Nat) (a5 : Nat) (a6 : Nat) (a7 : Nat) (a8 : Nat) (a9 : Nat) (a10 : Nat) (a11 : Nat) (a12 : Nat) (a13 : Nat) (a : Int32) (b : Int32) (d : Int32)  : Met l yX8_sheet wsX8_sheet ({ frames := 2, cells := 2, slots := 26, locals := 51 }) (va_Pc [.ref h0, .int a, .int b, .int d] (fun U => U.heap.size = sz ∧ va_P Z.1 vwCl [(h0, .inr (8, [.ref a1, .ref a2, .ref a3, .ref a4, .ref a5, .int 0, .ref a6, .ref a7, .ref a8, .ref a9, .ref a10, .ref a11, .ref a12, .ref a13, .int 9, .int 0, .int 0])), (a6, .inl (Z.2 4, 4, .inr (.inr (.inr (.inr (fun _ => none))))))] U.heap ∧ va_K Z.1 vwCl (gT Z) U ∧ va_D (fun _ => True) [(h0, .inr (8, [.ref a1, .ref a2, .ref a3, .ref a4, .ref a5, .int 0, .ref a6, .ref a7, .ref a8, .ref a9, .ref a10, .ref a11, .ref a12, .ref a13, .int 9, .int 0, .int 0])), (a6, .inl (Z.2 4, 4, .inr (.inr (.inr (.inr (fun _ => none))))))])) (va_Qi (fun (r : Int32) (u : Unit) => r = (if (if a < 0 then (0 : Int32) else (if 4 ≤ a then (0 : Int32) else (1 : Int32))) = 0 then (-1 : Int32) else (if (if b < 0 then (0 : Int32) else (if 3 ≤ b then (0 : Int32) else (1 : Int32))) = 0 then (-1 : Int32) else (if d ≤ 24 then (if 0 ≤ d then d else (-14 : Int32)) else (-1 : Int32))))) (fun (u : Unit) (t : State) => True) (va_A [(h0, .inr (8, [.ref a1, .ref a2, .ref a3, .ref a4, .ref a5, .int 0, .ref a6, .ref a7, .ref a8, .ref a9, .ref a10, .ref a11, .ref a12, .ref a13, .int 9, .int 0, .int 0])), (a6, .inl (Z.2 4, 4, .inr (.inr (.inr (.inr (fun _ => none))))))] sz)) 2 26 (va_A [(h0, .inr (8, [.ref a1, .ref a2, .ref a3, .ref a4, .ref a5, .int 0, .ref a6, .ref a7, .ref a8, .ref a9, .ref a10, .ref a11, .ref a12, .ref a13, .int 9, .int 0, .int 0])), (a6, .inl (Z.2 4, 4, .inr (.inr (.inr (.inr (fun _ => none))))))] sz) := by
  refine Met.ofW (cc := cX8_sheet) (maxL := 4) (ret := (some .int)) (by decide) rfl ?_
  intro p e s m args below meth c s₁ B hml hv
  obtain ⟨rfl, hsz, hP, hK, hD0⟩ := hv
  have hx := B.exec
  have hb := B.bytes
  have hr := B.returns
  have hts := atoms_spec (ws := wsX8_sheet) B.pre
  have hown : s.vm.findClass RX8 = some m.cls := findClass_of_methodNamed B.named
  have hlocks := B.notSynchronized
  subst hsz
  have hin4 : ∀ w ∈ wsX40, w ∈ wsX8_sheet := by decide +kernel
  have hin8 : ∀ w ∈ wsX80, w ∈ wsX8_sheet := by decide +kernel
  have hD := hD0.self (sz := s.heap.size)
  generalize hAe : va_A [(h0, .inr (8, [.ref a1, .ref a2, .ref a3, .ref a4, .ref a5, .int 0, .ref a6, .ref a7, .ref a8, .ref a9, .ref a10, .ref a11, .ref a12, .ref a13, .int 9, .int 0, .int 0])), (a6, .inl (Z.2 4, 4, .inr (.inr (.inr (.inr (fun _ => none))))))] s.heap.size = A at hD ⊢
  have hA : ∀ q : Nat, s.heap.size ≤ q → A q := fun q h => by rw [← hAe]; exact Or.inr h
  have hS : va_S A s.heap s.heap [] := va_S.rf
  have hP : va_P Z.1 vwCl [(h0, .inr (8, [.ref a1, .ref a2, .ref a3, .ref a4, .ref a5, .int 0, .ref a6, .ref a7, .ref a8, .ref a9, .ref a10, .ref a11, .ref a12, .ref a13, .int 9, .int 0, .int 0])), (a6, .inl (Z.2 4, 4, .inr (.inr (.inr (.inr (fun _ => none))))))] s.heap := hP
  have hl := lv_entry ([.ref h0, .int a, .int b, .int d]) (n := 4) (Nat.le_of_ble_eq_true rfl)
  rw [lg_entry_eq]
  generalize (lg_sl ([.ref h0, .int a, .int b, .int d]) ++ List.replicate (4 - (lg_sl ([.ref h0, .int a, .int b, .int d])).length) Slot.unset).toArray = ls at hl ⊢
  have hl : lv_has ls 4 [(0, .ref h0), (1, .int a), (2, .int b), (3, .int d)] := hl
  refine lv_iload_n hx hb dX8_sheet_0 rfl (lv_at hl 1 rfl) ?_
  have hPc := hP.sub (ws' := []) [] rfl
  have hDc := hD.sub (ws' := []) [] (by decide) rfl
  have hFc := va_free (wc := []) hD hS hA [] rfl
  refine va_calli (va_runS (As := [.int a]) (rest := []) ⟨hx, hb, hml, hown, hts⟩ (c_X8_isSheet l Z s.heap.size a) (va_cwS 1 hts gX8_sheet_X8_isSheet rfl rfl rfl (by decide +kernel) ⟨Nat.le_of_ble_eq_true rfl, Nat.le_of_ble_eq_true rfl⟩) ⟨fun a U g mk q => by obtain ⟨q0, q1, qP, qK, qD⟩ := q; exact ⟨q0, q1, qP, va_K.moved (u := U) (U := U.calling g mk a) (Vm.Alike.refl U.vm) qK, qD⟩, fun U hU hW => ⟨rfl, by rw [hU], by rw [hU]; exact hPc, va_K.moved hW.alike hK, hDc.weaken (fun _ _ _ _ => trivial)⟩⟩ rfl rfl hl.1 rfl (lv_room (Nat.le_of_ble_eq_true rfl)) dX8_sheet_1 ⟨Nat.le_of_ble_eq_true rfl, Nat.le_of_ble_eq_true rfl⟩) hS (fun q _ h => hFc q h) hFc (fun r_1 u t H1 locs ht hvm hw hB hz1 hk1 hS => ?_)
  subst hw
  have hP1 : va_P Z.1 vwCl [] H1 := fun k q h => by simp at h
  have hD1 : va_D (va_A [] s.heap.size) [] := ⟨fun i j p q h => by simp at h, fun k q h => by simp at h⟩
  obtain ⟨hP, hD⟩ := va_join (wr := [(h0, .inr (8, [.ref a1, .ref a2, .ref a3, .ref a4, .ref a5, .int 0, .ref a6, .ref a7, .ref a8, .ref a9, .ref a10, .ref a11, .ref a12, .ref a13, .int 9, .int 0, .int 0])), (a6, .inl (Z.2 4, 4, .inr (.inr (.inr (.inr (fun _ => none))))))]) (w1 := []) hP hD [] [0, 1] rfl rfl (by decide) (by decide) hk1 hFc hP1 hD1
  clear hPc hDc hP1 hD1 hk1 hz1 hFc ht hvm
  generalize H1 = H at hP hS ⊢
  have hP : va_P Z.1 vwCl [(h0, .inr (8, [.ref a1, .ref a2, .ref a3, .ref a4, .ref a5, .int 0, .ref a6, .ref a7, .ref a8, .ref a9, .ref a10, .ref a11, .ref a12, .ref a13, .int 9, .int 0, .int 0])), (a6, .inl (Z.2 4, 4, .inr (.inr (.inr (.inr (fun _ => none))))))] H := hP
  have hD : va_D A [(h0, .inr (8, [.ref a1, .ref a2, .ref a3, .ref a4, .ref a5, .int 0, .ref a6, .ref a7, .ref a8, .ref a9, .ref a10, .ref a11, .ref a12, .ref a13, .int 9, .int 0, .int 0])), (a6, .inl (Z.2 4, 4, .inr (.inr (.inr (.inr (fun _ => none))))))] := hD
  refine lv_if_eq (tgt := 20) hx hb dX8_sheet_4 (by decide) (fun c_2 => ?_) (fun c_2 => ?_)
  · refine lv_iconst (v := (-1)) hx hb dX8_sheet_20 (by decide) ?_
    refine W.widen (k := 2) (n := 26) (Nat.le_of_ble_eq_true rfl) (Nat.le_of_ble_eq_true rfl) ?_
    exact W.iret (v := (-1)) hx hb hr (fun t ht hW => ⟨⟨(-1), (), rfl, (by rw [if_pos c_2]), trivial⟩, hS.F ht⟩) hS.2.2 dX8_sheet_21
  · refine lv_iload_n hx hb dX8_sheet_7 rfl (lv_at hl 2 rfl) ?_
    have hPc := hP.sub (ws' := []) [] rfl
    have hDc := hD.sub (ws' := []) [] (by decide) rfl
    have hFc := va_free (wc := []) hD hS hA [] rfl
    refine va_calli (va_runS (As := [.int b]) (rest := []) ⟨hx, hb, hml, hown, hts⟩ (c_X8_isLane l Z H.size b) (va_cwS 1 hts gX8_sheet_X8_isLane rfl rfl rfl (by decide +kernel) ⟨Nat.le_of_ble_eq_true rfl, Nat.le_of_ble_eq_true rfl⟩) ⟨fun a U g mk q => by obtain ⟨q0, q1, qP, qK, qD⟩ := q; exact ⟨q0, q1, qP, va_K.moved (u := U) (U := U.calling g mk a) (Vm.Alike.refl U.vm) qK, qD⟩, fun U hU hW => ⟨rfl, by rw [hU], by rw [hU]; exact hPc, va_K.moved hW.alike hK, hDc.weaken (fun _ _ _ _ => trivial)⟩⟩ rfl rfl hl.1 rfl (lv_room (Nat.le_of_ble_eq_true rfl)) dX8_sheet_8 ⟨Nat.le_of_ble_eq_true rfl, Nat.le_of_ble_eq_true rfl⟩) hS (fun q _ h => hFc q h) hFc (fun r_3 u t H1 locs ht hvm hw hB hz1 hk1 hS => ?_)
    subst hw
    have hP1 : va_P Z.1 vwCl [] H1 := fun k q h => by simp at h
    have hD1 : va_D (va_A [] H.size) [] := ⟨fun i j p q h => by simp at h, fun k q h => by simp at h⟩
    obtain ⟨hP, hD⟩ := va_join (wr := [(h0, .inr (8, [.ref a1, .ref a2, .ref a3, .ref a4, .ref a5, .int 0, .ref a6, .ref a7, .ref a8, .ref a9, .ref a10, .ref a11, .ref a12, .ref a13, .int 9, .int 0, .int 0])), (a6, .inl (Z.2 4, 4, .inr (.inr (.inr (.inr (fun _ => none))))))]) (w1 := []) hP hD [] [0, 1] rfl rfl (by decide) (by decide) hk1 hFc hP1 hD1
    clear hPc hDc hP1 hD1 hk1 hz1 hFc ht hvm
    generalize H1 = H at hP hS ⊢
    have hP : va_P Z.1 vwCl [(h0, .inr (8, [.ref a1, .ref a2, .ref a3, .ref a4, .ref a5, .int 0, .ref a6, .ref a7, .ref a8, .ref a9, .ref a10, .ref a11, .ref a12, .ref a13, .int 9, .int 0, .int 0])), (a6, .inl (Z.2 4, 4, .inr (.inr (.inr (.inr (fun _ => none))))))] H := hP
    have hD : va_D A [(h0, .inr (8, [.ref a1, .ref a2, .ref a3, .ref a4, .ref a5, .int 0, .ref a6, .ref a7, .ref a8, .ref a9, .ref a10, .ref a11, .ref a12, .ref a13, .int 9, .int 0, .int 0])), (a6, .inl (Z.2 4, 4, .inr (.inr (.inr (.inr (fun _ => none))))))] := hD
    refine lv_if_eq (tgt := 20) hx hb dX8_sheet_11 (by decide) (fun c_4 => ?_) (fun c_4 => ?_)
    · refine lv_iconst (v := (-1)) hx hb dX8_sheet_20 (by decide) ?_
      refine W.widen (k := 2) (n := 26) (Nat.le_of_ble_eq_true rfl) (Nat.le_of_ble_eq_true rfl) ?_
      exact W.iret (v := (-1)) hx hb hr (fun t ht hW => ⟨⟨(-1), (), rfl, (by rw [if_neg c_2, if_pos c_4]), trivial⟩, hS.F ht⟩) hS.2.2 dX8_sheet_21
    · refine lv_iload_n hx hb dX8_sheet_14 rfl (lv_at hl 3 rfl) ?_
      refine lv_bipush (v := 24) hx hb dX8_sheet_15 (by decide) ?_
      refine lv_icmp_le (tgt := 22) hx hb dX8_sheet_17 (by decide) (fun c_5 => ?_) (fun c_5 => ?_)
      · refine lv_iload_n hx hb dX8_sheet_22 rfl (lv_at hl 3 rfl) ?_
        refine lv_if_ge (tgt := 29) hx hb dX8_sheet_23 (by decide) (fun c_6 => ?_) (fun c_6 => ?_)
        · obtain ⟨j, hj, rfl⟩ := z_n24 c_6 c_5
          refine lv_aload_n hx hb dX8_sheet_29 rfl (lv_at hl 0 rfl) ?_
          refine va_get (D := Z.1) (ci := 8) (v := .ref a6) (C := RX8) (T := TX8) (N := 17) hx hb hts hin8 hown hK hP 0 rfl rfl 6 (by decide) (hts (.fieldLink RX8 42 "HalfAsked" "sheets" "[LHalfAsked$Sheet;") (by decide +kernel)) (fun _ h9 => h9) rfl dX8_sheet_30 ?_
          refine lv_iload_n hx hb dX8_sheet_33 rfl (lv_at hl 1 rfl) ?_
          refine va_new (ci := 4) (fs := [.int 0, .null]) (C := RX4) (T := TX4) (N := 2) hx hb hts hin4 tyX4 tyX4_ok hown (hts (.classLink RX8 40 RX4) (by decide +kernel)) (hts (.instantiable RX4 2) (by decide +kernel)) (hts (.initialized RX4) (by decide +kernel)) hK hP hD hS hA rfl (fun j hj => by rcases (show j = 0 ∨ j = 1 by omega) with rfl | rfl <;> rfl) (Nat.le_of_ble_eq_true rfl) (Nat.le_of_ble_eq_true rfl) dX8_sheet_34 (fun q_7 H hP hD hS => ?_)
          have hP : va_P Z.1 vwCl [(h0, .inr (8, [.ref a1, .ref a2, .ref a3, .ref a4, .ref a5, .int 0, .ref a6, .ref a7, .ref a8, .ref a9, .ref a10, .ref a11, .ref a12, .ref a13, .int 9, .int 0, .int 0])), (a6, .inl (Z.2 4, 4, .inr (.inr (.inr (.inr (fun _ => none)))))), (q_7, .inr (4, [.int 0, .null]))] H := hP
          have hD : va_D A [(h0, .inr (8, [.ref a1, .ref a2, .ref a3, .ref a4, .ref a5, .int 0, .ref a6, .ref a7, .ref a8, .ref a9, .ref a10, .ref a11, .ref a12, .ref a13, .int 9, .int 0, .int 0])), (a6, .inl (Z.2 4, 4, .inr (.inr (.inr (.inr (fun _ => none)))))), (q_7, .inr (4, [.int 0, .null]))] := hD
          refine W.widen (k := 1) (n := 2) (Nat.le_of_ble_eq_true rfl) (Nat.le_of_ble_eq_true rfl) ?_
          refine lv_dup hx hb dX8_sheet_37 rfl ?_
          refine lv_iload_n hx hb dX8_sheet_38 rfl (lv_at hl 2 rfl) ?_
          refine lv_iload_n hx hb dX8_sheet_39 rfl (lv_at hl 3 rfl) ?_
          have hPc := hP.sub (ws' := [(q_7, .inr (4, [.int 0, .null]))]) [2] rfl
          have hDc := hD.sub (ws' := [(q_7, .inr (4, [.int 0, .null]))]) [2] (by decide) rfl
          have hFc := va_free (wc := [(q_7, .inr (4, [.int 0, .null]))]) hD hS hA [2] rfl
          refine va_callv (va_runI (As := [.int b, .int (nI j)]) (rest := [.ref q_7, .int a, .ref a6]) ⟨hx, hb, hml, hown, hts⟩ (c_X4_init l Z H.size q_7 b j (hj)) (cwI 2 hts gX8_sheet_X4_init rfl rfl rfl (hts (.initialized RX4) (by decide +kernel)) (hts (.methodLink RX8 258 yX4_init) (by decide +kernel)) (hts (.instanceMethod yX4_init) (by decide +kernel)) rfl (by decide +kernel) ⟨Nat.le_of_ble_eq_true rfl, Nat.le_of_ble_eq_true rfl⟩) ⟨fun a U g mk q => by obtain ⟨q0, q1, qP, qK, qD⟩ := q; exact ⟨q0, q1, qP, va_K.moved (u := U) (U := U.calling g mk a) (Vm.Alike.refl U.vm) qK, qD⟩, fun U hU hW => ⟨rfl, by rw [hU], by rw [hU]; exact hPc, va_K.moved hW.alike hK, hDc.weaken (fun _ _ _ _ => trivial)⟩⟩ rfl rfl hl.1 rfl (lv_room (Nat.le_of_ble_eq_true rfl)) dX8_sheet_40 ⟨Nat.le_of_ble_eq_true rfl, Nat.le_of_ble_eq_true rfl⟩) hS (fun q _ h => hFc q h) hFc (fun u t H1 locs ht hvm hw hB hz1 hk1 hS => ?_)
          obtain ⟨it_9, rfl⟩ : ∃ z, z = u := ⟨_, rfl⟩
          try dsimp only at hw hB
          obtain ⟨hP1, hD1⟩ := hB
          rw [ht] at hP1
          obtain ⟨hP, hD⟩ := va_join (wr := [(h0, .inr (8, [.ref a1, .ref a2, .ref a3, .ref a4, .ref a5, .int 0, .ref a6, .ref a7, .ref a8, .ref a9, .ref a10, .ref a11, .ref a12, .ref a13, .int 9, .int 0, .int 0])), (a6, .inl (Z.2 4, 4, .inr (.inr (.inr (.inr (fun _ => none))))))]) (w1 := [(q_7, .inr (4, [.int b, .ref it_9]))]) hP hD [2] [0, 1] rfl rfl (by decide) (by decide) hk1 hFc hP1 hD1
          clear hPc hDc hP1 hD1 hk1 hz1 hFc ht hvm
          generalize H1 = H at hP hS ⊢
          have hP : va_P Z.1 vwCl [(h0, .inr (8, [.ref a1, .ref a2, .ref a3, .ref a4, .ref a5, .int 0, .ref a6, .ref a7, .ref a8, .ref a9, .ref a10, .ref a11, .ref a12, .ref a13, .int 9, .int 0, .int 0])), (a6, .inl (Z.2 4, 4, .inr (.inr (.inr (.inr (fun _ => none)))))), (q_7, .inr (4, [.int b, .ref it_9]))] H := hP
          have hD : va_D A [(h0, .inr (8, [.ref a1, .ref a2, .ref a3, .ref a4, .ref a5, .int 0, .ref a6, .ref a7, .ref a8, .ref a9, .ref a10, .ref a11, .ref a12, .ref a13, .int 9, .int 0, .int 0])), (a6, .inl (Z.2 4, 4, .inr (.inr (.inr (.inr (fun _ => none)))))), (q_7, .inr (4, [.int b, .ref it_9]))] := hD
          refine W.widen (k := 2) (n := 26) (Nat.le_of_ble_eq_true rfl) (Nat.le_of_ble_eq_true rfl) ?_
          refine va_astq (r := (RX4, TX4, 2)) hx hb hK hP hD hS 1 4 2 4 rfl rfl rfl rfl (z_sh c_2) dX8_sheet_43 (fun H locs hP hD hS => ?_)
          have hP : va_P Z.1 vwCl [(h0, .inr (8, [.ref a1, .ref a2, .ref a3, .ref a4, .ref a5, .int 0, .ref a6, .ref a7, .ref a8, .ref a9, .ref a10, .ref a11, .ref a12, .ref a13, .int 9, .int 0, .int 0])), (a6, .inl (Z.2 4, 4, .inr (.inr (.inr (.inr (va_up (fun _ => none) (a.toNatClampNeg) (some q_7))))))), (q_7, .inr (4, [.int b, .ref it_9]))] H := hP
          have hD : va_D A [(h0, .inr (8, [.ref a1, .ref a2, .ref a3, .ref a4, .ref a5, .int 0, .ref a6, .ref a7, .ref a8, .ref a9, .ref a10, .ref a11, .ref a12, .ref a13, .int 9, .int 0, .int 0])), (a6, .inl (Z.2 4, 4, .inr (.inr (.inr (.inr (va_up (fun _ => none) (a.toNatClampNeg) (some q_7))))))), (q_7, .inr (4, [.int b, .ref it_9]))] := hD
          generalize (va_up (fun _ => none) (a.toNatClampNeg) (some q_7) : Nat → Option Nat) = g_10 at hP hD
          refine lv_iload_n hx hb dX8_sheet_44 rfl (lv_at hl 3 rfl) ?_
          exact W.iret (v := (nI j)) hx hb hr (fun t ht hW => ⟨⟨nI j, (), rfl, (by rw [if_neg c_2, if_neg c_4, if_pos c_5, if_pos c_6]), trivial⟩, hS.F ht⟩) hS.2.2 dX8_sheet_45
        · refine lv_bipush (v := (-14)) hx hb dX8_sheet_26 (by decide) ?_
          refine W.widen (k := 2) (n := 26) (Nat.le_of_ble_eq_true rfl) (Nat.le_of_ble_eq_true rfl) ?_
          exact W.iret (v := (-14)) hx hb hr (fun t ht hW => ⟨⟨(-14), (), rfl, (by rw [if_neg c_2, if_neg c_4, if_pos c_5, if_neg c_6]), trivial⟩, hS.F ht⟩) hS.2.2 dX8_sheet_28
      · refine lv_iconst (v := (-1)) hx hb dX8_sheet_20 (by decide) ?_
        refine W.widen (k := 2) (n := 26) (Nat.le_of_ble_eq_true rfl) (Nat.le_of_ble_eq_true rfl) ?_
        exact W.iret (v := (-1)) hx hb hr (fun t ht hW => ⟨⟨(-1), (), rfl, (by rw [if_neg c_2, if_neg c_4, if_neg c_5]), trivial⟩, hS.F ht⟩) hS.2.2 dX8_sheet_21
theorem z_m5 {k : Int32} (h : 0 ≤ k.toInt ∧ k.toInt < 46) : vp_in (k - k / 5 * 5) 5 := by
  obtain ⟨j, hj, rfl⟩ := vp_in_of (n := 46) (vp_in_iff.mpr h) (by decide)
  have e := pk_rem (a := j) (d := 5) (by omega) (by decide) (by decide)
  rw [show (nI 5 : Int32) = 5 from rfl] at e
  rw [e]
  exact vp_in_nI (Nat.mod_lt _ (by decide)) (by decide)
theorem z_p20 {k : Int32} (h1 : 20 ≤ k) (h2 : ¬ 44 ≤ k) : vp_in (k - 20) 24 := by
  rw [Int32.le_iff_toInt_le] at h1 h2
  have e1 : (20 : Int32).toInt = 20 := by decide
  have e2 : (44 : Int32).toInt = 44 := by decide
  have e3 : (k - 20).toInt = k.toInt - 20 := by rw [Int32.toInt_sub, e1]; exact Int.bmod_eq_of_le (by omega) (by omega)
  exact vp_in_iff.mpr (by rw [e3]; omega)
set_option maxHeartbeats 4000000 in
set_option maxRecDepth 100000 in
theorem c_X9_carried (l : Launch) (Z : gZ) (sz : Nat) (h0 : Nat) (b1 : Nat) (b2 : Nat) (b3 : Nat) (b4 : Nat) (b5 : Nat) (b6 : Nat) (b7 : Nat) (b8 : Nat) (b9 : Nat) (b10 : Nat) (b11 : Nat) (b12 : Nat) (b13 : Nat) (b14 : Nat) (b15 : Nat) (b16 : Nat) (b17 : Nat) (b18 : Nat) (b19 : Nat) (b20 : Nat) (b21 : Nat) (b22 : Nat) (b23 : Nat) (b24 : Nat) (b25 : Nat) (f1 : Nat → Int32) (f2 : Nat → Int32) (f3 : Nat → Int32) (f4 : Nat → Int32) (f5 : Nat → Int32) (k : Int32) (hk : 0 ≤ k.toInt ∧ k.toInt < 46) : Met l yX9_carried wsX9_carried ({ frames := 0, cells := 0, slots := 0, locals := 0 }) (va_Pc [.ref h0, .int k, .int 0, .int 0] (fun U => U.heap.size = sz ∧ va_P Z.1 vwCl [(h0, .inr (9, [.ref b1, .ref b2, .ref b3, .ref b4, .int 0, .ref b5, .int 0, .ref b6, .ref b7, .ref b8, .int 0, .int 0, .int 0, .ref b9, .ref b10, .ref b11, .ref b12, .ref b13, .ref b14, .ref b15, .ref b16, .ref b17, .ref b18, .int 0, .ref b19, .ref b20, .ref b21, .ref b22, .ref b23, .ref b24, .ref b25])), (b1, .inl (Z.2 0, 5, .inl f1)), (b2, .inl (Z.2 0, 5, .inl f2)), (b3, .inl (Z.2 0, 5, .inl f3)), (b4, .inl (Z.2 0, 5, .inl f4)), (b5, .inl (Z.2 0, 24, .inl f5))] U.heap ∧ va_K Z.1 vwCl (gT Z) U ∧ va_D (fun _ => True) [(h0, .inr (9, [.ref b1, .ref b2, .ref b3, .ref b4, .int 0, .ref b5, .int 0, .ref b6, .ref b7, .ref b8, .int 0, .int 0, .int 0, .ref b9, .ref b10, .ref b11, .ref b12, .ref b13, .ref b14, .ref b15, .ref b16, .ref b17, .ref b18, .int 0, .ref b19, .ref b20, .ref b21, .ref b22, .ref b23, .ref b24, .ref b25])), (b1, .inl (Z.2 0, 5, .inl f1)), (b2, .inl (Z.2 0, 5, .inl f2)), (b3, .inl (Z.2 0, 5, .inl f3)), (b4, .inl (Z.2 0, 5, .inl f4)), (b5, .inl (Z.2 0, 24, .inl f5))])) (va_Qi (fun (r : Int32) (u : (Nat → Int32) × (Nat → Int32) × (Nat → Int32) × (Nat → Int32) × (Nat → Int32)) => match u with | (g1, g2, g3, g4, g5) => True) (fun (u : (Nat → Int32) × (Nat → Int32) × (Nat → Int32) × (Nat → Int32) × (Nat → Int32)) (t : State) => match u with | (g1, g2, g3, g4, g5) => va_P Z.1 vwCl [(h0, .inr (9, [.ref b1, .ref b2, .ref b3, .ref b4, .int 0, .ref b5, .int 0, .ref b6, .ref b7, .ref b8, .int 0, .int 0, .int 0, .ref b9, .ref b10, .ref b11, .ref b12, .ref b13, .ref b14, .ref b15, .ref b16, .ref b17, .ref b18, .int 0, .ref b19, .ref b20, .ref b21, .ref b22, .ref b23, .ref b24, .ref b25])), (b1, .inl (Z.2 0, 5, .inl g1)), (b2, .inl (Z.2 0, 5, .inl g2)), (b3, .inl (Z.2 0, 5, .inl g3)), (b4, .inl (Z.2 0, 5, .inl g4)), (b5, .inl (Z.2 0, 24, .inl g5))] t.heap ∧ va_D (va_A [(h0, .inr (9, [.ref b1, .ref b2, .ref b3, .ref b4, .int 0, .ref b5, .int 0, .ref b6, .ref b7, .ref b8, .int 0, .int 0, .int 0, .ref b9, .ref b10, .ref b11, .ref b12, .ref b13, .ref b14, .ref b15, .ref b16, .ref b17, .ref b18, .int 0, .ref b19, .ref b20, .ref b21, .ref b22, .ref b23, .ref b24, .ref b25])), (b1, .inl (Z.2 0, 5, .inl f1)), (b2, .inl (Z.2 0, 5, .inl f2)), (b3, .inl (Z.2 0, 5, .inl f3)), (b4, .inl (Z.2 0, 5, .inl f4)), (b5, .inl (Z.2 0, 24, .inl f5))] sz) [(h0, .inr (9, [.ref b1, .ref b2, .ref b3, .ref b4, .int 0, .ref b5, .int 0, .ref b6, .ref b7, .ref b8, .int 0, .int 0, .int 0, .ref b9, .ref b10, .ref b11, .ref b12, .ref b13, .ref b14, .ref b15, .ref b16, .ref b17, .ref b18, .int 0, .ref b19, .ref b20, .ref b21, .ref b22, .ref b23, .ref b24, .ref b25])), (b1, .inl (Z.2 0, 5, .inl g1)), (b2, .inl (Z.2 0, 5, .inl g2)), (b3, .inl (Z.2 0, 5, .inl g3)), (b4, .inl (Z.2 0, 5, .inl g4)), (b5, .inl (Z.2 0, 24, .inl g5))]) (va_A [(h0, .inr (9, [.ref b1, .ref b2, .ref b3, .ref b4, .int 0, .ref b5, .int 0, .ref b6, .ref b7, .ref b8, .int 0, .int 0, .int 0, .ref b9, .ref b10, .ref b11, .ref b12, .ref b13, .ref b14, .ref b15, .ref b16, .ref b17, .ref b18, .int 0, .ref b19, .ref b20, .ref b21, .ref b22, .ref b23, .ref b24, .ref b25])), (b1, .inl (Z.2 0, 5, .inl f1)), (b2, .inl (Z.2 0, 5, .inl f2)), (b3, .inl (Z.2 0, 5, .inl f3)), (b4, .inl (Z.2 0, 5, .inl f4)), (b5, .inl (Z.2 0, 24, .inl f5))] sz)) 0 0 (va_A [(h0, .inr (9, [.ref b1, .ref b2, .ref b3, .ref b4, .int 0, .ref b5, .int 0, .ref b6, .ref b7, .ref b8, .int 0, .int 0, .int 0, .ref b9, .ref b10, .ref b11, .ref b12, .ref b13, .ref b14, .ref b15, .ref b16, .ref b17, .ref b18, .int 0, .ref b19, .ref b20, .ref b21, .ref b22, .ref b23, .ref b24, .ref b25])), (b1, .inl (Z.2 0, 5, .inl f1)), (b2, .inl (Z.2 0, 5, .inl f2)), (b3, .inl (Z.2 0, 5, .inl f3)), (b4, .inl (Z.2 0, 5, .inl f4)), (b5, .inl (Z.2 0, 24, .inl f5))] sz) := by
  refine Met.ofW (cc := cX9_carried) (maxL := 6) (ret := (some .int)) (by decide) rfl ?_
  intro p e s m args below meth c s₁ B hml hv
  obtain ⟨rfl, hsz, hP, hK, hD0⟩ := hv
  have hx := B.exec
  have hb := B.bytes
  have hr := B.returns
  have hts := atoms_spec (ws := wsX9_carried) B.pre
  have hown : s.vm.findClass RX9 = some m.cls := findClass_of_methodNamed B.named
  have hlocks := B.notSynchronized
  subst hsz
  have hin9 : ∀ w ∈ wsX90, w ∈ wsX9_carried := by decide +kernel
  have hD := hD0.self (sz := s.heap.size)
  generalize hAe : va_A [(h0, .inr (9, [.ref b1, .ref b2, .ref b3, .ref b4, .int 0, .ref b5, .int 0, .ref b6, .ref b7, .ref b8, .int 0, .int 0, .int 0, .ref b9, .ref b10, .ref b11, .ref b12, .ref b13, .ref b14, .ref b15, .ref b16, .ref b17, .ref b18, .int 0, .ref b19, .ref b20, .ref b21, .ref b22, .ref b23, .ref b24, .ref b25])), (b1, .inl (Z.2 0, 5, .inl f1)), (b2, .inl (Z.2 0, 5, .inl f2)), (b3, .inl (Z.2 0, 5, .inl f3)), (b4, .inl (Z.2 0, 5, .inl f4)), (b5, .inl (Z.2 0, 24, .inl f5))] s.heap.size = A at hD ⊢
  have hA : ∀ q : Nat, s.heap.size ≤ q → A q := fun q h => by rw [← hAe]; exact Or.inr h
  have hS : va_S A s.heap s.heap [] := va_S.rf
  have hP : va_P Z.1 vwCl [(h0, .inr (9, [.ref b1, .ref b2, .ref b3, .ref b4, .int 0, .ref b5, .int 0, .ref b6, .ref b7, .ref b8, .int 0, .int 0, .int 0, .ref b9, .ref b10, .ref b11, .ref b12, .ref b13, .ref b14, .ref b15, .ref b16, .ref b17, .ref b18, .int 0, .ref b19, .ref b20, .ref b21, .ref b22, .ref b23, .ref b24, .ref b25])), (b1, .inl (Z.2 0, 5, .inl f1)), (b2, .inl (Z.2 0, 5, .inl f2)), (b3, .inl (Z.2 0, 5, .inl f3)), (b4, .inl (Z.2 0, 5, .inl f4)), (b5, .inl (Z.2 0, 24, .inl f5))] s.heap := hP
  have hl := lv_entry ([.ref h0, .int k, .int 0, .int 0]) (n := 6) (Nat.le_of_ble_eq_true rfl)
  rw [lg_entry_eq]
  generalize (lg_sl ([.ref h0, .int k, .int 0, .int 0]) ++ List.replicate (6 - (lg_sl ([.ref h0, .int k, .int 0, .int 0])).length) Slot.unset).toArray = ls at hl ⊢
  have hl : lv_has ls 6 [(0, .ref h0), (1, .int k), (2, .int 0), (3, .int 0)] := hl
  refine lv_iload_n hx hb dX9_carried_0 rfl (lv_at hl 1 rfl) ?_
  refine lv_bipush (v := 20) hx hb dX9_carried_1 (by decide) ?_
  refine lv_icmp_ge (tgt := 182) hx hb dX9_carried_3 (by decide) (fun c_1 => ?_) (fun c_1 => ?_)
  · refine lv_iload_n hx hb dX9_carried_182 rfl (lv_at hl 1 rfl) ?_
    refine lv_bipush (v := 44) hx hb dX9_carried_183 (by decide) ?_
    refine lv_icmp_ge (tgt := 224) hx hb dX9_carried_185 (by decide) (fun c_2 => ?_) (fun c_2 => ?_)
    · refine lv_aload_n hx hb dX9_carried_224 rfl (lv_at hl 0 rfl) ?_
      refine lv_iload_n hx hb dX9_carried_225 rfl (lv_at hl 3 rfl) ?_
      refine lv_if_eq (tgt := 239) hx hb dX9_carried_226 (by decide) (fun _ => ?_) (fun c9 => absurd c9 (by decide))
      refine lv_aload_n hx hb dX9_carried_239 rfl (lv_at hl 0 rfl) ?_
      refine va_get (D := Z.1) (ci := 9) (v := .int 0) (C := RX9) (T := TX9) (N := 31) hx hb hts hin9 hown hK hP 0 rfl rfl 4 (by decide) (hts (.fieldLink RX9 86 "HalfAskedModel" "many" "I") (by decide +kernel)) (fun _ h9 => h9) rfl dX9_carried_240 ?_
      refine va_put (D := Z.1) (ci := 9) (v := .int 0) (ty := .int) (C := RX9) (T := TX9) (N := 31) hx hb hts hin9 tyX9 tyX9_ok nmX9 hown hK hP hD hS 0 rfl rfl 4 (by decide) (hts (.fieldLink RX9 86 "HalfAskedModel" "many" "I") (by decide +kernel)) (fun _ h9 => h9) rfl (by decide +kernel) rfl rfl (Nat.le_of_ble_eq_true rfl) dX9_carried_243 (fun H locs hP hD hS => ?_)
      have hP : va_P Z.1 vwCl [(h0, .inr (9, [.ref b1, .ref b2, .ref b3, .ref b4, .int 0, .ref b5, .int 0, .ref b6, .ref b7, .ref b8, .int 0, .int 0, .int 0, .ref b9, .ref b10, .ref b11, .ref b12, .ref b13, .ref b14, .ref b15, .ref b16, .ref b17, .ref b18, .int 0, .ref b19, .ref b20, .ref b21, .ref b22, .ref b23, .ref b24, .ref b25])), (b1, .inl (Z.2 0, 5, .inl f1)), (b2, .inl (Z.2 0, 5, .inl f2)), (b3, .inl (Z.2 0, 5, .inl f3)), (b4, .inl (Z.2 0, 5, .inl f4)), (b5, .inl (Z.2 0, 24, .inl f5))] H := hP
      have hD : va_D A [(h0, .inr (9, [.ref b1, .ref b2, .ref b3, .ref b4, .int 0, .ref b5, .int 0, .ref b6, .ref b7, .ref b8, .int 0, .int 0, .int 0, .ref b9, .ref b10, .ref b11, .ref b12, .ref b13, .ref b14, .ref b15, .ref b16, .ref b17, .ref b18, .int 0, .ref b19, .ref b20, .ref b21, .ref b22, .ref b23, .ref b24, .ref b25])), (b1, .inl (Z.2 0, 5, .inl f1)), (b2, .inl (Z.2 0, 5, .inl f2)), (b3, .inl (Z.2 0, 5, .inl f3)), (b4, .inl (Z.2 0, 5, .inl f4)), (b5, .inl (Z.2 0, 24, .inl f5))] := hD
      refine lv_aload_n hx hb dX9_carried_246 rfl (lv_at hl 0 rfl) ?_
      refine lv_iload_n hx hb dX9_carried_247 rfl (lv_at hl 3 rfl) ?_
      refine lv_if_eq (tgt := 261) hx hb dX9_carried_248 (by decide) (fun _ => ?_) (fun c9 => absurd c9 (by decide))
      refine lv_aload_n hx hb dX9_carried_261 rfl (lv_at hl 0 rfl) ?_
      refine va_get (D := Z.1) (ci := 9) (v := .int 0) (C := RX9) (T := TX9) (N := 31) hx hb hts hin9 hown hK hP 0 rfl rfl 6 (by decide) (hts (.fieldLink RX9 139 "HalfAskedModel" "planMany" "I") (by decide +kernel)) (fun _ h9 => h9) rfl dX9_carried_262 ?_
      refine va_put (D := Z.1) (ci := 9) (v := .int 0) (ty := .int) (C := RX9) (T := TX9) (N := 31) hx hb hts hin9 tyX9 tyX9_ok nmX9 hown hK hP hD hS 0 rfl rfl 6 (by decide) (hts (.fieldLink RX9 139 "HalfAskedModel" "planMany" "I") (by decide +kernel)) (fun _ h9 => h9) rfl (by decide +kernel) rfl rfl (Nat.le_of_ble_eq_true rfl) dX9_carried_265 (fun H locs hP hD hS => ?_)
      have hP : va_P Z.1 vwCl [(h0, .inr (9, [.ref b1, .ref b2, .ref b3, .ref b4, .int 0, .ref b5, .int 0, .ref b6, .ref b7, .ref b8, .int 0, .int 0, .int 0, .ref b9, .ref b10, .ref b11, .ref b12, .ref b13, .ref b14, .ref b15, .ref b16, .ref b17, .ref b18, .int 0, .ref b19, .ref b20, .ref b21, .ref b22, .ref b23, .ref b24, .ref b25])), (b1, .inl (Z.2 0, 5, .inl f1)), (b2, .inl (Z.2 0, 5, .inl f2)), (b3, .inl (Z.2 0, 5, .inl f3)), (b4, .inl (Z.2 0, 5, .inl f4)), (b5, .inl (Z.2 0, 24, .inl f5))] H := hP
      have hD : va_D A [(h0, .inr (9, [.ref b1, .ref b2, .ref b3, .ref b4, .int 0, .ref b5, .int 0, .ref b6, .ref b7, .ref b8, .int 0, .int 0, .int 0, .ref b9, .ref b10, .ref b11, .ref b12, .ref b13, .ref b14, .ref b15, .ref b16, .ref b17, .ref b18, .int 0, .ref b19, .ref b20, .ref b21, .ref b22, .ref b23, .ref b24, .ref b25])), (b1, .inl (Z.2 0, 5, .inl f1)), (b2, .inl (Z.2 0, 5, .inl f2)), (b3, .inl (Z.2 0, 5, .inl f3)), (b4, .inl (Z.2 0, 5, .inl f4)), (b5, .inl (Z.2 0, 24, .inl f5))] := hD
      refine lv_iload_n hx hb dX9_carried_268 rfl (lv_at hl 1 rfl) ?_
      refine lv_bipush (v := 44) hx hb dX9_carried_269 (by decide) ?_
      refine lv_icmp_ne (tgt := 281) hx hb dX9_carried_271 (by decide) (fun c_3 => ?_) (fun c_3 => ?_)
      · refine lv_aload_n hx hb dX9_carried_281 rfl (lv_at hl 0 rfl) ?_
        refine va_get (D := Z.1) (ci := 9) (v := .int 0) (C := RX9) (T := TX9) (N := 31) hx hb hts hin9 hown hK hP 0 rfl rfl 6 (by decide) (hts (.fieldLink RX9 139 "HalfAskedModel" "planMany" "I") (by decide +kernel)) (fun _ h9 => h9) rfl dX9_carried_282 ?_
        have hP9 := hP.sub (ws' := [(h0, .inr (9, [.ref b1, .ref b2, .ref b3, .ref b4, .int 0, .ref b5, .int 0, .ref b6, .ref b7, .ref b8, .int 0, .int 0, .int 0, .ref b9, .ref b10, .ref b11, .ref b12, .ref b13, .ref b14, .ref b15, .ref b16, .ref b17, .ref b18, .int 0, .ref b19, .ref b20, .ref b21, .ref b22, .ref b23, .ref b24, .ref b25])), (b1, .inl (Z.2 0, 5, .inl f1)), (b2, .inl (Z.2 0, 5, .inl f2)), (b3, .inl (Z.2 0, 5, .inl f3)), (b4, .inl (Z.2 0, 5, .inl f4)), (b5, .inl (Z.2 0, 24, .inl f5))]) [0, 1, 2, 3, 4, 5] rfl
        have hD9 := hD.sub (ws' := [(h0, .inr (9, [.ref b1, .ref b2, .ref b3, .ref b4, .int 0, .ref b5, .int 0, .ref b6, .ref b7, .ref b8, .int 0, .int 0, .int 0, .ref b9, .ref b10, .ref b11, .ref b12, .ref b13, .ref b14, .ref b15, .ref b16, .ref b17, .ref b18, .int 0, .ref b19, .ref b20, .ref b21, .ref b22, .ref b23, .ref b24, .ref b25])), (b1, .inl (Z.2 0, 5, .inl f1)), (b2, .inl (Z.2 0, 5, .inl f2)), (b3, .inl (Z.2 0, 5, .inl f3)), (b4, .inl (Z.2 0, 5, .inl f4)), (b5, .inl (Z.2 0, 24, .inl f5))]) [0, 1, 2, 3, 4, 5] (by decide) rfl
        exact W.iret (v := 0) hx hb hr (fun t ht hW => ⟨⟨0, (f1, f2, f3, f4, f5), rfl, trivial, by rw [ht]; exact hP9, hD9⟩, hS.F ht⟩) hS.2.2 dX9_carried_285
      · refine lv_aload_n hx hb dX9_carried_274 rfl (lv_at hl 0 rfl) ?_
        refine va_get (D := Z.1) (ci := 9) (v := .int 0) (C := RX9) (T := TX9) (N := 31) hx hb hts hin9 hown hK hP 0 rfl rfl 4 (by decide) (hts (.fieldLink RX9 86 "HalfAskedModel" "many" "I") (by decide +kernel)) (fun _ h9 => h9) rfl dX9_carried_275 ?_
        refine lv_goto (tgt := 285) hx hb dX9_carried_278 (by decide) ?_
        have hP9 := hP.sub (ws' := [(h0, .inr (9, [.ref b1, .ref b2, .ref b3, .ref b4, .int 0, .ref b5, .int 0, .ref b6, .ref b7, .ref b8, .int 0, .int 0, .int 0, .ref b9, .ref b10, .ref b11, .ref b12, .ref b13, .ref b14, .ref b15, .ref b16, .ref b17, .ref b18, .int 0, .ref b19, .ref b20, .ref b21, .ref b22, .ref b23, .ref b24, .ref b25])), (b1, .inl (Z.2 0, 5, .inl f1)), (b2, .inl (Z.2 0, 5, .inl f2)), (b3, .inl (Z.2 0, 5, .inl f3)), (b4, .inl (Z.2 0, 5, .inl f4)), (b5, .inl (Z.2 0, 24, .inl f5))]) [0, 1, 2, 3, 4, 5] rfl
        have hD9 := hD.sub (ws' := [(h0, .inr (9, [.ref b1, .ref b2, .ref b3, .ref b4, .int 0, .ref b5, .int 0, .ref b6, .ref b7, .ref b8, .int 0, .int 0, .int 0, .ref b9, .ref b10, .ref b11, .ref b12, .ref b13, .ref b14, .ref b15, .ref b16, .ref b17, .ref b18, .int 0, .ref b19, .ref b20, .ref b21, .ref b22, .ref b23, .ref b24, .ref b25])), (b1, .inl (Z.2 0, 5, .inl f1)), (b2, .inl (Z.2 0, 5, .inl f2)), (b3, .inl (Z.2 0, 5, .inl f3)), (b4, .inl (Z.2 0, 5, .inl f4)), (b5, .inl (Z.2 0, 24, .inl f5))]) [0, 1, 2, 3, 4, 5] (by decide) rfl
        exact W.iret (v := 0) hx hb hr (fun t ht hW => ⟨⟨0, (f1, f2, f3, f4, f5), rfl, trivial, by rw [ht]; exact hP9, hD9⟩, hS.F ht⟩) hS.2.2 dX9_carried_285
    · refine lv_aload_n hx hb dX9_carried_188 rfl (lv_at hl 0 rfl) ?_
      refine va_get (D := Z.1) (ci := 9) (v := .ref b5) (C := RX9) (T := TX9) (N := 31) hx hb hts hin9 hown hK hP 0 rfl rfl 5 (by decide) (hts (.fieldLink RX9 22 "HalfAskedModel" "plan" "[I") (by decide +kernel)) (fun _ h9 => h9) rfl dX9_carried_189 ?_
      refine lv_iload_n hx hb dX9_carried_192 rfl (lv_at hl 1 rfl) ?_
      refine lv_bipush (v := 20) hx hb dX9_carried_193 (by decide) ?_
      refine lv_isub hx hb dX9_carried_195 ?_
      refine lv_iload_n hx hb dX9_carried_196 rfl (lv_at hl 3 rfl) ?_
      refine lv_if_eq (tgt := 204) hx hb dX9_carried_197 (by decide) (fun _ => ?_) (fun c9 => absurd c9 (by decide))
      refine lv_aload_n hx hb dX9_carried_204 rfl (lv_at hl 0 rfl) ?_
      refine va_get (D := Z.1) (ci := 9) (v := .ref b5) (C := RX9) (T := TX9) (N := 31) hx hb hts hin9 hown hK hP 0 rfl rfl 5 (by decide) (hts (.fieldLink RX9 22 "HalfAskedModel" "plan" "[I") (by decide +kernel)) (fun _ h9 => h9) rfl dX9_carried_205 ?_
      refine lv_iload_n hx hb dX9_carried_208 rfl (lv_at hl 1 rfl) ?_
      refine lv_bipush (v := 20) hx hb dX9_carried_209 (by decide) ?_
      refine lv_isub hx hb dX9_carried_211 ?_
      refine va_iald hx hb hK hP 5 0 rfl rfl (z_p20 c_1 c_2) dX9_carried_212 ?_
      refine va_iast hx hb hK hP hD hS 5 0 rfl rfl (z_p20 c_1 c_2) dX9_carried_213 (fun H locs hP hD hS => ?_)
      have hP : va_P Z.1 vwCl [(h0, .inr (9, [.ref b1, .ref b2, .ref b3, .ref b4, .int 0, .ref b5, .int 0, .ref b6, .ref b7, .ref b8, .int 0, .int 0, .int 0, .ref b9, .ref b10, .ref b11, .ref b12, .ref b13, .ref b14, .ref b15, .ref b16, .ref b17, .ref b18, .int 0, .ref b19, .ref b20, .ref b21, .ref b22, .ref b23, .ref b24, .ref b25])), (b1, .inl (Z.2 0, 5, .inl f1)), (b2, .inl (Z.2 0, 5, .inl f2)), (b3, .inl (Z.2 0, 5, .inl f3)), (b4, .inl (Z.2 0, 5, .inl f4)), (b5, .inl (Z.2 0, 24, .inl (upd f5 ((k - 20).toNatClampNeg) (f5 (k - 20).toNatClampNeg))))] H := hP
      have hD : va_D A [(h0, .inr (9, [.ref b1, .ref b2, .ref b3, .ref b4, .int 0, .ref b5, .int 0, .ref b6, .ref b7, .ref b8, .int 0, .int 0, .int 0, .ref b9, .ref b10, .ref b11, .ref b12, .ref b13, .ref b14, .ref b15, .ref b16, .ref b17, .ref b18, .int 0, .ref b19, .ref b20, .ref b21, .ref b22, .ref b23, .ref b24, .ref b25])), (b1, .inl (Z.2 0, 5, .inl f1)), (b2, .inl (Z.2 0, 5, .inl f2)), (b3, .inl (Z.2 0, 5, .inl f3)), (b4, .inl (Z.2 0, 5, .inl f4)), (b5, .inl (Z.2 0, 24, .inl (upd f5 ((k - 20).toNatClampNeg) (f5 (k - 20).toNatClampNeg))))] := hD
      generalize (upd f5 ((k - 20).toNatClampNeg) (f5 (k - 20).toNatClampNeg) : Nat → Int32) = g_4 at hP hD
      refine lv_aload_n hx hb dX9_carried_214 rfl (lv_at hl 0 rfl) ?_
      refine va_get (D := Z.1) (ci := 9) (v := .ref b5) (C := RX9) (T := TX9) (N := 31) hx hb hts hin9 hown hK hP 0 rfl rfl 5 (by decide) (hts (.fieldLink RX9 22 "HalfAskedModel" "plan" "[I") (by decide +kernel)) (fun _ h9 => h9) rfl dX9_carried_215 ?_
      refine lv_iload_n hx hb dX9_carried_218 rfl (lv_at hl 1 rfl) ?_
      refine lv_bipush (v := 20) hx hb dX9_carried_219 (by decide) ?_
      refine lv_isub hx hb dX9_carried_221 ?_
      refine va_iald hx hb hK hP 5 0 rfl rfl (z_p20 c_1 c_2) dX9_carried_222 ?_
      have hP9 := hP.sub (ws' := [(h0, .inr (9, [.ref b1, .ref b2, .ref b3, .ref b4, .int 0, .ref b5, .int 0, .ref b6, .ref b7, .ref b8, .int 0, .int 0, .int 0, .ref b9, .ref b10, .ref b11, .ref b12, .ref b13, .ref b14, .ref b15, .ref b16, .ref b17, .ref b18, .int 0, .ref b19, .ref b20, .ref b21, .ref b22, .ref b23, .ref b24, .ref b25])), (b1, .inl (Z.2 0, 5, .inl f1)), (b2, .inl (Z.2 0, 5, .inl f2)), (b3, .inl (Z.2 0, 5, .inl f3)), (b4, .inl (Z.2 0, 5, .inl f4)), (b5, .inl (Z.2 0, 24, .inl g_4))]) [0, 1, 2, 3, 4, 5] rfl
      have hD9 := hD.sub (ws' := [(h0, .inr (9, [.ref b1, .ref b2, .ref b3, .ref b4, .int 0, .ref b5, .int 0, .ref b6, .ref b7, .ref b8, .int 0, .int 0, .int 0, .ref b9, .ref b10, .ref b11, .ref b12, .ref b13, .ref b14, .ref b15, .ref b16, .ref b17, .ref b18, .int 0, .ref b19, .ref b20, .ref b21, .ref b22, .ref b23, .ref b24, .ref b25])), (b1, .inl (Z.2 0, 5, .inl f1)), (b2, .inl (Z.2 0, 5, .inl f2)), (b3, .inl (Z.2 0, 5, .inl f3)), (b4, .inl (Z.2 0, 5, .inl f4)), (b5, .inl (Z.2 0, 24, .inl g_4))]) [0, 1, 2, 3, 4, 5] (by decide) rfl
      exact W.iret (v := (g_4 (k - 20).toNatClampNeg)) hx hb hr (fun t ht hW => ⟨⟨g_4 (k - 20).toNatClampNeg, (f1, f2, f3, f4, g_4), rfl, trivial, by rw [ht]; exact hP9, hD9⟩, hS.F ht⟩) hS.2.2 dX9_carried_223
  · refine lv_iload_n hx hb dX9_carried_6 rfl (lv_at hl 1 rfl) ?_
    refine lv_iconst (v := 5) hx hb dX9_carried_7 (by decide) ?_
    refine lv_irem hx hb dX9_carried_8 (by decide) ?_
    refine lv_istore (lv' := [(4, .int (k - k / 5 * 5)), (0, .ref h0), (1, .int k), (2, .int 0), (3, .int 0)]) hx hb dX9_carried_9 hl (by decide) rfl (fun ls hl => ?_)
    refine lv_iload_n hx hb dX9_carried_11 rfl (lv_at hl 2 rfl) ?_
    refine lv_iconst (v := 5) hx hb dX9_carried_12 (by decide) ?_
    refine lv_idiv hx hb dX9_carried_13 (by decide) ?_
    refine lv_istore (lv' := [(5, .int (k / 5)), (4, .int (k - k / 5 * 5)), (0, .ref h0), (1, .int k), (2, .int 0), (3, .int 0)]) hx hb dX9_carried_14 hl (by decide) rfl (fun ls hl => ?_)
    refine lv_aload_n hx hb dX9_carried_16 rfl (lv_at hl 2 rfl) ?_
    refine va_get (D := Z.1) (ci := 9) (v := .ref b1) (C := RX9) (T := TX9) (N := 31) hx hb hts hin9 hown hK hP 0 rfl rfl 0 (by decide) (hts (.fieldLink RX9 7 "HalfAskedModel" "kinds" "[I") (by decide +kernel)) (fun _ h9 => h9) rfl dX9_carried_17 ?_
    refine lv_iload hx hb dX9_carried_20 (lv_at hl 1 rfl) ?_
    refine lv_iload_n hx hb dX9_carried_22 rfl (lv_at hl 5 rfl) ?_
    refine lv_if_eq (tgt := 35) hx hb dX9_carried_23 (by decide) (fun _ => ?_) (fun c9 => absurd c9 (by decide))
    refine lv_aload_n hx hb dX9_carried_35 rfl (lv_at hl 2 rfl) ?_
    refine va_get (D := Z.1) (ci := 9) (v := .ref b1) (C := RX9) (T := TX9) (N := 31) hx hb hts hin9 hown hK hP 0 rfl rfl 0 (by decide) (hts (.fieldLink RX9 7 "HalfAskedModel" "kinds" "[I") (by decide +kernel)) (fun _ h9 => h9) rfl dX9_carried_36 ?_
    refine lv_iload hx hb dX9_carried_39 (lv_at hl 1 rfl) ?_
    refine va_iald hx hb hK hP 1 0 rfl rfl (z_m5 hk) dX9_carried_41 ?_
    refine va_iast hx hb hK hP hD hS 1 0 rfl rfl (z_m5 hk) dX9_carried_42 (fun H locs hP hD hS => ?_)
    have hP : va_P Z.1 vwCl [(h0, .inr (9, [.ref b1, .ref b2, .ref b3, .ref b4, .int 0, .ref b5, .int 0, .ref b6, .ref b7, .ref b8, .int 0, .int 0, .int 0, .ref b9, .ref b10, .ref b11, .ref b12, .ref b13, .ref b14, .ref b15, .ref b16, .ref b17, .ref b18, .int 0, .ref b19, .ref b20, .ref b21, .ref b22, .ref b23, .ref b24, .ref b25])), (b1, .inl (Z.2 0, 5, .inl (upd f1 ((k - k / 5 * 5).toNatClampNeg) (f1 (k - k / 5 * 5).toNatClampNeg)))), (b2, .inl (Z.2 0, 5, .inl f2)), (b3, .inl (Z.2 0, 5, .inl f3)), (b4, .inl (Z.2 0, 5, .inl f4)), (b5, .inl (Z.2 0, 24, .inl f5))] H := hP
    have hD : va_D A [(h0, .inr (9, [.ref b1, .ref b2, .ref b3, .ref b4, .int 0, .ref b5, .int 0, .ref b6, .ref b7, .ref b8, .int 0, .int 0, .int 0, .ref b9, .ref b10, .ref b11, .ref b12, .ref b13, .ref b14, .ref b15, .ref b16, .ref b17, .ref b18, .int 0, .ref b19, .ref b20, .ref b21, .ref b22, .ref b23, .ref b24, .ref b25])), (b1, .inl (Z.2 0, 5, .inl (upd f1 ((k - k / 5 * 5).toNatClampNeg) (f1 (k - k / 5 * 5).toNatClampNeg)))), (b2, .inl (Z.2 0, 5, .inl f2)), (b3, .inl (Z.2 0, 5, .inl f3)), (b4, .inl (Z.2 0, 5, .inl f4)), (b5, .inl (Z.2 0, 24, .inl f5))] := hD
    generalize (upd f1 ((k - k / 5 * 5).toNatClampNeg) (f1 (k - k / 5 * 5).toNatClampNeg) : Nat → Int32) = g_5 at hP hD
    refine lv_aload_n hx hb dX9_carried_43 rfl (lv_at hl 2 rfl) ?_
    refine va_get (D := Z.1) (ci := 9) (v := .ref b2) (C := RX9) (T := TX9) (N := 31) hx hb hts hin9 hown hK hP 0 rfl rfl 1 (by decide) (hts (.fieldLink RX9 13 "HalfAskedModel" "pence" "[I") (by decide +kernel)) (fun _ h9 => h9) rfl dX9_carried_44 ?_
    refine lv_iload hx hb dX9_carried_47 (lv_at hl 1 rfl) ?_
    refine lv_iload_n hx hb dX9_carried_49 rfl (lv_at hl 5 rfl) ?_
    refine lv_if_eq (tgt := 63) hx hb dX9_carried_50 (by decide) (fun _ => ?_) (fun c9 => absurd c9 (by decide))
    refine lv_aload_n hx hb dX9_carried_63 rfl (lv_at hl 2 rfl) ?_
    refine va_get (D := Z.1) (ci := 9) (v := .ref b2) (C := RX9) (T := TX9) (N := 31) hx hb hts hin9 hown hK hP 0 rfl rfl 1 (by decide) (hts (.fieldLink RX9 13 "HalfAskedModel" "pence" "[I") (by decide +kernel)) (fun _ h9 => h9) rfl dX9_carried_64 ?_
    refine lv_iload hx hb dX9_carried_67 (lv_at hl 1 rfl) ?_
    refine va_iald hx hb hK hP 2 0 rfl rfl (z_m5 hk) dX9_carried_69 ?_
    refine va_iast hx hb hK hP hD hS 2 0 rfl rfl (z_m5 hk) dX9_carried_70 (fun H locs hP hD hS => ?_)
    have hP : va_P Z.1 vwCl [(h0, .inr (9, [.ref b1, .ref b2, .ref b3, .ref b4, .int 0, .ref b5, .int 0, .ref b6, .ref b7, .ref b8, .int 0, .int 0, .int 0, .ref b9, .ref b10, .ref b11, .ref b12, .ref b13, .ref b14, .ref b15, .ref b16, .ref b17, .ref b18, .int 0, .ref b19, .ref b20, .ref b21, .ref b22, .ref b23, .ref b24, .ref b25])), (b1, .inl (Z.2 0, 5, .inl g_5)), (b2, .inl (Z.2 0, 5, .inl (upd f2 ((k - k / 5 * 5).toNatClampNeg) (f2 (k - k / 5 * 5).toNatClampNeg)))), (b3, .inl (Z.2 0, 5, .inl f3)), (b4, .inl (Z.2 0, 5, .inl f4)), (b5, .inl (Z.2 0, 24, .inl f5))] H := hP
    have hD : va_D A [(h0, .inr (9, [.ref b1, .ref b2, .ref b3, .ref b4, .int 0, .ref b5, .int 0, .ref b6, .ref b7, .ref b8, .int 0, .int 0, .int 0, .ref b9, .ref b10, .ref b11, .ref b12, .ref b13, .ref b14, .ref b15, .ref b16, .ref b17, .ref b18, .int 0, .ref b19, .ref b20, .ref b21, .ref b22, .ref b23, .ref b24, .ref b25])), (b1, .inl (Z.2 0, 5, .inl g_5)), (b2, .inl (Z.2 0, 5, .inl (upd f2 ((k - k / 5 * 5).toNatClampNeg) (f2 (k - k / 5 * 5).toNatClampNeg)))), (b3, .inl (Z.2 0, 5, .inl f3)), (b4, .inl (Z.2 0, 5, .inl f4)), (b5, .inl (Z.2 0, 24, .inl f5))] := hD
    generalize (upd f2 ((k - k / 5 * 5).toNatClampNeg) (f2 (k - k / 5 * 5).toNatClampNeg) : Nat → Int32) = g_6 at hP hD
    refine lv_aload_n hx hb dX9_carried_71 rfl (lv_at hl 2 rfl) ?_
    refine va_get (D := Z.1) (ci := 9) (v := .ref b3) (C := RX9) (T := TX9) (N := 31) hx hb hts hin9 hown hK hP 0 rfl rfl 2 (by decide) (hts (.fieldLink RX9 16 "HalfAskedModel" "known" "[I") (by decide +kernel)) (fun _ h9 => h9) rfl dX9_carried_72 ?_
    refine lv_iload hx hb dX9_carried_75 (lv_at hl 1 rfl) ?_
    refine lv_iload_n hx hb dX9_carried_77 rfl (lv_at hl 5 rfl) ?_
    refine lv_if_eq (tgt := 91) hx hb dX9_carried_78 (by decide) (fun _ => ?_) (fun c9 => absurd c9 (by decide))
    refine lv_aload_n hx hb dX9_carried_91 rfl (lv_at hl 2 rfl) ?_
    refine va_get (D := Z.1) (ci := 9) (v := .ref b3) (C := RX9) (T := TX9) (N := 31) hx hb hts hin9 hown hK hP 0 rfl rfl 2 (by decide) (hts (.fieldLink RX9 16 "HalfAskedModel" "known" "[I") (by decide +kernel)) (fun _ h9 => h9) rfl dX9_carried_92 ?_
    refine lv_iload hx hb dX9_carried_95 (lv_at hl 1 rfl) ?_
    refine va_iald hx hb hK hP 3 0 rfl rfl (z_m5 hk) dX9_carried_97 ?_
    refine va_iast hx hb hK hP hD hS 3 0 rfl rfl (z_m5 hk) dX9_carried_98 (fun H locs hP hD hS => ?_)
    have hP : va_P Z.1 vwCl [(h0, .inr (9, [.ref b1, .ref b2, .ref b3, .ref b4, .int 0, .ref b5, .int 0, .ref b6, .ref b7, .ref b8, .int 0, .int 0, .int 0, .ref b9, .ref b10, .ref b11, .ref b12, .ref b13, .ref b14, .ref b15, .ref b16, .ref b17, .ref b18, .int 0, .ref b19, .ref b20, .ref b21, .ref b22, .ref b23, .ref b24, .ref b25])), (b1, .inl (Z.2 0, 5, .inl g_5)), (b2, .inl (Z.2 0, 5, .inl g_6)), (b3, .inl (Z.2 0, 5, .inl (upd f3 ((k - k / 5 * 5).toNatClampNeg) (f3 (k - k / 5 * 5).toNatClampNeg)))), (b4, .inl (Z.2 0, 5, .inl f4)), (b5, .inl (Z.2 0, 24, .inl f5))] H := hP
    have hD : va_D A [(h0, .inr (9, [.ref b1, .ref b2, .ref b3, .ref b4, .int 0, .ref b5, .int 0, .ref b6, .ref b7, .ref b8, .int 0, .int 0, .int 0, .ref b9, .ref b10, .ref b11, .ref b12, .ref b13, .ref b14, .ref b15, .ref b16, .ref b17, .ref b18, .int 0, .ref b19, .ref b20, .ref b21, .ref b22, .ref b23, .ref b24, .ref b25])), (b1, .inl (Z.2 0, 5, .inl g_5)), (b2, .inl (Z.2 0, 5, .inl g_6)), (b3, .inl (Z.2 0, 5, .inl (upd f3 ((k - k / 5 * 5).toNatClampNeg) (f3 (k - k / 5 * 5).toNatClampNeg)))), (b4, .inl (Z.2 0, 5, .inl f4)), (b5, .inl (Z.2 0, 24, .inl f5))] := hD
    generalize (upd f3 ((k - k / 5 * 5).toNatClampNeg) (f3 (k - k / 5 * 5).toNatClampNeg) : Nat → Int32) = g_7 at hP hD
    refine lv_aload_n hx hb dX9_carried_99 rfl (lv_at hl 2 rfl) ?_
    refine va_get (D := Z.1) (ci := 9) (v := .ref b4) (C := RX9) (T := TX9) (N := 31) hx hb hts hin9 hown hK hP 0 rfl rfl 3 (by decide) (hts (.fieldLink RX9 19 "HalfAskedModel" "asked" "[I") (by decide +kernel)) (fun _ h9 => h9) rfl dX9_carried_100 ?_
    refine lv_iload hx hb dX9_carried_103 (lv_at hl 1 rfl) ?_
    refine lv_iload_n hx hb dX9_carried_105 rfl (lv_at hl 5 rfl) ?_
    refine lv_if_eq (tgt := 119) hx hb dX9_carried_106 (by decide) (fun _ => ?_) (fun c9 => absurd c9 (by decide))
    refine lv_aload_n hx hb dX9_carried_119 rfl (lv_at hl 2 rfl) ?_
    refine va_get (D := Z.1) (ci := 9) (v := .ref b4) (C := RX9) (T := TX9) (N := 31) hx hb hts hin9 hown hK hP 0 rfl rfl 3 (by decide) (hts (.fieldLink RX9 19 "HalfAskedModel" "asked" "[I") (by decide +kernel)) (fun _ h9 => h9) rfl dX9_carried_120 ?_
    refine lv_iload hx hb dX9_carried_123 (lv_at hl 1 rfl) ?_
    refine va_iald hx hb hK hP 4 0 rfl rfl (z_m5 hk) dX9_carried_125 ?_
    refine va_iast hx hb hK hP hD hS 4 0 rfl rfl (z_m5 hk) dX9_carried_126 (fun H locs hP hD hS => ?_)
    have hP : va_P Z.1 vwCl [(h0, .inr (9, [.ref b1, .ref b2, .ref b3, .ref b4, .int 0, .ref b5, .int 0, .ref b6, .ref b7, .ref b8, .int 0, .int 0, .int 0, .ref b9, .ref b10, .ref b11, .ref b12, .ref b13, .ref b14, .ref b15, .ref b16, .ref b17, .ref b18, .int 0, .ref b19, .ref b20, .ref b21, .ref b22, .ref b23, .ref b24, .ref b25])), (b1, .inl (Z.2 0, 5, .inl g_5)), (b2, .inl (Z.2 0, 5, .inl g_6)), (b3, .inl (Z.2 0, 5, .inl g_7)), (b4, .inl (Z.2 0, 5, .inl (upd f4 ((k - k / 5 * 5).toNatClampNeg) (f4 (k - k / 5 * 5).toNatClampNeg)))), (b5, .inl (Z.2 0, 24, .inl f5))] H := hP
    have hD : va_D A [(h0, .inr (9, [.ref b1, .ref b2, .ref b3, .ref b4, .int 0, .ref b5, .int 0, .ref b6, .ref b7, .ref b8, .int 0, .int 0, .int 0, .ref b9, .ref b10, .ref b11, .ref b12, .ref b13, .ref b14, .ref b15, .ref b16, .ref b17, .ref b18, .int 0, .ref b19, .ref b20, .ref b21, .ref b22, .ref b23, .ref b24, .ref b25])), (b1, .inl (Z.2 0, 5, .inl g_5)), (b2, .inl (Z.2 0, 5, .inl g_6)), (b3, .inl (Z.2 0, 5, .inl g_7)), (b4, .inl (Z.2 0, 5, .inl (upd f4 ((k - k / 5 * 5).toNatClampNeg) (f4 (k - k / 5 * 5).toNatClampNeg)))), (b5, .inl (Z.2 0, 24, .inl f5))] := hD
    generalize (upd f4 ((k - k / 5 * 5).toNatClampNeg) (f4 (k - k / 5 * 5).toNatClampNeg) : Nat → Int32) = g_8 at hP hD
    refine lv_iload hx hb dX9_carried_127 (lv_at hl 0 rfl) ?_
    refine lv_if_ne (tgt := 142) hx hb dX9_carried_129 (by decide) (fun c_9 => ?_) (fun c_9 => ?_)
    · refine lv_iload hx hb dX9_carried_142 (lv_at hl 0 rfl) ?_
      refine lv_iconst (v := 1) hx hb dX9_carried_144 (by decide) ?_
      refine lv_icmp_ne (tgt := 158) hx hb dX9_carried_145 (by decide) (fun c_10 => ?_) (fun c_10 => ?_)
      · refine lv_iload hx hb dX9_carried_158 (lv_at hl 0 rfl) ?_
        refine lv_iconst (v := 2) hx hb dX9_carried_160 (by decide) ?_
        refine lv_icmp_ne (tgt := 174) hx hb dX9_carried_161 (by decide) (fun c_11 => ?_) (fun c_11 => ?_)
        · refine lv_aload_n hx hb dX9_carried_174 rfl (lv_at hl 2 rfl) ?_
          refine va_get (D := Z.1) (ci := 9) (v := .ref b4) (C := RX9) (T := TX9) (N := 31) hx hb hts hin9 hown hK hP 0 rfl rfl 3 (by decide) (hts (.fieldLink RX9 19 "HalfAskedModel" "asked" "[I") (by decide +kernel)) (fun _ h9 => h9) rfl dX9_carried_175 ?_
          refine lv_iload hx hb dX9_carried_178 (lv_at hl 1 rfl) ?_
          refine va_iald hx hb hK hP 4 0 rfl rfl (z_m5 hk) dX9_carried_180 ?_
          have hP9 := hP.sub (ws' := [(h0, .inr (9, [.ref b1, .ref b2, .ref b3, .ref b4, .int 0, .ref b5, .int 0, .ref b6, .ref b7, .ref b8, .int 0, .int 0, .int 0, .ref b9, .ref b10, .ref b11, .ref b12, .ref b13, .ref b14, .ref b15, .ref b16, .ref b17, .ref b18, .int 0, .ref b19, .ref b20, .ref b21, .ref b22, .ref b23, .ref b24, .ref b25])), (b1, .inl (Z.2 0, 5, .inl g_5)), (b2, .inl (Z.2 0, 5, .inl g_6)), (b3, .inl (Z.2 0, 5, .inl g_7)), (b4, .inl (Z.2 0, 5, .inl g_8)), (b5, .inl (Z.2 0, 24, .inl f5))]) [0, 1, 2, 3, 4, 5] rfl
          have hD9 := hD.sub (ws' := [(h0, .inr (9, [.ref b1, .ref b2, .ref b3, .ref b4, .int 0, .ref b5, .int 0, .ref b6, .ref b7, .ref b8, .int 0, .int 0, .int 0, .ref b9, .ref b10, .ref b11, .ref b12, .ref b13, .ref b14, .ref b15, .ref b16, .ref b17, .ref b18, .int 0, .ref b19, .ref b20, .ref b21, .ref b22, .ref b23, .ref b24, .ref b25])), (b1, .inl (Z.2 0, 5, .inl g_5)), (b2, .inl (Z.2 0, 5, .inl g_6)), (b3, .inl (Z.2 0, 5, .inl g_7)), (b4, .inl (Z.2 0, 5, .inl g_8)), (b5, .inl (Z.2 0, 24, .inl f5))]) [0, 1, 2, 3, 4, 5] (by decide) rfl
          exact W.iret (v := (g_8 (k - k / 5 * 5).toNatClampNeg)) hx hb hr (fun t ht hW => ⟨⟨g_8 (k - k / 5 * 5).toNatClampNeg, (g_5, g_6, g_7, g_8, f5), rfl, trivial, by rw [ht]; exact hP9, hD9⟩, hS.F ht⟩) hS.2.2 dX9_carried_181
        · refine lv_aload_n hx hb dX9_carried_164 rfl (lv_at hl 2 rfl) ?_
          refine va_get (D := Z.1) (ci := 9) (v := .ref b3) (C := RX9) (T := TX9) (N := 31) hx hb hts hin9 hown hK hP 0 rfl rfl 2 (by decide) (hts (.fieldLink RX9 16 "HalfAskedModel" "known" "[I") (by decide +kernel)) (fun _ h9 => h9) rfl dX9_carried_165 ?_
          refine lv_iload hx hb dX9_carried_168 (lv_at hl 1 rfl) ?_
          refine va_iald hx hb hK hP 3 0 rfl rfl (z_m5 hk) dX9_carried_170 ?_
          refine lv_goto (tgt := 181) hx hb dX9_carried_171 (by decide) ?_
          have hP9 := hP.sub (ws' := [(h0, .inr (9, [.ref b1, .ref b2, .ref b3, .ref b4, .int 0, .ref b5, .int 0, .ref b6, .ref b7, .ref b8, .int 0, .int 0, .int 0, .ref b9, .ref b10, .ref b11, .ref b12, .ref b13, .ref b14, .ref b15, .ref b16, .ref b17, .ref b18, .int 0, .ref b19, .ref b20, .ref b21, .ref b22, .ref b23, .ref b24, .ref b25])), (b1, .inl (Z.2 0, 5, .inl g_5)), (b2, .inl (Z.2 0, 5, .inl g_6)), (b3, .inl (Z.2 0, 5, .inl g_7)), (b4, .inl (Z.2 0, 5, .inl g_8)), (b5, .inl (Z.2 0, 24, .inl f5))]) [0, 1, 2, 3, 4, 5] rfl
          have hD9 := hD.sub (ws' := [(h0, .inr (9, [.ref b1, .ref b2, .ref b3, .ref b4, .int 0, .ref b5, .int 0, .ref b6, .ref b7, .ref b8, .int 0, .int 0, .int 0, .ref b9, .ref b10, .ref b11, .ref b12, .ref b13, .ref b14, .ref b15, .ref b16, .ref b17, .ref b18, .int 0, .ref b19, .ref b20, .ref b21, .ref b22, .ref b23, .ref b24, .ref b25])), (b1, .inl (Z.2 0, 5, .inl g_5)), (b2, .inl (Z.2 0, 5, .inl g_6)), (b3, .inl (Z.2 0, 5, .inl g_7)), (b4, .inl (Z.2 0, 5, .inl g_8)), (b5, .inl (Z.2 0, 24, .inl f5))]) [0, 1, 2, 3, 4, 5] (by decide) rfl
          exact W.iret (v := (g_7 (k - k / 5 * 5).toNatClampNeg)) hx hb hr (fun t ht hW => ⟨⟨g_7 (k - k / 5 * 5).toNatClampNeg, (g_5, g_6, g_7, g_8, f5), rfl, trivial, by rw [ht]; exact hP9, hD9⟩, hS.F ht⟩) hS.2.2 dX9_carried_181
      · refine lv_aload_n hx hb dX9_carried_148 rfl (lv_at hl 2 rfl) ?_
        refine va_get (D := Z.1) (ci := 9) (v := .ref b2) (C := RX9) (T := TX9) (N := 31) hx hb hts hin9 hown hK hP 0 rfl rfl 1 (by decide) (hts (.fieldLink RX9 13 "HalfAskedModel" "pence" "[I") (by decide +kernel)) (fun _ h9 => h9) rfl dX9_carried_149 ?_
        refine lv_iload hx hb dX9_carried_152 (lv_at hl 1 rfl) ?_
        refine va_iald hx hb hK hP 2 0 rfl rfl (z_m5 hk) dX9_carried_154 ?_
        refine lv_goto (tgt := 181) hx hb dX9_carried_155 (by decide) ?_
        have hP9 := hP.sub (ws' := [(h0, .inr (9, [.ref b1, .ref b2, .ref b3, .ref b4, .int 0, .ref b5, .int 0, .ref b6, .ref b7, .ref b8, .int 0, .int 0, .int 0, .ref b9, .ref b10, .ref b11, .ref b12, .ref b13, .ref b14, .ref b15, .ref b16, .ref b17, .ref b18, .int 0, .ref b19, .ref b20, .ref b21, .ref b22, .ref b23, .ref b24, .ref b25])), (b1, .inl (Z.2 0, 5, .inl g_5)), (b2, .inl (Z.2 0, 5, .inl g_6)), (b3, .inl (Z.2 0, 5, .inl g_7)), (b4, .inl (Z.2 0, 5, .inl g_8)), (b5, .inl (Z.2 0, 24, .inl f5))]) [0, 1, 2, 3, 4, 5] rfl
        have hD9 := hD.sub (ws' := [(h0, .inr (9, [.ref b1, .ref b2, .ref b3, .ref b4, .int 0, .ref b5, .int 0, .ref b6, .ref b7, .ref b8, .int 0, .int 0, .int 0, .ref b9, .ref b10, .ref b11, .ref b12, .ref b13, .ref b14, .ref b15, .ref b16, .ref b17, .ref b18, .int 0, .ref b19, .ref b20, .ref b21, .ref b22, .ref b23, .ref b24, .ref b25])), (b1, .inl (Z.2 0, 5, .inl g_5)), (b2, .inl (Z.2 0, 5, .inl g_6)), (b3, .inl (Z.2 0, 5, .inl g_7)), (b4, .inl (Z.2 0, 5, .inl g_8)), (b5, .inl (Z.2 0, 24, .inl f5))]) [0, 1, 2, 3, 4, 5] (by decide) rfl
        exact W.iret (v := (g_6 (k - k / 5 * 5).toNatClampNeg)) hx hb hr (fun t ht hW => ⟨⟨g_6 (k - k / 5 * 5).toNatClampNeg, (g_5, g_6, g_7, g_8, f5), rfl, trivial, by rw [ht]; exact hP9, hD9⟩, hS.F ht⟩) hS.2.2 dX9_carried_181
    · refine lv_aload_n hx hb dX9_carried_132 rfl (lv_at hl 2 rfl) ?_
      refine va_get (D := Z.1) (ci := 9) (v := .ref b1) (C := RX9) (T := TX9) (N := 31) hx hb hts hin9 hown hK hP 0 rfl rfl 0 (by decide) (hts (.fieldLink RX9 7 "HalfAskedModel" "kinds" "[I") (by decide +kernel)) (fun _ h9 => h9) rfl dX9_carried_133 ?_
      refine lv_iload hx hb dX9_carried_136 (lv_at hl 1 rfl) ?_
      refine va_iald hx hb hK hP 1 0 rfl rfl (z_m5 hk) dX9_carried_138 ?_
      refine lv_goto (tgt := 181) hx hb dX9_carried_139 (by decide) ?_
      have hP9 := hP.sub (ws' := [(h0, .inr (9, [.ref b1, .ref b2, .ref b3, .ref b4, .int 0, .ref b5, .int 0, .ref b6, .ref b7, .ref b8, .int 0, .int 0, .int 0, .ref b9, .ref b10, .ref b11, .ref b12, .ref b13, .ref b14, .ref b15, .ref b16, .ref b17, .ref b18, .int 0, .ref b19, .ref b20, .ref b21, .ref b22, .ref b23, .ref b24, .ref b25])), (b1, .inl (Z.2 0, 5, .inl g_5)), (b2, .inl (Z.2 0, 5, .inl g_6)), (b3, .inl (Z.2 0, 5, .inl g_7)), (b4, .inl (Z.2 0, 5, .inl g_8)), (b5, .inl (Z.2 0, 24, .inl f5))]) [0, 1, 2, 3, 4, 5] rfl
      have hD9 := hD.sub (ws' := [(h0, .inr (9, [.ref b1, .ref b2, .ref b3, .ref b4, .int 0, .ref b5, .int 0, .ref b6, .ref b7, .ref b8, .int 0, .int 0, .int 0, .ref b9, .ref b10, .ref b11, .ref b12, .ref b13, .ref b14, .ref b15, .ref b16, .ref b17, .ref b18, .int 0, .ref b19, .ref b20, .ref b21, .ref b22, .ref b23, .ref b24, .ref b25])), (b1, .inl (Z.2 0, 5, .inl g_5)), (b2, .inl (Z.2 0, 5, .inl g_6)), (b3, .inl (Z.2 0, 5, .inl g_7)), (b4, .inl (Z.2 0, 5, .inl g_8)), (b5, .inl (Z.2 0, 24, .inl f5))]) [0, 1, 2, 3, 4, 5] (by decide) rfl
      exact W.iret (v := (g_5 (k - k / 5 * 5).toNatClampNeg)) hx hb hr (fun t ht hW => ⟨⟨g_5 (k - k / 5 * 5).toNatClampNeg, (g_5, g_6, g_7, g_8, f5), rfl, trivial, by rw [ht]; exact hP9, hD9⟩, hS.F ht⟩) hS.2.2 dX9_carried_181
set_option maxHeartbeats 4000000 in
set_option maxRecDepth 100000 in
theorem lp_X9_image {p : Program} {l : Launch} {e : Env} {s : State} {m : MethodId} {args : Array Value} {below : List Frame} {meth : Method} {c : Code} {Q : State → Prop} {A : Nat → Prop} (Z : gZ) (h0 : Nat) (b1 : Nat) (b2 : Nat) (b3 : Nat) (b4 : Nat) (b5 : Nat) (b6 : Nat) (b7 : Nat) (b8 : Nat) (b9 : Nat) (b10 : Nat) (b11 : Nat) (b12 : Nat) (b13 : Nat) (b14 : Nat) (b15 : Nat) (b16 : Nat) (b17 : Nat) (b18 : Nat) (b19 : Nat) (b20 : Nat) (b21 : Nat) (b22 : Nat) (b23 : Nat) (b24 : Nat) (b25 : Nat)  (hx : p.tables.exec = Jvm.exec) (hb : c.code = cX9_image) (hml : c.maxLocals = 2) (hts : ∀ w ∈ wsX9_image, w.before args s = true) (hown : s.vm.findClass RX9 = some m.cls) (hK : va_K Z.1 vwCl (gT Z) s) (hA : ∀ q : Nat, s.heap.size ≤ q → A q) (kx_27 : ∀ (k : Nat) (f1 : Nat → Int32) (f2 : Nat → Int32) (f3 : Nat → Int32) (f4 : Nat → Int32) (f5 : Nat → Int32) (f19 : Nat → Int32) (H : Heap) (locs : List Loc) (ls : Array Slot), va_P Z.1 vwCl [(h0, .inr (9, [.ref b1, .ref b2, .ref b3, .ref b4, .int 0, .ref b5, .int 0, .ref b6, .ref b7, .ref b8, .int 0, .int 0, .int 0, .ref b9, .ref b10, .ref b11, .ref b12, .ref b13, .ref b14, .ref b15, .ref b16, .ref b17, .ref b18, .int 0, .ref b19, .ref b20, .ref b21, .ref b22, .ref b23, .ref b24, .ref b25])), (b1, .inl (Z.2 0, 5, .inl f1)), (b2, .inl (Z.2 0, 5, .inl f2)), (b3, .inl (Z.2 0, 5, .inl f3)), (b4, .inl (Z.2 0, 5, .inl f4)), (b5, .inl (Z.2 0, 24, .inl f5)), (b19, .inl (Z.2 0, 46, .inl f19))] H → va_D A [(h0, .inr (9, [.ref b1, .ref b2, .ref b3, .ref b4, .int 0, .ref b5, .int 0, .ref b6, .ref b7, .ref b8, .int 0, .int 0, .int 0, .ref b9, .ref b10, .ref b11, .ref b12, .ref b13, .ref b14, .ref b15, .ref b16, .ref b17, .ref b18, .int 0, .ref b19, .ref b20, .ref b21, .ref b22, .ref b23, .ref b24, .ref b25])), (b1, .inl (Z.2 0, 5, .inl f1)), (b2, .inl (Z.2 0, 5, .inl f2)), (b3, .inl (Z.2 0, 5, .inl f3)), (b4, .inl (Z.2 0, 5, .inl f4)), (b5, .inl (Z.2 0, 24, .inl f5)), (b19, .inl (Z.2 0, 46, .inl f19))] → va_S A s.heap H locs → lv_has ls 2 [(0, .ref h0), (1, .int (nI k))] → W p l e ({ frames := 4, cells := 0, slots := 0, locals := 100 } : Room) s m args below meth c H locs 0 0 Q (F0 m 27 ls [])) : ∀ (n : Nat) (k : Nat) (f1 : Nat → Int32) (f2 : Nat → Int32) (f3 : Nat → Int32) (f4 : Nat → Int32) (f5 : Nat → Int32) (f19 : Nat → Int32), 46 - k < n → (k ≤ 46) → ∀ (H : Heap) (locs : List Loc) (ls : Array Slot), va_P Z.1 vwCl [(h0, .inr (9, [.ref b1, .ref b2, .ref b3, .ref b4, .int 0, .ref b5, .int 0, .ref b6, .ref b7, .ref b8, .int 0, .int 0, .int 0, .ref b9, .ref b10, .ref b11, .ref b12, .ref b13, .ref b14, .ref b15, .ref b16, .ref b17, .ref b18, .int 0, .ref b19, .ref b20, .ref b21, .ref b22, .ref b23, .ref b24, .ref b25])), (b1, .inl (Z.2 0, 5, .inl f1)), (b2, .inl (Z.2 0, 5, .inl f2)), (b3, .inl (Z.2 0, 5, .inl f3)), (b4, .inl (Z.2 0, 5, .inl f4)), (b5, .inl (Z.2 0, 24, .inl f5)), (b19, .inl (Z.2 0, 46, .inl f19))] H → va_D A [(h0, .inr (9, [.ref b1, .ref b2, .ref b3, .ref b4, .int 0, .ref b5, .int 0, .ref b6, .ref b7, .ref b8, .int 0, .int 0, .int 0, .ref b9, .ref b10, .ref b11, .ref b12, .ref b13, .ref b14, .ref b15, .ref b16, .ref b17, .ref b18, .int 0, .ref b19, .ref b20, .ref b21, .ref b22, .ref b23, .ref b24, .ref b25])), (b1, .inl (Z.2 0, 5, .inl f1)), (b2, .inl (Z.2 0, 5, .inl f2)), (b3, .inl (Z.2 0, 5, .inl f3)), (b4, .inl (Z.2 0, 5, .inl f4)), (b5, .inl (Z.2 0, 24, .inl f5)), (b19, .inl (Z.2 0, 46, .inl f19))] → va_S A s.heap H locs → lv_has ls 2 [(0, .ref h0), (1, .int (nI k))] → W p l e ({ frames := 4, cells := 0, slots := 0, locals := 100 } : Room) s m args below meth c H locs 0 0 Q (F0 m 2 ls []) := by
  have hin9 : ∀ w ∈ wsX90, w ∈ wsX9_image := by decide +kernel
  intro n
  induction n with
  | zero => intro k f1 f2 f3 f4 f5 f19 hn; exact absurd hn (Nat.not_lt_zero _)
  | succ n ih =>
    intro k f1 f2 f3 f4 f5 f19 hn hk H locs ls hP hD hS hl
    refine lv_iload_n hx hb dX9_image_2 rfl (lv_at hl 1 rfl) ?_
    refine lv_bipush (v := 46) hx hb dX9_image_3 (by decide) ?_
    refine lv_icmp_ge (tgt := 27) hx hb dX9_image_5 (by decide) (fun c_1 => ?_) (fun c_1 => ?_)
    · exact kx_27 k f1 f2 f3 f4 f5 f19 H locs ls  hP hD hS (lv_sub hl [0, 1] rfl)
    · have hlt : k < 46 := by rcases Nat.lt_or_ge k 46 with q9 | q9; exact q9; exact absurd (nI_le (a := 46) q9 (by omega)) c_1
      refine lv_aload_n hx hb dX9_image_8 rfl (lv_at hl 0 rfl) ?_
      refine va_get (D := Z.1) (ci := 9) (v := .ref b19) (C := RX9) (T := TX9) (N := 31) hx hb hts hin9 hown hK hP 0 rfl rfl 24 (by decide) (hts (.fieldLink RX9 65 "HalfAskedModel" "kept" "[I") (by decide +kernel)) (fun _ h9 => h9) rfl dX9_image_9 ?_
      refine lv_iload_n hx hb dX9_image_12 rfl (lv_at hl 1 rfl) ?_
      refine lv_aload_n hx hb dX9_image_13 rfl (lv_at hl 0 rfl) ?_
      refine lv_iload_n hx hb dX9_image_14 rfl (lv_at hl 1 rfl) ?_
      refine lv_iconst (v := 0) hx hb dX9_image_15 (by decide) ?_
      refine lv_iconst (v := 0) hx hb dX9_image_16 (by decide) ?_
      have hPc := hP.sub (ws' := [(h0, .inr (9, [.ref b1, .ref b2, .ref b3, .ref b4, .int 0, .ref b5, .int 0, .ref b6, .ref b7, .ref b8, .int 0, .int 0, .int 0, .ref b9, .ref b10, .ref b11, .ref b12, .ref b13, .ref b14, .ref b15, .ref b16, .ref b17, .ref b18, .int 0, .ref b19, .ref b20, .ref b21, .ref b22, .ref b23, .ref b24, .ref b25])), (b1, .inl (Z.2 0, 5, .inl f1)), (b2, .inl (Z.2 0, 5, .inl f2)), (b3, .inl (Z.2 0, 5, .inl f3)), (b4, .inl (Z.2 0, 5, .inl f4)), (b5, .inl (Z.2 0, 24, .inl f5))]) [0, 1, 2, 3, 4, 5] rfl
      have hDc := hD.sub (ws' := [(h0, .inr (9, [.ref b1, .ref b2, .ref b3, .ref b4, .int 0, .ref b5, .int 0, .ref b6, .ref b7, .ref b8, .int 0, .int 0, .int 0, .ref b9, .ref b10, .ref b11, .ref b12, .ref b13, .ref b14, .ref b15, .ref b16, .ref b17, .ref b18, .int 0, .ref b19, .ref b20, .ref b21, .ref b22, .ref b23, .ref b24, .ref b25])), (b1, .inl (Z.2 0, 5, .inl f1)), (b2, .inl (Z.2 0, 5, .inl f2)), (b3, .inl (Z.2 0, 5, .inl f3)), (b4, .inl (Z.2 0, 5, .inl f4)), (b5, .inl (Z.2 0, 24, .inl f5))]) [0, 1, 2, 3, 4, 5] (by decide) rfl
      have hFc := va_free (wc := [(h0, .inr (9, [.ref b1, .ref b2, .ref b3, .ref b4, .int 0, .ref b5, .int 0, .ref b6, .ref b7, .ref b8, .int 0, .int 0, .int 0, .ref b9, .ref b10, .ref b11, .ref b12, .ref b13, .ref b14, .ref b15, .ref b16, .ref b17, .ref b18, .int 0, .ref b19, .ref b20, .ref b21, .ref b22, .ref b23, .ref b24, .ref b25])), (b1, .inl (Z.2 0, 5, .inl f1)), (b2, .inl (Z.2 0, 5, .inl f2)), (b3, .inl (Z.2 0, 5, .inl f3)), (b4, .inl (Z.2 0, 5, .inl f4)), (b5, .inl (Z.2 0, 24, .inl f5))]) hD hS hA [0, 1, 2, 3, 4, 5] rfl
      refine va_calli (va_runV (As := [.int (nI k), .int 0, .int 0]) (rest := [.int (nI k), .ref b19]) ⟨hx, hb, hml, hown, hts⟩ (c_X9_carried l Z H.size h0 b1 b2 b3 b4 b5 b6 b7 b8 b9 b10 b11 b12 b13 b14 b15 b16 b17 b18 b19 b20 b21 b22 b23 b24 b25 f1 f2 f3 f4 f5 (nI k) (by rw [nI_toInt (by omega)]; omega)) (cwV 3 hts gX9_image_X9_carried rfl rfl rfl (by decide +kernel) ⟨Nat.le_of_ble_eq_true rfl, Nat.le_of_ble_eq_true rfl⟩) ⟨fun a U g mk q => by obtain ⟨q0, q1, qP, qK, qD⟩ := q; exact ⟨q0, q1, qP, va_K.moved (u := U) (U := U.calling g mk a) (Vm.Alike.refl U.vm) qK, qD⟩, va_recv hK hPc (ci := 9) (q0 := 0) rfl rfl, fun U hU hW => ⟨rfl, by rw [hU], by rw [hU]; exact hPc, va_K.moved hW.alike hK, hDc.weaken (fun _ _ _ _ => trivial)⟩⟩ rfl rfl hl.1 rfl (lv_room (Nat.le_of_ble_eq_true rfl)) dX9_image_17 ⟨Nat.le_of_ble_eq_true rfl, Nat.le_of_ble_eq_true rfl⟩) hS (fun q _ h => hFc q h) hFc (fun r_2 u t H1 locs ht hvm hw hB hz1 hk1 hS => ?_)
      obtain ⟨g1_3, g2_4, g3_5, g4_6, g5_7⟩ := u
      try dsimp only at hw hB
      obtain ⟨hP1, hD1⟩ := hB
      rw [ht] at hP1
      obtain ⟨hP, hD⟩ := va_join (wr := [(b19, .inl (Z.2 0, 46, .inl f19))]) (w1 := [(h0, .inr (9, [.ref b1, .ref b2, .ref b3, .ref b4, .int 0, .ref b5, .int 0, .ref b6, .ref b7, .ref b8, .int 0, .int 0, .int 0, .ref b9, .ref b10, .ref b11, .ref b12, .ref b13, .ref b14, .ref b15, .ref b16, .ref b17, .ref b18, .int 0, .ref b19, .ref b20, .ref b21, .ref b22, .ref b23, .ref b24, .ref b25])), (b1, .inl (Z.2 0, 5, .inl g1_3)), (b2, .inl (Z.2 0, 5, .inl g2_4)), (b3, .inl (Z.2 0, 5, .inl g3_5)), (b4, .inl (Z.2 0, 5, .inl g4_6)), (b5, .inl (Z.2 0, 24, .inl g5_7))]) hP hD [0, 1, 2, 3, 4, 5] [6] rfl rfl (by decide) (by decide) hk1 hFc hP1 hD1
      clear hPc hDc hP1 hD1 hk1 hz1 hFc ht hvm
      generalize H1 = H at hP hS ⊢
      have hP : va_P Z.1 vwCl [(b19, .inl (Z.2 0, 46, .inl f19)), (h0, .inr (9, [.ref b1, .ref b2, .ref b3, .ref b4, .int 0, .ref b5, .int 0, .ref b6, .ref b7, .ref b8, .int 0, .int 0, .int 0, .ref b9, .ref b10, .ref b11, .ref b12, .ref b13, .ref b14, .ref b15, .ref b16, .ref b17, .ref b18, .int 0, .ref b19, .ref b20, .ref b21, .ref b22, .ref b23, .ref b24, .ref b25])), (b1, .inl (Z.2 0, 5, .inl g1_3)), (b2, .inl (Z.2 0, 5, .inl g2_4)), (b3, .inl (Z.2 0, 5, .inl g3_5)), (b4, .inl (Z.2 0, 5, .inl g4_6)), (b5, .inl (Z.2 0, 24, .inl g5_7))] H := hP
      have hD : va_D A [(b19, .inl (Z.2 0, 46, .inl f19)), (h0, .inr (9, [.ref b1, .ref b2, .ref b3, .ref b4, .int 0, .ref b5, .int 0, .ref b6, .ref b7, .ref b8, .int 0, .int 0, .int 0, .ref b9, .ref b10, .ref b11, .ref b12, .ref b13, .ref b14, .ref b15, .ref b16, .ref b17, .ref b18, .int 0, .ref b19, .ref b20, .ref b21, .ref b22, .ref b23, .ref b24, .ref b25])), (b1, .inl (Z.2 0, 5, .inl g1_3)), (b2, .inl (Z.2 0, 5, .inl g2_4)), (b3, .inl (Z.2 0, 5, .inl g3_5)), (b4, .inl (Z.2 0, 5, .inl g4_6)), (b5, .inl (Z.2 0, 24, .inl g5_7))] := hD
      refine va_iast hx hb hK hP hD hS 0 0 rfl rfl (vp_in_nI hlt (by decide)) dX9_image_20 (fun H locs hP hD hS => ?_)
      have hP : va_P Z.1 vwCl [(b19, .inl (Z.2 0, 46, .inl (upd f19 ((nI k).toNatClampNeg) r_2))), (h0, .inr (9, [.ref b1, .ref b2, .ref b3, .ref b4, .int 0, .ref b5, .int 0, .ref b6, .ref b7, .ref b8, .int 0, .int 0, .int 0, .ref b9, .ref b10, .ref b11, .ref b12, .ref b13, .ref b14, .ref b15, .ref b16, .ref b17, .ref b18, .int 0, .ref b19, .ref b20, .ref b21, .ref b22, .ref b23, .ref b24, .ref b25])), (b1, .inl (Z.2 0, 5, .inl g1_3)), (b2, .inl (Z.2 0, 5, .inl g2_4)), (b3, .inl (Z.2 0, 5, .inl g3_5)), (b4, .inl (Z.2 0, 5, .inl g4_6)), (b5, .inl (Z.2 0, 24, .inl g5_7))] H := hP
      have hD : va_D A [(b19, .inl (Z.2 0, 46, .inl (upd f19 ((nI k).toNatClampNeg) r_2))), (h0, .inr (9, [.ref b1, .ref b2, .ref b3, .ref b4, .int 0, .ref b5, .int 0, .ref b6, .ref b7, .ref b8, .int 0, .int 0, .int 0, .ref b9, .ref b10, .ref b11, .ref b12, .ref b13, .ref b14, .ref b15, .ref b16, .ref b17, .ref b18, .int 0, .ref b19, .ref b20, .ref b21, .ref b22, .ref b23, .ref b24, .ref b25])), (b1, .inl (Z.2 0, 5, .inl g1_3)), (b2, .inl (Z.2 0, 5, .inl g2_4)), (b3, .inl (Z.2 0, 5, .inl g3_5)), (b4, .inl (Z.2 0, 5, .inl g4_6)), (b5, .inl (Z.2 0, 24, .inl g5_7))] := hD
      generalize (upd f19 ((nI k).toNatClampNeg) r_2 : Nat → Int32) = g_8 at hP hD
      refine lv_iinc (v := nI (k + 1)) (lv' := [(1, .int (nI (k + 1))), (0, .ref h0)]) hx hb dX9_image_21 hl (k := 1) rfl (nI_1 _) (by decide) rfl (fun ls hl => ?_)
      refine lv_goto (tgt := 2) hx hb dX9_image_24 (by decide) ?_
      exact ih (k + 1) g1_3 g2_4 g3_5 g4_6 g5_7 g_8 (by omega) (hlt) H locs ls (hP.sub [1, 2, 3, 4, 5, 6, 0] rfl) (hD.sub [1, 2, 3, 4, 5, 6, 0] (by decide) rfl) hS (lv_sub hl [1, 0] rfl)
set_option maxHeartbeats 4000000 in
set_option maxRecDepth 100000 in
theorem c_X9_image (l : Launch) (Z : gZ) (sz : Nat) (h0 : Nat) (b1 : Nat) (b2 : Nat) (b3 : Nat) (b4 : Nat) (b5 : Nat) (b6 : Nat) (b7 : Nat) (b8 : Nat) (b9 : Nat) (b10 : Nat) (b11 : Nat) (b12 : Nat) (b13 : Nat) (b14 : Nat) (b15 : Nat) (b16 : Nat) (b17 : Nat) (b18 : Nat) (b19 : Nat) (b20 : Nat) (b21 : Nat) (b22 : Nat) (b23 : Nat) (b24 : Nat) (b25 : Nat) (f1 : Nat → Int32) (f2 : Nat → Int32) (f3 : Nat → Int32) (f4 : Nat → Int32) (f5 : Nat → Int32) (f19 : Nat → Int32)  : Met l yX9_image wsX9_image ({ frames := 4, cells := 0, slots := 0, locals := 100 }) (va_Pc [.ref h0] (fun U => U.heap.size = sz ∧ va_P Z.1 vwCl [(h0, .inr (9, [.ref b1, .ref b2, .ref b3, .ref b4, .int 0, .ref b5, .int 0, .ref b6, .ref b7, .ref b8, .int 0, .int 0, .int 0, .ref b9, .ref b10, .ref b11, .ref b12, .ref b13, .ref b14, .ref b15, .ref b16, .ref b17, .ref b18, .int 0, .ref b19, .ref b20, .ref b21, .ref b22, .ref b23, .ref b24, .ref b25])), (b1, .inl (Z.2 0, 5, .inl f1)), (b2, .inl (Z.2 0, 5, .inl f2)), (b3, .inl (Z.2 0, 5, .inl f3)), (b4, .inl (Z.2 0, 5, .inl f4)), (b5, .inl (Z.2 0, 24, .inl f5)), (b19, .inl (Z.2 0, 46, .inl f19))] U.heap ∧ va_K Z.1 vwCl (gT Z) U ∧ va_D (fun _ => True) [(h0, .inr (9, [.ref b1, .ref b2, .ref b3, .ref b4, .int 0, .ref b5, .int 0, .ref b6, .ref b7, .ref b8, .int 0, .int 0, .int 0, .ref b9, .ref b10, .ref b11, .ref b12, .ref b13, .ref b14, .ref b15, .ref b16, .ref b17, .ref b18, .int 0, .ref b19, .ref b20, .ref b21, .ref b22, .ref b23, .ref b24, .ref b25])), (b1, .inl (Z.2 0, 5, .inl f1)), (b2, .inl (Z.2 0, 5, .inl f2)), (b3, .inl (Z.2 0, 5, .inl f3)), (b4, .inl (Z.2 0, 5, .inl f4)), (b5, .inl (Z.2 0, 24, .inl f5)), (b19, .inl (Z.2 0, 46, .inl f19))])) (va_Qi (fun (r : Int32) (u : Unit) => r = 1) (fun (u : Unit) (t : State) => True) (va_A [(h0, .inr (9, [.ref b1, .ref b2, .ref b3, .ref b4, .int 0, .ref b5, .int 0, .ref b6, .ref b7, .ref b8, .int 0, .int 0, .int 0, .ref b9, .ref b10, .ref b11, .ref b12, .ref b13, .ref b14, .ref b15, .ref b16, .ref b17, .ref b18, .int 0, .ref b19, .ref b20, .ref b21, .ref b22, .ref b23, .ref b24, .ref b25])), (b1, .inl (Z.2 0, 5, .inl f1)), (b2, .inl (Z.2 0, 5, .inl f2)), (b3, .inl (Z.2 0, 5, .inl f3)), (b4, .inl (Z.2 0, 5, .inl f4)), (b5, .inl (Z.2 0, 24, .inl f5)), (b19, .inl (Z.2 0, 46, .inl f19))] sz)) 0 0 (va_A [(h0, .inr (9, [.ref b1, .ref b2, .ref b3, .ref b4, .int 0, .ref b5, .int 0, .ref b6, .ref b7, .ref b8, .int 0, .int 0, .int 0, .ref b9, .ref b10, .ref b11, .ref b12, .ref b13, .ref b14, .ref b15, .ref b16, .ref b17, .ref b18, .int 0, .ref b19, .ref b20, .ref b21, .ref b22, .ref b23, .ref b24, .ref b25])), (b1, .inl (Z.2 0, 5, .inl f1)), (b2, .inl (Z.2 0, 5, .inl f2)), (b3, .inl (Z.2 0, 5, .inl f3)), (b4, .inl (Z.2 0, 5, .inl f4)), (b5, .inl (Z.2 0, 24, .inl f5)), (b19, .inl (Z.2 0, 46, .inl f19))] sz) := by
  refine Met.ofW (cc := cX9_image) (maxL := 2) (ret := (some .int)) (by decide) rfl ?_
  intro p e s m args below meth c s₁ B hml hv
  obtain ⟨rfl, hsz, hP, hK, hD0⟩ := hv
  have hx := B.exec
  have hb := B.bytes
  have hr := B.returns
  have hts := atoms_spec (ws := wsX9_image) B.pre
  have hown : s.vm.findClass RX9 = some m.cls := findClass_of_methodNamed B.named
  have hlocks := B.notSynchronized
  subst hsz
  have hin9 : ∀ w ∈ wsX90, w ∈ wsX9_image := by decide +kernel
  have hD := hD0.self (sz := s.heap.size)
  generalize hAe : va_A [(h0, .inr (9, [.ref b1, .ref b2, .ref b3, .ref b4, .int 0, .ref b5, .int 0, .ref b6, .ref b7, .ref b8, .int 0, .int 0, .int 0, .ref b9, .ref b10, .ref b11, .ref b12, .ref b13, .ref b14, .ref b15, .ref b16, .ref b17, .ref b18, .int 0, .ref b19, .ref b20, .ref b21, .ref b22, .ref b23, .ref b24, .ref b25])), (b1, .inl (Z.2 0, 5, .inl f1)), (b2, .inl (Z.2 0, 5, .inl f2)), (b3, .inl (Z.2 0, 5, .inl f3)), (b4, .inl (Z.2 0, 5, .inl f4)), (b5, .inl (Z.2 0, 24, .inl f5)), (b19, .inl (Z.2 0, 46, .inl f19))] s.heap.size = A at hD ⊢
  have hA : ∀ q : Nat, s.heap.size ≤ q → A q := fun q h => by rw [← hAe]; exact Or.inr h
  have hS : va_S A s.heap s.heap [] := va_S.rf
  have hP : va_P Z.1 vwCl [(h0, .inr (9, [.ref b1, .ref b2, .ref b3, .ref b4, .int 0, .ref b5, .int 0, .ref b6, .ref b7, .ref b8, .int 0, .int 0, .int 0, .ref b9, .ref b10, .ref b11, .ref b12, .ref b13, .ref b14, .ref b15, .ref b16, .ref b17, .ref b18, .int 0, .ref b19, .ref b20, .ref b21, .ref b22, .ref b23, .ref b24, .ref b25])), (b1, .inl (Z.2 0, 5, .inl f1)), (b2, .inl (Z.2 0, 5, .inl f2)), (b3, .inl (Z.2 0, 5, .inl f3)), (b4, .inl (Z.2 0, 5, .inl f4)), (b5, .inl (Z.2 0, 24, .inl f5)), (b19, .inl (Z.2 0, 46, .inl f19))] s.heap := hP
  have hl := lv_entry ([.ref h0]) (n := 2) (Nat.le_of_ble_eq_true rfl)
  rw [lg_entry_eq]
  generalize (lg_sl ([.ref h0]) ++ List.replicate (2 - (lg_sl ([.ref h0])).length) Slot.unset).toArray = ls at hl ⊢
  have hl : lv_has ls 2 [(0, .ref h0)] := hl
  refine lv_iconst (v := 0) hx hb dX9_image_0 (by decide) ?_
  refine lv_istore_n (lv' := [(1, .int 0), (0, .ref h0)]) hx hb dX9_image_1 rfl hl (by decide) rfl (fun ls hl => ?_)
  refine lp_X9_image Z h0 b1 b2 b3 b4 b5 b6 b7 b8 b9 b10 b11 b12 b13 b14 b15 b16 b17 b18 b19 b20 b21 b22 b23 b24 b25 hx hb hml hts hown hK hA (fun k f1' f2' f3' f4' f5' f19' H locs ls  hP hD hS hl => ?_) 47 0 f1 f2 f3 f4 f5 f19 (by decide) (by decide) s.heap _ ls hP hD hS (lv_sub hl [1, 0] rfl)
  refine lv_aload_n hx hb dX9_image_27 rfl (lv_at hl 0 rfl) ?_
  refine lv_iconst (v := 1) hx hb dX9_image_28 (by decide) ?_
  refine va_put (D := Z.1) (ci := 9) (v := .int 1) (ty := .boolean) (C := RX9) (T := TX9) (N := 31) hx hb hts hin9 tyX9 tyX9_ok nmX9 hown hK hP hD hS 0 rfl rfl 23 (by decide) (hts (.fieldLink RX9 236 "HalfAskedModel" "isKept" "Z") (by decide +kernel)) (fun _ h9 => h9) rfl (by decide +kernel) rfl rfl (Nat.le_of_ble_eq_true rfl) dX9_image_29 (fun H locs hP hD hS => ?_)
  have hP : va_P Z.1 vwCl [(h0, .inr (9, [.ref b1, .ref b2, .ref b3, .ref b4, .int 0, .ref b5, .int 0, .ref b6, .ref b7, .ref b8, .int 0, .int 0, .int 0, .ref b9, .ref b10, .ref b11, .ref b12, .ref b13, .ref b14, .ref b15, .ref b16, .ref b17, .ref b18, .int 1, .ref b19, .ref b20, .ref b21, .ref b22, .ref b23, .ref b24, .ref b25])), (b1, .inl (Z.2 0, 5, .inl f1')), (b2, .inl (Z.2 0, 5, .inl f2')), (b3, .inl (Z.2 0, 5, .inl f3')), (b4, .inl (Z.2 0, 5, .inl f4')), (b5, .inl (Z.2 0, 24, .inl f5')), (b19, .inl (Z.2 0, 46, .inl f19'))] H := hP
  have hD : va_D A [(h0, .inr (9, [.ref b1, .ref b2, .ref b3, .ref b4, .int 0, .ref b5, .int 0, .ref b6, .ref b7, .ref b8, .int 0, .int 0, .int 0, .ref b9, .ref b10, .ref b11, .ref b12, .ref b13, .ref b14, .ref b15, .ref b16, .ref b17, .ref b18, .int 1, .ref b19, .ref b20, .ref b21, .ref b22, .ref b23, .ref b24, .ref b25])), (b1, .inl (Z.2 0, 5, .inl f1')), (b2, .inl (Z.2 0, 5, .inl f2')), (b3, .inl (Z.2 0, 5, .inl f3')), (b4, .inl (Z.2 0, 5, .inl f4')), (b5, .inl (Z.2 0, 24, .inl f5')), (b19, .inl (Z.2 0, 46, .inl f19'))] := hD
  refine lv_iconst (v := 1) hx hb dX9_image_32 (by decide) ?_
  exact W.iret (v := 1) hx hb hr (fun t ht hW => ⟨⟨1, (), rfl, rfl, trivial⟩, hS.F ht⟩) hS.2.2 dX9_image_33
