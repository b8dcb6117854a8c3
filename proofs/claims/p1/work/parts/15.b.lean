set_option maxHeartbeats 4000000 in
set_option maxRecDepth 100000 in
theorem c_X0_clear (l : Launch) (Z : gZ) (sz : Nat) (h0 : Nat) (v : Int32) (kn : Int32) (ak : Int32) (k : Nat) (q : Nat)  : Met l yX0_clear wsX0_clear ({ frames := 0, cells := 0, slots := 0, locals := 0 }) (va_Pc [.ref h0] (fun U => U.heap.size = sz ∧ va_P Z.1 vwCl [(h0, .inr (0, [.int v, .int kn, .int ak, .ref k, .ref q]))] U.heap ∧ va_K Z.1 vwCl (gT Z) U ∧ va_D (fun _ => True) [(h0, .inr (0, [.int v, .int kn, .int ak, .ref k, .ref q]))])) (va_Qv (fun (u : Unit) => True) (fun (u : Unit) (t : State) => va_P Z.1 vwCl [(h0, .inr (0, [.int 0, .int 16510910, .int 0, .ref k, .ref q]))] t.heap ∧ va_D (va_A [(h0, .inr (0, [.int v, .int kn, .int ak, .ref k, .ref q]))] sz) [(h0, .inr (0, [.int 0, .int 16510910, .int 0, .ref k, .ref q]))]) (va_A [(h0, .inr (0, [.int v, .int kn, .int ak, .ref k, .ref q]))] sz)) 0 0 (va_A [(h0, .inr (0, [.int v, .int kn, .int ak, .ref k, .ref q]))] sz) := by
  refine Met.ofW (cc := cX0_clear) (maxL := 1) (ret := none) (by decide) rfl ?_
  intro p e s m args below meth c s₁ B hml hv
  obtain ⟨rfl, hsz, hP, hK, hD0⟩ := hv
  have hx := B.exec
  have hb := B.bytes
  have hr := B.returns
  have hts := atoms_spec (ws := wsX0_clear) B.pre
  have hown : s.vm.findClass RX0 = some m.cls := findClass_of_methodNamed B.named
  have hlocks := B.notSynchronized
  subst hsz
  have hin0 : ∀ w ∈ wsX00, w ∈ wsX0_clear := by decide +kernel
  have hD := hD0.self (sz := s.heap.size)
  generalize hAe : va_A [(h0, .inr (0, [.int v, .int kn, .int ak, .ref k, .ref q]))] s.heap.size = A at hD ⊢
  have hA : ∀ q : Nat, s.heap.size ≤ q → A q := fun q h => by rw [← hAe]; exact Or.inr h
  have hS : va_S A s.heap s.heap [] := va_S.rf
  have hP : va_P Z.1 vwCl [(h0, .inr (0, [.int v, .int kn, .int ak, .ref k, .ref q]))] s.heap := hP
  have hl := lv_entry ([.ref h0]) (n := 1) (Nat.le_of_ble_eq_true rfl)
  rw [lg_entry_eq]
  generalize (lg_sl ([.ref h0]) ++ List.replicate (1 - (lg_sl ([.ref h0])).length) Slot.unset).toArray = ls at hl ⊢
  have hl : lv_has ls 1 [(0, .ref h0)] := hl
  refine lv_aload_n hx hb dX0_clear_0 rfl (lv_at hl 0 rfl) ?_
  refine lv_iconst (v := 0) hx hb dX0_clear_1 (by decide) ?_
  refine va_put (D := Z.1) (ci := 0) (v := .int 0) (ty := .int) (C := RX0) (T := TX0) (N := 5) hx hb hts hin0 tyX0 tyX0_ok nmX0 hown hK hP hD hS 0 rfl rfl 0 (by decide) (hts (.fieldLink RX0 9 "HalfAsked$Folk" "size" "I") (by decide +kernel)) (fun _ h9 => h9) rfl (by decide +kernel) rfl rfl (Nat.le_of_ble_eq_true rfl) dX0_clear_2 (fun H locs hP hD hS => ?_)
  have hP : va_P Z.1 vwCl [(h0, .inr (0, [.int 0, .int kn, .int ak, .ref k, .ref q]))] H := hP
  have hD : va_D A [(h0, .inr (0, [.int 0, .int kn, .int ak, .ref k, .ref q]))] := hD
  refine lv_aload_n hx hb dX0_clear_5 rfl (lv_at hl 0 rfl) ?_
  refine lv_ldc (v := 16510910) hx hb hown (hts (.constant RX0 15 (16510910)) (by decide +kernel)) dX0_clear_6 ?_
  refine va_put (D := Z.1) (ci := 0) (v := .int 16510910) (ty := .int) (C := RX0) (T := TX0) (N := 5) hx hb hts hin0 tyX0 tyX0_ok nmX0 hown hK hP hD hS 0 rfl rfl 1 (by decide) (hts (.fieldLink RX0 16 "HalfAsked$Folk" "known" "I") (by decide +kernel)) (fun _ h9 => h9) rfl (by decide +kernel) rfl rfl (Nat.le_of_ble_eq_true rfl) dX0_clear_8 (fun H locs hP hD hS => ?_)
  have hP : va_P Z.1 vwCl [(h0, .inr (0, [.int 0, .int 16510910, .int ak, .ref k, .ref q]))] H := hP
  have hD : va_D A [(h0, .inr (0, [.int 0, .int 16510910, .int ak, .ref k, .ref q]))] := hD
  refine lv_aload_n hx hb dX0_clear_11 rfl (lv_at hl 0 rfl) ?_
  refine lv_iconst (v := 0) hx hb dX0_clear_12 (by decide) ?_
  refine va_put (D := Z.1) (ci := 0) (v := .int 0) (ty := .int) (C := RX0) (T := TX0) (N := 5) hx hb hts hin0 tyX0 tyX0_ok nmX0 hown hK hP hD hS 0 rfl rfl 2 (by decide) (hts (.fieldLink RX0 19 "HalfAsked$Folk" "asked" "I") (by decide +kernel)) (fun _ h9 => h9) rfl (by decide +kernel) rfl rfl (Nat.le_of_ble_eq_true rfl) dX0_clear_13 (fun H locs hP hD hS => ?_)
  have hP : va_P Z.1 vwCl [(h0, .inr (0, [.int 0, .int 16510910, .int 0, .ref k, .ref q]))] H := hP
  have hD : va_D A [(h0, .inr (0, [.int 0, .int 16510910, .int 0, .ref k, .ref q]))] := hD
  have hP9 := hP.sub (ws' := [(h0, .inr (0, [.int 0, .int 16510910, .int 0, .ref k, .ref q]))]) [0] rfl
  have hD9 := hD.sub (ws' := [(h0, .inr (0, [.int 0, .int 16510910, .int 0, .ref k, .ref q]))]) [0] (by decide) rfl
  exact W.vret hx hb hr (fun t ht hW => ⟨⟨(), rfl, trivial, by rw [ht]; exact hP9, hD9⟩, hS.F ht⟩) hS.2.2 dX0_clear_16
set_option maxHeartbeats 4000000 in
set_option maxRecDepth 100000 in
theorem c_X0_add (l : Launch) (Z : gZ) (sz : Nat) (h0 : Nat) (kn : Int32) (ak : Int32) (k : Nat) (q : Nat) (f : Nat → Int32) (g : Nat → Int32) (a : Int32) (b : Int32)  : Met l yX0_add wsX0_add ({ frames := 0, cells := 0, slots := 0, locals := 0 }) (va_Pc [.ref h0, .int a, .int b] (fun U => U.heap.size = sz ∧ va_P Z.1 vwCl [(h0, .inr (0, [.int 0, .int kn, .int ak, .ref k, .ref q])), (k, .inl (Z.2 0, 5, .inl f)), (q, .inl (Z.2 0, 5, .inl g))] U.heap ∧ va_K Z.1 vwCl (gT Z) U ∧ va_D (fun _ => True) [(h0, .inr (0, [.int 0, .int kn, .int ak, .ref k, .ref q])), (k, .inl (Z.2 0, 5, .inl f)), (q, .inl (Z.2 0, 5, .inl g))])) (va_Qv (fun (u : (Nat → Int32) × (Nat → Int32)) => match u with | (f1, g1) => True) (fun (u : (Nat → Int32) × (Nat → Int32)) (t : State) => match u with | (f1, g1) => va_P Z.1 vwCl [(h0, .inr (0, [.int 1, .int kn, .int ak, .ref k, .ref q])), (k, .inl (Z.2 0, 5, .inl f1)), (q, .inl (Z.2 0, 5, .inl g1))] t.heap ∧ va_D (va_A [(h0, .inr (0, [.int 0, .int kn, .int ak, .ref k, .ref q])), (k, .inl (Z.2 0, 5, .inl f)), (q, .inl (Z.2 0, 5, .inl g))] sz) [(h0, .inr (0, [.int 1, .int kn, .int ak, .ref k, .ref q])), (k, .inl (Z.2 0, 5, .inl f1)), (q, .inl (Z.2 0, 5, .inl g1))]) (va_A [(h0, .inr (0, [.int 0, .int kn, .int ak, .ref k, .ref q])), (k, .inl (Z.2 0, 5, .inl f)), (q, .inl (Z.2 0, 5, .inl g))] sz)) 0 0 (va_A [(h0, .inr (0, [.int 0, .int kn, .int ak, .ref k, .ref q])), (k, .inl (Z.2 0, 5, .inl f)), (q, .inl (Z.2 0, 5, .inl g))] sz) := by
  refine Met.ofW (cc := cX0_add) (maxL := 3) (ret := none) (by decide) rfl ?_
  intro p e s m args below meth c s₁ B hml hv
  obtain ⟨rfl, hsz, hP, hK, hD0⟩ := hv
  have hx := B.exec
  have hb := B.bytes
  have hr := B.returns
  have hts := atoms_spec (ws := wsX0_add) B.pre
  have hown : s.vm.findClass RX0 = some m.cls := findClass_of_methodNamed B.named
  have hlocks := B.notSynchronized
  subst hsz
  have hin0 : ∀ w ∈ wsX00, w ∈ wsX0_add := by decide +kernel
  have hD := hD0.self (sz := s.heap.size)
  generalize hAe : va_A [(h0, .inr (0, [.int 0, .int kn, .int ak, .ref k, .ref q])), (k, .inl (Z.2 0, 5, .inl f)), (q, .inl (Z.2 0, 5, .inl g))] s.heap.size = A at hD ⊢
  have hA : ∀ q : Nat, s.heap.size ≤ q → A q := fun q h => by rw [← hAe]; exact Or.inr h
  have hS : va_S A s.heap s.heap [] := va_S.rf
  have hP : va_P Z.1 vwCl [(h0, .inr (0, [.int 0, .int kn, .int ak, .ref k, .ref q])), (k, .inl (Z.2 0, 5, .inl f)), (q, .inl (Z.2 0, 5, .inl g))] s.heap := hP
  have hl := lv_entry ([.ref h0, .int a, .int b]) (n := 3) (Nat.le_of_ble_eq_true rfl)
  rw [lg_entry_eq]
  generalize (lg_sl ([.ref h0, .int a, .int b]) ++ List.replicate (3 - (lg_sl ([.ref h0, .int a, .int b])).length) Slot.unset).toArray = ls at hl ⊢
  have hl : lv_has ls 3 [(0, .ref h0), (1, .int a), (2, .int b)] := hl
  refine lv_aload_n hx hb dX0_add_0 rfl (lv_at hl 0 rfl) ?_
  refine va_get (D := Z.1) (ci := 0) (v := .int 0) (C := RX0) (T := TX0) (N := 5) hx hb hts hin0 hown hK hP 0 rfl rfl 0 (by decide) (hts (.fieldLink RX0 9 "HalfAsked$Folk" "size" "I") (by decide +kernel)) (fun _ h9 => h9) rfl dX0_add_1 ?_
  refine lv_iconst (v := 5) hx hb dX0_add_4 (by decide) ?_
  refine lv_icmp_ge (tgt := 38) hx hb dX0_add_5 (by decide) (fun c9 => absurd c9 (by decide)) (fun _ => ?_)
  refine lv_aload_n hx hb dX0_add_8 rfl (lv_at hl 0 rfl) ?_
  refine va_get (D := Z.1) (ci := 0) (v := .ref k) (C := RX0) (T := TX0) (N := 5) hx hb hts hin0 hown hK hP 0 rfl rfl 3 (by decide) (hts (.fieldLink RX0 22 "HalfAsked$Folk" "kind" "[I") (by decide +kernel)) (fun _ h9 => h9) rfl dX0_add_9 ?_
  refine lv_aload_n hx hb dX0_add_12 rfl (lv_at hl 0 rfl) ?_
  refine va_get (D := Z.1) (ci := 0) (v := .int 0) (C := RX0) (T := TX0) (N := 5) hx hb hts hin0 hown hK hP 0 rfl rfl 0 (by decide) (hts (.fieldLink RX0 9 "HalfAsked$Folk" "size" "I") (by decide +kernel)) (fun _ h9 => h9) rfl dX0_add_13 ?_
  refine lv_iload_n hx hb dX0_add_16 rfl (lv_at hl 1 rfl) ?_
  refine va_iast hx hb hK hP hD hS 1 0 rfl rfl (z_in (by decide)) dX0_add_17 (fun H locs hP hD hS => ?_)
  have hP : va_P Z.1 vwCl [(h0, .inr (0, [.int 0, .int kn, .int ak, .ref k, .ref q])), (k, .inl (Z.2 0, 5, .inl (upd f 0 a))), (q, .inl (Z.2 0, 5, .inl g))] H := hP
  have hD : va_D A [(h0, .inr (0, [.int 0, .int kn, .int ak, .ref k, .ref q])), (k, .inl (Z.2 0, 5, .inl (upd f 0 a))), (q, .inl (Z.2 0, 5, .inl g))] := hD
  generalize (upd f 0 a : Nat → Int32) = g_1 at hP hD
  refine lv_aload_n hx hb dX0_add_18 rfl (lv_at hl 0 rfl) ?_
  refine va_get (D := Z.1) (ci := 0) (v := .ref q) (C := RX0) (T := TX0) (N := 5) hx hb hts hin0 hown hK hP 0 rfl rfl 4 (by decide) (hts (.fieldLink RX0 26 "HalfAsked$Folk" "pence" "[I") (by decide +kernel)) (fun _ h9 => h9) rfl dX0_add_19 ?_
  refine lv_aload_n hx hb dX0_add_22 rfl (lv_at hl 0 rfl) ?_
  refine va_get (D := Z.1) (ci := 0) (v := .int 0) (C := RX0) (T := TX0) (N := 5) hx hb hts hin0 hown hK hP 0 rfl rfl 0 (by decide) (hts (.fieldLink RX0 9 "HalfAsked$Folk" "size" "I") (by decide +kernel)) (fun _ h9 => h9) rfl dX0_add_23 ?_
  refine lv_iload_n hx hb dX0_add_26 rfl (lv_at hl 2 rfl) ?_
  refine va_iast hx hb hK hP hD hS 2 0 rfl rfl (z_in (by decide)) dX0_add_27 (fun H locs hP hD hS => ?_)
  have hP : va_P Z.1 vwCl [(h0, .inr (0, [.int 0, .int kn, .int ak, .ref k, .ref q])), (k, .inl (Z.2 0, 5, .inl g_1)), (q, .inl (Z.2 0, 5, .inl (upd g 0 b)))] H := hP
  have hD : va_D A [(h0, .inr (0, [.int 0, .int kn, .int ak, .ref k, .ref q])), (k, .inl (Z.2 0, 5, .inl g_1)), (q, .inl (Z.2 0, 5, .inl (upd g 0 b)))] := hD
  generalize (upd g 0 b : Nat → Int32) = g_2 at hP hD
  refine lv_aload_n hx hb dX0_add_28 rfl (lv_at hl 0 rfl) ?_
  refine lv_dup hx hb dX0_add_29 rfl ?_
  refine va_get (D := Z.1) (ci := 0) (v := .int 0) (C := RX0) (T := TX0) (N := 5) hx hb hts hin0 hown hK hP 0 rfl rfl 0 (by decide) (hts (.fieldLink RX0 9 "HalfAsked$Folk" "size" "I") (by decide +kernel)) (fun _ h9 => h9) rfl dX0_add_30 ?_
  refine lv_iconst (v := 1) hx hb dX0_add_33 (by decide) ?_
  refine lv_iadd hx hb dX0_add_34 ?_
  refine lv_topi (fun f_3 ef_3 => ?_)
  obtain rfl : f_3 = 1 := ef_3.trans (by decide)
  refine va_put (D := Z.1) (ci := 0) (v := .int 1) (ty := .int) (C := RX0) (T := TX0) (N := 5) hx hb hts hin0 tyX0 tyX0_ok nmX0 hown hK hP hD hS 0 rfl rfl 0 (by decide) (hts (.fieldLink RX0 9 "HalfAsked$Folk" "size" "I") (by decide +kernel)) (fun _ h9 => h9) rfl (by decide +kernel) rfl rfl (Nat.le_of_ble_eq_true rfl) dX0_add_35 (fun H locs hP hD hS => ?_)
  have hP : va_P Z.1 vwCl [(h0, .inr (0, [.int 1, .int kn, .int ak, .ref k, .ref q])), (k, .inl (Z.2 0, 5, .inl g_1)), (q, .inl (Z.2 0, 5, .inl g_2))] H := hP
  have hD : va_D A [(h0, .inr (0, [.int 1, .int kn, .int ak, .ref k, .ref q])), (k, .inl (Z.2 0, 5, .inl g_1)), (q, .inl (Z.2 0, 5, .inl g_2))] := hD
  have hP9 := hP.sub (ws' := [(h0, .inr (0, [.int 1, .int kn, .int ak, .ref k, .ref q])), (k, .inl (Z.2 0, 5, .inl g_1)), (q, .inl (Z.2 0, 5, .inl g_2))]) [0, 1, 2] rfl
  have hD9 := hD.sub (ws' := [(h0, .inr (0, [.int 1, .int kn, .int ak, .ref k, .ref q])), (k, .inl (Z.2 0, 5, .inl g_1)), (q, .inl (Z.2 0, 5, .inl g_2))]) [0, 1, 2] (by decide) rfl
  exact W.vret hx hb hr (fun t ht hW => ⟨⟨(g_1, g_2), rfl, trivial, by rw [ht]; exact hP9, hD9⟩, hS.F ht⟩) hS.2.2 dX0_add_38
set_option maxHeartbeats 4000000 in
set_option maxRecDepth 100000 in
theorem c_X0_takeFrom (l : Launch) (Z : gZ) (sz : Nat) (h0 : Nat) (v : Int32) (kn : Int32) (ak : Int32) (k : Nat) (q : Nat) (h1 : Nat) (v1 : Int32) (kn1 : Int32) (ak1 : Int32) (k1 : Nat) (q1 : Nat) (f : Nat → Int32) (g : Nat → Int32) (f1 : Nat → Int32) (g1 : Nat → Int32)  : Met l yX0_takeFrom wsX0_takeFrom ({ frames := 1, cells := 0, slots := 0, locals := 60 }) (va_Pc [.ref h0, .ref h1] (fun U => U.heap.size = sz ∧ va_P Z.1 vwCl [(h0, .inr (0, [.int v, .int kn, .int ak, .ref k, .ref q])), (k, .inl (Z.2 0, 5, .inl f)), (q, .inl (Z.2 0, 5, .inl g)), (h1, .inr (0, [.int v1, .int kn1, .int ak1, .ref k1, .ref q1])), (k1, .inl (Z.2 0, 5, .inl f1)), (q1, .inl (Z.2 0, 5, .inl g1))] U.heap ∧ va_K Z.1 vwCl (gT Z) U ∧ va_D (fun _ => True) [(h0, .inr (0, [.int v, .int kn, .int ak, .ref k, .ref q])), (k, .inl (Z.2 0, 5, .inl f)), (q, .inl (Z.2 0, 5, .inl g)), (h1, .inr (0, [.int v1, .int kn1, .int ak1, .ref k1, .ref q1])), (k1, .inl (Z.2 0, 5, .inl f1)), (q1, .inl (Z.2 0, 5, .inl g1))])) (va_Qv (fun (u : (Nat → Int32) × (Nat → Int32)) => match u with | (f2, g2) => True) (fun (u : (Nat → Int32) × (Nat → Int32)) (t : State) => match u with | (f2, g2) => va_P Z.1 vwCl [(h0, .inr (0, [.int v1, .int kn1, .int ak1, .ref k, .ref q])), (k, .inl (Z.2 0, 5, .inl f2)), (q, .inl (Z.2 0, 5, .inl g2)), (h1, .inr (0, [.int v1, .int kn1, .int ak1, .ref k1, .ref q1])), (k1, .inl (Z.2 0, 5, .inl f1)), (q1, .inl (Z.2 0, 5, .inl g1))] t.heap ∧ va_D (va_A [(h0, .inr (0, [.int v, .int kn, .int ak, .ref k, .ref q])), (k, .inl (Z.2 0, 5, .inl f)), (q, .inl (Z.2 0, 5, .inl g)), (h1, .inr (0, [.int v1, .int kn1, .int ak1, .ref k1, .ref q1])), (k1, .inl (Z.2 0, 5, .inl f1)), (q1, .inl (Z.2 0, 5, .inl g1))] sz) [(h0, .inr (0, [.int v1, .int kn1, .int ak1, .ref k, .ref q])), (k, .inl (Z.2 0, 5, .inl f2)), (q, .inl (Z.2 0, 5, .inl g2)), (h1, .inr (0, [.int v1, .int kn1, .int ak1, .ref k1, .ref q1])), (k1, .inl (Z.2 0, 5, .inl f1)), (q1, .inl (Z.2 0, 5, .inl g1))]) (va_A [(h0, .inr (0, [.int v, .int kn, .int ak, .ref k, .ref q])), (k, .inl (Z.2 0, 5, .inl f)), (q, .inl (Z.2 0, 5, .inl g)), (h1, .inr (0, [.int v1, .int kn1, .int ak1, .ref k1, .ref q1])), (k1, .inl (Z.2 0, 5, .inl f1)), (q1, .inl (Z.2 0, 5, .inl g1))] sz)) 0 0 (va_A [(h0, .inr (0, [.int v, .int kn, .int ak, .ref k, .ref q])), (k, .inl (Z.2 0, 5, .inl f)), (q, .inl (Z.2 0, 5, .inl g)), (h1, .inr (0, [.int v1, .int kn1, .int ak1, .ref k1, .ref q1])), (k1, .inl (Z.2 0, 5, .inl f1)), (q1, .inl (Z.2 0, 5, .inl g1))] sz) := by
  refine Met.ofW (cc := cX0_takeFrom) (maxL := 2) (ret := none) (by decide) rfl ?_
  intro p e s m args below meth c s₁ B hml hv
  obtain ⟨rfl, hsz, hP, hK, hD0⟩ := hv
  have hx := B.exec
  have hb := B.bytes
  have hr := B.returns
  have hts := atoms_spec (ws := wsX0_takeFrom) B.pre
  have hown : s.vm.findClass RX0 = some m.cls := findClass_of_methodNamed B.named
  have hlocks := B.notSynchronized
  subst hsz
  have hin0 : ∀ w ∈ wsX00, w ∈ wsX0_takeFrom := by decide +kernel
  have hD := hD0.self (sz := s.heap.size)
  generalize hAe : va_A [(h0, .inr (0, [.int v, .int kn, .int ak, .ref k, .ref q])), (k, .inl (Z.2 0, 5, .inl f)), (q, .inl (Z.2 0, 5, .inl g)), (h1, .inr (0, [.int v1, .int kn1, .int ak1, .ref k1, .ref q1])), (k1, .inl (Z.2 0, 5, .inl f1)), (q1, .inl (Z.2 0, 5, .inl g1))] s.heap.size = A at hD ⊢
  have hA : ∀ q : Nat, s.heap.size ≤ q → A q := fun q h => by rw [← hAe]; exact Or.inr h
  have hS : va_S A s.heap s.heap [] := va_S.rf
  have hP : va_P Z.1 vwCl [(h0, .inr (0, [.int v, .int kn, .int ak, .ref k, .ref q])), (k, .inl (Z.2 0, 5, .inl f)), (q, .inl (Z.2 0, 5, .inl g)), (h1, .inr (0, [.int v1, .int kn1, .int ak1, .ref k1, .ref q1])), (k1, .inl (Z.2 0, 5, .inl f1)), (q1, .inl (Z.2 0, 5, .inl g1))] s.heap := hP
  have hl := lv_entry ([.ref h0, .ref h1]) (n := 2) (Nat.le_of_ble_eq_true rfl)
  rw [lg_entry_eq]
  generalize (lg_sl ([.ref h0, .ref h1]) ++ List.replicate (2 - (lg_sl ([.ref h0, .ref h1])).length) Slot.unset).toArray = ls at hl ⊢
  have hl : lv_has ls 2 [(0, .ref h0), (1, .ref h1)] := hl
  refine lv_aload_n hx hb dX0_takeFrom_0 rfl (lv_at hl 0 rfl) ?_
  refine lv_aload_n hx hb dX0_takeFrom_1 rfl (lv_at hl 1 rfl) ?_
  refine va_get (D := Z.1) (ci := 0) (v := .int v1) (C := RX0) (T := TX0) (N := 5) hx hb hts hin0 hown hK hP 3 rfl rfl 0 (by decide) (hts (.fieldLink RX0 9 "HalfAsked$Folk" "size" "I") (by decide +kernel)) (fun _ h9 => h9) rfl dX0_takeFrom_2 ?_
  refine va_put (D := Z.1) (ci := 0) (v := .int v1) (ty := .int) (C := RX0) (T := TX0) (N := 5) hx hb hts hin0 tyX0 tyX0_ok nmX0 hown hK hP hD hS 0 rfl rfl 0 (by decide) (hts (.fieldLink RX0 9 "HalfAsked$Folk" "size" "I") (by decide +kernel)) (fun _ h9 => h9) rfl (by decide +kernel) rfl rfl (Nat.le_of_ble_eq_true rfl) dX0_takeFrom_5 (fun H locs hP hD hS => ?_)
  have hP : va_P Z.1 vwCl [(h0, .inr (0, [.int v1, .int kn, .int ak, .ref k, .ref q])), (k, .inl (Z.2 0, 5, .inl f)), (q, .inl (Z.2 0, 5, .inl g)), (h1, .inr (0, [.int v1, .int kn1, .int ak1, .ref k1, .ref q1])), (k1, .inl (Z.2 0, 5, .inl f1)), (q1, .inl (Z.2 0, 5, .inl g1))] H := hP
  have hD : va_D A [(h0, .inr (0, [.int v1, .int kn, .int ak, .ref k, .ref q])), (k, .inl (Z.2 0, 5, .inl f)), (q, .inl (Z.2 0, 5, .inl g)), (h1, .inr (0, [.int v1, .int kn1, .int ak1, .ref k1, .ref q1])), (k1, .inl (Z.2 0, 5, .inl f1)), (q1, .inl (Z.2 0, 5, .inl g1))] := hD
  refine lv_aload_n hx hb dX0_takeFrom_8 rfl (lv_at hl 0 rfl) ?_
  refine lv_aload_n hx hb dX0_takeFrom_9 rfl (lv_at hl 1 rfl) ?_
  refine va_get (D := Z.1) (ci := 0) (v := .int kn1) (C := RX0) (T := TX0) (N := 5) hx hb hts hin0 hown hK hP 3 rfl rfl 1 (by decide) (hts (.fieldLink RX0 16 "HalfAsked$Folk" "known" "I") (by decide +kernel)) (fun _ h9 => h9) rfl dX0_takeFrom_10 ?_
  refine va_put (D := Z.1) (ci := 0) (v := .int kn1) (ty := .int) (C := RX0) (T := TX0) (N := 5) hx hb hts hin0 tyX0 tyX0_ok nmX0 hown hK hP hD hS 0 rfl rfl 1 (by decide) (hts (.fieldLink RX0 16 "HalfAsked$Folk" "known" "I") (by decide +kernel)) (fun _ h9 => h9) rfl (by decide +kernel) rfl rfl (Nat.le_of_ble_eq_true rfl) dX0_takeFrom_13 (fun H locs hP hD hS => ?_)
  have hP : va_P Z.1 vwCl [(h0, .inr (0, [.int v1, .int kn1, .int ak, .ref k, .ref q])), (k, .inl (Z.2 0, 5, .inl f)), (q, .inl (Z.2 0, 5, .inl g)), (h1, .inr (0, [.int v1, .int kn1, .int ak1, .ref k1, .ref q1])), (k1, .inl (Z.2 0, 5, .inl f1)), (q1, .inl (Z.2 0, 5, .inl g1))] H := hP
  have hD : va_D A [(h0, .inr (0, [.int v1, .int kn1, .int ak, .ref k, .ref q])), (k, .inl (Z.2 0, 5, .inl f)), (q, .inl (Z.2 0, 5, .inl g)), (h1, .inr (0, [.int v1, .int kn1, .int ak1, .ref k1, .ref q1])), (k1, .inl (Z.2 0, 5, .inl f1)), (q1, .inl (Z.2 0, 5, .inl g1))] := hD
  refine lv_aload_n hx hb dX0_takeFrom_16 rfl (lv_at hl 0 rfl) ?_
  refine lv_aload_n hx hb dX0_takeFrom_17 rfl (lv_at hl 1 rfl) ?_
  refine va_get (D := Z.1) (ci := 0) (v := .int ak1) (C := RX0) (T := TX0) (N := 5) hx hb hts hin0 hown hK hP 3 rfl rfl 2 (by decide) (hts (.fieldLink RX0 19 "HalfAsked$Folk" "asked" "I") (by decide +kernel)) (fun _ h9 => h9) rfl dX0_takeFrom_18 ?_
  refine va_put (D := Z.1) (ci := 0) (v := .int ak1) (ty := .int) (C := RX0) (T := TX0) (N := 5) hx hb hts hin0 tyX0 tyX0_ok nmX0 hown hK hP hD hS 0 rfl rfl 2 (by decide) (hts (.fieldLink RX0 19 "HalfAsked$Folk" "asked" "I") (by decide +kernel)) (fun _ h9 => h9) rfl (by decide +kernel) rfl rfl (Nat.le_of_ble_eq_true rfl) dX0_takeFrom_21 (fun H locs hP hD hS => ?_)
  have hP : va_P Z.1 vwCl [(h0, .inr (0, [.int v1, .int kn1, .int ak1, .ref k, .ref q])), (k, .inl (Z.2 0, 5, .inl f)), (q, .inl (Z.2 0, 5, .inl g)), (h1, .inr (0, [.int v1, .int kn1, .int ak1, .ref k1, .ref q1])), (k1, .inl (Z.2 0, 5, .inl f1)), (q1, .inl (Z.2 0, 5, .inl g1))] H := hP
  have hD : va_D A [(h0, .inr (0, [.int v1, .int kn1, .int ak1, .ref k, .ref q])), (k, .inl (Z.2 0, 5, .inl f)), (q, .inl (Z.2 0, 5, .inl g)), (h1, .inr (0, [.int v1, .int kn1, .int ak1, .ref k1, .ref q1])), (k1, .inl (Z.2 0, 5, .inl f1)), (q1, .inl (Z.2 0, 5, .inl g1))] := hD
  refine lv_aload_n hx hb dX0_takeFrom_24 rfl (lv_at hl 1 rfl) ?_
  refine va_get (D := Z.1) (ci := 0) (v := .ref k1) (C := RX0) (T := TX0) (N := 5) hx hb hts hin0 hown hK hP 3 rfl rfl 3 (by decide) (hts (.fieldLink RX0 22 "HalfAsked$Folk" "kind" "[I") (by decide +kernel)) (fun _ h9 => h9) rfl dX0_takeFrom_25 ?_
  refine lv_iconst (v := 0) hx hb dX0_takeFrom_28 (by decide) ?_
  refine lv_aload_n hx hb dX0_takeFrom_29 rfl (lv_at hl 0 rfl) ?_
  refine va_get (D := Z.1) (ci := 0) (v := .ref k) (C := RX0) (T := TX0) (N := 5) hx hb hts hin0 hown hK hP 0 rfl rfl 3 (by decide) (hts (.fieldLink RX0 22 "HalfAsked$Folk" "kind" "[I") (by decide +kernel)) (fun _ h9 => h9) rfl dX0_takeFrom_30 ?_
  refine lv_iconst (v := 0) hx hb dX0_takeFrom_33 (by decide) ?_
  refine lv_iconst (v := 5) hx hb dX0_takeFrom_34 (by decide) ?_
  refine va_copyi hx hb (hml.trans hl.1.symm) hown (hts (.methodLink RX0 36 arraycopyName) (by decide +kernel)) (hts (.native arraycopyName) (by decide +kernel)) (hts (.static arraycopyName) (by decide +kernel)) (hts (.initialized "java/lang/System") (by decide +kernel)) hK hP hD hS 4 1 0 0 rfl rfl rfl rfl rfl (by decide) (by decide) (by decide) (by decide) (by decide) (fun _ _ => rfl) (Nat.le_of_ble_eq_true rfl) (Nat.le_of_ble_eq_true rfl) dX0_takeFrom_35 (fun H locs hP hD hS => ?_)
  have hP : va_P Z.1 vwCl [(h0, .inr (0, [.int v1, .int kn1, .int ak1, .ref k, .ref q])), (k, .inl (Z.2 0, 5, .inl (va_cpy f1 f 0 0 5))), (q, .inl (Z.2 0, 5, .inl g)), (h1, .inr (0, [.int v1, .int kn1, .int ak1, .ref k1, .ref q1])), (k1, .inl (Z.2 0, 5, .inl f1)), (q1, .inl (Z.2 0, 5, .inl g1))] H := hP
  have hD : va_D A [(h0, .inr (0, [.int v1, .int kn1, .int ak1, .ref k, .ref q])), (k, .inl (Z.2 0, 5, .inl (va_cpy f1 f 0 0 5))), (q, .inl (Z.2 0, 5, .inl g)), (h1, .inr (0, [.int v1, .int kn1, .int ak1, .ref k1, .ref q1])), (k1, .inl (Z.2 0, 5, .inl f1)), (q1, .inl (Z.2 0, 5, .inl g1))] := hD
  generalize (va_cpy f1 f 0 0 5 : Nat → Int32) = g_1 at hP hD
  refine lv_aload_n hx hb dX0_takeFrom_38 rfl (lv_at hl 1 rfl) ?_
  refine va_get (D := Z.1) (ci := 0) (v := .ref q1) (C := RX0) (T := TX0) (N := 5) hx hb hts hin0 hown hK hP 3 rfl rfl 4 (by decide) (hts (.fieldLink RX0 26 "HalfAsked$Folk" "pence" "[I") (by decide +kernel)) (fun _ h9 => h9) rfl dX0_takeFrom_39 ?_
  refine lv_iconst (v := 0) hx hb dX0_takeFrom_42 (by decide) ?_
  refine lv_aload_n hx hb dX0_takeFrom_43 rfl (lv_at hl 0 rfl) ?_
  refine va_get (D := Z.1) (ci := 0) (v := .ref q) (C := RX0) (T := TX0) (N := 5) hx hb hts hin0 hown hK hP 0 rfl rfl 4 (by decide) (hts (.fieldLink RX0 26 "HalfAsked$Folk" "pence" "[I") (by decide +kernel)) (fun _ h9 => h9) rfl dX0_takeFrom_44 ?_
  refine lv_iconst (v := 0) hx hb dX0_takeFrom_47 (by decide) ?_
  refine lv_iconst (v := 5) hx hb dX0_takeFrom_48 (by decide) ?_
  refine va_copyi hx hb (hml.trans hl.1.symm) hown (hts (.methodLink RX0 36 arraycopyName) (by decide +kernel)) (hts (.native arraycopyName) (by decide +kernel)) (hts (.static arraycopyName) (by decide +kernel)) (hts (.initialized "java/lang/System") (by decide +kernel)) hK hP hD hS 5 2 0 0 rfl rfl rfl rfl rfl (by decide) (by decide) (by decide) (by decide) (by decide) (fun _ _ => rfl) (Nat.le_of_ble_eq_true rfl) (Nat.le_of_ble_eq_true rfl) dX0_takeFrom_49 (fun H locs hP hD hS => ?_)
  have hP : va_P Z.1 vwCl [(h0, .inr (0, [.int v1, .int kn1, .int ak1, .ref k, .ref q])), (k, .inl (Z.2 0, 5, .inl g_1)), (q, .inl (Z.2 0, 5, .inl (va_cpy g1 g 0 0 5))), (h1, .inr (0, [.int v1, .int kn1, .int ak1, .ref k1, .ref q1])), (k1, .inl (Z.2 0, 5, .inl f1)), (q1, .inl (Z.2 0, 5, .inl g1))] H := hP
  have hD : va_D A [(h0, .inr (0, [.int v1, .int kn1, .int ak1, .ref k, .ref q])), (k, .inl (Z.2 0, 5, .inl g_1)), (q, .inl (Z.2 0, 5, .inl (va_cpy g1 g 0 0 5))), (h1, .inr (0, [.int v1, .int kn1, .int ak1, .ref k1, .ref q1])), (k1, .inl (Z.2 0, 5, .inl f1)), (q1, .inl (Z.2 0, 5, .inl g1))] := hD
  generalize (va_cpy g1 g 0 0 5 : Nat → Int32) = g_2 at hP hD
  have hP9 := hP.sub (ws' := [(h0, .inr (0, [.int v1, .int kn1, .int ak1, .ref k, .ref q])), (k, .inl (Z.2 0, 5, .inl g_1)), (q, .inl (Z.2 0, 5, .inl g_2)), (h1, .inr (0, [.int v1, .int kn1, .int ak1, .ref k1, .ref q1])), (k1, .inl (Z.2 0, 5, .inl f1)), (q1, .inl (Z.2 0, 5, .inl g1))]) [0, 1, 2, 3, 4, 5] rfl
  have hD9 := hD.sub (ws' := [(h0, .inr (0, [.int v1, .int kn1, .int ak1, .ref k, .ref q])), (k, .inl (Z.2 0, 5, .inl g_1)), (q, .inl (Z.2 0, 5, .inl g_2)), (h1, .inr (0, [.int v1, .int kn1, .int ak1, .ref k1, .ref q1])), (k1, .inl (Z.2 0, 5, .inl f1)), (q1, .inl (Z.2 0, 5, .inl g1))]) [0, 1, 2, 3, 4, 5] (by decide) rfl
  exact W.vret hx hb hr (fun t ht hW => ⟨⟨(g_1, g_2), rfl, trivial, by rw [ht]; exact hP9, hD9⟩, hS.F ht⟩) hS.2.2 dX0_takeFrom_52
set_option maxHeartbeats 4000000 in
set_option maxRecDepth 100000 in
theorem c_X2_clear (l : Launch) (Z : gZ) (sz : Nat) (h0 : Nat) (v : Int32) (en : Int32) (k : Nat) (q : Nat)  : Met l yX2_clear wsX2_clear ({ frames := 0, cells := 0, slots := 0, locals := 0 }) (va_Pc [.ref h0] (fun U => U.heap.size = sz ∧ va_P Z.1 vwCl [(h0, .inr (2, [.int v, .int en, .ref k, .ref q]))] U.heap ∧ va_K Z.1 vwCl (gT Z) U ∧ va_D (fun _ => True) [(h0, .inr (2, [.int v, .int en, .ref k, .ref q]))])) (va_Qv (fun (u : Unit) => True) (fun (u : Unit) (t : State) => va_P Z.1 vwCl [(h0, .inr (2, [.int 0, .int 0, .ref k, .ref q]))] t.heap ∧ va_D (va_A [(h0, .inr (2, [.int v, .int en, .ref k, .ref q]))] sz) [(h0, .inr (2, [.int 0, .int 0, .ref k, .ref q]))]) (va_A [(h0, .inr (2, [.int v, .int en, .ref k, .ref q]))] sz)) 0 0 (va_A [(h0, .inr (2, [.int v, .int en, .ref k, .ref q]))] sz) := by
  refine Met.ofW (cc := cX2_clear) (maxL := 1) (ret := none) (by decide) rfl ?_
  intro p e s m args below meth c s₁ B hml hv
  obtain ⟨rfl, hsz, hP, hK, hD0⟩ := hv
  have hx := B.exec
  have hb := B.bytes
  have hr := B.returns
  have hts := atoms_spec (ws := wsX2_clear) B.pre
  have hown : s.vm.findClass RX2 = some m.cls := findClass_of_methodNamed B.named
  have hlocks := B.notSynchronized
  subst hsz
  have hin2 : ∀ w ∈ wsX20, w ∈ wsX2_clear := by decide +kernel
  have hD := hD0.self (sz := s.heap.size)
  generalize hAe : va_A [(h0, .inr (2, [.int v, .int en, .ref k, .ref q]))] s.heap.size = A at hD ⊢
  have hA : ∀ q : Nat, s.heap.size ≤ q → A q := fun q h => by rw [← hAe]; exact Or.inr h
  have hS : va_S A s.heap s.heap [] := va_S.rf
  have hP : va_P Z.1 vwCl [(h0, .inr (2, [.int v, .int en, .ref k, .ref q]))] s.heap := hP
  have hl := lv_entry ([.ref h0]) (n := 1) (Nat.le_of_ble_eq_true rfl)
  rw [lg_entry_eq]
  generalize (lg_sl ([.ref h0]) ++ List.replicate (1 - (lg_sl ([.ref h0])).length) Slot.unset).toArray = ls at hl ⊢
  have hl : lv_has ls 1 [(0, .ref h0)] := hl
  refine lv_aload_n hx hb dX2_clear_0 rfl (lv_at hl 0 rfl) ?_
  refine lv_iconst (v := 0) hx hb dX2_clear_1 (by decide) ?_
  refine va_put (D := Z.1) (ci := 2) (v := .int 0) (ty := .int) (C := RX2) (T := TX2) (N := 4) hx hb hts hin2 tyX2 tyX2_ok nmX2 hown hK hP hD hS 0 rfl rfl 0 (by decide) (hts (.fieldLink RX2 9 "HalfAsked$Plan" "size" "I") (by decide +kernel)) (fun _ h9 => h9) rfl (by decide +kernel) rfl rfl (Nat.le_of_ble_eq_true rfl) dX2_clear_2 (fun H locs hP hD hS => ?_)
  have hP : va_P Z.1 vwCl [(h0, .inr (2, [.int 0, .int en, .ref k, .ref q]))] H := hP
  have hD : va_D A [(h0, .inr (2, [.int 0, .int en, .ref k, .ref q]))] := hD
  refine lv_aload_n hx hb dX2_clear_5 rfl (lv_at hl 0 rfl) ?_
  refine lv_iconst (v := 0) hx hb dX2_clear_6 (by decide) ?_
  refine va_put (D := Z.1) (ci := 2) (v := .int 0) (ty := .int) (C := RX2) (T := TX2) (N := 4) hx hb hts hin2 tyX2 tyX2_ok nmX2 hown hK hP hD hS 0 rfl rfl 1 (by decide) (hts (.fieldLink RX2 15 "HalfAsked$Plan" "ends" "I") (by decide +kernel)) (fun _ h9 => h9) rfl (by decide +kernel) rfl rfl (Nat.le_of_ble_eq_true rfl) dX2_clear_7 (fun H locs hP hD hS => ?_)
  have hP : va_P Z.1 vwCl [(h0, .inr (2, [.int 0, .int 0, .ref k, .ref q]))] H := hP
  have hD : va_D A [(h0, .inr (2, [.int 0, .int 0, .ref k, .ref q]))] := hD
  have hP9 := hP.sub (ws' := [(h0, .inr (2, [.int 0, .int 0, .ref k, .ref q]))]) [0] rfl
  have hD9 := hD.sub (ws' := [(h0, .inr (2, [.int 0, .int 0, .ref k, .ref q]))]) [0] (by decide) rfl
  exact W.vret hx hb hr (fun t ht hW => ⟨⟨(), rfl, trivial, by rw [ht]; exact hP9, hD9⟩, hS.F ht⟩) hS.2.2 dX2_clear_10
set_option maxHeartbeats 4000000 in
set_option maxRecDepth 100000 in
theorem c_X2_takeFrom (l : Launch) (Z : gZ) (sz : Nat) (h0 : Nat) (v : Int32) (en : Int32) (k : Nat) (q : Nat) (h1 : Nat) (v1 : Int32) (en1 : Int32) (k1 : Nat) (q1 : Nat) (f : Nat → Int32) (g : Nat → Int32) (f1 : Nat → Int32) (g1 : Nat → Int32)  : Met l yX2_takeFrom wsX2_takeFrom ({ frames := 1, cells := 0, slots := 0, locals := 60 }) (va_Pc [.ref h0, .ref h1] (fun U => U.heap.size = sz ∧ va_P Z.1 vwCl [(h0, .inr (2, [.int v, .int en, .ref k, .ref q])), (k, .inl (Z.2 0, 8, .inl f)), (q, .inl (Z.2 0, 8, .inl g)), (h1, .inr (2, [.int v1, .int en1, .ref k1, .ref q1])), (k1, .inl (Z.2 0, 8, .inl f1)), (q1, .inl (Z.2 0, 8, .inl g1))] U.heap ∧ va_K Z.1 vwCl (gT Z) U ∧ va_D (fun _ => True) [(h0, .inr (2, [.int v, .int en, .ref k, .ref q])), (k, .inl (Z.2 0, 8, .inl f)), (q, .inl (Z.2 0, 8, .inl g)), (h1, .inr (2, [.int v1, .int en1, .ref k1, .ref q1])), (k1, .inl (Z.2 0, 8, .inl f1)), (q1, .inl (Z.2 0, 8, .inl g1))])) (va_Qv (fun (u : (Nat → Int32) × (Nat → Int32)) => match u with | (f2, g2) => True) (fun (u : (Nat → Int32) × (Nat → Int32)) (t : State) => match u with | (f2, g2) => va_P Z.1 vwCl [(h0, .inr (2, [.int v1, .int en1, .ref k, .ref q])), (k, .inl (Z.2 0, 8, .inl f2)), (q, .inl (Z.2 0, 8, .inl g2)), (h1, .inr (2, [.int v1, .int en1, .ref k1, .ref q1])), (k1, .inl (Z.2 0, 8, .inl f1)), (q1, .inl (Z.2 0, 8, .inl g1))] t.heap ∧ va_D (va_A [(h0, .inr (2, [.int v, .int en, .ref k, .ref q])), (k, .inl (Z.2 0, 8, .inl f)), (q, .inl (Z.2 0, 8, .inl g)), (h1, .inr (2, [.int v1, .int en1, .ref k1, .ref q1])), (k1, .inl (Z.2 0, 8, .inl f1)), (q1, .inl (Z.2 0, 8, .inl g1))] sz) [(h0, .inr (2, [.int v1, .int en1, .ref k, .ref q])), (k, .inl (Z.2 0, 8, .inl f2)), (q, .inl (Z.2 0, 8, .inl g2)), (h1, .inr (2, [.int v1, .int en1, .ref k1, .ref q1])), (k1, .inl (Z.2 0, 8, .inl f1)), (q1, .inl (Z.2 0, 8, .inl g1))]) (va_A [(h0, .inr (2, [.int v, .int en, .ref k, .ref q])), (k, .inl (Z.2 0, 8, .inl f)), (q, .inl (Z.2 0, 8, .inl g)), (h1, .inr (2, [.int v1, .int en1, .ref k1, .ref q1])), (k1, .inl (Z.2 0, 8, .inl f1)), (q1, .inl (Z.2 0, 8, .inl g1))] sz)) 0 0 (va_A [(h0, .inr (2, [.int v, .int en, .ref k, .ref q])), (k, .inl (Z.2 0, 8, .inl f)), (q, .inl (Z.2 0, 8, .inl g)), (h1, .inr (2, [.int v1, .int en1, .ref k1, .ref q1])), (k1, .inl (Z.2 0, 8, .inl f1)), (q1, .inl (Z.2 0, 8, .inl g1))] sz) := by
  refine Met.ofW (cc := cX2_takeFrom) (maxL := 2) (ret := none) (by decide) rfl ?_
  intro p e s m args below meth c s₁ B hml hv
  obtain ⟨rfl, hsz, hP, hK, hD0⟩ := hv
  have hx := B.exec
  have hb := B.bytes
  have hr := B.returns
  have hts := atoms_spec (ws := wsX2_takeFrom) B.pre
  have hown : s.vm.findClass RX2 = some m.cls := findClass_of_methodNamed B.named
  have hlocks := B.notSynchronized
  subst hsz
  have hin2 : ∀ w ∈ wsX20, w ∈ wsX2_takeFrom := by decide +kernel
  have hD := hD0.self (sz := s.heap.size)
  generalize hAe : va_A [(h0, .inr (2, [.int v, .int en, .ref k, .ref q])), (k, .inl (Z.2 0, 8, .inl f)), (q, .inl (Z.2 0, 8, .inl g)), (h1, .inr (2, [.int v1, .int en1, .ref k1, .ref q1])), (k1, .inl (Z.2 0, 8, .inl f1)), (q1, .inl (Z.2 0, 8, .inl g1))] s.heap.size = A at hD ⊢
  have hA : ∀ q : Nat, s.heap.size ≤ q → A q := fun q h => by rw [← hAe]; exact Or.inr h
  have hS : va_S A s.heap s.heap [] := va_S.rf
  have hP : va_P Z.1 vwCl [(h0, .inr (2, [.int v, .int en, .ref k, .ref q])), (k, .inl (Z.2 0, 8, .inl f)), (q, .inl (Z.2 0, 8, .inl g)), (h1, .inr (2, [.int v1, .int en1, .ref k1, .ref q1])), (k1, .inl (Z.2 0, 8, .inl f1)), (q1, .inl (Z.2 0, 8, .inl g1))] s.heap := hP
  have hl := lv_entry ([.ref h0, .ref h1]) (n := 2) (Nat.le_of_ble_eq_true rfl)
  rw [lg_entry_eq]
  generalize (lg_sl ([.ref h0, .ref h1]) ++ List.replicate (2 - (lg_sl ([.ref h0, .ref h1])).length) Slot.unset).toArray = ls at hl ⊢
  have hl : lv_has ls 2 [(0, .ref h0), (1, .ref h1)] := hl
  refine lv_aload_n hx hb dX2_takeFrom_0 rfl (lv_at hl 0 rfl) ?_
  refine lv_aload_n hx hb dX2_takeFrom_1 rfl (lv_at hl 1 rfl) ?_
  refine va_get (D := Z.1) (ci := 2) (v := .int v1) (C := RX2) (T := TX2) (N := 4) hx hb hts hin2 hown hK hP 3 rfl rfl 0 (by decide) (hts (.fieldLink RX2 9 "HalfAsked$Plan" "size" "I") (by decide +kernel)) (fun _ h9 => h9) rfl dX2_takeFrom_2 ?_
  refine va_put (D := Z.1) (ci := 2) (v := .int v1) (ty := .int) (C := RX2) (T := TX2) (N := 4) hx hb hts hin2 tyX2 tyX2_ok nmX2 hown hK hP hD hS 0 rfl rfl 0 (by decide) (hts (.fieldLink RX2 9 "HalfAsked$Plan" "size" "I") (by decide +kernel)) (fun _ h9 => h9) rfl (by decide +kernel) rfl rfl (Nat.le_of_ble_eq_true rfl) dX2_takeFrom_5 (fun H locs hP hD hS => ?_)
  have hP : va_P Z.1 vwCl [(h0, .inr (2, [.int v1, .int en, .ref k, .ref q])), (k, .inl (Z.2 0, 8, .inl f)), (q, .inl (Z.2 0, 8, .inl g)), (h1, .inr (2, [.int v1, .int en1, .ref k1, .ref q1])), (k1, .inl (Z.2 0, 8, .inl f1)), (q1, .inl (Z.2 0, 8, .inl g1))] H := hP
  have hD : va_D A [(h0, .inr (2, [.int v1, .int en, .ref k, .ref q])), (k, .inl (Z.2 0, 8, .inl f)), (q, .inl (Z.2 0, 8, .inl g)), (h1, .inr (2, [.int v1, .int en1, .ref k1, .ref q1])), (k1, .inl (Z.2 0, 8, .inl f1)), (q1, .inl (Z.2 0, 8, .inl g1))] := hD
  refine lv_aload_n hx hb dX2_takeFrom_8 rfl (lv_at hl 0 rfl) ?_
  refine lv_aload_n hx hb dX2_takeFrom_9 rfl (lv_at hl 1 rfl) ?_
  refine va_get (D := Z.1) (ci := 2) (v := .int en1) (C := RX2) (T := TX2) (N := 4) hx hb hts hin2 hown hK hP 3 rfl rfl 1 (by decide) (hts (.fieldLink RX2 15 "HalfAsked$Plan" "ends" "I") (by decide +kernel)) (fun _ h9 => h9) rfl dX2_takeFrom_10 ?_
  refine va_put (D := Z.1) (ci := 2) (v := .int en1) (ty := .int) (C := RX2) (T := TX2) (N := 4) hx hb hts hin2 tyX2 tyX2_ok nmX2 hown hK hP hD hS 0 rfl rfl 1 (by decide) (hts (.fieldLink RX2 15 "HalfAsked$Plan" "ends" "I") (by decide +kernel)) (fun _ h9 => h9) rfl (by decide +kernel) rfl rfl (Nat.le_of_ble_eq_true rfl) dX2_takeFrom_13 (fun H locs hP hD hS => ?_)
  have hP : va_P Z.1 vwCl [(h0, .inr (2, [.int v1, .int en1, .ref k, .ref q])), (k, .inl (Z.2 0, 8, .inl f)), (q, .inl (Z.2 0, 8, .inl g)), (h1, .inr (2, [.int v1, .int en1, .ref k1, .ref q1])), (k1, .inl (Z.2 0, 8, .inl f1)), (q1, .inl (Z.2 0, 8, .inl g1))] H := hP
  have hD : va_D A [(h0, .inr (2, [.int v1, .int en1, .ref k, .ref q])), (k, .inl (Z.2 0, 8, .inl f)), (q, .inl (Z.2 0, 8, .inl g)), (h1, .inr (2, [.int v1, .int en1, .ref k1, .ref q1])), (k1, .inl (Z.2 0, 8, .inl f1)), (q1, .inl (Z.2 0, 8, .inl g1))] := hD
  refine lv_aload_n hx hb dX2_takeFrom_16 rfl (lv_at hl 1 rfl) ?_
  refine va_get (D := Z.1) (ci := 2) (v := .ref k1) (C := RX2) (T := TX2) (N := 4) hx hb hts hin2 hown hK hP 3 rfl rfl 2 (by decide) (hts (.fieldLink RX2 18 "HalfAsked$Plan" "by" "[I") (by decide +kernel)) (fun _ h9 => h9) rfl dX2_takeFrom_17 ?_
  refine lv_iconst (v := 0) hx hb dX2_takeFrom_20 (by decide) ?_
  refine lv_aload_n hx hb dX2_takeFrom_21 rfl (lv_at hl 0 rfl) ?_
  refine va_get (D := Z.1) (ci := 2) (v := .ref k) (C := RX2) (T := TX2) (N := 4) hx hb hts hin2 hown hK hP 0 rfl rfl 2 (by decide) (hts (.fieldLink RX2 18 "HalfAsked$Plan" "by" "[I") (by decide +kernel)) (fun _ h9 => h9) rfl dX2_takeFrom_22 ?_
  refine lv_iconst (v := 0) hx hb dX2_takeFrom_25 (by decide) ?_
  refine lv_bipush (v := 8) hx hb dX2_takeFrom_26 (by decide) ?_
  refine va_copyi hx hb (hml.trans hl.1.symm) hown (hts (.methodLink RX2 25 arraycopyName) (by decide +kernel)) (hts (.native arraycopyName) (by decide +kernel)) (hts (.static arraycopyName) (by decide +kernel)) (hts (.initialized "java/lang/System") (by decide +kernel)) hK hP hD hS 4 1 0 0 rfl rfl rfl rfl rfl (by decide) (by decide) (by decide) (by decide) (by decide) (fun _ _ => rfl) (Nat.le_of_ble_eq_true rfl) (Nat.le_of_ble_eq_true rfl) dX2_takeFrom_28 (fun H locs hP hD hS => ?_)
  have hP : va_P Z.1 vwCl [(h0, .inr (2, [.int v1, .int en1, .ref k, .ref q])), (k, .inl (Z.2 0, 8, .inl (va_cpy f1 f 0 0 8))), (q, .inl (Z.2 0, 8, .inl g)), (h1, .inr (2, [.int v1, .int en1, .ref k1, .ref q1])), (k1, .inl (Z.2 0, 8, .inl f1)), (q1, .inl (Z.2 0, 8, .inl g1))] H := hP
  have hD : va_D A [(h0, .inr (2, [.int v1, .int en1, .ref k, .ref q])), (k, .inl (Z.2 0, 8, .inl (va_cpy f1 f 0 0 8))), (q, .inl (Z.2 0, 8, .inl g)), (h1, .inr (2, [.int v1, .int en1, .ref k1, .ref q1])), (k1, .inl (Z.2 0, 8, .inl f1)), (q1, .inl (Z.2 0, 8, .inl g1))] := hD
  generalize (va_cpy f1 f 0 0 8 : Nat → Int32) = g_1 at hP hD
  refine lv_aload_n hx hb dX2_takeFrom_31 rfl (lv_at hl 1 rfl) ?_
  refine va_get (D := Z.1) (ci := 2) (v := .ref q1) (C := RX2) (T := TX2) (N := 4) hx hb hts hin2 hown hK hP 3 rfl rfl 3 (by decide) (hts (.fieldLink RX2 22 "HalfAsked$Plan" "of" "[I") (by decide +kernel)) (fun _ h9 => h9) rfl dX2_takeFrom_32 ?_
  refine lv_iconst (v := 0) hx hb dX2_takeFrom_35 (by decide) ?_
  refine lv_aload_n hx hb dX2_takeFrom_36 rfl (lv_at hl 0 rfl) ?_
  refine va_get (D := Z.1) (ci := 2) (v := .ref q) (C := RX2) (T := TX2) (N := 4) hx hb hts hin2 hown hK hP 0 rfl rfl 3 (by decide) (hts (.fieldLink RX2 22 "HalfAsked$Plan" "of" "[I") (by decide +kernel)) (fun _ h9 => h9) rfl dX2_takeFrom_37 ?_
  refine lv_iconst (v := 0) hx hb dX2_takeFrom_40 (by decide) ?_
  refine lv_bipush (v := 8) hx hb dX2_takeFrom_41 (by decide) ?_
  refine va_copyi hx hb (hml.trans hl.1.symm) hown (hts (.methodLink RX2 25 arraycopyName) (by decide +kernel)) (hts (.native arraycopyName) (by decide +kernel)) (hts (.static arraycopyName) (by decide +kernel)) (hts (.initialized "java/lang/System") (by decide +kernel)) hK hP hD hS 5 2 0 0 rfl rfl rfl rfl rfl (by decide) (by decide) (by decide) (by decide) (by decide) (fun _ _ => rfl) (Nat.le_of_ble_eq_true rfl) (Nat.le_of_ble_eq_true rfl) dX2_takeFrom_43 (fun H locs hP hD hS => ?_)
  have hP : va_P Z.1 vwCl [(h0, .inr (2, [.int v1, .int en1, .ref k, .ref q])), (k, .inl (Z.2 0, 8, .inl g_1)), (q, .inl (Z.2 0, 8, .inl (va_cpy g1 g 0 0 8))), (h1, .inr (2, [.int v1, .int en1, .ref k1, .ref q1])), (k1, .inl (Z.2 0, 8, .inl f1)), (q1, .inl (Z.2 0, 8, .inl g1))] H := hP
  have hD : va_D A [(h0, .inr (2, [.int v1, .int en1, .ref k, .ref q])), (k, .inl (Z.2 0, 8, .inl g_1)), (q, .inl (Z.2 0, 8, .inl (va_cpy g1 g 0 0 8))), (h1, .inr (2, [.int v1, .int en1, .ref k1, .ref q1])), (k1, .inl (Z.2 0, 8, .inl f1)), (q1, .inl (Z.2 0, 8, .inl g1))] := hD
  generalize (va_cpy g1 g 0 0 8 : Nat → Int32) = g_2 at hP hD
  have hP9 := hP.sub (ws' := [(h0, .inr (2, [.int v1, .int en1, .ref k, .ref q])), (k, .inl (Z.2 0, 8, .inl g_1)), (q, .inl (Z.2 0, 8, .inl g_2)), (h1, .inr (2, [.int v1, .int en1, .ref k1, .ref q1])), (k1, .inl (Z.2 0, 8, .inl f1)), (q1, .inl (Z.2 0, 8, .inl g1))]) [0, 1, 2, 3, 4, 5] rfl
  have hD9 := hD.sub (ws' := [(h0, .inr (2, [.int v1, .int en1, .ref k, .ref q])), (k, .inl (Z.2 0, 8, .inl g_1)), (q, .inl (Z.2 0, 8, .inl g_2)), (h1, .inr (2, [.int v1, .int en1, .ref k1, .ref q1])), (k1, .inl (Z.2 0, 8, .inl f1)), (q1, .inl (Z.2 0, 8, .inl g1))]) [0, 1, 2, 3, 4, 5] (by decide) rfl
  exact W.vret hx hb hr (fun t ht hW => ⟨⟨(g_1, g_2), rfl, trivial, by rw [ht]; exact hP9, hD9⟩, hS.F ht⟩) hS.2.2 dX2_takeFrom_46
set_option maxHeartbeats 4000000 in
set_option maxRecDepth 100000 in
theorem c_J6_bitCount_0f7a4 (l : Launch) (Z : gZ) (sz : Nat)   : Met l yJ6_bitCount_0f7a4 wsJ6_bitCount_0f7a4 ({ frames := 0, cells := 0, slots := 0, locals := 0 }) (va_Pc [.int 0] (fun U => U.heap.size = sz ∧ va_P Z.1 vwCl [] U.heap ∧ va_K Z.1 vwCl (gT Z) U ∧ va_D (fun _ => True) [])) (va_Qi (fun (r : Int32) (u : Unit) => r = 0) (fun (u : Unit) (t : State) => True) (va_A [] sz)) 0 0 (va_A [] sz) := by
  refine Met.ofW (cc := cJ6_bitCount_0f7a4) (maxL := 1) (ret := (some .int)) (by decide) rfl ?_
  intro p e s m args below meth c s₁ B hml hv
  obtain ⟨rfl, hsz, hP, hK, hD0⟩ := hv
  have hx := B.exec
  have hb := B.bytes
  have hr := B.returns
  have hts := atoms_spec (ws := wsJ6_bitCount_0f7a4) B.pre
  have hown : s.vm.findClass RJ6 = some m.cls := findClass_of_methodNamed B.named
  have hlocks := B.notSynchronized
  subst hsz
  have hD := hD0.self (sz := s.heap.size)
  generalize hAe : va_A [] s.heap.size = A at hD ⊢
  have hA : ∀ q : Nat, s.heap.size ≤ q → A q := fun q h => by rw [← hAe]; exact Or.inr h
  have hS : va_S A s.heap s.heap [] := va_S.rf
  have hP : va_P Z.1 vwCl [] s.heap := hP
  have hl := lv_entry ([.int 0]) (n := 1) (Nat.le_of_ble_eq_true rfl)
  rw [lg_entry_eq]
  generalize (lg_sl ([.int 0]) ++ List.replicate (1 - (lg_sl ([.int 0])).length) Slot.unset).toArray = ls at hl ⊢
  have hl : lv_has ls 1 [(0, .int 0)] := hl
  refine lv_iload_n hx hb dJ6_bitCount_0f7a4_0 rfl (lv_at hl 0 rfl) ?_
  refine lv_iload_n hx hb dJ6_bitCount_0f7a4_1 rfl (lv_at hl 0 rfl) ?_
  refine lv_iconst (v := 1) hx hb dJ6_bitCount_0f7a4_2 (by decide) ?_
  refine lv_iushr hx hb dJ6_bitCount_0f7a4_3 rfl ?_
  refine lv_topi (fun f_1 ef_1 => ?_)
  obtain rfl : f_1 = 0 := ef_1.trans (by decide)
  refine lv_ldcw (v := 1431655765) hx hb hown (hts (.constant RJ6 265 (1431655765)) (by decide +kernel)) dJ6_bitCount_0f7a4_4 ?_
  refine lv_iand hx hb dJ6_bitCount_0f7a4_7 ?_
  refine lv_topi (fun f_2 ef_2 => ?_)
  obtain rfl : f_2 = 0 := ef_2.trans (by decide)
  refine lv_isub hx hb dJ6_bitCount_0f7a4_8 ?_
  refine lv_topi (fun f_3 ef_3 => ?_)
  obtain rfl : f_3 = 0 := ef_3.trans (by decide)
  refine lv_istore_n (lv' := [(0, .int 0)]) hx hb dJ6_bitCount_0f7a4_9 rfl hl (by decide) rfl (fun ls hl => ?_)
  refine lv_iload_n hx hb dJ6_bitCount_0f7a4_10 rfl (lv_at hl 0 rfl) ?_
  refine lv_ldcw (v := 858993459) hx hb hown (hts (.constant RJ6 266 (858993459)) (by decide +kernel)) dJ6_bitCount_0f7a4_11 ?_
  refine lv_iand hx hb dJ6_bitCount_0f7a4_14 ?_
  refine lv_topi (fun f_4 ef_4 => ?_)
  obtain rfl : f_4 = 0 := ef_4.trans (by decide)
  refine lv_iload_n hx hb dJ6_bitCount_0f7a4_15 rfl (lv_at hl 0 rfl) ?_
  refine lv_iconst (v := 2) hx hb dJ6_bitCount_0f7a4_16 (by decide) ?_
  refine lv_iushr hx hb dJ6_bitCount_0f7a4_17 rfl ?_
  refine lv_topi (fun f_5 ef_5 => ?_)
  obtain rfl : f_5 = 0 := ef_5.trans (by decide)
  refine lv_ldcw (v := 858993459) hx hb hown (hts (.constant RJ6 266 (858993459)) (by decide +kernel)) dJ6_bitCount_0f7a4_18 ?_
  refine lv_iand hx hb dJ6_bitCount_0f7a4_21 ?_
  refine lv_topi (fun f_6 ef_6 => ?_)
  obtain rfl : f_6 = 0 := ef_6.trans (by decide)
  refine lv_iadd hx hb dJ6_bitCount_0f7a4_22 ?_
  refine lv_topi (fun f_7 ef_7 => ?_)
  obtain rfl : f_7 = 0 := ef_7.trans (by decide)
  refine lv_istore_n (lv' := [(0, .int 0)]) hx hb dJ6_bitCount_0f7a4_23 rfl hl (by decide) rfl (fun ls hl => ?_)
  refine lv_iload_n hx hb dJ6_bitCount_0f7a4_24 rfl (lv_at hl 0 rfl) ?_
  refine lv_iload_n hx hb dJ6_bitCount_0f7a4_25 rfl (lv_at hl 0 rfl) ?_
  refine lv_iconst (v := 4) hx hb dJ6_bitCount_0f7a4_26 (by decide) ?_
  refine lv_iushr hx hb dJ6_bitCount_0f7a4_27 rfl ?_
  refine lv_topi (fun f_8 ef_8 => ?_)
  obtain rfl : f_8 = 0 := ef_8.trans (by decide)
  refine lv_iadd hx hb dJ6_bitCount_0f7a4_28 ?_
  refine lv_topi (fun f_9 ef_9 => ?_)
  obtain rfl : f_9 = 0 := ef_9.trans (by decide)
  refine lv_ldcw (v := 252645135) hx hb hown (hts (.constant RJ6 267 (252645135)) (by decide +kernel)) dJ6_bitCount_0f7a4_29 ?_
  refine lv_iand hx hb dJ6_bitCount_0f7a4_32 ?_
  refine lv_topi (fun f_10 ef_10 => ?_)
  obtain rfl : f_10 = 0 := ef_10.trans (by decide)
  refine lv_istore_n (lv' := [(0, .int 0)]) hx hb dJ6_bitCount_0f7a4_33 rfl hl (by decide) rfl (fun ls hl => ?_)
  refine lv_iload_n hx hb dJ6_bitCount_0f7a4_34 rfl (lv_at hl 0 rfl) ?_
  refine lv_iload_n hx hb dJ6_bitCount_0f7a4_35 rfl (lv_at hl 0 rfl) ?_
  refine lv_bipush (v := 8) hx hb dJ6_bitCount_0f7a4_36 (by decide) ?_
  refine lv_iushr hx hb dJ6_bitCount_0f7a4_38 rfl ?_
  refine lv_topi (fun f_11 ef_11 => ?_)
  obtain rfl : f_11 = 0 := ef_11.trans (by decide)
  refine lv_iadd hx hb dJ6_bitCount_0f7a4_39 ?_
  refine lv_topi (fun f_12 ef_12 => ?_)
  obtain rfl : f_12 = 0 := ef_12.trans (by decide)
  refine lv_istore_n (lv' := [(0, .int 0)]) hx hb dJ6_bitCount_0f7a4_40 rfl hl (by decide) rfl (fun ls hl => ?_)
  refine lv_iload_n hx hb dJ6_bitCount_0f7a4_41 rfl (lv_at hl 0 rfl) ?_
  refine lv_iload_n hx hb dJ6_bitCount_0f7a4_42 rfl (lv_at hl 0 rfl) ?_
  refine lv_bipush (v := 16) hx hb dJ6_bitCount_0f7a4_43 (by decide) ?_
  refine lv_iushr hx hb dJ6_bitCount_0f7a4_45 rfl ?_
  refine lv_topi (fun f_13 ef_13 => ?_)
  obtain rfl : f_13 = 0 := ef_13.trans (by decide)
  refine lv_iadd hx hb dJ6_bitCount_0f7a4_46 ?_
  refine lv_topi (fun f_14 ef_14 => ?_)
  obtain rfl : f_14 = 0 := ef_14.trans (by decide)
  refine lv_istore_n (lv' := [(0, .int 0)]) hx hb dJ6_bitCount_0f7a4_47 rfl hl (by decide) rfl (fun ls hl => ?_)
  refine lv_iload_n hx hb dJ6_bitCount_0f7a4_48 rfl (lv_at hl 0 rfl) ?_
  refine lv_bipush (v := 63) hx hb dJ6_bitCount_0f7a4_49 (by decide) ?_
  refine lv_iand hx hb dJ6_bitCount_0f7a4_51 ?_
  refine lv_topi (fun f_15 ef_15 => ?_)
  obtain rfl : f_15 = 0 := ef_15.trans (by decide)
  exact W.iret (v := 0) hx hb hr (fun t ht hW => ⟨⟨0, (), rfl, rfl, trivial⟩, hS.F ht⟩) hS.2.2 dJ6_bitCount_0f7a4_52
set_option maxHeartbeats 4000000 in
set_option maxRecDepth 100000 in
theorem c_X0_askings (l : Launch) (Z : gZ) (sz : Nat) (h0 : Nat) (v : Int32) (kn : Int32) (k : Nat) (q : Nat)  : Met l yX0_askings wsX0_askings ({ frames := 1, cells := 0, slots := 0, locals := 20 }) (va_Pc [.ref h0] (fun U => U.heap.size = sz ∧ va_P Z.1 vwCl [(h0, .inr (0, [.int v, .int kn, .int 0, .ref k, .ref q]))] U.heap ∧ va_K Z.1 vwCl (gT Z) U ∧ va_D (fun _ => True) [(h0, .inr (0, [.int v, .int kn, .int 0, .ref k, .ref q]))])) (va_Qi (fun (r : Int32) (u : Unit) => r = 0) (fun (u : Unit) (t : State) => va_P Z.1 vwCl [(h0, .inr (0, [.int v, .int kn, .int 0, .ref k, .ref q]))] t.heap ∧ va_D (va_A [(h0, .inr (0, [.int v, .int kn, .int 0, .ref k, .ref q]))] sz) [(h0, .inr (0, [.int v, .int kn, .int 0, .ref k, .ref q]))]) (va_A [(h0, .inr (0, [.int v, .int kn, .int 0, .ref k, .ref q]))] sz)) 0 0 (va_A [(h0, .inr (0, [.int v, .int kn, .int 0, .ref k, .ref q]))] sz) := by
  refine Met.ofW (cc := cX0_askings) (maxL := 1) (ret := (some .int)) (by decide) rfl ?_
  intro p e s m args below meth c s₁ B hml hv
  obtain ⟨rfl, hsz, hP, hK, hD0⟩ := hv
  have hx := B.exec
  have hb := B.bytes
  have hr := B.returns
  have hts := atoms_spec (ws := wsX0_askings) B.pre
  have hown : s.vm.findClass RX0 = some m.cls := findClass_of_methodNamed B.named
  have hlocks := B.notSynchronized
  subst hsz
  have hin0 : ∀ w ∈ wsX00, w ∈ wsX0_askings := by decide +kernel
  have hD := hD0.self (sz := s.heap.size)
  generalize hAe : va_A [(h0, .inr (0, [.int v, .int kn, .int 0, .ref k, .ref q]))] s.heap.size = A at hD ⊢
  have hA : ∀ q : Nat, s.heap.size ≤ q → A q := fun q h => by rw [← hAe]; exact Or.inr h
  have hS : va_S A s.heap s.heap [] := va_S.rf
  have hP : va_P Z.1 vwCl [(h0, .inr (0, [.int v, .int kn, .int 0, .ref k, .ref q]))] s.heap := hP
  have hl := lv_entry ([.ref h0]) (n := 1) (Nat.le_of_ble_eq_true rfl)
  rw [lg_entry_eq]
  generalize (lg_sl ([.ref h0]) ++ List.replicate (1 - (lg_sl ([.ref h0])).length) Slot.unset).toArray = ls at hl ⊢
  have hl : lv_has ls 1 [(0, .ref h0)] := hl
  refine lv_aload_n hx hb dX0_askings_0 rfl (lv_at hl 0 rfl) ?_
  refine va_get (D := Z.1) (ci := 0) (v := .int 0) (C := RX0) (T := TX0) (N := 5) hx hb hts hin0 hown hK hP 0 rfl rfl 2 (by decide) (hts (.fieldLink RX0 19 "HalfAsked$Folk" "asked" "I") (by decide +kernel)) (fun _ h9 => h9) rfl dX0_askings_1 ?_
  have hPc := hP.sub (ws' := []) [] rfl
  have hDc := hD.sub (ws' := []) [] (by decide) rfl
  have hFc := va_free (wc := []) hD hS hA [] rfl
  refine va_calli (va_runS (As := [.int 0]) (rest := []) ⟨hx, hb, hml, hown, hts⟩ (c_J6_bitCount_0f7a4 l Z s.heap.size ) (va_cwS 1 hts gX0_askings_J6_bitCount_0f7a4 rfl rfl rfl (by decide +kernel) ⟨Nat.le_of_ble_eq_true rfl, Nat.le_of_ble_eq_true rfl⟩) ⟨fun a U g mk q => by obtain ⟨q0, q1, qP, qK, qD⟩ := q; exact ⟨q0, q1, qP, va_K.moved (u := U) (U := U.calling g mk a) (Vm.Alike.refl U.vm) qK, qD⟩, fun U hU hW => ⟨rfl, by rw [hU], by rw [hU]; exact hPc, va_K.moved hW.alike hK, hDc.weaken (fun _ _ _ _ => trivial)⟩⟩ rfl rfl hl.1 rfl (lv_room (Nat.le_of_ble_eq_true rfl)) dX0_askings_4 ⟨Nat.le_of_ble_eq_true rfl, Nat.le_of_ble_eq_true rfl⟩) hS (fun q _ h => hFc q h) hFc (fun r_1 u t H1 locs ht hvm hw hB hz1 hk1 hS => ?_)
  subst hw
  have hP1 : va_P Z.1 vwCl [] H1 := fun k q h => by simp at h
  have hD1 : va_D (va_A [] s.heap.size) [] := ⟨fun i j p q h => by simp at h, fun k q h => by simp at h⟩
  obtain ⟨hP, hD⟩ := va_join (wr := [(h0, .inr (0, [.int v, .int kn, .int 0, .ref k, .ref q]))]) (w1 := []) hP hD [] [0] rfl rfl (by decide) (by decide) hk1 hFc hP1 hD1
  clear hPc hDc hP1 hD1 hk1 hz1 hFc ht hvm
  generalize H1 = H at hP hS ⊢
  have hP : va_P Z.1 vwCl [(h0, .inr (0, [.int v, .int kn, .int 0, .ref k, .ref q]))] H := hP
  have hD : va_D A [(h0, .inr (0, [.int v, .int kn, .int 0, .ref k, .ref q]))] := hD
  have hP9 := hP.sub (ws' := [(h0, .inr (0, [.int v, .int kn, .int 0, .ref k, .ref q]))]) [0] rfl
  have hD9 := hD.sub (ws' := [(h0, .inr (0, [.int v, .int kn, .int 0, .ref k, .ref q]))]) [0] (by decide) rfl
  exact W.iret (v := 0) hx hb hr (fun t ht hW => ⟨⟨0, (), rfl, rfl, by rw [ht]; exact hP9, hD9⟩, hS.F ht⟩) hS.2.2 dX0_askings_7
set_option maxHeartbeats 4000000 in
set_option maxRecDepth 100000 in
theorem c_X0_penceOfAll (l : Launch) (Z : gZ) (sz : Nat) (h0 : Nat) (kn : Int32) (ak : Int32) (k : Nat) (q : Nat)  : Met l yX0_penceOfAll wsX0_penceOfAll ({ frames := 0, cells := 0, slots := 0, locals := 0 }) (va_Pc [.ref h0] (fun U => U.heap.size = sz ∧ va_P Z.1 vwCl [(h0, .inr (0, [.int 0, .int kn, .int ak, .ref k, .ref q]))] U.heap ∧ va_K Z.1 vwCl (gT Z) U ∧ va_D (fun _ => True) [(h0, .inr (0, [.int 0, .int kn, .int ak, .ref k, .ref q]))])) (va_Qi (fun (r : Int32) (u : Unit) => r = 0) (fun (u : Unit) (t : State) => va_P Z.1 vwCl [(h0, .inr (0, [.int 0, .int kn, .int ak, .ref k, .ref q]))] t.heap ∧ va_D (va_A [(h0, .inr (0, [.int 0, .int kn, .int ak, .ref k, .ref q]))] sz) [(h0, .inr (0, [.int 0, .int kn, .int ak, .ref k, .ref q]))]) (va_A [(h0, .inr (0, [.int 0, .int kn, .int ak, .ref k, .ref q]))] sz)) 0 0 (va_A [(h0, .inr (0, [.int 0, .int kn, .int ak, .ref k, .ref q]))] sz) := by
  refine Met.ofW (cc := cX0_penceOfAll) (maxL := 3) (ret := (some .int)) (by decide) rfl ?_
  intro p e s m args below meth c s₁ B hml hv
  obtain ⟨rfl, hsz, hP, hK, hD0⟩ := hv
  have hx := B.exec
  have hb := B.bytes
  have hr := B.returns
  have hts := atoms_spec (ws := wsX0_penceOfAll) B.pre
  have hown : s.vm.findClass RX0 = some m.cls := findClass_of_methodNamed B.named
  have hlocks := B.notSynchronized
  subst hsz
  have hin0 : ∀ w ∈ wsX00, w ∈ wsX0_penceOfAll := by decide +kernel
  have hD := hD0.self (sz := s.heap.size)
  generalize hAe : va_A [(h0, .inr (0, [.int 0, .int kn, .int ak, .ref k, .ref q]))] s.heap.size = A at hD ⊢
  have hA : ∀ q : Nat, s.heap.size ≤ q → A q := fun q h => by rw [← hAe]; exact Or.inr h
  have hS : va_S A s.heap s.heap [] := va_S.rf
  have hP : va_P Z.1 vwCl [(h0, .inr (0, [.int 0, .int kn, .int ak, .ref k, .ref q]))] s.heap := hP
  have hl := lv_entry ([.ref h0]) (n := 3) (Nat.le_of_ble_eq_true rfl)
  rw [lg_entry_eq]
  generalize (lg_sl ([.ref h0]) ++ List.replicate (3 - (lg_sl ([.ref h0])).length) Slot.unset).toArray = ls at hl ⊢
  have hl : lv_has ls 3 [(0, .ref h0)] := hl
  refine lv_iconst (v := 0) hx hb dX0_penceOfAll_0 (by decide) ?_
  refine lv_istore_n (lv' := [(1, .int 0), (0, .ref h0)]) hx hb dX0_penceOfAll_1 rfl hl (by decide) rfl (fun ls hl => ?_)
  refine lv_iconst (v := 0) hx hb dX0_penceOfAll_2 (by decide) ?_
  refine lv_istore_n (lv' := [(2, .int 0), (1, .int 0), (0, .ref h0)]) hx hb dX0_penceOfAll_3 rfl hl (by decide) rfl (fun ls hl => ?_)
  refine lv_iload_n hx hb dX0_penceOfAll_4 rfl (lv_at hl 0 rfl) ?_
  refine lv_aload_n hx hb dX0_penceOfAll_5 rfl (lv_at hl 2 rfl) ?_
  refine va_get (D := Z.1) (ci := 0) (v := .int 0) (C := RX0) (T := TX0) (N := 5) hx hb hts hin0 hown hK hP 0 rfl rfl 0 (by decide) (hts (.fieldLink RX0 9 "HalfAsked$Folk" "size" "I") (by decide +kernel)) (fun _ h9 => h9) rfl dX0_penceOfAll_6 ?_
  refine lv_icmp_ge (tgt := 27) hx hb dX0_penceOfAll_9 (by decide) (fun _ => ?_) (fun c9 => absurd c9 (by decide))
  refine lv_iload_n hx hb dX0_penceOfAll_27 rfl (lv_at hl 1 rfl) ?_
  have hP9 := hP.sub (ws' := [(h0, .inr (0, [.int 0, .int kn, .int ak, .ref k, .ref q]))]) [0] rfl
  have hD9 := hD.sub (ws' := [(h0, .inr (0, [.int 0, .int kn, .int ak, .ref k, .ref q]))]) [0] (by decide) rfl
  exact W.iret (v := 0) hx hb hr (fun t ht hW => ⟨⟨0, (), rfl, rfl, by rw [ht]; exact hP9, hD9⟩, hS.F ht⟩) hS.2.2 dX0_penceOfAll_28
set_option maxHeartbeats 4000000 in
set_option maxRecDepth 100000 in
theorem c_X8_forgetFound (l : Launch) (Z : gZ) (sz : Nat) (h0 : Nat) (a1 : Nat) (a2 : Nat) (a3 : Nat) (a4 : Nat) (a5 : Nat) (a6 : Nat) (a7 : Nat) (a8 : Nat) (a9 : Nat) (a10 : Nat) (a11 : Nat) (a12 : Nat) (a13 : Nat) (kp : Int32) (tf : Int32) (tu : Int32) (od : Int32)  : Met l yX8_forgetFound wsX8_forgetFound ({ frames := 0, cells := 0, slots := 0, locals := 0 }) (va_Pc [.ref h0] (fun U => U.heap.size = sz ∧ va_P Z.1 vwCl [(h0, .inr (8, [.ref a1, .ref a2, .ref a3, .ref a4, .ref a5, .int kp, .ref a6, .ref a7, .ref a8, .ref a9, .ref a10, .ref a11, .ref a12, .ref a13, .int tf, .int tu, .int od]))] U.heap ∧ va_K Z.1 vwCl (gT Z) U ∧ va_D (fun _ => True) [(h0, .inr (8, [.ref a1, .ref a2, .ref a3, .ref a4, .ref a5, .int kp, .ref a6, .ref a7, .ref a8, .ref a9, .ref a10, .ref a11, .ref a12, .ref a13, .int tf, .int tu, .int od]))])) (va_Qv (fun (u : Unit) => True) (fun (u : Unit) (t : State) => va_P Z.1 vwCl [(h0, .inr (8, [.ref a1, .ref a2, .ref a3, .ref a4, .ref a5, .int kp, .ref a6, .ref a7, .ref a8, .ref a9, .ref a10, .ref a11, .ref a12, .ref a13, .int 9, .int 0, .int 0]))] t.heap ∧ va_D (va_A [(h0, .inr (8, [.ref a1, .ref a2, .ref a3, .ref a4, .ref a5, .int kp, .ref a6, .ref a7, .ref a8, .ref a9, .ref a10, .ref a11, .ref a12, .ref a13, .int tf, .int tu, .int od]))] sz) [(h0, .inr (8, [.ref a1, .ref a2, .ref a3, .ref a4, .ref a5, .int kp, .ref a6, .ref a7, .ref a8, .ref a9, .ref a10, .ref a11, .ref a12, .ref a13, .int 9, .int 0, .int 0]))]) (va_A [(h0, .inr (8, [.ref a1, .ref a2, .ref a3, .ref a4, .ref a5, .int kp, .ref a6, .ref a7, .ref a8, .ref a9, .ref a10, .ref a11, .ref a12, .ref a13, .int tf, .int tu, .int od]))] sz)) 0 0 (va_A [(h0, .inr (8, [.ref a1, .ref a2, .ref a3, .ref a4, .ref a5, .int kp, .ref a6, .ref a7, .ref a8, .ref a9, .ref a10, .ref a11, .ref a12, .ref a13, .int tf, .int tu, .int od]))] sz) := by
  refine Met.ofW (cc := cX8_forgetFound) (maxL := 1) (ret := none) (by decide) rfl ?_
  intro p e s m args below meth c s₁ B hml hv
  obtain ⟨rfl, hsz, hP, hK, hD0⟩ := hv
  have hx := B.exec
  have hb := B.bytes
  have hr := B.returns
  have hts := atoms_spec (ws := wsX8_forgetFound) B.pre
  have hown : s.vm.findClass RX8 = some m.cls := findClass_of_methodNamed B.named
  have hlocks := B.notSynchronized
  subst hsz
  have hin8 : ∀ w ∈ wsX80, w ∈ wsX8_forgetFound := by decide +kernel
  have hD := hD0.self (sz := s.heap.size)
  generalize hAe : va_A [(h0, .inr (8, [.ref a1, .ref a2, .ref a3, .ref a4, .ref a5, .int kp, .ref a6, .ref a7, .ref a8, .ref a9, .ref a10, .ref a11, .ref a12, .ref a13, .int tf, .int tu, .int od]))] s.heap.size = A at hD ⊢
  have hA : ∀ q : Nat, s.heap.size ≤ q → A q := fun q h => by rw [← hAe]; exact Or.inr h
  have hS : va_S A s.heap s.heap [] := va_S.rf
  have hP : va_P Z.1 vwCl [(h0, .inr (8, [.ref a1, .ref a2, .ref a3, .ref a4, .ref a5, .int kp, .ref a6, .ref a7, .ref a8, .ref a9, .ref a10, .ref a11, .ref a12, .ref a13, .int tf, .int tu, .int od]))] s.heap := hP
  have hl := lv_entry ([.ref h0]) (n := 1) (Nat.le_of_ble_eq_true rfl)
  rw [lg_entry_eq]
  generalize (lg_sl ([.ref h0]) ++ List.replicate (1 - (lg_sl ([.ref h0])).length) Slot.unset).toArray = ls at hl ⊢
  have hl : lv_has ls 1 [(0, .ref h0)] := hl
  refine lv_aload_n hx hb dX8_forgetFound_0 rfl (lv_at hl 0 rfl) ?_
  refine lv_bipush (v := 9) hx hb dX8_forgetFound_1 (by decide) ?_
  refine va_put (D := Z.1) (ci := 8) (v := .int 9) (ty := .int) (C := RX8) (T := TX8) (N := 17) hx hb hts hin8 tyX8 tyX8_ok nmX8 hown hK hP hD hS 0 rfl rfl 14 (by decide) (hts (.fieldLink RX8 84 "HalfAsked" "timedFor" "I") (by decide +kernel)) (fun _ h9 => h9) rfl (by decide +kernel) rfl rfl (Nat.le_of_ble_eq_true rfl) dX8_forgetFound_3 (fun H locs hP hD hS => ?_)
  have hP : va_P Z.1 vwCl [(h0, .inr (8, [.ref a1, .ref a2, .ref a3, .ref a4, .ref a5, .int kp, .ref a6, .ref a7, .ref a8, .ref a9, .ref a10, .ref a11, .ref a12, .ref a13, .int 9, .int tu, .int od]))] H := hP
  have hD : va_D A [(h0, .inr (8, [.ref a1, .ref a2, .ref a3, .ref a4, .ref a5, .int kp, .ref a6, .ref a7, .ref a8, .ref a9, .ref a10, .ref a11, .ref a12, .ref a13, .int 9, .int tu, .int od]))] := hD
  refine lv_aload_n hx hb dX8_forgetFound_6 rfl (lv_at hl 0 rfl) ?_
  refine lv_iconst (v := 0) hx hb dX8_forgetFound_7 (by decide) ?_
  refine va_put (D := Z.1) (ci := 8) (v := .int 0) (ty := .boolean) (C := RX8) (T := TX8) (N := 17) hx hb hts hin8 tyX8 tyX8_ok nmX8 hown hK hP hD hS 0 rfl rfl 15 (by decide) (hts (.fieldLink RX8 88 "HalfAsked" "turned" "Z") (by decide +kernel)) (fun _ h9 => h9) rfl (by decide +kernel) rfl rfl (Nat.le_of_ble_eq_true rfl) dX8_forgetFound_8 (fun H locs hP hD hS => ?_)
  have hP : va_P Z.1 vwCl [(h0, .inr (8, [.ref a1, .ref a2, .ref a3, .ref a4, .ref a5, .int kp, .ref a6, .ref a7, .ref a8, .ref a9, .ref a10, .ref a11, .ref a12, .ref a13, .int 9, .int 0, .int od]))] H := hP
  have hD : va_D A [(h0, .inr (8, [.ref a1, .ref a2, .ref a3, .ref a4, .ref a5, .int kp, .ref a6, .ref a7, .ref a8, .ref a9, .ref a10, .ref a11, .ref a12, .ref a13, .int 9, .int 0, .int od]))] := hD
  refine lv_aload_n hx hb dX8_forgetFound_11 rfl (lv_at hl 0 rfl) ?_
  refine lv_iconst (v := 0) hx hb dX8_forgetFound_12 (by decide) ?_
  refine va_put (D := Z.1) (ci := 8) (v := .int 0) (ty := .boolean) (C := RX8) (T := TX8) (N := 17) hx hb hts hin8 tyX8 tyX8_ok nmX8 hown hK hP hD hS 0 rfl rfl 16 (by decide) (hts (.fieldLink RX8 91 "HalfAsked" "ordered" "Z") (by decide +kernel)) (fun _ h9 => h9) rfl (by decide +kernel) rfl rfl (Nat.le_of_ble_eq_true rfl) dX8_forgetFound_13 (fun H locs hP hD hS => ?_)
  have hP : va_P Z.1 vwCl [(h0, .inr (8, [.ref a1, .ref a2, .ref a3, .ref a4, .ref a5, .int kp, .ref a6, .ref a7, .ref a8, .ref a9, .ref a10, .ref a11, .ref a12, .ref a13, .int 9, .int 0, .int 0]))] H := hP
  have hD : va_D A [(h0, .inr (8, [.ref a1, .ref a2, .ref a3, .ref a4, .ref a5, .int kp, .ref a6, .ref a7, .ref a8, .ref a9, .ref a10, .ref a11, .ref a12, .ref a13, .int 9, .int 0, .int 0]))] := hD
  have hP9 := hP.sub (ws' := [(h0, .inr (8, [.ref a1, .ref a2, .ref a3, .ref a4, .ref a5, .int kp, .ref a6, .ref a7, .ref a8, .ref a9, .ref a10, .ref a11, .ref a12, .ref a13, .int 9, .int 0, .int 0]))]) [0] rfl
  have hD9 := hD.sub (ws' := [(h0, .inr (8, [.ref a1, .ref a2, .ref a3, .ref a4, .ref a5, .int kp, .ref a6, .ref a7, .ref a8, .ref a9, .ref a10, .ref a11, .ref a12, .ref a13, .int 9, .int 0, .int 0]))]) [0] (by decide) rfl
  exact W.vret hx hb hr (fun t ht hW => ⟨⟨(), rfl, trivial, by rw [ht]; exact hP9, hD9⟩, hS.F ht⟩) hS.2.2 dX8_forgetFound_16
