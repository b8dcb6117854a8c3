theorem z_in4 {a : Int32} (h : ¬ (if a.toInt64 < 0 then (0 : Int32) else (if 3 < a.toInt64 then (0 : Int32) else (1 : Int32))) = 0) : 0 ≤ a.toInt ∧ a.toInt < 4 := by
  by_cases h1 : a.toInt64 < 0
  · exact absurd (if_pos h1) h
  · by_cases h2 : 3 < a.toInt64
    · exact absurd (by rw [if_neg h1, if_pos h2]) h
    · rw [Int64.lt_iff_toInt_lt] at h1 h2
      have e0 : (0 : Int64).toInt = 0 := by decide
      have e3 : (3 : Int64).toInt = 3 := by decide
      rw [Int32.toInt_toInt64] at h1 h2
      omega
theorem z_in3 {a : Int32} (h : ¬ (if a.toInt64 < 0 then (0 : Int32) else (if 2 < a.toInt64 then (0 : Int32) else (1 : Int32))) = 0) : 0 ≤ a.toInt ∧ a.toInt < 3 := by
  by_cases h1 : a.toInt64 < 0
  · exact absurd (if_pos h1) h
  · by_cases h2 : 2 < a.toInt64
    · exact absurd (by rw [if_neg h1, if_pos h2]) h
    · rw [Int64.lt_iff_toInt_lt] at h1 h2
      have e0 : (0 : Int64).toInt = 0 := by decide
      have e3 : (2 : Int64).toInt = 2 := by decide
      rw [Int32.toInt_toInt64] at h1 h2
      omega
theorem z_ms {a b : Int32} (h : ¬ (if (if a.toInt64 < 0 then (0 : Int32) else (if 3 < a.toInt64 then (0 : Int32) else (1 : Int32))) = 0 then (0 : Int32) else (if (if b.toInt64 < 0 then (0 : Int32) else (if 2 < b.toInt64 then (0 : Int32) else (1 : Int32))) = 0 then (0 : Int32) else (1 : Int32))) = 0) : (0 ≤ a.toInt ∧ a.toInt < 4) ∧ (0 ≤ b.toInt ∧ b.toInt < 3) := by
  by_cases h1 : (if a.toInt64 < 0 then (0 : Int32) else (if 3 < a.toInt64 then (0 : Int32) else (1 : Int32))) = 0
  · exact absurd (if_pos h1) h
  · by_cases h2 : (if b.toInt64 < 0 then (0 : Int32) else (if 2 < b.toInt64 then (0 : Int32) else (1 : Int32))) = 0
    · exact absurd (by rw [if_neg h1, if_pos h2]) h
    · exact ⟨z_in4 h1, z_in3 h2⟩
theorem z_m1 {b : Int32} (h : 0 ≤ b.toInt ∧ b.toInt < 3) : ¬ (-1 : Int32) = b := by
  intro e
  have e1 : (-1 : Int32).toInt = -1 := by decide
  rw [← e, e1] at h
  omega
theorem z_it {a k : Int32} (h : 0 ≤ a.toInt ∧ a.toInt < 4) (hk : 0 ≤ k.toInt ∧ k.toInt < 24) : vp_in (24 * a + k) 96 := by
  have e24 : (24 : Int32).toInt = 24 := by decide
  have m1 : (24 * a).toInt = 24 * a.toInt := by rw [Int32.toInt_mul, e24]; exact Int.bmod_eq_of_le (by omega) (by omega)
  have m2 : (24 * a + k).toInt = 24 * a.toInt + k.toInt := by rw [Int32.toInt_add, m1]; exact Int.bmod_eq_of_le (by omega) (by omega)
  exact vp_in_iff.mpr (by rw [m2]; omega)
theorem z_cl4 {a : Int32} (h : 0 ≤ a.toInt ∧ a.toInt < 4) : a.toNatClampNeg < 4 := by
  show a.toInt.toNat < 4
  omega
set_option maxHeartbeats 4000000 in
set_option maxRecDepth 100000 in
theorem c_X9_lacksRow (l : Launch) (Z : gZ) (sz : Nat) (h0 : Nat) (b1 : Nat) (b2 : Nat) (b3 : Nat) (b4 : Nat) (b5 : Nat) (b6 : Nat) (b7 : Nat) (b8 : Nat) (b9 : Nat) (b10 : Nat) (b11 : Nat) (b12 : Nat) (b13 : Nat) (b14 : Nat) (b15 : Nat) (b16 : Nat) (b17 : Nat) (b18 : Nat) (b19 : Nat) (b20 : Nat) (b21 : Nat) (b22 : Nat) (b23 : Nat) (b24 : Nat) (b25 : Nat) (fl : Nat → Int32) (a : Int32) (b : Int32) (d : Int32) (j : Int32) (hfl : ∀ j, j < 4 → fl j = -1) (h1 : 0 ≤ a.toInt ∧ a.toInt < 4) (h2 : ¬ (-1 : Int32) = b) : Met l yX9_lacksRow wsX9_lacksRow ({ frames := 0, cells := 0, slots := 0, locals := 0 }) (va_Pc [.ref h0, .int a, .int b, .int d, .int j] (fun U => U.heap.size = sz ∧ va_P Z.1 vwCl [(h0, .inr (9, [.ref b1, .ref b2, .ref b3, .ref b4, .int 0, .ref b5, .int 0, .ref b6, .ref b7, .ref b8, .int 0, .int 0, .int 0, .ref b9, .ref b10, .ref b11, .ref b12, .ref b13, .ref b14, .ref b15, .ref b16, .ref b17, .ref b18, .int 0, .ref b19, .ref b20, .ref b21, .ref b22, .ref b23, .ref b24, .ref b25])), (b20, .inl (Z.2 0, 4, .inl fl))] U.heap ∧ va_K Z.1 vwCl (gT Z) U ∧ va_D (fun _ => True) [(h0, .inr (9, [.ref b1, .ref b2, .ref b3, .ref b4, .int 0, .ref b5, .int 0, .ref b6, .ref b7, .ref b8, .int 0, .int 0, .int 0, .ref b9, .ref b10, .ref b11, .ref b12, .ref b13, .ref b14, .ref b15, .ref b16, .ref b17, .ref b18, .int 0, .ref b19, .ref b20, .ref b21, .ref b22, .ref b23, .ref b24, .ref b25])), (b20, .inl (Z.2 0, 4, .inl fl))])) (va_Qi (fun (r : Int32) (u : Unit) => r = (-11)) (fun (u : Unit) (t : State) => va_P Z.1 vwCl [(h0, .inr (9, [.ref b1, .ref b2, .ref b3, .ref b4, .int 0, .ref b5, .int 0, .ref b6, .ref b7, .ref b8, .int 0, .int 0, .int 0, .ref b9, .ref b10, .ref b11, .ref b12, .ref b13, .ref b14, .ref b15, .ref b16, .ref b17, .ref b18, .int 0, .ref b19, .ref b20, .ref b21, .ref b22, .ref b23, .ref b24, .ref b25])), (b20, .inl (Z.2 0, 4, .inl fl))] t.heap ∧ va_D (va_A [(h0, .inr (9, [.ref b1, .ref b2, .ref b3, .ref b4, .int 0, .ref b5, .int 0, .ref b6, .ref b7, .ref b8, .int 0, .int 0, .int 0, .ref b9, .ref b10, .ref b11, .ref b12, .ref b13, .ref b14, .ref b15, .ref b16, .ref b17, .ref b18, .int 0, .ref b19, .ref b20, .ref b21, .ref b22, .ref b23, .ref b24, .ref b25])), (b20, .inl (Z.2 0, 4, .inl fl))] sz) [(h0, .inr (9, [.ref b1, .ref b2, .ref b3, .ref b4, .int 0, .ref b5, .int 0, .ref b6, .ref b7, .ref b8, .int 0, .int 0, .int 0, .ref b9, .ref b10, .ref b11, .ref b12, .ref b13, .ref b14, .ref b15, .ref b16, .ref b17, .ref b18, .int 0, .ref b19, .ref b20, .ref b21, .ref b22, .ref b23, .ref b24, .ref b25])), (b20, .inl (Z.2 0, 4, .inl fl))]) (va_A [(h0, .inr (9, [.ref b1, .ref b2, .ref b3, .ref b4, .int 0, .ref b5, .int 0, .ref b6, .ref b7, .ref b8, .int 0, .int 0, .int 0, .ref b9, .ref b10, .ref b11, .ref b12, .ref b13, .ref b14, .ref b15, .ref b16, .ref b17, .ref b18, .int 0, .ref b19, .ref b20, .ref b21, .ref b22, .ref b23, .ref b24, .ref b25])), (b20, .inl (Z.2 0, 4, .inl fl))] sz)) 0 0 (va_A [(h0, .inr (9, [.ref b1, .ref b2, .ref b3, .ref b4, .int 0, .ref b5, .int 0, .ref b6, .ref b7, .ref b8, .int 0, .int 0, .int 0, .ref b9, .ref b10, .ref b11, .ref b12, .ref b13, .ref b14, .ref b15, .ref b16, .ref b17, .ref b18, .int 0, .ref b19, .ref b20, .ref b21, .ref b22, .ref b23, .ref b24, .ref b25])), (b20, .inl (Z.2 0, 4, .inl fl))] sz) := by
  refine Met.ofW (cc := cX9_lacksRow) (maxL := 5) (ret := (some .int)) (by decide) rfl ?_
  intro p e s m args below meth c s₁ B hml hv
  obtain ⟨rfl, hsz, hP, hK, hD0⟩ := hv
  have hx := B.exec
  have hb := B.bytes
  have hr := B.returns
  have hts := atoms_spec (ws := wsX9_lacksRow) B.pre
  have hown : s.vm.findClass RX9 = some m.cls := findClass_of_methodNamed B.named
  have hlocks := B.notSynchronized
  subst hsz
  have hin9 : ∀ w ∈ wsX90, w ∈ wsX9_lacksRow := by decide +kernel
  have hD := hD0.self (sz := s.heap.size)
  generalize hAe : va_A [(h0, .inr (9, [.ref b1, .ref b2, .ref b3, .ref b4, .int 0, .ref b5, .int 0, .ref b6, .ref b7, .ref b8, .int 0, .int 0, .int 0, .ref b9, .ref b10, .ref b11, .ref b12, .ref b13, .ref b14, .ref b15, .ref b16, .ref b17, .ref b18, .int 0, .ref b19, .ref b20, .ref b21, .ref b22, .ref b23, .ref b24, .ref b25])), (b20, .inl (Z.2 0, 4, .inl fl))] s.heap.size = A at hD ⊢
  have hA : ∀ q : Nat, s.heap.size ≤ q → A q := fun q h => by rw [← hAe]; exact Or.inr h
  have hS : va_S A s.heap s.heap [] := va_S.rf
  have hP : va_P Z.1 vwCl [(h0, .inr (9, [.ref b1, .ref b2, .ref b3, .ref b4, .int 0, .ref b5, .int 0, .ref b6, .ref b7, .ref b8, .int 0, .int 0, .int 0, .ref b9, .ref b10, .ref b11, .ref b12, .ref b13, .ref b14, .ref b15, .ref b16, .ref b17, .ref b18, .int 0, .ref b19, .ref b20, .ref b21, .ref b22, .ref b23, .ref b24, .ref b25])), (b20, .inl (Z.2 0, 4, .inl fl))] s.heap := hP
  have hl := lv_entry ([.ref h0, .int a, .int b, .int d, .int j]) (n := 5) (Nat.le_of_ble_eq_true rfl)
  rw [lg_entry_eq]
  generalize (lg_sl ([.ref h0, .int a, .int b, .int d, .int j]) ++ List.replicate (5 - (lg_sl ([.ref h0, .int a, .int b, .int d, .int j])).length) Slot.unset).toArray = ls at hl ⊢
  have hl : lv_has ls 5 [(0, .ref h0), (1, .int a), (2, .int b), (3, .int d), (4, .int j)] := hl
  refine lv_aload_n hx hb dX9_lacksRow_0 rfl (lv_at hl 0 rfl) ?_
  refine va_get (D := Z.1) (ci := 9) (v := .ref b20) (C := RX9) (T := TX9) (N := 31) hx hb hts hin9 hown hK hP 0 rfl rfl 25 (by decide) (hts (.fieldLink RX9 68 "HalfAskedModel" "lanes" "[I") (by decide +kernel)) (fun _ h9 => h9) rfl dX9_lacksRow_1 ?_
  refine lv_iload_n hx hb dX9_lacksRow_4 rfl (lv_at hl 1 rfl) ?_
  refine va_iald hx hb hK hP 1 0 rfl rfl (z_in h1) dX9_lacksRow_5 ?_
  refine lv_topi (fun f_1 ef_1 => ?_)
  obtain rfl : f_1 = (-1) := ef_1.trans (hfl _ (z_cl4 h1))
  refine lv_iload_n hx hb dX9_lacksRow_6 rfl (lv_at hl 2 rfl) ?_
  refine lv_icmp_eq (tgt := 27) hx hb dX9_lacksRow_7 (by decide) (fun c9 => absurd c9 (h2)) (fun _ => ?_)
  refine lv_aload_n hx hb dX9_lacksRow_10 rfl (lv_at hl 0 rfl) ?_
  refine va_get (D := Z.1) (ci := 9) (v := .ref b20) (C := RX9) (T := TX9) (N := 31) hx hb hts hin9 hown hK hP 0 rfl rfl 25 (by decide) (hts (.fieldLink RX9 68 "HalfAskedModel" "lanes" "[I") (by decide +kernel)) (fun _ h9 => h9) rfl dX9_lacksRow_11 ?_
  refine lv_iload_n hx hb dX9_lacksRow_14 rfl (lv_at hl 1 rfl) ?_
  refine va_iald hx hb hK hP 1 0 rfl rfl (z_in h1) dX9_lacksRow_15 ?_
  refine lv_topi (fun f_2 ef_2 => ?_)
  obtain rfl : f_2 = (-1) := ef_2.trans (hfl _ (z_cl4 h1))
  refine lv_if_ge (tgt := 24) hx hb dX9_lacksRow_16 (by decide) (fun c9 => absurd c9 (by decide)) (fun _ => ?_)
  refine lv_bipush (v := (-11)) hx hb dX9_lacksRow_19 (by decide) ?_
  refine lv_goto (tgt := 26) hx hb dX9_lacksRow_21 (by decide) ?_
  have hP9 := hP.sub (ws' := [(h0, .inr (9, [.ref b1, .ref b2, .ref b3, .ref b4, .int 0, .ref b5, .int 0, .ref b6, .ref b7, .ref b8, .int 0, .int 0, .int 0, .ref b9, .ref b10, .ref b11, .ref b12, .ref b13, .ref b14, .ref b15, .ref b16, .ref b17, .ref b18, .int 0, .ref b19, .ref b20, .ref b21, .ref b22, .ref b23, .ref b24, .ref b25])), (b20, .inl (Z.2 0, 4, .inl fl))]) [0, 1] rfl
  have hD9 := hD.sub (ws' := [(h0, .inr (9, [.ref b1, .ref b2, .ref b3, .ref b4, .int 0, .ref b5, .int 0, .ref b6, .ref b7, .ref b8, .int 0, .int 0, .int 0, .ref b9, .ref b10, .ref b11, .ref b12, .ref b13, .ref b14, .ref b15, .ref b16, .ref b17, .ref b18, .int 0, .ref b19, .ref b20, .ref b21, .ref b22, .ref b23, .ref b24, .ref b25])), (b20, .inl (Z.2 0, 4, .inl fl))]) [0, 1] (by decide) rfl
  exact W.iret (v := (-11)) hx hb hr (fun t ht hW => ⟨⟨(-11), (), rfl, rfl, by rw [ht]; exact hP9, hD9⟩, hS.F ht⟩) hS.2.2 dX9_lacksRow_26
set_option maxHeartbeats 4000000 in
set_option maxRecDepth 100000 in
theorem c_X9_item (l : Launch) (Z : gZ) (sz : Nat) (h0 : Nat) (b1 : Nat) (b2 : Nat) (b3 : Nat) (b4 : Nat) (b5 : Nat) (b6 : Nat) (b7 : Nat) (b8 : Nat) (b9 : Nat) (b10 : Nat) (b11 : Nat) (b12 : Nat) (b13 : Nat) (b14 : Nat) (b15 : Nat) (b16 : Nat) (b17 : Nat) (b18 : Nat) (b19 : Nat) (b20 : Nat) (b21 : Nat) (b22 : Nat) (b23 : Nat) (b24 : Nat) (b25 : Nat) (fl : Nat → Int32) (a : Int32) (b : Int32) (d : Int32) (w : Int64) (hfl : ∀ j, j < 4 → fl j = -1) : Met l yX9_item wsX9_item ({ frames := 2, cells := 0, slots := 0, locals := 46 }) (va_Pc [.ref h0, .int a, .int b, .int d, .long w] (fun U => U.heap.size = sz ∧ va_P Z.1 vwCl [(h0, .inr (9, [.ref b1, .ref b2, .ref b3, .ref b4, .int 0, .ref b5, .int 0, .ref b6, .ref b7, .ref b8, .int 0, .int 0, .int 0, .ref b9, .ref b10, .ref b11, .ref b12, .ref b13, .ref b14, .ref b15, .ref b16, .ref b17, .ref b18, .int 0, .ref b19, .ref b20, .ref b21, .ref b22, .ref b23, .ref b24, .ref b25])), (b20, .inl (Z.2 0, 4, .inl fl))] U.heap ∧ va_K Z.1 vwCl (gT Z) U ∧ va_D (fun _ => True) [(h0, .inr (9, [.ref b1, .ref b2, .ref b3, .ref b4, .int 0, .ref b5, .int 0, .ref b6, .ref b7, .ref b8, .int 0, .int 0, .int 0, .ref b9, .ref b10, .ref b11, .ref b12, .ref b13, .ref b14, .ref b15, .ref b16, .ref b17, .ref b18, .int 0, .ref b19, .ref b20, .ref b21, .ref b22, .ref b23, .ref b24, .ref b25])), (b20, .inl (Z.2 0, 4, .inl fl))])) (va_Qi (fun (r : Int32) (u : Unit) => r = (if (if (if a.toInt64 < 0 then (0 : Int32) else (if 3 < a.toInt64 then (0 : Int32) else (1 : Int32))) = 0 then (0 : Int32) else (if (if b.toInt64 < 0 then (0 : Int32) else (if 2 < b.toInt64 then (0 : Int32) else (1 : Int32))) = 0 then (0 : Int32) else (1 : Int32))) = 0 then (-1 : Int32) else (-11 : Int32))) (fun (u : Unit) (t : State) => True) (va_A [(h0, .inr (9, [.ref b1, .ref b2, .ref b3, .ref b4, .int 0, .ref b5, .int 0, .ref b6, .ref b7, .ref b8, .int 0, .int 0, .int 0, .ref b9, .ref b10, .ref b11, .ref b12, .ref b13, .ref b14, .ref b15, .ref b16, .ref b17, .ref b18, .int 0, .ref b19, .ref b20, .ref b21, .ref b22, .ref b23, .ref b24, .ref b25])), (b20, .inl (Z.2 0, 4, .inl fl))] sz)) 0 0 (va_A [(h0, .inr (9, [.ref b1, .ref b2, .ref b3, .ref b4, .int 0, .ref b5, .int 0, .ref b6, .ref b7, .ref b8, .int 0, .int 0, .int 0, .ref b9, .ref b10, .ref b11, .ref b12, .ref b13, .ref b14, .ref b15, .ref b16, .ref b17, .ref b18, .int 0, .ref b19, .ref b20, .ref b21, .ref b22, .ref b23, .ref b24, .ref b25])), (b20, .inl (Z.2 0, 4, .inl fl))] sz) := by
  refine Met.ofW (cc := cX9_item) (maxL := 7) (ret := (some .int)) (by decide) rfl ?_
  intro p e s m args below meth c s₁ B hml hv
  obtain ⟨rfl, hsz, hP, hK, hD0⟩ := hv
  have hx := B.exec
  have hb := B.bytes
  have hr := B.returns
  have hts := atoms_spec (ws := wsX9_item) B.pre
  have hown : s.vm.findClass RX9 = some m.cls := findClass_of_methodNamed B.named
  have hlocks := B.notSynchronized
  subst hsz
  have hD := hD0.self (sz := s.heap.size)
  generalize hAe : va_A [(h0, .inr (9, [.ref b1, .ref b2, .ref b3, .ref b4, .int 0, .ref b5, .int 0, .ref b6, .ref b7, .ref b8, .int 0, .int 0, .int 0, .ref b9, .ref b10, .ref b11, .ref b12, .ref b13, .ref b14, .ref b15, .ref b16, .ref b17, .ref b18, .int 0, .ref b19, .ref b20, .ref b21, .ref b22, .ref b23, .ref b24, .ref b25])), (b20, .inl (Z.2 0, 4, .inl fl))] s.heap.size = A at hD ⊢
  have hA : ∀ q : Nat, s.heap.size ≤ q → A q := fun q h => by rw [← hAe]; exact Or.inr h
  have hS : va_S A s.heap s.heap [] := va_S.rf
  have hP : va_P Z.1 vwCl [(h0, .inr (9, [.ref b1, .ref b2, .ref b3, .ref b4, .int 0, .ref b5, .int 0, .ref b6, .ref b7, .ref b8, .int 0, .int 0, .int 0, .ref b9, .ref b10, .ref b11, .ref b12, .ref b13, .ref b14, .ref b15, .ref b16, .ref b17, .ref b18, .int 0, .ref b19, .ref b20, .ref b21, .ref b22, .ref b23, .ref b24, .ref b25])), (b20, .inl (Z.2 0, 4, .inl fl))] s.heap := hP
  have hl := lv_entry ([.ref h0, .int a, .int b, .int d, .long w]) (n := 7) (Nat.le_of_ble_eq_true rfl)
  rw [lg_entry_eq]
  generalize (lg_sl ([.ref h0, .int a, .int b, .int d, .long w]) ++ List.replicate (7 - (lg_sl ([.ref h0, .int a, .int b, .int d, .long w])).length) Slot.unset).toArray = ls at hl ⊢
  have hl : lv_has ls 7 [(0, .ref h0), (1, .int a), (2, .int b), (3, .int d), (4, .long w)] := hl
  refine lv_iload_n hx hb dX9_item_0 rfl (lv_at hl 1 rfl) ?_
  refine lv_iload_n hx hb dX9_item_1 rfl (lv_at hl 2 rfl) ?_
  have hPc := hP.sub (ws' := []) [] rfl
  have hDc := hD.sub (ws' := []) [] (by decide) rfl
  have hFc := va_free (wc := []) hD hS hA [] rfl
  refine va_calli (va_runS (As := [.int a, .int b]) (rest := []) ⟨hx, hb, hml, hown, hts⟩ (c_X9_isSheet l Z s.heap.size a b) (va_cwS 2 hts gX9_item_X9_isSheet rfl rfl rfl (by decide +kernel) ⟨Nat.le_of_ble_eq_true rfl, Nat.le_of_ble_eq_true rfl⟩) ⟨fun a U g mk q => by obtain ⟨q0, q1, qP, qK, qD⟩ := q; exact ⟨q0, q1, qP, va_K.moved (u := U) (U := U.calling g mk a) (Vm.Alike.refl U.vm) qK, qD⟩, fun U hU hW => ⟨rfl, by rw [hU], by rw [hU]; exact hPc, va_K.moved hW.alike hK, hDc.weaken (fun _ _ _ _ => trivial)⟩⟩ rfl rfl hl.1 rfl (lv_room (Nat.le_of_ble_eq_true rfl)) dX9_item_2 ⟨Nat.le_of_ble_eq_true rfl, Nat.le_of_ble_eq_true rfl⟩) hS (fun q _ h => hFc q h) hFc (fun r_1 u t H1 locs ht hvm hw hB hz1 hk1 hS => ?_)
  subst hw
  have hP1 : va_P Z.1 vwCl [] H1 := fun k q h => by simp at h
  have hD1 : va_D (va_A [] s.heap.size) [] := ⟨fun i j p q h => by simp at h, fun k q h => by simp at h⟩
  obtain ⟨hP, hD⟩ := va_join (wr := [(h0, .inr (9, [.ref b1, .ref b2, .ref b3, .ref b4, .int 0, .ref b5, .int 0, .ref b6, .ref b7, .ref b8, .int 0, .int 0, .int 0, .ref b9, .ref b10, .ref b11, .ref b12, .ref b13, .ref b14, .ref b15, .ref b16, .ref b17, .ref b18, .int 0, .ref b19, .ref b20, .ref b21, .ref b22, .ref b23, .ref b24, .ref b25])), (b20, .inl (Z.2 0, 4, .inl fl))]) (w1 := []) hP hD [] [0, 1] rfl rfl (by decide) (by decide) hk1 hFc hP1 hD1
  clear hPc hDc hP1 hD1 hk1 hz1 hFc ht hvm
  generalize H1 = H at hP hS ⊢
  have hP : va_P Z.1 vwCl [(h0, .inr (9, [.ref b1, .ref b2, .ref b3, .ref b4, .int 0, .ref b5, .int 0, .ref b6, .ref b7, .ref b8, .int 0, .int 0, .int 0, .ref b9, .ref b10, .ref b11, .ref b12, .ref b13, .ref b14, .ref b15, .ref b16, .ref b17, .ref b18, .int 0, .ref b19, .ref b20, .ref b21, .ref b22, .ref b23, .ref b24, .ref b25])), (b20, .inl (Z.2 0, 4, .inl fl))] H := hP
  have hD : va_D A [(h0, .inr (9, [.ref b1, .ref b2, .ref b3, .ref b4, .int 0, .ref b5, .int 0, .ref b6, .ref b7, .ref b8, .int 0, .int 0, .int 0, .ref b9, .ref b10, .ref b11, .ref b12, .ref b13, .ref b14, .ref b15, .ref b16, .ref b17, .ref b18, .int 0, .ref b19, .ref b20, .ref b21, .ref b22, .ref b23, .ref b24, .ref b25])), (b20, .inl (Z.2 0, 4, .inl fl))] := hD
  refine lv_if_ne (tgt := 10) hx hb dX9_item_5 (by decide) (fun c_2 => ?_) (fun c_2 => ?_)
  · refine lv_aload_n hx hb dX9_item_10 rfl (lv_at hl 0 rfl) ?_
    refine lv_iload_n hx hb dX9_item_11 rfl (lv_at hl 1 rfl) ?_
    refine lv_iload_n hx hb dX9_item_12 rfl (lv_at hl 2 rfl) ?_
    refine lv_iload_n hx hb dX9_item_13 rfl (lv_at hl 3 rfl) ?_
    refine lv_iconst (v := 1) hx hb dX9_item_14 (by decide) ?_
    have hPc := hP.sub (ws' := [(h0, .inr (9, [.ref b1, .ref b2, .ref b3, .ref b4, .int 0, .ref b5, .int 0, .ref b6, .ref b7, .ref b8, .int 0, .int 0, .int 0, .ref b9, .ref b10, .ref b11, .ref b12, .ref b13, .ref b14, .ref b15, .ref b16, .ref b17, .ref b18, .int 0, .ref b19, .ref b20, .ref b21, .ref b22, .ref b23, .ref b24, .ref b25])), (b20, .inl (Z.2 0, 4, .inl fl))]) [0, 1] rfl
    have hDc := hD.sub (ws' := [(h0, .inr (9, [.ref b1, .ref b2, .ref b3, .ref b4, .int 0, .ref b5, .int 0, .ref b6, .ref b7, .ref b8, .int 0, .int 0, .int 0, .ref b9, .ref b10, .ref b11, .ref b12, .ref b13, .ref b14, .ref b15, .ref b16, .ref b17, .ref b18, .int 0, .ref b19, .ref b20, .ref b21, .ref b22, .ref b23, .ref b24, .ref b25])), (b20, .inl (Z.2 0, 4, .inl fl))]) [0, 1] (by decide) rfl
    have hFc := va_free (wc := [(h0, .inr (9, [.ref b1, .ref b2, .ref b3, .ref b4, .int 0, .ref b5, .int 0, .ref b6, .ref b7, .ref b8, .int 0, .int 0, .int 0, .ref b9, .ref b10, .ref b11, .ref b12, .ref b13, .ref b14, .ref b15, .ref b16, .ref b17, .ref b18, .int 0, .ref b19, .ref b20, .ref b21, .ref b22, .ref b23, .ref b24, .ref b25])), (b20, .inl (Z.2 0, 4, .inl fl))]) hD hS hA [0, 1] rfl
    refine va_calli (va_runV (As := [.int a, .int b, .int d, .int 1]) (rest := []) ⟨hx, hb, hml, hown, hts⟩ (c_X9_lacksRow l Z H.size h0 b1 b2 b3 b4 b5 b6 b7 b8 b9 b10 b11 b12 b13 b14 b15 b16 b17 b18 b19 b20 b21 b22 b23 b24 b25 fl a b d 1 (hfl) ((z_ms c_2).1) (z_m1 (z_ms c_2).2)) (cwV 4 hts gX9_item_X9_lacksRow rfl rfl rfl (by decide +kernel) ⟨Nat.le_of_ble_eq_true rfl, Nat.le_of_ble_eq_true rfl⟩) ⟨fun a U g mk q => by obtain ⟨q0, q1, qP, qK, qD⟩ := q; exact ⟨q0, q1, qP, va_K.moved (u := U) (U := U.calling g mk a) (Vm.Alike.refl U.vm) qK, qD⟩, va_recv hK hPc (ci := 9) (q0 := 0) rfl rfl, fun U hU hW => ⟨rfl, by rw [hU], by rw [hU]; exact hPc, va_K.moved hW.alike hK, hDc.weaken (fun _ _ _ _ => trivial)⟩⟩ rfl rfl hl.1 rfl (lv_room (Nat.le_of_ble_eq_true rfl)) dX9_item_15 ⟨Nat.le_of_ble_eq_true rfl, Nat.le_of_ble_eq_true rfl⟩) hS (fun q _ h => hFc q h) hFc (fun r_3 u t H1 locs ht hvm hw hB hz1 hk1 hS => ?_)
    subst hw
    obtain ⟨hP1, hD1⟩ := hB
    rw [ht] at hP1
    obtain ⟨hP, hD⟩ := va_join (wr := []) (w1 := [(h0, .inr (9, [.ref b1, .ref b2, .ref b3, .ref b4, .int 0, .ref b5, .int 0, .ref b6, .ref b7, .ref b8, .int 0, .int 0, .int 0, .ref b9, .ref b10, .ref b11, .ref b12, .ref b13, .ref b14, .ref b15, .ref b16, .ref b17, .ref b18, .int 0, .ref b19, .ref b20, .ref b21, .ref b22, .ref b23, .ref b24, .ref b25])), (b20, .inl (Z.2 0, 4, .inl fl))]) hP hD [0, 1] [] rfl rfl (by decide) (by decide) hk1 hFc hP1 hD1
    clear hPc hDc hP1 hD1 hk1 hz1 hFc ht hvm
    generalize H1 = H at hP hS ⊢
    have hP : va_P Z.1 vwCl [(h0, .inr (9, [.ref b1, .ref b2, .ref b3, .ref b4, .int 0, .ref b5, .int 0, .ref b6, .ref b7, .ref b8, .int 0, .int 0, .int 0, .ref b9, .ref b10, .ref b11, .ref b12, .ref b13, .ref b14, .ref b15, .ref b16, .ref b17, .ref b18, .int 0, .ref b19, .ref b20, .ref b21, .ref b22, .ref b23, .ref b24, .ref b25])), (b20, .inl (Z.2 0, 4, .inl fl))] H := hP
    have hD : va_D A [(h0, .inr (9, [.ref b1, .ref b2, .ref b3, .ref b4, .int 0, .ref b5, .int 0, .ref b6, .ref b7, .ref b8, .int 0, .int 0, .int 0, .ref b9, .ref b10, .ref b11, .ref b12, .ref b13, .ref b14, .ref b15, .ref b16, .ref b17, .ref b18, .int 0, .ref b19, .ref b20, .ref b21, .ref b22, .ref b23, .ref b24, .ref b25])), (b20, .inl (Z.2 0, 4, .inl fl))] := hD
    refine lv_istore (lv' := [(6, .int (-11)), (0, .ref h0), (1, .int a), (2, .int b), (3, .int d), (4, .long w)]) hx hb dX9_item_18 hl (by decide) rfl (fun ls hl => ?_)
    refine lv_iload hx hb dX9_item_20 (lv_at hl 0 rfl) ?_
    refine lv_if_ge (tgt := 28) hx hb dX9_item_22 (by decide) (fun c9 => absurd c9 (by decide)) (fun _ => ?_)
    refine lv_iload hx hb dX9_item_25 (lv_at hl 0 rfl) ?_
    exact W.iret (v := (-11)) hx hb hr (fun t ht hW => ⟨⟨(-11), (), rfl, (by rw [if_neg c_2]), trivial⟩, hS.F ht⟩) hS.2.2 dX9_item_27
  · refine lv_iconst (v := (-1)) hx hb dX9_item_8 (by decide) ?_
    exact W.iret (v := (-1)) hx hb hr (fun t ht hW => ⟨⟨(-1), (), rfl, (by rw [if_pos c_2]), trivial⟩, hS.F ht⟩) hS.2.2 dX9_item_9
set_option maxHeartbeats 4000000 in
set_option maxRecDepth 100000 in
theorem c_X9_film (l : Launch) (Z : gZ) (sz : Nat) (h0 : Nat) (b1 : Nat) (b2 : Nat) (b3 : Nat) (b4 : Nat) (b5 : Nat) (b6 : Nat) (b7 : Nat) (b8 : Nat) (b9 : Nat) (b10 : Nat) (b11 : Nat) (b12 : Nat) (b13 : Nat) (b14 : Nat) (b15 : Nat) (b16 : Nat) (b17 : Nat) (b18 : Nat) (b19 : Nat) (b20 : Nat) (b21 : Nat) (b22 : Nat) (b23 : Nat) (b24 : Nat) (b25 : Nat) (fl : Nat → Int32) (a : Int32) (b : Int32) (d : Int32) (hfl : ∀ j, j < 4 → fl j = -1) : Met l yX9_film wsX9_film ({ frames := 2, cells := 0, slots := 0, locals := 46 }) (va_Pc [.ref h0, .int a, .int b, .int d] (fun U => U.heap.size = sz ∧ va_P Z.1 vwCl [(h0, .inr (9, [.ref b1, .ref b2, .ref b3, .ref b4, .int 0, .ref b5, .int 0, .ref b6, .ref b7, .ref b8, .int 0, .int 0, .int 0, .ref b9, .ref b10, .ref b11, .ref b12, .ref b13, .ref b14, .ref b15, .ref b16, .ref b17, .ref b18, .int 0, .ref b19, .ref b20, .ref b21, .ref b22, .ref b23, .ref b24, .ref b25])), (b20, .inl (Z.2 0, 4, .inl fl))] U.heap ∧ va_K Z.1 vwCl (gT Z) U ∧ va_D (fun _ => True) [(h0, .inr (9, [.ref b1, .ref b2, .ref b3, .ref b4, .int 0, .ref b5, .int 0, .ref b6, .ref b7, .ref b8, .int 0, .int 0, .int 0, .ref b9, .ref b10, .ref b11, .ref b12, .ref b13, .ref b14, .ref b15, .ref b16, .ref b17, .ref b18, .int 0, .ref b19, .ref b20, .ref b21, .ref b22, .ref b23, .ref b24, .ref b25])), (b20, .inl (Z.2 0, 4, .inl fl))])) (va_Qi (fun (r : Int32) (u : Unit) => r = (if (if (if a.toInt64 < 0 then (0 : Int32) else (if 3 < a.toInt64 then (0 : Int32) else (1 : Int32))) = 0 then (0 : Int32) else (if (if b.toInt64 < 0 then (0 : Int32) else (if 2 < b.toInt64 then (0 : Int32) else (1 : Int32))) = 0 then (0 : Int32) else (1 : Int32))) = 0 then (-1 : Int32) else (-11 : Int32))) (fun (u : Unit) (t : State) => True) (va_A [(h0, .inr (9, [.ref b1, .ref b2, .ref b3, .ref b4, .int 0, .ref b5, .int 0, .ref b6, .ref b7, .ref b8, .int 0, .int 0, .int 0, .ref b9, .ref b10, .ref b11, .ref b12, .ref b13, .ref b14, .ref b15, .ref b16, .ref b17, .ref b18, .int 0, .ref b19, .ref b20, .ref b21, .ref b22, .ref b23, .ref b24, .ref b25])), (b20, .inl (Z.2 0, 4, .inl fl))] sz)) 0 0 (va_A [(h0, .inr (9, [.ref b1, .ref b2, .ref b3, .ref b4, .int 0, .ref b5, .int 0, .ref b6, .ref b7, .ref b8, .int 0, .int 0, .int 0, .ref b9, .ref b10, .ref b11, .ref b12, .ref b13, .ref b14, .ref b15, .ref b16, .ref b17, .ref b18, .int 0, .ref b19, .ref b20, .ref b21, .ref b22, .ref b23, .ref b24, .ref b25])), (b20, .inl (Z.2 0, 4, .inl fl))] sz) := by
  refine Met.ofW (cc := cX9_film) (maxL := 6) (ret := (some .int)) (by decide) rfl ?_
  intro p e s m args below meth c s₁ B hml hv
  obtain ⟨rfl, hsz, hP, hK, hD0⟩ := hv
  have hx := B.exec
  have hb := B.bytes
  have hr := B.returns
  have hts := atoms_spec (ws := wsX9_film) B.pre
  have hown : s.vm.findClass RX9 = some m.cls := findClass_of_methodNamed B.named
  have hlocks := B.notSynchronized
  subst hsz
  have hin9 : ∀ w ∈ wsX90, w ∈ wsX9_film := by decide +kernel
  have hD := hD0.self (sz := s.heap.size)
  generalize hAe : va_A [(h0, .inr (9, [.ref b1, .ref b2, .ref b3, .ref b4, .int 0, .ref b5, .int 0, .ref b6, .ref b7, .ref b8, .int 0, .int 0, .int 0, .ref b9, .ref b10, .ref b11, .ref b12, .ref b13, .ref b14, .ref b15, .ref b16, .ref b17, .ref b18, .int 0, .ref b19, .ref b20, .ref b21, .ref b22, .ref b23, .ref b24, .ref b25])), (b20, .inl (Z.2 0, 4, .inl fl))] s.heap.size = A at hD ⊢
  have hA : ∀ q : Nat, s.heap.size ≤ q → A q := fun q h => by rw [← hAe]; exact Or.inr h
  have hS : va_S A s.heap s.heap [] := va_S.rf
  have hP : va_P Z.1 vwCl [(h0, .inr (9, [.ref b1, .ref b2, .ref b3, .ref b4, .int 0, .ref b5, .int 0, .ref b6, .ref b7, .ref b8, .int 0, .int 0, .int 0, .ref b9, .ref b10, .ref b11, .ref b12, .ref b13, .ref b14, .ref b15, .ref b16, .ref b17, .ref b18, .int 0, .ref b19, .ref b20, .ref b21, .ref b22, .ref b23, .ref b24, .ref b25])), (b20, .inl (Z.2 0, 4, .inl fl))] s.heap := hP
  have hl := lv_entry ([.ref h0, .int a, .int b, .int d]) (n := 6) (Nat.le_of_ble_eq_true rfl)
  rw [lg_entry_eq]
  generalize (lg_sl ([.ref h0, .int a, .int b, .int d]) ++ List.replicate (6 - (lg_sl ([.ref h0, .int a, .int b, .int d])).length) Slot.unset).toArray = ls at hl ⊢
  have hl : lv_has ls 6 [(0, .ref h0), (1, .int a), (2, .int b), (3, .int d)] := hl
  refine lv_iload_n hx hb dX9_film_0 rfl (lv_at hl 1 rfl) ?_
  refine lv_iload_n hx hb dX9_film_1 rfl (lv_at hl 2 rfl) ?_
  have hPc := hP.sub (ws' := []) [] rfl
  have hDc := hD.sub (ws' := []) [] (by decide) rfl
  have hFc := va_free (wc := []) hD hS hA [] rfl
  refine va_calli (va_runS (As := [.int a, .int b]) (rest := []) ⟨hx, hb, hml, hown, hts⟩ (c_X9_isSheet l Z s.heap.size a b) (va_cwS 2 hts gX9_film_X9_isSheet rfl rfl rfl (by decide +kernel) ⟨Nat.le_of_ble_eq_true rfl, Nat.le_of_ble_eq_true rfl⟩) ⟨fun a U g mk q => by obtain ⟨q0, q1, qP, qK, qD⟩ := q; exact ⟨q0, q1, qP, va_K.moved (u := U) (U := U.calling g mk a) (Vm.Alike.refl U.vm) qK, qD⟩, fun U hU hW => ⟨rfl, by rw [hU], by rw [hU]; exact hPc, va_K.moved hW.alike hK, hDc.weaken (fun _ _ _ _ => trivial)⟩⟩ rfl rfl hl.1 rfl (lv_room (Nat.le_of_ble_eq_true rfl)) dX9_film_2 ⟨Nat.le_of_ble_eq_true rfl, Nat.le_of_ble_eq_true rfl⟩) hS (fun q _ h => hFc q h) hFc (fun r_1 u t H1 locs ht hvm hw hB hz1 hk1 hS => ?_)
  subst hw
  have hP1 : va_P Z.1 vwCl [] H1 := fun k q h => by simp at h
  have hD1 : va_D (va_A [] s.heap.size) [] := ⟨fun i j p q h => by simp at h, fun k q h => by simp at h⟩
  obtain ⟨hP, hD⟩ := va_join (wr := [(h0, .inr (9, [.ref b1, .ref b2, .ref b3, .ref b4, .int 0, .ref b5, .int 0, .ref b6, .ref b7, .ref b8, .int 0, .int 0, .int 0, .ref b9, .ref b10, .ref b11, .ref b12, .ref b13, .ref b14, .ref b15, .ref b16, .ref b17, .ref b18, .int 0, .ref b19, .ref b20, .ref b21, .ref b22, .ref b23, .ref b24, .ref b25])), (b20, .inl (Z.2 0, 4, .inl fl))]) (w1 := []) hP hD [] [0, 1] rfl rfl (by decide) (by decide) hk1 hFc hP1 hD1
  clear hPc hDc hP1 hD1 hk1 hz1 hFc ht hvm
  generalize H1 = H at hP hS ⊢
  have hP : va_P Z.1 vwCl [(h0, .inr (9, [.ref b1, .ref b2, .ref b3, .ref b4, .int 0, .ref b5, .int 0, .ref b6, .ref b7, .ref b8, .int 0, .int 0, .int 0, .ref b9, .ref b10, .ref b11, .ref b12, .ref b13, .ref b14, .ref b15, .ref b16, .ref b17, .ref b18, .int 0, .ref b19, .ref b20, .ref b21, .ref b22, .ref b23, .ref b24, .ref b25])), (b20, .inl (Z.2 0, 4, .inl fl))] H := hP
  have hD : va_D A [(h0, .inr (9, [.ref b1, .ref b2, .ref b3, .ref b4, .int 0, .ref b5, .int 0, .ref b6, .ref b7, .ref b8, .int 0, .int 0, .int 0, .ref b9, .ref b10, .ref b11, .ref b12, .ref b13, .ref b14, .ref b15, .ref b16, .ref b17, .ref b18, .int 0, .ref b19, .ref b20, .ref b21, .ref b22, .ref b23, .ref b24, .ref b25])), (b20, .inl (Z.2 0, 4, .inl fl))] := hD
  refine lv_if_ne (tgt := 10) hx hb dX9_film_5 (by decide) (fun c_2 => ?_) (fun c_2 => ?_)
  · refine lv_aload_n hx hb dX9_film_10 rfl (lv_at hl 0 rfl) ?_
    refine lv_iload_n hx hb dX9_film_11 rfl (lv_at hl 1 rfl) ?_
    refine lv_iload_n hx hb dX9_film_12 rfl (lv_at hl 2 rfl) ?_
    refine lv_iload_n hx hb dX9_film_13 rfl (lv_at hl 3 rfl) ?_
    refine lv_aload_n hx hb dX9_film_14 rfl (lv_at hl 0 rfl) ?_
    refine va_get (D := Z.1) (ci := 9) (v := .int 0) (C := RX9) (T := TX9) (N := 31) hx hb hts hin9 hown hK hP 0 rfl rfl 4 (by decide) (hts (.fieldLink RX9 86 "HalfAskedModel" "many" "I") (by decide +kernel)) (fun _ h9 => h9) rfl dX9_film_15 ?_
    have hPc := hP.sub (ws' := [(h0, .inr (9, [.ref b1, .ref b2, .ref b3, .ref b4, .int 0, .ref b5, .int 0, .ref b6, .ref b7, .ref b8, .int 0, .int 0, .int 0, .ref b9, .ref b10, .ref b11, .ref b12, .ref b13, .ref b14, .ref b15, .ref b16, .ref b17, .ref b18, .int 0, .ref b19, .ref b20, .ref b21, .ref b22, .ref b23, .ref b24, .ref b25])), (b20, .inl (Z.2 0, 4, .inl fl))]) [0, 1] rfl
    have hDc := hD.sub (ws' := [(h0, .inr (9, [.ref b1, .ref b2, .ref b3, .ref b4, .int 0, .ref b5, .int 0, .ref b6, .ref b7, .ref b8, .int 0, .int 0, .int 0, .ref b9, .ref b10, .ref b11, .ref b12, .ref b13, .ref b14, .ref b15, .ref b16, .ref b17, .ref b18, .int 0, .ref b19, .ref b20, .ref b21, .ref b22, .ref b23, .ref b24, .ref b25])), (b20, .inl (Z.2 0, 4, .inl fl))]) [0, 1] (by decide) rfl
    have hFc := va_free (wc := [(h0, .inr (9, [.ref b1, .ref b2, .ref b3, .ref b4, .int 0, .ref b5, .int 0, .ref b6, .ref b7, .ref b8, .int 0, .int 0, .int 0, .ref b9, .ref b10, .ref b11, .ref b12, .ref b13, .ref b14, .ref b15, .ref b16, .ref b17, .ref b18, .int 0, .ref b19, .ref b20, .ref b21, .ref b22, .ref b23, .ref b24, .ref b25])), (b20, .inl (Z.2 0, 4, .inl fl))]) hD hS hA [0, 1] rfl
    refine va_calli (va_runV (As := [.int a, .int b, .int d, .int 0]) (rest := []) ⟨hx, hb, hml, hown, hts⟩ (c_X9_lacksRow l Z H.size h0 b1 b2 b3 b4 b5 b6 b7 b8 b9 b10 b11 b12 b13 b14 b15 b16 b17 b18 b19 b20 b21 b22 b23 b24 b25 fl a b d 0 (hfl) ((z_ms c_2).1) (z_m1 (z_ms c_2).2)) (cwV 4 hts gX9_film_X9_lacksRow rfl rfl rfl (by decide +kernel) ⟨Nat.le_of_ble_eq_true rfl, Nat.le_of_ble_eq_true rfl⟩) ⟨fun a U g mk q => by obtain ⟨q0, q1, qP, qK, qD⟩ := q; exact ⟨q0, q1, qP, va_K.moved (u := U) (U := U.calling g mk a) (Vm.Alike.refl U.vm) qK, qD⟩, va_recv hK hPc (ci := 9) (q0 := 0) rfl rfl, fun U hU hW => ⟨rfl, by rw [hU], by rw [hU]; exact hPc, va_K.moved hW.alike hK, hDc.weaken (fun _ _ _ _ => trivial)⟩⟩ rfl rfl hl.1 rfl (lv_room (Nat.le_of_ble_eq_true rfl)) dX9_film_18 ⟨Nat.le_of_ble_eq_true rfl, Nat.le_of_ble_eq_true rfl⟩) hS (fun q _ h => hFc q h) hFc (fun r_3 u t H1 locs ht hvm hw hB hz1 hk1 hS => ?_)
    subst hw
    obtain ⟨hP1, hD1⟩ := hB
    rw [ht] at hP1
    obtain ⟨hP, hD⟩ := va_join (wr := []) (w1 := [(h0, .inr (9, [.ref b1, .ref b2, .ref b3, .ref b4, .int 0, .ref b5, .int 0, .ref b6, .ref b7, .ref b8, .int 0, .int 0, .int 0, .ref b9, .ref b10, .ref b11, .ref b12, .ref b13, .ref b14, .ref b15, .ref b16, .ref b17, .ref b18, .int 0, .ref b19, .ref b20, .ref b21, .ref b22, .ref b23, .ref b24, .ref b25])), (b20, .inl (Z.2 0, 4, .inl fl))]) hP hD [0, 1] [] rfl rfl (by decide) (by decide) hk1 hFc hP1 hD1
    clear hPc hDc hP1 hD1 hk1 hz1 hFc ht hvm
    generalize H1 = H at hP hS ⊢
    have hP : va_P Z.1 vwCl [(h0, .inr (9, [.ref b1, .ref b2, .ref b3, .ref b4, .int 0, .ref b5, .int 0, .ref b6, .ref b7, .ref b8, .int 0, .int 0, .int 0, .ref b9, .ref b10, .ref b11, .ref b12, .ref b13, .ref b14, .ref b15, .ref b16, .ref b17, .ref b18, .int 0, .ref b19, .ref b20, .ref b21, .ref b22, .ref b23, .ref b24, .ref b25])), (b20, .inl (Z.2 0, 4, .inl fl))] H := hP
    have hD : va_D A [(h0, .inr (9, [.ref b1, .ref b2, .ref b3, .ref b4, .int 0, .ref b5, .int 0, .ref b6, .ref b7, .ref b8, .int 0, .int 0, .int 0, .ref b9, .ref b10, .ref b11, .ref b12, .ref b13, .ref b14, .ref b15, .ref b16, .ref b17, .ref b18, .int 0, .ref b19, .ref b20, .ref b21, .ref b22, .ref b23, .ref b24, .ref b25])), (b20, .inl (Z.2 0, 4, .inl fl))] := hD
    refine lv_istore (lv' := [(4, .int (-11)), (0, .ref h0), (1, .int a), (2, .int b), (3, .int d)]) hx hb dX9_film_21 hl (by decide) rfl (fun ls hl => ?_)
    refine lv_iload hx hb dX9_film_23 (lv_at hl 0 rfl) ?_
    refine lv_if_ge (tgt := 31) hx hb dX9_film_25 (by decide) (fun c9 => absurd c9 (by decide)) (fun _ => ?_)
    refine lv_iload hx hb dX9_film_28 (lv_at hl 0 rfl) ?_
    exact W.iret (v := (-11)) hx hb hr (fun t ht hW => ⟨⟨(-11), (), rfl, (by rw [if_neg c_2]), trivial⟩, hS.F ht⟩) hS.2.2 dX9_film_30
  · refine lv_iconst (v := (-1)) hx hb dX9_film_8 (by decide) ?_
    exact W.iret (v := (-1)) hx hb hr (fun t ht hW => ⟨⟨(-1), (), rfl, (by rw [if_pos c_2]), trivial⟩, hS.F ht⟩) hS.2.2 dX9_film_9
set_option maxHeartbeats 4000000 in
set_option maxRecDepth 100000 in
theorem c_X9_who (l : Launch) (Z : gZ) (sz : Nat) (h0 : Nat) (b1 : Nat) (b2 : Nat) (b3 : Nat) (b4 : Nat) (b5 : Nat) (b6 : Nat) (b7 : Nat) (b8 : Nat) (b9 : Nat) (b10 : Nat) (b11 : Nat) (b12 : Nat) (b13 : Nat) (b14 : Nat) (b15 : Nat) (b16 : Nat) (b17 : Nat) (b18 : Nat) (b19 : Nat) (b20 : Nat) (b21 : Nat) (b22 : Nat) (b23 : Nat) (b24 : Nat) (b25 : Nat) (fl : Nat → Int32) (a : Int32) (b : Int32) (d : Int32) (f : Int32) (j : Int32) (hfl : ∀ j, j < 4 → fl j = -1) : Met l yX9_who wsX9_who ({ frames := 2, cells := 0, slots := 0, locals := 46 }) (va_Pc [.ref h0, .int a, .int b, .int d, .int f, .int j] (fun U => U.heap.size = sz ∧ va_P Z.1 vwCl [(h0, .inr (9, [.ref b1, .ref b2, .ref b3, .ref b4, .int 0, .ref b5, .int 0, .ref b6, .ref b7, .ref b8, .int 0, .int 0, .int 0, .ref b9, .ref b10, .ref b11, .ref b12, .ref b13, .ref b14, .ref b15, .ref b16, .ref b17, .ref b18, .int 0, .ref b19, .ref b20, .ref b21, .ref b22, .ref b23, .ref b24, .ref b25])), (b20, .inl (Z.2 0, 4, .inl fl))] U.heap ∧ va_K Z.1 vwCl (gT Z) U ∧ va_D (fun _ => True) [(h0, .inr (9, [.ref b1, .ref b2, .ref b3, .ref b4, .int 0, .ref b5, .int 0, .ref b6, .ref b7, .ref b8, .int 0, .int 0, .int 0, .ref b9, .ref b10, .ref b11, .ref b12, .ref b13, .ref b14, .ref b15, .ref b16, .ref b17, .ref b18, .int 0, .ref b19, .ref b20, .ref b21, .ref b22, .ref b23, .ref b24, .ref b25])), (b20, .inl (Z.2 0, 4, .inl fl))])) (va_Qi (fun (r : Int32) (u : Unit) => r = (if (if (if a.toInt64 < 0 then (0 : Int32) else (if 3 < a.toInt64 then (0 : Int32) else (1 : Int32))) = 0 then (0 : Int32) else (if (if b.toInt64 < 0 then (0 : Int32) else (if 2 < b.toInt64 then (0 : Int32) else (1 : Int32))) = 0 then (0 : Int32) else (1 : Int32))) = 0 then (-1 : Int32) else (if (if f.toInt64 < 1 then (0 : Int32) else (if 3 < f.toInt64 then (0 : Int32) else (1 : Int32))) = 0 then (-1 : Int32) else (if (if j.toInt64 < (-1) then (0 : Int32) else (if ((f - 1).toInt64) < j.toInt64 then (0 : Int32) else (1 : Int32))) = 0 then (-1 : Int32) else (-11 : Int32))))) (fun (u : Unit) (t : State) => True) (va_A [(h0, .inr (9, [.ref b1, .ref b2, .ref b3, .ref b4, .int 0, .ref b5, .int 0, .ref b6, .ref b7, .ref b8, .int 0, .int 0, .int 0, .ref b9, .ref b10, .ref b11, .ref b12, .ref b13, .ref b14, .ref b15, .ref b16, .ref b17, .ref b18, .int 0, .ref b19, .ref b20, .ref b21, .ref b22, .ref b23, .ref b24, .ref b25])), (b20, .inl (Z.2 0, 4, .inl fl))] sz)) 0 0 (va_A [(h0, .inr (9, [.ref b1, .ref b2, .ref b3, .ref b4, .int 0, .ref b5, .int 0, .ref b6, .ref b7, .ref b8, .int 0, .int 0, .int 0, .ref b9, .ref b10, .ref b11, .ref b12, .ref b13, .ref b14, .ref b15, .ref b16, .ref b17, .ref b18, .int 0, .ref b19, .ref b20, .ref b21, .ref b22, .ref b23, .ref b24, .ref b25])), (b20, .inl (Z.2 0, 4, .inl fl))] sz) := by
  refine Met.ofW (cc := cX9_who) (maxL := 11) (ret := (some .int)) (by decide) rfl ?_
  intro p e s m args below meth c s₁ B hml hv
  obtain ⟨rfl, hsz, hP, hK, hD0⟩ := hv
  have hx := B.exec
  have hb := B.bytes
  have hr := B.returns
  have hts := atoms_spec (ws := wsX9_who) B.pre
  have hown : s.vm.findClass RX9 = some m.cls := findClass_of_methodNamed B.named
  have hlocks := B.notSynchronized
  subst hsz
  have hin9 : ∀ w ∈ wsX90, w ∈ wsX9_who := by decide +kernel
  have hD := hD0.self (sz := s.heap.size)
  generalize hAe : va_A [(h0, .inr (9, [.ref b1, .ref b2, .ref b3, .ref b4, .int 0, .ref b5, .int 0, .ref b6, .ref b7, .ref b8, .int 0, .int 0, .int 0, .ref b9, .ref b10, .ref b11, .ref b12, .ref b13, .ref b14, .ref b15, .ref b16, .ref b17, .ref b18, .int 0, .ref b19, .ref b20, .ref b21, .ref b22, .ref b23, .ref b24, .ref b25])), (b20, .inl (Z.2 0, 4, .inl fl))] s.heap.size = A at hD ⊢
  have hA : ∀ q : Nat, s.heap.size ≤ q → A q := fun q h => by rw [← hAe]; exact Or.inr h
  have hS : va_S A s.heap s.heap [] := va_S.rf
  have hP : va_P Z.1 vwCl [(h0, .inr (9, [.ref b1, .ref b2, .ref b3, .ref b4, .int 0, .ref b5, .int 0, .ref b6, .ref b7, .ref b8, .int 0, .int 0, .int 0, .ref b9, .ref b10, .ref b11, .ref b12, .ref b13, .ref b14, .ref b15, .ref b16, .ref b17, .ref b18, .int 0, .ref b19, .ref b20, .ref b21, .ref b22, .ref b23, .ref b24, .ref b25])), (b20, .inl (Z.2 0, 4, .inl fl))] s.heap := hP
  have hl := lv_entry ([.ref h0, .int a, .int b, .int d, .int f, .int j]) (n := 11) (Nat.le_of_ble_eq_true rfl)
  rw [lg_entry_eq]
  generalize (lg_sl ([.ref h0, .int a, .int b, .int d, .int f, .int j]) ++ List.replicate (11 - (lg_sl ([.ref h0, .int a, .int b, .int d, .int f, .int j])).length) Slot.unset).toArray = ls at hl ⊢
  have hl : lv_has ls 11 [(0, .ref h0), (1, .int a), (2, .int b), (3, .int d), (4, .int f), (5, .int j)] := hl
  refine lv_iload_n hx hb dX9_who_0 rfl (lv_at hl 1 rfl) ?_
  refine lv_iload_n hx hb dX9_who_1 rfl (lv_at hl 2 rfl) ?_
  have hPc := hP.sub (ws' := []) [] rfl
  have hDc := hD.sub (ws' := []) [] (by decide) rfl
  have hFc := va_free (wc := []) hD hS hA [] rfl
  refine va_calli (va_runS (As := [.int a, .int b]) (rest := []) ⟨hx, hb, hml, hown, hts⟩ (c_X9_isSheet l Z s.heap.size a b) (va_cwS 2 hts gX9_who_X9_isSheet rfl rfl rfl (by decide +kernel) ⟨Nat.le_of_ble_eq_true rfl, Nat.le_of_ble_eq_true rfl⟩) ⟨fun a U g mk q => by obtain ⟨q0, q1, qP, qK, qD⟩ := q; exact ⟨q0, q1, qP, va_K.moved (u := U) (U := U.calling g mk a) (Vm.Alike.refl U.vm) qK, qD⟩, fun U hU hW => ⟨rfl, by rw [hU], by rw [hU]; exact hPc, va_K.moved hW.alike hK, hDc.weaken (fun _ _ _ _ => trivial)⟩⟩ rfl rfl hl.1 rfl (lv_room (Nat.le_of_ble_eq_true rfl)) dX9_who_2 ⟨Nat.le_of_ble_eq_true rfl, Nat.le_of_ble_eq_true rfl⟩) hS (fun q _ h => hFc q h) hFc (fun r_1 u t H1 locs ht hvm hw hB hz1 hk1 hS => ?_)
  subst hw
  have hP1 : va_P Z.1 vwCl [] H1 := fun k q h => by simp at h
  have hD1 : va_D (va_A [] s.heap.size) [] := ⟨fun i j p q h => by simp at h, fun k q h => by simp at h⟩
  obtain ⟨hP, hD⟩ := va_join (wr := [(h0, .inr (9, [.ref b1, .ref b2, .ref b3, .ref b4, .int 0, .ref b5, .int 0, .ref b6, .ref b7, .ref b8, .int 0, .int 0, .int 0, .ref b9, .ref b10, .ref b11, .ref b12, .ref b13, .ref b14, .ref b15, .ref b16, .ref b17, .ref b18, .int 0, .ref b19, .ref b20, .ref b21, .ref b22, .ref b23, .ref b24, .ref b25])), (b20, .inl (Z.2 0, 4, .inl fl))]) (w1 := []) hP hD [] [0, 1] rfl rfl (by decide) (by decide) hk1 hFc hP1 hD1
  clear hPc hDc hP1 hD1 hk1 hz1 hFc ht hvm
  generalize H1 = H at hP hS ⊢
  have hP : va_P Z.1 vwCl [(h0, .inr (9, [.ref b1, .ref b2, .ref b3, .ref b4, .int 0, .ref b5, .int 0, .ref b6, .ref b7, .ref b8, .int 0, .int 0, .int 0, .ref b9, .ref b10, .ref b11, .ref b12, .ref b13, .ref b14, .ref b15, .ref b16, .ref b17, .ref b18, .int 0, .ref b19, .ref b20, .ref b21, .ref b22, .ref b23, .ref b24, .ref b25])), (b20, .inl (Z.2 0, 4, .inl fl))] H := hP
  have hD : va_D A [(h0, .inr (9, [.ref b1, .ref b2, .ref b3, .ref b4, .int 0, .ref b5, .int 0, .ref b6, .ref b7, .ref b8, .int 0, .int 0, .int 0, .ref b9, .ref b10, .ref b11, .ref b12, .ref b13, .ref b14, .ref b15, .ref b16, .ref b17, .ref b18, .int 0, .ref b19, .ref b20, .ref b21, .ref b22, .ref b23, .ref b24, .ref b25])), (b20, .inl (Z.2 0, 4, .inl fl))] := hD
  refine lv_if_eq (tgt := 38) hx hb dX9_who_5 (by decide) (fun c_2 => ?_) (fun c_2 => ?_)
  · refine lv_iconst (v := (-1)) hx hb dX9_who_38 (by decide) ?_
    exact W.iret (v := (-1)) hx hb hr (fun t ht hW => ⟨⟨(-1), (), rfl, (by rw [if_pos c_2]), trivial⟩, hS.F ht⟩) hS.2.2 dX9_who_39
  · refine lv_iload hx hb dX9_who_8 (lv_at hl 4 rfl) ?_
    refine lv_i2l hx hb dX9_who_10 rfl ?_
    refine lv_lconst (v := 1) hx hb dX9_who_11 (by decide) ?_
    refine lv_ldc2 (v := 3) hx hb hown (hts (.constantLong RX9 98 (3)) (by decide +kernel)) dX9_who_12 ?_
    have hPc := hP.sub (ws' := []) [] rfl
    have hDc := hD.sub (ws' := []) [] (by decide) rfl
    have hFc := va_free (wc := []) hD hS hA [] rfl
    refine va_calli (va_runS (As := [.long f.toInt64, .long 1, .long 3]) (rest := []) ⟨hx, hb, hml, hown, hts⟩ (c_X9_in l Z H.size f.toInt64 1 3) (va_cwS 3 hts gX9_who_X9_in rfl rfl rfl (by decide +kernel) ⟨Nat.le_of_ble_eq_true rfl, Nat.le_of_ble_eq_true rfl⟩) ⟨fun a U g mk q => by obtain ⟨q0, q1, qP, qK, qD⟩ := q; exact ⟨q0, q1, qP, va_K.moved (u := U) (U := U.calling g mk a) (Vm.Alike.refl U.vm) qK, qD⟩, fun U hU hW => ⟨rfl, by rw [hU], by rw [hU]; exact hPc, va_K.moved hW.alike hK, hDc.weaken (fun _ _ _ _ => trivial)⟩⟩ rfl rfl hl.1 rfl (lv_room (Nat.le_of_ble_eq_true rfl)) dX9_who_15 ⟨Nat.le_of_ble_eq_true rfl, Nat.le_of_ble_eq_true rfl⟩) hS (fun q _ h => hFc q h) hFc (fun r_3 u t H1 locs ht hvm hw hB hz1 hk1 hS => ?_)
    subst hw
    have hP1 : va_P Z.1 vwCl [] H1 := fun k q h => by simp at h
    have hD1 : va_D (va_A [] H.size) [] := ⟨fun i j p q h => by simp at h, fun k q h => by simp at h⟩
    obtain ⟨hP, hD⟩ := va_join (wr := [(h0, .inr (9, [.ref b1, .ref b2, .ref b3, .ref b4, .int 0, .ref b5, .int 0, .ref b6, .ref b7, .ref b8, .int 0, .int 0, .int 0, .ref b9, .ref b10, .ref b11, .ref b12, .ref b13, .ref b14, .ref b15, .ref b16, .ref b17, .ref b18, .int 0, .ref b19, .ref b20, .ref b21, .ref b22, .ref b23, .ref b24, .ref b25])), (b20, .inl (Z.2 0, 4, .inl fl))]) (w1 := []) hP hD [] [0, 1] rfl rfl (by decide) (by decide) hk1 hFc hP1 hD1
    clear hPc hDc hP1 hD1 hk1 hz1 hFc ht hvm
    generalize H1 = H at hP hS ⊢
    have hP : va_P Z.1 vwCl [(h0, .inr (9, [.ref b1, .ref b2, .ref b3, .ref b4, .int 0, .ref b5, .int 0, .ref b6, .ref b7, .ref b8, .int 0, .int 0, .int 0, .ref b9, .ref b10, .ref b11, .ref b12, .ref b13, .ref b14, .ref b15, .ref b16, .ref b17, .ref b18, .int 0, .ref b19, .ref b20, .ref b21, .ref b22, .ref b23, .ref b24, .ref b25])), (b20, .inl (Z.2 0, 4, .inl fl))] H := hP
    have hD : va_D A [(h0, .inr (9, [.ref b1, .ref b2, .ref b3, .ref b4, .int 0, .ref b5, .int 0, .ref b6, .ref b7, .ref b8, .int 0, .int 0, .int 0, .ref b9, .ref b10, .ref b11, .ref b12, .ref b13, .ref b14, .ref b15, .ref b16, .ref b17, .ref b18, .int 0, .ref b19, .ref b20, .ref b21, .ref b22, .ref b23, .ref b24, .ref b25])), (b20, .inl (Z.2 0, 4, .inl fl))] := hD
    refine lv_if_eq (tgt := 38) hx hb dX9_who_18 (by decide) (fun c_4 => ?_) (fun c_4 => ?_)
    · refine lv_iconst (v := (-1)) hx hb dX9_who_38 (by decide) ?_
      exact W.iret (v := (-1)) hx hb hr (fun t ht hW => ⟨⟨(-1), (), rfl, (by rw [if_neg c_2, if_pos c_4]), trivial⟩, hS.F ht⟩) hS.2.2 dX9_who_39
    · refine lv_iload hx hb dX9_who_21 (lv_at hl 5 rfl) ?_
      refine lv_i2l hx hb dX9_who_23 rfl ?_
      refine lv_ldc2 (v := (-1)) hx hb hown (hts (.constantLong RX9 208 (-1)) (by decide +kernel)) dX9_who_24 ?_
      refine lv_iload hx hb dX9_who_27 (lv_at hl 4 rfl) ?_
      refine lv_iconst (v := 1) hx hb dX9_who_29 (by decide) ?_
      refine lv_isub hx hb dX9_who_30 ?_
      refine lv_i2l hx hb dX9_who_31 rfl ?_
      have hPc := hP.sub (ws' := []) [] rfl
      have hDc := hD.sub (ws' := []) [] (by decide) rfl
      have hFc := va_free (wc := []) hD hS hA [] rfl
      refine va_calli (va_runS (As := [.long j.toInt64, .long (-1), .long ((f - 1).toInt64)]) (rest := []) ⟨hx, hb, hml, hown, hts⟩ (c_X9_in l Z H.size j.toInt64 (-1) ((f - 1).toInt64)) (va_cwS 3 hts gX9_who_X9_in rfl rfl rfl (by decide +kernel) ⟨Nat.le_of_ble_eq_true rfl, Nat.le_of_ble_eq_true rfl⟩) ⟨fun a U g mk q => by obtain ⟨q0, q1, qP, qK, qD⟩ := q; exact ⟨q0, q1, qP, va_K.moved (u := U) (U := U.calling g mk a) (Vm.Alike.refl U.vm) qK, qD⟩, fun U hU hW => ⟨rfl, by rw [hU], by rw [hU]; exact hPc, va_K.moved hW.alike hK, hDc.weaken (fun _ _ _ _ => trivial)⟩⟩ rfl rfl hl.1 rfl (lv_room (Nat.le_of_ble_eq_true rfl)) dX9_who_32 ⟨Nat.le_of_ble_eq_true rfl, Nat.le_of_ble_eq_true rfl⟩) hS (fun q _ h => hFc q h) hFc (fun r_5 u t H1 locs ht hvm hw hB hz1 hk1 hS => ?_)
      subst hw
      have hP1 : va_P Z.1 vwCl [] H1 := fun k q h => by simp at h
      have hD1 : va_D (va_A [] H.size) [] := ⟨fun i j p q h => by simp at h, fun k q h => by simp at h⟩
      obtain ⟨hP, hD⟩ := va_join (wr := [(h0, .inr (9, [.ref b1, .ref b2, .ref b3, .ref b4, .int 0, .ref b5, .int 0, .ref b6, .ref b7, .ref b8, .int 0, .int 0, .int 0, .ref b9, .ref b10, .ref b11, .ref b12, .ref b13, .ref b14, .ref b15, .ref b16, .ref b17, .ref b18, .int 0, .ref b19, .ref b20, .ref b21, .ref b22, .ref b23, .ref b24, .ref b25])), (b20, .inl (Z.2 0, 4, .inl fl))]) (w1 := []) hP hD [] [0, 1] rfl rfl (by decide) (by decide) hk1 hFc hP1 hD1
      clear hPc hDc hP1 hD1 hk1 hz1 hFc ht hvm
      generalize H1 = H at hP hS ⊢
      have hP : va_P Z.1 vwCl [(h0, .inr (9, [.ref b1, .ref b2, .ref b3, .ref b4, .int 0, .ref b5, .int 0, .ref b6, .ref b7, .ref b8, .int 0, .int 0, .int 0, .ref b9, .ref b10, .ref b11, .ref b12, .ref b13, .ref b14, .ref b15, .ref b16, .ref b17, .ref b18, .int 0, .ref b19, .ref b20, .ref b21, .ref b22, .ref b23, .ref b24, .ref b25])), (b20, .inl (Z.2 0, 4, .inl fl))] H := hP
      have hD : va_D A [(h0, .inr (9, [.ref b1, .ref b2, .ref b3, .ref b4, .int 0, .ref b5, .int 0, .ref b6, .ref b7, .ref b8, .int 0, .int 0, .int 0, .ref b9, .ref b10, .ref b11, .ref b12, .ref b13, .ref b14, .ref b15, .ref b16, .ref b17, .ref b18, .int 0, .ref b19, .ref b20, .ref b21, .ref b22, .ref b23, .ref b24, .ref b25])), (b20, .inl (Z.2 0, 4, .inl fl))] := hD
      refine lv_if_ne (tgt := 40) hx hb dX9_who_35 (by decide) (fun c_6 => ?_) (fun c_6 => ?_)
      · refine lv_aload_n hx hb dX9_who_40 rfl (lv_at hl 0 rfl) ?_
        refine lv_iload_n hx hb dX9_who_41 rfl (lv_at hl 1 rfl) ?_
        refine lv_iload_n hx hb dX9_who_42 rfl (lv_at hl 2 rfl) ?_
        refine lv_iload_n hx hb dX9_who_43 rfl (lv_at hl 3 rfl) ?_
        refine lv_iconst (v := 2) hx hb dX9_who_44 (by decide) ?_
        refine lv_aload_n hx hb dX9_who_45 rfl (lv_at hl 0 rfl) ?_
        refine va_get (D := Z.1) (ci := 9) (v := .int 0) (C := RX9) (T := TX9) (N := 31) hx hb hts hin9 hown hK hP 0 rfl rfl 4 (by decide) (hts (.fieldLink RX9 86 "HalfAskedModel" "many" "I") (by decide +kernel)) (fun _ h9 => h9) rfl dX9_who_46 ?_
        refine lv_imul hx hb dX9_who_49 ?_
        refine lv_topi (fun f_7 ef_7 => ?_)
        obtain rfl : f_7 = 0 := ef_7.trans (by decide)
        have hPc := hP.sub (ws' := [(h0, .inr (9, [.ref b1, .ref b2, .ref b3, .ref b4, .int 0, .ref b5, .int 0, .ref b6, .ref b7, .ref b8, .int 0, .int 0, .int 0, .ref b9, .ref b10, .ref b11, .ref b12, .ref b13, .ref b14, .ref b15, .ref b16, .ref b17, .ref b18, .int 0, .ref b19, .ref b20, .ref b21, .ref b22, .ref b23, .ref b24, .ref b25])), (b20, .inl (Z.2 0, 4, .inl fl))]) [0, 1] rfl
        have hDc := hD.sub (ws' := [(h0, .inr (9, [.ref b1, .ref b2, .ref b3, .ref b4, .int 0, .ref b5, .int 0, .ref b6, .ref b7, .ref b8, .int 0, .int 0, .int 0, .ref b9, .ref b10, .ref b11, .ref b12, .ref b13, .ref b14, .ref b15, .ref b16, .ref b17, .ref b18, .int 0, .ref b19, .ref b20, .ref b21, .ref b22, .ref b23, .ref b24, .ref b25])), (b20, .inl (Z.2 0, 4, .inl fl))]) [0, 1] (by decide) rfl
        have hFc := va_free (wc := [(h0, .inr (9, [.ref b1, .ref b2, .ref b3, .ref b4, .int 0, .ref b5, .int 0, .ref b6, .ref b7, .ref b8, .int 0, .int 0, .int 0, .ref b9, .ref b10, .ref b11, .ref b12, .ref b13, .ref b14, .ref b15, .ref b16, .ref b17, .ref b18, .int 0, .ref b19, .ref b20, .ref b21, .ref b22, .ref b23, .ref b24, .ref b25])), (b20, .inl (Z.2 0, 4, .inl fl))]) hD hS hA [0, 1] rfl
        refine va_calli (va_runV (As := [.int a, .int b, .int d, .int 0]) (rest := []) ⟨hx, hb, hml, hown, hts⟩ (c_X9_lacksRow l Z H.size h0 b1 b2 b3 b4 b5 b6 b7 b8 b9 b10 b11 b12 b13 b14 b15 b16 b17 b18 b19 b20 b21 b22 b23 b24 b25 fl a b d 0 (hfl) ((z_ms c_2).1) (z_m1 (z_ms c_2).2)) (cwV 4 hts gX9_who_X9_lacksRow rfl rfl rfl (by decide +kernel) ⟨Nat.le_of_ble_eq_true rfl, Nat.le_of_ble_eq_true rfl⟩) ⟨fun a U g mk q => by obtain ⟨q0, q1, qP, qK, qD⟩ := q; exact ⟨q0, q1, qP, va_K.moved (u := U) (U := U.calling g mk a) (Vm.Alike.refl U.vm) qK, qD⟩, va_recv hK hPc (ci := 9) (q0 := 0) rfl rfl, fun U hU hW => ⟨rfl, by rw [hU], by rw [hU]; exact hPc, va_K.moved hW.alike hK, hDc.weaken (fun _ _ _ _ => trivial)⟩⟩ rfl rfl hl.1 rfl (lv_room (Nat.le_of_ble_eq_true rfl)) dX9_who_50 ⟨Nat.le_of_ble_eq_true rfl, Nat.le_of_ble_eq_true rfl⟩) hS (fun q _ h => hFc q h) hFc (fun r_8 u t H1 locs ht hvm hw hB hz1 hk1 hS => ?_)
        subst hw
        obtain ⟨hP1, hD1⟩ := hB
        rw [ht] at hP1
        obtain ⟨hP, hD⟩ := va_join (wr := []) (w1 := [(h0, .inr (9, [.ref b1, .ref b2, .ref b3, .ref b4, .int 0, .ref b5, .int 0, .ref b6, .ref b7, .ref b8, .int 0, .int 0, .int 0, .ref b9, .ref b10, .ref b11, .ref b12, .ref b13, .ref b14, .ref b15, .ref b16, .ref b17, .ref b18, .int 0, .ref b19, .ref b20, .ref b21, .ref b22, .ref b23, .ref b24, .ref b25])), (b20, .inl (Z.2 0, 4, .inl fl))]) hP hD [0, 1] [] rfl rfl (by decide) (by decide) hk1 hFc hP1 hD1
        clear hPc hDc hP1 hD1 hk1 hz1 hFc ht hvm
        generalize H1 = H at hP hS ⊢
        have hP : va_P Z.1 vwCl [(h0, .inr (9, [.ref b1, .ref b2, .ref b3, .ref b4, .int 0, .ref b5, .int 0, .ref b6, .ref b7, .ref b8, .int 0, .int 0, .int 0, .ref b9, .ref b10, .ref b11, .ref b12, .ref b13, .ref b14, .ref b15, .ref b16, .ref b17, .ref b18, .int 0, .ref b19, .ref b20, .ref b21, .ref b22, .ref b23, .ref b24, .ref b25])), (b20, .inl (Z.2 0, 4, .inl fl))] H := hP
        have hD : va_D A [(h0, .inr (9, [.ref b1, .ref b2, .ref b3, .ref b4, .int 0, .ref b5, .int 0, .ref b6, .ref b7, .ref b8, .int 0, .int 0, .int 0, .ref b9, .ref b10, .ref b11, .ref b12, .ref b13, .ref b14, .ref b15, .ref b16, .ref b17, .ref b18, .int 0, .ref b19, .ref b20, .ref b21, .ref b22, .ref b23, .ref b24, .ref b25])), (b20, .inl (Z.2 0, 4, .inl fl))] := hD
        refine lv_istore (lv' := [(6, .int (-11)), (0, .ref h0), (1, .int a), (2, .int b), (3, .int d), (4, .int f), (5, .int j)]) hx hb dX9_who_53 hl (by decide) rfl (fun ls hl => ?_)
        refine lv_iload hx hb dX9_who_55 (lv_at hl 0 rfl) ?_
        refine lv_if_ge (tgt := 63) hx hb dX9_who_57 (by decide) (fun c9 => absurd c9 (by decide)) (fun _ => ?_)
        refine lv_iload hx hb dX9_who_60 (lv_at hl 0 rfl) ?_
        exact W.iret (v := (-11)) hx hb hr (fun t ht hW => ⟨⟨(-11), (), rfl, (by rw [if_neg c_2, if_neg c_4, if_neg c_6]), trivial⟩, hS.F ht⟩) hS.2.2 dX9_who_62
      · refine lv_iconst (v := (-1)) hx hb dX9_who_38 (by decide) ?_
        exact W.iret (v := (-1)) hx hb hr (fun t ht hW => ⟨⟨(-1), (), rfl, (by rw [if_neg c_2, if_neg c_4, if_pos c_6]), trivial⟩, hS.F ht⟩) hS.2.2 dX9_who_39
set_option maxHeartbeats 4000000 in
set_option maxRecDepth 100000 in
theorem c_X9_drop (l : Launch) (Z : gZ) (sz : Nat) (h0 : Nat) (b1 : Nat) (b2 : Nat) (b3 : Nat) (b4 : Nat) (b5 : Nat) (b6 : Nat) (b7 : Nat) (b8 : Nat) (b9 : Nat) (b10 : Nat) (b11 : Nat) (b12 : Nat) (b13 : Nat) (b14 : Nat) (b15 : Nat) (b16 : Nat) (b17 : Nat) (b18 : Nat) (b19 : Nat) (b20 : Nat) (b21 : Nat) (b22 : Nat) (b23 : Nat) (b24 : Nat) (b25 : Nat) (fl : Nat → Int32) (a : Int32) (hfl : ∀ j, j < 4 → fl j = -1) : Met l yX9_drop wsX9_drop ({ frames := 1, cells := 0, slots := 0, locals := 25 }) (va_Pc [.ref h0, .int a] (fun U => U.heap.size = sz ∧ va_P Z.1 vwCl [(h0, .inr (9, [.ref b1, .ref b2, .ref b3, .ref b4, .int 0, .ref b5, .int 0, .ref b6, .ref b7, .ref b8, .int 0, .int 0, .int 0, .ref b9, .ref b10, .ref b11, .ref b12, .ref b13, .ref b14, .ref b15, .ref b16, .ref b17, .ref b18, .int 0, .ref b19, .ref b20, .ref b21, .ref b22, .ref b23, .ref b24, .ref b25])), (b20, .inl (Z.2 0, 4, .inl fl))] U.heap ∧ va_K Z.1 vwCl (gT Z) U ∧ va_D (fun _ => True) [(h0, .inr (9, [.ref b1, .ref b2, .ref b3, .ref b4, .int 0, .ref b5, .int 0, .ref b6, .ref b7, .ref b8, .int 0, .int 0, .int 0, .ref b9, .ref b10, .ref b11, .ref b12, .ref b13, .ref b14, .ref b15, .ref b16, .ref b17, .ref b18, .int 0, .ref b19, .ref b20, .ref b21, .ref b22, .ref b23, .ref b24, .ref b25])), (b20, .inl (Z.2 0, 4, .inl fl))])) (va_Qi (fun (r : Int32) (u : Unit) => r = (if (if a.toInt64 < 0 then (0 : Int32) else (if 3 < a.toInt64 then (0 : Int32) else (1 : Int32))) = 0 then (-1 : Int32) else (-11 : Int32))) (fun (u : Unit) (t : State) => True) (va_A [(h0, .inr (9, [.ref b1, .ref b2, .ref b3, .ref b4, .int 0, .ref b5, .int 0, .ref b6, .ref b7, .ref b8, .int 0, .int 0, .int 0, .ref b9, .ref b10, .ref b11, .ref b12, .ref b13, .ref b14, .ref b15, .ref b16, .ref b17, .ref b18, .int 0, .ref b19, .ref b20, .ref b21, .ref b22, .ref b23, .ref b24, .ref b25])), (b20, .inl (Z.2 0, 4, .inl fl))] sz)) 0 0 (va_A [(h0, .inr (9, [.ref b1, .ref b2, .ref b3, .ref b4, .int 0, .ref b5, .int 0, .ref b6, .ref b7, .ref b8, .int 0, .int 0, .int 0, .ref b9, .ref b10, .ref b11, .ref b12, .ref b13, .ref b14, .ref b15, .ref b16, .ref b17, .ref b18, .int 0, .ref b19, .ref b20, .ref b21, .ref b22, .ref b23, .ref b24, .ref b25])), (b20, .inl (Z.2 0, 4, .inl fl))] sz) := by
  refine Met.ofW (cc := cX9_drop) (maxL := 2) (ret := (some .int)) (by decide) rfl ?_
  intro p e s m args below meth c s₁ B hml hv
  obtain ⟨rfl, hsz, hP, hK, hD0⟩ := hv
  have hx := B.exec
  have hb := B.bytes
  have hr := B.returns
  have hts := atoms_spec (ws := wsX9_drop) B.pre
  have hown : s.vm.findClass RX9 = some m.cls := findClass_of_methodNamed B.named
  have hlocks := B.notSynchronized
  subst hsz
  have hin9 : ∀ w ∈ wsX90, w ∈ wsX9_drop := by decide +kernel
  have hD := hD0.self (sz := s.heap.size)
  generalize hAe : va_A [(h0, .inr (9, [.ref b1, .ref b2, .ref b3, .ref b4, .int 0, .ref b5, .int 0, .ref b6, .ref b7, .ref b8, .int 0, .int 0, .int 0, .ref b9, .ref b10, .ref b11, .ref b12, .ref b13, .ref b14, .ref b15, .ref b16, .ref b17, .ref b18, .int 0, .ref b19, .ref b20, .ref b21, .ref b22, .ref b23, .ref b24, .ref b25])), (b20, .inl (Z.2 0, 4, .inl fl))] s.heap.size = A at hD ⊢
  have hA : ∀ q : Nat, s.heap.size ≤ q → A q := fun q h => by rw [← hAe]; exact Or.inr h
  have hS : va_S A s.heap s.heap [] := va_S.rf
  have hP : va_P Z.1 vwCl [(h0, .inr (9, [.ref b1, .ref b2, .ref b3, .ref b4, .int 0, .ref b5, .int 0, .ref b6, .ref b7, .ref b8, .int 0, .int 0, .int 0, .ref b9, .ref b10, .ref b11, .ref b12, .ref b13, .ref b14, .ref b15, .ref b16, .ref b17, .ref b18, .int 0, .ref b19, .ref b20, .ref b21, .ref b22, .ref b23, .ref b24, .ref b25])), (b20, .inl (Z.2 0, 4, .inl fl))] s.heap := hP
  have hl := lv_entry ([.ref h0, .int a]) (n := 2) (Nat.le_of_ble_eq_true rfl)
  rw [lg_entry_eq]
  generalize (lg_sl ([.ref h0, .int a]) ++ List.replicate (2 - (lg_sl ([.ref h0, .int a])).length) Slot.unset).toArray = ls at hl ⊢
  have hl : lv_has ls 2 [(0, .ref h0), (1, .int a)] := hl
  refine lv_iload_n hx hb dX9_drop_0 rfl (lv_at hl 1 rfl) ?_
  refine lv_i2l hx hb dX9_drop_1 rfl ?_
  refine lv_lconst (v := 0) hx hb dX9_drop_2 (by decide) ?_
  refine lv_ldc2 (v := 3) hx hb hown (hts (.constantLong RX9 98 (3)) (by decide +kernel)) dX9_drop_3 ?_
  have hPc := hP.sub (ws' := []) [] rfl
  have hDc := hD.sub (ws' := []) [] (by decide) rfl
  have hFc := va_free (wc := []) hD hS hA [] rfl
  refine va_calli (va_runS (As := [.long a.toInt64, .long 0, .long 3]) (rest := []) ⟨hx, hb, hml, hown, hts⟩ (c_X9_in l Z s.heap.size a.toInt64 0 3) (va_cwS 3 hts gX9_drop_X9_in rfl rfl rfl (by decide +kernel) ⟨Nat.le_of_ble_eq_true rfl, Nat.le_of_ble_eq_true rfl⟩) ⟨fun a U g mk q => by obtain ⟨q0, q1, qP, qK, qD⟩ := q; exact ⟨q0, q1, qP, va_K.moved (u := U) (U := U.calling g mk a) (Vm.Alike.refl U.vm) qK, qD⟩, fun U hU hW => ⟨rfl, by rw [hU], by rw [hU]; exact hPc, va_K.moved hW.alike hK, hDc.weaken (fun _ _ _ _ => trivial)⟩⟩ rfl rfl hl.1 rfl (lv_room (Nat.le_of_ble_eq_true rfl)) dX9_drop_6 ⟨Nat.le_of_ble_eq_true rfl, Nat.le_of_ble_eq_true rfl⟩) hS (fun q _ h => hFc q h) hFc (fun r_1 u t H1 locs ht hvm hw hB hz1 hk1 hS => ?_)
  subst hw
  have hP1 : va_P Z.1 vwCl [] H1 := fun k q h => by simp at h
  have hD1 : va_D (va_A [] s.heap.size) [] := ⟨fun i j p q h => by simp at h, fun k q h => by simp at h⟩
  obtain ⟨hP, hD⟩ := va_join (wr := [(h0, .inr (9, [.ref b1, .ref b2, .ref b3, .ref b4, .int 0, .ref b5, .int 0, .ref b6, .ref b7, .ref b8, .int 0, .int 0, .int 0, .ref b9, .ref b10, .ref b11, .ref b12, .ref b13, .ref b14, .ref b15, .ref b16, .ref b17, .ref b18, .int 0, .ref b19, .ref b20, .ref b21, .ref b22, .ref b23, .ref b24, .ref b25])), (b20, .inl (Z.2 0, 4, .inl fl))]) (w1 := []) hP hD [] [0, 1] rfl rfl (by decide) (by decide) hk1 hFc hP1 hD1
  clear hPc hDc hP1 hD1 hk1 hz1 hFc ht hvm
  generalize H1 = H at hP hS ⊢
  have hP : va_P Z.1 vwCl [(h0, .inr (9, [.ref b1, .ref b2, .ref b3, .ref b4, .int 0, .ref b5, .int 0, .ref b6, .ref b7, .ref b8, .int 0, .int 0, .int 0, .ref b9, .ref b10, .ref b11, .ref b12, .ref b13, .ref b14, .ref b15, .ref b16, .ref b17, .ref b18, .int 0, .ref b19, .ref b20, .ref b21, .ref b22, .ref b23, .ref b24, .ref b25])), (b20, .inl (Z.2 0, 4, .inl fl))] H := hP
  have hD : va_D A [(h0, .inr (9, [.ref b1, .ref b2, .ref b3, .ref b4, .int 0, .ref b5, .int 0, .ref b6, .ref b7, .ref b8, .int 0, .int 0, .int 0, .ref b9, .ref b10, .ref b11, .ref b12, .ref b13, .ref b14, .ref b15, .ref b16, .ref b17, .ref b18, .int 0, .ref b19, .ref b20, .ref b21, .ref b22, .ref b23, .ref b24, .ref b25])), (b20, .inl (Z.2 0, 4, .inl fl))] := hD
  refine lv_if_ne (tgt := 14) hx hb dX9_drop_9 (by decide) (fun c_2 => ?_) (fun c_2 => ?_)
  · refine lv_aload_n hx hb dX9_drop_14 rfl (lv_at hl 0 rfl) ?_
    refine va_get (D := Z.1) (ci := 9) (v := .ref b20) (C := RX9) (T := TX9) (N := 31) hx hb hts hin9 hown hK hP 0 rfl rfl 25 (by decide) (hts (.fieldLink RX9 68 "HalfAskedModel" "lanes" "[I") (by decide +kernel)) (fun _ h9 => h9) rfl dX9_drop_15 ?_
    refine lv_iload_n hx hb dX9_drop_18 rfl (lv_at hl 1 rfl) ?_
    refine va_iald hx hb hK hP 1 0 rfl rfl (z_in (z_in4 c_2)) dX9_drop_19 ?_
    refine lv_topi (fun f_3 ef_3 => ?_)
    obtain rfl : f_3 = (-1) := ef_3.trans (hfl _ (z_cl4 (z_in4 c_2)))
    refine lv_if_ge (tgt := 26) hx hb dX9_drop_20 (by decide) (fun c9 => absurd c9 (by decide)) (fun _ => ?_)
    refine lv_bipush (v := (-11)) hx hb dX9_drop_23 (by decide) ?_
    exact W.iret (v := (-11)) hx hb hr (fun t ht hW => ⟨⟨(-11), (), rfl, (by rw [if_neg c_2]), trivial⟩, hS.F ht⟩) hS.2.2 dX9_drop_25
  · refine lv_iconst (v := (-1)) hx hb dX9_drop_12 (by decide) ?_
    exact W.iret (v := (-1)) hx hb hr (fun t ht hW => ⟨⟨(-1), (), rfl, (by rw [if_pos c_2]), trivial⟩, hS.F ht⟩) hS.2.2 dX9_drop_13
set_option maxHeartbeats 4000000 in
set_option maxRecDepth 100000 in
theorem c_X9_copy (l : Launch) (Z : gZ) (sz : Nat) (h0 : Nat) (b1 : Nat) (b2 : Nat) (b3 : Nat) (b4 : Nat) (b5 : Nat) (b6 : Nat) (b7 : Nat) (b8 : Nat) (b9 : Nat) (b10 : Nat) (b11 : Nat) (b12 : Nat) (b13 : Nat) (b14 : Nat) (b15 : Nat) (b16 : Nat) (b17 : Nat) (b18 : Nat) (b19 : Nat) (b20 : Nat) (b21 : Nat) (b22 : Nat) (b23 : Nat) (b24 : Nat) (b25 : Nat) (fl : Nat → Int32) (a : Int32) (b : Int32) (d : Int32) (f : Int32) (j : Int32) (hfl : ∀ j, j < 4 → fl j = -1) : Met l yX9_copy wsX9_copy ({ frames := 1, cells := 0, slots := 0, locals := 25 }) (va_Pc [.ref h0, .int a, .int b, .int d, .int f, .int j] (fun U => U.heap.size = sz ∧ va_P Z.1 vwCl [(h0, .inr (9, [.ref b1, .ref b2, .ref b3, .ref b4, .int 0, .ref b5, .int 0, .ref b6, .ref b7, .ref b8, .int 0, .int 0, .int 0, .ref b9, .ref b10, .ref b11, .ref b12, .ref b13, .ref b14, .ref b15, .ref b16, .ref b17, .ref b18, .int 0, .ref b19, .ref b20, .ref b21, .ref b22, .ref b23, .ref b24, .ref b25])), (b20, .inl (Z.2 0, 4, .inl fl))] U.heap ∧ va_K Z.1 vwCl (gT Z) U ∧ va_D (fun _ => True) [(h0, .inr (9, [.ref b1, .ref b2, .ref b3, .ref b4, .int 0, .ref b5, .int 0, .ref b6, .ref b7, .ref b8, .int 0, .int 0, .int 0, .ref b9, .ref b10, .ref b11, .ref b12, .ref b13, .ref b14, .ref b15, .ref b16, .ref b17, .ref b18, .int 0, .ref b19, .ref b20, .ref b21, .ref b22, .ref b23, .ref b24, .ref b25])), (b20, .inl (Z.2 0, 4, .inl fl))])) (va_Qi (fun (r : Int32) (u : Unit) => r = (if (if a.toInt64 < 0 then (0 : Int32) else (if 3 < a.toInt64 then (0 : Int32) else (1 : Int32))) = 0 then (-1 : Int32) else (if (if d.toInt64 < 0 then (0 : Int32) else (if 3 < d.toInt64 then (0 : Int32) else (1 : Int32))) = 0 then (-1 : Int32) else (-11 : Int32)))) (fun (u : Unit) (t : State) => True) (va_A [(h0, .inr (9, [.ref b1, .ref b2, .ref b3, .ref b4, .int 0, .ref b5, .int 0, .ref b6, .ref b7, .ref b8, .int 0, .int 0, .int 0, .ref b9, .ref b10, .ref b11, .ref b12, .ref b13, .ref b14, .ref b15, .ref b16, .ref b17, .ref b18, .int 0, .ref b19, .ref b20, .ref b21, .ref b22, .ref b23, .ref b24, .ref b25])), (b20, .inl (Z.2 0, 4, .inl fl))] sz)) 0 0 (va_A [(h0, .inr (9, [.ref b1, .ref b2, .ref b3, .ref b4, .int 0, .ref b5, .int 0, .ref b6, .ref b7, .ref b8, .int 0, .int 0, .int 0, .ref b9, .ref b10, .ref b11, .ref b12, .ref b13, .ref b14, .ref b15, .ref b16, .ref b17, .ref b18, .int 0, .ref b19, .ref b20, .ref b21, .ref b22, .ref b23, .ref b24, .ref b25])), (b20, .inl (Z.2 0, 4, .inl fl))] sz) := by
  refine Met.ofW (cc := cX9_copy) (maxL := 7) (ret := (some .int)) (by decide) rfl ?_
  intro p e s m args below meth c s₁ B hml hv
  obtain ⟨rfl, hsz, hP, hK, hD0⟩ := hv
  have hx := B.exec
  have hb := B.bytes
  have hr := B.returns
  have hts := atoms_spec (ws := wsX9_copy) B.pre
  have hown : s.vm.findClass RX9 = some m.cls := findClass_of_methodNamed B.named
  have hlocks := B.notSynchronized
  subst hsz
  have hin9 : ∀ w ∈ wsX90, w ∈ wsX9_copy := by decide +kernel
  have hD := hD0.self (sz := s.heap.size)
  generalize hAe : va_A [(h0, .inr (9, [.ref b1, .ref b2, .ref b3, .ref b4, .int 0, .ref b5, .int 0, .ref b6, .ref b7, .ref b8, .int 0, .int 0, .int 0, .ref b9, .ref b10, .ref b11, .ref b12, .ref b13, .ref b14, .ref b15, .ref b16, .ref b17, .ref b18, .int 0, .ref b19, .ref b20, .ref b21, .ref b22, .ref b23, .ref b24, .ref b25])), (b20, .inl (Z.2 0, 4, .inl fl))] s.heap.size = A at hD ⊢
  have hA : ∀ q : Nat, s.heap.size ≤ q → A q := fun q h => by rw [← hAe]; exact Or.inr h
  have hS : va_S A s.heap s.heap [] := va_S.rf
  have hP : va_P Z.1 vwCl [(h0, .inr (9, [.ref b1, .ref b2, .ref b3, .ref b4, .int 0, .ref b5, .int 0, .ref b6, .ref b7, .ref b8, .int 0, .int 0, .int 0, .ref b9, .ref b10, .ref b11, .ref b12, .ref b13, .ref b14, .ref b15, .ref b16, .ref b17, .ref b18, .int 0, .ref b19, .ref b20, .ref b21, .ref b22, .ref b23, .ref b24, .ref b25])), (b20, .inl (Z.2 0, 4, .inl fl))] s.heap := hP
  have hl := lv_entry ([.ref h0, .int a, .int b, .int d, .int f, .int j]) (n := 7) (Nat.le_of_ble_eq_true rfl)
  rw [lg_entry_eq]
  generalize (lg_sl ([.ref h0, .int a, .int b, .int d, .int f, .int j]) ++ List.replicate (7 - (lg_sl ([.ref h0, .int a, .int b, .int d, .int f, .int j])).length) Slot.unset).toArray = ls at hl ⊢
  have hl : lv_has ls 7 [(0, .ref h0), (1, .int a), (2, .int b), (3, .int d), (4, .int f), (5, .int j)] := hl
  refine lv_iload_n hx hb dX9_copy_0 rfl (lv_at hl 1 rfl) ?_
  refine lv_i2l hx hb dX9_copy_1 rfl ?_
  refine lv_lconst (v := 0) hx hb dX9_copy_2 (by decide) ?_
  refine lv_ldc2 (v := 3) hx hb hown (hts (.constantLong RX9 98 (3)) (by decide +kernel)) dX9_copy_3 ?_
  have hPc := hP.sub (ws' := []) [] rfl
  have hDc := hD.sub (ws' := []) [] (by decide) rfl
  have hFc := va_free (wc := []) hD hS hA [] rfl
  refine va_calli (va_runS (As := [.long a.toInt64, .long 0, .long 3]) (rest := []) ⟨hx, hb, hml, hown, hts⟩ (c_X9_in l Z s.heap.size a.toInt64 0 3) (va_cwS 3 hts gX9_copy_X9_in rfl rfl rfl (by decide +kernel) ⟨Nat.le_of_ble_eq_true rfl, Nat.le_of_ble_eq_true rfl⟩) ⟨fun a U g mk q => by obtain ⟨q0, q1, qP, qK, qD⟩ := q; exact ⟨q0, q1, qP, va_K.moved (u := U) (U := U.calling g mk a) (Vm.Alike.refl U.vm) qK, qD⟩, fun U hU hW => ⟨rfl, by rw [hU], by rw [hU]; exact hPc, va_K.moved hW.alike hK, hDc.weaken (fun _ _ _ _ => trivial)⟩⟩ rfl rfl hl.1 rfl (lv_room (Nat.le_of_ble_eq_true rfl)) dX9_copy_6 ⟨Nat.le_of_ble_eq_true rfl, Nat.le_of_ble_eq_true rfl⟩) hS (fun q _ h => hFc q h) hFc (fun r_1 u t H1 locs ht hvm hw hB hz1 hk1 hS => ?_)
  subst hw
  have hP1 : va_P Z.1 vwCl [] H1 := fun k q h => by simp at h
  have hD1 : va_D (va_A [] s.heap.size) [] := ⟨fun i j p q h => by simp at h, fun k q h => by simp at h⟩
  obtain ⟨hP, hD⟩ := va_join (wr := [(h0, .inr (9, [.ref b1, .ref b2, .ref b3, .ref b4, .int 0, .ref b5, .int 0, .ref b6, .ref b7, .ref b8, .int 0, .int 0, .int 0, .ref b9, .ref b10, .ref b11, .ref b12, .ref b13, .ref b14, .ref b15, .ref b16, .ref b17, .ref b18, .int 0, .ref b19, .ref b20, .ref b21, .ref b22, .ref b23, .ref b24, .ref b25])), (b20, .inl (Z.2 0, 4, .inl fl))]) (w1 := []) hP hD [] [0, 1] rfl rfl (by decide) (by decide) hk1 hFc hP1 hD1
  clear hPc hDc hP1 hD1 hk1 hz1 hFc ht hvm
  generalize H1 = H at hP hS ⊢
  have hP : va_P Z.1 vwCl [(h0, .inr (9, [.ref b1, .ref b2, .ref b3, .ref b4, .int 0, .ref b5, .int 0, .ref b6, .ref b7, .ref b8, .int 0, .int 0, .int 0, .ref b9, .ref b10, .ref b11, .ref b12, .ref b13, .ref b14, .ref b15, .ref b16, .ref b17, .ref b18, .int 0, .ref b19, .ref b20, .ref b21, .ref b22, .ref b23, .ref b24, .ref b25])), (b20, .inl (Z.2 0, 4, .inl fl))] H := hP
  have hD : va_D A [(h0, .inr (9, [.ref b1, .ref b2, .ref b3, .ref b4, .int 0, .ref b5, .int 0, .ref b6, .ref b7, .ref b8, .int 0, .int 0, .int 0, .ref b9, .ref b10, .ref b11, .ref b12, .ref b13, .ref b14, .ref b15, .ref b16, .ref b17, .ref b18, .int 0, .ref b19, .ref b20, .ref b21, .ref b22, .ref b23, .ref b24, .ref b25])), (b20, .inl (Z.2 0, 4, .inl fl))] := hD
  refine lv_if_eq (tgt := 24) hx hb dX9_copy_9 (by decide) (fun c_2 => ?_) (fun c_2 => ?_)
  · refine lv_iconst (v := (-1)) hx hb dX9_copy_24 (by decide) ?_
    exact W.iret (v := (-1)) hx hb hr (fun t ht hW => ⟨⟨(-1), (), rfl, (by rw [if_pos c_2]), trivial⟩, hS.F ht⟩) hS.2.2 dX9_copy_25
  · refine lv_iload_n hx hb dX9_copy_12 rfl (lv_at hl 3 rfl) ?_
    refine lv_i2l hx hb dX9_copy_13 rfl ?_
    refine lv_lconst (v := 0) hx hb dX9_copy_14 (by decide) ?_
    refine lv_ldc2 (v := 3) hx hb hown (hts (.constantLong RX9 98 (3)) (by decide +kernel)) dX9_copy_15 ?_
    have hPc := hP.sub (ws' := []) [] rfl
    have hDc := hD.sub (ws' := []) [] (by decide) rfl
    have hFc := va_free (wc := []) hD hS hA [] rfl
    refine va_calli (va_runS (As := [.long d.toInt64, .long 0, .long 3]) (rest := []) ⟨hx, hb, hml, hown, hts⟩ (c_X9_in l Z H.size d.toInt64 0 3) (va_cwS 3 hts gX9_copy_X9_in rfl rfl rfl (by decide +kernel) ⟨Nat.le_of_ble_eq_true rfl, Nat.le_of_ble_eq_true rfl⟩) ⟨fun a U g mk q => by obtain ⟨q0, q1, qP, qK, qD⟩ := q; exact ⟨q0, q1, qP, va_K.moved (u := U) (U := U.calling g mk a) (Vm.Alike.refl U.vm) qK, qD⟩, fun U hU hW => ⟨rfl, by rw [hU], by rw [hU]; exact hPc, va_K.moved hW.alike hK, hDc.weaken (fun _ _ _ _ => trivial)⟩⟩ rfl rfl hl.1 rfl (lv_room (Nat.le_of_ble_eq_true rfl)) dX9_copy_18 ⟨Nat.le_of_ble_eq_true rfl, Nat.le_of_ble_eq_true rfl⟩) hS (fun q _ h => hFc q h) hFc (fun r_3 u t H1 locs ht hvm hw hB hz1 hk1 hS => ?_)
    subst hw
    have hP1 : va_P Z.1 vwCl [] H1 := fun k q h => by simp at h
    have hD1 : va_D (va_A [] H.size) [] := ⟨fun i j p q h => by simp at h, fun k q h => by simp at h⟩
    obtain ⟨hP, hD⟩ := va_join (wr := [(h0, .inr (9, [.ref b1, .ref b2, .ref b3, .ref b4, .int 0, .ref b5, .int 0, .ref b6, .ref b7, .ref b8, .int 0, .int 0, .int 0, .ref b9, .ref b10, .ref b11, .ref b12, .ref b13, .ref b14, .ref b15, .ref b16, .ref b17, .ref b18, .int 0, .ref b19, .ref b20, .ref b21, .ref b22, .ref b23, .ref b24, .ref b25])), (b20, .inl (Z.2 0, 4, .inl fl))]) (w1 := []) hP hD [] [0, 1] rfl rfl (by decide) (by decide) hk1 hFc hP1 hD1
    clear hPc hDc hP1 hD1 hk1 hz1 hFc ht hvm
    generalize H1 = H at hP hS ⊢
    have hP : va_P Z.1 vwCl [(h0, .inr (9, [.ref b1, .ref b2, .ref b3, .ref b4, .int 0, .ref b5, .int 0, .ref b6, .ref b7, .ref b8, .int 0, .int 0, .int 0, .ref b9, .ref b10, .ref b11, .ref b12, .ref b13, .ref b14, .ref b15, .ref b16, .ref b17, .ref b18, .int 0, .ref b19, .ref b20, .ref b21, .ref b22, .ref b23, .ref b24, .ref b25])), (b20, .inl (Z.2 0, 4, .inl fl))] H := hP
    have hD : va_D A [(h0, .inr (9, [.ref b1, .ref b2, .ref b3, .ref b4, .int 0, .ref b5, .int 0, .ref b6, .ref b7, .ref b8, .int 0, .int 0, .int 0, .ref b9, .ref b10, .ref b11, .ref b12, .ref b13, .ref b14, .ref b15, .ref b16, .ref b17, .ref b18, .int 0, .ref b19, .ref b20, .ref b21, .ref b22, .ref b23, .ref b24, .ref b25])), (b20, .inl (Z.2 0, 4, .inl fl))] := hD
    refine lv_if_ne (tgt := 26) hx hb dX9_copy_21 (by decide) (fun c_4 => ?_) (fun c_4 => ?_)
    · refine lv_aload_n hx hb dX9_copy_26 rfl (lv_at hl 0 rfl) ?_
      refine va_get (D := Z.1) (ci := 9) (v := .ref b20) (C := RX9) (T := TX9) (N := 31) hx hb hts hin9 hown hK hP 0 rfl rfl 25 (by decide) (hts (.fieldLink RX9 68 "HalfAskedModel" "lanes" "[I") (by decide +kernel)) (fun _ h9 => h9) rfl dX9_copy_27 ?_
      refine lv_iload_n hx hb dX9_copy_30 rfl (lv_at hl 1 rfl) ?_
      refine va_iald hx hb hK hP 1 0 rfl rfl (z_in (z_in4 c_2)) dX9_copy_31 ?_
      refine lv_topi (fun f_5 ef_5 => ?_)
      obtain rfl : f_5 = (-1) := ef_5.trans (hfl _ (z_cl4 (z_in4 c_2)))
      refine lv_if_lt (tgt := 44) hx hb dX9_copy_32 (by decide) (fun _ => ?_) (fun c9 => absurd c9 (by decide))
      refine lv_bipush (v := (-11)) hx hb dX9_copy_44 (by decide) ?_
      exact W.iret (v := (-11)) hx hb hr (fun t ht hW => ⟨⟨(-11), (), rfl, (by rw [if_neg c_2, if_neg c_4]), trivial⟩, hS.F ht⟩) hS.2.2 dX9_copy_46
    · refine lv_iconst (v := (-1)) hx hb dX9_copy_24 (by decide) ?_
      exact W.iret (v := (-1)) hx hb hr (fun t ht hW => ⟨⟨(-1), (), rfl, (by rw [if_neg c_2, if_pos c_4]), trivial⟩, hS.F ht⟩) hS.2.2 dX9_copy_25
set_option maxHeartbeats 4000000 in
set_option maxRecDepth 100000 in
theorem c_X9_sheet (l : Launch) (Z : gZ) (sz : Nat) (h0 : Nat) (b1 : Nat) (b2 : Nat) (b3 : Nat) (b4 : Nat) (b5 : Nat) (b6 : Nat) (b7 : Nat) (b8 : Nat) (b9 : Nat) (b10 : Nat) (b11 : Nat) (b12 : Nat) (b13 : Nat) (b14 : Nat) (b15 : Nat) (b16 : Nat) (b17 : Nat) (b18 : Nat) (b19 : Nat) (b20 : Nat) (b21 : Nat) (b22 : Nat) (b23 : Nat) (b24 : Nat) (b25 : Nat) (fl : Nat → Int32) (f21 : Nat → Int32) (f22 : Nat → Int64) (a : Int32) (b : Int32) (d : Int32)  : Met l yX9_sheet wsX9_sheet ({ frames := 2, cells := 0, slots := 0, locals := 46 }) (va_Pc [.ref h0, .int a, .int b, .int d] (fun U => U.heap.size = sz ∧ va_P Z.1 vwCl [(h0, .inr (9, [.ref b1, .ref b2, .ref b3, .ref b4, .int 0, .ref b5, .int 0, .ref b6, .ref b7, .ref b8, .int 0, .int 0, .int 0, .ref b9, .ref b10, .ref b11, .ref b12, .ref b13, .ref b14, .ref b15, .ref b16, .ref b17, .ref b18, .int 0, .ref b19, .ref b20, .ref b21, .ref b22, .ref b23, .ref b24, .ref b25])), (b20, .inl (Z.2 0, 4, .inl fl)), (b21, .inl (Z.2 0, 4, .inl f21)), (b22, .inl (Z.2 2, 96, .inr (.inl f22)))] U.heap ∧ va_K Z.1 vwCl (gT Z) U ∧ va_D (fun _ => True) [(h0, .inr (9, [.ref b1, .ref b2, .ref b3, .ref b4, .int 0, .ref b5, .int 0, .ref b6, .ref b7, .ref b8, .int 0, .int 0, .int 0, .ref b9, .ref b10, .ref b11, .ref b12, .ref b13, .ref b14, .ref b15, .ref b16, .ref b17, .ref b18, .int 0, .ref b19, .ref b20, .ref b21, .ref b22, .ref b23, .ref b24, .ref b25])), (b20, .inl (Z.2 0, 4, .inl fl)), (b21, .inl (Z.2 0, 4, .inl f21)), (b22, .inl (Z.2 2, 96, .inr (.inl f22)))])) (va_Qi (fun (r : Int32) (u : Unit) => r = (if (if (if a.toInt64 < 0 then (0 : Int32) else (if 3 < a.toInt64 then (0 : Int32) else (1 : Int32))) = 0 then (0 : Int32) else (if (if b.toInt64 < 0 then (0 : Int32) else (if 2 < b.toInt64 then (0 : Int32) else (1 : Int32))) = 0 then (0 : Int32) else (1 : Int32))) = 0 then (-1 : Int32) else (if d ≤ 24 then (if 0 ≤ d then d else (-14 : Int32)) else (-1 : Int32)))) (fun (u : Unit) (t : State) => True) (va_A [(h0, .inr (9, [.ref b1, .ref b2, .ref b3, .ref b4, .int 0, .ref b5, .int 0, .ref b6, .ref b7, .ref b8, .int 0, .int 0, .int 0, .ref b9, .ref b10, .ref b11, .ref b12, .ref b13, .ref b14, .ref b15, .ref b16, .ref b17, .ref b18, .int 0, .ref b19, .ref b20, .ref b21, .ref b22, .ref b23, .ref b24, .ref b25])), (b20, .inl (Z.2 0, 4, .inl fl)), (b21, .inl (Z.2 0, 4, .inl f21)), (b22, .inl (Z.2 2, 96, .inr (.inl f22)))] sz)) 0 0 (va_A [(h0, .inr (9, [.ref b1, .ref b2, .ref b3, .ref b4, .int 0, .ref b5, .int 0, .ref b6, .ref b7, .ref b8, .int 0, .int 0, .int 0, .ref b9, .ref b10, .ref b11, .ref b12, .ref b13, .ref b14, .ref b15, .ref b16, .ref b17, .ref b18, .int 0, .ref b19, .ref b20, .ref b21, .ref b22, .ref b23, .ref b24, .ref b25])), (b20, .inl (Z.2 0, 4, .inl fl)), (b21, .inl (Z.2 0, 4, .inl f21)), (b22, .inl (Z.2 2, 96, .inr (.inl f22)))] sz) := by
  refine Met.ofW (cc := cX9_sheet) (maxL := 5) (ret := (some .int)) (by decide) rfl ?_
  intro p e s m args below meth c s₁ B hml hv
  obtain ⟨rfl, hsz, hP, hK, hD0⟩ := hv
  have hx := B.exec
  have hb := B.bytes
  have hr := B.returns
  have hts := atoms_spec (ws := wsX9_sheet) B.pre
  have hown : s.vm.findClass RX9 = some m.cls := findClass_of_methodNamed B.named
  have hlocks := B.notSynchronized
  subst hsz
  have hin9 : ∀ w ∈ wsX90, w ∈ wsX9_sheet := by decide +kernel
  have hD := hD0.self (sz := s.heap.size)
  generalize hAe : va_A [(h0, .inr (9, [.ref b1, .ref b2, .ref b3, .ref b4, .int 0, .ref b5, .int 0, .ref b6, .ref b7, .ref b8, .int 0, .int 0, .int 0, .ref b9, .ref b10, .ref b11, .ref b12, .ref b13, .ref b14, .ref b15, .ref b16, .ref b17, .ref b18, .int 0, .ref b19, .ref b20, .ref b21, .ref b22, .ref b23, .ref b24, .ref b25])), (b20, .inl (Z.2 0, 4, .inl fl)), (b21, .inl (Z.2 0, 4, .inl f21)), (b22, .inl (Z.2 2, 96, .inr (.inl f22)))] s.heap.size = A at hD ⊢
  have hA : ∀ q : Nat, s.heap.size ≤ q → A q := fun q h => by rw [← hAe]; exact Or.inr h
  have hS : va_S A s.heap s.heap [] := va_S.rf
  have hP : va_P Z.1 vwCl [(h0, .inr (9, [.ref b1, .ref b2, .ref b3, .ref b4, .int 0, .ref b5, .int 0, .ref b6, .ref b7, .ref b8, .int 0, .int 0, .int 0, .ref b9, .ref b10, .ref b11, .ref b12, .ref b13, .ref b14, .ref b15, .ref b16, .ref b17, .ref b18, .int 0, .ref b19, .ref b20, .ref b21, .ref b22, .ref b23, .ref b24, .ref b25])), (b20, .inl (Z.2 0, 4, .inl fl)), (b21, .inl (Z.2 0, 4, .inl f21)), (b22, .inl (Z.2 2, 96, .inr (.inl f22)))] s.heap := hP
  have hl := lv_entry ([.ref h0, .int a, .int b, .int d]) (n := 5) (Nat.le_of_ble_eq_true rfl)
  rw [lg_entry_eq]
  generalize (lg_sl ([.ref h0, .int a, .int b, .int d]) ++ List.replicate (5 - (lg_sl ([.ref h0, .int a, .int b, .int d])).length) Slot.unset).toArray = ls at hl ⊢
  have hl : lv_has ls 5 [(0, .ref h0), (1, .int a), (2, .int b), (3, .int d)] := hl
  refine lv_iload_n hx hb dX9_sheet_0 rfl (lv_at hl 1 rfl) ?_
  refine lv_iload_n hx hb dX9_sheet_1 rfl (lv_at hl 2 rfl) ?_
  have hPc := hP.sub (ws' := []) [] rfl
  have hDc := hD.sub (ws' := []) [] (by decide) rfl
  have hFc := va_free (wc := []) hD hS hA [] rfl
  refine va_calli (va_runS (As := [.int a, .int b]) (rest := []) ⟨hx, hb, hml, hown, hts⟩ (c_X9_isSheet l Z s.heap.size a b) (va_cwS 2 hts gX9_sheet_X9_isSheet rfl rfl rfl (by decide +kernel) ⟨Nat.le_of_ble_eq_true rfl, Nat.le_of_ble_eq_true rfl⟩) ⟨fun a U g mk q => by obtain ⟨q0, q1, qP, qK, qD⟩ := q; exact ⟨q0, q1, qP, va_K.moved (u := U) (U := U.calling g mk a) (Vm.Alike.refl U.vm) qK, qD⟩, fun U hU hW => ⟨rfl, by rw [hU], by rw [hU]; exact hPc, va_K.moved hW.alike hK, hDc.weaken (fun _ _ _ _ => trivial)⟩⟩ rfl rfl hl.1 rfl (lv_room (Nat.le_of_ble_eq_true rfl)) dX9_sheet_2 ⟨Nat.le_of_ble_eq_true rfl, Nat.le_of_ble_eq_true rfl⟩) hS (fun q _ h => hFc q h) hFc (fun r_1 u t H1 locs ht hvm hw hB hz1 hk1 hS => ?_)
  subst hw
  have hP1 : va_P Z.1 vwCl [] H1 := fun k q h => by simp at h
  have hD1 : va_D (va_A [] s.heap.size) [] := ⟨fun i j p q h => by simp at h, fun k q h => by simp at h⟩
  obtain ⟨hP, hD⟩ := va_join (wr := [(h0, .inr (9, [.ref b1, .ref b2, .ref b3, .ref b4, .int 0, .ref b5, .int 0, .ref b6, .ref b7, .ref b8, .int 0, .int 0, .int 0, .ref b9, .ref b10, .ref b11, .ref b12, .ref b13, .ref b14, .ref b15, .ref b16, .ref b17, .ref b18, .int 0, .ref b19, .ref b20, .ref b21, .ref b22, .ref b23, .ref b24, .ref b25])), (b20, .inl (Z.2 0, 4, .inl fl)), (b21, .inl (Z.2 0, 4, .inl f21)), (b22, .inl (Z.2 2, 96, .inr (.inl f22)))]) (w1 := []) hP hD [] [0, 1, 2, 3] rfl rfl (by decide) (by decide) hk1 hFc hP1 hD1
  clear hPc hDc hP1 hD1 hk1 hz1 hFc ht hvm
  generalize H1 = H at hP hS ⊢
  have hP : va_P Z.1 vwCl [(h0, .inr (9, [.ref b1, .ref b2, .ref b3, .ref b4, .int 0, .ref b5, .int 0, .ref b6, .ref b7, .ref b8, .int 0, .int 0, .int 0, .ref b9, .ref b10, .ref b11, .ref b12, .ref b13, .ref b14, .ref b15, .ref b16, .ref b17, .ref b18, .int 0, .ref b19, .ref b20, .ref b21, .ref b22, .ref b23, .ref b24, .ref b25])), (b20, .inl (Z.2 0, 4, .inl fl)), (b21, .inl (Z.2 0, 4, .inl f21)), (b22, .inl (Z.2 2, 96, .inr (.inl f22)))] H := hP
  have hD : va_D A [(h0, .inr (9, [.ref b1, .ref b2, .ref b3, .ref b4, .int 0, .ref b5, .int 0, .ref b6, .ref b7, .ref b8, .int 0, .int 0, .int 0, .ref b9, .ref b10, .ref b11, .ref b12, .ref b13, .ref b14, .ref b15, .ref b16, .ref b17, .ref b18, .int 0, .ref b19, .ref b20, .ref b21, .ref b22, .ref b23, .ref b24, .ref b25])), (b20, .inl (Z.2 0, 4, .inl fl)), (b21, .inl (Z.2 0, 4, .inl f21)), (b22, .inl (Z.2 2, 96, .inr (.inl f22)))] := hD
  refine lv_if_eq (tgt := 14) hx hb dX9_sheet_5 (by decide) (fun c_2 => ?_) (fun c_2 => ?_)
  · refine lv_iconst (v := (-1)) hx hb dX9_sheet_14 (by decide) ?_
    exact W.iret (v := (-1)) hx hb hr (fun t ht hW => ⟨⟨(-1), (), rfl, (by rw [if_pos c_2]), trivial⟩, hS.F ht⟩) hS.2.2 dX9_sheet_15
  · refine lv_iload_n hx hb dX9_sheet_8 rfl (lv_at hl 3 rfl) ?_
    refine lv_bipush (v := 24) hx hb dX9_sheet_9 (by decide) ?_
    refine lv_icmp_le (tgt := 16) hx hb dX9_sheet_11 (by decide) (fun c_3 => ?_) (fun c_3 => ?_)
    · refine lv_iload_n hx hb dX9_sheet_16 rfl (lv_at hl 3 rfl) ?_
      refine lv_if_ge (tgt := 23) hx hb dX9_sheet_17 (by decide) (fun c_4 => ?_) (fun c_4 => ?_)
      · refine lv_aload_n hx hb dX9_sheet_23 rfl (lv_at hl 0 rfl) ?_
        refine va_get (D := Z.1) (ci := 9) (v := .ref b20) (C := RX9) (T := TX9) (N := 31) hx hb hts hin9 hown hK hP 0 rfl rfl 25 (by decide) (hts (.fieldLink RX9 68 "HalfAskedModel" "lanes" "[I") (by decide +kernel)) (fun _ h9 => h9) rfl dX9_sheet_24 ?_
        refine lv_iload_n hx hb dX9_sheet_27 rfl (lv_at hl 1 rfl) ?_
        refine lv_iload_n hx hb dX9_sheet_28 rfl (lv_at hl 2 rfl) ?_
        refine va_iast hx hb hK hP hD hS 1 0 rfl rfl (z_in (z_ms c_2).1) dX9_sheet_29 (fun H locs hP hD hS => ?_)
        have hP : va_P Z.1 vwCl [(h0, .inr (9, [.ref b1, .ref b2, .ref b3, .ref b4, .int 0, .ref b5, .int 0, .ref b6, .ref b7, .ref b8, .int 0, .int 0, .int 0, .ref b9, .ref b10, .ref b11, .ref b12, .ref b13, .ref b14, .ref b15, .ref b16, .ref b17, .ref b18, .int 0, .ref b19, .ref b20, .ref b21, .ref b22, .ref b23, .ref b24, .ref b25])), (b20, .inl (Z.2 0, 4, .inl (upd fl (a.toNatClampNeg) b))), (b21, .inl (Z.2 0, 4, .inl f21)), (b22, .inl (Z.2 2, 96, .inr (.inl f22)))] H := hP
        have hD : va_D A [(h0, .inr (9, [.ref b1, .ref b2, .ref b3, .ref b4, .int 0, .ref b5, .int 0, .ref b6, .ref b7, .ref b8, .int 0, .int 0, .int 0, .ref b9, .ref b10, .ref b11, .ref b12, .ref b13, .ref b14, .ref b15, .ref b16, .ref b17, .ref b18, .int 0, .ref b19, .ref b20, .ref b21, .ref b22, .ref b23, .ref b24, .ref b25])), (b20, .inl (Z.2 0, 4, .inl (upd fl (a.toNatClampNeg) b))), (b21, .inl (Z.2 0, 4, .inl f21)), (b22, .inl (Z.2 2, 96, .inr (.inl f22)))] := hD
        generalize (upd fl (a.toNatClampNeg) b : Nat → Int32) = g_5 at hP hD
        refine lv_aload_n hx hb dX9_sheet_30 rfl (lv_at hl 0 rfl) ?_
        refine va_get (D := Z.1) (ci := 9) (v := .ref b21) (C := RX9) (T := TX9) (N := 31) hx hb hts hin9 hown hK hP 0 rfl rfl 26 (by decide) (hts (.fieldLink RX9 71 "HalfAskedModel" "rowSizes" "[I") (by decide +kernel)) (fun _ h9 => h9) rfl dX9_sheet_31 ?_
        refine lv_iload_n hx hb dX9_sheet_34 rfl (lv_at hl 1 rfl) ?_
        refine lv_iload_n hx hb dX9_sheet_35 rfl (lv_at hl 3 rfl) ?_
        refine va_iast hx hb hK hP hD hS 2 0 rfl rfl (z_in (z_ms c_2).1) dX9_sheet_36 (fun H locs hP hD hS => ?_)
        have hP : va_P Z.1 vwCl [(h0, .inr (9, [.ref b1, .ref b2, .ref b3, .ref b4, .int 0, .ref b5, .int 0, .ref b6, .ref b7, .ref b8, .int 0, .int 0, .int 0, .ref b9, .ref b10, .ref b11, .ref b12, .ref b13, .ref b14, .ref b15, .ref b16, .ref b17, .ref b18, .int 0, .ref b19, .ref b20, .ref b21, .ref b22, .ref b23, .ref b24, .ref b25])), (b20, .inl (Z.2 0, 4, .inl g_5)), (b21, .inl (Z.2 0, 4, .inl (upd f21 (a.toNatClampNeg) d))), (b22, .inl (Z.2 2, 96, .inr (.inl f22)))] H := hP
        have hD : va_D A [(h0, .inr (9, [.ref b1, .ref b2, .ref b3, .ref b4, .int 0, .ref b5, .int 0, .ref b6, .ref b7, .ref b8, .int 0, .int 0, .int 0, .ref b9, .ref b10, .ref b11, .ref b12, .ref b13, .ref b14, .ref b15, .ref b16, .ref b17, .ref b18, .int 0, .ref b19, .ref b20, .ref b21, .ref b22, .ref b23, .ref b24, .ref b25])), (b20, .inl (Z.2 0, 4, .inl g_5)), (b21, .inl (Z.2 0, 4, .inl (upd f21 (a.toNatClampNeg) d))), (b22, .inl (Z.2 2, 96, .inr (.inl f22)))] := hD
        generalize (upd f21 (a.toNatClampNeg) d : Nat → Int32) = g_6 at hP hD
        refine lv_iconst (v := 0) hx hb dX9_sheet_37 (by decide) ?_
        refine lv_istore (lv' := [(4, .int 0), (0, .ref h0), (1, .int a), (2, .int b), (3, .int d)]) hx hb dX9_sheet_38 hl (by decide) rfl (fun ls hl => ?_)
        refine lv_iload hx hb dX9_sheet_40 (lv_at hl 0 rfl) ?_
        refine lv_bipush (v := 24) hx hb dX9_sheet_42 (by decide) ?_
        refine lv_icmp_ge (tgt := 66) hx hb dX9_sheet_44 (by decide) (fun c9 => absurd c9 (by decide)) (fun _ => ?_)
        refine lv_aload_n hx hb dX9_sheet_47 rfl (lv_at hl 1 rfl) ?_
        refine va_get (D := Z.1) (ci := 9) (v := .ref b22) (C := RX9) (T := TX9) (N := 31) hx hb hts hin9 hown hK hP 0 rfl rfl 27 (by decide) (hts (.fieldLink RX9 74 "HalfAskedModel" "items" "[J") (by decide +kernel)) (fun _ h9 => h9) rfl dX9_sheet_48 ?_
        refine lv_bipush (v := 24) hx hb dX9_sheet_51 (by decide) ?_
        refine lv_iload_n hx hb dX9_sheet_53 rfl (lv_at hl 2 rfl) ?_
        refine lv_imul hx hb dX9_sheet_54 ?_
        refine lv_iload hx hb dX9_sheet_55 (lv_at hl 0 rfl) ?_
        refine lv_iadd hx hb dX9_sheet_57 ?_
        refine lv_lconst (v := 0) hx hb dX9_sheet_58 (by decide) ?_
        refine va_last hx hb hK hP hD hS 3 2 rfl rfl (z_it (z_ms c_2).1 (by decide)) dX9_sheet_59 (fun H locs hP hD hS => ?_)
        have hP : va_P Z.1 vwCl [(h0, .inr (9, [.ref b1, .ref b2, .ref b3, .ref b4, .int 0, .ref b5, .int 0, .ref b6, .ref b7, .ref b8, .int 0, .int 0, .int 0, .ref b9, .ref b10, .ref b11, .ref b12, .ref b13, .ref b14, .ref b15, .ref b16, .ref b17, .ref b18, .int 0, .ref b19, .ref b20, .ref b21, .ref b22, .ref b23, .ref b24, .ref b25])), (b20, .inl (Z.2 0, 4, .inl g_5)), (b21, .inl (Z.2 0, 4, .inl g_6)), (b22, .inl (Z.2 2, 96, .inr (.inl (vp_updL f22 (((24 * a) + 0).toNatClampNeg) 0))))] H := hP
        have hD : va_D A [(h0, .inr (9, [.ref b1, .ref b2, .ref b3, .ref b4, .int 0, .ref b5, .int 0, .ref b6, .ref b7, .ref b8, .int 0, .int 0, .int 0, .ref b9, .ref b10, .ref b11, .ref b12, .ref b13, .ref b14, .ref b15, .ref b16, .ref b17, .ref b18, .int 0, .ref b19, .ref b20, .ref b21, .ref b22, .ref b23, .ref b24, .ref b25])), (b20, .inl (Z.2 0, 4, .inl g_5)), (b21, .inl (Z.2 0, 4, .inl g_6)), (b22, .inl (Z.2 2, 96, .inr (.inl (vp_updL f22 (((24 * a) + 0).toNatClampNeg) 0))))] := hD
        generalize (vp_updL f22 (((24 * a) + 0).toNatClampNeg) 0 : Nat → Int64) = g_7 at hP hD
        refine lv_iinc (v := 1) (lv' := [(4, .int 1), (0, .ref h0), (1, .int a), (2, .int b), (3, .int d)]) hx hb dX9_sheet_60 hl (k := 0) rfl (by decide) (by decide) rfl (fun ls hl => ?_)
        refine lv_goto (tgt := 40) hx hb dX9_sheet_63 (by decide) ?_
        refine lv_iload hx hb dX9_sheet_40 (lv_at hl 0 rfl) ?_
        refine lv_bipush (v := 24) hx hb dX9_sheet_42 (by decide) ?_
        refine lv_icmp_ge (tgt := 66) hx hb dX9_sheet_44 (by decide) (fun c9 => absurd c9 (by decide)) (fun _ => ?_)
        refine lv_aload_n hx hb dX9_sheet_47 rfl (lv_at hl 1 rfl) ?_
        refine va_get (D := Z.1) (ci := 9) (v := .ref b22) (C := RX9) (T := TX9) (N := 31) hx hb hts hin9 hown hK hP 0 rfl rfl 27 (by decide) (hts (.fieldLink RX9 74 "HalfAskedModel" "items" "[J") (by decide +kernel)) (fun _ h9 => h9) rfl dX9_sheet_48 ?_
        refine lv_bipush (v := 24) hx hb dX9_sheet_51 (by decide) ?_
        refine lv_iload_n hx hb dX9_sheet_53 rfl (lv_at hl 2 rfl) ?_
        refine lv_imul hx hb dX9_sheet_54 ?_
        refine lv_iload hx hb dX9_sheet_55 (lv_at hl 0 rfl) ?_
        refine lv_iadd hx hb dX9_sheet_57 ?_
        refine lv_lconst (v := 0) hx hb dX9_sheet_58 (by decide) ?_
        refine va_last hx hb hK hP hD hS 3 2 rfl rfl (z_it (z_ms c_2).1 (by decide)) dX9_sheet_59 (fun H locs hP hD hS => ?_)
        have hP : va_P Z.1 vwCl [(h0, .inr (9, [.ref b1, .ref b2, .ref b3, .ref b4, .int 0, .ref b5, .int 0, .ref b6, .ref b7, .ref b8, .int 0, .int 0, .int 0, .ref b9, .ref b10, .ref b11, .ref b12, .ref b13, .ref b14, .ref b15, .ref b16, .ref b17, .ref b18, .int 0, .ref b19, .ref b20, .ref b21, .ref b22, .ref b23, .ref b24, .ref b25])), (b20, .inl (Z.2 0, 4, .inl g_5)), (b21, .inl (Z.2 0, 4, .inl g_6)), (b22, .inl (Z.2 2, 96, .inr (.inl (vp_updL g_7 (((24 * a) + 1).toNatClampNeg) 0))))] H := hP
        have hD : va_D A [(h0, .inr (9, [.ref b1, .ref b2, .ref b3, .ref b4, .int 0, .ref b5, .int 0, .ref b6, .ref b7, .ref b8, .int 0, .int 0, .int 0, .ref b9, .ref b10, .ref b11, .ref b12, .ref b13, .ref b14, .ref b15, .ref b16, .ref b17, .ref b18, .int 0, .ref b19, .ref b20, .ref b21, .ref b22, .ref b23, .ref b24, .ref b25])), (b20, .inl (Z.2 0, 4, .inl g_5)), (b21, .inl (Z.2 0, 4, .inl g_6)), (b22, .inl (Z.2 2, 96, .inr (.inl (vp_updL g_7 (((24 * a) + 1).toNatClampNeg) 0))))] := hD
        generalize (vp_updL g_7 (((24 * a) + 1).toNatClampNeg) 0 : Nat → Int64) = g_8 at hP hD
        refine lv_iinc (v := 2) (lv' := [(4, .int 2), (0, .ref h0), (1, .int a), (2, .int b), (3, .int d)]) hx hb dX9_sheet_60 hl (k := 0) rfl (by decide) (by decide) rfl (fun ls hl => ?_)
        refine lv_goto (tgt := 40) hx hb dX9_sheet_63 (by decide) ?_
        refine lv_iload hx hb dX9_sheet_40 (lv_at hl 0 rfl) ?_
        refine lv_bipush (v := 24) hx hb dX9_sheet_42 (by decide) ?_
        refine lv_icmp_ge (tgt := 66) hx hb dX9_sheet_44 (by decide) (fun c9 => absurd c9 (by decide)) (fun _ => ?_)
        refine lv_aload_n hx hb dX9_sheet_47 rfl (lv_at hl 1 rfl) ?_
        refine va_get (D := Z.1) (ci := 9) (v := .ref b22) (C := RX9) (T := TX9) (N := 31) hx hb hts hin9 hown hK hP 0 rfl rfl 27 (by decide) (hts (.fieldLink RX9 74 "HalfAskedModel" "items" "[J") (by decide +kernel)) (fun _ h9 => h9) rfl dX9_sheet_48 ?_
        refine lv_bipush (v := 24) hx hb dX9_sheet_51 (by decide) ?_
        refine lv_iload_n hx hb dX9_sheet_53 rfl (lv_at hl 2 rfl) ?_
        refine lv_imul hx hb dX9_sheet_54 ?_
        refine lv_iload hx hb dX9_sheet_55 (lv_at hl 0 rfl) ?_
        refine lv_iadd hx hb dX9_sheet_57 ?_
        refine lv_lconst (v := 0) hx hb dX9_sheet_58 (by decide) ?_
        refine va_last hx hb hK hP hD hS 3 2 rfl rfl (z_it (z_ms c_2).1 (by decide)) dX9_sheet_59 (fun H locs hP hD hS => ?_)
        have hP : va_P Z.1 vwCl [(h0, .inr (9, [.ref b1, .ref b2, .ref b3, .ref b4, .int 0, .ref b5, .int 0, .ref b6, .ref b7, .ref b8, .int 0, .int 0, .int 0, .ref b9, .ref b10, .ref b11, .ref b12, .ref b13, .ref b14, .ref b15, .ref b16, .ref b17, .ref b18, .int 0, .ref b19, .ref b20, .ref b21, .ref b22, .ref b23, .ref b24, .ref b25])), (b20, .inl (Z.2 0, 4, .inl g_5)), (b21, .inl (Z.2 0, 4, .inl g_6)), (b22, .inl (Z.2 2, 96, .inr (.inl (vp_updL g_8 (((24 * a) + 2).toNatClampNeg) 0))))] H := hP
        have hD : va_D A [(h0, .inr (9, [.ref b1, .ref b2, .ref b3, .ref b4, .int 0, .ref b5, .int 0, .ref b6, .ref b7, .ref b8, .int 0, .int 0, .int 0, .ref b9, .ref b10, .ref b11, .ref b12, .ref b13, .ref b14, .ref b15, .ref b16, .ref b17, .ref b18, .int 0, .ref b19, .ref b20, .ref b21, .ref b22, .ref b23, .ref b24, .ref b25])), (b20, .inl (Z.2 0, 4, .inl g_5)), (b21, .inl (Z.2 0, 4, .inl g_6)), (b22, .inl (Z.2 2, 96, .inr (.inl (vp_updL g_8 (((24 * a) + 2).toNatClampNeg) 0))))] := hD
        generalize (vp_updL g_8 (((24 * a) + 2).toNatClampNeg) 0 : Nat → Int64) = g_9 at hP hD
        refine lv_iinc (v := 3) (lv' := [(4, .int 3), (0, .ref h0), (1, .int a), (2, .int b), (3, .int d)]) hx hb dX9_sheet_60 hl (k := 0) rfl (by decide) (by decide) rfl (fun ls hl => ?_)
        refine lv_goto (tgt := 40) hx hb dX9_sheet_63 (by decide) ?_
        refine lv_iload hx hb dX9_sheet_40 (lv_at hl 0 rfl) ?_
        refine lv_bipush (v := 24) hx hb dX9_sheet_42 (by decide) ?_
        refine lv_icmp_ge (tgt := 66) hx hb dX9_sheet_44 (by decide) (fun c9 => absurd c9 (by decide)) (fun _ => ?_)
        refine lv_aload_n hx hb dX9_sheet_47 rfl (lv_at hl 1 rfl) ?_
        refine va_get (D := Z.1) (ci := 9) (v := .ref b22) (C := RX9) (T := TX9) (N := 31) hx hb hts hin9 hown hK hP 0 rfl rfl 27 (by decide) (hts (.fieldLink RX9 74 "HalfAskedModel" "items" "[J") (by decide +kernel)) (fun _ h9 => h9) rfl dX9_sheet_48 ?_
        refine lv_bipush (v := 24) hx hb dX9_sheet_51 (by decide) ?_
        refine lv_iload_n hx hb dX9_sheet_53 rfl (lv_at hl 2 rfl) ?_
        refine lv_imul hx hb dX9_sheet_54 ?_
        refine lv_iload hx hb dX9_sheet_55 (lv_at hl 0 rfl) ?_
        refine lv_iadd hx hb dX9_sheet_57 ?_
        refine lv_lconst (v := 0) hx hb dX9_sheet_58 (by decide) ?_
        refine va_last hx hb hK hP hD hS 3 2 rfl rfl (z_it (z_ms c_2).1 (by decide)) dX9_sheet_59 (fun H locs hP hD hS => ?_)
        have hP : va_P Z.1 vwCl [(h0, .inr (9, [.ref b1, .ref b2, .ref b3, .ref b4, .int 0, .ref b5, .int 0, .ref b6, .ref b7, .ref b8, .int 0, .int 0, .int 0, .ref b9, .ref b10, .ref b11, .ref b12, .ref b13, .ref b14, .ref b15, .ref b16, .ref b17, .ref b18, .int 0, .ref b19, .ref b20, .ref b21, .ref b22, .ref b23, .ref b24, .ref b25])), (b20, .inl (Z.2 0, 4, .inl g_5)), (b21, .inl (Z.2 0, 4, .inl g_6)), (b22, .inl (Z.2 2, 96, .inr (.inl (vp_updL g_9 (((24 * a) + 3).toNatClampNeg) 0))))] H := hP
        have hD : va_D A [(h0, .inr (9, [.ref b1, .ref b2, .ref b3, .ref b4, .int 0, .ref b5, .int 0, .ref b6, .ref b7, .ref b8, .int 0, .int 0, .int 0, .ref b9, .ref b10, .ref b11, .ref b12, .ref b13, .ref b14, .ref b15, .ref b16, .ref b17, .ref b18, .int 0, .ref b19, .ref b20, .ref b21, .ref b22, .ref b23, .ref b24, .ref b25])), (b20, .inl (Z.2 0, 4, .inl g_5)), (b21, .inl (Z.2 0, 4, .inl g_6)), (b22, .inl (Z.2 2, 96, .inr (.inl (vp_updL g_9 (((24 * a) + 3).toNatClampNeg) 0))))] := hD
        generalize (vp_updL g_9 (((24 * a) + 3).toNatClampNeg) 0 : Nat → Int64) = g_10 at hP hD
        refine lv_iinc (v := 4) (lv' := [(4, .int 4), (0, .ref h0), (1, .int a), (2, .int b), (3, .int d)]) hx hb dX9_sheet_60 hl (k := 0) rfl (by decide) (by decide) rfl (fun ls hl => ?_)
        refine lv_goto (tgt := 40) hx hb dX9_sheet_63 (by decide) ?_
        refine lv_iload hx hb dX9_sheet_40 (lv_at hl 0 rfl) ?_
        refine lv_bipush (v := 24) hx hb dX9_sheet_42 (by decide) ?_
        refine lv_icmp_ge (tgt := 66) hx hb dX9_sheet_44 (by decide) (fun c9 => absurd c9 (by decide)) (fun _ => ?_)
        refine lv_aload_n hx hb dX9_sheet_47 rfl (lv_at hl 1 rfl) ?_
        refine va_get (D := Z.1) (ci := 9) (v := .ref b22) (C := RX9) (T := TX9) (N := 31) hx hb hts hin9 hown hK hP 0 rfl rfl 27 (by decide) (hts (.fieldLink RX9 74 "HalfAskedModel" "items" "[J") (by decide +kernel)) (fun _ h9 => h9) rfl dX9_sheet_48 ?_
        refine lv_bipush (v := 24) hx hb dX9_sheet_51 (by decide) ?_
        refine lv_iload_n hx hb dX9_sheet_53 rfl (lv_at hl 2 rfl) ?_
        refine lv_imul hx hb dX9_sheet_54 ?_
        refine lv_iload hx hb dX9_sheet_55 (lv_at hl 0 rfl) ?_
        refine lv_iadd hx hb dX9_sheet_57 ?_
        refine lv_lconst (v := 0) hx hb dX9_sheet_58 (by decide) ?_
        refine va_last hx hb hK hP hD hS 3 2 rfl rfl (z_it (z_ms c_2).1 (by decide)) dX9_sheet_59 (fun H locs hP hD hS => ?_)
        have hP : va_P Z.1 vwCl [(h0, .inr (9, [.ref b1, .ref b2, .ref b3, .ref b4, .int 0, .ref b5, .int 0, .ref b6, .ref b7, .ref b8, .int 0, .int 0, .int 0, .ref b9, .ref b10, .ref b11, .ref b12, .ref b13, .ref b14, .ref b15, .ref b16, .ref b17, .ref b18, .int 0, .ref b19, .ref b20, .ref b21, .ref b22, .ref b23, .ref b24, .ref b25])), (b20, .inl (Z.2 0, 4, .inl g_5)), (b21, .inl (Z.2 0, 4, .inl g_6)), (b22, .inl (Z.2 2, 96, .inr (.inl (vp_updL g_10 (((24 * a) + 4).toNatClampNeg) 0))))] H := hP
        have hD : va_D A [(h0, .inr (9, [.ref b1, .ref b2, .ref b3, .ref b4, .int 0, .ref b5, .int 0, .ref b6, .ref b7, .ref b8, .int 0, .int 0, .int 0, .ref b9, .ref b10, .ref b11, .ref b12, .ref b13, .ref b14, .ref b15, .ref b16, .ref b17, .ref b18, .int 0, .ref b19, .ref b20, .ref b21, .ref b22, .ref b23, .ref b24, .ref b25])), (b20, .inl (Z.2 0, 4, .inl g_5)), (b21, .inl (Z.2 0, 4, .inl g_6)), (b22, .inl (Z.2 2, 96, .inr (.inl (vp_updL g_10 (((24 * a) + 4).toNatClampNeg) 0))))] := hD
        generalize (vp_updL g_10 (((24 * a) + 4).toNatClampNeg) 0 : Nat → Int64) = g_11 at hP hD
        refine lv_iinc (v := 5) (lv' := [(4, .int 5), (0, .ref h0), (1, .int a), (2, .int b), (3, .int d)]) hx hb dX9_sheet_60 hl (k := 0) rfl (by decide) (by decide) rfl (fun ls hl => ?_)
        refine lv_goto (tgt := 40) hx hb dX9_sheet_63 (by decide) ?_
        refine lv_iload hx hb dX9_sheet_40 (lv_at hl 0 rfl) ?_
        refine lv_bipush (v := 24) hx hb dX9_sheet_42 (by decide) ?_
        refine lv_icmp_ge (tgt := 66) hx hb dX9_sheet_44 (by decide) (fun c9 => absurd c9 (by decide)) (fun _ => ?_)
        refine lv_aload_n hx hb dX9_sheet_47 rfl (lv_at hl 1 rfl) ?_
        refine va_get (D := Z.1) (ci := 9) (v := .ref b22) (C := RX9) (T := TX9) (N := 31) hx hb hts hin9 hown hK hP 0 rfl rfl 27 (by decide) (hts (.fieldLink RX9 74 "HalfAskedModel" "items" "[J") (by decide +kernel)) (fun _ h9 => h9) rfl dX9_sheet_48 ?_
        refine lv_bipush (v := 24) hx hb dX9_sheet_51 (by decide) ?_
        refine lv_iload_n hx hb dX9_sheet_53 rfl (lv_at hl 2 rfl) ?_
        refine lv_imul hx hb dX9_sheet_54 ?_
        refine lv_iload hx hb dX9_sheet_55 (lv_at hl 0 rfl) ?_
        refine lv_iadd hx hb dX9_sheet_57 ?_
        refine lv_lconst (v := 0) hx hb dX9_sheet_58 (by decide) ?_
        refine va_last hx hb hK hP hD hS 3 2 rfl rfl (z_it (z_ms c_2).1 (by decide)) dX9_sheet_59 (fun H locs hP hD hS => ?_)
        have hP : va_P Z.1 vwCl [(h0, .inr (9, [.ref b1, .ref b2, .ref b3, .ref b4, .int 0, .ref b5, .int 0, .ref b6, .ref b7, .ref b8, .int 0, .int 0, .int 0, .ref b9, .ref b10, .ref b11, .ref b12, .ref b13, .ref b14, .ref b15, .ref b16, .ref b17, .ref b18, .int 0, .ref b19, .ref b20, .ref b21, .ref b22, .ref b23, .ref b24, .ref b25])), (b20, .inl (Z.2 0, 4, .inl g_5)), (b21, .inl (Z.2 0, 4, .inl g_6)), (b22, .inl (Z.2 2, 96, .inr (.inl (vp_updL g_11 (((24 * a) + 5).toNatClampNeg) 0))))] H := hP
        have hD : va_D A [(h0, .inr (9, [.ref b1, .ref b2, .ref b3, .ref b4, .int 0, .ref b5, .int 0, .ref b6, .ref b7, .ref b8, .int 0, .int 0, .int 0, .ref b9, .ref b10, .ref b11, .ref b12, .ref b13, .ref b14, .ref b15, .ref b16, .ref b17, .ref b18, .int 0, .ref b19, .ref b20, .ref b21, .ref b22, .ref b23, .ref b24, .ref b25])), (b20, .inl (Z.2 0, 4, .inl g_5)), (b21, .inl (Z.2 0, 4, .inl g_6)), (b22, .inl (Z.2 2, 96, .inr (.inl (vp_updL g_11 (((24 * a) + 5).toNatClampNeg) 0))))] := hD
        generalize (vp_updL g_11 (((24 * a) + 5).toNatClampNeg) 0 : Nat → Int64) = g_12 at hP hD
        refine lv_iinc (v := 6) (lv' := [(4, .int 6), (0, .ref h0), (1, .int a), (2, .int b), (3, .int d)]) hx hb dX9_sheet_60 hl (k := 0) rfl (by decide) (by decide) rfl (fun ls hl => ?_)
        refine lv_goto (tgt := 40) hx hb dX9_sheet_63 (by decide) ?_
        refine lv_iload hx hb dX9_sheet_40 (lv_at hl 0 rfl) ?_
        refine lv_bipush (v := 24) hx hb dX9_sheet_42 (by decide) ?_
        refine lv_icmp_ge (tgt := 66) hx hb dX9_sheet_44 (by decide) (fun c9 => absurd c9 (by decide)) (fun _ => ?_)
        refine lv_aload_n hx hb dX9_sheet_47 rfl (lv_at hl 1 rfl) ?_
        refine va_get (D := Z.1) (ci := 9) (v := .ref b22) (C := RX9) (T := TX9) (N := 31) hx hb hts hin9 hown hK hP 0 rfl rfl 27 (by decide) (hts (.fieldLink RX9 74 "HalfAskedModel" "items" "[J") (by decide +kernel)) (fun _ h9 => h9) rfl dX9_sheet_48 ?_
        refine lv_bipush (v := 24) hx hb dX9_sheet_51 (by decide) ?_
        refine lv_iload_n hx hb dX9_sheet_53 rfl (lv_at hl 2 rfl) ?_
        refine lv_imul hx hb dX9_sheet_54 ?_
        refine lv_iload hx hb dX9_sheet_55 (lv_at hl 0 rfl) ?_
        refine lv_iadd hx hb dX9_sheet_57 ?_
        refine lv_lconst (v := 0) hx hb dX9_sheet_58 (by decide) ?_
        refine va_last hx hb hK hP hD hS 3 2 rfl rfl (z_it (z_ms c_2).1 (by decide)) dX9_sheet_59 (fun H locs hP hD hS => ?_)
        have hP : va_P Z.1 vwCl [(h0, .inr (9, [.ref b1, .ref b2, .ref b3, .ref b4, .int 0, .ref b5, .int 0, .ref b6, .ref b7, .ref b8, .int 0, .int 0, .int 0, .ref b9, .ref b10, .ref b11, .ref b12, .ref b13, .ref b14, .ref b15, .ref b16, .ref b17, .ref b18, .int 0, .ref b19, .ref b20, .ref b21, .ref b22, .ref b23, .ref b24, .ref b25])), (b20, .inl (Z.2 0, 4, .inl g_5)), (b21, .inl (Z.2 0, 4, .inl g_6)), (b22, .inl (Z.2 2, 96, .inr (.inl (vp_updL g_12 (((24 * a) + 6).toNatClampNeg) 0))))] H := hP
        have hD : va_D A [(h0, .inr (9, [.ref b1, .ref b2, .ref b3, .ref b4, .int 0, .ref b5, .int 0, .ref b6, .ref b7, .ref b8, .int 0, .int 0, .int 0, .ref b9, .ref b10, .ref b11, .ref b12, .ref b13, .ref b14, .ref b15, .ref b16, .ref b17, .ref b18, .int 0, .ref b19, .ref b20, .ref b21, .ref b22, .ref b23, .ref b24, .ref b25])), (b20, .inl (Z.2 0, 4, .inl g_5)), (b21, .inl (Z.2 0, 4, .inl g_6)), (b22, .inl (Z.2 2, 96, .inr (.inl (vp_updL g_12 (((24 * a) + 6).toNatClampNeg) 0))))] := hD
        generalize (vp_updL g_12 (((24 * a) + 6).toNatClampNeg) 0 : Nat → Int64) = g_13 at hP hD
        refine lv_iinc (v := 7) (lv' := [(4, .int 7), (0, .ref h0), (1, .int a), (2, .int b), (3, .int d)]) hx hb dX9_sheet_60 hl (k := 0) rfl (by decide) (by decide) rfl (fun ls hl => ?_)
        refine lv_goto (tgt := 40) hx hb dX9_sheet_63 (by decide) ?_
        refine lv_iload hx hb dX9_sheet_40 (lv_at hl 0 rfl) ?_
        refine lv_bipush (v := 24) hx hb dX9_sheet_42 (by decide) ?_
        refine lv_icmp_ge (tgt := 66) hx hb dX9_sheet_44 (by decide) (fun c9 => absurd c9 (by decide)) (fun _ => ?_)
        refine lv_aload_n hx hb dX9_sheet_47 rfl (lv_at hl 1 rfl) ?_
        refine va_get (D := Z.1) (ci := 9) (v := .ref b22) (C := RX9) (T := TX9) (N := 31) hx hb hts hin9 hown hK hP 0 rfl rfl 27 (by decide) (hts (.fieldLink RX9 74 "HalfAskedModel" "items" "[J") (by decide +kernel)) (fun _ h9 => h9) rfl dX9_sheet_48 ?_
        refine lv_bipush (v := 24) hx hb dX9_sheet_51 (by decide) ?_
        refine lv_iload_n hx hb dX9_sheet_53 rfl (lv_at hl 2 rfl) ?_
        refine lv_imul hx hb dX9_sheet_54 ?_
        refine lv_iload hx hb dX9_sheet_55 (lv_at hl 0 rfl) ?_
        refine lv_iadd hx hb dX9_sheet_57 ?_
        refine lv_lconst (v := 0) hx hb dX9_sheet_58 (by decide) ?_
        refine va_last hx hb hK hP hD hS 3 2 rfl rfl (z_it (z_ms c_2).1 (by decide)) dX9_sheet_59 (fun H locs hP hD hS => ?_)
        have hP : va_P Z.1 vwCl [(h0, .inr (9, [.ref b1, .ref b2, .ref b3, .ref b4, .int 0, .ref b5, .int 0, .ref b6, .ref b7, .ref b8, .int 0, .int 0, .int 0, .ref b9, .ref b10, .ref b11, .ref b12, .ref b13, .ref b14, .ref b15, .ref b16, .ref b17, .ref b18, .int 0, .ref b19, .ref b20, .ref b21, .ref b22, .ref b23, .ref b24, .ref b25])), (b20, .inl (Z.2 0, 4, .inl g_5)), (b21, .inl (Z.2 0, 4, .inl g_6)), (b22, .inl (Z.2 2, 96, .inr (.inl (vp_updL g_13 (((24 * a) + 7).toNatClampNeg) 0))))] H := hP
        have hD : va_D A [(h0, .inr (9, [.ref b1, .ref b2, .ref b3, .ref b4, .int 0, .ref b5, .int 0, .ref b6, .ref b7, .ref b8, .int 0, .int 0, .int 0, .ref b9, .ref b10, .ref b11, .ref b12, .ref b13, .ref b14, .ref b15, .ref b16, .ref b17, .ref b18, .int 0, .ref b19, .ref b20, .ref b21, .ref b22, .ref b23, .ref b24, .ref b25])), (b20, .inl (Z.2 0, 4, .inl g_5)), (b21, .inl (Z.2 0, 4, .inl g_6)), (b22, .inl (Z.2 2, 96, .inr (.inl (vp_updL g_13 (((24 * a) + 7).toNatClampNeg) 0))))] := hD
        generalize (vp_updL g_13 (((24 * a) + 7).toNatClampNeg) 0 : Nat → Int64) = g_14 at hP hD
        refine lv_iinc (v := 8) (lv' := [(4, .int 8), (0, .ref h0), (1, .int a), (2, .int b), (3, .int d)]) hx hb dX9_sheet_60 hl (k := 0) rfl (by decide) (by decide) rfl (fun ls hl => ?_)
        refine lv_goto (tgt := 40) hx hb dX9_sheet_63 (by decide) ?_
        refine lv_iload hx hb dX9_sheet_40 (lv_at hl 0 rfl) ?_
        refine lv_bipush (v := 24) hx hb dX9_sheet_42 (by decide) ?_
        refine lv_icmp_ge (tgt := 66) hx hb dX9_sheet_44 (by decide) (fun c9 => absurd c9 (by decide)) (fun _ => ?_)
        refine lv_aload_n hx hb dX9_sheet_47 rfl (lv_at hl 1 rfl) ?_
        refine va_get (D := Z.1) (ci := 9) (v := .ref b22) (C := RX9) (T := TX9) (N := 31) hx hb hts hin9 hown hK hP 0 rfl rfl 27 (by decide) (hts (.fieldLink RX9 74 "HalfAskedModel" "items" "[J") (by decide +kernel)) (fun _ h9 => h9) rfl dX9_sheet_48 ?_
        refine lv_bipush (v := 24) hx hb dX9_sheet_51 (by decide) ?_
        refine lv_iload_n hx hb dX9_sheet_53 rfl (lv_at hl 2 rfl) ?_
        refine lv_imul hx hb dX9_sheet_54 ?_
        refine lv_iload hx hb dX9_sheet_55 (lv_at hl 0 rfl) ?_
        refine lv_iadd hx hb dX9_sheet_57 ?_
        refine lv_lconst (v := 0) hx hb dX9_sheet_58 (by decide) ?_
        refine va_last hx hb hK hP hD hS 3 2 rfl rfl (z_it (z_ms c_2).1 (by decide)) dX9_sheet_59 (fun H locs hP hD hS => ?_)
        have hP : va_P Z.1 vwCl [(h0, .inr (9, [.ref b1, .ref b2, .ref b3, .ref b4, .int 0, .ref b5, .int 0, .ref b6, .ref b7, .ref b8, .int 0, .int 0, .int 0, .ref b9, .ref b10, .ref b11, .ref b12, .ref b13, .ref b14, .ref b15, .ref b16, .ref b17, .ref b18, .int 0, .ref b19, .ref b20, .ref b21, .ref b22, .ref b23, .ref b24, .ref b25])), (b20, .inl (Z.2 0, 4, .inl g_5)), (b21, .inl (Z.2 0, 4, .inl g_6)), (b22, .inl (Z.2 2, 96, .inr (.inl (vp_updL g_14 (((24 * a) + 8).toNatClampNeg) 0))))] H := hP
        have hD : va_D A [(h0, .inr (9, [.ref b1, .ref b2, .ref b3, .ref b4, .int 0, .ref b5, .int 0, .ref b6, .ref b7, .ref b8, .int 0, .int 0, .int 0, .ref b9, .ref b10, .ref b11, .ref b12, .ref b13, .ref b14, .ref b15, .ref b16, .ref b17, .ref b18, .int 0, .ref b19, .ref b20, .ref b21, .ref b22, .ref b23, .ref b24, .ref b25])), (b20, .inl (Z.2 0, 4, .inl g_5)), (b21, .inl (Z.2 0, 4, .inl g_6)), (b22, .inl (Z.2 2, 96, .inr (.inl (vp_updL g_14 (((24 * a) + 8).toNatClampNeg) 0))))] := hD
        generalize (vp_updL g_14 (((24 * a) + 8).toNatClampNeg) 0 : Nat → Int64) = g_15 at hP hD
        refine lv_iinc (v := 9) (lv' := [(4, .int 9), (0, .ref h0), (1, .int a), (2, .int b), (3, .int d)]) hx hb dX9_sheet_60 hl (k := 0) rfl (by decide) (by decide) rfl (fun ls hl => ?_)
        refine lv_goto (tgt := 40) hx hb dX9_sheet_63 (by decide) ?_
        refine lv_iload hx hb dX9_sheet_40 (lv_at hl 0 rfl) ?_
        refine lv_bipush (v := 24) hx hb dX9_sheet_42 (by decide) ?_
        refine lv_icmp_ge (tgt := 66) hx hb dX9_sheet_44 (by decide) (fun c9 => absurd c9 (by decide)) (fun _ => ?_)
        refine lv_aload_n hx hb dX9_sheet_47 rfl (lv_at hl 1 rfl) ?_
        refine va_get (D := Z.1) (ci := 9) (v := .ref b22) (C := RX9) (T := TX9) (N := 31) hx hb hts hin9 hown hK hP 0 rfl rfl 27 (by decide) (hts (.fieldLink RX9 74 "HalfAskedModel" "items" "[J") (by decide +kernel)) (fun _ h9 => h9) rfl dX9_sheet_48 ?_
        refine lv_bipush (v := 24) hx hb dX9_sheet_51 (by decide) ?_
        refine lv_iload_n hx hb dX9_sheet_53 rfl (lv_at hl 2 rfl) ?_
        refine lv_imul hx hb dX9_sheet_54 ?_
        refine lv_iload hx hb dX9_sheet_55 (lv_at hl 0 rfl) ?_
        refine lv_iadd hx hb dX9_sheet_57 ?_
        refine lv_lconst (v := 0) hx hb dX9_sheet_58 (by decide) ?_
        refine va_last hx hb hK hP hD hS 3 2 rfl rfl (z_it (z_ms c_2).1 (by decide)) dX9_sheet_59 (fun H locs hP hD hS => ?_)
        have hP : va_P Z.1 vwCl [(h0, .inr (9, [.ref b1, .ref b2, .ref b3, .ref b4, .int 0, .ref b5, .int 0, .ref b6, .ref b7, .ref b8, .int 0, .int 0, .int 0, .ref b9, .ref b10, .ref b11, .ref b12, .ref b13, .ref b14, .ref b15, .ref b16, .ref b17, .ref b18, .int 0, .ref b19, .ref b20, .ref b21, .ref b22, .ref b23, .ref b24, .ref b25])), (b20, .inl (Z.2 0, 4, .inl g_5)), (b21, .inl (Z.2 0, 4, .inl g_6)), (b22, .inl (Z.2 2, 96, .inr (.inl (vp_updL g_15 (((24 * a) + 9).toNatClampNeg) 0))))] H := hP
        have hD : va_D A [(h0, .inr (9, [.ref b1, .ref b2, .ref b3, .ref b4, .int 0, .ref b5, .int 0, .ref b6, .ref b7, .ref b8, .int 0, .int 0, .int 0, .ref b9, .ref b10, .ref b11, .ref b12, .ref b13, .ref b14, .ref b15, .ref b16, .ref b17, .ref b18, .int 0, .ref b19, .ref b20, .ref b21, .ref b22, .ref b23, .ref b24, .ref b25])), (b20, .inl (Z.2 0, 4, .inl g_5)), (b21, .inl (Z.2 0, 4, .inl g_6)), (b22, .inl (Z.2 2, 96, .inr (.inl (vp_updL g_15 (((24 * a) + 9).toNatClampNeg) 0))))] := hD
        generalize (vp_updL g_15 (((24 * a) + 9).toNatClampNeg) 0 : Nat → Int64) = g_16 at hP hD
        refine lv_iinc (v := 10) (lv' := [(4, .int 10), (0, .ref h0), (1, .int a), (2, .int b), (3, .int d)]) hx hb dX9_sheet_60 hl (k := 0) rfl (by decide) (by decide) rfl (fun ls hl => ?_)
        refine lv_goto (tgt := 40) hx hb dX9_sheet_63 (by decide) ?_
        refine lv_iload hx hb dX9_sheet_40 (lv_at hl 0 rfl) ?_
        refine lv_bipush (v := 24) hx hb dX9_sheet_42 (by decide) ?_
        refine lv_icmp_ge (tgt := 66) hx hb dX9_sheet_44 (by decide) (fun c9 => absurd c9 (by decide)) (fun _ => ?_)
        refine lv_aload_n hx hb dX9_sheet_47 rfl (lv_at hl 1 rfl) ?_
        refine va_get (D := Z.1) (ci := 9) (v := .ref b22) (C := RX9) (T := TX9) (N := 31) hx hb hts hin9 hown hK hP 0 rfl rfl 27 (by decide) (hts (.fieldLink RX9 74 "HalfAskedModel" "items" "[J") (by decide +kernel)) (fun _ h9 => h9) rfl dX9_sheet_48 ?_
        refine lv_bipush (v := 24) hx hb dX9_sheet_51 (by decide) ?_
        refine lv_iload_n hx hb dX9_sheet_53 rfl (lv_at hl 2 rfl) ?_
        refine lv_imul hx hb dX9_sheet_54 ?_
        refine lv_iload hx hb dX9_sheet_55 (lv_at hl 0 rfl) ?_
        refine lv_iadd hx hb dX9_sheet_57 ?_
        refine lv_lconst (v := 0) hx hb dX9_sheet_58 (by decide) ?_
        refine va_last hx hb hK hP hD hS 3 2 rfl rfl (z_it (z_ms c_2).1 (by decide)) dX9_sheet_59 (fun H locs hP hD hS => ?_)
        have hP : va_P Z.1 vwCl [(h0, .inr (9, [.ref b1, .ref b2, .ref b3, .ref b4, .int 0, .ref b5, .int 0, .ref b6, .ref b7, .ref b8, .int 0, .int 0, .int 0, .ref b9, .ref b10, .ref b11, .ref b12, .ref b13, .ref b14, .ref b15, .ref b16, .ref b17, .ref b18, .int 0, .ref b19, .ref b20, .ref b21, .ref b22, .ref b23, .ref b24, .ref b25])), (b20, .inl (Z.2 0, 4, .inl g_5)), (b21, .inl (Z.2 0, 4, .inl g_6)), (b22, .inl (Z.2 2, 96, .inr (.inl (vp_updL g_16 (((24 * a) + 10).toNatClampNeg) 0))))] H := hP
        have hD : va_D A [(h0, .inr (9, [.ref b1, .ref b2, .ref b3, .ref b4, .int 0, .ref b5, .int 0, .ref b6, .ref b7, .ref b8, .int 0, .int 0, .int 0, .ref b9, .ref b10, .ref b11, .ref b12, .ref b13, .ref b14, .ref b15, .ref b16, .ref b17, .ref b18, .int 0, .ref b19, .ref b20, .ref b21, .ref b22, .ref b23, .ref b24, .ref b25])), (b20, .inl (Z.2 0, 4, .inl g_5)), (b21, .inl (Z.2 0, 4, .inl g_6)), (b22, .inl (Z.2 2, 96, .inr (.inl (vp_updL g_16 (((24 * a) + 10).toNatClampNeg) 0))))] := hD
        generalize (vp_updL g_16 (((24 * a) + 10).toNatClampNeg) 0 : Nat → Int64) = g_17 at hP hD
        refine lv_iinc (v := 11) (lv' := [(4, .int 11), (0, .ref h0), (1, .int a), (2, .int b), (3, .int d)]) hx hb dX9_sheet_60 hl (k := 0) rfl (by decide) (by decide) rfl (fun ls hl => ?_)
        refine lv_goto (tgt := 40) hx hb dX9_sheet_63 (by decide) ?_
        refine lv_iload hx hb dX9_sheet_40 (lv_at hl 0 rfl) ?_
        refine lv_bipush (v := 24) hx hb dX9_sheet_42 (by decide) ?_
        refine lv_icmp_ge (tgt := 66) hx hb dX9_sheet_44 (by decide) (fun c9 => absurd c9 (by decide)) (fun _ => ?_)
        refine lv_aload_n hx hb dX9_sheet_47 rfl (lv_at hl 1 rfl) ?_
        refine va_get (D := Z.1) (ci := 9) (v := .ref b22) (C := RX9) (T := TX9) (N := 31) hx hb hts hin9 hown hK hP 0 rfl rfl 27 (by decide) (hts (.fieldLink RX9 74 "HalfAskedModel" "items" "[J") (by decide +kernel)) (fun _ h9 => h9) rfl dX9_sheet_48 ?_
        refine lv_bipush (v := 24) hx hb dX9_sheet_51 (by decide) ?_
        refine lv_iload_n hx hb dX9_sheet_53 rfl (lv_at hl 2 rfl) ?_
        refine lv_imul hx hb dX9_sheet_54 ?_
        refine lv_iload hx hb dX9_sheet_55 (lv_at hl 0 rfl) ?_
        refine lv_iadd hx hb dX9_sheet_57 ?_
        refine lv_lconst (v := 0) hx hb dX9_sheet_58 (by decide) ?_
        refine va_last hx hb hK hP hD hS 3 2 rfl rfl (z_it (z_ms c_2).1 (by decide)) dX9_sheet_59 (fun H locs hP hD hS => ?_)
        have hP : va_P Z.1 vwCl [(h0, .inr (9, [.ref b1, .ref b2, .ref b3, .ref b4, .int 0, .ref b5, .int 0, .ref b6, .ref b7, .ref b8, .int 0, .int 0, .int 0, .ref b9, .ref b10, .ref b11, .ref b12, .ref b13, .ref b14, .ref b15, .ref b16, .ref b17, .ref b18, .int 0, .ref b19, .ref b20, .ref b21, .ref b22, .ref b23, .ref b24, .ref b25])), (b20, .inl (Z.2 0, 4, .inl g_5)), (b21, .inl (Z.2 0, 4, .inl g_6)), (b22, .inl (Z.2 2, 96, .inr (.inl (vp_updL g_17 (((24 * a) + 11).toNatClampNeg) 0))))] H := hP
        have hD : va_D A [(h0, .inr (9, [.ref b1, .ref b2, .ref b3, .ref b4, .int 0, .ref b5, .int 0, .ref b6, .ref b7, .ref b8, .int 0, .int 0, .int 0, .ref b9, .ref b10, .ref b11, .ref b12, .ref b13, .ref b14, .ref b15, .ref b16, .ref b17, .ref b18, .int 0, .ref b19, .ref b20, .ref b21, .ref b22, .ref b23, .ref b24, .ref b25])), (b20, .inl (Z.2 0, 4, .inl g_5)), (b21, .inl (Z.2 0, 4, .inl g_6)), (b22, .inl (Z.2 2, 96, .inr (.inl (vp_updL g_17 (((24 * a) + 11).toNatClampNeg) 0))))] := hD
        generalize (vp_updL g_17 (((24 * a) + 11).toNatClampNeg) 0 : Nat → Int64) = g_18 at hP hD
        refine lv_iinc (v := 12) (lv' := [(4, .int 12), (0, .ref h0), (1, .int a), (2, .int b), (3, .int d)]) hx hb dX9_sheet_60 hl (k := 0) rfl (by decide) (by decide) rfl (fun ls hl => ?_)
        refine lv_goto (tgt := 40) hx hb dX9_sheet_63 (by decide) ?_
        refine lv_iload hx hb dX9_sheet_40 (lv_at hl 0 rfl) ?_
        refine lv_bipush (v := 24) hx hb dX9_sheet_42 (by decide) ?_
        refine lv_icmp_ge (tgt := 66) hx hb dX9_sheet_44 (by decide) (fun c9 => absurd c9 (by decide)) (fun _ => ?_)
        refine lv_aload_n hx hb dX9_sheet_47 rfl (lv_at hl 1 rfl) ?_
        refine va_get (D := Z.1) (ci := 9) (v := .ref b22) (C := RX9) (T := TX9) (N := 31) hx hb hts hin9 hown hK hP 0 rfl rfl 27 (by decide) (hts (.fieldLink RX9 74 "HalfAskedModel" "items" "[J") (by decide +kernel)) (fun _ h9 => h9) rfl dX9_sheet_48 ?_
        refine lv_bipush (v := 24) hx hb dX9_sheet_51 (by decide) ?_
        refine lv_iload_n hx hb dX9_sheet_53 rfl (lv_at hl 2 rfl) ?_
        refine lv_imul hx hb dX9_sheet_54 ?_
        refine lv_iload hx hb dX9_sheet_55 (lv_at hl 0 rfl) ?_
        refine lv_iadd hx hb dX9_sheet_57 ?_
        refine lv_lconst (v := 0) hx hb dX9_sheet_58 (by decide) ?_
        refine va_last hx hb hK hP hD hS 3 2 rfl rfl (z_it (z_ms c_2).1 (by decide)) dX9_sheet_59 (fun H locs hP hD hS => ?_)
        have hP : va_P Z.1 vwCl [(h0, .inr (9, [.ref b1, .ref b2, .ref b3, .ref b4, .int 0, .ref b5, .int 0, .ref b6, .ref b7, .ref b8, .int 0, .int 0, .int 0, .ref b9, .ref b10, .ref b11, .ref b12, .ref b13, .ref b14, .ref b15, .ref b16, .ref b17, .ref b18, .int 0, .ref b19, .ref b20, .ref b21, .ref b22, .ref b23, .ref b24, .ref b25])), (b20, .inl (Z.2 0, 4, .inl g_5)), (b21, .inl (Z.2 0, 4, .inl g_6)), (b22, .inl (Z.2 2, 96, .inr (.inl (vp_updL g_18 (((24 * a) + 12).toNatClampNeg) 0))))] H := hP
        have hD : va_D A [(h0, .inr (9, [.ref b1, .ref b2, .ref b3, .ref b4, .int 0, .ref b5, .int 0, .ref b6, .ref b7, .ref b8, .int 0, .int 0, .int 0, .ref b9, .ref b10, .ref b11, .ref b12, .ref b13, .ref b14, .ref b15, .ref b16, .ref b17, .ref b18, .int 0, .ref b19, .ref b20, .ref b21, .ref b22, .ref b23, .ref b24, .ref b25])), (b20, .inl (Z.2 0, 4, .inl g_5)), (b21, .inl (Z.2 0, 4, .inl g_6)), (b22, .inl (Z.2 2, 96, .inr (.inl (vp_updL g_18 (((24 * a) + 12).toNatClampNeg) 0))))] := hD
        generalize (vp_updL g_18 (((24 * a) + 12).toNatClampNeg) 0 : Nat → Int64) = g_19 at hP hD
        refine lv_iinc (v := 13) (lv' := [(4, .int 13), (0, .ref h0), (1, .int a), (2, .int b), (3, .int d)]) hx hb dX9_sheet_60 hl (k := 0) rfl (by decide) (by decide) rfl (fun ls hl => ?_)
        refine lv_goto (tgt := 40) hx hb dX9_sheet_63 (by decide) ?_
        refine lv_iload hx hb dX9_sheet_40 (lv_at hl 0 rfl) ?_
        refine lv_bipush (v := 24) hx hb dX9_sheet_42 (by decide) ?_
        refine lv_icmp_ge (tgt := 66) hx hb dX9_sheet_44 (by decide) (fun c9 => absurd c9 (by decide)) (fun _ => ?_)
        refine lv_aload_n hx hb dX9_sheet_47 rfl (lv_at hl 1 rfl) ?_
        refine va_get (D := Z.1) (ci := 9) (v := .ref b22) (C := RX9) (T := TX9) (N := 31) hx hb hts hin9 hown hK hP 0 rfl rfl 27 (by decide) (hts (.fieldLink RX9 74 "HalfAskedModel" "items" "[J") (by decide +kernel)) (fun _ h9 => h9) rfl dX9_sheet_48 ?_
        refine lv_bipush (v := 24) hx hb dX9_sheet_51 (by decide) ?_
        refine lv_iload_n hx hb dX9_sheet_53 rfl (lv_at hl 2 rfl) ?_
        refine lv_imul hx hb dX9_sheet_54 ?_
        refine lv_iload hx hb dX9_sheet_55 (lv_at hl 0 rfl) ?_
        refine lv_iadd hx hb dX9_sheet_57 ?_
        refine lv_lconst (v := 0) hx hb dX9_sheet_58 (by decide) ?_
        refine va_last hx hb hK hP hD hS 3 2 rfl rfl (z_it (z_ms c_2).1 (by decide)) dX9_sheet_59 (fun H locs hP hD hS => ?_)
        have hP : va_P Z.1 vwCl [(h0, .inr (9, [.ref b1, .ref b2, .ref b3, .ref b4, .int 0, .ref b5, .int 0, .ref b6, .ref b7, .ref b8, .int 0, .int 0, .int 0, .ref b9, .ref b10, .ref b11, .ref b12, .ref b13, .ref b14, .ref b15, .ref b16, .ref b17, .ref b18, .int 0, .ref b19, .ref b20, .ref b21, .ref b22, .ref b23, .ref b24, .ref b25])), (b20, .inl (Z.2 0, 4, .inl g_5)), (b21, .inl (Z.2 0, 4, .inl g_6)), (b22, .inl (Z.2 2, 96, .inr (.inl (vp_updL g_19 (((24 * a) + 13).toNatClampNeg) 0))))] H := hP
        have hD : va_D A [(h0, .inr (9, [.ref b1, .ref b2, .ref b3, .ref b4, .int 0, .ref b5, .int 0, .ref b6, .ref b7, .ref b8, .int 0, .int 0, .int 0, .ref b9, .ref b10, .ref b11, .ref b12, .ref b13, .ref b14, .ref b15, .ref b16, .ref b17, .ref b18, .int 0, .ref b19, .ref b20, .ref b21, .ref b22, .ref b23, .ref b24, .ref b25])), (b20, .inl (Z.2 0, 4, .inl g_5)), (b21, .inl (Z.2 0, 4, .inl g_6)), (b22, .inl (Z.2 2, 96, .inr (.inl (vp_updL g_19 (((24 * a) + 13).toNatClampNeg) 0))))] := hD
        generalize (vp_updL g_19 (((24 * a) + 13).toNatClampNeg) 0 : Nat → Int64) = g_20 at hP hD
        refine lv_iinc (v := 14) (lv' := [(4, .int 14), (0, .ref h0), (1, .int a), (2, .int b), (3, .int d)]) hx hb dX9_sheet_60 hl (k := 0) rfl (by decide) (by decide) rfl (fun ls hl => ?_)
        refine lv_goto (tgt := 40) hx hb dX9_sheet_63 (by decide) ?_
        refine lv_iload hx hb dX9_sheet_40 (lv_at hl 0 rfl) ?_
        refine lv_bipush (v := 24) hx hb dX9_sheet_42 (by decide) ?_
        refine lv_icmp_ge (tgt := 66) hx hb dX9_sheet_44 (by decide) (fun c9 => absurd c9 (by decide)) (fun _ => ?_)
        refine lv_aload_n hx hb dX9_sheet_47 rfl (lv_at hl 1 rfl) ?_
        refine va_get (D := Z.1) (ci := 9) (v := .ref b22) (C := RX9) (T := TX9) (N := 31) hx hb hts hin9 hown hK hP 0 rfl rfl 27 (by decide) (hts (.fieldLink RX9 74 "HalfAskedModel" "items" "[J") (by decide +kernel)) (fun _ h9 => h9) rfl dX9_sheet_48 ?_
        refine lv_bipush (v := 24) hx hb dX9_sheet_51 (by decide) ?_
        refine lv_iload_n hx hb dX9_sheet_53 rfl (lv_at hl 2 rfl) ?_
        refine lv_imul hx hb dX9_sheet_54 ?_
        refine lv_iload hx hb dX9_sheet_55 (lv_at hl 0 rfl) ?_
        refine lv_iadd hx hb dX9_sheet_57 ?_
        refine lv_lconst (v := 0) hx hb dX9_sheet_58 (by decide) ?_
        refine va_last hx hb hK hP hD hS 3 2 rfl rfl (z_it (z_ms c_2).1 (by decide)) dX9_sheet_59 (fun H locs hP hD hS => ?_)
        have hP : va_P Z.1 vwCl [(h0, .inr (9, [.ref b1, .ref b2, .ref b3, .ref b4, .int 0, .ref b5, .int 0, .ref b6, .ref b7, .ref b8, .int 0, .int 0, .int 0, .ref b9, .ref b10, .ref b11, .ref b12, .ref b13, .ref b14, .ref b15, .ref b16, .ref b17, .ref b18, .int 0, .ref b19, .ref b20, .ref b21, .ref b22, .ref b23, .ref b24, .ref b25])), (b20, .inl (Z.2 0, 4, .inl g_5)), (b21, .inl (Z.2 0, 4, .inl g_6)), (b22, .inl (Z.2 2, 96, .inr (.inl (vp_updL g_20 (((24 * a) + 14).toNatClampNeg) 0))))] H := hP
        have hD : va_D A [(h0, .inr (9, [.ref b1, .ref b2, .ref b3, .ref b4, .int 0, .ref b5, .int 0, .ref b6, .ref b7, .ref b8, .int 0, .int 0, .int 0, .ref b9, .ref b10, .ref b11, .ref b12, .ref b13, .ref b14, .ref b15, .ref b16, .ref b17, .ref b18, .int 0, .ref b19, .ref b20, .ref b21, .ref b22, .ref b23, .ref b24, .ref b25])), (b20, .inl (Z.2 0, 4, .inl g_5)), (b21, .inl (Z.2 0, 4, .inl g_6)), (b22, .inl (Z.2 2, 96, .inr (.inl (vp_updL g_20 (((24 * a) + 14).toNatClampNeg) 0))))] := hD
        generalize (vp_updL g_20 (((24 * a) + 14).toNatClampNeg) 0 : Nat → Int64) = g_21 at hP hD
        refine lv_iinc (v := 15) (lv' := [(4, .int 15), (0, .ref h0), (1, .int a), (2, .int b), (3, .int d)]) hx hb dX9_sheet_60 hl (k := 0) rfl (by decide) (by decide) rfl (fun ls hl => ?_)
        refine lv_goto (tgt := 40) hx hb dX9_sheet_63 (by decide) ?_
        refine lv_iload hx hb dX9_sheet_40 (lv_at hl 0 rfl) ?_
        refine lv_bipush (v := 24) hx hb dX9_sheet_42 (by decide) ?_
        refine lv_icmp_ge (tgt := 66) hx hb dX9_sheet_44 (by decide) (fun c9 => absurd c9 (by decide)) (fun _ => ?_)
        refine lv_aload_n hx hb dX9_sheet_47 rfl (lv_at hl 1 rfl) ?_
        refine va_get (D := Z.1) (ci := 9) (v := .ref b22) (C := RX9) (T := TX9) (N := 31) hx hb hts hin9 hown hK hP 0 rfl rfl 27 (by decide) (hts (.fieldLink RX9 74 "HalfAskedModel" "items" "[J") (by decide +kernel)) (fun _ h9 => h9) rfl dX9_sheet_48 ?_
        refine lv_bipush (v := 24) hx hb dX9_sheet_51 (by decide) ?_
        refine lv_iload_n hx hb dX9_sheet_53 rfl (lv_at hl 2 rfl) ?_
        refine lv_imul hx hb dX9_sheet_54 ?_
        refine lv_iload hx hb dX9_sheet_55 (lv_at hl 0 rfl) ?_
        refine lv_iadd hx hb dX9_sheet_57 ?_
        refine lv_lconst (v := 0) hx hb dX9_sheet_58 (by decide) ?_
        refine va_last hx hb hK hP hD hS 3 2 rfl rfl (z_it (z_ms c_2).1 (by decide)) dX9_sheet_59 (fun H locs hP hD hS => ?_)
        have hP : va_P Z.1 vwCl [(h0, .inr (9, [.ref b1, .ref b2, .ref b3, .ref b4, .int 0, .ref b5, .int 0, .ref b6, .ref b7, .ref b8, .int 0, .int 0, .int 0, .ref b9, .ref b10, .ref b11, .ref b12, .ref b13, .ref b14, .ref b15, .ref b16, .ref b17, .ref b18, .int 0, .ref b19, .ref b20, .ref b21, .ref b22, .ref b23, .ref b24, .ref b25])), (b20, .inl (Z.2 0, 4, .inl g_5)), (b21, .inl (Z.2 0, 4, .inl g_6)), (b22, .inl (Z.2 2, 96, .inr (.inl (vp_updL g_21 (((24 * a) + 15).toNatClampNeg) 0))))] H := hP
        have hD : va_D A [(h0, .inr (9, [.ref b1, .ref b2, .ref b3, .ref b4, .int 0, .ref b5, .int 0, .ref b6, .ref b7, .ref b8, .int 0, .int 0, .int 0, .ref b9, .ref b10, .ref b11, .ref b12, .ref b13, .ref b14, .ref b15, .ref b16, .ref b17, .ref b18, .int 0, .ref b19, .ref b20, .ref b21, .ref b22, .ref b23, .ref b24, .ref b25])), (b20, .inl (Z.2 0, 4, .inl g_5)), (b21, .inl (Z.2 0, 4, .inl g_6)), (b22, .inl (Z.2 2, 96, .inr (.inl (vp_updL g_21 (((24 * a) + 15).toNatClampNeg) 0))))] := hD
        generalize (vp_updL g_21 (((24 * a) + 15).toNatClampNeg) 0 : Nat → Int64) = g_22 at hP hD
        refine lv_iinc (v := 16) (lv' := [(4, .int 16), (0, .ref h0), (1, .int a), (2, .int b), (3, .int d)]) hx hb dX9_sheet_60 hl (k := 0) rfl (by decide) (by decide) rfl (fun ls hl => ?_)
        refine lv_goto (tgt := 40) hx hb dX9_sheet_63 (by decide) ?_
        refine lv_iload hx hb dX9_sheet_40 (lv_at hl 0 rfl) ?_
        refine lv_bipush (v := 24) hx hb dX9_sheet_42 (by decide) ?_
        refine lv_icmp_ge (tgt := 66) hx hb dX9_sheet_44 (by decide) (fun c9 => absurd c9 (by decide)) (fun _ => ?_)
        refine lv_aload_n hx hb dX9_sheet_47 rfl (lv_at hl 1 rfl) ?_
        refine va_get (D := Z.1) (ci := 9) (v := .ref b22) (C := RX9) (T := TX9) (N := 31) hx hb hts hin9 hown hK hP 0 rfl rfl 27 (by decide) (hts (.fieldLink RX9 74 "HalfAskedModel" "items" "[J") (by decide +kernel)) (fun _ h9 => h9) rfl dX9_sheet_48 ?_
        refine lv_bipush (v := 24) hx hb dX9_sheet_51 (by decide) ?_
        refine lv_iload_n hx hb dX9_sheet_53 rfl (lv_at hl 2 rfl) ?_
        refine lv_imul hx hb dX9_sheet_54 ?_
        refine lv_iload hx hb dX9_sheet_55 (lv_at hl 0 rfl) ?_
        refine lv_iadd hx hb dX9_sheet_57 ?_
        refine lv_lconst (v := 0) hx hb dX9_sheet_58 (by decide) ?_
        refine va_last hx hb hK hP hD hS 3 2 rfl rfl (z_it (z_ms c_2).1 (by decide)) dX9_sheet_59 (fun H locs hP hD hS => ?_)
        have hP : va_P Z.1 vwCl [(h0, .inr (9, [.ref b1, .ref b2, .ref b3, .ref b4, .int 0, .ref b5, .int 0, .ref b6, .ref b7, .ref b8, .int 0, .int 0, .int 0, .ref b9, .ref b10, .ref b11, .ref b12, .ref b13, .ref b14, .ref b15, .ref b16, .ref b17, .ref b18, .int 0, .ref b19, .ref b20, .ref b21, .ref b22, .ref b23, .ref b24, .ref b25])), (b20, .inl (Z.2 0, 4, .inl g_5)), (b21, .inl (Z.2 0, 4, .inl g_6)), (b22, .inl (Z.2 2, 96, .inr (.inl (vp_updL g_22 (((24 * a) + 16).toNatClampNeg) 0))))] H := hP
        have hD : va_D A [(h0, .inr (9, [.ref b1, .ref b2, .ref b3, .ref b4, .int 0, .ref b5, .int 0, .ref b6, .ref b7, .ref b8, .int 0, .int 0, .int 0, .ref b9, .ref b10, .ref b11, .ref b12, .ref b13, .ref b14, .ref b15, .ref b16, .ref b17, .ref b18, .int 0, .ref b19, .ref b20, .ref b21, .ref b22, .ref b23, .ref b24, .ref b25])), (b20, .inl (Z.2 0, 4, .inl g_5)), (b21, .inl (Z.2 0, 4, .inl g_6)), (b22, .inl (Z.2 2, 96, .inr (.inl (vp_updL g_22 (((24 * a) + 16).toNatClampNeg) 0))))] := hD
        generalize (vp_updL g_22 (((24 * a) + 16).toNatClampNeg) 0 : Nat → Int64) = g_23 at hP hD
        refine lv_iinc (v := 17) (lv' := [(4, .int 17), (0, .ref h0), (1, .int a), (2, .int b), (3, .int d)]) hx hb dX9_sheet_60 hl (k := 0) rfl (by decide) (by decide) rfl (fun ls hl => ?_)
        refine lv_goto (tgt := 40) hx hb dX9_sheet_63 (by decide) ?_
        refine lv_iload hx hb dX9_sheet_40 (lv_at hl 0 rfl) ?_
        refine lv_bipush (v := 24) hx hb dX9_sheet_42 (by decide) ?_
        refine lv_icmp_ge (tgt := 66) hx hb dX9_sheet_44 (by decide) (fun c9 => absurd c9 (by decide)) (fun _ => ?_)
        refine lv_aload_n hx hb dX9_sheet_47 rfl (lv_at hl 1 rfl) ?_
        refine va_get (D := Z.1) (ci := 9) (v := .ref b22) (C := RX9) (T := TX9) (N := 31) hx hb hts hin9 hown hK hP 0 rfl rfl 27 (by decide) (hts (.fieldLink RX9 74 "HalfAskedModel" "items" "[J") (by decide +kernel)) (fun _ h9 => h9) rfl dX9_sheet_48 ?_
        refine lv_bipush (v := 24) hx hb dX9_sheet_51 (by decide) ?_
        refine lv_iload_n hx hb dX9_sheet_53 rfl (lv_at hl 2 rfl) ?_
        refine lv_imul hx hb dX9_sheet_54 ?_
        refine lv_iload hx hb dX9_sheet_55 (lv_at hl 0 rfl) ?_
        refine lv_iadd hx hb dX9_sheet_57 ?_
        refine lv_lconst (v := 0) hx hb dX9_sheet_58 (by decide) ?_
        refine va_last hx hb hK hP hD hS 3 2 rfl rfl (z_it (z_ms c_2).1 (by decide)) dX9_sheet_59 (fun H locs hP hD hS => ?_)
        have hP : va_P Z.1 vwCl [(h0, .inr (9, [.ref b1, .ref b2, .ref b3, .ref b4, .int 0, .ref b5, .int 0, .ref b6, .ref b7, .ref b8, .int 0, .int 0, .int 0, .ref b9, .ref b10, .ref b11, .ref b12, .ref b13, .ref b14, .ref b15, .ref b16, .ref b17, .ref b18, .int 0, .ref b19, .ref b20, .ref b21, .ref b22, .ref b23, .ref b24, .ref b25])), (b20, .inl (Z.2 0, 4, .inl g_5)), (b21, .inl (Z.2 0, 4, .inl g_6)), (b22, .inl (Z.2 2, 96, .inr (.inl (vp_updL g_23 (((24 * a) + 17).toNatClampNeg) 0))))] H := hP
        have hD : va_D A [(h0, .inr (9, [.ref b1, .ref b2, .ref b3, .ref b4, .int 0, .ref b5, .int 0, .ref b6, .ref b7, .ref b8, .int 0, .int 0, .int 0, .ref b9, .ref b10, .ref b11, .ref b12, .ref b13, .ref b14, .ref b15, .ref b16, .ref b17, .ref b18, .int 0, .ref b19, .ref b20, .ref b21, .ref b22, .ref b23, .ref b24, .ref b25])), (b20, .inl (Z.2 0, 4, .inl g_5)), (b21, .inl (Z.2 0, 4, .inl g_6)), (b22, .inl (Z.2 2, 96, .inr (.inl (vp_updL g_23 (((24 * a) + 17).toNatClampNeg) 0))))] := hD
        generalize (vp_updL g_23 (((24 * a) + 17).toNatClampNeg) 0 : Nat → Int64) = g_24 at hP hD
        refine lv_iinc (v := 18) (lv' := [(4, .int 18), (0, .ref h0), (1, .int a), (2, .int b), (3, .int d)]) hx hb dX9_sheet_60 hl (k := 0) rfl (by decide) (by decide) rfl (fun ls hl => ?_)
        refine lv_goto (tgt := 40) hx hb dX9_sheet_63 (by decide) ?_
        refine lv_iload hx hb dX9_sheet_40 (lv_at hl 0 rfl) ?_
        refine lv_bipush (v := 24) hx hb dX9_sheet_42 (by decide) ?_
        refine lv_icmp_ge (tgt := 66) hx hb dX9_sheet_44 (by decide) (fun c9 => absurd c9 (by decide)) (fun _ => ?_)
        refine lv_aload_n hx hb dX9_sheet_47 rfl (lv_at hl 1 rfl) ?_
        refine va_get (D := Z.1) (ci := 9) (v := .ref b22) (C := RX9) (T := TX9) (N := 31) hx hb hts hin9 hown hK hP 0 rfl rfl 27 (by decide) (hts (.fieldLink RX9 74 "HalfAskedModel" "items" "[J") (by decide +kernel)) (fun _ h9 => h9) rfl dX9_sheet_48 ?_
        refine lv_bipush (v := 24) hx hb dX9_sheet_51 (by decide) ?_
        refine lv_iload_n hx hb dX9_sheet_53 rfl (lv_at hl 2 rfl) ?_
        refine lv_imul hx hb dX9_sheet_54 ?_
        refine lv_iload hx hb dX9_sheet_55 (lv_at hl 0 rfl) ?_
        refine lv_iadd hx hb dX9_sheet_57 ?_
        refine lv_lconst (v := 0) hx hb dX9_sheet_58 (by decide) ?_
        refine va_last hx hb hK hP hD hS 3 2 rfl rfl (z_it (z_ms c_2).1 (by decide)) dX9_sheet_59 (fun H locs hP hD hS => ?_)
        have hP : va_P Z.1 vwCl [(h0, .inr (9, [.ref b1, .ref b2, .ref b3, .ref b4, .int 0, .ref b5, .int 0, .ref b6, .ref b7, .ref b8, .int 0, .int 0, .int 0, .ref b9, .ref b10, .ref b11, .ref b12, .ref b13, .ref b14, .ref b15, .ref b16, .ref b17, .ref b18, .int 0, .ref b19, .ref b20, .ref b21, .ref b22, .ref b23, .ref b24, .ref b25])), (b20, .inl (Z.2 0, 4, .inl g_5)), (b21, .inl (Z.2 0, 4, .inl g_6)), (b22, .inl (Z.2 2, 96, .inr (.inl (vp_updL g_24 (((24 * a) + 18).toNatClampNeg) 0))))] H := hP
        have hD : va_D A [(h0, .inr (9, [.ref b1, .ref b2, .ref b3, .ref b4, .int 0, .ref b5, .int 0, .ref b6, .ref b7, .ref b8, .int 0, .int 0, .int 0, .ref b9, .ref b10, .ref b11, .ref b12, .ref b13, .ref b14, .ref b15, .ref b16, .ref b17, .ref b18, .int 0, .ref b19, .ref b20, .ref b21, .ref b22, .ref b23, .ref b24, .ref b25])), (b20, .inl (Z.2 0, 4, .inl g_5)), (b21, .inl (Z.2 0, 4, .inl g_6)), (b22, .inl (Z.2 2, 96, .inr (.inl (vp_updL g_24 (((24 * a) + 18).toNatClampNeg) 0))))] := hD
        generalize (vp_updL g_24 (((24 * a) + 18).toNatClampNeg) 0 : Nat → Int64) = g_25 at hP hD
        refine lv_iinc (v := 19) (lv' := [(4, .int 19), (0, .ref h0), (1, .int a), (2, .int b), (3, .int d)]) hx hb dX9_sheet_60 hl (k := 0) rfl (by decide) (by decide) rfl (fun ls hl => ?_)
        refine lv_goto (tgt := 40) hx hb dX9_sheet_63 (by decide) ?_
        refine lv_iload hx hb dX9_sheet_40 (lv_at hl 0 rfl) ?_
        refine lv_bipush (v := 24) hx hb dX9_sheet_42 (by decide) ?_
        refine lv_icmp_ge (tgt := 66) hx hb dX9_sheet_44 (by decide) (fun c9 => absurd c9 (by decide)) (fun _ => ?_)
        refine lv_aload_n hx hb dX9_sheet_47 rfl (lv_at hl 1 rfl) ?_
        refine va_get (D := Z.1) (ci := 9) (v := .ref b22) (C := RX9) (T := TX9) (N := 31) hx hb hts hin9 hown hK hP 0 rfl rfl 27 (by decide) (hts (.fieldLink RX9 74 "HalfAskedModel" "items" "[J") (by decide +kernel)) (fun _ h9 => h9) rfl dX9_sheet_48 ?_
        refine lv_bipush (v := 24) hx hb dX9_sheet_51 (by decide) ?_
        refine lv_iload_n hx hb dX9_sheet_53 rfl (lv_at hl 2 rfl) ?_
        refine lv_imul hx hb dX9_sheet_54 ?_
        refine lv_iload hx hb dX9_sheet_55 (lv_at hl 0 rfl) ?_
        refine lv_iadd hx hb dX9_sheet_57 ?_
        refine lv_lconst (v := 0) hx hb dX9_sheet_58 (by decide) ?_
        refine va_last hx hb hK hP hD hS 3 2 rfl rfl (z_it (z_ms c_2).1 (by decide)) dX9_sheet_59 (fun H locs hP hD hS => ?_)
        have hP : va_P Z.1 vwCl [(h0, .inr (9, [.ref b1, .ref b2, .ref b3, .ref b4, .int 0, .ref b5, .int 0, .ref b6, .ref b7, .ref b8, .int 0, .int 0, .int 0, .ref b9, .ref b10, .ref b11, .ref b12, .ref b13, .ref b14, .ref b15, .ref b16, .ref b17, .ref b18, .int 0, .ref b19, .ref b20, .ref b21, .ref b22, .ref b23, .ref b24, .ref b25])), (b20, .inl (Z.2 0, 4, .inl g_5)), (b21, .inl (Z.2 0, 4, .inl g_6)), (b22, .inl (Z.2 2, 96, .inr (.inl (vp_updL g_25 (((24 * a) + 19).toNatClampNeg) 0))))] H := hP
        have hD : va_D A [(h0, .inr (9, [.ref b1, .ref b2, .ref b3, .ref b4, .int 0, .ref b5, .int 0, .ref b6, .ref b7, .ref b8, .int 0, .int 0, .int 0, .ref b9, .ref b10, .ref b11, .ref b12, .ref b13, .ref b14, .ref b15, .ref b16, .ref b17, .ref b18, .int 0, .ref b19, .ref b20, .ref b21, .ref b22, .ref b23, .ref b24, .ref b25])), (b20, .inl (Z.2 0, 4, .inl g_5)), (b21, .inl (Z.2 0, 4, .inl g_6)), (b22, .inl (Z.2 2, 96, .inr (.inl (vp_updL g_25 (((24 * a) + 19).toNatClampNeg) 0))))] := hD
        generalize (vp_updL g_25 (((24 * a) + 19).toNatClampNeg) 0 : Nat → Int64) = g_26 at hP hD
        refine lv_iinc (v := 20) (lv' := [(4, .int 20), (0, .ref h0), (1, .int a), (2, .int b), (3, .int d)]) hx hb dX9_sheet_60 hl (k := 0) rfl (by decide) (by decide) rfl (fun ls hl => ?_)
        refine lv_goto (tgt := 40) hx hb dX9_sheet_63 (by decide) ?_
        refine lv_iload hx hb dX9_sheet_40 (lv_at hl 0 rfl) ?_
        refine lv_bipush (v := 24) hx hb dX9_sheet_42 (by decide) ?_
        refine lv_icmp_ge (tgt := 66) hx hb dX9_sheet_44 (by decide) (fun c9 => absurd c9 (by decide)) (fun _ => ?_)
        refine lv_aload_n hx hb dX9_sheet_47 rfl (lv_at hl 1 rfl) ?_
        refine va_get (D := Z.1) (ci := 9) (v := .ref b22) (C := RX9) (T := TX9) (N := 31) hx hb hts hin9 hown hK hP 0 rfl rfl 27 (by decide) (hts (.fieldLink RX9 74 "HalfAskedModel" "items" "[J") (by decide +kernel)) (fun _ h9 => h9) rfl dX9_sheet_48 ?_
        refine lv_bipush (v := 24) hx hb dX9_sheet_51 (by decide) ?_
        refine lv_iload_n hx hb dX9_sheet_53 rfl (lv_at hl 2 rfl) ?_
        refine lv_imul hx hb dX9_sheet_54 ?_
        refine lv_iload hx hb dX9_sheet_55 (lv_at hl 0 rfl) ?_
        refine lv_iadd hx hb dX9_sheet_57 ?_
        refine lv_lconst (v := 0) hx hb dX9_sheet_58 (by decide) ?_
        refine va_last hx hb hK hP hD hS 3 2 rfl rfl (z_it (z_ms c_2).1 (by decide)) dX9_sheet_59 (fun H locs hP hD hS => ?_)
        have hP : va_P Z.1 vwCl [(h0, .inr (9, [.ref b1, .ref b2, .ref b3, .ref b4, .int 0, .ref b5, .int 0, .ref b6, .ref b7, .ref b8, .int 0, .int 0, .int 0, .ref b9, .ref b10, .ref b11, .ref b12, .ref b13, .ref b14, .ref b15, .ref b16, .ref b17, .ref b18, .int 0, .ref b19, .ref b20, .ref b21, .ref b22, .ref b23, .ref b24, .ref b25])), (b20, .inl (Z.2 0, 4, .inl g_5)), (b21, .inl (Z.2 0, 4, .inl g_6)), (b22, .inl (Z.2 2, 96, .inr (.inl (vp_updL g_26 (((24 * a) + 20).toNatClampNeg) 0))))] H := hP
        have hD : va_D A [(h0, .inr (9, [.ref b1, .ref b2, .ref b3, .ref b4, .int 0, .ref b5, .int 0, .ref b6, .ref b7, .ref b8, .int 0, .int 0, .int 0, .ref b9, .ref b10, .ref b11, .ref b12, .ref b13, .ref b14, .ref b15, .ref b16, .ref b17, .ref b18, .int 0, .ref b19, .ref b20, .ref b21, .ref b22, .ref b23, .ref b24, .ref b25])), (b20, .inl (Z.2 0, 4, .inl g_5)), (b21, .inl (Z.2 0, 4, .inl g_6)), (b22, .inl (Z.2 2, 96, .inr (.inl (vp_updL g_26 (((24 * a) + 20).toNatClampNeg) 0))))] := hD
        generalize (vp_updL g_26 (((24 * a) + 20).toNatClampNeg) 0 : Nat → Int64) = g_27 at hP hD
        refine lv_iinc (v := 21) (lv' := [(4, .int 21), (0, .ref h0), (1, .int a), (2, .int b), (3, .int d)]) hx hb dX9_sheet_60 hl (k := 0) rfl (by decide) (by decide) rfl (fun ls hl => ?_)
        refine lv_goto (tgt := 40) hx hb dX9_sheet_63 (by decide) ?_
        refine lv_iload hx hb dX9_sheet_40 (lv_at hl 0 rfl) ?_
        refine lv_bipush (v := 24) hx hb dX9_sheet_42 (by decide) ?_
        refine lv_icmp_ge (tgt := 66) hx hb dX9_sheet_44 (by decide) (fun c9 => absurd c9 (by decide)) (fun _ => ?_)
        refine lv_aload_n hx hb dX9_sheet_47 rfl (lv_at hl 1 rfl) ?_
        refine va_get (D := Z.1) (ci := 9) (v := .ref b22) (C := RX9) (T := TX9) (N := 31) hx hb hts hin9 hown hK hP 0 rfl rfl 27 (by decide) (hts (.fieldLink RX9 74 "HalfAskedModel" "items" "[J") (by decide +kernel)) (fun _ h9 => h9) rfl dX9_sheet_48 ?_
        refine lv_bipush (v := 24) hx hb dX9_sheet_51 (by decide) ?_
        refine lv_iload_n hx hb dX9_sheet_53 rfl (lv_at hl 2 rfl) ?_
        refine lv_imul hx hb dX9_sheet_54 ?_
        refine lv_iload hx hb dX9_sheet_55 (lv_at hl 0 rfl) ?_
        refine lv_iadd hx hb dX9_sheet_57 ?_
        refine lv_lconst (v := 0) hx hb dX9_sheet_58 (by decide) ?_
        refine va_last hx hb hK hP hD hS 3 2 rfl rfl (z_it (z_ms c_2).1 (by decide)) dX9_sheet_59 (fun H locs hP hD hS => ?_)
        have hP : va_P Z.1 vwCl [(h0, .inr (9, [.ref b1, .ref b2, .ref b3, .ref b4, .int 0, .ref b5, .int 0, .ref b6, .ref b7, .ref b8, .int 0, .int 0, .int 0, .ref b9, .ref b10, .ref b11, .ref b12, .ref b13, .ref b14, .ref b15, .ref b16, .ref b17, .ref b18, .int 0, .ref b19, .ref b20, .ref b21, .ref b22, .ref b23, .ref b24, .ref b25])), (b20, .inl (Z.2 0, 4, .inl g_5)), (b21, .inl (Z.2 0, 4, .inl g_6)), (b22, .inl (Z.2 2, 96, .inr (.inl (vp_updL g_27 (((24 * a) + 21).toNatClampNeg) 0))))] H := hP
        have hD : va_D A [(h0, .inr (9, [.ref b1, .ref b2, .ref b3, .ref b4, .int 0, .ref b5, .int 0, .ref b6, .ref b7, .ref b8, .int 0, .int 0, .int 0, .ref b9, .ref b10, .ref b11, .ref b12, .ref b13, .ref b14, .ref b15, .ref b16, .ref b17, .ref b18, .int 0, .ref b19, .ref b20, .ref b21, .ref b22, .ref b23, .ref b24, .ref b25])), (b20, .inl (Z.2 0, 4, .inl g_5)), (b21, .inl (Z.2 0, 4, .inl g_6)), (b22, .inl (Z.2 2, 96, .inr (.inl (vp_updL g_27 (((24 * a) + 21).toNatClampNeg) 0))))] := hD
        generalize (vp_updL g_27 (((24 * a) + 21).toNatClampNeg) 0 : Nat → Int64) = g_28 at hP hD
        refine lv_iinc (v := 22) (lv' := [(4, .int 22), (0, .ref h0), (1, .int a), (2, .int b), (3, .int d)]) hx hb dX9_sheet_60 hl (k := 0) rfl (by decide) (by decide) rfl (fun ls hl => ?_)
        refine lv_goto (tgt := 40) hx hb dX9_sheet_63 (by decide) ?_
        refine lv_iload hx hb dX9_sheet_40 (lv_at hl 0 rfl) ?_
        refine lv_bipush (v := 24) hx hb dX9_sheet_42 (by decide) ?_
        refine lv_icmp_ge (tgt := 66) hx hb dX9_sheet_44 (by decide) (fun c9 => absurd c9 (by decide)) (fun _ => ?_)
        refine lv_aload_n hx hb dX9_sheet_47 rfl (lv_at hl 1 rfl) ?_
        refine va_get (D := Z.1) (ci := 9) (v := .ref b22) (C := RX9) (T := TX9) (N := 31) hx hb hts hin9 hown hK hP 0 rfl rfl 27 (by decide) (hts (.fieldLink RX9 74 "HalfAskedModel" "items" "[J") (by decide +kernel)) (fun _ h9 => h9) rfl dX9_sheet_48 ?_
        refine lv_bipush (v := 24) hx hb dX9_sheet_51 (by decide) ?_
        refine lv_iload_n hx hb dX9_sheet_53 rfl (lv_at hl 2 rfl) ?_
        refine lv_imul hx hb dX9_sheet_54 ?_
        refine lv_iload hx hb dX9_sheet_55 (lv_at hl 0 rfl) ?_
        refine lv_iadd hx hb dX9_sheet_57 ?_
        refine lv_lconst (v := 0) hx hb dX9_sheet_58 (by decide) ?_
        refine va_last hx hb hK hP hD hS 3 2 rfl rfl (z_it (z_ms c_2).1 (by decide)) dX9_sheet_59 (fun H locs hP hD hS => ?_)
        have hP : va_P Z.1 vwCl [(h0, .inr (9, [.ref b1, .ref b2, .ref b3, .ref b4, .int 0, .ref b5, .int 0, .ref b6, .ref b7, .ref b8, .int 0, .int 0, .int 0, .ref b9, .ref b10, .ref b11, .ref b12, .ref b13, .ref b14, .ref b15, .ref b16, .ref b17, .ref b18, .int 0, .ref b19, .ref b20, .ref b21, .ref b22, .ref b23, .ref b24, .ref b25])), (b20, .inl (Z.2 0, 4, .inl g_5)), (b21, .inl (Z.2 0, 4, .inl g_6)), (b22, .inl (Z.2 2, 96, .inr (.inl (vp_updL g_28 (((24 * a) + 22).toNatClampNeg) 0))))] H := hP
        have hD : va_D A [(h0, .inr (9, [.ref b1, .ref b2, .ref b3, .ref b4, .int 0, .ref b5, .int 0, .ref b6, .ref b7, .ref b8, .int 0, .int 0, .int 0, .ref b9, .ref b10, .ref b11, .ref b12, .ref b13, .ref b14, .ref b15, .ref b16, .ref b17, .ref b18, .int 0, .ref b19, .ref b20, .ref b21, .ref b22, .ref b23, .ref b24, .ref b25])), (b20, .inl (Z.2 0, 4, .inl g_5)), (b21, .inl (Z.2 0, 4, .inl g_6)), (b22, .inl (Z.2 2, 96, .inr (.inl (vp_updL g_28 (((24 * a) + 22).toNatClampNeg) 0))))] := hD
        generalize (vp_updL g_28 (((24 * a) + 22).toNatClampNeg) 0 : Nat → Int64) = g_29 at hP hD
        refine lv_iinc (v := 23) (lv' := [(4, .int 23), (0, .ref h0), (1, .int a), (2, .int b), (3, .int d)]) hx hb dX9_sheet_60 hl (k := 0) rfl (by decide) (by decide) rfl (fun ls hl => ?_)
        refine lv_goto (tgt := 40) hx hb dX9_sheet_63 (by decide) ?_
        refine lv_iload hx hb dX9_sheet_40 (lv_at hl 0 rfl) ?_
        refine lv_bipush (v := 24) hx hb dX9_sheet_42 (by decide) ?_
        refine lv_icmp_ge (tgt := 66) hx hb dX9_sheet_44 (by decide) (fun c9 => absurd c9 (by decide)) (fun _ => ?_)
        refine lv_aload_n hx hb dX9_sheet_47 rfl (lv_at hl 1 rfl) ?_
        refine va_get (D := Z.1) (ci := 9) (v := .ref b22) (C := RX9) (T := TX9) (N := 31) hx hb hts hin9 hown hK hP 0 rfl rfl 27 (by decide) (hts (.fieldLink RX9 74 "HalfAskedModel" "items" "[J") (by decide +kernel)) (fun _ h9 => h9) rfl dX9_sheet_48 ?_
        refine lv_bipush (v := 24) hx hb dX9_sheet_51 (by decide) ?_
        refine lv_iload_n hx hb dX9_sheet_53 rfl (lv_at hl 2 rfl) ?_
        refine lv_imul hx hb dX9_sheet_54 ?_
        refine lv_iload hx hb dX9_sheet_55 (lv_at hl 0 rfl) ?_
        refine lv_iadd hx hb dX9_sheet_57 ?_
        refine lv_lconst (v := 0) hx hb dX9_sheet_58 (by decide) ?_
        refine va_last hx hb hK hP hD hS 3 2 rfl rfl (z_it (z_ms c_2).1 (by decide)) dX9_sheet_59 (fun H locs hP hD hS => ?_)
        have hP : va_P Z.1 vwCl [(h0, .inr (9, [.ref b1, .ref b2, .ref b3, .ref b4, .int 0, .ref b5, .int 0, .ref b6, .ref b7, .ref b8, .int 0, .int 0, .int 0, .ref b9, .ref b10, .ref b11, .ref b12, .ref b13, .ref b14, .ref b15, .ref b16, .ref b17, .ref b18, .int 0, .ref b19, .ref b20, .ref b21, .ref b22, .ref b23, .ref b24, .ref b25])), (b20, .inl (Z.2 0, 4, .inl g_5)), (b21, .inl (Z.2 0, 4, .inl g_6)), (b22, .inl (Z.2 2, 96, .inr (.inl (vp_updL g_29 (((24 * a) + 23).toNatClampNeg) 0))))] H := hP
        have hD : va_D A [(h0, .inr (9, [.ref b1, .ref b2, .ref b3, .ref b4, .int 0, .ref b5, .int 0, .ref b6, .ref b7, .ref b8, .int 0, .int 0, .int 0, .ref b9, .ref b10, .ref b11, .ref b12, .ref b13, .ref b14, .ref b15, .ref b16, .ref b17, .ref b18, .int 0, .ref b19, .ref b20, .ref b21, .ref b22, .ref b23, .ref b24, .ref b25])), (b20, .inl (Z.2 0, 4, .inl g_5)), (b21, .inl (Z.2 0, 4, .inl g_6)), (b22, .inl (Z.2 2, 96, .inr (.inl (vp_updL g_29 (((24 * a) + 23).toNatClampNeg) 0))))] := hD
        generalize (vp_updL g_29 (((24 * a) + 23).toNatClampNeg) 0 : Nat → Int64) = g_30 at hP hD
        refine lv_iinc (v := 24) (lv' := [(4, .int 24), (0, .ref h0), (1, .int a), (2, .int b), (3, .int d)]) hx hb dX9_sheet_60 hl (k := 0) rfl (by decide) (by decide) rfl (fun ls hl => ?_)
        refine lv_goto (tgt := 40) hx hb dX9_sheet_63 (by decide) ?_
        refine lv_iload hx hb dX9_sheet_40 (lv_at hl 0 rfl) ?_
        refine lv_bipush (v := 24) hx hb dX9_sheet_42 (by decide) ?_
        refine lv_icmp_ge (tgt := 66) hx hb dX9_sheet_44 (by decide) (fun _ => ?_) (fun c9 => absurd c9 (by decide))
        refine lv_iload_n hx hb dX9_sheet_66 rfl (lv_at hl 4 rfl) ?_
        exact W.iret (v := d) hx hb hr (fun t ht hW => ⟨⟨d, (), rfl, (by rw [if_neg c_2, if_pos c_3, if_pos c_4]), trivial⟩, hS.F ht⟩) hS.2.2 dX9_sheet_67
      · refine lv_bipush (v := (-14)) hx hb dX9_sheet_20 (by decide) ?_
        exact W.iret (v := (-14)) hx hb hr (fun t ht hW => ⟨⟨(-14), (), rfl, (by rw [if_neg c_2, if_pos c_3, if_neg c_4]), trivial⟩, hS.F ht⟩) hS.2.2 dX9_sheet_22
    · refine lv_iconst (v := (-1)) hx hb dX9_sheet_14 (by decide) ?_
      exact W.iret (v := (-1)) hx hb hr (fun t ht hW => ⟨⟨(-1), (), rfl, (by rw [if_neg c_2, if_neg c_3]), trivial⟩, hS.F ht⟩) hS.2.2 dX9_sheet_15
