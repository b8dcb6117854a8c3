theorem z_min24 {j : Nat} (h : j ≤ 24) : (if (24 : Int32) < nI j then (24 : Int32) else nI j) = nI j := if_neg (nI_nlt (a := 24) h (by decide))
theorem z_max0 (j : Nat) (h : j ≤ 24) : (if (0 : Int32) < nI j then nI j else (0 : Int32)) = nI j := by
  rcases Nat.eq_zero_or_pos j with e | e
  · subst e; rfl
  · exact if_pos (nI_lt (a := 0) e (by omega))
theorem z_n24 {d : Int32} (h1 : 0 ≤ d) (h2 : d ≤ 24) : ∃ j : Nat, j ≤ 24 ∧ d = nI j := nI_of2 (M := 24) (n := 24) (by decide) (Int32.not_lt.mpr h1) h2
set_option maxHeartbeats 4000000 in
set_option maxRecDepth 100000 in
theorem c_X4_init (l : Launch) (Z : gZ) (sz : Nat) (h0 : Nat) (a : Int32) (j : Nat) (hj : j ≤ 24) : Met l yX4_init wsX4_init ({ frames := 1, cells := 1, slots := 24, locals := 29 }) (va_Pc [.ref h0, .int a, .int (nI j)] (fun U => U.heap.size = sz ∧ va_P Z.1 vwCl [(h0, .inr (4, [.int 0, .null]))] U.heap ∧ va_K Z.1 vwCl (gT Z) U ∧ va_D (fun _ => True) [(h0, .inr (4, [.int 0, .null]))])) (va_Qv (fun (u : Nat) => match u with | it => True) (fun (u : Nat) (t9 : State) => match u with | it => va_P Z.1 vwCl [(h0, .inr (4, [.int a, .ref it])), (it, .inl (Z.2 2, j, .inr (.inl (fun _ => 0))))] t9.heap ∧ va_D (va_A [(h0, .inr (4, [.int 0, .null]))] sz) [(h0, .inr (4, [.int a, .ref it])), (it, .inl (Z.2 2, j, .inr (.inl (fun _ => 0))))]) (va_A [(h0, .inr (4, [.int 0, .null]))] sz)) 1 24 (va_A [(h0, .inr (4, [.int 0, .null]))] sz) := by
  refine Met.ofW (cc := cX4_init) (maxL := 3) (ret := none) (by decide) rfl ?_
  intro p e s m args below meth c s₁ B hml hv
  obtain ⟨rfl, hsz, hP, hK, hD0⟩ := hv
  have hx := B.exec
  have hb := B.bytes
  have hr := B.returns
  have hts := atoms_spec (ws := wsX4_init) B.pre
  have hown : s.vm.findClass RX4 = some m.cls := findClass_of_methodNamed B.named
  have hlocks := B.notSynchronized
  have hin : meth.name = "<init>" := (name_of_methodNamed B.named B.method).1
  subst hsz
  have hin4 : ∀ w ∈ wsX40, w ∈ wsX4_init := fun w h9 => (List.mem_cons_of_mem _ (List.mem_append_right _ h9))
  have hD := hD0.self (sz := s.heap.size)
  generalize hAe : va_A [(h0, .inr (4, [.int 0, .null]))] s.heap.size = A at hD ⊢
  have hA : ∀ q : Nat, s.heap.size ≤ q → A q := fun q h => by rw [← hAe]; exact Or.inr h
  have hS : va_S A s.heap s.heap [] := va_S.rf
  have hP : va_P Z.1 vwCl [(h0, .inr (4, [.int 0, .null]))] s.heap := hP
  have hl := lv_entry ([.ref h0, .int a, .int (nI j)]) (n := 3) (Nat.le_of_ble_eq_true rfl)
  rw [lg_entry_eq]
  generalize (lg_sl ([.ref h0, .int a, .int (nI j)]) ++ List.replicate (3 - (lg_sl ([.ref h0, .int a, .int (nI j)])).length) Slot.unset).toArray = ls at hl ⊢
  have hl : lv_has ls 3 [(0, .ref h0), (1, .int a), (2, .int (nI j))] := hl
  refine lv_aload_n hx hb dX4_init_0 rfl (lv_at hl 0 rfl) ?_
  refine W.objInit hx hb hown (hts (.methodLink RX4 3 objectInit) (List.mem_of_getElem? (i := 1) rfl)) (hts (.instanceMethod objectInit) (List.mem_of_getElem? (i := 2) rfl)) (hts (.code objectInit ⟨#[0xb1]⟩ 1 none) (List.mem_of_getElem? (i := 3) rfl)) rfl (by rw [hml]; exact hl.1) rfl dX4_init_1 (Nat.le_of_ble_eq_true rfl) (Nat.le_of_ble_eq_true rfl) ?_
  refine W.eq (g2 := F0 m 4 ls []) rfl ?_
  refine lv_aload_n hx hb dX4_init_4 rfl (lv_at hl 0 rfl) ?_
  refine lv_iload_n hx hb dX4_init_5 rfl (lv_at hl 1 rfl) ?_
  refine va_putF (D := Z.1) (ci := 4) (v := .int a) (ty := .int) (C := RX4) (T := TX4) (N := 2) hx hb hts hin4 tyX4 tyX4_ok nmX4 hown hK hP hD hS 0 rfl rfl 0 (by decide) (hts (.fieldLink RX4 9 "HalfAsked$Sheet" "lane" "I") (List.mem_of_getElem? (i := 4) rfl)) (fun _ h9 => h9) rfl hin rfl (by decide +kernel) rfl rfl (Nat.le_of_ble_eq_true rfl) dX4_init_6 (fun H locs hP hD hS => ?_)
  have hP : va_P Z.1 vwCl [(h0, .inr (4, [.int a, .null]))] H := hP
  have hD : va_D A [(h0, .inr (4, [.int a, .null]))] := hD
  refine lv_aload_n hx hb dX4_init_9 rfl (lv_at hl 0 rfl) ?_
  refine lv_iconst (v := 0) hx hb dX4_init_10 (by decide) ?_
  refine lv_iload_n hx hb dX4_init_11 rfl (lv_at hl 2 rfl) ?_
  refine lv_bipush (v := 24) hx hb dX4_init_12 (by decide) ?_
  refine va_mmin hx hb (hml.trans hl.1.symm) hown (hts (.methodLink RX4 15 Lib.Math.min.name) (List.mem_of_getElem? (i := 5) rfl)) (hts (.static Lib.Math.min.name) (List.mem_of_getElem? (i := 6) rfl)) (hts (.initialized "java/lang/Math") (List.mem_of_getElem? (i := 7) rfl)) (hts (.code Lib.Math.min.name Lib.Math.min.code 2 (some .int)) (List.mem_of_getElem? (i := 8) rfl)) (Nat.le_of_ble_eq_true rfl) (Nat.le_of_ble_eq_true rfl) (Nat.le_of_ble_eq_true rfl) (Nat.le_of_ble_eq_true rfl) dX4_init_14 ?_
  refine lv_topi (fun f_1 ef_1 => ?_)
  obtain rfl : nI j = f_1 := (ef_1.trans (z_min24 hj)).symm
  refine va_mmax hx hb (hml.trans hl.1.symm) hown (hts (.methodLink RX4 21 Lib.Math.max.name) (List.mem_of_getElem? (i := 9) rfl)) (hts (.static Lib.Math.max.name) (List.mem_of_getElem? (i := 10) rfl)) (hts (.initialized "java/lang/Math") (List.mem_of_getElem? (i := 7) rfl)) (hts (.code Lib.Math.max.name Lib.Math.max.code 2 (some .int)) (List.mem_of_getElem? (i := 11) rfl)) (Nat.le_of_ble_eq_true rfl) (Nat.le_of_ble_eq_true rfl) (Nat.le_of_ble_eq_true rfl) (Nat.le_of_ble_eq_true rfl) dX4_init_17 ?_
  refine lv_topi (fun f_2 ef_2 => ?_)
  obtain rfl : nI j = f_2 := (ef_2.trans (z_max0 j hj)).symm
  refine z_newlong (N' := j) hx hb (hts (.arrayClass .long) (List.mem_of_getElem? (i := 12) rfl)) hK hP hD hS hA (nI_pos (by omega)) (nI_clamp (by omega)) (by omega) (Nat.le_of_ble_eq_true rfl) (show 0 + j ≤ 24 by omega) dX4_init_20 (fun q_3 H hP hD hS => ?_)
  have hP : va_P Z.1 vwCl [(h0, .inr (4, [.int a, .null])), (q_3, .inl (Z.2 2, j, .inr (.inl (fun _ => 0))))] H := hP
  have hD : va_D A [(h0, .inr (4, [.int a, .null])), (q_3, .inl (Z.2 2, j, .inr (.inl (fun _ => 0))))] := hD
  refine W.widen (k := 1) (n := 24) (Nat.le_of_ble_eq_true rfl) (show 0 + j ≤ 24 by omega) ?_
  refine va_putF (D := Z.1) (ci := 4) (v := .ref q_3) (ty := .array .long) (C := RX4) (T := TX4) (N := 2) hx hb hts hin4 tyX4 tyX4_ok nmX4 hown hK hP hD hS 0 rfl rfl 1 (by decide) (hts (.fieldLink RX4 24 "HalfAsked$Sheet" "items" "[J") (List.mem_of_getElem? (i := 13) rfl)) (fun _ h9 => h9) rfl hin rfl (by decide +kernel) rfl rfl (Nat.le_of_ble_eq_true rfl) dX4_init_22 (fun H locs hP hD hS => ?_)
  have hP : va_P Z.1 vwCl [(h0, .inr (4, [.int a, .ref q_3])), (q_3, .inl (Z.2 2, j, .inr (.inl (fun _ => 0))))] H := hP
  have hD : va_D A [(h0, .inr (4, [.int a, .ref q_3])), (q_3, .inl (Z.2 2, j, .inr (.inl (fun _ => 0))))] := hD
  have hP9 := hP.sub (ws' := [(h0, .inr (4, [.int a, .ref q_3])), (q_3, .inl (Z.2 2, j, .inr (.inl (fun _ => 0))))]) [0, 1] rfl
  have hD9 := hD.sub (ws' := [(h0, .inr (4, [.int a, .ref q_3])), (q_3, .inl (Z.2 2, j, .inr (.inl (fun _ => 0))))]) [0, 1] (by decide +kernel) rfl
  exact W.vret hx hb hr (fun t9 ht hW => ⟨⟨q_3, rfl, trivial, by rw [ht]; exact hP9, hD9⟩, hS.F ht⟩) hS.2.2 dX4_init_25
set_option maxHeartbeats 4000000 in
set_option maxRecDepth 100000 in
theorem c_X4_reaches (l : Launch) (Z : gZ) (sz : Nat) (h0 : Nat) (it : Nat) (ln : Int32) (len : Nat) (sg : Nat → Int64) (a : Int32) (b : Int32)  : Met l yX4_reaches wsX4_reaches ({ frames := 0, cells := 0, slots := 0, locals := 0 }) (va_Pc [.ref h0, .int a, .int b] (fun U => U.heap.size = sz ∧ va_P Z.1 vwCl [(h0, .inr (4, [.int ln, .ref it])), (it, .inl (Z.2 2, len, .inr (.inl sg)))] U.heap ∧ va_K Z.1 vwCl (gT Z) U ∧ va_D (fun _ => True) [(h0, .inr (4, [.int ln, .ref it])), (it, .inl (Z.2 2, len, .inr (.inl sg)))])) (va_Qi (fun (r : Int32) (u : Unit) => r = (if b < 0 then (0 : Int32) else (if a < 0 then (0 : Int32) else (if (nI len) < a then (0 : Int32) else (if ((nI len) - a) < b then (0 : Int32) else (1 : Int32)))))) (fun (u : Unit) (t9 : State) => va_P Z.1 vwCl [(h0, .inr (4, [.int ln, .ref it])), (it, .inl (Z.2 2, len, .inr (.inl sg)))] t9.heap ∧ va_D (va_A [(h0, .inr (4, [.int ln, .ref it])), (it, .inl (Z.2 2, len, .inr (.inl sg)))] sz) [(h0, .inr (4, [.int ln, .ref it])), (it, .inl (Z.2 2, len, .inr (.inl sg)))]) (va_A [(h0, .inr (4, [.int ln, .ref it])), (it, .inl (Z.2 2, len, .inr (.inl sg)))] sz)) 0 0 (va_A [(h0, .inr (4, [.int ln, .ref it])), (it, .inl (Z.2 2, len, .inr (.inl sg)))] sz) := by
  refine Met.ofW (cc := cX4_reaches) (maxL := 3) (ret := (some .boolean)) (by decide) rfl ?_
  intro p e s m args below meth c s₁ B hml hv
  obtain ⟨rfl, hsz, hP, hK, hD0⟩ := hv
  have hx := B.exec
  have hb := B.bytes
  have hr := B.returns
  have hts := atoms_spec (ws := wsX4_reaches) B.pre
  have hown : s.vm.findClass RX4 = some m.cls := findClass_of_methodNamed B.named
  have hlocks := B.notSynchronized
  subst hsz
  have hin4 : ∀ w ∈ wsX40, w ∈ wsX4_reaches := fun w h9 => (List.mem_cons_of_mem _ (List.mem_append_right _ h9))
  have hD := hD0.self (sz := s.heap.size)
  generalize hAe : va_A [(h0, .inr (4, [.int ln, .ref it])), (it, .inl (Z.2 2, len, .inr (.inl sg)))] s.heap.size = A at hD ⊢
  have hA : ∀ q : Nat, s.heap.size ≤ q → A q := fun q h => by rw [← hAe]; exact Or.inr h
  have hS : va_S A s.heap s.heap [] := va_S.rf
  have hP : va_P Z.1 vwCl [(h0, .inr (4, [.int ln, .ref it])), (it, .inl (Z.2 2, len, .inr (.inl sg)))] s.heap := hP
  have hl := lv_entry ([.ref h0, .int a, .int b]) (n := 3) (Nat.le_of_ble_eq_true rfl)
  rw [lg_entry_eq]
  generalize (lg_sl ([.ref h0, .int a, .int b]) ++ List.replicate (3 - (lg_sl ([.ref h0, .int a, .int b])).length) Slot.unset).toArray = ls at hl ⊢
  have hl : lv_has ls 3 [(0, .ref h0), (1, .int a), (2, .int b)] := hl
  refine lv_iload_n hx hb dX4_reaches_0 rfl (lv_at hl 2 rfl) ?_
  refine lv_if_lt (tgt := 32) hx hb dX4_reaches_1 (by decide) (fun c_1 => ?_) (fun c_1 => ?_)
  · refine lv_iconst (v := 0) hx hb dX4_reaches_32 (by decide) ?_
    have hP9 := hP.sub (ws' := [(h0, .inr (4, [.int ln, .ref it])), (it, .inl (Z.2 2, len, .inr (.inl sg)))]) [0, 1] rfl
    have hD9 := hD.sub (ws' := [(h0, .inr (4, [.int ln, .ref it])), (it, .inl (Z.2 2, len, .inr (.inl sg)))]) [0, 1] (by decide +kernel) rfl
    exact W.zret (v := 0) hx hb hr rfl (fun t9 ht hW => ⟨⟨0, (), rfl, (by rw [if_pos c_1]), by rw [ht]; exact hP9, hD9⟩, hS.F ht⟩) hS.2.2 dX4_reaches_33
  · refine lv_iload_n hx hb dX4_reaches_4 rfl (lv_at hl 1 rfl) ?_
    refine lv_if_lt (tgt := 32) hx hb dX4_reaches_5 (by decide) (fun c_2 => ?_) (fun c_2 => ?_)
    · refine lv_iconst (v := 0) hx hb dX4_reaches_32 (by decide) ?_
      have hP9 := hP.sub (ws' := [(h0, .inr (4, [.int ln, .ref it])), (it, .inl (Z.2 2, len, .inr (.inl sg)))]) [0, 1] rfl
      have hD9 := hD.sub (ws' := [(h0, .inr (4, [.int ln, .ref it])), (it, .inl (Z.2 2, len, .inr (.inl sg)))]) [0, 1] (by decide +kernel) rfl
      exact W.zret (v := 0) hx hb hr rfl (fun t9 ht hW => ⟨⟨0, (), rfl, (by rw [if_neg c_1, if_pos c_2]), by rw [ht]; exact hP9, hD9⟩, hS.F ht⟩) hS.2.2 dX4_reaches_33
    · refine lv_iload_n hx hb dX4_reaches_8 rfl (lv_at hl 1 rfl) ?_
      refine lv_aload_n hx hb dX4_reaches_9 rfl (lv_at hl 0 rfl) ?_
      refine va_get (D := Z.1) (ci := 4) (v := .ref it) (C := RX4) (T := TX4) (N := 2) hx hb hts hin4 hown hK hP 0 rfl rfl 1 (by decide) (hts (.fieldLink RX4 24 "HalfAsked$Sheet" "items" "[J") (List.mem_of_getElem? (i := 1) rfl)) (fun _ h9 => h9) rfl dX4_reaches_10 ?_
      refine va_alen (v := nI len) hx hb hK hP 1 2 rfl rfl rfl dX4_reaches_13 ?_
      refine lv_icmp_gt (tgt := 32) hx hb dX4_reaches_14 (by decide) (fun c_3 => ?_) (fun c_3 => ?_)
      · refine lv_iconst (v := 0) hx hb dX4_reaches_32 (by decide) ?_
        have hP9 := hP.sub (ws' := [(h0, .inr (4, [.int ln, .ref it])), (it, .inl (Z.2 2, len, .inr (.inl sg)))]) [0, 1] rfl
        have hD9 := hD.sub (ws' := [(h0, .inr (4, [.int ln, .ref it])), (it, .inl (Z.2 2, len, .inr (.inl sg)))]) [0, 1] (by decide +kernel) rfl
        exact W.zret (v := 0) hx hb hr rfl (fun t9 ht hW => ⟨⟨0, (), rfl, (by rw [if_neg c_1, if_neg c_2, if_pos c_3]), by rw [ht]; exact hP9, hD9⟩, hS.F ht⟩) hS.2.2 dX4_reaches_33
      · refine lv_iload_n hx hb dX4_reaches_17 rfl (lv_at hl 2 rfl) ?_
        refine lv_aload_n hx hb dX4_reaches_18 rfl (lv_at hl 0 rfl) ?_
        refine va_get (D := Z.1) (ci := 4) (v := .ref it) (C := RX4) (T := TX4) (N := 2) hx hb hts hin4 hown hK hP 0 rfl rfl 1 (by decide) (hts (.fieldLink RX4 24 "HalfAsked$Sheet" "items" "[J") (List.mem_of_getElem? (i := 1) rfl)) (fun _ h9 => h9) rfl dX4_reaches_19 ?_
        refine va_alen (v := nI len) hx hb hK hP 1 2 rfl rfl rfl dX4_reaches_22 ?_
        refine lv_iload_n hx hb dX4_reaches_23 rfl (lv_at hl 1 rfl) ?_
        refine lv_isub hx hb dX4_reaches_24 ?_
        refine lv_icmp_gt (tgt := 32) hx hb dX4_reaches_25 (by decide) (fun c_4 => ?_) (fun c_4 => ?_)
        · refine lv_iconst (v := 0) hx hb dX4_reaches_32 (by decide) ?_
          have hP9 := hP.sub (ws' := [(h0, .inr (4, [.int ln, .ref it])), (it, .inl (Z.2 2, len, .inr (.inl sg)))]) [0, 1] rfl
          have hD9 := hD.sub (ws' := [(h0, .inr (4, [.int ln, .ref it])), (it, .inl (Z.2 2, len, .inr (.inl sg)))]) [0, 1] (by decide +kernel) rfl
          exact W.zret (v := 0) hx hb hr rfl (fun t9 ht hW => ⟨⟨0, (), rfl, (by rw [if_neg c_1, if_neg c_2, if_neg c_3, if_pos c_4]), by rw [ht]; exact hP9, hD9⟩, hS.F ht⟩) hS.2.2 dX4_reaches_33
        · refine lv_iconst (v := 1) hx hb dX4_reaches_28 (by decide) ?_
          refine lv_goto (tgt := 33) hx hb dX4_reaches_29 (by decide) ?_
          have hP9 := hP.sub (ws' := [(h0, .inr (4, [.int ln, .ref it])), (it, .inl (Z.2 2, len, .inr (.inl sg)))]) [0, 1] rfl
          have hD9 := hD.sub (ws' := [(h0, .inr (4, [.int ln, .ref it])), (it, .inl (Z.2 2, len, .inr (.inl sg)))]) [0, 1] (by decide +kernel) rfl
          exact W.zret (v := 1) hx hb hr rfl (fun t9 ht hW => ⟨⟨1, (), rfl, (by rw [if_neg c_1, if_neg c_2, if_neg c_3, if_neg c_4]), by rw [ht]; exact hP9, hD9⟩, hS.F ht⟩) hS.2.2 dX4_reaches_33
set_option maxHeartbeats 4000000 in
set_option maxRecDepth 100000 in
theorem c_X4_lookAt (l : Launch) (Z : gZ) (sz : Nat) (h0 : Nat) (it : Nat) (ln : Int32) (len : Nat) (sg : Nat → Int64) (a : Int32) (b : Int32) (d : Int32)  : Met l yX4_lookAt wsX4_lookAt ({ frames := 1, cells := 0, slots := 0, locals := 22 }) (va_Pc [.ref h0, .int a, .int b, .int d] (fun U => U.heap.size = sz ∧ va_P Z.1 vwCl [(h0, .inr (4, [.int ln, .ref it])), (it, .inl (Z.2 2, len, .inr (.inl sg)))] U.heap ∧ va_K Z.1 vwCl (gT Z) U ∧ va_D (fun _ => True) [(h0, .inr (4, [.int ln, .ref it])), (it, .inl (Z.2 2, len, .inr (.inl sg)))])) (va_Qi (fun (r : Int32) (u : Unit) => r = (if ln = a then (if (if d < 0 then (0 : Int32) else (if b < 0 then (0 : Int32) else (if (nI len) < b then (0 : Int32) else (if ((nI len) - b) < d then (0 : Int32) else (1 : Int32))))) = 0 then (-13 : Int32) else (0 : Int32)) else (-12 : Int32))) (fun (u : Unit) (t9 : State) => va_P Z.1 vwCl [(h0, .inr (4, [.int ln, .ref it])), (it, .inl (Z.2 2, len, .inr (.inl sg)))] t9.heap ∧ va_D (va_A [(h0, .inr (4, [.int ln, .ref it])), (it, .inl (Z.2 2, len, .inr (.inl sg)))] sz) [(h0, .inr (4, [.int ln, .ref it])), (it, .inl (Z.2 2, len, .inr (.inl sg)))]) (va_A [(h0, .inr (4, [.int ln, .ref it])), (it, .inl (Z.2 2, len, .inr (.inl sg)))] sz)) 0 0 (va_A [(h0, .inr (4, [.int ln, .ref it])), (it, .inl (Z.2 2, len, .inr (.inl sg)))] sz) := by
  refine Met.ofW (cc := cX4_lookAt) (maxL := 4) (ret := (some .int)) (by decide) rfl ?_
  intro p e s m args below meth c s₁ B hml hv
  obtain ⟨rfl, hsz, hP, hK, hD0⟩ := hv
  have hx := B.exec
  have hb := B.bytes
  have hr := B.returns
  have hts := atoms_spec (ws := wsX4_lookAt) B.pre
  have hown : s.vm.findClass RX4 = some m.cls := findClass_of_methodNamed B.named
  have hlocks := B.notSynchronized
  subst hsz
  have hin4 : ∀ w ∈ wsX40, w ∈ wsX4_lookAt := fun w h9 => (List.mem_cons_of_mem _ (List.mem_append_right _ h9))
  have hD := hD0.self (sz := s.heap.size)
  generalize hAe : va_A [(h0, .inr (4, [.int ln, .ref it])), (it, .inl (Z.2 2, len, .inr (.inl sg)))] s.heap.size = A at hD ⊢
  have hA : ∀ q : Nat, s.heap.size ≤ q → A q := fun q h => by rw [← hAe]; exact Or.inr h
  have hS : va_S A s.heap s.heap [] := va_S.rf
  have hP : va_P Z.1 vwCl [(h0, .inr (4, [.int ln, .ref it])), (it, .inl (Z.2 2, len, .inr (.inl sg)))] s.heap := hP
  have hl := lv_entry ([.ref h0, .int a, .int b, .int d]) (n := 4) (Nat.le_of_ble_eq_true rfl)
  rw [lg_entry_eq]
  generalize (lg_sl ([.ref h0, .int a, .int b, .int d]) ++ List.replicate (4 - (lg_sl ([.ref h0, .int a, .int b, .int d])).length) Slot.unset).toArray = ls at hl ⊢
  have hl : lv_has ls 4 [(0, .ref h0), (1, .int a), (2, .int b), (3, .int d)] := hl
  refine lv_aload_n hx hb dX4_lookAt_0 rfl (lv_at hl 0 rfl) ?_
  refine va_get (D := Z.1) (ci := 4) (v := .int ln) (C := RX4) (T := TX4) (N := 2) hx hb hts hin4 hown hK hP 0 rfl rfl 0 (by decide) (hts (.fieldLink RX4 9 "HalfAsked$Sheet" "lane" "I") (List.mem_of_getElem? (i := 1) rfl)) (fun _ h9 => h9) rfl dX4_lookAt_1 ?_
  refine lv_iload_n hx hb dX4_lookAt_4 rfl (lv_at hl 1 rfl) ?_
  refine lv_icmp_eq (tgt := 11) hx hb dX4_lookAt_5 (by decide) (fun c_1 => ?_) (fun c_1 => ?_)
  · refine lv_aload_n hx hb dX4_lookAt_11 rfl (lv_at hl 0 rfl) ?_
    refine lv_iload_n hx hb dX4_lookAt_12 rfl (lv_at hl 2 rfl) ?_
    refine lv_iload_n hx hb dX4_lookAt_13 rfl (lv_at hl 3 rfl) ?_
    have hPc := hP.sub (ws' := [(h0, .inr (4, [.int ln, .ref it])), (it, .inl (Z.2 2, len, .inr (.inl sg)))]) [0, 1] rfl
    have hDc := hD.sub (ws' := [(h0, .inr (4, [.int ln, .ref it])), (it, .inl (Z.2 2, len, .inr (.inl sg)))]) [0, 1] (by decide +kernel) rfl
    have hFc := va_free (wc := [(h0, .inr (4, [.int ln, .ref it])), (it, .inl (Z.2 2, len, .inr (.inl sg)))]) hD hS hA [0, 1] rfl
    refine va_calli (va_runV (As := [.int b, .int d]) (rest := []) ⟨hx, hb, hml, hown, hts⟩ (c_X4_reaches l Z s.heap.size h0 it ln len sg b d) (cwV 2 hts gX4_lookAt_X4_reaches rfl rfl rfl (by decide +kernel) ⟨Nat.le_of_ble_eq_true rfl, Nat.le_of_ble_eq_true rfl⟩) ⟨fun a U g mk q => by obtain ⟨q0, q1, qP, qK, qD⟩ := q; exact ⟨q0, q1, qP, va_K.moved (u := U) (U := U.calling g mk a) (Vm.Alike.refl U.vm) qK, qD⟩, va_recv hK hPc (ci := 4) (q0 := 0) rfl rfl, fun U hU hW => ⟨rfl, by rw [hU], by rw [hU]; exact hPc, va_K.moved hW.alike hK, hDc.weaken (fun _ _ _ _ => trivial)⟩⟩ rfl rfl hl.1 rfl (lv_room (Nat.le_of_ble_eq_true rfl)) dX4_lookAt_14 ⟨Nat.le_of_ble_eq_true rfl, Nat.le_of_ble_eq_true rfl⟩) hS (fun q _ h => hFc q h) hFc (fun r_2 u t9 H1 locs ht hvm hw hB hz1 hk1 hS => ?_)
    have hw9 := hw.symm
    clear hw
    subst hw9
    obtain ⟨hP1, hD1⟩ := hB
    rw [ht] at hP1
    obtain ⟨hP, hD⟩ := va_join (wr := []) (w1 := [(h0, .inr (4, [.int ln, .ref it])), (it, .inl (Z.2 2, len, .inr (.inl sg)))]) hP hD [0, 1] [] rfl rfl (by decide +kernel) (by decide +kernel) hk1 hFc hP1 hD1
    clear hPc hDc hP1 hD1 hk1 hz1 hFc ht hvm
    generalize H1 = H at hP hS ⊢
    have hP : va_P Z.1 vwCl [(h0, .inr (4, [.int ln, .ref it])), (it, .inl (Z.2 2, len, .inr (.inl sg)))] H := hP
    have hD : va_D A [(h0, .inr (4, [.int ln, .ref it])), (it, .inl (Z.2 2, len, .inr (.inl sg)))] := hD
    refine lv_if_eq (tgt := 24) hx hb dX4_lookAt_17 (by decide) (fun c_3 => ?_) (fun c_3 => ?_)
    · refine lv_bipush (v := (-13)) hx hb dX4_lookAt_24 (by decide) ?_
      have hP9 := hP.sub (ws' := [(h0, .inr (4, [.int ln, .ref it])), (it, .inl (Z.2 2, len, .inr (.inl sg)))]) [0, 1] rfl
      have hD9 := hD.sub (ws' := [(h0, .inr (4, [.int ln, .ref it])), (it, .inl (Z.2 2, len, .inr (.inl sg)))]) [0, 1] (by decide +kernel) rfl
      exact W.iret (v := (-13)) hx hb hr (fun t9 ht hW => ⟨⟨(-13), (), rfl, (by rw [if_pos c_1, if_pos c_3]), by rw [ht]; exact hP9, hD9⟩, hS.F ht⟩) hS.2.2 dX4_lookAt_26
    · refine lv_iconst (v := 0) hx hb dX4_lookAt_20 (by decide) ?_
      refine lv_goto (tgt := 26) hx hb dX4_lookAt_21 (by decide) ?_
      have hP9 := hP.sub (ws' := [(h0, .inr (4, [.int ln, .ref it])), (it, .inl (Z.2 2, len, .inr (.inl sg)))]) [0, 1] rfl
      have hD9 := hD.sub (ws' := [(h0, .inr (4, [.int ln, .ref it])), (it, .inl (Z.2 2, len, .inr (.inl sg)))]) [0, 1] (by decide +kernel) rfl
      exact W.iret (v := 0) hx hb hr (fun t9 ht hW => ⟨⟨0, (), rfl, (by rw [if_pos c_1, if_neg c_3]), by rw [ht]; exact hP9, hD9⟩, hS.F ht⟩) hS.2.2 dX4_lookAt_26
  · refine lv_bipush (v := (-12)) hx hb dX4_lookAt_8 (by decide) ?_
    have hP9 := hP.sub (ws' := [(h0, .inr (4, [.int ln, .ref it])), (it, .inl (Z.2 2, len, .inr (.inl sg)))]) [0, 1] rfl
    have hD9 := hD.sub (ws' := [(h0, .inr (4, [.int ln, .ref it])), (it, .inl (Z.2 2, len, .inr (.inl sg)))]) [0, 1] (by decide +kernel) rfl
    exact W.iret (v := (-12)) hx hb hr (fun t9 ht hW => ⟨⟨(-12), (), rfl, (by rw [if_neg c_1]), by rw [ht]; exact hP9, hD9⟩, hS.F ht⟩) hS.2.2 dX4_lookAt_10
theorem z_look0_1 {x : Int32} (h0 : ¬ x = 0) (h1 : ¬ x = 1) : Op.lookupswitch.offset (#[(0, 28), (1, 41)] : Array (Int × Int)).toList 53 x.toInt = 53 := by
  have a0 : ¬ x.toInt = 0 := fun e => h0 (Int32.toInt_inj.mp (e.trans (by decide)))
  have a1 : ¬ x.toInt = 1 := fun e => h1 (Int32.toInt_inj.mp (e.trans (by decide)))
  simp [Op.lookupswitch.offset, a0, a1, Ne.symm a0, Ne.symm a1]
theorem z_reach {a b : Int32} {len : Nat} (hl : len ≤ 24) (h : ¬ (if b < 0 then (0 : Int32) else (if a < 0 then (0 : Int32) else (if (nI len) < a then (0 : Int32) else (if ((nI len) - a) < b then (0 : Int32) else (1 : Int32))))) = 0) : 0 ≤ b.toInt ∧ 0 ≤ a.toInt ∧ a.toInt + b.toInt ≤ len := by
  by_cases h1 : b < 0
  · exact absurd (if_pos h1) h
  · by_cases h2 : a < 0
    · exact absurd (by rw [if_neg h1, if_pos h2]) h
    · by_cases h3 : nI len < a
      · exact absurd (by rw [if_neg h1, if_neg h2, if_pos h3]) h
      · by_cases h4 : nI len - a < b
        · exact absurd (by rw [if_neg h1, if_neg h2, if_neg h3, if_pos h4]) h
        · have e0 : (0 : Int32).toInt = 0 := by decide
          rw [Int32.lt_iff_toInt_lt] at h1 h2 h3 h4
          rw [nI_toInt (by omega)] at h3
          have e1 : (nI len - a).toInt = (len : Int) - a.toInt := by rw [Int32.toInt_sub, nI_toInt (by omega)]; exact Int.bmod_eq_of_le (by omega) (by omega)
          rw [e1] at h4
          omega
theorem z_lookat {ln a b d : Int32} {len : Nat} (h : (if ln = a then (if (if d < 0 then (0 : Int32) else (if b < 0 then (0 : Int32) else (if (nI len) < b then (0 : Int32) else (if ((nI len) - b) < d then (0 : Int32) else (1 : Int32))))) = 0 then (-13 : Int32) else (0 : Int32)) else (-12 : Int32)) = 0) : ¬ (if d < 0 then (0 : Int32) else (if b < 0 then (0 : Int32) else (if (nI len) < b then (0 : Int32) else (if ((nI len) - b) < d then (0 : Int32) else (1 : Int32))))) = 0 := by
  intro k
  by_cases h1 : ln = a
  · rw [if_pos h1, if_pos k] at h; exact absurd h (by decide)
  · rw [if_neg h1] at h; exact absurd h (by decide)
def q_X4_put_sg1 (ln : Int32) (sg : Nat → Int64) (a : Int32) (w : Int64) : Nat → Int64 := (if ln = 0 then (vp_updL sg (a.toNatClampNeg) w.toInt32.toInt8.toInt32.toInt64) else (if ln = 1 then (vp_updL sg (a.toNatClampNeg) w.toInt32.toInt64) else (vp_updL sg (a.toNatClampNeg) w)))
set_option maxHeartbeats 4000000 in
set_option maxRecDepth 100000 in
theorem c_X4_put (l : Launch) (Z : gZ) (sz : Nat) (h0 : Nat) (it : Nat) (ln : Int32) (len : Nat) (sg : Nat → Int64) (a : Int32) (w : Int64) (ha : vp_in a len) : Met l yX4_put wsX4_put ({ frames := 0, cells := 0, slots := 0, locals := 0 }) (va_Pc [.ref h0, .int a, .long w] (fun U => U.heap.size = sz ∧ va_P Z.1 vwCl [(h0, .inr (4, [.int ln, .ref it])), (it, .inl (Z.2 2, len, .inr (.inl sg)))] U.heap ∧ va_K Z.1 vwCl (gT Z) U ∧ va_D (fun _ => True) [(h0, .inr (4, [.int ln, .ref it])), (it, .inl (Z.2 2, len, .inr (.inl sg)))])) (va_Qv (fun (u : (Nat → Int64)) => match u with | sg1 => q_X4_put_sg1 ln sg a w = sg1) (fun (u : (Nat → Int64)) (t9 : State) => match u with | sg1 => va_P Z.1 vwCl [(h0, .inr (4, [.int ln, .ref it])), (it, .inl (Z.2 2, len, .inr (.inl sg1)))] t9.heap ∧ va_D (va_A [(h0, .inr (4, [.int ln, .ref it])), (it, .inl (Z.2 2, len, .inr (.inl sg)))] sz) [(h0, .inr (4, [.int ln, .ref it])), (it, .inl (Z.2 2, len, .inr (.inl sg1)))]) (va_A [(h0, .inr (4, [.int ln, .ref it])), (it, .inl (Z.2 2, len, .inr (.inl sg)))] sz)) 0 0 (va_A [(h0, .inr (4, [.int ln, .ref it])), (it, .inl (Z.2 2, len, .inr (.inl sg)))] sz) := by
  refine Met.ofW (cc := cX4_put) (maxL := 4) (ret := none) (by decide) rfl ?_
  intro p e s m args below meth c s₁ B hml hv
  obtain ⟨rfl, hsz, hP, hK, hD0⟩ := hv
  have hx := B.exec
  have hb := B.bytes
  have hr := B.returns
  have hts := atoms_spec (ws := wsX4_put) B.pre
  have hown : s.vm.findClass RX4 = some m.cls := findClass_of_methodNamed B.named
  have hlocks := B.notSynchronized
  subst hsz
  have hin4 : ∀ w ∈ wsX40, w ∈ wsX4_put := fun w h9 => (List.mem_cons_of_mem _ (List.mem_append_right _ h9))
  have hD := hD0.self (sz := s.heap.size)
  generalize hAe : va_A [(h0, .inr (4, [.int ln, .ref it])), (it, .inl (Z.2 2, len, .inr (.inl sg)))] s.heap.size = A at hD ⊢
  have hA : ∀ q : Nat, s.heap.size ≤ q → A q := fun q h => by rw [← hAe]; exact Or.inr h
  have hS : va_S A s.heap s.heap [] := va_S.rf
  have hP : va_P Z.1 vwCl [(h0, .inr (4, [.int ln, .ref it])), (it, .inl (Z.2 2, len, .inr (.inl sg)))] s.heap := hP
  have hl := lv_entry ([.ref h0, .int a, .long w]) (n := 4) (Nat.le_of_ble_eq_true rfl)
  rw [lg_entry_eq]
  generalize (lg_sl ([.ref h0, .int a, .long w]) ++ List.replicate (4 - (lg_sl ([.ref h0, .int a, .long w])).length) Slot.unset).toArray = ls at hl ⊢
  have hl : lv_has ls 4 [(0, .ref h0), (1, .int a), (2, .long w)] := hl
  refine lv_aload_n hx hb dX4_put_0 rfl (lv_at hl 0 rfl) ?_
  refine va_get (D := Z.1) (ci := 4) (v := .int ln) (C := RX4) (T := TX4) (N := 2) hx hb hts hin4 hown hK hP 0 rfl rfl 0 (by decide) (hts (.fieldLink RX4 9 "HalfAsked$Sheet" "lane" "I") (List.mem_of_getElem? (i := 1) rfl)) (fun _ h9 => h9) rfl dX4_put_1 ?_
  rcases Decidable.em (ln = 0) with c_1_0 | c_1_0
  · refine lv_lookup (tgt := 32) (off := 28) hx hb dX4_put_4 (by decide) (by rw [c_1_0]; decide) (by decide) ?_
    refine lv_aload_n hx hb dX4_put_32 rfl (lv_at hl 0 rfl) ?_
    refine va_get (D := Z.1) (ci := 4) (v := .ref it) (C := RX4) (T := TX4) (N := 2) hx hb hts hin4 hown hK hP 0 rfl rfl 1 (by decide) (hts (.fieldLink RX4 24 "HalfAsked$Sheet" "items" "[J") (List.mem_of_getElem? (i := 2) rfl)) (fun _ h9 => h9) rfl dX4_put_33 ?_
    refine lv_iload_n hx hb dX4_put_36 rfl (lv_at hl 1 rfl) ?_
    refine lv_lload_n hx hb dX4_put_37 rfl (lv_at hl 2 rfl) ?_
    refine lv_l2i hx hb dX4_put_38 rfl ?_
    refine lv_i2b hx hb dX4_put_39 rfl ?_
    refine lv_i2l hx hb dX4_put_40 rfl ?_
    refine va_last hx hb hK hP hD hS 1 2 rfl rfl ha dX4_put_41 (fun H locs hP hD hS => ?_)
    have hP : va_P Z.1 vwCl [(h0, .inr (4, [.int ln, .ref it])), (it, .inl (Z.2 2, len, .inr (.inl (vp_updL sg (a.toNatClampNeg) w.toInt32.toInt8.toInt32.toInt64))))] H := hP
    have hD : va_D A [(h0, .inr (4, [.int ln, .ref it])), (it, .inl (Z.2 2, len, .inr (.inl (vp_updL sg (a.toNatClampNeg) w.toInt32.toInt8.toInt32.toInt64))))] := hD
    refine lv_goto (tgt := 64) hx hb dX4_put_42 (by decide) ?_
    have hP9 := hP.sub (ws' := [(h0, .inr (4, [.int ln, .ref it])), (it, .inl (Z.2 2, len, .inr (.inl (vp_updL sg (a.toNatClampNeg) w.toInt32.toInt8.toInt32.toInt64))))]) [0, 1] rfl
    have hD9 := hD.sub (ws' := [(h0, .inr (4, [.int ln, .ref it])), (it, .inl (Z.2 2, len, .inr (.inl (vp_updL sg (a.toNatClampNeg) w.toInt32.toInt8.toInt32.toInt64))))]) [0, 1] (by decide +kernel) rfl
    exact W.vret hx hb hr (fun t9 ht hW => ⟨⟨vp_updL sg (a.toNatClampNeg) w.toInt32.toInt8.toInt32.toInt64, rfl, (by unfold q_X4_put_sg1; rw [if_pos c_1_0]), by rw [ht]; exact hP9, hD9⟩, hS.F ht⟩) hS.2.2 dX4_put_64
  · skip
    rcases Decidable.em (ln = 1) with c_1_1 | c_1_1
    · refine lv_lookup (tgt := 45) (off := 41) hx hb dX4_put_4 (by decide) (by rw [c_1_1]; decide) (by decide) ?_
      refine lv_aload_n hx hb dX4_put_45 rfl (lv_at hl 0 rfl) ?_
      refine va_get (D := Z.1) (ci := 4) (v := .ref it) (C := RX4) (T := TX4) (N := 2) hx hb hts hin4 hown hK hP 0 rfl rfl 1 (by decide) (hts (.fieldLink RX4 24 "HalfAsked$Sheet" "items" "[J") (List.mem_of_getElem? (i := 2) rfl)) (fun _ h9 => h9) rfl dX4_put_46 ?_
      refine lv_iload_n hx hb dX4_put_49 rfl (lv_at hl 1 rfl) ?_
      refine lv_lload_n hx hb dX4_put_50 rfl (lv_at hl 2 rfl) ?_
      refine lv_l2i hx hb dX4_put_51 rfl ?_
      refine lv_i2l hx hb dX4_put_52 rfl ?_
      refine va_last hx hb hK hP hD hS 1 2 rfl rfl ha dX4_put_53 (fun H locs hP hD hS => ?_)
      have hP : va_P Z.1 vwCl [(h0, .inr (4, [.int ln, .ref it])), (it, .inl (Z.2 2, len, .inr (.inl (vp_updL sg (a.toNatClampNeg) w.toInt32.toInt64))))] H := hP
      have hD : va_D A [(h0, .inr (4, [.int ln, .ref it])), (it, .inl (Z.2 2, len, .inr (.inl (vp_updL sg (a.toNatClampNeg) w.toInt32.toInt64))))] := hD
      refine lv_goto (tgt := 64) hx hb dX4_put_54 (by decide) ?_
      have hP9 := hP.sub (ws' := [(h0, .inr (4, [.int ln, .ref it])), (it, .inl (Z.2 2, len, .inr (.inl (vp_updL sg (a.toNatClampNeg) w.toInt32.toInt64))))]) [0, 1] rfl
      have hD9 := hD.sub (ws' := [(h0, .inr (4, [.int ln, .ref it])), (it, .inl (Z.2 2, len, .inr (.inl (vp_updL sg (a.toNatClampNeg) w.toInt32.toInt64))))]) [0, 1] (by decide +kernel) rfl
      exact W.vret hx hb hr (fun t9 ht hW => ⟨⟨vp_updL sg (a.toNatClampNeg) w.toInt32.toInt64, rfl, (by unfold q_X4_put_sg1; rw [if_neg c_1_0, if_pos c_1_1]), by rw [ht]; exact hP9, hD9⟩, hS.F ht⟩) hS.2.2 dX4_put_64
    · skip
      refine lv_lookup (tgt := 57) (off := 53) hx hb dX4_put_4 (by decide) (z_look0_1 c_1_0 c_1_1) (by decide) ?_
      refine lv_aload_n hx hb dX4_put_57 rfl (lv_at hl 0 rfl) ?_
      refine va_get (D := Z.1) (ci := 4) (v := .ref it) (C := RX4) (T := TX4) (N := 2) hx hb hts hin4 hown hK hP 0 rfl rfl 1 (by decide) (hts (.fieldLink RX4 24 "HalfAsked$Sheet" "items" "[J") (List.mem_of_getElem? (i := 2) rfl)) (fun _ h9 => h9) rfl dX4_put_58 ?_
      refine lv_iload_n hx hb dX4_put_61 rfl (lv_at hl 1 rfl) ?_
      refine lv_lload_n hx hb dX4_put_62 rfl (lv_at hl 2 rfl) ?_
      refine va_last hx hb hK hP hD hS 1 2 rfl rfl ha dX4_put_63 (fun H locs hP hD hS => ?_)
      have hP : va_P Z.1 vwCl [(h0, .inr (4, [.int ln, .ref it])), (it, .inl (Z.2 2, len, .inr (.inl (vp_updL sg (a.toNatClampNeg) w))))] H := hP
      have hD : va_D A [(h0, .inr (4, [.int ln, .ref it])), (it, .inl (Z.2 2, len, .inr (.inl (vp_updL sg (a.toNatClampNeg) w))))] := hD
      have hP9 := hP.sub (ws' := [(h0, .inr (4, [.int ln, .ref it])), (it, .inl (Z.2 2, len, .inr (.inl (vp_updL sg (a.toNatClampNeg) w))))]) [0, 1] rfl
      have hD9 := hD.sub (ws' := [(h0, .inr (4, [.int ln, .ref it])), (it, .inl (Z.2 2, len, .inr (.inl (vp_updL sg (a.toNatClampNeg) w))))]) [0, 1] (by decide +kernel) rfl
      exact W.vret hx hb hr (fun t9 ht hW => ⟨⟨vp_updL sg (a.toNatClampNeg) w, rfl, (by unfold q_X4_put_sg1; rw [if_neg c_1_0, if_neg c_1_1]), by rw [ht]; exact hP9, hD9⟩, hS.F ht⟩) hS.2.2 dX4_put_64
/-- an item that may be PENCE of WHO ASKED -/
def zTo (v : Int64) : Prop := 0 ≤ v.toInt ∧ v.toInt ≤ 99999
theorem zTo_1 {v : Int64} (h : v < 0) : ¬ zTo v := fun q => by
  rw [Int64.lt_iff_toInt_lt, show (0 : Int64).toInt = 0 by decide] at h
  have := q.1
  omega
theorem zTo_2 {v : Int64} (h : ¬ v ≤ 99999) : ¬ zTo v := fun q => by
  rw [Int64.le_iff_toInt_le, show (99999 : Int64).toInt = 99999 by decide] at h
  exact h q.2
theorem zTo_3 {v : Int64} (h1 : ¬ v < 0) (h2 : v ≤ 99999) : zTo v := by
  rw [Int64.lt_iff_toInt_lt, show (0 : Int64).toInt = 0 by decide] at h1
  rw [Int64.le_iff_toInt_le, show (99999 : Int64).toInt = 99999 by decide] at h2
  exact ⟨by omega, h2⟩
set_option maxHeartbeats 4000000 in
set_option maxRecDepth 100000 in
theorem lp_X4_areTold {p : Program} {l : Launch} {e : Env} {s : State} {m : MethodId} {args : Array Value} {below : List Frame} {meth : Method} {c : Code} {Q : State → Prop} {A : Nat → Prop} (Z : gZ) (h0 : Nat) (it : Nat) (ln : Int32) (len : Nat) (sg : Nat → Int64) (x : Nat) (y : Nat) (hln : len ≤ 24) (hxy : x + y ≤ len) (hx : p.tables.exec = Jvm.exec) (hb : c.code = cX4_areTold) (hml : c.maxLocals = 4) (hts : ∀ w ∈ wsX4_areTold, w.before args s = true) (hown : s.vm.findClass RX4 = some m.cls) (hK : va_K Z.1 vwCl (gT Z) s) (hA : ∀ q : Nat, s.heap.size ≤ q → A q) (kx_33 : ∀ (j : Nat) (H : Heap) (locs : List Loc) (ls : Array Slot), (¬ (∀ z, x ≤ z → z < x + y → zTo (sg z))) → va_P Z.1 vwCl [(h0, .inr (4, [.int ln, .ref it])), (it, .inl (Z.2 2, len, .inr (.inl sg)))] H → va_D A [(h0, .inr (4, [.int ln, .ref it])), (it, .inl (Z.2 2, len, .inr (.inl sg)))] → va_S A s.heap H locs → lv_has ls 4 [(0, .ref h0), (1, .int (nI x)), (2, .int (nI y)), (3, .int (nI j))] → W p l e ({ frames := 0, cells := 0, slots := 0, locals := 0 } : Room) s m args below meth c H locs 0 0 Q (F0 m 33 ls [])) (kx_41 : ∀ (j : Nat) (H : Heap) (locs : List Loc) (ls : Array Slot), ((∀ z, x ≤ z → z < x + y → zTo (sg z))) → va_P Z.1 vwCl [(h0, .inr (4, [.int ln, .ref it])), (it, .inl (Z.2 2, len, .inr (.inl sg)))] H → va_D A [(h0, .inr (4, [.int ln, .ref it])), (it, .inl (Z.2 2, len, .inr (.inl sg)))] → va_S A s.heap H locs → lv_has ls 4 [(0, .ref h0), (1, .int (nI x)), (2, .int (nI y)), (3, .int (nI j))] → W p l e ({ frames := 0, cells := 0, slots := 0, locals := 0 } : Room) s m args below meth c H locs 0 0 Q (F0 m 41 ls [])) : ∀ (fu9 : Nat) (j : Nat), x + y - j < fu9 → (x ≤ j) → (j ≤ x + y) → (∀ z, x ≤ z → z < j → zTo (sg z)) → ∀ (H : Heap) (locs : List Loc) (ls : Array Slot), va_P Z.1 vwCl [(h0, .inr (4, [.int ln, .ref it])), (it, .inl (Z.2 2, len, .inr (.inl sg)))] H → va_D A [(h0, .inr (4, [.int ln, .ref it])), (it, .inl (Z.2 2, len, .inr (.inl sg)))] → va_S A s.heap H locs → lv_has ls 4 [(0, .ref h0), (1, .int (nI x)), (2, .int (nI y)), (3, .int (nI j))] → W p l e ({ frames := 0, cells := 0, slots := 0, locals := 0 } : Room) s m args below meth c H locs 0 0 Q (F0 m 2 ls []) := by
  have hin4 : ∀ w ∈ wsX40, w ∈ wsX4_areTold := fun w h9 => (List.mem_cons_of_mem _ (List.mem_append_right _ h9))
  intro fu9
  induction fu9 with
  | zero => intro j hf9; exact absurd hf9 (Nat.not_lt_zero _)
  | succ fu9 ih =>
    intro j hf9 hx1 hj hT H locs ls hP hD hS hl
    refine lv_iload_n hx hb dX4_areTold_2 rfl (lv_at hl 3 rfl) ?_
    refine lv_iload_n hx hb dX4_areTold_3 rfl (lv_at hl 1 rfl) ?_
    refine lv_iload_n hx hb dX4_areTold_4 rfl (lv_at hl 2 rfl) ?_
    refine lv_iadd hx hb dX4_areTold_5 ?_
    refine lv_topi (fun f_1 ef_1 => ?_)
    obtain rfl : nI (x + y) = f_1 := (ef_1.trans (nI_add _ _)).symm
    refine lv_icmp_ge (tgt := 41) hx hb dX4_areTold_6 (by decide) (fun c_2 => ?_) (fun c_2 => ?_)
    · exact kx_41 j H locs ls (fun z h1 h2 => hT z h1 (by have h8 := (nI_leI (by omega) (by omega)).mp c_2; omega)) hP hD hS (lv_sub hl [0, 1, 2, 3] rfl)
    · have hlt : j < x + y := z_clt (by omega) hj c_2
      refine lv_aload_n hx hb dX4_areTold_9 rfl (lv_at hl 0 rfl) ?_
      refine va_get (D := Z.1) (ci := 4) (v := .ref it) (C := RX4) (T := TX4) (N := 2) hx hb hts hin4 hown hK hP 0 rfl rfl 1 (by decide) (hts (.fieldLink RX4 24 "HalfAsked$Sheet" "items" "[J") (List.mem_of_getElem? (i := 1) rfl)) (fun _ h9 => h9) rfl dX4_areTold_10 ?_
      refine lv_iload_n hx hb dX4_areTold_13 rfl (lv_at hl 3 rfl) ?_
      refine va_lald hx hb hK hP 1 2 rfl rfl (vp_in_nI (by omega) (by omega)) dX4_areTold_14 ?_
      refine lv_lconst (v := 0) hx hb dX4_areTold_15 (by decide) ?_
      refine W.lcmp hx hb dX4_areTold_16 ?_
      refine lv_if_lt (tgt := 33) hx hb dX4_areTold_17 (by decide) (fun c_3 => ?_) (fun c_3 => ?_)
      · rw [lg_cmp_lt] at c_3
        exact kx_33 j H locs ls (fun q9 => (by have h8 := zTo_1 c_3; rw [nI_clamp (by omega)] at h8; exact h8 (q9 j hx1 hlt))) hP hD hS (lv_sub hl [0, 1, 2, 3] rfl)
      · rw [lg_cmp_lt] at c_3
        refine lv_aload_n hx hb dX4_areTold_20 rfl (lv_at hl 0 rfl) ?_
        refine va_get (D := Z.1) (ci := 4) (v := .ref it) (C := RX4) (T := TX4) (N := 2) hx hb hts hin4 hown hK hP 0 rfl rfl 1 (by decide) (hts (.fieldLink RX4 24 "HalfAsked$Sheet" "items" "[J") (List.mem_of_getElem? (i := 1) rfl)) (fun _ h9 => h9) rfl dX4_areTold_21 ?_
        refine lv_iload_n hx hb dX4_areTold_24 rfl (lv_at hl 3 rfl) ?_
        refine va_lald hx hb hK hP 1 2 rfl rfl (vp_in_nI (by omega) (by omega)) dX4_areTold_25 ?_
        refine lv_ldc2 (v := 99999) hx hb hown (hts (.constantLong RX4 32 (99999)) (List.mem_of_getElem? (i := 2) rfl)) dX4_areTold_26 ?_
        refine W.lcmp hx hb dX4_areTold_29 ?_
        refine lv_if_le (tgt := 35) hx hb dX4_areTold_30 (by decide) (fun c_4 => ?_) (fun c_4 => ?_)
        · rw [lg_cmp_le] at c_4
          refine lv_iinc (v := nI (j + 1)) (lv' := [(3, .int (nI (j + 1))), (0, .ref h0), (1, .int (nI x)), (2, .int (nI y))]) hx hb dX4_areTold_35 hl (k := 3) rfl (nI_1 _) (by decide) rfl (fun ls hl => ?_)
          refine lv_goto (tgt := 2) hx hb dX4_areTold_38 (by decide) ?_
          exact ih (j + 1) (by omega) (by omega) (hlt) (fun z h1 h2 => by rcases Nat.lt_or_ge z j with q9 | q9; exact hT z h1 q9; have h8 := zTo_3 c_3 c_4; rw [nI_clamp (by omega)] at h8; rw [show z = j by omega]; exact h8) H locs ls hP hD hS (lv_sub hl [1, 2, 3, 0] rfl)
        · rw [lg_cmp_le] at c_4
          exact kx_33 j H locs ls (fun q9 => (by have h8 := zTo_2 c_4; rw [nI_clamp (by omega)] at h8; exact h8 (q9 j hx1 hlt))) hP hD hS (lv_sub hl [0, 1, 2, 3] rfl)
set_option maxHeartbeats 4000000 in
set_option maxRecDepth 100000 in
theorem c_X4_areTold (l : Launch) (Z : gZ) (sz : Nat) (h0 : Nat) (it : Nat) (ln : Int32) (len : Nat) (sg : Nat → Int64) (x : Nat) (y : Nat) (hln : len ≤ 24) (hxy : x + y ≤ len) : Met l yX4_areTold wsX4_areTold ({ frames := 0, cells := 0, slots := 0, locals := 0 }) (va_Pc [.ref h0, .int (nI x), .int (nI y)] (fun U => U.heap.size = sz ∧ va_P Z.1 vwCl [(h0, .inr (4, [.int ln, .ref it])), (it, .inl (Z.2 2, len, .inr (.inl sg)))] U.heap ∧ va_K Z.1 vwCl (gT Z) U ∧ va_D (fun _ => True) [(h0, .inr (4, [.int ln, .ref it])), (it, .inl (Z.2 2, len, .inr (.inl sg)))])) (va_Qi (fun (r : Int32) (u : Unit) => (r = 1 ∧ (∀ z, x ≤ z → z < x + y → zTo (sg z))) ∨ (r = 0 ∧ ¬ (∀ z, x ≤ z → z < x + y → zTo (sg z)))) (fun (u : Unit) (t9 : State) => va_P Z.1 vwCl [(h0, .inr (4, [.int ln, .ref it])), (it, .inl (Z.2 2, len, .inr (.inl sg)))] t9.heap ∧ va_D (va_A [(h0, .inr (4, [.int ln, .ref it])), (it, .inl (Z.2 2, len, .inr (.inl sg)))] sz) [(h0, .inr (4, [.int ln, .ref it])), (it, .inl (Z.2 2, len, .inr (.inl sg)))]) (va_A [(h0, .inr (4, [.int ln, .ref it])), (it, .inl (Z.2 2, len, .inr (.inl sg)))] sz)) 0 0 (va_A [(h0, .inr (4, [.int ln, .ref it])), (it, .inl (Z.2 2, len, .inr (.inl sg)))] sz) := by
  refine Met.ofW (cc := cX4_areTold) (maxL := 4) (ret := (some .boolean)) (by decide) rfl ?_
  intro p e s m args below meth c s₁ B hml hv
  obtain ⟨rfl, hsz, hP, hK, hD0⟩ := hv
  have hx := B.exec
  have hb := B.bytes
  have hr := B.returns
  have hts := atoms_spec (ws := wsX4_areTold) B.pre
  have hown : s.vm.findClass RX4 = some m.cls := findClass_of_methodNamed B.named
  have hlocks := B.notSynchronized
  subst hsz
  have hD := hD0.self (sz := s.heap.size)
  generalize hAe : va_A [(h0, .inr (4, [.int ln, .ref it])), (it, .inl (Z.2 2, len, .inr (.inl sg)))] s.heap.size = A at hD ⊢
  have hA : ∀ q : Nat, s.heap.size ≤ q → A q := fun q h => by rw [← hAe]; exact Or.inr h
  have hS : va_S A s.heap s.heap [] := va_S.rf
  have hP : va_P Z.1 vwCl [(h0, .inr (4, [.int ln, .ref it])), (it, .inl (Z.2 2, len, .inr (.inl sg)))] s.heap := hP
  have hl := lv_entry ([.ref h0, .int (nI x), .int (nI y)]) (n := 4) (Nat.le_of_ble_eq_true rfl)
  rw [lg_entry_eq]
  generalize (lg_sl ([.ref h0, .int (nI x), .int (nI y)]) ++ List.replicate (4 - (lg_sl ([.ref h0, .int (nI x), .int (nI y)])).length) Slot.unset).toArray = ls at hl ⊢
  have hl : lv_has ls 4 [(0, .ref h0), (1, .int (nI x)), (2, .int (nI y))] := hl
  refine lv_iload_n hx hb dX4_areTold_0 rfl (lv_at hl 1 rfl) ?_
  refine lv_istore_n (lv' := [(3, .int (nI x)), (0, .ref h0), (1, .int (nI x)), (2, .int (nI y))]) hx hb dX4_areTold_1 rfl hl (by decide) rfl (fun ls hl => ?_)
  refine lp_X4_areTold Z h0 it ln len sg x y hln hxy hx hb hml hts hown hK hA (fun j H locs ls hno hP hD hS hl => ?_) (fun j H locs ls hal hP hD hS hl => ?_) (y + 1) x (by omega) (Nat.le_refl _) (by omega) (fun z h1 h2 => absurd h2 (by omega)) s.heap _ ls hP hD hS (lv_sub hl [1, 2, 3, 0] rfl)
  · refine lv_iconst (v := 0) hx hb dX4_areTold_33 (by decide) ?_
    have hP9 := hP.sub (ws' := [(h0, .inr (4, [.int ln, .ref it])), (it, .inl (Z.2 2, len, .inr (.inl sg)))]) [0, 1] rfl
    have hD9 := hD.sub (ws' := [(h0, .inr (4, [.int ln, .ref it])), (it, .inl (Z.2 2, len, .inr (.inl sg)))]) [0, 1] (by decide +kernel) rfl
    exact W.zret (v := 0) hx hb hr rfl (fun t9 ht hW => ⟨⟨0, (), rfl, Or.inr ⟨rfl, hno⟩, by rw [ht]; exact hP9, hD9⟩, hS.F ht⟩) hS.2.2 dX4_areTold_34
  · refine lv_iconst (v := 1) hx hb dX4_areTold_41 (by decide) ?_
    have hP9 := hP.sub (ws' := [(h0, .inr (4, [.int ln, .ref it])), (it, .inl (Z.2 2, len, .inr (.inl sg)))]) [0, 1] rfl
    have hD9 := hD.sub (ws' := [(h0, .inr (4, [.int ln, .ref it])), (it, .inl (Z.2 2, len, .inr (.inl sg)))]) [0, 1] (by decide +kernel) rfl
    exact W.zret (v := 1) hx hb hr rfl (fun t9 ht hW => ⟨⟨1, (), rfl, Or.inl ⟨rfl, hal⟩, by rw [ht]; exact hP9, hD9⟩, hS.F ht⟩) hS.2.2 dX4_areTold_42
theorem z_sh {a : Int32} (h : ¬ (if a < 0 then (0 : Int32) else (if 4 ≤ a then (0 : Int32) else (1 : Int32))) = 0) : vp_in a 4 := by
  by_cases h1 : a < 0
  · exact absurd (if_pos h1) h
  · by_cases h2 : 4 ≤ a
    · exact absurd (by rw [if_neg h1, if_pos h2]) h
    · rw [Int32.lt_iff_toInt_lt] at h1
      rw [Int32.le_iff_toInt_le] at h2
      have e0 : (0 : Int32).toInt = 0 := by decide
      have e4 : (4 : Int32).toInt = 4 := by decide
      exact vp_in_iff.mpr (by omega)
theorem z_shv {a : Int32} (h : vp_in a 4) : (if a < 0 then (0 : Int32) else (if 4 ≤ a then (0 : Int32) else (1 : Int32))) = 1 := by
  have h := vp_in_iff.mp h
  have e0 : (0 : Int32).toInt = 0 := by decide
  have e4 : (4 : Int32).toInt = 4 := by decide
  rw [if_neg (by rw [Int32.lt_iff_toInt_lt]; omega), if_neg (by rw [Int32.le_iff_toInt_le]; omega)]
set_option maxHeartbeats 4000000 in
set_option maxRecDepth 100000 in
theorem c_X8_drop_N (l : Launch) (Z : gZ) (sz : Nat) (h0 : Nat) (a1 : Nat) (a2 : Nat) (a3 : Nat) (a4 : Nat) (a5 : Nat) (a6 : Nat) (a7 : Nat) (a8 : Nat) (a9 : Nat) (a10 : Nat) (a11 : Nat) (a12 : Nat) (a13 : Nat) (kp : Int32) (tf : Int32) (tu : Int32) (od : Int32) (sf : Nat → Option Nat) (a : Int32) (hN : ¬ (if a < 0 then (0 : Int32) else (if 4 ≤ a then (0 : Int32) else (1 : Int32))) = 0 → sf a.toNatClampNeg = none) : Met l yX8_drop wsX8_drop ({ frames := 1, cells := 0, slots := 0, locals := 20 }) (va_Pc [.ref h0, .int a] (fun U => U.heap.size = sz ∧ va_P Z.1 vwCl [(h0, .inr (8, [.ref a1, .ref a2, .ref a3, .ref a4, .ref a5, .int kp, .ref a6, .ref a7, .ref a8, .ref a9, .ref a10, .ref a11, .ref a12, .ref a13, .int tf, .int tu, .int od])), (a6, .inl (Z.2 4, 4, .inr (.inr (.inr (.inr sf)))))] U.heap ∧ va_K Z.1 vwCl (gT Z) U ∧ va_D (fun _ => True) [(h0, .inr (8, [.ref a1, .ref a2, .ref a3, .ref a4, .ref a5, .int kp, .ref a6, .ref a7, .ref a8, .ref a9, .ref a10, .ref a11, .ref a12, .ref a13, .int tf, .int tu, .int od])), (a6, .inl (Z.2 4, 4, .inr (.inr (.inr (.inr sf)))))])) (va_Qi (fun (r : Int32) (u : Unit) => r = (if (if a < 0 then (0 : Int32) else (if 4 ≤ a then (0 : Int32) else (1 : Int32))) = 0 then (-1 : Int32) else (-11 : Int32))) (fun (u : Unit) (t9 : State) => va_P Z.1 vwCl [(h0, .inr (8, [.ref a1, .ref a2, .ref a3, .ref a4, .ref a5, .int kp, .ref a6, .ref a7, .ref a8, .ref a9, .ref a10, .ref a11, .ref a12, .ref a13, .int tf, .int tu, .int od])), (a6, .inl (Z.2 4, 4, .inr (.inr (.inr (.inr sf)))))] t9.heap ∧ va_D (va_A [(h0, .inr (8, [.ref a1, .ref a2, .ref a3, .ref a4, .ref a5, .int kp, .ref a6, .ref a7, .ref a8, .ref a9, .ref a10, .ref a11, .ref a12, .ref a13, .int tf, .int tu, .int od])), (a6, .inl (Z.2 4, 4, .inr (.inr (.inr (.inr sf)))))] sz) [(h0, .inr (8, [.ref a1, .ref a2, .ref a3, .ref a4, .ref a5, .int kp, .ref a6, .ref a7, .ref a8, .ref a9, .ref a10, .ref a11, .ref a12, .ref a13, .int tf, .int tu, .int od])), (a6, .inl (Z.2 4, 4, .inr (.inr (.inr (.inr sf)))))]) (va_A [(h0, .inr (8, [.ref a1, .ref a2, .ref a3, .ref a4, .ref a5, .int kp, .ref a6, .ref a7, .ref a8, .ref a9, .ref a10, .ref a11, .ref a12, .ref a13, .int tf, .int tu, .int od])), (a6, .inl (Z.2 4, 4, .inr (.inr (.inr (.inr sf)))))] sz)) 0 0 (va_A [(h0, .inr (8, [.ref a1, .ref a2, .ref a3, .ref a4, .ref a5, .int kp, .ref a6, .ref a7, .ref a8, .ref a9, .ref a10, .ref a11, .ref a12, .ref a13, .int tf, .int tu, .int od])), (a6, .inl (Z.2 4, 4, .inr (.inr (.inr (.inr sf)))))] sz) := by
  refine Met.ofW (cc := cX8_drop) (maxL := 3) (ret := (some .int)) (by decide) rfl ?_
  intro p e s m args below meth c s₁ B hml hv
  obtain ⟨rfl, hsz, hP, hK, hD0⟩ := hv
  have hx := B.exec
  have hb := B.bytes
  have hr := B.returns
  have hts := atoms_spec (ws := wsX8_drop) B.pre
  have hown : s.vm.findClass RX8 = some m.cls := findClass_of_methodNamed B.named
  have hlocks := B.notSynchronized
  subst hsz
  have hin8 : ∀ w ∈ wsX80, w ∈ wsX8_drop := fun w h9 => (List.mem_cons_of_mem _ (List.mem_append_left _ (List.mem_append_right _ h9)))
  have hD := hD0.self (sz := s.heap.size)
  generalize hAe : va_A [(h0, .inr (8, [.ref a1, .ref a2, .ref a3, .ref a4, .ref a5, .int kp, .ref a6, .ref a7, .ref a8, .ref a9, .ref a10, .ref a11, .ref a12, .ref a13, .int tf, .int tu, .int od])), (a6, .inl (Z.2 4, 4, .inr (.inr (.inr (.inr sf)))))] s.heap.size = A at hD ⊢
  have hA : ∀ q : Nat, s.heap.size ≤ q → A q := fun q h => by rw [← hAe]; exact Or.inr h
  have hS : va_S A s.heap s.heap [] := va_S.rf
  have hP : va_P Z.1 vwCl [(h0, .inr (8, [.ref a1, .ref a2, .ref a3, .ref a4, .ref a5, .int kp, .ref a6, .ref a7, .ref a8, .ref a9, .ref a10, .ref a11, .ref a12, .ref a13, .int tf, .int tu, .int od])), (a6, .inl (Z.2 4, 4, .inr (.inr (.inr (.inr sf)))))] s.heap := hP
  have hl := lv_entry ([.ref h0, .int a]) (n := 3) (Nat.le_of_ble_eq_true rfl)
  rw [lg_entry_eq]
  generalize (lg_sl ([.ref h0, .int a]) ++ List.replicate (3 - (lg_sl ([.ref h0, .int a])).length) Slot.unset).toArray = ls at hl ⊢
  have hl : lv_has ls 3 [(0, .ref h0), (1, .int a)] := hl
  refine lv_iload_n hx hb dX8_drop_0 rfl (lv_at hl 1 rfl) ?_
  have hPc := hP.sub (ws' := []) [] rfl
  have hDc := hD.sub (ws' := []) [] (by decide +kernel) rfl
  have hFc := va_free (wc := []) hD hS hA [] rfl
  refine va_calli (va_runS (As := [.int a]) (rest := []) ⟨hx, hb, hml, hown, hts⟩ (c_X8_isSheet l Z s.heap.size a) (va_cwS 1 hts gX8_drop_X8_isSheet rfl rfl rfl (by decide +kernel) ⟨Nat.le_of_ble_eq_true rfl, Nat.le_of_ble_eq_true rfl⟩) ⟨fun a U g mk q => by obtain ⟨q0, q1, qP, qK, qD⟩ := q; exact ⟨q0, q1, qP, va_K.moved (u := U) (U := U.calling g mk a) (Vm.Alike.refl U.vm) qK, qD⟩, fun U hU hW => ⟨rfl, by rw [hU], by rw [hU]; exact hPc, va_K.moved hW.alike hK, hDc.weaken (fun _ _ _ _ => trivial)⟩⟩ rfl rfl hl.1 rfl (lv_room (Nat.le_of_ble_eq_true rfl)) dX8_drop_1 ⟨Nat.le_of_ble_eq_true rfl, Nat.le_of_ble_eq_true rfl⟩) hS (fun q _ h => hFc q h) hFc (fun r_1 u t9 H1 locs ht hvm hw hB hz1 hk1 hS => ?_)
  have hw9 := hw.symm
  clear hw
  subst hw9
  have hP1 : va_P Z.1 vwCl [] H1 := fun k q h => by simp at h
  have hD1 : va_D (va_A [] s.heap.size) [] := ⟨fun i j p q h => by simp at h, fun k q h => by simp at h⟩
  obtain ⟨hP, hD⟩ := va_join (wr := [(h0, .inr (8, [.ref a1, .ref a2, .ref a3, .ref a4, .ref a5, .int kp, .ref a6, .ref a7, .ref a8, .ref a9, .ref a10, .ref a11, .ref a12, .ref a13, .int tf, .int tu, .int od])), (a6, .inl (Z.2 4, 4, .inr (.inr (.inr (.inr sf)))))]) (w1 := []) hP hD [] [0, 1] rfl rfl (by decide +kernel) (by decide +kernel) hk1 hFc hP1 hD1
  clear hPc hDc hP1 hD1 hk1 hz1 hFc ht hvm
  generalize H1 = H at hP hS ⊢
  have hP : va_P Z.1 vwCl [(h0, .inr (8, [.ref a1, .ref a2, .ref a3, .ref a4, .ref a5, .int kp, .ref a6, .ref a7, .ref a8, .ref a9, .ref a10, .ref a11, .ref a12, .ref a13, .int tf, .int tu, .int od])), (a6, .inl (Z.2 4, 4, .inr (.inr (.inr (.inr sf)))))] H := hP
  have hD : va_D A [(h0, .inr (8, [.ref a1, .ref a2, .ref a3, .ref a4, .ref a5, .int kp, .ref a6, .ref a7, .ref a8, .ref a9, .ref a10, .ref a11, .ref a12, .ref a13, .int tf, .int tu, .int od])), (a6, .inl (Z.2 4, 4, .inr (.inr (.inr (.inr sf)))))] := hD
  refine lv_if_ne (tgt := 9) hx hb dX8_drop_4 (by decide) (fun c_2 => ?_) (fun c_2 => ?_)
  · refine lv_aload_n hx hb dX8_drop_9 rfl (lv_at hl 0 rfl) ?_
    refine va_get (D := Z.1) (ci := 8) (v := .ref a6) (C := RX8) (T := TX8) (N := 17) hx hb hts hin8 hown hK hP 0 rfl rfl 6 (by decide) (hts (.fieldLink RX8 42 "HalfAsked" "sheets" "[LHalfAsked$Sheet;") (List.mem_of_getElem? (i := 1) rfl)) (fun _ h9 => h9) rfl dX8_drop_10 ?_
    refine lv_iload_n hx hb dX8_drop_13 rfl (lv_at hl 1 rfl) ?_
    refine va_aldq hx hb hK hP 1 4 rfl rfl (z_sh c_2) dX8_drop_14 ?_
    refine W.eq (g2 := F0 m 15 ls [.null]) (congrArg (fun z9 => F0 m 15 ls (va_rf z9 :: [])) (hN c_2)) ?_
    refine lv_astore_nN (lv' := [(2, .null), (0, .ref h0), (1, .int a)]) hx hb dX8_drop_15 rfl hl (by decide) rfl (fun ls hl => ?_)
    refine lv_aload_nN hx hb dX8_drop_16 rfl (lv_at hl 0 rfl) ?_
    refine lv_ifnonnullN hx hb dX8_drop_17 ?_
    refine lv_bipush (v := (-11)) hx hb dX8_drop_20 (by decide) ?_
    have hP9 := hP.sub (ws' := [(h0, .inr (8, [.ref a1, .ref a2, .ref a3, .ref a4, .ref a5, .int kp, .ref a6, .ref a7, .ref a8, .ref a9, .ref a10, .ref a11, .ref a12, .ref a13, .int tf, .int tu, .int od])), (a6, .inl (Z.2 4, 4, .inr (.inr (.inr (.inr sf)))))]) [0, 1] rfl
    have hD9 := hD.sub (ws' := [(h0, .inr (8, [.ref a1, .ref a2, .ref a3, .ref a4, .ref a5, .int kp, .ref a6, .ref a7, .ref a8, .ref a9, .ref a10, .ref a11, .ref a12, .ref a13, .int tf, .int tu, .int od])), (a6, .inl (Z.2 4, 4, .inr (.inr (.inr (.inr sf)))))]) [0, 1] (by decide +kernel) rfl
    exact W.iret (v := (-11)) hx hb hr (fun t9 ht hW => ⟨⟨(-11), (), rfl, (by rw [if_neg c_2]), by rw [ht]; exact hP9, hD9⟩, hS.F ht⟩) hS.2.2 dX8_drop_22
  · refine lv_iconst (v := (-1)) hx hb dX8_drop_7 (by decide) ?_
    have hP9 := hP.sub (ws' := [(h0, .inr (8, [.ref a1, .ref a2, .ref a3, .ref a4, .ref a5, .int kp, .ref a6, .ref a7, .ref a8, .ref a9, .ref a10, .ref a11, .ref a12, .ref a13, .int tf, .int tu, .int od])), (a6, .inl (Z.2 4, 4, .inr (.inr (.inr (.inr sf)))))]) [0, 1] rfl
    have hD9 := hD.sub (ws' := [(h0, .inr (8, [.ref a1, .ref a2, .ref a3, .ref a4, .ref a5, .int kp, .ref a6, .ref a7, .ref a8, .ref a9, .ref a10, .ref a11, .ref a12, .ref a13, .int tf, .int tu, .int od])), (a6, .inl (Z.2 4, 4, .inr (.inr (.inr (.inr sf)))))]) [0, 1] (by decide +kernel) rfl
    exact W.iret (v := (-1)) hx hb hr (fun t9 ht hW => ⟨⟨(-1), (), rfl, (by rw [if_pos c_2]), by rw [ht]; exact hP9, hD9⟩, hS.F ht⟩) hS.2.2 dX8_drop_8
set_option maxHeartbeats 4000000 in
set_option maxRecDepth 100000 in
theorem c_X8_item_N (l : Launch) (Z : gZ) (sz : Nat) (h0 : Nat) (a1 : Nat) (a2 : Nat) (a3 : Nat) (a4 : Nat) (a5 : Nat) (a6 : Nat) (a7 : Nat) (a8 : Nat) (a9 : Nat) (a10 : Nat) (a11 : Nat) (a12 : Nat) (a13 : Nat) (kp : Int32) (tf : Int32) (tu : Int32) (od : Int32) (sf : Nat → Option Nat) (a : Int32) (b : Int32) (d : Int32) (w : Int64) (hN : ¬ (if a < 0 then (0 : Int32) else (if 4 ≤ a then (0 : Int32) else (1 : Int32))) = 0 → sf a.toNatClampNeg = none) : Met l yX8_item wsX8_item ({ frames := 1, cells := 0, slots := 0, locals := 20 }) (va_Pc [.ref h0, .int a, .int b, .int d, .long w] (fun U => U.heap.size = sz ∧ va_P Z.1 vwCl [(h0, .inr (8, [.ref a1, .ref a2, .ref a3, .ref a4, .ref a5, .int kp, .ref a6, .ref a7, .ref a8, .ref a9, .ref a10, .ref a11, .ref a12, .ref a13, .int tf, .int tu, .int od])), (a6, .inl (Z.2 4, 4, .inr (.inr (.inr (.inr sf)))))] U.heap ∧ va_K Z.1 vwCl (gT Z) U ∧ va_D (fun _ => True) [(h0, .inr (8, [.ref a1, .ref a2, .ref a3, .ref a4, .ref a5, .int kp, .ref a6, .ref a7, .ref a8, .ref a9, .ref a10, .ref a11, .ref a12, .ref a13, .int tf, .int tu, .int od])), (a6, .inl (Z.2 4, 4, .inr (.inr (.inr (.inr sf)))))])) (va_Qi (fun (r : Int32) (u : Unit) => r = (if (if a < 0 then (0 : Int32) else (if 4 ≤ a then (0 : Int32) else (1 : Int32))) = 0 then (-1 : Int32) else (if (if b < 0 then (0 : Int32) else (if 3 ≤ b then (0 : Int32) else (1 : Int32))) = 0 then (-1 : Int32) else (-11 : Int32)))) (fun (u : Unit) (t9 : State) => va_P Z.1 vwCl [(h0, .inr (8, [.ref a1, .ref a2, .ref a3, .ref a4, .ref a5, .int kp, .ref a6, .ref a7, .ref a8, .ref a9, .ref a10, .ref a11, .ref a12, .ref a13, .int tf, .int tu, .int od])), (a6, .inl (Z.2 4, 4, .inr (.inr (.inr (.inr sf)))))] t9.heap ∧ va_D (va_A [(h0, .inr (8, [.ref a1, .ref a2, .ref a3, .ref a4, .ref a5, .int kp, .ref a6, .ref a7, .ref a8, .ref a9, .ref a10, .ref a11, .ref a12, .ref a13, .int tf, .int tu, .int od])), (a6, .inl (Z.2 4, 4, .inr (.inr (.inr (.inr sf)))))] sz) [(h0, .inr (8, [.ref a1, .ref a2, .ref a3, .ref a4, .ref a5, .int kp, .ref a6, .ref a7, .ref a8, .ref a9, .ref a10, .ref a11, .ref a12, .ref a13, .int tf, .int tu, .int od])), (a6, .inl (Z.2 4, 4, .inr (.inr (.inr (.inr sf)))))]) (va_A [(h0, .inr (8, [.ref a1, .ref a2, .ref a3, .ref a4, .ref a5, .int kp, .ref a6, .ref a7, .ref a8, .ref a9, .ref a10, .ref a11, .ref a12, .ref a13, .int tf, .int tu, .int od])), (a6, .inl (Z.2 4, 4, .inr (.inr (.inr (.inr sf)))))] sz)) 0 0 (va_A [(h0, .inr (8, [.ref a1, .ref a2, .ref a3, .ref a4, .ref a5, .int kp, .ref a6, .ref a7, .ref a8, .ref a9, .ref a10, .ref a11, .ref a12, .ref a13, .int tf, .int tu, .int od])), (a6, .inl (Z.2 4, 4, .inr (.inr (.inr (.inr sf)))))] sz) := by
  refine Met.ofW (cc := cX8_item) (maxL := 8) (ret := (some .int)) (by decide) rfl ?_
  intro p e s m args below meth c s₁ B hml hv
  obtain ⟨rfl, hsz, hP, hK, hD0⟩ := hv
  have hx := B.exec
  have hb := B.bytes
  have hr := B.returns
  have hts := atoms_spec (ws := wsX8_item) B.pre
  have hown : s.vm.findClass RX8 = some m.cls := findClass_of_methodNamed B.named
  have hlocks := B.notSynchronized
  subst hsz
  have hin8 : ∀ w ∈ wsX80, w ∈ wsX8_item := fun w h9 => (List.mem_cons_of_mem _ (List.mem_append_left _ (List.mem_append_right _ h9)))
  have hD := hD0.self (sz := s.heap.size)
  generalize hAe : va_A [(h0, .inr (8, [.ref a1, .ref a2, .ref a3, .ref a4, .ref a5, .int kp, .ref a6, .ref a7, .ref a8, .ref a9, .ref a10, .ref a11, .ref a12, .ref a13, .int tf, .int tu, .int od])), (a6, .inl (Z.2 4, 4, .inr (.inr (.inr (.inr sf)))))] s.heap.size = A at hD ⊢
  have hA : ∀ q : Nat, s.heap.size ≤ q → A q := fun q h => by rw [← hAe]; exact Or.inr h
  have hS : va_S A s.heap s.heap [] := va_S.rf
  have hP : va_P Z.1 vwCl [(h0, .inr (8, [.ref a1, .ref a2, .ref a3, .ref a4, .ref a5, .int kp, .ref a6, .ref a7, .ref a8, .ref a9, .ref a10, .ref a11, .ref a12, .ref a13, .int tf, .int tu, .int od])), (a6, .inl (Z.2 4, 4, .inr (.inr (.inr (.inr sf)))))] s.heap := hP
  have hl := lv_entry ([.ref h0, .int a, .int b, .int d, .long w]) (n := 8) (Nat.le_of_ble_eq_true rfl)
  rw [lg_entry_eq]
  generalize (lg_sl ([.ref h0, .int a, .int b, .int d, .long w]) ++ List.replicate (8 - (lg_sl ([.ref h0, .int a, .int b, .int d, .long w])).length) Slot.unset).toArray = ls at hl ⊢
  have hl : lv_has ls 8 [(0, .ref h0), (1, .int a), (2, .int b), (3, .int d), (4, .long w)] := hl
  refine lv_iload_n hx hb dX8_item_0 rfl (lv_at hl 1 rfl) ?_
  have hPc := hP.sub (ws' := []) [] rfl
  have hDc := hD.sub (ws' := []) [] (by decide +kernel) rfl
  have hFc := va_free (wc := []) hD hS hA [] rfl
  refine va_calli (va_runS (As := [.int a]) (rest := []) ⟨hx, hb, hml, hown, hts⟩ (c_X8_isSheet l Z s.heap.size a) (va_cwS 1 hts gX8_item_X8_isSheet rfl rfl rfl (by decide +kernel) ⟨Nat.le_of_ble_eq_true rfl, Nat.le_of_ble_eq_true rfl⟩) ⟨fun a U g mk q => by obtain ⟨q0, q1, qP, qK, qD⟩ := q; exact ⟨q0, q1, qP, va_K.moved (u := U) (U := U.calling g mk a) (Vm.Alike.refl U.vm) qK, qD⟩, fun U hU hW => ⟨rfl, by rw [hU], by rw [hU]; exact hPc, va_K.moved hW.alike hK, hDc.weaken (fun _ _ _ _ => trivial)⟩⟩ rfl rfl hl.1 rfl (lv_room (Nat.le_of_ble_eq_true rfl)) dX8_item_1 ⟨Nat.le_of_ble_eq_true rfl, Nat.le_of_ble_eq_true rfl⟩) hS (fun q _ h => hFc q h) hFc (fun r_1 u t9 H1 locs ht hvm hw hB hz1 hk1 hS => ?_)
  have hw9 := hw.symm
  clear hw
  subst hw9
  have hP1 : va_P Z.1 vwCl [] H1 := fun k q h => by simp at h
  have hD1 : va_D (va_A [] s.heap.size) [] := ⟨fun i j p q h => by simp at h, fun k q h => by simp at h⟩
  obtain ⟨hP, hD⟩ := va_join (wr := [(h0, .inr (8, [.ref a1, .ref a2, .ref a3, .ref a4, .ref a5, .int kp, .ref a6, .ref a7, .ref a8, .ref a9, .ref a10, .ref a11, .ref a12, .ref a13, .int tf, .int tu, .int od])), (a6, .inl (Z.2 4, 4, .inr (.inr (.inr (.inr sf)))))]) (w1 := []) hP hD [] [0, 1] rfl rfl (by decide +kernel) (by decide +kernel) hk1 hFc hP1 hD1
  clear hPc hDc hP1 hD1 hk1 hz1 hFc ht hvm
  generalize H1 = H at hP hS ⊢
  have hP : va_P Z.1 vwCl [(h0, .inr (8, [.ref a1, .ref a2, .ref a3, .ref a4, .ref a5, .int kp, .ref a6, .ref a7, .ref a8, .ref a9, .ref a10, .ref a11, .ref a12, .ref a13, .int tf, .int tu, .int od])), (a6, .inl (Z.2 4, 4, .inr (.inr (.inr (.inr sf)))))] H := hP
  have hD : va_D A [(h0, .inr (8, [.ref a1, .ref a2, .ref a3, .ref a4, .ref a5, .int kp, .ref a6, .ref a7, .ref a8, .ref a9, .ref a10, .ref a11, .ref a12, .ref a13, .int tf, .int tu, .int od])), (a6, .inl (Z.2 4, 4, .inr (.inr (.inr (.inr sf)))))] := hD
  refine lv_if_eq (tgt := 14) hx hb dX8_item_4 (by decide) (fun c_2 => ?_) (fun c_2 => ?_)
  · refine lv_iconst (v := (-1)) hx hb dX8_item_14 (by decide) ?_
    have hP9 := hP.sub (ws' := [(h0, .inr (8, [.ref a1, .ref a2, .ref a3, .ref a4, .ref a5, .int kp, .ref a6, .ref a7, .ref a8, .ref a9, .ref a10, .ref a11, .ref a12, .ref a13, .int tf, .int tu, .int od])), (a6, .inl (Z.2 4, 4, .inr (.inr (.inr (.inr sf)))))]) [0, 1] rfl
    have hD9 := hD.sub (ws' := [(h0, .inr (8, [.ref a1, .ref a2, .ref a3, .ref a4, .ref a5, .int kp, .ref a6, .ref a7, .ref a8, .ref a9, .ref a10, .ref a11, .ref a12, .ref a13, .int tf, .int tu, .int od])), (a6, .inl (Z.2 4, 4, .inr (.inr (.inr (.inr sf)))))]) [0, 1] (by decide +kernel) rfl
    exact W.iret (v := (-1)) hx hb hr (fun t9 ht hW => ⟨⟨(-1), (), rfl, (by rw [if_pos c_2]), by rw [ht]; exact hP9, hD9⟩, hS.F ht⟩) hS.2.2 dX8_item_15
  · refine lv_iload_n hx hb dX8_item_7 rfl (lv_at hl 2 rfl) ?_
    have hPc := hP.sub (ws' := []) [] rfl
    have hDc := hD.sub (ws' := []) [] (by decide +kernel) rfl
    have hFc := va_free (wc := []) hD hS hA [] rfl
    refine va_calli (va_runS (As := [.int b]) (rest := []) ⟨hx, hb, hml, hown, hts⟩ (c_X8_isLane l Z H.size b) (va_cwS 1 hts gX8_item_X8_isLane rfl rfl rfl (by decide +kernel) ⟨Nat.le_of_ble_eq_true rfl, Nat.le_of_ble_eq_true rfl⟩) ⟨fun a U g mk q => by obtain ⟨q0, q1, qP, qK, qD⟩ := q; exact ⟨q0, q1, qP, va_K.moved (u := U) (U := U.calling g mk a) (Vm.Alike.refl U.vm) qK, qD⟩, fun U hU hW => ⟨rfl, by rw [hU], by rw [hU]; exact hPc, va_K.moved hW.alike hK, hDc.weaken (fun _ _ _ _ => trivial)⟩⟩ rfl rfl hl.1 rfl (lv_room (Nat.le_of_ble_eq_true rfl)) dX8_item_8 ⟨Nat.le_of_ble_eq_true rfl, Nat.le_of_ble_eq_true rfl⟩) hS (fun q _ h => hFc q h) hFc (fun r_3 u t9 H1 locs ht hvm hw hB hz1 hk1 hS => ?_)
    have hw9 := hw.symm
    clear hw
    subst hw9
    have hP1 : va_P Z.1 vwCl [] H1 := fun k q h => by simp at h
    have hD1 : va_D (va_A [] H.size) [] := ⟨fun i j p q h => by simp at h, fun k q h => by simp at h⟩
    obtain ⟨hP, hD⟩ := va_join (wr := [(h0, .inr (8, [.ref a1, .ref a2, .ref a3, .ref a4, .ref a5, .int kp, .ref a6, .ref a7, .ref a8, .ref a9, .ref a10, .ref a11, .ref a12, .ref a13, .int tf, .int tu, .int od])), (a6, .inl (Z.2 4, 4, .inr (.inr (.inr (.inr sf)))))]) (w1 := []) hP hD [] [0, 1] rfl rfl (by decide +kernel) (by decide +kernel) hk1 hFc hP1 hD1
    clear hPc hDc hP1 hD1 hk1 hz1 hFc ht hvm
    generalize H1 = H at hP hS ⊢
    have hP : va_P Z.1 vwCl [(h0, .inr (8, [.ref a1, .ref a2, .ref a3, .ref a4, .ref a5, .int kp, .ref a6, .ref a7, .ref a8, .ref a9, .ref a10, .ref a11, .ref a12, .ref a13, .int tf, .int tu, .int od])), (a6, .inl (Z.2 4, 4, .inr (.inr (.inr (.inr sf)))))] H := hP
    have hD : va_D A [(h0, .inr (8, [.ref a1, .ref a2, .ref a3, .ref a4, .ref a5, .int kp, .ref a6, .ref a7, .ref a8, .ref a9, .ref a10, .ref a11, .ref a12, .ref a13, .int tf, .int tu, .int od])), (a6, .inl (Z.2 4, 4, .inr (.inr (.inr (.inr sf)))))] := hD
    refine lv_if_ne (tgt := 16) hx hb dX8_item_11 (by decide) (fun c_4 => ?_) (fun c_4 => ?_)
    · refine lv_aload_n hx hb dX8_item_16 rfl (lv_at hl 0 rfl) ?_
      refine va_get (D := Z.1) (ci := 8) (v := .ref a6) (C := RX8) (T := TX8) (N := 17) hx hb hts hin8 hown hK hP 0 rfl rfl 6 (by decide) (hts (.fieldLink RX8 42 "HalfAsked" "sheets" "[LHalfAsked$Sheet;") (List.mem_of_getElem? (i := 1) rfl)) (fun _ h9 => h9) rfl dX8_item_17 ?_
      refine lv_iload_n hx hb dX8_item_20 rfl (lv_at hl 1 rfl) ?_
      refine va_aldq hx hb hK hP 1 4 rfl rfl (z_sh c_2) dX8_item_21 ?_
      refine W.eq (g2 := F0 m 22 ls [.null]) (congrArg (fun z9 => F0 m 22 ls (va_rf z9 :: [])) (hN c_2)) ?_
      refine lv_astoreN (lv' := [(6, .null), (0, .ref h0), (1, .int a), (2, .int b), (3, .int d), (4, .long w)]) hx hb dX8_item_22 hl (by decide) rfl (fun ls hl => ?_)
      refine lv_aloadN hx hb dX8_item_24 (lv_at hl 0 rfl) ?_
      refine lv_ifnonnullN hx hb dX8_item_26 ?_
      refine lv_bipush (v := (-11)) hx hb dX8_item_29 (by decide) ?_
      have hP9 := hP.sub (ws' := [(h0, .inr (8, [.ref a1, .ref a2, .ref a3, .ref a4, .ref a5, .int kp, .ref a6, .ref a7, .ref a8, .ref a9, .ref a10, .ref a11, .ref a12, .ref a13, .int tf, .int tu, .int od])), (a6, .inl (Z.2 4, 4, .inr (.inr (.inr (.inr sf)))))]) [0, 1] rfl
      have hD9 := hD.sub (ws' := [(h0, .inr (8, [.ref a1, .ref a2, .ref a3, .ref a4, .ref a5, .int kp, .ref a6, .ref a7, .ref a8, .ref a9, .ref a10, .ref a11, .ref a12, .ref a13, .int tf, .int tu, .int od])), (a6, .inl (Z.2 4, 4, .inr (.inr (.inr (.inr sf)))))]) [0, 1] (by decide +kernel) rfl
      exact W.iret (v := (-11)) hx hb hr (fun t9 ht hW => ⟨⟨(-11), (), rfl, (by rw [if_neg c_2, if_neg c_4]), by rw [ht]; exact hP9, hD9⟩, hS.F ht⟩) hS.2.2 dX8_item_31
    · refine lv_iconst (v := (-1)) hx hb dX8_item_14 (by decide) ?_
      have hP9 := hP.sub (ws' := [(h0, .inr (8, [.ref a1, .ref a2, .ref a3, .ref a4, .ref a5, .int kp, .ref a6, .ref a7, .ref a8, .ref a9, .ref a10, .ref a11, .ref a12, .ref a13, .int tf, .int tu, .int od])), (a6, .inl (Z.2 4, 4, .inr (.inr (.inr (.inr sf)))))]) [0, 1] rfl
      have hD9 := hD.sub (ws' := [(h0, .inr (8, [.ref a1, .ref a2, .ref a3, .ref a4, .ref a5, .int kp, .ref a6, .ref a7, .ref a8, .ref a9, .ref a10, .ref a11, .ref a12, .ref a13, .int tf, .int tu, .int od])), (a6, .inl (Z.2 4, 4, .inr (.inr (.inr (.inr sf)))))]) [0, 1] (by decide +kernel) rfl
      exact W.iret (v := (-1)) hx hb hr (fun t9 ht hW => ⟨⟨(-1), (), rfl, (by rw [if_neg c_2, if_pos c_4]), by rw [ht]; exact hP9, hD9⟩, hS.F ht⟩) hS.2.2 dX8_item_15
set_option maxHeartbeats 4000000 in
set_option maxRecDepth 100000 in
theorem c_X8_film_N (l : Launch) (Z : gZ) (sz : Nat) (h0 : Nat) (a1 : Nat) (a2 : Nat) (a3 : Nat) (a4 : Nat) (a5 : Nat) (a6 : Nat) (a7 : Nat) (a8 : Nat) (a9 : Nat) (a10 : Nat) (a11 : Nat) (a12 : Nat) (a13 : Nat) (kp : Int32) (tf : Int32) (tu : Int32) (od : Int32) (sf : Nat → Option Nat) (a : Int32) (b : Int32) (d : Int32) (hN : ¬ (if a < 0 then (0 : Int32) else (if 4 ≤ a then (0 : Int32) else (1 : Int32))) = 0 → sf a.toNatClampNeg = none) : Met l yX8_film wsX8_film ({ frames := 1, cells := 0, slots := 0, locals := 20 }) (va_Pc [.ref h0, .int a, .int b, .int d] (fun U => U.heap.size = sz ∧ va_P Z.1 vwCl [(h0, .inr (8, [.ref a1, .ref a2, .ref a3, .ref a4, .ref a5, .int kp, .ref a6, .ref a7, .ref a8, .ref a9, .ref a10, .ref a11, .ref a12, .ref a13, .int tf, .int tu, .int od])), (a6, .inl (Z.2 4, 4, .inr (.inr (.inr (.inr sf)))))] U.heap ∧ va_K Z.1 vwCl (gT Z) U ∧ va_D (fun _ => True) [(h0, .inr (8, [.ref a1, .ref a2, .ref a3, .ref a4, .ref a5, .int kp, .ref a6, .ref a7, .ref a8, .ref a9, .ref a10, .ref a11, .ref a12, .ref a13, .int tf, .int tu, .int od])), (a6, .inl (Z.2 4, 4, .inr (.inr (.inr (.inr sf)))))])) (va_Qi (fun (r : Int32) (u : Unit) => r = (if (if a < 0 then (0 : Int32) else (if 4 ≤ a then (0 : Int32) else (1 : Int32))) = 0 then (-1 : Int32) else (if (if b < 0 then (0 : Int32) else (if 3 ≤ b then (0 : Int32) else (1 : Int32))) = 0 then (-1 : Int32) else (-11 : Int32)))) (fun (u : Unit) (t9 : State) => va_P Z.1 vwCl [(h0, .inr (8, [.ref a1, .ref a2, .ref a3, .ref a4, .ref a5, .int kp, .ref a6, .ref a7, .ref a8, .ref a9, .ref a10, .ref a11, .ref a12, .ref a13, .int tf, .int tu, .int od])), (a6, .inl (Z.2 4, 4, .inr (.inr (.inr (.inr sf)))))] t9.heap ∧ va_D (va_A [(h0, .inr (8, [.ref a1, .ref a2, .ref a3, .ref a4, .ref a5, .int kp, .ref a6, .ref a7, .ref a8, .ref a9, .ref a10, .ref a11, .ref a12, .ref a13, .int tf, .int tu, .int od])), (a6, .inl (Z.2 4, 4, .inr (.inr (.inr (.inr sf)))))] sz) [(h0, .inr (8, [.ref a1, .ref a2, .ref a3, .ref a4, .ref a5, .int kp, .ref a6, .ref a7, .ref a8, .ref a9, .ref a10, .ref a11, .ref a12, .ref a13, .int tf, .int tu, .int od])), (a6, .inl (Z.2 4, 4, .inr (.inr (.inr (.inr sf)))))]) (va_A [(h0, .inr (8, [.ref a1, .ref a2, .ref a3, .ref a4, .ref a5, .int kp, .ref a6, .ref a7, .ref a8, .ref a9, .ref a10, .ref a11, .ref a12, .ref a13, .int tf, .int tu, .int od])), (a6, .inl (Z.2 4, 4, .inr (.inr (.inr (.inr sf)))))] sz)) 0 0 (va_A [(h0, .inr (8, [.ref a1, .ref a2, .ref a3, .ref a4, .ref a5, .int kp, .ref a6, .ref a7, .ref a8, .ref a9, .ref a10, .ref a11, .ref a12, .ref a13, .int tf, .int tu, .int od])), (a6, .inl (Z.2 4, 4, .inr (.inr (.inr (.inr sf)))))] sz) := by
  refine Met.ofW (cc := cX8_film) (maxL := 7) (ret := (some .int)) (by decide) rfl ?_
  intro p e s m args below meth c s₁ B hml hv
  obtain ⟨rfl, hsz, hP, hK, hD0⟩ := hv
  have hx := B.exec
  have hb := B.bytes
  have hr := B.returns
  have hts := atoms_spec (ws := wsX8_film) B.pre
  have hown : s.vm.findClass RX8 = some m.cls := findClass_of_methodNamed B.named
  have hlocks := B.notSynchronized
  subst hsz
  have hin8 : ∀ w ∈ wsX80, w ∈ wsX8_film := fun w h9 => (List.mem_cons_of_mem _ (List.mem_append_left _ (List.mem_append_left _ (List.mem_append_right _ h9))))
  have hD := hD0.self (sz := s.heap.size)
  generalize hAe : va_A [(h0, .inr (8, [.ref a1, .ref a2, .ref a3, .ref a4, .ref a5, .int kp, .ref a6, .ref a7, .ref a8, .ref a9, .ref a10, .ref a11, .ref a12, .ref a13, .int tf, .int tu, .int od])), (a6, .inl (Z.2 4, 4, .inr (.inr (.inr (.inr sf)))))] s.heap.size = A at hD ⊢
  have hA : ∀ q : Nat, s.heap.size ≤ q → A q := fun q h => by rw [← hAe]; exact Or.inr h
  have hS : va_S A s.heap s.heap [] := va_S.rf
  have hP : va_P Z.1 vwCl [(h0, .inr (8, [.ref a1, .ref a2, .ref a3, .ref a4, .ref a5, .int kp, .ref a6, .ref a7, .ref a8, .ref a9, .ref a10, .ref a11, .ref a12, .ref a13, .int tf, .int tu, .int od])), (a6, .inl (Z.2 4, 4, .inr (.inr (.inr (.inr sf)))))] s.heap := hP
  have hl := lv_entry ([.ref h0, .int a, .int b, .int d]) (n := 7) (Nat.le_of_ble_eq_true rfl)
  rw [lg_entry_eq]
  generalize (lg_sl ([.ref h0, .int a, .int b, .int d]) ++ List.replicate (7 - (lg_sl ([.ref h0, .int a, .int b, .int d])).length) Slot.unset).toArray = ls at hl ⊢
  have hl : lv_has ls 7 [(0, .ref h0), (1, .int a), (2, .int b), (3, .int d)] := hl
  refine lv_iload_n hx hb dX8_film_0 rfl (lv_at hl 1 rfl) ?_
  have hPc := hP.sub (ws' := []) [] rfl
  have hDc := hD.sub (ws' := []) [] (by decide +kernel) rfl
  have hFc := va_free (wc := []) hD hS hA [] rfl
  refine va_calli (va_runS (As := [.int a]) (rest := []) ⟨hx, hb, hml, hown, hts⟩ (c_X8_isSheet l Z s.heap.size a) (va_cwS 1 hts gX8_film_X8_isSheet rfl rfl rfl (by decide +kernel) ⟨Nat.le_of_ble_eq_true rfl, Nat.le_of_ble_eq_true rfl⟩) ⟨fun a U g mk q => by obtain ⟨q0, q1, qP, qK, qD⟩ := q; exact ⟨q0, q1, qP, va_K.moved (u := U) (U := U.calling g mk a) (Vm.Alike.refl U.vm) qK, qD⟩, fun U hU hW => ⟨rfl, by rw [hU], by rw [hU]; exact hPc, va_K.moved hW.alike hK, hDc.weaken (fun _ _ _ _ => trivial)⟩⟩ rfl rfl hl.1 rfl (lv_room (Nat.le_of_ble_eq_true rfl)) dX8_film_1 ⟨Nat.le_of_ble_eq_true rfl, Nat.le_of_ble_eq_true rfl⟩) hS (fun q _ h => hFc q h) hFc (fun r_1 u t9 H1 locs ht hvm hw hB hz1 hk1 hS => ?_)
  have hw9 := hw.symm
  clear hw
  subst hw9
  have hP1 : va_P Z.1 vwCl [] H1 := fun k q h => by simp at h
  have hD1 : va_D (va_A [] s.heap.size) [] := ⟨fun i j p q h => by simp at h, fun k q h => by simp at h⟩
  obtain ⟨hP, hD⟩ := va_join (wr := [(h0, .inr (8, [.ref a1, .ref a2, .ref a3, .ref a4, .ref a5, .int kp, .ref a6, .ref a7, .ref a8, .ref a9, .ref a10, .ref a11, .ref a12, .ref a13, .int tf, .int tu, .int od])), (a6, .inl (Z.2 4, 4, .inr (.inr (.inr (.inr sf)))))]) (w1 := []) hP hD [] [0, 1] rfl rfl (by decide +kernel) (by decide +kernel) hk1 hFc hP1 hD1
  clear hPc hDc hP1 hD1 hk1 hz1 hFc ht hvm
  generalize H1 = H at hP hS ⊢
  have hP : va_P Z.1 vwCl [(h0, .inr (8, [.ref a1, .ref a2, .ref a3, .ref a4, .ref a5, .int kp, .ref a6, .ref a7, .ref a8, .ref a9, .ref a10, .ref a11, .ref a12, .ref a13, .int tf, .int tu, .int od])), (a6, .inl (Z.2 4, 4, .inr (.inr (.inr (.inr sf)))))] H := hP
  have hD : va_D A [(h0, .inr (8, [.ref a1, .ref a2, .ref a3, .ref a4, .ref a5, .int kp, .ref a6, .ref a7, .ref a8, .ref a9, .ref a10, .ref a11, .ref a12, .ref a13, .int tf, .int tu, .int od])), (a6, .inl (Z.2 4, 4, .inr (.inr (.inr (.inr sf)))))] := hD
  refine lv_if_eq (tgt := 14) hx hb dX8_film_4 (by decide) (fun c_2 => ?_) (fun c_2 => ?_)
  · refine lv_iconst (v := (-1)) hx hb dX8_film_14 (by decide) ?_
    have hP9 := hP.sub (ws' := [(h0, .inr (8, [.ref a1, .ref a2, .ref a3, .ref a4, .ref a5, .int kp, .ref a6, .ref a7, .ref a8, .ref a9, .ref a10, .ref a11, .ref a12, .ref a13, .int tf, .int tu, .int od])), (a6, .inl (Z.2 4, 4, .inr (.inr (.inr (.inr sf)))))]) [0, 1] rfl
    have hD9 := hD.sub (ws' := [(h0, .inr (8, [.ref a1, .ref a2, .ref a3, .ref a4, .ref a5, .int kp, .ref a6, .ref a7, .ref a8, .ref a9, .ref a10, .ref a11, .ref a12, .ref a13, .int tf, .int tu, .int od])), (a6, .inl (Z.2 4, 4, .inr (.inr (.inr (.inr sf)))))]) [0, 1] (by decide +kernel) rfl
    exact W.iret (v := (-1)) hx hb hr (fun t9 ht hW => ⟨⟨(-1), (), rfl, (by rw [if_pos c_2]), by rw [ht]; exact hP9, hD9⟩, hS.F ht⟩) hS.2.2 dX8_film_15
  · refine lv_iload_n hx hb dX8_film_7 rfl (lv_at hl 2 rfl) ?_
    have hPc := hP.sub (ws' := []) [] rfl
    have hDc := hD.sub (ws' := []) [] (by decide +kernel) rfl
    have hFc := va_free (wc := []) hD hS hA [] rfl
    refine va_calli (va_runS (As := [.int b]) (rest := []) ⟨hx, hb, hml, hown, hts⟩ (c_X8_isLane l Z H.size b) (va_cwS 1 hts gX8_film_X8_isLane rfl rfl rfl (by decide +kernel) ⟨Nat.le_of_ble_eq_true rfl, Nat.le_of_ble_eq_true rfl⟩) ⟨fun a U g mk q => by obtain ⟨q0, q1, qP, qK, qD⟩ := q; exact ⟨q0, q1, qP, va_K.moved (u := U) (U := U.calling g mk a) (Vm.Alike.refl U.vm) qK, qD⟩, fun U hU hW => ⟨rfl, by rw [hU], by rw [hU]; exact hPc, va_K.moved hW.alike hK, hDc.weaken (fun _ _ _ _ => trivial)⟩⟩ rfl rfl hl.1 rfl (lv_room (Nat.le_of_ble_eq_true rfl)) dX8_film_8 ⟨Nat.le_of_ble_eq_true rfl, Nat.le_of_ble_eq_true rfl⟩) hS (fun q _ h => hFc q h) hFc (fun r_3 u t9 H1 locs ht hvm hw hB hz1 hk1 hS => ?_)
    have hw9 := hw.symm
    clear hw
    subst hw9
    have hP1 : va_P Z.1 vwCl [] H1 := fun k q h => by simp at h
    have hD1 : va_D (va_A [] H.size) [] := ⟨fun i j p q h => by simp at h, fun k q h => by simp at h⟩
    obtain ⟨hP, hD⟩ := va_join (wr := [(h0, .inr (8, [.ref a1, .ref a2, .ref a3, .ref a4, .ref a5, .int kp, .ref a6, .ref a7, .ref a8, .ref a9, .ref a10, .ref a11, .ref a12, .ref a13, .int tf, .int tu, .int od])), (a6, .inl (Z.2 4, 4, .inr (.inr (.inr (.inr sf)))))]) (w1 := []) hP hD [] [0, 1] rfl rfl (by decide +kernel) (by decide +kernel) hk1 hFc hP1 hD1
    clear hPc hDc hP1 hD1 hk1 hz1 hFc ht hvm
    generalize H1 = H at hP hS ⊢
    have hP : va_P Z.1 vwCl [(h0, .inr (8, [.ref a1, .ref a2, .ref a3, .ref a4, .ref a5, .int kp, .ref a6, .ref a7, .ref a8, .ref a9, .ref a10, .ref a11, .ref a12, .ref a13, .int tf, .int tu, .int od])), (a6, .inl (Z.2 4, 4, .inr (.inr (.inr (.inr sf)))))] H := hP
    have hD : va_D A [(h0, .inr (8, [.ref a1, .ref a2, .ref a3, .ref a4, .ref a5, .int kp, .ref a6, .ref a7, .ref a8, .ref a9, .ref a10, .ref a11, .ref a12, .ref a13, .int tf, .int tu, .int od])), (a6, .inl (Z.2 4, 4, .inr (.inr (.inr (.inr sf)))))] := hD
    refine lv_if_ne (tgt := 16) hx hb dX8_film_11 (by decide) (fun c_4 => ?_) (fun c_4 => ?_)
    · refine lv_aload_n hx hb dX8_film_16 rfl (lv_at hl 0 rfl) ?_
      refine va_get (D := Z.1) (ci := 8) (v := .ref a6) (C := RX8) (T := TX8) (N := 17) hx hb hts hin8 hown hK hP 0 rfl rfl 6 (by decide) (hts (.fieldLink RX8 42 "HalfAsked" "sheets" "[LHalfAsked$Sheet;") (List.mem_of_getElem? (i := 1) rfl)) (fun _ h9 => h9) rfl dX8_film_17 ?_
      refine lv_iload_n hx hb dX8_film_20 rfl (lv_at hl 1 rfl) ?_
      refine va_aldq hx hb hK hP 1 4 rfl rfl (z_sh c_2) dX8_film_21 ?_
      refine W.eq (g2 := F0 m 22 ls [.null]) (congrArg (fun z9 => F0 m 22 ls (va_rf z9 :: [])) (hN c_2)) ?_
      refine lv_astoreN (lv' := [(4, .null), (0, .ref h0), (1, .int a), (2, .int b), (3, .int d)]) hx hb dX8_film_22 hl (by decide) rfl (fun ls hl => ?_)
      refine lv_aloadN hx hb dX8_film_24 (lv_at hl 0 rfl) ?_
      refine lv_ifnonnullN hx hb dX8_film_26 ?_
      refine lv_bipush (v := (-11)) hx hb dX8_film_29 (by decide) ?_
      have hP9 := hP.sub (ws' := [(h0, .inr (8, [.ref a1, .ref a2, .ref a3, .ref a4, .ref a5, .int kp, .ref a6, .ref a7, .ref a8, .ref a9, .ref a10, .ref a11, .ref a12, .ref a13, .int tf, .int tu, .int od])), (a6, .inl (Z.2 4, 4, .inr (.inr (.inr (.inr sf)))))]) [0, 1] rfl
      have hD9 := hD.sub (ws' := [(h0, .inr (8, [.ref a1, .ref a2, .ref a3, .ref a4, .ref a5, .int kp, .ref a6, .ref a7, .ref a8, .ref a9, .ref a10, .ref a11, .ref a12, .ref a13, .int tf, .int tu, .int od])), (a6, .inl (Z.2 4, 4, .inr (.inr (.inr (.inr sf)))))]) [0, 1] (by decide +kernel) rfl
      exact W.iret (v := (-11)) hx hb hr (fun t9 ht hW => ⟨⟨(-11), (), rfl, (by rw [if_neg c_2, if_neg c_4]), by rw [ht]; exact hP9, hD9⟩, hS.F ht⟩) hS.2.2 dX8_film_31
    · refine lv_iconst (v := (-1)) hx hb dX8_film_14 (by decide) ?_
      have hP9 := hP.sub (ws' := [(h0, .inr (8, [.ref a1, .ref a2, .ref a3, .ref a4, .ref a5, .int kp, .ref a6, .ref a7, .ref a8, .ref a9, .ref a10, .ref a11, .ref a12, .ref a13, .int tf, .int tu, .int od])), (a6, .inl (Z.2 4, 4, .inr (.inr (.inr (.inr sf)))))]) [0, 1] rfl
      have hD9 := hD.sub (ws' := [(h0, .inr (8, [.ref a1, .ref a2, .ref a3, .ref a4, .ref a5, .int kp, .ref a6, .ref a7, .ref a8, .ref a9, .ref a10, .ref a11, .ref a12, .ref a13, .int tf, .int tu, .int od])), (a6, .inl (Z.2 4, 4, .inr (.inr (.inr (.inr sf)))))]) [0, 1] (by decide +kernel) rfl
      exact W.iret (v := (-1)) hx hb hr (fun t9 ht hW => ⟨⟨(-1), (), rfl, (by rw [if_neg c_2, if_pos c_4]), by rw [ht]; exact hP9, hD9⟩, hS.F ht⟩) hS.2.2 dX8_film_15
set_option maxHeartbeats 4000000 in
set_option maxRecDepth 100000 in
theorem c_X8_who_N (l : Launch) (Z : gZ) (sz : Nat) (h0 : Nat) (a1 : Nat) (a2 : Nat) (a3 : Nat) (a4 : Nat) (a5 : Nat) (a6 : Nat) (a7 : Nat) (a8 : Nat) (a9 : Nat) (a10 : Nat) (a11 : Nat) (a12 : Nat) (a13 : Nat) (kp : Int32) (tf : Int32) (tu : Int32) (od : Int32) (sf : Nat → Option Nat) (a : Int32) (b : Int32) (d : Int32) (f : Int32) (j : Int32) (hN : ¬ (if a < 0 then (0 : Int32) else (if 4 ≤ a then (0 : Int32) else (1 : Int32))) = 0 → sf a.toNatClampNeg = none) : Met l yX8_who wsX8_who ({ frames := 1, cells := 0, slots := 0, locals := 20 }) (va_Pc [.ref h0, .int a, .int b, .int d, .int f, .int j] (fun U => U.heap.size = sz ∧ va_P Z.1 vwCl [(h0, .inr (8, [.ref a1, .ref a2, .ref a3, .ref a4, .ref a5, .int kp, .ref a6, .ref a7, .ref a8, .ref a9, .ref a10, .ref a11, .ref a12, .ref a13, .int tf, .int tu, .int od])), (a6, .inl (Z.2 4, 4, .inr (.inr (.inr (.inr sf)))))] U.heap ∧ va_K Z.1 vwCl (gT Z) U ∧ va_D (fun _ => True) [(h0, .inr (8, [.ref a1, .ref a2, .ref a3, .ref a4, .ref a5, .int kp, .ref a6, .ref a7, .ref a8, .ref a9, .ref a10, .ref a11, .ref a12, .ref a13, .int tf, .int tu, .int od])), (a6, .inl (Z.2 4, 4, .inr (.inr (.inr (.inr sf)))))])) (va_Qi (fun (r : Int32) (u : Unit) => r = (if (if a < 0 then (0 : Int32) else (if 4 ≤ a then (0 : Int32) else (1 : Int32))) = 0 then (-1 : Int32) else (if (if b < 0 then (0 : Int32) else (if 3 ≤ b then (0 : Int32) else (1 : Int32))) = 0 then (-1 : Int32) else (if f < 1 then (-1 : Int32) else (if 3 < f then (-1 : Int32) else (if j < (-1) then (-1 : Int32) else (if j < f then (-11 : Int32) else (-1 : Int32)))))))) (fun (u : Unit) (t9 : State) => va_P Z.1 vwCl [(h0, .inr (8, [.ref a1, .ref a2, .ref a3, .ref a4, .ref a5, .int kp, .ref a6, .ref a7, .ref a8, .ref a9, .ref a10, .ref a11, .ref a12, .ref a13, .int tf, .int tu, .int od])), (a6, .inl (Z.2 4, 4, .inr (.inr (.inr (.inr sf)))))] t9.heap ∧ va_D (va_A [(h0, .inr (8, [.ref a1, .ref a2, .ref a3, .ref a4, .ref a5, .int kp, .ref a6, .ref a7, .ref a8, .ref a9, .ref a10, .ref a11, .ref a12, .ref a13, .int tf, .int tu, .int od])), (a6, .inl (Z.2 4, 4, .inr (.inr (.inr (.inr sf)))))] sz) [(h0, .inr (8, [.ref a1, .ref a2, .ref a3, .ref a4, .ref a5, .int kp, .ref a6, .ref a7, .ref a8, .ref a9, .ref a10, .ref a11, .ref a12, .ref a13, .int tf, .int tu, .int od])), (a6, .inl (Z.2 4, 4, .inr (.inr (.inr (.inr sf)))))]) (va_A [(h0, .inr (8, [.ref a1, .ref a2, .ref a3, .ref a4, .ref a5, .int kp, .ref a6, .ref a7, .ref a8, .ref a9, .ref a10, .ref a11, .ref a12, .ref a13, .int tf, .int tu, .int od])), (a6, .inl (Z.2 4, 4, .inr (.inr (.inr (.inr sf)))))] sz)) 0 0 (va_A [(h0, .inr (8, [.ref a1, .ref a2, .ref a3, .ref a4, .ref a5, .int kp, .ref a6, .ref a7, .ref a8, .ref a9, .ref a10, .ref a11, .ref a12, .ref a13, .int tf, .int tu, .int od])), (a6, .inl (Z.2 4, 4, .inr (.inr (.inr (.inr sf)))))] sz) := by
  refine Met.ofW (cc := cX8_who) (maxL := 8) (ret := (some .int)) (by decide) rfl ?_
  intro p e s m args below meth c s₁ B hml hv
  obtain ⟨rfl, hsz, hP, hK, hD0⟩ := hv
  have hx := B.exec
  have hb := B.bytes
  have hr := B.returns
  have hts := atoms_spec (ws := wsX8_who) B.pre
  have hown : s.vm.findClass RX8 = some m.cls := findClass_of_methodNamed B.named
  have hlocks := B.notSynchronized
  subst hsz
  have hin8 : ∀ w ∈ wsX80, w ∈ wsX8_who := fun w h9 => (List.mem_cons_of_mem _ (List.mem_append_left _ (List.mem_append_left _ (List.mem_append_left _ (List.mem_append_right _ h9)))))
  have hD := hD0.self (sz := s.heap.size)
  generalize hAe : va_A [(h0, .inr (8, [.ref a1, .ref a2, .ref a3, .ref a4, .ref a5, .int kp, .ref a6, .ref a7, .ref a8, .ref a9, .ref a10, .ref a11, .ref a12, .ref a13, .int tf, .int tu, .int od])), (a6, .inl (Z.2 4, 4, .inr (.inr (.inr (.inr sf)))))] s.heap.size = A at hD ⊢
  have hA : ∀ q : Nat, s.heap.size ≤ q → A q := fun q h => by rw [← hAe]; exact Or.inr h
  have hS : va_S A s.heap s.heap [] := va_S.rf
  have hP : va_P Z.1 vwCl [(h0, .inr (8, [.ref a1, .ref a2, .ref a3, .ref a4, .ref a5, .int kp, .ref a6, .ref a7, .ref a8, .ref a9, .ref a10, .ref a11, .ref a12, .ref a13, .int tf, .int tu, .int od])), (a6, .inl (Z.2 4, 4, .inr (.inr (.inr (.inr sf)))))] s.heap := hP
  have hl := lv_entry ([.ref h0, .int a, .int b, .int d, .int f, .int j]) (n := 8) (Nat.le_of_ble_eq_true rfl)
  rw [lg_entry_eq]
  generalize (lg_sl ([.ref h0, .int a, .int b, .int d, .int f, .int j]) ++ List.replicate (8 - (lg_sl ([.ref h0, .int a, .int b, .int d, .int f, .int j])).length) Slot.unset).toArray = ls at hl ⊢
  have hl : lv_has ls 8 [(0, .ref h0), (1, .int a), (2, .int b), (3, .int d), (4, .int f), (5, .int j)] := hl
  refine lv_iload_n hx hb dX8_who_0 rfl (lv_at hl 1 rfl) ?_
  have hPc := hP.sub (ws' := []) [] rfl
  have hDc := hD.sub (ws' := []) [] (by decide +kernel) rfl
  have hFc := va_free (wc := []) hD hS hA [] rfl
  refine va_calli (va_runS (As := [.int a]) (rest := []) ⟨hx, hb, hml, hown, hts⟩ (c_X8_isSheet l Z s.heap.size a) (va_cwS 1 hts gX8_who_X8_isSheet rfl rfl rfl (by decide +kernel) ⟨Nat.le_of_ble_eq_true rfl, Nat.le_of_ble_eq_true rfl⟩) ⟨fun a U g mk q => by obtain ⟨q0, q1, qP, qK, qD⟩ := q; exact ⟨q0, q1, qP, va_K.moved (u := U) (U := U.calling g mk a) (Vm.Alike.refl U.vm) qK, qD⟩, fun U hU hW => ⟨rfl, by rw [hU], by rw [hU]; exact hPc, va_K.moved hW.alike hK, hDc.weaken (fun _ _ _ _ => trivial)⟩⟩ rfl rfl hl.1 rfl (lv_room (Nat.le_of_ble_eq_true rfl)) dX8_who_1 ⟨Nat.le_of_ble_eq_true rfl, Nat.le_of_ble_eq_true rfl⟩) hS (fun q _ h => hFc q h) hFc (fun r_1 u t9 H1 locs ht hvm hw hB hz1 hk1 hS => ?_)
  have hw9 := hw.symm
  clear hw
  subst hw9
  have hP1 : va_P Z.1 vwCl [] H1 := fun k q h => by simp at h
  have hD1 : va_D (va_A [] s.heap.size) [] := ⟨fun i j p q h => by simp at h, fun k q h => by simp at h⟩
  obtain ⟨hP, hD⟩ := va_join (wr := [(h0, .inr (8, [.ref a1, .ref a2, .ref a3, .ref a4, .ref a5, .int kp, .ref a6, .ref a7, .ref a8, .ref a9, .ref a10, .ref a11, .ref a12, .ref a13, .int tf, .int tu, .int od])), (a6, .inl (Z.2 4, 4, .inr (.inr (.inr (.inr sf)))))]) (w1 := []) hP hD [] [0, 1] rfl rfl (by decide +kernel) (by decide +kernel) hk1 hFc hP1 hD1
  clear hPc hDc hP1 hD1 hk1 hz1 hFc ht hvm
  generalize H1 = H at hP hS ⊢
  have hP : va_P Z.1 vwCl [(h0, .inr (8, [.ref a1, .ref a2, .ref a3, .ref a4, .ref a5, .int kp, .ref a6, .ref a7, .ref a8, .ref a9, .ref a10, .ref a11, .ref a12, .ref a13, .int tf, .int tu, .int od])), (a6, .inl (Z.2 4, 4, .inr (.inr (.inr (.inr sf)))))] H := hP
  have hD : va_D A [(h0, .inr (8, [.ref a1, .ref a2, .ref a3, .ref a4, .ref a5, .int kp, .ref a6, .ref a7, .ref a8, .ref a9, .ref a10, .ref a11, .ref a12, .ref a13, .int tf, .int tu, .int od])), (a6, .inl (Z.2 4, 4, .inr (.inr (.inr (.inr sf)))))] := hD
  refine lv_if_eq (tgt := 39) hx hb dX8_who_4 (by decide) (fun c_2 => ?_) (fun c_2 => ?_)
  · refine lv_iconst (v := (-1)) hx hb dX8_who_39 (by decide) ?_
    have hP9 := hP.sub (ws' := [(h0, .inr (8, [.ref a1, .ref a2, .ref a3, .ref a4, .ref a5, .int kp, .ref a6, .ref a7, .ref a8, .ref a9, .ref a10, .ref a11, .ref a12, .ref a13, .int tf, .int tu, .int od])), (a6, .inl (Z.2 4, 4, .inr (.inr (.inr (.inr sf)))))]) [0, 1] rfl
    have hD9 := hD.sub (ws' := [(h0, .inr (8, [.ref a1, .ref a2, .ref a3, .ref a4, .ref a5, .int kp, .ref a6, .ref a7, .ref a8, .ref a9, .ref a10, .ref a11, .ref a12, .ref a13, .int tf, .int tu, .int od])), (a6, .inl (Z.2 4, 4, .inr (.inr (.inr (.inr sf)))))]) [0, 1] (by decide +kernel) rfl
    exact W.iret (v := (-1)) hx hb hr (fun t9 ht hW => ⟨⟨(-1), (), rfl, (by rw [if_pos c_2]), by rw [ht]; exact hP9, hD9⟩, hS.F ht⟩) hS.2.2 dX8_who_40
  · refine lv_iload_n hx hb dX8_who_7 rfl (lv_at hl 2 rfl) ?_
    have hPc := hP.sub (ws' := []) [] rfl
    have hDc := hD.sub (ws' := []) [] (by decide +kernel) rfl
    have hFc := va_free (wc := []) hD hS hA [] rfl
    refine va_calli (va_runS (As := [.int b]) (rest := []) ⟨hx, hb, hml, hown, hts⟩ (c_X8_isLane l Z H.size b) (va_cwS 1 hts gX8_who_X8_isLane rfl rfl rfl (by decide +kernel) ⟨Nat.le_of_ble_eq_true rfl, Nat.le_of_ble_eq_true rfl⟩) ⟨fun a U g mk q => by obtain ⟨q0, q1, qP, qK, qD⟩ := q; exact ⟨q0, q1, qP, va_K.moved (u := U) (U := U.calling g mk a) (Vm.Alike.refl U.vm) qK, qD⟩, fun U hU hW => ⟨rfl, by rw [hU], by rw [hU]; exact hPc, va_K.moved hW.alike hK, hDc.weaken (fun _ _ _ _ => trivial)⟩⟩ rfl rfl hl.1 rfl (lv_room (Nat.le_of_ble_eq_true rfl)) dX8_who_8 ⟨Nat.le_of_ble_eq_true rfl, Nat.le_of_ble_eq_true rfl⟩) hS (fun q _ h => hFc q h) hFc (fun r_3 u t9 H1 locs ht hvm hw hB hz1 hk1 hS => ?_)
    have hw9 := hw.symm
    clear hw
    subst hw9
    have hP1 : va_P Z.1 vwCl [] H1 := fun k q h => by simp at h
    have hD1 : va_D (va_A [] H.size) [] := ⟨fun i j p q h => by simp at h, fun k q h => by simp at h⟩
    obtain ⟨hP, hD⟩ := va_join (wr := [(h0, .inr (8, [.ref a1, .ref a2, .ref a3, .ref a4, .ref a5, .int kp, .ref a6, .ref a7, .ref a8, .ref a9, .ref a10, .ref a11, .ref a12, .ref a13, .int tf, .int tu, .int od])), (a6, .inl (Z.2 4, 4, .inr (.inr (.inr (.inr sf)))))]) (w1 := []) hP hD [] [0, 1] rfl rfl (by decide +kernel) (by decide +kernel) hk1 hFc hP1 hD1
    clear hPc hDc hP1 hD1 hk1 hz1 hFc ht hvm
    generalize H1 = H at hP hS ⊢
    have hP : va_P Z.1 vwCl [(h0, .inr (8, [.ref a1, .ref a2, .ref a3, .ref a4, .ref a5, .int kp, .ref a6, .ref a7, .ref a8, .ref a9, .ref a10, .ref a11, .ref a12, .ref a13, .int tf, .int tu, .int od])), (a6, .inl (Z.2 4, 4, .inr (.inr (.inr (.inr sf)))))] H := hP
    have hD : va_D A [(h0, .inr (8, [.ref a1, .ref a2, .ref a3, .ref a4, .ref a5, .int kp, .ref a6, .ref a7, .ref a8, .ref a9, .ref a10, .ref a11, .ref a12, .ref a13, .int tf, .int tu, .int od])), (a6, .inl (Z.2 4, 4, .inr (.inr (.inr (.inr sf)))))] := hD
    refine lv_if_eq (tgt := 39) hx hb dX8_who_11 (by decide) (fun c_4 => ?_) (fun c_4 => ?_)
    · refine lv_iconst (v := (-1)) hx hb dX8_who_39 (by decide) ?_
      have hP9 := hP.sub (ws' := [(h0, .inr (8, [.ref a1, .ref a2, .ref a3, .ref a4, .ref a5, .int kp, .ref a6, .ref a7, .ref a8, .ref a9, .ref a10, .ref a11, .ref a12, .ref a13, .int tf, .int tu, .int od])), (a6, .inl (Z.2 4, 4, .inr (.inr (.inr (.inr sf)))))]) [0, 1] rfl
      have hD9 := hD.sub (ws' := [(h0, .inr (8, [.ref a1, .ref a2, .ref a3, .ref a4, .ref a5, .int kp, .ref a6, .ref a7, .ref a8, .ref a9, .ref a10, .ref a11, .ref a12, .ref a13, .int tf, .int tu, .int od])), (a6, .inl (Z.2 4, 4, .inr (.inr (.inr (.inr sf)))))]) [0, 1] (by decide +kernel) rfl
      exact W.iret (v := (-1)) hx hb hr (fun t9 ht hW => ⟨⟨(-1), (), rfl, (by rw [if_neg c_2, if_pos c_4]), by rw [ht]; exact hP9, hD9⟩, hS.F ht⟩) hS.2.2 dX8_who_40
    · refine lv_iload hx hb dX8_who_14 (lv_at hl 4 rfl) ?_
      refine lv_iconst (v := 1) hx hb dX8_who_16 (by decide) ?_
      refine lv_icmp_lt (tgt := 39) hx hb dX8_who_17 (by decide) (fun c_5 => ?_) (fun c_5 => ?_)
      · refine lv_iconst (v := (-1)) hx hb dX8_who_39 (by decide) ?_
        have hP9 := hP.sub (ws' := [(h0, .inr (8, [.ref a1, .ref a2, .ref a3, .ref a4, .ref a5, .int kp, .ref a6, .ref a7, .ref a8, .ref a9, .ref a10, .ref a11, .ref a12, .ref a13, .int tf, .int tu, .int od])), (a6, .inl (Z.2 4, 4, .inr (.inr (.inr (.inr sf)))))]) [0, 1] rfl
        have hD9 := hD.sub (ws' := [(h0, .inr (8, [.ref a1, .ref a2, .ref a3, .ref a4, .ref a5, .int kp, .ref a6, .ref a7, .ref a8, .ref a9, .ref a10, .ref a11, .ref a12, .ref a13, .int tf, .int tu, .int od])), (a6, .inl (Z.2 4, 4, .inr (.inr (.inr (.inr sf)))))]) [0, 1] (by decide +kernel) rfl
        exact W.iret (v := (-1)) hx hb hr (fun t9 ht hW => ⟨⟨(-1), (), rfl, (by rw [if_neg c_2, if_neg c_4, if_pos c_5]), by rw [ht]; exact hP9, hD9⟩, hS.F ht⟩) hS.2.2 dX8_who_40
      · refine lv_iload hx hb dX8_who_20 (lv_at hl 4 rfl) ?_
        refine lv_iconst (v := 3) hx hb dX8_who_22 (by decide) ?_
        refine lv_icmp_gt (tgt := 39) hx hb dX8_who_23 (by decide) (fun c_6 => ?_) (fun c_6 => ?_)
        · refine lv_iconst (v := (-1)) hx hb dX8_who_39 (by decide) ?_
          have hP9 := hP.sub (ws' := [(h0, .inr (8, [.ref a1, .ref a2, .ref a3, .ref a4, .ref a5, .int kp, .ref a6, .ref a7, .ref a8, .ref a9, .ref a10, .ref a11, .ref a12, .ref a13, .int tf, .int tu, .int od])), (a6, .inl (Z.2 4, 4, .inr (.inr (.inr (.inr sf)))))]) [0, 1] rfl
          have hD9 := hD.sub (ws' := [(h0, .inr (8, [.ref a1, .ref a2, .ref a3, .ref a4, .ref a5, .int kp, .ref a6, .ref a7, .ref a8, .ref a9, .ref a10, .ref a11, .ref a12, .ref a13, .int tf, .int tu, .int od])), (a6, .inl (Z.2 4, 4, .inr (.inr (.inr (.inr sf)))))]) [0, 1] (by decide +kernel) rfl
          exact W.iret (v := (-1)) hx hb hr (fun t9 ht hW => ⟨⟨(-1), (), rfl, (by rw [if_neg c_2, if_neg c_4, if_neg c_5, if_pos c_6]), by rw [ht]; exact hP9, hD9⟩, hS.F ht⟩) hS.2.2 dX8_who_40
        · refine lv_iload hx hb dX8_who_26 (lv_at hl 5 rfl) ?_
          refine lv_iconst (v := (-1)) hx hb dX8_who_28 (by decide) ?_
          refine lv_icmp_lt (tgt := 39) hx hb dX8_who_29 (by decide) (fun c_7 => ?_) (fun c_7 => ?_)
          · refine lv_iconst (v := (-1)) hx hb dX8_who_39 (by decide) ?_
            have hP9 := hP.sub (ws' := [(h0, .inr (8, [.ref a1, .ref a2, .ref a3, .ref a4, .ref a5, .int kp, .ref a6, .ref a7, .ref a8, .ref a9, .ref a10, .ref a11, .ref a12, .ref a13, .int tf, .int tu, .int od])), (a6, .inl (Z.2 4, 4, .inr (.inr (.inr (.inr sf)))))]) [0, 1] rfl
            have hD9 := hD.sub (ws' := [(h0, .inr (8, [.ref a1, .ref a2, .ref a3, .ref a4, .ref a5, .int kp, .ref a6, .ref a7, .ref a8, .ref a9, .ref a10, .ref a11, .ref a12, .ref a13, .int tf, .int tu, .int od])), (a6, .inl (Z.2 4, 4, .inr (.inr (.inr (.inr sf)))))]) [0, 1] (by decide +kernel) rfl
            exact W.iret (v := (-1)) hx hb hr (fun t9 ht hW => ⟨⟨(-1), (), rfl, (by rw [if_neg c_2, if_neg c_4, if_neg c_5, if_neg c_6, if_pos c_7]), by rw [ht]; exact hP9, hD9⟩, hS.F ht⟩) hS.2.2 dX8_who_40
          · refine lv_iload hx hb dX8_who_32 (lv_at hl 5 rfl) ?_
            refine lv_iload hx hb dX8_who_34 (lv_at hl 4 rfl) ?_
            refine lv_icmp_lt (tgt := 41) hx hb dX8_who_36 (by decide) (fun c_8 => ?_) (fun c_8 => ?_)
            · refine lv_aload_n hx hb dX8_who_41 rfl (lv_at hl 0 rfl) ?_
              refine va_get (D := Z.1) (ci := 8) (v := .ref a6) (C := RX8) (T := TX8) (N := 17) hx hb hts hin8 hown hK hP 0 rfl rfl 6 (by decide) (hts (.fieldLink RX8 42 "HalfAsked" "sheets" "[LHalfAsked$Sheet;") (List.mem_of_getElem? (i := 1) rfl)) (fun _ h9 => h9) rfl dX8_who_42 ?_
              refine lv_iload_n hx hb dX8_who_45 rfl (lv_at hl 1 rfl) ?_
              refine va_aldq hx hb hK hP 1 4 rfl rfl (z_sh c_2) dX8_who_46 ?_
              refine W.eq (g2 := F0 m 47 ls [.null]) (congrArg (fun z9 => F0 m 47 ls (va_rf z9 :: [])) (hN c_2)) ?_
              refine lv_astoreN (lv' := [(6, .null), (0, .ref h0), (1, .int a), (2, .int b), (3, .int d), (4, .int f), (5, .int j)]) hx hb dX8_who_47 hl (by decide) rfl (fun ls hl => ?_)
              refine lv_aloadN hx hb dX8_who_49 (lv_at hl 0 rfl) ?_
              refine lv_ifnonnullN hx hb dX8_who_51 ?_
              refine lv_bipush (v := (-11)) hx hb dX8_who_54 (by decide) ?_
              have hP9 := hP.sub (ws' := [(h0, .inr (8, [.ref a1, .ref a2, .ref a3, .ref a4, .ref a5, .int kp, .ref a6, .ref a7, .ref a8, .ref a9, .ref a10, .ref a11, .ref a12, .ref a13, .int tf, .int tu, .int od])), (a6, .inl (Z.2 4, 4, .inr (.inr (.inr (.inr sf)))))]) [0, 1] rfl
              have hD9 := hD.sub (ws' := [(h0, .inr (8, [.ref a1, .ref a2, .ref a3, .ref a4, .ref a5, .int kp, .ref a6, .ref a7, .ref a8, .ref a9, .ref a10, .ref a11, .ref a12, .ref a13, .int tf, .int tu, .int od])), (a6, .inl (Z.2 4, 4, .inr (.inr (.inr (.inr sf)))))]) [0, 1] (by decide +kernel) rfl
              exact W.iret (v := (-11)) hx hb hr (fun t9 ht hW => ⟨⟨(-11), (), rfl, (by rw [if_neg c_2, if_neg c_4, if_neg c_5, if_neg c_6, if_neg c_7, if_pos c_8]), by rw [ht]; exact hP9, hD9⟩, hS.F ht⟩) hS.2.2 dX8_who_56
            · refine lv_iconst (v := (-1)) hx hb dX8_who_39 (by decide) ?_
              have hP9 := hP.sub (ws' := [(h0, .inr (8, [.ref a1, .ref a2, .ref a3, .ref a4, .ref a5, .int kp, .ref a6, .ref a7, .ref a8, .ref a9, .ref a10, .ref a11, .ref a12, .ref a13, .int tf, .int tu, .int od])), (a6, .inl (Z.2 4, 4, .inr (.inr (.inr (.inr sf)))))]) [0, 1] rfl
              have hD9 := hD.sub (ws' := [(h0, .inr (8, [.ref a1, .ref a2, .ref a3, .ref a4, .ref a5, .int kp, .ref a6, .ref a7, .ref a8, .ref a9, .ref a10, .ref a11, .ref a12, .ref a13, .int tf, .int tu, .int od])), (a6, .inl (Z.2 4, 4, .inr (.inr (.inr (.inr sf)))))]) [0, 1] (by decide +kernel) rfl
              exact W.iret (v := (-1)) hx hb hr (fun t9 ht hW => ⟨⟨(-1), (), rfl, (by rw [if_neg c_2, if_neg c_4, if_neg c_5, if_neg c_6, if_neg c_7, if_neg c_8]), by rw [ht]; exact hP9, hD9⟩, hS.F ht⟩) hS.2.2 dX8_who_40
