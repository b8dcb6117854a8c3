theorem z_out_1_3 {x : Int32} (h1 : ¬ x = 1) (h2 : ¬ x = 2) (h3 : ¬ x = 3) : x.toInt < 1 ∨ 3 < x.toInt := by
  have a1 : ¬ x.toInt = 1 := fun e => h1 (Int32.toInt_inj.mp (e.trans (by decide)))
  have a2 : ¬ x.toInt = 2 := fun e => h2 (Int32.toInt_inj.mp (e.trans (by decide)))
  have a3 : ¬ x.toInt = 3 := fun e => h3 (Int32.toInt_inj.mp (e.trans (by decide)))
  omega
theorem z_clt {n k : Nat} (hn : n < 2147483648) (hk : k ≤ n) (c : ¬ nI n ≤ nI k) : k < n := by
  rcases Nat.lt_or_ge k n with q | q
  · exact q
  · exact absurd (nI_le q (by omega)) c
theorem z_cge {n k : Nat} (hn : n < 2147483648) (hk : k ≤ n) (c : nI n ≤ nI k) : k = n := by
  rcases Nat.lt_or_ge k n with q | q
  · exact absurd c (nI_ge q (by omega))
  · omega
/-- a plan of n askings holds people -/
def zP (n : Nat) (f g : Nat → Int32) : Prop := ∀ j, j < n → vp_in (f j) 5 ∧ vp_in (g j) 5
theorem zP_0 (f g : Nat → Int32) : zP 0 f g := fun j h => absurd h (Nat.not_lt_zero j)
theorem zP_cong {n : Nat} {f g f2 g2 : Nat → Int32} (hn : n ≤ 8) (h : zP n f g) (hf : ∀ j, j < 8 → f2 j = f j) (hg : ∀ j, j < 8 → g2 j = g j) : zP n f2 g2 := fun j hj => by rw [hf j (by omega), hg j (by omega)]; exact h j hj
theorem zP_add {n : Nat} {f g : Nat → Int32} {a b : Int32} (h : zP n f g) (ha : vp_in a 5) (hb : vp_in b 5) : zP (n + 1) (upd f n a) (upd g n b) := by
  intro j hj
  rcases Nat.lt_or_ge j n with q | q
  · rw [pk_un (by omega), pk_un (by omega)]; exact h j q
  · obtain rfl : j = n := by omega
    rw [pk_us, pk_us]; exact ⟨ha, hb⟩
theorem z_in_has {a : Int32} {n N : Nat} (hn : n ≤ N) (hN : N < 2147483648) (h : ¬ (if a < 0 then (0 : Int32) else (if nI n ≤ a then (0 : Int32) else (1 : Int32))) = 0) : vp_in a n := by
  by_cases h1 : a < 0
  · exact absurd (if_pos h1) h
  · by_cases h2 : nI n ≤ a
    · exact absurd (by rw [if_neg h1, if_pos h2]) h
    · rw [Int32.lt_iff_toInt_lt] at h1
      rw [Int32.le_iff_toInt_le, nI_toInt (by omega)] at h2
      have e0 : (0 : Int32).toInt = 0 := by decide
      exact vp_in_iff.mpr (by omega)
theorem z_in_mono {a : Int32} {n N : Nat} (h : vp_in a n) (hn : n ≤ N) : vp_in a N := by
  rw [vp_in_iff] at h ⊢
  omega
theorem z_cl {a : Int32} {n : Nat} (h : vp_in a n) : a.toNatClampNeg < n := by
  have h := vp_in_iff.mp h
  show a.toInt.toNat < n
  omega
set_option maxHeartbeats 4000000 in
set_option maxRecDepth 100000 in
theorem c_X0_init (l : Launch) (Z : gZ) (sz : Nat) (h0 : Nat)  : Met l yX0_init wsX0_init ({ frames := 1, cells := 2, slots := 10, locals := 28 }) (va_Pc [.ref h0] (fun U => U.heap.size = sz ∧ va_P Z.1 vwCl [(h0, .inr (0, [.int 0, .int 0, .int 0, .null, .null]))] U.heap ∧ va_K Z.1 vwCl (gT Z) U ∧ va_D (fun _ => True) [(h0, .inr (0, [.int 0, .int 0, .int 0, .null, .null]))])) (va_Qv (fun (u : Nat × Nat) => match u with | (k, q) => True) (fun (u : Nat × Nat) (t9 : State) => match u with | (k, q) => va_P Z.1 vwCl [(h0, .inr (0, [.int 0, .int 16510910, .int 0, .ref k, .ref q])), (k, .inl (Z.2 0, 5, .inl (fun _ => 0))), (q, .inl (Z.2 0, 5, .inl (fun _ => 0)))] t9.heap ∧ va_D (va_A [(h0, .inr (0, [.int 0, .int 0, .int 0, .null, .null]))] sz) [(h0, .inr (0, [.int 0, .int 16510910, .int 0, .ref k, .ref q])), (k, .inl (Z.2 0, 5, .inl (fun _ => 0))), (q, .inl (Z.2 0, 5, .inl (fun _ => 0)))]) (va_A [(h0, .inr (0, [.int 0, .int 0, .int 0, .null, .null]))] sz)) 2 10 (va_A [(h0, .inr (0, [.int 0, .int 0, .int 0, .null, .null]))] sz) := by
  refine Met.ofW (cc := cX0_init) (maxL := 1) (ret := none) (by decide) rfl ?_
  intro p e s m args below meth c s₁ B hml hv
  obtain ⟨rfl, hsz, hP, hK, hD0⟩ := hv
  have hx := B.exec
  have hb := B.bytes
  have hr := B.returns
  have hts := atoms_spec (ws := wsX0_init) B.pre
  have hown : s.vm.findClass RX0 = some m.cls := findClass_of_methodNamed B.named
  have hlocks := B.notSynchronized
  have hin : meth.name = "<init>" := (name_of_methodNamed B.named B.method).1
  subst hsz
  have hin0 : ∀ w ∈ wsX00, w ∈ wsX0_init := fun w h9 => (List.mem_cons_of_mem _ (List.mem_append_right _ h9))
  have hD := hD0.self (sz := s.heap.size)
  generalize hAe : va_A [(h0, .inr (0, [.int 0, .int 0, .int 0, .null, .null]))] s.heap.size = A at hD ⊢
  have hA : ∀ q : Nat, s.heap.size ≤ q → A q := fun q h => by rw [← hAe]; exact Or.inr h
  have hS : va_S A s.heap s.heap [] := va_S.rf
  have hP : va_P Z.1 vwCl [(h0, .inr (0, [.int 0, .int 0, .int 0, .null, .null]))] s.heap := hP
  have hl := lv_entry ([.ref h0]) (n := 1) (Nat.le_of_ble_eq_true rfl)
  rw [lg_entry_eq]
  generalize (lg_sl ([.ref h0]) ++ List.replicate (1 - (lg_sl ([.ref h0])).length) Slot.unset).toArray = ls at hl ⊢
  have hl : lv_has ls 1 [(0, .ref h0)] := hl
  refine lv_aload_n hx hb dX0_init_0 rfl (lv_at hl 0 rfl) ?_
  refine W.objInit hx hb hown (hts (.methodLink RX0 3 objectInit) (List.mem_of_getElem? (i := 1) rfl)) (hts (.instanceMethod objectInit) (List.mem_of_getElem? (i := 2) rfl)) (hts (.code objectInit ⟨#[0xb1]⟩ 1 none) (List.mem_of_getElem? (i := 3) rfl)) rfl (by rw [hml]; exact hl.1) rfl dX0_init_1 (Nat.le_of_ble_eq_true rfl) (Nat.le_of_ble_eq_true rfl) ?_
  refine W.eq (g2 := F0 m 4 ls []) rfl ?_
  refine lv_aload_n hx hb dX0_init_4 rfl (lv_at hl 0 rfl) ?_
  refine lv_iconst (v := 0) hx hb dX0_init_5 (by decide) ?_
  refine va_put (D := Z.1) (ci := 0) (v := .int 0) (ty := .int) (C := RX0) (T := TX0) (N := 5) hx hb hts hin0 tyX0 tyX0_ok nmX0 hown hK hP hD hS 0 rfl rfl 0 (by decide) (hts (.fieldLink RX0 9 "HalfAsked$Folk" "size" "I") (List.mem_of_getElem? (i := 4) rfl)) (fun _ h9 => h9) rfl (by decide +kernel) rfl rfl (Nat.le_of_ble_eq_true rfl) dX0_init_6 (fun H locs hP hD hS => ?_)
  have hP : va_P Z.1 vwCl [(h0, .inr (0, [.int 0, .int 0, .int 0, .null, .null]))] H := hP
  have hD : va_D A [(h0, .inr (0, [.int 0, .int 0, .int 0, .null, .null]))] := hD
  refine lv_aload_n hx hb dX0_init_9 rfl (lv_at hl 0 rfl) ?_
  refine lv_ldc (v := 16510910) hx hb hown (hts (.constant RX0 15 (16510910)) (List.mem_of_getElem? (i := 5) rfl)) dX0_init_10 ?_
  refine va_put (D := Z.1) (ci := 0) (v := .int 16510910) (ty := .int) (C := RX0) (T := TX0) (N := 5) hx hb hts hin0 tyX0 tyX0_ok nmX0 hown hK hP hD hS 0 rfl rfl 1 (by decide) (hts (.fieldLink RX0 16 "HalfAsked$Folk" "known" "I") (List.mem_of_getElem? (i := 6) rfl)) (fun _ h9 => h9) rfl (by decide +kernel) rfl rfl (Nat.le_of_ble_eq_true rfl) dX0_init_12 (fun H locs hP hD hS => ?_)
  have hP : va_P Z.1 vwCl [(h0, .inr (0, [.int 0, .int 16510910, .int 0, .null, .null]))] H := hP
  have hD : va_D A [(h0, .inr (0, [.int 0, .int 16510910, .int 0, .null, .null]))] := hD
  refine lv_aload_n hx hb dX0_init_15 rfl (lv_at hl 0 rfl) ?_
  refine lv_iconst (v := 0) hx hb dX0_init_16 (by decide) ?_
  refine va_put (D := Z.1) (ci := 0) (v := .int 0) (ty := .int) (C := RX0) (T := TX0) (N := 5) hx hb hts hin0 tyX0 tyX0_ok nmX0 hown hK hP hD hS 0 rfl rfl 2 (by decide) (hts (.fieldLink RX0 19 "HalfAsked$Folk" "asked" "I") (List.mem_of_getElem? (i := 7) rfl)) (fun _ h9 => h9) rfl (by decide +kernel) rfl rfl (Nat.le_of_ble_eq_true rfl) dX0_init_17 (fun H locs hP hD hS => ?_)
  have hP : va_P Z.1 vwCl [(h0, .inr (0, [.int 0, .int 16510910, .int 0, .null, .null]))] H := hP
  have hD : va_D A [(h0, .inr (0, [.int 0, .int 16510910, .int 0, .null, .null]))] := hD
  refine lv_aload_n hx hb dX0_init_20 rfl (lv_at hl 0 rfl) ?_
  refine lv_iconst (v := 5) hx hb dX0_init_21 (by decide) ?_
  refine z_newint (N' := 5) hx hb (hts (.arrayClass .int) (List.mem_of_getElem? (i := 8) rfl)) hK hP hD hS hA (by decide) (by decide) (Nat.le_of_ble_eq_true rfl) (Nat.le_of_ble_eq_true rfl) (Nat.le_of_ble_eq_true rfl) dX0_init_22 (fun q_1 H hP hD hS => ?_)
  have hP : va_P Z.1 vwCl [(h0, .inr (0, [.int 0, .int 16510910, .int 0, .null, .null])), (q_1, .inl (Z.2 0, 5, .inl (fun _ => 0)))] H := hP
  have hD : va_D A [(h0, .inr (0, [.int 0, .int 16510910, .int 0, .null, .null])), (q_1, .inl (Z.2 0, 5, .inl (fun _ => 0)))] := hD
  refine W.widen (k := 1) (n := 5) (Nat.le_of_ble_eq_true rfl) (Nat.le_of_ble_eq_true rfl) ?_
  refine va_putF (D := Z.1) (ci := 0) (v := .ref q_1) (ty := .array .int) (C := RX0) (T := TX0) (N := 5) hx hb hts hin0 tyX0 tyX0_ok nmX0 hown hK hP hD hS 0 rfl rfl 3 (by decide) (hts (.fieldLink RX0 22 "HalfAsked$Folk" "kind" "[I") (List.mem_of_getElem? (i := 9) rfl)) (fun _ h9 => h9) rfl hin rfl (by decide +kernel) rfl rfl (Nat.le_of_ble_eq_true rfl) dX0_init_24 (fun H locs hP hD hS => ?_)
  have hP : va_P Z.1 vwCl [(h0, .inr (0, [.int 0, .int 16510910, .int 0, .ref q_1, .null])), (q_1, .inl (Z.2 0, 5, .inl (fun _ => 0)))] H := hP
  have hD : va_D A [(h0, .inr (0, [.int 0, .int 16510910, .int 0, .ref q_1, .null])), (q_1, .inl (Z.2 0, 5, .inl (fun _ => 0)))] := hD
  refine lv_aload_n hx hb dX0_init_27 rfl (lv_at hl 0 rfl) ?_
  refine lv_iconst (v := 5) hx hb dX0_init_28 (by decide) ?_
  refine z_newint (N' := 5) hx hb (hts (.arrayClass .int) (List.mem_of_getElem? (i := 8) rfl)) hK hP hD hS hA (by decide) (by decide) (Nat.le_of_ble_eq_true rfl) (Nat.le_of_ble_eq_true rfl) (Nat.le_of_ble_eq_true rfl) dX0_init_29 (fun q_2 H hP hD hS => ?_)
  have hP : va_P Z.1 vwCl [(h0, .inr (0, [.int 0, .int 16510910, .int 0, .ref q_1, .null])), (q_1, .inl (Z.2 0, 5, .inl (fun _ => 0))), (q_2, .inl (Z.2 0, 5, .inl (fun _ => 0)))] H := hP
  have hD : va_D A [(h0, .inr (0, [.int 0, .int 16510910, .int 0, .ref q_1, .null])), (q_1, .inl (Z.2 0, 5, .inl (fun _ => 0))), (q_2, .inl (Z.2 0, 5, .inl (fun _ => 0)))] := hD
  refine W.widen (k := 2) (n := 10) (Nat.le_of_ble_eq_true rfl) (Nat.le_of_ble_eq_true rfl) ?_
  refine va_putF (D := Z.1) (ci := 0) (v := .ref q_2) (ty := .array .int) (C := RX0) (T := TX0) (N := 5) hx hb hts hin0 tyX0 tyX0_ok nmX0 hown hK hP hD hS 0 rfl rfl 4 (by decide) (hts (.fieldLink RX0 26 "HalfAsked$Folk" "pence" "[I") (List.mem_of_getElem? (i := 10) rfl)) (fun _ h9 => h9) rfl hin rfl (by decide +kernel) rfl rfl (Nat.le_of_ble_eq_true rfl) dX0_init_31 (fun H locs hP hD hS => ?_)
  have hP : va_P Z.1 vwCl [(h0, .inr (0, [.int 0, .int 16510910, .int 0, .ref q_1, .ref q_2])), (q_1, .inl (Z.2 0, 5, .inl (fun _ => 0))), (q_2, .inl (Z.2 0, 5, .inl (fun _ => 0)))] H := hP
  have hD : va_D A [(h0, .inr (0, [.int 0, .int 16510910, .int 0, .ref q_1, .ref q_2])), (q_1, .inl (Z.2 0, 5, .inl (fun _ => 0))), (q_2, .inl (Z.2 0, 5, .inl (fun _ => 0)))] := hD
  have hP9 := hP.sub (ws' := [(h0, .inr (0, [.int 0, .int 16510910, .int 0, .ref q_1, .ref q_2])), (q_1, .inl (Z.2 0, 5, .inl (fun _ => 0))), (q_2, .inl (Z.2 0, 5, .inl (fun _ => 0)))]) [0, 1, 2] rfl
  have hD9 := hD.sub (ws' := [(h0, .inr (0, [.int 0, .int 16510910, .int 0, .ref q_1, .ref q_2])), (q_1, .inl (Z.2 0, 5, .inl (fun _ => 0))), (q_2, .inl (Z.2 0, 5, .inl (fun _ => 0)))]) [0, 1, 2] (by decide +kernel) rfl
  exact W.vret hx hb hr (fun t9 ht hW => ⟨⟨(q_1, q_2), rfl, trivial, by rw [ht]; exact hP9, hD9⟩, hS.F ht⟩) hS.2.2 dX0_init_34
set_option maxHeartbeats 4000000 in
set_option maxRecDepth 100000 in
theorem c_X2_init (l : Launch) (Z : gZ) (sz : Nat) (h0 : Nat)  : Met l yX2_init wsX2_init ({ frames := 1, cells := 2, slots := 16, locals := 28 }) (va_Pc [.ref h0] (fun U => U.heap.size = sz ∧ va_P Z.1 vwCl [(h0, .inr (2, [.int 0, .int 0, .null, .null]))] U.heap ∧ va_K Z.1 vwCl (gT Z) U ∧ va_D (fun _ => True) [(h0, .inr (2, [.int 0, .int 0, .null, .null]))])) (va_Qv (fun (u : Nat × Nat) => match u with | (k, q) => True) (fun (u : Nat × Nat) (t9 : State) => match u with | (k, q) => va_P Z.1 vwCl [(h0, .inr (2, [.int 0, .int 0, .ref k, .ref q])), (k, .inl (Z.2 0, 8, .inl (fun _ => 0))), (q, .inl (Z.2 0, 8, .inl (fun _ => 0)))] t9.heap ∧ va_D (va_A [(h0, .inr (2, [.int 0, .int 0, .null, .null]))] sz) [(h0, .inr (2, [.int 0, .int 0, .ref k, .ref q])), (k, .inl (Z.2 0, 8, .inl (fun _ => 0))), (q, .inl (Z.2 0, 8, .inl (fun _ => 0)))]) (va_A [(h0, .inr (2, [.int 0, .int 0, .null, .null]))] sz)) 2 16 (va_A [(h0, .inr (2, [.int 0, .int 0, .null, .null]))] sz) := by
  refine Met.ofW (cc := cX2_init) (maxL := 1) (ret := none) (by decide) rfl ?_
  intro p e s m args below meth c s₁ B hml hv
  obtain ⟨rfl, hsz, hP, hK, hD0⟩ := hv
  have hx := B.exec
  have hb := B.bytes
  have hr := B.returns
  have hts := atoms_spec (ws := wsX2_init) B.pre
  have hown : s.vm.findClass RX2 = some m.cls := findClass_of_methodNamed B.named
  have hlocks := B.notSynchronized
  have hin : meth.name = "<init>" := (name_of_methodNamed B.named B.method).1
  subst hsz
  have hin2 : ∀ w ∈ wsX20, w ∈ wsX2_init := fun w h9 => (List.mem_cons_of_mem _ (List.mem_append_right _ h9))
  have hD := hD0.self (sz := s.heap.size)
  generalize hAe : va_A [(h0, .inr (2, [.int 0, .int 0, .null, .null]))] s.heap.size = A at hD ⊢
  have hA : ∀ q : Nat, s.heap.size ≤ q → A q := fun q h => by rw [← hAe]; exact Or.inr h
  have hS : va_S A s.heap s.heap [] := va_S.rf
  have hP : va_P Z.1 vwCl [(h0, .inr (2, [.int 0, .int 0, .null, .null]))] s.heap := hP
  have hl := lv_entry ([.ref h0]) (n := 1) (Nat.le_of_ble_eq_true rfl)
  rw [lg_entry_eq]
  generalize (lg_sl ([.ref h0]) ++ List.replicate (1 - (lg_sl ([.ref h0])).length) Slot.unset).toArray = ls at hl ⊢
  have hl : lv_has ls 1 [(0, .ref h0)] := hl
  refine lv_aload_n hx hb dX2_init_0 rfl (lv_at hl 0 rfl) ?_
  refine W.objInit hx hb hown (hts (.methodLink RX2 3 objectInit) (List.mem_of_getElem? (i := 1) rfl)) (hts (.instanceMethod objectInit) (List.mem_of_getElem? (i := 2) rfl)) (hts (.code objectInit ⟨#[0xb1]⟩ 1 none) (List.mem_of_getElem? (i := 3) rfl)) rfl (by rw [hml]; exact hl.1) rfl dX2_init_1 (Nat.le_of_ble_eq_true rfl) (Nat.le_of_ble_eq_true rfl) ?_
  refine W.eq (g2 := F0 m 4 ls []) rfl ?_
  refine lv_aload_n hx hb dX2_init_4 rfl (lv_at hl 0 rfl) ?_
  refine lv_iconst (v := 0) hx hb dX2_init_5 (by decide) ?_
  refine va_put (D := Z.1) (ci := 2) (v := .int 0) (ty := .int) (C := RX2) (T := TX2) (N := 4) hx hb hts hin2 tyX2 tyX2_ok nmX2 hown hK hP hD hS 0 rfl rfl 0 (by decide) (hts (.fieldLink RX2 9 "HalfAsked$Plan" "size" "I") (List.mem_of_getElem? (i := 4) rfl)) (fun _ h9 => h9) rfl (by decide +kernel) rfl rfl (Nat.le_of_ble_eq_true rfl) dX2_init_6 (fun H locs hP hD hS => ?_)
  have hP : va_P Z.1 vwCl [(h0, .inr (2, [.int 0, .int 0, .null, .null]))] H := hP
  have hD : va_D A [(h0, .inr (2, [.int 0, .int 0, .null, .null]))] := hD
  refine lv_aload_n hx hb dX2_init_9 rfl (lv_at hl 0 rfl) ?_
  refine lv_iconst (v := 0) hx hb dX2_init_10 (by decide) ?_
  refine va_put (D := Z.1) (ci := 2) (v := .int 0) (ty := .int) (C := RX2) (T := TX2) (N := 4) hx hb hts hin2 tyX2 tyX2_ok nmX2 hown hK hP hD hS 0 rfl rfl 1 (by decide) (hts (.fieldLink RX2 15 "HalfAsked$Plan" "ends" "I") (List.mem_of_getElem? (i := 5) rfl)) (fun _ h9 => h9) rfl (by decide +kernel) rfl rfl (Nat.le_of_ble_eq_true rfl) dX2_init_11 (fun H locs hP hD hS => ?_)
  have hP : va_P Z.1 vwCl [(h0, .inr (2, [.int 0, .int 0, .null, .null]))] H := hP
  have hD : va_D A [(h0, .inr (2, [.int 0, .int 0, .null, .null]))] := hD
  refine lv_aload_n hx hb dX2_init_14 rfl (lv_at hl 0 rfl) ?_
  refine lv_bipush (v := 8) hx hb dX2_init_15 (by decide) ?_
  refine z_newint (N' := 8) hx hb (hts (.arrayClass .int) (List.mem_of_getElem? (i := 6) rfl)) hK hP hD hS hA (by decide) (by decide) (Nat.le_of_ble_eq_true rfl) (Nat.le_of_ble_eq_true rfl) (Nat.le_of_ble_eq_true rfl) dX2_init_17 (fun q_1 H hP hD hS => ?_)
  have hP : va_P Z.1 vwCl [(h0, .inr (2, [.int 0, .int 0, .null, .null])), (q_1, .inl (Z.2 0, 8, .inl (fun _ => 0)))] H := hP
  have hD : va_D A [(h0, .inr (2, [.int 0, .int 0, .null, .null])), (q_1, .inl (Z.2 0, 8, .inl (fun _ => 0)))] := hD
  refine W.widen (k := 1) (n := 8) (Nat.le_of_ble_eq_true rfl) (Nat.le_of_ble_eq_true rfl) ?_
  refine va_putF (D := Z.1) (ci := 2) (v := .ref q_1) (ty := .array .int) (C := RX2) (T := TX2) (N := 4) hx hb hts hin2 tyX2 tyX2_ok nmX2 hown hK hP hD hS 0 rfl rfl 2 (by decide) (hts (.fieldLink RX2 18 "HalfAsked$Plan" "by" "[I") (List.mem_of_getElem? (i := 7) rfl)) (fun _ h9 => h9) rfl hin rfl (by decide +kernel) rfl rfl (Nat.le_of_ble_eq_true rfl) dX2_init_19 (fun H locs hP hD hS => ?_)
  have hP : va_P Z.1 vwCl [(h0, .inr (2, [.int 0, .int 0, .ref q_1, .null])), (q_1, .inl (Z.2 0, 8, .inl (fun _ => 0)))] H := hP
  have hD : va_D A [(h0, .inr (2, [.int 0, .int 0, .ref q_1, .null])), (q_1, .inl (Z.2 0, 8, .inl (fun _ => 0)))] := hD
  refine lv_aload_n hx hb dX2_init_22 rfl (lv_at hl 0 rfl) ?_
  refine lv_bipush (v := 8) hx hb dX2_init_23 (by decide) ?_
  refine z_newint (N' := 8) hx hb (hts (.arrayClass .int) (List.mem_of_getElem? (i := 6) rfl)) hK hP hD hS hA (by decide) (by decide) (Nat.le_of_ble_eq_true rfl) (Nat.le_of_ble_eq_true rfl) (Nat.le_of_ble_eq_true rfl) dX2_init_25 (fun q_2 H hP hD hS => ?_)
  have hP : va_P Z.1 vwCl [(h0, .inr (2, [.int 0, .int 0, .ref q_1, .null])), (q_1, .inl (Z.2 0, 8, .inl (fun _ => 0))), (q_2, .inl (Z.2 0, 8, .inl (fun _ => 0)))] H := hP
  have hD : va_D A [(h0, .inr (2, [.int 0, .int 0, .ref q_1, .null])), (q_1, .inl (Z.2 0, 8, .inl (fun _ => 0))), (q_2, .inl (Z.2 0, 8, .inl (fun _ => 0)))] := hD
  refine W.widen (k := 2) (n := 16) (Nat.le_of_ble_eq_true rfl) (Nat.le_of_ble_eq_true rfl) ?_
  refine va_putF (D := Z.1) (ci := 2) (v := .ref q_2) (ty := .array .int) (C := RX2) (T := TX2) (N := 4) hx hb hts hin2 tyX2 tyX2_ok nmX2 hown hK hP hD hS 0 rfl rfl 3 (by decide) (hts (.fieldLink RX2 22 "HalfAsked$Plan" "of" "[I") (List.mem_of_getElem? (i := 8) rfl)) (fun _ h9 => h9) rfl hin rfl (by decide +kernel) rfl rfl (Nat.le_of_ble_eq_true rfl) dX2_init_27 (fun H locs hP hD hS => ?_)
  have hP : va_P Z.1 vwCl [(h0, .inr (2, [.int 0, .int 0, .ref q_1, .ref q_2])), (q_1, .inl (Z.2 0, 8, .inl (fun _ => 0))), (q_2, .inl (Z.2 0, 8, .inl (fun _ => 0)))] H := hP
  have hD : va_D A [(h0, .inr (2, [.int 0, .int 0, .ref q_1, .ref q_2])), (q_1, .inl (Z.2 0, 8, .inl (fun _ => 0))), (q_2, .inl (Z.2 0, 8, .inl (fun _ => 0)))] := hD
  have hP9 := hP.sub (ws' := [(h0, .inr (2, [.int 0, .int 0, .ref q_1, .ref q_2])), (q_1, .inl (Z.2 0, 8, .inl (fun _ => 0))), (q_2, .inl (Z.2 0, 8, .inl (fun _ => 0)))]) [0, 1, 2] rfl
  have hD9 := hD.sub (ws' := [(h0, .inr (2, [.int 0, .int 0, .ref q_1, .ref q_2])), (q_1, .inl (Z.2 0, 8, .inl (fun _ => 0))), (q_2, .inl (Z.2 0, 8, .inl (fun _ => 0)))]) [0, 1, 2] (by decide +kernel) rfl
  exact W.vret hx hb hr (fun t9 ht hW => ⟨⟨(q_1, q_2), rfl, trivial, by rw [ht]; exact hP9, hD9⟩, hS.F ht⟩) hS.2.2 dX2_init_30
set_option maxHeartbeats 4000000 in
set_option maxRecDepth 100000 in
theorem c_X5_init (l : Launch) (Z : gZ) (sz : Nat) (h0 : Nat)  : Met l yX5_init wsX5_init ({ frames := 1, cells := 1, slots := 80, locals := 28 }) (va_Pc [.ref h0] (fun U => U.heap.size = sz ∧ va_P Z.1 vwCl [(h0, .inr (5, [.int 0, .int 0, .null]))] U.heap ∧ va_K Z.1 vwCl (gT Z) U ∧ va_D (fun _ => True) [(h0, .inr (5, [.int 0, .int 0, .null]))])) (va_Qv (fun (u : Nat) => match u with | k => True) (fun (u : Nat) (t9 : State) => match u with | k => va_P Z.1 vwCl [(h0, .inr (5, [.int 0, .int 0, .ref k])), (k, .inl (Z.2 1, 80, .inl (fun _ => 0)))] t9.heap ∧ va_D (va_A [(h0, .inr (5, [.int 0, .int 0, .null]))] sz) [(h0, .inr (5, [.int 0, .int 0, .ref k])), (k, .inl (Z.2 1, 80, .inl (fun _ => 0)))]) (va_A [(h0, .inr (5, [.int 0, .int 0, .null]))] sz)) 1 80 (va_A [(h0, .inr (5, [.int 0, .int 0, .null]))] sz) := by
  refine Met.ofW (cc := cX5_init) (maxL := 1) (ret := none) (by decide) rfl ?_
  intro p e s m args below meth c s₁ B hml hv
  obtain ⟨rfl, hsz, hP, hK, hD0⟩ := hv
  have hx := B.exec
  have hb := B.bytes
  have hr := B.returns
  have hts := atoms_spec (ws := wsX5_init) B.pre
  have hown : s.vm.findClass RX5 = some m.cls := findClass_of_methodNamed B.named
  have hlocks := B.notSynchronized
  have hin : meth.name = "<init>" := (name_of_methodNamed B.named B.method).1
  subst hsz
  have hin5 : ∀ w ∈ wsX50, w ∈ wsX5_init := fun w h9 => (List.mem_cons_of_mem _ (List.mem_append_right _ h9))
  have hD := hD0.self (sz := s.heap.size)
  generalize hAe : va_A [(h0, .inr (5, [.int 0, .int 0, .null]))] s.heap.size = A at hD ⊢
  have hA : ∀ q : Nat, s.heap.size ≤ q → A q := fun q h => by rw [← hAe]; exact Or.inr h
  have hS : va_S A s.heap s.heap [] := va_S.rf
  have hP : va_P Z.1 vwCl [(h0, .inr (5, [.int 0, .int 0, .null]))] s.heap := hP
  have hl := lv_entry ([.ref h0]) (n := 1) (Nat.le_of_ble_eq_true rfl)
  rw [lg_entry_eq]
  generalize (lg_sl ([.ref h0]) ++ List.replicate (1 - (lg_sl ([.ref h0])).length) Slot.unset).toArray = ls at hl ⊢
  have hl : lv_has ls 1 [(0, .ref h0)] := hl
  refine lv_aload_n hx hb dX5_init_0 rfl (lv_at hl 0 rfl) ?_
  refine W.objInit hx hb hown (hts (.methodLink RX5 3 objectInit) (List.mem_of_getElem? (i := 1) rfl)) (hts (.instanceMethod objectInit) (List.mem_of_getElem? (i := 2) rfl)) (hts (.code objectInit ⟨#[0xb1]⟩ 1 none) (List.mem_of_getElem? (i := 3) rfl)) rfl (by rw [hml]; exact hl.1) rfl dX5_init_1 (Nat.le_of_ble_eq_true rfl) (Nat.le_of_ble_eq_true rfl) ?_
  refine W.eq (g2 := F0 m 4 ls []) rfl ?_
  refine lv_aload_n hx hb dX5_init_4 rfl (lv_at hl 0 rfl) ?_
  refine lv_iconst (v := 0) hx hb dX5_init_5 (by decide) ?_
  refine va_put (D := Z.1) (ci := 5) (v := .int 0) (ty := .int) (C := RX5) (T := TX5) (N := 3) hx hb hts hin5 tyX5 tyX5_ok nmX5 hown hK hP hD hS 0 rfl rfl 0 (by decide) (hts (.fieldLink RX5 9 "HalfAsked$Tape" "size" "I") (List.mem_of_getElem? (i := 4) rfl)) (fun _ h9 => h9) rfl (by decide +kernel) rfl rfl (Nat.le_of_ble_eq_true rfl) dX5_init_6 (fun H locs hP hD hS => ?_)
  have hP : va_P Z.1 vwCl [(h0, .inr (5, [.int 0, .int 0, .null]))] H := hP
  have hD : va_D A [(h0, .inr (5, [.int 0, .int 0, .null]))] := hD
  refine lv_aload_n hx hb dX5_init_9 rfl (lv_at hl 0 rfl) ?_
  refine lv_iconst (v := 0) hx hb dX5_init_10 (by decide) ?_
  refine va_put (D := Z.1) (ci := 5) (v := .int 0) (ty := .int) (C := RX5) (T := TX5) (N := 3) hx hb hts hin5 tyX5 tyX5_ok nmX5 hown hK hP hD hS 0 rfl rfl 1 (by decide) (hts (.fieldLink RX5 15 "HalfAsked$Tape" "at" "I") (List.mem_of_getElem? (i := 5) rfl)) (fun _ h9 => h9) rfl (by decide +kernel) rfl rfl (Nat.le_of_ble_eq_true rfl) dX5_init_11 (fun H locs hP hD hS => ?_)
  have hP : va_P Z.1 vwCl [(h0, .inr (5, [.int 0, .int 0, .null]))] H := hP
  have hD : va_D A [(h0, .inr (5, [.int 0, .int 0, .null]))] := hD
  refine lv_aload_n hx hb dX5_init_14 rfl (lv_at hl 0 rfl) ?_
  refine lv_bipush (v := 80) hx hb dX5_init_15 (by decide) ?_
  refine z_newchar (N' := 80) hx hb (hts (.arrayClass .char) (List.mem_of_getElem? (i := 6) rfl)) hK hP hD hS hA (by decide) (by decide) (Nat.le_of_ble_eq_true rfl) (Nat.le_of_ble_eq_true rfl) (Nat.le_of_ble_eq_true rfl) dX5_init_17 (fun q_1 H hP hD hS => ?_)
  have hP : va_P Z.1 vwCl [(h0, .inr (5, [.int 0, .int 0, .null])), (q_1, .inl (Z.2 1, 80, .inl (fun _ => 0)))] H := hP
  have hD : va_D A [(h0, .inr (5, [.int 0, .int 0, .null])), (q_1, .inl (Z.2 1, 80, .inl (fun _ => 0)))] := hD
  refine W.widen (k := 1) (n := 80) (Nat.le_of_ble_eq_true rfl) (Nat.le_of_ble_eq_true rfl) ?_
  refine va_putF (D := Z.1) (ci := 5) (v := .ref q_1) (ty := .array .char) (C := RX5) (T := TX5) (N := 3) hx hb hts hin5 tyX5 tyX5_ok nmX5 hown hK hP hD hS 0 rfl rfl 2 (by decide) (hts (.fieldLink RX5 18 "HalfAsked$Tape" "signs" "[C") (List.mem_of_getElem? (i := 7) rfl)) (fun _ h9 => h9) rfl hin rfl (by decide +kernel) rfl rfl (Nat.le_of_ble_eq_true rfl) dX5_init_19 (fun H locs hP hD hS => ?_)
  have hP : va_P Z.1 vwCl [(h0, .inr (5, [.int 0, .int 0, .ref q_1])), (q_1, .inl (Z.2 1, 80, .inl (fun _ => 0)))] H := hP
  have hD : va_D A [(h0, .inr (5, [.int 0, .int 0, .ref q_1])), (q_1, .inl (Z.2 1, 80, .inl (fun _ => 0)))] := hD
  have hP9 := hP.sub (ws' := [(h0, .inr (5, [.int 0, .int 0, .ref q_1])), (q_1, .inl (Z.2 1, 80, .inl (fun _ => 0)))]) [0, 1] rfl
  have hD9 := hD.sub (ws' := [(h0, .inr (5, [.int 0, .int 0, .ref q_1])), (q_1, .inl (Z.2 1, 80, .inl (fun _ => 0)))]) [0, 1] (by decide +kernel) rfl
  exact W.vret hx hb hr (fun t9 ht hW => ⟨⟨q_1, rfl, trivial, by rw [ht]; exact hP9, hD9⟩, hS.F ht⟩) hS.2.2 dX5_init_22
set_option maxHeartbeats 4000000 in
set_option maxRecDepth 100000 in
theorem c_X8_isSum (l : Launch) (Z : gZ) (sz : Nat) (a : Int32)  : Met l yX8_isSum wsX8_isSum ({ frames := 0, cells := 0, slots := 0, locals := 0 }) (va_Pc [.int a] (fun U => U.heap.size = sz ∧ va_P Z.1 vwCl [] U.heap ∧ va_K Z.1 vwCl (gT Z) U ∧ va_D (fun _ => True) [])) (va_Qi (fun (r : Int32) (u : Unit) => r = (if a < 0 then (0 : Int32) else (if 9999 < a then (0 : Int32) else (1 : Int32)))) (fun (u : Unit) (t9 : State) => True) (va_A [] sz)) 0 0 (va_A [] sz) := by
  refine Met.ofW (cc := cX8_isSum) (maxL := 1) (ret := (some .boolean)) (by decide) rfl ?_
  intro p e s m args below meth c s₁ B hml hv
  obtain ⟨rfl, hsz, hP, hK, hD0⟩ := hv
  have hx := B.exec
  have hb := B.bytes
  have hr := B.returns
  have hts := atoms_spec (ws := wsX8_isSum) B.pre
  have hown : s.vm.findClass RX8 = some m.cls := findClass_of_methodNamed B.named
  have hlocks := B.notSynchronized
  subst hsz
  have hD := hD0.self (sz := s.heap.size)
  generalize hAe : va_A [] s.heap.size = A at hD ⊢
  have hA : ∀ q : Nat, s.heap.size ≤ q → A q := fun q h => by rw [← hAe]; exact Or.inr h
  have hS : va_S A s.heap s.heap [] := va_S.rf
  have hP : va_P Z.1 vwCl [] s.heap := hP
  have hl := lv_entry ([.int a]) (n := 1) (Nat.le_of_ble_eq_true rfl)
  rw [lg_entry_eq]
  generalize (lg_sl ([.int a]) ++ List.replicate (1 - (lg_sl ([.int a])).length) Slot.unset).toArray = ls at hl ⊢
  have hl : lv_has ls 1 [(0, .int a)] := hl
  refine lv_iload_n hx hb dX8_isSum_0 rfl (lv_at hl 0 rfl) ?_
  refine lv_if_lt (tgt := 15) hx hb dX8_isSum_1 (by decide) (fun c_1 => ?_) (fun c_1 => ?_)
  · refine lv_iconst (v := 0) hx hb dX8_isSum_15 (by decide) ?_
    exact W.zret (v := 0) hx hb hr rfl (fun t9 ht hW => ⟨⟨0, (), rfl, (by rw [if_pos c_1]), trivial⟩, hS.F ht⟩) hS.2.2 dX8_isSum_16
  · refine lv_iload_n hx hb dX8_isSum_4 rfl (lv_at hl 0 rfl) ?_
    refine lv_sipush (v := 9999) hx hb dX8_isSum_5 (by decide) ?_
    refine lv_icmp_gt (tgt := 15) hx hb dX8_isSum_8 (by decide) (fun c_2 => ?_) (fun c_2 => ?_)
    · refine lv_iconst (v := 0) hx hb dX8_isSum_15 (by decide) ?_
      exact W.zret (v := 0) hx hb hr rfl (fun t9 ht hW => ⟨⟨0, (), rfl, (by rw [if_neg c_1, if_pos c_2]), trivial⟩, hS.F ht⟩) hS.2.2 dX8_isSum_16
    · refine lv_iconst (v := 1) hx hb dX8_isSum_11 (by decide) ?_
      refine lv_goto (tgt := 16) hx hb dX8_isSum_12 (by decide) ?_
      exact W.zret (v := 1) hx hb hr rfl (fun t9 ht hW => ⟨⟨1, (), rfl, (by rw [if_neg c_1, if_neg c_2]), trivial⟩, hS.F ht⟩) hS.2.2 dX8_isSum_16
set_option maxHeartbeats 4000000 in
set_option maxRecDepth 100000 in
theorem c_X8_isSheet (l : Launch) (Z : gZ) (sz : Nat) (a : Int32)  : Met l yX8_isSheet wsX8_isSheet ({ frames := 0, cells := 0, slots := 0, locals := 0 }) (va_Pc [.int a] (fun U => U.heap.size = sz ∧ va_P Z.1 vwCl [] U.heap ∧ va_K Z.1 vwCl (gT Z) U ∧ va_D (fun _ => True) [])) (va_Qi (fun (r : Int32) (u : Unit) => r = (if a < 0 then (0 : Int32) else (if 4 ≤ a then (0 : Int32) else (1 : Int32)))) (fun (u : Unit) (t9 : State) => True) (va_A [] sz)) 0 0 (va_A [] sz) := by
  refine Met.ofW (cc := cX8_isSheet) (maxL := 1) (ret := (some .boolean)) (by decide) rfl ?_
  intro p e s m args below meth c s₁ B hml hv
  obtain ⟨rfl, hsz, hP, hK, hD0⟩ := hv
  have hx := B.exec
  have hb := B.bytes
  have hr := B.returns
  have hts := atoms_spec (ws := wsX8_isSheet) B.pre
  have hown : s.vm.findClass RX8 = some m.cls := findClass_of_methodNamed B.named
  have hlocks := B.notSynchronized
  subst hsz
  have hD := hD0.self (sz := s.heap.size)
  generalize hAe : va_A [] s.heap.size = A at hD ⊢
  have hA : ∀ q : Nat, s.heap.size ≤ q → A q := fun q h => by rw [← hAe]; exact Or.inr h
  have hS : va_S A s.heap s.heap [] := va_S.rf
  have hP : va_P Z.1 vwCl [] s.heap := hP
  have hl := lv_entry ([.int a]) (n := 1) (Nat.le_of_ble_eq_true rfl)
  rw [lg_entry_eq]
  generalize (lg_sl ([.int a]) ++ List.replicate (1 - (lg_sl ([.int a])).length) Slot.unset).toArray = ls at hl ⊢
  have hl : lv_has ls 1 [(0, .int a)] := hl
  refine lv_iload_n hx hb dX8_isSheet_0 rfl (lv_at hl 0 rfl) ?_
  refine lv_if_lt (tgt := 13) hx hb dX8_isSheet_1 (by decide) (fun c_1 => ?_) (fun c_1 => ?_)
  · refine lv_iconst (v := 0) hx hb dX8_isSheet_13 (by decide) ?_
    exact W.zret (v := 0) hx hb hr rfl (fun t9 ht hW => ⟨⟨0, (), rfl, (by rw [if_pos c_1]), trivial⟩, hS.F ht⟩) hS.2.2 dX8_isSheet_14
  · refine lv_iload_n hx hb dX8_isSheet_4 rfl (lv_at hl 0 rfl) ?_
    refine lv_iconst (v := 4) hx hb dX8_isSheet_5 (by decide) ?_
    refine lv_icmp_ge (tgt := 13) hx hb dX8_isSheet_6 (by decide) (fun c_2 => ?_) (fun c_2 => ?_)
    · refine lv_iconst (v := 0) hx hb dX8_isSheet_13 (by decide) ?_
      exact W.zret (v := 0) hx hb hr rfl (fun t9 ht hW => ⟨⟨0, (), rfl, (by rw [if_neg c_1, if_pos c_2]), trivial⟩, hS.F ht⟩) hS.2.2 dX8_isSheet_14
    · refine lv_iconst (v := 1) hx hb dX8_isSheet_9 (by decide) ?_
      refine lv_goto (tgt := 14) hx hb dX8_isSheet_10 (by decide) ?_
      exact W.zret (v := 1) hx hb hr rfl (fun t9 ht hW => ⟨⟨1, (), rfl, (by rw [if_neg c_1, if_neg c_2]), trivial⟩, hS.F ht⟩) hS.2.2 dX8_isSheet_14
set_option maxHeartbeats 4000000 in
set_option maxRecDepth 100000 in
theorem c_X8_isLane (l : Launch) (Z : gZ) (sz : Nat) (a : Int32)  : Met l yX8_isLane wsX8_isLane ({ frames := 0, cells := 0, slots := 0, locals := 0 }) (va_Pc [.int a] (fun U => U.heap.size = sz ∧ va_P Z.1 vwCl [] U.heap ∧ va_K Z.1 vwCl (gT Z) U ∧ va_D (fun _ => True) [])) (va_Qi (fun (r : Int32) (u : Unit) => r = (if a < 0 then (0 : Int32) else (if 3 ≤ a then (0 : Int32) else (1 : Int32)))) (fun (u : Unit) (t9 : State) => True) (va_A [] sz)) 0 0 (va_A [] sz) := by
  refine Met.ofW (cc := cX8_isLane) (maxL := 1) (ret := (some .boolean)) (by decide) rfl ?_
  intro p e s m args below meth c s₁ B hml hv
  obtain ⟨rfl, hsz, hP, hK, hD0⟩ := hv
  have hx := B.exec
  have hb := B.bytes
  have hr := B.returns
  have hts := atoms_spec (ws := wsX8_isLane) B.pre
  have hown : s.vm.findClass RX8 = some m.cls := findClass_of_methodNamed B.named
  have hlocks := B.notSynchronized
  subst hsz
  have hD := hD0.self (sz := s.heap.size)
  generalize hAe : va_A [] s.heap.size = A at hD ⊢
  have hA : ∀ q : Nat, s.heap.size ≤ q → A q := fun q h => by rw [← hAe]; exact Or.inr h
  have hS : va_S A s.heap s.heap [] := va_S.rf
  have hP : va_P Z.1 vwCl [] s.heap := hP
  have hl := lv_entry ([.int a]) (n := 1) (Nat.le_of_ble_eq_true rfl)
  rw [lg_entry_eq]
  generalize (lg_sl ([.int a]) ++ List.replicate (1 - (lg_sl ([.int a])).length) Slot.unset).toArray = ls at hl ⊢
  have hl : lv_has ls 1 [(0, .int a)] := hl
  refine lv_iload_n hx hb dX8_isLane_0 rfl (lv_at hl 0 rfl) ?_
  refine lv_if_lt (tgt := 13) hx hb dX8_isLane_1 (by decide) (fun c_1 => ?_) (fun c_1 => ?_)
  · refine lv_iconst (v := 0) hx hb dX8_isLane_13 (by decide) ?_
    exact W.zret (v := 0) hx hb hr rfl (fun t9 ht hW => ⟨⟨0, (), rfl, (by rw [if_pos c_1]), trivial⟩, hS.F ht⟩) hS.2.2 dX8_isLane_14
  · refine lv_iload_n hx hb dX8_isLane_4 rfl (lv_at hl 0 rfl) ?_
    refine lv_iconst (v := 3) hx hb dX8_isLane_5 (by decide) ?_
    refine lv_icmp_ge (tgt := 13) hx hb dX8_isLane_6 (by decide) (fun c_2 => ?_) (fun c_2 => ?_)
    · refine lv_iconst (v := 0) hx hb dX8_isLane_13 (by decide) ?_
      exact W.zret (v := 0) hx hb hr rfl (fun t9 ht hW => ⟨⟨0, (), rfl, (by rw [if_neg c_1, if_pos c_2]), trivial⟩, hS.F ht⟩) hS.2.2 dX8_isLane_14
    · refine lv_iconst (v := 1) hx hb dX8_isLane_9 (by decide) ?_
      refine lv_goto (tgt := 14) hx hb dX8_isLane_10 (by decide) ?_
      exact W.zret (v := 1) hx hb hr rfl (fun t9 ht hW => ⟨⟨1, (), rfl, (by rw [if_neg c_1, if_neg c_2]), trivial⟩, hS.F ht⟩) hS.2.2 dX8_isLane_14
def q_X0_pair_r (a : Int32) (b : Int32) : Int32 := 1 <<< (((5 * a) + b) &&& 31)
set_option maxHeartbeats 4000000 in
set_option maxRecDepth 100000 in
theorem c_X0_pair (l : Launch) (Z : gZ) (sz : Nat) (a : Int32) (b : Int32)  : Met l yX0_pair wsX0_pair ({ frames := 0, cells := 0, slots := 0, locals := 0 }) (va_Pc [.int a, .int b] (fun U => U.heap.size = sz ∧ va_P Z.1 vwCl [] U.heap ∧ va_K Z.1 vwCl (gT Z) U ∧ va_D (fun _ => True) [])) (va_Qi (fun (r : Int32) (u : Unit) => r = q_X0_pair_r a b) (fun (u : Unit) (t9 : State) => True) (va_A [] sz)) 0 0 (va_A [] sz) := by
  refine Met.ofW (cc := cX0_pair) (maxL := 2) (ret := (some .int)) (by decide) rfl ?_
  intro p e s m args below meth c s₁ B hml hv
  obtain ⟨rfl, hsz, hP, hK, hD0⟩ := hv
  have hx := B.exec
  have hb := B.bytes
  have hr := B.returns
  have hts := atoms_spec (ws := wsX0_pair) B.pre
  have hown : s.vm.findClass RX0 = some m.cls := findClass_of_methodNamed B.named
  have hlocks := B.notSynchronized
  subst hsz
  have hD := hD0.self (sz := s.heap.size)
  generalize hAe : va_A [] s.heap.size = A at hD ⊢
  have hA : ∀ q : Nat, s.heap.size ≤ q → A q := fun q h => by rw [← hAe]; exact Or.inr h
  have hS : va_S A s.heap s.heap [] := va_S.rf
  have hP : va_P Z.1 vwCl [] s.heap := hP
  have hl := lv_entry ([.int a, .int b]) (n := 2) (Nat.le_of_ble_eq_true rfl)
  rw [lg_entry_eq]
  generalize (lg_sl ([.int a, .int b]) ++ List.replicate (2 - (lg_sl ([.int a, .int b])).length) Slot.unset).toArray = ls at hl ⊢
  have hl : lv_has ls 2 [(0, .int a), (1, .int b)] := hl
  refine lv_iconst (v := 1) hx hb dX0_pair_0 (by decide) ?_
  refine lv_iconst (v := 5) hx hb dX0_pair_1 (by decide) ?_
  refine lv_iload_n hx hb dX0_pair_2 rfl (lv_at hl 0 rfl) ?_
  refine lv_imul hx hb dX0_pair_3 ?_
  refine lv_iload_n hx hb dX0_pair_4 rfl (lv_at hl 1 rfl) ?_
  refine lv_iadd hx hb dX0_pair_5 ?_
  refine lv_ishl hx hb dX0_pair_6 ?_
  exact W.iret (v := (1 <<< (((5 * a) + b) &&& 31))) hx hb hr (fun t9 ht hW => ⟨⟨1 <<< (((5 * a) + b) &&& 31), (), rfl, rfl, trivial⟩, hS.F ht⟩) hS.2.2 dX0_pair_7
set_option maxHeartbeats 4000000 in
set_option maxRecDepth 100000 in
theorem c_X0_has (l : Launch) (Z : gZ) (sz : Nat) (h0 : Nat) (v : Int32) (kn : Int32) (ak : Int32) (k : Nat) (q : Nat) (a : Int32)  : Met l yX0_has wsX0_has ({ frames := 0, cells := 0, slots := 0, locals := 0 }) (va_Pc [.ref h0, .int a] (fun U => U.heap.size = sz ∧ va_P Z.1 vwCl [(h0, .inr (0, [.int v, .int kn, .int ak, .ref k, .ref q]))] U.heap ∧ va_K Z.1 vwCl (gT Z) U ∧ va_D (fun _ => True) [(h0, .inr (0, [.int v, .int kn, .int ak, .ref k, .ref q]))])) (va_Qi (fun (r : Int32) (u : Unit) => r = (if a < 0 then (0 : Int32) else (if v ≤ a then (0 : Int32) else (1 : Int32)))) (fun (u : Unit) (t9 : State) => va_P Z.1 vwCl [(h0, .inr (0, [.int v, .int kn, .int ak, .ref k, .ref q]))] t9.heap ∧ va_D (va_A [(h0, .inr (0, [.int v, .int kn, .int ak, .ref k, .ref q]))] sz) [(h0, .inr (0, [.int v, .int kn, .int ak, .ref k, .ref q]))]) (va_A [(h0, .inr (0, [.int v, .int kn, .int ak, .ref k, .ref q]))] sz)) 0 0 (va_A [(h0, .inr (0, [.int v, .int kn, .int ak, .ref k, .ref q]))] sz) := by
  refine Met.ofW (cc := cX0_has) (maxL := 2) (ret := (some .boolean)) (by decide) rfl ?_
  intro p e s m args below meth c s₁ B hml hv
  obtain ⟨rfl, hsz, hP, hK, hD0⟩ := hv
  have hx := B.exec
  have hb := B.bytes
  have hr := B.returns
  have hts := atoms_spec (ws := wsX0_has) B.pre
  have hown : s.vm.findClass RX0 = some m.cls := findClass_of_methodNamed B.named
  have hlocks := B.notSynchronized
  subst hsz
  have hin0 : ∀ w ∈ wsX00, w ∈ wsX0_has := fun w h9 => (List.mem_cons_of_mem _ (List.mem_append_right _ h9))
  have hD := hD0.self (sz := s.heap.size)
  generalize hAe : va_A [(h0, .inr (0, [.int v, .int kn, .int ak, .ref k, .ref q]))] s.heap.size = A at hD ⊢
  have hA : ∀ q : Nat, s.heap.size ≤ q → A q := fun q h => by rw [← hAe]; exact Or.inr h
  have hS : va_S A s.heap s.heap [] := va_S.rf
  have hP : va_P Z.1 vwCl [(h0, .inr (0, [.int v, .int kn, .int ak, .ref k, .ref q]))] s.heap := hP
  have hl := lv_entry ([.ref h0, .int a]) (n := 2) (Nat.le_of_ble_eq_true rfl)
  rw [lg_entry_eq]
  generalize (lg_sl ([.ref h0, .int a]) ++ List.replicate (2 - (lg_sl ([.ref h0, .int a])).length) Slot.unset).toArray = ls at hl ⊢
  have hl : lv_has ls 2 [(0, .ref h0), (1, .int a)] := hl
  refine lv_iload_n hx hb dX0_has_0 rfl (lv_at hl 1 rfl) ?_
  refine lv_if_lt (tgt := 16) hx hb dX0_has_1 (by decide) (fun c_1 => ?_) (fun c_1 => ?_)
  · refine lv_iconst (v := 0) hx hb dX0_has_16 (by decide) ?_
    have hP9 := hP.sub (ws' := [(h0, .inr (0, [.int v, .int kn, .int ak, .ref k, .ref q]))]) [0] rfl
    have hD9 := hD.sub (ws' := [(h0, .inr (0, [.int v, .int kn, .int ak, .ref k, .ref q]))]) [0] (by decide +kernel) rfl
    exact W.zret (v := 0) hx hb hr rfl (fun t9 ht hW => ⟨⟨0, (), rfl, (by rw [if_pos c_1]), by rw [ht]; exact hP9, hD9⟩, hS.F ht⟩) hS.2.2 dX0_has_17
  · refine lv_iload_n hx hb dX0_has_4 rfl (lv_at hl 1 rfl) ?_
    refine lv_aload_n hx hb dX0_has_5 rfl (lv_at hl 0 rfl) ?_
    refine va_get (D := Z.1) (ci := 0) (v := .int v) (C := RX0) (T := TX0) (N := 5) hx hb hts hin0 hown hK hP 0 rfl rfl 0 (by decide) (hts (.fieldLink RX0 9 "HalfAsked$Folk" "size" "I") (List.mem_of_getElem? (i := 1) rfl)) (fun _ h9 => h9) rfl dX0_has_6 ?_
    refine lv_icmp_ge (tgt := 16) hx hb dX0_has_9 (by decide) (fun c_2 => ?_) (fun c_2 => ?_)
    · refine lv_iconst (v := 0) hx hb dX0_has_16 (by decide) ?_
      have hP9 := hP.sub (ws' := [(h0, .inr (0, [.int v, .int kn, .int ak, .ref k, .ref q]))]) [0] rfl
      have hD9 := hD.sub (ws' := [(h0, .inr (0, [.int v, .int kn, .int ak, .ref k, .ref q]))]) [0] (by decide +kernel) rfl
      exact W.zret (v := 0) hx hb hr rfl (fun t9 ht hW => ⟨⟨0, (), rfl, (by rw [if_neg c_1, if_pos c_2]), by rw [ht]; exact hP9, hD9⟩, hS.F ht⟩) hS.2.2 dX0_has_17
    · refine lv_iconst (v := 1) hx hb dX0_has_12 (by decide) ?_
      refine lv_goto (tgt := 17) hx hb dX0_has_13 (by decide) ?_
      have hP9 := hP.sub (ws' := [(h0, .inr (0, [.int v, .int kn, .int ak, .ref k, .ref q]))]) [0] rfl
      have hD9 := hD.sub (ws' := [(h0, .inr (0, [.int v, .int kn, .int ak, .ref k, .ref q]))]) [0] (by decide +kernel) rfl
      exact W.zret (v := 1) hx hb hr rfl (fun t9 ht hW => ⟨⟨1, (), rfl, (by rw [if_neg c_1, if_neg c_2]), by rw [ht]; exact hP9, hD9⟩, hS.F ht⟩) hS.2.2 dX0_has_17
set_option maxHeartbeats 4000000 in
set_option maxRecDepth 100000 in
theorem c_X0_isPair (l : Launch) (Z : gZ) (sz : Nat) (h0 : Nat) (v : Int32) (kn : Int32) (ak : Int32) (k : Nat) (q : Nat) (a : Int32) (b : Int32)  : Met l yX0_isPair wsX0_isPair ({ frames := 1, cells := 0, slots := 0, locals := 21 }) (va_Pc [.ref h0, .int a, .int b] (fun U => U.heap.size = sz ∧ va_P Z.1 vwCl [(h0, .inr (0, [.int v, .int kn, .int ak, .ref k, .ref q]))] U.heap ∧ va_K Z.1 vwCl (gT Z) U ∧ va_D (fun _ => True) [(h0, .inr (0, [.int v, .int kn, .int ak, .ref k, .ref q]))])) (va_Qi (fun (r : Int32) (u : Unit) => r = (if (if a < 0 then (0 : Int32) else (if v ≤ a then (0 : Int32) else (1 : Int32))) = 0 then (0 : Int32) else (if (if b < 0 then (0 : Int32) else (if v ≤ b then (0 : Int32) else (1 : Int32))) = 0 then (0 : Int32) else (if a = b then (0 : Int32) else (1 : Int32))))) (fun (u : Unit) (t9 : State) => va_P Z.1 vwCl [(h0, .inr (0, [.int v, .int kn, .int ak, .ref k, .ref q]))] t9.heap ∧ va_D (va_A [(h0, .inr (0, [.int v, .int kn, .int ak, .ref k, .ref q]))] sz) [(h0, .inr (0, [.int v, .int kn, .int ak, .ref k, .ref q]))]) (va_A [(h0, .inr (0, [.int v, .int kn, .int ak, .ref k, .ref q]))] sz)) 0 0 (va_A [(h0, .inr (0, [.int v, .int kn, .int ak, .ref k, .ref q]))] sz) := by
  refine Met.ofW (cc := cX0_isPair) (maxL := 3) (ret := (some .boolean)) (by decide) rfl ?_
  intro p e s m args below meth c s₁ B hml hv
  obtain ⟨rfl, hsz, hP, hK, hD0⟩ := hv
  have hx := B.exec
  have hb := B.bytes
  have hr := B.returns
  have hts := atoms_spec (ws := wsX0_isPair) B.pre
  have hown : s.vm.findClass RX0 = some m.cls := findClass_of_methodNamed B.named
  have hlocks := B.notSynchronized
  subst hsz
  have hD := hD0.self (sz := s.heap.size)
  generalize hAe : va_A [(h0, .inr (0, [.int v, .int kn, .int ak, .ref k, .ref q]))] s.heap.size = A at hD ⊢
  have hA : ∀ q : Nat, s.heap.size ≤ q → A q := fun q h => by rw [← hAe]; exact Or.inr h
  have hS : va_S A s.heap s.heap [] := va_S.rf
  have hP : va_P Z.1 vwCl [(h0, .inr (0, [.int v, .int kn, .int ak, .ref k, .ref q]))] s.heap := hP
  have hl := lv_entry ([.ref h0, .int a, .int b]) (n := 3) (Nat.le_of_ble_eq_true rfl)
  rw [lg_entry_eq]
  generalize (lg_sl ([.ref h0, .int a, .int b]) ++ List.replicate (3 - (lg_sl ([.ref h0, .int a, .int b])).length) Slot.unset).toArray = ls at hl ⊢
  have hl : lv_has ls 3 [(0, .ref h0), (1, .int a), (2, .int b)] := hl
  refine lv_aload_n hx hb dX0_isPair_0 rfl (lv_at hl 0 rfl) ?_
  refine lv_iload_n hx hb dX0_isPair_1 rfl (lv_at hl 1 rfl) ?_
  have hPc := hP.sub (ws' := [(h0, .inr (0, [.int v, .int kn, .int ak, .ref k, .ref q]))]) [0] rfl
  have hDc := hD.sub (ws' := [(h0, .inr (0, [.int v, .int kn, .int ak, .ref k, .ref q]))]) [0] (by decide +kernel) rfl
  have hFc := va_free (wc := [(h0, .inr (0, [.int v, .int kn, .int ak, .ref k, .ref q]))]) hD hS hA [0] rfl
  refine va_calli (va_runV (As := [.int a]) (rest := []) ⟨hx, hb, hml, hown, hts⟩ (c_X0_has l Z s.heap.size h0 v kn ak k q a) (cwV 1 hts gX0_isPair_X0_has rfl rfl rfl (by decide +kernel) ⟨Nat.le_of_ble_eq_true rfl, Nat.le_of_ble_eq_true rfl⟩) ⟨fun a U g mk q => by obtain ⟨q0, q1, qP, qK, qD⟩ := q; exact ⟨q0, q1, qP, va_K.moved (u := U) (U := U.calling g mk a) (Vm.Alike.refl U.vm) qK, qD⟩, va_recv hK hPc (ci := 0) (q0 := 0) rfl rfl, fun U hU hW => ⟨rfl, by rw [hU], by rw [hU]; exact hPc, va_K.moved hW.alike hK, hDc.weaken (fun _ _ _ _ => trivial)⟩⟩ rfl rfl hl.1 rfl (lv_room (Nat.le_of_ble_eq_true rfl)) dX0_isPair_2 ⟨Nat.le_of_ble_eq_true rfl, Nat.le_of_ble_eq_true rfl⟩) hS (fun q _ h => hFc q h) hFc (fun r_1 u t9 H1 locs ht hvm hw hB hz1 hk1 hS => ?_)
  have hw9 := hw.symm
  clear hw
  subst hw9
  obtain ⟨hP1, hD1⟩ := hB
  rw [ht] at hP1
  obtain ⟨hP, hD⟩ := va_join (wr := []) (w1 := [(h0, .inr (0, [.int v, .int kn, .int ak, .ref k, .ref q]))]) hP hD [0] [] rfl rfl (by decide +kernel) (by decide +kernel) hk1 hFc hP1 hD1
  clear hPc hDc hP1 hD1 hk1 hz1 hFc ht hvm
  generalize H1 = H at hP hS ⊢
  have hP : va_P Z.1 vwCl [(h0, .inr (0, [.int v, .int kn, .int ak, .ref k, .ref q]))] H := hP
  have hD : va_D A [(h0, .inr (0, [.int v, .int kn, .int ak, .ref k, .ref q]))] := hD
  refine lv_if_eq (tgt := 25) hx hb dX0_isPair_5 (by decide) (fun c_2 => ?_) (fun c_2 => ?_)
  · refine lv_iconst (v := 0) hx hb dX0_isPair_25 (by decide) ?_
    have hP9 := hP.sub (ws' := [(h0, .inr (0, [.int v, .int kn, .int ak, .ref k, .ref q]))]) [0] rfl
    have hD9 := hD.sub (ws' := [(h0, .inr (0, [.int v, .int kn, .int ak, .ref k, .ref q]))]) [0] (by decide +kernel) rfl
    exact W.zret (v := 0) hx hb hr rfl (fun t9 ht hW => ⟨⟨0, (), rfl, (by rw [if_pos c_2]), by rw [ht]; exact hP9, hD9⟩, hS.F ht⟩) hS.2.2 dX0_isPair_26
  · refine lv_aload_n hx hb dX0_isPair_8 rfl (lv_at hl 0 rfl) ?_
    refine lv_iload_n hx hb dX0_isPair_9 rfl (lv_at hl 2 rfl) ?_
    have hPc := hP.sub (ws' := [(h0, .inr (0, [.int v, .int kn, .int ak, .ref k, .ref q]))]) [0] rfl
    have hDc := hD.sub (ws' := [(h0, .inr (0, [.int v, .int kn, .int ak, .ref k, .ref q]))]) [0] (by decide +kernel) rfl
    have hFc := va_free (wc := [(h0, .inr (0, [.int v, .int kn, .int ak, .ref k, .ref q]))]) hD hS hA [0] rfl
    refine va_calli (va_runV (As := [.int b]) (rest := []) ⟨hx, hb, hml, hown, hts⟩ (c_X0_has l Z H.size h0 v kn ak k q b) (cwV 1 hts gX0_isPair_X0_has rfl rfl rfl (by decide +kernel) ⟨Nat.le_of_ble_eq_true rfl, Nat.le_of_ble_eq_true rfl⟩) ⟨fun a U g mk q => by obtain ⟨q0, q1, qP, qK, qD⟩ := q; exact ⟨q0, q1, qP, va_K.moved (u := U) (U := U.calling g mk a) (Vm.Alike.refl U.vm) qK, qD⟩, va_recv hK hPc (ci := 0) (q0 := 0) rfl rfl, fun U hU hW => ⟨rfl, by rw [hU], by rw [hU]; exact hPc, va_K.moved hW.alike hK, hDc.weaken (fun _ _ _ _ => trivial)⟩⟩ rfl rfl hl.1 rfl (lv_room (Nat.le_of_ble_eq_true rfl)) dX0_isPair_10 ⟨Nat.le_of_ble_eq_true rfl, Nat.le_of_ble_eq_true rfl⟩) hS (fun q _ h => hFc q h) hFc (fun r_3 u t9 H1 locs ht hvm hw hB hz1 hk1 hS => ?_)
    have hw9 := hw.symm
    clear hw
    subst hw9
    obtain ⟨hP1, hD1⟩ := hB
    rw [ht] at hP1
    obtain ⟨hP, hD⟩ := va_join (wr := []) (w1 := [(h0, .inr (0, [.int v, .int kn, .int ak, .ref k, .ref q]))]) hP hD [0] [] rfl rfl (by decide +kernel) (by decide +kernel) hk1 hFc hP1 hD1
    clear hPc hDc hP1 hD1 hk1 hz1 hFc ht hvm
    generalize H1 = H at hP hS ⊢
    have hP : va_P Z.1 vwCl [(h0, .inr (0, [.int v, .int kn, .int ak, .ref k, .ref q]))] H := hP
    have hD : va_D A [(h0, .inr (0, [.int v, .int kn, .int ak, .ref k, .ref q]))] := hD
    refine lv_if_eq (tgt := 25) hx hb dX0_isPair_13 (by decide) (fun c_4 => ?_) (fun c_4 => ?_)
    · refine lv_iconst (v := 0) hx hb dX0_isPair_25 (by decide) ?_
      have hP9 := hP.sub (ws' := [(h0, .inr (0, [.int v, .int kn, .int ak, .ref k, .ref q]))]) [0] rfl
      have hD9 := hD.sub (ws' := [(h0, .inr (0, [.int v, .int kn, .int ak, .ref k, .ref q]))]) [0] (by decide +kernel) rfl
      exact W.zret (v := 0) hx hb hr rfl (fun t9 ht hW => ⟨⟨0, (), rfl, (by rw [if_neg c_2, if_pos c_4]), by rw [ht]; exact hP9, hD9⟩, hS.F ht⟩) hS.2.2 dX0_isPair_26
    · refine lv_iload_n hx hb dX0_isPair_16 rfl (lv_at hl 1 rfl) ?_
      refine lv_iload_n hx hb dX0_isPair_17 rfl (lv_at hl 2 rfl) ?_
      refine lv_icmp_eq (tgt := 25) hx hb dX0_isPair_18 (by decide) (fun c_5 => ?_) (fun c_5 => ?_)
      · refine lv_iconst (v := 0) hx hb dX0_isPair_25 (by decide) ?_
        have hP9 := hP.sub (ws' := [(h0, .inr (0, [.int v, .int kn, .int ak, .ref k, .ref q]))]) [0] rfl
        have hD9 := hD.sub (ws' := [(h0, .inr (0, [.int v, .int kn, .int ak, .ref k, .ref q]))]) [0] (by decide +kernel) rfl
        exact W.zret (v := 0) hx hb hr rfl (fun t9 ht hW => ⟨⟨0, (), rfl, (by rw [if_neg c_2, if_neg c_4, if_pos c_5]), by rw [ht]; exact hP9, hD9⟩, hS.F ht⟩) hS.2.2 dX0_isPair_26
      · refine lv_iconst (v := 1) hx hb dX0_isPair_21 (by decide) ?_
        refine lv_goto (tgt := 26) hx hb dX0_isPair_22 (by decide) ?_
        have hP9 := hP.sub (ws' := [(h0, .inr (0, [.int v, .int kn, .int ak, .ref k, .ref q]))]) [0] rfl
        have hD9 := hD.sub (ws' := [(h0, .inr (0, [.int v, .int kn, .int ak, .ref k, .ref q]))]) [0] (by decide +kernel) rfl
        exact W.zret (v := 1) hx hb hr rfl (fun t9 ht hW => ⟨⟨1, (), rfl, (by rw [if_neg c_2, if_neg c_4, if_neg c_5]), by rw [ht]; exact hP9, hD9⟩, hS.F ht⟩) hS.2.2 dX0_isPair_26
def q_X0_others_r (v : Int32) (a : Int32) (b : Int32) : Int32 := (a >>> ((5 * b) &&& 31)) &&& ((1 <<< (v &&& 31)) - 1)
set_option maxHeartbeats 4000000 in
set_option maxRecDepth 100000 in
theorem c_X0_others (l : Launch) (Z : gZ) (sz : Nat) (h0 : Nat) (v : Int32) (kn : Int32) (ak : Int32) (k : Nat) (q : Nat) (a : Int32) (b : Int32)  : Met l yX0_others wsX0_others ({ frames := 0, cells := 0, slots := 0, locals := 0 }) (va_Pc [.ref h0, .int a, .int b] (fun U => U.heap.size = sz ∧ va_P Z.1 vwCl [(h0, .inr (0, [.int v, .int kn, .int ak, .ref k, .ref q]))] U.heap ∧ va_K Z.1 vwCl (gT Z) U ∧ va_D (fun _ => True) [(h0, .inr (0, [.int v, .int kn, .int ak, .ref k, .ref q]))])) (va_Qi (fun (r : Int32) (u : Unit) => r = q_X0_others_r v a b) (fun (u : Unit) (t9 : State) => va_P Z.1 vwCl [(h0, .inr (0, [.int v, .int kn, .int ak, .ref k, .ref q]))] t9.heap ∧ va_D (va_A [(h0, .inr (0, [.int v, .int kn, .int ak, .ref k, .ref q]))] sz) [(h0, .inr (0, [.int v, .int kn, .int ak, .ref k, .ref q]))]) (va_A [(h0, .inr (0, [.int v, .int kn, .int ak, .ref k, .ref q]))] sz)) 0 0 (va_A [(h0, .inr (0, [.int v, .int kn, .int ak, .ref k, .ref q]))] sz) := by
  refine Met.ofW (cc := cX0_others) (maxL := 3) (ret := (some .int)) (by decide) rfl ?_
  intro p e s m args below meth c s₁ B hml hv
  obtain ⟨rfl, hsz, hP, hK, hD0⟩ := hv
  have hx := B.exec
  have hb := B.bytes
  have hr := B.returns
  have hts := atoms_spec (ws := wsX0_others) B.pre
  have hown : s.vm.findClass RX0 = some m.cls := findClass_of_methodNamed B.named
  have hlocks := B.notSynchronized
  subst hsz
  have hin0 : ∀ w ∈ wsX00, w ∈ wsX0_others := fun w h9 => (List.mem_cons_of_mem _ (List.mem_append_right _ h9))
  have hD := hD0.self (sz := s.heap.size)
  generalize hAe : va_A [(h0, .inr (0, [.int v, .int kn, .int ak, .ref k, .ref q]))] s.heap.size = A at hD ⊢
  have hA : ∀ q : Nat, s.heap.size ≤ q → A q := fun q h => by rw [← hAe]; exact Or.inr h
  have hS : va_S A s.heap s.heap [] := va_S.rf
  have hP : va_P Z.1 vwCl [(h0, .inr (0, [.int v, .int kn, .int ak, .ref k, .ref q]))] s.heap := hP
  have hl := lv_entry ([.ref h0, .int a, .int b]) (n := 3) (Nat.le_of_ble_eq_true rfl)
  rw [lg_entry_eq]
  generalize (lg_sl ([.ref h0, .int a, .int b]) ++ List.replicate (3 - (lg_sl ([.ref h0, .int a, .int b])).length) Slot.unset).toArray = ls at hl ⊢
  have hl : lv_has ls 3 [(0, .ref h0), (1, .int a), (2, .int b)] := hl
  refine lv_iload_n hx hb dX0_others_0 rfl (lv_at hl 1 rfl) ?_
  refine lv_iconst (v := 5) hx hb dX0_others_1 (by decide) ?_
  refine lv_iload_n hx hb dX0_others_2 rfl (lv_at hl 2 rfl) ?_
  refine lv_imul hx hb dX0_others_3 ?_
  refine lv_ishr hx hb dX0_others_4 ?_
  refine lv_iconst (v := 1) hx hb dX0_others_5 (by decide) ?_
  refine lv_aload_n hx hb dX0_others_6 rfl (lv_at hl 0 rfl) ?_
  refine va_get (D := Z.1) (ci := 0) (v := .int v) (C := RX0) (T := TX0) (N := 5) hx hb hts hin0 hown hK hP 0 rfl rfl 0 (by decide) (hts (.fieldLink RX0 9 "HalfAsked$Folk" "size" "I") (List.mem_of_getElem? (i := 1) rfl)) (fun _ h9 => h9) rfl dX0_others_7 ?_
  refine lv_ishl hx hb dX0_others_10 ?_
  refine lv_iconst (v := 1) hx hb dX0_others_11 (by decide) ?_
  refine lv_isub hx hb dX0_others_12 ?_
  refine lv_iand hx hb dX0_others_13 ?_
  have hP9 := hP.sub (ws' := [(h0, .inr (0, [.int v, .int kn, .int ak, .ref k, .ref q]))]) [0] rfl
  have hD9 := hD.sub (ws' := [(h0, .inr (0, [.int v, .int kn, .int ak, .ref k, .ref q]))]) [0] (by decide +kernel) rfl
  exact W.iret (v := ((a >>> ((5 * b) &&& 31)) &&& ((1 <<< (v &&& 31)) - 1))) hx hb hr (fun t9 ht hW => ⟨⟨(a >>> ((5 * b) &&& 31)) &&& ((1 <<< (v &&& 31)) - 1), (), rfl, rfl, by rw [ht]; exact hP9, hD9⟩, hS.F ht⟩) hS.2.2 dX0_others_14
def q_J6_bitCount_0f7a4_r (a : Int32) : Int32 := (((((((a - (((a.toUInt32 >>> ((1 : Int32).toUInt32 &&& Int32.toUInt32 31)).toInt32) &&& 1431655765)) &&& 858993459) + ((((a - (((a.toUInt32 >>> ((1 : Int32).toUInt32 &&& Int32.toUInt32 31)).toInt32) &&& 1431655765)).toUInt32 >>> ((2 : Int32).toUInt32 &&& Int32.toUInt32 31)).toInt32) &&& 858993459)) + (((((a - (((a.toUInt32 >>> ((1 : Int32).toUInt32 &&& Int32.toUInt32 31)).toInt32) &&& 1431655765)) &&& 858993459) + ((((a - (((a.toUInt32 >>> ((1 : Int32).toUInt32 &&& Int32.toUInt32 31)).toInt32) &&& 1431655765)).toUInt32 >>> ((2 : Int32).toUInt32 &&& Int32.toUInt32 31)).toInt32) &&& 858993459)).toUInt32 >>> ((4 : Int32).toUInt32 &&& Int32.toUInt32 31)).toInt32)) &&& 252645135) + (((((((a - (((a.toUInt32 >>> ((1 : Int32).toUInt32 &&& Int32.toUInt32 31)).toInt32) &&& 1431655765)) &&& 858993459) + ((((a - (((a.toUInt32 >>> ((1 : Int32).toUInt32 &&& Int32.toUInt32 31)).toInt32) &&& 1431655765)).toUInt32 >>> ((2 : Int32).toUInt32 &&& Int32.toUInt32 31)).toInt32) &&& 858993459)) + (((((a - (((a.toUInt32 >>> ((1 : Int32).toUInt32 &&& Int32.toUInt32 31)).toInt32) &&& 1431655765)) &&& 858993459) + ((((a - (((a.toUInt32 >>> ((1 : Int32).toUInt32 &&& Int32.toUInt32 31)).toInt32) &&& 1431655765)).toUInt32 >>> ((2 : Int32).toUInt32 &&& Int32.toUInt32 31)).toInt32) &&& 858993459)).toUInt32 >>> ((4 : Int32).toUInt32 &&& Int32.toUInt32 31)).toInt32)) &&& 252645135).toUInt32 >>> ((8 : Int32).toUInt32 &&& Int32.toUInt32 31)).toInt32)) + ((((((((a - (((a.toUInt32 >>> ((1 : Int32).toUInt32 &&& Int32.toUInt32 31)).toInt32) &&& 1431655765)) &&& 858993459) + ((((a - (((a.toUInt32 >>> ((1 : Int32).toUInt32 &&& Int32.toUInt32 31)).toInt32) &&& 1431655765)).toUInt32 >>> ((2 : Int32).toUInt32 &&& Int32.toUInt32 31)).toInt32) &&& 858993459)) + (((((a - (((a.toUInt32 >>> ((1 : Int32).toUInt32 &&& Int32.toUInt32 31)).toInt32) &&& 1431655765)) &&& 858993459) + ((((a - (((a.toUInt32 >>> ((1 : Int32).toUInt32 &&& Int32.toUInt32 31)).toInt32) &&& 1431655765)).toUInt32 >>> ((2 : Int32).toUInt32 &&& Int32.toUInt32 31)).toInt32) &&& 858993459)).toUInt32 >>> ((4 : Int32).toUInt32 &&& Int32.toUInt32 31)).toInt32)) &&& 252645135) + (((((((a - (((a.toUInt32 >>> ((1 : Int32).toUInt32 &&& Int32.toUInt32 31)).toInt32) &&& 1431655765)) &&& 858993459) + ((((a - (((a.toUInt32 >>> ((1 : Int32).toUInt32 &&& Int32.toUInt32 31)).toInt32) &&& 1431655765)).toUInt32 >>> ((2 : Int32).toUInt32 &&& Int32.toUInt32 31)).toInt32) &&& 858993459)) + (((((a - (((a.toUInt32 >>> ((1 : Int32).toUInt32 &&& Int32.toUInt32 31)).toInt32) &&& 1431655765)) &&& 858993459) + ((((a - (((a.toUInt32 >>> ((1 : Int32).toUInt32 &&& Int32.toUInt32 31)).toInt32) &&& 1431655765)).toUInt32 >>> ((2 : Int32).toUInt32 &&& Int32.toUInt32 31)).toInt32) &&& 858993459)).toUInt32 >>> ((4 : Int32).toUInt32 &&& Int32.toUInt32 31)).toInt32)) &&& 252645135).toUInt32 >>> ((8 : Int32).toUInt32 &&& Int32.toUInt32 31)).toInt32)).toUInt32 >>> ((16 : Int32).toUInt32 &&& Int32.toUInt32 31)).toInt32)) &&& 63
set_option maxHeartbeats 4000000 in
set_option maxRecDepth 100000 in
theorem c_J6_bitCount_0f7a4 (l : Launch) (Z : gZ) (sz : Nat) (a : Int32)  : Met l yJ6_bitCount_0f7a4 wsJ6_bitCount_0f7a4 ({ frames := 0, cells := 0, slots := 0, locals := 0 }) (va_Pc [.int a] (fun U => U.heap.size = sz ∧ va_P Z.1 vwCl [] U.heap ∧ va_K Z.1 vwCl (gT Z) U ∧ va_D (fun _ => True) [])) (va_Qi (fun (r : Int32) (u : Unit) => r = q_J6_bitCount_0f7a4_r a) (fun (u : Unit) (t9 : State) => True) (va_A [] sz)) 0 0 (va_A [] sz) := by
  refine Met.ofW (cc := cJ6_bitCount_0f7a4) (maxL := 1) (ret := (some .int)) (by decide) rfl ?_
  intro p e s m args below meth c s₁ B hml hv
  obtain ⟨rfl, hsz, hP, hK, hD0⟩ := hv
  have hx := B.exec
  have hb := B.bytes
  have hr := B.returns
  have hts := atoms_spec (ws := wsJ6_bitCount_0f7a4) B.pre
  have hown : s.vm.findClass RJ6 = some m.cls := findClass_of_methodNamed B.named
  have hlocks := B.notSynchronized
  subst hsz
  have hD := hD0.self (sz := s.heap.size)
  generalize hAe : va_A [] s.heap.size = A at hD ⊢
  have hA : ∀ q : Nat, s.heap.size ≤ q → A q := fun q h => by rw [← hAe]; exact Or.inr h
  have hS : va_S A s.heap s.heap [] := va_S.rf
  have hP : va_P Z.1 vwCl [] s.heap := hP
  have hl := lv_entry ([.int a]) (n := 1) (Nat.le_of_ble_eq_true rfl)
  rw [lg_entry_eq]
  generalize (lg_sl ([.int a]) ++ List.replicate (1 - (lg_sl ([.int a])).length) Slot.unset).toArray = ls at hl ⊢
  have hl : lv_has ls 1 [(0, .int a)] := hl
  refine lv_iload_n hx hb dJ6_bitCount_0f7a4_0 rfl (lv_at hl 0 rfl) ?_
  refine lv_iload_n hx hb dJ6_bitCount_0f7a4_1 rfl (lv_at hl 0 rfl) ?_
  refine lv_iconst (v := 1) hx hb dJ6_bitCount_0f7a4_2 (by decide) ?_
  refine lv_iushr hx hb dJ6_bitCount_0f7a4_3 rfl ?_
  refine lv_ldcw (v := 1431655765) hx hb hown (hts (.constant RJ6 265 (1431655765)) (List.mem_of_getElem? (i := 1) rfl)) dJ6_bitCount_0f7a4_4 ?_
  refine lv_iand hx hb dJ6_bitCount_0f7a4_7 ?_
  refine lv_isub hx hb dJ6_bitCount_0f7a4_8 ?_
  refine lv_istore_n (lv' := [(0, .int (a - (((a.toUInt32 >>> ((1 : Int32).toUInt32 &&& Int32.toUInt32 31)).toInt32) &&& 1431655765)))]) hx hb dJ6_bitCount_0f7a4_9 rfl hl (by decide) rfl (fun ls hl => ?_)
  refine lv_iload_n hx hb dJ6_bitCount_0f7a4_10 rfl (lv_at hl 0 rfl) ?_
  refine lv_ldcw (v := 858993459) hx hb hown (hts (.constant RJ6 266 (858993459)) (List.mem_of_getElem? (i := 2) rfl)) dJ6_bitCount_0f7a4_11 ?_
  refine lv_iand hx hb dJ6_bitCount_0f7a4_14 ?_
  refine lv_iload_n hx hb dJ6_bitCount_0f7a4_15 rfl (lv_at hl 0 rfl) ?_
  refine lv_iconst (v := 2) hx hb dJ6_bitCount_0f7a4_16 (by decide) ?_
  refine lv_iushr hx hb dJ6_bitCount_0f7a4_17 rfl ?_
  refine lv_ldcw (v := 858993459) hx hb hown (hts (.constant RJ6 266 (858993459)) (List.mem_of_getElem? (i := 2) rfl)) dJ6_bitCount_0f7a4_18 ?_
  refine lv_iand hx hb dJ6_bitCount_0f7a4_21 ?_
  refine lv_iadd hx hb dJ6_bitCount_0f7a4_22 ?_
  refine lv_istore_n (lv' := [(0, .int (((a - (((a.toUInt32 >>> ((1 : Int32).toUInt32 &&& Int32.toUInt32 31)).toInt32) &&& 1431655765)) &&& 858993459) + ((((a - (((a.toUInt32 >>> ((1 : Int32).toUInt32 &&& Int32.toUInt32 31)).toInt32) &&& 1431655765)).toUInt32 >>> ((2 : Int32).toUInt32 &&& Int32.toUInt32 31)).toInt32) &&& 858993459)))]) hx hb dJ6_bitCount_0f7a4_23 rfl hl (by decide) rfl (fun ls hl => ?_)
  refine lv_iload_n hx hb dJ6_bitCount_0f7a4_24 rfl (lv_at hl 0 rfl) ?_
  refine lv_iload_n hx hb dJ6_bitCount_0f7a4_25 rfl (lv_at hl 0 rfl) ?_
  refine lv_iconst (v := 4) hx hb dJ6_bitCount_0f7a4_26 (by decide) ?_
  refine lv_iushr hx hb dJ6_bitCount_0f7a4_27 rfl ?_
  refine lv_iadd hx hb dJ6_bitCount_0f7a4_28 ?_
  refine lv_ldcw (v := 252645135) hx hb hown (hts (.constant RJ6 267 (252645135)) (List.mem_of_getElem? (i := 3) rfl)) dJ6_bitCount_0f7a4_29 ?_
  refine lv_iand hx hb dJ6_bitCount_0f7a4_32 ?_
  refine lv_istore_n (lv' := [(0, .int (((((a - (((a.toUInt32 >>> ((1 : Int32).toUInt32 &&& Int32.toUInt32 31)).toInt32) &&& 1431655765)) &&& 858993459) + ((((a - (((a.toUInt32 >>> ((1 : Int32).toUInt32 &&& Int32.toUInt32 31)).toInt32) &&& 1431655765)).toUInt32 >>> ((2 : Int32).toUInt32 &&& Int32.toUInt32 31)).toInt32) &&& 858993459)) + (((((a - (((a.toUInt32 >>> ((1 : Int32).toUInt32 &&& Int32.toUInt32 31)).toInt32) &&& 1431655765)) &&& 858993459) + ((((a - (((a.toUInt32 >>> ((1 : Int32).toUInt32 &&& Int32.toUInt32 31)).toInt32) &&& 1431655765)).toUInt32 >>> ((2 : Int32).toUInt32 &&& Int32.toUInt32 31)).toInt32) &&& 858993459)).toUInt32 >>> ((4 : Int32).toUInt32 &&& Int32.toUInt32 31)).toInt32)) &&& 252645135))]) hx hb dJ6_bitCount_0f7a4_33 rfl hl (by decide) rfl (fun ls hl => ?_)
  refine lv_iload_n hx hb dJ6_bitCount_0f7a4_34 rfl (lv_at hl 0 rfl) ?_
  refine lv_iload_n hx hb dJ6_bitCount_0f7a4_35 rfl (lv_at hl 0 rfl) ?_
  refine lv_bipush (v := 8) hx hb dJ6_bitCount_0f7a4_36 (by decide) ?_
  refine lv_iushr hx hb dJ6_bitCount_0f7a4_38 rfl ?_
  refine lv_iadd hx hb dJ6_bitCount_0f7a4_39 ?_
  refine lv_istore_n (lv' := [(0, .int ((((((a - (((a.toUInt32 >>> ((1 : Int32).toUInt32 &&& Int32.toUInt32 31)).toInt32) &&& 1431655765)) &&& 858993459) + ((((a - (((a.toUInt32 >>> ((1 : Int32).toUInt32 &&& Int32.toUInt32 31)).toInt32) &&& 1431655765)).toUInt32 >>> ((2 : Int32).toUInt32 &&& Int32.toUInt32 31)).toInt32) &&& 858993459)) + (((((a - (((a.toUInt32 >>> ((1 : Int32).toUInt32 &&& Int32.toUInt32 31)).toInt32) &&& 1431655765)) &&& 858993459) + ((((a - (((a.toUInt32 >>> ((1 : Int32).toUInt32 &&& Int32.toUInt32 31)).toInt32) &&& 1431655765)).toUInt32 >>> ((2 : Int32).toUInt32 &&& Int32.toUInt32 31)).toInt32) &&& 858993459)).toUInt32 >>> ((4 : Int32).toUInt32 &&& Int32.toUInt32 31)).toInt32)) &&& 252645135) + (((((((a - (((a.toUInt32 >>> ((1 : Int32).toUInt32 &&& Int32.toUInt32 31)).toInt32) &&& 1431655765)) &&& 858993459) + ((((a - (((a.toUInt32 >>> ((1 : Int32).toUInt32 &&& Int32.toUInt32 31)).toInt32) &&& 1431655765)).toUInt32 >>> ((2 : Int32).toUInt32 &&& Int32.toUInt32 31)).toInt32) &&& 858993459)) + (((((a - (((a.toUInt32 >>> ((1 : Int32).toUInt32 &&& Int32.toUInt32 31)).toInt32) &&& 1431655765)) &&& 858993459) + ((((a - (((a.toUInt32 >>> ((1 : Int32).toUInt32 &&& Int32.toUInt32 31)).toInt32) &&& 1431655765)).toUInt32 >>> ((2 : Int32).toUInt32 &&& Int32.toUInt32 31)).toInt32) &&& 858993459)).toUInt32 >>> ((4 : Int32).toUInt32 &&& Int32.toUInt32 31)).toInt32)) &&& 252645135).toUInt32 >>> ((8 : Int32).toUInt32 &&& Int32.toUInt32 31)).toInt32)))]) hx hb dJ6_bitCount_0f7a4_40 rfl hl (by decide) rfl (fun ls hl => ?_)
  refine lv_iload_n hx hb dJ6_bitCount_0f7a4_41 rfl (lv_at hl 0 rfl) ?_
  refine lv_iload_n hx hb dJ6_bitCount_0f7a4_42 rfl (lv_at hl 0 rfl) ?_
  refine lv_bipush (v := 16) hx hb dJ6_bitCount_0f7a4_43 (by decide) ?_
  refine lv_iushr hx hb dJ6_bitCount_0f7a4_45 rfl ?_
  refine lv_iadd hx hb dJ6_bitCount_0f7a4_46 ?_
  refine lv_istore_n (lv' := [(0, .int (((((((a - (((a.toUInt32 >>> ((1 : Int32).toUInt32 &&& Int32.toUInt32 31)).toInt32) &&& 1431655765)) &&& 858993459) + ((((a - (((a.toUInt32 >>> ((1 : Int32).toUInt32 &&& Int32.toUInt32 31)).toInt32) &&& 1431655765)).toUInt32 >>> ((2 : Int32).toUInt32 &&& Int32.toUInt32 31)).toInt32) &&& 858993459)) + (((((a - (((a.toUInt32 >>> ((1 : Int32).toUInt32 &&& Int32.toUInt32 31)).toInt32) &&& 1431655765)) &&& 858993459) + ((((a - (((a.toUInt32 >>> ((1 : Int32).toUInt32 &&& Int32.toUInt32 31)).toInt32) &&& 1431655765)).toUInt32 >>> ((2 : Int32).toUInt32 &&& Int32.toUInt32 31)).toInt32) &&& 858993459)).toUInt32 >>> ((4 : Int32).toUInt32 &&& Int32.toUInt32 31)).toInt32)) &&& 252645135) + (((((((a - (((a.toUInt32 >>> ((1 : Int32).toUInt32 &&& Int32.toUInt32 31)).toInt32) &&& 1431655765)) &&& 858993459) + ((((a - (((a.toUInt32 >>> ((1 : Int32).toUInt32 &&& Int32.toUInt32 31)).toInt32) &&& 1431655765)).toUInt32 >>> ((2 : Int32).toUInt32 &&& Int32.toUInt32 31)).toInt32) &&& 858993459)) + (((((a - (((a.toUInt32 >>> ((1 : Int32).toUInt32 &&& Int32.toUInt32 31)).toInt32) &&& 1431655765)) &&& 858993459) + ((((a - (((a.toUInt32 >>> ((1 : Int32).toUInt32 &&& Int32.toUInt32 31)).toInt32) &&& 1431655765)).toUInt32 >>> ((2 : Int32).toUInt32 &&& Int32.toUInt32 31)).toInt32) &&& 858993459)).toUInt32 >>> ((4 : Int32).toUInt32 &&& Int32.toUInt32 31)).toInt32)) &&& 252645135).toUInt32 >>> ((8 : Int32).toUInt32 &&& Int32.toUInt32 31)).toInt32)) + ((((((((a - (((a.toUInt32 >>> ((1 : Int32).toUInt32 &&& Int32.toUInt32 31)).toInt32) &&& 1431655765)) &&& 858993459) + ((((a - (((a.toUInt32 >>> ((1 : Int32).toUInt32 &&& Int32.toUInt32 31)).toInt32) &&& 1431655765)).toUInt32 >>> ((2 : Int32).toUInt32 &&& Int32.toUInt32 31)).toInt32) &&& 858993459)) + (((((a - (((a.toUInt32 >>> ((1 : Int32).toUInt32 &&& Int32.toUInt32 31)).toInt32) &&& 1431655765)) &&& 858993459) + ((((a - (((a.toUInt32 >>> ((1 : Int32).toUInt32 &&& Int32.toUInt32 31)).toInt32) &&& 1431655765)).toUInt32 >>> ((2 : Int32).toUInt32 &&& Int32.toUInt32 31)).toInt32) &&& 858993459)).toUInt32 >>> ((4 : Int32).toUInt32 &&& Int32.toUInt32 31)).toInt32)) &&& 252645135) + (((((((a - (((a.toUInt32 >>> ((1 : Int32).toUInt32 &&& Int32.toUInt32 31)).toInt32) &&& 1431655765)) &&& 858993459) + ((((a - (((a.toUInt32 >>> ((1 : Int32).toUInt32 &&& Int32.toUInt32 31)).toInt32) &&& 1431655765)).toUInt32 >>> ((2 : Int32).toUInt32 &&& Int32.toUInt32 31)).toInt32) &&& 858993459)) + (((((a - (((a.toUInt32 >>> ((1 : Int32).toUInt32 &&& Int32.toUInt32 31)).toInt32) &&& 1431655765)) &&& 858993459) + ((((a - (((a.toUInt32 >>> ((1 : Int32).toUInt32 &&& Int32.toUInt32 31)).toInt32) &&& 1431655765)).toUInt32 >>> ((2 : Int32).toUInt32 &&& Int32.toUInt32 31)).toInt32) &&& 858993459)).toUInt32 >>> ((4 : Int32).toUInt32 &&& Int32.toUInt32 31)).toInt32)) &&& 252645135).toUInt32 >>> ((8 : Int32).toUInt32 &&& Int32.toUInt32 31)).toInt32)).toUInt32 >>> ((16 : Int32).toUInt32 &&& Int32.toUInt32 31)).toInt32)))]) hx hb dJ6_bitCount_0f7a4_47 rfl hl (by decide) rfl (fun ls hl => ?_)
  refine lv_iload_n hx hb dJ6_bitCount_0f7a4_48 rfl (lv_at hl 0 rfl) ?_
  refine lv_bipush (v := 63) hx hb dJ6_bitCount_0f7a4_49 (by decide) ?_
  refine lv_iand hx hb dJ6_bitCount_0f7a4_51 ?_
  exact W.iret (v := ((((((((a - (((a.toUInt32 >>> ((1 : Int32).toUInt32 &&& Int32.toUInt32 31)).toInt32) &&& 1431655765)) &&& 858993459) + ((((a - (((a.toUInt32 >>> ((1 : Int32).toUInt32 &&& Int32.toUInt32 31)).toInt32) &&& 1431655765)).toUInt32 >>> ((2 : Int32).toUInt32 &&& Int32.toUInt32 31)).toInt32) &&& 858993459)) + (((((a - (((a.toUInt32 >>> ((1 : Int32).toUInt32 &&& Int32.toUInt32 31)).toInt32) &&& 1431655765)) &&& 858993459) + ((((a - (((a.toUInt32 >>> ((1 : Int32).toUInt32 &&& Int32.toUInt32 31)).toInt32) &&& 1431655765)).toUInt32 >>> ((2 : Int32).toUInt32 &&& Int32.toUInt32 31)).toInt32) &&& 858993459)).toUInt32 >>> ((4 : Int32).toUInt32 &&& Int32.toUInt32 31)).toInt32)) &&& 252645135) + (((((((a - (((a.toUInt32 >>> ((1 : Int32).toUInt32 &&& Int32.toUInt32 31)).toInt32) &&& 1431655765)) &&& 858993459) + ((((a - (((a.toUInt32 >>> ((1 : Int32).toUInt32 &&& Int32.toUInt32 31)).toInt32) &&& 1431655765)).toUInt32 >>> ((2 : Int32).toUInt32 &&& Int32.toUInt32 31)).toInt32) &&& 858993459)) + (((((a - (((a.toUInt32 >>> ((1 : Int32).toUInt32 &&& Int32.toUInt32 31)).toInt32) &&& 1431655765)) &&& 858993459) + ((((a - (((a.toUInt32 >>> ((1 : Int32).toUInt32 &&& Int32.toUInt32 31)).toInt32) &&& 1431655765)).toUInt32 >>> ((2 : Int32).toUInt32 &&& Int32.toUInt32 31)).toInt32) &&& 858993459)).toUInt32 >>> ((4 : Int32).toUInt32 &&& Int32.toUInt32 31)).toInt32)) &&& 252645135).toUInt32 >>> ((8 : Int32).toUInt32 &&& Int32.toUInt32 31)).toInt32)) + ((((((((a - (((a.toUInt32 >>> ((1 : Int32).toUInt32 &&& Int32.toUInt32 31)).toInt32) &&& 1431655765)) &&& 858993459) + ((((a - (((a.toUInt32 >>> ((1 : Int32).toUInt32 &&& Int32.toUInt32 31)).toInt32) &&& 1431655765)).toUInt32 >>> ((2 : Int32).toUInt32 &&& Int32.toUInt32 31)).toInt32) &&& 858993459)) + (((((a - (((a.toUInt32 >>> ((1 : Int32).toUInt32 &&& Int32.toUInt32 31)).toInt32) &&& 1431655765)) &&& 858993459) + ((((a - (((a.toUInt32 >>> ((1 : Int32).toUInt32 &&& Int32.toUInt32 31)).toInt32) &&& 1431655765)).toUInt32 >>> ((2 : Int32).toUInt32 &&& Int32.toUInt32 31)).toInt32) &&& 858993459)).toUInt32 >>> ((4 : Int32).toUInt32 &&& Int32.toUInt32 31)).toInt32)) &&& 252645135) + (((((((a - (((a.toUInt32 >>> ((1 : Int32).toUInt32 &&& Int32.toUInt32 31)).toInt32) &&& 1431655765)) &&& 858993459) + ((((a - (((a.toUInt32 >>> ((1 : Int32).toUInt32 &&& Int32.toUInt32 31)).toInt32) &&& 1431655765)).toUInt32 >>> ((2 : Int32).toUInt32 &&& Int32.toUInt32 31)).toInt32) &&& 858993459)) + (((((a - (((a.toUInt32 >>> ((1 : Int32).toUInt32 &&& Int32.toUInt32 31)).toInt32) &&& 1431655765)) &&& 858993459) + ((((a - (((a.toUInt32 >>> ((1 : Int32).toUInt32 &&& Int32.toUInt32 31)).toInt32) &&& 1431655765)).toUInt32 >>> ((2 : Int32).toUInt32 &&& Int32.toUInt32 31)).toInt32) &&& 858993459)).toUInt32 >>> ((4 : Int32).toUInt32 &&& Int32.toUInt32 31)).toInt32)) &&& 252645135).toUInt32 >>> ((8 : Int32).toUInt32 &&& Int32.toUInt32 31)).toInt32)).toUInt32 >>> ((16 : Int32).toUInt32 &&& Int32.toUInt32 31)).toInt32)) &&& 63)) hx hb hr (fun t9 ht hW => ⟨⟨(((((((a - (((a.toUInt32 >>> ((1 : Int32).toUInt32 &&& Int32.toUInt32 31)).toInt32) &&& 1431655765)) &&& 858993459) + ((((a - (((a.toUInt32 >>> ((1 : Int32).toUInt32 &&& Int32.toUInt32 31)).toInt32) &&& 1431655765)).toUInt32 >>> ((2 : Int32).toUInt32 &&& Int32.toUInt32 31)).toInt32) &&& 858993459)) + (((((a - (((a.toUInt32 >>> ((1 : Int32).toUInt32 &&& Int32.toUInt32 31)).toInt32) &&& 1431655765)) &&& 858993459) + ((((a - (((a.toUInt32 >>> ((1 : Int32).toUInt32 &&& Int32.toUInt32 31)).toInt32) &&& 1431655765)).toUInt32 >>> ((2 : Int32).toUInt32 &&& Int32.toUInt32 31)).toInt32) &&& 858993459)).toUInt32 >>> ((4 : Int32).toUInt32 &&& Int32.toUInt32 31)).toInt32)) &&& 252645135) + (((((((a - (((a.toUInt32 >>> ((1 : Int32).toUInt32 &&& Int32.toUInt32 31)).toInt32) &&& 1431655765)) &&& 858993459) + ((((a - (((a.toUInt32 >>> ((1 : Int32).toUInt32 &&& Int32.toUInt32 31)).toInt32) &&& 1431655765)).toUInt32 >>> ((2 : Int32).toUInt32 &&& Int32.toUInt32 31)).toInt32) &&& 858993459)) + (((((a - (((a.toUInt32 >>> ((1 : Int32).toUInt32 &&& Int32.toUInt32 31)).toInt32) &&& 1431655765)) &&& 858993459) + ((((a - (((a.toUInt32 >>> ((1 : Int32).toUInt32 &&& Int32.toUInt32 31)).toInt32) &&& 1431655765)).toUInt32 >>> ((2 : Int32).toUInt32 &&& Int32.toUInt32 31)).toInt32) &&& 858993459)).toUInt32 >>> ((4 : Int32).toUInt32 &&& Int32.toUInt32 31)).toInt32)) &&& 252645135).toUInt32 >>> ((8 : Int32).toUInt32 &&& Int32.toUInt32 31)).toInt32)) + ((((((((a - (((a.toUInt32 >>> ((1 : Int32).toUInt32 &&& Int32.toUInt32 31)).toInt32) &&& 1431655765)) &&& 858993459) + ((((a - (((a.toUInt32 >>> ((1 : Int32).toUInt32 &&& Int32.toUInt32 31)).toInt32) &&& 1431655765)).toUInt32 >>> ((2 : Int32).toUInt32 &&& Int32.toUInt32 31)).toInt32) &&& 858993459)) + (((((a - (((a.toUInt32 >>> ((1 : Int32).toUInt32 &&& Int32.toUInt32 31)).toInt32) &&& 1431655765)) &&& 858993459) + ((((a - (((a.toUInt32 >>> ((1 : Int32).toUInt32 &&& Int32.toUInt32 31)).toInt32) &&& 1431655765)).toUInt32 >>> ((2 : Int32).toUInt32 &&& Int32.toUInt32 31)).toInt32) &&& 858993459)).toUInt32 >>> ((4 : Int32).toUInt32 &&& Int32.toUInt32 31)).toInt32)) &&& 252645135) + (((((((a - (((a.toUInt32 >>> ((1 : Int32).toUInt32 &&& Int32.toUInt32 31)).toInt32) &&& 1431655765)) &&& 858993459) + ((((a - (((a.toUInt32 >>> ((1 : Int32).toUInt32 &&& Int32.toUInt32 31)).toInt32) &&& 1431655765)).toUInt32 >>> ((2 : Int32).toUInt32 &&& Int32.toUInt32 31)).toInt32) &&& 858993459)) + (((((a - (((a.toUInt32 >>> ((1 : Int32).toUInt32 &&& Int32.toUInt32 31)).toInt32) &&& 1431655765)) &&& 858993459) + ((((a - (((a.toUInt32 >>> ((1 : Int32).toUInt32 &&& Int32.toUInt32 31)).toInt32) &&& 1431655765)).toUInt32 >>> ((2 : Int32).toUInt32 &&& Int32.toUInt32 31)).toInt32) &&& 858993459)).toUInt32 >>> ((4 : Int32).toUInt32 &&& Int32.toUInt32 31)).toInt32)) &&& 252645135).toUInt32 >>> ((8 : Int32).toUInt32 &&& Int32.toUInt32 31)).toInt32)).toUInt32 >>> ((16 : Int32).toUInt32 &&& Int32.toUInt32 31)).toInt32)) &&& 63, (), rfl, rfl, trivial⟩, hS.F ht⟩) hS.2.2 dJ6_bitCount_0f7a4_52
def q_X0_askings_r (ak : Int32) : Int32 := q_J6_bitCount_0f7a4_r ak
set_option maxHeartbeats 4000000 in
set_option maxRecDepth 100000 in
theorem c_X0_askings (l : Launch) (Z : gZ) (sz : Nat) (h0 : Nat) (v : Int32) (kn : Int32) (ak : Int32) (k : Nat) (q : Nat)  : Met l yX0_askings wsX0_askings ({ frames := 1, cells := 0, slots := 0, locals := 20 }) (va_Pc [.ref h0] (fun U => U.heap.size = sz ∧ va_P Z.1 vwCl [(h0, .inr (0, [.int v, .int kn, .int ak, .ref k, .ref q]))] U.heap ∧ va_K Z.1 vwCl (gT Z) U ∧ va_D (fun _ => True) [(h0, .inr (0, [.int v, .int kn, .int ak, .ref k, .ref q]))])) (va_Qi (fun (r : Int32) (u : Unit) => r = q_X0_askings_r ak) (fun (u : Unit) (t9 : State) => va_P Z.1 vwCl [(h0, .inr (0, [.int v, .int kn, .int ak, .ref k, .ref q]))] t9.heap ∧ va_D (va_A [(h0, .inr (0, [.int v, .int kn, .int ak, .ref k, .ref q]))] sz) [(h0, .inr (0, [.int v, .int kn, .int ak, .ref k, .ref q]))]) (va_A [(h0, .inr (0, [.int v, .int kn, .int ak, .ref k, .ref q]))] sz)) 0 0 (va_A [(h0, .inr (0, [.int v, .int kn, .int ak, .ref k, .ref q]))] sz) := by
  refine Met.ofW (cc := cX0_askings) (maxL := 1) (ret := (some .int)) (by decide) rfl ?_
  intro p e s m args below meth c s₁ B hml hv
  obtain ⟨rfl, hsz, hP, hK, hD0⟩ := hv
  have hx := B.exec
  have hb := B.bytes
  have hr := B.returns
  have hts := atoms_spec (ws := wsX0_askings) B.pre
  have hown : s.vm.findClass RX0 = some m.cls := findClass_of_methodNamed B.named
  have hlocks := B.notSynchronized
  subst hsz
  have hin0 : ∀ w ∈ wsX00, w ∈ wsX0_askings := fun w h9 => (List.mem_cons_of_mem _ (List.mem_append_right _ h9))
  have hD := hD0.self (sz := s.heap.size)
  generalize hAe : va_A [(h0, .inr (0, [.int v, .int kn, .int ak, .ref k, .ref q]))] s.heap.size = A at hD ⊢
  have hA : ∀ q : Nat, s.heap.size ≤ q → A q := fun q h => by rw [← hAe]; exact Or.inr h
  have hS : va_S A s.heap s.heap [] := va_S.rf
  have hP : va_P Z.1 vwCl [(h0, .inr (0, [.int v, .int kn, .int ak, .ref k, .ref q]))] s.heap := hP
  have hl := lv_entry ([.ref h0]) (n := 1) (Nat.le_of_ble_eq_true rfl)
  rw [lg_entry_eq]
  generalize (lg_sl ([.ref h0]) ++ List.replicate (1 - (lg_sl ([.ref h0])).length) Slot.unset).toArray = ls at hl ⊢
  have hl : lv_has ls 1 [(0, .ref h0)] := hl
  refine lv_aload_n hx hb dX0_askings_0 rfl (lv_at hl 0 rfl) ?_
  refine va_get (D := Z.1) (ci := 0) (v := .int ak) (C := RX0) (T := TX0) (N := 5) hx hb hts hin0 hown hK hP 0 rfl rfl 2 (by decide) (hts (.fieldLink RX0 19 "HalfAsked$Folk" "asked" "I") (List.mem_of_getElem? (i := 1) rfl)) (fun _ h9 => h9) rfl dX0_askings_1 ?_
  have hPc := hP.sub (ws' := []) [] rfl
  have hDc := hD.sub (ws' := []) [] (by decide +kernel) rfl
  have hFc := va_free (wc := []) hD hS hA [] rfl
  refine va_calli (va_runS (As := [.int ak]) (rest := []) ⟨hx, hb, hml, hown, hts⟩ (c_J6_bitCount_0f7a4 l Z s.heap.size ak) (va_cwS 1 hts gX0_askings_J6_bitCount_0f7a4 rfl rfl rfl (by decide +kernel) ⟨Nat.le_of_ble_eq_true rfl, Nat.le_of_ble_eq_true rfl⟩) ⟨fun a U g mk q => by obtain ⟨q0, q1, qP, qK, qD⟩ := q; exact ⟨q0, q1, qP, va_K.moved (u := U) (U := U.calling g mk a) (Vm.Alike.refl U.vm) qK, qD⟩, fun U hU hW => ⟨rfl, by rw [hU], by rw [hU]; exact hPc, va_K.moved hW.alike hK, hDc.weaken (fun _ _ _ _ => trivial)⟩⟩ rfl rfl hl.1 rfl (lv_room (Nat.le_of_ble_eq_true rfl)) dX0_askings_4 ⟨Nat.le_of_ble_eq_true rfl, Nat.le_of_ble_eq_true rfl⟩) hS (fun q _ h => hFc q h) hFc (fun r_1 u t9 H1 locs ht hvm hw hB hz1 hk1 hS => ?_)
  have hw9 := hw.symm
  clear hw
  subst hw9
  have hP1 : va_P Z.1 vwCl [] H1 := fun k q h => by simp at h
  have hD1 : va_D (va_A [] s.heap.size) [] := ⟨fun i j p q h => by simp at h, fun k q h => by simp at h⟩
  obtain ⟨hP, hD⟩ := va_join (wr := [(h0, .inr (0, [.int v, .int kn, .int ak, .ref k, .ref q]))]) (w1 := []) hP hD [] [0] rfl rfl (by decide +kernel) (by decide +kernel) hk1 hFc hP1 hD1
  clear hPc hDc hP1 hD1 hk1 hz1 hFc ht hvm
  generalize H1 = H at hP hS ⊢
  have hP : va_P Z.1 vwCl [(h0, .inr (0, [.int v, .int kn, .int ak, .ref k, .ref q]))] H := hP
  have hD : va_D A [(h0, .inr (0, [.int v, .int kn, .int ak, .ref k, .ref q]))] := hD
  have hP9 := hP.sub (ws' := [(h0, .inr (0, [.int v, .int kn, .int ak, .ref k, .ref q]))]) [0] rfl
  have hD9 := hD.sub (ws' := [(h0, .inr (0, [.int v, .int kn, .int ak, .ref k, .ref q]))]) [0] (by decide +kernel) rfl
  exact W.iret (v := (q_J6_bitCount_0f7a4_r ak)) hx hb hr (fun t9 ht hW => ⟨⟨q_J6_bitCount_0f7a4_r ak, (), rfl, rfl, by rw [ht]; exact hP9, hD9⟩, hS.F ht⟩) hS.2.2 dX0_askings_7
set_option maxHeartbeats 4000000 in
set_option maxRecDepth 100000 in
theorem c_X0_clear (l : Launch) (Z : gZ) (sz : Nat) (h0 : Nat) (v : Int32) (kn : Int32) (ak : Int32) (k : Nat) (q : Nat)  : Met l yX0_clear wsX0_clear ({ frames := 0, cells := 0, slots := 0, locals := 0 }) (va_Pc [.ref h0] (fun U => U.heap.size = sz ∧ va_P Z.1 vwCl [(h0, .inr (0, [.int v, .int kn, .int ak, .ref k, .ref q]))] U.heap ∧ va_K Z.1 vwCl (gT Z) U ∧ va_D (fun _ => True) [(h0, .inr (0, [.int v, .int kn, .int ak, .ref k, .ref q]))])) (va_Qv (fun (u : Unit) => True) (fun (u : Unit) (t9 : State) => va_P Z.1 vwCl [(h0, .inr (0, [.int 0, .int 16510910, .int 0, .ref k, .ref q]))] t9.heap ∧ va_D (va_A [(h0, .inr (0, [.int v, .int kn, .int ak, .ref k, .ref q]))] sz) [(h0, .inr (0, [.int 0, .int 16510910, .int 0, .ref k, .ref q]))]) (va_A [(h0, .inr (0, [.int v, .int kn, .int ak, .ref k, .ref q]))] sz)) 0 0 (va_A [(h0, .inr (0, [.int v, .int kn, .int ak, .ref k, .ref q]))] sz) := by
  refine Met.ofW (cc := cX0_clear) (maxL := 1) (ret := none) (by decide) rfl ?_
  intro p e s m args below meth c s₁ B hml hv
  obtain ⟨rfl, hsz, hP, hK, hD0⟩ := hv
  have hx := B.exec
  have hb := B.bytes
  have hr := B.returns
  have hts := atoms_spec (ws := wsX0_clear) B.pre
  have hown : s.vm.findClass RX0 = some m.cls := findClass_of_methodNamed B.named
  have hlocks := B.notSynchronized
  subst hsz
  have hin0 : ∀ w ∈ wsX00, w ∈ wsX0_clear := fun w h9 => (List.mem_cons_of_mem _ (List.mem_append_right _ h9))
  have hD := hD0.self (sz := s.heap.size)
  generalize hAe : va_A [(h0, .inr (0, [.int v, .int kn, .int ak, .ref k, .ref q]))] s.heap.size = A at hD ⊢
  have hA : ∀ q : Nat, s.heap.size ≤ q → A q := fun q h => by rw [← hAe]; exact Or.inr h
  have hS : va_S A s.heap s.heap [] := va_S.rf
  have hP : va_P Z.1 vwCl [(h0, .inr (0, [.int v, .int kn, .int ak, .ref k, .ref q]))] s.heap := hP
  have hl := lv_entry ([.ref h0]) (n := 1) (Nat.le_of_ble_eq_true rfl)
  rw [lg_entry_eq]
  generalize (lg_sl ([.ref h0]) ++ List.replicate (1 - (lg_sl ([.ref h0])).length) Slot.unset).toArray = ls at hl ⊢
  have hl : lv_has ls 1 [(0, .ref h0)] := hl
  refine lv_aload_n hx hb dX0_clear_0 rfl (lv_at hl 0 rfl) ?_
  refine lv_iconst (v := 0) hx hb dX0_clear_1 (by decide) ?_
  refine va_put (D := Z.1) (ci := 0) (v := .int 0) (ty := .int) (C := RX0) (T := TX0) (N := 5) hx hb hts hin0 tyX0 tyX0_ok nmX0 hown hK hP hD hS 0 rfl rfl 0 (by decide) (hts (.fieldLink RX0 9 "HalfAsked$Folk" "size" "I") (List.mem_of_getElem? (i := 1) rfl)) (fun _ h9 => h9) rfl (by decide +kernel) rfl rfl (Nat.le_of_ble_eq_true rfl) dX0_clear_2 (fun H locs hP hD hS => ?_)
  have hP : va_P Z.1 vwCl [(h0, .inr (0, [.int 0, .int kn, .int ak, .ref k, .ref q]))] H := hP
  have hD : va_D A [(h0, .inr (0, [.int 0, .int kn, .int ak, .ref k, .ref q]))] := hD
  refine lv_aload_n hx hb dX0_clear_5 rfl (lv_at hl 0 rfl) ?_
  refine lv_ldc (v := 16510910) hx hb hown (hts (.constant RX0 15 (16510910)) (List.mem_of_getElem? (i := 2) rfl)) dX0_clear_6 ?_
  refine va_put (D := Z.1) (ci := 0) (v := .int 16510910) (ty := .int) (C := RX0) (T := TX0) (N := 5) hx hb hts hin0 tyX0 tyX0_ok nmX0 hown hK hP hD hS 0 rfl rfl 1 (by decide) (hts (.fieldLink RX0 16 "HalfAsked$Folk" "known" "I") (List.mem_of_getElem? (i := 3) rfl)) (fun _ h9 => h9) rfl (by decide +kernel) rfl rfl (Nat.le_of_ble_eq_true rfl) dX0_clear_8 (fun H locs hP hD hS => ?_)
  have hP : va_P Z.1 vwCl [(h0, .inr (0, [.int 0, .int 16510910, .int ak, .ref k, .ref q]))] H := hP
  have hD : va_D A [(h0, .inr (0, [.int 0, .int 16510910, .int ak, .ref k, .ref q]))] := hD
  refine lv_aload_n hx hb dX0_clear_11 rfl (lv_at hl 0 rfl) ?_
  refine lv_iconst (v := 0) hx hb dX0_clear_12 (by decide) ?_
  refine va_put (D := Z.1) (ci := 0) (v := .int 0) (ty := .int) (C := RX0) (T := TX0) (N := 5) hx hb hts hin0 tyX0 tyX0_ok nmX0 hown hK hP hD hS 0 rfl rfl 2 (by decide) (hts (.fieldLink RX0 19 "HalfAsked$Folk" "asked" "I") (List.mem_of_getElem? (i := 4) rfl)) (fun _ h9 => h9) rfl (by decide +kernel) rfl rfl (Nat.le_of_ble_eq_true rfl) dX0_clear_13 (fun H locs hP hD hS => ?_)
  have hP : va_P Z.1 vwCl [(h0, .inr (0, [.int 0, .int 16510910, .int 0, .ref k, .ref q]))] H := hP
  have hD : va_D A [(h0, .inr (0, [.int 0, .int 16510910, .int 0, .ref k, .ref q]))] := hD
  have hP9 := hP.sub (ws' := [(h0, .inr (0, [.int 0, .int 16510910, .int 0, .ref k, .ref q]))]) [0] rfl
  have hD9 := hD.sub (ws' := [(h0, .inr (0, [.int 0, .int 16510910, .int 0, .ref k, .ref q]))]) [0] (by decide +kernel) rfl
  exact W.vret hx hb hr (fun t9 ht hW => ⟨⟨(), rfl, trivial, by rw [ht]; exact hP9, hD9⟩, hS.F ht⟩) hS.2.2 dX0_clear_16
def q_X0_gives_r (f : Nat → Int32) (g : Nat → Int32) (a : Int32) : Int32 := (if (f a.toNatClampNeg) = 1 then ((g a.toNatClampNeg) / 2) else (if (f a.toNatClampNeg) = 2 then ((g a.toNatClampNeg) / 3) else (if (f a.toNatClampNeg) = 3 then (if (g a.toNatClampNeg) ≤ 9 then (0 : Int32) else ((g a.toNatClampNeg) - 9)) else ((g a.toNatClampNeg) - ((g a.toNatClampNeg) / 2)))))
set_option maxHeartbeats 4000000 in
set_option maxRecDepth 100000 in
theorem c_X0_gives (l : Launch) (Z : gZ) (sz : Nat) (h0 : Nat) (v : Int32) (kn : Int32) (ak : Int32) (k : Nat) (q : Nat) (f : Nat → Int32) (g : Nat → Int32) (a : Int32) (ha : vp_in a 5) : Met l yX0_gives wsX0_gives ({ frames := 0, cells := 0, slots := 0, locals := 0 }) (va_Pc [.ref h0, .int a] (fun U => U.heap.size = sz ∧ va_P Z.1 vwCl [(h0, .inr (0, [.int v, .int kn, .int ak, .ref k, .ref q])), (k, .inl (Z.2 0, 5, .inl f)), (q, .inl (Z.2 0, 5, .inl g))] U.heap ∧ va_K Z.1 vwCl (gT Z) U ∧ va_D (fun _ => True) [(h0, .inr (0, [.int v, .int kn, .int ak, .ref k, .ref q])), (k, .inl (Z.2 0, 5, .inl f)), (q, .inl (Z.2 0, 5, .inl g))])) (va_Qi (fun (r : Int32) (u : Unit) => r = q_X0_gives_r f g a) (fun (u : Unit) (t9 : State) => va_P Z.1 vwCl [(h0, .inr (0, [.int v, .int kn, .int ak, .ref k, .ref q])), (k, .inl (Z.2 0, 5, .inl f)), (q, .inl (Z.2 0, 5, .inl g))] t9.heap ∧ va_D (va_A [(h0, .inr (0, [.int v, .int kn, .int ak, .ref k, .ref q])), (k, .inl (Z.2 0, 5, .inl f)), (q, .inl (Z.2 0, 5, .inl g))] sz) [(h0, .inr (0, [.int v, .int kn, .int ak, .ref k, .ref q])), (k, .inl (Z.2 0, 5, .inl f)), (q, .inl (Z.2 0, 5, .inl g))]) (va_A [(h0, .inr (0, [.int v, .int kn, .int ak, .ref k, .ref q])), (k, .inl (Z.2 0, 5, .inl f)), (q, .inl (Z.2 0, 5, .inl g))] sz)) 0 0 (va_A [(h0, .inr (0, [.int v, .int kn, .int ak, .ref k, .ref q])), (k, .inl (Z.2 0, 5, .inl f)), (q, .inl (Z.2 0, 5, .inl g))] sz) := by
  refine Met.ofW (cc := cX0_gives) (maxL := 3) (ret := (some .int)) (by decide) rfl ?_
  intro p e s m args below meth c s₁ B hml hv
  obtain ⟨rfl, hsz, hP, hK, hD0⟩ := hv
  have hx := B.exec
  have hb := B.bytes
  have hr := B.returns
  have hts := atoms_spec (ws := wsX0_gives) B.pre
  have hown : s.vm.findClass RX0 = some m.cls := findClass_of_methodNamed B.named
  have hlocks := B.notSynchronized
  subst hsz
  have hin0 : ∀ w ∈ wsX00, w ∈ wsX0_gives := fun w h9 => (List.mem_cons_of_mem _ (List.mem_append_right _ h9))
  have hD := hD0.self (sz := s.heap.size)
  generalize hAe : va_A [(h0, .inr (0, [.int v, .int kn, .int ak, .ref k, .ref q])), (k, .inl (Z.2 0, 5, .inl f)), (q, .inl (Z.2 0, 5, .inl g))] s.heap.size = A at hD ⊢
  have hA : ∀ q : Nat, s.heap.size ≤ q → A q := fun q h => by rw [← hAe]; exact Or.inr h
  have hS : va_S A s.heap s.heap [] := va_S.rf
  have hP : va_P Z.1 vwCl [(h0, .inr (0, [.int v, .int kn, .int ak, .ref k, .ref q])), (k, .inl (Z.2 0, 5, .inl f)), (q, .inl (Z.2 0, 5, .inl g))] s.heap := hP
  have hl := lv_entry ([.ref h0, .int a]) (n := 3) (Nat.le_of_ble_eq_true rfl)
  rw [lg_entry_eq]
  generalize (lg_sl ([.ref h0, .int a]) ++ List.replicate (3 - (lg_sl ([.ref h0, .int a])).length) Slot.unset).toArray = ls at hl ⊢
  have hl : lv_has ls 3 [(0, .ref h0), (1, .int a)] := hl
  refine lv_aload_n hx hb dX0_gives_0 rfl (lv_at hl 0 rfl) ?_
  refine va_get (D := Z.1) (ci := 0) (v := .ref q) (C := RX0) (T := TX0) (N := 5) hx hb hts hin0 hown hK hP 0 rfl rfl 4 (by decide) (hts (.fieldLink RX0 26 "HalfAsked$Folk" "pence" "[I") (List.mem_of_getElem? (i := 1) rfl)) (fun _ h9 => h9) rfl dX0_gives_1 ?_
  refine lv_iload_n hx hb dX0_gives_4 rfl (lv_at hl 1 rfl) ?_
  refine va_iald hx hb hK hP 2 0 rfl rfl ha dX0_gives_5 ?_
  refine lv_istore_n (lv' := [(2, .int (g a.toNatClampNeg)), (0, .ref h0), (1, .int a)]) hx hb dX0_gives_6 rfl hl (by decide) rfl (fun ls hl => ?_)
  refine lv_aload_n hx hb dX0_gives_7 rfl (lv_at hl 1 rfl) ?_
  refine va_get (D := Z.1) (ci := 0) (v := .ref k) (C := RX0) (T := TX0) (N := 5) hx hb hts hin0 hown hK hP 0 rfl rfl 3 (by decide) (hts (.fieldLink RX0 22 "HalfAsked$Folk" "kind" "[I") (List.mem_of_getElem? (i := 2) rfl)) (fun _ h9 => h9) rfl dX0_gives_8 ?_
  refine lv_iload_n hx hb dX0_gives_11 rfl (lv_at hl 2 rfl) ?_
  refine va_iald hx hb hK hP 1 0 rfl rfl ha dX0_gives_12 ?_
  rcases Decidable.em (f a.toNatClampNeg = 1) with c_1_1 | c_1_1
  · refine lv_tableIn (tgt := 40) (off := 27) hx hb dX0_gives_13 (by rw [c_1_1]; decide) (by rw [c_1_1]; decide) (by rw [c_1_1]; decide) (by decide) ?_
    refine lv_iload_n hx hb dX0_gives_40 rfl (lv_at hl 0 rfl) ?_
    refine lv_iconst (v := 2) hx hb dX0_gives_41 (by decide) ?_
    refine lv_idiv hx hb dX0_gives_42 (by decide) ?_
    have hP9 := hP.sub (ws' := [(h0, .inr (0, [.int v, .int kn, .int ak, .ref k, .ref q])), (k, .inl (Z.2 0, 5, .inl f)), (q, .inl (Z.2 0, 5, .inl g))]) [0, 1, 2] rfl
    have hD9 := hD.sub (ws' := [(h0, .inr (0, [.int v, .int kn, .int ak, .ref k, .ref q])), (k, .inl (Z.2 0, 5, .inl f)), (q, .inl (Z.2 0, 5, .inl g))]) [0, 1, 2] (by decide +kernel) rfl
    exact W.iret (v := ((g a.toNatClampNeg) / 2)) hx hb hr (fun t9 ht hW => ⟨⟨(g a.toNatClampNeg) / 2, (), rfl, (by unfold q_X0_gives_r; rw [if_pos c_1_1]), by rw [ht]; exact hP9, hD9⟩, hS.F ht⟩) hS.2.2 dX0_gives_43
  · skip
    rcases Decidable.em (f a.toNatClampNeg = 2) with c_1_2 | c_1_2
    · refine lv_tableIn (tgt := 44) (off := 31) hx hb dX0_gives_13 (by rw [c_1_2]; decide) (by rw [c_1_2]; decide) (by rw [c_1_2]; decide) (by decide) ?_
      refine lv_iload_n hx hb dX0_gives_44 rfl (lv_at hl 0 rfl) ?_
      refine lv_iconst (v := 3) hx hb dX0_gives_45 (by decide) ?_
      refine lv_idiv hx hb dX0_gives_46 (by decide) ?_
      have hP9 := hP.sub (ws' := [(h0, .inr (0, [.int v, .int kn, .int ak, .ref k, .ref q])), (k, .inl (Z.2 0, 5, .inl f)), (q, .inl (Z.2 0, 5, .inl g))]) [0, 1, 2] rfl
      have hD9 := hD.sub (ws' := [(h0, .inr (0, [.int v, .int kn, .int ak, .ref k, .ref q])), (k, .inl (Z.2 0, 5, .inl f)), (q, .inl (Z.2 0, 5, .inl g))]) [0, 1, 2] (by decide +kernel) rfl
      exact W.iret (v := ((g a.toNatClampNeg) / 3)) hx hb hr (fun t9 ht hW => ⟨⟨(g a.toNatClampNeg) / 3, (), rfl, (by unfold q_X0_gives_r; rw [if_neg c_1_1, if_pos c_1_2]), by rw [ht]; exact hP9, hD9⟩, hS.F ht⟩) hS.2.2 dX0_gives_47
    · skip
      rcases Decidable.em (f a.toNatClampNeg = 3) with c_1_3 | c_1_3
      · refine lv_tableIn (tgt := 48) (off := 35) hx hb dX0_gives_13 (by rw [c_1_3]; decide) (by rw [c_1_3]; decide) (by rw [c_1_3]; decide) (by decide) ?_
        refine lv_iload_n hx hb dX0_gives_48 rfl (lv_at hl 0 rfl) ?_
        refine lv_bipush (v := 9) hx hb dX0_gives_49 (by decide) ?_
        refine lv_icmp_le (tgt := 61) hx hb dX0_gives_51 (by decide) (fun c_2 => ?_) (fun c_2 => ?_)
        · refine lv_iconst (v := 0) hx hb dX0_gives_61 (by decide) ?_
          have hP9 := hP.sub (ws' := [(h0, .inr (0, [.int v, .int kn, .int ak, .ref k, .ref q])), (k, .inl (Z.2 0, 5, .inl f)), (q, .inl (Z.2 0, 5, .inl g))]) [0, 1, 2] rfl
          have hD9 := hD.sub (ws' := [(h0, .inr (0, [.int v, .int kn, .int ak, .ref k, .ref q])), (k, .inl (Z.2 0, 5, .inl f)), (q, .inl (Z.2 0, 5, .inl g))]) [0, 1, 2] (by decide +kernel) rfl
          exact W.iret (v := 0) hx hb hr (fun t9 ht hW => ⟨⟨0, (), rfl, (by unfold q_X0_gives_r; rw [if_neg c_1_1, if_neg c_1_2, if_pos c_1_3, if_pos c_2]), by rw [ht]; exact hP9, hD9⟩, hS.F ht⟩) hS.2.2 dX0_gives_62
        · refine lv_iload_n hx hb dX0_gives_54 rfl (lv_at hl 0 rfl) ?_
          refine lv_bipush (v := 9) hx hb dX0_gives_55 (by decide) ?_
          refine lv_isub hx hb dX0_gives_57 ?_
          refine lv_goto (tgt := 62) hx hb dX0_gives_58 (by decide) ?_
          have hP9 := hP.sub (ws' := [(h0, .inr (0, [.int v, .int kn, .int ak, .ref k, .ref q])), (k, .inl (Z.2 0, 5, .inl f)), (q, .inl (Z.2 0, 5, .inl g))]) [0, 1, 2] rfl
          have hD9 := hD.sub (ws' := [(h0, .inr (0, [.int v, .int kn, .int ak, .ref k, .ref q])), (k, .inl (Z.2 0, 5, .inl f)), (q, .inl (Z.2 0, 5, .inl g))]) [0, 1, 2] (by decide +kernel) rfl
          exact W.iret (v := ((g a.toNatClampNeg) - 9)) hx hb hr (fun t9 ht hW => ⟨⟨(g a.toNatClampNeg) - 9, (), rfl, (by unfold q_X0_gives_r; rw [if_neg c_1_1, if_neg c_1_2, if_pos c_1_3, if_neg c_2]), by rw [ht]; exact hP9, hD9⟩, hS.F ht⟩) hS.2.2 dX0_gives_62
      · skip
        refine lv_tableOut (tgt := 63) hx hb dX0_gives_13 (z_out_1_3 c_1_1 c_1_2 c_1_3) (by decide) ?_
        refine lv_iload_n hx hb dX0_gives_63 rfl (lv_at hl 0 rfl) ?_
        refine lv_iload_n hx hb dX0_gives_64 rfl (lv_at hl 0 rfl) ?_
        refine lv_iconst (v := 2) hx hb dX0_gives_65 (by decide) ?_
        refine lv_idiv hx hb dX0_gives_66 (by decide) ?_
        refine lv_isub hx hb dX0_gives_67 ?_
        have hP9 := hP.sub (ws' := [(h0, .inr (0, [.int v, .int kn, .int ak, .ref k, .ref q])), (k, .inl (Z.2 0, 5, .inl f)), (q, .inl (Z.2 0, 5, .inl g))]) [0, 1, 2] rfl
        have hD9 := hD.sub (ws' := [(h0, .inr (0, [.int v, .int kn, .int ak, .ref k, .ref q])), (k, .inl (Z.2 0, 5, .inl f)), (q, .inl (Z.2 0, 5, .inl g))]) [0, 1, 2] (by decide +kernel) rfl
        exact W.iret (v := ((g a.toNatClampNeg) - ((g a.toNatClampNeg) / 2))) hx hb hr (fun t9 ht hW => ⟨⟨(g a.toNatClampNeg) - ((g a.toNatClampNeg) / 2), (), rfl, (by unfold q_X0_gives_r; rw [if_neg c_1_1, if_neg c_1_2, if_neg c_1_3]), by rw [ht]; exact hP9, hD9⟩, hS.F ht⟩) hS.2.2 dX0_gives_68
def q_X0_tryAsking_r (kn : Int32) (ak : Int32) (f : Nat → Int32) (g : Nat → Int32) (a : Int32) (b : Int32) : Int32 := (if (kn &&& (q_X0_pair_r a b)) = 0 then (-2 : Int32) else (if (ak &&& (q_X0_pair_r a b)) = 0 then (if 0 < (g b.toNatClampNeg) then (q_X0_gives_r f g b) else (-2 : Int32)) else (-2 : Int32)))
def q_X0_tryAsking_ak1 (kn : Int32) (ak : Int32) (g : Nat → Int32) (a : Int32) (b : Int32) : Int32 := (if (kn &&& (q_X0_pair_r a b)) = 0 then ak else (if (ak &&& (q_X0_pair_r a b)) = 0 then (if 0 < (g b.toNatClampNeg) then (ak ||| (q_X0_pair_r a b)) else ak) else ak))
def q_X0_tryAsking_g1 (kn : Int32) (ak : Int32) (f : Nat → Int32) (g : Nat → Int32) (a : Int32) (b : Int32) : Nat → Int32 := (if (kn &&& (q_X0_pair_r a b)) = 0 then g else (if (ak &&& (q_X0_pair_r a b)) = 0 then (if 0 < (g b.toNatClampNeg) then (upd (upd g (b.toNatClampNeg) ((g b.toNatClampNeg) - (q_X0_gives_r f g b))) (a.toNatClampNeg) (((upd g (b.toNatClampNeg) ((g b.toNatClampNeg) - (q_X0_gives_r f g b))) a.toNatClampNeg) + (q_X0_gives_r f g b))) else g) else g))
set_option maxHeartbeats 4000000 in
set_option maxRecDepth 100000 in
theorem c_X0_tryAsking (l : Launch) (Z : gZ) (sz : Nat) (h0 : Nat) (v : Int32) (kn : Int32) (ak : Int32) (k : Nat) (q : Nat) (f : Nat → Int32) (g : Nat → Int32) (a : Int32) (b : Int32) (ha : vp_in a 5) (hb2 : vp_in b 5) : Met l yX0_tryAsking wsX0_tryAsking ({ frames := 1, cells := 0, slots := 0, locals := 22 }) (va_Pc [.ref h0, .int a, .int b] (fun U => U.heap.size = sz ∧ va_P Z.1 vwCl [(h0, .inr (0, [.int v, .int kn, .int ak, .ref k, .ref q])), (k, .inl (Z.2 0, 5, .inl f)), (q, .inl (Z.2 0, 5, .inl g))] U.heap ∧ va_K Z.1 vwCl (gT Z) U ∧ va_D (fun _ => True) [(h0, .inr (0, [.int v, .int kn, .int ak, .ref k, .ref q])), (k, .inl (Z.2 0, 5, .inl f)), (q, .inl (Z.2 0, 5, .inl g))])) (va_Qi (fun (r : Int32) (u : Int32 × (Nat → Int32)) => match u with | (ak1, g1) => r = q_X0_tryAsking_r kn ak f g a b ∧ q_X0_tryAsking_ak1 kn ak g a b = ak1 ∧ q_X0_tryAsking_g1 kn ak f g a b = g1) (fun (u : Int32 × (Nat → Int32)) (t9 : State) => match u with | (ak1, g1) => va_P Z.1 vwCl [(h0, .inr (0, [.int v, .int kn, .int ak1, .ref k, .ref q])), (k, .inl (Z.2 0, 5, .inl f)), (q, .inl (Z.2 0, 5, .inl g1))] t9.heap ∧ va_D (va_A [(h0, .inr (0, [.int v, .int kn, .int ak, .ref k, .ref q])), (k, .inl (Z.2 0, 5, .inl f)), (q, .inl (Z.2 0, 5, .inl g))] sz) [(h0, .inr (0, [.int v, .int kn, .int ak1, .ref k, .ref q])), (k, .inl (Z.2 0, 5, .inl f)), (q, .inl (Z.2 0, 5, .inl g1))]) (va_A [(h0, .inr (0, [.int v, .int kn, .int ak, .ref k, .ref q])), (k, .inl (Z.2 0, 5, .inl f)), (q, .inl (Z.2 0, 5, .inl g))] sz)) 0 0 (va_A [(h0, .inr (0, [.int v, .int kn, .int ak, .ref k, .ref q])), (k, .inl (Z.2 0, 5, .inl f)), (q, .inl (Z.2 0, 5, .inl g))] sz) := by
  refine Met.ofW (cc := cX0_tryAsking) (maxL := 5) (ret := (some .int)) (by decide) rfl ?_
  intro p e s m args below meth c s₁ B hml hv
  obtain ⟨rfl, hsz, hP, hK, hD0⟩ := hv
  have hx := B.exec
  have hb := B.bytes
  have hr := B.returns
  have hts := atoms_spec (ws := wsX0_tryAsking) B.pre
  have hown : s.vm.findClass RX0 = some m.cls := findClass_of_methodNamed B.named
  have hlocks := B.notSynchronized
  subst hsz
  have hin0 : ∀ w ∈ wsX00, w ∈ wsX0_tryAsking := fun w h9 => (List.mem_cons_of_mem _ (List.mem_append_right _ h9))
  have hD := hD0.self (sz := s.heap.size)
  generalize hAe : va_A [(h0, .inr (0, [.int v, .int kn, .int ak, .ref k, .ref q])), (k, .inl (Z.2 0, 5, .inl f)), (q, .inl (Z.2 0, 5, .inl g))] s.heap.size = A at hD ⊢
  have hA : ∀ q : Nat, s.heap.size ≤ q → A q := fun q h => by rw [← hAe]; exact Or.inr h
  have hS : va_S A s.heap s.heap [] := va_S.rf
  have hP : va_P Z.1 vwCl [(h0, .inr (0, [.int v, .int kn, .int ak, .ref k, .ref q])), (k, .inl (Z.2 0, 5, .inl f)), (q, .inl (Z.2 0, 5, .inl g))] s.heap := hP
  have hl := lv_entry ([.ref h0, .int a, .int b]) (n := 5) (Nat.le_of_ble_eq_true rfl)
  rw [lg_entry_eq]
  generalize (lg_sl ([.ref h0, .int a, .int b]) ++ List.replicate (5 - (lg_sl ([.ref h0, .int a, .int b])).length) Slot.unset).toArray = ls at hl ⊢
  have hl : lv_has ls 5 [(0, .ref h0), (1, .int a), (2, .int b)] := hl
  refine lv_iload_n hx hb dX0_tryAsking_0 rfl (lv_at hl 1 rfl) ?_
  refine lv_iload_n hx hb dX0_tryAsking_1 rfl (lv_at hl 2 rfl) ?_
  have hPc := hP.sub (ws' := []) [] rfl
  have hDc := hD.sub (ws' := []) [] (by decide +kernel) rfl
  have hFc := va_free (wc := []) hD hS hA [] rfl
  refine va_calli (va_runS (As := [.int a, .int b]) (rest := []) ⟨hx, hb, hml, hown, hts⟩ (c_X0_pair l Z s.heap.size a b) (va_cwS 2 hts gX0_tryAsking_X0_pair rfl rfl rfl (by decide +kernel) ⟨Nat.le_of_ble_eq_true rfl, Nat.le_of_ble_eq_true rfl⟩) ⟨fun a U g mk q => by obtain ⟨q0, q1, qP, qK, qD⟩ := q; exact ⟨q0, q1, qP, va_K.moved (u := U) (U := U.calling g mk a) (Vm.Alike.refl U.vm) qK, qD⟩, fun U hU hW => ⟨rfl, by rw [hU], by rw [hU]; exact hPc, va_K.moved hW.alike hK, hDc.weaken (fun _ _ _ _ => trivial)⟩⟩ rfl rfl hl.1 rfl (lv_room (Nat.le_of_ble_eq_true rfl)) dX0_tryAsking_2 ⟨Nat.le_of_ble_eq_true rfl, Nat.le_of_ble_eq_true rfl⟩) hS (fun q _ h => hFc q h) hFc (fun r_1 u t9 H1 locs ht hvm hw hB hz1 hk1 hS => ?_)
  have hw9 := hw.symm
  clear hw
  subst hw9
  have hP1 : va_P Z.1 vwCl [] H1 := fun k q h => by simp at h
  have hD1 : va_D (va_A [] s.heap.size) [] := ⟨fun i j p q h => by simp at h, fun k q h => by simp at h⟩
  obtain ⟨hP, hD⟩ := va_join (wr := [(h0, .inr (0, [.int v, .int kn, .int ak, .ref k, .ref q])), (k, .inl (Z.2 0, 5, .inl f)), (q, .inl (Z.2 0, 5, .inl g))]) (w1 := []) hP hD [] [0, 1, 2] rfl rfl (by decide +kernel) (by decide +kernel) hk1 hFc hP1 hD1
  clear hPc hDc hP1 hD1 hk1 hz1 hFc ht hvm
  generalize H1 = H at hP hS ⊢
  have hP : va_P Z.1 vwCl [(h0, .inr (0, [.int v, .int kn, .int ak, .ref k, .ref q])), (k, .inl (Z.2 0, 5, .inl f)), (q, .inl (Z.2 0, 5, .inl g))] H := hP
  have hD : va_D A [(h0, .inr (0, [.int v, .int kn, .int ak, .ref k, .ref q])), (k, .inl (Z.2 0, 5, .inl f)), (q, .inl (Z.2 0, 5, .inl g))] := hD
  refine lv_istore_n (lv' := [(3, .int (q_X0_pair_r a b)), (0, .ref h0), (1, .int a), (2, .int b)]) hx hb dX0_tryAsking_5 rfl hl (by decide) rfl (fun ls hl => ?_)
  refine lv_aload_n hx hb dX0_tryAsking_6 rfl (lv_at hl 1 rfl) ?_
  refine va_get (D := Z.1) (ci := 0) (v := .int kn) (C := RX0) (T := TX0) (N := 5) hx hb hts hin0 hown hK hP 0 rfl rfl 1 (by decide) (hts (.fieldLink RX0 16 "HalfAsked$Folk" "known" "I") (List.mem_of_getElem? (i := 1) rfl)) (fun _ h9 => h9) rfl dX0_tryAsking_7 ?_
  refine lv_iload_n hx hb dX0_tryAsking_10 rfl (lv_at hl 0 rfl) ?_
  refine lv_iand hx hb dX0_tryAsking_11 ?_
  refine lv_if_eq (tgt := 33) hx hb dX0_tryAsking_12 (by decide) (fun c_2 => ?_) (fun c_2 => ?_)
  · refine lv_bipush (v := (-2)) hx hb dX0_tryAsking_33 (by decide) ?_
    have hP9 := hP.sub (ws' := [(h0, .inr (0, [.int v, .int kn, .int ak, .ref k, .ref q])), (k, .inl (Z.2 0, 5, .inl f)), (q, .inl (Z.2 0, 5, .inl g))]) [0, 1, 2] rfl
    have hD9 := hD.sub (ws' := [(h0, .inr (0, [.int v, .int kn, .int ak, .ref k, .ref q])), (k, .inl (Z.2 0, 5, .inl f)), (q, .inl (Z.2 0, 5, .inl g))]) [0, 1, 2] (by decide +kernel) rfl
    exact W.iret (v := (-2)) hx hb hr (fun t9 ht hW => ⟨⟨(-2), (ak, g), rfl, ⟨(by unfold q_X0_tryAsking_r; rw [if_pos c_2]), (by unfold q_X0_tryAsking_ak1; rw [if_pos c_2]), (by unfold q_X0_tryAsking_g1; rw [if_pos c_2])⟩, by rw [ht]; exact hP9, hD9⟩, hS.F ht⟩) hS.2.2 dX0_tryAsking_35
  · refine lv_aload_n hx hb dX0_tryAsking_15 rfl (lv_at hl 1 rfl) ?_
    refine va_get (D := Z.1) (ci := 0) (v := .int ak) (C := RX0) (T := TX0) (N := 5) hx hb hts hin0 hown hK hP 0 rfl rfl 2 (by decide) (hts (.fieldLink RX0 19 "HalfAsked$Folk" "asked" "I") (List.mem_of_getElem? (i := 2) rfl)) (fun _ h9 => h9) rfl dX0_tryAsking_16 ?_
    refine lv_iload_n hx hb dX0_tryAsking_19 rfl (lv_at hl 0 rfl) ?_
    refine lv_iand hx hb dX0_tryAsking_20 ?_
    refine lv_if_ne (tgt := 33) hx hb dX0_tryAsking_21 (by decide) (fun c_3 => ?_) (fun c_3 => ?_)
    · refine lv_bipush (v := (-2)) hx hb dX0_tryAsking_33 (by decide) ?_
      have hP9 := hP.sub (ws' := [(h0, .inr (0, [.int v, .int kn, .int ak, .ref k, .ref q])), (k, .inl (Z.2 0, 5, .inl f)), (q, .inl (Z.2 0, 5, .inl g))]) [0, 1, 2] rfl
      have hD9 := hD.sub (ws' := [(h0, .inr (0, [.int v, .int kn, .int ak, .ref k, .ref q])), (k, .inl (Z.2 0, 5, .inl f)), (q, .inl (Z.2 0, 5, .inl g))]) [0, 1, 2] (by decide +kernel) rfl
      exact W.iret (v := (-2)) hx hb hr (fun t9 ht hW => ⟨⟨(-2), (ak, g), rfl, ⟨(by unfold q_X0_tryAsking_r; rw [if_neg c_2, if_neg c_3]), (by unfold q_X0_tryAsking_ak1; rw [if_neg c_2, if_neg c_3]), (by unfold q_X0_tryAsking_g1; rw [if_neg c_2, if_neg c_3])⟩, by rw [ht]; exact hP9, hD9⟩, hS.F ht⟩) hS.2.2 dX0_tryAsking_35
    · refine lv_aload_n hx hb dX0_tryAsking_24 rfl (lv_at hl 1 rfl) ?_
      refine va_get (D := Z.1) (ci := 0) (v := .ref q) (C := RX0) (T := TX0) (N := 5) hx hb hts hin0 hown hK hP 0 rfl rfl 4 (by decide) (hts (.fieldLink RX0 26 "HalfAsked$Folk" "pence" "[I") (List.mem_of_getElem? (i := 3) rfl)) (fun _ h9 => h9) rfl dX0_tryAsking_25 ?_
      refine lv_iload_n hx hb dX0_tryAsking_28 rfl (lv_at hl 3 rfl) ?_
      refine va_iald hx hb hK hP 2 0 rfl rfl hb2 dX0_tryAsking_29 ?_
      refine lv_if_gt (tgt := 36) hx hb dX0_tryAsking_30 (by decide) (fun c_4 => ?_) (fun c_4 => ?_)
      · refine lv_aload_n hx hb dX0_tryAsking_36 rfl (lv_at hl 1 rfl) ?_
        refine lv_iload_n hx hb dX0_tryAsking_37 rfl (lv_at hl 3 rfl) ?_
        have hPc := hP.sub (ws' := [(h0, .inr (0, [.int v, .int kn, .int ak, .ref k, .ref q])), (k, .inl (Z.2 0, 5, .inl f)), (q, .inl (Z.2 0, 5, .inl g))]) [0, 1, 2] rfl
        have hDc := hD.sub (ws' := [(h0, .inr (0, [.int v, .int kn, .int ak, .ref k, .ref q])), (k, .inl (Z.2 0, 5, .inl f)), (q, .inl (Z.2 0, 5, .inl g))]) [0, 1, 2] (by decide +kernel) rfl
        have hFc := va_free (wc := [(h0, .inr (0, [.int v, .int kn, .int ak, .ref k, .ref q])), (k, .inl (Z.2 0, 5, .inl f)), (q, .inl (Z.2 0, 5, .inl g))]) hD hS hA [0, 1, 2] rfl
        refine va_calli (va_runV (As := [.int b]) (rest := []) ⟨hx, hb, hml, hown, hts⟩ (c_X0_gives l Z H.size h0 v kn ak k q f g b (hb2)) (cwV 1 hts gX0_tryAsking_X0_gives rfl rfl rfl (by decide +kernel) ⟨Nat.le_of_ble_eq_true rfl, Nat.le_of_ble_eq_true rfl⟩) ⟨fun a U g mk q => by obtain ⟨q0, q1, qP, qK, qD⟩ := q; exact ⟨q0, q1, qP, va_K.moved (u := U) (U := U.calling g mk a) (Vm.Alike.refl U.vm) qK, qD⟩, va_recv hK hPc (ci := 0) (q0 := 0) rfl rfl, fun U hU hW => ⟨rfl, by rw [hU], by rw [hU]; exact hPc, va_K.moved hW.alike hK, hDc.weaken (fun _ _ _ _ => trivial)⟩⟩ rfl rfl hl.1 rfl (lv_room (Nat.le_of_ble_eq_true rfl)) dX0_tryAsking_38 ⟨Nat.le_of_ble_eq_true rfl, Nat.le_of_ble_eq_true rfl⟩) hS (fun q _ h => hFc q h) hFc (fun r_5 u t9 H1 locs ht hvm hw hB hz1 hk1 hS => ?_)
        have hw9 := hw.symm
        clear hw
        subst hw9
        obtain ⟨hP1, hD1⟩ := hB
        rw [ht] at hP1
        obtain ⟨hP, hD⟩ := va_join (wr := []) (w1 := [(h0, .inr (0, [.int v, .int kn, .int ak, .ref k, .ref q])), (k, .inl (Z.2 0, 5, .inl f)), (q, .inl (Z.2 0, 5, .inl g))]) hP hD [0, 1, 2] [] rfl rfl (by decide +kernel) (by decide +kernel) hk1 hFc hP1 hD1
        clear hPc hDc hP1 hD1 hk1 hz1 hFc ht hvm
        generalize H1 = H at hP hS ⊢
        have hP : va_P Z.1 vwCl [(h0, .inr (0, [.int v, .int kn, .int ak, .ref k, .ref q])), (k, .inl (Z.2 0, 5, .inl f)), (q, .inl (Z.2 0, 5, .inl g))] H := hP
        have hD : va_D A [(h0, .inr (0, [.int v, .int kn, .int ak, .ref k, .ref q])), (k, .inl (Z.2 0, 5, .inl f)), (q, .inl (Z.2 0, 5, .inl g))] := hD
        refine lv_istore (lv' := [(4, .int (q_X0_gives_r f g b)), (3, .int (q_X0_pair_r a b)), (0, .ref h0), (1, .int a), (2, .int b)]) hx hb dX0_tryAsking_41 hl (by decide) rfl (fun ls hl => ?_)
        refine lv_aload_n hx hb dX0_tryAsking_43 rfl (lv_at hl 2 rfl) ?_
        refine va_get (D := Z.1) (ci := 0) (v := .ref q) (C := RX0) (T := TX0) (N := 5) hx hb hts hin0 hown hK hP 0 rfl rfl 4 (by decide) (hts (.fieldLink RX0 26 "HalfAsked$Folk" "pence" "[I") (List.mem_of_getElem? (i := 3) rfl)) (fun _ h9 => h9) rfl dX0_tryAsking_44 ?_
        refine lv_iload_n hx hb dX0_tryAsking_47 rfl (lv_at hl 4 rfl) ?_
        refine lv_dup2_11 hx hb dX0_tryAsking_48 rfl rfl ?_
        refine va_iald hx hb hK hP 2 0 rfl rfl hb2 dX0_tryAsking_49 ?_
        refine lv_iload hx hb dX0_tryAsking_50 (lv_at hl 0 rfl) ?_
        refine lv_isub hx hb dX0_tryAsking_52 ?_
        refine va_iast hx hb hK hP hD hS 2 0 rfl rfl hb2 dX0_tryAsking_53 (fun H locs hP hD hS => ?_)
        have hP : va_P Z.1 vwCl [(h0, .inr (0, [.int v, .int kn, .int ak, .ref k, .ref q])), (k, .inl (Z.2 0, 5, .inl f)), (q, .inl (Z.2 0, 5, .inl (upd g (b.toNatClampNeg) ((g b.toNatClampNeg) - (q_X0_gives_r f g b)))))] H := hP
        have hD : va_D A [(h0, .inr (0, [.int v, .int kn, .int ak, .ref k, .ref q])), (k, .inl (Z.2 0, 5, .inl f)), (q, .inl (Z.2 0, 5, .inl (upd g (b.toNatClampNeg) ((g b.toNatClampNeg) - (q_X0_gives_r f g b)))))] := hD
        refine lv_aload_n hx hb dX0_tryAsking_54 rfl (lv_at hl 2 rfl) ?_
        refine va_get (D := Z.1) (ci := 0) (v := .ref q) (C := RX0) (T := TX0) (N := 5) hx hb hts hin0 hown hK hP 0 rfl rfl 4 (by decide) (hts (.fieldLink RX0 26 "HalfAsked$Folk" "pence" "[I") (List.mem_of_getElem? (i := 3) rfl)) (fun _ h9 => h9) rfl dX0_tryAsking_55 ?_
        refine lv_iload_n hx hb dX0_tryAsking_58 rfl (lv_at hl 3 rfl) ?_
        refine lv_dup2_11 hx hb dX0_tryAsking_59 rfl rfl ?_
        refine va_iald hx hb hK hP 2 0 rfl rfl ha dX0_tryAsking_60 ?_
        refine lv_iload hx hb dX0_tryAsking_61 (lv_at hl 0 rfl) ?_
        refine lv_iadd hx hb dX0_tryAsking_63 ?_
        refine va_iast hx hb hK hP hD hS 2 0 rfl rfl ha dX0_tryAsking_64 (fun H locs hP hD hS => ?_)
        have hP : va_P Z.1 vwCl [(h0, .inr (0, [.int v, .int kn, .int ak, .ref k, .ref q])), (k, .inl (Z.2 0, 5, .inl f)), (q, .inl (Z.2 0, 5, .inl (upd (upd g (b.toNatClampNeg) ((g b.toNatClampNeg) - (q_X0_gives_r f g b))) (a.toNatClampNeg) (((upd g (b.toNatClampNeg) ((g b.toNatClampNeg) - (q_X0_gives_r f g b))) a.toNatClampNeg) + (q_X0_gives_r f g b)))))] H := hP
        have hD : va_D A [(h0, .inr (0, [.int v, .int kn, .int ak, .ref k, .ref q])), (k, .inl (Z.2 0, 5, .inl f)), (q, .inl (Z.2 0, 5, .inl (upd (upd g (b.toNatClampNeg) ((g b.toNatClampNeg) - (q_X0_gives_r f g b))) (a.toNatClampNeg) (((upd g (b.toNatClampNeg) ((g b.toNatClampNeg) - (q_X0_gives_r f g b))) a.toNatClampNeg) + (q_X0_gives_r f g b)))))] := hD
        refine lv_aload_n hx hb dX0_tryAsking_65 rfl (lv_at hl 2 rfl) ?_
        refine lv_dup hx hb dX0_tryAsking_66 rfl ?_
        refine va_get (D := Z.1) (ci := 0) (v := .int ak) (C := RX0) (T := TX0) (N := 5) hx hb hts hin0 hown hK hP 0 rfl rfl 2 (by decide) (hts (.fieldLink RX0 19 "HalfAsked$Folk" "asked" "I") (List.mem_of_getElem? (i := 2) rfl)) (fun _ h9 => h9) rfl dX0_tryAsking_67 ?_
        refine lv_iload_n hx hb dX0_tryAsking_70 rfl (lv_at hl 1 rfl) ?_
        refine lv_ior hx hb dX0_tryAsking_71 ?_
        refine va_put (D := Z.1) (ci := 0) (v := .int (ak ||| (q_X0_pair_r a b))) (ty := .int) (C := RX0) (T := TX0) (N := 5) hx hb hts hin0 tyX0 tyX0_ok nmX0 hown hK hP hD hS 0 rfl rfl 2 (by decide) (hts (.fieldLink RX0 19 "HalfAsked$Folk" "asked" "I") (List.mem_of_getElem? (i := 2) rfl)) (fun _ h9 => h9) rfl (by decide +kernel) rfl rfl (Nat.le_of_ble_eq_true rfl) dX0_tryAsking_72 (fun H locs hP hD hS => ?_)
        have hP : va_P Z.1 vwCl [(h0, .inr (0, [.int v, .int kn, .int (ak ||| (q_X0_pair_r a b)), .ref k, .ref q])), (k, .inl (Z.2 0, 5, .inl f)), (q, .inl (Z.2 0, 5, .inl (upd (upd g (b.toNatClampNeg) ((g b.toNatClampNeg) - (q_X0_gives_r f g b))) (a.toNatClampNeg) (((upd g (b.toNatClampNeg) ((g b.toNatClampNeg) - (q_X0_gives_r f g b))) a.toNatClampNeg) + (q_X0_gives_r f g b)))))] H := hP
        have hD : va_D A [(h0, .inr (0, [.int v, .int kn, .int (ak ||| (q_X0_pair_r a b)), .ref k, .ref q])), (k, .inl (Z.2 0, 5, .inl f)), (q, .inl (Z.2 0, 5, .inl (upd (upd g (b.toNatClampNeg) ((g b.toNatClampNeg) - (q_X0_gives_r f g b))) (a.toNatClampNeg) (((upd g (b.toNatClampNeg) ((g b.toNatClampNeg) - (q_X0_gives_r f g b))) a.toNatClampNeg) + (q_X0_gives_r f g b)))))] := hD
        refine lv_iload hx hb dX0_tryAsking_75 (lv_at hl 0 rfl) ?_
        have hP9 := hP.sub (ws' := [(h0, .inr (0, [.int v, .int kn, .int (ak ||| (q_X0_pair_r a b)), .ref k, .ref q])), (k, .inl (Z.2 0, 5, .inl f)), (q, .inl (Z.2 0, 5, .inl (upd (upd g (b.toNatClampNeg) ((g b.toNatClampNeg) - (q_X0_gives_r f g b))) (a.toNatClampNeg) (((upd g (b.toNatClampNeg) ((g b.toNatClampNeg) - (q_X0_gives_r f g b))) a.toNatClampNeg) + (q_X0_gives_r f g b)))))]) [0, 1, 2] rfl
        have hD9 := hD.sub (ws' := [(h0, .inr (0, [.int v, .int kn, .int (ak ||| (q_X0_pair_r a b)), .ref k, .ref q])), (k, .inl (Z.2 0, 5, .inl f)), (q, .inl (Z.2 0, 5, .inl (upd (upd g (b.toNatClampNeg) ((g b.toNatClampNeg) - (q_X0_gives_r f g b))) (a.toNatClampNeg) (((upd g (b.toNatClampNeg) ((g b.toNatClampNeg) - (q_X0_gives_r f g b))) a.toNatClampNeg) + (q_X0_gives_r f g b)))))]) [0, 1, 2] (by decide +kernel) rfl
        exact W.iret (v := (q_X0_gives_r f g b)) hx hb hr (fun t9 ht hW => ⟨⟨q_X0_gives_r f g b, (ak ||| (q_X0_pair_r a b), upd (upd g (b.toNatClampNeg) ((g b.toNatClampNeg) - (q_X0_gives_r f g b))) (a.toNatClampNeg) (((upd g (b.toNatClampNeg) ((g b.toNatClampNeg) - (q_X0_gives_r f g b))) a.toNatClampNeg) + (q_X0_gives_r f g b))), rfl, ⟨(by unfold q_X0_tryAsking_r; rw [if_neg c_2, if_pos c_3, if_pos c_4]), (by unfold q_X0_tryAsking_ak1; rw [if_neg c_2, if_pos c_3, if_pos c_4]), (by unfold q_X0_tryAsking_g1; rw [if_neg c_2, if_pos c_3, if_pos c_4])⟩, by rw [ht]; exact hP9, hD9⟩, hS.F ht⟩) hS.2.2 dX0_tryAsking_77
      · refine lv_bipush (v := (-2)) hx hb dX0_tryAsking_33 (by decide) ?_
        have hP9 := hP.sub (ws' := [(h0, .inr (0, [.int v, .int kn, .int ak, .ref k, .ref q])), (k, .inl (Z.2 0, 5, .inl f)), (q, .inl (Z.2 0, 5, .inl g))]) [0, 1, 2] rfl
        have hD9 := hD.sub (ws' := [(h0, .inr (0, [.int v, .int kn, .int ak, .ref k, .ref q])), (k, .inl (Z.2 0, 5, .inl f)), (q, .inl (Z.2 0, 5, .inl g))]) [0, 1, 2] (by decide +kernel) rfl
        exact W.iret (v := (-2)) hx hb hr (fun t9 ht hW => ⟨⟨(-2), (ak, g), rfl, ⟨(by unfold q_X0_tryAsking_r; rw [if_neg c_2, if_pos c_3, if_neg c_4]), (by unfold q_X0_tryAsking_ak1; rw [if_neg c_2, if_pos c_3, if_neg c_4]), (by unfold q_X0_tryAsking_g1; rw [if_neg c_2, if_pos c_3, if_neg c_4])⟩, by rw [ht]; exact hP9, hD9⟩, hS.F ht⟩) hS.2.2 dX0_tryAsking_35
def q_X0_add_f1 (n : Nat) (f : Nat → Int32) (a : Int32) : Nat → Int32 := upd f ((nI n).toNatClampNeg) a
def q_X0_add_g1 (n : Nat) (g : Nat → Int32) (b : Int32) : Nat → Int32 := upd g ((nI n).toNatClampNeg) b
set_option maxHeartbeats 4000000 in
set_option maxRecDepth 100000 in
theorem c_X0_add (l : Launch) (Z : gZ) (sz : Nat) (h0 : Nat) (n : Nat) (kn : Int32) (ak : Int32) (k : Nat) (q : Nat) (f : Nat → Int32) (g : Nat → Int32) (a : Int32) (b : Int32) (hn : n < 5) : Met l yX0_add wsX0_add ({ frames := 0, cells := 0, slots := 0, locals := 0 }) (va_Pc [.ref h0, .int a, .int b] (fun U => U.heap.size = sz ∧ va_P Z.1 vwCl [(h0, .inr (0, [.int (nI n), .int kn, .int ak, .ref k, .ref q])), (k, .inl (Z.2 0, 5, .inl f)), (q, .inl (Z.2 0, 5, .inl g))] U.heap ∧ va_K Z.1 vwCl (gT Z) U ∧ va_D (fun _ => True) [(h0, .inr (0, [.int (nI n), .int kn, .int ak, .ref k, .ref q])), (k, .inl (Z.2 0, 5, .inl f)), (q, .inl (Z.2 0, 5, .inl g))])) (va_Qv (fun (u : (Nat → Int32) × (Nat → Int32)) => match u with | (f1, g1) => q_X0_add_f1 n f a = f1 ∧ q_X0_add_g1 n g b = g1) (fun (u : (Nat → Int32) × (Nat → Int32)) (t9 : State) => match u with | (f1, g1) => va_P Z.1 vwCl [(h0, .inr (0, [.int (nI (n + 1)), .int kn, .int ak, .ref k, .ref q])), (k, .inl (Z.2 0, 5, .inl f1)), (q, .inl (Z.2 0, 5, .inl g1))] t9.heap ∧ va_D (va_A [(h0, .inr (0, [.int (nI n), .int kn, .int ak, .ref k, .ref q])), (k, .inl (Z.2 0, 5, .inl f)), (q, .inl (Z.2 0, 5, .inl g))] sz) [(h0, .inr (0, [.int (nI (n + 1)), .int kn, .int ak, .ref k, .ref q])), (k, .inl (Z.2 0, 5, .inl f1)), (q, .inl (Z.2 0, 5, .inl g1))]) (va_A [(h0, .inr (0, [.int (nI n), .int kn, .int ak, .ref k, .ref q])), (k, .inl (Z.2 0, 5, .inl f)), (q, .inl (Z.2 0, 5, .inl g))] sz)) 0 0 (va_A [(h0, .inr (0, [.int (nI n), .int kn, .int ak, .ref k, .ref q])), (k, .inl (Z.2 0, 5, .inl f)), (q, .inl (Z.2 0, 5, .inl g))] sz) := by
  refine Met.ofW (cc := cX0_add) (maxL := 3) (ret := none) (by decide) rfl ?_
  intro p e s m args below meth c s₁ B hml hv
  obtain ⟨rfl, hsz, hP, hK, hD0⟩ := hv
  have hx := B.exec
  have hb := B.bytes
  have hr := B.returns
  have hts := atoms_spec (ws := wsX0_add) B.pre
  have hown : s.vm.findClass RX0 = some m.cls := findClass_of_methodNamed B.named
  have hlocks := B.notSynchronized
  subst hsz
  have hin0 : ∀ w ∈ wsX00, w ∈ wsX0_add := fun w h9 => (List.mem_cons_of_mem _ (List.mem_append_right _ h9))
  have hD := hD0.self (sz := s.heap.size)
  generalize hAe : va_A [(h0, .inr (0, [.int (nI n), .int kn, .int ak, .ref k, .ref q])), (k, .inl (Z.2 0, 5, .inl f)), (q, .inl (Z.2 0, 5, .inl g))] s.heap.size = A at hD ⊢
  have hA : ∀ q : Nat, s.heap.size ≤ q → A q := fun q h => by rw [← hAe]; exact Or.inr h
  have hS : va_S A s.heap s.heap [] := va_S.rf
  have hP : va_P Z.1 vwCl [(h0, .inr (0, [.int (nI n), .int kn, .int ak, .ref k, .ref q])), (k, .inl (Z.2 0, 5, .inl f)), (q, .inl (Z.2 0, 5, .inl g))] s.heap := hP
  have hl := lv_entry ([.ref h0, .int a, .int b]) (n := 3) (Nat.le_of_ble_eq_true rfl)
  rw [lg_entry_eq]
  generalize (lg_sl ([.ref h0, .int a, .int b]) ++ List.replicate (3 - (lg_sl ([.ref h0, .int a, .int b])).length) Slot.unset).toArray = ls at hl ⊢
  have hl : lv_has ls 3 [(0, .ref h0), (1, .int a), (2, .int b)] := hl
  refine lv_aload_n hx hb dX0_add_0 rfl (lv_at hl 0 rfl) ?_
  refine va_get (D := Z.1) (ci := 0) (v := .int (nI n)) (C := RX0) (T := TX0) (N := 5) hx hb hts hin0 hown hK hP 0 rfl rfl 0 (by decide) (hts (.fieldLink RX0 9 "HalfAsked$Folk" "size" "I") (List.mem_of_getElem? (i := 1) rfl)) (fun _ h9 => h9) rfl dX0_add_1 ?_
  refine lv_iconst (v := 5) hx hb dX0_add_4 (by decide) ?_
  refine lv_icmp_ge (tgt := 38) hx hb dX0_add_5 (by decide) (fun c9 => absurd c9 (nI_ge (a := n) (b := 5) hn (by decide))) (fun _ => ?_)
  refine lv_aload_n hx hb dX0_add_8 rfl (lv_at hl 0 rfl) ?_
  refine va_get (D := Z.1) (ci := 0) (v := .ref k) (C := RX0) (T := TX0) (N := 5) hx hb hts hin0 hown hK hP 0 rfl rfl 3 (by decide) (hts (.fieldLink RX0 22 "HalfAsked$Folk" "kind" "[I") (List.mem_of_getElem? (i := 2) rfl)) (fun _ h9 => h9) rfl dX0_add_9 ?_
  refine lv_aload_n hx hb dX0_add_12 rfl (lv_at hl 0 rfl) ?_
  refine va_get (D := Z.1) (ci := 0) (v := .int (nI n)) (C := RX0) (T := TX0) (N := 5) hx hb hts hin0 hown hK hP 0 rfl rfl 0 (by decide) (hts (.fieldLink RX0 9 "HalfAsked$Folk" "size" "I") (List.mem_of_getElem? (i := 1) rfl)) (fun _ h9 => h9) rfl dX0_add_13 ?_
  refine lv_iload_n hx hb dX0_add_16 rfl (lv_at hl 1 rfl) ?_
  refine va_iast hx hb hK hP hD hS 1 0 rfl rfl (vp_in_nI hn (by decide)) dX0_add_17 (fun H locs hP hD hS => ?_)
  have hP : va_P Z.1 vwCl [(h0, .inr (0, [.int (nI n), .int kn, .int ak, .ref k, .ref q])), (k, .inl (Z.2 0, 5, .inl (upd f ((nI n).toNatClampNeg) a))), (q, .inl (Z.2 0, 5, .inl g))] H := hP
  have hD : va_D A [(h0, .inr (0, [.int (nI n), .int kn, .int ak, .ref k, .ref q])), (k, .inl (Z.2 0, 5, .inl (upd f ((nI n).toNatClampNeg) a))), (q, .inl (Z.2 0, 5, .inl g))] := hD
  refine lv_aload_n hx hb dX0_add_18 rfl (lv_at hl 0 rfl) ?_
  refine va_get (D := Z.1) (ci := 0) (v := .ref q) (C := RX0) (T := TX0) (N := 5) hx hb hts hin0 hown hK hP 0 rfl rfl 4 (by decide) (hts (.fieldLink RX0 26 "HalfAsked$Folk" "pence" "[I") (List.mem_of_getElem? (i := 3) rfl)) (fun _ h9 => h9) rfl dX0_add_19 ?_
  refine lv_aload_n hx hb dX0_add_22 rfl (lv_at hl 0 rfl) ?_
  refine va_get (D := Z.1) (ci := 0) (v := .int (nI n)) (C := RX0) (T := TX0) (N := 5) hx hb hts hin0 hown hK hP 0 rfl rfl 0 (by decide) (hts (.fieldLink RX0 9 "HalfAsked$Folk" "size" "I") (List.mem_of_getElem? (i := 1) rfl)) (fun _ h9 => h9) rfl dX0_add_23 ?_
  refine lv_iload_n hx hb dX0_add_26 rfl (lv_at hl 2 rfl) ?_
  refine va_iast hx hb hK hP hD hS 2 0 rfl rfl (vp_in_nI hn (by decide)) dX0_add_27 (fun H locs hP hD hS => ?_)
  have hP : va_P Z.1 vwCl [(h0, .inr (0, [.int (nI n), .int kn, .int ak, .ref k, .ref q])), (k, .inl (Z.2 0, 5, .inl (upd f ((nI n).toNatClampNeg) a))), (q, .inl (Z.2 0, 5, .inl (upd g ((nI n).toNatClampNeg) b)))] H := hP
  have hD : va_D A [(h0, .inr (0, [.int (nI n), .int kn, .int ak, .ref k, .ref q])), (k, .inl (Z.2 0, 5, .inl (upd f ((nI n).toNatClampNeg) a))), (q, .inl (Z.2 0, 5, .inl (upd g ((nI n).toNatClampNeg) b)))] := hD
  refine lv_aload_n hx hb dX0_add_28 rfl (lv_at hl 0 rfl) ?_
  refine lv_dup hx hb dX0_add_29 rfl ?_
  refine va_get (D := Z.1) (ci := 0) (v := .int (nI n)) (C := RX0) (T := TX0) (N := 5) hx hb hts hin0 hown hK hP 0 rfl rfl 0 (by decide) (hts (.fieldLink RX0 9 "HalfAsked$Folk" "size" "I") (List.mem_of_getElem? (i := 1) rfl)) (fun _ h9 => h9) rfl dX0_add_30 ?_
  refine lv_iconst (v := 1) hx hb dX0_add_33 (by decide) ?_
  refine lv_iadd hx hb dX0_add_34 ?_
  refine lv_topi (fun f_1 ef_1 => ?_)
  obtain rfl : nI (n + 1) = f_1 := (ef_1.trans (nI_1 _)).symm
  refine va_put (D := Z.1) (ci := 0) (v := .int (nI (n + 1))) (ty := .int) (C := RX0) (T := TX0) (N := 5) hx hb hts hin0 tyX0 tyX0_ok nmX0 hown hK hP hD hS 0 rfl rfl 0 (by decide) (hts (.fieldLink RX0 9 "HalfAsked$Folk" "size" "I") (List.mem_of_getElem? (i := 1) rfl)) (fun _ h9 => h9) rfl (by decide +kernel) rfl rfl (Nat.le_of_ble_eq_true rfl) dX0_add_35 (fun H locs hP hD hS => ?_)
  have hP : va_P Z.1 vwCl [(h0, .inr (0, [.int (nI (n + 1)), .int kn, .int ak, .ref k, .ref q])), (k, .inl (Z.2 0, 5, .inl (upd f ((nI n).toNatClampNeg) a))), (q, .inl (Z.2 0, 5, .inl (upd g ((nI n).toNatClampNeg) b)))] H := hP
  have hD : va_D A [(h0, .inr (0, [.int (nI (n + 1)), .int kn, .int ak, .ref k, .ref q])), (k, .inl (Z.2 0, 5, .inl (upd f ((nI n).toNatClampNeg) a))), (q, .inl (Z.2 0, 5, .inl (upd g ((nI n).toNatClampNeg) b)))] := hD
  have hP9 := hP.sub (ws' := [(h0, .inr (0, [.int (nI (n + 1)), .int kn, .int ak, .ref k, .ref q])), (k, .inl (Z.2 0, 5, .inl (upd f ((nI n).toNatClampNeg) a))), (q, .inl (Z.2 0, 5, .inl (upd g ((nI n).toNatClampNeg) b)))]) [0, 1, 2] rfl
  have hD9 := hD.sub (ws' := [(h0, .inr (0, [.int (nI (n + 1)), .int kn, .int ak, .ref k, .ref q])), (k, .inl (Z.2 0, 5, .inl (upd f ((nI n).toNatClampNeg) a))), (q, .inl (Z.2 0, 5, .inl (upd g ((nI n).toNatClampNeg) b)))]) [0, 1, 2] (by decide +kernel) rfl
  exact W.vret hx hb hr (fun t9 ht hW => ⟨⟨(upd f ((nI n).toNatClampNeg) a, upd g ((nI n).toNatClampNeg) b), rfl, ⟨rfl, rfl⟩, by rw [ht]; exact hP9, hD9⟩, hS.F ht⟩) hS.2.2 dX0_add_38
def q_X0_takeFrom_f2 (f1 : Nat → Int32) : Nat → Int32 := f1
def q_X0_takeFrom_g2 (g1 : Nat → Int32) : Nat → Int32 := g1
set_option maxHeartbeats 4000000 in
set_option maxRecDepth 100000 in
theorem c_X0_takeFrom (l : Launch) (Z : gZ) (sz : Nat) (h0 : Nat) (v : Int32) (kn : Int32) (ak : Int32) (k : Nat) (q : Nat) (h1 : Nat) (v1 : Int32) (kn1 : Int32) (ak1 : Int32) (k1 : Nat) (q1 : Nat) (f : Nat → Int32) (g : Nat → Int32) (f1 : Nat → Int32) (g1 : Nat → Int32)  : Met l yX0_takeFrom wsX0_takeFrom ({ frames := 1, cells := 0, slots := 0, locals := 60 }) (va_Pc [.ref h0, .ref h1] (fun U => U.heap.size = sz ∧ va_P Z.1 vwCl [(h0, .inr (0, [.int v, .int kn, .int ak, .ref k, .ref q])), (k, .inl (Z.2 0, 5, .inl f)), (q, .inl (Z.2 0, 5, .inl g)), (h1, .inr (0, [.int v1, .int kn1, .int ak1, .ref k1, .ref q1])), (k1, .inl (Z.2 0, 5, .inl f1)), (q1, .inl (Z.2 0, 5, .inl g1))] U.heap ∧ va_K Z.1 vwCl (gT Z) U ∧ va_D (fun _ => True) [(h0, .inr (0, [.int v, .int kn, .int ak, .ref k, .ref q])), (k, .inl (Z.2 0, 5, .inl f)), (q, .inl (Z.2 0, 5, .inl g)), (h1, .inr (0, [.int v1, .int kn1, .int ak1, .ref k1, .ref q1])), (k1, .inl (Z.2 0, 5, .inl f1)), (q1, .inl (Z.2 0, 5, .inl g1))])) (va_Qv (fun (u : (Nat → Int32) × (Nat → Int32)) => match u with | (f2, g2) => q_X0_takeFrom_f2 f1 = f2 ∧ q_X0_takeFrom_g2 g1 = g2) (fun (u : (Nat → Int32) × (Nat → Int32)) (t9 : State) => match u with | (f2, g2) => va_P Z.1 vwCl [(h0, .inr (0, [.int v1, .int kn1, .int ak1, .ref k, .ref q])), (k, .inl (Z.2 0, 5, .inl f2)), (q, .inl (Z.2 0, 5, .inl g2)), (h1, .inr (0, [.int v1, .int kn1, .int ak1, .ref k1, .ref q1])), (k1, .inl (Z.2 0, 5, .inl f1)), (q1, .inl (Z.2 0, 5, .inl g1))] t9.heap ∧ va_D (va_A [(h0, .inr (0, [.int v, .int kn, .int ak, .ref k, .ref q])), (k, .inl (Z.2 0, 5, .inl f)), (q, .inl (Z.2 0, 5, .inl g)), (h1, .inr (0, [.int v1, .int kn1, .int ak1, .ref k1, .ref q1])), (k1, .inl (Z.2 0, 5, .inl f1)), (q1, .inl (Z.2 0, 5, .inl g1))] sz) [(h0, .inr (0, [.int v1, .int kn1, .int ak1, .ref k, .ref q])), (k, .inl (Z.2 0, 5, .inl f2)), (q, .inl (Z.2 0, 5, .inl g2)), (h1, .inr (0, [.int v1, .int kn1, .int ak1, .ref k1, .ref q1])), (k1, .inl (Z.2 0, 5, .inl f1)), (q1, .inl (Z.2 0, 5, .inl g1))]) (va_A [(h0, .inr (0, [.int v, .int kn, .int ak, .ref k, .ref q])), (k, .inl (Z.2 0, 5, .inl f)), (q, .inl (Z.2 0, 5, .inl g)), (h1, .inr (0, [.int v1, .int kn1, .int ak1, .ref k1, .ref q1])), (k1, .inl (Z.2 0, 5, .inl f1)), (q1, .inl (Z.2 0, 5, .inl g1))] sz)) 0 0 (va_A [(h0, .inr (0, [.int v, .int kn, .int ak, .ref k, .ref q])), (k, .inl (Z.2 0, 5, .inl f)), (q, .inl (Z.2 0, 5, .inl g)), (h1, .inr (0, [.int v1, .int kn1, .int ak1, .ref k1, .ref q1])), (k1, .inl (Z.2 0, 5, .inl f1)), (q1, .inl (Z.2 0, 5, .inl g1))] sz) := by
  refine Met.ofW (cc := cX0_takeFrom) (maxL := 2) (ret := none) (by decide) rfl ?_
  intro p e s m args below meth c s₁ B hml hv
  obtain ⟨rfl, hsz, hP, hK, hD0⟩ := hv
  have hx := B.exec
  have hb := B.bytes
  have hr := B.returns
  have hts := atoms_spec (ws := wsX0_takeFrom) B.pre
  have hown : s.vm.findClass RX0 = some m.cls := findClass_of_methodNamed B.named
  have hlocks := B.notSynchronized
  subst hsz
  have hin0 : ∀ w ∈ wsX00, w ∈ wsX0_takeFrom := fun w h9 => (List.mem_cons_of_mem _ (List.mem_append_right _ h9))
  have hD := hD0.self (sz := s.heap.size)
  generalize hAe : va_A [(h0, .inr (0, [.int v, .int kn, .int ak, .ref k, .ref q])), (k, .inl (Z.2 0, 5, .inl f)), (q, .inl (Z.2 0, 5, .inl g)), (h1, .inr (0, [.int v1, .int kn1, .int ak1, .ref k1, .ref q1])), (k1, .inl (Z.2 0, 5, .inl f1)), (q1, .inl (Z.2 0, 5, .inl g1))] s.heap.size = A at hD ⊢
  have hA : ∀ q : Nat, s.heap.size ≤ q → A q := fun q h => by rw [← hAe]; exact Or.inr h
  have hS : va_S A s.heap s.heap [] := va_S.rf
  have hP : va_P Z.1 vwCl [(h0, .inr (0, [.int v, .int kn, .int ak, .ref k, .ref q])), (k, .inl (Z.2 0, 5, .inl f)), (q, .inl (Z.2 0, 5, .inl g)), (h1, .inr (0, [.int v1, .int kn1, .int ak1, .ref k1, .ref q1])), (k1, .inl (Z.2 0, 5, .inl f1)), (q1, .inl (Z.2 0, 5, .inl g1))] s.heap := hP
  have hl := lv_entry ([.ref h0, .ref h1]) (n := 2) (Nat.le_of_ble_eq_true rfl)
  rw [lg_entry_eq]
  generalize (lg_sl ([.ref h0, .ref h1]) ++ List.replicate (2 - (lg_sl ([.ref h0, .ref h1])).length) Slot.unset).toArray = ls at hl ⊢
  have hl : lv_has ls 2 [(0, .ref h0), (1, .ref h1)] := hl
  refine lv_aload_n hx hb dX0_takeFrom_0 rfl (lv_at hl 0 rfl) ?_
  refine lv_aload_n hx hb dX0_takeFrom_1 rfl (lv_at hl 1 rfl) ?_
  refine va_get (D := Z.1) (ci := 0) (v := .int v1) (C := RX0) (T := TX0) (N := 5) hx hb hts hin0 hown hK hP 3 rfl rfl 0 (by decide) (hts (.fieldLink RX0 9 "HalfAsked$Folk" "size" "I") (List.mem_of_getElem? (i := 1) rfl)) (fun _ h9 => h9) rfl dX0_takeFrom_2 ?_
  refine va_put (D := Z.1) (ci := 0) (v := .int v1) (ty := .int) (C := RX0) (T := TX0) (N := 5) hx hb hts hin0 tyX0 tyX0_ok nmX0 hown hK hP hD hS 0 rfl rfl 0 (by decide) (hts (.fieldLink RX0 9 "HalfAsked$Folk" "size" "I") (List.mem_of_getElem? (i := 1) rfl)) (fun _ h9 => h9) rfl (by decide +kernel) rfl rfl (Nat.le_of_ble_eq_true rfl) dX0_takeFrom_5 (fun H locs hP hD hS => ?_)
  have hP : va_P Z.1 vwCl [(h0, .inr (0, [.int v1, .int kn, .int ak, .ref k, .ref q])), (k, .inl (Z.2 0, 5, .inl f)), (q, .inl (Z.2 0, 5, .inl g)), (h1, .inr (0, [.int v1, .int kn1, .int ak1, .ref k1, .ref q1])), (k1, .inl (Z.2 0, 5, .inl f1)), (q1, .inl (Z.2 0, 5, .inl g1))] H := hP
  have hD : va_D A [(h0, .inr (0, [.int v1, .int kn, .int ak, .ref k, .ref q])), (k, .inl (Z.2 0, 5, .inl f)), (q, .inl (Z.2 0, 5, .inl g)), (h1, .inr (0, [.int v1, .int kn1, .int ak1, .ref k1, .ref q1])), (k1, .inl (Z.2 0, 5, .inl f1)), (q1, .inl (Z.2 0, 5, .inl g1))] := hD
  refine lv_aload_n hx hb dX0_takeFrom_8 rfl (lv_at hl 0 rfl) ?_
  refine lv_aload_n hx hb dX0_takeFrom_9 rfl (lv_at hl 1 rfl) ?_
  refine va_get (D := Z.1) (ci := 0) (v := .int kn1) (C := RX0) (T := TX0) (N := 5) hx hb hts hin0 hown hK hP 3 rfl rfl 1 (by decide) (hts (.fieldLink RX0 16 "HalfAsked$Folk" "known" "I") (List.mem_of_getElem? (i := 2) rfl)) (fun _ h9 => h9) rfl dX0_takeFrom_10 ?_
  refine va_put (D := Z.1) (ci := 0) (v := .int kn1) (ty := .int) (C := RX0) (T := TX0) (N := 5) hx hb hts hin0 tyX0 tyX0_ok nmX0 hown hK hP hD hS 0 rfl rfl 1 (by decide) (hts (.fieldLink RX0 16 "HalfAsked$Folk" "known" "I") (List.mem_of_getElem? (i := 2) rfl)) (fun _ h9 => h9) rfl (by decide +kernel) rfl rfl (Nat.le_of_ble_eq_true rfl) dX0_takeFrom_13 (fun H locs hP hD hS => ?_)
  have hP : va_P Z.1 vwCl [(h0, .inr (0, [.int v1, .int kn1, .int ak, .ref k, .ref q])), (k, .inl (Z.2 0, 5, .inl f)), (q, .inl (Z.2 0, 5, .inl g)), (h1, .inr (0, [.int v1, .int kn1, .int ak1, .ref k1, .ref q1])), (k1, .inl (Z.2 0, 5, .inl f1)), (q1, .inl (Z.2 0, 5, .inl g1))] H := hP
  have hD : va_D A [(h0, .inr (0, [.int v1, .int kn1, .int ak, .ref k, .ref q])), (k, .inl (Z.2 0, 5, .inl f)), (q, .inl (Z.2 0, 5, .inl g)), (h1, .inr (0, [.int v1, .int kn1, .int ak1, .ref k1, .ref q1])), (k1, .inl (Z.2 0, 5, .inl f1)), (q1, .inl (Z.2 0, 5, .inl g1))] := hD
  refine lv_aload_n hx hb dX0_takeFrom_16 rfl (lv_at hl 0 rfl) ?_
  refine lv_aload_n hx hb dX0_takeFrom_17 rfl (lv_at hl 1 rfl) ?_
  refine va_get (D := Z.1) (ci := 0) (v := .int ak1) (C := RX0) (T := TX0) (N := 5) hx hb hts hin0 hown hK hP 3 rfl rfl 2 (by decide) (hts (.fieldLink RX0 19 "HalfAsked$Folk" "asked" "I") (List.mem_of_getElem? (i := 3) rfl)) (fun _ h9 => h9) rfl dX0_takeFrom_18 ?_
  refine va_put (D := Z.1) (ci := 0) (v := .int ak1) (ty := .int) (C := RX0) (T := TX0) (N := 5) hx hb hts hin0 tyX0 tyX0_ok nmX0 hown hK hP hD hS 0 rfl rfl 2 (by decide) (hts (.fieldLink RX0 19 "HalfAsked$Folk" "asked" "I") (List.mem_of_getElem? (i := 3) rfl)) (fun _ h9 => h9) rfl (by decide +kernel) rfl rfl (Nat.le_of_ble_eq_true rfl) dX0_takeFrom_21 (fun H locs hP hD hS => ?_)
  have hP : va_P Z.1 vwCl [(h0, .inr (0, [.int v1, .int kn1, .int ak1, .ref k, .ref q])), (k, .inl (Z.2 0, 5, .inl f)), (q, .inl (Z.2 0, 5, .inl g)), (h1, .inr (0, [.int v1, .int kn1, .int ak1, .ref k1, .ref q1])), (k1, .inl (Z.2 0, 5, .inl f1)), (q1, .inl (Z.2 0, 5, .inl g1))] H := hP
  have hD : va_D A [(h0, .inr (0, [.int v1, .int kn1, .int ak1, .ref k, .ref q])), (k, .inl (Z.2 0, 5, .inl f)), (q, .inl (Z.2 0, 5, .inl g)), (h1, .inr (0, [.int v1, .int kn1, .int ak1, .ref k1, .ref q1])), (k1, .inl (Z.2 0, 5, .inl f1)), (q1, .inl (Z.2 0, 5, .inl g1))] := hD
  refine lv_aload_n hx hb dX0_takeFrom_24 rfl (lv_at hl 1 rfl) ?_
  refine va_get (D := Z.1) (ci := 0) (v := .ref k1) (C := RX0) (T := TX0) (N := 5) hx hb hts hin0 hown hK hP 3 rfl rfl 3 (by decide) (hts (.fieldLink RX0 22 "HalfAsked$Folk" "kind" "[I") (List.mem_of_getElem? (i := 4) rfl)) (fun _ h9 => h9) rfl dX0_takeFrom_25 ?_
  refine lv_iconst (v := 0) hx hb dX0_takeFrom_28 (by decide) ?_
  refine lv_aload_n hx hb dX0_takeFrom_29 rfl (lv_at hl 0 rfl) ?_
  refine va_get (D := Z.1) (ci := 0) (v := .ref k) (C := RX0) (T := TX0) (N := 5) hx hb hts hin0 hown hK hP 0 rfl rfl 3 (by decide) (hts (.fieldLink RX0 22 "HalfAsked$Folk" "kind" "[I") (List.mem_of_getElem? (i := 4) rfl)) (fun _ h9 => h9) rfl dX0_takeFrom_30 ?_
  refine lv_iconst (v := 0) hx hb dX0_takeFrom_33 (by decide) ?_
  refine lv_iconst (v := 5) hx hb dX0_takeFrom_34 (by decide) ?_
  refine va_copyi hx hb (hml.trans hl.1.symm) hown (hts (.methodLink RX0 36 arraycopyName) (List.mem_of_getElem? (i := 5) rfl)) (hts (.native arraycopyName) (List.mem_of_getElem? (i := 6) rfl)) (hts (.static arraycopyName) (List.mem_of_getElem? (i := 7) rfl)) (hts (.initialized "java/lang/System") (List.mem_of_getElem? (i := 8) rfl)) hK hP hD hS 4 1 0 0 rfl rfl rfl rfl rfl (by decide) (by decide) (by decide) (by decide) (by decide) (fun _ _ => rfl) (Nat.le_of_ble_eq_true rfl) (Nat.le_of_ble_eq_true rfl) dX0_takeFrom_35 (fun H locs hP hD hS => ?_)
  have hP : va_P Z.1 vwCl [(h0, .inr (0, [.int v1, .int kn1, .int ak1, .ref k, .ref q])), (k, .inl (Z.2 0, 5, .inl (va_cpy f1 f 0 0 5))), (q, .inl (Z.2 0, 5, .inl g)), (h1, .inr (0, [.int v1, .int kn1, .int ak1, .ref k1, .ref q1])), (k1, .inl (Z.2 0, 5, .inl f1)), (q1, .inl (Z.2 0, 5, .inl g1))] H := hP
  have hD : va_D A [(h0, .inr (0, [.int v1, .int kn1, .int ak1, .ref k, .ref q])), (k, .inl (Z.2 0, 5, .inl (va_cpy f1 f 0 0 5))), (q, .inl (Z.2 0, 5, .inl g)), (h1, .inr (0, [.int v1, .int kn1, .int ak1, .ref k1, .ref q1])), (k1, .inl (Z.2 0, 5, .inl f1)), (q1, .inl (Z.2 0, 5, .inl g1))] := hD
  have hP := z_PXi (g := f1) 1 rfl (fun j9 hj9 => z_cpy0 hj9) hP
  have hD := z_DXi (g := f1) 1 rfl hD
  have hP : va_P Z.1 vwCl [(h0, .inr (0, [.int v1, .int kn1, .int ak1, .ref k, .ref q])), (k, .inl (Z.2 0, 5, .inl f1)), (q, .inl (Z.2 0, 5, .inl g)), (h1, .inr (0, [.int v1, .int kn1, .int ak1, .ref k1, .ref q1])), (k1, .inl (Z.2 0, 5, .inl f1)), (q1, .inl (Z.2 0, 5, .inl g1))] H := hP
  have hD : va_D A [(h0, .inr (0, [.int v1, .int kn1, .int ak1, .ref k, .ref q])), (k, .inl (Z.2 0, 5, .inl f1)), (q, .inl (Z.2 0, 5, .inl g)), (h1, .inr (0, [.int v1, .int kn1, .int ak1, .ref k1, .ref q1])), (k1, .inl (Z.2 0, 5, .inl f1)), (q1, .inl (Z.2 0, 5, .inl g1))] := hD
  refine lv_aload_n hx hb dX0_takeFrom_38 rfl (lv_at hl 1 rfl) ?_
  refine va_get (D := Z.1) (ci := 0) (v := .ref q1) (C := RX0) (T := TX0) (N := 5) hx hb hts hin0 hown hK hP 3 rfl rfl 4 (by decide) (hts (.fieldLink RX0 26 "HalfAsked$Folk" "pence" "[I") (List.mem_of_getElem? (i := 9) rfl)) (fun _ h9 => h9) rfl dX0_takeFrom_39 ?_
  refine lv_iconst (v := 0) hx hb dX0_takeFrom_42 (by decide) ?_
  refine lv_aload_n hx hb dX0_takeFrom_43 rfl (lv_at hl 0 rfl) ?_
  refine va_get (D := Z.1) (ci := 0) (v := .ref q) (C := RX0) (T := TX0) (N := 5) hx hb hts hin0 hown hK hP 0 rfl rfl 4 (by decide) (hts (.fieldLink RX0 26 "HalfAsked$Folk" "pence" "[I") (List.mem_of_getElem? (i := 9) rfl)) (fun _ h9 => h9) rfl dX0_takeFrom_44 ?_
  refine lv_iconst (v := 0) hx hb dX0_takeFrom_47 (by decide) ?_
  refine lv_iconst (v := 5) hx hb dX0_takeFrom_48 (by decide) ?_
  refine va_copyi hx hb (hml.trans hl.1.symm) hown (hts (.methodLink RX0 36 arraycopyName) (List.mem_of_getElem? (i := 5) rfl)) (hts (.native arraycopyName) (List.mem_of_getElem? (i := 6) rfl)) (hts (.static arraycopyName) (List.mem_of_getElem? (i := 7) rfl)) (hts (.initialized "java/lang/System") (List.mem_of_getElem? (i := 8) rfl)) hK hP hD hS 5 2 0 0 rfl rfl rfl rfl rfl (by decide) (by decide) (by decide) (by decide) (by decide) (fun _ _ => rfl) (Nat.le_of_ble_eq_true rfl) (Nat.le_of_ble_eq_true rfl) dX0_takeFrom_49 (fun H locs hP hD hS => ?_)
  have hP : va_P Z.1 vwCl [(h0, .inr (0, [.int v1, .int kn1, .int ak1, .ref k, .ref q])), (k, .inl (Z.2 0, 5, .inl f1)), (q, .inl (Z.2 0, 5, .inl (va_cpy g1 g 0 0 5))), (h1, .inr (0, [.int v1, .int kn1, .int ak1, .ref k1, .ref q1])), (k1, .inl (Z.2 0, 5, .inl f1)), (q1, .inl (Z.2 0, 5, .inl g1))] H := hP
  have hD : va_D A [(h0, .inr (0, [.int v1, .int kn1, .int ak1, .ref k, .ref q])), (k, .inl (Z.2 0, 5, .inl f1)), (q, .inl (Z.2 0, 5, .inl (va_cpy g1 g 0 0 5))), (h1, .inr (0, [.int v1, .int kn1, .int ak1, .ref k1, .ref q1])), (k1, .inl (Z.2 0, 5, .inl f1)), (q1, .inl (Z.2 0, 5, .inl g1))] := hD
  have hP := z_PXi (g := g1) 2 rfl (fun j9 hj9 => z_cpy0 hj9) hP
  have hD := z_DXi (g := g1) 2 rfl hD
  have hP : va_P Z.1 vwCl [(h0, .inr (0, [.int v1, .int kn1, .int ak1, .ref k, .ref q])), (k, .inl (Z.2 0, 5, .inl f1)), (q, .inl (Z.2 0, 5, .inl g1)), (h1, .inr (0, [.int v1, .int kn1, .int ak1, .ref k1, .ref q1])), (k1, .inl (Z.2 0, 5, .inl f1)), (q1, .inl (Z.2 0, 5, .inl g1))] H := hP
  have hD : va_D A [(h0, .inr (0, [.int v1, .int kn1, .int ak1, .ref k, .ref q])), (k, .inl (Z.2 0, 5, .inl f1)), (q, .inl (Z.2 0, 5, .inl g1)), (h1, .inr (0, [.int v1, .int kn1, .int ak1, .ref k1, .ref q1])), (k1, .inl (Z.2 0, 5, .inl f1)), (q1, .inl (Z.2 0, 5, .inl g1))] := hD
  have hP9 := hP.sub (ws' := [(h0, .inr (0, [.int v1, .int kn1, .int ak1, .ref k, .ref q])), (k, .inl (Z.2 0, 5, .inl f1)), (q, .inl (Z.2 0, 5, .inl g1)), (h1, .inr (0, [.int v1, .int kn1, .int ak1, .ref k1, .ref q1])), (k1, .inl (Z.2 0, 5, .inl f1)), (q1, .inl (Z.2 0, 5, .inl g1))]) [0, 1, 2, 3, 4, 5] rfl
  have hD9 := hD.sub (ws' := [(h0, .inr (0, [.int v1, .int kn1, .int ak1, .ref k, .ref q])), (k, .inl (Z.2 0, 5, .inl f1)), (q, .inl (Z.2 0, 5, .inl g1)), (h1, .inr (0, [.int v1, .int kn1, .int ak1, .ref k1, .ref q1])), (k1, .inl (Z.2 0, 5, .inl f1)), (q1, .inl (Z.2 0, 5, .inl g1))]) [0, 1, 2, 3, 4, 5] (by decide +kernel) rfl
  exact W.vret hx hb hr (fun t9 ht hW => ⟨⟨(f1, g1), rfl, ⟨rfl, rfl⟩, by rw [ht]; exact hP9, hD9⟩, hS.F ht⟩) hS.2.2 dX0_takeFrom_52
def xSum (g : Nat → Int32) : Nat → Int32
  | 0 => 0
  | n + 1 => xSum g n + g n
set_option maxHeartbeats 4000000 in
set_option maxRecDepth 100000 in
theorem lp_X0_penceOfAll {p : Program} {l : Launch} {e : Env} {s : State} {m : MethodId} {args : Array Value} {below : List Frame} {meth : Method} {c : Code} {Q : State → Prop} {A : Nat → Prop} (Z : gZ) (h0 : Nat) (n : Nat) (kn : Int32) (ak : Int32) (k : Nat) (q : Nat) (g : Nat → Int32) (hn : n ≤ 5) (hx : p.tables.exec = Jvm.exec) (hb : c.code = cX0_penceOfAll) (hml : c.maxLocals = 3) (hts : ∀ w ∈ wsX0_penceOfAll, w.before args s = true) (hown : s.vm.findClass RX0 = some m.cls) (hK : va_K Z.1 vwCl (gT Z) s) (hA : ∀ q : Nat, s.heap.size ≤ q → A q) (kx_27 : ∀ (j : Nat) (x : Int32) (H : Heap) (locs : List Loc) (ls : Array Slot), (x = xSum g n) → va_P Z.1 vwCl [(h0, .inr (0, [.int (nI n), .int kn, .int ak, .ref k, .ref q])), (q, .inl (Z.2 0, 5, .inl g))] H → va_D A [(h0, .inr (0, [.int (nI n), .int kn, .int ak, .ref k, .ref q])), (q, .inl (Z.2 0, 5, .inl g))] → va_S A s.heap H locs → lv_has ls 3 [(0, .ref h0), (1, .int x), (2, .int (nI j))] → W p l e ({ frames := 0, cells := 0, slots := 0, locals := 0 } : Room) s m args below meth c H locs 0 0 Q (F0 m 27 ls [])) : ∀ (fu9 : Nat) (j : Nat) (x : Int32), n - j < fu9 → (j ≤ n) → (x = xSum g j) → ∀ (H : Heap) (locs : List Loc) (ls : Array Slot), va_P Z.1 vwCl [(h0, .inr (0, [.int (nI n), .int kn, .int ak, .ref k, .ref q])), (q, .inl (Z.2 0, 5, .inl g))] H → va_D A [(h0, .inr (0, [.int (nI n), .int kn, .int ak, .ref k, .ref q])), (q, .inl (Z.2 0, 5, .inl g))] → va_S A s.heap H locs → lv_has ls 3 [(0, .ref h0), (1, .int x), (2, .int (nI j))] → W p l e ({ frames := 0, cells := 0, slots := 0, locals := 0 } : Room) s m args below meth c H locs 0 0 Q (F0 m 4 ls []) := by
  have hin0 : ∀ w ∈ wsX00, w ∈ wsX0_penceOfAll := fun w h9 => (List.mem_cons_of_mem _ (List.mem_append_right _ h9))
  intro fu9
  induction fu9 with
  | zero => intro j x hf9; exact absurd hf9 (Nat.not_lt_zero _)
  | succ fu9 ih =>
    intro j x hf9 hj hxs H locs ls hP hD hS hl
    refine lv_iload_n hx hb dX0_penceOfAll_4 rfl (lv_at hl 2 rfl) ?_
    refine lv_aload_n hx hb dX0_penceOfAll_5 rfl (lv_at hl 0 rfl) ?_
    refine va_get (D := Z.1) (ci := 0) (v := .int (nI n)) (C := RX0) (T := TX0) (N := 5) hx hb hts hin0 hown hK hP 0 rfl rfl 0 (by decide) (hts (.fieldLink RX0 9 "HalfAsked$Folk" "size" "I") (List.mem_of_getElem? (i := 1) rfl)) (fun _ h9 => h9) rfl dX0_penceOfAll_6 ?_
    refine lv_icmp_ge (tgt := 27) hx hb dX0_penceOfAll_9 (by decide) (fun c_1 => ?_) (fun c_1 => ?_)
    · exact kx_27 j x H locs ls ((z_cge (by omega) hj c_1) ▸ hxs) hP hD hS (lv_sub hl [0, 1, 2] rfl)
    · have hlt : j < n := z_clt (by omega) hj c_1
      refine lv_iload_n hx hb dX0_penceOfAll_12 rfl (lv_at hl 1 rfl) ?_
      refine lv_aload_n hx hb dX0_penceOfAll_13 rfl (lv_at hl 0 rfl) ?_
      refine va_get (D := Z.1) (ci := 0) (v := .ref q) (C := RX0) (T := TX0) (N := 5) hx hb hts hin0 hown hK hP 0 rfl rfl 4 (by decide) (hts (.fieldLink RX0 26 "HalfAsked$Folk" "pence" "[I") (List.mem_of_getElem? (i := 2) rfl)) (fun _ h9 => h9) rfl dX0_penceOfAll_14 ?_
      refine lv_iload_n hx hb dX0_penceOfAll_17 rfl (lv_at hl 2 rfl) ?_
      refine va_iald hx hb hK hP 1 0 rfl rfl (vp_in_nI (by omega) (by decide)) dX0_penceOfAll_18 ?_
      refine lv_iadd hx hb dX0_penceOfAll_19 ?_
      refine lv_istore_n (lv' := [(1, .int (x + (g (nI j).toNatClampNeg))), (0, .ref h0), (2, .int (nI j))]) hx hb dX0_penceOfAll_20 rfl hl (by decide) rfl (fun ls hl => ?_)
      refine lv_iinc (v := nI (j + 1)) (lv' := [(2, .int (nI (j + 1))), (1, .int (x + (g (nI j).toNatClampNeg))), (0, .ref h0)]) hx hb dX0_penceOfAll_21 hl (k := 2) rfl (nI_1 _) (by decide) rfl (fun ls hl => ?_)
      refine lv_goto (tgt := 4) hx hb dX0_penceOfAll_24 (by decide) ?_
      exact ih (j + 1) (x + (g (nI j).toNatClampNeg)) (by omega) (hlt) (by rw [nI_clamp (by omega), hxs]; rfl) H locs ls hP hD hS (lv_sub hl [2, 1, 0] rfl)
set_option maxHeartbeats 4000000 in
set_option maxRecDepth 100000 in
theorem c_X0_penceOfAll (l : Launch) (Z : gZ) (sz : Nat) (h0 : Nat) (n : Nat) (kn : Int32) (ak : Int32) (k : Nat) (q : Nat) (g : Nat → Int32) (hn : n ≤ 5) : Met l yX0_penceOfAll wsX0_penceOfAll ({ frames := 0, cells := 0, slots := 0, locals := 0 }) (va_Pc [.ref h0] (fun U => U.heap.size = sz ∧ va_P Z.1 vwCl [(h0, .inr (0, [.int (nI n), .int kn, .int ak, .ref k, .ref q])), (q, .inl (Z.2 0, 5, .inl g))] U.heap ∧ va_K Z.1 vwCl (gT Z) U ∧ va_D (fun _ => True) [(h0, .inr (0, [.int (nI n), .int kn, .int ak, .ref k, .ref q])), (q, .inl (Z.2 0, 5, .inl g))])) (va_Qi (fun (r : Int32) (u : Unit) => r = xSum g n) (fun (u : Unit) (t9 : State) => va_P Z.1 vwCl [(h0, .inr (0, [.int (nI n), .int kn, .int ak, .ref k, .ref q])), (q, .inl (Z.2 0, 5, .inl g))] t9.heap ∧ va_D (va_A [(h0, .inr (0, [.int (nI n), .int kn, .int ak, .ref k, .ref q])), (q, .inl (Z.2 0, 5, .inl g))] sz) [(h0, .inr (0, [.int (nI n), .int kn, .int ak, .ref k, .ref q])), (q, .inl (Z.2 0, 5, .inl g))]) (va_A [(h0, .inr (0, [.int (nI n), .int kn, .int ak, .ref k, .ref q])), (q, .inl (Z.2 0, 5, .inl g))] sz)) 0 0 (va_A [(h0, .inr (0, [.int (nI n), .int kn, .int ak, .ref k, .ref q])), (q, .inl (Z.2 0, 5, .inl g))] sz) := by
  refine Met.ofW (cc := cX0_penceOfAll) (maxL := 3) (ret := (some .int)) (by decide) rfl ?_
  intro p e s m args below meth c s₁ B hml hv
  obtain ⟨rfl, hsz, hP, hK, hD0⟩ := hv
  have hx := B.exec
  have hb := B.bytes
  have hr := B.returns
  have hts := atoms_spec (ws := wsX0_penceOfAll) B.pre
  have hown : s.vm.findClass RX0 = some m.cls := findClass_of_methodNamed B.named
  have hlocks := B.notSynchronized
  subst hsz
  have hD := hD0.self (sz := s.heap.size)
  generalize hAe : va_A [(h0, .inr (0, [.int (nI n), .int kn, .int ak, .ref k, .ref q])), (q, .inl (Z.2 0, 5, .inl g))] s.heap.size = A at hD ⊢
  have hA : ∀ q : Nat, s.heap.size ≤ q → A q := fun q h => by rw [← hAe]; exact Or.inr h
  have hS : va_S A s.heap s.heap [] := va_S.rf
  have hP : va_P Z.1 vwCl [(h0, .inr (0, [.int (nI n), .int kn, .int ak, .ref k, .ref q])), (q, .inl (Z.2 0, 5, .inl g))] s.heap := hP
  have hl := lv_entry ([.ref h0]) (n := 3) (Nat.le_of_ble_eq_true rfl)
  rw [lg_entry_eq]
  generalize (lg_sl ([.ref h0]) ++ List.replicate (3 - (lg_sl ([.ref h0])).length) Slot.unset).toArray = ls at hl ⊢
  have hl : lv_has ls 3 [(0, .ref h0)] := hl
  refine lv_iconst (v := 0) hx hb dX0_penceOfAll_0 (by decide) ?_
  refine lv_istore_n (lv' := [(1, .int 0), (0, .ref h0)]) hx hb dX0_penceOfAll_1 rfl hl (by decide) rfl (fun ls hl => ?_)
  refine lv_iconst (v := 0) hx hb dX0_penceOfAll_2 (by decide) ?_
  refine lv_istore_n (lv' := [(2, .int 0), (1, .int 0), (0, .ref h0)]) hx hb dX0_penceOfAll_3 rfl hl (by decide) rfl (fun ls hl => ?_)
  refine lp_X0_penceOfAll Z h0 n kn ak k q g hn hx hb hml hts hown hK hA (fun j x H locs ls hxs hP hD hS hl => ?_) (n + 1) 0 0 (by omega) (Nat.zero_le _) (rfl) s.heap _ ls hP hD hS (lv_sub hl [2, 1, 0] rfl)
  refine lv_iload_n hx hb dX0_penceOfAll_27 rfl (lv_at hl 1 rfl) ?_
  have hP9 := hP.sub (ws' := [(h0, .inr (0, [.int (nI n), .int kn, .int ak, .ref k, .ref q])), (q, .inl (Z.2 0, 5, .inl g))]) [0, 1] rfl
  have hD9 := hD.sub (ws' := [(h0, .inr (0, [.int (nI n), .int kn, .int ak, .ref k, .ref q])), (q, .inl (Z.2 0, 5, .inl g))]) [0, 1] (by decide +kernel) rfl
  exact W.iret (v := x) hx hb hr (fun t9 ht hW => ⟨⟨x, (), rfl, hxs, by rw [ht]; exact hP9, hD9⟩, hS.F ht⟩) hS.2.2 dX0_penceOfAll_28
set_option maxHeartbeats 4000000 in
set_option maxRecDepth 100000 in
theorem c_X2_clear (l : Launch) (Z : gZ) (sz : Nat) (h0 : Nat) (v : Int32) (en : Int32) (k : Nat) (q : Nat)  : Met l yX2_clear wsX2_clear ({ frames := 0, cells := 0, slots := 0, locals := 0 }) (va_Pc [.ref h0] (fun U => U.heap.size = sz ∧ va_P Z.1 vwCl [(h0, .inr (2, [.int v, .int en, .ref k, .ref q]))] U.heap ∧ va_K Z.1 vwCl (gT Z) U ∧ va_D (fun _ => True) [(h0, .inr (2, [.int v, .int en, .ref k, .ref q]))])) (va_Qv (fun (u : Unit) => True) (fun (u : Unit) (t9 : State) => va_P Z.1 vwCl [(h0, .inr (2, [.int 0, .int 0, .ref k, .ref q]))] t9.heap ∧ va_D (va_A [(h0, .inr (2, [.int v, .int en, .ref k, .ref q]))] sz) [(h0, .inr (2, [.int 0, .int 0, .ref k, .ref q]))]) (va_A [(h0, .inr (2, [.int v, .int en, .ref k, .ref q]))] sz)) 0 0 (va_A [(h0, .inr (2, [.int v, .int en, .ref k, .ref q]))] sz) := by
  refine Met.ofW (cc := cX2_clear) (maxL := 1) (ret := none) (by decide) rfl ?_
  intro p e s m args below meth c s₁ B hml hv
  obtain ⟨rfl, hsz, hP, hK, hD0⟩ := hv
  have hx := B.exec
  have hb := B.bytes
  have hr := B.returns
  have hts := atoms_spec (ws := wsX2_clear) B.pre
  have hown : s.vm.findClass RX2 = some m.cls := findClass_of_methodNamed B.named
  have hlocks := B.notSynchronized
  subst hsz
  have hin2 : ∀ w ∈ wsX20, w ∈ wsX2_clear := fun w h9 => (List.mem_cons_of_mem _ (List.mem_append_right _ h9))
  have hD := hD0.self (sz := s.heap.size)
  generalize hAe : va_A [(h0, .inr (2, [.int v, .int en, .ref k, .ref q]))] s.heap.size = A at hD ⊢
  have hA : ∀ q : Nat, s.heap.size ≤ q → A q := fun q h => by rw [← hAe]; exact Or.inr h
  have hS : va_S A s.heap s.heap [] := va_S.rf
  have hP : va_P Z.1 vwCl [(h0, .inr (2, [.int v, .int en, .ref k, .ref q]))] s.heap := hP
  have hl := lv_entry ([.ref h0]) (n := 1) (Nat.le_of_ble_eq_true rfl)
  rw [lg_entry_eq]
  generalize (lg_sl ([.ref h0]) ++ List.replicate (1 - (lg_sl ([.ref h0])).length) Slot.unset).toArray = ls at hl ⊢
  have hl : lv_has ls 1 [(0, .ref h0)] := hl
  refine lv_aload_n hx hb dX2_clear_0 rfl (lv_at hl 0 rfl) ?_
  refine lv_iconst (v := 0) hx hb dX2_clear_1 (by decide) ?_
  refine va_put (D := Z.1) (ci := 2) (v := .int 0) (ty := .int) (C := RX2) (T := TX2) (N := 4) hx hb hts hin2 tyX2 tyX2_ok nmX2 hown hK hP hD hS 0 rfl rfl 0 (by decide) (hts (.fieldLink RX2 9 "HalfAsked$Plan" "size" "I") (List.mem_of_getElem? (i := 1) rfl)) (fun _ h9 => h9) rfl (by decide +kernel) rfl rfl (Nat.le_of_ble_eq_true rfl) dX2_clear_2 (fun H locs hP hD hS => ?_)
  have hP : va_P Z.1 vwCl [(h0, .inr (2, [.int 0, .int en, .ref k, .ref q]))] H := hP
  have hD : va_D A [(h0, .inr (2, [.int 0, .int en, .ref k, .ref q]))] := hD
  refine lv_aload_n hx hb dX2_clear_5 rfl (lv_at hl 0 rfl) ?_
  refine lv_iconst (v := 0) hx hb dX2_clear_6 (by decide) ?_
  refine va_put (D := Z.1) (ci := 2) (v := .int 0) (ty := .int) (C := RX2) (T := TX2) (N := 4) hx hb hts hin2 tyX2 tyX2_ok nmX2 hown hK hP hD hS 0 rfl rfl 1 (by decide) (hts (.fieldLink RX2 15 "HalfAsked$Plan" "ends" "I") (List.mem_of_getElem? (i := 2) rfl)) (fun _ h9 => h9) rfl (by decide +kernel) rfl rfl (Nat.le_of_ble_eq_true rfl) dX2_clear_7 (fun H locs hP hD hS => ?_)
  have hP : va_P Z.1 vwCl [(h0, .inr (2, [.int 0, .int 0, .ref k, .ref q]))] H := hP
  have hD : va_D A [(h0, .inr (2, [.int 0, .int 0, .ref k, .ref q]))] := hD
  have hP9 := hP.sub (ws' := [(h0, .inr (2, [.int 0, .int 0, .ref k, .ref q]))]) [0] rfl
  have hD9 := hD.sub (ws' := [(h0, .inr (2, [.int 0, .int 0, .ref k, .ref q]))]) [0] (by decide +kernel) rfl
  exact W.vret hx hb hr (fun t9 ht hW => ⟨⟨(), rfl, trivial, by rw [ht]; exact hP9, hD9⟩, hS.F ht⟩) hS.2.2 dX2_clear_10
def q_X2_takeFrom_f2 (f1 : Nat → Int32) : Nat → Int32 := f1
def q_X2_takeFrom_g2 (g1 : Nat → Int32) : Nat → Int32 := g1
set_option maxHeartbeats 4000000 in
set_option maxRecDepth 100000 in
theorem c_X2_takeFrom (l : Launch) (Z : gZ) (sz : Nat) (h0 : Nat) (v : Int32) (en : Int32) (k : Nat) (q : Nat) (h1 : Nat) (v1 : Int32) (en1 : Int32) (k1 : Nat) (q1 : Nat) (f : Nat → Int32) (g : Nat → Int32) (f1 : Nat → Int32) (g1 : Nat → Int32)  : Met l yX2_takeFrom wsX2_takeFrom ({ frames := 1, cells := 0, slots := 0, locals := 60 }) (va_Pc [.ref h0, .ref h1] (fun U => U.heap.size = sz ∧ va_P Z.1 vwCl [(h0, .inr (2, [.int v, .int en, .ref k, .ref q])), (k, .inl (Z.2 0, 8, .inl f)), (q, .inl (Z.2 0, 8, .inl g)), (h1, .inr (2, [.int v1, .int en1, .ref k1, .ref q1])), (k1, .inl (Z.2 0, 8, .inl f1)), (q1, .inl (Z.2 0, 8, .inl g1))] U.heap ∧ va_K Z.1 vwCl (gT Z) U ∧ va_D (fun _ => True) [(h0, .inr (2, [.int v, .int en, .ref k, .ref q])), (k, .inl (Z.2 0, 8, .inl f)), (q, .inl (Z.2 0, 8, .inl g)), (h1, .inr (2, [.int v1, .int en1, .ref k1, .ref q1])), (k1, .inl (Z.2 0, 8, .inl f1)), (q1, .inl (Z.2 0, 8, .inl g1))])) (va_Qv (fun (u : (Nat → Int32) × (Nat → Int32)) => match u with | (f2, g2) => q_X2_takeFrom_f2 f1 = f2 ∧ q_X2_takeFrom_g2 g1 = g2 ∧ ((∀ j, j < 8 → f2 j = f1 j) ∧ (∀ j, j < 8 → g2 j = g1 j))) (fun (u : (Nat → Int32) × (Nat → Int32)) (t9 : State) => match u with | (f2, g2) => va_P Z.1 vwCl [(h0, .inr (2, [.int v1, .int en1, .ref k, .ref q])), (k, .inl (Z.2 0, 8, .inl f2)), (q, .inl (Z.2 0, 8, .inl g2)), (h1, .inr (2, [.int v1, .int en1, .ref k1, .ref q1])), (k1, .inl (Z.2 0, 8, .inl f1)), (q1, .inl (Z.2 0, 8, .inl g1))] t9.heap ∧ va_D (va_A [(h0, .inr (2, [.int v, .int en, .ref k, .ref q])), (k, .inl (Z.2 0, 8, .inl f)), (q, .inl (Z.2 0, 8, .inl g)), (h1, .inr (2, [.int v1, .int en1, .ref k1, .ref q1])), (k1, .inl (Z.2 0, 8, .inl f1)), (q1, .inl (Z.2 0, 8, .inl g1))] sz) [(h0, .inr (2, [.int v1, .int en1, .ref k, .ref q])), (k, .inl (Z.2 0, 8, .inl f2)), (q, .inl (Z.2 0, 8, .inl g2)), (h1, .inr (2, [.int v1, .int en1, .ref k1, .ref q1])), (k1, .inl (Z.2 0, 8, .inl f1)), (q1, .inl (Z.2 0, 8, .inl g1))]) (va_A [(h0, .inr (2, [.int v, .int en, .ref k, .ref q])), (k, .inl (Z.2 0, 8, .inl f)), (q, .inl (Z.2 0, 8, .inl g)), (h1, .inr (2, [.int v1, .int en1, .ref k1, .ref q1])), (k1, .inl (Z.2 0, 8, .inl f1)), (q1, .inl (Z.2 0, 8, .inl g1))] sz)) 0 0 (va_A [(h0, .inr (2, [.int v, .int en, .ref k, .ref q])), (k, .inl (Z.2 0, 8, .inl f)), (q, .inl (Z.2 0, 8, .inl g)), (h1, .inr (2, [.int v1, .int en1, .ref k1, .ref q1])), (k1, .inl (Z.2 0, 8, .inl f1)), (q1, .inl (Z.2 0, 8, .inl g1))] sz) := by
  refine Met.ofW (cc := cX2_takeFrom) (maxL := 2) (ret := none) (by decide) rfl ?_
  intro p e s m args below meth c s₁ B hml hv
  obtain ⟨rfl, hsz, hP, hK, hD0⟩ := hv
  have hx := B.exec
  have hb := B.bytes
  have hr := B.returns
  have hts := atoms_spec (ws := wsX2_takeFrom) B.pre
  have hown : s.vm.findClass RX2 = some m.cls := findClass_of_methodNamed B.named
  have hlocks := B.notSynchronized
  subst hsz
  have hin2 : ∀ w ∈ wsX20, w ∈ wsX2_takeFrom := fun w h9 => (List.mem_cons_of_mem _ (List.mem_append_right _ h9))
  have hD := hD0.self (sz := s.heap.size)
  generalize hAe : va_A [(h0, .inr (2, [.int v, .int en, .ref k, .ref q])), (k, .inl (Z.2 0, 8, .inl f)), (q, .inl (Z.2 0, 8, .inl g)), (h1, .inr (2, [.int v1, .int en1, .ref k1, .ref q1])), (k1, .inl (Z.2 0, 8, .inl f1)), (q1, .inl (Z.2 0, 8, .inl g1))] s.heap.size = A at hD ⊢
  have hA : ∀ q : Nat, s.heap.size ≤ q → A q := fun q h => by rw [← hAe]; exact Or.inr h
  have hS : va_S A s.heap s.heap [] := va_S.rf
  have hP : va_P Z.1 vwCl [(h0, .inr (2, [.int v, .int en, .ref k, .ref q])), (k, .inl (Z.2 0, 8, .inl f)), (q, .inl (Z.2 0, 8, .inl g)), (h1, .inr (2, [.int v1, .int en1, .ref k1, .ref q1])), (k1, .inl (Z.2 0, 8, .inl f1)), (q1, .inl (Z.2 0, 8, .inl g1))] s.heap := hP
  have hl := lv_entry ([.ref h0, .ref h1]) (n := 2) (Nat.le_of_ble_eq_true rfl)
  rw [lg_entry_eq]
  generalize (lg_sl ([.ref h0, .ref h1]) ++ List.replicate (2 - (lg_sl ([.ref h0, .ref h1])).length) Slot.unset).toArray = ls at hl ⊢
  have hl : lv_has ls 2 [(0, .ref h0), (1, .ref h1)] := hl
  refine lv_aload_n hx hb dX2_takeFrom_0 rfl (lv_at hl 0 rfl) ?_
  refine lv_aload_n hx hb dX2_takeFrom_1 rfl (lv_at hl 1 rfl) ?_
  refine va_get (D := Z.1) (ci := 2) (v := .int v1) (C := RX2) (T := TX2) (N := 4) hx hb hts hin2 hown hK hP 3 rfl rfl 0 (by decide) (hts (.fieldLink RX2 9 "HalfAsked$Plan" "size" "I") (List.mem_of_getElem? (i := 1) rfl)) (fun _ h9 => h9) rfl dX2_takeFrom_2 ?_
  refine va_put (D := Z.1) (ci := 2) (v := .int v1) (ty := .int) (C := RX2) (T := TX2) (N := 4) hx hb hts hin2 tyX2 tyX2_ok nmX2 hown hK hP hD hS 0 rfl rfl 0 (by decide) (hts (.fieldLink RX2 9 "HalfAsked$Plan" "size" "I") (List.mem_of_getElem? (i := 1) rfl)) (fun _ h9 => h9) rfl (by decide +kernel) rfl rfl (Nat.le_of_ble_eq_true rfl) dX2_takeFrom_5 (fun H locs hP hD hS => ?_)
  have hP : va_P Z.1 vwCl [(h0, .inr (2, [.int v1, .int en, .ref k, .ref q])), (k, .inl (Z.2 0, 8, .inl f)), (q, .inl (Z.2 0, 8, .inl g)), (h1, .inr (2, [.int v1, .int en1, .ref k1, .ref q1])), (k1, .inl (Z.2 0, 8, .inl f1)), (q1, .inl (Z.2 0, 8, .inl g1))] H := hP
  have hD : va_D A [(h0, .inr (2, [.int v1, .int en, .ref k, .ref q])), (k, .inl (Z.2 0, 8, .inl f)), (q, .inl (Z.2 0, 8, .inl g)), (h1, .inr (2, [.int v1, .int en1, .ref k1, .ref q1])), (k1, .inl (Z.2 0, 8, .inl f1)), (q1, .inl (Z.2 0, 8, .inl g1))] := hD
  refine lv_aload_n hx hb dX2_takeFrom_8 rfl (lv_at hl 0 rfl) ?_
  refine lv_aload_n hx hb dX2_takeFrom_9 rfl (lv_at hl 1 rfl) ?_
  refine va_get (D := Z.1) (ci := 2) (v := .int en1) (C := RX2) (T := TX2) (N := 4) hx hb hts hin2 hown hK hP 3 rfl rfl 1 (by decide) (hts (.fieldLink RX2 15 "HalfAsked$Plan" "ends" "I") (List.mem_of_getElem? (i := 2) rfl)) (fun _ h9 => h9) rfl dX2_takeFrom_10 ?_
  refine va_put (D := Z.1) (ci := 2) (v := .int en1) (ty := .int) (C := RX2) (T := TX2) (N := 4) hx hb hts hin2 tyX2 tyX2_ok nmX2 hown hK hP hD hS 0 rfl rfl 1 (by decide) (hts (.fieldLink RX2 15 "HalfAsked$Plan" "ends" "I") (List.mem_of_getElem? (i := 2) rfl)) (fun _ h9 => h9) rfl (by decide +kernel) rfl rfl (Nat.le_of_ble_eq_true rfl) dX2_takeFrom_13 (fun H locs hP hD hS => ?_)
  have hP : va_P Z.1 vwCl [(h0, .inr (2, [.int v1, .int en1, .ref k, .ref q])), (k, .inl (Z.2 0, 8, .inl f)), (q, .inl (Z.2 0, 8, .inl g)), (h1, .inr (2, [.int v1, .int en1, .ref k1, .ref q1])), (k1, .inl (Z.2 0, 8, .inl f1)), (q1, .inl (Z.2 0, 8, .inl g1))] H := hP
  have hD : va_D A [(h0, .inr (2, [.int v1, .int en1, .ref k, .ref q])), (k, .inl (Z.2 0, 8, .inl f)), (q, .inl (Z.2 0, 8, .inl g)), (h1, .inr (2, [.int v1, .int en1, .ref k1, .ref q1])), (k1, .inl (Z.2 0, 8, .inl f1)), (q1, .inl (Z.2 0, 8, .inl g1))] := hD
  refine lv_aload_n hx hb dX2_takeFrom_16 rfl (lv_at hl 1 rfl) ?_
  refine va_get (D := Z.1) (ci := 2) (v := .ref k1) (C := RX2) (T := TX2) (N := 4) hx hb hts hin2 hown hK hP 3 rfl rfl 2 (by decide) (hts (.fieldLink RX2 18 "HalfAsked$Plan" "by" "[I") (List.mem_of_getElem? (i := 3) rfl)) (fun _ h9 => h9) rfl dX2_takeFrom_17 ?_
  refine lv_iconst (v := 0) hx hb dX2_takeFrom_20 (by decide) ?_
  refine lv_aload_n hx hb dX2_takeFrom_21 rfl (lv_at hl 0 rfl) ?_
  refine va_get (D := Z.1) (ci := 2) (v := .ref k) (C := RX2) (T := TX2) (N := 4) hx hb hts hin2 hown hK hP 0 rfl rfl 2 (by decide) (hts (.fieldLink RX2 18 "HalfAsked$Plan" "by" "[I") (List.mem_of_getElem? (i := 3) rfl)) (fun _ h9 => h9) rfl dX2_takeFrom_22 ?_
  refine lv_iconst (v := 0) hx hb dX2_takeFrom_25 (by decide) ?_
  refine lv_bipush (v := 8) hx hb dX2_takeFrom_26 (by decide) ?_
  refine va_copyi hx hb (hml.trans hl.1.symm) hown (hts (.methodLink RX2 25 arraycopyName) (List.mem_of_getElem? (i := 4) rfl)) (hts (.native arraycopyName) (List.mem_of_getElem? (i := 5) rfl)) (hts (.static arraycopyName) (List.mem_of_getElem? (i := 6) rfl)) (hts (.initialized "java/lang/System") (List.mem_of_getElem? (i := 7) rfl)) hK hP hD hS 4 1 0 0 rfl rfl rfl rfl rfl (by decide) (by decide) (by decide) (by decide) (by decide) (fun _ _ => rfl) (Nat.le_of_ble_eq_true rfl) (Nat.le_of_ble_eq_true rfl) dX2_takeFrom_28 (fun H locs hP hD hS => ?_)
  have hP : va_P Z.1 vwCl [(h0, .inr (2, [.int v1, .int en1, .ref k, .ref q])), (k, .inl (Z.2 0, 8, .inl (va_cpy f1 f 0 0 8))), (q, .inl (Z.2 0, 8, .inl g)), (h1, .inr (2, [.int v1, .int en1, .ref k1, .ref q1])), (k1, .inl (Z.2 0, 8, .inl f1)), (q1, .inl (Z.2 0, 8, .inl g1))] H := hP
  have hD : va_D A [(h0, .inr (2, [.int v1, .int en1, .ref k, .ref q])), (k, .inl (Z.2 0, 8, .inl (va_cpy f1 f 0 0 8))), (q, .inl (Z.2 0, 8, .inl g)), (h1, .inr (2, [.int v1, .int en1, .ref k1, .ref q1])), (k1, .inl (Z.2 0, 8, .inl f1)), (q1, .inl (Z.2 0, 8, .inl g1))] := hD
  have hP := z_PXi (g := f1) 1 rfl (fun j9 hj9 => z_cpy0 hj9) hP
  have hD := z_DXi (g := f1) 1 rfl hD
  have hP : va_P Z.1 vwCl [(h0, .inr (2, [.int v1, .int en1, .ref k, .ref q])), (k, .inl (Z.2 0, 8, .inl f1)), (q, .inl (Z.2 0, 8, .inl g)), (h1, .inr (2, [.int v1, .int en1, .ref k1, .ref q1])), (k1, .inl (Z.2 0, 8, .inl f1)), (q1, .inl (Z.2 0, 8, .inl g1))] H := hP
  have hD : va_D A [(h0, .inr (2, [.int v1, .int en1, .ref k, .ref q])), (k, .inl (Z.2 0, 8, .inl f1)), (q, .inl (Z.2 0, 8, .inl g)), (h1, .inr (2, [.int v1, .int en1, .ref k1, .ref q1])), (k1, .inl (Z.2 0, 8, .inl f1)), (q1, .inl (Z.2 0, 8, .inl g1))] := hD
  refine lv_aload_n hx hb dX2_takeFrom_31 rfl (lv_at hl 1 rfl) ?_
  refine va_get (D := Z.1) (ci := 2) (v := .ref q1) (C := RX2) (T := TX2) (N := 4) hx hb hts hin2 hown hK hP 3 rfl rfl 3 (by decide) (hts (.fieldLink RX2 22 "HalfAsked$Plan" "of" "[I") (List.mem_of_getElem? (i := 8) rfl)) (fun _ h9 => h9) rfl dX2_takeFrom_32 ?_
  refine lv_iconst (v := 0) hx hb dX2_takeFrom_35 (by decide) ?_
  refine lv_aload_n hx hb dX2_takeFrom_36 rfl (lv_at hl 0 rfl) ?_
  refine va_get (D := Z.1) (ci := 2) (v := .ref q) (C := RX2) (T := TX2) (N := 4) hx hb hts hin2 hown hK hP 0 rfl rfl 3 (by decide) (hts (.fieldLink RX2 22 "HalfAsked$Plan" "of" "[I") (List.mem_of_getElem? (i := 8) rfl)) (fun _ h9 => h9) rfl dX2_takeFrom_37 ?_
  refine lv_iconst (v := 0) hx hb dX2_takeFrom_40 (by decide) ?_
  refine lv_bipush (v := 8) hx hb dX2_takeFrom_41 (by decide) ?_
  refine va_copyi hx hb (hml.trans hl.1.symm) hown (hts (.methodLink RX2 25 arraycopyName) (List.mem_of_getElem? (i := 4) rfl)) (hts (.native arraycopyName) (List.mem_of_getElem? (i := 5) rfl)) (hts (.static arraycopyName) (List.mem_of_getElem? (i := 6) rfl)) (hts (.initialized "java/lang/System") (List.mem_of_getElem? (i := 7) rfl)) hK hP hD hS 5 2 0 0 rfl rfl rfl rfl rfl (by decide) (by decide) (by decide) (by decide) (by decide) (fun _ _ => rfl) (Nat.le_of_ble_eq_true rfl) (Nat.le_of_ble_eq_true rfl) dX2_takeFrom_43 (fun H locs hP hD hS => ?_)
  have hP : va_P Z.1 vwCl [(h0, .inr (2, [.int v1, .int en1, .ref k, .ref q])), (k, .inl (Z.2 0, 8, .inl f1)), (q, .inl (Z.2 0, 8, .inl (va_cpy g1 g 0 0 8))), (h1, .inr (2, [.int v1, .int en1, .ref k1, .ref q1])), (k1, .inl (Z.2 0, 8, .inl f1)), (q1, .inl (Z.2 0, 8, .inl g1))] H := hP
  have hD : va_D A [(h0, .inr (2, [.int v1, .int en1, .ref k, .ref q])), (k, .inl (Z.2 0, 8, .inl f1)), (q, .inl (Z.2 0, 8, .inl (va_cpy g1 g 0 0 8))), (h1, .inr (2, [.int v1, .int en1, .ref k1, .ref q1])), (k1, .inl (Z.2 0, 8, .inl f1)), (q1, .inl (Z.2 0, 8, .inl g1))] := hD
  have hP := z_PXi (g := g1) 2 rfl (fun j9 hj9 => z_cpy0 hj9) hP
  have hD := z_DXi (g := g1) 2 rfl hD
  have hP : va_P Z.1 vwCl [(h0, .inr (2, [.int v1, .int en1, .ref k, .ref q])), (k, .inl (Z.2 0, 8, .inl f1)), (q, .inl (Z.2 0, 8, .inl g1)), (h1, .inr (2, [.int v1, .int en1, .ref k1, .ref q1])), (k1, .inl (Z.2 0, 8, .inl f1)), (q1, .inl (Z.2 0, 8, .inl g1))] H := hP
  have hD : va_D A [(h0, .inr (2, [.int v1, .int en1, .ref k, .ref q])), (k, .inl (Z.2 0, 8, .inl f1)), (q, .inl (Z.2 0, 8, .inl g1)), (h1, .inr (2, [.int v1, .int en1, .ref k1, .ref q1])), (k1, .inl (Z.2 0, 8, .inl f1)), (q1, .inl (Z.2 0, 8, .inl g1))] := hD
  have hP9 := hP.sub (ws' := [(h0, .inr (2, [.int v1, .int en1, .ref k, .ref q])), (k, .inl (Z.2 0, 8, .inl f1)), (q, .inl (Z.2 0, 8, .inl g1)), (h1, .inr (2, [.int v1, .int en1, .ref k1, .ref q1])), (k1, .inl (Z.2 0, 8, .inl f1)), (q1, .inl (Z.2 0, 8, .inl g1))]) [0, 1, 2, 3, 4, 5] rfl
  have hD9 := hD.sub (ws' := [(h0, .inr (2, [.int v1, .int en1, .ref k, .ref q])), (k, .inl (Z.2 0, 8, .inl f1)), (q, .inl (Z.2 0, 8, .inl g1)), (h1, .inr (2, [.int v1, .int en1, .ref k1, .ref q1])), (k1, .inl (Z.2 0, 8, .inl f1)), (q1, .inl (Z.2 0, 8, .inl g1))]) [0, 1, 2, 3, 4, 5] (by decide +kernel) rfl
  exact W.vret hx hb hr (fun t9 ht hW => ⟨⟨(f1, g1), rfl, ⟨rfl, rfl, ⟨fun j hj => rfl, fun j hj => rfl⟩⟩, by rw [ht]; exact hP9, hD9⟩, hS.F ht⟩) hS.2.2 dX2_takeFrom_46
def q_X2_add_f1 (n : Nat) (f : Nat → Int32) (a : Int32) : Nat → Int32 := upd f n a
def q_X2_add_g1 (n : Nat) (g : Nat → Int32) (b : Int32) : Nat → Int32 := upd g n b
set_option maxHeartbeats 4000000 in
set_option maxRecDepth 100000 in
theorem c_X2_add (l : Launch) (Z : gZ) (sz : Nat) (h0 : Nat) (n : Nat) (en : Int32) (k : Nat) (q : Nat) (f : Nat → Int32) (g : Nat → Int32) (a : Int32) (b : Int32) (hn : n < 8) (hp : zP n f g) (ha : vp_in a 5) (hb2 : vp_in b 5) : Met l yX2_add wsX2_add ({ frames := 0, cells := 0, slots := 0, locals := 0 }) (va_Pc [.ref h0, .int a, .int b] (fun U => U.heap.size = sz ∧ va_P Z.1 vwCl [(h0, .inr (2, [.int (nI n), .int en, .ref k, .ref q])), (k, .inl (Z.2 0, 8, .inl f)), (q, .inl (Z.2 0, 8, .inl g))] U.heap ∧ va_K Z.1 vwCl (gT Z) U ∧ va_D (fun _ => True) [(h0, .inr (2, [.int (nI n), .int en, .ref k, .ref q])), (k, .inl (Z.2 0, 8, .inl f)), (q, .inl (Z.2 0, 8, .inl g))])) (va_Qv (fun (u : (Nat → Int32) × (Nat → Int32)) => match u with | (f1, g1) => q_X2_add_f1 n f a = f1 ∧ q_X2_add_g1 n g b = g1 ∧ (zP (n + 1) f1 g1)) (fun (u : (Nat → Int32) × (Nat → Int32)) (t9 : State) => match u with | (f1, g1) => va_P Z.1 vwCl [(h0, .inr (2, [.int (nI (n + 1)), .int en, .ref k, .ref q])), (k, .inl (Z.2 0, 8, .inl f1)), (q, .inl (Z.2 0, 8, .inl g1))] t9.heap ∧ va_D (va_A [(h0, .inr (2, [.int (nI n), .int en, .ref k, .ref q])), (k, .inl (Z.2 0, 8, .inl f)), (q, .inl (Z.2 0, 8, .inl g))] sz) [(h0, .inr (2, [.int (nI (n + 1)), .int en, .ref k, .ref q])), (k, .inl (Z.2 0, 8, .inl f1)), (q, .inl (Z.2 0, 8, .inl g1))]) (va_A [(h0, .inr (2, [.int (nI n), .int en, .ref k, .ref q])), (k, .inl (Z.2 0, 8, .inl f)), (q, .inl (Z.2 0, 8, .inl g))] sz)) 0 0 (va_A [(h0, .inr (2, [.int (nI n), .int en, .ref k, .ref q])), (k, .inl (Z.2 0, 8, .inl f)), (q, .inl (Z.2 0, 8, .inl g))] sz) := by
  refine Met.ofW (cc := cX2_add) (maxL := 3) (ret := none) (by decide) rfl ?_
  intro p e s m args below meth c s₁ B hml hv
  obtain ⟨rfl, hsz, hP, hK, hD0⟩ := hv
  have hx := B.exec
  have hb := B.bytes
  have hr := B.returns
  have hts := atoms_spec (ws := wsX2_add) B.pre
  have hown : s.vm.findClass RX2 = some m.cls := findClass_of_methodNamed B.named
  have hlocks := B.notSynchronized
  subst hsz
  have hin2 : ∀ w ∈ wsX20, w ∈ wsX2_add := fun w h9 => (List.mem_cons_of_mem _ (List.mem_append_right _ h9))
  have hD := hD0.self (sz := s.heap.size)
  generalize hAe : va_A [(h0, .inr (2, [.int (nI n), .int en, .ref k, .ref q])), (k, .inl (Z.2 0, 8, .inl f)), (q, .inl (Z.2 0, 8, .inl g))] s.heap.size = A at hD ⊢
  have hA : ∀ q : Nat, s.heap.size ≤ q → A q := fun q h => by rw [← hAe]; exact Or.inr h
  have hS : va_S A s.heap s.heap [] := va_S.rf
  have hP : va_P Z.1 vwCl [(h0, .inr (2, [.int (nI n), .int en, .ref k, .ref q])), (k, .inl (Z.2 0, 8, .inl f)), (q, .inl (Z.2 0, 8, .inl g))] s.heap := hP
  have hl := lv_entry ([.ref h0, .int a, .int b]) (n := 3) (Nat.le_of_ble_eq_true rfl)
  rw [lg_entry_eq]
  generalize (lg_sl ([.ref h0, .int a, .int b]) ++ List.replicate (3 - (lg_sl ([.ref h0, .int a, .int b])).length) Slot.unset).toArray = ls at hl ⊢
  have hl : lv_has ls 3 [(0, .ref h0), (1, .int a), (2, .int b)] := hl
  refine lv_aload_n hx hb dX2_add_0 rfl (lv_at hl 0 rfl) ?_
  refine va_get (D := Z.1) (ci := 2) (v := .int (nI n)) (C := RX2) (T := TX2) (N := 4) hx hb hts hin2 hown hK hP 0 rfl rfl 0 (by decide) (hts (.fieldLink RX2 9 "HalfAsked$Plan" "size" "I") (List.mem_of_getElem? (i := 1) rfl)) (fun _ h9 => h9) rfl dX2_add_1 ?_
  refine lv_bipush (v := 8) hx hb dX2_add_4 (by decide) ?_
  refine lv_icmp_ge (tgt := 39) hx hb dX2_add_6 (by decide) (fun c9 => absurd c9 (nI_ge (a := n) (b := 8) hn (by decide))) (fun _ => ?_)
  refine lv_aload_n hx hb dX2_add_9 rfl (lv_at hl 0 rfl) ?_
  refine va_get (D := Z.1) (ci := 2) (v := .ref k) (C := RX2) (T := TX2) (N := 4) hx hb hts hin2 hown hK hP 0 rfl rfl 2 (by decide) (hts (.fieldLink RX2 18 "HalfAsked$Plan" "by" "[I") (List.mem_of_getElem? (i := 2) rfl)) (fun _ h9 => h9) rfl dX2_add_10 ?_
  refine lv_aload_n hx hb dX2_add_13 rfl (lv_at hl 0 rfl) ?_
  refine va_get (D := Z.1) (ci := 2) (v := .int (nI n)) (C := RX2) (T := TX2) (N := 4) hx hb hts hin2 hown hK hP 0 rfl rfl 0 (by decide) (hts (.fieldLink RX2 9 "HalfAsked$Plan" "size" "I") (List.mem_of_getElem? (i := 1) rfl)) (fun _ h9 => h9) rfl dX2_add_14 ?_
  refine lv_iload_n hx hb dX2_add_17 rfl (lv_at hl 1 rfl) ?_
  refine va_iast hx hb hK hP hD hS 1 0 rfl rfl (vp_in_nI hn (by decide)) dX2_add_18 (fun H locs hP hD hS => ?_)
  have hP : va_P Z.1 vwCl [(h0, .inr (2, [.int (nI n), .int en, .ref k, .ref q])), (k, .inl (Z.2 0, 8, .inl (upd f ((nI n).toNatClampNeg) a))), (q, .inl (Z.2 0, 8, .inl g))] H := hP
  have hD : va_D A [(h0, .inr (2, [.int (nI n), .int en, .ref k, .ref q])), (k, .inl (Z.2 0, 8, .inl (upd f ((nI n).toNatClampNeg) a))), (q, .inl (Z.2 0, 8, .inl g))] := hD
  refine lv_aload_n hx hb dX2_add_19 rfl (lv_at hl 0 rfl) ?_
  refine va_get (D := Z.1) (ci := 2) (v := .ref q) (C := RX2) (T := TX2) (N := 4) hx hb hts hin2 hown hK hP 0 rfl rfl 3 (by decide) (hts (.fieldLink RX2 22 "HalfAsked$Plan" "of" "[I") (List.mem_of_getElem? (i := 3) rfl)) (fun _ h9 => h9) rfl dX2_add_20 ?_
  refine lv_aload_n hx hb dX2_add_23 rfl (lv_at hl 0 rfl) ?_
  refine va_get (D := Z.1) (ci := 2) (v := .int (nI n)) (C := RX2) (T := TX2) (N := 4) hx hb hts hin2 hown hK hP 0 rfl rfl 0 (by decide) (hts (.fieldLink RX2 9 "HalfAsked$Plan" "size" "I") (List.mem_of_getElem? (i := 1) rfl)) (fun _ h9 => h9) rfl dX2_add_24 ?_
  refine lv_iload_n hx hb dX2_add_27 rfl (lv_at hl 2 rfl) ?_
  refine va_iast hx hb hK hP hD hS 2 0 rfl rfl (vp_in_nI hn (by decide)) dX2_add_28 (fun H locs hP hD hS => ?_)
  have hP : va_P Z.1 vwCl [(h0, .inr (2, [.int (nI n), .int en, .ref k, .ref q])), (k, .inl (Z.2 0, 8, .inl (upd f ((nI n).toNatClampNeg) a))), (q, .inl (Z.2 0, 8, .inl (upd g ((nI n).toNatClampNeg) b)))] H := hP
  have hD : va_D A [(h0, .inr (2, [.int (nI n), .int en, .ref k, .ref q])), (k, .inl (Z.2 0, 8, .inl (upd f ((nI n).toNatClampNeg) a))), (q, .inl (Z.2 0, 8, .inl (upd g ((nI n).toNatClampNeg) b)))] := hD
  refine lv_aload_n hx hb dX2_add_29 rfl (lv_at hl 0 rfl) ?_
  refine lv_dup hx hb dX2_add_30 rfl ?_
  refine va_get (D := Z.1) (ci := 2) (v := .int (nI n)) (C := RX2) (T := TX2) (N := 4) hx hb hts hin2 hown hK hP 0 rfl rfl 0 (by decide) (hts (.fieldLink RX2 9 "HalfAsked$Plan" "size" "I") (List.mem_of_getElem? (i := 1) rfl)) (fun _ h9 => h9) rfl dX2_add_31 ?_
  refine lv_iconst (v := 1) hx hb dX2_add_34 (by decide) ?_
  refine lv_iadd hx hb dX2_add_35 ?_
  refine lv_topi (fun f_1 ef_1 => ?_)
  obtain rfl : nI (n + 1) = f_1 := (ef_1.trans (nI_1 _)).symm
  refine va_put (D := Z.1) (ci := 2) (v := .int (nI (n + 1))) (ty := .int) (C := RX2) (T := TX2) (N := 4) hx hb hts hin2 tyX2 tyX2_ok nmX2 hown hK hP hD hS 0 rfl rfl 0 (by decide) (hts (.fieldLink RX2 9 "HalfAsked$Plan" "size" "I") (List.mem_of_getElem? (i := 1) rfl)) (fun _ h9 => h9) rfl (by decide +kernel) rfl rfl (Nat.le_of_ble_eq_true rfl) dX2_add_36 (fun H locs hP hD hS => ?_)
  have hP : va_P Z.1 vwCl [(h0, .inr (2, [.int (nI (n + 1)), .int en, .ref k, .ref q])), (k, .inl (Z.2 0, 8, .inl (upd f ((nI n).toNatClampNeg) a))), (q, .inl (Z.2 0, 8, .inl (upd g ((nI n).toNatClampNeg) b)))] H := hP
  have hD : va_D A [(h0, .inr (2, [.int (nI (n + 1)), .int en, .ref k, .ref q])), (k, .inl (Z.2 0, 8, .inl (upd f ((nI n).toNatClampNeg) a))), (q, .inl (Z.2 0, 8, .inl (upd g ((nI n).toNatClampNeg) b)))] := hD
  rw [nI_clamp (show n < 2 ^ 31 by omega)] at hP hD
  have hP9 := hP.sub (ws' := [(h0, .inr (2, [.int (nI (n + 1)), .int en, .ref k, .ref q])), (k, .inl (Z.2 0, 8, .inl (upd f n a))), (q, .inl (Z.2 0, 8, .inl (upd g n b)))]) [0, 1, 2] rfl
  have hD9 := hD.sub (ws' := [(h0, .inr (2, [.int (nI (n + 1)), .int en, .ref k, .ref q])), (k, .inl (Z.2 0, 8, .inl (upd f n a))), (q, .inl (Z.2 0, 8, .inl (upd g n b)))]) [0, 1, 2] (by decide +kernel) rfl
  exact W.vret hx hb hr (fun t9 ht hW => ⟨⟨(upd f n a, upd g n b), rfl, ⟨rfl, rfl, zP_add hp ha hb2⟩, by rw [ht]; exact hP9, hD9⟩, hS.F ht⟩) hS.2.2 dX2_add_39
def q_X2_endsWeek_r (en : Int32) (a : Int32) : Int32 := (if (en &&& (1 <<< (a &&& 31))) = 0 then (0 : Int32) else (1 : Int32))
set_option maxHeartbeats 4000000 in
set_option maxRecDepth 100000 in
theorem c_X2_endsWeek (l : Launch) (Z : gZ) (sz : Nat) (h0 : Nat) (v : Int32) (en : Int32) (k : Nat) (q : Nat) (a : Int32)  : Met l yX2_endsWeek wsX2_endsWeek ({ frames := 0, cells := 0, slots := 0, locals := 0 }) (va_Pc [.ref h0, .int a] (fun U => U.heap.size = sz ∧ va_P Z.1 vwCl [(h0, .inr (2, [.int v, .int en, .ref k, .ref q]))] U.heap ∧ va_K Z.1 vwCl (gT Z) U ∧ va_D (fun _ => True) [(h0, .inr (2, [.int v, .int en, .ref k, .ref q]))])) (va_Qi (fun (r : Int32) (u : Unit) => r = q_X2_endsWeek_r en a) (fun (u : Unit) (t9 : State) => va_P Z.1 vwCl [(h0, .inr (2, [.int v, .int en, .ref k, .ref q]))] t9.heap ∧ va_D (va_A [(h0, .inr (2, [.int v, .int en, .ref k, .ref q]))] sz) [(h0, .inr (2, [.int v, .int en, .ref k, .ref q]))]) (va_A [(h0, .inr (2, [.int v, .int en, .ref k, .ref q]))] sz)) 0 0 (va_A [(h0, .inr (2, [.int v, .int en, .ref k, .ref q]))] sz) := by
  refine Met.ofW (cc := cX2_endsWeek) (maxL := 2) (ret := (some .boolean)) (by decide) rfl ?_
  intro p e s m args below meth c s₁ B hml hv
  obtain ⟨rfl, hsz, hP, hK, hD0⟩ := hv
  have hx := B.exec
  have hb := B.bytes
  have hr := B.returns
  have hts := atoms_spec (ws := wsX2_endsWeek) B.pre
  have hown : s.vm.findClass RX2 = some m.cls := findClass_of_methodNamed B.named
  have hlocks := B.notSynchronized
  subst hsz
  have hin2 : ∀ w ∈ wsX20, w ∈ wsX2_endsWeek := fun w h9 => (List.mem_cons_of_mem _ (List.mem_append_right _ h9))
  have hD := hD0.self (sz := s.heap.size)
  generalize hAe : va_A [(h0, .inr (2, [.int v, .int en, .ref k, .ref q]))] s.heap.size = A at hD ⊢
  have hA : ∀ q : Nat, s.heap.size ≤ q → A q := fun q h => by rw [← hAe]; exact Or.inr h
  have hS : va_S A s.heap s.heap [] := va_S.rf
  have hP : va_P Z.1 vwCl [(h0, .inr (2, [.int v, .int en, .ref k, .ref q]))] s.heap := hP
  have hl := lv_entry ([.ref h0, .int a]) (n := 2) (Nat.le_of_ble_eq_true rfl)
  rw [lg_entry_eq]
  generalize (lg_sl ([.ref h0, .int a]) ++ List.replicate (2 - (lg_sl ([.ref h0, .int a])).length) Slot.unset).toArray = ls at hl ⊢
  have hl : lv_has ls 2 [(0, .ref h0), (1, .int a)] := hl
  refine lv_aload_n hx hb dX2_endsWeek_0 rfl (lv_at hl 0 rfl) ?_
  refine va_get (D := Z.1) (ci := 2) (v := .int en) (C := RX2) (T := TX2) (N := 4) hx hb hts hin2 hown hK hP 0 rfl rfl 1 (by decide) (hts (.fieldLink RX2 15 "HalfAsked$Plan" "ends" "I") (List.mem_of_getElem? (i := 1) rfl)) (fun _ h9 => h9) rfl dX2_endsWeek_1 ?_
  refine lv_iconst (v := 1) hx hb dX2_endsWeek_4 (by decide) ?_
  refine lv_iload_n hx hb dX2_endsWeek_5 rfl (lv_at hl 1 rfl) ?_
  refine lv_ishl hx hb dX2_endsWeek_6 ?_
  refine lv_iand hx hb dX2_endsWeek_7 ?_
  refine lv_if_eq (tgt := 15) hx hb dX2_endsWeek_8 (by decide) (fun c_1 => ?_) (fun c_1 => ?_)
  · refine lv_iconst (v := 0) hx hb dX2_endsWeek_15 (by decide) ?_
    have hP9 := hP.sub (ws' := [(h0, .inr (2, [.int v, .int en, .ref k, .ref q]))]) [0] rfl
    have hD9 := hD.sub (ws' := [(h0, .inr (2, [.int v, .int en, .ref k, .ref q]))]) [0] (by decide +kernel) rfl
    exact W.zret (v := 0) hx hb hr rfl (fun t9 ht hW => ⟨⟨0, (), rfl, (by unfold q_X2_endsWeek_r; rw [if_pos c_1]), by rw [ht]; exact hP9, hD9⟩, hS.F ht⟩) hS.2.2 dX2_endsWeek_16
  · refine lv_iconst (v := 1) hx hb dX2_endsWeek_11 (by decide) ?_
    refine lv_goto (tgt := 16) hx hb dX2_endsWeek_12 (by decide) ?_
    have hP9 := hP.sub (ws' := [(h0, .inr (2, [.int v, .int en, .ref k, .ref q]))]) [0] rfl
    have hD9 := hD.sub (ws' := [(h0, .inr (2, [.int v, .int en, .ref k, .ref q]))]) [0] (by decide +kernel) rfl
    exact W.zret (v := 1) hx hb hr rfl (fun t9 ht hW => ⟨⟨1, (), rfl, (by unfold q_X2_endsWeek_r; rw [if_neg c_1]), by rw [ht]; exact hP9, hD9⟩, hS.F ht⟩) hS.2.2 dX2_endsWeek_16
def q_X2_endWeekIfDue_ak2 (en : Int32) (ak1 : Int32) (a : Int32) : Int32 := (if (q_X2_endsWeek_r en a) = 0 then ak1 else (0 : Int32))
set_option maxHeartbeats 4000000 in
set_option maxRecDepth 100000 in
theorem c_X2_endWeekIfDue (l : Launch) (Z : gZ) (sz : Nat) (h0 : Nat) (v : Int32) (en : Int32) (k : Nat) (q : Nat) (h1 : Nat) (v1 : Int32) (kn1 : Int32) (ak1 : Int32) (k1 : Nat) (q1 : Nat) (a : Int32)  : Met l yX2_endWeekIfDue wsX2_endWeekIfDue ({ frames := 1, cells := 0, slots := 0, locals := 21 }) (va_Pc [.ref h0, .ref h1, .int a] (fun U => U.heap.size = sz ∧ va_P Z.1 vwCl [(h0, .inr (2, [.int v, .int en, .ref k, .ref q])), (h1, .inr (0, [.int v1, .int kn1, .int ak1, .ref k1, .ref q1]))] U.heap ∧ va_K Z.1 vwCl (gT Z) U ∧ va_D (fun _ => True) [(h0, .inr (2, [.int v, .int en, .ref k, .ref q])), (h1, .inr (0, [.int v1, .int kn1, .int ak1, .ref k1, .ref q1]))])) (va_Qv (fun (u : Int32) => match u with | ak2 => q_X2_endWeekIfDue_ak2 en ak1 a = ak2) (fun (u : Int32) (t9 : State) => match u with | ak2 => va_P Z.1 vwCl [(h0, .inr (2, [.int v, .int en, .ref k, .ref q])), (h1, .inr (0, [.int v1, .int kn1, .int ak2, .ref k1, .ref q1]))] t9.heap ∧ va_D (va_A [(h0, .inr (2, [.int v, .int en, .ref k, .ref q])), (h1, .inr (0, [.int v1, .int kn1, .int ak1, .ref k1, .ref q1]))] sz) [(h0, .inr (2, [.int v, .int en, .ref k, .ref q])), (h1, .inr (0, [.int v1, .int kn1, .int ak2, .ref k1, .ref q1]))]) (va_A [(h0, .inr (2, [.int v, .int en, .ref k, .ref q])), (h1, .inr (0, [.int v1, .int kn1, .int ak1, .ref k1, .ref q1]))] sz)) 0 0 (va_A [(h0, .inr (2, [.int v, .int en, .ref k, .ref q])), (h1, .inr (0, [.int v1, .int kn1, .int ak1, .ref k1, .ref q1]))] sz) := by
  refine Met.ofW (cc := cX2_endWeekIfDue) (maxL := 3) (ret := none) (by decide) rfl ?_
  intro p e s m args below meth c s₁ B hml hv
  obtain ⟨rfl, hsz, hP, hK, hD0⟩ := hv
  have hx := B.exec
  have hb := B.bytes
  have hr := B.returns
  have hts := atoms_spec (ws := wsX2_endWeekIfDue) B.pre
  have hown : s.vm.findClass RX2 = some m.cls := findClass_of_methodNamed B.named
  have hlocks := B.notSynchronized
  subst hsz
  have hin0 : ∀ w ∈ wsX00, w ∈ wsX2_endWeekIfDue := fun w h9 => (List.mem_cons_of_mem _ (List.mem_append_left _ (List.mem_append_right _ h9)))
  have hD := hD0.self (sz := s.heap.size)
  generalize hAe : va_A [(h0, .inr (2, [.int v, .int en, .ref k, .ref q])), (h1, .inr (0, [.int v1, .int kn1, .int ak1, .ref k1, .ref q1]))] s.heap.size = A at hD ⊢
  have hA : ∀ q : Nat, s.heap.size ≤ q → A q := fun q h => by rw [← hAe]; exact Or.inr h
  have hS : va_S A s.heap s.heap [] := va_S.rf
  have hP : va_P Z.1 vwCl [(h0, .inr (2, [.int v, .int en, .ref k, .ref q])), (h1, .inr (0, [.int v1, .int kn1, .int ak1, .ref k1, .ref q1]))] s.heap := hP
  have hl := lv_entry ([.ref h0, .ref h1, .int a]) (n := 3) (Nat.le_of_ble_eq_true rfl)
  rw [lg_entry_eq]
  generalize (lg_sl ([.ref h0, .ref h1, .int a]) ++ List.replicate (3 - (lg_sl ([.ref h0, .ref h1, .int a])).length) Slot.unset).toArray = ls at hl ⊢
  have hl : lv_has ls 3 [(0, .ref h0), (1, .ref h1), (2, .int a)] := hl
  refine lv_aload_n hx hb dX2_endWeekIfDue_0 rfl (lv_at hl 0 rfl) ?_
  refine lv_iload_n hx hb dX2_endWeekIfDue_1 rfl (lv_at hl 2 rfl) ?_
  have hPc := hP.sub (ws' := [(h0, .inr (2, [.int v, .int en, .ref k, .ref q]))]) [0] rfl
  have hDc := hD.sub (ws' := [(h0, .inr (2, [.int v, .int en, .ref k, .ref q]))]) [0] (by decide +kernel) rfl
  have hFc := va_free (wc := [(h0, .inr (2, [.int v, .int en, .ref k, .ref q]))]) hD hS hA [0] rfl
  refine va_calli (va_runV (As := [.int a]) (rest := []) ⟨hx, hb, hml, hown, hts⟩ (c_X2_endsWeek l Z s.heap.size h0 v en k q a) (cwV 1 hts gX2_endWeekIfDue_X2_endsWeek rfl rfl rfl (by decide +kernel) ⟨Nat.le_of_ble_eq_true rfl, Nat.le_of_ble_eq_true rfl⟩) ⟨fun a U g mk q => by obtain ⟨q0, q1, qP, qK, qD⟩ := q; exact ⟨q0, q1, qP, va_K.moved (u := U) (U := U.calling g mk a) (Vm.Alike.refl U.vm) qK, qD⟩, va_recv hK hPc (ci := 2) (q0 := 0) rfl rfl, fun U hU hW => ⟨rfl, by rw [hU], by rw [hU]; exact hPc, va_K.moved hW.alike hK, hDc.weaken (fun _ _ _ _ => trivial)⟩⟩ rfl rfl hl.1 rfl (lv_room (Nat.le_of_ble_eq_true rfl)) dX2_endWeekIfDue_2 ⟨Nat.le_of_ble_eq_true rfl, Nat.le_of_ble_eq_true rfl⟩) hS (fun q _ h => hFc q h) hFc (fun r_1 u t9 H1 locs ht hvm hw hB hz1 hk1 hS => ?_)
  have hw9 := hw.symm
  clear hw
  subst hw9
  obtain ⟨hP1, hD1⟩ := hB
  rw [ht] at hP1
  obtain ⟨hP, hD⟩ := va_join (wr := [(h1, .inr (0, [.int v1, .int kn1, .int ak1, .ref k1, .ref q1]))]) (w1 := [(h0, .inr (2, [.int v, .int en, .ref k, .ref q]))]) hP hD [0] [1] rfl rfl (by decide +kernel) (by decide +kernel) hk1 hFc hP1 hD1
  clear hPc hDc hP1 hD1 hk1 hz1 hFc ht hvm
  generalize H1 = H at hP hS ⊢
  have hP : va_P Z.1 vwCl [(h1, .inr (0, [.int v1, .int kn1, .int ak1, .ref k1, .ref q1])), (h0, .inr (2, [.int v, .int en, .ref k, .ref q]))] H := hP
  have hD : va_D A [(h1, .inr (0, [.int v1, .int kn1, .int ak1, .ref k1, .ref q1])), (h0, .inr (2, [.int v, .int en, .ref k, .ref q]))] := hD
  refine lv_if_eq (tgt := 13) hx hb dX2_endWeekIfDue_5 (by decide) (fun c_2 => ?_) (fun c_2 => ?_)
  · have hP9 := hP.sub (ws' := [(h0, .inr (2, [.int v, .int en, .ref k, .ref q])), (h1, .inr (0, [.int v1, .int kn1, .int ak1, .ref k1, .ref q1]))]) [1, 0] rfl
    have hD9 := hD.sub (ws' := [(h0, .inr (2, [.int v, .int en, .ref k, .ref q])), (h1, .inr (0, [.int v1, .int kn1, .int ak1, .ref k1, .ref q1]))]) [1, 0] (by decide +kernel) rfl
    exact W.vret hx hb hr (fun t9 ht hW => ⟨⟨ak1, rfl, (by unfold q_X2_endWeekIfDue_ak2; rw [if_pos c_2]), by rw [ht]; exact hP9, hD9⟩, hS.F ht⟩) hS.2.2 dX2_endWeekIfDue_13
  · refine lv_aload_n hx hb dX2_endWeekIfDue_8 rfl (lv_at hl 1 rfl) ?_
    refine lv_iconst (v := 0) hx hb dX2_endWeekIfDue_9 (by decide) ?_
    refine va_put (D := Z.1) (ci := 0) (v := .int 0) (ty := .int) (C := RX0) (T := TX0) (N := 5) hx hb hts hin0 tyX0 tyX0_ok nmX0 hown hK hP hD hS 0 rfl rfl 2 (by decide) (hts (.fieldLink RX2 45 "HalfAsked$Folk" "asked" "I") (List.mem_of_getElem? (i := 1) rfl)) (fun _ h9 => h9) rfl (by decide +kernel) rfl rfl (Nat.le_of_ble_eq_true rfl) dX2_endWeekIfDue_10 (fun H locs hP hD hS => ?_)
    have hP : va_P Z.1 vwCl [(h1, .inr (0, [.int v1, .int kn1, .int 0, .ref k1, .ref q1])), (h0, .inr (2, [.int v, .int en, .ref k, .ref q]))] H := hP
    have hD : va_D A [(h1, .inr (0, [.int v1, .int kn1, .int 0, .ref k1, .ref q1])), (h0, .inr (2, [.int v, .int en, .ref k, .ref q]))] := hD
    have hP9 := hP.sub (ws' := [(h0, .inr (2, [.int v, .int en, .ref k, .ref q])), (h1, .inr (0, [.int v1, .int kn1, .int 0, .ref k1, .ref q1]))]) [1, 0] rfl
    have hD9 := hD.sub (ws' := [(h0, .inr (2, [.int v, .int en, .ref k, .ref q])), (h1, .inr (0, [.int v1, .int kn1, .int 0, .ref k1, .ref q1]))]) [1, 0] (by decide +kernel) rfl
    exact W.vret hx hb hr (fun t9 ht hW => ⟨⟨0, rfl, (by unfold q_X2_endWeekIfDue_ak2; rw [if_neg c_2]), by rw [ht]; exact hP9, hD9⟩, hS.F ht⟩) hS.2.2 dX2_endWeekIfDue_13
def q_X2_goOn_ak2 (en : Int32) (kn1 : Int32) (ak1 : Int32) (f : Nat → Int32) (g : Nat → Int32) (g1 : Nat → Int32) (j : Nat) : Int32 := q_X2_endWeekIfDue_ak2 en (q_X0_tryAsking_ak1 kn1 ak1 g1 (f (nI j).toNatClampNeg) (g (nI j).toNatClampNeg)) (nI j)
def q_X2_goOn_g2 (kn1 : Int32) (ak1 : Int32) (f : Nat → Int32) (g : Nat → Int32) (f1 : Nat → Int32) (g1 : Nat → Int32) (j : Nat) : Nat → Int32 := q_X0_tryAsking_g1 kn1 ak1 f1 g1 (f (nI j).toNatClampNeg) (g (nI j).toNatClampNeg)
set_option maxHeartbeats 4000000 in
set_option maxRecDepth 100000 in
theorem c_X2_goOn (l : Launch) (Z : gZ) (sz : Nat) (h0 : Nat) (n : Nat) (en : Int32) (k : Nat) (q : Nat) (h1 : Nat) (v1 : Int32) (kn1 : Int32) (ak1 : Int32) (k1 : Nat) (q1 : Nat) (f : Nat → Int32) (g : Nat → Int32) (f1 : Nat → Int32) (g1 : Nat → Int32) (j : Nat) (hn : n ≤ 8) (hp : zP n f g) (hj : j < n) : Met l yX2_goOn wsX2_goOn ({ frames := 2, cells := 0, slots := 0, locals := 46 }) (va_Pc [.ref h0, .ref h1, .int (nI j)] (fun U => U.heap.size = sz ∧ va_P Z.1 vwCl [(h0, .inr (2, [.int (nI n), .int en, .ref k, .ref q])), (k, .inl (Z.2 0, 8, .inl f)), (q, .inl (Z.2 0, 8, .inl g)), (h1, .inr (0, [.int v1, .int kn1, .int ak1, .ref k1, .ref q1])), (k1, .inl (Z.2 0, 5, .inl f1)), (q1, .inl (Z.2 0, 5, .inl g1))] U.heap ∧ va_K Z.1 vwCl (gT Z) U ∧ va_D (fun _ => True) [(h0, .inr (2, [.int (nI n), .int en, .ref k, .ref q])), (k, .inl (Z.2 0, 8, .inl f)), (q, .inl (Z.2 0, 8, .inl g)), (h1, .inr (0, [.int v1, .int kn1, .int ak1, .ref k1, .ref q1])), (k1, .inl (Z.2 0, 5, .inl f1)), (q1, .inl (Z.2 0, 5, .inl g1))])) (va_Qv (fun (u : Int32 × (Nat → Int32)) => match u with | (ak2, g2) => q_X2_goOn_ak2 en kn1 ak1 f g g1 j = ak2 ∧ q_X2_goOn_g2 kn1 ak1 f g f1 g1 j = g2) (fun (u : Int32 × (Nat → Int32)) (t9 : State) => match u with | (ak2, g2) => va_P Z.1 vwCl [(h0, .inr (2, [.int (nI n), .int en, .ref k, .ref q])), (k, .inl (Z.2 0, 8, .inl f)), (q, .inl (Z.2 0, 8, .inl g)), (h1, .inr (0, [.int v1, .int kn1, .int ak2, .ref k1, .ref q1])), (k1, .inl (Z.2 0, 5, .inl f1)), (q1, .inl (Z.2 0, 5, .inl g2))] t9.heap ∧ va_D (va_A [(h0, .inr (2, [.int (nI n), .int en, .ref k, .ref q])), (k, .inl (Z.2 0, 8, .inl f)), (q, .inl (Z.2 0, 8, .inl g)), (h1, .inr (0, [.int v1, .int kn1, .int ak1, .ref k1, .ref q1])), (k1, .inl (Z.2 0, 5, .inl f1)), (q1, .inl (Z.2 0, 5, .inl g1))] sz) [(h0, .inr (2, [.int (nI n), .int en, .ref k, .ref q])), (k, .inl (Z.2 0, 8, .inl f)), (q, .inl (Z.2 0, 8, .inl g)), (h1, .inr (0, [.int v1, .int kn1, .int ak2, .ref k1, .ref q1])), (k1, .inl (Z.2 0, 5, .inl f1)), (q1, .inl (Z.2 0, 5, .inl g2))]) (va_A [(h0, .inr (2, [.int (nI n), .int en, .ref k, .ref q])), (k, .inl (Z.2 0, 8, .inl f)), (q, .inl (Z.2 0, 8, .inl g)), (h1, .inr (0, [.int v1, .int kn1, .int ak1, .ref k1, .ref q1])), (k1, .inl (Z.2 0, 5, .inl f1)), (q1, .inl (Z.2 0, 5, .inl g1))] sz)) 0 0 (va_A [(h0, .inr (2, [.int (nI n), .int en, .ref k, .ref q])), (k, .inl (Z.2 0, 8, .inl f)), (q, .inl (Z.2 0, 8, .inl g)), (h1, .inr (0, [.int v1, .int kn1, .int ak1, .ref k1, .ref q1])), (k1, .inl (Z.2 0, 5, .inl f1)), (q1, .inl (Z.2 0, 5, .inl g1))] sz) := by
  refine Met.ofW (cc := cX2_goOn) (maxL := 3) (ret := none) (by decide) rfl ?_
  intro p e s m args below meth c s₁ B hml hv
  obtain ⟨rfl, hsz, hP, hK, hD0⟩ := hv
  have hx := B.exec
  have hb := B.bytes
  have hr := B.returns
  have hts := atoms_spec (ws := wsX2_goOn) B.pre
  have hown : s.vm.findClass RX2 = some m.cls := findClass_of_methodNamed B.named
  have hlocks := B.notSynchronized
  subst hsz
  have hin2 : ∀ w ∈ wsX20, w ∈ wsX2_goOn := fun w h9 => (List.mem_cons_of_mem _ (List.mem_append_left _ (List.mem_append_right _ h9)))
  have hD := hD0.self (sz := s.heap.size)
  generalize hAe : va_A [(h0, .inr (2, [.int (nI n), .int en, .ref k, .ref q])), (k, .inl (Z.2 0, 8, .inl f)), (q, .inl (Z.2 0, 8, .inl g)), (h1, .inr (0, [.int v1, .int kn1, .int ak1, .ref k1, .ref q1])), (k1, .inl (Z.2 0, 5, .inl f1)), (q1, .inl (Z.2 0, 5, .inl g1))] s.heap.size = A at hD ⊢
  have hA : ∀ q : Nat, s.heap.size ≤ q → A q := fun q h => by rw [← hAe]; exact Or.inr h
  have hS : va_S A s.heap s.heap [] := va_S.rf
  have hP : va_P Z.1 vwCl [(h0, .inr (2, [.int (nI n), .int en, .ref k, .ref q])), (k, .inl (Z.2 0, 8, .inl f)), (q, .inl (Z.2 0, 8, .inl g)), (h1, .inr (0, [.int v1, .int kn1, .int ak1, .ref k1, .ref q1])), (k1, .inl (Z.2 0, 5, .inl f1)), (q1, .inl (Z.2 0, 5, .inl g1))] s.heap := hP
  have hl := lv_entry ([.ref h0, .ref h1, .int (nI j)]) (n := 3) (Nat.le_of_ble_eq_true rfl)
  rw [lg_entry_eq]
  generalize (lg_sl ([.ref h0, .ref h1, .int (nI j)]) ++ List.replicate (3 - (lg_sl ([.ref h0, .ref h1, .int (nI j)])).length) Slot.unset).toArray = ls at hl ⊢
  have hl : lv_has ls 3 [(0, .ref h0), (1, .ref h1), (2, .int (nI j))] := hl
  refine lv_aload_n hx hb dX2_goOn_0 rfl (lv_at hl 1 rfl) ?_
  refine lv_aload_n hx hb dX2_goOn_1 rfl (lv_at hl 0 rfl) ?_
  refine va_get (D := Z.1) (ci := 2) (v := .ref k) (C := RX2) (T := TX2) (N := 4) hx hb hts hin2 hown hK hP 0 rfl rfl 2 (by decide) (hts (.fieldLink RX2 18 "HalfAsked$Plan" "by" "[I") (List.mem_of_getElem? (i := 1) rfl)) (fun _ h9 => h9) rfl dX2_goOn_2 ?_
  refine lv_iload_n hx hb dX2_goOn_5 rfl (lv_at hl 2 rfl) ?_
  refine va_iald hx hb hK hP 1 0 rfl rfl (vp_in_nI (by omega) (by decide)) dX2_goOn_6 ?_
  refine lv_aload_n hx hb dX2_goOn_7 rfl (lv_at hl 0 rfl) ?_
  refine va_get (D := Z.1) (ci := 2) (v := .ref q) (C := RX2) (T := TX2) (N := 4) hx hb hts hin2 hown hK hP 0 rfl rfl 3 (by decide) (hts (.fieldLink RX2 22 "HalfAsked$Plan" "of" "[I") (List.mem_of_getElem? (i := 2) rfl)) (fun _ h9 => h9) rfl dX2_goOn_8 ?_
  refine lv_iload_n hx hb dX2_goOn_11 rfl (lv_at hl 2 rfl) ?_
  refine va_iald hx hb hK hP 2 0 rfl rfl (vp_in_nI (by omega) (by decide)) dX2_goOn_12 ?_
  have hPc := hP.sub (ws' := [(h1, .inr (0, [.int v1, .int kn1, .int ak1, .ref k1, .ref q1])), (k1, .inl (Z.2 0, 5, .inl f1)), (q1, .inl (Z.2 0, 5, .inl g1))]) [3, 4, 5] rfl
  have hDc := hD.sub (ws' := [(h1, .inr (0, [.int v1, .int kn1, .int ak1, .ref k1, .ref q1])), (k1, .inl (Z.2 0, 5, .inl f1)), (q1, .inl (Z.2 0, 5, .inl g1))]) [3, 4, 5] (by decide +kernel) rfl
  have hFc := va_free (wc := [(h1, .inr (0, [.int v1, .int kn1, .int ak1, .ref k1, .ref q1])), (k1, .inl (Z.2 0, 5, .inl f1)), (q1, .inl (Z.2 0, 5, .inl g1))]) hD hS hA [3, 4, 5] rfl
  refine va_calli (va_runV (As := [.int (f (nI j).toNatClampNeg), .int (g (nI j).toNatClampNeg)]) (rest := []) ⟨hx, hb, hml, hown, hts⟩ (c_X0_tryAsking l Z s.heap.size h1 v1 kn1 ak1 k1 q1 f1 g1 (f (nI j).toNatClampNeg) (g (nI j).toNatClampNeg) (by rw [nI_clamp (by omega)]; exact (hp j hj).1) (by rw [nI_clamp (by omega)]; exact (hp j hj).2)) (cwV 2 hts gX2_goOn_X0_tryAsking rfl rfl rfl (by decide +kernel) ⟨Nat.le_of_ble_eq_true rfl, Nat.le_of_ble_eq_true rfl⟩) ⟨fun a U g mk q => by obtain ⟨q0, q1, qP, qK, qD⟩ := q; exact ⟨q0, q1, qP, va_K.moved (u := U) (U := U.calling g mk a) (Vm.Alike.refl U.vm) qK, qD⟩, va_recv hK hPc (ci := 0) (q0 := 0) rfl rfl, fun U hU hW => ⟨rfl, by rw [hU], by rw [hU]; exact hPc, va_K.moved hW.alike hK, hDc.weaken (fun _ _ _ _ => trivial)⟩⟩ rfl rfl hl.1 rfl (lv_room (Nat.le_of_ble_eq_true rfl)) dX2_goOn_13 ⟨Nat.le_of_ble_eq_true rfl, Nat.le_of_ble_eq_true rfl⟩) hS (fun q _ h => hFc q h) hFc (fun r_1 u t9 H1 locs ht hvm hw hB hz1 hk1 hS => ?_)
  obtain ⟨ak1_2, g1_3⟩ := u
  try dsimp only at hw hB
  obtain ⟨hw, hx_4, hx_5⟩ := hw
  subst hx_4
  subst hx_5
  have hw9 := hw.symm
  clear hw
  subst hw9
  obtain ⟨hP1, hD1⟩ := hB
  rw [ht] at hP1
  obtain ⟨hP, hD⟩ := va_join (wr := [(h0, .inr (2, [.int (nI n), .int en, .ref k, .ref q])), (k, .inl (Z.2 0, 8, .inl f)), (q, .inl (Z.2 0, 8, .inl g))]) (w1 := [(h1, .inr (0, [.int v1, .int kn1, .int (q_X0_tryAsking_ak1 kn1 ak1 g1 (f (nI j).toNatClampNeg) (g (nI j).toNatClampNeg)), .ref k1, .ref q1])), (k1, .inl (Z.2 0, 5, .inl f1)), (q1, .inl (Z.2 0, 5, .inl (q_X0_tryAsking_g1 kn1 ak1 f1 g1 (f (nI j).toNatClampNeg) (g (nI j).toNatClampNeg))))]) hP hD [3, 4, 5] [0, 1, 2] rfl rfl (by decide +kernel) (by decide +kernel) hk1 hFc hP1 hD1
  clear hPc hDc hP1 hD1 hk1 hz1 hFc ht hvm
  generalize H1 = H at hP hS ⊢
  have hP : va_P Z.1 vwCl [(h0, .inr (2, [.int (nI n), .int en, .ref k, .ref q])), (k, .inl (Z.2 0, 8, .inl f)), (q, .inl (Z.2 0, 8, .inl g)), (h1, .inr (0, [.int v1, .int kn1, .int (q_X0_tryAsking_ak1 kn1 ak1 g1 (f (nI j).toNatClampNeg) (g (nI j).toNatClampNeg)), .ref k1, .ref q1])), (k1, .inl (Z.2 0, 5, .inl f1)), (q1, .inl (Z.2 0, 5, .inl (q_X0_tryAsking_g1 kn1 ak1 f1 g1 (f (nI j).toNatClampNeg) (g (nI j).toNatClampNeg))))] H := hP
  have hD : va_D A [(h0, .inr (2, [.int (nI n), .int en, .ref k, .ref q])), (k, .inl (Z.2 0, 8, .inl f)), (q, .inl (Z.2 0, 8, .inl g)), (h1, .inr (0, [.int v1, .int kn1, .int (q_X0_tryAsking_ak1 kn1 ak1 g1 (f (nI j).toNatClampNeg) (g (nI j).toNatClampNeg)), .ref k1, .ref q1])), (k1, .inl (Z.2 0, 5, .inl f1)), (q1, .inl (Z.2 0, 5, .inl (q_X0_tryAsking_g1 kn1 ak1 f1 g1 (f (nI j).toNatClampNeg) (g (nI j).toNatClampNeg))))] := hD
  refine lv_pop hx hb dX2_goOn_16 rfl ?_
  refine lv_aload_n hx hb dX2_goOn_17 rfl (lv_at hl 0 rfl) ?_
  refine lv_aload_n hx hb dX2_goOn_18 rfl (lv_at hl 1 rfl) ?_
  refine lv_iload_n hx hb dX2_goOn_19 rfl (lv_at hl 2 rfl) ?_
  have hPc := hP.sub (ws' := [(h0, .inr (2, [.int (nI n), .int en, .ref k, .ref q])), (h1, .inr (0, [.int v1, .int kn1, .int (q_X0_tryAsking_ak1 kn1 ak1 g1 (f (nI j).toNatClampNeg) (g (nI j).toNatClampNeg)), .ref k1, .ref q1]))]) [0, 3] rfl
  have hDc := hD.sub (ws' := [(h0, .inr (2, [.int (nI n), .int en, .ref k, .ref q])), (h1, .inr (0, [.int v1, .int kn1, .int (q_X0_tryAsking_ak1 kn1 ak1 g1 (f (nI j).toNatClampNeg) (g (nI j).toNatClampNeg)), .ref k1, .ref q1]))]) [0, 3] (by decide +kernel) rfl
  have hFc := va_free (wc := [(h0, .inr (2, [.int (nI n), .int en, .ref k, .ref q])), (h1, .inr (0, [.int v1, .int kn1, .int (q_X0_tryAsking_ak1 kn1 ak1 g1 (f (nI j).toNatClampNeg) (g (nI j).toNatClampNeg)), .ref k1, .ref q1]))]) hD hS hA [0, 3] rfl
  refine va_callv (va_runV (As := [.ref h1, .int (nI j)]) (rest := []) ⟨hx, hb, hml, hown, hts⟩ (c_X2_endWeekIfDue l Z H.size h0 (nI n) en k q h1 v1 kn1 (q_X0_tryAsking_ak1 kn1 ak1 g1 (f (nI j).toNatClampNeg) (g (nI j).toNatClampNeg)) k1 q1 (nI j)) (cwV 2 hts gX2_goOn_X2_endWeekIfDue rfl rfl rfl (by decide +kernel) ⟨Nat.le_of_ble_eq_true rfl, Nat.le_of_ble_eq_true rfl⟩) ⟨fun a U g mk q => by obtain ⟨q0, q1, qP, qK, qD⟩ := q; exact ⟨q0, q1, qP, va_K.moved (u := U) (U := U.calling g mk a) (Vm.Alike.refl U.vm) qK, qD⟩, va_recv hK hPc (ci := 2) (q0 := 0) rfl rfl, fun U hU hW => ⟨rfl, by rw [hU], by rw [hU]; exact hPc, va_K.moved hW.alike hK, hDc.weaken (fun _ _ _ _ => trivial)⟩⟩ rfl rfl hl.1 rfl (lv_room (Nat.le_of_ble_eq_true rfl)) dX2_goOn_20 ⟨Nat.le_of_ble_eq_true rfl, Nat.le_of_ble_eq_true rfl⟩) hS (fun q _ h => hFc q h) hFc (fun u t9 H1 locs ht hvm hw hB hz1 hk1 hS => ?_)
  obtain ⟨ak2_7, rfl⟩ : ∃ z, z = u := ⟨_, rfl⟩
  try dsimp only at hw hB
  have hx_8 := hw
  subst hx_8
  obtain ⟨hP1, hD1⟩ := hB
  rw [ht] at hP1
  obtain ⟨hP, hD⟩ := va_join (wr := [(k, .inl (Z.2 0, 8, .inl f)), (q, .inl (Z.2 0, 8, .inl g)), (k1, .inl (Z.2 0, 5, .inl f1)), (q1, .inl (Z.2 0, 5, .inl (q_X0_tryAsking_g1 kn1 ak1 f1 g1 (f (nI j).toNatClampNeg) (g (nI j).toNatClampNeg))))]) (w1 := [(h0, .inr (2, [.int (nI n), .int en, .ref k, .ref q])), (h1, .inr (0, [.int v1, .int kn1, .int (q_X2_endWeekIfDue_ak2 en (q_X0_tryAsking_ak1 kn1 ak1 g1 (f (nI j).toNatClampNeg) (g (nI j).toNatClampNeg)) (nI j)), .ref k1, .ref q1]))]) hP hD [0, 3] [1, 2, 4, 5] rfl rfl (by decide +kernel) (by decide +kernel) hk1 hFc hP1 hD1
  clear hPc hDc hP1 hD1 hk1 hz1 hFc ht hvm
  generalize H1 = H at hP hS ⊢
  have hP : va_P Z.1 vwCl [(k, .inl (Z.2 0, 8, .inl f)), (q, .inl (Z.2 0, 8, .inl g)), (k1, .inl (Z.2 0, 5, .inl f1)), (q1, .inl (Z.2 0, 5, .inl (q_X0_tryAsking_g1 kn1 ak1 f1 g1 (f (nI j).toNatClampNeg) (g (nI j).toNatClampNeg)))), (h0, .inr (2, [.int (nI n), .int en, .ref k, .ref q])), (h1, .inr (0, [.int v1, .int kn1, .int (q_X2_endWeekIfDue_ak2 en (q_X0_tryAsking_ak1 kn1 ak1 g1 (f (nI j).toNatClampNeg) (g (nI j).toNatClampNeg)) (nI j)), .ref k1, .ref q1]))] H := hP
  have hD : va_D A [(k, .inl (Z.2 0, 8, .inl f)), (q, .inl (Z.2 0, 8, .inl g)), (k1, .inl (Z.2 0, 5, .inl f1)), (q1, .inl (Z.2 0, 5, .inl (q_X0_tryAsking_g1 kn1 ak1 f1 g1 (f (nI j).toNatClampNeg) (g (nI j).toNatClampNeg)))), (h0, .inr (2, [.int (nI n), .int en, .ref k, .ref q])), (h1, .inr (0, [.int v1, .int kn1, .int (q_X2_endWeekIfDue_ak2 en (q_X0_tryAsking_ak1 kn1 ak1 g1 (f (nI j).toNatClampNeg) (g (nI j).toNatClampNeg)) (nI j)), .ref k1, .ref q1]))] := hD
  have hP9 := hP.sub (ws' := [(h0, .inr (2, [.int (nI n), .int en, .ref k, .ref q])), (k, .inl (Z.2 0, 8, .inl f)), (q, .inl (Z.2 0, 8, .inl g)), (h1, .inr (0, [.int v1, .int kn1, .int (q_X2_endWeekIfDue_ak2 en (q_X0_tryAsking_ak1 kn1 ak1 g1 (f (nI j).toNatClampNeg) (g (nI j).toNatClampNeg)) (nI j)), .ref k1, .ref q1])), (k1, .inl (Z.2 0, 5, .inl f1)), (q1, .inl (Z.2 0, 5, .inl (q_X0_tryAsking_g1 kn1 ak1 f1 g1 (f (nI j).toNatClampNeg) (g (nI j).toNatClampNeg))))]) [4, 0, 1, 5, 2, 3] rfl
  have hD9 := hD.sub (ws' := [(h0, .inr (2, [.int (nI n), .int en, .ref k, .ref q])), (k, .inl (Z.2 0, 8, .inl f)), (q, .inl (Z.2 0, 8, .inl g)), (h1, .inr (0, [.int v1, .int kn1, .int (q_X2_endWeekIfDue_ak2 en (q_X0_tryAsking_ak1 kn1 ak1 g1 (f (nI j).toNatClampNeg) (g (nI j).toNatClampNeg)) (nI j)), .ref k1, .ref q1])), (k1, .inl (Z.2 0, 5, .inl f1)), (q1, .inl (Z.2 0, 5, .inl (q_X0_tryAsking_g1 kn1 ak1 f1 g1 (f (nI j).toNatClampNeg) (g (nI j).toNatClampNeg))))]) [4, 0, 1, 5, 2, 3] (by decide +kernel) rfl
  exact W.vret hx hb hr (fun t9 ht hW => ⟨⟨(q_X2_endWeekIfDue_ak2 en (q_X0_tryAsking_ak1 kn1 ak1 g1 (f (nI j).toNatClampNeg) (g (nI j).toNatClampNeg)) (nI j), q_X0_tryAsking_g1 kn1 ak1 f1 g1 (f (nI j).toNatClampNeg) (g (nI j).toNatClampNeg)), rfl, ⟨rfl, rfl⟩, by rw [ht]; exact hP9, hD9⟩, hS.F ht⟩) hS.2.2 dX2_goOn_23
