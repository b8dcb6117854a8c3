theorem z_so {a : Int32} (h : ¬ a ≤ 0) : 1 ≤ a := by
  rw [Int32.le_iff_toInt_le] at h ⊢
  have e0 : (0 : Int32).toInt = 0 := by decide
  have e1 : (1 : Int32).toInt = 1 := by decide
  omega
theorem z_sh {a : Int32} (h : ¬ (if a < 0 then (0 : Int32) else (if 4 ≤ a then (0 : Int32) else (1 : Int32))) = 0) : vp_in a 4 := by
  by_cases h1 : a < 0
  · exact absurd (if_pos h1) h
  · by_cases h2 : 4 ≤ a
    · exact absurd (by rw [if_neg h1, if_pos h2]) h
    · rw [Int32.lt_iff_toInt_lt] at h1
      rw [Int32.le_iff_toInt_le] at h2
      have e0 : (0 : Int32).toInt = 0 := by decide
      have e4 : (4 : Int32).toInt = 4 := by decide
      exact vp_in_iff.mpr (by omega)
theorem z_has0 (a : Int32) : (if a < 0 then (0 : Int32) else (if 0 ≤ a then (0 : Int32) else 1)) = 0 := by
  by_cases h : a < 0
  · rw [if_pos h]
  · rw [if_neg h, if_pos (Int32.not_lt.mp h)]
theorem z_pair0 (a b : Int32) : (if (if a < 0 then (0 : Int32) else (if 0 ≤ a then (0 : Int32) else (1 : Int32))) = 0 then (0 : Int32) else (if (if b < 0 then (0 : Int32) else (if 0 ≤ b then (0 : Int32) else (1 : Int32))) = 0 then (0 : Int32) else (if a = b then (0 : Int32) else (1 : Int32)))) = 0 := if_pos (z_has0 a)
set_option maxHeartbeats 4000000 in
set_option maxRecDepth 100000 in
theorem c_X8_person (l : Launch) (Z : gZ) (sz : Nat) (h0 : Nat) (a1 : Nat) (a2 : Nat) (a3 : Nat) (a4 : Nat) (a5 : Nat) (a6 : Nat) (a7 : Nat) (a8 : Nat) (a9 : Nat) (a10 : Nat) (a11 : Nat) (a12 : Nat) (a13 : Nat) (fk : Nat) (fq : Nat) (a : Int32) (b : Int32)  : Met l yX8_person wsX8_person ({ frames := 1, cells := 0, slots := 0, locals := 22 }) (va_Pc [.ref h0, .int a, .int b] (fun U => U.heap.size = sz ∧ va_P Z.1 vwCl [(h0, .inr (8, [.ref a1, .ref a2, .ref a3, .ref a4, .ref a5, .int 0, .ref a6, .ref a7, .ref a8, .ref a9, .ref a10, .ref a11, .ref a12, .ref a13, .int 9, .int 0, .int 0])), (a1, .inr (0, [.int 0, .int 16510910, .int 0, .ref fk, .ref fq])), (fk, .inl (Z.2 0, 5, .inl (fun _ => 0))), (fq, .inl (Z.2 0, 5, .inl (fun _ => 0)))] U.heap ∧ va_K Z.1 vwCl (gT Z) U ∧ va_D (fun _ => True) [(h0, .inr (8, [.ref a1, .ref a2, .ref a3, .ref a4, .ref a5, .int 0, .ref a6, .ref a7, .ref a8, .ref a9, .ref a10, .ref a11, .ref a12, .ref a13, .int 9, .int 0, .int 0])), (a1, .inr (0, [.int 0, .int 16510910, .int 0, .ref fk, .ref fq])), (fk, .inl (Z.2 0, 5, .inl (fun _ => 0))), (fq, .inl (Z.2 0, 5, .inl (fun _ => 0)))])) (va_Qi (fun (r : Int32) (u : Unit) => r = (if a < 0 then (-1 : Int32) else (if 3 < a then (-1 : Int32) else (if (if b < 0 then (0 : Int32) else (if 9999 < b then (0 : Int32) else (1 : Int32))) = 0 then (-1 : Int32) else (0 : Int32))))) (fun (u : Unit) (t : State) => True) (va_A [(h0, .inr (8, [.ref a1, .ref a2, .ref a3, .ref a4, .ref a5, .int 0, .ref a6, .ref a7, .ref a8, .ref a9, .ref a10, .ref a11, .ref a12, .ref a13, .int 9, .int 0, .int 0])), (a1, .inr (0, [.int 0, .int 16510910, .int 0, .ref fk, .ref fq])), (fk, .inl (Z.2 0, 5, .inl (fun _ => 0))), (fq, .inl (Z.2 0, 5, .inl (fun _ => 0)))] sz)) 0 0 (va_A [(h0, .inr (8, [.ref a1, .ref a2, .ref a3, .ref a4, .ref a5, .int 0, .ref a6, .ref a7, .ref a8, .ref a9, .ref a10, .ref a11, .ref a12, .ref a13, .int 9, .int 0, .int 0])), (a1, .inr (0, [.int 0, .int 16510910, .int 0, .ref fk, .ref fq])), (fk, .inl (Z.2 0, 5, .inl (fun _ => 0))), (fq, .inl (Z.2 0, 5, .inl (fun _ => 0)))] sz) := by
  refine Met.ofW (cc := cX8_person) (maxL := 3) (ret := (some .int)) (by decide) rfl ?_
  intro p e s m args below meth c s₁ B hml hv
  obtain ⟨rfl, hsz, hP, hK, hD0⟩ := hv
  have hx := B.exec
  have hb := B.bytes
  have hr := B.returns
  have hts := atoms_spec (ws := wsX8_person) B.pre
  have hown : s.vm.findClass RX8 = some m.cls := findClass_of_methodNamed B.named
  have hlocks := B.notSynchronized
  subst hsz
  have hin0 : ∀ w ∈ wsX00, w ∈ wsX8_person := by decide +kernel
  have hin8 : ∀ w ∈ wsX80, w ∈ wsX8_person := by decide +kernel
  have hD := hD0.self (sz := s.heap.size)
  generalize hAe : va_A [(h0, .inr (8, [.ref a1, .ref a2, .ref a3, .ref a4, .ref a5, .int 0, .ref a6, .ref a7, .ref a8, .ref a9, .ref a10, .ref a11, .ref a12, .ref a13, .int 9, .int 0, .int 0])), (a1, .inr (0, [.int 0, .int 16510910, .int 0, .ref fk, .ref fq])), (fk, .inl (Z.2 0, 5, .inl (fun _ => 0))), (fq, .inl (Z.2 0, 5, .inl (fun _ => 0)))] s.heap.size = A at hD ⊢
  have hA : ∀ q : Nat, s.heap.size ≤ q → A q := fun q h => by rw [← hAe]; exact Or.inr h
  have hS : va_S A s.heap s.heap [] := va_S.rf
  have hP : va_P Z.1 vwCl [(h0, .inr (8, [.ref a1, .ref a2, .ref a3, .ref a4, .ref a5, .int 0, .ref a6, .ref a7, .ref a8, .ref a9, .ref a10, .ref a11, .ref a12, .ref a13, .int 9, .int 0, .int 0])), (a1, .inr (0, [.int 0, .int 16510910, .int 0, .ref fk, .ref fq])), (fk, .inl (Z.2 0, 5, .inl (fun _ => 0))), (fq, .inl (Z.2 0, 5, .inl (fun _ => 0)))] s.heap := hP
  have hl := lv_entry ([.ref h0, .int a, .int b]) (n := 3) (Nat.le_of_ble_eq_true rfl)
  rw [lg_entry_eq]
  generalize (lg_sl ([.ref h0, .int a, .int b]) ++ List.replicate (3 - (lg_sl ([.ref h0, .int a, .int b])).length) Slot.unset).toArray = ls at hl ⊢
  have hl : lv_has ls 3 [(0, .ref h0), (1, .int a), (2, .int b)] := hl
  refine lv_iload_n hx hb dX8_person_0 rfl (lv_at hl 1 rfl) ?_
  refine lv_if_lt (tgt := 16) hx hb dX8_person_1 (by decide) (fun c_1 => ?_) (fun c_1 => ?_)
  · refine lv_iconst (v := (-1)) hx hb dX8_person_16 (by decide) ?_
    exact W.iret (v := (-1)) hx hb hr (fun t ht hW => ⟨⟨(-1), (), rfl, (by rw [if_pos c_1]), trivial⟩, hS.F ht⟩) hS.2.2 dX8_person_17
  · refine lv_iload_n hx hb dX8_person_4 rfl (lv_at hl 1 rfl) ?_
    refine lv_iconst (v := 3) hx hb dX8_person_5 (by decide) ?_
    refine lv_icmp_gt (tgt := 16) hx hb dX8_person_6 (by decide) (fun c_2 => ?_) (fun c_2 => ?_)
    · refine lv_iconst (v := (-1)) hx hb dX8_person_16 (by decide) ?_
      exact W.iret (v := (-1)) hx hb hr (fun t ht hW => ⟨⟨(-1), (), rfl, (by rw [if_neg c_1, if_pos c_2]), trivial⟩, hS.F ht⟩) hS.2.2 dX8_person_17
    · refine lv_iload_n hx hb dX8_person_9 rfl (lv_at hl 2 rfl) ?_
      have hPc := hP.sub (ws' := []) [] rfl
      have hDc := hD.sub (ws' := []) [] (by decide) rfl
      have hFc := va_free (wc := []) hD hS hA [] rfl
      refine va_calli (va_runS (As := [.int b]) (rest := []) ⟨hx, hb, hml, hown, hts⟩ (c_X8_isSum l Z s.heap.size b) (va_cwS 1 hts gX8_person_X8_isSum rfl rfl rfl (by decide +kernel) ⟨Nat.le_of_ble_eq_true rfl, Nat.le_of_ble_eq_true rfl⟩) ⟨fun a U g mk q => by obtain ⟨q0, q1, qP, qK, qD⟩ := q; exact ⟨q0, q1, qP, va_K.moved (u := U) (U := U.calling g mk a) (Vm.Alike.refl U.vm) qK, qD⟩, fun U hU hW => ⟨rfl, by rw [hU], by rw [hU]; exact hPc, va_K.moved hW.alike hK, hDc.weaken (fun _ _ _ _ => trivial)⟩⟩ rfl rfl hl.1 rfl (lv_room (Nat.le_of_ble_eq_true rfl)) dX8_person_10 ⟨Nat.le_of_ble_eq_true rfl, Nat.le_of_ble_eq_true rfl⟩) hS (fun q _ h => hFc q h) hFc (fun r_3 u t H1 locs ht hvm hw hB hz1 hk1 hS => ?_)
      subst hw
      have hP1 : va_P Z.1 vwCl [] H1 := fun k q h => by simp at h
      have hD1 : va_D (va_A [] s.heap.size) [] := ⟨fun i j p q h => by simp at h, fun k q h => by simp at h⟩
      obtain ⟨hP, hD⟩ := va_join (wr := [(h0, .inr (8, [.ref a1, .ref a2, .ref a3, .ref a4, .ref a5, .int 0, .ref a6, .ref a7, .ref a8, .ref a9, .ref a10, .ref a11, .ref a12, .ref a13, .int 9, .int 0, .int 0])), (a1, .inr (0, [.int 0, .int 16510910, .int 0, .ref fk, .ref fq])), (fk, .inl (Z.2 0, 5, .inl (fun _ => 0))), (fq, .inl (Z.2 0, 5, .inl (fun _ => 0)))]) (w1 := []) hP hD [] [0, 1, 2, 3] rfl rfl (by decide) (by decide) hk1 hFc hP1 hD1
      clear hPc hDc hP1 hD1 hk1 hz1 hFc ht hvm
      generalize H1 = H at hP hS ⊢
      have hP : va_P Z.1 vwCl [(h0, .inr (8, [.ref a1, .ref a2, .ref a3, .ref a4, .ref a5, .int 0, .ref a6, .ref a7, .ref a8, .ref a9, .ref a10, .ref a11, .ref a12, .ref a13, .int 9, .int 0, .int 0])), (a1, .inr (0, [.int 0, .int 16510910, .int 0, .ref fk, .ref fq])), (fk, .inl (Z.2 0, 5, .inl (fun _ => 0))), (fq, .inl (Z.2 0, 5, .inl (fun _ => 0)))] H := hP
      have hD : va_D A [(h0, .inr (8, [.ref a1, .ref a2, .ref a3, .ref a4, .ref a5, .int 0, .ref a6, .ref a7, .ref a8, .ref a9, .ref a10, .ref a11, .ref a12, .ref a13, .int 9, .int 0, .int 0])), (a1, .inr (0, [.int 0, .int 16510910, .int 0, .ref fk, .ref fq])), (fk, .inl (Z.2 0, 5, .inl (fun _ => 0))), (fq, .inl (Z.2 0, 5, .inl (fun _ => 0)))] := hD
      refine lv_if_ne (tgt := 18) hx hb dX8_person_13 (by decide) (fun c_4 => ?_) (fun c_4 => ?_)
      · refine lv_aload_n hx hb dX8_person_18 rfl (lv_at hl 0 rfl) ?_
        refine va_get (D := Z.1) (ci := 8) (v := .ref a1) (C := RX8) (T := TX8) (N := 17) hx hb hts hin8 hown hK hP 0 rfl rfl 0 (by decide) (hts (.fieldLink RX8 10 "HalfAsked" "folk" "LHalfAsked$Folk;") (by decide +kernel)) (fun _ h9 => h9) rfl dX8_person_19 ?_
        refine va_get (D := Z.1) (ci := 0) (v := .int 0) (C := RX0) (T := TX0) (N := 5) hx hb hts hin0 hown hK hP 1 rfl rfl 0 (by decide) (hts (.fieldLink RX8 98 "HalfAsked$Folk" "size" "I") (by decide +kernel)) (fun _ h9 => h9) rfl dX8_person_22 ?_
        refine lv_iconst (v := 5) hx hb dX8_person_25 (by decide) ?_
        refine lv_icmp_lt (tgt := 32) hx hb dX8_person_26 (by decide) (fun _ => ?_) (fun c9 => absurd c9 (by decide))
        refine lv_aload_n hx hb dX8_person_32 rfl (lv_at hl 0 rfl) ?_
        have hPc := hP.sub (ws' := [(h0, .inr (8, [.ref a1, .ref a2, .ref a3, .ref a4, .ref a5, .int 0, .ref a6, .ref a7, .ref a8, .ref a9, .ref a10, .ref a11, .ref a12, .ref a13, .int 9, .int 0, .int 0]))]) [0] rfl
        have hDc := hD.sub (ws' := [(h0, .inr (8, [.ref a1, .ref a2, .ref a3, .ref a4, .ref a5, .int 0, .ref a6, .ref a7, .ref a8, .ref a9, .ref a10, .ref a11, .ref a12, .ref a13, .int 9, .int 0, .int 0]))]) [0] (by decide) rfl
        have hFc := va_free (wc := [(h0, .inr (8, [.ref a1, .ref a2, .ref a3, .ref a4, .ref a5, .int 0, .ref a6, .ref a7, .ref a8, .ref a9, .ref a10, .ref a11, .ref a12, .ref a13, .int 9, .int 0, .int 0]))]) hD hS hA [0] rfl
        refine va_callv (va_runV (As := []) (rest := []) ⟨hx, hb, hml, hown, hts⟩ (c_X8_forgetFound l Z H.size h0 a1 a2 a3 a4 a5 a6 a7 a8 a9 a10 a11 a12 a13 0 9 0 0) (cwV 0 hts gX8_person_X8_forgetFound rfl rfl rfl (by decide +kernel) ⟨Nat.le_of_ble_eq_true rfl, Nat.le_of_ble_eq_true rfl⟩) ⟨fun a U g mk q => by obtain ⟨q0, q1, qP, qK, qD⟩ := q; exact ⟨q0, q1, qP, va_K.moved (u := U) (U := U.calling g mk a) (Vm.Alike.refl U.vm) qK, qD⟩, va_recv hK hPc (ci := 8) (q0 := 0) rfl rfl, fun U hU hW => ⟨rfl, by rw [hU], by rw [hU]; exact hPc, va_K.moved hW.alike hK, hDc.weaken (fun _ _ _ _ => trivial)⟩⟩ rfl rfl hl.1 rfl (lv_room (Nat.le_of_ble_eq_true rfl)) dX8_person_33 ⟨Nat.le_of_ble_eq_true rfl, Nat.le_of_ble_eq_true rfl⟩) hS (fun q _ h => hFc q h) hFc (fun u t H1 locs ht hvm hw hB hz1 hk1 hS => ?_)
        obtain ⟨hP1, hD1⟩ := hB
        rw [ht] at hP1
        obtain ⟨hP, hD⟩ := va_join (wr := [(a1, .inr (0, [.int 0, .int 16510910, .int 0, .ref fk, .ref fq])), (fk, .inl (Z.2 0, 5, .inl (fun _ => 0))), (fq, .inl (Z.2 0, 5, .inl (fun _ => 0)))]) (w1 := [(h0, .inr (8, [.ref a1, .ref a2, .ref a3, .ref a4, .ref a5, .int 0, .ref a6, .ref a7, .ref a8, .ref a9, .ref a10, .ref a11, .ref a12, .ref a13, .int 9, .int 0, .int 0]))]) hP hD [0] [1, 2, 3] rfl rfl (by decide) (by decide) hk1 hFc hP1 hD1
        clear hPc hDc hP1 hD1 hk1 hz1 hFc ht hvm
        generalize H1 = H at hP hS ⊢
        have hP : va_P Z.1 vwCl [(a1, .inr (0, [.int 0, .int 16510910, .int 0, .ref fk, .ref fq])), (fk, .inl (Z.2 0, 5, .inl (fun _ => 0))), (fq, .inl (Z.2 0, 5, .inl (fun _ => 0))), (h0, .inr (8, [.ref a1, .ref a2, .ref a3, .ref a4, .ref a5, .int 0, .ref a6, .ref a7, .ref a8, .ref a9, .ref a10, .ref a11, .ref a12, .ref a13, .int 9, .int 0, .int 0]))] H := hP
        have hD : va_D A [(a1, .inr (0, [.int 0, .int 16510910, .int 0, .ref fk, .ref fq])), (fk, .inl (Z.2 0, 5, .inl (fun _ => 0))), (fq, .inl (Z.2 0, 5, .inl (fun _ => 0))), (h0, .inr (8, [.ref a1, .ref a2, .ref a3, .ref a4, .ref a5, .int 0, .ref a6, .ref a7, .ref a8, .ref a9, .ref a10, .ref a11, .ref a12, .ref a13, .int 9, .int 0, .int 0]))] := hD
        refine lv_aload_n hx hb dX8_person_36 rfl (lv_at hl 0 rfl) ?_
        refine va_get (D := Z.1) (ci := 8) (v := .ref a1) (C := RX8) (T := TX8) (N := 17) hx hb hts hin8 hown hK hP 3 rfl rfl 0 (by decide) (hts (.fieldLink RX8 10 "HalfAsked" "folk" "LHalfAsked$Folk;") (by decide +kernel)) (fun _ h9 => h9) rfl dX8_person_37 ?_
        refine lv_iload_n hx hb dX8_person_40 rfl (lv_at hl 1 rfl) ?_
        refine lv_iload_n hx hb dX8_person_41 rfl (lv_at hl 2 rfl) ?_
        have hPc := hP.sub (ws' := [(a1, .inr (0, [.int 0, .int 16510910, .int 0, .ref fk, .ref fq])), (fk, .inl (Z.2 0, 5, .inl (fun _ => 0))), (fq, .inl (Z.2 0, 5, .inl (fun _ => 0)))]) [0, 1, 2] rfl
        have hDc := hD.sub (ws' := [(a1, .inr (0, [.int 0, .int 16510910, .int 0, .ref fk, .ref fq])), (fk, .inl (Z.2 0, 5, .inl (fun _ => 0))), (fq, .inl (Z.2 0, 5, .inl (fun _ => 0)))]) [0, 1, 2] (by decide) rfl
        have hFc := va_free (wc := [(a1, .inr (0, [.int 0, .int 16510910, .int 0, .ref fk, .ref fq])), (fk, .inl (Z.2 0, 5, .inl (fun _ => 0))), (fq, .inl (Z.2 0, 5, .inl (fun _ => 0)))]) hD hS hA [0, 1, 2] rfl
        refine va_callv (va_runV (As := [.int a, .int b]) (rest := []) ⟨hx, hb, hml, hown, hts⟩ (c_X0_add l Z H.size a1 16510910 0 fk fq (fun _ => 0) (fun _ => 0) a b) (cwV 2 hts gX8_person_X0_add rfl rfl rfl (by decide +kernel) ⟨Nat.le_of_ble_eq_true rfl, Nat.le_of_ble_eq_true rfl⟩) ⟨fun a U g mk q => by obtain ⟨q0, q1, qP, qK, qD⟩ := q; exact ⟨q0, q1, qP, va_K.moved (u := U) (U := U.calling g mk a) (Vm.Alike.refl U.vm) qK, qD⟩, va_recv hK hPc (ci := 0) (q0 := 0) rfl rfl, fun U hU hW => ⟨rfl, by rw [hU], by rw [hU]; exact hPc, va_K.moved hW.alike hK, hDc.weaken (fun _ _ _ _ => trivial)⟩⟩ rfl rfl hl.1 rfl (lv_room (Nat.le_of_ble_eq_true rfl)) dX8_person_42 ⟨Nat.le_of_ble_eq_true rfl, Nat.le_of_ble_eq_true rfl⟩) hS (fun q _ h => hFc q h) hFc (fun u t H1 locs ht hvm hw hB hz1 hk1 hS => ?_)
        obtain ⟨f1_7, g1_8⟩ := u
        try dsimp only at hw hB
        obtain ⟨hP1, hD1⟩ := hB
        rw [ht] at hP1
        obtain ⟨hP, hD⟩ := va_join (wr := [(h0, .inr (8, [.ref a1, .ref a2, .ref a3, .ref a4, .ref a5, .int 0, .ref a6, .ref a7, .ref a8, .ref a9, .ref a10, .ref a11, .ref a12, .ref a13, .int 9, .int 0, .int 0]))]) (w1 := [(a1, .inr (0, [.int 1, .int 16510910, .int 0, .ref fk, .ref fq])), (fk, .inl (Z.2 0, 5, .inl f1_7)), (fq, .inl (Z.2 0, 5, .inl g1_8))]) hP hD [0, 1, 2] [3] rfl rfl (by decide) (by decide) hk1 hFc hP1 hD1
        clear hPc hDc hP1 hD1 hk1 hz1 hFc ht hvm
        generalize H1 = H at hP hS ⊢
        have hP : va_P Z.1 vwCl [(h0, .inr (8, [.ref a1, .ref a2, .ref a3, .ref a4, .ref a5, .int 0, .ref a6, .ref a7, .ref a8, .ref a9, .ref a10, .ref a11, .ref a12, .ref a13, .int 9, .int 0, .int 0])), (a1, .inr (0, [.int 1, .int 16510910, .int 0, .ref fk, .ref fq])), (fk, .inl (Z.2 0, 5, .inl f1_7)), (fq, .inl (Z.2 0, 5, .inl g1_8))] H := hP
        have hD : va_D A [(h0, .inr (8, [.ref a1, .ref a2, .ref a3, .ref a4, .ref a5, .int 0, .ref a6, .ref a7, .ref a8, .ref a9, .ref a10, .ref a11, .ref a12, .ref a13, .int 9, .int 0, .int 0])), (a1, .inr (0, [.int 1, .int 16510910, .int 0, .ref fk, .ref fq])), (fk, .inl (Z.2 0, 5, .inl f1_7)), (fq, .inl (Z.2 0, 5, .inl g1_8))] := hD
        refine lv_aload_n hx hb dX8_person_45 rfl (lv_at hl 0 rfl) ?_
        refine va_get (D := Z.1) (ci := 8) (v := .ref a1) (C := RX8) (T := TX8) (N := 17) hx hb hts hin8 hown hK hP 0 rfl rfl 0 (by decide) (hts (.fieldLink RX8 10 "HalfAsked" "folk" "LHalfAsked$Folk;") (by decide +kernel)) (fun _ h9 => h9) rfl dX8_person_46 ?_
        refine va_get (D := Z.1) (ci := 0) (v := .int 1) (C := RX0) (T := TX0) (N := 5) hx hb hts hin0 hown hK hP 1 rfl rfl 0 (by decide) (hts (.fieldLink RX8 98 "HalfAsked$Folk" "size" "I") (by decide +kernel)) (fun _ h9 => h9) rfl dX8_person_49 ?_
        refine lv_iconst (v := 1) hx hb dX8_person_52 (by decide) ?_
        refine lv_isub hx hb dX8_person_53 ?_
        refine lv_topi (fun f_9 ef_9 => ?_)
        obtain rfl : f_9 = 0 := ef_9.trans (by decide)
        exact W.iret (v := 0) hx hb hr (fun t ht hW => ⟨⟨0, (), rfl, (by rw [if_neg c_1, if_neg c_2, if_neg c_4]), trivial⟩, hS.F ht⟩) hS.2.2 dX8_person_54
      · refine lv_iconst (v := (-1)) hx hb dX8_person_16 (by decide) ?_
        exact W.iret (v := (-1)) hx hb hr (fun t ht hW => ⟨⟨(-1), (), rfl, (by rw [if_neg c_1, if_neg c_2, if_pos c_4]), trivial⟩, hS.F ht⟩) hS.2.2 dX8_person_17
set_option maxHeartbeats 4000000 in
set_option maxRecDepth 100000 in
theorem c_X8_set (l : Launch) (Z : gZ) (sz : Nat) (h0 : Nat) (a1 : Nat) (a2 : Nat) (a3 : Nat) (a4 : Nat) (a5 : Nat) (a6 : Nat) (a7 : Nat) (a8 : Nat) (a9 : Nat) (a10 : Nat) (a11 : Nat) (a12 : Nat) (a13 : Nat) (fk : Nat) (fq : Nat) (a : Int32) (b : Int32)  : Met l yX8_set wsX8_set ({ frames := 1, cells := 0, slots := 0, locals := 21 }) (va_Pc [.ref h0, .int a, .int b] (fun U => U.heap.size = sz ∧ va_P Z.1 vwCl [(h0, .inr (8, [.ref a1, .ref a2, .ref a3, .ref a4, .ref a5, .int 0, .ref a6, .ref a7, .ref a8, .ref a9, .ref a10, .ref a11, .ref a12, .ref a13, .int 9, .int 0, .int 0])), (a1, .inr (0, [.int 0, .int 16510910, .int 0, .ref fk, .ref fq]))] U.heap ∧ va_K Z.1 vwCl (gT Z) U ∧ va_D (fun _ => True) [(h0, .inr (8, [.ref a1, .ref a2, .ref a3, .ref a4, .ref a5, .int 0, .ref a6, .ref a7, .ref a8, .ref a9, .ref a10, .ref a11, .ref a12, .ref a13, .int 9, .int 0, .int 0])), (a1, .inr (0, [.int 0, .int 16510910, .int 0, .ref fk, .ref fq]))])) (va_Qi (fun (r : Int32) (u : Unit) => r = (-1)) (fun (u : Unit) (t : State) => True) (va_A [(h0, .inr (8, [.ref a1, .ref a2, .ref a3, .ref a4, .ref a5, .int 0, .ref a6, .ref a7, .ref a8, .ref a9, .ref a10, .ref a11, .ref a12, .ref a13, .int 9, .int 0, .int 0])), (a1, .inr (0, [.int 0, .int 16510910, .int 0, .ref fk, .ref fq]))] sz)) 0 0 (va_A [(h0, .inr (8, [.ref a1, .ref a2, .ref a3, .ref a4, .ref a5, .int 0, .ref a6, .ref a7, .ref a8, .ref a9, .ref a10, .ref a11, .ref a12, .ref a13, .int 9, .int 0, .int 0])), (a1, .inr (0, [.int 0, .int 16510910, .int 0, .ref fk, .ref fq]))] sz) := by
  refine Met.ofW (cc := cX8_set) (maxL := 4) (ret := (some .int)) (by decide) rfl ?_
  intro p e s m args below meth c s₁ B hml hv
  obtain ⟨rfl, hsz, hP, hK, hD0⟩ := hv
  have hx := B.exec
  have hb := B.bytes
  have hr := B.returns
  have hts := atoms_spec (ws := wsX8_set) B.pre
  have hown : s.vm.findClass RX8 = some m.cls := findClass_of_methodNamed B.named
  have hlocks := B.notSynchronized
  subst hsz
  have hin8 : ∀ w ∈ wsX80, w ∈ wsX8_set := by decide +kernel
  have hD := hD0.self (sz := s.heap.size)
  generalize hAe : va_A [(h0, .inr (8, [.ref a1, .ref a2, .ref a3, .ref a4, .ref a5, .int 0, .ref a6, .ref a7, .ref a8, .ref a9, .ref a10, .ref a11, .ref a12, .ref a13, .int 9, .int 0, .int 0])), (a1, .inr (0, [.int 0, .int 16510910, .int 0, .ref fk, .ref fq]))] s.heap.size = A at hD ⊢
  have hA : ∀ q : Nat, s.heap.size ≤ q → A q := fun q h => by rw [← hAe]; exact Or.inr h
  have hS : va_S A s.heap s.heap [] := va_S.rf
  have hP : va_P Z.1 vwCl [(h0, .inr (8, [.ref a1, .ref a2, .ref a3, .ref a4, .ref a5, .int 0, .ref a6, .ref a7, .ref a8, .ref a9, .ref a10, .ref a11, .ref a12, .ref a13, .int 9, .int 0, .int 0])), (a1, .inr (0, [.int 0, .int 16510910, .int 0, .ref fk, .ref fq]))] s.heap := hP
  have hl := lv_entry ([.ref h0, .int a, .int b]) (n := 4) (Nat.le_of_ble_eq_true rfl)
  rw [lg_entry_eq]
  generalize (lg_sl ([.ref h0, .int a, .int b]) ++ List.replicate (4 - (lg_sl ([.ref h0, .int a, .int b])).length) Slot.unset).toArray = ls at hl ⊢
  have hl : lv_has ls 4 [(0, .ref h0), (1, .int a), (2, .int b)] := hl
  refine lv_aload_n hx hb dX8_set_0 rfl (lv_at hl 0 rfl) ?_
  refine va_get (D := Z.1) (ci := 8) (v := .ref a1) (C := RX8) (T := TX8) (N := 17) hx hb hts hin8 hown hK hP 0 rfl rfl 0 (by decide) (hts (.fieldLink RX8 10 "HalfAsked" "folk" "LHalfAsked$Folk;") (by decide +kernel)) (fun _ h9 => h9) rfl dX8_set_1 ?_
  refine lv_iload_n hx hb dX8_set_4 rfl (lv_at hl 1 rfl) ?_
  have hPc := hP.sub (ws' := [(a1, .inr (0, [.int 0, .int 16510910, .int 0, .ref fk, .ref fq]))]) [1] rfl
  have hDc := hD.sub (ws' := [(a1, .inr (0, [.int 0, .int 16510910, .int 0, .ref fk, .ref fq]))]) [1] (by decide) rfl
  have hFc := va_free (wc := [(a1, .inr (0, [.int 0, .int 16510910, .int 0, .ref fk, .ref fq]))]) hD hS hA [1] rfl
  refine va_calli (va_runV (As := [.int a]) (rest := []) ⟨hx, hb, hml, hown, hts⟩ (c_X0_has l Z s.heap.size a1 0 16510910 0 fk fq a) (cwV 1 hts gX8_set_X0_has rfl rfl rfl (by decide +kernel) ⟨Nat.le_of_ble_eq_true rfl, Nat.le_of_ble_eq_true rfl⟩) ⟨fun a U g mk q => by obtain ⟨q0, q1, qP, qK, qD⟩ := q; exact ⟨q0, q1, qP, va_K.moved (u := U) (U := U.calling g mk a) (Vm.Alike.refl U.vm) qK, qD⟩, va_recv hK hPc (ci := 0) (q0 := 0) rfl rfl, fun U hU hW => ⟨rfl, by rw [hU], by rw [hU]; exact hPc, va_K.moved hW.alike hK, hDc.weaken (fun _ _ _ _ => trivial)⟩⟩ rfl rfl hl.1 rfl (lv_room (Nat.le_of_ble_eq_true rfl)) dX8_set_5 ⟨Nat.le_of_ble_eq_true rfl, Nat.le_of_ble_eq_true rfl⟩) hS (fun q _ h => hFc q h) hFc (fun r_1 u t H1 locs ht hvm hw hB hz1 hk1 hS => ?_)
  obtain rfl : r_1 = 0 := hw.trans (z_has0 _)
  obtain ⟨hP1, hD1⟩ := hB
  rw [ht] at hP1
  obtain ⟨hP, hD⟩ := va_join (wr := [(h0, .inr (8, [.ref a1, .ref a2, .ref a3, .ref a4, .ref a5, .int 0, .ref a6, .ref a7, .ref a8, .ref a9, .ref a10, .ref a11, .ref a12, .ref a13, .int 9, .int 0, .int 0]))]) (w1 := [(a1, .inr (0, [.int 0, .int 16510910, .int 0, .ref fk, .ref fq]))]) hP hD [1] [0] rfl rfl (by decide) (by decide) hk1 hFc hP1 hD1
  clear hPc hDc hP1 hD1 hk1 hz1 hFc ht hvm
  generalize H1 = H at hP hS ⊢
  have hP : va_P Z.1 vwCl [(h0, .inr (8, [.ref a1, .ref a2, .ref a3, .ref a4, .ref a5, .int 0, .ref a6, .ref a7, .ref a8, .ref a9, .ref a10, .ref a11, .ref a12, .ref a13, .int 9, .int 0, .int 0])), (a1, .inr (0, [.int 0, .int 16510910, .int 0, .ref fk, .ref fq]))] H := hP
  have hD : va_D A [(h0, .inr (8, [.ref a1, .ref a2, .ref a3, .ref a4, .ref a5, .int 0, .ref a6, .ref a7, .ref a8, .ref a9, .ref a10, .ref a11, .ref a12, .ref a13, .int 9, .int 0, .int 0])), (a1, .inr (0, [.int 0, .int 16510910, .int 0, .ref fk, .ref fq]))] := hD
  refine lv_if_eq (tgt := 18) hx hb dX8_set_8 (by decide) (fun _ => ?_) (fun c9 => absurd c9 (by decide))
  refine lv_iconst (v := (-1)) hx hb dX8_set_18 (by decide) ?_
  exact W.iret (v := (-1)) hx hb hr (fun t ht hW => ⟨⟨(-1), (), rfl, rfl, trivial⟩, hS.F ht⟩) hS.2.2 dX8_set_19
set_option maxHeartbeats 4000000 in
set_option maxRecDepth 100000 in
theorem c_X8_told (l : Launch) (Z : gZ) (sz : Nat) (h0 : Nat) (a1 : Nat) (a2 : Nat) (a3 : Nat) (a4 : Nat) (a5 : Nat) (a6 : Nat) (a7 : Nat) (a8 : Nat) (a9 : Nat) (a10 : Nat) (a11 : Nat) (a12 : Nat) (a13 : Nat) (fk : Nat) (fq : Nat) (a : Int32) (b : Int32)  : Met l yX8_told wsX8_told ({ frames := 1, cells := 0, slots := 0, locals := 21 }) (va_Pc [.ref h0, .int a, .int b] (fun U => U.heap.size = sz ∧ va_P Z.1 vwCl [(h0, .inr (8, [.ref a1, .ref a2, .ref a3, .ref a4, .ref a5, .int 0, .ref a6, .ref a7, .ref a8, .ref a9, .ref a10, .ref a11, .ref a12, .ref a13, .int 9, .int 0, .int 0])), (a1, .inr (0, [.int 0, .int 16510910, .int 0, .ref fk, .ref fq]))] U.heap ∧ va_K Z.1 vwCl (gT Z) U ∧ va_D (fun _ => True) [(h0, .inr (8, [.ref a1, .ref a2, .ref a3, .ref a4, .ref a5, .int 0, .ref a6, .ref a7, .ref a8, .ref a9, .ref a10, .ref a11, .ref a12, .ref a13, .int 9, .int 0, .int 0])), (a1, .inr (0, [.int 0, .int 16510910, .int 0, .ref fk, .ref fq]))])) (va_Qi (fun (r : Int32) (u : Unit) => r = (-1)) (fun (u : Unit) (t : State) => True) (va_A [(h0, .inr (8, [.ref a1, .ref a2, .ref a3, .ref a4, .ref a5, .int 0, .ref a6, .ref a7, .ref a8, .ref a9, .ref a10, .ref a11, .ref a12, .ref a13, .int 9, .int 0, .int 0])), (a1, .inr (0, [.int 0, .int 16510910, .int 0, .ref fk, .ref fq]))] sz)) 0 0 (va_A [(h0, .inr (8, [.ref a1, .ref a2, .ref a3, .ref a4, .ref a5, .int 0, .ref a6, .ref a7, .ref a8, .ref a9, .ref a10, .ref a11, .ref a12, .ref a13, .int 9, .int 0, .int 0])), (a1, .inr (0, [.int 0, .int 16510910, .int 0, .ref fk, .ref fq]))] sz) := by
  refine Met.ofW (cc := cX8_told) (maxL := 3) (ret := (some .int)) (by decide) rfl ?_
  intro p e s m args below meth c s₁ B hml hv
  obtain ⟨rfl, hsz, hP, hK, hD0⟩ := hv
  have hx := B.exec
  have hb := B.bytes
  have hr := B.returns
  have hts := atoms_spec (ws := wsX8_told) B.pre
  have hown : s.vm.findClass RX8 = some m.cls := findClass_of_methodNamed B.named
  have hlocks := B.notSynchronized
  subst hsz
  have hin8 : ∀ w ∈ wsX80, w ∈ wsX8_told := by decide +kernel
  have hD := hD0.self (sz := s.heap.size)
  generalize hAe : va_A [(h0, .inr (8, [.ref a1, .ref a2, .ref a3, .ref a4, .ref a5, .int 0, .ref a6, .ref a7, .ref a8, .ref a9, .ref a10, .ref a11, .ref a12, .ref a13, .int 9, .int 0, .int 0])), (a1, .inr (0, [.int 0, .int 16510910, .int 0, .ref fk, .ref fq]))] s.heap.size = A at hD ⊢
  have hA : ∀ q : Nat, s.heap.size ≤ q → A q := fun q h => by rw [← hAe]; exact Or.inr h
  have hS : va_S A s.heap s.heap [] := va_S.rf
  have hP : va_P Z.1 vwCl [(h0, .inr (8, [.ref a1, .ref a2, .ref a3, .ref a4, .ref a5, .int 0, .ref a6, .ref a7, .ref a8, .ref a9, .ref a10, .ref a11, .ref a12, .ref a13, .int 9, .int 0, .int 0])), (a1, .inr (0, [.int 0, .int 16510910, .int 0, .ref fk, .ref fq]))] s.heap := hP
  have hl := lv_entry ([.ref h0, .int a, .int b]) (n := 3) (Nat.le_of_ble_eq_true rfl)
  rw [lg_entry_eq]
  generalize (lg_sl ([.ref h0, .int a, .int b]) ++ List.replicate (3 - (lg_sl ([.ref h0, .int a, .int b])).length) Slot.unset).toArray = ls at hl ⊢
  have hl : lv_has ls 3 [(0, .ref h0), (1, .int a), (2, .int b)] := hl
  refine lv_aload_n hx hb dX8_told_0 rfl (lv_at hl 0 rfl) ?_
  refine va_get (D := Z.1) (ci := 8) (v := .ref a1) (C := RX8) (T := TX8) (N := 17) hx hb hts hin8 hown hK hP 0 rfl rfl 0 (by decide) (hts (.fieldLink RX8 10 "HalfAsked" "folk" "LHalfAsked$Folk;") (by decide +kernel)) (fun _ h9 => h9) rfl dX8_told_1 ?_
  refine lv_iload_n hx hb dX8_told_4 rfl (lv_at hl 1 rfl) ?_
  have hPc := hP.sub (ws' := [(a1, .inr (0, [.int 0, .int 16510910, .int 0, .ref fk, .ref fq]))]) [1] rfl
  have hDc := hD.sub (ws' := [(a1, .inr (0, [.int 0, .int 16510910, .int 0, .ref fk, .ref fq]))]) [1] (by decide) rfl
  have hFc := va_free (wc := [(a1, .inr (0, [.int 0, .int 16510910, .int 0, .ref fk, .ref fq]))]) hD hS hA [1] rfl
  refine va_calli (va_runV (As := [.int a]) (rest := []) ⟨hx, hb, hml, hown, hts⟩ (c_X0_has l Z s.heap.size a1 0 16510910 0 fk fq a) (cwV 1 hts gX8_told_X0_has rfl rfl rfl (by decide +kernel) ⟨Nat.le_of_ble_eq_true rfl, Nat.le_of_ble_eq_true rfl⟩) ⟨fun a U g mk q => by obtain ⟨q0, q1, qP, qK, qD⟩ := q; exact ⟨q0, q1, qP, va_K.moved (u := U) (U := U.calling g mk a) (Vm.Alike.refl U.vm) qK, qD⟩, va_recv hK hPc (ci := 0) (q0 := 0) rfl rfl, fun U hU hW => ⟨rfl, by rw [hU], by rw [hU]; exact hPc, va_K.moved hW.alike hK, hDc.weaken (fun _ _ _ _ => trivial)⟩⟩ rfl rfl hl.1 rfl (lv_room (Nat.le_of_ble_eq_true rfl)) dX8_told_5 ⟨Nat.le_of_ble_eq_true rfl, Nat.le_of_ble_eq_true rfl⟩) hS (fun q _ h => hFc q h) hFc (fun r_1 u t H1 locs ht hvm hw hB hz1 hk1 hS => ?_)
  obtain rfl : r_1 = 0 := hw.trans (z_has0 _)
  obtain ⟨hP1, hD1⟩ := hB
  rw [ht] at hP1
  obtain ⟨hP, hD⟩ := va_join (wr := [(h0, .inr (8, [.ref a1, .ref a2, .ref a3, .ref a4, .ref a5, .int 0, .ref a6, .ref a7, .ref a8, .ref a9, .ref a10, .ref a11, .ref a12, .ref a13, .int 9, .int 0, .int 0]))]) (w1 := [(a1, .inr (0, [.int 0, .int 16510910, .int 0, .ref fk, .ref fq]))]) hP hD [1] [0] rfl rfl (by decide) (by decide) hk1 hFc hP1 hD1
  clear hPc hDc hP1 hD1 hk1 hz1 hFc ht hvm
  generalize H1 = H at hP hS ⊢
  have hP : va_P Z.1 vwCl [(h0, .inr (8, [.ref a1, .ref a2, .ref a3, .ref a4, .ref a5, .int 0, .ref a6, .ref a7, .ref a8, .ref a9, .ref a10, .ref a11, .ref a12, .ref a13, .int 9, .int 0, .int 0])), (a1, .inr (0, [.int 0, .int 16510910, .int 0, .ref fk, .ref fq]))] H := hP
  have hD : va_D A [(h0, .inr (8, [.ref a1, .ref a2, .ref a3, .ref a4, .ref a5, .int 0, .ref a6, .ref a7, .ref a8, .ref a9, .ref a10, .ref a11, .ref a12, .ref a13, .int 9, .int 0, .int 0])), (a1, .inr (0, [.int 0, .int 16510910, .int 0, .ref fk, .ref fq]))] := hD
  refine lv_if_ne (tgt := 13) hx hb dX8_told_8 (by decide) (fun c9 => absurd c9 (by decide)) (fun _ => ?_)
  refine lv_iconst (v := (-1)) hx hb dX8_told_11 (by decide) ?_
  exact W.iret (v := (-1)) hx hb hr (fun t ht hW => ⟨⟨(-1), (), rfl, rfl, trivial⟩, hS.F ht⟩) hS.2.2 dX8_told_12
set_option maxHeartbeats 4000000 in
set_option maxRecDepth 100000 in
theorem c_X8_most (l : Launch) (Z : gZ) (sz : Nat) (h0 : Nat) (a1 : Nat) (a2 : Nat) (a3 : Nat) (a4 : Nat) (a5 : Nat) (a6 : Nat) (a7 : Nat) (a8 : Nat) (a9 : Nat) (a10 : Nat) (a11 : Nat) (a12 : Nat) (a13 : Nat) (fk : Nat) (fq : Nat) (a : Int32)  : Met l yX8_most wsX8_most ({ frames := 1, cells := 0, slots := 0, locals := 21 }) (va_Pc [.ref h0, .int a] (fun U => U.heap.size = sz ∧ va_P Z.1 vwCl [(h0, .inr (8, [.ref a1, .ref a2, .ref a3, .ref a4, .ref a5, .int 0, .ref a6, .ref a7, .ref a8, .ref a9, .ref a10, .ref a11, .ref a12, .ref a13, .int 9, .int 0, .int 0])), (a1, .inr (0, [.int 0, .int 16510910, .int 0, .ref fk, .ref fq]))] U.heap ∧ va_K Z.1 vwCl (gT Z) U ∧ va_D (fun _ => True) [(h0, .inr (8, [.ref a1, .ref a2, .ref a3, .ref a4, .ref a5, .int 0, .ref a6, .ref a7, .ref a8, .ref a9, .ref a10, .ref a11, .ref a12, .ref a13, .int 9, .int 0, .int 0])), (a1, .inr (0, [.int 0, .int 16510910, .int 0, .ref fk, .ref fq]))])) (va_Qi (fun (r : Int32) (u : Unit) => r = (-1)) (fun (u : Unit) (t : State) => True) (va_A [(h0, .inr (8, [.ref a1, .ref a2, .ref a3, .ref a4, .ref a5, .int 0, .ref a6, .ref a7, .ref a8, .ref a9, .ref a10, .ref a11, .ref a12, .ref a13, .int 9, .int 0, .int 0])), (a1, .inr (0, [.int 0, .int 16510910, .int 0, .ref fk, .ref fq]))] sz)) 0 0 (va_A [(h0, .inr (8, [.ref a1, .ref a2, .ref a3, .ref a4, .ref a5, .int 0, .ref a6, .ref a7, .ref a8, .ref a9, .ref a10, .ref a11, .ref a12, .ref a13, .int 9, .int 0, .int 0])), (a1, .inr (0, [.int 0, .int 16510910, .int 0, .ref fk, .ref fq]))] sz) := by
  refine Met.ofW (cc := cX8_most) (maxL := 2) (ret := (some .int)) (by decide) rfl ?_
  intro p e s m args below meth c s₁ B hml hv
  obtain ⟨rfl, hsz, hP, hK, hD0⟩ := hv
  have hx := B.exec
  have hb := B.bytes
  have hr := B.returns
  have hts := atoms_spec (ws := wsX8_most) B.pre
  have hown : s.vm.findClass RX8 = some m.cls := findClass_of_methodNamed B.named
  have hlocks := B.notSynchronized
  subst hsz
  have hin8 : ∀ w ∈ wsX80, w ∈ wsX8_most := by decide +kernel
  have hD := hD0.self (sz := s.heap.size)
  generalize hAe : va_A [(h0, .inr (8, [.ref a1, .ref a2, .ref a3, .ref a4, .ref a5, .int 0, .ref a6, .ref a7, .ref a8, .ref a9, .ref a10, .ref a11, .ref a12, .ref a13, .int 9, .int 0, .int 0])), (a1, .inr (0, [.int 0, .int 16510910, .int 0, .ref fk, .ref fq]))] s.heap.size = A at hD ⊢
  have hA : ∀ q : Nat, s.heap.size ≤ q → A q := fun q h => by rw [← hAe]; exact Or.inr h
  have hS : va_S A s.heap s.heap [] := va_S.rf
  have hP : va_P Z.1 vwCl [(h0, .inr (8, [.ref a1, .ref a2, .ref a3, .ref a4, .ref a5, .int 0, .ref a6, .ref a7, .ref a8, .ref a9, .ref a10, .ref a11, .ref a12, .ref a13, .int 9, .int 0, .int 0])), (a1, .inr (0, [.int 0, .int 16510910, .int 0, .ref fk, .ref fq]))] s.heap := hP
  have hl := lv_entry ([.ref h0, .int a]) (n := 2) (Nat.le_of_ble_eq_true rfl)
  rw [lg_entry_eq]
  generalize (lg_sl ([.ref h0, .int a]) ++ List.replicate (2 - (lg_sl ([.ref h0, .int a])).length) Slot.unset).toArray = ls at hl ⊢
  have hl : lv_has ls 2 [(0, .ref h0), (1, .int a)] := hl
  refine lv_aload_n hx hb dX8_most_0 rfl (lv_at hl 0 rfl) ?_
  refine va_get (D := Z.1) (ci := 8) (v := .ref a1) (C := RX8) (T := TX8) (N := 17) hx hb hts hin8 hown hK hP 0 rfl rfl 0 (by decide) (hts (.fieldLink RX8 10 "HalfAsked" "folk" "LHalfAsked$Folk;") (by decide +kernel)) (fun _ h9 => h9) rfl dX8_most_1 ?_
  refine lv_iload_n hx hb dX8_most_4 rfl (lv_at hl 1 rfl) ?_
  have hPc := hP.sub (ws' := [(a1, .inr (0, [.int 0, .int 16510910, .int 0, .ref fk, .ref fq]))]) [1] rfl
  have hDc := hD.sub (ws' := [(a1, .inr (0, [.int 0, .int 16510910, .int 0, .ref fk, .ref fq]))]) [1] (by decide) rfl
  have hFc := va_free (wc := [(a1, .inr (0, [.int 0, .int 16510910, .int 0, .ref fk, .ref fq]))]) hD hS hA [1] rfl
  refine va_calli (va_runV (As := [.int a]) (rest := []) ⟨hx, hb, hml, hown, hts⟩ (c_X0_has l Z s.heap.size a1 0 16510910 0 fk fq a) (cwV 1 hts gX8_most_X0_has rfl rfl rfl (by decide +kernel) ⟨Nat.le_of_ble_eq_true rfl, Nat.le_of_ble_eq_true rfl⟩) ⟨fun a U g mk q => by obtain ⟨q0, q1, qP, qK, qD⟩ := q; exact ⟨q0, q1, qP, va_K.moved (u := U) (U := U.calling g mk a) (Vm.Alike.refl U.vm) qK, qD⟩, va_recv hK hPc (ci := 0) (q0 := 0) rfl rfl, fun U hU hW => ⟨rfl, by rw [hU], by rw [hU]; exact hPc, va_K.moved hW.alike hK, hDc.weaken (fun _ _ _ _ => trivial)⟩⟩ rfl rfl hl.1 rfl (lv_room (Nat.le_of_ble_eq_true rfl)) dX8_most_5 ⟨Nat.le_of_ble_eq_true rfl, Nat.le_of_ble_eq_true rfl⟩) hS (fun q _ h => hFc q h) hFc (fun r_1 u t H1 locs ht hvm hw hB hz1 hk1 hS => ?_)
  obtain rfl : r_1 = 0 := hw.trans (z_has0 _)
  obtain ⟨hP1, hD1⟩ := hB
  rw [ht] at hP1
  obtain ⟨hP, hD⟩ := va_join (wr := [(h0, .inr (8, [.ref a1, .ref a2, .ref a3, .ref a4, .ref a5, .int 0, .ref a6, .ref a7, .ref a8, .ref a9, .ref a10, .ref a11, .ref a12, .ref a13, .int 9, .int 0, .int 0]))]) (w1 := [(a1, .inr (0, [.int 0, .int 16510910, .int 0, .ref fk, .ref fq]))]) hP hD [1] [0] rfl rfl (by decide) (by decide) hk1 hFc hP1 hD1
  clear hPc hDc hP1 hD1 hk1 hz1 hFc ht hvm
  generalize H1 = H at hP hS ⊢
  have hP : va_P Z.1 vwCl [(h0, .inr (8, [.ref a1, .ref a2, .ref a3, .ref a4, .ref a5, .int 0, .ref a6, .ref a7, .ref a8, .ref a9, .ref a10, .ref a11, .ref a12, .ref a13, .int 9, .int 0, .int 0])), (a1, .inr (0, [.int 0, .int 16510910, .int 0, .ref fk, .ref fq]))] H := hP
  have hD : va_D A [(h0, .inr (8, [.ref a1, .ref a2, .ref a3, .ref a4, .ref a5, .int 0, .ref a6, .ref a7, .ref a8, .ref a9, .ref a10, .ref a11, .ref a12, .ref a13, .int 9, .int 0, .int 0])), (a1, .inr (0, [.int 0, .int 16510910, .int 0, .ref fk, .ref fq]))] := hD
  refine lv_if_ne (tgt := 13) hx hb dX8_most_8 (by decide) (fun c9 => absurd c9 (by decide)) (fun _ => ?_)
  refine lv_iconst (v := (-1)) hx hb dX8_most_11 (by decide) ?_
  exact W.iret (v := (-1)) hx hb hr (fun t ht hW => ⟨⟨(-1), (), rfl, rfl, trivial⟩, hS.F ht⟩) hS.2.2 dX8_most_12
set_option maxHeartbeats 4000000 in
set_option maxRecDepth 100000 in
theorem c_X8_turns (l : Launch) (Z : gZ) (sz : Nat) (h0 : Nat) (a1 : Nat) (a2 : Nat) (a3 : Nat) (a4 : Nat) (a5 : Nat) (a6 : Nat) (a7 : Nat) (a8 : Nat) (a9 : Nat) (a10 : Nat) (a11 : Nat) (a12 : Nat) (a13 : Nat) (fk : Nat) (fq : Nat) (a : Int32)  : Met l yX8_turns wsX8_turns ({ frames := 1, cells := 0, slots := 0, locals := 21 }) (va_Pc [.ref h0, .int a] (fun U => U.heap.size = sz ∧ va_P Z.1 vwCl [(h0, .inr (8, [.ref a1, .ref a2, .ref a3, .ref a4, .ref a5, .int 0, .ref a6, .ref a7, .ref a8, .ref a9, .ref a10, .ref a11, .ref a12, .ref a13, .int 9, .int 0, .int 0])), (a1, .inr (0, [.int 0, .int 16510910, .int 0, .ref fk, .ref fq]))] U.heap ∧ va_K Z.1 vwCl (gT Z) U ∧ va_D (fun _ => True) [(h0, .inr (8, [.ref a1, .ref a2, .ref a3, .ref a4, .ref a5, .int 0, .ref a6, .ref a7, .ref a8, .ref a9, .ref a10, .ref a11, .ref a12, .ref a13, .int 9, .int 0, .int 0])), (a1, .inr (0, [.int 0, .int 16510910, .int 0, .ref fk, .ref fq]))])) (va_Qi (fun (r : Int32) (u : Unit) => r = (-1)) (fun (u : Unit) (t : State) => True) (va_A [(h0, .inr (8, [.ref a1, .ref a2, .ref a3, .ref a4, .ref a5, .int 0, .ref a6, .ref a7, .ref a8, .ref a9, .ref a10, .ref a11, .ref a12, .ref a13, .int 9, .int 0, .int 0])), (a1, .inr (0, [.int 0, .int 16510910, .int 0, .ref fk, .ref fq]))] sz)) 0 0 (va_A [(h0, .inr (8, [.ref a1, .ref a2, .ref a3, .ref a4, .ref a5, .int 0, .ref a6, .ref a7, .ref a8, .ref a9, .ref a10, .ref a11, .ref a12, .ref a13, .int 9, .int 0, .int 0])), (a1, .inr (0, [.int 0, .int 16510910, .int 0, .ref fk, .ref fq]))] sz) := by
  refine Met.ofW (cc := cX8_turns) (maxL := 2) (ret := (some .int)) (by decide) rfl ?_
  intro p e s m args below meth c s₁ B hml hv
  obtain ⟨rfl, hsz, hP, hK, hD0⟩ := hv
  have hx := B.exec
  have hb := B.bytes
  have hr := B.returns
  have hts := atoms_spec (ws := wsX8_turns) B.pre
  have hown : s.vm.findClass RX8 = some m.cls := findClass_of_methodNamed B.named
  have hlocks := B.notSynchronized
  subst hsz
  have hin8 : ∀ w ∈ wsX80, w ∈ wsX8_turns := by decide +kernel
  have hD := hD0.self (sz := s.heap.size)
  generalize hAe : va_A [(h0, .inr (8, [.ref a1, .ref a2, .ref a3, .ref a4, .ref a5, .int 0, .ref a6, .ref a7, .ref a8, .ref a9, .ref a10, .ref a11, .ref a12, .ref a13, .int 9, .int 0, .int 0])), (a1, .inr (0, [.int 0, .int 16510910, .int 0, .ref fk, .ref fq]))] s.heap.size = A at hD ⊢
  have hA : ∀ q : Nat, s.heap.size ≤ q → A q := fun q h => by rw [← hAe]; exact Or.inr h
  have hS : va_S A s.heap s.heap [] := va_S.rf
  have hP : va_P Z.1 vwCl [(h0, .inr (8, [.ref a1, .ref a2, .ref a3, .ref a4, .ref a5, .int 0, .ref a6, .ref a7, .ref a8, .ref a9, .ref a10, .ref a11, .ref a12, .ref a13, .int 9, .int 0, .int 0])), (a1, .inr (0, [.int 0, .int 16510910, .int 0, .ref fk, .ref fq]))] s.heap := hP
  have hl := lv_entry ([.ref h0, .int a]) (n := 2) (Nat.le_of_ble_eq_true rfl)
  rw [lg_entry_eq]
  generalize (lg_sl ([.ref h0, .int a]) ++ List.replicate (2 - (lg_sl ([.ref h0, .int a])).length) Slot.unset).toArray = ls at hl ⊢
  have hl : lv_has ls 2 [(0, .ref h0), (1, .int a)] := hl
  refine lv_aload_n hx hb dX8_turns_0 rfl (lv_at hl 0 rfl) ?_
  refine va_get (D := Z.1) (ci := 8) (v := .ref a1) (C := RX8) (T := TX8) (N := 17) hx hb hts hin8 hown hK hP 0 rfl rfl 0 (by decide) (hts (.fieldLink RX8 10 "HalfAsked" "folk" "LHalfAsked$Folk;") (by decide +kernel)) (fun _ h9 => h9) rfl dX8_turns_1 ?_
  refine lv_iload_n hx hb dX8_turns_4 rfl (lv_at hl 1 rfl) ?_
  have hPc := hP.sub (ws' := [(a1, .inr (0, [.int 0, .int 16510910, .int 0, .ref fk, .ref fq]))]) [1] rfl
  have hDc := hD.sub (ws' := [(a1, .inr (0, [.int 0, .int 16510910, .int 0, .ref fk, .ref fq]))]) [1] (by decide) rfl
  have hFc := va_free (wc := [(a1, .inr (0, [.int 0, .int 16510910, .int 0, .ref fk, .ref fq]))]) hD hS hA [1] rfl
  refine va_calli (va_runV (As := [.int a]) (rest := []) ⟨hx, hb, hml, hown, hts⟩ (c_X0_has l Z s.heap.size a1 0 16510910 0 fk fq a) (cwV 1 hts gX8_turns_X0_has rfl rfl rfl (by decide +kernel) ⟨Nat.le_of_ble_eq_true rfl, Nat.le_of_ble_eq_true rfl⟩) ⟨fun a U g mk q => by obtain ⟨q0, q1, qP, qK, qD⟩ := q; exact ⟨q0, q1, qP, va_K.moved (u := U) (U := U.calling g mk a) (Vm.Alike.refl U.vm) qK, qD⟩, va_recv hK hPc (ci := 0) (q0 := 0) rfl rfl, fun U hU hW => ⟨rfl, by rw [hU], by rw [hU]; exact hPc, va_K.moved hW.alike hK, hDc.weaken (fun _ _ _ _ => trivial)⟩⟩ rfl rfl hl.1 rfl (lv_room (Nat.le_of_ble_eq_true rfl)) dX8_turns_5 ⟨Nat.le_of_ble_eq_true rfl, Nat.le_of_ble_eq_true rfl⟩) hS (fun q _ h => hFc q h) hFc (fun r_1 u t H1 locs ht hvm hw hB hz1 hk1 hS => ?_)
  obtain rfl : r_1 = 0 := hw.trans (z_has0 _)
  obtain ⟨hP1, hD1⟩ := hB
  rw [ht] at hP1
  obtain ⟨hP, hD⟩ := va_join (wr := [(h0, .inr (8, [.ref a1, .ref a2, .ref a3, .ref a4, .ref a5, .int 0, .ref a6, .ref a7, .ref a8, .ref a9, .ref a10, .ref a11, .ref a12, .ref a13, .int 9, .int 0, .int 0]))]) (w1 := [(a1, .inr (0, [.int 0, .int 16510910, .int 0, .ref fk, .ref fq]))]) hP hD [1] [0] rfl rfl (by decide) (by decide) hk1 hFc hP1 hD1
  clear hPc hDc hP1 hD1 hk1 hz1 hFc ht hvm
  generalize H1 = H at hP hS ⊢
  have hP : va_P Z.1 vwCl [(h0, .inr (8, [.ref a1, .ref a2, .ref a3, .ref a4, .ref a5, .int 0, .ref a6, .ref a7, .ref a8, .ref a9, .ref a10, .ref a11, .ref a12, .ref a13, .int 9, .int 0, .int 0])), (a1, .inr (0, [.int 0, .int 16510910, .int 0, .ref fk, .ref fq]))] H := hP
  have hD : va_D A [(h0, .inr (8, [.ref a1, .ref a2, .ref a3, .ref a4, .ref a5, .int 0, .ref a6, .ref a7, .ref a8, .ref a9, .ref a10, .ref a11, .ref a12, .ref a13, .int 9, .int 0, .int 0])), (a1, .inr (0, [.int 0, .int 16510910, .int 0, .ref fk, .ref fq]))] := hD
  refine lv_if_ne (tgt := 13) hx hb dX8_turns_8 (by decide) (fun c9 => absurd c9 (by decide)) (fun _ => ?_)
  refine lv_iconst (v := (-1)) hx hb dX8_turns_11 (by decide) ?_
  exact W.iret (v := (-1)) hx hb hr (fun t ht hW => ⟨⟨(-1), (), rfl, rfl, trivial⟩, hS.F ht⟩) hS.2.2 dX8_turns_12
set_option maxHeartbeats 4000000 in
set_option maxRecDepth 100000 in
theorem c_X8_ends (l : Launch) (Z : gZ) (sz : Nat) (h0 : Nat) (a1 : Nat) (a2 : Nat) (a3 : Nat) (a4 : Nat) (a5 : Nat) (a6 : Nat) (a7 : Nat) (a8 : Nat) (a9 : Nat) (a10 : Nat) (a11 : Nat) (a12 : Nat) (a13 : Nat) (fk : Nat) (fq : Nat) (a : Int32)  : Met l yX8_ends wsX8_ends ({ frames := 1, cells := 0, slots := 0, locals := 21 }) (va_Pc [.ref h0, .int a] (fun U => U.heap.size = sz ∧ va_P Z.1 vwCl [(h0, .inr (8, [.ref a1, .ref a2, .ref a3, .ref a4, .ref a5, .int 0, .ref a6, .ref a7, .ref a8, .ref a9, .ref a10, .ref a11, .ref a12, .ref a13, .int 9, .int 0, .int 0])), (a1, .inr (0, [.int 0, .int 16510910, .int 0, .ref fk, .ref fq]))] U.heap ∧ va_K Z.1 vwCl (gT Z) U ∧ va_D (fun _ => True) [(h0, .inr (8, [.ref a1, .ref a2, .ref a3, .ref a4, .ref a5, .int 0, .ref a6, .ref a7, .ref a8, .ref a9, .ref a10, .ref a11, .ref a12, .ref a13, .int 9, .int 0, .int 0])), (a1, .inr (0, [.int 0, .int 16510910, .int 0, .ref fk, .ref fq]))])) (va_Qi (fun (r : Int32) (u : Unit) => r = (-1)) (fun (u : Unit) (t : State) => True) (va_A [(h0, .inr (8, [.ref a1, .ref a2, .ref a3, .ref a4, .ref a5, .int 0, .ref a6, .ref a7, .ref a8, .ref a9, .ref a10, .ref a11, .ref a12, .ref a13, .int 9, .int 0, .int 0])), (a1, .inr (0, [.int 0, .int 16510910, .int 0, .ref fk, .ref fq]))] sz)) 0 0 (va_A [(h0, .inr (8, [.ref a1, .ref a2, .ref a3, .ref a4, .ref a5, .int 0, .ref a6, .ref a7, .ref a8, .ref a9, .ref a10, .ref a11, .ref a12, .ref a13, .int 9, .int 0, .int 0])), (a1, .inr (0, [.int 0, .int 16510910, .int 0, .ref fk, .ref fq]))] sz) := by
  refine Met.ofW (cc := cX8_ends) (maxL := 2) (ret := (some .int)) (by decide) rfl ?_
  intro p e s m args below meth c s₁ B hml hv
  obtain ⟨rfl, hsz, hP, hK, hD0⟩ := hv
  have hx := B.exec
  have hb := B.bytes
  have hr := B.returns
  have hts := atoms_spec (ws := wsX8_ends) B.pre
  have hown : s.vm.findClass RX8 = some m.cls := findClass_of_methodNamed B.named
  have hlocks := B.notSynchronized
  subst hsz
  have hin8 : ∀ w ∈ wsX80, w ∈ wsX8_ends := by decide +kernel
  have hD := hD0.self (sz := s.heap.size)
  generalize hAe : va_A [(h0, .inr (8, [.ref a1, .ref a2, .ref a3, .ref a4, .ref a5, .int 0, .ref a6, .ref a7, .ref a8, .ref a9, .ref a10, .ref a11, .ref a12, .ref a13, .int 9, .int 0, .int 0])), (a1, .inr (0, [.int 0, .int 16510910, .int 0, .ref fk, .ref fq]))] s.heap.size = A at hD ⊢
  have hA : ∀ q : Nat, s.heap.size ≤ q → A q := fun q h => by rw [← hAe]; exact Or.inr h
  have hS : va_S A s.heap s.heap [] := va_S.rf
  have hP : va_P Z.1 vwCl [(h0, .inr (8, [.ref a1, .ref a2, .ref a3, .ref a4, .ref a5, .int 0, .ref a6, .ref a7, .ref a8, .ref a9, .ref a10, .ref a11, .ref a12, .ref a13, .int 9, .int 0, .int 0])), (a1, .inr (0, [.int 0, .int 16510910, .int 0, .ref fk, .ref fq]))] s.heap := hP
  have hl := lv_entry ([.ref h0, .int a]) (n := 2) (Nat.le_of_ble_eq_true rfl)
  rw [lg_entry_eq]
  generalize (lg_sl ([.ref h0, .int a]) ++ List.replicate (2 - (lg_sl ([.ref h0, .int a])).length) Slot.unset).toArray = ls at hl ⊢
  have hl : lv_has ls 2 [(0, .ref h0), (1, .int a)] := hl
  refine lv_aload_n hx hb dX8_ends_0 rfl (lv_at hl 0 rfl) ?_
  refine va_get (D := Z.1) (ci := 8) (v := .ref a1) (C := RX8) (T := TX8) (N := 17) hx hb hts hin8 hown hK hP 0 rfl rfl 0 (by decide) (hts (.fieldLink RX8 10 "HalfAsked" "folk" "LHalfAsked$Folk;") (by decide +kernel)) (fun _ h9 => h9) rfl dX8_ends_1 ?_
  refine lv_iload_n hx hb dX8_ends_4 rfl (lv_at hl 1 rfl) ?_
  have hPc := hP.sub (ws' := [(a1, .inr (0, [.int 0, .int 16510910, .int 0, .ref fk, .ref fq]))]) [1] rfl
  have hDc := hD.sub (ws' := [(a1, .inr (0, [.int 0, .int 16510910, .int 0, .ref fk, .ref fq]))]) [1] (by decide) rfl
  have hFc := va_free (wc := [(a1, .inr (0, [.int 0, .int 16510910, .int 0, .ref fk, .ref fq]))]) hD hS hA [1] rfl
  refine va_calli (va_runV (As := [.int a]) (rest := []) ⟨hx, hb, hml, hown, hts⟩ (c_X0_has l Z s.heap.size a1 0 16510910 0 fk fq a) (cwV 1 hts gX8_ends_X0_has rfl rfl rfl (by decide +kernel) ⟨Nat.le_of_ble_eq_true rfl, Nat.le_of_ble_eq_true rfl⟩) ⟨fun a U g mk q => by obtain ⟨q0, q1, qP, qK, qD⟩ := q; exact ⟨q0, q1, qP, va_K.moved (u := U) (U := U.calling g mk a) (Vm.Alike.refl U.vm) qK, qD⟩, va_recv hK hPc (ci := 0) (q0 := 0) rfl rfl, fun U hU hW => ⟨rfl, by rw [hU], by rw [hU]; exact hPc, va_K.moved hW.alike hK, hDc.weaken (fun _ _ _ _ => trivial)⟩⟩ rfl rfl hl.1 rfl (lv_room (Nat.le_of_ble_eq_true rfl)) dX8_ends_5 ⟨Nat.le_of_ble_eq_true rfl, Nat.le_of_ble_eq_true rfl⟩) hS (fun q _ h => hFc q h) hFc (fun r_1 u t H1 locs ht hvm hw hB hz1 hk1 hS => ?_)
  obtain rfl : r_1 = 0 := hw.trans (z_has0 _)
  obtain ⟨hP1, hD1⟩ := hB
  rw [ht] at hP1
  obtain ⟨hP, hD⟩ := va_join (wr := [(h0, .inr (8, [.ref a1, .ref a2, .ref a3, .ref a4, .ref a5, .int 0, .ref a6, .ref a7, .ref a8, .ref a9, .ref a10, .ref a11, .ref a12, .ref a13, .int 9, .int 0, .int 0]))]) (w1 := [(a1, .inr (0, [.int 0, .int 16510910, .int 0, .ref fk, .ref fq]))]) hP hD [1] [0] rfl rfl (by decide) (by decide) hk1 hFc hP1 hD1
  clear hPc hDc hP1 hD1 hk1 hz1 hFc ht hvm
  generalize H1 = H at hP hS ⊢
  have hP : va_P Z.1 vwCl [(h0, .inr (8, [.ref a1, .ref a2, .ref a3, .ref a4, .ref a5, .int 0, .ref a6, .ref a7, .ref a8, .ref a9, .ref a10, .ref a11, .ref a12, .ref a13, .int 9, .int 0, .int 0])), (a1, .inr (0, [.int 0, .int 16510910, .int 0, .ref fk, .ref fq]))] H := hP
  have hD : va_D A [(h0, .inr (8, [.ref a1, .ref a2, .ref a3, .ref a4, .ref a5, .int 0, .ref a6, .ref a7, .ref a8, .ref a9, .ref a10, .ref a11, .ref a12, .ref a13, .int 9, .int 0, .int 0])), (a1, .inr (0, [.int 0, .int 16510910, .int 0, .ref fk, .ref fq]))] := hD
  refine lv_if_ne (tgt := 13) hx hb dX8_ends_8 (by decide) (fun c9 => absurd c9 (by decide)) (fun _ => ?_)
  refine lv_iconst (v := (-1)) hx hb dX8_ends_11 (by decide) ?_
  exact W.iret (v := (-1)) hx hb hr (fun t ht hW => ⟨⟨(-1), (), rfl, rfl, trivial⟩, hS.F ht⟩) hS.2.2 dX8_ends_12
set_option maxHeartbeats 4000000 in
set_option maxRecDepth 100000 in
theorem c_X8_shun (l : Launch) (Z : gZ) (sz : Nat) (h0 : Nat) (a1 : Nat) (a2 : Nat) (a3 : Nat) (a4 : Nat) (a5 : Nat) (a6 : Nat) (a7 : Nat) (a8 : Nat) (a9 : Nat) (a10 : Nat) (a11 : Nat) (a12 : Nat) (a13 : Nat) (fk : Nat) (fq : Nat) (a : Int32)  : Met l yX8_shun wsX8_shun ({ frames := 1, cells := 0, slots := 0, locals := 21 }) (va_Pc [.ref h0, .int a] (fun U => U.heap.size = sz ∧ va_P Z.1 vwCl [(h0, .inr (8, [.ref a1, .ref a2, .ref a3, .ref a4, .ref a5, .int 0, .ref a6, .ref a7, .ref a8, .ref a9, .ref a10, .ref a11, .ref a12, .ref a13, .int 9, .int 0, .int 0])), (a1, .inr (0, [.int 0, .int 16510910, .int 0, .ref fk, .ref fq]))] U.heap ∧ va_K Z.1 vwCl (gT Z) U ∧ va_D (fun _ => True) [(h0, .inr (8, [.ref a1, .ref a2, .ref a3, .ref a4, .ref a5, .int 0, .ref a6, .ref a7, .ref a8, .ref a9, .ref a10, .ref a11, .ref a12, .ref a13, .int 9, .int 0, .int 0])), (a1, .inr (0, [.int 0, .int 16510910, .int 0, .ref fk, .ref fq]))])) (va_Qi (fun (r : Int32) (u : Unit) => r = (-1)) (fun (u : Unit) (t : State) => True) (va_A [(h0, .inr (8, [.ref a1, .ref a2, .ref a3, .ref a4, .ref a5, .int 0, .ref a6, .ref a7, .ref a8, .ref a9, .ref a10, .ref a11, .ref a12, .ref a13, .int 9, .int 0, .int 0])), (a1, .inr (0, [.int 0, .int 16510910, .int 0, .ref fk, .ref fq]))] sz)) 0 0 (va_A [(h0, .inr (8, [.ref a1, .ref a2, .ref a3, .ref a4, .ref a5, .int 0, .ref a6, .ref a7, .ref a8, .ref a9, .ref a10, .ref a11, .ref a12, .ref a13, .int 9, .int 0, .int 0])), (a1, .inr (0, [.int 0, .int 16510910, .int 0, .ref fk, .ref fq]))] sz) := by
  refine Met.ofW (cc := cX8_shun) (maxL := 6) (ret := (some .int)) (by decide) rfl ?_
  intro p e s m args below meth c s₁ B hml hv
  obtain ⟨rfl, hsz, hP, hK, hD0⟩ := hv
  have hx := B.exec
  have hb := B.bytes
  have hr := B.returns
  have hts := atoms_spec (ws := wsX8_shun) B.pre
  have hown : s.vm.findClass RX8 = some m.cls := findClass_of_methodNamed B.named
  have hlocks := B.notSynchronized
  subst hsz
  have hin8 : ∀ w ∈ wsX80, w ∈ wsX8_shun := by decide +kernel
  have hD := hD0.self (sz := s.heap.size)
  generalize hAe : va_A [(h0, .inr (8, [.ref a1, .ref a2, .ref a3, .ref a4, .ref a5, .int 0, .ref a6, .ref a7, .ref a8, .ref a9, .ref a10, .ref a11, .ref a12, .ref a13, .int 9, .int 0, .int 0])), (a1, .inr (0, [.int 0, .int 16510910, .int 0, .ref fk, .ref fq]))] s.heap.size = A at hD ⊢
  have hA : ∀ q : Nat, s.heap.size ≤ q → A q := fun q h => by rw [← hAe]; exact Or.inr h
  have hS : va_S A s.heap s.heap [] := va_S.rf
  have hP : va_P Z.1 vwCl [(h0, .inr (8, [.ref a1, .ref a2, .ref a3, .ref a4, .ref a5, .int 0, .ref a6, .ref a7, .ref a8, .ref a9, .ref a10, .ref a11, .ref a12, .ref a13, .int 9, .int 0, .int 0])), (a1, .inr (0, [.int 0, .int 16510910, .int 0, .ref fk, .ref fq]))] s.heap := hP
  have hl := lv_entry ([.ref h0, .int a]) (n := 6) (Nat.le_of_ble_eq_true rfl)
  rw [lg_entry_eq]
  generalize (lg_sl ([.ref h0, .int a]) ++ List.replicate (6 - (lg_sl ([.ref h0, .int a])).length) Slot.unset).toArray = ls at hl ⊢
  have hl : lv_has ls 6 [(0, .ref h0), (1, .int a)] := hl
  refine lv_aload_n hx hb dX8_shun_0 rfl (lv_at hl 0 rfl) ?_
  refine va_get (D := Z.1) (ci := 8) (v := .ref a1) (C := RX8) (T := TX8) (N := 17) hx hb hts hin8 hown hK hP 0 rfl rfl 0 (by decide) (hts (.fieldLink RX8 10 "HalfAsked" "folk" "LHalfAsked$Folk;") (by decide +kernel)) (fun _ h9 => h9) rfl dX8_shun_1 ?_
  refine lv_iload_n hx hb dX8_shun_4 rfl (lv_at hl 1 rfl) ?_
  have hPc := hP.sub (ws' := [(a1, .inr (0, [.int 0, .int 16510910, .int 0, .ref fk, .ref fq]))]) [1] rfl
  have hDc := hD.sub (ws' := [(a1, .inr (0, [.int 0, .int 16510910, .int 0, .ref fk, .ref fq]))]) [1] (by decide) rfl
  have hFc := va_free (wc := [(a1, .inr (0, [.int 0, .int 16510910, .int 0, .ref fk, .ref fq]))]) hD hS hA [1] rfl
  refine va_calli (va_runV (As := [.int a]) (rest := []) ⟨hx, hb, hml, hown, hts⟩ (c_X0_has l Z s.heap.size a1 0 16510910 0 fk fq a) (cwV 1 hts gX8_shun_X0_has rfl rfl rfl (by decide +kernel) ⟨Nat.le_of_ble_eq_true rfl, Nat.le_of_ble_eq_true rfl⟩) ⟨fun a U g mk q => by obtain ⟨q0, q1, qP, qK, qD⟩ := q; exact ⟨q0, q1, qP, va_K.moved (u := U) (U := U.calling g mk a) (Vm.Alike.refl U.vm) qK, qD⟩, va_recv hK hPc (ci := 0) (q0 := 0) rfl rfl, fun U hU hW => ⟨rfl, by rw [hU], by rw [hU]; exact hPc, va_K.moved hW.alike hK, hDc.weaken (fun _ _ _ _ => trivial)⟩⟩ rfl rfl hl.1 rfl (lv_room (Nat.le_of_ble_eq_true rfl)) dX8_shun_5 ⟨Nat.le_of_ble_eq_true rfl, Nat.le_of_ble_eq_true rfl⟩) hS (fun q _ h => hFc q h) hFc (fun r_1 u t H1 locs ht hvm hw hB hz1 hk1 hS => ?_)
  obtain rfl : r_1 = 0 := hw.trans (z_has0 _)
  obtain ⟨hP1, hD1⟩ := hB
  rw [ht] at hP1
  obtain ⟨hP, hD⟩ := va_join (wr := [(h0, .inr (8, [.ref a1, .ref a2, .ref a3, .ref a4, .ref a5, .int 0, .ref a6, .ref a7, .ref a8, .ref a9, .ref a10, .ref a11, .ref a12, .ref a13, .int 9, .int 0, .int 0]))]) (w1 := [(a1, .inr (0, [.int 0, .int 16510910, .int 0, .ref fk, .ref fq]))]) hP hD [1] [0] rfl rfl (by decide) (by decide) hk1 hFc hP1 hD1
  clear hPc hDc hP1 hD1 hk1 hz1 hFc ht hvm
  generalize H1 = H at hP hS ⊢
  have hP : va_P Z.1 vwCl [(h0, .inr (8, [.ref a1, .ref a2, .ref a3, .ref a4, .ref a5, .int 0, .ref a6, .ref a7, .ref a8, .ref a9, .ref a10, .ref a11, .ref a12, .ref a13, .int 9, .int 0, .int 0])), (a1, .inr (0, [.int 0, .int 16510910, .int 0, .ref fk, .ref fq]))] H := hP
  have hD : va_D A [(h0, .inr (8, [.ref a1, .ref a2, .ref a3, .ref a4, .ref a5, .int 0, .ref a6, .ref a7, .ref a8, .ref a9, .ref a10, .ref a11, .ref a12, .ref a13, .int 9, .int 0, .int 0])), (a1, .inr (0, [.int 0, .int 16510910, .int 0, .ref fk, .ref fq]))] := hD
  refine lv_if_ne (tgt := 13) hx hb dX8_shun_8 (by decide) (fun c9 => absurd c9 (by decide)) (fun _ => ?_)
  refine lv_iconst (v := (-1)) hx hb dX8_shun_11 (by decide) ?_
  exact W.iret (v := (-1)) hx hb hr (fun t ht hW => ⟨⟨(-1), (), rfl, rfl, trivial⟩, hS.F ht⟩) hS.2.2 dX8_shun_12
set_option maxHeartbeats 4000000 in
set_option maxRecDepth 100000 in
theorem c_X8_ask (l : Launch) (Z : gZ) (sz : Nat) (h0 : Nat) (a1 : Nat) (a2 : Nat) (a3 : Nat) (a4 : Nat) (a5 : Nat) (a6 : Nat) (a7 : Nat) (a8 : Nat) (a9 : Nat) (a10 : Nat) (a11 : Nat) (a12 : Nat) (a13 : Nat) (fk : Nat) (fq : Nat) (a : Int32) (b : Int32)  : Met l yX8_ask wsX8_ask ({ frames := 2, cells := 0, slots := 0, locals := 43 }) (va_Pc [.ref h0, .int a, .int b] (fun U => U.heap.size = sz ∧ va_P Z.1 vwCl [(h0, .inr (8, [.ref a1, .ref a2, .ref a3, .ref a4, .ref a5, .int 0, .ref a6, .ref a7, .ref a8, .ref a9, .ref a10, .ref a11, .ref a12, .ref a13, .int 9, .int 0, .int 0])), (a1, .inr (0, [.int 0, .int 16510910, .int 0, .ref fk, .ref fq]))] U.heap ∧ va_K Z.1 vwCl (gT Z) U ∧ va_D (fun _ => True) [(h0, .inr (8, [.ref a1, .ref a2, .ref a3, .ref a4, .ref a5, .int 0, .ref a6, .ref a7, .ref a8, .ref a9, .ref a10, .ref a11, .ref a12, .ref a13, .int 9, .int 0, .int 0])), (a1, .inr (0, [.int 0, .int 16510910, .int 0, .ref fk, .ref fq]))])) (va_Qi (fun (r : Int32) (u : Unit) => r = (-1)) (fun (u : Unit) (t : State) => True) (va_A [(h0, .inr (8, [.ref a1, .ref a2, .ref a3, .ref a4, .ref a5, .int 0, .ref a6, .ref a7, .ref a8, .ref a9, .ref a10, .ref a11, .ref a12, .ref a13, .int 9, .int 0, .int 0])), (a1, .inr (0, [.int 0, .int 16510910, .int 0, .ref fk, .ref fq]))] sz)) 0 0 (va_A [(h0, .inr (8, [.ref a1, .ref a2, .ref a3, .ref a4, .ref a5, .int 0, .ref a6, .ref a7, .ref a8, .ref a9, .ref a10, .ref a11, .ref a12, .ref a13, .int 9, .int 0, .int 0])), (a1, .inr (0, [.int 0, .int 16510910, .int 0, .ref fk, .ref fq]))] sz) := by
  refine Met.ofW (cc := cX8_ask) (maxL := 3) (ret := (some .int)) (by decide) rfl ?_
  intro p e s m args below meth c s₁ B hml hv
  obtain ⟨rfl, hsz, hP, hK, hD0⟩ := hv
  have hx := B.exec
  have hb := B.bytes
  have hr := B.returns
  have hts := atoms_spec (ws := wsX8_ask) B.pre
  have hown : s.vm.findClass RX8 = some m.cls := findClass_of_methodNamed B.named
  have hlocks := B.notSynchronized
  subst hsz
  have hin8 : ∀ w ∈ wsX80, w ∈ wsX8_ask := by decide +kernel
  have hD := hD0.self (sz := s.heap.size)
  generalize hAe : va_A [(h0, .inr (8, [.ref a1, .ref a2, .ref a3, .ref a4, .ref a5, .int 0, .ref a6, .ref a7, .ref a8, .ref a9, .ref a10, .ref a11, .ref a12, .ref a13, .int 9, .int 0, .int 0])), (a1, .inr (0, [.int 0, .int 16510910, .int 0, .ref fk, .ref fq]))] s.heap.size = A at hD ⊢
  have hA : ∀ q : Nat, s.heap.size ≤ q → A q := fun q h => by rw [← hAe]; exact Or.inr h
  have hS : va_S A s.heap s.heap [] := va_S.rf
  have hP : va_P Z.1 vwCl [(h0, .inr (8, [.ref a1, .ref a2, .ref a3, .ref a4, .ref a5, .int 0, .ref a6, .ref a7, .ref a8, .ref a9, .ref a10, .ref a11, .ref a12, .ref a13, .int 9, .int 0, .int 0])), (a1, .inr (0, [.int 0, .int 16510910, .int 0, .ref fk, .ref fq]))] s.heap := hP
  have hl := lv_entry ([.ref h0, .int a, .int b]) (n := 3) (Nat.le_of_ble_eq_true rfl)
  rw [lg_entry_eq]
  generalize (lg_sl ([.ref h0, .int a, .int b]) ++ List.replicate (3 - (lg_sl ([.ref h0, .int a, .int b])).length) Slot.unset).toArray = ls at hl ⊢
  have hl : lv_has ls 3 [(0, .ref h0), (1, .int a), (2, .int b)] := hl
  refine lv_aload_n hx hb dX8_ask_0 rfl (lv_at hl 0 rfl) ?_
  refine va_get (D := Z.1) (ci := 8) (v := .ref a1) (C := RX8) (T := TX8) (N := 17) hx hb hts hin8 hown hK hP 0 rfl rfl 0 (by decide) (hts (.fieldLink RX8 10 "HalfAsked" "folk" "LHalfAsked$Folk;") (by decide +kernel)) (fun _ h9 => h9) rfl dX8_ask_1 ?_
  refine lv_iload_n hx hb dX8_ask_4 rfl (lv_at hl 1 rfl) ?_
  refine lv_iload_n hx hb dX8_ask_5 rfl (lv_at hl 2 rfl) ?_
  have hPc := hP.sub (ws' := [(a1, .inr (0, [.int 0, .int 16510910, .int 0, .ref fk, .ref fq]))]) [1] rfl
  have hDc := hD.sub (ws' := [(a1, .inr (0, [.int 0, .int 16510910, .int 0, .ref fk, .ref fq]))]) [1] (by decide) rfl
  have hFc := va_free (wc := [(a1, .inr (0, [.int 0, .int 16510910, .int 0, .ref fk, .ref fq]))]) hD hS hA [1] rfl
  refine va_calli (va_runV (As := [.int a, .int b]) (rest := []) ⟨hx, hb, hml, hown, hts⟩ (c_X0_isPair l Z s.heap.size a1 0 16510910 0 fk fq a b) (cwV 2 hts gX8_ask_X0_isPair rfl rfl rfl (by decide +kernel) ⟨Nat.le_of_ble_eq_true rfl, Nat.le_of_ble_eq_true rfl⟩) ⟨fun a U g mk q => by obtain ⟨q0, q1, qP, qK, qD⟩ := q; exact ⟨q0, q1, qP, va_K.moved (u := U) (U := U.calling g mk a) (Vm.Alike.refl U.vm) qK, qD⟩, va_recv hK hPc (ci := 0) (q0 := 0) rfl rfl, fun U hU hW => ⟨rfl, by rw [hU], by rw [hU]; exact hPc, va_K.moved hW.alike hK, hDc.weaken (fun _ _ _ _ => trivial)⟩⟩ rfl rfl hl.1 rfl (lv_room (Nat.le_of_ble_eq_true rfl)) dX8_ask_6 ⟨Nat.le_of_ble_eq_true rfl, Nat.le_of_ble_eq_true rfl⟩) hS (fun q _ h => hFc q h) hFc (fun r_1 u t H1 locs ht hvm hw hB hz1 hk1 hS => ?_)
  obtain rfl : r_1 = 0 := hw.trans (z_pair0 _ _)
  obtain ⟨hP1, hD1⟩ := hB
  rw [ht] at hP1
  obtain ⟨hP, hD⟩ := va_join (wr := [(h0, .inr (8, [.ref a1, .ref a2, .ref a3, .ref a4, .ref a5, .int 0, .ref a6, .ref a7, .ref a8, .ref a9, .ref a10, .ref a11, .ref a12, .ref a13, .int 9, .int 0, .int 0]))]) (w1 := [(a1, .inr (0, [.int 0, .int 16510910, .int 0, .ref fk, .ref fq]))]) hP hD [1] [0] rfl rfl (by decide) (by decide) hk1 hFc hP1 hD1
  clear hPc hDc hP1 hD1 hk1 hz1 hFc ht hvm
  generalize H1 = H at hP hS ⊢
  have hP : va_P Z.1 vwCl [(h0, .inr (8, [.ref a1, .ref a2, .ref a3, .ref a4, .ref a5, .int 0, .ref a6, .ref a7, .ref a8, .ref a9, .ref a10, .ref a11, .ref a12, .ref a13, .int 9, .int 0, .int 0])), (a1, .inr (0, [.int 0, .int 16510910, .int 0, .ref fk, .ref fq]))] H := hP
  have hD : va_D A [(h0, .inr (8, [.ref a1, .ref a2, .ref a3, .ref a4, .ref a5, .int 0, .ref a6, .ref a7, .ref a8, .ref a9, .ref a10, .ref a11, .ref a12, .ref a13, .int 9, .int 0, .int 0])), (a1, .inr (0, [.int 0, .int 16510910, .int 0, .ref fk, .ref fq]))] := hD
  refine lv_if_ne (tgt := 14) hx hb dX8_ask_9 (by decide) (fun c9 => absurd c9 (by decide)) (fun _ => ?_)
  refine lv_iconst (v := (-1)) hx hb dX8_ask_12 (by decide) ?_
  exact W.iret (v := (-1)) hx hb hr (fun t ht hW => ⟨⟨(-1), (), rfl, rfl, trivial⟩, hS.F ht⟩) hS.2.2 dX8_ask_13
set_option maxHeartbeats 4000000 in
set_option maxRecDepth 100000 in
theorem c_X8_when (l : Launch) (Z : gZ) (sz : Nat) (h0 : Nat) (a1 : Nat) (a2 : Nat) (a3 : Nat) (a4 : Nat) (a5 : Nat) (a6 : Nat) (a7 : Nat) (a8 : Nat) (a9 : Nat) (a10 : Nat) (a11 : Nat) (a12 : Nat) (a13 : Nat) (fk : Nat) (fq : Nat) (a : Int32) (b : Int32)  : Met l yX8_when wsX8_when ({ frames := 2, cells := 0, slots := 0, locals := 43 }) (va_Pc [.ref h0, .int a, .int b] (fun U => U.heap.size = sz ∧ va_P Z.1 vwCl [(h0, .inr (8, [.ref a1, .ref a2, .ref a3, .ref a4, .ref a5, .int 0, .ref a6, .ref a7, .ref a8, .ref a9, .ref a10, .ref a11, .ref a12, .ref a13, .int 9, .int 0, .int 0])), (a1, .inr (0, [.int 0, .int 16510910, .int 0, .ref fk, .ref fq]))] U.heap ∧ va_K Z.1 vwCl (gT Z) U ∧ va_D (fun _ => True) [(h0, .inr (8, [.ref a1, .ref a2, .ref a3, .ref a4, .ref a5, .int 0, .ref a6, .ref a7, .ref a8, .ref a9, .ref a10, .ref a11, .ref a12, .ref a13, .int 9, .int 0, .int 0])), (a1, .inr (0, [.int 0, .int 16510910, .int 0, .ref fk, .ref fq]))])) (va_Qi (fun (r : Int32) (u : Unit) => r = (-1)) (fun (u : Unit) (t : State) => True) (va_A [(h0, .inr (8, [.ref a1, .ref a2, .ref a3, .ref a4, .ref a5, .int 0, .ref a6, .ref a7, .ref a8, .ref a9, .ref a10, .ref a11, .ref a12, .ref a13, .int 9, .int 0, .int 0])), (a1, .inr (0, [.int 0, .int 16510910, .int 0, .ref fk, .ref fq]))] sz)) 0 0 (va_A [(h0, .inr (8, [.ref a1, .ref a2, .ref a3, .ref a4, .ref a5, .int 0, .ref a6, .ref a7, .ref a8, .ref a9, .ref a10, .ref a11, .ref a12, .ref a13, .int 9, .int 0, .int 0])), (a1, .inr (0, [.int 0, .int 16510910, .int 0, .ref fk, .ref fq]))] sz) := by
  refine Met.ofW (cc := cX8_when) (maxL := 3) (ret := (some .int)) (by decide) rfl ?_
  intro p e s m args below meth c s₁ B hml hv
  obtain ⟨rfl, hsz, hP, hK, hD0⟩ := hv
  have hx := B.exec
  have hb := B.bytes
  have hr := B.returns
  have hts := atoms_spec (ws := wsX8_when) B.pre
  have hown : s.vm.findClass RX8 = some m.cls := findClass_of_methodNamed B.named
  have hlocks := B.notSynchronized
  subst hsz
  have hin8 : ∀ w ∈ wsX80, w ∈ wsX8_when := by decide +kernel
  have hD := hD0.self (sz := s.heap.size)
  generalize hAe : va_A [(h0, .inr (8, [.ref a1, .ref a2, .ref a3, .ref a4, .ref a5, .int 0, .ref a6, .ref a7, .ref a8, .ref a9, .ref a10, .ref a11, .ref a12, .ref a13, .int 9, .int 0, .int 0])), (a1, .inr (0, [.int 0, .int 16510910, .int 0, .ref fk, .ref fq]))] s.heap.size = A at hD ⊢
  have hA : ∀ q : Nat, s.heap.size ≤ q → A q := fun q h => by rw [← hAe]; exact Or.inr h
  have hS : va_S A s.heap s.heap [] := va_S.rf
  have hP : va_P Z.1 vwCl [(h0, .inr (8, [.ref a1, .ref a2, .ref a3, .ref a4, .ref a5, .int 0, .ref a6, .ref a7, .ref a8, .ref a9, .ref a10, .ref a11, .ref a12, .ref a13, .int 9, .int 0, .int 0])), (a1, .inr (0, [.int 0, .int 16510910, .int 0, .ref fk, .ref fq]))] s.heap := hP
  have hl := lv_entry ([.ref h0, .int a, .int b]) (n := 3) (Nat.le_of_ble_eq_true rfl)
  rw [lg_entry_eq]
  generalize (lg_sl ([.ref h0, .int a, .int b]) ++ List.replicate (3 - (lg_sl ([.ref h0, .int a, .int b])).length) Slot.unset).toArray = ls at hl ⊢
  have hl : lv_has ls 3 [(0, .ref h0), (1, .int a), (2, .int b)] := hl
  refine lv_aload_n hx hb dX8_when_0 rfl (lv_at hl 0 rfl) ?_
  refine va_get (D := Z.1) (ci := 8) (v := .ref a1) (C := RX8) (T := TX8) (N := 17) hx hb hts hin8 hown hK hP 0 rfl rfl 0 (by decide) (hts (.fieldLink RX8 10 "HalfAsked" "folk" "LHalfAsked$Folk;") (by decide +kernel)) (fun _ h9 => h9) rfl dX8_when_1 ?_
  refine lv_iload_n hx hb dX8_when_4 rfl (lv_at hl 1 rfl) ?_
  refine lv_iload_n hx hb dX8_when_5 rfl (lv_at hl 2 rfl) ?_
  have hPc := hP.sub (ws' := [(a1, .inr (0, [.int 0, .int 16510910, .int 0, .ref fk, .ref fq]))]) [1] rfl
  have hDc := hD.sub (ws' := [(a1, .inr (0, [.int 0, .int 16510910, .int 0, .ref fk, .ref fq]))]) [1] (by decide) rfl
  have hFc := va_free (wc := [(a1, .inr (0, [.int 0, .int 16510910, .int 0, .ref fk, .ref fq]))]) hD hS hA [1] rfl
  refine va_calli (va_runV (As := [.int a, .int b]) (rest := []) ⟨hx, hb, hml, hown, hts⟩ (c_X0_isPair l Z s.heap.size a1 0 16510910 0 fk fq a b) (cwV 2 hts gX8_when_X0_isPair rfl rfl rfl (by decide +kernel) ⟨Nat.le_of_ble_eq_true rfl, Nat.le_of_ble_eq_true rfl⟩) ⟨fun a U g mk q => by obtain ⟨q0, q1, qP, qK, qD⟩ := q; exact ⟨q0, q1, qP, va_K.moved (u := U) (U := U.calling g mk a) (Vm.Alike.refl U.vm) qK, qD⟩, va_recv hK hPc (ci := 0) (q0 := 0) rfl rfl, fun U hU hW => ⟨rfl, by rw [hU], by rw [hU]; exact hPc, va_K.moved hW.alike hK, hDc.weaken (fun _ _ _ _ => trivial)⟩⟩ rfl rfl hl.1 rfl (lv_room (Nat.le_of_ble_eq_true rfl)) dX8_when_6 ⟨Nat.le_of_ble_eq_true rfl, Nat.le_of_ble_eq_true rfl⟩) hS (fun q _ h => hFc q h) hFc (fun r_1 u t H1 locs ht hvm hw hB hz1 hk1 hS => ?_)
  obtain rfl : r_1 = 0 := hw.trans (z_pair0 _ _)
  obtain ⟨hP1, hD1⟩ := hB
  rw [ht] at hP1
  obtain ⟨hP, hD⟩ := va_join (wr := [(h0, .inr (8, [.ref a1, .ref a2, .ref a3, .ref a4, .ref a5, .int 0, .ref a6, .ref a7, .ref a8, .ref a9, .ref a10, .ref a11, .ref a12, .ref a13, .int 9, .int 0, .int 0]))]) (w1 := [(a1, .inr (0, [.int 0, .int 16510910, .int 0, .ref fk, .ref fq]))]) hP hD [1] [0] rfl rfl (by decide) (by decide) hk1 hFc hP1 hD1
  clear hPc hDc hP1 hD1 hk1 hz1 hFc ht hvm
  generalize H1 = H at hP hS ⊢
  have hP : va_P Z.1 vwCl [(h0, .inr (8, [.ref a1, .ref a2, .ref a3, .ref a4, .ref a5, .int 0, .ref a6, .ref a7, .ref a8, .ref a9, .ref a10, .ref a11, .ref a12, .ref a13, .int 9, .int 0, .int 0])), (a1, .inr (0, [.int 0, .int 16510910, .int 0, .ref fk, .ref fq]))] H := hP
  have hD : va_D A [(h0, .inr (8, [.ref a1, .ref a2, .ref a3, .ref a4, .ref a5, .int 0, .ref a6, .ref a7, .ref a8, .ref a9, .ref a10, .ref a11, .ref a12, .ref a13, .int 9, .int 0, .int 0])), (a1, .inr (0, [.int 0, .int 16510910, .int 0, .ref fk, .ref fq]))] := hD
  refine lv_if_ne (tgt := 14) hx hb dX8_when_9 (by decide) (fun c9 => absurd c9 (by decide)) (fun _ => ?_)
  refine lv_iconst (v := (-1)) hx hb dX8_when_12 (by decide) ?_
  exact W.iret (v := (-1)) hx hb hr (fun t ht hW => ⟨⟨(-1), (), rfl, rfl, trivial⟩, hS.F ht⟩) hS.2.2 dX8_when_13
set_option maxHeartbeats 4000000 in
set_option maxRecDepth 100000 in
theorem c_X8_knows (l : Launch) (Z : gZ) (sz : Nat) (h0 : Nat) (a1 : Nat) (a2 : Nat) (a3 : Nat) (a4 : Nat) (a5 : Nat) (a6 : Nat) (a7 : Nat) (a8 : Nat) (a9 : Nat) (a10 : Nat) (a11 : Nat) (a12 : Nat) (a13 : Nat) (fk : Nat) (fq : Nat) (a : Int32) (b : Int32) (d : Int32)  : Met l yX8_knows wsX8_knows ({ frames := 2, cells := 0, slots := 0, locals := 43 }) (va_Pc [.ref h0, .int a, .int b, .int d] (fun U => U.heap.size = sz ∧ va_P Z.1 vwCl [(h0, .inr (8, [.ref a1, .ref a2, .ref a3, .ref a4, .ref a5, .int 0, .ref a6, .ref a7, .ref a8, .ref a9, .ref a10, .ref a11, .ref a12, .ref a13, .int 9, .int 0, .int 0])), (a1, .inr (0, [.int 0, .int 16510910, .int 0, .ref fk, .ref fq]))] U.heap ∧ va_K Z.1 vwCl (gT Z) U ∧ va_D (fun _ => True) [(h0, .inr (8, [.ref a1, .ref a2, .ref a3, .ref a4, .ref a5, .int 0, .ref a6, .ref a7, .ref a8, .ref a9, .ref a10, .ref a11, .ref a12, .ref a13, .int 9, .int 0, .int 0])), (a1, .inr (0, [.int 0, .int 16510910, .int 0, .ref fk, .ref fq]))])) (va_Qi (fun (r : Int32) (u : Unit) => r = (-1)) (fun (u : Unit) (t : State) => True) (va_A [(h0, .inr (8, [.ref a1, .ref a2, .ref a3, .ref a4, .ref a5, .int 0, .ref a6, .ref a7, .ref a8, .ref a9, .ref a10, .ref a11, .ref a12, .ref a13, .int 9, .int 0, .int 0])), (a1, .inr (0, [.int 0, .int 16510910, .int 0, .ref fk, .ref fq]))] sz)) 0 0 (va_A [(h0, .inr (8, [.ref a1, .ref a2, .ref a3, .ref a4, .ref a5, .int 0, .ref a6, .ref a7, .ref a8, .ref a9, .ref a10, .ref a11, .ref a12, .ref a13, .int 9, .int 0, .int 0])), (a1, .inr (0, [.int 0, .int 16510910, .int 0, .ref fk, .ref fq]))] sz) := by
  refine Met.ofW (cc := cX8_knows) (maxL := 6) (ret := (some .int)) (by decide) rfl ?_
  intro p e s m args below meth c s₁ B hml hv
  obtain ⟨rfl, hsz, hP, hK, hD0⟩ := hv
  have hx := B.exec
  have hb := B.bytes
  have hr := B.returns
  have hts := atoms_spec (ws := wsX8_knows) B.pre
  have hown : s.vm.findClass RX8 = some m.cls := findClass_of_methodNamed B.named
  have hlocks := B.notSynchronized
  subst hsz
  have hin8 : ∀ w ∈ wsX80, w ∈ wsX8_knows := by decide +kernel
  have hD := hD0.self (sz := s.heap.size)
  generalize hAe : va_A [(h0, .inr (8, [.ref a1, .ref a2, .ref a3, .ref a4, .ref a5, .int 0, .ref a6, .ref a7, .ref a8, .ref a9, .ref a10, .ref a11, .ref a12, .ref a13, .int 9, .int 0, .int 0])), (a1, .inr (0, [.int 0, .int 16510910, .int 0, .ref fk, .ref fq]))] s.heap.size = A at hD ⊢
  have hA : ∀ q : Nat, s.heap.size ≤ q → A q := fun q h => by rw [← hAe]; exact Or.inr h
  have hS : va_S A s.heap s.heap [] := va_S.rf
  have hP : va_P Z.1 vwCl [(h0, .inr (8, [.ref a1, .ref a2, .ref a3, .ref a4, .ref a5, .int 0, .ref a6, .ref a7, .ref a8, .ref a9, .ref a10, .ref a11, .ref a12, .ref a13, .int 9, .int 0, .int 0])), (a1, .inr (0, [.int 0, .int 16510910, .int 0, .ref fk, .ref fq]))] s.heap := hP
  have hl := lv_entry ([.ref h0, .int a, .int b, .int d]) (n := 6) (Nat.le_of_ble_eq_true rfl)
  rw [lg_entry_eq]
  generalize (lg_sl ([.ref h0, .int a, .int b, .int d]) ++ List.replicate (6 - (lg_sl ([.ref h0, .int a, .int b, .int d])).length) Slot.unset).toArray = ls at hl ⊢
  have hl : lv_has ls 6 [(0, .ref h0), (1, .int a), (2, .int b), (3, .int d)] := hl
  refine lv_aload_n hx hb dX8_knows_0 rfl (lv_at hl 0 rfl) ?_
  refine va_get (D := Z.1) (ci := 8) (v := .ref a1) (C := RX8) (T := TX8) (N := 17) hx hb hts hin8 hown hK hP 0 rfl rfl 0 (by decide) (hts (.fieldLink RX8 10 "HalfAsked" "folk" "LHalfAsked$Folk;") (by decide +kernel)) (fun _ h9 => h9) rfl dX8_knows_1 ?_
  refine lv_iload_n hx hb dX8_knows_4 rfl (lv_at hl 1 rfl) ?_
  refine lv_iload_n hx hb dX8_knows_5 rfl (lv_at hl 2 rfl) ?_
  have hPc := hP.sub (ws' := [(a1, .inr (0, [.int 0, .int 16510910, .int 0, .ref fk, .ref fq]))]) [1] rfl
  have hDc := hD.sub (ws' := [(a1, .inr (0, [.int 0, .int 16510910, .int 0, .ref fk, .ref fq]))]) [1] (by decide) rfl
  have hFc := va_free (wc := [(a1, .inr (0, [.int 0, .int 16510910, .int 0, .ref fk, .ref fq]))]) hD hS hA [1] rfl
  refine va_calli (va_runV (As := [.int a, .int b]) (rest := []) ⟨hx, hb, hml, hown, hts⟩ (c_X0_isPair l Z s.heap.size a1 0 16510910 0 fk fq a b) (cwV 2 hts gX8_knows_X0_isPair rfl rfl rfl (by decide +kernel) ⟨Nat.le_of_ble_eq_true rfl, Nat.le_of_ble_eq_true rfl⟩) ⟨fun a U g mk q => by obtain ⟨q0, q1, qP, qK, qD⟩ := q; exact ⟨q0, q1, qP, va_K.moved (u := U) (U := U.calling g mk a) (Vm.Alike.refl U.vm) qK, qD⟩, va_recv hK hPc (ci := 0) (q0 := 0) rfl rfl, fun U hU hW => ⟨rfl, by rw [hU], by rw [hU]; exact hPc, va_K.moved hW.alike hK, hDc.weaken (fun _ _ _ _ => trivial)⟩⟩ rfl rfl hl.1 rfl (lv_room (Nat.le_of_ble_eq_true rfl)) dX8_knows_6 ⟨Nat.le_of_ble_eq_true rfl, Nat.le_of_ble_eq_true rfl⟩) hS (fun q _ h => hFc q h) hFc (fun r_1 u t H1 locs ht hvm hw hB hz1 hk1 hS => ?_)
  obtain rfl : r_1 = 0 := hw.trans (z_pair0 _ _)
  obtain ⟨hP1, hD1⟩ := hB
  rw [ht] at hP1
  obtain ⟨hP, hD⟩ := va_join (wr := [(h0, .inr (8, [.ref a1, .ref a2, .ref a3, .ref a4, .ref a5, .int 0, .ref a6, .ref a7, .ref a8, .ref a9, .ref a10, .ref a11, .ref a12, .ref a13, .int 9, .int 0, .int 0]))]) (w1 := [(a1, .inr (0, [.int 0, .int 16510910, .int 0, .ref fk, .ref fq]))]) hP hD [1] [0] rfl rfl (by decide) (by decide) hk1 hFc hP1 hD1
  clear hPc hDc hP1 hD1 hk1 hz1 hFc ht hvm
  generalize H1 = H at hP hS ⊢
  have hP : va_P Z.1 vwCl [(h0, .inr (8, [.ref a1, .ref a2, .ref a3, .ref a4, .ref a5, .int 0, .ref a6, .ref a7, .ref a8, .ref a9, .ref a10, .ref a11, .ref a12, .ref a13, .int 9, .int 0, .int 0])), (a1, .inr (0, [.int 0, .int 16510910, .int 0, .ref fk, .ref fq]))] H := hP
  have hD : va_D A [(h0, .inr (8, [.ref a1, .ref a2, .ref a3, .ref a4, .ref a5, .int 0, .ref a6, .ref a7, .ref a8, .ref a9, .ref a10, .ref a11, .ref a12, .ref a13, .int 9, .int 0, .int 0])), (a1, .inr (0, [.int 0, .int 16510910, .int 0, .ref fk, .ref fq]))] := hD
  refine lv_if_ne (tgt := 14) hx hb dX8_knows_9 (by decide) (fun c9 => absurd c9 (by decide)) (fun _ => ?_)
  refine lv_iconst (v := (-1)) hx hb dX8_knows_12 (by decide) ?_
  exact W.iret (v := (-1)) hx hb hr (fun t ht hW => ⟨⟨(-1), (), rfl, rfl, trivial⟩, hS.F ht⟩) hS.2.2 dX8_knows_13
set_option maxHeartbeats 4000000 in
set_option maxRecDepth 100000 in
theorem c_X8_exact (l : Launch) (Z : gZ) (sz : Nat) (h0 : Nat) (a1 : Nat) (a2 : Nat) (a3 : Nat) (a4 : Nat) (a5 : Nat) (a6 : Nat) (a7 : Nat) (a8 : Nat) (a9 : Nat) (a10 : Nat) (a11 : Nat) (a12 : Nat) (a13 : Nat) (fk : Nat) (fq : Nat) (a : Int32) (b : Int32) (d : Int32)  : Met l yX8_exact wsX8_exact ({ frames := 1, cells := 0, slots := 0, locals := 21 }) (va_Pc [.ref h0, .int a, .int b, .int d] (fun U => U.heap.size = sz ∧ va_P Z.1 vwCl [(h0, .inr (8, [.ref a1, .ref a2, .ref a3, .ref a4, .ref a5, .int 0, .ref a6, .ref a7, .ref a8, .ref a9, .ref a10, .ref a11, .ref a12, .ref a13, .int 9, .int 0, .int 0])), (a1, .inr (0, [.int 0, .int 16510910, .int 0, .ref fk, .ref fq]))] U.heap ∧ va_K Z.1 vwCl (gT Z) U ∧ va_D (fun _ => True) [(h0, .inr (8, [.ref a1, .ref a2, .ref a3, .ref a4, .ref a5, .int 0, .ref a6, .ref a7, .ref a8, .ref a9, .ref a10, .ref a11, .ref a12, .ref a13, .int 9, .int 0, .int 0])), (a1, .inr (0, [.int 0, .int 16510910, .int 0, .ref fk, .ref fq]))])) (va_Ql (fun (r : Int64) (u : Unit) => r = (-1)) (fun (u : Unit) (t : State) => True) (va_A [(h0, .inr (8, [.ref a1, .ref a2, .ref a3, .ref a4, .ref a5, .int 0, .ref a6, .ref a7, .ref a8, .ref a9, .ref a10, .ref a11, .ref a12, .ref a13, .int 9, .int 0, .int 0])), (a1, .inr (0, [.int 0, .int 16510910, .int 0, .ref fk, .ref fq]))] sz)) 0 0 (va_A [(h0, .inr (8, [.ref a1, .ref a2, .ref a3, .ref a4, .ref a5, .int 0, .ref a6, .ref a7, .ref a8, .ref a9, .ref a10, .ref a11, .ref a12, .ref a13, .int 9, .int 0, .int 0])), (a1, .inr (0, [.int 0, .int 16510910, .int 0, .ref fk, .ref fq]))] sz) := by
  refine Met.ofW (cc := cX8_exact) (maxL := 10) (ret := (some .long)) (by decide) rfl ?_
  intro p e s m args below meth c s₁ B hml hv
  obtain ⟨rfl, hsz, hP, hK, hD0⟩ := hv
  have hx := B.exec
  have hb := B.bytes
  have hr := B.returns
  have hts := atoms_spec (ws := wsX8_exact) B.pre
  have hown : s.vm.findClass RX8 = some m.cls := findClass_of_methodNamed B.named
  have hlocks := B.notSynchronized
  subst hsz
  have hin8 : ∀ w ∈ wsX80, w ∈ wsX8_exact := by decide +kernel
  have hD := hD0.self (sz := s.heap.size)
  generalize hAe : va_A [(h0, .inr (8, [.ref a1, .ref a2, .ref a3, .ref a4, .ref a5, .int 0, .ref a6, .ref a7, .ref a8, .ref a9, .ref a10, .ref a11, .ref a12, .ref a13, .int 9, .int 0, .int 0])), (a1, .inr (0, [.int 0, .int 16510910, .int 0, .ref fk, .ref fq]))] s.heap.size = A at hD ⊢
  have hA : ∀ q : Nat, s.heap.size ≤ q → A q := fun q h => by rw [← hAe]; exact Or.inr h
  have hS : va_S A s.heap s.heap [] := va_S.rf
  have hP : va_P Z.1 vwCl [(h0, .inr (8, [.ref a1, .ref a2, .ref a3, .ref a4, .ref a5, .int 0, .ref a6, .ref a7, .ref a8, .ref a9, .ref a10, .ref a11, .ref a12, .ref a13, .int 9, .int 0, .int 0])), (a1, .inr (0, [.int 0, .int 16510910, .int 0, .ref fk, .ref fq]))] s.heap := hP
  have hl := lv_entry ([.ref h0, .int a, .int b, .int d]) (n := 10) (Nat.le_of_ble_eq_true rfl)
  rw [lg_entry_eq]
  generalize (lg_sl ([.ref h0, .int a, .int b, .int d]) ++ List.replicate (10 - (lg_sl ([.ref h0, .int a, .int b, .int d])).length) Slot.unset).toArray = ls at hl ⊢
  have hl : lv_has ls 10 [(0, .ref h0), (1, .int a), (2, .int b), (3, .int d)] := hl
  refine lv_aload_n hx hb dX8_exact_0 rfl (lv_at hl 0 rfl) ?_
  refine va_get (D := Z.1) (ci := 8) (v := .ref a1) (C := RX8) (T := TX8) (N := 17) hx hb hts hin8 hown hK hP 0 rfl rfl 0 (by decide) (hts (.fieldLink RX8 10 "HalfAsked" "folk" "LHalfAsked$Folk;") (by decide +kernel)) (fun _ h9 => h9) rfl dX8_exact_1 ?_
  refine lv_iload_n hx hb dX8_exact_4 rfl (lv_at hl 1 rfl) ?_
  have hPc := hP.sub (ws' := [(a1, .inr (0, [.int 0, .int 16510910, .int 0, .ref fk, .ref fq]))]) [1] rfl
  have hDc := hD.sub (ws' := [(a1, .inr (0, [.int 0, .int 16510910, .int 0, .ref fk, .ref fq]))]) [1] (by decide) rfl
  have hFc := va_free (wc := [(a1, .inr (0, [.int 0, .int 16510910, .int 0, .ref fk, .ref fq]))]) hD hS hA [1] rfl
  refine va_calli (va_runV (As := [.int a]) (rest := []) ⟨hx, hb, hml, hown, hts⟩ (c_X0_has l Z s.heap.size a1 0 16510910 0 fk fq a) (cwV 1 hts gX8_exact_X0_has rfl rfl rfl (by decide +kernel) ⟨Nat.le_of_ble_eq_true rfl, Nat.le_of_ble_eq_true rfl⟩) ⟨fun a U g mk q => by obtain ⟨q0, q1, qP, qK, qD⟩ := q; exact ⟨q0, q1, qP, va_K.moved (u := U) (U := U.calling g mk a) (Vm.Alike.refl U.vm) qK, qD⟩, va_recv hK hPc (ci := 0) (q0 := 0) rfl rfl, fun U hU hW => ⟨rfl, by rw [hU], by rw [hU]; exact hPc, va_K.moved hW.alike hK, hDc.weaken (fun _ _ _ _ => trivial)⟩⟩ rfl rfl hl.1 rfl (lv_room (Nat.le_of_ble_eq_true rfl)) dX8_exact_5 ⟨Nat.le_of_ble_eq_true rfl, Nat.le_of_ble_eq_true rfl⟩) hS (fun q _ h => hFc q h) hFc (fun r_1 u t H1 locs ht hvm hw hB hz1 hk1 hS => ?_)
  obtain rfl : r_1 = 0 := hw.trans (z_has0 _)
  obtain ⟨hP1, hD1⟩ := hB
  rw [ht] at hP1
  obtain ⟨hP, hD⟩ := va_join (wr := [(h0, .inr (8, [.ref a1, .ref a2, .ref a3, .ref a4, .ref a5, .int 0, .ref a6, .ref a7, .ref a8, .ref a9, .ref a10, .ref a11, .ref a12, .ref a13, .int 9, .int 0, .int 0]))]) (w1 := [(a1, .inr (0, [.int 0, .int 16510910, .int 0, .ref fk, .ref fq]))]) hP hD [1] [0] rfl rfl (by decide) (by decide) hk1 hFc hP1 hD1
  clear hPc hDc hP1 hD1 hk1 hz1 hFc ht hvm
  generalize H1 = H at hP hS ⊢
  have hP : va_P Z.1 vwCl [(h0, .inr (8, [.ref a1, .ref a2, .ref a3, .ref a4, .ref a5, .int 0, .ref a6, .ref a7, .ref a8, .ref a9, .ref a10, .ref a11, .ref a12, .ref a13, .int 9, .int 0, .int 0])), (a1, .inr (0, [.int 0, .int 16510910, .int 0, .ref fk, .ref fq]))] H := hP
  have hD : va_D A [(h0, .inr (8, [.ref a1, .ref a2, .ref a3, .ref a4, .ref a5, .int 0, .ref a6, .ref a7, .ref a8, .ref a9, .ref a10, .ref a11, .ref a12, .ref a13, .int 9, .int 0, .int 0])), (a1, .inr (0, [.int 0, .int 16510910, .int 0, .ref fk, .ref fq]))] := hD
  refine lv_if_eq (tgt := 30) hx hb dX8_exact_8 (by decide) (fun _ => ?_) (fun c9 => absurd c9 (by decide))
  refine lv_ldc2 (v := (-1)) hx hb hown (hts (.constantLong RX8 228 (-1)) (by decide +kernel)) dX8_exact_30 ?_
  exact W.lret (v := (-1)) hx hb hr (fun t ht hW => ⟨⟨(-1), (), rfl, rfl, trivial⟩, hS.F ht⟩) hS.2.2 dX8_exact_33
set_option maxHeartbeats 4000000 in
set_option maxRecDepth 100000 in
theorem c_X8_week (l : Launch) (Z : gZ) (sz : Nat) (h0 : Nat) (a1 : Nat) (a2 : Nat) (a3 : Nat) (a4 : Nat) (a5 : Nat) (a6 : Nat) (a7 : Nat) (a8 : Nat) (a9 : Nat) (a10 : Nat) (a11 : Nat) (a12 : Nat) (a13 : Nat) (fk : Nat) (fq : Nat)  : Met l yX8_week wsX8_week ({ frames := 2, cells := 0, slots := 0, locals := 40 }) (va_Pc [.ref h0] (fun U => U.heap.size = sz ∧ va_P Z.1 vwCl [(h0, .inr (8, [.ref a1, .ref a2, .ref a3, .ref a4, .ref a5, .int 0, .ref a6, .ref a7, .ref a8, .ref a9, .ref a10, .ref a11, .ref a12, .ref a13, .int 9, .int 0, .int 0])), (a1, .inr (0, [.int 0, .int 16510910, .int 0, .ref fk, .ref fq]))] U.heap ∧ va_K Z.1 vwCl (gT Z) U ∧ va_D (fun _ => True) [(h0, .inr (8, [.ref a1, .ref a2, .ref a3, .ref a4, .ref a5, .int 0, .ref a6, .ref a7, .ref a8, .ref a9, .ref a10, .ref a11, .ref a12, .ref a13, .int 9, .int 0, .int 0])), (a1, .inr (0, [.int 0, .int 16510910, .int 0, .ref fk, .ref fq]))])) (va_Qi (fun (r : Int32) (u : Unit) => r = 0) (fun (u : Unit) (t : State) => True) (va_A [(h0, .inr (8, [.ref a1, .ref a2, .ref a3, .ref a4, .ref a5, .int 0, .ref a6, .ref a7, .ref a8, .ref a9, .ref a10, .ref a11, .ref a12, .ref a13, .int 9, .int 0, .int 0])), (a1, .inr (0, [.int 0, .int 16510910, .int 0, .ref fk, .ref fq]))] sz)) 0 0 (va_A [(h0, .inr (8, [.ref a1, .ref a2, .ref a3, .ref a4, .ref a5, .int 0, .ref a6, .ref a7, .ref a8, .ref a9, .ref a10, .ref a11, .ref a12, .ref a13, .int 9, .int 0, .int 0])), (a1, .inr (0, [.int 0, .int 16510910, .int 0, .ref fk, .ref fq]))] sz) := by
  refine Met.ofW (cc := cX8_week) (maxL := 2) (ret := (some .int)) (by decide) rfl ?_
  intro p e s m args below meth c s₁ B hml hv
  obtain ⟨rfl, hsz, hP, hK, hD0⟩ := hv
  have hx := B.exec
  have hb := B.bytes
  have hr := B.returns
  have hts := atoms_spec (ws := wsX8_week) B.pre
  have hown : s.vm.findClass RX8 = some m.cls := findClass_of_methodNamed B.named
  have hlocks := B.notSynchronized
  subst hsz
  have hin0 : ∀ w ∈ wsX00, w ∈ wsX8_week := by decide +kernel
  have hin8 : ∀ w ∈ wsX80, w ∈ wsX8_week := by decide +kernel
  have hD := hD0.self (sz := s.heap.size)
  generalize hAe : va_A [(h0, .inr (8, [.ref a1, .ref a2, .ref a3, .ref a4, .ref a5, .int 0, .ref a6, .ref a7, .ref a8, .ref a9, .ref a10, .ref a11, .ref a12, .ref a13, .int 9, .int 0, .int 0])), (a1, .inr (0, [.int 0, .int 16510910, .int 0, .ref fk, .ref fq]))] s.heap.size = A at hD ⊢
  have hA : ∀ q : Nat, s.heap.size ≤ q → A q := fun q h => by rw [← hAe]; exact Or.inr h
  have hS : va_S A s.heap s.heap [] := va_S.rf
  have hP : va_P Z.1 vwCl [(h0, .inr (8, [.ref a1, .ref a2, .ref a3, .ref a4, .ref a5, .int 0, .ref a6, .ref a7, .ref a8, .ref a9, .ref a10, .ref a11, .ref a12, .ref a13, .int 9, .int 0, .int 0])), (a1, .inr (0, [.int 0, .int 16510910, .int 0, .ref fk, .ref fq]))] s.heap := hP
  have hl := lv_entry ([.ref h0]) (n := 2) (Nat.le_of_ble_eq_true rfl)
  rw [lg_entry_eq]
  generalize (lg_sl ([.ref h0]) ++ List.replicate (2 - (lg_sl ([.ref h0])).length) Slot.unset).toArray = ls at hl ⊢
  have hl : lv_has ls 2 [(0, .ref h0)] := hl
  refine lv_aload_n hx hb dX8_week_0 rfl (lv_at hl 0 rfl) ?_
  have hPc := hP.sub (ws' := [(h0, .inr (8, [.ref a1, .ref a2, .ref a3, .ref a4, .ref a5, .int 0, .ref a6, .ref a7, .ref a8, .ref a9, .ref a10, .ref a11, .ref a12, .ref a13, .int 9, .int 0, .int 0]))]) [0] rfl
  have hDc := hD.sub (ws' := [(h0, .inr (8, [.ref a1, .ref a2, .ref a3, .ref a4, .ref a5, .int 0, .ref a6, .ref a7, .ref a8, .ref a9, .ref a10, .ref a11, .ref a12, .ref a13, .int 9, .int 0, .int 0]))]) [0] (by decide) rfl
  have hFc := va_free (wc := [(h0, .inr (8, [.ref a1, .ref a2, .ref a3, .ref a4, .ref a5, .int 0, .ref a6, .ref a7, .ref a8, .ref a9, .ref a10, .ref a11, .ref a12, .ref a13, .int 9, .int 0, .int 0]))]) hD hS hA [0] rfl
  refine va_callv (va_runV (As := []) (rest := []) ⟨hx, hb, hml, hown, hts⟩ (c_X8_forgetFound l Z s.heap.size h0 a1 a2 a3 a4 a5 a6 a7 a8 a9 a10 a11 a12 a13 0 9 0 0) (cwV 0 hts gX8_week_X8_forgetFound rfl rfl rfl (by decide +kernel) ⟨Nat.le_of_ble_eq_true rfl, Nat.le_of_ble_eq_true rfl⟩) ⟨fun a U g mk q => by obtain ⟨q0, q1, qP, qK, qD⟩ := q; exact ⟨q0, q1, qP, va_K.moved (u := U) (U := U.calling g mk a) (Vm.Alike.refl U.vm) qK, qD⟩, va_recv hK hPc (ci := 8) (q0 := 0) rfl rfl, fun U hU hW => ⟨rfl, by rw [hU], by rw [hU]; exact hPc, va_K.moved hW.alike hK, hDc.weaken (fun _ _ _ _ => trivial)⟩⟩ rfl rfl hl.1 rfl (lv_room (Nat.le_of_ble_eq_true rfl)) dX8_week_1 ⟨Nat.le_of_ble_eq_true rfl, Nat.le_of_ble_eq_true rfl⟩) hS (fun q _ h => hFc q h) hFc (fun u t H1 locs ht hvm hw hB hz1 hk1 hS => ?_)
  obtain ⟨hP1, hD1⟩ := hB
  rw [ht] at hP1
  obtain ⟨hP, hD⟩ := va_join (wr := [(a1, .inr (0, [.int 0, .int 16510910, .int 0, .ref fk, .ref fq]))]) (w1 := [(h0, .inr (8, [.ref a1, .ref a2, .ref a3, .ref a4, .ref a5, .int 0, .ref a6, .ref a7, .ref a8, .ref a9, .ref a10, .ref a11, .ref a12, .ref a13, .int 9, .int 0, .int 0]))]) hP hD [0] [1] rfl rfl (by decide) (by decide) hk1 hFc hP1 hD1
  clear hPc hDc hP1 hD1 hk1 hz1 hFc ht hvm
  generalize H1 = H at hP hS ⊢
  have hP : va_P Z.1 vwCl [(a1, .inr (0, [.int 0, .int 16510910, .int 0, .ref fk, .ref fq])), (h0, .inr (8, [.ref a1, .ref a2, .ref a3, .ref a4, .ref a5, .int 0, .ref a6, .ref a7, .ref a8, .ref a9, .ref a10, .ref a11, .ref a12, .ref a13, .int 9, .int 0, .int 0]))] H := hP
  have hD : va_D A [(a1, .inr (0, [.int 0, .int 16510910, .int 0, .ref fk, .ref fq])), (h0, .inr (8, [.ref a1, .ref a2, .ref a3, .ref a4, .ref a5, .int 0, .ref a6, .ref a7, .ref a8, .ref a9, .ref a10, .ref a11, .ref a12, .ref a13, .int 9, .int 0, .int 0]))] := hD
  refine lv_aload_n hx hb dX8_week_4 rfl (lv_at hl 0 rfl) ?_
  refine va_get (D := Z.1) (ci := 8) (v := .ref a1) (C := RX8) (T := TX8) (N := 17) hx hb hts hin8 hown hK hP 1 rfl rfl 0 (by decide) (hts (.fieldLink RX8 10 "HalfAsked" "folk" "LHalfAsked$Folk;") (by decide +kernel)) (fun _ h9 => h9) rfl dX8_week_5 ?_
  have hPc := hP.sub (ws' := [(a1, .inr (0, [.int 0, .int 16510910, .int 0, .ref fk, .ref fq]))]) [0] rfl
  have hDc := hD.sub (ws' := [(a1, .inr (0, [.int 0, .int 16510910, .int 0, .ref fk, .ref fq]))]) [0] (by decide) rfl
  have hFc := va_free (wc := [(a1, .inr (0, [.int 0, .int 16510910, .int 0, .ref fk, .ref fq]))]) hD hS hA [0] rfl
  refine va_calli (va_runV (As := []) (rest := []) ⟨hx, hb, hml, hown, hts⟩ (c_X0_askings l Z H.size a1 0 16510910 fk fq) (cwV 0 hts gX8_week_X0_askings rfl rfl rfl (by decide +kernel) ⟨Nat.le_of_ble_eq_true rfl, Nat.le_of_ble_eq_true rfl⟩) ⟨fun a U g mk q => by obtain ⟨q0, q1, qP, qK, qD⟩ := q; exact ⟨q0, q1, qP, va_K.moved (u := U) (U := U.calling g mk a) (Vm.Alike.refl U.vm) qK, qD⟩, va_recv hK hPc (ci := 0) (q0 := 0) rfl rfl, fun U hU hW => ⟨rfl, by rw [hU], by rw [hU]; exact hPc, va_K.moved hW.alike hK, hDc.weaken (fun _ _ _ _ => trivial)⟩⟩ rfl rfl hl.1 rfl (lv_room (Nat.le_of_ble_eq_true rfl)) dX8_week_8 ⟨Nat.le_of_ble_eq_true rfl, Nat.le_of_ble_eq_true rfl⟩) hS (fun q _ h => hFc q h) hFc (fun r_2 u t H1 locs ht hvm hw hB hz1 hk1 hS => ?_)
  subst hw
  obtain ⟨hP1, hD1⟩ := hB
  rw [ht] at hP1
  obtain ⟨hP, hD⟩ := va_join (wr := [(h0, .inr (8, [.ref a1, .ref a2, .ref a3, .ref a4, .ref a5, .int 0, .ref a6, .ref a7, .ref a8, .ref a9, .ref a10, .ref a11, .ref a12, .ref a13, .int 9, .int 0, .int 0]))]) (w1 := [(a1, .inr (0, [.int 0, .int 16510910, .int 0, .ref fk, .ref fq]))]) hP hD [0] [1] rfl rfl (by decide) (by decide) hk1 hFc hP1 hD1
  clear hPc hDc hP1 hD1 hk1 hz1 hFc ht hvm
  generalize H1 = H at hP hS ⊢
  have hP : va_P Z.1 vwCl [(h0, .inr (8, [.ref a1, .ref a2, .ref a3, .ref a4, .ref a5, .int 0, .ref a6, .ref a7, .ref a8, .ref a9, .ref a10, .ref a11, .ref a12, .ref a13, .int 9, .int 0, .int 0])), (a1, .inr (0, [.int 0, .int 16510910, .int 0, .ref fk, .ref fq]))] H := hP
  have hD : va_D A [(h0, .inr (8, [.ref a1, .ref a2, .ref a3, .ref a4, .ref a5, .int 0, .ref a6, .ref a7, .ref a8, .ref a9, .ref a10, .ref a11, .ref a12, .ref a13, .int 9, .int 0, .int 0])), (a1, .inr (0, [.int 0, .int 16510910, .int 0, .ref fk, .ref fq]))] := hD
  refine lv_istore_n (lv' := [(1, .int 0), (0, .ref h0)]) hx hb dX8_week_11 rfl hl (by decide) rfl (fun ls hl => ?_)
  refine lv_aload_n hx hb dX8_week_12 rfl (lv_at hl 1 rfl) ?_
  refine va_get (D := Z.1) (ci := 8) (v := .ref a1) (C := RX8) (T := TX8) (N := 17) hx hb hts hin8 hown hK hP 0 rfl rfl 0 (by decide) (hts (.fieldLink RX8 10 "HalfAsked" "folk" "LHalfAsked$Folk;") (by decide +kernel)) (fun _ h9 => h9) rfl dX8_week_13 ?_
  refine lv_iconst (v := 0) hx hb dX8_week_16 (by decide) ?_
  refine va_put (D := Z.1) (ci := 0) (v := .int 0) (ty := .int) (C := RX0) (T := TX0) (N := 5) hx hb hts hin0 tyX0 tyX0_ok nmX0 hown hK hP hD hS 1 rfl rfl 2 (by decide) (hts (.fieldLink RX8 129 "HalfAsked$Folk" "asked" "I") (by decide +kernel)) (fun _ h9 => h9) rfl (by decide +kernel) rfl rfl (Nat.le_of_ble_eq_true rfl) dX8_week_17 (fun H locs hP hD hS => ?_)
  have hP : va_P Z.1 vwCl [(h0, .inr (8, [.ref a1, .ref a2, .ref a3, .ref a4, .ref a5, .int 0, .ref a6, .ref a7, .ref a8, .ref a9, .ref a10, .ref a11, .ref a12, .ref a13, .int 9, .int 0, .int 0])), (a1, .inr (0, [.int 0, .int 16510910, .int 0, .ref fk, .ref fq]))] H := hP
  have hD : va_D A [(h0, .inr (8, [.ref a1, .ref a2, .ref a3, .ref a4, .ref a5, .int 0, .ref a6, .ref a7, .ref a8, .ref a9, .ref a10, .ref a11, .ref a12, .ref a13, .int 9, .int 0, .int 0])), (a1, .inr (0, [.int 0, .int 16510910, .int 0, .ref fk, .ref fq]))] := hD
  refine lv_iload_n hx hb dX8_week_20 rfl (lv_at hl 0 rfl) ?_
  exact W.iret (v := 0) hx hb hr (fun t ht hW => ⟨⟨0, (), rfl, rfl, trivial⟩, hS.F ht⟩) hS.2.2 dX8_week_21
set_option maxHeartbeats 4000000 in
set_option maxRecDepth 100000 in
theorem c_X8_run (l : Launch) (Z : gZ) (sz : Nat) (h0 : Nat) (a1 : Nat) (a2 : Nat) (a3 : Nat) (a4 : Nat) (a5 : Nat) (a6 : Nat) (a7 : Nat) (a8 : Nat) (a9 : Nat) (a10 : Nat) (a11 : Nat) (a12 : Nat) (a13 : Nat) (pk : Nat) (pq : Nat)  : Met l yX8_run wsX8_run ({ frames := 1, cells := 0, slots := 0, locals := 20 }) (va_Pc [.ref h0] (fun U => U.heap.size = sz ∧ va_P Z.1 vwCl [(h0, .inr (8, [.ref a1, .ref a2, .ref a3, .ref a4, .ref a5, .int 0, .ref a6, .ref a7, .ref a8, .ref a9, .ref a10, .ref a11, .ref a12, .ref a13, .int 9, .int 0, .int 0])), (a2, .inr (2, [.int 0, .int 0, .ref pk, .ref pq]))] U.heap ∧ va_K Z.1 vwCl (gT Z) U ∧ va_D (fun _ => True) [(h0, .inr (8, [.ref a1, .ref a2, .ref a3, .ref a4, .ref a5, .int 0, .ref a6, .ref a7, .ref a8, .ref a9, .ref a10, .ref a11, .ref a12, .ref a13, .int 9, .int 0, .int 0])), (a2, .inr (2, [.int 0, .int 0, .ref pk, .ref pq]))])) (va_Qi (fun (r : Int32) (u : Unit) => r = 0) (fun (u : Unit) (t : State) => True) (va_A [(h0, .inr (8, [.ref a1, .ref a2, .ref a3, .ref a4, .ref a5, .int 0, .ref a6, .ref a7, .ref a8, .ref a9, .ref a10, .ref a11, .ref a12, .ref a13, .int 9, .int 0, .int 0])), (a2, .inr (2, [.int 0, .int 0, .ref pk, .ref pq]))] sz)) 0 0 (va_A [(h0, .inr (8, [.ref a1, .ref a2, .ref a3, .ref a4, .ref a5, .int 0, .ref a6, .ref a7, .ref a8, .ref a9, .ref a10, .ref a11, .ref a12, .ref a13, .int 9, .int 0, .int 0])), (a2, .inr (2, [.int 0, .int 0, .ref pk, .ref pq]))] sz) := by
  refine Met.ofW (cc := cX8_run) (maxL := 2) (ret := (some .int)) (by decide) rfl ?_
  intro p e s m args below meth c s₁ B hml hv
  obtain ⟨rfl, hsz, hP, hK, hD0⟩ := hv
  have hx := B.exec
  have hb := B.bytes
  have hr := B.returns
  have hts := atoms_spec (ws := wsX8_run) B.pre
  have hown : s.vm.findClass RX8 = some m.cls := findClass_of_methodNamed B.named
  have hlocks := B.notSynchronized
  subst hsz
  have hin2 : ∀ w ∈ wsX20, w ∈ wsX8_run := by decide +kernel
  have hin8 : ∀ w ∈ wsX80, w ∈ wsX8_run := by decide +kernel
  have hD := hD0.self (sz := s.heap.size)
  generalize hAe : va_A [(h0, .inr (8, [.ref a1, .ref a2, .ref a3, .ref a4, .ref a5, .int 0, .ref a6, .ref a7, .ref a8, .ref a9, .ref a10, .ref a11, .ref a12, .ref a13, .int 9, .int 0, .int 0])), (a2, .inr (2, [.int 0, .int 0, .ref pk, .ref pq]))] s.heap.size = A at hD ⊢
  have hA : ∀ q : Nat, s.heap.size ≤ q → A q := fun q h => by rw [← hAe]; exact Or.inr h
  have hS : va_S A s.heap s.heap [] := va_S.rf
  have hP : va_P Z.1 vwCl [(h0, .inr (8, [.ref a1, .ref a2, .ref a3, .ref a4, .ref a5, .int 0, .ref a6, .ref a7, .ref a8, .ref a9, .ref a10, .ref a11, .ref a12, .ref a13, .int 9, .int 0, .int 0])), (a2, .inr (2, [.int 0, .int 0, .ref pk, .ref pq]))] s.heap := hP
  have hl := lv_entry ([.ref h0]) (n := 2) (Nat.le_of_ble_eq_true rfl)
  rw [lg_entry_eq]
  generalize (lg_sl ([.ref h0]) ++ List.replicate (2 - (lg_sl ([.ref h0])).length) Slot.unset).toArray = ls at hl ⊢
  have hl : lv_has ls 2 [(0, .ref h0)] := hl
  refine lv_aload_n hx hb dX8_run_0 rfl (lv_at hl 0 rfl) ?_
  have hPc := hP.sub (ws' := [(h0, .inr (8, [.ref a1, .ref a2, .ref a3, .ref a4, .ref a5, .int 0, .ref a6, .ref a7, .ref a8, .ref a9, .ref a10, .ref a11, .ref a12, .ref a13, .int 9, .int 0, .int 0]))]) [0] rfl
  have hDc := hD.sub (ws' := [(h0, .inr (8, [.ref a1, .ref a2, .ref a3, .ref a4, .ref a5, .int 0, .ref a6, .ref a7, .ref a8, .ref a9, .ref a10, .ref a11, .ref a12, .ref a13, .int 9, .int 0, .int 0]))]) [0] (by decide) rfl
  have hFc := va_free (wc := [(h0, .inr (8, [.ref a1, .ref a2, .ref a3, .ref a4, .ref a5, .int 0, .ref a6, .ref a7, .ref a8, .ref a9, .ref a10, .ref a11, .ref a12, .ref a13, .int 9, .int 0, .int 0]))]) hD hS hA [0] rfl
  refine va_callv (va_runV (As := []) (rest := []) ⟨hx, hb, hml, hown, hts⟩ (c_X8_forgetFound l Z s.heap.size h0 a1 a2 a3 a4 a5 a6 a7 a8 a9 a10 a11 a12 a13 0 9 0 0) (cwV 0 hts gX8_run_X8_forgetFound rfl rfl rfl (by decide +kernel) ⟨Nat.le_of_ble_eq_true rfl, Nat.le_of_ble_eq_true rfl⟩) ⟨fun a U g mk q => by obtain ⟨q0, q1, qP, qK, qD⟩ := q; exact ⟨q0, q1, qP, va_K.moved (u := U) (U := U.calling g mk a) (Vm.Alike.refl U.vm) qK, qD⟩, va_recv hK hPc (ci := 8) (q0 := 0) rfl rfl, fun U hU hW => ⟨rfl, by rw [hU], by rw [hU]; exact hPc, va_K.moved hW.alike hK, hDc.weaken (fun _ _ _ _ => trivial)⟩⟩ rfl rfl hl.1 rfl (lv_room (Nat.le_of_ble_eq_true rfl)) dX8_run_1 ⟨Nat.le_of_ble_eq_true rfl, Nat.le_of_ble_eq_true rfl⟩) hS (fun q _ h => hFc q h) hFc (fun u t H1 locs ht hvm hw hB hz1 hk1 hS => ?_)
  obtain ⟨hP1, hD1⟩ := hB
  rw [ht] at hP1
  obtain ⟨hP, hD⟩ := va_join (wr := [(a2, .inr (2, [.int 0, .int 0, .ref pk, .ref pq]))]) (w1 := [(h0, .inr (8, [.ref a1, .ref a2, .ref a3, .ref a4, .ref a5, .int 0, .ref a6, .ref a7, .ref a8, .ref a9, .ref a10, .ref a11, .ref a12, .ref a13, .int 9, .int 0, .int 0]))]) hP hD [0] [1] rfl rfl (by decide) (by decide) hk1 hFc hP1 hD1
  clear hPc hDc hP1 hD1 hk1 hz1 hFc ht hvm
  generalize H1 = H at hP hS ⊢
  have hP : va_P Z.1 vwCl [(a2, .inr (2, [.int 0, .int 0, .ref pk, .ref pq])), (h0, .inr (8, [.ref a1, .ref a2, .ref a3, .ref a4, .ref a5, .int 0, .ref a6, .ref a7, .ref a8, .ref a9, .ref a10, .ref a11, .ref a12, .ref a13, .int 9, .int 0, .int 0]))] H := hP
  have hD : va_D A [(a2, .inr (2, [.int 0, .int 0, .ref pk, .ref pq])), (h0, .inr (8, [.ref a1, .ref a2, .ref a3, .ref a4, .ref a5, .int 0, .ref a6, .ref a7, .ref a8, .ref a9, .ref a10, .ref a11, .ref a12, .ref a13, .int 9, .int 0, .int 0]))] := hD
  refine lv_iconst (v := 0) hx hb dX8_run_4 (by decide) ?_
  refine lv_istore_n (lv' := [(1, .int 0), (0, .ref h0)]) hx hb dX8_run_5 rfl hl (by decide) rfl (fun ls hl => ?_)
  refine lv_iload_n hx hb dX8_run_6 rfl (lv_at hl 0 rfl) ?_
  refine lv_aload_n hx hb dX8_run_7 rfl (lv_at hl 1 rfl) ?_
  refine va_get (D := Z.1) (ci := 8) (v := .ref a2) (C := RX8) (T := TX8) (N := 17) hx hb hts hin8 hown hK hP 1 rfl rfl 1 (by decide) (hts (.fieldLink RX8 19 "HalfAsked" "plan" "LHalfAsked$Plan;") (by decide +kernel)) (fun _ h9 => h9) rfl dX8_run_8 ?_
  refine va_get (D := Z.1) (ci := 2) (v := .int 0) (C := RX2) (T := TX2) (N := 4) hx hb hts hin2 hown hK hP 0 rfl rfl 0 (by decide) (hts (.fieldLink RX8 175 "HalfAsked$Plan" "size" "I") (by decide +kernel)) (fun _ h9 => h9) rfl dX8_run_11 ?_
  refine lv_icmp_ge (tgt := 65) hx hb dX8_run_14 (by decide) (fun _ => ?_) (fun c9 => absurd c9 (by decide))
  refine lv_iload_n hx hb dX8_run_65 rfl (lv_at hl 0 rfl) ?_
  exact W.iret (v := 0) hx hb hr (fun t ht hW => ⟨⟨0, (), rfl, rfl, trivial⟩, hS.F ht⟩) hS.2.2 dX8_run_66
set_option maxHeartbeats 4000000 in
set_option maxRecDepth 100000 in
theorem c_X8_count (l : Launch) (Z : gZ) (sz : Nat) (h0 : Nat) (a1 : Nat) (a2 : Nat) (a3 : Nat) (a4 : Nat) (a5 : Nat) (a6 : Nat) (a7 : Nat) (a8 : Nat) (a9 : Nat) (a10 : Nat) (a11 : Nat) (a12 : Nat) (a13 : Nat) (fk : Nat) (fq : Nat) (pk : Nat) (pq : Nat) (a : Int32)  : Met l yX8_count wsX8_count ({ frames := 2, cells := 0, slots := 0, locals := 40 }) (va_Pc [.ref h0, .int a] (fun U => U.heap.size = sz ∧ va_P Z.1 vwCl [(h0, .inr (8, [.ref a1, .ref a2, .ref a3, .ref a4, .ref a5, .int 0, .ref a6, .ref a7, .ref a8, .ref a9, .ref a10, .ref a11, .ref a12, .ref a13, .int 9, .int 0, .int 0])), (a1, .inr (0, [.int 0, .int 16510910, .int 0, .ref fk, .ref fq])), (a2, .inr (2, [.int 0, .int 0, .ref pk, .ref pq]))] U.heap ∧ va_K Z.1 vwCl (gT Z) U ∧ va_D (fun _ => True) [(h0, .inr (8, [.ref a1, .ref a2, .ref a3, .ref a4, .ref a5, .int 0, .ref a6, .ref a7, .ref a8, .ref a9, .ref a10, .ref a11, .ref a12, .ref a13, .int 9, .int 0, .int 0])), (a1, .inr (0, [.int 0, .int 16510910, .int 0, .ref fk, .ref fq])), (a2, .inr (2, [.int 0, .int 0, .ref pk, .ref pq]))])) (va_Qi (fun (r : Int32) (u : Unit) => r = (if a = 0 then (0 : Int32) else (if a = 1 then (0 : Int32) else (if a = 2 then (0 : Int32) else (if a = 3 then (0 : Int32) else (if a = 4 then (0 : Int32) else (-1 : Int32))))))) (fun (u : Unit) (t : State) => True) (va_A [(h0, .inr (8, [.ref a1, .ref a2, .ref a3, .ref a4, .ref a5, .int 0, .ref a6, .ref a7, .ref a8, .ref a9, .ref a10, .ref a11, .ref a12, .ref a13, .int 9, .int 0, .int 0])), (a1, .inr (0, [.int 0, .int 16510910, .int 0, .ref fk, .ref fq])), (a2, .inr (2, [.int 0, .int 0, .ref pk, .ref pq]))] sz)) 0 0 (va_A [(h0, .inr (8, [.ref a1, .ref a2, .ref a3, .ref a4, .ref a5, .int 0, .ref a6, .ref a7, .ref a8, .ref a9, .ref a10, .ref a11, .ref a12, .ref a13, .int 9, .int 0, .int 0])), (a1, .inr (0, [.int 0, .int 16510910, .int 0, .ref fk, .ref fq])), (a2, .inr (2, [.int 0, .int 0, .ref pk, .ref pq]))] sz) := by
  refine Met.ofW (cc := cX8_count) (maxL := 2) (ret := (some .int)) (by decide) rfl ?_
  intro p e s m args below meth c s₁ B hml hv
  obtain ⟨rfl, hsz, hP, hK, hD0⟩ := hv
  have hx := B.exec
  have hb := B.bytes
  have hr := B.returns
  have hts := atoms_spec (ws := wsX8_count) B.pre
  have hown : s.vm.findClass RX8 = some m.cls := findClass_of_methodNamed B.named
  have hlocks := B.notSynchronized
  subst hsz
  have hin0 : ∀ w ∈ wsX00, w ∈ wsX8_count := by decide +kernel
  have hin2 : ∀ w ∈ wsX20, w ∈ wsX8_count := by decide +kernel
  have hin8 : ∀ w ∈ wsX80, w ∈ wsX8_count := by decide +kernel
  have hD := hD0.self (sz := s.heap.size)
  generalize hAe : va_A [(h0, .inr (8, [.ref a1, .ref a2, .ref a3, .ref a4, .ref a5, .int 0, .ref a6, .ref a7, .ref a8, .ref a9, .ref a10, .ref a11, .ref a12, .ref a13, .int 9, .int 0, .int 0])), (a1, .inr (0, [.int 0, .int 16510910, .int 0, .ref fk, .ref fq])), (a2, .inr (2, [.int 0, .int 0, .ref pk, .ref pq]))] s.heap.size = A at hD ⊢
  have hA : ∀ q : Nat, s.heap.size ≤ q → A q := fun q h => by rw [← hAe]; exact Or.inr h
  have hS : va_S A s.heap s.heap [] := va_S.rf
  have hP : va_P Z.1 vwCl [(h0, .inr (8, [.ref a1, .ref a2, .ref a3, .ref a4, .ref a5, .int 0, .ref a6, .ref a7, .ref a8, .ref a9, .ref a10, .ref a11, .ref a12, .ref a13, .int 9, .int 0, .int 0])), (a1, .inr (0, [.int 0, .int 16510910, .int 0, .ref fk, .ref fq])), (a2, .inr (2, [.int 0, .int 0, .ref pk, .ref pq]))] s.heap := hP
  have hl := lv_entry ([.ref h0, .int a]) (n := 2) (Nat.le_of_ble_eq_true rfl)
  rw [lg_entry_eq]
  generalize (lg_sl ([.ref h0, .int a]) ++ List.replicate (2 - (lg_sl ([.ref h0, .int a])).length) Slot.unset).toArray = ls at hl ⊢
  have hl : lv_has ls 2 [(0, .ref h0), (1, .int a)] := hl
  refine lv_iload_n hx hb dX8_count_0 rfl (lv_at hl 1 rfl) ?_
  rcases Decidable.em (a = 0) with c_1_0 | c_1_0
  · refine lv_tableIn (tgt := 36) (off := 35) hx hb dX8_count_1 (by rw [c_1_0]; decide) (by rw [c_1_0]; decide) (by rw [c_1_0]; decide) (by decide) ?_
    refine lv_aload_n hx hb dX8_count_36 rfl (lv_at hl 0 rfl) ?_
    refine va_get (D := Z.1) (ci := 8) (v := .ref a1) (C := RX8) (T := TX8) (N := 17) hx hb hts hin8 hown hK hP 0 rfl rfl 0 (by decide) (hts (.fieldLink RX8 10 "HalfAsked" "folk" "LHalfAsked$Folk;") (by decide +kernel)) (fun _ h9 => h9) rfl dX8_count_37 ?_
    refine va_get (D := Z.1) (ci := 0) (v := .int 0) (C := RX0) (T := TX0) (N := 5) hx hb hts hin0 hown hK hP 1 rfl rfl 0 (by decide) (hts (.fieldLink RX8 98 "HalfAsked$Folk" "size" "I") (by decide +kernel)) (fun _ h9 => h9) rfl dX8_count_40 ?_
    exact W.iret (v := 0) hx hb hr (fun t ht hW => ⟨⟨0, (), rfl, (by rw [if_pos c_1_0]), trivial⟩, hS.F ht⟩) hS.2.2 dX8_count_43
  · skip
    rcases Decidable.em (a = 1) with c_1_1 | c_1_1
    · refine lv_tableIn (tgt := 44) (off := 43) hx hb dX8_count_1 (by rw [c_1_1]; decide) (by rw [c_1_1]; decide) (by rw [c_1_1]; decide) (by decide) ?_
      refine lv_aload_n hx hb dX8_count_44 rfl (lv_at hl 0 rfl) ?_
      refine va_get (D := Z.1) (ci := 8) (v := .ref a1) (C := RX8) (T := TX8) (N := 17) hx hb hts hin8 hown hK hP 0 rfl rfl 0 (by decide) (hts (.fieldLink RX8 10 "HalfAsked" "folk" "LHalfAsked$Folk;") (by decide +kernel)) (fun _ h9 => h9) rfl dX8_count_45 ?_
      have hPc := hP.sub (ws' := [(a1, .inr (0, [.int 0, .int 16510910, .int 0, .ref fk, .ref fq]))]) [1] rfl
      have hDc := hD.sub (ws' := [(a1, .inr (0, [.int 0, .int 16510910, .int 0, .ref fk, .ref fq]))]) [1] (by decide) rfl
      have hFc := va_free (wc := [(a1, .inr (0, [.int 0, .int 16510910, .int 0, .ref fk, .ref fq]))]) hD hS hA [1] rfl
      refine va_calli (va_runV (As := []) (rest := []) ⟨hx, hb, hml, hown, hts⟩ (c_X0_penceOfAll l Z s.heap.size a1 16510910 0 fk fq) (cwV 0 hts gX8_count_X0_penceOfAll rfl rfl rfl (by decide +kernel) ⟨Nat.le_of_ble_eq_true rfl, Nat.le_of_ble_eq_true rfl⟩) ⟨fun a U g mk q => by obtain ⟨q0, q1, qP, qK, qD⟩ := q; exact ⟨q0, q1, qP, va_K.moved (u := U) (U := U.calling g mk a) (Vm.Alike.refl U.vm) qK, qD⟩, va_recv hK hPc (ci := 0) (q0 := 0) rfl rfl, fun U hU hW => ⟨rfl, by rw [hU], by rw [hU]; exact hPc, va_K.moved hW.alike hK, hDc.weaken (fun _ _ _ _ => trivial)⟩⟩ rfl rfl hl.1 rfl (lv_room (Nat.le_of_ble_eq_true rfl)) dX8_count_48 ⟨Nat.le_of_ble_eq_true rfl, Nat.le_of_ble_eq_true rfl⟩) hS (fun q _ h => hFc q h) hFc (fun r_2 u t H1 locs ht hvm hw hB hz1 hk1 hS => ?_)
      subst hw
      obtain ⟨hP1, hD1⟩ := hB
      rw [ht] at hP1
      obtain ⟨hP, hD⟩ := va_join (wr := [(h0, .inr (8, [.ref a1, .ref a2, .ref a3, .ref a4, .ref a5, .int 0, .ref a6, .ref a7, .ref a8, .ref a9, .ref a10, .ref a11, .ref a12, .ref a13, .int 9, .int 0, .int 0])), (a2, .inr (2, [.int 0, .int 0, .ref pk, .ref pq]))]) (w1 := [(a1, .inr (0, [.int 0, .int 16510910, .int 0, .ref fk, .ref fq]))]) hP hD [1] [0, 2] rfl rfl (by decide) (by decide) hk1 hFc hP1 hD1
      clear hPc hDc hP1 hD1 hk1 hz1 hFc ht hvm
      generalize H1 = H at hP hS ⊢
      have hP : va_P Z.1 vwCl [(h0, .inr (8, [.ref a1, .ref a2, .ref a3, .ref a4, .ref a5, .int 0, .ref a6, .ref a7, .ref a8, .ref a9, .ref a10, .ref a11, .ref a12, .ref a13, .int 9, .int 0, .int 0])), (a2, .inr (2, [.int 0, .int 0, .ref pk, .ref pq])), (a1, .inr (0, [.int 0, .int 16510910, .int 0, .ref fk, .ref fq]))] H := hP
      have hD : va_D A [(h0, .inr (8, [.ref a1, .ref a2, .ref a3, .ref a4, .ref a5, .int 0, .ref a6, .ref a7, .ref a8, .ref a9, .ref a10, .ref a11, .ref a12, .ref a13, .int 9, .int 0, .int 0])), (a2, .inr (2, [.int 0, .int 0, .ref pk, .ref pq])), (a1, .inr (0, [.int 0, .int 16510910, .int 0, .ref fk, .ref fq]))] := hD
      exact W.iret (v := 0) hx hb hr (fun t ht hW => ⟨⟨0, (), rfl, (by rw [if_neg c_1_0, if_pos c_1_1]), trivial⟩, hS.F ht⟩) hS.2.2 dX8_count_51
    · skip
      rcases Decidable.em (a = 2) with c_1_2 | c_1_2
      · refine lv_tableIn (tgt := 52) (off := 51) hx hb dX8_count_1 (by rw [c_1_2]; decide) (by rw [c_1_2]; decide) (by rw [c_1_2]; decide) (by decide) ?_
        refine lv_aload_n hx hb dX8_count_52 rfl (lv_at hl 0 rfl) ?_
        refine va_get (D := Z.1) (ci := 8) (v := .ref a1) (C := RX8) (T := TX8) (N := 17) hx hb hts hin8 hown hK hP 0 rfl rfl 0 (by decide) (hts (.fieldLink RX8 10 "HalfAsked" "folk" "LHalfAsked$Folk;") (by decide +kernel)) (fun _ h9 => h9) rfl dX8_count_53 ?_
        have hPc := hP.sub (ws' := [(a1, .inr (0, [.int 0, .int 16510910, .int 0, .ref fk, .ref fq]))]) [1] rfl
        have hDc := hD.sub (ws' := [(a1, .inr (0, [.int 0, .int 16510910, .int 0, .ref fk, .ref fq]))]) [1] (by decide) rfl
        have hFc := va_free (wc := [(a1, .inr (0, [.int 0, .int 16510910, .int 0, .ref fk, .ref fq]))]) hD hS hA [1] rfl
        refine va_calli (va_runV (As := []) (rest := []) ⟨hx, hb, hml, hown, hts⟩ (c_X0_askings l Z s.heap.size a1 0 16510910 fk fq) (cwV 0 hts gX8_count_X0_askings rfl rfl rfl (by decide +kernel) ⟨Nat.le_of_ble_eq_true rfl, Nat.le_of_ble_eq_true rfl⟩) ⟨fun a U g mk q => by obtain ⟨q0, q1, qP, qK, qD⟩ := q; exact ⟨q0, q1, qP, va_K.moved (u := U) (U := U.calling g mk a) (Vm.Alike.refl U.vm) qK, qD⟩, va_recv hK hPc (ci := 0) (q0 := 0) rfl rfl, fun U hU hW => ⟨rfl, by rw [hU], by rw [hU]; exact hPc, va_K.moved hW.alike hK, hDc.weaken (fun _ _ _ _ => trivial)⟩⟩ rfl rfl hl.1 rfl (lv_room (Nat.le_of_ble_eq_true rfl)) dX8_count_56 ⟨Nat.le_of_ble_eq_true rfl, Nat.le_of_ble_eq_true rfl⟩) hS (fun q _ h => hFc q h) hFc (fun r_3 u t H1 locs ht hvm hw hB hz1 hk1 hS => ?_)
        subst hw
        obtain ⟨hP1, hD1⟩ := hB
        rw [ht] at hP1
        obtain ⟨hP, hD⟩ := va_join (wr := [(h0, .inr (8, [.ref a1, .ref a2, .ref a3, .ref a4, .ref a5, .int 0, .ref a6, .ref a7, .ref a8, .ref a9, .ref a10, .ref a11, .ref a12, .ref a13, .int 9, .int 0, .int 0])), (a2, .inr (2, [.int 0, .int 0, .ref pk, .ref pq]))]) (w1 := [(a1, .inr (0, [.int 0, .int 16510910, .int 0, .ref fk, .ref fq]))]) hP hD [1] [0, 2] rfl rfl (by decide) (by decide) hk1 hFc hP1 hD1
        clear hPc hDc hP1 hD1 hk1 hz1 hFc ht hvm
        generalize H1 = H at hP hS ⊢
        have hP : va_P Z.1 vwCl [(h0, .inr (8, [.ref a1, .ref a2, .ref a3, .ref a4, .ref a5, .int 0, .ref a6, .ref a7, .ref a8, .ref a9, .ref a10, .ref a11, .ref a12, .ref a13, .int 9, .int 0, .int 0])), (a2, .inr (2, [.int 0, .int 0, .ref pk, .ref pq])), (a1, .inr (0, [.int 0, .int 16510910, .int 0, .ref fk, .ref fq]))] H := hP
        have hD : va_D A [(h0, .inr (8, [.ref a1, .ref a2, .ref a3, .ref a4, .ref a5, .int 0, .ref a6, .ref a7, .ref a8, .ref a9, .ref a10, .ref a11, .ref a12, .ref a13, .int 9, .int 0, .int 0])), (a2, .inr (2, [.int 0, .int 0, .ref pk, .ref pq])), (a1, .inr (0, [.int 0, .int 16510910, .int 0, .ref fk, .ref fq]))] := hD
        exact W.iret (v := 0) hx hb hr (fun t ht hW => ⟨⟨0, (), rfl, (by rw [if_neg c_1_0, if_neg c_1_1, if_pos c_1_2]), trivial⟩, hS.F ht⟩) hS.2.2 dX8_count_59
      · skip
        rcases Decidable.em (a = 3) with c_1_3 | c_1_3
        · refine lv_tableIn (tgt := 60) (off := 59) hx hb dX8_count_1 (by rw [c_1_3]; decide) (by rw [c_1_3]; decide) (by rw [c_1_3]; decide) (by decide) ?_
          refine lv_aload_n hx hb dX8_count_60 rfl (lv_at hl 0 rfl) ?_
          refine va_get (D := Z.1) (ci := 8) (v := .ref a2) (C := RX8) (T := TX8) (N := 17) hx hb hts hin8 hown hK hP 0 rfl rfl 1 (by decide) (hts (.fieldLink RX8 19 "HalfAsked" "plan" "LHalfAsked$Plan;") (by decide +kernel)) (fun _ h9 => h9) rfl dX8_count_61 ?_
          refine va_get (D := Z.1) (ci := 2) (v := .int 0) (C := RX2) (T := TX2) (N := 4) hx hb hts hin2 hown hK hP 2 rfl rfl 0 (by decide) (hts (.fieldLink RX8 175 "HalfAsked$Plan" "size" "I") (by decide +kernel)) (fun _ h9 => h9) rfl dX8_count_64 ?_
          exact W.iret (v := 0) hx hb hr (fun t ht hW => ⟨⟨0, (), rfl, (by rw [if_neg c_1_0, if_neg c_1_1, if_neg c_1_2, if_pos c_1_3]), trivial⟩, hS.F ht⟩) hS.2.2 dX8_count_67
        · skip
          rcases Decidable.em (a = 4) with c_1_4 | c_1_4
          · refine lv_tableIn (tgt := 68) (off := 67) hx hb dX8_count_1 (by rw [c_1_4]; decide) (by rw [c_1_4]; decide) (by rw [c_1_4]; decide) (by decide) ?_
            refine lv_aload_n hx hb dX8_count_68 rfl (lv_at hl 0 rfl) ?_
            refine va_get (D := Z.1) (ci := 8) (v := .ref a2) (C := RX8) (T := TX8) (N := 17) hx hb hts hin8 hown hK hP 0 rfl rfl 1 (by decide) (hts (.fieldLink RX8 19 "HalfAsked" "plan" "LHalfAsked$Plan;") (by decide +kernel)) (fun _ h9 => h9) rfl dX8_count_69 ?_
            refine va_get (D := Z.1) (ci := 2) (v := .int 0) (C := RX2) (T := TX2) (N := 4) hx hb hts hin2 hown hK hP 2 rfl rfl 1 (by decide) (hts (.fieldLink RX8 176 "HalfAsked$Plan" "ends" "I") (by decide +kernel)) (fun _ h9 => h9) rfl dX8_count_72 ?_
            have hPc := hP.sub (ws' := []) [] rfl
            have hDc := hD.sub (ws' := []) [] (by decide) rfl
            have hFc := va_free (wc := []) hD hS hA [] rfl
            refine va_calli (va_runS (As := [.int 0]) (rest := []) ⟨hx, hb, hml, hown, hts⟩ (c_J6_bitCount_0f7a4 l Z s.heap.size ) (va_cwS 1 hts gX8_count_J6_bitCount_0f7a4 rfl rfl rfl (by decide +kernel) ⟨Nat.le_of_ble_eq_true rfl, Nat.le_of_ble_eq_true rfl⟩) ⟨fun a U g mk q => by obtain ⟨q0, q1, qP, qK, qD⟩ := q; exact ⟨q0, q1, qP, va_K.moved (u := U) (U := U.calling g mk a) (Vm.Alike.refl U.vm) qK, qD⟩, fun U hU hW => ⟨rfl, by rw [hU], by rw [hU]; exact hPc, va_K.moved hW.alike hK, hDc.weaken (fun _ _ _ _ => trivial)⟩⟩ rfl rfl hl.1 rfl (lv_room (Nat.le_of_ble_eq_true rfl)) dX8_count_75 ⟨Nat.le_of_ble_eq_true rfl, Nat.le_of_ble_eq_true rfl⟩) hS (fun q _ h => hFc q h) hFc (fun r_4 u t H1 locs ht hvm hw hB hz1 hk1 hS => ?_)
            subst hw
            have hP1 : va_P Z.1 vwCl [] H1 := fun k q h => by simp at h
            have hD1 : va_D (va_A [] s.heap.size) [] := ⟨fun i j p q h => by simp at h, fun k q h => by simp at h⟩
            obtain ⟨hP, hD⟩ := va_join (wr := [(h0, .inr (8, [.ref a1, .ref a2, .ref a3, .ref a4, .ref a5, .int 0, .ref a6, .ref a7, .ref a8, .ref a9, .ref a10, .ref a11, .ref a12, .ref a13, .int 9, .int 0, .int 0])), (a1, .inr (0, [.int 0, .int 16510910, .int 0, .ref fk, .ref fq])), (a2, .inr (2, [.int 0, .int 0, .ref pk, .ref pq]))]) (w1 := []) hP hD [] [0, 1, 2] rfl rfl (by decide) (by decide) hk1 hFc hP1 hD1
            clear hPc hDc hP1 hD1 hk1 hz1 hFc ht hvm
            generalize H1 = H at hP hS ⊢
            have hP : va_P Z.1 vwCl [(h0, .inr (8, [.ref a1, .ref a2, .ref a3, .ref a4, .ref a5, .int 0, .ref a6, .ref a7, .ref a8, .ref a9, .ref a10, .ref a11, .ref a12, .ref a13, .int 9, .int 0, .int 0])), (a1, .inr (0, [.int 0, .int 16510910, .int 0, .ref fk, .ref fq])), (a2, .inr (2, [.int 0, .int 0, .ref pk, .ref pq]))] H := hP
            have hD : va_D A [(h0, .inr (8, [.ref a1, .ref a2, .ref a3, .ref a4, .ref a5, .int 0, .ref a6, .ref a7, .ref a8, .ref a9, .ref a10, .ref a11, .ref a12, .ref a13, .int 9, .int 0, .int 0])), (a1, .inr (0, [.int 0, .int 16510910, .int 0, .ref fk, .ref fq])), (a2, .inr (2, [.int 0, .int 0, .ref pk, .ref pq]))] := hD
            exact W.iret (v := 0) hx hb hr (fun t ht hW => ⟨⟨0, (), rfl, (by rw [if_neg c_1_0, if_neg c_1_1, if_neg c_1_2, if_neg c_1_3, if_pos c_1_4]), trivial⟩, hS.F ht⟩) hS.2.2 dX8_count_78
          · skip
            refine lv_tableOut (tgt := 79) hx hb dX8_count_1 (z_out5 c_1_0 c_1_1 c_1_2 c_1_3 c_1_4) (by decide) ?_
            refine lv_iconst (v := (-1)) hx hb dX8_count_79 (by decide) ?_
            exact W.iret (v := (-1)) hx hb hr (fun t ht hW => ⟨⟨(-1), (), rfl, (by rw [if_neg c_1_0, if_neg c_1_1, if_neg c_1_2, if_neg c_1_3, if_neg c_1_4]), trivial⟩, hS.F ht⟩) hS.2.2 dX8_count_80
set_option maxHeartbeats 4000000 in
set_option maxRecDepth 100000 in
theorem c_X8_order (l : Launch) (Z : gZ) (sz : Nat) (h0 : Nat) (a1 : Nat) (a2 : Nat) (a3 : Nat) (a4 : Nat) (a5 : Nat) (a6 : Nat) (a7 : Nat) (a8 : Nat) (a9 : Nat) (a10 : Nat) (a11 : Nat) (a12 : Nat) (a13 : Nat) (fk : Nat) (fq : Nat) (pk : Nat) (pq : Nat) (a : Int32)  : Met l yX8_order wsX8_order ({ frames := 0, cells := 0, slots := 0, locals := 0 }) (va_Pc [.ref h0, .int a] (fun U => U.heap.size = sz ∧ va_P Z.1 vwCl [(h0, .inr (8, [.ref a1, .ref a2, .ref a3, .ref a4, .ref a5, .int 0, .ref a6, .ref a7, .ref a8, .ref a9, .ref a10, .ref a11, .ref a12, .ref a13, .int 9, .int 0, .int 0])), (a1, .inr (0, [.int 0, .int 16510910, .int 0, .ref fk, .ref fq])), (a2, .inr (2, [.int 0, .int 0, .ref pk, .ref pq]))] U.heap ∧ va_K Z.1 vwCl (gT Z) U ∧ va_D (fun _ => True) [(h0, .inr (8, [.ref a1, .ref a2, .ref a3, .ref a4, .ref a5, .int 0, .ref a6, .ref a7, .ref a8, .ref a9, .ref a10, .ref a11, .ref a12, .ref a13, .int 9, .int 0, .int 0])), (a1, .inr (0, [.int 0, .int 16510910, .int 0, .ref fk, .ref fq])), (a2, .inr (2, [.int 0, .int 0, .ref pk, .ref pq]))])) (va_Qi (fun (r : Int32) (u : Unit) => r = (if a < (-1) then (-1 : Int32) else (if a < 6 then (-4 : Int32) else (-1 : Int32)))) (fun (u : Unit) (t : State) => True) (va_A [(h0, .inr (8, [.ref a1, .ref a2, .ref a3, .ref a4, .ref a5, .int 0, .ref a6, .ref a7, .ref a8, .ref a9, .ref a10, .ref a11, .ref a12, .ref a13, .int 9, .int 0, .int 0])), (a1, .inr (0, [.int 0, .int 16510910, .int 0, .ref fk, .ref fq])), (a2, .inr (2, [.int 0, .int 0, .ref pk, .ref pq]))] sz)) 0 0 (va_A [(h0, .inr (8, [.ref a1, .ref a2, .ref a3, .ref a4, .ref a5, .int 0, .ref a6, .ref a7, .ref a8, .ref a9, .ref a10, .ref a11, .ref a12, .ref a13, .int 9, .int 0, .int 0])), (a1, .inr (0, [.int 0, .int 16510910, .int 0, .ref fk, .ref fq])), (a2, .inr (2, [.int 0, .int 0, .ref pk, .ref pq]))] sz) := by
  refine Met.ofW (cc := cX8_order) (maxL := 2) (ret := (some .int)) (by decide) rfl ?_
  intro p e s m args below meth c s₁ B hml hv
  obtain ⟨rfl, hsz, hP, hK, hD0⟩ := hv
  have hx := B.exec
  have hb := B.bytes
  have hr := B.returns
  have hts := atoms_spec (ws := wsX8_order) B.pre
  have hown : s.vm.findClass RX8 = some m.cls := findClass_of_methodNamed B.named
  have hlocks := B.notSynchronized
  subst hsz
  have hin0 : ∀ w ∈ wsX00, w ∈ wsX8_order := by decide +kernel
  have hin2 : ∀ w ∈ wsX20, w ∈ wsX8_order := by decide +kernel
  have hin8 : ∀ w ∈ wsX80, w ∈ wsX8_order := by decide +kernel
  have hD := hD0.self (sz := s.heap.size)
  generalize hAe : va_A [(h0, .inr (8, [.ref a1, .ref a2, .ref a3, .ref a4, .ref a5, .int 0, .ref a6, .ref a7, .ref a8, .ref a9, .ref a10, .ref a11, .ref a12, .ref a13, .int 9, .int 0, .int 0])), (a1, .inr (0, [.int 0, .int 16510910, .int 0, .ref fk, .ref fq])), (a2, .inr (2, [.int 0, .int 0, .ref pk, .ref pq]))] s.heap.size = A at hD ⊢
  have hA : ∀ q : Nat, s.heap.size ≤ q → A q := fun q h => by rw [← hAe]; exact Or.inr h
  have hS : va_S A s.heap s.heap [] := va_S.rf
  have hP : va_P Z.1 vwCl [(h0, .inr (8, [.ref a1, .ref a2, .ref a3, .ref a4, .ref a5, .int 0, .ref a6, .ref a7, .ref a8, .ref a9, .ref a10, .ref a11, .ref a12, .ref a13, .int 9, .int 0, .int 0])), (a1, .inr (0, [.int 0, .int 16510910, .int 0, .ref fk, .ref fq])), (a2, .inr (2, [.int 0, .int 0, .ref pk, .ref pq]))] s.heap := hP
  have hl := lv_entry ([.ref h0, .int a]) (n := 2) (Nat.le_of_ble_eq_true rfl)
  rw [lg_entry_eq]
  generalize (lg_sl ([.ref h0, .int a]) ++ List.replicate (2 - (lg_sl ([.ref h0, .int a])).length) Slot.unset).toArray = ls at hl ⊢
  have hl : lv_has ls 2 [(0, .ref h0), (1, .int a)] := hl
  refine lv_iload_n hx hb dX8_order_0 rfl (lv_at hl 1 rfl) ?_
  refine lv_iconst (v := (-1)) hx hb dX8_order_1 (by decide) ?_
  refine lv_icmp_lt (tgt := 11) hx hb dX8_order_2 (by decide) (fun c_1 => ?_) (fun c_1 => ?_)
  · refine lv_iconst (v := (-1)) hx hb dX8_order_11 (by decide) ?_
    exact W.iret (v := (-1)) hx hb hr (fun t ht hW => ⟨⟨(-1), (), rfl, (by rw [if_pos c_1]), trivial⟩, hS.F ht⟩) hS.2.2 dX8_order_12
  · refine lv_iload_n hx hb dX8_order_5 rfl (lv_at hl 1 rfl) ?_
    refine lv_bipush (v := 6) hx hb dX8_order_6 (by decide) ?_
    refine lv_icmp_lt (tgt := 13) hx hb dX8_order_8 (by decide) (fun c_2 => ?_) (fun c_2 => ?_)
    · refine lv_aload_n hx hb dX8_order_13 rfl (lv_at hl 0 rfl) ?_
      refine va_get (D := Z.1) (ci := 8) (v := .ref a2) (C := RX8) (T := TX8) (N := 17) hx hb hts hin8 hown hK hP 0 rfl rfl 1 (by decide) (hts (.fieldLink RX8 19 "HalfAsked" "plan" "LHalfAsked$Plan;") (by decide +kernel)) (fun _ h9 => h9) rfl dX8_order_14 ?_
      refine va_get (D := Z.1) (ci := 2) (v := .int 0) (C := RX2) (T := TX2) (N := 4) hx hb hts hin2 hown hK hP 2 rfl rfl 0 (by decide) (hts (.fieldLink RX8 175 "HalfAsked$Plan" "size" "I") (by decide +kernel)) (fun _ h9 => h9) rfl dX8_order_17 ?_
      refine lv_bipush (v := 6) hx hb dX8_order_20 (by decide) ?_
      refine lv_icmp_le (tgt := 28) hx hb dX8_order_22 (by decide) (fun _ => ?_) (fun c9 => absurd c9 (by decide))
      refine lv_aload_n hx hb dX8_order_28 rfl (lv_at hl 0 rfl) ?_
      refine va_get (D := Z.1) (ci := 8) (v := .ref a1) (C := RX8) (T := TX8) (N := 17) hx hb hts hin8 hown hK hP 0 rfl rfl 0 (by decide) (hts (.fieldLink RX8 10 "HalfAsked" "folk" "LHalfAsked$Folk;") (by decide +kernel)) (fun _ h9 => h9) rfl dX8_order_29 ?_
      refine va_get (D := Z.1) (ci := 0) (v := .int 0) (C := RX0) (T := TX0) (N := 5) hx hb hts hin0 hown hK hP 1 rfl rfl 0 (by decide) (hts (.fieldLink RX8 98 "HalfAsked$Folk" "size" "I") (by decide +kernel)) (fun _ h9 => h9) rfl dX8_order_32 ?_
      refine lv_if_eq (tgt := 49) hx hb dX8_order_35 (by decide) (fun _ => ?_) (fun c9 => absurd c9 (by decide))
      refine lv_bipush (v := (-4)) hx hb dX8_order_49 (by decide) ?_
      exact W.iret (v := (-4)) hx hb hr (fun t ht hW => ⟨⟨(-4), (), rfl, (by rw [if_neg c_1, if_pos c_2]), trivial⟩, hS.F ht⟩) hS.2.2 dX8_order_51
    · refine lv_iconst (v := (-1)) hx hb dX8_order_11 (by decide) ?_
      exact W.iret (v := (-1)) hx hb hr (fun t ht hW => ⟨⟨(-1), (), rfl, (by rw [if_neg c_1, if_neg c_2]), trivial⟩, hS.F ht⟩) hS.2.2 dX8_order_12
set_option maxHeartbeats 4000000 in
set_option maxRecDepth 100000 in
theorem c_X8_so (l : Launch) (Z : gZ) (sz : Nat) (h0 : Nat) (a1 : Nat) (a2 : Nat) (a3 : Nat) (a4 : Nat) (a5 : Nat) (a6 : Nat) (a7 : Nat) (a8 : Nat) (a9 : Nat) (a10 : Nat) (a11 : Nat) (a12 : Nat) (a13 : Nat) (fk : Nat) (fq : Nat) (pk : Nat) (pq : Nat) (a : Int32) (b : Int32)  : Met l yX8_so wsX8_so ({ frames := 0, cells := 0, slots := 0, locals := 0 }) (va_Pc [.ref h0, .int a, .int b] (fun U => U.heap.size = sz ∧ va_P Z.1 vwCl [(h0, .inr (8, [.ref a1, .ref a2, .ref a3, .ref a4, .ref a5, .int 0, .ref a6, .ref a7, .ref a8, .ref a9, .ref a10, .ref a11, .ref a12, .ref a13, .int 9, .int 0, .int 0])), (a1, .inr (0, [.int 0, .int 16510910, .int 0, .ref fk, .ref fq])), (a2, .inr (2, [.int 0, .int 0, .ref pk, .ref pq]))] U.heap ∧ va_K Z.1 vwCl (gT Z) U ∧ va_D (fun _ => True) [(h0, .inr (8, [.ref a1, .ref a2, .ref a3, .ref a4, .ref a5, .int 0, .ref a6, .ref a7, .ref a8, .ref a9, .ref a10, .ref a11, .ref a12, .ref a13, .int 9, .int 0, .int 0])), (a1, .inr (0, [.int 0, .int 16510910, .int 0, .ref fk, .ref fq])), (a2, .inr (2, [.int 0, .int 0, .ref pk, .ref pq]))])) (va_Qi (fun (r : Int32) (u : Unit) => r = (if a ≤ 0 then (-1 : Int32) else (-1 : Int32))) (fun (u : Unit) (t : State) => True) (va_A [(h0, .inr (8, [.ref a1, .ref a2, .ref a3, .ref a4, .ref a5, .int 0, .ref a6, .ref a7, .ref a8, .ref a9, .ref a10, .ref a11, .ref a12, .ref a13, .int 9, .int 0, .int 0])), (a1, .inr (0, [.int 0, .int 16510910, .int 0, .ref fk, .ref fq])), (a2, .inr (2, [.int 0, .int 0, .ref pk, .ref pq]))] sz)) 0 0 (va_A [(h0, .inr (8, [.ref a1, .ref a2, .ref a3, .ref a4, .ref a5, .int 0, .ref a6, .ref a7, .ref a8, .ref a9, .ref a10, .ref a11, .ref a12, .ref a13, .int 9, .int 0, .int 0])), (a1, .inr (0, [.int 0, .int 16510910, .int 0, .ref fk, .ref fq])), (a2, .inr (2, [.int 0, .int 0, .ref pk, .ref pq]))] sz) := by
  refine Met.ofW (cc := cX8_so) (maxL := 3) (ret := (some .int)) (by decide) rfl ?_
  intro p e s m args below meth c s₁ B hml hv
  obtain ⟨rfl, hsz, hP, hK, hD0⟩ := hv
  have hx := B.exec
  have hb := B.bytes
  have hr := B.returns
  have hts := atoms_spec (ws := wsX8_so) B.pre
  have hown : s.vm.findClass RX8 = some m.cls := findClass_of_methodNamed B.named
  have hlocks := B.notSynchronized
  subst hsz
  have hin0 : ∀ w ∈ wsX00, w ∈ wsX8_so := by decide +kernel
  have hin8 : ∀ w ∈ wsX80, w ∈ wsX8_so := by decide +kernel
  have hD := hD0.self (sz := s.heap.size)
  generalize hAe : va_A [(h0, .inr (8, [.ref a1, .ref a2, .ref a3, .ref a4, .ref a5, .int 0, .ref a6, .ref a7, .ref a8, .ref a9, .ref a10, .ref a11, .ref a12, .ref a13, .int 9, .int 0, .int 0])), (a1, .inr (0, [.int 0, .int 16510910, .int 0, .ref fk, .ref fq])), (a2, .inr (2, [.int 0, .int 0, .ref pk, .ref pq]))] s.heap.size = A at hD ⊢
  have hA : ∀ q : Nat, s.heap.size ≤ q → A q := fun q h => by rw [← hAe]; exact Or.inr h
  have hS : va_S A s.heap s.heap [] := va_S.rf
  have hP : va_P Z.1 vwCl [(h0, .inr (8, [.ref a1, .ref a2, .ref a3, .ref a4, .ref a5, .int 0, .ref a6, .ref a7, .ref a8, .ref a9, .ref a10, .ref a11, .ref a12, .ref a13, .int 9, .int 0, .int 0])), (a1, .inr (0, [.int 0, .int 16510910, .int 0, .ref fk, .ref fq])), (a2, .inr (2, [.int 0, .int 0, .ref pk, .ref pq]))] s.heap := hP
  have hl := lv_entry ([.ref h0, .int a, .int b]) (n := 3) (Nat.le_of_ble_eq_true rfl)
  rw [lg_entry_eq]
  generalize (lg_sl ([.ref h0, .int a, .int b]) ++ List.replicate (3 - (lg_sl ([.ref h0, .int a, .int b])).length) Slot.unset).toArray = ls at hl ⊢
  have hl : lv_has ls 3 [(0, .ref h0), (1, .int a), (2, .int b)] := hl
  refine lv_iload_n hx hb dX8_so_0 rfl (lv_at hl 1 rfl) ?_
  refine lv_if_le (tgt := 27) hx hb dX8_so_1 (by decide) (fun c_1 => ?_) (fun c_1 => ?_)
  · refine lv_iconst (v := (-1)) hx hb dX8_so_27 (by decide) ?_
    exact W.iret (v := (-1)) hx hb hr (fun t ht hW => ⟨⟨(-1), (), rfl, (by rw [if_pos c_1]), trivial⟩, hS.F ht⟩) hS.2.2 dX8_so_28
  · refine lv_iload_n hx hb dX8_so_4 rfl (lv_at hl 1 rfl) ?_
    refine lv_iconst (v := 1) hx hb dX8_so_5 (by decide) ?_
    refine lv_aload_n hx hb dX8_so_6 rfl (lv_at hl 0 rfl) ?_
    refine va_get (D := Z.1) (ci := 8) (v := .ref a1) (C := RX8) (T := TX8) (N := 17) hx hb hts hin8 hown hK hP 0 rfl rfl 0 (by decide) (hts (.fieldLink RX8 10 "HalfAsked" "folk" "LHalfAsked$Folk;") (by decide +kernel)) (fun _ h9 => h9) rfl dX8_so_7 ?_
    refine va_get (D := Z.1) (ci := 0) (v := .int 0) (C := RX0) (T := TX0) (N := 5) hx hb hts hin0 hown hK hP 1 rfl rfl 0 (by decide) (hts (.fieldLink RX8 98 "HalfAsked$Folk" "size" "I") (by decide +kernel)) (fun _ h9 => h9) rfl dX8_so_10 ?_
    refine lv_ishl hx hb dX8_so_13 ?_
    refine lv_topi (fun f_2 ef_2 => ?_)
    obtain rfl : f_2 = 1 := ef_2.trans (by decide)
    refine lv_icmp_ge (tgt := 27) hx hb dX8_so_14 (by decide) (fun _ => ?_) (fun c9 => absurd (z_so c_1) c9)
    refine lv_iconst (v := (-1)) hx hb dX8_so_27 (by decide) ?_
    exact W.iret (v := (-1)) hx hb hr (fun t ht hW => ⟨⟨(-1), (), rfl, (by rw [if_neg c_1]), trivial⟩, hS.F ht⟩) hS.2.2 dX8_so_28
set_option maxHeartbeats 4000000 in
set_option maxRecDepth 100000 in
theorem c_X8_image (l : Launch) (Z : gZ) (sz : Nat) (h0 : Nat) (a1 : Nat) (a2 : Nat) (a3 : Nat) (a4 : Nat) (a5 : Nat) (a6 : Nat) (a7 : Nat) (a8 : Nat) (a9 : Nat) (a10 : Nat) (a11 : Nat) (a12 : Nat) (a13 : Nat) (fk : Nat) (fq : Nat) (pk : Nat) (pq : Nat) (kk : Nat) (kq : Nat) (lk : Nat) (lq : Nat)  : Met l yX8_image wsX8_image ({ frames := 2, cells := 0, slots := 0, locals := 81 }) (va_Pc [.ref h0] (fun U => U.heap.size = sz ∧ va_P Z.1 vwCl [(h0, .inr (8, [.ref a1, .ref a2, .ref a3, .ref a4, .ref a5, .int 0, .ref a6, .ref a7, .ref a8, .ref a9, .ref a10, .ref a11, .ref a12, .ref a13, .int 9, .int 0, .int 0])), (a1, .inr (0, [.int 0, .int 16510910, .int 0, .ref fk, .ref fq])), (fk, .inl (Z.2 0, 5, .inl (fun _ => 0))), (fq, .inl (Z.2 0, 5, .inl (fun _ => 0))), (a2, .inr (2, [.int 0, .int 0, .ref pk, .ref pq])), (pk, .inl (Z.2 0, 8, .inl (fun _ => 0))), (pq, .inl (Z.2 0, 8, .inl (fun _ => 0))), (a4, .inr (0, [.int 0, .int 16510910, .int 0, .ref kk, .ref kq])), (kk, .inl (Z.2 0, 5, .inl (fun _ => 0))), (kq, .inl (Z.2 0, 5, .inl (fun _ => 0))), (a5, .inr (2, [.int 0, .int 0, .ref lk, .ref lq])), (lk, .inl (Z.2 0, 8, .inl (fun _ => 0))), (lq, .inl (Z.2 0, 8, .inl (fun _ => 0)))] U.heap ∧ va_K Z.1 vwCl (gT Z) U ∧ va_D (fun _ => True) [(h0, .inr (8, [.ref a1, .ref a2, .ref a3, .ref a4, .ref a5, .int 0, .ref a6, .ref a7, .ref a8, .ref a9, .ref a10, .ref a11, .ref a12, .ref a13, .int 9, .int 0, .int 0])), (a1, .inr (0, [.int 0, .int 16510910, .int 0, .ref fk, .ref fq])), (fk, .inl (Z.2 0, 5, .inl (fun _ => 0))), (fq, .inl (Z.2 0, 5, .inl (fun _ => 0))), (a2, .inr (2, [.int 0, .int 0, .ref pk, .ref pq])), (pk, .inl (Z.2 0, 8, .inl (fun _ => 0))), (pq, .inl (Z.2 0, 8, .inl (fun _ => 0))), (a4, .inr (0, [.int 0, .int 16510910, .int 0, .ref kk, .ref kq])), (kk, .inl (Z.2 0, 5, .inl (fun _ => 0))), (kq, .inl (Z.2 0, 5, .inl (fun _ => 0))), (a5, .inr (2, [.int 0, .int 0, .ref lk, .ref lq])), (lk, .inl (Z.2 0, 8, .inl (fun _ => 0))), (lq, .inl (Z.2 0, 8, .inl (fun _ => 0)))])) (va_Qi (fun (r : Int32) (u : Unit) => r = 1) (fun (u : Unit) (t : State) => True) (va_A [(h0, .inr (8, [.ref a1, .ref a2, .ref a3, .ref a4, .ref a5, .int 0, .ref a6, .ref a7, .ref a8, .ref a9, .ref a10, .ref a11, .ref a12, .ref a13, .int 9, .int 0, .int 0])), (a1, .inr (0, [.int 0, .int 16510910, .int 0, .ref fk, .ref fq])), (fk, .inl (Z.2 0, 5, .inl (fun _ => 0))), (fq, .inl (Z.2 0, 5, .inl (fun _ => 0))), (a2, .inr (2, [.int 0, .int 0, .ref pk, .ref pq])), (pk, .inl (Z.2 0, 8, .inl (fun _ => 0))), (pq, .inl (Z.2 0, 8, .inl (fun _ => 0))), (a4, .inr (0, [.int 0, .int 16510910, .int 0, .ref kk, .ref kq])), (kk, .inl (Z.2 0, 5, .inl (fun _ => 0))), (kq, .inl (Z.2 0, 5, .inl (fun _ => 0))), (a5, .inr (2, [.int 0, .int 0, .ref lk, .ref lq])), (lk, .inl (Z.2 0, 8, .inl (fun _ => 0))), (lq, .inl (Z.2 0, 8, .inl (fun _ => 0)))] sz)) 0 0 (va_A [(h0, .inr (8, [.ref a1, .ref a2, .ref a3, .ref a4, .ref a5, .int 0, .ref a6, .ref a7, .ref a8, .ref a9, .ref a10, .ref a11, .ref a12, .ref a13, .int 9, .int 0, .int 0])), (a1, .inr (0, [.int 0, .int 16510910, .int 0, .ref fk, .ref fq])), (fk, .inl (Z.2 0, 5, .inl (fun _ => 0))), (fq, .inl (Z.2 0, 5, .inl (fun _ => 0))), (a2, .inr (2, [.int 0, .int 0, .ref pk, .ref pq])), (pk, .inl (Z.2 0, 8, .inl (fun _ => 0))), (pq, .inl (Z.2 0, 8, .inl (fun _ => 0))), (a4, .inr (0, [.int 0, .int 16510910, .int 0, .ref kk, .ref kq])), (kk, .inl (Z.2 0, 5, .inl (fun _ => 0))), (kq, .inl (Z.2 0, 5, .inl (fun _ => 0))), (a5, .inr (2, [.int 0, .int 0, .ref lk, .ref lq])), (lk, .inl (Z.2 0, 8, .inl (fun _ => 0))), (lq, .inl (Z.2 0, 8, .inl (fun _ => 0)))] sz) := by
  refine Met.ofW (cc := cX8_image) (maxL := 1) (ret := (some .int)) (by decide) rfl ?_
  intro p e s m args below meth c s₁ B hml hv
  obtain ⟨rfl, hsz, hP, hK, hD0⟩ := hv
  have hx := B.exec
  have hb := B.bytes
  have hr := B.returns
  have hts := atoms_spec (ws := wsX8_image) B.pre
  have hown : s.vm.findClass RX8 = some m.cls := findClass_of_methodNamed B.named
  have hlocks := B.notSynchronized
  subst hsz
  have hin8 : ∀ w ∈ wsX80, w ∈ wsX8_image := by decide +kernel
  have hD := hD0.self (sz := s.heap.size)
  generalize hAe : va_A [(h0, .inr (8, [.ref a1, .ref a2, .ref a3, .ref a4, .ref a5, .int 0, .ref a6, .ref a7, .ref a8, .ref a9, .ref a10, .ref a11, .ref a12, .ref a13, .int 9, .int 0, .int 0])), (a1, .inr (0, [.int 0, .int 16510910, .int 0, .ref fk, .ref fq])), (fk, .inl (Z.2 0, 5, .inl (fun _ => 0))), (fq, .inl (Z.2 0, 5, .inl (fun _ => 0))), (a2, .inr (2, [.int 0, .int 0, .ref pk, .ref pq])), (pk, .inl (Z.2 0, 8, .inl (fun _ => 0))), (pq, .inl (Z.2 0, 8, .inl (fun _ => 0))), (a4, .inr (0, [.int 0, .int 16510910, .int 0, .ref kk, .ref kq])), (kk, .inl (Z.2 0, 5, .inl (fun _ => 0))), (kq, .inl (Z.2 0, 5, .inl (fun _ => 0))), (a5, .inr (2, [.int 0, .int 0, .ref lk, .ref lq])), (lk, .inl (Z.2 0, 8, .inl (fun _ => 0))), (lq, .inl (Z.2 0, 8, .inl (fun _ => 0)))] s.heap.size = A at hD ⊢
  have hA : ∀ q : Nat, s.heap.size ≤ q → A q := fun q h => by rw [← hAe]; exact Or.inr h
  have hS : va_S A s.heap s.heap [] := va_S.rf
  have hP : va_P Z.1 vwCl [(h0, .inr (8, [.ref a1, .ref a2, .ref a3, .ref a4, .ref a5, .int 0, .ref a6, .ref a7, .ref a8, .ref a9, .ref a10, .ref a11, .ref a12, .ref a13, .int 9, .int 0, .int 0])), (a1, .inr (0, [.int 0, .int 16510910, .int 0, .ref fk, .ref fq])), (fk, .inl (Z.2 0, 5, .inl (fun _ => 0))), (fq, .inl (Z.2 0, 5, .inl (fun _ => 0))), (a2, .inr (2, [.int 0, .int 0, .ref pk, .ref pq])), (pk, .inl (Z.2 0, 8, .inl (fun _ => 0))), (pq, .inl (Z.2 0, 8, .inl (fun _ => 0))), (a4, .inr (0, [.int 0, .int 16510910, .int 0, .ref kk, .ref kq])), (kk, .inl (Z.2 0, 5, .inl (fun _ => 0))), (kq, .inl (Z.2 0, 5, .inl (fun _ => 0))), (a5, .inr (2, [.int 0, .int 0, .ref lk, .ref lq])), (lk, .inl (Z.2 0, 8, .inl (fun _ => 0))), (lq, .inl (Z.2 0, 8, .inl (fun _ => 0)))] s.heap := hP
  have hl := lv_entry ([.ref h0]) (n := 1) (Nat.le_of_ble_eq_true rfl)
  rw [lg_entry_eq]
  generalize (lg_sl ([.ref h0]) ++ List.replicate (1 - (lg_sl ([.ref h0])).length) Slot.unset).toArray = ls at hl ⊢
  have hl : lv_has ls 1 [(0, .ref h0)] := hl
  refine lv_aload_n hx hb dX8_image_0 rfl (lv_at hl 0 rfl) ?_
  refine va_get (D := Z.1) (ci := 8) (v := .ref a4) (C := RX8) (T := TX8) (N := 17) hx hb hts hin8 hown hK hP 0 rfl rfl 3 (by decide) (hts (.fieldLink RX8 30 "HalfAsked" "keptFolk" "LHalfAsked$Folk;") (by decide +kernel)) (fun _ h9 => h9) rfl dX8_image_1 ?_
  refine lv_aload_n hx hb dX8_image_4 rfl (lv_at hl 0 rfl) ?_
  refine va_get (D := Z.1) (ci := 8) (v := .ref a1) (C := RX8) (T := TX8) (N := 17) hx hb hts hin8 hown hK hP 0 rfl rfl 0 (by decide) (hts (.fieldLink RX8 10 "HalfAsked" "folk" "LHalfAsked$Folk;") (by decide +kernel)) (fun _ h9 => h9) rfl dX8_image_5 ?_
  have hPc := hP.sub (ws' := [(a4, .inr (0, [.int 0, .int 16510910, .int 0, .ref kk, .ref kq])), (kk, .inl (Z.2 0, 5, .inl (fun _ => 0))), (kq, .inl (Z.2 0, 5, .inl (fun _ => 0))), (a1, .inr (0, [.int 0, .int 16510910, .int 0, .ref fk, .ref fq])), (fk, .inl (Z.2 0, 5, .inl (fun _ => 0))), (fq, .inl (Z.2 0, 5, .inl (fun _ => 0)))]) [7, 8, 9, 1, 2, 3] rfl
  have hDc := hD.sub (ws' := [(a4, .inr (0, [.int 0, .int 16510910, .int 0, .ref kk, .ref kq])), (kk, .inl (Z.2 0, 5, .inl (fun _ => 0))), (kq, .inl (Z.2 0, 5, .inl (fun _ => 0))), (a1, .inr (0, [.int 0, .int 16510910, .int 0, .ref fk, .ref fq])), (fk, .inl (Z.2 0, 5, .inl (fun _ => 0))), (fq, .inl (Z.2 0, 5, .inl (fun _ => 0)))]) [7, 8, 9, 1, 2, 3] (by decide) rfl
  have hFc := va_free (wc := [(a4, .inr (0, [.int 0, .int 16510910, .int 0, .ref kk, .ref kq])), (kk, .inl (Z.2 0, 5, .inl (fun _ => 0))), (kq, .inl (Z.2 0, 5, .inl (fun _ => 0))), (a1, .inr (0, [.int 0, .int 16510910, .int 0, .ref fk, .ref fq])), (fk, .inl (Z.2 0, 5, .inl (fun _ => 0))), (fq, .inl (Z.2 0, 5, .inl (fun _ => 0)))]) hD hS hA [7, 8, 9, 1, 2, 3] rfl
  refine va_callv (va_runV (As := [.ref a1]) (rest := []) ⟨hx, hb, hml, hown, hts⟩ (c_X0_takeFrom l Z s.heap.size a4 0 16510910 0 kk kq a1 0 16510910 0 fk fq (fun _ => 0) (fun _ => 0) (fun _ => 0) (fun _ => 0)) (cwV 1 hts gX8_image_X0_takeFrom rfl rfl rfl (by decide +kernel) ⟨Nat.le_of_ble_eq_true rfl, Nat.le_of_ble_eq_true rfl⟩) ⟨fun a U g mk q => by obtain ⟨q0, q1, qP, qK, qD⟩ := q; exact ⟨q0, q1, qP, va_K.moved (u := U) (U := U.calling g mk a) (Vm.Alike.refl U.vm) qK, qD⟩, va_recv hK hPc (ci := 0) (q0 := 0) rfl rfl, fun U hU hW => ⟨rfl, by rw [hU], by rw [hU]; exact hPc, va_K.moved hW.alike hK, hDc.weaken (fun _ _ _ _ => trivial)⟩⟩ rfl rfl hl.1 rfl (lv_room (Nat.le_of_ble_eq_true rfl)) dX8_image_8 ⟨Nat.le_of_ble_eq_true rfl, Nat.le_of_ble_eq_true rfl⟩) hS (fun q _ h => hFc q h) hFc (fun u t H1 locs ht hvm hw hB hz1 hk1 hS => ?_)
  obtain ⟨f2_2, g2_3⟩ := u
  try dsimp only at hw hB
  obtain ⟨hP1, hD1⟩ := hB
  rw [ht] at hP1
  obtain ⟨hP, hD⟩ := va_join (wr := [(h0, .inr (8, [.ref a1, .ref a2, .ref a3, .ref a4, .ref a5, .int 0, .ref a6, .ref a7, .ref a8, .ref a9, .ref a10, .ref a11, .ref a12, .ref a13, .int 9, .int 0, .int 0])), (a2, .inr (2, [.int 0, .int 0, .ref pk, .ref pq])), (pk, .inl (Z.2 0, 8, .inl (fun _ => 0))), (pq, .inl (Z.2 0, 8, .inl (fun _ => 0))), (a5, .inr (2, [.int 0, .int 0, .ref lk, .ref lq])), (lk, .inl (Z.2 0, 8, .inl (fun _ => 0))), (lq, .inl (Z.2 0, 8, .inl (fun _ => 0)))]) (w1 := [(a4, .inr (0, [.int 0, .int 16510910, .int 0, .ref kk, .ref kq])), (kk, .inl (Z.2 0, 5, .inl f2_2)), (kq, .inl (Z.2 0, 5, .inl g2_3)), (a1, .inr (0, [.int 0, .int 16510910, .int 0, .ref fk, .ref fq])), (fk, .inl (Z.2 0, 5, .inl (fun _ => 0))), (fq, .inl (Z.2 0, 5, .inl (fun _ => 0)))]) hP hD [7, 8, 9, 1, 2, 3] [0, 4, 5, 6, 10, 11, 12] rfl rfl (by decide) (by decide) hk1 hFc hP1 hD1
  clear hPc hDc hP1 hD1 hk1 hz1 hFc ht hvm
  generalize H1 = H at hP hS ⊢
  have hP : va_P Z.1 vwCl [(h0, .inr (8, [.ref a1, .ref a2, .ref a3, .ref a4, .ref a5, .int 0, .ref a6, .ref a7, .ref a8, .ref a9, .ref a10, .ref a11, .ref a12, .ref a13, .int 9, .int 0, .int 0])), (a2, .inr (2, [.int 0, .int 0, .ref pk, .ref pq])), (pk, .inl (Z.2 0, 8, .inl (fun _ => 0))), (pq, .inl (Z.2 0, 8, .inl (fun _ => 0))), (a5, .inr (2, [.int 0, .int 0, .ref lk, .ref lq])), (lk, .inl (Z.2 0, 8, .inl (fun _ => 0))), (lq, .inl (Z.2 0, 8, .inl (fun _ => 0))), (a4, .inr (0, [.int 0, .int 16510910, .int 0, .ref kk, .ref kq])), (kk, .inl (Z.2 0, 5, .inl f2_2)), (kq, .inl (Z.2 0, 5, .inl g2_3)), (a1, .inr (0, [.int 0, .int 16510910, .int 0, .ref fk, .ref fq])), (fk, .inl (Z.2 0, 5, .inl (fun _ => 0))), (fq, .inl (Z.2 0, 5, .inl (fun _ => 0)))] H := hP
  have hD : va_D A [(h0, .inr (8, [.ref a1, .ref a2, .ref a3, .ref a4, .ref a5, .int 0, .ref a6, .ref a7, .ref a8, .ref a9, .ref a10, .ref a11, .ref a12, .ref a13, .int 9, .int 0, .int 0])), (a2, .inr (2, [.int 0, .int 0, .ref pk, .ref pq])), (pk, .inl (Z.2 0, 8, .inl (fun _ => 0))), (pq, .inl (Z.2 0, 8, .inl (fun _ => 0))), (a5, .inr (2, [.int 0, .int 0, .ref lk, .ref lq])), (lk, .inl (Z.2 0, 8, .inl (fun _ => 0))), (lq, .inl (Z.2 0, 8, .inl (fun _ => 0))), (a4, .inr (0, [.int 0, .int 16510910, .int 0, .ref kk, .ref kq])), (kk, .inl (Z.2 0, 5, .inl f2_2)), (kq, .inl (Z.2 0, 5, .inl g2_3)), (a1, .inr (0, [.int 0, .int 16510910, .int 0, .ref fk, .ref fq])), (fk, .inl (Z.2 0, 5, .inl (fun _ => 0))), (fq, .inl (Z.2 0, 5, .inl (fun _ => 0)))] := hD
  refine lv_aload_n hx hb dX8_image_11 rfl (lv_at hl 0 rfl) ?_
  refine va_get (D := Z.1) (ci := 8) (v := .ref a5) (C := RX8) (T := TX8) (N := 17) hx hb hts hin8 hown hK hP 0 rfl rfl 4 (by decide) (hts (.fieldLink RX8 33 "HalfAsked" "keptPlan" "LHalfAsked$Plan;") (by decide +kernel)) (fun _ h9 => h9) rfl dX8_image_12 ?_
  refine lv_aload_n hx hb dX8_image_15 rfl (lv_at hl 0 rfl) ?_
  refine va_get (D := Z.1) (ci := 8) (v := .ref a2) (C := RX8) (T := TX8) (N := 17) hx hb hts hin8 hown hK hP 0 rfl rfl 1 (by decide) (hts (.fieldLink RX8 19 "HalfAsked" "plan" "LHalfAsked$Plan;") (by decide +kernel)) (fun _ h9 => h9) rfl dX8_image_16 ?_
  have hPc := hP.sub (ws' := [(a5, .inr (2, [.int 0, .int 0, .ref lk, .ref lq])), (lk, .inl (Z.2 0, 8, .inl (fun _ => 0))), (lq, .inl (Z.2 0, 8, .inl (fun _ => 0))), (a2, .inr (2, [.int 0, .int 0, .ref pk, .ref pq])), (pk, .inl (Z.2 0, 8, .inl (fun _ => 0))), (pq, .inl (Z.2 0, 8, .inl (fun _ => 0)))]) [4, 5, 6, 1, 2, 3] rfl
  have hDc := hD.sub (ws' := [(a5, .inr (2, [.int 0, .int 0, .ref lk, .ref lq])), (lk, .inl (Z.2 0, 8, .inl (fun _ => 0))), (lq, .inl (Z.2 0, 8, .inl (fun _ => 0))), (a2, .inr (2, [.int 0, .int 0, .ref pk, .ref pq])), (pk, .inl (Z.2 0, 8, .inl (fun _ => 0))), (pq, .inl (Z.2 0, 8, .inl (fun _ => 0)))]) [4, 5, 6, 1, 2, 3] (by decide) rfl
  have hFc := va_free (wc := [(a5, .inr (2, [.int 0, .int 0, .ref lk, .ref lq])), (lk, .inl (Z.2 0, 8, .inl (fun _ => 0))), (lq, .inl (Z.2 0, 8, .inl (fun _ => 0))), (a2, .inr (2, [.int 0, .int 0, .ref pk, .ref pq])), (pk, .inl (Z.2 0, 8, .inl (fun _ => 0))), (pq, .inl (Z.2 0, 8, .inl (fun _ => 0)))]) hD hS hA [4, 5, 6, 1, 2, 3] rfl
  refine va_callv (va_runV (As := [.ref a2]) (rest := []) ⟨hx, hb, hml, hown, hts⟩ (c_X2_takeFrom l Z H.size a5 0 0 lk lq a2 0 0 pk pq (fun _ => 0) (fun _ => 0) (fun _ => 0) (fun _ => 0)) (cwV 1 hts gX8_image_X2_takeFrom rfl rfl rfl (by decide +kernel) ⟨Nat.le_of_ble_eq_true rfl, Nat.le_of_ble_eq_true rfl⟩) ⟨fun a U g mk q => by obtain ⟨q0, q1, qP, qK, qD⟩ := q; exact ⟨q0, q1, qP, va_K.moved (u := U) (U := U.calling g mk a) (Vm.Alike.refl U.vm) qK, qD⟩, va_recv hK hPc (ci := 2) (q0 := 0) rfl rfl, fun U hU hW => ⟨rfl, by rw [hU], by rw [hU]; exact hPc, va_K.moved hW.alike hK, hDc.weaken (fun _ _ _ _ => trivial)⟩⟩ rfl rfl hl.1 rfl (lv_room (Nat.le_of_ble_eq_true rfl)) dX8_image_19 ⟨Nat.le_of_ble_eq_true rfl, Nat.le_of_ble_eq_true rfl⟩) hS (fun q _ h => hFc q h) hFc (fun u t H1 locs ht hvm hw hB hz1 hk1 hS => ?_)
  obtain ⟨f2_5, g2_6⟩ := u
  try dsimp only at hw hB
  obtain ⟨hP1, hD1⟩ := hB
  rw [ht] at hP1
  obtain ⟨hP, hD⟩ := va_join (wr := [(h0, .inr (8, [.ref a1, .ref a2, .ref a3, .ref a4, .ref a5, .int 0, .ref a6, .ref a7, .ref a8, .ref a9, .ref a10, .ref a11, .ref a12, .ref a13, .int 9, .int 0, .int 0])), (a4, .inr (0, [.int 0, .int 16510910, .int 0, .ref kk, .ref kq])), (kk, .inl (Z.2 0, 5, .inl f2_2)), (kq, .inl (Z.2 0, 5, .inl g2_3)), (a1, .inr (0, [.int 0, .int 16510910, .int 0, .ref fk, .ref fq])), (fk, .inl (Z.2 0, 5, .inl (fun _ => 0))), (fq, .inl (Z.2 0, 5, .inl (fun _ => 0)))]) (w1 := [(a5, .inr (2, [.int 0, .int 0, .ref lk, .ref lq])), (lk, .inl (Z.2 0, 8, .inl f2_5)), (lq, .inl (Z.2 0, 8, .inl g2_6)), (a2, .inr (2, [.int 0, .int 0, .ref pk, .ref pq])), (pk, .inl (Z.2 0, 8, .inl (fun _ => 0))), (pq, .inl (Z.2 0, 8, .inl (fun _ => 0)))]) hP hD [4, 5, 6, 1, 2, 3] [0, 7, 8, 9, 10, 11, 12] rfl rfl (by decide) (by decide) hk1 hFc hP1 hD1
  clear hPc hDc hP1 hD1 hk1 hz1 hFc ht hvm
  generalize H1 = H at hP hS ⊢
  have hP : va_P Z.1 vwCl [(h0, .inr (8, [.ref a1, .ref a2, .ref a3, .ref a4, .ref a5, .int 0, .ref a6, .ref a7, .ref a8, .ref a9, .ref a10, .ref a11, .ref a12, .ref a13, .int 9, .int 0, .int 0])), (a4, .inr (0, [.int 0, .int 16510910, .int 0, .ref kk, .ref kq])), (kk, .inl (Z.2 0, 5, .inl f2_2)), (kq, .inl (Z.2 0, 5, .inl g2_3)), (a1, .inr (0, [.int 0, .int 16510910, .int 0, .ref fk, .ref fq])), (fk, .inl (Z.2 0, 5, .inl (fun _ => 0))), (fq, .inl (Z.2 0, 5, .inl (fun _ => 0))), (a5, .inr (2, [.int 0, .int 0, .ref lk, .ref lq])), (lk, .inl (Z.2 0, 8, .inl f2_5)), (lq, .inl (Z.2 0, 8, .inl g2_6)), (a2, .inr (2, [.int 0, .int 0, .ref pk, .ref pq])), (pk, .inl (Z.2 0, 8, .inl (fun _ => 0))), (pq, .inl (Z.2 0, 8, .inl (fun _ => 0)))] H := hP
  have hD : va_D A [(h0, .inr (8, [.ref a1, .ref a2, .ref a3, .ref a4, .ref a5, .int 0, .ref a6, .ref a7, .ref a8, .ref a9, .ref a10, .ref a11, .ref a12, .ref a13, .int 9, .int 0, .int 0])), (a4, .inr (0, [.int 0, .int 16510910, .int 0, .ref kk, .ref kq])), (kk, .inl (Z.2 0, 5, .inl f2_2)), (kq, .inl (Z.2 0, 5, .inl g2_3)), (a1, .inr (0, [.int 0, .int 16510910, .int 0, .ref fk, .ref fq])), (fk, .inl (Z.2 0, 5, .inl (fun _ => 0))), (fq, .inl (Z.2 0, 5, .inl (fun _ => 0))), (a5, .inr (2, [.int 0, .int 0, .ref lk, .ref lq])), (lk, .inl (Z.2 0, 8, .inl f2_5)), (lq, .inl (Z.2 0, 8, .inl g2_6)), (a2, .inr (2, [.int 0, .int 0, .ref pk, .ref pq])), (pk, .inl (Z.2 0, 8, .inl (fun _ => 0))), (pq, .inl (Z.2 0, 8, .inl (fun _ => 0)))] := hD
  refine lv_aload_n hx hb dX8_image_22 rfl (lv_at hl 0 rfl) ?_
  refine lv_iconst (v := 1) hx hb dX8_image_23 (by decide) ?_
  refine va_put (D := Z.1) (ci := 8) (v := .int 1) (ty := .boolean) (C := RX8) (T := TX8) (N := 17) hx hb hts hin8 tyX8 tyX8_ok nmX8 hown hK hP hD hS 0 rfl rfl 5 (by decide) (hts (.fieldLink RX8 36 "HalfAsked" "kept" "Z") (by decide +kernel)) (fun _ h9 => h9) rfl (by decide +kernel) rfl rfl (Nat.le_of_ble_eq_true rfl) dX8_image_24 (fun H locs hP hD hS => ?_)
  have hP : va_P Z.1 vwCl [(h0, .inr (8, [.ref a1, .ref a2, .ref a3, .ref a4, .ref a5, .int 1, .ref a6, .ref a7, .ref a8, .ref a9, .ref a10, .ref a11, .ref a12, .ref a13, .int 9, .int 0, .int 0])), (a4, .inr (0, [.int 0, .int 16510910, .int 0, .ref kk, .ref kq])), (kk, .inl (Z.2 0, 5, .inl f2_2)), (kq, .inl (Z.2 0, 5, .inl g2_3)), (a1, .inr (0, [.int 0, .int 16510910, .int 0, .ref fk, .ref fq])), (fk, .inl (Z.2 0, 5, .inl (fun _ => 0))), (fq, .inl (Z.2 0, 5, .inl (fun _ => 0))), (a5, .inr (2, [.int 0, .int 0, .ref lk, .ref lq])), (lk, .inl (Z.2 0, 8, .inl f2_5)), (lq, .inl (Z.2 0, 8, .inl g2_6)), (a2, .inr (2, [.int 0, .int 0, .ref pk, .ref pq])), (pk, .inl (Z.2 0, 8, .inl (fun _ => 0))), (pq, .inl (Z.2 0, 8, .inl (fun _ => 0)))] H := hP
  have hD : va_D A [(h0, .inr (8, [.ref a1, .ref a2, .ref a3, .ref a4, .ref a5, .int 1, .ref a6, .ref a7, .ref a8, .ref a9, .ref a10, .ref a11, .ref a12, .ref a13, .int 9, .int 0, .int 0])), (a4, .inr (0, [.int 0, .int 16510910, .int 0, .ref kk, .ref kq])), (kk, .inl (Z.2 0, 5, .inl f2_2)), (kq, .inl (Z.2 0, 5, .inl g2_3)), (a1, .inr (0, [.int 0, .int 16510910, .int 0, .ref fk, .ref fq])), (fk, .inl (Z.2 0, 5, .inl (fun _ => 0))), (fq, .inl (Z.2 0, 5, .inl (fun _ => 0))), (a5, .inr (2, [.int 0, .int 0, .ref lk, .ref lq])), (lk, .inl (Z.2 0, 8, .inl f2_5)), (lq, .inl (Z.2 0, 8, .inl g2_6)), (a2, .inr (2, [.int 0, .int 0, .ref pk, .ref pq])), (pk, .inl (Z.2 0, 8, .inl (fun _ => 0))), (pq, .inl (Z.2 0, 8, .inl (fun _ => 0)))] := hD
  refine lv_iconst (v := 1) hx hb dX8_image_27 (by decide) ?_
  exact W.iret (v := 1) hx hb hr (fun t ht hW => ⟨⟨1, (), rfl, rfl, trivial⟩, hS.F ht⟩) hS.2.2 dX8_image_28
set_option maxHeartbeats 4000000 in
set_option maxRecDepth 100000 in
theorem c_X8_restore (l : Launch) (Z : gZ) (sz : Nat) (h0 : Nat) (a1 : Nat) (a2 : Nat) (a3 : Nat) (a4 : Nat) (a5 : Nat) (a6 : Nat) (a7 : Nat) (a8 : Nat) (a9 : Nat) (a10 : Nat) (a11 : Nat) (a12 : Nat) (a13 : Nat)  : Met l yX8_restore wsX8_restore ({ frames := 0, cells := 0, slots := 0, locals := 0 }) (va_Pc [.ref h0] (fun U => U.heap.size = sz ∧ va_P Z.1 vwCl [(h0, .inr (8, [.ref a1, .ref a2, .ref a3, .ref a4, .ref a5, .int 0, .ref a6, .ref a7, .ref a8, .ref a9, .ref a10, .ref a11, .ref a12, .ref a13, .int 9, .int 0, .int 0]))] U.heap ∧ va_K Z.1 vwCl (gT Z) U ∧ va_D (fun _ => True) [(h0, .inr (8, [.ref a1, .ref a2, .ref a3, .ref a4, .ref a5, .int 0, .ref a6, .ref a7, .ref a8, .ref a9, .ref a10, .ref a11, .ref a12, .ref a13, .int 9, .int 0, .int 0]))])) (va_Qi (fun (r : Int32) (u : Unit) => r = (-4)) (fun (u : Unit) (t : State) => True) (va_A [(h0, .inr (8, [.ref a1, .ref a2, .ref a3, .ref a4, .ref a5, .int 0, .ref a6, .ref a7, .ref a8, .ref a9, .ref a10, .ref a11, .ref a12, .ref a13, .int 9, .int 0, .int 0]))] sz)) 0 0 (va_A [(h0, .inr (8, [.ref a1, .ref a2, .ref a3, .ref a4, .ref a5, .int 0, .ref a6, .ref a7, .ref a8, .ref a9, .ref a10, .ref a11, .ref a12, .ref a13, .int 9, .int 0, .int 0]))] sz) := by
  refine Met.ofW (cc := cX8_restore) (maxL := 1) (ret := (some .int)) (by decide) rfl ?_
  intro p e s m args below meth c s₁ B hml hv
  obtain ⟨rfl, hsz, hP, hK, hD0⟩ := hv
  have hx := B.exec
  have hb := B.bytes
  have hr := B.returns
  have hts := atoms_spec (ws := wsX8_restore) B.pre
  have hown : s.vm.findClass RX8 = some m.cls := findClass_of_methodNamed B.named
  have hlocks := B.notSynchronized
  subst hsz
  have hin8 : ∀ w ∈ wsX80, w ∈ wsX8_restore := by decide +kernel
  have hD := hD0.self (sz := s.heap.size)
  generalize hAe : va_A [(h0, .inr (8, [.ref a1, .ref a2, .ref a3, .ref a4, .ref a5, .int 0, .ref a6, .ref a7, .ref a8, .ref a9, .ref a10, .ref a11, .ref a12, .ref a13, .int 9, .int 0, .int 0]))] s.heap.size = A at hD ⊢
  have hA : ∀ q : Nat, s.heap.size ≤ q → A q := fun q h => by rw [← hAe]; exact Or.inr h
  have hS : va_S A s.heap s.heap [] := va_S.rf
  have hP : va_P Z.1 vwCl [(h0, .inr (8, [.ref a1, .ref a2, .ref a3, .ref a4, .ref a5, .int 0, .ref a6, .ref a7, .ref a8, .ref a9, .ref a10, .ref a11, .ref a12, .ref a13, .int 9, .int 0, .int 0]))] s.heap := hP
  have hl := lv_entry ([.ref h0]) (n := 1) (Nat.le_of_ble_eq_true rfl)
  rw [lg_entry_eq]
  generalize (lg_sl ([.ref h0]) ++ List.replicate (1 - (lg_sl ([.ref h0])).length) Slot.unset).toArray = ls at hl ⊢
  have hl : lv_has ls 1 [(0, .ref h0)] := hl
  refine lv_aload_n hx hb dX8_restore_0 rfl (lv_at hl 0 rfl) ?_
  refine va_get (D := Z.1) (ci := 8) (v := .int 0) (C := RX8) (T := TX8) (N := 17) hx hb hts hin8 hown hK hP 0 rfl rfl 5 (by decide) (hts (.fieldLink RX8 36 "HalfAsked" "kept" "Z") (by decide +kernel)) (fun _ h9 => h9) rfl dX8_restore_1 ?_
  refine lv_if_ne (tgt := 10) hx hb dX8_restore_4 (by decide) (fun c9 => absurd c9 (by decide)) (fun _ => ?_)
  refine lv_bipush (v := (-4)) hx hb dX8_restore_7 (by decide) ?_
  exact W.iret (v := (-4)) hx hb hr (fun t ht hW => ⟨⟨(-4), (), rfl, rfl, trivial⟩, hS.F ht⟩) hS.2.2 dX8_restore_9
set_option maxHeartbeats 4000000 in
set_option maxRecDepth 100000 in
theorem c_X8_drop (l : Launch) (Z : gZ) (sz : Nat) (h0 : Nat) (a1 : Nat) (a2 : Nat) (a3 : Nat) (a4 : Nat) (a5 : Nat) (a6 : Nat) (a7 : Nat) (a8 : Nat) (a9 : Nat) (a10 : Nat) (a11 : Nat) (a12 : Nat) (a13 : Nat) (a : Int32)  : Met l yX8_drop wsX8_drop ({ frames := 1, cells := 0, slots := 0, locals := 20 }) (va_Pc [.ref h0, .int a] (fun U => U.heap.size = sz ∧ va_P Z.1 vwCl [(h0, .inr (8, [.ref a1, .ref a2, .ref a3, .ref a4, .ref a5, .int 0, .ref a6, .ref a7, .ref a8, .ref a9, .ref a10, .ref a11, .ref a12, .ref a13, .int 9, .int 0, .int 0])), (a6, .inl (Z.2 4, 4, .inr (.inr (.inr (.inr (fun _ => none))))))] U.heap ∧ va_K Z.1 vwCl (gT Z) U ∧ va_D (fun _ => True) [(h0, .inr (8, [.ref a1, .ref a2, .ref a3, .ref a4, .ref a5, .int 0, .ref a6, .ref a7, .ref a8, .ref a9, .ref a10, .ref a11, .ref a12, .ref a13, .int 9, .int 0, .int 0])), (a6, .inl (Z.2 4, 4, .inr (.inr (.inr (.inr (fun _ => none))))))])) (va_Qi (fun (r : Int32) (u : Unit) => r = (if (if a < 0 then (0 : Int32) else (if 4 ≤ a then (0 : Int32) else (1 : Int32))) = 0 then (-1 : Int32) else (-11 : Int32))) (fun (u : Unit) (t : State) => True) (va_A [(h0, .inr (8, [.ref a1, .ref a2, .ref a3, .ref a4, .ref a5, .int 0, .ref a6, .ref a7, .ref a8, .ref a9, .ref a10, .ref a11, .ref a12, .ref a13, .int 9, .int 0, .int 0])), (a6, .inl (Z.2 4, 4, .inr (.inr (.inr (.inr (fun _ => none))))))] sz)) 0 0 (va_A [(h0, .inr (8, [.ref a1, .ref a2, .ref a3, .ref a4, .ref a5, .int 0, .ref a6, .ref a7, .ref a8, .ref a9, .ref a10, .ref a11, .ref a12, .ref a13, .int 9, .int 0, .int 0])), (a6, .inl (Z.2 4, 4, .inr (.inr (.inr (.inr (fun _ => none))))))] sz) := by
  refine Met.ofW (cc := cX8_drop) (maxL := 3) (ret := (some .int)) (by decide) rfl ?_
  intro p e s m args below meth c s₁ B hml hv
  obtain ⟨rfl, hsz, hP, hK, hD0⟩ := hv
  have hx := B.exec
  have hb := B.bytes
  have hr := B.returns
  have hts := atoms_spec (ws := wsX8_drop) B.pre
  have hown : s.vm.findClass RX8 = some m.cls := findClass_of_methodNamed B.named
  have hlocks := B.notSynchronized
  subst hsz
  have hin8 : ∀ w ∈ wsX80, w ∈ wsX8_drop := by decide +kernel
  have hD := hD0.self (sz := s.heap.size)
  generalize hAe : va_A [(h0, .inr (8, [.ref a1, .ref a2, .ref a3, .ref a4, .ref a5, .int 0, .ref a6, .ref a7, .ref a8, .ref a9, .ref a10, .ref a11, .ref a12, .ref a13, .int 9, .int 0, .int 0])), (a6, .inl (Z.2 4, 4, .inr (.inr (.inr (.inr (fun _ => none))))))] s.heap.size = A at hD ⊢
  have hA : ∀ q : Nat, s.heap.size ≤ q → A q := fun q h => by rw [← hAe]; exact Or.inr h
  have hS : va_S A s.heap s.heap [] := va_S.rf
  have hP : va_P Z.1 vwCl [(h0, .inr (8, [.ref a1, .ref a2, .ref a3, .ref a4, .ref a5, .int 0, .ref a6, .ref a7, .ref a8, .ref a9, .ref a10, .ref a11, .ref a12, .ref a13, .int 9, .int 0, .int 0])), (a6, .inl (Z.2 4, 4, .inr (.inr (.inr (.inr (fun _ => none))))))] s.heap := hP
  have hl := lv_entry ([.ref h0, .int a]) (n := 3) (Nat.le_of_ble_eq_true rfl)
  rw [lg_entry_eq]
  generalize (lg_sl ([.ref h0, .int a]) ++ List.replicate (3 - (lg_sl ([.ref h0, .int a])).length) Slot.unset).toArray = ls at hl ⊢
  have hl : lv_has ls 3 [(0, .ref h0), (1, .int a)] := hl
  refine lv_iload_n hx hb dX8_drop_0 rfl (lv_at hl 1 rfl) ?_
  have hPc := hP.sub (ws' := []) [] rfl
  have hDc := hD.sub (ws' := []) [] (by decide) rfl
  have hFc := va_free (wc := []) hD hS hA [] rfl
  refine va_calli (va_runS (As := [.int a]) (rest := []) ⟨hx, hb, hml, hown, hts⟩ (c_X8_isSheet l Z s.heap.size a) (va_cwS 1 hts gX8_drop_X8_isSheet rfl rfl rfl (by decide +kernel) ⟨Nat.le_of_ble_eq_true rfl, Nat.le_of_ble_eq_true rfl⟩) ⟨fun a U g mk q => by obtain ⟨q0, q1, qP, qK, qD⟩ := q; exact ⟨q0, q1, qP, va_K.moved (u := U) (U := U.calling g mk a) (Vm.Alike.refl U.vm) qK, qD⟩, fun U hU hW => ⟨rfl, by rw [hU], by rw [hU]; exact hPc, va_K.moved hW.alike hK, hDc.weaken (fun _ _ _ _ => trivial)⟩⟩ rfl rfl hl.1 rfl (lv_room (Nat.le_of_ble_eq_true rfl)) dX8_drop_1 ⟨Nat.le_of_ble_eq_true rfl, Nat.le_of_ble_eq_true rfl⟩) hS (fun q _ h => hFc q h) hFc (fun r_1 u t H1 locs ht hvm hw hB hz1 hk1 hS => ?_)
  subst hw
  have hP1 : va_P Z.1 vwCl [] H1 := fun k q h => by simp at h
  have hD1 : va_D (va_A [] s.heap.size) [] := ⟨fun i j p q h => by simp at h, fun k q h => by simp at h⟩
  obtain ⟨hP, hD⟩ := va_join (wr := [(h0, .inr (8, [.ref a1, .ref a2, .ref a3, .ref a4, .ref a5, .int 0, .ref a6, .ref a7, .ref a8, .ref a9, .ref a10, .ref a11, .ref a12, .ref a13, .int 9, .int 0, .int 0])), (a6, .inl (Z.2 4, 4, .inr (.inr (.inr (.inr (fun _ => none))))))]) (w1 := []) hP hD [] [0, 1] rfl rfl (by decide) (by decide) hk1 hFc hP1 hD1
  clear hPc hDc hP1 hD1 hk1 hz1 hFc ht hvm
  generalize H1 = H at hP hS ⊢
  have hP : va_P Z.1 vwCl [(h0, .inr (8, [.ref a1, .ref a2, .ref a3, .ref a4, .ref a5, .int 0, .ref a6, .ref a7, .ref a8, .ref a9, .ref a10, .ref a11, .ref a12, .ref a13, .int 9, .int 0, .int 0])), (a6, .inl (Z.2 4, 4, .inr (.inr (.inr (.inr (fun _ => none))))))] H := hP
  have hD : va_D A [(h0, .inr (8, [.ref a1, .ref a2, .ref a3, .ref a4, .ref a5, .int 0, .ref a6, .ref a7, .ref a8, .ref a9, .ref a10, .ref a11, .ref a12, .ref a13, .int 9, .int 0, .int 0])), (a6, .inl (Z.2 4, 4, .inr (.inr (.inr (.inr (fun _ => none))))))] := hD
  refine lv_if_ne (tgt := 9) hx hb dX8_drop_4 (by decide) (fun c_2 => ?_) (fun c_2 => ?_)
  · refine lv_aload_n hx hb dX8_drop_9 rfl (lv_at hl 0 rfl) ?_
    refine va_get (D := Z.1) (ci := 8) (v := .ref a6) (C := RX8) (T := TX8) (N := 17) hx hb hts hin8 hown hK hP 0 rfl rfl 6 (by decide) (hts (.fieldLink RX8 42 "HalfAsked" "sheets" "[LHalfAsked$Sheet;") (by decide +kernel)) (fun _ h9 => h9) rfl dX8_drop_10 ?_
    refine lv_iload_n hx hb dX8_drop_13 rfl (lv_at hl 1 rfl) ?_
    refine va_aldq hx hb hK hP 1 4 rfl rfl (z_sh c_2) dX8_drop_14 ?_
    refine W.eq (g2 := F0 m 15 ls [.null]) rfl ?_
    refine lv_astore_nN (lv' := [(2, .null), (0, .ref h0), (1, .int a)]) hx hb dX8_drop_15 rfl hl (by decide) rfl (fun ls hl => ?_)
    refine lv_aload_nN hx hb dX8_drop_16 rfl (lv_at hl 0 rfl) ?_
    refine lv_ifnonnullN hx hb dX8_drop_17 ?_
    refine lv_bipush (v := (-11)) hx hb dX8_drop_20 (by decide) ?_
    exact W.iret (v := (-11)) hx hb hr (fun t ht hW => ⟨⟨(-11), (), rfl, (by rw [if_neg c_2]), trivial⟩, hS.F ht⟩) hS.2.2 dX8_drop_22
  · refine lv_iconst (v := (-1)) hx hb dX8_drop_7 (by decide) ?_
    exact W.iret (v := (-1)) hx hb hr (fun t ht hW => ⟨⟨(-1), (), rfl, (by rw [if_pos c_2]), trivial⟩, hS.F ht⟩) hS.2.2 dX8_drop_8
set_option maxHeartbeats 4000000 in
set_option maxRecDepth 100000 in
theorem c_X8_who (l : Launch) (Z : gZ) (sz : Nat) (h0 : Nat) (a1 : Nat) (a2 : Nat) (a3 : Nat) (a4 : Nat) (a5 : Nat) (a6 : Nat) (a7 : Nat) (a8 : Nat) (a9 : Nat) (a10 : Nat) (a11 : Nat) (a12 : Nat) (a13 : Nat) (a : Int32) (b : Int32) (d : Int32) (f : Int32) (j : Int32)  : Met l yX8_who wsX8_who ({ frames := 1, cells := 0, slots := 0, locals := 20 }) (va_Pc [.ref h0, .int a, .int b, .int d, .int f, .int j] (fun U => U.heap.size = sz ∧ va_P Z.1 vwCl [(h0, .inr (8, [.ref a1, .ref a2, .ref a3, .ref a4, .ref a5, .int 0, .ref a6, .ref a7, .ref a8, .ref a9, .ref a10, .ref a11, .ref a12, .ref a13, .int 9, .int 0, .int 0])), (a6, .inl (Z.2 4, 4, .inr (.inr (.inr (.inr (fun _ => none))))))] U.heap ∧ va_K Z.1 vwCl (gT Z) U ∧ va_D (fun _ => True) [(h0, .inr (8, [.ref a1, .ref a2, .ref a3, .ref a4, .ref a5, .int 0, .ref a6, .ref a7, .ref a8, .ref a9, .ref a10, .ref a11, .ref a12, .ref a13, .int 9, .int 0, .int 0])), (a6, .inl (Z.2 4, 4, .inr (.inr (.inr (.inr (fun _ => none))))))])) (va_Qi (fun (r : Int32) (u : Unit) => r = (if (if a < 0 then (0 : Int32) else (if 4 ≤ a then (0 : Int32) else (1 : Int32))) = 0 then (-1 : Int32) else (if (if b < 0 then (0 : Int32) else (if 3 ≤ b then (0 : Int32) else (1 : Int32))) = 0 then (-1 : Int32) else (if f < 1 then (-1 : Int32) else (if 3 < f then (-1 : Int32) else (if j < (-1) then (-1 : Int32) else (if j < f then (-11 : Int32) else (-1 : Int32)))))))) (fun (u : Unit) (t : State) => True) (va_A [(h0, .inr (8, [.ref a1, .ref a2, .ref a3, .ref a4, .ref a5, .int 0, .ref a6, .ref a7, .ref a8, .ref a9, .ref a10, .ref a11, .ref a12, .ref a13, .int 9, .int 0, .int 0])), (a6, .inl (Z.2 4, 4, .inr (.inr (.inr (.inr (fun _ => none))))))] sz)) 0 0 (va_A [(h0, .inr (8, [.ref a1, .ref a2, .ref a3, .ref a4, .ref a5, .int 0, .ref a6, .ref a7, .ref a8, .ref a9, .ref a10, .ref a11, .ref a12, .ref a13, .int 9, .int 0, .int 0])), (a6, .inl (Z.2 4, 4, .inr (.inr (.inr (.inr (fun _ => none))))))] sz) := by
  refine Met.ofW (cc := cX8_who) (maxL := 8) (ret := (some .int)) (by decide) rfl ?_
  intro p e s m args below meth c s₁ B hml hv
  obtain ⟨rfl, hsz, hP, hK, hD0⟩ := hv
  have hx := B.exec
  have hb := B.bytes
  have hr := B.returns
  have hts := atoms_spec (ws := wsX8_who) B.pre
  have hown : s.vm.findClass RX8 = some m.cls := findClass_of_methodNamed B.named
  have hlocks := B.notSynchronized
  subst hsz
  have hin8 : ∀ w ∈ wsX80, w ∈ wsX8_who := by decide +kernel
  have hD := hD0.self (sz := s.heap.size)
  generalize hAe : va_A [(h0, .inr (8, [.ref a1, .ref a2, .ref a3, .ref a4, .ref a5, .int 0, .ref a6, .ref a7, .ref a8, .ref a9, .ref a10, .ref a11, .ref a12, .ref a13, .int 9, .int 0, .int 0])), (a6, .inl (Z.2 4, 4, .inr (.inr (.inr (.inr (fun _ => none))))))] s.heap.size = A at hD ⊢
  have hA : ∀ q : Nat, s.heap.size ≤ q → A q := fun q h => by rw [← hAe]; exact Or.inr h
  have hS : va_S A s.heap s.heap [] := va_S.rf
  have hP : va_P Z.1 vwCl [(h0, .inr (8, [.ref a1, .ref a2, .ref a3, .ref a4, .ref a5, .int 0, .ref a6, .ref a7, .ref a8, .ref a9, .ref a10, .ref a11, .ref a12, .ref a13, .int 9, .int 0, .int 0])), (a6, .inl (Z.2 4, 4, .inr (.inr (.inr (.inr (fun _ => none))))))] s.heap := hP
  have hl := lv_entry ([.ref h0, .int a, .int b, .int d, .int f, .int j]) (n := 8) (Nat.le_of_ble_eq_true rfl)
  rw [lg_entry_eq]
  generalize (lg_sl ([.ref h0, .int a, .int b, .int d, .int f, .int j]) ++ List.replicate (8 - (lg_sl ([.ref h0, .int a, .int b, .int d, .int f, .int j])).length) Slot.unset).toArray = ls at hl ⊢
  have hl : lv_has ls 8 [(0, .ref h0), (1, .int a), (2, .int b), (3, .int d), (4, .int f), (5, .int j)] := hl
  refine lv_iload_n hx hb dX8_who_0 rfl (lv_at hl 1 rfl) ?_
  have hPc := hP.sub (ws' := []) [] rfl
  have hDc := hD.sub (ws' := []) [] (by decide) rfl
  have hFc := va_free (wc := []) hD hS hA [] rfl
  refine va_calli (va_runS (As := [.int a]) (rest := []) ⟨hx, hb, hml, hown, hts⟩ (c_X8_isSheet l Z s.heap.size a) (va_cwS 1 hts gX8_who_X8_isSheet rfl rfl rfl (by decide +kernel) ⟨Nat.le_of_ble_eq_true rfl, Nat.le_of_ble_eq_true rfl⟩) ⟨fun a U g mk q => by obtain ⟨q0, q1, qP, qK, qD⟩ := q; exact ⟨q0, q1, qP, va_K.moved (u := U) (U := U.calling g mk a) (Vm.Alike.refl U.vm) qK, qD⟩, fun U hU hW => ⟨rfl, by rw [hU], by rw [hU]; exact hPc, va_K.moved hW.alike hK, hDc.weaken (fun _ _ _ _ => trivial)⟩⟩ rfl rfl hl.1 rfl (lv_room (Nat.le_of_ble_eq_true rfl)) dX8_who_1 ⟨Nat.le_of_ble_eq_true rfl, Nat.le_of_ble_eq_true rfl⟩) hS (fun q _ h => hFc q h) hFc (fun r_1 u t H1 locs ht hvm hw hB hz1 hk1 hS => ?_)
  subst hw
  have hP1 : va_P Z.1 vwCl [] H1 := fun k q h => by simp at h
  have hD1 : va_D (va_A [] s.heap.size) [] := ⟨fun i j p q h => by simp at h, fun k q h => by simp at h⟩
  obtain ⟨hP, hD⟩ := va_join (wr := [(h0, .inr (8, [.ref a1, .ref a2, .ref a3, .ref a4, .ref a5, .int 0, .ref a6, .ref a7, .ref a8, .ref a9, .ref a10, .ref a11, .ref a12, .ref a13, .int 9, .int 0, .int 0])), (a6, .inl (Z.2 4, 4, .inr (.inr (.inr (.inr (fun _ => none))))))]) (w1 := []) hP hD [] [0, 1] rfl rfl (by decide) (by decide) hk1 hFc hP1 hD1
  clear hPc hDc hP1 hD1 hk1 hz1 hFc ht hvm
  generalize H1 = H at hP hS ⊢
  have hP : va_P Z.1 vwCl [(h0, .inr (8, [.ref a1, .ref a2, .ref a3, .ref a4, .ref a5, .int 0, .ref a6, .ref a7, .ref a8, .ref a9, .ref a10, .ref a11, .ref a12, .ref a13, .int 9, .int 0, .int 0])), (a6, .inl (Z.2 4, 4, .inr (.inr (.inr (.inr (fun _ => none))))))] H := hP
  have hD : va_D A [(h0, .inr (8, [.ref a1, .ref a2, .ref a3, .ref a4, .ref a5, .int 0, .ref a6, .ref a7, .ref a8, .ref a9, .ref a10, .ref a11, .ref a12, .ref a13, .int 9, .int 0, .int 0])), (a6, .inl (Z.2 4, 4, .inr (.inr (.inr (.inr (fun _ => none))))))] := hD
  refine lv_if_eq (tgt := 39) hx hb dX8_who_4 (by decide) (fun c_2 => ?_) (fun c_2 => ?_)
  · refine lv_iconst (v := (-1)) hx hb dX8_who_39 (by decide) ?_
    exact W.iret (v := (-1)) hx hb hr (fun t ht hW => ⟨⟨(-1), (), rfl, (by rw [if_pos c_2]), trivial⟩, hS.F ht⟩) hS.2.2 dX8_who_40
  · refine lv_iload_n hx hb dX8_who_7 rfl (lv_at hl 2 rfl) ?_
    have hPc := hP.sub (ws' := []) [] rfl
    have hDc := hD.sub (ws' := []) [] (by decide) rfl
    have hFc := va_free (wc := []) hD hS hA [] rfl
    refine va_calli (va_runS (As := [.int b]) (rest := []) ⟨hx, hb, hml, hown, hts⟩ (c_X8_isLane l Z H.size b) (va_cwS 1 hts gX8_who_X8_isLane rfl rfl rfl (by decide +kernel) ⟨Nat.le_of_ble_eq_true rfl, Nat.le_of_ble_eq_true rfl⟩) ⟨fun a U g mk q => by obtain ⟨q0, q1, qP, qK, qD⟩ := q; exact ⟨q0, q1, qP, va_K.moved (u := U) (U := U.calling g mk a) (Vm.Alike.refl U.vm) qK, qD⟩, fun U hU hW => ⟨rfl, by rw [hU], by rw [hU]; exact hPc, va_K.moved hW.alike hK, hDc.weaken (fun _ _ _ _ => trivial)⟩⟩ rfl rfl hl.1 rfl (lv_room (Nat.le_of_ble_eq_true rfl)) dX8_who_8 ⟨Nat.le_of_ble_eq_true rfl, Nat.le_of_ble_eq_true rfl⟩) hS (fun q _ h => hFc q h) hFc (fun r_3 u t H1 locs ht hvm hw hB hz1 hk1 hS => ?_)
    subst hw
    have hP1 : va_P Z.1 vwCl [] H1 := fun k q h => by simp at h
    have hD1 : va_D (va_A [] H.size) [] := ⟨fun i j p q h => by simp at h, fun k q h => by simp at h⟩
    obtain ⟨hP, hD⟩ := va_join (wr := [(h0, .inr (8, [.ref a1, .ref a2, .ref a3, .ref a4, .ref a5, .int 0, .ref a6, .ref a7, .ref a8, .ref a9, .ref a10, .ref a11, .ref a12, .ref a13, .int 9, .int 0, .int 0])), (a6, .inl (Z.2 4, 4, .inr (.inr (.inr (.inr (fun _ => none))))))]) (w1 := []) hP hD [] [0, 1] rfl rfl (by decide) (by decide) hk1 hFc hP1 hD1
    clear hPc hDc hP1 hD1 hk1 hz1 hFc ht hvm
    generalize H1 = H at hP hS ⊢
    have hP : va_P Z.1 vwCl [(h0, .inr (8, [.ref a1, .ref a2, .ref a3, .ref a4, .ref a5, .int 0, .ref a6, .ref a7, .ref a8, .ref a9, .ref a10, .ref a11, .ref a12, .ref a13, .int 9, .int 0, .int 0])), (a6, .inl (Z.2 4, 4, .inr (.inr (.inr (.inr (fun _ => none))))))] H := hP
    have hD : va_D A [(h0, .inr (8, [.ref a1, .ref a2, .ref a3, .ref a4, .ref a5, .int 0, .ref a6, .ref a7, .ref a8, .ref a9, .ref a10, .ref a11, .ref a12, .ref a13, .int 9, .int 0, .int 0])), (a6, .inl (Z.2 4, 4, .inr (.inr (.inr (.inr (fun _ => none))))))] := hD
    refine lv_if_eq (tgt := 39) hx hb dX8_who_11 (by decide) (fun c_4 => ?_) (fun c_4 => ?_)
    · refine lv_iconst (v := (-1)) hx hb dX8_who_39 (by decide) ?_
      exact W.iret (v := (-1)) hx hb hr (fun t ht hW => ⟨⟨(-1), (), rfl, (by rw [if_neg c_2, if_pos c_4]), trivial⟩, hS.F ht⟩) hS.2.2 dX8_who_40
    · refine lv_iload hx hb dX8_who_14 (lv_at hl 4 rfl) ?_
      refine lv_iconst (v := 1) hx hb dX8_who_16 (by decide) ?_
      refine lv_icmp_lt (tgt := 39) hx hb dX8_who_17 (by decide) (fun c_5 => ?_) (fun c_5 => ?_)
      · refine lv_iconst (v := (-1)) hx hb dX8_who_39 (by decide) ?_
        exact W.iret (v := (-1)) hx hb hr (fun t ht hW => ⟨⟨(-1), (), rfl, (by rw [if_neg c_2, if_neg c_4, if_pos c_5]), trivial⟩, hS.F ht⟩) hS.2.2 dX8_who_40
      · refine lv_iload hx hb dX8_who_20 (lv_at hl 4 rfl) ?_
        refine lv_iconst (v := 3) hx hb dX8_who_22 (by decide) ?_
        refine lv_icmp_gt (tgt := 39) hx hb dX8_who_23 (by decide) (fun c_6 => ?_) (fun c_6 => ?_)
        · refine lv_iconst (v := (-1)) hx hb dX8_who_39 (by decide) ?_
          exact W.iret (v := (-1)) hx hb hr (fun t ht hW => ⟨⟨(-1), (), rfl, (by rw [if_neg c_2, if_neg c_4, if_neg c_5, if_pos c_6]), trivial⟩, hS.F ht⟩) hS.2.2 dX8_who_40
        · refine lv_iload hx hb dX8_who_26 (lv_at hl 5 rfl) ?_
          refine lv_iconst (v := (-1)) hx hb dX8_who_28 (by decide) ?_
          refine lv_icmp_lt (tgt := 39) hx hb dX8_who_29 (by decide) (fun c_7 => ?_) (fun c_7 => ?_)
          · refine lv_iconst (v := (-1)) hx hb dX8_who_39 (by decide) ?_
            exact W.iret (v := (-1)) hx hb hr (fun t ht hW => ⟨⟨(-1), (), rfl, (by rw [if_neg c_2, if_neg c_4, if_neg c_5, if_neg c_6, if_pos c_7]), trivial⟩, hS.F ht⟩) hS.2.2 dX8_who_40
          · refine lv_iload hx hb dX8_who_32 (lv_at hl 5 rfl) ?_
            refine lv_iload hx hb dX8_who_34 (lv_at hl 4 rfl) ?_
            refine lv_icmp_lt (tgt := 41) hx hb dX8_who_36 (by decide) (fun c_8 => ?_) (fun c_8 => ?_)
            · refine lv_aload_n hx hb dX8_who_41 rfl (lv_at hl 0 rfl) ?_
              refine va_get (D := Z.1) (ci := 8) (v := .ref a6) (C := RX8) (T := TX8) (N := 17) hx hb hts hin8 hown hK hP 0 rfl rfl 6 (by decide) (hts (.fieldLink RX8 42 "HalfAsked" "sheets" "[LHalfAsked$Sheet;") (by decide +kernel)) (fun _ h9 => h9) rfl dX8_who_42 ?_
              refine lv_iload_n hx hb dX8_who_45 rfl (lv_at hl 1 rfl) ?_
              refine va_aldq hx hb hK hP 1 4 rfl rfl (z_sh c_2) dX8_who_46 ?_
              refine W.eq (g2 := F0 m 47 ls [.null]) rfl ?_
              refine lv_astoreN (lv' := [(6, .null), (0, .ref h0), (1, .int a), (2, .int b), (3, .int d), (4, .int f), (5, .int j)]) hx hb dX8_who_47 hl (by decide) rfl (fun ls hl => ?_)
              refine lv_aloadN hx hb dX8_who_49 (lv_at hl 0 rfl) ?_
              refine lv_ifnonnullN hx hb dX8_who_51 ?_
              refine lv_bipush (v := (-11)) hx hb dX8_who_54 (by decide) ?_
              exact W.iret (v := (-11)) hx hb hr (fun t ht hW => ⟨⟨(-11), (), rfl, (by rw [if_neg c_2, if_neg c_4, if_neg c_5, if_neg c_6, if_neg c_7, if_pos c_8]), trivial⟩, hS.F ht⟩) hS.2.2 dX8_who_56
            · refine lv_iconst (v := (-1)) hx hb dX8_who_39 (by decide) ?_
              exact W.iret (v := (-1)) hx hb hr (fun t ht hW => ⟨⟨(-1), (), rfl, (by rw [if_neg c_2, if_neg c_4, if_neg c_5, if_neg c_6, if_neg c_7, if_neg c_8]), trivial⟩, hS.F ht⟩) hS.2.2 dX8_who_40
set_option maxHeartbeats 4000000 in
set_option maxRecDepth 100000 in
theorem c_X8_item (l : Launch) (Z : gZ) (sz : Nat) (h0 : Nat) (a1 : Nat) (a2 : Nat) (a3 : Nat) (a4 : Nat) (a5 : Nat) (a6 : Nat) (a7 : Nat) (a8 : Nat) (a9 : Nat) (a10 : Nat) (a11 : Nat) (a12 : Nat) (a13 : Nat) (a : Int32) (b : Int32) (d : Int32) (w : Int64)  : Met l yX8_item wsX8_item ({ frames := 1, cells := 0, slots := 0, locals := 20 }) (va_Pc [.ref h0, .int a, .int b, .int d, .long w] (fun U => U.heap.size = sz ∧ va_P Z.1 vwCl [(h0, .inr (8, [.ref a1, .ref a2, .ref a3, .ref a4, .ref a5, .int 0, .ref a6, .ref a7, .ref a8, .ref a9, .ref a10, .ref a11, .ref a12, .ref a13, .int 9, .int 0, .int 0])), (a6, .inl (Z.2 4, 4, .inr (.inr (.inr (.inr (fun _ => none))))))] U.heap ∧ va_K Z.1 vwCl (gT Z) U ∧ va_D (fun _ => True) [(h0, .inr (8, [.ref a1, .ref a2, .ref a3, .ref a4, .ref a5, .int 0, .ref a6, .ref a7, .ref a8, .ref a9, .ref a10, .ref a11, .ref a12, .ref a13, .int 9, .int 0, .int 0])), (a6, .inl (Z.2 4, 4, .inr (.inr (.inr (.inr (fun _ => none))))))])) (va_Qi (fun (r : Int32) (u : Unit) => r = (if (if a < 0 then (0 : Int32) else (if 4 ≤ a then (0 : Int32) else (1 : Int32))) = 0 then (-1 : Int32) else (if (if b < 0 then (0 : Int32) else (if 3 ≤ b then (0 : Int32) else (1 : Int32))) = 0 then (-1 : Int32) else (-11 : Int32)))) (fun (u : Unit) (t : State) => True) (va_A [(h0, .inr (8, [.ref a1, .ref a2, .ref a3, .ref a4, .ref a5, .int 0, .ref a6, .ref a7, .ref a8, .ref a9, .ref a10, .ref a11, .ref a12, .ref a13, .int 9, .int 0, .int 0])), (a6, .inl (Z.2 4, 4, .inr (.inr (.inr (.inr (fun _ => none))))))] sz)) 0 0 (va_A [(h0, .inr (8, [.ref a1, .ref a2, .ref a3, .ref a4, .ref a5, .int 0, .ref a6, .ref a7, .ref a8, .ref a9, .ref a10, .ref a11, .ref a12, .ref a13, .int 9, .int 0, .int 0])), (a6, .inl (Z.2 4, 4, .inr (.inr (.inr (.inr (fun _ => none))))))] sz) := by
  refine Met.ofW (cc := cX8_item) (maxL := 8) (ret := (some .int)) (by decide) rfl ?_
  intro p e s m args below meth c s₁ B hml hv
  obtain ⟨rfl, hsz, hP, hK, hD0⟩ := hv
  have hx := B.exec
  have hb := B.bytes
  have hr := B.returns
  have hts := atoms_spec (ws := wsX8_item) B.pre
  have hown : s.vm.findClass RX8 = some m.cls := findClass_of_methodNamed B.named
  have hlocks := B.notSynchronized
  subst hsz
  have hin8 : ∀ w ∈ wsX80, w ∈ wsX8_item := by decide +kernel
  have hD := hD0.self (sz := s.heap.size)
  generalize hAe : va_A [(h0, .inr (8, [.ref a1, .ref a2, .ref a3, .ref a4, .ref a5, .int 0, .ref a6, .ref a7, .ref a8, .ref a9, .ref a10, .ref a11, .ref a12, .ref a13, .int 9, .int 0, .int 0])), (a6, .inl (Z.2 4, 4, .inr (.inr (.inr (.inr (fun _ => none))))))] s.heap.size = A at hD ⊢
  have hA : ∀ q : Nat, s.heap.size ≤ q → A q := fun q h => by rw [← hAe]; exact Or.inr h
  have hS : va_S A s.heap s.heap [] := va_S.rf
  have hP : va_P Z.1 vwCl [(h0, .inr (8, [.ref a1, .ref a2, .ref a3, .ref a4, .ref a5, .int 0, .ref a6, .ref a7, .ref a8, .ref a9, .ref a10, .ref a11, .ref a12, .ref a13, .int 9, .int 0, .int 0])), (a6, .inl (Z.2 4, 4, .inr (.inr (.inr (.inr (fun _ => none))))))] s.heap := hP
  have hl := lv_entry ([.ref h0, .int a, .int b, .int d, .long w]) (n := 8) (Nat.le_of_ble_eq_true rfl)
  rw [lg_entry_eq]
  generalize (lg_sl ([.ref h0, .int a, .int b, .int d, .long w]) ++ List.replicate (8 - (lg_sl ([.ref h0, .int a, .int b, .int d, .long w])).length) Slot.unset).toArray = ls at hl ⊢
  have hl : lv_has ls 8 [(0, .ref h0), (1, .int a), (2, .int b), (3, .int d), (4, .long w)] := hl
  refine lv_iload_n hx hb dX8_item_0 rfl (lv_at hl 1 rfl) ?_
  have hPc := hP.sub (ws' := []) [] rfl
  have hDc := hD.sub (ws' := []) [] (by decide) rfl
  have hFc := va_free (wc := []) hD hS hA [] rfl
  refine va_calli (va_runS (As := [.int a]) (rest := []) ⟨hx, hb, hml, hown, hts⟩ (c_X8_isSheet l Z s.heap.size a) (va_cwS 1 hts gX8_item_X8_isSheet rfl rfl rfl (by decide +kernel) ⟨Nat.le_of_ble_eq_true rfl, Nat.le_of_ble_eq_true rfl⟩) ⟨fun a U g mk q => by obtain ⟨q0, q1, qP, qK, qD⟩ := q; exact ⟨q0, q1, qP, va_K.moved (u := U) (U := U.calling g mk a) (Vm.Alike.refl U.vm) qK, qD⟩, fun U hU hW => ⟨rfl, by rw [hU], by rw [hU]; exact hPc, va_K.moved hW.alike hK, hDc.weaken (fun _ _ _ _ => trivial)⟩⟩ rfl rfl hl.1 rfl (lv_room (Nat.le_of_ble_eq_true rfl)) dX8_item_1 ⟨Nat.le_of_ble_eq_true rfl, Nat.le_of_ble_eq_true rfl⟩) hS (fun q _ h => hFc q h) hFc (fun r_1 u t H1 locs ht hvm hw hB hz1 hk1 hS => ?_)
  subst hw
  have hP1 : va_P Z.1 vwCl [] H1 := fun k q h => by simp at h
  have hD1 : va_D (va_A [] s.heap.size) [] := ⟨fun i j p q h => by simp at h, fun k q h => by simp at h⟩
  obtain ⟨hP, hD⟩ := va_join (wr := [(h0, .inr (8, [.ref a1, .ref a2, .ref a3, .ref a4, .ref a5, .int 0, .ref a6, .ref a7, .ref a8, .ref a9, .ref a10, .ref a11, .ref a12, .ref a13, .int 9, .int 0, .int 0])), (a6, .inl (Z.2 4, 4, .inr (.inr (.inr (.inr (fun _ => none))))))]) (w1 := []) hP hD [] [0, 1] rfl rfl (by decide) (by decide) hk1 hFc hP1 hD1
  clear hPc hDc hP1 hD1 hk1 hz1 hFc ht hvm
  generalize H1 = H at hP hS ⊢
  have hP : va_P Z.1 vwCl [(h0, .inr (8, [.ref a1, .ref a2, .ref a3, .ref a4, .ref a5, .int 0, .ref a6, .ref a7, .ref a8, .ref a9, .ref a10, .ref a11, .ref a12, .ref a13, .int 9, .int 0, .int 0])), (a6, .inl (Z.2 4, 4, .inr (.inr (.inr (.inr (fun _ => none))))))] H := hP
  have hD : va_D A [(h0, .inr (8, [.ref a1, .ref a2, .ref a3, .ref a4, .ref a5, .int 0, .ref a6, .ref a7, .ref a8, .ref a9, .ref a10, .ref a11, .ref a12, .ref a13, .int 9, .int 0, .int 0])), (a6, .inl (Z.2 4, 4, .inr (.inr (.inr (.inr (fun _ => none))))))] := hD
  refine lv_if_eq (tgt := 14) hx hb dX8_item_4 (by decide) (fun c_2 => ?_) (fun c_2 => ?_)
  · refine lv_iconst (v := (-1)) hx hb dX8_item_14 (by decide) ?_
    exact W.iret (v := (-1)) hx hb hr (fun t ht hW => ⟨⟨(-1), (), rfl, (by rw [if_pos c_2]), trivial⟩, hS.F ht⟩) hS.2.2 dX8_item_15
  · refine lv_iload_n hx hb dX8_item_7 rfl (lv_at hl 2 rfl) ?_
    have hPc := hP.sub (ws' := []) [] rfl
    have hDc := hD.sub (ws' := []) [] (by decide) rfl
    have hFc := va_free (wc := []) hD hS hA [] rfl
    refine va_calli (va_runS (As := [.int b]) (rest := []) ⟨hx, hb, hml, hown, hts⟩ (c_X8_isLane l Z H.size b) (va_cwS 1 hts gX8_item_X8_isLane rfl rfl rfl (by decide +kernel) ⟨Nat.le_of_ble_eq_true rfl, Nat.le_of_ble_eq_true rfl⟩) ⟨fun a U g mk q => by obtain ⟨q0, q1, qP, qK, qD⟩ := q; exact ⟨q0, q1, qP, va_K.moved (u := U) (U := U.calling g mk a) (Vm.Alike.refl U.vm) qK, qD⟩, fun U hU hW => ⟨rfl, by rw [hU], by rw [hU]; exact hPc, va_K.moved hW.alike hK, hDc.weaken (fun _ _ _ _ => trivial)⟩⟩ rfl rfl hl.1 rfl (lv_room (Nat.le_of_ble_eq_true rfl)) dX8_item_8 ⟨Nat.le_of_ble_eq_true rfl, Nat.le_of_ble_eq_true rfl⟩) hS (fun q _ h => hFc q h) hFc (fun r_3 u t H1 locs ht hvm hw hB hz1 hk1 hS => ?_)
    subst hw
    have hP1 : va_P Z.1 vwCl [] H1 := fun k q h => by simp at h
    have hD1 : va_D (va_A [] H.size) [] := ⟨fun i j p q h => by simp at h, fun k q h => by simp at h⟩
    obtain ⟨hP, hD⟩ := va_join (wr := [(h0, .inr (8, [.ref a1, .ref a2, .ref a3, .ref a4, .ref a5, .int 0, .ref a6, .ref a7, .ref a8, .ref a9, .ref a10, .ref a11, .ref a12, .ref a13, .int 9, .int 0, .int 0])), (a6, .inl (Z.2 4, 4, .inr (.inr (.inr (.inr (fun _ => none))))))]) (w1 := []) hP hD [] [0, 1] rfl rfl (by decide) (by decide) hk1 hFc hP1 hD1
    clear hPc hDc hP1 hD1 hk1 hz1 hFc ht hvm
    generalize H1 = H at hP hS ⊢
    have hP : va_P Z.1 vwCl [(h0, .inr (8, [.ref a1, .ref a2, .ref a3, .ref a4, .ref a5, .int 0, .ref a6, .ref a7, .ref a8, .ref a9, .ref a10, .ref a11, .ref a12, .ref a13, .int 9, .int 0, .int 0])), (a6, .inl (Z.2 4, 4, .inr (.inr (.inr (.inr (fun _ => none))))))] H := hP
    have hD : va_D A [(h0, .inr (8, [.ref a1, .ref a2, .ref a3, .ref a4, .ref a5, .int 0, .ref a6, .ref a7, .ref a8, .ref a9, .ref a10, .ref a11, .ref a12, .ref a13, .int 9, .int 0, .int 0])), (a6, .inl (Z.2 4, 4, .inr (.inr (.inr (.inr (fun _ => none))))))] := hD
    refine lv_if_ne (tgt := 16) hx hb dX8_item_11 (by decide) (fun c_4 => ?_) (fun c_4 => ?_)
    · refine lv_aload_n hx hb dX8_item_16 rfl (lv_at hl 0 rfl) ?_
      refine va_get (D := Z.1) (ci := 8) (v := .ref a6) (C := RX8) (T := TX8) (N := 17) hx hb hts hin8 hown hK hP 0 rfl rfl 6 (by decide) (hts (.fieldLink RX8 42 "HalfAsked" "sheets" "[LHalfAsked$Sheet;") (by decide +kernel)) (fun _ h9 => h9) rfl dX8_item_17 ?_
      refine lv_iload_n hx hb dX8_item_20 rfl (lv_at hl 1 rfl) ?_
      refine va_aldq hx hb hK hP 1 4 rfl rfl (z_sh c_2) dX8_item_21 ?_
      refine W.eq (g2 := F0 m 22 ls [.null]) rfl ?_
      refine lv_astoreN (lv' := [(6, .null), (0, .ref h0), (1, .int a), (2, .int b), (3, .int d), (4, .long w)]) hx hb dX8_item_22 hl (by decide) rfl (fun ls hl => ?_)
      refine lv_aloadN hx hb dX8_item_24 (lv_at hl 0 rfl) ?_
      refine lv_ifnonnullN hx hb dX8_item_26 ?_
      refine lv_bipush (v := (-11)) hx hb dX8_item_29 (by decide) ?_
      exact W.iret (v := (-11)) hx hb hr (fun t ht hW => ⟨⟨(-11), (), rfl, (by rw [if_neg c_2, if_neg c_4]), trivial⟩, hS.F ht⟩) hS.2.2 dX8_item_31
    · refine lv_iconst (v := (-1)) hx hb dX8_item_14 (by decide) ?_
      exact W.iret (v := (-1)) hx hb hr (fun t ht hW => ⟨⟨(-1), (), rfl, (by rw [if_neg c_2, if_pos c_4]), trivial⟩, hS.F ht⟩) hS.2.2 dX8_item_15
set_option maxHeartbeats 4000000 in
set_option maxRecDepth 100000 in
theorem c_X8_film (l : Launch) (Z : gZ) (sz : Nat) (h0 : Nat) (a1 : Nat) (a2 : Nat) (a3 : Nat) (a4 : Nat) (a5 : Nat) (a6 : Nat) (a7 : Nat) (a8 : Nat) (a9 : Nat) (a10 : Nat) (a11 : Nat) (a12 : Nat) (a13 : Nat) (a : Int32) (b : Int32) (d : Int32)  : Met l yX8_film wsX8_film ({ frames := 1, cells := 0, slots := 0, locals := 20 }) (va_Pc [.ref h0, .int a, .int b, .int d] (fun U => U.heap.size = sz ∧ va_P Z.1 vwCl [(h0, .inr (8, [.ref a1, .ref a2, .ref a3, .ref a4, .ref a5, .int 0, .ref a6, .ref a7, .ref a8, .ref a9, .ref a10, .ref a11, .ref a12, .ref a13, .int 9, .int 0, .int 0])), (a6, .inl (Z.2 4, 4, .inr (.inr (.inr (.inr (fun _ => none))))))] U.heap ∧ va_K Z.1 vwCl (gT Z) U ∧ va_D (fun _ => True) [(h0, .inr (8, [.ref a1, .ref a2, .ref a3, .ref a4, .ref a5, .int 0, .ref a6, .ref a7, .ref a8, .ref a9, .ref a10, .ref a11, .ref a12, .ref a13, .int 9, .int 0, .int 0])), (a6, .inl (Z.2 4, 4, .inr (.inr (.inr (.inr (fun _ => none))))))])) (va_Qi (fun (r : Int32) (u : Unit) => r = (if (if a < 0 then (0 : Int32) else (if 4 ≤ a then (0 : Int32) else (1 : Int32))) = 0 then (-1 : Int32) else (if (if b < 0 then (0 : Int32) else (if 3 ≤ b then (0 : Int32) else (1 : Int32))) = 0 then (-1 : Int32) else (-11 : Int32)))) (fun (u : Unit) (t : State) => True) (va_A [(h0, .inr (8, [.ref a1, .ref a2, .ref a3, .ref a4, .ref a5, .int 0, .ref a6, .ref a7, .ref a8, .ref a9, .ref a10, .ref a11, .ref a12, .ref a13, .int 9, .int 0, .int 0])), (a6, .inl (Z.2 4, 4, .inr (.inr (.inr (.inr (fun _ => none))))))] sz)) 0 0 (va_A [(h0, .inr (8, [.ref a1, .ref a2, .ref a3, .ref a4, .ref a5, .int 0, .ref a6, .ref a7, .ref a8, .ref a9, .ref a10, .ref a11, .ref a12, .ref a13, .int 9, .int 0, .int 0])), (a6, .inl (Z.2 4, 4, .inr (.inr (.inr (.inr (fun _ => none))))))] sz) := by
  refine Met.ofW (cc := cX8_film) (maxL := 7) (ret := (some .int)) (by decide) rfl ?_
  intro p e s m args below meth c s₁ B hml hv
  obtain ⟨rfl, hsz, hP, hK, hD0⟩ := hv
  have hx := B.exec
  have hb := B.bytes
  have hr := B.returns
  have hts := atoms_spec (ws := wsX8_film) B.pre
  have hown : s.vm.findClass RX8 = some m.cls := findClass_of_methodNamed B.named
  have hlocks := B.notSynchronized
  subst hsz
  have hin8 : ∀ w ∈ wsX80, w ∈ wsX8_film := by decide +kernel
  have hD := hD0.self (sz := s.heap.size)
  generalize hAe : va_A [(h0, .inr (8, [.ref a1, .ref a2, .ref a3, .ref a4, .ref a5, .int 0, .ref a6, .ref a7, .ref a8, .ref a9, .ref a10, .ref a11, .ref a12, .ref a13, .int 9, .int 0, .int 0])), (a6, .inl (Z.2 4, 4, .inr (.inr (.inr (.inr (fun _ => none))))))] s.heap.size = A at hD ⊢
  have hA : ∀ q : Nat, s.heap.size ≤ q → A q := fun q h => by rw [← hAe]; exact Or.inr h
  have hS : va_S A s.heap s.heap [] := va_S.rf
  have hP : va_P Z.1 vwCl [(h0, .inr (8, [.ref a1, .ref a2, .ref a3, .ref a4, .ref a5, .int 0, .ref a6, .ref a7, .ref a8, .ref a9, .ref a10, .ref a11, .ref a12, .ref a13, .int 9, .int 0, .int 0])), (a6, .inl (Z.2 4, 4, .inr (.inr (.inr (.inr (fun _ => none))))))] s.heap := hP
  have hl := lv_entry ([.ref h0, .int a, .int b, .int d]) (n := 7) (Nat.le_of_ble_eq_true rfl)
  rw [lg_entry_eq]
  generalize (lg_sl ([.ref h0, .int a, .int b, .int d]) ++ List.replicate (7 - (lg_sl ([.ref h0, .int a, .int b, .int d])).length) Slot.unset).toArray = ls at hl ⊢
  have hl : lv_has ls 7 [(0, .ref h0), (1, .int a), (2, .int b), (3, .int d)] := hl
  refine lv_iload_n hx hb dX8_film_0 rfl (lv_at hl 1 rfl) ?_
  have hPc := hP.sub (ws' := []) [] rfl
  have hDc := hD.sub (ws' := []) [] (by decide) rfl
  have hFc := va_free (wc := []) hD hS hA [] rfl
  refine va_calli (va_runS (As := [.int a]) (rest := []) ⟨hx, hb, hml, hown, hts⟩ (c_X8_isSheet l Z s.heap.size a) (va_cwS 1 hts gX8_film_X8_isSheet rfl rfl rfl (by decide +kernel) ⟨Nat.le_of_ble_eq_true rfl, Nat.le_of_ble_eq_true rfl⟩) ⟨fun a U g mk q => by obtain ⟨q0, q1, qP, qK, qD⟩ := q; exact ⟨q0, q1, qP, va_K.moved (u := U) (U := U.calling g mk a) (Vm.Alike.refl U.vm) qK, qD⟩, fun U hU hW => ⟨rfl, by rw [hU], by rw [hU]; exact hPc, va_K.moved hW.alike hK, hDc.weaken (fun _ _ _ _ => trivial)⟩⟩ rfl rfl hl.1 rfl (lv_room (Nat.le_of_ble_eq_true rfl)) dX8_film_1 ⟨Nat.le_of_ble_eq_true rfl, Nat.le_of_ble_eq_true rfl⟩) hS (fun q _ h => hFc q h) hFc (fun r_1 u t H1 locs ht hvm hw hB hz1 hk1 hS => ?_)
  subst hw
  have hP1 : va_P Z.1 vwCl [] H1 := fun k q h => by simp at h
  have hD1 : va_D (va_A [] s.heap.size) [] := ⟨fun i j p q h => by simp at h, fun k q h => by simp at h⟩
  obtain ⟨hP, hD⟩ := va_join (wr := [(h0, .inr (8, [.ref a1, .ref a2, .ref a3, .ref a4, .ref a5, .int 0, .ref a6, .ref a7, .ref a8, .ref a9, .ref a10, .ref a11, .ref a12, .ref a13, .int 9, .int 0, .int 0])), (a6, .inl (Z.2 4, 4, .inr (.inr (.inr (.inr (fun _ => none))))))]) (w1 := []) hP hD [] [0, 1] rfl rfl (by decide) (by decide) hk1 hFc hP1 hD1
  clear hPc hDc hP1 hD1 hk1 hz1 hFc ht hvm
  generalize H1 = H at hP hS ⊢
  have hP : va_P Z.1 vwCl [(h0, .inr (8, [.ref a1, .ref a2, .ref a3, .ref a4, .ref a5, .int 0, .ref a6, .ref a7, .ref a8, .ref a9, .ref a10, .ref a11, .ref a12, .ref a13, .int 9, .int 0, .int 0])), (a6, .inl (Z.2 4, 4, .inr (.inr (.inr (.inr (fun _ => none))))))] H := hP
  have hD : va_D A [(h0, .inr (8, [.ref a1, .ref a2, .ref a3, .ref a4, .ref a5, .int 0, .ref a6, .ref a7, .ref a8, .ref a9, .ref a10, .ref a11, .ref a12, .ref a13, .int 9, .int 0, .int 0])), (a6, .inl (Z.2 4, 4, .inr (.inr (.inr (.inr (fun _ => none))))))] := hD
  refine lv_if_eq (tgt := 14) hx hb dX8_film_4 (by decide) (fun c_2 => ?_) (fun c_2 => ?_)
  · refine lv_iconst (v := (-1)) hx hb dX8_film_14 (by decide) ?_
    exact W.iret (v := (-1)) hx hb hr (fun t ht hW => ⟨⟨(-1), (), rfl, (by rw [if_pos c_2]), trivial⟩, hS.F ht⟩) hS.2.2 dX8_film_15
  · refine lv_iload_n hx hb dX8_film_7 rfl (lv_at hl 2 rfl) ?_
    have hPc := hP.sub (ws' := []) [] rfl
    have hDc := hD.sub (ws' := []) [] (by decide) rfl
    have hFc := va_free (wc := []) hD hS hA [] rfl
    refine va_calli (va_runS (As := [.int b]) (rest := []) ⟨hx, hb, hml, hown, hts⟩ (c_X8_isLane l Z H.size b) (va_cwS 1 hts gX8_film_X8_isLane rfl rfl rfl (by decide +kernel) ⟨Nat.le_of_ble_eq_true rfl, Nat.le_of_ble_eq_true rfl⟩) ⟨fun a U g mk q => by obtain ⟨q0, q1, qP, qK, qD⟩ := q; exact ⟨q0, q1, qP, va_K.moved (u := U) (U := U.calling g mk a) (Vm.Alike.refl U.vm) qK, qD⟩, fun U hU hW => ⟨rfl, by rw [hU], by rw [hU]; exact hPc, va_K.moved hW.alike hK, hDc.weaken (fun _ _ _ _ => trivial)⟩⟩ rfl rfl hl.1 rfl (lv_room (Nat.le_of_ble_eq_true rfl)) dX8_film_8 ⟨Nat.le_of_ble_eq_true rfl, Nat.le_of_ble_eq_true rfl⟩) hS (fun q _ h => hFc q h) hFc (fun r_3 u t H1 locs ht hvm hw hB hz1 hk1 hS => ?_)
    subst hw
    have hP1 : va_P Z.1 vwCl [] H1 := fun k q h => by simp at h
    have hD1 : va_D (va_A [] H.size) [] := ⟨fun i j p q h => by simp at h, fun k q h => by simp at h⟩
    obtain ⟨hP, hD⟩ := va_join (wr := [(h0, .inr (8, [.ref a1, .ref a2, .ref a3, .ref a4, .ref a5, .int 0, .ref a6, .ref a7, .ref a8, .ref a9, .ref a10, .ref a11, .ref a12, .ref a13, .int 9, .int 0, .int 0])), (a6, .inl (Z.2 4, 4, .inr (.inr (.inr (.inr (fun _ => none))))))]) (w1 := []) hP hD [] [0, 1] rfl rfl (by decide) (by decide) hk1 hFc hP1 hD1
    clear hPc hDc hP1 hD1 hk1 hz1 hFc ht hvm
    generalize H1 = H at hP hS ⊢
    have hP : va_P Z.1 vwCl [(h0, .inr (8, [.ref a1, .ref a2, .ref a3, .ref a4, .ref a5, .int 0, .ref a6, .ref a7, .ref a8, .ref a9, .ref a10, .ref a11, .ref a12, .ref a13, .int 9, .int 0, .int 0])), (a6, .inl (Z.2 4, 4, .inr (.inr (.inr (.inr (fun _ => none))))))] H := hP
    have hD : va_D A [(h0, .inr (8, [.ref a1, .ref a2, .ref a3, .ref a4, .ref a5, .int 0, .ref a6, .ref a7, .ref a8, .ref a9, .ref a10, .ref a11, .ref a12, .ref a13, .int 9, .int 0, .int 0])), (a6, .inl (Z.2 4, 4, .inr (.inr (.inr (.inr (fun _ => none))))))] := hD
    refine lv_if_ne (tgt := 16) hx hb dX8_film_11 (by decide) (fun c_4 => ?_) (fun c_4 => ?_)
    · refine lv_aload_n hx hb dX8_film_16 rfl (lv_at hl 0 rfl) ?_
      refine va_get (D := Z.1) (ci := 8) (v := .ref a6) (C := RX8) (T := TX8) (N := 17) hx hb hts hin8 hown hK hP 0 rfl rfl 6 (by decide) (hts (.fieldLink RX8 42 "HalfAsked" "sheets" "[LHalfAsked$Sheet;") (by decide +kernel)) (fun _ h9 => h9) rfl dX8_film_17 ?_
      refine lv_iload_n hx hb dX8_film_20 rfl (lv_at hl 1 rfl) ?_
      refine va_aldq hx hb hK hP 1 4 rfl rfl (z_sh c_2) dX8_film_21 ?_
      refine W.eq (g2 := F0 m 22 ls [.null]) rfl ?_
      refine lv_astoreN (lv' := [(4, .null), (0, .ref h0), (1, .int a), (2, .int b), (3, .int d)]) hx hb dX8_film_22 hl (by decide) rfl (fun ls hl => ?_)
      refine lv_aloadN hx hb dX8_film_24 (lv_at hl 0 rfl) ?_
      refine lv_ifnonnullN hx hb dX8_film_26 ?_
      refine lv_bipush (v := (-11)) hx hb dX8_film_29 (by decide) ?_
      exact W.iret (v := (-11)) hx hb hr (fun t ht hW => ⟨⟨(-11), (), rfl, (by rw [if_neg c_2, if_neg c_4]), trivial⟩, hS.F ht⟩) hS.2.2 dX8_film_31
    · refine lv_iconst (v := (-1)) hx hb dX8_film_14 (by decide) ?_
      exact W.iret (v := (-1)) hx hb hr (fun t ht hW => ⟨⟨(-1), (), rfl, (by rw [if_neg c_2, if_pos c_4]), trivial⟩, hS.F ht⟩) hS.2.2 dX8_film_15
set_option maxHeartbeats 4000000 in
set_option maxRecDepth 100000 in
theorem c_X8_copy (l : Launch) (Z : gZ) (sz : Nat) (h0 : Nat) (a1 : Nat) (a2 : Nat) (a3 : Nat) (a4 : Nat) (a5 : Nat) (a6 : Nat) (a7 : Nat) (a8 : Nat) (a9 : Nat) (a10 : Nat) (a11 : Nat) (a12 : Nat) (a13 : Nat) (a : Int32) (b : Int32) (d : Int32) (f : Int32) (j : Int32)  : Met l yX8_copy wsX8_copy ({ frames := 1, cells := 0, slots := 0, locals := 20 }) (va_Pc [.ref h0, .int a, .int b, .int d, .int f, .int j] (fun U => U.heap.size = sz ∧ va_P Z.1 vwCl [(h0, .inr (8, [.ref a1, .ref a2, .ref a3, .ref a4, .ref a5, .int 0, .ref a6, .ref a7, .ref a8, .ref a9, .ref a10, .ref a11, .ref a12, .ref a13, .int 9, .int 0, .int 0])), (a6, .inl (Z.2 4, 4, .inr (.inr (.inr (.inr (fun _ => none))))))] U.heap ∧ va_K Z.1 vwCl (gT Z) U ∧ va_D (fun _ => True) [(h0, .inr (8, [.ref a1, .ref a2, .ref a3, .ref a4, .ref a5, .int 0, .ref a6, .ref a7, .ref a8, .ref a9, .ref a10, .ref a11, .ref a12, .ref a13, .int 9, .int 0, .int 0])), (a6, .inl (Z.2 4, 4, .inr (.inr (.inr (.inr (fun _ => none))))))])) (va_Qi (fun (r : Int32) (u : Unit) => r = (if (if a < 0 then (0 : Int32) else (if 4 ≤ a then (0 : Int32) else (1 : Int32))) = 0 then (-1 : Int32) else (if (if d < 0 then (0 : Int32) else (if 4 ≤ d then (0 : Int32) else (1 : Int32))) = 0 then (-1 : Int32) else (-11 : Int32)))) (fun (u : Unit) (t : State) => True) (va_A [(h0, .inr (8, [.ref a1, .ref a2, .ref a3, .ref a4, .ref a5, .int 0, .ref a6, .ref a7, .ref a8, .ref a9, .ref a10, .ref a11, .ref a12, .ref a13, .int 9, .int 0, .int 0])), (a6, .inl (Z.2 4, 4, .inr (.inr (.inr (.inr (fun _ => none))))))] sz)) 0 0 (va_A [(h0, .inr (8, [.ref a1, .ref a2, .ref a3, .ref a4, .ref a5, .int 0, .ref a6, .ref a7, .ref a8, .ref a9, .ref a10, .ref a11, .ref a12, .ref a13, .int 9, .int 0, .int 0])), (a6, .inl (Z.2 4, 4, .inr (.inr (.inr (.inr (fun _ => none))))))] sz) := by
  refine Met.ofW (cc := cX8_copy) (maxL := 8) (ret := (some .int)) (by decide) rfl ?_
  intro p e s m args below meth c s₁ B hml hv
  obtain ⟨rfl, hsz, hP, hK, hD0⟩ := hv
  have hx := B.exec
  have hb := B.bytes
  have hr := B.returns
  have hts := atoms_spec (ws := wsX8_copy) B.pre
  have hown : s.vm.findClass RX8 = some m.cls := findClass_of_methodNamed B.named
  have hlocks := B.notSynchronized
  subst hsz
  have hin8 : ∀ w ∈ wsX80, w ∈ wsX8_copy := by decide +kernel
  have hD := hD0.self (sz := s.heap.size)
  generalize hAe : va_A [(h0, .inr (8, [.ref a1, .ref a2, .ref a3, .ref a4, .ref a5, .int 0, .ref a6, .ref a7, .ref a8, .ref a9, .ref a10, .ref a11, .ref a12, .ref a13, .int 9, .int 0, .int 0])), (a6, .inl (Z.2 4, 4, .inr (.inr (.inr (.inr (fun _ => none))))))] s.heap.size = A at hD ⊢
  have hA : ∀ q : Nat, s.heap.size ≤ q → A q := fun q h => by rw [← hAe]; exact Or.inr h
  have hS : va_S A s.heap s.heap [] := va_S.rf
  have hP : va_P Z.1 vwCl [(h0, .inr (8, [.ref a1, .ref a2, .ref a3, .ref a4, .ref a5, .int 0, .ref a6, .ref a7, .ref a8, .ref a9, .ref a10, .ref a11, .ref a12, .ref a13, .int 9, .int 0, .int 0])), (a6, .inl (Z.2 4, 4, .inr (.inr (.inr (.inr (fun _ => none))))))] s.heap := hP
  have hl := lv_entry ([.ref h0, .int a, .int b, .int d, .int f, .int j]) (n := 8) (Nat.le_of_ble_eq_true rfl)
  rw [lg_entry_eq]
  generalize (lg_sl ([.ref h0, .int a, .int b, .int d, .int f, .int j]) ++ List.replicate (8 - (lg_sl ([.ref h0, .int a, .int b, .int d, .int f, .int j])).length) Slot.unset).toArray = ls at hl ⊢
  have hl : lv_has ls 8 [(0, .ref h0), (1, .int a), (2, .int b), (3, .int d), (4, .int f), (5, .int j)] := hl
  refine lv_iload_n hx hb dX8_copy_0 rfl (lv_at hl 1 rfl) ?_
  have hPc := hP.sub (ws' := []) [] rfl
  have hDc := hD.sub (ws' := []) [] (by decide) rfl
  have hFc := va_free (wc := []) hD hS hA [] rfl
  refine va_calli (va_runS (As := [.int a]) (rest := []) ⟨hx, hb, hml, hown, hts⟩ (c_X8_isSheet l Z s.heap.size a) (va_cwS 1 hts gX8_copy_X8_isSheet rfl rfl rfl (by decide +kernel) ⟨Nat.le_of_ble_eq_true rfl, Nat.le_of_ble_eq_true rfl⟩) ⟨fun a U g mk q => by obtain ⟨q0, q1, qP, qK, qD⟩ := q; exact ⟨q0, q1, qP, va_K.moved (u := U) (U := U.calling g mk a) (Vm.Alike.refl U.vm) qK, qD⟩, fun U hU hW => ⟨rfl, by rw [hU], by rw [hU]; exact hPc, va_K.moved hW.alike hK, hDc.weaken (fun _ _ _ _ => trivial)⟩⟩ rfl rfl hl.1 rfl (lv_room (Nat.le_of_ble_eq_true rfl)) dX8_copy_1 ⟨Nat.le_of_ble_eq_true rfl, Nat.le_of_ble_eq_true rfl⟩) hS (fun q _ h => hFc q h) hFc (fun r_1 u t H1 locs ht hvm hw hB hz1 hk1 hS => ?_)
  subst hw
  have hP1 : va_P Z.1 vwCl [] H1 := fun k q h => by simp at h
  have hD1 : va_D (va_A [] s.heap.size) [] := ⟨fun i j p q h => by simp at h, fun k q h => by simp at h⟩
  obtain ⟨hP, hD⟩ := va_join (wr := [(h0, .inr (8, [.ref a1, .ref a2, .ref a3, .ref a4, .ref a5, .int 0, .ref a6, .ref a7, .ref a8, .ref a9, .ref a10, .ref a11, .ref a12, .ref a13, .int 9, .int 0, .int 0])), (a6, .inl (Z.2 4, 4, .inr (.inr (.inr (.inr (fun _ => none))))))]) (w1 := []) hP hD [] [0, 1] rfl rfl (by decide) (by decide) hk1 hFc hP1 hD1
  clear hPc hDc hP1 hD1 hk1 hz1 hFc ht hvm
  generalize H1 = H at hP hS ⊢
  have hP : va_P Z.1 vwCl [(h0, .inr (8, [.ref a1, .ref a2, .ref a3, .ref a4, .ref a5, .int 0, .ref a6, .ref a7, .ref a8, .ref a9, .ref a10, .ref a11, .ref a12, .ref a13, .int 9, .int 0, .int 0])), (a6, .inl (Z.2 4, 4, .inr (.inr (.inr (.inr (fun _ => none))))))] H := hP
  have hD : va_D A [(h0, .inr (8, [.ref a1, .ref a2, .ref a3, .ref a4, .ref a5, .int 0, .ref a6, .ref a7, .ref a8, .ref a9, .ref a10, .ref a11, .ref a12, .ref a13, .int 9, .int 0, .int 0])), (a6, .inl (Z.2 4, 4, .inr (.inr (.inr (.inr (fun _ => none))))))] := hD
  refine lv_if_eq (tgt := 14) hx hb dX8_copy_4 (by decide) (fun c_2 => ?_) (fun c_2 => ?_)
  · refine lv_iconst (v := (-1)) hx hb dX8_copy_14 (by decide) ?_
    exact W.iret (v := (-1)) hx hb hr (fun t ht hW => ⟨⟨(-1), (), rfl, (by rw [if_pos c_2]), trivial⟩, hS.F ht⟩) hS.2.2 dX8_copy_15
  · refine lv_iload_n hx hb dX8_copy_7 rfl (lv_at hl 3 rfl) ?_
    have hPc := hP.sub (ws' := []) [] rfl
    have hDc := hD.sub (ws' := []) [] (by decide) rfl
    have hFc := va_free (wc := []) hD hS hA [] rfl
    refine va_calli (va_runS (As := [.int d]) (rest := []) ⟨hx, hb, hml, hown, hts⟩ (c_X8_isSheet l Z H.size d) (va_cwS 1 hts gX8_copy_X8_isSheet rfl rfl rfl (by decide +kernel) ⟨Nat.le_of_ble_eq_true rfl, Nat.le_of_ble_eq_true rfl⟩) ⟨fun a U g mk q => by obtain ⟨q0, q1, qP, qK, qD⟩ := q; exact ⟨q0, q1, qP, va_K.moved (u := U) (U := U.calling g mk a) (Vm.Alike.refl U.vm) qK, qD⟩, fun U hU hW => ⟨rfl, by rw [hU], by rw [hU]; exact hPc, va_K.moved hW.alike hK, hDc.weaken (fun _ _ _ _ => trivial)⟩⟩ rfl rfl hl.1 rfl (lv_room (Nat.le_of_ble_eq_true rfl)) dX8_copy_8 ⟨Nat.le_of_ble_eq_true rfl, Nat.le_of_ble_eq_true rfl⟩) hS (fun q _ h => hFc q h) hFc (fun r_3 u t H1 locs ht hvm hw hB hz1 hk1 hS => ?_)
    subst hw
    have hP1 : va_P Z.1 vwCl [] H1 := fun k q h => by simp at h
    have hD1 : va_D (va_A [] H.size) [] := ⟨fun i j p q h => by simp at h, fun k q h => by simp at h⟩
    obtain ⟨hP, hD⟩ := va_join (wr := [(h0, .inr (8, [.ref a1, .ref a2, .ref a3, .ref a4, .ref a5, .int 0, .ref a6, .ref a7, .ref a8, .ref a9, .ref a10, .ref a11, .ref a12, .ref a13, .int 9, .int 0, .int 0])), (a6, .inl (Z.2 4, 4, .inr (.inr (.inr (.inr (fun _ => none))))))]) (w1 := []) hP hD [] [0, 1] rfl rfl (by decide) (by decide) hk1 hFc hP1 hD1
    clear hPc hDc hP1 hD1 hk1 hz1 hFc ht hvm
    generalize H1 = H at hP hS ⊢
    have hP : va_P Z.1 vwCl [(h0, .inr (8, [.ref a1, .ref a2, .ref a3, .ref a4, .ref a5, .int 0, .ref a6, .ref a7, .ref a8, .ref a9, .ref a10, .ref a11, .ref a12, .ref a13, .int 9, .int 0, .int 0])), (a6, .inl (Z.2 4, 4, .inr (.inr (.inr (.inr (fun _ => none))))))] H := hP
    have hD : va_D A [(h0, .inr (8, [.ref a1, .ref a2, .ref a3, .ref a4, .ref a5, .int 0, .ref a6, .ref a7, .ref a8, .ref a9, .ref a10, .ref a11, .ref a12, .ref a13, .int 9, .int 0, .int 0])), (a6, .inl (Z.2 4, 4, .inr (.inr (.inr (.inr (fun _ => none))))))] := hD
    refine lv_if_ne (tgt := 16) hx hb dX8_copy_11 (by decide) (fun c_4 => ?_) (fun c_4 => ?_)
    · refine lv_aload_n hx hb dX8_copy_16 rfl (lv_at hl 0 rfl) ?_
      refine va_get (D := Z.1) (ci := 8) (v := .ref a6) (C := RX8) (T := TX8) (N := 17) hx hb hts hin8 hown hK hP 0 rfl rfl 6 (by decide) (hts (.fieldLink RX8 42 "HalfAsked" "sheets" "[LHalfAsked$Sheet;") (by decide +kernel)) (fun _ h9 => h9) rfl dX8_copy_17 ?_
      refine lv_iload_n hx hb dX8_copy_20 rfl (lv_at hl 1 rfl) ?_
      refine va_aldq hx hb hK hP 1 4 rfl rfl (z_sh c_2) dX8_copy_21 ?_
      refine W.eq (g2 := F0 m 22 ls [.null]) rfl ?_
      refine lv_astoreN (lv' := [(6, .null), (0, .ref h0), (1, .int a), (2, .int b), (3, .int d), (4, .int f), (5, .int j)]) hx hb dX8_copy_22 hl (by decide) rfl (fun ls hl => ?_)
      refine lv_aload_n hx hb dX8_copy_24 rfl (lv_at hl 1 rfl) ?_
      refine va_get (D := Z.1) (ci := 8) (v := .ref a6) (C := RX8) (T := TX8) (N := 17) hx hb hts hin8 hown hK hP 0 rfl rfl 6 (by decide) (hts (.fieldLink RX8 42 "HalfAsked" "sheets" "[LHalfAsked$Sheet;") (by decide +kernel)) (fun _ h9 => h9) rfl dX8_copy_25 ?_
      refine lv_iload_n hx hb dX8_copy_28 rfl (lv_at hl 4 rfl) ?_
      refine va_aldq hx hb hK hP 1 4 rfl rfl (z_sh c_4) dX8_copy_29 ?_
      refine W.eq (g2 := F0 m 30 ls [.null]) rfl ?_
      refine lv_astoreN (lv' := [(7, .null), (6, .null), (0, .ref h0), (1, .int a), (2, .int b), (3, .int d), (4, .int f), (5, .int j)]) hx hb dX8_copy_30 hl (by decide) rfl (fun ls hl => ?_)
      refine lv_aloadN hx hb dX8_copy_32 (lv_at hl 1 rfl) ?_
      refine lv_ifnullN (tgt := 42) hx hb dX8_copy_34 (by decide) ?_
      refine lv_bipush (v := (-11)) hx hb dX8_copy_42 (by decide) ?_
      exact W.iret (v := (-11)) hx hb hr (fun t ht hW => ⟨⟨(-11), (), rfl, (by rw [if_neg c_2, if_neg c_4]), trivial⟩, hS.F ht⟩) hS.2.2 dX8_copy_44
    · refine lv_iconst (v := (-1)) hx hb dX8_copy_14 (by decide) ?_
      exact W.iret (v := (-1)) hx hb hr (fun t ht hW => ⟨⟨(-1), (), rfl, (by rw [if_neg c_2, if_pos c_4]), trivial⟩, hS.F ht⟩) hS.2.2 dX8_copy_15
