theorem z_sh0 {a : Int32} (h : (if a < 0 then (0 : Int32) else (if 4 ≤ a then (0 : Int32) else (1 : Int32))) = 0) : ¬ vp_in a 4 := fun q => absurd ((z_shv q).symm.trans h) (by decide)
theorem z_lav {a : Int32} (h : vp_in a 3) : (if a < 0 then (0 : Int32) else (if 3 ≤ a then (0 : Int32) else (1 : Int32))) = 1 := by
  have h := vp_in_iff.mp h
  have e0 : (0 : Int32).toInt = 0 := by decide
  have e3 : (3 : Int32).toInt = 3 := by decide
  rw [if_neg (by rw [Int32.lt_iff_toInt_lt]; omega), if_neg (by rw [Int32.le_iff_toInt_le]; omega)]
theorem z_la1 {a : Int32} (h : ¬ (if a < 0 then (0 : Int32) else (if 3 ≤ a then (0 : Int32) else (1 : Int32))) = 0) : vp_in a 3 := by
  by_cases h1 : a < 0
  · exact absurd (if_pos h1) h
  · by_cases h2 : 3 ≤ a
    · exact absurd (by rw [if_neg h1, if_pos h2]) h
    · rw [Int32.lt_iff_toInt_lt] at h1
      rw [Int32.le_iff_toInt_le] at h2
      have e0 : (0 : Int32).toInt = 0 := by decide
      have e3 : (3 : Int32).toInt = 3 := by decide
      exact vp_in_iff.mpr (by omega)
theorem z_la0 {a : Int32} (h : (if a < 0 then (0 : Int32) else (if 3 ≤ a then (0 : Int32) else (1 : Int32))) = 0) : ¬ vp_in a 3 := fun q => absurd ((z_lav q).symm.trans h) (by decide)
theorem z_reach0 {a b : Int32} {len : Nat} (hl : len ≤ 24) (h : (if b < 0 then (0 : Int32) else (if a < 0 then (0 : Int32) else (if (nI len) < a then (0 : Int32) else (if ((nI len) - a) < b then (0 : Int32) else (1 : Int32))))) = 0) (hb : 0 ≤ b.toInt) (ha : 0 ≤ a.toInt) : ¬ a.toInt + b.toInt ≤ len := by
  intro q
  have e0 : (0 : Int32).toInt = 0 := by decide
  have e1 : (nI len - a).toInt = (len : Int) - a.toInt := by rw [Int32.toInt_sub, nI_toInt (by omega)]; exact Int.bmod_eq_of_le (by omega) (by omega)
  rw [if_neg (by rw [Int32.lt_iff_toInt_lt]; omega), if_neg (by rw [Int32.lt_iff_toInt_lt]; omega), if_neg (by rw [Int32.lt_iff_toInt_lt, nI_toInt (by omega)]; omega), if_neg (by rw [Int32.lt_iff_toInt_lt, e1]; omega)] at h
  exact absurd h (by decide)
theorem z_reE {a b : Int32} {len : Nat} (hl : len ≤ 24) : (¬ (if b < 0 then (0 : Int32) else (if a < 0 then (0 : Int32) else (if (nI len) < a then (0 : Int32) else (if ((nI len) - a) < b then (0 : Int32) else (1 : Int32))))) = 0 → zRe len a b) ∧ ((if b < 0 then (0 : Int32) else (if a < 0 then (0 : Int32) else (if (nI len) < a then (0 : Int32) else (if ((nI len) - a) < b then (0 : Int32) else (1 : Int32))))) = 0 → ¬ zRe len a b) := ⟨fun h => z_reach hl h, fun h q => z_reach0 hl h q.1 q.2.1 q.2.2⟩
theorem z_lkeq {ln a b : Int32} {len w : Nat} (hl : len ≤ 24) (hw : w ≤ 10) : (if ln = a then (if (if (nI w) < 0 then (0 : Int32) else (if b < 0 then (0 : Int32) else (if (nI len) < b then (0 : Int32) else (if ((nI len) - b) < (nI w) then (0 : Int32) else (1 : Int32))))) = 0 then (-13 : Int32) else (0 : Int32)) else (-12 : Int32)) = zLk (some (ln, len)) a b w := by
  show _ = zI _ _ _
  have ew : (nI w).toInt = w := nI_toInt (by omega)
  by_cases h1 : ln = a
  · rw [if_pos h1, zI_p h1]
    by_cases h2 : (if (nI w) < 0 then (0 : Int32) else (if b < 0 then (0 : Int32) else (if (nI len) < b then (0 : Int32) else (if ((nI len) - b) < (nI w) then (0 : Int32) else (1 : Int32))))) = 0
    · rw [if_pos h2, zI_n (fun q => z_reach0 hl h2 (by omega) q.1 (by rw [ew]; exact q.2))]
    · rw [if_neg h2]
      have h3 := z_reach hl h2
      rw [zI_p ⟨h3.2.1, by omega⟩]
  · rw [if_neg h1, zI_n h1]
set_option maxHeartbeats 4000000 in
set_option maxRecDepth 100000 in
theorem c_X8_drop_S (l : Launch) (Z : gZ) (sz : Nat) (h0 : Nat) (a1 : Nat) (a2 : Nat) (a3 : Nat) (a4 : Nat) (a5 : Nat) (a6 : Nat) (a7 : Nat) (a8 : Nat) (a9 : Nat) (a10 : Nat) (a11 : Nat) (a12 : Nat) (a13 : Nat) (kp : Int32) (tf : Int32) (tu : Int32) (od : Int32) (sf : Nat → Option Nat) (qS : Nat) (it : Nat) (ln : Int32) (len : Nat) (sg : Nat → Int64) (a : Int32) (sl : zSL) (hl24 : len ≤ 24) (ha : vp_in a 4) (hsf : sf a.toNatClampNeg = some qS) (hsl : sl a.toNatClampNeg = some (ln, len)) : Met l yX8_drop wsX8_drop ({ frames := 1, cells := 0, slots := 0, locals := 20 }) (va_Pc [.ref h0, .int a] (fun U => U.heap.size = sz ∧ va_P Z.1 vwCl [(h0, .inr (8, [.ref a1, .ref a2, .ref a3, .ref a4, .ref a5, .int kp, .ref a6, .ref a7, .ref a8, .ref a9, .ref a10, .ref a11, .ref a12, .ref a13, .int tf, .int tu, .int od])), (a6, .inl (Z.2 4, 4, .inr (.inr (.inr (.inr sf))))), (qS, .inr (4, [.int ln, .ref it])), (it, .inl (Z.2 2, len, .inr (.inl sg)))] U.heap ∧ va_K Z.1 vwCl (gT Z) U ∧ va_D (fun _ => True) [(h0, .inr (8, [.ref a1, .ref a2, .ref a3, .ref a4, .ref a5, .int kp, .ref a6, .ref a7, .ref a8, .ref a9, .ref a10, .ref a11, .ref a12, .ref a13, .int tf, .int tu, .int od])), (a6, .inl (Z.2 4, 4, .inr (.inr (.inr (.inr sf))))), (qS, .inr (4, [.int ln, .ref it])), (it, .inl (Z.2 2, len, .inr (.inl sg)))])) (va_Qi (fun (r : Int32) (u : (Nat → Option Nat)) => match u with | sf1 => r = zDropA sl a ∧ sf1 = va_up sf a.toNatClampNeg none) (fun (u : (Nat → Option Nat)) (t9 : State) => match u with | sf1 => va_P Z.1 vwCl [(h0, .inr (8, [.ref a1, .ref a2, .ref a3, .ref a4, .ref a5, .int kp, .ref a6, .ref a7, .ref a8, .ref a9, .ref a10, .ref a11, .ref a12, .ref a13, .int tf, .int tu, .int od])), (a6, .inl (Z.2 4, 4, .inr (.inr (.inr (.inr sf1)))))] t9.heap ∧ va_D (va_A [(h0, .inr (8, [.ref a1, .ref a2, .ref a3, .ref a4, .ref a5, .int kp, .ref a6, .ref a7, .ref a8, .ref a9, .ref a10, .ref a11, .ref a12, .ref a13, .int tf, .int tu, .int od])), (a6, .inl (Z.2 4, 4, .inr (.inr (.inr (.inr sf))))), (qS, .inr (4, [.int ln, .ref it])), (it, .inl (Z.2 2, len, .inr (.inl sg)))] sz) [(h0, .inr (8, [.ref a1, .ref a2, .ref a3, .ref a4, .ref a5, .int kp, .ref a6, .ref a7, .ref a8, .ref a9, .ref a10, .ref a11, .ref a12, .ref a13, .int tf, .int tu, .int od])), (a6, .inl (Z.2 4, 4, .inr (.inr (.inr (.inr sf1)))))]) (va_A [(h0, .inr (8, [.ref a1, .ref a2, .ref a3, .ref a4, .ref a5, .int kp, .ref a6, .ref a7, .ref a8, .ref a9, .ref a10, .ref a11, .ref a12, .ref a13, .int tf, .int tu, .int od])), (a6, .inl (Z.2 4, 4, .inr (.inr (.inr (.inr sf))))), (qS, .inr (4, [.int ln, .ref it])), (it, .inl (Z.2 2, len, .inr (.inl sg)))] sz)) 0 0 (va_A [(h0, .inr (8, [.ref a1, .ref a2, .ref a3, .ref a4, .ref a5, .int kp, .ref a6, .ref a7, .ref a8, .ref a9, .ref a10, .ref a11, .ref a12, .ref a13, .int tf, .int tu, .int od])), (a6, .inl (Z.2 4, 4, .inr (.inr (.inr (.inr sf))))), (qS, .inr (4, [.int ln, .ref it])), (it, .inl (Z.2 2, len, .inr (.inl sg)))] sz) := by
  refine Met.ofW (cc := cX8_drop) (maxL := 3) (ret := (some .int)) (by decide) rfl ?_
  intro p e s m args below meth c s₁ B hml hv
  obtain ⟨rfl, hsz, hP, hK, hD0⟩ := hv
  have hx := B.exec
  have hb := B.bytes
  have hr := B.returns
  have hts := atoms_spec (ws := wsX8_drop) B.pre
  have hown : s.vm.findClass RX8 = some m.cls := findClass_of_methodNamed B.named
  have hlocks := B.notSynchronized
  subst hsz
  have hin4 : ∀ w ∈ wsX40, w ∈ wsX8_drop := fun w h9 => (List.mem_cons_of_mem _ (List.mem_append_right _ h9))
  have hin8 : ∀ w ∈ wsX80, w ∈ wsX8_drop := fun w h9 => (List.mem_cons_of_mem _ (List.mem_append_left _ (List.mem_append_right _ h9)))
  have hD := hD0.self (sz := s.heap.size)
  generalize hAe : va_A [(h0, .inr (8, [.ref a1, .ref a2, .ref a3, .ref a4, .ref a5, .int kp, .ref a6, .ref a7, .ref a8, .ref a9, .ref a10, .ref a11, .ref a12, .ref a13, .int tf, .int tu, .int od])), (a6, .inl (Z.2 4, 4, .inr (.inr (.inr (.inr sf))))), (qS, .inr (4, [.int ln, .ref it])), (it, .inl (Z.2 2, len, .inr (.inl sg)))] s.heap.size = A at hD ⊢
  have hA : ∀ q : Nat, s.heap.size ≤ q → A q := fun q h => by rw [← hAe]; exact Or.inr h
  have hS : va_S A s.heap s.heap [] := va_S.rf
  have hP : va_P Z.1 vwCl [(h0, .inr (8, [.ref a1, .ref a2, .ref a3, .ref a4, .ref a5, .int kp, .ref a6, .ref a7, .ref a8, .ref a9, .ref a10, .ref a11, .ref a12, .ref a13, .int tf, .int tu, .int od])), (a6, .inl (Z.2 4, 4, .inr (.inr (.inr (.inr sf))))), (qS, .inr (4, [.int ln, .ref it])), (it, .inl (Z.2 2, len, .inr (.inl sg)))] s.heap := hP
  have hl := lv_entry ([.ref h0, .int a]) (n := 3) (Nat.le_of_ble_eq_true rfl)
  rw [lg_entry_eq]
  generalize (lg_sl ([.ref h0, .int a]) ++ List.replicate (3 - (lg_sl ([.ref h0, .int a])).length) Slot.unset).toArray = ls at hl ⊢
  have hl : lv_has ls 3 [(0, .ref h0), (1, .int a)] := hl
  refine lv_iload_n hx hb dX8_drop_0 rfl (lv_at hl 1 rfl) ?_
  have hPc := hP.sub (ws' := []) [] rfl
  have hDc := hD.sub (ws' := []) [] (by decide +kernel) rfl
  have hFc := va_free (wc := []) hD hS hA [] rfl
  refine va_calli (va_runS (As := [.int a]) (rest := []) ⟨hx, hb, hml, hown, hts⟩ (c_X8_isSheet l Z s.heap.size a) (va_cwS 1 hts gX8_drop_X8_isSheet rfl rfl rfl (by decide +kernel) ⟨Nat.le_of_ble_eq_true rfl, Nat.le_of_ble_eq_true rfl⟩) ⟨fun a U g mk q => by obtain ⟨q0, q1, qP, qK, qD⟩ := q; exact ⟨q0, q1, qP, va_K.moved (u := U) (U := U.calling g mk a) (Vm.Alike.refl U.vm) qK, qD⟩, fun U hU hW => ⟨rfl, by rw [hU], by rw [hU]; exact hPc, va_K.moved hW.alike hK, hDc.weaken (fun _ _ _ _ => trivial)⟩⟩ rfl rfl hl.1 rfl (lv_room (Nat.le_of_ble_eq_true rfl)) dX8_drop_1 ⟨Nat.le_of_ble_eq_true rfl, Nat.le_of_ble_eq_true rfl⟩) hS (fun q _ h => hFc q h) hFc (fun r_1 u t9 H1 locs ht hvm hw hB hz1 hk1 hS => ?_)
  obtain rfl : 1 = r_1 := (hw.trans (z_shv ha)).symm
  have hP1 : va_P Z.1 vwCl [] H1 := fun k q h => by simp at h
  have hD1 : va_D (va_A [] s.heap.size) [] := ⟨fun i j p q h => by simp at h, fun k q h => by simp at h⟩
  obtain ⟨hP, hD⟩ := va_join (wr := [(h0, .inr (8, [.ref a1, .ref a2, .ref a3, .ref a4, .ref a5, .int kp, .ref a6, .ref a7, .ref a8, .ref a9, .ref a10, .ref a11, .ref a12, .ref a13, .int tf, .int tu, .int od])), (a6, .inl (Z.2 4, 4, .inr (.inr (.inr (.inr sf))))), (qS, .inr (4, [.int ln, .ref it])), (it, .inl (Z.2 2, len, .inr (.inl sg)))]) (w1 := []) hP hD [] [0, 1, 2, 3] rfl rfl (by decide +kernel) (by decide +kernel) hk1 hFc hP1 hD1
  clear hPc hDc hP1 hD1 hk1 hz1 hFc ht hvm
  generalize H1 = H at hP hS ⊢
  have hP : va_P Z.1 vwCl [(h0, .inr (8, [.ref a1, .ref a2, .ref a3, .ref a4, .ref a5, .int kp, .ref a6, .ref a7, .ref a8, .ref a9, .ref a10, .ref a11, .ref a12, .ref a13, .int tf, .int tu, .int od])), (a6, .inl (Z.2 4, 4, .inr (.inr (.inr (.inr sf))))), (qS, .inr (4, [.int ln, .ref it])), (it, .inl (Z.2 2, len, .inr (.inl sg)))] H := hP
  have hD : va_D A [(h0, .inr (8, [.ref a1, .ref a2, .ref a3, .ref a4, .ref a5, .int kp, .ref a6, .ref a7, .ref a8, .ref a9, .ref a10, .ref a11, .ref a12, .ref a13, .int tf, .int tu, .int od])), (a6, .inl (Z.2 4, 4, .inr (.inr (.inr (.inr sf))))), (qS, .inr (4, [.int ln, .ref it])), (it, .inl (Z.2 2, len, .inr (.inl sg)))] := hD
  refine lv_if_ne (tgt := 9) hx hb dX8_drop_4 (by decide) (fun _ => ?_) (fun c9 => absurd c9 (by decide))
  refine lv_aload_n hx hb dX8_drop_9 rfl (lv_at hl 0 rfl) ?_
  refine va_get (D := Z.1) (ci := 8) (v := .ref a6) (C := RX8) (T := TX8) (N := 17) hx hb hts hin8 hown hK hP 0 rfl rfl 6 (by decide) (hts (.fieldLink RX8 42 "HalfAsked" "sheets" "[LHalfAsked$Sheet;") (List.mem_of_getElem? (i := 1) rfl)) (fun _ h9 => h9) rfl dX8_drop_10 ?_
  refine lv_iload_n hx hb dX8_drop_13 rfl (lv_at hl 1 rfl) ?_
  refine va_aldq hx hb hK hP 1 4 rfl rfl ha dX8_drop_14 ?_
  refine W.eq (g2 := F0 m 15 ls [.ref qS]) (congrArg (fun z9 => F0 m 15 ls (va_rf z9 :: [])) (hsf)) ?_
  refine lv_astore_n (lv' := [(2, .ref qS), (0, .ref h0), (1, .int a)]) hx hb dX8_drop_15 rfl hl (by decide) rfl (fun ls hl => ?_)
  refine lv_aload_n hx hb dX8_drop_16 rfl (lv_at hl 0 rfl) ?_
  refine lv_ifnonnull (tgt := 23) hx hb dX8_drop_17 (by decide) ?_
  refine lv_aload_n hx hb dX8_drop_23 rfl (lv_at hl 1 rfl) ?_
  refine va_get (D := Z.1) (ci := 8) (v := .ref a6) (C := RX8) (T := TX8) (N := 17) hx hb hts hin8 hown hK hP 0 rfl rfl 6 (by decide) (hts (.fieldLink RX8 42 "HalfAsked" "sheets" "[LHalfAsked$Sheet;") (List.mem_of_getElem? (i := 1) rfl)) (fun _ h9 => h9) rfl dX8_drop_24 ?_
  refine lv_iload_n hx hb dX8_drop_27 rfl (lv_at hl 2 rfl) ?_
  refine lv_null hx hb dX8_drop_28 ?_
  refine va_astqN hx hb hK hP hD hS 1 4 rfl rfl ha dX8_drop_29 (fun H locs hP hD hS => ?_)
  have hP : va_P Z.1 vwCl [(h0, .inr (8, [.ref a1, .ref a2, .ref a3, .ref a4, .ref a5, .int kp, .ref a6, .ref a7, .ref a8, .ref a9, .ref a10, .ref a11, .ref a12, .ref a13, .int tf, .int tu, .int od])), (a6, .inl (Z.2 4, 4, .inr (.inr (.inr (.inr (va_up sf (a.toNatClampNeg) none)))))), (qS, .inr (4, [.int ln, .ref it])), (it, .inl (Z.2 2, len, .inr (.inl sg)))] H := hP
  have hD : va_D A [(h0, .inr (8, [.ref a1, .ref a2, .ref a3, .ref a4, .ref a5, .int kp, .ref a6, .ref a7, .ref a8, .ref a9, .ref a10, .ref a11, .ref a12, .ref a13, .int tf, .int tu, .int od])), (a6, .inl (Z.2 4, 4, .inr (.inr (.inr (.inr (va_up sf (a.toNatClampNeg) none)))))), (qS, .inr (4, [.int ln, .ref it])), (it, .inl (Z.2 2, len, .inr (.inl sg)))] := hD
  refine lv_aload_n hx hb dX8_drop_30 rfl (lv_at hl 0 rfl) ?_
  refine va_get (D := Z.1) (ci := 4) (v := .ref it) (C := RX4) (T := TX4) (N := 2) hx hb hts hin4 hown hK hP 2 rfl rfl 1 (by decide) (hts (.fieldLink RX8 260 "HalfAsked$Sheet" "items" "[J") (List.mem_of_getElem? (i := 2) rfl)) (fun _ h9 => h9) rfl dX8_drop_31 ?_
  refine va_alen (v := nI len) hx hb hK hP 3 2 rfl rfl rfl dX8_drop_34 ?_
  have hP9 := hP.sub (ws' := [(h0, .inr (8, [.ref a1, .ref a2, .ref a3, .ref a4, .ref a5, .int kp, .ref a6, .ref a7, .ref a8, .ref a9, .ref a10, .ref a11, .ref a12, .ref a13, .int tf, .int tu, .int od])), (a6, .inl (Z.2 4, 4, .inr (.inr (.inr (.inr (va_up sf (a.toNatClampNeg) none))))))]) [0, 1] rfl
  have hD9 := hD.sub (ws' := [(h0, .inr (8, [.ref a1, .ref a2, .ref a3, .ref a4, .ref a5, .int kp, .ref a6, .ref a7, .ref a8, .ref a9, .ref a10, .ref a11, .ref a12, .ref a13, .int tf, .int tu, .int od])), (a6, .inl (Z.2 4, 4, .inr (.inr (.inr (.inr (va_up sf (a.toNatClampNeg) none))))))]) [0, 1] (by decide +kernel) rfl
  exact W.iret (v := (nI len)) hx hb hr (fun t9 ht hW => ⟨⟨nI len, va_up sf (a.toNatClampNeg) none, rfl, ⟨by unfold zDropA; rw [zI_p ha, hsl], rfl⟩, by rw [ht]; exact hP9, hD9⟩, hS.F ht⟩) hS.2.2 dX8_drop_35
set_option maxHeartbeats 4000000 in
set_option maxRecDepth 100000 in
theorem c_X8_sheet_B (l : Launch) (Z : gZ) (sz : Nat) (h0 : Nat) (a1 : Nat) (a2 : Nat) (a3 : Nat) (a4 : Nat) (a5 : Nat) (a6 : Nat) (a7 : Nat) (a8 : Nat) (a9 : Nat) (a10 : Nat) (a11 : Nat) (a12 : Nat) (a13 : Nat) (kp : Int32) (tf : Int32) (tu : Int32) (od : Int32) (sf : Nat → Option Nat) (a : Int32) (b : Int32) (d : Int32) (hno : ¬ (((vp_in a 4 ∧ vp_in b 3) ∧ d ≤ 24) ∧ 0 ≤ d)) : Met l yX8_sheet wsX8_sheet ({ frames := 1, cells := 0, slots := 0, locals := 20 }) (va_Pc [.ref h0, .int a, .int b, .int d] (fun U => U.heap.size = sz ∧ va_P Z.1 vwCl [(h0, .inr (8, [.ref a1, .ref a2, .ref a3, .ref a4, .ref a5, .int kp, .ref a6, .ref a7, .ref a8, .ref a9, .ref a10, .ref a11, .ref a12, .ref a13, .int tf, .int tu, .int od])), (a6, .inl (Z.2 4, 4, .inr (.inr (.inr (.inr sf)))))] U.heap ∧ va_K Z.1 vwCl (gT Z) U ∧ va_D (fun _ => True) [(h0, .inr (8, [.ref a1, .ref a2, .ref a3, .ref a4, .ref a5, .int kp, .ref a6, .ref a7, .ref a8, .ref a9, .ref a10, .ref a11, .ref a12, .ref a13, .int tf, .int tu, .int od])), (a6, .inl (Z.2 4, 4, .inr (.inr (.inr (.inr sf)))))] ∧ gN Z U)) (va_Qi (fun (r : Int32) (u : Unit) => r = zSheetA a b d) (fun (u : Unit) (t9 : State) => va_P Z.1 vwCl [(h0, .inr (8, [.ref a1, .ref a2, .ref a3, .ref a4, .ref a5, .int kp, .ref a6, .ref a7, .ref a8, .ref a9, .ref a10, .ref a11, .ref a12, .ref a13, .int tf, .int tu, .int od])), (a6, .inl (Z.2 4, 4, .inr (.inr (.inr (.inr sf)))))] t9.heap ∧ va_D (va_A [(h0, .inr (8, [.ref a1, .ref a2, .ref a3, .ref a4, .ref a5, .int kp, .ref a6, .ref a7, .ref a8, .ref a9, .ref a10, .ref a11, .ref a12, .ref a13, .int tf, .int tu, .int od])), (a6, .inl (Z.2 4, 4, .inr (.inr (.inr (.inr sf)))))] sz) [(h0, .inr (8, [.ref a1, .ref a2, .ref a3, .ref a4, .ref a5, .int kp, .ref a6, .ref a7, .ref a8, .ref a9, .ref a10, .ref a11, .ref a12, .ref a13, .int tf, .int tu, .int od])), (a6, .inl (Z.2 4, 4, .inr (.inr (.inr (.inr sf)))))]) (va_A [(h0, .inr (8, [.ref a1, .ref a2, .ref a3, .ref a4, .ref a5, .int kp, .ref a6, .ref a7, .ref a8, .ref a9, .ref a10, .ref a11, .ref a12, .ref a13, .int tf, .int tu, .int od])), (a6, .inl (Z.2 4, 4, .inr (.inr (.inr (.inr sf)))))] sz)) 0 0 (va_A [(h0, .inr (8, [.ref a1, .ref a2, .ref a3, .ref a4, .ref a5, .int kp, .ref a6, .ref a7, .ref a8, .ref a9, .ref a10, .ref a11, .ref a12, .ref a13, .int tf, .int tu, .int od])), (a6, .inl (Z.2 4, 4, .inr (.inr (.inr (.inr sf)))))] sz) := by
  refine Met.ofW (cc := cX8_sheet) (maxL := 4) (ret := (some .int)) (by decide) rfl ?_
  intro p e s m args below meth c s₁ B hml hv
  obtain ⟨rfl, hsz, hP, hK, hD0, hN⟩ := hv
  have hx := B.exec
  have hb := B.bytes
  have hr := B.returns
  have hts := atoms_spec (ws := wsX8_sheet) B.pre
  have hown : s.vm.findClass RX8 = some m.cls := findClass_of_methodNamed B.named
  have hlocks := B.notSynchronized
  subst hsz
  have hD := hD0.self (sz := s.heap.size)
  generalize hAe : va_A [(h0, .inr (8, [.ref a1, .ref a2, .ref a3, .ref a4, .ref a5, .int kp, .ref a6, .ref a7, .ref a8, .ref a9, .ref a10, .ref a11, .ref a12, .ref a13, .int tf, .int tu, .int od])), (a6, .inl (Z.2 4, 4, .inr (.inr (.inr (.inr sf)))))] s.heap.size = A at hD ⊢
  have hA : ∀ q : Nat, s.heap.size ≤ q → A q := fun q h => by rw [← hAe]; exact Or.inr h
  have hS : va_S A s.heap s.heap [] := va_S.rf
  have hP : va_P Z.1 vwCl [(h0, .inr (8, [.ref a1, .ref a2, .ref a3, .ref a4, .ref a5, .int kp, .ref a6, .ref a7, .ref a8, .ref a9, .ref a10, .ref a11, .ref a12, .ref a13, .int tf, .int tu, .int od])), (a6, .inl (Z.2 4, 4, .inr (.inr (.inr (.inr sf)))))] s.heap := hP
  have hl := lv_entry ([.ref h0, .int a, .int b, .int d]) (n := 4) (Nat.le_of_ble_eq_true rfl)
  rw [lg_entry_eq]
  generalize (lg_sl ([.ref h0, .int a, .int b, .int d]) ++ List.replicate (4 - (lg_sl ([.ref h0, .int a, .int b, .int d])).length) Slot.unset).toArray = ls at hl ⊢
  have hl : lv_has ls 4 [(0, .ref h0), (1, .int a), (2, .int b), (3, .int d)] := hl
  refine lv_iload_n hx hb dX8_sheet_0 rfl (lv_at hl 1 rfl) ?_
  have hPc := hP.sub (ws' := []) [] rfl
  have hDc := hD.sub (ws' := []) [] (by decide +kernel) rfl
  have hFc := va_free (wc := []) hD hS hA [] rfl
  refine va_calli (va_runS (As := [.int a]) (rest := []) ⟨hx, hb, hml, hown, hts⟩ (c_X8_isSheet l Z s.heap.size a) (va_cwS 1 hts gX8_sheet_X8_isSheet rfl rfl rfl (by decide +kernel) ⟨Nat.le_of_ble_eq_true rfl, Nat.le_of_ble_eq_true rfl⟩) ⟨fun a U g mk q => by obtain ⟨q0, q1, qP, qK, qD⟩ := q; exact ⟨q0, q1, qP, va_K.moved (u := U) (U := U.calling g mk a) (Vm.Alike.refl U.vm) qK, qD⟩, fun U hU hW => ⟨rfl, by rw [hU], by rw [hU]; exact hPc, va_K.moved hW.alike hK, hDc.weaken (fun _ _ _ _ => trivial)⟩⟩ rfl rfl hl.1 rfl (lv_room (Nat.le_of_ble_eq_true rfl)) dX8_sheet_1 ⟨Nat.le_of_ble_eq_true rfl, Nat.le_of_ble_eq_true rfl⟩) hS (fun q _ h => hFc q h) hFc (fun r_1 u t9 H1 locs ht hvm hw hB hz1 hk1 hS => ?_)
  have hw9 := hw.symm
  clear hw
  subst hw9
  have hP1 : va_P Z.1 vwCl [] H1 := fun k q h => by simp at h
  have hD1 : va_D (va_A [] s.heap.size) [] := ⟨fun i j p q h => by simp at h, fun k q h => by simp at h⟩
  obtain ⟨hP, hD⟩ := va_join (wr := [(h0, .inr (8, [.ref a1, .ref a2, .ref a3, .ref a4, .ref a5, .int kp, .ref a6, .ref a7, .ref a8, .ref a9, .ref a10, .ref a11, .ref a12, .ref a13, .int tf, .int tu, .int od])), (a6, .inl (Z.2 4, 4, .inr (.inr (.inr (.inr sf)))))]) (w1 := []) hP hD [] [0, 1] rfl rfl (by decide +kernel) (by decide +kernel) hk1 hFc hP1 hD1
  clear hPc hDc hP1 hD1 hk1 hz1 hFc ht hvm
  generalize H1 = H at hP hS ⊢
  have hP : va_P Z.1 vwCl [(h0, .inr (8, [.ref a1, .ref a2, .ref a3, .ref a4, .ref a5, .int kp, .ref a6, .ref a7, .ref a8, .ref a9, .ref a10, .ref a11, .ref a12, .ref a13, .int tf, .int tu, .int od])), (a6, .inl (Z.2 4, 4, .inr (.inr (.inr (.inr sf)))))] H := hP
  have hD : va_D A [(h0, .inr (8, [.ref a1, .ref a2, .ref a3, .ref a4, .ref a5, .int kp, .ref a6, .ref a7, .ref a8, .ref a9, .ref a10, .ref a11, .ref a12, .ref a13, .int tf, .int tu, .int od])), (a6, .inl (Z.2 4, 4, .inr (.inr (.inr (.inr sf)))))] := hD
  refine lv_if_eq (tgt := 20) hx hb dX8_sheet_4 (by decide) (fun c_2 => ?_) (fun c_2 => ?_)
  · refine lv_iconst (v := (-1)) hx hb dX8_sheet_20 (by decide) ?_
    have hP9 := hP.sub (ws' := [(h0, .inr (8, [.ref a1, .ref a2, .ref a3, .ref a4, .ref a5, .int kp, .ref a6, .ref a7, .ref a8, .ref a9, .ref a10, .ref a11, .ref a12, .ref a13, .int tf, .int tu, .int od])), (a6, .inl (Z.2 4, 4, .inr (.inr (.inr (.inr sf)))))]) [0, 1] rfl
    have hD9 := hD.sub (ws' := [(h0, .inr (8, [.ref a1, .ref a2, .ref a3, .ref a4, .ref a5, .int kp, .ref a6, .ref a7, .ref a8, .ref a9, .ref a10, .ref a11, .ref a12, .ref a13, .int tf, .int tu, .int od])), (a6, .inl (Z.2 4, 4, .inr (.inr (.inr (.inr sf)))))]) [0, 1] (by decide +kernel) rfl
    exact W.iret (v := (-1)) hx hb hr (fun t9 ht hW => ⟨⟨(-1), (), rfl, (zI_n (fun q => z_sh0 c_2 q.1.1)).symm, by rw [ht]; exact hP9, hD9⟩, hS.F ht⟩) hS.2.2 dX8_sheet_21
  · refine lv_iload_n hx hb dX8_sheet_7 rfl (lv_at hl 2 rfl) ?_
    have hPc := hP.sub (ws' := []) [] rfl
    have hDc := hD.sub (ws' := []) [] (by decide +kernel) rfl
    have hFc := va_free (wc := []) hD hS hA [] rfl
    refine va_calli (va_runS (As := [.int b]) (rest := []) ⟨hx, hb, hml, hown, hts⟩ (c_X8_isLane l Z H.size b) (va_cwS 1 hts gX8_sheet_X8_isLane rfl rfl rfl (by decide +kernel) ⟨Nat.le_of_ble_eq_true rfl, Nat.le_of_ble_eq_true rfl⟩) ⟨fun a U g mk q => by obtain ⟨q0, q1, qP, qK, qD⟩ := q; exact ⟨q0, q1, qP, va_K.moved (u := U) (U := U.calling g mk a) (Vm.Alike.refl U.vm) qK, qD⟩, fun U hU hW => ⟨rfl, by rw [hU], by rw [hU]; exact hPc, va_K.moved hW.alike hK, hDc.weaken (fun _ _ _ _ => trivial)⟩⟩ rfl rfl hl.1 rfl (lv_room (Nat.le_of_ble_eq_true rfl)) dX8_sheet_8 ⟨Nat.le_of_ble_eq_true rfl, Nat.le_of_ble_eq_true rfl⟩) hS (fun q _ h => hFc q h) hFc (fun r_3 u t9 H1 locs ht hvm hw hB hz1 hk1 hS => ?_)
    have hw9 := hw.symm
    clear hw
    subst hw9
    have hP1 : va_P Z.1 vwCl [] H1 := fun k q h => by simp at h
    have hD1 : va_D (va_A [] H.size) [] := ⟨fun i j p q h => by simp at h, fun k q h => by simp at h⟩
    obtain ⟨hP, hD⟩ := va_join (wr := [(h0, .inr (8, [.ref a1, .ref a2, .ref a3, .ref a4, .ref a5, .int kp, .ref a6, .ref a7, .ref a8, .ref a9, .ref a10, .ref a11, .ref a12, .ref a13, .int tf, .int tu, .int od])), (a6, .inl (Z.2 4, 4, .inr (.inr (.inr (.inr sf)))))]) (w1 := []) hP hD [] [0, 1] rfl rfl (by decide +kernel) (by decide +kernel) hk1 hFc hP1 hD1
    clear hPc hDc hP1 hD1 hk1 hz1 hFc ht hvm
    generalize H1 = H at hP hS ⊢
    have hP : va_P Z.1 vwCl [(h0, .inr (8, [.ref a1, .ref a2, .ref a3, .ref a4, .ref a5, .int kp, .ref a6, .ref a7, .ref a8, .ref a9, .ref a10, .ref a11, .ref a12, .ref a13, .int tf, .int tu, .int od])), (a6, .inl (Z.2 4, 4, .inr (.inr (.inr (.inr sf)))))] H := hP
    have hD : va_D A [(h0, .inr (8, [.ref a1, .ref a2, .ref a3, .ref a4, .ref a5, .int kp, .ref a6, .ref a7, .ref a8, .ref a9, .ref a10, .ref a11, .ref a12, .ref a13, .int tf, .int tu, .int od])), (a6, .inl (Z.2 4, 4, .inr (.inr (.inr (.inr sf)))))] := hD
    refine lv_if_eq (tgt := 20) hx hb dX8_sheet_11 (by decide) (fun c_4 => ?_) (fun c_4 => ?_)
    · refine lv_iconst (v := (-1)) hx hb dX8_sheet_20 (by decide) ?_
      have hP9 := hP.sub (ws' := [(h0, .inr (8, [.ref a1, .ref a2, .ref a3, .ref a4, .ref a5, .int kp, .ref a6, .ref a7, .ref a8, .ref a9, .ref a10, .ref a11, .ref a12, .ref a13, .int tf, .int tu, .int od])), (a6, .inl (Z.2 4, 4, .inr (.inr (.inr (.inr sf)))))]) [0, 1] rfl
      have hD9 := hD.sub (ws' := [(h0, .inr (8, [.ref a1, .ref a2, .ref a3, .ref a4, .ref a5, .int kp, .ref a6, .ref a7, .ref a8, .ref a9, .ref a10, .ref a11, .ref a12, .ref a13, .int tf, .int tu, .int od])), (a6, .inl (Z.2 4, 4, .inr (.inr (.inr (.inr sf)))))]) [0, 1] (by decide +kernel) rfl
      exact W.iret (v := (-1)) hx hb hr (fun t9 ht hW => ⟨⟨(-1), (), rfl, (zI_n (fun q => z_la0 c_4 q.1.2)).symm, by rw [ht]; exact hP9, hD9⟩, hS.F ht⟩) hS.2.2 dX8_sheet_21
    · refine lv_iload_n hx hb dX8_sheet_14 rfl (lv_at hl 3 rfl) ?_
      refine lv_bipush (v := 24) hx hb dX8_sheet_15 (by decide) ?_
      refine lv_icmp_le (tgt := 22) hx hb dX8_sheet_17 (by decide) (fun c_5 => ?_) (fun c_5 => ?_)
      · refine lv_iload_n hx hb dX8_sheet_22 rfl (lv_at hl 3 rfl) ?_
        refine lv_if_ge (tgt := 29) hx hb dX8_sheet_23 (by decide) (fun c_6 => ?_) (fun c_6 => ?_)
        · exact absurd ⟨⟨⟨z_sh c_2, z_la1 c_4⟩, c_5⟩, c_6⟩ hno
        · refine lv_bipush (v := (-14)) hx hb dX8_sheet_26 (by decide) ?_
          have hP9 := hP.sub (ws' := [(h0, .inr (8, [.ref a1, .ref a2, .ref a3, .ref a4, .ref a5, .int kp, .ref a6, .ref a7, .ref a8, .ref a9, .ref a10, .ref a11, .ref a12, .ref a13, .int tf, .int tu, .int od])), (a6, .inl (Z.2 4, 4, .inr (.inr (.inr (.inr sf)))))]) [0, 1] rfl
          have hD9 := hD.sub (ws' := [(h0, .inr (8, [.ref a1, .ref a2, .ref a3, .ref a4, .ref a5, .int kp, .ref a6, .ref a7, .ref a8, .ref a9, .ref a10, .ref a11, .ref a12, .ref a13, .int tf, .int tu, .int od])), (a6, .inl (Z.2 4, 4, .inr (.inr (.inr (.inr sf)))))]) [0, 1] (by decide +kernel) rfl
          exact W.iret (v := (-14)) hx hb hr (fun t9 ht hW => ⟨⟨(-14), (), rfl, ((zI_p ⟨⟨z_sh c_2, z_la1 c_4⟩, c_5⟩).trans (zI_p (Int32.not_le.mp c_6))).symm, by rw [ht]; exact hP9, hD9⟩, hS.F ht⟩) hS.2.2 dX8_sheet_28
      · refine lv_iconst (v := (-1)) hx hb dX8_sheet_20 (by decide) ?_
        have hP9 := hP.sub (ws' := [(h0, .inr (8, [.ref a1, .ref a2, .ref a3, .ref a4, .ref a5, .int kp, .ref a6, .ref a7, .ref a8, .ref a9, .ref a10, .ref a11, .ref a12, .ref a13, .int tf, .int tu, .int od])), (a6, .inl (Z.2 4, 4, .inr (.inr (.inr (.inr sf)))))]) [0, 1] rfl
        have hD9 := hD.sub (ws' := [(h0, .inr (8, [.ref a1, .ref a2, .ref a3, .ref a4, .ref a5, .int kp, .ref a6, .ref a7, .ref a8, .ref a9, .ref a10, .ref a11, .ref a12, .ref a13, .int tf, .int tu, .int od])), (a6, .inl (Z.2 4, 4, .inr (.inr (.inr (.inr sf)))))]) [0, 1] (by decide +kernel) rfl
        exact W.iret (v := (-1)) hx hb hr (fun t9 ht hW => ⟨⟨(-1), (), rfl, (zI_n (fun q => c_5 q.2)).symm, by rw [ht]; exact hP9, hD9⟩, hS.F ht⟩) hS.2.2 dX8_sheet_21
set_option maxHeartbeats 4000000 in
set_option maxRecDepth 100000 in
theorem c_X8_sheet_G (l : Launch) (Z : gZ) (sz : Nat) (h0 : Nat) (a1 : Nat) (a2 : Nat) (a3 : Nat) (a4 : Nat) (a5 : Nat) (a6 : Nat) (a7 : Nat) (a8 : Nat) (a9 : Nat) (a10 : Nat) (a11 : Nat) (a12 : Nat) (a13 : Nat) (kp : Int32) (tf : Int32) (tu : Int32) (od : Int32) (sf : Nat → Option Nat) (a : Int32) (b : Int32) (j : Nat) (ha : vp_in a 4) (hb3 : vp_in b 3) (hj : j ≤ 24) : Met l yX8_sheet wsX8_sheet ({ frames := 2, cells := 2, slots := 26, locals := 51 }) (va_Pc [.ref h0, .int a, .int b, .int (nI j)] (fun U => U.heap.size = sz ∧ va_P Z.1 vwCl [(h0, .inr (8, [.ref a1, .ref a2, .ref a3, .ref a4, .ref a5, .int kp, .ref a6, .ref a7, .ref a8, .ref a9, .ref a10, .ref a11, .ref a12, .ref a13, .int tf, .int tu, .int od])), (a6, .inl (Z.2 4, 4, .inr (.inr (.inr (.inr sf)))))] U.heap ∧ va_K Z.1 vwCl (gT Z) U ∧ va_D (fun _ => True) [(h0, .inr (8, [.ref a1, .ref a2, .ref a3, .ref a4, .ref a5, .int kp, .ref a6, .ref a7, .ref a8, .ref a9, .ref a10, .ref a11, .ref a12, .ref a13, .int tf, .int tu, .int od])), (a6, .inl (Z.2 4, 4, .inr (.inr (.inr (.inr sf)))))] ∧ gN Z U)) (va_Qi (fun (r : Int32) (u : Nat × Nat × (Nat → Option Nat)) => match u with | (qS, it, sf1) => r = zSheetA a b (nI j) ∧ sf1 = va_up sf a.toNatClampNeg (some qS)) (fun (u : Nat × Nat × (Nat → Option Nat)) (t9 : State) => match u with | (qS, it, sf1) => va_P Z.1 vwCl [(h0, .inr (8, [.ref a1, .ref a2, .ref a3, .ref a4, .ref a5, .int kp, .ref a6, .ref a7, .ref a8, .ref a9, .ref a10, .ref a11, .ref a12, .ref a13, .int tf, .int tu, .int od])), (a6, .inl (Z.2 4, 4, .inr (.inr (.inr (.inr sf1))))), (qS, .inr (4, [.int b, .ref it])), (it, .inl (Z.2 2, j, .inr (.inl (fun _ => 0))))] t9.heap ∧ va_D (va_A [(h0, .inr (8, [.ref a1, .ref a2, .ref a3, .ref a4, .ref a5, .int kp, .ref a6, .ref a7, .ref a8, .ref a9, .ref a10, .ref a11, .ref a12, .ref a13, .int tf, .int tu, .int od])), (a6, .inl (Z.2 4, 4, .inr (.inr (.inr (.inr sf)))))] sz) [(h0, .inr (8, [.ref a1, .ref a2, .ref a3, .ref a4, .ref a5, .int kp, .ref a6, .ref a7, .ref a8, .ref a9, .ref a10, .ref a11, .ref a12, .ref a13, .int tf, .int tu, .int od])), (a6, .inl (Z.2 4, 4, .inr (.inr (.inr (.inr sf1))))), (qS, .inr (4, [.int b, .ref it])), (it, .inl (Z.2 2, j, .inr (.inl (fun _ => 0))))]) (va_A [(h0, .inr (8, [.ref a1, .ref a2, .ref a3, .ref a4, .ref a5, .int kp, .ref a6, .ref a7, .ref a8, .ref a9, .ref a10, .ref a11, .ref a12, .ref a13, .int tf, .int tu, .int od])), (a6, .inl (Z.2 4, 4, .inr (.inr (.inr (.inr sf)))))] sz)) 2 26 (va_A [(h0, .inr (8, [.ref a1, .ref a2, .ref a3, .ref a4, .ref a5, .int kp, .ref a6, .ref a7, .ref a8, .ref a9, .ref a10, .ref a11, .ref a12, .ref a13, .int tf, .int tu, .int od])), (a6, .inl (Z.2 4, 4, .inr (.inr (.inr (.inr sf)))))] sz) := by
  refine Met.ofW (cc := cX8_sheet) (maxL := 4) (ret := (some .int)) (by decide) rfl ?_
  intro p e s m args below meth c s₁ B hml hv
  obtain ⟨rfl, hsz, hP, hK, hD0, hN⟩ := hv
  have hx := B.exec
  have hb := B.bytes
  have hr := B.returns
  have hts := atoms_spec (ws := wsX8_sheet) B.pre
  have hown : s.vm.findClass RX8 = some m.cls := findClass_of_methodNamed B.named
  have hlocks := B.notSynchronized
  subst hsz
  have hin4 : ∀ w ∈ wsX40, w ∈ wsX8_sheet := fun w h9 => (List.mem_cons_of_mem _ (List.mem_append_right _ h9))
  have hin8 : ∀ w ∈ wsX80, w ∈ wsX8_sheet := fun w h9 => (List.mem_cons_of_mem _ (List.mem_append_left _ (List.mem_append_right _ h9)))
  have hD := hD0.self (sz := s.heap.size)
  generalize hAe : va_A [(h0, .inr (8, [.ref a1, .ref a2, .ref a3, .ref a4, .ref a5, .int kp, .ref a6, .ref a7, .ref a8, .ref a9, .ref a10, .ref a11, .ref a12, .ref a13, .int tf, .int tu, .int od])), (a6, .inl (Z.2 4, 4, .inr (.inr (.inr (.inr sf)))))] s.heap.size = A at hD ⊢
  have hA : ∀ q : Nat, s.heap.size ≤ q → A q := fun q h => by rw [← hAe]; exact Or.inr h
  have hS : va_S A s.heap s.heap [] := va_S.rf
  have hP : va_P Z.1 vwCl [(h0, .inr (8, [.ref a1, .ref a2, .ref a3, .ref a4, .ref a5, .int kp, .ref a6, .ref a7, .ref a8, .ref a9, .ref a10, .ref a11, .ref a12, .ref a13, .int tf, .int tu, .int od])), (a6, .inl (Z.2 4, 4, .inr (.inr (.inr (.inr sf)))))] s.heap := hP
  have hl := lv_entry ([.ref h0, .int a, .int b, .int (nI j)]) (n := 4) (Nat.le_of_ble_eq_true rfl)
  rw [lg_entry_eq]
  generalize (lg_sl ([.ref h0, .int a, .int b, .int (nI j)]) ++ List.replicate (4 - (lg_sl ([.ref h0, .int a, .int b, .int (nI j)])).length) Slot.unset).toArray = ls at hl ⊢
  have hl : lv_has ls 4 [(0, .ref h0), (1, .int a), (2, .int b), (3, .int (nI j))] := hl
  refine lv_iload_n hx hb dX8_sheet_0 rfl (lv_at hl 1 rfl) ?_
  have hPc := hP.sub (ws' := []) [] rfl
  have hDc := hD.sub (ws' := []) [] (by decide +kernel) rfl
  have hFc := va_free (wc := []) hD hS hA [] rfl
  refine va_calli (va_runS (As := [.int a]) (rest := []) ⟨hx, hb, hml, hown, hts⟩ (c_X8_isSheet l Z s.heap.size a) (va_cwS 1 hts gX8_sheet_X8_isSheet rfl rfl rfl (by decide +kernel) ⟨Nat.le_of_ble_eq_true rfl, Nat.le_of_ble_eq_true rfl⟩) ⟨fun a U g mk q => by obtain ⟨q0, q1, qP, qK, qD⟩ := q; exact ⟨q0, q1, qP, va_K.moved (u := U) (U := U.calling g mk a) (Vm.Alike.refl U.vm) qK, qD⟩, fun U hU hW => ⟨rfl, by rw [hU], by rw [hU]; exact hPc, va_K.moved hW.alike hK, hDc.weaken (fun _ _ _ _ => trivial)⟩⟩ rfl rfl hl.1 rfl (lv_room (Nat.le_of_ble_eq_true rfl)) dX8_sheet_1 ⟨Nat.le_of_ble_eq_true rfl, Nat.le_of_ble_eq_true rfl⟩) hS (fun q _ h => hFc q h) hFc (fun r_1 u t9 H1 locs ht hvm hw hB hz1 hk1 hS => ?_)
  obtain rfl : 1 = r_1 := (hw.trans (z_shv ha)).symm
  have hP1 : va_P Z.1 vwCl [] H1 := fun k q h => by simp at h
  have hD1 : va_D (va_A [] s.heap.size) [] := ⟨fun i j p q h => by simp at h, fun k q h => by simp at h⟩
  obtain ⟨hP, hD⟩ := va_join (wr := [(h0, .inr (8, [.ref a1, .ref a2, .ref a3, .ref a4, .ref a5, .int kp, .ref a6, .ref a7, .ref a8, .ref a9, .ref a10, .ref a11, .ref a12, .ref a13, .int tf, .int tu, .int od])), (a6, .inl (Z.2 4, 4, .inr (.inr (.inr (.inr sf)))))]) (w1 := []) hP hD [] [0, 1] rfl rfl (by decide +kernel) (by decide +kernel) hk1 hFc hP1 hD1
  clear hPc hDc hP1 hD1 hk1 hz1 hFc ht hvm
  generalize H1 = H at hP hS ⊢
  have hP : va_P Z.1 vwCl [(h0, .inr (8, [.ref a1, .ref a2, .ref a3, .ref a4, .ref a5, .int kp, .ref a6, .ref a7, .ref a8, .ref a9, .ref a10, .ref a11, .ref a12, .ref a13, .int tf, .int tu, .int od])), (a6, .inl (Z.2 4, 4, .inr (.inr (.inr (.inr sf)))))] H := hP
  have hD : va_D A [(h0, .inr (8, [.ref a1, .ref a2, .ref a3, .ref a4, .ref a5, .int kp, .ref a6, .ref a7, .ref a8, .ref a9, .ref a10, .ref a11, .ref a12, .ref a13, .int tf, .int tu, .int od])), (a6, .inl (Z.2 4, 4, .inr (.inr (.inr (.inr sf)))))] := hD
  refine lv_if_eq (tgt := 20) hx hb dX8_sheet_4 (by decide) (fun c9 => absurd c9 (by decide)) (fun _ => ?_)
  refine lv_iload_n hx hb dX8_sheet_7 rfl (lv_at hl 2 rfl) ?_
  have hPc := hP.sub (ws' := []) [] rfl
  have hDc := hD.sub (ws' := []) [] (by decide +kernel) rfl
  have hFc := va_free (wc := []) hD hS hA [] rfl
  refine va_calli (va_runS (As := [.int b]) (rest := []) ⟨hx, hb, hml, hown, hts⟩ (c_X8_isLane l Z H.size b) (va_cwS 1 hts gX8_sheet_X8_isLane rfl rfl rfl (by decide +kernel) ⟨Nat.le_of_ble_eq_true rfl, Nat.le_of_ble_eq_true rfl⟩) ⟨fun a U g mk q => by obtain ⟨q0, q1, qP, qK, qD⟩ := q; exact ⟨q0, q1, qP, va_K.moved (u := U) (U := U.calling g mk a) (Vm.Alike.refl U.vm) qK, qD⟩, fun U hU hW => ⟨rfl, by rw [hU], by rw [hU]; exact hPc, va_K.moved hW.alike hK, hDc.weaken (fun _ _ _ _ => trivial)⟩⟩ rfl rfl hl.1 rfl (lv_room (Nat.le_of_ble_eq_true rfl)) dX8_sheet_8 ⟨Nat.le_of_ble_eq_true rfl, Nat.le_of_ble_eq_true rfl⟩) hS (fun q _ h => hFc q h) hFc (fun r_2 u t9 H1 locs ht hvm hw hB hz1 hk1 hS => ?_)
  obtain rfl : 1 = r_2 := (hw.trans (z_lav hb3)).symm
  have hP1 : va_P Z.1 vwCl [] H1 := fun k q h => by simp at h
  have hD1 : va_D (va_A [] H.size) [] := ⟨fun i j p q h => by simp at h, fun k q h => by simp at h⟩
  obtain ⟨hP, hD⟩ := va_join (wr := [(h0, .inr (8, [.ref a1, .ref a2, .ref a3, .ref a4, .ref a5, .int kp, .ref a6, .ref a7, .ref a8, .ref a9, .ref a10, .ref a11, .ref a12, .ref a13, .int tf, .int tu, .int od])), (a6, .inl (Z.2 4, 4, .inr (.inr (.inr (.inr sf)))))]) (w1 := []) hP hD [] [0, 1] rfl rfl (by decide +kernel) (by decide +kernel) hk1 hFc hP1 hD1
  clear hPc hDc hP1 hD1 hk1 hz1 hFc ht hvm
  generalize H1 = H at hP hS ⊢
  have hP : va_P Z.1 vwCl [(h0, .inr (8, [.ref a1, .ref a2, .ref a3, .ref a4, .ref a5, .int kp, .ref a6, .ref a7, .ref a8, .ref a9, .ref a10, .ref a11, .ref a12, .ref a13, .int tf, .int tu, .int od])), (a6, .inl (Z.2 4, 4, .inr (.inr (.inr (.inr sf)))))] H := hP
  have hD : va_D A [(h0, .inr (8, [.ref a1, .ref a2, .ref a3, .ref a4, .ref a5, .int kp, .ref a6, .ref a7, .ref a8, .ref a9, .ref a10, .ref a11, .ref a12, .ref a13, .int tf, .int tu, .int od])), (a6, .inl (Z.2 4, 4, .inr (.inr (.inr (.inr sf)))))] := hD
  refine lv_if_eq (tgt := 20) hx hb dX8_sheet_11 (by decide) (fun c9 => absurd c9 (by decide)) (fun _ => ?_)
  refine lv_iload_n hx hb dX8_sheet_14 rfl (lv_at hl 3 rfl) ?_
  refine lv_bipush (v := 24) hx hb dX8_sheet_15 (by decide) ?_
  refine lv_icmp_le (tgt := 22) hx hb dX8_sheet_17 (by decide) (fun _ => ?_) (fun c9 => absurd (nI_le (b := 24) hj (by decide)) c9)
  refine lv_iload_n hx hb dX8_sheet_22 rfl (lv_at hl 3 rfl) ?_
  refine lv_if_ge (tgt := 29) hx hb dX8_sheet_23 (by decide) (fun _ => ?_) (fun c9 => absurd (nI_pos' (by omega)) c9)
  refine lv_aload_n hx hb dX8_sheet_29 rfl (lv_at hl 0 rfl) ?_
  refine va_get (D := Z.1) (ci := 8) (v := .ref a6) (C := RX8) (T := TX8) (N := 17) hx hb hts hin8 hown hK hP 0 rfl rfl 6 (by decide) (hts (.fieldLink RX8 42 "HalfAsked" "sheets" "[LHalfAsked$Sheet;") (List.mem_of_getElem? (i := 1) rfl)) (fun _ h9 => h9) rfl dX8_sheet_30 ?_
  refine lv_iload_n hx hb dX8_sheet_33 rfl (lv_at hl 1 rfl) ?_
  refine va_new (ci := 4) (fs := [.int 0, .null]) (C := RX4) (T := TX4) (N := 2) hx hb hts hin4 tyX4 tyX4_ok hown (hts (.classLink RX8 40 RX4) (List.mem_of_getElem? (i := 2) rfl)) (hts (.instantiable RX4 2) (List.mem_of_getElem? (i := 3) rfl)) (hts (.initialized RX4) (List.mem_of_getElem? (i := 4) rfl)) hK hP hD hS hA rfl (fun j hj => by rcases (show j = 0 ∨ j = 1 by omega) with rfl | rfl <;> rfl) (Nat.le_of_ble_eq_true rfl) (Nat.le_of_ble_eq_true rfl) dX8_sheet_34 (fun q_3 H hP hD hS => ?_)
  have hP : va_P Z.1 vwCl [(h0, .inr (8, [.ref a1, .ref a2, .ref a3, .ref a4, .ref a5, .int kp, .ref a6, .ref a7, .ref a8, .ref a9, .ref a10, .ref a11, .ref a12, .ref a13, .int tf, .int tu, .int od])), (a6, .inl (Z.2 4, 4, .inr (.inr (.inr (.inr sf))))), (q_3, .inr (4, [.int 0, .null]))] H := hP
  have hD : va_D A [(h0, .inr (8, [.ref a1, .ref a2, .ref a3, .ref a4, .ref a5, .int kp, .ref a6, .ref a7, .ref a8, .ref a9, .ref a10, .ref a11, .ref a12, .ref a13, .int tf, .int tu, .int od])), (a6, .inl (Z.2 4, 4, .inr (.inr (.inr (.inr sf))))), (q_3, .inr (4, [.int 0, .null]))] := hD
  refine W.widen (k := 1) (n := 2) (Nat.le_of_ble_eq_true rfl) (Nat.le_of_ble_eq_true rfl) ?_
  refine lv_dup hx hb dX8_sheet_37 rfl ?_
  refine lv_iload_n hx hb dX8_sheet_38 rfl (lv_at hl 2 rfl) ?_
  refine lv_iload_n hx hb dX8_sheet_39 rfl (lv_at hl 3 rfl) ?_
  have hPc := hP.sub (ws' := [(q_3, .inr (4, [.int 0, .null]))]) [2] rfl
  have hDc := hD.sub (ws' := [(q_3, .inr (4, [.int 0, .null]))]) [2] (by decide +kernel) rfl
  have hFc := va_free (wc := [(q_3, .inr (4, [.int 0, .null]))]) hD hS hA [2] rfl
  refine va_callv (va_runI (As := [.int b, .int (nI j)]) (rest := [.ref q_3, .int a, .ref a6]) ⟨hx, hb, hml, hown, hts⟩ (c_X4_init l Z H.size q_3 b j (hj)) (cwI 2 hts gX8_sheet_X4_init rfl rfl rfl (hts (.initialized RX4) (List.mem_of_getElem? (i := 4) rfl)) (hts (.methodLink RX8 258 yX4_init) (List.mem_of_getElem? (i := 12) rfl)) (hts (.instanceMethod yX4_init) (List.mem_of_getElem? (i := 13) rfl)) rfl (by decide +kernel) ⟨Nat.le_of_ble_eq_true rfl, Nat.le_of_ble_eq_true rfl⟩) ⟨fun a U g mk q => by obtain ⟨q0, q1, qP, qK, qD⟩ := q; exact ⟨q0, q1, qP, va_K.moved (u := U) (U := U.calling g mk a) (Vm.Alike.refl U.vm) qK, qD⟩, fun U hU hW => ⟨rfl, by rw [hU], by rw [hU]; exact hPc, va_K.moved hW.alike hK, hDc.weaken (fun _ _ _ _ => trivial)⟩⟩ rfl rfl hl.1 rfl (lv_room (Nat.le_of_ble_eq_true rfl)) dX8_sheet_40 ⟨Nat.le_of_ble_eq_true rfl, Nat.le_of_ble_eq_true rfl⟩) hS (fun q _ h => hFc q h) hFc (fun u t9 H1 locs ht hvm hw hB hz1 hk1 hS => ?_)
  obtain ⟨it_5, rfl⟩ : ∃ z, z = u := ⟨_, rfl⟩
  try dsimp only at hw hB
  obtain ⟨hP1, hD1⟩ := hB
  rw [ht] at hP1
  obtain ⟨hP, hD⟩ := va_join (wr := [(h0, .inr (8, [.ref a1, .ref a2, .ref a3, .ref a4, .ref a5, .int kp, .ref a6, .ref a7, .ref a8, .ref a9, .ref a10, .ref a11, .ref a12, .ref a13, .int tf, .int tu, .int od])), (a6, .inl (Z.2 4, 4, .inr (.inr (.inr (.inr sf)))))]) (w1 := [(q_3, .inr (4, [.int b, .ref it_5])), (it_5, .inl (Z.2 2, j, .inr (.inl (fun _ => 0))))]) hP hD [2] [0, 1] rfl rfl (by decide +kernel) (by decide +kernel) hk1 hFc hP1 hD1
  clear hPc hDc hP1 hD1 hk1 hz1 hFc ht hvm
  generalize H1 = H at hP hS ⊢
  have hP : va_P Z.1 vwCl [(h0, .inr (8, [.ref a1, .ref a2, .ref a3, .ref a4, .ref a5, .int kp, .ref a6, .ref a7, .ref a8, .ref a9, .ref a10, .ref a11, .ref a12, .ref a13, .int tf, .int tu, .int od])), (a6, .inl (Z.2 4, 4, .inr (.inr (.inr (.inr sf))))), (q_3, .inr (4, [.int b, .ref it_5])), (it_5, .inl (Z.2 2, j, .inr (.inl (fun _ => 0))))] H := hP
  have hD : va_D A [(h0, .inr (8, [.ref a1, .ref a2, .ref a3, .ref a4, .ref a5, .int kp, .ref a6, .ref a7, .ref a8, .ref a9, .ref a10, .ref a11, .ref a12, .ref a13, .int tf, .int tu, .int od])), (a6, .inl (Z.2 4, 4, .inr (.inr (.inr (.inr sf))))), (q_3, .inr (4, [.int b, .ref it_5])), (it_5, .inl (Z.2 2, j, .inr (.inl (fun _ => 0))))] := hD
  refine W.widen (k := 2) (n := 26) (Nat.le_of_ble_eq_true rfl) (Nat.le_of_ble_eq_true rfl) ?_
  refine va_astq (r := (RX4, TX4, 2)) hx hb hK hP hD hS 1 4 2 4 rfl rfl rfl rfl ha dX8_sheet_43 (fun H locs hP hD hS => ?_)
  have hP : va_P Z.1 vwCl [(h0, .inr (8, [.ref a1, .ref a2, .ref a3, .ref a4, .ref a5, .int kp, .ref a6, .ref a7, .ref a8, .ref a9, .ref a10, .ref a11, .ref a12, .ref a13, .int tf, .int tu, .int od])), (a6, .inl (Z.2 4, 4, .inr (.inr (.inr (.inr (va_up sf (a.toNatClampNeg) (some q_3))))))), (q_3, .inr (4, [.int b, .ref it_5])), (it_5, .inl (Z.2 2, j, .inr (.inl (fun _ => 0))))] H := hP
  have hD : va_D A [(h0, .inr (8, [.ref a1, .ref a2, .ref a3, .ref a4, .ref a5, .int kp, .ref a6, .ref a7, .ref a8, .ref a9, .ref a10, .ref a11, .ref a12, .ref a13, .int tf, .int tu, .int od])), (a6, .inl (Z.2 4, 4, .inr (.inr (.inr (.inr (va_up sf (a.toNatClampNeg) (some q_3))))))), (q_3, .inr (4, [.int b, .ref it_5])), (it_5, .inl (Z.2 2, j, .inr (.inl (fun _ => 0))))] := hD
  refine lv_iload_n hx hb dX8_sheet_44 rfl (lv_at hl 3 rfl) ?_
  have hP9 := hP.sub (ws' := [(h0, .inr (8, [.ref a1, .ref a2, .ref a3, .ref a4, .ref a5, .int kp, .ref a6, .ref a7, .ref a8, .ref a9, .ref a10, .ref a11, .ref a12, .ref a13, .int tf, .int tu, .int od])), (a6, .inl (Z.2 4, 4, .inr (.inr (.inr (.inr (va_up sf (a.toNatClampNeg) (some q_3))))))), (q_3, .inr (4, [.int b, .ref it_5])), (it_5, .inl (Z.2 2, j, .inr (.inl (fun _ => 0))))]) [0, 1, 2, 3] rfl
  have hD9 := hD.sub (ws' := [(h0, .inr (8, [.ref a1, .ref a2, .ref a3, .ref a4, .ref a5, .int kp, .ref a6, .ref a7, .ref a8, .ref a9, .ref a10, .ref a11, .ref a12, .ref a13, .int tf, .int tu, .int od])), (a6, .inl (Z.2 4, 4, .inr (.inr (.inr (.inr (va_up sf (a.toNatClampNeg) (some q_3))))))), (q_3, .inr (4, [.int b, .ref it_5])), (it_5, .inl (Z.2 2, j, .inr (.inl (fun _ => 0))))]) [0, 1, 2, 3] (by decide +kernel) rfl
  exact W.iret (v := (nI j)) hx hb hr (fun t9 ht hW => ⟨⟨nI j, (q_3, it_5, va_up sf (a.toNatClampNeg) (some q_3)), rfl, ⟨((zI_p ⟨⟨ha, hb3⟩, nI_le (b := 24) hj (by decide)⟩).trans (zI_n (nI_pos (by omega)))).symm, rfl⟩, by rw [ht]; exact hP9, hD9⟩, hS.F ht⟩) hS.2.2 dX8_sheet_45
theorem put_c (ln : Int32) (sg : Nat → Int64) (a : Int32) (w : Int64) : q_X4_put_sg1 ln sg a w = vp_updL sg a.toNatClampNeg (asLn ln w) := by
  unfold q_X4_put_sg1 asLn
  by_cases h0 : ln = 0
  · rw [if_pos h0, if_pos h0]
  · rw [if_neg h0, if_neg h0]
    by_cases h1 : ln = 1
    · rw [if_pos h1, if_pos h1]
    · rw [if_neg h1, if_neg h1]
theorem it_N {sl : zSL} {im : zIM} {a b d x : Int32} {v : Int64} {g : Nat → Int64} (hg : g = im a.toNatClampNeg) (e : x = zItem sl a b d) (hx : ¬ x = 1) : g = imItem sl im a b d v a.toNatClampNeg := by
  unfold imItem
  rw [zI_n (fun q => hx (e.trans q))]
  exact hg
theorem it_Y {sl : zSL} {im : zIM} {a b d ln : Int32} {v : Int64} {g : Nat → Int64} (hg : g = im a.toNatClampNeg) (e : 1 = zItem sl a b d) (el : ln = b) : q_X4_put_sg1 ln g d v = imItem sl im a b d v a.toNatClampNeg := by
  rw [put_c, el]
  unfold imItem
  rw [zI_p e.symm]
  funext j
  show vp_updL g d.toNatClampNeg (asLn b v) j = if a.toNatClampNeg = a.toNatClampNeg ∧ j = d.toNatClampNeg then asLn b v else im a.toNatClampNeg j
  by_cases c : j = d.toNatClampNeg
  · rw [c, vl_s, if_pos ⟨rfl, rfl⟩]
  · rw [vl_n c, if_neg (fun q => c q.2), hg]
theorem lk_lane {ln b d : Int32} {len w : Nat} (h : ¬ zLk (some (ln, len)) b d w < 0) : ln = b := Classical.byContradiction (fun c => h (by show zI _ _ _ < 0; rw [zI_n c]; decide))
theorem lk_ne1 {s : Option (Int32 × Nat)} {b d : Int32} {w : Nat} (h : ¬ zLk s b d w = 0) : zLk s b d w < 0 := (zLk_or s b d w).resolve_right (fun q => h q.1)
set_option maxHeartbeats 4000000 in
set_option maxRecDepth 100000 in
theorem c_X8_item_S (l : Launch) (Z : gZ) (sz : Nat) (h0 : Nat) (a1 : Nat) (a2 : Nat) (a3 : Nat) (a4 : Nat) (a5 : Nat) (a6 : Nat) (a7 : Nat) (a8 : Nat) (a9 : Nat) (a10 : Nat) (a11 : Nat) (a12 : Nat) (a13 : Nat) (kp : Int32) (tf : Int32) (tu : Int32) (od : Int32) (sf : Nat → Option Nat) (qS : Nat) (it : Nat) (ln : Int32) (len : Nat) (sg : Nat → Int64) (a : Int32) (b : Int32) (d : Int32) (v : Int64) (im : zIM) (sl : zSL) (hl24 : len ≤ 24) (ha : vp_in a 4) (hsf : sf a.toNatClampNeg = some qS) (hsl : sl a.toNatClampNeg = some (ln, len)) (hsg : sg = im a.toNatClampNeg) : Met l yX8_item wsX8_item ({ frames := 2, cells := 0, slots := 0, locals := 45 }) (va_Pc [.ref h0, .int a, .int b, .int d, .long v] (fun U => U.heap.size = sz ∧ va_P Z.1 vwCl [(h0, .inr (8, [.ref a1, .ref a2, .ref a3, .ref a4, .ref a5, .int kp, .ref a6, .ref a7, .ref a8, .ref a9, .ref a10, .ref a11, .ref a12, .ref a13, .int tf, .int tu, .int od])), (a6, .inl (Z.2 4, 4, .inr (.inr (.inr (.inr sf))))), (qS, .inr (4, [.int ln, .ref it])), (it, .inl (Z.2 2, len, .inr (.inl sg)))] U.heap ∧ va_K Z.1 vwCl (gT Z) U ∧ va_D (fun _ => True) [(h0, .inr (8, [.ref a1, .ref a2, .ref a3, .ref a4, .ref a5, .int kp, .ref a6, .ref a7, .ref a8, .ref a9, .ref a10, .ref a11, .ref a12, .ref a13, .int tf, .int tu, .int od])), (a6, .inl (Z.2 4, 4, .inr (.inr (.inr (.inr sf))))), (qS, .inr (4, [.int ln, .ref it])), (it, .inl (Z.2 2, len, .inr (.inl sg)))])) (va_Qi (fun (r : Int32) (u : (Nat → Int64)) => match u with | sg1 => r = zItem sl a b d ∧ sg1 = imItem sl im a b d v a.toNatClampNeg) (fun (u : (Nat → Int64)) (t9 : State) => match u with | sg1 => va_P Z.1 vwCl [(h0, .inr (8, [.ref a1, .ref a2, .ref a3, .ref a4, .ref a5, .int kp, .ref a6, .ref a7, .ref a8, .ref a9, .ref a10, .ref a11, .ref a12, .ref a13, .int tf, .int tu, .int od])), (a6, .inl (Z.2 4, 4, .inr (.inr (.inr (.inr sf))))), (qS, .inr (4, [.int ln, .ref it])), (it, .inl (Z.2 2, len, .inr (.inl sg1)))] t9.heap ∧ va_D (va_A [(h0, .inr (8, [.ref a1, .ref a2, .ref a3, .ref a4, .ref a5, .int kp, .ref a6, .ref a7, .ref a8, .ref a9, .ref a10, .ref a11, .ref a12, .ref a13, .int tf, .int tu, .int od])), (a6, .inl (Z.2 4, 4, .inr (.inr (.inr (.inr sf))))), (qS, .inr (4, [.int ln, .ref it])), (it, .inl (Z.2 2, len, .inr (.inl sg)))] sz) [(h0, .inr (8, [.ref a1, .ref a2, .ref a3, .ref a4, .ref a5, .int kp, .ref a6, .ref a7, .ref a8, .ref a9, .ref a10, .ref a11, .ref a12, .ref a13, .int tf, .int tu, .int od])), (a6, .inl (Z.2 4, 4, .inr (.inr (.inr (.inr sf))))), (qS, .inr (4, [.int ln, .ref it])), (it, .inl (Z.2 2, len, .inr (.inl sg1)))]) (va_A [(h0, .inr (8, [.ref a1, .ref a2, .ref a3, .ref a4, .ref a5, .int kp, .ref a6, .ref a7, .ref a8, .ref a9, .ref a10, .ref a11, .ref a12, .ref a13, .int tf, .int tu, .int od])), (a6, .inl (Z.2 4, 4, .inr (.inr (.inr (.inr sf))))), (qS, .inr (4, [.int ln, .ref it])), (it, .inl (Z.2 2, len, .inr (.inl sg)))] sz)) 0 0 (va_A [(h0, .inr (8, [.ref a1, .ref a2, .ref a3, .ref a4, .ref a5, .int kp, .ref a6, .ref a7, .ref a8, .ref a9, .ref a10, .ref a11, .ref a12, .ref a13, .int tf, .int tu, .int od])), (a6, .inl (Z.2 4, 4, .inr (.inr (.inr (.inr sf))))), (qS, .inr (4, [.int ln, .ref it])), (it, .inl (Z.2 2, len, .inr (.inl sg)))] sz) := by
  refine Met.ofW (cc := cX8_item) (maxL := 8) (ret := (some .int)) (by decide) rfl ?_
  intro p e s m args below meth c s₁ B hml hv
  obtain ⟨rfl, hsz, hP, hK, hD0⟩ := hv
  have hx := B.exec
  have hb := B.bytes
  have hr := B.returns
  have hts := atoms_spec (ws := wsX8_item) B.pre
  have hown : s.vm.findClass RX8 = some m.cls := findClass_of_methodNamed B.named
  have hlocks := B.notSynchronized
  subst hsz
  have hin8 : ∀ w ∈ wsX80, w ∈ wsX8_item := fun w h9 => (List.mem_cons_of_mem _ (List.mem_append_left _ (List.mem_append_right _ h9)))
  have hD := hD0.self (sz := s.heap.size)
  generalize hAe : va_A [(h0, .inr (8, [.ref a1, .ref a2, .ref a3, .ref a4, .ref a5, .int kp, .ref a6, .ref a7, .ref a8, .ref a9, .ref a10, .ref a11, .ref a12, .ref a13, .int tf, .int tu, .int od])), (a6, .inl (Z.2 4, 4, .inr (.inr (.inr (.inr sf))))), (qS, .inr (4, [.int ln, .ref it])), (it, .inl (Z.2 2, len, .inr (.inl sg)))] s.heap.size = A at hD ⊢
  have hA : ∀ q : Nat, s.heap.size ≤ q → A q := fun q h => by rw [← hAe]; exact Or.inr h
  have hS : va_S A s.heap s.heap [] := va_S.rf
  have hP : va_P Z.1 vwCl [(h0, .inr (8, [.ref a1, .ref a2, .ref a3, .ref a4, .ref a5, .int kp, .ref a6, .ref a7, .ref a8, .ref a9, .ref a10, .ref a11, .ref a12, .ref a13, .int tf, .int tu, .int od])), (a6, .inl (Z.2 4, 4, .inr (.inr (.inr (.inr sf))))), (qS, .inr (4, [.int ln, .ref it])), (it, .inl (Z.2 2, len, .inr (.inl sg)))] s.heap := hP
  have hl := lv_entry ([.ref h0, .int a, .int b, .int d, .long v]) (n := 8) (Nat.le_of_ble_eq_true rfl)
  rw [lg_entry_eq]
  generalize (lg_sl ([.ref h0, .int a, .int b, .int d, .long v]) ++ List.replicate (8 - (lg_sl ([.ref h0, .int a, .int b, .int d, .long v])).length) Slot.unset).toArray = ls at hl ⊢
  have hl : lv_has ls 8 [(0, .ref h0), (1, .int a), (2, .int b), (3, .int d), (4, .long v)] := hl
  refine lv_iload_n hx hb dX8_item_0 rfl (lv_at hl 1 rfl) ?_
  have hPc := hP.sub (ws' := []) [] rfl
  have hDc := hD.sub (ws' := []) [] (by decide +kernel) rfl
  have hFc := va_free (wc := []) hD hS hA [] rfl
  refine va_calli (va_runS (As := [.int a]) (rest := []) ⟨hx, hb, hml, hown, hts⟩ (c_X8_isSheet l Z s.heap.size a) (va_cwS 1 hts gX8_item_X8_isSheet rfl rfl rfl (by decide +kernel) ⟨Nat.le_of_ble_eq_true rfl, Nat.le_of_ble_eq_true rfl⟩) ⟨fun a U g mk q => by obtain ⟨q0, q1, qP, qK, qD⟩ := q; exact ⟨q0, q1, qP, va_K.moved (u := U) (U := U.calling g mk a) (Vm.Alike.refl U.vm) qK, qD⟩, fun U hU hW => ⟨rfl, by rw [hU], by rw [hU]; exact hPc, va_K.moved hW.alike hK, hDc.weaken (fun _ _ _ _ => trivial)⟩⟩ rfl rfl hl.1 rfl (lv_room (Nat.le_of_ble_eq_true rfl)) dX8_item_1 ⟨Nat.le_of_ble_eq_true rfl, Nat.le_of_ble_eq_true rfl⟩) hS (fun q _ h => hFc q h) hFc (fun r_1 u t9 H1 locs ht hvm hw hB hz1 hk1 hS => ?_)
  obtain rfl : 1 = r_1 := (hw.trans (z_shv ha)).symm
  have hP1 : va_P Z.1 vwCl [] H1 := fun k q h => by simp at h
  have hD1 : va_D (va_A [] s.heap.size) [] := ⟨fun i j p q h => by simp at h, fun k q h => by simp at h⟩
  obtain ⟨hP, hD⟩ := va_join (wr := [(h0, .inr (8, [.ref a1, .ref a2, .ref a3, .ref a4, .ref a5, .int kp, .ref a6, .ref a7, .ref a8, .ref a9, .ref a10, .ref a11, .ref a12, .ref a13, .int tf, .int tu, .int od])), (a6, .inl (Z.2 4, 4, .inr (.inr (.inr (.inr sf))))), (qS, .inr (4, [.int ln, .ref it])), (it, .inl (Z.2 2, len, .inr (.inl sg)))]) (w1 := []) hP hD [] [0, 1, 2, 3] rfl rfl (by decide +kernel) (by decide +kernel) hk1 hFc hP1 hD1
  clear hPc hDc hP1 hD1 hk1 hz1 hFc ht hvm
  generalize H1 = H at hP hS ⊢
  have hP : va_P Z.1 vwCl [(h0, .inr (8, [.ref a1, .ref a2, .ref a3, .ref a4, .ref a5, .int kp, .ref a6, .ref a7, .ref a8, .ref a9, .ref a10, .ref a11, .ref a12, .ref a13, .int tf, .int tu, .int od])), (a6, .inl (Z.2 4, 4, .inr (.inr (.inr (.inr sf))))), (qS, .inr (4, [.int ln, .ref it])), (it, .inl (Z.2 2, len, .inr (.inl sg)))] H := hP
  have hD : va_D A [(h0, .inr (8, [.ref a1, .ref a2, .ref a3, .ref a4, .ref a5, .int kp, .ref a6, .ref a7, .ref a8, .ref a9, .ref a10, .ref a11, .ref a12, .ref a13, .int tf, .int tu, .int od])), (a6, .inl (Z.2 4, 4, .inr (.inr (.inr (.inr sf))))), (qS, .inr (4, [.int ln, .ref it])), (it, .inl (Z.2 2, len, .inr (.inl sg)))] := hD
  refine lv_if_eq (tgt := 14) hx hb dX8_item_4 (by decide) (fun c9 => absurd c9 (by decide)) (fun _ => ?_)
  refine lv_iload_n hx hb dX8_item_7 rfl (lv_at hl 2 rfl) ?_
  have hPc := hP.sub (ws' := []) [] rfl
  have hDc := hD.sub (ws' := []) [] (by decide +kernel) rfl
  have hFc := va_free (wc := []) hD hS hA [] rfl
  refine va_calli (va_runS (As := [.int b]) (rest := []) ⟨hx, hb, hml, hown, hts⟩ (c_X8_isLane l Z H.size b) (va_cwS 1 hts gX8_item_X8_isLane rfl rfl rfl (by decide +kernel) ⟨Nat.le_of_ble_eq_true rfl, Nat.le_of_ble_eq_true rfl⟩) ⟨fun a U g mk q => by obtain ⟨q0, q1, qP, qK, qD⟩ := q; exact ⟨q0, q1, qP, va_K.moved (u := U) (U := U.calling g mk a) (Vm.Alike.refl U.vm) qK, qD⟩, fun U hU hW => ⟨rfl, by rw [hU], by rw [hU]; exact hPc, va_K.moved hW.alike hK, hDc.weaken (fun _ _ _ _ => trivial)⟩⟩ rfl rfl hl.1 rfl (lv_room (Nat.le_of_ble_eq_true rfl)) dX8_item_8 ⟨Nat.le_of_ble_eq_true rfl, Nat.le_of_ble_eq_true rfl⟩) hS (fun q _ h => hFc q h) hFc (fun r_2 u t9 H1 locs ht hvm hw hB hz1 hk1 hS => ?_)
  have hw9 := hw.symm
  clear hw
  subst hw9
  have hP1 : va_P Z.1 vwCl [] H1 := fun k q h => by simp at h
  have hD1 : va_D (va_A [] H.size) [] := ⟨fun i j p q h => by simp at h, fun k q h => by simp at h⟩
  obtain ⟨hP, hD⟩ := va_join (wr := [(h0, .inr (8, [.ref a1, .ref a2, .ref a3, .ref a4, .ref a5, .int kp, .ref a6, .ref a7, .ref a8, .ref a9, .ref a10, .ref a11, .ref a12, .ref a13, .int tf, .int tu, .int od])), (a6, .inl (Z.2 4, 4, .inr (.inr (.inr (.inr sf))))), (qS, .inr (4, [.int ln, .ref it])), (it, .inl (Z.2 2, len, .inr (.inl sg)))]) (w1 := []) hP hD [] [0, 1, 2, 3] rfl rfl (by decide +kernel) (by decide +kernel) hk1 hFc hP1 hD1
  clear hPc hDc hP1 hD1 hk1 hz1 hFc ht hvm
  generalize H1 = H at hP hS ⊢
  have hP : va_P Z.1 vwCl [(h0, .inr (8, [.ref a1, .ref a2, .ref a3, .ref a4, .ref a5, .int kp, .ref a6, .ref a7, .ref a8, .ref a9, .ref a10, .ref a11, .ref a12, .ref a13, .int tf, .int tu, .int od])), (a6, .inl (Z.2 4, 4, .inr (.inr (.inr (.inr sf))))), (qS, .inr (4, [.int ln, .ref it])), (it, .inl (Z.2 2, len, .inr (.inl sg)))] H := hP
  have hD : va_D A [(h0, .inr (8, [.ref a1, .ref a2, .ref a3, .ref a4, .ref a5, .int kp, .ref a6, .ref a7, .ref a8, .ref a9, .ref a10, .ref a11, .ref a12, .ref a13, .int tf, .int tu, .int od])), (a6, .inl (Z.2 4, 4, .inr (.inr (.inr (.inr sf))))), (qS, .inr (4, [.int ln, .ref it])), (it, .inl (Z.2 2, len, .inr (.inl sg)))] := hD
  refine lv_if_ne (tgt := 16) hx hb dX8_item_11 (by decide) (fun c_3 => ?_) (fun c_3 => ?_)
  · refine lv_aload_n hx hb dX8_item_16 rfl (lv_at hl 0 rfl) ?_
    refine va_get (D := Z.1) (ci := 8) (v := .ref a6) (C := RX8) (T := TX8) (N := 17) hx hb hts hin8 hown hK hP 0 rfl rfl 6 (by decide) (hts (.fieldLink RX8 42 "HalfAsked" "sheets" "[LHalfAsked$Sheet;") (List.mem_of_getElem? (i := 1) rfl)) (fun _ h9 => h9) rfl dX8_item_17 ?_
    refine lv_iload_n hx hb dX8_item_20 rfl (lv_at hl 1 rfl) ?_
    refine va_aldq hx hb hK hP 1 4 rfl rfl ha dX8_item_21 ?_
    refine W.eq (g2 := F0 m 22 ls [.ref qS]) (congrArg (fun z9 => F0 m 22 ls (va_rf z9 :: [])) (hsf)) ?_
    refine lv_astore (lv' := [(6, .ref qS), (0, .ref h0), (1, .int a), (2, .int b), (3, .int d), (4, .long v)]) hx hb dX8_item_22 hl (by decide) rfl (fun ls hl => ?_)
    refine lv_aload hx hb dX8_item_24 (lv_at hl 0 rfl) ?_
    refine lv_ifnonnull (tgt := 32) hx hb dX8_item_26 (by decide) ?_
    refine lv_aload hx hb dX8_item_32 (lv_at hl 0 rfl) ?_
    refine lv_iload_n hx hb dX8_item_34 rfl (lv_at hl 3 rfl) ?_
    refine lv_iload_n hx hb dX8_item_35 rfl (lv_at hl 4 rfl) ?_
    refine lv_iconst (v := 1) hx hb dX8_item_36 (by decide) ?_
    have hPc := hP.sub (ws' := [(qS, .inr (4, [.int ln, .ref it])), (it, .inl (Z.2 2, len, .inr (.inl sg)))]) [2, 3] rfl
    have hDc := hD.sub (ws' := [(qS, .inr (4, [.int ln, .ref it])), (it, .inl (Z.2 2, len, .inr (.inl sg)))]) [2, 3] (by decide +kernel) rfl
    have hFc := va_free (wc := [(qS, .inr (4, [.int ln, .ref it])), (it, .inl (Z.2 2, len, .inr (.inl sg)))]) hD hS hA [2, 3] rfl
    refine va_calli (va_runV (As := [.int b, .int d, .int 1]) (rest := []) ⟨hx, hb, hml, hown, hts⟩ (c_X4_lookAt l Z H.size qS it ln len sg b d 1) (cwV 3 hts gX8_item_X4_lookAt rfl rfl rfl (by decide +kernel) ⟨Nat.le_of_ble_eq_true rfl, Nat.le_of_ble_eq_true rfl⟩) ⟨fun a U g mk q => by obtain ⟨q0, q1, qP, qK, qD⟩ := q; exact ⟨q0, q1, qP, va_K.moved (u := U) (U := U.calling g mk a) (Vm.Alike.refl U.vm) qK, qD⟩, va_recv hK hPc (ci := 4) (q0 := 0) rfl rfl, fun U hU hW => ⟨rfl, by rw [hU], by rw [hU]; exact hPc, va_K.moved hW.alike hK, hDc.weaken (fun _ _ _ _ => trivial)⟩⟩ rfl rfl hl.1 rfl (lv_room (Nat.le_of_ble_eq_true rfl)) dX8_item_37 ⟨Nat.le_of_ble_eq_true rfl, Nat.le_of_ble_eq_true rfl⟩) hS (fun q _ h => hFc q h) hFc (fun r_4 u t9 H1 locs ht hvm hw hB hz1 hk1 hS => ?_)
    obtain rfl : zLk (some (ln, len)) b d 1 = r_4 := (hw.trans (z_lkeq (w := 1) hl24 (by decide))).symm
    obtain ⟨hP1, hD1⟩ := hB
    rw [ht] at hP1
    obtain ⟨hP, hD⟩ := va_join (wr := [(h0, .inr (8, [.ref a1, .ref a2, .ref a3, .ref a4, .ref a5, .int kp, .ref a6, .ref a7, .ref a8, .ref a9, .ref a10, .ref a11, .ref a12, .ref a13, .int tf, .int tu, .int od])), (a6, .inl (Z.2 4, 4, .inr (.inr (.inr (.inr sf)))))]) (w1 := [(qS, .inr (4, [.int ln, .ref it])), (it, .inl (Z.2 2, len, .inr (.inl sg)))]) hP hD [2, 3] [0, 1] rfl rfl (by decide +kernel) (by decide +kernel) hk1 hFc hP1 hD1
    clear hPc hDc hP1 hD1 hk1 hz1 hFc ht hvm
    generalize H1 = H at hP hS ⊢
    have hP : va_P Z.1 vwCl [(h0, .inr (8, [.ref a1, .ref a2, .ref a3, .ref a4, .ref a5, .int kp, .ref a6, .ref a7, .ref a8, .ref a9, .ref a10, .ref a11, .ref a12, .ref a13, .int tf, .int tu, .int od])), (a6, .inl (Z.2 4, 4, .inr (.inr (.inr (.inr sf))))), (qS, .inr (4, [.int ln, .ref it])), (it, .inl (Z.2 2, len, .inr (.inl sg)))] H := hP
    have hD : va_D A [(h0, .inr (8, [.ref a1, .ref a2, .ref a3, .ref a4, .ref a5, .int kp, .ref a6, .ref a7, .ref a8, .ref a9, .ref a10, .ref a11, .ref a12, .ref a13, .int tf, .int tu, .int od])), (a6, .inl (Z.2 4, 4, .inr (.inr (.inr (.inr sf))))), (qS, .inr (4, [.int ln, .ref it])), (it, .inl (Z.2 2, len, .inr (.inl sg)))] := hD
    refine lv_istore (lv' := [(7, .int (zLk (some (ln, len)) b d 1)), (6, .ref qS), (0, .ref h0), (1, .int a), (2, .int b), (3, .int d), (4, .long v)]) hx hb dX8_item_40 hl (by decide) rfl (fun ls hl => ?_)
    refine lv_iload hx hb dX8_item_42 (lv_at hl 0 rfl) ?_
    refine lv_if_eq (tgt := 50) hx hb dX8_item_44 (by decide) (fun c_5 => ?_) (fun c_5 => ?_)
    · obtain ⟨len9, e9, hd0, hd1⟩ := ((zLk_or (some (ln, len)) b d 1).resolve_left (by rw [c_5]; decide)).2
      obtain rfl : len = len9 := by cases e9; rfl
      refine lv_aload hx hb dX8_item_50 (lv_at hl 1 rfl) ?_
      refine lv_iload_n hx hb dX8_item_52 rfl (lv_at hl 5 rfl) ?_
      refine lv_lload hx hb dX8_item_53 (lv_at hl 6 rfl) ?_
      have hPc := hP.sub (ws' := [(qS, .inr (4, [.int ln, .ref it])), (it, .inl (Z.2 2, len, .inr (.inl sg)))]) [2, 3] rfl
      have hDc := hD.sub (ws' := [(qS, .inr (4, [.int ln, .ref it])), (it, .inl (Z.2 2, len, .inr (.inl sg)))]) [2, 3] (by decide +kernel) rfl
      have hFc := va_free (wc := [(qS, .inr (4, [.int ln, .ref it])), (it, .inl (Z.2 2, len, .inr (.inl sg)))]) hD hS hA [2, 3] rfl
      refine va_callv (va_runV (As := [.int d, .long v]) (rest := []) ⟨hx, hb, hml, hown, hts⟩ (c_X4_put l Z H.size qS it ln len sg d v (vp_in_iff.mpr (by omega))) (cwV 2 hts gX8_item_X4_put rfl rfl rfl (by decide +kernel) ⟨Nat.le_of_ble_eq_true rfl, Nat.le_of_ble_eq_true rfl⟩) ⟨fun a U g mk q => by obtain ⟨q0, q1, qP, qK, qD⟩ := q; exact ⟨q0, q1, qP, va_K.moved (u := U) (U := U.calling g mk a) (Vm.Alike.refl U.vm) qK, qD⟩, va_recv hK hPc (ci := 4) (q0 := 0) rfl rfl, fun U hU hW => ⟨rfl, by rw [hU], by rw [hU]; exact hPc, va_K.moved hW.alike hK, hDc.weaken (fun _ _ _ _ => trivial)⟩⟩ rfl rfl hl.1 rfl (lv_room (Nat.le_of_ble_eq_true rfl)) dX8_item_55 ⟨Nat.le_of_ble_eq_true rfl, Nat.le_of_ble_eq_true rfl⟩) hS (fun q _ h => hFc q h) hFc (fun u t9 H1 locs ht hvm hw hB hz1 hk1 hS => ?_)
      obtain ⟨sg1_7, rfl⟩ : ∃ z, z = u := ⟨_, rfl⟩
      try dsimp only at hw hB
      have hx_8 := hw
      subst hx_8
      obtain ⟨hP1, hD1⟩ := hB
      rw [ht] at hP1
      obtain ⟨hP, hD⟩ := va_join (wr := [(h0, .inr (8, [.ref a1, .ref a2, .ref a3, .ref a4, .ref a5, .int kp, .ref a6, .ref a7, .ref a8, .ref a9, .ref a10, .ref a11, .ref a12, .ref a13, .int tf, .int tu, .int od])), (a6, .inl (Z.2 4, 4, .inr (.inr (.inr (.inr sf)))))]) (w1 := [(qS, .inr (4, [.int ln, .ref it])), (it, .inl (Z.2 2, len, .inr (.inl (q_X4_put_sg1 ln sg d v))))]) hP hD [2, 3] [0, 1] rfl rfl (by decide +kernel) (by decide +kernel) hk1 hFc hP1 hD1
      clear hPc hDc hP1 hD1 hk1 hz1 hFc ht hvm
      generalize H1 = H at hP hS ⊢
      have hP : va_P Z.1 vwCl [(h0, .inr (8, [.ref a1, .ref a2, .ref a3, .ref a4, .ref a5, .int kp, .ref a6, .ref a7, .ref a8, .ref a9, .ref a10, .ref a11, .ref a12, .ref a13, .int tf, .int tu, .int od])), (a6, .inl (Z.2 4, 4, .inr (.inr (.inr (.inr sf))))), (qS, .inr (4, [.int ln, .ref it])), (it, .inl (Z.2 2, len, .inr (.inl (q_X4_put_sg1 ln sg d v))))] H := hP
      have hD : va_D A [(h0, .inr (8, [.ref a1, .ref a2, .ref a3, .ref a4, .ref a5, .int kp, .ref a6, .ref a7, .ref a8, .ref a9, .ref a10, .ref a11, .ref a12, .ref a13, .int tf, .int tu, .int od])), (a6, .inl (Z.2 4, 4, .inr (.inr (.inr (.inr sf))))), (qS, .inr (4, [.int ln, .ref it])), (it, .inl (Z.2 2, len, .inr (.inl (q_X4_put_sg1 ln sg d v))))] := hD
      refine lv_iconst (v := 1) hx hb dX8_item_58 (by decide) ?_
      have hP9 := hP.sub (ws' := [(h0, .inr (8, [.ref a1, .ref a2, .ref a3, .ref a4, .ref a5, .int kp, .ref a6, .ref a7, .ref a8, .ref a9, .ref a10, .ref a11, .ref a12, .ref a13, .int tf, .int tu, .int od])), (a6, .inl (Z.2 4, 4, .inr (.inr (.inr (.inr sf))))), (qS, .inr (4, [.int ln, .ref it])), (it, .inl (Z.2 2, len, .inr (.inl (q_X4_put_sg1 ln sg d v))))]) [0, 1, 2, 3] rfl
      have hD9 := hD.sub (ws' := [(h0, .inr (8, [.ref a1, .ref a2, .ref a3, .ref a4, .ref a5, .int kp, .ref a6, .ref a7, .ref a8, .ref a9, .ref a10, .ref a11, .ref a12, .ref a13, .int tf, .int tu, .int od])), (a6, .inl (Z.2 4, 4, .inr (.inr (.inr (.inr sf))))), (qS, .inr (4, [.int ln, .ref it])), (it, .inl (Z.2 2, len, .inr (.inl (q_X4_put_sg1 ln sg d v))))]) [0, 1, 2, 3] (by decide +kernel) rfl
      exact W.iret (v := 1) hx hb hr (fun t9 ht hW => ⟨⟨1, q_X4_put_sg1 ln sg d v, rfl, ⟨((zI_p ⟨ha, z_la1 c_3⟩).trans (by rw [hsl]; exact zI_n (by rw [c_5]; decide))).symm, it_Y hsg ((zI_p ⟨ha, z_la1 c_3⟩).trans (by rw [hsl]; exact zI_n (by rw [c_5]; decide))).symm (lk_lane (by rw [c_5]; decide))⟩, by rw [ht]; exact hP9, hD9⟩, hS.F ht⟩) hS.2.2 dX8_item_59
    · refine lv_iload hx hb dX8_item_47 (lv_at hl 0 rfl) ?_
      have hP9 := hP.sub (ws' := [(h0, .inr (8, [.ref a1, .ref a2, .ref a3, .ref a4, .ref a5, .int kp, .ref a6, .ref a7, .ref a8, .ref a9, .ref a10, .ref a11, .ref a12, .ref a13, .int tf, .int tu, .int od])), (a6, .inl (Z.2 4, 4, .inr (.inr (.inr (.inr sf))))), (qS, .inr (4, [.int ln, .ref it])), (it, .inl (Z.2 2, len, .inr (.inl sg)))]) [0, 1, 2, 3] rfl
      have hD9 := hD.sub (ws' := [(h0, .inr (8, [.ref a1, .ref a2, .ref a3, .ref a4, .ref a5, .int kp, .ref a6, .ref a7, .ref a8, .ref a9, .ref a10, .ref a11, .ref a12, .ref a13, .int tf, .int tu, .int od])), (a6, .inl (Z.2 4, 4, .inr (.inr (.inr (.inr sf))))), (qS, .inr (4, [.int ln, .ref it])), (it, .inl (Z.2 2, len, .inr (.inl sg)))]) [0, 1, 2, 3] (by decide +kernel) rfl
      exact W.iret (v := (zLk (some (ln, len)) b d 1)) hx hb hr (fun t9 ht hW => ⟨⟨zLk (some (ln, len)) b d 1, sg, rfl, ⟨((zI_p ⟨ha, z_la1 c_3⟩).trans (by rw [hsl]; exact zI_p ((zLk_or _ _ _ _).resolve_right (fun q => c_5 q.1)))).symm, it_N hsg ((zI_p ⟨ha, z_la1 c_3⟩).trans (by rw [hsl]; exact zI_p ((zLk_or _ _ _ _).resolve_right (fun q => c_5 q.1)))).symm (lk_n1 (lk_ne1 c_5))⟩, by rw [ht]; exact hP9, hD9⟩, hS.F ht⟩) hS.2.2 dX8_item_49
  · refine lv_iconst (v := (-1)) hx hb dX8_item_14 (by decide) ?_
    have hP9 := hP.sub (ws' := [(h0, .inr (8, [.ref a1, .ref a2, .ref a3, .ref a4, .ref a5, .int kp, .ref a6, .ref a7, .ref a8, .ref a9, .ref a10, .ref a11, .ref a12, .ref a13, .int tf, .int tu, .int od])), (a6, .inl (Z.2 4, 4, .inr (.inr (.inr (.inr sf))))), (qS, .inr (4, [.int ln, .ref it])), (it, .inl (Z.2 2, len, .inr (.inl sg)))]) [0, 1, 2, 3] rfl
    have hD9 := hD.sub (ws' := [(h0, .inr (8, [.ref a1, .ref a2, .ref a3, .ref a4, .ref a5, .int kp, .ref a6, .ref a7, .ref a8, .ref a9, .ref a10, .ref a11, .ref a12, .ref a13, .int tf, .int tu, .int od])), (a6, .inl (Z.2 4, 4, .inr (.inr (.inr (.inr sf))))), (qS, .inr (4, [.int ln, .ref it])), (it, .inl (Z.2 2, len, .inr (.inl sg)))]) [0, 1, 2, 3] (by decide +kernel) rfl
    exact W.iret (v := (-1)) hx hb hr (fun t9 ht hW => ⟨⟨(-1), sg, rfl, ⟨(zI_n (fun q => z_la0 c_3 q.2)).symm, it_N hsg (zI_n (fun q => z_la0 c_3 q.2)).symm (by decide)⟩, by rw [ht]; exact hP9, hD9⟩, hS.F ht⟩) hS.2.2 dX8_item_15
set_option maxHeartbeats 4000000 in
set_option maxRecDepth 100000 in
theorem lp_X8_film {p : Program} {l : Launch} {e : Env} {s : State} {m : MethodId} {args : Array Value} {below : List Frame} {meth : Method} {c : Code} {Q : State → Prop} {A : Nat → Prop} (Z : gZ) (h0 : Nat) (a1 : Nat) (a2 : Nat) (a3 : Nat) (a4 : Nat) (a5 : Nat) (a6 : Nat) (a7 : Nat) (a8 : Nat) (a9 : Nat) (a10 : Nat) (a11 : Nat) (a12 : Nat) (a13 : Nat) (kp : Int32) (tf : Int32) (tu : Int32) (od : Int32) (n : Nat) (kn : Int32) (ak : Int32) (fk : Nat) (fq : Nat) (fg : Nat → Int32) (sf : Nat → Option Nat) (qS : Nat) (it : Nat) (ln : Int32) (len : Nat) (u0 : Nat) (pc : Nat → Nat) (s0 : Nat → Int64) (hn : n ≤ 5) (hl24 : len ≤ 24) (hu : u0 + n ≤ len) (hpc : ∀ p, p < n → fg p = nI (pc p)) (hx : p.tables.exec = Jvm.exec) (hb : c.code = cX8_film) (hml : c.maxLocals = 7) (hts : ∀ w ∈ wsX8_film, w.before args s = true) (hown : s.vm.findClass RX8 = some m.cls) (hK : va_K Z.1 vwCl (gT Z) s) (hA : ∀ q : Nat, s.heap.size ≤ q → A q) (kx_97 : ∀ (j : Nat) (sg : Nat → Int64) (H : Heap) (locs : List Loc) (ls : Array Slot), (rwN (fun p => asLn ln (nI (pc p)).toInt64) u0 n s0 sg) → va_P Z.1 vwCl [(h0, .inr (8, [.ref a1, .ref a2, .ref a3, .ref a4, .ref a5, .int kp, .ref a6, .ref a7, .ref a8, .ref a9, .ref a10, .ref a11, .ref a12, .ref a13, .int tf, .int tu, .int od])), (a1, .inr (0, [.int (nI n), .int kn, .int ak, .ref fk, .ref fq])), (fq, .inl (Z.2 0, 5, .inl fg)), (a6, .inl (Z.2 4, 4, .inr (.inr (.inr (.inr sf))))), (qS, .inr (4, [.int ln, .ref it])), (it, .inl (Z.2 2, len, .inr (.inl sg)))] H → va_D A [(h0, .inr (8, [.ref a1, .ref a2, .ref a3, .ref a4, .ref a5, .int kp, .ref a6, .ref a7, .ref a8, .ref a9, .ref a10, .ref a11, .ref a12, .ref a13, .int tf, .int tu, .int od])), (a1, .inr (0, [.int (nI n), .int kn, .int ak, .ref fk, .ref fq])), (fq, .inl (Z.2 0, 5, .inl fg)), (a6, .inl (Z.2 4, 4, .inr (.inr (.inr (.inr sf))))), (qS, .inr (4, [.int ln, .ref it])), (it, .inl (Z.2 2, len, .inr (.inl sg)))] → va_S A s.heap H locs → lv_has ls 7 [(0, .ref h0), (3, .int (nI u0)), (4, .ref qS), (6, .int (nI j))] → W p l e ({ frames := 3, cells := 0, slots := 0, locals := 120 } : Room) s m args below meth c H locs 0 0 Q (F0 m 97 ls [])) : ∀ (fu9 : Nat) (j : Nat) (sg : Nat → Int64), n - j < fu9 → (j ≤ n) → (rwN (fun p => asLn ln (nI (pc p)).toInt64) u0 j s0 sg) → ∀ (H : Heap) (locs : List Loc) (ls : Array Slot), va_P Z.1 vwCl [(h0, .inr (8, [.ref a1, .ref a2, .ref a3, .ref a4, .ref a5, .int kp, .ref a6, .ref a7, .ref a8, .ref a9, .ref a10, .ref a11, .ref a12, .ref a13, .int tf, .int tu, .int od])), (a1, .inr (0, [.int (nI n), .int kn, .int ak, .ref fk, .ref fq])), (fq, .inl (Z.2 0, 5, .inl fg)), (a6, .inl (Z.2 4, 4, .inr (.inr (.inr (.inr sf))))), (qS, .inr (4, [.int ln, .ref it])), (it, .inl (Z.2 2, len, .inr (.inl sg)))] H → va_D A [(h0, .inr (8, [.ref a1, .ref a2, .ref a3, .ref a4, .ref a5, .int kp, .ref a6, .ref a7, .ref a8, .ref a9, .ref a10, .ref a11, .ref a12, .ref a13, .int tf, .int tu, .int od])), (a1, .inr (0, [.int (nI n), .int kn, .int ak, .ref fk, .ref fq])), (fq, .inl (Z.2 0, 5, .inl fg)), (a6, .inl (Z.2 4, 4, .inr (.inr (.inr (.inr sf))))), (qS, .inr (4, [.int ln, .ref it])), (it, .inl (Z.2 2, len, .inr (.inl sg)))] → va_S A s.heap H locs → lv_has ls 7 [(0, .ref h0), (3, .int (nI u0)), (4, .ref qS), (6, .int (nI j))] → W p l e ({ frames := 3, cells := 0, slots := 0, locals := 120 } : Room) s m args below meth c H locs 0 0 Q (F0 m 59 ls []) := by
  have hin0 : ∀ w ∈ wsX00, w ∈ wsX8_film := fun w h9 => (List.mem_cons_of_mem _ (List.mem_append_left _ (List.mem_append_right _ h9)))
  have hin8 : ∀ w ∈ wsX80, w ∈ wsX8_film := fun w h9 => (List.mem_cons_of_mem _ (List.mem_append_left _ (List.mem_append_left _ (List.mem_append_right _ h9))))
  intro fu9
  induction fu9 with
  | zero => intro j sg hf9; exact absurd hf9 (Nat.not_lt_zero _)
  | succ fu9 ih =>
    intro j sg hf9 hj hI H locs ls hP hD hS hl
    refine lv_iload hx hb dX8_film_59 (lv_at hl 3 rfl) ?_
    refine lv_aload_n hx hb dX8_film_61 rfl (lv_at hl 0 rfl) ?_
    refine va_get (D := Z.1) (ci := 8) (v := .ref a1) (C := RX8) (T := TX8) (N := 17) hx hb hts hin8 hown hK hP 0 rfl rfl 0 (by decide) (hts (.fieldLink RX8 10 "HalfAsked" "folk" "LHalfAsked$Folk;") (List.mem_of_getElem? (i := 2) rfl)) (fun _ h9 => h9) rfl dX8_film_62 ?_
    refine va_get (D := Z.1) (ci := 0) (v := .int (nI n)) (C := RX0) (T := TX0) (N := 5) hx hb hts hin0 hown hK hP 1 rfl rfl 0 (by decide) (hts (.fieldLink RX8 98 "HalfAsked$Folk" "size" "I") (List.mem_of_getElem? (i := 3) rfl)) (fun _ h9 => h9) rfl dX8_film_65 ?_
    refine lv_icmp_ge (tgt := 97) hx hb dX8_film_68 (by decide) (fun c_1 => ?_) (fun c_1 => ?_)
    · exact kx_97 j sg H locs ls (by have e9 : j = n := Nat.le_antisymm hj ((nI_leI (by omega) (by omega)).mp c_1); rw [e9] at hI; exact hI) hP hD hS (lv_sub hl [0, 1, 2, 3] rfl)
    · have hlt : j < n := z_clt (by omega) hj c_1
      refine lv_aload hx hb dX8_film_71 (lv_at hl 2 rfl) ?_
      refine lv_iload_n hx hb dX8_film_73 rfl (lv_at hl 1 rfl) ?_
      refine lv_iload hx hb dX8_film_74 (lv_at hl 3 rfl) ?_
      refine lv_iadd hx hb dX8_film_76 ?_
      refine lv_topi (fun f_2 ef_2 => ?_)
      obtain rfl : nI (u0 + j) = f_2 := (ef_2.trans (nI_add _ _)).symm
      refine lv_aload_n hx hb dX8_film_77 rfl (lv_at hl 0 rfl) ?_
      refine va_get (D := Z.1) (ci := 8) (v := .ref a1) (C := RX8) (T := TX8) (N := 17) hx hb hts hin8 hown hK hP 0 rfl rfl 0 (by decide) (hts (.fieldLink RX8 10 "HalfAsked" "folk" "LHalfAsked$Folk;") (List.mem_of_getElem? (i := 2) rfl)) (fun _ h9 => h9) rfl dX8_film_78 ?_
      refine va_get (D := Z.1) (ci := 0) (v := .ref fq) (C := RX0) (T := TX0) (N := 5) hx hb hts hin0 hown hK hP 1 rfl rfl 4 (by decide) (hts (.fieldLink RX8 111 "HalfAsked$Folk" "pence" "[I") (List.mem_of_getElem? (i := 4) rfl)) (fun _ h9 => h9) rfl dX8_film_81 ?_
      refine lv_iload hx hb dX8_film_84 (lv_at hl 3 rfl) ?_
      refine va_iald hx hb hK hP 2 0 rfl rfl (vp_in_nI (by omega) (by decide)) dX8_film_86 ?_
      refine lv_topi (fun f_3 ef_3 => ?_)
      obtain rfl : nI (pc j) = f_3 := (ef_3.trans (by rw [nI_clamp (by omega)]; exact hpc j hlt)).symm
      refine lv_i2l hx hb dX8_film_87 rfl ?_
      have hPc := hP.sub (ws' := [(qS, .inr (4, [.int ln, .ref it])), (it, .inl (Z.2 2, len, .inr (.inl sg)))]) [4, 5] rfl
      have hDc := hD.sub (ws' := [(qS, .inr (4, [.int ln, .ref it])), (it, .inl (Z.2 2, len, .inr (.inl sg)))]) [4, 5] (by decide +kernel) rfl
      have hFc := va_free (wc := [(qS, .inr (4, [.int ln, .ref it])), (it, .inl (Z.2 2, len, .inr (.inl sg)))]) hD hS hA [4, 5] rfl
      refine va_callv (va_runV (As := [.int (nI (u0 + j)), .long ((nI (pc j)).toInt64)]) (rest := []) ⟨hx, hb, hml, hown, hts⟩ (c_X4_put l Z H.size qS it ln len sg (nI (u0 + j)) ((nI (pc j)).toInt64) (vp_in_nI (by omega) (by omega))) (cwV 2 hts gX8_film_X4_put rfl rfl rfl (by decide +kernel) ⟨Nat.le_of_ble_eq_true rfl, Nat.le_of_ble_eq_true rfl⟩) ⟨fun a U g mk q => by obtain ⟨q0, q1, qP, qK, qD⟩ := q; exact ⟨q0, q1, qP, va_K.moved (u := U) (U := U.calling g mk a) (Vm.Alike.refl U.vm) qK, qD⟩, va_recv hK hPc (ci := 4) (q0 := 0) rfl rfl, fun U hU hW => ⟨rfl, by rw [hU], by rw [hU]; exact hPc, va_K.moved hW.alike hK, hDc.weaken (fun _ _ _ _ => trivial)⟩⟩ rfl rfl hl.1 rfl (lv_room (Nat.le_of_ble_eq_true rfl)) dX8_film_88 ⟨Nat.le_of_ble_eq_true rfl, Nat.le_of_ble_eq_true rfl⟩) hS (fun q _ h => hFc q h) hFc (fun u t9 H1 locs ht hvm hw hB hz1 hk1 hS => ?_)
      obtain ⟨sg1_5, rfl⟩ : ∃ z, z = u := ⟨_, rfl⟩
      try dsimp only at hw hB
      have hx_6 := hw
      subst hx_6
      obtain ⟨hP1, hD1⟩ := hB
      rw [ht] at hP1
      obtain ⟨hP, hD⟩ := va_join (wr := [(h0, .inr (8, [.ref a1, .ref a2, .ref a3, .ref a4, .ref a5, .int kp, .ref a6, .ref a7, .ref a8, .ref a9, .ref a10, .ref a11, .ref a12, .ref a13, .int tf, .int tu, .int od])), (a1, .inr (0, [.int (nI n), .int kn, .int ak, .ref fk, .ref fq])), (fq, .inl (Z.2 0, 5, .inl fg)), (a6, .inl (Z.2 4, 4, .inr (.inr (.inr (.inr sf)))))]) (w1 := [(qS, .inr (4, [.int ln, .ref it])), (it, .inl (Z.2 2, len, .inr (.inl (q_X4_put_sg1 ln sg (nI (u0 + j)) ((nI (pc j)).toInt64)))))]) hP hD [4, 5] [0, 1, 2, 3] rfl rfl (by decide +kernel) (by decide +kernel) hk1 hFc hP1 hD1
      clear hPc hDc hP1 hD1 hk1 hz1 hFc ht hvm
      generalize H1 = H at hP hS ⊢
      have hP : va_P Z.1 vwCl [(h0, .inr (8, [.ref a1, .ref a2, .ref a3, .ref a4, .ref a5, .int kp, .ref a6, .ref a7, .ref a8, .ref a9, .ref a10, .ref a11, .ref a12, .ref a13, .int tf, .int tu, .int od])), (a1, .inr (0, [.int (nI n), .int kn, .int ak, .ref fk, .ref fq])), (fq, .inl (Z.2 0, 5, .inl fg)), (a6, .inl (Z.2 4, 4, .inr (.inr (.inr (.inr sf))))), (qS, .inr (4, [.int ln, .ref it])), (it, .inl (Z.2 2, len, .inr (.inl (q_X4_put_sg1 ln sg (nI (u0 + j)) ((nI (pc j)).toInt64)))))] H := hP
      have hD : va_D A [(h0, .inr (8, [.ref a1, .ref a2, .ref a3, .ref a4, .ref a5, .int kp, .ref a6, .ref a7, .ref a8, .ref a9, .ref a10, .ref a11, .ref a12, .ref a13, .int tf, .int tu, .int od])), (a1, .inr (0, [.int (nI n), .int kn, .int ak, .ref fk, .ref fq])), (fq, .inl (Z.2 0, 5, .inl fg)), (a6, .inl (Z.2 4, 4, .inr (.inr (.inr (.inr sf))))), (qS, .inr (4, [.int ln, .ref it])), (it, .inl (Z.2 2, len, .inr (.inl (q_X4_put_sg1 ln sg (nI (u0 + j)) ((nI (pc j)).toInt64)))))] := hD
      refine lv_iinc (v := nI (j + 1)) (lv' := [(6, .int (nI (j + 1))), (0, .ref h0), (3, .int (nI u0)), (4, .ref qS)]) hx hb dX8_film_91 hl (k := 3) rfl (nI_1 _) (by decide) rfl (fun ls hl => ?_)
      refine lv_goto (tgt := 59) hx hb dX8_film_94 (by decide) ?_
      exact ih (j + 1) (q_X4_put_sg1 ln sg (nI (u0 + j)) ((nI (pc j)).toInt64)) (by omega) (hlt) (by rw [put_c]; exact rwN_s hI (by rw [nI_clamp (by omega)]) rfl) H locs ls hP hD hS (lv_sub hl [1, 2, 3, 0] rfl)
theorem fi_N {sl : zSL} {im : zIM} {n : Nat} {pc : Nat → Nat} {a b d x : Int32} {g : Nat → Int64} (hg : g = im a.toNatClampNeg) (e : x = zFilm sl n a b d) (hx : x < 0) : g = imFilm sl n pc im a b d a.toNatClampNeg := by
  unfold imFilm
  rw [zI_n (fun q => Int32.not_lt.mpr (by rw [e]; exact q) hx)]
  exact hg
theorem fi_Y {sl : zSL} {im : zIM} {n u0 : Nat} {pc : Nat → Nat} {a b ln : Int32} {g g1 : Nat → Int64} (hg : g = im a.toNatClampNeg) (hu : u0 < 1000) (hn : n ≤ 5) (e : nI n = zFilm sl n a b (nI u0)) (el : ln = b) (h1 : rwN (fun p => asLn ln (nI (pc p)).toInt64) u0 n g g1) : g1 = imFilm sl n pc im a b (nI u0) a.toNatClampNeg := by
  unfold imFilm
  rw [zI_p (by rw [← e]; exact nI_pos' (by omega)), nI_clamp (show u0 < 2 ^ 31 by omega)]
  funext j
  rw [h1 j]
  show (if u0 ≤ j ∧ j < u0 + n then asLn ln (nI (pc (j - u0))).toInt64 else g j) = if a.toNatClampNeg = a.toNatClampNeg ∧ u0 ≤ j ∧ j < u0 + n then asLn b (nI (pc (j - u0))).toInt64 else im a.toNatClampNeg j
  by_cases c : u0 ≤ j ∧ j < u0 + n
  · rw [if_pos c, if_pos ⟨rfl, c⟩, el]
  · rw [if_neg c, if_neg (fun q => c q.2), hg]
set_option maxHeartbeats 4000000 in
set_option maxRecDepth 100000 in
theorem c_X8_film_S (l : Launch) (Z : gZ) (sz : Nat) (h0 : Nat) (a1 : Nat) (a2 : Nat) (a3 : Nat) (a4 : Nat) (a5 : Nat) (a6 : Nat) (a7 : Nat) (a8 : Nat) (a9 : Nat) (a10 : Nat) (a11 : Nat) (a12 : Nat) (a13 : Nat) (kp : Int32) (tf : Int32) (tu : Int32) (od : Int32) (n : Nat) (kn : Int32) (ak : Int32) (fk : Nat) (fq : Nat) (fg : Nat → Int32) (sf : Nat → Option Nat) (qS : Nat) (it : Nat) (ln : Int32) (len : Nat) (sg : Nat → Int64) (a : Int32) (b : Int32) (d : Int32) (im : zIM) (pc : Nat → Nat) (sl : zSL) (hn : n ≤ 5) (hl24 : len ≤ 24) (ha : vp_in a 4) (hsf : sf a.toNatClampNeg = some qS) (hsl : sl a.toNatClampNeg = some (ln, len)) (hsg : sg = im a.toNatClampNeg) (hpc : ∀ p, p < n → fg p = nI (pc p)) : Met l yX8_film wsX8_film ({ frames := 3, cells := 0, slots := 0, locals := 120 }) (va_Pc [.ref h0, .int a, .int b, .int d] (fun U => U.heap.size = sz ∧ va_P Z.1 vwCl [(h0, .inr (8, [.ref a1, .ref a2, .ref a3, .ref a4, .ref a5, .int kp, .ref a6, .ref a7, .ref a8, .ref a9, .ref a10, .ref a11, .ref a12, .ref a13, .int tf, .int tu, .int od])), (a1, .inr (0, [.int (nI n), .int kn, .int ak, .ref fk, .ref fq])), (fq, .inl (Z.2 0, 5, .inl fg)), (a6, .inl (Z.2 4, 4, .inr (.inr (.inr (.inr sf))))), (qS, .inr (4, [.int ln, .ref it])), (it, .inl (Z.2 2, len, .inr (.inl sg)))] U.heap ∧ va_K Z.1 vwCl (gT Z) U ∧ va_D (fun _ => True) [(h0, .inr (8, [.ref a1, .ref a2, .ref a3, .ref a4, .ref a5, .int kp, .ref a6, .ref a7, .ref a8, .ref a9, .ref a10, .ref a11, .ref a12, .ref a13, .int tf, .int tu, .int od])), (a1, .inr (0, [.int (nI n), .int kn, .int ak, .ref fk, .ref fq])), (fq, .inl (Z.2 0, 5, .inl fg)), (a6, .inl (Z.2 4, 4, .inr (.inr (.inr (.inr sf))))), (qS, .inr (4, [.int ln, .ref it])), (it, .inl (Z.2 2, len, .inr (.inl sg)))])) (va_Qi (fun (r : Int32) (u : (Nat → Int64)) => match u with | sg1 => r = zFilm sl n a b d ∧ sg1 = imFilm sl n pc im a b d a.toNatClampNeg) (fun (u : (Nat → Int64)) (t9 : State) => match u with | sg1 => va_P Z.1 vwCl [(h0, .inr (8, [.ref a1, .ref a2, .ref a3, .ref a4, .ref a5, .int kp, .ref a6, .ref a7, .ref a8, .ref a9, .ref a10, .ref a11, .ref a12, .ref a13, .int tf, .int tu, .int od])), (a1, .inr (0, [.int (nI n), .int kn, .int ak, .ref fk, .ref fq])), (fq, .inl (Z.2 0, 5, .inl fg)), (a6, .inl (Z.2 4, 4, .inr (.inr (.inr (.inr sf))))), (qS, .inr (4, [.int ln, .ref it])), (it, .inl (Z.2 2, len, .inr (.inl sg1)))] t9.heap ∧ va_D (va_A [(h0, .inr (8, [.ref a1, .ref a2, .ref a3, .ref a4, .ref a5, .int kp, .ref a6, .ref a7, .ref a8, .ref a9, .ref a10, .ref a11, .ref a12, .ref a13, .int tf, .int tu, .int od])), (a1, .inr (0, [.int (nI n), .int kn, .int ak, .ref fk, .ref fq])), (fq, .inl (Z.2 0, 5, .inl fg)), (a6, .inl (Z.2 4, 4, .inr (.inr (.inr (.inr sf))))), (qS, .inr (4, [.int ln, .ref it])), (it, .inl (Z.2 2, len, .inr (.inl sg)))] sz) [(h0, .inr (8, [.ref a1, .ref a2, .ref a3, .ref a4, .ref a5, .int kp, .ref a6, .ref a7, .ref a8, .ref a9, .ref a10, .ref a11, .ref a12, .ref a13, .int tf, .int tu, .int od])), (a1, .inr (0, [.int (nI n), .int kn, .int ak, .ref fk, .ref fq])), (fq, .inl (Z.2 0, 5, .inl fg)), (a6, .inl (Z.2 4, 4, .inr (.inr (.inr (.inr sf))))), (qS, .inr (4, [.int ln, .ref it])), (it, .inl (Z.2 2, len, .inr (.inl sg1)))]) (va_A [(h0, .inr (8, [.ref a1, .ref a2, .ref a3, .ref a4, .ref a5, .int kp, .ref a6, .ref a7, .ref a8, .ref a9, .ref a10, .ref a11, .ref a12, .ref a13, .int tf, .int tu, .int od])), (a1, .inr (0, [.int (nI n), .int kn, .int ak, .ref fk, .ref fq])), (fq, .inl (Z.2 0, 5, .inl fg)), (a6, .inl (Z.2 4, 4, .inr (.inr (.inr (.inr sf))))), (qS, .inr (4, [.int ln, .ref it])), (it, .inl (Z.2 2, len, .inr (.inl sg)))] sz)) 0 0 (va_A [(h0, .inr (8, [.ref a1, .ref a2, .ref a3, .ref a4, .ref a5, .int kp, .ref a6, .ref a7, .ref a8, .ref a9, .ref a10, .ref a11, .ref a12, .ref a13, .int tf, .int tu, .int od])), (a1, .inr (0, [.int (nI n), .int kn, .int ak, .ref fk, .ref fq])), (fq, .inl (Z.2 0, 5, .inl fg)), (a6, .inl (Z.2 4, 4, .inr (.inr (.inr (.inr sf))))), (qS, .inr (4, [.int ln, .ref it])), (it, .inl (Z.2 2, len, .inr (.inl sg)))] sz) := by
  refine Met.ofW (cc := cX8_film) (maxL := 7) (ret := (some .int)) (by decide) rfl ?_
  intro p e s m args below meth c s₁ B hml hv
  obtain ⟨rfl, hsz, hP, hK, hD0⟩ := hv
  have hx := B.exec
  have hb := B.bytes
  have hr := B.returns
  have hts := atoms_spec (ws := wsX8_film) B.pre
  have hown : s.vm.findClass RX8 = some m.cls := findClass_of_methodNamed B.named
  have hlocks := B.notSynchronized
  subst hsz
  have hin0 : ∀ w ∈ wsX00, w ∈ wsX8_film := fun w h9 => (List.mem_cons_of_mem _ (List.mem_append_left _ (List.mem_append_right _ h9)))
  have hin8 : ∀ w ∈ wsX80, w ∈ wsX8_film := fun w h9 => (List.mem_cons_of_mem _ (List.mem_append_left _ (List.mem_append_left _ (List.mem_append_right _ h9))))
  have hD := hD0.self (sz := s.heap.size)
  generalize hAe : va_A [(h0, .inr (8, [.ref a1, .ref a2, .ref a3, .ref a4, .ref a5, .int kp, .ref a6, .ref a7, .ref a8, .ref a9, .ref a10, .ref a11, .ref a12, .ref a13, .int tf, .int tu, .int od])), (a1, .inr (0, [.int (nI n), .int kn, .int ak, .ref fk, .ref fq])), (fq, .inl (Z.2 0, 5, .inl fg)), (a6, .inl (Z.2 4, 4, .inr (.inr (.inr (.inr sf))))), (qS, .inr (4, [.int ln, .ref it])), (it, .inl (Z.2 2, len, .inr (.inl sg)))] s.heap.size = A at hD ⊢
  have hA : ∀ q : Nat, s.heap.size ≤ q → A q := fun q h => by rw [← hAe]; exact Or.inr h
  have hS : va_S A s.heap s.heap [] := va_S.rf
  have hP : va_P Z.1 vwCl [(h0, .inr (8, [.ref a1, .ref a2, .ref a3, .ref a4, .ref a5, .int kp, .ref a6, .ref a7, .ref a8, .ref a9, .ref a10, .ref a11, .ref a12, .ref a13, .int tf, .int tu, .int od])), (a1, .inr (0, [.int (nI n), .int kn, .int ak, .ref fk, .ref fq])), (fq, .inl (Z.2 0, 5, .inl fg)), (a6, .inl (Z.2 4, 4, .inr (.inr (.inr (.inr sf))))), (qS, .inr (4, [.int ln, .ref it])), (it, .inl (Z.2 2, len, .inr (.inl sg)))] s.heap := hP
  have hl := lv_entry ([.ref h0, .int a, .int b, .int d]) (n := 7) (Nat.le_of_ble_eq_true rfl)
  rw [lg_entry_eq]
  generalize (lg_sl ([.ref h0, .int a, .int b, .int d]) ++ List.replicate (7 - (lg_sl ([.ref h0, .int a, .int b, .int d])).length) Slot.unset).toArray = ls at hl ⊢
  have hl : lv_has ls 7 [(0, .ref h0), (1, .int a), (2, .int b), (3, .int d)] := hl
  refine lv_iload_n hx hb dX8_film_0 rfl (lv_at hl 1 rfl) ?_
  have hPc := hP.sub (ws' := []) [] rfl
  have hDc := hD.sub (ws' := []) [] (by decide +kernel) rfl
  have hFc := va_free (wc := []) hD hS hA [] rfl
  refine va_calli (va_runS (As := [.int a]) (rest := []) ⟨hx, hb, hml, hown, hts⟩ (c_X8_isSheet l Z s.heap.size a) (va_cwS 1 hts gX8_film_X8_isSheet rfl rfl rfl (by decide +kernel) ⟨Nat.le_of_ble_eq_true rfl, Nat.le_of_ble_eq_true rfl⟩) ⟨fun a U g mk q => by obtain ⟨q0, q1, qP, qK, qD⟩ := q; exact ⟨q0, q1, qP, va_K.moved (u := U) (U := U.calling g mk a) (Vm.Alike.refl U.vm) qK, qD⟩, fun U hU hW => ⟨rfl, by rw [hU], by rw [hU]; exact hPc, va_K.moved hW.alike hK, hDc.weaken (fun _ _ _ _ => trivial)⟩⟩ rfl rfl hl.1 rfl (lv_room (Nat.le_of_ble_eq_true rfl)) dX8_film_1 ⟨Nat.le_of_ble_eq_true rfl, Nat.le_of_ble_eq_true rfl⟩) hS (fun q _ h => hFc q h) hFc (fun r_1 u t9 H1 locs ht hvm hw hB hz1 hk1 hS => ?_)
  obtain rfl : 1 = r_1 := (hw.trans (z_shv ha)).symm
  have hP1 : va_P Z.1 vwCl [] H1 := fun k q h => by simp at h
  have hD1 : va_D (va_A [] s.heap.size) [] := ⟨fun i j p q h => by simp at h, fun k q h => by simp at h⟩
  obtain ⟨hP, hD⟩ := va_join (wr := [(h0, .inr (8, [.ref a1, .ref a2, .ref a3, .ref a4, .ref a5, .int kp, .ref a6, .ref a7, .ref a8, .ref a9, .ref a10, .ref a11, .ref a12, .ref a13, .int tf, .int tu, .int od])), (a1, .inr (0, [.int (nI n), .int kn, .int ak, .ref fk, .ref fq])), (fq, .inl (Z.2 0, 5, .inl fg)), (a6, .inl (Z.2 4, 4, .inr (.inr (.inr (.inr sf))))), (qS, .inr (4, [.int ln, .ref it])), (it, .inl (Z.2 2, len, .inr (.inl sg)))]) (w1 := []) hP hD [] [0, 1, 2, 3, 4, 5] rfl rfl (by decide +kernel) (by decide +kernel) hk1 hFc hP1 hD1
  clear hPc hDc hP1 hD1 hk1 hz1 hFc ht hvm
  generalize H1 = H at hP hS ⊢
  have hP : va_P Z.1 vwCl [(h0, .inr (8, [.ref a1, .ref a2, .ref a3, .ref a4, .ref a5, .int kp, .ref a6, .ref a7, .ref a8, .ref a9, .ref a10, .ref a11, .ref a12, .ref a13, .int tf, .int tu, .int od])), (a1, .inr (0, [.int (nI n), .int kn, .int ak, .ref fk, .ref fq])), (fq, .inl (Z.2 0, 5, .inl fg)), (a6, .inl (Z.2 4, 4, .inr (.inr (.inr (.inr sf))))), (qS, .inr (4, [.int ln, .ref it])), (it, .inl (Z.2 2, len, .inr (.inl sg)))] H := hP
  have hD : va_D A [(h0, .inr (8, [.ref a1, .ref a2, .ref a3, .ref a4, .ref a5, .int kp, .ref a6, .ref a7, .ref a8, .ref a9, .ref a10, .ref a11, .ref a12, .ref a13, .int tf, .int tu, .int od])), (a1, .inr (0, [.int (nI n), .int kn, .int ak, .ref fk, .ref fq])), (fq, .inl (Z.2 0, 5, .inl fg)), (a6, .inl (Z.2 4, 4, .inr (.inr (.inr (.inr sf))))), (qS, .inr (4, [.int ln, .ref it])), (it, .inl (Z.2 2, len, .inr (.inl sg)))] := hD
  refine lv_if_eq (tgt := 14) hx hb dX8_film_4 (by decide) (fun c9 => absurd c9 (by decide)) (fun _ => ?_)
  refine lv_iload_n hx hb dX8_film_7 rfl (lv_at hl 2 rfl) ?_
  have hPc := hP.sub (ws' := []) [] rfl
  have hDc := hD.sub (ws' := []) [] (by decide +kernel) rfl
  have hFc := va_free (wc := []) hD hS hA [] rfl
  refine va_calli (va_runS (As := [.int b]) (rest := []) ⟨hx, hb, hml, hown, hts⟩ (c_X8_isLane l Z H.size b) (va_cwS 1 hts gX8_film_X8_isLane rfl rfl rfl (by decide +kernel) ⟨Nat.le_of_ble_eq_true rfl, Nat.le_of_ble_eq_true rfl⟩) ⟨fun a U g mk q => by obtain ⟨q0, q1, qP, qK, qD⟩ := q; exact ⟨q0, q1, qP, va_K.moved (u := U) (U := U.calling g mk a) (Vm.Alike.refl U.vm) qK, qD⟩, fun U hU hW => ⟨rfl, by rw [hU], by rw [hU]; exact hPc, va_K.moved hW.alike hK, hDc.weaken (fun _ _ _ _ => trivial)⟩⟩ rfl rfl hl.1 rfl (lv_room (Nat.le_of_ble_eq_true rfl)) dX8_film_8 ⟨Nat.le_of_ble_eq_true rfl, Nat.le_of_ble_eq_true rfl⟩) hS (fun q _ h => hFc q h) hFc (fun r_2 u t9 H1 locs ht hvm hw hB hz1 hk1 hS => ?_)
  have hw9 := hw.symm
  clear hw
  subst hw9
  have hP1 : va_P Z.1 vwCl [] H1 := fun k q h => by simp at h
  have hD1 : va_D (va_A [] H.size) [] := ⟨fun i j p q h => by simp at h, fun k q h => by simp at h⟩
  obtain ⟨hP, hD⟩ := va_join (wr := [(h0, .inr (8, [.ref a1, .ref a2, .ref a3, .ref a4, .ref a5, .int kp, .ref a6, .ref a7, .ref a8, .ref a9, .ref a10, .ref a11, .ref a12, .ref a13, .int tf, .int tu, .int od])), (a1, .inr (0, [.int (nI n), .int kn, .int ak, .ref fk, .ref fq])), (fq, .inl (Z.2 0, 5, .inl fg)), (a6, .inl (Z.2 4, 4, .inr (.inr (.inr (.inr sf))))), (qS, .inr (4, [.int ln, .ref it])), (it, .inl (Z.2 2, len, .inr (.inl sg)))]) (w1 := []) hP hD [] [0, 1, 2, 3, 4, 5] rfl rfl (by decide +kernel) (by decide +kernel) hk1 hFc hP1 hD1
  clear hPc hDc hP1 hD1 hk1 hz1 hFc ht hvm
  generalize H1 = H at hP hS ⊢
  have hP : va_P Z.1 vwCl [(h0, .inr (8, [.ref a1, .ref a2, .ref a3, .ref a4, .ref a5, .int kp, .ref a6, .ref a7, .ref a8, .ref a9, .ref a10, .ref a11, .ref a12, .ref a13, .int tf, .int tu, .int od])), (a1, .inr (0, [.int (nI n), .int kn, .int ak, .ref fk, .ref fq])), (fq, .inl (Z.2 0, 5, .inl fg)), (a6, .inl (Z.2 4, 4, .inr (.inr (.inr (.inr sf))))), (qS, .inr (4, [.int ln, .ref it])), (it, .inl (Z.2 2, len, .inr (.inl sg)))] H := hP
  have hD : va_D A [(h0, .inr (8, [.ref a1, .ref a2, .ref a3, .ref a4, .ref a5, .int kp, .ref a6, .ref a7, .ref a8, .ref a9, .ref a10, .ref a11, .ref a12, .ref a13, .int tf, .int tu, .int od])), (a1, .inr (0, [.int (nI n), .int kn, .int ak, .ref fk, .ref fq])), (fq, .inl (Z.2 0, 5, .inl fg)), (a6, .inl (Z.2 4, 4, .inr (.inr (.inr (.inr sf))))), (qS, .inr (4, [.int ln, .ref it])), (it, .inl (Z.2 2, len, .inr (.inl sg)))] := hD
  refine lv_if_ne (tgt := 16) hx hb dX8_film_11 (by decide) (fun c_3 => ?_) (fun c_3 => ?_)
  · refine lv_aload_n hx hb dX8_film_16 rfl (lv_at hl 0 rfl) ?_
    refine va_get (D := Z.1) (ci := 8) (v := .ref a6) (C := RX8) (T := TX8) (N := 17) hx hb hts hin8 hown hK hP 0 rfl rfl 6 (by decide) (hts (.fieldLink RX8 42 "HalfAsked" "sheets" "[LHalfAsked$Sheet;") (List.mem_of_getElem? (i := 1) rfl)) (fun _ h9 => h9) rfl dX8_film_17 ?_
    refine lv_iload_n hx hb dX8_film_20 rfl (lv_at hl 1 rfl) ?_
    refine va_aldq hx hb hK hP 3 4 rfl rfl ha dX8_film_21 ?_
    refine W.eq (g2 := F0 m 22 ls [.ref qS]) (congrArg (fun z9 => F0 m 22 ls (va_rf z9 :: [])) (hsf)) ?_
    refine lv_astore (lv' := [(4, .ref qS), (0, .ref h0), (1, .int a), (2, .int b), (3, .int d)]) hx hb dX8_film_22 hl (by decide) rfl (fun ls hl => ?_)
    refine lv_aload hx hb dX8_film_24 (lv_at hl 0 rfl) ?_
    refine lv_ifnonnull (tgt := 32) hx hb dX8_film_26 (by decide) ?_
    refine lv_aload hx hb dX8_film_32 (lv_at hl 0 rfl) ?_
    refine lv_iload_n hx hb dX8_film_34 rfl (lv_at hl 3 rfl) ?_
    refine lv_iload_n hx hb dX8_film_35 rfl (lv_at hl 4 rfl) ?_
    refine lv_aload_n hx hb dX8_film_36 rfl (lv_at hl 1 rfl) ?_
    refine va_get (D := Z.1) (ci := 8) (v := .ref a1) (C := RX8) (T := TX8) (N := 17) hx hb hts hin8 hown hK hP 0 rfl rfl 0 (by decide) (hts (.fieldLink RX8 10 "HalfAsked" "folk" "LHalfAsked$Folk;") (List.mem_of_getElem? (i := 2) rfl)) (fun _ h9 => h9) rfl dX8_film_37 ?_
    refine va_get (D := Z.1) (ci := 0) (v := .int (nI n)) (C := RX0) (T := TX0) (N := 5) hx hb hts hin0 hown hK hP 1 rfl rfl 0 (by decide) (hts (.fieldLink RX8 98 "HalfAsked$Folk" "size" "I") (List.mem_of_getElem? (i := 3) rfl)) (fun _ h9 => h9) rfl dX8_film_40 ?_
    have hPc := hP.sub (ws' := [(qS, .inr (4, [.int ln, .ref it])), (it, .inl (Z.2 2, len, .inr (.inl sg)))]) [4, 5] rfl
    have hDc := hD.sub (ws' := [(qS, .inr (4, [.int ln, .ref it])), (it, .inl (Z.2 2, len, .inr (.inl sg)))]) [4, 5] (by decide +kernel) rfl
    have hFc := va_free (wc := [(qS, .inr (4, [.int ln, .ref it])), (it, .inl (Z.2 2, len, .inr (.inl sg)))]) hD hS hA [4, 5] rfl
    refine va_calli (va_runV (As := [.int b, .int d, .int (nI n)]) (rest := []) ⟨hx, hb, hml, hown, hts⟩ (c_X4_lookAt l Z H.size qS it ln len sg b d (nI n)) (cwV 3 hts gX8_film_X4_lookAt rfl rfl rfl (by decide +kernel) ⟨Nat.le_of_ble_eq_true rfl, Nat.le_of_ble_eq_true rfl⟩) ⟨fun a U g mk q => by obtain ⟨q0, q1, qP, qK, qD⟩ := q; exact ⟨q0, q1, qP, va_K.moved (u := U) (U := U.calling g mk a) (Vm.Alike.refl U.vm) qK, qD⟩, va_recv hK hPc (ci := 4) (q0 := 0) rfl rfl, fun U hU hW => ⟨rfl, by rw [hU], by rw [hU]; exact hPc, va_K.moved hW.alike hK, hDc.weaken (fun _ _ _ _ => trivial)⟩⟩ rfl rfl hl.1 rfl (lv_room (Nat.le_of_ble_eq_true rfl)) dX8_film_43 ⟨Nat.le_of_ble_eq_true rfl, Nat.le_of_ble_eq_true rfl⟩) hS (fun q _ h => hFc q h) hFc (fun r_4 u t9 H1 locs ht hvm hw hB hz1 hk1 hS => ?_)
    obtain rfl : zLk (some (ln, len)) b d n = r_4 := (hw.trans (z_lkeq hl24 (by omega))).symm
    obtain ⟨hP1, hD1⟩ := hB
    rw [ht] at hP1
    obtain ⟨hP, hD⟩ := va_join (wr := [(h0, .inr (8, [.ref a1, .ref a2, .ref a3, .ref a4, .ref a5, .int kp, .ref a6, .ref a7, .ref a8, .ref a9, .ref a10, .ref a11, .ref a12, .ref a13, .int tf, .int tu, .int od])), (a1, .inr (0, [.int (nI n), .int kn, .int ak, .ref fk, .ref fq])), (fq, .inl (Z.2 0, 5, .inl fg)), (a6, .inl (Z.2 4, 4, .inr (.inr (.inr (.inr sf)))))]) (w1 := [(qS, .inr (4, [.int ln, .ref it])), (it, .inl (Z.2 2, len, .inr (.inl sg)))]) hP hD [4, 5] [0, 1, 2, 3] rfl rfl (by decide +kernel) (by decide +kernel) hk1 hFc hP1 hD1
    clear hPc hDc hP1 hD1 hk1 hz1 hFc ht hvm
    generalize H1 = H at hP hS ⊢
    have hP : va_P Z.1 vwCl [(h0, .inr (8, [.ref a1, .ref a2, .ref a3, .ref a4, .ref a5, .int kp, .ref a6, .ref a7, .ref a8, .ref a9, .ref a10, .ref a11, .ref a12, .ref a13, .int tf, .int tu, .int od])), (a1, .inr (0, [.int (nI n), .int kn, .int ak, .ref fk, .ref fq])), (fq, .inl (Z.2 0, 5, .inl fg)), (a6, .inl (Z.2 4, 4, .inr (.inr (.inr (.inr sf))))), (qS, .inr (4, [.int ln, .ref it])), (it, .inl (Z.2 2, len, .inr (.inl sg)))] H := hP
    have hD : va_D A [(h0, .inr (8, [.ref a1, .ref a2, .ref a3, .ref a4, .ref a5, .int kp, .ref a6, .ref a7, .ref a8, .ref a9, .ref a10, .ref a11, .ref a12, .ref a13, .int tf, .int tu, .int od])), (a1, .inr (0, [.int (nI n), .int kn, .int ak, .ref fk, .ref fq])), (fq, .inl (Z.2 0, 5, .inl fg)), (a6, .inl (Z.2 4, 4, .inr (.inr (.inr (.inr sf))))), (qS, .inr (4, [.int ln, .ref it])), (it, .inl (Z.2 2, len, .inr (.inl sg)))] := hD
    refine lv_istore (lv' := [(5, .int (zLk (some (ln, len)) b d n)), (4, .ref qS), (0, .ref h0), (1, .int a), (2, .int b), (3, .int d)]) hx hb dX8_film_46 hl (by decide) rfl (fun ls hl => ?_)
    refine lv_iload hx hb dX8_film_48 (lv_at hl 0 rfl) ?_
    refine lv_if_eq (tgt := 56) hx hb dX8_film_50 (by decide) (fun c_5 => ?_) (fun c_5 => ?_)
    · obtain ⟨len9, e9, hd0, hd1⟩ := ((zLk_or (some (ln, len)) b d n).resolve_left (by rw [c_5]; decide)).2
      obtain rfl : len = len9 := by cases e9; rfl
      obtain ⟨u0, hu0, rfl⟩ := vp_in_of (x := d) (n := 25) (vp_in_iff.mpr (by omega)) (by decide)
      rw [nI_toInt (by omega)] at hd1
      refine lv_iconst (v := 0) hx hb dX8_film_56 (by decide) ?_
      refine lv_istore (lv' := [(6, .int 0), (5, .int (zLk (some (ln, len)) b (nI u0) n)), (4, .ref qS), (0, .ref h0), (1, .int a), (2, .int b), (3, .int (nI u0))]) hx hb dX8_film_57 hl (by decide) rfl (fun ls hl => ?_)
      refine lp_X8_film Z h0 a1 a2 a3 a4 a5 a6 a7 a8 a9 a10 a11 a12 a13 kp tf tu od n kn ak fk fq fg sf qS it ln len u0 pc sg hn hl24 (by omega) hpc hx hb hml hts hown hK hA (fun j sg' H locs ls hR hP hD hS hl => ?_) (n + 1) 0 sg (by omega) (Nat.zero_le _) (rwN_0) H _ ls hP hD hS (lv_sub hl [3, 6, 2, 0] rfl)
      refine lv_aload_n hx hb dX8_film_97 rfl (lv_at hl 0 rfl) ?_
      refine va_get (D := Z.1) (ci := 8) (v := .ref a1) (C := RX8) (T := TX8) (N := 17) hx hb hts hin8 hown hK hP 0 rfl rfl 0 (by decide) (hts (.fieldLink RX8 10 "HalfAsked" "folk" "LHalfAsked$Folk;") (List.mem_of_getElem? (i := 2) rfl)) (fun _ h9 => h9) rfl dX8_film_98 ?_
      refine va_get (D := Z.1) (ci := 0) (v := .int (nI n)) (C := RX0) (T := TX0) (N := 5) hx hb hts hin0 hown hK hP 1 rfl rfl 0 (by decide) (hts (.fieldLink RX8 98 "HalfAsked$Folk" "size" "I") (List.mem_of_getElem? (i := 3) rfl)) (fun _ h9 => h9) rfl dX8_film_101 ?_
      have hP9 := hP.sub (ws' := [(h0, .inr (8, [.ref a1, .ref a2, .ref a3, .ref a4, .ref a5, .int kp, .ref a6, .ref a7, .ref a8, .ref a9, .ref a10, .ref a11, .ref a12, .ref a13, .int tf, .int tu, .int od])), (a1, .inr (0, [.int (nI n), .int kn, .int ak, .ref fk, .ref fq])), (fq, .inl (Z.2 0, 5, .inl fg)), (a6, .inl (Z.2 4, 4, .inr (.inr (.inr (.inr sf))))), (qS, .inr (4, [.int ln, .ref it])), (it, .inl (Z.2 2, len, .inr (.inl sg')))]) [0, 1, 2, 3, 4, 5] rfl
      have hD9 := hD.sub (ws' := [(h0, .inr (8, [.ref a1, .ref a2, .ref a3, .ref a4, .ref a5, .int kp, .ref a6, .ref a7, .ref a8, .ref a9, .ref a10, .ref a11, .ref a12, .ref a13, .int tf, .int tu, .int od])), (a1, .inr (0, [.int (nI n), .int kn, .int ak, .ref fk, .ref fq])), (fq, .inl (Z.2 0, 5, .inl fg)), (a6, .inl (Z.2 4, 4, .inr (.inr (.inr (.inr sf))))), (qS, .inr (4, [.int ln, .ref it])), (it, .inl (Z.2 2, len, .inr (.inl sg')))]) [0, 1, 2, 3, 4, 5] (by decide +kernel) rfl
      exact W.iret (v := (nI n)) hx hb hr (fun t9 ht hW => ⟨⟨nI n, sg', rfl, ⟨((zI_p ⟨ha, z_la1 c_3⟩).trans (by rw [hsl]; exact zI_n (by rw [c_5]; decide))).symm, fi_Y hsg (by omega) hn ((zI_p ⟨ha, z_la1 c_3⟩).trans (by rw [hsl]; exact zI_n (by rw [c_5]; decide))).symm (lk_lane (by rw [c_5]; decide)) hR⟩, by rw [ht]; exact hP9, hD9⟩, hS.F ht⟩) hS.2.2 dX8_film_104
    · refine lv_iload hx hb dX8_film_53 (lv_at hl 0 rfl) ?_
      have hP9 := hP.sub (ws' := [(h0, .inr (8, [.ref a1, .ref a2, .ref a3, .ref a4, .ref a5, .int kp, .ref a6, .ref a7, .ref a8, .ref a9, .ref a10, .ref a11, .ref a12, .ref a13, .int tf, .int tu, .int od])), (a1, .inr (0, [.int (nI n), .int kn, .int ak, .ref fk, .ref fq])), (fq, .inl (Z.2 0, 5, .inl fg)), (a6, .inl (Z.2 4, 4, .inr (.inr (.inr (.inr sf))))), (qS, .inr (4, [.int ln, .ref it])), (it, .inl (Z.2 2, len, .inr (.inl sg)))]) [0, 1, 2, 3, 4, 5] rfl
      have hD9 := hD.sub (ws' := [(h0, .inr (8, [.ref a1, .ref a2, .ref a3, .ref a4, .ref a5, .int kp, .ref a6, .ref a7, .ref a8, .ref a9, .ref a10, .ref a11, .ref a12, .ref a13, .int tf, .int tu, .int od])), (a1, .inr (0, [.int (nI n), .int kn, .int ak, .ref fk, .ref fq])), (fq, .inl (Z.2 0, 5, .inl fg)), (a6, .inl (Z.2 4, 4, .inr (.inr (.inr (.inr sf))))), (qS, .inr (4, [.int ln, .ref it])), (it, .inl (Z.2 2, len, .inr (.inl sg)))]) [0, 1, 2, 3, 4, 5] (by decide +kernel) rfl
      exact W.iret (v := (zLk (some (ln, len)) b d n)) hx hb hr (fun t9 ht hW => ⟨⟨zLk (some (ln, len)) b d n, sg, rfl, ⟨((zI_p ⟨ha, z_la1 c_3⟩).trans (by rw [hsl]; exact zI_p ((zLk_or _ _ _ _).resolve_right (fun q => c_5 q.1)))).symm, fi_N hsg ((zI_p ⟨ha, z_la1 c_3⟩).trans (by rw [hsl]; exact zI_p ((zLk_or _ _ _ _).resolve_right (fun q => c_5 q.1)))).symm (lk_ne1 c_5)⟩, by rw [ht]; exact hP9, hD9⟩, hS.F ht⟩) hS.2.2 dX8_film_55
  · refine lv_iconst (v := (-1)) hx hb dX8_film_14 (by decide) ?_
    have hP9 := hP.sub (ws' := [(h0, .inr (8, [.ref a1, .ref a2, .ref a3, .ref a4, .ref a5, .int kp, .ref a6, .ref a7, .ref a8, .ref a9, .ref a10, .ref a11, .ref a12, .ref a13, .int tf, .int tu, .int od])), (a1, .inr (0, [.int (nI n), .int kn, .int ak, .ref fk, .ref fq])), (fq, .inl (Z.2 0, 5, .inl fg)), (a6, .inl (Z.2 4, 4, .inr (.inr (.inr (.inr sf))))), (qS, .inr (4, [.int ln, .ref it])), (it, .inl (Z.2 2, len, .inr (.inl sg)))]) [0, 1, 2, 3, 4, 5] rfl
    have hD9 := hD.sub (ws' := [(h0, .inr (8, [.ref a1, .ref a2, .ref a3, .ref a4, .ref a5, .int kp, .ref a6, .ref a7, .ref a8, .ref a9, .ref a10, .ref a11, .ref a12, .ref a13, .int tf, .int tu, .int od])), (a1, .inr (0, [.int (nI n), .int kn, .int ak, .ref fk, .ref fq])), (fq, .inl (Z.2 0, 5, .inl fg)), (a6, .inl (Z.2 4, 4, .inr (.inr (.inr (.inr sf))))), (qS, .inr (4, [.int ln, .ref it])), (it, .inl (Z.2 2, len, .inr (.inl sg)))]) [0, 1, 2, 3, 4, 5] (by decide +kernel) rfl
    exact W.iret (v := (-1)) hx hb hr (fun t9 ht hW => ⟨⟨(-1), sg, rfl, ⟨(zI_n (fun q => z_la0 c_3 q.2)).symm, fi_N hsg (zI_n (fun q => z_la0 c_3 q.2)).symm (by decide)⟩, by rw [ht]; exact hP9, hD9⟩, hS.F ht⟩) hS.2.2 dX8_film_15
