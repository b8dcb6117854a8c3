set_option maxHeartbeats 4000000 in
set_option maxRecDepth 100000 in
theorem lp_X9_nextByte {p : Program} {l : Launch} {e : Env} {s : State} {m : MethodId} {args : Array Value} {below : List Frame} {meth : Method} {c : Code} {Q : State → Prop} {A : Nat → Prop} (Z : gZ) (h0 : Nat) (b1 : Nat) (b2 : Nat) (b3 : Nat) (b4 : Nat) (b5 : Nat) (b6 : Nat) (b7 : Nat) (b8 : Nat) (b9 : Nat) (b10 : Nat) (b11 : Nat) (b12 : Nat) (b13 : Nat) (b14 : Nat) (b15 : Nat) (b16 : Nat) (b17 : Nat) (b18 : Nat) (b19 : Nat) (b20 : Nat) (b21 : Nat) (b22 : Nat) (b23 : Nat) (b24 : Nat) (b25 : Nat) (n : Nat) (pn : Nat) (tn : Nat) (xr : Int32) (ik : Int32) (f8 : Nat → Int32) (p0 : Nat) (htn : tn ≤ 80) (hx : p.tables.exec = Jvm.exec) (hb : c.code = cX9_nextByte) (hml : c.maxLocals = 1) (hts : ∀ w ∈ wsX9_nextByte, w.before args s = true) (hown : s.vm.findClass RX9 = some m.cls) (hK : va_K Z.1 vwCl (gT Z) s) (hA : ∀ q : Nat, s.heap.size ≤ q → A q) (kx_38 : ∀ (ps : Nat) (H : Heap) (locs : List Loc) (ls : Array Slot), (ps ≤ tn) → (p0 ≤ ps) → va_P Z.1 vwCl [(h0, .inr (9, [.ref b1, .ref b2, .ref b3, .ref b4, .int (nI n), .ref b5, .int (nI pn), .ref b6, .ref b7, .ref b8, .int (nI tn), .int (nI ps), .int xr, .ref b9, .ref b10, .ref b11, .ref b12, .ref b13, .ref b14, .ref b15, .ref b16, .ref b17, .ref b18, .int ik, .ref b19, .ref b20, .ref b21, .ref b22, .ref b23, .ref b24, .ref b25])), (b8, .inl (Z.2 0, 80, .inl f8))] H → va_D A [(h0, .inr (9, [.ref b1, .ref b2, .ref b3, .ref b4, .int (nI n), .ref b5, .int (nI pn), .ref b6, .ref b7, .ref b8, .int (nI tn), .int (nI ps), .int xr, .ref b9, .ref b10, .ref b11, .ref b12, .ref b13, .ref b14, .ref b15, .ref b16, .ref b17, .ref b18, .int ik, .ref b19, .ref b20, .ref b21, .ref b22, .ref b23, .ref b24, .ref b25])), (b8, .inl (Z.2 0, 80, .inl f8))] → va_S A s.heap H locs → lv_has ls 1 [(0, .ref h0)] → W p l e ({ frames := 0, cells := 0, slots := 0, locals := 0 } : Room) s m args below meth c H locs 0 0 Q (F0 m 38 ls [])) : ∀ (fu9 : Nat) (ps : Nat), tn - ps < fu9 → (ps ≤ tn) → (p0 ≤ ps) → ∀ (H : Heap) (locs : List Loc) (ls : Array Slot), va_P Z.1 vwCl [(h0, .inr (9, [.ref b1, .ref b2, .ref b3, .ref b4, .int (nI n), .ref b5, .int (nI pn), .ref b6, .ref b7, .ref b8, .int (nI tn), .int (nI ps), .int xr, .ref b9, .ref b10, .ref b11, .ref b12, .ref b13, .ref b14, .ref b15, .ref b16, .ref b17, .ref b18, .int ik, .ref b19, .ref b20, .ref b21, .ref b22, .ref b23, .ref b24, .ref b25])), (b8, .inl (Z.2 0, 80, .inl f8))] H → va_D A [(h0, .inr (9, [.ref b1, .ref b2, .ref b3, .ref b4, .int (nI n), .ref b5, .int (nI pn), .ref b6, .ref b7, .ref b8, .int (nI tn), .int (nI ps), .int xr, .ref b9, .ref b10, .ref b11, .ref b12, .ref b13, .ref b14, .ref b15, .ref b16, .ref b17, .ref b18, .int ik, .ref b19, .ref b20, .ref b21, .ref b22, .ref b23, .ref b24, .ref b25])), (b8, .inl (Z.2 0, 80, .inl f8))] → va_S A s.heap H locs → lv_has ls 1 [(0, .ref h0)] → W p l e ({ frames := 0, cells := 0, slots := 0, locals := 0 } : Room) s m args below meth c H locs 0 0 Q (F0 m 0 ls []) := by
  have hin9 : ∀ w ∈ wsX90, w ∈ wsX9_nextByte := by decide +kernel
  intro fu9
  induction fu9 with
  | zero => intro ps hf9; exact absurd hf9 (Nat.not_lt_zero _)
  | succ fu9 ih =>
    intro ps hf9 hp hp0 H locs ls hP hD hS hl
    refine lv_aload_n hx hb dX9_nextByte_0 rfl (lv_at hl 0 rfl) ?_
    refine va_get (D := Z.1) (ci := 9) (v := .int (nI ps)) (C := RX9) (T := TX9) (N := 31) hx hb hts hin9 hown hK hP 0 rfl rfl 11 (by decide) (hts (.fieldLink RX9 153 "HalfAskedModel" "place" "I") (by decide +kernel)) (fun _ h9 => h9) rfl dX9_nextByte_1 ?_
    refine lv_aload_n hx hb dX9_nextByte_4 rfl (lv_at hl 0 rfl) ?_
    refine va_get (D := Z.1) (ci := 9) (v := .int (nI tn)) (C := RX9) (T := TX9) (N := 31) hx hb hts hin9 hown hK hP 0 rfl rfl 10 (by decide) (hts (.fieldLink RX9 150 "HalfAskedModel" "taped" "I") (by decide +kernel)) (fun _ h9 => h9) rfl dX9_nextByte_5 ?_
    refine lv_icmp_ge (tgt := 38) hx hb dX9_nextByte_8 (by decide) (fun c_1 => ?_) (fun c_1 => ?_)
    · exact kx_38 ps H locs ls (hp) (hp0) hP hD hS (lv_sub hl [0] rfl)
    · have hlt : ps < tn := z_clt (by omega) hp c_1
      refine lv_aload_n hx hb dX9_nextByte_11 rfl (lv_at hl 0 rfl) ?_
      refine va_get (D := Z.1) (ci := 9) (v := .ref b8) (C := RX9) (T := TX9) (N := 31) hx hb hts hin9 hown hK hP 0 rfl rfl 9 (by decide) (hts (.fieldLink RX9 31 "HalfAskedModel" "tape" "[I") (by decide +kernel)) (fun _ h9 => h9) rfl dX9_nextByte_12 ?_
      refine lv_aload_n hx hb dX9_nextByte_15 rfl (lv_at hl 0 rfl) ?_
      refine va_get (D := Z.1) (ci := 9) (v := .int (nI ps)) (C := RX9) (T := TX9) (N := 31) hx hb hts hin9 hown hK hP 0 rfl rfl 11 (by decide) (hts (.fieldLink RX9 153 "HalfAskedModel" "place" "I") (by decide +kernel)) (fun _ h9 => h9) rfl dX9_nextByte_16 ?_
      refine va_iald hx hb hK hP 1 0 rfl rfl (vp_in_nI (by omega) (by decide)) dX9_nextByte_19 ?_
      refine lv_bipush (v := 32) hx hb dX9_nextByte_20 (by decide) ?_
      refine lv_icmp_ne (tgt := 38) hx hb dX9_nextByte_22 (by decide) (fun c_2 => ?_) (fun c_2 => ?_)
      · exact kx_38 ps H locs ls (hp) (hp0) hP hD hS (lv_sub hl [0] rfl)
      · refine lv_aload_n hx hb dX9_nextByte_25 rfl (lv_at hl 0 rfl) ?_
        refine lv_dup hx hb dX9_nextByte_26 rfl ?_
        refine va_get (D := Z.1) (ci := 9) (v := .int (nI ps)) (C := RX9) (T := TX9) (N := 31) hx hb hts hin9 hown hK hP 0 rfl rfl 11 (by decide) (hts (.fieldLink RX9 153 "HalfAskedModel" "place" "I") (by decide +kernel)) (fun _ h9 => h9) rfl dX9_nextByte_27 ?_
        refine lv_iconst (v := 1) hx hb dX9_nextByte_30 (by decide) ?_
        refine lv_iadd hx hb dX9_nextByte_31 ?_
        refine lv_topi (fun f_3 ef_3 => ?_)
        obtain rfl : f_3 = nI (ps + 1) := ef_3.trans (nI_1 _)
        refine va_put (D := Z.1) (ci := 9) (v := .int (nI (ps + 1))) (ty := .int) (C := RX9) (T := TX9) (N := 31) hx hb hts hin9 tyX9 tyX9_ok nmX9 hown hK hP hD hS 0 rfl rfl 11 (by decide) (hts (.fieldLink RX9 153 "HalfAskedModel" "place" "I") (by decide +kernel)) (fun _ h9 => h9) rfl (by decide +kernel) rfl rfl (Nat.le_of_ble_eq_true rfl) dX9_nextByte_32 (fun H locs hP hD hS => ?_)
        have hP : va_P Z.1 vwCl [(h0, .inr (9, [.ref b1, .ref b2, .ref b3, .ref b4, .int (nI n), .ref b5, .int (nI pn), .ref b6, .ref b7, .ref b8, .int (nI tn), .int (nI (ps + 1)), .int xr, .ref b9, .ref b10, .ref b11, .ref b12, .ref b13, .ref b14, .ref b15, .ref b16, .ref b17, .ref b18, .int ik, .ref b19, .ref b20, .ref b21, .ref b22, .ref b23, .ref b24, .ref b25])), (b8, .inl (Z.2 0, 80, .inl f8))] H := hP
        have hD : va_D A [(h0, .inr (9, [.ref b1, .ref b2, .ref b3, .ref b4, .int (nI n), .ref b5, .int (nI pn), .ref b6, .ref b7, .ref b8, .int (nI tn), .int (nI (ps + 1)), .int xr, .ref b9, .ref b10, .ref b11, .ref b12, .ref b13, .ref b14, .ref b15, .ref b16, .ref b17, .ref b18, .int ik, .ref b19, .ref b20, .ref b21, .ref b22, .ref b23, .ref b24, .ref b25])), (b8, .inl (Z.2 0, 80, .inl f8))] := hD
        refine lv_goto (tgt := 0) hx hb dX9_nextByte_35 (by decide) ?_
        exact ih (ps + 1) (by omega) (hlt) (by omega) H locs ls hP hD hS (lv_sub hl [0] rfl)
set_option maxHeartbeats 4000000 in
set_option maxRecDepth 100000 in
theorem c_X9_nextByte (l : Launch) (Z : gZ) (sz : Nat) (h0 : Nat) (b1 : Nat) (b2 : Nat) (b3 : Nat) (b4 : Nat) (b5 : Nat) (b6 : Nat) (b7 : Nat) (b8 : Nat) (b9 : Nat) (b10 : Nat) (b11 : Nat) (b12 : Nat) (b13 : Nat) (b14 : Nat) (b15 : Nat) (b16 : Nat) (b17 : Nat) (b18 : Nat) (b19 : Nat) (b20 : Nat) (b21 : Nat) (b22 : Nat) (b23 : Nat) (b24 : Nat) (b25 : Nat) (n : Nat) (pn : Nat) (tn : Nat) (xr : Int32) (ik : Int32) (f8 : Nat → Int32) (ps : Nat) (htn : tn ≤ 80) (hp : ps ≤ tn) : Met l yX9_nextByte wsX9_nextByte ({ frames := 0, cells := 0, slots := 0, locals := 0 }) (va_Pc [.ref h0] (fun U => U.heap.size = sz ∧ va_P Z.1 vwCl [(h0, .inr (9, [.ref b1, .ref b2, .ref b3, .ref b4, .int (nI n), .ref b5, .int (nI pn), .ref b6, .ref b7, .ref b8, .int (nI tn), .int (nI ps), .int xr, .ref b9, .ref b10, .ref b11, .ref b12, .ref b13, .ref b14, .ref b15, .ref b16, .ref b17, .ref b18, .int ik, .ref b19, .ref b20, .ref b21, .ref b22, .ref b23, .ref b24, .ref b25])), (b8, .inl (Z.2 0, 80, .inl f8))] U.heap ∧ va_K Z.1 vwCl (gT Z) U ∧ va_D (fun _ => True) [(h0, .inr (9, [.ref b1, .ref b2, .ref b3, .ref b4, .int (nI n), .ref b5, .int (nI pn), .ref b6, .ref b7, .ref b8, .int (nI tn), .int (nI ps), .int xr, .ref b9, .ref b10, .ref b11, .ref b12, .ref b13, .ref b14, .ref b15, .ref b16, .ref b17, .ref b18, .int ik, .ref b19, .ref b20, .ref b21, .ref b22, .ref b23, .ref b24, .ref b25])), (b8, .inl (Z.2 0, 80, .inl f8))])) (va_Qi (fun (r : Int32) (u : Nat) => match u with | p1 => (¬ r = -1 → p1 < tn) ∧ ps ≤ p1 ∧ p1 ≤ tn) (fun (u : Nat) (t9 : State) => match u with | p1 => va_P Z.1 vwCl [(h0, .inr (9, [.ref b1, .ref b2, .ref b3, .ref b4, .int (nI n), .ref b5, .int (nI pn), .ref b6, .ref b7, .ref b8, .int (nI tn), .int (nI p1), .int xr, .ref b9, .ref b10, .ref b11, .ref b12, .ref b13, .ref b14, .ref b15, .ref b16, .ref b17, .ref b18, .int ik, .ref b19, .ref b20, .ref b21, .ref b22, .ref b23, .ref b24, .ref b25])), (b8, .inl (Z.2 0, 80, .inl f8))] t9.heap ∧ va_D (va_A [(h0, .inr (9, [.ref b1, .ref b2, .ref b3, .ref b4, .int (nI n), .ref b5, .int (nI pn), .ref b6, .ref b7, .ref b8, .int (nI tn), .int (nI ps), .int xr, .ref b9, .ref b10, .ref b11, .ref b12, .ref b13, .ref b14, .ref b15, .ref b16, .ref b17, .ref b18, .int ik, .ref b19, .ref b20, .ref b21, .ref b22, .ref b23, .ref b24, .ref b25])), (b8, .inl (Z.2 0, 80, .inl f8))] sz) [(h0, .inr (9, [.ref b1, .ref b2, .ref b3, .ref b4, .int (nI n), .ref b5, .int (nI pn), .ref b6, .ref b7, .ref b8, .int (nI tn), .int (nI p1), .int xr, .ref b9, .ref b10, .ref b11, .ref b12, .ref b13, .ref b14, .ref b15, .ref b16, .ref b17, .ref b18, .int ik, .ref b19, .ref b20, .ref b21, .ref b22, .ref b23, .ref b24, .ref b25])), (b8, .inl (Z.2 0, 80, .inl f8))]) (va_A [(h0, .inr (9, [.ref b1, .ref b2, .ref b3, .ref b4, .int (nI n), .ref b5, .int (nI pn), .ref b6, .ref b7, .ref b8, .int (nI tn), .int (nI ps), .int xr, .ref b9, .ref b10, .ref b11, .ref b12, .ref b13, .ref b14, .ref b15, .ref b16, .ref b17, .ref b18, .int ik, .ref b19, .ref b20, .ref b21, .ref b22, .ref b23, .ref b24, .ref b25])), (b8, .inl (Z.2 0, 80, .inl f8))] sz)) 0 0 (va_A [(h0, .inr (9, [.ref b1, .ref b2, .ref b3, .ref b4, .int (nI n), .ref b5, .int (nI pn), .ref b6, .ref b7, .ref b8, .int (nI tn), .int (nI ps), .int xr, .ref b9, .ref b10, .ref b11, .ref b12, .ref b13, .ref b14, .ref b15, .ref b16, .ref b17, .ref b18, .int ik, .ref b19, .ref b20, .ref b21, .ref b22, .ref b23, .ref b24, .ref b25])), (b8, .inl (Z.2 0, 80, .inl f8))] sz) := by
  refine Met.ofW (cc := cX9_nextByte) (maxL := 1) (ret := (some .int)) (by decide) rfl ?_
  intro p e s m args below meth c s₁ B hml hv
  obtain ⟨rfl, hsz, hP, hK, hD0⟩ := hv
  have hx := B.exec
  have hb := B.bytes
  have hr := B.returns
  have hts := atoms_spec (ws := wsX9_nextByte) B.pre
  have hown : s.vm.findClass RX9 = some m.cls := findClass_of_methodNamed B.named
  have hlocks := B.notSynchronized
  subst hsz
  have hin9 : ∀ w ∈ wsX90, w ∈ wsX9_nextByte := by decide +kernel
  have hD := hD0.self (sz := s.heap.size)
  generalize hAe : va_A [(h0, .inr (9, [.ref b1, .ref b2, .ref b3, .ref b4, .int (nI n), .ref b5, .int (nI pn), .ref b6, .ref b7, .ref b8, .int (nI tn), .int (nI ps), .int xr, .ref b9, .ref b10, .ref b11, .ref b12, .ref b13, .ref b14, .ref b15, .ref b16, .ref b17, .ref b18, .int ik, .ref b19, .ref b20, .ref b21, .ref b22, .ref b23, .ref b24, .ref b25])), (b8, .inl (Z.2 0, 80, .inl f8))] s.heap.size = A at hD ⊢
  have hA : ∀ q : Nat, s.heap.size ≤ q → A q := fun q h => by rw [← hAe]; exact Or.inr h
  have hS : va_S A s.heap s.heap [] := va_S.rf
  have hP : va_P Z.1 vwCl [(h0, .inr (9, [.ref b1, .ref b2, .ref b3, .ref b4, .int (nI n), .ref b5, .int (nI pn), .ref b6, .ref b7, .ref b8, .int (nI tn), .int (nI ps), .int xr, .ref b9, .ref b10, .ref b11, .ref b12, .ref b13, .ref b14, .ref b15, .ref b16, .ref b17, .ref b18, .int ik, .ref b19, .ref b20, .ref b21, .ref b22, .ref b23, .ref b24, .ref b25])), (b8, .inl (Z.2 0, 80, .inl f8))] s.heap := hP
  have hl := lv_entry ([.ref h0]) (n := 1) (Nat.le_of_ble_eq_true rfl)
  rw [lg_entry_eq]
  generalize (lg_sl ([.ref h0]) ++ List.replicate (1 - (lg_sl ([.ref h0])).length) Slot.unset).toArray = ls at hl ⊢
  have hl : lv_has ls 1 [(0, .ref h0)] := hl
  refine lp_X9_nextByte Z h0 b1 b2 b3 b4 b5 b6 b7 b8 b9 b10 b11 b12 b13 b14 b15 b16 b17 b18 b19 b20 b21 b22 b23 b24 b25 n pn tn xr ik f8 ps htn hx hb hml hts hown hK hA (fun p1 H locs ls hq hp0 hP hD hS hl => ?_) (tn + 1) ps (by omega) (hp) (Nat.le_refl _) s.heap _ ls hP hD hS (lv_sub hl [0] rfl)
  refine lv_aload_n hx hb dX9_nextByte_38 rfl (lv_at hl 0 rfl) ?_
  refine va_get (D := Z.1) (ci := 9) (v := .int (nI p1)) (C := RX9) (T := TX9) (N := 31) hx hb hts hin9 hown hK hP 0 rfl rfl 11 (by decide) (hts (.fieldLink RX9 153 "HalfAskedModel" "place" "I") (by decide +kernel)) (fun _ h9 => h9) rfl dX9_nextByte_39 ?_
  refine lv_aload_n hx hb dX9_nextByte_42 rfl (lv_at hl 0 rfl) ?_
  refine va_get (D := Z.1) (ci := 9) (v := .int (nI tn)) (C := RX9) (T := TX9) (N := 31) hx hb hts hin9 hown hK hP 0 rfl rfl 10 (by decide) (hts (.fieldLink RX9 150 "HalfAskedModel" "taped" "I") (by decide +kernel)) (fun _ h9 => h9) rfl dX9_nextByte_43 ?_
  refine lv_icmp_ge (tgt := 61) hx hb dX9_nextByte_46 (by decide) (fun c_1 => ?_) (fun c_1 => ?_)
  · refine lv_iconst (v := (-1)) hx hb dX9_nextByte_61 (by decide) ?_
    have hP9 := hP.sub (ws' := [(h0, .inr (9, [.ref b1, .ref b2, .ref b3, .ref b4, .int (nI n), .ref b5, .int (nI pn), .ref b6, .ref b7, .ref b8, .int (nI tn), .int (nI p1), .int xr, .ref b9, .ref b10, .ref b11, .ref b12, .ref b13, .ref b14, .ref b15, .ref b16, .ref b17, .ref b18, .int ik, .ref b19, .ref b20, .ref b21, .ref b22, .ref b23, .ref b24, .ref b25])), (b8, .inl (Z.2 0, 80, .inl f8))]) [0, 1] rfl
    have hD9 := hD.sub (ws' := [(h0, .inr (9, [.ref b1, .ref b2, .ref b3, .ref b4, .int (nI n), .ref b5, .int (nI pn), .ref b6, .ref b7, .ref b8, .int (nI tn), .int (nI p1), .int xr, .ref b9, .ref b10, .ref b11, .ref b12, .ref b13, .ref b14, .ref b15, .ref b16, .ref b17, .ref b18, .int ik, .ref b19, .ref b20, .ref b21, .ref b22, .ref b23, .ref b24, .ref b25])), (b8, .inl (Z.2 0, 80, .inl f8))]) [0, 1] (by decide) rfl
    exact W.iret (v := (-1)) hx hb hr (fun t9 ht hW => ⟨⟨(-1), p1, rfl, ⟨fun h9 => absurd rfl h9, hp0, hq⟩, by rw [ht]; exact hP9, hD9⟩, hS.F ht⟩) hS.2.2 dX9_nextByte_62
  · have hlt : p1 < tn := z_clt (by omega) hq c_1
    refine lv_aload_n hx hb dX9_nextByte_49 rfl (lv_at hl 0 rfl) ?_
    refine va_get (D := Z.1) (ci := 9) (v := .ref b8) (C := RX9) (T := TX9) (N := 31) hx hb hts hin9 hown hK hP 0 rfl rfl 9 (by decide) (hts (.fieldLink RX9 31 "HalfAskedModel" "tape" "[I") (by decide +kernel)) (fun _ h9 => h9) rfl dX9_nextByte_50 ?_
    refine lv_aload_n hx hb dX9_nextByte_53 rfl (lv_at hl 0 rfl) ?_
    refine va_get (D := Z.1) (ci := 9) (v := .int (nI p1)) (C := RX9) (T := TX9) (N := 31) hx hb hts hin9 hown hK hP 0 rfl rfl 11 (by decide) (hts (.fieldLink RX9 153 "HalfAskedModel" "place" "I") (by decide +kernel)) (fun _ h9 => h9) rfl dX9_nextByte_54 ?_
    refine va_iald hx hb hK hP 1 0 rfl rfl (vp_in_nI (by omega) (by decide)) dX9_nextByte_57 ?_
    refine lv_goto (tgt := 62) hx hb dX9_nextByte_58 (by decide) ?_
    have hP9 := hP.sub (ws' := [(h0, .inr (9, [.ref b1, .ref b2, .ref b3, .ref b4, .int (nI n), .ref b5, .int (nI pn), .ref b6, .ref b7, .ref b8, .int (nI tn), .int (nI p1), .int xr, .ref b9, .ref b10, .ref b11, .ref b12, .ref b13, .ref b14, .ref b15, .ref b16, .ref b17, .ref b18, .int ik, .ref b19, .ref b20, .ref b21, .ref b22, .ref b23, .ref b24, .ref b25])), (b8, .inl (Z.2 0, 80, .inl f8))]) [0, 1] rfl
    have hD9 := hD.sub (ws' := [(h0, .inr (9, [.ref b1, .ref b2, .ref b3, .ref b4, .int (nI n), .ref b5, .int (nI pn), .ref b6, .ref b7, .ref b8, .int (nI tn), .int (nI p1), .int xr, .ref b9, .ref b10, .ref b11, .ref b12, .ref b13, .ref b14, .ref b15, .ref b16, .ref b17, .ref b18, .int ik, .ref b19, .ref b20, .ref b21, .ref b22, .ref b23, .ref b24, .ref b25])), (b8, .inl (Z.2 0, 80, .inl f8))]) [0, 1] (by decide) rfl
    exact W.iret (v := (f8 (nI p1).toNatClampNeg)) hx hb hr (fun t9 ht hW => ⟨⟨f8 (nI p1).toNatClampNeg, p1, rfl, ⟨fun _ => hlt, hp0, hq⟩, by rw [ht]; exact hP9, hD9⟩, hS.F ht⟩) hS.2.2 dX9_nextByte_62
set_option maxHeartbeats 4000000 in
set_option maxRecDepth 100000 in
theorem lp_X9_readNumber {p : Program} {l : Launch} {e : Env} {s : State} {m : MethodId} {args : Array Value} {below : List Frame} {meth : Method} {c : Code} {Q : State → Prop} {A : Nat → Prop} (Z : gZ) (h0 : Nat) (b1 : Nat) (b2 : Nat) (b3 : Nat) (b4 : Nat) (b5 : Nat) (b6 : Nat) (b7 : Nat) (b8 : Nat) (b9 : Nat) (b10 : Nat) (b11 : Nat) (b12 : Nat) (b13 : Nat) (b14 : Nat) (b15 : Nat) (b16 : Nat) (b17 : Nat) (b18 : Nat) (b19 : Nat) (b20 : Nat) (b21 : Nat) (b22 : Nat) (b23 : Nat) (b24 : Nat) (b25 : Nat) (n : Nat) (pn : Nat) (tn : Nat) (xr : Int32) (ik : Int32) (f8 : Nat → Int32) (p0 : Nat) (a : Int32) (htn : tn ≤ 80) (hx : p.tables.exec = Jvm.exec) (hb : c.code = cX9_readNumber) (hml : c.maxLocals = 4) (hts : ∀ w ∈ wsX9_readNumber, w.before args s = true) (hown : s.vm.findClass RX9 = some m.cls) (hK : va_K Z.1 vwCl (gT Z) s) (hA : ∀ q : Nat, s.heap.size ≤ q → A q) (kx_86 : ∀ (ps : Nat) (y : Int32) (H : Heap) (locs : List Loc) (ls : Array Slot), (ps ≤ tn) → (p0 ≤ ps) → va_P Z.1 vwCl [(h0, .inr (9, [.ref b1, .ref b2, .ref b3, .ref b4, .int (nI n), .ref b5, .int (nI pn), .ref b6, .ref b7, .ref b8, .int (nI tn), .int (nI ps), .int xr, .ref b9, .ref b10, .ref b11, .ref b12, .ref b13, .ref b14, .ref b15, .ref b16, .ref b17, .ref b18, .int ik, .ref b19, .ref b20, .ref b21, .ref b22, .ref b23, .ref b24, .ref b25])), (b8, .inl (Z.2 0, 80, .inl f8))] H → va_D A [(h0, .inr (9, [.ref b1, .ref b2, .ref b3, .ref b4, .int (nI n), .ref b5, .int (nI pn), .ref b6, .ref b7, .ref b8, .int (nI tn), .int (nI ps), .int xr, .ref b9, .ref b10, .ref b11, .ref b12, .ref b13, .ref b14, .ref b15, .ref b16, .ref b17, .ref b18, .int ik, .ref b19, .ref b20, .ref b21, .ref b22, .ref b23, .ref b24, .ref b25])), (b8, .inl (Z.2 0, 80, .inl f8))] → va_S A s.heap H locs → lv_has ls 4 [(0, .ref h0), (1, .int a), (2, .int (nI p0)), (3, .int y)] → W p l e ({ frames := 2, cells := 0, slots := 0, locals := 60 } : Room) s m args below meth c H locs 0 0 Q (F0 m 86 ls [])) : ∀ (fu9 : Nat) (ps : Nat) (y : Int32), tn - ps < fu9 → (ps ≤ tn) → (p0 ≤ ps) → ∀ (H : Heap) (locs : List Loc) (ls : Array Slot), va_P Z.1 vwCl [(h0, .inr (9, [.ref b1, .ref b2, .ref b3, .ref b4, .int (nI n), .ref b5, .int (nI pn), .ref b6, .ref b7, .ref b8, .int (nI tn), .int (nI ps), .int xr, .ref b9, .ref b10, .ref b11, .ref b12, .ref b13, .ref b14, .ref b15, .ref b16, .ref b17, .ref b18, .int ik, .ref b19, .ref b20, .ref b21, .ref b22, .ref b23, .ref b24, .ref b25])), (b8, .inl (Z.2 0, 80, .inl f8))] H → va_D A [(h0, .inr (9, [.ref b1, .ref b2, .ref b3, .ref b4, .int (nI n), .ref b5, .int (nI pn), .ref b6, .ref b7, .ref b8, .int (nI tn), .int (nI ps), .int xr, .ref b9, .ref b10, .ref b11, .ref b12, .ref b13, .ref b14, .ref b15, .ref b16, .ref b17, .ref b18, .int ik, .ref b19, .ref b20, .ref b21, .ref b22, .ref b23, .ref b24, .ref b25])), (b8, .inl (Z.2 0, 80, .inl f8))] → va_S A s.heap H locs → lv_has ls 4 [(0, .ref h0), (1, .int a), (2, .int (nI p0)), (3, .int y)] → W p l e ({ frames := 2, cells := 0, slots := 0, locals := 60 } : Room) s m args below meth c H locs 0 0 Q (F0 m 12 ls []) := by
  have hin9 : ∀ w ∈ wsX90, w ∈ wsX9_readNumber := by decide +kernel
  intro fu9
  induction fu9 with
  | zero => intro ps y hf9; exact absurd hf9 (Nat.not_lt_zero _)
  | succ fu9 ih =>
    intro ps y hf9 hp hp0 H locs ls hP hD hS hl
    refine lv_aload_n hx hb dX9_readNumber_12 rfl (lv_at hl 0 rfl) ?_
    refine va_get (D := Z.1) (ci := 9) (v := .int (nI ps)) (C := RX9) (T := TX9) (N := 31) hx hb hts hin9 hown hK hP 0 rfl rfl 11 (by decide) (hts (.fieldLink RX9 153 "HalfAskedModel" "place" "I") (by decide +kernel)) (fun _ h9 => h9) rfl dX9_readNumber_13 ?_
    refine lv_aload_n hx hb dX9_readNumber_16 rfl (lv_at hl 0 rfl) ?_
    refine va_get (D := Z.1) (ci := 9) (v := .int (nI tn)) (C := RX9) (T := TX9) (N := 31) hx hb hts hin9 hown hK hP 0 rfl rfl 10 (by decide) (hts (.fieldLink RX9 150 "HalfAskedModel" "taped" "I") (by decide +kernel)) (fun _ h9 => h9) rfl dX9_readNumber_17 ?_
    refine lv_icmp_ge (tgt := 86) hx hb dX9_readNumber_20 (by decide) (fun c_1 => ?_) (fun c_1 => ?_)
    · exact kx_86 ps y H locs ls (hp) (hp0) hP hD hS (lv_sub hl [0, 1, 2, 3] rfl)
    · have hlt : ps < tn := z_clt (by omega) hp c_1
      refine lv_aload_n hx hb dX9_readNumber_23 rfl (lv_at hl 0 rfl) ?_
      refine va_get (D := Z.1) (ci := 9) (v := .ref b8) (C := RX9) (T := TX9) (N := 31) hx hb hts hin9 hown hK hP 0 rfl rfl 9 (by decide) (hts (.fieldLink RX9 31 "HalfAskedModel" "tape" "[I") (by decide +kernel)) (fun _ h9 => h9) rfl dX9_readNumber_24 ?_
      refine lv_aload_n hx hb dX9_readNumber_27 rfl (lv_at hl 0 rfl) ?_
      refine va_get (D := Z.1) (ci := 9) (v := .int (nI ps)) (C := RX9) (T := TX9) (N := 31) hx hb hts hin9 hown hK hP 0 rfl rfl 11 (by decide) (hts (.fieldLink RX9 153 "HalfAskedModel" "place" "I") (by decide +kernel)) (fun _ h9 => h9) rfl dX9_readNumber_28 ?_
      refine va_iald hx hb hK hP 1 0 rfl rfl (vp_in_nI (by omega) (by decide)) dX9_readNumber_31 ?_
      refine lv_i2l hx hb dX9_readNumber_32 rfl ?_
      refine lv_ldc2 (v := 48) hx hb hown (hts (.constantLong RX9 159 (48)) (by decide +kernel)) dX9_readNumber_33 ?_
      refine lv_ldc2 (v := 57) hx hb hown (hts (.constantLong RX9 161 (57)) (by decide +kernel)) dX9_readNumber_36 ?_
      have hPc := hP.sub (ws' := []) [] rfl
      have hDc := hD.sub (ws' := []) [] (by decide) rfl
      have hFc := va_free (wc := []) hD hS hA [] rfl
      refine va_calli (va_runS (As := [.long ((f8 (nI ps).toNatClampNeg).toInt64), .long 48, .long 57]) (rest := []) ⟨hx, hb, hml, hown, hts⟩ (c_X9_in l Z H.size ((f8 (nI ps).toNatClampNeg).toInt64) 48 57) (va_cwS 3 hts gX9_readNumber_X9_in rfl rfl rfl (by decide +kernel) ⟨Nat.le_of_ble_eq_true rfl, Nat.le_of_ble_eq_true rfl⟩) ⟨fun a U g mk q => by obtain ⟨q0, q1, qP, qK, qD⟩ := q; exact ⟨q0, q1, qP, va_K.moved (u := U) (U := U.calling g mk a) (Vm.Alike.refl U.vm) qK, qD⟩, fun U hU hW => ⟨rfl, by rw [hU], by rw [hU]; exact hPc, va_K.moved hW.alike hK, hDc.weaken (fun _ _ _ _ => trivial)⟩⟩ rfl rfl hl.1 rfl (lv_room (Nat.le_of_ble_eq_true rfl)) dX9_readNumber_39 ⟨Nat.le_of_ble_eq_true rfl, Nat.le_of_ble_eq_true rfl⟩) hS (fun q _ h => hFc q h) hFc (fun r_2 u t9 H1 locs ht hvm hw hB hz1 hk1 hS => ?_)
      subst hw
      have hP1 : va_P Z.1 vwCl [] H1 := fun k q h => by simp at h
      have hD1 : va_D (va_A [] H.size) [] := ⟨fun i j p q h => by simp at h, fun k q h => by simp at h⟩
      obtain ⟨hP, hD⟩ := va_join (wr := [(h0, .inr (9, [.ref b1, .ref b2, .ref b3, .ref b4, .int (nI n), .ref b5, .int (nI pn), .ref b6, .ref b7, .ref b8, .int (nI tn), .int (nI ps), .int xr, .ref b9, .ref b10, .ref b11, .ref b12, .ref b13, .ref b14, .ref b15, .ref b16, .ref b17, .ref b18, .int ik, .ref b19, .ref b20, .ref b21, .ref b22, .ref b23, .ref b24, .ref b25])), (b8, .inl (Z.2 0, 80, .inl f8))]) (w1 := []) hP hD [] [0, 1] rfl rfl (by decide) (by decide) hk1 hFc hP1 hD1
      clear hPc hDc hP1 hD1 hk1 hz1 hFc ht hvm
      generalize H1 = H at hP hS ⊢
      have hP : va_P Z.1 vwCl [(h0, .inr (9, [.ref b1, .ref b2, .ref b3, .ref b4, .int (nI n), .ref b5, .int (nI pn), .ref b6, .ref b7, .ref b8, .int (nI tn), .int (nI ps), .int xr, .ref b9, .ref b10, .ref b11, .ref b12, .ref b13, .ref b14, .ref b15, .ref b16, .ref b17, .ref b18, .int ik, .ref b19, .ref b20, .ref b21, .ref b22, .ref b23, .ref b24, .ref b25])), (b8, .inl (Z.2 0, 80, .inl f8))] H := hP
      have hD : va_D A [(h0, .inr (9, [.ref b1, .ref b2, .ref b3, .ref b4, .int (nI n), .ref b5, .int (nI pn), .ref b6, .ref b7, .ref b8, .int (nI tn), .int (nI ps), .int xr, .ref b9, .ref b10, .ref b11, .ref b12, .ref b13, .ref b14, .ref b15, .ref b16, .ref b17, .ref b18, .int ik, .ref b19, .ref b20, .ref b21, .ref b22, .ref b23, .ref b24, .ref b25])), (b8, .inl (Z.2 0, 80, .inl f8))] := hD
      refine lv_if_eq (tgt := 86) hx hb dX9_readNumber_42 (by decide) (fun c_3 => ?_) (fun c_3 => ?_)
      · exact kx_86 ps y H locs ls (hp) (hp0) hP hD hS (lv_sub hl [0, 1, 2, 3] rfl)
      · refine lv_iload_n hx hb dX9_readNumber_45 rfl (lv_at hl 3 rfl) ?_
        refine lv_ldc (v := 99999) hx hb hown (hts (.constant RX9 163 (99999)) (by decide +kernel)) dX9_readNumber_46 ?_
        refine lv_icmp_le (tgt := 55) hx hb dX9_readNumber_48 (by decide) (fun c_4 => ?_) (fun c_4 => ?_)
        · refine lv_bipush (v := 10) hx hb dX9_readNumber_55 (by decide) ?_
          refine lv_iload_n hx hb dX9_readNumber_57 rfl (lv_at hl 3 rfl) ?_
          refine lv_imul hx hb dX9_readNumber_58 ?_
          refine lv_aload_n hx hb dX9_readNumber_59 rfl (lv_at hl 0 rfl) ?_
          refine va_get (D := Z.1) (ci := 9) (v := .ref b8) (C := RX9) (T := TX9) (N := 31) hx hb hts hin9 hown hK hP 0 rfl rfl 9 (by decide) (hts (.fieldLink RX9 31 "HalfAskedModel" "tape" "[I") (by decide +kernel)) (fun _ h9 => h9) rfl dX9_readNumber_60 ?_
          refine lv_aload_n hx hb dX9_readNumber_63 rfl (lv_at hl 0 rfl) ?_
          refine va_get (D := Z.1) (ci := 9) (v := .int (nI ps)) (C := RX9) (T := TX9) (N := 31) hx hb hts hin9 hown hK hP 0 rfl rfl 11 (by decide) (hts (.fieldLink RX9 153 "HalfAskedModel" "place" "I") (by decide +kernel)) (fun _ h9 => h9) rfl dX9_readNumber_64 ?_
          refine va_iald hx hb hK hP 1 0 rfl rfl (vp_in_nI (by omega) (by decide)) dX9_readNumber_67 ?_
          refine lv_iadd hx hb dX9_readNumber_68 ?_
          refine lv_bipush (v := 48) hx hb dX9_readNumber_69 (by decide) ?_
          refine lv_isub hx hb dX9_readNumber_71 ?_
          refine lv_istore_n (lv' := [(3, .int (((10 * y) + (f8 (nI ps).toNatClampNeg)) - 48)), (0, .ref h0), (1, .int a), (2, .int (nI p0))]) hx hb dX9_readNumber_72 rfl hl (by decide) rfl (fun ls hl => ?_)
          refine lv_aload_n hx hb dX9_readNumber_73 rfl (lv_at hl 1 rfl) ?_
          refine lv_dup hx hb dX9_readNumber_74 rfl ?_
          refine va_get (D := Z.1) (ci := 9) (v := .int (nI ps)) (C := RX9) (T := TX9) (N := 31) hx hb hts hin9 hown hK hP 0 rfl rfl 11 (by decide) (hts (.fieldLink RX9 153 "HalfAskedModel" "place" "I") (by decide +kernel)) (fun _ h9 => h9) rfl dX9_readNumber_75 ?_
          refine lv_iconst (v := 1) hx hb dX9_readNumber_78 (by decide) ?_
          refine lv_iadd hx hb dX9_readNumber_79 ?_
          refine lv_topi (fun f_5 ef_5 => ?_)
          obtain rfl : f_5 = nI (ps + 1) := ef_5.trans (nI_1 _)
          refine va_put (D := Z.1) (ci := 9) (v := .int (nI (ps + 1))) (ty := .int) (C := RX9) (T := TX9) (N := 31) hx hb hts hin9 tyX9 tyX9_ok nmX9 hown hK hP hD hS 0 rfl rfl 11 (by decide) (hts (.fieldLink RX9 153 "HalfAskedModel" "place" "I") (by decide +kernel)) (fun _ h9 => h9) rfl (by decide +kernel) rfl rfl (Nat.le_of_ble_eq_true rfl) dX9_readNumber_80 (fun H locs hP hD hS => ?_)
          have hP : va_P Z.1 vwCl [(h0, .inr (9, [.ref b1, .ref b2, .ref b3, .ref b4, .int (nI n), .ref b5, .int (nI pn), .ref b6, .ref b7, .ref b8, .int (nI tn), .int (nI (ps + 1)), .int xr, .ref b9, .ref b10, .ref b11, .ref b12, .ref b13, .ref b14, .ref b15, .ref b16, .ref b17, .ref b18, .int ik, .ref b19, .ref b20, .ref b21, .ref b22, .ref b23, .ref b24, .ref b25])), (b8, .inl (Z.2 0, 80, .inl f8))] H := hP
          have hD : va_D A [(h0, .inr (9, [.ref b1, .ref b2, .ref b3, .ref b4, .int (nI n), .ref b5, .int (nI pn), .ref b6, .ref b7, .ref b8, .int (nI tn), .int (nI (ps + 1)), .int xr, .ref b9, .ref b10, .ref b11, .ref b12, .ref b13, .ref b14, .ref b15, .ref b16, .ref b17, .ref b18, .int ik, .ref b19, .ref b20, .ref b21, .ref b22, .ref b23, .ref b24, .ref b25])), (b8, .inl (Z.2 0, 80, .inl f8))] := hD
          refine lv_goto (tgt := 12) hx hb dX9_readNumber_83 (by decide) ?_
          exact ih (ps + 1) (((10 * y) + (f8 (nI ps).toNatClampNeg)) - 48) (by omega) (hlt) (by omega) H locs ls hP hD hS (lv_sub hl [1, 2, 3, 0] rfl)
        · refine lv_iload_n hx hb dX9_readNumber_51 rfl (lv_at hl 3 rfl) ?_
          refine lv_goto (tgt := 72) hx hb dX9_readNumber_52 (by decide) ?_
          refine lv_istore_n (lv' := [(3, .int y), (0, .ref h0), (1, .int a), (2, .int (nI p0))]) hx hb dX9_readNumber_72 rfl hl (by decide) rfl (fun ls hl => ?_)
          refine lv_aload_n hx hb dX9_readNumber_73 rfl (lv_at hl 1 rfl) ?_
          refine lv_dup hx hb dX9_readNumber_74 rfl ?_
          refine va_get (D := Z.1) (ci := 9) (v := .int (nI ps)) (C := RX9) (T := TX9) (N := 31) hx hb hts hin9 hown hK hP 0 rfl rfl 11 (by decide) (hts (.fieldLink RX9 153 "HalfAskedModel" "place" "I") (by decide +kernel)) (fun _ h9 => h9) rfl dX9_readNumber_75 ?_
          refine lv_iconst (v := 1) hx hb dX9_readNumber_78 (by decide) ?_
          refine lv_iadd hx hb dX9_readNumber_79 ?_
          refine lv_topi (fun f_6 ef_6 => ?_)
          obtain rfl : f_6 = nI (ps + 1) := ef_6.trans (nI_1 _)
          refine va_put (D := Z.1) (ci := 9) (v := .int (nI (ps + 1))) (ty := .int) (C := RX9) (T := TX9) (N := 31) hx hb hts hin9 tyX9 tyX9_ok nmX9 hown hK hP hD hS 0 rfl rfl 11 (by decide) (hts (.fieldLink RX9 153 "HalfAskedModel" "place" "I") (by decide +kernel)) (fun _ h9 => h9) rfl (by decide +kernel) rfl rfl (Nat.le_of_ble_eq_true rfl) dX9_readNumber_80 (fun H locs hP hD hS => ?_)
          have hP : va_P Z.1 vwCl [(h0, .inr (9, [.ref b1, .ref b2, .ref b3, .ref b4, .int (nI n), .ref b5, .int (nI pn), .ref b6, .ref b7, .ref b8, .int (nI tn), .int (nI (ps + 1)), .int xr, .ref b9, .ref b10, .ref b11, .ref b12, .ref b13, .ref b14, .ref b15, .ref b16, .ref b17, .ref b18, .int ik, .ref b19, .ref b20, .ref b21, .ref b22, .ref b23, .ref b24, .ref b25])), (b8, .inl (Z.2 0, 80, .inl f8))] H := hP
          have hD : va_D A [(h0, .inr (9, [.ref b1, .ref b2, .ref b3, .ref b4, .int (nI n), .ref b5, .int (nI pn), .ref b6, .ref b7, .ref b8, .int (nI tn), .int (nI (ps + 1)), .int xr, .ref b9, .ref b10, .ref b11, .ref b12, .ref b13, .ref b14, .ref b15, .ref b16, .ref b17, .ref b18, .int ik, .ref b19, .ref b20, .ref b21, .ref b22, .ref b23, .ref b24, .ref b25])), (b8, .inl (Z.2 0, 80, .inl f8))] := hD
          refine lv_goto (tgt := 12) hx hb dX9_readNumber_83 (by decide) ?_
          exact ih (ps + 1) y (by omega) (hlt) (by omega) H locs ls hP hD hS (lv_sub hl [1, 2, 3, 0] rfl)
set_option maxHeartbeats 4000000 in
set_option maxRecDepth 100000 in
theorem c_X9_readNumber (l : Launch) (Z : gZ) (sz : Nat) (h0 : Nat) (b1 : Nat) (b2 : Nat) (b3 : Nat) (b4 : Nat) (b5 : Nat) (b6 : Nat) (b7 : Nat) (b8 : Nat) (b9 : Nat) (b10 : Nat) (b11 : Nat) (b12 : Nat) (b13 : Nat) (b14 : Nat) (b15 : Nat) (b16 : Nat) (b17 : Nat) (b18 : Nat) (b19 : Nat) (b20 : Nat) (b21 : Nat) (b22 : Nat) (b23 : Nat) (b24 : Nat) (b25 : Nat) (n : Nat) (pn : Nat) (tn : Nat) (xr : Int32) (ik : Int32) (f8 : Nat → Int32) (ps : Nat) (a : Int32) (htn : tn ≤ 80) (hp : ps ≤ tn) : Met l yX9_readNumber wsX9_readNumber ({ frames := 2, cells := 0, slots := 0, locals := 60 }) (va_Pc [.ref h0, .int a] (fun U => U.heap.size = sz ∧ va_P Z.1 vwCl [(h0, .inr (9, [.ref b1, .ref b2, .ref b3, .ref b4, .int (nI n), .ref b5, .int (nI pn), .ref b6, .ref b7, .ref b8, .int (nI tn), .int (nI ps), .int xr, .ref b9, .ref b10, .ref b11, .ref b12, .ref b13, .ref b14, .ref b15, .ref b16, .ref b17, .ref b18, .int ik, .ref b19, .ref b20, .ref b21, .ref b22, .ref b23, .ref b24, .ref b25])), (b8, .inl (Z.2 0, 80, .inl f8))] U.heap ∧ va_K Z.1 vwCl (gT Z) U ∧ va_D (fun _ => True) [(h0, .inr (9, [.ref b1, .ref b2, .ref b3, .ref b4, .int (nI n), .ref b5, .int (nI pn), .ref b6, .ref b7, .ref b8, .int (nI tn), .int (nI ps), .int xr, .ref b9, .ref b10, .ref b11, .ref b12, .ref b13, .ref b14, .ref b15, .ref b16, .ref b17, .ref b18, .int ik, .ref b19, .ref b20, .ref b21, .ref b22, .ref b23, .ref b24, .ref b25])), (b8, .inl (Z.2 0, 80, .inl f8))])) (va_Qi (fun (r : Int32) (u : Nat) => match u with | p1 => p1 ≤ tn) (fun (u : Nat) (t9 : State) => match u with | p1 => va_P Z.1 vwCl [(h0, .inr (9, [.ref b1, .ref b2, .ref b3, .ref b4, .int (nI n), .ref b5, .int (nI pn), .ref b6, .ref b7, .ref b8, .int (nI tn), .int (nI p1), .int xr, .ref b9, .ref b10, .ref b11, .ref b12, .ref b13, .ref b14, .ref b15, .ref b16, .ref b17, .ref b18, .int ik, .ref b19, .ref b20, .ref b21, .ref b22, .ref b23, .ref b24, .ref b25])), (b8, .inl (Z.2 0, 80, .inl f8))] t9.heap ∧ va_D (va_A [(h0, .inr (9, [.ref b1, .ref b2, .ref b3, .ref b4, .int (nI n), .ref b5, .int (nI pn), .ref b6, .ref b7, .ref b8, .int (nI tn), .int (nI ps), .int xr, .ref b9, .ref b10, .ref b11, .ref b12, .ref b13, .ref b14, .ref b15, .ref b16, .ref b17, .ref b18, .int ik, .ref b19, .ref b20, .ref b21, .ref b22, .ref b23, .ref b24, .ref b25])), (b8, .inl (Z.2 0, 80, .inl f8))] sz) [(h0, .inr (9, [.ref b1, .ref b2, .ref b3, .ref b4, .int (nI n), .ref b5, .int (nI pn), .ref b6, .ref b7, .ref b8, .int (nI tn), .int (nI p1), .int xr, .ref b9, .ref b10, .ref b11, .ref b12, .ref b13, .ref b14, .ref b15, .ref b16, .ref b17, .ref b18, .int ik, .ref b19, .ref b20, .ref b21, .ref b22, .ref b23, .ref b24, .ref b25])), (b8, .inl (Z.2 0, 80, .inl f8))]) (va_A [(h0, .inr (9, [.ref b1, .ref b2, .ref b3, .ref b4, .int (nI n), .ref b5, .int (nI pn), .ref b6, .ref b7, .ref b8, .int (nI tn), .int (nI ps), .int xr, .ref b9, .ref b10, .ref b11, .ref b12, .ref b13, .ref b14, .ref b15, .ref b16, .ref b17, .ref b18, .int ik, .ref b19, .ref b20, .ref b21, .ref b22, .ref b23, .ref b24, .ref b25])), (b8, .inl (Z.2 0, 80, .inl f8))] sz)) 0 0 (va_A [(h0, .inr (9, [.ref b1, .ref b2, .ref b3, .ref b4, .int (nI n), .ref b5, .int (nI pn), .ref b6, .ref b7, .ref b8, .int (nI tn), .int (nI ps), .int xr, .ref b9, .ref b10, .ref b11, .ref b12, .ref b13, .ref b14, .ref b15, .ref b16, .ref b17, .ref b18, .int ik, .ref b19, .ref b20, .ref b21, .ref b22, .ref b23, .ref b24, .ref b25])), (b8, .inl (Z.2 0, 80, .inl f8))] sz) := by
  refine Met.ofW (cc := cX9_readNumber) (maxL := 4) (ret := (some .int)) (by decide) rfl ?_
  intro p e s m args below meth c s₁ B hml hv
  obtain ⟨rfl, hsz, hP, hK, hD0⟩ := hv
  have hx := B.exec
  have hb := B.bytes
  have hr := B.returns
  have hts := atoms_spec (ws := wsX9_readNumber) B.pre
  have hown : s.vm.findClass RX9 = some m.cls := findClass_of_methodNamed B.named
  have hlocks := B.notSynchronized
  subst hsz
  have hin9 : ∀ w ∈ wsX90, w ∈ wsX9_readNumber := by decide +kernel
  have hD := hD0.self (sz := s.heap.size)
  generalize hAe : va_A [(h0, .inr (9, [.ref b1, .ref b2, .ref b3, .ref b4, .int (nI n), .ref b5, .int (nI pn), .ref b6, .ref b7, .ref b8, .int (nI tn), .int (nI ps), .int xr, .ref b9, .ref b10, .ref b11, .ref b12, .ref b13, .ref b14, .ref b15, .ref b16, .ref b17, .ref b18, .int ik, .ref b19, .ref b20, .ref b21, .ref b22, .ref b23, .ref b24, .ref b25])), (b8, .inl (Z.2 0, 80, .inl f8))] s.heap.size = A at hD ⊢
  have hA : ∀ q : Nat, s.heap.size ≤ q → A q := fun q h => by rw [← hAe]; exact Or.inr h
  have hS : va_S A s.heap s.heap [] := va_S.rf
  have hP : va_P Z.1 vwCl [(h0, .inr (9, [.ref b1, .ref b2, .ref b3, .ref b4, .int (nI n), .ref b5, .int (nI pn), .ref b6, .ref b7, .ref b8, .int (nI tn), .int (nI ps), .int xr, .ref b9, .ref b10, .ref b11, .ref b12, .ref b13, .ref b14, .ref b15, .ref b16, .ref b17, .ref b18, .int ik, .ref b19, .ref b20, .ref b21, .ref b22, .ref b23, .ref b24, .ref b25])), (b8, .inl (Z.2 0, 80, .inl f8))] s.heap := hP
  have hl := lv_entry ([.ref h0, .int a]) (n := 4) (Nat.le_of_ble_eq_true rfl)
  rw [lg_entry_eq]
  generalize (lg_sl ([.ref h0, .int a]) ++ List.replicate (4 - (lg_sl ([.ref h0, .int a])).length) Slot.unset).toArray = ls at hl ⊢
  have hl : lv_has ls 4 [(0, .ref h0), (1, .int a)] := hl
  refine lv_aload_n hx hb dX9_readNumber_0 rfl (lv_at hl 0 rfl) ?_
  have hPc := hP.sub (ws' := [(h0, .inr (9, [.ref b1, .ref b2, .ref b3, .ref b4, .int (nI n), .ref b5, .int (nI pn), .ref b6, .ref b7, .ref b8, .int (nI tn), .int (nI ps), .int xr, .ref b9, .ref b10, .ref b11, .ref b12, .ref b13, .ref b14, .ref b15, .ref b16, .ref b17, .ref b18, .int ik, .ref b19, .ref b20, .ref b21, .ref b22, .ref b23, .ref b24, .ref b25])), (b8, .inl (Z.2 0, 80, .inl f8))]) [0, 1] rfl
  have hDc := hD.sub (ws' := [(h0, .inr (9, [.ref b1, .ref b2, .ref b3, .ref b4, .int (nI n), .ref b5, .int (nI pn), .ref b6, .ref b7, .ref b8, .int (nI tn), .int (nI ps), .int xr, .ref b9, .ref b10, .ref b11, .ref b12, .ref b13, .ref b14, .ref b15, .ref b16, .ref b17, .ref b18, .int ik, .ref b19, .ref b20, .ref b21, .ref b22, .ref b23, .ref b24, .ref b25])), (b8, .inl (Z.2 0, 80, .inl f8))]) [0, 1] (by decide) rfl
  have hFc := va_free (wc := [(h0, .inr (9, [.ref b1, .ref b2, .ref b3, .ref b4, .int (nI n), .ref b5, .int (nI pn), .ref b6, .ref b7, .ref b8, .int (nI tn), .int (nI ps), .int xr, .ref b9, .ref b10, .ref b11, .ref b12, .ref b13, .ref b14, .ref b15, .ref b16, .ref b17, .ref b18, .int ik, .ref b19, .ref b20, .ref b21, .ref b22, .ref b23, .ref b24, .ref b25])), (b8, .inl (Z.2 0, 80, .inl f8))]) hD hS hA [0, 1] rfl
  refine va_calli (va_runV (As := []) (rest := []) ⟨hx, hb, hml, hown, hts⟩ (c_X9_nextByte l Z s.heap.size h0 b1 b2 b3 b4 b5 b6 b7 b8 b9 b10 b11 b12 b13 b14 b15 b16 b17 b18 b19 b20 b21 b22 b23 b24 b25 n pn tn xr ik f8 ps (htn) (hp)) (cwV 0 hts gX9_readNumber_X9_nextByte rfl rfl rfl (by decide +kernel) ⟨Nat.le_of_ble_eq_true rfl, Nat.le_of_ble_eq_true rfl⟩) ⟨fun a U g mk q => by obtain ⟨q0, q1, qP, qK, qD⟩ := q; exact ⟨q0, q1, qP, va_K.moved (u := U) (U := U.calling g mk a) (Vm.Alike.refl U.vm) qK, qD⟩, va_recv hK hPc (ci := 9) (q0 := 0) rfl rfl, fun U hU hW => ⟨rfl, by rw [hU], by rw [hU]; exact hPc, va_K.moved hW.alike hK, hDc.weaken (fun _ _ _ _ => trivial)⟩⟩ rfl rfl hl.1 rfl (lv_room (Nat.le_of_ble_eq_true rfl)) dX9_readNumber_1 ⟨Nat.le_of_ble_eq_true rfl, Nat.le_of_ble_eq_true rfl⟩) hS (fun q _ h => hFc q h) hFc (fun r_1 u t9 H1 locs ht hvm hw hB hz1 hk1 hS => ?_)
  obtain ⟨p1_2, rfl⟩ : ∃ z, z = u := ⟨_, rfl⟩
  try dsimp only at hw hB
  have hwr_1 := hw
  obtain ⟨hP1, hD1⟩ := hB
  rw [ht] at hP1
  obtain ⟨hP, hD⟩ := va_join (wr := []) (w1 := [(h0, .inr (9, [.ref b1, .ref b2, .ref b3, .ref b4, .int (nI n), .ref b5, .int (nI pn), .ref b6, .ref b7, .ref b8, .int (nI tn), .int (nI p1_2), .int xr, .ref b9, .ref b10, .ref b11, .ref b12, .ref b13, .ref b14, .ref b15, .ref b16, .ref b17, .ref b18, .int ik, .ref b19, .ref b20, .ref b21, .ref b22, .ref b23, .ref b24, .ref b25])), (b8, .inl (Z.2 0, 80, .inl f8))]) hP hD [0, 1] [] rfl rfl (by decide) (by decide) hk1 hFc hP1 hD1
  clear hPc hDc hP1 hD1 hk1 hz1 hFc ht hvm
  generalize H1 = H at hP hS ⊢
  have hP : va_P Z.1 vwCl [(h0, .inr (9, [.ref b1, .ref b2, .ref b3, .ref b4, .int (nI n), .ref b5, .int (nI pn), .ref b6, .ref b7, .ref b8, .int (nI tn), .int (nI p1_2), .int xr, .ref b9, .ref b10, .ref b11, .ref b12, .ref b13, .ref b14, .ref b15, .ref b16, .ref b17, .ref b18, .int ik, .ref b19, .ref b20, .ref b21, .ref b22, .ref b23, .ref b24, .ref b25])), (b8, .inl (Z.2 0, 80, .inl f8))] H := hP
  have hD : va_D A [(h0, .inr (9, [.ref b1, .ref b2, .ref b3, .ref b4, .int (nI n), .ref b5, .int (nI pn), .ref b6, .ref b7, .ref b8, .int (nI tn), .int (nI p1_2), .int xr, .ref b9, .ref b10, .ref b11, .ref b12, .ref b13, .ref b14, .ref b15, .ref b16, .ref b17, .ref b18, .int ik, .ref b19, .ref b20, .ref b21, .ref b22, .ref b23, .ref b24, .ref b25])), (b8, .inl (Z.2 0, 80, .inl f8))] := hD
  have hnb := hwr_1
  refine lv_pop hx hb dX9_readNumber_4 rfl ?_
  refine lv_aload_n hx hb dX9_readNumber_5 rfl (lv_at hl 0 rfl) ?_
  refine va_get (D := Z.1) (ci := 9) (v := .int (nI p1_2)) (C := RX9) (T := TX9) (N := 31) hx hb hts hin9 hown hK hP 0 rfl rfl 11 (by decide) (hts (.fieldLink RX9 153 "HalfAskedModel" "place" "I") (by decide +kernel)) (fun _ h9 => h9) rfl dX9_readNumber_6 ?_
  refine lv_istore_n (lv' := [(2, .int (nI p1_2)), (0, .ref h0), (1, .int a)]) hx hb dX9_readNumber_9 rfl hl (by decide) rfl (fun ls hl => ?_)
  refine lv_iconst (v := 0) hx hb dX9_readNumber_10 (by decide) ?_
  refine lv_istore_n (lv' := [(3, .int 0), (2, .int (nI p1_2)), (0, .ref h0), (1, .int a)]) hx hb dX9_readNumber_11 rfl hl (by decide) rfl (fun ls hl => ?_)
  refine lp_X9_readNumber Z h0 b1 b2 b3 b4 b5 b6 b7 b8 b9 b10 b11 b12 b13 b14 b15 b16 b17 b18 b19 b20 b21 b22 b23 b24 b25 n pn tn xr ik f8 p1_2 a htn hx hb hml hts hown hK hA (fun p2 y H locs ls hq hp0 hP hD hS hl => ?_) (tn + 1) p1_2 0 (by omega) (hnb.2.2) (Nat.le_refl _) H _ ls hP hD hS (lv_sub hl [2, 3, 1, 0] rfl)
  refine lv_aload_n hx hb dX9_readNumber_86 rfl (lv_at hl 0 rfl) ?_
  refine va_get (D := Z.1) (ci := 9) (v := .int (nI p2)) (C := RX9) (T := TX9) (N := 31) hx hb hts hin9 hown hK hP 0 rfl rfl 11 (by decide) (hts (.fieldLink RX9 153 "HalfAskedModel" "place" "I") (by decide +kernel)) (fun _ h9 => h9) rfl dX9_readNumber_87 ?_
  refine lv_iload_n hx hb dX9_readNumber_90 rfl (lv_at hl 2 rfl) ?_
  refine lv_icmp_ne (tgt := 96) hx hb dX9_readNumber_91 (by decide) (fun c_3 => ?_) (fun c_3 => ?_)
  · refine lv_iload_n hx hb dX9_readNumber_96 rfl (lv_at hl 3 rfl) ?_
    refine lv_iload_n hx hb dX9_readNumber_97 rfl (lv_at hl 1 rfl) ?_
    refine lv_icmp_le (tgt := 108) hx hb dX9_readNumber_98 (by decide) (fun c_4 => ?_) (fun c_4 => ?_)
    · refine lv_iload_n hx hb dX9_readNumber_108 rfl (lv_at hl 3 rfl) ?_
      have hP9 := hP.sub (ws' := [(h0, .inr (9, [.ref b1, .ref b2, .ref b3, .ref b4, .int (nI n), .ref b5, .int (nI pn), .ref b6, .ref b7, .ref b8, .int (nI tn), .int (nI p2), .int xr, .ref b9, .ref b10, .ref b11, .ref b12, .ref b13, .ref b14, .ref b15, .ref b16, .ref b17, .ref b18, .int ik, .ref b19, .ref b20, .ref b21, .ref b22, .ref b23, .ref b24, .ref b25])), (b8, .inl (Z.2 0, 80, .inl f8))]) [0, 1] rfl
      have hD9 := hD.sub (ws' := [(h0, .inr (9, [.ref b1, .ref b2, .ref b3, .ref b4, .int (nI n), .ref b5, .int (nI pn), .ref b6, .ref b7, .ref b8, .int (nI tn), .int (nI p2), .int xr, .ref b9, .ref b10, .ref b11, .ref b12, .ref b13, .ref b14, .ref b15, .ref b16, .ref b17, .ref b18, .int ik, .ref b19, .ref b20, .ref b21, .ref b22, .ref b23, .ref b24, .ref b25])), (b8, .inl (Z.2 0, 80, .inl f8))]) [0, 1] (by decide) rfl
      exact W.iret (v := y) hx hb hr (fun t9 ht hW => ⟨⟨y, p2, rfl, by omega, by rw [ht]; exact hP9, hD9⟩, hS.F ht⟩) hS.2.2 dX9_readNumber_109
    · refine lv_aload_n hx hb dX9_readNumber_101 rfl (lv_at hl 0 rfl) ?_
      refine lv_iload_n hx hb dX9_readNumber_102 rfl (lv_at hl 2 rfl) ?_
      refine va_put (D := Z.1) (ci := 9) (v := .int (nI p1_2)) (ty := .int) (C := RX9) (T := TX9) (N := 31) hx hb hts hin9 tyX9 tyX9_ok nmX9 hown hK hP hD hS 0 rfl rfl 11 (by decide) (hts (.fieldLink RX9 153 "HalfAskedModel" "place" "I") (by decide +kernel)) (fun _ h9 => h9) rfl (by decide +kernel) rfl rfl (Nat.le_of_ble_eq_true rfl) dX9_readNumber_103 (fun H locs hP hD hS => ?_)
      have hP : va_P Z.1 vwCl [(h0, .inr (9, [.ref b1, .ref b2, .ref b3, .ref b4, .int (nI n), .ref b5, .int (nI pn), .ref b6, .ref b7, .ref b8, .int (nI tn), .int (nI p1_2), .int xr, .ref b9, .ref b10, .ref b11, .ref b12, .ref b13, .ref b14, .ref b15, .ref b16, .ref b17, .ref b18, .int ik, .ref b19, .ref b20, .ref b21, .ref b22, .ref b23, .ref b24, .ref b25])), (b8, .inl (Z.2 0, 80, .inl f8))] H := hP
      have hD : va_D A [(h0, .inr (9, [.ref b1, .ref b2, .ref b3, .ref b4, .int (nI n), .ref b5, .int (nI pn), .ref b6, .ref b7, .ref b8, .int (nI tn), .int (nI p1_2), .int xr, .ref b9, .ref b10, .ref b11, .ref b12, .ref b13, .ref b14, .ref b15, .ref b16, .ref b17, .ref b18, .int ik, .ref b19, .ref b20, .ref b21, .ref b22, .ref b23, .ref b24, .ref b25])), (b8, .inl (Z.2 0, 80, .inl f8))] := hD
      refine lv_iconst (v := (-1)) hx hb dX9_readNumber_106 (by decide) ?_
      have hP9 := hP.sub (ws' := [(h0, .inr (9, [.ref b1, .ref b2, .ref b3, .ref b4, .int (nI n), .ref b5, .int (nI pn), .ref b6, .ref b7, .ref b8, .int (nI tn), .int (nI p1_2), .int xr, .ref b9, .ref b10, .ref b11, .ref b12, .ref b13, .ref b14, .ref b15, .ref b16, .ref b17, .ref b18, .int ik, .ref b19, .ref b20, .ref b21, .ref b22, .ref b23, .ref b24, .ref b25])), (b8, .inl (Z.2 0, 80, .inl f8))]) [0, 1] rfl
      have hD9 := hD.sub (ws' := [(h0, .inr (9, [.ref b1, .ref b2, .ref b3, .ref b4, .int (nI n), .ref b5, .int (nI pn), .ref b6, .ref b7, .ref b8, .int (nI tn), .int (nI p1_2), .int xr, .ref b9, .ref b10, .ref b11, .ref b12, .ref b13, .ref b14, .ref b15, .ref b16, .ref b17, .ref b18, .int ik, .ref b19, .ref b20, .ref b21, .ref b22, .ref b23, .ref b24, .ref b25])), (b8, .inl (Z.2 0, 80, .inl f8))]) [0, 1] (by decide) rfl
      exact W.iret (v := (-1)) hx hb hr (fun t9 ht hW => ⟨⟨(-1), p1_2, rfl, by omega, by rw [ht]; exact hP9, hD9⟩, hS.F ht⟩) hS.2.2 dX9_readNumber_107
  · refine lv_iconst (v := (-1)) hx hb dX9_readNumber_94 (by decide) ?_
    have hP9 := hP.sub (ws' := [(h0, .inr (9, [.ref b1, .ref b2, .ref b3, .ref b4, .int (nI n), .ref b5, .int (nI pn), .ref b6, .ref b7, .ref b8, .int (nI tn), .int (nI p2), .int xr, .ref b9, .ref b10, .ref b11, .ref b12, .ref b13, .ref b14, .ref b15, .ref b16, .ref b17, .ref b18, .int ik, .ref b19, .ref b20, .ref b21, .ref b22, .ref b23, .ref b24, .ref b25])), (b8, .inl (Z.2 0, 80, .inl f8))]) [0, 1] rfl
    have hD9 := hD.sub (ws' := [(h0, .inr (9, [.ref b1, .ref b2, .ref b3, .ref b4, .int (nI n), .ref b5, .int (nI pn), .ref b6, .ref b7, .ref b8, .int (nI tn), .int (nI p2), .int xr, .ref b9, .ref b10, .ref b11, .ref b12, .ref b13, .ref b14, .ref b15, .ref b16, .ref b17, .ref b18, .int ik, .ref b19, .ref b20, .ref b21, .ref b22, .ref b23, .ref b24, .ref b25])), (b8, .inl (Z.2 0, 80, .inl f8))]) [0, 1] (by decide) rfl
    exact W.iret (v := (-1)) hx hb hr (fun t9 ht hW => ⟨⟨(-1), p2, rfl, by omega, by rw [ht]; exact hP9, hD9⟩, hS.F ht⟩) hS.2.2 dX9_readNumber_95
theorem z_eqm1 {a b : Int32} (h : a = b) (hb : ¬ b = -1) : ¬ a = -1 := by rw [h]; exact hb
set_option maxHeartbeats 4000000 in
set_option maxRecDepth 100000 in
theorem c_X9_readOne (l : Launch) (Z : gZ) (sz : Nat) (h0 : Nat) (b1 : Nat) (b2 : Nat) (b3 : Nat) (b4 : Nat) (b5 : Nat) (b6 : Nat) (b7 : Nat) (b8 : Nat) (b9 : Nat) (b10 : Nat) (b11 : Nat) (b12 : Nat) (b13 : Nat) (b14 : Nat) (b15 : Nat) (b16 : Nat) (b17 : Nat) (b18 : Nat) (b19 : Nat) (b20 : Nat) (b21 : Nat) (b22 : Nat) (b23 : Nat) (b24 : Nat) (b25 : Nat) (n : Nat) (pn : Nat) (tn : Nat) (xr : Int32) (ik : Int32) (f8 : Nat → Int32) (f9 : Nat → Int32) (ps : Nat) (a : Nat) (htn : tn ≤ 80) (hp : ps ≤ tn) (ha : a + 1 < 24) : Met l yX9_readOne wsX9_readOne ({ frames := 3, cells := 0, slots := 0, locals := 83 }) (va_Pc [.ref h0, .int (nI a)] (fun U => U.heap.size = sz ∧ va_P Z.1 vwCl [(h0, .inr (9, [.ref b1, .ref b2, .ref b3, .ref b4, .int (nI n), .ref b5, .int (nI pn), .ref b6, .ref b7, .ref b8, .int (nI tn), .int (nI ps), .int xr, .ref b9, .ref b10, .ref b11, .ref b12, .ref b13, .ref b14, .ref b15, .ref b16, .ref b17, .ref b18, .int ik, .ref b19, .ref b20, .ref b21, .ref b22, .ref b23, .ref b24, .ref b25])), (b8, .inl (Z.2 0, 80, .inl f8)), (b9, .inl (Z.2 0, 24, .inl f9))] U.heap ∧ va_K Z.1 vwCl (gT Z) U ∧ va_D (fun _ => True) [(h0, .inr (9, [.ref b1, .ref b2, .ref b3, .ref b4, .int (nI n), .ref b5, .int (nI pn), .ref b6, .ref b7, .ref b8, .int (nI tn), .int (nI ps), .int xr, .ref b9, .ref b10, .ref b11, .ref b12, .ref b13, .ref b14, .ref b15, .ref b16, .ref b17, .ref b18, .int ik, .ref b19, .ref b20, .ref b21, .ref b22, .ref b23, .ref b24, .ref b25])), (b8, .inl (Z.2 0, 80, .inl f8)), (b9, .inl (Z.2 0, 24, .inl f9))])) (va_Qi (fun (r : Int32) (u : Nat × (Nat → Int32)) => match u with | (p1, g9) => (r = 0 ∨ r = 1) ∧ p1 ≤ tn) (fun (u : Nat × (Nat → Int32)) (t9 : State) => match u with | (p1, g9) => va_P Z.1 vwCl [(h0, .inr (9, [.ref b1, .ref b2, .ref b3, .ref b4, .int (nI n), .ref b5, .int (nI pn), .ref b6, .ref b7, .ref b8, .int (nI tn), .int (nI p1), .int xr, .ref b9, .ref b10, .ref b11, .ref b12, .ref b13, .ref b14, .ref b15, .ref b16, .ref b17, .ref b18, .int ik, .ref b19, .ref b20, .ref b21, .ref b22, .ref b23, .ref b24, .ref b25])), (b8, .inl (Z.2 0, 80, .inl f8)), (b9, .inl (Z.2 0, 24, .inl g9))] t9.heap ∧ va_D (va_A [(h0, .inr (9, [.ref b1, .ref b2, .ref b3, .ref b4, .int (nI n), .ref b5, .int (nI pn), .ref b6, .ref b7, .ref b8, .int (nI tn), .int (nI ps), .int xr, .ref b9, .ref b10, .ref b11, .ref b12, .ref b13, .ref b14, .ref b15, .ref b16, .ref b17, .ref b18, .int ik, .ref b19, .ref b20, .ref b21, .ref b22, .ref b23, .ref b24, .ref b25])), (b8, .inl (Z.2 0, 80, .inl f8)), (b9, .inl (Z.2 0, 24, .inl f9))] sz) [(h0, .inr (9, [.ref b1, .ref b2, .ref b3, .ref b4, .int (nI n), .ref b5, .int (nI pn), .ref b6, .ref b7, .ref b8, .int (nI tn), .int (nI p1), .int xr, .ref b9, .ref b10, .ref b11, .ref b12, .ref b13, .ref b14, .ref b15, .ref b16, .ref b17, .ref b18, .int ik, .ref b19, .ref b20, .ref b21, .ref b22, .ref b23, .ref b24, .ref b25])), (b8, .inl (Z.2 0, 80, .inl f8)), (b9, .inl (Z.2 0, 24, .inl g9))]) (va_A [(h0, .inr (9, [.ref b1, .ref b2, .ref b3, .ref b4, .int (nI n), .ref b5, .int (nI pn), .ref b6, .ref b7, .ref b8, .int (nI tn), .int (nI ps), .int xr, .ref b9, .ref b10, .ref b11, .ref b12, .ref b13, .ref b14, .ref b15, .ref b16, .ref b17, .ref b18, .int ik, .ref b19, .ref b20, .ref b21, .ref b22, .ref b23, .ref b24, .ref b25])), (b8, .inl (Z.2 0, 80, .inl f8)), (b9, .inl (Z.2 0, 24, .inl f9))] sz)) 0 0 (va_A [(h0, .inr (9, [.ref b1, .ref b2, .ref b3, .ref b4, .int (nI n), .ref b5, .int (nI pn), .ref b6, .ref b7, .ref b8, .int (nI tn), .int (nI ps), .int xr, .ref b9, .ref b10, .ref b11, .ref b12, .ref b13, .ref b14, .ref b15, .ref b16, .ref b17, .ref b18, .int ik, .ref b19, .ref b20, .ref b21, .ref b22, .ref b23, .ref b24, .ref b25])), (b8, .inl (Z.2 0, 80, .inl f8)), (b9, .inl (Z.2 0, 24, .inl f9))] sz) := by
  refine Met.ofW (cc := cX9_readOne) (maxL := 3) (ret := (some .boolean)) (by decide) rfl ?_
  intro p e s m args below meth c s₁ B hml hv
  obtain ⟨rfl, hsz, hP, hK, hD0⟩ := hv
  have hx := B.exec
  have hb := B.bytes
  have hr := B.returns
  have hts := atoms_spec (ws := wsX9_readOne) B.pre
  have hown : s.vm.findClass RX9 = some m.cls := findClass_of_methodNamed B.named
  have hlocks := B.notSynchronized
  subst hsz
  have hin9 : ∀ w ∈ wsX90, w ∈ wsX9_readOne := by decide +kernel
  have hD := hD0.self (sz := s.heap.size)
  generalize hAe : va_A [(h0, .inr (9, [.ref b1, .ref b2, .ref b3, .ref b4, .int (nI n), .ref b5, .int (nI pn), .ref b6, .ref b7, .ref b8, .int (nI tn), .int (nI ps), .int xr, .ref b9, .ref b10, .ref b11, .ref b12, .ref b13, .ref b14, .ref b15, .ref b16, .ref b17, .ref b18, .int ik, .ref b19, .ref b20, .ref b21, .ref b22, .ref b23, .ref b24, .ref b25])), (b8, .inl (Z.2 0, 80, .inl f8)), (b9, .inl (Z.2 0, 24, .inl f9))] s.heap.size = A at hD ⊢
  have hA : ∀ q : Nat, s.heap.size ≤ q → A q := fun q h => by rw [← hAe]; exact Or.inr h
  have hS : va_S A s.heap s.heap [] := va_S.rf
  have hP : va_P Z.1 vwCl [(h0, .inr (9, [.ref b1, .ref b2, .ref b3, .ref b4, .int (nI n), .ref b5, .int (nI pn), .ref b6, .ref b7, .ref b8, .int (nI tn), .int (nI ps), .int xr, .ref b9, .ref b10, .ref b11, .ref b12, .ref b13, .ref b14, .ref b15, .ref b16, .ref b17, .ref b18, .int ik, .ref b19, .ref b20, .ref b21, .ref b22, .ref b23, .ref b24, .ref b25])), (b8, .inl (Z.2 0, 80, .inl f8)), (b9, .inl (Z.2 0, 24, .inl f9))] s.heap := hP
  have hl := lv_entry ([.ref h0, .int (nI a)]) (n := 3) (Nat.le_of_ble_eq_true rfl)
  rw [lg_entry_eq]
  generalize (lg_sl ([.ref h0, .int (nI a)]) ++ List.replicate (3 - (lg_sl ([.ref h0, .int (nI a)])).length) Slot.unset).toArray = ls at hl ⊢
  have hl : lv_has ls 3 [(0, .ref h0), (1, .int (nI a))] := hl
  refine lv_aload_n hx hb dX9_readOne_0 rfl (lv_at hl 0 rfl) ?_
  have hPc := hP.sub (ws' := [(h0, .inr (9, [.ref b1, .ref b2, .ref b3, .ref b4, .int (nI n), .ref b5, .int (nI pn), .ref b6, .ref b7, .ref b8, .int (nI tn), .int (nI ps), .int xr, .ref b9, .ref b10, .ref b11, .ref b12, .ref b13, .ref b14, .ref b15, .ref b16, .ref b17, .ref b18, .int ik, .ref b19, .ref b20, .ref b21, .ref b22, .ref b23, .ref b24, .ref b25])), (b8, .inl (Z.2 0, 80, .inl f8))]) [0, 1] rfl
  have hDc := hD.sub (ws' := [(h0, .inr (9, [.ref b1, .ref b2, .ref b3, .ref b4, .int (nI n), .ref b5, .int (nI pn), .ref b6, .ref b7, .ref b8, .int (nI tn), .int (nI ps), .int xr, .ref b9, .ref b10, .ref b11, .ref b12, .ref b13, .ref b14, .ref b15, .ref b16, .ref b17, .ref b18, .int ik, .ref b19, .ref b20, .ref b21, .ref b22, .ref b23, .ref b24, .ref b25])), (b8, .inl (Z.2 0, 80, .inl f8))]) [0, 1] (by decide) rfl
  have hFc := va_free (wc := [(h0, .inr (9, [.ref b1, .ref b2, .ref b3, .ref b4, .int (nI n), .ref b5, .int (nI pn), .ref b6, .ref b7, .ref b8, .int (nI tn), .int (nI ps), .int xr, .ref b9, .ref b10, .ref b11, .ref b12, .ref b13, .ref b14, .ref b15, .ref b16, .ref b17, .ref b18, .int ik, .ref b19, .ref b20, .ref b21, .ref b22, .ref b23, .ref b24, .ref b25])), (b8, .inl (Z.2 0, 80, .inl f8))]) hD hS hA [0, 1] rfl
  refine va_calli (va_runV (As := []) (rest := []) ⟨hx, hb, hml, hown, hts⟩ (c_X9_nextByte l Z s.heap.size h0 b1 b2 b3 b4 b5 b6 b7 b8 b9 b10 b11 b12 b13 b14 b15 b16 b17 b18 b19 b20 b21 b22 b23 b24 b25 n pn tn xr ik f8 ps (htn) (hp)) (cwV 0 hts gX9_readOne_X9_nextByte rfl rfl rfl (by decide +kernel) ⟨Nat.le_of_ble_eq_true rfl, Nat.le_of_ble_eq_true rfl⟩) ⟨fun a U g mk q => by obtain ⟨q0, q1, qP, qK, qD⟩ := q; exact ⟨q0, q1, qP, va_K.moved (u := U) (U := U.calling g mk a) (Vm.Alike.refl U.vm) qK, qD⟩, va_recv hK hPc (ci := 9) (q0 := 0) rfl rfl, fun U hU hW => ⟨rfl, by rw [hU], by rw [hU]; exact hPc, va_K.moved hW.alike hK, hDc.weaken (fun _ _ _ _ => trivial)⟩⟩ rfl rfl hl.1 rfl (lv_room (Nat.le_of_ble_eq_true rfl)) dX9_readOne_1 ⟨Nat.le_of_ble_eq_true rfl, Nat.le_of_ble_eq_true rfl⟩) hS (fun q _ h => hFc q h) hFc (fun r_1 u t9 H1 locs ht hvm hw hB hz1 hk1 hS => ?_)
  obtain ⟨p1_2, rfl⟩ : ∃ z, z = u := ⟨_, rfl⟩
  try dsimp only at hw hB
  have hwr_1 := hw
  obtain ⟨hP1, hD1⟩ := hB
  rw [ht] at hP1
  obtain ⟨hP, hD⟩ := va_join (wr := [(b9, .inl (Z.2 0, 24, .inl f9))]) (w1 := [(h0, .inr (9, [.ref b1, .ref b2, .ref b3, .ref b4, .int (nI n), .ref b5, .int (nI pn), .ref b6, .ref b7, .ref b8, .int (nI tn), .int (nI p1_2), .int xr, .ref b9, .ref b10, .ref b11, .ref b12, .ref b13, .ref b14, .ref b15, .ref b16, .ref b17, .ref b18, .int ik, .ref b19, .ref b20, .ref b21, .ref b22, .ref b23, .ref b24, .ref b25])), (b8, .inl (Z.2 0, 80, .inl f8))]) hP hD [0, 1] [2] rfl rfl (by decide) (by decide) hk1 hFc hP1 hD1
  clear hPc hDc hP1 hD1 hk1 hz1 hFc ht hvm
  generalize H1 = H at hP hS ⊢
  have hP : va_P Z.1 vwCl [(b9, .inl (Z.2 0, 24, .inl f9)), (h0, .inr (9, [.ref b1, .ref b2, .ref b3, .ref b4, .int (nI n), .ref b5, .int (nI pn), .ref b6, .ref b7, .ref b8, .int (nI tn), .int (nI p1_2), .int xr, .ref b9, .ref b10, .ref b11, .ref b12, .ref b13, .ref b14, .ref b15, .ref b16, .ref b17, .ref b18, .int ik, .ref b19, .ref b20, .ref b21, .ref b22, .ref b23, .ref b24, .ref b25])), (b8, .inl (Z.2 0, 80, .inl f8))] H := hP
  have hD : va_D A [(b9, .inl (Z.2 0, 24, .inl f9)), (h0, .inr (9, [.ref b1, .ref b2, .ref b3, .ref b4, .int (nI n), .ref b5, .int (nI pn), .ref b6, .ref b7, .ref b8, .int (nI tn), .int (nI p1_2), .int xr, .ref b9, .ref b10, .ref b11, .ref b12, .ref b13, .ref b14, .ref b15, .ref b16, .ref b17, .ref b18, .int ik, .ref b19, .ref b20, .ref b21, .ref b22, .ref b23, .ref b24, .ref b25])), (b8, .inl (Z.2 0, 80, .inl f8))] := hD
  have hnb := hwr_1
  refine lv_istore_n (lv' := [(2, .int r_1), (0, .ref h0), (1, .int (nI a))]) hx hb dX9_readOne_4 rfl hl (by decide) rfl (fun ls hl => ?_)
  refine lv_aload_n hx hb dX9_readOne_5 rfl (lv_at hl 1 rfl) ?_
  refine va_get (D := Z.1) (ci := 9) (v := .ref b9) (C := RX9) (T := TX9) (N := 31) hx hb hts hin9 hown hK hP 1 rfl rfl 13 (by decide) (hts (.fieldLink RX9 34 "HalfAskedModel" "read" "[I") (by decide +kernel)) (fun _ h9 => h9) rfl dX9_readOne_6 ?_
  refine lv_iload_n hx hb dX9_readOne_9 rfl (lv_at hl 2 rfl) ?_
  refine lv_iload_n hx hb dX9_readOne_10 rfl (lv_at hl 0 rfl) ?_
  refine lv_bipush (v := 102) hx hb dX9_readOne_11 (by decide) ?_
  refine lv_icmp_ne (tgt := 20) hx hb dX9_readOne_13 (by decide) (fun c_3 => ?_) (fun c_3 => ?_)
  · refine lv_iload_n hx hb dX9_readOne_20 rfl (lv_at hl 0 rfl) ?_
    refine lv_bipush (v := 99) hx hb dX9_readOne_21 (by decide) ?_
    refine lv_icmp_ne (tgt := 30) hx hb dX9_readOne_23 (by decide) (fun c_4 => ?_) (fun c_4 => ?_)
    · refine lv_iload_n hx hb dX9_readOne_30 rfl (lv_at hl 0 rfl) ?_
      refine lv_bipush (v := 116) hx hb dX9_readOne_31 (by decide) ?_
      refine lv_icmp_ne (tgt := 40) hx hb dX9_readOne_33 (by decide) (fun c_5 => ?_) (fun c_5 => ?_)
      · refine lv_iload_n hx hb dX9_readOne_40 rfl (lv_at hl 0 rfl) ?_
        refine lv_bipush (v := 119) hx hb dX9_readOne_41 (by decide) ?_
        refine lv_icmp_ne (tgt := 50) hx hb dX9_readOne_43 (by decide) (fun c_6 => ?_) (fun c_6 => ?_)
        · refine lv_iconst (v := (-1)) hx hb dX9_readOne_50 (by decide) ?_
          refine va_iast hx hb hK hP hD hS 0 0 rfl rfl (vp_in_nI (by omega) (by decide)) dX9_readOne_51 (fun H locs hP hD hS => ?_)
          have hP : va_P Z.1 vwCl [(b9, .inl (Z.2 0, 24, .inl (upd f9 ((nI a).toNatClampNeg) (-1)))), (h0, .inr (9, [.ref b1, .ref b2, .ref b3, .ref b4, .int (nI n), .ref b5, .int (nI pn), .ref b6, .ref b7, .ref b8, .int (nI tn), .int (nI p1_2), .int xr, .ref b9, .ref b10, .ref b11, .ref b12, .ref b13, .ref b14, .ref b15, .ref b16, .ref b17, .ref b18, .int ik, .ref b19, .ref b20, .ref b21, .ref b22, .ref b23, .ref b24, .ref b25])), (b8, .inl (Z.2 0, 80, .inl f8))] H := hP
          have hD : va_D A [(b9, .inl (Z.2 0, 24, .inl (upd f9 ((nI a).toNatClampNeg) (-1)))), (h0, .inr (9, [.ref b1, .ref b2, .ref b3, .ref b4, .int (nI n), .ref b5, .int (nI pn), .ref b6, .ref b7, .ref b8, .int (nI tn), .int (nI p1_2), .int xr, .ref b9, .ref b10, .ref b11, .ref b12, .ref b13, .ref b14, .ref b15, .ref b16, .ref b17, .ref b18, .int ik, .ref b19, .ref b20, .ref b21, .ref b22, .ref b23, .ref b24, .ref b25])), (b8, .inl (Z.2 0, 80, .inl f8))] := hD
          refine lv_aload_n hx hb dX9_readOne_52 rfl (lv_at hl 1 rfl) ?_
          refine va_get (D := Z.1) (ci := 9) (v := .ref b9) (C := RX9) (T := TX9) (N := 31) hx hb hts hin9 hown hK hP 1 rfl rfl 13 (by decide) (hts (.fieldLink RX9 34 "HalfAskedModel" "read" "[I") (by decide +kernel)) (fun _ h9 => h9) rfl dX9_readOne_53 ?_
          refine lv_iload_n hx hb dX9_readOne_56 rfl (lv_at hl 2 rfl) ?_
          refine va_iald hx hb hK hP 0 0 rfl rfl (vp_in_nI (by omega) (by decide)) dX9_readOne_57 ?_
          refine lv_topi (fun f_7 ef_7 => ?_)
          obtain rfl : f_7 = (-1) := ef_7.trans (pk_us)
          refine lv_if_ge (tgt := 63) hx hb dX9_readOne_58 (by decide) (fun c9 => absurd c9 (by decide)) (fun _ => ?_)
          refine lv_iconst (v := 0) hx hb dX9_readOne_61 (by decide) ?_
          have hP9 := hP.sub (ws' := [(h0, .inr (9, [.ref b1, .ref b2, .ref b3, .ref b4, .int (nI n), .ref b5, .int (nI pn), .ref b6, .ref b7, .ref b8, .int (nI tn), .int (nI p1_2), .int xr, .ref b9, .ref b10, .ref b11, .ref b12, .ref b13, .ref b14, .ref b15, .ref b16, .ref b17, .ref b18, .int ik, .ref b19, .ref b20, .ref b21, .ref b22, .ref b23, .ref b24, .ref b25])), (b8, .inl (Z.2 0, 80, .inl f8)), (b9, .inl (Z.2 0, 24, .inl (upd f9 ((nI a).toNatClampNeg) (-1))))]) [1, 2, 0] rfl
          have hD9 := hD.sub (ws' := [(h0, .inr (9, [.ref b1, .ref b2, .ref b3, .ref b4, .int (nI n), .ref b5, .int (nI pn), .ref b6, .ref b7, .ref b8, .int (nI tn), .int (nI p1_2), .int xr, .ref b9, .ref b10, .ref b11, .ref b12, .ref b13, .ref b14, .ref b15, .ref b16, .ref b17, .ref b18, .int ik, .ref b19, .ref b20, .ref b21, .ref b22, .ref b23, .ref b24, .ref b25])), (b8, .inl (Z.2 0, 80, .inl f8)), (b9, .inl (Z.2 0, 24, .inl (upd f9 ((nI a).toNatClampNeg) (-1))))]) [1, 2, 0] (by decide) rfl
          exact W.zret (v := 0) hx hb hr rfl (fun t9 ht hW => ⟨⟨0, (p1_2, upd f9 ((nI a).toNatClampNeg) (-1)), rfl, ⟨Or.inl rfl, by omega⟩, by rw [ht]; exact hP9, hD9⟩, hS.F ht⟩) hS.2.2 dX9_readOne_62
        · refine lv_iconst (v := 3) hx hb dX9_readOne_46 (by decide) ?_
          refine lv_goto (tgt := 51) hx hb dX9_readOne_47 (by decide) ?_
          refine va_iast hx hb hK hP hD hS 0 0 rfl rfl (vp_in_nI (by omega) (by decide)) dX9_readOne_51 (fun H locs hP hD hS => ?_)
          have hP : va_P Z.1 vwCl [(b9, .inl (Z.2 0, 24, .inl (upd f9 ((nI a).toNatClampNeg) 3))), (h0, .inr (9, [.ref b1, .ref b2, .ref b3, .ref b4, .int (nI n), .ref b5, .int (nI pn), .ref b6, .ref b7, .ref b8, .int (nI tn), .int (nI p1_2), .int xr, .ref b9, .ref b10, .ref b11, .ref b12, .ref b13, .ref b14, .ref b15, .ref b16, .ref b17, .ref b18, .int ik, .ref b19, .ref b20, .ref b21, .ref b22, .ref b23, .ref b24, .ref b25])), (b8, .inl (Z.2 0, 80, .inl f8))] H := hP
          have hD : va_D A [(b9, .inl (Z.2 0, 24, .inl (upd f9 ((nI a).toNatClampNeg) 3))), (h0, .inr (9, [.ref b1, .ref b2, .ref b3, .ref b4, .int (nI n), .ref b5, .int (nI pn), .ref b6, .ref b7, .ref b8, .int (nI tn), .int (nI p1_2), .int xr, .ref b9, .ref b10, .ref b11, .ref b12, .ref b13, .ref b14, .ref b15, .ref b16, .ref b17, .ref b18, .int ik, .ref b19, .ref b20, .ref b21, .ref b22, .ref b23, .ref b24, .ref b25])), (b8, .inl (Z.2 0, 80, .inl f8))] := hD
          refine lv_aload_n hx hb dX9_readOne_52 rfl (lv_at hl 1 rfl) ?_
          refine va_get (D := Z.1) (ci := 9) (v := .ref b9) (C := RX9) (T := TX9) (N := 31) hx hb hts hin9 hown hK hP 1 rfl rfl 13 (by decide) (hts (.fieldLink RX9 34 "HalfAskedModel" "read" "[I") (by decide +kernel)) (fun _ h9 => h9) rfl dX9_readOne_53 ?_
          refine lv_iload_n hx hb dX9_readOne_56 rfl (lv_at hl 2 rfl) ?_
          refine va_iald hx hb hK hP 0 0 rfl rfl (vp_in_nI (by omega) (by decide)) dX9_readOne_57 ?_
          refine lv_topi (fun f_8 ef_8 => ?_)
          obtain rfl : f_8 = 3 := ef_8.trans (pk_us)
          refine lv_if_ge (tgt := 63) hx hb dX9_readOne_58 (by decide) (fun _ => ?_) (fun c9 => absurd c9 (by decide))
          have hq8 := hnb.1 (z_eqm1 c_6 (by decide))
          refine lv_aload_n hx hb dX9_readOne_63 rfl (lv_at hl 1 rfl) ?_
          refine lv_dup hx hb dX9_readOne_64 rfl ?_
          refine va_get (D := Z.1) (ci := 9) (v := .int (nI p1_2)) (C := RX9) (T := TX9) (N := 31) hx hb hts hin9 hown hK hP 1 rfl rfl 11 (by decide) (hts (.fieldLink RX9 153 "HalfAskedModel" "place" "I") (by decide +kernel)) (fun _ h9 => h9) rfl dX9_readOne_65 ?_
          refine lv_iconst (v := 1) hx hb dX9_readOne_68 (by decide) ?_
          refine lv_iadd hx hb dX9_readOne_69 ?_
          refine lv_topi (fun f_9 ef_9 => ?_)
          obtain rfl : f_9 = nI (p1_2 + 1) := ef_9.trans (nI_1 _)
          refine va_put (D := Z.1) (ci := 9) (v := .int (nI (p1_2 + 1))) (ty := .int) (C := RX9) (T := TX9) (N := 31) hx hb hts hin9 tyX9 tyX9_ok nmX9 hown hK hP hD hS 1 rfl rfl 11 (by decide) (hts (.fieldLink RX9 153 "HalfAskedModel" "place" "I") (by decide +kernel)) (fun _ h9 => h9) rfl (by decide +kernel) rfl rfl (Nat.le_of_ble_eq_true rfl) dX9_readOne_70 (fun H locs hP hD hS => ?_)
          have hP : va_P Z.1 vwCl [(b9, .inl (Z.2 0, 24, .inl (upd f9 ((nI a).toNatClampNeg) 3))), (h0, .inr (9, [.ref b1, .ref b2, .ref b3, .ref b4, .int (nI n), .ref b5, .int (nI pn), .ref b6, .ref b7, .ref b8, .int (nI tn), .int (nI (p1_2 + 1)), .int xr, .ref b9, .ref b10, .ref b11, .ref b12, .ref b13, .ref b14, .ref b15, .ref b16, .ref b17, .ref b18, .int ik, .ref b19, .ref b20, .ref b21, .ref b22, .ref b23, .ref b24, .ref b25])), (b8, .inl (Z.2 0, 80, .inl f8))] H := hP
          have hD : va_D A [(b9, .inl (Z.2 0, 24, .inl (upd f9 ((nI a).toNatClampNeg) 3))), (h0, .inr (9, [.ref b1, .ref b2, .ref b3, .ref b4, .int (nI n), .ref b5, .int (nI pn), .ref b6, .ref b7, .ref b8, .int (nI tn), .int (nI (p1_2 + 1)), .int xr, .ref b9, .ref b10, .ref b11, .ref b12, .ref b13, .ref b14, .ref b15, .ref b16, .ref b17, .ref b18, .int ik, .ref b19, .ref b20, .ref b21, .ref b22, .ref b23, .ref b24, .ref b25])), (b8, .inl (Z.2 0, 80, .inl f8))] := hD
          refine lv_aload_n hx hb dX9_readOne_73 rfl (lv_at hl 1 rfl) ?_
          refine va_get (D := Z.1) (ci := 9) (v := .ref b9) (C := RX9) (T := TX9) (N := 31) hx hb hts hin9 hown hK hP 1 rfl rfl 13 (by decide) (hts (.fieldLink RX9 34 "HalfAskedModel" "read" "[I") (by decide +kernel)) (fun _ h9 => h9) rfl dX9_readOne_74 ?_
          refine lv_iload_n hx hb dX9_readOne_77 rfl (lv_at hl 2 rfl) ?_
          refine lv_iconst (v := 1) hx hb dX9_readOne_78 (by decide) ?_
          refine lv_iadd hx hb dX9_readOne_79 ?_
          refine lv_topi (fun f_10 ef_10 => ?_)
          obtain rfl : f_10 = nI (a + 1) := ef_10.trans (nI_1 _)
          refine lv_aload_n hx hb dX9_readOne_80 rfl (lv_at hl 1 rfl) ?_
          refine lv_sipush (v := 9999) hx hb dX9_readOne_81 (by decide) ?_
          have hPc := hP.sub (ws' := [(h0, .inr (9, [.ref b1, .ref b2, .ref b3, .ref b4, .int (nI n), .ref b5, .int (nI pn), .ref b6, .ref b7, .ref b8, .int (nI tn), .int (nI (p1_2 + 1)), .int xr, .ref b9, .ref b10, .ref b11, .ref b12, .ref b13, .ref b14, .ref b15, .ref b16, .ref b17, .ref b18, .int ik, .ref b19, .ref b20, .ref b21, .ref b22, .ref b23, .ref b24, .ref b25])), (b8, .inl (Z.2 0, 80, .inl f8))]) [1, 2] rfl
          have hDc := hD.sub (ws' := [(h0, .inr (9, [.ref b1, .ref b2, .ref b3, .ref b4, .int (nI n), .ref b5, .int (nI pn), .ref b6, .ref b7, .ref b8, .int (nI tn), .int (nI (p1_2 + 1)), .int xr, .ref b9, .ref b10, .ref b11, .ref b12, .ref b13, .ref b14, .ref b15, .ref b16, .ref b17, .ref b18, .int ik, .ref b19, .ref b20, .ref b21, .ref b22, .ref b23, .ref b24, .ref b25])), (b8, .inl (Z.2 0, 80, .inl f8))]) [1, 2] (by decide) rfl
          have hFc := va_free (wc := [(h0, .inr (9, [.ref b1, .ref b2, .ref b3, .ref b4, .int (nI n), .ref b5, .int (nI pn), .ref b6, .ref b7, .ref b8, .int (nI tn), .int (nI (p1_2 + 1)), .int xr, .ref b9, .ref b10, .ref b11, .ref b12, .ref b13, .ref b14, .ref b15, .ref b16, .ref b17, .ref b18, .int ik, .ref b19, .ref b20, .ref b21, .ref b22, .ref b23, .ref b24, .ref b25])), (b8, .inl (Z.2 0, 80, .inl f8))]) hD hS hA [1, 2] rfl
          refine va_calli (va_runV (As := [.int 9999]) (rest := [.int (nI (a + 1)), .ref b9]) ⟨hx, hb, hml, hown, hts⟩ (c_X9_readNumber l Z H.size h0 b1 b2 b3 b4 b5 b6 b7 b8 b9 b10 b11 b12 b13 b14 b15 b16 b17 b18 b19 b20 b21 b22 b23 b24 b25 n pn tn xr ik f8 (p1_2 + 1) 9999 (htn) (by omega)) (cwV 1 hts gX9_readOne_X9_readNumber rfl rfl rfl (by decide +kernel) ⟨Nat.le_of_ble_eq_true rfl, Nat.le_of_ble_eq_true rfl⟩) ⟨fun a U g mk q => by obtain ⟨q0, q1, qP, qK, qD⟩ := q; exact ⟨q0, q1, qP, va_K.moved (u := U) (U := U.calling g mk a) (Vm.Alike.refl U.vm) qK, qD⟩, va_recv hK hPc (ci := 9) (q0 := 0) rfl rfl, fun U hU hW => ⟨rfl, by rw [hU], by rw [hU]; exact hPc, va_K.moved hW.alike hK, hDc.weaken (fun _ _ _ _ => trivial)⟩⟩ rfl rfl hl.1 rfl (lv_room (Nat.le_of_ble_eq_true rfl)) dX9_readOne_84 ⟨Nat.le_of_ble_eq_true rfl, Nat.le_of_ble_eq_true rfl⟩) hS (fun q _ h => hFc q h) hFc (fun r_11 u t9 H1 locs ht hvm hw hB hz1 hk1 hS => ?_)
          obtain ⟨p1_12, rfl⟩ : ∃ z, z = u := ⟨_, rfl⟩
          try dsimp only at hw hB
          have hwr_11 := hw
          obtain ⟨hP1, hD1⟩ := hB
          rw [ht] at hP1
          obtain ⟨hP, hD⟩ := va_join (wr := [(b9, .inl (Z.2 0, 24, .inl (upd f9 ((nI a).toNatClampNeg) 3)))]) (w1 := [(h0, .inr (9, [.ref b1, .ref b2, .ref b3, .ref b4, .int (nI n), .ref b5, .int (nI pn), .ref b6, .ref b7, .ref b8, .int (nI tn), .int (nI p1_12), .int xr, .ref b9, .ref b10, .ref b11, .ref b12, .ref b13, .ref b14, .ref b15, .ref b16, .ref b17, .ref b18, .int ik, .ref b19, .ref b20, .ref b21, .ref b22, .ref b23, .ref b24, .ref b25])), (b8, .inl (Z.2 0, 80, .inl f8))]) hP hD [1, 2] [0] rfl rfl (by decide) (by decide) hk1 hFc hP1 hD1
          clear hPc hDc hP1 hD1 hk1 hz1 hFc ht hvm
          generalize H1 = H at hP hS ⊢
          have hP : va_P Z.1 vwCl [(b9, .inl (Z.2 0, 24, .inl (upd f9 ((nI a).toNatClampNeg) 3))), (h0, .inr (9, [.ref b1, .ref b2, .ref b3, .ref b4, .int (nI n), .ref b5, .int (nI pn), .ref b6, .ref b7, .ref b8, .int (nI tn), .int (nI p1_12), .int xr, .ref b9, .ref b10, .ref b11, .ref b12, .ref b13, .ref b14, .ref b15, .ref b16, .ref b17, .ref b18, .int ik, .ref b19, .ref b20, .ref b21, .ref b22, .ref b23, .ref b24, .ref b25])), (b8, .inl (Z.2 0, 80, .inl f8))] H := hP
          have hD : va_D A [(b9, .inl (Z.2 0, 24, .inl (upd f9 ((nI a).toNatClampNeg) 3))), (h0, .inr (9, [.ref b1, .ref b2, .ref b3, .ref b4, .int (nI n), .ref b5, .int (nI pn), .ref b6, .ref b7, .ref b8, .int (nI tn), .int (nI p1_12), .int xr, .ref b9, .ref b10, .ref b11, .ref b12, .ref b13, .ref b14, .ref b15, .ref b16, .ref b17, .ref b18, .int ik, .ref b19, .ref b20, .ref b21, .ref b22, .ref b23, .ref b24, .ref b25])), (b8, .inl (Z.2 0, 80, .inl f8))] := hD
          have hrn := hwr_11
          refine va_iast hx hb hK hP hD hS 0 0 rfl rfl (vp_in_nI (by omega) (by decide)) dX9_readOne_87 (fun H locs hP hD hS => ?_)
          have hP : va_P Z.1 vwCl [(b9, .inl (Z.2 0, 24, .inl (upd (upd f9 ((nI a).toNatClampNeg) 3) ((nI (a + 1)).toNatClampNeg) r_11))), (h0, .inr (9, [.ref b1, .ref b2, .ref b3, .ref b4, .int (nI n), .ref b5, .int (nI pn), .ref b6, .ref b7, .ref b8, .int (nI tn), .int (nI p1_12), .int xr, .ref b9, .ref b10, .ref b11, .ref b12, .ref b13, .ref b14, .ref b15, .ref b16, .ref b17, .ref b18, .int ik, .ref b19, .ref b20, .ref b21, .ref b22, .ref b23, .ref b24, .ref b25])), (b8, .inl (Z.2 0, 80, .inl f8))] H := hP
          have hD : va_D A [(b9, .inl (Z.2 0, 24, .inl (upd (upd f9 ((nI a).toNatClampNeg) 3) ((nI (a + 1)).toNatClampNeg) r_11))), (h0, .inr (9, [.ref b1, .ref b2, .ref b3, .ref b4, .int (nI n), .ref b5, .int (nI pn), .ref b6, .ref b7, .ref b8, .int (nI tn), .int (nI p1_12), .int xr, .ref b9, .ref b10, .ref b11, .ref b12, .ref b13, .ref b14, .ref b15, .ref b16, .ref b17, .ref b18, .int ik, .ref b19, .ref b20, .ref b21, .ref b22, .ref b23, .ref b24, .ref b25])), (b8, .inl (Z.2 0, 80, .inl f8))] := hD
          refine lv_aload_n hx hb dX9_readOne_88 rfl (lv_at hl 1 rfl) ?_
          refine va_get (D := Z.1) (ci := 9) (v := .ref b9) (C := RX9) (T := TX9) (N := 31) hx hb hts hin9 hown hK hP 1 rfl rfl 13 (by decide) (hts (.fieldLink RX9 34 "HalfAskedModel" "read" "[I") (by decide +kernel)) (fun _ h9 => h9) rfl dX9_readOne_89 ?_
          refine lv_iload_n hx hb dX9_readOne_92 rfl (lv_at hl 2 rfl) ?_
          refine lv_iconst (v := 1) hx hb dX9_readOne_93 (by decide) ?_
          refine lv_iadd hx hb dX9_readOne_94 ?_
          refine lv_topi (fun f_13 ef_13 => ?_)
          obtain rfl : f_13 = nI (a + 1) := ef_13.trans (nI_1 _)
          refine va_iald hx hb hK hP 0 0 rfl rfl (vp_in_nI (by omega) (by decide)) dX9_readOne_95 ?_
          refine lv_topi (fun f_14 ef_14 => ?_)
          obtain rfl : r_11 = f_14 := (ef_14.trans (pk_us)).symm
          refine lv_if_lt (tgt := 103) hx hb dX9_readOne_96 (by decide) (fun c_15 => ?_) (fun c_15 => ?_)
          · refine lv_iconst (v := 0) hx hb dX9_readOne_103 (by decide) ?_
            have hP9 := hP.sub (ws' := [(h0, .inr (9, [.ref b1, .ref b2, .ref b3, .ref b4, .int (nI n), .ref b5, .int (nI pn), .ref b6, .ref b7, .ref b8, .int (nI tn), .int (nI p1_12), .int xr, .ref b9, .ref b10, .ref b11, .ref b12, .ref b13, .ref b14, .ref b15, .ref b16, .ref b17, .ref b18, .int ik, .ref b19, .ref b20, .ref b21, .ref b22, .ref b23, .ref b24, .ref b25])), (b8, .inl (Z.2 0, 80, .inl f8)), (b9, .inl (Z.2 0, 24, .inl (upd (upd f9 ((nI a).toNatClampNeg) 3) ((nI (a + 1)).toNatClampNeg) r_11)))]) [1, 2, 0] rfl
            have hD9 := hD.sub (ws' := [(h0, .inr (9, [.ref b1, .ref b2, .ref b3, .ref b4, .int (nI n), .ref b5, .int (nI pn), .ref b6, .ref b7, .ref b8, .int (nI tn), .int (nI p1_12), .int xr, .ref b9, .ref b10, .ref b11, .ref b12, .ref b13, .ref b14, .ref b15, .ref b16, .ref b17, .ref b18, .int ik, .ref b19, .ref b20, .ref b21, .ref b22, .ref b23, .ref b24, .ref b25])), (b8, .inl (Z.2 0, 80, .inl f8)), (b9, .inl (Z.2 0, 24, .inl (upd (upd f9 ((nI a).toNatClampNeg) 3) ((nI (a + 1)).toNatClampNeg) r_11)))]) [1, 2, 0] (by decide) rfl
            exact W.zret (v := 0) hx hb hr rfl (fun t9 ht hW => ⟨⟨0, (p1_12, upd (upd f9 ((nI a).toNatClampNeg) 3) ((nI (a + 1)).toNatClampNeg) r_11), rfl, ⟨Or.inl rfl, by omega⟩, by rw [ht]; exact hP9, hD9⟩, hS.F ht⟩) hS.2.2 dX9_readOne_104
          · refine lv_iconst (v := 1) hx hb dX9_readOne_99 (by decide) ?_
            refine lv_goto (tgt := 104) hx hb dX9_readOne_100 (by decide) ?_
            have hP9 := hP.sub (ws' := [(h0, .inr (9, [.ref b1, .ref b2, .ref b3, .ref b4, .int (nI n), .ref b5, .int (nI pn), .ref b6, .ref b7, .ref b8, .int (nI tn), .int (nI p1_12), .int xr, .ref b9, .ref b10, .ref b11, .ref b12, .ref b13, .ref b14, .ref b15, .ref b16, .ref b17, .ref b18, .int ik, .ref b19, .ref b20, .ref b21, .ref b22, .ref b23, .ref b24, .ref b25])), (b8, .inl (Z.2 0, 80, .inl f8)), (b9, .inl (Z.2 0, 24, .inl (upd (upd f9 ((nI a).toNatClampNeg) 3) ((nI (a + 1)).toNatClampNeg) r_11)))]) [1, 2, 0] rfl
            have hD9 := hD.sub (ws' := [(h0, .inr (9, [.ref b1, .ref b2, .ref b3, .ref b4, .int (nI n), .ref b5, .int (nI pn), .ref b6, .ref b7, .ref b8, .int (nI tn), .int (nI p1_12), .int xr, .ref b9, .ref b10, .ref b11, .ref b12, .ref b13, .ref b14, .ref b15, .ref b16, .ref b17, .ref b18, .int ik, .ref b19, .ref b20, .ref b21, .ref b22, .ref b23, .ref b24, .ref b25])), (b8, .inl (Z.2 0, 80, .inl f8)), (b9, .inl (Z.2 0, 24, .inl (upd (upd f9 ((nI a).toNatClampNeg) 3) ((nI (a + 1)).toNatClampNeg) r_11)))]) [1, 2, 0] (by decide) rfl
            exact W.zret (v := 1) hx hb hr rfl (fun t9 ht hW => ⟨⟨1, (p1_12, upd (upd f9 ((nI a).toNatClampNeg) 3) ((nI (a + 1)).toNatClampNeg) r_11), rfl, ⟨Or.inr rfl, by omega⟩, by rw [ht]; exact hP9, hD9⟩, hS.F ht⟩) hS.2.2 dX9_readOne_104
      · refine lv_iconst (v := 2) hx hb dX9_readOne_36 (by decide) ?_
        refine lv_goto (tgt := 51) hx hb dX9_readOne_37 (by decide) ?_
        refine va_iast hx hb hK hP hD hS 0 0 rfl rfl (vp_in_nI (by omega) (by decide)) dX9_readOne_51 (fun H locs hP hD hS => ?_)
        have hP : va_P Z.1 vwCl [(b9, .inl (Z.2 0, 24, .inl (upd f9 ((nI a).toNatClampNeg) 2))), (h0, .inr (9, [.ref b1, .ref b2, .ref b3, .ref b4, .int (nI n), .ref b5, .int (nI pn), .ref b6, .ref b7, .ref b8, .int (nI tn), .int (nI p1_2), .int xr, .ref b9, .ref b10, .ref b11, .ref b12, .ref b13, .ref b14, .ref b15, .ref b16, .ref b17, .ref b18, .int ik, .ref b19, .ref b20, .ref b21, .ref b22, .ref b23, .ref b24, .ref b25])), (b8, .inl (Z.2 0, 80, .inl f8))] H := hP
        have hD : va_D A [(b9, .inl (Z.2 0, 24, .inl (upd f9 ((nI a).toNatClampNeg) 2))), (h0, .inr (9, [.ref b1, .ref b2, .ref b3, .ref b4, .int (nI n), .ref b5, .int (nI pn), .ref b6, .ref b7, .ref b8, .int (nI tn), .int (nI p1_2), .int xr, .ref b9, .ref b10, .ref b11, .ref b12, .ref b13, .ref b14, .ref b15, .ref b16, .ref b17, .ref b18, .int ik, .ref b19, .ref b20, .ref b21, .ref b22, .ref b23, .ref b24, .ref b25])), (b8, .inl (Z.2 0, 80, .inl f8))] := hD
        refine lv_aload_n hx hb dX9_readOne_52 rfl (lv_at hl 1 rfl) ?_
        refine va_get (D := Z.1) (ci := 9) (v := .ref b9) (C := RX9) (T := TX9) (N := 31) hx hb hts hin9 hown hK hP 1 rfl rfl 13 (by decide) (hts (.fieldLink RX9 34 "HalfAskedModel" "read" "[I") (by decide +kernel)) (fun _ h9 => h9) rfl dX9_readOne_53 ?_
        refine lv_iload_n hx hb dX9_readOne_56 rfl (lv_at hl 2 rfl) ?_
        refine va_iald hx hb hK hP 0 0 rfl rfl (vp_in_nI (by omega) (by decide)) dX9_readOne_57 ?_
        refine lv_topi (fun f_16 ef_16 => ?_)
        obtain rfl : f_16 = 2 := ef_16.trans (pk_us)
        refine lv_if_ge (tgt := 63) hx hb dX9_readOne_58 (by decide) (fun _ => ?_) (fun c9 => absurd c9 (by decide))
        have hq16 := hnb.1 (z_eqm1 c_5 (by decide))
        refine lv_aload_n hx hb dX9_readOne_63 rfl (lv_at hl 1 rfl) ?_
        refine lv_dup hx hb dX9_readOne_64 rfl ?_
        refine va_get (D := Z.1) (ci := 9) (v := .int (nI p1_2)) (C := RX9) (T := TX9) (N := 31) hx hb hts hin9 hown hK hP 1 rfl rfl 11 (by decide) (hts (.fieldLink RX9 153 "HalfAskedModel" "place" "I") (by decide +kernel)) (fun _ h9 => h9) rfl dX9_readOne_65 ?_
        refine lv_iconst (v := 1) hx hb dX9_readOne_68 (by decide) ?_
        refine lv_iadd hx hb dX9_readOne_69 ?_
        refine lv_topi (fun f_17 ef_17 => ?_)
        obtain rfl : f_17 = nI (p1_2 + 1) := ef_17.trans (nI_1 _)
        refine va_put (D := Z.1) (ci := 9) (v := .int (nI (p1_2 + 1))) (ty := .int) (C := RX9) (T := TX9) (N := 31) hx hb hts hin9 tyX9 tyX9_ok nmX9 hown hK hP hD hS 1 rfl rfl 11 (by decide) (hts (.fieldLink RX9 153 "HalfAskedModel" "place" "I") (by decide +kernel)) (fun _ h9 => h9) rfl (by decide +kernel) rfl rfl (Nat.le_of_ble_eq_true rfl) dX9_readOne_70 (fun H locs hP hD hS => ?_)
        have hP : va_P Z.1 vwCl [(b9, .inl (Z.2 0, 24, .inl (upd f9 ((nI a).toNatClampNeg) 2))), (h0, .inr (9, [.ref b1, .ref b2, .ref b3, .ref b4, .int (nI n), .ref b5, .int (nI pn), .ref b6, .ref b7, .ref b8, .int (nI tn), .int (nI (p1_2 + 1)), .int xr, .ref b9, .ref b10, .ref b11, .ref b12, .ref b13, .ref b14, .ref b15, .ref b16, .ref b17, .ref b18, .int ik, .ref b19, .ref b20, .ref b21, .ref b22, .ref b23, .ref b24, .ref b25])), (b8, .inl (Z.2 0, 80, .inl f8))] H := hP
        have hD : va_D A [(b9, .inl (Z.2 0, 24, .inl (upd f9 ((nI a).toNatClampNeg) 2))), (h0, .inr (9, [.ref b1, .ref b2, .ref b3, .ref b4, .int (nI n), .ref b5, .int (nI pn), .ref b6, .ref b7, .ref b8, .int (nI tn), .int (nI (p1_2 + 1)), .int xr, .ref b9, .ref b10, .ref b11, .ref b12, .ref b13, .ref b14, .ref b15, .ref b16, .ref b17, .ref b18, .int ik, .ref b19, .ref b20, .ref b21, .ref b22, .ref b23, .ref b24, .ref b25])), (b8, .inl (Z.2 0, 80, .inl f8))] := hD
        refine lv_aload_n hx hb dX9_readOne_73 rfl (lv_at hl 1 rfl) ?_
        refine va_get (D := Z.1) (ci := 9) (v := .ref b9) (C := RX9) (T := TX9) (N := 31) hx hb hts hin9 hown hK hP 1 rfl rfl 13 (by decide) (hts (.fieldLink RX9 34 "HalfAskedModel" "read" "[I") (by decide +kernel)) (fun _ h9 => h9) rfl dX9_readOne_74 ?_
        refine lv_iload_n hx hb dX9_readOne_77 rfl (lv_at hl 2 rfl) ?_
        refine lv_iconst (v := 1) hx hb dX9_readOne_78 (by decide) ?_
        refine lv_iadd hx hb dX9_readOne_79 ?_
        refine lv_topi (fun f_18 ef_18 => ?_)
        obtain rfl : f_18 = nI (a + 1) := ef_18.trans (nI_1 _)
        refine lv_aload_n hx hb dX9_readOne_80 rfl (lv_at hl 1 rfl) ?_
        refine lv_sipush (v := 9999) hx hb dX9_readOne_81 (by decide) ?_
        have hPc := hP.sub (ws' := [(h0, .inr (9, [.ref b1, .ref b2, .ref b3, .ref b4, .int (nI n), .ref b5, .int (nI pn), .ref b6, .ref b7, .ref b8, .int (nI tn), .int (nI (p1_2 + 1)), .int xr, .ref b9, .ref b10, .ref b11, .ref b12, .ref b13, .ref b14, .ref b15, .ref b16, .ref b17, .ref b18, .int ik, .ref b19, .ref b20, .ref b21, .ref b22, .ref b23, .ref b24, .ref b25])), (b8, .inl (Z.2 0, 80, .inl f8))]) [1, 2] rfl
        have hDc := hD.sub (ws' := [(h0, .inr (9, [.ref b1, .ref b2, .ref b3, .ref b4, .int (nI n), .ref b5, .int (nI pn), .ref b6, .ref b7, .ref b8, .int (nI tn), .int (nI (p1_2 + 1)), .int xr, .ref b9, .ref b10, .ref b11, .ref b12, .ref b13, .ref b14, .ref b15, .ref b16, .ref b17, .ref b18, .int ik, .ref b19, .ref b20, .ref b21, .ref b22, .ref b23, .ref b24, .ref b25])), (b8, .inl (Z.2 0, 80, .inl f8))]) [1, 2] (by decide) rfl
        have hFc := va_free (wc := [(h0, .inr (9, [.ref b1, .ref b2, .ref b3, .ref b4, .int (nI n), .ref b5, .int (nI pn), .ref b6, .ref b7, .ref b8, .int (nI tn), .int (nI (p1_2 + 1)), .int xr, .ref b9, .ref b10, .ref b11, .ref b12, .ref b13, .ref b14, .ref b15, .ref b16, .ref b17, .ref b18, .int ik, .ref b19, .ref b20, .ref b21, .ref b22, .ref b23, .ref b24, .ref b25])), (b8, .inl (Z.2 0, 80, .inl f8))]) hD hS hA [1, 2] rfl
        refine va_calli (va_runV (As := [.int 9999]) (rest := [.int (nI (a + 1)), .ref b9]) ⟨hx, hb, hml, hown, hts⟩ (c_X9_readNumber l Z H.size h0 b1 b2 b3 b4 b5 b6 b7 b8 b9 b10 b11 b12 b13 b14 b15 b16 b17 b18 b19 b20 b21 b22 b23 b24 b25 n pn tn xr ik f8 (p1_2 + 1) 9999 (htn) (by omega)) (cwV 1 hts gX9_readOne_X9_readNumber rfl rfl rfl (by decide +kernel) ⟨Nat.le_of_ble_eq_true rfl, Nat.le_of_ble_eq_true rfl⟩) ⟨fun a U g mk q => by obtain ⟨q0, q1, qP, qK, qD⟩ := q; exact ⟨q0, q1, qP, va_K.moved (u := U) (U := U.calling g mk a) (Vm.Alike.refl U.vm) qK, qD⟩, va_recv hK hPc (ci := 9) (q0 := 0) rfl rfl, fun U hU hW => ⟨rfl, by rw [hU], by rw [hU]; exact hPc, va_K.moved hW.alike hK, hDc.weaken (fun _ _ _ _ => trivial)⟩⟩ rfl rfl hl.1 rfl (lv_room (Nat.le_of_ble_eq_true rfl)) dX9_readOne_84 ⟨Nat.le_of_ble_eq_true rfl, Nat.le_of_ble_eq_true rfl⟩) hS (fun q _ h => hFc q h) hFc (fun r_19 u t9 H1 locs ht hvm hw hB hz1 hk1 hS => ?_)
        obtain ⟨p1_20, rfl⟩ : ∃ z, z = u := ⟨_, rfl⟩
        try dsimp only at hw hB
        have hwr_19 := hw
        obtain ⟨hP1, hD1⟩ := hB
        rw [ht] at hP1
        obtain ⟨hP, hD⟩ := va_join (wr := [(b9, .inl (Z.2 0, 24, .inl (upd f9 ((nI a).toNatClampNeg) 2)))]) (w1 := [(h0, .inr (9, [.ref b1, .ref b2, .ref b3, .ref b4, .int (nI n), .ref b5, .int (nI pn), .ref b6, .ref b7, .ref b8, .int (nI tn), .int (nI p1_20), .int xr, .ref b9, .ref b10, .ref b11, .ref b12, .ref b13, .ref b14, .ref b15, .ref b16, .ref b17, .ref b18, .int ik, .ref b19, .ref b20, .ref b21, .ref b22, .ref b23, .ref b24, .ref b25])), (b8, .inl (Z.2 0, 80, .inl f8))]) hP hD [1, 2] [0] rfl rfl (by decide) (by decide) hk1 hFc hP1 hD1
        clear hPc hDc hP1 hD1 hk1 hz1 hFc ht hvm
        generalize H1 = H at hP hS ⊢
        have hP : va_P Z.1 vwCl [(b9, .inl (Z.2 0, 24, .inl (upd f9 ((nI a).toNatClampNeg) 2))), (h0, .inr (9, [.ref b1, .ref b2, .ref b3, .ref b4, .int (nI n), .ref b5, .int (nI pn), .ref b6, .ref b7, .ref b8, .int (nI tn), .int (nI p1_20), .int xr, .ref b9, .ref b10, .ref b11, .ref b12, .ref b13, .ref b14, .ref b15, .ref b16, .ref b17, .ref b18, .int ik, .ref b19, .ref b20, .ref b21, .ref b22, .ref b23, .ref b24, .ref b25])), (b8, .inl (Z.2 0, 80, .inl f8))] H := hP
        have hD : va_D A [(b9, .inl (Z.2 0, 24, .inl (upd f9 ((nI a).toNatClampNeg) 2))), (h0, .inr (9, [.ref b1, .ref b2, .ref b3, .ref b4, .int (nI n), .ref b5, .int (nI pn), .ref b6, .ref b7, .ref b8, .int (nI tn), .int (nI p1_20), .int xr, .ref b9, .ref b10, .ref b11, .ref b12, .ref b13, .ref b14, .ref b15, .ref b16, .ref b17, .ref b18, .int ik, .ref b19, .ref b20, .ref b21, .ref b22, .ref b23, .ref b24, .ref b25])), (b8, .inl (Z.2 0, 80, .inl f8))] := hD
        have hrn := hwr_19
        refine va_iast hx hb hK hP hD hS 0 0 rfl rfl (vp_in_nI (by omega) (by decide)) dX9_readOne_87 (fun H locs hP hD hS => ?_)
        have hP : va_P Z.1 vwCl [(b9, .inl (Z.2 0, 24, .inl (upd (upd f9 ((nI a).toNatClampNeg) 2) ((nI (a + 1)).toNatClampNeg) r_19))), (h0, .inr (9, [.ref b1, .ref b2, .ref b3, .ref b4, .int (nI n), .ref b5, .int (nI pn), .ref b6, .ref b7, .ref b8, .int (nI tn), .int (nI p1_20), .int xr, .ref b9, .ref b10, .ref b11, .ref b12, .ref b13, .ref b14, .ref b15, .ref b16, .ref b17, .ref b18, .int ik, .ref b19, .ref b20, .ref b21, .ref b22, .ref b23, .ref b24, .ref b25])), (b8, .inl (Z.2 0, 80, .inl f8))] H := hP
        have hD : va_D A [(b9, .inl (Z.2 0, 24, .inl (upd (upd f9 ((nI a).toNatClampNeg) 2) ((nI (a + 1)).toNatClampNeg) r_19))), (h0, .inr (9, [.ref b1, .ref b2, .ref b3, .ref b4, .int (nI n), .ref b5, .int (nI pn), .ref b6, .ref b7, .ref b8, .int (nI tn), .int (nI p1_20), .int xr, .ref b9, .ref b10, .ref b11, .ref b12, .ref b13, .ref b14, .ref b15, .ref b16, .ref b17, .ref b18, .int ik, .ref b19, .ref b20, .ref b21, .ref b22, .ref b23, .ref b24, .ref b25])), (b8, .inl (Z.2 0, 80, .inl f8))] := hD
        refine lv_aload_n hx hb dX9_readOne_88 rfl (lv_at hl 1 rfl) ?_
        refine va_get (D := Z.1) (ci := 9) (v := .ref b9) (C := RX9) (T := TX9) (N := 31) hx hb hts hin9 hown hK hP 1 rfl rfl 13 (by decide) (hts (.fieldLink RX9 34 "HalfAskedModel" "read" "[I") (by decide +kernel)) (fun _ h9 => h9) rfl dX9_readOne_89 ?_
        refine lv_iload_n hx hb dX9_readOne_92 rfl (lv_at hl 2 rfl) ?_
        refine lv_iconst (v := 1) hx hb dX9_readOne_93 (by decide) ?_
        refine lv_iadd hx hb dX9_readOne_94 ?_
        refine lv_topi (fun f_21 ef_21 => ?_)
        obtain rfl : f_21 = nI (a + 1) := ef_21.trans (nI_1 _)
        refine va_iald hx hb hK hP 0 0 rfl rfl (vp_in_nI (by omega) (by decide)) dX9_readOne_95 ?_
        refine lv_topi (fun f_22 ef_22 => ?_)
        obtain rfl : r_19 = f_22 := (ef_22.trans (pk_us)).symm
        refine lv_if_lt (tgt := 103) hx hb dX9_readOne_96 (by decide) (fun c_23 => ?_) (fun c_23 => ?_)
        · refine lv_iconst (v := 0) hx hb dX9_readOne_103 (by decide) ?_
          have hP9 := hP.sub (ws' := [(h0, .inr (9, [.ref b1, .ref b2, .ref b3, .ref b4, .int (nI n), .ref b5, .int (nI pn), .ref b6, .ref b7, .ref b8, .int (nI tn), .int (nI p1_20), .int xr, .ref b9, .ref b10, .ref b11, .ref b12, .ref b13, .ref b14, .ref b15, .ref b16, .ref b17, .ref b18, .int ik, .ref b19, .ref b20, .ref b21, .ref b22, .ref b23, .ref b24, .ref b25])), (b8, .inl (Z.2 0, 80, .inl f8)), (b9, .inl (Z.2 0, 24, .inl (upd (upd f9 ((nI a).toNatClampNeg) 2) ((nI (a + 1)).toNatClampNeg) r_19)))]) [1, 2, 0] rfl
          have hD9 := hD.sub (ws' := [(h0, .inr (9, [.ref b1, .ref b2, .ref b3, .ref b4, .int (nI n), .ref b5, .int (nI pn), .ref b6, .ref b7, .ref b8, .int (nI tn), .int (nI p1_20), .int xr, .ref b9, .ref b10, .ref b11, .ref b12, .ref b13, .ref b14, .ref b15, .ref b16, .ref b17, .ref b18, .int ik, .ref b19, .ref b20, .ref b21, .ref b22, .ref b23, .ref b24, .ref b25])), (b8, .inl (Z.2 0, 80, .inl f8)), (b9, .inl (Z.2 0, 24, .inl (upd (upd f9 ((nI a).toNatClampNeg) 2) ((nI (a + 1)).toNatClampNeg) r_19)))]) [1, 2, 0] (by decide) rfl
          exact W.zret (v := 0) hx hb hr rfl (fun t9 ht hW => ⟨⟨0, (p1_20, upd (upd f9 ((nI a).toNatClampNeg) 2) ((nI (a + 1)).toNatClampNeg) r_19), rfl, ⟨Or.inl rfl, by omega⟩, by rw [ht]; exact hP9, hD9⟩, hS.F ht⟩) hS.2.2 dX9_readOne_104
        · refine lv_iconst (v := 1) hx hb dX9_readOne_99 (by decide) ?_
          refine lv_goto (tgt := 104) hx hb dX9_readOne_100 (by decide) ?_
          have hP9 := hP.sub (ws' := [(h0, .inr (9, [.ref b1, .ref b2, .ref b3, .ref b4, .int (nI n), .ref b5, .int (nI pn), .ref b6, .ref b7, .ref b8, .int (nI tn), .int (nI p1_20), .int xr, .ref b9, .ref b10, .ref b11, .ref b12, .ref b13, .ref b14, .ref b15, .ref b16, .ref b17, .ref b18, .int ik, .ref b19, .ref b20, .ref b21, .ref b22, .ref b23, .ref b24, .ref b25])), (b8, .inl (Z.2 0, 80, .inl f8)), (b9, .inl (Z.2 0, 24, .inl (upd (upd f9 ((nI a).toNatClampNeg) 2) ((nI (a + 1)).toNatClampNeg) r_19)))]) [1, 2, 0] rfl
          have hD9 := hD.sub (ws' := [(h0, .inr (9, [.ref b1, .ref b2, .ref b3, .ref b4, .int (nI n), .ref b5, .int (nI pn), .ref b6, .ref b7, .ref b8, .int (nI tn), .int (nI p1_20), .int xr, .ref b9, .ref b10, .ref b11, .ref b12, .ref b13, .ref b14, .ref b15, .ref b16, .ref b17, .ref b18, .int ik, .ref b19, .ref b20, .ref b21, .ref b22, .ref b23, .ref b24, .ref b25])), (b8, .inl (Z.2 0, 80, .inl f8)), (b9, .inl (Z.2 0, 24, .inl (upd (upd f9 ((nI a).toNatClampNeg) 2) ((nI (a + 1)).toNatClampNeg) r_19)))]) [1, 2, 0] (by decide) rfl
          exact W.zret (v := 1) hx hb hr rfl (fun t9 ht hW => ⟨⟨1, (p1_20, upd (upd f9 ((nI a).toNatClampNeg) 2) ((nI (a + 1)).toNatClampNeg) r_19), rfl, ⟨Or.inr rfl, by omega⟩, by rw [ht]; exact hP9, hD9⟩, hS.F ht⟩) hS.2.2 dX9_readOne_104
    · refine lv_iconst (v := 1) hx hb dX9_readOne_26 (by decide) ?_
      refine lv_goto (tgt := 51) hx hb dX9_readOne_27 (by decide) ?_
      refine va_iast hx hb hK hP hD hS 0 0 rfl rfl (vp_in_nI (by omega) (by decide)) dX9_readOne_51 (fun H locs hP hD hS => ?_)
      have hP : va_P Z.1 vwCl [(b9, .inl (Z.2 0, 24, .inl (upd f9 ((nI a).toNatClampNeg) 1))), (h0, .inr (9, [.ref b1, .ref b2, .ref b3, .ref b4, .int (nI n), .ref b5, .int (nI pn), .ref b6, .ref b7, .ref b8, .int (nI tn), .int (nI p1_2), .int xr, .ref b9, .ref b10, .ref b11, .ref b12, .ref b13, .ref b14, .ref b15, .ref b16, .ref b17, .ref b18, .int ik, .ref b19, .ref b20, .ref b21, .ref b22, .ref b23, .ref b24, .ref b25])), (b8, .inl (Z.2 0, 80, .inl f8))] H := hP
      have hD : va_D A [(b9, .inl (Z.2 0, 24, .inl (upd f9 ((nI a).toNatClampNeg) 1))), (h0, .inr (9, [.ref b1, .ref b2, .ref b3, .ref b4, .int (nI n), .ref b5, .int (nI pn), .ref b6, .ref b7, .ref b8, .int (nI tn), .int (nI p1_2), .int xr, .ref b9, .ref b10, .ref b11, .ref b12, .ref b13, .ref b14, .ref b15, .ref b16, .ref b17, .ref b18, .int ik, .ref b19, .ref b20, .ref b21, .ref b22, .ref b23, .ref b24, .ref b25])), (b8, .inl (Z.2 0, 80, .inl f8))] := hD
      refine lv_aload_n hx hb dX9_readOne_52 rfl (lv_at hl 1 rfl) ?_
      refine va_get (D := Z.1) (ci := 9) (v := .ref b9) (C := RX9) (T := TX9) (N := 31) hx hb hts hin9 hown hK hP 1 rfl rfl 13 (by decide) (hts (.fieldLink RX9 34 "HalfAskedModel" "read" "[I") (by decide +kernel)) (fun _ h9 => h9) rfl dX9_readOne_53 ?_
      refine lv_iload_n hx hb dX9_readOne_56 rfl (lv_at hl 2 rfl) ?_
      refine va_iald hx hb hK hP 0 0 rfl rfl (vp_in_nI (by omega) (by decide)) dX9_readOne_57 ?_
      refine lv_topi (fun f_24 ef_24 => ?_)
      obtain rfl : f_24 = 1 := ef_24.trans (pk_us)
      refine lv_if_ge (tgt := 63) hx hb dX9_readOne_58 (by decide) (fun _ => ?_) (fun c9 => absurd c9 (by decide))
      have hq24 := hnb.1 (z_eqm1 c_4 (by decide))
      refine lv_aload_n hx hb dX9_readOne_63 rfl (lv_at hl 1 rfl) ?_
      refine lv_dup hx hb dX9_readOne_64 rfl ?_
      refine va_get (D := Z.1) (ci := 9) (v := .int (nI p1_2)) (C := RX9) (T := TX9) (N := 31) hx hb hts hin9 hown hK hP 1 rfl rfl 11 (by decide) (hts (.fieldLink RX9 153 "HalfAskedModel" "place" "I") (by decide +kernel)) (fun _ h9 => h9) rfl dX9_readOne_65 ?_
      refine lv_iconst (v := 1) hx hb dX9_readOne_68 (by decide) ?_
      refine lv_iadd hx hb dX9_readOne_69 ?_
      refine lv_topi (fun f_25 ef_25 => ?_)
      obtain rfl : f_25 = nI (p1_2 + 1) := ef_25.trans (nI_1 _)
      refine va_put (D := Z.1) (ci := 9) (v := .int (nI (p1_2 + 1))) (ty := .int) (C := RX9) (T := TX9) (N := 31) hx hb hts hin9 tyX9 tyX9_ok nmX9 hown hK hP hD hS 1 rfl rfl 11 (by decide) (hts (.fieldLink RX9 153 "HalfAskedModel" "place" "I") (by decide +kernel)) (fun _ h9 => h9) rfl (by decide +kernel) rfl rfl (Nat.le_of_ble_eq_true rfl) dX9_readOne_70 (fun H locs hP hD hS => ?_)
      have hP : va_P Z.1 vwCl [(b9, .inl (Z.2 0, 24, .inl (upd f9 ((nI a).toNatClampNeg) 1))), (h0, .inr (9, [.ref b1, .ref b2, .ref b3, .ref b4, .int (nI n), .ref b5, .int (nI pn), .ref b6, .ref b7, .ref b8, .int (nI tn), .int (nI (p1_2 + 1)), .int xr, .ref b9, .ref b10, .ref b11, .ref b12, .ref b13, .ref b14, .ref b15, .ref b16, .ref b17, .ref b18, .int ik, .ref b19, .ref b20, .ref b21, .ref b22, .ref b23, .ref b24, .ref b25])), (b8, .inl (Z.2 0, 80, .inl f8))] H := hP
      have hD : va_D A [(b9, .inl (Z.2 0, 24, .inl (upd f9 ((nI a).toNatClampNeg) 1))), (h0, .inr (9, [.ref b1, .ref b2, .ref b3, .ref b4, .int (nI n), .ref b5, .int (nI pn), .ref b6, .ref b7, .ref b8, .int (nI tn), .int (nI (p1_2 + 1)), .int xr, .ref b9, .ref b10, .ref b11, .ref b12, .ref b13, .ref b14, .ref b15, .ref b16, .ref b17, .ref b18, .int ik, .ref b19, .ref b20, .ref b21, .ref b22, .ref b23, .ref b24, .ref b25])), (b8, .inl (Z.2 0, 80, .inl f8))] := hD
      refine lv_aload_n hx hb dX9_readOne_73 rfl (lv_at hl 1 rfl) ?_
      refine va_get (D := Z.1) (ci := 9) (v := .ref b9) (C := RX9) (T := TX9) (N := 31) hx hb hts hin9 hown hK hP 1 rfl rfl 13 (by decide) (hts (.fieldLink RX9 34 "HalfAskedModel" "read" "[I") (by decide +kernel)) (fun _ h9 => h9) rfl dX9_readOne_74 ?_
      refine lv_iload_n hx hb dX9_readOne_77 rfl (lv_at hl 2 rfl) ?_
      refine lv_iconst (v := 1) hx hb dX9_readOne_78 (by decide) ?_
      refine lv_iadd hx hb dX9_readOne_79 ?_
      refine lv_topi (fun f_26 ef_26 => ?_)
      obtain rfl : f_26 = nI (a + 1) := ef_26.trans (nI_1 _)
      refine lv_aload_n hx hb dX9_readOne_80 rfl (lv_at hl 1 rfl) ?_
      refine lv_sipush (v := 9999) hx hb dX9_readOne_81 (by decide) ?_
      have hPc := hP.sub (ws' := [(h0, .inr (9, [.ref b1, .ref b2, .ref b3, .ref b4, .int (nI n), .ref b5, .int (nI pn), .ref b6, .ref b7, .ref b8, .int (nI tn), .int (nI (p1_2 + 1)), .int xr, .ref b9, .ref b10, .ref b11, .ref b12, .ref b13, .ref b14, .ref b15, .ref b16, .ref b17, .ref b18, .int ik, .ref b19, .ref b20, .ref b21, .ref b22, .ref b23, .ref b24, .ref b25])), (b8, .inl (Z.2 0, 80, .inl f8))]) [1, 2] rfl
      have hDc := hD.sub (ws' := [(h0, .inr (9, [.ref b1, .ref b2, .ref b3, .ref b4, .int (nI n), .ref b5, .int (nI pn), .ref b6, .ref b7, .ref b8, .int (nI tn), .int (nI (p1_2 + 1)), .int xr, .ref b9, .ref b10, .ref b11, .ref b12, .ref b13, .ref b14, .ref b15, .ref b16, .ref b17, .ref b18, .int ik, .ref b19, .ref b20, .ref b21, .ref b22, .ref b23, .ref b24, .ref b25])), (b8, .inl (Z.2 0, 80, .inl f8))]) [1, 2] (by decide) rfl
      have hFc := va_free (wc := [(h0, .inr (9, [.ref b1, .ref b2, .ref b3, .ref b4, .int (nI n), .ref b5, .int (nI pn), .ref b6, .ref b7, .ref b8, .int (nI tn), .int (nI (p1_2 + 1)), .int xr, .ref b9, .ref b10, .ref b11, .ref b12, .ref b13, .ref b14, .ref b15, .ref b16, .ref b17, .ref b18, .int ik, .ref b19, .ref b20, .ref b21, .ref b22, .ref b23, .ref b24, .ref b25])), (b8, .inl (Z.2 0, 80, .inl f8))]) hD hS hA [1, 2] rfl
      refine va_calli (va_runV (As := [.int 9999]) (rest := [.int (nI (a + 1)), .ref b9]) ⟨hx, hb, hml, hown, hts⟩ (c_X9_readNumber l Z H.size h0 b1 b2 b3 b4 b5 b6 b7 b8 b9 b10 b11 b12 b13 b14 b15 b16 b17 b18 b19 b20 b21 b22 b23 b24 b25 n pn tn xr ik f8 (p1_2 + 1) 9999 (htn) (by omega)) (cwV 1 hts gX9_readOne_X9_readNumber rfl rfl rfl (by decide +kernel) ⟨Nat.le_of_ble_eq_true rfl, Nat.le_of_ble_eq_true rfl⟩) ⟨fun a U g mk q => by obtain ⟨q0, q1, qP, qK, qD⟩ := q; exact ⟨q0, q1, qP, va_K.moved (u := U) (U := U.calling g mk a) (Vm.Alike.refl U.vm) qK, qD⟩, va_recv hK hPc (ci := 9) (q0 := 0) rfl rfl, fun U hU hW => ⟨rfl, by rw [hU], by rw [hU]; exact hPc, va_K.moved hW.alike hK, hDc.weaken (fun _ _ _ _ => trivial)⟩⟩ rfl rfl hl.1 rfl (lv_room (Nat.le_of_ble_eq_true rfl)) dX9_readOne_84 ⟨Nat.le_of_ble_eq_true rfl, Nat.le_of_ble_eq_true rfl⟩) hS (fun q _ h => hFc q h) hFc (fun r_27 u t9 H1 locs ht hvm hw hB hz1 hk1 hS => ?_)
      obtain ⟨p1_28, rfl⟩ : ∃ z, z = u := ⟨_, rfl⟩
      try dsimp only at hw hB
      have hwr_27 := hw
      obtain ⟨hP1, hD1⟩ := hB
      rw [ht] at hP1
      obtain ⟨hP, hD⟩ := va_join (wr := [(b9, .inl (Z.2 0, 24, .inl (upd f9 ((nI a).toNatClampNeg) 1)))]) (w1 := [(h0, .inr (9, [.ref b1, .ref b2, .ref b3, .ref b4, .int (nI n), .ref b5, .int (nI pn), .ref b6, .ref b7, .ref b8, .int (nI tn), .int (nI p1_28), .int xr, .ref b9, .ref b10, .ref b11, .ref b12, .ref b13, .ref b14, .ref b15, .ref b16, .ref b17, .ref b18, .int ik, .ref b19, .ref b20, .ref b21, .ref b22, .ref b23, .ref b24, .ref b25])), (b8, .inl (Z.2 0, 80, .inl f8))]) hP hD [1, 2] [0] rfl rfl (by decide) (by decide) hk1 hFc hP1 hD1
      clear hPc hDc hP1 hD1 hk1 hz1 hFc ht hvm
      generalize H1 = H at hP hS ⊢
      have hP : va_P Z.1 vwCl [(b9, .inl (Z.2 0, 24, .inl (upd f9 ((nI a).toNatClampNeg) 1))), (h0, .inr (9, [.ref b1, .ref b2, .ref b3, .ref b4, .int (nI n), .ref b5, .int (nI pn), .ref b6, .ref b7, .ref b8, .int (nI tn), .int (nI p1_28), .int xr, .ref b9, .ref b10, .ref b11, .ref b12, .ref b13, .ref b14, .ref b15, .ref b16, .ref b17, .ref b18, .int ik, .ref b19, .ref b20, .ref b21, .ref b22, .ref b23, .ref b24, .ref b25])), (b8, .inl (Z.2 0, 80, .inl f8))] H := hP
      have hD : va_D A [(b9, .inl (Z.2 0, 24, .inl (upd f9 ((nI a).toNatClampNeg) 1))), (h0, .inr (9, [.ref b1, .ref b2, .ref b3, .ref b4, .int (nI n), .ref b5, .int (nI pn), .ref b6, .ref b7, .ref b8, .int (nI tn), .int (nI p1_28), .int xr, .ref b9, .ref b10, .ref b11, .ref b12, .ref b13, .ref b14, .ref b15, .ref b16, .ref b17, .ref b18, .int ik, .ref b19, .ref b20, .ref b21, .ref b22, .ref b23, .ref b24, .ref b25])), (b8, .inl (Z.2 0, 80, .inl f8))] := hD
      have hrn := hwr_27
      refine va_iast hx hb hK hP hD hS 0 0 rfl rfl (vp_in_nI (by omega) (by decide)) dX9_readOne_87 (fun H locs hP hD hS => ?_)
      have hP : va_P Z.1 vwCl [(b9, .inl (Z.2 0, 24, .inl (upd (upd f9 ((nI a).toNatClampNeg) 1) ((nI (a + 1)).toNatClampNeg) r_27))), (h0, .inr (9, [.ref b1, .ref b2, .ref b3, .ref b4, .int (nI n), .ref b5, .int (nI pn), .ref b6, .ref b7, .ref b8, .int (nI tn), .int (nI p1_28), .int xr, .ref b9, .ref b10, .ref b11, .ref b12, .ref b13, .ref b14, .ref b15, .ref b16, .ref b17, .ref b18, .int ik, .ref b19, .ref b20, .ref b21, .ref b22, .ref b23, .ref b24, .ref b25])), (b8, .inl (Z.2 0, 80, .inl f8))] H := hP
      have hD : va_D A [(b9, .inl (Z.2 0, 24, .inl (upd (upd f9 ((nI a).toNatClampNeg) 1) ((nI (a + 1)).toNatClampNeg) r_27))), (h0, .inr (9, [.ref b1, .ref b2, .ref b3, .ref b4, .int (nI n), .ref b5, .int (nI pn), .ref b6, .ref b7, .ref b8, .int (nI tn), .int (nI p1_28), .int xr, .ref b9, .ref b10, .ref b11, .ref b12, .ref b13, .ref b14, .ref b15, .ref b16, .ref b17, .ref b18, .int ik, .ref b19, .ref b20, .ref b21, .ref b22, .ref b23, .ref b24, .ref b25])), (b8, .inl (Z.2 0, 80, .inl f8))] := hD
      refine lv_aload_n hx hb dX9_readOne_88 rfl (lv_at hl 1 rfl) ?_
      refine va_get (D := Z.1) (ci := 9) (v := .ref b9) (C := RX9) (T := TX9) (N := 31) hx hb hts hin9 hown hK hP 1 rfl rfl 13 (by decide) (hts (.fieldLink RX9 34 "HalfAskedModel" "read" "[I") (by decide +kernel)) (fun _ h9 => h9) rfl dX9_readOne_89 ?_
      refine lv_iload_n hx hb dX9_readOne_92 rfl (lv_at hl 2 rfl) ?_
      refine lv_iconst (v := 1) hx hb dX9_readOne_93 (by decide) ?_
      refine lv_iadd hx hb dX9_readOne_94 ?_
      refine lv_topi (fun f_29 ef_29 => ?_)
      obtain rfl : f_29 = nI (a + 1) := ef_29.trans (nI_1 _)
      refine va_iald hx hb hK hP 0 0 rfl rfl (vp_in_nI (by omega) (by decide)) dX9_readOne_95 ?_
      refine lv_topi (fun f_30 ef_30 => ?_)
      obtain rfl : r_27 = f_30 := (ef_30.trans (pk_us)).symm
      refine lv_if_lt (tgt := 103) hx hb dX9_readOne_96 (by decide) (fun c_31 => ?_) (fun c_31 => ?_)
      · refine lv_iconst (v := 0) hx hb dX9_readOne_103 (by decide) ?_
        have hP9 := hP.sub (ws' := [(h0, .inr (9, [.ref b1, .ref b2, .ref b3, .ref b4, .int (nI n), .ref b5, .int (nI pn), .ref b6, .ref b7, .ref b8, .int (nI tn), .int (nI p1_28), .int xr, .ref b9, .ref b10, .ref b11, .ref b12, .ref b13, .ref b14, .ref b15, .ref b16, .ref b17, .ref b18, .int ik, .ref b19, .ref b20, .ref b21, .ref b22, .ref b23, .ref b24, .ref b25])), (b8, .inl (Z.2 0, 80, .inl f8)), (b9, .inl (Z.2 0, 24, .inl (upd (upd f9 ((nI a).toNatClampNeg) 1) ((nI (a + 1)).toNatClampNeg) r_27)))]) [1, 2, 0] rfl
        have hD9 := hD.sub (ws' := [(h0, .inr (9, [.ref b1, .ref b2, .ref b3, .ref b4, .int (nI n), .ref b5, .int (nI pn), .ref b6, .ref b7, .ref b8, .int (nI tn), .int (nI p1_28), .int xr, .ref b9, .ref b10, .ref b11, .ref b12, .ref b13, .ref b14, .ref b15, .ref b16, .ref b17, .ref b18, .int ik, .ref b19, .ref b20, .ref b21, .ref b22, .ref b23, .ref b24, .ref b25])), (b8, .inl (Z.2 0, 80, .inl f8)), (b9, .inl (Z.2 0, 24, .inl (upd (upd f9 ((nI a).toNatClampNeg) 1) ((nI (a + 1)).toNatClampNeg) r_27)))]) [1, 2, 0] (by decide) rfl
        exact W.zret (v := 0) hx hb hr rfl (fun t9 ht hW => ⟨⟨0, (p1_28, upd (upd f9 ((nI a).toNatClampNeg) 1) ((nI (a + 1)).toNatClampNeg) r_27), rfl, ⟨Or.inl rfl, by omega⟩, by rw [ht]; exact hP9, hD9⟩, hS.F ht⟩) hS.2.2 dX9_readOne_104
      · refine lv_iconst (v := 1) hx hb dX9_readOne_99 (by decide) ?_
        refine lv_goto (tgt := 104) hx hb dX9_readOne_100 (by decide) ?_
        have hP9 := hP.sub (ws' := [(h0, .inr (9, [.ref b1, .ref b2, .ref b3, .ref b4, .int (nI n), .ref b5, .int (nI pn), .ref b6, .ref b7, .ref b8, .int (nI tn), .int (nI p1_28), .int xr, .ref b9, .ref b10, .ref b11, .ref b12, .ref b13, .ref b14, .ref b15, .ref b16, .ref b17, .ref b18, .int ik, .ref b19, .ref b20, .ref b21, .ref b22, .ref b23, .ref b24, .ref b25])), (b8, .inl (Z.2 0, 80, .inl f8)), (b9, .inl (Z.2 0, 24, .inl (upd (upd f9 ((nI a).toNatClampNeg) 1) ((nI (a + 1)).toNatClampNeg) r_27)))]) [1, 2, 0] rfl
        have hD9 := hD.sub (ws' := [(h0, .inr (9, [.ref b1, .ref b2, .ref b3, .ref b4, .int (nI n), .ref b5, .int (nI pn), .ref b6, .ref b7, .ref b8, .int (nI tn), .int (nI p1_28), .int xr, .ref b9, .ref b10, .ref b11, .ref b12, .ref b13, .ref b14, .ref b15, .ref b16, .ref b17, .ref b18, .int ik, .ref b19, .ref b20, .ref b21, .ref b22, .ref b23, .ref b24, .ref b25])), (b8, .inl (Z.2 0, 80, .inl f8)), (b9, .inl (Z.2 0, 24, .inl (upd (upd f9 ((nI a).toNatClampNeg) 1) ((nI (a + 1)).toNatClampNeg) r_27)))]) [1, 2, 0] (by decide) rfl
        exact W.zret (v := 1) hx hb hr rfl (fun t9 ht hW => ⟨⟨1, (p1_28, upd (upd f9 ((nI a).toNatClampNeg) 1) ((nI (a + 1)).toNatClampNeg) r_27), rfl, ⟨Or.inr rfl, by omega⟩, by rw [ht]; exact hP9, hD9⟩, hS.F ht⟩) hS.2.2 dX9_readOne_104
  · refine lv_iconst (v := 0) hx hb dX9_readOne_16 (by decide) ?_
    refine lv_goto (tgt := 51) hx hb dX9_readOne_17 (by decide) ?_
    refine va_iast hx hb hK hP hD hS 0 0 rfl rfl (vp_in_nI (by omega) (by decide)) dX9_readOne_51 (fun H locs hP hD hS => ?_)
    have hP : va_P Z.1 vwCl [(b9, .inl (Z.2 0, 24, .inl (upd f9 ((nI a).toNatClampNeg) 0))), (h0, .inr (9, [.ref b1, .ref b2, .ref b3, .ref b4, .int (nI n), .ref b5, .int (nI pn), .ref b6, .ref b7, .ref b8, .int (nI tn), .int (nI p1_2), .int xr, .ref b9, .ref b10, .ref b11, .ref b12, .ref b13, .ref b14, .ref b15, .ref b16, .ref b17, .ref b18, .int ik, .ref b19, .ref b20, .ref b21, .ref b22, .ref b23, .ref b24, .ref b25])), (b8, .inl (Z.2 0, 80, .inl f8))] H := hP
    have hD : va_D A [(b9, .inl (Z.2 0, 24, .inl (upd f9 ((nI a).toNatClampNeg) 0))), (h0, .inr (9, [.ref b1, .ref b2, .ref b3, .ref b4, .int (nI n), .ref b5, .int (nI pn), .ref b6, .ref b7, .ref b8, .int (nI tn), .int (nI p1_2), .int xr, .ref b9, .ref b10, .ref b11, .ref b12, .ref b13, .ref b14, .ref b15, .ref b16, .ref b17, .ref b18, .int ik, .ref b19, .ref b20, .ref b21, .ref b22, .ref b23, .ref b24, .ref b25])), (b8, .inl (Z.2 0, 80, .inl f8))] := hD
    refine lv_aload_n hx hb dX9_readOne_52 rfl (lv_at hl 1 rfl) ?_
    refine va_get (D := Z.1) (ci := 9) (v := .ref b9) (C := RX9) (T := TX9) (N := 31) hx hb hts hin9 hown hK hP 1 rfl rfl 13 (by decide) (hts (.fieldLink RX9 34 "HalfAskedModel" "read" "[I") (by decide +kernel)) (fun _ h9 => h9) rfl dX9_readOne_53 ?_
    refine lv_iload_n hx hb dX9_readOne_56 rfl (lv_at hl 2 rfl) ?_
    refine va_iald hx hb hK hP 0 0 rfl rfl (vp_in_nI (by omega) (by decide)) dX9_readOne_57 ?_
    refine lv_topi (fun f_32 ef_32 => ?_)
    obtain rfl : f_32 = 0 := ef_32.trans (pk_us)
    refine lv_if_ge (tgt := 63) hx hb dX9_readOne_58 (by decide) (fun _ => ?_) (fun c9 => absurd c9 (by decide))
    have hq32 := hnb.1 (z_eqm1 c_3 (by decide))
    refine lv_aload_n hx hb dX9_readOne_63 rfl (lv_at hl 1 rfl) ?_
    refine lv_dup hx hb dX9_readOne_64 rfl ?_
    refine va_get (D := Z.1) (ci := 9) (v := .int (nI p1_2)) (C := RX9) (T := TX9) (N := 31) hx hb hts hin9 hown hK hP 1 rfl rfl 11 (by decide) (hts (.fieldLink RX9 153 "HalfAskedModel" "place" "I") (by decide +kernel)) (fun _ h9 => h9) rfl dX9_readOne_65 ?_
    refine lv_iconst (v := 1) hx hb dX9_readOne_68 (by decide) ?_
    refine lv_iadd hx hb dX9_readOne_69 ?_
    refine lv_topi (fun f_33 ef_33 => ?_)
    obtain rfl : f_33 = nI (p1_2 + 1) := ef_33.trans (nI_1 _)
    refine va_put (D := Z.1) (ci := 9) (v := .int (nI (p1_2 + 1))) (ty := .int) (C := RX9) (T := TX9) (N := 31) hx hb hts hin9 tyX9 tyX9_ok nmX9 hown hK hP hD hS 1 rfl rfl 11 (by decide) (hts (.fieldLink RX9 153 "HalfAskedModel" "place" "I") (by decide +kernel)) (fun _ h9 => h9) rfl (by decide +kernel) rfl rfl (Nat.le_of_ble_eq_true rfl) dX9_readOne_70 (fun H locs hP hD hS => ?_)
    have hP : va_P Z.1 vwCl [(b9, .inl (Z.2 0, 24, .inl (upd f9 ((nI a).toNatClampNeg) 0))), (h0, .inr (9, [.ref b1, .ref b2, .ref b3, .ref b4, .int (nI n), .ref b5, .int (nI pn), .ref b6, .ref b7, .ref b8, .int (nI tn), .int (nI (p1_2 + 1)), .int xr, .ref b9, .ref b10, .ref b11, .ref b12, .ref b13, .ref b14, .ref b15, .ref b16, .ref b17, .ref b18, .int ik, .ref b19, .ref b20, .ref b21, .ref b22, .ref b23, .ref b24, .ref b25])), (b8, .inl (Z.2 0, 80, .inl f8))] H := hP
    have hD : va_D A [(b9, .inl (Z.2 0, 24, .inl (upd f9 ((nI a).toNatClampNeg) 0))), (h0, .inr (9, [.ref b1, .ref b2, .ref b3, .ref b4, .int (nI n), .ref b5, .int (nI pn), .ref b6, .ref b7, .ref b8, .int (nI tn), .int (nI (p1_2 + 1)), .int xr, .ref b9, .ref b10, .ref b11, .ref b12, .ref b13, .ref b14, .ref b15, .ref b16, .ref b17, .ref b18, .int ik, .ref b19, .ref b20, .ref b21, .ref b22, .ref b23, .ref b24, .ref b25])), (b8, .inl (Z.2 0, 80, .inl f8))] := hD
    refine lv_aload_n hx hb dX9_readOne_73 rfl (lv_at hl 1 rfl) ?_
    refine va_get (D := Z.1) (ci := 9) (v := .ref b9) (C := RX9) (T := TX9) (N := 31) hx hb hts hin9 hown hK hP 1 rfl rfl 13 (by decide) (hts (.fieldLink RX9 34 "HalfAskedModel" "read" "[I") (by decide +kernel)) (fun _ h9 => h9) rfl dX9_readOne_74 ?_
    refine lv_iload_n hx hb dX9_readOne_77 rfl (lv_at hl 2 rfl) ?_
    refine lv_iconst (v := 1) hx hb dX9_readOne_78 (by decide) ?_
    refine lv_iadd hx hb dX9_readOne_79 ?_
    refine lv_topi (fun f_34 ef_34 => ?_)
    obtain rfl : f_34 = nI (a + 1) := ef_34.trans (nI_1 _)
    refine lv_aload_n hx hb dX9_readOne_80 rfl (lv_at hl 1 rfl) ?_
    refine lv_sipush (v := 9999) hx hb dX9_readOne_81 (by decide) ?_
    have hPc := hP.sub (ws' := [(h0, .inr (9, [.ref b1, .ref b2, .ref b3, .ref b4, .int (nI n), .ref b5, .int (nI pn), .ref b6, .ref b7, .ref b8, .int (nI tn), .int (nI (p1_2 + 1)), .int xr, .ref b9, .ref b10, .ref b11, .ref b12, .ref b13, .ref b14, .ref b15, .ref b16, .ref b17, .ref b18, .int ik, .ref b19, .ref b20, .ref b21, .ref b22, .ref b23, .ref b24, .ref b25])), (b8, .inl (Z.2 0, 80, .inl f8))]) [1, 2] rfl
    have hDc := hD.sub (ws' := [(h0, .inr (9, [.ref b1, .ref b2, .ref b3, .ref b4, .int (nI n), .ref b5, .int (nI pn), .ref b6, .ref b7, .ref b8, .int (nI tn), .int (nI (p1_2 + 1)), .int xr, .ref b9, .ref b10, .ref b11, .ref b12, .ref b13, .ref b14, .ref b15, .ref b16, .ref b17, .ref b18, .int ik, .ref b19, .ref b20, .ref b21, .ref b22, .ref b23, .ref b24, .ref b25])), (b8, .inl (Z.2 0, 80, .inl f8))]) [1, 2] (by decide) rfl
    have hFc := va_free (wc := [(h0, .inr (9, [.ref b1, .ref b2, .ref b3, .ref b4, .int (nI n), .ref b5, .int (nI pn), .ref b6, .ref b7, .ref b8, .int (nI tn), .int (nI (p1_2 + 1)), .int xr, .ref b9, .ref b10, .ref b11, .ref b12, .ref b13, .ref b14, .ref b15, .ref b16, .ref b17, .ref b18, .int ik, .ref b19, .ref b20, .ref b21, .ref b22, .ref b23, .ref b24, .ref b25])), (b8, .inl (Z.2 0, 80, .inl f8))]) hD hS hA [1, 2] rfl
    refine va_calli (va_runV (As := [.int 9999]) (rest := [.int (nI (a + 1)), .ref b9]) ⟨hx, hb, hml, hown, hts⟩ (c_X9_readNumber l Z H.size h0 b1 b2 b3 b4 b5 b6 b7 b8 b9 b10 b11 b12 b13 b14 b15 b16 b17 b18 b19 b20 b21 b22 b23 b24 b25 n pn tn xr ik f8 (p1_2 + 1) 9999 (htn) (by omega)) (cwV 1 hts gX9_readOne_X9_readNumber rfl rfl rfl (by decide +kernel) ⟨Nat.le_of_ble_eq_true rfl, Nat.le_of_ble_eq_true rfl⟩) ⟨fun a U g mk q => by obtain ⟨q0, q1, qP, qK, qD⟩ := q; exact ⟨q0, q1, qP, va_K.moved (u := U) (U := U.calling g mk a) (Vm.Alike.refl U.vm) qK, qD⟩, va_recv hK hPc (ci := 9) (q0 := 0) rfl rfl, fun U hU hW => ⟨rfl, by rw [hU], by rw [hU]; exact hPc, va_K.moved hW.alike hK, hDc.weaken (fun _ _ _ _ => trivial)⟩⟩ rfl rfl hl.1 rfl (lv_room (Nat.le_of_ble_eq_true rfl)) dX9_readOne_84 ⟨Nat.le_of_ble_eq_true rfl, Nat.le_of_ble_eq_true rfl⟩) hS (fun q _ h => hFc q h) hFc (fun r_35 u t9 H1 locs ht hvm hw hB hz1 hk1 hS => ?_)
    obtain ⟨p1_36, rfl⟩ : ∃ z, z = u := ⟨_, rfl⟩
    try dsimp only at hw hB
    have hwr_35 := hw
    obtain ⟨hP1, hD1⟩ := hB
    rw [ht] at hP1
    obtain ⟨hP, hD⟩ := va_join (wr := [(b9, .inl (Z.2 0, 24, .inl (upd f9 ((nI a).toNatClampNeg) 0)))]) (w1 := [(h0, .inr (9, [.ref b1, .ref b2, .ref b3, .ref b4, .int (nI n), .ref b5, .int (nI pn), .ref b6, .ref b7, .ref b8, .int (nI tn), .int (nI p1_36), .int xr, .ref b9, .ref b10, .ref b11, .ref b12, .ref b13, .ref b14, .ref b15, .ref b16, .ref b17, .ref b18, .int ik, .ref b19, .ref b20, .ref b21, .ref b22, .ref b23, .ref b24, .ref b25])), (b8, .inl (Z.2 0, 80, .inl f8))]) hP hD [1, 2] [0] rfl rfl (by decide) (by decide) hk1 hFc hP1 hD1
    clear hPc hDc hP1 hD1 hk1 hz1 hFc ht hvm
    generalize H1 = H at hP hS ⊢
    have hP : va_P Z.1 vwCl [(b9, .inl (Z.2 0, 24, .inl (upd f9 ((nI a).toNatClampNeg) 0))), (h0, .inr (9, [.ref b1, .ref b2, .ref b3, .ref b4, .int (nI n), .ref b5, .int (nI pn), .ref b6, .ref b7, .ref b8, .int (nI tn), .int (nI p1_36), .int xr, .ref b9, .ref b10, .ref b11, .ref b12, .ref b13, .ref b14, .ref b15, .ref b16, .ref b17, .ref b18, .int ik, .ref b19, .ref b20, .ref b21, .ref b22, .ref b23, .ref b24, .ref b25])), (b8, .inl (Z.2 0, 80, .inl f8))] H := hP
    have hD : va_D A [(b9, .inl (Z.2 0, 24, .inl (upd f9 ((nI a).toNatClampNeg) 0))), (h0, .inr (9, [.ref b1, .ref b2, .ref b3, .ref b4, .int (nI n), .ref b5, .int (nI pn), .ref b6, .ref b7, .ref b8, .int (nI tn), .int (nI p1_36), .int xr, .ref b9, .ref b10, .ref b11, .ref b12, .ref b13, .ref b14, .ref b15, .ref b16, .ref b17, .ref b18, .int ik, .ref b19, .ref b20, .ref b21, .ref b22, .ref b23, .ref b24, .ref b25])), (b8, .inl (Z.2 0, 80, .inl f8))] := hD
    have hrn := hwr_35
    refine va_iast hx hb hK hP hD hS 0 0 rfl rfl (vp_in_nI (by omega) (by decide)) dX9_readOne_87 (fun H locs hP hD hS => ?_)
    have hP : va_P Z.1 vwCl [(b9, .inl (Z.2 0, 24, .inl (upd (upd f9 ((nI a).toNatClampNeg) 0) ((nI (a + 1)).toNatClampNeg) r_35))), (h0, .inr (9, [.ref b1, .ref b2, .ref b3, .ref b4, .int (nI n), .ref b5, .int (nI pn), .ref b6, .ref b7, .ref b8, .int (nI tn), .int (nI p1_36), .int xr, .ref b9, .ref b10, .ref b11, .ref b12, .ref b13, .ref b14, .ref b15, .ref b16, .ref b17, .ref b18, .int ik, .ref b19, .ref b20, .ref b21, .ref b22, .ref b23, .ref b24, .ref b25])), (b8, .inl (Z.2 0, 80, .inl f8))] H := hP
    have hD : va_D A [(b9, .inl (Z.2 0, 24, .inl (upd (upd f9 ((nI a).toNatClampNeg) 0) ((nI (a + 1)).toNatClampNeg) r_35))), (h0, .inr (9, [.ref b1, .ref b2, .ref b3, .ref b4, .int (nI n), .ref b5, .int (nI pn), .ref b6, .ref b7, .ref b8, .int (nI tn), .int (nI p1_36), .int xr, .ref b9, .ref b10, .ref b11, .ref b12, .ref b13, .ref b14, .ref b15, .ref b16, .ref b17, .ref b18, .int ik, .ref b19, .ref b20, .ref b21, .ref b22, .ref b23, .ref b24, .ref b25])), (b8, .inl (Z.2 0, 80, .inl f8))] := hD
    refine lv_aload_n hx hb dX9_readOne_88 rfl (lv_at hl 1 rfl) ?_
    refine va_get (D := Z.1) (ci := 9) (v := .ref b9) (C := RX9) (T := TX9) (N := 31) hx hb hts hin9 hown hK hP 1 rfl rfl 13 (by decide) (hts (.fieldLink RX9 34 "HalfAskedModel" "read" "[I") (by decide +kernel)) (fun _ h9 => h9) rfl dX9_readOne_89 ?_
    refine lv_iload_n hx hb dX9_readOne_92 rfl (lv_at hl 2 rfl) ?_
    refine lv_iconst (v := 1) hx hb dX9_readOne_93 (by decide) ?_
    refine lv_iadd hx hb dX9_readOne_94 ?_
    refine lv_topi (fun f_37 ef_37 => ?_)
    obtain rfl : f_37 = nI (a + 1) := ef_37.trans (nI_1 _)
    refine va_iald hx hb hK hP 0 0 rfl rfl (vp_in_nI (by omega) (by decide)) dX9_readOne_95 ?_
    refine lv_topi (fun f_38 ef_38 => ?_)
    obtain rfl : r_35 = f_38 := (ef_38.trans (pk_us)).symm
    refine lv_if_lt (tgt := 103) hx hb dX9_readOne_96 (by decide) (fun c_39 => ?_) (fun c_39 => ?_)
    · refine lv_iconst (v := 0) hx hb dX9_readOne_103 (by decide) ?_
      have hP9 := hP.sub (ws' := [(h0, .inr (9, [.ref b1, .ref b2, .ref b3, .ref b4, .int (nI n), .ref b5, .int (nI pn), .ref b6, .ref b7, .ref b8, .int (nI tn), .int (nI p1_36), .int xr, .ref b9, .ref b10, .ref b11, .ref b12, .ref b13, .ref b14, .ref b15, .ref b16, .ref b17, .ref b18, .int ik, .ref b19, .ref b20, .ref b21, .ref b22, .ref b23, .ref b24, .ref b25])), (b8, .inl (Z.2 0, 80, .inl f8)), (b9, .inl (Z.2 0, 24, .inl (upd (upd f9 ((nI a).toNatClampNeg) 0) ((nI (a + 1)).toNatClampNeg) r_35)))]) [1, 2, 0] rfl
      have hD9 := hD.sub (ws' := [(h0, .inr (9, [.ref b1, .ref b2, .ref b3, .ref b4, .int (nI n), .ref b5, .int (nI pn), .ref b6, .ref b7, .ref b8, .int (nI tn), .int (nI p1_36), .int xr, .ref b9, .ref b10, .ref b11, .ref b12, .ref b13, .ref b14, .ref b15, .ref b16, .ref b17, .ref b18, .int ik, .ref b19, .ref b20, .ref b21, .ref b22, .ref b23, .ref b24, .ref b25])), (b8, .inl (Z.2 0, 80, .inl f8)), (b9, .inl (Z.2 0, 24, .inl (upd (upd f9 ((nI a).toNatClampNeg) 0) ((nI (a + 1)).toNatClampNeg) r_35)))]) [1, 2, 0] (by decide) rfl
      exact W.zret (v := 0) hx hb hr rfl (fun t9 ht hW => ⟨⟨0, (p1_36, upd (upd f9 ((nI a).toNatClampNeg) 0) ((nI (a + 1)).toNatClampNeg) r_35), rfl, ⟨Or.inl rfl, by omega⟩, by rw [ht]; exact hP9, hD9⟩, hS.F ht⟩) hS.2.2 dX9_readOne_104
    · refine lv_iconst (v := 1) hx hb dX9_readOne_99 (by decide) ?_
      refine lv_goto (tgt := 104) hx hb dX9_readOne_100 (by decide) ?_
      have hP9 := hP.sub (ws' := [(h0, .inr (9, [.ref b1, .ref b2, .ref b3, .ref b4, .int (nI n), .ref b5, .int (nI pn), .ref b6, .ref b7, .ref b8, .int (nI tn), .int (nI p1_36), .int xr, .ref b9, .ref b10, .ref b11, .ref b12, .ref b13, .ref b14, .ref b15, .ref b16, .ref b17, .ref b18, .int ik, .ref b19, .ref b20, .ref b21, .ref b22, .ref b23, .ref b24, .ref b25])), (b8, .inl (Z.2 0, 80, .inl f8)), (b9, .inl (Z.2 0, 24, .inl (upd (upd f9 ((nI a).toNatClampNeg) 0) ((nI (a + 1)).toNatClampNeg) r_35)))]) [1, 2, 0] rfl
      have hD9 := hD.sub (ws' := [(h0, .inr (9, [.ref b1, .ref b2, .ref b3, .ref b4, .int (nI n), .ref b5, .int (nI pn), .ref b6, .ref b7, .ref b8, .int (nI tn), .int (nI p1_36), .int xr, .ref b9, .ref b10, .ref b11, .ref b12, .ref b13, .ref b14, .ref b15, .ref b16, .ref b17, .ref b18, .int ik, .ref b19, .ref b20, .ref b21, .ref b22, .ref b23, .ref b24, .ref b25])), (b8, .inl (Z.2 0, 80, .inl f8)), (b9, .inl (Z.2 0, 24, .inl (upd (upd f9 ((nI a).toNatClampNeg) 0) ((nI (a + 1)).toNatClampNeg) r_35)))]) [1, 2, 0] (by decide) rfl
      exact W.zret (v := 1) hx hb hr rfl (fun t9 ht hW => ⟨⟨1, (p1_36, upd (upd f9 ((nI a).toNatClampNeg) 0) ((nI (a + 1)).toNatClampNeg) r_35), rfl, ⟨Or.inr rfl, by omega⟩, by rw [ht]; exact hP9, hD9⟩, hS.F ht⟩) hS.2.2 dX9_readOne_104
