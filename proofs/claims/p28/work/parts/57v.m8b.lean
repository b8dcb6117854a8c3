theorem z_row5a {f g : Nat → Int32} {p z : Nat} (hp : p < 1000) (hz : z < p) : upd (upd (upd (upd (upd f (nI (p + 0)).toNatClampNeg (g 0)) (nI (p + 1)).toNatClampNeg (g 1)) (nI (p + 2)).toNatClampNeg (g 2)) (nI (p + 3)).toNatClampNeg (g 3)) (nI (p + 4)).toNatClampNeg (g 4) z = f z := by
  rw [nI_clamp (show p + 0 < 2 ^ 31 by omega), nI_clamp (show p + 1 < 2 ^ 31 by omega), nI_clamp (show p + 2 < 2 ^ 31 by omega), nI_clamp (show p + 3 < 2 ^ 31 by omega), nI_clamp (show p + 4 < 2 ^ 31 by omega), pk_un (by omega), pk_un (by omega), pk_un (by omega), pk_un (by omega), pk_un (by omega)]
theorem z_row5b {f g : Nat → Int32} {p w : Nat} (hp : p < 1000) (hw : w < 5) : upd (upd (upd (upd (upd f (nI (p + 0)).toNatClampNeg (g 0)) (nI (p + 1)).toNatClampNeg (g 1)) (nI (p + 2)).toNatClampNeg (g 2)) (nI (p + 3)).toNatClampNeg (g 3)) (nI (p + 4)).toNatClampNeg (g 4) (p + w) = g w := by
  rw [nI_clamp (show p + 0 < 2 ^ 31 by omega), nI_clamp (show p + 1 < 2 ^ 31 by omega), nI_clamp (show p + 2 < 2 ^ 31 by omega), nI_clamp (show p + 3 < 2 ^ 31 by omega), nI_clamp (show p + 4 < 2 ^ 31 by omega)]
  rcases (show w = 0 ∨ w = 1 ∨ w = 2 ∨ w = 3 ∨ w = 4 by omega) with rfl | rfl | rfl | rfl | rfl
  · rw [pk_un (by omega), pk_un (by omega), pk_un (by omega), pk_un (by omega), pk_us]
  · rw [pk_un (by omega), pk_un (by omega), pk_un (by omega), pk_us]
  · rw [pk_un (by omega), pk_un (by omega), pk_us]
  · rw [pk_un (by omega), pk_us]
  · rw [pk_us]
theorem z_betA {f14 : Nat → Int32} {t : Nat} (ht : t ≤ 4) (h : f14 (nI (5 * t)).toNatClampNeg < 0) : tmBet f14 t := by
  rw [nI_clamp (by omega)] at h
  exact Or.inl h
theorem z_betB {f14 : Nat → Int32} {t : Nat} (ht : t ≤ 4) (h : ¬ f14 (nI (5 * (t + 1) + t)).toNatClampNeg ≤ f14 (nI (5 * t + t)).toNatClampNeg) : tmBet f14 t := by
  rw [nI_clamp (show 5 * (t + 1) + t < 2 ^ 31 by omega), nI_clamp (show 5 * t + t < 2 ^ 31 by omega)] at h
  exact Or.inr (Int32.not_le.mp h)
theorem z_betC {f14 : Nat → Int32} {t : Nat} (ht : t ≤ 4) (h1 : ¬ f14 (nI (5 * t)).toNatClampNeg < 0) (h2 : f14 (nI (5 * (t + 1) + t)).toNatClampNeg ≤ f14 (nI (5 * t + t)).toNatClampNeg) : ¬ tmBet f14 t := by
  rw [nI_clamp (by omega)] at h1
  rw [nI_clamp (show 5 * (t + 1) + t < 2 ^ 31 by omega), nI_clamp (show 5 * t + t < 2 ^ 31 by omega)] at h2
  rintro (k | k)
  · exact h1 k
  · exact Int32.not_lt.mpr h2 k
theorem z_giveA {f13 f14 f15 : Nat → Int32} {t : Nat} (ht : t ≤ 4) (hb : tmBet f14 t) : tmG t f13 f14 f15 (upd (upd (upd (upd (upd f14 (nI (5 * t + 0)).toNatClampNeg ((fun w => f14 (5 * (t + 1) + w)) 0)) (nI (5 * t + 1)).toNatClampNeg ((fun w => f14 (5 * (t + 1) + w)) 1)) (nI (5 * t + 2)).toNatClampNeg ((fun w => f14 (5 * (t + 1) + w)) 2)) (nI (5 * t + 3)).toNatClampNeg ((fun w => f14 (5 * (t + 1) + w)) 3)) (nI (5 * t + 4)).toNatClampNeg ((fun w => f14 (5 * (t + 1) + w)) 4)) (upd (upd (upd (upd (upd (upd f15 (nI (5 * t + 0)).toNatClampNeg ((fun w => f15 (5 * (t + 1) + w)) 0)) (nI (5 * t + 1)).toNatClampNeg ((fun w => f15 (5 * (t + 1) + w)) 1)) (nI (5 * t + 2)).toNatClampNeg ((fun w => f15 (5 * (t + 1) + w)) 2)) (nI (5 * t + 3)).toNatClampNeg ((fun w => f15 (5 * (t + 1) + w)) 3)) (nI (5 * t + 4)).toNatClampNeg ((fun w => f15 (5 * (t + 1) + w)) 4)) (nI (5 * t + t)).toNatClampNeg (f13 (nI t).toNatClampNeg)) := by
  rw [nI_clamp (show 5 * t + t < 2 ^ 31 by omega), nI_clamp (show t < 2 ^ 31 by omega)]
  refine Or.inl ⟨hb, fun z hz => ⟨z_row5a (g := fun w => f14 (5 * (t + 1) + w)) (by omega) hz, ?_⟩, fun w hw => z_row5b (g := fun w => f14 (5 * (t + 1) + w)) (by omega) hw, fun w hw hne => ?_, pk_us⟩
  · rw [pk_un (by omega)]
    exact z_row5a (g := fun w => f15 (5 * (t + 1) + w)) (by omega) hz
  · rw [pk_un (by omega)]
    exact z_row5b (g := fun w => f15 (5 * (t + 1) + w)) (by omega) hw
set_option maxHeartbeats 4000000 in
set_option maxRecDepth 100000 in
theorem c_X9_giveBack (l : Launch) (Z : gZ) (sz : Nat) (h0 : Nat) (b1 : Nat) (b2 : Nat) (b3 : Nat) (b4 : Nat) (b5 : Nat) (b6 : Nat) (b7 : Nat) (b8 : Nat) (b9 : Nat) (b10 : Nat) (b11 : Nat) (b12 : Nat) (b13 : Nat) (b14 : Nat) (b15 : Nat) (b16 : Nat) (b17 : Nat) (b18 : Nat) (b19 : Nat) (b20 : Nat) (b21 : Nat) (b22 : Nat) (b23 : Nat) (b24 : Nat) (b25 : Nat) (n : Nat) (pn : Nat) (tn : Nat) (xp : Int32) (xr : Int32) (ik : Int32) (f13 : Nat → Int32) (f14 : Nat → Int32) (f15 : Nat → Int32) (t : Nat) (ht : t ≤ 4) : Met l yX9_giveBack wsX9_giveBack ({ frames := 0, cells := 0, slots := 0, locals := 0 }) (va_Pc [.ref h0, .int (nI (t + 1))] (fun U => U.heap.size = sz ∧ va_P Z.1 vwCl [(h0, .inr (9, [.ref b1, .ref b2, .ref b3, .ref b4, .int (nI n), .ref b5, .int (nI pn), .ref b6, .ref b7, .ref b8, .int (nI tn), .int xp, .int xr, .ref b9, .ref b10, .ref b11, .ref b12, .ref b13, .ref b14, .ref b15, .ref b16, .ref b17, .ref b18, .int ik, .ref b19, .ref b20, .ref b21, .ref b22, .ref b23, .ref b24, .ref b25])), (b13, .inl (Z.2 0, 6, .inl f13)), (b14, .inl (Z.2 0, 30, .inl f14)), (b15, .inl (Z.2 0, 30, .inl f15))] U.heap ∧ va_K Z.1 vwCl (gT Z) U ∧ va_D (fun _ => True) [(h0, .inr (9, [.ref b1, .ref b2, .ref b3, .ref b4, .int (nI n), .ref b5, .int (nI pn), .ref b6, .ref b7, .ref b8, .int (nI tn), .int xp, .int xr, .ref b9, .ref b10, .ref b11, .ref b12, .ref b13, .ref b14, .ref b15, .ref b16, .ref b17, .ref b18, .int ik, .ref b19, .ref b20, .ref b21, .ref b22, .ref b23, .ref b24, .ref b25])), (b13, .inl (Z.2 0, 6, .inl f13)), (b14, .inl (Z.2 0, 30, .inl f14)), (b15, .inl (Z.2 0, 30, .inl f15))])) (va_Qv (fun (u : (Nat → Int32) × (Nat → Int32)) => match u with | (g14, g15) => tmG t f13 f14 f15 g14 g15) (fun (u : (Nat → Int32) × (Nat → Int32)) (t9 : State) => match u with | (g14, g15) => va_P Z.1 vwCl [(h0, .inr (9, [.ref b1, .ref b2, .ref b3, .ref b4, .int (nI n), .ref b5, .int (nI pn), .ref b6, .ref b7, .ref b8, .int (nI tn), .int xp, .int xr, .ref b9, .ref b10, .ref b11, .ref b12, .ref b13, .ref b14, .ref b15, .ref b16, .ref b17, .ref b18, .int ik, .ref b19, .ref b20, .ref b21, .ref b22, .ref b23, .ref b24, .ref b25])), (b13, .inl (Z.2 0, 6, .inl f13)), (b14, .inl (Z.2 0, 30, .inl g14)), (b15, .inl (Z.2 0, 30, .inl g15))] t9.heap ∧ va_D (va_A [(h0, .inr (9, [.ref b1, .ref b2, .ref b3, .ref b4, .int (nI n), .ref b5, .int (nI pn), .ref b6, .ref b7, .ref b8, .int (nI tn), .int xp, .int xr, .ref b9, .ref b10, .ref b11, .ref b12, .ref b13, .ref b14, .ref b15, .ref b16, .ref b17, .ref b18, .int ik, .ref b19, .ref b20, .ref b21, .ref b22, .ref b23, .ref b24, .ref b25])), (b13, .inl (Z.2 0, 6, .inl f13)), (b14, .inl (Z.2 0, 30, .inl f14)), (b15, .inl (Z.2 0, 30, .inl f15))] sz) [(h0, .inr (9, [.ref b1, .ref b2, .ref b3, .ref b4, .int (nI n), .ref b5, .int (nI pn), .ref b6, .ref b7, .ref b8, .int (nI tn), .int xp, .int xr, .ref b9, .ref b10, .ref b11, .ref b12, .ref b13, .ref b14, .ref b15, .ref b16, .ref b17, .ref b18, .int ik, .ref b19, .ref b20, .ref b21, .ref b22, .ref b23, .ref b24, .ref b25])), (b13, .inl (Z.2 0, 6, .inl f13)), (b14, .inl (Z.2 0, 30, .inl g14)), (b15, .inl (Z.2 0, 30, .inl g15))]) (va_A [(h0, .inr (9, [.ref b1, .ref b2, .ref b3, .ref b4, .int (nI n), .ref b5, .int (nI pn), .ref b6, .ref b7, .ref b8, .int (nI tn), .int xp, .int xr, .ref b9, .ref b10, .ref b11, .ref b12, .ref b13, .ref b14, .ref b15, .ref b16, .ref b17, .ref b18, .int ik, .ref b19, .ref b20, .ref b21, .ref b22, .ref b23, .ref b24, .ref b25])), (b13, .inl (Z.2 0, 6, .inl f13)), (b14, .inl (Z.2 0, 30, .inl f14)), (b15, .inl (Z.2 0, 30, .inl f15))] sz)) 0 0 (va_A [(h0, .inr (9, [.ref b1, .ref b2, .ref b3, .ref b4, .int (nI n), .ref b5, .int (nI pn), .ref b6, .ref b7, .ref b8, .int (nI tn), .int xp, .int xr, .ref b9, .ref b10, .ref b11, .ref b12, .ref b13, .ref b14, .ref b15, .ref b16, .ref b17, .ref b18, .int ik, .ref b19, .ref b20, .ref b21, .ref b22, .ref b23, .ref b24, .ref b25])), (b13, .inl (Z.2 0, 6, .inl f13)), (b14, .inl (Z.2 0, 30, .inl f14)), (b15, .inl (Z.2 0, 30, .inl f15))] sz) := by
  refine Met.ofW (cc := cX9_giveBack) (maxL := 5) (ret := none) (by decide) rfl ?_
  intro p e s m args below meth c s₁ B hml hv
  obtain ⟨rfl, hsz, hP, hK, hD0⟩ := hv
  have hx := B.exec
  have hb := B.bytes
  have hr := B.returns
  have hts := atoms_spec (ws := wsX9_giveBack) B.pre
  have hown : s.vm.findClass RX9 = some m.cls := findClass_of_methodNamed B.named
  have hlocks := B.notSynchronized
  subst hsz
  have hin9 : ∀ w ∈ wsX90, w ∈ wsX9_giveBack := fun w h9 => (List.mem_cons_of_mem _ (List.mem_append_right _ h9))
  have hD := hD0.self (sz := s.heap.size)
  generalize hAe : va_A [(h0, .inr (9, [.ref b1, .ref b2, .ref b3, .ref b4, .int (nI n), .ref b5, .int (nI pn), .ref b6, .ref b7, .ref b8, .int (nI tn), .int xp, .int xr, .ref b9, .ref b10, .ref b11, .ref b12, .ref b13, .ref b14, .ref b15, .ref b16, .ref b17, .ref b18, .int ik, .ref b19, .ref b20, .ref b21, .ref b22, .ref b23, .ref b24, .ref b25])), (b13, .inl (Z.2 0, 6, .inl f13)), (b14, .inl (Z.2 0, 30, .inl f14)), (b15, .inl (Z.2 0, 30, .inl f15))] s.heap.size = A at hD ⊢
  have hA : ∀ q : Nat, s.heap.size ≤ q → A q := fun q h => by rw [← hAe]; exact Or.inr h
  have hS : va_S A s.heap s.heap [] := va_S.rf
  have hP : va_P Z.1 vwCl [(h0, .inr (9, [.ref b1, .ref b2, .ref b3, .ref b4, .int (nI n), .ref b5, .int (nI pn), .ref b6, .ref b7, .ref b8, .int (nI tn), .int xp, .int xr, .ref b9, .ref b10, .ref b11, .ref b12, .ref b13, .ref b14, .ref b15, .ref b16, .ref b17, .ref b18, .int ik, .ref b19, .ref b20, .ref b21, .ref b22, .ref b23, .ref b24, .ref b25])), (b13, .inl (Z.2 0, 6, .inl f13)), (b14, .inl (Z.2 0, 30, .inl f14)), (b15, .inl (Z.2 0, 30, .inl f15))] s.heap := hP
  have hl := lv_entry ([.ref h0, .int (nI (t + 1))]) (n := 5) (Nat.le_of_ble_eq_true rfl)
  rw [lg_entry_eq]
  generalize (lg_sl ([.ref h0, .int (nI (t + 1))]) ++ List.replicate (5 - (lg_sl ([.ref h0, .int (nI (t + 1))])).length) Slot.unset).toArray = ls at hl ⊢
  have hl : lv_has ls 5 [(0, .ref h0), (1, .int (nI (t + 1)))] := hl
  refine lv_iload_n hx hb dX9_giveBack_0 rfl (lv_at hl 1 rfl) ?_
  refine lv_iconst (v := 1) hx hb dX9_giveBack_1 (by decide) ?_
  refine lv_isub hx hb dX9_giveBack_2 ?_
  refine lv_topi (fun f_1 ef_1 => ?_)
  obtain rfl : nI t = f_1 := (ef_1.trans (nI_pred _)).symm
  refine lv_istore_n (lv' := [(2, .int (nI t)), (0, .ref h0), (1, .int (nI (t + 1)))]) hx hb dX9_giveBack_3 rfl hl (by decide) rfl (fun ls hl => ?_)
  refine lv_aload_n hx hb dX9_giveBack_4 rfl (lv_at hl 1 rfl) ?_
  refine va_get (D := Z.1) (ci := 9) (v := .ref b14) (C := RX9) (T := TX9) (N := 31) hx hb hts hin9 hown hK hP 0 rfl rfl 18 (by decide) (hts (.fieldLink RX9 49 "HalfAskedModel" "endPence" "[I") (List.mem_of_getElem? (i := 1) rfl)) (fun _ h9 => h9) rfl dX9_giveBack_5 ?_
  refine lv_iconst (v := 5) hx hb dX9_giveBack_8 (by decide) ?_
  refine lv_iload_n hx hb dX9_giveBack_9 rfl (lv_at hl 0 rfl) ?_
  refine lv_imul hx hb dX9_giveBack_10 ?_
  refine lv_topi (fun f_2 ef_2 => ?_)
  obtain rfl : nI (5 * t) = f_2 := (ef_2.trans (pk_mul 5 t)).symm
  refine va_iald hx hb hK hP 2 0 rfl rfl (vp_in_nI (by omega) (by decide)) dX9_giveBack_11 ?_
  refine lv_if_lt (tgt := 38) hx hb dX9_giveBack_12 (by decide) (fun c_3 => ?_) (fun c_3 => ?_)
  · refine lv_iconst (v := 1) hx hb dX9_giveBack_38 (by decide) ?_
    refine lv_goto (tgt := 43) hx hb dX9_giveBack_39 (by decide) ?_
    refine lv_istore_n (lv' := [(3, .int 1), (2, .int (nI t)), (0, .ref h0), (1, .int (nI (t + 1)))]) hx hb dX9_giveBack_43 rfl hl (by decide) rfl (fun ls hl => ?_)
    refine lv_iconst (v := 0) hx hb dX9_giveBack_44 (by decide) ?_
    refine lv_istore (lv' := [(4, .int 0), (3, .int 1), (2, .int (nI t)), (0, .ref h0), (1, .int (nI (t + 1)))]) hx hb dX9_giveBack_45 hl (by decide) rfl (fun ls hl => ?_)
    refine lv_iload hx hb dX9_giveBack_47 (lv_at hl 0 rfl) ?_
    refine lv_iconst (v := 5) hx hb dX9_giveBack_49 (by decide) ?_
    refine lv_icmp_ge (tgt := 107) hx hb dX9_giveBack_50 (by decide) (fun c9 => absurd c9 (by decide)) (fun _ => ?_)
    refine lv_iload_n hx hb dX9_giveBack_53 rfl (lv_at hl 1 rfl) ?_
    refine lv_if_eq (tgt := 107) hx hb dX9_giveBack_54 (by decide) (fun c9 => absurd c9 (by decide)) (fun _ => ?_)
    refine lv_aload_n hx hb dX9_giveBack_57 rfl (lv_at hl 3 rfl) ?_
    refine va_get (D := Z.1) (ci := 9) (v := .ref b14) (C := RX9) (T := TX9) (N := 31) hx hb hts hin9 hown hK hP 0 rfl rfl 18 (by decide) (hts (.fieldLink RX9 49 "HalfAskedModel" "endPence" "[I") (List.mem_of_getElem? (i := 1) rfl)) (fun _ h9 => h9) rfl dX9_giveBack_58 ?_
    refine lv_iconst (v := 5) hx hb dX9_giveBack_61 (by decide) ?_
    refine lv_iload_n hx hb dX9_giveBack_62 rfl (lv_at hl 2 rfl) ?_
    refine lv_imul hx hb dX9_giveBack_63 ?_
    refine lv_topi (fun f_4 ef_4 => ?_)
    obtain rfl : nI (5 * t) = f_4 := (ef_4.trans (pk_mul 5 t)).symm
    refine lv_iload hx hb dX9_giveBack_64 (lv_at hl 0 rfl) ?_
    refine lv_iadd hx hb dX9_giveBack_66 ?_
    refine lv_topi (fun f_5 ef_5 => ?_)
    obtain rfl : nI ((5 * t) + 0) = f_5 := (ef_5.trans (nI_add (5 * t) 0)).symm
    refine lv_aload_n hx hb dX9_giveBack_67 rfl (lv_at hl 3 rfl) ?_
    refine va_get (D := Z.1) (ci := 9) (v := .ref b14) (C := RX9) (T := TX9) (N := 31) hx hb hts hin9 hown hK hP 0 rfl rfl 18 (by decide) (hts (.fieldLink RX9 49 "HalfAskedModel" "endPence" "[I") (List.mem_of_getElem? (i := 1) rfl)) (fun _ h9 => h9) rfl dX9_giveBack_68 ?_
    refine lv_iconst (v := 5) hx hb dX9_giveBack_71 (by decide) ?_
    refine lv_iload_n hx hb dX9_giveBack_72 rfl (lv_at hl 4 rfl) ?_
    refine lv_imul hx hb dX9_giveBack_73 ?_
    refine lv_topi (fun f_6 ef_6 => ?_)
    obtain rfl : nI (5 * (t + 1)) = f_6 := (ef_6.trans (pk_mul 5 (t + 1))).symm
    refine lv_iload hx hb dX9_giveBack_74 (lv_at hl 0 rfl) ?_
    refine lv_iadd hx hb dX9_giveBack_76 ?_
    refine lv_topi (fun f_7 ef_7 => ?_)
    obtain rfl : nI ((5 * (t + 1)) + 0) = f_7 := (ef_7.trans (nI_add (5 * (t + 1)) 0)).symm
    refine va_iald hx hb hK hP 2 0 rfl rfl (vp_in_nI (by omega) (by decide)) dX9_giveBack_77 ?_
    refine lv_topi (fun f_8 ef_8 => ?_)
    obtain rfl : f14 (5 * (t + 1) + 0) = f_8 := (ef_8.trans (by rw [nI_clamp (show 5 * (t + 1) + 0 < 2 ^ 31 by omega)])).symm
    refine va_iast hx hb hK hP hD hS 2 0 rfl rfl (vp_in_nI (by omega) (by decide)) dX9_giveBack_78 (fun H locs hP hD hS => ?_)
    have hP : va_P Z.1 vwCl [(h0, .inr (9, [.ref b1, .ref b2, .ref b3, .ref b4, .int (nI n), .ref b5, .int (nI pn), .ref b6, .ref b7, .ref b8, .int (nI tn), .int xp, .int xr, .ref b9, .ref b10, .ref b11, .ref b12, .ref b13, .ref b14, .ref b15, .ref b16, .ref b17, .ref b18, .int ik, .ref b19, .ref b20, .ref b21, .ref b22, .ref b23, .ref b24, .ref b25])), (b13, .inl (Z.2 0, 6, .inl f13)), (b14, .inl (Z.2 0, 30, .inl (upd f14 ((nI ((5 * t) + 0)).toNatClampNeg) (f14 (5 * (t + 1) + 0))))), (b15, .inl (Z.2 0, 30, .inl f15))] H := hP
    have hD : va_D A [(h0, .inr (9, [.ref b1, .ref b2, .ref b3, .ref b4, .int (nI n), .ref b5, .int (nI pn), .ref b6, .ref b7, .ref b8, .int (nI tn), .int xp, .int xr, .ref b9, .ref b10, .ref b11, .ref b12, .ref b13, .ref b14, .ref b15, .ref b16, .ref b17, .ref b18, .int ik, .ref b19, .ref b20, .ref b21, .ref b22, .ref b23, .ref b24, .ref b25])), (b13, .inl (Z.2 0, 6, .inl f13)), (b14, .inl (Z.2 0, 30, .inl (upd f14 ((nI ((5 * t) + 0)).toNatClampNeg) (f14 (5 * (t + 1) + 0))))), (b15, .inl (Z.2 0, 30, .inl f15))] := hD
    refine lv_aload_n hx hb dX9_giveBack_79 rfl (lv_at hl 3 rfl) ?_
    refine va_get (D := Z.1) (ci := 9) (v := .ref b15) (C := RX9) (T := TX9) (N := 31) hx hb hts hin9 hown hK hP 0 rfl rfl 19 (by decide) (hts (.fieldLink RX9 52 "HalfAskedModel" "choices" "[I") (List.mem_of_getElem? (i := 2) rfl)) (fun _ h9 => h9) rfl dX9_giveBack_80 ?_
    refine lv_iconst (v := 5) hx hb dX9_giveBack_83 (by decide) ?_
    refine lv_iload_n hx hb dX9_giveBack_84 rfl (lv_at hl 2 rfl) ?_
    refine lv_imul hx hb dX9_giveBack_85 ?_
    refine lv_topi (fun f_9 ef_9 => ?_)
    obtain rfl : nI (5 * t) = f_9 := (ef_9.trans (pk_mul 5 t)).symm
    refine lv_iload hx hb dX9_giveBack_86 (lv_at hl 0 rfl) ?_
    refine lv_iadd hx hb dX9_giveBack_88 ?_
    refine lv_topi (fun f_10 ef_10 => ?_)
    obtain rfl : nI ((5 * t) + 0) = f_10 := (ef_10.trans (nI_add (5 * t) 0)).symm
    refine lv_aload_n hx hb dX9_giveBack_89 rfl (lv_at hl 3 rfl) ?_
    refine va_get (D := Z.1) (ci := 9) (v := .ref b15) (C := RX9) (T := TX9) (N := 31) hx hb hts hin9 hown hK hP 0 rfl rfl 19 (by decide) (hts (.fieldLink RX9 52 "HalfAskedModel" "choices" "[I") (List.mem_of_getElem? (i := 2) rfl)) (fun _ h9 => h9) rfl dX9_giveBack_90 ?_
    refine lv_iconst (v := 5) hx hb dX9_giveBack_93 (by decide) ?_
    refine lv_iload_n hx hb dX9_giveBack_94 rfl (lv_at hl 4 rfl) ?_
    refine lv_imul hx hb dX9_giveBack_95 ?_
    refine lv_topi (fun f_11 ef_11 => ?_)
    obtain rfl : nI (5 * (t + 1)) = f_11 := (ef_11.trans (pk_mul 5 (t + 1))).symm
    refine lv_iload hx hb dX9_giveBack_96 (lv_at hl 0 rfl) ?_
    refine lv_iadd hx hb dX9_giveBack_98 ?_
    refine lv_topi (fun f_12 ef_12 => ?_)
    obtain rfl : nI ((5 * (t + 1)) + 0) = f_12 := (ef_12.trans (nI_add (5 * (t + 1)) 0)).symm
    refine va_iald hx hb hK hP 3 0 rfl rfl (vp_in_nI (by omega) (by decide)) dX9_giveBack_99 ?_
    refine lv_topi (fun f_13 ef_13 => ?_)
    obtain rfl : f15 (5 * (t + 1) + 0) = f_13 := (ef_13.trans (by rw [nI_clamp (show 5 * (t + 1) + 0 < 2 ^ 31 by omega)])).symm
    refine va_iast hx hb hK hP hD hS 3 0 rfl rfl (vp_in_nI (by omega) (by decide)) dX9_giveBack_100 (fun H locs hP hD hS => ?_)
    have hP : va_P Z.1 vwCl [(h0, .inr (9, [.ref b1, .ref b2, .ref b3, .ref b4, .int (nI n), .ref b5, .int (nI pn), .ref b6, .ref b7, .ref b8, .int (nI tn), .int xp, .int xr, .ref b9, .ref b10, .ref b11, .ref b12, .ref b13, .ref b14, .ref b15, .ref b16, .ref b17, .ref b18, .int ik, .ref b19, .ref b20, .ref b21, .ref b22, .ref b23, .ref b24, .ref b25])), (b13, .inl (Z.2 0, 6, .inl f13)), (b14, .inl (Z.2 0, 30, .inl (upd f14 ((nI ((5 * t) + 0)).toNatClampNeg) (f14 (5 * (t + 1) + 0))))), (b15, .inl (Z.2 0, 30, .inl (upd f15 ((nI ((5 * t) + 0)).toNatClampNeg) (f15 (5 * (t + 1) + 0)))))] H := hP
    have hD : va_D A [(h0, .inr (9, [.ref b1, .ref b2, .ref b3, .ref b4, .int (nI n), .ref b5, .int (nI pn), .ref b6, .ref b7, .ref b8, .int (nI tn), .int xp, .int xr, .ref b9, .ref b10, .ref b11, .ref b12, .ref b13, .ref b14, .ref b15, .ref b16, .ref b17, .ref b18, .int ik, .ref b19, .ref b20, .ref b21, .ref b22, .ref b23, .ref b24, .ref b25])), (b13, .inl (Z.2 0, 6, .inl f13)), (b14, .inl (Z.2 0, 30, .inl (upd f14 ((nI ((5 * t) + 0)).toNatClampNeg) (f14 (5 * (t + 1) + 0))))), (b15, .inl (Z.2 0, 30, .inl (upd f15 ((nI ((5 * t) + 0)).toNatClampNeg) (f15 (5 * (t + 1) + 0)))))] := hD
    refine lv_iinc (v := 1) (lv' := [(4, .int 1), (3, .int 1), (2, .int (nI t)), (0, .ref h0), (1, .int (nI (t + 1)))]) hx hb dX9_giveBack_101 hl (k := 0) rfl (by decide) (by decide) rfl (fun ls hl => ?_)
    refine lv_goto (tgt := 47) hx hb dX9_giveBack_104 (by decide) ?_
    refine lv_iload hx hb dX9_giveBack_47 (lv_at hl 0 rfl) ?_
    refine lv_iconst (v := 5) hx hb dX9_giveBack_49 (by decide) ?_
    refine lv_icmp_ge (tgt := 107) hx hb dX9_giveBack_50 (by decide) (fun c9 => absurd c9 (by decide)) (fun _ => ?_)
    refine lv_iload_n hx hb dX9_giveBack_53 rfl (lv_at hl 1 rfl) ?_
    refine lv_if_eq (tgt := 107) hx hb dX9_giveBack_54 (by decide) (fun c9 => absurd c9 (by decide)) (fun _ => ?_)
    refine lv_aload_n hx hb dX9_giveBack_57 rfl (lv_at hl 3 rfl) ?_
    refine va_get (D := Z.1) (ci := 9) (v := .ref b14) (C := RX9) (T := TX9) (N := 31) hx hb hts hin9 hown hK hP 0 rfl rfl 18 (by decide) (hts (.fieldLink RX9 49 "HalfAskedModel" "endPence" "[I") (List.mem_of_getElem? (i := 1) rfl)) (fun _ h9 => h9) rfl dX9_giveBack_58 ?_
    refine lv_iconst (v := 5) hx hb dX9_giveBack_61 (by decide) ?_
    refine lv_iload_n hx hb dX9_giveBack_62 rfl (lv_at hl 2 rfl) ?_
    refine lv_imul hx hb dX9_giveBack_63 ?_
    refine lv_topi (fun f_14 ef_14 => ?_)
    obtain rfl : nI (5 * t) = f_14 := (ef_14.trans (pk_mul 5 t)).symm
    refine lv_iload hx hb dX9_giveBack_64 (lv_at hl 0 rfl) ?_
    refine lv_iadd hx hb dX9_giveBack_66 ?_
    refine lv_topi (fun f_15 ef_15 => ?_)
    obtain rfl : nI ((5 * t) + 1) = f_15 := (ef_15.trans (nI_1 _)).symm
    refine lv_aload_n hx hb dX9_giveBack_67 rfl (lv_at hl 3 rfl) ?_
    refine va_get (D := Z.1) (ci := 9) (v := .ref b14) (C := RX9) (T := TX9) (N := 31) hx hb hts hin9 hown hK hP 0 rfl rfl 18 (by decide) (hts (.fieldLink RX9 49 "HalfAskedModel" "endPence" "[I") (List.mem_of_getElem? (i := 1) rfl)) (fun _ h9 => h9) rfl dX9_giveBack_68 ?_
    refine lv_iconst (v := 5) hx hb dX9_giveBack_71 (by decide) ?_
    refine lv_iload_n hx hb dX9_giveBack_72 rfl (lv_at hl 4 rfl) ?_
    refine lv_imul hx hb dX9_giveBack_73 ?_
    refine lv_topi (fun f_16 ef_16 => ?_)
    obtain rfl : nI (5 * (t + 1)) = f_16 := (ef_16.trans (pk_mul 5 (t + 1))).symm
    refine lv_iload hx hb dX9_giveBack_74 (lv_at hl 0 rfl) ?_
    refine lv_iadd hx hb dX9_giveBack_76 ?_
    refine lv_topi (fun f_17 ef_17 => ?_)
    obtain rfl : nI ((5 * (t + 1)) + 1) = f_17 := (ef_17.trans (nI_1 _)).symm
    refine va_iald hx hb hK hP 2 0 rfl rfl (vp_in_nI (by omega) (by decide)) dX9_giveBack_77 ?_
    refine lv_topi (fun f_18 ef_18 => ?_)
    obtain rfl : f14 (5 * (t + 1) + 1) = f_18 := (ef_18.trans (by rw [nI_clamp (show 5 * (t + 1) + 1 < 2 ^ 31 by omega), pk_un (show 5 * (t + 1) + 1 ≠ (nI (5 * t + 0)).toNatClampNeg by rw [nI_clamp (by omega)]; omega)])).symm
    refine va_iast hx hb hK hP hD hS 2 0 rfl rfl (vp_in_nI (by omega) (by decide)) dX9_giveBack_78 (fun H locs hP hD hS => ?_)
    have hP : va_P Z.1 vwCl [(h0, .inr (9, [.ref b1, .ref b2, .ref b3, .ref b4, .int (nI n), .ref b5, .int (nI pn), .ref b6, .ref b7, .ref b8, .int (nI tn), .int xp, .int xr, .ref b9, .ref b10, .ref b11, .ref b12, .ref b13, .ref b14, .ref b15, .ref b16, .ref b17, .ref b18, .int ik, .ref b19, .ref b20, .ref b21, .ref b22, .ref b23, .ref b24, .ref b25])), (b13, .inl (Z.2 0, 6, .inl f13)), (b14, .inl (Z.2 0, 30, .inl (upd (upd f14 ((nI ((5 * t) + 0)).toNatClampNeg) (f14 (5 * (t + 1) + 0))) ((nI ((5 * t) + 1)).toNatClampNeg) (f14 (5 * (t + 1) + 1))))), (b15, .inl (Z.2 0, 30, .inl (upd f15 ((nI ((5 * t) + 0)).toNatClampNeg) (f15 (5 * (t + 1) + 0)))))] H := hP
    have hD : va_D A [(h0, .inr (9, [.ref b1, .ref b2, .ref b3, .ref b4, .int (nI n), .ref b5, .int (nI pn), .ref b6, .ref b7, .ref b8, .int (nI tn), .int xp, .int xr, .ref b9, .ref b10, .ref b11, .ref b12, .ref b13, .ref b14, .ref b15, .ref b16, .ref b17, .ref b18, .int ik, .ref b19, .ref b20, .ref b21, .ref b22, .ref b23, .ref b24, .ref b25])), (b13, .inl (Z.2 0, 6, .inl f13)), (b14, .inl (Z.2 0, 30, .inl (upd (upd f14 ((nI ((5 * t) + 0)).toNatClampNeg) (f14 (5 * (t + 1) + 0))) ((nI ((5 * t) + 1)).toNatClampNeg) (f14 (5 * (t + 1) + 1))))), (b15, .inl (Z.2 0, 30, .inl (upd f15 ((nI ((5 * t) + 0)).toNatClampNeg) (f15 (5 * (t + 1) + 0)))))] := hD
    refine lv_aload_n hx hb dX9_giveBack_79 rfl (lv_at hl 3 rfl) ?_
    refine va_get (D := Z.1) (ci := 9) (v := .ref b15) (C := RX9) (T := TX9) (N := 31) hx hb hts hin9 hown hK hP 0 rfl rfl 19 (by decide) (hts (.fieldLink RX9 52 "HalfAskedModel" "choices" "[I") (List.mem_of_getElem? (i := 2) rfl)) (fun _ h9 => h9) rfl dX9_giveBack_80 ?_
    refine lv_iconst (v := 5) hx hb dX9_giveBack_83 (by decide) ?_
    refine lv_iload_n hx hb dX9_giveBack_84 rfl (lv_at hl 2 rfl) ?_
    refine lv_imul hx hb dX9_giveBack_85 ?_
    refine lv_topi (fun f_19 ef_19 => ?_)
    obtain rfl : nI (5 * t) = f_19 := (ef_19.trans (pk_mul 5 t)).symm
    refine lv_iload hx hb dX9_giveBack_86 (lv_at hl 0 rfl) ?_
    refine lv_iadd hx hb dX9_giveBack_88 ?_
    refine lv_topi (fun f_20 ef_20 => ?_)
    obtain rfl : nI ((5 * t) + 1) = f_20 := (ef_20.trans (nI_1 _)).symm
    refine lv_aload_n hx hb dX9_giveBack_89 rfl (lv_at hl 3 rfl) ?_
    refine va_get (D := Z.1) (ci := 9) (v := .ref b15) (C := RX9) (T := TX9) (N := 31) hx hb hts hin9 hown hK hP 0 rfl rfl 19 (by decide) (hts (.fieldLink RX9 52 "HalfAskedModel" "choices" "[I") (List.mem_of_getElem? (i := 2) rfl)) (fun _ h9 => h9) rfl dX9_giveBack_90 ?_
    refine lv_iconst (v := 5) hx hb dX9_giveBack_93 (by decide) ?_
    refine lv_iload_n hx hb dX9_giveBack_94 rfl (lv_at hl 4 rfl) ?_
    refine lv_imul hx hb dX9_giveBack_95 ?_
    refine lv_topi (fun f_21 ef_21 => ?_)
    obtain rfl : nI (5 * (t + 1)) = f_21 := (ef_21.trans (pk_mul 5 (t + 1))).symm
    refine lv_iload hx hb dX9_giveBack_96 (lv_at hl 0 rfl) ?_
    refine lv_iadd hx hb dX9_giveBack_98 ?_
    refine lv_topi (fun f_22 ef_22 => ?_)
    obtain rfl : nI ((5 * (t + 1)) + 1) = f_22 := (ef_22.trans (nI_1 _)).symm
    refine va_iald hx hb hK hP 3 0 rfl rfl (vp_in_nI (by omega) (by decide)) dX9_giveBack_99 ?_
    refine lv_topi (fun f_23 ef_23 => ?_)
    obtain rfl : f15 (5 * (t + 1) + 1) = f_23 := (ef_23.trans (by rw [nI_clamp (show 5 * (t + 1) + 1 < 2 ^ 31 by omega), pk_un (show 5 * (t + 1) + 1 ≠ (nI (5 * t + 0)).toNatClampNeg by rw [nI_clamp (by omega)]; omega)])).symm
    refine va_iast hx hb hK hP hD hS 3 0 rfl rfl (vp_in_nI (by omega) (by decide)) dX9_giveBack_100 (fun H locs hP hD hS => ?_)
    have hP : va_P Z.1 vwCl [(h0, .inr (9, [.ref b1, .ref b2, .ref b3, .ref b4, .int (nI n), .ref b5, .int (nI pn), .ref b6, .ref b7, .ref b8, .int (nI tn), .int xp, .int xr, .ref b9, .ref b10, .ref b11, .ref b12, .ref b13, .ref b14, .ref b15, .ref b16, .ref b17, .ref b18, .int ik, .ref b19, .ref b20, .ref b21, .ref b22, .ref b23, .ref b24, .ref b25])), (b13, .inl (Z.2 0, 6, .inl f13)), (b14, .inl (Z.2 0, 30, .inl (upd (upd f14 ((nI ((5 * t) + 0)).toNatClampNeg) (f14 (5 * (t + 1) + 0))) ((nI ((5 * t) + 1)).toNatClampNeg) (f14 (5 * (t + 1) + 1))))), (b15, .inl (Z.2 0, 30, .inl (upd (upd f15 ((nI ((5 * t) + 0)).toNatClampNeg) (f15 (5 * (t + 1) + 0))) ((nI ((5 * t) + 1)).toNatClampNeg) (f15 (5 * (t + 1) + 1)))))] H := hP
    have hD : va_D A [(h0, .inr (9, [.ref b1, .ref b2, .ref b3, .ref b4, .int (nI n), .ref b5, .int (nI pn), .ref b6, .ref b7, .ref b8, .int (nI tn), .int xp, .int xr, .ref b9, .ref b10, .ref b11, .ref b12, .ref b13, .ref b14, .ref b15, .ref b16, .ref b17, .ref b18, .int ik, .ref b19, .ref b20, .ref b21, .ref b22, .ref b23, .ref b24, .ref b25])), (b13, .inl (Z.2 0, 6, .inl f13)), (b14, .inl (Z.2 0, 30, .inl (upd (upd f14 ((nI ((5 * t) + 0)).toNatClampNeg) (f14 (5 * (t + 1) + 0))) ((nI ((5 * t) + 1)).toNatClampNeg) (f14 (5 * (t + 1) + 1))))), (b15, .inl (Z.2 0, 30, .inl (upd (upd f15 ((nI ((5 * t) + 0)).toNatClampNeg) (f15 (5 * (t + 1) + 0))) ((nI ((5 * t) + 1)).toNatClampNeg) (f15 (5 * (t + 1) + 1)))))] := hD
    refine lv_iinc (v := 2) (lv' := [(4, .int 2), (3, .int 1), (2, .int (nI t)), (0, .ref h0), (1, .int (nI (t + 1)))]) hx hb dX9_giveBack_101 hl (k := 0) rfl (by decide) (by decide) rfl (fun ls hl => ?_)
    refine lv_goto (tgt := 47) hx hb dX9_giveBack_104 (by decide) ?_
    refine lv_iload hx hb dX9_giveBack_47 (lv_at hl 0 rfl) ?_
    refine lv_iconst (v := 5) hx hb dX9_giveBack_49 (by decide) ?_
    refine lv_icmp_ge (tgt := 107) hx hb dX9_giveBack_50 (by decide) (fun c9 => absurd c9 (by decide)) (fun _ => ?_)
    refine lv_iload_n hx hb dX9_giveBack_53 rfl (lv_at hl 1 rfl) ?_
    refine lv_if_eq (tgt := 107) hx hb dX9_giveBack_54 (by decide) (fun c9 => absurd c9 (by decide)) (fun _ => ?_)
    refine lv_aload_n hx hb dX9_giveBack_57 rfl (lv_at hl 3 rfl) ?_
    refine va_get (D := Z.1) (ci := 9) (v := .ref b14) (C := RX9) (T := TX9) (N := 31) hx hb hts hin9 hown hK hP 0 rfl rfl 18 (by decide) (hts (.fieldLink RX9 49 "HalfAskedModel" "endPence" "[I") (List.mem_of_getElem? (i := 1) rfl)) (fun _ h9 => h9) rfl dX9_giveBack_58 ?_
    refine lv_iconst (v := 5) hx hb dX9_giveBack_61 (by decide) ?_
    refine lv_iload_n hx hb dX9_giveBack_62 rfl (lv_at hl 2 rfl) ?_
    refine lv_imul hx hb dX9_giveBack_63 ?_
    refine lv_topi (fun f_24 ef_24 => ?_)
    obtain rfl : nI (5 * t) = f_24 := (ef_24.trans (pk_mul 5 t)).symm
    refine lv_iload hx hb dX9_giveBack_64 (lv_at hl 0 rfl) ?_
    refine lv_iadd hx hb dX9_giveBack_66 ?_
    refine lv_topi (fun f_25 ef_25 => ?_)
    obtain rfl : nI ((5 * t) + 2) = f_25 := (ef_25.trans (nI_add (5 * t) 2)).symm
    refine lv_aload_n hx hb dX9_giveBack_67 rfl (lv_at hl 3 rfl) ?_
    refine va_get (D := Z.1) (ci := 9) (v := .ref b14) (C := RX9) (T := TX9) (N := 31) hx hb hts hin9 hown hK hP 0 rfl rfl 18 (by decide) (hts (.fieldLink RX9 49 "HalfAskedModel" "endPence" "[I") (List.mem_of_getElem? (i := 1) rfl)) (fun _ h9 => h9) rfl dX9_giveBack_68 ?_
    refine lv_iconst (v := 5) hx hb dX9_giveBack_71 (by decide) ?_
    refine lv_iload_n hx hb dX9_giveBack_72 rfl (lv_at hl 4 rfl) ?_
    refine lv_imul hx hb dX9_giveBack_73 ?_
    refine lv_topi (fun f_26 ef_26 => ?_)
    obtain rfl : nI (5 * (t + 1)) = f_26 := (ef_26.trans (pk_mul 5 (t + 1))).symm
    refine lv_iload hx hb dX9_giveBack_74 (lv_at hl 0 rfl) ?_
    refine lv_iadd hx hb dX9_giveBack_76 ?_
    refine lv_topi (fun f_27 ef_27 => ?_)
    obtain rfl : nI ((5 * (t + 1)) + 2) = f_27 := (ef_27.trans (nI_add (5 * (t + 1)) 2)).symm
    refine va_iald hx hb hK hP 2 0 rfl rfl (vp_in_nI (by omega) (by decide)) dX9_giveBack_77 ?_
    refine lv_topi (fun f_28 ef_28 => ?_)
    obtain rfl : f14 (5 * (t + 1) + 2) = f_28 := (ef_28.trans (by rw [nI_clamp (show 5 * (t + 1) + 2 < 2 ^ 31 by omega), pk_un (show 5 * (t + 1) + 2 ≠ (nI (5 * t + 1)).toNatClampNeg by rw [nI_clamp (by omega)]; omega), pk_un (show 5 * (t + 1) + 2 ≠ (nI (5 * t + 0)).toNatClampNeg by rw [nI_clamp (by omega)]; omega)])).symm
    refine va_iast hx hb hK hP hD hS 2 0 rfl rfl (vp_in_nI (by omega) (by decide)) dX9_giveBack_78 (fun H locs hP hD hS => ?_)
    have hP : va_P Z.1 vwCl [(h0, .inr (9, [.ref b1, .ref b2, .ref b3, .ref b4, .int (nI n), .ref b5, .int (nI pn), .ref b6, .ref b7, .ref b8, .int (nI tn), .int xp, .int xr, .ref b9, .ref b10, .ref b11, .ref b12, .ref b13, .ref b14, .ref b15, .ref b16, .ref b17, .ref b18, .int ik, .ref b19, .ref b20, .ref b21, .ref b22, .ref b23, .ref b24, .ref b25])), (b13, .inl (Z.2 0, 6, .inl f13)), (b14, .inl (Z.2 0, 30, .inl (upd (upd (upd f14 ((nI ((5 * t) + 0)).toNatClampNeg) (f14 (5 * (t + 1) + 0))) ((nI ((5 * t) + 1)).toNatClampNeg) (f14 (5 * (t + 1) + 1))) ((nI ((5 * t) + 2)).toNatClampNeg) (f14 (5 * (t + 1) + 2))))), (b15, .inl (Z.2 0, 30, .inl (upd (upd f15 ((nI ((5 * t) + 0)).toNatClampNeg) (f15 (5 * (t + 1) + 0))) ((nI ((5 * t) + 1)).toNatClampNeg) (f15 (5 * (t + 1) + 1)))))] H := hP
    have hD : va_D A [(h0, .inr (9, [.ref b1, .ref b2, .ref b3, .ref b4, .int (nI n), .ref b5, .int (nI pn), .ref b6, .ref b7, .ref b8, .int (nI tn), .int xp, .int xr, .ref b9, .ref b10, .ref b11, .ref b12, .ref b13, .ref b14, .ref b15, .ref b16, .ref b17, .ref b18, .int ik, .ref b19, .ref b20, .ref b21, .ref b22, .ref b23, .ref b24, .ref b25])), (b13, .inl (Z.2 0, 6, .inl f13)), (b14, .inl (Z.2 0, 30, .inl (upd (upd (upd f14 ((nI ((5 * t) + 0)).toNatClampNeg) (f14 (5 * (t + 1) + 0))) ((nI ((5 * t) + 1)).toNatClampNeg) (f14 (5 * (t + 1) + 1))) ((nI ((5 * t) + 2)).toNatClampNeg) (f14 (5 * (t + 1) + 2))))), (b15, .inl (Z.2 0, 30, .inl (upd (upd f15 ((nI ((5 * t) + 0)).toNatClampNeg) (f15 (5 * (t + 1) + 0))) ((nI ((5 * t) + 1)).toNatClampNeg) (f15 (5 * (t + 1) + 1)))))] := hD
    refine lv_aload_n hx hb dX9_giveBack_79 rfl (lv_at hl 3 rfl) ?_
    refine va_get (D := Z.1) (ci := 9) (v := .ref b15) (C := RX9) (T := TX9) (N := 31) hx hb hts hin9 hown hK hP 0 rfl rfl 19 (by decide) (hts (.fieldLink RX9 52 "HalfAskedModel" "choices" "[I") (List.mem_of_getElem? (i := 2) rfl)) (fun _ h9 => h9) rfl dX9_giveBack_80 ?_
    refine lv_iconst (v := 5) hx hb dX9_giveBack_83 (by decide) ?_
    refine lv_iload_n hx hb dX9_giveBack_84 rfl (lv_at hl 2 rfl) ?_
    refine lv_imul hx hb dX9_giveBack_85 ?_
    refine lv_topi (fun f_29 ef_29 => ?_)
    obtain rfl : nI (5 * t) = f_29 := (ef_29.trans (pk_mul 5 t)).symm
    refine lv_iload hx hb dX9_giveBack_86 (lv_at hl 0 rfl) ?_
    refine lv_iadd hx hb dX9_giveBack_88 ?_
    refine lv_topi (fun f_30 ef_30 => ?_)
    obtain rfl : nI ((5 * t) + 2) = f_30 := (ef_30.trans (nI_add (5 * t) 2)).symm
    refine lv_aload_n hx hb dX9_giveBack_89 rfl (lv_at hl 3 rfl) ?_
    refine va_get (D := Z.1) (ci := 9) (v := .ref b15) (C := RX9) (T := TX9) (N := 31) hx hb hts hin9 hown hK hP 0 rfl rfl 19 (by decide) (hts (.fieldLink RX9 52 "HalfAskedModel" "choices" "[I") (List.mem_of_getElem? (i := 2) rfl)) (fun _ h9 => h9) rfl dX9_giveBack_90 ?_
    refine lv_iconst (v := 5) hx hb dX9_giveBack_93 (by decide) ?_
    refine lv_iload_n hx hb dX9_giveBack_94 rfl (lv_at hl 4 rfl) ?_
    refine lv_imul hx hb dX9_giveBack_95 ?_
    refine lv_topi (fun f_31 ef_31 => ?_)
    obtain rfl : nI (5 * (t + 1)) = f_31 := (ef_31.trans (pk_mul 5 (t + 1))).symm
    refine lv_iload hx hb dX9_giveBack_96 (lv_at hl 0 rfl) ?_
    refine lv_iadd hx hb dX9_giveBack_98 ?_
    refine lv_topi (fun f_32 ef_32 => ?_)
    obtain rfl : nI ((5 * (t + 1)) + 2) = f_32 := (ef_32.trans (nI_add (5 * (t + 1)) 2)).symm
    refine va_iald hx hb hK hP 3 0 rfl rfl (vp_in_nI (by omega) (by decide)) dX9_giveBack_99 ?_
    refine lv_topi (fun f_33 ef_33 => ?_)
    obtain rfl : f15 (5 * (t + 1) + 2) = f_33 := (ef_33.trans (by rw [nI_clamp (show 5 * (t + 1) + 2 < 2 ^ 31 by omega), pk_un (show 5 * (t + 1) + 2 ≠ (nI (5 * t + 1)).toNatClampNeg by rw [nI_clamp (by omega)]; omega), pk_un (show 5 * (t + 1) + 2 ≠ (nI (5 * t + 0)).toNatClampNeg by rw [nI_clamp (by omega)]; omega)])).symm
    refine va_iast hx hb hK hP hD hS 3 0 rfl rfl (vp_in_nI (by omega) (by decide)) dX9_giveBack_100 (fun H locs hP hD hS => ?_)
    have hP : va_P Z.1 vwCl [(h0, .inr (9, [.ref b1, .ref b2, .ref b3, .ref b4, .int (nI n), .ref b5, .int (nI pn), .ref b6, .ref b7, .ref b8, .int (nI tn), .int xp, .int xr, .ref b9, .ref b10, .ref b11, .ref b12, .ref b13, .ref b14, .ref b15, .ref b16, .ref b17, .ref b18, .int ik, .ref b19, .ref b20, .ref b21, .ref b22, .ref b23, .ref b24, .ref b25])), (b13, .inl (Z.2 0, 6, .inl f13)), (b14, .inl (Z.2 0, 30, .inl (upd (upd (upd f14 ((nI ((5 * t) + 0)).toNatClampNeg) (f14 (5 * (t + 1) + 0))) ((nI ((5 * t) + 1)).toNatClampNeg) (f14 (5 * (t + 1) + 1))) ((nI ((5 * t) + 2)).toNatClampNeg) (f14 (5 * (t + 1) + 2))))), (b15, .inl (Z.2 0, 30, .inl (upd (upd (upd f15 ((nI ((5 * t) + 0)).toNatClampNeg) (f15 (5 * (t + 1) + 0))) ((nI ((5 * t) + 1)).toNatClampNeg) (f15 (5 * (t + 1) + 1))) ((nI ((5 * t) + 2)).toNatClampNeg) (f15 (5 * (t + 1) + 2)))))] H := hP
    have hD : va_D A [(h0, .inr (9, [.ref b1, .ref b2, .ref b3, .ref b4, .int (nI n), .ref b5, .int (nI pn), .ref b6, .ref b7, .ref b8, .int (nI tn), .int xp, .int xr, .ref b9, .ref b10, .ref b11, .ref b12, .ref b13, .ref b14, .ref b15, .ref b16, .ref b17, .ref b18, .int ik, .ref b19, .ref b20, .ref b21, .ref b22, .ref b23, .ref b24, .ref b25])), (b13, .inl (Z.2 0, 6, .inl f13)), (b14, .inl (Z.2 0, 30, .inl (upd (upd (upd f14 ((nI ((5 * t) + 0)).toNatClampNeg) (f14 (5 * (t + 1) + 0))) ((nI ((5 * t) + 1)).toNatClampNeg) (f14 (5 * (t + 1) + 1))) ((nI ((5 * t) + 2)).toNatClampNeg) (f14 (5 * (t + 1) + 2))))), (b15, .inl (Z.2 0, 30, .inl (upd (upd (upd f15 ((nI ((5 * t) + 0)).toNatClampNeg) (f15 (5 * (t + 1) + 0))) ((nI ((5 * t) + 1)).toNatClampNeg) (f15 (5 * (t + 1) + 1))) ((nI ((5 * t) + 2)).toNatClampNeg) (f15 (5 * (t + 1) + 2)))))] := hD
    refine lv_iinc (v := 3) (lv' := [(4, .int 3), (3, .int 1), (2, .int (nI t)), (0, .ref h0), (1, .int (nI (t + 1)))]) hx hb dX9_giveBack_101 hl (k := 0) rfl (by decide) (by decide) rfl (fun ls hl => ?_)
    refine lv_goto (tgt := 47) hx hb dX9_giveBack_104 (by decide) ?_
    refine lv_iload hx hb dX9_giveBack_47 (lv_at hl 0 rfl) ?_
    refine lv_iconst (v := 5) hx hb dX9_giveBack_49 (by decide) ?_
    refine lv_icmp_ge (tgt := 107) hx hb dX9_giveBack_50 (by decide) (fun c9 => absurd c9 (by decide)) (fun _ => ?_)
    refine lv_iload_n hx hb dX9_giveBack_53 rfl (lv_at hl 1 rfl) ?_
    refine lv_if_eq (tgt := 107) hx hb dX9_giveBack_54 (by decide) (fun c9 => absurd c9 (by decide)) (fun _ => ?_)
    refine lv_aload_n hx hb dX9_giveBack_57 rfl (lv_at hl 3 rfl) ?_
    refine va_get (D := Z.1) (ci := 9) (v := .ref b14) (C := RX9) (T := TX9) (N := 31) hx hb hts hin9 hown hK hP 0 rfl rfl 18 (by decide) (hts (.fieldLink RX9 49 "HalfAskedModel" "endPence" "[I") (List.mem_of_getElem? (i := 1) rfl)) (fun _ h9 => h9) rfl dX9_giveBack_58 ?_
    refine lv_iconst (v := 5) hx hb dX9_giveBack_61 (by decide) ?_
    refine lv_iload_n hx hb dX9_giveBack_62 rfl (lv_at hl 2 rfl) ?_
    refine lv_imul hx hb dX9_giveBack_63 ?_
    refine lv_topi (fun f_34 ef_34 => ?_)
    obtain rfl : nI (5 * t) = f_34 := (ef_34.trans (pk_mul 5 t)).symm
    refine lv_iload hx hb dX9_giveBack_64 (lv_at hl 0 rfl) ?_
    refine lv_iadd hx hb dX9_giveBack_66 ?_
    refine lv_topi (fun f_35 ef_35 => ?_)
    obtain rfl : nI ((5 * t) + 3) = f_35 := (ef_35.trans (nI_add (5 * t) 3)).symm
    refine lv_aload_n hx hb dX9_giveBack_67 rfl (lv_at hl 3 rfl) ?_
    refine va_get (D := Z.1) (ci := 9) (v := .ref b14) (C := RX9) (T := TX9) (N := 31) hx hb hts hin9 hown hK hP 0 rfl rfl 18 (by decide) (hts (.fieldLink RX9 49 "HalfAskedModel" "endPence" "[I") (List.mem_of_getElem? (i := 1) rfl)) (fun _ h9 => h9) rfl dX9_giveBack_68 ?_
    refine lv_iconst (v := 5) hx hb dX9_giveBack_71 (by decide) ?_
    refine lv_iload_n hx hb dX9_giveBack_72 rfl (lv_at hl 4 rfl) ?_
    refine lv_imul hx hb dX9_giveBack_73 ?_
    refine lv_topi (fun f_36 ef_36 => ?_)
    obtain rfl : nI (5 * (t + 1)) = f_36 := (ef_36.trans (pk_mul 5 (t + 1))).symm
    refine lv_iload hx hb dX9_giveBack_74 (lv_at hl 0 rfl) ?_
    refine lv_iadd hx hb dX9_giveBack_76 ?_
    refine lv_topi (fun f_37 ef_37 => ?_)
    obtain rfl : nI ((5 * (t + 1)) + 3) = f_37 := (ef_37.trans (nI_add (5 * (t + 1)) 3)).symm
    refine va_iald hx hb hK hP 2 0 rfl rfl (vp_in_nI (by omega) (by decide)) dX9_giveBack_77 ?_
    refine lv_topi (fun f_38 ef_38 => ?_)
    obtain rfl : f14 (5 * (t + 1) + 3) = f_38 := (ef_38.trans (by rw [nI_clamp (show 5 * (t + 1) + 3 < 2 ^ 31 by omega), pk_un (show 5 * (t + 1) + 3 ≠ (nI (5 * t + 2)).toNatClampNeg by rw [nI_clamp (by omega)]; omega), pk_un (show 5 * (t + 1) + 3 ≠ (nI (5 * t + 1)).toNatClampNeg by rw [nI_clamp (by omega)]; omega), pk_un (show 5 * (t + 1) + 3 ≠ (nI (5 * t + 0)).toNatClampNeg by rw [nI_clamp (by omega)]; omega)])).symm
    refine va_iast hx hb hK hP hD hS 2 0 rfl rfl (vp_in_nI (by omega) (by decide)) dX9_giveBack_78 (fun H locs hP hD hS => ?_)
    have hP : va_P Z.1 vwCl [(h0, .inr (9, [.ref b1, .ref b2, .ref b3, .ref b4, .int (nI n), .ref b5, .int (nI pn), .ref b6, .ref b7, .ref b8, .int (nI tn), .int xp, .int xr, .ref b9, .ref b10, .ref b11, .ref b12, .ref b13, .ref b14, .ref b15, .ref b16, .ref b17, .ref b18, .int ik, .ref b19, .ref b20, .ref b21, .ref b22, .ref b23, .ref b24, .ref b25])), (b13, .inl (Z.2 0, 6, .inl f13)), (b14, .inl (Z.2 0, 30, .inl (upd (upd (upd (upd f14 ((nI ((5 * t) + 0)).toNatClampNeg) (f14 (5 * (t + 1) + 0))) ((nI ((5 * t) + 1)).toNatClampNeg) (f14 (5 * (t + 1) + 1))) ((nI ((5 * t) + 2)).toNatClampNeg) (f14 (5 * (t + 1) + 2))) ((nI ((5 * t) + 3)).toNatClampNeg) (f14 (5 * (t + 1) + 3))))), (b15, .inl (Z.2 0, 30, .inl (upd (upd (upd f15 ((nI ((5 * t) + 0)).toNatClampNeg) (f15 (5 * (t + 1) + 0))) ((nI ((5 * t) + 1)).toNatClampNeg) (f15 (5 * (t + 1) + 1))) ((nI ((5 * t) + 2)).toNatClampNeg) (f15 (5 * (t + 1) + 2)))))] H := hP
    have hD : va_D A [(h0, .inr (9, [.ref b1, .ref b2, .ref b3, .ref b4, .int (nI n), .ref b5, .int (nI pn), .ref b6, .ref b7, .ref b8, .int (nI tn), .int xp, .int xr, .ref b9, .ref b10, .ref b11, .ref b12, .ref b13, .ref b14, .ref b15, .ref b16, .ref b17, .ref b18, .int ik, .ref b19, .ref b20, .ref b21, .ref b22, .ref b23, .ref b24, .ref b25])), (b13, .inl (Z.2 0, 6, .inl f13)), (b14, .inl (Z.2 0, 30, .inl (upd (upd (upd (upd f14 ((nI ((5 * t) + 0)).toNatClampNeg) (f14 (5 * (t + 1) + 0))) ((nI ((5 * t) + 1)).toNatClampNeg) (f14 (5 * (t + 1) + 1))) ((nI ((5 * t) + 2)).toNatClampNeg) (f14 (5 * (t + 1) + 2))) ((nI ((5 * t) + 3)).toNatClampNeg) (f14 (5 * (t + 1) + 3))))), (b15, .inl (Z.2 0, 30, .inl (upd (upd (upd f15 ((nI ((5 * t) + 0)).toNatClampNeg) (f15 (5 * (t + 1) + 0))) ((nI ((5 * t) + 1)).toNatClampNeg) (f15 (5 * (t + 1) + 1))) ((nI ((5 * t) + 2)).toNatClampNeg) (f15 (5 * (t + 1) + 2)))))] := hD
    refine lv_aload_n hx hb dX9_giveBack_79 rfl (lv_at hl 3 rfl) ?_
    refine va_get (D := Z.1) (ci := 9) (v := .ref b15) (C := RX9) (T := TX9) (N := 31) hx hb hts hin9 hown hK hP 0 rfl rfl 19 (by decide) (hts (.fieldLink RX9 52 "HalfAskedModel" "choices" "[I") (List.mem_of_getElem? (i := 2) rfl)) (fun _ h9 => h9) rfl dX9_giveBack_80 ?_
    refine lv_iconst (v := 5) hx hb dX9_giveBack_83 (by decide) ?_
    refine lv_iload_n hx hb dX9_giveBack_84 rfl (lv_at hl 2 rfl) ?_
    refine lv_imul hx hb dX9_giveBack_85 ?_
    refine lv_topi (fun f_39 ef_39 => ?_)
    obtain rfl : nI (5 * t) = f_39 := (ef_39.trans (pk_mul 5 t)).symm
    refine lv_iload hx hb dX9_giveBack_86 (lv_at hl 0 rfl) ?_
    refine lv_iadd hx hb dX9_giveBack_88 ?_
    refine lv_topi (fun f_40 ef_40 => ?_)
    obtain rfl : nI ((5 * t) + 3) = f_40 := (ef_40.trans (nI_add (5 * t) 3)).symm
    refine lv_aload_n hx hb dX9_giveBack_89 rfl (lv_at hl 3 rfl) ?_
    refine va_get (D := Z.1) (ci := 9) (v := .ref b15) (C := RX9) (T := TX9) (N := 31) hx hb hts hin9 hown hK hP 0 rfl rfl 19 (by decide) (hts (.fieldLink RX9 52 "HalfAskedModel" "choices" "[I") (List.mem_of_getElem? (i := 2) rfl)) (fun _ h9 => h9) rfl dX9_giveBack_90 ?_
    refine lv_iconst (v := 5) hx hb dX9_giveBack_93 (by decide) ?_
    refine lv_iload_n hx hb dX9_giveBack_94 rfl (lv_at hl 4 rfl) ?_
    refine lv_imul hx hb dX9_giveBack_95 ?_
    refine lv_topi (fun f_41 ef_41 => ?_)
    obtain rfl : nI (5 * (t + 1)) = f_41 := (ef_41.trans (pk_mul 5 (t + 1))).symm
    refine lv_iload hx hb dX9_giveBack_96 (lv_at hl 0 rfl) ?_
    refine lv_iadd hx hb dX9_giveBack_98 ?_
    refine lv_topi (fun f_42 ef_42 => ?_)
    obtain rfl : nI ((5 * (t + 1)) + 3) = f_42 := (ef_42.trans (nI_add (5 * (t + 1)) 3)).symm
    refine va_iald hx hb hK hP 3 0 rfl rfl (vp_in_nI (by omega) (by decide)) dX9_giveBack_99 ?_
    refine lv_topi (fun f_43 ef_43 => ?_)
    obtain rfl : f15 (5 * (t + 1) + 3) = f_43 := (ef_43.trans (by rw [nI_clamp (show 5 * (t + 1) + 3 < 2 ^ 31 by omega), pk_un (show 5 * (t + 1) + 3 ≠ (nI (5 * t + 2)).toNatClampNeg by rw [nI_clamp (by omega)]; omega), pk_un (show 5 * (t + 1) + 3 ≠ (nI (5 * t + 1)).toNatClampNeg by rw [nI_clamp (by omega)]; omega), pk_un (show 5 * (t + 1) + 3 ≠ (nI (5 * t + 0)).toNatClampNeg by rw [nI_clamp (by omega)]; omega)])).symm
    refine va_iast hx hb hK hP hD hS 3 0 rfl rfl (vp_in_nI (by omega) (by decide)) dX9_giveBack_100 (fun H locs hP hD hS => ?_)
    have hP : va_P Z.1 vwCl [(h0, .inr (9, [.ref b1, .ref b2, .ref b3, .ref b4, .int (nI n), .ref b5, .int (nI pn), .ref b6, .ref b7, .ref b8, .int (nI tn), .int xp, .int xr, .ref b9, .ref b10, .ref b11, .ref b12, .ref b13, .ref b14, .ref b15, .ref b16, .ref b17, .ref b18, .int ik, .ref b19, .ref b20, .ref b21, .ref b22, .ref b23, .ref b24, .ref b25])), (b13, .inl (Z.2 0, 6, .inl f13)), (b14, .inl (Z.2 0, 30, .inl (upd (upd (upd (upd f14 ((nI ((5 * t) + 0)).toNatClampNeg) (f14 (5 * (t + 1) + 0))) ((nI ((5 * t) + 1)).toNatClampNeg) (f14 (5 * (t + 1) + 1))) ((nI ((5 * t) + 2)).toNatClampNeg) (f14 (5 * (t + 1) + 2))) ((nI ((5 * t) + 3)).toNatClampNeg) (f14 (5 * (t + 1) + 3))))), (b15, .inl (Z.2 0, 30, .inl (upd (upd (upd (upd f15 ((nI ((5 * t) + 0)).toNatClampNeg) (f15 (5 * (t + 1) + 0))) ((nI ((5 * t) + 1)).toNatClampNeg) (f15 (5 * (t + 1) + 1))) ((nI ((5 * t) + 2)).toNatClampNeg) (f15 (5 * (t + 1) + 2))) ((nI ((5 * t) + 3)).toNatClampNeg) (f15 (5 * (t + 1) + 3)))))] H := hP
    have hD : va_D A [(h0, .inr (9, [.ref b1, .ref b2, .ref b3, .ref b4, .int (nI n), .ref b5, .int (nI pn), .ref b6, .ref b7, .ref b8, .int (nI tn), .int xp, .int xr, .ref b9, .ref b10, .ref b11, .ref b12, .ref b13, .ref b14, .ref b15, .ref b16, .ref b17, .ref b18, .int ik, .ref b19, .ref b20, .ref b21, .ref b22, .ref b23, .ref b24, .ref b25])), (b13, .inl (Z.2 0, 6, .inl f13)), (b14, .inl (Z.2 0, 30, .inl (upd (upd (upd (upd f14 ((nI ((5 * t) + 0)).toNatClampNeg) (f14 (5 * (t + 1) + 0))) ((nI ((5 * t) + 1)).toNatClampNeg) (f14 (5 * (t + 1) + 1))) ((nI ((5 * t) + 2)).toNatClampNeg) (f14 (5 * (t + 1) + 2))) ((nI ((5 * t) + 3)).toNatClampNeg) (f14 (5 * (t + 1) + 3))))), (b15, .inl (Z.2 0, 30, .inl (upd (upd (upd (upd f15 ((nI ((5 * t) + 0)).toNatClampNeg) (f15 (5 * (t + 1) + 0))) ((nI ((5 * t) + 1)).toNatClampNeg) (f15 (5 * (t + 1) + 1))) ((nI ((5 * t) + 2)).toNatClampNeg) (f15 (5 * (t + 1) + 2))) ((nI ((5 * t) + 3)).toNatClampNeg) (f15 (5 * (t + 1) + 3)))))] := hD
    refine lv_iinc (v := 4) (lv' := [(4, .int 4), (3, .int 1), (2, .int (nI t)), (0, .ref h0), (1, .int (nI (t + 1)))]) hx hb dX9_giveBack_101 hl (k := 0) rfl (by decide) (by decide) rfl (fun ls hl => ?_)
    refine lv_goto (tgt := 47) hx hb dX9_giveBack_104 (by decide) ?_
    refine lv_iload hx hb dX9_giveBack_47 (lv_at hl 0 rfl) ?_
    refine lv_iconst (v := 5) hx hb dX9_giveBack_49 (by decide) ?_
    refine lv_icmp_ge (tgt := 107) hx hb dX9_giveBack_50 (by decide) (fun c9 => absurd c9 (by decide)) (fun _ => ?_)
    refine lv_iload_n hx hb dX9_giveBack_53 rfl (lv_at hl 1 rfl) ?_
    refine lv_if_eq (tgt := 107) hx hb dX9_giveBack_54 (by decide) (fun c9 => absurd c9 (by decide)) (fun _ => ?_)
    refine lv_aload_n hx hb dX9_giveBack_57 rfl (lv_at hl 3 rfl) ?_
    refine va_get (D := Z.1) (ci := 9) (v := .ref b14) (C := RX9) (T := TX9) (N := 31) hx hb hts hin9 hown hK hP 0 rfl rfl 18 (by decide) (hts (.fieldLink RX9 49 "HalfAskedModel" "endPence" "[I") (List.mem_of_getElem? (i := 1) rfl)) (fun _ h9 => h9) rfl dX9_giveBack_58 ?_
    refine lv_iconst (v := 5) hx hb dX9_giveBack_61 (by decide) ?_
    refine lv_iload_n hx hb dX9_giveBack_62 rfl (lv_at hl 2 rfl) ?_
    refine lv_imul hx hb dX9_giveBack_63 ?_
    refine lv_topi (fun f_44 ef_44 => ?_)
    obtain rfl : nI (5 * t) = f_44 := (ef_44.trans (pk_mul 5 t)).symm
    refine lv_iload hx hb dX9_giveBack_64 (lv_at hl 0 rfl) ?_
    refine lv_iadd hx hb dX9_giveBack_66 ?_
    refine lv_topi (fun f_45 ef_45 => ?_)
    obtain rfl : nI ((5 * t) + 4) = f_45 := (ef_45.trans (nI_add (5 * t) 4)).symm
    refine lv_aload_n hx hb dX9_giveBack_67 rfl (lv_at hl 3 rfl) ?_
    refine va_get (D := Z.1) (ci := 9) (v := .ref b14) (C := RX9) (T := TX9) (N := 31) hx hb hts hin9 hown hK hP 0 rfl rfl 18 (by decide) (hts (.fieldLink RX9 49 "HalfAskedModel" "endPence" "[I") (List.mem_of_getElem? (i := 1) rfl)) (fun _ h9 => h9) rfl dX9_giveBack_68 ?_
    refine lv_iconst (v := 5) hx hb dX9_giveBack_71 (by decide) ?_
    refine lv_iload_n hx hb dX9_giveBack_72 rfl (lv_at hl 4 rfl) ?_
    refine lv_imul hx hb dX9_giveBack_73 ?_
    refine lv_topi (fun f_46 ef_46 => ?_)
    obtain rfl : nI (5 * (t + 1)) = f_46 := (ef_46.trans (pk_mul 5 (t + 1))).symm
    refine lv_iload hx hb dX9_giveBack_74 (lv_at hl 0 rfl) ?_
    refine lv_iadd hx hb dX9_giveBack_76 ?_
    refine lv_topi (fun f_47 ef_47 => ?_)
    obtain rfl : nI ((5 * (t + 1)) + 4) = f_47 := (ef_47.trans (nI_add (5 * (t + 1)) 4)).symm
    refine va_iald hx hb hK hP 2 0 rfl rfl (vp_in_nI (by omega) (by decide)) dX9_giveBack_77 ?_
    refine lv_topi (fun f_48 ef_48 => ?_)
    obtain rfl : f14 (5 * (t + 1) + 4) = f_48 := (ef_48.trans (by rw [nI_clamp (show 5 * (t + 1) + 4 < 2 ^ 31 by omega), pk_un (show 5 * (t + 1) + 4 ≠ (nI (5 * t + 3)).toNatClampNeg by rw [nI_clamp (by omega)]; omega), pk_un (show 5 * (t + 1) + 4 ≠ (nI (5 * t + 2)).toNatClampNeg by rw [nI_clamp (by omega)]; omega), pk_un (show 5 * (t + 1) + 4 ≠ (nI (5 * t + 1)).toNatClampNeg by rw [nI_clamp (by omega)]; omega), pk_un (show 5 * (t + 1) + 4 ≠ (nI (5 * t + 0)).toNatClampNeg by rw [nI_clamp (by omega)]; omega)])).symm
    refine va_iast hx hb hK hP hD hS 2 0 rfl rfl (vp_in_nI (by omega) (by decide)) dX9_giveBack_78 (fun H locs hP hD hS => ?_)
    have hP : va_P Z.1 vwCl [(h0, .inr (9, [.ref b1, .ref b2, .ref b3, .ref b4, .int (nI n), .ref b5, .int (nI pn), .ref b6, .ref b7, .ref b8, .int (nI tn), .int xp, .int xr, .ref b9, .ref b10, .ref b11, .ref b12, .ref b13, .ref b14, .ref b15, .ref b16, .ref b17, .ref b18, .int ik, .ref b19, .ref b20, .ref b21, .ref b22, .ref b23, .ref b24, .ref b25])), (b13, .inl (Z.2 0, 6, .inl f13)), (b14, .inl (Z.2 0, 30, .inl (upd (upd (upd (upd (upd f14 ((nI ((5 * t) + 0)).toNatClampNeg) (f14 (5 * (t + 1) + 0))) ((nI ((5 * t) + 1)).toNatClampNeg) (f14 (5 * (t + 1) + 1))) ((nI ((5 * t) + 2)).toNatClampNeg) (f14 (5 * (t + 1) + 2))) ((nI ((5 * t) + 3)).toNatClampNeg) (f14 (5 * (t + 1) + 3))) ((nI ((5 * t) + 4)).toNatClampNeg) (f14 (5 * (t + 1) + 4))))), (b15, .inl (Z.2 0, 30, .inl (upd (upd (upd (upd f15 ((nI ((5 * t) + 0)).toNatClampNeg) (f15 (5 * (t + 1) + 0))) ((nI ((5 * t) + 1)).toNatClampNeg) (f15 (5 * (t + 1) + 1))) ((nI ((5 * t) + 2)).toNatClampNeg) (f15 (5 * (t + 1) + 2))) ((nI ((5 * t) + 3)).toNatClampNeg) (f15 (5 * (t + 1) + 3)))))] H := hP
    have hD : va_D A [(h0, .inr (9, [.ref b1, .ref b2, .ref b3, .ref b4, .int (nI n), .ref b5, .int (nI pn), .ref b6, .ref b7, .ref b8, .int (nI tn), .int xp, .int xr, .ref b9, .ref b10, .ref b11, .ref b12, .ref b13, .ref b14, .ref b15, .ref b16, .ref b17, .ref b18, .int ik, .ref b19, .ref b20, .ref b21, .ref b22, .ref b23, .ref b24, .ref b25])), (b13, .inl (Z.2 0, 6, .inl f13)), (b14, .inl (Z.2 0, 30, .inl (upd (upd (upd (upd (upd f14 ((nI ((5 * t) + 0)).toNatClampNeg) (f14 (5 * (t + 1) + 0))) ((nI ((5 * t) + 1)).toNatClampNeg) (f14 (5 * (t + 1) + 1))) ((nI ((5 * t) + 2)).toNatClampNeg) (f14 (5 * (t + 1) + 2))) ((nI ((5 * t) + 3)).toNatClampNeg) (f14 (5 * (t + 1) + 3))) ((nI ((5 * t) + 4)).toNatClampNeg) (f14 (5 * (t + 1) + 4))))), (b15, .inl (Z.2 0, 30, .inl (upd (upd (upd (upd f15 ((nI ((5 * t) + 0)).toNatClampNeg) (f15 (5 * (t + 1) + 0))) ((nI ((5 * t) + 1)).toNatClampNeg) (f15 (5 * (t + 1) + 1))) ((nI ((5 * t) + 2)).toNatClampNeg) (f15 (5 * (t + 1) + 2))) ((nI ((5 * t) + 3)).toNatClampNeg) (f15 (5 * (t + 1) + 3)))))] := hD
    refine lv_aload_n hx hb dX9_giveBack_79 rfl (lv_at hl 3 rfl) ?_
    refine va_get (D := Z.1) (ci := 9) (v := .ref b15) (C := RX9) (T := TX9) (N := 31) hx hb hts hin9 hown hK hP 0 rfl rfl 19 (by decide) (hts (.fieldLink RX9 52 "HalfAskedModel" "choices" "[I") (List.mem_of_getElem? (i := 2) rfl)) (fun _ h9 => h9) rfl dX9_giveBack_80 ?_
    refine lv_iconst (v := 5) hx hb dX9_giveBack_83 (by decide) ?_
    refine lv_iload_n hx hb dX9_giveBack_84 rfl (lv_at hl 2 rfl) ?_
    refine lv_imul hx hb dX9_giveBack_85 ?_
    refine lv_topi (fun f_49 ef_49 => ?_)
    obtain rfl : nI (5 * t) = f_49 := (ef_49.trans (pk_mul 5 t)).symm
    refine lv_iload hx hb dX9_giveBack_86 (lv_at hl 0 rfl) ?_
    refine lv_iadd hx hb dX9_giveBack_88 ?_
    refine lv_topi (fun f_50 ef_50 => ?_)
    obtain rfl : nI ((5 * t) + 4) = f_50 := (ef_50.trans (nI_add (5 * t) 4)).symm
    refine lv_aload_n hx hb dX9_giveBack_89 rfl (lv_at hl 3 rfl) ?_
    refine va_get (D := Z.1) (ci := 9) (v := .ref b15) (C := RX9) (T := TX9) (N := 31) hx hb hts hin9 hown hK hP 0 rfl rfl 19 (by decide) (hts (.fieldLink RX9 52 "HalfAskedModel" "choices" "[I") (List.mem_of_getElem? (i := 2) rfl)) (fun _ h9 => h9) rfl dX9_giveBack_90 ?_
    refine lv_iconst (v := 5) hx hb dX9_giveBack_93 (by decide) ?_
    refine lv_iload_n hx hb dX9_giveBack_94 rfl (lv_at hl 4 rfl) ?_
    refine lv_imul hx hb dX9_giveBack_95 ?_
    refine lv_topi (fun f_51 ef_51 => ?_)
    obtain rfl : nI (5 * (t + 1)) = f_51 := (ef_51.trans (pk_mul 5 (t + 1))).symm
    refine lv_iload hx hb dX9_giveBack_96 (lv_at hl 0 rfl) ?_
    refine lv_iadd hx hb dX9_giveBack_98 ?_
    refine lv_topi (fun f_52 ef_52 => ?_)
    obtain rfl : nI ((5 * (t + 1)) + 4) = f_52 := (ef_52.trans (nI_add (5 * (t + 1)) 4)).symm
    refine va_iald hx hb hK hP 3 0 rfl rfl (vp_in_nI (by omega) (by decide)) dX9_giveBack_99 ?_
    refine lv_topi (fun f_53 ef_53 => ?_)
    obtain rfl : f15 (5 * (t + 1) + 4) = f_53 := (ef_53.trans (by rw [nI_clamp (show 5 * (t + 1) + 4 < 2 ^ 31 by omega), pk_un (show 5 * (t + 1) + 4 ≠ (nI (5 * t + 3)).toNatClampNeg by rw [nI_clamp (by omega)]; omega), pk_un (show 5 * (t + 1) + 4 ≠ (nI (5 * t + 2)).toNatClampNeg by rw [nI_clamp (by omega)]; omega), pk_un (show 5 * (t + 1) + 4 ≠ (nI (5 * t + 1)).toNatClampNeg by rw [nI_clamp (by omega)]; omega), pk_un (show 5 * (t + 1) + 4 ≠ (nI (5 * t + 0)).toNatClampNeg by rw [nI_clamp (by omega)]; omega)])).symm
    refine va_iast hx hb hK hP hD hS 3 0 rfl rfl (vp_in_nI (by omega) (by decide)) dX9_giveBack_100 (fun H locs hP hD hS => ?_)
    have hP : va_P Z.1 vwCl [(h0, .inr (9, [.ref b1, .ref b2, .ref b3, .ref b4, .int (nI n), .ref b5, .int (nI pn), .ref b6, .ref b7, .ref b8, .int (nI tn), .int xp, .int xr, .ref b9, .ref b10, .ref b11, .ref b12, .ref b13, .ref b14, .ref b15, .ref b16, .ref b17, .ref b18, .int ik, .ref b19, .ref b20, .ref b21, .ref b22, .ref b23, .ref b24, .ref b25])), (b13, .inl (Z.2 0, 6, .inl f13)), (b14, .inl (Z.2 0, 30, .inl (upd (upd (upd (upd (upd f14 ((nI ((5 * t) + 0)).toNatClampNeg) (f14 (5 * (t + 1) + 0))) ((nI ((5 * t) + 1)).toNatClampNeg) (f14 (5 * (t + 1) + 1))) ((nI ((5 * t) + 2)).toNatClampNeg) (f14 (5 * (t + 1) + 2))) ((nI ((5 * t) + 3)).toNatClampNeg) (f14 (5 * (t + 1) + 3))) ((nI ((5 * t) + 4)).toNatClampNeg) (f14 (5 * (t + 1) + 4))))), (b15, .inl (Z.2 0, 30, .inl (upd (upd (upd (upd (upd f15 ((nI ((5 * t) + 0)).toNatClampNeg) (f15 (5 * (t + 1) + 0))) ((nI ((5 * t) + 1)).toNatClampNeg) (f15 (5 * (t + 1) + 1))) ((nI ((5 * t) + 2)).toNatClampNeg) (f15 (5 * (t + 1) + 2))) ((nI ((5 * t) + 3)).toNatClampNeg) (f15 (5 * (t + 1) + 3))) ((nI ((5 * t) + 4)).toNatClampNeg) (f15 (5 * (t + 1) + 4)))))] H := hP
    have hD : va_D A [(h0, .inr (9, [.ref b1, .ref b2, .ref b3, .ref b4, .int (nI n), .ref b5, .int (nI pn), .ref b6, .ref b7, .ref b8, .int (nI tn), .int xp, .int xr, .ref b9, .ref b10, .ref b11, .ref b12, .ref b13, .ref b14, .ref b15, .ref b16, .ref b17, .ref b18, .int ik, .ref b19, .ref b20, .ref b21, .ref b22, .ref b23, .ref b24, .ref b25])), (b13, .inl (Z.2 0, 6, .inl f13)), (b14, .inl (Z.2 0, 30, .inl (upd (upd (upd (upd (upd f14 ((nI ((5 * t) + 0)).toNatClampNeg) (f14 (5 * (t + 1) + 0))) ((nI ((5 * t) + 1)).toNatClampNeg) (f14 (5 * (t + 1) + 1))) ((nI ((5 * t) + 2)).toNatClampNeg) (f14 (5 * (t + 1) + 2))) ((nI ((5 * t) + 3)).toNatClampNeg) (f14 (5 * (t + 1) + 3))) ((nI ((5 * t) + 4)).toNatClampNeg) (f14 (5 * (t + 1) + 4))))), (b15, .inl (Z.2 0, 30, .inl (upd (upd (upd (upd (upd f15 ((nI ((5 * t) + 0)).toNatClampNeg) (f15 (5 * (t + 1) + 0))) ((nI ((5 * t) + 1)).toNatClampNeg) (f15 (5 * (t + 1) + 1))) ((nI ((5 * t) + 2)).toNatClampNeg) (f15 (5 * (t + 1) + 2))) ((nI ((5 * t) + 3)).toNatClampNeg) (f15 (5 * (t + 1) + 3))) ((nI ((5 * t) + 4)).toNatClampNeg) (f15 (5 * (t + 1) + 4)))))] := hD
    refine lv_iinc (v := 5) (lv' := [(4, .int 5), (3, .int 1), (2, .int (nI t)), (0, .ref h0), (1, .int (nI (t + 1)))]) hx hb dX9_giveBack_101 hl (k := 0) rfl (by decide) (by decide) rfl (fun ls hl => ?_)
    refine lv_goto (tgt := 47) hx hb dX9_giveBack_104 (by decide) ?_
    refine lv_iload hx hb dX9_giveBack_47 (lv_at hl 0 rfl) ?_
    refine lv_iconst (v := 5) hx hb dX9_giveBack_49 (by decide) ?_
    refine lv_icmp_ge (tgt := 107) hx hb dX9_giveBack_50 (by decide) (fun _ => ?_) (fun c9 => absurd c9 (by decide))
    refine lv_iload_n hx hb dX9_giveBack_107 rfl (lv_at hl 1 rfl) ?_
    refine lv_if_eq (tgt := 127) hx hb dX9_giveBack_108 (by decide) (fun c9 => absurd c9 (by decide)) (fun _ => ?_)
    refine lv_aload_n hx hb dX9_giveBack_111 rfl (lv_at hl 3 rfl) ?_
    refine va_get (D := Z.1) (ci := 9) (v := .ref b15) (C := RX9) (T := TX9) (N := 31) hx hb hts hin9 hown hK hP 0 rfl rfl 19 (by decide) (hts (.fieldLink RX9 52 "HalfAskedModel" "choices" "[I") (List.mem_of_getElem? (i := 2) rfl)) (fun _ h9 => h9) rfl dX9_giveBack_112 ?_
    refine lv_iconst (v := 5) hx hb dX9_giveBack_115 (by decide) ?_
    refine lv_iload_n hx hb dX9_giveBack_116 rfl (lv_at hl 2 rfl) ?_
    refine lv_imul hx hb dX9_giveBack_117 ?_
    refine lv_topi (fun f_54 ef_54 => ?_)
    obtain rfl : nI (5 * t) = f_54 := (ef_54.trans (pk_mul 5 t)).symm
    refine lv_iload_n hx hb dX9_giveBack_118 rfl (lv_at hl 2 rfl) ?_
    refine lv_iadd hx hb dX9_giveBack_119 ?_
    refine lv_topi (fun f_55 ef_55 => ?_)
    obtain rfl : nI ((5 * t) + t) = f_55 := (ef_55.trans (nI_add (5 * t) t)).symm
    refine lv_aload_n hx hb dX9_giveBack_120 rfl (lv_at hl 3 rfl) ?_
    refine va_get (D := Z.1) (ci := 9) (v := .ref b13) (C := RX9) (T := TX9) (N := 31) hx hb hts hin9 hown hK hP 0 rfl rfl 17 (by decide) (hts (.fieldLink RX9 46 "HalfAskedModel" "tried" "[I") (List.mem_of_getElem? (i := 3) rfl)) (fun _ h9 => h9) rfl dX9_giveBack_121 ?_
    refine lv_iload_n hx hb dX9_giveBack_124 rfl (lv_at hl 2 rfl) ?_
    refine va_iald hx hb hK hP 1 0 rfl rfl (vp_in_nI (by omega) (by decide)) dX9_giveBack_125 ?_
    refine va_iast hx hb hK hP hD hS 3 0 rfl rfl (vp_in_nI (by omega) (by decide)) dX9_giveBack_126 (fun H locs hP hD hS => ?_)
    have hP : va_P Z.1 vwCl [(h0, .inr (9, [.ref b1, .ref b2, .ref b3, .ref b4, .int (nI n), .ref b5, .int (nI pn), .ref b6, .ref b7, .ref b8, .int (nI tn), .int xp, .int xr, .ref b9, .ref b10, .ref b11, .ref b12, .ref b13, .ref b14, .ref b15, .ref b16, .ref b17, .ref b18, .int ik, .ref b19, .ref b20, .ref b21, .ref b22, .ref b23, .ref b24, .ref b25])), (b13, .inl (Z.2 0, 6, .inl f13)), (b14, .inl (Z.2 0, 30, .inl (upd (upd (upd (upd (upd f14 ((nI ((5 * t) + 0)).toNatClampNeg) (f14 (5 * (t + 1) + 0))) ((nI ((5 * t) + 1)).toNatClampNeg) (f14 (5 * (t + 1) + 1))) ((nI ((5 * t) + 2)).toNatClampNeg) (f14 (5 * (t + 1) + 2))) ((nI ((5 * t) + 3)).toNatClampNeg) (f14 (5 * (t + 1) + 3))) ((nI ((5 * t) + 4)).toNatClampNeg) (f14 (5 * (t + 1) + 4))))), (b15, .inl (Z.2 0, 30, .inl (upd (upd (upd (upd (upd (upd f15 ((nI ((5 * t) + 0)).toNatClampNeg) (f15 (5 * (t + 1) + 0))) ((nI ((5 * t) + 1)).toNatClampNeg) (f15 (5 * (t + 1) + 1))) ((nI ((5 * t) + 2)).toNatClampNeg) (f15 (5 * (t + 1) + 2))) ((nI ((5 * t) + 3)).toNatClampNeg) (f15 (5 * (t + 1) + 3))) ((nI ((5 * t) + 4)).toNatClampNeg) (f15 (5 * (t + 1) + 4))) ((nI ((5 * t) + t)).toNatClampNeg) (f13 (nI t).toNatClampNeg))))] H := hP
    have hD : va_D A [(h0, .inr (9, [.ref b1, .ref b2, .ref b3, .ref b4, .int (nI n), .ref b5, .int (nI pn), .ref b6, .ref b7, .ref b8, .int (nI tn), .int xp, .int xr, .ref b9, .ref b10, .ref b11, .ref b12, .ref b13, .ref b14, .ref b15, .ref b16, .ref b17, .ref b18, .int ik, .ref b19, .ref b20, .ref b21, .ref b22, .ref b23, .ref b24, .ref b25])), (b13, .inl (Z.2 0, 6, .inl f13)), (b14, .inl (Z.2 0, 30, .inl (upd (upd (upd (upd (upd f14 ((nI ((5 * t) + 0)).toNatClampNeg) (f14 (5 * (t + 1) + 0))) ((nI ((5 * t) + 1)).toNatClampNeg) (f14 (5 * (t + 1) + 1))) ((nI ((5 * t) + 2)).toNatClampNeg) (f14 (5 * (t + 1) + 2))) ((nI ((5 * t) + 3)).toNatClampNeg) (f14 (5 * (t + 1) + 3))) ((nI ((5 * t) + 4)).toNatClampNeg) (f14 (5 * (t + 1) + 4))))), (b15, .inl (Z.2 0, 30, .inl (upd (upd (upd (upd (upd (upd f15 ((nI ((5 * t) + 0)).toNatClampNeg) (f15 (5 * (t + 1) + 0))) ((nI ((5 * t) + 1)).toNatClampNeg) (f15 (5 * (t + 1) + 1))) ((nI ((5 * t) + 2)).toNatClampNeg) (f15 (5 * (t + 1) + 2))) ((nI ((5 * t) + 3)).toNatClampNeg) (f15 (5 * (t + 1) + 3))) ((nI ((5 * t) + 4)).toNatClampNeg) (f15 (5 * (t + 1) + 4))) ((nI ((5 * t) + t)).toNatClampNeg) (f13 (nI t).toNatClampNeg))))] := hD
    have hP9 := hP.sub (ws' := [(h0, .inr (9, [.ref b1, .ref b2, .ref b3, .ref b4, .int (nI n), .ref b5, .int (nI pn), .ref b6, .ref b7, .ref b8, .int (nI tn), .int xp, .int xr, .ref b9, .ref b10, .ref b11, .ref b12, .ref b13, .ref b14, .ref b15, .ref b16, .ref b17, .ref b18, .int ik, .ref b19, .ref b20, .ref b21, .ref b22, .ref b23, .ref b24, .ref b25])), (b13, .inl (Z.2 0, 6, .inl f13)), (b14, .inl (Z.2 0, 30, .inl (upd (upd (upd (upd (upd f14 ((nI ((5 * t) + 0)).toNatClampNeg) (f14 (5 * (t + 1) + 0))) ((nI ((5 * t) + 1)).toNatClampNeg) (f14 (5 * (t + 1) + 1))) ((nI ((5 * t) + 2)).toNatClampNeg) (f14 (5 * (t + 1) + 2))) ((nI ((5 * t) + 3)).toNatClampNeg) (f14 (5 * (t + 1) + 3))) ((nI ((5 * t) + 4)).toNatClampNeg) (f14 (5 * (t + 1) + 4))))), (b15, .inl (Z.2 0, 30, .inl (upd (upd (upd (upd (upd (upd f15 ((nI ((5 * t) + 0)).toNatClampNeg) (f15 (5 * (t + 1) + 0))) ((nI ((5 * t) + 1)).toNatClampNeg) (f15 (5 * (t + 1) + 1))) ((nI ((5 * t) + 2)).toNatClampNeg) (f15 (5 * (t + 1) + 2))) ((nI ((5 * t) + 3)).toNatClampNeg) (f15 (5 * (t + 1) + 3))) ((nI ((5 * t) + 4)).toNatClampNeg) (f15 (5 * (t + 1) + 4))) ((nI ((5 * t) + t)).toNatClampNeg) (f13 (nI t).toNatClampNeg))))]) [0, 1, 2, 3] rfl
    have hD9 := hD.sub (ws' := [(h0, .inr (9, [.ref b1, .ref b2, .ref b3, .ref b4, .int (nI n), .ref b5, .int (nI pn), .ref b6, .ref b7, .ref b8, .int (nI tn), .int xp, .int xr, .ref b9, .ref b10, .ref b11, .ref b12, .ref b13, .ref b14, .ref b15, .ref b16, .ref b17, .ref b18, .int ik, .ref b19, .ref b20, .ref b21, .ref b22, .ref b23, .ref b24, .ref b25])), (b13, .inl (Z.2 0, 6, .inl f13)), (b14, .inl (Z.2 0, 30, .inl (upd (upd (upd (upd (upd f14 ((nI ((5 * t) + 0)).toNatClampNeg) (f14 (5 * (t + 1) + 0))) ((nI ((5 * t) + 1)).toNatClampNeg) (f14 (5 * (t + 1) + 1))) ((nI ((5 * t) + 2)).toNatClampNeg) (f14 (5 * (t + 1) + 2))) ((nI ((5 * t) + 3)).toNatClampNeg) (f14 (5 * (t + 1) + 3))) ((nI ((5 * t) + 4)).toNatClampNeg) (f14 (5 * (t + 1) + 4))))), (b15, .inl (Z.2 0, 30, .inl (upd (upd (upd (upd (upd (upd f15 ((nI ((5 * t) + 0)).toNatClampNeg) (f15 (5 * (t + 1) + 0))) ((nI ((5 * t) + 1)).toNatClampNeg) (f15 (5 * (t + 1) + 1))) ((nI ((5 * t) + 2)).toNatClampNeg) (f15 (5 * (t + 1) + 2))) ((nI ((5 * t) + 3)).toNatClampNeg) (f15 (5 * (t + 1) + 3))) ((nI ((5 * t) + 4)).toNatClampNeg) (f15 (5 * (t + 1) + 4))) ((nI ((5 * t) + t)).toNatClampNeg) (f13 (nI t).toNatClampNeg))))]) [0, 1, 2, 3] (by decide +kernel) rfl
    exact W.vret hx hb hr (fun t9 ht hW => ⟨⟨(upd (upd (upd (upd (upd f14 ((nI ((5 * t) + 0)).toNatClampNeg) (f14 (5 * (t + 1) + 0))) ((nI ((5 * t) + 1)).toNatClampNeg) (f14 (5 * (t + 1) + 1))) ((nI ((5 * t) + 2)).toNatClampNeg) (f14 (5 * (t + 1) + 2))) ((nI ((5 * t) + 3)).toNatClampNeg) (f14 (5 * (t + 1) + 3))) ((nI ((5 * t) + 4)).toNatClampNeg) (f14 (5 * (t + 1) + 4)), upd (upd (upd (upd (upd (upd f15 ((nI ((5 * t) + 0)).toNatClampNeg) (f15 (5 * (t + 1) + 0))) ((nI ((5 * t) + 1)).toNatClampNeg) (f15 (5 * (t + 1) + 1))) ((nI ((5 * t) + 2)).toNatClampNeg) (f15 (5 * (t + 1) + 2))) ((nI ((5 * t) + 3)).toNatClampNeg) (f15 (5 * (t + 1) + 3))) ((nI ((5 * t) + 4)).toNatClampNeg) (f15 (5 * (t + 1) + 4))) ((nI ((5 * t) + t)).toNatClampNeg) (f13 (nI t).toNatClampNeg)), rfl, z_giveA (by omega) (z_betA (by omega) c_3), by rw [ht]; exact hP9, hD9⟩, hS.F ht⟩) hS.2.2 dX9_giveBack_127
  · refine lv_aload_n hx hb dX9_giveBack_15 rfl (lv_at hl 1 rfl) ?_
    refine va_get (D := Z.1) (ci := 9) (v := .ref b14) (C := RX9) (T := TX9) (N := 31) hx hb hts hin9 hown hK hP 0 rfl rfl 18 (by decide) (hts (.fieldLink RX9 49 "HalfAskedModel" "endPence" "[I") (List.mem_of_getElem? (i := 1) rfl)) (fun _ h9 => h9) rfl dX9_giveBack_16 ?_
    refine lv_iconst (v := 5) hx hb dX9_giveBack_19 (by decide) ?_
    refine lv_iload_n hx hb dX9_giveBack_20 rfl (lv_at hl 2 rfl) ?_
    refine lv_imul hx hb dX9_giveBack_21 ?_
    refine lv_topi (fun f_56 ef_56 => ?_)
    obtain rfl : nI (5 * (t + 1)) = f_56 := (ef_56.trans (pk_mul 5 (t + 1))).symm
    refine lv_iload_n hx hb dX9_giveBack_22 rfl (lv_at hl 0 rfl) ?_
    refine lv_iadd hx hb dX9_giveBack_23 ?_
    refine lv_topi (fun f_57 ef_57 => ?_)
    obtain rfl : nI ((5 * (t + 1)) + t) = f_57 := (ef_57.trans (nI_add (5 * (t + 1)) t)).symm
    refine va_iald hx hb hK hP 2 0 rfl rfl (vp_in_nI (by omega) (by decide)) dX9_giveBack_24 ?_
    refine lv_aload_n hx hb dX9_giveBack_25 rfl (lv_at hl 1 rfl) ?_
    refine va_get (D := Z.1) (ci := 9) (v := .ref b14) (C := RX9) (T := TX9) (N := 31) hx hb hts hin9 hown hK hP 0 rfl rfl 18 (by decide) (hts (.fieldLink RX9 49 "HalfAskedModel" "endPence" "[I") (List.mem_of_getElem? (i := 1) rfl)) (fun _ h9 => h9) rfl dX9_giveBack_26 ?_
    refine lv_iconst (v := 5) hx hb dX9_giveBack_29 (by decide) ?_
    refine lv_iload_n hx hb dX9_giveBack_30 rfl (lv_at hl 0 rfl) ?_
    refine lv_imul hx hb dX9_giveBack_31 ?_
    refine lv_topi (fun f_58 ef_58 => ?_)
    obtain rfl : nI (5 * t) = f_58 := (ef_58.trans (pk_mul 5 t)).symm
    refine lv_iload_n hx hb dX9_giveBack_32 rfl (lv_at hl 0 rfl) ?_
    refine lv_iadd hx hb dX9_giveBack_33 ?_
    refine lv_topi (fun f_59 ef_59 => ?_)
    obtain rfl : nI ((5 * t) + t) = f_59 := (ef_59.trans (nI_add (5 * t) t)).symm
    refine va_iald hx hb hK hP 2 0 rfl rfl (vp_in_nI (by omega) (by decide)) dX9_giveBack_34 ?_
    refine lv_icmp_le (tgt := 42) hx hb dX9_giveBack_35 (by decide) (fun c_60 => ?_) (fun c_60 => ?_)
    · refine lv_iconst (v := 0) hx hb dX9_giveBack_42 (by decide) ?_
      refine lv_istore_n (lv' := [(3, .int 0), (2, .int (nI t)), (0, .ref h0), (1, .int (nI (t + 1)))]) hx hb dX9_giveBack_43 rfl hl (by decide) rfl (fun ls hl => ?_)
      refine lv_iconst (v := 0) hx hb dX9_giveBack_44 (by decide) ?_
      refine lv_istore (lv' := [(4, .int 0), (3, .int 0), (2, .int (nI t)), (0, .ref h0), (1, .int (nI (t + 1)))]) hx hb dX9_giveBack_45 hl (by decide) rfl (fun ls hl => ?_)
      refine lv_iload hx hb dX9_giveBack_47 (lv_at hl 0 rfl) ?_
      refine lv_iconst (v := 5) hx hb dX9_giveBack_49 (by decide) ?_
      refine lv_icmp_ge (tgt := 107) hx hb dX9_giveBack_50 (by decide) (fun c9 => absurd c9 (by decide)) (fun _ => ?_)
      refine lv_iload_n hx hb dX9_giveBack_53 rfl (lv_at hl 1 rfl) ?_
      refine lv_if_eq (tgt := 107) hx hb dX9_giveBack_54 (by decide) (fun _ => ?_) (fun c9 => absurd c9 (by decide))
      refine lv_iload_n hx hb dX9_giveBack_107 rfl (lv_at hl 1 rfl) ?_
      refine lv_if_eq (tgt := 127) hx hb dX9_giveBack_108 (by decide) (fun _ => ?_) (fun c9 => absurd c9 (by decide))
      have hP9 := hP.sub (ws' := [(h0, .inr (9, [.ref b1, .ref b2, .ref b3, .ref b4, .int (nI n), .ref b5, .int (nI pn), .ref b6, .ref b7, .ref b8, .int (nI tn), .int xp, .int xr, .ref b9, .ref b10, .ref b11, .ref b12, .ref b13, .ref b14, .ref b15, .ref b16, .ref b17, .ref b18, .int ik, .ref b19, .ref b20, .ref b21, .ref b22, .ref b23, .ref b24, .ref b25])), (b13, .inl (Z.2 0, 6, .inl f13)), (b14, .inl (Z.2 0, 30, .inl f14)), (b15, .inl (Z.2 0, 30, .inl f15))]) [0, 1, 2, 3] rfl
      have hD9 := hD.sub (ws' := [(h0, .inr (9, [.ref b1, .ref b2, .ref b3, .ref b4, .int (nI n), .ref b5, .int (nI pn), .ref b6, .ref b7, .ref b8, .int (nI tn), .int xp, .int xr, .ref b9, .ref b10, .ref b11, .ref b12, .ref b13, .ref b14, .ref b15, .ref b16, .ref b17, .ref b18, .int ik, .ref b19, .ref b20, .ref b21, .ref b22, .ref b23, .ref b24, .ref b25])), (b13, .inl (Z.2 0, 6, .inl f13)), (b14, .inl (Z.2 0, 30, .inl f14)), (b15, .inl (Z.2 0, 30, .inl f15))]) [0, 1, 2, 3] (by decide +kernel) rfl
      exact W.vret hx hb hr (fun t9 ht hW => ⟨⟨(f14, f15), rfl, Or.inr ⟨z_betC (by omega) c_3 c_60, rfl, rfl⟩, by rw [ht]; exact hP9, hD9⟩, hS.F ht⟩) hS.2.2 dX9_giveBack_127
    · refine lv_iconst (v := 1) hx hb dX9_giveBack_38 (by decide) ?_
      refine lv_goto (tgt := 43) hx hb dX9_giveBack_39 (by decide) ?_
      refine lv_istore_n (lv' := [(3, .int 1), (2, .int (nI t)), (0, .ref h0), (1, .int (nI (t + 1)))]) hx hb dX9_giveBack_43 rfl hl (by decide) rfl (fun ls hl => ?_)
      refine lv_iconst (v := 0) hx hb dX9_giveBack_44 (by decide) ?_
      refine lv_istore (lv' := [(4, .int 0), (3, .int 1), (2, .int (nI t)), (0, .ref h0), (1, .int (nI (t + 1)))]) hx hb dX9_giveBack_45 hl (by decide) rfl (fun ls hl => ?_)
      refine lv_iload hx hb dX9_giveBack_47 (lv_at hl 0 rfl) ?_
      refine lv_iconst (v := 5) hx hb dX9_giveBack_49 (by decide) ?_
      refine lv_icmp_ge (tgt := 107) hx hb dX9_giveBack_50 (by decide) (fun c9 => absurd c9 (by decide)) (fun _ => ?_)
      refine lv_iload_n hx hb dX9_giveBack_53 rfl (lv_at hl 1 rfl) ?_
      refine lv_if_eq (tgt := 107) hx hb dX9_giveBack_54 (by decide) (fun c9 => absurd c9 (by decide)) (fun _ => ?_)
      refine lv_aload_n hx hb dX9_giveBack_57 rfl (lv_at hl 3 rfl) ?_
      refine va_get (D := Z.1) (ci := 9) (v := .ref b14) (C := RX9) (T := TX9) (N := 31) hx hb hts hin9 hown hK hP 0 rfl rfl 18 (by decide) (hts (.fieldLink RX9 49 "HalfAskedModel" "endPence" "[I") (List.mem_of_getElem? (i := 1) rfl)) (fun _ h9 => h9) rfl dX9_giveBack_58 ?_
      refine lv_iconst (v := 5) hx hb dX9_giveBack_61 (by decide) ?_
      refine lv_iload_n hx hb dX9_giveBack_62 rfl (lv_at hl 2 rfl) ?_
      refine lv_imul hx hb dX9_giveBack_63 ?_
      refine lv_topi (fun f_61 ef_61 => ?_)
      obtain rfl : nI (5 * t) = f_61 := (ef_61.trans (pk_mul 5 t)).symm
      refine lv_iload hx hb dX9_giveBack_64 (lv_at hl 0 rfl) ?_
      refine lv_iadd hx hb dX9_giveBack_66 ?_
      refine lv_topi (fun f_62 ef_62 => ?_)
      obtain rfl : nI ((5 * t) + 0) = f_62 := (ef_62.trans (nI_add (5 * t) 0)).symm
      refine lv_aload_n hx hb dX9_giveBack_67 rfl (lv_at hl 3 rfl) ?_
      refine va_get (D := Z.1) (ci := 9) (v := .ref b14) (C := RX9) (T := TX9) (N := 31) hx hb hts hin9 hown hK hP 0 rfl rfl 18 (by decide) (hts (.fieldLink RX9 49 "HalfAskedModel" "endPence" "[I") (List.mem_of_getElem? (i := 1) rfl)) (fun _ h9 => h9) rfl dX9_giveBack_68 ?_
      refine lv_iconst (v := 5) hx hb dX9_giveBack_71 (by decide) ?_
      refine lv_iload_n hx hb dX9_giveBack_72 rfl (lv_at hl 4 rfl) ?_
      refine lv_imul hx hb dX9_giveBack_73 ?_
      refine lv_topi (fun f_63 ef_63 => ?_)
      obtain rfl : nI (5 * (t + 1)) = f_63 := (ef_63.trans (pk_mul 5 (t + 1))).symm
      refine lv_iload hx hb dX9_giveBack_74 (lv_at hl 0 rfl) ?_
      refine lv_iadd hx hb dX9_giveBack_76 ?_
      refine lv_topi (fun f_64 ef_64 => ?_)
      obtain rfl : nI ((5 * (t + 1)) + 0) = f_64 := (ef_64.trans (nI_add (5 * (t + 1)) 0)).symm
      refine va_iald hx hb hK hP 2 0 rfl rfl (vp_in_nI (by omega) (by decide)) dX9_giveBack_77 ?_
      refine lv_topi (fun f_65 ef_65 => ?_)
      obtain rfl : f14 (5 * (t + 1) + 0) = f_65 := (ef_65.trans (by rw [nI_clamp (show 5 * (t + 1) + 0 < 2 ^ 31 by omega)])).symm
      refine va_iast hx hb hK hP hD hS 2 0 rfl rfl (vp_in_nI (by omega) (by decide)) dX9_giveBack_78 (fun H locs hP hD hS => ?_)
      have hP : va_P Z.1 vwCl [(h0, .inr (9, [.ref b1, .ref b2, .ref b3, .ref b4, .int (nI n), .ref b5, .int (nI pn), .ref b6, .ref b7, .ref b8, .int (nI tn), .int xp, .int xr, .ref b9, .ref b10, .ref b11, .ref b12, .ref b13, .ref b14, .ref b15, .ref b16, .ref b17, .ref b18, .int ik, .ref b19, .ref b20, .ref b21, .ref b22, .ref b23, .ref b24, .ref b25])), (b13, .inl (Z.2 0, 6, .inl f13)), (b14, .inl (Z.2 0, 30, .inl (upd f14 ((nI ((5 * t) + 0)).toNatClampNeg) (f14 (5 * (t + 1) + 0))))), (b15, .inl (Z.2 0, 30, .inl f15))] H := hP
      have hD : va_D A [(h0, .inr (9, [.ref b1, .ref b2, .ref b3, .ref b4, .int (nI n), .ref b5, .int (nI pn), .ref b6, .ref b7, .ref b8, .int (nI tn), .int xp, .int xr, .ref b9, .ref b10, .ref b11, .ref b12, .ref b13, .ref b14, .ref b15, .ref b16, .ref b17, .ref b18, .int ik, .ref b19, .ref b20, .ref b21, .ref b22, .ref b23, .ref b24, .ref b25])), (b13, .inl (Z.2 0, 6, .inl f13)), (b14, .inl (Z.2 0, 30, .inl (upd f14 ((nI ((5 * t) + 0)).toNatClampNeg) (f14 (5 * (t + 1) + 0))))), (b15, .inl (Z.2 0, 30, .inl f15))] := hD
      refine lv_aload_n hx hb dX9_giveBack_79 rfl (lv_at hl 3 rfl) ?_
      refine va_get (D := Z.1) (ci := 9) (v := .ref b15) (C := RX9) (T := TX9) (N := 31) hx hb hts hin9 hown hK hP 0 rfl rfl 19 (by decide) (hts (.fieldLink RX9 52 "HalfAskedModel" "choices" "[I") (List.mem_of_getElem? (i := 2) rfl)) (fun _ h9 => h9) rfl dX9_giveBack_80 ?_
      refine lv_iconst (v := 5) hx hb dX9_giveBack_83 (by decide) ?_
      refine lv_iload_n hx hb dX9_giveBack_84 rfl (lv_at hl 2 rfl) ?_
      refine lv_imul hx hb dX9_giveBack_85 ?_
      refine lv_topi (fun f_66 ef_66 => ?_)
      obtain rfl : nI (5 * t) = f_66 := (ef_66.trans (pk_mul 5 t)).symm
      refine lv_iload hx hb dX9_giveBack_86 (lv_at hl 0 rfl) ?_
      refine lv_iadd hx hb dX9_giveBack_88 ?_
      refine lv_topi (fun f_67 ef_67 => ?_)
      obtain rfl : nI ((5 * t) + 0) = f_67 := (ef_67.trans (nI_add (5 * t) 0)).symm
      refine lv_aload_n hx hb dX9_giveBack_89 rfl (lv_at hl 3 rfl) ?_
      refine va_get (D := Z.1) (ci := 9) (v := .ref b15) (C := RX9) (T := TX9) (N := 31) hx hb hts hin9 hown hK hP 0 rfl rfl 19 (by decide) (hts (.fieldLink RX9 52 "HalfAskedModel" "choices" "[I") (List.mem_of_getElem? (i := 2) rfl)) (fun _ h9 => h9) rfl dX9_giveBack_90 ?_
      refine lv_iconst (v := 5) hx hb dX9_giveBack_93 (by decide) ?_
      refine lv_iload_n hx hb dX9_giveBack_94 rfl (lv_at hl 4 rfl) ?_
      refine lv_imul hx hb dX9_giveBack_95 ?_
      refine lv_topi (fun f_68 ef_68 => ?_)
      obtain rfl : nI (5 * (t + 1)) = f_68 := (ef_68.trans (pk_mul 5 (t + 1))).symm
      refine lv_iload hx hb dX9_giveBack_96 (lv_at hl 0 rfl) ?_
      refine lv_iadd hx hb dX9_giveBack_98 ?_
      refine lv_topi (fun f_69 ef_69 => ?_)
      obtain rfl : nI ((5 * (t + 1)) + 0) = f_69 := (ef_69.trans (nI_add (5 * (t + 1)) 0)).symm
      refine va_iald hx hb hK hP 3 0 rfl rfl (vp_in_nI (by omega) (by decide)) dX9_giveBack_99 ?_
      refine lv_topi (fun f_70 ef_70 => ?_)
      obtain rfl : f15 (5 * (t + 1) + 0) = f_70 := (ef_70.trans (by rw [nI_clamp (show 5 * (t + 1) + 0 < 2 ^ 31 by omega)])).symm
      refine va_iast hx hb hK hP hD hS 3 0 rfl rfl (vp_in_nI (by omega) (by decide)) dX9_giveBack_100 (fun H locs hP hD hS => ?_)
      have hP : va_P Z.1 vwCl [(h0, .inr (9, [.ref b1, .ref b2, .ref b3, .ref b4, .int (nI n), .ref b5, .int (nI pn), .ref b6, .ref b7, .ref b8, .int (nI tn), .int xp, .int xr, .ref b9, .ref b10, .ref b11, .ref b12, .ref b13, .ref b14, .ref b15, .ref b16, .ref b17, .ref b18, .int ik, .ref b19, .ref b20, .ref b21, .ref b22, .ref b23, .ref b24, .ref b25])), (b13, .inl (Z.2 0, 6, .inl f13)), (b14, .inl (Z.2 0, 30, .inl (upd f14 ((nI ((5 * t) + 0)).toNatClampNeg) (f14 (5 * (t + 1) + 0))))), (b15, .inl (Z.2 0, 30, .inl (upd f15 ((nI ((5 * t) + 0)).toNatClampNeg) (f15 (5 * (t + 1) + 0)))))] H := hP
      have hD : va_D A [(h0, .inr (9, [.ref b1, .ref b2, .ref b3, .ref b4, .int (nI n), .ref b5, .int (nI pn), .ref b6, .ref b7, .ref b8, .int (nI tn), .int xp, .int xr, .ref b9, .ref b10, .ref b11, .ref b12, .ref b13, .ref b14, .ref b15, .ref b16, .ref b17, .ref b18, .int ik, .ref b19, .ref b20, .ref b21, .ref b22, .ref b23, .ref b24, .ref b25])), (b13, .inl (Z.2 0, 6, .inl f13)), (b14, .inl (Z.2 0, 30, .inl (upd f14 ((nI ((5 * t) + 0)).toNatClampNeg) (f14 (5 * (t + 1) + 0))))), (b15, .inl (Z.2 0, 30, .inl (upd f15 ((nI ((5 * t) + 0)).toNatClampNeg) (f15 (5 * (t + 1) + 0)))))] := hD
      refine lv_iinc (v := 1) (lv' := [(4, .int 1), (3, .int 1), (2, .int (nI t)), (0, .ref h0), (1, .int (nI (t + 1)))]) hx hb dX9_giveBack_101 hl (k := 0) rfl (by decide) (by decide) rfl (fun ls hl => ?_)
      refine lv_goto (tgt := 47) hx hb dX9_giveBack_104 (by decide) ?_
      refine lv_iload hx hb dX9_giveBack_47 (lv_at hl 0 rfl) ?_
      refine lv_iconst (v := 5) hx hb dX9_giveBack_49 (by decide) ?_
      refine lv_icmp_ge (tgt := 107) hx hb dX9_giveBack_50 (by decide) (fun c9 => absurd c9 (by decide)) (fun _ => ?_)
      refine lv_iload_n hx hb dX9_giveBack_53 rfl (lv_at hl 1 rfl) ?_
      refine lv_if_eq (tgt := 107) hx hb dX9_giveBack_54 (by decide) (fun c9 => absurd c9 (by decide)) (fun _ => ?_)
      refine lv_aload_n hx hb dX9_giveBack_57 rfl (lv_at hl 3 rfl) ?_
      refine va_get (D := Z.1) (ci := 9) (v := .ref b14) (C := RX9) (T := TX9) (N := 31) hx hb hts hin9 hown hK hP 0 rfl rfl 18 (by decide) (hts (.fieldLink RX9 49 "HalfAskedModel" "endPence" "[I") (List.mem_of_getElem? (i := 1) rfl)) (fun _ h9 => h9) rfl dX9_giveBack_58 ?_
      refine lv_iconst (v := 5) hx hb dX9_giveBack_61 (by decide) ?_
      refine lv_iload_n hx hb dX9_giveBack_62 rfl (lv_at hl 2 rfl) ?_
      refine lv_imul hx hb dX9_giveBack_63 ?_
      refine lv_topi (fun f_71 ef_71 => ?_)
      obtain rfl : nI (5 * t) = f_71 := (ef_71.trans (pk_mul 5 t)).symm
      refine lv_iload hx hb dX9_giveBack_64 (lv_at hl 0 rfl) ?_
      refine lv_iadd hx hb dX9_giveBack_66 ?_
      refine lv_topi (fun f_72 ef_72 => ?_)
      obtain rfl : nI ((5 * t) + 1) = f_72 := (ef_72.trans (nI_1 _)).symm
      refine lv_aload_n hx hb dX9_giveBack_67 rfl (lv_at hl 3 rfl) ?_
      refine va_get (D := Z.1) (ci := 9) (v := .ref b14) (C := RX9) (T := TX9) (N := 31) hx hb hts hin9 hown hK hP 0 rfl rfl 18 (by decide) (hts (.fieldLink RX9 49 "HalfAskedModel" "endPence" "[I") (List.mem_of_getElem? (i := 1) rfl)) (fun _ h9 => h9) rfl dX9_giveBack_68 ?_
      refine lv_iconst (v := 5) hx hb dX9_giveBack_71 (by decide) ?_
      refine lv_iload_n hx hb dX9_giveBack_72 rfl (lv_at hl 4 rfl) ?_
      refine lv_imul hx hb dX9_giveBack_73 ?_
      refine lv_topi (fun f_73 ef_73 => ?_)
      obtain rfl : nI (5 * (t + 1)) = f_73 := (ef_73.trans (pk_mul 5 (t + 1))).symm
      refine lv_iload hx hb dX9_giveBack_74 (lv_at hl 0 rfl) ?_
      refine lv_iadd hx hb dX9_giveBack_76 ?_
      refine lv_topi (fun f_74 ef_74 => ?_)
      obtain rfl : nI ((5 * (t + 1)) + 1) = f_74 := (ef_74.trans (nI_1 _)).symm
      refine va_iald hx hb hK hP 2 0 rfl rfl (vp_in_nI (by omega) (by decide)) dX9_giveBack_77 ?_
      refine lv_topi (fun f_75 ef_75 => ?_)
      obtain rfl : f14 (5 * (t + 1) + 1) = f_75 := (ef_75.trans (by rw [nI_clamp (show 5 * (t + 1) + 1 < 2 ^ 31 by omega), pk_un (show 5 * (t + 1) + 1 ≠ (nI (5 * t + 0)).toNatClampNeg by rw [nI_clamp (by omega)]; omega)])).symm
      refine va_iast hx hb hK hP hD hS 2 0 rfl rfl (vp_in_nI (by omega) (by decide)) dX9_giveBack_78 (fun H locs hP hD hS => ?_)
      have hP : va_P Z.1 vwCl [(h0, .inr (9, [.ref b1, .ref b2, .ref b3, .ref b4, .int (nI n), .ref b5, .int (nI pn), .ref b6, .ref b7, .ref b8, .int (nI tn), .int xp, .int xr, .ref b9, .ref b10, .ref b11, .ref b12, .ref b13, .ref b14, .ref b15, .ref b16, .ref b17, .ref b18, .int ik, .ref b19, .ref b20, .ref b21, .ref b22, .ref b23, .ref b24, .ref b25])), (b13, .inl (Z.2 0, 6, .inl f13)), (b14, .inl (Z.2 0, 30, .inl (upd (upd f14 ((nI ((5 * t) + 0)).toNatClampNeg) (f14 (5 * (t + 1) + 0))) ((nI ((5 * t) + 1)).toNatClampNeg) (f14 (5 * (t + 1) + 1))))), (b15, .inl (Z.2 0, 30, .inl (upd f15 ((nI ((5 * t) + 0)).toNatClampNeg) (f15 (5 * (t + 1) + 0)))))] H := hP
      have hD : va_D A [(h0, .inr (9, [.ref b1, .ref b2, .ref b3, .ref b4, .int (nI n), .ref b5, .int (nI pn), .ref b6, .ref b7, .ref b8, .int (nI tn), .int xp, .int xr, .ref b9, .ref b10, .ref b11, .ref b12, .ref b13, .ref b14, .ref b15, .ref b16, .ref b17, .ref b18, .int ik, .ref b19, .ref b20, .ref b21, .ref b22, .ref b23, .ref b24, .ref b25])), (b13, .inl (Z.2 0, 6, .inl f13)), (b14, .inl (Z.2 0, 30, .inl (upd (upd f14 ((nI ((5 * t) + 0)).toNatClampNeg) (f14 (5 * (t + 1) + 0))) ((nI ((5 * t) + 1)).toNatClampNeg) (f14 (5 * (t + 1) + 1))))), (b15, .inl (Z.2 0, 30, .inl (upd f15 ((nI ((5 * t) + 0)).toNatClampNeg) (f15 (5 * (t + 1) + 0)))))] := hD
      refine lv_aload_n hx hb dX9_giveBack_79 rfl (lv_at hl 3 rfl) ?_
      refine va_get (D := Z.1) (ci := 9) (v := .ref b15) (C := RX9) (T := TX9) (N := 31) hx hb hts hin9 hown hK hP 0 rfl rfl 19 (by decide) (hts (.fieldLink RX9 52 "HalfAskedModel" "choices" "[I") (List.mem_of_getElem? (i := 2) rfl)) (fun _ h9 => h9) rfl dX9_giveBack_80 ?_
      refine lv_iconst (v := 5) hx hb dX9_giveBack_83 (by decide) ?_
      refine lv_iload_n hx hb dX9_giveBack_84 rfl (lv_at hl 2 rfl) ?_
      refine lv_imul hx hb dX9_giveBack_85 ?_
      refine lv_topi (fun f_76 ef_76 => ?_)
      obtain rfl : nI (5 * t) = f_76 := (ef_76.trans (pk_mul 5 t)).symm
      refine lv_iload hx hb dX9_giveBack_86 (lv_at hl 0 rfl) ?_
      refine lv_iadd hx hb dX9_giveBack_88 ?_
      refine lv_topi (fun f_77 ef_77 => ?_)
      obtain rfl : nI ((5 * t) + 1) = f_77 := (ef_77.trans (nI_1 _)).symm
      refine lv_aload_n hx hb dX9_giveBack_89 rfl (lv_at hl 3 rfl) ?_
      refine va_get (D := Z.1) (ci := 9) (v := .ref b15) (C := RX9) (T := TX9) (N := 31) hx hb hts hin9 hown hK hP 0 rfl rfl 19 (by decide) (hts (.fieldLink RX9 52 "HalfAskedModel" "choices" "[I") (List.mem_of_getElem? (i := 2) rfl)) (fun _ h9 => h9) rfl dX9_giveBack_90 ?_
      refine lv_iconst (v := 5) hx hb dX9_giveBack_93 (by decide) ?_
      refine lv_iload_n hx hb dX9_giveBack_94 rfl (lv_at hl 4 rfl) ?_
      refine lv_imul hx hb dX9_giveBack_95 ?_
      refine lv_topi (fun f_78 ef_78 => ?_)
      obtain rfl : nI (5 * (t + 1)) = f_78 := (ef_78.trans (pk_mul 5 (t + 1))).symm
      refine lv_iload hx hb dX9_giveBack_96 (lv_at hl 0 rfl) ?_
      refine lv_iadd hx hb dX9_giveBack_98 ?_
      refine lv_topi (fun f_79 ef_79 => ?_)
      obtain rfl : nI ((5 * (t + 1)) + 1) = f_79 := (ef_79.trans (nI_1 _)).symm
      refine va_iald hx hb hK hP 3 0 rfl rfl (vp_in_nI (by omega) (by decide)) dX9_giveBack_99 ?_
      refine lv_topi (fun f_80 ef_80 => ?_)
      obtain rfl : f15 (5 * (t + 1) + 1) = f_80 := (ef_80.trans (by rw [nI_clamp (show 5 * (t + 1) + 1 < 2 ^ 31 by omega), pk_un (show 5 * (t + 1) + 1 ≠ (nI (5 * t + 0)).toNatClampNeg by rw [nI_clamp (by omega)]; omega)])).symm
      refine va_iast hx hb hK hP hD hS 3 0 rfl rfl (vp_in_nI (by omega) (by decide)) dX9_giveBack_100 (fun H locs hP hD hS => ?_)
      have hP : va_P Z.1 vwCl [(h0, .inr (9, [.ref b1, .ref b2, .ref b3, .ref b4, .int (nI n), .ref b5, .int (nI pn), .ref b6, .ref b7, .ref b8, .int (nI tn), .int xp, .int xr, .ref b9, .ref b10, .ref b11, .ref b12, .ref b13, .ref b14, .ref b15, .ref b16, .ref b17, .ref b18, .int ik, .ref b19, .ref b20, .ref b21, .ref b22, .ref b23, .ref b24, .ref b25])), (b13, .inl (Z.2 0, 6, .inl f13)), (b14, .inl (Z.2 0, 30, .inl (upd (upd f14 ((nI ((5 * t) + 0)).toNatClampNeg) (f14 (5 * (t + 1) + 0))) ((nI ((5 * t) + 1)).toNatClampNeg) (f14 (5 * (t + 1) + 1))))), (b15, .inl (Z.2 0, 30, .inl (upd (upd f15 ((nI ((5 * t) + 0)).toNatClampNeg) (f15 (5 * (t + 1) + 0))) ((nI ((5 * t) + 1)).toNatClampNeg) (f15 (5 * (t + 1) + 1)))))] H := hP
      have hD : va_D A [(h0, .inr (9, [.ref b1, .ref b2, .ref b3, .ref b4, .int (nI n), .ref b5, .int (nI pn), .ref b6, .ref b7, .ref b8, .int (nI tn), .int xp, .int xr, .ref b9, .ref b10, .ref b11, .ref b12, .ref b13, .ref b14, .ref b15, .ref b16, .ref b17, .ref b18, .int ik, .ref b19, .ref b20, .ref b21, .ref b22, .ref b23, .ref b24, .ref b25])), (b13, .inl (Z.2 0, 6, .inl f13)), (b14, .inl (Z.2 0, 30, .inl (upd (upd f14 ((nI ((5 * t) + 0)).toNatClampNeg) (f14 (5 * (t + 1) + 0))) ((nI ((5 * t) + 1)).toNatClampNeg) (f14 (5 * (t + 1) + 1))))), (b15, .inl (Z.2 0, 30, .inl (upd (upd f15 ((nI ((5 * t) + 0)).toNatClampNeg) (f15 (5 * (t + 1) + 0))) ((nI ((5 * t) + 1)).toNatClampNeg) (f15 (5 * (t + 1) + 1)))))] := hD
      refine lv_iinc (v := 2) (lv' := [(4, .int 2), (3, .int 1), (2, .int (nI t)), (0, .ref h0), (1, .int (nI (t + 1)))]) hx hb dX9_giveBack_101 hl (k := 0) rfl (by decide) (by decide) rfl (fun ls hl => ?_)
      refine lv_goto (tgt := 47) hx hb dX9_giveBack_104 (by decide) ?_
      refine lv_iload hx hb dX9_giveBack_47 (lv_at hl 0 rfl) ?_
      refine lv_iconst (v := 5) hx hb dX9_giveBack_49 (by decide) ?_
      refine lv_icmp_ge (tgt := 107) hx hb dX9_giveBack_50 (by decide) (fun c9 => absurd c9 (by decide)) (fun _ => ?_)
      refine lv_iload_n hx hb dX9_giveBack_53 rfl (lv_at hl 1 rfl) ?_
      refine lv_if_eq (tgt := 107) hx hb dX9_giveBack_54 (by decide) (fun c9 => absurd c9 (by decide)) (fun _ => ?_)
      refine lv_aload_n hx hb dX9_giveBack_57 rfl (lv_at hl 3 rfl) ?_
      refine va_get (D := Z.1) (ci := 9) (v := .ref b14) (C := RX9) (T := TX9) (N := 31) hx hb hts hin9 hown hK hP 0 rfl rfl 18 (by decide) (hts (.fieldLink RX9 49 "HalfAskedModel" "endPence" "[I") (List.mem_of_getElem? (i := 1) rfl)) (fun _ h9 => h9) rfl dX9_giveBack_58 ?_
      refine lv_iconst (v := 5) hx hb dX9_giveBack_61 (by decide) ?_
      refine lv_iload_n hx hb dX9_giveBack_62 rfl (lv_at hl 2 rfl) ?_
      refine lv_imul hx hb dX9_giveBack_63 ?_
      refine lv_topi (fun f_81 ef_81 => ?_)
      obtain rfl : nI (5 * t) = f_81 := (ef_81.trans (pk_mul 5 t)).symm
      refine lv_iload hx hb dX9_giveBack_64 (lv_at hl 0 rfl) ?_
      refine lv_iadd hx hb dX9_giveBack_66 ?_
      refine lv_topi (fun f_82 ef_82 => ?_)
      obtain rfl : nI ((5 * t) + 2) = f_82 := (ef_82.trans (nI_add (5 * t) 2)).symm
      refine lv_aload_n hx hb dX9_giveBack_67 rfl (lv_at hl 3 rfl) ?_
      refine va_get (D := Z.1) (ci := 9) (v := .ref b14) (C := RX9) (T := TX9) (N := 31) hx hb hts hin9 hown hK hP 0 rfl rfl 18 (by decide) (hts (.fieldLink RX9 49 "HalfAskedModel" "endPence" "[I") (List.mem_of_getElem? (i := 1) rfl)) (fun _ h9 => h9) rfl dX9_giveBack_68 ?_
      refine lv_iconst (v := 5) hx hb dX9_giveBack_71 (by decide) ?_
      refine lv_iload_n hx hb dX9_giveBack_72 rfl (lv_at hl 4 rfl) ?_
      refine lv_imul hx hb dX9_giveBack_73 ?_
      refine lv_topi (fun f_83 ef_83 => ?_)
      obtain rfl : nI (5 * (t + 1)) = f_83 := (ef_83.trans (pk_mul 5 (t + 1))).symm
      refine lv_iload hx hb dX9_giveBack_74 (lv_at hl 0 rfl) ?_
      refine lv_iadd hx hb dX9_giveBack_76 ?_
      refine lv_topi (fun f_84 ef_84 => ?_)
      obtain rfl : nI ((5 * (t + 1)) + 2) = f_84 := (ef_84.trans (nI_add (5 * (t + 1)) 2)).symm
      refine va_iald hx hb hK hP 2 0 rfl rfl (vp_in_nI (by omega) (by decide)) dX9_giveBack_77 ?_
      refine lv_topi (fun f_85 ef_85 => ?_)
      obtain rfl : f14 (5 * (t + 1) + 2) = f_85 := (ef_85.trans (by rw [nI_clamp (show 5 * (t + 1) + 2 < 2 ^ 31 by omega), pk_un (show 5 * (t + 1) + 2 ≠ (nI (5 * t + 1)).toNatClampNeg by rw [nI_clamp (by omega)]; omega), pk_un (show 5 * (t + 1) + 2 ≠ (nI (5 * t + 0)).toNatClampNeg by rw [nI_clamp (by omega)]; omega)])).symm
      refine va_iast hx hb hK hP hD hS 2 0 rfl rfl (vp_in_nI (by omega) (by decide)) dX9_giveBack_78 (fun H locs hP hD hS => ?_)
      have hP : va_P Z.1 vwCl [(h0, .inr (9, [.ref b1, .ref b2, .ref b3, .ref b4, .int (nI n), .ref b5, .int (nI pn), .ref b6, .ref b7, .ref b8, .int (nI tn), .int xp, .int xr, .ref b9, .ref b10, .ref b11, .ref b12, .ref b13, .ref b14, .ref b15, .ref b16, .ref b17, .ref b18, .int ik, .ref b19, .ref b20, .ref b21, .ref b22, .ref b23, .ref b24, .ref b25])), (b13, .inl (Z.2 0, 6, .inl f13)), (b14, .inl (Z.2 0, 30, .inl (upd (upd (upd f14 ((nI ((5 * t) + 0)).toNatClampNeg) (f14 (5 * (t + 1) + 0))) ((nI ((5 * t) + 1)).toNatClampNeg) (f14 (5 * (t + 1) + 1))) ((nI ((5 * t) + 2)).toNatClampNeg) (f14 (5 * (t + 1) + 2))))), (b15, .inl (Z.2 0, 30, .inl (upd (upd f15 ((nI ((5 * t) + 0)).toNatClampNeg) (f15 (5 * (t + 1) + 0))) ((nI ((5 * t) + 1)).toNatClampNeg) (f15 (5 * (t + 1) + 1)))))] H := hP
      have hD : va_D A [(h0, .inr (9, [.ref b1, .ref b2, .ref b3, .ref b4, .int (nI n), .ref b5, .int (nI pn), .ref b6, .ref b7, .ref b8, .int (nI tn), .int xp, .int xr, .ref b9, .ref b10, .ref b11, .ref b12, .ref b13, .ref b14, .ref b15, .ref b16, .ref b17, .ref b18, .int ik, .ref b19, .ref b20, .ref b21, .ref b22, .ref b23, .ref b24, .ref b25])), (b13, .inl (Z.2 0, 6, .inl f13)), (b14, .inl (Z.2 0, 30, .inl (upd (upd (upd f14 ((nI ((5 * t) + 0)).toNatClampNeg) (f14 (5 * (t + 1) + 0))) ((nI ((5 * t) + 1)).toNatClampNeg) (f14 (5 * (t + 1) + 1))) ((nI ((5 * t) + 2)).toNatClampNeg) (f14 (5 * (t + 1) + 2))))), (b15, .inl (Z.2 0, 30, .inl (upd (upd f15 ((nI ((5 * t) + 0)).toNatClampNeg) (f15 (5 * (t + 1) + 0))) ((nI ((5 * t) + 1)).toNatClampNeg) (f15 (5 * (t + 1) + 1)))))] := hD
      refine lv_aload_n hx hb dX9_giveBack_79 rfl (lv_at hl 3 rfl) ?_
      refine va_get (D := Z.1) (ci := 9) (v := .ref b15) (C := RX9) (T := TX9) (N := 31) hx hb hts hin9 hown hK hP 0 rfl rfl 19 (by decide) (hts (.fieldLink RX9 52 "HalfAskedModel" "choices" "[I") (List.mem_of_getElem? (i := 2) rfl)) (fun _ h9 => h9) rfl dX9_giveBack_80 ?_
      refine lv_iconst (v := 5) hx hb dX9_giveBack_83 (by decide) ?_
      refine lv_iload_n hx hb dX9_giveBack_84 rfl (lv_at hl 2 rfl) ?_
      refine lv_imul hx hb dX9_giveBack_85 ?_
      refine lv_topi (fun f_86 ef_86 => ?_)
      obtain rfl : nI (5 * t) = f_86 := (ef_86.trans (pk_mul 5 t)).symm
      refine lv_iload hx hb dX9_giveBack_86 (lv_at hl 0 rfl) ?_
      refine lv_iadd hx hb dX9_giveBack_88 ?_
      refine lv_topi (fun f_87 ef_87 => ?_)
      obtain rfl : nI ((5 * t) + 2) = f_87 := (ef_87.trans (nI_add (5 * t) 2)).symm
      refine lv_aload_n hx hb dX9_giveBack_89 rfl (lv_at hl 3 rfl) ?_
      refine va_get (D := Z.1) (ci := 9) (v := .ref b15) (C := RX9) (T := TX9) (N := 31) hx hb hts hin9 hown hK hP 0 rfl rfl 19 (by decide) (hts (.fieldLink RX9 52 "HalfAskedModel" "choices" "[I") (List.mem_of_getElem? (i := 2) rfl)) (fun _ h9 => h9) rfl dX9_giveBack_90 ?_
      refine lv_iconst (v := 5) hx hb dX9_giveBack_93 (by decide) ?_
      refine lv_iload_n hx hb dX9_giveBack_94 rfl (lv_at hl 4 rfl) ?_
      refine lv_imul hx hb dX9_giveBack_95 ?_
      refine lv_topi (fun f_88 ef_88 => ?_)
      obtain rfl : nI (5 * (t + 1)) = f_88 := (ef_88.trans (pk_mul 5 (t + 1))).symm
      refine lv_iload hx hb dX9_giveBack_96 (lv_at hl 0 rfl) ?_
      refine lv_iadd hx hb dX9_giveBack_98 ?_
      refine lv_topi (fun f_89 ef_89 => ?_)
      obtain rfl : nI ((5 * (t + 1)) + 2) = f_89 := (ef_89.trans (nI_add (5 * (t + 1)) 2)).symm
      refine va_iald hx hb hK hP 3 0 rfl rfl (vp_in_nI (by omega) (by decide)) dX9_giveBack_99 ?_
      refine lv_topi (fun f_90 ef_90 => ?_)
      obtain rfl : f15 (5 * (t + 1) + 2) = f_90 := (ef_90.trans (by rw [nI_clamp (show 5 * (t + 1) + 2 < 2 ^ 31 by omega), pk_un (show 5 * (t + 1) + 2 ≠ (nI (5 * t + 1)).toNatClampNeg by rw [nI_clamp (by omega)]; omega), pk_un (show 5 * (t + 1) + 2 ≠ (nI (5 * t + 0)).toNatClampNeg by rw [nI_clamp (by omega)]; omega)])).symm
      refine va_iast hx hb hK hP hD hS 3 0 rfl rfl (vp_in_nI (by omega) (by decide)) dX9_giveBack_100 (fun H locs hP hD hS => ?_)
      have hP : va_P Z.1 vwCl [(h0, .inr (9, [.ref b1, .ref b2, .ref b3, .ref b4, .int (nI n), .ref b5, .int (nI pn), .ref b6, .ref b7, .ref b8, .int (nI tn), .int xp, .int xr, .ref b9, .ref b10, .ref b11, .ref b12, .ref b13, .ref b14, .ref b15, .ref b16, .ref b17, .ref b18, .int ik, .ref b19, .ref b20, .ref b21, .ref b22, .ref b23, .ref b24, .ref b25])), (b13, .inl (Z.2 0, 6, .inl f13)), (b14, .inl (Z.2 0, 30, .inl (upd (upd (upd f14 ((nI ((5 * t) + 0)).toNatClampNeg) (f14 (5 * (t + 1) + 0))) ((nI ((5 * t) + 1)).toNatClampNeg) (f14 (5 * (t + 1) + 1))) ((nI ((5 * t) + 2)).toNatClampNeg) (f14 (5 * (t + 1) + 2))))), (b15, .inl (Z.2 0, 30, .inl (upd (upd (upd f15 ((nI ((5 * t) + 0)).toNatClampNeg) (f15 (5 * (t + 1) + 0))) ((nI ((5 * t) + 1)).toNatClampNeg) (f15 (5 * (t + 1) + 1))) ((nI ((5 * t) + 2)).toNatClampNeg) (f15 (5 * (t + 1) + 2)))))] H := hP
      have hD : va_D A [(h0, .inr (9, [.ref b1, .ref b2, .ref b3, .ref b4, .int (nI n), .ref b5, .int (nI pn), .ref b6, .ref b7, .ref b8, .int (nI tn), .int xp, .int xr, .ref b9, .ref b10, .ref b11, .ref b12, .ref b13, .ref b14, .ref b15, .ref b16, .ref b17, .ref b18, .int ik, .ref b19, .ref b20, .ref b21, .ref b22, .ref b23, .ref b24, .ref b25])), (b13, .inl (Z.2 0, 6, .inl f13)), (b14, .inl (Z.2 0, 30, .inl (upd (upd (upd f14 ((nI ((5 * t) + 0)).toNatClampNeg) (f14 (5 * (t + 1) + 0))) ((nI ((5 * t) + 1)).toNatClampNeg) (f14 (5 * (t + 1) + 1))) ((nI ((5 * t) + 2)).toNatClampNeg) (f14 (5 * (t + 1) + 2))))), (b15, .inl (Z.2 0, 30, .inl (upd (upd (upd f15 ((nI ((5 * t) + 0)).toNatClampNeg) (f15 (5 * (t + 1) + 0))) ((nI ((5 * t) + 1)).toNatClampNeg) (f15 (5 * (t + 1) + 1))) ((nI ((5 * t) + 2)).toNatClampNeg) (f15 (5 * (t + 1) + 2)))))] := hD
      refine lv_iinc (v := 3) (lv' := [(4, .int 3), (3, .int 1), (2, .int (nI t)), (0, .ref h0), (1, .int (nI (t + 1)))]) hx hb dX9_giveBack_101 hl (k := 0) rfl (by decide) (by decide) rfl (fun ls hl => ?_)
      refine lv_goto (tgt := 47) hx hb dX9_giveBack_104 (by decide) ?_
      refine lv_iload hx hb dX9_giveBack_47 (lv_at hl 0 rfl) ?_
      refine lv_iconst (v := 5) hx hb dX9_giveBack_49 (by decide) ?_
      refine lv_icmp_ge (tgt := 107) hx hb dX9_giveBack_50 (by decide) (fun c9 => absurd c9 (by decide)) (fun _ => ?_)
      refine lv_iload_n hx hb dX9_giveBack_53 rfl (lv_at hl 1 rfl) ?_
      refine lv_if_eq (tgt := 107) hx hb dX9_giveBack_54 (by decide) (fun c9 => absurd c9 (by decide)) (fun _ => ?_)
      refine lv_aload_n hx hb dX9_giveBack_57 rfl (lv_at hl 3 rfl) ?_
      refine va_get (D := Z.1) (ci := 9) (v := .ref b14) (C := RX9) (T := TX9) (N := 31) hx hb hts hin9 hown hK hP 0 rfl rfl 18 (by decide) (hts (.fieldLink RX9 49 "HalfAskedModel" "endPence" "[I") (List.mem_of_getElem? (i := 1) rfl)) (fun _ h9 => h9) rfl dX9_giveBack_58 ?_
      refine lv_iconst (v := 5) hx hb dX9_giveBack_61 (by decide) ?_
      refine lv_iload_n hx hb dX9_giveBack_62 rfl (lv_at hl 2 rfl) ?_
      refine lv_imul hx hb dX9_giveBack_63 ?_
      refine lv_topi (fun f_91 ef_91 => ?_)
      obtain rfl : nI (5 * t) = f_91 := (ef_91.trans (pk_mul 5 t)).symm
      refine lv_iload hx hb dX9_giveBack_64 (lv_at hl 0 rfl) ?_
      refine lv_iadd hx hb dX9_giveBack_66 ?_
      refine lv_topi (fun f_92 ef_92 => ?_)
      obtain rfl : nI ((5 * t) + 3) = f_92 := (ef_92.trans (nI_add (5 * t) 3)).symm
      refine lv_aload_n hx hb dX9_giveBack_67 rfl (lv_at hl 3 rfl) ?_
      refine va_get (D := Z.1) (ci := 9) (v := .ref b14) (C := RX9) (T := TX9) (N := 31) hx hb hts hin9 hown hK hP 0 rfl rfl 18 (by decide) (hts (.fieldLink RX9 49 "HalfAskedModel" "endPence" "[I") (List.mem_of_getElem? (i := 1) rfl)) (fun _ h9 => h9) rfl dX9_giveBack_68 ?_
      refine lv_iconst (v := 5) hx hb dX9_giveBack_71 (by decide) ?_
      refine lv_iload_n hx hb dX9_giveBack_72 rfl (lv_at hl 4 rfl) ?_
      refine lv_imul hx hb dX9_giveBack_73 ?_
      refine lv_topi (fun f_93 ef_93 => ?_)
      obtain rfl : nI (5 * (t + 1)) = f_93 := (ef_93.trans (pk_mul 5 (t + 1))).symm
      refine lv_iload hx hb dX9_giveBack_74 (lv_at hl 0 rfl) ?_
      refine lv_iadd hx hb dX9_giveBack_76 ?_
      refine lv_topi (fun f_94 ef_94 => ?_)
      obtain rfl : nI ((5 * (t + 1)) + 3) = f_94 := (ef_94.trans (nI_add (5 * (t + 1)) 3)).symm
      refine va_iald hx hb hK hP 2 0 rfl rfl (vp_in_nI (by omega) (by decide)) dX9_giveBack_77 ?_
      refine lv_topi (fun f_95 ef_95 => ?_)
      obtain rfl : f14 (5 * (t + 1) + 3) = f_95 := (ef_95.trans (by rw [nI_clamp (show 5 * (t + 1) + 3 < 2 ^ 31 by omega), pk_un (show 5 * (t + 1) + 3 ≠ (nI (5 * t + 2)).toNatClampNeg by rw [nI_clamp (by omega)]; omega), pk_un (show 5 * (t + 1) + 3 ≠ (nI (5 * t + 1)).toNatClampNeg by rw [nI_clamp (by omega)]; omega), pk_un (show 5 * (t + 1) + 3 ≠ (nI (5 * t + 0)).toNatClampNeg by rw [nI_clamp (by omega)]; omega)])).symm
      refine va_iast hx hb hK hP hD hS 2 0 rfl rfl (vp_in_nI (by omega) (by decide)) dX9_giveBack_78 (fun H locs hP hD hS => ?_)
      have hP : va_P Z.1 vwCl [(h0, .inr (9, [.ref b1, .ref b2, .ref b3, .ref b4, .int (nI n), .ref b5, .int (nI pn), .ref b6, .ref b7, .ref b8, .int (nI tn), .int xp, .int xr, .ref b9, .ref b10, .ref b11, .ref b12, .ref b13, .ref b14, .ref b15, .ref b16, .ref b17, .ref b18, .int ik, .ref b19, .ref b20, .ref b21, .ref b22, .ref b23, .ref b24, .ref b25])), (b13, .inl (Z.2 0, 6, .inl f13)), (b14, .inl (Z.2 0, 30, .inl (upd (upd (upd (upd f14 ((nI ((5 * t) + 0)).toNatClampNeg) (f14 (5 * (t + 1) + 0))) ((nI ((5 * t) + 1)).toNatClampNeg) (f14 (5 * (t + 1) + 1))) ((nI ((5 * t) + 2)).toNatClampNeg) (f14 (5 * (t + 1) + 2))) ((nI ((5 * t) + 3)).toNatClampNeg) (f14 (5 * (t + 1) + 3))))), (b15, .inl (Z.2 0, 30, .inl (upd (upd (upd f15 ((nI ((5 * t) + 0)).toNatClampNeg) (f15 (5 * (t + 1) + 0))) ((nI ((5 * t) + 1)).toNatClampNeg) (f15 (5 * (t + 1) + 1))) ((nI ((5 * t) + 2)).toNatClampNeg) (f15 (5 * (t + 1) + 2)))))] H := hP
      have hD : va_D A [(h0, .inr (9, [.ref b1, .ref b2, .ref b3, .ref b4, .int (nI n), .ref b5, .int (nI pn), .ref b6, .ref b7, .ref b8, .int (nI tn), .int xp, .int xr, .ref b9, .ref b10, .ref b11, .ref b12, .ref b13, .ref b14, .ref b15, .ref b16, .ref b17, .ref b18, .int ik, .ref b19, .ref b20, .ref b21, .ref b22, .ref b23, .ref b24, .ref b25])), (b13, .inl (Z.2 0, 6, .inl f13)), (b14, .inl (Z.2 0, 30, .inl (upd (upd (upd (upd f14 ((nI ((5 * t) + 0)).toNatClampNeg) (f14 (5 * (t + 1) + 0))) ((nI ((5 * t) + 1)).toNatClampNeg) (f14 (5 * (t + 1) + 1))) ((nI ((5 * t) + 2)).toNatClampNeg) (f14 (5 * (t + 1) + 2))) ((nI ((5 * t) + 3)).toNatClampNeg) (f14 (5 * (t + 1) + 3))))), (b15, .inl (Z.2 0, 30, .inl (upd (upd (upd f15 ((nI ((5 * t) + 0)).toNatClampNeg) (f15 (5 * (t + 1) + 0))) ((nI ((5 * t) + 1)).toNatClampNeg) (f15 (5 * (t + 1) + 1))) ((nI ((5 * t) + 2)).toNatClampNeg) (f15 (5 * (t + 1) + 2)))))] := hD
      refine lv_aload_n hx hb dX9_giveBack_79 rfl (lv_at hl 3 rfl) ?_
      refine va_get (D := Z.1) (ci := 9) (v := .ref b15) (C := RX9) (T := TX9) (N := 31) hx hb hts hin9 hown hK hP 0 rfl rfl 19 (by decide) (hts (.fieldLink RX9 52 "HalfAskedModel" "choices" "[I") (List.mem_of_getElem? (i := 2) rfl)) (fun _ h9 => h9) rfl dX9_giveBack_80 ?_
      refine lv_iconst (v := 5) hx hb dX9_giveBack_83 (by decide) ?_
      refine lv_iload_n hx hb dX9_giveBack_84 rfl (lv_at hl 2 rfl) ?_
      refine lv_imul hx hb dX9_giveBack_85 ?_
      refine lv_topi (fun f_96 ef_96 => ?_)
      obtain rfl : nI (5 * t) = f_96 := (ef_96.trans (pk_mul 5 t)).symm
      refine lv_iload hx hb dX9_giveBack_86 (lv_at hl 0 rfl) ?_
      refine lv_iadd hx hb dX9_giveBack_88 ?_
      refine lv_topi (fun f_97 ef_97 => ?_)
      obtain rfl : nI ((5 * t) + 3) = f_97 := (ef_97.trans (nI_add (5 * t) 3)).symm
      refine lv_aload_n hx hb dX9_giveBack_89 rfl (lv_at hl 3 rfl) ?_
      refine va_get (D := Z.1) (ci := 9) (v := .ref b15) (C := RX9) (T := TX9) (N := 31) hx hb hts hin9 hown hK hP 0 rfl rfl 19 (by decide) (hts (.fieldLink RX9 52 "HalfAskedModel" "choices" "[I") (List.mem_of_getElem? (i := 2) rfl)) (fun _ h9 => h9) rfl dX9_giveBack_90 ?_
      refine lv_iconst (v := 5) hx hb dX9_giveBack_93 (by decide) ?_
      refine lv_iload_n hx hb dX9_giveBack_94 rfl (lv_at hl 4 rfl) ?_
      refine lv_imul hx hb dX9_giveBack_95 ?_
      refine lv_topi (fun f_98 ef_98 => ?_)
      obtain rfl : nI (5 * (t + 1)) = f_98 := (ef_98.trans (pk_mul 5 (t + 1))).symm
      refine lv_iload hx hb dX9_giveBack_96 (lv_at hl 0 rfl) ?_
      refine lv_iadd hx hb dX9_giveBack_98 ?_
      refine lv_topi (fun f_99 ef_99 => ?_)
      obtain rfl : nI ((5 * (t + 1)) + 3) = f_99 := (ef_99.trans (nI_add (5 * (t + 1)) 3)).symm
      refine va_iald hx hb hK hP 3 0 rfl rfl (vp_in_nI (by omega) (by decide)) dX9_giveBack_99 ?_
      refine lv_topi (fun f_100 ef_100 => ?_)
      obtain rfl : f15 (5 * (t + 1) + 3) = f_100 := (ef_100.trans (by rw [nI_clamp (show 5 * (t + 1) + 3 < 2 ^ 31 by omega), pk_un (show 5 * (t + 1) + 3 ≠ (nI (5 * t + 2)).toNatClampNeg by rw [nI_clamp (by omega)]; omega), pk_un (show 5 * (t + 1) + 3 ≠ (nI (5 * t + 1)).toNatClampNeg by rw [nI_clamp (by omega)]; omega), pk_un (show 5 * (t + 1) + 3 ≠ (nI (5 * t + 0)).toNatClampNeg by rw [nI_clamp (by omega)]; omega)])).symm
      refine va_iast hx hb hK hP hD hS 3 0 rfl rfl (vp_in_nI (by omega) (by decide)) dX9_giveBack_100 (fun H locs hP hD hS => ?_)
      have hP : va_P Z.1 vwCl [(h0, .inr (9, [.ref b1, .ref b2, .ref b3, .ref b4, .int (nI n), .ref b5, .int (nI pn), .ref b6, .ref b7, .ref b8, .int (nI tn), .int xp, .int xr, .ref b9, .ref b10, .ref b11, .ref b12, .ref b13, .ref b14, .ref b15, .ref b16, .ref b17, .ref b18, .int ik, .ref b19, .ref b20, .ref b21, .ref b22, .ref b23, .ref b24, .ref b25])), (b13, .inl (Z.2 0, 6, .inl f13)), (b14, .inl (Z.2 0, 30, .inl (upd (upd (upd (upd f14 ((nI ((5 * t) + 0)).toNatClampNeg) (f14 (5 * (t + 1) + 0))) ((nI ((5 * t) + 1)).toNatClampNeg) (f14 (5 * (t + 1) + 1))) ((nI ((5 * t) + 2)).toNatClampNeg) (f14 (5 * (t + 1) + 2))) ((nI ((5 * t) + 3)).toNatClampNeg) (f14 (5 * (t + 1) + 3))))), (b15, .inl (Z.2 0, 30, .inl (upd (upd (upd (upd f15 ((nI ((5 * t) + 0)).toNatClampNeg) (f15 (5 * (t + 1) + 0))) ((nI ((5 * t) + 1)).toNatClampNeg) (f15 (5 * (t + 1) + 1))) ((nI ((5 * t) + 2)).toNatClampNeg) (f15 (5 * (t + 1) + 2))) ((nI ((5 * t) + 3)).toNatClampNeg) (f15 (5 * (t + 1) + 3)))))] H := hP
      have hD : va_D A [(h0, .inr (9, [.ref b1, .ref b2, .ref b3, .ref b4, .int (nI n), .ref b5, .int (nI pn), .ref b6, .ref b7, .ref b8, .int (nI tn), .int xp, .int xr, .ref b9, .ref b10, .ref b11, .ref b12, .ref b13, .ref b14, .ref b15, .ref b16, .ref b17, .ref b18, .int ik, .ref b19, .ref b20, .ref b21, .ref b22, .ref b23, .ref b24, .ref b25])), (b13, .inl (Z.2 0, 6, .inl f13)), (b14, .inl (Z.2 0, 30, .inl (upd (upd (upd (upd f14 ((nI ((5 * t) + 0)).toNatClampNeg) (f14 (5 * (t + 1) + 0))) ((nI ((5 * t) + 1)).toNatClampNeg) (f14 (5 * (t + 1) + 1))) ((nI ((5 * t) + 2)).toNatClampNeg) (f14 (5 * (t + 1) + 2))) ((nI ((5 * t) + 3)).toNatClampNeg) (f14 (5 * (t + 1) + 3))))), (b15, .inl (Z.2 0, 30, .inl (upd (upd (upd (upd f15 ((nI ((5 * t) + 0)).toNatClampNeg) (f15 (5 * (t + 1) + 0))) ((nI ((5 * t) + 1)).toNatClampNeg) (f15 (5 * (t + 1) + 1))) ((nI ((5 * t) + 2)).toNatClampNeg) (f15 (5 * (t + 1) + 2))) ((nI ((5 * t) + 3)).toNatClampNeg) (f15 (5 * (t + 1) + 3)))))] := hD
      refine lv_iinc (v := 4) (lv' := [(4, .int 4), (3, .int 1), (2, .int (nI t)), (0, .ref h0), (1, .int (nI (t + 1)))]) hx hb dX9_giveBack_101 hl (k := 0) rfl (by decide) (by decide) rfl (fun ls hl => ?_)
      refine lv_goto (tgt := 47) hx hb dX9_giveBack_104 (by decide) ?_
      refine lv_iload hx hb dX9_giveBack_47 (lv_at hl 0 rfl) ?_
      refine lv_iconst (v := 5) hx hb dX9_giveBack_49 (by decide) ?_
      refine lv_icmp_ge (tgt := 107) hx hb dX9_giveBack_50 (by decide) (fun c9 => absurd c9 (by decide)) (fun _ => ?_)
      refine lv_iload_n hx hb dX9_giveBack_53 rfl (lv_at hl 1 rfl) ?_
      refine lv_if_eq (tgt := 107) hx hb dX9_giveBack_54 (by decide) (fun c9 => absurd c9 (by decide)) (fun _ => ?_)
      refine lv_aload_n hx hb dX9_giveBack_57 rfl (lv_at hl 3 rfl) ?_
      refine va_get (D := Z.1) (ci := 9) (v := .ref b14) (C := RX9) (T := TX9) (N := 31) hx hb hts hin9 hown hK hP 0 rfl rfl 18 (by decide) (hts (.fieldLink RX9 49 "HalfAskedModel" "endPence" "[I") (List.mem_of_getElem? (i := 1) rfl)) (fun _ h9 => h9) rfl dX9_giveBack_58 ?_
      refine lv_iconst (v := 5) hx hb dX9_giveBack_61 (by decide) ?_
      refine lv_iload_n hx hb dX9_giveBack_62 rfl (lv_at hl 2 rfl) ?_
      refine lv_imul hx hb dX9_giveBack_63 ?_
      refine lv_topi (fun f_101 ef_101 => ?_)
      obtain rfl : nI (5 * t) = f_101 := (ef_101.trans (pk_mul 5 t)).symm
      refine lv_iload hx hb dX9_giveBack_64 (lv_at hl 0 rfl) ?_
      refine lv_iadd hx hb dX9_giveBack_66 ?_
      refine lv_topi (fun f_102 ef_102 => ?_)
      obtain rfl : nI ((5 * t) + 4) = f_102 := (ef_102.trans (nI_add (5 * t) 4)).symm
      refine lv_aload_n hx hb dX9_giveBack_67 rfl (lv_at hl 3 rfl) ?_
      refine va_get (D := Z.1) (ci := 9) (v := .ref b14) (C := RX9) (T := TX9) (N := 31) hx hb hts hin9 hown hK hP 0 rfl rfl 18 (by decide) (hts (.fieldLink RX9 49 "HalfAskedModel" "endPence" "[I") (List.mem_of_getElem? (i := 1) rfl)) (fun _ h9 => h9) rfl dX9_giveBack_68 ?_
      refine lv_iconst (v := 5) hx hb dX9_giveBack_71 (by decide) ?_
      refine lv_iload_n hx hb dX9_giveBack_72 rfl (lv_at hl 4 rfl) ?_
      refine lv_imul hx hb dX9_giveBack_73 ?_
      refine lv_topi (fun f_103 ef_103 => ?_)
      obtain rfl : nI (5 * (t + 1)) = f_103 := (ef_103.trans (pk_mul 5 (t + 1))).symm
      refine lv_iload hx hb dX9_giveBack_74 (lv_at hl 0 rfl) ?_
      refine lv_iadd hx hb dX9_giveBack_76 ?_
      refine lv_topi (fun f_104 ef_104 => ?_)
      obtain rfl : nI ((5 * (t + 1)) + 4) = f_104 := (ef_104.trans (nI_add (5 * (t + 1)) 4)).symm
      refine va_iald hx hb hK hP 2 0 rfl rfl (vp_in_nI (by omega) (by decide)) dX9_giveBack_77 ?_
      refine lv_topi (fun f_105 ef_105 => ?_)
      obtain rfl : f14 (5 * (t + 1) + 4) = f_105 := (ef_105.trans (by rw [nI_clamp (show 5 * (t + 1) + 4 < 2 ^ 31 by omega), pk_un (show 5 * (t + 1) + 4 ≠ (nI (5 * t + 3)).toNatClampNeg by rw [nI_clamp (by omega)]; omega), pk_un (show 5 * (t + 1) + 4 ≠ (nI (5 * t + 2)).toNatClampNeg by rw [nI_clamp (by omega)]; omega), pk_un (show 5 * (t + 1) + 4 ≠ (nI (5 * t + 1)).toNatClampNeg by rw [nI_clamp (by omega)]; omega), pk_un (show 5 * (t + 1) + 4 ≠ (nI (5 * t + 0)).toNatClampNeg by rw [nI_clamp (by omega)]; omega)])).symm
      refine va_iast hx hb hK hP hD hS 2 0 rfl rfl (vp_in_nI (by omega) (by decide)) dX9_giveBack_78 (fun H locs hP hD hS => ?_)
      have hP : va_P Z.1 vwCl [(h0, .inr (9, [.ref b1, .ref b2, .ref b3, .ref b4, .int (nI n), .ref b5, .int (nI pn), .ref b6, .ref b7, .ref b8, .int (nI tn), .int xp, .int xr, .ref b9, .ref b10, .ref b11, .ref b12, .ref b13, .ref b14, .ref b15, .ref b16, .ref b17, .ref b18, .int ik, .ref b19, .ref b20, .ref b21, .ref b22, .ref b23, .ref b24, .ref b25])), (b13, .inl (Z.2 0, 6, .inl f13)), (b14, .inl (Z.2 0, 30, .inl (upd (upd (upd (upd (upd f14 ((nI ((5 * t) + 0)).toNatClampNeg) (f14 (5 * (t + 1) + 0))) ((nI ((5 * t) + 1)).toNatClampNeg) (f14 (5 * (t + 1) + 1))) ((nI ((5 * t) + 2)).toNatClampNeg) (f14 (5 * (t + 1) + 2))) ((nI ((5 * t) + 3)).toNatClampNeg) (f14 (5 * (t + 1) + 3))) ((nI ((5 * t) + 4)).toNatClampNeg) (f14 (5 * (t + 1) + 4))))), (b15, .inl (Z.2 0, 30, .inl (upd (upd (upd (upd f15 ((nI ((5 * t) + 0)).toNatClampNeg) (f15 (5 * (t + 1) + 0))) ((nI ((5 * t) + 1)).toNatClampNeg) (f15 (5 * (t + 1) + 1))) ((nI ((5 * t) + 2)).toNatClampNeg) (f15 (5 * (t + 1) + 2))) ((nI ((5 * t) + 3)).toNatClampNeg) (f15 (5 * (t + 1) + 3)))))] H := hP
      have hD : va_D A [(h0, .inr (9, [.ref b1, .ref b2, .ref b3, .ref b4, .int (nI n), .ref b5, .int (nI pn), .ref b6, .ref b7, .ref b8, .int (nI tn), .int xp, .int xr, .ref b9, .ref b10, .ref b11, .ref b12, .ref b13, .ref b14, .ref b15, .ref b16, .ref b17, .ref b18, .int ik, .ref b19, .ref b20, .ref b21, .ref b22, .ref b23, .ref b24, .ref b25])), (b13, .inl (Z.2 0, 6, .inl f13)), (b14, .inl (Z.2 0, 30, .inl (upd (upd (upd (upd (upd f14 ((nI ((5 * t) + 0)).toNatClampNeg) (f14 (5 * (t + 1) + 0))) ((nI ((5 * t) + 1)).toNatClampNeg) (f14 (5 * (t + 1) + 1))) ((nI ((5 * t) + 2)).toNatClampNeg) (f14 (5 * (t + 1) + 2))) ((nI ((5 * t) + 3)).toNatClampNeg) (f14 (5 * (t + 1) + 3))) ((nI ((5 * t) + 4)).toNatClampNeg) (f14 (5 * (t + 1) + 4))))), (b15, .inl (Z.2 0, 30, .inl (upd (upd (upd (upd f15 ((nI ((5 * t) + 0)).toNatClampNeg) (f15 (5 * (t + 1) + 0))) ((nI ((5 * t) + 1)).toNatClampNeg) (f15 (5 * (t + 1) + 1))) ((nI ((5 * t) + 2)).toNatClampNeg) (f15 (5 * (t + 1) + 2))) ((nI ((5 * t) + 3)).toNatClampNeg) (f15 (5 * (t + 1) + 3)))))] := hD
      refine lv_aload_n hx hb dX9_giveBack_79 rfl (lv_at hl 3 rfl) ?_
      refine va_get (D := Z.1) (ci := 9) (v := .ref b15) (C := RX9) (T := TX9) (N := 31) hx hb hts hin9 hown hK hP 0 rfl rfl 19 (by decide) (hts (.fieldLink RX9 52 "HalfAskedModel" "choices" "[I") (List.mem_of_getElem? (i := 2) rfl)) (fun _ h9 => h9) rfl dX9_giveBack_80 ?_
      refine lv_iconst (v := 5) hx hb dX9_giveBack_83 (by decide) ?_
      refine lv_iload_n hx hb dX9_giveBack_84 rfl (lv_at hl 2 rfl) ?_
      refine lv_imul hx hb dX9_giveBack_85 ?_
      refine lv_topi (fun f_106 ef_106 => ?_)
      obtain rfl : nI (5 * t) = f_106 := (ef_106.trans (pk_mul 5 t)).symm
      refine lv_iload hx hb dX9_giveBack_86 (lv_at hl 0 rfl) ?_
      refine lv_iadd hx hb dX9_giveBack_88 ?_
      refine lv_topi (fun f_107 ef_107 => ?_)
      obtain rfl : nI ((5 * t) + 4) = f_107 := (ef_107.trans (nI_add (5 * t) 4)).symm
      refine lv_aload_n hx hb dX9_giveBack_89 rfl (lv_at hl 3 rfl) ?_
      refine va_get (D := Z.1) (ci := 9) (v := .ref b15) (C := RX9) (T := TX9) (N := 31) hx hb hts hin9 hown hK hP 0 rfl rfl 19 (by decide) (hts (.fieldLink RX9 52 "HalfAskedModel" "choices" "[I") (List.mem_of_getElem? (i := 2) rfl)) (fun _ h9 => h9) rfl dX9_giveBack_90 ?_
      refine lv_iconst (v := 5) hx hb dX9_giveBack_93 (by decide) ?_
      refine lv_iload_n hx hb dX9_giveBack_94 rfl (lv_at hl 4 rfl) ?_
      refine lv_imul hx hb dX9_giveBack_95 ?_
      refine lv_topi (fun f_108 ef_108 => ?_)
      obtain rfl : nI (5 * (t + 1)) = f_108 := (ef_108.trans (pk_mul 5 (t + 1))).symm
      refine lv_iload hx hb dX9_giveBack_96 (lv_at hl 0 rfl) ?_
      refine lv_iadd hx hb dX9_giveBack_98 ?_
      refine lv_topi (fun f_109 ef_109 => ?_)
      obtain rfl : nI ((5 * (t + 1)) + 4) = f_109 := (ef_109.trans (nI_add (5 * (t + 1)) 4)).symm
      refine va_iald hx hb hK hP 3 0 rfl rfl (vp_in_nI (by omega) (by decide)) dX9_giveBack_99 ?_
      refine lv_topi (fun f_110 ef_110 => ?_)
      obtain rfl : f15 (5 * (t + 1) + 4) = f_110 := (ef_110.trans (by rw [nI_clamp (show 5 * (t + 1) + 4 < 2 ^ 31 by omega), pk_un (show 5 * (t + 1) + 4 ≠ (nI (5 * t + 3)).toNatClampNeg by rw [nI_clamp (by omega)]; omega), pk_un (show 5 * (t + 1) + 4 ≠ (nI (5 * t + 2)).toNatClampNeg by rw [nI_clamp (by omega)]; omega), pk_un (show 5 * (t + 1) + 4 ≠ (nI (5 * t + 1)).toNatClampNeg by rw [nI_clamp (by omega)]; omega), pk_un (show 5 * (t + 1) + 4 ≠ (nI (5 * t + 0)).toNatClampNeg by rw [nI_clamp (by omega)]; omega)])).symm
      refine va_iast hx hb hK hP hD hS 3 0 rfl rfl (vp_in_nI (by omega) (by decide)) dX9_giveBack_100 (fun H locs hP hD hS => ?_)
      have hP : va_P Z.1 vwCl [(h0, .inr (9, [.ref b1, .ref b2, .ref b3, .ref b4, .int (nI n), .ref b5, .int (nI pn), .ref b6, .ref b7, .ref b8, .int (nI tn), .int xp, .int xr, .ref b9, .ref b10, .ref b11, .ref b12, .ref b13, .ref b14, .ref b15, .ref b16, .ref b17, .ref b18, .int ik, .ref b19, .ref b20, .ref b21, .ref b22, .ref b23, .ref b24, .ref b25])), (b13, .inl (Z.2 0, 6, .inl f13)), (b14, .inl (Z.2 0, 30, .inl (upd (upd (upd (upd (upd f14 ((nI ((5 * t) + 0)).toNatClampNeg) (f14 (5 * (t + 1) + 0))) ((nI ((5 * t) + 1)).toNatClampNeg) (f14 (5 * (t + 1) + 1))) ((nI ((5 * t) + 2)).toNatClampNeg) (f14 (5 * (t + 1) + 2))) ((nI ((5 * t) + 3)).toNatClampNeg) (f14 (5 * (t + 1) + 3))) ((nI ((5 * t) + 4)).toNatClampNeg) (f14 (5 * (t + 1) + 4))))), (b15, .inl (Z.2 0, 30, .inl (upd (upd (upd (upd (upd f15 ((nI ((5 * t) + 0)).toNatClampNeg) (f15 (5 * (t + 1) + 0))) ((nI ((5 * t) + 1)).toNatClampNeg) (f15 (5 * (t + 1) + 1))) ((nI ((5 * t) + 2)).toNatClampNeg) (f15 (5 * (t + 1) + 2))) ((nI ((5 * t) + 3)).toNatClampNeg) (f15 (5 * (t + 1) + 3))) ((nI ((5 * t) + 4)).toNatClampNeg) (f15 (5 * (t + 1) + 4)))))] H := hP
      have hD : va_D A [(h0, .inr (9, [.ref b1, .ref b2, .ref b3, .ref b4, .int (nI n), .ref b5, .int (nI pn), .ref b6, .ref b7, .ref b8, .int (nI tn), .int xp, .int xr, .ref b9, .ref b10, .ref b11, .ref b12, .ref b13, .ref b14, .ref b15, .ref b16, .ref b17, .ref b18, .int ik, .ref b19, .ref b20, .ref b21, .ref b22, .ref b23, .ref b24, .ref b25])), (b13, .inl (Z.2 0, 6, .inl f13)), (b14, .inl (Z.2 0, 30, .inl (upd (upd (upd (upd (upd f14 ((nI ((5 * t) + 0)).toNatClampNeg) (f14 (5 * (t + 1) + 0))) ((nI ((5 * t) + 1)).toNatClampNeg) (f14 (5 * (t + 1) + 1))) ((nI ((5 * t) + 2)).toNatClampNeg) (f14 (5 * (t + 1) + 2))) ((nI ((5 * t) + 3)).toNatClampNeg) (f14 (5 * (t + 1) + 3))) ((nI ((5 * t) + 4)).toNatClampNeg) (f14 (5 * (t + 1) + 4))))), (b15, .inl (Z.2 0, 30, .inl (upd (upd (upd (upd (upd f15 ((nI ((5 * t) + 0)).toNatClampNeg) (f15 (5 * (t + 1) + 0))) ((nI ((5 * t) + 1)).toNatClampNeg) (f15 (5 * (t + 1) + 1))) ((nI ((5 * t) + 2)).toNatClampNeg) (f15 (5 * (t + 1) + 2))) ((nI ((5 * t) + 3)).toNatClampNeg) (f15 (5 * (t + 1) + 3))) ((nI ((5 * t) + 4)).toNatClampNeg) (f15 (5 * (t + 1) + 4)))))] := hD
      refine lv_iinc (v := 5) (lv' := [(4, .int 5), (3, .int 1), (2, .int (nI t)), (0, .ref h0), (1, .int (nI (t + 1)))]) hx hb dX9_giveBack_101 hl (k := 0) rfl (by decide) (by decide) rfl (fun ls hl => ?_)
      refine lv_goto (tgt := 47) hx hb dX9_giveBack_104 (by decide) ?_
      refine lv_iload hx hb dX9_giveBack_47 (lv_at hl 0 rfl) ?_
      refine lv_iconst (v := 5) hx hb dX9_giveBack_49 (by decide) ?_
      refine lv_icmp_ge (tgt := 107) hx hb dX9_giveBack_50 (by decide) (fun _ => ?_) (fun c9 => absurd c9 (by decide))
      refine lv_iload_n hx hb dX9_giveBack_107 rfl (lv_at hl 1 rfl) ?_
      refine lv_if_eq (tgt := 127) hx hb dX9_giveBack_108 (by decide) (fun c9 => absurd c9 (by decide)) (fun _ => ?_)
      refine lv_aload_n hx hb dX9_giveBack_111 rfl (lv_at hl 3 rfl) ?_
      refine va_get (D := Z.1) (ci := 9) (v := .ref b15) (C := RX9) (T := TX9) (N := 31) hx hb hts hin9 hown hK hP 0 rfl rfl 19 (by decide) (hts (.fieldLink RX9 52 "HalfAskedModel" "choices" "[I") (List.mem_of_getElem? (i := 2) rfl)) (fun _ h9 => h9) rfl dX9_giveBack_112 ?_
      refine lv_iconst (v := 5) hx hb dX9_giveBack_115 (by decide) ?_
      refine lv_iload_n hx hb dX9_giveBack_116 rfl (lv_at hl 2 rfl) ?_
      refine lv_imul hx hb dX9_giveBack_117 ?_
      refine lv_topi (fun f_111 ef_111 => ?_)
      obtain rfl : nI (5 * t) = f_111 := (ef_111.trans (pk_mul 5 t)).symm
      refine lv_iload_n hx hb dX9_giveBack_118 rfl (lv_at hl 2 rfl) ?_
      refine lv_iadd hx hb dX9_giveBack_119 ?_
      refine lv_topi (fun f_112 ef_112 => ?_)
      obtain rfl : nI ((5 * t) + t) = f_112 := (ef_112.trans (nI_add (5 * t) t)).symm
      refine lv_aload_n hx hb dX9_giveBack_120 rfl (lv_at hl 3 rfl) ?_
      refine va_get (D := Z.1) (ci := 9) (v := .ref b13) (C := RX9) (T := TX9) (N := 31) hx hb hts hin9 hown hK hP 0 rfl rfl 17 (by decide) (hts (.fieldLink RX9 46 "HalfAskedModel" "tried" "[I") (List.mem_of_getElem? (i := 3) rfl)) (fun _ h9 => h9) rfl dX9_giveBack_121 ?_
      refine lv_iload_n hx hb dX9_giveBack_124 rfl (lv_at hl 2 rfl) ?_
      refine va_iald hx hb hK hP 1 0 rfl rfl (vp_in_nI (by omega) (by decide)) dX9_giveBack_125 ?_
      refine va_iast hx hb hK hP hD hS 3 0 rfl rfl (vp_in_nI (by omega) (by decide)) dX9_giveBack_126 (fun H locs hP hD hS => ?_)
      have hP : va_P Z.1 vwCl [(h0, .inr (9, [.ref b1, .ref b2, .ref b3, .ref b4, .int (nI n), .ref b5, .int (nI pn), .ref b6, .ref b7, .ref b8, .int (nI tn), .int xp, .int xr, .ref b9, .ref b10, .ref b11, .ref b12, .ref b13, .ref b14, .ref b15, .ref b16, .ref b17, .ref b18, .int ik, .ref b19, .ref b20, .ref b21, .ref b22, .ref b23, .ref b24, .ref b25])), (b13, .inl (Z.2 0, 6, .inl f13)), (b14, .inl (Z.2 0, 30, .inl (upd (upd (upd (upd (upd f14 ((nI ((5 * t) + 0)).toNatClampNeg) (f14 (5 * (t + 1) + 0))) ((nI ((5 * t) + 1)).toNatClampNeg) (f14 (5 * (t + 1) + 1))) ((nI ((5 * t) + 2)).toNatClampNeg) (f14 (5 * (t + 1) + 2))) ((nI ((5 * t) + 3)).toNatClampNeg) (f14 (5 * (t + 1) + 3))) ((nI ((5 * t) + 4)).toNatClampNeg) (f14 (5 * (t + 1) + 4))))), (b15, .inl (Z.2 0, 30, .inl (upd (upd (upd (upd (upd (upd f15 ((nI ((5 * t) + 0)).toNatClampNeg) (f15 (5 * (t + 1) + 0))) ((nI ((5 * t) + 1)).toNatClampNeg) (f15 (5 * (t + 1) + 1))) ((nI ((5 * t) + 2)).toNatClampNeg) (f15 (5 * (t + 1) + 2))) ((nI ((5 * t) + 3)).toNatClampNeg) (f15 (5 * (t + 1) + 3))) ((nI ((5 * t) + 4)).toNatClampNeg) (f15 (5 * (t + 1) + 4))) ((nI ((5 * t) + t)).toNatClampNeg) (f13 (nI t).toNatClampNeg))))] H := hP
      have hD : va_D A [(h0, .inr (9, [.ref b1, .ref b2, .ref b3, .ref b4, .int (nI n), .ref b5, .int (nI pn), .ref b6, .ref b7, .ref b8, .int (nI tn), .int xp, .int xr, .ref b9, .ref b10, .ref b11, .ref b12, .ref b13, .ref b14, .ref b15, .ref b16, .ref b17, .ref b18, .int ik, .ref b19, .ref b20, .ref b21, .ref b22, .ref b23, .ref b24, .ref b25])), (b13, .inl (Z.2 0, 6, .inl f13)), (b14, .inl (Z.2 0, 30, .inl (upd (upd (upd (upd (upd f14 ((nI ((5 * t) + 0)).toNatClampNeg) (f14 (5 * (t + 1) + 0))) ((nI ((5 * t) + 1)).toNatClampNeg) (f14 (5 * (t + 1) + 1))) ((nI ((5 * t) + 2)).toNatClampNeg) (f14 (5 * (t + 1) + 2))) ((nI ((5 * t) + 3)).toNatClampNeg) (f14 (5 * (t + 1) + 3))) ((nI ((5 * t) + 4)).toNatClampNeg) (f14 (5 * (t + 1) + 4))))), (b15, .inl (Z.2 0, 30, .inl (upd (upd (upd (upd (upd (upd f15 ((nI ((5 * t) + 0)).toNatClampNeg) (f15 (5 * (t + 1) + 0))) ((nI ((5 * t) + 1)).toNatClampNeg) (f15 (5 * (t + 1) + 1))) ((nI ((5 * t) + 2)).toNatClampNeg) (f15 (5 * (t + 1) + 2))) ((nI ((5 * t) + 3)).toNatClampNeg) (f15 (5 * (t + 1) + 3))) ((nI ((5 * t) + 4)).toNatClampNeg) (f15 (5 * (t + 1) + 4))) ((nI ((5 * t) + t)).toNatClampNeg) (f13 (nI t).toNatClampNeg))))] := hD
      have hP9 := hP.sub (ws' := [(h0, .inr (9, [.ref b1, .ref b2, .ref b3, .ref b4, .int (nI n), .ref b5, .int (nI pn), .ref b6, .ref b7, .ref b8, .int (nI tn), .int xp, .int xr, .ref b9, .ref b10, .ref b11, .ref b12, .ref b13, .ref b14, .ref b15, .ref b16, .ref b17, .ref b18, .int ik, .ref b19, .ref b20, .ref b21, .ref b22, .ref b23, .ref b24, .ref b25])), (b13, .inl (Z.2 0, 6, .inl f13)), (b14, .inl (Z.2 0, 30, .inl (upd (upd (upd (upd (upd f14 ((nI ((5 * t) + 0)).toNatClampNeg) (f14 (5 * (t + 1) + 0))) ((nI ((5 * t) + 1)).toNatClampNeg) (f14 (5 * (t + 1) + 1))) ((nI ((5 * t) + 2)).toNatClampNeg) (f14 (5 * (t + 1) + 2))) ((nI ((5 * t) + 3)).toNatClampNeg) (f14 (5 * (t + 1) + 3))) ((nI ((5 * t) + 4)).toNatClampNeg) (f14 (5 * (t + 1) + 4))))), (b15, .inl (Z.2 0, 30, .inl (upd (upd (upd (upd (upd (upd f15 ((nI ((5 * t) + 0)).toNatClampNeg) (f15 (5 * (t + 1) + 0))) ((nI ((5 * t) + 1)).toNatClampNeg) (f15 (5 * (t + 1) + 1))) ((nI ((5 * t) + 2)).toNatClampNeg) (f15 (5 * (t + 1) + 2))) ((nI ((5 * t) + 3)).toNatClampNeg) (f15 (5 * (t + 1) + 3))) ((nI ((5 * t) + 4)).toNatClampNeg) (f15 (5 * (t + 1) + 4))) ((nI ((5 * t) + t)).toNatClampNeg) (f13 (nI t).toNatClampNeg))))]) [0, 1, 2, 3] rfl
      have hD9 := hD.sub (ws' := [(h0, .inr (9, [.ref b1, .ref b2, .ref b3, .ref b4, .int (nI n), .ref b5, .int (nI pn), .ref b6, .ref b7, .ref b8, .int (nI tn), .int xp, .int xr, .ref b9, .ref b10, .ref b11, .ref b12, .ref b13, .ref b14, .ref b15, .ref b16, .ref b17, .ref b18, .int ik, .ref b19, .ref b20, .ref b21, .ref b22, .ref b23, .ref b24, .ref b25])), (b13, .inl (Z.2 0, 6, .inl f13)), (b14, .inl (Z.2 0, 30, .inl (upd (upd (upd (upd (upd f14 ((nI ((5 * t) + 0)).toNatClampNeg) (f14 (5 * (t + 1) + 0))) ((nI ((5 * t) + 1)).toNatClampNeg) (f14 (5 * (t + 1) + 1))) ((nI ((5 * t) + 2)).toNatClampNeg) (f14 (5 * (t + 1) + 2))) ((nI ((5 * t) + 3)).toNatClampNeg) (f14 (5 * (t + 1) + 3))) ((nI ((5 * t) + 4)).toNatClampNeg) (f14 (5 * (t + 1) + 4))))), (b15, .inl (Z.2 0, 30, .inl (upd (upd (upd (upd (upd (upd f15 ((nI ((5 * t) + 0)).toNatClampNeg) (f15 (5 * (t + 1) + 0))) ((nI ((5 * t) + 1)).toNatClampNeg) (f15 (5 * (t + 1) + 1))) ((nI ((5 * t) + 2)).toNatClampNeg) (f15 (5 * (t + 1) + 2))) ((nI ((5 * t) + 3)).toNatClampNeg) (f15 (5 * (t + 1) + 3))) ((nI ((5 * t) + 4)).toNatClampNeg) (f15 (5 * (t + 1) + 4))) ((nI ((5 * t) + t)).toNatClampNeg) (f13 (nI t).toNatClampNeg))))]) [0, 1, 2, 3] (by decide +kernel) rfl
      exact W.vret hx hb hr (fun t9 ht hW => ⟨⟨(upd (upd (upd (upd (upd f14 ((nI ((5 * t) + 0)).toNatClampNeg) (f14 (5 * (t + 1) + 0))) ((nI ((5 * t) + 1)).toNatClampNeg) (f14 (5 * (t + 1) + 1))) ((nI ((5 * t) + 2)).toNatClampNeg) (f14 (5 * (t + 1) + 2))) ((nI ((5 * t) + 3)).toNatClampNeg) (f14 (5 * (t + 1) + 3))) ((nI ((5 * t) + 4)).toNatClampNeg) (f14 (5 * (t + 1) + 4)), upd (upd (upd (upd (upd (upd f15 ((nI ((5 * t) + 0)).toNatClampNeg) (f15 (5 * (t + 1) + 0))) ((nI ((5 * t) + 1)).toNatClampNeg) (f15 (5 * (t + 1) + 1))) ((nI ((5 * t) + 2)).toNatClampNeg) (f15 (5 * (t + 1) + 2))) ((nI ((5 * t) + 3)).toNatClampNeg) (f15 (5 * (t + 1) + 3))) ((nI ((5 * t) + 4)).toNatClampNeg) (f15 (5 * (t + 1) + 4))) ((nI ((5 * t) + t)).toNatClampNeg) (f13 (nI t).toNatClampNeg)), rfl, z_giveA (by omega) (z_betB (by omega) c_60), by rw [ht]; exact hP9, hD9⟩, hS.F ht⟩) hS.2.2 dX9_giveBack_127
set_option maxHeartbeats 4000000 in
set_option maxRecDepth 100000 in
theorem c_X9_beginTurn (l : Launch) (Z : gZ) (sz : Nat) (h0 : Nat) (b1 : Nat) (b2 : Nat) (b3 : Nat) (b4 : Nat) (b5 : Nat) (b6 : Nat) (b7 : Nat) (b8 : Nat) (b9 : Nat) (b10 : Nat) (b11 : Nat) (b12 : Nat) (b13 : Nat) (b14 : Nat) (b15 : Nat) (b16 : Nat) (b17 : Nat) (b18 : Nat) (b19 : Nat) (b20 : Nat) (b21 : Nat) (b22 : Nat) (b23 : Nat) (b24 : Nat) (b25 : Nat) (n : Nat) (pn : Nat) (tn : Nat) (xp : Int32) (xr : Int32) (ik : Int32) (f12 : Nat → Int32) (f13 : Nat → Int32) (f14 : Nat → Int32) (t : Nat) (ht : t ≤ 5) : Met l yX9_beginTurn wsX9_beginTurn ({ frames := 0, cells := 0, slots := 0, locals := 0 }) (va_Pc [.ref h0, .int (nI t)] (fun U => U.heap.size = sz ∧ va_P Z.1 vwCl [(h0, .inr (9, [.ref b1, .ref b2, .ref b3, .ref b4, .int (nI n), .ref b5, .int (nI pn), .ref b6, .ref b7, .ref b8, .int (nI tn), .int xp, .int xr, .ref b9, .ref b10, .ref b11, .ref b12, .ref b13, .ref b14, .ref b15, .ref b16, .ref b17, .ref b18, .int ik, .ref b19, .ref b20, .ref b21, .ref b22, .ref b23, .ref b24, .ref b25])), (b12, .inl (Z.2 0, 30, .inl f12)), (b13, .inl (Z.2 0, 6, .inl f13)), (b14, .inl (Z.2 0, 30, .inl f14))] U.heap ∧ va_K Z.1 vwCl (gT Z) U ∧ va_D (fun _ => True) [(h0, .inr (9, [.ref b1, .ref b2, .ref b3, .ref b4, .int (nI n), .ref b5, .int (nI pn), .ref b6, .ref b7, .ref b8, .int (nI tn), .int xp, .int xr, .ref b9, .ref b10, .ref b11, .ref b12, .ref b13, .ref b14, .ref b15, .ref b16, .ref b17, .ref b18, .int ik, .ref b19, .ref b20, .ref b21, .ref b22, .ref b23, .ref b24, .ref b25])), (b12, .inl (Z.2 0, 30, .inl f12)), (b13, .inl (Z.2 0, 6, .inl f13)), (b14, .inl (Z.2 0, 30, .inl f14))])) (va_Qv (fun (u : (Nat → Int32) × (Nat → Int32)) => match u with | (g13, g14) => (∀ z, z < 5 * t → g14 z = f14 z) ∧ (∀ w, w < 5 → g14 (5 * t + w) = if nI t = nI n then f12 (5 * t + w) else -1) ∧ g13 = upd f13 t (-1)) (fun (u : (Nat → Int32) × (Nat → Int32)) (t9 : State) => match u with | (g13, g14) => va_P Z.1 vwCl [(h0, .inr (9, [.ref b1, .ref b2, .ref b3, .ref b4, .int (nI n), .ref b5, .int (nI pn), .ref b6, .ref b7, .ref b8, .int (nI tn), .int xp, .int xr, .ref b9, .ref b10, .ref b11, .ref b12, .ref b13, .ref b14, .ref b15, .ref b16, .ref b17, .ref b18, .int ik, .ref b19, .ref b20, .ref b21, .ref b22, .ref b23, .ref b24, .ref b25])), (b12, .inl (Z.2 0, 30, .inl f12)), (b13, .inl (Z.2 0, 6, .inl g13)), (b14, .inl (Z.2 0, 30, .inl g14))] t9.heap ∧ va_D (va_A [(h0, .inr (9, [.ref b1, .ref b2, .ref b3, .ref b4, .int (nI n), .ref b5, .int (nI pn), .ref b6, .ref b7, .ref b8, .int (nI tn), .int xp, .int xr, .ref b9, .ref b10, .ref b11, .ref b12, .ref b13, .ref b14, .ref b15, .ref b16, .ref b17, .ref b18, .int ik, .ref b19, .ref b20, .ref b21, .ref b22, .ref b23, .ref b24, .ref b25])), (b12, .inl (Z.2 0, 30, .inl f12)), (b13, .inl (Z.2 0, 6, .inl f13)), (b14, .inl (Z.2 0, 30, .inl f14))] sz) [(h0, .inr (9, [.ref b1, .ref b2, .ref b3, .ref b4, .int (nI n), .ref b5, .int (nI pn), .ref b6, .ref b7, .ref b8, .int (nI tn), .int xp, .int xr, .ref b9, .ref b10, .ref b11, .ref b12, .ref b13, .ref b14, .ref b15, .ref b16, .ref b17, .ref b18, .int ik, .ref b19, .ref b20, .ref b21, .ref b22, .ref b23, .ref b24, .ref b25])), (b12, .inl (Z.2 0, 30, .inl f12)), (b13, .inl (Z.2 0, 6, .inl g13)), (b14, .inl (Z.2 0, 30, .inl g14))]) (va_A [(h0, .inr (9, [.ref b1, .ref b2, .ref b3, .ref b4, .int (nI n), .ref b5, .int (nI pn), .ref b6, .ref b7, .ref b8, .int (nI tn), .int xp, .int xr, .ref b9, .ref b10, .ref b11, .ref b12, .ref b13, .ref b14, .ref b15, .ref b16, .ref b17, .ref b18, .int ik, .ref b19, .ref b20, .ref b21, .ref b22, .ref b23, .ref b24, .ref b25])), (b12, .inl (Z.2 0, 30, .inl f12)), (b13, .inl (Z.2 0, 6, .inl f13)), (b14, .inl (Z.2 0, 30, .inl f14))] sz)) 0 0 (va_A [(h0, .inr (9, [.ref b1, .ref b2, .ref b3, .ref b4, .int (nI n), .ref b5, .int (nI pn), .ref b6, .ref b7, .ref b8, .int (nI tn), .int xp, .int xr, .ref b9, .ref b10, .ref b11, .ref b12, .ref b13, .ref b14, .ref b15, .ref b16, .ref b17, .ref b18, .int ik, .ref b19, .ref b20, .ref b21, .ref b22, .ref b23, .ref b24, .ref b25])), (b12, .inl (Z.2 0, 30, .inl f12)), (b13, .inl (Z.2 0, 6, .inl f13)), (b14, .inl (Z.2 0, 30, .inl f14))] sz) := by
  refine Met.ofW (cc := cX9_beginTurn) (maxL := 3) (ret := none) (by decide) rfl ?_
  intro p e s m args below meth c s₁ B hml hv
  obtain ⟨rfl, hsz, hP, hK, hD0⟩ := hv
  have hx := B.exec
  have hb := B.bytes
  have hr := B.returns
  have hts := atoms_spec (ws := wsX9_beginTurn) B.pre
  have hown : s.vm.findClass RX9 = some m.cls := findClass_of_methodNamed B.named
  have hlocks := B.notSynchronized
  subst hsz
  have hin9 : ∀ w ∈ wsX90, w ∈ wsX9_beginTurn := fun w h9 => (List.mem_cons_of_mem _ (List.mem_append_right _ h9))
  have hD := hD0.self (sz := s.heap.size)
  generalize hAe : va_A [(h0, .inr (9, [.ref b1, .ref b2, .ref b3, .ref b4, .int (nI n), .ref b5, .int (nI pn), .ref b6, .ref b7, .ref b8, .int (nI tn), .int xp, .int xr, .ref b9, .ref b10, .ref b11, .ref b12, .ref b13, .ref b14, .ref b15, .ref b16, .ref b17, .ref b18, .int ik, .ref b19, .ref b20, .ref b21, .ref b22, .ref b23, .ref b24, .ref b25])), (b12, .inl (Z.2 0, 30, .inl f12)), (b13, .inl (Z.2 0, 6, .inl f13)), (b14, .inl (Z.2 0, 30, .inl f14))] s.heap.size = A at hD ⊢
  have hA : ∀ q : Nat, s.heap.size ≤ q → A q := fun q h => by rw [← hAe]; exact Or.inr h
  have hS : va_S A s.heap s.heap [] := va_S.rf
  have hP : va_P Z.1 vwCl [(h0, .inr (9, [.ref b1, .ref b2, .ref b3, .ref b4, .int (nI n), .ref b5, .int (nI pn), .ref b6, .ref b7, .ref b8, .int (nI tn), .int xp, .int xr, .ref b9, .ref b10, .ref b11, .ref b12, .ref b13, .ref b14, .ref b15, .ref b16, .ref b17, .ref b18, .int ik, .ref b19, .ref b20, .ref b21, .ref b22, .ref b23, .ref b24, .ref b25])), (b12, .inl (Z.2 0, 30, .inl f12)), (b13, .inl (Z.2 0, 6, .inl f13)), (b14, .inl (Z.2 0, 30, .inl f14))] s.heap := hP
  have hl := lv_entry ([.ref h0, .int (nI t)]) (n := 3) (Nat.le_of_ble_eq_true rfl)
  rw [lg_entry_eq]
  generalize (lg_sl ([.ref h0, .int (nI t)]) ++ List.replicate (3 - (lg_sl ([.ref h0, .int (nI t)])).length) Slot.unset).toArray = ls at hl ⊢
  have hl : lv_has ls 3 [(0, .ref h0), (1, .int (nI t))] := hl
  refine lv_aload_n hx hb dX9_beginTurn_0 rfl (lv_at hl 0 rfl) ?_
  refine va_get (D := Z.1) (ci := 9) (v := .ref b13) (C := RX9) (T := TX9) (N := 31) hx hb hts hin9 hown hK hP 0 rfl rfl 17 (by decide) (hts (.fieldLink RX9 46 "HalfAskedModel" "tried" "[I") (List.mem_of_getElem? (i := 1) rfl)) (fun _ h9 => h9) rfl dX9_beginTurn_1 ?_
  refine lv_iload_n hx hb dX9_beginTurn_4 rfl (lv_at hl 1 rfl) ?_
  refine lv_iconst (v := (-1)) hx hb dX9_beginTurn_5 (by decide) ?_
  refine va_iast hx hb hK hP hD hS 2 0 rfl rfl (vp_in_nI (by omega) (by decide)) dX9_beginTurn_6 (fun H locs hP hD hS => ?_)
  have hP : va_P Z.1 vwCl [(h0, .inr (9, [.ref b1, .ref b2, .ref b3, .ref b4, .int (nI n), .ref b5, .int (nI pn), .ref b6, .ref b7, .ref b8, .int (nI tn), .int xp, .int xr, .ref b9, .ref b10, .ref b11, .ref b12, .ref b13, .ref b14, .ref b15, .ref b16, .ref b17, .ref b18, .int ik, .ref b19, .ref b20, .ref b21, .ref b22, .ref b23, .ref b24, .ref b25])), (b12, .inl (Z.2 0, 30, .inl f12)), (b13, .inl (Z.2 0, 6, .inl (upd f13 ((nI t).toNatClampNeg) (-1)))), (b14, .inl (Z.2 0, 30, .inl f14))] H := hP
  have hD : va_D A [(h0, .inr (9, [.ref b1, .ref b2, .ref b3, .ref b4, .int (nI n), .ref b5, .int (nI pn), .ref b6, .ref b7, .ref b8, .int (nI tn), .int xp, .int xr, .ref b9, .ref b10, .ref b11, .ref b12, .ref b13, .ref b14, .ref b15, .ref b16, .ref b17, .ref b18, .int ik, .ref b19, .ref b20, .ref b21, .ref b22, .ref b23, .ref b24, .ref b25])), (b12, .inl (Z.2 0, 30, .inl f12)), (b13, .inl (Z.2 0, 6, .inl (upd f13 ((nI t).toNatClampNeg) (-1)))), (b14, .inl (Z.2 0, 30, .inl f14))] := hD
  refine lv_iconst (v := 0) hx hb dX9_beginTurn_7 (by decide) ?_
  refine lv_istore_n (lv' := [(2, .int 0), (0, .ref h0), (1, .int (nI t))]) hx hb dX9_beginTurn_8 rfl hl (by decide) rfl (fun ls hl => ?_)
  refine lv_iload_n hx hb dX9_beginTurn_9 rfl (lv_at hl 0 rfl) ?_
  refine lv_iconst (v := 5) hx hb dX9_beginTurn_10 (by decide) ?_
  refine lv_icmp_ge (tgt := 52) hx hb dX9_beginTurn_11 (by decide) (fun c9 => absurd c9 (by decide)) (fun _ => ?_)
  refine lv_aload_n hx hb dX9_beginTurn_14 rfl (lv_at hl 1 rfl) ?_
  refine va_get (D := Z.1) (ci := 9) (v := .ref b14) (C := RX9) (T := TX9) (N := 31) hx hb hts hin9 hown hK hP 0 rfl rfl 18 (by decide) (hts (.fieldLink RX9 49 "HalfAskedModel" "endPence" "[I") (List.mem_of_getElem? (i := 2) rfl)) (fun _ h9 => h9) rfl dX9_beginTurn_15 ?_
  refine lv_iconst (v := 5) hx hb dX9_beginTurn_18 (by decide) ?_
  refine lv_iload_n hx hb dX9_beginTurn_19 rfl (lv_at hl 2 rfl) ?_
  refine lv_imul hx hb dX9_beginTurn_20 ?_
  refine lv_topi (fun f_1 ef_1 => ?_)
  obtain rfl : nI (5 * t) = f_1 := (ef_1.trans (pk_mul 5 t)).symm
  refine lv_iload_n hx hb dX9_beginTurn_21 rfl (lv_at hl 0 rfl) ?_
  refine lv_iadd hx hb dX9_beginTurn_22 ?_
  refine lv_topi (fun f_2 ef_2 => ?_)
  obtain rfl : nI ((5 * t) + 0) = f_2 := (ef_2.trans (nI_add (5 * t) 0)).symm
  refine lv_iload_n hx hb dX9_beginTurn_23 rfl (lv_at hl 2 rfl) ?_
  refine lv_aload_n hx hb dX9_beginTurn_24 rfl (lv_at hl 1 rfl) ?_
  refine va_get (D := Z.1) (ci := 9) (v := .int (nI n)) (C := RX9) (T := TX9) (N := 31) hx hb hts hin9 hown hK hP 0 rfl rfl 4 (by decide) (hts (.fieldLink RX9 86 "HalfAskedModel" "many" "I") (List.mem_of_getElem? (i := 3) rfl)) (fun _ h9 => h9) rfl dX9_beginTurn_25 ?_
  refine lv_icmp_ne (tgt := 44) hx hb dX9_beginTurn_28 (by decide) (fun c_3 => ?_) (fun c_3 => ?_)
  · refine lv_iconst (v := (-1)) hx hb dX9_beginTurn_44 (by decide) ?_
    refine va_iast hx hb hK hP hD hS 3 0 rfl rfl (vp_in_nI (by omega) (by decide)) dX9_beginTurn_45 (fun H locs hP hD hS => ?_)
    have hP : va_P Z.1 vwCl [(h0, .inr (9, [.ref b1, .ref b2, .ref b3, .ref b4, .int (nI n), .ref b5, .int (nI pn), .ref b6, .ref b7, .ref b8, .int (nI tn), .int xp, .int xr, .ref b9, .ref b10, .ref b11, .ref b12, .ref b13, .ref b14, .ref b15, .ref b16, .ref b17, .ref b18, .int ik, .ref b19, .ref b20, .ref b21, .ref b22, .ref b23, .ref b24, .ref b25])), (b12, .inl (Z.2 0, 30, .inl f12)), (b13, .inl (Z.2 0, 6, .inl (upd f13 ((nI t).toNatClampNeg) (-1)))), (b14, .inl (Z.2 0, 30, .inl (upd f14 ((nI ((5 * t) + 0)).toNatClampNeg) (-1))))] H := hP
    have hD : va_D A [(h0, .inr (9, [.ref b1, .ref b2, .ref b3, .ref b4, .int (nI n), .ref b5, .int (nI pn), .ref b6, .ref b7, .ref b8, .int (nI tn), .int xp, .int xr, .ref b9, .ref b10, .ref b11, .ref b12, .ref b13, .ref b14, .ref b15, .ref b16, .ref b17, .ref b18, .int ik, .ref b19, .ref b20, .ref b21, .ref b22, .ref b23, .ref b24, .ref b25])), (b12, .inl (Z.2 0, 30, .inl f12)), (b13, .inl (Z.2 0, 6, .inl (upd f13 ((nI t).toNatClampNeg) (-1)))), (b14, .inl (Z.2 0, 30, .inl (upd f14 ((nI ((5 * t) + 0)).toNatClampNeg) (-1))))] := hD
    refine lv_iinc (v := 1) (lv' := [(2, .int 1), (0, .ref h0), (1, .int (nI t))]) hx hb dX9_beginTurn_46 hl (k := 0) rfl (by decide) (by decide) rfl (fun ls hl => ?_)
    refine lv_goto (tgt := 9) hx hb dX9_beginTurn_49 (by decide) ?_
    refine lv_iload_n hx hb dX9_beginTurn_9 rfl (lv_at hl 0 rfl) ?_
    refine lv_iconst (v := 5) hx hb dX9_beginTurn_10 (by decide) ?_
    refine lv_icmp_ge (tgt := 52) hx hb dX9_beginTurn_11 (by decide) (fun c9 => absurd c9 (by decide)) (fun _ => ?_)
    refine lv_aload_n hx hb dX9_beginTurn_14 rfl (lv_at hl 1 rfl) ?_
    refine va_get (D := Z.1) (ci := 9) (v := .ref b14) (C := RX9) (T := TX9) (N := 31) hx hb hts hin9 hown hK hP 0 rfl rfl 18 (by decide) (hts (.fieldLink RX9 49 "HalfAskedModel" "endPence" "[I") (List.mem_of_getElem? (i := 2) rfl)) (fun _ h9 => h9) rfl dX9_beginTurn_15 ?_
    refine lv_iconst (v := 5) hx hb dX9_beginTurn_18 (by decide) ?_
    refine lv_iload_n hx hb dX9_beginTurn_19 rfl (lv_at hl 2 rfl) ?_
    refine lv_imul hx hb dX9_beginTurn_20 ?_
    refine lv_topi (fun f_4 ef_4 => ?_)
    obtain rfl : nI (5 * t) = f_4 := (ef_4.trans (pk_mul 5 t)).symm
    refine lv_iload_n hx hb dX9_beginTurn_21 rfl (lv_at hl 0 rfl) ?_
    refine lv_iadd hx hb dX9_beginTurn_22 ?_
    refine lv_topi (fun f_5 ef_5 => ?_)
    obtain rfl : nI ((5 * t) + 1) = f_5 := (ef_5.trans (nI_1 _)).symm
    refine lv_iload_n hx hb dX9_beginTurn_23 rfl (lv_at hl 2 rfl) ?_
    refine lv_aload_n hx hb dX9_beginTurn_24 rfl (lv_at hl 1 rfl) ?_
    refine va_get (D := Z.1) (ci := 9) (v := .int (nI n)) (C := RX9) (T := TX9) (N := 31) hx hb hts hin9 hown hK hP 0 rfl rfl 4 (by decide) (hts (.fieldLink RX9 86 "HalfAskedModel" "many" "I") (List.mem_of_getElem? (i := 3) rfl)) (fun _ h9 => h9) rfl dX9_beginTurn_25 ?_
    refine lv_icmp_ne (tgt := 44) hx hb dX9_beginTurn_28 (by decide) (fun _ => ?_) (fun c9 => absurd c9 c_3)
    refine lv_iconst (v := (-1)) hx hb dX9_beginTurn_44 (by decide) ?_
    refine va_iast hx hb hK hP hD hS 3 0 rfl rfl (vp_in_nI (by omega) (by decide)) dX9_beginTurn_45 (fun H locs hP hD hS => ?_)
    have hP : va_P Z.1 vwCl [(h0, .inr (9, [.ref b1, .ref b2, .ref b3, .ref b4, .int (nI n), .ref b5, .int (nI pn), .ref b6, .ref b7, .ref b8, .int (nI tn), .int xp, .int xr, .ref b9, .ref b10, .ref b11, .ref b12, .ref b13, .ref b14, .ref b15, .ref b16, .ref b17, .ref b18, .int ik, .ref b19, .ref b20, .ref b21, .ref b22, .ref b23, .ref b24, .ref b25])), (b12, .inl (Z.2 0, 30, .inl f12)), (b13, .inl (Z.2 0, 6, .inl (upd f13 ((nI t).toNatClampNeg) (-1)))), (b14, .inl (Z.2 0, 30, .inl (upd (upd f14 ((nI ((5 * t) + 0)).toNatClampNeg) (-1)) ((nI ((5 * t) + 1)).toNatClampNeg) (-1))))] H := hP
    have hD : va_D A [(h0, .inr (9, [.ref b1, .ref b2, .ref b3, .ref b4, .int (nI n), .ref b5, .int (nI pn), .ref b6, .ref b7, .ref b8, .int (nI tn), .int xp, .int xr, .ref b9, .ref b10, .ref b11, .ref b12, .ref b13, .ref b14, .ref b15, .ref b16, .ref b17, .ref b18, .int ik, .ref b19, .ref b20, .ref b21, .ref b22, .ref b23, .ref b24, .ref b25])), (b12, .inl (Z.2 0, 30, .inl f12)), (b13, .inl (Z.2 0, 6, .inl (upd f13 ((nI t).toNatClampNeg) (-1)))), (b14, .inl (Z.2 0, 30, .inl (upd (upd f14 ((nI ((5 * t) + 0)).toNatClampNeg) (-1)) ((nI ((5 * t) + 1)).toNatClampNeg) (-1))))] := hD
    refine lv_iinc (v := 2) (lv' := [(2, .int 2), (0, .ref h0), (1, .int (nI t))]) hx hb dX9_beginTurn_46 hl (k := 0) rfl (by decide) (by decide) rfl (fun ls hl => ?_)
    refine lv_goto (tgt := 9) hx hb dX9_beginTurn_49 (by decide) ?_
    refine lv_iload_n hx hb dX9_beginTurn_9 rfl (lv_at hl 0 rfl) ?_
    refine lv_iconst (v := 5) hx hb dX9_beginTurn_10 (by decide) ?_
    refine lv_icmp_ge (tgt := 52) hx hb dX9_beginTurn_11 (by decide) (fun c9 => absurd c9 (by decide)) (fun _ => ?_)
    refine lv_aload_n hx hb dX9_beginTurn_14 rfl (lv_at hl 1 rfl) ?_
    refine va_get (D := Z.1) (ci := 9) (v := .ref b14) (C := RX9) (T := TX9) (N := 31) hx hb hts hin9 hown hK hP 0 rfl rfl 18 (by decide) (hts (.fieldLink RX9 49 "HalfAskedModel" "endPence" "[I") (List.mem_of_getElem? (i := 2) rfl)) (fun _ h9 => h9) rfl dX9_beginTurn_15 ?_
    refine lv_iconst (v := 5) hx hb dX9_beginTurn_18 (by decide) ?_
    refine lv_iload_n hx hb dX9_beginTurn_19 rfl (lv_at hl 2 rfl) ?_
    refine lv_imul hx hb dX9_beginTurn_20 ?_
    refine lv_topi (fun f_6 ef_6 => ?_)
    obtain rfl : nI (5 * t) = f_6 := (ef_6.trans (pk_mul 5 t)).symm
    refine lv_iload_n hx hb dX9_beginTurn_21 rfl (lv_at hl 0 rfl) ?_
    refine lv_iadd hx hb dX9_beginTurn_22 ?_
    refine lv_topi (fun f_7 ef_7 => ?_)
    obtain rfl : nI ((5 * t) + 2) = f_7 := (ef_7.trans (nI_add (5 * t) 2)).symm
    refine lv_iload_n hx hb dX9_beginTurn_23 rfl (lv_at hl 2 rfl) ?_
    refine lv_aload_n hx hb dX9_beginTurn_24 rfl (lv_at hl 1 rfl) ?_
    refine va_get (D := Z.1) (ci := 9) (v := .int (nI n)) (C := RX9) (T := TX9) (N := 31) hx hb hts hin9 hown hK hP 0 rfl rfl 4 (by decide) (hts (.fieldLink RX9 86 "HalfAskedModel" "many" "I") (List.mem_of_getElem? (i := 3) rfl)) (fun _ h9 => h9) rfl dX9_beginTurn_25 ?_
    refine lv_icmp_ne (tgt := 44) hx hb dX9_beginTurn_28 (by decide) (fun _ => ?_) (fun c9 => absurd c9 c_3)
    refine lv_iconst (v := (-1)) hx hb dX9_beginTurn_44 (by decide) ?_
    refine va_iast hx hb hK hP hD hS 3 0 rfl rfl (vp_in_nI (by omega) (by decide)) dX9_beginTurn_45 (fun H locs hP hD hS => ?_)
    have hP : va_P Z.1 vwCl [(h0, .inr (9, [.ref b1, .ref b2, .ref b3, .ref b4, .int (nI n), .ref b5, .int (nI pn), .ref b6, .ref b7, .ref b8, .int (nI tn), .int xp, .int xr, .ref b9, .ref b10, .ref b11, .ref b12, .ref b13, .ref b14, .ref b15, .ref b16, .ref b17, .ref b18, .int ik, .ref b19, .ref b20, .ref b21, .ref b22, .ref b23, .ref b24, .ref b25])), (b12, .inl (Z.2 0, 30, .inl f12)), (b13, .inl (Z.2 0, 6, .inl (upd f13 ((nI t).toNatClampNeg) (-1)))), (b14, .inl (Z.2 0, 30, .inl (upd (upd (upd f14 ((nI ((5 * t) + 0)).toNatClampNeg) (-1)) ((nI ((5 * t) + 1)).toNatClampNeg) (-1)) ((nI ((5 * t) + 2)).toNatClampNeg) (-1))))] H := hP
    have hD : va_D A [(h0, .inr (9, [.ref b1, .ref b2, .ref b3, .ref b4, .int (nI n), .ref b5, .int (nI pn), .ref b6, .ref b7, .ref b8, .int (nI tn), .int xp, .int xr, .ref b9, .ref b10, .ref b11, .ref b12, .ref b13, .ref b14, .ref b15, .ref b16, .ref b17, .ref b18, .int ik, .ref b19, .ref b20, .ref b21, .ref b22, .ref b23, .ref b24, .ref b25])), (b12, .inl (Z.2 0, 30, .inl f12)), (b13, .inl (Z.2 0, 6, .inl (upd f13 ((nI t).toNatClampNeg) (-1)))), (b14, .inl (Z.2 0, 30, .inl (upd (upd (upd f14 ((nI ((5 * t) + 0)).toNatClampNeg) (-1)) ((nI ((5 * t) + 1)).toNatClampNeg) (-1)) ((nI ((5 * t) + 2)).toNatClampNeg) (-1))))] := hD
    refine lv_iinc (v := 3) (lv' := [(2, .int 3), (0, .ref h0), (1, .int (nI t))]) hx hb dX9_beginTurn_46 hl (k := 0) rfl (by decide) (by decide) rfl (fun ls hl => ?_)
    refine lv_goto (tgt := 9) hx hb dX9_beginTurn_49 (by decide) ?_
    refine lv_iload_n hx hb dX9_beginTurn_9 rfl (lv_at hl 0 rfl) ?_
    refine lv_iconst (v := 5) hx hb dX9_beginTurn_10 (by decide) ?_
    refine lv_icmp_ge (tgt := 52) hx hb dX9_beginTurn_11 (by decide) (fun c9 => absurd c9 (by decide)) (fun _ => ?_)
    refine lv_aload_n hx hb dX9_beginTurn_14 rfl (lv_at hl 1 rfl) ?_
    refine va_get (D := Z.1) (ci := 9) (v := .ref b14) (C := RX9) (T := TX9) (N := 31) hx hb hts hin9 hown hK hP 0 rfl rfl 18 (by decide) (hts (.fieldLink RX9 49 "HalfAskedModel" "endPence" "[I") (List.mem_of_getElem? (i := 2) rfl)) (fun _ h9 => h9) rfl dX9_beginTurn_15 ?_
    refine lv_iconst (v := 5) hx hb dX9_beginTurn_18 (by decide) ?_
    refine lv_iload_n hx hb dX9_beginTurn_19 rfl (lv_at hl 2 rfl) ?_
    refine lv_imul hx hb dX9_beginTurn_20 ?_
    refine lv_topi (fun f_8 ef_8 => ?_)
    obtain rfl : nI (5 * t) = f_8 := (ef_8.trans (pk_mul 5 t)).symm
    refine lv_iload_n hx hb dX9_beginTurn_21 rfl (lv_at hl 0 rfl) ?_
    refine lv_iadd hx hb dX9_beginTurn_22 ?_
    refine lv_topi (fun f_9 ef_9 => ?_)
    obtain rfl : nI ((5 * t) + 3) = f_9 := (ef_9.trans (nI_add (5 * t) 3)).symm
    refine lv_iload_n hx hb dX9_beginTurn_23 rfl (lv_at hl 2 rfl) ?_
    refine lv_aload_n hx hb dX9_beginTurn_24 rfl (lv_at hl 1 rfl) ?_
    refine va_get (D := Z.1) (ci := 9) (v := .int (nI n)) (C := RX9) (T := TX9) (N := 31) hx hb hts hin9 hown hK hP 0 rfl rfl 4 (by decide) (hts (.fieldLink RX9 86 "HalfAskedModel" "many" "I") (List.mem_of_getElem? (i := 3) rfl)) (fun _ h9 => h9) rfl dX9_beginTurn_25 ?_
    refine lv_icmp_ne (tgt := 44) hx hb dX9_beginTurn_28 (by decide) (fun _ => ?_) (fun c9 => absurd c9 c_3)
    refine lv_iconst (v := (-1)) hx hb dX9_beginTurn_44 (by decide) ?_
    refine va_iast hx hb hK hP hD hS 3 0 rfl rfl (vp_in_nI (by omega) (by decide)) dX9_beginTurn_45 (fun H locs hP hD hS => ?_)
    have hP : va_P Z.1 vwCl [(h0, .inr (9, [.ref b1, .ref b2, .ref b3, .ref b4, .int (nI n), .ref b5, .int (nI pn), .ref b6, .ref b7, .ref b8, .int (nI tn), .int xp, .int xr, .ref b9, .ref b10, .ref b11, .ref b12, .ref b13, .ref b14, .ref b15, .ref b16, .ref b17, .ref b18, .int ik, .ref b19, .ref b20, .ref b21, .ref b22, .ref b23, .ref b24, .ref b25])), (b12, .inl (Z.2 0, 30, .inl f12)), (b13, .inl (Z.2 0, 6, .inl (upd f13 ((nI t).toNatClampNeg) (-1)))), (b14, .inl (Z.2 0, 30, .inl (upd (upd (upd (upd f14 ((nI ((5 * t) + 0)).toNatClampNeg) (-1)) ((nI ((5 * t) + 1)).toNatClampNeg) (-1)) ((nI ((5 * t) + 2)).toNatClampNeg) (-1)) ((nI ((5 * t) + 3)).toNatClampNeg) (-1))))] H := hP
    have hD : va_D A [(h0, .inr (9, [.ref b1, .ref b2, .ref b3, .ref b4, .int (nI n), .ref b5, .int (nI pn), .ref b6, .ref b7, .ref b8, .int (nI tn), .int xp, .int xr, .ref b9, .ref b10, .ref b11, .ref b12, .ref b13, .ref b14, .ref b15, .ref b16, .ref b17, .ref b18, .int ik, .ref b19, .ref b20, .ref b21, .ref b22, .ref b23, .ref b24, .ref b25])), (b12, .inl (Z.2 0, 30, .inl f12)), (b13, .inl (Z.2 0, 6, .inl (upd f13 ((nI t).toNatClampNeg) (-1)))), (b14, .inl (Z.2 0, 30, .inl (upd (upd (upd (upd f14 ((nI ((5 * t) + 0)).toNatClampNeg) (-1)) ((nI ((5 * t) + 1)).toNatClampNeg) (-1)) ((nI ((5 * t) + 2)).toNatClampNeg) (-1)) ((nI ((5 * t) + 3)).toNatClampNeg) (-1))))] := hD
    refine lv_iinc (v := 4) (lv' := [(2, .int 4), (0, .ref h0), (1, .int (nI t))]) hx hb dX9_beginTurn_46 hl (k := 0) rfl (by decide) (by decide) rfl (fun ls hl => ?_)
    refine lv_goto (tgt := 9) hx hb dX9_beginTurn_49 (by decide) ?_
    refine lv_iload_n hx hb dX9_beginTurn_9 rfl (lv_at hl 0 rfl) ?_
    refine lv_iconst (v := 5) hx hb dX9_beginTurn_10 (by decide) ?_
    refine lv_icmp_ge (tgt := 52) hx hb dX9_beginTurn_11 (by decide) (fun c9 => absurd c9 (by decide)) (fun _ => ?_)
    refine lv_aload_n hx hb dX9_beginTurn_14 rfl (lv_at hl 1 rfl) ?_
    refine va_get (D := Z.1) (ci := 9) (v := .ref b14) (C := RX9) (T := TX9) (N := 31) hx hb hts hin9 hown hK hP 0 rfl rfl 18 (by decide) (hts (.fieldLink RX9 49 "HalfAskedModel" "endPence" "[I") (List.mem_of_getElem? (i := 2) rfl)) (fun _ h9 => h9) rfl dX9_beginTurn_15 ?_
    refine lv_iconst (v := 5) hx hb dX9_beginTurn_18 (by decide) ?_
    refine lv_iload_n hx hb dX9_beginTurn_19 rfl (lv_at hl 2 rfl) ?_
    refine lv_imul hx hb dX9_beginTurn_20 ?_
    refine lv_topi (fun f_10 ef_10 => ?_)
    obtain rfl : nI (5 * t) = f_10 := (ef_10.trans (pk_mul 5 t)).symm
    refine lv_iload_n hx hb dX9_beginTurn_21 rfl (lv_at hl 0 rfl) ?_
    refine lv_iadd hx hb dX9_beginTurn_22 ?_
    refine lv_topi (fun f_11 ef_11 => ?_)
    obtain rfl : nI ((5 * t) + 4) = f_11 := (ef_11.trans (nI_add (5 * t) 4)).symm
    refine lv_iload_n hx hb dX9_beginTurn_23 rfl (lv_at hl 2 rfl) ?_
    refine lv_aload_n hx hb dX9_beginTurn_24 rfl (lv_at hl 1 rfl) ?_
    refine va_get (D := Z.1) (ci := 9) (v := .int (nI n)) (C := RX9) (T := TX9) (N := 31) hx hb hts hin9 hown hK hP 0 rfl rfl 4 (by decide) (hts (.fieldLink RX9 86 "HalfAskedModel" "many" "I") (List.mem_of_getElem? (i := 3) rfl)) (fun _ h9 => h9) rfl dX9_beginTurn_25 ?_
    refine lv_icmp_ne (tgt := 44) hx hb dX9_beginTurn_28 (by decide) (fun _ => ?_) (fun c9 => absurd c9 c_3)
    refine lv_iconst (v := (-1)) hx hb dX9_beginTurn_44 (by decide) ?_
    refine va_iast hx hb hK hP hD hS 3 0 rfl rfl (vp_in_nI (by omega) (by decide)) dX9_beginTurn_45 (fun H locs hP hD hS => ?_)
    have hP : va_P Z.1 vwCl [(h0, .inr (9, [.ref b1, .ref b2, .ref b3, .ref b4, .int (nI n), .ref b5, .int (nI pn), .ref b6, .ref b7, .ref b8, .int (nI tn), .int xp, .int xr, .ref b9, .ref b10, .ref b11, .ref b12, .ref b13, .ref b14, .ref b15, .ref b16, .ref b17, .ref b18, .int ik, .ref b19, .ref b20, .ref b21, .ref b22, .ref b23, .ref b24, .ref b25])), (b12, .inl (Z.2 0, 30, .inl f12)), (b13, .inl (Z.2 0, 6, .inl (upd f13 ((nI t).toNatClampNeg) (-1)))), (b14, .inl (Z.2 0, 30, .inl (upd (upd (upd (upd (upd f14 ((nI ((5 * t) + 0)).toNatClampNeg) (-1)) ((nI ((5 * t) + 1)).toNatClampNeg) (-1)) ((nI ((5 * t) + 2)).toNatClampNeg) (-1)) ((nI ((5 * t) + 3)).toNatClampNeg) (-1)) ((nI ((5 * t) + 4)).toNatClampNeg) (-1))))] H := hP
    have hD : va_D A [(h0, .inr (9, [.ref b1, .ref b2, .ref b3, .ref b4, .int (nI n), .ref b5, .int (nI pn), .ref b6, .ref b7, .ref b8, .int (nI tn), .int xp, .int xr, .ref b9, .ref b10, .ref b11, .ref b12, .ref b13, .ref b14, .ref b15, .ref b16, .ref b17, .ref b18, .int ik, .ref b19, .ref b20, .ref b21, .ref b22, .ref b23, .ref b24, .ref b25])), (b12, .inl (Z.2 0, 30, .inl f12)), (b13, .inl (Z.2 0, 6, .inl (upd f13 ((nI t).toNatClampNeg) (-1)))), (b14, .inl (Z.2 0, 30, .inl (upd (upd (upd (upd (upd f14 ((nI ((5 * t) + 0)).toNatClampNeg) (-1)) ((nI ((5 * t) + 1)).toNatClampNeg) (-1)) ((nI ((5 * t) + 2)).toNatClampNeg) (-1)) ((nI ((5 * t) + 3)).toNatClampNeg) (-1)) ((nI ((5 * t) + 4)).toNatClampNeg) (-1))))] := hD
    refine lv_iinc (v := 5) (lv' := [(2, .int 5), (0, .ref h0), (1, .int (nI t))]) hx hb dX9_beginTurn_46 hl (k := 0) rfl (by decide) (by decide) rfl (fun ls hl => ?_)
    refine lv_goto (tgt := 9) hx hb dX9_beginTurn_49 (by decide) ?_
    refine lv_iload_n hx hb dX9_beginTurn_9 rfl (lv_at hl 0 rfl) ?_
    refine lv_iconst (v := 5) hx hb dX9_beginTurn_10 (by decide) ?_
    refine lv_icmp_ge (tgt := 52) hx hb dX9_beginTurn_11 (by decide) (fun _ => ?_) (fun c9 => absurd c9 (by decide))
    have hP9 := hP.sub (ws' := [(h0, .inr (9, [.ref b1, .ref b2, .ref b3, .ref b4, .int (nI n), .ref b5, .int (nI pn), .ref b6, .ref b7, .ref b8, .int (nI tn), .int xp, .int xr, .ref b9, .ref b10, .ref b11, .ref b12, .ref b13, .ref b14, .ref b15, .ref b16, .ref b17, .ref b18, .int ik, .ref b19, .ref b20, .ref b21, .ref b22, .ref b23, .ref b24, .ref b25])), (b12, .inl (Z.2 0, 30, .inl f12)), (b13, .inl (Z.2 0, 6, .inl (upd f13 ((nI t).toNatClampNeg) (-1)))), (b14, .inl (Z.2 0, 30, .inl (upd (upd (upd (upd (upd f14 ((nI ((5 * t) + 0)).toNatClampNeg) (-1)) ((nI ((5 * t) + 1)).toNatClampNeg) (-1)) ((nI ((5 * t) + 2)).toNatClampNeg) (-1)) ((nI ((5 * t) + 3)).toNatClampNeg) (-1)) ((nI ((5 * t) + 4)).toNatClampNeg) (-1))))]) [0, 1, 2, 3] rfl
    have hD9 := hD.sub (ws' := [(h0, .inr (9, [.ref b1, .ref b2, .ref b3, .ref b4, .int (nI n), .ref b5, .int (nI pn), .ref b6, .ref b7, .ref b8, .int (nI tn), .int xp, .int xr, .ref b9, .ref b10, .ref b11, .ref b12, .ref b13, .ref b14, .ref b15, .ref b16, .ref b17, .ref b18, .int ik, .ref b19, .ref b20, .ref b21, .ref b22, .ref b23, .ref b24, .ref b25])), (b12, .inl (Z.2 0, 30, .inl f12)), (b13, .inl (Z.2 0, 6, .inl (upd f13 ((nI t).toNatClampNeg) (-1)))), (b14, .inl (Z.2 0, 30, .inl (upd (upd (upd (upd (upd f14 ((nI ((5 * t) + 0)).toNatClampNeg) (-1)) ((nI ((5 * t) + 1)).toNatClampNeg) (-1)) ((nI ((5 * t) + 2)).toNatClampNeg) (-1)) ((nI ((5 * t) + 3)).toNatClampNeg) (-1)) ((nI ((5 * t) + 4)).toNatClampNeg) (-1))))]) [0, 1, 2, 3] (by decide +kernel) rfl
    exact W.vret hx hb hr (fun t9 ht hW => ⟨⟨(upd f13 ((nI t).toNatClampNeg) (-1), upd (upd (upd (upd (upd f14 ((nI ((5 * t) + 0)).toNatClampNeg) (-1)) ((nI ((5 * t) + 1)).toNatClampNeg) (-1)) ((nI ((5 * t) + 2)).toNatClampNeg) (-1)) ((nI ((5 * t) + 3)).toNatClampNeg) (-1)) ((nI ((5 * t) + 4)).toNatClampNeg) (-1)), rfl, ⟨fun z hz => z_row5a (g := fun _ => -1) (p := 5 * t) (by omega) hz, fun w hw => by rw [if_neg c_3]; exact z_row5b (g := fun _ => -1) (p := 5 * t) (by omega) hw, by rw [nI_clamp (by omega)]⟩, by rw [ht]; exact hP9, hD9⟩, hS.F ht⟩) hS.2.2 dX9_beginTurn_52
  · refine lv_aload_n hx hb dX9_beginTurn_31 rfl (lv_at hl 1 rfl) ?_
    refine va_get (D := Z.1) (ci := 9) (v := .ref b12) (C := RX9) (T := TX9) (N := 31) hx hb hts hin9 hown hK hP 0 rfl rfl 16 (by decide) (hts (.fieldLink RX9 43 "HalfAskedModel" "ahead" "[I") (List.mem_of_getElem? (i := 4) rfl)) (fun _ h9 => h9) rfl dX9_beginTurn_32 ?_
    refine lv_iconst (v := 5) hx hb dX9_beginTurn_35 (by decide) ?_
    refine lv_iload_n hx hb dX9_beginTurn_36 rfl (lv_at hl 2 rfl) ?_
    refine lv_imul hx hb dX9_beginTurn_37 ?_
    refine lv_topi (fun f_12 ef_12 => ?_)
    obtain rfl : nI (5 * t) = f_12 := (ef_12.trans (pk_mul 5 t)).symm
    refine lv_iload_n hx hb dX9_beginTurn_38 rfl (lv_at hl 0 rfl) ?_
    refine lv_iadd hx hb dX9_beginTurn_39 ?_
    refine lv_topi (fun f_13 ef_13 => ?_)
    obtain rfl : nI ((5 * t) + 0) = f_13 := (ef_13.trans (nI_add (5 * t) 0)).symm
    refine va_iald hx hb hK hP 1 0 rfl rfl (vp_in_nI (by omega) (by decide)) dX9_beginTurn_40 ?_
    refine lv_topi (fun f_14 ef_14 => ?_)
    obtain rfl : f12 (5 * t + 0) = f_14 := (ef_14.trans (by rw [nI_clamp (show 5 * t + 0 < 2 ^ 31 by omega)])).symm
    refine lv_goto (tgt := 45) hx hb dX9_beginTurn_41 (by decide) ?_
    refine va_iast hx hb hK hP hD hS 3 0 rfl rfl (vp_in_nI (by omega) (by decide)) dX9_beginTurn_45 (fun H locs hP hD hS => ?_)
    have hP : va_P Z.1 vwCl [(h0, .inr (9, [.ref b1, .ref b2, .ref b3, .ref b4, .int (nI n), .ref b5, .int (nI pn), .ref b6, .ref b7, .ref b8, .int (nI tn), .int xp, .int xr, .ref b9, .ref b10, .ref b11, .ref b12, .ref b13, .ref b14, .ref b15, .ref b16, .ref b17, .ref b18, .int ik, .ref b19, .ref b20, .ref b21, .ref b22, .ref b23, .ref b24, .ref b25])), (b12, .inl (Z.2 0, 30, .inl f12)), (b13, .inl (Z.2 0, 6, .inl (upd f13 ((nI t).toNatClampNeg) (-1)))), (b14, .inl (Z.2 0, 30, .inl (upd f14 ((nI ((5 * t) + 0)).toNatClampNeg) (f12 (5 * t + 0)))))] H := hP
    have hD : va_D A [(h0, .inr (9, [.ref b1, .ref b2, .ref b3, .ref b4, .int (nI n), .ref b5, .int (nI pn), .ref b6, .ref b7, .ref b8, .int (nI tn), .int xp, .int xr, .ref b9, .ref b10, .ref b11, .ref b12, .ref b13, .ref b14, .ref b15, .ref b16, .ref b17, .ref b18, .int ik, .ref b19, .ref b20, .ref b21, .ref b22, .ref b23, .ref b24, .ref b25])), (b12, .inl (Z.2 0, 30, .inl f12)), (b13, .inl (Z.2 0, 6, .inl (upd f13 ((nI t).toNatClampNeg) (-1)))), (b14, .inl (Z.2 0, 30, .inl (upd f14 ((nI ((5 * t) + 0)).toNatClampNeg) (f12 (5 * t + 0)))))] := hD
    refine lv_iinc (v := 1) (lv' := [(2, .int 1), (0, .ref h0), (1, .int (nI t))]) hx hb dX9_beginTurn_46 hl (k := 0) rfl (by decide) (by decide) rfl (fun ls hl => ?_)
    refine lv_goto (tgt := 9) hx hb dX9_beginTurn_49 (by decide) ?_
    refine lv_iload_n hx hb dX9_beginTurn_9 rfl (lv_at hl 0 rfl) ?_
    refine lv_iconst (v := 5) hx hb dX9_beginTurn_10 (by decide) ?_
    refine lv_icmp_ge (tgt := 52) hx hb dX9_beginTurn_11 (by decide) (fun c9 => absurd c9 (by decide)) (fun _ => ?_)
    refine lv_aload_n hx hb dX9_beginTurn_14 rfl (lv_at hl 1 rfl) ?_
    refine va_get (D := Z.1) (ci := 9) (v := .ref b14) (C := RX9) (T := TX9) (N := 31) hx hb hts hin9 hown hK hP 0 rfl rfl 18 (by decide) (hts (.fieldLink RX9 49 "HalfAskedModel" "endPence" "[I") (List.mem_of_getElem? (i := 2) rfl)) (fun _ h9 => h9) rfl dX9_beginTurn_15 ?_
    refine lv_iconst (v := 5) hx hb dX9_beginTurn_18 (by decide) ?_
    refine lv_iload_n hx hb dX9_beginTurn_19 rfl (lv_at hl 2 rfl) ?_
    refine lv_imul hx hb dX9_beginTurn_20 ?_
    refine lv_topi (fun f_15 ef_15 => ?_)
    obtain rfl : nI (5 * t) = f_15 := (ef_15.trans (pk_mul 5 t)).symm
    refine lv_iload_n hx hb dX9_beginTurn_21 rfl (lv_at hl 0 rfl) ?_
    refine lv_iadd hx hb dX9_beginTurn_22 ?_
    refine lv_topi (fun f_16 ef_16 => ?_)
    obtain rfl : nI ((5 * t) + 1) = f_16 := (ef_16.trans (nI_1 _)).symm
    refine lv_iload_n hx hb dX9_beginTurn_23 rfl (lv_at hl 2 rfl) ?_
    refine lv_aload_n hx hb dX9_beginTurn_24 rfl (lv_at hl 1 rfl) ?_
    refine va_get (D := Z.1) (ci := 9) (v := .int (nI n)) (C := RX9) (T := TX9) (N := 31) hx hb hts hin9 hown hK hP 0 rfl rfl 4 (by decide) (hts (.fieldLink RX9 86 "HalfAskedModel" "many" "I") (List.mem_of_getElem? (i := 3) rfl)) (fun _ h9 => h9) rfl dX9_beginTurn_25 ?_
    refine lv_icmp_ne (tgt := 44) hx hb dX9_beginTurn_28 (by decide) (fun c9 => absurd c_3 c9) (fun _ => ?_)
    refine lv_aload_n hx hb dX9_beginTurn_31 rfl (lv_at hl 1 rfl) ?_
    refine va_get (D := Z.1) (ci := 9) (v := .ref b12) (C := RX9) (T := TX9) (N := 31) hx hb hts hin9 hown hK hP 0 rfl rfl 16 (by decide) (hts (.fieldLink RX9 43 "HalfAskedModel" "ahead" "[I") (List.mem_of_getElem? (i := 4) rfl)) (fun _ h9 => h9) rfl dX9_beginTurn_32 ?_
    refine lv_iconst (v := 5) hx hb dX9_beginTurn_35 (by decide) ?_
    refine lv_iload_n hx hb dX9_beginTurn_36 rfl (lv_at hl 2 rfl) ?_
    refine lv_imul hx hb dX9_beginTurn_37 ?_
    refine lv_topi (fun f_17 ef_17 => ?_)
    obtain rfl : nI (5 * t) = f_17 := (ef_17.trans (pk_mul 5 t)).symm
    refine lv_iload_n hx hb dX9_beginTurn_38 rfl (lv_at hl 0 rfl) ?_
    refine lv_iadd hx hb dX9_beginTurn_39 ?_
    refine lv_topi (fun f_18 ef_18 => ?_)
    obtain rfl : nI ((5 * t) + 1) = f_18 := (ef_18.trans (nI_1 _)).symm
    refine va_iald hx hb hK hP 1 0 rfl rfl (vp_in_nI (by omega) (by decide)) dX9_beginTurn_40 ?_
    refine lv_topi (fun f_19 ef_19 => ?_)
    obtain rfl : f12 (5 * t + 1) = f_19 := (ef_19.trans (by rw [nI_clamp (show 5 * t + 1 < 2 ^ 31 by omega)])).symm
    refine lv_goto (tgt := 45) hx hb dX9_beginTurn_41 (by decide) ?_
    refine va_iast hx hb hK hP hD hS 3 0 rfl rfl (vp_in_nI (by omega) (by decide)) dX9_beginTurn_45 (fun H locs hP hD hS => ?_)
    have hP : va_P Z.1 vwCl [(h0, .inr (9, [.ref b1, .ref b2, .ref b3, .ref b4, .int (nI n), .ref b5, .int (nI pn), .ref b6, .ref b7, .ref b8, .int (nI tn), .int xp, .int xr, .ref b9, .ref b10, .ref b11, .ref b12, .ref b13, .ref b14, .ref b15, .ref b16, .ref b17, .ref b18, .int ik, .ref b19, .ref b20, .ref b21, .ref b22, .ref b23, .ref b24, .ref b25])), (b12, .inl (Z.2 0, 30, .inl f12)), (b13, .inl (Z.2 0, 6, .inl (upd f13 ((nI t).toNatClampNeg) (-1)))), (b14, .inl (Z.2 0, 30, .inl (upd (upd f14 ((nI ((5 * t) + 0)).toNatClampNeg) (f12 (5 * t + 0))) ((nI ((5 * t) + 1)).toNatClampNeg) (f12 (5 * t + 1)))))] H := hP
    have hD : va_D A [(h0, .inr (9, [.ref b1, .ref b2, .ref b3, .ref b4, .int (nI n), .ref b5, .int (nI pn), .ref b6, .ref b7, .ref b8, .int (nI tn), .int xp, .int xr, .ref b9, .ref b10, .ref b11, .ref b12, .ref b13, .ref b14, .ref b15, .ref b16, .ref b17, .ref b18, .int ik, .ref b19, .ref b20, .ref b21, .ref b22, .ref b23, .ref b24, .ref b25])), (b12, .inl (Z.2 0, 30, .inl f12)), (b13, .inl (Z.2 0, 6, .inl (upd f13 ((nI t).toNatClampNeg) (-1)))), (b14, .inl (Z.2 0, 30, .inl (upd (upd f14 ((nI ((5 * t) + 0)).toNatClampNeg) (f12 (5 * t + 0))) ((nI ((5 * t) + 1)).toNatClampNeg) (f12 (5 * t + 1)))))] := hD
    refine lv_iinc (v := 2) (lv' := [(2, .int 2), (0, .ref h0), (1, .int (nI t))]) hx hb dX9_beginTurn_46 hl (k := 0) rfl (by decide) (by decide) rfl (fun ls hl => ?_)
    refine lv_goto (tgt := 9) hx hb dX9_beginTurn_49 (by decide) ?_
    refine lv_iload_n hx hb dX9_beginTurn_9 rfl (lv_at hl 0 rfl) ?_
    refine lv_iconst (v := 5) hx hb dX9_beginTurn_10 (by decide) ?_
    refine lv_icmp_ge (tgt := 52) hx hb dX9_beginTurn_11 (by decide) (fun c9 => absurd c9 (by decide)) (fun _ => ?_)
    refine lv_aload_n hx hb dX9_beginTurn_14 rfl (lv_at hl 1 rfl) ?_
    refine va_get (D := Z.1) (ci := 9) (v := .ref b14) (C := RX9) (T := TX9) (N := 31) hx hb hts hin9 hown hK hP 0 rfl rfl 18 (by decide) (hts (.fieldLink RX9 49 "HalfAskedModel" "endPence" "[I") (List.mem_of_getElem? (i := 2) rfl)) (fun _ h9 => h9) rfl dX9_beginTurn_15 ?_
    refine lv_iconst (v := 5) hx hb dX9_beginTurn_18 (by decide) ?_
    refine lv_iload_n hx hb dX9_beginTurn_19 rfl (lv_at hl 2 rfl) ?_
    refine lv_imul hx hb dX9_beginTurn_20 ?_
    refine lv_topi (fun f_20 ef_20 => ?_)
    obtain rfl : nI (5 * t) = f_20 := (ef_20.trans (pk_mul 5 t)).symm
    refine lv_iload_n hx hb dX9_beginTurn_21 rfl (lv_at hl 0 rfl) ?_
    refine lv_iadd hx hb dX9_beginTurn_22 ?_
    refine lv_topi (fun f_21 ef_21 => ?_)
    obtain rfl : nI ((5 * t) + 2) = f_21 := (ef_21.trans (nI_add (5 * t) 2)).symm
    refine lv_iload_n hx hb dX9_beginTurn_23 rfl (lv_at hl 2 rfl) ?_
    refine lv_aload_n hx hb dX9_beginTurn_24 rfl (lv_at hl 1 rfl) ?_
    refine va_get (D := Z.1) (ci := 9) (v := .int (nI n)) (C := RX9) (T := TX9) (N := 31) hx hb hts hin9 hown hK hP 0 rfl rfl 4 (by decide) (hts (.fieldLink RX9 86 "HalfAskedModel" "many" "I") (List.mem_of_getElem? (i := 3) rfl)) (fun _ h9 => h9) rfl dX9_beginTurn_25 ?_
    refine lv_icmp_ne (tgt := 44) hx hb dX9_beginTurn_28 (by decide) (fun c9 => absurd c_3 c9) (fun _ => ?_)
    refine lv_aload_n hx hb dX9_beginTurn_31 rfl (lv_at hl 1 rfl) ?_
    refine va_get (D := Z.1) (ci := 9) (v := .ref b12) (C := RX9) (T := TX9) (N := 31) hx hb hts hin9 hown hK hP 0 rfl rfl 16 (by decide) (hts (.fieldLink RX9 43 "HalfAskedModel" "ahead" "[I") (List.mem_of_getElem? (i := 4) rfl)) (fun _ h9 => h9) rfl dX9_beginTurn_32 ?_
    refine lv_iconst (v := 5) hx hb dX9_beginTurn_35 (by decide) ?_
    refine lv_iload_n hx hb dX9_beginTurn_36 rfl (lv_at hl 2 rfl) ?_
    refine lv_imul hx hb dX9_beginTurn_37 ?_
    refine lv_topi (fun f_22 ef_22 => ?_)
    obtain rfl : nI (5 * t) = f_22 := (ef_22.trans (pk_mul 5 t)).symm
    refine lv_iload_n hx hb dX9_beginTurn_38 rfl (lv_at hl 0 rfl) ?_
    refine lv_iadd hx hb dX9_beginTurn_39 ?_
    refine lv_topi (fun f_23 ef_23 => ?_)
    obtain rfl : nI ((5 * t) + 2) = f_23 := (ef_23.trans (nI_add (5 * t) 2)).symm
    refine va_iald hx hb hK hP 1 0 rfl rfl (vp_in_nI (by omega) (by decide)) dX9_beginTurn_40 ?_
    refine lv_topi (fun f_24 ef_24 => ?_)
    obtain rfl : f12 (5 * t + 2) = f_24 := (ef_24.trans (by rw [nI_clamp (show 5 * t + 2 < 2 ^ 31 by omega)])).symm
    refine lv_goto (tgt := 45) hx hb dX9_beginTurn_41 (by decide) ?_
    refine va_iast hx hb hK hP hD hS 3 0 rfl rfl (vp_in_nI (by omega) (by decide)) dX9_beginTurn_45 (fun H locs hP hD hS => ?_)
    have hP : va_P Z.1 vwCl [(h0, .inr (9, [.ref b1, .ref b2, .ref b3, .ref b4, .int (nI n), .ref b5, .int (nI pn), .ref b6, .ref b7, .ref b8, .int (nI tn), .int xp, .int xr, .ref b9, .ref b10, .ref b11, .ref b12, .ref b13, .ref b14, .ref b15, .ref b16, .ref b17, .ref b18, .int ik, .ref b19, .ref b20, .ref b21, .ref b22, .ref b23, .ref b24, .ref b25])), (b12, .inl (Z.2 0, 30, .inl f12)), (b13, .inl (Z.2 0, 6, .inl (upd f13 ((nI t).toNatClampNeg) (-1)))), (b14, .inl (Z.2 0, 30, .inl (upd (upd (upd f14 ((nI ((5 * t) + 0)).toNatClampNeg) (f12 (5 * t + 0))) ((nI ((5 * t) + 1)).toNatClampNeg) (f12 (5 * t + 1))) ((nI ((5 * t) + 2)).toNatClampNeg) (f12 (5 * t + 2)))))] H := hP
    have hD : va_D A [(h0, .inr (9, [.ref b1, .ref b2, .ref b3, .ref b4, .int (nI n), .ref b5, .int (nI pn), .ref b6, .ref b7, .ref b8, .int (nI tn), .int xp, .int xr, .ref b9, .ref b10, .ref b11, .ref b12, .ref b13, .ref b14, .ref b15, .ref b16, .ref b17, .ref b18, .int ik, .ref b19, .ref b20, .ref b21, .ref b22, .ref b23, .ref b24, .ref b25])), (b12, .inl (Z.2 0, 30, .inl f12)), (b13, .inl (Z.2 0, 6, .inl (upd f13 ((nI t).toNatClampNeg) (-1)))), (b14, .inl (Z.2 0, 30, .inl (upd (upd (upd f14 ((nI ((5 * t) + 0)).toNatClampNeg) (f12 (5 * t + 0))) ((nI ((5 * t) + 1)).toNatClampNeg) (f12 (5 * t + 1))) ((nI ((5 * t) + 2)).toNatClampNeg) (f12 (5 * t + 2)))))] := hD
    refine lv_iinc (v := 3) (lv' := [(2, .int 3), (0, .ref h0), (1, .int (nI t))]) hx hb dX9_beginTurn_46 hl (k := 0) rfl (by decide) (by decide) rfl (fun ls hl => ?_)
    refine lv_goto (tgt := 9) hx hb dX9_beginTurn_49 (by decide) ?_
    refine lv_iload_n hx hb dX9_beginTurn_9 rfl (lv_at hl 0 rfl) ?_
    refine lv_iconst (v := 5) hx hb dX9_beginTurn_10 (by decide) ?_
    refine lv_icmp_ge (tgt := 52) hx hb dX9_beginTurn_11 (by decide) (fun c9 => absurd c9 (by decide)) (fun _ => ?_)
    refine lv_aload_n hx hb dX9_beginTurn_14 rfl (lv_at hl 1 rfl) ?_
    refine va_get (D := Z.1) (ci := 9) (v := .ref b14) (C := RX9) (T := TX9) (N := 31) hx hb hts hin9 hown hK hP 0 rfl rfl 18 (by decide) (hts (.fieldLink RX9 49 "HalfAskedModel" "endPence" "[I") (List.mem_of_getElem? (i := 2) rfl)) (fun _ h9 => h9) rfl dX9_beginTurn_15 ?_
    refine lv_iconst (v := 5) hx hb dX9_beginTurn_18 (by decide) ?_
    refine lv_iload_n hx hb dX9_beginTurn_19 rfl (lv_at hl 2 rfl) ?_
    refine lv_imul hx hb dX9_beginTurn_20 ?_
    refine lv_topi (fun f_25 ef_25 => ?_)
    obtain rfl : nI (5 * t) = f_25 := (ef_25.trans (pk_mul 5 t)).symm
    refine lv_iload_n hx hb dX9_beginTurn_21 rfl (lv_at hl 0 rfl) ?_
    refine lv_iadd hx hb dX9_beginTurn_22 ?_
    refine lv_topi (fun f_26 ef_26 => ?_)
    obtain rfl : nI ((5 * t) + 3) = f_26 := (ef_26.trans (nI_add (5 * t) 3)).symm
    refine lv_iload_n hx hb dX9_beginTurn_23 rfl (lv_at hl 2 rfl) ?_
    refine lv_aload_n hx hb dX9_beginTurn_24 rfl (lv_at hl 1 rfl) ?_
    refine va_get (D := Z.1) (ci := 9) (v := .int (nI n)) (C := RX9) (T := TX9) (N := 31) hx hb hts hin9 hown hK hP 0 rfl rfl 4 (by decide) (hts (.fieldLink RX9 86 "HalfAskedModel" "many" "I") (List.mem_of_getElem? (i := 3) rfl)) (fun _ h9 => h9) rfl dX9_beginTurn_25 ?_
    refine lv_icmp_ne (tgt := 44) hx hb dX9_beginTurn_28 (by decide) (fun c9 => absurd c_3 c9) (fun _ => ?_)
    refine lv_aload_n hx hb dX9_beginTurn_31 rfl (lv_at hl 1 rfl) ?_
    refine va_get (D := Z.1) (ci := 9) (v := .ref b12) (C := RX9) (T := TX9) (N := 31) hx hb hts hin9 hown hK hP 0 rfl rfl 16 (by decide) (hts (.fieldLink RX9 43 "HalfAskedModel" "ahead" "[I") (List.mem_of_getElem? (i := 4) rfl)) (fun _ h9 => h9) rfl dX9_beginTurn_32 ?_
    refine lv_iconst (v := 5) hx hb dX9_beginTurn_35 (by decide) ?_
    refine lv_iload_n hx hb dX9_beginTurn_36 rfl (lv_at hl 2 rfl) ?_
    refine lv_imul hx hb dX9_beginTurn_37 ?_
    refine lv_topi (fun f_27 ef_27 => ?_)
    obtain rfl : nI (5 * t) = f_27 := (ef_27.trans (pk_mul 5 t)).symm
    refine lv_iload_n hx hb dX9_beginTurn_38 rfl (lv_at hl 0 rfl) ?_
    refine lv_iadd hx hb dX9_beginTurn_39 ?_
    refine lv_topi (fun f_28 ef_28 => ?_)
    obtain rfl : nI ((5 * t) + 3) = f_28 := (ef_28.trans (nI_add (5 * t) 3)).symm
    refine va_iald hx hb hK hP 1 0 rfl rfl (vp_in_nI (by omega) (by decide)) dX9_beginTurn_40 ?_
    refine lv_topi (fun f_29 ef_29 => ?_)
    obtain rfl : f12 (5 * t + 3) = f_29 := (ef_29.trans (by rw [nI_clamp (show 5 * t + 3 < 2 ^ 31 by omega)])).symm
    refine lv_goto (tgt := 45) hx hb dX9_beginTurn_41 (by decide) ?_
    refine va_iast hx hb hK hP hD hS 3 0 rfl rfl (vp_in_nI (by omega) (by decide)) dX9_beginTurn_45 (fun H locs hP hD hS => ?_)
    have hP : va_P Z.1 vwCl [(h0, .inr (9, [.ref b1, .ref b2, .ref b3, .ref b4, .int (nI n), .ref b5, .int (nI pn), .ref b6, .ref b7, .ref b8, .int (nI tn), .int xp, .int xr, .ref b9, .ref b10, .ref b11, .ref b12, .ref b13, .ref b14, .ref b15, .ref b16, .ref b17, .ref b18, .int ik, .ref b19, .ref b20, .ref b21, .ref b22, .ref b23, .ref b24, .ref b25])), (b12, .inl (Z.2 0, 30, .inl f12)), (b13, .inl (Z.2 0, 6, .inl (upd f13 ((nI t).toNatClampNeg) (-1)))), (b14, .inl (Z.2 0, 30, .inl (upd (upd (upd (upd f14 ((nI ((5 * t) + 0)).toNatClampNeg) (f12 (5 * t + 0))) ((nI ((5 * t) + 1)).toNatClampNeg) (f12 (5 * t + 1))) ((nI ((5 * t) + 2)).toNatClampNeg) (f12 (5 * t + 2))) ((nI ((5 * t) + 3)).toNatClampNeg) (f12 (5 * t + 3)))))] H := hP
    have hD : va_D A [(h0, .inr (9, [.ref b1, .ref b2, .ref b3, .ref b4, .int (nI n), .ref b5, .int (nI pn), .ref b6, .ref b7, .ref b8, .int (nI tn), .int xp, .int xr, .ref b9, .ref b10, .ref b11, .ref b12, .ref b13, .ref b14, .ref b15, .ref b16, .ref b17, .ref b18, .int ik, .ref b19, .ref b20, .ref b21, .ref b22, .ref b23, .ref b24, .ref b25])), (b12, .inl (Z.2 0, 30, .inl f12)), (b13, .inl (Z.2 0, 6, .inl (upd f13 ((nI t).toNatClampNeg) (-1)))), (b14, .inl (Z.2 0, 30, .inl (upd (upd (upd (upd f14 ((nI ((5 * t) + 0)).toNatClampNeg) (f12 (5 * t + 0))) ((nI ((5 * t) + 1)).toNatClampNeg) (f12 (5 * t + 1))) ((nI ((5 * t) + 2)).toNatClampNeg) (f12 (5 * t + 2))) ((nI ((5 * t) + 3)).toNatClampNeg) (f12 (5 * t + 3)))))] := hD
    refine lv_iinc (v := 4) (lv' := [(2, .int 4), (0, .ref h0), (1, .int (nI t))]) hx hb dX9_beginTurn_46 hl (k := 0) rfl (by decide) (by decide) rfl (fun ls hl => ?_)
    refine lv_goto (tgt := 9) hx hb dX9_beginTurn_49 (by decide) ?_
    refine lv_iload_n hx hb dX9_beginTurn_9 rfl (lv_at hl 0 rfl) ?_
    refine lv_iconst (v := 5) hx hb dX9_beginTurn_10 (by decide) ?_
    refine lv_icmp_ge (tgt := 52) hx hb dX9_beginTurn_11 (by decide) (fun c9 => absurd c9 (by decide)) (fun _ => ?_)
    refine lv_aload_n hx hb dX9_beginTurn_14 rfl (lv_at hl 1 rfl) ?_
    refine va_get (D := Z.1) (ci := 9) (v := .ref b14) (C := RX9) (T := TX9) (N := 31) hx hb hts hin9 hown hK hP 0 rfl rfl 18 (by decide) (hts (.fieldLink RX9 49 "HalfAskedModel" "endPence" "[I") (List.mem_of_getElem? (i := 2) rfl)) (fun _ h9 => h9) rfl dX9_beginTurn_15 ?_
    refine lv_iconst (v := 5) hx hb dX9_beginTurn_18 (by decide) ?_
    refine lv_iload_n hx hb dX9_beginTurn_19 rfl (lv_at hl 2 rfl) ?_
    refine lv_imul hx hb dX9_beginTurn_20 ?_
    refine lv_topi (fun f_30 ef_30 => ?_)
    obtain rfl : nI (5 * t) = f_30 := (ef_30.trans (pk_mul 5 t)).symm
    refine lv_iload_n hx hb dX9_beginTurn_21 rfl (lv_at hl 0 rfl) ?_
    refine lv_iadd hx hb dX9_beginTurn_22 ?_
    refine lv_topi (fun f_31 ef_31 => ?_)
    obtain rfl : nI ((5 * t) + 4) = f_31 := (ef_31.trans (nI_add (5 * t) 4)).symm
    refine lv_iload_n hx hb dX9_beginTurn_23 rfl (lv_at hl 2 rfl) ?_
    refine lv_aload_n hx hb dX9_beginTurn_24 rfl (lv_at hl 1 rfl) ?_
    refine va_get (D := Z.1) (ci := 9) (v := .int (nI n)) (C := RX9) (T := TX9) (N := 31) hx hb hts hin9 hown hK hP 0 rfl rfl 4 (by decide) (hts (.fieldLink RX9 86 "HalfAskedModel" "many" "I") (List.mem_of_getElem? (i := 3) rfl)) (fun _ h9 => h9) rfl dX9_beginTurn_25 ?_
    refine lv_icmp_ne (tgt := 44) hx hb dX9_beginTurn_28 (by decide) (fun c9 => absurd c_3 c9) (fun _ => ?_)
    refine lv_aload_n hx hb dX9_beginTurn_31 rfl (lv_at hl 1 rfl) ?_
    refine va_get (D := Z.1) (ci := 9) (v := .ref b12) (C := RX9) (T := TX9) (N := 31) hx hb hts hin9 hown hK hP 0 rfl rfl 16 (by decide) (hts (.fieldLink RX9 43 "HalfAskedModel" "ahead" "[I") (List.mem_of_getElem? (i := 4) rfl)) (fun _ h9 => h9) rfl dX9_beginTurn_32 ?_
    refine lv_iconst (v := 5) hx hb dX9_beginTurn_35 (by decide) ?_
    refine lv_iload_n hx hb dX9_beginTurn_36 rfl (lv_at hl 2 rfl) ?_
    refine lv_imul hx hb dX9_beginTurn_37 ?_
    refine lv_topi (fun f_32 ef_32 => ?_)
    obtain rfl : nI (5 * t) = f_32 := (ef_32.trans (pk_mul 5 t)).symm
    refine lv_iload_n hx hb dX9_beginTurn_38 rfl (lv_at hl 0 rfl) ?_
    refine lv_iadd hx hb dX9_beginTurn_39 ?_
    refine lv_topi (fun f_33 ef_33 => ?_)
    obtain rfl : nI ((5 * t) + 4) = f_33 := (ef_33.trans (nI_add (5 * t) 4)).symm
    refine va_iald hx hb hK hP 1 0 rfl rfl (vp_in_nI (by omega) (by decide)) dX9_beginTurn_40 ?_
    refine lv_topi (fun f_34 ef_34 => ?_)
    obtain rfl : f12 (5 * t + 4) = f_34 := (ef_34.trans (by rw [nI_clamp (show 5 * t + 4 < 2 ^ 31 by omega)])).symm
    refine lv_goto (tgt := 45) hx hb dX9_beginTurn_41 (by decide) ?_
    refine va_iast hx hb hK hP hD hS 3 0 rfl rfl (vp_in_nI (by omega) (by decide)) dX9_beginTurn_45 (fun H locs hP hD hS => ?_)
    have hP : va_P Z.1 vwCl [(h0, .inr (9, [.ref b1, .ref b2, .ref b3, .ref b4, .int (nI n), .ref b5, .int (nI pn), .ref b6, .ref b7, .ref b8, .int (nI tn), .int xp, .int xr, .ref b9, .ref b10, .ref b11, .ref b12, .ref b13, .ref b14, .ref b15, .ref b16, .ref b17, .ref b18, .int ik, .ref b19, .ref b20, .ref b21, .ref b22, .ref b23, .ref b24, .ref b25])), (b12, .inl (Z.2 0, 30, .inl f12)), (b13, .inl (Z.2 0, 6, .inl (upd f13 ((nI t).toNatClampNeg) (-1)))), (b14, .inl (Z.2 0, 30, .inl (upd (upd (upd (upd (upd f14 ((nI ((5 * t) + 0)).toNatClampNeg) (f12 (5 * t + 0))) ((nI ((5 * t) + 1)).toNatClampNeg) (f12 (5 * t + 1))) ((nI ((5 * t) + 2)).toNatClampNeg) (f12 (5 * t + 2))) ((nI ((5 * t) + 3)).toNatClampNeg) (f12 (5 * t + 3))) ((nI ((5 * t) + 4)).toNatClampNeg) (f12 (5 * t + 4)))))] H := hP
    have hD : va_D A [(h0, .inr (9, [.ref b1, .ref b2, .ref b3, .ref b4, .int (nI n), .ref b5, .int (nI pn), .ref b6, .ref b7, .ref b8, .int (nI tn), .int xp, .int xr, .ref b9, .ref b10, .ref b11, .ref b12, .ref b13, .ref b14, .ref b15, .ref b16, .ref b17, .ref b18, .int ik, .ref b19, .ref b20, .ref b21, .ref b22, .ref b23, .ref b24, .ref b25])), (b12, .inl (Z.2 0, 30, .inl f12)), (b13, .inl (Z.2 0, 6, .inl (upd f13 ((nI t).toNatClampNeg) (-1)))), (b14, .inl (Z.2 0, 30, .inl (upd (upd (upd (upd (upd f14 ((nI ((5 * t) + 0)).toNatClampNeg) (f12 (5 * t + 0))) ((nI ((5 * t) + 1)).toNatClampNeg) (f12 (5 * t + 1))) ((nI ((5 * t) + 2)).toNatClampNeg) (f12 (5 * t + 2))) ((nI ((5 * t) + 3)).toNatClampNeg) (f12 (5 * t + 3))) ((nI ((5 * t) + 4)).toNatClampNeg) (f12 (5 * t + 4)))))] := hD
    refine lv_iinc (v := 5) (lv' := [(2, .int 5), (0, .ref h0), (1, .int (nI t))]) hx hb dX9_beginTurn_46 hl (k := 0) rfl (by decide) (by decide) rfl (fun ls hl => ?_)
    refine lv_goto (tgt := 9) hx hb dX9_beginTurn_49 (by decide) ?_
    refine lv_iload_n hx hb dX9_beginTurn_9 rfl (lv_at hl 0 rfl) ?_
    refine lv_iconst (v := 5) hx hb dX9_beginTurn_10 (by decide) ?_
    refine lv_icmp_ge (tgt := 52) hx hb dX9_beginTurn_11 (by decide) (fun _ => ?_) (fun c9 => absurd c9 (by decide))
    have hP9 := hP.sub (ws' := [(h0, .inr (9, [.ref b1, .ref b2, .ref b3, .ref b4, .int (nI n), .ref b5, .int (nI pn), .ref b6, .ref b7, .ref b8, .int (nI tn), .int xp, .int xr, .ref b9, .ref b10, .ref b11, .ref b12, .ref b13, .ref b14, .ref b15, .ref b16, .ref b17, .ref b18, .int ik, .ref b19, .ref b20, .ref b21, .ref b22, .ref b23, .ref b24, .ref b25])), (b12, .inl (Z.2 0, 30, .inl f12)), (b13, .inl (Z.2 0, 6, .inl (upd f13 ((nI t).toNatClampNeg) (-1)))), (b14, .inl (Z.2 0, 30, .inl (upd (upd (upd (upd (upd f14 ((nI ((5 * t) + 0)).toNatClampNeg) (f12 (5 * t + 0))) ((nI ((5 * t) + 1)).toNatClampNeg) (f12 (5 * t + 1))) ((nI ((5 * t) + 2)).toNatClampNeg) (f12 (5 * t + 2))) ((nI ((5 * t) + 3)).toNatClampNeg) (f12 (5 * t + 3))) ((nI ((5 * t) + 4)).toNatClampNeg) (f12 (5 * t + 4)))))]) [0, 1, 2, 3] rfl
    have hD9 := hD.sub (ws' := [(h0, .inr (9, [.ref b1, .ref b2, .ref b3, .ref b4, .int (nI n), .ref b5, .int (nI pn), .ref b6, .ref b7, .ref b8, .int (nI tn), .int xp, .int xr, .ref b9, .ref b10, .ref b11, .ref b12, .ref b13, .ref b14, .ref b15, .ref b16, .ref b17, .ref b18, .int ik, .ref b19, .ref b20, .ref b21, .ref b22, .ref b23, .ref b24, .ref b25])), (b12, .inl (Z.2 0, 30, .inl f12)), (b13, .inl (Z.2 0, 6, .inl (upd f13 ((nI t).toNatClampNeg) (-1)))), (b14, .inl (Z.2 0, 30, .inl (upd (upd (upd (upd (upd f14 ((nI ((5 * t) + 0)).toNatClampNeg) (f12 (5 * t + 0))) ((nI ((5 * t) + 1)).toNatClampNeg) (f12 (5 * t + 1))) ((nI ((5 * t) + 2)).toNatClampNeg) (f12 (5 * t + 2))) ((nI ((5 * t) + 3)).toNatClampNeg) (f12 (5 * t + 3))) ((nI ((5 * t) + 4)).toNatClampNeg) (f12 (5 * t + 4)))))]) [0, 1, 2, 3] (by decide +kernel) rfl
    exact W.vret hx hb hr (fun t9 ht hW => ⟨⟨(upd f13 ((nI t).toNatClampNeg) (-1), upd (upd (upd (upd (upd f14 ((nI ((5 * t) + 0)).toNatClampNeg) (f12 (5 * t + 0))) ((nI ((5 * t) + 1)).toNatClampNeg) (f12 (5 * t + 1))) ((nI ((5 * t) + 2)).toNatClampNeg) (f12 (5 * t + 2))) ((nI ((5 * t) + 3)).toNatClampNeg) (f12 (5 * t + 3))) ((nI ((5 * t) + 4)).toNatClampNeg) (f12 (5 * t + 4))), rfl, ⟨fun z hz => z_row5a (g := fun w => f12 (5 * t + w)) (p := 5 * t) (by omega) hz, fun w hw => by rw [if_pos c_3]; exact z_row5b (g := fun w => f12 (5 * t + w)) (p := 5 * t) (by omega) hw, by rw [nI_clamp (by omega)]⟩, by rw [ht]; exact hP9, hD9⟩, hS.F ht⟩) hS.2.2 dX9_beginTurn_52
set_option maxHeartbeats 4000000 in
set_option maxRecDepth 100000 in
theorem c_X9_goTurn_0 (l : Launch) (Z : gZ) (sz : Nat) (h0 : Nat) (b1 : Nat) (b2 : Nat) (b3 : Nat) (b4 : Nat) (b5 : Nat) (b6 : Nat) (b7 : Nat) (b8 : Nat) (b9 : Nat) (b10 : Nat) (b11 : Nat) (b12 : Nat) (b13 : Nat) (b14 : Nat) (b15 : Nat) (b16 : Nat) (b17 : Nat) (b18 : Nat) (b19 : Nat) (b20 : Nat) (b21 : Nat) (b22 : Nat) (b23 : Nat) (b24 : Nat) (b25 : Nat) (n : Nat) (pn : Nat) (tn : Nat) (xp : Int32) (xr : Int32) (ik : Int32) (f1 : Nat → Int32) (f3 : Nat → Int32) (f4 : Nat → Int32) (f6 : Nat → Int32) (f7 : Nat → Int32) (f12 : Nat → Int32) (f13 : Nat → Int32) (t : Nat) (hn : n ≤ 5) (ht : t ≤ 4) (hv : f13 t = 0) : Met l yX9_goTurn wsX9_goTurn ({ frames := 0, cells := 0, slots := 0, locals := 0 }) (va_Pc [.ref h0, .int (nI t)] (fun U => U.heap.size = sz ∧ va_P Z.1 vwCl [(h0, .inr (9, [.ref b1, .ref b2, .ref b3, .ref b4, .int (nI n), .ref b5, .int (nI pn), .ref b6, .ref b7, .ref b8, .int (nI tn), .int xp, .int xr, .ref b9, .ref b10, .ref b11, .ref b12, .ref b13, .ref b14, .ref b15, .ref b16, .ref b17, .ref b18, .int ik, .ref b19, .ref b20, .ref b21, .ref b22, .ref b23, .ref b24, .ref b25])), (b1, .inl (Z.2 0, 5, .inl f1)), (b3, .inl (Z.2 0, 5, .inl f3)), (b4, .inl (Z.2 0, 5, .inl f4)), (b6, .inl (Z.2 0, 5, .inl f6)), (b7, .inl (Z.2 0, 5, .inl f7)), (b12, .inl (Z.2 0, 30, .inl f12)), (b13, .inl (Z.2 0, 6, .inl f13))] U.heap ∧ va_K Z.1 vwCl (gT Z) U ∧ va_D (fun _ => True) [(h0, .inr (9, [.ref b1, .ref b2, .ref b3, .ref b4, .int (nI n), .ref b5, .int (nI pn), .ref b6, .ref b7, .ref b8, .int (nI tn), .int xp, .int xr, .ref b9, .ref b10, .ref b11, .ref b12, .ref b13, .ref b14, .ref b15, .ref b16, .ref b17, .ref b18, .int ik, .ref b19, .ref b20, .ref b21, .ref b22, .ref b23, .ref b24, .ref b25])), (b1, .inl (Z.2 0, 5, .inl f1)), (b3, .inl (Z.2 0, 5, .inl f3)), (b4, .inl (Z.2 0, 5, .inl f4)), (b6, .inl (Z.2 0, 5, .inl f6)), (b7, .inl (Z.2 0, 5, .inl f7)), (b12, .inl (Z.2 0, 30, .inl f12)), (b13, .inl (Z.2 0, 6, .inl f13))])) (va_Qi (fun (r : Int32) (u : (Nat → Int32) × (Nat → Int32) × (Nat → Int32)) => match u with | (g6, g7, g12) => r = 1 ∧ (∀ z, z < 5 * (t + 1) → g12 z = f12 z) ∧ ∀ w, w < 5 → g12 (5 * (t + 1) + w) = f12 (5 * t + w)) (fun (u : (Nat → Int32) × (Nat → Int32) × (Nat → Int32)) (t9 : State) => match u with | (g6, g7, g12) => va_P Z.1 vwCl [(h0, .inr (9, [.ref b1, .ref b2, .ref b3, .ref b4, .int (nI n), .ref b5, .int (nI pn), .ref b6, .ref b7, .ref b8, .int (nI tn), .int xp, .int xr, .ref b9, .ref b10, .ref b11, .ref b12, .ref b13, .ref b14, .ref b15, .ref b16, .ref b17, .ref b18, .int ik, .ref b19, .ref b20, .ref b21, .ref b22, .ref b23, .ref b24, .ref b25])), (b1, .inl (Z.2 0, 5, .inl f1)), (b3, .inl (Z.2 0, 5, .inl f3)), (b4, .inl (Z.2 0, 5, .inl f4)), (b6, .inl (Z.2 0, 5, .inl g6)), (b7, .inl (Z.2 0, 5, .inl g7)), (b12, .inl (Z.2 0, 30, .inl g12)), (b13, .inl (Z.2 0, 6, .inl f13))] t9.heap ∧ va_D (va_A [(h0, .inr (9, [.ref b1, .ref b2, .ref b3, .ref b4, .int (nI n), .ref b5, .int (nI pn), .ref b6, .ref b7, .ref b8, .int (nI tn), .int xp, .int xr, .ref b9, .ref b10, .ref b11, .ref b12, .ref b13, .ref b14, .ref b15, .ref b16, .ref b17, .ref b18, .int ik, .ref b19, .ref b20, .ref b21, .ref b22, .ref b23, .ref b24, .ref b25])), (b1, .inl (Z.2 0, 5, .inl f1)), (b3, .inl (Z.2 0, 5, .inl f3)), (b4, .inl (Z.2 0, 5, .inl f4)), (b6, .inl (Z.2 0, 5, .inl f6)), (b7, .inl (Z.2 0, 5, .inl f7)), (b12, .inl (Z.2 0, 30, .inl f12)), (b13, .inl (Z.2 0, 6, .inl f13))] sz) [(h0, .inr (9, [.ref b1, .ref b2, .ref b3, .ref b4, .int (nI n), .ref b5, .int (nI pn), .ref b6, .ref b7, .ref b8, .int (nI tn), .int xp, .int xr, .ref b9, .ref b10, .ref b11, .ref b12, .ref b13, .ref b14, .ref b15, .ref b16, .ref b17, .ref b18, .int ik, .ref b19, .ref b20, .ref b21, .ref b22, .ref b23, .ref b24, .ref b25])), (b1, .inl (Z.2 0, 5, .inl f1)), (b3, .inl (Z.2 0, 5, .inl f3)), (b4, .inl (Z.2 0, 5, .inl f4)), (b6, .inl (Z.2 0, 5, .inl g6)), (b7, .inl (Z.2 0, 5, .inl g7)), (b12, .inl (Z.2 0, 30, .inl g12)), (b13, .inl (Z.2 0, 6, .inl f13))]) (va_A [(h0, .inr (9, [.ref b1, .ref b2, .ref b3, .ref b4, .int (nI n), .ref b5, .int (nI pn), .ref b6, .ref b7, .ref b8, .int (nI tn), .int xp, .int xr, .ref b9, .ref b10, .ref b11, .ref b12, .ref b13, .ref b14, .ref b15, .ref b16, .ref b17, .ref b18, .int ik, .ref b19, .ref b20, .ref b21, .ref b22, .ref b23, .ref b24, .ref b25])), (b1, .inl (Z.2 0, 5, .inl f1)), (b3, .inl (Z.2 0, 5, .inl f3)), (b4, .inl (Z.2 0, 5, .inl f4)), (b6, .inl (Z.2 0, 5, .inl f6)), (b7, .inl (Z.2 0, 5, .inl f7)), (b12, .inl (Z.2 0, 30, .inl f12)), (b13, .inl (Z.2 0, 6, .inl f13))] sz)) 0 0 (va_A [(h0, .inr (9, [.ref b1, .ref b2, .ref b3, .ref b4, .int (nI n), .ref b5, .int (nI pn), .ref b6, .ref b7, .ref b8, .int (nI tn), .int xp, .int xr, .ref b9, .ref b10, .ref b11, .ref b12, .ref b13, .ref b14, .ref b15, .ref b16, .ref b17, .ref b18, .int ik, .ref b19, .ref b20, .ref b21, .ref b22, .ref b23, .ref b24, .ref b25])), (b1, .inl (Z.2 0, 5, .inl f1)), (b3, .inl (Z.2 0, 5, .inl f3)), (b4, .inl (Z.2 0, 5, .inl f4)), (b6, .inl (Z.2 0, 5, .inl f6)), (b7, .inl (Z.2 0, 5, .inl f7)), (b12, .inl (Z.2 0, 30, .inl f12)), (b13, .inl (Z.2 0, 6, .inl f13))] sz) := by
  refine Met.ofW (cc := cX9_goTurn) (maxL := 4) (ret := (some .boolean)) (by decide) rfl ?_
  intro p e s m args below meth c s₁ B hml hv
  obtain ⟨rfl, hsz, hP, hK, hD0⟩ := hv
  have hx := B.exec
  have hb := B.bytes
  have hr := B.returns
  have hts := atoms_spec (ws := wsX9_goTurn) B.pre
  have hown : s.vm.findClass RX9 = some m.cls := findClass_of_methodNamed B.named
  have hlocks := B.notSynchronized
  subst hsz
  have hin9 : ∀ w ∈ wsX90, w ∈ wsX9_goTurn := fun w h9 => (List.mem_cons_of_mem _ (List.mem_append_right _ h9))
  have hD := hD0.self (sz := s.heap.size)
  generalize hAe : va_A [(h0, .inr (9, [.ref b1, .ref b2, .ref b3, .ref b4, .int (nI n), .ref b5, .int (nI pn), .ref b6, .ref b7, .ref b8, .int (nI tn), .int xp, .int xr, .ref b9, .ref b10, .ref b11, .ref b12, .ref b13, .ref b14, .ref b15, .ref b16, .ref b17, .ref b18, .int ik, .ref b19, .ref b20, .ref b21, .ref b22, .ref b23, .ref b24, .ref b25])), (b1, .inl (Z.2 0, 5, .inl f1)), (b3, .inl (Z.2 0, 5, .inl f3)), (b4, .inl (Z.2 0, 5, .inl f4)), (b6, .inl (Z.2 0, 5, .inl f6)), (b7, .inl (Z.2 0, 5, .inl f7)), (b12, .inl (Z.2 0, 30, .inl f12)), (b13, .inl (Z.2 0, 6, .inl f13))] s.heap.size = A at hD ⊢
  have hA : ∀ q : Nat, s.heap.size ≤ q → A q := fun q h => by rw [← hAe]; exact Or.inr h
  have hS : va_S A s.heap s.heap [] := va_S.rf
  have hP : va_P Z.1 vwCl [(h0, .inr (9, [.ref b1, .ref b2, .ref b3, .ref b4, .int (nI n), .ref b5, .int (nI pn), .ref b6, .ref b7, .ref b8, .int (nI tn), .int xp, .int xr, .ref b9, .ref b10, .ref b11, .ref b12, .ref b13, .ref b14, .ref b15, .ref b16, .ref b17, .ref b18, .int ik, .ref b19, .ref b20, .ref b21, .ref b22, .ref b23, .ref b24, .ref b25])), (b1, .inl (Z.2 0, 5, .inl f1)), (b3, .inl (Z.2 0, 5, .inl f3)), (b4, .inl (Z.2 0, 5, .inl f4)), (b6, .inl (Z.2 0, 5, .inl f6)), (b7, .inl (Z.2 0, 5, .inl f7)), (b12, .inl (Z.2 0, 30, .inl f12)), (b13, .inl (Z.2 0, 6, .inl f13))] s.heap := hP
  have hl := lv_entry ([.ref h0, .int (nI t)]) (n := 4) (Nat.le_of_ble_eq_true rfl)
  rw [lg_entry_eq]
  generalize (lg_sl ([.ref h0, .int (nI t)]) ++ List.replicate (4 - (lg_sl ([.ref h0, .int (nI t)])).length) Slot.unset).toArray = ls at hl ⊢
  have hl : lv_has ls 4 [(0, .ref h0), (1, .int (nI t))] := hl
  refine lv_iconst (v := 0) hx hb dX9_goTurn_0 (by decide) ?_
  refine lv_istore_n (lv' := [(2, .int 0), (0, .ref h0), (1, .int (nI t))]) hx hb dX9_goTurn_1 rfl hl (by decide) rfl (fun ls hl => ?_)
  refine lv_iload_n hx hb dX9_goTurn_2 rfl (lv_at hl 0 rfl) ?_
  refine lv_iconst (v := 5) hx hb dX9_goTurn_3 (by decide) ?_
  refine lv_icmp_ge (tgt := 41) hx hb dX9_goTurn_4 (by decide) (fun c9 => absurd c9 (by decide)) (fun _ => ?_)
  refine lv_aload_n hx hb dX9_goTurn_7 rfl (lv_at hl 1 rfl) ?_
  refine va_get (D := Z.1) (ci := 9) (v := .ref b6) (C := RX9) (T := TX9) (N := 31) hx hb hts hin9 hown hK hP 0 rfl rfl 7 (by decide) (hts (.fieldLink RX9 25 "HalfAskedModel" "purse" "[I") (List.mem_of_getElem? (i := 1) rfl)) (fun _ h9 => h9) rfl dX9_goTurn_8 ?_
  refine lv_iload_n hx hb dX9_goTurn_11 rfl (lv_at hl 0 rfl) ?_
  refine lv_aload_n hx hb dX9_goTurn_12 rfl (lv_at hl 1 rfl) ?_
  refine va_get (D := Z.1) (ci := 9) (v := .ref b12) (C := RX9) (T := TX9) (N := 31) hx hb hts hin9 hown hK hP 0 rfl rfl 16 (by decide) (hts (.fieldLink RX9 43 "HalfAskedModel" "ahead" "[I") (List.mem_of_getElem? (i := 2) rfl)) (fun _ h9 => h9) rfl dX9_goTurn_13 ?_
  refine lv_iconst (v := 5) hx hb dX9_goTurn_16 (by decide) ?_
  refine lv_iload_n hx hb dX9_goTurn_17 rfl (lv_at hl 2 rfl) ?_
  refine lv_imul hx hb dX9_goTurn_18 ?_
  refine lv_topi (fun f_1 ef_1 => ?_)
  obtain rfl : nI (5 * t) = f_1 := (ef_1.trans (pk_mul 5 t)).symm
  refine lv_iload_n hx hb dX9_goTurn_19 rfl (lv_at hl 0 rfl) ?_
  refine lv_iadd hx hb dX9_goTurn_20 ?_
  refine lv_topi (fun f_2 ef_2 => ?_)
  obtain rfl : nI ((5 * t) + 0) = f_2 := (ef_2.trans (nI_add (5 * t) 0)).symm
  refine va_iald hx hb hK hP 6 0 rfl rfl (vp_in_nI (by omega) (by decide)) dX9_goTurn_21 ?_
  refine lv_topi (fun f_3 ef_3 => ?_)
  obtain rfl : f12 (5 * t + 0) = f_3 := (ef_3.trans (by rw [nI_clamp (show 5 * t + 0 < 2 ^ 31 by omega)])).symm
  refine va_iast hx hb hK hP hD hS 4 0 rfl rfl (z_in (by decide)) dX9_goTurn_22 (fun H locs hP hD hS => ?_)
  have hP : va_P Z.1 vwCl [(h0, .inr (9, [.ref b1, .ref b2, .ref b3, .ref b4, .int (nI n), .ref b5, .int (nI pn), .ref b6, .ref b7, .ref b8, .int (nI tn), .int xp, .int xr, .ref b9, .ref b10, .ref b11, .ref b12, .ref b13, .ref b14, .ref b15, .ref b16, .ref b17, .ref b18, .int ik, .ref b19, .ref b20, .ref b21, .ref b22, .ref b23, .ref b24, .ref b25])), (b1, .inl (Z.2 0, 5, .inl f1)), (b3, .inl (Z.2 0, 5, .inl f3)), (b4, .inl (Z.2 0, 5, .inl f4)), (b6, .inl (Z.2 0, 5, .inl (upd f6 0 (f12 (5 * t + 0))))), (b7, .inl (Z.2 0, 5, .inl f7)), (b12, .inl (Z.2 0, 30, .inl f12)), (b13, .inl (Z.2 0, 6, .inl f13))] H := hP
  have hD : va_D A [(h0, .inr (9, [.ref b1, .ref b2, .ref b3, .ref b4, .int (nI n), .ref b5, .int (nI pn), .ref b6, .ref b7, .ref b8, .int (nI tn), .int xp, .int xr, .ref b9, .ref b10, .ref b11, .ref b12, .ref b13, .ref b14, .ref b15, .ref b16, .ref b17, .ref b18, .int ik, .ref b19, .ref b20, .ref b21, .ref b22, .ref b23, .ref b24, .ref b25])), (b1, .inl (Z.2 0, 5, .inl f1)), (b3, .inl (Z.2 0, 5, .inl f3)), (b4, .inl (Z.2 0, 5, .inl f4)), (b6, .inl (Z.2 0, 5, .inl (upd f6 0 (f12 (5 * t + 0))))), (b7, .inl (Z.2 0, 5, .inl f7)), (b12, .inl (Z.2 0, 30, .inl f12)), (b13, .inl (Z.2 0, 6, .inl f13))] := hD
  refine lv_aload_n hx hb dX9_goTurn_23 rfl (lv_at hl 1 rfl) ?_
  refine va_get (D := Z.1) (ci := 9) (v := .ref b7) (C := RX9) (T := TX9) (N := 31) hx hb hts hin9 hown hK hP 0 rfl rfl 8 (by decide) (hts (.fieldLink RX9 28 "HalfAskedModel" "done" "[I") (List.mem_of_getElem? (i := 3) rfl)) (fun _ h9 => h9) rfl dX9_goTurn_24 ?_
  refine lv_iload_n hx hb dX9_goTurn_27 rfl (lv_at hl 0 rfl) ?_
  refine lv_aload_n hx hb dX9_goTurn_28 rfl (lv_at hl 1 rfl) ?_
  refine va_get (D := Z.1) (ci := 9) (v := .ref b4) (C := RX9) (T := TX9) (N := 31) hx hb hts hin9 hown hK hP 0 rfl rfl 3 (by decide) (hts (.fieldLink RX9 19 "HalfAskedModel" "asked" "[I") (List.mem_of_getElem? (i := 4) rfl)) (fun _ h9 => h9) rfl dX9_goTurn_29 ?_
  refine lv_iload_n hx hb dX9_goTurn_32 rfl (lv_at hl 0 rfl) ?_
  refine va_iald hx hb hK hP 3 0 rfl rfl (z_in (by decide)) dX9_goTurn_33 ?_
  refine va_iast hx hb hK hP hD hS 5 0 rfl rfl (z_in (by decide)) dX9_goTurn_34 (fun H locs hP hD hS => ?_)
  have hP : va_P Z.1 vwCl [(h0, .inr (9, [.ref b1, .ref b2, .ref b3, .ref b4, .int (nI n), .ref b5, .int (nI pn), .ref b6, .ref b7, .ref b8, .int (nI tn), .int xp, .int xr, .ref b9, .ref b10, .ref b11, .ref b12, .ref b13, .ref b14, .ref b15, .ref b16, .ref b17, .ref b18, .int ik, .ref b19, .ref b20, .ref b21, .ref b22, .ref b23, .ref b24, .ref b25])), (b1, .inl (Z.2 0, 5, .inl f1)), (b3, .inl (Z.2 0, 5, .inl f3)), (b4, .inl (Z.2 0, 5, .inl f4)), (b6, .inl (Z.2 0, 5, .inl (upd f6 0 (f12 (5 * t + 0))))), (b7, .inl (Z.2 0, 5, .inl (upd f7 0 (f4 0)))), (b12, .inl (Z.2 0, 30, .inl f12)), (b13, .inl (Z.2 0, 6, .inl f13))] H := hP
  have hD : va_D A [(h0, .inr (9, [.ref b1, .ref b2, .ref b3, .ref b4, .int (nI n), .ref b5, .int (nI pn), .ref b6, .ref b7, .ref b8, .int (nI tn), .int xp, .int xr, .ref b9, .ref b10, .ref b11, .ref b12, .ref b13, .ref b14, .ref b15, .ref b16, .ref b17, .ref b18, .int ik, .ref b19, .ref b20, .ref b21, .ref b22, .ref b23, .ref b24, .ref b25])), (b1, .inl (Z.2 0, 5, .inl f1)), (b3, .inl (Z.2 0, 5, .inl f3)), (b4, .inl (Z.2 0, 5, .inl f4)), (b6, .inl (Z.2 0, 5, .inl (upd f6 0 (f12 (5 * t + 0))))), (b7, .inl (Z.2 0, 5, .inl (upd f7 0 (f4 0)))), (b12, .inl (Z.2 0, 30, .inl f12)), (b13, .inl (Z.2 0, 6, .inl f13))] := hD
  refine lv_iinc (v := 1) (lv' := [(2, .int 1), (0, .ref h0), (1, .int (nI t))]) hx hb dX9_goTurn_35 hl (k := 0) rfl (by decide) (by decide) rfl (fun ls hl => ?_)
  refine lv_goto (tgt := 2) hx hb dX9_goTurn_38 (by decide) ?_
  refine lv_iload_n hx hb dX9_goTurn_2 rfl (lv_at hl 0 rfl) ?_
  refine lv_iconst (v := 5) hx hb dX9_goTurn_3 (by decide) ?_
  refine lv_icmp_ge (tgt := 41) hx hb dX9_goTurn_4 (by decide) (fun c9 => absurd c9 (by decide)) (fun _ => ?_)
  refine lv_aload_n hx hb dX9_goTurn_7 rfl (lv_at hl 1 rfl) ?_
  refine va_get (D := Z.1) (ci := 9) (v := .ref b6) (C := RX9) (T := TX9) (N := 31) hx hb hts hin9 hown hK hP 0 rfl rfl 7 (by decide) (hts (.fieldLink RX9 25 "HalfAskedModel" "purse" "[I") (List.mem_of_getElem? (i := 1) rfl)) (fun _ h9 => h9) rfl dX9_goTurn_8 ?_
  refine lv_iload_n hx hb dX9_goTurn_11 rfl (lv_at hl 0 rfl) ?_
  refine lv_aload_n hx hb dX9_goTurn_12 rfl (lv_at hl 1 rfl) ?_
  refine va_get (D := Z.1) (ci := 9) (v := .ref b12) (C := RX9) (T := TX9) (N := 31) hx hb hts hin9 hown hK hP 0 rfl rfl 16 (by decide) (hts (.fieldLink RX9 43 "HalfAskedModel" "ahead" "[I") (List.mem_of_getElem? (i := 2) rfl)) (fun _ h9 => h9) rfl dX9_goTurn_13 ?_
  refine lv_iconst (v := 5) hx hb dX9_goTurn_16 (by decide) ?_
  refine lv_iload_n hx hb dX9_goTurn_17 rfl (lv_at hl 2 rfl) ?_
  refine lv_imul hx hb dX9_goTurn_18 ?_
  refine lv_topi (fun f_4 ef_4 => ?_)
  obtain rfl : nI (5 * t) = f_4 := (ef_4.trans (pk_mul 5 t)).symm
  refine lv_iload_n hx hb dX9_goTurn_19 rfl (lv_at hl 0 rfl) ?_
  refine lv_iadd hx hb dX9_goTurn_20 ?_
  refine lv_topi (fun f_5 ef_5 => ?_)
  obtain rfl : nI ((5 * t) + 1) = f_5 := (ef_5.trans (nI_1 _)).symm
  refine va_iald hx hb hK hP 6 0 rfl rfl (vp_in_nI (by omega) (by decide)) dX9_goTurn_21 ?_
  refine lv_topi (fun f_6 ef_6 => ?_)
  obtain rfl : f12 (5 * t + 1) = f_6 := (ef_6.trans (by rw [nI_clamp (show 5 * t + 1 < 2 ^ 31 by omega)])).symm
  refine va_iast hx hb hK hP hD hS 4 0 rfl rfl (z_in (by decide)) dX9_goTurn_22 (fun H locs hP hD hS => ?_)
  have hP : va_P Z.1 vwCl [(h0, .inr (9, [.ref b1, .ref b2, .ref b3, .ref b4, .int (nI n), .ref b5, .int (nI pn), .ref b6, .ref b7, .ref b8, .int (nI tn), .int xp, .int xr, .ref b9, .ref b10, .ref b11, .ref b12, .ref b13, .ref b14, .ref b15, .ref b16, .ref b17, .ref b18, .int ik, .ref b19, .ref b20, .ref b21, .ref b22, .ref b23, .ref b24, .ref b25])), (b1, .inl (Z.2 0, 5, .inl f1)), (b3, .inl (Z.2 0, 5, .inl f3)), (b4, .inl (Z.2 0, 5, .inl f4)), (b6, .inl (Z.2 0, 5, .inl (upd (upd f6 0 (f12 (5 * t + 0))) 1 (f12 (5 * t + 1))))), (b7, .inl (Z.2 0, 5, .inl (upd f7 0 (f4 0)))), (b12, .inl (Z.2 0, 30, .inl f12)), (b13, .inl (Z.2 0, 6, .inl f13))] H := hP
  have hD : va_D A [(h0, .inr (9, [.ref b1, .ref b2, .ref b3, .ref b4, .int (nI n), .ref b5, .int (nI pn), .ref b6, .ref b7, .ref b8, .int (nI tn), .int xp, .int xr, .ref b9, .ref b10, .ref b11, .ref b12, .ref b13, .ref b14, .ref b15, .ref b16, .ref b17, .ref b18, .int ik, .ref b19, .ref b20, .ref b21, .ref b22, .ref b23, .ref b24, .ref b25])), (b1, .inl (Z.2 0, 5, .inl f1)), (b3, .inl (Z.2 0, 5, .inl f3)), (b4, .inl (Z.2 0, 5, .inl f4)), (b6, .inl (Z.2 0, 5, .inl (upd (upd f6 0 (f12 (5 * t + 0))) 1 (f12 (5 * t + 1))))), (b7, .inl (Z.2 0, 5, .inl (upd f7 0 (f4 0)))), (b12, .inl (Z.2 0, 30, .inl f12)), (b13, .inl (Z.2 0, 6, .inl f13))] := hD
  refine lv_aload_n hx hb dX9_goTurn_23 rfl (lv_at hl 1 rfl) ?_
  refine va_get (D := Z.1) (ci := 9) (v := .ref b7) (C := RX9) (T := TX9) (N := 31) hx hb hts hin9 hown hK hP 0 rfl rfl 8 (by decide) (hts (.fieldLink RX9 28 "HalfAskedModel" "done" "[I") (List.mem_of_getElem? (i := 3) rfl)) (fun _ h9 => h9) rfl dX9_goTurn_24 ?_
  refine lv_iload_n hx hb dX9_goTurn_27 rfl (lv_at hl 0 rfl) ?_
  refine lv_aload_n hx hb dX9_goTurn_28 rfl (lv_at hl 1 rfl) ?_
  refine va_get (D := Z.1) (ci := 9) (v := .ref b4) (C := RX9) (T := TX9) (N := 31) hx hb hts hin9 hown hK hP 0 rfl rfl 3 (by decide) (hts (.fieldLink RX9 19 "HalfAskedModel" "asked" "[I") (List.mem_of_getElem? (i := 4) rfl)) (fun _ h9 => h9) rfl dX9_goTurn_29 ?_
  refine lv_iload_n hx hb dX9_goTurn_32 rfl (lv_at hl 0 rfl) ?_
  refine va_iald hx hb hK hP 3 0 rfl rfl (z_in (by decide)) dX9_goTurn_33 ?_
  refine va_iast hx hb hK hP hD hS 5 0 rfl rfl (z_in (by decide)) dX9_goTurn_34 (fun H locs hP hD hS => ?_)
  have hP : va_P Z.1 vwCl [(h0, .inr (9, [.ref b1, .ref b2, .ref b3, .ref b4, .int (nI n), .ref b5, .int (nI pn), .ref b6, .ref b7, .ref b8, .int (nI tn), .int xp, .int xr, .ref b9, .ref b10, .ref b11, .ref b12, .ref b13, .ref b14, .ref b15, .ref b16, .ref b17, .ref b18, .int ik, .ref b19, .ref b20, .ref b21, .ref b22, .ref b23, .ref b24, .ref b25])), (b1, .inl (Z.2 0, 5, .inl f1)), (b3, .inl (Z.2 0, 5, .inl f3)), (b4, .inl (Z.2 0, 5, .inl f4)), (b6, .inl (Z.2 0, 5, .inl (upd (upd f6 0 (f12 (5 * t + 0))) 1 (f12 (5 * t + 1))))), (b7, .inl (Z.2 0, 5, .inl (upd (upd f7 0 (f4 0)) 1 (f4 1)))), (b12, .inl (Z.2 0, 30, .inl f12)), (b13, .inl (Z.2 0, 6, .inl f13))] H := hP
  have hD : va_D A [(h0, .inr (9, [.ref b1, .ref b2, .ref b3, .ref b4, .int (nI n), .ref b5, .int (nI pn), .ref b6, .ref b7, .ref b8, .int (nI tn), .int xp, .int xr, .ref b9, .ref b10, .ref b11, .ref b12, .ref b13, .ref b14, .ref b15, .ref b16, .ref b17, .ref b18, .int ik, .ref b19, .ref b20, .ref b21, .ref b22, .ref b23, .ref b24, .ref b25])), (b1, .inl (Z.2 0, 5, .inl f1)), (b3, .inl (Z.2 0, 5, .inl f3)), (b4, .inl (Z.2 0, 5, .inl f4)), (b6, .inl (Z.2 0, 5, .inl (upd (upd f6 0 (f12 (5 * t + 0))) 1 (f12 (5 * t + 1))))), (b7, .inl (Z.2 0, 5, .inl (upd (upd f7 0 (f4 0)) 1 (f4 1)))), (b12, .inl (Z.2 0, 30, .inl f12)), (b13, .inl (Z.2 0, 6, .inl f13))] := hD
  refine lv_iinc (v := 2) (lv' := [(2, .int 2), (0, .ref h0), (1, .int (nI t))]) hx hb dX9_goTurn_35 hl (k := 0) rfl (by decide) (by decide) rfl (fun ls hl => ?_)
  refine lv_goto (tgt := 2) hx hb dX9_goTurn_38 (by decide) ?_
  refine lv_iload_n hx hb dX9_goTurn_2 rfl (lv_at hl 0 rfl) ?_
  refine lv_iconst (v := 5) hx hb dX9_goTurn_3 (by decide) ?_
  refine lv_icmp_ge (tgt := 41) hx hb dX9_goTurn_4 (by decide) (fun c9 => absurd c9 (by decide)) (fun _ => ?_)
  refine lv_aload_n hx hb dX9_goTurn_7 rfl (lv_at hl 1 rfl) ?_
  refine va_get (D := Z.1) (ci := 9) (v := .ref b6) (C := RX9) (T := TX9) (N := 31) hx hb hts hin9 hown hK hP 0 rfl rfl 7 (by decide) (hts (.fieldLink RX9 25 "HalfAskedModel" "purse" "[I") (List.mem_of_getElem? (i := 1) rfl)) (fun _ h9 => h9) rfl dX9_goTurn_8 ?_
  refine lv_iload_n hx hb dX9_goTurn_11 rfl (lv_at hl 0 rfl) ?_
  refine lv_aload_n hx hb dX9_goTurn_12 rfl (lv_at hl 1 rfl) ?_
  refine va_get (D := Z.1) (ci := 9) (v := .ref b12) (C := RX9) (T := TX9) (N := 31) hx hb hts hin9 hown hK hP 0 rfl rfl 16 (by decide) (hts (.fieldLink RX9 43 "HalfAskedModel" "ahead" "[I") (List.mem_of_getElem? (i := 2) rfl)) (fun _ h9 => h9) rfl dX9_goTurn_13 ?_
  refine lv_iconst (v := 5) hx hb dX9_goTurn_16 (by decide) ?_
  refine lv_iload_n hx hb dX9_goTurn_17 rfl (lv_at hl 2 rfl) ?_
  refine lv_imul hx hb dX9_goTurn_18 ?_
  refine lv_topi (fun f_7 ef_7 => ?_)
  obtain rfl : nI (5 * t) = f_7 := (ef_7.trans (pk_mul 5 t)).symm
  refine lv_iload_n hx hb dX9_goTurn_19 rfl (lv_at hl 0 rfl) ?_
  refine lv_iadd hx hb dX9_goTurn_20 ?_
  refine lv_topi (fun f_8 ef_8 => ?_)
  obtain rfl : nI ((5 * t) + 2) = f_8 := (ef_8.trans (nI_add (5 * t) 2)).symm
  refine va_iald hx hb hK hP 6 0 rfl rfl (vp_in_nI (by omega) (by decide)) dX9_goTurn_21 ?_
  refine lv_topi (fun f_9 ef_9 => ?_)
  obtain rfl : f12 (5 * t + 2) = f_9 := (ef_9.trans (by rw [nI_clamp (show 5 * t + 2 < 2 ^ 31 by omega)])).symm
  refine va_iast hx hb hK hP hD hS 4 0 rfl rfl (z_in (by decide)) dX9_goTurn_22 (fun H locs hP hD hS => ?_)
  have hP : va_P Z.1 vwCl [(h0, .inr (9, [.ref b1, .ref b2, .ref b3, .ref b4, .int (nI n), .ref b5, .int (nI pn), .ref b6, .ref b7, .ref b8, .int (nI tn), .int xp, .int xr, .ref b9, .ref b10, .ref b11, .ref b12, .ref b13, .ref b14, .ref b15, .ref b16, .ref b17, .ref b18, .int ik, .ref b19, .ref b20, .ref b21, .ref b22, .ref b23, .ref b24, .ref b25])), (b1, .inl (Z.2 0, 5, .inl f1)), (b3, .inl (Z.2 0, 5, .inl f3)), (b4, .inl (Z.2 0, 5, .inl f4)), (b6, .inl (Z.2 0, 5, .inl (upd (upd (upd f6 0 (f12 (5 * t + 0))) 1 (f12 (5 * t + 1))) 2 (f12 (5 * t + 2))))), (b7, .inl (Z.2 0, 5, .inl (upd (upd f7 0 (f4 0)) 1 (f4 1)))), (b12, .inl (Z.2 0, 30, .inl f12)), (b13, .inl (Z.2 0, 6, .inl f13))] H := hP
  have hD : va_D A [(h0, .inr (9, [.ref b1, .ref b2, .ref b3, .ref b4, .int (nI n), .ref b5, .int (nI pn), .ref b6, .ref b7, .ref b8, .int (nI tn), .int xp, .int xr, .ref b9, .ref b10, .ref b11, .ref b12, .ref b13, .ref b14, .ref b15, .ref b16, .ref b17, .ref b18, .int ik, .ref b19, .ref b20, .ref b21, .ref b22, .ref b23, .ref b24, .ref b25])), (b1, .inl (Z.2 0, 5, .inl f1)), (b3, .inl (Z.2 0, 5, .inl f3)), (b4, .inl (Z.2 0, 5, .inl f4)), (b6, .inl (Z.2 0, 5, .inl (upd (upd (upd f6 0 (f12 (5 * t + 0))) 1 (f12 (5 * t + 1))) 2 (f12 (5 * t + 2))))), (b7, .inl (Z.2 0, 5, .inl (upd (upd f7 0 (f4 0)) 1 (f4 1)))), (b12, .inl (Z.2 0, 30, .inl f12)), (b13, .inl (Z.2 0, 6, .inl f13))] := hD
  refine lv_aload_n hx hb dX9_goTurn_23 rfl (lv_at hl 1 rfl) ?_
  refine va_get (D := Z.1) (ci := 9) (v := .ref b7) (C := RX9) (T := TX9) (N := 31) hx hb hts hin9 hown hK hP 0 rfl rfl 8 (by decide) (hts (.fieldLink RX9 28 "HalfAskedModel" "done" "[I") (List.mem_of_getElem? (i := 3) rfl)) (fun _ h9 => h9) rfl dX9_goTurn_24 ?_
  refine lv_iload_n hx hb dX9_goTurn_27 rfl (lv_at hl 0 rfl) ?_
  refine lv_aload_n hx hb dX9_goTurn_28 rfl (lv_at hl 1 rfl) ?_
  refine va_get (D := Z.1) (ci := 9) (v := .ref b4) (C := RX9) (T := TX9) (N := 31) hx hb hts hin9 hown hK hP 0 rfl rfl 3 (by decide) (hts (.fieldLink RX9 19 "HalfAskedModel" "asked" "[I") (List.mem_of_getElem? (i := 4) rfl)) (fun _ h9 => h9) rfl dX9_goTurn_29 ?_
  refine lv_iload_n hx hb dX9_goTurn_32 rfl (lv_at hl 0 rfl) ?_
  refine va_iald hx hb hK hP 3 0 rfl rfl (z_in (by decide)) dX9_goTurn_33 ?_
  refine va_iast hx hb hK hP hD hS 5 0 rfl rfl (z_in (by decide)) dX9_goTurn_34 (fun H locs hP hD hS => ?_)
  have hP : va_P Z.1 vwCl [(h0, .inr (9, [.ref b1, .ref b2, .ref b3, .ref b4, .int (nI n), .ref b5, .int (nI pn), .ref b6, .ref b7, .ref b8, .int (nI tn), .int xp, .int xr, .ref b9, .ref b10, .ref b11, .ref b12, .ref b13, .ref b14, .ref b15, .ref b16, .ref b17, .ref b18, .int ik, .ref b19, .ref b20, .ref b21, .ref b22, .ref b23, .ref b24, .ref b25])), (b1, .inl (Z.2 0, 5, .inl f1)), (b3, .inl (Z.2 0, 5, .inl f3)), (b4, .inl (Z.2 0, 5, .inl f4)), (b6, .inl (Z.2 0, 5, .inl (upd (upd (upd f6 0 (f12 (5 * t + 0))) 1 (f12 (5 * t + 1))) 2 (f12 (5 * t + 2))))), (b7, .inl (Z.2 0, 5, .inl (upd (upd (upd f7 0 (f4 0)) 1 (f4 1)) 2 (f4 2)))), (b12, .inl (Z.2 0, 30, .inl f12)), (b13, .inl (Z.2 0, 6, .inl f13))] H := hP
  have hD : va_D A [(h0, .inr (9, [.ref b1, .ref b2, .ref b3, .ref b4, .int (nI n), .ref b5, .int (nI pn), .ref b6, .ref b7, .ref b8, .int (nI tn), .int xp, .int xr, .ref b9, .ref b10, .ref b11, .ref b12, .ref b13, .ref b14, .ref b15, .ref b16, .ref b17, .ref b18, .int ik, .ref b19, .ref b20, .ref b21, .ref b22, .ref b23, .ref b24, .ref b25])), (b1, .inl (Z.2 0, 5, .inl f1)), (b3, .inl (Z.2 0, 5, .inl f3)), (b4, .inl (Z.2 0, 5, .inl f4)), (b6, .inl (Z.2 0, 5, .inl (upd (upd (upd f6 0 (f12 (5 * t + 0))) 1 (f12 (5 * t + 1))) 2 (f12 (5 * t + 2))))), (b7, .inl (Z.2 0, 5, .inl (upd (upd (upd f7 0 (f4 0)) 1 (f4 1)) 2 (f4 2)))), (b12, .inl (Z.2 0, 30, .inl f12)), (b13, .inl (Z.2 0, 6, .inl f13))] := hD
  refine lv_iinc (v := 3) (lv' := [(2, .int 3), (0, .ref h0), (1, .int (nI t))]) hx hb dX9_goTurn_35 hl (k := 0) rfl (by decide) (by decide) rfl (fun ls hl => ?_)
  refine lv_goto (tgt := 2) hx hb dX9_goTurn_38 (by decide) ?_
  refine lv_iload_n hx hb dX9_goTurn_2 rfl (lv_at hl 0 rfl) ?_
  refine lv_iconst (v := 5) hx hb dX9_goTurn_3 (by decide) ?_
  refine lv_icmp_ge (tgt := 41) hx hb dX9_goTurn_4 (by decide) (fun c9 => absurd c9 (by decide)) (fun _ => ?_)
  refine lv_aload_n hx hb dX9_goTurn_7 rfl (lv_at hl 1 rfl) ?_
  refine va_get (D := Z.1) (ci := 9) (v := .ref b6) (C := RX9) (T := TX9) (N := 31) hx hb hts hin9 hown hK hP 0 rfl rfl 7 (by decide) (hts (.fieldLink RX9 25 "HalfAskedModel" "purse" "[I") (List.mem_of_getElem? (i := 1) rfl)) (fun _ h9 => h9) rfl dX9_goTurn_8 ?_
  refine lv_iload_n hx hb dX9_goTurn_11 rfl (lv_at hl 0 rfl) ?_
  refine lv_aload_n hx hb dX9_goTurn_12 rfl (lv_at hl 1 rfl) ?_
  refine va_get (D := Z.1) (ci := 9) (v := .ref b12) (C := RX9) (T := TX9) (N := 31) hx hb hts hin9 hown hK hP 0 rfl rfl 16 (by decide) (hts (.fieldLink RX9 43 "HalfAskedModel" "ahead" "[I") (List.mem_of_getElem? (i := 2) rfl)) (fun _ h9 => h9) rfl dX9_goTurn_13 ?_
  refine lv_iconst (v := 5) hx hb dX9_goTurn_16 (by decide) ?_
  refine lv_iload_n hx hb dX9_goTurn_17 rfl (lv_at hl 2 rfl) ?_
  refine lv_imul hx hb dX9_goTurn_18 ?_
  refine lv_topi (fun f_10 ef_10 => ?_)
  obtain rfl : nI (5 * t) = f_10 := (ef_10.trans (pk_mul 5 t)).symm
  refine lv_iload_n hx hb dX9_goTurn_19 rfl (lv_at hl 0 rfl) ?_
  refine lv_iadd hx hb dX9_goTurn_20 ?_
  refine lv_topi (fun f_11 ef_11 => ?_)
  obtain rfl : nI ((5 * t) + 3) = f_11 := (ef_11.trans (nI_add (5 * t) 3)).symm
  refine va_iald hx hb hK hP 6 0 rfl rfl (vp_in_nI (by omega) (by decide)) dX9_goTurn_21 ?_
  refine lv_topi (fun f_12 ef_12 => ?_)
  obtain rfl : f12 (5 * t + 3) = f_12 := (ef_12.trans (by rw [nI_clamp (show 5 * t + 3 < 2 ^ 31 by omega)])).symm
  refine va_iast hx hb hK hP hD hS 4 0 rfl rfl (z_in (by decide)) dX9_goTurn_22 (fun H locs hP hD hS => ?_)
  have hP : va_P Z.1 vwCl [(h0, .inr (9, [.ref b1, .ref b2, .ref b3, .ref b4, .int (nI n), .ref b5, .int (nI pn), .ref b6, .ref b7, .ref b8, .int (nI tn), .int xp, .int xr, .ref b9, .ref b10, .ref b11, .ref b12, .ref b13, .ref b14, .ref b15, .ref b16, .ref b17, .ref b18, .int ik, .ref b19, .ref b20, .ref b21, .ref b22, .ref b23, .ref b24, .ref b25])), (b1, .inl (Z.2 0, 5, .inl f1)), (b3, .inl (Z.2 0, 5, .inl f3)), (b4, .inl (Z.2 0, 5, .inl f4)), (b6, .inl (Z.2 0, 5, .inl (upd (upd (upd (upd f6 0 (f12 (5 * t + 0))) 1 (f12 (5 * t + 1))) 2 (f12 (5 * t + 2))) 3 (f12 (5 * t + 3))))), (b7, .inl (Z.2 0, 5, .inl (upd (upd (upd f7 0 (f4 0)) 1 (f4 1)) 2 (f4 2)))), (b12, .inl (Z.2 0, 30, .inl f12)), (b13, .inl (Z.2 0, 6, .inl f13))] H := hP
  have hD : va_D A [(h0, .inr (9, [.ref b1, .ref b2, .ref b3, .ref b4, .int (nI n), .ref b5, .int (nI pn), .ref b6, .ref b7, .ref b8, .int (nI tn), .int xp, .int xr, .ref b9, .ref b10, .ref b11, .ref b12, .ref b13, .ref b14, .ref b15, .ref b16, .ref b17, .ref b18, .int ik, .ref b19, .ref b20, .ref b21, .ref b22, .ref b23, .ref b24, .ref b25])), (b1, .inl (Z.2 0, 5, .inl f1)), (b3, .inl (Z.2 0, 5, .inl f3)), (b4, .inl (Z.2 0, 5, .inl f4)), (b6, .inl (Z.2 0, 5, .inl (upd (upd (upd (upd f6 0 (f12 (5 * t + 0))) 1 (f12 (5 * t + 1))) 2 (f12 (5 * t + 2))) 3 (f12 (5 * t + 3))))), (b7, .inl (Z.2 0, 5, .inl (upd (upd (upd f7 0 (f4 0)) 1 (f4 1)) 2 (f4 2)))), (b12, .inl (Z.2 0, 30, .inl f12)), (b13, .inl (Z.2 0, 6, .inl f13))] := hD
  refine lv_aload_n hx hb dX9_goTurn_23 rfl (lv_at hl 1 rfl) ?_
  refine va_get (D := Z.1) (ci := 9) (v := .ref b7) (C := RX9) (T := TX9) (N := 31) hx hb hts hin9 hown hK hP 0 rfl rfl 8 (by decide) (hts (.fieldLink RX9 28 "HalfAskedModel" "done" "[I") (List.mem_of_getElem? (i := 3) rfl)) (fun _ h9 => h9) rfl dX9_goTurn_24 ?_
  refine lv_iload_n hx hb dX9_goTurn_27 rfl (lv_at hl 0 rfl) ?_
  refine lv_aload_n hx hb dX9_goTurn_28 rfl (lv_at hl 1 rfl) ?_
  refine va_get (D := Z.1) (ci := 9) (v := .ref b4) (C := RX9) (T := TX9) (N := 31) hx hb hts hin9 hown hK hP 0 rfl rfl 3 (by decide) (hts (.fieldLink RX9 19 "HalfAskedModel" "asked" "[I") (List.mem_of_getElem? (i := 4) rfl)) (fun _ h9 => h9) rfl dX9_goTurn_29 ?_
  refine lv_iload_n hx hb dX9_goTurn_32 rfl (lv_at hl 0 rfl) ?_
  refine va_iald hx hb hK hP 3 0 rfl rfl (z_in (by decide)) dX9_goTurn_33 ?_
  refine va_iast hx hb hK hP hD hS 5 0 rfl rfl (z_in (by decide)) dX9_goTurn_34 (fun H locs hP hD hS => ?_)
  have hP : va_P Z.1 vwCl [(h0, .inr (9, [.ref b1, .ref b2, .ref b3, .ref b4, .int (nI n), .ref b5, .int (nI pn), .ref b6, .ref b7, .ref b8, .int (nI tn), .int xp, .int xr, .ref b9, .ref b10, .ref b11, .ref b12, .ref b13, .ref b14, .ref b15, .ref b16, .ref b17, .ref b18, .int ik, .ref b19, .ref b20, .ref b21, .ref b22, .ref b23, .ref b24, .ref b25])), (b1, .inl (Z.2 0, 5, .inl f1)), (b3, .inl (Z.2 0, 5, .inl f3)), (b4, .inl (Z.2 0, 5, .inl f4)), (b6, .inl (Z.2 0, 5, .inl (upd (upd (upd (upd f6 0 (f12 (5 * t + 0))) 1 (f12 (5 * t + 1))) 2 (f12 (5 * t + 2))) 3 (f12 (5 * t + 3))))), (b7, .inl (Z.2 0, 5, .inl (upd (upd (upd (upd f7 0 (f4 0)) 1 (f4 1)) 2 (f4 2)) 3 (f4 3)))), (b12, .inl (Z.2 0, 30, .inl f12)), (b13, .inl (Z.2 0, 6, .inl f13))] H := hP
  have hD : va_D A [(h0, .inr (9, [.ref b1, .ref b2, .ref b3, .ref b4, .int (nI n), .ref b5, .int (nI pn), .ref b6, .ref b7, .ref b8, .int (nI tn), .int xp, .int xr, .ref b9, .ref b10, .ref b11, .ref b12, .ref b13, .ref b14, .ref b15, .ref b16, .ref b17, .ref b18, .int ik, .ref b19, .ref b20, .ref b21, .ref b22, .ref b23, .ref b24, .ref b25])), (b1, .inl (Z.2 0, 5, .inl f1)), (b3, .inl (Z.2 0, 5, .inl f3)), (b4, .inl (Z.2 0, 5, .inl f4)), (b6, .inl (Z.2 0, 5, .inl (upd (upd (upd (upd f6 0 (f12 (5 * t + 0))) 1 (f12 (5 * t + 1))) 2 (f12 (5 * t + 2))) 3 (f12 (5 * t + 3))))), (b7, .inl (Z.2 0, 5, .inl (upd (upd (upd (upd f7 0 (f4 0)) 1 (f4 1)) 2 (f4 2)) 3 (f4 3)))), (b12, .inl (Z.2 0, 30, .inl f12)), (b13, .inl (Z.2 0, 6, .inl f13))] := hD
  refine lv_iinc (v := 4) (lv' := [(2, .int 4), (0, .ref h0), (1, .int (nI t))]) hx hb dX9_goTurn_35 hl (k := 0) rfl (by decide) (by decide) rfl (fun ls hl => ?_)
  refine lv_goto (tgt := 2) hx hb dX9_goTurn_38 (by decide) ?_
  refine lv_iload_n hx hb dX9_goTurn_2 rfl (lv_at hl 0 rfl) ?_
  refine lv_iconst (v := 5) hx hb dX9_goTurn_3 (by decide) ?_
  refine lv_icmp_ge (tgt := 41) hx hb dX9_goTurn_4 (by decide) (fun c9 => absurd c9 (by decide)) (fun _ => ?_)
  refine lv_aload_n hx hb dX9_goTurn_7 rfl (lv_at hl 1 rfl) ?_
  refine va_get (D := Z.1) (ci := 9) (v := .ref b6) (C := RX9) (T := TX9) (N := 31) hx hb hts hin9 hown hK hP 0 rfl rfl 7 (by decide) (hts (.fieldLink RX9 25 "HalfAskedModel" "purse" "[I") (List.mem_of_getElem? (i := 1) rfl)) (fun _ h9 => h9) rfl dX9_goTurn_8 ?_
  refine lv_iload_n hx hb dX9_goTurn_11 rfl (lv_at hl 0 rfl) ?_
  refine lv_aload_n hx hb dX9_goTurn_12 rfl (lv_at hl 1 rfl) ?_
  refine va_get (D := Z.1) (ci := 9) (v := .ref b12) (C := RX9) (T := TX9) (N := 31) hx hb hts hin9 hown hK hP 0 rfl rfl 16 (by decide) (hts (.fieldLink RX9 43 "HalfAskedModel" "ahead" "[I") (List.mem_of_getElem? (i := 2) rfl)) (fun _ h9 => h9) rfl dX9_goTurn_13 ?_
  refine lv_iconst (v := 5) hx hb dX9_goTurn_16 (by decide) ?_
  refine lv_iload_n hx hb dX9_goTurn_17 rfl (lv_at hl 2 rfl) ?_
  refine lv_imul hx hb dX9_goTurn_18 ?_
  refine lv_topi (fun f_13 ef_13 => ?_)
  obtain rfl : nI (5 * t) = f_13 := (ef_13.trans (pk_mul 5 t)).symm
  refine lv_iload_n hx hb dX9_goTurn_19 rfl (lv_at hl 0 rfl) ?_
  refine lv_iadd hx hb dX9_goTurn_20 ?_
  refine lv_topi (fun f_14 ef_14 => ?_)
  obtain rfl : nI ((5 * t) + 4) = f_14 := (ef_14.trans (nI_add (5 * t) 4)).symm
  refine va_iald hx hb hK hP 6 0 rfl rfl (vp_in_nI (by omega) (by decide)) dX9_goTurn_21 ?_
  refine lv_topi (fun f_15 ef_15 => ?_)
  obtain rfl : f12 (5 * t + 4) = f_15 := (ef_15.trans (by rw [nI_clamp (show 5 * t + 4 < 2 ^ 31 by omega)])).symm
  refine va_iast hx hb hK hP hD hS 4 0 rfl rfl (z_in (by decide)) dX9_goTurn_22 (fun H locs hP hD hS => ?_)
  have hP : va_P Z.1 vwCl [(h0, .inr (9, [.ref b1, .ref b2, .ref b3, .ref b4, .int (nI n), .ref b5, .int (nI pn), .ref b6, .ref b7, .ref b8, .int (nI tn), .int xp, .int xr, .ref b9, .ref b10, .ref b11, .ref b12, .ref b13, .ref b14, .ref b15, .ref b16, .ref b17, .ref b18, .int ik, .ref b19, .ref b20, .ref b21, .ref b22, .ref b23, .ref b24, .ref b25])), (b1, .inl (Z.2 0, 5, .inl f1)), (b3, .inl (Z.2 0, 5, .inl f3)), (b4, .inl (Z.2 0, 5, .inl f4)), (b6, .inl (Z.2 0, 5, .inl (upd (upd (upd (upd (upd f6 0 (f12 (5 * t + 0))) 1 (f12 (5 * t + 1))) 2 (f12 (5 * t + 2))) 3 (f12 (5 * t + 3))) 4 (f12 (5 * t + 4))))), (b7, .inl (Z.2 0, 5, .inl (upd (upd (upd (upd f7 0 (f4 0)) 1 (f4 1)) 2 (f4 2)) 3 (f4 3)))), (b12, .inl (Z.2 0, 30, .inl f12)), (b13, .inl (Z.2 0, 6, .inl f13))] H := hP
  have hD : va_D A [(h0, .inr (9, [.ref b1, .ref b2, .ref b3, .ref b4, .int (nI n), .ref b5, .int (nI pn), .ref b6, .ref b7, .ref b8, .int (nI tn), .int xp, .int xr, .ref b9, .ref b10, .ref b11, .ref b12, .ref b13, .ref b14, .ref b15, .ref b16, .ref b17, .ref b18, .int ik, .ref b19, .ref b20, .ref b21, .ref b22, .ref b23, .ref b24, .ref b25])), (b1, .inl (Z.2 0, 5, .inl f1)), (b3, .inl (Z.2 0, 5, .inl f3)), (b4, .inl (Z.2 0, 5, .inl f4)), (b6, .inl (Z.2 0, 5, .inl (upd (upd (upd (upd (upd f6 0 (f12 (5 * t + 0))) 1 (f12 (5 * t + 1))) 2 (f12 (5 * t + 2))) 3 (f12 (5 * t + 3))) 4 (f12 (5 * t + 4))))), (b7, .inl (Z.2 0, 5, .inl (upd (upd (upd (upd f7 0 (f4 0)) 1 (f4 1)) 2 (f4 2)) 3 (f4 3)))), (b12, .inl (Z.2 0, 30, .inl f12)), (b13, .inl (Z.2 0, 6, .inl f13))] := hD
  refine lv_aload_n hx hb dX9_goTurn_23 rfl (lv_at hl 1 rfl) ?_
  refine va_get (D := Z.1) (ci := 9) (v := .ref b7) (C := RX9) (T := TX9) (N := 31) hx hb hts hin9 hown hK hP 0 rfl rfl 8 (by decide) (hts (.fieldLink RX9 28 "HalfAskedModel" "done" "[I") (List.mem_of_getElem? (i := 3) rfl)) (fun _ h9 => h9) rfl dX9_goTurn_24 ?_
  refine lv_iload_n hx hb dX9_goTurn_27 rfl (lv_at hl 0 rfl) ?_
  refine lv_aload_n hx hb dX9_goTurn_28 rfl (lv_at hl 1 rfl) ?_
  refine va_get (D := Z.1) (ci := 9) (v := .ref b4) (C := RX9) (T := TX9) (N := 31) hx hb hts hin9 hown hK hP 0 rfl rfl 3 (by decide) (hts (.fieldLink RX9 19 "HalfAskedModel" "asked" "[I") (List.mem_of_getElem? (i := 4) rfl)) (fun _ h9 => h9) rfl dX9_goTurn_29 ?_
  refine lv_iload_n hx hb dX9_goTurn_32 rfl (lv_at hl 0 rfl) ?_
  refine va_iald hx hb hK hP 3 0 rfl rfl (z_in (by decide)) dX9_goTurn_33 ?_
  refine va_iast hx hb hK hP hD hS 5 0 rfl rfl (z_in (by decide)) dX9_goTurn_34 (fun H locs hP hD hS => ?_)
  have hP : va_P Z.1 vwCl [(h0, .inr (9, [.ref b1, .ref b2, .ref b3, .ref b4, .int (nI n), .ref b5, .int (nI pn), .ref b6, .ref b7, .ref b8, .int (nI tn), .int xp, .int xr, .ref b9, .ref b10, .ref b11, .ref b12, .ref b13, .ref b14, .ref b15, .ref b16, .ref b17, .ref b18, .int ik, .ref b19, .ref b20, .ref b21, .ref b22, .ref b23, .ref b24, .ref b25])), (b1, .inl (Z.2 0, 5, .inl f1)), (b3, .inl (Z.2 0, 5, .inl f3)), (b4, .inl (Z.2 0, 5, .inl f4)), (b6, .inl (Z.2 0, 5, .inl (upd (upd (upd (upd (upd f6 0 (f12 (5 * t + 0))) 1 (f12 (5 * t + 1))) 2 (f12 (5 * t + 2))) 3 (f12 (5 * t + 3))) 4 (f12 (5 * t + 4))))), (b7, .inl (Z.2 0, 5, .inl (upd (upd (upd (upd (upd f7 0 (f4 0)) 1 (f4 1)) 2 (f4 2)) 3 (f4 3)) 4 (f4 4)))), (b12, .inl (Z.2 0, 30, .inl f12)), (b13, .inl (Z.2 0, 6, .inl f13))] H := hP
  have hD : va_D A [(h0, .inr (9, [.ref b1, .ref b2, .ref b3, .ref b4, .int (nI n), .ref b5, .int (nI pn), .ref b6, .ref b7, .ref b8, .int (nI tn), .int xp, .int xr, .ref b9, .ref b10, .ref b11, .ref b12, .ref b13, .ref b14, .ref b15, .ref b16, .ref b17, .ref b18, .int ik, .ref b19, .ref b20, .ref b21, .ref b22, .ref b23, .ref b24, .ref b25])), (b1, .inl (Z.2 0, 5, .inl f1)), (b3, .inl (Z.2 0, 5, .inl f3)), (b4, .inl (Z.2 0, 5, .inl f4)), (b6, .inl (Z.2 0, 5, .inl (upd (upd (upd (upd (upd f6 0 (f12 (5 * t + 0))) 1 (f12 (5 * t + 1))) 2 (f12 (5 * t + 2))) 3 (f12 (5 * t + 3))) 4 (f12 (5 * t + 4))))), (b7, .inl (Z.2 0, 5, .inl (upd (upd (upd (upd (upd f7 0 (f4 0)) 1 (f4 1)) 2 (f4 2)) 3 (f4 3)) 4 (f4 4)))), (b12, .inl (Z.2 0, 30, .inl f12)), (b13, .inl (Z.2 0, 6, .inl f13))] := hD
  refine lv_iinc (v := 5) (lv' := [(2, .int 5), (0, .ref h0), (1, .int (nI t))]) hx hb dX9_goTurn_35 hl (k := 0) rfl (by decide) (by decide) rfl (fun ls hl => ?_)
  refine lv_goto (tgt := 2) hx hb dX9_goTurn_38 (by decide) ?_
  refine lv_iload_n hx hb dX9_goTurn_2 rfl (lv_at hl 0 rfl) ?_
  refine lv_iconst (v := 5) hx hb dX9_goTurn_3 (by decide) ?_
  refine lv_icmp_ge (tgt := 41) hx hb dX9_goTurn_4 (by decide) (fun _ => ?_) (fun c9 => absurd c9 (by decide))
  have hP := z_PXi (g := (fun z => f12 (5 * t + z))) 4 rfl (fun j9 hj9 => z_five (g := fun z => f12 (5 * t + z)) hj9) hP
  have hD := z_DXi (g := (fun z => f12 (5 * t + z))) 4 rfl hD
  have hP : va_P Z.1 vwCl [(h0, .inr (9, [.ref b1, .ref b2, .ref b3, .ref b4, .int (nI n), .ref b5, .int (nI pn), .ref b6, .ref b7, .ref b8, .int (nI tn), .int xp, .int xr, .ref b9, .ref b10, .ref b11, .ref b12, .ref b13, .ref b14, .ref b15, .ref b16, .ref b17, .ref b18, .int ik, .ref b19, .ref b20, .ref b21, .ref b22, .ref b23, .ref b24, .ref b25])), (b1, .inl (Z.2 0, 5, .inl f1)), (b3, .inl (Z.2 0, 5, .inl f3)), (b4, .inl (Z.2 0, 5, .inl f4)), (b6, .inl (Z.2 0, 5, .inl (fun z => f12 (5 * t + z)))), (b7, .inl (Z.2 0, 5, .inl (upd (upd (upd (upd (upd f7 0 (f4 0)) 1 (f4 1)) 2 (f4 2)) 3 (f4 3)) 4 (f4 4)))), (b12, .inl (Z.2 0, 30, .inl f12)), (b13, .inl (Z.2 0, 6, .inl f13))] H := hP
  have hD : va_D A [(h0, .inr (9, [.ref b1, .ref b2, .ref b3, .ref b4, .int (nI n), .ref b5, .int (nI pn), .ref b6, .ref b7, .ref b8, .int (nI tn), .int xp, .int xr, .ref b9, .ref b10, .ref b11, .ref b12, .ref b13, .ref b14, .ref b15, .ref b16, .ref b17, .ref b18, .int ik, .ref b19, .ref b20, .ref b21, .ref b22, .ref b23, .ref b24, .ref b25])), (b1, .inl (Z.2 0, 5, .inl f1)), (b3, .inl (Z.2 0, 5, .inl f3)), (b4, .inl (Z.2 0, 5, .inl f4)), (b6, .inl (Z.2 0, 5, .inl (fun z => f12 (5 * t + z)))), (b7, .inl (Z.2 0, 5, .inl (upd (upd (upd (upd (upd f7 0 (f4 0)) 1 (f4 1)) 2 (f4 2)) 3 (f4 3)) 4 (f4 4)))), (b12, .inl (Z.2 0, 30, .inl f12)), (b13, .inl (Z.2 0, 6, .inl f13))] := hD
  have hP := z_PXi (g := f4) 5 rfl (fun j9 hj9 => z_five hj9) hP
  have hD := z_DXi (g := f4) 5 rfl hD
  have hP : va_P Z.1 vwCl [(h0, .inr (9, [.ref b1, .ref b2, .ref b3, .ref b4, .int (nI n), .ref b5, .int (nI pn), .ref b6, .ref b7, .ref b8, .int (nI tn), .int xp, .int xr, .ref b9, .ref b10, .ref b11, .ref b12, .ref b13, .ref b14, .ref b15, .ref b16, .ref b17, .ref b18, .int ik, .ref b19, .ref b20, .ref b21, .ref b22, .ref b23, .ref b24, .ref b25])), (b1, .inl (Z.2 0, 5, .inl f1)), (b3, .inl (Z.2 0, 5, .inl f3)), (b4, .inl (Z.2 0, 5, .inl f4)), (b6, .inl (Z.2 0, 5, .inl (fun z => f12 (5 * t + z)))), (b7, .inl (Z.2 0, 5, .inl f4)), (b12, .inl (Z.2 0, 30, .inl f12)), (b13, .inl (Z.2 0, 6, .inl f13))] H := hP
  have hD : va_D A [(h0, .inr (9, [.ref b1, .ref b2, .ref b3, .ref b4, .int (nI n), .ref b5, .int (nI pn), .ref b6, .ref b7, .ref b8, .int (nI tn), .int xp, .int xr, .ref b9, .ref b10, .ref b11, .ref b12, .ref b13, .ref b14, .ref b15, .ref b16, .ref b17, .ref b18, .int ik, .ref b19, .ref b20, .ref b21, .ref b22, .ref b23, .ref b24, .ref b25])), (b1, .inl (Z.2 0, 5, .inl f1)), (b3, .inl (Z.2 0, 5, .inl f3)), (b4, .inl (Z.2 0, 5, .inl f4)), (b6, .inl (Z.2 0, 5, .inl (fun z => f12 (5 * t + z)))), (b7, .inl (Z.2 0, 5, .inl f4)), (b12, .inl (Z.2 0, 30, .inl f12)), (b13, .inl (Z.2 0, 6, .inl f13))] := hD
  refine lv_aload_n hx hb dX9_goTurn_41 rfl (lv_at hl 1 rfl) ?_
  refine va_get (D := Z.1) (ci := 9) (v := .ref b13) (C := RX9) (T := TX9) (N := 31) hx hb hts hin9 hown hK hP 0 rfl rfl 17 (by decide) (hts (.fieldLink RX9 46 "HalfAskedModel" "tried" "[I") (List.mem_of_getElem? (i := 5) rfl)) (fun _ h9 => h9) rfl dX9_goTurn_42 ?_
  refine lv_iload_n hx hb dX9_goTurn_45 rfl (lv_at hl 2 rfl) ?_
  refine va_iald hx hb hK hP 7 0 rfl rfl (vp_in_nI (by omega) (by decide)) dX9_goTurn_46 ?_
  refine lv_topi (fun f_16 ef_16 => ?_)
  obtain rfl : 0 = f_16 := (ef_16.trans (by rw [nI_clamp (by omega)]; exact hv)).symm
  refine lv_if_eq (tgt := 78) hx hb dX9_goTurn_47 (by decide) (fun _ => ?_) (fun c9 => absurd c9 (by decide))
  refine lv_iconst (v := 1) hx hb dX9_goTurn_78 (by decide) ?_
  refine lv_goto (tgt := 83) hx hb dX9_goTurn_79 (by decide) ?_
  refine lv_istore_n (lv' := [(2, .int 1), (0, .ref h0), (1, .int (nI t))]) hx hb dX9_goTurn_83 rfl hl (by decide) rfl (fun ls hl => ?_)
  refine lv_iconst (v := 0) hx hb dX9_goTurn_84 (by decide) ?_
  refine lv_istore_n (lv' := [(3, .int 0), (2, .int 1), (0, .ref h0), (1, .int (nI t))]) hx hb dX9_goTurn_85 rfl hl (by decide) rfl (fun ls hl => ?_)
  refine lv_iload_n hx hb dX9_goTurn_86 rfl (lv_at hl 0 rfl) ?_
  refine lv_iconst (v := 5) hx hb dX9_goTurn_87 (by decide) ?_
  refine lv_icmp_ge (tgt := 115) hx hb dX9_goTurn_88 (by decide) (fun c9 => absurd c9 (by decide)) (fun _ => ?_)
  refine lv_aload_n hx hb dX9_goTurn_91 rfl (lv_at hl 2 rfl) ?_
  refine va_get (D := Z.1) (ci := 9) (v := .ref b12) (C := RX9) (T := TX9) (N := 31) hx hb hts hin9 hown hK hP 0 rfl rfl 16 (by decide) (hts (.fieldLink RX9 43 "HalfAskedModel" "ahead" "[I") (List.mem_of_getElem? (i := 2) rfl)) (fun _ h9 => h9) rfl dX9_goTurn_92 ?_
  refine lv_iconst (v := 5) hx hb dX9_goTurn_95 (by decide) ?_
  refine lv_iload_n hx hb dX9_goTurn_96 rfl (lv_at hl 3 rfl) ?_
  refine lv_iconst (v := 1) hx hb dX9_goTurn_97 (by decide) ?_
  refine lv_iadd hx hb dX9_goTurn_98 ?_
  refine lv_topi (fun f_17 ef_17 => ?_)
  obtain rfl : nI (t + 1) = f_17 := (ef_17.trans (nI_1 _)).symm
  refine lv_imul hx hb dX9_goTurn_99 ?_
  refine lv_topi (fun f_18 ef_18 => ?_)
  obtain rfl : nI (5 * (t + 1)) = f_18 := (ef_18.trans (pk_mul 5 (t + 1))).symm
  refine lv_iload_n hx hb dX9_goTurn_100 rfl (lv_at hl 0 rfl) ?_
  refine lv_iadd hx hb dX9_goTurn_101 ?_
  refine lv_topi (fun f_19 ef_19 => ?_)
  obtain rfl : nI ((5 * (t + 1)) + 0) = f_19 := (ef_19.trans (nI_add (5 * (t + 1)) 0)).symm
  refine lv_aload_n hx hb dX9_goTurn_102 rfl (lv_at hl 2 rfl) ?_
  refine va_get (D := Z.1) (ci := 9) (v := .ref b6) (C := RX9) (T := TX9) (N := 31) hx hb hts hin9 hown hK hP 0 rfl rfl 7 (by decide) (hts (.fieldLink RX9 25 "HalfAskedModel" "purse" "[I") (List.mem_of_getElem? (i := 1) rfl)) (fun _ h9 => h9) rfl dX9_goTurn_103 ?_
  refine lv_iload_n hx hb dX9_goTurn_106 rfl (lv_at hl 0 rfl) ?_
  refine va_iald hx hb hK hP 4 0 rfl rfl (z_in (by decide)) dX9_goTurn_107 ?_
  refine va_iast hx hb hK hP hD hS 6 0 rfl rfl (vp_in_nI (by omega) (by decide)) dX9_goTurn_108 (fun H locs hP hD hS => ?_)
  have hP : va_P Z.1 vwCl [(h0, .inr (9, [.ref b1, .ref b2, .ref b3, .ref b4, .int (nI n), .ref b5, .int (nI pn), .ref b6, .ref b7, .ref b8, .int (nI tn), .int xp, .int xr, .ref b9, .ref b10, .ref b11, .ref b12, .ref b13, .ref b14, .ref b15, .ref b16, .ref b17, .ref b18, .int ik, .ref b19, .ref b20, .ref b21, .ref b22, .ref b23, .ref b24, .ref b25])), (b1, .inl (Z.2 0, 5, .inl f1)), (b3, .inl (Z.2 0, 5, .inl f3)), (b4, .inl (Z.2 0, 5, .inl f4)), (b6, .inl (Z.2 0, 5, .inl (fun z => f12 (5 * t + z)))), (b7, .inl (Z.2 0, 5, .inl f4)), (b12, .inl (Z.2 0, 30, .inl (upd f12 ((nI ((5 * (t + 1)) + 0)).toNatClampNeg) ((fun z => f12 (5 * t + z)) 0)))), (b13, .inl (Z.2 0, 6, .inl f13))] H := hP
  have hD : va_D A [(h0, .inr (9, [.ref b1, .ref b2, .ref b3, .ref b4, .int (nI n), .ref b5, .int (nI pn), .ref b6, .ref b7, .ref b8, .int (nI tn), .int xp, .int xr, .ref b9, .ref b10, .ref b11, .ref b12, .ref b13, .ref b14, .ref b15, .ref b16, .ref b17, .ref b18, .int ik, .ref b19, .ref b20, .ref b21, .ref b22, .ref b23, .ref b24, .ref b25])), (b1, .inl (Z.2 0, 5, .inl f1)), (b3, .inl (Z.2 0, 5, .inl f3)), (b4, .inl (Z.2 0, 5, .inl f4)), (b6, .inl (Z.2 0, 5, .inl (fun z => f12 (5 * t + z)))), (b7, .inl (Z.2 0, 5, .inl f4)), (b12, .inl (Z.2 0, 30, .inl (upd f12 ((nI ((5 * (t + 1)) + 0)).toNatClampNeg) ((fun z => f12 (5 * t + z)) 0)))), (b13, .inl (Z.2 0, 6, .inl f13))] := hD
  refine lv_iinc (v := 1) (lv' := [(3, .int 1), (2, .int 1), (0, .ref h0), (1, .int (nI t))]) hx hb dX9_goTurn_109 hl (k := 0) rfl (by decide) (by decide) rfl (fun ls hl => ?_)
  refine lv_goto (tgt := 86) hx hb dX9_goTurn_112 (by decide) ?_
  refine lv_iload_n hx hb dX9_goTurn_86 rfl (lv_at hl 0 rfl) ?_
  refine lv_iconst (v := 5) hx hb dX9_goTurn_87 (by decide) ?_
  refine lv_icmp_ge (tgt := 115) hx hb dX9_goTurn_88 (by decide) (fun c9 => absurd c9 (by decide)) (fun _ => ?_)
  refine lv_aload_n hx hb dX9_goTurn_91 rfl (lv_at hl 2 rfl) ?_
  refine va_get (D := Z.1) (ci := 9) (v := .ref b12) (C := RX9) (T := TX9) (N := 31) hx hb hts hin9 hown hK hP 0 rfl rfl 16 (by decide) (hts (.fieldLink RX9 43 "HalfAskedModel" "ahead" "[I") (List.mem_of_getElem? (i := 2) rfl)) (fun _ h9 => h9) rfl dX9_goTurn_92 ?_
  refine lv_iconst (v := 5) hx hb dX9_goTurn_95 (by decide) ?_
  refine lv_iload_n hx hb dX9_goTurn_96 rfl (lv_at hl 3 rfl) ?_
  refine lv_iconst (v := 1) hx hb dX9_goTurn_97 (by decide) ?_
  refine lv_iadd hx hb dX9_goTurn_98 ?_
  refine lv_topi (fun f_20 ef_20 => ?_)
  obtain rfl : nI (t + 1) = f_20 := (ef_20.trans (nI_1 _)).symm
  refine lv_imul hx hb dX9_goTurn_99 ?_
  refine lv_topi (fun f_21 ef_21 => ?_)
  obtain rfl : nI (5 * (t + 1)) = f_21 := (ef_21.trans (pk_mul 5 (t + 1))).symm
  refine lv_iload_n hx hb dX9_goTurn_100 rfl (lv_at hl 0 rfl) ?_
  refine lv_iadd hx hb dX9_goTurn_101 ?_
  refine lv_topi (fun f_22 ef_22 => ?_)
  obtain rfl : nI ((5 * (t + 1)) + 1) = f_22 := (ef_22.trans (nI_1 _)).symm
  refine lv_aload_n hx hb dX9_goTurn_102 rfl (lv_at hl 2 rfl) ?_
  refine va_get (D := Z.1) (ci := 9) (v := .ref b6) (C := RX9) (T := TX9) (N := 31) hx hb hts hin9 hown hK hP 0 rfl rfl 7 (by decide) (hts (.fieldLink RX9 25 "HalfAskedModel" "purse" "[I") (List.mem_of_getElem? (i := 1) rfl)) (fun _ h9 => h9) rfl dX9_goTurn_103 ?_
  refine lv_iload_n hx hb dX9_goTurn_106 rfl (lv_at hl 0 rfl) ?_
  refine va_iald hx hb hK hP 4 0 rfl rfl (z_in (by decide)) dX9_goTurn_107 ?_
  refine va_iast hx hb hK hP hD hS 6 0 rfl rfl (vp_in_nI (by omega) (by decide)) dX9_goTurn_108 (fun H locs hP hD hS => ?_)
  have hP : va_P Z.1 vwCl [(h0, .inr (9, [.ref b1, .ref b2, .ref b3, .ref b4, .int (nI n), .ref b5, .int (nI pn), .ref b6, .ref b7, .ref b8, .int (nI tn), .int xp, .int xr, .ref b9, .ref b10, .ref b11, .ref b12, .ref b13, .ref b14, .ref b15, .ref b16, .ref b17, .ref b18, .int ik, .ref b19, .ref b20, .ref b21, .ref b22, .ref b23, .ref b24, .ref b25])), (b1, .inl (Z.2 0, 5, .inl f1)), (b3, .inl (Z.2 0, 5, .inl f3)), (b4, .inl (Z.2 0, 5, .inl f4)), (b6, .inl (Z.2 0, 5, .inl (fun z => f12 (5 * t + z)))), (b7, .inl (Z.2 0, 5, .inl f4)), (b12, .inl (Z.2 0, 30, .inl (upd (upd f12 ((nI ((5 * (t + 1)) + 0)).toNatClampNeg) ((fun z => f12 (5 * t + z)) 0)) ((nI ((5 * (t + 1)) + 1)).toNatClampNeg) ((fun z => f12 (5 * t + z)) 1)))), (b13, .inl (Z.2 0, 6, .inl f13))] H := hP
  have hD : va_D A [(h0, .inr (9, [.ref b1, .ref b2, .ref b3, .ref b4, .int (nI n), .ref b5, .int (nI pn), .ref b6, .ref b7, .ref b8, .int (nI tn), .int xp, .int xr, .ref b9, .ref b10, .ref b11, .ref b12, .ref b13, .ref b14, .ref b15, .ref b16, .ref b17, .ref b18, .int ik, .ref b19, .ref b20, .ref b21, .ref b22, .ref b23, .ref b24, .ref b25])), (b1, .inl (Z.2 0, 5, .inl f1)), (b3, .inl (Z.2 0, 5, .inl f3)), (b4, .inl (Z.2 0, 5, .inl f4)), (b6, .inl (Z.2 0, 5, .inl (fun z => f12 (5 * t + z)))), (b7, .inl (Z.2 0, 5, .inl f4)), (b12, .inl (Z.2 0, 30, .inl (upd (upd f12 ((nI ((5 * (t + 1)) + 0)).toNatClampNeg) ((fun z => f12 (5 * t + z)) 0)) ((nI ((5 * (t + 1)) + 1)).toNatClampNeg) ((fun z => f12 (5 * t + z)) 1)))), (b13, .inl (Z.2 0, 6, .inl f13))] := hD
  refine lv_iinc (v := 2) (lv' := [(3, .int 2), (2, .int 1), (0, .ref h0), (1, .int (nI t))]) hx hb dX9_goTurn_109 hl (k := 0) rfl (by decide) (by decide) rfl (fun ls hl => ?_)
  refine lv_goto (tgt := 86) hx hb dX9_goTurn_112 (by decide) ?_
  refine lv_iload_n hx hb dX9_goTurn_86 rfl (lv_at hl 0 rfl) ?_
  refine lv_iconst (v := 5) hx hb dX9_goTurn_87 (by decide) ?_
  refine lv_icmp_ge (tgt := 115) hx hb dX9_goTurn_88 (by decide) (fun c9 => absurd c9 (by decide)) (fun _ => ?_)
  refine lv_aload_n hx hb dX9_goTurn_91 rfl (lv_at hl 2 rfl) ?_
  refine va_get (D := Z.1) (ci := 9) (v := .ref b12) (C := RX9) (T := TX9) (N := 31) hx hb hts hin9 hown hK hP 0 rfl rfl 16 (by decide) (hts (.fieldLink RX9 43 "HalfAskedModel" "ahead" "[I") (List.mem_of_getElem? (i := 2) rfl)) (fun _ h9 => h9) rfl dX9_goTurn_92 ?_
  refine lv_iconst (v := 5) hx hb dX9_goTurn_95 (by decide) ?_
  refine lv_iload_n hx hb dX9_goTurn_96 rfl (lv_at hl 3 rfl) ?_
  refine lv_iconst (v := 1) hx hb dX9_goTurn_97 (by decide) ?_
  refine lv_iadd hx hb dX9_goTurn_98 ?_
  refine lv_topi (fun f_23 ef_23 => ?_)
  obtain rfl : nI (t + 1) = f_23 := (ef_23.trans (nI_1 _)).symm
  refine lv_imul hx hb dX9_goTurn_99 ?_
  refine lv_topi (fun f_24 ef_24 => ?_)
  obtain rfl : nI (5 * (t + 1)) = f_24 := (ef_24.trans (pk_mul 5 (t + 1))).symm
  refine lv_iload_n hx hb dX9_goTurn_100 rfl (lv_at hl 0 rfl) ?_
  refine lv_iadd hx hb dX9_goTurn_101 ?_
  refine lv_topi (fun f_25 ef_25 => ?_)
  obtain rfl : nI ((5 * (t + 1)) + 2) = f_25 := (ef_25.trans (nI_add (5 * (t + 1)) 2)).symm
  refine lv_aload_n hx hb dX9_goTurn_102 rfl (lv_at hl 2 rfl) ?_
  refine va_get (D := Z.1) (ci := 9) (v := .ref b6) (C := RX9) (T := TX9) (N := 31) hx hb hts hin9 hown hK hP 0 rfl rfl 7 (by decide) (hts (.fieldLink RX9 25 "HalfAskedModel" "purse" "[I") (List.mem_of_getElem? (i := 1) rfl)) (fun _ h9 => h9) rfl dX9_goTurn_103 ?_
  refine lv_iload_n hx hb dX9_goTurn_106 rfl (lv_at hl 0 rfl) ?_
  refine va_iald hx hb hK hP 4 0 rfl rfl (z_in (by decide)) dX9_goTurn_107 ?_
  refine va_iast hx hb hK hP hD hS 6 0 rfl rfl (vp_in_nI (by omega) (by decide)) dX9_goTurn_108 (fun H locs hP hD hS => ?_)
  have hP : va_P Z.1 vwCl [(h0, .inr (9, [.ref b1, .ref b2, .ref b3, .ref b4, .int (nI n), .ref b5, .int (nI pn), .ref b6, .ref b7, .ref b8, .int (nI tn), .int xp, .int xr, .ref b9, .ref b10, .ref b11, .ref b12, .ref b13, .ref b14, .ref b15, .ref b16, .ref b17, .ref b18, .int ik, .ref b19, .ref b20, .ref b21, .ref b22, .ref b23, .ref b24, .ref b25])), (b1, .inl (Z.2 0, 5, .inl f1)), (b3, .inl (Z.2 0, 5, .inl f3)), (b4, .inl (Z.2 0, 5, .inl f4)), (b6, .inl (Z.2 0, 5, .inl (fun z => f12 (5 * t + z)))), (b7, .inl (Z.2 0, 5, .inl f4)), (b12, .inl (Z.2 0, 30, .inl (upd (upd (upd f12 ((nI ((5 * (t + 1)) + 0)).toNatClampNeg) ((fun z => f12 (5 * t + z)) 0)) ((nI ((5 * (t + 1)) + 1)).toNatClampNeg) ((fun z => f12 (5 * t + z)) 1)) ((nI ((5 * (t + 1)) + 2)).toNatClampNeg) ((fun z => f12 (5 * t + z)) 2)))), (b13, .inl (Z.2 0, 6, .inl f13))] H := hP
  have hD : va_D A [(h0, .inr (9, [.ref b1, .ref b2, .ref b3, .ref b4, .int (nI n), .ref b5, .int (nI pn), .ref b6, .ref b7, .ref b8, .int (nI tn), .int xp, .int xr, .ref b9, .ref b10, .ref b11, .ref b12, .ref b13, .ref b14, .ref b15, .ref b16, .ref b17, .ref b18, .int ik, .ref b19, .ref b20, .ref b21, .ref b22, .ref b23, .ref b24, .ref b25])), (b1, .inl (Z.2 0, 5, .inl f1)), (b3, .inl (Z.2 0, 5, .inl f3)), (b4, .inl (Z.2 0, 5, .inl f4)), (b6, .inl (Z.2 0, 5, .inl (fun z => f12 (5 * t + z)))), (b7, .inl (Z.2 0, 5, .inl f4)), (b12, .inl (Z.2 0, 30, .inl (upd (upd (upd f12 ((nI ((5 * (t + 1)) + 0)).toNatClampNeg) ((fun z => f12 (5 * t + z)) 0)) ((nI ((5 * (t + 1)) + 1)).toNatClampNeg) ((fun z => f12 (5 * t + z)) 1)) ((nI ((5 * (t + 1)) + 2)).toNatClampNeg) ((fun z => f12 (5 * t + z)) 2)))), (b13, .inl (Z.2 0, 6, .inl f13))] := hD
  refine lv_iinc (v := 3) (lv' := [(3, .int 3), (2, .int 1), (0, .ref h0), (1, .int (nI t))]) hx hb dX9_goTurn_109 hl (k := 0) rfl (by decide) (by decide) rfl (fun ls hl => ?_)
  refine lv_goto (tgt := 86) hx hb dX9_goTurn_112 (by decide) ?_
  refine lv_iload_n hx hb dX9_goTurn_86 rfl (lv_at hl 0 rfl) ?_
  refine lv_iconst (v := 5) hx hb dX9_goTurn_87 (by decide) ?_
  refine lv_icmp_ge (tgt := 115) hx hb dX9_goTurn_88 (by decide) (fun c9 => absurd c9 (by decide)) (fun _ => ?_)
  refine lv_aload_n hx hb dX9_goTurn_91 rfl (lv_at hl 2 rfl) ?_
  refine va_get (D := Z.1) (ci := 9) (v := .ref b12) (C := RX9) (T := TX9) (N := 31) hx hb hts hin9 hown hK hP 0 rfl rfl 16 (by decide) (hts (.fieldLink RX9 43 "HalfAskedModel" "ahead" "[I") (List.mem_of_getElem? (i := 2) rfl)) (fun _ h9 => h9) rfl dX9_goTurn_92 ?_
  refine lv_iconst (v := 5) hx hb dX9_goTurn_95 (by decide) ?_
  refine lv_iload_n hx hb dX9_goTurn_96 rfl (lv_at hl 3 rfl) ?_
  refine lv_iconst (v := 1) hx hb dX9_goTurn_97 (by decide) ?_
  refine lv_iadd hx hb dX9_goTurn_98 ?_
  refine lv_topi (fun f_26 ef_26 => ?_)
  obtain rfl : nI (t + 1) = f_26 := (ef_26.trans (nI_1 _)).symm
  refine lv_imul hx hb dX9_goTurn_99 ?_
  refine lv_topi (fun f_27 ef_27 => ?_)
  obtain rfl : nI (5 * (t + 1)) = f_27 := (ef_27.trans (pk_mul 5 (t + 1))).symm
  refine lv_iload_n hx hb dX9_goTurn_100 rfl (lv_at hl 0 rfl) ?_
  refine lv_iadd hx hb dX9_goTurn_101 ?_
  refine lv_topi (fun f_28 ef_28 => ?_)
  obtain rfl : nI ((5 * (t + 1)) + 3) = f_28 := (ef_28.trans (nI_add (5 * (t + 1)) 3)).symm
  refine lv_aload_n hx hb dX9_goTurn_102 rfl (lv_at hl 2 rfl) ?_
  refine va_get (D := Z.1) (ci := 9) (v := .ref b6) (C := RX9) (T := TX9) (N := 31) hx hb hts hin9 hown hK hP 0 rfl rfl 7 (by decide) (hts (.fieldLink RX9 25 "HalfAskedModel" "purse" "[I") (List.mem_of_getElem? (i := 1) rfl)) (fun _ h9 => h9) rfl dX9_goTurn_103 ?_
  refine lv_iload_n hx hb dX9_goTurn_106 rfl (lv_at hl 0 rfl) ?_
  refine va_iald hx hb hK hP 4 0 rfl rfl (z_in (by decide)) dX9_goTurn_107 ?_
  refine va_iast hx hb hK hP hD hS 6 0 rfl rfl (vp_in_nI (by omega) (by decide)) dX9_goTurn_108 (fun H locs hP hD hS => ?_)
  have hP : va_P Z.1 vwCl [(h0, .inr (9, [.ref b1, .ref b2, .ref b3, .ref b4, .int (nI n), .ref b5, .int (nI pn), .ref b6, .ref b7, .ref b8, .int (nI tn), .int xp, .int xr, .ref b9, .ref b10, .ref b11, .ref b12, .ref b13, .ref b14, .ref b15, .ref b16, .ref b17, .ref b18, .int ik, .ref b19, .ref b20, .ref b21, .ref b22, .ref b23, .ref b24, .ref b25])), (b1, .inl (Z.2 0, 5, .inl f1)), (b3, .inl (Z.2 0, 5, .inl f3)), (b4, .inl (Z.2 0, 5, .inl f4)), (b6, .inl (Z.2 0, 5, .inl (fun z => f12 (5 * t + z)))), (b7, .inl (Z.2 0, 5, .inl f4)), (b12, .inl (Z.2 0, 30, .inl (upd (upd (upd (upd f12 ((nI ((5 * (t + 1)) + 0)).toNatClampNeg) ((fun z => f12 (5 * t + z)) 0)) ((nI ((5 * (t + 1)) + 1)).toNatClampNeg) ((fun z => f12 (5 * t + z)) 1)) ((nI ((5 * (t + 1)) + 2)).toNatClampNeg) ((fun z => f12 (5 * t + z)) 2)) ((nI ((5 * (t + 1)) + 3)).toNatClampNeg) ((fun z => f12 (5 * t + z)) 3)))), (b13, .inl (Z.2 0, 6, .inl f13))] H := hP
  have hD : va_D A [(h0, .inr (9, [.ref b1, .ref b2, .ref b3, .ref b4, .int (nI n), .ref b5, .int (nI pn), .ref b6, .ref b7, .ref b8, .int (nI tn), .int xp, .int xr, .ref b9, .ref b10, .ref b11, .ref b12, .ref b13, .ref b14, .ref b15, .ref b16, .ref b17, .ref b18, .int ik, .ref b19, .ref b20, .ref b21, .ref b22, .ref b23, .ref b24, .ref b25])), (b1, .inl (Z.2 0, 5, .inl f1)), (b3, .inl (Z.2 0, 5, .inl f3)), (b4, .inl (Z.2 0, 5, .inl f4)), (b6, .inl (Z.2 0, 5, .inl (fun z => f12 (5 * t + z)))), (b7, .inl (Z.2 0, 5, .inl f4)), (b12, .inl (Z.2 0, 30, .inl (upd (upd (upd (upd f12 ((nI ((5 * (t + 1)) + 0)).toNatClampNeg) ((fun z => f12 (5 * t + z)) 0)) ((nI ((5 * (t + 1)) + 1)).toNatClampNeg) ((fun z => f12 (5 * t + z)) 1)) ((nI ((5 * (t + 1)) + 2)).toNatClampNeg) ((fun z => f12 (5 * t + z)) 2)) ((nI ((5 * (t + 1)) + 3)).toNatClampNeg) ((fun z => f12 (5 * t + z)) 3)))), (b13, .inl (Z.2 0, 6, .inl f13))] := hD
  refine lv_iinc (v := 4) (lv' := [(3, .int 4), (2, .int 1), (0, .ref h0), (1, .int (nI t))]) hx hb dX9_goTurn_109 hl (k := 0) rfl (by decide) (by decide) rfl (fun ls hl => ?_)
  refine lv_goto (tgt := 86) hx hb dX9_goTurn_112 (by decide) ?_
  refine lv_iload_n hx hb dX9_goTurn_86 rfl (lv_at hl 0 rfl) ?_
  refine lv_iconst (v := 5) hx hb dX9_goTurn_87 (by decide) ?_
  refine lv_icmp_ge (tgt := 115) hx hb dX9_goTurn_88 (by decide) (fun c9 => absurd c9 (by decide)) (fun _ => ?_)
  refine lv_aload_n hx hb dX9_goTurn_91 rfl (lv_at hl 2 rfl) ?_
  refine va_get (D := Z.1) (ci := 9) (v := .ref b12) (C := RX9) (T := TX9) (N := 31) hx hb hts hin9 hown hK hP 0 rfl rfl 16 (by decide) (hts (.fieldLink RX9 43 "HalfAskedModel" "ahead" "[I") (List.mem_of_getElem? (i := 2) rfl)) (fun _ h9 => h9) rfl dX9_goTurn_92 ?_
  refine lv_iconst (v := 5) hx hb dX9_goTurn_95 (by decide) ?_
  refine lv_iload_n hx hb dX9_goTurn_96 rfl (lv_at hl 3 rfl) ?_
  refine lv_iconst (v := 1) hx hb dX9_goTurn_97 (by decide) ?_
  refine lv_iadd hx hb dX9_goTurn_98 ?_
  refine lv_topi (fun f_29 ef_29 => ?_)
  obtain rfl : nI (t + 1) = f_29 := (ef_29.trans (nI_1 _)).symm
  refine lv_imul hx hb dX9_goTurn_99 ?_
  refine lv_topi (fun f_30 ef_30 => ?_)
  obtain rfl : nI (5 * (t + 1)) = f_30 := (ef_30.trans (pk_mul 5 (t + 1))).symm
  refine lv_iload_n hx hb dX9_goTurn_100 rfl (lv_at hl 0 rfl) ?_
  refine lv_iadd hx hb dX9_goTurn_101 ?_
  refine lv_topi (fun f_31 ef_31 => ?_)
  obtain rfl : nI ((5 * (t + 1)) + 4) = f_31 := (ef_31.trans (nI_add (5 * (t + 1)) 4)).symm
  refine lv_aload_n hx hb dX9_goTurn_102 rfl (lv_at hl 2 rfl) ?_
  refine va_get (D := Z.1) (ci := 9) (v := .ref b6) (C := RX9) (T := TX9) (N := 31) hx hb hts hin9 hown hK hP 0 rfl rfl 7 (by decide) (hts (.fieldLink RX9 25 "HalfAskedModel" "purse" "[I") (List.mem_of_getElem? (i := 1) rfl)) (fun _ h9 => h9) rfl dX9_goTurn_103 ?_
  refine lv_iload_n hx hb dX9_goTurn_106 rfl (lv_at hl 0 rfl) ?_
  refine va_iald hx hb hK hP 4 0 rfl rfl (z_in (by decide)) dX9_goTurn_107 ?_
  refine va_iast hx hb hK hP hD hS 6 0 rfl rfl (vp_in_nI (by omega) (by decide)) dX9_goTurn_108 (fun H locs hP hD hS => ?_)
  have hP : va_P Z.1 vwCl [(h0, .inr (9, [.ref b1, .ref b2, .ref b3, .ref b4, .int (nI n), .ref b5, .int (nI pn), .ref b6, .ref b7, .ref b8, .int (nI tn), .int xp, .int xr, .ref b9, .ref b10, .ref b11, .ref b12, .ref b13, .ref b14, .ref b15, .ref b16, .ref b17, .ref b18, .int ik, .ref b19, .ref b20, .ref b21, .ref b22, .ref b23, .ref b24, .ref b25])), (b1, .inl (Z.2 0, 5, .inl f1)), (b3, .inl (Z.2 0, 5, .inl f3)), (b4, .inl (Z.2 0, 5, .inl f4)), (b6, .inl (Z.2 0, 5, .inl (fun z => f12 (5 * t + z)))), (b7, .inl (Z.2 0, 5, .inl f4)), (b12, .inl (Z.2 0, 30, .inl (upd (upd (upd (upd (upd f12 ((nI ((5 * (t + 1)) + 0)).toNatClampNeg) ((fun z => f12 (5 * t + z)) 0)) ((nI ((5 * (t + 1)) + 1)).toNatClampNeg) ((fun z => f12 (5 * t + z)) 1)) ((nI ((5 * (t + 1)) + 2)).toNatClampNeg) ((fun z => f12 (5 * t + z)) 2)) ((nI ((5 * (t + 1)) + 3)).toNatClampNeg) ((fun z => f12 (5 * t + z)) 3)) ((nI ((5 * (t + 1)) + 4)).toNatClampNeg) ((fun z => f12 (5 * t + z)) 4)))), (b13, .inl (Z.2 0, 6, .inl f13))] H := hP
  have hD : va_D A [(h0, .inr (9, [.ref b1, .ref b2, .ref b3, .ref b4, .int (nI n), .ref b5, .int (nI pn), .ref b6, .ref b7, .ref b8, .int (nI tn), .int xp, .int xr, .ref b9, .ref b10, .ref b11, .ref b12, .ref b13, .ref b14, .ref b15, .ref b16, .ref b17, .ref b18, .int ik, .ref b19, .ref b20, .ref b21, .ref b22, .ref b23, .ref b24, .ref b25])), (b1, .inl (Z.2 0, 5, .inl f1)), (b3, .inl (Z.2 0, 5, .inl f3)), (b4, .inl (Z.2 0, 5, .inl f4)), (b6, .inl (Z.2 0, 5, .inl (fun z => f12 (5 * t + z)))), (b7, .inl (Z.2 0, 5, .inl f4)), (b12, .inl (Z.2 0, 30, .inl (upd (upd (upd (upd (upd f12 ((nI ((5 * (t + 1)) + 0)).toNatClampNeg) ((fun z => f12 (5 * t + z)) 0)) ((nI ((5 * (t + 1)) + 1)).toNatClampNeg) ((fun z => f12 (5 * t + z)) 1)) ((nI ((5 * (t + 1)) + 2)).toNatClampNeg) ((fun z => f12 (5 * t + z)) 2)) ((nI ((5 * (t + 1)) + 3)).toNatClampNeg) ((fun z => f12 (5 * t + z)) 3)) ((nI ((5 * (t + 1)) + 4)).toNatClampNeg) ((fun z => f12 (5 * t + z)) 4)))), (b13, .inl (Z.2 0, 6, .inl f13))] := hD
  refine lv_iinc (v := 5) (lv' := [(3, .int 5), (2, .int 1), (0, .ref h0), (1, .int (nI t))]) hx hb dX9_goTurn_109 hl (k := 0) rfl (by decide) (by decide) rfl (fun ls hl => ?_)
  refine lv_goto (tgt := 86) hx hb dX9_goTurn_112 (by decide) ?_
  refine lv_iload_n hx hb dX9_goTurn_86 rfl (lv_at hl 0 rfl) ?_
  refine lv_iconst (v := 5) hx hb dX9_goTurn_87 (by decide) ?_
  refine lv_icmp_ge (tgt := 115) hx hb dX9_goTurn_88 (by decide) (fun _ => ?_) (fun c9 => absurd c9 (by decide))
  refine lv_iload_n hx hb dX9_goTurn_115 rfl (lv_at hl 1 rfl) ?_
  have hP9 := hP.sub (ws' := [(h0, .inr (9, [.ref b1, .ref b2, .ref b3, .ref b4, .int (nI n), .ref b5, .int (nI pn), .ref b6, .ref b7, .ref b8, .int (nI tn), .int xp, .int xr, .ref b9, .ref b10, .ref b11, .ref b12, .ref b13, .ref b14, .ref b15, .ref b16, .ref b17, .ref b18, .int ik, .ref b19, .ref b20, .ref b21, .ref b22, .ref b23, .ref b24, .ref b25])), (b1, .inl (Z.2 0, 5, .inl f1)), (b3, .inl (Z.2 0, 5, .inl f3)), (b4, .inl (Z.2 0, 5, .inl f4)), (b6, .inl (Z.2 0, 5, .inl (fun z => f12 (5 * t + z)))), (b7, .inl (Z.2 0, 5, .inl f4)), (b12, .inl (Z.2 0, 30, .inl (upd (upd (upd (upd (upd f12 ((nI ((5 * (t + 1)) + 0)).toNatClampNeg) ((fun z => f12 (5 * t + z)) 0)) ((nI ((5 * (t + 1)) + 1)).toNatClampNeg) ((fun z => f12 (5 * t + z)) 1)) ((nI ((5 * (t + 1)) + 2)).toNatClampNeg) ((fun z => f12 (5 * t + z)) 2)) ((nI ((5 * (t + 1)) + 3)).toNatClampNeg) ((fun z => f12 (5 * t + z)) 3)) ((nI ((5 * (t + 1)) + 4)).toNatClampNeg) ((fun z => f12 (5 * t + z)) 4)))), (b13, .inl (Z.2 0, 6, .inl f13))]) [0, 1, 2, 3, 4, 5, 6, 7] rfl
  have hD9 := hD.sub (ws' := [(h0, .inr (9, [.ref b1, .ref b2, .ref b3, .ref b4, .int (nI n), .ref b5, .int (nI pn), .ref b6, .ref b7, .ref b8, .int (nI tn), .int xp, .int xr, .ref b9, .ref b10, .ref b11, .ref b12, .ref b13, .ref b14, .ref b15, .ref b16, .ref b17, .ref b18, .int ik, .ref b19, .ref b20, .ref b21, .ref b22, .ref b23, .ref b24, .ref b25])), (b1, .inl (Z.2 0, 5, .inl f1)), (b3, .inl (Z.2 0, 5, .inl f3)), (b4, .inl (Z.2 0, 5, .inl f4)), (b6, .inl (Z.2 0, 5, .inl (fun z => f12 (5 * t + z)))), (b7, .inl (Z.2 0, 5, .inl f4)), (b12, .inl (Z.2 0, 30, .inl (upd (upd (upd (upd (upd f12 ((nI ((5 * (t + 1)) + 0)).toNatClampNeg) ((fun z => f12 (5 * t + z)) 0)) ((nI ((5 * (t + 1)) + 1)).toNatClampNeg) ((fun z => f12 (5 * t + z)) 1)) ((nI ((5 * (t + 1)) + 2)).toNatClampNeg) ((fun z => f12 (5 * t + z)) 2)) ((nI ((5 * (t + 1)) + 3)).toNatClampNeg) ((fun z => f12 (5 * t + z)) 3)) ((nI ((5 * (t + 1)) + 4)).toNatClampNeg) ((fun z => f12 (5 * t + z)) 4)))), (b13, .inl (Z.2 0, 6, .inl f13))]) [0, 1, 2, 3, 4, 5, 6, 7] (by decide +kernel) rfl
  exact W.zret (v := 1) hx hb hr rfl (fun t9 ht hW => ⟨⟨1, ((fun z => f12 (5 * t + z)), f4, upd (upd (upd (upd (upd f12 ((nI ((5 * (t + 1)) + 0)).toNatClampNeg) ((fun z => f12 (5 * t + z)) 0)) ((nI ((5 * (t + 1)) + 1)).toNatClampNeg) ((fun z => f12 (5 * t + z)) 1)) ((nI ((5 * (t + 1)) + 2)).toNatClampNeg) ((fun z => f12 (5 * t + z)) 2)) ((nI ((5 * (t + 1)) + 3)).toNatClampNeg) ((fun z => f12 (5 * t + z)) 3)) ((nI ((5 * (t + 1)) + 4)).toNatClampNeg) ((fun z => f12 (5 * t + z)) 4)), rfl, ⟨rfl, fun z hz => z_row5a (g := (fun z => f12 (5 * t + z))) (p := 5 * (t + 1)) (by omega) hz, fun w hw => z_row5b (g := (fun z => f12 (5 * t + z))) (p := 5 * (t + 1)) (by omega) hw⟩, by rw [ht]; exact hP9, hD9⟩, hS.F ht⟩) hS.2.2 dX9_goTurn_116
set_option maxHeartbeats 4000000 in
set_option maxRecDepth 100000 in
theorem c_X9_goTurn_s (l : Launch) (Z : gZ) (sz : Nat) (h0 : Nat) (b1 : Nat) (b2 : Nat) (b3 : Nat) (b4 : Nat) (b5 : Nat) (b6 : Nat) (b7 : Nat) (b8 : Nat) (b9 : Nat) (b10 : Nat) (b11 : Nat) (b12 : Nat) (b13 : Nat) (b14 : Nat) (b15 : Nat) (b16 : Nat) (b17 : Nat) (b18 : Nat) (b19 : Nat) (b20 : Nat) (b21 : Nat) (b22 : Nat) (b23 : Nat) (b24 : Nat) (b25 : Nat) (n : Nat) (pn : Nat) (tn : Nat) (xp : Int32) (xr : Int32) (ik : Int32) (f1 : Nat → Int32) (f3 : Nat → Int32) (f4 : Nat → Int32) (f6 : Nat → Int32) (f7 : Nat → Int32) (f12 : Nat → Int32) (f13 : Nat → Int32) (t : Nat) (uu : Nat) (hn : n ≤ 5) (ht : t ≤ 4) (hv : f13 t = nI (uu + 1)) (hu : uu < n) : Met l yX9_goTurn wsX9_goTurn ({ frames := 2, cells := 0, slots := 0, locals := 46 }) (va_Pc [.ref h0, .int (nI t)] (fun U => U.heap.size = sz ∧ va_P Z.1 vwCl [(h0, .inr (9, [.ref b1, .ref b2, .ref b3, .ref b4, .int (nI n), .ref b5, .int (nI pn), .ref b6, .ref b7, .ref b8, .int (nI tn), .int xp, .int xr, .ref b9, .ref b10, .ref b11, .ref b12, .ref b13, .ref b14, .ref b15, .ref b16, .ref b17, .ref b18, .int ik, .ref b19, .ref b20, .ref b21, .ref b22, .ref b23, .ref b24, .ref b25])), (b1, .inl (Z.2 0, 5, .inl f1)), (b3, .inl (Z.2 0, 5, .inl f3)), (b4, .inl (Z.2 0, 5, .inl f4)), (b6, .inl (Z.2 0, 5, .inl f6)), (b7, .inl (Z.2 0, 5, .inl f7)), (b12, .inl (Z.2 0, 30, .inl f12)), (b13, .inl (Z.2 0, 6, .inl f13))] U.heap ∧ va_K Z.1 vwCl (gT Z) U ∧ va_D (fun _ => True) [(h0, .inr (9, [.ref b1, .ref b2, .ref b3, .ref b4, .int (nI n), .ref b5, .int (nI pn), .ref b6, .ref b7, .ref b8, .int (nI tn), .int xp, .int xr, .ref b9, .ref b10, .ref b11, .ref b12, .ref b13, .ref b14, .ref b15, .ref b16, .ref b17, .ref b18, .int ik, .ref b19, .ref b20, .ref b21, .ref b22, .ref b23, .ref b24, .ref b25])), (b1, .inl (Z.2 0, 5, .inl f1)), (b3, .inl (Z.2 0, 5, .inl f3)), (b4, .inl (Z.2 0, 5, .inl f4)), (b6, .inl (Z.2 0, 5, .inl f6)), (b7, .inl (Z.2 0, 5, .inl f7)), (b12, .inl (Z.2 0, 30, .inl f12)), (b13, .inl (Z.2 0, 6, .inl f13))])) (va_Qi (fun (r : Int32) (u : (Nat → Int32) × (Nat → Int32) × (Nat → Int32)) => match u with | (g6, g7, g12) => (∀ z, z < 5 * (t + 1) → g12 z = f12 z) ∧ ((r = 0 ∧ (nI uu = nI t ∨ q_X9_tryAsk_r f1 f3 (fun z => f12 (5 * t + z)) f4 (nI t) (nI uu) < 0)) ∨ (r = 1 ∧ ¬ nI uu = nI t ∧ ¬ q_X9_tryAsk_r f1 f3 (fun z => f12 (5 * t + z)) f4 (nI t) (nI uu) < 0 ∧ ∀ w, w < 5 → g12 (5 * (t + 1) + w) = q_X9_tryAsk_g6 f1 f3 (fun z => f12 (5 * t + z)) f4 (nI t) (nI uu) w))) (fun (u : (Nat → Int32) × (Nat → Int32) × (Nat → Int32)) (t9 : State) => match u with | (g6, g7, g12) => va_P Z.1 vwCl [(h0, .inr (9, [.ref b1, .ref b2, .ref b3, .ref b4, .int (nI n), .ref b5, .int (nI pn), .ref b6, .ref b7, .ref b8, .int (nI tn), .int xp, .int xr, .ref b9, .ref b10, .ref b11, .ref b12, .ref b13, .ref b14, .ref b15, .ref b16, .ref b17, .ref b18, .int ik, .ref b19, .ref b20, .ref b21, .ref b22, .ref b23, .ref b24, .ref b25])), (b1, .inl (Z.2 0, 5, .inl f1)), (b3, .inl (Z.2 0, 5, .inl f3)), (b4, .inl (Z.2 0, 5, .inl f4)), (b6, .inl (Z.2 0, 5, .inl g6)), (b7, .inl (Z.2 0, 5, .inl g7)), (b12, .inl (Z.2 0, 30, .inl g12)), (b13, .inl (Z.2 0, 6, .inl f13))] t9.heap ∧ va_D (va_A [(h0, .inr (9, [.ref b1, .ref b2, .ref b3, .ref b4, .int (nI n), .ref b5, .int (nI pn), .ref b6, .ref b7, .ref b8, .int (nI tn), .int xp, .int xr, .ref b9, .ref b10, .ref b11, .ref b12, .ref b13, .ref b14, .ref b15, .ref b16, .ref b17, .ref b18, .int ik, .ref b19, .ref b20, .ref b21, .ref b22, .ref b23, .ref b24, .ref b25])), (b1, .inl (Z.2 0, 5, .inl f1)), (b3, .inl (Z.2 0, 5, .inl f3)), (b4, .inl (Z.2 0, 5, .inl f4)), (b6, .inl (Z.2 0, 5, .inl f6)), (b7, .inl (Z.2 0, 5, .inl f7)), (b12, .inl (Z.2 0, 30, .inl f12)), (b13, .inl (Z.2 0, 6, .inl f13))] sz) [(h0, .inr (9, [.ref b1, .ref b2, .ref b3, .ref b4, .int (nI n), .ref b5, .int (nI pn), .ref b6, .ref b7, .ref b8, .int (nI tn), .int xp, .int xr, .ref b9, .ref b10, .ref b11, .ref b12, .ref b13, .ref b14, .ref b15, .ref b16, .ref b17, .ref b18, .int ik, .ref b19, .ref b20, .ref b21, .ref b22, .ref b23, .ref b24, .ref b25])), (b1, .inl (Z.2 0, 5, .inl f1)), (b3, .inl (Z.2 0, 5, .inl f3)), (b4, .inl (Z.2 0, 5, .inl f4)), (b6, .inl (Z.2 0, 5, .inl g6)), (b7, .inl (Z.2 0, 5, .inl g7)), (b12, .inl (Z.2 0, 30, .inl g12)), (b13, .inl (Z.2 0, 6, .inl f13))]) (va_A [(h0, .inr (9, [.ref b1, .ref b2, .ref b3, .ref b4, .int (nI n), .ref b5, .int (nI pn), .ref b6, .ref b7, .ref b8, .int (nI tn), .int xp, .int xr, .ref b9, .ref b10, .ref b11, .ref b12, .ref b13, .ref b14, .ref b15, .ref b16, .ref b17, .ref b18, .int ik, .ref b19, .ref b20, .ref b21, .ref b22, .ref b23, .ref b24, .ref b25])), (b1, .inl (Z.2 0, 5, .inl f1)), (b3, .inl (Z.2 0, 5, .inl f3)), (b4, .inl (Z.2 0, 5, .inl f4)), (b6, .inl (Z.2 0, 5, .inl f6)), (b7, .inl (Z.2 0, 5, .inl f7)), (b12, .inl (Z.2 0, 30, .inl f12)), (b13, .inl (Z.2 0, 6, .inl f13))] sz)) 0 0 (va_A [(h0, .inr (9, [.ref b1, .ref b2, .ref b3, .ref b4, .int (nI n), .ref b5, .int (nI pn), .ref b6, .ref b7, .ref b8, .int (nI tn), .int xp, .int xr, .ref b9, .ref b10, .ref b11, .ref b12, .ref b13, .ref b14, .ref b15, .ref b16, .ref b17, .ref b18, .int ik, .ref b19, .ref b20, .ref b21, .ref b22, .ref b23, .ref b24, .ref b25])), (b1, .inl (Z.2 0, 5, .inl f1)), (b3, .inl (Z.2 0, 5, .inl f3)), (b4, .inl (Z.2 0, 5, .inl f4)), (b6, .inl (Z.2 0, 5, .inl f6)), (b7, .inl (Z.2 0, 5, .inl f7)), (b12, .inl (Z.2 0, 30, .inl f12)), (b13, .inl (Z.2 0, 6, .inl f13))] sz) := by
  refine Met.ofW (cc := cX9_goTurn) (maxL := 4) (ret := (some .boolean)) (by decide) rfl ?_
  intro p e s m args below meth c s₁ B hml hv
  obtain ⟨rfl, hsz, hP, hK, hD0⟩ := hv
  have hx := B.exec
  have hb := B.bytes
  have hr := B.returns
  have hts := atoms_spec (ws := wsX9_goTurn) B.pre
  have hown : s.vm.findClass RX9 = some m.cls := findClass_of_methodNamed B.named
  have hlocks := B.notSynchronized
  subst hsz
  have hin9 : ∀ w ∈ wsX90, w ∈ wsX9_goTurn := fun w h9 => (List.mem_cons_of_mem _ (List.mem_append_right _ h9))
  have hD := hD0.self (sz := s.heap.size)
  generalize hAe : va_A [(h0, .inr (9, [.ref b1, .ref b2, .ref b3, .ref b4, .int (nI n), .ref b5, .int (nI pn), .ref b6, .ref b7, .ref b8, .int (nI tn), .int xp, .int xr, .ref b9, .ref b10, .ref b11, .ref b12, .ref b13, .ref b14, .ref b15, .ref b16, .ref b17, .ref b18, .int ik, .ref b19, .ref b20, .ref b21, .ref b22, .ref b23, .ref b24, .ref b25])), (b1, .inl (Z.2 0, 5, .inl f1)), (b3, .inl (Z.2 0, 5, .inl f3)), (b4, .inl (Z.2 0, 5, .inl f4)), (b6, .inl (Z.2 0, 5, .inl f6)), (b7, .inl (Z.2 0, 5, .inl f7)), (b12, .inl (Z.2 0, 30, .inl f12)), (b13, .inl (Z.2 0, 6, .inl f13))] s.heap.size = A at hD ⊢
  have hA : ∀ q : Nat, s.heap.size ≤ q → A q := fun q h => by rw [← hAe]; exact Or.inr h
  have hS : va_S A s.heap s.heap [] := va_S.rf
  have hP : va_P Z.1 vwCl [(h0, .inr (9, [.ref b1, .ref b2, .ref b3, .ref b4, .int (nI n), .ref b5, .int (nI pn), .ref b6, .ref b7, .ref b8, .int (nI tn), .int xp, .int xr, .ref b9, .ref b10, .ref b11, .ref b12, .ref b13, .ref b14, .ref b15, .ref b16, .ref b17, .ref b18, .int ik, .ref b19, .ref b20, .ref b21, .ref b22, .ref b23, .ref b24, .ref b25])), (b1, .inl (Z.2 0, 5, .inl f1)), (b3, .inl (Z.2 0, 5, .inl f3)), (b4, .inl (Z.2 0, 5, .inl f4)), (b6, .inl (Z.2 0, 5, .inl f6)), (b7, .inl (Z.2 0, 5, .inl f7)), (b12, .inl (Z.2 0, 30, .inl f12)), (b13, .inl (Z.2 0, 6, .inl f13))] s.heap := hP
  have hl := lv_entry ([.ref h0, .int (nI t)]) (n := 4) (Nat.le_of_ble_eq_true rfl)
  rw [lg_entry_eq]
  generalize (lg_sl ([.ref h0, .int (nI t)]) ++ List.replicate (4 - (lg_sl ([.ref h0, .int (nI t)])).length) Slot.unset).toArray = ls at hl ⊢
  have hl : lv_has ls 4 [(0, .ref h0), (1, .int (nI t))] := hl
  refine lv_iconst (v := 0) hx hb dX9_goTurn_0 (by decide) ?_
  refine lv_istore_n (lv' := [(2, .int 0), (0, .ref h0), (1, .int (nI t))]) hx hb dX9_goTurn_1 rfl hl (by decide) rfl (fun ls hl => ?_)
  refine lv_iload_n hx hb dX9_goTurn_2 rfl (lv_at hl 0 rfl) ?_
  refine lv_iconst (v := 5) hx hb dX9_goTurn_3 (by decide) ?_
  refine lv_icmp_ge (tgt := 41) hx hb dX9_goTurn_4 (by decide) (fun c9 => absurd c9 (by decide)) (fun _ => ?_)
  refine lv_aload_n hx hb dX9_goTurn_7 rfl (lv_at hl 1 rfl) ?_
  refine va_get (D := Z.1) (ci := 9) (v := .ref b6) (C := RX9) (T := TX9) (N := 31) hx hb hts hin9 hown hK hP 0 rfl rfl 7 (by decide) (hts (.fieldLink RX9 25 "HalfAskedModel" "purse" "[I") (List.mem_of_getElem? (i := 1) rfl)) (fun _ h9 => h9) rfl dX9_goTurn_8 ?_
  refine lv_iload_n hx hb dX9_goTurn_11 rfl (lv_at hl 0 rfl) ?_
  refine lv_aload_n hx hb dX9_goTurn_12 rfl (lv_at hl 1 rfl) ?_
  refine va_get (D := Z.1) (ci := 9) (v := .ref b12) (C := RX9) (T := TX9) (N := 31) hx hb hts hin9 hown hK hP 0 rfl rfl 16 (by decide) (hts (.fieldLink RX9 43 "HalfAskedModel" "ahead" "[I") (List.mem_of_getElem? (i := 2) rfl)) (fun _ h9 => h9) rfl dX9_goTurn_13 ?_
  refine lv_iconst (v := 5) hx hb dX9_goTurn_16 (by decide) ?_
  refine lv_iload_n hx hb dX9_goTurn_17 rfl (lv_at hl 2 rfl) ?_
  refine lv_imul hx hb dX9_goTurn_18 ?_
  refine lv_topi (fun f_1 ef_1 => ?_)
  obtain rfl : nI (5 * t) = f_1 := (ef_1.trans (pk_mul 5 t)).symm
  refine lv_iload_n hx hb dX9_goTurn_19 rfl (lv_at hl 0 rfl) ?_
  refine lv_iadd hx hb dX9_goTurn_20 ?_
  refine lv_topi (fun f_2 ef_2 => ?_)
  obtain rfl : nI ((5 * t) + 0) = f_2 := (ef_2.trans (nI_add (5 * t) 0)).symm
  refine va_iald hx hb hK hP 6 0 rfl rfl (vp_in_nI (by omega) (by decide)) dX9_goTurn_21 ?_
  refine lv_topi (fun f_3 ef_3 => ?_)
  obtain rfl : f12 (5 * t + 0) = f_3 := (ef_3.trans (by rw [nI_clamp (show 5 * t + 0 < 2 ^ 31 by omega)])).symm
  refine va_iast hx hb hK hP hD hS 4 0 rfl rfl (z_in (by decide)) dX9_goTurn_22 (fun H locs hP hD hS => ?_)
  have hP : va_P Z.1 vwCl [(h0, .inr (9, [.ref b1, .ref b2, .ref b3, .ref b4, .int (nI n), .ref b5, .int (nI pn), .ref b6, .ref b7, .ref b8, .int (nI tn), .int xp, .int xr, .ref b9, .ref b10, .ref b11, .ref b12, .ref b13, .ref b14, .ref b15, .ref b16, .ref b17, .ref b18, .int ik, .ref b19, .ref b20, .ref b21, .ref b22, .ref b23, .ref b24, .ref b25])), (b1, .inl (Z.2 0, 5, .inl f1)), (b3, .inl (Z.2 0, 5, .inl f3)), (b4, .inl (Z.2 0, 5, .inl f4)), (b6, .inl (Z.2 0, 5, .inl (upd f6 0 (f12 (5 * t + 0))))), (b7, .inl (Z.2 0, 5, .inl f7)), (b12, .inl (Z.2 0, 30, .inl f12)), (b13, .inl (Z.2 0, 6, .inl f13))] H := hP
  have hD : va_D A [(h0, .inr (9, [.ref b1, .ref b2, .ref b3, .ref b4, .int (nI n), .ref b5, .int (nI pn), .ref b6, .ref b7, .ref b8, .int (nI tn), .int xp, .int xr, .ref b9, .ref b10, .ref b11, .ref b12, .ref b13, .ref b14, .ref b15, .ref b16, .ref b17, .ref b18, .int ik, .ref b19, .ref b20, .ref b21, .ref b22, .ref b23, .ref b24, .ref b25])), (b1, .inl (Z.2 0, 5, .inl f1)), (b3, .inl (Z.2 0, 5, .inl f3)), (b4, .inl (Z.2 0, 5, .inl f4)), (b6, .inl (Z.2 0, 5, .inl (upd f6 0 (f12 (5 * t + 0))))), (b7, .inl (Z.2 0, 5, .inl f7)), (b12, .inl (Z.2 0, 30, .inl f12)), (b13, .inl (Z.2 0, 6, .inl f13))] := hD
  refine lv_aload_n hx hb dX9_goTurn_23 rfl (lv_at hl 1 rfl) ?_
  refine va_get (D := Z.1) (ci := 9) (v := .ref b7) (C := RX9) (T := TX9) (N := 31) hx hb hts hin9 hown hK hP 0 rfl rfl 8 (by decide) (hts (.fieldLink RX9 28 "HalfAskedModel" "done" "[I") (List.mem_of_getElem? (i := 3) rfl)) (fun _ h9 => h9) rfl dX9_goTurn_24 ?_
  refine lv_iload_n hx hb dX9_goTurn_27 rfl (lv_at hl 0 rfl) ?_
  refine lv_aload_n hx hb dX9_goTurn_28 rfl (lv_at hl 1 rfl) ?_
  refine va_get (D := Z.1) (ci := 9) (v := .ref b4) (C := RX9) (T := TX9) (N := 31) hx hb hts hin9 hown hK hP 0 rfl rfl 3 (by decide) (hts (.fieldLink RX9 19 "HalfAskedModel" "asked" "[I") (List.mem_of_getElem? (i := 4) rfl)) (fun _ h9 => h9) rfl dX9_goTurn_29 ?_
  refine lv_iload_n hx hb dX9_goTurn_32 rfl (lv_at hl 0 rfl) ?_
  refine va_iald hx hb hK hP 3 0 rfl rfl (z_in (by decide)) dX9_goTurn_33 ?_
  refine va_iast hx hb hK hP hD hS 5 0 rfl rfl (z_in (by decide)) dX9_goTurn_34 (fun H locs hP hD hS => ?_)
  have hP : va_P Z.1 vwCl [(h0, .inr (9, [.ref b1, .ref b2, .ref b3, .ref b4, .int (nI n), .ref b5, .int (nI pn), .ref b6, .ref b7, .ref b8, .int (nI tn), .int xp, .int xr, .ref b9, .ref b10, .ref b11, .ref b12, .ref b13, .ref b14, .ref b15, .ref b16, .ref b17, .ref b18, .int ik, .ref b19, .ref b20, .ref b21, .ref b22, .ref b23, .ref b24, .ref b25])), (b1, .inl (Z.2 0, 5, .inl f1)), (b3, .inl (Z.2 0, 5, .inl f3)), (b4, .inl (Z.2 0, 5, .inl f4)), (b6, .inl (Z.2 0, 5, .inl (upd f6 0 (f12 (5 * t + 0))))), (b7, .inl (Z.2 0, 5, .inl (upd f7 0 (f4 0)))), (b12, .inl (Z.2 0, 30, .inl f12)), (b13, .inl (Z.2 0, 6, .inl f13))] H := hP
  have hD : va_D A [(h0, .inr (9, [.ref b1, .ref b2, .ref b3, .ref b4, .int (nI n), .ref b5, .int (nI pn), .ref b6, .ref b7, .ref b8, .int (nI tn), .int xp, .int xr, .ref b9, .ref b10, .ref b11, .ref b12, .ref b13, .ref b14, .ref b15, .ref b16, .ref b17, .ref b18, .int ik, .ref b19, .ref b20, .ref b21, .ref b22, .ref b23, .ref b24, .ref b25])), (b1, .inl (Z.2 0, 5, .inl f1)), (b3, .inl (Z.2 0, 5, .inl f3)), (b4, .inl (Z.2 0, 5, .inl f4)), (b6, .inl (Z.2 0, 5, .inl (upd f6 0 (f12 (5 * t + 0))))), (b7, .inl (Z.2 0, 5, .inl (upd f7 0 (f4 0)))), (b12, .inl (Z.2 0, 30, .inl f12)), (b13, .inl (Z.2 0, 6, .inl f13))] := hD
  refine lv_iinc (v := 1) (lv' := [(2, .int 1), (0, .ref h0), (1, .int (nI t))]) hx hb dX9_goTurn_35 hl (k := 0) rfl (by decide) (by decide) rfl (fun ls hl => ?_)
  refine lv_goto (tgt := 2) hx hb dX9_goTurn_38 (by decide) ?_
  refine lv_iload_n hx hb dX9_goTurn_2 rfl (lv_at hl 0 rfl) ?_
  refine lv_iconst (v := 5) hx hb dX9_goTurn_3 (by decide) ?_
  refine lv_icmp_ge (tgt := 41) hx hb dX9_goTurn_4 (by decide) (fun c9 => absurd c9 (by decide)) (fun _ => ?_)
  refine lv_aload_n hx hb dX9_goTurn_7 rfl (lv_at hl 1 rfl) ?_
  refine va_get (D := Z.1) (ci := 9) (v := .ref b6) (C := RX9) (T := TX9) (N := 31) hx hb hts hin9 hown hK hP 0 rfl rfl 7 (by decide) (hts (.fieldLink RX9 25 "HalfAskedModel" "purse" "[I") (List.mem_of_getElem? (i := 1) rfl)) (fun _ h9 => h9) rfl dX9_goTurn_8 ?_
  refine lv_iload_n hx hb dX9_goTurn_11 rfl (lv_at hl 0 rfl) ?_
  refine lv_aload_n hx hb dX9_goTurn_12 rfl (lv_at hl 1 rfl) ?_
  refine va_get (D := Z.1) (ci := 9) (v := .ref b12) (C := RX9) (T := TX9) (N := 31) hx hb hts hin9 hown hK hP 0 rfl rfl 16 (by decide) (hts (.fieldLink RX9 43 "HalfAskedModel" "ahead" "[I") (List.mem_of_getElem? (i := 2) rfl)) (fun _ h9 => h9) rfl dX9_goTurn_13 ?_
  refine lv_iconst (v := 5) hx hb dX9_goTurn_16 (by decide) ?_
  refine lv_iload_n hx hb dX9_goTurn_17 rfl (lv_at hl 2 rfl) ?_
  refine lv_imul hx hb dX9_goTurn_18 ?_
  refine lv_topi (fun f_4 ef_4 => ?_)
  obtain rfl : nI (5 * t) = f_4 := (ef_4.trans (pk_mul 5 t)).symm
  refine lv_iload_n hx hb dX9_goTurn_19 rfl (lv_at hl 0 rfl) ?_
  refine lv_iadd hx hb dX9_goTurn_20 ?_
  refine lv_topi (fun f_5 ef_5 => ?_)
  obtain rfl : nI ((5 * t) + 1) = f_5 := (ef_5.trans (nI_1 _)).symm
  refine va_iald hx hb hK hP 6 0 rfl rfl (vp_in_nI (by omega) (by decide)) dX9_goTurn_21 ?_
  refine lv_topi (fun f_6 ef_6 => ?_)
  obtain rfl : f12 (5 * t + 1) = f_6 := (ef_6.trans (by rw [nI_clamp (show 5 * t + 1 < 2 ^ 31 by omega)])).symm
  refine va_iast hx hb hK hP hD hS 4 0 rfl rfl (z_in (by decide)) dX9_goTurn_22 (fun H locs hP hD hS => ?_)
  have hP : va_P Z.1 vwCl [(h0, .inr (9, [.ref b1, .ref b2, .ref b3, .ref b4, .int (nI n), .ref b5, .int (nI pn), .ref b6, .ref b7, .ref b8, .int (nI tn), .int xp, .int xr, .ref b9, .ref b10, .ref b11, .ref b12, .ref b13, .ref b14, .ref b15, .ref b16, .ref b17, .ref b18, .int ik, .ref b19, .ref b20, .ref b21, .ref b22, .ref b23, .ref b24, .ref b25])), (b1, .inl (Z.2 0, 5, .inl f1)), (b3, .inl (Z.2 0, 5, .inl f3)), (b4, .inl (Z.2 0, 5, .inl f4)), (b6, .inl (Z.2 0, 5, .inl (upd (upd f6 0 (f12 (5 * t + 0))) 1 (f12 (5 * t + 1))))), (b7, .inl (Z.2 0, 5, .inl (upd f7 0 (f4 0)))), (b12, .inl (Z.2 0, 30, .inl f12)), (b13, .inl (Z.2 0, 6, .inl f13))] H := hP
  have hD : va_D A [(h0, .inr (9, [.ref b1, .ref b2, .ref b3, .ref b4, .int (nI n), .ref b5, .int (nI pn), .ref b6, .ref b7, .ref b8, .int (nI tn), .int xp, .int xr, .ref b9, .ref b10, .ref b11, .ref b12, .ref b13, .ref b14, .ref b15, .ref b16, .ref b17, .ref b18, .int ik, .ref b19, .ref b20, .ref b21, .ref b22, .ref b23, .ref b24, .ref b25])), (b1, .inl (Z.2 0, 5, .inl f1)), (b3, .inl (Z.2 0, 5, .inl f3)), (b4, .inl (Z.2 0, 5, .inl f4)), (b6, .inl (Z.2 0, 5, .inl (upd (upd f6 0 (f12 (5 * t + 0))) 1 (f12 (5 * t + 1))))), (b7, .inl (Z.2 0, 5, .inl (upd f7 0 (f4 0)))), (b12, .inl (Z.2 0, 30, .inl f12)), (b13, .inl (Z.2 0, 6, .inl f13))] := hD
  refine lv_aload_n hx hb dX9_goTurn_23 rfl (lv_at hl 1 rfl) ?_
  refine va_get (D := Z.1) (ci := 9) (v := .ref b7) (C := RX9) (T := TX9) (N := 31) hx hb hts hin9 hown hK hP 0 rfl rfl 8 (by decide) (hts (.fieldLink RX9 28 "HalfAskedModel" "done" "[I") (List.mem_of_getElem? (i := 3) rfl)) (fun _ h9 => h9) rfl dX9_goTurn_24 ?_
  refine lv_iload_n hx hb dX9_goTurn_27 rfl (lv_at hl 0 rfl) ?_
  refine lv_aload_n hx hb dX9_goTurn_28 rfl (lv_at hl 1 rfl) ?_
  refine va_get (D := Z.1) (ci := 9) (v := .ref b4) (C := RX9) (T := TX9) (N := 31) hx hb hts hin9 hown hK hP 0 rfl rfl 3 (by decide) (hts (.fieldLink RX9 19 "HalfAskedModel" "asked" "[I") (List.mem_of_getElem? (i := 4) rfl)) (fun _ h9 => h9) rfl dX9_goTurn_29 ?_
  refine lv_iload_n hx hb dX9_goTurn_32 rfl (lv_at hl 0 rfl) ?_
  refine va_iald hx hb hK hP 3 0 rfl rfl (z_in (by decide)) dX9_goTurn_33 ?_
  refine va_iast hx hb hK hP hD hS 5 0 rfl rfl (z_in (by decide)) dX9_goTurn_34 (fun H locs hP hD hS => ?_)
  have hP : va_P Z.1 vwCl [(h0, .inr (9, [.ref b1, .ref b2, .ref b3, .ref b4, .int (nI n), .ref b5, .int (nI pn), .ref b6, .ref b7, .ref b8, .int (nI tn), .int xp, .int xr, .ref b9, .ref b10, .ref b11, .ref b12, .ref b13, .ref b14, .ref b15, .ref b16, .ref b17, .ref b18, .int ik, .ref b19, .ref b20, .ref b21, .ref b22, .ref b23, .ref b24, .ref b25])), (b1, .inl (Z.2 0, 5, .inl f1)), (b3, .inl (Z.2 0, 5, .inl f3)), (b4, .inl (Z.2 0, 5, .inl f4)), (b6, .inl (Z.2 0, 5, .inl (upd (upd f6 0 (f12 (5 * t + 0))) 1 (f12 (5 * t + 1))))), (b7, .inl (Z.2 0, 5, .inl (upd (upd f7 0 (f4 0)) 1 (f4 1)))), (b12, .inl (Z.2 0, 30, .inl f12)), (b13, .inl (Z.2 0, 6, .inl f13))] H := hP
  have hD : va_D A [(h0, .inr (9, [.ref b1, .ref b2, .ref b3, .ref b4, .int (nI n), .ref b5, .int (nI pn), .ref b6, .ref b7, .ref b8, .int (nI tn), .int xp, .int xr, .ref b9, .ref b10, .ref b11, .ref b12, .ref b13, .ref b14, .ref b15, .ref b16, .ref b17, .ref b18, .int ik, .ref b19, .ref b20, .ref b21, .ref b22, .ref b23, .ref b24, .ref b25])), (b1, .inl (Z.2 0, 5, .inl f1)), (b3, .inl (Z.2 0, 5, .inl f3)), (b4, .inl (Z.2 0, 5, .inl f4)), (b6, .inl (Z.2 0, 5, .inl (upd (upd f6 0 (f12 (5 * t + 0))) 1 (f12 (5 * t + 1))))), (b7, .inl (Z.2 0, 5, .inl (upd (upd f7 0 (f4 0)) 1 (f4 1)))), (b12, .inl (Z.2 0, 30, .inl f12)), (b13, .inl (Z.2 0, 6, .inl f13))] := hD
  refine lv_iinc (v := 2) (lv' := [(2, .int 2), (0, .ref h0), (1, .int (nI t))]) hx hb dX9_goTurn_35 hl (k := 0) rfl (by decide) (by decide) rfl (fun ls hl => ?_)
  refine lv_goto (tgt := 2) hx hb dX9_goTurn_38 (by decide) ?_
  refine lv_iload_n hx hb dX9_goTurn_2 rfl (lv_at hl 0 rfl) ?_
  refine lv_iconst (v := 5) hx hb dX9_goTurn_3 (by decide) ?_
  refine lv_icmp_ge (tgt := 41) hx hb dX9_goTurn_4 (by decide) (fun c9 => absurd c9 (by decide)) (fun _ => ?_)
  refine lv_aload_n hx hb dX9_goTurn_7 rfl (lv_at hl 1 rfl) ?_
  refine va_get (D := Z.1) (ci := 9) (v := .ref b6) (C := RX9) (T := TX9) (N := 31) hx hb hts hin9 hown hK hP 0 rfl rfl 7 (by decide) (hts (.fieldLink RX9 25 "HalfAskedModel" "purse" "[I") (List.mem_of_getElem? (i := 1) rfl)) (fun _ h9 => h9) rfl dX9_goTurn_8 ?_
  refine lv_iload_n hx hb dX9_goTurn_11 rfl (lv_at hl 0 rfl) ?_
  refine lv_aload_n hx hb dX9_goTurn_12 rfl (lv_at hl 1 rfl) ?_
  refine va_get (D := Z.1) (ci := 9) (v := .ref b12) (C := RX9) (T := TX9) (N := 31) hx hb hts hin9 hown hK hP 0 rfl rfl 16 (by decide) (hts (.fieldLink RX9 43 "HalfAskedModel" "ahead" "[I") (List.mem_of_getElem? (i := 2) rfl)) (fun _ h9 => h9) rfl dX9_goTurn_13 ?_
  refine lv_iconst (v := 5) hx hb dX9_goTurn_16 (by decide) ?_
  refine lv_iload_n hx hb dX9_goTurn_17 rfl (lv_at hl 2 rfl) ?_
  refine lv_imul hx hb dX9_goTurn_18 ?_
  refine lv_topi (fun f_7 ef_7 => ?_)
  obtain rfl : nI (5 * t) = f_7 := (ef_7.trans (pk_mul 5 t)).symm
  refine lv_iload_n hx hb dX9_goTurn_19 rfl (lv_at hl 0 rfl) ?_
  refine lv_iadd hx hb dX9_goTurn_20 ?_
  refine lv_topi (fun f_8 ef_8 => ?_)
  obtain rfl : nI ((5 * t) + 2) = f_8 := (ef_8.trans (nI_add (5 * t) 2)).symm
  refine va_iald hx hb hK hP 6 0 rfl rfl (vp_in_nI (by omega) (by decide)) dX9_goTurn_21 ?_
  refine lv_topi (fun f_9 ef_9 => ?_)
  obtain rfl : f12 (5 * t + 2) = f_9 := (ef_9.trans (by rw [nI_clamp (show 5 * t + 2 < 2 ^ 31 by omega)])).symm
  refine va_iast hx hb hK hP hD hS 4 0 rfl rfl (z_in (by decide)) dX9_goTurn_22 (fun H locs hP hD hS => ?_)
  have hP : va_P Z.1 vwCl [(h0, .inr (9, [.ref b1, .ref b2, .ref b3, .ref b4, .int (nI n), .ref b5, .int (nI pn), .ref b6, .ref b7, .ref b8, .int (nI tn), .int xp, .int xr, .ref b9, .ref b10, .ref b11, .ref b12, .ref b13, .ref b14, .ref b15, .ref b16, .ref b17, .ref b18, .int ik, .ref b19, .ref b20, .ref b21, .ref b22, .ref b23, .ref b24, .ref b25])), (b1, .inl (Z.2 0, 5, .inl f1)), (b3, .inl (Z.2 0, 5, .inl f3)), (b4, .inl (Z.2 0, 5, .inl f4)), (b6, .inl (Z.2 0, 5, .inl (upd (upd (upd f6 0 (f12 (5 * t + 0))) 1 (f12 (5 * t + 1))) 2 (f12 (5 * t + 2))))), (b7, .inl (Z.2 0, 5, .inl (upd (upd f7 0 (f4 0)) 1 (f4 1)))), (b12, .inl (Z.2 0, 30, .inl f12)), (b13, .inl (Z.2 0, 6, .inl f13))] H := hP
  have hD : va_D A [(h0, .inr (9, [.ref b1, .ref b2, .ref b3, .ref b4, .int (nI n), .ref b5, .int (nI pn), .ref b6, .ref b7, .ref b8, .int (nI tn), .int xp, .int xr, .ref b9, .ref b10, .ref b11, .ref b12, .ref b13, .ref b14, .ref b15, .ref b16, .ref b17, .ref b18, .int ik, .ref b19, .ref b20, .ref b21, .ref b22, .ref b23, .ref b24, .ref b25])), (b1, .inl (Z.2 0, 5, .inl f1)), (b3, .inl (Z.2 0, 5, .inl f3)), (b4, .inl (Z.2 0, 5, .inl f4)), (b6, .inl (Z.2 0, 5, .inl (upd (upd (upd f6 0 (f12 (5 * t + 0))) 1 (f12 (5 * t + 1))) 2 (f12 (5 * t + 2))))), (b7, .inl (Z.2 0, 5, .inl (upd (upd f7 0 (f4 0)) 1 (f4 1)))), (b12, .inl (Z.2 0, 30, .inl f12)), (b13, .inl (Z.2 0, 6, .inl f13))] := hD
  refine lv_aload_n hx hb dX9_goTurn_23 rfl (lv_at hl 1 rfl) ?_
  refine va_get (D := Z.1) (ci := 9) (v := .ref b7) (C := RX9) (T := TX9) (N := 31) hx hb hts hin9 hown hK hP 0 rfl rfl 8 (by decide) (hts (.fieldLink RX9 28 "HalfAskedModel" "done" "[I") (List.mem_of_getElem? (i := 3) rfl)) (fun _ h9 => h9) rfl dX9_goTurn_24 ?_
  refine lv_iload_n hx hb dX9_goTurn_27 rfl (lv_at hl 0 rfl) ?_
  refine lv_aload_n hx hb dX9_goTurn_28 rfl (lv_at hl 1 rfl) ?_
  refine va_get (D := Z.1) (ci := 9) (v := .ref b4) (C := RX9) (T := TX9) (N := 31) hx hb hts hin9 hown hK hP 0 rfl rfl 3 (by decide) (hts (.fieldLink RX9 19 "HalfAskedModel" "asked" "[I") (List.mem_of_getElem? (i := 4) rfl)) (fun _ h9 => h9) rfl dX9_goTurn_29 ?_
  refine lv_iload_n hx hb dX9_goTurn_32 rfl (lv_at hl 0 rfl) ?_
  refine va_iald hx hb hK hP 3 0 rfl rfl (z_in (by decide)) dX9_goTurn_33 ?_
  refine va_iast hx hb hK hP hD hS 5 0 rfl rfl (z_in (by decide)) dX9_goTurn_34 (fun H locs hP hD hS => ?_)
  have hP : va_P Z.1 vwCl [(h0, .inr (9, [.ref b1, .ref b2, .ref b3, .ref b4, .int (nI n), .ref b5, .int (nI pn), .ref b6, .ref b7, .ref b8, .int (nI tn), .int xp, .int xr, .ref b9, .ref b10, .ref b11, .ref b12, .ref b13, .ref b14, .ref b15, .ref b16, .ref b17, .ref b18, .int ik, .ref b19, .ref b20, .ref b21, .ref b22, .ref b23, .ref b24, .ref b25])), (b1, .inl (Z.2 0, 5, .inl f1)), (b3, .inl (Z.2 0, 5, .inl f3)), (b4, .inl (Z.2 0, 5, .inl f4)), (b6, .inl (Z.2 0, 5, .inl (upd (upd (upd f6 0 (f12 (5 * t + 0))) 1 (f12 (5 * t + 1))) 2 (f12 (5 * t + 2))))), (b7, .inl (Z.2 0, 5, .inl (upd (upd (upd f7 0 (f4 0)) 1 (f4 1)) 2 (f4 2)))), (b12, .inl (Z.2 0, 30, .inl f12)), (b13, .inl (Z.2 0, 6, .inl f13))] H := hP
  have hD : va_D A [(h0, .inr (9, [.ref b1, .ref b2, .ref b3, .ref b4, .int (nI n), .ref b5, .int (nI pn), .ref b6, .ref b7, .ref b8, .int (nI tn), .int xp, .int xr, .ref b9, .ref b10, .ref b11, .ref b12, .ref b13, .ref b14, .ref b15, .ref b16, .ref b17, .ref b18, .int ik, .ref b19, .ref b20, .ref b21, .ref b22, .ref b23, .ref b24, .ref b25])), (b1, .inl (Z.2 0, 5, .inl f1)), (b3, .inl (Z.2 0, 5, .inl f3)), (b4, .inl (Z.2 0, 5, .inl f4)), (b6, .inl (Z.2 0, 5, .inl (upd (upd (upd f6 0 (f12 (5 * t + 0))) 1 (f12 (5 * t + 1))) 2 (f12 (5 * t + 2))))), (b7, .inl (Z.2 0, 5, .inl (upd (upd (upd f7 0 (f4 0)) 1 (f4 1)) 2 (f4 2)))), (b12, .inl (Z.2 0, 30, .inl f12)), (b13, .inl (Z.2 0, 6, .inl f13))] := hD
  refine lv_iinc (v := 3) (lv' := [(2, .int 3), (0, .ref h0), (1, .int (nI t))]) hx hb dX9_goTurn_35 hl (k := 0) rfl (by decide) (by decide) rfl (fun ls hl => ?_)
  refine lv_goto (tgt := 2) hx hb dX9_goTurn_38 (by decide) ?_
  refine lv_iload_n hx hb dX9_goTurn_2 rfl (lv_at hl 0 rfl) ?_
  refine lv_iconst (v := 5) hx hb dX9_goTurn_3 (by decide) ?_
  refine lv_icmp_ge (tgt := 41) hx hb dX9_goTurn_4 (by decide) (fun c9 => absurd c9 (by decide)) (fun _ => ?_)
  refine lv_aload_n hx hb dX9_goTurn_7 rfl (lv_at hl 1 rfl) ?_
  refine va_get (D := Z.1) (ci := 9) (v := .ref b6) (C := RX9) (T := TX9) (N := 31) hx hb hts hin9 hown hK hP 0 rfl rfl 7 (by decide) (hts (.fieldLink RX9 25 "HalfAskedModel" "purse" "[I") (List.mem_of_getElem? (i := 1) rfl)) (fun _ h9 => h9) rfl dX9_goTurn_8 ?_
  refine lv_iload_n hx hb dX9_goTurn_11 rfl (lv_at hl 0 rfl) ?_
  refine lv_aload_n hx hb dX9_goTurn_12 rfl (lv_at hl 1 rfl) ?_
  refine va_get (D := Z.1) (ci := 9) (v := .ref b12) (C := RX9) (T := TX9) (N := 31) hx hb hts hin9 hown hK hP 0 rfl rfl 16 (by decide) (hts (.fieldLink RX9 43 "HalfAskedModel" "ahead" "[I") (List.mem_of_getElem? (i := 2) rfl)) (fun _ h9 => h9) rfl dX9_goTurn_13 ?_
  refine lv_iconst (v := 5) hx hb dX9_goTurn_16 (by decide) ?_
  refine lv_iload_n hx hb dX9_goTurn_17 rfl (lv_at hl 2 rfl) ?_
  refine lv_imul hx hb dX9_goTurn_18 ?_
  refine lv_topi (fun f_10 ef_10 => ?_)
  obtain rfl : nI (5 * t) = f_10 := (ef_10.trans (pk_mul 5 t)).symm
  refine lv_iload_n hx hb dX9_goTurn_19 rfl (lv_at hl 0 rfl) ?_
  refine lv_iadd hx hb dX9_goTurn_20 ?_
  refine lv_topi (fun f_11 ef_11 => ?_)
  obtain rfl : nI ((5 * t) + 3) = f_11 := (ef_11.trans (nI_add (5 * t) 3)).symm
  refine va_iald hx hb hK hP 6 0 rfl rfl (vp_in_nI (by omega) (by decide)) dX9_goTurn_21 ?_
  refine lv_topi (fun f_12 ef_12 => ?_)
  obtain rfl : f12 (5 * t + 3) = f_12 := (ef_12.trans (by rw [nI_clamp (show 5 * t + 3 < 2 ^ 31 by omega)])).symm
  refine va_iast hx hb hK hP hD hS 4 0 rfl rfl (z_in (by decide)) dX9_goTurn_22 (fun H locs hP hD hS => ?_)
  have hP : va_P Z.1 vwCl [(h0, .inr (9, [.ref b1, .ref b2, .ref b3, .ref b4, .int (nI n), .ref b5, .int (nI pn), .ref b6, .ref b7, .ref b8, .int (nI tn), .int xp, .int xr, .ref b9, .ref b10, .ref b11, .ref b12, .ref b13, .ref b14, .ref b15, .ref b16, .ref b17, .ref b18, .int ik, .ref b19, .ref b20, .ref b21, .ref b22, .ref b23, .ref b24, .ref b25])), (b1, .inl (Z.2 0, 5, .inl f1)), (b3, .inl (Z.2 0, 5, .inl f3)), (b4, .inl (Z.2 0, 5, .inl f4)), (b6, .inl (Z.2 0, 5, .inl (upd (upd (upd (upd f6 0 (f12 (5 * t + 0))) 1 (f12 (5 * t + 1))) 2 (f12 (5 * t + 2))) 3 (f12 (5 * t + 3))))), (b7, .inl (Z.2 0, 5, .inl (upd (upd (upd f7 0 (f4 0)) 1 (f4 1)) 2 (f4 2)))), (b12, .inl (Z.2 0, 30, .inl f12)), (b13, .inl (Z.2 0, 6, .inl f13))] H := hP
  have hD : va_D A [(h0, .inr (9, [.ref b1, .ref b2, .ref b3, .ref b4, .int (nI n), .ref b5, .int (nI pn), .ref b6, .ref b7, .ref b8, .int (nI tn), .int xp, .int xr, .ref b9, .ref b10, .ref b11, .ref b12, .ref b13, .ref b14, .ref b15, .ref b16, .ref b17, .ref b18, .int ik, .ref b19, .ref b20, .ref b21, .ref b22, .ref b23, .ref b24, .ref b25])), (b1, .inl (Z.2 0, 5, .inl f1)), (b3, .inl (Z.2 0, 5, .inl f3)), (b4, .inl (Z.2 0, 5, .inl f4)), (b6, .inl (Z.2 0, 5, .inl (upd (upd (upd (upd f6 0 (f12 (5 * t + 0))) 1 (f12 (5 * t + 1))) 2 (f12 (5 * t + 2))) 3 (f12 (5 * t + 3))))), (b7, .inl (Z.2 0, 5, .inl (upd (upd (upd f7 0 (f4 0)) 1 (f4 1)) 2 (f4 2)))), (b12, .inl (Z.2 0, 30, .inl f12)), (b13, .inl (Z.2 0, 6, .inl f13))] := hD
  refine lv_aload_n hx hb dX9_goTurn_23 rfl (lv_at hl 1 rfl) ?_
  refine va_get (D := Z.1) (ci := 9) (v := .ref b7) (C := RX9) (T := TX9) (N := 31) hx hb hts hin9 hown hK hP 0 rfl rfl 8 (by decide) (hts (.fieldLink RX9 28 "HalfAskedModel" "done" "[I") (List.mem_of_getElem? (i := 3) rfl)) (fun _ h9 => h9) rfl dX9_goTurn_24 ?_
  refine lv_iload_n hx hb dX9_goTurn_27 rfl (lv_at hl 0 rfl) ?_
  refine lv_aload_n hx hb dX9_goTurn_28 rfl (lv_at hl 1 rfl) ?_
  refine va_get (D := Z.1) (ci := 9) (v := .ref b4) (C := RX9) (T := TX9) (N := 31) hx hb hts hin9 hown hK hP 0 rfl rfl 3 (by decide) (hts (.fieldLink RX9 19 "HalfAskedModel" "asked" "[I") (List.mem_of_getElem? (i := 4) rfl)) (fun _ h9 => h9) rfl dX9_goTurn_29 ?_
  refine lv_iload_n hx hb dX9_goTurn_32 rfl (lv_at hl 0 rfl) ?_
  refine va_iald hx hb hK hP 3 0 rfl rfl (z_in (by decide)) dX9_goTurn_33 ?_
  refine va_iast hx hb hK hP hD hS 5 0 rfl rfl (z_in (by decide)) dX9_goTurn_34 (fun H locs hP hD hS => ?_)
  have hP : va_P Z.1 vwCl [(h0, .inr (9, [.ref b1, .ref b2, .ref b3, .ref b4, .int (nI n), .ref b5, .int (nI pn), .ref b6, .ref b7, .ref b8, .int (nI tn), .int xp, .int xr, .ref b9, .ref b10, .ref b11, .ref b12, .ref b13, .ref b14, .ref b15, .ref b16, .ref b17, .ref b18, .int ik, .ref b19, .ref b20, .ref b21, .ref b22, .ref b23, .ref b24, .ref b25])), (b1, .inl (Z.2 0, 5, .inl f1)), (b3, .inl (Z.2 0, 5, .inl f3)), (b4, .inl (Z.2 0, 5, .inl f4)), (b6, .inl (Z.2 0, 5, .inl (upd (upd (upd (upd f6 0 (f12 (5 * t + 0))) 1 (f12 (5 * t + 1))) 2 (f12 (5 * t + 2))) 3 (f12 (5 * t + 3))))), (b7, .inl (Z.2 0, 5, .inl (upd (upd (upd (upd f7 0 (f4 0)) 1 (f4 1)) 2 (f4 2)) 3 (f4 3)))), (b12, .inl (Z.2 0, 30, .inl f12)), (b13, .inl (Z.2 0, 6, .inl f13))] H := hP
  have hD : va_D A [(h0, .inr (9, [.ref b1, .ref b2, .ref b3, .ref b4, .int (nI n), .ref b5, .int (nI pn), .ref b6, .ref b7, .ref b8, .int (nI tn), .int xp, .int xr, .ref b9, .ref b10, .ref b11, .ref b12, .ref b13, .ref b14, .ref b15, .ref b16, .ref b17, .ref b18, .int ik, .ref b19, .ref b20, .ref b21, .ref b22, .ref b23, .ref b24, .ref b25])), (b1, .inl (Z.2 0, 5, .inl f1)), (b3, .inl (Z.2 0, 5, .inl f3)), (b4, .inl (Z.2 0, 5, .inl f4)), (b6, .inl (Z.2 0, 5, .inl (upd (upd (upd (upd f6 0 (f12 (5 * t + 0))) 1 (f12 (5 * t + 1))) 2 (f12 (5 * t + 2))) 3 (f12 (5 * t + 3))))), (b7, .inl (Z.2 0, 5, .inl (upd (upd (upd (upd f7 0 (f4 0)) 1 (f4 1)) 2 (f4 2)) 3 (f4 3)))), (b12, .inl (Z.2 0, 30, .inl f12)), (b13, .inl (Z.2 0, 6, .inl f13))] := hD
  refine lv_iinc (v := 4) (lv' := [(2, .int 4), (0, .ref h0), (1, .int (nI t))]) hx hb dX9_goTurn_35 hl (k := 0) rfl (by decide) (by decide) rfl (fun ls hl => ?_)
  refine lv_goto (tgt := 2) hx hb dX9_goTurn_38 (by decide) ?_
  refine lv_iload_n hx hb dX9_goTurn_2 rfl (lv_at hl 0 rfl) ?_
  refine lv_iconst (v := 5) hx hb dX9_goTurn_3 (by decide) ?_
  refine lv_icmp_ge (tgt := 41) hx hb dX9_goTurn_4 (by decide) (fun c9 => absurd c9 (by decide)) (fun _ => ?_)
  refine lv_aload_n hx hb dX9_goTurn_7 rfl (lv_at hl 1 rfl) ?_
  refine va_get (D := Z.1) (ci := 9) (v := .ref b6) (C := RX9) (T := TX9) (N := 31) hx hb hts hin9 hown hK hP 0 rfl rfl 7 (by decide) (hts (.fieldLink RX9 25 "HalfAskedModel" "purse" "[I") (List.mem_of_getElem? (i := 1) rfl)) (fun _ h9 => h9) rfl dX9_goTurn_8 ?_
  refine lv_iload_n hx hb dX9_goTurn_11 rfl (lv_at hl 0 rfl) ?_
  refine lv_aload_n hx hb dX9_goTurn_12 rfl (lv_at hl 1 rfl) ?_
  refine va_get (D := Z.1) (ci := 9) (v := .ref b12) (C := RX9) (T := TX9) (N := 31) hx hb hts hin9 hown hK hP 0 rfl rfl 16 (by decide) (hts (.fieldLink RX9 43 "HalfAskedModel" "ahead" "[I") (List.mem_of_getElem? (i := 2) rfl)) (fun _ h9 => h9) rfl dX9_goTurn_13 ?_
  refine lv_iconst (v := 5) hx hb dX9_goTurn_16 (by decide) ?_
  refine lv_iload_n hx hb dX9_goTurn_17 rfl (lv_at hl 2 rfl) ?_
  refine lv_imul hx hb dX9_goTurn_18 ?_
  refine lv_topi (fun f_13 ef_13 => ?_)
  obtain rfl : nI (5 * t) = f_13 := (ef_13.trans (pk_mul 5 t)).symm
  refine lv_iload_n hx hb dX9_goTurn_19 rfl (lv_at hl 0 rfl) ?_
  refine lv_iadd hx hb dX9_goTurn_20 ?_
  refine lv_topi (fun f_14 ef_14 => ?_)
  obtain rfl : nI ((5 * t) + 4) = f_14 := (ef_14.trans (nI_add (5 * t) 4)).symm
  refine va_iald hx hb hK hP 6 0 rfl rfl (vp_in_nI (by omega) (by decide)) dX9_goTurn_21 ?_
  refine lv_topi (fun f_15 ef_15 => ?_)
  obtain rfl : f12 (5 * t + 4) = f_15 := (ef_15.trans (by rw [nI_clamp (show 5 * t + 4 < 2 ^ 31 by omega)])).symm
  refine va_iast hx hb hK hP hD hS 4 0 rfl rfl (z_in (by decide)) dX9_goTurn_22 (fun H locs hP hD hS => ?_)
  have hP : va_P Z.1 vwCl [(h0, .inr (9, [.ref b1, .ref b2, .ref b3, .ref b4, .int (nI n), .ref b5, .int (nI pn), .ref b6, .ref b7, .ref b8, .int (nI tn), .int xp, .int xr, .ref b9, .ref b10, .ref b11, .ref b12, .ref b13, .ref b14, .ref b15, .ref b16, .ref b17, .ref b18, .int ik, .ref b19, .ref b20, .ref b21, .ref b22, .ref b23, .ref b24, .ref b25])), (b1, .inl (Z.2 0, 5, .inl f1)), (b3, .inl (Z.2 0, 5, .inl f3)), (b4, .inl (Z.2 0, 5, .inl f4)), (b6, .inl (Z.2 0, 5, .inl (upd (upd (upd (upd (upd f6 0 (f12 (5 * t + 0))) 1 (f12 (5 * t + 1))) 2 (f12 (5 * t + 2))) 3 (f12 (5 * t + 3))) 4 (f12 (5 * t + 4))))), (b7, .inl (Z.2 0, 5, .inl (upd (upd (upd (upd f7 0 (f4 0)) 1 (f4 1)) 2 (f4 2)) 3 (f4 3)))), (b12, .inl (Z.2 0, 30, .inl f12)), (b13, .inl (Z.2 0, 6, .inl f13))] H := hP
  have hD : va_D A [(h0, .inr (9, [.ref b1, .ref b2, .ref b3, .ref b4, .int (nI n), .ref b5, .int (nI pn), .ref b6, .ref b7, .ref b8, .int (nI tn), .int xp, .int xr, .ref b9, .ref b10, .ref b11, .ref b12, .ref b13, .ref b14, .ref b15, .ref b16, .ref b17, .ref b18, .int ik, .ref b19, .ref b20, .ref b21, .ref b22, .ref b23, .ref b24, .ref b25])), (b1, .inl (Z.2 0, 5, .inl f1)), (b3, .inl (Z.2 0, 5, .inl f3)), (b4, .inl (Z.2 0, 5, .inl f4)), (b6, .inl (Z.2 0, 5, .inl (upd (upd (upd (upd (upd f6 0 (f12 (5 * t + 0))) 1 (f12 (5 * t + 1))) 2 (f12 (5 * t + 2))) 3 (f12 (5 * t + 3))) 4 (f12 (5 * t + 4))))), (b7, .inl (Z.2 0, 5, .inl (upd (upd (upd (upd f7 0 (f4 0)) 1 (f4 1)) 2 (f4 2)) 3 (f4 3)))), (b12, .inl (Z.2 0, 30, .inl f12)), (b13, .inl (Z.2 0, 6, .inl f13))] := hD
  refine lv_aload_n hx hb dX9_goTurn_23 rfl (lv_at hl 1 rfl) ?_
  refine va_get (D := Z.1) (ci := 9) (v := .ref b7) (C := RX9) (T := TX9) (N := 31) hx hb hts hin9 hown hK hP 0 rfl rfl 8 (by decide) (hts (.fieldLink RX9 28 "HalfAskedModel" "done" "[I") (List.mem_of_getElem? (i := 3) rfl)) (fun _ h9 => h9) rfl dX9_goTurn_24 ?_
  refine lv_iload_n hx hb dX9_goTurn_27 rfl (lv_at hl 0 rfl) ?_
  refine lv_aload_n hx hb dX9_goTurn_28 rfl (lv_at hl 1 rfl) ?_
  refine va_get (D := Z.1) (ci := 9) (v := .ref b4) (C := RX9) (T := TX9) (N := 31) hx hb hts hin9 hown hK hP 0 rfl rfl 3 (by decide) (hts (.fieldLink RX9 19 "HalfAskedModel" "asked" "[I") (List.mem_of_getElem? (i := 4) rfl)) (fun _ h9 => h9) rfl dX9_goTurn_29 ?_
  refine lv_iload_n hx hb dX9_goTurn_32 rfl (lv_at hl 0 rfl) ?_
  refine va_iald hx hb hK hP 3 0 rfl rfl (z_in (by decide)) dX9_goTurn_33 ?_
  refine va_iast hx hb hK hP hD hS 5 0 rfl rfl (z_in (by decide)) dX9_goTurn_34 (fun H locs hP hD hS => ?_)
  have hP : va_P Z.1 vwCl [(h0, .inr (9, [.ref b1, .ref b2, .ref b3, .ref b4, .int (nI n), .ref b5, .int (nI pn), .ref b6, .ref b7, .ref b8, .int (nI tn), .int xp, .int xr, .ref b9, .ref b10, .ref b11, .ref b12, .ref b13, .ref b14, .ref b15, .ref b16, .ref b17, .ref b18, .int ik, .ref b19, .ref b20, .ref b21, .ref b22, .ref b23, .ref b24, .ref b25])), (b1, .inl (Z.2 0, 5, .inl f1)), (b3, .inl (Z.2 0, 5, .inl f3)), (b4, .inl (Z.2 0, 5, .inl f4)), (b6, .inl (Z.2 0, 5, .inl (upd (upd (upd (upd (upd f6 0 (f12 (5 * t + 0))) 1 (f12 (5 * t + 1))) 2 (f12 (5 * t + 2))) 3 (f12 (5 * t + 3))) 4 (f12 (5 * t + 4))))), (b7, .inl (Z.2 0, 5, .inl (upd (upd (upd (upd (upd f7 0 (f4 0)) 1 (f4 1)) 2 (f4 2)) 3 (f4 3)) 4 (f4 4)))), (b12, .inl (Z.2 0, 30, .inl f12)), (b13, .inl (Z.2 0, 6, .inl f13))] H := hP
  have hD : va_D A [(h0, .inr (9, [.ref b1, .ref b2, .ref b3, .ref b4, .int (nI n), .ref b5, .int (nI pn), .ref b6, .ref b7, .ref b8, .int (nI tn), .int xp, .int xr, .ref b9, .ref b10, .ref b11, .ref b12, .ref b13, .ref b14, .ref b15, .ref b16, .ref b17, .ref b18, .int ik, .ref b19, .ref b20, .ref b21, .ref b22, .ref b23, .ref b24, .ref b25])), (b1, .inl (Z.2 0, 5, .inl f1)), (b3, .inl (Z.2 0, 5, .inl f3)), (b4, .inl (Z.2 0, 5, .inl f4)), (b6, .inl (Z.2 0, 5, .inl (upd (upd (upd (upd (upd f6 0 (f12 (5 * t + 0))) 1 (f12 (5 * t + 1))) 2 (f12 (5 * t + 2))) 3 (f12 (5 * t + 3))) 4 (f12 (5 * t + 4))))), (b7, .inl (Z.2 0, 5, .inl (upd (upd (upd (upd (upd f7 0 (f4 0)) 1 (f4 1)) 2 (f4 2)) 3 (f4 3)) 4 (f4 4)))), (b12, .inl (Z.2 0, 30, .inl f12)), (b13, .inl (Z.2 0, 6, .inl f13))] := hD
  refine lv_iinc (v := 5) (lv' := [(2, .int 5), (0, .ref h0), (1, .int (nI t))]) hx hb dX9_goTurn_35 hl (k := 0) rfl (by decide) (by decide) rfl (fun ls hl => ?_)
  refine lv_goto (tgt := 2) hx hb dX9_goTurn_38 (by decide) ?_
  refine lv_iload_n hx hb dX9_goTurn_2 rfl (lv_at hl 0 rfl) ?_
  refine lv_iconst (v := 5) hx hb dX9_goTurn_3 (by decide) ?_
  refine lv_icmp_ge (tgt := 41) hx hb dX9_goTurn_4 (by decide) (fun _ => ?_) (fun c9 => absurd c9 (by decide))
  have hP := z_PXi (g := (fun z => f12 (5 * t + z))) 4 rfl (fun j9 hj9 => z_five (g := fun z => f12 (5 * t + z)) hj9) hP
  have hD := z_DXi (g := (fun z => f12 (5 * t + z))) 4 rfl hD
  have hP : va_P Z.1 vwCl [(h0, .inr (9, [.ref b1, .ref b2, .ref b3, .ref b4, .int (nI n), .ref b5, .int (nI pn), .ref b6, .ref b7, .ref b8, .int (nI tn), .int xp, .int xr, .ref b9, .ref b10, .ref b11, .ref b12, .ref b13, .ref b14, .ref b15, .ref b16, .ref b17, .ref b18, .int ik, .ref b19, .ref b20, .ref b21, .ref b22, .ref b23, .ref b24, .ref b25])), (b1, .inl (Z.2 0, 5, .inl f1)), (b3, .inl (Z.2 0, 5, .inl f3)), (b4, .inl (Z.2 0, 5, .inl f4)), (b6, .inl (Z.2 0, 5, .inl (fun z => f12 (5 * t + z)))), (b7, .inl (Z.2 0, 5, .inl (upd (upd (upd (upd (upd f7 0 (f4 0)) 1 (f4 1)) 2 (f4 2)) 3 (f4 3)) 4 (f4 4)))), (b12, .inl (Z.2 0, 30, .inl f12)), (b13, .inl (Z.2 0, 6, .inl f13))] H := hP
  have hD : va_D A [(h0, .inr (9, [.ref b1, .ref b2, .ref b3, .ref b4, .int (nI n), .ref b5, .int (nI pn), .ref b6, .ref b7, .ref b8, .int (nI tn), .int xp, .int xr, .ref b9, .ref b10, .ref b11, .ref b12, .ref b13, .ref b14, .ref b15, .ref b16, .ref b17, .ref b18, .int ik, .ref b19, .ref b20, .ref b21, .ref b22, .ref b23, .ref b24, .ref b25])), (b1, .inl (Z.2 0, 5, .inl f1)), (b3, .inl (Z.2 0, 5, .inl f3)), (b4, .inl (Z.2 0, 5, .inl f4)), (b6, .inl (Z.2 0, 5, .inl (fun z => f12 (5 * t + z)))), (b7, .inl (Z.2 0, 5, .inl (upd (upd (upd (upd (upd f7 0 (f4 0)) 1 (f4 1)) 2 (f4 2)) 3 (f4 3)) 4 (f4 4)))), (b12, .inl (Z.2 0, 30, .inl f12)), (b13, .inl (Z.2 0, 6, .inl f13))] := hD
  have hP := z_PXi (g := f4) 5 rfl (fun j9 hj9 => z_five hj9) hP
  have hD := z_DXi (g := f4) 5 rfl hD
  have hP : va_P Z.1 vwCl [(h0, .inr (9, [.ref b1, .ref b2, .ref b3, .ref b4, .int (nI n), .ref b5, .int (nI pn), .ref b6, .ref b7, .ref b8, .int (nI tn), .int xp, .int xr, .ref b9, .ref b10, .ref b11, .ref b12, .ref b13, .ref b14, .ref b15, .ref b16, .ref b17, .ref b18, .int ik, .ref b19, .ref b20, .ref b21, .ref b22, .ref b23, .ref b24, .ref b25])), (b1, .inl (Z.2 0, 5, .inl f1)), (b3, .inl (Z.2 0, 5, .inl f3)), (b4, .inl (Z.2 0, 5, .inl f4)), (b6, .inl (Z.2 0, 5, .inl (fun z => f12 (5 * t + z)))), (b7, .inl (Z.2 0, 5, .inl f4)), (b12, .inl (Z.2 0, 30, .inl f12)), (b13, .inl (Z.2 0, 6, .inl f13))] H := hP
  have hD : va_D A [(h0, .inr (9, [.ref b1, .ref b2, .ref b3, .ref b4, .int (nI n), .ref b5, .int (nI pn), .ref b6, .ref b7, .ref b8, .int (nI tn), .int xp, .int xr, .ref b9, .ref b10, .ref b11, .ref b12, .ref b13, .ref b14, .ref b15, .ref b16, .ref b17, .ref b18, .int ik, .ref b19, .ref b20, .ref b21, .ref b22, .ref b23, .ref b24, .ref b25])), (b1, .inl (Z.2 0, 5, .inl f1)), (b3, .inl (Z.2 0, 5, .inl f3)), (b4, .inl (Z.2 0, 5, .inl f4)), (b6, .inl (Z.2 0, 5, .inl (fun z => f12 (5 * t + z)))), (b7, .inl (Z.2 0, 5, .inl f4)), (b12, .inl (Z.2 0, 30, .inl f12)), (b13, .inl (Z.2 0, 6, .inl f13))] := hD
  refine lv_aload_n hx hb dX9_goTurn_41 rfl (lv_at hl 1 rfl) ?_
  refine va_get (D := Z.1) (ci := 9) (v := .ref b13) (C := RX9) (T := TX9) (N := 31) hx hb hts hin9 hown hK hP 0 rfl rfl 17 (by decide) (hts (.fieldLink RX9 46 "HalfAskedModel" "tried" "[I") (List.mem_of_getElem? (i := 5) rfl)) (fun _ h9 => h9) rfl dX9_goTurn_42 ?_
  refine lv_iload_n hx hb dX9_goTurn_45 rfl (lv_at hl 2 rfl) ?_
  refine va_iald hx hb hK hP 7 0 rfl rfl (vp_in_nI (by omega) (by decide)) dX9_goTurn_46 ?_
  refine lv_topi (fun f_16 ef_16 => ?_)
  obtain rfl : nI (uu + 1) = f_16 := (ef_16.trans (by rw [nI_clamp (by omega)]; exact hv)).symm
  refine lv_if_eq (tgt := 78) hx hb dX9_goTurn_47 (by decide) (fun c9 => absurd c9 ((show ¬ nI (uu + 1) = (0 : Int32) from fun z => absurd ((nI_eq (b := 0) (by omega) (by decide)).mp z) (by omega)))) (fun _ => ?_)
  refine lv_aload_n hx hb dX9_goTurn_50 rfl (lv_at hl 1 rfl) ?_
  refine va_get (D := Z.1) (ci := 9) (v := .ref b13) (C := RX9) (T := TX9) (N := 31) hx hb hts hin9 hown hK hP 0 rfl rfl 17 (by decide) (hts (.fieldLink RX9 46 "HalfAskedModel" "tried" "[I") (List.mem_of_getElem? (i := 5) rfl)) (fun _ h9 => h9) rfl dX9_goTurn_51 ?_
  refine lv_iload_n hx hb dX9_goTurn_54 rfl (lv_at hl 2 rfl) ?_
  refine va_iald hx hb hK hP 7 0 rfl rfl (vp_in_nI (by omega) (by decide)) dX9_goTurn_55 ?_
  refine lv_topi (fun f_17 ef_17 => ?_)
  obtain rfl : nI (uu + 1) = f_17 := (ef_17.trans (by rw [nI_clamp (by omega)]; exact hv)).symm
  refine lv_iconst (v := 1) hx hb dX9_goTurn_56 (by decide) ?_
  refine lv_isub hx hb dX9_goTurn_57 ?_
  refine lv_topi (fun f_18 ef_18 => ?_)
  obtain rfl : nI uu = f_18 := (ef_18.trans (nI_pred _)).symm
  refine lv_iload_n hx hb dX9_goTurn_58 rfl (lv_at hl 2 rfl) ?_
  refine lv_icmp_eq (tgt := 82) hx hb dX9_goTurn_59 (by decide) (fun c_19 => ?_) (fun c_19 => ?_)
  · refine lv_iconst (v := 0) hx hb dX9_goTurn_82 (by decide) ?_
    refine lv_istore_n (lv' := [(2, .int 0), (0, .ref h0), (1, .int (nI t))]) hx hb dX9_goTurn_83 rfl hl (by decide) rfl (fun ls hl => ?_)
    refine lv_iconst (v := 0) hx hb dX9_goTurn_84 (by decide) ?_
    refine lv_istore_n (lv' := [(3, .int 0), (2, .int 0), (0, .ref h0), (1, .int (nI t))]) hx hb dX9_goTurn_85 rfl hl (by decide) rfl (fun ls hl => ?_)
    refine lv_iload_n hx hb dX9_goTurn_86 rfl (lv_at hl 0 rfl) ?_
    refine lv_iconst (v := 5) hx hb dX9_goTurn_87 (by decide) ?_
    refine lv_icmp_ge (tgt := 115) hx hb dX9_goTurn_88 (by decide) (fun c9 => absurd c9 (by decide)) (fun _ => ?_)
    refine lv_aload_n hx hb dX9_goTurn_91 rfl (lv_at hl 2 rfl) ?_
    refine va_get (D := Z.1) (ci := 9) (v := .ref b12) (C := RX9) (T := TX9) (N := 31) hx hb hts hin9 hown hK hP 0 rfl rfl 16 (by decide) (hts (.fieldLink RX9 43 "HalfAskedModel" "ahead" "[I") (List.mem_of_getElem? (i := 2) rfl)) (fun _ h9 => h9) rfl dX9_goTurn_92 ?_
    refine lv_iconst (v := 5) hx hb dX9_goTurn_95 (by decide) ?_
    refine lv_iload_n hx hb dX9_goTurn_96 rfl (lv_at hl 3 rfl) ?_
    refine lv_iconst (v := 1) hx hb dX9_goTurn_97 (by decide) ?_
    refine lv_iadd hx hb dX9_goTurn_98 ?_
    refine lv_topi (fun f_20 ef_20 => ?_)
    obtain rfl : nI (t + 1) = f_20 := (ef_20.trans (nI_1 _)).symm
    refine lv_imul hx hb dX9_goTurn_99 ?_
    refine lv_topi (fun f_21 ef_21 => ?_)
    obtain rfl : nI (5 * (t + 1)) = f_21 := (ef_21.trans (pk_mul 5 (t + 1))).symm
    refine lv_iload_n hx hb dX9_goTurn_100 rfl (lv_at hl 0 rfl) ?_
    refine lv_iadd hx hb dX9_goTurn_101 ?_
    refine lv_topi (fun f_22 ef_22 => ?_)
    obtain rfl : nI ((5 * (t + 1)) + 0) = f_22 := (ef_22.trans (nI_add (5 * (t + 1)) 0)).symm
    refine lv_aload_n hx hb dX9_goTurn_102 rfl (lv_at hl 2 rfl) ?_
    refine va_get (D := Z.1) (ci := 9) (v := .ref b6) (C := RX9) (T := TX9) (N := 31) hx hb hts hin9 hown hK hP 0 rfl rfl 7 (by decide) (hts (.fieldLink RX9 25 "HalfAskedModel" "purse" "[I") (List.mem_of_getElem? (i := 1) rfl)) (fun _ h9 => h9) rfl dX9_goTurn_103 ?_
    refine lv_iload_n hx hb dX9_goTurn_106 rfl (lv_at hl 0 rfl) ?_
    refine va_iald hx hb hK hP 4 0 rfl rfl (z_in (by decide)) dX9_goTurn_107 ?_
    refine va_iast hx hb hK hP hD hS 6 0 rfl rfl (vp_in_nI (by omega) (by decide)) dX9_goTurn_108 (fun H locs hP hD hS => ?_)
    have hP : va_P Z.1 vwCl [(h0, .inr (9, [.ref b1, .ref b2, .ref b3, .ref b4, .int (nI n), .ref b5, .int (nI pn), .ref b6, .ref b7, .ref b8, .int (nI tn), .int xp, .int xr, .ref b9, .ref b10, .ref b11, .ref b12, .ref b13, .ref b14, .ref b15, .ref b16, .ref b17, .ref b18, .int ik, .ref b19, .ref b20, .ref b21, .ref b22, .ref b23, .ref b24, .ref b25])), (b1, .inl (Z.2 0, 5, .inl f1)), (b3, .inl (Z.2 0, 5, .inl f3)), (b4, .inl (Z.2 0, 5, .inl f4)), (b6, .inl (Z.2 0, 5, .inl (fun z => f12 (5 * t + z)))), (b7, .inl (Z.2 0, 5, .inl f4)), (b12, .inl (Z.2 0, 30, .inl (upd f12 ((nI ((5 * (t + 1)) + 0)).toNatClampNeg) ((fun z => f12 (5 * t + z)) 0)))), (b13, .inl (Z.2 0, 6, .inl f13))] H := hP
    have hD : va_D A [(h0, .inr (9, [.ref b1, .ref b2, .ref b3, .ref b4, .int (nI n), .ref b5, .int (nI pn), .ref b6, .ref b7, .ref b8, .int (nI tn), .int xp, .int xr, .ref b9, .ref b10, .ref b11, .ref b12, .ref b13, .ref b14, .ref b15, .ref b16, .ref b17, .ref b18, .int ik, .ref b19, .ref b20, .ref b21, .ref b22, .ref b23, .ref b24, .ref b25])), (b1, .inl (Z.2 0, 5, .inl f1)), (b3, .inl (Z.2 0, 5, .inl f3)), (b4, .inl (Z.2 0, 5, .inl f4)), (b6, .inl (Z.2 0, 5, .inl (fun z => f12 (5 * t + z)))), (b7, .inl (Z.2 0, 5, .inl f4)), (b12, .inl (Z.2 0, 30, .inl (upd f12 ((nI ((5 * (t + 1)) + 0)).toNatClampNeg) ((fun z => f12 (5 * t + z)) 0)))), (b13, .inl (Z.2 0, 6, .inl f13))] := hD
    refine lv_iinc (v := 1) (lv' := [(3, .int 1), (2, .int 0), (0, .ref h0), (1, .int (nI t))]) hx hb dX9_goTurn_109 hl (k := 0) rfl (by decide) (by decide) rfl (fun ls hl => ?_)
    refine lv_goto (tgt := 86) hx hb dX9_goTurn_112 (by decide) ?_
    refine lv_iload_n hx hb dX9_goTurn_86 rfl (lv_at hl 0 rfl) ?_
    refine lv_iconst (v := 5) hx hb dX9_goTurn_87 (by decide) ?_
    refine lv_icmp_ge (tgt := 115) hx hb dX9_goTurn_88 (by decide) (fun c9 => absurd c9 (by decide)) (fun _ => ?_)
    refine lv_aload_n hx hb dX9_goTurn_91 rfl (lv_at hl 2 rfl) ?_
    refine va_get (D := Z.1) (ci := 9) (v := .ref b12) (C := RX9) (T := TX9) (N := 31) hx hb hts hin9 hown hK hP 0 rfl rfl 16 (by decide) (hts (.fieldLink RX9 43 "HalfAskedModel" "ahead" "[I") (List.mem_of_getElem? (i := 2) rfl)) (fun _ h9 => h9) rfl dX9_goTurn_92 ?_
    refine lv_iconst (v := 5) hx hb dX9_goTurn_95 (by decide) ?_
    refine lv_iload_n hx hb dX9_goTurn_96 rfl (lv_at hl 3 rfl) ?_
    refine lv_iconst (v := 1) hx hb dX9_goTurn_97 (by decide) ?_
    refine lv_iadd hx hb dX9_goTurn_98 ?_
    refine lv_topi (fun f_23 ef_23 => ?_)
    obtain rfl : nI (t + 1) = f_23 := (ef_23.trans (nI_1 _)).symm
    refine lv_imul hx hb dX9_goTurn_99 ?_
    refine lv_topi (fun f_24 ef_24 => ?_)
    obtain rfl : nI (5 * (t + 1)) = f_24 := (ef_24.trans (pk_mul 5 (t + 1))).symm
    refine lv_iload_n hx hb dX9_goTurn_100 rfl (lv_at hl 0 rfl) ?_
    refine lv_iadd hx hb dX9_goTurn_101 ?_
    refine lv_topi (fun f_25 ef_25 => ?_)
    obtain rfl : nI ((5 * (t + 1)) + 1) = f_25 := (ef_25.trans (nI_1 _)).symm
    refine lv_aload_n hx hb dX9_goTurn_102 rfl (lv_at hl 2 rfl) ?_
    refine va_get (D := Z.1) (ci := 9) (v := .ref b6) (C := RX9) (T := TX9) (N := 31) hx hb hts hin9 hown hK hP 0 rfl rfl 7 (by decide) (hts (.fieldLink RX9 25 "HalfAskedModel" "purse" "[I") (List.mem_of_getElem? (i := 1) rfl)) (fun _ h9 => h9) rfl dX9_goTurn_103 ?_
    refine lv_iload_n hx hb dX9_goTurn_106 rfl (lv_at hl 0 rfl) ?_
    refine va_iald hx hb hK hP 4 0 rfl rfl (z_in (by decide)) dX9_goTurn_107 ?_
    refine va_iast hx hb hK hP hD hS 6 0 rfl rfl (vp_in_nI (by omega) (by decide)) dX9_goTurn_108 (fun H locs hP hD hS => ?_)
    have hP : va_P Z.1 vwCl [(h0, .inr (9, [.ref b1, .ref b2, .ref b3, .ref b4, .int (nI n), .ref b5, .int (nI pn), .ref b6, .ref b7, .ref b8, .int (nI tn), .int xp, .int xr, .ref b9, .ref b10, .ref b11, .ref b12, .ref b13, .ref b14, .ref b15, .ref b16, .ref b17, .ref b18, .int ik, .ref b19, .ref b20, .ref b21, .ref b22, .ref b23, .ref b24, .ref b25])), (b1, .inl (Z.2 0, 5, .inl f1)), (b3, .inl (Z.2 0, 5, .inl f3)), (b4, .inl (Z.2 0, 5, .inl f4)), (b6, .inl (Z.2 0, 5, .inl (fun z => f12 (5 * t + z)))), (b7, .inl (Z.2 0, 5, .inl f4)), (b12, .inl (Z.2 0, 30, .inl (upd (upd f12 ((nI ((5 * (t + 1)) + 0)).toNatClampNeg) ((fun z => f12 (5 * t + z)) 0)) ((nI ((5 * (t + 1)) + 1)).toNatClampNeg) ((fun z => f12 (5 * t + z)) 1)))), (b13, .inl (Z.2 0, 6, .inl f13))] H := hP
    have hD : va_D A [(h0, .inr (9, [.ref b1, .ref b2, .ref b3, .ref b4, .int (nI n), .ref b5, .int (nI pn), .ref b6, .ref b7, .ref b8, .int (nI tn), .int xp, .int xr, .ref b9, .ref b10, .ref b11, .ref b12, .ref b13, .ref b14, .ref b15, .ref b16, .ref b17, .ref b18, .int ik, .ref b19, .ref b20, .ref b21, .ref b22, .ref b23, .ref b24, .ref b25])), (b1, .inl (Z.2 0, 5, .inl f1)), (b3, .inl (Z.2 0, 5, .inl f3)), (b4, .inl (Z.2 0, 5, .inl f4)), (b6, .inl (Z.2 0, 5, .inl (fun z => f12 (5 * t + z)))), (b7, .inl (Z.2 0, 5, .inl f4)), (b12, .inl (Z.2 0, 30, .inl (upd (upd f12 ((nI ((5 * (t + 1)) + 0)).toNatClampNeg) ((fun z => f12 (5 * t + z)) 0)) ((nI ((5 * (t + 1)) + 1)).toNatClampNeg) ((fun z => f12 (5 * t + z)) 1)))), (b13, .inl (Z.2 0, 6, .inl f13))] := hD
    refine lv_iinc (v := 2) (lv' := [(3, .int 2), (2, .int 0), (0, .ref h0), (1, .int (nI t))]) hx hb dX9_goTurn_109 hl (k := 0) rfl (by decide) (by decide) rfl (fun ls hl => ?_)
    refine lv_goto (tgt := 86) hx hb dX9_goTurn_112 (by decide) ?_
    refine lv_iload_n hx hb dX9_goTurn_86 rfl (lv_at hl 0 rfl) ?_
    refine lv_iconst (v := 5) hx hb dX9_goTurn_87 (by decide) ?_
    refine lv_icmp_ge (tgt := 115) hx hb dX9_goTurn_88 (by decide) (fun c9 => absurd c9 (by decide)) (fun _ => ?_)
    refine lv_aload_n hx hb dX9_goTurn_91 rfl (lv_at hl 2 rfl) ?_
    refine va_get (D := Z.1) (ci := 9) (v := .ref b12) (C := RX9) (T := TX9) (N := 31) hx hb hts hin9 hown hK hP 0 rfl rfl 16 (by decide) (hts (.fieldLink RX9 43 "HalfAskedModel" "ahead" "[I") (List.mem_of_getElem? (i := 2) rfl)) (fun _ h9 => h9) rfl dX9_goTurn_92 ?_
    refine lv_iconst (v := 5) hx hb dX9_goTurn_95 (by decide) ?_
    refine lv_iload_n hx hb dX9_goTurn_96 rfl (lv_at hl 3 rfl) ?_
    refine lv_iconst (v := 1) hx hb dX9_goTurn_97 (by decide) ?_
    refine lv_iadd hx hb dX9_goTurn_98 ?_
    refine lv_topi (fun f_26 ef_26 => ?_)
    obtain rfl : nI (t + 1) = f_26 := (ef_26.trans (nI_1 _)).symm
    refine lv_imul hx hb dX9_goTurn_99 ?_
    refine lv_topi (fun f_27 ef_27 => ?_)
    obtain rfl : nI (5 * (t + 1)) = f_27 := (ef_27.trans (pk_mul 5 (t + 1))).symm
    refine lv_iload_n hx hb dX9_goTurn_100 rfl (lv_at hl 0 rfl) ?_
    refine lv_iadd hx hb dX9_goTurn_101 ?_
    refine lv_topi (fun f_28 ef_28 => ?_)
    obtain rfl : nI ((5 * (t + 1)) + 2) = f_28 := (ef_28.trans (nI_add (5 * (t + 1)) 2)).symm
    refine lv_aload_n hx hb dX9_goTurn_102 rfl (lv_at hl 2 rfl) ?_
    refine va_get (D := Z.1) (ci := 9) (v := .ref b6) (C := RX9) (T := TX9) (N := 31) hx hb hts hin9 hown hK hP 0 rfl rfl 7 (by decide) (hts (.fieldLink RX9 25 "HalfAskedModel" "purse" "[I") (List.mem_of_getElem? (i := 1) rfl)) (fun _ h9 => h9) rfl dX9_goTurn_103 ?_
    refine lv_iload_n hx hb dX9_goTurn_106 rfl (lv_at hl 0 rfl) ?_
    refine va_iald hx hb hK hP 4 0 rfl rfl (z_in (by decide)) dX9_goTurn_107 ?_
    refine va_iast hx hb hK hP hD hS 6 0 rfl rfl (vp_in_nI (by omega) (by decide)) dX9_goTurn_108 (fun H locs hP hD hS => ?_)
    have hP : va_P Z.1 vwCl [(h0, .inr (9, [.ref b1, .ref b2, .ref b3, .ref b4, .int (nI n), .ref b5, .int (nI pn), .ref b6, .ref b7, .ref b8, .int (nI tn), .int xp, .int xr, .ref b9, .ref b10, .ref b11, .ref b12, .ref b13, .ref b14, .ref b15, .ref b16, .ref b17, .ref b18, .int ik, .ref b19, .ref b20, .ref b21, .ref b22, .ref b23, .ref b24, .ref b25])), (b1, .inl (Z.2 0, 5, .inl f1)), (b3, .inl (Z.2 0, 5, .inl f3)), (b4, .inl (Z.2 0, 5, .inl f4)), (b6, .inl (Z.2 0, 5, .inl (fun z => f12 (5 * t + z)))), (b7, .inl (Z.2 0, 5, .inl f4)), (b12, .inl (Z.2 0, 30, .inl (upd (upd (upd f12 ((nI ((5 * (t + 1)) + 0)).toNatClampNeg) ((fun z => f12 (5 * t + z)) 0)) ((nI ((5 * (t + 1)) + 1)).toNatClampNeg) ((fun z => f12 (5 * t + z)) 1)) ((nI ((5 * (t + 1)) + 2)).toNatClampNeg) ((fun z => f12 (5 * t + z)) 2)))), (b13, .inl (Z.2 0, 6, .inl f13))] H := hP
    have hD : va_D A [(h0, .inr (9, [.ref b1, .ref b2, .ref b3, .ref b4, .int (nI n), .ref b5, .int (nI pn), .ref b6, .ref b7, .ref b8, .int (nI tn), .int xp, .int xr, .ref b9, .ref b10, .ref b11, .ref b12, .ref b13, .ref b14, .ref b15, .ref b16, .ref b17, .ref b18, .int ik, .ref b19, .ref b20, .ref b21, .ref b22, .ref b23, .ref b24, .ref b25])), (b1, .inl (Z.2 0, 5, .inl f1)), (b3, .inl (Z.2 0, 5, .inl f3)), (b4, .inl (Z.2 0, 5, .inl f4)), (b6, .inl (Z.2 0, 5, .inl (fun z => f12 (5 * t + z)))), (b7, .inl (Z.2 0, 5, .inl f4)), (b12, .inl (Z.2 0, 30, .inl (upd (upd (upd f12 ((nI ((5 * (t + 1)) + 0)).toNatClampNeg) ((fun z => f12 (5 * t + z)) 0)) ((nI ((5 * (t + 1)) + 1)).toNatClampNeg) ((fun z => f12 (5 * t + z)) 1)) ((nI ((5 * (t + 1)) + 2)).toNatClampNeg) ((fun z => f12 (5 * t + z)) 2)))), (b13, .inl (Z.2 0, 6, .inl f13))] := hD
    refine lv_iinc (v := 3) (lv' := [(3, .int 3), (2, .int 0), (0, .ref h0), (1, .int (nI t))]) hx hb dX9_goTurn_109 hl (k := 0) rfl (by decide) (by decide) rfl (fun ls hl => ?_)
    refine lv_goto (tgt := 86) hx hb dX9_goTurn_112 (by decide) ?_
    refine lv_iload_n hx hb dX9_goTurn_86 rfl (lv_at hl 0 rfl) ?_
    refine lv_iconst (v := 5) hx hb dX9_goTurn_87 (by decide) ?_
    refine lv_icmp_ge (tgt := 115) hx hb dX9_goTurn_88 (by decide) (fun c9 => absurd c9 (by decide)) (fun _ => ?_)
    refine lv_aload_n hx hb dX9_goTurn_91 rfl (lv_at hl 2 rfl) ?_
    refine va_get (D := Z.1) (ci := 9) (v := .ref b12) (C := RX9) (T := TX9) (N := 31) hx hb hts hin9 hown hK hP 0 rfl rfl 16 (by decide) (hts (.fieldLink RX9 43 "HalfAskedModel" "ahead" "[I") (List.mem_of_getElem? (i := 2) rfl)) (fun _ h9 => h9) rfl dX9_goTurn_92 ?_
    refine lv_iconst (v := 5) hx hb dX9_goTurn_95 (by decide) ?_
    refine lv_iload_n hx hb dX9_goTurn_96 rfl (lv_at hl 3 rfl) ?_
    refine lv_iconst (v := 1) hx hb dX9_goTurn_97 (by decide) ?_
    refine lv_iadd hx hb dX9_goTurn_98 ?_
    refine lv_topi (fun f_29 ef_29 => ?_)
    obtain rfl : nI (t + 1) = f_29 := (ef_29.trans (nI_1 _)).symm
    refine lv_imul hx hb dX9_goTurn_99 ?_
    refine lv_topi (fun f_30 ef_30 => ?_)
    obtain rfl : nI (5 * (t + 1)) = f_30 := (ef_30.trans (pk_mul 5 (t + 1))).symm
    refine lv_iload_n hx hb dX9_goTurn_100 rfl (lv_at hl 0 rfl) ?_
    refine lv_iadd hx hb dX9_goTurn_101 ?_
    refine lv_topi (fun f_31 ef_31 => ?_)
    obtain rfl : nI ((5 * (t + 1)) + 3) = f_31 := (ef_31.trans (nI_add (5 * (t + 1)) 3)).symm
    refine lv_aload_n hx hb dX9_goTurn_102 rfl (lv_at hl 2 rfl) ?_
    refine va_get (D := Z.1) (ci := 9) (v := .ref b6) (C := RX9) (T := TX9) (N := 31) hx hb hts hin9 hown hK hP 0 rfl rfl 7 (by decide) (hts (.fieldLink RX9 25 "HalfAskedModel" "purse" "[I") (List.mem_of_getElem? (i := 1) rfl)) (fun _ h9 => h9) rfl dX9_goTurn_103 ?_
    refine lv_iload_n hx hb dX9_goTurn_106 rfl (lv_at hl 0 rfl) ?_
    refine va_iald hx hb hK hP 4 0 rfl rfl (z_in (by decide)) dX9_goTurn_107 ?_
    refine va_iast hx hb hK hP hD hS 6 0 rfl rfl (vp_in_nI (by omega) (by decide)) dX9_goTurn_108 (fun H locs hP hD hS => ?_)
    have hP : va_P Z.1 vwCl [(h0, .inr (9, [.ref b1, .ref b2, .ref b3, .ref b4, .int (nI n), .ref b5, .int (nI pn), .ref b6, .ref b7, .ref b8, .int (nI tn), .int xp, .int xr, .ref b9, .ref b10, .ref b11, .ref b12, .ref b13, .ref b14, .ref b15, .ref b16, .ref b17, .ref b18, .int ik, .ref b19, .ref b20, .ref b21, .ref b22, .ref b23, .ref b24, .ref b25])), (b1, .inl (Z.2 0, 5, .inl f1)), (b3, .inl (Z.2 0, 5, .inl f3)), (b4, .inl (Z.2 0, 5, .inl f4)), (b6, .inl (Z.2 0, 5, .inl (fun z => f12 (5 * t + z)))), (b7, .inl (Z.2 0, 5, .inl f4)), (b12, .inl (Z.2 0, 30, .inl (upd (upd (upd (upd f12 ((nI ((5 * (t + 1)) + 0)).toNatClampNeg) ((fun z => f12 (5 * t + z)) 0)) ((nI ((5 * (t + 1)) + 1)).toNatClampNeg) ((fun z => f12 (5 * t + z)) 1)) ((nI ((5 * (t + 1)) + 2)).toNatClampNeg) ((fun z => f12 (5 * t + z)) 2)) ((nI ((5 * (t + 1)) + 3)).toNatClampNeg) ((fun z => f12 (5 * t + z)) 3)))), (b13, .inl (Z.2 0, 6, .inl f13))] H := hP
    have hD : va_D A [(h0, .inr (9, [.ref b1, .ref b2, .ref b3, .ref b4, .int (nI n), .ref b5, .int (nI pn), .ref b6, .ref b7, .ref b8, .int (nI tn), .int xp, .int xr, .ref b9, .ref b10, .ref b11, .ref b12, .ref b13, .ref b14, .ref b15, .ref b16, .ref b17, .ref b18, .int ik, .ref b19, .ref b20, .ref b21, .ref b22, .ref b23, .ref b24, .ref b25])), (b1, .inl (Z.2 0, 5, .inl f1)), (b3, .inl (Z.2 0, 5, .inl f3)), (b4, .inl (Z.2 0, 5, .inl f4)), (b6, .inl (Z.2 0, 5, .inl (fun z => f12 (5 * t + z)))), (b7, .inl (Z.2 0, 5, .inl f4)), (b12, .inl (Z.2 0, 30, .inl (upd (upd (upd (upd f12 ((nI ((5 * (t + 1)) + 0)).toNatClampNeg) ((fun z => f12 (5 * t + z)) 0)) ((nI ((5 * (t + 1)) + 1)).toNatClampNeg) ((fun z => f12 (5 * t + z)) 1)) ((nI ((5 * (t + 1)) + 2)).toNatClampNeg) ((fun z => f12 (5 * t + z)) 2)) ((nI ((5 * (t + 1)) + 3)).toNatClampNeg) ((fun z => f12 (5 * t + z)) 3)))), (b13, .inl (Z.2 0, 6, .inl f13))] := hD
    refine lv_iinc (v := 4) (lv' := [(3, .int 4), (2, .int 0), (0, .ref h0), (1, .int (nI t))]) hx hb dX9_goTurn_109 hl (k := 0) rfl (by decide) (by decide) rfl (fun ls hl => ?_)
    refine lv_goto (tgt := 86) hx hb dX9_goTurn_112 (by decide) ?_
    refine lv_iload_n hx hb dX9_goTurn_86 rfl (lv_at hl 0 rfl) ?_
    refine lv_iconst (v := 5) hx hb dX9_goTurn_87 (by decide) ?_
    refine lv_icmp_ge (tgt := 115) hx hb dX9_goTurn_88 (by decide) (fun c9 => absurd c9 (by decide)) (fun _ => ?_)
    refine lv_aload_n hx hb dX9_goTurn_91 rfl (lv_at hl 2 rfl) ?_
    refine va_get (D := Z.1) (ci := 9) (v := .ref b12) (C := RX9) (T := TX9) (N := 31) hx hb hts hin9 hown hK hP 0 rfl rfl 16 (by decide) (hts (.fieldLink RX9 43 "HalfAskedModel" "ahead" "[I") (List.mem_of_getElem? (i := 2) rfl)) (fun _ h9 => h9) rfl dX9_goTurn_92 ?_
    refine lv_iconst (v := 5) hx hb dX9_goTurn_95 (by decide) ?_
    refine lv_iload_n hx hb dX9_goTurn_96 rfl (lv_at hl 3 rfl) ?_
    refine lv_iconst (v := 1) hx hb dX9_goTurn_97 (by decide) ?_
    refine lv_iadd hx hb dX9_goTurn_98 ?_
    refine lv_topi (fun f_32 ef_32 => ?_)
    obtain rfl : nI (t + 1) = f_32 := (ef_32.trans (nI_1 _)).symm
    refine lv_imul hx hb dX9_goTurn_99 ?_
    refine lv_topi (fun f_33 ef_33 => ?_)
    obtain rfl : nI (5 * (t + 1)) = f_33 := (ef_33.trans (pk_mul 5 (t + 1))).symm
    refine lv_iload_n hx hb dX9_goTurn_100 rfl (lv_at hl 0 rfl) ?_
    refine lv_iadd hx hb dX9_goTurn_101 ?_
    refine lv_topi (fun f_34 ef_34 => ?_)
    obtain rfl : nI ((5 * (t + 1)) + 4) = f_34 := (ef_34.trans (nI_add (5 * (t + 1)) 4)).symm
    refine lv_aload_n hx hb dX9_goTurn_102 rfl (lv_at hl 2 rfl) ?_
    refine va_get (D := Z.1) (ci := 9) (v := .ref b6) (C := RX9) (T := TX9) (N := 31) hx hb hts hin9 hown hK hP 0 rfl rfl 7 (by decide) (hts (.fieldLink RX9 25 "HalfAskedModel" "purse" "[I") (List.mem_of_getElem? (i := 1) rfl)) (fun _ h9 => h9) rfl dX9_goTurn_103 ?_
    refine lv_iload_n hx hb dX9_goTurn_106 rfl (lv_at hl 0 rfl) ?_
    refine va_iald hx hb hK hP 4 0 rfl rfl (z_in (by decide)) dX9_goTurn_107 ?_
    refine va_iast hx hb hK hP hD hS 6 0 rfl rfl (vp_in_nI (by omega) (by decide)) dX9_goTurn_108 (fun H locs hP hD hS => ?_)
    have hP : va_P Z.1 vwCl [(h0, .inr (9, [.ref b1, .ref b2, .ref b3, .ref b4, .int (nI n), .ref b5, .int (nI pn), .ref b6, .ref b7, .ref b8, .int (nI tn), .int xp, .int xr, .ref b9, .ref b10, .ref b11, .ref b12, .ref b13, .ref b14, .ref b15, .ref b16, .ref b17, .ref b18, .int ik, .ref b19, .ref b20, .ref b21, .ref b22, .ref b23, .ref b24, .ref b25])), (b1, .inl (Z.2 0, 5, .inl f1)), (b3, .inl (Z.2 0, 5, .inl f3)), (b4, .inl (Z.2 0, 5, .inl f4)), (b6, .inl (Z.2 0, 5, .inl (fun z => f12 (5 * t + z)))), (b7, .inl (Z.2 0, 5, .inl f4)), (b12, .inl (Z.2 0, 30, .inl (upd (upd (upd (upd (upd f12 ((nI ((5 * (t + 1)) + 0)).toNatClampNeg) ((fun z => f12 (5 * t + z)) 0)) ((nI ((5 * (t + 1)) + 1)).toNatClampNeg) ((fun z => f12 (5 * t + z)) 1)) ((nI ((5 * (t + 1)) + 2)).toNatClampNeg) ((fun z => f12 (5 * t + z)) 2)) ((nI ((5 * (t + 1)) + 3)).toNatClampNeg) ((fun z => f12 (5 * t + z)) 3)) ((nI ((5 * (t + 1)) + 4)).toNatClampNeg) ((fun z => f12 (5 * t + z)) 4)))), (b13, .inl (Z.2 0, 6, .inl f13))] H := hP
    have hD : va_D A [(h0, .inr (9, [.ref b1, .ref b2, .ref b3, .ref b4, .int (nI n), .ref b5, .int (nI pn), .ref b6, .ref b7, .ref b8, .int (nI tn), .int xp, .int xr, .ref b9, .ref b10, .ref b11, .ref b12, .ref b13, .ref b14, .ref b15, .ref b16, .ref b17, .ref b18, .int ik, .ref b19, .ref b20, .ref b21, .ref b22, .ref b23, .ref b24, .ref b25])), (b1, .inl (Z.2 0, 5, .inl f1)), (b3, .inl (Z.2 0, 5, .inl f3)), (b4, .inl (Z.2 0, 5, .inl f4)), (b6, .inl (Z.2 0, 5, .inl (fun z => f12 (5 * t + z)))), (b7, .inl (Z.2 0, 5, .inl f4)), (b12, .inl (Z.2 0, 30, .inl (upd (upd (upd (upd (upd f12 ((nI ((5 * (t + 1)) + 0)).toNatClampNeg) ((fun z => f12 (5 * t + z)) 0)) ((nI ((5 * (t + 1)) + 1)).toNatClampNeg) ((fun z => f12 (5 * t + z)) 1)) ((nI ((5 * (t + 1)) + 2)).toNatClampNeg) ((fun z => f12 (5 * t + z)) 2)) ((nI ((5 * (t + 1)) + 3)).toNatClampNeg) ((fun z => f12 (5 * t + z)) 3)) ((nI ((5 * (t + 1)) + 4)).toNatClampNeg) ((fun z => f12 (5 * t + z)) 4)))), (b13, .inl (Z.2 0, 6, .inl f13))] := hD
    refine lv_iinc (v := 5) (lv' := [(3, .int 5), (2, .int 0), (0, .ref h0), (1, .int (nI t))]) hx hb dX9_goTurn_109 hl (k := 0) rfl (by decide) (by decide) rfl (fun ls hl => ?_)
    refine lv_goto (tgt := 86) hx hb dX9_goTurn_112 (by decide) ?_
    refine lv_iload_n hx hb dX9_goTurn_86 rfl (lv_at hl 0 rfl) ?_
    refine lv_iconst (v := 5) hx hb dX9_goTurn_87 (by decide) ?_
    refine lv_icmp_ge (tgt := 115) hx hb dX9_goTurn_88 (by decide) (fun _ => ?_) (fun c9 => absurd c9 (by decide))
    refine lv_iload_n hx hb dX9_goTurn_115 rfl (lv_at hl 1 rfl) ?_
    have hP9 := hP.sub (ws' := [(h0, .inr (9, [.ref b1, .ref b2, .ref b3, .ref b4, .int (nI n), .ref b5, .int (nI pn), .ref b6, .ref b7, .ref b8, .int (nI tn), .int xp, .int xr, .ref b9, .ref b10, .ref b11, .ref b12, .ref b13, .ref b14, .ref b15, .ref b16, .ref b17, .ref b18, .int ik, .ref b19, .ref b20, .ref b21, .ref b22, .ref b23, .ref b24, .ref b25])), (b1, .inl (Z.2 0, 5, .inl f1)), (b3, .inl (Z.2 0, 5, .inl f3)), (b4, .inl (Z.2 0, 5, .inl f4)), (b6, .inl (Z.2 0, 5, .inl (fun z => f12 (5 * t + z)))), (b7, .inl (Z.2 0, 5, .inl f4)), (b12, .inl (Z.2 0, 30, .inl (upd (upd (upd (upd (upd f12 ((nI ((5 * (t + 1)) + 0)).toNatClampNeg) ((fun z => f12 (5 * t + z)) 0)) ((nI ((5 * (t + 1)) + 1)).toNatClampNeg) ((fun z => f12 (5 * t + z)) 1)) ((nI ((5 * (t + 1)) + 2)).toNatClampNeg) ((fun z => f12 (5 * t + z)) 2)) ((nI ((5 * (t + 1)) + 3)).toNatClampNeg) ((fun z => f12 (5 * t + z)) 3)) ((nI ((5 * (t + 1)) + 4)).toNatClampNeg) ((fun z => f12 (5 * t + z)) 4)))), (b13, .inl (Z.2 0, 6, .inl f13))]) [0, 1, 2, 3, 4, 5, 6, 7] rfl
    have hD9 := hD.sub (ws' := [(h0, .inr (9, [.ref b1, .ref b2, .ref b3, .ref b4, .int (nI n), .ref b5, .int (nI pn), .ref b6, .ref b7, .ref b8, .int (nI tn), .int xp, .int xr, .ref b9, .ref b10, .ref b11, .ref b12, .ref b13, .ref b14, .ref b15, .ref b16, .ref b17, .ref b18, .int ik, .ref b19, .ref b20, .ref b21, .ref b22, .ref b23, .ref b24, .ref b25])), (b1, .inl (Z.2 0, 5, .inl f1)), (b3, .inl (Z.2 0, 5, .inl f3)), (b4, .inl (Z.2 0, 5, .inl f4)), (b6, .inl (Z.2 0, 5, .inl (fun z => f12 (5 * t + z)))), (b7, .inl (Z.2 0, 5, .inl f4)), (b12, .inl (Z.2 0, 30, .inl (upd (upd (upd (upd (upd f12 ((nI ((5 * (t + 1)) + 0)).toNatClampNeg) ((fun z => f12 (5 * t + z)) 0)) ((nI ((5 * (t + 1)) + 1)).toNatClampNeg) ((fun z => f12 (5 * t + z)) 1)) ((nI ((5 * (t + 1)) + 2)).toNatClampNeg) ((fun z => f12 (5 * t + z)) 2)) ((nI ((5 * (t + 1)) + 3)).toNatClampNeg) ((fun z => f12 (5 * t + z)) 3)) ((nI ((5 * (t + 1)) + 4)).toNatClampNeg) ((fun z => f12 (5 * t + z)) 4)))), (b13, .inl (Z.2 0, 6, .inl f13))]) [0, 1, 2, 3, 4, 5, 6, 7] (by decide +kernel) rfl
    exact W.zret (v := 0) hx hb hr rfl (fun t9 ht hW => ⟨⟨0, ((fun z => f12 (5 * t + z)), f4, upd (upd (upd (upd (upd f12 ((nI ((5 * (t + 1)) + 0)).toNatClampNeg) ((fun z => f12 (5 * t + z)) 0)) ((nI ((5 * (t + 1)) + 1)).toNatClampNeg) ((fun z => f12 (5 * t + z)) 1)) ((nI ((5 * (t + 1)) + 2)).toNatClampNeg) ((fun z => f12 (5 * t + z)) 2)) ((nI ((5 * (t + 1)) + 3)).toNatClampNeg) ((fun z => f12 (5 * t + z)) 3)) ((nI ((5 * (t + 1)) + 4)).toNatClampNeg) ((fun z => f12 (5 * t + z)) 4)), rfl, ⟨fun z hz => z_row5a (g := (fun z => f12 (5 * t + z))) (p := 5 * (t + 1)) (by omega) hz, Or.inl ⟨rfl, Or.inl c_19⟩⟩, by rw [ht]; exact hP9, hD9⟩, hS.F ht⟩) hS.2.2 dX9_goTurn_116
  · refine lv_aload_n hx hb dX9_goTurn_62 rfl (lv_at hl 1 rfl) ?_
    refine lv_iload_n hx hb dX9_goTurn_63 rfl (lv_at hl 2 rfl) ?_
    refine lv_aload_n hx hb dX9_goTurn_64 rfl (lv_at hl 1 rfl) ?_
    refine va_get (D := Z.1) (ci := 9) (v := .ref b13) (C := RX9) (T := TX9) (N := 31) hx hb hts hin9 hown hK hP 0 rfl rfl 17 (by decide) (hts (.fieldLink RX9 46 "HalfAskedModel" "tried" "[I") (List.mem_of_getElem? (i := 5) rfl)) (fun _ h9 => h9) rfl dX9_goTurn_65 ?_
    refine lv_iload_n hx hb dX9_goTurn_68 rfl (lv_at hl 2 rfl) ?_
    refine va_iald hx hb hK hP 7 0 rfl rfl (vp_in_nI (by omega) (by decide)) dX9_goTurn_69 ?_
    refine lv_topi (fun f_35 ef_35 => ?_)
    obtain rfl : nI (uu + 1) = f_35 := (ef_35.trans (by rw [nI_clamp (by omega)]; exact hv)).symm
    refine lv_iconst (v := 1) hx hb dX9_goTurn_70 (by decide) ?_
    refine lv_isub hx hb dX9_goTurn_71 ?_
    refine lv_topi (fun f_36 ef_36 => ?_)
    obtain rfl : nI uu = f_36 := (ef_36.trans (nI_pred _)).symm
    have hPc := hP.sub (ws' := [(h0, .inr (9, [.ref b1, .ref b2, .ref b3, .ref b4, .int (nI n), .ref b5, .int (nI pn), .ref b6, .ref b7, .ref b8, .int (nI tn), .int xp, .int xr, .ref b9, .ref b10, .ref b11, .ref b12, .ref b13, .ref b14, .ref b15, .ref b16, .ref b17, .ref b18, .int ik, .ref b19, .ref b20, .ref b21, .ref b22, .ref b23, .ref b24, .ref b25])), (b1, .inl (Z.2 0, 5, .inl f1)), (b3, .inl (Z.2 0, 5, .inl f3)), (b6, .inl (Z.2 0, 5, .inl (fun z => f12 (5 * t + z)))), (b7, .inl (Z.2 0, 5, .inl f4))]) [0, 1, 2, 4, 5] rfl
    have hDc := hD.sub (ws' := [(h0, .inr (9, [.ref b1, .ref b2, .ref b3, .ref b4, .int (nI n), .ref b5, .int (nI pn), .ref b6, .ref b7, .ref b8, .int (nI tn), .int xp, .int xr, .ref b9, .ref b10, .ref b11, .ref b12, .ref b13, .ref b14, .ref b15, .ref b16, .ref b17, .ref b18, .int ik, .ref b19, .ref b20, .ref b21, .ref b22, .ref b23, .ref b24, .ref b25])), (b1, .inl (Z.2 0, 5, .inl f1)), (b3, .inl (Z.2 0, 5, .inl f3)), (b6, .inl (Z.2 0, 5, .inl (fun z => f12 (5 * t + z)))), (b7, .inl (Z.2 0, 5, .inl f4))]) [0, 1, 2, 4, 5] (by decide +kernel) rfl
    have hFc := va_free (wc := [(h0, .inr (9, [.ref b1, .ref b2, .ref b3, .ref b4, .int (nI n), .ref b5, .int (nI pn), .ref b6, .ref b7, .ref b8, .int (nI tn), .int xp, .int xr, .ref b9, .ref b10, .ref b11, .ref b12, .ref b13, .ref b14, .ref b15, .ref b16, .ref b17, .ref b18, .int ik, .ref b19, .ref b20, .ref b21, .ref b22, .ref b23, .ref b24, .ref b25])), (b1, .inl (Z.2 0, 5, .inl f1)), (b3, .inl (Z.2 0, 5, .inl f3)), (b6, .inl (Z.2 0, 5, .inl (fun z => f12 (5 * t + z)))), (b7, .inl (Z.2 0, 5, .inl f4))]) hD hS hA [0, 1, 2, 4, 5] rfl
    refine va_calli (va_runV (As := [.int (nI t), .int (nI uu)]) (rest := []) ⟨hx, hb, hml, hown, hts⟩ (c_X9_tryAsk l Z H.size h0 b1 b2 b3 b4 b5 b6 b7 b8 b9 b10 b11 b12 b13 b14 b15 b16 b17 b18 b19 b20 b21 b22 b23 b24 b25 n pn tn xp xr ik f1 f3 (fun z => f12 (5 * t + z)) f4 (nI t) (nI uu) (vp_in_nI (by omega) (by decide)) (vp_in_nI (by omega) (by decide))) (cwV 2 hts gX9_goTurn_X9_tryAsk rfl rfl rfl (by decide +kernel) ⟨Nat.le_of_ble_eq_true rfl, Nat.le_of_ble_eq_true rfl⟩) ⟨fun a U g mk q => by obtain ⟨q0, q1, qP, qK, qD⟩ := q; exact ⟨q0, q1, qP, va_K.moved (u := U) (U := U.calling g mk a) (Vm.Alike.refl U.vm) qK, qD⟩, va_recv hK hPc (ci := 9) (q0 := 0) rfl rfl, fun U hU hW => ⟨rfl, by rw [hU], by rw [hU]; exact hPc, va_K.moved hW.alike hK, hDc.weaken (fun _ _ _ _ => trivial)⟩⟩ rfl rfl hl.1 rfl (lv_room (Nat.le_of_ble_eq_true rfl)) dX9_goTurn_72 ⟨Nat.le_of_ble_eq_true rfl, Nat.le_of_ble_eq_true rfl⟩) hS (fun q _ h => hFc q h) hFc (fun r_37 u t9 H1 locs ht hvm hw hB hz1 hk1 hS => ?_)
    obtain ⟨g6_38, g7_39⟩ := u
    try dsimp only at hw hB
    obtain ⟨hw, hx_40, hx_41⟩ := hw
    subst hx_40
    subst hx_41
    have hw9 := hw.symm
    clear hw
    subst hw9
    obtain ⟨hP1, hD1⟩ := hB
    rw [ht] at hP1
    obtain ⟨hP, hD⟩ := va_join (wr := [(b4, .inl (Z.2 0, 5, .inl f4)), (b12, .inl (Z.2 0, 30, .inl f12)), (b13, .inl (Z.2 0, 6, .inl f13))]) (w1 := [(h0, .inr (9, [.ref b1, .ref b2, .ref b3, .ref b4, .int (nI n), .ref b5, .int (nI pn), .ref b6, .ref b7, .ref b8, .int (nI tn), .int xp, .int xr, .ref b9, .ref b10, .ref b11, .ref b12, .ref b13, .ref b14, .ref b15, .ref b16, .ref b17, .ref b18, .int ik, .ref b19, .ref b20, .ref b21, .ref b22, .ref b23, .ref b24, .ref b25])), (b1, .inl (Z.2 0, 5, .inl f1)), (b3, .inl (Z.2 0, 5, .inl f3)), (b6, .inl (Z.2 0, 5, .inl (q_X9_tryAsk_g6 f1 f3 (fun z => f12 (5 * t + z)) f4 (nI t) (nI uu)))), (b7, .inl (Z.2 0, 5, .inl (q_X9_tryAsk_g7 f3 (fun z => f12 (5 * t + z)) f4 (nI t) (nI uu))))]) hP hD [0, 1, 2, 4, 5] [3, 6, 7] rfl rfl (by decide +kernel) (by decide +kernel) hk1 hFc hP1 hD1
    clear hPc hDc hP1 hD1 hk1 hz1 hFc ht hvm
    generalize H1 = H at hP hS ⊢
    have hP : va_P Z.1 vwCl [(b4, .inl (Z.2 0, 5, .inl f4)), (b12, .inl (Z.2 0, 30, .inl f12)), (b13, .inl (Z.2 0, 6, .inl f13)), (h0, .inr (9, [.ref b1, .ref b2, .ref b3, .ref b4, .int (nI n), .ref b5, .int (nI pn), .ref b6, .ref b7, .ref b8, .int (nI tn), .int xp, .int xr, .ref b9, .ref b10, .ref b11, .ref b12, .ref b13, .ref b14, .ref b15, .ref b16, .ref b17, .ref b18, .int ik, .ref b19, .ref b20, .ref b21, .ref b22, .ref b23, .ref b24, .ref b25])), (b1, .inl (Z.2 0, 5, .inl f1)), (b3, .inl (Z.2 0, 5, .inl f3)), (b6, .inl (Z.2 0, 5, .inl (q_X9_tryAsk_g6 f1 f3 (fun z => f12 (5 * t + z)) f4 (nI t) (nI uu)))), (b7, .inl (Z.2 0, 5, .inl (q_X9_tryAsk_g7 f3 (fun z => f12 (5 * t + z)) f4 (nI t) (nI uu))))] H := hP
    have hD : va_D A [(b4, .inl (Z.2 0, 5, .inl f4)), (b12, .inl (Z.2 0, 30, .inl f12)), (b13, .inl (Z.2 0, 6, .inl f13)), (h0, .inr (9, [.ref b1, .ref b2, .ref b3, .ref b4, .int (nI n), .ref b5, .int (nI pn), .ref b6, .ref b7, .ref b8, .int (nI tn), .int xp, .int xr, .ref b9, .ref b10, .ref b11, .ref b12, .ref b13, .ref b14, .ref b15, .ref b16, .ref b17, .ref b18, .int ik, .ref b19, .ref b20, .ref b21, .ref b22, .ref b23, .ref b24, .ref b25])), (b1, .inl (Z.2 0, 5, .inl f1)), (b3, .inl (Z.2 0, 5, .inl f3)), (b6, .inl (Z.2 0, 5, .inl (q_X9_tryAsk_g6 f1 f3 (fun z => f12 (5 * t + z)) f4 (nI t) (nI uu)))), (b7, .inl (Z.2 0, 5, .inl (q_X9_tryAsk_g7 f3 (fun z => f12 (5 * t + z)) f4 (nI t) (nI uu))))] := hD
    refine lv_if_lt (tgt := 82) hx hb dX9_goTurn_75 (by decide) (fun c_42 => ?_) (fun c_42 => ?_)
    · refine lv_iconst (v := 0) hx hb dX9_goTurn_82 (by decide) ?_
      refine lv_istore_n (lv' := [(2, .int 0), (0, .ref h0), (1, .int (nI t))]) hx hb dX9_goTurn_83 rfl hl (by decide) rfl (fun ls hl => ?_)
      refine lv_iconst (v := 0) hx hb dX9_goTurn_84 (by decide) ?_
      refine lv_istore_n (lv' := [(3, .int 0), (2, .int 0), (0, .ref h0), (1, .int (nI t))]) hx hb dX9_goTurn_85 rfl hl (by decide) rfl (fun ls hl => ?_)
      refine lv_iload_n hx hb dX9_goTurn_86 rfl (lv_at hl 0 rfl) ?_
      refine lv_iconst (v := 5) hx hb dX9_goTurn_87 (by decide) ?_
      refine lv_icmp_ge (tgt := 115) hx hb dX9_goTurn_88 (by decide) (fun c9 => absurd c9 (by decide)) (fun _ => ?_)
      refine lv_aload_n hx hb dX9_goTurn_91 rfl (lv_at hl 2 rfl) ?_
      refine va_get (D := Z.1) (ci := 9) (v := .ref b12) (C := RX9) (T := TX9) (N := 31) hx hb hts hin9 hown hK hP 3 rfl rfl 16 (by decide) (hts (.fieldLink RX9 43 "HalfAskedModel" "ahead" "[I") (List.mem_of_getElem? (i := 2) rfl)) (fun _ h9 => h9) rfl dX9_goTurn_92 ?_
      refine lv_iconst (v := 5) hx hb dX9_goTurn_95 (by decide) ?_
      refine lv_iload_n hx hb dX9_goTurn_96 rfl (lv_at hl 3 rfl) ?_
      refine lv_iconst (v := 1) hx hb dX9_goTurn_97 (by decide) ?_
      refine lv_iadd hx hb dX9_goTurn_98 ?_
      refine lv_topi (fun f_43 ef_43 => ?_)
      obtain rfl : nI (t + 1) = f_43 := (ef_43.trans (nI_1 _)).symm
      refine lv_imul hx hb dX9_goTurn_99 ?_
      refine lv_topi (fun f_44 ef_44 => ?_)
      obtain rfl : nI (5 * (t + 1)) = f_44 := (ef_44.trans (pk_mul 5 (t + 1))).symm
      refine lv_iload_n hx hb dX9_goTurn_100 rfl (lv_at hl 0 rfl) ?_
      refine lv_iadd hx hb dX9_goTurn_101 ?_
      refine lv_topi (fun f_45 ef_45 => ?_)
      obtain rfl : nI ((5 * (t + 1)) + 0) = f_45 := (ef_45.trans (nI_add (5 * (t + 1)) 0)).symm
      refine lv_aload_n hx hb dX9_goTurn_102 rfl (lv_at hl 2 rfl) ?_
      refine va_get (D := Z.1) (ci := 9) (v := .ref b6) (C := RX9) (T := TX9) (N := 31) hx hb hts hin9 hown hK hP 3 rfl rfl 7 (by decide) (hts (.fieldLink RX9 25 "HalfAskedModel" "purse" "[I") (List.mem_of_getElem? (i := 1) rfl)) (fun _ h9 => h9) rfl dX9_goTurn_103 ?_
      refine lv_iload_n hx hb dX9_goTurn_106 rfl (lv_at hl 0 rfl) ?_
      refine va_iald hx hb hK hP 6 0 rfl rfl (z_in (by decide)) dX9_goTurn_107 ?_
      refine va_iast hx hb hK hP hD hS 1 0 rfl rfl (vp_in_nI (by omega) (by decide)) dX9_goTurn_108 (fun H locs hP hD hS => ?_)
      have hP : va_P Z.1 vwCl [(b4, .inl (Z.2 0, 5, .inl f4)), (b12, .inl (Z.2 0, 30, .inl (upd f12 ((nI ((5 * (t + 1)) + 0)).toNatClampNeg) ((q_X9_tryAsk_g6 f1 f3 (fun z => f12 (5 * t + z)) f4 (nI t) (nI uu)) 0)))), (b13, .inl (Z.2 0, 6, .inl f13)), (h0, .inr (9, [.ref b1, .ref b2, .ref b3, .ref b4, .int (nI n), .ref b5, .int (nI pn), .ref b6, .ref b7, .ref b8, .int (nI tn), .int xp, .int xr, .ref b9, .ref b10, .ref b11, .ref b12, .ref b13, .ref b14, .ref b15, .ref b16, .ref b17, .ref b18, .int ik, .ref b19, .ref b20, .ref b21, .ref b22, .ref b23, .ref b24, .ref b25])), (b1, .inl (Z.2 0, 5, .inl f1)), (b3, .inl (Z.2 0, 5, .inl f3)), (b6, .inl (Z.2 0, 5, .inl (q_X9_tryAsk_g6 f1 f3 (fun z => f12 (5 * t + z)) f4 (nI t) (nI uu)))), (b7, .inl (Z.2 0, 5, .inl (q_X9_tryAsk_g7 f3 (fun z => f12 (5 * t + z)) f4 (nI t) (nI uu))))] H := hP
      have hD : va_D A [(b4, .inl (Z.2 0, 5, .inl f4)), (b12, .inl (Z.2 0, 30, .inl (upd f12 ((nI ((5 * (t + 1)) + 0)).toNatClampNeg) ((q_X9_tryAsk_g6 f1 f3 (fun z => f12 (5 * t + z)) f4 (nI t) (nI uu)) 0)))), (b13, .inl (Z.2 0, 6, .inl f13)), (h0, .inr (9, [.ref b1, .ref b2, .ref b3, .ref b4, .int (nI n), .ref b5, .int (nI pn), .ref b6, .ref b7, .ref b8, .int (nI tn), .int xp, .int xr, .ref b9, .ref b10, .ref b11, .ref b12, .ref b13, .ref b14, .ref b15, .ref b16, .ref b17, .ref b18, .int ik, .ref b19, .ref b20, .ref b21, .ref b22, .ref b23, .ref b24, .ref b25])), (b1, .inl (Z.2 0, 5, .inl f1)), (b3, .inl (Z.2 0, 5, .inl f3)), (b6, .inl (Z.2 0, 5, .inl (q_X9_tryAsk_g6 f1 f3 (fun z => f12 (5 * t + z)) f4 (nI t) (nI uu)))), (b7, .inl (Z.2 0, 5, .inl (q_X9_tryAsk_g7 f3 (fun z => f12 (5 * t + z)) f4 (nI t) (nI uu))))] := hD
      refine lv_iinc (v := 1) (lv' := [(3, .int 1), (2, .int 0), (0, .ref h0), (1, .int (nI t))]) hx hb dX9_goTurn_109 hl (k := 0) rfl (by decide) (by decide) rfl (fun ls hl => ?_)
      refine lv_goto (tgt := 86) hx hb dX9_goTurn_112 (by decide) ?_
      refine lv_iload_n hx hb dX9_goTurn_86 rfl (lv_at hl 0 rfl) ?_
      refine lv_iconst (v := 5) hx hb dX9_goTurn_87 (by decide) ?_
      refine lv_icmp_ge (tgt := 115) hx hb dX9_goTurn_88 (by decide) (fun c9 => absurd c9 (by decide)) (fun _ => ?_)
      refine lv_aload_n hx hb dX9_goTurn_91 rfl (lv_at hl 2 rfl) ?_
      refine va_get (D := Z.1) (ci := 9) (v := .ref b12) (C := RX9) (T := TX9) (N := 31) hx hb hts hin9 hown hK hP 3 rfl rfl 16 (by decide) (hts (.fieldLink RX9 43 "HalfAskedModel" "ahead" "[I") (List.mem_of_getElem? (i := 2) rfl)) (fun _ h9 => h9) rfl dX9_goTurn_92 ?_
      refine lv_iconst (v := 5) hx hb dX9_goTurn_95 (by decide) ?_
      refine lv_iload_n hx hb dX9_goTurn_96 rfl (lv_at hl 3 rfl) ?_
      refine lv_iconst (v := 1) hx hb dX9_goTurn_97 (by decide) ?_
      refine lv_iadd hx hb dX9_goTurn_98 ?_
      refine lv_topi (fun f_46 ef_46 => ?_)
      obtain rfl : nI (t + 1) = f_46 := (ef_46.trans (nI_1 _)).symm
      refine lv_imul hx hb dX9_goTurn_99 ?_
      refine lv_topi (fun f_47 ef_47 => ?_)
      obtain rfl : nI (5 * (t + 1)) = f_47 := (ef_47.trans (pk_mul 5 (t + 1))).symm
      refine lv_iload_n hx hb dX9_goTurn_100 rfl (lv_at hl 0 rfl) ?_
      refine lv_iadd hx hb dX9_goTurn_101 ?_
      refine lv_topi (fun f_48 ef_48 => ?_)
      obtain rfl : nI ((5 * (t + 1)) + 1) = f_48 := (ef_48.trans (nI_1 _)).symm
      refine lv_aload_n hx hb dX9_goTurn_102 rfl (lv_at hl 2 rfl) ?_
      refine va_get (D := Z.1) (ci := 9) (v := .ref b6) (C := RX9) (T := TX9) (N := 31) hx hb hts hin9 hown hK hP 3 rfl rfl 7 (by decide) (hts (.fieldLink RX9 25 "HalfAskedModel" "purse" "[I") (List.mem_of_getElem? (i := 1) rfl)) (fun _ h9 => h9) rfl dX9_goTurn_103 ?_
      refine lv_iload_n hx hb dX9_goTurn_106 rfl (lv_at hl 0 rfl) ?_
      refine va_iald hx hb hK hP 6 0 rfl rfl (z_in (by decide)) dX9_goTurn_107 ?_
      refine va_iast hx hb hK hP hD hS 1 0 rfl rfl (vp_in_nI (by omega) (by decide)) dX9_goTurn_108 (fun H locs hP hD hS => ?_)
      have hP : va_P Z.1 vwCl [(b4, .inl (Z.2 0, 5, .inl f4)), (b12, .inl (Z.2 0, 30, .inl (upd (upd f12 ((nI ((5 * (t + 1)) + 0)).toNatClampNeg) ((q_X9_tryAsk_g6 f1 f3 (fun z => f12 (5 * t + z)) f4 (nI t) (nI uu)) 0)) ((nI ((5 * (t + 1)) + 1)).toNatClampNeg) ((q_X9_tryAsk_g6 f1 f3 (fun z => f12 (5 * t + z)) f4 (nI t) (nI uu)) 1)))), (b13, .inl (Z.2 0, 6, .inl f13)), (h0, .inr (9, [.ref b1, .ref b2, .ref b3, .ref b4, .int (nI n), .ref b5, .int (nI pn), .ref b6, .ref b7, .ref b8, .int (nI tn), .int xp, .int xr, .ref b9, .ref b10, .ref b11, .ref b12, .ref b13, .ref b14, .ref b15, .ref b16, .ref b17, .ref b18, .int ik, .ref b19, .ref b20, .ref b21, .ref b22, .ref b23, .ref b24, .ref b25])), (b1, .inl (Z.2 0, 5, .inl f1)), (b3, .inl (Z.2 0, 5, .inl f3)), (b6, .inl (Z.2 0, 5, .inl (q_X9_tryAsk_g6 f1 f3 (fun z => f12 (5 * t + z)) f4 (nI t) (nI uu)))), (b7, .inl (Z.2 0, 5, .inl (q_X9_tryAsk_g7 f3 (fun z => f12 (5 * t + z)) f4 (nI t) (nI uu))))] H := hP
      have hD : va_D A [(b4, .inl (Z.2 0, 5, .inl f4)), (b12, .inl (Z.2 0, 30, .inl (upd (upd f12 ((nI ((5 * (t + 1)) + 0)).toNatClampNeg) ((q_X9_tryAsk_g6 f1 f3 (fun z => f12 (5 * t + z)) f4 (nI t) (nI uu)) 0)) ((nI ((5 * (t + 1)) + 1)).toNatClampNeg) ((q_X9_tryAsk_g6 f1 f3 (fun z => f12 (5 * t + z)) f4 (nI t) (nI uu)) 1)))), (b13, .inl (Z.2 0, 6, .inl f13)), (h0, .inr (9, [.ref b1, .ref b2, .ref b3, .ref b4, .int (nI n), .ref b5, .int (nI pn), .ref b6, .ref b7, .ref b8, .int (nI tn), .int xp, .int xr, .ref b9, .ref b10, .ref b11, .ref b12, .ref b13, .ref b14, .ref b15, .ref b16, .ref b17, .ref b18, .int ik, .ref b19, .ref b20, .ref b21, .ref b22, .ref b23, .ref b24, .ref b25])), (b1, .inl (Z.2 0, 5, .inl f1)), (b3, .inl (Z.2 0, 5, .inl f3)), (b6, .inl (Z.2 0, 5, .inl (q_X9_tryAsk_g6 f1 f3 (fun z => f12 (5 * t + z)) f4 (nI t) (nI uu)))), (b7, .inl (Z.2 0, 5, .inl (q_X9_tryAsk_g7 f3 (fun z => f12 (5 * t + z)) f4 (nI t) (nI uu))))] := hD
      refine lv_iinc (v := 2) (lv' := [(3, .int 2), (2, .int 0), (0, .ref h0), (1, .int (nI t))]) hx hb dX9_goTurn_109 hl (k := 0) rfl (by decide) (by decide) rfl (fun ls hl => ?_)
      refine lv_goto (tgt := 86) hx hb dX9_goTurn_112 (by decide) ?_
      refine lv_iload_n hx hb dX9_goTurn_86 rfl (lv_at hl 0 rfl) ?_
      refine lv_iconst (v := 5) hx hb dX9_goTurn_87 (by decide) ?_
      refine lv_icmp_ge (tgt := 115) hx hb dX9_goTurn_88 (by decide) (fun c9 => absurd c9 (by decide)) (fun _ => ?_)
      refine lv_aload_n hx hb dX9_goTurn_91 rfl (lv_at hl 2 rfl) ?_
      refine va_get (D := Z.1) (ci := 9) (v := .ref b12) (C := RX9) (T := TX9) (N := 31) hx hb hts hin9 hown hK hP 3 rfl rfl 16 (by decide) (hts (.fieldLink RX9 43 "HalfAskedModel" "ahead" "[I") (List.mem_of_getElem? (i := 2) rfl)) (fun _ h9 => h9) rfl dX9_goTurn_92 ?_
      refine lv_iconst (v := 5) hx hb dX9_goTurn_95 (by decide) ?_
      refine lv_iload_n hx hb dX9_goTurn_96 rfl (lv_at hl 3 rfl) ?_
      refine lv_iconst (v := 1) hx hb dX9_goTurn_97 (by decide) ?_
      refine lv_iadd hx hb dX9_goTurn_98 ?_
      refine lv_topi (fun f_49 ef_49 => ?_)
      obtain rfl : nI (t + 1) = f_49 := (ef_49.trans (nI_1 _)).symm
      refine lv_imul hx hb dX9_goTurn_99 ?_
      refine lv_topi (fun f_50 ef_50 => ?_)
      obtain rfl : nI (5 * (t + 1)) = f_50 := (ef_50.trans (pk_mul 5 (t + 1))).symm
      refine lv_iload_n hx hb dX9_goTurn_100 rfl (lv_at hl 0 rfl) ?_
      refine lv_iadd hx hb dX9_goTurn_101 ?_
      refine lv_topi (fun f_51 ef_51 => ?_)
      obtain rfl : nI ((5 * (t + 1)) + 2) = f_51 := (ef_51.trans (nI_add (5 * (t + 1)) 2)).symm
      refine lv_aload_n hx hb dX9_goTurn_102 rfl (lv_at hl 2 rfl) ?_
      refine va_get (D := Z.1) (ci := 9) (v := .ref b6) (C := RX9) (T := TX9) (N := 31) hx hb hts hin9 hown hK hP 3 rfl rfl 7 (by decide) (hts (.fieldLink RX9 25 "HalfAskedModel" "purse" "[I") (List.mem_of_getElem? (i := 1) rfl)) (fun _ h9 => h9) rfl dX9_goTurn_103 ?_
      refine lv_iload_n hx hb dX9_goTurn_106 rfl (lv_at hl 0 rfl) ?_
      refine va_iald hx hb hK hP 6 0 rfl rfl (z_in (by decide)) dX9_goTurn_107 ?_
      refine va_iast hx hb hK hP hD hS 1 0 rfl rfl (vp_in_nI (by omega) (by decide)) dX9_goTurn_108 (fun H locs hP hD hS => ?_)
      have hP : va_P Z.1 vwCl [(b4, .inl (Z.2 0, 5, .inl f4)), (b12, .inl (Z.2 0, 30, .inl (upd (upd (upd f12 ((nI ((5 * (t + 1)) + 0)).toNatClampNeg) ((q_X9_tryAsk_g6 f1 f3 (fun z => f12 (5 * t + z)) f4 (nI t) (nI uu)) 0)) ((nI ((5 * (t + 1)) + 1)).toNatClampNeg) ((q_X9_tryAsk_g6 f1 f3 (fun z => f12 (5 * t + z)) f4 (nI t) (nI uu)) 1)) ((nI ((5 * (t + 1)) + 2)).toNatClampNeg) ((q_X9_tryAsk_g6 f1 f3 (fun z => f12 (5 * t + z)) f4 (nI t) (nI uu)) 2)))), (b13, .inl (Z.2 0, 6, .inl f13)), (h0, .inr (9, [.ref b1, .ref b2, .ref b3, .ref b4, .int (nI n), .ref b5, .int (nI pn), .ref b6, .ref b7, .ref b8, .int (nI tn), .int xp, .int xr, .ref b9, .ref b10, .ref b11, .ref b12, .ref b13, .ref b14, .ref b15, .ref b16, .ref b17, .ref b18, .int ik, .ref b19, .ref b20, .ref b21, .ref b22, .ref b23, .ref b24, .ref b25])), (b1, .inl (Z.2 0, 5, .inl f1)), (b3, .inl (Z.2 0, 5, .inl f3)), (b6, .inl (Z.2 0, 5, .inl (q_X9_tryAsk_g6 f1 f3 (fun z => f12 (5 * t + z)) f4 (nI t) (nI uu)))), (b7, .inl (Z.2 0, 5, .inl (q_X9_tryAsk_g7 f3 (fun z => f12 (5 * t + z)) f4 (nI t) (nI uu))))] H := hP
      have hD : va_D A [(b4, .inl (Z.2 0, 5, .inl f4)), (b12, .inl (Z.2 0, 30, .inl (upd (upd (upd f12 ((nI ((5 * (t + 1)) + 0)).toNatClampNeg) ((q_X9_tryAsk_g6 f1 f3 (fun z => f12 (5 * t + z)) f4 (nI t) (nI uu)) 0)) ((nI ((5 * (t + 1)) + 1)).toNatClampNeg) ((q_X9_tryAsk_g6 f1 f3 (fun z => f12 (5 * t + z)) f4 (nI t) (nI uu)) 1)) ((nI ((5 * (t + 1)) + 2)).toNatClampNeg) ((q_X9_tryAsk_g6 f1 f3 (fun z => f12 (5 * t + z)) f4 (nI t) (nI uu)) 2)))), (b13, .inl (Z.2 0, 6, .inl f13)), (h0, .inr (9, [.ref b1, .ref b2, .ref b3, .ref b4, .int (nI n), .ref b5, .int (nI pn), .ref b6, .ref b7, .ref b8, .int (nI tn), .int xp, .int xr, .ref b9, .ref b10, .ref b11, .ref b12, .ref b13, .ref b14, .ref b15, .ref b16, .ref b17, .ref b18, .int ik, .ref b19, .ref b20, .ref b21, .ref b22, .ref b23, .ref b24, .ref b25])), (b1, .inl (Z.2 0, 5, .inl f1)), (b3, .inl (Z.2 0, 5, .inl f3)), (b6, .inl (Z.2 0, 5, .inl (q_X9_tryAsk_g6 f1 f3 (fun z => f12 (5 * t + z)) f4 (nI t) (nI uu)))), (b7, .inl (Z.2 0, 5, .inl (q_X9_tryAsk_g7 f3 (fun z => f12 (5 * t + z)) f4 (nI t) (nI uu))))] := hD
      refine lv_iinc (v := 3) (lv' := [(3, .int 3), (2, .int 0), (0, .ref h0), (1, .int (nI t))]) hx hb dX9_goTurn_109 hl (k := 0) rfl (by decide) (by decide) rfl (fun ls hl => ?_)
      refine lv_goto (tgt := 86) hx hb dX9_goTurn_112 (by decide) ?_
      refine lv_iload_n hx hb dX9_goTurn_86 rfl (lv_at hl 0 rfl) ?_
      refine lv_iconst (v := 5) hx hb dX9_goTurn_87 (by decide) ?_
      refine lv_icmp_ge (tgt := 115) hx hb dX9_goTurn_88 (by decide) (fun c9 => absurd c9 (by decide)) (fun _ => ?_)
      refine lv_aload_n hx hb dX9_goTurn_91 rfl (lv_at hl 2 rfl) ?_
      refine va_get (D := Z.1) (ci := 9) (v := .ref b12) (C := RX9) (T := TX9) (N := 31) hx hb hts hin9 hown hK hP 3 rfl rfl 16 (by decide) (hts (.fieldLink RX9 43 "HalfAskedModel" "ahead" "[I") (List.mem_of_getElem? (i := 2) rfl)) (fun _ h9 => h9) rfl dX9_goTurn_92 ?_
      refine lv_iconst (v := 5) hx hb dX9_goTurn_95 (by decide) ?_
      refine lv_iload_n hx hb dX9_goTurn_96 rfl (lv_at hl 3 rfl) ?_
      refine lv_iconst (v := 1) hx hb dX9_goTurn_97 (by decide) ?_
      refine lv_iadd hx hb dX9_goTurn_98 ?_
      refine lv_topi (fun f_52 ef_52 => ?_)
      obtain rfl : nI (t + 1) = f_52 := (ef_52.trans (nI_1 _)).symm
      refine lv_imul hx hb dX9_goTurn_99 ?_
      refine lv_topi (fun f_53 ef_53 => ?_)
      obtain rfl : nI (5 * (t + 1)) = f_53 := (ef_53.trans (pk_mul 5 (t + 1))).symm
      refine lv_iload_n hx hb dX9_goTurn_100 rfl (lv_at hl 0 rfl) ?_
      refine lv_iadd hx hb dX9_goTurn_101 ?_
      refine lv_topi (fun f_54 ef_54 => ?_)
      obtain rfl : nI ((5 * (t + 1)) + 3) = f_54 := (ef_54.trans (nI_add (5 * (t + 1)) 3)).symm
      refine lv_aload_n hx hb dX9_goTurn_102 rfl (lv_at hl 2 rfl) ?_
      refine va_get (D := Z.1) (ci := 9) (v := .ref b6) (C := RX9) (T := TX9) (N := 31) hx hb hts hin9 hown hK hP 3 rfl rfl 7 (by decide) (hts (.fieldLink RX9 25 "HalfAskedModel" "purse" "[I") (List.mem_of_getElem? (i := 1) rfl)) (fun _ h9 => h9) rfl dX9_goTurn_103 ?_
      refine lv_iload_n hx hb dX9_goTurn_106 rfl (lv_at hl 0 rfl) ?_
      refine va_iald hx hb hK hP 6 0 rfl rfl (z_in (by decide)) dX9_goTurn_107 ?_
      refine va_iast hx hb hK hP hD hS 1 0 rfl rfl (vp_in_nI (by omega) (by decide)) dX9_goTurn_108 (fun H locs hP hD hS => ?_)
      have hP : va_P Z.1 vwCl [(b4, .inl (Z.2 0, 5, .inl f4)), (b12, .inl (Z.2 0, 30, .inl (upd (upd (upd (upd f12 ((nI ((5 * (t + 1)) + 0)).toNatClampNeg) ((q_X9_tryAsk_g6 f1 f3 (fun z => f12 (5 * t + z)) f4 (nI t) (nI uu)) 0)) ((nI ((5 * (t + 1)) + 1)).toNatClampNeg) ((q_X9_tryAsk_g6 f1 f3 (fun z => f12 (5 * t + z)) f4 (nI t) (nI uu)) 1)) ((nI ((5 * (t + 1)) + 2)).toNatClampNeg) ((q_X9_tryAsk_g6 f1 f3 (fun z => f12 (5 * t + z)) f4 (nI t) (nI uu)) 2)) ((nI ((5 * (t + 1)) + 3)).toNatClampNeg) ((q_X9_tryAsk_g6 f1 f3 (fun z => f12 (5 * t + z)) f4 (nI t) (nI uu)) 3)))), (b13, .inl (Z.2 0, 6, .inl f13)), (h0, .inr (9, [.ref b1, .ref b2, .ref b3, .ref b4, .int (nI n), .ref b5, .int (nI pn), .ref b6, .ref b7, .ref b8, .int (nI tn), .int xp, .int xr, .ref b9, .ref b10, .ref b11, .ref b12, .ref b13, .ref b14, .ref b15, .ref b16, .ref b17, .ref b18, .int ik, .ref b19, .ref b20, .ref b21, .ref b22, .ref b23, .ref b24, .ref b25])), (b1, .inl (Z.2 0, 5, .inl f1)), (b3, .inl (Z.2 0, 5, .inl f3)), (b6, .inl (Z.2 0, 5, .inl (q_X9_tryAsk_g6 f1 f3 (fun z => f12 (5 * t + z)) f4 (nI t) (nI uu)))), (b7, .inl (Z.2 0, 5, .inl (q_X9_tryAsk_g7 f3 (fun z => f12 (5 * t + z)) f4 (nI t) (nI uu))))] H := hP
      have hD : va_D A [(b4, .inl (Z.2 0, 5, .inl f4)), (b12, .inl (Z.2 0, 30, .inl (upd (upd (upd (upd f12 ((nI ((5 * (t + 1)) + 0)).toNatClampNeg) ((q_X9_tryAsk_g6 f1 f3 (fun z => f12 (5 * t + z)) f4 (nI t) (nI uu)) 0)) ((nI ((5 * (t + 1)) + 1)).toNatClampNeg) ((q_X9_tryAsk_g6 f1 f3 (fun z => f12 (5 * t + z)) f4 (nI t) (nI uu)) 1)) ((nI ((5 * (t + 1)) + 2)).toNatClampNeg) ((q_X9_tryAsk_g6 f1 f3 (fun z => f12 (5 * t + z)) f4 (nI t) (nI uu)) 2)) ((nI ((5 * (t + 1)) + 3)).toNatClampNeg) ((q_X9_tryAsk_g6 f1 f3 (fun z => f12 (5 * t + z)) f4 (nI t) (nI uu)) 3)))), (b13, .inl (Z.2 0, 6, .inl f13)), (h0, .inr (9, [.ref b1, .ref b2, .ref b3, .ref b4, .int (nI n), .ref b5, .int (nI pn), .ref b6, .ref b7, .ref b8, .int (nI tn), .int xp, .int xr, .ref b9, .ref b10, .ref b11, .ref b12, .ref b13, .ref b14, .ref b15, .ref b16, .ref b17, .ref b18, .int ik, .ref b19, .ref b20, .ref b21, .ref b22, .ref b23, .ref b24, .ref b25])), (b1, .inl (Z.2 0, 5, .inl f1)), (b3, .inl (Z.2 0, 5, .inl f3)), (b6, .inl (Z.2 0, 5, .inl (q_X9_tryAsk_g6 f1 f3 (fun z => f12 (5 * t + z)) f4 (nI t) (nI uu)))), (b7, .inl (Z.2 0, 5, .inl (q_X9_tryAsk_g7 f3 (fun z => f12 (5 * t + z)) f4 (nI t) (nI uu))))] := hD
      refine lv_iinc (v := 4) (lv' := [(3, .int 4), (2, .int 0), (0, .ref h0), (1, .int (nI t))]) hx hb dX9_goTurn_109 hl (k := 0) rfl (by decide) (by decide) rfl (fun ls hl => ?_)
      refine lv_goto (tgt := 86) hx hb dX9_goTurn_112 (by decide) ?_
      refine lv_iload_n hx hb dX9_goTurn_86 rfl (lv_at hl 0 rfl) ?_
      refine lv_iconst (v := 5) hx hb dX9_goTurn_87 (by decide) ?_
      refine lv_icmp_ge (tgt := 115) hx hb dX9_goTurn_88 (by decide) (fun c9 => absurd c9 (by decide)) (fun _ => ?_)
      refine lv_aload_n hx hb dX9_goTurn_91 rfl (lv_at hl 2 rfl) ?_
      refine va_get (D := Z.1) (ci := 9) (v := .ref b12) (C := RX9) (T := TX9) (N := 31) hx hb hts hin9 hown hK hP 3 rfl rfl 16 (by decide) (hts (.fieldLink RX9 43 "HalfAskedModel" "ahead" "[I") (List.mem_of_getElem? (i := 2) rfl)) (fun _ h9 => h9) rfl dX9_goTurn_92 ?_
      refine lv_iconst (v := 5) hx hb dX9_goTurn_95 (by decide) ?_
      refine lv_iload_n hx hb dX9_goTurn_96 rfl (lv_at hl 3 rfl) ?_
      refine lv_iconst (v := 1) hx hb dX9_goTurn_97 (by decide) ?_
      refine lv_iadd hx hb dX9_goTurn_98 ?_
      refine lv_topi (fun f_55 ef_55 => ?_)
      obtain rfl : nI (t + 1) = f_55 := (ef_55.trans (nI_1 _)).symm
      refine lv_imul hx hb dX9_goTurn_99 ?_
      refine lv_topi (fun f_56 ef_56 => ?_)
      obtain rfl : nI (5 * (t + 1)) = f_56 := (ef_56.trans (pk_mul 5 (t + 1))).symm
      refine lv_iload_n hx hb dX9_goTurn_100 rfl (lv_at hl 0 rfl) ?_
      refine lv_iadd hx hb dX9_goTurn_101 ?_
      refine lv_topi (fun f_57 ef_57 => ?_)
      obtain rfl : nI ((5 * (t + 1)) + 4) = f_57 := (ef_57.trans (nI_add (5 * (t + 1)) 4)).symm
      refine lv_aload_n hx hb dX9_goTurn_102 rfl (lv_at hl 2 rfl) ?_
      refine va_get (D := Z.1) (ci := 9) (v := .ref b6) (C := RX9) (T := TX9) (N := 31) hx hb hts hin9 hown hK hP 3 rfl rfl 7 (by decide) (hts (.fieldLink RX9 25 "HalfAskedModel" "purse" "[I") (List.mem_of_getElem? (i := 1) rfl)) (fun _ h9 => h9) rfl dX9_goTurn_103 ?_
      refine lv_iload_n hx hb dX9_goTurn_106 rfl (lv_at hl 0 rfl) ?_
      refine va_iald hx hb hK hP 6 0 rfl rfl (z_in (by decide)) dX9_goTurn_107 ?_
      refine va_iast hx hb hK hP hD hS 1 0 rfl rfl (vp_in_nI (by omega) (by decide)) dX9_goTurn_108 (fun H locs hP hD hS => ?_)
      have hP : va_P Z.1 vwCl [(b4, .inl (Z.2 0, 5, .inl f4)), (b12, .inl (Z.2 0, 30, .inl (upd (upd (upd (upd (upd f12 ((nI ((5 * (t + 1)) + 0)).toNatClampNeg) ((q_X9_tryAsk_g6 f1 f3 (fun z => f12 (5 * t + z)) f4 (nI t) (nI uu)) 0)) ((nI ((5 * (t + 1)) + 1)).toNatClampNeg) ((q_X9_tryAsk_g6 f1 f3 (fun z => f12 (5 * t + z)) f4 (nI t) (nI uu)) 1)) ((nI ((5 * (t + 1)) + 2)).toNatClampNeg) ((q_X9_tryAsk_g6 f1 f3 (fun z => f12 (5 * t + z)) f4 (nI t) (nI uu)) 2)) ((nI ((5 * (t + 1)) + 3)).toNatClampNeg) ((q_X9_tryAsk_g6 f1 f3 (fun z => f12 (5 * t + z)) f4 (nI t) (nI uu)) 3)) ((nI ((5 * (t + 1)) + 4)).toNatClampNeg) ((q_X9_tryAsk_g6 f1 f3 (fun z => f12 (5 * t + z)) f4 (nI t) (nI uu)) 4)))), (b13, .inl (Z.2 0, 6, .inl f13)), (h0, .inr (9, [.ref b1, .ref b2, .ref b3, .ref b4, .int (nI n), .ref b5, .int (nI pn), .ref b6, .ref b7, .ref b8, .int (nI tn), .int xp, .int xr, .ref b9, .ref b10, .ref b11, .ref b12, .ref b13, .ref b14, .ref b15, .ref b16, .ref b17, .ref b18, .int ik, .ref b19, .ref b20, .ref b21, .ref b22, .ref b23, .ref b24, .ref b25])), (b1, .inl (Z.2 0, 5, .inl f1)), (b3, .inl (Z.2 0, 5, .inl f3)), (b6, .inl (Z.2 0, 5, .inl (q_X9_tryAsk_g6 f1 f3 (fun z => f12 (5 * t + z)) f4 (nI t) (nI uu)))), (b7, .inl (Z.2 0, 5, .inl (q_X9_tryAsk_g7 f3 (fun z => f12 (5 * t + z)) f4 (nI t) (nI uu))))] H := hP
      have hD : va_D A [(b4, .inl (Z.2 0, 5, .inl f4)), (b12, .inl (Z.2 0, 30, .inl (upd (upd (upd (upd (upd f12 ((nI ((5 * (t + 1)) + 0)).toNatClampNeg) ((q_X9_tryAsk_g6 f1 f3 (fun z => f12 (5 * t + z)) f4 (nI t) (nI uu)) 0)) ((nI ((5 * (t + 1)) + 1)).toNatClampNeg) ((q_X9_tryAsk_g6 f1 f3 (fun z => f12 (5 * t + z)) f4 (nI t) (nI uu)) 1)) ((nI ((5 * (t + 1)) + 2)).toNatClampNeg) ((q_X9_tryAsk_g6 f1 f3 (fun z => f12 (5 * t + z)) f4 (nI t) (nI uu)) 2)) ((nI ((5 * (t + 1)) + 3)).toNatClampNeg) ((q_X9_tryAsk_g6 f1 f3 (fun z => f12 (5 * t + z)) f4 (nI t) (nI uu)) 3)) ((nI ((5 * (t + 1)) + 4)).toNatClampNeg) ((q_X9_tryAsk_g6 f1 f3 (fun z => f12 (5 * t + z)) f4 (nI t) (nI uu)) 4)))), (b13, .inl (Z.2 0, 6, .inl f13)), (h0, .inr (9, [.ref b1, .ref b2, .ref b3, .ref b4, .int (nI n), .ref b5, .int (nI pn), .ref b6, .ref b7, .ref b8, .int (nI tn), .int xp, .int xr, .ref b9, .ref b10, .ref b11, .ref b12, .ref b13, .ref b14, .ref b15, .ref b16, .ref b17, .ref b18, .int ik, .ref b19, .ref b20, .ref b21, .ref b22, .ref b23, .ref b24, .ref b25])), (b1, .inl (Z.2 0, 5, .inl f1)), (b3, .inl (Z.2 0, 5, .inl f3)), (b6, .inl (Z.2 0, 5, .inl (q_X9_tryAsk_g6 f1 f3 (fun z => f12 (5 * t + z)) f4 (nI t) (nI uu)))), (b7, .inl (Z.2 0, 5, .inl (q_X9_tryAsk_g7 f3 (fun z => f12 (5 * t + z)) f4 (nI t) (nI uu))))] := hD
      refine lv_iinc (v := 5) (lv' := [(3, .int 5), (2, .int 0), (0, .ref h0), (1, .int (nI t))]) hx hb dX9_goTurn_109 hl (k := 0) rfl (by decide) (by decide) rfl (fun ls hl => ?_)
      refine lv_goto (tgt := 86) hx hb dX9_goTurn_112 (by decide) ?_
      refine lv_iload_n hx hb dX9_goTurn_86 rfl (lv_at hl 0 rfl) ?_
      refine lv_iconst (v := 5) hx hb dX9_goTurn_87 (by decide) ?_
      refine lv_icmp_ge (tgt := 115) hx hb dX9_goTurn_88 (by decide) (fun _ => ?_) (fun c9 => absurd c9 (by decide))
      refine lv_iload_n hx hb dX9_goTurn_115 rfl (lv_at hl 1 rfl) ?_
      have hP9 := hP.sub (ws' := [(h0, .inr (9, [.ref b1, .ref b2, .ref b3, .ref b4, .int (nI n), .ref b5, .int (nI pn), .ref b6, .ref b7, .ref b8, .int (nI tn), .int xp, .int xr, .ref b9, .ref b10, .ref b11, .ref b12, .ref b13, .ref b14, .ref b15, .ref b16, .ref b17, .ref b18, .int ik, .ref b19, .ref b20, .ref b21, .ref b22, .ref b23, .ref b24, .ref b25])), (b1, .inl (Z.2 0, 5, .inl f1)), (b3, .inl (Z.2 0, 5, .inl f3)), (b4, .inl (Z.2 0, 5, .inl f4)), (b6, .inl (Z.2 0, 5, .inl (q_X9_tryAsk_g6 f1 f3 (fun z => f12 (5 * t + z)) f4 (nI t) (nI uu)))), (b7, .inl (Z.2 0, 5, .inl (q_X9_tryAsk_g7 f3 (fun z => f12 (5 * t + z)) f4 (nI t) (nI uu)))), (b12, .inl (Z.2 0, 30, .inl (upd (upd (upd (upd (upd f12 ((nI ((5 * (t + 1)) + 0)).toNatClampNeg) ((q_X9_tryAsk_g6 f1 f3 (fun z => f12 (5 * t + z)) f4 (nI t) (nI uu)) 0)) ((nI ((5 * (t + 1)) + 1)).toNatClampNeg) ((q_X9_tryAsk_g6 f1 f3 (fun z => f12 (5 * t + z)) f4 (nI t) (nI uu)) 1)) ((nI ((5 * (t + 1)) + 2)).toNatClampNeg) ((q_X9_tryAsk_g6 f1 f3 (fun z => f12 (5 * t + z)) f4 (nI t) (nI uu)) 2)) ((nI ((5 * (t + 1)) + 3)).toNatClampNeg) ((q_X9_tryAsk_g6 f1 f3 (fun z => f12 (5 * t + z)) f4 (nI t) (nI uu)) 3)) ((nI ((5 * (t + 1)) + 4)).toNatClampNeg) ((q_X9_tryAsk_g6 f1 f3 (fun z => f12 (5 * t + z)) f4 (nI t) (nI uu)) 4)))), (b13, .inl (Z.2 0, 6, .inl f13))]) [3, 4, 5, 0, 6, 7, 1, 2] rfl
      have hD9 := hD.sub (ws' := [(h0, .inr (9, [.ref b1, .ref b2, .ref b3, .ref b4, .int (nI n), .ref b5, .int (nI pn), .ref b6, .ref b7, .ref b8, .int (nI tn), .int xp, .int xr, .ref b9, .ref b10, .ref b11, .ref b12, .ref b13, .ref b14, .ref b15, .ref b16, .ref b17, .ref b18, .int ik, .ref b19, .ref b20, .ref b21, .ref b22, .ref b23, .ref b24, .ref b25])), (b1, .inl (Z.2 0, 5, .inl f1)), (b3, .inl (Z.2 0, 5, .inl f3)), (b4, .inl (Z.2 0, 5, .inl f4)), (b6, .inl (Z.2 0, 5, .inl (q_X9_tryAsk_g6 f1 f3 (fun z => f12 (5 * t + z)) f4 (nI t) (nI uu)))), (b7, .inl (Z.2 0, 5, .inl (q_X9_tryAsk_g7 f3 (fun z => f12 (5 * t + z)) f4 (nI t) (nI uu)))), (b12, .inl (Z.2 0, 30, .inl (upd (upd (upd (upd (upd f12 ((nI ((5 * (t + 1)) + 0)).toNatClampNeg) ((q_X9_tryAsk_g6 f1 f3 (fun z => f12 (5 * t + z)) f4 (nI t) (nI uu)) 0)) ((nI ((5 * (t + 1)) + 1)).toNatClampNeg) ((q_X9_tryAsk_g6 f1 f3 (fun z => f12 (5 * t + z)) f4 (nI t) (nI uu)) 1)) ((nI ((5 * (t + 1)) + 2)).toNatClampNeg) ((q_X9_tryAsk_g6 f1 f3 (fun z => f12 (5 * t + z)) f4 (nI t) (nI uu)) 2)) ((nI ((5 * (t + 1)) + 3)).toNatClampNeg) ((q_X9_tryAsk_g6 f1 f3 (fun z => f12 (5 * t + z)) f4 (nI t) (nI uu)) 3)) ((nI ((5 * (t + 1)) + 4)).toNatClampNeg) ((q_X9_tryAsk_g6 f1 f3 (fun z => f12 (5 * t + z)) f4 (nI t) (nI uu)) 4)))), (b13, .inl (Z.2 0, 6, .inl f13))]) [3, 4, 5, 0, 6, 7, 1, 2] (by decide +kernel) rfl
      exact W.zret (v := 0) hx hb hr rfl (fun t9 ht hW => ⟨⟨0, (q_X9_tryAsk_g6 f1 f3 (fun z => f12 (5 * t + z)) f4 (nI t) (nI uu), q_X9_tryAsk_g7 f3 (fun z => f12 (5 * t + z)) f4 (nI t) (nI uu), upd (upd (upd (upd (upd f12 ((nI ((5 * (t + 1)) + 0)).toNatClampNeg) ((q_X9_tryAsk_g6 f1 f3 (fun z => f12 (5 * t + z)) f4 (nI t) (nI uu)) 0)) ((nI ((5 * (t + 1)) + 1)).toNatClampNeg) ((q_X9_tryAsk_g6 f1 f3 (fun z => f12 (5 * t + z)) f4 (nI t) (nI uu)) 1)) ((nI ((5 * (t + 1)) + 2)).toNatClampNeg) ((q_X9_tryAsk_g6 f1 f3 (fun z => f12 (5 * t + z)) f4 (nI t) (nI uu)) 2)) ((nI ((5 * (t + 1)) + 3)).toNatClampNeg) ((q_X9_tryAsk_g6 f1 f3 (fun z => f12 (5 * t + z)) f4 (nI t) (nI uu)) 3)) ((nI ((5 * (t + 1)) + 4)).toNatClampNeg) ((q_X9_tryAsk_g6 f1 f3 (fun z => f12 (5 * t + z)) f4 (nI t) (nI uu)) 4)), rfl, ⟨fun z hz => z_row5a (g := (q_X9_tryAsk_g6 f1 f3 (fun z => f12 (5 * t + z)) f4 (nI t) (nI uu))) (p := 5 * (t + 1)) (by omega) hz, Or.inl ⟨rfl, Or.inr c_42⟩⟩, by rw [ht]; exact hP9, hD9⟩, hS.F ht⟩) hS.2.2 dX9_goTurn_116
    · refine lv_iconst (v := 1) hx hb dX9_goTurn_78 (by decide) ?_
      refine lv_goto (tgt := 83) hx hb dX9_goTurn_79 (by decide) ?_
      refine lv_istore_n (lv' := [(2, .int 1), (0, .ref h0), (1, .int (nI t))]) hx hb dX9_goTurn_83 rfl hl (by decide) rfl (fun ls hl => ?_)
      refine lv_iconst (v := 0) hx hb dX9_goTurn_84 (by decide) ?_
      refine lv_istore_n (lv' := [(3, .int 0), (2, .int 1), (0, .ref h0), (1, .int (nI t))]) hx hb dX9_goTurn_85 rfl hl (by decide) rfl (fun ls hl => ?_)
      refine lv_iload_n hx hb dX9_goTurn_86 rfl (lv_at hl 0 rfl) ?_
      refine lv_iconst (v := 5) hx hb dX9_goTurn_87 (by decide) ?_
      refine lv_icmp_ge (tgt := 115) hx hb dX9_goTurn_88 (by decide) (fun c9 => absurd c9 (by decide)) (fun _ => ?_)
      refine lv_aload_n hx hb dX9_goTurn_91 rfl (lv_at hl 2 rfl) ?_
      refine va_get (D := Z.1) (ci := 9) (v := .ref b12) (C := RX9) (T := TX9) (N := 31) hx hb hts hin9 hown hK hP 3 rfl rfl 16 (by decide) (hts (.fieldLink RX9 43 "HalfAskedModel" "ahead" "[I") (List.mem_of_getElem? (i := 2) rfl)) (fun _ h9 => h9) rfl dX9_goTurn_92 ?_
      refine lv_iconst (v := 5) hx hb dX9_goTurn_95 (by decide) ?_
      refine lv_iload_n hx hb dX9_goTurn_96 rfl (lv_at hl 3 rfl) ?_
      refine lv_iconst (v := 1) hx hb dX9_goTurn_97 (by decide) ?_
      refine lv_iadd hx hb dX9_goTurn_98 ?_
      refine lv_topi (fun f_58 ef_58 => ?_)
      obtain rfl : nI (t + 1) = f_58 := (ef_58.trans (nI_1 _)).symm
      refine lv_imul hx hb dX9_goTurn_99 ?_
      refine lv_topi (fun f_59 ef_59 => ?_)
      obtain rfl : nI (5 * (t + 1)) = f_59 := (ef_59.trans (pk_mul 5 (t + 1))).symm
      refine lv_iload_n hx hb dX9_goTurn_100 rfl (lv_at hl 0 rfl) ?_
      refine lv_iadd hx hb dX9_goTurn_101 ?_
      refine lv_topi (fun f_60 ef_60 => ?_)
      obtain rfl : nI ((5 * (t + 1)) + 0) = f_60 := (ef_60.trans (nI_add (5 * (t + 1)) 0)).symm
      refine lv_aload_n hx hb dX9_goTurn_102 rfl (lv_at hl 2 rfl) ?_
      refine va_get (D := Z.1) (ci := 9) (v := .ref b6) (C := RX9) (T := TX9) (N := 31) hx hb hts hin9 hown hK hP 3 rfl rfl 7 (by decide) (hts (.fieldLink RX9 25 "HalfAskedModel" "purse" "[I") (List.mem_of_getElem? (i := 1) rfl)) (fun _ h9 => h9) rfl dX9_goTurn_103 ?_
      refine lv_iload_n hx hb dX9_goTurn_106 rfl (lv_at hl 0 rfl) ?_
      refine va_iald hx hb hK hP 6 0 rfl rfl (z_in (by decide)) dX9_goTurn_107 ?_
      refine va_iast hx hb hK hP hD hS 1 0 rfl rfl (vp_in_nI (by omega) (by decide)) dX9_goTurn_108 (fun H locs hP hD hS => ?_)
      have hP : va_P Z.1 vwCl [(b4, .inl (Z.2 0, 5, .inl f4)), (b12, .inl (Z.2 0, 30, .inl (upd f12 ((nI ((5 * (t + 1)) + 0)).toNatClampNeg) ((q_X9_tryAsk_g6 f1 f3 (fun z => f12 (5 * t + z)) f4 (nI t) (nI uu)) 0)))), (b13, .inl (Z.2 0, 6, .inl f13)), (h0, .inr (9, [.ref b1, .ref b2, .ref b3, .ref b4, .int (nI n), .ref b5, .int (nI pn), .ref b6, .ref b7, .ref b8, .int (nI tn), .int xp, .int xr, .ref b9, .ref b10, .ref b11, .ref b12, .ref b13, .ref b14, .ref b15, .ref b16, .ref b17, .ref b18, .int ik, .ref b19, .ref b20, .ref b21, .ref b22, .ref b23, .ref b24, .ref b25])), (b1, .inl (Z.2 0, 5, .inl f1)), (b3, .inl (Z.2 0, 5, .inl f3)), (b6, .inl (Z.2 0, 5, .inl (q_X9_tryAsk_g6 f1 f3 (fun z => f12 (5 * t + z)) f4 (nI t) (nI uu)))), (b7, .inl (Z.2 0, 5, .inl (q_X9_tryAsk_g7 f3 (fun z => f12 (5 * t + z)) f4 (nI t) (nI uu))))] H := hP
      have hD : va_D A [(b4, .inl (Z.2 0, 5, .inl f4)), (b12, .inl (Z.2 0, 30, .inl (upd f12 ((nI ((5 * (t + 1)) + 0)).toNatClampNeg) ((q_X9_tryAsk_g6 f1 f3 (fun z => f12 (5 * t + z)) f4 (nI t) (nI uu)) 0)))), (b13, .inl (Z.2 0, 6, .inl f13)), (h0, .inr (9, [.ref b1, .ref b2, .ref b3, .ref b4, .int (nI n), .ref b5, .int (nI pn), .ref b6, .ref b7, .ref b8, .int (nI tn), .int xp, .int xr, .ref b9, .ref b10, .ref b11, .ref b12, .ref b13, .ref b14, .ref b15, .ref b16, .ref b17, .ref b18, .int ik, .ref b19, .ref b20, .ref b21, .ref b22, .ref b23, .ref b24, .ref b25])), (b1, .inl (Z.2 0, 5, .inl f1)), (b3, .inl (Z.2 0, 5, .inl f3)), (b6, .inl (Z.2 0, 5, .inl (q_X9_tryAsk_g6 f1 f3 (fun z => f12 (5 * t + z)) f4 (nI t) (nI uu)))), (b7, .inl (Z.2 0, 5, .inl (q_X9_tryAsk_g7 f3 (fun z => f12 (5 * t + z)) f4 (nI t) (nI uu))))] := hD
      refine lv_iinc (v := 1) (lv' := [(3, .int 1), (2, .int 1), (0, .ref h0), (1, .int (nI t))]) hx hb dX9_goTurn_109 hl (k := 0) rfl (by decide) (by decide) rfl (fun ls hl => ?_)
      refine lv_goto (tgt := 86) hx hb dX9_goTurn_112 (by decide) ?_
      refine lv_iload_n hx hb dX9_goTurn_86 rfl (lv_at hl 0 rfl) ?_
      refine lv_iconst (v := 5) hx hb dX9_goTurn_87 (by decide) ?_
      refine lv_icmp_ge (tgt := 115) hx hb dX9_goTurn_88 (by decide) (fun c9 => absurd c9 (by decide)) (fun _ => ?_)
      refine lv_aload_n hx hb dX9_goTurn_91 rfl (lv_at hl 2 rfl) ?_
      refine va_get (D := Z.1) (ci := 9) (v := .ref b12) (C := RX9) (T := TX9) (N := 31) hx hb hts hin9 hown hK hP 3 rfl rfl 16 (by decide) (hts (.fieldLink RX9 43 "HalfAskedModel" "ahead" "[I") (List.mem_of_getElem? (i := 2) rfl)) (fun _ h9 => h9) rfl dX9_goTurn_92 ?_
      refine lv_iconst (v := 5) hx hb dX9_goTurn_95 (by decide) ?_
      refine lv_iload_n hx hb dX9_goTurn_96 rfl (lv_at hl 3 rfl) ?_
      refine lv_iconst (v := 1) hx hb dX9_goTurn_97 (by decide) ?_
      refine lv_iadd hx hb dX9_goTurn_98 ?_
      refine lv_topi (fun f_61 ef_61 => ?_)
      obtain rfl : nI (t + 1) = f_61 := (ef_61.trans (nI_1 _)).symm
      refine lv_imul hx hb dX9_goTurn_99 ?_
      refine lv_topi (fun f_62 ef_62 => ?_)
      obtain rfl : nI (5 * (t + 1)) = f_62 := (ef_62.trans (pk_mul 5 (t + 1))).symm
      refine lv_iload_n hx hb dX9_goTurn_100 rfl (lv_at hl 0 rfl) ?_
      refine lv_iadd hx hb dX9_goTurn_101 ?_
      refine lv_topi (fun f_63 ef_63 => ?_)
      obtain rfl : nI ((5 * (t + 1)) + 1) = f_63 := (ef_63.trans (nI_1 _)).symm
      refine lv_aload_n hx hb dX9_goTurn_102 rfl (lv_at hl 2 rfl) ?_
      refine va_get (D := Z.1) (ci := 9) (v := .ref b6) (C := RX9) (T := TX9) (N := 31) hx hb hts hin9 hown hK hP 3 rfl rfl 7 (by decide) (hts (.fieldLink RX9 25 "HalfAskedModel" "purse" "[I") (List.mem_of_getElem? (i := 1) rfl)) (fun _ h9 => h9) rfl dX9_goTurn_103 ?_
      refine lv_iload_n hx hb dX9_goTurn_106 rfl (lv_at hl 0 rfl) ?_
      refine va_iald hx hb hK hP 6 0 rfl rfl (z_in (by decide)) dX9_goTurn_107 ?_
      refine va_iast hx hb hK hP hD hS 1 0 rfl rfl (vp_in_nI (by omega) (by decide)) dX9_goTurn_108 (fun H locs hP hD hS => ?_)
      have hP : va_P Z.1 vwCl [(b4, .inl (Z.2 0, 5, .inl f4)), (b12, .inl (Z.2 0, 30, .inl (upd (upd f12 ((nI ((5 * (t + 1)) + 0)).toNatClampNeg) ((q_X9_tryAsk_g6 f1 f3 (fun z => f12 (5 * t + z)) f4 (nI t) (nI uu)) 0)) ((nI ((5 * (t + 1)) + 1)).toNatClampNeg) ((q_X9_tryAsk_g6 f1 f3 (fun z => f12 (5 * t + z)) f4 (nI t) (nI uu)) 1)))), (b13, .inl (Z.2 0, 6, .inl f13)), (h0, .inr (9, [.ref b1, .ref b2, .ref b3, .ref b4, .int (nI n), .ref b5, .int (nI pn), .ref b6, .ref b7, .ref b8, .int (nI tn), .int xp, .int xr, .ref b9, .ref b10, .ref b11, .ref b12, .ref b13, .ref b14, .ref b15, .ref b16, .ref b17, .ref b18, .int ik, .ref b19, .ref b20, .ref b21, .ref b22, .ref b23, .ref b24, .ref b25])), (b1, .inl (Z.2 0, 5, .inl f1)), (b3, .inl (Z.2 0, 5, .inl f3)), (b6, .inl (Z.2 0, 5, .inl (q_X9_tryAsk_g6 f1 f3 (fun z => f12 (5 * t + z)) f4 (nI t) (nI uu)))), (b7, .inl (Z.2 0, 5, .inl (q_X9_tryAsk_g7 f3 (fun z => f12 (5 * t + z)) f4 (nI t) (nI uu))))] H := hP
      have hD : va_D A [(b4, .inl (Z.2 0, 5, .inl f4)), (b12, .inl (Z.2 0, 30, .inl (upd (upd f12 ((nI ((5 * (t + 1)) + 0)).toNatClampNeg) ((q_X9_tryAsk_g6 f1 f3 (fun z => f12 (5 * t + z)) f4 (nI t) (nI uu)) 0)) ((nI ((5 * (t + 1)) + 1)).toNatClampNeg) ((q_X9_tryAsk_g6 f1 f3 (fun z => f12 (5 * t + z)) f4 (nI t) (nI uu)) 1)))), (b13, .inl (Z.2 0, 6, .inl f13)), (h0, .inr (9, [.ref b1, .ref b2, .ref b3, .ref b4, .int (nI n), .ref b5, .int (nI pn), .ref b6, .ref b7, .ref b8, .int (nI tn), .int xp, .int xr, .ref b9, .ref b10, .ref b11, .ref b12, .ref b13, .ref b14, .ref b15, .ref b16, .ref b17, .ref b18, .int ik, .ref b19, .ref b20, .ref b21, .ref b22, .ref b23, .ref b24, .ref b25])), (b1, .inl (Z.2 0, 5, .inl f1)), (b3, .inl (Z.2 0, 5, .inl f3)), (b6, .inl (Z.2 0, 5, .inl (q_X9_tryAsk_g6 f1 f3 (fun z => f12 (5 * t + z)) f4 (nI t) (nI uu)))), (b7, .inl (Z.2 0, 5, .inl (q_X9_tryAsk_g7 f3 (fun z => f12 (5 * t + z)) f4 (nI t) (nI uu))))] := hD
      refine lv_iinc (v := 2) (lv' := [(3, .int 2), (2, .int 1), (0, .ref h0), (1, .int (nI t))]) hx hb dX9_goTurn_109 hl (k := 0) rfl (by decide) (by decide) rfl (fun ls hl => ?_)
      refine lv_goto (tgt := 86) hx hb dX9_goTurn_112 (by decide) ?_
      refine lv_iload_n hx hb dX9_goTurn_86 rfl (lv_at hl 0 rfl) ?_
      refine lv_iconst (v := 5) hx hb dX9_goTurn_87 (by decide) ?_
      refine lv_icmp_ge (tgt := 115) hx hb dX9_goTurn_88 (by decide) (fun c9 => absurd c9 (by decide)) (fun _ => ?_)
      refine lv_aload_n hx hb dX9_goTurn_91 rfl (lv_at hl 2 rfl) ?_
      refine va_get (D := Z.1) (ci := 9) (v := .ref b12) (C := RX9) (T := TX9) (N := 31) hx hb hts hin9 hown hK hP 3 rfl rfl 16 (by decide) (hts (.fieldLink RX9 43 "HalfAskedModel" "ahead" "[I") (List.mem_of_getElem? (i := 2) rfl)) (fun _ h9 => h9) rfl dX9_goTurn_92 ?_
      refine lv_iconst (v := 5) hx hb dX9_goTurn_95 (by decide) ?_
      refine lv_iload_n hx hb dX9_goTurn_96 rfl (lv_at hl 3 rfl) ?_
      refine lv_iconst (v := 1) hx hb dX9_goTurn_97 (by decide) ?_
      refine lv_iadd hx hb dX9_goTurn_98 ?_
      refine lv_topi (fun f_64 ef_64 => ?_)
      obtain rfl : nI (t + 1) = f_64 := (ef_64.trans (nI_1 _)).symm
      refine lv_imul hx hb dX9_goTurn_99 ?_
      refine lv_topi (fun f_65 ef_65 => ?_)
      obtain rfl : nI (5 * (t + 1)) = f_65 := (ef_65.trans (pk_mul 5 (t + 1))).symm
      refine lv_iload_n hx hb dX9_goTurn_100 rfl (lv_at hl 0 rfl) ?_
      refine lv_iadd hx hb dX9_goTurn_101 ?_
      refine lv_topi (fun f_66 ef_66 => ?_)
      obtain rfl : nI ((5 * (t + 1)) + 2) = f_66 := (ef_66.trans (nI_add (5 * (t + 1)) 2)).symm
      refine lv_aload_n hx hb dX9_goTurn_102 rfl (lv_at hl 2 rfl) ?_
      refine va_get (D := Z.1) (ci := 9) (v := .ref b6) (C := RX9) (T := TX9) (N := 31) hx hb hts hin9 hown hK hP 3 rfl rfl 7 (by decide) (hts (.fieldLink RX9 25 "HalfAskedModel" "purse" "[I") (List.mem_of_getElem? (i := 1) rfl)) (fun _ h9 => h9) rfl dX9_goTurn_103 ?_
      refine lv_iload_n hx hb dX9_goTurn_106 rfl (lv_at hl 0 rfl) ?_
      refine va_iald hx hb hK hP 6 0 rfl rfl (z_in (by decide)) dX9_goTurn_107 ?_
      refine va_iast hx hb hK hP hD hS 1 0 rfl rfl (vp_in_nI (by omega) (by decide)) dX9_goTurn_108 (fun H locs hP hD hS => ?_)
      have hP : va_P Z.1 vwCl [(b4, .inl (Z.2 0, 5, .inl f4)), (b12, .inl (Z.2 0, 30, .inl (upd (upd (upd f12 ((nI ((5 * (t + 1)) + 0)).toNatClampNeg) ((q_X9_tryAsk_g6 f1 f3 (fun z => f12 (5 * t + z)) f4 (nI t) (nI uu)) 0)) ((nI ((5 * (t + 1)) + 1)).toNatClampNeg) ((q_X9_tryAsk_g6 f1 f3 (fun z => f12 (5 * t + z)) f4 (nI t) (nI uu)) 1)) ((nI ((5 * (t + 1)) + 2)).toNatClampNeg) ((q_X9_tryAsk_g6 f1 f3 (fun z => f12 (5 * t + z)) f4 (nI t) (nI uu)) 2)))), (b13, .inl (Z.2 0, 6, .inl f13)), (h0, .inr (9, [.ref b1, .ref b2, .ref b3, .ref b4, .int (nI n), .ref b5, .int (nI pn), .ref b6, .ref b7, .ref b8, .int (nI tn), .int xp, .int xr, .ref b9, .ref b10, .ref b11, .ref b12, .ref b13, .ref b14, .ref b15, .ref b16, .ref b17, .ref b18, .int ik, .ref b19, .ref b20, .ref b21, .ref b22, .ref b23, .ref b24, .ref b25])), (b1, .inl (Z.2 0, 5, .inl f1)), (b3, .inl (Z.2 0, 5, .inl f3)), (b6, .inl (Z.2 0, 5, .inl (q_X9_tryAsk_g6 f1 f3 (fun z => f12 (5 * t + z)) f4 (nI t) (nI uu)))), (b7, .inl (Z.2 0, 5, .inl (q_X9_tryAsk_g7 f3 (fun z => f12 (5 * t + z)) f4 (nI t) (nI uu))))] H := hP
      have hD : va_D A [(b4, .inl (Z.2 0, 5, .inl f4)), (b12, .inl (Z.2 0, 30, .inl (upd (upd (upd f12 ((nI ((5 * (t + 1)) + 0)).toNatClampNeg) ((q_X9_tryAsk_g6 f1 f3 (fun z => f12 (5 * t + z)) f4 (nI t) (nI uu)) 0)) ((nI ((5 * (t + 1)) + 1)).toNatClampNeg) ((q_X9_tryAsk_g6 f1 f3 (fun z => f12 (5 * t + z)) f4 (nI t) (nI uu)) 1)) ((nI ((5 * (t + 1)) + 2)).toNatClampNeg) ((q_X9_tryAsk_g6 f1 f3 (fun z => f12 (5 * t + z)) f4 (nI t) (nI uu)) 2)))), (b13, .inl (Z.2 0, 6, .inl f13)), (h0, .inr (9, [.ref b1, .ref b2, .ref b3, .ref b4, .int (nI n), .ref b5, .int (nI pn), .ref b6, .ref b7, .ref b8, .int (nI tn), .int xp, .int xr, .ref b9, .ref b10, .ref b11, .ref b12, .ref b13, .ref b14, .ref b15, .ref b16, .ref b17, .ref b18, .int ik, .ref b19, .ref b20, .ref b21, .ref b22, .ref b23, .ref b24, .ref b25])), (b1, .inl (Z.2 0, 5, .inl f1)), (b3, .inl (Z.2 0, 5, .inl f3)), (b6, .inl (Z.2 0, 5, .inl (q_X9_tryAsk_g6 f1 f3 (fun z => f12 (5 * t + z)) f4 (nI t) (nI uu)))), (b7, .inl (Z.2 0, 5, .inl (q_X9_tryAsk_g7 f3 (fun z => f12 (5 * t + z)) f4 (nI t) (nI uu))))] := hD
      refine lv_iinc (v := 3) (lv' := [(3, .int 3), (2, .int 1), (0, .ref h0), (1, .int (nI t))]) hx hb dX9_goTurn_109 hl (k := 0) rfl (by decide) (by decide) rfl (fun ls hl => ?_)
      refine lv_goto (tgt := 86) hx hb dX9_goTurn_112 (by decide) ?_
      refine lv_iload_n hx hb dX9_goTurn_86 rfl (lv_at hl 0 rfl) ?_
      refine lv_iconst (v := 5) hx hb dX9_goTurn_87 (by decide) ?_
      refine lv_icmp_ge (tgt := 115) hx hb dX9_goTurn_88 (by decide) (fun c9 => absurd c9 (by decide)) (fun _ => ?_)
      refine lv_aload_n hx hb dX9_goTurn_91 rfl (lv_at hl 2 rfl) ?_
      refine va_get (D := Z.1) (ci := 9) (v := .ref b12) (C := RX9) (T := TX9) (N := 31) hx hb hts hin9 hown hK hP 3 rfl rfl 16 (by decide) (hts (.fieldLink RX9 43 "HalfAskedModel" "ahead" "[I") (List.mem_of_getElem? (i := 2) rfl)) (fun _ h9 => h9) rfl dX9_goTurn_92 ?_
      refine lv_iconst (v := 5) hx hb dX9_goTurn_95 (by decide) ?_
      refine lv_iload_n hx hb dX9_goTurn_96 rfl (lv_at hl 3 rfl) ?_
      refine lv_iconst (v := 1) hx hb dX9_goTurn_97 (by decide) ?_
      refine lv_iadd hx hb dX9_goTurn_98 ?_
      refine lv_topi (fun f_67 ef_67 => ?_)
      obtain rfl : nI (t + 1) = f_67 := (ef_67.trans (nI_1 _)).symm
      refine lv_imul hx hb dX9_goTurn_99 ?_
      refine lv_topi (fun f_68 ef_68 => ?_)
      obtain rfl : nI (5 * (t + 1)) = f_68 := (ef_68.trans (pk_mul 5 (t + 1))).symm
      refine lv_iload_n hx hb dX9_goTurn_100 rfl (lv_at hl 0 rfl) ?_
      refine lv_iadd hx hb dX9_goTurn_101 ?_
      refine lv_topi (fun f_69 ef_69 => ?_)
      obtain rfl : nI ((5 * (t + 1)) + 3) = f_69 := (ef_69.trans (nI_add (5 * (t + 1)) 3)).symm
      refine lv_aload_n hx hb dX9_goTurn_102 rfl (lv_at hl 2 rfl) ?_
      refine va_get (D := Z.1) (ci := 9) (v := .ref b6) (C := RX9) (T := TX9) (N := 31) hx hb hts hin9 hown hK hP 3 rfl rfl 7 (by decide) (hts (.fieldLink RX9 25 "HalfAskedModel" "purse" "[I") (List.mem_of_getElem? (i := 1) rfl)) (fun _ h9 => h9) rfl dX9_goTurn_103 ?_
      refine lv_iload_n hx hb dX9_goTurn_106 rfl (lv_at hl 0 rfl) ?_
      refine va_iald hx hb hK hP 6 0 rfl rfl (z_in (by decide)) dX9_goTurn_107 ?_
      refine va_iast hx hb hK hP hD hS 1 0 rfl rfl (vp_in_nI (by omega) (by decide)) dX9_goTurn_108 (fun H locs hP hD hS => ?_)
      have hP : va_P Z.1 vwCl [(b4, .inl (Z.2 0, 5, .inl f4)), (b12, .inl (Z.2 0, 30, .inl (upd (upd (upd (upd f12 ((nI ((5 * (t + 1)) + 0)).toNatClampNeg) ((q_X9_tryAsk_g6 f1 f3 (fun z => f12 (5 * t + z)) f4 (nI t) (nI uu)) 0)) ((nI ((5 * (t + 1)) + 1)).toNatClampNeg) ((q_X9_tryAsk_g6 f1 f3 (fun z => f12 (5 * t + z)) f4 (nI t) (nI uu)) 1)) ((nI ((5 * (t + 1)) + 2)).toNatClampNeg) ((q_X9_tryAsk_g6 f1 f3 (fun z => f12 (5 * t + z)) f4 (nI t) (nI uu)) 2)) ((nI ((5 * (t + 1)) + 3)).toNatClampNeg) ((q_X9_tryAsk_g6 f1 f3 (fun z => f12 (5 * t + z)) f4 (nI t) (nI uu)) 3)))), (b13, .inl (Z.2 0, 6, .inl f13)), (h0, .inr (9, [.ref b1, .ref b2, .ref b3, .ref b4, .int (nI n), .ref b5, .int (nI pn), .ref b6, .ref b7, .ref b8, .int (nI tn), .int xp, .int xr, .ref b9, .ref b10, .ref b11, .ref b12, .ref b13, .ref b14, .ref b15, .ref b16, .ref b17, .ref b18, .int ik, .ref b19, .ref b20, .ref b21, .ref b22, .ref b23, .ref b24, .ref b25])), (b1, .inl (Z.2 0, 5, .inl f1)), (b3, .inl (Z.2 0, 5, .inl f3)), (b6, .inl (Z.2 0, 5, .inl (q_X9_tryAsk_g6 f1 f3 (fun z => f12 (5 * t + z)) f4 (nI t) (nI uu)))), (b7, .inl (Z.2 0, 5, .inl (q_X9_tryAsk_g7 f3 (fun z => f12 (5 * t + z)) f4 (nI t) (nI uu))))] H := hP
      have hD : va_D A [(b4, .inl (Z.2 0, 5, .inl f4)), (b12, .inl (Z.2 0, 30, .inl (upd (upd (upd (upd f12 ((nI ((5 * (t + 1)) + 0)).toNatClampNeg) ((q_X9_tryAsk_g6 f1 f3 (fun z => f12 (5 * t + z)) f4 (nI t) (nI uu)) 0)) ((nI ((5 * (t + 1)) + 1)).toNatClampNeg) ((q_X9_tryAsk_g6 f1 f3 (fun z => f12 (5 * t + z)) f4 (nI t) (nI uu)) 1)) ((nI ((5 * (t + 1)) + 2)).toNatClampNeg) ((q_X9_tryAsk_g6 f1 f3 (fun z => f12 (5 * t + z)) f4 (nI t) (nI uu)) 2)) ((nI ((5 * (t + 1)) + 3)).toNatClampNeg) ((q_X9_tryAsk_g6 f1 f3 (fun z => f12 (5 * t + z)) f4 (nI t) (nI uu)) 3)))), (b13, .inl (Z.2 0, 6, .inl f13)), (h0, .inr (9, [.ref b1, .ref b2, .ref b3, .ref b4, .int (nI n), .ref b5, .int (nI pn), .ref b6, .ref b7, .ref b8, .int (nI tn), .int xp, .int xr, .ref b9, .ref b10, .ref b11, .ref b12, .ref b13, .ref b14, .ref b15, .ref b16, .ref b17, .ref b18, .int ik, .ref b19, .ref b20, .ref b21, .ref b22, .ref b23, .ref b24, .ref b25])), (b1, .inl (Z.2 0, 5, .inl f1)), (b3, .inl (Z.2 0, 5, .inl f3)), (b6, .inl (Z.2 0, 5, .inl (q_X9_tryAsk_g6 f1 f3 (fun z => f12 (5 * t + z)) f4 (nI t) (nI uu)))), (b7, .inl (Z.2 0, 5, .inl (q_X9_tryAsk_g7 f3 (fun z => f12 (5 * t + z)) f4 (nI t) (nI uu))))] := hD
      refine lv_iinc (v := 4) (lv' := [(3, .int 4), (2, .int 1), (0, .ref h0), (1, .int (nI t))]) hx hb dX9_goTurn_109 hl (k := 0) rfl (by decide) (by decide) rfl (fun ls hl => ?_)
      refine lv_goto (tgt := 86) hx hb dX9_goTurn_112 (by decide) ?_
      refine lv_iload_n hx hb dX9_goTurn_86 rfl (lv_at hl 0 rfl) ?_
      refine lv_iconst (v := 5) hx hb dX9_goTurn_87 (by decide) ?_
      refine lv_icmp_ge (tgt := 115) hx hb dX9_goTurn_88 (by decide) (fun c9 => absurd c9 (by decide)) (fun _ => ?_)
      refine lv_aload_n hx hb dX9_goTurn_91 rfl (lv_at hl 2 rfl) ?_
      refine va_get (D := Z.1) (ci := 9) (v := .ref b12) (C := RX9) (T := TX9) (N := 31) hx hb hts hin9 hown hK hP 3 rfl rfl 16 (by decide) (hts (.fieldLink RX9 43 "HalfAskedModel" "ahead" "[I") (List.mem_of_getElem? (i := 2) rfl)) (fun _ h9 => h9) rfl dX9_goTurn_92 ?_
      refine lv_iconst (v := 5) hx hb dX9_goTurn_95 (by decide) ?_
      refine lv_iload_n hx hb dX9_goTurn_96 rfl (lv_at hl 3 rfl) ?_
      refine lv_iconst (v := 1) hx hb dX9_goTurn_97 (by decide) ?_
      refine lv_iadd hx hb dX9_goTurn_98 ?_
      refine lv_topi (fun f_70 ef_70 => ?_)
      obtain rfl : nI (t + 1) = f_70 := (ef_70.trans (nI_1 _)).symm
      refine lv_imul hx hb dX9_goTurn_99 ?_
      refine lv_topi (fun f_71 ef_71 => ?_)
      obtain rfl : nI (5 * (t + 1)) = f_71 := (ef_71.trans (pk_mul 5 (t + 1))).symm
      refine lv_iload_n hx hb dX9_goTurn_100 rfl (lv_at hl 0 rfl) ?_
      refine lv_iadd hx hb dX9_goTurn_101 ?_
      refine lv_topi (fun f_72 ef_72 => ?_)
      obtain rfl : nI ((5 * (t + 1)) + 4) = f_72 := (ef_72.trans (nI_add (5 * (t + 1)) 4)).symm
      refine lv_aload_n hx hb dX9_goTurn_102 rfl (lv_at hl 2 rfl) ?_
      refine va_get (D := Z.1) (ci := 9) (v := .ref b6) (C := RX9) (T := TX9) (N := 31) hx hb hts hin9 hown hK hP 3 rfl rfl 7 (by decide) (hts (.fieldLink RX9 25 "HalfAskedModel" "purse" "[I") (List.mem_of_getElem? (i := 1) rfl)) (fun _ h9 => h9) rfl dX9_goTurn_103 ?_
      refine lv_iload_n hx hb dX9_goTurn_106 rfl (lv_at hl 0 rfl) ?_
      refine va_iald hx hb hK hP 6 0 rfl rfl (z_in (by decide)) dX9_goTurn_107 ?_
      refine va_iast hx hb hK hP hD hS 1 0 rfl rfl (vp_in_nI (by omega) (by decide)) dX9_goTurn_108 (fun H locs hP hD hS => ?_)
      have hP : va_P Z.1 vwCl [(b4, .inl (Z.2 0, 5, .inl f4)), (b12, .inl (Z.2 0, 30, .inl (upd (upd (upd (upd (upd f12 ((nI ((5 * (t + 1)) + 0)).toNatClampNeg) ((q_X9_tryAsk_g6 f1 f3 (fun z => f12 (5 * t + z)) f4 (nI t) (nI uu)) 0)) ((nI ((5 * (t + 1)) + 1)).toNatClampNeg) ((q_X9_tryAsk_g6 f1 f3 (fun z => f12 (5 * t + z)) f4 (nI t) (nI uu)) 1)) ((nI ((5 * (t + 1)) + 2)).toNatClampNeg) ((q_X9_tryAsk_g6 f1 f3 (fun z => f12 (5 * t + z)) f4 (nI t) (nI uu)) 2)) ((nI ((5 * (t + 1)) + 3)).toNatClampNeg) ((q_X9_tryAsk_g6 f1 f3 (fun z => f12 (5 * t + z)) f4 (nI t) (nI uu)) 3)) ((nI ((5 * (t + 1)) + 4)).toNatClampNeg) ((q_X9_tryAsk_g6 f1 f3 (fun z => f12 (5 * t + z)) f4 (nI t) (nI uu)) 4)))), (b13, .inl (Z.2 0, 6, .inl f13)), (h0, .inr (9, [.ref b1, .ref b2, .ref b3, .ref b4, .int (nI n), .ref b5, .int (nI pn), .ref b6, .ref b7, .ref b8, .int (nI tn), .int xp, .int xr, .ref b9, .ref b10, .ref b11, .ref b12, .ref b13, .ref b14, .ref b15, .ref b16, .ref b17, .ref b18, .int ik, .ref b19, .ref b20, .ref b21, .ref b22, .ref b23, .ref b24, .ref b25])), (b1, .inl (Z.2 0, 5, .inl f1)), (b3, .inl (Z.2 0, 5, .inl f3)), (b6, .inl (Z.2 0, 5, .inl (q_X9_tryAsk_g6 f1 f3 (fun z => f12 (5 * t + z)) f4 (nI t) (nI uu)))), (b7, .inl (Z.2 0, 5, .inl (q_X9_tryAsk_g7 f3 (fun z => f12 (5 * t + z)) f4 (nI t) (nI uu))))] H := hP
      have hD : va_D A [(b4, .inl (Z.2 0, 5, .inl f4)), (b12, .inl (Z.2 0, 30, .inl (upd (upd (upd (upd (upd f12 ((nI ((5 * (t + 1)) + 0)).toNatClampNeg) ((q_X9_tryAsk_g6 f1 f3 (fun z => f12 (5 * t + z)) f4 (nI t) (nI uu)) 0)) ((nI ((5 * (t + 1)) + 1)).toNatClampNeg) ((q_X9_tryAsk_g6 f1 f3 (fun z => f12 (5 * t + z)) f4 (nI t) (nI uu)) 1)) ((nI ((5 * (t + 1)) + 2)).toNatClampNeg) ((q_X9_tryAsk_g6 f1 f3 (fun z => f12 (5 * t + z)) f4 (nI t) (nI uu)) 2)) ((nI ((5 * (t + 1)) + 3)).toNatClampNeg) ((q_X9_tryAsk_g6 f1 f3 (fun z => f12 (5 * t + z)) f4 (nI t) (nI uu)) 3)) ((nI ((5 * (t + 1)) + 4)).toNatClampNeg) ((q_X9_tryAsk_g6 f1 f3 (fun z => f12 (5 * t + z)) f4 (nI t) (nI uu)) 4)))), (b13, .inl (Z.2 0, 6, .inl f13)), (h0, .inr (9, [.ref b1, .ref b2, .ref b3, .ref b4, .int (nI n), .ref b5, .int (nI pn), .ref b6, .ref b7, .ref b8, .int (nI tn), .int xp, .int xr, .ref b9, .ref b10, .ref b11, .ref b12, .ref b13, .ref b14, .ref b15, .ref b16, .ref b17, .ref b18, .int ik, .ref b19, .ref b20, .ref b21, .ref b22, .ref b23, .ref b24, .ref b25])), (b1, .inl (Z.2 0, 5, .inl f1)), (b3, .inl (Z.2 0, 5, .inl f3)), (b6, .inl (Z.2 0, 5, .inl (q_X9_tryAsk_g6 f1 f3 (fun z => f12 (5 * t + z)) f4 (nI t) (nI uu)))), (b7, .inl (Z.2 0, 5, .inl (q_X9_tryAsk_g7 f3 (fun z => f12 (5 * t + z)) f4 (nI t) (nI uu))))] := hD
      refine lv_iinc (v := 5) (lv' := [(3, .int 5), (2, .int 1), (0, .ref h0), (1, .int (nI t))]) hx hb dX9_goTurn_109 hl (k := 0) rfl (by decide) (by decide) rfl (fun ls hl => ?_)
      refine lv_goto (tgt := 86) hx hb dX9_goTurn_112 (by decide) ?_
      refine lv_iload_n hx hb dX9_goTurn_86 rfl (lv_at hl 0 rfl) ?_
      refine lv_iconst (v := 5) hx hb dX9_goTurn_87 (by decide) ?_
      refine lv_icmp_ge (tgt := 115) hx hb dX9_goTurn_88 (by decide) (fun _ => ?_) (fun c9 => absurd c9 (by decide))
      refine lv_iload_n hx hb dX9_goTurn_115 rfl (lv_at hl 1 rfl) ?_
      have hP9 := hP.sub (ws' := [(h0, .inr (9, [.ref b1, .ref b2, .ref b3, .ref b4, .int (nI n), .ref b5, .int (nI pn), .ref b6, .ref b7, .ref b8, .int (nI tn), .int xp, .int xr, .ref b9, .ref b10, .ref b11, .ref b12, .ref b13, .ref b14, .ref b15, .ref b16, .ref b17, .ref b18, .int ik, .ref b19, .ref b20, .ref b21, .ref b22, .ref b23, .ref b24, .ref b25])), (b1, .inl (Z.2 0, 5, .inl f1)), (b3, .inl (Z.2 0, 5, .inl f3)), (b4, .inl (Z.2 0, 5, .inl f4)), (b6, .inl (Z.2 0, 5, .inl (q_X9_tryAsk_g6 f1 f3 (fun z => f12 (5 * t + z)) f4 (nI t) (nI uu)))), (b7, .inl (Z.2 0, 5, .inl (q_X9_tryAsk_g7 f3 (fun z => f12 (5 * t + z)) f4 (nI t) (nI uu)))), (b12, .inl (Z.2 0, 30, .inl (upd (upd (upd (upd (upd f12 ((nI ((5 * (t + 1)) + 0)).toNatClampNeg) ((q_X9_tryAsk_g6 f1 f3 (fun z => f12 (5 * t + z)) f4 (nI t) (nI uu)) 0)) ((nI ((5 * (t + 1)) + 1)).toNatClampNeg) ((q_X9_tryAsk_g6 f1 f3 (fun z => f12 (5 * t + z)) f4 (nI t) (nI uu)) 1)) ((nI ((5 * (t + 1)) + 2)).toNatClampNeg) ((q_X9_tryAsk_g6 f1 f3 (fun z => f12 (5 * t + z)) f4 (nI t) (nI uu)) 2)) ((nI ((5 * (t + 1)) + 3)).toNatClampNeg) ((q_X9_tryAsk_g6 f1 f3 (fun z => f12 (5 * t + z)) f4 (nI t) (nI uu)) 3)) ((nI ((5 * (t + 1)) + 4)).toNatClampNeg) ((q_X9_tryAsk_g6 f1 f3 (fun z => f12 (5 * t + z)) f4 (nI t) (nI uu)) 4)))), (b13, .inl (Z.2 0, 6, .inl f13))]) [3, 4, 5, 0, 6, 7, 1, 2] rfl
      have hD9 := hD.sub (ws' := [(h0, .inr (9, [.ref b1, .ref b2, .ref b3, .ref b4, .int (nI n), .ref b5, .int (nI pn), .ref b6, .ref b7, .ref b8, .int (nI tn), .int xp, .int xr, .ref b9, .ref b10, .ref b11, .ref b12, .ref b13, .ref b14, .ref b15, .ref b16, .ref b17, .ref b18, .int ik, .ref b19, .ref b20, .ref b21, .ref b22, .ref b23, .ref b24, .ref b25])), (b1, .inl (Z.2 0, 5, .inl f1)), (b3, .inl (Z.2 0, 5, .inl f3)), (b4, .inl (Z.2 0, 5, .inl f4)), (b6, .inl (Z.2 0, 5, .inl (q_X9_tryAsk_g6 f1 f3 (fun z => f12 (5 * t + z)) f4 (nI t) (nI uu)))), (b7, .inl (Z.2 0, 5, .inl (q_X9_tryAsk_g7 f3 (fun z => f12 (5 * t + z)) f4 (nI t) (nI uu)))), (b12, .inl (Z.2 0, 30, .inl (upd (upd (upd (upd (upd f12 ((nI ((5 * (t + 1)) + 0)).toNatClampNeg) ((q_X9_tryAsk_g6 f1 f3 (fun z => f12 (5 * t + z)) f4 (nI t) (nI uu)) 0)) ((nI ((5 * (t + 1)) + 1)).toNatClampNeg) ((q_X9_tryAsk_g6 f1 f3 (fun z => f12 (5 * t + z)) f4 (nI t) (nI uu)) 1)) ((nI ((5 * (t + 1)) + 2)).toNatClampNeg) ((q_X9_tryAsk_g6 f1 f3 (fun z => f12 (5 * t + z)) f4 (nI t) (nI uu)) 2)) ((nI ((5 * (t + 1)) + 3)).toNatClampNeg) ((q_X9_tryAsk_g6 f1 f3 (fun z => f12 (5 * t + z)) f4 (nI t) (nI uu)) 3)) ((nI ((5 * (t + 1)) + 4)).toNatClampNeg) ((q_X9_tryAsk_g6 f1 f3 (fun z => f12 (5 * t + z)) f4 (nI t) (nI uu)) 4)))), (b13, .inl (Z.2 0, 6, .inl f13))]) [3, 4, 5, 0, 6, 7, 1, 2] (by decide +kernel) rfl
      exact W.zret (v := 1) hx hb hr rfl (fun t9 ht hW => ⟨⟨1, (q_X9_tryAsk_g6 f1 f3 (fun z => f12 (5 * t + z)) f4 (nI t) (nI uu), q_X9_tryAsk_g7 f3 (fun z => f12 (5 * t + z)) f4 (nI t) (nI uu), upd (upd (upd (upd (upd f12 ((nI ((5 * (t + 1)) + 0)).toNatClampNeg) ((q_X9_tryAsk_g6 f1 f3 (fun z => f12 (5 * t + z)) f4 (nI t) (nI uu)) 0)) ((nI ((5 * (t + 1)) + 1)).toNatClampNeg) ((q_X9_tryAsk_g6 f1 f3 (fun z => f12 (5 * t + z)) f4 (nI t) (nI uu)) 1)) ((nI ((5 * (t + 1)) + 2)).toNatClampNeg) ((q_X9_tryAsk_g6 f1 f3 (fun z => f12 (5 * t + z)) f4 (nI t) (nI uu)) 2)) ((nI ((5 * (t + 1)) + 3)).toNatClampNeg) ((q_X9_tryAsk_g6 f1 f3 (fun z => f12 (5 * t + z)) f4 (nI t) (nI uu)) 3)) ((nI ((5 * (t + 1)) + 4)).toNatClampNeg) ((q_X9_tryAsk_g6 f1 f3 (fun z => f12 (5 * t + z)) f4 (nI t) (nI uu)) 4)), rfl, ⟨fun z hz => z_row5a (g := (q_X9_tryAsk_g6 f1 f3 (fun z => f12 (5 * t + z)) f4 (nI t) (nI uu))) (p := 5 * (t + 1)) (by omega) hz, Or.inr ⟨rfl, c_19, c_42, fun w hw => z_row5b (g := (q_X9_tryAsk_g6 f1 f3 (fun z => f12 (5 * t + z)) f4 (nI t) (nI uu))) (p := 5 * (t + 1)) (by omega) hw⟩⟩, by rw [ht]; exact hP9, hD9⟩, hS.F ht⟩) hS.2.2 dX9_goTurn_116
def tmJ (P0 : spF) (N n : Nat) : Nat → (Nat → Int32) → (Nat → Int32) → (Nat → Int32) → (Nat → Int32) → Prop
  | 0, _, _, f14, f15 => tmR n P0 f14 f15
  | q + 1, f12, f13, f14, f15 => tmI P0 N n q f12 f13 f14 f15
theorem z_le0 {q : Nat} (hq : q < 1000) (h : nI q ≤ 0) : q = 0 := by
  have h1 := (nI_leI (b := 0) (by omega) (by decide)).mp h
  omega
set_option maxHeartbeats 4000000 in
set_option maxRecDepth 100000 in
theorem lp_X9_findTurns {p : Program} {l : Launch} {e : Env} {s : State} {m : MethodId} {args : Array Value} {below : List Frame} {meth : Method} {c : Code} {Q : State → Prop} {A : Nat → Prop} (Z : gZ) (h0 : Nat) (b1 : Nat) (b2 : Nat) (b3 : Nat) (b4 : Nat) (b5 : Nat) (b6 : Nat) (b7 : Nat) (b8 : Nat) (b9 : Nat) (b10 : Nat) (b11 : Nat) (b12 : Nat) (b13 : Nat) (b14 : Nat) (b15 : Nat) (b16 : Nat) (b17 : Nat) (b18 : Nat) (b19 : Nat) (b20 : Nat) (b21 : Nat) (b22 : Nat) (b23 : Nat) (b24 : Nat) (b25 : Nat) (n : Nat) (pn : Nat) (tn : Nat) (xp : Int32) (xr : Int32) (ik : Int32) (f1 : Nat → Int32) (f2 : Nat → Int32) (f3 : Nat → Int32) (f4 : Nat → Int32) (PP : spF) (NN : Nat) (hn : n ≤ 5) (hF : zFm PP n f1 f2 f3 f4) (hPw : zFw PP NN) (hNN : NN < 1000000000) (hx : p.tables.exec = Jvm.exec) (hb : c.code = cX9_findTurns) (hml : c.maxLocals = 2) (hts : ∀ w ∈ wsX9_findTurns, w.before args s = true) (hown : s.vm.findClass RX9 = some m.cls) (hK : va_K Z.1 vwCl (gT Z) s) (hA : ∀ q : Nat, s.heap.size ≤ q → A q) (kx_101 : ∀ (j : Nat) (x : Int32) (f6 : Nat → Int32) (f7 : Nat → Int32) (f12 : Nat → Int32) (f13 : Nat → Int32) (f14 : Nat → Int32) (f15 : Nat → Int32) (H : Heap) (locs : List Loc) (ls : Array Slot), (tmR n PP f14 f15) → va_P Z.1 vwCl [(h0, .inr (9, [.ref b1, .ref b2, .ref b3, .ref b4, .int (nI n), .ref b5, .int (nI pn), .ref b6, .ref b7, .ref b8, .int (nI tn), .int xp, .int xr, .ref b9, .ref b10, .ref b11, .ref b12, .ref b13, .ref b14, .ref b15, .ref b16, .ref b17, .ref b18, .int ik, .ref b19, .ref b20, .ref b21, .ref b22, .ref b23, .ref b24, .ref b25])), (b1, .inl (Z.2 0, 5, .inl f1)), (b2, .inl (Z.2 0, 5, .inl f2)), (b3, .inl (Z.2 0, 5, .inl f3)), (b4, .inl (Z.2 0, 5, .inl f4)), (b6, .inl (Z.2 0, 5, .inl f6)), (b7, .inl (Z.2 0, 5, .inl f7)), (b12, .inl (Z.2 0, 30, .inl f12)), (b13, .inl (Z.2 0, 6, .inl f13)), (b14, .inl (Z.2 0, 30, .inl f14)), (b15, .inl (Z.2 0, 30, .inl f15))] H → va_D A [(h0, .inr (9, [.ref b1, .ref b2, .ref b3, .ref b4, .int (nI n), .ref b5, .int (nI pn), .ref b6, .ref b7, .ref b8, .int (nI tn), .int xp, .int xr, .ref b9, .ref b10, .ref b11, .ref b12, .ref b13, .ref b14, .ref b15, .ref b16, .ref b17, .ref b18, .int ik, .ref b19, .ref b20, .ref b21, .ref b22, .ref b23, .ref b24, .ref b25])), (b1, .inl (Z.2 0, 5, .inl f1)), (b2, .inl (Z.2 0, 5, .inl f2)), (b3, .inl (Z.2 0, 5, .inl f3)), (b4, .inl (Z.2 0, 5, .inl f4)), (b6, .inl (Z.2 0, 5, .inl f6)), (b7, .inl (Z.2 0, 5, .inl f7)), (b12, .inl (Z.2 0, 30, .inl f12)), (b13, .inl (Z.2 0, 6, .inl f13)), (b14, .inl (Z.2 0, 30, .inl f14)), (b15, .inl (Z.2 0, 30, .inl f15))] → va_S A s.heap H locs → lv_has ls 2 [(0, .ref h0), (1, .int x)] → W p l e ({ frames := 8, cells := 0, slots := 0, locals := 300 } : Room) s m args below meth c H locs 0 0 Q (F0 m 101 ls [])) : ∀ (fu9 : Nat) (j : Nat) (x : Int32) (f6 : Nat → Int32) (f7 : Nat → Int32) (f12 : Nat → Int32) (f13 : Nat → Int32) (f14 : Nat → Int32) (f15 : Nat → Int32), zPh n j f13 < fu9 → (j ≤ n + 1) → (z_dn j x) → (zTr n j f13) → (tmJ PP NN n j f12 f13 f14 f15) → ∀ (H : Heap) (locs : List Loc) (ls : Array Slot), va_P Z.1 vwCl [(h0, .inr (9, [.ref b1, .ref b2, .ref b3, .ref b4, .int (nI n), .ref b5, .int (nI pn), .ref b6, .ref b7, .ref b8, .int (nI tn), .int xp, .int xr, .ref b9, .ref b10, .ref b11, .ref b12, .ref b13, .ref b14, .ref b15, .ref b16, .ref b17, .ref b18, .int ik, .ref b19, .ref b20, .ref b21, .ref b22, .ref b23, .ref b24, .ref b25])), (b1, .inl (Z.2 0, 5, .inl f1)), (b2, .inl (Z.2 0, 5, .inl f2)), (b3, .inl (Z.2 0, 5, .inl f3)), (b4, .inl (Z.2 0, 5, .inl f4)), (b6, .inl (Z.2 0, 5, .inl f6)), (b7, .inl (Z.2 0, 5, .inl f7)), (b12, .inl (Z.2 0, 30, .inl f12)), (b13, .inl (Z.2 0, 6, .inl f13)), (b14, .inl (Z.2 0, 30, .inl f14)), (b15, .inl (Z.2 0, 30, .inl f15))] H → va_D A [(h0, .inr (9, [.ref b1, .ref b2, .ref b3, .ref b4, .int (nI n), .ref b5, .int (nI pn), .ref b6, .ref b7, .ref b8, .int (nI tn), .int xp, .int xr, .ref b9, .ref b10, .ref b11, .ref b12, .ref b13, .ref b14, .ref b15, .ref b16, .ref b17, .ref b18, .int ik, .ref b19, .ref b20, .ref b21, .ref b22, .ref b23, .ref b24, .ref b25])), (b1, .inl (Z.2 0, 5, .inl f1)), (b2, .inl (Z.2 0, 5, .inl f2)), (b3, .inl (Z.2 0, 5, .inl f3)), (b4, .inl (Z.2 0, 5, .inl f4)), (b6, .inl (Z.2 0, 5, .inl f6)), (b7, .inl (Z.2 0, 5, .inl f7)), (b12, .inl (Z.2 0, 30, .inl f12)), (b13, .inl (Z.2 0, 6, .inl f13)), (b14, .inl (Z.2 0, 30, .inl f14)), (b15, .inl (Z.2 0, 30, .inl f15))] → va_S A s.heap H locs → lv_has ls 2 [(0, .ref h0), (1, .int x)] → W p l e ({ frames := 8, cells := 0, slots := 0, locals := 300 } : Room) s m args below meth c H locs 0 0 Q (F0 m 32 ls []) := by
  have hin9 : ∀ w ∈ wsX90, w ∈ wsX9_findTurns := fun w h9 => (List.mem_cons_of_mem _ (List.mem_append_right _ h9))
  intro fu9
  induction fu9 with
  | zero => intro j x f6 f7 f12 f13 f14 f15 hf9; exact absurd hf9 (Nat.not_lt_zero _)
  | succ fu9 ih =>
    intro j x f6 f7 f12 f13 f14 f15 hf9 hj hx0 ht hI H locs ls hP hD hS hl
    rcases hx0 with ⟨rfl, rfl⟩ | ⟨q, rfl, rfl⟩
    · refine lv_iload_n hx hb dX9_findTurns_32 rfl (lv_at hl 1 rfl) ?_
      refine lv_if_lt (tgt := 101) hx hb dX9_findTurns_33 (by decide) (fun _ => ?_) (fun c9 => absurd c9 (by decide))
      exact kx_101 0 (-1) f6 f7 f12 f13 f14 f15 H locs ls (hI) hP hD hS (lv_sub hl [0, 1] rfl)
    · refine lv_iload_n hx hb dX9_findTurns_32 rfl (lv_at hl 1 rfl) ?_
      refine lv_if_lt (tgt := 101) hx hb dX9_findTurns_33 (by decide) (fun c9 => absurd c9 (nI_pos (by omega))) (fun _ => ?_)
      refine lv_iload_n hx hb dX9_findTurns_36 rfl (lv_at hl 1 rfl) ?_
      refine lv_aload_n hx hb dX9_findTurns_37 rfl (lv_at hl 0 rfl) ?_
      refine va_get (D := Z.1) (ci := 9) (v := .int (nI n)) (C := RX9) (T := TX9) (N := 31) hx hb hts hin9 hown hK hP 0 rfl rfl 4 (by decide) (hts (.fieldLink RX9 86 "HalfAskedModel" "many" "I") (List.mem_of_getElem? (i := 3) rfl)) (fun _ h9 => h9) rfl dX9_findTurns_38 ?_
      refine lv_icmp_eq (tgt := 57) hx hb dX9_findTurns_41 (by decide) (fun c_1 => ?_) (fun c_1 => ?_)
      · refine lv_iload_n hx hb dX9_findTurns_57 rfl (lv_at hl 1 rfl) ?_
        refine lv_if_le (tgt := 66) hx hb dX9_findTurns_58 (by decide) (fun c_2 => ?_) (fun c_2 => ?_)
        · refine lv_iinc (v := nI q + (-1)) (lv' := [(1, .int (nI q + (-1))), (0, .ref h0)]) hx hb dX9_findTurns_66 hl (k := 1) rfl rfl (by decide) rfl (fun ls hl => ?_)
          refine lv_goto (tgt := 32) hx hb dX9_findTurns_69 (by decide) ?_
          exact ih q (nI q + (-1)) f6 f7 f12 f13 f14 f15 (by have h8 := zPh_pop ht; omega) (by omega) (z_dn_step q) (zTr_pop ht) (by have h8 := z_le0 (by omega) c_2; subst h8; exact tm_end hn hF.1 hI (Or.inl ((nI_eq (by omega) (by omega)).mp c_1))) H locs ls hP hD hS (lv_sub hl [1, 0] rfl)
        · obtain ⟨t0, rfl⟩ : ∃ t0, q = t0 + 1 := by rcases q with _ | t0; exact absurd (by decide) c_2; exact ⟨t0, rfl⟩
          refine lv_aload_n hx hb dX9_findTurns_61 rfl (lv_at hl 0 rfl) ?_
          refine lv_iload_n hx hb dX9_findTurns_62 rfl (lv_at hl 1 rfl) ?_
          have hPc := hP.sub (ws' := [(h0, .inr (9, [.ref b1, .ref b2, .ref b3, .ref b4, .int (nI n), .ref b5, .int (nI pn), .ref b6, .ref b7, .ref b8, .int (nI tn), .int xp, .int xr, .ref b9, .ref b10, .ref b11, .ref b12, .ref b13, .ref b14, .ref b15, .ref b16, .ref b17, .ref b18, .int ik, .ref b19, .ref b20, .ref b21, .ref b22, .ref b23, .ref b24, .ref b25])), (b13, .inl (Z.2 0, 6, .inl f13)), (b14, .inl (Z.2 0, 30, .inl f14)), (b15, .inl (Z.2 0, 30, .inl f15))]) [0, 8, 9, 10] rfl
          have hDc := hD.sub (ws' := [(h0, .inr (9, [.ref b1, .ref b2, .ref b3, .ref b4, .int (nI n), .ref b5, .int (nI pn), .ref b6, .ref b7, .ref b8, .int (nI tn), .int xp, .int xr, .ref b9, .ref b10, .ref b11, .ref b12, .ref b13, .ref b14, .ref b15, .ref b16, .ref b17, .ref b18, .int ik, .ref b19, .ref b20, .ref b21, .ref b22, .ref b23, .ref b24, .ref b25])), (b13, .inl (Z.2 0, 6, .inl f13)), (b14, .inl (Z.2 0, 30, .inl f14)), (b15, .inl (Z.2 0, 30, .inl f15))]) [0, 8, 9, 10] (by decide +kernel) rfl
          have hFc := va_free (wc := [(h0, .inr (9, [.ref b1, .ref b2, .ref b3, .ref b4, .int (nI n), .ref b5, .int (nI pn), .ref b6, .ref b7, .ref b8, .int (nI tn), .int xp, .int xr, .ref b9, .ref b10, .ref b11, .ref b12, .ref b13, .ref b14, .ref b15, .ref b16, .ref b17, .ref b18, .int ik, .ref b19, .ref b20, .ref b21, .ref b22, .ref b23, .ref b24, .ref b25])), (b13, .inl (Z.2 0, 6, .inl f13)), (b14, .inl (Z.2 0, 30, .inl f14)), (b15, .inl (Z.2 0, 30, .inl f15))]) hD hS hA [0, 8, 9, 10] rfl
          refine va_callv (va_runV (As := [.int (nI (t0 + 1))]) (rest := []) ⟨hx, hb, hml, hown, hts⟩ (c_X9_giveBack l Z H.size h0 b1 b2 b3 b4 b5 b6 b7 b8 b9 b10 b11 b12 b13 b14 b15 b16 b17 b18 b19 b20 b21 b22 b23 b24 b25 n pn tn xp xr ik f13 f14 f15 t0 (by omega)) (cwV 1 hts gX9_findTurns_X9_giveBack rfl rfl rfl (by decide +kernel) ⟨Nat.le_of_ble_eq_true rfl, Nat.le_of_ble_eq_true rfl⟩) ⟨fun a U g mk q => by obtain ⟨q0, q1, qP, qK, qD⟩ := q; exact ⟨q0, q1, qP, va_K.moved (u := U) (U := U.calling g mk a) (Vm.Alike.refl U.vm) qK, qD⟩, va_recv hK hPc (ci := 9) (q0 := 0) rfl rfl, fun U hU hW => ⟨rfl, by rw [hU], by rw [hU]; exact hPc, va_K.moved hW.alike hK, hDc.weaken (fun _ _ _ _ => trivial)⟩⟩ rfl rfl hl.1 rfl (lv_room (Nat.le_of_ble_eq_true rfl)) dX9_findTurns_63 ⟨Nat.le_of_ble_eq_true rfl, Nat.le_of_ble_eq_true rfl⟩) hS (fun q _ h => hFc q h) hFc (fun u t9 H1 locs ht hvm hw hB hz1 hk1 hS => ?_)
          obtain ⟨g14_4, g15_5⟩ := u
          try dsimp only at hw hB
          have hwr_3 := hw
          obtain ⟨hP1, hD1⟩ := hB
          rw [ht] at hP1
          obtain ⟨hP, hD⟩ := va_join (wr := [(b1, .inl (Z.2 0, 5, .inl f1)), (b2, .inl (Z.2 0, 5, .inl f2)), (b3, .inl (Z.2 0, 5, .inl f3)), (b4, .inl (Z.2 0, 5, .inl f4)), (b6, .inl (Z.2 0, 5, .inl f6)), (b7, .inl (Z.2 0, 5, .inl f7)), (b12, .inl (Z.2 0, 30, .inl f12))]) (w1 := [(h0, .inr (9, [.ref b1, .ref b2, .ref b3, .ref b4, .int (nI n), .ref b5, .int (nI pn), .ref b6, .ref b7, .ref b8, .int (nI tn), .int xp, .int xr, .ref b9, .ref b10, .ref b11, .ref b12, .ref b13, .ref b14, .ref b15, .ref b16, .ref b17, .ref b18, .int ik, .ref b19, .ref b20, .ref b21, .ref b22, .ref b23, .ref b24, .ref b25])), (b13, .inl (Z.2 0, 6, .inl f13)), (b14, .inl (Z.2 0, 30, .inl g14_4)), (b15, .inl (Z.2 0, 30, .inl g15_5))]) hP hD [0, 8, 9, 10] [1, 2, 3, 4, 5, 6, 7] rfl rfl (by decide +kernel) (by decide +kernel) hk1 hFc hP1 hD1
          clear hPc hDc hP1 hD1 hk1 hz1 hFc ht hvm
          generalize H1 = H at hP hS ⊢
          have hP : va_P Z.1 vwCl [(b1, .inl (Z.2 0, 5, .inl f1)), (b2, .inl (Z.2 0, 5, .inl f2)), (b3, .inl (Z.2 0, 5, .inl f3)), (b4, .inl (Z.2 0, 5, .inl f4)), (b6, .inl (Z.2 0, 5, .inl f6)), (b7, .inl (Z.2 0, 5, .inl f7)), (b12, .inl (Z.2 0, 30, .inl f12)), (h0, .inr (9, [.ref b1, .ref b2, .ref b3, .ref b4, .int (nI n), .ref b5, .int (nI pn), .ref b6, .ref b7, .ref b8, .int (nI tn), .int xp, .int xr, .ref b9, .ref b10, .ref b11, .ref b12, .ref b13, .ref b14, .ref b15, .ref b16, .ref b17, .ref b18, .int ik, .ref b19, .ref b20, .ref b21, .ref b22, .ref b23, .ref b24, .ref b25])), (b13, .inl (Z.2 0, 6, .inl f13)), (b14, .inl (Z.2 0, 30, .inl g14_4)), (b15, .inl (Z.2 0, 30, .inl g15_5))] H := hP
          have hD : va_D A [(b1, .inl (Z.2 0, 5, .inl f1)), (b2, .inl (Z.2 0, 5, .inl f2)), (b3, .inl (Z.2 0, 5, .inl f3)), (b4, .inl (Z.2 0, 5, .inl f4)), (b6, .inl (Z.2 0, 5, .inl f6)), (b7, .inl (Z.2 0, 5, .inl f7)), (b12, .inl (Z.2 0, 30, .inl f12)), (h0, .inr (9, [.ref b1, .ref b2, .ref b3, .ref b4, .int (nI n), .ref b5, .int (nI pn), .ref b6, .ref b7, .ref b8, .int (nI tn), .int xp, .int xr, .ref b9, .ref b10, .ref b11, .ref b12, .ref b13, .ref b14, .ref b15, .ref b16, .ref b17, .ref b18, .int ik, .ref b19, .ref b20, .ref b21, .ref b22, .ref b23, .ref b24, .ref b25])), (b13, .inl (Z.2 0, 6, .inl f13)), (b14, .inl (Z.2 0, 30, .inl g14_4)), (b15, .inl (Z.2 0, 30, .inl g15_5))] := hD
          refine lv_iinc (v := nI t0) (lv' := [(1, .int (nI t0)), (0, .ref h0)]) hx hb dX9_findTurns_66 hl (k := 1) rfl (pk_m1 _) (by decide) rfl (fun ls hl => ?_)
          refine lv_goto (tgt := 32) hx hb dX9_findTurns_69 (by decide) ?_
          exact ih (t0 + 1) (nI t0) f6 f7 f12 f13 g14_4 g15_5 (by have h8 := zPh_pop ht; omega) (by omega) (Or.inr ⟨t0, rfl, rfl⟩) (zTr_pop ht) (tm_pop hNN hn hF.1 hI (Or.inl ((nI_eq (by omega) (by omega)).mp c_1)) hwr_3) H locs ls (hP.sub [7, 0, 1, 2, 3, 4, 5, 6, 8, 9, 10] rfl) (hD.sub [7, 0, 1, 2, 3, 4, 5, 6, 8, 9, 10] (by decide +kernel) rfl) hS (lv_sub hl [1, 0] rfl)
      · refine lv_aload_n hx hb dX9_findTurns_44 rfl (lv_at hl 0 rfl) ?_
        refine va_get (D := Z.1) (ci := 9) (v := .ref b13) (C := RX9) (T := TX9) (N := 31) hx hb hts hin9 hown hK hP 0 rfl rfl 17 (by decide) (hts (.fieldLink RX9 46 "HalfAskedModel" "tried" "[I") (List.mem_of_getElem? (i := 4) rfl)) (fun _ h9 => h9) rfl dX9_findTurns_45 ?_
        refine lv_iload_n hx hb dX9_findTurns_48 rfl (lv_at hl 1 rfl) ?_
        refine va_iald hx hb hK hP 8 0 rfl rfl (vp_in_nI (by omega) (by decide)) dX9_findTurns_49 ?_
        refine lv_aload_n hx hb dX9_findTurns_50 rfl (lv_at hl 0 rfl) ?_
        refine va_get (D := Z.1) (ci := 9) (v := .int (nI n)) (C := RX9) (T := TX9) (N := 31) hx hb hts hin9 hown hK hP 0 rfl rfl 4 (by decide) (hts (.fieldLink RX9 86 "HalfAskedModel" "many" "I") (List.mem_of_getElem? (i := 3) rfl)) (fun _ h9 => h9) rfl dX9_findTurns_51 ?_
        refine lv_icmp_ne (tgt := 72) hx hb dX9_findTurns_54 (by decide) (fun c_6 => ?_) (fun c_6 => ?_)
        · have hqn : q < n := by rcases Nat.lt_or_ge q n with q9 | q9; exact q9; exact absurd (congrArg nI (show q = n by omega)) c_1
          obtain ⟨v, hvn, ev⟩ := zTr_v hn (by omega) ht c_6
          rcases v with _ | uu
          · refine lv_aload_n hx hb dX9_findTurns_72 rfl (lv_at hl 0 rfl) ?_
            refine va_get (D := Z.1) (ci := 9) (v := .ref b13) (C := RX9) (T := TX9) (N := 31) hx hb hts hin9 hown hK hP 0 rfl rfl 17 (by decide) (hts (.fieldLink RX9 46 "HalfAskedModel" "tried" "[I") (List.mem_of_getElem? (i := 4) rfl)) (fun _ h9 => h9) rfl dX9_findTurns_73 ?_
            refine lv_iload_n hx hb dX9_findTurns_76 rfl (lv_at hl 1 rfl) ?_
            refine lv_dup2_11 hx hb dX9_findTurns_77 rfl rfl ?_
            refine va_iald hx hb hK hP 8 0 rfl rfl (vp_in_nI (by omega) (by decide)) dX9_findTurns_78 ?_
            refine lv_iconst (v := 1) hx hb dX9_findTurns_79 (by decide) ?_
            refine lv_iadd hx hb dX9_findTurns_80 ?_
            refine lv_topi (fun f_7 ef_7 => ?_)
            obtain rfl : nI 0 = f_7 := (ef_7.trans (ev)).symm
            refine va_iast hx hb hK hP hD hS 8 0 rfl rfl (vp_in_nI (by omega) (by decide)) dX9_findTurns_81 (fun H locs hP hD hS => ?_)
            have hP : va_P Z.1 vwCl [(h0, .inr (9, [.ref b1, .ref b2, .ref b3, .ref b4, .int (nI n), .ref b5, .int (nI pn), .ref b6, .ref b7, .ref b8, .int (nI tn), .int xp, .int xr, .ref b9, .ref b10, .ref b11, .ref b12, .ref b13, .ref b14, .ref b15, .ref b16, .ref b17, .ref b18, .int ik, .ref b19, .ref b20, .ref b21, .ref b22, .ref b23, .ref b24, .ref b25])), (b1, .inl (Z.2 0, 5, .inl f1)), (b2, .inl (Z.2 0, 5, .inl f2)), (b3, .inl (Z.2 0, 5, .inl f3)), (b4, .inl (Z.2 0, 5, .inl f4)), (b6, .inl (Z.2 0, 5, .inl f6)), (b7, .inl (Z.2 0, 5, .inl f7)), (b12, .inl (Z.2 0, 30, .inl f12)), (b13, .inl (Z.2 0, 6, .inl (upd f13 ((nI q).toNatClampNeg) (nI 0)))), (b14, .inl (Z.2 0, 30, .inl f14)), (b15, .inl (Z.2 0, 30, .inl f15))] H := hP
            have hD : va_D A [(h0, .inr (9, [.ref b1, .ref b2, .ref b3, .ref b4, .int (nI n), .ref b5, .int (nI pn), .ref b6, .ref b7, .ref b8, .int (nI tn), .int xp, .int xr, .ref b9, .ref b10, .ref b11, .ref b12, .ref b13, .ref b14, .ref b15, .ref b16, .ref b17, .ref b18, .int ik, .ref b19, .ref b20, .ref b21, .ref b22, .ref b23, .ref b24, .ref b25])), (b1, .inl (Z.2 0, 5, .inl f1)), (b2, .inl (Z.2 0, 5, .inl f2)), (b3, .inl (Z.2 0, 5, .inl f3)), (b4, .inl (Z.2 0, 5, .inl f4)), (b6, .inl (Z.2 0, 5, .inl f6)), (b7, .inl (Z.2 0, 5, .inl f7)), (b12, .inl (Z.2 0, 30, .inl f12)), (b13, .inl (Z.2 0, 6, .inl (upd f13 ((nI q).toNatClampNeg) (nI 0)))), (b14, .inl (Z.2 0, 30, .inl f14)), (b15, .inl (Z.2 0, 30, .inl f15))] := hD
            obtain ⟨g13, eg⟩ : ∃ g13, g13 = upd f13 ((nI q).toNatClampNeg) (nI 0) := ⟨_, rfl⟩
            rw [← eg] at hP hD
            rw [nI_clamp (by omega)] at eg ev
            have hP : va_P Z.1 vwCl [(h0, .inr (9, [.ref b1, .ref b2, .ref b3, .ref b4, .int (nI n), .ref b5, .int (nI pn), .ref b6, .ref b7, .ref b8, .int (nI tn), .int xp, .int xr, .ref b9, .ref b10, .ref b11, .ref b12, .ref b13, .ref b14, .ref b15, .ref b16, .ref b17, .ref b18, .int ik, .ref b19, .ref b20, .ref b21, .ref b22, .ref b23, .ref b24, .ref b25])), (b1, .inl (Z.2 0, 5, .inl f1)), (b2, .inl (Z.2 0, 5, .inl f2)), (b3, .inl (Z.2 0, 5, .inl f3)), (b4, .inl (Z.2 0, 5, .inl f4)), (b6, .inl (Z.2 0, 5, .inl f6)), (b7, .inl (Z.2 0, 5, .inl f7)), (b12, .inl (Z.2 0, 30, .inl f12)), (b13, .inl (Z.2 0, 6, .inl g13)), (b14, .inl (Z.2 0, 30, .inl f14)), (b15, .inl (Z.2 0, 30, .inl f15))] H := hP
            have hD : va_D A [(h0, .inr (9, [.ref b1, .ref b2, .ref b3, .ref b4, .int (nI n), .ref b5, .int (nI pn), .ref b6, .ref b7, .ref b8, .int (nI tn), .int xp, .int xr, .ref b9, .ref b10, .ref b11, .ref b12, .ref b13, .ref b14, .ref b15, .ref b16, .ref b17, .ref b18, .int ik, .ref b19, .ref b20, .ref b21, .ref b22, .ref b23, .ref b24, .ref b25])), (b1, .inl (Z.2 0, 5, .inl f1)), (b2, .inl (Z.2 0, 5, .inl f2)), (b3, .inl (Z.2 0, 5, .inl f3)), (b4, .inl (Z.2 0, 5, .inl f4)), (b6, .inl (Z.2 0, 5, .inl f6)), (b7, .inl (Z.2 0, 5, .inl f7)), (b12, .inl (Z.2 0, 30, .inl f12)), (b13, .inl (Z.2 0, 6, .inl g13)), (b14, .inl (Z.2 0, 30, .inl f14)), (b15, .inl (Z.2 0, 30, .inl f15))] := hD
            refine lv_aload_n hx hb dX9_findTurns_82 rfl (lv_at hl 0 rfl) ?_
            refine lv_iload_n hx hb dX9_findTurns_83 rfl (lv_at hl 1 rfl) ?_
            have hPc := hP.sub (ws' := [(h0, .inr (9, [.ref b1, .ref b2, .ref b3, .ref b4, .int (nI n), .ref b5, .int (nI pn), .ref b6, .ref b7, .ref b8, .int (nI tn), .int xp, .int xr, .ref b9, .ref b10, .ref b11, .ref b12, .ref b13, .ref b14, .ref b15, .ref b16, .ref b17, .ref b18, .int ik, .ref b19, .ref b20, .ref b21, .ref b22, .ref b23, .ref b24, .ref b25])), (b1, .inl (Z.2 0, 5, .inl f1)), (b3, .inl (Z.2 0, 5, .inl f3)), (b4, .inl (Z.2 0, 5, .inl f4)), (b6, .inl (Z.2 0, 5, .inl f6)), (b7, .inl (Z.2 0, 5, .inl f7)), (b12, .inl (Z.2 0, 30, .inl f12)), (b13, .inl (Z.2 0, 6, .inl g13))]) [0, 1, 3, 4, 5, 6, 7, 8] rfl
            have hDc := hD.sub (ws' := [(h0, .inr (9, [.ref b1, .ref b2, .ref b3, .ref b4, .int (nI n), .ref b5, .int (nI pn), .ref b6, .ref b7, .ref b8, .int (nI tn), .int xp, .int xr, .ref b9, .ref b10, .ref b11, .ref b12, .ref b13, .ref b14, .ref b15, .ref b16, .ref b17, .ref b18, .int ik, .ref b19, .ref b20, .ref b21, .ref b22, .ref b23, .ref b24, .ref b25])), (b1, .inl (Z.2 0, 5, .inl f1)), (b3, .inl (Z.2 0, 5, .inl f3)), (b4, .inl (Z.2 0, 5, .inl f4)), (b6, .inl (Z.2 0, 5, .inl f6)), (b7, .inl (Z.2 0, 5, .inl f7)), (b12, .inl (Z.2 0, 30, .inl f12)), (b13, .inl (Z.2 0, 6, .inl g13))]) [0, 1, 3, 4, 5, 6, 7, 8] (by decide +kernel) rfl
            have hFc := va_free (wc := [(h0, .inr (9, [.ref b1, .ref b2, .ref b3, .ref b4, .int (nI n), .ref b5, .int (nI pn), .ref b6, .ref b7, .ref b8, .int (nI tn), .int xp, .int xr, .ref b9, .ref b10, .ref b11, .ref b12, .ref b13, .ref b14, .ref b15, .ref b16, .ref b17, .ref b18, .int ik, .ref b19, .ref b20, .ref b21, .ref b22, .ref b23, .ref b24, .ref b25])), (b1, .inl (Z.2 0, 5, .inl f1)), (b3, .inl (Z.2 0, 5, .inl f3)), (b4, .inl (Z.2 0, 5, .inl f4)), (b6, .inl (Z.2 0, 5, .inl f6)), (b7, .inl (Z.2 0, 5, .inl f7)), (b12, .inl (Z.2 0, 30, .inl f12)), (b13, .inl (Z.2 0, 6, .inl g13))]) hD hS hA [0, 1, 3, 4, 5, 6, 7, 8] rfl
            refine va_calli (va_runV (As := [.int (nI q)]) (rest := []) ⟨hx, hb, hml, hown, hts⟩ (c_X9_goTurn_0 l Z H.size h0 b1 b2 b3 b4 b5 b6 b7 b8 b9 b10 b11 b12 b13 b14 b15 b16 b17 b18 b19 b20 b21 b22 b23 b24 b25 n pn tn xp xr ik f1 f3 f4 f6 f7 f12 g13 q (hn) (by omega) (by rw [eg, pk_us]; rfl)) (cwV 1 hts gX9_findTurns_X9_goTurn rfl rfl rfl (by decide +kernel) ⟨Nat.le_of_ble_eq_true rfl, Nat.le_of_ble_eq_true rfl⟩) ⟨fun a U g mk q => by obtain ⟨q0, q1, qP, qK, qD⟩ := q; exact ⟨q0, q1, qP, va_K.moved (u := U) (U := U.calling g mk a) (Vm.Alike.refl U.vm) qK, qD⟩, va_recv hK hPc (ci := 9) (q0 := 0) rfl rfl, fun U hU hW => ⟨rfl, by rw [hU], by rw [hU]; exact hPc, va_K.moved hW.alike hK, hDc.weaken (fun _ _ _ _ => trivial)⟩⟩ rfl rfl hl.1 rfl (lv_room (Nat.le_of_ble_eq_true rfl)) dX9_findTurns_84 ⟨Nat.le_of_ble_eq_true rfl, Nat.le_of_ble_eq_true rfl⟩) hS (fun q _ h => hFc q h) hFc (fun r_8 u t9 H1 locs ht hvm hw hB hz1 hk1 hS => ?_)
            obtain ⟨g6_9, g7_10, g12_11⟩ := u
            try dsimp only at hw hB
            obtain ⟨hw, hwr_8⟩ := hw
            have hw9 := hw.symm
            clear hw
            subst hw9
            obtain ⟨hP1, hD1⟩ := hB
            rw [ht] at hP1
            obtain ⟨hP, hD⟩ := va_join (wr := [(b2, .inl (Z.2 0, 5, .inl f2)), (b14, .inl (Z.2 0, 30, .inl f14)), (b15, .inl (Z.2 0, 30, .inl f15))]) (w1 := [(h0, .inr (9, [.ref b1, .ref b2, .ref b3, .ref b4, .int (nI n), .ref b5, .int (nI pn), .ref b6, .ref b7, .ref b8, .int (nI tn), .int xp, .int xr, .ref b9, .ref b10, .ref b11, .ref b12, .ref b13, .ref b14, .ref b15, .ref b16, .ref b17, .ref b18, .int ik, .ref b19, .ref b20, .ref b21, .ref b22, .ref b23, .ref b24, .ref b25])), (b1, .inl (Z.2 0, 5, .inl f1)), (b3, .inl (Z.2 0, 5, .inl f3)), (b4, .inl (Z.2 0, 5, .inl f4)), (b6, .inl (Z.2 0, 5, .inl g6_9)), (b7, .inl (Z.2 0, 5, .inl g7_10)), (b12, .inl (Z.2 0, 30, .inl g12_11)), (b13, .inl (Z.2 0, 6, .inl g13))]) hP hD [0, 1, 3, 4, 5, 6, 7, 8] [2, 9, 10] rfl rfl (by decide +kernel) (by decide +kernel) hk1 hFc hP1 hD1
            clear hPc hDc hP1 hD1 hk1 hz1 hFc ht hvm
            generalize H1 = H at hP hS ⊢
            have hP : va_P Z.1 vwCl [(b2, .inl (Z.2 0, 5, .inl f2)), (b14, .inl (Z.2 0, 30, .inl f14)), (b15, .inl (Z.2 0, 30, .inl f15)), (h0, .inr (9, [.ref b1, .ref b2, .ref b3, .ref b4, .int (nI n), .ref b5, .int (nI pn), .ref b6, .ref b7, .ref b8, .int (nI tn), .int xp, .int xr, .ref b9, .ref b10, .ref b11, .ref b12, .ref b13, .ref b14, .ref b15, .ref b16, .ref b17, .ref b18, .int ik, .ref b19, .ref b20, .ref b21, .ref b22, .ref b23, .ref b24, .ref b25])), (b1, .inl (Z.2 0, 5, .inl f1)), (b3, .inl (Z.2 0, 5, .inl f3)), (b4, .inl (Z.2 0, 5, .inl f4)), (b6, .inl (Z.2 0, 5, .inl g6_9)), (b7, .inl (Z.2 0, 5, .inl g7_10)), (b12, .inl (Z.2 0, 30, .inl g12_11)), (b13, .inl (Z.2 0, 6, .inl g13))] H := hP
            have hD : va_D A [(b2, .inl (Z.2 0, 5, .inl f2)), (b14, .inl (Z.2 0, 30, .inl f14)), (b15, .inl (Z.2 0, 30, .inl f15)), (h0, .inr (9, [.ref b1, .ref b2, .ref b3, .ref b4, .int (nI n), .ref b5, .int (nI pn), .ref b6, .ref b7, .ref b8, .int (nI tn), .int xp, .int xr, .ref b9, .ref b10, .ref b11, .ref b12, .ref b13, .ref b14, .ref b15, .ref b16, .ref b17, .ref b18, .int ik, .ref b19, .ref b20, .ref b21, .ref b22, .ref b23, .ref b24, .ref b25])), (b1, .inl (Z.2 0, 5, .inl f1)), (b3, .inl (Z.2 0, 5, .inl f3)), (b4, .inl (Z.2 0, 5, .inl f4)), (b6, .inl (Z.2 0, 5, .inl g6_9)), (b7, .inl (Z.2 0, 5, .inl g7_10)), (b12, .inl (Z.2 0, 30, .inl g12_11)), (b13, .inl (Z.2 0, 6, .inl g13))] := hD
            refine lv_if_eq (tgt := 32) hx hb dX9_findTurns_87 (by decide) (fun c9 => absurd c9 (by decide)) (fun _ => ?_)
            refine lv_iinc (v := nI (q + 1)) (lv' := [(1, .int (nI (q + 1))), (0, .ref h0)]) hx hb dX9_findTurns_90 hl (k := 1) rfl (nI_1 _) (by decide) rfl (fun ls hl => ?_)
            refine lv_aload_n hx hb dX9_findTurns_93 rfl (lv_at hl 1 rfl) ?_
            refine lv_iload_n hx hb dX9_findTurns_94 rfl (lv_at hl 0 rfl) ?_
            have hPc := hP.sub (ws' := [(h0, .inr (9, [.ref b1, .ref b2, .ref b3, .ref b4, .int (nI n), .ref b5, .int (nI pn), .ref b6, .ref b7, .ref b8, .int (nI tn), .int xp, .int xr, .ref b9, .ref b10, .ref b11, .ref b12, .ref b13, .ref b14, .ref b15, .ref b16, .ref b17, .ref b18, .int ik, .ref b19, .ref b20, .ref b21, .ref b22, .ref b23, .ref b24, .ref b25])), (b12, .inl (Z.2 0, 30, .inl g12_11)), (b13, .inl (Z.2 0, 6, .inl g13)), (b14, .inl (Z.2 0, 30, .inl f14))]) [3, 9, 10, 1] rfl
            have hDc := hD.sub (ws' := [(h0, .inr (9, [.ref b1, .ref b2, .ref b3, .ref b4, .int (nI n), .ref b5, .int (nI pn), .ref b6, .ref b7, .ref b8, .int (nI tn), .int xp, .int xr, .ref b9, .ref b10, .ref b11, .ref b12, .ref b13, .ref b14, .ref b15, .ref b16, .ref b17, .ref b18, .int ik, .ref b19, .ref b20, .ref b21, .ref b22, .ref b23, .ref b24, .ref b25])), (b12, .inl (Z.2 0, 30, .inl g12_11)), (b13, .inl (Z.2 0, 6, .inl g13)), (b14, .inl (Z.2 0, 30, .inl f14))]) [3, 9, 10, 1] (by decide +kernel) rfl
            have hFc := va_free (wc := [(h0, .inr (9, [.ref b1, .ref b2, .ref b3, .ref b4, .int (nI n), .ref b5, .int (nI pn), .ref b6, .ref b7, .ref b8, .int (nI tn), .int xp, .int xr, .ref b9, .ref b10, .ref b11, .ref b12, .ref b13, .ref b14, .ref b15, .ref b16, .ref b17, .ref b18, .int ik, .ref b19, .ref b20, .ref b21, .ref b22, .ref b23, .ref b24, .ref b25])), (b12, .inl (Z.2 0, 30, .inl g12_11)), (b13, .inl (Z.2 0, 6, .inl g13)), (b14, .inl (Z.2 0, 30, .inl f14))]) hD hS hA [3, 9, 10, 1] rfl
            refine va_callv (va_runV (As := [.int (nI (q + 1))]) (rest := []) ⟨hx, hb, hml, hown, hts⟩ (c_X9_beginTurn l Z H.size h0 b1 b2 b3 b4 b5 b6 b7 b8 b9 b10 b11 b12 b13 b14 b15 b16 b17 b18 b19 b20 b21 b22 b23 b24 b25 n pn tn xp xr ik g12_11 g13 f14 (q + 1) (by omega)) (cwV 1 hts gX9_findTurns_X9_beginTurn rfl rfl rfl (by decide +kernel) ⟨Nat.le_of_ble_eq_true rfl, Nat.le_of_ble_eq_true rfl⟩) ⟨fun a U g mk q => by obtain ⟨q0, q1, qP, qK, qD⟩ := q; exact ⟨q0, q1, qP, va_K.moved (u := U) (U := U.calling g mk a) (Vm.Alike.refl U.vm) qK, qD⟩, va_recv hK hPc (ci := 9) (q0 := 0) rfl rfl, fun U hU hW => ⟨rfl, by rw [hU], by rw [hU]; exact hPc, va_K.moved hW.alike hK, hDc.weaken (fun _ _ _ _ => trivial)⟩⟩ rfl rfl hl.1 rfl (lv_room (Nat.le_of_ble_eq_true rfl)) dX9_findTurns_95 ⟨Nat.le_of_ble_eq_true rfl, Nat.le_of_ble_eq_true rfl⟩) hS (fun q _ h => hFc q h) hFc (fun u t9 H1 locs ht hvm hw hB hz1 hk1 hS => ?_)
            obtain ⟨g13_13, g14_14⟩ := u
            try dsimp only at hw hB
            have hwr_12 := hw
            obtain ⟨hP1, hD1⟩ := hB
            rw [ht] at hP1
            obtain ⟨hP, hD⟩ := va_join (wr := [(b2, .inl (Z.2 0, 5, .inl f2)), (b15, .inl (Z.2 0, 30, .inl f15)), (b1, .inl (Z.2 0, 5, .inl f1)), (b3, .inl (Z.2 0, 5, .inl f3)), (b4, .inl (Z.2 0, 5, .inl f4)), (b6, .inl (Z.2 0, 5, .inl g6_9)), (b7, .inl (Z.2 0, 5, .inl g7_10))]) (w1 := [(h0, .inr (9, [.ref b1, .ref b2, .ref b3, .ref b4, .int (nI n), .ref b5, .int (nI pn), .ref b6, .ref b7, .ref b8, .int (nI tn), .int xp, .int xr, .ref b9, .ref b10, .ref b11, .ref b12, .ref b13, .ref b14, .ref b15, .ref b16, .ref b17, .ref b18, .int ik, .ref b19, .ref b20, .ref b21, .ref b22, .ref b23, .ref b24, .ref b25])), (b12, .inl (Z.2 0, 30, .inl g12_11)), (b13, .inl (Z.2 0, 6, .inl g13_13)), (b14, .inl (Z.2 0, 30, .inl g14_14))]) hP hD [3, 9, 10, 1] [0, 2, 4, 5, 6, 7, 8] rfl rfl (by decide +kernel) (by decide +kernel) hk1 hFc hP1 hD1
            clear hPc hDc hP1 hD1 hk1 hz1 hFc ht hvm
            generalize H1 = H at hP hS ⊢
            have hP : va_P Z.1 vwCl [(b2, .inl (Z.2 0, 5, .inl f2)), (b15, .inl (Z.2 0, 30, .inl f15)), (b1, .inl (Z.2 0, 5, .inl f1)), (b3, .inl (Z.2 0, 5, .inl f3)), (b4, .inl (Z.2 0, 5, .inl f4)), (b6, .inl (Z.2 0, 5, .inl g6_9)), (b7, .inl (Z.2 0, 5, .inl g7_10)), (h0, .inr (9, [.ref b1, .ref b2, .ref b3, .ref b4, .int (nI n), .ref b5, .int (nI pn), .ref b6, .ref b7, .ref b8, .int (nI tn), .int xp, .int xr, .ref b9, .ref b10, .ref b11, .ref b12, .ref b13, .ref b14, .ref b15, .ref b16, .ref b17, .ref b18, .int ik, .ref b19, .ref b20, .ref b21, .ref b22, .ref b23, .ref b24, .ref b25])), (b12, .inl (Z.2 0, 30, .inl g12_11)), (b13, .inl (Z.2 0, 6, .inl g13_13)), (b14, .inl (Z.2 0, 30, .inl g14_14))] H := hP
            have hD : va_D A [(b2, .inl (Z.2 0, 5, .inl f2)), (b15, .inl (Z.2 0, 30, .inl f15)), (b1, .inl (Z.2 0, 5, .inl f1)), (b3, .inl (Z.2 0, 5, .inl f3)), (b4, .inl (Z.2 0, 5, .inl f4)), (b6, .inl (Z.2 0, 5, .inl g6_9)), (b7, .inl (Z.2 0, 5, .inl g7_10)), (h0, .inr (9, [.ref b1, .ref b2, .ref b3, .ref b4, .int (nI n), .ref b5, .int (nI pn), .ref b6, .ref b7, .ref b8, .int (nI tn), .int xp, .int xr, .ref b9, .ref b10, .ref b11, .ref b12, .ref b13, .ref b14, .ref b15, .ref b16, .ref b17, .ref b18, .int ik, .ref b19, .ref b20, .ref b21, .ref b22, .ref b23, .ref b24, .ref b25])), (b12, .inl (Z.2 0, 30, .inl g12_11)), (b13, .inl (Z.2 0, 6, .inl g13_13)), (b14, .inl (Z.2 0, 30, .inl g14_14))] := hD
            have eb := hwr_12
            refine lv_goto (tgt := 32) hx hb dX9_findTurns_98 (by decide) ?_
            exact ih (q + 2) (nI (q + 1)) g6_9 g7_10 g12_11 g13_13 g14_14 f15 (by rw [eb.2.2, eg]; have h8 := zPh_push hn (by omega) hvn ev; omega) (by omega) (Or.inr ⟨q + 1, rfl, rfl⟩) (by rw [eb.2.2, eg]; exact zTr_push (zTr_inc hn hvn ht)) (by rw [eb.2.2, eg]; exact tm_push hF hNN hn hI hqn ev hvn (Or.inl ⟨rfl, hwr_8.2⟩) hwr_8.1 eb.1 eb.2.1) H locs ls (hP.sub [7, 2, 0, 3, 4, 5, 6, 8, 9, 10, 1] rfl) (hD.sub [7, 2, 0, 3, 4, 5, 6, 8, 9, 10, 1] (by decide +kernel) rfl) hS (lv_sub hl [1, 0] rfl)
          · refine lv_aload_n hx hb dX9_findTurns_72 rfl (lv_at hl 0 rfl) ?_
            refine va_get (D := Z.1) (ci := 9) (v := .ref b13) (C := RX9) (T := TX9) (N := 31) hx hb hts hin9 hown hK hP 0 rfl rfl 17 (by decide) (hts (.fieldLink RX9 46 "HalfAskedModel" "tried" "[I") (List.mem_of_getElem? (i := 4) rfl)) (fun _ h9 => h9) rfl dX9_findTurns_73 ?_
            refine lv_iload_n hx hb dX9_findTurns_76 rfl (lv_at hl 1 rfl) ?_
            refine lv_dup2_11 hx hb dX9_findTurns_77 rfl rfl ?_
            refine va_iald hx hb hK hP 8 0 rfl rfl (vp_in_nI (by omega) (by decide)) dX9_findTurns_78 ?_
            refine lv_iconst (v := 1) hx hb dX9_findTurns_79 (by decide) ?_
            refine lv_iadd hx hb dX9_findTurns_80 ?_
            refine lv_topi (fun f_15 ef_15 => ?_)
            obtain rfl : nI (uu + 1) = f_15 := (ef_15.trans (ev)).symm
            refine va_iast hx hb hK hP hD hS 8 0 rfl rfl (vp_in_nI (by omega) (by decide)) dX9_findTurns_81 (fun H locs hP hD hS => ?_)
            have hP : va_P Z.1 vwCl [(h0, .inr (9, [.ref b1, .ref b2, .ref b3, .ref b4, .int (nI n), .ref b5, .int (nI pn), .ref b6, .ref b7, .ref b8, .int (nI tn), .int xp, .int xr, .ref b9, .ref b10, .ref b11, .ref b12, .ref b13, .ref b14, .ref b15, .ref b16, .ref b17, .ref b18, .int ik, .ref b19, .ref b20, .ref b21, .ref b22, .ref b23, .ref b24, .ref b25])), (b1, .inl (Z.2 0, 5, .inl f1)), (b2, .inl (Z.2 0, 5, .inl f2)), (b3, .inl (Z.2 0, 5, .inl f3)), (b4, .inl (Z.2 0, 5, .inl f4)), (b6, .inl (Z.2 0, 5, .inl f6)), (b7, .inl (Z.2 0, 5, .inl f7)), (b12, .inl (Z.2 0, 30, .inl f12)), (b13, .inl (Z.2 0, 6, .inl (upd f13 ((nI q).toNatClampNeg) (nI (uu + 1))))), (b14, .inl (Z.2 0, 30, .inl f14)), (b15, .inl (Z.2 0, 30, .inl f15))] H := hP
            have hD : va_D A [(h0, .inr (9, [.ref b1, .ref b2, .ref b3, .ref b4, .int (nI n), .ref b5, .int (nI pn), .ref b6, .ref b7, .ref b8, .int (nI tn), .int xp, .int xr, .ref b9, .ref b10, .ref b11, .ref b12, .ref b13, .ref b14, .ref b15, .ref b16, .ref b17, .ref b18, .int ik, .ref b19, .ref b20, .ref b21, .ref b22, .ref b23, .ref b24, .ref b25])), (b1, .inl (Z.2 0, 5, .inl f1)), (b2, .inl (Z.2 0, 5, .inl f2)), (b3, .inl (Z.2 0, 5, .inl f3)), (b4, .inl (Z.2 0, 5, .inl f4)), (b6, .inl (Z.2 0, 5, .inl f6)), (b7, .inl (Z.2 0, 5, .inl f7)), (b12, .inl (Z.2 0, 30, .inl f12)), (b13, .inl (Z.2 0, 6, .inl (upd f13 ((nI q).toNatClampNeg) (nI (uu + 1))))), (b14, .inl (Z.2 0, 30, .inl f14)), (b15, .inl (Z.2 0, 30, .inl f15))] := hD
            obtain ⟨g13, eg⟩ : ∃ g13, g13 = upd f13 ((nI q).toNatClampNeg) (nI (uu + 1)) := ⟨_, rfl⟩
            rw [← eg] at hP hD
            rw [nI_clamp (by omega)] at eg ev
            have hP : va_P Z.1 vwCl [(h0, .inr (9, [.ref b1, .ref b2, .ref b3, .ref b4, .int (nI n), .ref b5, .int (nI pn), .ref b6, .ref b7, .ref b8, .int (nI tn), .int xp, .int xr, .ref b9, .ref b10, .ref b11, .ref b12, .ref b13, .ref b14, .ref b15, .ref b16, .ref b17, .ref b18, .int ik, .ref b19, .ref b20, .ref b21, .ref b22, .ref b23, .ref b24, .ref b25])), (b1, .inl (Z.2 0, 5, .inl f1)), (b2, .inl (Z.2 0, 5, .inl f2)), (b3, .inl (Z.2 0, 5, .inl f3)), (b4, .inl (Z.2 0, 5, .inl f4)), (b6, .inl (Z.2 0, 5, .inl f6)), (b7, .inl (Z.2 0, 5, .inl f7)), (b12, .inl (Z.2 0, 30, .inl f12)), (b13, .inl (Z.2 0, 6, .inl g13)), (b14, .inl (Z.2 0, 30, .inl f14)), (b15, .inl (Z.2 0, 30, .inl f15))] H := hP
            have hD : va_D A [(h0, .inr (9, [.ref b1, .ref b2, .ref b3, .ref b4, .int (nI n), .ref b5, .int (nI pn), .ref b6, .ref b7, .ref b8, .int (nI tn), .int xp, .int xr, .ref b9, .ref b10, .ref b11, .ref b12, .ref b13, .ref b14, .ref b15, .ref b16, .ref b17, .ref b18, .int ik, .ref b19, .ref b20, .ref b21, .ref b22, .ref b23, .ref b24, .ref b25])), (b1, .inl (Z.2 0, 5, .inl f1)), (b2, .inl (Z.2 0, 5, .inl f2)), (b3, .inl (Z.2 0, 5, .inl f3)), (b4, .inl (Z.2 0, 5, .inl f4)), (b6, .inl (Z.2 0, 5, .inl f6)), (b7, .inl (Z.2 0, 5, .inl f7)), (b12, .inl (Z.2 0, 30, .inl f12)), (b13, .inl (Z.2 0, 6, .inl g13)), (b14, .inl (Z.2 0, 30, .inl f14)), (b15, .inl (Z.2 0, 30, .inl f15))] := hD
            refine lv_aload_n hx hb dX9_findTurns_82 rfl (lv_at hl 0 rfl) ?_
            refine lv_iload_n hx hb dX9_findTurns_83 rfl (lv_at hl 1 rfl) ?_
            have hPc := hP.sub (ws' := [(h0, .inr (9, [.ref b1, .ref b2, .ref b3, .ref b4, .int (nI n), .ref b5, .int (nI pn), .ref b6, .ref b7, .ref b8, .int (nI tn), .int xp, .int xr, .ref b9, .ref b10, .ref b11, .ref b12, .ref b13, .ref b14, .ref b15, .ref b16, .ref b17, .ref b18, .int ik, .ref b19, .ref b20, .ref b21, .ref b22, .ref b23, .ref b24, .ref b25])), (b1, .inl (Z.2 0, 5, .inl f1)), (b3, .inl (Z.2 0, 5, .inl f3)), (b4, .inl (Z.2 0, 5, .inl f4)), (b6, .inl (Z.2 0, 5, .inl f6)), (b7, .inl (Z.2 0, 5, .inl f7)), (b12, .inl (Z.2 0, 30, .inl f12)), (b13, .inl (Z.2 0, 6, .inl g13))]) [0, 1, 3, 4, 5, 6, 7, 8] rfl
            have hDc := hD.sub (ws' := [(h0, .inr (9, [.ref b1, .ref b2, .ref b3, .ref b4, .int (nI n), .ref b5, .int (nI pn), .ref b6, .ref b7, .ref b8, .int (nI tn), .int xp, .int xr, .ref b9, .ref b10, .ref b11, .ref b12, .ref b13, .ref b14, .ref b15, .ref b16, .ref b17, .ref b18, .int ik, .ref b19, .ref b20, .ref b21, .ref b22, .ref b23, .ref b24, .ref b25])), (b1, .inl (Z.2 0, 5, .inl f1)), (b3, .inl (Z.2 0, 5, .inl f3)), (b4, .inl (Z.2 0, 5, .inl f4)), (b6, .inl (Z.2 0, 5, .inl f6)), (b7, .inl (Z.2 0, 5, .inl f7)), (b12, .inl (Z.2 0, 30, .inl f12)), (b13, .inl (Z.2 0, 6, .inl g13))]) [0, 1, 3, 4, 5, 6, 7, 8] (by decide +kernel) rfl
            have hFc := va_free (wc := [(h0, .inr (9, [.ref b1, .ref b2, .ref b3, .ref b4, .int (nI n), .ref b5, .int (nI pn), .ref b6, .ref b7, .ref b8, .int (nI tn), .int xp, .int xr, .ref b9, .ref b10, .ref b11, .ref b12, .ref b13, .ref b14, .ref b15, .ref b16, .ref b17, .ref b18, .int ik, .ref b19, .ref b20, .ref b21, .ref b22, .ref b23, .ref b24, .ref b25])), (b1, .inl (Z.2 0, 5, .inl f1)), (b3, .inl (Z.2 0, 5, .inl f3)), (b4, .inl (Z.2 0, 5, .inl f4)), (b6, .inl (Z.2 0, 5, .inl f6)), (b7, .inl (Z.2 0, 5, .inl f7)), (b12, .inl (Z.2 0, 30, .inl f12)), (b13, .inl (Z.2 0, 6, .inl g13))]) hD hS hA [0, 1, 3, 4, 5, 6, 7, 8] rfl
            refine va_calli (va_runV (As := [.int (nI q)]) (rest := []) ⟨hx, hb, hml, hown, hts⟩ (c_X9_goTurn_s l Z H.size h0 b1 b2 b3 b4 b5 b6 b7 b8 b9 b10 b11 b12 b13 b14 b15 b16 b17 b18 b19 b20 b21 b22 b23 b24 b25 n pn tn xp xr ik f1 f3 f4 f6 f7 f12 g13 q uu (hn) (by omega) (by rw [eg, pk_us]) (by omega)) (cwV 1 hts gX9_findTurns_X9_goTurn rfl rfl rfl (by decide +kernel) ⟨Nat.le_of_ble_eq_true rfl, Nat.le_of_ble_eq_true rfl⟩) ⟨fun a U g mk q => by obtain ⟨q0, q1, qP, qK, qD⟩ := q; exact ⟨q0, q1, qP, va_K.moved (u := U) (U := U.calling g mk a) (Vm.Alike.refl U.vm) qK, qD⟩, va_recv hK hPc (ci := 9) (q0 := 0) rfl rfl, fun U hU hW => ⟨rfl, by rw [hU], by rw [hU]; exact hPc, va_K.moved hW.alike hK, hDc.weaken (fun _ _ _ _ => trivial)⟩⟩ rfl rfl hl.1 rfl (lv_room (Nat.le_of_ble_eq_true rfl)) dX9_findTurns_84 ⟨Nat.le_of_ble_eq_true rfl, Nat.le_of_ble_eq_true rfl⟩) hS (fun q _ h => hFc q h) hFc (fun r_16 u t9 H1 locs ht hvm hw hB hz1 hk1 hS => ?_)
            obtain ⟨g6_17, g7_18, g12_19⟩ := u
            try dsimp only at hw hB
            have hwr_16 := hw
            obtain ⟨hP1, hD1⟩ := hB
            rw [ht] at hP1
            obtain ⟨hP, hD⟩ := va_join (wr := [(b2, .inl (Z.2 0, 5, .inl f2)), (b14, .inl (Z.2 0, 30, .inl f14)), (b15, .inl (Z.2 0, 30, .inl f15))]) (w1 := [(h0, .inr (9, [.ref b1, .ref b2, .ref b3, .ref b4, .int (nI n), .ref b5, .int (nI pn), .ref b6, .ref b7, .ref b8, .int (nI tn), .int xp, .int xr, .ref b9, .ref b10, .ref b11, .ref b12, .ref b13, .ref b14, .ref b15, .ref b16, .ref b17, .ref b18, .int ik, .ref b19, .ref b20, .ref b21, .ref b22, .ref b23, .ref b24, .ref b25])), (b1, .inl (Z.2 0, 5, .inl f1)), (b3, .inl (Z.2 0, 5, .inl f3)), (b4, .inl (Z.2 0, 5, .inl f4)), (b6, .inl (Z.2 0, 5, .inl g6_17)), (b7, .inl (Z.2 0, 5, .inl g7_18)), (b12, .inl (Z.2 0, 30, .inl g12_19)), (b13, .inl (Z.2 0, 6, .inl g13))]) hP hD [0, 1, 3, 4, 5, 6, 7, 8] [2, 9, 10] rfl rfl (by decide +kernel) (by decide +kernel) hk1 hFc hP1 hD1
            clear hPc hDc hP1 hD1 hk1 hz1 hFc ht hvm
            generalize H1 = H at hP hS ⊢
            have hP : va_P Z.1 vwCl [(b2, .inl (Z.2 0, 5, .inl f2)), (b14, .inl (Z.2 0, 30, .inl f14)), (b15, .inl (Z.2 0, 30, .inl f15)), (h0, .inr (9, [.ref b1, .ref b2, .ref b3, .ref b4, .int (nI n), .ref b5, .int (nI pn), .ref b6, .ref b7, .ref b8, .int (nI tn), .int xp, .int xr, .ref b9, .ref b10, .ref b11, .ref b12, .ref b13, .ref b14, .ref b15, .ref b16, .ref b17, .ref b18, .int ik, .ref b19, .ref b20, .ref b21, .ref b22, .ref b23, .ref b24, .ref b25])), (b1, .inl (Z.2 0, 5, .inl f1)), (b3, .inl (Z.2 0, 5, .inl f3)), (b4, .inl (Z.2 0, 5, .inl f4)), (b6, .inl (Z.2 0, 5, .inl g6_17)), (b7, .inl (Z.2 0, 5, .inl g7_18)), (b12, .inl (Z.2 0, 30, .inl g12_19)), (b13, .inl (Z.2 0, 6, .inl g13))] H := hP
            have hD : va_D A [(b2, .inl (Z.2 0, 5, .inl f2)), (b14, .inl (Z.2 0, 30, .inl f14)), (b15, .inl (Z.2 0, 30, .inl f15)), (h0, .inr (9, [.ref b1, .ref b2, .ref b3, .ref b4, .int (nI n), .ref b5, .int (nI pn), .ref b6, .ref b7, .ref b8, .int (nI tn), .int xp, .int xr, .ref b9, .ref b10, .ref b11, .ref b12, .ref b13, .ref b14, .ref b15, .ref b16, .ref b17, .ref b18, .int ik, .ref b19, .ref b20, .ref b21, .ref b22, .ref b23, .ref b24, .ref b25])), (b1, .inl (Z.2 0, 5, .inl f1)), (b3, .inl (Z.2 0, 5, .inl f3)), (b4, .inl (Z.2 0, 5, .inl f4)), (b6, .inl (Z.2 0, 5, .inl g6_17)), (b7, .inl (Z.2 0, 5, .inl g7_18)), (b12, .inl (Z.2 0, 30, .inl g12_19)), (b13, .inl (Z.2 0, 6, .inl g13))] := hD
            rcases hwr_16.2 with ⟨rfl, hr9⟩ | ⟨rfl, hr9⟩
            · refine lv_if_eq (tgt := 32) hx hb dX9_findTurns_87 (by decide) (fun _ => ?_) (fun c9 => absurd c9 (by decide))
              exact ih (q + 1) (nI q) g6_17 g7_18 g12_19 g13 f14 f15 (by rw [eg]; have h8 := zPh_inc hn hvn ev; have h7 := (z_p10 (show q < 5 by omega)); omega) (by omega) (Or.inr ⟨q, rfl, rfl⟩) (by rw [eg]; exact zTr_inc hn hvn ht) (by rw [eg]; exact tm_fail hF hNN hn hI hqn ev (by omega) hr9 hwr_16.1) H locs ls (hP.sub [3, 4, 0, 5, 6, 7, 8, 9, 10, 1, 2] rfl) (hD.sub [3, 4, 0, 5, 6, 7, 8, 9, 10, 1, 2] (by decide +kernel) rfl) hS (lv_sub hl [0, 1] rfl)
            · refine lv_if_eq (tgt := 32) hx hb dX9_findTurns_87 (by decide) (fun c9 => absurd c9 (by decide)) (fun _ => ?_)
              refine lv_iinc (v := nI (q + 1)) (lv' := [(1, .int (nI (q + 1))), (0, .ref h0)]) hx hb dX9_findTurns_90 hl (k := 1) rfl (nI_1 _) (by decide) rfl (fun ls hl => ?_)
              refine lv_aload_n hx hb dX9_findTurns_93 rfl (lv_at hl 1 rfl) ?_
              refine lv_iload_n hx hb dX9_findTurns_94 rfl (lv_at hl 0 rfl) ?_
              have hPc := hP.sub (ws' := [(h0, .inr (9, [.ref b1, .ref b2, .ref b3, .ref b4, .int (nI n), .ref b5, .int (nI pn), .ref b6, .ref b7, .ref b8, .int (nI tn), .int xp, .int xr, .ref b9, .ref b10, .ref b11, .ref b12, .ref b13, .ref b14, .ref b15, .ref b16, .ref b17, .ref b18, .int ik, .ref b19, .ref b20, .ref b21, .ref b22, .ref b23, .ref b24, .ref b25])), (b12, .inl (Z.2 0, 30, .inl g12_19)), (b13, .inl (Z.2 0, 6, .inl g13)), (b14, .inl (Z.2 0, 30, .inl f14))]) [3, 9, 10, 1] rfl
              have hDc := hD.sub (ws' := [(h0, .inr (9, [.ref b1, .ref b2, .ref b3, .ref b4, .int (nI n), .ref b5, .int (nI pn), .ref b6, .ref b7, .ref b8, .int (nI tn), .int xp, .int xr, .ref b9, .ref b10, .ref b11, .ref b12, .ref b13, .ref b14, .ref b15, .ref b16, .ref b17, .ref b18, .int ik, .ref b19, .ref b20, .ref b21, .ref b22, .ref b23, .ref b24, .ref b25])), (b12, .inl (Z.2 0, 30, .inl g12_19)), (b13, .inl (Z.2 0, 6, .inl g13)), (b14, .inl (Z.2 0, 30, .inl f14))]) [3, 9, 10, 1] (by decide +kernel) rfl
              have hFc := va_free (wc := [(h0, .inr (9, [.ref b1, .ref b2, .ref b3, .ref b4, .int (nI n), .ref b5, .int (nI pn), .ref b6, .ref b7, .ref b8, .int (nI tn), .int xp, .int xr, .ref b9, .ref b10, .ref b11, .ref b12, .ref b13, .ref b14, .ref b15, .ref b16, .ref b17, .ref b18, .int ik, .ref b19, .ref b20, .ref b21, .ref b22, .ref b23, .ref b24, .ref b25])), (b12, .inl (Z.2 0, 30, .inl g12_19)), (b13, .inl (Z.2 0, 6, .inl g13)), (b14, .inl (Z.2 0, 30, .inl f14))]) hD hS hA [3, 9, 10, 1] rfl
              refine va_callv (va_runV (As := [.int (nI (q + 1))]) (rest := []) ⟨hx, hb, hml, hown, hts⟩ (c_X9_beginTurn l Z H.size h0 b1 b2 b3 b4 b5 b6 b7 b8 b9 b10 b11 b12 b13 b14 b15 b16 b17 b18 b19 b20 b21 b22 b23 b24 b25 n pn tn xp xr ik g12_19 g13 f14 (q + 1) (by omega)) (cwV 1 hts gX9_findTurns_X9_beginTurn rfl rfl rfl (by decide +kernel) ⟨Nat.le_of_ble_eq_true rfl, Nat.le_of_ble_eq_true rfl⟩) ⟨fun a U g mk q => by obtain ⟨q0, q1, qP, qK, qD⟩ := q; exact ⟨q0, q1, qP, va_K.moved (u := U) (U := U.calling g mk a) (Vm.Alike.refl U.vm) qK, qD⟩, va_recv hK hPc (ci := 9) (q0 := 0) rfl rfl, fun U hU hW => ⟨rfl, by rw [hU], by rw [hU]; exact hPc, va_K.moved hW.alike hK, hDc.weaken (fun _ _ _ _ => trivial)⟩⟩ rfl rfl hl.1 rfl (lv_room (Nat.le_of_ble_eq_true rfl)) dX9_findTurns_95 ⟨Nat.le_of_ble_eq_true rfl, Nat.le_of_ble_eq_true rfl⟩) hS (fun q _ h => hFc q h) hFc (fun u t9 H1 locs ht hvm hw hB hz1 hk1 hS => ?_)
              obtain ⟨g13_21, g14_22⟩ := u
              try dsimp only at hw hB
              have hwr_20 := hw
              obtain ⟨hP1, hD1⟩ := hB
              rw [ht] at hP1
              obtain ⟨hP, hD⟩ := va_join (wr := [(b2, .inl (Z.2 0, 5, .inl f2)), (b15, .inl (Z.2 0, 30, .inl f15)), (b1, .inl (Z.2 0, 5, .inl f1)), (b3, .inl (Z.2 0, 5, .inl f3)), (b4, .inl (Z.2 0, 5, .inl f4)), (b6, .inl (Z.2 0, 5, .inl g6_17)), (b7, .inl (Z.2 0, 5, .inl g7_18))]) (w1 := [(h0, .inr (9, [.ref b1, .ref b2, .ref b3, .ref b4, .int (nI n), .ref b5, .int (nI pn), .ref b6, .ref b7, .ref b8, .int (nI tn), .int xp, .int xr, .ref b9, .ref b10, .ref b11, .ref b12, .ref b13, .ref b14, .ref b15, .ref b16, .ref b17, .ref b18, .int ik, .ref b19, .ref b20, .ref b21, .ref b22, .ref b23, .ref b24, .ref b25])), (b12, .inl (Z.2 0, 30, .inl g12_19)), (b13, .inl (Z.2 0, 6, .inl g13_21)), (b14, .inl (Z.2 0, 30, .inl g14_22))]) hP hD [3, 9, 10, 1] [0, 2, 4, 5, 6, 7, 8] rfl rfl (by decide +kernel) (by decide +kernel) hk1 hFc hP1 hD1
              clear hPc hDc hP1 hD1 hk1 hz1 hFc ht hvm
              generalize H1 = H at hP hS ⊢
              have hP : va_P Z.1 vwCl [(b2, .inl (Z.2 0, 5, .inl f2)), (b15, .inl (Z.2 0, 30, .inl f15)), (b1, .inl (Z.2 0, 5, .inl f1)), (b3, .inl (Z.2 0, 5, .inl f3)), (b4, .inl (Z.2 0, 5, .inl f4)), (b6, .inl (Z.2 0, 5, .inl g6_17)), (b7, .inl (Z.2 0, 5, .inl g7_18)), (h0, .inr (9, [.ref b1, .ref b2, .ref b3, .ref b4, .int (nI n), .ref b5, .int (nI pn), .ref b6, .ref b7, .ref b8, .int (nI tn), .int xp, .int xr, .ref b9, .ref b10, .ref b11, .ref b12, .ref b13, .ref b14, .ref b15, .ref b16, .ref b17, .ref b18, .int ik, .ref b19, .ref b20, .ref b21, .ref b22, .ref b23, .ref b24, .ref b25])), (b12, .inl (Z.2 0, 30, .inl g12_19)), (b13, .inl (Z.2 0, 6, .inl g13_21)), (b14, .inl (Z.2 0, 30, .inl g14_22))] H := hP
              have hD : va_D A [(b2, .inl (Z.2 0, 5, .inl f2)), (b15, .inl (Z.2 0, 30, .inl f15)), (b1, .inl (Z.2 0, 5, .inl f1)), (b3, .inl (Z.2 0, 5, .inl f3)), (b4, .inl (Z.2 0, 5, .inl f4)), (b6, .inl (Z.2 0, 5, .inl g6_17)), (b7, .inl (Z.2 0, 5, .inl g7_18)), (h0, .inr (9, [.ref b1, .ref b2, .ref b3, .ref b4, .int (nI n), .ref b5, .int (nI pn), .ref b6, .ref b7, .ref b8, .int (nI tn), .int xp, .int xr, .ref b9, .ref b10, .ref b11, .ref b12, .ref b13, .ref b14, .ref b15, .ref b16, .ref b17, .ref b18, .int ik, .ref b19, .ref b20, .ref b21, .ref b22, .ref b23, .ref b24, .ref b25])), (b12, .inl (Z.2 0, 30, .inl g12_19)), (b13, .inl (Z.2 0, 6, .inl g13_21)), (b14, .inl (Z.2 0, 30, .inl g14_22))] := hD
              have eb := hwr_20
              refine lv_goto (tgt := 32) hx hb dX9_findTurns_98 (by decide) ?_
              exact ih (q + 2) (nI (q + 1)) g6_17 g7_18 g12_19 g13_21 g14_22 f15 (by rw [eb.2.2, eg]; have h8 := zPh_push hn (by omega) hvn ev; omega) (by omega) (Or.inr ⟨q + 1, rfl, rfl⟩) (by rw [eb.2.2, eg]; exact zTr_push (zTr_inc hn hvn ht)) (by rw [eb.2.2, eg]; exact tm_push hF hNN hn hI hqn ev hvn (Or.inr ⟨uu, rfl, hr9.1, hr9.2.1, hr9.2.2⟩) hwr_16.1 eb.1 eb.2.1) H locs ls (hP.sub [7, 2, 0, 3, 4, 5, 6, 8, 9, 10, 1] rfl) (hD.sub [7, 2, 0, 3, 4, 5, 6, 8, 9, 10, 1] (by decide +kernel) rfl) hS (lv_sub hl [1, 0] rfl)
        · refine lv_iload_n hx hb dX9_findTurns_57 rfl (lv_at hl 1 rfl) ?_
          refine lv_if_le (tgt := 66) hx hb dX9_findTurns_58 (by decide) (fun c_23 => ?_) (fun c_23 => ?_)
          · refine lv_iinc (v := nI q + (-1)) (lv' := [(1, .int (nI q + (-1))), (0, .ref h0)]) hx hb dX9_findTurns_66 hl (k := 1) rfl rfl (by decide) rfl (fun ls hl => ?_)
            refine lv_goto (tgt := 32) hx hb dX9_findTurns_69 (by decide) ?_
            exact ih q (nI q + (-1)) f6 f7 f12 f13 f14 f15 (by have h8 := zPh_pop ht; omega) (by omega) (z_dn_step q) (zTr_pop ht) (by have h8 := z_le0 (by omega) c_23; subst h8; exact tm_end hn hF.1 hI (Or.inr (by have h8 := c_6; rw [nI_clamp (by omega)] at h8; exact h8))) H locs ls hP hD hS (lv_sub hl [1, 0] rfl)
          · obtain ⟨t0, rfl⟩ : ∃ t0, q = t0 + 1 := by rcases q with _ | t0; exact absurd (by decide) c_23; exact ⟨t0, rfl⟩
            refine lv_aload_n hx hb dX9_findTurns_61 rfl (lv_at hl 0 rfl) ?_
            refine lv_iload_n hx hb dX9_findTurns_62 rfl (lv_at hl 1 rfl) ?_
            have hPc := hP.sub (ws' := [(h0, .inr (9, [.ref b1, .ref b2, .ref b3, .ref b4, .int (nI n), .ref b5, .int (nI pn), .ref b6, .ref b7, .ref b8, .int (nI tn), .int xp, .int xr, .ref b9, .ref b10, .ref b11, .ref b12, .ref b13, .ref b14, .ref b15, .ref b16, .ref b17, .ref b18, .int ik, .ref b19, .ref b20, .ref b21, .ref b22, .ref b23, .ref b24, .ref b25])), (b13, .inl (Z.2 0, 6, .inl f13)), (b14, .inl (Z.2 0, 30, .inl f14)), (b15, .inl (Z.2 0, 30, .inl f15))]) [0, 8, 9, 10] rfl
            have hDc := hD.sub (ws' := [(h0, .inr (9, [.ref b1, .ref b2, .ref b3, .ref b4, .int (nI n), .ref b5, .int (nI pn), .ref b6, .ref b7, .ref b8, .int (nI tn), .int xp, .int xr, .ref b9, .ref b10, .ref b11, .ref b12, .ref b13, .ref b14, .ref b15, .ref b16, .ref b17, .ref b18, .int ik, .ref b19, .ref b20, .ref b21, .ref b22, .ref b23, .ref b24, .ref b25])), (b13, .inl (Z.2 0, 6, .inl f13)), (b14, .inl (Z.2 0, 30, .inl f14)), (b15, .inl (Z.2 0, 30, .inl f15))]) [0, 8, 9, 10] (by decide +kernel) rfl
            have hFc := va_free (wc := [(h0, .inr (9, [.ref b1, .ref b2, .ref b3, .ref b4, .int (nI n), .ref b5, .int (nI pn), .ref b6, .ref b7, .ref b8, .int (nI tn), .int xp, .int xr, .ref b9, .ref b10, .ref b11, .ref b12, .ref b13, .ref b14, .ref b15, .ref b16, .ref b17, .ref b18, .int ik, .ref b19, .ref b20, .ref b21, .ref b22, .ref b23, .ref b24, .ref b25])), (b13, .inl (Z.2 0, 6, .inl f13)), (b14, .inl (Z.2 0, 30, .inl f14)), (b15, .inl (Z.2 0, 30, .inl f15))]) hD hS hA [0, 8, 9, 10] rfl
            refine va_callv (va_runV (As := [.int (nI (t0 + 1))]) (rest := []) ⟨hx, hb, hml, hown, hts⟩ (c_X9_giveBack l Z H.size h0 b1 b2 b3 b4 b5 b6 b7 b8 b9 b10 b11 b12 b13 b14 b15 b16 b17 b18 b19 b20 b21 b22 b23 b24 b25 n pn tn xp xr ik f13 f14 f15 t0 (by omega)) (cwV 1 hts gX9_findTurns_X9_giveBack rfl rfl rfl (by decide +kernel) ⟨Nat.le_of_ble_eq_true rfl, Nat.le_of_ble_eq_true rfl⟩) ⟨fun a U g mk q => by obtain ⟨q0, q1, qP, qK, qD⟩ := q; exact ⟨q0, q1, qP, va_K.moved (u := U) (U := U.calling g mk a) (Vm.Alike.refl U.vm) qK, qD⟩, va_recv hK hPc (ci := 9) (q0 := 0) rfl rfl, fun U hU hW => ⟨rfl, by rw [hU], by rw [hU]; exact hPc, va_K.moved hW.alike hK, hDc.weaken (fun _ _ _ _ => trivial)⟩⟩ rfl rfl hl.1 rfl (lv_room (Nat.le_of_ble_eq_true rfl)) dX9_findTurns_63 ⟨Nat.le_of_ble_eq_true rfl, Nat.le_of_ble_eq_true rfl⟩) hS (fun q _ h => hFc q h) hFc (fun u t9 H1 locs ht hvm hw hB hz1 hk1 hS => ?_)
            obtain ⟨g14_25, g15_26⟩ := u
            try dsimp only at hw hB
            have hwr_24 := hw
            obtain ⟨hP1, hD1⟩ := hB
            rw [ht] at hP1
            obtain ⟨hP, hD⟩ := va_join (wr := [(b1, .inl (Z.2 0, 5, .inl f1)), (b2, .inl (Z.2 0, 5, .inl f2)), (b3, .inl (Z.2 0, 5, .inl f3)), (b4, .inl (Z.2 0, 5, .inl f4)), (b6, .inl (Z.2 0, 5, .inl f6)), (b7, .inl (Z.2 0, 5, .inl f7)), (b12, .inl (Z.2 0, 30, .inl f12))]) (w1 := [(h0, .inr (9, [.ref b1, .ref b2, .ref b3, .ref b4, .int (nI n), .ref b5, .int (nI pn), .ref b6, .ref b7, .ref b8, .int (nI tn), .int xp, .int xr, .ref b9, .ref b10, .ref b11, .ref b12, .ref b13, .ref b14, .ref b15, .ref b16, .ref b17, .ref b18, .int ik, .ref b19, .ref b20, .ref b21, .ref b22, .ref b23, .ref b24, .ref b25])), (b13, .inl (Z.2 0, 6, .inl f13)), (b14, .inl (Z.2 0, 30, .inl g14_25)), (b15, .inl (Z.2 0, 30, .inl g15_26))]) hP hD [0, 8, 9, 10] [1, 2, 3, 4, 5, 6, 7] rfl rfl (by decide +kernel) (by decide +kernel) hk1 hFc hP1 hD1
            clear hPc hDc hP1 hD1 hk1 hz1 hFc ht hvm
            generalize H1 = H at hP hS ⊢
            have hP : va_P Z.1 vwCl [(b1, .inl (Z.2 0, 5, .inl f1)), (b2, .inl (Z.2 0, 5, .inl f2)), (b3, .inl (Z.2 0, 5, .inl f3)), (b4, .inl (Z.2 0, 5, .inl f4)), (b6, .inl (Z.2 0, 5, .inl f6)), (b7, .inl (Z.2 0, 5, .inl f7)), (b12, .inl (Z.2 0, 30, .inl f12)), (h0, .inr (9, [.ref b1, .ref b2, .ref b3, .ref b4, .int (nI n), .ref b5, .int (nI pn), .ref b6, .ref b7, .ref b8, .int (nI tn), .int xp, .int xr, .ref b9, .ref b10, .ref b11, .ref b12, .ref b13, .ref b14, .ref b15, .ref b16, .ref b17, .ref b18, .int ik, .ref b19, .ref b20, .ref b21, .ref b22, .ref b23, .ref b24, .ref b25])), (b13, .inl (Z.2 0, 6, .inl f13)), (b14, .inl (Z.2 0, 30, .inl g14_25)), (b15, .inl (Z.2 0, 30, .inl g15_26))] H := hP
            have hD : va_D A [(b1, .inl (Z.2 0, 5, .inl f1)), (b2, .inl (Z.2 0, 5, .inl f2)), (b3, .inl (Z.2 0, 5, .inl f3)), (b4, .inl (Z.2 0, 5, .inl f4)), (b6, .inl (Z.2 0, 5, .inl f6)), (b7, .inl (Z.2 0, 5, .inl f7)), (b12, .inl (Z.2 0, 30, .inl f12)), (h0, .inr (9, [.ref b1, .ref b2, .ref b3, .ref b4, .int (nI n), .ref b5, .int (nI pn), .ref b6, .ref b7, .ref b8, .int (nI tn), .int xp, .int xr, .ref b9, .ref b10, .ref b11, .ref b12, .ref b13, .ref b14, .ref b15, .ref b16, .ref b17, .ref b18, .int ik, .ref b19, .ref b20, .ref b21, .ref b22, .ref b23, .ref b24, .ref b25])), (b13, .inl (Z.2 0, 6, .inl f13)), (b14, .inl (Z.2 0, 30, .inl g14_25)), (b15, .inl (Z.2 0, 30, .inl g15_26))] := hD
            refine lv_iinc (v := nI t0) (lv' := [(1, .int (nI t0)), (0, .ref h0)]) hx hb dX9_findTurns_66 hl (k := 1) rfl (pk_m1 _) (by decide) rfl (fun ls hl => ?_)
            refine lv_goto (tgt := 32) hx hb dX9_findTurns_69 (by decide) ?_
            exact ih (t0 + 1) (nI t0) f6 f7 f12 f13 g14_25 g15_26 (by have h8 := zPh_pop ht; omega) (by omega) (Or.inr ⟨t0, rfl, rfl⟩) (zTr_pop ht) (tm_pop hNN hn hF.1 hI (Or.inr (by have h8 := c_6; rw [nI_clamp (by omega)] at h8; exact h8)) hwr_24) H locs ls (hP.sub [7, 0, 1, 2, 3, 4, 5, 6, 8, 9, 10] rfl) (hD.sub [7, 0, 1, 2, 3, 4, 5, 6, 8, 9, 10] (by decide +kernel) rfl) hS (lv_sub hl [1, 0] rfl)
set_option maxHeartbeats 4000000 in
set_option maxRecDepth 100000 in
theorem c_X9_findTurns (l : Launch) (Z : gZ) (sz : Nat) (h0 : Nat) (b1 : Nat) (b2 : Nat) (b3 : Nat) (b4 : Nat) (b5 : Nat) (b6 : Nat) (b7 : Nat) (b8 : Nat) (b9 : Nat) (b10 : Nat) (b11 : Nat) (b12 : Nat) (b13 : Nat) (b14 : Nat) (b15 : Nat) (b16 : Nat) (b17 : Nat) (b18 : Nat) (b19 : Nat) (b20 : Nat) (b21 : Nat) (b22 : Nat) (b23 : Nat) (b24 : Nat) (b25 : Nat) (n : Nat) (pn : Nat) (tn : Nat) (xp : Int32) (xr : Int32) (ik : Int32) (f1 : Nat → Int32) (f2 : Nat → Int32) (f3 : Nat → Int32) (f4 : Nat → Int32) (f6 : Nat → Int32) (f7 : Nat → Int32) (f12 : Nat → Int32) (f13 : Nat → Int32) (f14 : Nat → Int32) (f15 : Nat → Int32) (PP : spF) (NN : Nat) (hn : n ≤ 5) (hF : zFm PP n f1 f2 f3 f4) (hPw : zFw PP NN) (hNN : NN < 1000000000) : Met l yX9_findTurns wsX9_findTurns ({ frames := 8, cells := 0, slots := 0, locals := 300 }) (va_Pc [.ref h0] (fun U => U.heap.size = sz ∧ va_P Z.1 vwCl [(h0, .inr (9, [.ref b1, .ref b2, .ref b3, .ref b4, .int (nI n), .ref b5, .int (nI pn), .ref b6, .ref b7, .ref b8, .int (nI tn), .int xp, .int xr, .ref b9, .ref b10, .ref b11, .ref b12, .ref b13, .ref b14, .ref b15, .ref b16, .ref b17, .ref b18, .int ik, .ref b19, .ref b20, .ref b21, .ref b22, .ref b23, .ref b24, .ref b25])), (b1, .inl (Z.2 0, 5, .inl f1)), (b2, .inl (Z.2 0, 5, .inl f2)), (b3, .inl (Z.2 0, 5, .inl f3)), (b4, .inl (Z.2 0, 5, .inl f4)), (b6, .inl (Z.2 0, 5, .inl f6)), (b7, .inl (Z.2 0, 5, .inl f7)), (b12, .inl (Z.2 0, 30, .inl f12)), (b13, .inl (Z.2 0, 6, .inl f13)), (b14, .inl (Z.2 0, 30, .inl f14)), (b15, .inl (Z.2 0, 30, .inl f15))] U.heap ∧ va_K Z.1 vwCl (gT Z) U ∧ va_D (fun _ => True) [(h0, .inr (9, [.ref b1, .ref b2, .ref b3, .ref b4, .int (nI n), .ref b5, .int (nI pn), .ref b6, .ref b7, .ref b8, .int (nI tn), .int xp, .int xr, .ref b9, .ref b10, .ref b11, .ref b12, .ref b13, .ref b14, .ref b15, .ref b16, .ref b17, .ref b18, .int ik, .ref b19, .ref b20, .ref b21, .ref b22, .ref b23, .ref b24, .ref b25])), (b1, .inl (Z.2 0, 5, .inl f1)), (b2, .inl (Z.2 0, 5, .inl f2)), (b3, .inl (Z.2 0, 5, .inl f3)), (b4, .inl (Z.2 0, 5, .inl f4)), (b6, .inl (Z.2 0, 5, .inl f6)), (b7, .inl (Z.2 0, 5, .inl f7)), (b12, .inl (Z.2 0, 30, .inl f12)), (b13, .inl (Z.2 0, 6, .inl f13)), (b14, .inl (Z.2 0, 30, .inl f14)), (b15, .inl (Z.2 0, 30, .inl f15))])) (va_Qv (fun (u : (Nat → Int32) × (Nat → Int32) × (Nat → Int32) × (Nat → Int32) × (Nat → Int32) × (Nat → Int32)) => match u with | (g6, g7, g12, g13, g14, g15) => tmR n PP g14 g15) (fun (u : (Nat → Int32) × (Nat → Int32) × (Nat → Int32) × (Nat → Int32) × (Nat → Int32) × (Nat → Int32)) (t9 : State) => match u with | (g6, g7, g12, g13, g14, g15) => va_P Z.1 vwCl [(h0, .inr (9, [.ref b1, .ref b2, .ref b3, .ref b4, .int (nI n), .ref b5, .int (nI pn), .ref b6, .ref b7, .ref b8, .int (nI tn), .int xp, .int xr, .ref b9, .ref b10, .ref b11, .ref b12, .ref b13, .ref b14, .ref b15, .ref b16, .ref b17, .ref b18, .int ik, .ref b19, .ref b20, .ref b21, .ref b22, .ref b23, .ref b24, .ref b25])), (b1, .inl (Z.2 0, 5, .inl f1)), (b2, .inl (Z.2 0, 5, .inl f2)), (b3, .inl (Z.2 0, 5, .inl f3)), (b4, .inl (Z.2 0, 5, .inl f4)), (b6, .inl (Z.2 0, 5, .inl g6)), (b7, .inl (Z.2 0, 5, .inl g7)), (b12, .inl (Z.2 0, 30, .inl g12)), (b13, .inl (Z.2 0, 6, .inl g13)), (b14, .inl (Z.2 0, 30, .inl g14)), (b15, .inl (Z.2 0, 30, .inl g15))] t9.heap ∧ va_D (va_A [(h0, .inr (9, [.ref b1, .ref b2, .ref b3, .ref b4, .int (nI n), .ref b5, .int (nI pn), .ref b6, .ref b7, .ref b8, .int (nI tn), .int xp, .int xr, .ref b9, .ref b10, .ref b11, .ref b12, .ref b13, .ref b14, .ref b15, .ref b16, .ref b17, .ref b18, .int ik, .ref b19, .ref b20, .ref b21, .ref b22, .ref b23, .ref b24, .ref b25])), (b1, .inl (Z.2 0, 5, .inl f1)), (b2, .inl (Z.2 0, 5, .inl f2)), (b3, .inl (Z.2 0, 5, .inl f3)), (b4, .inl (Z.2 0, 5, .inl f4)), (b6, .inl (Z.2 0, 5, .inl f6)), (b7, .inl (Z.2 0, 5, .inl f7)), (b12, .inl (Z.2 0, 30, .inl f12)), (b13, .inl (Z.2 0, 6, .inl f13)), (b14, .inl (Z.2 0, 30, .inl f14)), (b15, .inl (Z.2 0, 30, .inl f15))] sz) [(h0, .inr (9, [.ref b1, .ref b2, .ref b3, .ref b4, .int (nI n), .ref b5, .int (nI pn), .ref b6, .ref b7, .ref b8, .int (nI tn), .int xp, .int xr, .ref b9, .ref b10, .ref b11, .ref b12, .ref b13, .ref b14, .ref b15, .ref b16, .ref b17, .ref b18, .int ik, .ref b19, .ref b20, .ref b21, .ref b22, .ref b23, .ref b24, .ref b25])), (b1, .inl (Z.2 0, 5, .inl f1)), (b2, .inl (Z.2 0, 5, .inl f2)), (b3, .inl (Z.2 0, 5, .inl f3)), (b4, .inl (Z.2 0, 5, .inl f4)), (b6, .inl (Z.2 0, 5, .inl g6)), (b7, .inl (Z.2 0, 5, .inl g7)), (b12, .inl (Z.2 0, 30, .inl g12)), (b13, .inl (Z.2 0, 6, .inl g13)), (b14, .inl (Z.2 0, 30, .inl g14)), (b15, .inl (Z.2 0, 30, .inl g15))]) (va_A [(h0, .inr (9, [.ref b1, .ref b2, .ref b3, .ref b4, .int (nI n), .ref b5, .int (nI pn), .ref b6, .ref b7, .ref b8, .int (nI tn), .int xp, .int xr, .ref b9, .ref b10, .ref b11, .ref b12, .ref b13, .ref b14, .ref b15, .ref b16, .ref b17, .ref b18, .int ik, .ref b19, .ref b20, .ref b21, .ref b22, .ref b23, .ref b24, .ref b25])), (b1, .inl (Z.2 0, 5, .inl f1)), (b2, .inl (Z.2 0, 5, .inl f2)), (b3, .inl (Z.2 0, 5, .inl f3)), (b4, .inl (Z.2 0, 5, .inl f4)), (b6, .inl (Z.2 0, 5, .inl f6)), (b7, .inl (Z.2 0, 5, .inl f7)), (b12, .inl (Z.2 0, 30, .inl f12)), (b13, .inl (Z.2 0, 6, .inl f13)), (b14, .inl (Z.2 0, 30, .inl f14)), (b15, .inl (Z.2 0, 30, .inl f15))] sz)) 0 0 (va_A [(h0, .inr (9, [.ref b1, .ref b2, .ref b3, .ref b4, .int (nI n), .ref b5, .int (nI pn), .ref b6, .ref b7, .ref b8, .int (nI tn), .int xp, .int xr, .ref b9, .ref b10, .ref b11, .ref b12, .ref b13, .ref b14, .ref b15, .ref b16, .ref b17, .ref b18, .int ik, .ref b19, .ref b20, .ref b21, .ref b22, .ref b23, .ref b24, .ref b25])), (b1, .inl (Z.2 0, 5, .inl f1)), (b2, .inl (Z.2 0, 5, .inl f2)), (b3, .inl (Z.2 0, 5, .inl f3)), (b4, .inl (Z.2 0, 5, .inl f4)), (b6, .inl (Z.2 0, 5, .inl f6)), (b7, .inl (Z.2 0, 5, .inl f7)), (b12, .inl (Z.2 0, 30, .inl f12)), (b13, .inl (Z.2 0, 6, .inl f13)), (b14, .inl (Z.2 0, 30, .inl f14)), (b15, .inl (Z.2 0, 30, .inl f15))] sz) := by
  refine Met.ofW (cc := cX9_findTurns) (maxL := 2) (ret := none) (by decide) rfl ?_
  intro p e s m args below meth c s₁ B hml hv
  obtain ⟨rfl, hsz, hP, hK, hD0⟩ := hv
  have hx := B.exec
  have hb := B.bytes
  have hr := B.returns
  have hts := atoms_spec (ws := wsX9_findTurns) B.pre
  have hown : s.vm.findClass RX9 = some m.cls := findClass_of_methodNamed B.named
  have hlocks := B.notSynchronized
  subst hsz
  have hin9 : ∀ w ∈ wsX90, w ∈ wsX9_findTurns := fun w h9 => (List.mem_cons_of_mem _ (List.mem_append_right _ h9))
  have hD := hD0.self (sz := s.heap.size)
  generalize hAe : va_A [(h0, .inr (9, [.ref b1, .ref b2, .ref b3, .ref b4, .int (nI n), .ref b5, .int (nI pn), .ref b6, .ref b7, .ref b8, .int (nI tn), .int xp, .int xr, .ref b9, .ref b10, .ref b11, .ref b12, .ref b13, .ref b14, .ref b15, .ref b16, .ref b17, .ref b18, .int ik, .ref b19, .ref b20, .ref b21, .ref b22, .ref b23, .ref b24, .ref b25])), (b1, .inl (Z.2 0, 5, .inl f1)), (b2, .inl (Z.2 0, 5, .inl f2)), (b3, .inl (Z.2 0, 5, .inl f3)), (b4, .inl (Z.2 0, 5, .inl f4)), (b6, .inl (Z.2 0, 5, .inl f6)), (b7, .inl (Z.2 0, 5, .inl f7)), (b12, .inl (Z.2 0, 30, .inl f12)), (b13, .inl (Z.2 0, 6, .inl f13)), (b14, .inl (Z.2 0, 30, .inl f14)), (b15, .inl (Z.2 0, 30, .inl f15))] s.heap.size = A at hD ⊢
  have hA : ∀ q : Nat, s.heap.size ≤ q → A q := fun q h => by rw [← hAe]; exact Or.inr h
  have hS : va_S A s.heap s.heap [] := va_S.rf
  have hP : va_P Z.1 vwCl [(h0, .inr (9, [.ref b1, .ref b2, .ref b3, .ref b4, .int (nI n), .ref b5, .int (nI pn), .ref b6, .ref b7, .ref b8, .int (nI tn), .int xp, .int xr, .ref b9, .ref b10, .ref b11, .ref b12, .ref b13, .ref b14, .ref b15, .ref b16, .ref b17, .ref b18, .int ik, .ref b19, .ref b20, .ref b21, .ref b22, .ref b23, .ref b24, .ref b25])), (b1, .inl (Z.2 0, 5, .inl f1)), (b2, .inl (Z.2 0, 5, .inl f2)), (b3, .inl (Z.2 0, 5, .inl f3)), (b4, .inl (Z.2 0, 5, .inl f4)), (b6, .inl (Z.2 0, 5, .inl f6)), (b7, .inl (Z.2 0, 5, .inl f7)), (b12, .inl (Z.2 0, 30, .inl f12)), (b13, .inl (Z.2 0, 6, .inl f13)), (b14, .inl (Z.2 0, 30, .inl f14)), (b15, .inl (Z.2 0, 30, .inl f15))] s.heap := hP
  have hl := lv_entry ([.ref h0]) (n := 2) (Nat.le_of_ble_eq_true rfl)
  rw [lg_entry_eq]
  generalize (lg_sl ([.ref h0]) ++ List.replicate (2 - (lg_sl ([.ref h0])).length) Slot.unset).toArray = ls at hl ⊢
  have hl : lv_has ls 2 [(0, .ref h0)] := hl
  refine lv_iconst (v := 0) hx hb dX9_findTurns_0 (by decide) ?_
  refine lv_istore_n (lv' := [(1, .int 0), (0, .ref h0)]) hx hb dX9_findTurns_1 rfl hl (by decide) rfl (fun ls hl => ?_)
  refine lv_iload_n hx hb dX9_findTurns_2 rfl (lv_at hl 0 rfl) ?_
  refine lv_iconst (v := 5) hx hb dX9_findTurns_3 (by decide) ?_
  refine lv_icmp_ge (tgt := 25) hx hb dX9_findTurns_4 (by decide) (fun c9 => absurd c9 (by decide)) (fun _ => ?_)
  refine lv_aload_n hx hb dX9_findTurns_7 rfl (lv_at hl 1 rfl) ?_
  refine va_get (D := Z.1) (ci := 9) (v := .ref b12) (C := RX9) (T := TX9) (N := 31) hx hb hts hin9 hown hK hP 0 rfl rfl 16 (by decide) (hts (.fieldLink RX9 43 "HalfAskedModel" "ahead" "[I") (List.mem_of_getElem? (i := 1) rfl)) (fun _ h9 => h9) rfl dX9_findTurns_8 ?_
  refine lv_iload_n hx hb dX9_findTurns_11 rfl (lv_at hl 0 rfl) ?_
  refine lv_aload_n hx hb dX9_findTurns_12 rfl (lv_at hl 1 rfl) ?_
  refine va_get (D := Z.1) (ci := 9) (v := .ref b2) (C := RX9) (T := TX9) (N := 31) hx hb hts hin9 hown hK hP 0 rfl rfl 1 (by decide) (hts (.fieldLink RX9 13 "HalfAskedModel" "pence" "[I") (List.mem_of_getElem? (i := 2) rfl)) (fun _ h9 => h9) rfl dX9_findTurns_13 ?_
  refine lv_iload_n hx hb dX9_findTurns_16 rfl (lv_at hl 0 rfl) ?_
  refine va_iald hx hb hK hP 2 0 rfl rfl (z_in (by decide)) dX9_findTurns_17 ?_
  refine va_iast hx hb hK hP hD hS 7 0 rfl rfl (z_in (by decide)) dX9_findTurns_18 (fun H locs hP hD hS => ?_)
  have hP : va_P Z.1 vwCl [(h0, .inr (9, [.ref b1, .ref b2, .ref b3, .ref b4, .int (nI n), .ref b5, .int (nI pn), .ref b6, .ref b7, .ref b8, .int (nI tn), .int xp, .int xr, .ref b9, .ref b10, .ref b11, .ref b12, .ref b13, .ref b14, .ref b15, .ref b16, .ref b17, .ref b18, .int ik, .ref b19, .ref b20, .ref b21, .ref b22, .ref b23, .ref b24, .ref b25])), (b1, .inl (Z.2 0, 5, .inl f1)), (b2, .inl (Z.2 0, 5, .inl f2)), (b3, .inl (Z.2 0, 5, .inl f3)), (b4, .inl (Z.2 0, 5, .inl f4)), (b6, .inl (Z.2 0, 5, .inl f6)), (b7, .inl (Z.2 0, 5, .inl f7)), (b12, .inl (Z.2 0, 30, .inl (upd f12 0 (f2 0)))), (b13, .inl (Z.2 0, 6, .inl f13)), (b14, .inl (Z.2 0, 30, .inl f14)), (b15, .inl (Z.2 0, 30, .inl f15))] H := hP
  have hD : va_D A [(h0, .inr (9, [.ref b1, .ref b2, .ref b3, .ref b4, .int (nI n), .ref b5, .int (nI pn), .ref b6, .ref b7, .ref b8, .int (nI tn), .int xp, .int xr, .ref b9, .ref b10, .ref b11, .ref b12, .ref b13, .ref b14, .ref b15, .ref b16, .ref b17, .ref b18, .int ik, .ref b19, .ref b20, .ref b21, .ref b22, .ref b23, .ref b24, .ref b25])), (b1, .inl (Z.2 0, 5, .inl f1)), (b2, .inl (Z.2 0, 5, .inl f2)), (b3, .inl (Z.2 0, 5, .inl f3)), (b4, .inl (Z.2 0, 5, .inl f4)), (b6, .inl (Z.2 0, 5, .inl f6)), (b7, .inl (Z.2 0, 5, .inl f7)), (b12, .inl (Z.2 0, 30, .inl (upd f12 0 (f2 0)))), (b13, .inl (Z.2 0, 6, .inl f13)), (b14, .inl (Z.2 0, 30, .inl f14)), (b15, .inl (Z.2 0, 30, .inl f15))] := hD
  refine lv_iinc (v := 1) (lv' := [(1, .int 1), (0, .ref h0)]) hx hb dX9_findTurns_19 hl (k := 0) rfl (by decide) (by decide) rfl (fun ls hl => ?_)
  refine lv_goto (tgt := 2) hx hb dX9_findTurns_22 (by decide) ?_
  refine lv_iload_n hx hb dX9_findTurns_2 rfl (lv_at hl 0 rfl) ?_
  refine lv_iconst (v := 5) hx hb dX9_findTurns_3 (by decide) ?_
  refine lv_icmp_ge (tgt := 25) hx hb dX9_findTurns_4 (by decide) (fun c9 => absurd c9 (by decide)) (fun _ => ?_)
  refine lv_aload_n hx hb dX9_findTurns_7 rfl (lv_at hl 1 rfl) ?_
  refine va_get (D := Z.1) (ci := 9) (v := .ref b12) (C := RX9) (T := TX9) (N := 31) hx hb hts hin9 hown hK hP 0 rfl rfl 16 (by decide) (hts (.fieldLink RX9 43 "HalfAskedModel" "ahead" "[I") (List.mem_of_getElem? (i := 1) rfl)) (fun _ h9 => h9) rfl dX9_findTurns_8 ?_
  refine lv_iload_n hx hb dX9_findTurns_11 rfl (lv_at hl 0 rfl) ?_
  refine lv_aload_n hx hb dX9_findTurns_12 rfl (lv_at hl 1 rfl) ?_
  refine va_get (D := Z.1) (ci := 9) (v := .ref b2) (C := RX9) (T := TX9) (N := 31) hx hb hts hin9 hown hK hP 0 rfl rfl 1 (by decide) (hts (.fieldLink RX9 13 "HalfAskedModel" "pence" "[I") (List.mem_of_getElem? (i := 2) rfl)) (fun _ h9 => h9) rfl dX9_findTurns_13 ?_
  refine lv_iload_n hx hb dX9_findTurns_16 rfl (lv_at hl 0 rfl) ?_
  refine va_iald hx hb hK hP 2 0 rfl rfl (z_in (by decide)) dX9_findTurns_17 ?_
  refine va_iast hx hb hK hP hD hS 7 0 rfl rfl (z_in (by decide)) dX9_findTurns_18 (fun H locs hP hD hS => ?_)
  have hP : va_P Z.1 vwCl [(h0, .inr (9, [.ref b1, .ref b2, .ref b3, .ref b4, .int (nI n), .ref b5, .int (nI pn), .ref b6, .ref b7, .ref b8, .int (nI tn), .int xp, .int xr, .ref b9, .ref b10, .ref b11, .ref b12, .ref b13, .ref b14, .ref b15, .ref b16, .ref b17, .ref b18, .int ik, .ref b19, .ref b20, .ref b21, .ref b22, .ref b23, .ref b24, .ref b25])), (b1, .inl (Z.2 0, 5, .inl f1)), (b2, .inl (Z.2 0, 5, .inl f2)), (b3, .inl (Z.2 0, 5, .inl f3)), (b4, .inl (Z.2 0, 5, .inl f4)), (b6, .inl (Z.2 0, 5, .inl f6)), (b7, .inl (Z.2 0, 5, .inl f7)), (b12, .inl (Z.2 0, 30, .inl (upd (upd f12 0 (f2 0)) 1 (f2 1)))), (b13, .inl (Z.2 0, 6, .inl f13)), (b14, .inl (Z.2 0, 30, .inl f14)), (b15, .inl (Z.2 0, 30, .inl f15))] H := hP
  have hD : va_D A [(h0, .inr (9, [.ref b1, .ref b2, .ref b3, .ref b4, .int (nI n), .ref b5, .int (nI pn), .ref b6, .ref b7, .ref b8, .int (nI tn), .int xp, .int xr, .ref b9, .ref b10, .ref b11, .ref b12, .ref b13, .ref b14, .ref b15, .ref b16, .ref b17, .ref b18, .int ik, .ref b19, .ref b20, .ref b21, .ref b22, .ref b23, .ref b24, .ref b25])), (b1, .inl (Z.2 0, 5, .inl f1)), (b2, .inl (Z.2 0, 5, .inl f2)), (b3, .inl (Z.2 0, 5, .inl f3)), (b4, .inl (Z.2 0, 5, .inl f4)), (b6, .inl (Z.2 0, 5, .inl f6)), (b7, .inl (Z.2 0, 5, .inl f7)), (b12, .inl (Z.2 0, 30, .inl (upd (upd f12 0 (f2 0)) 1 (f2 1)))), (b13, .inl (Z.2 0, 6, .inl f13)), (b14, .inl (Z.2 0, 30, .inl f14)), (b15, .inl (Z.2 0, 30, .inl f15))] := hD
  refine lv_iinc (v := 2) (lv' := [(1, .int 2), (0, .ref h0)]) hx hb dX9_findTurns_19 hl (k := 0) rfl (by decide) (by decide) rfl (fun ls hl => ?_)
  refine lv_goto (tgt := 2) hx hb dX9_findTurns_22 (by decide) ?_
  refine lv_iload_n hx hb dX9_findTurns_2 rfl (lv_at hl 0 rfl) ?_
  refine lv_iconst (v := 5) hx hb dX9_findTurns_3 (by decide) ?_
  refine lv_icmp_ge (tgt := 25) hx hb dX9_findTurns_4 (by decide) (fun c9 => absurd c9 (by decide)) (fun _ => ?_)
  refine lv_aload_n hx hb dX9_findTurns_7 rfl (lv_at hl 1 rfl) ?_
  refine va_get (D := Z.1) (ci := 9) (v := .ref b12) (C := RX9) (T := TX9) (N := 31) hx hb hts hin9 hown hK hP 0 rfl rfl 16 (by decide) (hts (.fieldLink RX9 43 "HalfAskedModel" "ahead" "[I") (List.mem_of_getElem? (i := 1) rfl)) (fun _ h9 => h9) rfl dX9_findTurns_8 ?_
  refine lv_iload_n hx hb dX9_findTurns_11 rfl (lv_at hl 0 rfl) ?_
  refine lv_aload_n hx hb dX9_findTurns_12 rfl (lv_at hl 1 rfl) ?_
  refine va_get (D := Z.1) (ci := 9) (v := .ref b2) (C := RX9) (T := TX9) (N := 31) hx hb hts hin9 hown hK hP 0 rfl rfl 1 (by decide) (hts (.fieldLink RX9 13 "HalfAskedModel" "pence" "[I") (List.mem_of_getElem? (i := 2) rfl)) (fun _ h9 => h9) rfl dX9_findTurns_13 ?_
  refine lv_iload_n hx hb dX9_findTurns_16 rfl (lv_at hl 0 rfl) ?_
  refine va_iald hx hb hK hP 2 0 rfl rfl (z_in (by decide)) dX9_findTurns_17 ?_
  refine va_iast hx hb hK hP hD hS 7 0 rfl rfl (z_in (by decide)) dX9_findTurns_18 (fun H locs hP hD hS => ?_)
  have hP : va_P Z.1 vwCl [(h0, .inr (9, [.ref b1, .ref b2, .ref b3, .ref b4, .int (nI n), .ref b5, .int (nI pn), .ref b6, .ref b7, .ref b8, .int (nI tn), .int xp, .int xr, .ref b9, .ref b10, .ref b11, .ref b12, .ref b13, .ref b14, .ref b15, .ref b16, .ref b17, .ref b18, .int ik, .ref b19, .ref b20, .ref b21, .ref b22, .ref b23, .ref b24, .ref b25])), (b1, .inl (Z.2 0, 5, .inl f1)), (b2, .inl (Z.2 0, 5, .inl f2)), (b3, .inl (Z.2 0, 5, .inl f3)), (b4, .inl (Z.2 0, 5, .inl f4)), (b6, .inl (Z.2 0, 5, .inl f6)), (b7, .inl (Z.2 0, 5, .inl f7)), (b12, .inl (Z.2 0, 30, .inl (upd (upd (upd f12 0 (f2 0)) 1 (f2 1)) 2 (f2 2)))), (b13, .inl (Z.2 0, 6, .inl f13)), (b14, .inl (Z.2 0, 30, .inl f14)), (b15, .inl (Z.2 0, 30, .inl f15))] H := hP
  have hD : va_D A [(h0, .inr (9, [.ref b1, .ref b2, .ref b3, .ref b4, .int (nI n), .ref b5, .int (nI pn), .ref b6, .ref b7, .ref b8, .int (nI tn), .int xp, .int xr, .ref b9, .ref b10, .ref b11, .ref b12, .ref b13, .ref b14, .ref b15, .ref b16, .ref b17, .ref b18, .int ik, .ref b19, .ref b20, .ref b21, .ref b22, .ref b23, .ref b24, .ref b25])), (b1, .inl (Z.2 0, 5, .inl f1)), (b2, .inl (Z.2 0, 5, .inl f2)), (b3, .inl (Z.2 0, 5, .inl f3)), (b4, .inl (Z.2 0, 5, .inl f4)), (b6, .inl (Z.2 0, 5, .inl f6)), (b7, .inl (Z.2 0, 5, .inl f7)), (b12, .inl (Z.2 0, 30, .inl (upd (upd (upd f12 0 (f2 0)) 1 (f2 1)) 2 (f2 2)))), (b13, .inl (Z.2 0, 6, .inl f13)), (b14, .inl (Z.2 0, 30, .inl f14)), (b15, .inl (Z.2 0, 30, .inl f15))] := hD
  refine lv_iinc (v := 3) (lv' := [(1, .int 3), (0, .ref h0)]) hx hb dX9_findTurns_19 hl (k := 0) rfl (by decide) (by decide) rfl (fun ls hl => ?_)
  refine lv_goto (tgt := 2) hx hb dX9_findTurns_22 (by decide) ?_
  refine lv_iload_n hx hb dX9_findTurns_2 rfl (lv_at hl 0 rfl) ?_
  refine lv_iconst (v := 5) hx hb dX9_findTurns_3 (by decide) ?_
  refine lv_icmp_ge (tgt := 25) hx hb dX9_findTurns_4 (by decide) (fun c9 => absurd c9 (by decide)) (fun _ => ?_)
  refine lv_aload_n hx hb dX9_findTurns_7 rfl (lv_at hl 1 rfl) ?_
  refine va_get (D := Z.1) (ci := 9) (v := .ref b12) (C := RX9) (T := TX9) (N := 31) hx hb hts hin9 hown hK hP 0 rfl rfl 16 (by decide) (hts (.fieldLink RX9 43 "HalfAskedModel" "ahead" "[I") (List.mem_of_getElem? (i := 1) rfl)) (fun _ h9 => h9) rfl dX9_findTurns_8 ?_
  refine lv_iload_n hx hb dX9_findTurns_11 rfl (lv_at hl 0 rfl) ?_
  refine lv_aload_n hx hb dX9_findTurns_12 rfl (lv_at hl 1 rfl) ?_
  refine va_get (D := Z.1) (ci := 9) (v := .ref b2) (C := RX9) (T := TX9) (N := 31) hx hb hts hin9 hown hK hP 0 rfl rfl 1 (by decide) (hts (.fieldLink RX9 13 "HalfAskedModel" "pence" "[I") (List.mem_of_getElem? (i := 2) rfl)) (fun _ h9 => h9) rfl dX9_findTurns_13 ?_
  refine lv_iload_n hx hb dX9_findTurns_16 rfl (lv_at hl 0 rfl) ?_
  refine va_iald hx hb hK hP 2 0 rfl rfl (z_in (by decide)) dX9_findTurns_17 ?_
  refine va_iast hx hb hK hP hD hS 7 0 rfl rfl (z_in (by decide)) dX9_findTurns_18 (fun H locs hP hD hS => ?_)
  have hP : va_P Z.1 vwCl [(h0, .inr (9, [.ref b1, .ref b2, .ref b3, .ref b4, .int (nI n), .ref b5, .int (nI pn), .ref b6, .ref b7, .ref b8, .int (nI tn), .int xp, .int xr, .ref b9, .ref b10, .ref b11, .ref b12, .ref b13, .ref b14, .ref b15, .ref b16, .ref b17, .ref b18, .int ik, .ref b19, .ref b20, .ref b21, .ref b22, .ref b23, .ref b24, .ref b25])), (b1, .inl (Z.2 0, 5, .inl f1)), (b2, .inl (Z.2 0, 5, .inl f2)), (b3, .inl (Z.2 0, 5, .inl f3)), (b4, .inl (Z.2 0, 5, .inl f4)), (b6, .inl (Z.2 0, 5, .inl f6)), (b7, .inl (Z.2 0, 5, .inl f7)), (b12, .inl (Z.2 0, 30, .inl (upd (upd (upd (upd f12 0 (f2 0)) 1 (f2 1)) 2 (f2 2)) 3 (f2 3)))), (b13, .inl (Z.2 0, 6, .inl f13)), (b14, .inl (Z.2 0, 30, .inl f14)), (b15, .inl (Z.2 0, 30, .inl f15))] H := hP
  have hD : va_D A [(h0, .inr (9, [.ref b1, .ref b2, .ref b3, .ref b4, .int (nI n), .ref b5, .int (nI pn), .ref b6, .ref b7, .ref b8, .int (nI tn), .int xp, .int xr, .ref b9, .ref b10, .ref b11, .ref b12, .ref b13, .ref b14, .ref b15, .ref b16, .ref b17, .ref b18, .int ik, .ref b19, .ref b20, .ref b21, .ref b22, .ref b23, .ref b24, .ref b25])), (b1, .inl (Z.2 0, 5, .inl f1)), (b2, .inl (Z.2 0, 5, .inl f2)), (b3, .inl (Z.2 0, 5, .inl f3)), (b4, .inl (Z.2 0, 5, .inl f4)), (b6, .inl (Z.2 0, 5, .inl f6)), (b7, .inl (Z.2 0, 5, .inl f7)), (b12, .inl (Z.2 0, 30, .inl (upd (upd (upd (upd f12 0 (f2 0)) 1 (f2 1)) 2 (f2 2)) 3 (f2 3)))), (b13, .inl (Z.2 0, 6, .inl f13)), (b14, .inl (Z.2 0, 30, .inl f14)), (b15, .inl (Z.2 0, 30, .inl f15))] := hD
  refine lv_iinc (v := 4) (lv' := [(1, .int 4), (0, .ref h0)]) hx hb dX9_findTurns_19 hl (k := 0) rfl (by decide) (by decide) rfl (fun ls hl => ?_)
  refine lv_goto (tgt := 2) hx hb dX9_findTurns_22 (by decide) ?_
  refine lv_iload_n hx hb dX9_findTurns_2 rfl (lv_at hl 0 rfl) ?_
  refine lv_iconst (v := 5) hx hb dX9_findTurns_3 (by decide) ?_
  refine lv_icmp_ge (tgt := 25) hx hb dX9_findTurns_4 (by decide) (fun c9 => absurd c9 (by decide)) (fun _ => ?_)
  refine lv_aload_n hx hb dX9_findTurns_7 rfl (lv_at hl 1 rfl) ?_
  refine va_get (D := Z.1) (ci := 9) (v := .ref b12) (C := RX9) (T := TX9) (N := 31) hx hb hts hin9 hown hK hP 0 rfl rfl 16 (by decide) (hts (.fieldLink RX9 43 "HalfAskedModel" "ahead" "[I") (List.mem_of_getElem? (i := 1) rfl)) (fun _ h9 => h9) rfl dX9_findTurns_8 ?_
  refine lv_iload_n hx hb dX9_findTurns_11 rfl (lv_at hl 0 rfl) ?_
  refine lv_aload_n hx hb dX9_findTurns_12 rfl (lv_at hl 1 rfl) ?_
  refine va_get (D := Z.1) (ci := 9) (v := .ref b2) (C := RX9) (T := TX9) (N := 31) hx hb hts hin9 hown hK hP 0 rfl rfl 1 (by decide) (hts (.fieldLink RX9 13 "HalfAskedModel" "pence" "[I") (List.mem_of_getElem? (i := 2) rfl)) (fun _ h9 => h9) rfl dX9_findTurns_13 ?_
  refine lv_iload_n hx hb dX9_findTurns_16 rfl (lv_at hl 0 rfl) ?_
  refine va_iald hx hb hK hP 2 0 rfl rfl (z_in (by decide)) dX9_findTurns_17 ?_
  refine va_iast hx hb hK hP hD hS 7 0 rfl rfl (z_in (by decide)) dX9_findTurns_18 (fun H locs hP hD hS => ?_)
  have hP : va_P Z.1 vwCl [(h0, .inr (9, [.ref b1, .ref b2, .ref b3, .ref b4, .int (nI n), .ref b5, .int (nI pn), .ref b6, .ref b7, .ref b8, .int (nI tn), .int xp, .int xr, .ref b9, .ref b10, .ref b11, .ref b12, .ref b13, .ref b14, .ref b15, .ref b16, .ref b17, .ref b18, .int ik, .ref b19, .ref b20, .ref b21, .ref b22, .ref b23, .ref b24, .ref b25])), (b1, .inl (Z.2 0, 5, .inl f1)), (b2, .inl (Z.2 0, 5, .inl f2)), (b3, .inl (Z.2 0, 5, .inl f3)), (b4, .inl (Z.2 0, 5, .inl f4)), (b6, .inl (Z.2 0, 5, .inl f6)), (b7, .inl (Z.2 0, 5, .inl f7)), (b12, .inl (Z.2 0, 30, .inl (upd (upd (upd (upd (upd f12 0 (f2 0)) 1 (f2 1)) 2 (f2 2)) 3 (f2 3)) 4 (f2 4)))), (b13, .inl (Z.2 0, 6, .inl f13)), (b14, .inl (Z.2 0, 30, .inl f14)), (b15, .inl (Z.2 0, 30, .inl f15))] H := hP
  have hD : va_D A [(h0, .inr (9, [.ref b1, .ref b2, .ref b3, .ref b4, .int (nI n), .ref b5, .int (nI pn), .ref b6, .ref b7, .ref b8, .int (nI tn), .int xp, .int xr, .ref b9, .ref b10, .ref b11, .ref b12, .ref b13, .ref b14, .ref b15, .ref b16, .ref b17, .ref b18, .int ik, .ref b19, .ref b20, .ref b21, .ref b22, .ref b23, .ref b24, .ref b25])), (b1, .inl (Z.2 0, 5, .inl f1)), (b2, .inl (Z.2 0, 5, .inl f2)), (b3, .inl (Z.2 0, 5, .inl f3)), (b4, .inl (Z.2 0, 5, .inl f4)), (b6, .inl (Z.2 0, 5, .inl f6)), (b7, .inl (Z.2 0, 5, .inl f7)), (b12, .inl (Z.2 0, 30, .inl (upd (upd (upd (upd (upd f12 0 (f2 0)) 1 (f2 1)) 2 (f2 2)) 3 (f2 3)) 4 (f2 4)))), (b13, .inl (Z.2 0, 6, .inl f13)), (b14, .inl (Z.2 0, 30, .inl f14)), (b15, .inl (Z.2 0, 30, .inl f15))] := hD
  refine lv_iinc (v := 5) (lv' := [(1, .int 5), (0, .ref h0)]) hx hb dX9_findTurns_19 hl (k := 0) rfl (by decide) (by decide) rfl (fun ls hl => ?_)
  refine lv_goto (tgt := 2) hx hb dX9_findTurns_22 (by decide) ?_
  refine lv_iload_n hx hb dX9_findTurns_2 rfl (lv_at hl 0 rfl) ?_
  refine lv_iconst (v := 5) hx hb dX9_findTurns_3 (by decide) ?_
  refine lv_icmp_ge (tgt := 25) hx hb dX9_findTurns_4 (by decide) (fun _ => ?_) (fun c9 => absurd c9 (by decide))
  obtain ⟨g12, eg12⟩ : ∃ g12, g12 = upd (upd (upd (upd (upd f12 0 (f2 0)) 1 (f2 1)) 2 (f2 2)) 3 (f2 3)) 4 (f2 4) := ⟨_, rfl⟩
  rw [← eg12] at hP hD
  have h12 : ∀ w, w < 5 → g12 w = f2 w := fun w hw => by rw [eg12]; exact z_five hw
  have hP : va_P Z.1 vwCl [(h0, .inr (9, [.ref b1, .ref b2, .ref b3, .ref b4, .int (nI n), .ref b5, .int (nI pn), .ref b6, .ref b7, .ref b8, .int (nI tn), .int xp, .int xr, .ref b9, .ref b10, .ref b11, .ref b12, .ref b13, .ref b14, .ref b15, .ref b16, .ref b17, .ref b18, .int ik, .ref b19, .ref b20, .ref b21, .ref b22, .ref b23, .ref b24, .ref b25])), (b1, .inl (Z.2 0, 5, .inl f1)), (b2, .inl (Z.2 0, 5, .inl f2)), (b3, .inl (Z.2 0, 5, .inl f3)), (b4, .inl (Z.2 0, 5, .inl f4)), (b6, .inl (Z.2 0, 5, .inl f6)), (b7, .inl (Z.2 0, 5, .inl f7)), (b12, .inl (Z.2 0, 30, .inl g12)), (b13, .inl (Z.2 0, 6, .inl f13)), (b14, .inl (Z.2 0, 30, .inl f14)), (b15, .inl (Z.2 0, 30, .inl f15))] H := hP
  have hD : va_D A [(h0, .inr (9, [.ref b1, .ref b2, .ref b3, .ref b4, .int (nI n), .ref b5, .int (nI pn), .ref b6, .ref b7, .ref b8, .int (nI tn), .int xp, .int xr, .ref b9, .ref b10, .ref b11, .ref b12, .ref b13, .ref b14, .ref b15, .ref b16, .ref b17, .ref b18, .int ik, .ref b19, .ref b20, .ref b21, .ref b22, .ref b23, .ref b24, .ref b25])), (b1, .inl (Z.2 0, 5, .inl f1)), (b2, .inl (Z.2 0, 5, .inl f2)), (b3, .inl (Z.2 0, 5, .inl f3)), (b4, .inl (Z.2 0, 5, .inl f4)), (b6, .inl (Z.2 0, 5, .inl f6)), (b7, .inl (Z.2 0, 5, .inl f7)), (b12, .inl (Z.2 0, 30, .inl g12)), (b13, .inl (Z.2 0, 6, .inl f13)), (b14, .inl (Z.2 0, 30, .inl f14)), (b15, .inl (Z.2 0, 30, .inl f15))] := hD
  refine lv_iconst (v := 0) hx hb dX9_findTurns_25 (by decide) ?_
  refine lv_istore_n (lv' := [(1, .int 0), (0, .ref h0)]) hx hb dX9_findTurns_26 rfl hl (by decide) rfl (fun ls hl => ?_)
  refine lv_aload_n hx hb dX9_findTurns_27 rfl (lv_at hl 1 rfl) ?_
  refine lv_iconst (v := 0) hx hb dX9_findTurns_28 (by decide) ?_
  have hPc := hP.sub (ws' := [(h0, .inr (9, [.ref b1, .ref b2, .ref b3, .ref b4, .int (nI n), .ref b5, .int (nI pn), .ref b6, .ref b7, .ref b8, .int (nI tn), .int xp, .int xr, .ref b9, .ref b10, .ref b11, .ref b12, .ref b13, .ref b14, .ref b15, .ref b16, .ref b17, .ref b18, .int ik, .ref b19, .ref b20, .ref b21, .ref b22, .ref b23, .ref b24, .ref b25])), (b12, .inl (Z.2 0, 30, .inl g12)), (b13, .inl (Z.2 0, 6, .inl f13)), (b14, .inl (Z.2 0, 30, .inl f14))]) [0, 7, 8, 9] rfl
  have hDc := hD.sub (ws' := [(h0, .inr (9, [.ref b1, .ref b2, .ref b3, .ref b4, .int (nI n), .ref b5, .int (nI pn), .ref b6, .ref b7, .ref b8, .int (nI tn), .int xp, .int xr, .ref b9, .ref b10, .ref b11, .ref b12, .ref b13, .ref b14, .ref b15, .ref b16, .ref b17, .ref b18, .int ik, .ref b19, .ref b20, .ref b21, .ref b22, .ref b23, .ref b24, .ref b25])), (b12, .inl (Z.2 0, 30, .inl g12)), (b13, .inl (Z.2 0, 6, .inl f13)), (b14, .inl (Z.2 0, 30, .inl f14))]) [0, 7, 8, 9] (by decide +kernel) rfl
  have hFc := va_free (wc := [(h0, .inr (9, [.ref b1, .ref b2, .ref b3, .ref b4, .int (nI n), .ref b5, .int (nI pn), .ref b6, .ref b7, .ref b8, .int (nI tn), .int xp, .int xr, .ref b9, .ref b10, .ref b11, .ref b12, .ref b13, .ref b14, .ref b15, .ref b16, .ref b17, .ref b18, .int ik, .ref b19, .ref b20, .ref b21, .ref b22, .ref b23, .ref b24, .ref b25])), (b12, .inl (Z.2 0, 30, .inl g12)), (b13, .inl (Z.2 0, 6, .inl f13)), (b14, .inl (Z.2 0, 30, .inl f14))]) hD hS hA [0, 7, 8, 9] rfl
  refine va_callv (va_runV (As := [.int 0]) (rest := []) ⟨hx, hb, hml, hown, hts⟩ (c_X9_beginTurn l Z H.size h0 b1 b2 b3 b4 b5 b6 b7 b8 b9 b10 b11 b12 b13 b14 b15 b16 b17 b18 b19 b20 b21 b22 b23 b24 b25 n pn tn xp xr ik g12 f13 f14 0 (by decide)) (cwV 1 hts gX9_findTurns_X9_beginTurn rfl rfl rfl (by decide +kernel) ⟨Nat.le_of_ble_eq_true rfl, Nat.le_of_ble_eq_true rfl⟩) ⟨fun a U g mk q => by obtain ⟨q0, q1, qP, qK, qD⟩ := q; exact ⟨q0, q1, qP, va_K.moved (u := U) (U := U.calling g mk a) (Vm.Alike.refl U.vm) qK, qD⟩, va_recv hK hPc (ci := 9) (q0 := 0) rfl rfl, fun U hU hW => ⟨rfl, by rw [hU], by rw [hU]; exact hPc, va_K.moved hW.alike hK, hDc.weaken (fun _ _ _ _ => trivial)⟩⟩ rfl rfl hl.1 rfl (lv_room (Nat.le_of_ble_eq_true rfl)) dX9_findTurns_29 ⟨Nat.le_of_ble_eq_true rfl, Nat.le_of_ble_eq_true rfl⟩) hS (fun q _ h => hFc q h) hFc (fun u t9 H1 locs ht hvm hw hB hz1 hk1 hS => ?_)
  obtain ⟨g13_2, g14_3⟩ := u
  try dsimp only at hw hB
  have hwr_1 := hw
  obtain ⟨hP1, hD1⟩ := hB
  rw [ht] at hP1
  obtain ⟨hP, hD⟩ := va_join (wr := [(b1, .inl (Z.2 0, 5, .inl f1)), (b2, .inl (Z.2 0, 5, .inl f2)), (b3, .inl (Z.2 0, 5, .inl f3)), (b4, .inl (Z.2 0, 5, .inl f4)), (b6, .inl (Z.2 0, 5, .inl f6)), (b7, .inl (Z.2 0, 5, .inl f7)), (b15, .inl (Z.2 0, 30, .inl f15))]) (w1 := [(h0, .inr (9, [.ref b1, .ref b2, .ref b3, .ref b4, .int (nI n), .ref b5, .int (nI pn), .ref b6, .ref b7, .ref b8, .int (nI tn), .int xp, .int xr, .ref b9, .ref b10, .ref b11, .ref b12, .ref b13, .ref b14, .ref b15, .ref b16, .ref b17, .ref b18, .int ik, .ref b19, .ref b20, .ref b21, .ref b22, .ref b23, .ref b24, .ref b25])), (b12, .inl (Z.2 0, 30, .inl g12)), (b13, .inl (Z.2 0, 6, .inl g13_2)), (b14, .inl (Z.2 0, 30, .inl g14_3))]) hP hD [0, 7, 8, 9] [1, 2, 3, 4, 5, 6, 10] rfl rfl (by decide +kernel) (by decide +kernel) hk1 hFc hP1 hD1
  clear hPc hDc hP1 hD1 hk1 hz1 hFc ht hvm
  generalize H1 = H at hP hS ⊢
  have hP : va_P Z.1 vwCl [(b1, .inl (Z.2 0, 5, .inl f1)), (b2, .inl (Z.2 0, 5, .inl f2)), (b3, .inl (Z.2 0, 5, .inl f3)), (b4, .inl (Z.2 0, 5, .inl f4)), (b6, .inl (Z.2 0, 5, .inl f6)), (b7, .inl (Z.2 0, 5, .inl f7)), (b15, .inl (Z.2 0, 30, .inl f15)), (h0, .inr (9, [.ref b1, .ref b2, .ref b3, .ref b4, .int (nI n), .ref b5, .int (nI pn), .ref b6, .ref b7, .ref b8, .int (nI tn), .int xp, .int xr, .ref b9, .ref b10, .ref b11, .ref b12, .ref b13, .ref b14, .ref b15, .ref b16, .ref b17, .ref b18, .int ik, .ref b19, .ref b20, .ref b21, .ref b22, .ref b23, .ref b24, .ref b25])), (b12, .inl (Z.2 0, 30, .inl g12)), (b13, .inl (Z.2 0, 6, .inl g13_2)), (b14, .inl (Z.2 0, 30, .inl g14_3))] H := hP
  have hD : va_D A [(b1, .inl (Z.2 0, 5, .inl f1)), (b2, .inl (Z.2 0, 5, .inl f2)), (b3, .inl (Z.2 0, 5, .inl f3)), (b4, .inl (Z.2 0, 5, .inl f4)), (b6, .inl (Z.2 0, 5, .inl f6)), (b7, .inl (Z.2 0, 5, .inl f7)), (b15, .inl (Z.2 0, 30, .inl f15)), (h0, .inr (9, [.ref b1, .ref b2, .ref b3, .ref b4, .int (nI n), .ref b5, .int (nI pn), .ref b6, .ref b7, .ref b8, .int (nI tn), .int xp, .int xr, .ref b9, .ref b10, .ref b11, .ref b12, .ref b13, .ref b14, .ref b15, .ref b16, .ref b17, .ref b18, .int ik, .ref b19, .ref b20, .ref b21, .ref b22, .ref b23, .ref b24, .ref b25])), (b12, .inl (Z.2 0, 30, .inl g12)), (b13, .inl (Z.2 0, 6, .inl g13_2)), (b14, .inl (Z.2 0, 30, .inl g14_3))] := hD
  have eb := hwr_1
  refine lp_X9_findTurns Z h0 b1 b2 b3 b4 b5 b6 b7 b8 b9 b10 b11 b12 b13 b14 b15 b16 b17 b18 b19 b20 b21 b22 b23 b24 b25 n pn tn xp xr ik f1 f2 f3 f4 PP NN hn hF hPw hNN hx hb hml hts hown hK hA (fun j x f6' f7' f12' f13' f14' f15' H locs ls hR' hP hD hS hl => ?_) 1000000 1 0 f6 f7 g12 g13_2 g14_3 f15 (zPh_le hn _) (by omega) (Or.inr ⟨0, rfl, rfl⟩) (by rw [eb.2.2]; exact zTr_1 _) (by rw [eb.2.2]; exact tm_0 hF hPw hn h12 eb.2.1) H _ ls (hP.sub [7, 0, 1, 2, 3, 4, 5, 8, 9, 10, 6] rfl) (hD.sub [7, 0, 1, 2, 3, 4, 5, 8, 9, 10, 6] (by decide +kernel) rfl) hS (lv_sub hl [1, 0] rfl)
  have hP9 := hP.sub (ws' := [(h0, .inr (9, [.ref b1, .ref b2, .ref b3, .ref b4, .int (nI n), .ref b5, .int (nI pn), .ref b6, .ref b7, .ref b8, .int (nI tn), .int xp, .int xr, .ref b9, .ref b10, .ref b11, .ref b12, .ref b13, .ref b14, .ref b15, .ref b16, .ref b17, .ref b18, .int ik, .ref b19, .ref b20, .ref b21, .ref b22, .ref b23, .ref b24, .ref b25])), (b1, .inl (Z.2 0, 5, .inl f1)), (b2, .inl (Z.2 0, 5, .inl f2)), (b3, .inl (Z.2 0, 5, .inl f3)), (b4, .inl (Z.2 0, 5, .inl f4)), (b6, .inl (Z.2 0, 5, .inl f6')), (b7, .inl (Z.2 0, 5, .inl f7')), (b12, .inl (Z.2 0, 30, .inl f12')), (b13, .inl (Z.2 0, 6, .inl f13')), (b14, .inl (Z.2 0, 30, .inl f14')), (b15, .inl (Z.2 0, 30, .inl f15'))]) [0, 1, 2, 3, 4, 5, 6, 7, 8, 9, 10] rfl
  have hD9 := hD.sub (ws' := [(h0, .inr (9, [.ref b1, .ref b2, .ref b3, .ref b4, .int (nI n), .ref b5, .int (nI pn), .ref b6, .ref b7, .ref b8, .int (nI tn), .int xp, .int xr, .ref b9, .ref b10, .ref b11, .ref b12, .ref b13, .ref b14, .ref b15, .ref b16, .ref b17, .ref b18, .int ik, .ref b19, .ref b20, .ref b21, .ref b22, .ref b23, .ref b24, .ref b25])), (b1, .inl (Z.2 0, 5, .inl f1)), (b2, .inl (Z.2 0, 5, .inl f2)), (b3, .inl (Z.2 0, 5, .inl f3)), (b4, .inl (Z.2 0, 5, .inl f4)), (b6, .inl (Z.2 0, 5, .inl f6')), (b7, .inl (Z.2 0, 5, .inl f7')), (b12, .inl (Z.2 0, 30, .inl f12')), (b13, .inl (Z.2 0, 6, .inl f13')), (b14, .inl (Z.2 0, 30, .inl f14')), (b15, .inl (Z.2 0, 30, .inl f15'))]) [0, 1, 2, 3, 4, 5, 6, 7, 8, 9, 10] (by decide +kernel) rfl
  exact W.vret hx hb hr (fun t9 ht hW => ⟨⟨(f6', f7', f12', f13', f14', f15'), rfl, hR', by rw [ht]; exact hP9, hD9⟩, hS.F ht⟩) hS.2.2 dX9_findTurns_101
set_option maxHeartbeats 4000000 in
set_option maxRecDepth 100000 in
theorem c_X9_turns (l : Launch) (Z : gZ) (sz : Nat) (h0 : Nat) (b1 : Nat) (b2 : Nat) (b3 : Nat) (b4 : Nat) (b5 : Nat) (b6 : Nat) (b7 : Nat) (b8 : Nat) (b9 : Nat) (b10 : Nat) (b11 : Nat) (b12 : Nat) (b13 : Nat) (b14 : Nat) (b15 : Nat) (b16 : Nat) (b17 : Nat) (b18 : Nat) (b19 : Nat) (b20 : Nat) (b21 : Nat) (b22 : Nat) (b23 : Nat) (b24 : Nat) (b25 : Nat) (n : Nat) (pn : Nat) (tn : Nat) (xp : Int32) (xr : Int32) (ik : Int32) (f1 : Nat → Int32) (f2 : Nat → Int32) (f3 : Nat → Int32) (f4 : Nat → Int32) (f6 : Nat → Int32) (f7 : Nat → Int32) (f12 : Nat → Int32) (f13 : Nat → Int32) (f14 : Nat → Int32) (f15 : Nat → Int32) (a : Int32) (PP : spF) (NN : Nat) (hn : n ≤ 5) (hF : zFm PP n f1 f2 f3 f4) (hPw : zFw PP NN) (hNN : NN < 1000000000) : Met l yX9_turns wsX9_turns ({ frames := 9, cells := 0, slots := 0, locals := 321 }) (va_Pc [.ref h0, .int a] (fun U => U.heap.size = sz ∧ va_P Z.1 vwCl [(h0, .inr (9, [.ref b1, .ref b2, .ref b3, .ref b4, .int (nI n), .ref b5, .int (nI pn), .ref b6, .ref b7, .ref b8, .int (nI tn), .int xp, .int xr, .ref b9, .ref b10, .ref b11, .ref b12, .ref b13, .ref b14, .ref b15, .ref b16, .ref b17, .ref b18, .int ik, .ref b19, .ref b20, .ref b21, .ref b22, .ref b23, .ref b24, .ref b25])), (b1, .inl (Z.2 0, 5, .inl f1)), (b2, .inl (Z.2 0, 5, .inl f2)), (b3, .inl (Z.2 0, 5, .inl f3)), (b4, .inl (Z.2 0, 5, .inl f4)), (b6, .inl (Z.2 0, 5, .inl f6)), (b7, .inl (Z.2 0, 5, .inl f7)), (b12, .inl (Z.2 0, 30, .inl f12)), (b13, .inl (Z.2 0, 6, .inl f13)), (b14, .inl (Z.2 0, 30, .inl f14)), (b15, .inl (Z.2 0, 30, .inl f15))] U.heap ∧ va_K Z.1 vwCl (gT Z) U ∧ va_D (fun _ => True) [(h0, .inr (9, [.ref b1, .ref b2, .ref b3, .ref b4, .int (nI n), .ref b5, .int (nI pn), .ref b6, .ref b7, .ref b8, .int (nI tn), .int xp, .int xr, .ref b9, .ref b10, .ref b11, .ref b12, .ref b13, .ref b14, .ref b15, .ref b16, .ref b17, .ref b18, .int ik, .ref b19, .ref b20, .ref b21, .ref b22, .ref b23, .ref b24, .ref b25])), (b1, .inl (Z.2 0, 5, .inl f1)), (b2, .inl (Z.2 0, 5, .inl f2)), (b3, .inl (Z.2 0, 5, .inl f3)), (b4, .inl (Z.2 0, 5, .inl f4)), (b6, .inl (Z.2 0, 5, .inl f6)), (b7, .inl (Z.2 0, 5, .inl f7)), (b12, .inl (Z.2 0, 30, .inl f12)), (b13, .inl (Z.2 0, 6, .inl f13)), (b14, .inl (Z.2 0, 30, .inl f14)), (b15, .inl (Z.2 0, 30, .inl f15))])) (va_Qi (fun (r : Int32) (u : (Nat → Int32) × (Nat → Int32) × (Nat → Int32) × (Nat → Int32) × (Nat → Int32) × (Nat → Int32)) => match u with | (g6, g7, g12, g13, g14, g15) => r = spTurnsA PP a) (fun (u : (Nat → Int32) × (Nat → Int32) × (Nat → Int32) × (Nat → Int32) × (Nat → Int32) × (Nat → Int32)) (t9 : State) => match u with | (g6, g7, g12, g13, g14, g15) => va_P Z.1 vwCl [(h0, .inr (9, [.ref b1, .ref b2, .ref b3, .ref b4, .int (nI n), .ref b5, .int (nI pn), .ref b6, .ref b7, .ref b8, .int (nI tn), .int xp, .int xr, .ref b9, .ref b10, .ref b11, .ref b12, .ref b13, .ref b14, .ref b15, .ref b16, .ref b17, .ref b18, .int ik, .ref b19, .ref b20, .ref b21, .ref b22, .ref b23, .ref b24, .ref b25])), (b1, .inl (Z.2 0, 5, .inl f1)), (b2, .inl (Z.2 0, 5, .inl f2)), (b3, .inl (Z.2 0, 5, .inl f3)), (b4, .inl (Z.2 0, 5, .inl f4)), (b6, .inl (Z.2 0, 5, .inl g6)), (b7, .inl (Z.2 0, 5, .inl g7)), (b12, .inl (Z.2 0, 30, .inl g12)), (b13, .inl (Z.2 0, 6, .inl g13)), (b14, .inl (Z.2 0, 30, .inl g14)), (b15, .inl (Z.2 0, 30, .inl g15))] t9.heap ∧ va_D (va_A [(h0, .inr (9, [.ref b1, .ref b2, .ref b3, .ref b4, .int (nI n), .ref b5, .int (nI pn), .ref b6, .ref b7, .ref b8, .int (nI tn), .int xp, .int xr, .ref b9, .ref b10, .ref b11, .ref b12, .ref b13, .ref b14, .ref b15, .ref b16, .ref b17, .ref b18, .int ik, .ref b19, .ref b20, .ref b21, .ref b22, .ref b23, .ref b24, .ref b25])), (b1, .inl (Z.2 0, 5, .inl f1)), (b2, .inl (Z.2 0, 5, .inl f2)), (b3, .inl (Z.2 0, 5, .inl f3)), (b4, .inl (Z.2 0, 5, .inl f4)), (b6, .inl (Z.2 0, 5, .inl f6)), (b7, .inl (Z.2 0, 5, .inl f7)), (b12, .inl (Z.2 0, 30, .inl f12)), (b13, .inl (Z.2 0, 6, .inl f13)), (b14, .inl (Z.2 0, 30, .inl f14)), (b15, .inl (Z.2 0, 30, .inl f15))] sz) [(h0, .inr (9, [.ref b1, .ref b2, .ref b3, .ref b4, .int (nI n), .ref b5, .int (nI pn), .ref b6, .ref b7, .ref b8, .int (nI tn), .int xp, .int xr, .ref b9, .ref b10, .ref b11, .ref b12, .ref b13, .ref b14, .ref b15, .ref b16, .ref b17, .ref b18, .int ik, .ref b19, .ref b20, .ref b21, .ref b22, .ref b23, .ref b24, .ref b25])), (b1, .inl (Z.2 0, 5, .inl f1)), (b2, .inl (Z.2 0, 5, .inl f2)), (b3, .inl (Z.2 0, 5, .inl f3)), (b4, .inl (Z.2 0, 5, .inl f4)), (b6, .inl (Z.2 0, 5, .inl g6)), (b7, .inl (Z.2 0, 5, .inl g7)), (b12, .inl (Z.2 0, 30, .inl g12)), (b13, .inl (Z.2 0, 6, .inl g13)), (b14, .inl (Z.2 0, 30, .inl g14)), (b15, .inl (Z.2 0, 30, .inl g15))]) (va_A [(h0, .inr (9, [.ref b1, .ref b2, .ref b3, .ref b4, .int (nI n), .ref b5, .int (nI pn), .ref b6, .ref b7, .ref b8, .int (nI tn), .int xp, .int xr, .ref b9, .ref b10, .ref b11, .ref b12, .ref b13, .ref b14, .ref b15, .ref b16, .ref b17, .ref b18, .int ik, .ref b19, .ref b20, .ref b21, .ref b22, .ref b23, .ref b24, .ref b25])), (b1, .inl (Z.2 0, 5, .inl f1)), (b2, .inl (Z.2 0, 5, .inl f2)), (b3, .inl (Z.2 0, 5, .inl f3)), (b4, .inl (Z.2 0, 5, .inl f4)), (b6, .inl (Z.2 0, 5, .inl f6)), (b7, .inl (Z.2 0, 5, .inl f7)), (b12, .inl (Z.2 0, 30, .inl f12)), (b13, .inl (Z.2 0, 6, .inl f13)), (b14, .inl (Z.2 0, 30, .inl f14)), (b15, .inl (Z.2 0, 30, .inl f15))] sz)) 0 0 (va_A [(h0, .inr (9, [.ref b1, .ref b2, .ref b3, .ref b4, .int (nI n), .ref b5, .int (nI pn), .ref b6, .ref b7, .ref b8, .int (nI tn), .int xp, .int xr, .ref b9, .ref b10, .ref b11, .ref b12, .ref b13, .ref b14, .ref b15, .ref b16, .ref b17, .ref b18, .int ik, .ref b19, .ref b20, .ref b21, .ref b22, .ref b23, .ref b24, .ref b25])), (b1, .inl (Z.2 0, 5, .inl f1)), (b2, .inl (Z.2 0, 5, .inl f2)), (b3, .inl (Z.2 0, 5, .inl f3)), (b4, .inl (Z.2 0, 5, .inl f4)), (b6, .inl (Z.2 0, 5, .inl f6)), (b7, .inl (Z.2 0, 5, .inl f7)), (b12, .inl (Z.2 0, 30, .inl f12)), (b13, .inl (Z.2 0, 6, .inl f13)), (b14, .inl (Z.2 0, 30, .inl f14)), (b15, .inl (Z.2 0, 30, .inl f15))] sz) := by
  refine Met.ofW (cc := cX9_turns) (maxL := 2) (ret := (some .int)) (by decide) rfl ?_
  intro p e s m args below meth c s₁ B hml hv
  obtain ⟨rfl, hsz, hP, hK, hD0⟩ := hv
  have hx := B.exec
  have hb := B.bytes
  have hr := B.returns
  have hts := atoms_spec (ws := wsX9_turns) B.pre
  have hown : s.vm.findClass RX9 = some m.cls := findClass_of_methodNamed B.named
  have hlocks := B.notSynchronized
  subst hsz
  have hin9 : ∀ w ∈ wsX90, w ∈ wsX9_turns := fun w h9 => (List.mem_cons_of_mem _ (List.mem_append_right _ h9))
  have hD := hD0.self (sz := s.heap.size)
  generalize hAe : va_A [(h0, .inr (9, [.ref b1, .ref b2, .ref b3, .ref b4, .int (nI n), .ref b5, .int (nI pn), .ref b6, .ref b7, .ref b8, .int (nI tn), .int xp, .int xr, .ref b9, .ref b10, .ref b11, .ref b12, .ref b13, .ref b14, .ref b15, .ref b16, .ref b17, .ref b18, .int ik, .ref b19, .ref b20, .ref b21, .ref b22, .ref b23, .ref b24, .ref b25])), (b1, .inl (Z.2 0, 5, .inl f1)), (b2, .inl (Z.2 0, 5, .inl f2)), (b3, .inl (Z.2 0, 5, .inl f3)), (b4, .inl (Z.2 0, 5, .inl f4)), (b6, .inl (Z.2 0, 5, .inl f6)), (b7, .inl (Z.2 0, 5, .inl f7)), (b12, .inl (Z.2 0, 30, .inl f12)), (b13, .inl (Z.2 0, 6, .inl f13)), (b14, .inl (Z.2 0, 30, .inl f14)), (b15, .inl (Z.2 0, 30, .inl f15))] s.heap.size = A at hD ⊢
  have hA : ∀ q : Nat, s.heap.size ≤ q → A q := fun q h => by rw [← hAe]; exact Or.inr h
  have hS : va_S A s.heap s.heap [] := va_S.rf
  have hP : va_P Z.1 vwCl [(h0, .inr (9, [.ref b1, .ref b2, .ref b3, .ref b4, .int (nI n), .ref b5, .int (nI pn), .ref b6, .ref b7, .ref b8, .int (nI tn), .int xp, .int xr, .ref b9, .ref b10, .ref b11, .ref b12, .ref b13, .ref b14, .ref b15, .ref b16, .ref b17, .ref b18, .int ik, .ref b19, .ref b20, .ref b21, .ref b22, .ref b23, .ref b24, .ref b25])), (b1, .inl (Z.2 0, 5, .inl f1)), (b2, .inl (Z.2 0, 5, .inl f2)), (b3, .inl (Z.2 0, 5, .inl f3)), (b4, .inl (Z.2 0, 5, .inl f4)), (b6, .inl (Z.2 0, 5, .inl f6)), (b7, .inl (Z.2 0, 5, .inl f7)), (b12, .inl (Z.2 0, 30, .inl f12)), (b13, .inl (Z.2 0, 6, .inl f13)), (b14, .inl (Z.2 0, 30, .inl f14)), (b15, .inl (Z.2 0, 30, .inl f15))] s.heap := hP
  have hl := lv_entry ([.ref h0, .int a]) (n := 2) (Nat.le_of_ble_eq_true rfl)
  rw [lg_entry_eq]
  generalize (lg_sl ([.ref h0, .int a]) ++ List.replicate (2 - (lg_sl ([.ref h0, .int a])).length) Slot.unset).toArray = ls at hl ⊢
  have hl : lv_has ls 2 [(0, .ref h0), (1, .int a)] := hl
  refine lv_aload_n hx hb dX9_turns_0 rfl (lv_at hl 0 rfl) ?_
  refine lv_iload_n hx hb dX9_turns_1 rfl (lv_at hl 1 rfl) ?_
  have hPc := hP.sub (ws' := [(h0, .inr (9, [.ref b1, .ref b2, .ref b3, .ref b4, .int (nI n), .ref b5, .int (nI pn), .ref b6, .ref b7, .ref b8, .int (nI tn), .int xp, .int xr, .ref b9, .ref b10, .ref b11, .ref b12, .ref b13, .ref b14, .ref b15, .ref b16, .ref b17, .ref b18, .int ik, .ref b19, .ref b20, .ref b21, .ref b22, .ref b23, .ref b24, .ref b25]))]) [0] rfl
  have hDc := hD.sub (ws' := [(h0, .inr (9, [.ref b1, .ref b2, .ref b3, .ref b4, .int (nI n), .ref b5, .int (nI pn), .ref b6, .ref b7, .ref b8, .int (nI tn), .int xp, .int xr, .ref b9, .ref b10, .ref b11, .ref b12, .ref b13, .ref b14, .ref b15, .ref b16, .ref b17, .ref b18, .int ik, .ref b19, .ref b20, .ref b21, .ref b22, .ref b23, .ref b24, .ref b25]))]) [0] (by decide +kernel) rfl
  have hFc := va_free (wc := [(h0, .inr (9, [.ref b1, .ref b2, .ref b3, .ref b4, .int (nI n), .ref b5, .int (nI pn), .ref b6, .ref b7, .ref b8, .int (nI tn), .int xp, .int xr, .ref b9, .ref b10, .ref b11, .ref b12, .ref b13, .ref b14, .ref b15, .ref b16, .ref b17, .ref b18, .int ik, .ref b19, .ref b20, .ref b21, .ref b22, .ref b23, .ref b24, .ref b25]))]) hD hS hA [0] rfl
  refine va_calli (va_runV (As := [.int a]) (rest := []) ⟨hx, hb, hml, hown, hts⟩ (c_X9_isOne2 l Z s.heap.size h0 b1 b2 b3 b4 b5 b6 b7 b8 b9 b10 b11 b12 b13 b14 b15 b16 b17 b18 b19 b20 b21 b22 b23 b24 b25 n pn tn xp xr ik a (hn)) (cwV 1 hts gX9_turns_X9_isOne rfl rfl rfl (by decide +kernel) ⟨Nat.le_of_ble_eq_true rfl, Nat.le_of_ble_eq_true rfl⟩) ⟨fun a U g mk q => by obtain ⟨q0, q1, qP, qK, qD⟩ := q; exact ⟨q0, q1, qP, va_K.moved (u := U) (U := U.calling g mk a) (Vm.Alike.refl U.vm) qK, qD⟩, va_recv hK hPc (ci := 9) (q0 := 0) rfl rfl, fun U hU hW => ⟨rfl, by rw [hU], by rw [hU]; exact hPc, va_K.moved hW.alike hK, hDc.weaken (fun _ _ _ _ => trivial)⟩⟩ rfl rfl hl.1 rfl (lv_room (Nat.le_of_ble_eq_true rfl)) dX9_turns_2 ⟨Nat.le_of_ble_eq_true rfl, Nat.le_of_ble_eq_true rfl⟩) hS (fun q _ h => hFc q h) hFc (fun r_1 u t9 H1 locs ht hvm hw hB hz1 hk1 hS => ?_)
  have hwr_1 := hw
  obtain ⟨hP1, hD1⟩ := hB
  rw [ht] at hP1
  obtain ⟨hP, hD⟩ := va_join (wr := [(b1, .inl (Z.2 0, 5, .inl f1)), (b2, .inl (Z.2 0, 5, .inl f2)), (b3, .inl (Z.2 0, 5, .inl f3)), (b4, .inl (Z.2 0, 5, .inl f4)), (b6, .inl (Z.2 0, 5, .inl f6)), (b7, .inl (Z.2 0, 5, .inl f7)), (b12, .inl (Z.2 0, 30, .inl f12)), (b13, .inl (Z.2 0, 6, .inl f13)), (b14, .inl (Z.2 0, 30, .inl f14)), (b15, .inl (Z.2 0, 30, .inl f15))]) (w1 := [(h0, .inr (9, [.ref b1, .ref b2, .ref b3, .ref b4, .int (nI n), .ref b5, .int (nI pn), .ref b6, .ref b7, .ref b8, .int (nI tn), .int xp, .int xr, .ref b9, .ref b10, .ref b11, .ref b12, .ref b13, .ref b14, .ref b15, .ref b16, .ref b17, .ref b18, .int ik, .ref b19, .ref b20, .ref b21, .ref b22, .ref b23, .ref b24, .ref b25]))]) hP hD [0] [1, 2, 3, 4, 5, 6, 7, 8, 9, 10] rfl rfl (by decide +kernel) (by decide +kernel) hk1 hFc hP1 hD1
  clear hPc hDc hP1 hD1 hk1 hz1 hFc ht hvm
  generalize H1 = H at hP hS ⊢
  have hP : va_P Z.1 vwCl [(b1, .inl (Z.2 0, 5, .inl f1)), (b2, .inl (Z.2 0, 5, .inl f2)), (b3, .inl (Z.2 0, 5, .inl f3)), (b4, .inl (Z.2 0, 5, .inl f4)), (b6, .inl (Z.2 0, 5, .inl f6)), (b7, .inl (Z.2 0, 5, .inl f7)), (b12, .inl (Z.2 0, 30, .inl f12)), (b13, .inl (Z.2 0, 6, .inl f13)), (b14, .inl (Z.2 0, 30, .inl f14)), (b15, .inl (Z.2 0, 30, .inl f15)), (h0, .inr (9, [.ref b1, .ref b2, .ref b3, .ref b4, .int (nI n), .ref b5, .int (nI pn), .ref b6, .ref b7, .ref b8, .int (nI tn), .int xp, .int xr, .ref b9, .ref b10, .ref b11, .ref b12, .ref b13, .ref b14, .ref b15, .ref b16, .ref b17, .ref b18, .int ik, .ref b19, .ref b20, .ref b21, .ref b22, .ref b23, .ref b24, .ref b25]))] H := hP
  have hD : va_D A [(b1, .inl (Z.2 0, 5, .inl f1)), (b2, .inl (Z.2 0, 5, .inl f2)), (b3, .inl (Z.2 0, 5, .inl f3)), (b4, .inl (Z.2 0, 5, .inl f4)), (b6, .inl (Z.2 0, 5, .inl f6)), (b7, .inl (Z.2 0, 5, .inl f7)), (b12, .inl (Z.2 0, 30, .inl f12)), (b13, .inl (Z.2 0, 6, .inl f13)), (b14, .inl (Z.2 0, 30, .inl f14)), (b15, .inl (Z.2 0, 30, .inl f15)), (h0, .inr (9, [.ref b1, .ref b2, .ref b3, .ref b4, .int (nI n), .ref b5, .int (nI pn), .ref b6, .ref b7, .ref b8, .int (nI tn), .int xp, .int xr, .ref b9, .ref b10, .ref b11, .ref b12, .ref b13, .ref b14, .ref b15, .ref b16, .ref b17, .ref b18, .int ik, .ref b19, .ref b20, .ref b21, .ref b22, .ref b23, .ref b24, .ref b25]))] := hD
  rcases hwr_1 with ⟨rfl, ha⟩ | ⟨rfl, ha⟩
  · refine lv_if_ne (tgt := 10) hx hb dX9_turns_5 (by decide) (fun _ => ?_) (fun c9 => absurd c9 (by decide))
    refine lv_aload_n hx hb dX9_turns_10 rfl (lv_at hl 0 rfl) ?_
    have hPc := hP.sub (ws' := [(h0, .inr (9, [.ref b1, .ref b2, .ref b3, .ref b4, .int (nI n), .ref b5, .int (nI pn), .ref b6, .ref b7, .ref b8, .int (nI tn), .int xp, .int xr, .ref b9, .ref b10, .ref b11, .ref b12, .ref b13, .ref b14, .ref b15, .ref b16, .ref b17, .ref b18, .int ik, .ref b19, .ref b20, .ref b21, .ref b22, .ref b23, .ref b24, .ref b25])), (b1, .inl (Z.2 0, 5, .inl f1)), (b2, .inl (Z.2 0, 5, .inl f2)), (b3, .inl (Z.2 0, 5, .inl f3)), (b4, .inl (Z.2 0, 5, .inl f4)), (b6, .inl (Z.2 0, 5, .inl f6)), (b7, .inl (Z.2 0, 5, .inl f7)), (b12, .inl (Z.2 0, 30, .inl f12)), (b13, .inl (Z.2 0, 6, .inl f13)), (b14, .inl (Z.2 0, 30, .inl f14)), (b15, .inl (Z.2 0, 30, .inl f15))]) [10, 0, 1, 2, 3, 4, 5, 6, 7, 8, 9] rfl
    have hDc := hD.sub (ws' := [(h0, .inr (9, [.ref b1, .ref b2, .ref b3, .ref b4, .int (nI n), .ref b5, .int (nI pn), .ref b6, .ref b7, .ref b8, .int (nI tn), .int xp, .int xr, .ref b9, .ref b10, .ref b11, .ref b12, .ref b13, .ref b14, .ref b15, .ref b16, .ref b17, .ref b18, .int ik, .ref b19, .ref b20, .ref b21, .ref b22, .ref b23, .ref b24, .ref b25])), (b1, .inl (Z.2 0, 5, .inl f1)), (b2, .inl (Z.2 0, 5, .inl f2)), (b3, .inl (Z.2 0, 5, .inl f3)), (b4, .inl (Z.2 0, 5, .inl f4)), (b6, .inl (Z.2 0, 5, .inl f6)), (b7, .inl (Z.2 0, 5, .inl f7)), (b12, .inl (Z.2 0, 30, .inl f12)), (b13, .inl (Z.2 0, 6, .inl f13)), (b14, .inl (Z.2 0, 30, .inl f14)), (b15, .inl (Z.2 0, 30, .inl f15))]) [10, 0, 1, 2, 3, 4, 5, 6, 7, 8, 9] (by decide +kernel) rfl
    have hFc := va_free (wc := [(h0, .inr (9, [.ref b1, .ref b2, .ref b3, .ref b4, .int (nI n), .ref b5, .int (nI pn), .ref b6, .ref b7, .ref b8, .int (nI tn), .int xp, .int xr, .ref b9, .ref b10, .ref b11, .ref b12, .ref b13, .ref b14, .ref b15, .ref b16, .ref b17, .ref b18, .int ik, .ref b19, .ref b20, .ref b21, .ref b22, .ref b23, .ref b24, .ref b25])), (b1, .inl (Z.2 0, 5, .inl f1)), (b2, .inl (Z.2 0, 5, .inl f2)), (b3, .inl (Z.2 0, 5, .inl f3)), (b4, .inl (Z.2 0, 5, .inl f4)), (b6, .inl (Z.2 0, 5, .inl f6)), (b7, .inl (Z.2 0, 5, .inl f7)), (b12, .inl (Z.2 0, 30, .inl f12)), (b13, .inl (Z.2 0, 6, .inl f13)), (b14, .inl (Z.2 0, 30, .inl f14)), (b15, .inl (Z.2 0, 30, .inl f15))]) hD hS hA [10, 0, 1, 2, 3, 4, 5, 6, 7, 8, 9] rfl
    refine va_callv (va_runV (As := []) (rest := []) ⟨hx, hb, hml, hown, hts⟩ (c_X9_findTurns l Z H.size h0 b1 b2 b3 b4 b5 b6 b7 b8 b9 b10 b11 b12 b13 b14 b15 b16 b17 b18 b19 b20 b21 b22 b23 b24 b25 n pn tn xp xr ik f1 f2 f3 f4 f6 f7 f12 f13 f14 f15 PP NN (hn) (hF) (hPw) (hNN)) (cwV 0 hts gX9_turns_X9_findTurns rfl rfl rfl (by decide +kernel) ⟨Nat.le_of_ble_eq_true rfl, Nat.le_of_ble_eq_true rfl⟩) ⟨fun a U g mk q => by obtain ⟨q0, q1, qP, qK, qD⟩ := q; exact ⟨q0, q1, qP, va_K.moved (u := U) (U := U.calling g mk a) (Vm.Alike.refl U.vm) qK, qD⟩, va_recv hK hPc (ci := 9) (q0 := 0) rfl rfl, fun U hU hW => ⟨rfl, by rw [hU], by rw [hU]; exact hPc, va_K.moved hW.alike hK, hDc.weaken (fun _ _ _ _ => trivial)⟩⟩ rfl rfl hl.1 rfl (lv_room (Nat.le_of_ble_eq_true rfl)) dX9_turns_11 ⟨Nat.le_of_ble_eq_true rfl, Nat.le_of_ble_eq_true rfl⟩) hS (fun q _ h => hFc q h) hFc (fun u t9 H1 locs ht hvm hw hB hz1 hk1 hS => ?_)
    obtain ⟨g6_3, g7_4, g12_5, g13_6, g14_7, g15_8⟩ := u
    try dsimp only at hw hB
    have hwr_2 := hw
    obtain ⟨hP1, hD1⟩ := hB
    rw [ht] at hP1
    obtain ⟨hP, hD⟩ := va_join (wr := []) (w1 := [(h0, .inr (9, [.ref b1, .ref b2, .ref b3, .ref b4, .int (nI n), .ref b5, .int (nI pn), .ref b6, .ref b7, .ref b8, .int (nI tn), .int xp, .int xr, .ref b9, .ref b10, .ref b11, .ref b12, .ref b13, .ref b14, .ref b15, .ref b16, .ref b17, .ref b18, .int ik, .ref b19, .ref b20, .ref b21, .ref b22, .ref b23, .ref b24, .ref b25])), (b1, .inl (Z.2 0, 5, .inl f1)), (b2, .inl (Z.2 0, 5, .inl f2)), (b3, .inl (Z.2 0, 5, .inl f3)), (b4, .inl (Z.2 0, 5, .inl f4)), (b6, .inl (Z.2 0, 5, .inl g6_3)), (b7, .inl (Z.2 0, 5, .inl g7_4)), (b12, .inl (Z.2 0, 30, .inl g12_5)), (b13, .inl (Z.2 0, 6, .inl g13_6)), (b14, .inl (Z.2 0, 30, .inl g14_7)), (b15, .inl (Z.2 0, 30, .inl g15_8))]) hP hD [10, 0, 1, 2, 3, 4, 5, 6, 7, 8, 9] [] rfl rfl (by decide +kernel) (by decide +kernel) hk1 hFc hP1 hD1
    clear hPc hDc hP1 hD1 hk1 hz1 hFc ht hvm
    generalize H1 = H at hP hS ⊢
    have hP : va_P Z.1 vwCl [(h0, .inr (9, [.ref b1, .ref b2, .ref b3, .ref b4, .int (nI n), .ref b5, .int (nI pn), .ref b6, .ref b7, .ref b8, .int (nI tn), .int xp, .int xr, .ref b9, .ref b10, .ref b11, .ref b12, .ref b13, .ref b14, .ref b15, .ref b16, .ref b17, .ref b18, .int ik, .ref b19, .ref b20, .ref b21, .ref b22, .ref b23, .ref b24, .ref b25])), (b1, .inl (Z.2 0, 5, .inl f1)), (b2, .inl (Z.2 0, 5, .inl f2)), (b3, .inl (Z.2 0, 5, .inl f3)), (b4, .inl (Z.2 0, 5, .inl f4)), (b6, .inl (Z.2 0, 5, .inl g6_3)), (b7, .inl (Z.2 0, 5, .inl g7_4)), (b12, .inl (Z.2 0, 30, .inl g12_5)), (b13, .inl (Z.2 0, 6, .inl g13_6)), (b14, .inl (Z.2 0, 30, .inl g14_7)), (b15, .inl (Z.2 0, 30, .inl g15_8))] H := hP
    have hD : va_D A [(h0, .inr (9, [.ref b1, .ref b2, .ref b3, .ref b4, .int (nI n), .ref b5, .int (nI pn), .ref b6, .ref b7, .ref b8, .int (nI tn), .int xp, .int xr, .ref b9, .ref b10, .ref b11, .ref b12, .ref b13, .ref b14, .ref b15, .ref b16, .ref b17, .ref b18, .int ik, .ref b19, .ref b20, .ref b21, .ref b22, .ref b23, .ref b24, .ref b25])), (b1, .inl (Z.2 0, 5, .inl f1)), (b2, .inl (Z.2 0, 5, .inl f2)), (b3, .inl (Z.2 0, 5, .inl f3)), (b4, .inl (Z.2 0, 5, .inl f4)), (b6, .inl (Z.2 0, 5, .inl g6_3)), (b7, .inl (Z.2 0, 5, .inl g7_4)), (b12, .inl (Z.2 0, 30, .inl g12_5)), (b13, .inl (Z.2 0, 6, .inl g13_6)), (b14, .inl (Z.2 0, 30, .inl g14_7)), (b15, .inl (Z.2 0, 30, .inl g15_8))] := hD
    have hR9 := hwr_2
    refine lv_aload_n hx hb dX9_turns_14 rfl (lv_at hl 0 rfl) ?_
    refine va_get (D := Z.1) (ci := 9) (v := .ref b15) (C := RX9) (T := TX9) (N := 31) hx hb hts hin9 hown hK hP 0 rfl rfl 19 (by decide) (hts (.fieldLink RX9 52 "HalfAskedModel" "choices" "[I") (List.mem_of_getElem? (i := 1) rfl)) (fun _ h9 => h9) rfl dX9_turns_15 ?_
    refine lv_iload_n hx hb dX9_turns_18 rfl (lv_at hl 1 rfl) ?_
    refine va_iald hx hb hK hP 10 0 rfl rfl (z_in_mono ha (by omega)) dX9_turns_19 ?_
    refine lv_if_ne (tgt := 28) hx hb dX9_turns_20 (by decide) (fun c_9 => ?_) (fun c_9 => ?_)
    · refine lv_aload_n hx hb dX9_turns_28 rfl (lv_at hl 0 rfl) ?_
      refine va_get (D := Z.1) (ci := 9) (v := .ref b15) (C := RX9) (T := TX9) (N := 31) hx hb hts hin9 hown hK hP 0 rfl rfl 19 (by decide) (hts (.fieldLink RX9 52 "HalfAskedModel" "choices" "[I") (List.mem_of_getElem? (i := 1) rfl)) (fun _ h9 => h9) rfl dX9_turns_29 ?_
      refine lv_iload_n hx hb dX9_turns_32 rfl (lv_at hl 1 rfl) ?_
      refine va_iald hx hb hK hP 10 0 rfl rfl (z_in_mono ha (by omega)) dX9_turns_33 ?_
      refine lv_iconst (v := 1) hx hb dX9_turns_34 (by decide) ?_
      refine lv_isub hx hb dX9_turns_35 ?_
      have hP9 := hP.sub (ws' := [(h0, .inr (9, [.ref b1, .ref b2, .ref b3, .ref b4, .int (nI n), .ref b5, .int (nI pn), .ref b6, .ref b7, .ref b8, .int (nI tn), .int xp, .int xr, .ref b9, .ref b10, .ref b11, .ref b12, .ref b13, .ref b14, .ref b15, .ref b16, .ref b17, .ref b18, .int ik, .ref b19, .ref b20, .ref b21, .ref b22, .ref b23, .ref b24, .ref b25])), (b1, .inl (Z.2 0, 5, .inl f1)), (b2, .inl (Z.2 0, 5, .inl f2)), (b3, .inl (Z.2 0, 5, .inl f3)), (b4, .inl (Z.2 0, 5, .inl f4)), (b6, .inl (Z.2 0, 5, .inl g6_3)), (b7, .inl (Z.2 0, 5, .inl g7_4)), (b12, .inl (Z.2 0, 30, .inl g12_5)), (b13, .inl (Z.2 0, 6, .inl g13_6)), (b14, .inl (Z.2 0, 30, .inl g14_7)), (b15, .inl (Z.2 0, 30, .inl g15_8))]) [0, 1, 2, 3, 4, 5, 6, 7, 8, 9, 10] rfl
      have hD9 := hD.sub (ws' := [(h0, .inr (9, [.ref b1, .ref b2, .ref b3, .ref b4, .int (nI n), .ref b5, .int (nI pn), .ref b6, .ref b7, .ref b8, .int (nI tn), .int xp, .int xr, .ref b9, .ref b10, .ref b11, .ref b12, .ref b13, .ref b14, .ref b15, .ref b16, .ref b17, .ref b18, .int ik, .ref b19, .ref b20, .ref b21, .ref b22, .ref b23, .ref b24, .ref b25])), (b1, .inl (Z.2 0, 5, .inl f1)), (b2, .inl (Z.2 0, 5, .inl f2)), (b3, .inl (Z.2 0, 5, .inl f3)), (b4, .inl (Z.2 0, 5, .inl f4)), (b6, .inl (Z.2 0, 5, .inl g6_3)), (b7, .inl (Z.2 0, 5, .inl g7_4)), (b12, .inl (Z.2 0, 30, .inl g12_5)), (b13, .inl (Z.2 0, 6, .inl g13_6)), (b14, .inl (Z.2 0, 30, .inl g14_7)), (b15, .inl (Z.2 0, 30, .inl g15_8))]) [0, 1, 2, 3, 4, 5, 6, 7, 8, 9, 10] (by decide +kernel) rfl
      exact W.iret (v := ((g15_8 a.toNatClampNeg) - 1)) hx hb hr (fun t9 ht hW => ⟨⟨(g15_8 a.toNatClampNeg) - 1, (g6_3, g7_4, g12_5, g13_6, g14_7, g15_8), rfl, (by have h8 := turnsA_m hn hF.1 hR9 (fun w _ => spTn_pk (by omega) n 0 PP w) ha; rw [if_neg c_9] at h8; exact h8), by rw [ht]; exact hP9, hD9⟩, hS.F ht⟩) hS.2.2 dX9_turns_36
    · refine lv_bipush (v := 9) hx hb dX9_turns_23 (by decide) ?_
      refine lv_goto (tgt := 36) hx hb dX9_turns_25 (by decide) ?_
      have hP9 := hP.sub (ws' := [(h0, .inr (9, [.ref b1, .ref b2, .ref b3, .ref b4, .int (nI n), .ref b5, .int (nI pn), .ref b6, .ref b7, .ref b8, .int (nI tn), .int xp, .int xr, .ref b9, .ref b10, .ref b11, .ref b12, .ref b13, .ref b14, .ref b15, .ref b16, .ref b17, .ref b18, .int ik, .ref b19, .ref b20, .ref b21, .ref b22, .ref b23, .ref b24, .ref b25])), (b1, .inl (Z.2 0, 5, .inl f1)), (b2, .inl (Z.2 0, 5, .inl f2)), (b3, .inl (Z.2 0, 5, .inl f3)), (b4, .inl (Z.2 0, 5, .inl f4)), (b6, .inl (Z.2 0, 5, .inl g6_3)), (b7, .inl (Z.2 0, 5, .inl g7_4)), (b12, .inl (Z.2 0, 30, .inl g12_5)), (b13, .inl (Z.2 0, 6, .inl g13_6)), (b14, .inl (Z.2 0, 30, .inl g14_7)), (b15, .inl (Z.2 0, 30, .inl g15_8))]) [0, 1, 2, 3, 4, 5, 6, 7, 8, 9, 10] rfl
      have hD9 := hD.sub (ws' := [(h0, .inr (9, [.ref b1, .ref b2, .ref b3, .ref b4, .int (nI n), .ref b5, .int (nI pn), .ref b6, .ref b7, .ref b8, .int (nI tn), .int xp, .int xr, .ref b9, .ref b10, .ref b11, .ref b12, .ref b13, .ref b14, .ref b15, .ref b16, .ref b17, .ref b18, .int ik, .ref b19, .ref b20, .ref b21, .ref b22, .ref b23, .ref b24, .ref b25])), (b1, .inl (Z.2 0, 5, .inl f1)), (b2, .inl (Z.2 0, 5, .inl f2)), (b3, .inl (Z.2 0, 5, .inl f3)), (b4, .inl (Z.2 0, 5, .inl f4)), (b6, .inl (Z.2 0, 5, .inl g6_3)), (b7, .inl (Z.2 0, 5, .inl g7_4)), (b12, .inl (Z.2 0, 30, .inl g12_5)), (b13, .inl (Z.2 0, 6, .inl g13_6)), (b14, .inl (Z.2 0, 30, .inl g14_7)), (b15, .inl (Z.2 0, 30, .inl g15_8))]) [0, 1, 2, 3, 4, 5, 6, 7, 8, 9, 10] (by decide +kernel) rfl
      exact W.iret (v := 9) hx hb hr (fun t9 ht hW => ⟨⟨9, (g6_3, g7_4, g12_5, g13_6, g14_7, g15_8), rfl, (by have h8 := turnsA_m hn hF.1 hR9 (fun w _ => spTn_pk (by omega) n 0 PP w) ha; rw [if_pos c_9] at h8; exact h8), by rw [ht]; exact hP9, hD9⟩, hS.F ht⟩) hS.2.2 dX9_turns_36
  · refine lv_if_ne (tgt := 10) hx hb dX9_turns_5 (by decide) (fun c9 => absurd c9 (by decide)) (fun _ => ?_)
    refine lv_iconst (v := (-1)) hx hb dX9_turns_8 (by decide) ?_
    have hP9 := hP.sub (ws' := [(h0, .inr (9, [.ref b1, .ref b2, .ref b3, .ref b4, .int (nI n), .ref b5, .int (nI pn), .ref b6, .ref b7, .ref b8, .int (nI tn), .int xp, .int xr, .ref b9, .ref b10, .ref b11, .ref b12, .ref b13, .ref b14, .ref b15, .ref b16, .ref b17, .ref b18, .int ik, .ref b19, .ref b20, .ref b21, .ref b22, .ref b23, .ref b24, .ref b25])), (b1, .inl (Z.2 0, 5, .inl f1)), (b2, .inl (Z.2 0, 5, .inl f2)), (b3, .inl (Z.2 0, 5, .inl f3)), (b4, .inl (Z.2 0, 5, .inl f4)), (b6, .inl (Z.2 0, 5, .inl f6)), (b7, .inl (Z.2 0, 5, .inl f7)), (b12, .inl (Z.2 0, 30, .inl f12)), (b13, .inl (Z.2 0, 6, .inl f13)), (b14, .inl (Z.2 0, 30, .inl f14)), (b15, .inl (Z.2 0, 30, .inl f15))]) [10, 0, 1, 2, 3, 4, 5, 6, 7, 8, 9] rfl
    have hD9 := hD.sub (ws' := [(h0, .inr (9, [.ref b1, .ref b2, .ref b3, .ref b4, .int (nI n), .ref b5, .int (nI pn), .ref b6, .ref b7, .ref b8, .int (nI tn), .int xp, .int xr, .ref b9, .ref b10, .ref b11, .ref b12, .ref b13, .ref b14, .ref b15, .ref b16, .ref b17, .ref b18, .int ik, .ref b19, .ref b20, .ref b21, .ref b22, .ref b23, .ref b24, .ref b25])), (b1, .inl (Z.2 0, 5, .inl f1)), (b2, .inl (Z.2 0, 5, .inl f2)), (b3, .inl (Z.2 0, 5, .inl f3)), (b4, .inl (Z.2 0, 5, .inl f4)), (b6, .inl (Z.2 0, 5, .inl f6)), (b7, .inl (Z.2 0, 5, .inl f7)), (b12, .inl (Z.2 0, 30, .inl f12)), (b13, .inl (Z.2 0, 6, .inl f13)), (b14, .inl (Z.2 0, 30, .inl f14)), (b15, .inl (Z.2 0, 30, .inl f15))]) [10, 0, 1, 2, 3, 4, 5, 6, 7, 8, 9] (by decide +kernel) rfl
    exact W.iret (v := (-1)) hx hb hr (fun t9 ht hW => ⟨⟨(-1), (f6, f7, f12, f13, f14, f15), rfl, (zI_n (fun q9 => ha (by rw [hF.1]; exact q9))).symm, by rw [ht]; exact hP9, hD9⟩, hS.F ht⟩) hS.2.2 dX9_turns_9
set_option maxHeartbeats 4000000 in
set_option maxRecDepth 100000 in
theorem c_X9_ends (l : Launch) (Z : gZ) (sz : Nat) (h0 : Nat) (b1 : Nat) (b2 : Nat) (b3 : Nat) (b4 : Nat) (b5 : Nat) (b6 : Nat) (b7 : Nat) (b8 : Nat) (b9 : Nat) (b10 : Nat) (b11 : Nat) (b12 : Nat) (b13 : Nat) (b14 : Nat) (b15 : Nat) (b16 : Nat) (b17 : Nat) (b18 : Nat) (b19 : Nat) (b20 : Nat) (b21 : Nat) (b22 : Nat) (b23 : Nat) (b24 : Nat) (b25 : Nat) (n : Nat) (pn : Nat) (tn : Nat) (xp : Int32) (xr : Int32) (ik : Int32) (f1 : Nat → Int32) (f2 : Nat → Int32) (f3 : Nat → Int32) (f4 : Nat → Int32) (f6 : Nat → Int32) (f7 : Nat → Int32) (f12 : Nat → Int32) (f13 : Nat → Int32) (f14 : Nat → Int32) (f15 : Nat → Int32) (a : Int32) (PP : spF) (NN : Nat) (hn : n ≤ 5) (hF : zFm PP n f1 f2 f3 f4) (hPw : zFw PP NN) (hNN : NN < 1000000000) : Met l yX9_ends wsX9_ends ({ frames := 9, cells := 0, slots := 0, locals := 321 }) (va_Pc [.ref h0, .int a] (fun U => U.heap.size = sz ∧ va_P Z.1 vwCl [(h0, .inr (9, [.ref b1, .ref b2, .ref b3, .ref b4, .int (nI n), .ref b5, .int (nI pn), .ref b6, .ref b7, .ref b8, .int (nI tn), .int xp, .int xr, .ref b9, .ref b10, .ref b11, .ref b12, .ref b13, .ref b14, .ref b15, .ref b16, .ref b17, .ref b18, .int ik, .ref b19, .ref b20, .ref b21, .ref b22, .ref b23, .ref b24, .ref b25])), (b1, .inl (Z.2 0, 5, .inl f1)), (b2, .inl (Z.2 0, 5, .inl f2)), (b3, .inl (Z.2 0, 5, .inl f3)), (b4, .inl (Z.2 0, 5, .inl f4)), (b6, .inl (Z.2 0, 5, .inl f6)), (b7, .inl (Z.2 0, 5, .inl f7)), (b12, .inl (Z.2 0, 30, .inl f12)), (b13, .inl (Z.2 0, 6, .inl f13)), (b14, .inl (Z.2 0, 30, .inl f14)), (b15, .inl (Z.2 0, 30, .inl f15))] U.heap ∧ va_K Z.1 vwCl (gT Z) U ∧ va_D (fun _ => True) [(h0, .inr (9, [.ref b1, .ref b2, .ref b3, .ref b4, .int (nI n), .ref b5, .int (nI pn), .ref b6, .ref b7, .ref b8, .int (nI tn), .int xp, .int xr, .ref b9, .ref b10, .ref b11, .ref b12, .ref b13, .ref b14, .ref b15, .ref b16, .ref b17, .ref b18, .int ik, .ref b19, .ref b20, .ref b21, .ref b22, .ref b23, .ref b24, .ref b25])), (b1, .inl (Z.2 0, 5, .inl f1)), (b2, .inl (Z.2 0, 5, .inl f2)), (b3, .inl (Z.2 0, 5, .inl f3)), (b4, .inl (Z.2 0, 5, .inl f4)), (b6, .inl (Z.2 0, 5, .inl f6)), (b7, .inl (Z.2 0, 5, .inl f7)), (b12, .inl (Z.2 0, 30, .inl f12)), (b13, .inl (Z.2 0, 6, .inl f13)), (b14, .inl (Z.2 0, 30, .inl f14)), (b15, .inl (Z.2 0, 30, .inl f15))])) (va_Qi (fun (r : Int32) (u : (Nat → Int32) × (Nat → Int32) × (Nat → Int32) × (Nat → Int32) × (Nat → Int32) × (Nat → Int32)) => match u with | (g6, g7, g12, g13, g14, g15) => r = spEndsA PP a) (fun (u : (Nat → Int32) × (Nat → Int32) × (Nat → Int32) × (Nat → Int32) × (Nat → Int32) × (Nat → Int32)) (t9 : State) => match u with | (g6, g7, g12, g13, g14, g15) => va_P Z.1 vwCl [(h0, .inr (9, [.ref b1, .ref b2, .ref b3, .ref b4, .int (nI n), .ref b5, .int (nI pn), .ref b6, .ref b7, .ref b8, .int (nI tn), .int xp, .int xr, .ref b9, .ref b10, .ref b11, .ref b12, .ref b13, .ref b14, .ref b15, .ref b16, .ref b17, .ref b18, .int ik, .ref b19, .ref b20, .ref b21, .ref b22, .ref b23, .ref b24, .ref b25])), (b1, .inl (Z.2 0, 5, .inl f1)), (b2, .inl (Z.2 0, 5, .inl f2)), (b3, .inl (Z.2 0, 5, .inl f3)), (b4, .inl (Z.2 0, 5, .inl f4)), (b6, .inl (Z.2 0, 5, .inl g6)), (b7, .inl (Z.2 0, 5, .inl g7)), (b12, .inl (Z.2 0, 30, .inl g12)), (b13, .inl (Z.2 0, 6, .inl g13)), (b14, .inl (Z.2 0, 30, .inl g14)), (b15, .inl (Z.2 0, 30, .inl g15))] t9.heap ∧ va_D (va_A [(h0, .inr (9, [.ref b1, .ref b2, .ref b3, .ref b4, .int (nI n), .ref b5, .int (nI pn), .ref b6, .ref b7, .ref b8, .int (nI tn), .int xp, .int xr, .ref b9, .ref b10, .ref b11, .ref b12, .ref b13, .ref b14, .ref b15, .ref b16, .ref b17, .ref b18, .int ik, .ref b19, .ref b20, .ref b21, .ref b22, .ref b23, .ref b24, .ref b25])), (b1, .inl (Z.2 0, 5, .inl f1)), (b2, .inl (Z.2 0, 5, .inl f2)), (b3, .inl (Z.2 0, 5, .inl f3)), (b4, .inl (Z.2 0, 5, .inl f4)), (b6, .inl (Z.2 0, 5, .inl f6)), (b7, .inl (Z.2 0, 5, .inl f7)), (b12, .inl (Z.2 0, 30, .inl f12)), (b13, .inl (Z.2 0, 6, .inl f13)), (b14, .inl (Z.2 0, 30, .inl f14)), (b15, .inl (Z.2 0, 30, .inl f15))] sz) [(h0, .inr (9, [.ref b1, .ref b2, .ref b3, .ref b4, .int (nI n), .ref b5, .int (nI pn), .ref b6, .ref b7, .ref b8, .int (nI tn), .int xp, .int xr, .ref b9, .ref b10, .ref b11, .ref b12, .ref b13, .ref b14, .ref b15, .ref b16, .ref b17, .ref b18, .int ik, .ref b19, .ref b20, .ref b21, .ref b22, .ref b23, .ref b24, .ref b25])), (b1, .inl (Z.2 0, 5, .inl f1)), (b2, .inl (Z.2 0, 5, .inl f2)), (b3, .inl (Z.2 0, 5, .inl f3)), (b4, .inl (Z.2 0, 5, .inl f4)), (b6, .inl (Z.2 0, 5, .inl g6)), (b7, .inl (Z.2 0, 5, .inl g7)), (b12, .inl (Z.2 0, 30, .inl g12)), (b13, .inl (Z.2 0, 6, .inl g13)), (b14, .inl (Z.2 0, 30, .inl g14)), (b15, .inl (Z.2 0, 30, .inl g15))]) (va_A [(h0, .inr (9, [.ref b1, .ref b2, .ref b3, .ref b4, .int (nI n), .ref b5, .int (nI pn), .ref b6, .ref b7, .ref b8, .int (nI tn), .int xp, .int xr, .ref b9, .ref b10, .ref b11, .ref b12, .ref b13, .ref b14, .ref b15, .ref b16, .ref b17, .ref b18, .int ik, .ref b19, .ref b20, .ref b21, .ref b22, .ref b23, .ref b24, .ref b25])), (b1, .inl (Z.2 0, 5, .inl f1)), (b2, .inl (Z.2 0, 5, .inl f2)), (b3, .inl (Z.2 0, 5, .inl f3)), (b4, .inl (Z.2 0, 5, .inl f4)), (b6, .inl (Z.2 0, 5, .inl f6)), (b7, .inl (Z.2 0, 5, .inl f7)), (b12, .inl (Z.2 0, 30, .inl f12)), (b13, .inl (Z.2 0, 6, .inl f13)), (b14, .inl (Z.2 0, 30, .inl f14)), (b15, .inl (Z.2 0, 30, .inl f15))] sz)) 0 0 (va_A [(h0, .inr (9, [.ref b1, .ref b2, .ref b3, .ref b4, .int (nI n), .ref b5, .int (nI pn), .ref b6, .ref b7, .ref b8, .int (nI tn), .int xp, .int xr, .ref b9, .ref b10, .ref b11, .ref b12, .ref b13, .ref b14, .ref b15, .ref b16, .ref b17, .ref b18, .int ik, .ref b19, .ref b20, .ref b21, .ref b22, .ref b23, .ref b24, .ref b25])), (b1, .inl (Z.2 0, 5, .inl f1)), (b2, .inl (Z.2 0, 5, .inl f2)), (b3, .inl (Z.2 0, 5, .inl f3)), (b4, .inl (Z.2 0, 5, .inl f4)), (b6, .inl (Z.2 0, 5, .inl f6)), (b7, .inl (Z.2 0, 5, .inl f7)), (b12, .inl (Z.2 0, 30, .inl f12)), (b13, .inl (Z.2 0, 6, .inl f13)), (b14, .inl (Z.2 0, 30, .inl f14)), (b15, .inl (Z.2 0, 30, .inl f15))] sz) := by
  refine Met.ofW (cc := cX9_ends) (maxL := 2) (ret := (some .int)) (by decide) rfl ?_
  intro p e s m args below meth c s₁ B hml hv
  obtain ⟨rfl, hsz, hP, hK, hD0⟩ := hv
  have hx := B.exec
  have hb := B.bytes
  have hr := B.returns
  have hts := atoms_spec (ws := wsX9_ends) B.pre
  have hown : s.vm.findClass RX9 = some m.cls := findClass_of_methodNamed B.named
  have hlocks := B.notSynchronized
  subst hsz
  have hin9 : ∀ w ∈ wsX90, w ∈ wsX9_ends := fun w h9 => (List.mem_cons_of_mem _ (List.mem_append_right _ h9))
  have hD := hD0.self (sz := s.heap.size)
  generalize hAe : va_A [(h0, .inr (9, [.ref b1, .ref b2, .ref b3, .ref b4, .int (nI n), .ref b5, .int (nI pn), .ref b6, .ref b7, .ref b8, .int (nI tn), .int xp, .int xr, .ref b9, .ref b10, .ref b11, .ref b12, .ref b13, .ref b14, .ref b15, .ref b16, .ref b17, .ref b18, .int ik, .ref b19, .ref b20, .ref b21, .ref b22, .ref b23, .ref b24, .ref b25])), (b1, .inl (Z.2 0, 5, .inl f1)), (b2, .inl (Z.2 0, 5, .inl f2)), (b3, .inl (Z.2 0, 5, .inl f3)), (b4, .inl (Z.2 0, 5, .inl f4)), (b6, .inl (Z.2 0, 5, .inl f6)), (b7, .inl (Z.2 0, 5, .inl f7)), (b12, .inl (Z.2 0, 30, .inl f12)), (b13, .inl (Z.2 0, 6, .inl f13)), (b14, .inl (Z.2 0, 30, .inl f14)), (b15, .inl (Z.2 0, 30, .inl f15))] s.heap.size = A at hD ⊢
  have hA : ∀ q : Nat, s.heap.size ≤ q → A q := fun q h => by rw [← hAe]; exact Or.inr h
  have hS : va_S A s.heap s.heap [] := va_S.rf
  have hP : va_P Z.1 vwCl [(h0, .inr (9, [.ref b1, .ref b2, .ref b3, .ref b4, .int (nI n), .ref b5, .int (nI pn), .ref b6, .ref b7, .ref b8, .int (nI tn), .int xp, .int xr, .ref b9, .ref b10, .ref b11, .ref b12, .ref b13, .ref b14, .ref b15, .ref b16, .ref b17, .ref b18, .int ik, .ref b19, .ref b20, .ref b21, .ref b22, .ref b23, .ref b24, .ref b25])), (b1, .inl (Z.2 0, 5, .inl f1)), (b2, .inl (Z.2 0, 5, .inl f2)), (b3, .inl (Z.2 0, 5, .inl f3)), (b4, .inl (Z.2 0, 5, .inl f4)), (b6, .inl (Z.2 0, 5, .inl f6)), (b7, .inl (Z.2 0, 5, .inl f7)), (b12, .inl (Z.2 0, 30, .inl f12)), (b13, .inl (Z.2 0, 6, .inl f13)), (b14, .inl (Z.2 0, 30, .inl f14)), (b15, .inl (Z.2 0, 30, .inl f15))] s.heap := hP
  have hl := lv_entry ([.ref h0, .int a]) (n := 2) (Nat.le_of_ble_eq_true rfl)
  rw [lg_entry_eq]
  generalize (lg_sl ([.ref h0, .int a]) ++ List.replicate (2 - (lg_sl ([.ref h0, .int a])).length) Slot.unset).toArray = ls at hl ⊢
  have hl : lv_has ls 2 [(0, .ref h0), (1, .int a)] := hl
  refine lv_aload_n hx hb dX9_ends_0 rfl (lv_at hl 0 rfl) ?_
  refine lv_iload_n hx hb dX9_ends_1 rfl (lv_at hl 1 rfl) ?_
  have hPc := hP.sub (ws' := [(h0, .inr (9, [.ref b1, .ref b2, .ref b3, .ref b4, .int (nI n), .ref b5, .int (nI pn), .ref b6, .ref b7, .ref b8, .int (nI tn), .int xp, .int xr, .ref b9, .ref b10, .ref b11, .ref b12, .ref b13, .ref b14, .ref b15, .ref b16, .ref b17, .ref b18, .int ik, .ref b19, .ref b20, .ref b21, .ref b22, .ref b23, .ref b24, .ref b25]))]) [0] rfl
  have hDc := hD.sub (ws' := [(h0, .inr (9, [.ref b1, .ref b2, .ref b3, .ref b4, .int (nI n), .ref b5, .int (nI pn), .ref b6, .ref b7, .ref b8, .int (nI tn), .int xp, .int xr, .ref b9, .ref b10, .ref b11, .ref b12, .ref b13, .ref b14, .ref b15, .ref b16, .ref b17, .ref b18, .int ik, .ref b19, .ref b20, .ref b21, .ref b22, .ref b23, .ref b24, .ref b25]))]) [0] (by decide +kernel) rfl
  have hFc := va_free (wc := [(h0, .inr (9, [.ref b1, .ref b2, .ref b3, .ref b4, .int (nI n), .ref b5, .int (nI pn), .ref b6, .ref b7, .ref b8, .int (nI tn), .int xp, .int xr, .ref b9, .ref b10, .ref b11, .ref b12, .ref b13, .ref b14, .ref b15, .ref b16, .ref b17, .ref b18, .int ik, .ref b19, .ref b20, .ref b21, .ref b22, .ref b23, .ref b24, .ref b25]))]) hD hS hA [0] rfl
  refine va_calli (va_runV (As := [.int a]) (rest := []) ⟨hx, hb, hml, hown, hts⟩ (c_X9_isOne2 l Z s.heap.size h0 b1 b2 b3 b4 b5 b6 b7 b8 b9 b10 b11 b12 b13 b14 b15 b16 b17 b18 b19 b20 b21 b22 b23 b24 b25 n pn tn xp xr ik a (hn)) (cwV 1 hts gX9_ends_X9_isOne rfl rfl rfl (by decide +kernel) ⟨Nat.le_of_ble_eq_true rfl, Nat.le_of_ble_eq_true rfl⟩) ⟨fun a U g mk q => by obtain ⟨q0, q1, qP, qK, qD⟩ := q; exact ⟨q0, q1, qP, va_K.moved (u := U) (U := U.calling g mk a) (Vm.Alike.refl U.vm) qK, qD⟩, va_recv hK hPc (ci := 9) (q0 := 0) rfl rfl, fun U hU hW => ⟨rfl, by rw [hU], by rw [hU]; exact hPc, va_K.moved hW.alike hK, hDc.weaken (fun _ _ _ _ => trivial)⟩⟩ rfl rfl hl.1 rfl (lv_room (Nat.le_of_ble_eq_true rfl)) dX9_ends_2 ⟨Nat.le_of_ble_eq_true rfl, Nat.le_of_ble_eq_true rfl⟩) hS (fun q _ h => hFc q h) hFc (fun r_1 u t9 H1 locs ht hvm hw hB hz1 hk1 hS => ?_)
  have hwr_1 := hw
  obtain ⟨hP1, hD1⟩ := hB
  rw [ht] at hP1
  obtain ⟨hP, hD⟩ := va_join (wr := [(b1, .inl (Z.2 0, 5, .inl f1)), (b2, .inl (Z.2 0, 5, .inl f2)), (b3, .inl (Z.2 0, 5, .inl f3)), (b4, .inl (Z.2 0, 5, .inl f4)), (b6, .inl (Z.2 0, 5, .inl f6)), (b7, .inl (Z.2 0, 5, .inl f7)), (b12, .inl (Z.2 0, 30, .inl f12)), (b13, .inl (Z.2 0, 6, .inl f13)), (b14, .inl (Z.2 0, 30, .inl f14)), (b15, .inl (Z.2 0, 30, .inl f15))]) (w1 := [(h0, .inr (9, [.ref b1, .ref b2, .ref b3, .ref b4, .int (nI n), .ref b5, .int (nI pn), .ref b6, .ref b7, .ref b8, .int (nI tn), .int xp, .int xr, .ref b9, .ref b10, .ref b11, .ref b12, .ref b13, .ref b14, .ref b15, .ref b16, .ref b17, .ref b18, .int ik, .ref b19, .ref b20, .ref b21, .ref b22, .ref b23, .ref b24, .ref b25]))]) hP hD [0] [1, 2, 3, 4, 5, 6, 7, 8, 9, 10] rfl rfl (by decide +kernel) (by decide +kernel) hk1 hFc hP1 hD1
  clear hPc hDc hP1 hD1 hk1 hz1 hFc ht hvm
  generalize H1 = H at hP hS ⊢
  have hP : va_P Z.1 vwCl [(b1, .inl (Z.2 0, 5, .inl f1)), (b2, .inl (Z.2 0, 5, .inl f2)), (b3, .inl (Z.2 0, 5, .inl f3)), (b4, .inl (Z.2 0, 5, .inl f4)), (b6, .inl (Z.2 0, 5, .inl f6)), (b7, .inl (Z.2 0, 5, .inl f7)), (b12, .inl (Z.2 0, 30, .inl f12)), (b13, .inl (Z.2 0, 6, .inl f13)), (b14, .inl (Z.2 0, 30, .inl f14)), (b15, .inl (Z.2 0, 30, .inl f15)), (h0, .inr (9, [.ref b1, .ref b2, .ref b3, .ref b4, .int (nI n), .ref b5, .int (nI pn), .ref b6, .ref b7, .ref b8, .int (nI tn), .int xp, .int xr, .ref b9, .ref b10, .ref b11, .ref b12, .ref b13, .ref b14, .ref b15, .ref b16, .ref b17, .ref b18, .int ik, .ref b19, .ref b20, .ref b21, .ref b22, .ref b23, .ref b24, .ref b25]))] H := hP
  have hD : va_D A [(b1, .inl (Z.2 0, 5, .inl f1)), (b2, .inl (Z.2 0, 5, .inl f2)), (b3, .inl (Z.2 0, 5, .inl f3)), (b4, .inl (Z.2 0, 5, .inl f4)), (b6, .inl (Z.2 0, 5, .inl f6)), (b7, .inl (Z.2 0, 5, .inl f7)), (b12, .inl (Z.2 0, 30, .inl f12)), (b13, .inl (Z.2 0, 6, .inl f13)), (b14, .inl (Z.2 0, 30, .inl f14)), (b15, .inl (Z.2 0, 30, .inl f15)), (h0, .inr (9, [.ref b1, .ref b2, .ref b3, .ref b4, .int (nI n), .ref b5, .int (nI pn), .ref b6, .ref b7, .ref b8, .int (nI tn), .int xp, .int xr, .ref b9, .ref b10, .ref b11, .ref b12, .ref b13, .ref b14, .ref b15, .ref b16, .ref b17, .ref b18, .int ik, .ref b19, .ref b20, .ref b21, .ref b22, .ref b23, .ref b24, .ref b25]))] := hD
  rcases hwr_1 with ⟨rfl, ha⟩ | ⟨rfl, ha⟩
  · refine lv_if_ne (tgt := 10) hx hb dX9_ends_5 (by decide) (fun _ => ?_) (fun c9 => absurd c9 (by decide))
    refine lv_aload_n hx hb dX9_ends_10 rfl (lv_at hl 0 rfl) ?_
    have hPc := hP.sub (ws' := [(h0, .inr (9, [.ref b1, .ref b2, .ref b3, .ref b4, .int (nI n), .ref b5, .int (nI pn), .ref b6, .ref b7, .ref b8, .int (nI tn), .int xp, .int xr, .ref b9, .ref b10, .ref b11, .ref b12, .ref b13, .ref b14, .ref b15, .ref b16, .ref b17, .ref b18, .int ik, .ref b19, .ref b20, .ref b21, .ref b22, .ref b23, .ref b24, .ref b25])), (b1, .inl (Z.2 0, 5, .inl f1)), (b2, .inl (Z.2 0, 5, .inl f2)), (b3, .inl (Z.2 0, 5, .inl f3)), (b4, .inl (Z.2 0, 5, .inl f4)), (b6, .inl (Z.2 0, 5, .inl f6)), (b7, .inl (Z.2 0, 5, .inl f7)), (b12, .inl (Z.2 0, 30, .inl f12)), (b13, .inl (Z.2 0, 6, .inl f13)), (b14, .inl (Z.2 0, 30, .inl f14)), (b15, .inl (Z.2 0, 30, .inl f15))]) [10, 0, 1, 2, 3, 4, 5, 6, 7, 8, 9] rfl
    have hDc := hD.sub (ws' := [(h0, .inr (9, [.ref b1, .ref b2, .ref b3, .ref b4, .int (nI n), .ref b5, .int (nI pn), .ref b6, .ref b7, .ref b8, .int (nI tn), .int xp, .int xr, .ref b9, .ref b10, .ref b11, .ref b12, .ref b13, .ref b14, .ref b15, .ref b16, .ref b17, .ref b18, .int ik, .ref b19, .ref b20, .ref b21, .ref b22, .ref b23, .ref b24, .ref b25])), (b1, .inl (Z.2 0, 5, .inl f1)), (b2, .inl (Z.2 0, 5, .inl f2)), (b3, .inl (Z.2 0, 5, .inl f3)), (b4, .inl (Z.2 0, 5, .inl f4)), (b6, .inl (Z.2 0, 5, .inl f6)), (b7, .inl (Z.2 0, 5, .inl f7)), (b12, .inl (Z.2 0, 30, .inl f12)), (b13, .inl (Z.2 0, 6, .inl f13)), (b14, .inl (Z.2 0, 30, .inl f14)), (b15, .inl (Z.2 0, 30, .inl f15))]) [10, 0, 1, 2, 3, 4, 5, 6, 7, 8, 9] (by decide +kernel) rfl
    have hFc := va_free (wc := [(h0, .inr (9, [.ref b1, .ref b2, .ref b3, .ref b4, .int (nI n), .ref b5, .int (nI pn), .ref b6, .ref b7, .ref b8, .int (nI tn), .int xp, .int xr, .ref b9, .ref b10, .ref b11, .ref b12, .ref b13, .ref b14, .ref b15, .ref b16, .ref b17, .ref b18, .int ik, .ref b19, .ref b20, .ref b21, .ref b22, .ref b23, .ref b24, .ref b25])), (b1, .inl (Z.2 0, 5, .inl f1)), (b2, .inl (Z.2 0, 5, .inl f2)), (b3, .inl (Z.2 0, 5, .inl f3)), (b4, .inl (Z.2 0, 5, .inl f4)), (b6, .inl (Z.2 0, 5, .inl f6)), (b7, .inl (Z.2 0, 5, .inl f7)), (b12, .inl (Z.2 0, 30, .inl f12)), (b13, .inl (Z.2 0, 6, .inl f13)), (b14, .inl (Z.2 0, 30, .inl f14)), (b15, .inl (Z.2 0, 30, .inl f15))]) hD hS hA [10, 0, 1, 2, 3, 4, 5, 6, 7, 8, 9] rfl
    refine va_callv (va_runV (As := []) (rest := []) ⟨hx, hb, hml, hown, hts⟩ (c_X9_findTurns l Z H.size h0 b1 b2 b3 b4 b5 b6 b7 b8 b9 b10 b11 b12 b13 b14 b15 b16 b17 b18 b19 b20 b21 b22 b23 b24 b25 n pn tn xp xr ik f1 f2 f3 f4 f6 f7 f12 f13 f14 f15 PP NN (hn) (hF) (hPw) (hNN)) (cwV 0 hts gX9_ends_X9_findTurns rfl rfl rfl (by decide +kernel) ⟨Nat.le_of_ble_eq_true rfl, Nat.le_of_ble_eq_true rfl⟩) ⟨fun a U g mk q => by obtain ⟨q0, q1, qP, qK, qD⟩ := q; exact ⟨q0, q1, qP, va_K.moved (u := U) (U := U.calling g mk a) (Vm.Alike.refl U.vm) qK, qD⟩, va_recv hK hPc (ci := 9) (q0 := 0) rfl rfl, fun U hU hW => ⟨rfl, by rw [hU], by rw [hU]; exact hPc, va_K.moved hW.alike hK, hDc.weaken (fun _ _ _ _ => trivial)⟩⟩ rfl rfl hl.1 rfl (lv_room (Nat.le_of_ble_eq_true rfl)) dX9_ends_11 ⟨Nat.le_of_ble_eq_true rfl, Nat.le_of_ble_eq_true rfl⟩) hS (fun q _ h => hFc q h) hFc (fun u t9 H1 locs ht hvm hw hB hz1 hk1 hS => ?_)
    obtain ⟨g6_3, g7_4, g12_5, g13_6, g14_7, g15_8⟩ := u
    try dsimp only at hw hB
    have hwr_2 := hw
    obtain ⟨hP1, hD1⟩ := hB
    rw [ht] at hP1
    obtain ⟨hP, hD⟩ := va_join (wr := []) (w1 := [(h0, .inr (9, [.ref b1, .ref b2, .ref b3, .ref b4, .int (nI n), .ref b5, .int (nI pn), .ref b6, .ref b7, .ref b8, .int (nI tn), .int xp, .int xr, .ref b9, .ref b10, .ref b11, .ref b12, .ref b13, .ref b14, .ref b15, .ref b16, .ref b17, .ref b18, .int ik, .ref b19, .ref b20, .ref b21, .ref b22, .ref b23, .ref b24, .ref b25])), (b1, .inl (Z.2 0, 5, .inl f1)), (b2, .inl (Z.2 0, 5, .inl f2)), (b3, .inl (Z.2 0, 5, .inl f3)), (b4, .inl (Z.2 0, 5, .inl f4)), (b6, .inl (Z.2 0, 5, .inl g6_3)), (b7, .inl (Z.2 0, 5, .inl g7_4)), (b12, .inl (Z.2 0, 30, .inl g12_5)), (b13, .inl (Z.2 0, 6, .inl g13_6)), (b14, .inl (Z.2 0, 30, .inl g14_7)), (b15, .inl (Z.2 0, 30, .inl g15_8))]) hP hD [10, 0, 1, 2, 3, 4, 5, 6, 7, 8, 9] [] rfl rfl (by decide +kernel) (by decide +kernel) hk1 hFc hP1 hD1
    clear hPc hDc hP1 hD1 hk1 hz1 hFc ht hvm
    generalize H1 = H at hP hS ⊢
    have hP : va_P Z.1 vwCl [(h0, .inr (9, [.ref b1, .ref b2, .ref b3, .ref b4, .int (nI n), .ref b5, .int (nI pn), .ref b6, .ref b7, .ref b8, .int (nI tn), .int xp, .int xr, .ref b9, .ref b10, .ref b11, .ref b12, .ref b13, .ref b14, .ref b15, .ref b16, .ref b17, .ref b18, .int ik, .ref b19, .ref b20, .ref b21, .ref b22, .ref b23, .ref b24, .ref b25])), (b1, .inl (Z.2 0, 5, .inl f1)), (b2, .inl (Z.2 0, 5, .inl f2)), (b3, .inl (Z.2 0, 5, .inl f3)), (b4, .inl (Z.2 0, 5, .inl f4)), (b6, .inl (Z.2 0, 5, .inl g6_3)), (b7, .inl (Z.2 0, 5, .inl g7_4)), (b12, .inl (Z.2 0, 30, .inl g12_5)), (b13, .inl (Z.2 0, 6, .inl g13_6)), (b14, .inl (Z.2 0, 30, .inl g14_7)), (b15, .inl (Z.2 0, 30, .inl g15_8))] H := hP
    have hD : va_D A [(h0, .inr (9, [.ref b1, .ref b2, .ref b3, .ref b4, .int (nI n), .ref b5, .int (nI pn), .ref b6, .ref b7, .ref b8, .int (nI tn), .int xp, .int xr, .ref b9, .ref b10, .ref b11, .ref b12, .ref b13, .ref b14, .ref b15, .ref b16, .ref b17, .ref b18, .int ik, .ref b19, .ref b20, .ref b21, .ref b22, .ref b23, .ref b24, .ref b25])), (b1, .inl (Z.2 0, 5, .inl f1)), (b2, .inl (Z.2 0, 5, .inl f2)), (b3, .inl (Z.2 0, 5, .inl f3)), (b4, .inl (Z.2 0, 5, .inl f4)), (b6, .inl (Z.2 0, 5, .inl g6_3)), (b7, .inl (Z.2 0, 5, .inl g7_4)), (b12, .inl (Z.2 0, 30, .inl g12_5)), (b13, .inl (Z.2 0, 6, .inl g13_6)), (b14, .inl (Z.2 0, 30, .inl g14_7)), (b15, .inl (Z.2 0, 30, .inl g15_8))] := hD
    have hR9 := hwr_2
    refine lv_aload_n hx hb dX9_ends_14 rfl (lv_at hl 0 rfl) ?_
    refine va_get (D := Z.1) (ci := 9) (v := .ref b14) (C := RX9) (T := TX9) (N := 31) hx hb hts hin9 hown hK hP 0 rfl rfl 18 (by decide) (hts (.fieldLink RX9 49 "HalfAskedModel" "endPence" "[I") (List.mem_of_getElem? (i := 1) rfl)) (fun _ h9 => h9) rfl dX9_ends_15 ?_
    refine lv_iload_n hx hb dX9_ends_18 rfl (lv_at hl 1 rfl) ?_
    refine va_iald hx hb hK hP 9 0 rfl rfl (z_in_mono ha (by omega)) dX9_ends_19 ?_
    have hP9 := hP.sub (ws' := [(h0, .inr (9, [.ref b1, .ref b2, .ref b3, .ref b4, .int (nI n), .ref b5, .int (nI pn), .ref b6, .ref b7, .ref b8, .int (nI tn), .int xp, .int xr, .ref b9, .ref b10, .ref b11, .ref b12, .ref b13, .ref b14, .ref b15, .ref b16, .ref b17, .ref b18, .int ik, .ref b19, .ref b20, .ref b21, .ref b22, .ref b23, .ref b24, .ref b25])), (b1, .inl (Z.2 0, 5, .inl f1)), (b2, .inl (Z.2 0, 5, .inl f2)), (b3, .inl (Z.2 0, 5, .inl f3)), (b4, .inl (Z.2 0, 5, .inl f4)), (b6, .inl (Z.2 0, 5, .inl g6_3)), (b7, .inl (Z.2 0, 5, .inl g7_4)), (b12, .inl (Z.2 0, 30, .inl g12_5)), (b13, .inl (Z.2 0, 6, .inl g13_6)), (b14, .inl (Z.2 0, 30, .inl g14_7)), (b15, .inl (Z.2 0, 30, .inl g15_8))]) [0, 1, 2, 3, 4, 5, 6, 7, 8, 9, 10] rfl
    have hD9 := hD.sub (ws' := [(h0, .inr (9, [.ref b1, .ref b2, .ref b3, .ref b4, .int (nI n), .ref b5, .int (nI pn), .ref b6, .ref b7, .ref b8, .int (nI tn), .int xp, .int xr, .ref b9, .ref b10, .ref b11, .ref b12, .ref b13, .ref b14, .ref b15, .ref b16, .ref b17, .ref b18, .int ik, .ref b19, .ref b20, .ref b21, .ref b22, .ref b23, .ref b24, .ref b25])), (b1, .inl (Z.2 0, 5, .inl f1)), (b2, .inl (Z.2 0, 5, .inl f2)), (b3, .inl (Z.2 0, 5, .inl f3)), (b4, .inl (Z.2 0, 5, .inl f4)), (b6, .inl (Z.2 0, 5, .inl g6_3)), (b7, .inl (Z.2 0, 5, .inl g7_4)), (b12, .inl (Z.2 0, 30, .inl g12_5)), (b13, .inl (Z.2 0, 6, .inl g13_6)), (b14, .inl (Z.2 0, 30, .inl g14_7)), (b15, .inl (Z.2 0, 30, .inl g15_8))]) [0, 1, 2, 3, 4, 5, 6, 7, 8, 9, 10] (by decide +kernel) rfl
    exact W.iret (v := (g14_7 a.toNatClampNeg)) hx hb hr (fun t9 ht hW => ⟨⟨g14_7 a.toNatClampNeg, (g6_3, g7_4, g12_5, g13_6, g14_7, g15_8), rfl, endsA_m hn hF.1 hR9 ha, by rw [ht]; exact hP9, hD9⟩, hS.F ht⟩) hS.2.2 dX9_ends_20
  · refine lv_if_ne (tgt := 10) hx hb dX9_ends_5 (by decide) (fun c9 => absurd c9 (by decide)) (fun _ => ?_)
    refine lv_iconst (v := (-1)) hx hb dX9_ends_8 (by decide) ?_
    have hP9 := hP.sub (ws' := [(h0, .inr (9, [.ref b1, .ref b2, .ref b3, .ref b4, .int (nI n), .ref b5, .int (nI pn), .ref b6, .ref b7, .ref b8, .int (nI tn), .int xp, .int xr, .ref b9, .ref b10, .ref b11, .ref b12, .ref b13, .ref b14, .ref b15, .ref b16, .ref b17, .ref b18, .int ik, .ref b19, .ref b20, .ref b21, .ref b22, .ref b23, .ref b24, .ref b25])), (b1, .inl (Z.2 0, 5, .inl f1)), (b2, .inl (Z.2 0, 5, .inl f2)), (b3, .inl (Z.2 0, 5, .inl f3)), (b4, .inl (Z.2 0, 5, .inl f4)), (b6, .inl (Z.2 0, 5, .inl f6)), (b7, .inl (Z.2 0, 5, .inl f7)), (b12, .inl (Z.2 0, 30, .inl f12)), (b13, .inl (Z.2 0, 6, .inl f13)), (b14, .inl (Z.2 0, 30, .inl f14)), (b15, .inl (Z.2 0, 30, .inl f15))]) [10, 0, 1, 2, 3, 4, 5, 6, 7, 8, 9] rfl
    have hD9 := hD.sub (ws' := [(h0, .inr (9, [.ref b1, .ref b2, .ref b3, .ref b4, .int (nI n), .ref b5, .int (nI pn), .ref b6, .ref b7, .ref b8, .int (nI tn), .int xp, .int xr, .ref b9, .ref b10, .ref b11, .ref b12, .ref b13, .ref b14, .ref b15, .ref b16, .ref b17, .ref b18, .int ik, .ref b19, .ref b20, .ref b21, .ref b22, .ref b23, .ref b24, .ref b25])), (b1, .inl (Z.2 0, 5, .inl f1)), (b2, .inl (Z.2 0, 5, .inl f2)), (b3, .inl (Z.2 0, 5, .inl f3)), (b4, .inl (Z.2 0, 5, .inl f4)), (b6, .inl (Z.2 0, 5, .inl f6)), (b7, .inl (Z.2 0, 5, .inl f7)), (b12, .inl (Z.2 0, 30, .inl f12)), (b13, .inl (Z.2 0, 6, .inl f13)), (b14, .inl (Z.2 0, 30, .inl f14)), (b15, .inl (Z.2 0, 30, .inl f15))]) [10, 0, 1, 2, 3, 4, 5, 6, 7, 8, 9] (by decide +kernel) rfl
    exact W.iret (v := (-1)) hx hb hr (fun t9 ht hW => ⟨⟨(-1), (f6, f7, f12, f13, f14, f15), rfl, (zI_n (fun q9 => ha (by rw [hF.1]; exact q9))).symm, by rw [ht]; exact hP9, hD9⟩, hS.F ht⟩) hS.2.2 dX9_ends_9
