/-- a plan of n askings of the reference holds people -/
def zQ (n : Nat) (f : Nat → Int32) : Prop := ∀ j, j < n → vp_in (f (3 * j)) 5 ∧ vp_in (f (3 * j + 1)) 5
set_option maxHeartbeats 4000000 in
set_option maxRecDepth 100000 in
theorem c_X9_in (l : Launch) (Z : gZ) (sz : Nat) (a : Int64) (b : Int64) (d : Int64)  : Met l yX9_in wsX9_in ({ frames := 0, cells := 0, slots := 0, locals := 0 }) (va_Pc [.long a, .long b, .long d] (fun U => U.heap.size = sz ∧ va_P Z.1 vwCl [] U.heap ∧ va_K Z.1 vwCl (gT Z) U ∧ va_D (fun _ => True) [])) (va_Qi (fun (r : Int32) (u : Unit) => r = (if a < b then (0 : Int32) else (if d < a then (0 : Int32) else (1 : Int32)))) (fun (u : Unit) (t9 : State) => True) (va_A [] sz)) 0 0 (va_A [] sz) := by
  refine Met.ofW (cc := cX9_in) (maxL := 6) (ret := (some .boolean)) (by decide) rfl ?_
  intro p e s m args below meth c s₁ B hml hv
  obtain ⟨rfl, hsz, hP, hK, hD0⟩ := hv
  have hx := B.exec
  have hb := B.bytes
  have hr := B.returns
  have hts := atoms_spec (ws := wsX9_in) B.pre
  have hown : s.vm.findClass RX9 = some m.cls := findClass_of_methodNamed B.named
  have hlocks := B.notSynchronized
  subst hsz
  have hD := hD0.self (sz := s.heap.size)
  generalize hAe : va_A [] s.heap.size = A at hD ⊢
  have hA : ∀ q : Nat, s.heap.size ≤ q → A q := fun q h => by rw [← hAe]; exact Or.inr h
  have hS : va_S A s.heap s.heap [] := va_S.rf
  have hP : va_P Z.1 vwCl [] s.heap := hP
  have hl := lv_entry ([.long a, .long b, .long d]) (n := 6) (Nat.le_of_ble_eq_true rfl)
  rw [lg_entry_eq]
  generalize (lg_sl ([.long a, .long b, .long d]) ++ List.replicate (6 - (lg_sl ([.long a, .long b, .long d])).length) Slot.unset).toArray = ls at hl ⊢
  have hl : lv_has ls 6 [(0, .long a), (2, .long b), (4, .long d)] := hl
  refine lv_lload_n hx hb dX9_in_0 rfl (lv_at hl 0 rfl) ?_
  refine lv_lload_n hx hb dX9_in_1 rfl (lv_at hl 1 rfl) ?_
  refine W.lcmp hx hb dX9_in_2 ?_
  refine lv_if_lt (tgt := 17) hx hb dX9_in_3 (by decide) (fun c_1 => ?_) (fun c_1 => ?_)
  · rw [lg_cmp_lt] at c_1
    refine lv_iconst (v := 0) hx hb dX9_in_17 (by decide) ?_
    exact W.zret (v := 0) hx hb hr rfl (fun t9 ht hW => ⟨⟨0, (), rfl, (by rw [if_pos c_1]), trivial⟩, hS.F ht⟩) hS.2.2 dX9_in_18
  · rw [lg_cmp_lt] at c_1
    refine lv_lload_n hx hb dX9_in_6 rfl (lv_at hl 0 rfl) ?_
    refine lv_lload hx hb dX9_in_7 (lv_at hl 2 rfl) ?_
    refine W.lcmp hx hb dX9_in_9 ?_
    refine lv_if_gt (tgt := 17) hx hb dX9_in_10 (by decide) (fun c_2 => ?_) (fun c_2 => ?_)
    · rw [lg_cmp_gt] at c_2
      refine lv_iconst (v := 0) hx hb dX9_in_17 (by decide) ?_
      exact W.zret (v := 0) hx hb hr rfl (fun t9 ht hW => ⟨⟨0, (), rfl, (by rw [if_neg c_1, if_pos c_2]), trivial⟩, hS.F ht⟩) hS.2.2 dX9_in_18
    · rw [lg_cmp_gt] at c_2
      refine lv_iconst (v := 1) hx hb dX9_in_13 (by decide) ?_
      refine lv_goto (tgt := 18) hx hb dX9_in_14 (by decide) ?_
      exact W.zret (v := 1) hx hb hr rfl (fun t9 ht hW => ⟨⟨1, (), rfl, (by rw [if_neg c_1, if_neg c_2]), trivial⟩, hS.F ht⟩) hS.2.2 dX9_in_18
set_option maxHeartbeats 4000000 in
set_option maxRecDepth 100000 in
theorem c_X9_has (l : Launch) (Z : gZ) (sz : Nat) (a : Int32) (b : Int32)  : Met l yX9_has wsX9_has ({ frames := 0, cells := 0, slots := 0, locals := 0 }) (va_Pc [.int a, .int b] (fun U => U.heap.size = sz ∧ va_P Z.1 vwCl [] U.heap ∧ va_K Z.1 vwCl (gT Z) U ∧ va_D (fun _ => True) [])) (va_Qi (fun (r : Int32) (u : Unit) => r = (if ((a >>> (b &&& 31)) &&& 1) = 1 then (1 : Int32) else (0 : Int32))) (fun (u : Unit) (t9 : State) => True) (va_A [] sz)) 0 0 (va_A [] sz) := by
  refine Met.ofW (cc := cX9_has) (maxL := 2) (ret := (some .boolean)) (by decide) rfl ?_
  intro p e s m args below meth c s₁ B hml hv
  obtain ⟨rfl, hsz, hP, hK, hD0⟩ := hv
  have hx := B.exec
  have hb := B.bytes
  have hr := B.returns
  have hts := atoms_spec (ws := wsX9_has) B.pre
  have hown : s.vm.findClass RX9 = some m.cls := findClass_of_methodNamed B.named
  have hlocks := B.notSynchronized
  subst hsz
  have hD := hD0.self (sz := s.heap.size)
  generalize hAe : va_A [] s.heap.size = A at hD ⊢
  have hA : ∀ q : Nat, s.heap.size ≤ q → A q := fun q h => by rw [← hAe]; exact Or.inr h
  have hS : va_S A s.heap s.heap [] := va_S.rf
  have hP : va_P Z.1 vwCl [] s.heap := hP
  have hl := lv_entry ([.int a, .int b]) (n := 2) (Nat.le_of_ble_eq_true rfl)
  rw [lg_entry_eq]
  generalize (lg_sl ([.int a, .int b]) ++ List.replicate (2 - (lg_sl ([.int a, .int b])).length) Slot.unset).toArray = ls at hl ⊢
  have hl : lv_has ls 2 [(0, .int a), (1, .int b)] := hl
  refine lv_iload_n hx hb dX9_has_0 rfl (lv_at hl 0 rfl) ?_
  refine lv_iload_n hx hb dX9_has_1 rfl (lv_at hl 1 rfl) ?_
  refine lv_ishr hx hb dX9_has_2 ?_
  refine lv_iconst (v := 1) hx hb dX9_has_3 (by decide) ?_
  refine lv_iand hx hb dX9_has_4 ?_
  refine lv_iconst (v := 1) hx hb dX9_has_5 (by decide) ?_
  refine lv_icmp_ne (tgt := 13) hx hb dX9_has_6 (by decide) (fun c_1 => ?_) (fun c_1 => ?_)
  · refine lv_iconst (v := 0) hx hb dX9_has_13 (by decide) ?_
    exact W.zret (v := 0) hx hb hr rfl (fun t9 ht hW => ⟨⟨0, (), rfl, (by rw [if_neg c_1]), trivial⟩, hS.F ht⟩) hS.2.2 dX9_has_14
  · refine lv_iconst (v := 1) hx hb dX9_has_9 (by decide) ?_
    refine lv_goto (tgt := 14) hx hb dX9_has_10 (by decide) ?_
    exact W.zret (v := 1) hx hb hr rfl (fun t9 ht hW => ⟨⟨1, (), rfl, (by rw [if_pos c_1]), trivial⟩, hS.F ht⟩) hS.2.2 dX9_has_14
theorem z_one {a : Int32} {n : Nat} (hn : n ≤ 5) : ((if a.toInt64 < 0 then (0 : Int32) else (if (nI n - 1).toInt64 < a.toInt64 then (0 : Int32) else (1 : Int32))) = 1 ∧ vp_in a n) ∨ ((if a.toInt64 < 0 then (0 : Int32) else (if (nI n - 1).toInt64 < a.toInt64 then (0 : Int32) else (1 : Int32))) = 0 ∧ ¬ vp_in a n) := by
  have e0 : (0 : Int64).toInt = 0 := by decide
  have e1 : (1 : Int32).toInt = 1 := by decide
  have em : (nI n - 1).toInt = (n : Int) - 1 := by rw [Int32.toInt_sub, nI_toInt (by omega), e1]; exact Int.bmod_eq_of_le (by omega) (by omega)
  by_cases h1 : a.toInt64 < 0
  · refine Or.inr ⟨if_pos h1, fun q => ?_⟩
    rw [Int64.lt_iff_toInt_lt, Int32.toInt_toInt64] at h1
    rw [vp_in_iff] at q
    omega
  · by_cases h2 : (nI n - 1).toInt64 < a.toInt64
    · refine Or.inr ⟨by rw [if_neg h1, if_pos h2], fun q => ?_⟩
      rw [Int64.lt_iff_toInt_lt, Int32.toInt_toInt64, Int32.toInt_toInt64, em] at h2
      rw [vp_in_iff] at q
      omega
    · refine Or.inl ⟨by rw [if_neg h1, if_neg h2], ?_⟩
      rw [Int64.lt_iff_toInt_lt, Int32.toInt_toInt64] at h1
      rw [Int64.lt_iff_toInt_lt, Int32.toInt_toInt64, Int32.toInt_toInt64, em] at h2
      rw [vp_in_iff]
      omega
theorem z_bool3 {v : Int32} (h : v = 0 ∨ v = 1) : narrow .boolean (.int v) = .int v := by rcases h with rfl | rfl <;> rfl
def q_X9_isOne_r (n : Nat) (a : Int32) : Int32 := (if a.toInt64 < 0 then (0 : Int32) else (if (((nI n) - 1).toInt64) < a.toInt64 then (0 : Int32) else (1 : Int32)))
set_option maxHeartbeats 4000000 in
set_option maxRecDepth 100000 in
theorem c_X9_isOne (l : Launch) (Z : gZ) (sz : Nat) (h0 : Nat) (b1 : Nat) (b2 : Nat) (b3 : Nat) (b4 : Nat) (b5 : Nat) (b6 : Nat) (b7 : Nat) (b8 : Nat) (b9 : Nat) (b10 : Nat) (b11 : Nat) (b12 : Nat) (b13 : Nat) (b14 : Nat) (b15 : Nat) (b16 : Nat) (b17 : Nat) (b18 : Nat) (b19 : Nat) (b20 : Nat) (b21 : Nat) (b22 : Nat) (b23 : Nat) (b24 : Nat) (b25 : Nat) (n : Nat) (pn : Nat) (tn : Nat) (xp : Int32) (xr : Int32) (ik : Int32) (a : Int32) (hn : n ≤ 5) : Met l yX9_isOne wsX9_isOne ({ frames := 1, cells := 0, slots := 0, locals := 25 }) (va_Pc [.ref h0, .int a] (fun U => U.heap.size = sz ∧ va_P Z.1 vwCl [(h0, .inr (9, [.ref b1, .ref b2, .ref b3, .ref b4, .int (nI n), .ref b5, .int (nI pn), .ref b6, .ref b7, .ref b8, .int (nI tn), .int xp, .int xr, .ref b9, .ref b10, .ref b11, .ref b12, .ref b13, .ref b14, .ref b15, .ref b16, .ref b17, .ref b18, .int ik, .ref b19, .ref b20, .ref b21, .ref b22, .ref b23, .ref b24, .ref b25]))] U.heap ∧ va_K Z.1 vwCl (gT Z) U ∧ va_D (fun _ => True) [(h0, .inr (9, [.ref b1, .ref b2, .ref b3, .ref b4, .int (nI n), .ref b5, .int (nI pn), .ref b6, .ref b7, .ref b8, .int (nI tn), .int xp, .int xr, .ref b9, .ref b10, .ref b11, .ref b12, .ref b13, .ref b14, .ref b15, .ref b16, .ref b17, .ref b18, .int ik, .ref b19, .ref b20, .ref b21, .ref b22, .ref b23, .ref b24, .ref b25]))])) (va_Qi (fun (r : Int32) (u : Unit) => r = q_X9_isOne_r n a) (fun (u : Unit) (t9 : State) => va_P Z.1 vwCl [(h0, .inr (9, [.ref b1, .ref b2, .ref b3, .ref b4, .int (nI n), .ref b5, .int (nI pn), .ref b6, .ref b7, .ref b8, .int (nI tn), .int xp, .int xr, .ref b9, .ref b10, .ref b11, .ref b12, .ref b13, .ref b14, .ref b15, .ref b16, .ref b17, .ref b18, .int ik, .ref b19, .ref b20, .ref b21, .ref b22, .ref b23, .ref b24, .ref b25]))] t9.heap ∧ va_D (va_A [(h0, .inr (9, [.ref b1, .ref b2, .ref b3, .ref b4, .int (nI n), .ref b5, .int (nI pn), .ref b6, .ref b7, .ref b8, .int (nI tn), .int xp, .int xr, .ref b9, .ref b10, .ref b11, .ref b12, .ref b13, .ref b14, .ref b15, .ref b16, .ref b17, .ref b18, .int ik, .ref b19, .ref b20, .ref b21, .ref b22, .ref b23, .ref b24, .ref b25]))] sz) [(h0, .inr (9, [.ref b1, .ref b2, .ref b3, .ref b4, .int (nI n), .ref b5, .int (nI pn), .ref b6, .ref b7, .ref b8, .int (nI tn), .int xp, .int xr, .ref b9, .ref b10, .ref b11, .ref b12, .ref b13, .ref b14, .ref b15, .ref b16, .ref b17, .ref b18, .int ik, .ref b19, .ref b20, .ref b21, .ref b22, .ref b23, .ref b24, .ref b25]))]) (va_A [(h0, .inr (9, [.ref b1, .ref b2, .ref b3, .ref b4, .int (nI n), .ref b5, .int (nI pn), .ref b6, .ref b7, .ref b8, .int (nI tn), .int xp, .int xr, .ref b9, .ref b10, .ref b11, .ref b12, .ref b13, .ref b14, .ref b15, .ref b16, .ref b17, .ref b18, .int ik, .ref b19, .ref b20, .ref b21, .ref b22, .ref b23, .ref b24, .ref b25]))] sz)) 0 0 (va_A [(h0, .inr (9, [.ref b1, .ref b2, .ref b3, .ref b4, .int (nI n), .ref b5, .int (nI pn), .ref b6, .ref b7, .ref b8, .int (nI tn), .int xp, .int xr, .ref b9, .ref b10, .ref b11, .ref b12, .ref b13, .ref b14, .ref b15, .ref b16, .ref b17, .ref b18, .int ik, .ref b19, .ref b20, .ref b21, .ref b22, .ref b23, .ref b24, .ref b25]))] sz) := by
  refine Met.ofW (cc := cX9_isOne) (maxL := 2) (ret := (some .boolean)) (by decide) rfl ?_
  intro p e s m args below meth c s₁ B hml hv
  obtain ⟨rfl, hsz, hP, hK, hD0⟩ := hv
  have hx := B.exec
  have hb := B.bytes
  have hr := B.returns
  have hts := atoms_spec (ws := wsX9_isOne) B.pre
  have hown : s.vm.findClass RX9 = some m.cls := findClass_of_methodNamed B.named
  have hlocks := B.notSynchronized
  subst hsz
  have hin9 : ∀ w ∈ wsX90, w ∈ wsX9_isOne := fun w h9 => (List.mem_cons_of_mem _ (List.mem_append_right _ h9))
  have hD := hD0.self (sz := s.heap.size)
  generalize hAe : va_A [(h0, .inr (9, [.ref b1, .ref b2, .ref b3, .ref b4, .int (nI n), .ref b5, .int (nI pn), .ref b6, .ref b7, .ref b8, .int (nI tn), .int xp, .int xr, .ref b9, .ref b10, .ref b11, .ref b12, .ref b13, .ref b14, .ref b15, .ref b16, .ref b17, .ref b18, .int ik, .ref b19, .ref b20, .ref b21, .ref b22, .ref b23, .ref b24, .ref b25]))] s.heap.size = A at hD ⊢
  have hA : ∀ q : Nat, s.heap.size ≤ q → A q := fun q h => by rw [← hAe]; exact Or.inr h
  have hS : va_S A s.heap s.heap [] := va_S.rf
  have hP : va_P Z.1 vwCl [(h0, .inr (9, [.ref b1, .ref b2, .ref b3, .ref b4, .int (nI n), .ref b5, .int (nI pn), .ref b6, .ref b7, .ref b8, .int (nI tn), .int xp, .int xr, .ref b9, .ref b10, .ref b11, .ref b12, .ref b13, .ref b14, .ref b15, .ref b16, .ref b17, .ref b18, .int ik, .ref b19, .ref b20, .ref b21, .ref b22, .ref b23, .ref b24, .ref b25]))] s.heap := hP
  have hl := lv_entry ([.ref h0, .int a]) (n := 2) (Nat.le_of_ble_eq_true rfl)
  rw [lg_entry_eq]
  generalize (lg_sl ([.ref h0, .int a]) ++ List.replicate (2 - (lg_sl ([.ref h0, .int a])).length) Slot.unset).toArray = ls at hl ⊢
  have hl : lv_has ls 2 [(0, .ref h0), (1, .int a)] := hl
  refine lv_iload_n hx hb dX9_isOne_0 rfl (lv_at hl 1 rfl) ?_
  refine lv_i2l hx hb dX9_isOne_1 rfl ?_
  refine lv_lconst (v := 0) hx hb dX9_isOne_2 (by decide) ?_
  refine lv_aload_n hx hb dX9_isOne_3 rfl (lv_at hl 0 rfl) ?_
  refine va_get (D := Z.1) (ci := 9) (v := .int (nI n)) (C := RX9) (T := TX9) (N := 31) hx hb hts hin9 hown hK hP 0 rfl rfl 4 (by decide) (hts (.fieldLink RX9 86 "HalfAskedModel" "many" "I") (List.mem_of_getElem? (i := 1) rfl)) (fun _ h9 => h9) rfl dX9_isOne_4 ?_
  refine lv_iconst (v := 1) hx hb dX9_isOne_7 (by decide) ?_
  refine lv_isub hx hb dX9_isOne_8 ?_
  refine lv_i2l hx hb dX9_isOne_9 rfl ?_
  have hPc := hP.sub (ws' := []) [] rfl
  have hDc := hD.sub (ws' := []) [] (by decide +kernel) rfl
  have hFc := va_free (wc := []) hD hS hA [] rfl
  refine va_calli (va_runS (As := [.long a.toInt64, .long 0, .long (((nI n) - 1).toInt64)]) (rest := []) ⟨hx, hb, hml, hown, hts⟩ (c_X9_in l Z s.heap.size a.toInt64 0 (((nI n) - 1).toInt64)) (va_cwS 3 hts gX9_isOne_X9_in rfl rfl rfl (by decide +kernel) ⟨Nat.le_of_ble_eq_true rfl, Nat.le_of_ble_eq_true rfl⟩) ⟨fun a U g mk q => by obtain ⟨q0, q1, qP, qK, qD⟩ := q; exact ⟨q0, q1, qP, va_K.moved (u := U) (U := U.calling g mk a) (Vm.Alike.refl U.vm) qK, qD⟩, fun U hU hW => ⟨rfl, by rw [hU], by rw [hU]; exact hPc, va_K.moved hW.alike hK, hDc.weaken (fun _ _ _ _ => trivial)⟩⟩ rfl rfl hl.1 rfl (lv_room (Nat.le_of_ble_eq_true rfl)) dX9_isOne_10 ⟨Nat.le_of_ble_eq_true rfl, Nat.le_of_ble_eq_true rfl⟩) hS (fun q _ h => hFc q h) hFc (fun r_1 u t9 H1 locs ht hvm hw hB hz1 hk1 hS => ?_)
  have hw9 := hw.symm
  clear hw
  subst hw9
  have hP1 : va_P Z.1 vwCl [] H1 := fun k q h => by simp at h
  have hD1 : va_D (va_A [] s.heap.size) [] := ⟨fun i j p q h => by simp at h, fun k q h => by simp at h⟩
  obtain ⟨hP, hD⟩ := va_join (wr := [(h0, .inr (9, [.ref b1, .ref b2, .ref b3, .ref b4, .int (nI n), .ref b5, .int (nI pn), .ref b6, .ref b7, .ref b8, .int (nI tn), .int xp, .int xr, .ref b9, .ref b10, .ref b11, .ref b12, .ref b13, .ref b14, .ref b15, .ref b16, .ref b17, .ref b18, .int ik, .ref b19, .ref b20, .ref b21, .ref b22, .ref b23, .ref b24, .ref b25]))]) (w1 := []) hP hD [] [0] rfl rfl (by decide +kernel) (by decide +kernel) hk1 hFc hP1 hD1
  clear hPc hDc hP1 hD1 hk1 hz1 hFc ht hvm
  generalize H1 = H at hP hS ⊢
  have hP : va_P Z.1 vwCl [(h0, .inr (9, [.ref b1, .ref b2, .ref b3, .ref b4, .int (nI n), .ref b5, .int (nI pn), .ref b6, .ref b7, .ref b8, .int (nI tn), .int xp, .int xr, .ref b9, .ref b10, .ref b11, .ref b12, .ref b13, .ref b14, .ref b15, .ref b16, .ref b17, .ref b18, .int ik, .ref b19, .ref b20, .ref b21, .ref b22, .ref b23, .ref b24, .ref b25]))] H := hP
  have hD : va_D A [(h0, .inr (9, [.ref b1, .ref b2, .ref b3, .ref b4, .int (nI n), .ref b5, .int (nI pn), .ref b6, .ref b7, .ref b8, .int (nI tn), .int xp, .int xr, .ref b9, .ref b10, .ref b11, .ref b12, .ref b13, .ref b14, .ref b15, .ref b16, .ref b17, .ref b18, .int ik, .ref b19, .ref b20, .ref b21, .ref b22, .ref b23, .ref b24, .ref b25]))] := hD
  have hP9 := hP.sub (ws' := [(h0, .inr (9, [.ref b1, .ref b2, .ref b3, .ref b4, .int (nI n), .ref b5, .int (nI pn), .ref b6, .ref b7, .ref b8, .int (nI tn), .int xp, .int xr, .ref b9, .ref b10, .ref b11, .ref b12, .ref b13, .ref b14, .ref b15, .ref b16, .ref b17, .ref b18, .int ik, .ref b19, .ref b20, .ref b21, .ref b22, .ref b23, .ref b24, .ref b25]))]) [0] rfl
  have hD9 := hD.sub (ws' := [(h0, .inr (9, [.ref b1, .ref b2, .ref b3, .ref b4, .int (nI n), .ref b5, .int (nI pn), .ref b6, .ref b7, .ref b8, .int (nI tn), .int xp, .int xr, .ref b9, .ref b10, .ref b11, .ref b12, .ref b13, .ref b14, .ref b15, .ref b16, .ref b17, .ref b18, .int ik, .ref b19, .ref b20, .ref b21, .ref b22, .ref b23, .ref b24, .ref b25]))]) [0] (by decide +kernel) rfl
  exact W.zret (v := (if a.toInt64 < 0 then (0 : Int32) else (if (((nI n) - 1).toInt64) < a.toInt64 then (0 : Int32) else (1 : Int32)))) hx hb hr (z_bool3 ((z_one hn).elim (fun q => Or.inr q.1) (fun q => Or.inl q.1))) (fun t9 ht hW => ⟨⟨(if a.toInt64 < 0 then (0 : Int32) else (if (((nI n) - 1).toInt64) < a.toInt64 then (0 : Int32) else (1 : Int32))), (), rfl, rfl, by rw [ht]; exact hP9, hD9⟩, hS.F ht⟩) hS.2.2 dX9_isOne_13
set_option maxHeartbeats 4000000 in
set_option maxRecDepth 100000 in
theorem c_X9_isOne2 (l : Launch) (Z : gZ) (sz : Nat) (h0 : Nat) (b1 : Nat) (b2 : Nat) (b3 : Nat) (b4 : Nat) (b5 : Nat) (b6 : Nat) (b7 : Nat) (b8 : Nat) (b9 : Nat) (b10 : Nat) (b11 : Nat) (b12 : Nat) (b13 : Nat) (b14 : Nat) (b15 : Nat) (b16 : Nat) (b17 : Nat) (b18 : Nat) (b19 : Nat) (b20 : Nat) (b21 : Nat) (b22 : Nat) (b23 : Nat) (b24 : Nat) (b25 : Nat) (n : Nat) (pn : Nat) (tn : Nat) (xp : Int32) (xr : Int32) (ik : Int32) (a : Int32) (hn : n ≤ 5) : Met l yX9_isOne wsX9_isOne ({ frames := 1, cells := 0, slots := 0, locals := 25 }) (va_Pc [.ref h0, .int a] (fun U => U.heap.size = sz ∧ va_P Z.1 vwCl [(h0, .inr (9, [.ref b1, .ref b2, .ref b3, .ref b4, .int (nI n), .ref b5, .int (nI pn), .ref b6, .ref b7, .ref b8, .int (nI tn), .int xp, .int xr, .ref b9, .ref b10, .ref b11, .ref b12, .ref b13, .ref b14, .ref b15, .ref b16, .ref b17, .ref b18, .int ik, .ref b19, .ref b20, .ref b21, .ref b22, .ref b23, .ref b24, .ref b25]))] U.heap ∧ va_K Z.1 vwCl (gT Z) U ∧ va_D (fun _ => True) [(h0, .inr (9, [.ref b1, .ref b2, .ref b3, .ref b4, .int (nI n), .ref b5, .int (nI pn), .ref b6, .ref b7, .ref b8, .int (nI tn), .int xp, .int xr, .ref b9, .ref b10, .ref b11, .ref b12, .ref b13, .ref b14, .ref b15, .ref b16, .ref b17, .ref b18, .int ik, .ref b19, .ref b20, .ref b21, .ref b22, .ref b23, .ref b24, .ref b25]))])) (va_Qi (fun (r : Int32) (u : Unit) => (r = 1 ∧ vp_in a n) ∨ (r = 0 ∧ ¬ vp_in a n)) (fun (u : Unit) (t9 : State) => va_P Z.1 vwCl [(h0, .inr (9, [.ref b1, .ref b2, .ref b3, .ref b4, .int (nI n), .ref b5, .int (nI pn), .ref b6, .ref b7, .ref b8, .int (nI tn), .int xp, .int xr, .ref b9, .ref b10, .ref b11, .ref b12, .ref b13, .ref b14, .ref b15, .ref b16, .ref b17, .ref b18, .int ik, .ref b19, .ref b20, .ref b21, .ref b22, .ref b23, .ref b24, .ref b25]))] t9.heap ∧ va_D (va_A [(h0, .inr (9, [.ref b1, .ref b2, .ref b3, .ref b4, .int (nI n), .ref b5, .int (nI pn), .ref b6, .ref b7, .ref b8, .int (nI tn), .int xp, .int xr, .ref b9, .ref b10, .ref b11, .ref b12, .ref b13, .ref b14, .ref b15, .ref b16, .ref b17, .ref b18, .int ik, .ref b19, .ref b20, .ref b21, .ref b22, .ref b23, .ref b24, .ref b25]))] sz) [(h0, .inr (9, [.ref b1, .ref b2, .ref b3, .ref b4, .int (nI n), .ref b5, .int (nI pn), .ref b6, .ref b7, .ref b8, .int (nI tn), .int xp, .int xr, .ref b9, .ref b10, .ref b11, .ref b12, .ref b13, .ref b14, .ref b15, .ref b16, .ref b17, .ref b18, .int ik, .ref b19, .ref b20, .ref b21, .ref b22, .ref b23, .ref b24, .ref b25]))]) (va_A [(h0, .inr (9, [.ref b1, .ref b2, .ref b3, .ref b4, .int (nI n), .ref b5, .int (nI pn), .ref b6, .ref b7, .ref b8, .int (nI tn), .int xp, .int xr, .ref b9, .ref b10, .ref b11, .ref b12, .ref b13, .ref b14, .ref b15, .ref b16, .ref b17, .ref b18, .int ik, .ref b19, .ref b20, .ref b21, .ref b22, .ref b23, .ref b24, .ref b25]))] sz)) 0 0 (va_A [(h0, .inr (9, [.ref b1, .ref b2, .ref b3, .ref b4, .int (nI n), .ref b5, .int (nI pn), .ref b6, .ref b7, .ref b8, .int (nI tn), .int xp, .int xr, .ref b9, .ref b10, .ref b11, .ref b12, .ref b13, .ref b14, .ref b15, .ref b16, .ref b17, .ref b18, .int ik, .ref b19, .ref b20, .ref b21, .ref b22, .ref b23, .ref b24, .ref b25]))] sz) := by
  refine Met.ofW (cc := cX9_isOne) (maxL := 2) (ret := (some .boolean)) (by decide) rfl ?_
  intro p e s m args below meth c s₁ B hml hv
  obtain ⟨rfl, hsz, hP, hK, hD0⟩ := hv
  have hx := B.exec
  have hb := B.bytes
  have hr := B.returns
  have hts := atoms_spec (ws := wsX9_isOne) B.pre
  have hown : s.vm.findClass RX9 = some m.cls := findClass_of_methodNamed B.named
  have hlocks := B.notSynchronized
  subst hsz
  have hin9 : ∀ w ∈ wsX90, w ∈ wsX9_isOne := fun w h9 => (List.mem_cons_of_mem _ (List.mem_append_right _ h9))
  have hD := hD0.self (sz := s.heap.size)
  generalize hAe : va_A [(h0, .inr (9, [.ref b1, .ref b2, .ref b3, .ref b4, .int (nI n), .ref b5, .int (nI pn), .ref b6, .ref b7, .ref b8, .int (nI tn), .int xp, .int xr, .ref b9, .ref b10, .ref b11, .ref b12, .ref b13, .ref b14, .ref b15, .ref b16, .ref b17, .ref b18, .int ik, .ref b19, .ref b20, .ref b21, .ref b22, .ref b23, .ref b24, .ref b25]))] s.heap.size = A at hD ⊢
  have hA : ∀ q : Nat, s.heap.size ≤ q → A q := fun q h => by rw [← hAe]; exact Or.inr h
  have hS : va_S A s.heap s.heap [] := va_S.rf
  have hP : va_P Z.1 vwCl [(h0, .inr (9, [.ref b1, .ref b2, .ref b3, .ref b4, .int (nI n), .ref b5, .int (nI pn), .ref b6, .ref b7, .ref b8, .int (nI tn), .int xp, .int xr, .ref b9, .ref b10, .ref b11, .ref b12, .ref b13, .ref b14, .ref b15, .ref b16, .ref b17, .ref b18, .int ik, .ref b19, .ref b20, .ref b21, .ref b22, .ref b23, .ref b24, .ref b25]))] s.heap := hP
  have hl := lv_entry ([.ref h0, .int a]) (n := 2) (Nat.le_of_ble_eq_true rfl)
  rw [lg_entry_eq]
  generalize (lg_sl ([.ref h0, .int a]) ++ List.replicate (2 - (lg_sl ([.ref h0, .int a])).length) Slot.unset).toArray = ls at hl ⊢
  have hl : lv_has ls 2 [(0, .ref h0), (1, .int a)] := hl
  refine lv_iload_n hx hb dX9_isOne_0 rfl (lv_at hl 1 rfl) ?_
  refine lv_i2l hx hb dX9_isOne_1 rfl ?_
  refine lv_lconst (v := 0) hx hb dX9_isOne_2 (by decide) ?_
  refine lv_aload_n hx hb dX9_isOne_3 rfl (lv_at hl 0 rfl) ?_
  refine va_get (D := Z.1) (ci := 9) (v := .int (nI n)) (C := RX9) (T := TX9) (N := 31) hx hb hts hin9 hown hK hP 0 rfl rfl 4 (by decide) (hts (.fieldLink RX9 86 "HalfAskedModel" "many" "I") (List.mem_of_getElem? (i := 1) rfl)) (fun _ h9 => h9) rfl dX9_isOne_4 ?_
  refine lv_iconst (v := 1) hx hb dX9_isOne_7 (by decide) ?_
  refine lv_isub hx hb dX9_isOne_8 ?_
  refine lv_i2l hx hb dX9_isOne_9 rfl ?_
  have hPc := hP.sub (ws' := []) [] rfl
  have hDc := hD.sub (ws' := []) [] (by decide +kernel) rfl
  have hFc := va_free (wc := []) hD hS hA [] rfl
  refine va_calli (va_runS (As := [.long a.toInt64, .long 0, .long (((nI n) - 1).toInt64)]) (rest := []) ⟨hx, hb, hml, hown, hts⟩ (c_X9_in l Z s.heap.size a.toInt64 0 (((nI n) - 1).toInt64)) (va_cwS 3 hts gX9_isOne_X9_in rfl rfl rfl (by decide +kernel) ⟨Nat.le_of_ble_eq_true rfl, Nat.le_of_ble_eq_true rfl⟩) ⟨fun a U g mk q => by obtain ⟨q0, q1, qP, qK, qD⟩ := q; exact ⟨q0, q1, qP, va_K.moved (u := U) (U := U.calling g mk a) (Vm.Alike.refl U.vm) qK, qD⟩, fun U hU hW => ⟨rfl, by rw [hU], by rw [hU]; exact hPc, va_K.moved hW.alike hK, hDc.weaken (fun _ _ _ _ => trivial)⟩⟩ rfl rfl hl.1 rfl (lv_room (Nat.le_of_ble_eq_true rfl)) dX9_isOne_10 ⟨Nat.le_of_ble_eq_true rfl, Nat.le_of_ble_eq_true rfl⟩) hS (fun q _ h => hFc q h) hFc (fun r_1 u t9 H1 locs ht hvm hw hB hz1 hk1 hS => ?_)
  have hw9 := hw.symm
  clear hw
  subst hw9
  have hP1 : va_P Z.1 vwCl [] H1 := fun k q h => by simp at h
  have hD1 : va_D (va_A [] s.heap.size) [] := ⟨fun i j p q h => by simp at h, fun k q h => by simp at h⟩
  obtain ⟨hP, hD⟩ := va_join (wr := [(h0, .inr (9, [.ref b1, .ref b2, .ref b3, .ref b4, .int (nI n), .ref b5, .int (nI pn), .ref b6, .ref b7, .ref b8, .int (nI tn), .int xp, .int xr, .ref b9, .ref b10, .ref b11, .ref b12, .ref b13, .ref b14, .ref b15, .ref b16, .ref b17, .ref b18, .int ik, .ref b19, .ref b20, .ref b21, .ref b22, .ref b23, .ref b24, .ref b25]))]) (w1 := []) hP hD [] [0] rfl rfl (by decide +kernel) (by decide +kernel) hk1 hFc hP1 hD1
  clear hPc hDc hP1 hD1 hk1 hz1 hFc ht hvm
  generalize H1 = H at hP hS ⊢
  have hP : va_P Z.1 vwCl [(h0, .inr (9, [.ref b1, .ref b2, .ref b3, .ref b4, .int (nI n), .ref b5, .int (nI pn), .ref b6, .ref b7, .ref b8, .int (nI tn), .int xp, .int xr, .ref b9, .ref b10, .ref b11, .ref b12, .ref b13, .ref b14, .ref b15, .ref b16, .ref b17, .ref b18, .int ik, .ref b19, .ref b20, .ref b21, .ref b22, .ref b23, .ref b24, .ref b25]))] H := hP
  have hD : va_D A [(h0, .inr (9, [.ref b1, .ref b2, .ref b3, .ref b4, .int (nI n), .ref b5, .int (nI pn), .ref b6, .ref b7, .ref b8, .int (nI tn), .int xp, .int xr, .ref b9, .ref b10, .ref b11, .ref b12, .ref b13, .ref b14, .ref b15, .ref b16, .ref b17, .ref b18, .int ik, .ref b19, .ref b20, .ref b21, .ref b22, .ref b23, .ref b24, .ref b25]))] := hD
  have hP9 := hP.sub (ws' := [(h0, .inr (9, [.ref b1, .ref b2, .ref b3, .ref b4, .int (nI n), .ref b5, .int (nI pn), .ref b6, .ref b7, .ref b8, .int (nI tn), .int xp, .int xr, .ref b9, .ref b10, .ref b11, .ref b12, .ref b13, .ref b14, .ref b15, .ref b16, .ref b17, .ref b18, .int ik, .ref b19, .ref b20, .ref b21, .ref b22, .ref b23, .ref b24, .ref b25]))]) [0] rfl
  have hD9 := hD.sub (ws' := [(h0, .inr (9, [.ref b1, .ref b2, .ref b3, .ref b4, .int (nI n), .ref b5, .int (nI pn), .ref b6, .ref b7, .ref b8, .int (nI tn), .int xp, .int xr, .ref b9, .ref b10, .ref b11, .ref b12, .ref b13, .ref b14, .ref b15, .ref b16, .ref b17, .ref b18, .int ik, .ref b19, .ref b20, .ref b21, .ref b22, .ref b23, .ref b24, .ref b25]))]) [0] (by decide +kernel) rfl
  exact W.zret (v := (if a.toInt64 < 0 then (0 : Int32) else (if (((nI n) - 1).toInt64) < a.toInt64 then (0 : Int32) else (1 : Int32)))) hx hb hr (z_bool3 ((z_one hn).elim (fun q => Or.inr q.1) (fun q => Or.inl q.1))) (fun t9 ht hW => ⟨⟨(if a.toInt64 < 0 then (0 : Int32) else (if (((nI n) - 1).toInt64) < a.toInt64 then (0 : Int32) else (1 : Int32))), (), rfl, z_one hn, by rw [ht]; exact hP9, hD9⟩, hS.F ht⟩) hS.2.2 dX9_isOne_13
theorem z_oneI {a : Int32} {n : Nat} (hn : n ≤ 5) (h : ¬ q_X9_isOne_r n a = 0) : vp_in a n := by
  rcases z_one (a := a) hn with q | q
  · exact q.2
  · exact absurd q.1 h
theorem z_oneO {a : Int32} {n : Nat} (hn : n ≤ 5) (h : q_X9_isOne_r n a = 0) : ¬ vp_in a n := by
  rcases z_one (a := a) hn with q | q
  · exact absurd (q.1.symm.trans h) (by decide)
  · exact q.2
