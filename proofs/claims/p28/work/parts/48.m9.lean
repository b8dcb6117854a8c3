/-- an order of the first p, as a row, and as a number -/
def zO (p : Nat) (f : Nat → Int32) : Prop := (∀ i, i < 8 → vp_in (f i) 8) ∧ (∀ i, i < p → vp_in (f i) p) ∧ ∀ i j, i < p → j < p → f i = f j → i = j
def zW (f : Nat → Int32) : Nat := (f 0).toNatClampNeg * 2097152 + (f 1).toNatClampNeg * 262144 + (f 2).toNatClampNeg * 32768 + (f 3).toNatClampNeg * 4096 + (f 4).toNatClampNeg * 512 + (f 5).toNatClampNeg * 64 + (f 6).toNatClampNeg * 8 + (f 7).toNatClampNeg * 1
theorem zW_le {p : Nat} {f : Nat → Int32} (h : zO p f) : zW f < 16777216 := by
  have h0 := z_cl (h.1 0 (by decide))
  have h1 := z_cl (h.1 1 (by decide))
  have h2 := z_cl (h.1 2 (by decide))
  have h3 := z_cl (h.1 3 (by decide))
  have h4 := z_cl (h.1 4 (by decide))
  have h5 := z_cl (h.1 5 (by decide))
  have h6 := z_cl (h.1 6 (by decide))
  have h7 := z_cl (h.1 7 (by decide))
  unfold zW
  omega
theorem zW_lex {p q : Nat} {f g : Nat → Int32} (hq : q < 8) (hf : zO p f) (he : ∀ i, i < q → g i = f i) (hl : (f q).toNatClampNeg < (g q).toNatClampNeg) : zW f < zW g := by
  have h0 := z_cl (hf.1 0 (by decide))
  have h1 := z_cl (hf.1 1 (by decide))
  have h2 := z_cl (hf.1 2 (by decide))
  have h3 := z_cl (hf.1 3 (by decide))
  have h4 := z_cl (hf.1 4 (by decide))
  have h5 := z_cl (hf.1 5 (by decide))
  have h6 := z_cl (hf.1 6 (by decide))
  have h7 := z_cl (hf.1 7 (by decide))
  unfold zW
  rcases (show q = 0 ∨ q = 1 ∨ q = 2 ∨ q = 3 ∨ q = 4 ∨ q = 5 ∨ q = 6 ∨ q = 7 by omega) with rfl | rfl | rfl | rfl | rfl | rfl | rfl | rfl
  · omega
  · rw [he 0 (by decide)]
    omega
  · rw [he 0 (by decide), he 1 (by decide)]
    omega
  · rw [he 0 (by decide), he 1 (by decide), he 2 (by decide)]
    omega
  · rw [he 0 (by decide), he 1 (by decide), he 2 (by decide), he 3 (by decide)]
    omega
  · rw [he 0 (by decide), he 1 (by decide), he 2 (by decide), he 3 (by decide), he 4 (by decide)]
    omega
  · rw [he 0 (by decide), he 1 (by decide), he 2 (by decide), he 3 (by decide), he 4 (by decide), he 5 (by decide)]
    omega
  · rw [he 0 (by decide), he 1 (by decide), he 2 (by decide), he 3 (by decide), he 4 (by decide), he 5 (by decide), he 6 (by decide)]
    omega
theorem zO_swap {p a b : Nat} {f : Nat → Int32} (hp : p ≤ 8) (ha : a < p) (hb : b < p) (h : zO p f) : zO p (upd (upd f a (f b)) b (f a)) := by
  have key : ∀ i, i < 8 → ∃ j, j < 8 ∧ (i < p → j < p) ∧ upd (upd f a (f b)) b (f a) i = f j ∧ (i = b ∧ j = a ∨ i ≠ b ∧ i = a ∧ j = b ∨ i ≠ b ∧ i ≠ a ∧ j = i) := by
    intro i hi
    by_cases e1 : i = b
    · subst e1; exact ⟨a, by omega, fun _ => ha, pk_us, Or.inl ⟨rfl, rfl⟩⟩
    · by_cases e2 : i = a
      · subst e2; exact ⟨b, by omega, fun _ => hb, by rw [pk_un e1, pk_us], Or.inr (Or.inl ⟨e1, rfl, rfl⟩)⟩
      · exact ⟨i, hi, id, by rw [pk_un e1, pk_un e2], Or.inr (Or.inr ⟨e1, e2, rfl⟩)⟩
  refine ⟨fun i hi => ?_, fun i hi => ?_, fun i j hi hj e => ?_⟩
  · obtain ⟨j, h1, -, h3, -⟩ := key i hi
    rw [h3]; exact h.1 j h1
  · obtain ⟨j, -, h2, h3, -⟩ := key i (by omega)
    rw [h3]; exact h.2.1 j (h2 hi)
  · obtain ⟨x, -, x2, x3, x4⟩ := key i (by omega)
    obtain ⟨y, -, y2, y3, y4⟩ := key j (by omega)
    rw [x3, y3] at e
    have exy := h.2.2 x y (x2 hi) (y2 hj) e
    omega
theorem zO_sw {p a b : Nat} {f : Nat → Int32} (hp : p ≤ 8) (ha : a < p) (hb : b < p) (h : zO p f) : zO p (upd (upd f ((nI a).toNatClampNeg) (f (nI b).toNatClampNeg)) ((nI b).toNatClampNeg) (f (nI a).toNatClampNeg)) := by
  rw [nI_clamp (by omega), nI_clamp (by omega)]
  exact zO_swap hp ha hb h
theorem z_sw_un {a b q : Nat} {f : Nat → Int32} (ha : a < 9) (hb : b < 9) (h1 : q ≠ a) (h2 : q ≠ b) : upd (upd f ((nI a).toNatClampNeg) (f (nI b).toNatClampNeg)) ((nI b).toNatClampNeg) (f (nI a).toNatClampNeg) q = f q := by
  rw [nI_clamp (by omega), nI_clamp (by omega), pk_un h2, pk_un h1]
theorem z_sw_a {a b : Nat} {f : Nat → Int32} (ha : a < 9) (hb : b < 9) (h : a ≠ b) : upd (upd f ((nI a).toNatClampNeg) (f (nI b).toNatClampNeg)) ((nI b).toNatClampNeg) (f (nI a).toNatClampNeg) a = f b := by
  rw [nI_clamp (by omega), nI_clamp (by omega), pk_un h, pk_us]
theorem z_ltN {x y : Int32} (hx : vp_in x 8) (hy : vp_in y 8) (h : x ≤ y) (hn : ¬ x = y) : x.toNatClampNeg < y.toNatClampNeg := by
  obtain ⟨a, ha, rfl⟩ := vp_in_of hx (by decide)
  obtain ⟨b, hb, rfl⟩ := vp_in_of hy (by decide)
  rw [nI_clamp (by omega), nI_clamp (by omega)]
  have h1 := (nI_leI (a := a) (b := b) (by omega) (by omega)).mp h
  have h2 : ¬ a = b := fun e => hn (by rw [e])
  omega
theorem zO_0 (p : Nat) (hp : p ≤ 8) (f16 : Nat → Int32) : zO p (upd (upd (upd (upd (upd (upd (upd (upd f16 0 0) 1 1) 2 2) 3 3) 4 4) 5 5) 6 6) 7 7) := by
  have key : ∀ i, i < 8 → (upd (upd (upd (upd (upd (upd (upd (upd f16 0 0) 1 1) 2 2) 3 3) 4 4) 5 5) 6 6) 7 7) i = nI i := by
    intro i hi
    rcases (show i = 0 ∨ i = 1 ∨ i = 2 ∨ i = 3 ∨ i = 4 ∨ i = 5 ∨ i = 6 ∨ i = 7 by omega) with rfl | rfl | rfl | rfl | rfl | rfl | rfl | rfl <;> rfl
  refine ⟨fun i hi => ?_, fun i hi => ?_, fun i j hi hj e => ?_⟩
  · rw [key i hi]; exact vp_in_nI hi (by decide)
  · rw [key i (by omega)]; exact vp_in_nI hi (by omega)
  · rw [key i (by omega), key j (by omega)] at e
    have e2 := congrArg Int32.toNatClampNeg e
    rw [nI_clamp (by omega), nI_clamp (by omega)] at e2
    exact e2
theorem zO_1 {f16 : Nat → Int32} : ∀ i, i < 8 → (upd (upd (upd (upd (upd (upd (upd (upd f16 0 0) 1 1) 2 2) 3 3) 4 4) 5 5) 6 6) 7 7) i = nI i := by
  intro i hi
  rcases (show i = 0 ∨ i = 1 ∨ i = 2 ∨ i = 3 ∨ i = 4 ∨ i = 5 ∨ i = 6 ∨ i = 7 by omega) with rfl | rfl | rfl | rfl | rfl | rfl | rfl | rfl <;> rfl
/-- g is the order behind f -/
def nxO (p : Nat) (f g : Nat → Int32) : Prop := ∃ q z, q + 2 ≤ p ∧ f q ≤ f (q + 1) ∧ (∀ i, q + 1 ≤ i → i + 1 < p → f (i + 1) < f i) ∧ q + 1 ≤ z ∧ z < p ∧ f q ≤ f z ∧ (∀ i, z < i → i < p → f i < f q) ∧ ∀ i, g i = (if q < i ∧ i < p then (if q + p - i = z then f q else if q + p - i = q then f z else f (q + p - i)) else (if i = z then f q else if i = q then f z else f i))
theorem z_swv {a b : Nat} {f : Nat → Int32} (ha : a < 9) (hb : b < 9) (i : Nat) : upd (upd f ((nI a).toNatClampNeg) (f (nI b).toNatClampNeg)) ((nI b).toNatClampNeg) (f (nI a).toNatClampNeg) i = (if i = b then f a else if i = a then f b else f i) := by
  rw [nI_clamp (show a < 2 ^ 31 by omega), nI_clamp (show b < 2 ^ 31 by omega)]
  by_cases e1 : i = b
  · rw [if_pos e1, e1, pk_us]
  · rw [if_neg e1, pk_un e1]
    by_cases e2 : i = a
    · rw [if_pos e2, e2, pk_us]
    · rw [if_neg e2, pk_un e2]
set_option maxHeartbeats 4000000 in
set_option maxRecDepth 100000 in
theorem c_X9_firstOrder (l : Launch) (Z : gZ) (sz : Nat) (h0 : Nat) (b1 : Nat) (b2 : Nat) (b3 : Nat) (b4 : Nat) (b5 : Nat) (b6 : Nat) (b7 : Nat) (b8 : Nat) (b9 : Nat) (b10 : Nat) (b11 : Nat) (b12 : Nat) (b13 : Nat) (b14 : Nat) (b15 : Nat) (b16 : Nat) (b17 : Nat) (b18 : Nat) (b19 : Nat) (b20 : Nat) (b21 : Nat) (b22 : Nat) (b23 : Nat) (b24 : Nat) (b25 : Nat) (n : Nat) (pn : Nat) (tn : Nat) (xp : Int32) (xr : Int32) (ik : Int32) (f16 : Nat → Int32) (hpn : pn ≤ 8) : Met l yX9_firstOrder wsX9_firstOrder ({ frames := 0, cells := 0, slots := 0, locals := 0 }) (va_Pc [.ref h0] (fun U => U.heap.size = sz ∧ va_P Z.1 vwCl [(h0, .inr (9, [.ref b1, .ref b2, .ref b3, .ref b4, .int (nI n), .ref b5, .int (nI pn), .ref b6, .ref b7, .ref b8, .int (nI tn), .int xp, .int xr, .ref b9, .ref b10, .ref b11, .ref b12, .ref b13, .ref b14, .ref b15, .ref b16, .ref b17, .ref b18, .int ik, .ref b19, .ref b20, .ref b21, .ref b22, .ref b23, .ref b24, .ref b25])), (b16, .inl (Z.2 0, 8, .inl f16))] U.heap ∧ va_K Z.1 vwCl (gT Z) U ∧ va_D (fun _ => True) [(h0, .inr (9, [.ref b1, .ref b2, .ref b3, .ref b4, .int (nI n), .ref b5, .int (nI pn), .ref b6, .ref b7, .ref b8, .int (nI tn), .int xp, .int xr, .ref b9, .ref b10, .ref b11, .ref b12, .ref b13, .ref b14, .ref b15, .ref b16, .ref b17, .ref b18, .int ik, .ref b19, .ref b20, .ref b21, .ref b22, .ref b23, .ref b24, .ref b25])), (b16, .inl (Z.2 0, 8, .inl f16))])) (va_Qv (fun (u : (Nat → Int32)) => match u with | g16 => zO pn g16 ∧ ∀ i, i < 8 → g16 i = nI i) (fun (u : (Nat → Int32)) (t9 : State) => match u with | g16 => va_P Z.1 vwCl [(h0, .inr (9, [.ref b1, .ref b2, .ref b3, .ref b4, .int (nI n), .ref b5, .int (nI pn), .ref b6, .ref b7, .ref b8, .int (nI tn), .int xp, .int xr, .ref b9, .ref b10, .ref b11, .ref b12, .ref b13, .ref b14, .ref b15, .ref b16, .ref b17, .ref b18, .int ik, .ref b19, .ref b20, .ref b21, .ref b22, .ref b23, .ref b24, .ref b25])), (b16, .inl (Z.2 0, 8, .inl g16))] t9.heap ∧ va_D (va_A [(h0, .inr (9, [.ref b1, .ref b2, .ref b3, .ref b4, .int (nI n), .ref b5, .int (nI pn), .ref b6, .ref b7, .ref b8, .int (nI tn), .int xp, .int xr, .ref b9, .ref b10, .ref b11, .ref b12, .ref b13, .ref b14, .ref b15, .ref b16, .ref b17, .ref b18, .int ik, .ref b19, .ref b20, .ref b21, .ref b22, .ref b23, .ref b24, .ref b25])), (b16, .inl (Z.2 0, 8, .inl f16))] sz) [(h0, .inr (9, [.ref b1, .ref b2, .ref b3, .ref b4, .int (nI n), .ref b5, .int (nI pn), .ref b6, .ref b7, .ref b8, .int (nI tn), .int xp, .int xr, .ref b9, .ref b10, .ref b11, .ref b12, .ref b13, .ref b14, .ref b15, .ref b16, .ref b17, .ref b18, .int ik, .ref b19, .ref b20, .ref b21, .ref b22, .ref b23, .ref b24, .ref b25])), (b16, .inl (Z.2 0, 8, .inl g16))]) (va_A [(h0, .inr (9, [.ref b1, .ref b2, .ref b3, .ref b4, .int (nI n), .ref b5, .int (nI pn), .ref b6, .ref b7, .ref b8, .int (nI tn), .int xp, .int xr, .ref b9, .ref b10, .ref b11, .ref b12, .ref b13, .ref b14, .ref b15, .ref b16, .ref b17, .ref b18, .int ik, .ref b19, .ref b20, .ref b21, .ref b22, .ref b23, .ref b24, .ref b25])), (b16, .inl (Z.2 0, 8, .inl f16))] sz)) 0 0 (va_A [(h0, .inr (9, [.ref b1, .ref b2, .ref b3, .ref b4, .int (nI n), .ref b5, .int (nI pn), .ref b6, .ref b7, .ref b8, .int (nI tn), .int xp, .int xr, .ref b9, .ref b10, .ref b11, .ref b12, .ref b13, .ref b14, .ref b15, .ref b16, .ref b17, .ref b18, .int ik, .ref b19, .ref b20, .ref b21, .ref b22, .ref b23, .ref b24, .ref b25])), (b16, .inl (Z.2 0, 8, .inl f16))] sz) := by
  refine Met.ofW (cc := cX9_firstOrder) (maxL := 2) (ret := none) (by decide) rfl ?_
  intro p e s m args below meth c s₁ B hml hv
  obtain ⟨rfl, hsz, hP, hK, hD0⟩ := hv
  have hx := B.exec
  have hb := B.bytes
  have hr := B.returns
  have hts := atoms_spec (ws := wsX9_firstOrder) B.pre
  have hown : s.vm.findClass RX9 = some m.cls := findClass_of_methodNamed B.named
  have hlocks := B.notSynchronized
  subst hsz
  have hin9 : ∀ w ∈ wsX90, w ∈ wsX9_firstOrder := fun w h9 => (List.mem_cons_of_mem _ (List.mem_append_right _ h9))
  have hD := hD0.self (sz := s.heap.size)
  generalize hAe : va_A [(h0, .inr (9, [.ref b1, .ref b2, .ref b3, .ref b4, .int (nI n), .ref b5, .int (nI pn), .ref b6, .ref b7, .ref b8, .int (nI tn), .int xp, .int xr, .ref b9, .ref b10, .ref b11, .ref b12, .ref b13, .ref b14, .ref b15, .ref b16, .ref b17, .ref b18, .int ik, .ref b19, .ref b20, .ref b21, .ref b22, .ref b23, .ref b24, .ref b25])), (b16, .inl (Z.2 0, 8, .inl f16))] s.heap.size = A at hD ⊢
  have hA : ∀ q : Nat, s.heap.size ≤ q → A q := fun q h => by rw [← hAe]; exact Or.inr h
  have hS : va_S A s.heap s.heap [] := va_S.rf
  have hP : va_P Z.1 vwCl [(h0, .inr (9, [.ref b1, .ref b2, .ref b3, .ref b4, .int (nI n), .ref b5, .int (nI pn), .ref b6, .ref b7, .ref b8, .int (nI tn), .int xp, .int xr, .ref b9, .ref b10, .ref b11, .ref b12, .ref b13, .ref b14, .ref b15, .ref b16, .ref b17, .ref b18, .int ik, .ref b19, .ref b20, .ref b21, .ref b22, .ref b23, .ref b24, .ref b25])), (b16, .inl (Z.2 0, 8, .inl f16))] s.heap := hP
  have hl := lv_entry ([.ref h0]) (n := 2) (Nat.le_of_ble_eq_true rfl)
  rw [lg_entry_eq]
  generalize (lg_sl ([.ref h0]) ++ List.replicate (2 - (lg_sl ([.ref h0])).length) Slot.unset).toArray = ls at hl ⊢
  have hl : lv_has ls 2 [(0, .ref h0)] := hl
  refine lv_iconst (v := 0) hx hb dX9_firstOrder_0 (by decide) ?_
  refine lv_istore_n (lv' := [(1, .int 0), (0, .ref h0)]) hx hb dX9_firstOrder_1 rfl hl (by decide) rfl (fun ls hl => ?_)
  refine lv_iload_n hx hb dX9_firstOrder_2 rfl (lv_at hl 0 rfl) ?_
  refine lv_bipush (v := 8) hx hb dX9_firstOrder_3 (by decide) ?_
  refine lv_icmp_ge (tgt := 21) hx hb dX9_firstOrder_5 (by decide) (fun c9 => absurd c9 (by decide)) (fun _ => ?_)
  refine lv_aload_n hx hb dX9_firstOrder_8 rfl (lv_at hl 1 rfl) ?_
  refine va_get (D := Z.1) (ci := 9) (v := .ref b16) (C := RX9) (T := TX9) (N := 31) hx hb hts hin9 hown hK hP 0 rfl rfl 20 (by decide) (hts (.fieldLink RX9 55 "HalfAskedModel" "order" "[I") (List.mem_of_getElem? (i := 1) rfl)) (fun _ h9 => h9) rfl dX9_firstOrder_9 ?_
  refine lv_iload_n hx hb dX9_firstOrder_12 rfl (lv_at hl 0 rfl) ?_
  refine lv_iload_n hx hb dX9_firstOrder_13 rfl (lv_at hl 0 rfl) ?_
  refine va_iast hx hb hK hP hD hS 1 0 rfl rfl (z_in (by decide)) dX9_firstOrder_14 (fun H locs hP hD hS => ?_)
  have hP : va_P Z.1 vwCl [(h0, .inr (9, [.ref b1, .ref b2, .ref b3, .ref b4, .int (nI n), .ref b5, .int (nI pn), .ref b6, .ref b7, .ref b8, .int (nI tn), .int xp, .int xr, .ref b9, .ref b10, .ref b11, .ref b12, .ref b13, .ref b14, .ref b15, .ref b16, .ref b17, .ref b18, .int ik, .ref b19, .ref b20, .ref b21, .ref b22, .ref b23, .ref b24, .ref b25])), (b16, .inl (Z.2 0, 8, .inl (upd f16 0 0)))] H := hP
  have hD : va_D A [(h0, .inr (9, [.ref b1, .ref b2, .ref b3, .ref b4, .int (nI n), .ref b5, .int (nI pn), .ref b6, .ref b7, .ref b8, .int (nI tn), .int xp, .int xr, .ref b9, .ref b10, .ref b11, .ref b12, .ref b13, .ref b14, .ref b15, .ref b16, .ref b17, .ref b18, .int ik, .ref b19, .ref b20, .ref b21, .ref b22, .ref b23, .ref b24, .ref b25])), (b16, .inl (Z.2 0, 8, .inl (upd f16 0 0)))] := hD
  refine lv_iinc (v := 1) (lv' := [(1, .int 1), (0, .ref h0)]) hx hb dX9_firstOrder_15 hl (k := 0) rfl (by decide) (by decide) rfl (fun ls hl => ?_)
  refine lv_goto (tgt := 2) hx hb dX9_firstOrder_18 (by decide) ?_
  refine lv_iload_n hx hb dX9_firstOrder_2 rfl (lv_at hl 0 rfl) ?_
  refine lv_bipush (v := 8) hx hb dX9_firstOrder_3 (by decide) ?_
  refine lv_icmp_ge (tgt := 21) hx hb dX9_firstOrder_5 (by decide) (fun c9 => absurd c9 (by decide)) (fun _ => ?_)
  refine lv_aload_n hx hb dX9_firstOrder_8 rfl (lv_at hl 1 rfl) ?_
  refine va_get (D := Z.1) (ci := 9) (v := .ref b16) (C := RX9) (T := TX9) (N := 31) hx hb hts hin9 hown hK hP 0 rfl rfl 20 (by decide) (hts (.fieldLink RX9 55 "HalfAskedModel" "order" "[I") (List.mem_of_getElem? (i := 1) rfl)) (fun _ h9 => h9) rfl dX9_firstOrder_9 ?_
  refine lv_iload_n hx hb dX9_firstOrder_12 rfl (lv_at hl 0 rfl) ?_
  refine lv_iload_n hx hb dX9_firstOrder_13 rfl (lv_at hl 0 rfl) ?_
  refine va_iast hx hb hK hP hD hS 1 0 rfl rfl (z_in (by decide)) dX9_firstOrder_14 (fun H locs hP hD hS => ?_)
  have hP : va_P Z.1 vwCl [(h0, .inr (9, [.ref b1, .ref b2, .ref b3, .ref b4, .int (nI n), .ref b5, .int (nI pn), .ref b6, .ref b7, .ref b8, .int (nI tn), .int xp, .int xr, .ref b9, .ref b10, .ref b11, .ref b12, .ref b13, .ref b14, .ref b15, .ref b16, .ref b17, .ref b18, .int ik, .ref b19, .ref b20, .ref b21, .ref b22, .ref b23, .ref b24, .ref b25])), (b16, .inl (Z.2 0, 8, .inl (upd (upd f16 0 0) 1 1)))] H := hP
  have hD : va_D A [(h0, .inr (9, [.ref b1, .ref b2, .ref b3, .ref b4, .int (nI n), .ref b5, .int (nI pn), .ref b6, .ref b7, .ref b8, .int (nI tn), .int xp, .int xr, .ref b9, .ref b10, .ref b11, .ref b12, .ref b13, .ref b14, .ref b15, .ref b16, .ref b17, .ref b18, .int ik, .ref b19, .ref b20, .ref b21, .ref b22, .ref b23, .ref b24, .ref b25])), (b16, .inl (Z.2 0, 8, .inl (upd (upd f16 0 0) 1 1)))] := hD
  refine lv_iinc (v := 2) (lv' := [(1, .int 2), (0, .ref h0)]) hx hb dX9_firstOrder_15 hl (k := 0) rfl (by decide) (by decide) rfl (fun ls hl => ?_)
  refine lv_goto (tgt := 2) hx hb dX9_firstOrder_18 (by decide) ?_
  refine lv_iload_n hx hb dX9_firstOrder_2 rfl (lv_at hl 0 rfl) ?_
  refine lv_bipush (v := 8) hx hb dX9_firstOrder_3 (by decide) ?_
  refine lv_icmp_ge (tgt := 21) hx hb dX9_firstOrder_5 (by decide) (fun c9 => absurd c9 (by decide)) (fun _ => ?_)
  refine lv_aload_n hx hb dX9_firstOrder_8 rfl (lv_at hl 1 rfl) ?_
  refine va_get (D := Z.1) (ci := 9) (v := .ref b16) (C := RX9) (T := TX9) (N := 31) hx hb hts hin9 hown hK hP 0 rfl rfl 20 (by decide) (hts (.fieldLink RX9 55 "HalfAskedModel" "order" "[I") (List.mem_of_getElem? (i := 1) rfl)) (fun _ h9 => h9) rfl dX9_firstOrder_9 ?_
  refine lv_iload_n hx hb dX9_firstOrder_12 rfl (lv_at hl 0 rfl) ?_
  refine lv_iload_n hx hb dX9_firstOrder_13 rfl (lv_at hl 0 rfl) ?_
  refine va_iast hx hb hK hP hD hS 1 0 rfl rfl (z_in (by decide)) dX9_firstOrder_14 (fun H locs hP hD hS => ?_)
  have hP : va_P Z.1 vwCl [(h0, .inr (9, [.ref b1, .ref b2, .ref b3, .ref b4, .int (nI n), .ref b5, .int (nI pn), .ref b6, .ref b7, .ref b8, .int (nI tn), .int xp, .int xr, .ref b9, .ref b10, .ref b11, .ref b12, .ref b13, .ref b14, .ref b15, .ref b16, .ref b17, .ref b18, .int ik, .ref b19, .ref b20, .ref b21, .ref b22, .ref b23, .ref b24, .ref b25])), (b16, .inl (Z.2 0, 8, .inl (upd (upd (upd f16 0 0) 1 1) 2 2)))] H := hP
  have hD : va_D A [(h0, .inr (9, [.ref b1, .ref b2, .ref b3, .ref b4, .int (nI n), .ref b5, .int (nI pn), .ref b6, .ref b7, .ref b8, .int (nI tn), .int xp, .int xr, .ref b9, .ref b10, .ref b11, .ref b12, .ref b13, .ref b14, .ref b15, .ref b16, .ref b17, .ref b18, .int ik, .ref b19, .ref b20, .ref b21, .ref b22, .ref b23, .ref b24, .ref b25])), (b16, .inl (Z.2 0, 8, .inl (upd (upd (upd f16 0 0) 1 1) 2 2)))] := hD
  refine lv_iinc (v := 3) (lv' := [(1, .int 3), (0, .ref h0)]) hx hb dX9_firstOrder_15 hl (k := 0) rfl (by decide) (by decide) rfl (fun ls hl => ?_)
  refine lv_goto (tgt := 2) hx hb dX9_firstOrder_18 (by decide) ?_
  refine lv_iload_n hx hb dX9_firstOrder_2 rfl (lv_at hl 0 rfl) ?_
  refine lv_bipush (v := 8) hx hb dX9_firstOrder_3 (by decide) ?_
  refine lv_icmp_ge (tgt := 21) hx hb dX9_firstOrder_5 (by decide) (fun c9 => absurd c9 (by decide)) (fun _ => ?_)
  refine lv_aload_n hx hb dX9_firstOrder_8 rfl (lv_at hl 1 rfl) ?_
  refine va_get (D := Z.1) (ci := 9) (v := .ref b16) (C := RX9) (T := TX9) (N := 31) hx hb hts hin9 hown hK hP 0 rfl rfl 20 (by decide) (hts (.fieldLink RX9 55 "HalfAskedModel" "order" "[I") (List.mem_of_getElem? (i := 1) rfl)) (fun _ h9 => h9) rfl dX9_firstOrder_9 ?_
  refine lv_iload_n hx hb dX9_firstOrder_12 rfl (lv_at hl 0 rfl) ?_
  refine lv_iload_n hx hb dX9_firstOrder_13 rfl (lv_at hl 0 rfl) ?_
  refine va_iast hx hb hK hP hD hS 1 0 rfl rfl (z_in (by decide)) dX9_firstOrder_14 (fun H locs hP hD hS => ?_)
  have hP : va_P Z.1 vwCl [(h0, .inr (9, [.ref b1, .ref b2, .ref b3, .ref b4, .int (nI n), .ref b5, .int (nI pn), .ref b6, .ref b7, .ref b8, .int (nI tn), .int xp, .int xr, .ref b9, .ref b10, .ref b11, .ref b12, .ref b13, .ref b14, .ref b15, .ref b16, .ref b17, .ref b18, .int ik, .ref b19, .ref b20, .ref b21, .ref b22, .ref b23, .ref b24, .ref b25])), (b16, .inl (Z.2 0, 8, .inl (upd (upd (upd (upd f16 0 0) 1 1) 2 2) 3 3)))] H := hP
  have hD : va_D A [(h0, .inr (9, [.ref b1, .ref b2, .ref b3, .ref b4, .int (nI n), .ref b5, .int (nI pn), .ref b6, .ref b7, .ref b8, .int (nI tn), .int xp, .int xr, .ref b9, .ref b10, .ref b11, .ref b12, .ref b13, .ref b14, .ref b15, .ref b16, .ref b17, .ref b18, .int ik, .ref b19, .ref b20, .ref b21, .ref b22, .ref b23, .ref b24, .ref b25])), (b16, .inl (Z.2 0, 8, .inl (upd (upd (upd (upd f16 0 0) 1 1) 2 2) 3 3)))] := hD
  refine lv_iinc (v := 4) (lv' := [(1, .int 4), (0, .ref h0)]) hx hb dX9_firstOrder_15 hl (k := 0) rfl (by decide) (by decide) rfl (fun ls hl => ?_)
  refine lv_goto (tgt := 2) hx hb dX9_firstOrder_18 (by decide) ?_
  refine lv_iload_n hx hb dX9_firstOrder_2 rfl (lv_at hl 0 rfl) ?_
  refine lv_bipush (v := 8) hx hb dX9_firstOrder_3 (by decide) ?_
  refine lv_icmp_ge (tgt := 21) hx hb dX9_firstOrder_5 (by decide) (fun c9 => absurd c9 (by decide)) (fun _ => ?_)
  refine lv_aload_n hx hb dX9_firstOrder_8 rfl (lv_at hl 1 rfl) ?_
  refine va_get (D := Z.1) (ci := 9) (v := .ref b16) (C := RX9) (T := TX9) (N := 31) hx hb hts hin9 hown hK hP 0 rfl rfl 20 (by decide) (hts (.fieldLink RX9 55 "HalfAskedModel" "order" "[I") (List.mem_of_getElem? (i := 1) rfl)) (fun _ h9 => h9) rfl dX9_firstOrder_9 ?_
  refine lv_iload_n hx hb dX9_firstOrder_12 rfl (lv_at hl 0 rfl) ?_
  refine lv_iload_n hx hb dX9_firstOrder_13 rfl (lv_at hl 0 rfl) ?_
  refine va_iast hx hb hK hP hD hS 1 0 rfl rfl (z_in (by decide)) dX9_firstOrder_14 (fun H locs hP hD hS => ?_)
  have hP : va_P Z.1 vwCl [(h0, .inr (9, [.ref b1, .ref b2, .ref b3, .ref b4, .int (nI n), .ref b5, .int (nI pn), .ref b6, .ref b7, .ref b8, .int (nI tn), .int xp, .int xr, .ref b9, .ref b10, .ref b11, .ref b12, .ref b13, .ref b14, .ref b15, .ref b16, .ref b17, .ref b18, .int ik, .ref b19, .ref b20, .ref b21, .ref b22, .ref b23, .ref b24, .ref b25])), (b16, .inl (Z.2 0, 8, .inl (upd (upd (upd (upd (upd f16 0 0) 1 1) 2 2) 3 3) 4 4)))] H := hP
  have hD : va_D A [(h0, .inr (9, [.ref b1, .ref b2, .ref b3, .ref b4, .int (nI n), .ref b5, .int (nI pn), .ref b6, .ref b7, .ref b8, .int (nI tn), .int xp, .int xr, .ref b9, .ref b10, .ref b11, .ref b12, .ref b13, .ref b14, .ref b15, .ref b16, .ref b17, .ref b18, .int ik, .ref b19, .ref b20, .ref b21, .ref b22, .ref b23, .ref b24, .ref b25])), (b16, .inl (Z.2 0, 8, .inl (upd (upd (upd (upd (upd f16 0 0) 1 1) 2 2) 3 3) 4 4)))] := hD
  refine lv_iinc (v := 5) (lv' := [(1, .int 5), (0, .ref h0)]) hx hb dX9_firstOrder_15 hl (k := 0) rfl (by decide) (by decide) rfl (fun ls hl => ?_)
  refine lv_goto (tgt := 2) hx hb dX9_firstOrder_18 (by decide) ?_
  refine lv_iload_n hx hb dX9_firstOrder_2 rfl (lv_at hl 0 rfl) ?_
  refine lv_bipush (v := 8) hx hb dX9_firstOrder_3 (by decide) ?_
  refine lv_icmp_ge (tgt := 21) hx hb dX9_firstOrder_5 (by decide) (fun c9 => absurd c9 (by decide)) (fun _ => ?_)
  refine lv_aload_n hx hb dX9_firstOrder_8 rfl (lv_at hl 1 rfl) ?_
  refine va_get (D := Z.1) (ci := 9) (v := .ref b16) (C := RX9) (T := TX9) (N := 31) hx hb hts hin9 hown hK hP 0 rfl rfl 20 (by decide) (hts (.fieldLink RX9 55 "HalfAskedModel" "order" "[I") (List.mem_of_getElem? (i := 1) rfl)) (fun _ h9 => h9) rfl dX9_firstOrder_9 ?_
  refine lv_iload_n hx hb dX9_firstOrder_12 rfl (lv_at hl 0 rfl) ?_
  refine lv_iload_n hx hb dX9_firstOrder_13 rfl (lv_at hl 0 rfl) ?_
  refine va_iast hx hb hK hP hD hS 1 0 rfl rfl (z_in (by decide)) dX9_firstOrder_14 (fun H locs hP hD hS => ?_)
  have hP : va_P Z.1 vwCl [(h0, .inr (9, [.ref b1, .ref b2, .ref b3, .ref b4, .int (nI n), .ref b5, .int (nI pn), .ref b6, .ref b7, .ref b8, .int (nI tn), .int xp, .int xr, .ref b9, .ref b10, .ref b11, .ref b12, .ref b13, .ref b14, .ref b15, .ref b16, .ref b17, .ref b18, .int ik, .ref b19, .ref b20, .ref b21, .ref b22, .ref b23, .ref b24, .ref b25])), (b16, .inl (Z.2 0, 8, .inl (upd (upd (upd (upd (upd (upd f16 0 0) 1 1) 2 2) 3 3) 4 4) 5 5)))] H := hP
  have hD : va_D A [(h0, .inr (9, [.ref b1, .ref b2, .ref b3, .ref b4, .int (nI n), .ref b5, .int (nI pn), .ref b6, .ref b7, .ref b8, .int (nI tn), .int xp, .int xr, .ref b9, .ref b10, .ref b11, .ref b12, .ref b13, .ref b14, .ref b15, .ref b16, .ref b17, .ref b18, .int ik, .ref b19, .ref b20, .ref b21, .ref b22, .ref b23, .ref b24, .ref b25])), (b16, .inl (Z.2 0, 8, .inl (upd (upd (upd (upd (upd (upd f16 0 0) 1 1) 2 2) 3 3) 4 4) 5 5)))] := hD
  refine lv_iinc (v := 6) (lv' := [(1, .int 6), (0, .ref h0)]) hx hb dX9_firstOrder_15 hl (k := 0) rfl (by decide) (by decide) rfl (fun ls hl => ?_)
  refine lv_goto (tgt := 2) hx hb dX9_firstOrder_18 (by decide) ?_
  refine lv_iload_n hx hb dX9_firstOrder_2 rfl (lv_at hl 0 rfl) ?_
  refine lv_bipush (v := 8) hx hb dX9_firstOrder_3 (by decide) ?_
  refine lv_icmp_ge (tgt := 21) hx hb dX9_firstOrder_5 (by decide) (fun c9 => absurd c9 (by decide)) (fun _ => ?_)
  refine lv_aload_n hx hb dX9_firstOrder_8 rfl (lv_at hl 1 rfl) ?_
  refine va_get (D := Z.1) (ci := 9) (v := .ref b16) (C := RX9) (T := TX9) (N := 31) hx hb hts hin9 hown hK hP 0 rfl rfl 20 (by decide) (hts (.fieldLink RX9 55 "HalfAskedModel" "order" "[I") (List.mem_of_getElem? (i := 1) rfl)) (fun _ h9 => h9) rfl dX9_firstOrder_9 ?_
  refine lv_iload_n hx hb dX9_firstOrder_12 rfl (lv_at hl 0 rfl) ?_
  refine lv_iload_n hx hb dX9_firstOrder_13 rfl (lv_at hl 0 rfl) ?_
  refine va_iast hx hb hK hP hD hS 1 0 rfl rfl (z_in (by decide)) dX9_firstOrder_14 (fun H locs hP hD hS => ?_)
  have hP : va_P Z.1 vwCl [(h0, .inr (9, [.ref b1, .ref b2, .ref b3, .ref b4, .int (nI n), .ref b5, .int (nI pn), .ref b6, .ref b7, .ref b8, .int (nI tn), .int xp, .int xr, .ref b9, .ref b10, .ref b11, .ref b12, .ref b13, .ref b14, .ref b15, .ref b16, .ref b17, .ref b18, .int ik, .ref b19, .ref b20, .ref b21, .ref b22, .ref b23, .ref b24, .ref b25])), (b16, .inl (Z.2 0, 8, .inl (upd (upd (upd (upd (upd (upd (upd f16 0 0) 1 1) 2 2) 3 3) 4 4) 5 5) 6 6)))] H := hP
  have hD : va_D A [(h0, .inr (9, [.ref b1, .ref b2, .ref b3, .ref b4, .int (nI n), .ref b5, .int (nI pn), .ref b6, .ref b7, .ref b8, .int (nI tn), .int xp, .int xr, .ref b9, .ref b10, .ref b11, .ref b12, .ref b13, .ref b14, .ref b15, .ref b16, .ref b17, .ref b18, .int ik, .ref b19, .ref b20, .ref b21, .ref b22, .ref b23, .ref b24, .ref b25])), (b16, .inl (Z.2 0, 8, .inl (upd (upd (upd (upd (upd (upd (upd f16 0 0) 1 1) 2 2) 3 3) 4 4) 5 5) 6 6)))] := hD
  refine lv_iinc (v := 7) (lv' := [(1, .int 7), (0, .ref h0)]) hx hb dX9_firstOrder_15 hl (k := 0) rfl (by decide) (by decide) rfl (fun ls hl => ?_)
  refine lv_goto (tgt := 2) hx hb dX9_firstOrder_18 (by decide) ?_
  refine lv_iload_n hx hb dX9_firstOrder_2 rfl (lv_at hl 0 rfl) ?_
  refine lv_bipush (v := 8) hx hb dX9_firstOrder_3 (by decide) ?_
  refine lv_icmp_ge (tgt := 21) hx hb dX9_firstOrder_5 (by decide) (fun c9 => absurd c9 (by decide)) (fun _ => ?_)
  refine lv_aload_n hx hb dX9_firstOrder_8 rfl (lv_at hl 1 rfl) ?_
  refine va_get (D := Z.1) (ci := 9) (v := .ref b16) (C := RX9) (T := TX9) (N := 31) hx hb hts hin9 hown hK hP 0 rfl rfl 20 (by decide) (hts (.fieldLink RX9 55 "HalfAskedModel" "order" "[I") (List.mem_of_getElem? (i := 1) rfl)) (fun _ h9 => h9) rfl dX9_firstOrder_9 ?_
  refine lv_iload_n hx hb dX9_firstOrder_12 rfl (lv_at hl 0 rfl) ?_
  refine lv_iload_n hx hb dX9_firstOrder_13 rfl (lv_at hl 0 rfl) ?_
  refine va_iast hx hb hK hP hD hS 1 0 rfl rfl (z_in (by decide)) dX9_firstOrder_14 (fun H locs hP hD hS => ?_)
  have hP : va_P Z.1 vwCl [(h0, .inr (9, [.ref b1, .ref b2, .ref b3, .ref b4, .int (nI n), .ref b5, .int (nI pn), .ref b6, .ref b7, .ref b8, .int (nI tn), .int xp, .int xr, .ref b9, .ref b10, .ref b11, .ref b12, .ref b13, .ref b14, .ref b15, .ref b16, .ref b17, .ref b18, .int ik, .ref b19, .ref b20, .ref b21, .ref b22, .ref b23, .ref b24, .ref b25])), (b16, .inl (Z.2 0, 8, .inl (upd (upd (upd (upd (upd (upd (upd (upd f16 0 0) 1 1) 2 2) 3 3) 4 4) 5 5) 6 6) 7 7)))] H := hP
  have hD : va_D A [(h0, .inr (9, [.ref b1, .ref b2, .ref b3, .ref b4, .int (nI n), .ref b5, .int (nI pn), .ref b6, .ref b7, .ref b8, .int (nI tn), .int xp, .int xr, .ref b9, .ref b10, .ref b11, .ref b12, .ref b13, .ref b14, .ref b15, .ref b16, .ref b17, .ref b18, .int ik, .ref b19, .ref b20, .ref b21, .ref b22, .ref b23, .ref b24, .ref b25])), (b16, .inl (Z.2 0, 8, .inl (upd (upd (upd (upd (upd (upd (upd (upd f16 0 0) 1 1) 2 2) 3 3) 4 4) 5 5) 6 6) 7 7)))] := hD
  refine lv_iinc (v := 8) (lv' := [(1, .int 8), (0, .ref h0)]) hx hb dX9_firstOrder_15 hl (k := 0) rfl (by decide) (by decide) rfl (fun ls hl => ?_)
  refine lv_goto (tgt := 2) hx hb dX9_firstOrder_18 (by decide) ?_
  refine lv_iload_n hx hb dX9_firstOrder_2 rfl (lv_at hl 0 rfl) ?_
  refine lv_bipush (v := 8) hx hb dX9_firstOrder_3 (by decide) ?_
  refine lv_icmp_ge (tgt := 21) hx hb dX9_firstOrder_5 (by decide) (fun _ => ?_) (fun c9 => absurd c9 (by decide))
  have hP9 := hP.sub (ws' := [(h0, .inr (9, [.ref b1, .ref b2, .ref b3, .ref b4, .int (nI n), .ref b5, .int (nI pn), .ref b6, .ref b7, .ref b8, .int (nI tn), .int xp, .int xr, .ref b9, .ref b10, .ref b11, .ref b12, .ref b13, .ref b14, .ref b15, .ref b16, .ref b17, .ref b18, .int ik, .ref b19, .ref b20, .ref b21, .ref b22, .ref b23, .ref b24, .ref b25])), (b16, .inl (Z.2 0, 8, .inl (upd (upd (upd (upd (upd (upd (upd (upd f16 0 0) 1 1) 2 2) 3 3) 4 4) 5 5) 6 6) 7 7)))]) [0, 1] rfl
  have hD9 := hD.sub (ws' := [(h0, .inr (9, [.ref b1, .ref b2, .ref b3, .ref b4, .int (nI n), .ref b5, .int (nI pn), .ref b6, .ref b7, .ref b8, .int (nI tn), .int xp, .int xr, .ref b9, .ref b10, .ref b11, .ref b12, .ref b13, .ref b14, .ref b15, .ref b16, .ref b17, .ref b18, .int ik, .ref b19, .ref b20, .ref b21, .ref b22, .ref b23, .ref b24, .ref b25])), (b16, .inl (Z.2 0, 8, .inl (upd (upd (upd (upd (upd (upd (upd (upd f16 0 0) 1 1) 2 2) 3 3) 4 4) 5 5) 6 6) 7 7)))]) [0, 1] (by decide +kernel) rfl
  exact W.vret hx hb hr (fun t9 ht hW => ⟨⟨upd (upd (upd (upd (upd (upd (upd (upd f16 0 0) 1 1) 2 2) 3 3) 4 4) 5 5) 6 6) 7 7, rfl, ⟨zO_0 pn hpn f16, zO_1⟩, by rw [ht]; exact hP9, hD9⟩, hS.F ht⟩) hS.2.2 dX9_firstOrder_21
theorem z_dm2 {p : Nat} (hp : p ≤ 8) : (p - 1 = 0 ∧ nI p - 2 < 0) ∨ ∃ q, p - 1 = q + 1 ∧ nI p - 2 = nI q := by
  rcases p with _ | _ | p
  · exact Or.inl ⟨rfl, by decide⟩
  · exact Or.inl ⟨rfl, by decide⟩
  · exact Or.inr ⟨p, rfl, pk_sub (a := p + 1 + 1) (b := 2) (by omega)⟩
theorem z_dms {q : Nat} : (q = 0 ∧ nI q + (-1) < 0) ∨ ∃ y, q = y + 1 ∧ nI q + (-1) = nI y := by
  rcases q with _ | y
  · exact Or.inl ⟨rfl, by decide⟩
  · exact Or.inr ⟨y, rfl, pk_m1 y⟩
set_option maxHeartbeats 4000000 in
set_option maxRecDepth 100000 in
theorem lp_X9_nextOrder1 {p : Program} {l : Launch} {e : Env} {s : State} {m : MethodId} {args : Array Value} {below : List Frame} {meth : Method} {c : Code} {Q : State → Prop} {A : Nat → Prop} (Z : gZ) (h0 : Nat) (b1 : Nat) (b2 : Nat) (b3 : Nat) (b4 : Nat) (b5 : Nat) (b6 : Nat) (b7 : Nat) (b8 : Nat) (b9 : Nat) (b10 : Nat) (b11 : Nat) (b12 : Nat) (b13 : Nat) (b14 : Nat) (b15 : Nat) (b16 : Nat) (b17 : Nat) (b18 : Nat) (b19 : Nat) (b20 : Nat) (b21 : Nat) (b22 : Nat) (b23 : Nat) (b24 : Nat) (b25 : Nat) (n : Nat) (pn : Nat) (tn : Nat) (xp : Int32) (xr : Int32) (ik : Int32) (f16 : Nat → Int32) (hpn : pn ≤ 8) (hx : p.tables.exec = Jvm.exec) (hb : c.code = cX9_nextOrder) (hml : c.maxLocals = 6) (hts : ∀ w ∈ wsX9_nextOrder, w.before args s = true) (hown : s.vm.findClass RX9 = some m.cls) (hK : va_K Z.1 vwCl (gT Z) s) (hA : ∀ q : Nat, s.heap.size ≤ q → A q) (kx_34 : ∀ (j : Nat) (x : Int32) (H : Heap) (locs : List Loc) (ls : Array Slot), ((x < 0 ∧ (∀ i, 0 ≤ i → i + 1 < pn → f16 (i + 1) < f16 i)) ∨ ∃ q, q + 2 ≤ pn ∧ x = nI q ∧ f16 q ≤ f16 (q + 1) ∧ (∀ i, q + 1 ≤ i → i + 1 < pn → f16 (i + 1) < f16 i)) → va_P Z.1 vwCl [(h0, .inr (9, [.ref b1, .ref b2, .ref b3, .ref b4, .int (nI n), .ref b5, .int (nI pn), .ref b6, .ref b7, .ref b8, .int (nI tn), .int xp, .int xr, .ref b9, .ref b10, .ref b11, .ref b12, .ref b13, .ref b14, .ref b15, .ref b16, .ref b17, .ref b18, .int ik, .ref b19, .ref b20, .ref b21, .ref b22, .ref b23, .ref b24, .ref b25])), (b16, .inl (Z.2 0, 8, .inl f16))] H → va_D A [(h0, .inr (9, [.ref b1, .ref b2, .ref b3, .ref b4, .int (nI n), .ref b5, .int (nI pn), .ref b6, .ref b7, .ref b8, .int (nI tn), .int xp, .int xr, .ref b9, .ref b10, .ref b11, .ref b12, .ref b13, .ref b14, .ref b15, .ref b16, .ref b17, .ref b18, .int ik, .ref b19, .ref b20, .ref b21, .ref b22, .ref b23, .ref b24, .ref b25])), (b16, .inl (Z.2 0, 8, .inl f16))] → va_S A s.heap H locs → lv_has ls 6 [(0, .ref h0), (1, .int x)] → W p l e ({ frames := 0, cells := 0, slots := 0, locals := 0 } : Room) s m args below meth c H locs 0 0 Q (F0 m 34 ls [])) : ∀ (fu9 : Nat) (j : Nat) (x : Int32), j < fu9 → (j = 0 ∨ j + 1 ≤ pn) → ((j = 0 ∧ x < 0) ∨ ∃ q, j = q + 1 ∧ x = nI q) → (∀ i, j ≤ i → i + 1 < pn → f16 (i + 1) < f16 i) → ∀ (H : Heap) (locs : List Loc) (ls : Array Slot), va_P Z.1 vwCl [(h0, .inr (9, [.ref b1, .ref b2, .ref b3, .ref b4, .int (nI n), .ref b5, .int (nI pn), .ref b6, .ref b7, .ref b8, .int (nI tn), .int xp, .int xr, .ref b9, .ref b10, .ref b11, .ref b12, .ref b13, .ref b14, .ref b15, .ref b16, .ref b17, .ref b18, .int ik, .ref b19, .ref b20, .ref b21, .ref b22, .ref b23, .ref b24, .ref b25])), (b16, .inl (Z.2 0, 8, .inl f16))] H → va_D A [(h0, .inr (9, [.ref b1, .ref b2, .ref b3, .ref b4, .int (nI n), .ref b5, .int (nI pn), .ref b6, .ref b7, .ref b8, .int (nI tn), .int xp, .int xr, .ref b9, .ref b10, .ref b11, .ref b12, .ref b13, .ref b14, .ref b15, .ref b16, .ref b17, .ref b18, .int ik, .ref b19, .ref b20, .ref b21, .ref b22, .ref b23, .ref b24, .ref b25])), (b16, .inl (Z.2 0, 8, .inl f16))] → va_S A s.heap H locs → lv_has ls 6 [(0, .ref h0), (1, .int x)] → W p l e ({ frames := 0, cells := 0, slots := 0, locals := 0 } : Room) s m args below meth c H locs 0 0 Q (F0 m 7 ls []) := by
  have hin9 : ∀ w ∈ wsX90, w ∈ wsX9_nextOrder := fun w h9 => (List.mem_cons_of_mem _ (List.mem_append_right _ h9))
  intro fu9
  induction fu9 with
  | zero => intro j x hf9; exact absurd hf9 (Nat.not_lt_zero _)
  | succ fu9 ih =>
    intro j x hf9 hj hx0 hd H locs ls hP hD hS hl
    rcases hx0 with ⟨rfl, hxn⟩ | ⟨q, rfl, rfl⟩
    · refine lv_iload_n hx hb dX9_nextOrder_7 rfl (lv_at hl 1 rfl) ?_
      refine lv_if_lt (tgt := 34) hx hb dX9_nextOrder_8 (by decide) (fun _ => ?_) (fun c9 => absurd (hxn) c9)
      exact kx_34 0 x H locs ls (Or.inl ⟨hxn, hd⟩) hP hD hS (lv_sub hl [0, 1] rfl)
    · refine lv_iload_n hx hb dX9_nextOrder_7 rfl (lv_at hl 1 rfl) ?_
      refine lv_if_lt (tgt := 34) hx hb dX9_nextOrder_8 (by decide) (fun c9 => absurd c9 (nI_pos (by omega))) (fun _ => ?_)
      refine lv_aload_n hx hb dX9_nextOrder_11 rfl (lv_at hl 0 rfl) ?_
      refine va_get (D := Z.1) (ci := 9) (v := .ref b16) (C := RX9) (T := TX9) (N := 31) hx hb hts hin9 hown hK hP 0 rfl rfl 20 (by decide) (hts (.fieldLink RX9 55 "HalfAskedModel" "order" "[I") (List.mem_of_getElem? (i := 2) rfl)) (fun _ h9 => h9) rfl dX9_nextOrder_12 ?_
      refine lv_iload_n hx hb dX9_nextOrder_15 rfl (lv_at hl 1 rfl) ?_
      refine va_iald hx hb hK hP 1 0 rfl rfl (vp_in_nI (by omega) (by decide)) dX9_nextOrder_16 ?_
      refine lv_aload_n hx hb dX9_nextOrder_17 rfl (lv_at hl 0 rfl) ?_
      refine va_get (D := Z.1) (ci := 9) (v := .ref b16) (C := RX9) (T := TX9) (N := 31) hx hb hts hin9 hown hK hP 0 rfl rfl 20 (by decide) (hts (.fieldLink RX9 55 "HalfAskedModel" "order" "[I") (List.mem_of_getElem? (i := 2) rfl)) (fun _ h9 => h9) rfl dX9_nextOrder_18 ?_
      refine lv_iload_n hx hb dX9_nextOrder_21 rfl (lv_at hl 1 rfl) ?_
      refine lv_iconst (v := 1) hx hb dX9_nextOrder_22 (by decide) ?_
      refine lv_iadd hx hb dX9_nextOrder_23 ?_
      refine lv_topi (fun f_1 ef_1 => ?_)
      obtain rfl : nI (q + 1) = f_1 := (ef_1.trans (nI_1 _)).symm
      refine va_iald hx hb hK hP 1 0 rfl rfl (vp_in_nI (by omega) (by decide)) dX9_nextOrder_24 ?_
      refine lv_icmp_le (tgt := 34) hx hb dX9_nextOrder_25 (by decide) (fun c_2 => ?_) (fun c_2 => ?_)
      · exact kx_34 (q + 1) (nI q) H locs ls (Or.inr ⟨q, by omega, rfl, by have h9 := c_2; rw [nI_clamp (by omega), nI_clamp (by omega)] at h9; exact h9, hd⟩) hP hD hS (lv_sub hl [0, 1] rfl)
      · refine lv_iinc (v := nI q + (-1)) (lv' := [(1, .int (nI q + (-1))), (0, .ref h0)]) hx hb dX9_nextOrder_28 hl (k := 1) rfl rfl (by decide) rfl (fun ls hl => ?_)
        refine lv_goto (tgt := 7) hx hb dX9_nextOrder_31 (by decide) ?_
        exact ih q (nI q + (-1)) (by omega) (by omega) (z_dms) (fun i hi hn => by rcases Nat.lt_or_ge q i with k9 | k9; exact hd i k9 hn; have e9 : i = q := (by omega); subst e9; have h9 := c_2; rw [nI_clamp (by omega), nI_clamp (by omega)] at h9; exact Int32.not_le.mp h9) H locs ls hP hD hS (lv_sub hl [1, 0] rfl)
set_option maxHeartbeats 4000000 in
set_option maxRecDepth 100000 in
theorem lp_X9_nextOrder2 {p : Program} {l : Launch} {e : Env} {s : State} {m : MethodId} {args : Array Value} {below : List Frame} {meth : Method} {c : Code} {Q : State → Prop} {A : Nat → Prop} (Z : gZ) (h0 : Nat) (b1 : Nat) (b2 : Nat) (b3 : Nat) (b4 : Nat) (b5 : Nat) (b6 : Nat) (b7 : Nat) (b8 : Nat) (b9 : Nat) (b10 : Nat) (b11 : Nat) (b12 : Nat) (b13 : Nat) (b14 : Nat) (b15 : Nat) (b16 : Nat) (b17 : Nat) (b18 : Nat) (b19 : Nat) (b20 : Nat) (b21 : Nat) (b22 : Nat) (b23 : Nat) (b24 : Nat) (b25 : Nat) (n : Nat) (pn : Nat) (tn : Nat) (xp : Int32) (xr : Int32) (ik : Int32) (f16 : Nat → Int32) (q : Nat) (hpn : pn ≤ 8) (hq2 : q + 2 ≤ pn) (hfq : f16 q ≤ f16 (q + 1)) (hx : p.tables.exec = Jvm.exec) (hb : c.code = cX9_nextOrder) (hml : c.maxLocals = 6) (hts : ∀ w ∈ wsX9_nextOrder, w.before args s = true) (hown : s.vm.findClass RX9 = some m.cls) (hK : va_K Z.1 vwCl (gT Z) s) (hA : ∀ q : Nat, s.heap.size ≤ q → A q) (kx_68 : ∀ (z : Nat) (H : Heap) (locs : List Loc) (ls : Array Slot), (q + 1 ≤ z ∧ z < pn ∧ f16 q ≤ f16 z ∧ (∀ i, z < i → i < pn → f16 i < f16 q)) → va_P Z.1 vwCl [(h0, .inr (9, [.ref b1, .ref b2, .ref b3, .ref b4, .int (nI n), .ref b5, .int (nI pn), .ref b6, .ref b7, .ref b8, .int (nI tn), .int xp, .int xr, .ref b9, .ref b10, .ref b11, .ref b12, .ref b13, .ref b14, .ref b15, .ref b16, .ref b17, .ref b18, .int ik, .ref b19, .ref b20, .ref b21, .ref b22, .ref b23, .ref b24, .ref b25])), (b16, .inl (Z.2 0, 8, .inl f16))] H → va_D A [(h0, .inr (9, [.ref b1, .ref b2, .ref b3, .ref b4, .int (nI n), .ref b5, .int (nI pn), .ref b6, .ref b7, .ref b8, .int (nI tn), .int xp, .int xr, .ref b9, .ref b10, .ref b11, .ref b12, .ref b13, .ref b14, .ref b15, .ref b16, .ref b17, .ref b18, .int ik, .ref b19, .ref b20, .ref b21, .ref b22, .ref b23, .ref b24, .ref b25])), (b16, .inl (Z.2 0, 8, .inl f16))] → va_S A s.heap H locs → lv_has ls 6 [(0, .ref h0), (1, .int (nI q)), (2, .int (nI z))] → W p l e ({ frames := 0, cells := 0, slots := 0, locals := 0 } : Room) s m args below meth c H locs 0 0 Q (F0 m 68 ls [])) : ∀ (fu9 : Nat) (z : Nat), z < fu9 → (q + 1 ≤ z) → (z < pn) → (∀ i, z < i → i < pn → f16 i < f16 q) → ∀ (H : Heap) (locs : List Loc) (ls : Array Slot), va_P Z.1 vwCl [(h0, .inr (9, [.ref b1, .ref b2, .ref b3, .ref b4, .int (nI n), .ref b5, .int (nI pn), .ref b6, .ref b7, .ref b8, .int (nI tn), .int xp, .int xr, .ref b9, .ref b10, .ref b11, .ref b12, .ref b13, .ref b14, .ref b15, .ref b16, .ref b17, .ref b18, .int ik, .ref b19, .ref b20, .ref b21, .ref b22, .ref b23, .ref b24, .ref b25])), (b16, .inl (Z.2 0, 8, .inl f16))] H → va_D A [(h0, .inr (9, [.ref b1, .ref b2, .ref b3, .ref b4, .int (nI n), .ref b5, .int (nI pn), .ref b6, .ref b7, .ref b8, .int (nI tn), .int xp, .int xr, .ref b9, .ref b10, .ref b11, .ref b12, .ref b13, .ref b14, .ref b15, .ref b16, .ref b17, .ref b18, .int ik, .ref b19, .ref b20, .ref b21, .ref b22, .ref b23, .ref b24, .ref b25])), (b16, .inl (Z.2 0, 8, .inl f16))] → va_S A s.heap H locs → lv_has ls 6 [(0, .ref h0), (1, .int (nI q)), (2, .int (nI z))] → W p l e ({ frames := 0, cells := 0, slots := 0, locals := 0 } : Room) s m args below meth c H locs 0 0 Q (F0 m 47 ls []) := by
  have hin9 : ∀ w ∈ wsX90, w ∈ wsX9_nextOrder := fun w h9 => (List.mem_cons_of_mem _ (List.mem_append_right _ h9))
  intro fu9
  induction fu9 with
  | zero => intro z hf9; exact absurd hf9 (Nat.not_lt_zero _)
  | succ fu9 ih =>
    intro z hf9 hz1 hz2 hd2 H locs ls hP hD hS hl
    refine lv_aload_n hx hb dX9_nextOrder_47 rfl (lv_at hl 0 rfl) ?_
    refine va_get (D := Z.1) (ci := 9) (v := .ref b16) (C := RX9) (T := TX9) (N := 31) hx hb hts hin9 hown hK hP 0 rfl rfl 20 (by decide) (hts (.fieldLink RX9 55 "HalfAskedModel" "order" "[I") (List.mem_of_getElem? (i := 2) rfl)) (fun _ h9 => h9) rfl dX9_nextOrder_48 ?_
    refine lv_iload_n hx hb dX9_nextOrder_51 rfl (lv_at hl 2 rfl) ?_
    refine va_iald hx hb hK hP 1 0 rfl rfl (vp_in_nI (by omega) (by decide)) dX9_nextOrder_52 ?_
    refine lv_aload_n hx hb dX9_nextOrder_53 rfl (lv_at hl 0 rfl) ?_
    refine va_get (D := Z.1) (ci := 9) (v := .ref b16) (C := RX9) (T := TX9) (N := 31) hx hb hts hin9 hown hK hP 0 rfl rfl 20 (by decide) (hts (.fieldLink RX9 55 "HalfAskedModel" "order" "[I") (List.mem_of_getElem? (i := 2) rfl)) (fun _ h9 => h9) rfl dX9_nextOrder_54 ?_
    refine lv_iload_n hx hb dX9_nextOrder_57 rfl (lv_at hl 1 rfl) ?_
    refine va_iald hx hb hK hP 1 0 rfl rfl (vp_in_nI (by omega) (by decide)) dX9_nextOrder_58 ?_
    refine lv_icmp_ge (tgt := 68) hx hb dX9_nextOrder_59 (by decide) (fun c_1 => ?_) (fun c_1 => ?_)
    · exact kx_68 z H locs ls (⟨hz1, hz2, by have h9 := c_1; rw [nI_clamp (by omega), nI_clamp (by omega)] at h9; exact h9, hd2⟩) hP hD hS (lv_sub hl [0, 1, 2] rfl)
    · have hzq : ¬ z = q + 1 := fun e9 => by have h9 := c_1; rw [nI_clamp (by omega), nI_clamp (by omega), e9] at h9; exact h9 hfq
      obtain ⟨y, rfl⟩ : ∃ y, z = y + 1 := ⟨z - 1, by omega⟩
      refine lv_iinc (v := nI y) (lv' := [(2, .int (nI y)), (0, .ref h0), (1, .int (nI q))]) hx hb dX9_nextOrder_62 hl (k := 2) rfl (pk_m1 _) (by decide) rfl (fun ls hl => ?_)
      refine lv_goto (tgt := 47) hx hb dX9_nextOrder_65 (by decide) ?_
      exact ih y (by omega) (by omega) (by omega) (fun i hi hn => by rcases Nat.lt_or_ge (y + 1) i with k9 | k9; exact hd2 i k9 hn; have e9 : i = y + 1 := (by omega); subst e9; have h9 := c_1; rw [nI_clamp (by omega), nI_clamp (by omega)] at h9; exact Int32.not_le.mp h9) H locs ls hP hD hS (lv_sub hl [1, 2, 0] rfl)
theorem z_mir {q pn a y : Nat} {f g0 : Nat → Int32} (hs : a + (y + 1) = q + pn) (hqa : q < a) (hab : a < y + 1) (ha9 : a < 9) (hb : y + 1 < pn) (hpn : pn ≤ 8) (hM : ∀ i, f i = (if (q < i ∧ i < a) ∨ (y + 1 < i ∧ i < pn) then g0 (q + pn - i) else g0 i)) (i : Nat) : upd (upd f ((nI a).toNatClampNeg) (f (nI (y + 1)).toNatClampNeg)) ((nI (y + 1)).toNatClampNeg) (f (nI a).toNatClampNeg) i = (if (q < i ∧ i < a + 1) ∨ (y < i ∧ i < pn) then g0 (q + pn - i) else g0 i) := by
  rw [nI_clamp (show a < 2 ^ 31 by omega), nI_clamp (show y + 1 < 2 ^ 31 by omega)]
  by_cases e1 : i = y + 1
  · rw [e1, pk_us, hM a, if_neg (by omega), if_pos (by omega), show q + pn - (y + 1) = a by omega]
  · rw [pk_un e1]
    by_cases e2 : i = a
    · rw [e2, pk_us, hM (y + 1), if_neg (by omega), if_pos (by omega), show q + pn - a = y + 1 by omega]
    · rw [pk_un e2, hM i]
      by_cases k : (q < i ∧ i < a) ∨ (y + 1 < i ∧ i < pn)
      · rw [if_pos k, if_pos (by omega)]
      · rw [if_neg k, if_neg (by omega)]
theorem z_mirE {q pn a b : Nat} {f g0 : Nat → Int32} (hs : a + b = q + pn) (hb : b < pn) (hba : b ≤ a) (ha1 : a ≤ b + 1) (hqa : q < a) (hM : ∀ i, f i = (if (q < i ∧ i < a) ∨ (b < i ∧ i < pn) then g0 (q + pn - i) else g0 i)) : ∀ i, f i = (if q < i ∧ i < pn then g0 (q + pn - i) else g0 i) := by
  intro i
  rw [hM i]
  by_cases k : (q < i ∧ i < a) ∨ (b < i ∧ i < pn)
  · by_cases k2 : q < i ∧ i < pn
    · rw [if_pos k, if_pos k2]
    · rw [if_pos k, if_neg k2]
      congr 1
      omega
  · by_cases k2 : q < i ∧ i < pn
    · rw [if_neg k, if_pos k2]
      congr 1
      omega
    · rw [if_neg k, if_neg k2]
set_option maxHeartbeats 4000000 in
set_option maxRecDepth 100000 in
theorem lp_X9_nextOrder3 {p : Program} {l : Launch} {e : Env} {s : State} {m : MethodId} {args : Array Value} {below : List Frame} {meth : Method} {c : Code} {Q : State → Prop} {A : Nat → Prop} (Z : gZ) (h0 : Nat) (b1 : Nat) (b2 : Nat) (b3 : Nat) (b4 : Nat) (b5 : Nat) (b6 : Nat) (b7 : Nat) (b8 : Nat) (b9 : Nat) (b10 : Nat) (b11 : Nat) (b12 : Nat) (b13 : Nat) (b14 : Nat) (b15 : Nat) (b16 : Nat) (b17 : Nat) (b18 : Nat) (b19 : Nat) (b20 : Nat) (b21 : Nat) (b22 : Nat) (b23 : Nat) (b24 : Nat) (b25 : Nat) (n : Nat) (pn : Nat) (tn : Nat) (xp : Int32) (xr : Int32) (ik : Int32) (q : Nat) (g0 : Nat → Int32) (hpn : pn ≤ 8) (hx : p.tables.exec = Jvm.exec) (hb : c.code = cX9_nextOrder) (hml : c.maxLocals = 6) (hts : ∀ w ∈ wsX9_nextOrder, w.before args s = true) (hown : s.vm.findClass RX9 = some m.cls) (hK : va_K Z.1 vwCl (gT Z) s) (hA : ∀ q : Nat, s.heap.size ≤ q → A q) (kx_153 : ∀ (a : Nat) (b : Nat) (f16 : Nat → Int32) (H : Heap) (locs : List Loc) (ls : Array Slot), (zO pn f16) → (∀ i, i ≤ q → f16 i = g0 i) → (∀ i, f16 i = (if q < i ∧ i < pn then g0 (q + pn - i) else g0 i)) → va_P Z.1 vwCl [(h0, .inr (9, [.ref b1, .ref b2, .ref b3, .ref b4, .int (nI n), .ref b5, .int (nI pn), .ref b6, .ref b7, .ref b8, .int (nI tn), .int xp, .int xr, .ref b9, .ref b10, .ref b11, .ref b12, .ref b13, .ref b14, .ref b15, .ref b16, .ref b17, .ref b18, .int ik, .ref b19, .ref b20, .ref b21, .ref b22, .ref b23, .ref b24, .ref b25])), (b16, .inl (Z.2 0, 8, .inl f16))] H → va_D A [(h0, .inr (9, [.ref b1, .ref b2, .ref b3, .ref b4, .int (nI n), .ref b5, .int (nI pn), .ref b6, .ref b7, .ref b8, .int (nI tn), .int xp, .int xr, .ref b9, .ref b10, .ref b11, .ref b12, .ref b13, .ref b14, .ref b15, .ref b16, .ref b17, .ref b18, .int ik, .ref b19, .ref b20, .ref b21, .ref b22, .ref b23, .ref b24, .ref b25])), (b16, .inl (Z.2 0, 8, .inl f16))] → va_S A s.heap H locs → lv_has ls 6 [(0, .ref h0), (4, .int (nI b)), (5, .int (nI a))] → W p l e ({ frames := 0, cells := 0, slots := 0, locals := 0 } : Room) s m args below meth c H locs 0 0 Q (F0 m 153 ls [])) : ∀ (fu9 : Nat) (a : Nat) (b : Nat) (f16 : Nat → Int32), b - a < fu9 → (q < a) → (a ≤ 9) → (b < pn) → (zO pn f16) → (∀ i, i ≤ q → f16 i = g0 i) → (a + b = q + pn) → (a ≤ b + 1) → (∀ i, f16 i = (if (q < i ∧ i < a) ∨ (b < i ∧ i < pn) then g0 (q + pn - i) else g0 i)) → ∀ (H : Heap) (locs : List Loc) (ls : Array Slot), va_P Z.1 vwCl [(h0, .inr (9, [.ref b1, .ref b2, .ref b3, .ref b4, .int (nI n), .ref b5, .int (nI pn), .ref b6, .ref b7, .ref b8, .int (nI tn), .int xp, .int xr, .ref b9, .ref b10, .ref b11, .ref b12, .ref b13, .ref b14, .ref b15, .ref b16, .ref b17, .ref b18, .int ik, .ref b19, .ref b20, .ref b21, .ref b22, .ref b23, .ref b24, .ref b25])), (b16, .inl (Z.2 0, 8, .inl f16))] H → va_D A [(h0, .inr (9, [.ref b1, .ref b2, .ref b3, .ref b4, .int (nI n), .ref b5, .int (nI pn), .ref b6, .ref b7, .ref b8, .int (nI tn), .int xp, .int xr, .ref b9, .ref b10, .ref b11, .ref b12, .ref b13, .ref b14, .ref b15, .ref b16, .ref b17, .ref b18, .int ik, .ref b19, .ref b20, .ref b21, .ref b22, .ref b23, .ref b24, .ref b25])), (b16, .inl (Z.2 0, 8, .inl f16))] → va_S A s.heap H locs → lv_has ls 6 [(0, .ref h0), (4, .int (nI b)), (5, .int (nI a))] → W p l e ({ frames := 0, cells := 0, slots := 0, locals := 0 } : Room) s m args below meth c H locs 0 0 Q (F0 m 107 ls []) := by
  have hin9 : ∀ w ∈ wsX90, w ∈ wsX9_nextOrder := fun w h9 => (List.mem_cons_of_mem _ (List.mem_append_right _ h9))
  intro fu9
  induction fu9 with
  | zero => intro a b f16 hf9; exact absurd hf9 (Nat.not_lt_zero _)
  | succ fu9 ih =>
    intro a b f16 hf9 hqa ha9 hb1 hO hU hs9 ha1 hM H locs ls hP hD hS hl
    refine lv_iload hx hb dX9_nextOrder_107 (lv_at hl 2 rfl) ?_
    refine lv_iload hx hb dX9_nextOrder_109 (lv_at hl 1 rfl) ?_
    refine lv_icmp_ge (tgt := 153) hx hb dX9_nextOrder_111 (by decide) (fun c_1 => ?_) (fun c_1 => ?_)
    · exact kx_153 a b f16 H locs ls (hO) (hU) (z_mirE hs9 hb1 ((nI_leI (by omega) (by omega)).mp c_1) ha1 hqa hM) hP hD hS (lv_sub hl [0, 1, 2] rfl)
    · have hab : a < b := by rcases Nat.lt_or_ge a b with q9 | q9; exact q9; exact absurd (nI_le q9 (by omega)) c_1
      refine lv_aload_n hx hb dX9_nextOrder_114 rfl (lv_at hl 0 rfl) ?_
      refine va_get (D := Z.1) (ci := 9) (v := .ref b16) (C := RX9) (T := TX9) (N := 31) hx hb hts hin9 hown hK hP 0 rfl rfl 20 (by decide) (hts (.fieldLink RX9 55 "HalfAskedModel" "order" "[I") (List.mem_of_getElem? (i := 2) rfl)) (fun _ h9 => h9) rfl dX9_nextOrder_115 ?_
      refine lv_iload hx hb dX9_nextOrder_118 (lv_at hl 2 rfl) ?_
      refine va_iald hx hb hK hP 1 0 rfl rfl (vp_in_nI (by omega) (by decide)) dX9_nextOrder_120 ?_
      refine lv_istore_n (lv' := [(3, .int (f16 (nI a).toNatClampNeg)), (0, .ref h0), (4, .int (nI b)), (5, .int (nI a))]) hx hb dX9_nextOrder_121 rfl hl (by decide) rfl (fun ls hl => ?_)
      refine lv_aload_n hx hb dX9_nextOrder_122 rfl (lv_at hl 1 rfl) ?_
      refine va_get (D := Z.1) (ci := 9) (v := .ref b16) (C := RX9) (T := TX9) (N := 31) hx hb hts hin9 hown hK hP 0 rfl rfl 20 (by decide) (hts (.fieldLink RX9 55 "HalfAskedModel" "order" "[I") (List.mem_of_getElem? (i := 2) rfl)) (fun _ h9 => h9) rfl dX9_nextOrder_123 ?_
      refine lv_iload hx hb dX9_nextOrder_126 (lv_at hl 3 rfl) ?_
      refine lv_aload_n hx hb dX9_nextOrder_128 rfl (lv_at hl 1 rfl) ?_
      refine va_get (D := Z.1) (ci := 9) (v := .ref b16) (C := RX9) (T := TX9) (N := 31) hx hb hts hin9 hown hK hP 0 rfl rfl 20 (by decide) (hts (.fieldLink RX9 55 "HalfAskedModel" "order" "[I") (List.mem_of_getElem? (i := 2) rfl)) (fun _ h9 => h9) rfl dX9_nextOrder_129 ?_
      refine lv_iload hx hb dX9_nextOrder_132 (lv_at hl 2 rfl) ?_
      refine va_iald hx hb hK hP 1 0 rfl rfl (vp_in_nI (by omega) (by decide)) dX9_nextOrder_134 ?_
      refine va_iast hx hb hK hP hD hS 1 0 rfl rfl (vp_in_nI (by omega) (by decide)) dX9_nextOrder_135 (fun H locs hP hD hS => ?_)
      have hP : va_P Z.1 vwCl [(h0, .inr (9, [.ref b1, .ref b2, .ref b3, .ref b4, .int (nI n), .ref b5, .int (nI pn), .ref b6, .ref b7, .ref b8, .int (nI tn), .int xp, .int xr, .ref b9, .ref b10, .ref b11, .ref b12, .ref b13, .ref b14, .ref b15, .ref b16, .ref b17, .ref b18, .int ik, .ref b19, .ref b20, .ref b21, .ref b22, .ref b23, .ref b24, .ref b25])), (b16, .inl (Z.2 0, 8, .inl (upd f16 ((nI a).toNatClampNeg) (f16 (nI b).toNatClampNeg))))] H := hP
      have hD : va_D A [(h0, .inr (9, [.ref b1, .ref b2, .ref b3, .ref b4, .int (nI n), .ref b5, .int (nI pn), .ref b6, .ref b7, .ref b8, .int (nI tn), .int xp, .int xr, .ref b9, .ref b10, .ref b11, .ref b12, .ref b13, .ref b14, .ref b15, .ref b16, .ref b17, .ref b18, .int ik, .ref b19, .ref b20, .ref b21, .ref b22, .ref b23, .ref b24, .ref b25])), (b16, .inl (Z.2 0, 8, .inl (upd f16 ((nI a).toNatClampNeg) (f16 (nI b).toNatClampNeg))))] := hD
      refine lv_aload_n hx hb dX9_nextOrder_136 rfl (lv_at hl 1 rfl) ?_
      refine va_get (D := Z.1) (ci := 9) (v := .ref b16) (C := RX9) (T := TX9) (N := 31) hx hb hts hin9 hown hK hP 0 rfl rfl 20 (by decide) (hts (.fieldLink RX9 55 "HalfAskedModel" "order" "[I") (List.mem_of_getElem? (i := 2) rfl)) (fun _ h9 => h9) rfl dX9_nextOrder_137 ?_
      refine lv_iload hx hb dX9_nextOrder_140 (lv_at hl 2 rfl) ?_
      refine lv_iload_n hx hb dX9_nextOrder_142 rfl (lv_at hl 0 rfl) ?_
      refine va_iast hx hb hK hP hD hS 1 0 rfl rfl (vp_in_nI (by omega) (by decide)) dX9_nextOrder_143 (fun H locs hP hD hS => ?_)
      have hP : va_P Z.1 vwCl [(h0, .inr (9, [.ref b1, .ref b2, .ref b3, .ref b4, .int (nI n), .ref b5, .int (nI pn), .ref b6, .ref b7, .ref b8, .int (nI tn), .int xp, .int xr, .ref b9, .ref b10, .ref b11, .ref b12, .ref b13, .ref b14, .ref b15, .ref b16, .ref b17, .ref b18, .int ik, .ref b19, .ref b20, .ref b21, .ref b22, .ref b23, .ref b24, .ref b25])), (b16, .inl (Z.2 0, 8, .inl (upd (upd f16 ((nI a).toNatClampNeg) (f16 (nI b).toNatClampNeg)) ((nI b).toNatClampNeg) (f16 (nI a).toNatClampNeg))))] H := hP
      have hD : va_D A [(h0, .inr (9, [.ref b1, .ref b2, .ref b3, .ref b4, .int (nI n), .ref b5, .int (nI pn), .ref b6, .ref b7, .ref b8, .int (nI tn), .int xp, .int xr, .ref b9, .ref b10, .ref b11, .ref b12, .ref b13, .ref b14, .ref b15, .ref b16, .ref b17, .ref b18, .int ik, .ref b19, .ref b20, .ref b21, .ref b22, .ref b23, .ref b24, .ref b25])), (b16, .inl (Z.2 0, 8, .inl (upd (upd f16 ((nI a).toNatClampNeg) (f16 (nI b).toNatClampNeg)) ((nI b).toNatClampNeg) (f16 (nI a).toNatClampNeg))))] := hD
      obtain ⟨y, rfl⟩ : ∃ y, b = y + 1 := ⟨b - 1, by omega⟩
      have hO2 : zO pn (upd (upd f16 ((nI a).toNatClampNeg) (f16 (nI (y + 1)).toNatClampNeg)) ((nI (y + 1)).toNatClampNeg) (f16 (nI a).toNatClampNeg)) := zO_sw hpn (by omega) hb1 hO
      have hU2 : ∀ i, i ≤ q → (upd (upd f16 ((nI a).toNatClampNeg) (f16 (nI (y + 1)).toNatClampNeg)) ((nI (y + 1)).toNatClampNeg) (f16 (nI a).toNatClampNeg)) i = g0 i := fun i hi => by rw [z_sw_un (by omega) (by omega) (by omega) (by omega)]; exact hU i hi
      have hM2 : ∀ i, (upd (upd f16 ((nI a).toNatClampNeg) (f16 (nI (y + 1)).toNatClampNeg)) ((nI (y + 1)).toNatClampNeg) (f16 (nI a).toNatClampNeg)) i = (if (q < i ∧ i < a + 1) ∨ (y < i ∧ i < pn) then g0 (q + pn - i) else g0 i) := fun i => z_mir hs9 (by omega) (by omega) (by omega) hb1 hpn hM i
      generalize (upd (upd f16 ((nI a).toNatClampNeg) (f16 (nI (y + 1)).toNatClampNeg)) ((nI (y + 1)).toNatClampNeg) (f16 (nI a).toNatClampNeg) : Nat → Int32) = g_2 at hP hD hO2 hU2 hM2
      refine lv_iinc (v := nI y) (lv' := [(4, .int (nI y)), (3, .int (f16 (nI a).toNatClampNeg)), (0, .ref h0), (5, .int (nI a))]) hx hb dX9_nextOrder_144 hl (k := 2) rfl (pk_m1 _) (by decide) rfl (fun ls hl => ?_)
      refine lv_iinc (v := nI (a + 1)) (lv' := [(5, .int (nI (a + 1))), (4, .int (nI y)), (3, .int (f16 (nI a).toNatClampNeg)), (0, .ref h0)]) hx hb dX9_nextOrder_147 hl (k := 3) rfl (nI_1 _) (by decide) rfl (fun ls hl => ?_)
      refine lv_goto (tgt := 107) hx hb dX9_nextOrder_150 (by decide) ?_
      exact ih (a + 1) y g_2 (by omega) (by omega) (by omega) (by omega) (hO2) (hU2) (by omega) (by omega) (hM2) H locs ls hP hD hS (lv_sub hl [3, 1, 0] rfl)
set_option maxHeartbeats 4000000 in
set_option maxRecDepth 100000 in
theorem c_X9_nextOrder (l : Launch) (Z : gZ) (sz : Nat) (h0 : Nat) (b1 : Nat) (b2 : Nat) (b3 : Nat) (b4 : Nat) (b5 : Nat) (b6 : Nat) (b7 : Nat) (b8 : Nat) (b9 : Nat) (b10 : Nat) (b11 : Nat) (b12 : Nat) (b13 : Nat) (b14 : Nat) (b15 : Nat) (b16 : Nat) (b17 : Nat) (b18 : Nat) (b19 : Nat) (b20 : Nat) (b21 : Nat) (b22 : Nat) (b23 : Nat) (b24 : Nat) (b25 : Nat) (n : Nat) (pn : Nat) (tn : Nat) (xp : Int32) (xr : Int32) (ik : Int32) (f16 : Nat → Int32) (hpn : pn ≤ 8) (hO : zO pn f16) : Met l yX9_nextOrder wsX9_nextOrder ({ frames := 0, cells := 0, slots := 0, locals := 0 }) (va_Pc [.ref h0] (fun U => U.heap.size = sz ∧ va_P Z.1 vwCl [(h0, .inr (9, [.ref b1, .ref b2, .ref b3, .ref b4, .int (nI n), .ref b5, .int (nI pn), .ref b6, .ref b7, .ref b8, .int (nI tn), .int xp, .int xr, .ref b9, .ref b10, .ref b11, .ref b12, .ref b13, .ref b14, .ref b15, .ref b16, .ref b17, .ref b18, .int ik, .ref b19, .ref b20, .ref b21, .ref b22, .ref b23, .ref b24, .ref b25])), (b16, .inl (Z.2 0, 8, .inl f16))] U.heap ∧ va_K Z.1 vwCl (gT Z) U ∧ va_D (fun _ => True) [(h0, .inr (9, [.ref b1, .ref b2, .ref b3, .ref b4, .int (nI n), .ref b5, .int (nI pn), .ref b6, .ref b7, .ref b8, .int (nI tn), .int xp, .int xr, .ref b9, .ref b10, .ref b11, .ref b12, .ref b13, .ref b14, .ref b15, .ref b16, .ref b17, .ref b18, .int ik, .ref b19, .ref b20, .ref b21, .ref b22, .ref b23, .ref b24, .ref b25])), (b16, .inl (Z.2 0, 8, .inl f16))])) (va_Qi (fun (r : Int32) (u : (Nat → Int32)) => match u with | g16 => (r = 1 ∧ (zO pn g16 ∧ nxO pn f16 g16) ∧ zW f16 < zW g16) ∨ (r = 0 ∧ (zO pn g16 ∧ ∀ i, i + 1 < pn → f16 (i + 1) < f16 i))) (fun (u : (Nat → Int32)) (t9 : State) => match u with | g16 => va_P Z.1 vwCl [(h0, .inr (9, [.ref b1, .ref b2, .ref b3, .ref b4, .int (nI n), .ref b5, .int (nI pn), .ref b6, .ref b7, .ref b8, .int (nI tn), .int xp, .int xr, .ref b9, .ref b10, .ref b11, .ref b12, .ref b13, .ref b14, .ref b15, .ref b16, .ref b17, .ref b18, .int ik, .ref b19, .ref b20, .ref b21, .ref b22, .ref b23, .ref b24, .ref b25])), (b16, .inl (Z.2 0, 8, .inl g16))] t9.heap ∧ va_D (va_A [(h0, .inr (9, [.ref b1, .ref b2, .ref b3, .ref b4, .int (nI n), .ref b5, .int (nI pn), .ref b6, .ref b7, .ref b8, .int (nI tn), .int xp, .int xr, .ref b9, .ref b10, .ref b11, .ref b12, .ref b13, .ref b14, .ref b15, .ref b16, .ref b17, .ref b18, .int ik, .ref b19, .ref b20, .ref b21, .ref b22, .ref b23, .ref b24, .ref b25])), (b16, .inl (Z.2 0, 8, .inl f16))] sz) [(h0, .inr (9, [.ref b1, .ref b2, .ref b3, .ref b4, .int (nI n), .ref b5, .int (nI pn), .ref b6, .ref b7, .ref b8, .int (nI tn), .int xp, .int xr, .ref b9, .ref b10, .ref b11, .ref b12, .ref b13, .ref b14, .ref b15, .ref b16, .ref b17, .ref b18, .int ik, .ref b19, .ref b20, .ref b21, .ref b22, .ref b23, .ref b24, .ref b25])), (b16, .inl (Z.2 0, 8, .inl g16))]) (va_A [(h0, .inr (9, [.ref b1, .ref b2, .ref b3, .ref b4, .int (nI n), .ref b5, .int (nI pn), .ref b6, .ref b7, .ref b8, .int (nI tn), .int xp, .int xr, .ref b9, .ref b10, .ref b11, .ref b12, .ref b13, .ref b14, .ref b15, .ref b16, .ref b17, .ref b18, .int ik, .ref b19, .ref b20, .ref b21, .ref b22, .ref b23, .ref b24, .ref b25])), (b16, .inl (Z.2 0, 8, .inl f16))] sz)) 0 0 (va_A [(h0, .inr (9, [.ref b1, .ref b2, .ref b3, .ref b4, .int (nI n), .ref b5, .int (nI pn), .ref b6, .ref b7, .ref b8, .int (nI tn), .int xp, .int xr, .ref b9, .ref b10, .ref b11, .ref b12, .ref b13, .ref b14, .ref b15, .ref b16, .ref b17, .ref b18, .int ik, .ref b19, .ref b20, .ref b21, .ref b22, .ref b23, .ref b24, .ref b25])), (b16, .inl (Z.2 0, 8, .inl f16))] sz) := by
  refine Met.ofW (cc := cX9_nextOrder) (maxL := 6) (ret := (some .boolean)) (by decide) rfl ?_
  intro p e s m args below meth c s₁ B hml hv
  obtain ⟨rfl, hsz, hP, hK, hD0⟩ := hv
  have hx := B.exec
  have hb := B.bytes
  have hr := B.returns
  have hts := atoms_spec (ws := wsX9_nextOrder) B.pre
  have hown : s.vm.findClass RX9 = some m.cls := findClass_of_methodNamed B.named
  have hlocks := B.notSynchronized
  subst hsz
  have hin9 : ∀ w ∈ wsX90, w ∈ wsX9_nextOrder := fun w h9 => (List.mem_cons_of_mem _ (List.mem_append_right _ h9))
  have hD := hD0.self (sz := s.heap.size)
  generalize hAe : va_A [(h0, .inr (9, [.ref b1, .ref b2, .ref b3, .ref b4, .int (nI n), .ref b5, .int (nI pn), .ref b6, .ref b7, .ref b8, .int (nI tn), .int xp, .int xr, .ref b9, .ref b10, .ref b11, .ref b12, .ref b13, .ref b14, .ref b15, .ref b16, .ref b17, .ref b18, .int ik, .ref b19, .ref b20, .ref b21, .ref b22, .ref b23, .ref b24, .ref b25])), (b16, .inl (Z.2 0, 8, .inl f16))] s.heap.size = A at hD ⊢
  have hA : ∀ q : Nat, s.heap.size ≤ q → A q := fun q h => by rw [← hAe]; exact Or.inr h
  have hS : va_S A s.heap s.heap [] := va_S.rf
  have hP : va_P Z.1 vwCl [(h0, .inr (9, [.ref b1, .ref b2, .ref b3, .ref b4, .int (nI n), .ref b5, .int (nI pn), .ref b6, .ref b7, .ref b8, .int (nI tn), .int xp, .int xr, .ref b9, .ref b10, .ref b11, .ref b12, .ref b13, .ref b14, .ref b15, .ref b16, .ref b17, .ref b18, .int ik, .ref b19, .ref b20, .ref b21, .ref b22, .ref b23, .ref b24, .ref b25])), (b16, .inl (Z.2 0, 8, .inl f16))] s.heap := hP
  have hl := lv_entry ([.ref h0]) (n := 6) (Nat.le_of_ble_eq_true rfl)
  rw [lg_entry_eq]
  generalize (lg_sl ([.ref h0]) ++ List.replicate (6 - (lg_sl ([.ref h0])).length) Slot.unset).toArray = ls at hl ⊢
  have hl : lv_has ls 6 [(0, .ref h0)] := hl
  refine lv_aload_n hx hb dX9_nextOrder_0 rfl (lv_at hl 0 rfl) ?_
  refine va_get (D := Z.1) (ci := 9) (v := .int (nI pn)) (C := RX9) (T := TX9) (N := 31) hx hb hts hin9 hown hK hP 0 rfl rfl 6 (by decide) (hts (.fieldLink RX9 139 "HalfAskedModel" "planMany" "I") (List.mem_of_getElem? (i := 1) rfl)) (fun _ h9 => h9) rfl dX9_nextOrder_1 ?_
  refine lv_iconst (v := 2) hx hb dX9_nextOrder_4 (by decide) ?_
  refine lv_isub hx hb dX9_nextOrder_5 ?_
  refine lv_istore_n (lv' := [(1, .int ((nI pn) - 2)), (0, .ref h0)]) hx hb dX9_nextOrder_6 rfl hl (by decide) rfl (fun ls hl => ?_)
  refine lp_X9_nextOrder1 Z h0 b1 b2 b3 b4 b5 b6 b7 b8 b9 b10 b11 b12 b13 b14 b15 b16 b17 b18 b19 b20 b21 b22 b23 b24 b25 n pn tn xp xr ik f16 hpn hx hb hml hts hown hK hA (fun j x H locs ls hz hP hD hS hl => ?_) (pn + 1) (pn - 1) (nI pn - 2) (by omega) (by omega) (z_dm2 hpn) (fun i hi hn => absurd hn (by omega)) s.heap _ ls hP hD hS (lv_sub hl [1, 0] rfl)
  rcases hz with ⟨hxn, hd0⟩ | ⟨q, hq2, rfl, hfq, hdq⟩
  · refine lv_iload_n hx hb dX9_nextOrder_34 rfl (lv_at hl 1 rfl) ?_
    refine lv_if_ge (tgt := 40) hx hb dX9_nextOrder_35 (by decide) (fun c9 => absurd c9 (Int32.not_le.mpr hxn)) (fun _ => ?_)
    refine lv_iconst (v := 0) hx hb dX9_nextOrder_38 (by decide) ?_
    have hP9 := hP.sub (ws' := [(h0, .inr (9, [.ref b1, .ref b2, .ref b3, .ref b4, .int (nI n), .ref b5, .int (nI pn), .ref b6, .ref b7, .ref b8, .int (nI tn), .int xp, .int xr, .ref b9, .ref b10, .ref b11, .ref b12, .ref b13, .ref b14, .ref b15, .ref b16, .ref b17, .ref b18, .int ik, .ref b19, .ref b20, .ref b21, .ref b22, .ref b23, .ref b24, .ref b25])), (b16, .inl (Z.2 0, 8, .inl f16))]) [0, 1] rfl
    have hD9 := hD.sub (ws' := [(h0, .inr (9, [.ref b1, .ref b2, .ref b3, .ref b4, .int (nI n), .ref b5, .int (nI pn), .ref b6, .ref b7, .ref b8, .int (nI tn), .int xp, .int xr, .ref b9, .ref b10, .ref b11, .ref b12, .ref b13, .ref b14, .ref b15, .ref b16, .ref b17, .ref b18, .int ik, .ref b19, .ref b20, .ref b21, .ref b22, .ref b23, .ref b24, .ref b25])), (b16, .inl (Z.2 0, 8, .inl f16))]) [0, 1] (by decide +kernel) rfl
    exact W.zret (v := 0) hx hb hr rfl (fun t9 ht hW => ⟨⟨0, f16, rfl, Or.inr ⟨rfl, hO, fun i => hd0 i (Nat.zero_le _)⟩, by rw [ht]; exact hP9, hD9⟩, hS.F ht⟩) hS.2.2 dX9_nextOrder_39
  · refine lv_iload_n hx hb dX9_nextOrder_34 rfl (lv_at hl 1 rfl) ?_
    refine lv_if_ge (tgt := 40) hx hb dX9_nextOrder_35 (by decide) (fun _ => ?_) (fun c9 => absurd (Int32.not_lt.mp (nI_pos (by omega))) c9)
    refine lv_aload_n hx hb dX9_nextOrder_40 rfl (lv_at hl 0 rfl) ?_
    refine va_get (D := Z.1) (ci := 9) (v := .int (nI pn)) (C := RX9) (T := TX9) (N := 31) hx hb hts hin9 hown hK hP 0 rfl rfl 6 (by decide) (hts (.fieldLink RX9 139 "HalfAskedModel" "planMany" "I") (List.mem_of_getElem? (i := 1) rfl)) (fun _ h9 => h9) rfl dX9_nextOrder_41 ?_
    refine lv_iconst (v := 1) hx hb dX9_nextOrder_44 (by decide) ?_
    refine lv_isub hx hb dX9_nextOrder_45 ?_
    refine lv_topi (fun f_1 ef_1 => ?_)
    obtain rfl : nI (pn - 1) = f_1 := (ef_1.trans (pk_sub (a := pn) (b := 1) (by omega))).symm
    refine lv_istore_n (lv' := [(2, .int (nI (pn - 1))), (0, .ref h0), (1, .int (nI q))]) hx hb dX9_nextOrder_46 rfl hl (by decide) rfl (fun ls hl => ?_)
    refine lp_X9_nextOrder2 Z h0 b1 b2 b3 b4 b5 b6 b7 b8 b9 b10 b11 b12 b13 b14 b15 b16 b17 b18 b19 b20 b21 b22 b23 b24 b25 n pn tn xp xr ik f16 q hpn hq2 hfq hx hb hml hts hown hK hA (fun z H locs ls hz hP hD hS hl => ?_) pn (pn - 1) (by omega) (by omega) (by omega) (fun i hi hn => absurd hn (by omega)) H _ ls hP hD hS (lv_sub hl [1, 2, 0] rfl)
    refine lv_aload_n hx hb dX9_nextOrder_68 rfl (lv_at hl 0 rfl) ?_
    refine va_get (D := Z.1) (ci := 9) (v := .ref b16) (C := RX9) (T := TX9) (N := 31) hx hb hts hin9 hown hK hP 0 rfl rfl 20 (by decide) (hts (.fieldLink RX9 55 "HalfAskedModel" "order" "[I") (List.mem_of_getElem? (i := 2) rfl)) (fun _ h9 => h9) rfl dX9_nextOrder_69 ?_
    refine lv_iload_n hx hb dX9_nextOrder_72 rfl (lv_at hl 1 rfl) ?_
    refine va_iald hx hb hK hP 1 0 rfl rfl (vp_in_nI (by omega) (by decide)) dX9_nextOrder_73 ?_
    refine lv_istore_n (lv' := [(3, .int (f16 (nI q).toNatClampNeg)), (0, .ref h0), (1, .int (nI q)), (2, .int (nI z))]) hx hb dX9_nextOrder_74 rfl hl (by decide) rfl (fun ls hl => ?_)
    refine lv_aload_n hx hb dX9_nextOrder_75 rfl (lv_at hl 1 rfl) ?_
    refine va_get (D := Z.1) (ci := 9) (v := .ref b16) (C := RX9) (T := TX9) (N := 31) hx hb hts hin9 hown hK hP 0 rfl rfl 20 (by decide) (hts (.fieldLink RX9 55 "HalfAskedModel" "order" "[I") (List.mem_of_getElem? (i := 2) rfl)) (fun _ h9 => h9) rfl dX9_nextOrder_76 ?_
    refine lv_iload_n hx hb dX9_nextOrder_79 rfl (lv_at hl 2 rfl) ?_
    refine lv_aload_n hx hb dX9_nextOrder_80 rfl (lv_at hl 1 rfl) ?_
    refine va_get (D := Z.1) (ci := 9) (v := .ref b16) (C := RX9) (T := TX9) (N := 31) hx hb hts hin9 hown hK hP 0 rfl rfl 20 (by decide) (hts (.fieldLink RX9 55 "HalfAskedModel" "order" "[I") (List.mem_of_getElem? (i := 2) rfl)) (fun _ h9 => h9) rfl dX9_nextOrder_81 ?_
    refine lv_iload_n hx hb dX9_nextOrder_84 rfl (lv_at hl 3 rfl) ?_
    refine va_iald hx hb hK hP 1 0 rfl rfl (vp_in_nI (by omega) (by decide)) dX9_nextOrder_85 ?_
    refine va_iast hx hb hK hP hD hS 1 0 rfl rfl (vp_in_nI (by omega) (by decide)) dX9_nextOrder_86 (fun H locs hP hD hS => ?_)
    have hP : va_P Z.1 vwCl [(h0, .inr (9, [.ref b1, .ref b2, .ref b3, .ref b4, .int (nI n), .ref b5, .int (nI pn), .ref b6, .ref b7, .ref b8, .int (nI tn), .int xp, .int xr, .ref b9, .ref b10, .ref b11, .ref b12, .ref b13, .ref b14, .ref b15, .ref b16, .ref b17, .ref b18, .int ik, .ref b19, .ref b20, .ref b21, .ref b22, .ref b23, .ref b24, .ref b25])), (b16, .inl (Z.2 0, 8, .inl (upd f16 ((nI q).toNatClampNeg) (f16 (nI z).toNatClampNeg))))] H := hP
    have hD : va_D A [(h0, .inr (9, [.ref b1, .ref b2, .ref b3, .ref b4, .int (nI n), .ref b5, .int (nI pn), .ref b6, .ref b7, .ref b8, .int (nI tn), .int xp, .int xr, .ref b9, .ref b10, .ref b11, .ref b12, .ref b13, .ref b14, .ref b15, .ref b16, .ref b17, .ref b18, .int ik, .ref b19, .ref b20, .ref b21, .ref b22, .ref b23, .ref b24, .ref b25])), (b16, .inl (Z.2 0, 8, .inl (upd f16 ((nI q).toNatClampNeg) (f16 (nI z).toNatClampNeg))))] := hD
    refine lv_aload_n hx hb dX9_nextOrder_87 rfl (lv_at hl 1 rfl) ?_
    refine va_get (D := Z.1) (ci := 9) (v := .ref b16) (C := RX9) (T := TX9) (N := 31) hx hb hts hin9 hown hK hP 0 rfl rfl 20 (by decide) (hts (.fieldLink RX9 55 "HalfAskedModel" "order" "[I") (List.mem_of_getElem? (i := 2) rfl)) (fun _ h9 => h9) rfl dX9_nextOrder_88 ?_
    refine lv_iload_n hx hb dX9_nextOrder_91 rfl (lv_at hl 3 rfl) ?_
    refine lv_iload_n hx hb dX9_nextOrder_92 rfl (lv_at hl 0 rfl) ?_
    refine va_iast hx hb hK hP hD hS 1 0 rfl rfl (vp_in_nI (by omega) (by decide)) dX9_nextOrder_93 (fun H locs hP hD hS => ?_)
    have hP : va_P Z.1 vwCl [(h0, .inr (9, [.ref b1, .ref b2, .ref b3, .ref b4, .int (nI n), .ref b5, .int (nI pn), .ref b6, .ref b7, .ref b8, .int (nI tn), .int xp, .int xr, .ref b9, .ref b10, .ref b11, .ref b12, .ref b13, .ref b14, .ref b15, .ref b16, .ref b17, .ref b18, .int ik, .ref b19, .ref b20, .ref b21, .ref b22, .ref b23, .ref b24, .ref b25])), (b16, .inl (Z.2 0, 8, .inl (upd (upd f16 ((nI q).toNatClampNeg) (f16 (nI z).toNatClampNeg)) ((nI z).toNatClampNeg) (f16 (nI q).toNatClampNeg))))] H := hP
    have hD : va_D A [(h0, .inr (9, [.ref b1, .ref b2, .ref b3, .ref b4, .int (nI n), .ref b5, .int (nI pn), .ref b6, .ref b7, .ref b8, .int (nI tn), .int xp, .int xr, .ref b9, .ref b10, .ref b11, .ref b12, .ref b13, .ref b14, .ref b15, .ref b16, .ref b17, .ref b18, .int ik, .ref b19, .ref b20, .ref b21, .ref b22, .ref b23, .ref b24, .ref b25])), (b16, .inl (Z.2 0, 8, .inl (upd (upd f16 ((nI q).toNatClampNeg) (f16 (nI z).toNatClampNeg)) ((nI z).toNatClampNeg) (f16 (nI q).toNatClampNeg))))] := hD
    have hO1 : zO pn (upd (upd f16 ((nI q).toNatClampNeg) (f16 (nI z).toNatClampNeg)) ((nI z).toNatClampNeg) (f16 (nI q).toNatClampNeg)) := zO_sw hpn (by omega) hz.2.1 hO
    have hL1 : ∀ i, i < q → (upd (upd f16 ((nI q).toNatClampNeg) (f16 (nI z).toNatClampNeg)) ((nI z).toNatClampNeg) (f16 (nI q).toNatClampNeg)) i = f16 i := fun i hi => z_sw_un (by omega) (by omega) (by omega) (by omega)
    have hV1 : (f16 q).toNatClampNeg < ((upd (upd f16 ((nI q).toNatClampNeg) (f16 (nI z).toNatClampNeg)) ((nI z).toNatClampNeg) (f16 (nI q).toNatClampNeg)) q).toNatClampNeg := by rw [z_sw_a (by omega) (by omega) (by omega)]; exact z_ltN (hO.1 q (by omega)) (hO.1 z (by omega)) hz.2.2.1 (fun e9 => absurd (hO.2.2 q z (by omega) hz.2.1 e9) (by omega))
    have hS1 : ∀ i, (upd (upd f16 ((nI q).toNatClampNeg) (f16 (nI z).toNatClampNeg)) ((nI z).toNatClampNeg) (f16 (nI q).toNatClampNeg)) i = (if i = z then f16 q else if i = q then f16 z else f16 i) := fun i => z_swv (by omega) (by omega) i
    generalize (upd (upd f16 ((nI q).toNatClampNeg) (f16 (nI z).toNatClampNeg)) ((nI z).toNatClampNeg) (f16 (nI q).toNatClampNeg) : Nat → Int32) = g0 at hP hD hO1 hL1 hV1 hS1
    refine lv_aload_n hx hb dX9_nextOrder_94 rfl (lv_at hl 1 rfl) ?_
    refine va_get (D := Z.1) (ci := 9) (v := .int (nI pn)) (C := RX9) (T := TX9) (N := 31) hx hb hts hin9 hown hK hP 0 rfl rfl 6 (by decide) (hts (.fieldLink RX9 139 "HalfAskedModel" "planMany" "I") (List.mem_of_getElem? (i := 1) rfl)) (fun _ h9 => h9) rfl dX9_nextOrder_95 ?_
    refine lv_iconst (v := 1) hx hb dX9_nextOrder_98 (by decide) ?_
    refine lv_isub hx hb dX9_nextOrder_99 ?_
    refine lv_topi (fun f_2 ef_2 => ?_)
    obtain rfl : nI (pn - 1) = f_2 := (ef_2.trans (pk_sub (a := pn) (b := 1) (by omega))).symm
    refine lv_istore (lv' := [(4, .int (nI (pn - 1))), (3, .int (f16 (nI q).toNatClampNeg)), (0, .ref h0), (1, .int (nI q)), (2, .int (nI z))]) hx hb dX9_nextOrder_100 hl (by decide) rfl (fun ls hl => ?_)
    refine lv_iload_n hx hb dX9_nextOrder_102 rfl (lv_at hl 3 rfl) ?_
    refine lv_iconst (v := 1) hx hb dX9_nextOrder_103 (by decide) ?_
    refine lv_iadd hx hb dX9_nextOrder_104 ?_
    refine lv_topi (fun f_3 ef_3 => ?_)
    obtain rfl : nI (q + 1) = f_3 := (ef_3.trans (nI_1 _)).symm
    refine lv_istore (lv' := [(5, .int (nI (q + 1))), (4, .int (nI (pn - 1))), (3, .int (f16 (nI q).toNatClampNeg)), (0, .ref h0), (1, .int (nI q)), (2, .int (nI z))]) hx hb dX9_nextOrder_105 hl (by decide) rfl (fun ls hl => ?_)
    refine lp_X9_nextOrder3 Z h0 b1 b2 b3 b4 b5 b6 b7 b8 b9 b10 b11 b12 b13 b14 b15 b16 b17 b18 b19 b20 b21 b22 b23 b24 b25 n pn tn xp xr ik q g0 hpn hx hb hml hts hown hK hA (fun a b f16' H locs ls hO2 hU2 hM2 hP hD hS hl => ?_) pn (q + 1) (pn - 1) g0 (by omega) (by omega) (by omega) (by omega) (hO1) (fun _ _ => rfl) (by omega) (by omega) (fun i => by rw [if_neg (by omega)]) H _ ls hP hD hS (lv_sub hl [3, 1, 0] rfl)
    refine lv_iconst (v := 1) hx hb dX9_nextOrder_153 (by decide) ?_
    have hP9 := hP.sub (ws' := [(h0, .inr (9, [.ref b1, .ref b2, .ref b3, .ref b4, .int (nI n), .ref b5, .int (nI pn), .ref b6, .ref b7, .ref b8, .int (nI tn), .int xp, .int xr, .ref b9, .ref b10, .ref b11, .ref b12, .ref b13, .ref b14, .ref b15, .ref b16, .ref b17, .ref b18, .int ik, .ref b19, .ref b20, .ref b21, .ref b22, .ref b23, .ref b24, .ref b25])), (b16, .inl (Z.2 0, 8, .inl f16'))]) [0, 1] rfl
    have hD9 := hD.sub (ws' := [(h0, .inr (9, [.ref b1, .ref b2, .ref b3, .ref b4, .int (nI n), .ref b5, .int (nI pn), .ref b6, .ref b7, .ref b8, .int (nI tn), .int xp, .int xr, .ref b9, .ref b10, .ref b11, .ref b12, .ref b13, .ref b14, .ref b15, .ref b16, .ref b17, .ref b18, .int ik, .ref b19, .ref b20, .ref b21, .ref b22, .ref b23, .ref b24, .ref b25])), (b16, .inl (Z.2 0, 8, .inl f16'))]) [0, 1] (by decide +kernel) rfl
    exact W.zret (v := 1) hx hb hr rfl (fun t9 ht hW => ⟨⟨1, f16', rfl, Or.inl ⟨rfl, ⟨hO2, q, z, hq2, hfq, hdq, hz.1, hz.2.1, hz.2.2.1, hz.2.2.2, fun i => by rw [hM2 i, hS1, hS1]⟩, zW_lex (q := q) (by omega) hO (fun i hi => by rw [hU2 i (by omega)]; exact hL1 i hi) (by rw [hU2 q (Nat.le_refl _)]; exact hV1)⟩, by rw [ht]; exact hP9, hD9⟩, hS.F ht⟩) hS.2.2 dX9_nextOrder_154
set_option maxHeartbeats 4000000 in
set_option maxRecDepth 100000 in
theorem lp_X9_goOrder {p : Program} {l : Launch} {e : Env} {s : State} {m : MethodId} {args : Array Value} {below : List Frame} {meth : Method} {c : Code} {Q : State → Prop} {A : Nat → Prop} (Z : gZ) (h0 : Nat) (b1 : Nat) (b2 : Nat) (b3 : Nat) (b4 : Nat) (b5 : Nat) (b6 : Nat) (b7 : Nat) (b8 : Nat) (b9 : Nat) (b10 : Nat) (b11 : Nat) (b12 : Nat) (b13 : Nat) (b14 : Nat) (b15 : Nat) (b16 : Nat) (b17 : Nat) (b18 : Nat) (b19 : Nat) (b20 : Nat) (b21 : Nat) (b22 : Nat) (b23 : Nat) (b24 : Nat) (b25 : Nat) (n : Nat) (pn : Nat) (tn : Nat) (xp : Int32) (xr : Int32) (ik : Int32) (f1 : Nat → Int32) (f2 : Nat → Int32) (f3 : Nat → Int32) (f4 : Nat → Int32) (f5 : Nat → Int32) (f16 : Nat → Int32) (hn : n ≤ 5) (hpn : pn ≤ 8) (hq : zQ pn f5) (hO : zO pn f16) (hx : p.tables.exec = Jvm.exec) (hb : c.code = cX9_goOrder) (hml : c.maxLocals = 2) (hts : ∀ w ∈ wsX9_goOrder, w.before args s = true) (hown : s.vm.findClass RX9 = some m.cls) (hK : va_K Z.1 vwCl (gT Z) s) (hA : ∀ q : Nat, s.heap.size ≤ q → A q) (kx_53 : ∀ (j : Nat) (f6 : Nat → Int32) (f7 : Nat → Int32) (H : Heap) (locs : List Loc) (ls : Array Slot), va_P Z.1 vwCl [(h0, .inr (9, [.ref b1, .ref b2, .ref b3, .ref b4, .int (nI n), .ref b5, .int (nI pn), .ref b6, .ref b7, .ref b8, .int (nI tn), .int xp, .int xr, .ref b9, .ref b10, .ref b11, .ref b12, .ref b13, .ref b14, .ref b15, .ref b16, .ref b17, .ref b18, .int ik, .ref b19, .ref b20, .ref b21, .ref b22, .ref b23, .ref b24, .ref b25])), (b1, .inl (Z.2 0, 5, .inl f1)), (b2, .inl (Z.2 0, 5, .inl f2)), (b3, .inl (Z.2 0, 5, .inl f3)), (b4, .inl (Z.2 0, 5, .inl f4)), (b5, .inl (Z.2 0, 24, .inl f5)), (b6, .inl (Z.2 0, 5, .inl f6)), (b7, .inl (Z.2 0, 5, .inl f7)), (b16, .inl (Z.2 0, 8, .inl f16))] H → va_D A [(h0, .inr (9, [.ref b1, .ref b2, .ref b3, .ref b4, .int (nI n), .ref b5, .int (nI pn), .ref b6, .ref b7, .ref b8, .int (nI tn), .int xp, .int xr, .ref b9, .ref b10, .ref b11, .ref b12, .ref b13, .ref b14, .ref b15, .ref b16, .ref b17, .ref b18, .int ik, .ref b19, .ref b20, .ref b21, .ref b22, .ref b23, .ref b24, .ref b25])), (b1, .inl (Z.2 0, 5, .inl f1)), (b2, .inl (Z.2 0, 5, .inl f2)), (b3, .inl (Z.2 0, 5, .inl f3)), (b4, .inl (Z.2 0, 5, .inl f4)), (b5, .inl (Z.2 0, 24, .inl f5)), (b6, .inl (Z.2 0, 5, .inl f6)), (b7, .inl (Z.2 0, 5, .inl f7)), (b16, .inl (Z.2 0, 8, .inl f16))] → va_S A s.heap H locs → lv_has ls 2 [(0, .ref h0), (1, .int (nI j))] → W p l e ({ frames := 6, cells := 0, slots := 0, locals := 200 } : Room) s m args below meth c H locs 0 0 Q (F0 m 53 ls [])) : ∀ (fu9 : Nat) (j : Nat) (f6 : Nat → Int32) (f7 : Nat → Int32), pn - j < fu9 → (j ≤ pn) → ∀ (H : Heap) (locs : List Loc) (ls : Array Slot), va_P Z.1 vwCl [(h0, .inr (9, [.ref b1, .ref b2, .ref b3, .ref b4, .int (nI n), .ref b5, .int (nI pn), .ref b6, .ref b7, .ref b8, .int (nI tn), .int xp, .int xr, .ref b9, .ref b10, .ref b11, .ref b12, .ref b13, .ref b14, .ref b15, .ref b16, .ref b17, .ref b18, .int ik, .ref b19, .ref b20, .ref b21, .ref b22, .ref b23, .ref b24, .ref b25])), (b1, .inl (Z.2 0, 5, .inl f1)), (b2, .inl (Z.2 0, 5, .inl f2)), (b3, .inl (Z.2 0, 5, .inl f3)), (b4, .inl (Z.2 0, 5, .inl f4)), (b5, .inl (Z.2 0, 24, .inl f5)), (b6, .inl (Z.2 0, 5, .inl f6)), (b7, .inl (Z.2 0, 5, .inl f7)), (b16, .inl (Z.2 0, 8, .inl f16))] H → va_D A [(h0, .inr (9, [.ref b1, .ref b2, .ref b3, .ref b4, .int (nI n), .ref b5, .int (nI pn), .ref b6, .ref b7, .ref b8, .int (nI tn), .int xp, .int xr, .ref b9, .ref b10, .ref b11, .ref b12, .ref b13, .ref b14, .ref b15, .ref b16, .ref b17, .ref b18, .int ik, .ref b19, .ref b20, .ref b21, .ref b22, .ref b23, .ref b24, .ref b25])), (b1, .inl (Z.2 0, 5, .inl f1)), (b2, .inl (Z.2 0, 5, .inl f2)), (b3, .inl (Z.2 0, 5, .inl f3)), (b4, .inl (Z.2 0, 5, .inl f4)), (b5, .inl (Z.2 0, 24, .inl f5)), (b6, .inl (Z.2 0, 5, .inl f6)), (b7, .inl (Z.2 0, 5, .inl f7)), (b16, .inl (Z.2 0, 8, .inl f16))] → va_S A s.heap H locs → lv_has ls 2 [(0, .ref h0), (1, .int (nI j))] → W p l e ({ frames := 6, cells := 0, slots := 0, locals := 200 } : Room) s m args below meth c H locs 0 0 Q (F0 m 6 ls []) := by
  have hin9 : ∀ w ∈ wsX90, w ∈ wsX9_goOrder := fun w h9 => (List.mem_cons_of_mem _ (List.mem_append_right _ h9))
  intro fu9
  induction fu9 with
  | zero => intro j f6 f7 hf9; exact absurd hf9 (Nat.not_lt_zero _)
  | succ fu9 ih =>
    intro j f6 f7 hf9 hj H locs ls hP hD hS hl
    refine lv_iload_n hx hb dX9_goOrder_6 rfl (lv_at hl 1 rfl) ?_
    refine lv_aload_n hx hb dX9_goOrder_7 rfl (lv_at hl 0 rfl) ?_
    refine va_get (D := Z.1) (ci := 9) (v := .int (nI pn)) (C := RX9) (T := TX9) (N := 31) hx hb hts hin9 hown hK hP 0 rfl rfl 6 (by decide) (hts (.fieldLink RX9 139 "HalfAskedModel" "planMany" "I") (List.mem_of_getElem? (i := 1) rfl)) (fun _ h9 => h9) rfl dX9_goOrder_8 ?_
    refine lv_icmp_ge (tgt := 53) hx hb dX9_goOrder_11 (by decide) (fun c_1 => ?_) (fun c_1 => ?_)
    · exact kx_53 j f6 f7 H locs ls  hP hD hS (lv_sub hl [0, 1] rfl)
    · have hlt : j < pn := z_clt (by omega) hj c_1
      obtain ⟨w0, hw0, ew⟩ := vp_in_of (hO.2.1 j hlt) (by omega)
      refine lv_aload_n hx hb dX9_goOrder_14 rfl (lv_at hl 0 rfl) ?_
      refine lv_aload_n hx hb dX9_goOrder_15 rfl (lv_at hl 0 rfl) ?_
      refine va_get (D := Z.1) (ci := 9) (v := .ref b5) (C := RX9) (T := TX9) (N := 31) hx hb hts hin9 hown hK hP 0 rfl rfl 5 (by decide) (hts (.fieldLink RX9 22 "HalfAskedModel" "plan" "[I") (List.mem_of_getElem? (i := 2) rfl)) (fun _ h9 => h9) rfl dX9_goOrder_16 ?_
      refine lv_iconst (v := 3) hx hb dX9_goOrder_19 (by decide) ?_
      refine lv_aload_n hx hb dX9_goOrder_20 rfl (lv_at hl 0 rfl) ?_
      refine va_get (D := Z.1) (ci := 9) (v := .ref b16) (C := RX9) (T := TX9) (N := 31) hx hb hts hin9 hown hK hP 0 rfl rfl 20 (by decide) (hts (.fieldLink RX9 55 "HalfAskedModel" "order" "[I") (List.mem_of_getElem? (i := 3) rfl)) (fun _ h9 => h9) rfl dX9_goOrder_21 ?_
      refine lv_iload_n hx hb dX9_goOrder_24 rfl (lv_at hl 1 rfl) ?_
      refine va_iald hx hb hK hP 8 0 rfl rfl (vp_in_nI (by omega) (by decide)) dX9_goOrder_25 ?_
      refine lv_topi (fun f_2 ef_2 => ?_)
      obtain rfl : nI w0 = f_2 := (ef_2.trans (by rw [nI_clamp (by omega)]; exact ew)).symm
      refine lv_imul hx hb dX9_goOrder_26 ?_
      refine lv_topi (fun f_3 ef_3 => ?_)
      obtain rfl : nI (3 * w0) = f_3 := (ef_3.trans (pk_mul 3 w0)).symm
      refine va_iald hx hb hK hP 5 0 rfl rfl (vp_in_nI (by omega) (by decide)) dX9_goOrder_27 ?_
      refine lv_aload_n hx hb dX9_goOrder_28 rfl (lv_at hl 0 rfl) ?_
      refine va_get (D := Z.1) (ci := 9) (v := .ref b5) (C := RX9) (T := TX9) (N := 31) hx hb hts hin9 hown hK hP 0 rfl rfl 5 (by decide) (hts (.fieldLink RX9 22 "HalfAskedModel" "plan" "[I") (List.mem_of_getElem? (i := 2) rfl)) (fun _ h9 => h9) rfl dX9_goOrder_29 ?_
      refine lv_iconst (v := 3) hx hb dX9_goOrder_32 (by decide) ?_
      refine lv_aload_n hx hb dX9_goOrder_33 rfl (lv_at hl 0 rfl) ?_
      refine va_get (D := Z.1) (ci := 9) (v := .ref b16) (C := RX9) (T := TX9) (N := 31) hx hb hts hin9 hown hK hP 0 rfl rfl 20 (by decide) (hts (.fieldLink RX9 55 "HalfAskedModel" "order" "[I") (List.mem_of_getElem? (i := 3) rfl)) (fun _ h9 => h9) rfl dX9_goOrder_34 ?_
      refine lv_iload_n hx hb dX9_goOrder_37 rfl (lv_at hl 1 rfl) ?_
      refine va_iald hx hb hK hP 8 0 rfl rfl (vp_in_nI (by omega) (by decide)) dX9_goOrder_38 ?_
      refine lv_topi (fun f_4 ef_4 => ?_)
      obtain rfl : nI w0 = f_4 := (ef_4.trans (by rw [nI_clamp (by omega)]; exact ew)).symm
      refine lv_imul hx hb dX9_goOrder_39 ?_
      refine lv_topi (fun f_5 ef_5 => ?_)
      obtain rfl : nI (3 * w0) = f_5 := (ef_5.trans (pk_mul 3 w0)).symm
      refine lv_iconst (v := 1) hx hb dX9_goOrder_40 (by decide) ?_
      refine lv_iadd hx hb dX9_goOrder_41 ?_
      refine lv_topi (fun f_6 ef_6 => ?_)
      obtain rfl : nI ((3 * w0) + 1) = f_6 := (ef_6.trans (nI_1 _)).symm
      refine va_iald hx hb hK hP 5 0 rfl rfl (vp_in_nI (by omega) (by decide)) dX9_goOrder_42 ?_
      have hPc := hP.sub (ws' := [(h0, .inr (9, [.ref b1, .ref b2, .ref b3, .ref b4, .int (nI n), .ref b5, .int (nI pn), .ref b6, .ref b7, .ref b8, .int (nI tn), .int xp, .int xr, .ref b9, .ref b10, .ref b11, .ref b12, .ref b13, .ref b14, .ref b15, .ref b16, .ref b17, .ref b18, .int ik, .ref b19, .ref b20, .ref b21, .ref b22, .ref b23, .ref b24, .ref b25])), (b1, .inl (Z.2 0, 5, .inl f1)), (b3, .inl (Z.2 0, 5, .inl f3)), (b6, .inl (Z.2 0, 5, .inl f6)), (b7, .inl (Z.2 0, 5, .inl f7))]) [0, 1, 3, 6, 7] rfl
      have hDc := hD.sub (ws' := [(h0, .inr (9, [.ref b1, .ref b2, .ref b3, .ref b4, .int (nI n), .ref b5, .int (nI pn), .ref b6, .ref b7, .ref b8, .int (nI tn), .int xp, .int xr, .ref b9, .ref b10, .ref b11, .ref b12, .ref b13, .ref b14, .ref b15, .ref b16, .ref b17, .ref b18, .int ik, .ref b19, .ref b20, .ref b21, .ref b22, .ref b23, .ref b24, .ref b25])), (b1, .inl (Z.2 0, 5, .inl f1)), (b3, .inl (Z.2 0, 5, .inl f3)), (b6, .inl (Z.2 0, 5, .inl f6)), (b7, .inl (Z.2 0, 5, .inl f7))]) [0, 1, 3, 6, 7] (by decide +kernel) rfl
      have hFc := va_free (wc := [(h0, .inr (9, [.ref b1, .ref b2, .ref b3, .ref b4, .int (nI n), .ref b5, .int (nI pn), .ref b6, .ref b7, .ref b8, .int (nI tn), .int xp, .int xr, .ref b9, .ref b10, .ref b11, .ref b12, .ref b13, .ref b14, .ref b15, .ref b16, .ref b17, .ref b18, .int ik, .ref b19, .ref b20, .ref b21, .ref b22, .ref b23, .ref b24, .ref b25])), (b1, .inl (Z.2 0, 5, .inl f1)), (b3, .inl (Z.2 0, 5, .inl f3)), (b6, .inl (Z.2 0, 5, .inl f6)), (b7, .inl (Z.2 0, 5, .inl f7))]) hD hS hA [0, 1, 3, 6, 7] rfl
      refine va_calli (va_runV (As := [.int (f5 (nI (3 * w0)).toNatClampNeg), .int (f5 (nI ((3 * w0) + 1)).toNatClampNeg)]) (rest := []) ⟨hx, hb, hml, hown, hts⟩ (c_X9_tryAsk l Z H.size h0 b1 b2 b3 b4 b5 b6 b7 b8 b9 b10 b11 b12 b13 b14 b15 b16 b17 b18 b19 b20 b21 b22 b23 b24 b25 n pn tn xp xr ik f1 f3 f6 f7 (f5 (nI (3 * w0)).toNatClampNeg) (f5 (nI ((3 * w0) + 1)).toNatClampNeg) (by rw [nI_clamp (by omega)]; exact (hq w0 hw0).1) (by rw [nI_clamp (by omega)]; exact (hq w0 hw0).2)) (cwV 2 hts gX9_goOrder_X9_tryAsk rfl rfl rfl (by decide +kernel) ⟨Nat.le_of_ble_eq_true rfl, Nat.le_of_ble_eq_true rfl⟩) ⟨fun a U g mk q => by obtain ⟨q0, q1, qP, qK, qD⟩ := q; exact ⟨q0, q1, qP, va_K.moved (u := U) (U := U.calling g mk a) (Vm.Alike.refl U.vm) qK, qD⟩, va_recv hK hPc (ci := 9) (q0 := 0) rfl rfl, fun U hU hW => ⟨rfl, by rw [hU], by rw [hU]; exact hPc, va_K.moved hW.alike hK, hDc.weaken (fun _ _ _ _ => trivial)⟩⟩ rfl rfl hl.1 rfl (lv_room (Nat.le_of_ble_eq_true rfl)) dX9_goOrder_43 ⟨Nat.le_of_ble_eq_true rfl, Nat.le_of_ble_eq_true rfl⟩) hS (fun q _ h => hFc q h) hFc (fun r_7 u t9 H1 locs ht hvm hw hB hz1 hk1 hS => ?_)
      obtain ⟨g6_8, g7_9⟩ := u
      try dsimp only at hw hB
      obtain ⟨hw, hx_10, hx_11⟩ := hw
      subst hx_10
      subst hx_11
      have hw9 := hw.symm
      clear hw
      subst hw9
      obtain ⟨hP1, hD1⟩ := hB
      rw [ht] at hP1
      obtain ⟨hP, hD⟩ := va_join (wr := [(b2, .inl (Z.2 0, 5, .inl f2)), (b4, .inl (Z.2 0, 5, .inl f4)), (b5, .inl (Z.2 0, 24, .inl f5)), (b16, .inl (Z.2 0, 8, .inl f16))]) (w1 := [(h0, .inr (9, [.ref b1, .ref b2, .ref b3, .ref b4, .int (nI n), .ref b5, .int (nI pn), .ref b6, .ref b7, .ref b8, .int (nI tn), .int xp, .int xr, .ref b9, .ref b10, .ref b11, .ref b12, .ref b13, .ref b14, .ref b15, .ref b16, .ref b17, .ref b18, .int ik, .ref b19, .ref b20, .ref b21, .ref b22, .ref b23, .ref b24, .ref b25])), (b1, .inl (Z.2 0, 5, .inl f1)), (b3, .inl (Z.2 0, 5, .inl f3)), (b6, .inl (Z.2 0, 5, .inl (q_X9_tryAsk_g6 f1 f3 f6 f7 (f5 (nI (3 * w0)).toNatClampNeg) (f5 (nI ((3 * w0) + 1)).toNatClampNeg)))), (b7, .inl (Z.2 0, 5, .inl (q_X9_tryAsk_g7 f3 f6 f7 (f5 (nI (3 * w0)).toNatClampNeg) (f5 (nI ((3 * w0) + 1)).toNatClampNeg))))]) hP hD [0, 1, 3, 6, 7] [2, 4, 5, 8] rfl rfl (by decide +kernel) (by decide +kernel) hk1 hFc hP1 hD1
      clear hPc hDc hP1 hD1 hk1 hz1 hFc ht hvm
      generalize H1 = H at hP hS ⊢
      have hP : va_P Z.1 vwCl [(b2, .inl (Z.2 0, 5, .inl f2)), (b4, .inl (Z.2 0, 5, .inl f4)), (b5, .inl (Z.2 0, 24, .inl f5)), (b16, .inl (Z.2 0, 8, .inl f16)), (h0, .inr (9, [.ref b1, .ref b2, .ref b3, .ref b4, .int (nI n), .ref b5, .int (nI pn), .ref b6, .ref b7, .ref b8, .int (nI tn), .int xp, .int xr, .ref b9, .ref b10, .ref b11, .ref b12, .ref b13, .ref b14, .ref b15, .ref b16, .ref b17, .ref b18, .int ik, .ref b19, .ref b20, .ref b21, .ref b22, .ref b23, .ref b24, .ref b25])), (b1, .inl (Z.2 0, 5, .inl f1)), (b3, .inl (Z.2 0, 5, .inl f3)), (b6, .inl (Z.2 0, 5, .inl (q_X9_tryAsk_g6 f1 f3 f6 f7 (f5 (nI (3 * w0)).toNatClampNeg) (f5 (nI ((3 * w0) + 1)).toNatClampNeg)))), (b7, .inl (Z.2 0, 5, .inl (q_X9_tryAsk_g7 f3 f6 f7 (f5 (nI (3 * w0)).toNatClampNeg) (f5 (nI ((3 * w0) + 1)).toNatClampNeg))))] H := hP
      have hD : va_D A [(b2, .inl (Z.2 0, 5, .inl f2)), (b4, .inl (Z.2 0, 5, .inl f4)), (b5, .inl (Z.2 0, 24, .inl f5)), (b16, .inl (Z.2 0, 8, .inl f16)), (h0, .inr (9, [.ref b1, .ref b2, .ref b3, .ref b4, .int (nI n), .ref b5, .int (nI pn), .ref b6, .ref b7, .ref b8, .int (nI tn), .int xp, .int xr, .ref b9, .ref b10, .ref b11, .ref b12, .ref b13, .ref b14, .ref b15, .ref b16, .ref b17, .ref b18, .int ik, .ref b19, .ref b20, .ref b21, .ref b22, .ref b23, .ref b24, .ref b25])), (b1, .inl (Z.2 0, 5, .inl f1)), (b3, .inl (Z.2 0, 5, .inl f3)), (b6, .inl (Z.2 0, 5, .inl (q_X9_tryAsk_g6 f1 f3 f6 f7 (f5 (nI (3 * w0)).toNatClampNeg) (f5 (nI ((3 * w0) + 1)).toNatClampNeg)))), (b7, .inl (Z.2 0, 5, .inl (q_X9_tryAsk_g7 f3 f6 f7 (f5 (nI (3 * w0)).toNatClampNeg) (f5 (nI ((3 * w0) + 1)).toNatClampNeg))))] := hD
      refine lv_pop hx hb dX9_goOrder_46 rfl ?_
      refine lv_iinc (v := nI (j + 1)) (lv' := [(1, .int (nI (j + 1))), (0, .ref h0)]) hx hb dX9_goOrder_47 hl (k := 1) rfl (nI_1 _) (by decide) rfl (fun ls hl => ?_)
      refine lv_goto (tgt := 6) hx hb dX9_goOrder_50 (by decide) ?_
      exact ih (j + 1) (q_X9_tryAsk_g6 f1 f3 f6 f7 (f5 (nI (3 * w0)).toNatClampNeg) (f5 (nI ((3 * w0) + 1)).toNatClampNeg)) (q_X9_tryAsk_g7 f3 f6 f7 (f5 (nI (3 * w0)).toNatClampNeg) (f5 (nI ((3 * w0) + 1)).toNatClampNeg)) (by omega) (hlt) H locs ls (hP.sub [4, 5, 0, 6, 1, 2, 7, 8, 3] rfl) (hD.sub [4, 5, 0, 6, 1, 2, 7, 8, 3] (by decide +kernel) rfl) hS (lv_sub hl [1, 0] rfl)
set_option maxHeartbeats 4000000 in
set_option maxRecDepth 100000 in
theorem c_X9_goOrder (l : Launch) (Z : gZ) (sz : Nat) (h0 : Nat) (b1 : Nat) (b2 : Nat) (b3 : Nat) (b4 : Nat) (b5 : Nat) (b6 : Nat) (b7 : Nat) (b8 : Nat) (b9 : Nat) (b10 : Nat) (b11 : Nat) (b12 : Nat) (b13 : Nat) (b14 : Nat) (b15 : Nat) (b16 : Nat) (b17 : Nat) (b18 : Nat) (b19 : Nat) (b20 : Nat) (b21 : Nat) (b22 : Nat) (b23 : Nat) (b24 : Nat) (b25 : Nat) (n : Nat) (pn : Nat) (tn : Nat) (xp : Int32) (xr : Int32) (ik : Int32) (f1 : Nat → Int32) (f2 : Nat → Int32) (f3 : Nat → Int32) (f4 : Nat → Int32) (f5 : Nat → Int32) (f6 : Nat → Int32) (f7 : Nat → Int32) (f16 : Nat → Int32) (hn : n ≤ 5) (hpn : pn ≤ 8) (hq : zQ pn f5) (hO : zO pn f16) : Met l yX9_goOrder wsX9_goOrder ({ frames := 6, cells := 0, slots := 0, locals := 200 }) (va_Pc [.ref h0] (fun U => U.heap.size = sz ∧ va_P Z.1 vwCl [(h0, .inr (9, [.ref b1, .ref b2, .ref b3, .ref b4, .int (nI n), .ref b5, .int (nI pn), .ref b6, .ref b7, .ref b8, .int (nI tn), .int xp, .int xr, .ref b9, .ref b10, .ref b11, .ref b12, .ref b13, .ref b14, .ref b15, .ref b16, .ref b17, .ref b18, .int ik, .ref b19, .ref b20, .ref b21, .ref b22, .ref b23, .ref b24, .ref b25])), (b1, .inl (Z.2 0, 5, .inl f1)), (b2, .inl (Z.2 0, 5, .inl f2)), (b3, .inl (Z.2 0, 5, .inl f3)), (b4, .inl (Z.2 0, 5, .inl f4)), (b5, .inl (Z.2 0, 24, .inl f5)), (b6, .inl (Z.2 0, 5, .inl f6)), (b7, .inl (Z.2 0, 5, .inl f7)), (b16, .inl (Z.2 0, 8, .inl f16))] U.heap ∧ va_K Z.1 vwCl (gT Z) U ∧ va_D (fun _ => True) [(h0, .inr (9, [.ref b1, .ref b2, .ref b3, .ref b4, .int (nI n), .ref b5, .int (nI pn), .ref b6, .ref b7, .ref b8, .int (nI tn), .int xp, .int xr, .ref b9, .ref b10, .ref b11, .ref b12, .ref b13, .ref b14, .ref b15, .ref b16, .ref b17, .ref b18, .int ik, .ref b19, .ref b20, .ref b21, .ref b22, .ref b23, .ref b24, .ref b25])), (b1, .inl (Z.2 0, 5, .inl f1)), (b2, .inl (Z.2 0, 5, .inl f2)), (b3, .inl (Z.2 0, 5, .inl f3)), (b4, .inl (Z.2 0, 5, .inl f4)), (b5, .inl (Z.2 0, 24, .inl f5)), (b6, .inl (Z.2 0, 5, .inl f6)), (b7, .inl (Z.2 0, 5, .inl f7)), (b16, .inl (Z.2 0, 8, .inl f16))])) (va_Qv (fun (u : (Nat → Int32) × (Nat → Int32)) => match u with | (g6, g7) => True) (fun (u : (Nat → Int32) × (Nat → Int32)) (t9 : State) => match u with | (g6, g7) => va_P Z.1 vwCl [(h0, .inr (9, [.ref b1, .ref b2, .ref b3, .ref b4, .int (nI n), .ref b5, .int (nI pn), .ref b6, .ref b7, .ref b8, .int (nI tn), .int xp, .int xr, .ref b9, .ref b10, .ref b11, .ref b12, .ref b13, .ref b14, .ref b15, .ref b16, .ref b17, .ref b18, .int ik, .ref b19, .ref b20, .ref b21, .ref b22, .ref b23, .ref b24, .ref b25])), (b1, .inl (Z.2 0, 5, .inl f1)), (b2, .inl (Z.2 0, 5, .inl f2)), (b3, .inl (Z.2 0, 5, .inl f3)), (b4, .inl (Z.2 0, 5, .inl f4)), (b5, .inl (Z.2 0, 24, .inl f5)), (b6, .inl (Z.2 0, 5, .inl g6)), (b7, .inl (Z.2 0, 5, .inl g7)), (b16, .inl (Z.2 0, 8, .inl f16))] t9.heap ∧ va_D (va_A [(h0, .inr (9, [.ref b1, .ref b2, .ref b3, .ref b4, .int (nI n), .ref b5, .int (nI pn), .ref b6, .ref b7, .ref b8, .int (nI tn), .int xp, .int xr, .ref b9, .ref b10, .ref b11, .ref b12, .ref b13, .ref b14, .ref b15, .ref b16, .ref b17, .ref b18, .int ik, .ref b19, .ref b20, .ref b21, .ref b22, .ref b23, .ref b24, .ref b25])), (b1, .inl (Z.2 0, 5, .inl f1)), (b2, .inl (Z.2 0, 5, .inl f2)), (b3, .inl (Z.2 0, 5, .inl f3)), (b4, .inl (Z.2 0, 5, .inl f4)), (b5, .inl (Z.2 0, 24, .inl f5)), (b6, .inl (Z.2 0, 5, .inl f6)), (b7, .inl (Z.2 0, 5, .inl f7)), (b16, .inl (Z.2 0, 8, .inl f16))] sz) [(h0, .inr (9, [.ref b1, .ref b2, .ref b3, .ref b4, .int (nI n), .ref b5, .int (nI pn), .ref b6, .ref b7, .ref b8, .int (nI tn), .int xp, .int xr, .ref b9, .ref b10, .ref b11, .ref b12, .ref b13, .ref b14, .ref b15, .ref b16, .ref b17, .ref b18, .int ik, .ref b19, .ref b20, .ref b21, .ref b22, .ref b23, .ref b24, .ref b25])), (b1, .inl (Z.2 0, 5, .inl f1)), (b2, .inl (Z.2 0, 5, .inl f2)), (b3, .inl (Z.2 0, 5, .inl f3)), (b4, .inl (Z.2 0, 5, .inl f4)), (b5, .inl (Z.2 0, 24, .inl f5)), (b6, .inl (Z.2 0, 5, .inl g6)), (b7, .inl (Z.2 0, 5, .inl g7)), (b16, .inl (Z.2 0, 8, .inl f16))]) (va_A [(h0, .inr (9, [.ref b1, .ref b2, .ref b3, .ref b4, .int (nI n), .ref b5, .int (nI pn), .ref b6, .ref b7, .ref b8, .int (nI tn), .int xp, .int xr, .ref b9, .ref b10, .ref b11, .ref b12, .ref b13, .ref b14, .ref b15, .ref b16, .ref b17, .ref b18, .int ik, .ref b19, .ref b20, .ref b21, .ref b22, .ref b23, .ref b24, .ref b25])), (b1, .inl (Z.2 0, 5, .inl f1)), (b2, .inl (Z.2 0, 5, .inl f2)), (b3, .inl (Z.2 0, 5, .inl f3)), (b4, .inl (Z.2 0, 5, .inl f4)), (b5, .inl (Z.2 0, 24, .inl f5)), (b6, .inl (Z.2 0, 5, .inl f6)), (b7, .inl (Z.2 0, 5, .inl f7)), (b16, .inl (Z.2 0, 8, .inl f16))] sz)) 0 0 (va_A [(h0, .inr (9, [.ref b1, .ref b2, .ref b3, .ref b4, .int (nI n), .ref b5, .int (nI pn), .ref b6, .ref b7, .ref b8, .int (nI tn), .int xp, .int xr, .ref b9, .ref b10, .ref b11, .ref b12, .ref b13, .ref b14, .ref b15, .ref b16, .ref b17, .ref b18, .int ik, .ref b19, .ref b20, .ref b21, .ref b22, .ref b23, .ref b24, .ref b25])), (b1, .inl (Z.2 0, 5, .inl f1)), (b2, .inl (Z.2 0, 5, .inl f2)), (b3, .inl (Z.2 0, 5, .inl f3)), (b4, .inl (Z.2 0, 5, .inl f4)), (b5, .inl (Z.2 0, 24, .inl f5)), (b6, .inl (Z.2 0, 5, .inl f6)), (b7, .inl (Z.2 0, 5, .inl f7)), (b16, .inl (Z.2 0, 8, .inl f16))] sz) := by
  refine Met.ofW (cc := cX9_goOrder) (maxL := 2) (ret := none) (by decide) rfl ?_
  intro p e s m args below meth c s₁ B hml hv
  obtain ⟨rfl, hsz, hP, hK, hD0⟩ := hv
  have hx := B.exec
  have hb := B.bytes
  have hr := B.returns
  have hts := atoms_spec (ws := wsX9_goOrder) B.pre
  have hown : s.vm.findClass RX9 = some m.cls := findClass_of_methodNamed B.named
  have hlocks := B.notSynchronized
  subst hsz
  have hD := hD0.self (sz := s.heap.size)
  generalize hAe : va_A [(h0, .inr (9, [.ref b1, .ref b2, .ref b3, .ref b4, .int (nI n), .ref b5, .int (nI pn), .ref b6, .ref b7, .ref b8, .int (nI tn), .int xp, .int xr, .ref b9, .ref b10, .ref b11, .ref b12, .ref b13, .ref b14, .ref b15, .ref b16, .ref b17, .ref b18, .int ik, .ref b19, .ref b20, .ref b21, .ref b22, .ref b23, .ref b24, .ref b25])), (b1, .inl (Z.2 0, 5, .inl f1)), (b2, .inl (Z.2 0, 5, .inl f2)), (b3, .inl (Z.2 0, 5, .inl f3)), (b4, .inl (Z.2 0, 5, .inl f4)), (b5, .inl (Z.2 0, 24, .inl f5)), (b6, .inl (Z.2 0, 5, .inl f6)), (b7, .inl (Z.2 0, 5, .inl f7)), (b16, .inl (Z.2 0, 8, .inl f16))] s.heap.size = A at hD ⊢
  have hA : ∀ q : Nat, s.heap.size ≤ q → A q := fun q h => by rw [← hAe]; exact Or.inr h
  have hS : va_S A s.heap s.heap [] := va_S.rf
  have hP : va_P Z.1 vwCl [(h0, .inr (9, [.ref b1, .ref b2, .ref b3, .ref b4, .int (nI n), .ref b5, .int (nI pn), .ref b6, .ref b7, .ref b8, .int (nI tn), .int xp, .int xr, .ref b9, .ref b10, .ref b11, .ref b12, .ref b13, .ref b14, .ref b15, .ref b16, .ref b17, .ref b18, .int ik, .ref b19, .ref b20, .ref b21, .ref b22, .ref b23, .ref b24, .ref b25])), (b1, .inl (Z.2 0, 5, .inl f1)), (b2, .inl (Z.2 0, 5, .inl f2)), (b3, .inl (Z.2 0, 5, .inl f3)), (b4, .inl (Z.2 0, 5, .inl f4)), (b5, .inl (Z.2 0, 24, .inl f5)), (b6, .inl (Z.2 0, 5, .inl f6)), (b7, .inl (Z.2 0, 5, .inl f7)), (b16, .inl (Z.2 0, 8, .inl f16))] s.heap := hP
  have hl := lv_entry ([.ref h0]) (n := 2) (Nat.le_of_ble_eq_true rfl)
  rw [lg_entry_eq]
  generalize (lg_sl ([.ref h0]) ++ List.replicate (2 - (lg_sl ([.ref h0])).length) Slot.unset).toArray = ls at hl ⊢
  have hl : lv_has ls 2 [(0, .ref h0)] := hl
  refine lv_aload_n hx hb dX9_goOrder_0 rfl (lv_at hl 0 rfl) ?_
  have hPc := hP.sub (ws' := [(h0, .inr (9, [.ref b1, .ref b2, .ref b3, .ref b4, .int (nI n), .ref b5, .int (nI pn), .ref b6, .ref b7, .ref b8, .int (nI tn), .int xp, .int xr, .ref b9, .ref b10, .ref b11, .ref b12, .ref b13, .ref b14, .ref b15, .ref b16, .ref b17, .ref b18, .int ik, .ref b19, .ref b20, .ref b21, .ref b22, .ref b23, .ref b24, .ref b25])), (b2, .inl (Z.2 0, 5, .inl f2)), (b4, .inl (Z.2 0, 5, .inl f4)), (b6, .inl (Z.2 0, 5, .inl f6)), (b7, .inl (Z.2 0, 5, .inl f7))]) [0, 2, 4, 6, 7] rfl
  have hDc := hD.sub (ws' := [(h0, .inr (9, [.ref b1, .ref b2, .ref b3, .ref b4, .int (nI n), .ref b5, .int (nI pn), .ref b6, .ref b7, .ref b8, .int (nI tn), .int xp, .int xr, .ref b9, .ref b10, .ref b11, .ref b12, .ref b13, .ref b14, .ref b15, .ref b16, .ref b17, .ref b18, .int ik, .ref b19, .ref b20, .ref b21, .ref b22, .ref b23, .ref b24, .ref b25])), (b2, .inl (Z.2 0, 5, .inl f2)), (b4, .inl (Z.2 0, 5, .inl f4)), (b6, .inl (Z.2 0, 5, .inl f6)), (b7, .inl (Z.2 0, 5, .inl f7))]) [0, 2, 4, 6, 7] (by decide +kernel) rfl
  have hFc := va_free (wc := [(h0, .inr (9, [.ref b1, .ref b2, .ref b3, .ref b4, .int (nI n), .ref b5, .int (nI pn), .ref b6, .ref b7, .ref b8, .int (nI tn), .int xp, .int xr, .ref b9, .ref b10, .ref b11, .ref b12, .ref b13, .ref b14, .ref b15, .ref b16, .ref b17, .ref b18, .int ik, .ref b19, .ref b20, .ref b21, .ref b22, .ref b23, .ref b24, .ref b25])), (b2, .inl (Z.2 0, 5, .inl f2)), (b4, .inl (Z.2 0, 5, .inl f4)), (b6, .inl (Z.2 0, 5, .inl f6)), (b7, .inl (Z.2 0, 5, .inl f7))]) hD hS hA [0, 2, 4, 6, 7] rfl
  refine va_callv (va_runV (As := []) (rest := []) ⟨hx, hb, hml, hown, hts⟩ (c_X9_begin l Z s.heap.size h0 b1 b2 b3 b4 b5 b6 b7 b8 b9 b10 b11 b12 b13 b14 b15 b16 b17 b18 b19 b20 b21 b22 b23 b24 b25 n pn tn xp xr ik f2 f4 f6 f7) (cwV 0 hts gX9_goOrder_X9_begin rfl rfl rfl (by decide +kernel) ⟨Nat.le_of_ble_eq_true rfl, Nat.le_of_ble_eq_true rfl⟩) ⟨fun a U g mk q => by obtain ⟨q0, q1, qP, qK, qD⟩ := q; exact ⟨q0, q1, qP, va_K.moved (u := U) (U := U.calling g mk a) (Vm.Alike.refl U.vm) qK, qD⟩, va_recv hK hPc (ci := 9) (q0 := 0) rfl rfl, fun U hU hW => ⟨rfl, by rw [hU], by rw [hU]; exact hPc, va_K.moved hW.alike hK, hDc.weaken (fun _ _ _ _ => trivial)⟩⟩ rfl rfl hl.1 rfl (lv_room (Nat.le_of_ble_eq_true rfl)) dX9_goOrder_1 ⟨Nat.le_of_ble_eq_true rfl, Nat.le_of_ble_eq_true rfl⟩) hS (fun q _ h => hFc q h) hFc (fun u t9 H1 locs ht hvm hw hB hz1 hk1 hS => ?_)
  obtain ⟨g6_2, g7_3⟩ := u
  try dsimp only at hw hB
  obtain ⟨hx_4, hx_5⟩ := hw
  subst hx_4
  subst hx_5
  obtain ⟨hP1, hD1⟩ := hB
  rw [ht] at hP1
  obtain ⟨hP, hD⟩ := va_join (wr := [(b1, .inl (Z.2 0, 5, .inl f1)), (b3, .inl (Z.2 0, 5, .inl f3)), (b5, .inl (Z.2 0, 24, .inl f5)), (b16, .inl (Z.2 0, 8, .inl f16))]) (w1 := [(h0, .inr (9, [.ref b1, .ref b2, .ref b3, .ref b4, .int (nI n), .ref b5, .int (nI pn), .ref b6, .ref b7, .ref b8, .int (nI tn), .int xp, .int xr, .ref b9, .ref b10, .ref b11, .ref b12, .ref b13, .ref b14, .ref b15, .ref b16, .ref b17, .ref b18, .int ik, .ref b19, .ref b20, .ref b21, .ref b22, .ref b23, .ref b24, .ref b25])), (b2, .inl (Z.2 0, 5, .inl f2)), (b4, .inl (Z.2 0, 5, .inl f4)), (b6, .inl (Z.2 0, 5, .inl (q_X9_begin_g6 f2))), (b7, .inl (Z.2 0, 5, .inl (q_X9_begin_g7 f4)))]) hP hD [0, 2, 4, 6, 7] [1, 3, 5, 8] rfl rfl (by decide +kernel) (by decide +kernel) hk1 hFc hP1 hD1
  clear hPc hDc hP1 hD1 hk1 hz1 hFc ht hvm
  generalize H1 = H at hP hS ⊢
  have hP : va_P Z.1 vwCl [(b1, .inl (Z.2 0, 5, .inl f1)), (b3, .inl (Z.2 0, 5, .inl f3)), (b5, .inl (Z.2 0, 24, .inl f5)), (b16, .inl (Z.2 0, 8, .inl f16)), (h0, .inr (9, [.ref b1, .ref b2, .ref b3, .ref b4, .int (nI n), .ref b5, .int (nI pn), .ref b6, .ref b7, .ref b8, .int (nI tn), .int xp, .int xr, .ref b9, .ref b10, .ref b11, .ref b12, .ref b13, .ref b14, .ref b15, .ref b16, .ref b17, .ref b18, .int ik, .ref b19, .ref b20, .ref b21, .ref b22, .ref b23, .ref b24, .ref b25])), (b2, .inl (Z.2 0, 5, .inl f2)), (b4, .inl (Z.2 0, 5, .inl f4)), (b6, .inl (Z.2 0, 5, .inl (q_X9_begin_g6 f2))), (b7, .inl (Z.2 0, 5, .inl (q_X9_begin_g7 f4)))] H := hP
  have hD : va_D A [(b1, .inl (Z.2 0, 5, .inl f1)), (b3, .inl (Z.2 0, 5, .inl f3)), (b5, .inl (Z.2 0, 24, .inl f5)), (b16, .inl (Z.2 0, 8, .inl f16)), (h0, .inr (9, [.ref b1, .ref b2, .ref b3, .ref b4, .int (nI n), .ref b5, .int (nI pn), .ref b6, .ref b7, .ref b8, .int (nI tn), .int xp, .int xr, .ref b9, .ref b10, .ref b11, .ref b12, .ref b13, .ref b14, .ref b15, .ref b16, .ref b17, .ref b18, .int ik, .ref b19, .ref b20, .ref b21, .ref b22, .ref b23, .ref b24, .ref b25])), (b2, .inl (Z.2 0, 5, .inl f2)), (b4, .inl (Z.2 0, 5, .inl f4)), (b6, .inl (Z.2 0, 5, .inl (q_X9_begin_g6 f2))), (b7, .inl (Z.2 0, 5, .inl (q_X9_begin_g7 f4)))] := hD
  refine lv_iconst (v := 0) hx hb dX9_goOrder_4 (by decide) ?_
  refine lv_istore_n (lv' := [(1, .int 0), (0, .ref h0)]) hx hb dX9_goOrder_5 rfl hl (by decide) rfl (fun ls hl => ?_)
  refine lp_X9_goOrder Z h0 b1 b2 b3 b4 b5 b6 b7 b8 b9 b10 b11 b12 b13 b14 b15 b16 b17 b18 b19 b20 b21 b22 b23 b24 b25 n pn tn xp xr ik f1 f2 f3 f4 f5 f16 hn hpn hq hO hx hb hml hts hown hK hA (fun j f6' f7' H locs ls  hP hD hS hl => ?_) (pn + 1) 0 (q_X9_begin_g6 f2) (q_X9_begin_g7 f4) (by omega) (Nat.zero_le _) H _ ls (hP.sub [4, 0, 5, 1, 6, 2, 7, 8, 3] rfl) (hD.sub [4, 0, 5, 1, 6, 2, 7, 8, 3] (by decide +kernel) rfl) hS (lv_sub hl [1, 0] rfl)
  have hP9 := hP.sub (ws' := [(h0, .inr (9, [.ref b1, .ref b2, .ref b3, .ref b4, .int (nI n), .ref b5, .int (nI pn), .ref b6, .ref b7, .ref b8, .int (nI tn), .int xp, .int xr, .ref b9, .ref b10, .ref b11, .ref b12, .ref b13, .ref b14, .ref b15, .ref b16, .ref b17, .ref b18, .int ik, .ref b19, .ref b20, .ref b21, .ref b22, .ref b23, .ref b24, .ref b25])), (b1, .inl (Z.2 0, 5, .inl f1)), (b2, .inl (Z.2 0, 5, .inl f2)), (b3, .inl (Z.2 0, 5, .inl f3)), (b4, .inl (Z.2 0, 5, .inl f4)), (b5, .inl (Z.2 0, 24, .inl f5)), (b6, .inl (Z.2 0, 5, .inl f6')), (b7, .inl (Z.2 0, 5, .inl f7')), (b16, .inl (Z.2 0, 8, .inl f16))]) [0, 1, 2, 3, 4, 5, 6, 7, 8] rfl
  have hD9 := hD.sub (ws' := [(h0, .inr (9, [.ref b1, .ref b2, .ref b3, .ref b4, .int (nI n), .ref b5, .int (nI pn), .ref b6, .ref b7, .ref b8, .int (nI tn), .int xp, .int xr, .ref b9, .ref b10, .ref b11, .ref b12, .ref b13, .ref b14, .ref b15, .ref b16, .ref b17, .ref b18, .int ik, .ref b19, .ref b20, .ref b21, .ref b22, .ref b23, .ref b24, .ref b25])), (b1, .inl (Z.2 0, 5, .inl f1)), (b2, .inl (Z.2 0, 5, .inl f2)), (b3, .inl (Z.2 0, 5, .inl f3)), (b4, .inl (Z.2 0, 5, .inl f4)), (b5, .inl (Z.2 0, 24, .inl f5)), (b6, .inl (Z.2 0, 5, .inl f6')), (b7, .inl (Z.2 0, 5, .inl f7')), (b16, .inl (Z.2 0, 8, .inl f16))]) [0, 1, 2, 3, 4, 5, 6, 7, 8] (by decide +kernel) rfl
  exact W.vret hx hb hr (fun t9 ht hW => ⟨⟨(f6', f7'), rfl, trivial, by rw [ht]; exact hP9, hD9⟩, hS.F ht⟩) hS.2.2 dX9_goOrder_53
set_option maxHeartbeats 4000000 in
set_option maxRecDepth 100000 in
theorem lp_X9_apart {p : Program} {l : Launch} {e : Env} {s : State} {m : MethodId} {args : Array Value} {below : List Frame} {meth : Method} {c : Code} {Q : State → Prop} {A : Nat → Prop} (Z : gZ) (h0 : Nat) (b1 : Nat) (b2 : Nat) (b3 : Nat) (b4 : Nat) (b5 : Nat) (b6 : Nat) (b7 : Nat) (b8 : Nat) (b9 : Nat) (b10 : Nat) (b11 : Nat) (b12 : Nat) (b13 : Nat) (b14 : Nat) (b15 : Nat) (b16 : Nat) (b17 : Nat) (b18 : Nat) (b19 : Nat) (b20 : Nat) (b21 : Nat) (b22 : Nat) (b23 : Nat) (b24 : Nat) (b25 : Nat) (n : Nat) (pn : Nat) (tn : Nat) (xp : Int32) (xr : Int32) (ik : Int32) (f6 : Nat → Int32) (hn : n ≤ 5) (hx : p.tables.exec = Jvm.exec) (hb : c.code = cX9_apart) (hml : c.maxLocals = 4) (hts : ∀ w ∈ wsX9_apart, w.before args s = true) (hown : s.vm.findClass RX9 = some m.cls) (hK : va_K Z.1 vwCl (gT Z) s) (hA : ∀ q : Nat, s.heap.size ≤ q → A q) (kx_72 : ∀ (j : Nat) (x : Int32) (y : Int32) (H : Heap) (locs : List Loc) (ls : Array Slot), va_P Z.1 vwCl [(h0, .inr (9, [.ref b1, .ref b2, .ref b3, .ref b4, .int (nI n), .ref b5, .int (nI pn), .ref b6, .ref b7, .ref b8, .int (nI tn), .int xp, .int xr, .ref b9, .ref b10, .ref b11, .ref b12, .ref b13, .ref b14, .ref b15, .ref b16, .ref b17, .ref b18, .int ik, .ref b19, .ref b20, .ref b21, .ref b22, .ref b23, .ref b24, .ref b25])), (b6, .inl (Z.2 0, 5, .inl f6))] H → va_D A [(h0, .inr (9, [.ref b1, .ref b2, .ref b3, .ref b4, .int (nI n), .ref b5, .int (nI pn), .ref b6, .ref b7, .ref b8, .int (nI tn), .int xp, .int xr, .ref b9, .ref b10, .ref b11, .ref b12, .ref b13, .ref b14, .ref b15, .ref b16, .ref b17, .ref b18, .int ik, .ref b19, .ref b20, .ref b21, .ref b22, .ref b23, .ref b24, .ref b25])), (b6, .inl (Z.2 0, 5, .inl f6))] → va_S A s.heap H locs → lv_has ls 4 [(0, .ref h0), (1, .int x), (2, .int y), (3, .int (nI j))] → W p l e ({ frames := 0, cells := 0, slots := 0, locals := 0 } : Room) s m args below meth c H locs 0 0 Q (F0 m 72 ls [])) : ∀ (fu9 : Nat) (j : Nat) (x : Int32) (y : Int32), 6 - j < fu9 → (j ≤ 6) → ∀ (H : Heap) (locs : List Loc) (ls : Array Slot), va_P Z.1 vwCl [(h0, .inr (9, [.ref b1, .ref b2, .ref b3, .ref b4, .int (nI n), .ref b5, .int (nI pn), .ref b6, .ref b7, .ref b8, .int (nI tn), .int xp, .int xr, .ref b9, .ref b10, .ref b11, .ref b12, .ref b13, .ref b14, .ref b15, .ref b16, .ref b17, .ref b18, .int ik, .ref b19, .ref b20, .ref b21, .ref b22, .ref b23, .ref b24, .ref b25])), (b6, .inl (Z.2 0, 5, .inl f6))] H → va_D A [(h0, .inr (9, [.ref b1, .ref b2, .ref b3, .ref b4, .int (nI n), .ref b5, .int (nI pn), .ref b6, .ref b7, .ref b8, .int (nI tn), .int xp, .int xr, .ref b9, .ref b10, .ref b11, .ref b12, .ref b13, .ref b14, .ref b15, .ref b16, .ref b17, .ref b18, .int ik, .ref b19, .ref b20, .ref b21, .ref b22, .ref b23, .ref b24, .ref b25])), (b6, .inl (Z.2 0, 5, .inl f6))] → va_S A s.heap H locs → lv_has ls 4 [(0, .ref h0), (1, .int x), (2, .int y), (3, .int (nI j))] → W p l e ({ frames := 0, cells := 0, slots := 0, locals := 0 } : Room) s m args below meth c H locs 0 0 Q (F0 m 16 ls []) := by
  have hin9 : ∀ w ∈ wsX90, w ∈ wsX9_apart := fun w h9 => (List.mem_cons_of_mem _ (List.mem_append_right _ h9))
  intro fu9
  induction fu9 with
  | zero => intro j x y hf9; exact absurd hf9 (Nat.not_lt_zero _)
  | succ fu9 ih =>
    intro j x y hf9 hj H locs ls hP hD hS hl
    refine lv_iload_n hx hb dX9_apart_16 rfl (lv_at hl 3 rfl) ?_
    refine lv_aload_n hx hb dX9_apart_17 rfl (lv_at hl 0 rfl) ?_
    refine va_get (D := Z.1) (ci := 9) (v := .int (nI n)) (C := RX9) (T := TX9) (N := 31) hx hb hts hin9 hown hK hP 0 rfl rfl 4 (by decide) (hts (.fieldLink RX9 86 "HalfAskedModel" "many" "I") (List.mem_of_getElem? (i := 2) rfl)) (fun _ h9 => h9) rfl dX9_apart_18 ?_
    refine lv_icmp_ge (tgt := 72) hx hb dX9_apart_21 (by decide) (fun c_1 => ?_) (fun c_1 => ?_)
    · exact kx_72 j x y H locs ls  hP hD hS (lv_sub hl [0, 1, 2, 3] rfl)
    · have hlt : j < n := Nat.not_le.mp (fun q9 => c_1 (nI_le q9 (by omega)))
      refine lv_aload_n hx hb dX9_apart_24 rfl (lv_at hl 0 rfl) ?_
      refine va_get (D := Z.1) (ci := 9) (v := .ref b6) (C := RX9) (T := TX9) (N := 31) hx hb hts hin9 hown hK hP 0 rfl rfl 7 (by decide) (hts (.fieldLink RX9 25 "HalfAskedModel" "purse" "[I") (List.mem_of_getElem? (i := 1) rfl)) (fun _ h9 => h9) rfl dX9_apart_25 ?_
      refine lv_iload_n hx hb dX9_apart_28 rfl (lv_at hl 3 rfl) ?_
      refine va_iald hx hb hK hP 1 0 rfl rfl (vp_in_nI (by omega) (by decide)) dX9_apart_29 ?_
      refine lv_iload_n hx hb dX9_apart_30 rfl (lv_at hl 1 rfl) ?_
      refine lv_icmp_le (tgt := 43) hx hb dX9_apart_31 (by decide) (fun c_2 => ?_) (fun c_2 => ?_)
      · refine lv_iload_n hx hb dX9_apart_43 rfl (lv_at hl 1 rfl) ?_
        refine lv_istore_n (lv' := [(1, .int x), (0, .ref h0), (2, .int y), (3, .int (nI j))]) hx hb dX9_apart_44 rfl hl (by decide) rfl (fun ls hl => ?_)
        refine lv_aload_n hx hb dX9_apart_45 rfl (lv_at hl 1 rfl) ?_
        refine va_get (D := Z.1) (ci := 9) (v := .ref b6) (C := RX9) (T := TX9) (N := 31) hx hb hts hin9 hown hK hP 0 rfl rfl 7 (by decide) (hts (.fieldLink RX9 25 "HalfAskedModel" "purse" "[I") (List.mem_of_getElem? (i := 1) rfl)) (fun _ h9 => h9) rfl dX9_apart_46 ?_
        refine lv_iload_n hx hb dX9_apart_49 rfl (lv_at hl 3 rfl) ?_
        refine va_iald hx hb hK hP 1 0 rfl rfl (vp_in_nI (by omega) (by decide)) dX9_apart_50 ?_
        refine lv_iload_n hx hb dX9_apart_51 rfl (lv_at hl 2 rfl) ?_
        refine lv_icmp_ge (tgt := 64) hx hb dX9_apart_52 (by decide) (fun c_3 => ?_) (fun c_3 => ?_)
        · refine lv_iload_n hx hb dX9_apart_64 rfl (lv_at hl 2 rfl) ?_
          refine lv_istore_n (lv' := [(2, .int y), (1, .int x), (0, .ref h0), (3, .int (nI j))]) hx hb dX9_apart_65 rfl hl (by decide) rfl (fun ls hl => ?_)
          refine lv_iinc (v := nI (j + 1)) (lv' := [(3, .int (nI (j + 1))), (2, .int y), (1, .int x), (0, .ref h0)]) hx hb dX9_apart_66 hl (k := 3) rfl (nI_1 _) (by decide) rfl (fun ls hl => ?_)
          refine lv_goto (tgt := 16) hx hb dX9_apart_69 (by decide) ?_
          exact ih (j + 1) x y (by omega) (by omega) H locs ls hP hD hS (lv_sub hl [3, 2, 1, 0] rfl)
        · refine lv_aload_n hx hb dX9_apart_55 rfl (lv_at hl 1 rfl) ?_
          refine va_get (D := Z.1) (ci := 9) (v := .ref b6) (C := RX9) (T := TX9) (N := 31) hx hb hts hin9 hown hK hP 0 rfl rfl 7 (by decide) (hts (.fieldLink RX9 25 "HalfAskedModel" "purse" "[I") (List.mem_of_getElem? (i := 1) rfl)) (fun _ h9 => h9) rfl dX9_apart_56 ?_
          refine lv_iload_n hx hb dX9_apart_59 rfl (lv_at hl 3 rfl) ?_
          refine va_iald hx hb hK hP 1 0 rfl rfl (vp_in_nI (by omega) (by decide)) dX9_apart_60 ?_
          refine lv_goto (tgt := 65) hx hb dX9_apart_61 (by decide) ?_
          refine lv_istore_n (lv' := [(2, .int (f6 (nI j).toNatClampNeg)), (1, .int x), (0, .ref h0), (3, .int (nI j))]) hx hb dX9_apart_65 rfl hl (by decide) rfl (fun ls hl => ?_)
          refine lv_iinc (v := nI (j + 1)) (lv' := [(3, .int (nI (j + 1))), (2, .int (f6 (nI j).toNatClampNeg)), (1, .int x), (0, .ref h0)]) hx hb dX9_apart_66 hl (k := 3) rfl (nI_1 _) (by decide) rfl (fun ls hl => ?_)
          refine lv_goto (tgt := 16) hx hb dX9_apart_69 (by decide) ?_
          exact ih (j + 1) x (f6 (nI j).toNatClampNeg) (by omega) (by omega) H locs ls hP hD hS (lv_sub hl [3, 2, 1, 0] rfl)
      · refine lv_aload_n hx hb dX9_apart_34 rfl (lv_at hl 0 rfl) ?_
        refine va_get (D := Z.1) (ci := 9) (v := .ref b6) (C := RX9) (T := TX9) (N := 31) hx hb hts hin9 hown hK hP 0 rfl rfl 7 (by decide) (hts (.fieldLink RX9 25 "HalfAskedModel" "purse" "[I") (List.mem_of_getElem? (i := 1) rfl)) (fun _ h9 => h9) rfl dX9_apart_35 ?_
        refine lv_iload_n hx hb dX9_apart_38 rfl (lv_at hl 3 rfl) ?_
        refine va_iald hx hb hK hP 1 0 rfl rfl (vp_in_nI (by omega) (by decide)) dX9_apart_39 ?_
        refine lv_goto (tgt := 44) hx hb dX9_apart_40 (by decide) ?_
        refine lv_istore_n (lv' := [(1, .int (f6 (nI j).toNatClampNeg)), (0, .ref h0), (2, .int y), (3, .int (nI j))]) hx hb dX9_apart_44 rfl hl (by decide) rfl (fun ls hl => ?_)
        refine lv_aload_n hx hb dX9_apart_45 rfl (lv_at hl 1 rfl) ?_
        refine va_get (D := Z.1) (ci := 9) (v := .ref b6) (C := RX9) (T := TX9) (N := 31) hx hb hts hin9 hown hK hP 0 rfl rfl 7 (by decide) (hts (.fieldLink RX9 25 "HalfAskedModel" "purse" "[I") (List.mem_of_getElem? (i := 1) rfl)) (fun _ h9 => h9) rfl dX9_apart_46 ?_
        refine lv_iload_n hx hb dX9_apart_49 rfl (lv_at hl 3 rfl) ?_
        refine va_iald hx hb hK hP 1 0 rfl rfl (vp_in_nI (by omega) (by decide)) dX9_apart_50 ?_
        refine lv_iload_n hx hb dX9_apart_51 rfl (lv_at hl 2 rfl) ?_
        refine lv_icmp_ge (tgt := 64) hx hb dX9_apart_52 (by decide) (fun c_4 => ?_) (fun c_4 => ?_)
        · refine lv_iload_n hx hb dX9_apart_64 rfl (lv_at hl 2 rfl) ?_
          refine lv_istore_n (lv' := [(2, .int y), (1, .int (f6 (nI j).toNatClampNeg)), (0, .ref h0), (3, .int (nI j))]) hx hb dX9_apart_65 rfl hl (by decide) rfl (fun ls hl => ?_)
          refine lv_iinc (v := nI (j + 1)) (lv' := [(3, .int (nI (j + 1))), (2, .int y), (1, .int (f6 (nI j).toNatClampNeg)), (0, .ref h0)]) hx hb dX9_apart_66 hl (k := 3) rfl (nI_1 _) (by decide) rfl (fun ls hl => ?_)
          refine lv_goto (tgt := 16) hx hb dX9_apart_69 (by decide) ?_
          exact ih (j + 1) (f6 (nI j).toNatClampNeg) y (by omega) (by omega) H locs ls hP hD hS (lv_sub hl [3, 2, 1, 0] rfl)
        · refine lv_aload_n hx hb dX9_apart_55 rfl (lv_at hl 1 rfl) ?_
          refine va_get (D := Z.1) (ci := 9) (v := .ref b6) (C := RX9) (T := TX9) (N := 31) hx hb hts hin9 hown hK hP 0 rfl rfl 7 (by decide) (hts (.fieldLink RX9 25 "HalfAskedModel" "purse" "[I") (List.mem_of_getElem? (i := 1) rfl)) (fun _ h9 => h9) rfl dX9_apart_56 ?_
          refine lv_iload_n hx hb dX9_apart_59 rfl (lv_at hl 3 rfl) ?_
          refine va_iald hx hb hK hP 1 0 rfl rfl (vp_in_nI (by omega) (by decide)) dX9_apart_60 ?_
          refine lv_goto (tgt := 65) hx hb dX9_apart_61 (by decide) ?_
          refine lv_istore_n (lv' := [(2, .int (f6 (nI j).toNatClampNeg)), (1, .int (f6 (nI j).toNatClampNeg)), (0, .ref h0), (3, .int (nI j))]) hx hb dX9_apart_65 rfl hl (by decide) rfl (fun ls hl => ?_)
          refine lv_iinc (v := nI (j + 1)) (lv' := [(3, .int (nI (j + 1))), (2, .int (f6 (nI j).toNatClampNeg)), (1, .int (f6 (nI j).toNatClampNeg)), (0, .ref h0)]) hx hb dX9_apart_66 hl (k := 3) rfl (nI_1 _) (by decide) rfl (fun ls hl => ?_)
          refine lv_goto (tgt := 16) hx hb dX9_apart_69 (by decide) ?_
          exact ih (j + 1) (f6 (nI j).toNatClampNeg) (f6 (nI j).toNatClampNeg) (by omega) (by omega) H locs ls hP hD hS (lv_sub hl [3, 2, 1, 0] rfl)
set_option maxHeartbeats 4000000 in
set_option maxRecDepth 100000 in
theorem c_X9_apart (l : Launch) (Z : gZ) (sz : Nat) (h0 : Nat) (b1 : Nat) (b2 : Nat) (b3 : Nat) (b4 : Nat) (b5 : Nat) (b6 : Nat) (b7 : Nat) (b8 : Nat) (b9 : Nat) (b10 : Nat) (b11 : Nat) (b12 : Nat) (b13 : Nat) (b14 : Nat) (b15 : Nat) (b16 : Nat) (b17 : Nat) (b18 : Nat) (b19 : Nat) (b20 : Nat) (b21 : Nat) (b22 : Nat) (b23 : Nat) (b24 : Nat) (b25 : Nat) (n : Nat) (pn : Nat) (tn : Nat) (xp : Int32) (xr : Int32) (ik : Int32) (f6 : Nat → Int32) (hn : n ≤ 5) : Met l yX9_apart wsX9_apart ({ frames := 0, cells := 0, slots := 0, locals := 0 }) (va_Pc [.ref h0] (fun U => U.heap.size = sz ∧ va_P Z.1 vwCl [(h0, .inr (9, [.ref b1, .ref b2, .ref b3, .ref b4, .int (nI n), .ref b5, .int (nI pn), .ref b6, .ref b7, .ref b8, .int (nI tn), .int xp, .int xr, .ref b9, .ref b10, .ref b11, .ref b12, .ref b13, .ref b14, .ref b15, .ref b16, .ref b17, .ref b18, .int ik, .ref b19, .ref b20, .ref b21, .ref b22, .ref b23, .ref b24, .ref b25])), (b6, .inl (Z.2 0, 5, .inl f6))] U.heap ∧ va_K Z.1 vwCl (gT Z) U ∧ va_D (fun _ => True) [(h0, .inr (9, [.ref b1, .ref b2, .ref b3, .ref b4, .int (nI n), .ref b5, .int (nI pn), .ref b6, .ref b7, .ref b8, .int (nI tn), .int xp, .int xr, .ref b9, .ref b10, .ref b11, .ref b12, .ref b13, .ref b14, .ref b15, .ref b16, .ref b17, .ref b18, .int ik, .ref b19, .ref b20, .ref b21, .ref b22, .ref b23, .ref b24, .ref b25])), (b6, .inl (Z.2 0, 5, .inl f6))])) (va_Qi (fun (r : Int32) (u : Unit) => True) (fun (u : Unit) (t9 : State) => va_P Z.1 vwCl [(h0, .inr (9, [.ref b1, .ref b2, .ref b3, .ref b4, .int (nI n), .ref b5, .int (nI pn), .ref b6, .ref b7, .ref b8, .int (nI tn), .int xp, .int xr, .ref b9, .ref b10, .ref b11, .ref b12, .ref b13, .ref b14, .ref b15, .ref b16, .ref b17, .ref b18, .int ik, .ref b19, .ref b20, .ref b21, .ref b22, .ref b23, .ref b24, .ref b25])), (b6, .inl (Z.2 0, 5, .inl f6))] t9.heap ∧ va_D (va_A [(h0, .inr (9, [.ref b1, .ref b2, .ref b3, .ref b4, .int (nI n), .ref b5, .int (nI pn), .ref b6, .ref b7, .ref b8, .int (nI tn), .int xp, .int xr, .ref b9, .ref b10, .ref b11, .ref b12, .ref b13, .ref b14, .ref b15, .ref b16, .ref b17, .ref b18, .int ik, .ref b19, .ref b20, .ref b21, .ref b22, .ref b23, .ref b24, .ref b25])), (b6, .inl (Z.2 0, 5, .inl f6))] sz) [(h0, .inr (9, [.ref b1, .ref b2, .ref b3, .ref b4, .int (nI n), .ref b5, .int (nI pn), .ref b6, .ref b7, .ref b8, .int (nI tn), .int xp, .int xr, .ref b9, .ref b10, .ref b11, .ref b12, .ref b13, .ref b14, .ref b15, .ref b16, .ref b17, .ref b18, .int ik, .ref b19, .ref b20, .ref b21, .ref b22, .ref b23, .ref b24, .ref b25])), (b6, .inl (Z.2 0, 5, .inl f6))]) (va_A [(h0, .inr (9, [.ref b1, .ref b2, .ref b3, .ref b4, .int (nI n), .ref b5, .int (nI pn), .ref b6, .ref b7, .ref b8, .int (nI tn), .int xp, .int xr, .ref b9, .ref b10, .ref b11, .ref b12, .ref b13, .ref b14, .ref b15, .ref b16, .ref b17, .ref b18, .int ik, .ref b19, .ref b20, .ref b21, .ref b22, .ref b23, .ref b24, .ref b25])), (b6, .inl (Z.2 0, 5, .inl f6))] sz)) 0 0 (va_A [(h0, .inr (9, [.ref b1, .ref b2, .ref b3, .ref b4, .int (nI n), .ref b5, .int (nI pn), .ref b6, .ref b7, .ref b8, .int (nI tn), .int xp, .int xr, .ref b9, .ref b10, .ref b11, .ref b12, .ref b13, .ref b14, .ref b15, .ref b16, .ref b17, .ref b18, .int ik, .ref b19, .ref b20, .ref b21, .ref b22, .ref b23, .ref b24, .ref b25])), (b6, .inl (Z.2 0, 5, .inl f6))] sz) := by
  refine Met.ofW (cc := cX9_apart) (maxL := 4) (ret := (some .int)) (by decide) rfl ?_
  intro p e s m args below meth c s₁ B hml hv
  obtain ⟨rfl, hsz, hP, hK, hD0⟩ := hv
  have hx := B.exec
  have hb := B.bytes
  have hr := B.returns
  have hts := atoms_spec (ws := wsX9_apart) B.pre
  have hown : s.vm.findClass RX9 = some m.cls := findClass_of_methodNamed B.named
  have hlocks := B.notSynchronized
  subst hsz
  have hin9 : ∀ w ∈ wsX90, w ∈ wsX9_apart := fun w h9 => (List.mem_cons_of_mem _ (List.mem_append_right _ h9))
  have hD := hD0.self (sz := s.heap.size)
  generalize hAe : va_A [(h0, .inr (9, [.ref b1, .ref b2, .ref b3, .ref b4, .int (nI n), .ref b5, .int (nI pn), .ref b6, .ref b7, .ref b8, .int (nI tn), .int xp, .int xr, .ref b9, .ref b10, .ref b11, .ref b12, .ref b13, .ref b14, .ref b15, .ref b16, .ref b17, .ref b18, .int ik, .ref b19, .ref b20, .ref b21, .ref b22, .ref b23, .ref b24, .ref b25])), (b6, .inl (Z.2 0, 5, .inl f6))] s.heap.size = A at hD ⊢
  have hA : ∀ q : Nat, s.heap.size ≤ q → A q := fun q h => by rw [← hAe]; exact Or.inr h
  have hS : va_S A s.heap s.heap [] := va_S.rf
  have hP : va_P Z.1 vwCl [(h0, .inr (9, [.ref b1, .ref b2, .ref b3, .ref b4, .int (nI n), .ref b5, .int (nI pn), .ref b6, .ref b7, .ref b8, .int (nI tn), .int xp, .int xr, .ref b9, .ref b10, .ref b11, .ref b12, .ref b13, .ref b14, .ref b15, .ref b16, .ref b17, .ref b18, .int ik, .ref b19, .ref b20, .ref b21, .ref b22, .ref b23, .ref b24, .ref b25])), (b6, .inl (Z.2 0, 5, .inl f6))] s.heap := hP
  have hl := lv_entry ([.ref h0]) (n := 4) (Nat.le_of_ble_eq_true rfl)
  rw [lg_entry_eq]
  generalize (lg_sl ([.ref h0]) ++ List.replicate (4 - (lg_sl ([.ref h0])).length) Slot.unset).toArray = ls at hl ⊢
  have hl : lv_has ls 4 [(0, .ref h0)] := hl
  refine lv_aload_n hx hb dX9_apart_0 rfl (lv_at hl 0 rfl) ?_
  refine va_get (D := Z.1) (ci := 9) (v := .ref b6) (C := RX9) (T := TX9) (N := 31) hx hb hts hin9 hown hK hP 0 rfl rfl 7 (by decide) (hts (.fieldLink RX9 25 "HalfAskedModel" "purse" "[I") (List.mem_of_getElem? (i := 1) rfl)) (fun _ h9 => h9) rfl dX9_apart_1 ?_
  refine lv_iconst (v := 0) hx hb dX9_apart_4 (by decide) ?_
  refine va_iald hx hb hK hP 1 0 rfl rfl (z_in (by decide)) dX9_apart_5 ?_
  refine lv_istore_n (lv' := [(1, .int (f6 0)), (0, .ref h0)]) hx hb dX9_apart_6 rfl hl (by decide) rfl (fun ls hl => ?_)
  refine lv_aload_n hx hb dX9_apart_7 rfl (lv_at hl 1 rfl) ?_
  refine va_get (D := Z.1) (ci := 9) (v := .ref b6) (C := RX9) (T := TX9) (N := 31) hx hb hts hin9 hown hK hP 0 rfl rfl 7 (by decide) (hts (.fieldLink RX9 25 "HalfAskedModel" "purse" "[I") (List.mem_of_getElem? (i := 1) rfl)) (fun _ h9 => h9) rfl dX9_apart_8 ?_
  refine lv_iconst (v := 0) hx hb dX9_apart_11 (by decide) ?_
  refine va_iald hx hb hK hP 1 0 rfl rfl (z_in (by decide)) dX9_apart_12 ?_
  refine lv_istore_n (lv' := [(2, .int (f6 0)), (1, .int (f6 0)), (0, .ref h0)]) hx hb dX9_apart_13 rfl hl (by decide) rfl (fun ls hl => ?_)
  refine lv_iconst (v := 1) hx hb dX9_apart_14 (by decide) ?_
  refine lv_istore_n (lv' := [(3, .int 1), (2, .int (f6 0)), (1, .int (f6 0)), (0, .ref h0)]) hx hb dX9_apart_15 rfl hl (by decide) rfl (fun ls hl => ?_)
  refine lp_X9_apart Z h0 b1 b2 b3 b4 b5 b6 b7 b8 b9 b10 b11 b12 b13 b14 b15 b16 b17 b18 b19 b20 b21 b22 b23 b24 b25 n pn tn xp xr ik f6 hn hx hb hml hts hown hK hA (fun j x y H locs ls  hP hD hS hl => ?_) 6 1 (f6 0) (f6 0) (by decide) (by decide) s.heap _ ls hP hD hS (lv_sub hl [3, 2, 1, 0] rfl)
  refine lv_iload_n hx hb dX9_apart_72 rfl (lv_at hl 1 rfl) ?_
  refine lv_iload_n hx hb dX9_apart_73 rfl (lv_at hl 2 rfl) ?_
  refine lv_isub hx hb dX9_apart_74 ?_
  have hP9 := hP.sub (ws' := [(h0, .inr (9, [.ref b1, .ref b2, .ref b3, .ref b4, .int (nI n), .ref b5, .int (nI pn), .ref b6, .ref b7, .ref b8, .int (nI tn), .int xp, .int xr, .ref b9, .ref b10, .ref b11, .ref b12, .ref b13, .ref b14, .ref b15, .ref b16, .ref b17, .ref b18, .int ik, .ref b19, .ref b20, .ref b21, .ref b22, .ref b23, .ref b24, .ref b25])), (b6, .inl (Z.2 0, 5, .inl f6))]) [0, 1] rfl
  have hD9 := hD.sub (ws' := [(h0, .inr (9, [.ref b1, .ref b2, .ref b3, .ref b4, .int (nI n), .ref b5, .int (nI pn), .ref b6, .ref b7, .ref b8, .int (nI tn), .int xp, .int xr, .ref b9, .ref b10, .ref b11, .ref b12, .ref b13, .ref b14, .ref b15, .ref b16, .ref b17, .ref b18, .int ik, .ref b19, .ref b20, .ref b21, .ref b22, .ref b23, .ref b24, .ref b25])), (b6, .inl (Z.2 0, 5, .inl f6))]) [0, 1] (by decide +kernel) rfl
  exact W.iret (v := (x - y)) hx hb hr (fun t9 ht hW => ⟨⟨x - y, (), rfl, trivial, by rw [ht]; exact hP9, hD9⟩, hS.F ht⟩) hS.2.2 dX9_apart_75
