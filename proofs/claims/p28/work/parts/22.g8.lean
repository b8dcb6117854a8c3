/-- the row of weights, as long as nothing of it is written -/
def gW (wA : Nat) (A : Nat → Prop) (U : State) : Prop := va_Z "HalfAsked$Timing" "WEIGHT" "[I" (.ref wA) A U U.heap ∧ va_T .int wA 5 (fun j => .int (([10000, 1000, 100, 10, 1] : List Int32).getD j 0)) A U U.heap
theorem z_W {wA : Nat} {A B : Nat → Prop} {s U : State} {H : Heap} {locs : List Loc} (hW : s.WarmedH U.vm) (h : gW wA A s) (hS : va_S A s.heap H locs) (hU : U.heap = H) (hF : ∀ q, B q → A q) : gW wA B U := by
  obtain ⟨h1, h2⟩ := h
  subst hU
  exact ⟨((h1.kept hS.2.1).moved hW.alike).narrow hF, ((h2.kept hS.2.1).moved hW.alike).narrow hF⟩
theorem z_Wc {wA : Nat} {A : Nat → Prop} {u U : State} (e : u.vm = U.vm) (eh : u.heap = U.heap) (h : gW wA A u) : gW wA A U := by
  obtain ⟨h1, h2⟩ := h
  have ha : u.vm.Alike U.vm := e ▸ Vm.Alike.refl u.vm
  rw [eh] at h1 h2
  exact ⟨h1.moved ha, h2.moved ha⟩
theorem z_wt {a : Int32} (h : vp_in a 5) : ¬ ([10000, 1000, 100, 10, 1] : List Int32).getD a.toNatClampNeg 0 = 0 := by
  obtain ⟨j, hj, rfl⟩ := vp_in_of h (by decide)
  rw [nI_clamp (by omega)]
  rcases (show j = 0 ∨ j = 1 ∨ j = 2 ∨ j = 3 ∨ j = 4 by omega) with rfl | rfl | rfl | rfl | rfl <;> decide
/-- r rows of people from the t-th of a row of rows on, whatever they hold -/
def zRows (Z : gZ) (sa : Nat → Option Nat) : Nat → Nat → va_W → Prop
  | 0, _, E => E = []
  | r + 1, t, E => ∃ (h k q : Nat) (v kn ak : Int32) (f g : Nat → Int32) (E1 : va_W), sa t = some h ∧ E = [(h, .inr (0, [.int v, .int kn, .int ak, .ref k, .ref q])), (k, .inl (Z.2 0, 5, .inl f)), (q, .inl (Z.2 0, 5, .inl g))] ++ E1 ∧ zRows Z sa r (t + 1) E1
theorem zRows_ex {Z : gZ} {sa : Nat → Option Nat} {r t : Nat} {E : va_W} (h : zRows Z sa (r + 1) t E) : ∃ (h k q : Nat) (v kn ak : Int32) (f g : Nat → Int32) (E1 : va_W), sa t = some h ∧ E = [(h, .inr (0, [.int v, .int kn, .int ak, .ref k, .ref q])), (k, .inl (Z.2 0, 5, .inl f)), (q, .inl (Z.2 0, 5, .inl g))] ++ E1 ∧ zRows Z sa r (t + 1) E1 := h
theorem zRows_mk {Z : gZ} {sa : Nat → Option Nat} {r t h k q : Nat} {v kn ak : Int32} {f g : Nat → Int32} {E1 : va_W} (hs : sa t = some h) (hE : zRows Z sa r (t + 1) E1) : zRows Z sa (r + 1) t (HAppend.hAppend (α := va_W) (β := va_W) (γ := va_W) [(h, .inr (0, [.int v, .int kn, .int ak, .ref k, .ref q])), (k, .inl (Z.2 0, 5, .inl f)), (q, .inl (Z.2 0, 5, .inl g))] E1) := ⟨h, k, q, v, kn, ak, f, g, E1, hs, rfl, hE⟩
theorem zRows_nx {Z : gZ} {sa : Nat → Option Nat} {r t : Nat} {E : va_W} (h : zRows Z sa (r + 1) t E) : ∃ nx, sa t = some nx := by
  obtain ⟨nx, -, -, -, -, -, -, -, -, hs, -⟩ := zRows_ex h
  exact ⟨nx, hs⟩
theorem z_of32 (x : Int32) : ∃ n, n < 4294967296 ∧ x = nI n := ⟨x.toBitVec.toNat, x.toBitVec.isLt, Int32.toBitVec_inj.mp (by show _ = BitVec.ofNat 32 _; simp)⟩
theorem z_nand (a b : Nat) : nI a &&& nI b = nI (a &&& b) := by
  apply Int32.toBitVec_inj.1
  show BitVec.ofNat 32 a &&& BitVec.ofNat 32 b = BitVec.ofNat 32 (a &&& b)
  apply BitVec.eq_of_getLsbD_eq
  intro i hi
  simp [BitVec.getLsbD_ofNat, hi]
theorem z_and {L : Nat} (h : L < 32) (x : Int32) : ∃ j, j < 32 ∧ nI L &&& x = nI j := by
  obtain ⟨m, -, rfl⟩ := z_of32 x
  exact ⟨L &&& m, Nat.lt_of_le_of_lt Nat.and_le_left h, z_nand L m⟩
theorem z_mask {n : Nat} (h : n ≤ 5) : ∃ L, L < 32 ∧ (1 : Int32) <<< (nI n &&& 31) - 1 = nI L := by
  rcases (show n = 0 ∨ n = 1 ∨ n = 2 ∨ n = 3 ∨ n = 4 ∨ n = 5 by omega) with rfl | rfl | rfl | rfl | rfl | rfl
  · exact ⟨0, by decide, by decide⟩
  · exact ⟨1, by decide, by decide⟩
  · exact ⟨3, by decide, by decide⟩
  · exact ⟨7, by decide, by decide⟩
  · exact ⟨15, by decide, by decide⟩
  · exact ⟨31, by decide, by decide⟩
def q_X6_keepBetter_mo1 (mo : Int32) (wy : Int32) (a : Int32) (b : Int32) : Int32 := (if mo < a then a else (if a = mo then (if wy ≤ b then mo else a) else mo))
def q_X6_keepBetter_wy1 (mo : Int32) (wy : Int32) (a : Int32) (b : Int32) : Int32 := (if mo < a then b else (if a = mo then (if wy ≤ b then wy else b) else wy))
set_option maxHeartbeats 4000000 in
set_option maxRecDepth 100000 in
theorem c_X6_keepBetter (l : Launch) (Z : gZ) (sz : Nat) (h0 : Nat) (mo : Int32) (wy : Int32) (asn : Int32) (pl : Nat) (sr : Nat) (a : Int32) (b : Int32)  : Met l yX6_keepBetter wsX6_keepBetter ({ frames := 0, cells := 0, slots := 0, locals := 0 }) (va_Pc [.ref h0, .int a, .int b] (fun U => U.heap.size = sz ∧ va_P Z.1 vwCl [(h0, .inr (6, [.int mo, .int wy, .int asn, .ref pl, .ref sr]))] U.heap ∧ va_K Z.1 vwCl (gT Z) U ∧ va_D (fun _ => True) [(h0, .inr (6, [.int mo, .int wy, .int asn, .ref pl, .ref sr]))])) (va_Qv (fun (u : Int32 × Int32) => match u with | (mo1, wy1) => q_X6_keepBetter_mo1 mo wy a b = mo1 ∧ q_X6_keepBetter_wy1 mo wy a b = wy1) (fun (u : Int32 × Int32) (t9 : State) => match u with | (mo1, wy1) => va_P Z.1 vwCl [(h0, .inr (6, [.int mo1, .int wy1, .int asn, .ref pl, .ref sr]))] t9.heap ∧ va_D (va_A [(h0, .inr (6, [.int mo, .int wy, .int asn, .ref pl, .ref sr]))] sz) [(h0, .inr (6, [.int mo1, .int wy1, .int asn, .ref pl, .ref sr]))]) (va_A [(h0, .inr (6, [.int mo, .int wy, .int asn, .ref pl, .ref sr]))] sz)) 0 0 (va_A [(h0, .inr (6, [.int mo, .int wy, .int asn, .ref pl, .ref sr]))] sz) := by
  refine Met.ofW (cc := cX6_keepBetter) (maxL := 3) (ret := none) (by decide) rfl ?_
  intro p e s m args below meth c s₁ B hml hv
  obtain ⟨rfl, hsz, hP, hK, hD0⟩ := hv
  have hx := B.exec
  have hb := B.bytes
  have hr := B.returns
  have hts := atoms_spec (ws := wsX6_keepBetter) B.pre
  have hown : s.vm.findClass RX6 = some m.cls := findClass_of_methodNamed B.named
  have hlocks := B.notSynchronized
  subst hsz
  have hin6 : ∀ w ∈ wsX60, w ∈ wsX6_keepBetter := fun w h9 => (List.mem_cons_of_mem _ (List.mem_append_right _ h9))
  have hD := hD0.self (sz := s.heap.size)
  generalize hAe : va_A [(h0, .inr (6, [.int mo, .int wy, .int asn, .ref pl, .ref sr]))] s.heap.size = A at hD ⊢
  have hA : ∀ q : Nat, s.heap.size ≤ q → A q := fun q h => by rw [← hAe]; exact Or.inr h
  have hS : va_S A s.heap s.heap [] := va_S.rf
  have hP : va_P Z.1 vwCl [(h0, .inr (6, [.int mo, .int wy, .int asn, .ref pl, .ref sr]))] s.heap := hP
  have hl := lv_entry ([.ref h0, .int a, .int b]) (n := 3) (Nat.le_of_ble_eq_true rfl)
  rw [lg_entry_eq]
  generalize (lg_sl ([.ref h0, .int a, .int b]) ++ List.replicate (3 - (lg_sl ([.ref h0, .int a, .int b])).length) Slot.unset).toArray = ls at hl ⊢
  have hl : lv_has ls 3 [(0, .ref h0), (1, .int a), (2, .int b)] := hl
  refine lv_iload_n hx hb dX6_keepBetter_0 rfl (lv_at hl 1 rfl) ?_
  refine lv_aload_n hx hb dX6_keepBetter_1 rfl (lv_at hl 0 rfl) ?_
  refine va_get (D := Z.1) (ci := 6) (v := .int mo) (C := RX6) (T := TX6) (N := 5) hx hb hts hin6 hown hK hP 0 rfl rfl 0 (by decide) (hts (.fieldLink RX6 9 "HalfAsked$Timing" "most" "I") (List.mem_of_getElem? (i := 1) rfl)) (fun _ h9 => h9) rfl dX6_keepBetter_2 ?_
  refine lv_icmp_gt (tgt := 24) hx hb dX6_keepBetter_5 (by decide) (fun c_1 => ?_) (fun c_1 => ?_)
  · refine lv_aload_n hx hb dX6_keepBetter_24 rfl (lv_at hl 0 rfl) ?_
    refine lv_iload_n hx hb dX6_keepBetter_25 rfl (lv_at hl 1 rfl) ?_
    refine va_put (D := Z.1) (ci := 6) (v := .int a) (ty := .int) (C := RX6) (T := TX6) (N := 5) hx hb hts hin6 tyX6 tyX6_ok nmX6 hown hK hP hD hS 0 rfl rfl 0 (by decide) (hts (.fieldLink RX6 9 "HalfAsked$Timing" "most" "I") (List.mem_of_getElem? (i := 1) rfl)) (fun _ h9 => h9) rfl (by decide +kernel) rfl rfl (Nat.le_of_ble_eq_true rfl) dX6_keepBetter_26 (fun H locs hP hD hS => ?_)
    have hP : va_P Z.1 vwCl [(h0, .inr (6, [.int a, .int wy, .int asn, .ref pl, .ref sr]))] H := hP
    have hD : va_D A [(h0, .inr (6, [.int a, .int wy, .int asn, .ref pl, .ref sr]))] := hD
    refine lv_aload_n hx hb dX6_keepBetter_29 rfl (lv_at hl 0 rfl) ?_
    refine lv_iload_n hx hb dX6_keepBetter_30 rfl (lv_at hl 2 rfl) ?_
    refine va_put (D := Z.1) (ci := 6) (v := .int b) (ty := .int) (C := RX6) (T := TX6) (N := 5) hx hb hts hin6 tyX6 tyX6_ok nmX6 hown hK hP hD hS 0 rfl rfl 1 (by decide) (hts (.fieldLink RX6 15 "HalfAsked$Timing" "way" "I") (List.mem_of_getElem? (i := 2) rfl)) (fun _ h9 => h9) rfl (by decide +kernel) rfl rfl (Nat.le_of_ble_eq_true rfl) dX6_keepBetter_31 (fun H locs hP hD hS => ?_)
    have hP : va_P Z.1 vwCl [(h0, .inr (6, [.int a, .int b, .int asn, .ref pl, .ref sr]))] H := hP
    have hD : va_D A [(h0, .inr (6, [.int a, .int b, .int asn, .ref pl, .ref sr]))] := hD
    have hP9 := hP.sub (ws' := [(h0, .inr (6, [.int a, .int b, .int asn, .ref pl, .ref sr]))]) [0] rfl
    have hD9 := hD.sub (ws' := [(h0, .inr (6, [.int a, .int b, .int asn, .ref pl, .ref sr]))]) [0] (by decide +kernel) rfl
    exact W.vret hx hb hr (fun t9 ht hW => ⟨⟨(a, b), rfl, ⟨(by unfold q_X6_keepBetter_mo1; rw [if_pos c_1]), (by unfold q_X6_keepBetter_wy1; rw [if_pos c_1])⟩, by rw [ht]; exact hP9, hD9⟩, hS.F ht⟩) hS.2.2 dX6_keepBetter_34
  · refine lv_iload_n hx hb dX6_keepBetter_8 rfl (lv_at hl 1 rfl) ?_
    refine lv_aload_n hx hb dX6_keepBetter_9 rfl (lv_at hl 0 rfl) ?_
    refine va_get (D := Z.1) (ci := 6) (v := .int mo) (C := RX6) (T := TX6) (N := 5) hx hb hts hin6 hown hK hP 0 rfl rfl 0 (by decide) (hts (.fieldLink RX6 9 "HalfAsked$Timing" "most" "I") (List.mem_of_getElem? (i := 1) rfl)) (fun _ h9 => h9) rfl dX6_keepBetter_10 ?_
    refine lv_icmp_ne (tgt := 34) hx hb dX6_keepBetter_13 (by decide) (fun c_2 => ?_) (fun c_2 => ?_)
    · have hP9 := hP.sub (ws' := [(h0, .inr (6, [.int mo, .int wy, .int asn, .ref pl, .ref sr]))]) [0] rfl
      have hD9 := hD.sub (ws' := [(h0, .inr (6, [.int mo, .int wy, .int asn, .ref pl, .ref sr]))]) [0] (by decide +kernel) rfl
      exact W.vret hx hb hr (fun t9 ht hW => ⟨⟨(mo, wy), rfl, ⟨(by unfold q_X6_keepBetter_mo1; rw [if_neg c_1, if_neg c_2]), (by unfold q_X6_keepBetter_wy1; rw [if_neg c_1, if_neg c_2])⟩, by rw [ht]; exact hP9, hD9⟩, hS.F ht⟩) hS.2.2 dX6_keepBetter_34
    · refine lv_iload_n hx hb dX6_keepBetter_16 rfl (lv_at hl 2 rfl) ?_
      refine lv_aload_n hx hb dX6_keepBetter_17 rfl (lv_at hl 0 rfl) ?_
      refine va_get (D := Z.1) (ci := 6) (v := .int wy) (C := RX6) (T := TX6) (N := 5) hx hb hts hin6 hown hK hP 0 rfl rfl 1 (by decide) (hts (.fieldLink RX6 15 "HalfAsked$Timing" "way" "I") (List.mem_of_getElem? (i := 2) rfl)) (fun _ h9 => h9) rfl dX6_keepBetter_18 ?_
      refine lv_icmp_ge (tgt := 34) hx hb dX6_keepBetter_21 (by decide) (fun c_3 => ?_) (fun c_3 => ?_)
      · have hP9 := hP.sub (ws' := [(h0, .inr (6, [.int mo, .int wy, .int asn, .ref pl, .ref sr]))]) [0] rfl
        have hD9 := hD.sub (ws' := [(h0, .inr (6, [.int mo, .int wy, .int asn, .ref pl, .ref sr]))]) [0] (by decide +kernel) rfl
        exact W.vret hx hb hr (fun t9 ht hW => ⟨⟨(mo, wy), rfl, ⟨(by unfold q_X6_keepBetter_mo1; rw [if_neg c_1, if_pos c_2, if_pos c_3]), (by unfold q_X6_keepBetter_wy1; rw [if_neg c_1, if_pos c_2, if_pos c_3])⟩, by rw [ht]; exact hP9, hD9⟩, hS.F ht⟩) hS.2.2 dX6_keepBetter_34
      · refine lv_aload_n hx hb dX6_keepBetter_24 rfl (lv_at hl 0 rfl) ?_
        refine lv_iload_n hx hb dX6_keepBetter_25 rfl (lv_at hl 1 rfl) ?_
        refine va_put (D := Z.1) (ci := 6) (v := .int a) (ty := .int) (C := RX6) (T := TX6) (N := 5) hx hb hts hin6 tyX6 tyX6_ok nmX6 hown hK hP hD hS 0 rfl rfl 0 (by decide) (hts (.fieldLink RX6 9 "HalfAsked$Timing" "most" "I") (List.mem_of_getElem? (i := 1) rfl)) (fun _ h9 => h9) rfl (by decide +kernel) rfl rfl (Nat.le_of_ble_eq_true rfl) dX6_keepBetter_26 (fun H locs hP hD hS => ?_)
        have hP : va_P Z.1 vwCl [(h0, .inr (6, [.int a, .int wy, .int asn, .ref pl, .ref sr]))] H := hP
        have hD : va_D A [(h0, .inr (6, [.int a, .int wy, .int asn, .ref pl, .ref sr]))] := hD
        refine lv_aload_n hx hb dX6_keepBetter_29 rfl (lv_at hl 0 rfl) ?_
        refine lv_iload_n hx hb dX6_keepBetter_30 rfl (lv_at hl 2 rfl) ?_
        refine va_put (D := Z.1) (ci := 6) (v := .int b) (ty := .int) (C := RX6) (T := TX6) (N := 5) hx hb hts hin6 tyX6 tyX6_ok nmX6 hown hK hP hD hS 0 rfl rfl 1 (by decide) (hts (.fieldLink RX6 15 "HalfAsked$Timing" "way" "I") (List.mem_of_getElem? (i := 2) rfl)) (fun _ h9 => h9) rfl (by decide +kernel) rfl rfl (Nat.le_of_ble_eq_true rfl) dX6_keepBetter_31 (fun H locs hP hD hS => ?_)
        have hP : va_P Z.1 vwCl [(h0, .inr (6, [.int a, .int b, .int asn, .ref pl, .ref sr]))] H := hP
        have hD : va_D A [(h0, .inr (6, [.int a, .int b, .int asn, .ref pl, .ref sr]))] := hD
        have hP9 := hP.sub (ws' := [(h0, .inr (6, [.int a, .int b, .int asn, .ref pl, .ref sr]))]) [0] rfl
        have hD9 := hD.sub (ws' := [(h0, .inr (6, [.int a, .int b, .int asn, .ref pl, .ref sr]))]) [0] (by decide +kernel) rfl
        exact W.vret hx hb hr (fun t9 ht hW => ⟨⟨(a, b), rfl, ⟨(by unfold q_X6_keepBetter_mo1; rw [if_neg c_1, if_pos c_2, if_neg c_3]), (by unfold q_X6_keepBetter_wy1; rw [if_neg c_1, if_pos c_2, if_neg c_3])⟩, by rw [ht]; exact hP9, hD9⟩, hS.F ht⟩) hS.2.2 dX6_keepBetter_34
