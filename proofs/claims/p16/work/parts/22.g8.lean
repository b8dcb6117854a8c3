/-- the row of weights, as long as nothing of it is written -/
def gW (wA : Nat) (A : Nat → Prop) (U : State) : Prop := va_Z "HalfAsked$Timing" "WEIGHT" "[I" (.ref wA) A U U.heap ∧ va_T .int wA 5 (fun j => .int (([10000, 1000, 100, 10, 1] : List Int32).getD j 0)) A U U.heap
theorem z_W {wA : Nat} {A B : Nat → Prop} {s U : State} {H : Heap} {locs : List Loc} (hW : s.WarmedH U.vm) (h : gW wA A s) (hS : va_S A s.heap H locs) (hU : U.heap = H) (hF : ∀ q, B q → A q) : gW wA B U := by
  obtain ⟨h1, h2⟩ := h
  subst hU
  exact ⟨((h1.kept hS.2.1).moved hW.alike).narrow hF, ((h2.kept hS.2.1).moved hW.alike).narrow hF⟩
theorem z_Wc {wA : Nat} {A : Nat → Prop} {u U : State} (e : u.vm = U.vm) (eh : u.heap = U.heap) (h : gW wA A u) : gW wA A U := by
  obtain ⟨h1, h2⟩ := h
  have ha : u.vm.Alike U.vm := e ▸ Vm.Alike.refl u.vm
  rw [eh] at h1 h2
  exact ⟨h1.moved ha, h2.moved ha⟩
theorem z_wt {a : Int32} (h : vp_in a 5) : ¬ ([10000, 1000, 100, 10, 1] : List Int32).getD a.toNatClampNeg 0 = 0 := by
  obtain ⟨j, hj, rfl⟩ := vp_in_of h (by decide)
  rw [nI_clamp (by omega)]
  rcases (show j = 0 ∨ j = 1 ∨ j = 2 ∨ j = 3 ∨ j = 4 by omega) with rfl | rfl | rfl | rfl | rfl <;> decide
/-- r rows of people from the t-th of a row of rows on, whatever they hold -/
def zRows (Z : gZ) (sa : Nat → Option Nat) : Nat → Nat → va_W → Prop
  | 0, _, E => E = []
  | r + 1, t, E => ∃ (h k q : Nat) (v kn ak : Int32) (f g : Nat → Int32) (E1 : va_W), sa t = some h ∧ E = [(h, .inr (0, [.int v, .int kn, .int ak, .ref k, .ref q])), (k, .inl (Z.2 0, 5, .inl f)), (q, .inl (Z.2 0, 5, .inl g))] ++ E1 ∧ zRows Z sa r (t + 1) E1
theorem zRows_ex {Z : gZ} {sa : Nat → Option Nat} {r t : Nat} {E : va_W} (h : zRows Z sa (r + 1) t E) : ∃ (h k q : Nat) (v kn ak : Int32) (f g : Nat → Int32) (E1 : va_W), sa t = some h ∧ E = [(h, .inr (0, [.int v, .int kn, .int ak, .ref k, .ref q])), (k, .inl (Z.2 0, 5, .inl f)), (q, .inl (Z.2 0, 5, .inl g))] ++ E1 ∧ zRows Z sa r (t + 1) E1 := h
theorem zRows_mk {Z : gZ} {sa : Nat → Option Nat} {r t h k q : Nat} {v kn ak : Int32} {f g : Nat → Int32} {E1 : va_W} (hs : sa t = some h) (hE : zRows Z sa r (t + 1) E1) : zRows Z sa (r + 1) t ([(h, .inr (0, [.int v, .int kn, .int ak, .ref k, .ref q])), (k, .inl (Z.2 0, 5, .inl f)), (q, .inl (Z.2 0, 5, .inl g))] ++ E1) := ⟨h, k, q, v, kn, ak, f, g, E1, hs, rfl, hE⟩
theorem zRows_nx {Z : gZ} {sa : Nat → Option Nat} {r t : Nat} {E : va_W} (h : zRows Z sa (r + 1) t E) : ∃ nx, sa t = some nx := by
  obtain ⟨nx, -, -, -, -, -, -, -, -, hs, -⟩ := zRows_ex h
  exact ⟨nx, hs⟩
theorem z_of32 (x : Int32) : ∃ n, n < 4294967296 ∧ x = nI n := ⟨x.toBitVec.toNat, x.toBitVec.isLt, Int32.toBitVec_inj.mp (by show _ = BitVec.ofNat 32 _; simp)⟩
theorem z_nand (a b : Nat) : nI a &&& nI b = nI (a &&& b) := by
  apply Int32.toBitVec_inj.1
  show BitVec.ofNat 32 a &&& BitVec.ofNat 32 b = BitVec.ofNat 32 (a &&& b)
  apply BitVec.eq_of_getLsbD_eq
  intro i hi
  simp [BitVec.getLsbD_ofNat, hi]
theorem z_and {L : Nat} (h : L < 32) (x : Int32) : ∃ j, j < 32 ∧ nI L &&& x = nI j := by
  obtain ⟨m, -, rfl⟩ := z_of32 x
  exact ⟨L &&& m, Nat.lt_of_le_of_lt Nat.and_le_left h, z_nand L m⟩
theorem z_mask {n : Nat} (h : n ≤ 5) : ∃ L, L < 32 ∧ (1 : Int32) <<< (nI n &&& 31) - 1 = nI L := by
  rcases (show n = 0 ∨ n = 1 ∨ n = 2 ∨ n = 3 ∨ n = 4 ∨ n = 5 by omega) with rfl | rfl | rfl | rfl | rfl | rfl
  · exact ⟨0, by decide, by decide⟩
  · exact ⟨1, by decide, by decide⟩
  · exact ⟨3, by decide, by decide⟩
  · exact ⟨7, by decide, by decide⟩
  · exact ⟨15, by decide, by decide⟩
  · exact ⟨31, by decide, by decide⟩
set_option maxHeartbeats 4000000 in
set_option maxRecDepth 100000 in
theorem c_X6_keepBetter (l : Launch) (Z : gZ) (sz : Nat) (h0 : Nat) (mo : Int32) (wy : Int32) (asn : Int32) (pl : Nat) (sr : Nat) (a : Int32) (b : Int32)  : Met l yX6_keepBetter wsX6_keepBetter ({ frames := 0, cells := 0, slots := 0, locals := 0 }) (va_Pc [.ref h0, .int a, .int b] (fun U => U.heap.size = sz ∧ va_P Z.1 vwCl [(h0, .inr (6, [.int mo, .int wy, .int asn, .ref pl, .ref sr]))] U.heap ∧ va_K Z.1 vwCl (gT Z) U ∧ va_D (fun _ => True) [(h0, .inr (6, [.int mo, .int wy, .int asn, .ref pl, .ref sr]))])) (va_Qv (fun (u : Int32 × Int32) => match u with | (mo1, wy1) => True) (fun (u : Int32 × Int32) (t9 : State) => match u with | (mo1, wy1) => va_P Z.1 vwCl [(h0, .inr (6, [.int mo1, .int wy1, .int asn, .ref pl, .ref sr]))] t9.heap ∧ va_D (va_A [(h0, .inr (6, [.int mo, .int wy, .int asn, .ref pl, .ref sr]))] sz) [(h0, .inr (6, [.int mo1, .int wy1, .int asn, .ref pl, .ref sr]))]) (va_A [(h0, .inr (6, [.int mo, .int wy, .int asn, .ref pl, .ref sr]))] sz)) 0 0 (va_A [(h0, .inr (6, [.int mo, .int wy, .int asn, .ref pl, .ref sr]))] sz) := by
  refine Met.ofW (cc := cX6_keepBetter) (maxL := 3) (ret := none) (by decide) rfl ?_
  intro p e s m args below meth c s₁ B hml hv
  obtain ⟨rfl, hsz, hP, hK, hD0⟩ := hv
  have hx := B.exec
  have hb := B.bytes
  have hr := B.returns
  have hts := atoms_spec (ws := wsX6_keepBetter) B.pre
  have hown : s.vm.findClass RX6 = some m.cls := findClass_of_methodNamed B.named
  have hlocks := B.notSynchronized
  subst hsz
  have hin6 : ∀ w ∈ wsX60, w ∈ wsX6_keepBetter := fun w h9 => (List.mem_cons_of_mem _ (List.mem_append_right _ h9))
  have hD := hD0.self (sz := s.heap.size)
  generalize hAe : va_A [(h0, .inr (6, [.int mo, .int wy, .int asn, .ref pl, .ref sr]))] s.heap.size = A at hD ⊢
  have hA : ∀ q : Nat, s.heap.size ≤ q → A q := fun q h => by rw [← hAe]; exact Or.inr h
  have hS : va_S A s.heap s.heap [] := va_S.rf
  have hP : va_P Z.1 vwCl [(h0, .inr (6, [.int mo, .int wy, .int asn, .ref pl, .ref sr]))] s.heap := hP
  have hl := lv_entry ([.ref h0, .int a, .int b]) (n := 3) (Nat.le_of_ble_eq_true rfl)
  rw [lg_entry_eq]
  generalize (lg_sl ([.ref h0, .int a, .int b]) ++ List.replicate (3 - (lg_sl ([.ref h0, .int a, .int b])).length) Slot.unset).toArray = ls at hl ⊢
  have hl : lv_has ls 3 [(0, .ref h0), (1, .int a), (2, .int b)] := hl
  refine lv_iload_n hx hb dX6_keepBetter_0 rfl (lv_at hl 1 rfl) ?_
  refine lv_aload_n hx hb dX6_keepBetter_1 rfl (lv_at hl 0 rfl) ?_
  refine va_get (D := Z.1) (ci := 6) (v := .int mo) (C := RX6) (T := TX6) (N := 5) hx hb hts hin6 hown hK hP 0 rfl rfl 0 (by decide) (hts (.fieldLink RX6 9 "HalfAsked$Timing" "most" "I") (List.mem_of_getElem? (i := 1) rfl)) (fun _ h9 => h9) rfl dX6_keepBetter_2 ?_
  refine lv_icmp_gt (tgt := 24) hx hb dX6_keepBetter_5 (by decide) (fun c_1 => ?_) (fun c_1 => ?_)
  · refine lv_aload_n hx hb dX6_keepBetter_24 rfl (lv_at hl 0 rfl) ?_
    refine lv_iload_n hx hb dX6_keepBetter_25 rfl (lv_at hl 1 rfl) ?_
    refine va_put (D := Z.1) (ci := 6) (v := .int a) (ty := .int) (C := RX6) (T := TX6) (N := 5) hx hb hts hin6 tyX6 tyX6_ok nmX6 hown hK hP hD hS 0 rfl rfl 0 (by decide) (hts (.fieldLink RX6 9 "HalfAsked$Timing" "most" "I") (List.mem_of_getElem? (i := 1) rfl)) (fun _ h9 => h9) rfl (by decide +kernel) rfl rfl (Nat.le_of_ble_eq_true rfl) dX6_keepBetter_26 (fun H locs hP hD hS => ?_)
    have hP : va_P Z.1 vwCl [(h0, .inr (6, [.int a, .int wy, .int asn, .ref pl, .ref sr]))] H := hP
    have hD : va_D A [(h0, .inr (6, [.int a, .int wy, .int asn, .ref pl, .ref sr]))] := hD
    refine lv_aload_n hx hb dX6_keepBetter_29 rfl (lv_at hl 0 rfl) ?_
    refine lv_iload_n hx hb dX6_keepBetter_30 rfl (lv_at hl 2 rfl) ?_
    refine va_put (D := Z.1) (ci := 6) (v := .int b) (ty := .int) (C := RX6) (T := TX6) (N := 5) hx hb hts hin6 tyX6 tyX6_ok nmX6 hown hK hP hD hS 0 rfl rfl 1 (by decide) (hts (.fieldLink RX6 15 "HalfAsked$Timing" "way" "I") (List.mem_of_getElem? (i := 2) rfl)) (fun _ h9 => h9) rfl (by decide +kernel) rfl rfl (Nat.le_of_ble_eq_true rfl) dX6_keepBetter_31 (fun H locs hP hD hS => ?_)
    have hP : va_P Z.1 vwCl [(h0, .inr (6, [.int a, .int b, .int asn, .ref pl, .ref sr]))] H := hP
    have hD : va_D A [(h0, .inr (6, [.int a, .int b, .int asn, .ref pl, .ref sr]))] := hD
    have hP9 := hP.sub (ws' := [(h0, .inr (6, [.int a, .int b, .int asn, .ref pl, .ref sr]))]) [0] rfl
    have hD9 := hD.sub (ws' := [(h0, .inr (6, [.int a, .int b, .int asn, .ref pl, .ref sr]))]) [0] (by decide) rfl
    exact W.vret hx hb hr (fun t9 ht hW => ⟨⟨(a, b), rfl, trivial, by rw [ht]; exact hP9, hD9⟩, hS.F ht⟩) hS.2.2 dX6_keepBetter_34
  · refine lv_iload_n hx hb dX6_keepBetter_8 rfl (lv_at hl 1 rfl) ?_
    refine lv_aload_n hx hb dX6_keepBetter_9 rfl (lv_at hl 0 rfl) ?_
    refine va_get (D := Z.1) (ci := 6) (v := .int mo) (C := RX6) (T := TX6) (N := 5) hx hb hts hin6 hown hK hP 0 rfl rfl 0 (by decide) (hts (.fieldLink RX6 9 "HalfAsked$Timing" "most" "I") (List.mem_of_getElem? (i := 1) rfl)) (fun _ h9 => h9) rfl dX6_keepBetter_10 ?_
    refine lv_icmp_ne (tgt := 34) hx hb dX6_keepBetter_13 (by decide) (fun c_2 => ?_) (fun c_2 => ?_)
    · have hP9 := hP.sub (ws' := [(h0, .inr (6, [.int mo, .int wy, .int asn, .ref pl, .ref sr]))]) [0] rfl
      have hD9 := hD.sub (ws' := [(h0, .inr (6, [.int mo, .int wy, .int asn, .ref pl, .ref sr]))]) [0] (by decide) rfl
      exact W.vret hx hb hr (fun t9 ht hW => ⟨⟨(mo, wy), rfl, trivial, by rw [ht]; exact hP9, hD9⟩, hS.F ht⟩) hS.2.2 dX6_keepBetter_34
    · refine lv_iload_n hx hb dX6_keepBetter_16 rfl (lv_at hl 2 rfl) ?_
      refine lv_aload_n hx hb dX6_keepBetter_17 rfl (lv_at hl 0 rfl) ?_
      refine va_get (D := Z.1) (ci := 6) (v := .int wy) (C := RX6) (T := TX6) (N := 5) hx hb hts hin6 hown hK hP 0 rfl rfl 1 (by decide) (hts (.fieldLink RX6 15 "HalfAsked$Timing" "way" "I") (List.mem_of_getElem? (i := 2) rfl)) (fun _ h9 => h9) rfl dX6_keepBetter_18 ?_
      refine lv_icmp_ge (tgt := 34) hx hb dX6_keepBetter_21 (by decide) (fun c_3 => ?_) (fun c_3 => ?_)
      · have hP9 := hP.sub (ws' := [(h0, .inr (6, [.int mo, .int wy, .int asn, .ref pl, .ref sr]))]) [0] rfl
        have hD9 := hD.sub (ws' := [(h0, .inr (6, [.int mo, .int wy, .int asn, .ref pl, .ref sr]))]) [0] (by decide) rfl
        exact W.vret hx hb hr (fun t9 ht hW => ⟨⟨(mo, wy), rfl, trivial, by rw [ht]; exact hP9, hD9⟩, hS.F ht⟩) hS.2.2 dX6_keepBetter_34
      · refine lv_aload_n hx hb dX6_keepBetter_24 rfl (lv_at hl 0 rfl) ?_
        refine lv_iload_n hx hb dX6_keepBetter_25 rfl (lv_at hl 1 rfl) ?_
        refine va_put (D := Z.1) (ci := 6) (v := .int a) (ty := .int) (C := RX6) (T := TX6) (N := 5) hx hb hts hin6 tyX6 tyX6_ok nmX6 hown hK hP hD hS 0 rfl rfl 0 (by decide) (hts (.fieldLink RX6 9 "HalfAsked$Timing" "most" "I") (List.mem_of_getElem? (i := 1) rfl)) (fun _ h9 => h9) rfl (by decide +kernel) rfl rfl (Nat.le_of_ble_eq_true rfl) dX6_keepBetter_26 (fun H locs hP hD hS => ?_)
        have hP : va_P Z.1 vwCl [(h0, .inr (6, [.int a, .int wy, .int asn, .ref pl, .ref sr]))] H := hP
        have hD : va_D A [(h0, .inr (6, [.int a, .int wy, .int asn, .ref pl, .ref sr]))] := hD
        refine lv_aload_n hx hb dX6_keepBetter_29 rfl (lv_at hl 0 rfl) ?_
        refine lv_iload_n hx hb dX6_keepBetter_30 rfl (lv_at hl 2 rfl) ?_
        refine va_put (D := Z.1) (ci := 6) (v := .int b) (ty := .int) (C := RX6) (T := TX6) (N := 5) hx hb hts hin6 tyX6 tyX6_ok nmX6 hown hK hP hD hS 0 rfl rfl 1 (by decide) (hts (.fieldLink RX6 15 "HalfAsked$Timing" "way" "I") (List.mem_of_getElem? (i := 2) rfl)) (fun _ h9 => h9) rfl (by decide +kernel) rfl rfl (Nat.le_of_ble_eq_true rfl) dX6_keepBetter_31 (fun H locs hP hD hS => ?_)
        have hP : va_P Z.1 vwCl [(h0, .inr (6, [.int a, .int b, .int asn, .ref pl, .ref sr]))] H := hP
        have hD : va_D A [(h0, .inr (6, [.int a, .int b, .int asn, .ref pl, .ref sr]))] := hD
        have hP9 := hP.sub (ws' := [(h0, .inr (6, [.int a, .int b, .int asn, .ref pl, .ref sr]))]) [0] rfl
        have hD9 := hD.sub (ws' := [(h0, .inr (6, [.int a, .int b, .int asn, .ref pl, .ref sr]))]) [0] (by decide) rfl
        exact W.vret hx hb hr (fun t9 ht hW => ⟨⟨(a, b), rfl, trivial, by rw [ht]; exact hP9, hD9⟩, hS.F ht⟩) hS.2.2 dX6_keepBetter_34
set_option maxHeartbeats 4000000 in
set_option maxRecDepth 100000 in
theorem c_X6_worthAsking_s (l : Launch) (Z : gZ) (sz : Nat) (h0 : Nat) (mo : Int32) (wy : Int32) (asn : Int32) (pl : Nat) (sr : Nat) (pn : Nat) (pe : Int32) (pk : Nat) (pq : Nat) (pf : Nat → Int32) (pg : Nat → Int32) (x : Nat) (hx8 : x < 8) : Met l yX6_worthAsking wsX6_worthAsking ({ frames := 1, cells := 0, slots := 0, locals := 21 }) (va_Pc [.ref h0, .int (nI (x + 1))] (fun U => U.heap.size = sz ∧ va_P Z.1 vwCl [(h0, .inr (6, [.int mo, .int wy, .int asn, .ref pl, .ref sr])), (pl, .inr (2, [.int (nI pn), .int pe, .ref pk, .ref pq])), (pk, .inl (Z.2 0, 8, .inl pf)), (pq, .inl (Z.2 0, 8, .inl pg))] U.heap ∧ va_K Z.1 vwCl (gT Z) U ∧ va_D (fun _ => True) [(h0, .inr (6, [.int mo, .int wy, .int asn, .ref pl, .ref sr])), (pl, .inr (2, [.int (nI pn), .int pe, .ref pk, .ref pq])), (pk, .inl (Z.2 0, 8, .inl pf)), (pq, .inl (Z.2 0, 8, .inl pg))])) (va_Qi (fun (r : Int32) (u : Unit) => True) (fun (u : Unit) (t9 : State) => va_P Z.1 vwCl [(h0, .inr (6, [.int mo, .int wy, .int asn, .ref pl, .ref sr])), (pl, .inr (2, [.int (nI pn), .int pe, .ref pk, .ref pq])), (pk, .inl (Z.2 0, 8, .inl pf)), (pq, .inl (Z.2 0, 8, .inl pg))] t9.heap ∧ va_D (va_A [(h0, .inr (6, [.int mo, .int wy, .int asn, .ref pl, .ref sr])), (pl, .inr (2, [.int (nI pn), .int pe, .ref pk, .ref pq])), (pk, .inl (Z.2 0, 8, .inl pf)), (pq, .inl (Z.2 0, 8, .inl pg))] sz) [(h0, .inr (6, [.int mo, .int wy, .int asn, .ref pl, .ref sr])), (pl, .inr (2, [.int (nI pn), .int pe, .ref pk, .ref pq])), (pk, .inl (Z.2 0, 8, .inl pf)), (pq, .inl (Z.2 0, 8, .inl pg))]) (va_A [(h0, .inr (6, [.int mo, .int wy, .int asn, .ref pl, .ref sr])), (pl, .inr (2, [.int (nI pn), .int pe, .ref pk, .ref pq])), (pk, .inl (Z.2 0, 8, .inl pf)), (pq, .inl (Z.2 0, 8, .inl pg))] sz)) 0 0 (va_A [(h0, .inr (6, [.int mo, .int wy, .int asn, .ref pl, .ref sr])), (pl, .inr (2, [.int (nI pn), .int pe, .ref pk, .ref pq])), (pk, .inl (Z.2 0, 8, .inl pf)), (pq, .inl (Z.2 0, 8, .inl pg))] sz) := by
  refine Met.ofW (cc := cX6_worthAsking) (maxL := 3) (ret := (some .int)) (by decide) rfl ?_
  intro p e s m args below meth c s₁ B hml hv
  obtain ⟨rfl, hsz, hP, hK, hD0⟩ := hv
  have hx := B.exec
  have hb := B.bytes
  have hr := B.returns
  have hts := atoms_spec (ws := wsX6_worthAsking) B.pre
  have hown : s.vm.findClass RX6 = some m.cls := findClass_of_methodNamed B.named
  have hlocks := B.notSynchronized
  subst hsz
  have hin2 : ∀ w ∈ wsX20, w ∈ wsX6_worthAsking := fun w h9 => (List.mem_cons_of_mem _ (List.mem_append_right _ h9))
  have hin6 : ∀ w ∈ wsX60, w ∈ wsX6_worthAsking := fun w h9 => (List.mem_cons_of_mem _ (List.mem_append_left _ (List.mem_append_right _ h9)))
  have hD := hD0.self (sz := s.heap.size)
  generalize hAe : va_A [(h0, .inr (6, [.int mo, .int wy, .int asn, .ref pl, .ref sr])), (pl, .inr (2, [.int (nI pn), .int pe, .ref pk, .ref pq])), (pk, .inl (Z.2 0, 8, .inl pf)), (pq, .inl (Z.2 0, 8, .inl pg))] s.heap.size = A at hD ⊢
  have hA : ∀ q : Nat, s.heap.size ≤ q → A q := fun q h => by rw [← hAe]; exact Or.inr h
  have hS : va_S A s.heap s.heap [] := va_S.rf
  have hP : va_P Z.1 vwCl [(h0, .inr (6, [.int mo, .int wy, .int asn, .ref pl, .ref sr])), (pl, .inr (2, [.int (nI pn), .int pe, .ref pk, .ref pq])), (pk, .inl (Z.2 0, 8, .inl pf)), (pq, .inl (Z.2 0, 8, .inl pg))] s.heap := hP
  have hl := lv_entry ([.ref h0, .int (nI (x + 1))]) (n := 3) (Nat.le_of_ble_eq_true rfl)
  rw [lg_entry_eq]
  generalize (lg_sl ([.ref h0, .int (nI (x + 1))]) ++ List.replicate (3 - (lg_sl ([.ref h0, .int (nI (x + 1))])).length) Slot.unset).toArray = ls at hl ⊢
  have hl : lv_has ls 3 [(0, .ref h0), (1, .int (nI (x + 1)))] := hl
  refine lv_iload_n hx hb dX6_worthAsking_0 rfl (lv_at hl 1 rfl) ?_
  refine lv_iconst (v := 1) hx hb dX6_worthAsking_1 (by decide) ?_
  refine lv_isub hx hb dX6_worthAsking_2 ?_
  refine lv_topi (fun f_1 ef_1 => ?_)
  obtain rfl : nI x = f_1 := (ef_1.trans (nI_pred _)).symm
  refine lv_istore_n (lv' := [(2, .int (nI x)), (0, .ref h0), (1, .int (nI (x + 1)))]) hx hb dX6_worthAsking_3 rfl hl (by decide) rfl (fun ls hl => ?_)
  refine lv_iload_n hx hb dX6_worthAsking_4 rfl (lv_at hl 0 rfl) ?_
  refine lv_if_lt (tgt := 35) hx hb dX6_worthAsking_5 (by decide) (fun c9 => absurd c9 (nI_pos (by omega))) (fun _ => ?_)
  refine lv_aload_n hx hb dX6_worthAsking_8 rfl (lv_at hl 1 rfl) ?_
  refine va_get (D := Z.1) (ci := 6) (v := .ref pl) (C := RX6) (T := TX6) (N := 5) hx hb hts hin6 hown hK hP 0 rfl rfl 3 (by decide) (hts (.fieldLink RX6 24 "HalfAsked$Timing" "plan" "LHalfAsked$Plan;") (List.mem_of_getElem? (i := 1) rfl)) (fun _ h9 => h9) rfl dX6_worthAsking_9 ?_
  refine lv_iload_n hx hb dX6_worthAsking_12 rfl (lv_at hl 0 rfl) ?_
  have hPc := hP.sub (ws' := [(pl, .inr (2, [.int (nI pn), .int pe, .ref pk, .ref pq]))]) [1] rfl
  have hDc := hD.sub (ws' := [(pl, .inr (2, [.int (nI pn), .int pe, .ref pk, .ref pq]))]) [1] (by decide) rfl
  have hFc := va_free (wc := [(pl, .inr (2, [.int (nI pn), .int pe, .ref pk, .ref pq]))]) hD hS hA [1] rfl
  refine va_calli (va_runV (As := [.int (nI x)]) (rest := []) ⟨hx, hb, hml, hown, hts⟩ (c_X2_endsWeek l Z s.heap.size pl (nI pn) pe pk pq (nI x)) (cwV 1 hts gX6_worthAsking_X2_endsWeek rfl rfl rfl (by decide +kernel) ⟨Nat.le_of_ble_eq_true rfl, Nat.le_of_ble_eq_true rfl⟩) ⟨fun a U g mk q => by obtain ⟨q0, q1, qP, qK, qD⟩ := q; exact ⟨q0, q1, qP, va_K.moved (u := U) (U := U.calling g mk a) (Vm.Alike.refl U.vm) qK, qD⟩, va_recv hK hPc (ci := 2) (q0 := 0) rfl rfl, fun U hU hW => ⟨rfl, by rw [hU], by rw [hU]; exact hPc, va_K.moved hW.alike hK, hDc.weaken (fun _ _ _ _ => trivial)⟩⟩ rfl rfl hl.1 rfl (lv_room (Nat.le_of_ble_eq_true rfl)) dX6_worthAsking_13 ⟨Nat.le_of_ble_eq_true rfl, Nat.le_of_ble_eq_true rfl⟩) hS (fun q _ h => hFc q h) hFc (fun r_2 u t9 H1 locs ht hvm hw hB hz1 hk1 hS => ?_)
  have hw9 := hw.symm
  clear hw
  subst hw9
  obtain ⟨hP1, hD1⟩ := hB
  rw [ht] at hP1
  obtain ⟨hP, hD⟩ := va_join (wr := [(h0, .inr (6, [.int mo, .int wy, .int asn, .ref pl, .ref sr])), (pk, .inl (Z.2 0, 8, .inl pf)), (pq, .inl (Z.2 0, 8, .inl pg))]) (w1 := [(pl, .inr (2, [.int (nI pn), .int pe, .ref pk, .ref pq]))]) hP hD [1] [0, 2, 3] rfl rfl (by decide) (by decide) hk1 hFc hP1 hD1
  clear hPc hDc hP1 hD1 hk1 hz1 hFc ht hvm
  generalize H1 = H at hP hS ⊢
  have hP : va_P Z.1 vwCl [(h0, .inr (6, [.int mo, .int wy, .int asn, .ref pl, .ref sr])), (pk, .inl (Z.2 0, 8, .inl pf)), (pq, .inl (Z.2 0, 8, .inl pg)), (pl, .inr (2, [.int (nI pn), .int pe, .ref pk, .ref pq]))] H := hP
  have hD : va_D A [(h0, .inr (6, [.int mo, .int wy, .int asn, .ref pl, .ref sr])), (pk, .inl (Z.2 0, 8, .inl pf)), (pq, .inl (Z.2 0, 8, .inl pg)), (pl, .inr (2, [.int (nI pn), .int pe, .ref pk, .ref pq]))] := hD
  refine lv_if_ne (tgt := 35) hx hb dX6_worthAsking_16 (by decide) (fun c_3 => ?_) (fun c_3 => ?_)
  · refine lv_bipush (v := 31) hx hb dX6_worthAsking_35 (by decide) ?_
    have hP9 := hP.sub (ws' := [(h0, .inr (6, [.int mo, .int wy, .int asn, .ref pl, .ref sr])), (pl, .inr (2, [.int (nI pn), .int pe, .ref pk, .ref pq])), (pk, .inl (Z.2 0, 8, .inl pf)), (pq, .inl (Z.2 0, 8, .inl pg))]) [0, 3, 1, 2] rfl
    have hD9 := hD.sub (ws' := [(h0, .inr (6, [.int mo, .int wy, .int asn, .ref pl, .ref sr])), (pl, .inr (2, [.int (nI pn), .int pe, .ref pk, .ref pq])), (pk, .inl (Z.2 0, 8, .inl pf)), (pq, .inl (Z.2 0, 8, .inl pg))]) [0, 3, 1, 2] (by decide) rfl
    exact W.iret (v := 31) hx hb hr (fun t9 ht hW => ⟨⟨31, (), rfl, trivial, by rw [ht]; exact hP9, hD9⟩, hS.F ht⟩) hS.2.2 dX6_worthAsking_37
  · refine lv_aload_n hx hb dX6_worthAsking_19 rfl (lv_at hl 1 rfl) ?_
    refine va_get (D := Z.1) (ci := 6) (v := .ref pl) (C := RX6) (T := TX6) (N := 5) hx hb hts hin6 hown hK hP 0 rfl rfl 3 (by decide) (hts (.fieldLink RX6 24 "HalfAsked$Timing" "plan" "LHalfAsked$Plan;") (List.mem_of_getElem? (i := 1) rfl)) (fun _ h9 => h9) rfl dX6_worthAsking_20 ?_
    refine va_get (D := Z.1) (ci := 2) (v := .ref pq) (C := RX2) (T := TX2) (N := 4) hx hb hts hin2 hown hK hP 3 rfl rfl 3 (by decide) (hts (.fieldLink RX6 80 "HalfAsked$Plan" "of" "[I") (List.mem_of_getElem? (i := 2) rfl)) (fun _ h9 => h9) rfl dX6_worthAsking_23 ?_
    refine lv_iload_n hx hb dX6_worthAsking_26 rfl (lv_at hl 0 rfl) ?_
    refine va_iald hx hb hK hP 2 0 rfl rfl (vp_in_nI (by omega) (by decide)) dX6_worthAsking_27 ?_
    refine lv_aload_n hx hb dX6_worthAsking_28 rfl (lv_at hl 1 rfl) ?_
    refine va_get (D := Z.1) (ci := 6) (v := .int asn) (C := RX6) (T := TX6) (N := 5) hx hb hts hin6 hown hK hP 0 rfl rfl 2 (by decide) (hts (.fieldLink RX6 18 "HalfAsked$Timing" "asker" "I") (List.mem_of_getElem? (i := 3) rfl)) (fun _ h9 => h9) rfl dX6_worthAsking_29 ?_
    refine lv_icmp_ne (tgt := 38) hx hb dX6_worthAsking_32 (by decide) (fun c_4 => ?_) (fun c_4 => ?_)
    · refine lv_iconst (v := 1) hx hb dX6_worthAsking_38 (by decide) ?_
      refine lv_aload_n hx hb dX6_worthAsking_39 rfl (lv_at hl 1 rfl) ?_
      refine va_get (D := Z.1) (ci := 6) (v := .ref pl) (C := RX6) (T := TX6) (N := 5) hx hb hts hin6 hown hK hP 0 rfl rfl 3 (by decide) (hts (.fieldLink RX6 24 "HalfAsked$Timing" "plan" "LHalfAsked$Plan;") (List.mem_of_getElem? (i := 1) rfl)) (fun _ h9 => h9) rfl dX6_worthAsking_40 ?_
      refine va_get (D := Z.1) (ci := 2) (v := .ref pk) (C := RX2) (T := TX2) (N := 4) hx hb hts hin2 hown hK hP 3 rfl rfl 2 (by decide) (hts (.fieldLink RX6 83 "HalfAsked$Plan" "by" "[I") (List.mem_of_getElem? (i := 4) rfl)) (fun _ h9 => h9) rfl dX6_worthAsking_43 ?_
      refine lv_iload_n hx hb dX6_worthAsking_46 rfl (lv_at hl 0 rfl) ?_
      refine va_iald hx hb hK hP 1 0 rfl rfl (vp_in_nI (by omega) (by decide)) dX6_worthAsking_47 ?_
      refine lv_ishl hx hb dX6_worthAsking_48 ?_
      refine lv_iconst (v := 1) hx hb dX6_worthAsking_49 (by decide) ?_
      refine lv_aload_n hx hb dX6_worthAsking_50 rfl (lv_at hl 1 rfl) ?_
      refine va_get (D := Z.1) (ci := 6) (v := .ref pl) (C := RX6) (T := TX6) (N := 5) hx hb hts hin6 hown hK hP 0 rfl rfl 3 (by decide) (hts (.fieldLink RX6 24 "HalfAsked$Timing" "plan" "LHalfAsked$Plan;") (List.mem_of_getElem? (i := 1) rfl)) (fun _ h9 => h9) rfl dX6_worthAsking_51 ?_
      refine va_get (D := Z.1) (ci := 2) (v := .ref pq) (C := RX2) (T := TX2) (N := 4) hx hb hts hin2 hown hK hP 3 rfl rfl 3 (by decide) (hts (.fieldLink RX6 80 "HalfAsked$Plan" "of" "[I") (List.mem_of_getElem? (i := 2) rfl)) (fun _ h9 => h9) rfl dX6_worthAsking_54 ?_
      refine lv_iload_n hx hb dX6_worthAsking_57 rfl (lv_at hl 0 rfl) ?_
      refine va_iald hx hb hK hP 2 0 rfl rfl (vp_in_nI (by omega) (by decide)) dX6_worthAsking_58 ?_
      refine lv_ishl hx hb dX6_worthAsking_59 ?_
      refine lv_ior hx hb dX6_worthAsking_60 ?_
      have hP9 := hP.sub (ws' := [(h0, .inr (6, [.int mo, .int wy, .int asn, .ref pl, .ref sr])), (pl, .inr (2, [.int (nI pn), .int pe, .ref pk, .ref pq])), (pk, .inl (Z.2 0, 8, .inl pf)), (pq, .inl (Z.2 0, 8, .inl pg))]) [0, 3, 1, 2] rfl
      have hD9 := hD.sub (ws' := [(h0, .inr (6, [.int mo, .int wy, .int asn, .ref pl, .ref sr])), (pl, .inr (2, [.int (nI pn), .int pe, .ref pk, .ref pq])), (pk, .inl (Z.2 0, 8, .inl pf)), (pq, .inl (Z.2 0, 8, .inl pg))]) [0, 3, 1, 2] (by decide) rfl
      exact W.iret (v := ((1 <<< ((pf (nI x).toNatClampNeg) &&& 31)) ||| (1 <<< ((pg (nI x).toNatClampNeg) &&& 31)))) hx hb hr (fun t9 ht hW => ⟨⟨(1 <<< ((pf (nI x).toNatClampNeg) &&& 31)) ||| (1 <<< ((pg (nI x).toNatClampNeg) &&& 31)), (), rfl, trivial, by rw [ht]; exact hP9, hD9⟩, hS.F ht⟩) hS.2.2 dX6_worthAsking_61
    · refine lv_bipush (v := 31) hx hb dX6_worthAsking_35 (by decide) ?_
      have hP9 := hP.sub (ws' := [(h0, .inr (6, [.int mo, .int wy, .int asn, .ref pl, .ref sr])), (pl, .inr (2, [.int (nI pn), .int pe, .ref pk, .ref pq])), (pk, .inl (Z.2 0, 8, .inl pf)), (pq, .inl (Z.2 0, 8, .inl pg))]) [0, 3, 1, 2] rfl
      have hD9 := hD.sub (ws' := [(h0, .inr (6, [.int mo, .int wy, .int asn, .ref pl, .ref sr])), (pl, .inr (2, [.int (nI pn), .int pe, .ref pk, .ref pq])), (pk, .inl (Z.2 0, 8, .inl pf)), (pq, .inl (Z.2 0, 8, .inl pg))]) [0, 3, 1, 2] (by decide) rfl
      exact W.iret (v := 31) hx hb hr (fun t9 ht hW => ⟨⟨31, (), rfl, trivial, by rw [ht]; exact hP9, hD9⟩, hS.F ht⟩) hS.2.2 dX6_worthAsking_37
set_option maxHeartbeats 4000000 in
set_option maxRecDepth 100000 in
theorem c_X6_worthAsking_0 (l : Launch) (Z : gZ) (sz : Nat) (h0 : Nat) (mo : Int32) (wy : Int32) (asn : Int32) (pl : Nat) (sr : Nat) (pn : Nat) (pe : Int32) (pk : Nat) (pq : Nat) (pf : Nat → Int32) (pg : Nat → Int32)  : Met l yX6_worthAsking wsX6_worthAsking ({ frames := 1, cells := 0, slots := 0, locals := 21 }) (va_Pc [.ref h0, .int 0] (fun U => U.heap.size = sz ∧ va_P Z.1 vwCl [(h0, .inr (6, [.int mo, .int wy, .int asn, .ref pl, .ref sr])), (pl, .inr (2, [.int (nI pn), .int pe, .ref pk, .ref pq])), (pk, .inl (Z.2 0, 8, .inl pf)), (pq, .inl (Z.2 0, 8, .inl pg))] U.heap ∧ va_K Z.1 vwCl (gT Z) U ∧ va_D (fun _ => True) [(h0, .inr (6, [.int mo, .int wy, .int asn, .ref pl, .ref sr])), (pl, .inr (2, [.int (nI pn), .int pe, .ref pk, .ref pq])), (pk, .inl (Z.2 0, 8, .inl pf)), (pq, .inl (Z.2 0, 8, .inl pg))])) (va_Qi (fun (r : Int32) (u : Unit) => True) (fun (u : Unit) (t9 : State) => va_P Z.1 vwCl [(h0, .inr (6, [.int mo, .int wy, .int asn, .ref pl, .ref sr])), (pl, .inr (2, [.int (nI pn), .int pe, .ref pk, .ref pq])), (pk, .inl (Z.2 0, 8, .inl pf)), (pq, .inl (Z.2 0, 8, .inl pg))] t9.heap ∧ va_D (va_A [(h0, .inr (6, [.int mo, .int wy, .int asn, .ref pl, .ref sr])), (pl, .inr (2, [.int (nI pn), .int pe, .ref pk, .ref pq])), (pk, .inl (Z.2 0, 8, .inl pf)), (pq, .inl (Z.2 0, 8, .inl pg))] sz) [(h0, .inr (6, [.int mo, .int wy, .int asn, .ref pl, .ref sr])), (pl, .inr (2, [.int (nI pn), .int pe, .ref pk, .ref pq])), (pk, .inl (Z.2 0, 8, .inl pf)), (pq, .inl (Z.2 0, 8, .inl pg))]) (va_A [(h0, .inr (6, [.int mo, .int wy, .int asn, .ref pl, .ref sr])), (pl, .inr (2, [.int (nI pn), .int pe, .ref pk, .ref pq])), (pk, .inl (Z.2 0, 8, .inl pf)), (pq, .inl (Z.2 0, 8, .inl pg))] sz)) 0 0 (va_A [(h0, .inr (6, [.int mo, .int wy, .int asn, .ref pl, .ref sr])), (pl, .inr (2, [.int (nI pn), .int pe, .ref pk, .ref pq])), (pk, .inl (Z.2 0, 8, .inl pf)), (pq, .inl (Z.2 0, 8, .inl pg))] sz) := by
  refine Met.ofW (cc := cX6_worthAsking) (maxL := 3) (ret := (some .int)) (by decide) rfl ?_
  intro p e s m args below meth c s₁ B hml hv
  obtain ⟨rfl, hsz, hP, hK, hD0⟩ := hv
  have hx := B.exec
  have hb := B.bytes
  have hr := B.returns
  have hts := atoms_spec (ws := wsX6_worthAsking) B.pre
  have hown : s.vm.findClass RX6 = some m.cls := findClass_of_methodNamed B.named
  have hlocks := B.notSynchronized
  subst hsz
  have hD := hD0.self (sz := s.heap.size)
  generalize hAe : va_A [(h0, .inr (6, [.int mo, .int wy, .int asn, .ref pl, .ref sr])), (pl, .inr (2, [.int (nI pn), .int pe, .ref pk, .ref pq])), (pk, .inl (Z.2 0, 8, .inl pf)), (pq, .inl (Z.2 0, 8, .inl pg))] s.heap.size = A at hD ⊢
  have hA : ∀ q : Nat, s.heap.size ≤ q → A q := fun q h => by rw [← hAe]; exact Or.inr h
  have hS : va_S A s.heap s.heap [] := va_S.rf
  have hP : va_P Z.1 vwCl [(h0, .inr (6, [.int mo, .int wy, .int asn, .ref pl, .ref sr])), (pl, .inr (2, [.int (nI pn), .int pe, .ref pk, .ref pq])), (pk, .inl (Z.2 0, 8, .inl pf)), (pq, .inl (Z.2 0, 8, .inl pg))] s.heap := hP
  have hl := lv_entry ([.ref h0, .int 0]) (n := 3) (Nat.le_of_ble_eq_true rfl)
  rw [lg_entry_eq]
  generalize (lg_sl ([.ref h0, .int 0]) ++ List.replicate (3 - (lg_sl ([.ref h0, .int 0])).length) Slot.unset).toArray = ls at hl ⊢
  have hl : lv_has ls 3 [(0, .ref h0), (1, .int 0)] := hl
  refine lv_iload_n hx hb dX6_worthAsking_0 rfl (lv_at hl 1 rfl) ?_
  refine lv_iconst (v := 1) hx hb dX6_worthAsking_1 (by decide) ?_
  refine lv_isub hx hb dX6_worthAsking_2 ?_
  refine lv_topi (fun f_1 ef_1 => ?_)
  obtain rfl : (-1) = f_1 := (ef_1.trans (by decide)).symm
  refine lv_istore_n (lv' := [(2, .int (-1)), (0, .ref h0), (1, .int 0)]) hx hb dX6_worthAsking_3 rfl hl (by decide) rfl (fun ls hl => ?_)
  refine lv_iload_n hx hb dX6_worthAsking_4 rfl (lv_at hl 0 rfl) ?_
  refine lv_if_lt (tgt := 35) hx hb dX6_worthAsking_5 (by decide) (fun _ => ?_) (fun c9 => absurd c9 (by decide))
  refine lv_bipush (v := 31) hx hb dX6_worthAsking_35 (by decide) ?_
  have hP9 := hP.sub (ws' := [(h0, .inr (6, [.int mo, .int wy, .int asn, .ref pl, .ref sr])), (pl, .inr (2, [.int (nI pn), .int pe, .ref pk, .ref pq])), (pk, .inl (Z.2 0, 8, .inl pf)), (pq, .inl (Z.2 0, 8, .inl pg))]) [0, 1, 2, 3] rfl
  have hD9 := hD.sub (ws' := [(h0, .inr (6, [.int mo, .int wy, .int asn, .ref pl, .ref sr])), (pl, .inr (2, [.int (nI pn), .int pe, .ref pk, .ref pq])), (pk, .inl (Z.2 0, 8, .inl pf)), (pq, .inl (Z.2 0, 8, .inl pg))]) [0, 1, 2, 3] (by decide) rfl
  exact W.iret (v := 31) hx hb hr (fun t9 ht hW => ⟨⟨31, (), rfl, trivial, by rw [ht]; exact hP9, hD9⟩, hS.F ht⟩) hS.2.2 dX6_worthAsking_37
theorem c_X6_worthAsking (l : Launch) (Z : gZ) (sz : Nat) (h0 : Nat) (mo : Int32) (wy : Int32) (asn : Int32) (pl : Nat) (sr : Nat) (pn : Nat) (pe : Int32) (pk : Nat) (pq : Nat) (pf : Nat → Int32) (pg : Nat → Int32) (x : Nat) (hx8 : x < 9) : Met l yX6_worthAsking wsX6_worthAsking ({ frames := 1, cells := 0, slots := 0, locals := 21 }) (va_Pc [.ref h0, .int (nI x)] (fun U => U.heap.size = sz ∧ va_P Z.1 vwCl [(h0, .inr (6, [.int mo, .int wy, .int asn, .ref pl, .ref sr])), (pl, .inr (2, [.int (nI pn), .int pe, .ref pk, .ref pq])), (pk, .inl (Z.2 0, 8, .inl pf)), (pq, .inl (Z.2 0, 8, .inl pg))] U.heap ∧ va_K Z.1 vwCl (gT Z) U ∧ va_D (fun _ => True) [(h0, .inr (6, [.int mo, .int wy, .int asn, .ref pl, .ref sr])), (pl, .inr (2, [.int (nI pn), .int pe, .ref pk, .ref pq])), (pk, .inl (Z.2 0, 8, .inl pf)), (pq, .inl (Z.2 0, 8, .inl pg))])) (va_Qi (fun (r : Int32) (u : Unit) => True) (fun (u : Unit) (t9 : State) => va_P Z.1 vwCl [(h0, .inr (6, [.int mo, .int wy, .int asn, .ref pl, .ref sr])), (pl, .inr (2, [.int (nI pn), .int pe, .ref pk, .ref pq])), (pk, .inl (Z.2 0, 8, .inl pf)), (pq, .inl (Z.2 0, 8, .inl pg))] t9.heap ∧ va_D (va_A [(h0, .inr (6, [.int mo, .int wy, .int asn, .ref pl, .ref sr])), (pl, .inr (2, [.int (nI pn), .int pe, .ref pk, .ref pq])), (pk, .inl (Z.2 0, 8, .inl pf)), (pq, .inl (Z.2 0, 8, .inl pg))] sz) [(h0, .inr (6, [.int mo, .int wy, .int asn, .ref pl, .ref sr])), (pl, .inr (2, [.int (nI pn), .int pe, .ref pk, .ref pq])), (pk, .inl (Z.2 0, 8, .inl pf)), (pq, .inl (Z.2 0, 8, .inl pg))]) (va_A [(h0, .inr (6, [.int mo, .int wy, .int asn, .ref pl, .ref sr])), (pl, .inr (2, [.int (nI pn), .int pe, .ref pk, .ref pq])), (pk, .inl (Z.2 0, 8, .inl pf)), (pq, .inl (Z.2 0, 8, .inl pg))] sz)) 0 0 (va_A [(h0, .inr (6, [.int mo, .int wy, .int asn, .ref pl, .ref sr])), (pl, .inr (2, [.int (nI pn), .int pe, .ref pk, .ref pq])), (pk, .inl (Z.2 0, 8, .inl pf)), (pq, .inl (Z.2 0, 8, .inl pg))] sz) := by
  cases x with
  | zero => exact c_X6_worthAsking_0 l Z sz h0 mo wy asn pl sr pn pe pk pq pf pg
  | succ x => exact c_X6_worthAsking_s l Z sz h0 mo wy asn pl sr pn pe pk pq pf pg x (by omega)
set_option maxHeartbeats 4000000 in
set_option maxRecDepth 100000 in
theorem lp_X6_askAll {p : Program} {l : Launch} {e : Env} {s : State} {m : MethodId} {args : Array Value} {below : List Frame} {meth : Method} {c : Code} {Q : State → Prop} {A : Nat → Prop} (Z : gZ) (h0 : Nat) (mo : Int32) (wy : Int32) (asn : Int32) (pl : Nat) (sr : Nat) (h1 : Nat) (n : Nat) (kn : Int32) (k : Nat) (q : Nat) (f : Nat → Int32) (a : Int32) (d : Int32) (hn : n ≤ 5) (has5 : vp_in asn 5) (hx : p.tables.exec = Jvm.exec) (hb : c.code = cX6_askAll) (hml : c.maxLocals = 6) (hts : ∀ w ∈ wsX6_askAll, w.before args s = true) (hown : s.vm.findClass RX6 = some m.cls) (hK : va_K Z.1 vwCl (gT Z) s) (hA : ∀ q : Nat, s.heap.size ≤ q → A q) (wA : Nat) (hG2 : gW wA A s) (kx_54 : ∀ (j : Nat) (y : Int32) (ak : Int32) (g : Nat → Int32) (H : Heap) (locs : List Loc) (ls : Array Slot), va_P Z.1 vwCl [(h0, .inr (6, [.int mo, .int wy, .int asn, .ref pl, .ref sr])), (h1, .inr (0, [.int (nI n), .int kn, .int ak, .ref k, .ref q])), (k, .inl (Z.2 0, 5, .inl f)), (q, .inl (Z.2 0, 5, .inl g))] H → va_D A [(h0, .inr (6, [.int mo, .int wy, .int asn, .ref pl, .ref sr])), (h1, .inr (0, [.int (nI n), .int kn, .int ak, .ref k, .ref q])), (k, .inl (Z.2 0, 5, .inl f)), (q, .inl (Z.2 0, 5, .inl g))] → va_S A s.heap H locs → lv_has ls 6 [(0, .ref h0), (1, .ref h1), (2, .int a), (3, .int d), (4, .int y), (5, .int (nI j))] → W p l e ({ frames := 4, cells := 0, slots := 0, locals := 150 } : Room) s m args below meth c H locs 0 0 Q (F0 m 54 ls [])) : ∀ (fu9 : Nat) (j : Nat) (y : Int32) (ak : Int32) (g : Nat → Int32), n - j < fu9 → (j ≤ n) → ∀ (H : Heap) (locs : List Loc) (ls : Array Slot), va_P Z.1 vwCl [(h0, .inr (6, [.int mo, .int wy, .int asn, .ref pl, .ref sr])), (h1, .inr (0, [.int (nI n), .int kn, .int ak, .ref k, .ref q])), (k, .inl (Z.2 0, 5, .inl f)), (q, .inl (Z.2 0, 5, .inl g))] H → va_D A [(h0, .inr (6, [.int mo, .int wy, .int asn, .ref pl, .ref sr])), (h1, .inr (0, [.int (nI n), .int kn, .int ak, .ref k, .ref q])), (k, .inl (Z.2 0, 5, .inl f)), (q, .inl (Z.2 0, 5, .inl g))] → va_S A s.heap H locs → lv_has ls 6 [(0, .ref h0), (1, .ref h1), (2, .int a), (3, .int d), (4, .int y), (5, .int (nI j))] → W p l e ({ frames := 4, cells := 0, slots := 0, locals := 150 } : Room) s m args below meth c H locs 0 0 Q (F0 m 6 ls []) := by
  have hin0 : ∀ w ∈ wsX00, w ∈ wsX6_askAll := fun w h9 => (List.mem_cons_of_mem _ (List.mem_append_left _ (List.mem_append_right _ h9)))
  have hin6 : ∀ w ∈ wsX60, w ∈ wsX6_askAll := fun w h9 => (List.mem_cons_of_mem _ (List.mem_append_right _ h9))
  intro fu9
  induction fu9 with
  | zero => intro j y ak g hf9; exact absurd hf9 (Nat.not_lt_zero _)
  | succ fu9 ih =>
    intro j y ak g hf9 hj H locs ls hP hD hS hl
    refine lv_iload hx hb dX6_askAll_6 (lv_at hl 5 rfl) ?_
    refine lv_aload_n hx hb dX6_askAll_8 rfl (lv_at hl 1 rfl) ?_
    refine va_get (D := Z.1) (ci := 0) (v := .int (nI n)) (C := RX0) (T := TX0) (N := 5) hx hb hts hin0 hown hK hP 1 rfl rfl 0 (by decide) (hts (.fieldLink RX6 45 "HalfAsked$Folk" "size" "I") (List.mem_of_getElem? (i := 1) rfl)) (fun _ h9 => h9) rfl dX6_askAll_9 ?_
    refine lv_icmp_ge (tgt := 54) hx hb dX6_askAll_12 (by decide) (fun c_1 => ?_) (fun c_1 => ?_)
    · exact kx_54 j y ak g H locs ls  hP hD hS (lv_sub hl [0, 1, 2, 3, 4, 5] rfl)
    · have hlt : j < n := z_clt (by omega) hj c_1
      refine lv_iload_n hx hb dX6_askAll_15 rfl (lv_at hl 2 rfl) ?_
      refine lv_iconst (v := 1) hx hb dX6_askAll_16 (by decide) ?_
      refine lv_iload hx hb dX6_askAll_17 (lv_at hl 5 rfl) ?_
      refine lv_ishl hx hb dX6_askAll_19 ?_
      refine lv_iand hx hb dX6_askAll_20 ?_
      refine lv_if_eq (tgt := 48) hx hb dX6_askAll_21 (by decide) (fun c_2 => ?_) (fun c_2 => ?_)
      · refine lv_iinc (v := nI (j + 1)) (lv' := [(5, .int (nI (j + 1))), (0, .ref h0), (1, .ref h1), (2, .int a), (3, .int d), (4, .int y)]) hx hb dX6_askAll_48 hl (k := 5) rfl (nI_1 _) (by decide) rfl (fun ls hl => ?_)
        refine lv_goto (tgt := 6) hx hb dX6_askAll_51 (by decide) ?_
        exact ih (j + 1) y ak g (by omega) (hlt) H locs ls hP hD hS (lv_sub hl [1, 2, 3, 4, 5, 0] rfl)
      · refine lv_aload_n hx hb dX6_askAll_24 rfl (lv_at hl 1 rfl) ?_
        refine lv_aload_n hx hb dX6_askAll_25 rfl (lv_at hl 0 rfl) ?_
        refine va_get (D := Z.1) (ci := 6) (v := .int asn) (C := RX6) (T := TX6) (N := 5) hx hb hts hin6 hown hK hP 0 rfl rfl 2 (by decide) (hts (.fieldLink RX6 18 "HalfAsked$Timing" "asker" "I") (List.mem_of_getElem? (i := 2) rfl)) (fun _ h9 => h9) rfl dX6_askAll_26 ?_
        refine lv_iload hx hb dX6_askAll_29 (lv_at hl 5 rfl) ?_
        have hPc := hP.sub (ws' := [(h1, .inr (0, [.int (nI n), .int kn, .int ak, .ref k, .ref q])), (k, .inl (Z.2 0, 5, .inl f)), (q, .inl (Z.2 0, 5, .inl g))]) [1, 2, 3] rfl
        have hDc := hD.sub (ws' := [(h1, .inr (0, [.int (nI n), .int kn, .int ak, .ref k, .ref q])), (k, .inl (Z.2 0, 5, .inl f)), (q, .inl (Z.2 0, 5, .inl g))]) [1, 2, 3] (by decide) rfl
        have hFc := va_free (wc := [(h1, .inr (0, [.int (nI n), .int kn, .int ak, .ref k, .ref q])), (k, .inl (Z.2 0, 5, .inl f)), (q, .inl (Z.2 0, 5, .inl g))]) hD hS hA [1, 2, 3] rfl
        refine va_calli (va_runV (As := [.int asn, .int (nI j)]) (rest := []) ⟨hx, hb, hml, hown, hts⟩ (c_X0_tryAsking l Z H.size h1 (nI n) kn ak k q f g asn (nI j) (has5) (vp_in_nI (by omega) (by decide))) (cwV 2 hts gX6_askAll_X0_tryAsking rfl rfl rfl (by decide +kernel) ⟨Nat.le_of_ble_eq_true rfl, Nat.le_of_ble_eq_true rfl⟩) ⟨fun a U g mk q => by obtain ⟨q0, q1, qP, qK, qD⟩ := q; exact ⟨q0, q1, qP, va_K.moved (u := U) (U := U.calling g mk a) (Vm.Alike.refl U.vm) qK, qD⟩, va_recv hK hPc (ci := 0) (q0 := 0) rfl rfl, fun U hU hW => ⟨rfl, by rw [hU], by rw [hU]; exact hPc, va_K.moved hW.alike hK, hDc.weaken (fun _ _ _ _ => trivial)⟩⟩ rfl rfl hl.1 rfl (lv_room (Nat.le_of_ble_eq_true rfl)) dX6_askAll_31 ⟨Nat.le_of_ble_eq_true rfl, Nat.le_of_ble_eq_true rfl⟩) hS (fun q _ h => hFc q h) hFc (fun r_3 u t9 H1 locs ht hvm hw hB hz1 hk1 hS => ?_)
        obtain ⟨ak1_4, g1_5⟩ := u
        try dsimp only at hw hB
        obtain ⟨hw, hx_6, hx_7⟩ := hw
        subst hx_6
        subst hx_7
        have hw9 := hw.symm
        clear hw
        subst hw9
        obtain ⟨hP1, hD1⟩ := hB
        rw [ht] at hP1
        obtain ⟨hP, hD⟩ := va_join (wr := [(h0, .inr (6, [.int mo, .int wy, .int asn, .ref pl, .ref sr]))]) (w1 := [(h1, .inr (0, [.int (nI n), .int kn, .int (q_X0_tryAsking_ak1 kn ak g asn (nI j)), .ref k, .ref q])), (k, .inl (Z.2 0, 5, .inl f)), (q, .inl (Z.2 0, 5, .inl (q_X0_tryAsking_g1 kn ak f g asn (nI j))))]) hP hD [1, 2, 3] [0] rfl rfl (by decide) (by decide) hk1 hFc hP1 hD1
        clear hPc hDc hP1 hD1 hk1 hz1 hFc ht hvm
        generalize H1 = H at hP hS ⊢
        have hP : va_P Z.1 vwCl [(h0, .inr (6, [.int mo, .int wy, .int asn, .ref pl, .ref sr])), (h1, .inr (0, [.int (nI n), .int kn, .int (q_X0_tryAsking_ak1 kn ak g asn (nI j)), .ref k, .ref q])), (k, .inl (Z.2 0, 5, .inl f)), (q, .inl (Z.2 0, 5, .inl (q_X0_tryAsking_g1 kn ak f g asn (nI j))))] H := hP
        have hD : va_D A [(h0, .inr (6, [.int mo, .int wy, .int asn, .ref pl, .ref sr])), (h1, .inr (0, [.int (nI n), .int kn, .int (q_X0_tryAsking_ak1 kn ak g asn (nI j)), .ref k, .ref q])), (k, .inl (Z.2 0, 5, .inl f)), (q, .inl (Z.2 0, 5, .inl (q_X0_tryAsking_g1 kn ak f g asn (nI j))))] := hD
        refine lv_pop hx hb dX6_askAll_34 rfl ?_
        refine lv_iload hx hb dX6_askAll_35 (lv_at hl 4 rfl) ?_
        refine lv_iload_n hx hb dX6_askAll_37 rfl (lv_at hl 3 rfl) ?_
        refine va_gets hx hb hG2.1 hS hown (hts (.fieldLink RX6 52 "HalfAsked$Timing" "WEIGHT" "[I") (List.mem_of_getElem? (i := 3) rfl)) (fun _ h9 => h9) dX6_askAll_38 ?_
        refine lv_iload hx hb dX6_askAll_41 (lv_at hl 5 rfl) ?_
        refine va_ti hx hb hG2.2 hS (vp_in_nI (by omega) (by decide)) (v := .int (([10000, 1000, 100, 10, 1] : List Int32).getD ((nI j).toNatClampNeg) 0)) rfl dX6_askAll_43 ?_
        refine lv_imul hx hb dX6_askAll_44 ?_
        refine lv_iadd hx hb dX6_askAll_45 ?_
        refine lv_istore (lv' := [(4, .int (y + (d * (([10000, 1000, 100, 10, 1] : List Int32).getD ((nI j).toNatClampNeg) 0)))), (0, .ref h0), (1, .ref h1), (2, .int a), (3, .int d), (5, .int (nI j))]) hx hb dX6_askAll_46 hl (by decide) rfl (fun ls hl => ?_)
        refine lv_iinc (v := nI (j + 1)) (lv' := [(5, .int (nI (j + 1))), (4, .int (y + (d * (([10000, 1000, 100, 10, 1] : List Int32).getD ((nI j).toNatClampNeg) 0)))), (0, .ref h0), (1, .ref h1), (2, .int a), (3, .int d)]) hx hb dX6_askAll_48 hl (k := 5) rfl (nI_1 _) (by decide) rfl (fun ls hl => ?_)
        refine lv_goto (tgt := 6) hx hb dX6_askAll_51 (by decide) ?_
        exact ih (j + 1) (y + (d * (([10000, 1000, 100, 10, 1] : List Int32).getD ((nI j).toNatClampNeg) 0))) (q_X0_tryAsking_ak1 kn ak g asn (nI j)) (q_X0_tryAsking_g1 kn ak f g asn (nI j)) (by omega) (hlt) H locs ls hP hD hS (lv_sub hl [2, 3, 4, 5, 1, 0] rfl)
set_option maxHeartbeats 4000000 in
set_option maxRecDepth 100000 in
theorem c_X6_askAll (l : Launch) (Z : gZ) (sz : Nat) (h0 : Nat) (mo : Int32) (wy : Int32) (asn : Int32) (pl : Nat) (sr : Nat) (h1 : Nat) (n : Nat) (kn : Int32) (ak : Int32) (k : Nat) (q : Nat) (f : Nat → Int32) (g : Nat → Int32) (a : Int32) (d : Int32) (wA : Nat) (hn : n ≤ 5) (has5 : vp_in asn 5) : Met l yX6_askAll wsX6_askAll ({ frames := 4, cells := 0, slots := 0, locals := 150 }) (va_Pc [.ref h0, .ref h1, .int a, .int d] (fun U => U.heap.size = sz ∧ va_P Z.1 vwCl [(h0, .inr (6, [.int mo, .int wy, .int asn, .ref pl, .ref sr])), (h1, .inr (0, [.int (nI n), .int kn, .int ak, .ref k, .ref q])), (k, .inl (Z.2 0, 5, .inl f)), (q, .inl (Z.2 0, 5, .inl g))] U.heap ∧ va_K Z.1 vwCl (gT Z) U ∧ va_D (fun _ => True) [(h0, .inr (6, [.int mo, .int wy, .int asn, .ref pl, .ref sr])), (h1, .inr (0, [.int (nI n), .int kn, .int ak, .ref k, .ref q])), (k, .inl (Z.2 0, 5, .inl f)), (q, .inl (Z.2 0, 5, .inl g))] ∧ gW wA (va_A [(h0, .inr (6, [.int mo, .int wy, .int asn, .ref pl, .ref sr])), (h1, .inr (0, [.int (nI n), .int kn, .int ak, .ref k, .ref q])), (k, .inl (Z.2 0, 5, .inl f)), (q, .inl (Z.2 0, 5, .inl g))] sz) U)) (va_Qi (fun (r : Int32) (u : Int32 × (Nat → Int32)) => match u with | (ak1, g1) => True) (fun (u : Int32 × (Nat → Int32)) (t9 : State) => match u with | (ak1, g1) => va_P Z.1 vwCl [(h0, .inr (6, [.int mo, .int wy, .int asn, .ref pl, .ref sr])), (h1, .inr (0, [.int (nI n), .int kn, .int ak1, .ref k, .ref q])), (k, .inl (Z.2 0, 5, .inl f)), (q, .inl (Z.2 0, 5, .inl g1))] t9.heap ∧ va_D (va_A [(h0, .inr (6, [.int mo, .int wy, .int asn, .ref pl, .ref sr])), (h1, .inr (0, [.int (nI n), .int kn, .int ak, .ref k, .ref q])), (k, .inl (Z.2 0, 5, .inl f)), (q, .inl (Z.2 0, 5, .inl g))] sz) [(h0, .inr (6, [.int mo, .int wy, .int asn, .ref pl, .ref sr])), (h1, .inr (0, [.int (nI n), .int kn, .int ak1, .ref k, .ref q])), (k, .inl (Z.2 0, 5, .inl f)), (q, .inl (Z.2 0, 5, .inl g1))]) (va_A [(h0, .inr (6, [.int mo, .int wy, .int asn, .ref pl, .ref sr])), (h1, .inr (0, [.int (nI n), .int kn, .int ak, .ref k, .ref q])), (k, .inl (Z.2 0, 5, .inl f)), (q, .inl (Z.2 0, 5, .inl g))] sz)) 0 0 (va_A [(h0, .inr (6, [.int mo, .int wy, .int asn, .ref pl, .ref sr])), (h1, .inr (0, [.int (nI n), .int kn, .int ak, .ref k, .ref q])), (k, .inl (Z.2 0, 5, .inl f)), (q, .inl (Z.2 0, 5, .inl g))] sz) := by
  refine Met.ofW (cc := cX6_askAll) (maxL := 6) (ret := (some .int)) (by decide) rfl ?_
  intro p e s m args below meth c s₁ B hml hv
  obtain ⟨rfl, hsz, hP, hK, hD0, hG2⟩ := hv
  have hx := B.exec
  have hb := B.bytes
  have hr := B.returns
  have hts := atoms_spec (ws := wsX6_askAll) B.pre
  have hown : s.vm.findClass RX6 = some m.cls := findClass_of_methodNamed B.named
  have hlocks := B.notSynchronized
  subst hsz
  have hD := hD0.self (sz := s.heap.size)
  generalize hAe : va_A [(h0, .inr (6, [.int mo, .int wy, .int asn, .ref pl, .ref sr])), (h1, .inr (0, [.int (nI n), .int kn, .int ak, .ref k, .ref q])), (k, .inl (Z.2 0, 5, .inl f)), (q, .inl (Z.2 0, 5, .inl g))] s.heap.size = A at hD hG2 ⊢
  have hA : ∀ q : Nat, s.heap.size ≤ q → A q := fun q h => by rw [← hAe]; exact Or.inr h
  have hS : va_S A s.heap s.heap [] := va_S.rf
  have hP : va_P Z.1 vwCl [(h0, .inr (6, [.int mo, .int wy, .int asn, .ref pl, .ref sr])), (h1, .inr (0, [.int (nI n), .int kn, .int ak, .ref k, .ref q])), (k, .inl (Z.2 0, 5, .inl f)), (q, .inl (Z.2 0, 5, .inl g))] s.heap := hP
  have hl := lv_entry ([.ref h0, .ref h1, .int a, .int d]) (n := 6) (Nat.le_of_ble_eq_true rfl)
  rw [lg_entry_eq]
  generalize (lg_sl ([.ref h0, .ref h1, .int a, .int d]) ++ List.replicate (6 - (lg_sl ([.ref h0, .ref h1, .int a, .int d])).length) Slot.unset).toArray = ls at hl ⊢
  have hl : lv_has ls 6 [(0, .ref h0), (1, .ref h1), (2, .int a), (3, .int d)] := hl
  refine lv_iconst (v := 0) hx hb dX6_askAll_0 (by decide) ?_
  refine lv_istore (lv' := [(4, .int 0), (0, .ref h0), (1, .ref h1), (2, .int a), (3, .int d)]) hx hb dX6_askAll_1 hl (by decide) rfl (fun ls hl => ?_)
  refine lv_iconst (v := 0) hx hb dX6_askAll_3 (by decide) ?_
  refine lv_istore (lv' := [(5, .int 0), (4, .int 0), (0, .ref h0), (1, .ref h1), (2, .int a), (3, .int d)]) hx hb dX6_askAll_4 hl (by decide) rfl (fun ls hl => ?_)
  refine lp_X6_askAll Z h0 mo wy asn pl sr h1 n kn k q f a d hn has5 hx hb hml hts hown hK hA wA hG2 (fun j y ak' g' H locs ls  hP hD hS hl => ?_) (n + 1) 0 0 ak g (by omega) (Nat.zero_le _) s.heap _ ls hP hD hS (lv_sub hl [2, 3, 4, 5, 1, 0] rfl)
  refine lv_iload hx hb dX6_askAll_54 (lv_at hl 4 rfl) ?_
  have hP9 := hP.sub (ws' := [(h0, .inr (6, [.int mo, .int wy, .int asn, .ref pl, .ref sr])), (h1, .inr (0, [.int (nI n), .int kn, .int ak', .ref k, .ref q])), (k, .inl (Z.2 0, 5, .inl f)), (q, .inl (Z.2 0, 5, .inl g'))]) [0, 1, 2, 3] rfl
  have hD9 := hD.sub (ws' := [(h0, .inr (6, [.int mo, .int wy, .int asn, .ref pl, .ref sr])), (h1, .inr (0, [.int (nI n), .int kn, .int ak', .ref k, .ref q])), (k, .inl (Z.2 0, 5, .inl f)), (q, .inl (Z.2 0, 5, .inl g'))]) [0, 1, 2, 3] (by decide) rfl
  exact W.iret (v := y) hx hb hr (fun t9 ht hW => ⟨⟨y, (ak', g'), rfl, trivial, by rw [ht]; exact hP9, hD9⟩, hS.F ht⟩) hS.2.2 dX6_askAll_56
