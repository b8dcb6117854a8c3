theorem z_i3 {a : Int32} : ((if a.toInt64 < 0 then (0 : Int32) else (if 3 < a.toInt64 then (0 : Int32) else (1 : Int32))) = 1 ∧ vp_in a 4) ∨ ((if a.toInt64 < 0 then (0 : Int32) else (if 3 < a.toInt64 then (0 : Int32) else (1 : Int32))) = 0 ∧ ¬ vp_in a 4) := by
  have e0 : (0 : Int64).toInt = 0 := by decide
  have eN : (3 : Int64).toInt = 3 := by decide
  by_cases h1 : a.toInt64 < 0
  · refine Or.inr ⟨if_pos h1, fun q => ?_⟩
    rw [Int64.lt_iff_toInt_lt, Int32.toInt_toInt64] at h1
    rw [vp_in_iff] at q
    omega
  · by_cases h2 : 3 < a.toInt64
    · refine Or.inr ⟨by rw [if_neg h1, if_pos h2], fun q => ?_⟩
      rw [Int64.lt_iff_toInt_lt, Int32.toInt_toInt64] at h2
      rw [vp_in_iff] at q
      omega
    · refine Or.inl ⟨by rw [if_neg h1, if_neg h2], ?_⟩
      rw [Int64.lt_iff_toInt_lt, Int32.toInt_toInt64] at h1 h2
      rw [vp_in_iff]
      omega
theorem z_i31 {a : Int32} (h : ¬ (if a.toInt64 < 0 then (0 : Int32) else (if 3 < a.toInt64 then (0 : Int32) else (1 : Int32))) = 0) : vp_in a 4 := by
  rcases z_i3 (a := a) with q | q
  · exact q.2
  · exact absurd q.1 h
theorem z_i30 {a : Int32} (h : (if a.toInt64 < 0 then (0 : Int32) else (if 3 < a.toInt64 then (0 : Int32) else (1 : Int32))) = 0) : ¬ vp_in a 4 := by
  rcases z_i3 (a := a) with q | q
  · exact absurd (q.1.symm.trans h) (by decide)
  · exact q.2
theorem z_i2 {a : Int32} : ((if a.toInt64 < 0 then (0 : Int32) else (if 2 < a.toInt64 then (0 : Int32) else (1 : Int32))) = 1 ∧ vp_in a 3) ∨ ((if a.toInt64 < 0 then (0 : Int32) else (if 2 < a.toInt64 then (0 : Int32) else (1 : Int32))) = 0 ∧ ¬ vp_in a 3) := by
  have e0 : (0 : Int64).toInt = 0 := by decide
  have eN : (2 : Int64).toInt = 2 := by decide
  by_cases h1 : a.toInt64 < 0
  · refine Or.inr ⟨if_pos h1, fun q => ?_⟩
    rw [Int64.lt_iff_toInt_lt, Int32.toInt_toInt64] at h1
    rw [vp_in_iff] at q
    omega
  · by_cases h2 : 2 < a.toInt64
    · refine Or.inr ⟨by rw [if_neg h1, if_pos h2], fun q => ?_⟩
      rw [Int64.lt_iff_toInt_lt, Int32.toInt_toInt64] at h2
      rw [vp_in_iff] at q
      omega
    · refine Or.inl ⟨by rw [if_neg h1, if_neg h2], ?_⟩
      rw [Int64.lt_iff_toInt_lt, Int32.toInt_toInt64] at h1 h2
      rw [vp_in_iff]
      omega
theorem z_i21 {a : Int32} (h : ¬ (if a.toInt64 < 0 then (0 : Int32) else (if 2 < a.toInt64 then (0 : Int32) else (1 : Int32))) = 0) : vp_in a 3 := by
  rcases z_i2 (a := a) with q | q
  · exact q.2
  · exact absurd q.1 h
theorem z_i20 {a : Int32} (h : (if a.toInt64 < 0 then (0 : Int32) else (if 2 < a.toInt64 then (0 : Int32) else (1 : Int32))) = 0) : ¬ vp_in a 3 := by
  rcases z_i2 (a := a) with q | q
  · exact absurd (q.1.symm.trans h) (by decide)
  · exact q.2
/-- if p then x else y, whatever p -/
noncomputable def zI {α : Type} (p : Prop) (x y : α) : α := @ite α p (Classical.propDecidable p) x y
theorem zI_p {α : Type} {p : Prop} {x y : α} (h : p) : zI p x y = x := by unfold zI; exact if_pos h
theorem zI_n {α : Type} {p : Prop} {x y : α} (h : ¬ p) : zI p x y = y := by unfold zI; exact if_neg h
/-- which sheets there are: lane, length -/
abbrev zSL : Type := Nat → Option (Int32 × Nat)
def zSl (sl : zSL) (f g : Nat → Int32) : Prop := ∀ t, t < 4 → (sl t = none ∧ f t = -1) ∨ ∃ (ln : Int32) (len : Nat), sl t = some (ln, len) ∧ f t = ln ∧ vp_in ln 3 ∧ g t = nI len ∧ len ≤ 24
/-- what is wanting: 0, or a refusal -/
noncomputable def zLk : Option (Int32 × Nat) → Int32 → Int32 → Nat → Int32
  | none, _, _, _ => -11
  | some (ln, len), b, d, w => zI (ln = b) (zI (0 ≤ d.toInt ∧ d.toInt + w ≤ len) 0 (-13)) (-12)
theorem zLk_or (s : Option (Int32 × Nat)) (b d : Int32) (w : Nat) : (zLk s b d w < 0) ∨ (zLk s b d w = 0 ∧ ∃ len, s = some (b, len) ∧ 0 ≤ d.toInt ∧ d.toInt + w ≤ len) := by
  rcases s with _ | ⟨ln, len⟩
  · exact Or.inl (show (-11 : Int32) < 0 by decide)
  · show zI _ _ _ < 0 ∨ (zI _ _ _ = 0 ∧ _)
    rcases Classical.em (ln = b) with e | e
    · rw [zI_p e]
      rcases Classical.em (0 ≤ d.toInt ∧ d.toInt + w ≤ len) with e2 | e2
      · exact Or.inr ⟨zI_p e2, len, by rw [e], e2⟩
      · rw [zI_n e2]; exact Or.inl (by decide)
    · rw [zI_n e]; exact Or.inl (by decide)
theorem zLk_ok {sl : zSL} {f g : Nat → Int32} {a b d : Int32} {w : Nat} (h : zSl sl f g) (ha : vp_in a 4) (hk : ¬ zLk (sl a.toNatClampNeg) b d w < 0) : zLk (sl a.toNatClampNeg) b d w = 0 ∧ 0 ≤ d.toInt ∧ d.toInt + w ≤ 24 := by
  rcases zLk_or (sl a.toNatClampNeg) b d w with q | ⟨q, len, e, q2⟩
  · exact absurd q hk
  · rcases h _ (z_cl ha) with ⟨e2, -⟩ | ⟨ln, len2, e2, -, -, -, hl⟩
    · rw [e2] at e; cases e
    · rw [e2] at e; cases e; exact ⟨q, q2.1, by omega⟩
theorem zLk_11 {sl : zSL} {f g : Nat → Int32} {a b d : Int32} {w : Nat} (h : zSl sl f g) (ha : vp_in a 4) (h2 : f a.toNatClampNeg < 0) : (-11) = zLk (sl a.toNatClampNeg) b d w := by
  rcases h _ (z_cl ha) with ⟨e2, -⟩ | ⟨ln, len, e2, e3, h3, -⟩
  · rw [e2]; rfl
  · rw [e3, Int32.lt_iff_toInt_lt] at h2; have e0 : (0 : Int32).toInt = 0 := by decide
    rw [vp_in_iff] at h3; omega
theorem zLk_12 {sl : zSL} {f g : Nat → Int32} {a b d : Int32} {w : Nat} (h : zSl sl f g) (ha : vp_in a 4) (h1 : ¬ f a.toNatClampNeg = b) (h2 : ¬ f a.toNatClampNeg < 0) : (-12) = zLk (sl a.toNatClampNeg) b d w := by
  rcases h _ (z_cl ha) with ⟨-, e3⟩ | ⟨ln, len, e2, e3, -⟩
  · rw [e3] at h2; exact absurd (by decide) h2
  · rw [e2]; rw [e3] at h1; exact (zI_n h1).symm
theorem zLk_0 {sl : zSL} {f g : Nat → Int32} {a b d : Int32} {w : Nat} (h : zSl sl f g) (ha : vp_in a 4) (hb : vp_in b 3) (hw : w ≤ 10) (h1 : f a.toNatClampNeg = b) (h2 : ¬ (if d.toInt64 < 0 then (0 : Int32) else (if (g a.toNatClampNeg - nI w).toInt64 < d.toInt64 then (0 : Int32) else (1 : Int32))) = 0) : 0 = zLk (sl a.toNatClampNeg) b d w := by
  have e0 : (0 : Int64).toInt = 0 := by decide
  have eb : (-1 : Int32).toInt = -1 := by decide
  rcases h _ (z_cl ha) with ⟨-, e3⟩ | ⟨ln, len, e2, e3, -, e4, hl⟩
  · rw [← h1, e3, vp_in_iff] at hb; omega
  · rw [e2]
    show _ = zI _ _ _
    rw [zI_p (e3.symm.trans h1)]
    have em : (nI len - nI w).toInt = (len : Int) - w := pk_sub_toInt (by omega) (by omega)
    rw [e4] at h2
    by_cases q1 : d.toInt64 < 0
    · exact absurd (if_pos q1) h2
    · by_cases q2 : (nI len - nI w).toInt64 < d.toInt64
      · exact absurd (by rw [if_neg q1, if_pos q2]) h2
      · rw [Int64.lt_iff_toInt_lt, Int32.toInt_toInt64] at q1 q2
        rw [Int32.toInt_toInt64, em] at q2
        exact (zI_p ⟨by omega, by omega⟩).symm
theorem zLk_13 {sl : zSL} {f g : Nat → Int32} {a b d : Int32} {w : Nat} (h : zSl sl f g) (ha : vp_in a 4) (hb : vp_in b 3) (hw : w ≤ 10) (h1 : f a.toNatClampNeg = b) (h2 : (if d.toInt64 < 0 then (0 : Int32) else (if (g a.toNatClampNeg - nI w).toInt64 < d.toInt64 then (0 : Int32) else (1 : Int32))) = 0) : (-13) = zLk (sl a.toNatClampNeg) b d w := by
  have e0 : (0 : Int64).toInt = 0 := by decide
  have eb : (-1 : Int32).toInt = -1 := by decide
  rcases h _ (z_cl ha) with ⟨-, e3⟩ | ⟨ln, len, e2, e3, -, e4, hl⟩
  · rw [← h1, e3, vp_in_iff] at hb; omega
  · rw [e2]
    show _ = zI _ _ _
    rw [zI_p (e3.symm.trans h1)]
    have em : (nI len - nI w).toInt = (len : Int) - w := pk_sub_toInt (by omega) (by omega)
    rw [e4] at h2
    by_cases q1 : d.toInt64 < 0
    · rw [Int64.lt_iff_toInt_lt, Int32.toInt_toInt64] at q1
      exact (zI_n (fun q => by omega)).symm
    · by_cases q2 : (nI len - nI w).toInt64 < d.toInt64
      · rw [Int64.lt_iff_toInt_lt, Int32.toInt_toInt64, Int32.toInt_toInt64, em] at q2
        exact (zI_n (fun q => by omega)).symm
      · rw [if_neg q1, if_neg q2] at h2; exact absurd h2 (by decide)
set_option maxHeartbeats 4000000 in
set_option maxRecDepth 100000 in
theorem c_X9_isSheet (l : Launch) (Z : gZ) (sz : Nat) (a : Int32) (b : Int32)  : Met l yX9_isSheet wsX9_isSheet ({ frames := 1, cells := 0, slots := 0, locals := 25 }) (va_Pc [.int a, .int b] (fun U => U.heap.size = sz ∧ va_P Z.1 vwCl [] U.heap ∧ va_K Z.1 vwCl (gT Z) U ∧ va_D (fun _ => True) [])) (va_Qi (fun (r : Int32) (u : Unit) => (r = 1 ∧ vp_in a 4 ∧ vp_in b 3) ∨ (r = 0 ∧ ¬ (vp_in a 4 ∧ vp_in b 3))) (fun (u : Unit) (t9 : State) => True) (va_A [] sz)) 0 0 (va_A [] sz) := by
  refine Met.ofW (cc := cX9_isSheet) (maxL := 2) (ret := (some .boolean)) (by decide) rfl ?_
  intro p e s m args below meth c s₁ B hml hv
  obtain ⟨rfl, hsz, hP, hK, hD0⟩ := hv
  have hx := B.exec
  have hb := B.bytes
  have hr := B.returns
  have hts := atoms_spec (ws := wsX9_isSheet) B.pre
  have hown : s.vm.findClass RX9 = some m.cls := findClass_of_methodNamed B.named
  have hlocks := B.notSynchronized
  subst hsz
  have hD := hD0.self (sz := s.heap.size)
  generalize hAe : va_A [] s.heap.size = A at hD ⊢
  have hA : ∀ q : Nat, s.heap.size ≤ q → A q := fun q h => by rw [← hAe]; exact Or.inr h
  have hS : va_S A s.heap s.heap [] := va_S.rf
  have hP : va_P Z.1 vwCl [] s.heap := hP
  have hl := lv_entry ([.int a, .int b]) (n := 2) (Nat.le_of_ble_eq_true rfl)
  rw [lg_entry_eq]
  generalize (lg_sl ([.int a, .int b]) ++ List.replicate (2 - (lg_sl ([.int a, .int b])).length) Slot.unset).toArray = ls at hl ⊢
  have hl : lv_has ls 2 [(0, .int a), (1, .int b)] := hl
  refine lv_iload_n hx hb dX9_isSheet_0 rfl (lv_at hl 0 rfl) ?_
  refine lv_i2l hx hb dX9_isSheet_1 rfl ?_
  refine lv_lconst (v := 0) hx hb dX9_isSheet_2 (by decide) ?_
  refine lv_ldc2 (v := 3) hx hb hown (hts (.constantLong RX9 98 (3)) (List.mem_of_getElem? (i := 1) rfl)) dX9_isSheet_3 ?_
  have hPc := hP.sub (ws' := []) [] rfl
  have hDc := hD.sub (ws' := []) [] (by decide +kernel) rfl
  have hFc := va_free (wc := []) hD hS hA [] rfl
  refine va_calli (va_runS (As := [.long a.toInt64, .long 0, .long 3]) (rest := []) ⟨hx, hb, hml, hown, hts⟩ (c_X9_in l Z s.heap.size a.toInt64 0 3) (va_cwS 3 hts gX9_isSheet_X9_in rfl rfl rfl (by decide +kernel) ⟨Nat.le_of_ble_eq_true rfl, Nat.le_of_ble_eq_true rfl⟩) ⟨fun a U g mk q => by obtain ⟨q0, q1, qP, qK, qD⟩ := q; exact ⟨q0, q1, qP, va_K.moved (u := U) (U := U.calling g mk a) (Vm.Alike.refl U.vm) qK, qD⟩, fun U hU hW => ⟨rfl, by rw [hU], by rw [hU]; exact hPc, va_K.moved hW.alike hK, hDc.weaken (fun _ _ _ _ => trivial)⟩⟩ rfl rfl hl.1 rfl (lv_room (Nat.le_of_ble_eq_true rfl)) dX9_isSheet_6 ⟨Nat.le_of_ble_eq_true rfl, Nat.le_of_ble_eq_true rfl⟩) hS (fun q _ h => hFc q h) hFc (fun r_1 u t9 H1 locs ht hvm hw hB hz1 hk1 hS => ?_)
  have hw9 := hw.symm
  clear hw
  subst hw9
  have hP1 : va_P Z.1 vwCl [] H1 := fun k q h => by simp at h
  have hD1 : va_D (va_A [] s.heap.size) [] := ⟨fun i j p q h => by simp at h, fun k q h => by simp at h⟩
  obtain ⟨hP, hD⟩ := va_join (wr := []) (w1 := []) hP hD [] [] rfl rfl (by decide +kernel) (by decide +kernel) hk1 hFc hP1 hD1
  clear hPc hDc hP1 hD1 hk1 hz1 hFc ht hvm
  generalize H1 = H at hP hS ⊢
  have hP : va_P Z.1 vwCl [] H := hP
  have hD : va_D A [] := hD
  refine lv_if_eq (tgt := 28) hx hb dX9_isSheet_9 (by decide) (fun c_2 => ?_) (fun c_2 => ?_)
  · refine lv_iconst (v := 0) hx hb dX9_isSheet_28 (by decide) ?_
    exact W.zret (v := 0) hx hb hr rfl (fun t9 ht hW => ⟨⟨0, (), rfl, Or.inr ⟨rfl, fun q => z_i30 c_2 q.1⟩, trivial⟩, hS.F ht⟩) hS.2.2 dX9_isSheet_29
  · refine lv_iload_n hx hb dX9_isSheet_12 rfl (lv_at hl 1 rfl) ?_
    refine lv_i2l hx hb dX9_isSheet_13 rfl ?_
    refine lv_lconst (v := 0) hx hb dX9_isSheet_14 (by decide) ?_
    refine lv_ldc2 (v := 2) hx hb hown (hts (.constantLong RX9 227 (2)) (List.mem_of_getElem? (i := 2) rfl)) dX9_isSheet_15 ?_
    have hPc := hP.sub (ws' := []) [] rfl
    have hDc := hD.sub (ws' := []) [] (by decide +kernel) rfl
    have hFc := va_free (wc := []) hD hS hA [] rfl
    refine va_calli (va_runS (As := [.long b.toInt64, .long 0, .long 2]) (rest := []) ⟨hx, hb, hml, hown, hts⟩ (c_X9_in l Z H.size b.toInt64 0 2) (va_cwS 3 hts gX9_isSheet_X9_in rfl rfl rfl (by decide +kernel) ⟨Nat.le_of_ble_eq_true rfl, Nat.le_of_ble_eq_true rfl⟩) ⟨fun a U g mk q => by obtain ⟨q0, q1, qP, qK, qD⟩ := q; exact ⟨q0, q1, qP, va_K.moved (u := U) (U := U.calling g mk a) (Vm.Alike.refl U.vm) qK, qD⟩, fun U hU hW => ⟨rfl, by rw [hU], by rw [hU]; exact hPc, va_K.moved hW.alike hK, hDc.weaken (fun _ _ _ _ => trivial)⟩⟩ rfl rfl hl.1 rfl (lv_room (Nat.le_of_ble_eq_true rfl)) dX9_isSheet_18 ⟨Nat.le_of_ble_eq_true rfl, Nat.le_of_ble_eq_true rfl⟩) hS (fun q _ h => hFc q h) hFc (fun r_3 u t9 H1 locs ht hvm hw hB hz1 hk1 hS => ?_)
    have hw9 := hw.symm
    clear hw
    subst hw9
    have hP1 : va_P Z.1 vwCl [] H1 := fun k q h => by simp at h
    have hD1 : va_D (va_A [] H.size) [] := ⟨fun i j p q h => by simp at h, fun k q h => by simp at h⟩
    obtain ⟨hP, hD⟩ := va_join (wr := []) (w1 := []) hP hD [] [] rfl rfl (by decide +kernel) (by decide +kernel) hk1 hFc hP1 hD1
    clear hPc hDc hP1 hD1 hk1 hz1 hFc ht hvm
    generalize H1 = H at hP hS ⊢
    have hP : va_P Z.1 vwCl [] H := hP
    have hD : va_D A [] := hD
    refine lv_if_eq (tgt := 28) hx hb dX9_isSheet_21 (by decide) (fun c_4 => ?_) (fun c_4 => ?_)
    · refine lv_iconst (v := 0) hx hb dX9_isSheet_28 (by decide) ?_
      exact W.zret (v := 0) hx hb hr rfl (fun t9 ht hW => ⟨⟨0, (), rfl, Or.inr ⟨rfl, fun q => z_i20 c_4 q.2⟩, trivial⟩, hS.F ht⟩) hS.2.2 dX9_isSheet_29
    · refine lv_iconst (v := 1) hx hb dX9_isSheet_24 (by decide) ?_
      refine lv_goto (tgt := 29) hx hb dX9_isSheet_25 (by decide) ?_
      exact W.zret (v := 1) hx hb hr rfl (fun t9 ht hW => ⟨⟨1, (), rfl, Or.inl ⟨rfl, z_i31 c_2, z_i21 c_4⟩, trivial⟩, hS.F ht⟩) hS.2.2 dX9_isSheet_29
def q_X9_asLane_r (a : Int32) (w : Int64) : Int64 := (if a = 0 then ((w <<< ((56 : Int32).toInt64 &&& 63)) >>> ((56 : Int32).toInt64 &&& 63)) else (if a = 1 then ((w <<< ((32 : Int32).toInt64 &&& 63)) >>> ((32 : Int32).toInt64 &&& 63)) else w))
set_option maxHeartbeats 4000000 in
set_option maxRecDepth 100000 in
theorem c_X9_asLane (l : Launch) (Z : gZ) (sz : Nat) (a : Int32) (w : Int64)  : Met l yX9_asLane wsX9_asLane ({ frames := 0, cells := 0, slots := 0, locals := 0 }) (va_Pc [.int a, .long w] (fun U => U.heap.size = sz ∧ va_P Z.1 vwCl [] U.heap ∧ va_K Z.1 vwCl (gT Z) U ∧ va_D (fun _ => True) [])) (va_Ql (fun (r : Int64) (u : Unit) => r = q_X9_asLane_r a w) (fun (u : Unit) (t9 : State) => True) (va_A [] sz)) 0 0 (va_A [] sz) := by
  refine Met.ofW (cc := cX9_asLane) (maxL := 3) (ret := (some .long)) (by decide) rfl ?_
  intro p e s m args below meth c s₁ B hml hv
  obtain ⟨rfl, hsz, hP, hK, hD0⟩ := hv
  have hx := B.exec
  have hb := B.bytes
  have hr := B.returns
  have hts := atoms_spec (ws := wsX9_asLane) B.pre
  have hown : s.vm.findClass RX9 = some m.cls := findClass_of_methodNamed B.named
  have hlocks := B.notSynchronized
  subst hsz
  have hD := hD0.self (sz := s.heap.size)
  generalize hAe : va_A [] s.heap.size = A at hD ⊢
  have hA : ∀ q : Nat, s.heap.size ≤ q → A q := fun q h => by rw [← hAe]; exact Or.inr h
  have hS : va_S A s.heap s.heap [] := va_S.rf
  have hP : va_P Z.1 vwCl [] s.heap := hP
  have hl := lv_entry ([.int a, .long w]) (n := 3) (Nat.le_of_ble_eq_true rfl)
  rw [lg_entry_eq]
  generalize (lg_sl ([.int a, .long w]) ++ List.replicate (3 - (lg_sl ([.int a, .long w])).length) Slot.unset).toArray = ls at hl ⊢
  have hl : lv_has ls 3 [(0, .int a), (1, .long w)] := hl
  refine lv_iload_n hx hb dX9_asLane_0 rfl (lv_at hl 0 rfl) ?_
  refine lv_if_ne (tgt := 14) hx hb dX9_asLane_1 (by decide) (fun c_1 => ?_) (fun c_1 => ?_)
  · refine lv_iload_n hx hb dX9_asLane_14 rfl (lv_at hl 0 rfl) ?_
    refine lv_iconst (v := 1) hx hb dX9_asLane_15 (by decide) ?_
    refine lv_icmp_ne (tgt := 29) hx hb dX9_asLane_16 (by decide) (fun c_2 => ?_) (fun c_2 => ?_)
    · refine lv_lload_n hx hb dX9_asLane_29 rfl (lv_at hl 1 rfl) ?_
      exact W.lret (v := w) hx hb hr (fun t9 ht hW => ⟨⟨w, (), rfl, (by unfold q_X9_asLane_r; rw [if_neg c_1, if_neg c_2]), trivial⟩, hS.F ht⟩) hS.2.2 dX9_asLane_30
    · refine lv_lload_n hx hb dX9_asLane_19 rfl (lv_at hl 1 rfl) ?_
      refine lv_bipush (v := 32) hx hb dX9_asLane_20 (by decide) ?_
      refine lv_lshl hx hb dX9_asLane_22 rfl ?_
      refine lv_bipush (v := 32) hx hb dX9_asLane_23 (by decide) ?_
      refine lv_lshr hx hb dX9_asLane_25 rfl ?_
      refine lv_goto (tgt := 30) hx hb dX9_asLane_26 (by decide) ?_
      exact W.lret (v := ((w <<< ((32 : Int32).toInt64 &&& 63)) >>> ((32 : Int32).toInt64 &&& 63))) hx hb hr (fun t9 ht hW => ⟨⟨(w <<< ((32 : Int32).toInt64 &&& 63)) >>> ((32 : Int32).toInt64 &&& 63), (), rfl, (by unfold q_X9_asLane_r; rw [if_neg c_1, if_pos c_2]), trivial⟩, hS.F ht⟩) hS.2.2 dX9_asLane_30
  · refine lv_lload_n hx hb dX9_asLane_4 rfl (lv_at hl 1 rfl) ?_
    refine lv_bipush (v := 56) hx hb dX9_asLane_5 (by decide) ?_
    refine lv_lshl hx hb dX9_asLane_7 rfl ?_
    refine lv_bipush (v := 56) hx hb dX9_asLane_8 (by decide) ?_
    refine lv_lshr hx hb dX9_asLane_10 rfl ?_
    refine lv_goto (tgt := 30) hx hb dX9_asLane_11 (by decide) ?_
    exact W.lret (v := ((w <<< ((56 : Int32).toInt64 &&& 63)) >>> ((56 : Int32).toInt64 &&& 63))) hx hb hr (fun t9 ht hW => ⟨⟨(w <<< ((56 : Int32).toInt64 &&& 63)) >>> ((56 : Int32).toInt64 &&& 63), (), rfl, (by unfold q_X9_asLane_r; rw [if_pos c_1]), trivial⟩, hS.F ht⟩) hS.2.2 dX9_asLane_30
set_option maxHeartbeats 4000000 in
set_option maxRecDepth 100000 in
theorem c_X9_lacksRow (l : Launch) (Z : gZ) (sz : Nat) (h0 : Nat) (b1 : Nat) (b2 : Nat) (b3 : Nat) (b4 : Nat) (b5 : Nat) (b6 : Nat) (b7 : Nat) (b8 : Nat) (b9 : Nat) (b10 : Nat) (b11 : Nat) (b12 : Nat) (b13 : Nat) (b14 : Nat) (b15 : Nat) (b16 : Nat) (b17 : Nat) (b18 : Nat) (b19 : Nat) (b20 : Nat) (b21 : Nat) (b22 : Nat) (b23 : Nat) (b24 : Nat) (b25 : Nat) (n : Nat) (pn : Nat) (tn : Nat) (xp : Int32) (xr : Int32) (ik : Int32) (f20 : Nat → Int32) (f21 : Nat → Int32) (a : Int32) (b : Int32) (d : Int32) (w : Nat) (sl : zSL) (hs : zSl sl f20 f21) (ha : vp_in a 4) (hb3 : vp_in b 3) (hw : w ≤ 10) : Met l yX9_lacksRow wsX9_lacksRow ({ frames := 1, cells := 0, slots := 0, locals := 25 }) (va_Pc [.ref h0, .int a, .int b, .int d, .int (nI w)] (fun U => U.heap.size = sz ∧ va_P Z.1 vwCl [(h0, .inr (9, [.ref b1, .ref b2, .ref b3, .ref b4, .int (nI n), .ref b5, .int (nI pn), .ref b6, .ref b7, .ref b8, .int (nI tn), .int xp, .int xr, .ref b9, .ref b10, .ref b11, .ref b12, .ref b13, .ref b14, .ref b15, .ref b16, .ref b17, .ref b18, .int ik, .ref b19, .ref b20, .ref b21, .ref b22, .ref b23, .ref b24, .ref b25])), (b20, .inl (Z.2 0, 4, .inl f20)), (b21, .inl (Z.2 0, 4, .inl f21))] U.heap ∧ va_K Z.1 vwCl (gT Z) U ∧ va_D (fun _ => True) [(h0, .inr (9, [.ref b1, .ref b2, .ref b3, .ref b4, .int (nI n), .ref b5, .int (nI pn), .ref b6, .ref b7, .ref b8, .int (nI tn), .int xp, .int xr, .ref b9, .ref b10, .ref b11, .ref b12, .ref b13, .ref b14, .ref b15, .ref b16, .ref b17, .ref b18, .int ik, .ref b19, .ref b20, .ref b21, .ref b22, .ref b23, .ref b24, .ref b25])), (b20, .inl (Z.2 0, 4, .inl f20)), (b21, .inl (Z.2 0, 4, .inl f21))])) (va_Qi (fun (r : Int32) (u : Unit) => r = zLk (sl a.toNatClampNeg) b d w) (fun (u : Unit) (t9 : State) => va_P Z.1 vwCl [(h0, .inr (9, [.ref b1, .ref b2, .ref b3, .ref b4, .int (nI n), .ref b5, .int (nI pn), .ref b6, .ref b7, .ref b8, .int (nI tn), .int xp, .int xr, .ref b9, .ref b10, .ref b11, .ref b12, .ref b13, .ref b14, .ref b15, .ref b16, .ref b17, .ref b18, .int ik, .ref b19, .ref b20, .ref b21, .ref b22, .ref b23, .ref b24, .ref b25])), (b20, .inl (Z.2 0, 4, .inl f20)), (b21, .inl (Z.2 0, 4, .inl f21))] t9.heap ∧ va_D (va_A [(h0, .inr (9, [.ref b1, .ref b2, .ref b3, .ref b4, .int (nI n), .ref b5, .int (nI pn), .ref b6, .ref b7, .ref b8, .int (nI tn), .int xp, .int xr, .ref b9, .ref b10, .ref b11, .ref b12, .ref b13, .ref b14, .ref b15, .ref b16, .ref b17, .ref b18, .int ik, .ref b19, .ref b20, .ref b21, .ref b22, .ref b23, .ref b24, .ref b25])), (b20, .inl (Z.2 0, 4, .inl f20)), (b21, .inl (Z.2 0, 4, .inl f21))] sz) [(h0, .inr (9, [.ref b1, .ref b2, .ref b3, .ref b4, .int (nI n), .ref b5, .int (nI pn), .ref b6, .ref b7, .ref b8, .int (nI tn), .int xp, .int xr, .ref b9, .ref b10, .ref b11, .ref b12, .ref b13, .ref b14, .ref b15, .ref b16, .ref b17, .ref b18, .int ik, .ref b19, .ref b20, .ref b21, .ref b22, .ref b23, .ref b24, .ref b25])), (b20, .inl (Z.2 0, 4, .inl f20)), (b21, .inl (Z.2 0, 4, .inl f21))]) (va_A [(h0, .inr (9, [.ref b1, .ref b2, .ref b3, .ref b4, .int (nI n), .ref b5, .int (nI pn), .ref b6, .ref b7, .ref b8, .int (nI tn), .int xp, .int xr, .ref b9, .ref b10, .ref b11, .ref b12, .ref b13, .ref b14, .ref b15, .ref b16, .ref b17, .ref b18, .int ik, .ref b19, .ref b20, .ref b21, .ref b22, .ref b23, .ref b24, .ref b25])), (b20, .inl (Z.2 0, 4, .inl f20)), (b21, .inl (Z.2 0, 4, .inl f21))] sz)) 0 0 (va_A [(h0, .inr (9, [.ref b1, .ref b2, .ref b3, .ref b4, .int (nI n), .ref b5, .int (nI pn), .ref b6, .ref b7, .ref b8, .int (nI tn), .int xp, .int xr, .ref b9, .ref b10, .ref b11, .ref b12, .ref b13, .ref b14, .ref b15, .ref b16, .ref b17, .ref b18, .int ik, .ref b19, .ref b20, .ref b21, .ref b22, .ref b23, .ref b24, .ref b25])), (b20, .inl (Z.2 0, 4, .inl f20)), (b21, .inl (Z.2 0, 4, .inl f21))] sz) := by
  refine Met.ofW (cc := cX9_lacksRow) (maxL := 5) (ret := (some .int)) (by decide) rfl ?_
  intro p e s m args below meth c s₁ B hml hv
  obtain ⟨rfl, hsz, hP, hK, hD0⟩ := hv
  have hx := B.exec
  have hb := B.bytes
  have hr := B.returns
  have hts := atoms_spec (ws := wsX9_lacksRow) B.pre
  have hown : s.vm.findClass RX9 = some m.cls := findClass_of_methodNamed B.named
  have hlocks := B.notSynchronized
  subst hsz
  have hin9 : ∀ w ∈ wsX90, w ∈ wsX9_lacksRow := fun w h9 => (List.mem_cons_of_mem _ (List.mem_append_right _ h9))
  have hD := hD0.self (sz := s.heap.size)
  generalize hAe : va_A [(h0, .inr (9, [.ref b1, .ref b2, .ref b3, .ref b4, .int (nI n), .ref b5, .int (nI pn), .ref b6, .ref b7, .ref b8, .int (nI tn), .int xp, .int xr, .ref b9, .ref b10, .ref b11, .ref b12, .ref b13, .ref b14, .ref b15, .ref b16, .ref b17, .ref b18, .int ik, .ref b19, .ref b20, .ref b21, .ref b22, .ref b23, .ref b24, .ref b25])), (b20, .inl (Z.2 0, 4, .inl f20)), (b21, .inl (Z.2 0, 4, .inl f21))] s.heap.size = A at hD ⊢
  have hA : ∀ q : Nat, s.heap.size ≤ q → A q := fun q h => by rw [← hAe]; exact Or.inr h
  have hS : va_S A s.heap s.heap [] := va_S.rf
  have hP : va_P Z.1 vwCl [(h0, .inr (9, [.ref b1, .ref b2, .ref b3, .ref b4, .int (nI n), .ref b5, .int (nI pn), .ref b6, .ref b7, .ref b8, .int (nI tn), .int xp, .int xr, .ref b9, .ref b10, .ref b11, .ref b12, .ref b13, .ref b14, .ref b15, .ref b16, .ref b17, .ref b18, .int ik, .ref b19, .ref b20, .ref b21, .ref b22, .ref b23, .ref b24, .ref b25])), (b20, .inl (Z.2 0, 4, .inl f20)), (b21, .inl (Z.2 0, 4, .inl f21))] s.heap := hP
  have hl := lv_entry ([.ref h0, .int a, .int b, .int d, .int (nI w)]) (n := 5) (Nat.le_of_ble_eq_true rfl)
  rw [lg_entry_eq]
  generalize (lg_sl ([.ref h0, .int a, .int b, .int d, .int (nI w)]) ++ List.replicate (5 - (lg_sl ([.ref h0, .int a, .int b, .int d, .int (nI w)])).length) Slot.unset).toArray = ls at hl ⊢
  have hl : lv_has ls 5 [(0, .ref h0), (1, .int a), (2, .int b), (3, .int d), (4, .int (nI w))] := hl
  refine lv_aload_n hx hb dX9_lacksRow_0 rfl (lv_at hl 0 rfl) ?_
  refine va_get (D := Z.1) (ci := 9) (v := .ref b20) (C := RX9) (T := TX9) (N := 31) hx hb hts hin9 hown hK hP 0 rfl rfl 25 (by decide) (hts (.fieldLink RX9 68 "HalfAskedModel" "lanes" "[I") (List.mem_of_getElem? (i := 1) rfl)) (fun _ h9 => h9) rfl dX9_lacksRow_1 ?_
  refine lv_iload_n hx hb dX9_lacksRow_4 rfl (lv_at hl 1 rfl) ?_
  refine va_iald hx hb hK hP 1 0 rfl rfl ha dX9_lacksRow_5 ?_
  refine lv_iload_n hx hb dX9_lacksRow_6 rfl (lv_at hl 2 rfl) ?_
  refine lv_icmp_eq (tgt := 27) hx hb dX9_lacksRow_7 (by decide) (fun c_1 => ?_) (fun c_1 => ?_)
  · refine lv_iload_n hx hb dX9_lacksRow_27 rfl (lv_at hl 3 rfl) ?_
    refine lv_i2l hx hb dX9_lacksRow_28 rfl ?_
    refine lv_lconst (v := 0) hx hb dX9_lacksRow_29 (by decide) ?_
    refine lv_aload_n hx hb dX9_lacksRow_30 rfl (lv_at hl 0 rfl) ?_
    refine va_get (D := Z.1) (ci := 9) (v := .ref b21) (C := RX9) (T := TX9) (N := 31) hx hb hts hin9 hown hK hP 0 rfl rfl 26 (by decide) (hts (.fieldLink RX9 71 "HalfAskedModel" "rowSizes" "[I") (List.mem_of_getElem? (i := 2) rfl)) (fun _ h9 => h9) rfl dX9_lacksRow_31 ?_
    refine lv_iload_n hx hb dX9_lacksRow_34 rfl (lv_at hl 1 rfl) ?_
    refine va_iald hx hb hK hP 2 0 rfl rfl ha dX9_lacksRow_35 ?_
    refine lv_iload hx hb dX9_lacksRow_36 (lv_at hl 4 rfl) ?_
    refine lv_isub hx hb dX9_lacksRow_38 ?_
    refine lv_i2l hx hb dX9_lacksRow_39 rfl ?_
    have hPc := hP.sub (ws' := []) [] rfl
    have hDc := hD.sub (ws' := []) [] (by decide +kernel) rfl
    have hFc := va_free (wc := []) hD hS hA [] rfl
    refine va_calli (va_runS (As := [.long d.toInt64, .long 0, .long (((f21 a.toNatClampNeg) - (nI w)).toInt64)]) (rest := []) ⟨hx, hb, hml, hown, hts⟩ (c_X9_in l Z s.heap.size d.toInt64 0 (((f21 a.toNatClampNeg) - (nI w)).toInt64)) (va_cwS 3 hts gX9_lacksRow_X9_in rfl rfl rfl (by decide +kernel) ⟨Nat.le_of_ble_eq_true rfl, Nat.le_of_ble_eq_true rfl⟩) ⟨fun a U g mk q => by obtain ⟨q0, q1, qP, qK, qD⟩ := q; exact ⟨q0, q1, qP, va_K.moved (u := U) (U := U.calling g mk a) (Vm.Alike.refl U.vm) qK, qD⟩, fun U hU hW => ⟨rfl, by rw [hU], by rw [hU]; exact hPc, va_K.moved hW.alike hK, hDc.weaken (fun _ _ _ _ => trivial)⟩⟩ rfl rfl hl.1 rfl (lv_room (Nat.le_of_ble_eq_true rfl)) dX9_lacksRow_40 ⟨Nat.le_of_ble_eq_true rfl, Nat.le_of_ble_eq_true rfl⟩) hS (fun q _ h => hFc q h) hFc (fun r_2 u t9 H1 locs ht hvm hw hB hz1 hk1 hS => ?_)
    have hw9 := hw.symm
    clear hw
    subst hw9
    have hP1 : va_P Z.1 vwCl [] H1 := fun k q h => by simp at h
    have hD1 : va_D (va_A [] s.heap.size) [] := ⟨fun i j p q h => by simp at h, fun k q h => by simp at h⟩
    obtain ⟨hP, hD⟩ := va_join (wr := [(h0, .inr (9, [.ref b1, .ref b2, .ref b3, .ref b4, .int (nI n), .ref b5, .int (nI pn), .ref b6, .ref b7, .ref b8, .int (nI tn), .int xp, .int xr, .ref b9, .ref b10, .ref b11, .ref b12, .ref b13, .ref b14, .ref b15, .ref b16, .ref b17, .ref b18, .int ik, .ref b19, .ref b20, .ref b21, .ref b22, .ref b23, .ref b24, .ref b25])), (b20, .inl (Z.2 0, 4, .inl f20)), (b21, .inl (Z.2 0, 4, .inl f21))]) (w1 := []) hP hD [] [0, 1, 2] rfl rfl (by decide +kernel) (by decide +kernel) hk1 hFc hP1 hD1
    clear hPc hDc hP1 hD1 hk1 hz1 hFc ht hvm
    generalize H1 = H at hP hS ⊢
    have hP : va_P Z.1 vwCl [(h0, .inr (9, [.ref b1, .ref b2, .ref b3, .ref b4, .int (nI n), .ref b5, .int (nI pn), .ref b6, .ref b7, .ref b8, .int (nI tn), .int xp, .int xr, .ref b9, .ref b10, .ref b11, .ref b12, .ref b13, .ref b14, .ref b15, .ref b16, .ref b17, .ref b18, .int ik, .ref b19, .ref b20, .ref b21, .ref b22, .ref b23, .ref b24, .ref b25])), (b20, .inl (Z.2 0, 4, .inl f20)), (b21, .inl (Z.2 0, 4, .inl f21))] H := hP
    have hD : va_D A [(h0, .inr (9, [.ref b1, .ref b2, .ref b3, .ref b4, .int (nI n), .ref b5, .int (nI pn), .ref b6, .ref b7, .ref b8, .int (nI tn), .int xp, .int xr, .ref b9, .ref b10, .ref b11, .ref b12, .ref b13, .ref b14, .ref b15, .ref b16, .ref b17, .ref b18, .int ik, .ref b19, .ref b20, .ref b21, .ref b22, .ref b23, .ref b24, .ref b25])), (b20, .inl (Z.2 0, 4, .inl f20)), (b21, .inl (Z.2 0, 4, .inl f21))] := hD
    refine lv_if_eq (tgt := 50) hx hb dX9_lacksRow_43 (by decide) (fun c_3 => ?_) (fun c_3 => ?_)
    · refine lv_bipush (v := (-13)) hx hb dX9_lacksRow_50 (by decide) ?_
      have hP9 := hP.sub (ws' := [(h0, .inr (9, [.ref b1, .ref b2, .ref b3, .ref b4, .int (nI n), .ref b5, .int (nI pn), .ref b6, .ref b7, .ref b8, .int (nI tn), .int xp, .int xr, .ref b9, .ref b10, .ref b11, .ref b12, .ref b13, .ref b14, .ref b15, .ref b16, .ref b17, .ref b18, .int ik, .ref b19, .ref b20, .ref b21, .ref b22, .ref b23, .ref b24, .ref b25])), (b20, .inl (Z.2 0, 4, .inl f20)), (b21, .inl (Z.2 0, 4, .inl f21))]) [0, 1, 2] rfl
      have hD9 := hD.sub (ws' := [(h0, .inr (9, [.ref b1, .ref b2, .ref b3, .ref b4, .int (nI n), .ref b5, .int (nI pn), .ref b6, .ref b7, .ref b8, .int (nI tn), .int xp, .int xr, .ref b9, .ref b10, .ref b11, .ref b12, .ref b13, .ref b14, .ref b15, .ref b16, .ref b17, .ref b18, .int ik, .ref b19, .ref b20, .ref b21, .ref b22, .ref b23, .ref b24, .ref b25])), (b20, .inl (Z.2 0, 4, .inl f20)), (b21, .inl (Z.2 0, 4, .inl f21))]) [0, 1, 2] (by decide +kernel) rfl
      exact W.iret (v := (-13)) hx hb hr (fun t9 ht hW => ⟨⟨(-13), (), rfl, zLk_13 hs ha hb3 hw c_1 c_3, by rw [ht]; exact hP9, hD9⟩, hS.F ht⟩) hS.2.2 dX9_lacksRow_52
    · refine lv_iconst (v := 0) hx hb dX9_lacksRow_46 (by decide) ?_
      refine lv_goto (tgt := 52) hx hb dX9_lacksRow_47 (by decide) ?_
      have hP9 := hP.sub (ws' := [(h0, .inr (9, [.ref b1, .ref b2, .ref b3, .ref b4, .int (nI n), .ref b5, .int (nI pn), .ref b6, .ref b7, .ref b8, .int (nI tn), .int xp, .int xr, .ref b9, .ref b10, .ref b11, .ref b12, .ref b13, .ref b14, .ref b15, .ref b16, .ref b17, .ref b18, .int ik, .ref b19, .ref b20, .ref b21, .ref b22, .ref b23, .ref b24, .ref b25])), (b20, .inl (Z.2 0, 4, .inl f20)), (b21, .inl (Z.2 0, 4, .inl f21))]) [0, 1, 2] rfl
      have hD9 := hD.sub (ws' := [(h0, .inr (9, [.ref b1, .ref b2, .ref b3, .ref b4, .int (nI n), .ref b5, .int (nI pn), .ref b6, .ref b7, .ref b8, .int (nI tn), .int xp, .int xr, .ref b9, .ref b10, .ref b11, .ref b12, .ref b13, .ref b14, .ref b15, .ref b16, .ref b17, .ref b18, .int ik, .ref b19, .ref b20, .ref b21, .ref b22, .ref b23, .ref b24, .ref b25])), (b20, .inl (Z.2 0, 4, .inl f20)), (b21, .inl (Z.2 0, 4, .inl f21))]) [0, 1, 2] (by decide +kernel) rfl
      exact W.iret (v := 0) hx hb hr (fun t9 ht hW => ⟨⟨0, (), rfl, zLk_0 hs ha hb3 hw c_1 c_3, by rw [ht]; exact hP9, hD9⟩, hS.F ht⟩) hS.2.2 dX9_lacksRow_52
  · refine lv_aload_n hx hb dX9_lacksRow_10 rfl (lv_at hl 0 rfl) ?_
    refine va_get (D := Z.1) (ci := 9) (v := .ref b20) (C := RX9) (T := TX9) (N := 31) hx hb hts hin9 hown hK hP 0 rfl rfl 25 (by decide) (hts (.fieldLink RX9 68 "HalfAskedModel" "lanes" "[I") (List.mem_of_getElem? (i := 1) rfl)) (fun _ h9 => h9) rfl dX9_lacksRow_11 ?_
    refine lv_iload_n hx hb dX9_lacksRow_14 rfl (lv_at hl 1 rfl) ?_
    refine va_iald hx hb hK hP 1 0 rfl rfl ha dX9_lacksRow_15 ?_
    refine lv_if_ge (tgt := 24) hx hb dX9_lacksRow_16 (by decide) (fun c_4 => ?_) (fun c_4 => ?_)
    · refine lv_bipush (v := (-12)) hx hb dX9_lacksRow_24 (by decide) ?_
      have hP9 := hP.sub (ws' := [(h0, .inr (9, [.ref b1, .ref b2, .ref b3, .ref b4, .int (nI n), .ref b5, .int (nI pn), .ref b6, .ref b7, .ref b8, .int (nI tn), .int xp, .int xr, .ref b9, .ref b10, .ref b11, .ref b12, .ref b13, .ref b14, .ref b15, .ref b16, .ref b17, .ref b18, .int ik, .ref b19, .ref b20, .ref b21, .ref b22, .ref b23, .ref b24, .ref b25])), (b20, .inl (Z.2 0, 4, .inl f20)), (b21, .inl (Z.2 0, 4, .inl f21))]) [0, 1, 2] rfl
      have hD9 := hD.sub (ws' := [(h0, .inr (9, [.ref b1, .ref b2, .ref b3, .ref b4, .int (nI n), .ref b5, .int (nI pn), .ref b6, .ref b7, .ref b8, .int (nI tn), .int xp, .int xr, .ref b9, .ref b10, .ref b11, .ref b12, .ref b13, .ref b14, .ref b15, .ref b16, .ref b17, .ref b18, .int ik, .ref b19, .ref b20, .ref b21, .ref b22, .ref b23, .ref b24, .ref b25])), (b20, .inl (Z.2 0, 4, .inl f20)), (b21, .inl (Z.2 0, 4, .inl f21))]) [0, 1, 2] (by decide +kernel) rfl
      exact W.iret (v := (-12)) hx hb hr (fun t9 ht hW => ⟨⟨(-12), (), rfl, zLk_12 hs ha c_1 (Int32.not_lt.mpr c_4), by rw [ht]; exact hP9, hD9⟩, hS.F ht⟩) hS.2.2 dX9_lacksRow_26
    · refine lv_bipush (v := (-11)) hx hb dX9_lacksRow_19 (by decide) ?_
      refine lv_goto (tgt := 26) hx hb dX9_lacksRow_21 (by decide) ?_
      have hP9 := hP.sub (ws' := [(h0, .inr (9, [.ref b1, .ref b2, .ref b3, .ref b4, .int (nI n), .ref b5, .int (nI pn), .ref b6, .ref b7, .ref b8, .int (nI tn), .int xp, .int xr, .ref b9, .ref b10, .ref b11, .ref b12, .ref b13, .ref b14, .ref b15, .ref b16, .ref b17, .ref b18, .int ik, .ref b19, .ref b20, .ref b21, .ref b22, .ref b23, .ref b24, .ref b25])), (b20, .inl (Z.2 0, 4, .inl f20)), (b21, .inl (Z.2 0, 4, .inl f21))]) [0, 1, 2] rfl
      have hD9 := hD.sub (ws' := [(h0, .inr (9, [.ref b1, .ref b2, .ref b3, .ref b4, .int (nI n), .ref b5, .int (nI pn), .ref b6, .ref b7, .ref b8, .int (nI tn), .int xp, .int xr, .ref b9, .ref b10, .ref b11, .ref b12, .ref b13, .ref b14, .ref b15, .ref b16, .ref b17, .ref b18, .int ik, .ref b19, .ref b20, .ref b21, .ref b22, .ref b23, .ref b24, .ref b25])), (b20, .inl (Z.2 0, 4, .inl f20)), (b21, .inl (Z.2 0, 4, .inl f21))]) [0, 1, 2] (by decide +kernel) rfl
      exact W.iret (v := (-11)) hx hb hr (fun t9 ht hW => ⟨⟨(-11), (), rfl, zLk_11 hs ha (Int32.not_le.mp c_4), by rw [ht]; exact hP9, hD9⟩, hS.F ht⟩) hS.2.2 dX9_lacksRow_26
noncomputable def zItem (sl : zSL) (a b d : Int32) : Int32 := zI (vp_in a 4 ∧ vp_in b 3) (zI (zLk (sl a.toNatClampNeg) b d 1 < 0) (zLk (sl a.toNatClampNeg) b d 1) 1) (-1)
noncomputable def zFilm (sl : zSL) (n : Nat) (a b d : Int32) : Int32 := zI (vp_in a 4 ∧ vp_in b 3) (zI (zLk (sl a.toNatClampNeg) b d n < 0) (zLk (sl a.toNatClampNeg) b d n) (nI n)) (-1)
noncomputable def zDropA (sl : zSL) (a : Int32) : Int32 := zI (vp_in a 4) (match sl a.toNatClampNeg with | none => -11 | some (_, len) => nI len) (-1)
def zPut (sl : zSL) (t0 : Nat) (o : Option (Int32 × Nat)) : zSL := fun t => if t = t0 then o else sl t
theorem zPut_at {sl : zSL} {t0 : Nat} {o : Option (Int32 × Nat)} : zPut sl t0 o t0 = o := if_pos rfl
theorem zPut_ne {sl : zSL} {t0 t : Nat} {o : Option (Int32 × Nat)} (h : ¬ t = t0) : zPut sl t0 o t = sl t := if_neg h
noncomputable def zDropS (sl : zSL) (a : Int32) : zSL := zI (vp_in a 4) (zPut sl a.toNatClampNeg none) sl
noncomputable def zSheetA (a b d : Int32) : Int32 := zI ((vp_in a 4 ∧ vp_in b 3) ∧ d ≤ 24) (zI (d < 0) (-14) d) (-1)
noncomputable def zSheetS (sl : zSL) (a b d : Int32) : zSL := zI (((vp_in a 4 ∧ vp_in b 3) ∧ d ≤ 24) ∧ 0 ≤ d) (zPut sl a.toNatClampNeg (some (b, d.toNatClampNeg))) sl
/-- an item as a lane can hold it -/
def asLn (b : Int32) (v : Int64) : Int64 := if b = 0 then v.toInt32.toInt8.toInt32.toInt64 else if b = 1 then v.toInt32.toInt64 else v
/-- all items: of a sheet, the j-th -/
abbrev zIM : Type := Nat → Nat → Int64
noncomputable def imItem (sl : zSL) (im : zIM) (a b d : Int32) (v : Int64) : zIM := zI (zItem sl a b d = 1) (fun t j => if t = a.toNatClampNeg ∧ j = d.toNatClampNeg then asLn b v else im t j) im
noncomputable def imFilm (sl : zSL) (n : Nat) (pc : Nat → Nat) (im : zIM) (a b d : Int32) : zIM := zI (0 ≤ zFilm sl n a b d) (fun t j => if t = a.toNatClampNeg ∧ d.toNatClampNeg ≤ j ∧ j < d.toNatClampNeg + n then asLn b (nI (pc (j - d.toNatClampNeg))).toInt64 else im t j) im
noncomputable def imSheet (im : zIM) (a b d : Int32) : zIM := zI (((vp_in a 4 ∧ vp_in b 3) ∧ d ≤ 24) ∧ 0 ≤ d) (fun t j => if t = a.toNatClampNeg then 0 else im t j) im
def zIm (sl : zSL) (im : zIM) (g : Nat → Int64) : Prop := ∀ t, t < 4 → ∀ ln len, sl t = some (ln, len) → ∀ j, j < len → g (24 * t + j) = im t j
theorem zSl_24 {sl : zSL} {f g : Nat → Int32} (h : zSl sl f g) {t len : Nat} {ln : Int32} (ht : t < 4) (e : sl t = some (ln, len)) : len ≤ 24 := by
  rcases h t ht with ⟨e2, -⟩ | ⟨l2, n2, e2, -, -, -, h2⟩
  · rw [e2] at e; cases e
  · rw [e2] at e; cases e; exact h2
theorem as_8 (w : Int64) : (w <<< ((56 : Int32).toInt64 &&& 63)) >>> ((56 : Int32).toInt64 &&& 63) = w.toInt32.toInt8.toInt32.toInt64 := by
  apply Int64.toBitVec_inj.mp
  have e : ((56 : Int32).toInt64 &&& 63).toBitVec.smod 64 = 56#64 := by decide
  rw [Int64.toBitVec_shiftRight, Int64.toBitVec_shiftLeft, e]
  show (w.toBitVec <<< 56).sshiftRight 56 = (((w.toBitVec.signExtend 32).signExtend 8).signExtend 32).signExtend 64
  apply BitVec.eq_of_getLsbD_eq
  intro i hi
  rcases Nat.lt_or_ge i 8 with k | k
  · simp only [BitVec.getLsbD_sshiftRight, BitVec.getLsbD_signExtend, BitVec.getLsbD_shiftLeft, BitVec.msb_eq_getLsbD_last, hi, k, show i < 32 by omega, show 56 + i < 64 by omega, show ¬ 64 ≤ i by omega, show ¬ 56 + i < 56 by omega, decide_true, decide_false, Bool.true_and, Bool.and_true, Bool.not_false, Bool.not_true, if_true, if_false, Nat.add_sub_cancel_left, Nat.reduceSub, Nat.reduceLT, Nat.reduceLeDiff, Nat.reduceAdd, decide_eq_true_eq]
  · rcases Nat.lt_or_ge i 32 with k2 | k2 <;> simp only [BitVec.getLsbD_sshiftRight, BitVec.getLsbD_signExtend, BitVec.getLsbD_shiftLeft, BitVec.msb_eq_getLsbD_last, hi, show ¬ i < 8 by omega, show ¬ 56 + i < 64 by omega, show ¬ 64 ≤ i by omega, decide_true, decide_false, Bool.true_and, Bool.and_true, Bool.not_false, Bool.not_true, if_true, if_false, Nat.add_sub_cancel_left, Nat.reduceSub, Nat.reduceLT, Nat.reduceLeDiff, Nat.reduceAdd, decide_eq_true_eq, k2, show 32 ≤ i → ¬ i < 32 by omega]
theorem as_32 (w : Int64) : (w <<< ((32 : Int32).toInt64 &&& 63)) >>> ((32 : Int32).toInt64 &&& 63) = w.toInt32.toInt64 := by
  apply Int64.toBitVec_inj.mp
  have e : ((32 : Int32).toInt64 &&& 63).toBitVec.smod 64 = 32#64 := by decide
  rw [Int64.toBitVec_shiftRight, Int64.toBitVec_shiftLeft, e]
  show (w.toBitVec <<< 32).sshiftRight 32 = (w.toBitVec.signExtend 32).signExtend 64
  apply BitVec.eq_of_getLsbD_eq
  intro i hi
  rcases Nat.lt_or_ge i 32 with k | k
  · simp only [BitVec.getLsbD_sshiftRight, BitVec.getLsbD_signExtend, BitVec.getLsbD_shiftLeft, BitVec.msb_eq_getLsbD_last, hi, k, show 32 + i < 64 by omega, show ¬ 64 ≤ i by omega, show ¬ 32 + i < 32 by omega, decide_true, decide_false, Bool.true_and, Bool.and_true, Bool.not_false, Bool.not_true, if_true, if_false, Nat.add_sub_cancel_left, Nat.reduceSub, Nat.reduceLT, Nat.reduceLeDiff, Nat.reduceAdd, decide_eq_true_eq]
  · simp only [BitVec.getLsbD_sshiftRight, BitVec.getLsbD_signExtend, BitVec.getLsbD_shiftLeft, BitVec.msb_eq_getLsbD_last, hi, show ¬ i < 32 by omega, show ¬ 32 + i < 64 by omega, show ¬ 64 ≤ i by omega, decide_true, decide_false, Bool.true_and, Bool.and_true, Bool.not_false, Bool.not_true, if_true, if_false, Nat.add_sub_cancel_left, Nat.reduceSub, Nat.reduceLT, Nat.reduceLeDiff, Nat.reduceAdd, decide_eq_true_eq]
theorem as_m (b : Int32) (w : Int64) : q_X9_asLane_r b w = asLn b w := by
  unfold q_X9_asLane_r asLn
  by_cases h0 : b = 0
  · rw [if_pos h0, if_pos h0]; exact as_8 w
  · rw [if_neg h0, if_neg h0]
    by_cases h1 : b = 1
    · rw [if_pos h1, if_pos h1]; exact as_32 w
    · rw [if_neg h1, if_neg h1]
theorem vl_s {f : Nat → Int64} {k : Nat} {x : Int64} : vp_updL f k x k = x := if_pos rfl
theorem vl_n {f : Nat → Int64} {k j : Nat} {x : Int64} (h : ¬ j = k) : vp_updL f k x j = f j := if_neg h
theorem im_itemN {sl : zSL} {im : zIM} {a b d x : Int32} {v : Int64} {g : Nat → Int64} (h : zIm sl im g) (e : x = zItem sl a b d) (hx : ¬ x = 1) : zIm sl (imItem sl im a b d v) g := by
  unfold imItem
  rw [zI_n (fun q => hx (e.trans q))]
  exact h
theorem im_itemY {sl : zSL} {im : zIM} {b : Int32} {t u0 : Nat} {v : Int64} {f g : Nat → Int32} {i : Nat → Int64} (h : zIm sl im i) (hs : zSl sl f g) (ht : t < 4) (hu : u0 < 24) (e : 1 = zItem sl (nI t) b (nI u0)) : zIm sl (imItem sl im (nI t) b (nI u0) v) (vp_updL i (nI (24 * t + u0)).toNatClampNeg (q_X9_asLane_r b v)) := by
  unfold imItem
  rw [zI_p e.symm, as_m, nI_clamp (show 24 * t + u0 < 2 ^ 31 by omega), nI_clamp (show t < 2 ^ 31 by omega), nI_clamp (show u0 < 2 ^ 31 by omega)]
  intro t1 ht1 ln len e1 j hj
  have h24 := zSl_24 hs ht1 e1
  show vp_updL i (24 * t + u0) (asLn b v) (24 * t1 + j) = if t1 = t ∧ j = u0 then asLn b v else im t1 j
  by_cases c : t1 = t ∧ j = u0
  · rw [if_pos c, c.1, c.2, vl_s]
  · rw [if_neg c, vl_n (by omega)]; exact h t1 ht1 ln len e1 j hj
theorem lk_n1 {x : Int32} (h : x < 0) : ¬ x = 1 := fun e => by rw [e] at h; exact absurd h (by decide)
/-- a row of w items from q on is new: each k-th is F k -/
def rwN (F : Nat → Int64) (q w : Nat) (s g : Nat → Int64) : Prop := ∀ z, g z = if q ≤ z ∧ z < q + w then F (z - q) else s z
theorem rwN_0 {F : Nat → Int64} {q : Nat} {s : Nat → Int64} : rwN F q 0 s s := fun z => (if_neg (fun h => absurd h.2 (by omega))).symm
theorem rwN_s {F : Nat → Int64} {q w k : Nat} {s g : Nat → Int64} {x : Int64} (h : rwN F q w s g) (hk : k = q + w) (hx : x = F w) : rwN F q (w + 1) s (vp_updL g k x) := by
  intro z
  subst hk
  by_cases e : z = q + w
  · rw [e, vl_s, if_pos ⟨by omega, by omega⟩, show q + w - q = w by omega, hx]
  · rw [vl_n e, h z]
    by_cases c : q ≤ z ∧ z < q + w
    · rw [if_pos c, if_pos ⟨c.1, by omega⟩]
    · rw [if_neg c, if_neg (fun k => c ⟨k.1, by omega⟩)]
theorem im_sheetN {sl : zSL} {im : zIM} {a b d : Int32} {g : Nat → Int64} (h : zIm sl im g) (hx : ¬ (((vp_in a 4 ∧ vp_in b 3) ∧ d ≤ 24) ∧ 0 ≤ d)) : zIm (zSheetS sl a b d) (imSheet im a b d) g := by
  unfold imSheet zSheetS
  rw [zI_n hx, zI_n hx]
  exact h
theorem im_sheetY {sl : zSL} {im : zIM} {a b d : Int32} {t : Nat} {f g : Nat → Int32} {i i1 : Nat → Int64} (h : zIm sl im i) (hs : zSl sl f g) (ht : t < 4) (ea : a = nI t) (hx : ((vp_in a 4 ∧ vp_in b 3) ∧ d ≤ 24) ∧ 0 ≤ d) (h1 : rwN (fun _ => 0) (24 * t) 24 i i1) : zIm (zSheetS sl a b d) (imSheet im a b d) i1 := by
  unfold imSheet zSheetS
  rw [zI_p hx, zI_p hx]
  intro t1 ht1 ln len e1 j hj
  have hd : d.toNatClampNeg ≤ 24 := by
    obtain ⟨u, hu, e⟩ := z_n24 hx.2 hx.1.2
    rw [e, nI_clamp (by omega)]; exact hu
  rw [ea, nI_clamp (by omega)] at e1 ⊢
  show i1 (24 * t1 + j) = if t1 = t then 0 else im t1 j
  rw [h1]
  by_cases c : t1 = t
  · rw [if_pos c, if_pos]
    rw [c, zPut_at] at e1
    cases e1
    exact ⟨by omega, by omega⟩
  · rw [zPut_ne c] at e1
    have h24 := zSl_24 hs ht1 e1
    rw [if_neg c, if_neg (by omega)]; exact h t1 ht1 ln len e1 j hj
theorem im_filmN {sl : zSL} {im : zIM} {n : Nat} {pc : Nat → Nat} {a b d x : Int32} {g : Nat → Int64} (h : zIm sl im g) (e : x = zFilm sl n a b d) (hx : x < 0) : zIm sl (imFilm sl n pc im a b d) g := by
  unfold imFilm
  rw [zI_n (fun q => Int32.not_lt.mpr (by rw [e]; exact q) hx)]
  exact h
theorem im_filmY {sl : zSL} {im : zIM} {n : Nat} {pc : Nat → Nat} {b : Int32} {t u0 : Nat} {f g : Nat → Int32} {i i1 : Nat → Int64} (h : zIm sl im i) (hs : zSl sl f g) (ht : t < 4) (hu : u0 + n ≤ 24) (e : nI n = zFilm sl n (nI t) b (nI u0)) (h1 : rwN (fun p => asLn b (nI (pc p)).toInt64) (24 * t + u0) n i i1) : zIm sl (imFilm sl n pc im (nI t) b (nI u0)) i1 := by
  unfold imFilm
  rw [zI_p (by rw [← e]; exact nI_pos' (by omega)), nI_clamp (show t < 2 ^ 31 by omega), nI_clamp (show u0 < 2 ^ 31 by omega)]
  intro t1 ht1 ln len e1 j hj
  have h24 := zSl_24 hs ht1 e1
  show i1 (24 * t1 + j) = if t1 = t ∧ u0 ≤ j ∧ j < u0 + n then asLn b (nI (pc (j - u0))).toInt64 else im t1 j
  rw [h1]
  by_cases c : t1 = t ∧ u0 ≤ j ∧ j < u0 + n
  · rw [if_pos c, if_pos ⟨by omega, by omega⟩]
    show asLn b (nI (pc (24 * t1 + j - (24 * t + u0)))).toInt64 = _
    rw [show 24 * t1 + j - (24 * t + u0) = j - u0 by omega]
  · rw [if_neg c, if_neg (by omega)]; exact h t1 ht1 ln len e1 j hj
theorem zSl_sheet {sl : zSL} {f g : Nat → Int32} {a b d : Int32} (h : zSl sl f g) (ha : vp_in a 4) (hb : vp_in b 3) (h1 : d ≤ 24) (h2 : 0 ≤ d) : zSl (zSheetS sl a b d) (upd f a.toNatClampNeg b) (upd g a.toNatClampNeg d) := by
  unfold zSheetS
  rw [zI_p ⟨⟨⟨ha, hb⟩, h1⟩, h2⟩]
  intro t ht
  by_cases e : t = a.toNatClampNeg
  · rw [e, pk_us, pk_us]
    obtain ⟨j, hj, rfl⟩ := z_n24 h2 h1
    exact Or.inr ⟨b, j, by rw [zPut_at, nI_clamp (by omega)], rfl, hb, rfl, hj⟩
  · rw [pk_un e, pk_un e, zPut_ne e]; exact h t ht
theorem z_96 {a : Int32} {k : Nat} (ha : vp_in a 4) (hk : k < 24) : vp_in (24 * a + nI k) 96 := by
  obtain ⟨t, ht, rfl⟩ := vp_in_of ha (by decide)
  rw [show (24 : Int32) = nI 24 from rfl, pk_mul, nI_add]
  exact vp_in_nI (by omega) (by decide)
theorem z_96i {a : Int32} {t k : Nat} (ht : t < 4) (ea : a = nI t) (hk : k < 24) : (24 * a + nI k).toNatClampNeg = 24 * t + k := by
  rw [ea, show (24 : Int32) = nI 24 from rfl, pk_mul, nI_add, nI_clamp (by omega)]
set_option maxHeartbeats 4000000 in
set_option maxRecDepth 100000 in
theorem lp_X9_sheet {p : Program} {l : Launch} {e : Env} {s : State} {m : MethodId} {args : Array Value} {below : List Frame} {meth : Method} {c : Code} {Q : State → Prop} {A : Nat → Prop} (Z : gZ) (h0 : Nat) (b1 : Nat) (b2 : Nat) (b3 : Nat) (b4 : Nat) (b5 : Nat) (b6 : Nat) (b7 : Nat) (b8 : Nat) (b9 : Nat) (b10 : Nat) (b11 : Nat) (b12 : Nat) (b13 : Nat) (b14 : Nat) (b15 : Nat) (b16 : Nat) (b17 : Nat) (b18 : Nat) (b19 : Nat) (b20 : Nat) (b21 : Nat) (b22 : Nat) (b23 : Nat) (b24 : Nat) (b25 : Nat) (n : Nat) (pn : Nat) (tn : Nat) (xp : Int32) (xr : Int32) (ik : Int32) (f20 : Nat → Int32) (f21 : Nat → Int32) (a : Int32) (d : Int32) (t : Nat) (s0 : Nat → Int64) (ha : vp_in a 4) (ht : t < 4) (hat : a = nI t) (hx : p.tables.exec = Jvm.exec) (hb : c.code = cX9_sheet) (hml : c.maxLocals = 5) (hts : ∀ w ∈ wsX9_sheet, w.before args s = true) (hown : s.vm.findClass RX9 = some m.cls) (hK : va_K Z.1 vwCl (gT Z) s) (hA : ∀ q : Nat, s.heap.size ≤ q → A q) (kx_66 : ∀ (j : Nat) (f22 : Nat → Int64) (H : Heap) (locs : List Loc) (ls : Array Slot), (rwN (fun _ => 0) (24 * t) 24 s0 f22) → va_P Z.1 vwCl [(h0, .inr (9, [.ref b1, .ref b2, .ref b3, .ref b4, .int (nI n), .ref b5, .int (nI pn), .ref b6, .ref b7, .ref b8, .int (nI tn), .int xp, .int xr, .ref b9, .ref b10, .ref b11, .ref b12, .ref b13, .ref b14, .ref b15, .ref b16, .ref b17, .ref b18, .int ik, .ref b19, .ref b20, .ref b21, .ref b22, .ref b23, .ref b24, .ref b25])), (b20, .inl (Z.2 0, 4, .inl f20)), (b21, .inl (Z.2 0, 4, .inl f21)), (b22, .inl (Z.2 2, 96, .inr (.inl f22)))] H → va_D A [(h0, .inr (9, [.ref b1, .ref b2, .ref b3, .ref b4, .int (nI n), .ref b5, .int (nI pn), .ref b6, .ref b7, .ref b8, .int (nI tn), .int xp, .int xr, .ref b9, .ref b10, .ref b11, .ref b12, .ref b13, .ref b14, .ref b15, .ref b16, .ref b17, .ref b18, .int ik, .ref b19, .ref b20, .ref b21, .ref b22, .ref b23, .ref b24, .ref b25])), (b20, .inl (Z.2 0, 4, .inl f20)), (b21, .inl (Z.2 0, 4, .inl f21)), (b22, .inl (Z.2 2, 96, .inr (.inl f22)))] → va_S A s.heap H locs → lv_has ls 5 [(0, .ref h0), (1, .int a), (3, .int d), (4, .int (nI j))] → W p l e ({ frames := 2, cells := 0, slots := 0, locals := 60 } : Room) s m args below meth c H locs 0 0 Q (F0 m 66 ls [])) : ∀ (fu9 : Nat) (j : Nat) (f22 : Nat → Int64), 24 - j < fu9 → (j ≤ 24) → (rwN (fun _ => 0) (24 * t) j s0 f22) → ∀ (H : Heap) (locs : List Loc) (ls : Array Slot), va_P Z.1 vwCl [(h0, .inr (9, [.ref b1, .ref b2, .ref b3, .ref b4, .int (nI n), .ref b5, .int (nI pn), .ref b6, .ref b7, .ref b8, .int (nI tn), .int xp, .int xr, .ref b9, .ref b10, .ref b11, .ref b12, .ref b13, .ref b14, .ref b15, .ref b16, .ref b17, .ref b18, .int ik, .ref b19, .ref b20, .ref b21, .ref b22, .ref b23, .ref b24, .ref b25])), (b20, .inl (Z.2 0, 4, .inl f20)), (b21, .inl (Z.2 0, 4, .inl f21)), (b22, .inl (Z.2 2, 96, .inr (.inl f22)))] H → va_D A [(h0, .inr (9, [.ref b1, .ref b2, .ref b3, .ref b4, .int (nI n), .ref b5, .int (nI pn), .ref b6, .ref b7, .ref b8, .int (nI tn), .int xp, .int xr, .ref b9, .ref b10, .ref b11, .ref b12, .ref b13, .ref b14, .ref b15, .ref b16, .ref b17, .ref b18, .int ik, .ref b19, .ref b20, .ref b21, .ref b22, .ref b23, .ref b24, .ref b25])), (b20, .inl (Z.2 0, 4, .inl f20)), (b21, .inl (Z.2 0, 4, .inl f21)), (b22, .inl (Z.2 2, 96, .inr (.inl f22)))] → va_S A s.heap H locs → lv_has ls 5 [(0, .ref h0), (1, .int a), (3, .int d), (4, .int (nI j))] → W p l e ({ frames := 2, cells := 0, slots := 0, locals := 60 } : Room) s m args below meth c H locs 0 0 Q (F0 m 40 ls []) := by
  have hin9 : ∀ w ∈ wsX90, w ∈ wsX9_sheet := fun w h9 => (List.mem_cons_of_mem _ (List.mem_append_right _ h9))
  intro fu9
  induction fu9 with
  | zero => intro j f22 hf9; exact absurd hf9 (Nat.not_lt_zero _)
  | succ fu9 ih =>
    intro j f22 hf9 hj hI H locs ls hP hD hS hl
    refine lv_iload hx hb dX9_sheet_40 (lv_at hl 3 rfl) ?_
    refine lv_bipush (v := 24) hx hb dX9_sheet_42 (by decide) ?_
    refine lv_icmp_ge (tgt := 66) hx hb dX9_sheet_44 (by decide) (fun c_1 => ?_) (fun c_1 => ?_)
    · exact kx_66 j f22 H locs ls (by have e9 : j = 24 := Nat.le_antisymm hj ((nI_leI (a := 24) (by decide) (by omega)).mp c_1); rw [e9] at hI; exact hI) hP hD hS (lv_sub hl [0, 1, 2, 3] rfl)
    · have hlt : j < 24 := by rcases Nat.lt_or_ge j 24 with q8 | q8; exact q8; exact absurd (nI_le (a := 24) q8 (by omega)) c_1
      refine lv_aload_n hx hb dX9_sheet_47 rfl (lv_at hl 0 rfl) ?_
      refine va_get (D := Z.1) (ci := 9) (v := .ref b22) (C := RX9) (T := TX9) (N := 31) hx hb hts hin9 hown hK hP 0 rfl rfl 27 (by decide) (hts (.fieldLink RX9 74 "HalfAskedModel" "items" "[J") (List.mem_of_getElem? (i := 3) rfl)) (fun _ h9 => h9) rfl dX9_sheet_48 ?_
      refine lv_bipush (v := 24) hx hb dX9_sheet_51 (by decide) ?_
      refine lv_iload_n hx hb dX9_sheet_53 rfl (lv_at hl 1 rfl) ?_
      refine lv_imul hx hb dX9_sheet_54 ?_
      refine lv_iload hx hb dX9_sheet_55 (lv_at hl 3 rfl) ?_
      refine lv_iadd hx hb dX9_sheet_57 ?_
      refine lv_lconst (v := 0) hx hb dX9_sheet_58 (by decide) ?_
      refine va_last hx hb hK hP hD hS 3 2 rfl rfl (z_96 ha hlt) dX9_sheet_59 (fun H locs hP hD hS => ?_)
      have hP : va_P Z.1 vwCl [(h0, .inr (9, [.ref b1, .ref b2, .ref b3, .ref b4, .int (nI n), .ref b5, .int (nI pn), .ref b6, .ref b7, .ref b8, .int (nI tn), .int xp, .int xr, .ref b9, .ref b10, .ref b11, .ref b12, .ref b13, .ref b14, .ref b15, .ref b16, .ref b17, .ref b18, .int ik, .ref b19, .ref b20, .ref b21, .ref b22, .ref b23, .ref b24, .ref b25])), (b20, .inl (Z.2 0, 4, .inl f20)), (b21, .inl (Z.2 0, 4, .inl f21)), (b22, .inl (Z.2 2, 96, .inr (.inl (vp_updL f22 (((24 * a) + (nI j)).toNatClampNeg) 0))))] H := hP
      have hD : va_D A [(h0, .inr (9, [.ref b1, .ref b2, .ref b3, .ref b4, .int (nI n), .ref b5, .int (nI pn), .ref b6, .ref b7, .ref b8, .int (nI tn), .int xp, .int xr, .ref b9, .ref b10, .ref b11, .ref b12, .ref b13, .ref b14, .ref b15, .ref b16, .ref b17, .ref b18, .int ik, .ref b19, .ref b20, .ref b21, .ref b22, .ref b23, .ref b24, .ref b25])), (b20, .inl (Z.2 0, 4, .inl f20)), (b21, .inl (Z.2 0, 4, .inl f21)), (b22, .inl (Z.2 2, 96, .inr (.inl (vp_updL f22 (((24 * a) + (nI j)).toNatClampNeg) 0))))] := hD
      refine lv_iinc (v := nI (j + 1)) (lv' := [(4, .int (nI (j + 1))), (0, .ref h0), (1, .int a), (3, .int d)]) hx hb dX9_sheet_60 hl (k := 3) rfl (nI_1 _) (by decide) rfl (fun ls hl => ?_)
      refine lv_goto (tgt := 40) hx hb dX9_sheet_63 (by decide) ?_
      exact ih (j + 1) (vp_updL f22 (((24 * a) + (nI j)).toNatClampNeg) 0) (by omega) (hlt) (rwN_s hI (z_96i ht hat hlt) rfl) H locs ls hP hD hS (lv_sub hl [1, 2, 3, 0] rfl)
set_option maxHeartbeats 4000000 in
set_option maxRecDepth 100000 in
theorem c_X9_sheet (l : Launch) (Z : gZ) (sz : Nat) (h0 : Nat) (b1 : Nat) (b2 : Nat) (b3 : Nat) (b4 : Nat) (b5 : Nat) (b6 : Nat) (b7 : Nat) (b8 : Nat) (b9 : Nat) (b10 : Nat) (b11 : Nat) (b12 : Nat) (b13 : Nat) (b14 : Nat) (b15 : Nat) (b16 : Nat) (b17 : Nat) (b18 : Nat) (b19 : Nat) (b20 : Nat) (b21 : Nat) (b22 : Nat) (b23 : Nat) (b24 : Nat) (b25 : Nat) (n : Nat) (pn : Nat) (tn : Nat) (xp : Int32) (xr : Int32) (ik : Int32) (f20 : Nat → Int32) (f21 : Nat → Int32) (f22 : Nat → Int64) (a : Int32) (b : Int32) (d : Int32) (sl : zSL) (im : zIM) (hs : zSl sl f20 f21) (hI : zIm sl im f22) : Met l yX9_sheet wsX9_sheet ({ frames := 2, cells := 0, slots := 0, locals := 60 }) (va_Pc [.ref h0, .int a, .int b, .int d] (fun U => U.heap.size = sz ∧ va_P Z.1 vwCl [(h0, .inr (9, [.ref b1, .ref b2, .ref b3, .ref b4, .int (nI n), .ref b5, .int (nI pn), .ref b6, .ref b7, .ref b8, .int (nI tn), .int xp, .int xr, .ref b9, .ref b10, .ref b11, .ref b12, .ref b13, .ref b14, .ref b15, .ref b16, .ref b17, .ref b18, .int ik, .ref b19, .ref b20, .ref b21, .ref b22, .ref b23, .ref b24, .ref b25])), (b20, .inl (Z.2 0, 4, .inl f20)), (b21, .inl (Z.2 0, 4, .inl f21)), (b22, .inl (Z.2 2, 96, .inr (.inl f22)))] U.heap ∧ va_K Z.1 vwCl (gT Z) U ∧ va_D (fun _ => True) [(h0, .inr (9, [.ref b1, .ref b2, .ref b3, .ref b4, .int (nI n), .ref b5, .int (nI pn), .ref b6, .ref b7, .ref b8, .int (nI tn), .int xp, .int xr, .ref b9, .ref b10, .ref b11, .ref b12, .ref b13, .ref b14, .ref b15, .ref b16, .ref b17, .ref b18, .int ik, .ref b19, .ref b20, .ref b21, .ref b22, .ref b23, .ref b24, .ref b25])), (b20, .inl (Z.2 0, 4, .inl f20)), (b21, .inl (Z.2 0, 4, .inl f21)), (b22, .inl (Z.2 2, 96, .inr (.inl f22)))])) (va_Qi (fun (r : Int32) (u : (Nat → Int32) × (Nat → Int32) × (Nat → Int64)) => match u with | (g20, g21, g22) => r = zSheetA a b d ∧ zSl (zSheetS sl a b d) g20 g21 ∧ zIm (zSheetS sl a b d) (imSheet im a b d) g22) (fun (u : (Nat → Int32) × (Nat → Int32) × (Nat → Int64)) (t9 : State) => match u with | (g20, g21, g22) => va_P Z.1 vwCl [(h0, .inr (9, [.ref b1, .ref b2, .ref b3, .ref b4, .int (nI n), .ref b5, .int (nI pn), .ref b6, .ref b7, .ref b8, .int (nI tn), .int xp, .int xr, .ref b9, .ref b10, .ref b11, .ref b12, .ref b13, .ref b14, .ref b15, .ref b16, .ref b17, .ref b18, .int ik, .ref b19, .ref b20, .ref b21, .ref b22, .ref b23, .ref b24, .ref b25])), (b20, .inl (Z.2 0, 4, .inl g20)), (b21, .inl (Z.2 0, 4, .inl g21)), (b22, .inl (Z.2 2, 96, .inr (.inl g22)))] t9.heap ∧ va_D (va_A [(h0, .inr (9, [.ref b1, .ref b2, .ref b3, .ref b4, .int (nI n), .ref b5, .int (nI pn), .ref b6, .ref b7, .ref b8, .int (nI tn), .int xp, .int xr, .ref b9, .ref b10, .ref b11, .ref b12, .ref b13, .ref b14, .ref b15, .ref b16, .ref b17, .ref b18, .int ik, .ref b19, .ref b20, .ref b21, .ref b22, .ref b23, .ref b24, .ref b25])), (b20, .inl (Z.2 0, 4, .inl f20)), (b21, .inl (Z.2 0, 4, .inl f21)), (b22, .inl (Z.2 2, 96, .inr (.inl f22)))] sz) [(h0, .inr (9, [.ref b1, .ref b2, .ref b3, .ref b4, .int (nI n), .ref b5, .int (nI pn), .ref b6, .ref b7, .ref b8, .int (nI tn), .int xp, .int xr, .ref b9, .ref b10, .ref b11, .ref b12, .ref b13, .ref b14, .ref b15, .ref b16, .ref b17, .ref b18, .int ik, .ref b19, .ref b20, .ref b21, .ref b22, .ref b23, .ref b24, .ref b25])), (b20, .inl (Z.2 0, 4, .inl g20)), (b21, .inl (Z.2 0, 4, .inl g21)), (b22, .inl (Z.2 2, 96, .inr (.inl g22)))]) (va_A [(h0, .inr (9, [.ref b1, .ref b2, .ref b3, .ref b4, .int (nI n), .ref b5, .int (nI pn), .ref b6, .ref b7, .ref b8, .int (nI tn), .int xp, .int xr, .ref b9, .ref b10, .ref b11, .ref b12, .ref b13, .ref b14, .ref b15, .ref b16, .ref b17, .ref b18, .int ik, .ref b19, .ref b20, .ref b21, .ref b22, .ref b23, .ref b24, .ref b25])), (b20, .inl (Z.2 0, 4, .inl f20)), (b21, .inl (Z.2 0, 4, .inl f21)), (b22, .inl (Z.2 2, 96, .inr (.inl f22)))] sz)) 0 0 (va_A [(h0, .inr (9, [.ref b1, .ref b2, .ref b3, .ref b4, .int (nI n), .ref b5, .int (nI pn), .ref b6, .ref b7, .ref b8, .int (nI tn), .int xp, .int xr, .ref b9, .ref b10, .ref b11, .ref b12, .ref b13, .ref b14, .ref b15, .ref b16, .ref b17, .ref b18, .int ik, .ref b19, .ref b20, .ref b21, .ref b22, .ref b23, .ref b24, .ref b25])), (b20, .inl (Z.2 0, 4, .inl f20)), (b21, .inl (Z.2 0, 4, .inl f21)), (b22, .inl (Z.2 2, 96, .inr (.inl f22)))] sz) := by
  refine Met.ofW (cc := cX9_sheet) (maxL := 5) (ret := (some .int)) (by decide) rfl ?_
  intro p e s m args below meth c s₁ B hml hv
  obtain ⟨rfl, hsz, hP, hK, hD0⟩ := hv
  have hx := B.exec
  have hb := B.bytes
  have hr := B.returns
  have hts := atoms_spec (ws := wsX9_sheet) B.pre
  have hown : s.vm.findClass RX9 = some m.cls := findClass_of_methodNamed B.named
  have hlocks := B.notSynchronized
  subst hsz
  have hin9 : ∀ w ∈ wsX90, w ∈ wsX9_sheet := fun w h9 => (List.mem_cons_of_mem _ (List.mem_append_right _ h9))
  have hD := hD0.self (sz := s.heap.size)
  generalize hAe : va_A [(h0, .inr (9, [.ref b1, .ref b2, .ref b3, .ref b4, .int (nI n), .ref b5, .int (nI pn), .ref b6, .ref b7, .ref b8, .int (nI tn), .int xp, .int xr, .ref b9, .ref b10, .ref b11, .ref b12, .ref b13, .ref b14, .ref b15, .ref b16, .ref b17, .ref b18, .int ik, .ref b19, .ref b20, .ref b21, .ref b22, .ref b23, .ref b24, .ref b25])), (b20, .inl (Z.2 0, 4, .inl f20)), (b21, .inl (Z.2 0, 4, .inl f21)), (b22, .inl (Z.2 2, 96, .inr (.inl f22)))] s.heap.size = A at hD ⊢
  have hA : ∀ q : Nat, s.heap.size ≤ q → A q := fun q h => by rw [← hAe]; exact Or.inr h
  have hS : va_S A s.heap s.heap [] := va_S.rf
  have hP : va_P Z.1 vwCl [(h0, .inr (9, [.ref b1, .ref b2, .ref b3, .ref b4, .int (nI n), .ref b5, .int (nI pn), .ref b6, .ref b7, .ref b8, .int (nI tn), .int xp, .int xr, .ref b9, .ref b10, .ref b11, .ref b12, .ref b13, .ref b14, .ref b15, .ref b16, .ref b17, .ref b18, .int ik, .ref b19, .ref b20, .ref b21, .ref b22, .ref b23, .ref b24, .ref b25])), (b20, .inl (Z.2 0, 4, .inl f20)), (b21, .inl (Z.2 0, 4, .inl f21)), (b22, .inl (Z.2 2, 96, .inr (.inl f22)))] s.heap := hP
  have hl := lv_entry ([.ref h0, .int a, .int b, .int d]) (n := 5) (Nat.le_of_ble_eq_true rfl)
  rw [lg_entry_eq]
  generalize (lg_sl ([.ref h0, .int a, .int b, .int d]) ++ List.replicate (5 - (lg_sl ([.ref h0, .int a, .int b, .int d])).length) Slot.unset).toArray = ls at hl ⊢
  have hl : lv_has ls 5 [(0, .ref h0), (1, .int a), (2, .int b), (3, .int d)] := hl
  refine lv_iload_n hx hb dX9_sheet_0 rfl (lv_at hl 1 rfl) ?_
  refine lv_iload_n hx hb dX9_sheet_1 rfl (lv_at hl 2 rfl) ?_
  have hPc := hP.sub (ws' := []) [] rfl
  have hDc := hD.sub (ws' := []) [] (by decide +kernel) rfl
  have hFc := va_free (wc := []) hD hS hA [] rfl
  refine va_calli (va_runS (As := [.int a, .int b]) (rest := []) ⟨hx, hb, hml, hown, hts⟩ (c_X9_isSheet l Z s.heap.size a b) (va_cwS 2 hts gX9_sheet_X9_isSheet rfl rfl rfl (by decide +kernel) ⟨Nat.le_of_ble_eq_true rfl, Nat.le_of_ble_eq_true rfl⟩) ⟨fun a U g mk q => by obtain ⟨q0, q1, qP, qK, qD⟩ := q; exact ⟨q0, q1, qP, va_K.moved (u := U) (U := U.calling g mk a) (Vm.Alike.refl U.vm) qK, qD⟩, fun U hU hW => ⟨rfl, by rw [hU], by rw [hU]; exact hPc, va_K.moved hW.alike hK, hDc.weaken (fun _ _ _ _ => trivial)⟩⟩ rfl rfl hl.1 rfl (lv_room (Nat.le_of_ble_eq_true rfl)) dX9_sheet_2 ⟨Nat.le_of_ble_eq_true rfl, Nat.le_of_ble_eq_true rfl⟩) hS (fun q _ h => hFc q h) hFc (fun r_1 u t9 H1 locs ht hvm hw hB hz1 hk1 hS => ?_)
  have hwr_1 := hw
  have hP1 : va_P Z.1 vwCl [] H1 := fun k q h => by simp at h
  have hD1 : va_D (va_A [] s.heap.size) [] := ⟨fun i j p q h => by simp at h, fun k q h => by simp at h⟩
  obtain ⟨hP, hD⟩ := va_join (wr := [(h0, .inr (9, [.ref b1, .ref b2, .ref b3, .ref b4, .int (nI n), .ref b5, .int (nI pn), .ref b6, .ref b7, .ref b8, .int (nI tn), .int xp, .int xr, .ref b9, .ref b10, .ref b11, .ref b12, .ref b13, .ref b14, .ref b15, .ref b16, .ref b17, .ref b18, .int ik, .ref b19, .ref b20, .ref b21, .ref b22, .ref b23, .ref b24, .ref b25])), (b20, .inl (Z.2 0, 4, .inl f20)), (b21, .inl (Z.2 0, 4, .inl f21)), (b22, .inl (Z.2 2, 96, .inr (.inl f22)))]) (w1 := []) hP hD [] [0, 1, 2, 3] rfl rfl (by decide +kernel) (by decide +kernel) hk1 hFc hP1 hD1
  clear hPc hDc hP1 hD1 hk1 hz1 hFc ht hvm
  generalize H1 = H at hP hS ⊢
  have hP : va_P Z.1 vwCl [(h0, .inr (9, [.ref b1, .ref b2, .ref b3, .ref b4, .int (nI n), .ref b5, .int (nI pn), .ref b6, .ref b7, .ref b8, .int (nI tn), .int xp, .int xr, .ref b9, .ref b10, .ref b11, .ref b12, .ref b13, .ref b14, .ref b15, .ref b16, .ref b17, .ref b18, .int ik, .ref b19, .ref b20, .ref b21, .ref b22, .ref b23, .ref b24, .ref b25])), (b20, .inl (Z.2 0, 4, .inl f20)), (b21, .inl (Z.2 0, 4, .inl f21)), (b22, .inl (Z.2 2, 96, .inr (.inl f22)))] H := hP
  have hD : va_D A [(h0, .inr (9, [.ref b1, .ref b2, .ref b3, .ref b4, .int (nI n), .ref b5, .int (nI pn), .ref b6, .ref b7, .ref b8, .int (nI tn), .int xp, .int xr, .ref b9, .ref b10, .ref b11, .ref b12, .ref b13, .ref b14, .ref b15, .ref b16, .ref b17, .ref b18, .int ik, .ref b19, .ref b20, .ref b21, .ref b22, .ref b23, .ref b24, .ref b25])), (b20, .inl (Z.2 0, 4, .inl f20)), (b21, .inl (Z.2 0, 4, .inl f21)), (b22, .inl (Z.2 2, 96, .inr (.inl f22)))] := hD
  rcases hwr_1 with ⟨rfl, ha, hb3⟩ | ⟨rfl, hab⟩
  · refine lv_if_eq (tgt := 14) hx hb dX9_sheet_5 (by decide) (fun c9 => absurd c9 (by decide)) (fun _ => ?_)
    refine lv_iload_n hx hb dX9_sheet_8 rfl (lv_at hl 3 rfl) ?_
    refine lv_bipush (v := 24) hx hb dX9_sheet_9 (by decide) ?_
    refine lv_icmp_le (tgt := 16) hx hb dX9_sheet_11 (by decide) (fun c_2 => ?_) (fun c_2 => ?_)
    · refine lv_iload_n hx hb dX9_sheet_16 rfl (lv_at hl 3 rfl) ?_
      refine lv_if_ge (tgt := 23) hx hb dX9_sheet_17 (by decide) (fun c_3 => ?_) (fun c_3 => ?_)
      · have hd1 : d ≤ 24 := c_2
        have hd0 : 0 ≤ d := c_3
        obtain ⟨t, ht, hat⟩ := vp_in_of ha (by decide)
        have ht8 := ht
        refine lv_aload_n hx hb dX9_sheet_23 rfl (lv_at hl 0 rfl) ?_
        refine va_get (D := Z.1) (ci := 9) (v := .ref b20) (C := RX9) (T := TX9) (N := 31) hx hb hts hin9 hown hK hP 0 rfl rfl 25 (by decide) (hts (.fieldLink RX9 68 "HalfAskedModel" "lanes" "[I") (List.mem_of_getElem? (i := 1) rfl)) (fun _ h9 => h9) rfl dX9_sheet_24 ?_
        refine lv_iload_n hx hb dX9_sheet_27 rfl (lv_at hl 1 rfl) ?_
        refine lv_iload_n hx hb dX9_sheet_28 rfl (lv_at hl 2 rfl) ?_
        refine va_iast hx hb hK hP hD hS 1 0 rfl rfl ha dX9_sheet_29 (fun H locs hP hD hS => ?_)
        have hP : va_P Z.1 vwCl [(h0, .inr (9, [.ref b1, .ref b2, .ref b3, .ref b4, .int (nI n), .ref b5, .int (nI pn), .ref b6, .ref b7, .ref b8, .int (nI tn), .int xp, .int xr, .ref b9, .ref b10, .ref b11, .ref b12, .ref b13, .ref b14, .ref b15, .ref b16, .ref b17, .ref b18, .int ik, .ref b19, .ref b20, .ref b21, .ref b22, .ref b23, .ref b24, .ref b25])), (b20, .inl (Z.2 0, 4, .inl (upd f20 (a.toNatClampNeg) b))), (b21, .inl (Z.2 0, 4, .inl f21)), (b22, .inl (Z.2 2, 96, .inr (.inl f22)))] H := hP
        have hD : va_D A [(h0, .inr (9, [.ref b1, .ref b2, .ref b3, .ref b4, .int (nI n), .ref b5, .int (nI pn), .ref b6, .ref b7, .ref b8, .int (nI tn), .int xp, .int xr, .ref b9, .ref b10, .ref b11, .ref b12, .ref b13, .ref b14, .ref b15, .ref b16, .ref b17, .ref b18, .int ik, .ref b19, .ref b20, .ref b21, .ref b22, .ref b23, .ref b24, .ref b25])), (b20, .inl (Z.2 0, 4, .inl (upd f20 (a.toNatClampNeg) b))), (b21, .inl (Z.2 0, 4, .inl f21)), (b22, .inl (Z.2 2, 96, .inr (.inl f22)))] := hD
        refine lv_aload_n hx hb dX9_sheet_30 rfl (lv_at hl 0 rfl) ?_
        refine va_get (D := Z.1) (ci := 9) (v := .ref b21) (C := RX9) (T := TX9) (N := 31) hx hb hts hin9 hown hK hP 0 rfl rfl 26 (by decide) (hts (.fieldLink RX9 71 "HalfAskedModel" "rowSizes" "[I") (List.mem_of_getElem? (i := 2) rfl)) (fun _ h9 => h9) rfl dX9_sheet_31 ?_
        refine lv_iload_n hx hb dX9_sheet_34 rfl (lv_at hl 1 rfl) ?_
        refine lv_iload_n hx hb dX9_sheet_35 rfl (lv_at hl 3 rfl) ?_
        refine va_iast hx hb hK hP hD hS 2 0 rfl rfl ha dX9_sheet_36 (fun H locs hP hD hS => ?_)
        have hP : va_P Z.1 vwCl [(h0, .inr (9, [.ref b1, .ref b2, .ref b3, .ref b4, .int (nI n), .ref b5, .int (nI pn), .ref b6, .ref b7, .ref b8, .int (nI tn), .int xp, .int xr, .ref b9, .ref b10, .ref b11, .ref b12, .ref b13, .ref b14, .ref b15, .ref b16, .ref b17, .ref b18, .int ik, .ref b19, .ref b20, .ref b21, .ref b22, .ref b23, .ref b24, .ref b25])), (b20, .inl (Z.2 0, 4, .inl (upd f20 (a.toNatClampNeg) b))), (b21, .inl (Z.2 0, 4, .inl (upd f21 (a.toNatClampNeg) d))), (b22, .inl (Z.2 2, 96, .inr (.inl f22)))] H := hP
        have hD : va_D A [(h0, .inr (9, [.ref b1, .ref b2, .ref b3, .ref b4, .int (nI n), .ref b5, .int (nI pn), .ref b6, .ref b7, .ref b8, .int (nI tn), .int xp, .int xr, .ref b9, .ref b10, .ref b11, .ref b12, .ref b13, .ref b14, .ref b15, .ref b16, .ref b17, .ref b18, .int ik, .ref b19, .ref b20, .ref b21, .ref b22, .ref b23, .ref b24, .ref b25])), (b20, .inl (Z.2 0, 4, .inl (upd f20 (a.toNatClampNeg) b))), (b21, .inl (Z.2 0, 4, .inl (upd f21 (a.toNatClampNeg) d))), (b22, .inl (Z.2 2, 96, .inr (.inl f22)))] := hD
        refine lv_iconst (v := 0) hx hb dX9_sheet_37 (by decide) ?_
        refine lv_istore (lv' := [(4, .int 0), (0, .ref h0), (1, .int a), (2, .int b), (3, .int d)]) hx hb dX9_sheet_38 hl (by decide) rfl (fun ls hl => ?_)
        refine lp_X9_sheet Z h0 b1 b2 b3 b4 b5 b6 b7 b8 b9 b10 b11 b12 b13 b14 b15 b16 b17 b18 b19 b20 b21 b22 b23 b24 b25 n pn tn xp xr ik (upd f20 (a.toNatClampNeg) b) (upd f21 (a.toNatClampNeg) d) a d t f22 ha ht hat hx hb hml hts hown hK hA (fun j f22' H locs ls hR hP hD hS hl => ?_) 25 0 f22 (by decide) (by decide) (rwN_0) H _ ls hP hD hS (lv_sub hl [1, 2, 4, 0] rfl)
        refine lv_iload_n hx hb dX9_sheet_66 rfl (lv_at hl 2 rfl) ?_
        have hP9 := hP.sub (ws' := [(h0, .inr (9, [.ref b1, .ref b2, .ref b3, .ref b4, .int (nI n), .ref b5, .int (nI pn), .ref b6, .ref b7, .ref b8, .int (nI tn), .int xp, .int xr, .ref b9, .ref b10, .ref b11, .ref b12, .ref b13, .ref b14, .ref b15, .ref b16, .ref b17, .ref b18, .int ik, .ref b19, .ref b20, .ref b21, .ref b22, .ref b23, .ref b24, .ref b25])), (b20, .inl (Z.2 0, 4, .inl (upd f20 (a.toNatClampNeg) b))), (b21, .inl (Z.2 0, 4, .inl (upd f21 (a.toNatClampNeg) d))), (b22, .inl (Z.2 2, 96, .inr (.inl f22')))]) [0, 1, 2, 3] rfl
        have hD9 := hD.sub (ws' := [(h0, .inr (9, [.ref b1, .ref b2, .ref b3, .ref b4, .int (nI n), .ref b5, .int (nI pn), .ref b6, .ref b7, .ref b8, .int (nI tn), .int xp, .int xr, .ref b9, .ref b10, .ref b11, .ref b12, .ref b13, .ref b14, .ref b15, .ref b16, .ref b17, .ref b18, .int ik, .ref b19, .ref b20, .ref b21, .ref b22, .ref b23, .ref b24, .ref b25])), (b20, .inl (Z.2 0, 4, .inl (upd f20 (a.toNatClampNeg) b))), (b21, .inl (Z.2 0, 4, .inl (upd f21 (a.toNatClampNeg) d))), (b22, .inl (Z.2 2, 96, .inr (.inl f22')))]) [0, 1, 2, 3] (by decide +kernel) rfl
        exact W.iret (v := d) hx hb hr (fun t9 ht hW => ⟨⟨d, (upd f20 (a.toNatClampNeg) b, upd f21 (a.toNatClampNeg) d, f22'), rfl, ⟨((zI_p ⟨⟨ha, hb3⟩, hd1⟩).trans (zI_n (Int32.not_lt.mpr hd0))).symm, zSl_sheet hs ha hb3 hd1 hd0, im_sheetY hI hs ht8 hat ⟨⟨⟨ha, hb3⟩, hd1⟩, hd0⟩ hR⟩, by rw [ht]; exact hP9, hD9⟩, hS.F ht⟩) hS.2.2 dX9_sheet_67
      · refine lv_bipush (v := (-14)) hx hb dX9_sheet_20 (by decide) ?_
        have hP9 := hP.sub (ws' := [(h0, .inr (9, [.ref b1, .ref b2, .ref b3, .ref b4, .int (nI n), .ref b5, .int (nI pn), .ref b6, .ref b7, .ref b8, .int (nI tn), .int xp, .int xr, .ref b9, .ref b10, .ref b11, .ref b12, .ref b13, .ref b14, .ref b15, .ref b16, .ref b17, .ref b18, .int ik, .ref b19, .ref b20, .ref b21, .ref b22, .ref b23, .ref b24, .ref b25])), (b20, .inl (Z.2 0, 4, .inl f20)), (b21, .inl (Z.2 0, 4, .inl f21)), (b22, .inl (Z.2 2, 96, .inr (.inl f22)))]) [0, 1, 2, 3] rfl
        have hD9 := hD.sub (ws' := [(h0, .inr (9, [.ref b1, .ref b2, .ref b3, .ref b4, .int (nI n), .ref b5, .int (nI pn), .ref b6, .ref b7, .ref b8, .int (nI tn), .int xp, .int xr, .ref b9, .ref b10, .ref b11, .ref b12, .ref b13, .ref b14, .ref b15, .ref b16, .ref b17, .ref b18, .int ik, .ref b19, .ref b20, .ref b21, .ref b22, .ref b23, .ref b24, .ref b25])), (b20, .inl (Z.2 0, 4, .inl f20)), (b21, .inl (Z.2 0, 4, .inl f21)), (b22, .inl (Z.2 2, 96, .inr (.inl f22)))]) [0, 1, 2, 3] (by decide +kernel) rfl
        exact W.iret (v := (-14)) hx hb hr (fun t9 ht hW => ⟨⟨(-14), (f20, f21, f22), rfl, ⟨((zI_p ⟨⟨ha, hb3⟩, c_2⟩).trans (zI_p (Int32.not_le.mp c_3))).symm, by unfold zSheetS; rw [zI_n (fun q => c_3 q.2)]; exact hs, im_sheetN hI (fun q => c_3 q.2)⟩, by rw [ht]; exact hP9, hD9⟩, hS.F ht⟩) hS.2.2 dX9_sheet_22
    · refine lv_iconst (v := (-1)) hx hb dX9_sheet_14 (by decide) ?_
      have hP9 := hP.sub (ws' := [(h0, .inr (9, [.ref b1, .ref b2, .ref b3, .ref b4, .int (nI n), .ref b5, .int (nI pn), .ref b6, .ref b7, .ref b8, .int (nI tn), .int xp, .int xr, .ref b9, .ref b10, .ref b11, .ref b12, .ref b13, .ref b14, .ref b15, .ref b16, .ref b17, .ref b18, .int ik, .ref b19, .ref b20, .ref b21, .ref b22, .ref b23, .ref b24, .ref b25])), (b20, .inl (Z.2 0, 4, .inl f20)), (b21, .inl (Z.2 0, 4, .inl f21)), (b22, .inl (Z.2 2, 96, .inr (.inl f22)))]) [0, 1, 2, 3] rfl
      have hD9 := hD.sub (ws' := [(h0, .inr (9, [.ref b1, .ref b2, .ref b3, .ref b4, .int (nI n), .ref b5, .int (nI pn), .ref b6, .ref b7, .ref b8, .int (nI tn), .int xp, .int xr, .ref b9, .ref b10, .ref b11, .ref b12, .ref b13, .ref b14, .ref b15, .ref b16, .ref b17, .ref b18, .int ik, .ref b19, .ref b20, .ref b21, .ref b22, .ref b23, .ref b24, .ref b25])), (b20, .inl (Z.2 0, 4, .inl f20)), (b21, .inl (Z.2 0, 4, .inl f21)), (b22, .inl (Z.2 2, 96, .inr (.inl f22)))]) [0, 1, 2, 3] (by decide +kernel) rfl
      exact W.iret (v := (-1)) hx hb hr (fun t9 ht hW => ⟨⟨(-1), (f20, f21, f22), rfl, ⟨(zI_n (fun q => c_2 q.2)).symm, by unfold zSheetS; rw [zI_n (fun q => (fun q => c_2 q.2) q.1)]; exact hs, im_sheetN hI (fun q => (fun q => c_2 q.2) q.1)⟩, by rw [ht]; exact hP9, hD9⟩, hS.F ht⟩) hS.2.2 dX9_sheet_15
  · refine lv_if_eq (tgt := 14) hx hb dX9_sheet_5 (by decide) (fun _ => ?_) (fun c9 => absurd c9 (by decide))
    refine lv_iconst (v := (-1)) hx hb dX9_sheet_14 (by decide) ?_
    have hP9 := hP.sub (ws' := [(h0, .inr (9, [.ref b1, .ref b2, .ref b3, .ref b4, .int (nI n), .ref b5, .int (nI pn), .ref b6, .ref b7, .ref b8, .int (nI tn), .int xp, .int xr, .ref b9, .ref b10, .ref b11, .ref b12, .ref b13, .ref b14, .ref b15, .ref b16, .ref b17, .ref b18, .int ik, .ref b19, .ref b20, .ref b21, .ref b22, .ref b23, .ref b24, .ref b25])), (b20, .inl (Z.2 0, 4, .inl f20)), (b21, .inl (Z.2 0, 4, .inl f21)), (b22, .inl (Z.2 2, 96, .inr (.inl f22)))]) [0, 1, 2, 3] rfl
    have hD9 := hD.sub (ws' := [(h0, .inr (9, [.ref b1, .ref b2, .ref b3, .ref b4, .int (nI n), .ref b5, .int (nI pn), .ref b6, .ref b7, .ref b8, .int (nI tn), .int xp, .int xr, .ref b9, .ref b10, .ref b11, .ref b12, .ref b13, .ref b14, .ref b15, .ref b16, .ref b17, .ref b18, .int ik, .ref b19, .ref b20, .ref b21, .ref b22, .ref b23, .ref b24, .ref b25])), (b20, .inl (Z.2 0, 4, .inl f20)), (b21, .inl (Z.2 0, 4, .inl f21)), (b22, .inl (Z.2 2, 96, .inr (.inl f22)))]) [0, 1, 2, 3] (by decide +kernel) rfl
    exact W.iret (v := (-1)) hx hb hr (fun t9 ht hW => ⟨⟨(-1), (f20, f21, f22), rfl, ⟨(zI_n (fun q => hab q.1)).symm, by unfold zSheetS; rw [zI_n (fun q => (fun q => hab q.1) q.1)]; exact hs, im_sheetN hI (fun q => (fun q => hab q.1) q.1)⟩, by rw [ht]; exact hP9, hD9⟩, hS.F ht⟩) hS.2.2 dX9_sheet_15
theorem zSl_drop {sl : zSL} {f g : Nat → Int32} {a : Int32} (h : zSl sl f g) (ha : vp_in a 4) : zSl (zDropS sl a) (upd f a.toNatClampNeg (-1)) g := by
  unfold zDropS
  rw [zI_p ha]
  intro t ht
  by_cases e : t = a.toNatClampNeg
  · rw [e, pk_us]; exact Or.inl ⟨zPut_at, rfl⟩
  · rw [pk_un e, zPut_ne e]; exact h t ht
theorem zSl_dropN {sl : zSL} {f g : Nat → Int32} {a : Int32} (h : zSl sl f g) (ha : vp_in a 4) (h2 : f a.toNatClampNeg < 0) : (-11) = zDropA sl a ∧ zSl (zDropS sl a) f g := by
  rcases h _ (z_cl ha) with ⟨e2, -⟩ | ⟨ln, len, e2, e3, h3, -⟩
  · refine ⟨by unfold zDropA; rw [zI_p ha, e2], ?_⟩
    unfold zDropS
    rw [zI_p ha]
    intro t ht
    by_cases e : t = a.toNatClampNeg
    · rw [e]; rcases h _ (z_cl ha) with q | ⟨x, y, q, -⟩
      · exact Or.inl ⟨zPut_at, q.2⟩
      · rw [e2] at q; cases q
    · rw [zPut_ne e]; exact h t ht
  · rw [e3, Int32.lt_iff_toInt_lt] at h2; have e0 : (0 : Int32).toInt = 0 := by decide
    rw [vp_in_iff] at h3; omega
theorem zSl_dropA {sl : zSL} {f g : Nat → Int32} {a : Int32} (h : zSl sl f g) (ha : vp_in a 4) (h2 : ¬ f a.toNatClampNeg < 0) : g a.toNatClampNeg = zDropA sl a := by
  rcases h _ (z_cl ha) with ⟨-, e3⟩ | ⟨ln, len, e2, -, -, e4, -⟩
  · rw [e3] at h2; exact absurd (by decide) h2
  · unfold zDropA; rw [zI_p ha, e2, e4]
theorem im_drop {sl : zSL} {im : zIM} {g : Nat → Int64} {a : Int32} (h : zIm sl im g) : zIm (zDropS sl a) im g := by
  unfold zDropS
  intro t ht ln len e j hj
  rcases Classical.em (vp_in a 4) with ha | ha
  · rw [zI_p ha] at e
    by_cases c : t = a.toNatClampNeg
    · rw [c, zPut_at] at e; cases e
    · rw [zPut_ne c] at e; exact h t ht ln len e j hj
  · rw [zI_n ha] at e; exact h t ht ln len e j hj
set_option maxHeartbeats 4000000 in
set_option maxRecDepth 100000 in
theorem c_X9_drop (l : Launch) (Z : gZ) (sz : Nat) (h0 : Nat) (b1 : Nat) (b2 : Nat) (b3 : Nat) (b4 : Nat) (b5 : Nat) (b6 : Nat) (b7 : Nat) (b8 : Nat) (b9 : Nat) (b10 : Nat) (b11 : Nat) (b12 : Nat) (b13 : Nat) (b14 : Nat) (b15 : Nat) (b16 : Nat) (b17 : Nat) (b18 : Nat) (b19 : Nat) (b20 : Nat) (b21 : Nat) (b22 : Nat) (b23 : Nat) (b24 : Nat) (b25 : Nat) (n : Nat) (pn : Nat) (tn : Nat) (xp : Int32) (xr : Int32) (ik : Int32) (f20 : Nat → Int32) (f21 : Nat → Int32) (a : Int32) (sl : zSL) (hs : zSl sl f20 f21) : Met l yX9_drop wsX9_drop ({ frames := 1, cells := 0, slots := 0, locals := 25 }) (va_Pc [.ref h0, .int a] (fun U => U.heap.size = sz ∧ va_P Z.1 vwCl [(h0, .inr (9, [.ref b1, .ref b2, .ref b3, .ref b4, .int (nI n), .ref b5, .int (nI pn), .ref b6, .ref b7, .ref b8, .int (nI tn), .int xp, .int xr, .ref b9, .ref b10, .ref b11, .ref b12, .ref b13, .ref b14, .ref b15, .ref b16, .ref b17, .ref b18, .int ik, .ref b19, .ref b20, .ref b21, .ref b22, .ref b23, .ref b24, .ref b25])), (b20, .inl (Z.2 0, 4, .inl f20)), (b21, .inl (Z.2 0, 4, .inl f21))] U.heap ∧ va_K Z.1 vwCl (gT Z) U ∧ va_D (fun _ => True) [(h0, .inr (9, [.ref b1, .ref b2, .ref b3, .ref b4, .int (nI n), .ref b5, .int (nI pn), .ref b6, .ref b7, .ref b8, .int (nI tn), .int xp, .int xr, .ref b9, .ref b10, .ref b11, .ref b12, .ref b13, .ref b14, .ref b15, .ref b16, .ref b17, .ref b18, .int ik, .ref b19, .ref b20, .ref b21, .ref b22, .ref b23, .ref b24, .ref b25])), (b20, .inl (Z.2 0, 4, .inl f20)), (b21, .inl (Z.2 0, 4, .inl f21))])) (va_Qi (fun (r : Int32) (u : (Nat → Int32)) => match u with | g20 => r = zDropA sl a ∧ zSl (zDropS sl a) g20 f21) (fun (u : (Nat → Int32)) (t9 : State) => match u with | g20 => va_P Z.1 vwCl [(h0, .inr (9, [.ref b1, .ref b2, .ref b3, .ref b4, .int (nI n), .ref b5, .int (nI pn), .ref b6, .ref b7, .ref b8, .int (nI tn), .int xp, .int xr, .ref b9, .ref b10, .ref b11, .ref b12, .ref b13, .ref b14, .ref b15, .ref b16, .ref b17, .ref b18, .int ik, .ref b19, .ref b20, .ref b21, .ref b22, .ref b23, .ref b24, .ref b25])), (b20, .inl (Z.2 0, 4, .inl g20)), (b21, .inl (Z.2 0, 4, .inl f21))] t9.heap ∧ va_D (va_A [(h0, .inr (9, [.ref b1, .ref b2, .ref b3, .ref b4, .int (nI n), .ref b5, .int (nI pn), .ref b6, .ref b7, .ref b8, .int (nI tn), .int xp, .int xr, .ref b9, .ref b10, .ref b11, .ref b12, .ref b13, .ref b14, .ref b15, .ref b16, .ref b17, .ref b18, .int ik, .ref b19, .ref b20, .ref b21, .ref b22, .ref b23, .ref b24, .ref b25])), (b20, .inl (Z.2 0, 4, .inl f20)), (b21, .inl (Z.2 0, 4, .inl f21))] sz) [(h0, .inr (9, [.ref b1, .ref b2, .ref b3, .ref b4, .int (nI n), .ref b5, .int (nI pn), .ref b6, .ref b7, .ref b8, .int (nI tn), .int xp, .int xr, .ref b9, .ref b10, .ref b11, .ref b12, .ref b13, .ref b14, .ref b15, .ref b16, .ref b17, .ref b18, .int ik, .ref b19, .ref b20, .ref b21, .ref b22, .ref b23, .ref b24, .ref b25])), (b20, .inl (Z.2 0, 4, .inl g20)), (b21, .inl (Z.2 0, 4, .inl f21))]) (va_A [(h0, .inr (9, [.ref b1, .ref b2, .ref b3, .ref b4, .int (nI n), .ref b5, .int (nI pn), .ref b6, .ref b7, .ref b8, .int (nI tn), .int xp, .int xr, .ref b9, .ref b10, .ref b11, .ref b12, .ref b13, .ref b14, .ref b15, .ref b16, .ref b17, .ref b18, .int ik, .ref b19, .ref b20, .ref b21, .ref b22, .ref b23, .ref b24, .ref b25])), (b20, .inl (Z.2 0, 4, .inl f20)), (b21, .inl (Z.2 0, 4, .inl f21))] sz)) 0 0 (va_A [(h0, .inr (9, [.ref b1, .ref b2, .ref b3, .ref b4, .int (nI n), .ref b5, .int (nI pn), .ref b6, .ref b7, .ref b8, .int (nI tn), .int xp, .int xr, .ref b9, .ref b10, .ref b11, .ref b12, .ref b13, .ref b14, .ref b15, .ref b16, .ref b17, .ref b18, .int ik, .ref b19, .ref b20, .ref b21, .ref b22, .ref b23, .ref b24, .ref b25])), (b20, .inl (Z.2 0, 4, .inl f20)), (b21, .inl (Z.2 0, 4, .inl f21))] sz) := by
  refine Met.ofW (cc := cX9_drop) (maxL := 2) (ret := (some .int)) (by decide) rfl ?_
  intro p e s m args below meth c s₁ B hml hv
  obtain ⟨rfl, hsz, hP, hK, hD0⟩ := hv
  have hx := B.exec
  have hb := B.bytes
  have hr := B.returns
  have hts := atoms_spec (ws := wsX9_drop) B.pre
  have hown : s.vm.findClass RX9 = some m.cls := findClass_of_methodNamed B.named
  have hlocks := B.notSynchronized
  subst hsz
  have hin9 : ∀ w ∈ wsX90, w ∈ wsX9_drop := fun w h9 => (List.mem_cons_of_mem _ (List.mem_append_right _ h9))
  have hD := hD0.self (sz := s.heap.size)
  generalize hAe : va_A [(h0, .inr (9, [.ref b1, .ref b2, .ref b3, .ref b4, .int (nI n), .ref b5, .int (nI pn), .ref b6, .ref b7, .ref b8, .int (nI tn), .int xp, .int xr, .ref b9, .ref b10, .ref b11, .ref b12, .ref b13, .ref b14, .ref b15, .ref b16, .ref b17, .ref b18, .int ik, .ref b19, .ref b20, .ref b21, .ref b22, .ref b23, .ref b24, .ref b25])), (b20, .inl (Z.2 0, 4, .inl f20)), (b21, .inl (Z.2 0, 4, .inl f21))] s.heap.size = A at hD ⊢
  have hA : ∀ q : Nat, s.heap.size ≤ q → A q := fun q h => by rw [← hAe]; exact Or.inr h
  have hS : va_S A s.heap s.heap [] := va_S.rf
  have hP : va_P Z.1 vwCl [(h0, .inr (9, [.ref b1, .ref b2, .ref b3, .ref b4, .int (nI n), .ref b5, .int (nI pn), .ref b6, .ref b7, .ref b8, .int (nI tn), .int xp, .int xr, .ref b9, .ref b10, .ref b11, .ref b12, .ref b13, .ref b14, .ref b15, .ref b16, .ref b17, .ref b18, .int ik, .ref b19, .ref b20, .ref b21, .ref b22, .ref b23, .ref b24, .ref b25])), (b20, .inl (Z.2 0, 4, .inl f20)), (b21, .inl (Z.2 0, 4, .inl f21))] s.heap := hP
  have hl := lv_entry ([.ref h0, .int a]) (n := 2) (Nat.le_of_ble_eq_true rfl)
  rw [lg_entry_eq]
  generalize (lg_sl ([.ref h0, .int a]) ++ List.replicate (2 - (lg_sl ([.ref h0, .int a])).length) Slot.unset).toArray = ls at hl ⊢
  have hl : lv_has ls 2 [(0, .ref h0), (1, .int a)] := hl
  refine lv_iload_n hx hb dX9_drop_0 rfl (lv_at hl 1 rfl) ?_
  refine lv_i2l hx hb dX9_drop_1 rfl ?_
  refine lv_lconst (v := 0) hx hb dX9_drop_2 (by decide) ?_
  refine lv_ldc2 (v := 3) hx hb hown (hts (.constantLong RX9 98 (3)) (List.mem_of_getElem? (i := 1) rfl)) dX9_drop_3 ?_
  have hPc := hP.sub (ws' := []) [] rfl
  have hDc := hD.sub (ws' := []) [] (by decide +kernel) rfl
  have hFc := va_free (wc := []) hD hS hA [] rfl
  refine va_calli (va_runS (As := [.long a.toInt64, .long 0, .long 3]) (rest := []) ⟨hx, hb, hml, hown, hts⟩ (c_X9_in l Z s.heap.size a.toInt64 0 3) (va_cwS 3 hts gX9_drop_X9_in rfl rfl rfl (by decide +kernel) ⟨Nat.le_of_ble_eq_true rfl, Nat.le_of_ble_eq_true rfl⟩) ⟨fun a U g mk q => by obtain ⟨q0, q1, qP, qK, qD⟩ := q; exact ⟨q0, q1, qP, va_K.moved (u := U) (U := U.calling g mk a) (Vm.Alike.refl U.vm) qK, qD⟩, fun U hU hW => ⟨rfl, by rw [hU], by rw [hU]; exact hPc, va_K.moved hW.alike hK, hDc.weaken (fun _ _ _ _ => trivial)⟩⟩ rfl rfl hl.1 rfl (lv_room (Nat.le_of_ble_eq_true rfl)) dX9_drop_6 ⟨Nat.le_of_ble_eq_true rfl, Nat.le_of_ble_eq_true rfl⟩) hS (fun q _ h => hFc q h) hFc (fun r_1 u t9 H1 locs ht hvm hw hB hz1 hk1 hS => ?_)
  have hw9 := hw.symm
  clear hw
  subst hw9
  have hP1 : va_P Z.1 vwCl [] H1 := fun k q h => by simp at h
  have hD1 : va_D (va_A [] s.heap.size) [] := ⟨fun i j p q h => by simp at h, fun k q h => by simp at h⟩
  obtain ⟨hP, hD⟩ := va_join (wr := [(h0, .inr (9, [.ref b1, .ref b2, .ref b3, .ref b4, .int (nI n), .ref b5, .int (nI pn), .ref b6, .ref b7, .ref b8, .int (nI tn), .int xp, .int xr, .ref b9, .ref b10, .ref b11, .ref b12, .ref b13, .ref b14, .ref b15, .ref b16, .ref b17, .ref b18, .int ik, .ref b19, .ref b20, .ref b21, .ref b22, .ref b23, .ref b24, .ref b25])), (b20, .inl (Z.2 0, 4, .inl f20)), (b21, .inl (Z.2 0, 4, .inl f21))]) (w1 := []) hP hD [] [0, 1, 2] rfl rfl (by decide +kernel) (by decide +kernel) hk1 hFc hP1 hD1
  clear hPc hDc hP1 hD1 hk1 hz1 hFc ht hvm
  generalize H1 = H at hP hS ⊢
  have hP : va_P Z.1 vwCl [(h0, .inr (9, [.ref b1, .ref b2, .ref b3, .ref b4, .int (nI n), .ref b5, .int (nI pn), .ref b6, .ref b7, .ref b8, .int (nI tn), .int xp, .int xr, .ref b9, .ref b10, .ref b11, .ref b12, .ref b13, .ref b14, .ref b15, .ref b16, .ref b17, .ref b18, .int ik, .ref b19, .ref b20, .ref b21, .ref b22, .ref b23, .ref b24, .ref b25])), (b20, .inl (Z.2 0, 4, .inl f20)), (b21, .inl (Z.2 0, 4, .inl f21))] H := hP
  have hD : va_D A [(h0, .inr (9, [.ref b1, .ref b2, .ref b3, .ref b4, .int (nI n), .ref b5, .int (nI pn), .ref b6, .ref b7, .ref b8, .int (nI tn), .int xp, .int xr, .ref b9, .ref b10, .ref b11, .ref b12, .ref b13, .ref b14, .ref b15, .ref b16, .ref b17, .ref b18, .int ik, .ref b19, .ref b20, .ref b21, .ref b22, .ref b23, .ref b24, .ref b25])), (b20, .inl (Z.2 0, 4, .inl f20)), (b21, .inl (Z.2 0, 4, .inl f21))] := hD
  refine lv_if_ne (tgt := 14) hx hb dX9_drop_9 (by decide) (fun c_2 => ?_) (fun c_2 => ?_)
  · refine lv_aload_n hx hb dX9_drop_14 rfl (lv_at hl 0 rfl) ?_
    refine va_get (D := Z.1) (ci := 9) (v := .ref b20) (C := RX9) (T := TX9) (N := 31) hx hb hts hin9 hown hK hP 0 rfl rfl 25 (by decide) (hts (.fieldLink RX9 68 "HalfAskedModel" "lanes" "[I") (List.mem_of_getElem? (i := 2) rfl)) (fun _ h9 => h9) rfl dX9_drop_15 ?_
    refine lv_iload_n hx hb dX9_drop_18 rfl (lv_at hl 1 rfl) ?_
    refine va_iald hx hb hK hP 1 0 rfl rfl (z_i31 c_2) dX9_drop_19 ?_
    refine lv_if_ge (tgt := 26) hx hb dX9_drop_20 (by decide) (fun c_3 => ?_) (fun c_3 => ?_)
    · refine lv_aload_n hx hb dX9_drop_26 rfl (lv_at hl 0 rfl) ?_
      refine va_get (D := Z.1) (ci := 9) (v := .ref b20) (C := RX9) (T := TX9) (N := 31) hx hb hts hin9 hown hK hP 0 rfl rfl 25 (by decide) (hts (.fieldLink RX9 68 "HalfAskedModel" "lanes" "[I") (List.mem_of_getElem? (i := 2) rfl)) (fun _ h9 => h9) rfl dX9_drop_27 ?_
      refine lv_iload_n hx hb dX9_drop_30 rfl (lv_at hl 1 rfl) ?_
      refine lv_iconst (v := (-1)) hx hb dX9_drop_31 (by decide) ?_
      refine va_iast hx hb hK hP hD hS 1 0 rfl rfl (z_i31 c_2) dX9_drop_32 (fun H locs hP hD hS => ?_)
      have hP : va_P Z.1 vwCl [(h0, .inr (9, [.ref b1, .ref b2, .ref b3, .ref b4, .int (nI n), .ref b5, .int (nI pn), .ref b6, .ref b7, .ref b8, .int (nI tn), .int xp, .int xr, .ref b9, .ref b10, .ref b11, .ref b12, .ref b13, .ref b14, .ref b15, .ref b16, .ref b17, .ref b18, .int ik, .ref b19, .ref b20, .ref b21, .ref b22, .ref b23, .ref b24, .ref b25])), (b20, .inl (Z.2 0, 4, .inl (upd f20 (a.toNatClampNeg) (-1)))), (b21, .inl (Z.2 0, 4, .inl f21))] H := hP
      have hD : va_D A [(h0, .inr (9, [.ref b1, .ref b2, .ref b3, .ref b4, .int (nI n), .ref b5, .int (nI pn), .ref b6, .ref b7, .ref b8, .int (nI tn), .int xp, .int xr, .ref b9, .ref b10, .ref b11, .ref b12, .ref b13, .ref b14, .ref b15, .ref b16, .ref b17, .ref b18, .int ik, .ref b19, .ref b20, .ref b21, .ref b22, .ref b23, .ref b24, .ref b25])), (b20, .inl (Z.2 0, 4, .inl (upd f20 (a.toNatClampNeg) (-1)))), (b21, .inl (Z.2 0, 4, .inl f21))] := hD
      refine lv_aload_n hx hb dX9_drop_33 rfl (lv_at hl 0 rfl) ?_
      refine va_get (D := Z.1) (ci := 9) (v := .ref b21) (C := RX9) (T := TX9) (N := 31) hx hb hts hin9 hown hK hP 0 rfl rfl 26 (by decide) (hts (.fieldLink RX9 71 "HalfAskedModel" "rowSizes" "[I") (List.mem_of_getElem? (i := 3) rfl)) (fun _ h9 => h9) rfl dX9_drop_34 ?_
      refine lv_iload_n hx hb dX9_drop_37 rfl (lv_at hl 1 rfl) ?_
      refine va_iald hx hb hK hP 2 0 rfl rfl (z_i31 c_2) dX9_drop_38 ?_
      have hP9 := hP.sub (ws' := [(h0, .inr (9, [.ref b1, .ref b2, .ref b3, .ref b4, .int (nI n), .ref b5, .int (nI pn), .ref b6, .ref b7, .ref b8, .int (nI tn), .int xp, .int xr, .ref b9, .ref b10, .ref b11, .ref b12, .ref b13, .ref b14, .ref b15, .ref b16, .ref b17, .ref b18, .int ik, .ref b19, .ref b20, .ref b21, .ref b22, .ref b23, .ref b24, .ref b25])), (b20, .inl (Z.2 0, 4, .inl (upd f20 (a.toNatClampNeg) (-1)))), (b21, .inl (Z.2 0, 4, .inl f21))]) [0, 1, 2] rfl
      have hD9 := hD.sub (ws' := [(h0, .inr (9, [.ref b1, .ref b2, .ref b3, .ref b4, .int (nI n), .ref b5, .int (nI pn), .ref b6, .ref b7, .ref b8, .int (nI tn), .int xp, .int xr, .ref b9, .ref b10, .ref b11, .ref b12, .ref b13, .ref b14, .ref b15, .ref b16, .ref b17, .ref b18, .int ik, .ref b19, .ref b20, .ref b21, .ref b22, .ref b23, .ref b24, .ref b25])), (b20, .inl (Z.2 0, 4, .inl (upd f20 (a.toNatClampNeg) (-1)))), (b21, .inl (Z.2 0, 4, .inl f21))]) [0, 1, 2] (by decide +kernel) rfl
      exact W.iret (v := (f21 a.toNatClampNeg)) hx hb hr (fun t9 ht hW => ⟨⟨f21 a.toNatClampNeg, upd f20 (a.toNatClampNeg) (-1), rfl, ⟨zSl_dropA hs (z_i31 c_2) (Int32.not_lt.mpr c_3), zSl_drop hs (z_i31 c_2)⟩, by rw [ht]; exact hP9, hD9⟩, hS.F ht⟩) hS.2.2 dX9_drop_39
    · refine lv_bipush (v := (-11)) hx hb dX9_drop_23 (by decide) ?_
      have hP9 := hP.sub (ws' := [(h0, .inr (9, [.ref b1, .ref b2, .ref b3, .ref b4, .int (nI n), .ref b5, .int (nI pn), .ref b6, .ref b7, .ref b8, .int (nI tn), .int xp, .int xr, .ref b9, .ref b10, .ref b11, .ref b12, .ref b13, .ref b14, .ref b15, .ref b16, .ref b17, .ref b18, .int ik, .ref b19, .ref b20, .ref b21, .ref b22, .ref b23, .ref b24, .ref b25])), (b20, .inl (Z.2 0, 4, .inl f20)), (b21, .inl (Z.2 0, 4, .inl f21))]) [0, 1, 2] rfl
      have hD9 := hD.sub (ws' := [(h0, .inr (9, [.ref b1, .ref b2, .ref b3, .ref b4, .int (nI n), .ref b5, .int (nI pn), .ref b6, .ref b7, .ref b8, .int (nI tn), .int xp, .int xr, .ref b9, .ref b10, .ref b11, .ref b12, .ref b13, .ref b14, .ref b15, .ref b16, .ref b17, .ref b18, .int ik, .ref b19, .ref b20, .ref b21, .ref b22, .ref b23, .ref b24, .ref b25])), (b20, .inl (Z.2 0, 4, .inl f20)), (b21, .inl (Z.2 0, 4, .inl f21))]) [0, 1, 2] (by decide +kernel) rfl
      exact W.iret (v := (-11)) hx hb hr (fun t9 ht hW => ⟨⟨(-11), f20, rfl, ⟨(zSl_dropN hs (z_i31 c_2) (Int32.not_le.mp c_3)).1, (zSl_dropN hs (z_i31 c_2) (Int32.not_le.mp c_3)).2⟩, by rw [ht]; exact hP9, hD9⟩, hS.F ht⟩) hS.2.2 dX9_drop_25
  · refine lv_iconst (v := (-1)) hx hb dX9_drop_12 (by decide) ?_
    have hP9 := hP.sub (ws' := [(h0, .inr (9, [.ref b1, .ref b2, .ref b3, .ref b4, .int (nI n), .ref b5, .int (nI pn), .ref b6, .ref b7, .ref b8, .int (nI tn), .int xp, .int xr, .ref b9, .ref b10, .ref b11, .ref b12, .ref b13, .ref b14, .ref b15, .ref b16, .ref b17, .ref b18, .int ik, .ref b19, .ref b20, .ref b21, .ref b22, .ref b23, .ref b24, .ref b25])), (b20, .inl (Z.2 0, 4, .inl f20)), (b21, .inl (Z.2 0, 4, .inl f21))]) [0, 1, 2] rfl
    have hD9 := hD.sub (ws' := [(h0, .inr (9, [.ref b1, .ref b2, .ref b3, .ref b4, .int (nI n), .ref b5, .int (nI pn), .ref b6, .ref b7, .ref b8, .int (nI tn), .int xp, .int xr, .ref b9, .ref b10, .ref b11, .ref b12, .ref b13, .ref b14, .ref b15, .ref b16, .ref b17, .ref b18, .int ik, .ref b19, .ref b20, .ref b21, .ref b22, .ref b23, .ref b24, .ref b25])), (b20, .inl (Z.2 0, 4, .inl f20)), (b21, .inl (Z.2 0, 4, .inl f21))]) [0, 1, 2] (by decide +kernel) rfl
    exact W.iret (v := (-1)) hx hb hr (fun t9 ht hW => ⟨⟨(-1), f20, rfl, ⟨(zI_n (z_i30 c_2)).symm, by unfold zDropS; rw [zI_n (z_i30 c_2)]; exact hs⟩, by rw [ht]; exact hP9, hD9⟩, hS.F ht⟩) hS.2.2 dX9_drop_13
set_option maxHeartbeats 4000000 in
set_option maxRecDepth 100000 in
theorem c_X9_item (l : Launch) (Z : gZ) (sz : Nat) (h0 : Nat) (b1 : Nat) (b2 : Nat) (b3 : Nat) (b4 : Nat) (b5 : Nat) (b6 : Nat) (b7 : Nat) (b8 : Nat) (b9 : Nat) (b10 : Nat) (b11 : Nat) (b12 : Nat) (b13 : Nat) (b14 : Nat) (b15 : Nat) (b16 : Nat) (b17 : Nat) (b18 : Nat) (b19 : Nat) (b20 : Nat) (b21 : Nat) (b22 : Nat) (b23 : Nat) (b24 : Nat) (b25 : Nat) (n : Nat) (pn : Nat) (tn : Nat) (xp : Int32) (xr : Int32) (ik : Int32) (f20 : Nat → Int32) (f21 : Nat → Int32) (f22 : Nat → Int64) (a : Int32) (b : Int32) (d : Int32) (v : Int64) (sl : zSL) (im : zIM) (hs : zSl sl f20 f21) (hI : zIm sl im f22) : Met l yX9_item wsX9_item ({ frames := 2, cells := 0, slots := 0, locals := 49 }) (va_Pc [.ref h0, .int a, .int b, .int d, .long v] (fun U => U.heap.size = sz ∧ va_P Z.1 vwCl [(h0, .inr (9, [.ref b1, .ref b2, .ref b3, .ref b4, .int (nI n), .ref b5, .int (nI pn), .ref b6, .ref b7, .ref b8, .int (nI tn), .int xp, .int xr, .ref b9, .ref b10, .ref b11, .ref b12, .ref b13, .ref b14, .ref b15, .ref b16, .ref b17, .ref b18, .int ik, .ref b19, .ref b20, .ref b21, .ref b22, .ref b23, .ref b24, .ref b25])), (b20, .inl (Z.2 0, 4, .inl f20)), (b21, .inl (Z.2 0, 4, .inl f21)), (b22, .inl (Z.2 2, 96, .inr (.inl f22)))] U.heap ∧ va_K Z.1 vwCl (gT Z) U ∧ va_D (fun _ => True) [(h0, .inr (9, [.ref b1, .ref b2, .ref b3, .ref b4, .int (nI n), .ref b5, .int (nI pn), .ref b6, .ref b7, .ref b8, .int (nI tn), .int xp, .int xr, .ref b9, .ref b10, .ref b11, .ref b12, .ref b13, .ref b14, .ref b15, .ref b16, .ref b17, .ref b18, .int ik, .ref b19, .ref b20, .ref b21, .ref b22, .ref b23, .ref b24, .ref b25])), (b20, .inl (Z.2 0, 4, .inl f20)), (b21, .inl (Z.2 0, 4, .inl f21)), (b22, .inl (Z.2 2, 96, .inr (.inl f22)))])) (va_Qi (fun (r : Int32) (u : (Nat → Int64)) => match u with | g22 => r = zItem sl a b d ∧ zIm sl (imItem sl im a b d v) g22) (fun (u : (Nat → Int64)) (t9 : State) => match u with | g22 => va_P Z.1 vwCl [(h0, .inr (9, [.ref b1, .ref b2, .ref b3, .ref b4, .int (nI n), .ref b5, .int (nI pn), .ref b6, .ref b7, .ref b8, .int (nI tn), .int xp, .int xr, .ref b9, .ref b10, .ref b11, .ref b12, .ref b13, .ref b14, .ref b15, .ref b16, .ref b17, .ref b18, .int ik, .ref b19, .ref b20, .ref b21, .ref b22, .ref b23, .ref b24, .ref b25])), (b20, .inl (Z.2 0, 4, .inl f20)), (b21, .inl (Z.2 0, 4, .inl f21)), (b22, .inl (Z.2 2, 96, .inr (.inl g22)))] t9.heap ∧ va_D (va_A [(h0, .inr (9, [.ref b1, .ref b2, .ref b3, .ref b4, .int (nI n), .ref b5, .int (nI pn), .ref b6, .ref b7, .ref b8, .int (nI tn), .int xp, .int xr, .ref b9, .ref b10, .ref b11, .ref b12, .ref b13, .ref b14, .ref b15, .ref b16, .ref b17, .ref b18, .int ik, .ref b19, .ref b20, .ref b21, .ref b22, .ref b23, .ref b24, .ref b25])), (b20, .inl (Z.2 0, 4, .inl f20)), (b21, .inl (Z.2 0, 4, .inl f21)), (b22, .inl (Z.2 2, 96, .inr (.inl f22)))] sz) [(h0, .inr (9, [.ref b1, .ref b2, .ref b3, .ref b4, .int (nI n), .ref b5, .int (nI pn), .ref b6, .ref b7, .ref b8, .int (nI tn), .int xp, .int xr, .ref b9, .ref b10, .ref b11, .ref b12, .ref b13, .ref b14, .ref b15, .ref b16, .ref b17, .ref b18, .int ik, .ref b19, .ref b20, .ref b21, .ref b22, .ref b23, .ref b24, .ref b25])), (b20, .inl (Z.2 0, 4, .inl f20)), (b21, .inl (Z.2 0, 4, .inl f21)), (b22, .inl (Z.2 2, 96, .inr (.inl g22)))]) (va_A [(h0, .inr (9, [.ref b1, .ref b2, .ref b3, .ref b4, .int (nI n), .ref b5, .int (nI pn), .ref b6, .ref b7, .ref b8, .int (nI tn), .int xp, .int xr, .ref b9, .ref b10, .ref b11, .ref b12, .ref b13, .ref b14, .ref b15, .ref b16, .ref b17, .ref b18, .int ik, .ref b19, .ref b20, .ref b21, .ref b22, .ref b23, .ref b24, .ref b25])), (b20, .inl (Z.2 0, 4, .inl f20)), (b21, .inl (Z.2 0, 4, .inl f21)), (b22, .inl (Z.2 2, 96, .inr (.inl f22)))] sz)) 0 0 (va_A [(h0, .inr (9, [.ref b1, .ref b2, .ref b3, .ref b4, .int (nI n), .ref b5, .int (nI pn), .ref b6, .ref b7, .ref b8, .int (nI tn), .int xp, .int xr, .ref b9, .ref b10, .ref b11, .ref b12, .ref b13, .ref b14, .ref b15, .ref b16, .ref b17, .ref b18, .int ik, .ref b19, .ref b20, .ref b21, .ref b22, .ref b23, .ref b24, .ref b25])), (b20, .inl (Z.2 0, 4, .inl f20)), (b21, .inl (Z.2 0, 4, .inl f21)), (b22, .inl (Z.2 2, 96, .inr (.inl f22)))] sz) := by
  refine Met.ofW (cc := cX9_item) (maxL := 7) (ret := (some .int)) (by decide) rfl ?_
  intro p e s m args below meth c s₁ B hml hv
  obtain ⟨rfl, hsz, hP, hK, hD0⟩ := hv
  have hx := B.exec
  have hb := B.bytes
  have hr := B.returns
  have hts := atoms_spec (ws := wsX9_item) B.pre
  have hown : s.vm.findClass RX9 = some m.cls := findClass_of_methodNamed B.named
  have hlocks := B.notSynchronized
  subst hsz
  have hin9 : ∀ w ∈ wsX90, w ∈ wsX9_item := fun w h9 => (List.mem_cons_of_mem _ (List.mem_append_right _ h9))
  have hD := hD0.self (sz := s.heap.size)
  generalize hAe : va_A [(h0, .inr (9, [.ref b1, .ref b2, .ref b3, .ref b4, .int (nI n), .ref b5, .int (nI pn), .ref b6, .ref b7, .ref b8, .int (nI tn), .int xp, .int xr, .ref b9, .ref b10, .ref b11, .ref b12, .ref b13, .ref b14, .ref b15, .ref b16, .ref b17, .ref b18, .int ik, .ref b19, .ref b20, .ref b21, .ref b22, .ref b23, .ref b24, .ref b25])), (b20, .inl (Z.2 0, 4, .inl f20)), (b21, .inl (Z.2 0, 4, .inl f21)), (b22, .inl (Z.2 2, 96, .inr (.inl f22)))] s.heap.size = A at hD ⊢
  have hA : ∀ q : Nat, s.heap.size ≤ q → A q := fun q h => by rw [← hAe]; exact Or.inr h
  have hS : va_S A s.heap s.heap [] := va_S.rf
  have hP : va_P Z.1 vwCl [(h0, .inr (9, [.ref b1, .ref b2, .ref b3, .ref b4, .int (nI n), .ref b5, .int (nI pn), .ref b6, .ref b7, .ref b8, .int (nI tn), .int xp, .int xr, .ref b9, .ref b10, .ref b11, .ref b12, .ref b13, .ref b14, .ref b15, .ref b16, .ref b17, .ref b18, .int ik, .ref b19, .ref b20, .ref b21, .ref b22, .ref b23, .ref b24, .ref b25])), (b20, .inl (Z.2 0, 4, .inl f20)), (b21, .inl (Z.2 0, 4, .inl f21)), (b22, .inl (Z.2 2, 96, .inr (.inl f22)))] s.heap := hP
  have hl := lv_entry ([.ref h0, .int a, .int b, .int d, .long v]) (n := 7) (Nat.le_of_ble_eq_true rfl)
  rw [lg_entry_eq]
  generalize (lg_sl ([.ref h0, .int a, .int b, .int d, .long v]) ++ List.replicate (7 - (lg_sl ([.ref h0, .int a, .int b, .int d, .long v])).length) Slot.unset).toArray = ls at hl ⊢
  have hl : lv_has ls 7 [(0, .ref h0), (1, .int a), (2, .int b), (3, .int d), (4, .long v)] := hl
  refine lv_iload_n hx hb dX9_item_0 rfl (lv_at hl 1 rfl) ?_
  refine lv_iload_n hx hb dX9_item_1 rfl (lv_at hl 2 rfl) ?_
  have hPc := hP.sub (ws' := []) [] rfl
  have hDc := hD.sub (ws' := []) [] (by decide +kernel) rfl
  have hFc := va_free (wc := []) hD hS hA [] rfl
  refine va_calli (va_runS (As := [.int a, .int b]) (rest := []) ⟨hx, hb, hml, hown, hts⟩ (c_X9_isSheet l Z s.heap.size a b) (va_cwS 2 hts gX9_item_X9_isSheet rfl rfl rfl (by decide +kernel) ⟨Nat.le_of_ble_eq_true rfl, Nat.le_of_ble_eq_true rfl⟩) ⟨fun a U g mk q => by obtain ⟨q0, q1, qP, qK, qD⟩ := q; exact ⟨q0, q1, qP, va_K.moved (u := U) (U := U.calling g mk a) (Vm.Alike.refl U.vm) qK, qD⟩, fun U hU hW => ⟨rfl, by rw [hU], by rw [hU]; exact hPc, va_K.moved hW.alike hK, hDc.weaken (fun _ _ _ _ => trivial)⟩⟩ rfl rfl hl.1 rfl (lv_room (Nat.le_of_ble_eq_true rfl)) dX9_item_2 ⟨Nat.le_of_ble_eq_true rfl, Nat.le_of_ble_eq_true rfl⟩) hS (fun q _ h => hFc q h) hFc (fun r_1 u t9 H1 locs ht hvm hw hB hz1 hk1 hS => ?_)
  have hwr_1 := hw
  have hP1 : va_P Z.1 vwCl [] H1 := fun k q h => by simp at h
  have hD1 : va_D (va_A [] s.heap.size) [] := ⟨fun i j p q h => by simp at h, fun k q h => by simp at h⟩
  obtain ⟨hP, hD⟩ := va_join (wr := [(h0, .inr (9, [.ref b1, .ref b2, .ref b3, .ref b4, .int (nI n), .ref b5, .int (nI pn), .ref b6, .ref b7, .ref b8, .int (nI tn), .int xp, .int xr, .ref b9, .ref b10, .ref b11, .ref b12, .ref b13, .ref b14, .ref b15, .ref b16, .ref b17, .ref b18, .int ik, .ref b19, .ref b20, .ref b21, .ref b22, .ref b23, .ref b24, .ref b25])), (b20, .inl (Z.2 0, 4, .inl f20)), (b21, .inl (Z.2 0, 4, .inl f21)), (b22, .inl (Z.2 2, 96, .inr (.inl f22)))]) (w1 := []) hP hD [] [0, 1, 2, 3] rfl rfl (by decide +kernel) (by decide +kernel) hk1 hFc hP1 hD1
  clear hPc hDc hP1 hD1 hk1 hz1 hFc ht hvm
  generalize H1 = H at hP hS ⊢
  have hP : va_P Z.1 vwCl [(h0, .inr (9, [.ref b1, .ref b2, .ref b3, .ref b4, .int (nI n), .ref b5, .int (nI pn), .ref b6, .ref b7, .ref b8, .int (nI tn), .int xp, .int xr, .ref b9, .ref b10, .ref b11, .ref b12, .ref b13, .ref b14, .ref b15, .ref b16, .ref b17, .ref b18, .int ik, .ref b19, .ref b20, .ref b21, .ref b22, .ref b23, .ref b24, .ref b25])), (b20, .inl (Z.2 0, 4, .inl f20)), (b21, .inl (Z.2 0, 4, .inl f21)), (b22, .inl (Z.2 2, 96, .inr (.inl f22)))] H := hP
  have hD : va_D A [(h0, .inr (9, [.ref b1, .ref b2, .ref b3, .ref b4, .int (nI n), .ref b5, .int (nI pn), .ref b6, .ref b7, .ref b8, .int (nI tn), .int xp, .int xr, .ref b9, .ref b10, .ref b11, .ref b12, .ref b13, .ref b14, .ref b15, .ref b16, .ref b17, .ref b18, .int ik, .ref b19, .ref b20, .ref b21, .ref b22, .ref b23, .ref b24, .ref b25])), (b20, .inl (Z.2 0, 4, .inl f20)), (b21, .inl (Z.2 0, 4, .inl f21)), (b22, .inl (Z.2 2, 96, .inr (.inl f22)))] := hD
  rcases hwr_1 with ⟨rfl, ha, hb3⟩ | ⟨rfl, hab⟩
  · refine lv_if_ne (tgt := 10) hx hb dX9_item_5 (by decide) (fun _ => ?_) (fun c9 => absurd c9 (by decide))
    refine lv_aload_n hx hb dX9_item_10 rfl (lv_at hl 0 rfl) ?_
    refine lv_iload_n hx hb dX9_item_11 rfl (lv_at hl 1 rfl) ?_
    refine lv_iload_n hx hb dX9_item_12 rfl (lv_at hl 2 rfl) ?_
    refine lv_iload_n hx hb dX9_item_13 rfl (lv_at hl 3 rfl) ?_
    refine lv_iconst (v := 1) hx hb dX9_item_14 (by decide) ?_
    have hPc := hP.sub (ws' := [(h0, .inr (9, [.ref b1, .ref b2, .ref b3, .ref b4, .int (nI n), .ref b5, .int (nI pn), .ref b6, .ref b7, .ref b8, .int (nI tn), .int xp, .int xr, .ref b9, .ref b10, .ref b11, .ref b12, .ref b13, .ref b14, .ref b15, .ref b16, .ref b17, .ref b18, .int ik, .ref b19, .ref b20, .ref b21, .ref b22, .ref b23, .ref b24, .ref b25])), (b20, .inl (Z.2 0, 4, .inl f20)), (b21, .inl (Z.2 0, 4, .inl f21))]) [0, 1, 2] rfl
    have hDc := hD.sub (ws' := [(h0, .inr (9, [.ref b1, .ref b2, .ref b3, .ref b4, .int (nI n), .ref b5, .int (nI pn), .ref b6, .ref b7, .ref b8, .int (nI tn), .int xp, .int xr, .ref b9, .ref b10, .ref b11, .ref b12, .ref b13, .ref b14, .ref b15, .ref b16, .ref b17, .ref b18, .int ik, .ref b19, .ref b20, .ref b21, .ref b22, .ref b23, .ref b24, .ref b25])), (b20, .inl (Z.2 0, 4, .inl f20)), (b21, .inl (Z.2 0, 4, .inl f21))]) [0, 1, 2] (by decide +kernel) rfl
    have hFc := va_free (wc := [(h0, .inr (9, [.ref b1, .ref b2, .ref b3, .ref b4, .int (nI n), .ref b5, .int (nI pn), .ref b6, .ref b7, .ref b8, .int (nI tn), .int xp, .int xr, .ref b9, .ref b10, .ref b11, .ref b12, .ref b13, .ref b14, .ref b15, .ref b16, .ref b17, .ref b18, .int ik, .ref b19, .ref b20, .ref b21, .ref b22, .ref b23, .ref b24, .ref b25])), (b20, .inl (Z.2 0, 4, .inl f20)), (b21, .inl (Z.2 0, 4, .inl f21))]) hD hS hA [0, 1, 2] rfl
    refine va_calli (va_runV (As := [.int a, .int b, .int d, .int 1]) (rest := []) ⟨hx, hb, hml, hown, hts⟩ (c_X9_lacksRow l Z H.size h0 b1 b2 b3 b4 b5 b6 b7 b8 b9 b10 b11 b12 b13 b14 b15 b16 b17 b18 b19 b20 b21 b22 b23 b24 b25 n pn tn xp xr ik f20 f21 a b d 1 sl (hs) (ha) (hb3) (by decide)) (cwV 4 hts gX9_item_X9_lacksRow rfl rfl rfl (by decide +kernel) ⟨Nat.le_of_ble_eq_true rfl, Nat.le_of_ble_eq_true rfl⟩) ⟨fun a U g mk q => by obtain ⟨q0, q1, qP, qK, qD⟩ := q; exact ⟨q0, q1, qP, va_K.moved (u := U) (U := U.calling g mk a) (Vm.Alike.refl U.vm) qK, qD⟩, va_recv hK hPc (ci := 9) (q0 := 0) rfl rfl, fun U hU hW => ⟨rfl, by rw [hU], by rw [hU]; exact hPc, va_K.moved hW.alike hK, hDc.weaken (fun _ _ _ _ => trivial)⟩⟩ rfl rfl hl.1 rfl (lv_room (Nat.le_of_ble_eq_true rfl)) dX9_item_15 ⟨Nat.le_of_ble_eq_true rfl, Nat.le_of_ble_eq_true rfl⟩) hS (fun q _ h => hFc q h) hFc (fun r_2 u t9 H1 locs ht hvm hw hB hz1 hk1 hS => ?_)
    have hw9 := hw.symm
    clear hw
    subst hw9
    obtain ⟨hP1, hD1⟩ := hB
    rw [ht] at hP1
    obtain ⟨hP, hD⟩ := va_join (wr := [(b22, .inl (Z.2 2, 96, .inr (.inl f22)))]) (w1 := [(h0, .inr (9, [.ref b1, .ref b2, .ref b3, .ref b4, .int (nI n), .ref b5, .int (nI pn), .ref b6, .ref b7, .ref b8, .int (nI tn), .int xp, .int xr, .ref b9, .ref b10, .ref b11, .ref b12, .ref b13, .ref b14, .ref b15, .ref b16, .ref b17, .ref b18, .int ik, .ref b19, .ref b20, .ref b21, .ref b22, .ref b23, .ref b24, .ref b25])), (b20, .inl (Z.2 0, 4, .inl f20)), (b21, .inl (Z.2 0, 4, .inl f21))]) hP hD [0, 1, 2] [3] rfl rfl (by decide +kernel) (by decide +kernel) hk1 hFc hP1 hD1
    clear hPc hDc hP1 hD1 hk1 hz1 hFc ht hvm
    generalize H1 = H at hP hS ⊢
    have hP : va_P Z.1 vwCl [(b22, .inl (Z.2 2, 96, .inr (.inl f22))), (h0, .inr (9, [.ref b1, .ref b2, .ref b3, .ref b4, .int (nI n), .ref b5, .int (nI pn), .ref b6, .ref b7, .ref b8, .int (nI tn), .int xp, .int xr, .ref b9, .ref b10, .ref b11, .ref b12, .ref b13, .ref b14, .ref b15, .ref b16, .ref b17, .ref b18, .int ik, .ref b19, .ref b20, .ref b21, .ref b22, .ref b23, .ref b24, .ref b25])), (b20, .inl (Z.2 0, 4, .inl f20)), (b21, .inl (Z.2 0, 4, .inl f21))] H := hP
    have hD : va_D A [(b22, .inl (Z.2 2, 96, .inr (.inl f22))), (h0, .inr (9, [.ref b1, .ref b2, .ref b3, .ref b4, .int (nI n), .ref b5, .int (nI pn), .ref b6, .ref b7, .ref b8, .int (nI tn), .int xp, .int xr, .ref b9, .ref b10, .ref b11, .ref b12, .ref b13, .ref b14, .ref b15, .ref b16, .ref b17, .ref b18, .int ik, .ref b19, .ref b20, .ref b21, .ref b22, .ref b23, .ref b24, .ref b25])), (b20, .inl (Z.2 0, 4, .inl f20)), (b21, .inl (Z.2 0, 4, .inl f21))] := hD
    refine lv_istore (lv' := [(6, .int (zLk (sl a.toNatClampNeg) b d 1)), (0, .ref h0), (1, .int a), (2, .int b), (3, .int d), (4, .long v)]) hx hb dX9_item_18 hl (by decide) rfl (fun ls hl => ?_)
    refine lv_iload hx hb dX9_item_20 (lv_at hl 0 rfl) ?_
    refine lv_if_ge (tgt := 28) hx hb dX9_item_22 (by decide) (fun c_3 => ?_) (fun c_3 => ?_)
    · have hlk := zLk_ok hs ha (Int32.not_lt.mpr c_3)
      obtain ⟨t, ht, rfl⟩ := vp_in_of ha (by decide)
      have ht8 := ht
      obtain ⟨u0, hu0, rfl⟩ := vp_in_of (x := d) (n := 25) (vp_in_iff.mpr (by omega)) (by decide)
      rw [nI_toInt (by omega)] at hlk
      refine lv_aload_n hx hb dX9_item_28 rfl (lv_at hl 1 rfl) ?_
      refine va_get (D := Z.1) (ci := 9) (v := .ref b22) (C := RX9) (T := TX9) (N := 31) hx hb hts hin9 hown hK hP 1 rfl rfl 27 (by decide) (hts (.fieldLink RX9 74 "HalfAskedModel" "items" "[J") (List.mem_of_getElem? (i := 1) rfl)) (fun _ h9 => h9) rfl dX9_item_29 ?_
      refine lv_bipush (v := 24) hx hb dX9_item_32 (by decide) ?_
      refine lv_iload_n hx hb dX9_item_34 rfl (lv_at hl 2 rfl) ?_
      refine lv_imul hx hb dX9_item_35 ?_
      refine lv_topi (fun f_4 ef_4 => ?_)
      obtain rfl : nI (24 * t) = f_4 := (ef_4.trans (pk_mul 24 t)).symm
      refine lv_iload_n hx hb dX9_item_36 rfl (lv_at hl 4 rfl) ?_
      refine lv_iadd hx hb dX9_item_37 ?_
      refine lv_topi (fun f_5 ef_5 => ?_)
      obtain rfl : nI ((24 * t) + u0) = f_5 := (ef_5.trans (nI_add (24 * t) u0)).symm
      refine lv_iload_n hx hb dX9_item_38 rfl (lv_at hl 3 rfl) ?_
      refine lv_lload hx hb dX9_item_39 (lv_at hl 5 rfl) ?_
      have hPc := hP.sub (ws' := []) [] rfl
      have hDc := hD.sub (ws' := []) [] (by decide +kernel) rfl
      have hFc := va_free (wc := []) hD hS hA [] rfl
      refine va_calll (va_runS (As := [.int b, .long v]) (rest := [.int (nI ((24 * t) + u0)), .ref b22]) ⟨hx, hb, hml, hown, hts⟩ (c_X9_asLane l Z H.size b v) (va_cwS 2 hts gX9_item_X9_asLane rfl rfl rfl (by decide +kernel) ⟨Nat.le_of_ble_eq_true rfl, Nat.le_of_ble_eq_true rfl⟩) ⟨fun a U g mk q => by obtain ⟨q0, q1, qP, qK, qD⟩ := q; exact ⟨q0, q1, qP, va_K.moved (u := U) (U := U.calling g mk a) (Vm.Alike.refl U.vm) qK, qD⟩, fun U hU hW => ⟨rfl, by rw [hU], by rw [hU]; exact hPc, va_K.moved hW.alike hK, hDc.weaken (fun _ _ _ _ => trivial)⟩⟩ rfl rfl hl.1 rfl (lv_room (Nat.le_of_ble_eq_true rfl)) dX9_item_41 ⟨Nat.le_of_ble_eq_true rfl, Nat.le_of_ble_eq_true rfl⟩) hS (fun q _ h => hFc q h) hFc (fun r_6 u t9 H1 locs ht hvm hw hB hz1 hk1 hS => ?_)
      have hw9 := hw.symm
      clear hw
      subst hw9
      have hP1 : va_P Z.1 vwCl [] H1 := fun k q h => by simp at h
      have hD1 : va_D (va_A [] H.size) [] := ⟨fun i j p q h => by simp at h, fun k q h => by simp at h⟩
      obtain ⟨hP, hD⟩ := va_join (wr := [(b22, .inl (Z.2 2, 96, .inr (.inl f22))), (h0, .inr (9, [.ref b1, .ref b2, .ref b3, .ref b4, .int (nI n), .ref b5, .int (nI pn), .ref b6, .ref b7, .ref b8, .int (nI tn), .int xp, .int xr, .ref b9, .ref b10, .ref b11, .ref b12, .ref b13, .ref b14, .ref b15, .ref b16, .ref b17, .ref b18, .int ik, .ref b19, .ref b20, .ref b21, .ref b22, .ref b23, .ref b24, .ref b25])), (b20, .inl (Z.2 0, 4, .inl f20)), (b21, .inl (Z.2 0, 4, .inl f21))]) (w1 := []) hP hD [] [0, 1, 2, 3] rfl rfl (by decide +kernel) (by decide +kernel) hk1 hFc hP1 hD1
      clear hPc hDc hP1 hD1 hk1 hz1 hFc ht hvm
      generalize H1 = H at hP hS ⊢
      have hP : va_P Z.1 vwCl [(b22, .inl (Z.2 2, 96, .inr (.inl f22))), (h0, .inr (9, [.ref b1, .ref b2, .ref b3, .ref b4, .int (nI n), .ref b5, .int (nI pn), .ref b6, .ref b7, .ref b8, .int (nI tn), .int xp, .int xr, .ref b9, .ref b10, .ref b11, .ref b12, .ref b13, .ref b14, .ref b15, .ref b16, .ref b17, .ref b18, .int ik, .ref b19, .ref b20, .ref b21, .ref b22, .ref b23, .ref b24, .ref b25])), (b20, .inl (Z.2 0, 4, .inl f20)), (b21, .inl (Z.2 0, 4, .inl f21))] H := hP
      have hD : va_D A [(b22, .inl (Z.2 2, 96, .inr (.inl f22))), (h0, .inr (9, [.ref b1, .ref b2, .ref b3, .ref b4, .int (nI n), .ref b5, .int (nI pn), .ref b6, .ref b7, .ref b8, .int (nI tn), .int xp, .int xr, .ref b9, .ref b10, .ref b11, .ref b12, .ref b13, .ref b14, .ref b15, .ref b16, .ref b17, .ref b18, .int ik, .ref b19, .ref b20, .ref b21, .ref b22, .ref b23, .ref b24, .ref b25])), (b20, .inl (Z.2 0, 4, .inl f20)), (b21, .inl (Z.2 0, 4, .inl f21))] := hD
      refine va_last hx hb hK hP hD hS 0 2 rfl rfl (vp_in_nI (by omega) (by decide)) dX9_item_44 (fun H locs hP hD hS => ?_)
      have hP : va_P Z.1 vwCl [(b22, .inl (Z.2 2, 96, .inr (.inl (vp_updL f22 ((nI ((24 * t) + u0)).toNatClampNeg) (q_X9_asLane_r b v))))), (h0, .inr (9, [.ref b1, .ref b2, .ref b3, .ref b4, .int (nI n), .ref b5, .int (nI pn), .ref b6, .ref b7, .ref b8, .int (nI tn), .int xp, .int xr, .ref b9, .ref b10, .ref b11, .ref b12, .ref b13, .ref b14, .ref b15, .ref b16, .ref b17, .ref b18, .int ik, .ref b19, .ref b20, .ref b21, .ref b22, .ref b23, .ref b24, .ref b25])), (b20, .inl (Z.2 0, 4, .inl f20)), (b21, .inl (Z.2 0, 4, .inl f21))] H := hP
      have hD : va_D A [(b22, .inl (Z.2 2, 96, .inr (.inl (vp_updL f22 ((nI ((24 * t) + u0)).toNatClampNeg) (q_X9_asLane_r b v))))), (h0, .inr (9, [.ref b1, .ref b2, .ref b3, .ref b4, .int (nI n), .ref b5, .int (nI pn), .ref b6, .ref b7, .ref b8, .int (nI tn), .int xp, .int xr, .ref b9, .ref b10, .ref b11, .ref b12, .ref b13, .ref b14, .ref b15, .ref b16, .ref b17, .ref b18, .int ik, .ref b19, .ref b20, .ref b21, .ref b22, .ref b23, .ref b24, .ref b25])), (b20, .inl (Z.2 0, 4, .inl f20)), (b21, .inl (Z.2 0, 4, .inl f21))] := hD
      refine lv_iconst (v := 1) hx hb dX9_item_45 (by decide) ?_
      have hP9 := hP.sub (ws' := [(h0, .inr (9, [.ref b1, .ref b2, .ref b3, .ref b4, .int (nI n), .ref b5, .int (nI pn), .ref b6, .ref b7, .ref b8, .int (nI tn), .int xp, .int xr, .ref b9, .ref b10, .ref b11, .ref b12, .ref b13, .ref b14, .ref b15, .ref b16, .ref b17, .ref b18, .int ik, .ref b19, .ref b20, .ref b21, .ref b22, .ref b23, .ref b24, .ref b25])), (b20, .inl (Z.2 0, 4, .inl f20)), (b21, .inl (Z.2 0, 4, .inl f21)), (b22, .inl (Z.2 2, 96, .inr (.inl (vp_updL f22 ((nI ((24 * t) + u0)).toNatClampNeg) (q_X9_asLane_r b v)))))]) [1, 2, 3, 0] rfl
      have hD9 := hD.sub (ws' := [(h0, .inr (9, [.ref b1, .ref b2, .ref b3, .ref b4, .int (nI n), .ref b5, .int (nI pn), .ref b6, .ref b7, .ref b8, .int (nI tn), .int xp, .int xr, .ref b9, .ref b10, .ref b11, .ref b12, .ref b13, .ref b14, .ref b15, .ref b16, .ref b17, .ref b18, .int ik, .ref b19, .ref b20, .ref b21, .ref b22, .ref b23, .ref b24, .ref b25])), (b20, .inl (Z.2 0, 4, .inl f20)), (b21, .inl (Z.2 0, 4, .inl f21)), (b22, .inl (Z.2 2, 96, .inr (.inl (vp_updL f22 ((nI ((24 * t) + u0)).toNatClampNeg) (q_X9_asLane_r b v)))))]) [1, 2, 3, 0] (by decide +kernel) rfl
      exact W.iret (v := 1) hx hb hr (fun t9 ht hW => ⟨⟨1, vp_updL f22 ((nI ((24 * t) + u0)).toNatClampNeg) (q_X9_asLane_r b v), rfl, ⟨((zI_p ⟨ha, hb3⟩).trans (zI_n (Int32.not_lt.mpr c_3))).symm, im_itemY hI hs ht8 (by omega) ((zI_p ⟨ha, hb3⟩).trans (zI_n (Int32.not_lt.mpr c_3))).symm⟩, by rw [ht]; exact hP9, hD9⟩, hS.F ht⟩) hS.2.2 dX9_item_46
    · refine lv_iload hx hb dX9_item_25 (lv_at hl 0 rfl) ?_
      have hP9 := hP.sub (ws' := [(h0, .inr (9, [.ref b1, .ref b2, .ref b3, .ref b4, .int (nI n), .ref b5, .int (nI pn), .ref b6, .ref b7, .ref b8, .int (nI tn), .int xp, .int xr, .ref b9, .ref b10, .ref b11, .ref b12, .ref b13, .ref b14, .ref b15, .ref b16, .ref b17, .ref b18, .int ik, .ref b19, .ref b20, .ref b21, .ref b22, .ref b23, .ref b24, .ref b25])), (b20, .inl (Z.2 0, 4, .inl f20)), (b21, .inl (Z.2 0, 4, .inl f21)), (b22, .inl (Z.2 2, 96, .inr (.inl f22)))]) [1, 2, 3, 0] rfl
      have hD9 := hD.sub (ws' := [(h0, .inr (9, [.ref b1, .ref b2, .ref b3, .ref b4, .int (nI n), .ref b5, .int (nI pn), .ref b6, .ref b7, .ref b8, .int (nI tn), .int xp, .int xr, .ref b9, .ref b10, .ref b11, .ref b12, .ref b13, .ref b14, .ref b15, .ref b16, .ref b17, .ref b18, .int ik, .ref b19, .ref b20, .ref b21, .ref b22, .ref b23, .ref b24, .ref b25])), (b20, .inl (Z.2 0, 4, .inl f20)), (b21, .inl (Z.2 0, 4, .inl f21)), (b22, .inl (Z.2 2, 96, .inr (.inl f22)))]) [1, 2, 3, 0] (by decide +kernel) rfl
      exact W.iret (v := (zLk (sl a.toNatClampNeg) b d 1)) hx hb hr (fun t9 ht hW => ⟨⟨zLk (sl a.toNatClampNeg) b d 1, f22, rfl, ⟨((zI_p ⟨ha, hb3⟩).trans (zI_p (Int32.not_le.mp c_3))).symm, im_itemN hI ((zI_p ⟨ha, hb3⟩).trans (zI_p (Int32.not_le.mp c_3))).symm (lk_n1 (Int32.not_le.mp c_3))⟩, by rw [ht]; exact hP9, hD9⟩, hS.F ht⟩) hS.2.2 dX9_item_27
  · refine lv_if_ne (tgt := 10) hx hb dX9_item_5 (by decide) (fun c9 => absurd c9 (by decide)) (fun _ => ?_)
    refine lv_iconst (v := (-1)) hx hb dX9_item_8 (by decide) ?_
    have hP9 := hP.sub (ws' := [(h0, .inr (9, [.ref b1, .ref b2, .ref b3, .ref b4, .int (nI n), .ref b5, .int (nI pn), .ref b6, .ref b7, .ref b8, .int (nI tn), .int xp, .int xr, .ref b9, .ref b10, .ref b11, .ref b12, .ref b13, .ref b14, .ref b15, .ref b16, .ref b17, .ref b18, .int ik, .ref b19, .ref b20, .ref b21, .ref b22, .ref b23, .ref b24, .ref b25])), (b20, .inl (Z.2 0, 4, .inl f20)), (b21, .inl (Z.2 0, 4, .inl f21)), (b22, .inl (Z.2 2, 96, .inr (.inl f22)))]) [0, 1, 2, 3] rfl
    have hD9 := hD.sub (ws' := [(h0, .inr (9, [.ref b1, .ref b2, .ref b3, .ref b4, .int (nI n), .ref b5, .int (nI pn), .ref b6, .ref b7, .ref b8, .int (nI tn), .int xp, .int xr, .ref b9, .ref b10, .ref b11, .ref b12, .ref b13, .ref b14, .ref b15, .ref b16, .ref b17, .ref b18, .int ik, .ref b19, .ref b20, .ref b21, .ref b22, .ref b23, .ref b24, .ref b25])), (b20, .inl (Z.2 0, 4, .inl f20)), (b21, .inl (Z.2 0, 4, .inl f21)), (b22, .inl (Z.2 2, 96, .inr (.inl f22)))]) [0, 1, 2, 3] (by decide +kernel) rfl
    exact W.iret (v := (-1)) hx hb hr (fun t9 ht hW => ⟨⟨(-1), f22, rfl, ⟨(zI_n hab).symm, im_itemN hI (zI_n hab).symm (by decide)⟩, by rw [ht]; exact hP9, hD9⟩, hS.F ht⟩) hS.2.2 dX9_item_9
set_option maxHeartbeats 4000000 in
set_option maxRecDepth 100000 in
theorem lp_X9_film {p : Program} {l : Launch} {e : Env} {s : State} {m : MethodId} {args : Array Value} {below : List Frame} {meth : Method} {c : Code} {Q : State → Prop} {A : Nat → Prop} (Z : gZ) (h0 : Nat) (b1 : Nat) (b2 : Nat) (b3 : Nat) (b4 : Nat) (b5 : Nat) (b6 : Nat) (b7 : Nat) (b8 : Nat) (b9 : Nat) (b10 : Nat) (b11 : Nat) (b12 : Nat) (b13 : Nat) (b14 : Nat) (b15 : Nat) (b16 : Nat) (b17 : Nat) (b18 : Nat) (b19 : Nat) (b20 : Nat) (b21 : Nat) (b22 : Nat) (b23 : Nat) (b24 : Nat) (b25 : Nat) (n : Nat) (pn : Nat) (tn : Nat) (xp : Int32) (xr : Int32) (ik : Int32) (f2 : Nat → Int32) (f20 : Nat → Int32) (f21 : Nat → Int32) (t : Nat) (u0 : Nat) (b : Int32) (pc : Nat → Nat) (s0 : Nat → Int64) (hn : n ≤ 5) (ht : t < 4) (hu : u0 + n ≤ 24) (hpc : ∀ p, p < n → f2 p = nI (pc p)) (hx : p.tables.exec = Jvm.exec) (hb : c.code = cX9_film) (hml : c.maxLocals = 6) (hts : ∀ w ∈ wsX9_film, w.before args s = true) (hown : s.vm.findClass RX9 = some m.cls) (hK : va_K Z.1 vwCl (gT Z) s) (hA : ∀ q : Nat, s.heap.size ≤ q → A q) (kx_75 : ∀ (j : Nat) (f22 : Nat → Int64) (H : Heap) (locs : List Loc) (ls : Array Slot), (rwN (fun p => asLn b (nI (pc p)).toInt64) (24 * t + u0) n s0 f22) → va_P Z.1 vwCl [(h0, .inr (9, [.ref b1, .ref b2, .ref b3, .ref b4, .int (nI n), .ref b5, .int (nI pn), .ref b6, .ref b7, .ref b8, .int (nI tn), .int xp, .int xr, .ref b9, .ref b10, .ref b11, .ref b12, .ref b13, .ref b14, .ref b15, .ref b16, .ref b17, .ref b18, .int ik, .ref b19, .ref b20, .ref b21, .ref b22, .ref b23, .ref b24, .ref b25])), (b2, .inl (Z.2 0, 5, .inl f2)), (b20, .inl (Z.2 0, 4, .inl f20)), (b21, .inl (Z.2 0, 4, .inl f21)), (b22, .inl (Z.2 2, 96, .inr (.inl f22)))] H → va_D A [(h0, .inr (9, [.ref b1, .ref b2, .ref b3, .ref b4, .int (nI n), .ref b5, .int (nI pn), .ref b6, .ref b7, .ref b8, .int (nI tn), .int xp, .int xr, .ref b9, .ref b10, .ref b11, .ref b12, .ref b13, .ref b14, .ref b15, .ref b16, .ref b17, .ref b18, .int ik, .ref b19, .ref b20, .ref b21, .ref b22, .ref b23, .ref b24, .ref b25])), (b2, .inl (Z.2 0, 5, .inl f2)), (b20, .inl (Z.2 0, 4, .inl f20)), (b21, .inl (Z.2 0, 4, .inl f21)), (b22, .inl (Z.2 2, 96, .inr (.inl f22)))] → va_S A s.heap H locs → lv_has ls 6 [(0, .ref h0), (1, .int (nI t)), (2, .int b), (3, .int (nI u0)), (5, .int (nI j))] → W p l e ({ frames := 3, cells := 0, slots := 0, locals := 150 } : Room) s m args below meth c H locs 0 0 Q (F0 m 75 ls [])) : ∀ (fu9 : Nat) (j : Nat) (f22 : Nat → Int64), n - j < fu9 → (j ≤ n) → (rwN (fun p => asLn b (nI (pc p)).toInt64) (24 * t + u0) j s0 f22) → ∀ (H : Heap) (locs : List Loc) (ls : Array Slot), va_P Z.1 vwCl [(h0, .inr (9, [.ref b1, .ref b2, .ref b3, .ref b4, .int (nI n), .ref b5, .int (nI pn), .ref b6, .ref b7, .ref b8, .int (nI tn), .int xp, .int xr, .ref b9, .ref b10, .ref b11, .ref b12, .ref b13, .ref b14, .ref b15, .ref b16, .ref b17, .ref b18, .int ik, .ref b19, .ref b20, .ref b21, .ref b22, .ref b23, .ref b24, .ref b25])), (b2, .inl (Z.2 0, 5, .inl f2)), (b20, .inl (Z.2 0, 4, .inl f20)), (b21, .inl (Z.2 0, 4, .inl f21)), (b22, .inl (Z.2 2, 96, .inr (.inl f22)))] H → va_D A [(h0, .inr (9, [.ref b1, .ref b2, .ref b3, .ref b4, .int (nI n), .ref b5, .int (nI pn), .ref b6, .ref b7, .ref b8, .int (nI tn), .int xp, .int xr, .ref b9, .ref b10, .ref b11, .ref b12, .ref b13, .ref b14, .ref b15, .ref b16, .ref b17, .ref b18, .int ik, .ref b19, .ref b20, .ref b21, .ref b22, .ref b23, .ref b24, .ref b25])), (b2, .inl (Z.2 0, 5, .inl f2)), (b20, .inl (Z.2 0, 4, .inl f20)), (b21, .inl (Z.2 0, 4, .inl f21)), (b22, .inl (Z.2 2, 96, .inr (.inl f22)))] → va_S A s.heap H locs → lv_has ls 6 [(0, .ref h0), (1, .int (nI t)), (2, .int b), (3, .int (nI u0)), (5, .int (nI j))] → W p l e ({ frames := 3, cells := 0, slots := 0, locals := 150 } : Room) s m args below meth c H locs 0 0 Q (F0 m 34 ls []) := by
  have hin9 : ∀ w ∈ wsX90, w ∈ wsX9_film := fun w h9 => (List.mem_cons_of_mem _ (List.mem_append_right _ h9))
  intro fu9
  induction fu9 with
  | zero => intro j f22 hf9; exact absurd hf9 (Nat.not_lt_zero _)
  | succ fu9 ih =>
    intro j f22 hf9 hj hI H locs ls hP hD hS hl
    refine lv_iload hx hb dX9_film_34 (lv_at hl 4 rfl) ?_
    refine lv_aload_n hx hb dX9_film_36 rfl (lv_at hl 0 rfl) ?_
    refine va_get (D := Z.1) (ci := 9) (v := .int (nI n)) (C := RX9) (T := TX9) (N := 31) hx hb hts hin9 hown hK hP 0 rfl rfl 4 (by decide) (hts (.fieldLink RX9 86 "HalfAskedModel" "many" "I") (List.mem_of_getElem? (i := 1) rfl)) (fun _ h9 => h9) rfl dX9_film_37 ?_
    refine lv_icmp_ge (tgt := 75) hx hb dX9_film_40 (by decide) (fun c_1 => ?_) (fun c_1 => ?_)
    · exact kx_75 j f22 H locs ls (by have e9 : j = n := Nat.le_antisymm hj ((nI_leI (by omega) (by omega)).mp c_1); rw [e9] at hI; exact hI) hP hD hS (lv_sub hl [0, 1, 2, 3, 4] rfl)
    · have hlt : j < n := z_clt (by omega) hj c_1
      refine lv_aload_n hx hb dX9_film_43 rfl (lv_at hl 0 rfl) ?_
      refine va_get (D := Z.1) (ci := 9) (v := .ref b22) (C := RX9) (T := TX9) (N := 31) hx hb hts hin9 hown hK hP 0 rfl rfl 27 (by decide) (hts (.fieldLink RX9 74 "HalfAskedModel" "items" "[J") (List.mem_of_getElem? (i := 2) rfl)) (fun _ h9 => h9) rfl dX9_film_44 ?_
      refine lv_bipush (v := 24) hx hb dX9_film_47 (by decide) ?_
      refine lv_iload_n hx hb dX9_film_49 rfl (lv_at hl 1 rfl) ?_
      refine lv_imul hx hb dX9_film_50 ?_
      refine lv_topi (fun f_2 ef_2 => ?_)
      obtain rfl : nI (24 * t) = f_2 := (ef_2.trans (pk_mul 24 t)).symm
      refine lv_iload_n hx hb dX9_film_51 rfl (lv_at hl 3 rfl) ?_
      refine lv_iadd hx hb dX9_film_52 ?_
      refine lv_topi (fun f_3 ef_3 => ?_)
      obtain rfl : nI ((24 * t) + u0) = f_3 := (ef_3.trans (nI_add (24 * t) u0)).symm
      refine lv_iload hx hb dX9_film_53 (lv_at hl 4 rfl) ?_
      refine lv_iadd hx hb dX9_film_55 ?_
      refine lv_topi (fun f_4 ef_4 => ?_)
      obtain rfl : nI (((24 * t) + u0) + j) = f_4 := (ef_4.trans (nI_add ((24 * t) + u0) j)).symm
      refine lv_iload_n hx hb dX9_film_56 rfl (lv_at hl 2 rfl) ?_
      refine lv_aload_n hx hb dX9_film_57 rfl (lv_at hl 0 rfl) ?_
      refine va_get (D := Z.1) (ci := 9) (v := .ref b2) (C := RX9) (T := TX9) (N := 31) hx hb hts hin9 hown hK hP 0 rfl rfl 1 (by decide) (hts (.fieldLink RX9 13 "HalfAskedModel" "pence" "[I") (List.mem_of_getElem? (i := 3) rfl)) (fun _ h9 => h9) rfl dX9_film_58 ?_
      refine lv_iload hx hb dX9_film_61 (lv_at hl 4 rfl) ?_
      refine va_iald hx hb hK hP 1 0 rfl rfl (vp_in_nI (by omega) (by decide)) dX9_film_63 ?_
      refine lv_topi (fun f_5 ef_5 => ?_)
      obtain rfl : nI (pc j) = f_5 := (ef_5.trans (by rw [nI_clamp (by omega)]; exact hpc j hlt)).symm
      refine lv_i2l hx hb dX9_film_64 rfl ?_
      have hPc := hP.sub (ws' := []) [] rfl
      have hDc := hD.sub (ws' := []) [] (by decide +kernel) rfl
      have hFc := va_free (wc := []) hD hS hA [] rfl
      refine va_calll (va_runS (As := [.int b, .long ((nI (pc j)).toInt64)]) (rest := [.int (nI (((24 * t) + u0) + j)), .ref b22]) ⟨hx, hb, hml, hown, hts⟩ (c_X9_asLane l Z H.size b ((nI (pc j)).toInt64)) (va_cwS 2 hts gX9_film_X9_asLane rfl rfl rfl (by decide +kernel) ⟨Nat.le_of_ble_eq_true rfl, Nat.le_of_ble_eq_true rfl⟩) ⟨fun a U g mk q => by obtain ⟨q0, q1, qP, qK, qD⟩ := q; exact ⟨q0, q1, qP, va_K.moved (u := U) (U := U.calling g mk a) (Vm.Alike.refl U.vm) qK, qD⟩, fun U hU hW => ⟨rfl, by rw [hU], by rw [hU]; exact hPc, va_K.moved hW.alike hK, hDc.weaken (fun _ _ _ _ => trivial)⟩⟩ rfl rfl hl.1 rfl (lv_room (Nat.le_of_ble_eq_true rfl)) dX9_film_65 ⟨Nat.le_of_ble_eq_true rfl, Nat.le_of_ble_eq_true rfl⟩) hS (fun q _ h => hFc q h) hFc (fun r_6 u t9 H1 locs ht hvm hw hB hz1 hk1 hS => ?_)
      have hw9 := hw.symm
      clear hw
      subst hw9
      have hP1 : va_P Z.1 vwCl [] H1 := fun k q h => by simp at h
      have hD1 : va_D (va_A [] H.size) [] := ⟨fun i j p q h => by simp at h, fun k q h => by simp at h⟩
      obtain ⟨hP, hD⟩ := va_join (wr := [(h0, .inr (9, [.ref b1, .ref b2, .ref b3, .ref b4, .int (nI n), .ref b5, .int (nI pn), .ref b6, .ref b7, .ref b8, .int (nI tn), .int xp, .int xr, .ref b9, .ref b10, .ref b11, .ref b12, .ref b13, .ref b14, .ref b15, .ref b16, .ref b17, .ref b18, .int ik, .ref b19, .ref b20, .ref b21, .ref b22, .ref b23, .ref b24, .ref b25])), (b2, .inl (Z.2 0, 5, .inl f2)), (b20, .inl (Z.2 0, 4, .inl f20)), (b21, .inl (Z.2 0, 4, .inl f21)), (b22, .inl (Z.2 2, 96, .inr (.inl f22)))]) (w1 := []) hP hD [] [0, 1, 2, 3, 4] rfl rfl (by decide +kernel) (by decide +kernel) hk1 hFc hP1 hD1
      clear hPc hDc hP1 hD1 hk1 hz1 hFc ht hvm
      generalize H1 = H at hP hS ⊢
      have hP : va_P Z.1 vwCl [(h0, .inr (9, [.ref b1, .ref b2, .ref b3, .ref b4, .int (nI n), .ref b5, .int (nI pn), .ref b6, .ref b7, .ref b8, .int (nI tn), .int xp, .int xr, .ref b9, .ref b10, .ref b11, .ref b12, .ref b13, .ref b14, .ref b15, .ref b16, .ref b17, .ref b18, .int ik, .ref b19, .ref b20, .ref b21, .ref b22, .ref b23, .ref b24, .ref b25])), (b2, .inl (Z.2 0, 5, .inl f2)), (b20, .inl (Z.2 0, 4, .inl f20)), (b21, .inl (Z.2 0, 4, .inl f21)), (b22, .inl (Z.2 2, 96, .inr (.inl f22)))] H := hP
      have hD : va_D A [(h0, .inr (9, [.ref b1, .ref b2, .ref b3, .ref b4, .int (nI n), .ref b5, .int (nI pn), .ref b6, .ref b7, .ref b8, .int (nI tn), .int xp, .int xr, .ref b9, .ref b10, .ref b11, .ref b12, .ref b13, .ref b14, .ref b15, .ref b16, .ref b17, .ref b18, .int ik, .ref b19, .ref b20, .ref b21, .ref b22, .ref b23, .ref b24, .ref b25])), (b2, .inl (Z.2 0, 5, .inl f2)), (b20, .inl (Z.2 0, 4, .inl f20)), (b21, .inl (Z.2 0, 4, .inl f21)), (b22, .inl (Z.2 2, 96, .inr (.inl f22)))] := hD
      refine va_last hx hb hK hP hD hS 4 2 rfl rfl (vp_in_nI (by omega) (by decide)) dX9_film_68 (fun H locs hP hD hS => ?_)
      have hP : va_P Z.1 vwCl [(h0, .inr (9, [.ref b1, .ref b2, .ref b3, .ref b4, .int (nI n), .ref b5, .int (nI pn), .ref b6, .ref b7, .ref b8, .int (nI tn), .int xp, .int xr, .ref b9, .ref b10, .ref b11, .ref b12, .ref b13, .ref b14, .ref b15, .ref b16, .ref b17, .ref b18, .int ik, .ref b19, .ref b20, .ref b21, .ref b22, .ref b23, .ref b24, .ref b25])), (b2, .inl (Z.2 0, 5, .inl f2)), (b20, .inl (Z.2 0, 4, .inl f20)), (b21, .inl (Z.2 0, 4, .inl f21)), (b22, .inl (Z.2 2, 96, .inr (.inl (vp_updL f22 ((nI (((24 * t) + u0) + j)).toNatClampNeg) (q_X9_asLane_r b ((nI (pc j)).toInt64))))))] H := hP
      have hD : va_D A [(h0, .inr (9, [.ref b1, .ref b2, .ref b3, .ref b4, .int (nI n), .ref b5, .int (nI pn), .ref b6, .ref b7, .ref b8, .int (nI tn), .int xp, .int xr, .ref b9, .ref b10, .ref b11, .ref b12, .ref b13, .ref b14, .ref b15, .ref b16, .ref b17, .ref b18, .int ik, .ref b19, .ref b20, .ref b21, .ref b22, .ref b23, .ref b24, .ref b25])), (b2, .inl (Z.2 0, 5, .inl f2)), (b20, .inl (Z.2 0, 4, .inl f20)), (b21, .inl (Z.2 0, 4, .inl f21)), (b22, .inl (Z.2 2, 96, .inr (.inl (vp_updL f22 ((nI (((24 * t) + u0) + j)).toNatClampNeg) (q_X9_asLane_r b ((nI (pc j)).toInt64))))))] := hD
      refine lv_iinc (v := nI (j + 1)) (lv' := [(5, .int (nI (j + 1))), (0, .ref h0), (1, .int (nI t)), (2, .int b), (3, .int (nI u0))]) hx hb dX9_film_69 hl (k := 4) rfl (nI_1 _) (by decide) rfl (fun ls hl => ?_)
      refine lv_goto (tgt := 34) hx hb dX9_film_72 (by decide) ?_
      exact ih (j + 1) (vp_updL f22 ((nI (((24 * t) + u0) + j)).toNatClampNeg) (q_X9_asLane_r b ((nI (pc j)).toInt64))) (by omega) (hlt) (rwN_s hI (by rw [nI_clamp (by omega)]) (as_m _ _)) H locs ls hP hD hS (lv_sub hl [1, 2, 3, 4, 0] rfl)
set_option maxHeartbeats 4000000 in
set_option maxRecDepth 100000 in
theorem c_X9_film (l : Launch) (Z : gZ) (sz : Nat) (h0 : Nat) (b1 : Nat) (b2 : Nat) (b3 : Nat) (b4 : Nat) (b5 : Nat) (b6 : Nat) (b7 : Nat) (b8 : Nat) (b9 : Nat) (b10 : Nat) (b11 : Nat) (b12 : Nat) (b13 : Nat) (b14 : Nat) (b15 : Nat) (b16 : Nat) (b17 : Nat) (b18 : Nat) (b19 : Nat) (b20 : Nat) (b21 : Nat) (b22 : Nat) (b23 : Nat) (b24 : Nat) (b25 : Nat) (n : Nat) (pn : Nat) (tn : Nat) (xp : Int32) (xr : Int32) (ik : Int32) (f2 : Nat → Int32) (f20 : Nat → Int32) (f21 : Nat → Int32) (f22 : Nat → Int64) (a : Int32) (b : Int32) (d : Int32) (sl : zSL) (im : zIM) (pc : Nat → Nat) (hn : n ≤ 5) (hs : zSl sl f20 f21) (hI : zIm sl im f22) (hpc : ∀ p, p < n → f2 p = nI (pc p)) : Met l yX9_film wsX9_film ({ frames := 3, cells := 0, slots := 0, locals := 150 }) (va_Pc [.ref h0, .int a, .int b, .int d] (fun U => U.heap.size = sz ∧ va_P Z.1 vwCl [(h0, .inr (9, [.ref b1, .ref b2, .ref b3, .ref b4, .int (nI n), .ref b5, .int (nI pn), .ref b6, .ref b7, .ref b8, .int (nI tn), .int xp, .int xr, .ref b9, .ref b10, .ref b11, .ref b12, .ref b13, .ref b14, .ref b15, .ref b16, .ref b17, .ref b18, .int ik, .ref b19, .ref b20, .ref b21, .ref b22, .ref b23, .ref b24, .ref b25])), (b2, .inl (Z.2 0, 5, .inl f2)), (b20, .inl (Z.2 0, 4, .inl f20)), (b21, .inl (Z.2 0, 4, .inl f21)), (b22, .inl (Z.2 2, 96, .inr (.inl f22)))] U.heap ∧ va_K Z.1 vwCl (gT Z) U ∧ va_D (fun _ => True) [(h0, .inr (9, [.ref b1, .ref b2, .ref b3, .ref b4, .int (nI n), .ref b5, .int (nI pn), .ref b6, .ref b7, .ref b8, .int (nI tn), .int xp, .int xr, .ref b9, .ref b10, .ref b11, .ref b12, .ref b13, .ref b14, .ref b15, .ref b16, .ref b17, .ref b18, .int ik, .ref b19, .ref b20, .ref b21, .ref b22, .ref b23, .ref b24, .ref b25])), (b2, .inl (Z.2 0, 5, .inl f2)), (b20, .inl (Z.2 0, 4, .inl f20)), (b21, .inl (Z.2 0, 4, .inl f21)), (b22, .inl (Z.2 2, 96, .inr (.inl f22)))])) (va_Qi (fun (r : Int32) (u : (Nat → Int64)) => match u with | g22 => r = zFilm sl n a b d ∧ zIm sl (imFilm sl n pc im a b d) g22) (fun (u : (Nat → Int64)) (t9 : State) => match u with | g22 => va_P Z.1 vwCl [(h0, .inr (9, [.ref b1, .ref b2, .ref b3, .ref b4, .int (nI n), .ref b5, .int (nI pn), .ref b6, .ref b7, .ref b8, .int (nI tn), .int xp, .int xr, .ref b9, .ref b10, .ref b11, .ref b12, .ref b13, .ref b14, .ref b15, .ref b16, .ref b17, .ref b18, .int ik, .ref b19, .ref b20, .ref b21, .ref b22, .ref b23, .ref b24, .ref b25])), (b2, .inl (Z.2 0, 5, .inl f2)), (b20, .inl (Z.2 0, 4, .inl f20)), (b21, .inl (Z.2 0, 4, .inl f21)), (b22, .inl (Z.2 2, 96, .inr (.inl g22)))] t9.heap ∧ va_D (va_A [(h0, .inr (9, [.ref b1, .ref b2, .ref b3, .ref b4, .int (nI n), .ref b5, .int (nI pn), .ref b6, .ref b7, .ref b8, .int (nI tn), .int xp, .int xr, .ref b9, .ref b10, .ref b11, .ref b12, .ref b13, .ref b14, .ref b15, .ref b16, .ref b17, .ref b18, .int ik, .ref b19, .ref b20, .ref b21, .ref b22, .ref b23, .ref b24, .ref b25])), (b2, .inl (Z.2 0, 5, .inl f2)), (b20, .inl (Z.2 0, 4, .inl f20)), (b21, .inl (Z.2 0, 4, .inl f21)), (b22, .inl (Z.2 2, 96, .inr (.inl f22)))] sz) [(h0, .inr (9, [.ref b1, .ref b2, .ref b3, .ref b4, .int (nI n), .ref b5, .int (nI pn), .ref b6, .ref b7, .ref b8, .int (nI tn), .int xp, .int xr, .ref b9, .ref b10, .ref b11, .ref b12, .ref b13, .ref b14, .ref b15, .ref b16, .ref b17, .ref b18, .int ik, .ref b19, .ref b20, .ref b21, .ref b22, .ref b23, .ref b24, .ref b25])), (b2, .inl (Z.2 0, 5, .inl f2)), (b20, .inl (Z.2 0, 4, .inl f20)), (b21, .inl (Z.2 0, 4, .inl f21)), (b22, .inl (Z.2 2, 96, .inr (.inl g22)))]) (va_A [(h0, .inr (9, [.ref b1, .ref b2, .ref b3, .ref b4, .int (nI n), .ref b5, .int (nI pn), .ref b6, .ref b7, .ref b8, .int (nI tn), .int xp, .int xr, .ref b9, .ref b10, .ref b11, .ref b12, .ref b13, .ref b14, .ref b15, .ref b16, .ref b17, .ref b18, .int ik, .ref b19, .ref b20, .ref b21, .ref b22, .ref b23, .ref b24, .ref b25])), (b2, .inl (Z.2 0, 5, .inl f2)), (b20, .inl (Z.2 0, 4, .inl f20)), (b21, .inl (Z.2 0, 4, .inl f21)), (b22, .inl (Z.2 2, 96, .inr (.inl f22)))] sz)) 0 0 (va_A [(h0, .inr (9, [.ref b1, .ref b2, .ref b3, .ref b4, .int (nI n), .ref b5, .int (nI pn), .ref b6, .ref b7, .ref b8, .int (nI tn), .int xp, .int xr, .ref b9, .ref b10, .ref b11, .ref b12, .ref b13, .ref b14, .ref b15, .ref b16, .ref b17, .ref b18, .int ik, .ref b19, .ref b20, .ref b21, .ref b22, .ref b23, .ref b24, .ref b25])), (b2, .inl (Z.2 0, 5, .inl f2)), (b20, .inl (Z.2 0, 4, .inl f20)), (b21, .inl (Z.2 0, 4, .inl f21)), (b22, .inl (Z.2 2, 96, .inr (.inl f22)))] sz) := by
  refine Met.ofW (cc := cX9_film) (maxL := 6) (ret := (some .int)) (by decide) rfl ?_
  intro p e s m args below meth c s₁ B hml hv
  obtain ⟨rfl, hsz, hP, hK, hD0⟩ := hv
  have hx := B.exec
  have hb := B.bytes
  have hr := B.returns
  have hts := atoms_spec (ws := wsX9_film) B.pre
  have hown : s.vm.findClass RX9 = some m.cls := findClass_of_methodNamed B.named
  have hlocks := B.notSynchronized
  subst hsz
  have hin9 : ∀ w ∈ wsX90, w ∈ wsX9_film := fun w h9 => (List.mem_cons_of_mem _ (List.mem_append_right _ h9))
  have hD := hD0.self (sz := s.heap.size)
  generalize hAe : va_A [(h0, .inr (9, [.ref b1, .ref b2, .ref b3, .ref b4, .int (nI n), .ref b5, .int (nI pn), .ref b6, .ref b7, .ref b8, .int (nI tn), .int xp, .int xr, .ref b9, .ref b10, .ref b11, .ref b12, .ref b13, .ref b14, .ref b15, .ref b16, .ref b17, .ref b18, .int ik, .ref b19, .ref b20, .ref b21, .ref b22, .ref b23, .ref b24, .ref b25])), (b2, .inl (Z.2 0, 5, .inl f2)), (b20, .inl (Z.2 0, 4, .inl f20)), (b21, .inl (Z.2 0, 4, .inl f21)), (b22, .inl (Z.2 2, 96, .inr (.inl f22)))] s.heap.size = A at hD ⊢
  have hA : ∀ q : Nat, s.heap.size ≤ q → A q := fun q h => by rw [← hAe]; exact Or.inr h
  have hS : va_S A s.heap s.heap [] := va_S.rf
  have hP : va_P Z.1 vwCl [(h0, .inr (9, [.ref b1, .ref b2, .ref b3, .ref b4, .int (nI n), .ref b5, .int (nI pn), .ref b6, .ref b7, .ref b8, .int (nI tn), .int xp, .int xr, .ref b9, .ref b10, .ref b11, .ref b12, .ref b13, .ref b14, .ref b15, .ref b16, .ref b17, .ref b18, .int ik, .ref b19, .ref b20, .ref b21, .ref b22, .ref b23, .ref b24, .ref b25])), (b2, .inl (Z.2 0, 5, .inl f2)), (b20, .inl (Z.2 0, 4, .inl f20)), (b21, .inl (Z.2 0, 4, .inl f21)), (b22, .inl (Z.2 2, 96, .inr (.inl f22)))] s.heap := hP
  have hl := lv_entry ([.ref h0, .int a, .int b, .int d]) (n := 6) (Nat.le_of_ble_eq_true rfl)
  rw [lg_entry_eq]
  generalize (lg_sl ([.ref h0, .int a, .int b, .int d]) ++ List.replicate (6 - (lg_sl ([.ref h0, .int a, .int b, .int d])).length) Slot.unset).toArray = ls at hl ⊢
  have hl : lv_has ls 6 [(0, .ref h0), (1, .int a), (2, .int b), (3, .int d)] := hl
  refine lv_iload_n hx hb dX9_film_0 rfl (lv_at hl 1 rfl) ?_
  refine lv_iload_n hx hb dX9_film_1 rfl (lv_at hl 2 rfl) ?_
  have hPc := hP.sub (ws' := []) [] rfl
  have hDc := hD.sub (ws' := []) [] (by decide +kernel) rfl
  have hFc := va_free (wc := []) hD hS hA [] rfl
  refine va_calli (va_runS (As := [.int a, .int b]) (rest := []) ⟨hx, hb, hml, hown, hts⟩ (c_X9_isSheet l Z s.heap.size a b) (va_cwS 2 hts gX9_film_X9_isSheet rfl rfl rfl (by decide +kernel) ⟨Nat.le_of_ble_eq_true rfl, Nat.le_of_ble_eq_true rfl⟩) ⟨fun a U g mk q => by obtain ⟨q0, q1, qP, qK, qD⟩ := q; exact ⟨q0, q1, qP, va_K.moved (u := U) (U := U.calling g mk a) (Vm.Alike.refl U.vm) qK, qD⟩, fun U hU hW => ⟨rfl, by rw [hU], by rw [hU]; exact hPc, va_K.moved hW.alike hK, hDc.weaken (fun _ _ _ _ => trivial)⟩⟩ rfl rfl hl.1 rfl (lv_room (Nat.le_of_ble_eq_true rfl)) dX9_film_2 ⟨Nat.le_of_ble_eq_true rfl, Nat.le_of_ble_eq_true rfl⟩) hS (fun q _ h => hFc q h) hFc (fun r_1 u t9 H1 locs ht hvm hw hB hz1 hk1 hS => ?_)
  have hwr_1 := hw
  have hP1 : va_P Z.1 vwCl [] H1 := fun k q h => by simp at h
  have hD1 : va_D (va_A [] s.heap.size) [] := ⟨fun i j p q h => by simp at h, fun k q h => by simp at h⟩
  obtain ⟨hP, hD⟩ := va_join (wr := [(h0, .inr (9, [.ref b1, .ref b2, .ref b3, .ref b4, .int (nI n), .ref b5, .int (nI pn), .ref b6, .ref b7, .ref b8, .int (nI tn), .int xp, .int xr, .ref b9, .ref b10, .ref b11, .ref b12, .ref b13, .ref b14, .ref b15, .ref b16, .ref b17, .ref b18, .int ik, .ref b19, .ref b20, .ref b21, .ref b22, .ref b23, .ref b24, .ref b25])), (b2, .inl (Z.2 0, 5, .inl f2)), (b20, .inl (Z.2 0, 4, .inl f20)), (b21, .inl (Z.2 0, 4, .inl f21)), (b22, .inl (Z.2 2, 96, .inr (.inl f22)))]) (w1 := []) hP hD [] [0, 1, 2, 3, 4] rfl rfl (by decide +kernel) (by decide +kernel) hk1 hFc hP1 hD1
  clear hPc hDc hP1 hD1 hk1 hz1 hFc ht hvm
  generalize H1 = H at hP hS ⊢
  have hP : va_P Z.1 vwCl [(h0, .inr (9, [.ref b1, .ref b2, .ref b3, .ref b4, .int (nI n), .ref b5, .int (nI pn), .ref b6, .ref b7, .ref b8, .int (nI tn), .int xp, .int xr, .ref b9, .ref b10, .ref b11, .ref b12, .ref b13, .ref b14, .ref b15, .ref b16, .ref b17, .ref b18, .int ik, .ref b19, .ref b20, .ref b21, .ref b22, .ref b23, .ref b24, .ref b25])), (b2, .inl (Z.2 0, 5, .inl f2)), (b20, .inl (Z.2 0, 4, .inl f20)), (b21, .inl (Z.2 0, 4, .inl f21)), (b22, .inl (Z.2 2, 96, .inr (.inl f22)))] H := hP
  have hD : va_D A [(h0, .inr (9, [.ref b1, .ref b2, .ref b3, .ref b4, .int (nI n), .ref b5, .int (nI pn), .ref b6, .ref b7, .ref b8, .int (nI tn), .int xp, .int xr, .ref b9, .ref b10, .ref b11, .ref b12, .ref b13, .ref b14, .ref b15, .ref b16, .ref b17, .ref b18, .int ik, .ref b19, .ref b20, .ref b21, .ref b22, .ref b23, .ref b24, .ref b25])), (b2, .inl (Z.2 0, 5, .inl f2)), (b20, .inl (Z.2 0, 4, .inl f20)), (b21, .inl (Z.2 0, 4, .inl f21)), (b22, .inl (Z.2 2, 96, .inr (.inl f22)))] := hD
  rcases hwr_1 with ⟨rfl, ha, hb3⟩ | ⟨rfl, hab⟩
  · refine lv_if_ne (tgt := 10) hx hb dX9_film_5 (by decide) (fun _ => ?_) (fun c9 => absurd c9 (by decide))
    refine lv_aload_n hx hb dX9_film_10 rfl (lv_at hl 0 rfl) ?_
    refine lv_iload_n hx hb dX9_film_11 rfl (lv_at hl 1 rfl) ?_
    refine lv_iload_n hx hb dX9_film_12 rfl (lv_at hl 2 rfl) ?_
    refine lv_iload_n hx hb dX9_film_13 rfl (lv_at hl 3 rfl) ?_
    refine lv_aload_n hx hb dX9_film_14 rfl (lv_at hl 0 rfl) ?_
    refine va_get (D := Z.1) (ci := 9) (v := .int (nI n)) (C := RX9) (T := TX9) (N := 31) hx hb hts hin9 hown hK hP 0 rfl rfl 4 (by decide) (hts (.fieldLink RX9 86 "HalfAskedModel" "many" "I") (List.mem_of_getElem? (i := 1) rfl)) (fun _ h9 => h9) rfl dX9_film_15 ?_
    have hPc := hP.sub (ws' := [(h0, .inr (9, [.ref b1, .ref b2, .ref b3, .ref b4, .int (nI n), .ref b5, .int (nI pn), .ref b6, .ref b7, .ref b8, .int (nI tn), .int xp, .int xr, .ref b9, .ref b10, .ref b11, .ref b12, .ref b13, .ref b14, .ref b15, .ref b16, .ref b17, .ref b18, .int ik, .ref b19, .ref b20, .ref b21, .ref b22, .ref b23, .ref b24, .ref b25])), (b20, .inl (Z.2 0, 4, .inl f20)), (b21, .inl (Z.2 0, 4, .inl f21))]) [0, 2, 3] rfl
    have hDc := hD.sub (ws' := [(h0, .inr (9, [.ref b1, .ref b2, .ref b3, .ref b4, .int (nI n), .ref b5, .int (nI pn), .ref b6, .ref b7, .ref b8, .int (nI tn), .int xp, .int xr, .ref b9, .ref b10, .ref b11, .ref b12, .ref b13, .ref b14, .ref b15, .ref b16, .ref b17, .ref b18, .int ik, .ref b19, .ref b20, .ref b21, .ref b22, .ref b23, .ref b24, .ref b25])), (b20, .inl (Z.2 0, 4, .inl f20)), (b21, .inl (Z.2 0, 4, .inl f21))]) [0, 2, 3] (by decide +kernel) rfl
    have hFc := va_free (wc := [(h0, .inr (9, [.ref b1, .ref b2, .ref b3, .ref b4, .int (nI n), .ref b5, .int (nI pn), .ref b6, .ref b7, .ref b8, .int (nI tn), .int xp, .int xr, .ref b9, .ref b10, .ref b11, .ref b12, .ref b13, .ref b14, .ref b15, .ref b16, .ref b17, .ref b18, .int ik, .ref b19, .ref b20, .ref b21, .ref b22, .ref b23, .ref b24, .ref b25])), (b20, .inl (Z.2 0, 4, .inl f20)), (b21, .inl (Z.2 0, 4, .inl f21))]) hD hS hA [0, 2, 3] rfl
    refine va_calli (va_runV (As := [.int a, .int b, .int d, .int (nI n)]) (rest := []) ⟨hx, hb, hml, hown, hts⟩ (c_X9_lacksRow l Z H.size h0 b1 b2 b3 b4 b5 b6 b7 b8 b9 b10 b11 b12 b13 b14 b15 b16 b17 b18 b19 b20 b21 b22 b23 b24 b25 n pn tn xp xr ik f20 f21 a b d n sl (hs) (ha) (hb3) (by omega)) (cwV 4 hts gX9_film_X9_lacksRow rfl rfl rfl (by decide +kernel) ⟨Nat.le_of_ble_eq_true rfl, Nat.le_of_ble_eq_true rfl⟩) ⟨fun a U g mk q => by obtain ⟨q0, q1, qP, qK, qD⟩ := q; exact ⟨q0, q1, qP, va_K.moved (u := U) (U := U.calling g mk a) (Vm.Alike.refl U.vm) qK, qD⟩, va_recv hK hPc (ci := 9) (q0 := 0) rfl rfl, fun U hU hW => ⟨rfl, by rw [hU], by rw [hU]; exact hPc, va_K.moved hW.alike hK, hDc.weaken (fun _ _ _ _ => trivial)⟩⟩ rfl rfl hl.1 rfl (lv_room (Nat.le_of_ble_eq_true rfl)) dX9_film_18 ⟨Nat.le_of_ble_eq_true rfl, Nat.le_of_ble_eq_true rfl⟩) hS (fun q _ h => hFc q h) hFc (fun r_2 u t9 H1 locs ht hvm hw hB hz1 hk1 hS => ?_)
    have hw9 := hw.symm
    clear hw
    subst hw9
    obtain ⟨hP1, hD1⟩ := hB
    rw [ht] at hP1
    obtain ⟨hP, hD⟩ := va_join (wr := [(b2, .inl (Z.2 0, 5, .inl f2)), (b22, .inl (Z.2 2, 96, .inr (.inl f22)))]) (w1 := [(h0, .inr (9, [.ref b1, .ref b2, .ref b3, .ref b4, .int (nI n), .ref b5, .int (nI pn), .ref b6, .ref b7, .ref b8, .int (nI tn), .int xp, .int xr, .ref b9, .ref b10, .ref b11, .ref b12, .ref b13, .ref b14, .ref b15, .ref b16, .ref b17, .ref b18, .int ik, .ref b19, .ref b20, .ref b21, .ref b22, .ref b23, .ref b24, .ref b25])), (b20, .inl (Z.2 0, 4, .inl f20)), (b21, .inl (Z.2 0, 4, .inl f21))]) hP hD [0, 2, 3] [1, 4] rfl rfl (by decide +kernel) (by decide +kernel) hk1 hFc hP1 hD1
    clear hPc hDc hP1 hD1 hk1 hz1 hFc ht hvm
    generalize H1 = H at hP hS ⊢
    have hP : va_P Z.1 vwCl [(b2, .inl (Z.2 0, 5, .inl f2)), (b22, .inl (Z.2 2, 96, .inr (.inl f22))), (h0, .inr (9, [.ref b1, .ref b2, .ref b3, .ref b4, .int (nI n), .ref b5, .int (nI pn), .ref b6, .ref b7, .ref b8, .int (nI tn), .int xp, .int xr, .ref b9, .ref b10, .ref b11, .ref b12, .ref b13, .ref b14, .ref b15, .ref b16, .ref b17, .ref b18, .int ik, .ref b19, .ref b20, .ref b21, .ref b22, .ref b23, .ref b24, .ref b25])), (b20, .inl (Z.2 0, 4, .inl f20)), (b21, .inl (Z.2 0, 4, .inl f21))] H := hP
    have hD : va_D A [(b2, .inl (Z.2 0, 5, .inl f2)), (b22, .inl (Z.2 2, 96, .inr (.inl f22))), (h0, .inr (9, [.ref b1, .ref b2, .ref b3, .ref b4, .int (nI n), .ref b5, .int (nI pn), .ref b6, .ref b7, .ref b8, .int (nI tn), .int xp, .int xr, .ref b9, .ref b10, .ref b11, .ref b12, .ref b13, .ref b14, .ref b15, .ref b16, .ref b17, .ref b18, .int ik, .ref b19, .ref b20, .ref b21, .ref b22, .ref b23, .ref b24, .ref b25])), (b20, .inl (Z.2 0, 4, .inl f20)), (b21, .inl (Z.2 0, 4, .inl f21))] := hD
    refine lv_istore (lv' := [(4, .int (zLk (sl a.toNatClampNeg) b d n)), (0, .ref h0), (1, .int a), (2, .int b), (3, .int d)]) hx hb dX9_film_21 hl (by decide) rfl (fun ls hl => ?_)
    refine lv_iload hx hb dX9_film_23 (lv_at hl 0 rfl) ?_
    refine lv_if_ge (tgt := 31) hx hb dX9_film_25 (by decide) (fun c_3 => ?_) (fun c_3 => ?_)
    · have hlk := zLk_ok hs ha (Int32.not_lt.mpr c_3)
      obtain ⟨t, ht, rfl⟩ := vp_in_of ha (by decide)
      have ht8 := ht
      obtain ⟨u0, hu0, rfl⟩ := vp_in_of (x := d) (n := 25) (vp_in_iff.mpr (by omega)) (by decide)
      rw [nI_toInt (by omega)] at hlk
      refine lv_iconst (v := 0) hx hb dX9_film_31 (by decide) ?_
      refine lv_istore (lv' := [(5, .int 0), (4, .int (zLk (sl (nI t).toNatClampNeg) b (nI u0) n)), (0, .ref h0), (1, .int (nI t)), (2, .int b), (3, .int (nI u0))]) hx hb dX9_film_32 hl (by decide) rfl (fun ls hl => ?_)
      refine lp_X9_film Z h0 b1 b2 b3 b4 b5 b6 b7 b8 b9 b10 b11 b12 b13 b14 b15 b16 b17 b18 b19 b20 b21 b22 b23 b24 b25 n pn tn xp xr ik f2 f20 f21 t u0 b pc f22 hn ht (by omega) hpc hx hb hml hts hown hK hA (fun j f22' H locs ls hR hP hD hS hl => ?_) (n + 1) 0 f22 (by omega) (Nat.zero_le _) (rwN_0) H _ ls (hP.sub [2, 0, 3, 4, 1] rfl) (hD.sub [2, 0, 3, 4, 1] (by decide +kernel) rfl) hS (lv_sub hl [2, 3, 4, 5, 0] rfl)
      refine lv_aload_n hx hb dX9_film_75 rfl (lv_at hl 0 rfl) ?_
      refine va_get (D := Z.1) (ci := 9) (v := .int (nI n)) (C := RX9) (T := TX9) (N := 31) hx hb hts hin9 hown hK hP 0 rfl rfl 4 (by decide) (hts (.fieldLink RX9 86 "HalfAskedModel" "many" "I") (List.mem_of_getElem? (i := 1) rfl)) (fun _ h9 => h9) rfl dX9_film_76 ?_
      have hP9 := hP.sub (ws' := [(h0, .inr (9, [.ref b1, .ref b2, .ref b3, .ref b4, .int (nI n), .ref b5, .int (nI pn), .ref b6, .ref b7, .ref b8, .int (nI tn), .int xp, .int xr, .ref b9, .ref b10, .ref b11, .ref b12, .ref b13, .ref b14, .ref b15, .ref b16, .ref b17, .ref b18, .int ik, .ref b19, .ref b20, .ref b21, .ref b22, .ref b23, .ref b24, .ref b25])), (b2, .inl (Z.2 0, 5, .inl f2)), (b20, .inl (Z.2 0, 4, .inl f20)), (b21, .inl (Z.2 0, 4, .inl f21)), (b22, .inl (Z.2 2, 96, .inr (.inl f22')))]) [0, 1, 2, 3, 4] rfl
      have hD9 := hD.sub (ws' := [(h0, .inr (9, [.ref b1, .ref b2, .ref b3, .ref b4, .int (nI n), .ref b5, .int (nI pn), .ref b6, .ref b7, .ref b8, .int (nI tn), .int xp, .int xr, .ref b9, .ref b10, .ref b11, .ref b12, .ref b13, .ref b14, .ref b15, .ref b16, .ref b17, .ref b18, .int ik, .ref b19, .ref b20, .ref b21, .ref b22, .ref b23, .ref b24, .ref b25])), (b2, .inl (Z.2 0, 5, .inl f2)), (b20, .inl (Z.2 0, 4, .inl f20)), (b21, .inl (Z.2 0, 4, .inl f21)), (b22, .inl (Z.2 2, 96, .inr (.inl f22')))]) [0, 1, 2, 3, 4] (by decide +kernel) rfl
      exact W.iret (v := (nI n)) hx hb hr (fun t9 ht hW => ⟨⟨nI n, f22', rfl, ⟨((zI_p ⟨ha, hb3⟩).trans (zI_n (Int32.not_lt.mpr c_3))).symm, im_filmY hI hs ht8 (by omega) ((zI_p ⟨ha, hb3⟩).trans (zI_n (Int32.not_lt.mpr c_3))).symm hR⟩, by rw [ht]; exact hP9, hD9⟩, hS.F ht⟩) hS.2.2 dX9_film_79
    · refine lv_iload hx hb dX9_film_28 (lv_at hl 0 rfl) ?_
      have hP9 := hP.sub (ws' := [(h0, .inr (9, [.ref b1, .ref b2, .ref b3, .ref b4, .int (nI n), .ref b5, .int (nI pn), .ref b6, .ref b7, .ref b8, .int (nI tn), .int xp, .int xr, .ref b9, .ref b10, .ref b11, .ref b12, .ref b13, .ref b14, .ref b15, .ref b16, .ref b17, .ref b18, .int ik, .ref b19, .ref b20, .ref b21, .ref b22, .ref b23, .ref b24, .ref b25])), (b2, .inl (Z.2 0, 5, .inl f2)), (b20, .inl (Z.2 0, 4, .inl f20)), (b21, .inl (Z.2 0, 4, .inl f21)), (b22, .inl (Z.2 2, 96, .inr (.inl f22)))]) [2, 0, 3, 4, 1] rfl
      have hD9 := hD.sub (ws' := [(h0, .inr (9, [.ref b1, .ref b2, .ref b3, .ref b4, .int (nI n), .ref b5, .int (nI pn), .ref b6, .ref b7, .ref b8, .int (nI tn), .int xp, .int xr, .ref b9, .ref b10, .ref b11, .ref b12, .ref b13, .ref b14, .ref b15, .ref b16, .ref b17, .ref b18, .int ik, .ref b19, .ref b20, .ref b21, .ref b22, .ref b23, .ref b24, .ref b25])), (b2, .inl (Z.2 0, 5, .inl f2)), (b20, .inl (Z.2 0, 4, .inl f20)), (b21, .inl (Z.2 0, 4, .inl f21)), (b22, .inl (Z.2 2, 96, .inr (.inl f22)))]) [2, 0, 3, 4, 1] (by decide +kernel) rfl
      exact W.iret (v := (zLk (sl a.toNatClampNeg) b d n)) hx hb hr (fun t9 ht hW => ⟨⟨zLk (sl a.toNatClampNeg) b d n, f22, rfl, ⟨((zI_p ⟨ha, hb3⟩).trans (zI_p (Int32.not_le.mp c_3))).symm, im_filmN hI ((zI_p ⟨ha, hb3⟩).trans (zI_p (Int32.not_le.mp c_3))).symm (Int32.not_le.mp c_3)⟩, by rw [ht]; exact hP9, hD9⟩, hS.F ht⟩) hS.2.2 dX9_film_30
  · refine lv_if_ne (tgt := 10) hx hb dX9_film_5 (by decide) (fun c9 => absurd c9 (by decide)) (fun _ => ?_)
    refine lv_iconst (v := (-1)) hx hb dX9_film_8 (by decide) ?_
    have hP9 := hP.sub (ws' := [(h0, .inr (9, [.ref b1, .ref b2, .ref b3, .ref b4, .int (nI n), .ref b5, .int (nI pn), .ref b6, .ref b7, .ref b8, .int (nI tn), .int xp, .int xr, .ref b9, .ref b10, .ref b11, .ref b12, .ref b13, .ref b14, .ref b15, .ref b16, .ref b17, .ref b18, .int ik, .ref b19, .ref b20, .ref b21, .ref b22, .ref b23, .ref b24, .ref b25])), (b2, .inl (Z.2 0, 5, .inl f2)), (b20, .inl (Z.2 0, 4, .inl f20)), (b21, .inl (Z.2 0, 4, .inl f21)), (b22, .inl (Z.2 2, 96, .inr (.inl f22)))]) [0, 1, 2, 3, 4] rfl
    have hD9 := hD.sub (ws' := [(h0, .inr (9, [.ref b1, .ref b2, .ref b3, .ref b4, .int (nI n), .ref b5, .int (nI pn), .ref b6, .ref b7, .ref b8, .int (nI tn), .int xp, .int xr, .ref b9, .ref b10, .ref b11, .ref b12, .ref b13, .ref b14, .ref b15, .ref b16, .ref b17, .ref b18, .int ik, .ref b19, .ref b20, .ref b21, .ref b22, .ref b23, .ref b24, .ref b25])), (b2, .inl (Z.2 0, 5, .inl f2)), (b20, .inl (Z.2 0, 4, .inl f20)), (b21, .inl (Z.2 0, 4, .inl f21)), (b22, .inl (Z.2 2, 96, .inr (.inl f22)))]) [0, 1, 2, 3, 4] (by decide +kernel) rfl
    exact W.iret (v := (-1)) hx hb hr (fun t9 ht hW => ⟨⟨(-1), f22, rfl, ⟨(zI_n hab).symm, im_filmN hI (zI_n hab).symm (by decide)⟩, by rw [ht]; exact hP9, hD9⟩, hS.F ht⟩) hS.2.2 dX9_film_9
