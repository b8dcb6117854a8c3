/-- the literal of the kinds, as long as nothing of it is written -/
def gS (kA vA : Nat) (A : Nat → Prop) (U : State) : Prop := va_Z "java/lang/String" "COMPACT_STRINGS" "Z" (.int 1) A U U.heap ∧ va_O "java/lang/String" kA A U U.heap ∧ va_OF "java/lang/String" "coder" "B" (.int 0) kA A U U.heap ∧ va_OF "java/lang/String" "value" "[B" (.ref vA) kA A U U.heap ∧ va_T .byte vA 4 (fun j => .int (([102, 99, 116, 119] : List Int32).getD j 0)) A U U.heap ∧ vk_R "HalfAsked$Tape" 33 "fctw" kA U
theorem z_G {kA vA : Nat} {A B : Nat → Prop} {s U : State} {H : Heap} {locs : List Loc} (hW : s.WarmedH U.vm) (h : gS kA vA A s) (hS : va_S A s.heap H locs) (hU : U.heap = H) (hF : ∀ q, B q → A q) : gS kA vA B U := by
  obtain ⟨h1, h2, h3, h4, h5, h6⟩ := h
  subst hU
  exact ⟨((h1.kept hS.2.1).moved hW.alike).narrow hF, ((h2.kept hS.2.1).moved hW.alike).narrow hF, ((h3.kept hS.2.1).moved hW.alike).narrow hF, ((h4.kept hS.2.1).moved hW.alike).narrow hF, ((h5.kept hS.2.1).moved hW.alike).narrow hF, h6.warm hW⟩
theorem z_Gc {kA vA : Nat} {A : Nat → Prop} {u U : State} (e : u.vm = U.vm) (eh : u.heap = U.heap) (h : gS kA vA A u) : gS kA vA A U := by
  obtain ⟨h1, h2, h3, h4, h5, h6⟩ := h
  have ha : u.vm.Alike U.vm := e ▸ Vm.Alike.refl u.vm
  rw [eh] at h1 h2 h3 h4 h5
  exact ⟨h1.moved ha, h2.moved ha, h3.moved ha, h4.moved ha, h5.moved ha, h6.same e.symm⟩
theorem z_Gcoder {kA vA : Nat} {A : Nat → Prop} {s : State} (h : gS kA vA A s) : va_OF "java/lang/String" "coder" "B" (.int 0) kA A s s.heap := h.2.2.1
theorem z_Gvalue {kA vA : Nat} {A : Nat → Prop} {s : State} (h : gS kA vA A s) : va_OF "java/lang/String" "value" "[B" (.ref vA) kA A s s.heap := h.2.2.2.1
theorem z_Gbytes {kA vA : Nat} {A : Nat → Prop} {s : State} (h : gS kA vA A s) : va_T .byte vA 4 (fun j => .int (([102, 99, 116, 119] : List Int32).getD j 0)) A s s.heap := h.2.2.2.2.1
theorem z_recv {kA vA : Nat} {A : Nat → Prop} {s : State} {H : Heap} {locs : List Loc} (h : gS kA vA A s) (hS : va_S A s.heap H locs) : ∃ cell : Cell, H[kA]? = some cell ∧ cell.vm.isStatics = false ∧ s.vm.findClass "java/lang/String" = some cell.cls := by
  obtain ⟨cell, h1, h2, h3, -⟩ := h.2.1.kept hS.2.1
  exact ⟨cell, h1, h2, h3⟩
abbrev z_sg (w : Int64) (k : Int32) : Int64 := (w >>> ((8 * k).toInt64 &&& 63)) &&& 255
def z_ok (w : Int64) (k : Nat) : Prop := ¬ z_sg w (nI k) < 32 ∧ ¬ 126 < z_sg w (nI k)
def z_all (w : Int64) (N : Nat) : Prop := ∀ j, j < N → z_ok w j
/-- what type answers on a fresh object -/
noncomputable def z_ty (w : Int64) (n : Int32) : Int32 := @ite _ ((1 ≤ n ∧ n ≤ 8) ∧ z_all w n.toNatClampNeg) (Classical.propDecidable _) n (-1)
theorem z_ty_yes {w : Int64} {N : Nat} (h1 : 1 ≤ N) (h8 : N ≤ 8) (h : z_all w N) : z_ty w (nI N) = nI N := by
  unfold z_ty
  rw [if_pos]
  exact ⟨⟨nI_le (a := 1) h1 (by omega), nI_le (b := 8) h8 (by decide)⟩, by rw [nI_clamp (by omega)]; exact h⟩
theorem z_ty_bad {w : Int64} {N : Nat} (h8 : N ≤ 8) (h : ¬ z_all w N) : z_ty w (nI N) = -1 := by
  unfold z_ty
  rw [if_neg]
  rintro ⟨-, q⟩
  rw [nI_clamp (by omega)] at q
  exact h q
theorem z_ty_lo {w : Int64} {n : Int32} (h : n < 1) : z_ty w n = -1 := by
  unfold z_ty
  rw [if_neg]
  rintro ⟨⟨q, -⟩, -⟩
  exact Int32.not_le.mpr h q
theorem z_ty_hi {w : Int64} {n : Int32} (h : 8 < n) : z_ty w n = -1 := by
  unfold z_ty
  rw [if_neg]
  rintro ⟨⟨-, q⟩, -⟩
  exact Int32.not_le.mpr h q
theorem z_n8 {n : Int32} (h1 : ¬ n < 1) (h2 : ¬ 8 < n) : ∃ N : Nat, 1 ≤ N ∧ N ≤ 8 ∧ n = nI N := by
  have e0 : (0 : Int32).toInt = 0 := by decide
  have e1 : (1 : Int32).toInt = 1 := by decide
  have h3 : ¬ n < 0 := by rw [Int32.lt_iff_toInt_lt] at h1 ⊢; omega
  obtain ⟨N, hN, rfl⟩ := nI_of2 (M := 8) (n := 8) (by decide) h3 (Int32.not_lt.mp h2)
  refine ⟨N, ?_, hN, rfl⟩
  rw [Int32.lt_iff_toInt_lt, nI_toInt (by omega)] at h1
  omega
theorem z_lt {N k : Nat} (hN : N ≤ 8) (hk : k ≤ N) (c : ¬ nI N ≤ nI k) : k < N := by
  rcases Nat.lt_or_ge k N with q | q
  · exact q
  · exact absurd (nI_le q (by omega)) c
theorem z_ge {N k : Nat} (hN : N ≤ 8) (hk : k ≤ N) (c : nI N ≤ nI k) : k = N := by
  rcases Nat.lt_or_ge k N with q | q
  · exact absurd c (nI_ge q (by omega))
  · omega
def z_dn (j : Nat) (x : Int32) : Prop := (j = 0 ∧ x = -1) ∨ ∃ q, j = q + 1 ∧ x = nI q
theorem z_dn_start (j : Nat) : z_dn j (nI j - 1) := by
  cases j with
  | zero => exact Or.inl ⟨rfl, rfl⟩
  | succ q => exact Or.inr ⟨q, rfl, nI_pred q⟩
theorem z_dn_step (j : Nat) : z_dn j (nI j + (-1)) := by
  cases j with
  | zero => exact Or.inl ⟨rfl, rfl⟩
  | succ q => exact Or.inr ⟨q, rfl, pk_m1 q⟩
set_option maxHeartbeats 4000000 in
set_option maxRecDepth 100000 in
theorem c_J0_isLatin1_aae02 (l : Launch) (Z : gZ) (sz : Nat) (kA : Nat) (vA : Nat)  : Met l yJ0_isLatin1_aae02 wsJ0_isLatin1_aae02 ({ frames := 0, cells := 0, slots := 0, locals := 0 }) (va_Pc [.ref kA] (fun U => U.heap.size = sz ∧ va_P Z.1 vwCl [] U.heap ∧ va_K Z.1 vwCl (gT Z) U ∧ va_D (fun _ => True) [] ∧ gS kA vA (va_A [] sz) U)) (va_Qi (fun (r : Int32) (u : Unit) => r = 1) (fun (u : Unit) (t9 : State) => True) (va_A [] sz)) 0 0 (va_A [] sz) := by
  refine Met.ofW (cc := cJ0_isLatin1_aae02) (maxL := 1) (ret := (some .boolean)) (by decide) rfl ?_
  intro p e s m args below meth c s₁ B hml hv
  obtain ⟨rfl, hsz, hP, hK, hD0, hG⟩ := hv
  have hx := B.exec
  have hb := B.bytes
  have hr := B.returns
  have hts := atoms_spec (ws := wsJ0_isLatin1_aae02) B.pre
  have hown : s.vm.findClass RJ0 = some m.cls := findClass_of_methodNamed B.named
  have hlocks := B.notSynchronized
  subst hsz
  have hD := hD0.self (sz := s.heap.size)
  generalize hAe : va_A [] s.heap.size = A at hD hG ⊢
  have hA : ∀ q : Nat, s.heap.size ≤ q → A q := fun q h => by rw [← hAe]; exact Or.inr h
  have hS : va_S A s.heap s.heap [] := va_S.rf
  have hP : va_P Z.1 vwCl [] s.heap := hP
  have hl := lv_entry ([.ref kA]) (n := 1) (Nat.le_of_ble_eq_true rfl)
  rw [lg_entry_eq]
  generalize (lg_sl ([.ref kA]) ++ List.replicate (1 - (lg_sl ([.ref kA])).length) Slot.unset).toArray = ls at hl ⊢
  have hl : lv_has ls 1 [(0, .ref kA)] := hl
  refine va_gets hx hb hG.1 hS hown (hts (.fieldLink RJ0 38 "java/lang/String" "COMPACT_STRINGS" "Z") (List.mem_of_getElem? (i := 1) rfl)) (fun _ h9 => h9) dJ0_isLatin1_aae02_0 ?_
  refine lv_if_eq (tgt := 17) hx hb dJ0_isLatin1_aae02_3 (by decide) (fun c9 => absurd c9 (by decide)) (fun _ => ?_)
  refine lv_aload_n hx hb dJ0_isLatin1_aae02_6 rfl (lv_at hl 0 rfl) ?_
  refine vk_getf hx hb (z_Gcoder hG) hS hown (hts (.fieldLink RJ0 15 "java/lang/String" "coder" "B") (List.mem_of_getElem? (i := 2) rfl)) (fun _ h9 => h9) dJ0_isLatin1_aae02_7 ?_
  refine lv_if_ne (tgt := 17) hx hb dJ0_isLatin1_aae02_10 (by decide) (fun c9 => absurd c9 (by decide)) (fun _ => ?_)
  refine lv_iconst (v := 1) hx hb dJ0_isLatin1_aae02_13 (by decide) ?_
  refine lv_goto (tgt := 18) hx hb dJ0_isLatin1_aae02_14 (by decide) ?_
  exact W.zret (v := 1) hx hb hr rfl (fun t9 ht hW => ⟨⟨1, (), rfl, rfl, trivial⟩, hS.F ht⟩) hS.2.2 dJ0_isLatin1_aae02_18
set_option maxHeartbeats 4000000 in
set_option maxRecDepth 100000 in
theorem c_J0_coder_7d493 (l : Launch) (Z : gZ) (sz : Nat) (kA : Nat) (vA : Nat)  : Met l yJ0_coder_7d493 wsJ0_coder_7d493 ({ frames := 0, cells := 0, slots := 0, locals := 0 }) (va_Pc [.ref kA] (fun U => U.heap.size = sz ∧ va_P Z.1 vwCl [] U.heap ∧ va_K Z.1 vwCl (gT Z) U ∧ va_D (fun _ => True) [] ∧ gS kA vA (va_A [] sz) U)) (va_Qi (fun (r : Int32) (u : Unit) => r = 0) (fun (u : Unit) (t9 : State) => True) (va_A [] sz)) 0 0 (va_A [] sz) := by
  refine Met.ofW (cc := cJ0_coder_7d493) (maxL := 1) (ret := (some .byte)) (by decide) rfl ?_
  intro p e s m args below meth c s₁ B hml hv
  obtain ⟨rfl, hsz, hP, hK, hD0, hG⟩ := hv
  have hx := B.exec
  have hb := B.bytes
  have hr := B.returns
  have hts := atoms_spec (ws := wsJ0_coder_7d493) B.pre
  have hown : s.vm.findClass RJ0 = some m.cls := findClass_of_methodNamed B.named
  have hlocks := B.notSynchronized
  subst hsz
  have hD := hD0.self (sz := s.heap.size)
  generalize hAe : va_A [] s.heap.size = A at hD hG ⊢
  have hA : ∀ q : Nat, s.heap.size ≤ q → A q := fun q h => by rw [← hAe]; exact Or.inr h
  have hS : va_S A s.heap s.heap [] := va_S.rf
  have hP : va_P Z.1 vwCl [] s.heap := hP
  have hl := lv_entry ([.ref kA]) (n := 1) (Nat.le_of_ble_eq_true rfl)
  rw [lg_entry_eq]
  generalize (lg_sl ([.ref kA]) ++ List.replicate (1 - (lg_sl ([.ref kA])).length) Slot.unset).toArray = ls at hl ⊢
  have hl : lv_has ls 1 [(0, .ref kA)] := hl
  refine va_gets hx hb hG.1 hS hown (hts (.fieldLink RJ0 38 "java/lang/String" "COMPACT_STRINGS" "Z") (List.mem_of_getElem? (i := 1) rfl)) (fun _ h9 => h9) dJ0_coder_7d493_0 ?_
  refine lv_if_eq (tgt := 13) hx hb dJ0_coder_7d493_3 (by decide) (fun c9 => absurd c9 (by decide)) (fun _ => ?_)
  refine lv_aload_n hx hb dJ0_coder_7d493_6 rfl (lv_at hl 0 rfl) ?_
  refine vk_getf hx hb (z_Gcoder hG) hS hown (hts (.fieldLink RJ0 15 "java/lang/String" "coder" "B") (List.mem_of_getElem? (i := 2) rfl)) (fun _ h9 => h9) dJ0_coder_7d493_7 ?_
  refine lv_goto (tgt := 14) hx hb dJ0_coder_7d493_10 (by decide) ?_
  exact W.zret (v := 0) hx hb hr rfl (fun t9 ht hW => ⟨⟨0, (), rfl, rfl, trivial⟩, hS.F ht⟩) hS.2.2 dJ0_coder_7d493_14
set_option maxHeartbeats 4000000 in
set_option maxRecDepth 100000 in
theorem c_J0_length_8abf5 (l : Launch) (Z : gZ) (sz : Nat) (kA : Nat) (vA : Nat)  : Met l yJ0_length_8abf5 wsJ0_length_8abf5 ({ frames := 1, cells := 0, slots := 0, locals := 20 }) (va_Pc [.ref kA] (fun U => U.heap.size = sz ∧ va_P Z.1 vwCl [] U.heap ∧ va_K Z.1 vwCl (gT Z) U ∧ va_D (fun _ => True) [] ∧ gS kA vA (va_A [] sz) U)) (va_Qi (fun (r : Int32) (u : Unit) => r = 4) (fun (u : Unit) (t9 : State) => True) (va_A [] sz)) 0 0 (va_A [] sz) := by
  refine Met.ofW (cc := cJ0_length_8abf5) (maxL := 1) (ret := (some .int)) (by decide) rfl ?_
  intro p e s m args below meth c s₁ B hml hv
  obtain ⟨rfl, hsz, hP, hK, hD0, hG⟩ := hv
  have hx := B.exec
  have hb := B.bytes
  have hr := B.returns
  have hts := atoms_spec (ws := wsJ0_length_8abf5) B.pre
  have hown : s.vm.findClass RJ0 = some m.cls := findClass_of_methodNamed B.named
  have hlocks := B.notSynchronized
  subst hsz
  have hD := hD0.self (sz := s.heap.size)
  generalize hAe : va_A [] s.heap.size = A at hD hG ⊢
  have hA : ∀ q : Nat, s.heap.size ≤ q → A q := fun q h => by rw [← hAe]; exact Or.inr h
  have hS : va_S A s.heap s.heap [] := va_S.rf
  have hP : va_P Z.1 vwCl [] s.heap := hP
  have hl := lv_entry ([.ref kA]) (n := 1) (Nat.le_of_ble_eq_true rfl)
  rw [lg_entry_eq]
  generalize (lg_sl ([.ref kA]) ++ List.replicate (1 - (lg_sl ([.ref kA])).length) Slot.unset).toArray = ls at hl ⊢
  have hl : lv_has ls 1 [(0, .ref kA)] := hl
  refine lv_aload_n hx hb dJ0_length_8abf5_0 rfl (lv_at hl 0 rfl) ?_
  refine vk_getf hx hb (z_Gvalue hG) hS hown (hts (.fieldLink RJ0 9 "java/lang/String" "value" "[B") (List.mem_of_getElem? (i := 1) rfl)) (fun _ h9 => h9) dJ0_length_8abf5_1 ?_
  refine va_tlen hx hb (z_Gbytes hG) hS (v := 4) rfl dJ0_length_8abf5_4 ?_
  refine lv_aload_n hx hb dJ0_length_8abf5_5 rfl (lv_at hl 0 rfl) ?_
  have hPc := hP.sub (ws' := []) [] rfl
  have hDc := hD.sub (ws' := []) [] (by decide +kernel) rfl
  have hFc := va_free (wc := []) hD hS hA [] rfl
  refine va_calli (va_runV (As := []) (rest := [.int 4]) ⟨hx, hb, hml, hown, hts⟩ (c_J0_coder_7d493 l Z s.heap.size kA vA) (cwV 0 hts gJ0_length_8abf5_J0_coder_7d493 rfl rfl rfl (by decide +kernel) ⟨Nat.le_of_ble_eq_true rfl, Nat.le_of_ble_eq_true rfl⟩) ⟨fun a U g mk q => by obtain ⟨q0, q1, qP, qK, qD, qG⟩ := q; exact ⟨q0, q1, qP, va_K.moved (u := U) (U := U.calling g mk a) (Vm.Alike.refl U.vm) qK, qD, z_Gc (u := U) (U := U.calling g mk a) rfl rfl qG⟩, z_recv hG hS, fun U hU hW => ⟨rfl, by rw [hU], by rw [hU]; exact hPc, va_K.moved hW.alike hK, hDc.weaken (fun _ _ _ _ => trivial), z_G hW hG hS hU hFc⟩⟩ rfl rfl hl.1 rfl (lv_room (Nat.le_of_ble_eq_true rfl)) dJ0_length_8abf5_6 ⟨Nat.le_of_ble_eq_true rfl, Nat.le_of_ble_eq_true rfl⟩) hS (fun q _ h => hFc q h) hFc (fun r_1 u t9 H1 locs ht hvm hw hB hz1 hk1 hS => ?_)
  have hw9 := hw.symm
  clear hw
  subst hw9
  have hP1 : va_P Z.1 vwCl [] H1 := fun k q h => by simp at h
  have hD1 : va_D (va_A [] s.heap.size) [] := ⟨fun i j p q h => by simp at h, fun k q h => by simp at h⟩
  obtain ⟨hP, hD⟩ := va_join (wr := []) (w1 := []) hP hD [] [] rfl rfl (by decide +kernel) (by decide +kernel) hk1 hFc hP1 hD1
  clear hPc hDc hP1 hD1 hk1 hz1 hFc ht hvm
  generalize H1 = H at hP hS ⊢
  have hP : va_P Z.1 vwCl [] H := hP
  have hD : va_D A [] := hD
  refine lv_ishr hx hb dJ0_length_8abf5_9 ?_
  refine lv_topi (fun f_2 ef_2 => ?_)
  obtain rfl : 4 = f_2 := (ef_2.trans (by decide)).symm
  exact W.iret (v := 4) hx hb hr (fun t9 ht hW => ⟨⟨4, (), rfl, rfl, trivial⟩, hS.F ht⟩) hS.2.2 dJ0_length_8abf5_10
def q_J1_canEncode_9a6ad_r (a : Int32) : Int32 := (if a < 0 then (0 : Int32) else (if 255 < a then (0 : Int32) else (1 : Int32)))
set_option maxHeartbeats 4000000 in
set_option maxRecDepth 100000 in
theorem c_J1_canEncode_9a6ad (l : Launch) (Z : gZ) (sz : Nat) (a : Int32)  : Met l yJ1_canEncode_9a6ad wsJ1_canEncode_9a6ad ({ frames := 0, cells := 0, slots := 0, locals := 0 }) (va_Pc [.int a] (fun U => U.heap.size = sz ∧ va_P Z.1 vwCl [] U.heap ∧ va_K Z.1 vwCl (gT Z) U ∧ va_D (fun _ => True) [])) (va_Qi (fun (r : Int32) (u : Unit) => r = q_J1_canEncode_9a6ad_r a) (fun (u : Unit) (t9 : State) => True) (va_A [] sz)) 0 0 (va_A [] sz) := by
  refine Met.ofW (cc := cJ1_canEncode_9a6ad) (maxL := 1) (ret := (some .boolean)) (by decide) rfl ?_
  intro p e s m args below meth c s₁ B hml hv
  obtain ⟨rfl, hsz, hP, hK, hD0⟩ := hv
  have hx := B.exec
  have hb := B.bytes
  have hr := B.returns
  have hts := atoms_spec (ws := wsJ1_canEncode_9a6ad) B.pre
  have hown : s.vm.findClass RJ1 = some m.cls := findClass_of_methodNamed B.named
  have hlocks := B.notSynchronized
  subst hsz
  have hD := hD0.self (sz := s.heap.size)
  generalize hAe : va_A [] s.heap.size = A at hD ⊢
  have hA : ∀ q : Nat, s.heap.size ≤ q → A q := fun q h => by rw [← hAe]; exact Or.inr h
  have hS : va_S A s.heap s.heap [] := va_S.rf
  have hP : va_P Z.1 vwCl [] s.heap := hP
  have hl := lv_entry ([.int a]) (n := 1) (Nat.le_of_ble_eq_true rfl)
  rw [lg_entry_eq]
  generalize (lg_sl ([.int a]) ++ List.replicate (1 - (lg_sl ([.int a])).length) Slot.unset).toArray = ls at hl ⊢
  have hl : lv_has ls 1 [(0, .int a)] := hl
  refine lv_iload_n hx hb dJ1_canEncode_9a6ad_0 rfl (lv_at hl 0 rfl) ?_
  refine lv_if_lt (tgt := 15) hx hb dJ1_canEncode_9a6ad_1 (by decide) (fun c_1 => ?_) (fun c_1 => ?_)
  · refine lv_iconst (v := 0) hx hb dJ1_canEncode_9a6ad_15 (by decide) ?_
    exact W.zret (v := 0) hx hb hr rfl (fun t9 ht hW => ⟨⟨0, (), rfl, (by unfold q_J1_canEncode_9a6ad_r; rw [if_pos c_1]), trivial⟩, hS.F ht⟩) hS.2.2 dJ1_canEncode_9a6ad_16
  · refine lv_iload_n hx hb dJ1_canEncode_9a6ad_4 rfl (lv_at hl 0 rfl) ?_
    refine lv_sipush (v := 255) hx hb dJ1_canEncode_9a6ad_5 (by decide) ?_
    refine lv_icmp_gt (tgt := 15) hx hb dJ1_canEncode_9a6ad_8 (by decide) (fun c_2 => ?_) (fun c_2 => ?_)
    · refine lv_iconst (v := 0) hx hb dJ1_canEncode_9a6ad_15 (by decide) ?_
      exact W.zret (v := 0) hx hb hr rfl (fun t9 ht hW => ⟨⟨0, (), rfl, (by unfold q_J1_canEncode_9a6ad_r; rw [if_neg c_1, if_pos c_2]), trivial⟩, hS.F ht⟩) hS.2.2 dJ1_canEncode_9a6ad_16
    · refine lv_iconst (v := 1) hx hb dJ1_canEncode_9a6ad_11 (by decide) ?_
      refine lv_goto (tgt := 16) hx hb dJ1_canEncode_9a6ad_12 (by decide) ?_
      exact W.zret (v := 1) hx hb hr rfl (fun t9 ht hW => ⟨⟨1, (), rfl, (by unfold q_J1_canEncode_9a6ad_r; rw [if_neg c_1, if_neg c_2]), trivial⟩, hS.F ht⟩) hS.2.2 dJ1_canEncode_9a6ad_16
def q_J1_indexOfChar_4cfef_r (a : Int32) : Int32 := (if (102 : Int32) = a.toInt8.toInt32 then (0 : Int32) else (if (99 : Int32) = a.toInt8.toInt32 then (1 : Int32) else (if (116 : Int32) = a.toInt8.toInt32 then (2 : Int32) else (if (119 : Int32) = a.toInt8.toInt32 then (3 : Int32) else (-1 : Int32)))))
set_option maxHeartbeats 4000000 in
set_option maxRecDepth 100000 in
theorem c_J1_indexOfChar_4cfef (l : Launch) (Z : gZ) (sz : Nat) (a : Int32) (kA : Nat) (vA : Nat)  : Met l yJ1_indexOfChar_4cfef wsJ1_indexOfChar_4cfef ({ frames := 0, cells := 0, slots := 0, locals := 0 }) (va_Pc [.ref vA, .int a, .int 0, .int 4] (fun U => U.heap.size = sz ∧ va_P Z.1 vwCl [] U.heap ∧ va_K Z.1 vwCl (gT Z) U ∧ va_D (fun _ => True) [] ∧ gS kA vA (va_A [] sz) U)) (va_Qi (fun (r : Int32) (u : Unit) => r = q_J1_indexOfChar_4cfef_r a) (fun (u : Unit) (t9 : State) => True) (va_A [] sz)) 0 0 (va_A [] sz) := by
  refine Met.ofW (cc := cJ1_indexOfChar_4cfef) (maxL := 6) (ret := (some .int)) (by decide) rfl ?_
  intro p e s m args below meth c s₁ B hml hv
  obtain ⟨rfl, hsz, hP, hK, hD0, hG⟩ := hv
  have hx := B.exec
  have hb := B.bytes
  have hr := B.returns
  have hts := atoms_spec (ws := wsJ1_indexOfChar_4cfef) B.pre
  have hown : s.vm.findClass RJ1 = some m.cls := findClass_of_methodNamed B.named
  have hlocks := B.notSynchronized
  subst hsz
  have hD := hD0.self (sz := s.heap.size)
  generalize hAe : va_A [] s.heap.size = A at hD hG ⊢
  have hA : ∀ q : Nat, s.heap.size ≤ q → A q := fun q h => by rw [← hAe]; exact Or.inr h
  have hS : va_S A s.heap s.heap [] := va_S.rf
  have hP : va_P Z.1 vwCl [] s.heap := hP
  have hl := lv_entry ([.ref vA, .int a, .int 0, .int 4]) (n := 6) (Nat.le_of_ble_eq_true rfl)
  rw [lg_entry_eq]
  generalize (lg_sl ([.ref vA, .int a, .int 0, .int 4]) ++ List.replicate (6 - (lg_sl ([.ref vA, .int a, .int 0, .int 4])).length) Slot.unset).toArray = ls at hl ⊢
  have hl : lv_has ls 6 [(0, .ref vA), (1, .int a), (2, .int 0), (3, .int 4)] := hl
  refine lv_iload_n hx hb dJ1_indexOfChar_4cfef_0 rfl (lv_at hl 1 rfl) ?_
  refine lv_i2b hx hb dJ1_indexOfChar_4cfef_1 rfl ?_
  refine lv_istore (lv' := [(4, .int a.toInt8.toInt32), (0, .ref vA), (1, .int a), (2, .int 0), (3, .int 4)]) hx hb dJ1_indexOfChar_4cfef_2 hl (by decide) rfl (fun ls hl => ?_)
  refine lv_iload_n hx hb dJ1_indexOfChar_4cfef_4 rfl (lv_at hl 3 rfl) ?_
  refine lv_istore (lv' := [(5, .int 0), (4, .int a.toInt8.toInt32), (0, .ref vA), (1, .int a), (2, .int 0), (3, .int 4)]) hx hb dJ1_indexOfChar_4cfef_5 hl (by decide) rfl (fun ls hl => ?_)
  refine lv_iload hx hb dJ1_indexOfChar_4cfef_7 (lv_at hl 0 rfl) ?_
  refine lv_iload_n hx hb dJ1_indexOfChar_4cfef_9 rfl (lv_at hl 5 rfl) ?_
  refine lv_icmp_ge (tgt := 31) hx hb dJ1_indexOfChar_4cfef_10 (by decide) (fun c9 => absurd c9 (by decide)) (fun _ => ?_)
  refine lv_aload_n hx hb dJ1_indexOfChar_4cfef_13 rfl (lv_at hl 2 rfl) ?_
  refine lv_iload hx hb dJ1_indexOfChar_4cfef_14 (lv_at hl 0 rfl) ?_
  refine va_tb hx hb (z_Gbytes hG) hS (z_in (by decide)) (v := .int 102) rfl dJ1_indexOfChar_4cfef_16 ?_
  refine lv_iload hx hb dJ1_indexOfChar_4cfef_17 (lv_at hl 1 rfl) ?_
  refine lv_icmp_ne (tgt := 25) hx hb dJ1_indexOfChar_4cfef_19 (by decide) (fun c_1 => ?_) (fun c_1 => ?_)
  · refine lv_iinc (v := 1) (lv' := [(5, .int 1), (4, .int a.toInt8.toInt32), (0, .ref vA), (1, .int a), (2, .int 0), (3, .int 4)]) hx hb dJ1_indexOfChar_4cfef_25 hl (k := 0) rfl (by decide) (by decide) rfl (fun ls hl => ?_)
    refine lv_goto (tgt := 7) hx hb dJ1_indexOfChar_4cfef_28 (by decide) ?_
    refine lv_iload hx hb dJ1_indexOfChar_4cfef_7 (lv_at hl 0 rfl) ?_
    refine lv_iload_n hx hb dJ1_indexOfChar_4cfef_9 rfl (lv_at hl 5 rfl) ?_
    refine lv_icmp_ge (tgt := 31) hx hb dJ1_indexOfChar_4cfef_10 (by decide) (fun c9 => absurd c9 (by decide)) (fun _ => ?_)
    refine lv_aload_n hx hb dJ1_indexOfChar_4cfef_13 rfl (lv_at hl 2 rfl) ?_
    refine lv_iload hx hb dJ1_indexOfChar_4cfef_14 (lv_at hl 0 rfl) ?_
    refine va_tb hx hb (z_Gbytes hG) hS (z_in (by decide)) (v := .int 99) rfl dJ1_indexOfChar_4cfef_16 ?_
    refine lv_iload hx hb dJ1_indexOfChar_4cfef_17 (lv_at hl 1 rfl) ?_
    refine lv_icmp_ne (tgt := 25) hx hb dJ1_indexOfChar_4cfef_19 (by decide) (fun c_2 => ?_) (fun c_2 => ?_)
    · refine lv_iinc (v := 2) (lv' := [(5, .int 2), (4, .int a.toInt8.toInt32), (0, .ref vA), (1, .int a), (2, .int 0), (3, .int 4)]) hx hb dJ1_indexOfChar_4cfef_25 hl (k := 0) rfl (by decide) (by decide) rfl (fun ls hl => ?_)
      refine lv_goto (tgt := 7) hx hb dJ1_indexOfChar_4cfef_28 (by decide) ?_
      refine lv_iload hx hb dJ1_indexOfChar_4cfef_7 (lv_at hl 0 rfl) ?_
      refine lv_iload_n hx hb dJ1_indexOfChar_4cfef_9 rfl (lv_at hl 5 rfl) ?_
      refine lv_icmp_ge (tgt := 31) hx hb dJ1_indexOfChar_4cfef_10 (by decide) (fun c9 => absurd c9 (by decide)) (fun _ => ?_)
      refine lv_aload_n hx hb dJ1_indexOfChar_4cfef_13 rfl (lv_at hl 2 rfl) ?_
      refine lv_iload hx hb dJ1_indexOfChar_4cfef_14 (lv_at hl 0 rfl) ?_
      refine va_tb hx hb (z_Gbytes hG) hS (z_in (by decide)) (v := .int 116) rfl dJ1_indexOfChar_4cfef_16 ?_
      refine lv_iload hx hb dJ1_indexOfChar_4cfef_17 (lv_at hl 1 rfl) ?_
      refine lv_icmp_ne (tgt := 25) hx hb dJ1_indexOfChar_4cfef_19 (by decide) (fun c_3 => ?_) (fun c_3 => ?_)
      · refine lv_iinc (v := 3) (lv' := [(5, .int 3), (4, .int a.toInt8.toInt32), (0, .ref vA), (1, .int a), (2, .int 0), (3, .int 4)]) hx hb dJ1_indexOfChar_4cfef_25 hl (k := 0) rfl (by decide) (by decide) rfl (fun ls hl => ?_)
        refine lv_goto (tgt := 7) hx hb dJ1_indexOfChar_4cfef_28 (by decide) ?_
        refine lv_iload hx hb dJ1_indexOfChar_4cfef_7 (lv_at hl 0 rfl) ?_
        refine lv_iload_n hx hb dJ1_indexOfChar_4cfef_9 rfl (lv_at hl 5 rfl) ?_
        refine lv_icmp_ge (tgt := 31) hx hb dJ1_indexOfChar_4cfef_10 (by decide) (fun c9 => absurd c9 (by decide)) (fun _ => ?_)
        refine lv_aload_n hx hb dJ1_indexOfChar_4cfef_13 rfl (lv_at hl 2 rfl) ?_
        refine lv_iload hx hb dJ1_indexOfChar_4cfef_14 (lv_at hl 0 rfl) ?_
        refine va_tb hx hb (z_Gbytes hG) hS (z_in (by decide)) (v := .int 119) rfl dJ1_indexOfChar_4cfef_16 ?_
        refine lv_iload hx hb dJ1_indexOfChar_4cfef_17 (lv_at hl 1 rfl) ?_
        refine lv_icmp_ne (tgt := 25) hx hb dJ1_indexOfChar_4cfef_19 (by decide) (fun c_4 => ?_) (fun c_4 => ?_)
        · refine lv_iinc (v := 4) (lv' := [(5, .int 4), (4, .int a.toInt8.toInt32), (0, .ref vA), (1, .int a), (2, .int 0), (3, .int 4)]) hx hb dJ1_indexOfChar_4cfef_25 hl (k := 0) rfl (by decide) (by decide) rfl (fun ls hl => ?_)
          refine lv_goto (tgt := 7) hx hb dJ1_indexOfChar_4cfef_28 (by decide) ?_
          refine lv_iload hx hb dJ1_indexOfChar_4cfef_7 (lv_at hl 0 rfl) ?_
          refine lv_iload_n hx hb dJ1_indexOfChar_4cfef_9 rfl (lv_at hl 5 rfl) ?_
          refine lv_icmp_ge (tgt := 31) hx hb dJ1_indexOfChar_4cfef_10 (by decide) (fun _ => ?_) (fun c9 => absurd c9 (by decide))
          refine lv_iconst (v := (-1)) hx hb dJ1_indexOfChar_4cfef_31 (by decide) ?_
          exact W.iret (v := (-1)) hx hb hr (fun t9 ht hW => ⟨⟨(-1), (), rfl, (by unfold q_J1_indexOfChar_4cfef_r; rw [if_neg c_1, if_neg c_2, if_neg c_3, if_neg c_4]), trivial⟩, hS.F ht⟩) hS.2.2 dJ1_indexOfChar_4cfef_32
        · refine lv_iload hx hb dJ1_indexOfChar_4cfef_22 (lv_at hl 0 rfl) ?_
          exact W.iret (v := 3) hx hb hr (fun t9 ht hW => ⟨⟨3, (), rfl, (by unfold q_J1_indexOfChar_4cfef_r; rw [if_neg c_1, if_neg c_2, if_neg c_3, if_pos c_4]), trivial⟩, hS.F ht⟩) hS.2.2 dJ1_indexOfChar_4cfef_24
      · refine lv_iload hx hb dJ1_indexOfChar_4cfef_22 (lv_at hl 0 rfl) ?_
        exact W.iret (v := 2) hx hb hr (fun t9 ht hW => ⟨⟨2, (), rfl, (by unfold q_J1_indexOfChar_4cfef_r; rw [if_neg c_1, if_neg c_2, if_pos c_3]), trivial⟩, hS.F ht⟩) hS.2.2 dJ1_indexOfChar_4cfef_24
    · refine lv_iload hx hb dJ1_indexOfChar_4cfef_22 (lv_at hl 0 rfl) ?_
      exact W.iret (v := 1) hx hb hr (fun t9 ht hW => ⟨⟨1, (), rfl, (by unfold q_J1_indexOfChar_4cfef_r; rw [if_neg c_1, if_pos c_2]), trivial⟩, hS.F ht⟩) hS.2.2 dJ1_indexOfChar_4cfef_24
  · refine lv_iload hx hb dJ1_indexOfChar_4cfef_22 (lv_at hl 0 rfl) ?_
    exact W.iret (v := 0) hx hb hr (fun t9 ht hW => ⟨⟨0, (), rfl, (by unfold q_J1_indexOfChar_4cfef_r; rw [if_pos c_1]), trivial⟩, hS.F ht⟩) hS.2.2 dJ1_indexOfChar_4cfef_24
def q_J1_indexOf_4cfef_r (a : Int32) : Int32 := (if (q_J1_canEncode_9a6ad_r a) = 0 then (-1 : Int32) else (q_J1_indexOfChar_4cfef_r a))
set_option maxHeartbeats 4000000 in
set_option maxRecDepth 100000 in
theorem c_J1_indexOf_4cfef (l : Launch) (Z : gZ) (sz : Nat) (a : Int32) (kA : Nat) (vA : Nat)  : Met l yJ1_indexOf_4cfef wsJ1_indexOf_4cfef ({ frames := 1, cells := 0, slots := 0, locals := 29 }) (va_Pc [.ref vA, .int a, .int 0, .int 4] (fun U => U.heap.size = sz ∧ va_P Z.1 vwCl [] U.heap ∧ va_K Z.1 vwCl (gT Z) U ∧ va_D (fun _ => True) [] ∧ gS kA vA (va_A [] sz) U)) (va_Qi (fun (r : Int32) (u : Unit) => r = q_J1_indexOf_4cfef_r a) (fun (u : Unit) (t9 : State) => True) (va_A [] sz)) 0 0 (va_A [] sz) := by
  refine Met.ofW (cc := cJ1_indexOf_4cfef) (maxL := 4) (ret := (some .int)) (by decide) rfl ?_
  intro p e s m args below meth c s₁ B hml hv
  obtain ⟨rfl, hsz, hP, hK, hD0, hG⟩ := hv
  have hx := B.exec
  have hb := B.bytes
  have hr := B.returns
  have hts := atoms_spec (ws := wsJ1_indexOf_4cfef) B.pre
  have hown : s.vm.findClass RJ1 = some m.cls := findClass_of_methodNamed B.named
  have hlocks := B.notSynchronized
  subst hsz
  have hD := hD0.self (sz := s.heap.size)
  generalize hAe : va_A [] s.heap.size = A at hD hG ⊢
  have hA : ∀ q : Nat, s.heap.size ≤ q → A q := fun q h => by rw [← hAe]; exact Or.inr h
  have hS : va_S A s.heap s.heap [] := va_S.rf
  have hP : va_P Z.1 vwCl [] s.heap := hP
  have hl := lv_entry ([.ref vA, .int a, .int 0, .int 4]) (n := 4) (Nat.le_of_ble_eq_true rfl)
  rw [lg_entry_eq]
  generalize (lg_sl ([.ref vA, .int a, .int 0, .int 4]) ++ List.replicate (4 - (lg_sl ([.ref vA, .int a, .int 0, .int 4])).length) Slot.unset).toArray = ls at hl ⊢
  have hl : lv_has ls 4 [(0, .ref vA), (1, .int a), (2, .int 0), (3, .int 4)] := hl
  refine lv_iload_n hx hb dJ1_indexOf_4cfef_0 rfl (lv_at hl 1 rfl) ?_
  have hPc := hP.sub (ws' := []) [] rfl
  have hDc := hD.sub (ws' := []) [] (by decide +kernel) rfl
  have hFc := va_free (wc := []) hD hS hA [] rfl
  refine va_calli (va_runS (As := [.int a]) (rest := []) ⟨hx, hb, hml, hown, hts⟩ (c_J1_canEncode_9a6ad l Z s.heap.size a) (va_cwS 1 hts gJ1_indexOf_4cfef_J1_canEncode_9a6ad rfl rfl rfl (by decide +kernel) ⟨Nat.le_of_ble_eq_true rfl, Nat.le_of_ble_eq_true rfl⟩) ⟨fun a U g mk q => by obtain ⟨q0, q1, qP, qK, qD⟩ := q; exact ⟨q0, q1, qP, va_K.moved (u := U) (U := U.calling g mk a) (Vm.Alike.refl U.vm) qK, qD⟩, fun U hU hW => ⟨rfl, by rw [hU], by rw [hU]; exact hPc, va_K.moved hW.alike hK, hDc.weaken (fun _ _ _ _ => trivial)⟩⟩ rfl rfl hl.1 rfl (lv_room (Nat.le_of_ble_eq_true rfl)) dJ1_indexOf_4cfef_1 ⟨Nat.le_of_ble_eq_true rfl, Nat.le_of_ble_eq_true rfl⟩) hS (fun q _ h => hFc q h) hFc (fun r_1 u t9 H1 locs ht hvm hw hB hz1 hk1 hS => ?_)
  have hw9 := hw.symm
  clear hw
  subst hw9
  have hP1 : va_P Z.1 vwCl [] H1 := fun k q h => by simp at h
  have hD1 : va_D (va_A [] s.heap.size) [] := ⟨fun i j p q h => by simp at h, fun k q h => by simp at h⟩
  obtain ⟨hP, hD⟩ := va_join (wr := []) (w1 := []) hP hD [] [] rfl rfl (by decide +kernel) (by decide +kernel) hk1 hFc hP1 hD1
  clear hPc hDc hP1 hD1 hk1 hz1 hFc ht hvm
  generalize H1 = H at hP hS ⊢
  have hP : va_P Z.1 vwCl [] H := hP
  have hD : va_D A [] := hD
  refine lv_if_ne (tgt := 9) hx hb dJ1_indexOf_4cfef_4 (by decide) (fun c_2 => ?_) (fun c_2 => ?_)
  · refine lv_iload_n hx hb dJ1_indexOf_4cfef_9 rfl (lv_at hl 2 rfl) ?_
    refine lv_iconst (v := 0) hx hb dJ1_indexOf_4cfef_10 (by decide) ?_
    refine va_mmax hx hb (hml.trans hl.1.symm) hown (hts (.methodLink RJ1 92 Lib.Math.max.name) (List.mem_of_getElem? (i := 1) rfl)) (hts (.static Lib.Math.max.name) (List.mem_of_getElem? (i := 2) rfl)) (hts (.initialized "java/lang/Math") (List.mem_of_getElem? (i := 3) rfl)) (hts (.code Lib.Math.max.name Lib.Math.max.code 2 (some .int)) (List.mem_of_getElem? (i := 4) rfl)) (Nat.le_of_ble_eq_true rfl) (Nat.le_of_ble_eq_true rfl) (Nat.le_of_ble_eq_true rfl) (Nat.le_of_ble_eq_true rfl) dJ1_indexOf_4cfef_11 ?_
    refine lv_topi (fun f_3 ef_3 => ?_)
    obtain rfl : 0 = f_3 := (ef_3.trans (by decide)).symm
    refine lv_istore_n (lv' := [(2, .int 0), (0, .ref vA), (1, .int a), (3, .int 4)]) hx hb dJ1_indexOf_4cfef_14 rfl hl (by decide) rfl (fun ls hl => ?_)
    refine lv_iload_n hx hb dJ1_indexOf_4cfef_15 rfl (lv_at hl 3 rfl) ?_
    refine lv_aload_n hx hb dJ1_indexOf_4cfef_16 rfl (lv_at hl 1 rfl) ?_
    refine va_tlen hx hb (z_Gbytes hG) hS (v := 4) rfl dJ1_indexOf_4cfef_17 ?_
    refine va_mmin hx hb (hml.trans hl.1.symm) hown (hts (.methodLink RJ1 38 Lib.Math.min.name) (List.mem_of_getElem? (i := 5) rfl)) (hts (.static Lib.Math.min.name) (List.mem_of_getElem? (i := 6) rfl)) (hts (.initialized "java/lang/Math") (List.mem_of_getElem? (i := 3) rfl)) (hts (.code Lib.Math.min.name Lib.Math.min.code 2 (some .int)) (List.mem_of_getElem? (i := 7) rfl)) (Nat.le_of_ble_eq_true rfl) (Nat.le_of_ble_eq_true rfl) (Nat.le_of_ble_eq_true rfl) (Nat.le_of_ble_eq_true rfl) dJ1_indexOf_4cfef_18 ?_
    refine lv_topi (fun f_4 ef_4 => ?_)
    obtain rfl : 4 = f_4 := (ef_4.trans (by decide)).symm
    refine lv_istore_n (lv' := [(3, .int 4), (2, .int 0), (0, .ref vA), (1, .int a)]) hx hb dJ1_indexOf_4cfef_21 rfl hl (by decide) rfl (fun ls hl => ?_)
    refine lv_iload_n hx hb dJ1_indexOf_4cfef_22 rfl (lv_at hl 1 rfl) ?_
    refine lv_iload_n hx hb dJ1_indexOf_4cfef_23 rfl (lv_at hl 0 rfl) ?_
    refine lv_icmp_lt (tgt := 29) hx hb dJ1_indexOf_4cfef_24 (by decide) (fun _ => ?_) (fun c9 => absurd c9 (by decide))
    refine lv_aload_n hx hb dJ1_indexOf_4cfef_29 rfl (lv_at hl 2 rfl) ?_
    refine lv_iload_n hx hb dJ1_indexOf_4cfef_30 rfl (lv_at hl 3 rfl) ?_
    refine lv_iload_n hx hb dJ1_indexOf_4cfef_31 rfl (lv_at hl 1 rfl) ?_
    refine lv_iload_n hx hb dJ1_indexOf_4cfef_32 rfl (lv_at hl 0 rfl) ?_
    have hPc := hP.sub (ws' := []) [] rfl
    have hDc := hD.sub (ws' := []) [] (by decide +kernel) rfl
    have hFc := va_free (wc := []) hD hS hA [] rfl
    refine va_calli (va_runS (As := [.ref vA, .int a, .int 0, .int 4]) (rest := []) ⟨hx, hb, hml, hown, hts⟩ (c_J1_indexOfChar_4cfef l Z H.size a kA vA) (va_cwS 4 hts gJ1_indexOf_4cfef_J1_indexOfChar_4cfef rfl rfl rfl (by decide +kernel) ⟨Nat.le_of_ble_eq_true rfl, Nat.le_of_ble_eq_true rfl⟩) ⟨fun a U g mk q => by obtain ⟨q0, q1, qP, qK, qD, qG⟩ := q; exact ⟨q0, q1, qP, va_K.moved (u := U) (U := U.calling g mk a) (Vm.Alike.refl U.vm) qK, qD, z_Gc (u := U) (U := U.calling g mk a) rfl rfl qG⟩, fun U hU hW => ⟨rfl, by rw [hU], by rw [hU]; exact hPc, va_K.moved hW.alike hK, hDc.weaken (fun _ _ _ _ => trivial), z_G hW hG hS hU hFc⟩⟩ rfl rfl hl.1 rfl (lv_room (Nat.le_of_ble_eq_true rfl)) dJ1_indexOf_4cfef_33 ⟨Nat.le_of_ble_eq_true rfl, Nat.le_of_ble_eq_true rfl⟩) hS (fun q _ h => hFc q h) hFc (fun r_5 u t9 H1 locs ht hvm hw hB hz1 hk1 hS => ?_)
    have hw9 := hw.symm
    clear hw
    subst hw9
    have hP1 : va_P Z.1 vwCl [] H1 := fun k q h => by simp at h
    have hD1 : va_D (va_A [] H.size) [] := ⟨fun i j p q h => by simp at h, fun k q h => by simp at h⟩
    obtain ⟨hP, hD⟩ := va_join (wr := []) (w1 := []) hP hD [] [] rfl rfl (by decide +kernel) (by decide +kernel) hk1 hFc hP1 hD1
    clear hPc hDc hP1 hD1 hk1 hz1 hFc ht hvm
    generalize H1 = H at hP hS ⊢
    have hP : va_P Z.1 vwCl [] H := hP
    have hD : va_D A [] := hD
    exact W.iret (v := (q_J1_indexOfChar_4cfef_r a)) hx hb hr (fun t9 ht hW => ⟨⟨q_J1_indexOfChar_4cfef_r a, (), rfl, (by unfold q_J1_indexOf_4cfef_r; rw [if_neg c_2]), trivial⟩, hS.F ht⟩) hS.2.2 dJ1_indexOf_4cfef_36
  · refine lv_iconst (v := (-1)) hx hb dJ1_indexOf_4cfef_7 (by decide) ?_
    exact W.iret (v := (-1)) hx hb hr (fun t9 ht hW => ⟨⟨(-1), (), rfl, (by unfold q_J1_indexOf_4cfef_r; rw [if_pos c_2]), trivial⟩, hS.F ht⟩) hS.2.2 dJ1_indexOf_4cfef_8
def q_J0_indexOf_7cf53_r (a : Int32) : Int32 := q_J1_indexOf_4cfef_r a
set_option maxHeartbeats 4000000 in
set_option maxRecDepth 100000 in
theorem c_J0_indexOf_7cf53 (l : Launch) (Z : gZ) (sz : Nat) (a : Int32) (kA : Nat) (vA : Nat)  : Met l yJ0_indexOf_7cf53 wsJ0_indexOf_7cf53 ({ frames := 2, cells := 0, slots := 0, locals := 52 }) (va_Pc [.ref kA, .int a, .int 0] (fun U => U.heap.size = sz ∧ va_P Z.1 vwCl [] U.heap ∧ va_K Z.1 vwCl (gT Z) U ∧ va_D (fun _ => True) [] ∧ gS kA vA (va_A [] sz) U)) (va_Qi (fun (r : Int32) (u : Unit) => r = q_J0_indexOf_7cf53_r a) (fun (u : Unit) (t9 : State) => True) (va_A [] sz)) 0 0 (va_A [] sz) := by
  refine Met.ofW (cc := cJ0_indexOf_7cf53) (maxL := 3) (ret := (some .int)) (by decide) rfl ?_
  intro p e s m args below meth c s₁ B hml hv
  obtain ⟨rfl, hsz, hP, hK, hD0, hG⟩ := hv
  have hx := B.exec
  have hb := B.bytes
  have hr := B.returns
  have hts := atoms_spec (ws := wsJ0_indexOf_7cf53) B.pre
  have hown : s.vm.findClass RJ0 = some m.cls := findClass_of_methodNamed B.named
  have hlocks := B.notSynchronized
  subst hsz
  have hD := hD0.self (sz := s.heap.size)
  generalize hAe : va_A [] s.heap.size = A at hD hG ⊢
  have hA : ∀ q : Nat, s.heap.size ≤ q → A q := fun q h => by rw [← hAe]; exact Or.inr h
  have hS : va_S A s.heap s.heap [] := va_S.rf
  have hP : va_P Z.1 vwCl [] s.heap := hP
  have hl := lv_entry ([.ref kA, .int a, .int 0]) (n := 3) (Nat.le_of_ble_eq_true rfl)
  rw [lg_entry_eq]
  generalize (lg_sl ([.ref kA, .int a, .int 0]) ++ List.replicate (3 - (lg_sl ([.ref kA, .int a, .int 0])).length) Slot.unset).toArray = ls at hl ⊢
  have hl : lv_has ls 3 [(0, .ref kA), (1, .int a), (2, .int 0)] := hl
  refine lv_aload_n hx hb dJ0_indexOf_7cf53_0 rfl (lv_at hl 0 rfl) ?_
  have hPc := hP.sub (ws' := []) [] rfl
  have hDc := hD.sub (ws' := []) [] (by decide +kernel) rfl
  have hFc := va_free (wc := []) hD hS hA [] rfl
  refine va_calli (va_runV (As := []) (rest := []) ⟨hx, hb, hml, hown, hts⟩ (c_J0_isLatin1_aae02 l Z s.heap.size kA vA) (cwV 0 hts gJ0_indexOf_7cf53_J0_isLatin1_aae02 rfl rfl rfl (by decide +kernel) ⟨Nat.le_of_ble_eq_true rfl, Nat.le_of_ble_eq_true rfl⟩) ⟨fun a U g mk q => by obtain ⟨q0, q1, qP, qK, qD, qG⟩ := q; exact ⟨q0, q1, qP, va_K.moved (u := U) (U := U.calling g mk a) (Vm.Alike.refl U.vm) qK, qD, z_Gc (u := U) (U := U.calling g mk a) rfl rfl qG⟩, z_recv hG hS, fun U hU hW => ⟨rfl, by rw [hU], by rw [hU]; exact hPc, va_K.moved hW.alike hK, hDc.weaken (fun _ _ _ _ => trivial), z_G hW hG hS hU hFc⟩⟩ rfl rfl hl.1 rfl (lv_room (Nat.le_of_ble_eq_true rfl)) dJ0_indexOf_7cf53_1 ⟨Nat.le_of_ble_eq_true rfl, Nat.le_of_ble_eq_true rfl⟩) hS (fun q _ h => hFc q h) hFc (fun r_1 u t9 H1 locs ht hvm hw hB hz1 hk1 hS => ?_)
  have hw9 := hw.symm
  clear hw
  subst hw9
  have hP1 : va_P Z.1 vwCl [] H1 := fun k q h => by simp at h
  have hD1 : va_D (va_A [] s.heap.size) [] := ⟨fun i j p q h => by simp at h, fun k q h => by simp at h⟩
  obtain ⟨hP, hD⟩ := va_join (wr := []) (w1 := []) hP hD [] [] rfl rfl (by decide +kernel) (by decide +kernel) hk1 hFc hP1 hD1
  clear hPc hDc hP1 hD1 hk1 hz1 hFc ht hvm
  generalize H1 = H at hP hS ⊢
  have hP : va_P Z.1 vwCl [] H := hP
  have hD : va_D A [] := hD
  refine lv_if_eq (tgt := 23) hx hb dJ0_indexOf_7cf53_4 (by decide) (fun c9 => absurd c9 (by decide)) (fun _ => ?_)
  refine lv_aload_n hx hb dJ0_indexOf_7cf53_7 rfl (lv_at hl 0 rfl) ?_
  refine vk_getf hx hb (z_Gvalue hG) hS hown (hts (.fieldLink RJ0 9 "java/lang/String" "value" "[B") (List.mem_of_getElem? (i := 1) rfl)) (fun _ h9 => h9) dJ0_indexOf_7cf53_8 ?_
  refine lv_iload_n hx hb dJ0_indexOf_7cf53_11 rfl (lv_at hl 1 rfl) ?_
  refine lv_iload_n hx hb dJ0_indexOf_7cf53_12 rfl (lv_at hl 2 rfl) ?_
  refine lv_aload_n hx hb dJ0_indexOf_7cf53_13 rfl (lv_at hl 0 rfl) ?_
  have hPc := hP.sub (ws' := []) [] rfl
  have hDc := hD.sub (ws' := []) [] (by decide +kernel) rfl
  have hFc := va_free (wc := []) hD hS hA [] rfl
  refine va_calli (va_runV (As := []) (rest := [.int 0, .int a, .ref vA]) ⟨hx, hb, hml, hown, hts⟩ (c_J0_length_8abf5 l Z H.size kA vA) (cwV 0 hts gJ0_indexOf_7cf53_J0_length_8abf5 rfl rfl rfl (by decide +kernel) ⟨Nat.le_of_ble_eq_true rfl, Nat.le_of_ble_eq_true rfl⟩) ⟨fun a U g mk q => by obtain ⟨q0, q1, qP, qK, qD, qG⟩ := q; exact ⟨q0, q1, qP, va_K.moved (u := U) (U := U.calling g mk a) (Vm.Alike.refl U.vm) qK, qD, z_Gc (u := U) (U := U.calling g mk a) rfl rfl qG⟩, z_recv hG hS, fun U hU hW => ⟨rfl, by rw [hU], by rw [hU]; exact hPc, va_K.moved hW.alike hK, hDc.weaken (fun _ _ _ _ => trivial), z_G hW hG hS hU hFc⟩⟩ rfl rfl hl.1 rfl (lv_room (Nat.le_of_ble_eq_true rfl)) dJ0_indexOf_7cf53_14 ⟨Nat.le_of_ble_eq_true rfl, Nat.le_of_ble_eq_true rfl⟩) hS (fun q _ h => hFc q h) hFc (fun r_2 u t9 H1 locs ht hvm hw hB hz1 hk1 hS => ?_)
  have hw9 := hw.symm
  clear hw
  subst hw9
  have hP1 : va_P Z.1 vwCl [] H1 := fun k q h => by simp at h
  have hD1 : va_D (va_A [] H.size) [] := ⟨fun i j p q h => by simp at h, fun k q h => by simp at h⟩
  obtain ⟨hP, hD⟩ := va_join (wr := []) (w1 := []) hP hD [] [] rfl rfl (by decide +kernel) (by decide +kernel) hk1 hFc hP1 hD1
  clear hPc hDc hP1 hD1 hk1 hz1 hFc ht hvm
  generalize H1 = H at hP hS ⊢
  have hP : va_P Z.1 vwCl [] H := hP
  have hD : va_D A [] := hD
  have hPc := hP.sub (ws' := []) [] rfl
  have hDc := hD.sub (ws' := []) [] (by decide +kernel) rfl
  have hFc := va_free (wc := []) hD hS hA [] rfl
  refine va_calli (va_runS (As := [.ref vA, .int a, .int 0, .int 4]) (rest := []) ⟨hx, hb, hml, hown, hts⟩ (c_J1_indexOf_4cfef l Z H.size a kA vA) (va_cwS 4 hts gJ0_indexOf_7cf53_J1_indexOf_4cfef rfl rfl rfl (by decide +kernel) ⟨Nat.le_of_ble_eq_true rfl, Nat.le_of_ble_eq_true rfl⟩) ⟨fun a U g mk q => by obtain ⟨q0, q1, qP, qK, qD, qG⟩ := q; exact ⟨q0, q1, qP, va_K.moved (u := U) (U := U.calling g mk a) (Vm.Alike.refl U.vm) qK, qD, z_Gc (u := U) (U := U.calling g mk a) rfl rfl qG⟩, fun U hU hW => ⟨rfl, by rw [hU], by rw [hU]; exact hPc, va_K.moved hW.alike hK, hDc.weaken (fun _ _ _ _ => trivial), z_G hW hG hS hU hFc⟩⟩ rfl rfl hl.1 rfl (lv_room (Nat.le_of_ble_eq_true rfl)) dJ0_indexOf_7cf53_17 ⟨Nat.le_of_ble_eq_true rfl, Nat.le_of_ble_eq_true rfl⟩) hS (fun q _ h => hFc q h) hFc (fun r_3 u t9 H1 locs ht hvm hw hB hz1 hk1 hS => ?_)
  have hw9 := hw.symm
  clear hw
  subst hw9
  have hP1 : va_P Z.1 vwCl [] H1 := fun k q h => by simp at h
  have hD1 : va_D (va_A [] H.size) [] := ⟨fun i j p q h => by simp at h, fun k q h => by simp at h⟩
  obtain ⟨hP, hD⟩ := va_join (wr := []) (w1 := []) hP hD [] [] rfl rfl (by decide +kernel) (by decide +kernel) hk1 hFc hP1 hD1
  clear hPc hDc hP1 hD1 hk1 hz1 hFc ht hvm
  generalize H1 = H at hP hS ⊢
  have hP : va_P Z.1 vwCl [] H := hP
  have hD : va_D A [] := hD
  refine lv_goto (tgt := 36) hx hb dJ0_indexOf_7cf53_20 (by decide) ?_
  exact W.iret (v := (q_J1_indexOf_4cfef_r a)) hx hb hr (fun t9 ht hW => ⟨⟨q_J1_indexOf_4cfef_r a, (), rfl, rfl, trivial⟩, hS.F ht⟩) hS.2.2 dJ0_indexOf_7cf53_36
def q_J0_indexOf_0f7a4_r (a : Int32) : Int32 := q_J0_indexOf_7cf53_r a
set_option maxHeartbeats 4000000 in
set_option maxRecDepth 100000 in
theorem c_J0_indexOf_0f7a4 (l : Launch) (Z : gZ) (sz : Nat) (a : Int32) (kA : Nat) (vA : Nat)  : Met l yJ0_indexOf_0f7a4 wsJ0_indexOf_0f7a4 ({ frames := 3, cells := 0, slots := 0, locals := 74 }) (va_Pc [.ref kA, .int a] (fun U => U.heap.size = sz ∧ va_P Z.1 vwCl [] U.heap ∧ va_K Z.1 vwCl (gT Z) U ∧ va_D (fun _ => True) [] ∧ gS kA vA (va_A [] sz) U)) (va_Qi (fun (r : Int32) (u : Unit) => r = q_J0_indexOf_0f7a4_r a) (fun (u : Unit) (t9 : State) => True) (va_A [] sz)) 0 0 (va_A [] sz) := by
  refine Met.ofW (cc := cJ0_indexOf_0f7a4) (maxL := 2) (ret := (some .int)) (by decide) rfl ?_
  intro p e s m args below meth c s₁ B hml hv
  obtain ⟨rfl, hsz, hP, hK, hD0, hG⟩ := hv
  have hx := B.exec
  have hb := B.bytes
  have hr := B.returns
  have hts := atoms_spec (ws := wsJ0_indexOf_0f7a4) B.pre
  have hown : s.vm.findClass RJ0 = some m.cls := findClass_of_methodNamed B.named
  have hlocks := B.notSynchronized
  subst hsz
  have hD := hD0.self (sz := s.heap.size)
  generalize hAe : va_A [] s.heap.size = A at hD hG ⊢
  have hA : ∀ q : Nat, s.heap.size ≤ q → A q := fun q h => by rw [← hAe]; exact Or.inr h
  have hS : va_S A s.heap s.heap [] := va_S.rf
  have hP : va_P Z.1 vwCl [] s.heap := hP
  have hl := lv_entry ([.ref kA, .int a]) (n := 2) (Nat.le_of_ble_eq_true rfl)
  rw [lg_entry_eq]
  generalize (lg_sl ([.ref kA, .int a]) ++ List.replicate (2 - (lg_sl ([.ref kA, .int a])).length) Slot.unset).toArray = ls at hl ⊢
  have hl : lv_has ls 2 [(0, .ref kA), (1, .int a)] := hl
  refine lv_aload_n hx hb dJ0_indexOf_0f7a4_0 rfl (lv_at hl 0 rfl) ?_
  refine lv_iload_n hx hb dJ0_indexOf_0f7a4_1 rfl (lv_at hl 1 rfl) ?_
  refine lv_iconst (v := 0) hx hb dJ0_indexOf_0f7a4_2 (by decide) ?_
  have hPc := hP.sub (ws' := []) [] rfl
  have hDc := hD.sub (ws' := []) [] (by decide +kernel) rfl
  have hFc := va_free (wc := []) hD hS hA [] rfl
  refine va_calli (va_runV (As := [.int a, .int 0]) (rest := []) ⟨hx, hb, hml, hown, hts⟩ (c_J0_indexOf_7cf53 l Z s.heap.size a kA vA) (cwV 2 hts gJ0_indexOf_0f7a4_J0_indexOf_7cf53 rfl rfl rfl (by decide +kernel) ⟨Nat.le_of_ble_eq_true rfl, Nat.le_of_ble_eq_true rfl⟩) ⟨fun a U g mk q => by obtain ⟨q0, q1, qP, qK, qD, qG⟩ := q; exact ⟨q0, q1, qP, va_K.moved (u := U) (U := U.calling g mk a) (Vm.Alike.refl U.vm) qK, qD, z_Gc (u := U) (U := U.calling g mk a) rfl rfl qG⟩, z_recv hG hS, fun U hU hW => ⟨rfl, by rw [hU], by rw [hU]; exact hPc, va_K.moved hW.alike hK, hDc.weaken (fun _ _ _ _ => trivial), z_G hW hG hS hU hFc⟩⟩ rfl rfl hl.1 rfl (lv_room (Nat.le_of_ble_eq_true rfl)) dJ0_indexOf_0f7a4_3 ⟨Nat.le_of_ble_eq_true rfl, Nat.le_of_ble_eq_true rfl⟩) hS (fun q _ h => hFc q h) hFc (fun r_1 u t9 H1 locs ht hvm hw hB hz1 hk1 hS => ?_)
  have hw9 := hw.symm
  clear hw
  subst hw9
  have hP1 : va_P Z.1 vwCl [] H1 := fun k q h => by simp at h
  have hD1 : va_D (va_A [] s.heap.size) [] := ⟨fun i j p q h => by simp at h, fun k q h => by simp at h⟩
  obtain ⟨hP, hD⟩ := va_join (wr := []) (w1 := []) hP hD [] [] rfl rfl (by decide +kernel) (by decide +kernel) hk1 hFc hP1 hD1
  clear hPc hDc hP1 hD1 hk1 hz1 hFc ht hvm
  generalize H1 = H at hP hS ⊢
  have hP : va_P Z.1 vwCl [] H := hP
  have hD : va_D A [] := hD
  exact W.iret (v := (q_J0_indexOf_7cf53_r a)) hx hb hr (fun t9 ht hW => ⟨⟨q_J0_indexOf_7cf53_r a, (), rfl, rfl, trivial⟩, hS.F ht⟩) hS.2.2 dJ0_indexOf_0f7a4_6
theorem z_ix0 {a : Int32} (h : 0 ≤ q_J0_indexOf_0f7a4_r a) : ¬ a = 0 := by
  rintro rfl
  exact absurd h (by decide)
theorem z_m48 {a : Int32} (h : ¬ a - 48 < 0) : ¬ a = 0 := by
  rintro rfl
  exact h (by decide)
theorem z_eq0 {a b : Int32} (h : a = b) (hb : ¬ b = 0) : ¬ a = 0 := by rw [h]; exact hb
/-- every place of a row of signs holds a sign -/
def zC (f : Nat → Int32) : Prop := ∀ j, narrow .char (.int (f j)) = .int (f j)
theorem zC_0 : zC (fun _ => 0) := fun _ => rfl
theorem zC_upd {f : Nat → Int32} {k : Nat} {x : Int32} (h : zC f) : zC (upd f k (vp_nar .char (x.toUInt32 % 65536).toInt32)) := by
  intro j
  by_cases e : j = k
  · subst e; rw [pk_us, pk_vc]; exact pk_nc x
  · rw [pk_un e]; exact h j
set_option maxHeartbeats 4000000 in
set_option maxRecDepth 100000 in
theorem lp_X5_areSigns {p : Program} {l : Launch} {e : Env} {s : State} {m : MethodId} {args : Array Value} {below : List Frame} {meth : Method} {c : Code} {Q : State → Prop} {A : Nat → Prop} (Z : gZ) (w : Int64) (N : Nat) (hN : N ≤ 8) (hx : p.tables.exec = Jvm.exec) (hb : c.code = cX5_areSigns) (hml : c.maxLocals = 6) (hts : ∀ w ∈ wsX5_areSigns, w.before args s = true) (hown : s.vm.findClass RX5 = some m.cls) (hK : va_K Z.1 vwCl (gT Z) s) (hA : ∀ q : Nat, s.heap.size ≤ q → A q) (kx_37 : ∀ (k : Nat) (H : Heap) (locs : List Loc) (ls : Array Slot), (¬ z_all w N) → va_P Z.1 vwCl [] H → va_D A [] → va_S A s.heap H locs → lv_has ls 6 [(0, .long w), (2, .int (nI N)), (3, .int (nI k))] → W p l e ({ frames := 1, cells := 0, slots := 0, locals := 40 } : Room) s m args below meth c H locs 0 0 Q (F0 m 37 ls [])) (kx_45 : ∀ (k : Nat) (H : Heap) (locs : List Loc) (ls : Array Slot), (z_all w N) → va_P Z.1 vwCl [] H → va_D A [] → va_S A s.heap H locs → lv_has ls 6 [(0, .long w), (2, .int (nI N)), (3, .int (nI k))] → W p l e ({ frames := 1, cells := 0, slots := 0, locals := 40 } : Room) s m args below meth c H locs 0 0 Q (F0 m 45 ls [])) : ∀ (fu9 : Nat) (k : Nat), N - k < fu9 → (k ≤ N) → (∀ j, j < k → z_ok w j) → ∀ (H : Heap) (locs : List Loc) (ls : Array Slot), va_P Z.1 vwCl [] H → va_D A [] → va_S A s.heap H locs → lv_has ls 6 [(0, .long w), (2, .int (nI N)), (3, .int (nI k))] → W p l e ({ frames := 1, cells := 0, slots := 0, locals := 40 } : Room) s m args below meth c H locs 0 0 Q (F0 m 2 ls []) := by
  intro fu9
  induction fu9 with
  | zero => intro k hf9; exact absurd hf9 (Nat.not_lt_zero _)
  | succ fu9 ih =>
    intro k hf9 hk hg H locs ls hP hD hS hl
    refine lv_iload_n hx hb dX5_areSigns_2 rfl (lv_at hl 2 rfl) ?_
    refine lv_iload_n hx hb dX5_areSigns_3 rfl (lv_at hl 1 rfl) ?_
    refine lv_icmp_ge (tgt := 45) hx hb dX5_areSigns_4 (by decide) (fun c_1 => ?_) (fun c_1 => ?_)
    · exact kx_45 k H locs ls (by rw [← z_ge hN hk c_1]; exact hg) hP hD hS (lv_sub hl [0, 1, 2] rfl)
    · have hlt : k < N := z_lt hN hk c_1
      refine lv_lload_n hx hb dX5_areSigns_7 rfl (lv_at hl 0 rfl) ?_
      refine lv_bipush (v := 8) hx hb dX5_areSigns_8 (by decide) ?_
      refine lv_iload_n hx hb dX5_areSigns_10 rfl (lv_at hl 2 rfl) ?_
      refine lv_imul hx hb dX5_areSigns_11 ?_
      refine lv_lshr hx hb dX5_areSigns_12 rfl ?_
      refine lv_ldc2 (v := 255) hx hb hown (hts (.constantLong RX5 22 (255)) (List.mem_of_getElem? (i := 1) rfl)) dX5_areSigns_13 ?_
      refine lv_land hx hb dX5_areSigns_16 ?_
      refine lv_lstore (lv' := [(4, .long ((w >>> ((8 * (nI k)).toInt64 &&& 63)) &&& 255)), (0, .long w), (2, .int (nI N)), (3, .int (nI k))]) hx hb dX5_areSigns_17 hl (by decide) rfl (fun ls hl => ?_)
      refine lv_lload hx hb dX5_areSigns_19 (lv_at hl 0 rfl) ?_
      refine lv_ldc2 (v := 32) hx hb hown (hts (.constantLong RX5 24 (32)) (List.mem_of_getElem? (i := 2) rfl)) dX5_areSigns_21 ?_
      refine W.lcmp hx hb dX5_areSigns_24 ?_
      refine lv_if_lt (tgt := 37) hx hb dX5_areSigns_25 (by decide) (fun c_2 => ?_) (fun c_2 => ?_)
      · rw [lg_cmp_lt] at c_2
        exact kx_37 k H locs ls (fun h => (h k hlt).1 c_2) hP hD hS (lv_sub hl [1, 2, 3] rfl)
      · rw [lg_cmp_lt] at c_2
        refine lv_lload hx hb dX5_areSigns_28 (lv_at hl 0 rfl) ?_
        refine lv_ldc2 (v := 126) hx hb hown (hts (.constantLong RX5 26 (126)) (List.mem_of_getElem? (i := 3) rfl)) dX5_areSigns_30 ?_
        refine W.lcmp hx hb dX5_areSigns_33 ?_
        refine lv_if_le (tgt := 39) hx hb dX5_areSigns_34 (by decide) (fun c_3 => ?_) (fun c_3 => ?_)
        · rw [lg_cmp_le] at c_3
          refine lv_iinc (v := nI (k + 1)) (lv' := [(3, .int (nI (k + 1))), (4, .long ((w >>> ((8 * (nI k)).toInt64 &&& 63)) &&& 255)), (0, .long w), (2, .int (nI N))]) hx hb dX5_areSigns_39 hl (k := 3) rfl (nI_1 _) (by decide) rfl (fun ls hl => ?_)
          refine lv_goto (tgt := 2) hx hb dX5_areSigns_42 (by decide) ?_
          exact ih (k + 1) (by omega) (hlt) (lt_s hg ⟨c_2, Int64.not_lt.mpr c_3⟩) H locs ls hP hD hS (lv_sub hl [2, 3, 0] rfl)
        · rw [lg_cmp_le] at c_3
          exact kx_37 k H locs ls (fun h => (h k hlt).2 (Int64.not_le.mp c_3)) hP hD hS (lv_sub hl [1, 2, 3] rfl)
set_option maxHeartbeats 4000000 in
set_option maxRecDepth 100000 in
theorem c_X5_areSigns (l : Launch) (Z : gZ) (sz : Nat) (w : Int64) (N : Nat) (hN : N ≤ 8) : Met l yX5_areSigns wsX5_areSigns ({ frames := 1, cells := 0, slots := 0, locals := 40 }) (va_Pc [.long w, .int (nI N)] (fun U => U.heap.size = sz ∧ va_P Z.1 vwCl [] U.heap ∧ va_K Z.1 vwCl (gT Z) U ∧ va_D (fun _ => True) [])) (va_Qi (fun (r : Int32) (u : Unit) => (r = 1 ∧ z_all w N) ∨ (r = 0 ∧ ¬ z_all w N)) (fun (u : Unit) (t9 : State) => True) (va_A [] sz)) 0 0 (va_A [] sz) := by
  refine Met.ofW (cc := cX5_areSigns) (maxL := 6) (ret := (some .boolean)) (by decide) rfl ?_
  intro p e s m args below meth c s₁ B hml hv
  obtain ⟨rfl, hsz, hP, hK, hD0⟩ := hv
  have hx := B.exec
  have hb := B.bytes
  have hr := B.returns
  have hts := atoms_spec (ws := wsX5_areSigns) B.pre
  have hown : s.vm.findClass RX5 = some m.cls := findClass_of_methodNamed B.named
  have hlocks := B.notSynchronized
  subst hsz
  have hD := hD0.self (sz := s.heap.size)
  generalize hAe : va_A [] s.heap.size = A at hD ⊢
  have hA : ∀ q : Nat, s.heap.size ≤ q → A q := fun q h => by rw [← hAe]; exact Or.inr h
  have hS : va_S A s.heap s.heap [] := va_S.rf
  have hP : va_P Z.1 vwCl [] s.heap := hP
  have hl := lv_entry ([.long w, .int (nI N)]) (n := 6) (Nat.le_of_ble_eq_true rfl)
  rw [lg_entry_eq]
  generalize (lg_sl ([.long w, .int (nI N)]) ++ List.replicate (6 - (lg_sl ([.long w, .int (nI N)])).length) Slot.unset).toArray = ls at hl ⊢
  have hl : lv_has ls 6 [(0, .long w), (2, .int (nI N))] := hl
  refine lv_iconst (v := 0) hx hb dX5_areSigns_0 (by decide) ?_
  refine lv_istore_n (lv' := [(3, .int 0), (0, .long w), (2, .int (nI N))]) hx hb dX5_areSigns_1 rfl hl (by decide) rfl (fun ls hl => ?_)
  refine lp_X5_areSigns Z w N hN hx hb hml hts hown hK hA (fun k H locs ls hz hP hD hS hl => ?_) (fun k H locs ls hz hP hD hS hl => ?_) (N + 1) 0 (by omega) (Nat.zero_le _) (lt_0) s.heap _ ls hP hD hS (lv_sub hl [1, 2, 0] rfl)
  · refine lv_iconst (v := 0) hx hb dX5_areSigns_37 (by decide) ?_
    exact W.zret (v := 0) hx hb hr rfl (fun t9 ht hW => ⟨⟨0, (), rfl, Or.inr ⟨rfl, hz⟩, trivial⟩, hS.F ht⟩) hS.2.2 dX5_areSigns_38
  · refine lv_iconst (v := 1) hx hb dX5_areSigns_45 (by decide) ?_
    exact W.zret (v := 1) hx hb hr rfl (fun t9 ht hW => ⟨⟨1, (), rfl, Or.inl ⟨rfl, hz⟩, trivial⟩, hS.F ht⟩) hS.2.2 dX5_areSigns_46
/-- the sign of w that is i from its end, as the class keeps it -/
def xSg (w : Int64) (i : Nat) : Int32 := vp_nar .char (((((w >>> ((8 * nI i).toInt64 &&& 63)) &&& 255).toInt32).toUInt32 % 65536).toInt32)
/-- of a tape g0 of t signs, N more coming, k are there -/
def xTa (g0 g : Nat → Int32) (w : Int64) (t N k : Nat) : Prop := (∀ z, ¬ (t ≤ z ∧ z < k) → g z = g0 z) ∧ ∀ z, t ≤ z → z < k → g z = xSg w (t + N - 1 - z)
theorem xTa_s {g0 g : Nat → Int32} {w : Int64} {t N k q : Nat} (h : xTa g0 g w t N k) (hk : k + (q + 1) = t + N) (ht : t ≤ k) (h8 : t + N ≤ 80) : xTa g0 (upd g ((nI k).toNatClampNeg) (xSg w q)) w t N (k + 1) := by
  rw [nI_clamp (by omega)]
  refine ⟨fun z hz => ?_, fun z h1 h2 => ?_⟩
  · rw [pk_un (by omega)]; exact h.1 z (fun q => hz ⟨q.1, by omega⟩)
  · rcases Nat.lt_or_ge z k with e | e
    · rw [pk_un (by omega)]; exact h.2 z h1 e
    · obtain rfl : z = k := by omega
      rw [pk_us, show t + N - 1 - z = q by omega]
set_option maxHeartbeats 4000000 in
set_option maxRecDepth 100000 in
theorem lp_X5_add {p : Program} {l : Launch} {e : Env} {s : State} {m : MethodId} {args : Array Value} {below : List Frame} {meth : Method} {c : Code} {Q : State → Prop} {A : Nat → Prop} (Z : gZ) (h0 : Nat) (tk : Nat) (t : Nat) (x0 : Int32) (w : Int64) (N : Nat) (g0 : Nat → Int32) (hN : N ≤ 8) (ht : t + N ≤ 80) (hx : p.tables.exec = Jvm.exec) (hb : c.code = cX5_add) (hml : c.maxLocals = 5) (hts : ∀ w ∈ wsX5_add, w.before args s = true) (hown : s.vm.findClass RX5 = some m.cls) (hK : va_K Z.1 vwCl (gT Z) s) (hA : ∀ q : Nat, s.heap.size ≤ q → A q) (kx_57 : ∀ (k : Nat) (j : Nat) (x : Int32) (g : Nat → Int32) (H : Heap) (locs : List Loc) (ls : Array Slot), (k = t + N) → (zC g) → (xTa g0 g w t N k) → va_P Z.1 vwCl [(h0, .inr (5, [.int (nI k), .int x0, .ref tk])), (tk, .inl (Z.2 1, 80, .inl g))] H → va_D A [(h0, .inr (5, [.int (nI k), .int x0, .ref tk])), (tk, .inl (Z.2 1, 80, .inl g))] → va_S A s.heap H locs → lv_has ls 5 [(0, .ref h0), (1, .long w), (3, .int (nI N)), (4, .int x)] → W p l e ({ frames := 1, cells := 0, slots := 0, locals := 40 } : Room) s m args below meth c H locs 0 0 Q (F0 m 57 ls [])) : ∀ (fu9 : Nat) (k : Nat) (j : Nat) (x : Int32) (g : Nat → Int32), j < fu9 → (k + j = t + N) → (t ≤ k) → (z_dn j x) → (zC g) → (xTa g0 g w t N k) → ∀ (H : Heap) (locs : List Loc) (ls : Array Slot), va_P Z.1 vwCl [(h0, .inr (5, [.int (nI k), .int x0, .ref tk])), (tk, .inl (Z.2 1, 80, .inl g))] H → va_D A [(h0, .inr (5, [.int (nI k), .int x0, .ref tk])), (tk, .inl (Z.2 1, 80, .inl g))] → va_S A s.heap H locs → lv_has ls 5 [(0, .ref h0), (1, .long w), (3, .int (nI N)), (4, .int x)] → W p l e ({ frames := 1, cells := 0, slots := 0, locals := 40 } : Room) s m args below meth c H locs 0 0 Q (F0 m 5 ls []) := by
  have hin5 : ∀ w ∈ wsX50, w ∈ wsX5_add := fun w h9 => (List.mem_cons_of_mem _ (List.mem_append_right _ h9))
  intro fu9
  induction fu9 with
  | zero => intro k j x g hf9; exact absurd hf9 (Nat.not_lt_zero _)
  | succ fu9 ih =>
    intro k j x g hf9 hkj htk hx0 hg hxt H locs ls hP hD hS hl
    rcases hx0 with ⟨rfl, rfl⟩ | ⟨q, rfl, rfl⟩
    · refine lv_iload hx hb dX5_add_5 (lv_at hl 3 rfl) ?_
      refine lv_if_lt (tgt := 57) hx hb dX5_add_7 (by decide) (fun _ => ?_) (fun c9 => absurd c9 (by decide))
      exact kx_57 k 0 (-1) g H locs ls (by omega) (hg) (hxt) hP hD hS (lv_sub hl [0, 1, 2, 3] rfl)
    · refine lv_iload hx hb dX5_add_5 (lv_at hl 3 rfl) ?_
      refine lv_if_lt (tgt := 57) hx hb dX5_add_7 (by decide) (fun c9 => absurd c9 (nI_pos (by omega))) (fun _ => ?_)
      refine lv_aload_n hx hb dX5_add_10 rfl (lv_at hl 0 rfl) ?_
      refine va_get (D := Z.1) (ci := 5) (v := .int (nI k)) (C := RX5) (T := TX5) (N := 3) hx hb hts hin5 hown hK hP 0 rfl rfl 0 (by decide) (hts (.fieldLink RX5 9 "HalfAsked$Tape" "size" "I") (List.mem_of_getElem? (i := 1) rfl)) (fun _ h9 => h9) rfl dX5_add_11 ?_
      refine lv_bipush (v := 80) hx hb dX5_add_14 (by decide) ?_
      refine lv_icmp_ge (tgt := 57) hx hb dX5_add_16 (by decide) (fun c9 => absurd c9 (nI_ge (a := k) (b := 80) (by omega) (by decide))) (fun _ => ?_)
      refine lv_aload_n hx hb dX5_add_19 rfl (lv_at hl 0 rfl) ?_
      refine va_get (D := Z.1) (ci := 5) (v := .ref tk) (C := RX5) (T := TX5) (N := 3) hx hb hts hin5 hown hK hP 0 rfl rfl 2 (by decide) (hts (.fieldLink RX5 18 "HalfAsked$Tape" "signs" "[C") (List.mem_of_getElem? (i := 2) rfl)) (fun _ h9 => h9) rfl dX5_add_20 ?_
      refine lv_aload_n hx hb dX5_add_23 rfl (lv_at hl 0 rfl) ?_
      refine va_get (D := Z.1) (ci := 5) (v := .int (nI k)) (C := RX5) (T := TX5) (N := 3) hx hb hts hin5 hown hK hP 0 rfl rfl 0 (by decide) (hts (.fieldLink RX5 9 "HalfAsked$Tape" "size" "I") (List.mem_of_getElem? (i := 1) rfl)) (fun _ h9 => h9) rfl dX5_add_24 ?_
      refine lv_lload_n hx hb dX5_add_27 rfl (lv_at hl 1 rfl) ?_
      refine lv_bipush (v := 8) hx hb dX5_add_28 (by decide) ?_
      refine lv_iload hx hb dX5_add_30 (lv_at hl 3 rfl) ?_
      refine lv_imul hx hb dX5_add_32 ?_
      refine lv_lshr hx hb dX5_add_33 rfl ?_
      refine lv_ldc2 (v := 255) hx hb hown (hts (.constantLong RX5 22 (255)) (List.mem_of_getElem? (i := 3) rfl)) dX5_add_34 ?_
      refine lv_land hx hb dX5_add_37 ?_
      refine lv_l2i hx hb dX5_add_38 rfl ?_
      refine lv_i2c hx hb dX5_add_39 rfl ?_
      refine va_cast hx hb hK hP hD hS 1 1 rfl rfl (vp_in_nI (by omega) (by decide)) dX5_add_40 (fun H locs hP hD hS => ?_)
      have hP : va_P Z.1 vwCl [(h0, .inr (5, [.int (nI k), .int x0, .ref tk])), (tk, .inl (Z.2 1, 80, .inl (upd g ((nI k).toNatClampNeg) (vp_nar .char (((((w >>> ((8 * (nI q)).toInt64 &&& 63)) &&& 255).toInt32).toUInt32 % 65536).toInt32)))))] H := hP
      have hD : va_D A [(h0, .inr (5, [.int (nI k), .int x0, .ref tk])), (tk, .inl (Z.2 1, 80, .inl (upd g ((nI k).toNatClampNeg) (vp_nar .char (((((w >>> ((8 * (nI q)).toInt64 &&& 63)) &&& 255).toInt32).toUInt32 % 65536).toInt32)))))] := hD
      have hCg_1 : zC (upd g ((nI k).toNatClampNeg) (vp_nar .char (((((w >>> ((8 * (nI q)).toInt64 &&& 63)) &&& 255).toInt32).toUInt32 % 65536).toInt32))) := zC_upd hg
      have hXg_1 : xTa g0 (upd g ((nI k).toNatClampNeg) (vp_nar .char (((((w >>> ((8 * (nI q)).toInt64 &&& 63)) &&& 255).toInt32).toUInt32 % 65536).toInt32))) w t N (k + 1) := xTa_s hxt (by omega) htk ht
      generalize (upd g ((nI k).toNatClampNeg) (vp_nar .char (((((w >>> ((8 * (nI q)).toInt64 &&& 63)) &&& 255).toInt32).toUInt32 % 65536).toInt32)) : Nat → Int32) = g_1 at hP hD hCg_1 hXg_1
      refine lv_aload_n hx hb dX5_add_41 rfl (lv_at hl 0 rfl) ?_
      refine lv_dup hx hb dX5_add_42 rfl ?_
      refine va_get (D := Z.1) (ci := 5) (v := .int (nI k)) (C := RX5) (T := TX5) (N := 3) hx hb hts hin5 hown hK hP 0 rfl rfl 0 (by decide) (hts (.fieldLink RX5 9 "HalfAsked$Tape" "size" "I") (List.mem_of_getElem? (i := 1) rfl)) (fun _ h9 => h9) rfl dX5_add_43 ?_
      refine lv_iconst (v := 1) hx hb dX5_add_46 (by decide) ?_
      refine lv_iadd hx hb dX5_add_47 ?_
      refine lv_topi (fun f_2 ef_2 => ?_)
      obtain rfl : nI (k + 1) = f_2 := (ef_2.trans (nI_1 _)).symm
      refine va_put (D := Z.1) (ci := 5) (v := .int (nI (k + 1))) (ty := .int) (C := RX5) (T := TX5) (N := 3) hx hb hts hin5 tyX5 tyX5_ok nmX5 hown hK hP hD hS 0 rfl rfl 0 (by decide) (hts (.fieldLink RX5 9 "HalfAsked$Tape" "size" "I") (List.mem_of_getElem? (i := 1) rfl)) (fun _ h9 => h9) rfl (by decide +kernel) rfl rfl (Nat.le_of_ble_eq_true rfl) dX5_add_48 (fun H locs hP hD hS => ?_)
      have hP : va_P Z.1 vwCl [(h0, .inr (5, [.int (nI (k + 1)), .int x0, .ref tk])), (tk, .inl (Z.2 1, 80, .inl g_1))] H := hP
      have hD : va_D A [(h0, .inr (5, [.int (nI (k + 1)), .int x0, .ref tk])), (tk, .inl (Z.2 1, 80, .inl g_1))] := hD
      refine lv_iinc (v := nI q + (-1)) (lv' := [(4, .int (nI q + (-1))), (0, .ref h0), (1, .long w), (3, .int (nI N))]) hx hb dX5_add_51 hl (k := 3) rfl rfl (by decide) rfl (fun ls hl => ?_)
      refine lv_goto (tgt := 5) hx hb dX5_add_54 (by decide) ?_
      exact ih (k + 1) q (nI q + (-1)) g_1 (by omega) (by omega) (by omega) (z_dn_step q) (hCg_1) (hXg_1) H locs ls hP hD hS (lv_sub hl [1, 2, 3, 0] rfl)
set_option maxHeartbeats 4000000 in
set_option maxRecDepth 100000 in
theorem c_X5_add (l : Launch) (Z : gZ) (sz : Nat) (h0 : Nat) (tk : Nat) (t : Nat) (x0 : Int32) (g : Nat → Int32) (w : Int64) (N : Nat) (hN : N ≤ 8) (ht : t + N ≤ 80) (hg : zC g) : Met l yX5_add wsX5_add ({ frames := 1, cells := 0, slots := 0, locals := 40 }) (va_Pc [.ref h0, .long w, .int (nI N)] (fun U => U.heap.size = sz ∧ va_P Z.1 vwCl [(h0, .inr (5, [.int (nI t), .int x0, .ref tk])), (tk, .inl (Z.2 1, 80, .inl g))] U.heap ∧ va_K Z.1 vwCl (gT Z) U ∧ va_D (fun _ => True) [(h0, .inr (5, [.int (nI t), .int x0, .ref tk])), (tk, .inl (Z.2 1, 80, .inl g))])) (va_Qv (fun (u : (Nat → Int32)) => match u with | g1 => zC g1 ∧ xTa g g1 w t N (t + N)) (fun (u : (Nat → Int32)) (t9 : State) => match u with | g1 => va_P Z.1 vwCl [(h0, .inr (5, [.int (nI (t + N)), .int x0, .ref tk])), (tk, .inl (Z.2 1, 80, .inl g1))] t9.heap ∧ va_D (va_A [(h0, .inr (5, [.int (nI t), .int x0, .ref tk])), (tk, .inl (Z.2 1, 80, .inl g))] sz) [(h0, .inr (5, [.int (nI (t + N)), .int x0, .ref tk])), (tk, .inl (Z.2 1, 80, .inl g1))]) (va_A [(h0, .inr (5, [.int (nI t), .int x0, .ref tk])), (tk, .inl (Z.2 1, 80, .inl g))] sz)) 0 0 (va_A [(h0, .inr (5, [.int (nI t), .int x0, .ref tk])), (tk, .inl (Z.2 1, 80, .inl g))] sz) := by
  refine Met.ofW (cc := cX5_add) (maxL := 5) (ret := none) (by decide) rfl ?_
  intro p e s m args below meth c s₁ B hml hv
  obtain ⟨rfl, hsz, hP, hK, hD0⟩ := hv
  have hx := B.exec
  have hb := B.bytes
  have hr := B.returns
  have hts := atoms_spec (ws := wsX5_add) B.pre
  have hown : s.vm.findClass RX5 = some m.cls := findClass_of_methodNamed B.named
  have hlocks := B.notSynchronized
  subst hsz
  have hD := hD0.self (sz := s.heap.size)
  generalize hAe : va_A [(h0, .inr (5, [.int (nI t), .int x0, .ref tk])), (tk, .inl (Z.2 1, 80, .inl g))] s.heap.size = A at hD ⊢
  have hA : ∀ q : Nat, s.heap.size ≤ q → A q := fun q h => by rw [← hAe]; exact Or.inr h
  have hS : va_S A s.heap s.heap [] := va_S.rf
  have hP : va_P Z.1 vwCl [(h0, .inr (5, [.int (nI t), .int x0, .ref tk])), (tk, .inl (Z.2 1, 80, .inl g))] s.heap := hP
  have hl := lv_entry ([.ref h0, .long w, .int (nI N)]) (n := 5) (Nat.le_of_ble_eq_true rfl)
  rw [lg_entry_eq]
  generalize (lg_sl ([.ref h0, .long w, .int (nI N)]) ++ List.replicate (5 - (lg_sl ([.ref h0, .long w, .int (nI N)])).length) Slot.unset).toArray = ls at hl ⊢
  have hl : lv_has ls 5 [(0, .ref h0), (1, .long w), (3, .int (nI N))] := hl
  refine lv_iload_n hx hb dX5_add_0 rfl (lv_at hl 2 rfl) ?_
  refine lv_iconst (v := 1) hx hb dX5_add_1 (by decide) ?_
  refine lv_isub hx hb dX5_add_2 ?_
  refine lv_istore (lv' := [(4, .int ((nI N) - 1)), (0, .ref h0), (1, .long w), (3, .int (nI N))]) hx hb dX5_add_3 hl (by decide) rfl (fun ls hl => ?_)
  refine lp_X5_add Z h0 tk t x0 w N g hN ht hx hb hml hts hown hK hA (fun k j x g' H locs ls hz hg' hxt hP hD hS hl => ?_) (N + 1) t N (nI N - 1) g (by omega) (by omega) (Nat.le_refl _) (z_dn_start N) (hg) (⟨fun z _ => rfl, fun z h1 h2 => absurd h2 (by omega)⟩) s.heap _ ls hP hD hS (lv_sub hl [1, 2, 3, 0] rfl)
  subst hz
  have hP9 := hP.sub (ws' := [(h0, .inr (5, [.int (nI (t + N)), .int x0, .ref tk])), (tk, .inl (Z.2 1, 80, .inl g'))]) [0, 1] rfl
  have hD9 := hD.sub (ws' := [(h0, .inr (5, [.int (nI (t + N)), .int x0, .ref tk])), (tk, .inl (Z.2 1, 80, .inl g'))]) [0, 1] (by decide +kernel) rfl
  exact W.vret hx hb hr (fun t9 ht hW => ⟨⟨g', rfl, ⟨hg', hxt⟩, by rw [ht]; exact hP9, hD9⟩, hS.F ht⟩) hS.2.2 dX5_add_57
def ql_X5_skipBlanks (n : Nat) (f : Nat → Int32) : Nat → Nat → Nat
  | 0, ps => (ps)
  | fu9 + 1, ps => (if (nI n) ≤ (nI ps) then (ps) else (if (f (nI ps).toNatClampNeg) = 32 then ql_X5_skipBlanks n f fu9 (ps + 1) else (ps)))
set_option maxHeartbeats 4000000 in
set_option maxRecDepth 100000 in
theorem lp_X5_skipBlanks {p : Program} {l : Launch} {e : Env} {s : State} {m : MethodId} {args : Array Value} {below : List Frame} {meth : Method} {c : Code} {Q : State → Prop} {A : Nat → Prop} (Z : gZ) (h0 : Nat) (tk : Nat) (n : Nat) (f : Nat → Int32) (p0 : Nat) (T9 : Nat) (hn : n ≤ 80) (hx : p.tables.exec = Jvm.exec) (hb : c.code = cX5_skipBlanks) (hml : c.maxLocals = 1) (hts : ∀ w ∈ wsX5_skipBlanks, w.before args s = true) (hown : s.vm.findClass RX5 = some m.cls) (hK : va_K Z.1 vwCl (gT Z) s) (hA : ∀ q : Nat, s.heap.size ≤ q → A q) (kx_38 : ∀ (ps : Nat) (H : Heap) (locs : List Loc) (ls : Array Slot), (ps ≤ n) → (p0 ≤ ps) → (T9 = (ps)) → va_P Z.1 vwCl [(h0, .inr (5, [.int (nI n), .int (nI ps), .ref tk])), (tk, .inl (Z.2 1, 80, .inl f))] H → va_D A [(h0, .inr (5, [.int (nI n), .int (nI ps), .ref tk])), (tk, .inl (Z.2 1, 80, .inl f))] → va_S A s.heap H locs → lv_has ls 1 [(0, .ref h0)] → W p l e ({ frames := 0, cells := 0, slots := 0, locals := 0 } : Room) s m args below meth c H locs 0 0 Q (F0 m 38 ls [])) : ∀ (fu9 : Nat) (ps : Nat), n - ps < fu9 → (ps ≤ n) → (p0 ≤ ps) → (ql_X5_skipBlanks n f fu9 ps = T9) → ∀ (H : Heap) (locs : List Loc) (ls : Array Slot), va_P Z.1 vwCl [(h0, .inr (5, [.int (nI n), .int (nI ps), .ref tk])), (tk, .inl (Z.2 1, 80, .inl f))] H → va_D A [(h0, .inr (5, [.int (nI n), .int (nI ps), .ref tk])), (tk, .inl (Z.2 1, 80, .inl f))] → va_S A s.heap H locs → lv_has ls 1 [(0, .ref h0)] → W p l e ({ frames := 0, cells := 0, slots := 0, locals := 0 } : Room) s m args below meth c H locs 0 0 Q (F0 m 0 ls []) := by
  have hin5 : ∀ w ∈ wsX50, w ∈ wsX5_skipBlanks := fun w h9 => (List.mem_cons_of_mem _ (List.mem_append_right _ h9))
  intro fu9
  induction fu9 with
  | zero => intro ps hf9; exact absurd hf9 (Nat.not_lt_zero _)
  | succ fu9 ih =>
    intro ps hf9 hp hp0 hT9 H locs ls hP hD hS hl
    refine lv_aload_n hx hb dX5_skipBlanks_0 rfl (lv_at hl 0 rfl) ?_
    refine va_get (D := Z.1) (ci := 5) (v := .int (nI ps)) (C := RX5) (T := TX5) (N := 3) hx hb hts hin5 hown hK hP 0 rfl rfl 1 (by decide) (hts (.fieldLink RX5 15 "HalfAsked$Tape" "at" "I") (List.mem_of_getElem? (i := 1) rfl)) (fun _ h9 => h9) rfl dX5_skipBlanks_1 ?_
    refine lv_aload_n hx hb dX5_skipBlanks_4 rfl (lv_at hl 0 rfl) ?_
    refine va_get (D := Z.1) (ci := 5) (v := .int (nI n)) (C := RX5) (T := TX5) (N := 3) hx hb hts hin5 hown hK hP 0 rfl rfl 0 (by decide) (hts (.fieldLink RX5 9 "HalfAsked$Tape" "size" "I") (List.mem_of_getElem? (i := 2) rfl)) (fun _ h9 => h9) rfl dX5_skipBlanks_5 ?_
    refine lv_icmp_ge (tgt := 38) hx hb dX5_skipBlanks_8 (by decide) (fun c_1 => ?_) (fun c_1 => ?_)
    · exact kx_38 ps H locs ls (hp) (hp0) (by have h8 := hT9; rw [ql_X5_skipBlanks, if_pos c_1] at h8; exact h8.symm) hP hD hS (lv_sub hl [0] rfl)
    · have hlt : ps < n := z_clt (by omega) hp c_1
      refine lv_aload_n hx hb dX5_skipBlanks_11 rfl (lv_at hl 0 rfl) ?_
      refine va_get (D := Z.1) (ci := 5) (v := .ref tk) (C := RX5) (T := TX5) (N := 3) hx hb hts hin5 hown hK hP 0 rfl rfl 2 (by decide) (hts (.fieldLink RX5 18 "HalfAsked$Tape" "signs" "[C") (List.mem_of_getElem? (i := 3) rfl)) (fun _ h9 => h9) rfl dX5_skipBlanks_12 ?_
      refine lv_aload_n hx hb dX5_skipBlanks_15 rfl (lv_at hl 0 rfl) ?_
      refine va_get (D := Z.1) (ci := 5) (v := .int (nI ps)) (C := RX5) (T := TX5) (N := 3) hx hb hts hin5 hown hK hP 0 rfl rfl 1 (by decide) (hts (.fieldLink RX5 15 "HalfAsked$Tape" "at" "I") (List.mem_of_getElem? (i := 1) rfl)) (fun _ h9 => h9) rfl dX5_skipBlanks_16 ?_
      refine va_cald hx hb hK hP 1 1 rfl rfl (vp_in_nI (by omega) (by decide)) dX5_skipBlanks_19 ?_
      refine lv_bipush (v := 32) hx hb dX5_skipBlanks_20 (by decide) ?_
      refine lv_icmp_ne (tgt := 38) hx hb dX5_skipBlanks_22 (by decide) (fun c_2 => ?_) (fun c_2 => ?_)
      · exact kx_38 ps H locs ls (hp) (hp0) (by have h8 := hT9; rw [ql_X5_skipBlanks, if_neg c_1, if_neg c_2] at h8; exact h8.symm) hP hD hS (lv_sub hl [0] rfl)
      · refine lv_aload_n hx hb dX5_skipBlanks_25 rfl (lv_at hl 0 rfl) ?_
        refine lv_dup hx hb dX5_skipBlanks_26 rfl ?_
        refine va_get (D := Z.1) (ci := 5) (v := .int (nI ps)) (C := RX5) (T := TX5) (N := 3) hx hb hts hin5 hown hK hP 0 rfl rfl 1 (by decide) (hts (.fieldLink RX5 15 "HalfAsked$Tape" "at" "I") (List.mem_of_getElem? (i := 1) rfl)) (fun _ h9 => h9) rfl dX5_skipBlanks_27 ?_
        refine lv_iconst (v := 1) hx hb dX5_skipBlanks_30 (by decide) ?_
        refine lv_iadd hx hb dX5_skipBlanks_31 ?_
        refine lv_topi (fun f_3 ef_3 => ?_)
        obtain rfl : nI (ps + 1) = f_3 := (ef_3.trans (nI_1 _)).symm
        refine va_put (D := Z.1) (ci := 5) (v := .int (nI (ps + 1))) (ty := .int) (C := RX5) (T := TX5) (N := 3) hx hb hts hin5 tyX5 tyX5_ok nmX5 hown hK hP hD hS 0 rfl rfl 1 (by decide) (hts (.fieldLink RX5 15 "HalfAsked$Tape" "at" "I") (List.mem_of_getElem? (i := 1) rfl)) (fun _ h9 => h9) rfl (by decide +kernel) rfl rfl (Nat.le_of_ble_eq_true rfl) dX5_skipBlanks_32 (fun H locs hP hD hS => ?_)
        have hP : va_P Z.1 vwCl [(h0, .inr (5, [.int (nI n), .int (nI (ps + 1)), .ref tk])), (tk, .inl (Z.2 1, 80, .inl f))] H := hP
        have hD : va_D A [(h0, .inr (5, [.int (nI n), .int (nI (ps + 1)), .ref tk])), (tk, .inl (Z.2 1, 80, .inl f))] := hD
        refine lv_goto (tgt := 0) hx hb dX5_skipBlanks_35 (by decide) ?_
        exact ih (ps + 1) (by omega) (hlt) (by omega) (by have h8 := hT9; rw [ql_X5_skipBlanks, if_neg c_1, if_pos c_2] at h8; exact h8) H locs ls hP hD hS (lv_sub hl [0] rfl)
def q_X5_skipBlanks_p1 (n : Nat) (ps : Nat) (f : Nat → Int32) : Nat := (ql_X5_skipBlanks n f (n + 1) ps)
set_option maxHeartbeats 4000000 in
set_option maxRecDepth 100000 in
theorem c_X5_skipBlanks (l : Launch) (Z : gZ) (sz : Nat) (h0 : Nat) (tk : Nat) (n : Nat) (ps : Nat) (f : Nat → Int32) (hn : n ≤ 80) (hp : ps ≤ n) (hc : zC f) : Met l yX5_skipBlanks wsX5_skipBlanks ({ frames := 0, cells := 0, slots := 0, locals := 0 }) (va_Pc [.ref h0] (fun U => U.heap.size = sz ∧ va_P Z.1 vwCl [(h0, .inr (5, [.int (nI n), .int (nI ps), .ref tk])), (tk, .inl (Z.2 1, 80, .inl f))] U.heap ∧ va_K Z.1 vwCl (gT Z) U ∧ va_D (fun _ => True) [(h0, .inr (5, [.int (nI n), .int (nI ps), .ref tk])), (tk, .inl (Z.2 1, 80, .inl f))])) (va_Qv (fun (u : Nat) => match u with | p1 => q_X5_skipBlanks_p1 n ps f = p1 ∧ (ps ≤ p1 ∧ p1 ≤ n)) (fun (u : Nat) (t9 : State) => match u with | p1 => va_P Z.1 vwCl [(h0, .inr (5, [.int (nI n), .int (nI p1), .ref tk])), (tk, .inl (Z.2 1, 80, .inl f))] t9.heap ∧ va_D (va_A [(h0, .inr (5, [.int (nI n), .int (nI ps), .ref tk])), (tk, .inl (Z.2 1, 80, .inl f))] sz) [(h0, .inr (5, [.int (nI n), .int (nI p1), .ref tk])), (tk, .inl (Z.2 1, 80, .inl f))]) (va_A [(h0, .inr (5, [.int (nI n), .int (nI ps), .ref tk])), (tk, .inl (Z.2 1, 80, .inl f))] sz)) 0 0 (va_A [(h0, .inr (5, [.int (nI n), .int (nI ps), .ref tk])), (tk, .inl (Z.2 1, 80, .inl f))] sz) := by
  refine Met.ofW (cc := cX5_skipBlanks) (maxL := 1) (ret := none) (by decide) rfl ?_
  intro p e s m args below meth c s₁ B hml hv
  obtain ⟨rfl, hsz, hP, hK, hD0⟩ := hv
  have hx := B.exec
  have hb := B.bytes
  have hr := B.returns
  have hts := atoms_spec (ws := wsX5_skipBlanks) B.pre
  have hown : s.vm.findClass RX5 = some m.cls := findClass_of_methodNamed B.named
  have hlocks := B.notSynchronized
  subst hsz
  have hD := hD0.self (sz := s.heap.size)
  generalize hAe : va_A [(h0, .inr (5, [.int (nI n), .int (nI ps), .ref tk])), (tk, .inl (Z.2 1, 80, .inl f))] s.heap.size = A at hD ⊢
  have hA : ∀ q : Nat, s.heap.size ≤ q → A q := fun q h => by rw [← hAe]; exact Or.inr h
  have hS : va_S A s.heap s.heap [] := va_S.rf
  have hP : va_P Z.1 vwCl [(h0, .inr (5, [.int (nI n), .int (nI ps), .ref tk])), (tk, .inl (Z.2 1, 80, .inl f))] s.heap := hP
  have hl := lv_entry ([.ref h0]) (n := 1) (Nat.le_of_ble_eq_true rfl)
  rw [lg_entry_eq]
  generalize (lg_sl ([.ref h0]) ++ List.replicate (1 - (lg_sl ([.ref h0])).length) Slot.unset).toArray = ls at hl ⊢
  have hl : lv_has ls 1 [(0, .ref h0)] := hl
  refine lp_X5_skipBlanks Z h0 tk n f ps (ql_X5_skipBlanks n f (n + 1) ps) hn hx hb hml hts hown hK hA (fun p1 H locs ls hq hp0 hT9_0 hP hD hS hl => ?_) (n + 1) ps (by omega) (hp) (Nat.le_refl _) (rfl) s.heap _ ls hP hD hS (lv_sub hl [0] rfl)
  have e9p1 : (ql_X5_skipBlanks n f (n + 1) ps) = p1 := by rw [hT9_0]
  subst e9p1
  have hP : va_P Z.1 vwCl [(h0, .inr (5, [.int (nI n), .int (nI (ql_X5_skipBlanks n f (n + 1) ps)), .ref tk])), (tk, .inl (Z.2 1, 80, .inl f))] H := hP
  have hD : va_D A [(h0, .inr (5, [.int (nI n), .int (nI (ql_X5_skipBlanks n f (n + 1) ps)), .ref tk])), (tk, .inl (Z.2 1, 80, .inl f))] := hD
  have hP9 := hP.sub (ws' := [(h0, .inr (5, [.int (nI n), .int (nI (ql_X5_skipBlanks n f (n + 1) ps)), .ref tk])), (tk, .inl (Z.2 1, 80, .inl f))]) [0, 1] rfl
  have hD9 := hD.sub (ws' := [(h0, .inr (5, [.int (nI n), .int (nI (ql_X5_skipBlanks n f (n + 1) ps)), .ref tk])), (tk, .inl (Z.2 1, 80, .inl f))]) [0, 1] (by decide +kernel) rfl
  exact W.vret hx hb hr (fun t9 ht hW => ⟨⟨(ql_X5_skipBlanks n f (n + 1) ps), rfl, ⟨rfl, ⟨hp0, hq⟩⟩, by rw [ht]; exact hP9, hD9⟩, hS.F ht⟩) hS.2.2 dX5_skipBlanks_38
def q_X5_look_r (n : Nat) (ps : Nat) (f : Nat → Int32) : Int32 := (if (nI n) ≤ (nI (q_X5_skipBlanks_p1 n ps f)) then (0 : Int32) else (f (nI (q_X5_skipBlanks_p1 n ps f)).toNatClampNeg))
def q_X5_look_p1 (n : Nat) (ps : Nat) (f : Nat → Int32) : Nat := (if (nI n) ≤ (nI (q_X5_skipBlanks_p1 n ps f)) then (q_X5_skipBlanks_p1 n ps f) else (q_X5_skipBlanks_p1 n ps f))
set_option maxHeartbeats 4000000 in
set_option maxRecDepth 100000 in
theorem c_X5_look (l : Launch) (Z : gZ) (sz : Nat) (h0 : Nat) (tk : Nat) (n : Nat) (ps : Nat) (f : Nat → Int32) (hn : n ≤ 80) (hp : ps ≤ n) (hc : zC f) : Met l yX5_look wsX5_look ({ frames := 1, cells := 0, slots := 0, locals := 20 }) (va_Pc [.ref h0] (fun U => U.heap.size = sz ∧ va_P Z.1 vwCl [(h0, .inr (5, [.int (nI n), .int (nI ps), .ref tk])), (tk, .inl (Z.2 1, 80, .inl f))] U.heap ∧ va_K Z.1 vwCl (gT Z) U ∧ va_D (fun _ => True) [(h0, .inr (5, [.int (nI n), .int (nI ps), .ref tk])), (tk, .inl (Z.2 1, 80, .inl f))])) (va_Qi (fun (r : Int32) (u : Nat) => match u with | p1 => r = q_X5_look_r n ps f ∧ q_X5_look_p1 n ps f = p1 ∧ ((¬ r = 0 → p1 < n) ∧ ps ≤ p1 ∧ p1 ≤ n)) (fun (u : Nat) (t9 : State) => match u with | p1 => va_P Z.1 vwCl [(h0, .inr (5, [.int (nI n), .int (nI p1), .ref tk])), (tk, .inl (Z.2 1, 80, .inl f))] t9.heap ∧ va_D (va_A [(h0, .inr (5, [.int (nI n), .int (nI ps), .ref tk])), (tk, .inl (Z.2 1, 80, .inl f))] sz) [(h0, .inr (5, [.int (nI n), .int (nI p1), .ref tk])), (tk, .inl (Z.2 1, 80, .inl f))]) (va_A [(h0, .inr (5, [.int (nI n), .int (nI ps), .ref tk])), (tk, .inl (Z.2 1, 80, .inl f))] sz)) 0 0 (va_A [(h0, .inr (5, [.int (nI n), .int (nI ps), .ref tk])), (tk, .inl (Z.2 1, 80, .inl f))] sz) := by
  refine Met.ofW (cc := cX5_look) (maxL := 1) (ret := (some .char)) (by decide) rfl ?_
  intro p e s m args below meth c s₁ B hml hv
  obtain ⟨rfl, hsz, hP, hK, hD0⟩ := hv
  have hx := B.exec
  have hb := B.bytes
  have hr := B.returns
  have hts := atoms_spec (ws := wsX5_look) B.pre
  have hown : s.vm.findClass RX5 = some m.cls := findClass_of_methodNamed B.named
  have hlocks := B.notSynchronized
  subst hsz
  have hin5 : ∀ w ∈ wsX50, w ∈ wsX5_look := fun w h9 => (List.mem_cons_of_mem _ (List.mem_append_right _ h9))
  have hD := hD0.self (sz := s.heap.size)
  generalize hAe : va_A [(h0, .inr (5, [.int (nI n), .int (nI ps), .ref tk])), (tk, .inl (Z.2 1, 80, .inl f))] s.heap.size = A at hD ⊢
  have hA : ∀ q : Nat, s.heap.size ≤ q → A q := fun q h => by rw [← hAe]; exact Or.inr h
  have hS : va_S A s.heap s.heap [] := va_S.rf
  have hP : va_P Z.1 vwCl [(h0, .inr (5, [.int (nI n), .int (nI ps), .ref tk])), (tk, .inl (Z.2 1, 80, .inl f))] s.heap := hP
  have hl := lv_entry ([.ref h0]) (n := 1) (Nat.le_of_ble_eq_true rfl)
  rw [lg_entry_eq]
  generalize (lg_sl ([.ref h0]) ++ List.replicate (1 - (lg_sl ([.ref h0])).length) Slot.unset).toArray = ls at hl ⊢
  have hl : lv_has ls 1 [(0, .ref h0)] := hl
  refine lv_aload_n hx hb dX5_look_0 rfl (lv_at hl 0 rfl) ?_
  have hPc := hP.sub (ws' := [(h0, .inr (5, [.int (nI n), .int (nI ps), .ref tk])), (tk, .inl (Z.2 1, 80, .inl f))]) [0, 1] rfl
  have hDc := hD.sub (ws' := [(h0, .inr (5, [.int (nI n), .int (nI ps), .ref tk])), (tk, .inl (Z.2 1, 80, .inl f))]) [0, 1] (by decide +kernel) rfl
  have hFc := va_free (wc := [(h0, .inr (5, [.int (nI n), .int (nI ps), .ref tk])), (tk, .inl (Z.2 1, 80, .inl f))]) hD hS hA [0, 1] rfl
  refine va_callv (va_runV (As := []) (rest := []) ⟨hx, hb, hml, hown, hts⟩ (c_X5_skipBlanks l Z s.heap.size h0 tk n ps f (hn) (hp) (hc)) (cwV 0 hts gX5_look_X5_skipBlanks rfl rfl rfl (by decide +kernel) ⟨Nat.le_of_ble_eq_true rfl, Nat.le_of_ble_eq_true rfl⟩) ⟨fun a U g mk q => by obtain ⟨q0, q1, qP, qK, qD⟩ := q; exact ⟨q0, q1, qP, va_K.moved (u := U) (U := U.calling g mk a) (Vm.Alike.refl U.vm) qK, qD⟩, va_recv hK hPc (ci := 5) (q0 := 0) rfl rfl, fun U hU hW => ⟨rfl, by rw [hU], by rw [hU]; exact hPc, va_K.moved hW.alike hK, hDc.weaken (fun _ _ _ _ => trivial)⟩⟩ rfl rfl hl.1 rfl (lv_room (Nat.le_of_ble_eq_true rfl)) dX5_look_1 ⟨Nat.le_of_ble_eq_true rfl, Nat.le_of_ble_eq_true rfl⟩) hS (fun q _ h => hFc q h) hFc (fun u t9 H1 locs ht hvm hw hB hz1 hk1 hS => ?_)
  obtain ⟨p1_2, rfl⟩ : ∃ z, z = u := ⟨_, rfl⟩
  try dsimp only at hw hB
  obtain ⟨hx_3, hwr_1⟩ := hw
  subst hx_3
  obtain ⟨hP1, hD1⟩ := hB
  rw [ht] at hP1
  obtain ⟨hP, hD⟩ := va_join (wr := []) (w1 := [(h0, .inr (5, [.int (nI n), .int (nI (q_X5_skipBlanks_p1 n ps f)), .ref tk])), (tk, .inl (Z.2 1, 80, .inl f))]) hP hD [0, 1] [] rfl rfl (by decide +kernel) (by decide +kernel) hk1 hFc hP1 hD1
  clear hPc hDc hP1 hD1 hk1 hz1 hFc ht hvm
  generalize H1 = H at hP hS ⊢
  have hP : va_P Z.1 vwCl [(h0, .inr (5, [.int (nI n), .int (nI (q_X5_skipBlanks_p1 n ps f)), .ref tk])), (tk, .inl (Z.2 1, 80, .inl f))] H := hP
  have hD : va_D A [(h0, .inr (5, [.int (nI n), .int (nI (q_X5_skipBlanks_p1 n ps f)), .ref tk])), (tk, .inl (Z.2 1, 80, .inl f))] := hD
  refine lv_aload_n hx hb dX5_look_4 rfl (lv_at hl 0 rfl) ?_
  refine va_get (D := Z.1) (ci := 5) (v := .int (nI (q_X5_skipBlanks_p1 n ps f))) (C := RX5) (T := TX5) (N := 3) hx hb hts hin5 hown hK hP 0 rfl rfl 1 (by decide) (hts (.fieldLink RX5 15 "HalfAsked$Tape" "at" "I") (List.mem_of_getElem? (i := 1) rfl)) (fun _ h9 => h9) rfl dX5_look_5 ?_
  refine lv_aload_n hx hb dX5_look_8 rfl (lv_at hl 0 rfl) ?_
  refine va_get (D := Z.1) (ci := 5) (v := .int (nI n)) (C := RX5) (T := TX5) (N := 3) hx hb hts hin5 hown hK hP 0 rfl rfl 0 (by decide) (hts (.fieldLink RX5 9 "HalfAsked$Tape" "size" "I") (List.mem_of_getElem? (i := 2) rfl)) (fun _ h9 => h9) rfl dX5_look_9 ?_
  refine lv_icmp_ge (tgt := 27) hx hb dX5_look_12 (by decide) (fun c_4 => ?_) (fun c_4 => ?_)
  · refine lv_iconst (v := 0) hx hb dX5_look_27 (by decide) ?_
    have hP9 := hP.sub (ws' := [(h0, .inr (5, [.int (nI n), .int (nI (q_X5_skipBlanks_p1 n ps f)), .ref tk])), (tk, .inl (Z.2 1, 80, .inl f))]) [0, 1] rfl
    have hD9 := hD.sub (ws' := [(h0, .inr (5, [.int (nI n), .int (nI (q_X5_skipBlanks_p1 n ps f)), .ref tk])), (tk, .inl (Z.2 1, 80, .inl f))]) [0, 1] (by decide +kernel) rfl
    exact W.zret (v := 0) hx hb hr rfl (fun t9 ht hW => ⟨⟨0, (q_X5_skipBlanks_p1 n ps f), rfl, ⟨(by unfold q_X5_look_r; rw [if_pos c_4]), (by unfold q_X5_look_p1; rw [if_pos c_4]), ⟨fun h9 => absurd rfl h9, hwr_1⟩⟩, by rw [ht]; exact hP9, hD9⟩, hS.F ht⟩) hS.2.2 dX5_look_28
  · have hlt : (q_X5_skipBlanks_p1 n ps f) < n := z_clt (by omega) hwr_1.2 c_4
    refine lv_aload_n hx hb dX5_look_15 rfl (lv_at hl 0 rfl) ?_
    refine va_get (D := Z.1) (ci := 5) (v := .ref tk) (C := RX5) (T := TX5) (N := 3) hx hb hts hin5 hown hK hP 0 rfl rfl 2 (by decide) (hts (.fieldLink RX5 18 "HalfAsked$Tape" "signs" "[C") (List.mem_of_getElem? (i := 3) rfl)) (fun _ h9 => h9) rfl dX5_look_16 ?_
    refine lv_aload_n hx hb dX5_look_19 rfl (lv_at hl 0 rfl) ?_
    refine va_get (D := Z.1) (ci := 5) (v := .int (nI (q_X5_skipBlanks_p1 n ps f))) (C := RX5) (T := TX5) (N := 3) hx hb hts hin5 hown hK hP 0 rfl rfl 1 (by decide) (hts (.fieldLink RX5 15 "HalfAsked$Tape" "at" "I") (List.mem_of_getElem? (i := 1) rfl)) (fun _ h9 => h9) rfl dX5_look_20 ?_
    refine va_cald hx hb hK hP 1 1 rfl rfl (vp_in_nI (by omega) (by decide)) dX5_look_23 ?_
    refine lv_goto (tgt := 28) hx hb dX5_look_24 (by decide) ?_
    have hP9 := hP.sub (ws' := [(h0, .inr (5, [.int (nI n), .int (nI (q_X5_skipBlanks_p1 n ps f)), .ref tk])), (tk, .inl (Z.2 1, 80, .inl f))]) [0, 1] rfl
    have hD9 := hD.sub (ws' := [(h0, .inr (5, [.int (nI n), .int (nI (q_X5_skipBlanks_p1 n ps f)), .ref tk])), (tk, .inl (Z.2 1, 80, .inl f))]) [0, 1] (by decide +kernel) rfl
    exact W.zret (v := (f (nI (q_X5_skipBlanks_p1 n ps f)).toNatClampNeg)) hx hb hr (hc _) (fun t9 ht hW => ⟨⟨f (nI (q_X5_skipBlanks_p1 n ps f)).toNatClampNeg, (q_X5_skipBlanks_p1 n ps f), rfl, ⟨(by unfold q_X5_look_r; rw [if_neg c_4]), (by unfold q_X5_look_p1; rw [if_neg c_4]), ⟨fun _ => hlt, hwr_1⟩⟩, by rw [ht]; exact hP9, hD9⟩, hS.F ht⟩) hS.2.2 dX5_look_28
set_option maxHeartbeats 4000000 in
set_option maxRecDepth 100000 in
theorem c_X5_fault (l : Launch) (Z : gZ) (sz : Nat) (a : Int32)  : Met l yX5_fault wsX5_fault ({ frames := 0, cells := 0, slots := 0, locals := 0 }) (va_Pc [.int a] (fun U => U.heap.size = sz ∧ va_P Z.1 vwCl [] U.heap ∧ va_K Z.1 vwCl (gT Z) U ∧ va_D (fun _ => True) [])) (va_Qi (fun (r : Int32) (u : Unit) => r = (-20) - a) (fun (u : Unit) (t9 : State) => True) (va_A [] sz)) 0 0 (va_A [] sz) := by
  refine Met.ofW (cc := cX5_fault) (maxL := 1) (ret := (some .int)) (by decide) rfl ?_
  intro p e s m args below meth c s₁ B hml hv
  obtain ⟨rfl, hsz, hP, hK, hD0⟩ := hv
  have hx := B.exec
  have hb := B.bytes
  have hr := B.returns
  have hts := atoms_spec (ws := wsX5_fault) B.pre
  have hown : s.vm.findClass RX5 = some m.cls := findClass_of_methodNamed B.named
  have hlocks := B.notSynchronized
  subst hsz
  have hD := hD0.self (sz := s.heap.size)
  generalize hAe : va_A [] s.heap.size = A at hD ⊢
  have hA : ∀ q : Nat, s.heap.size ≤ q → A q := fun q h => by rw [← hAe]; exact Or.inr h
  have hS : va_S A s.heap s.heap [] := va_S.rf
  have hP : va_P Z.1 vwCl [] s.heap := hP
  have hl := lv_entry ([.int a]) (n := 1) (Nat.le_of_ble_eq_true rfl)
  rw [lg_entry_eq]
  generalize (lg_sl ([.int a]) ++ List.replicate (1 - (lg_sl ([.int a])).length) Slot.unset).toArray = ls at hl ⊢
  have hl : lv_has ls 1 [(0, .int a)] := hl
  refine lv_bipush (v := (-20)) hx hb dX5_fault_0 (by decide) ?_
  refine lv_iload_n hx hb dX5_fault_2 rfl (lv_at hl 0 rfl) ?_
  refine lv_isub hx hb dX5_fault_3 ?_
  exact W.iret (v := ((-20) - a)) hx hb hr (fun t9 ht hW => ⟨⟨(-20) - a, (), rfl, rfl, trivial⟩, hS.F ht⟩) hS.2.2 dX5_fault_4
def ql_X5_readNumber (n : Nat) (f : Nat → Int32) : Nat → Nat → Int32 → Nat × Int32
  | 0, ps, x => (ps, x)
  | fu9 + 1, ps, x => (if (nI n) ≤ (nI ps) then (ps, x) else (if (f (nI ps).toNatClampNeg) < 48 then (ps, x) else (if 57 < (f (nI ps).toNatClampNeg) then (ps, x) else ql_X5_readNumber n f fu9 (ps + 1) (if 10000 < ((((if x < 0 then 0 else x) * 10) + (f (nI ps).toNatClampNeg)) - 48) then 10000 else ((((if x < 0 then 0 else x) * 10) + (f (nI ps).toNatClampNeg)) - 48)))))
set_option maxHeartbeats 4000000 in
set_option maxRecDepth 100000 in
theorem lp_X5_readNumber {p : Program} {l : Launch} {e : Env} {s : State} {m : MethodId} {args : Array Value} {below : List Frame} {meth : Method} {c : Code} {Q : State → Prop} {A : Nat → Prop} (Z : gZ) (h0 : Nat) (tk : Nat) (n : Nat) (f : Nat → Int32) (p0 : Nat) (T9 : Nat × Int32) (hn : n ≤ 80) (hx : p.tables.exec = Jvm.exec) (hb : c.code = cX5_readNumber) (hml : c.maxLocals = 2) (hts : ∀ w ∈ wsX5_readNumber, w.before args s = true) (hown : s.vm.findClass RX5 = some m.cls) (hK : va_K Z.1 vwCl (gT Z) s) (hA : ∀ q : Nat, s.heap.size ≤ q → A q) (kx_82 : ∀ (ps : Nat) (x : Int32) (H : Heap) (locs : List Loc) (ls : Array Slot), (ps ≤ n) → (p0 ≤ ps) → (T9 = (ps, x)) → va_P Z.1 vwCl [(h0, .inr (5, [.int (nI n), .int (nI ps), .ref tk])), (tk, .inl (Z.2 1, 80, .inl f))] H → va_D A [(h0, .inr (5, [.int (nI n), .int (nI ps), .ref tk])), (tk, .inl (Z.2 1, 80, .inl f))] → va_S A s.heap H locs → lv_has ls 2 [(0, .ref h0), (1, .int x)] → W p l e ({ frames := 1, cells := 0, slots := 0, locals := 40 } : Room) s m args below meth c H locs 0 0 Q (F0 m 82 ls [])) : ∀ (fu9 : Nat) (ps : Nat) (x : Int32), n - ps < fu9 → (ps ≤ n) → (p0 ≤ ps) → (ql_X5_readNumber n f fu9 ps x = T9) → ∀ (H : Heap) (locs : List Loc) (ls : Array Slot), va_P Z.1 vwCl [(h0, .inr (5, [.int (nI n), .int (nI ps), .ref tk])), (tk, .inl (Z.2 1, 80, .inl f))] H → va_D A [(h0, .inr (5, [.int (nI n), .int (nI ps), .ref tk])), (tk, .inl (Z.2 1, 80, .inl f))] → va_S A s.heap H locs → lv_has ls 2 [(0, .ref h0), (1, .int x)] → W p l e ({ frames := 1, cells := 0, slots := 0, locals := 40 } : Room) s m args below meth c H locs 0 0 Q (F0 m 2 ls []) := by
  have hin5 : ∀ w ∈ wsX50, w ∈ wsX5_readNumber := fun w h9 => (List.mem_cons_of_mem _ (List.mem_append_right _ h9))
  intro fu9
  induction fu9 with
  | zero => intro ps x hf9; exact absurd hf9 (Nat.not_lt_zero _)
  | succ fu9 ih =>
    intro ps x hf9 hp hp0 hT9 H locs ls hP hD hS hl
    refine lv_aload_n hx hb dX5_readNumber_2 rfl (lv_at hl 0 rfl) ?_
    refine va_get (D := Z.1) (ci := 5) (v := .int (nI ps)) (C := RX5) (T := TX5) (N := 3) hx hb hts hin5 hown hK hP 0 rfl rfl 1 (by decide) (hts (.fieldLink RX5 15 "HalfAsked$Tape" "at" "I") (List.mem_of_getElem? (i := 1) rfl)) (fun _ h9 => h9) rfl dX5_readNumber_3 ?_
    refine lv_aload_n hx hb dX5_readNumber_6 rfl (lv_at hl 0 rfl) ?_
    refine va_get (D := Z.1) (ci := 5) (v := .int (nI n)) (C := RX5) (T := TX5) (N := 3) hx hb hts hin5 hown hK hP 0 rfl rfl 0 (by decide) (hts (.fieldLink RX5 9 "HalfAsked$Tape" "size" "I") (List.mem_of_getElem? (i := 2) rfl)) (fun _ h9 => h9) rfl dX5_readNumber_7 ?_
    refine lv_icmp_ge (tgt := 82) hx hb dX5_readNumber_10 (by decide) (fun c_1 => ?_) (fun c_1 => ?_)
    · exact kx_82 ps x H locs ls (hp) (hp0) (by have h8 := hT9; rw [ql_X5_readNumber, if_pos c_1] at h8; exact h8.symm) hP hD hS (lv_sub hl [0, 1] rfl)
    · have hlt : ps < n := z_clt (by omega) hp c_1
      refine lv_aload_n hx hb dX5_readNumber_13 rfl (lv_at hl 0 rfl) ?_
      refine va_get (D := Z.1) (ci := 5) (v := .ref tk) (C := RX5) (T := TX5) (N := 3) hx hb hts hin5 hown hK hP 0 rfl rfl 2 (by decide) (hts (.fieldLink RX5 18 "HalfAsked$Tape" "signs" "[C") (List.mem_of_getElem? (i := 3) rfl)) (fun _ h9 => h9) rfl dX5_readNumber_14 ?_
      refine lv_aload_n hx hb dX5_readNumber_17 rfl (lv_at hl 0 rfl) ?_
      refine va_get (D := Z.1) (ci := 5) (v := .int (nI ps)) (C := RX5) (T := TX5) (N := 3) hx hb hts hin5 hown hK hP 0 rfl rfl 1 (by decide) (hts (.fieldLink RX5 15 "HalfAsked$Tape" "at" "I") (List.mem_of_getElem? (i := 1) rfl)) (fun _ h9 => h9) rfl dX5_readNumber_18 ?_
      refine va_cald hx hb hK hP 1 1 rfl rfl (vp_in_nI (by omega) (by decide)) dX5_readNumber_21 ?_
      refine lv_bipush (v := 48) hx hb dX5_readNumber_22 (by decide) ?_
      refine lv_icmp_lt (tgt := 82) hx hb dX5_readNumber_24 (by decide) (fun c_2 => ?_) (fun c_2 => ?_)
      · exact kx_82 ps x H locs ls (hp) (hp0) (by have h8 := hT9; rw [ql_X5_readNumber, if_neg c_1, if_pos c_2] at h8; exact h8.symm) hP hD hS (lv_sub hl [0, 1] rfl)
      · refine lv_aload_n hx hb dX5_readNumber_27 rfl (lv_at hl 0 rfl) ?_
        refine va_get (D := Z.1) (ci := 5) (v := .ref tk) (C := RX5) (T := TX5) (N := 3) hx hb hts hin5 hown hK hP 0 rfl rfl 2 (by decide) (hts (.fieldLink RX5 18 "HalfAsked$Tape" "signs" "[C") (List.mem_of_getElem? (i := 3) rfl)) (fun _ h9 => h9) rfl dX5_readNumber_28 ?_
        refine lv_aload_n hx hb dX5_readNumber_31 rfl (lv_at hl 0 rfl) ?_
        refine va_get (D := Z.1) (ci := 5) (v := .int (nI ps)) (C := RX5) (T := TX5) (N := 3) hx hb hts hin5 hown hK hP 0 rfl rfl 1 (by decide) (hts (.fieldLink RX5 15 "HalfAsked$Tape" "at" "I") (List.mem_of_getElem? (i := 1) rfl)) (fun _ h9 => h9) rfl dX5_readNumber_32 ?_
        refine va_cald hx hb hK hP 1 1 rfl rfl (vp_in_nI (by omega) (by decide)) dX5_readNumber_35 ?_
        refine lv_bipush (v := 57) hx hb dX5_readNumber_36 (by decide) ?_
        refine lv_icmp_gt (tgt := 82) hx hb dX5_readNumber_38 (by decide) (fun c_3 => ?_) (fun c_3 => ?_)
        · exact kx_82 ps x H locs ls (hp) (hp0) (by have h8 := hT9; rw [ql_X5_readNumber, if_neg c_1, if_neg c_2, if_pos c_3] at h8; exact h8.symm) hP hD hS (lv_sub hl [0, 1] rfl)
        · refine lv_iload_n hx hb dX5_readNumber_41 rfl (lv_at hl 1 rfl) ?_
          refine lv_iconst (v := 0) hx hb dX5_readNumber_42 (by decide) ?_
          refine va_mmax hx hb (hml.trans hl.1.symm) hown (hts (.methodLink RX5 72 Lib.Math.max.name) (List.mem_of_getElem? (i := 4) rfl)) (hts (.static Lib.Math.max.name) (List.mem_of_getElem? (i := 5) rfl)) (hts (.initialized "java/lang/Math") (List.mem_of_getElem? (i := 6) rfl)) (hts (.code Lib.Math.max.name Lib.Math.max.code 2 (some .int)) (List.mem_of_getElem? (i := 7) rfl)) (Nat.le_of_ble_eq_true rfl) (Nat.le_of_ble_eq_true rfl) (Nat.le_of_ble_eq_true rfl) (Nat.le_of_ble_eq_true rfl) dX5_readNumber_43 ?_
          refine lv_bipush (v := 10) hx hb dX5_readNumber_46 (by decide) ?_
          refine lv_imul hx hb dX5_readNumber_48 ?_
          refine lv_aload_n hx hb dX5_readNumber_49 rfl (lv_at hl 0 rfl) ?_
          refine va_get (D := Z.1) (ci := 5) (v := .ref tk) (C := RX5) (T := TX5) (N := 3) hx hb hts hin5 hown hK hP 0 rfl rfl 2 (by decide) (hts (.fieldLink RX5 18 "HalfAsked$Tape" "signs" "[C") (List.mem_of_getElem? (i := 3) rfl)) (fun _ h9 => h9) rfl dX5_readNumber_50 ?_
          refine lv_aload_n hx hb dX5_readNumber_53 rfl (lv_at hl 0 rfl) ?_
          refine va_get (D := Z.1) (ci := 5) (v := .int (nI ps)) (C := RX5) (T := TX5) (N := 3) hx hb hts hin5 hown hK hP 0 rfl rfl 1 (by decide) (hts (.fieldLink RX5 15 "HalfAsked$Tape" "at" "I") (List.mem_of_getElem? (i := 1) rfl)) (fun _ h9 => h9) rfl dX5_readNumber_54 ?_
          refine va_cald hx hb hK hP 1 1 rfl rfl (vp_in_nI (by omega) (by decide)) dX5_readNumber_57 ?_
          refine lv_iadd hx hb dX5_readNumber_58 ?_
          refine lv_bipush (v := 48) hx hb dX5_readNumber_59 (by decide) ?_
          refine lv_isub hx hb dX5_readNumber_61 ?_
          refine lv_sipush (v := 10000) hx hb dX5_readNumber_62 (by decide) ?_
          refine va_mmin hx hb (hml.trans hl.1.symm) hown (hts (.methodLink RX5 78 Lib.Math.min.name) (List.mem_of_getElem? (i := 8) rfl)) (hts (.static Lib.Math.min.name) (List.mem_of_getElem? (i := 9) rfl)) (hts (.initialized "java/lang/Math") (List.mem_of_getElem? (i := 6) rfl)) (hts (.code Lib.Math.min.name Lib.Math.min.code 2 (some .int)) (List.mem_of_getElem? (i := 10) rfl)) (Nat.le_of_ble_eq_true rfl) (Nat.le_of_ble_eq_true rfl) (Nat.le_of_ble_eq_true rfl) (Nat.le_of_ble_eq_true rfl) dX5_readNumber_65 ?_
          refine lv_istore_n (lv' := [(1, .int (if 10000 < ((((if x < 0 then 0 else x) * 10) + (f (nI ps).toNatClampNeg)) - 48) then 10000 else ((((if x < 0 then 0 else x) * 10) + (f (nI ps).toNatClampNeg)) - 48))), (0, .ref h0)]) hx hb dX5_readNumber_68 rfl hl (by decide) rfl (fun ls hl => ?_)
          refine lv_aload_n hx hb dX5_readNumber_69 rfl (lv_at hl 1 rfl) ?_
          refine lv_dup hx hb dX5_readNumber_70 rfl ?_
          refine va_get (D := Z.1) (ci := 5) (v := .int (nI ps)) (C := RX5) (T := TX5) (N := 3) hx hb hts hin5 hown hK hP 0 rfl rfl 1 (by decide) (hts (.fieldLink RX5 15 "HalfAsked$Tape" "at" "I") (List.mem_of_getElem? (i := 1) rfl)) (fun _ h9 => h9) rfl dX5_readNumber_71 ?_
          refine lv_iconst (v := 1) hx hb dX5_readNumber_74 (by decide) ?_
          refine lv_iadd hx hb dX5_readNumber_75 ?_
          refine lv_topi (fun f_4 ef_4 => ?_)
          obtain rfl : nI (ps + 1) = f_4 := (ef_4.trans (nI_1 _)).symm
          refine va_put (D := Z.1) (ci := 5) (v := .int (nI (ps + 1))) (ty := .int) (C := RX5) (T := TX5) (N := 3) hx hb hts hin5 tyX5 tyX5_ok nmX5 hown hK hP hD hS 0 rfl rfl 1 (by decide) (hts (.fieldLink RX5 15 "HalfAsked$Tape" "at" "I") (List.mem_of_getElem? (i := 1) rfl)) (fun _ h9 => h9) rfl (by decide +kernel) rfl rfl (Nat.le_of_ble_eq_true rfl) dX5_readNumber_76 (fun H locs hP hD hS => ?_)
          have hP : va_P Z.1 vwCl [(h0, .inr (5, [.int (nI n), .int (nI (ps + 1)), .ref tk])), (tk, .inl (Z.2 1, 80, .inl f))] H := hP
          have hD : va_D A [(h0, .inr (5, [.int (nI n), .int (nI (ps + 1)), .ref tk])), (tk, .inl (Z.2 1, 80, .inl f))] := hD
          refine lv_goto (tgt := 2) hx hb dX5_readNumber_79 (by decide) ?_
          exact ih (ps + 1) (if 10000 < ((((if x < 0 then 0 else x) * 10) + (f (nI ps).toNatClampNeg)) - 48) then 10000 else ((((if x < 0 then 0 else x) * 10) + (f (nI ps).toNatClampNeg)) - 48)) (by omega) (hlt) (by omega) (by have h8 := hT9; rw [ql_X5_readNumber, if_neg c_1, if_neg c_2, if_neg c_3] at h8; exact h8) H locs ls hP hD hS (lv_sub hl [1, 0] rfl)
def q_X5_readNumber_r (n : Nat) (ps : Nat) (f : Nat → Int32) : Int32 := (ql_X5_readNumber n f (n + 1) ps (-1)).2
def q_X5_readNumber_p1 (n : Nat) (ps : Nat) (f : Nat → Int32) : Nat := ((ql_X5_readNumber n f (n + 1) ps (-1)).1)
set_option maxHeartbeats 4000000 in
set_option maxRecDepth 100000 in
theorem c_X5_readNumber (l : Launch) (Z : gZ) (sz : Nat) (h0 : Nat) (tk : Nat) (n : Nat) (ps : Nat) (f : Nat → Int32) (hn : n ≤ 80) (hp : ps ≤ n) (hc : zC f) : Met l yX5_readNumber wsX5_readNumber ({ frames := 1, cells := 0, slots := 0, locals := 40 }) (va_Pc [.ref h0] (fun U => U.heap.size = sz ∧ va_P Z.1 vwCl [(h0, .inr (5, [.int (nI n), .int (nI ps), .ref tk])), (tk, .inl (Z.2 1, 80, .inl f))] U.heap ∧ va_K Z.1 vwCl (gT Z) U ∧ va_D (fun _ => True) [(h0, .inr (5, [.int (nI n), .int (nI ps), .ref tk])), (tk, .inl (Z.2 1, 80, .inl f))])) (va_Qi (fun (r : Int32) (u : Nat) => match u with | p1 => r = q_X5_readNumber_r n ps f ∧ q_X5_readNumber_p1 n ps f = p1 ∧ (ps ≤ p1 ∧ p1 ≤ n)) (fun (u : Nat) (t9 : State) => match u with | p1 => va_P Z.1 vwCl [(h0, .inr (5, [.int (nI n), .int (nI p1), .ref tk])), (tk, .inl (Z.2 1, 80, .inl f))] t9.heap ∧ va_D (va_A [(h0, .inr (5, [.int (nI n), .int (nI ps), .ref tk])), (tk, .inl (Z.2 1, 80, .inl f))] sz) [(h0, .inr (5, [.int (nI n), .int (nI p1), .ref tk])), (tk, .inl (Z.2 1, 80, .inl f))]) (va_A [(h0, .inr (5, [.int (nI n), .int (nI ps), .ref tk])), (tk, .inl (Z.2 1, 80, .inl f))] sz)) 0 0 (va_A [(h0, .inr (5, [.int (nI n), .int (nI ps), .ref tk])), (tk, .inl (Z.2 1, 80, .inl f))] sz) := by
  refine Met.ofW (cc := cX5_readNumber) (maxL := 2) (ret := (some .int)) (by decide) rfl ?_
  intro p e s m args below meth c s₁ B hml hv
  obtain ⟨rfl, hsz, hP, hK, hD0⟩ := hv
  have hx := B.exec
  have hb := B.bytes
  have hr := B.returns
  have hts := atoms_spec (ws := wsX5_readNumber) B.pre
  have hown : s.vm.findClass RX5 = some m.cls := findClass_of_methodNamed B.named
  have hlocks := B.notSynchronized
  subst hsz
  have hD := hD0.self (sz := s.heap.size)
  generalize hAe : va_A [(h0, .inr (5, [.int (nI n), .int (nI ps), .ref tk])), (tk, .inl (Z.2 1, 80, .inl f))] s.heap.size = A at hD ⊢
  have hA : ∀ q : Nat, s.heap.size ≤ q → A q := fun q h => by rw [← hAe]; exact Or.inr h
  have hS : va_S A s.heap s.heap [] := va_S.rf
  have hP : va_P Z.1 vwCl [(h0, .inr (5, [.int (nI n), .int (nI ps), .ref tk])), (tk, .inl (Z.2 1, 80, .inl f))] s.heap := hP
  have hl := lv_entry ([.ref h0]) (n := 2) (Nat.le_of_ble_eq_true rfl)
  rw [lg_entry_eq]
  generalize (lg_sl ([.ref h0]) ++ List.replicate (2 - (lg_sl ([.ref h0])).length) Slot.unset).toArray = ls at hl ⊢
  have hl : lv_has ls 2 [(0, .ref h0)] := hl
  refine lv_iconst (v := (-1)) hx hb dX5_readNumber_0 (by decide) ?_
  refine lv_istore_n (lv' := [(1, .int (-1)), (0, .ref h0)]) hx hb dX5_readNumber_1 rfl hl (by decide) rfl (fun ls hl => ?_)
  refine lp_X5_readNumber Z h0 tk n f ps (ql_X5_readNumber n f (n + 1) ps (-1)) hn hx hb hml hts hown hK hA (fun p1 x1 H locs ls hq hp0 hT9_0 hP hD hS hl => ?_) (n + 1) ps (-1) (by omega) (hp) (Nat.le_refl _) (rfl) s.heap _ ls hP hD hS (lv_sub hl [1, 0] rfl)
  have e9p1 : (ql_X5_readNumber n f (n + 1) ps (-1)).1 = p1 := by rw [hT9_0]
  have e9x1 : (ql_X5_readNumber n f (n + 1) ps (-1)).2 = x1 := by rw [hT9_0]
  subst e9p1
  subst e9x1
  have hP : va_P Z.1 vwCl [(h0, .inr (5, [.int (nI n), .int (nI ((ql_X5_readNumber n f (n + 1) ps (-1)).1)), .ref tk])), (tk, .inl (Z.2 1, 80, .inl f))] H := hP
  have hD : va_D A [(h0, .inr (5, [.int (nI n), .int (nI ((ql_X5_readNumber n f (n + 1) ps (-1)).1)), .ref tk])), (tk, .inl (Z.2 1, 80, .inl f))] := hD
  refine lv_iload_n hx hb dX5_readNumber_82 rfl (lv_at hl 1 rfl) ?_
  have hP9 := hP.sub (ws' := [(h0, .inr (5, [.int (nI n), .int (nI ((ql_X5_readNumber n f (n + 1) ps (-1)).1)), .ref tk])), (tk, .inl (Z.2 1, 80, .inl f))]) [0, 1] rfl
  have hD9 := hD.sub (ws' := [(h0, .inr (5, [.int (nI n), .int (nI ((ql_X5_readNumber n f (n + 1) ps (-1)).1)), .ref tk])), (tk, .inl (Z.2 1, 80, .inl f))]) [0, 1] (by decide +kernel) rfl
  exact W.iret (v := ((ql_X5_readNumber n f (n + 1) ps (-1)).2)) hx hb hr (fun t9 ht hW => ⟨⟨(ql_X5_readNumber n f (n + 1) ps (-1)).2, ((ql_X5_readNumber n f (n + 1) ps (-1)).1), rfl, ⟨rfl, rfl, ⟨hp0, hq⟩⟩, by rw [ht]; exact hP9, hD9⟩, hS.F ht⟩) hS.2.2 dX5_readNumber_83
