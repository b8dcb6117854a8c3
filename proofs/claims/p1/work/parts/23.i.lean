abbrev z_sg (w : Int64) (k : Int32) : Int64 := (w >>> ((8 * k).toInt64 &&& 63)) &&& 255
def z_ok (w : Int64) (k : Nat) : Prop := ¬ z_sg w (nI k) < 32 ∧ ¬ 126 < z_sg w (nI k)
def z_all (w : Int64) (N : Nat) : Prop := ∀ j, j < N → z_ok w j
/-- what type answers on a fresh object -/
noncomputable def z_ty (w : Int64) (n : Int32) : Int32 := @ite _ ((1 ≤ n ∧ n ≤ 8) ∧ z_all w n.toNatClampNeg) (Classical.propDecidable _) n (-1)
theorem z_ty_yes {w : Int64} {N : Nat} (h1 : 1 ≤ N) (h8 : N ≤ 8) (h : z_all w N) : z_ty w (nI N) = nI N := by
  unfold z_ty
  rw [if_pos]
  exact ⟨⟨nI_le (a := 1) h1 (by omega), nI_le (b := 8) h8 (by decide)⟩, by rw [nI_clamp (by omega)]; exact h⟩
theorem z_ty_bad {w : Int64} {N : Nat} (h8 : N ≤ 8) (h : ¬ z_all w N) : z_ty w (nI N) = -1 := by
  unfold z_ty
  rw [if_neg]
  rintro ⟨-, q⟩
  rw [nI_clamp (by omega)] at q
  exact h q
theorem z_ty_lo {w : Int64} {n : Int32} (h : n < 1) : z_ty w n = -1 := by
  unfold z_ty
  rw [if_neg]
  rintro ⟨⟨q, -⟩, -⟩
  exact Int32.not_le.mpr h q
theorem z_ty_hi {w : Int64} {n : Int32} (h : 8 < n) : z_ty w n = -1 := by
  unfold z_ty
  rw [if_neg]
  rintro ⟨⟨-, q⟩, -⟩
  exact Int32.not_le.mpr h q
theorem z_n8 {n : Int32} (h1 : ¬ n < 1) (h2 : ¬ 8 < n) : ∃ N : Nat, 1 ≤ N ∧ N ≤ 8 ∧ n = nI N := by
  have e0 : (0 : Int32).toInt = 0 := by decide
  have e1 : (1 : Int32).toInt = 1 := by decide
  have h3 : ¬ n < 0 := by rw [Int32.lt_iff_toInt_lt] at h1 ⊢; omega
  obtain ⟨N, hN, rfl⟩ := nI_of2 (M := 8) (n := 8) (by decide) h3 (Int32.not_lt.mp h2)
  refine ⟨N, ?_, hN, rfl⟩
  rw [Int32.lt_iff_toInt_lt, nI_toInt (by omega)] at h1
  omega
theorem z_lt {N k : Nat} (hN : N ≤ 8) (hk : k ≤ N) (c : ¬ nI N ≤ nI k) : k < N := by
  rcases Nat.lt_or_ge k N with q | q
  · exact q
  · exact absurd (nI_le q (by omega)) c
theorem z_ge {N k : Nat} (hN : N ≤ 8) (hk : k ≤ N) (c : nI N ≤ nI k) : k = N := by
  rcases Nat.lt_or_ge k N with q | q
  · exact absurd c (nI_ge q (by omega))
  · omega
def z_dn (j : Nat) (x : Int32) : Prop := (j = 0 ∧ x = -1) ∨ ∃ q, j = q + 1 ∧ x = nI q
theorem z_dn_start (j : Nat) : z_dn j (nI j - 1) := by
  cases j with
  | zero => exact Or.inl ⟨rfl, rfl⟩
  | succ q => exact Or.inr ⟨q, rfl, nI_pred q⟩
theorem z_dn_step (j : Nat) : z_dn j (nI j + (-1)) := by
  cases j with
  | zero => exact Or.inl ⟨rfl, rfl⟩
  | succ q => exact Or.inr ⟨q, rfl, pk_m1 q⟩
set_option maxHeartbeats 4000000 in
set_option maxRecDepth 100000 in
theorem lp_X5_areSigns {p : Program} {l : Launch} {e : Env} {s : State} {m : MethodId} {args : Array Value} {below : List Frame} {meth : Method} {c : Code} {Q : State → Prop} {A : Nat → Prop} (Z : gZ) (w : Int64) (N : Nat) (hN : N ≤ 8) (hx : p.tables.exec = Jvm.exec) (hb : c.code = cX5_areSigns) (hml : c.maxLocals = 6) (hts : ∀ w ∈ wsX5_areSigns, w.before args s = true) (hown : s.vm.findClass RX5 = some m.cls) (hK : va_K Z.1 vwCl (gT Z) s) (hA : ∀ q : Nat, s.heap.size ≤ q → A q) (kx_37 : ∀ (k : Nat) (H : Heap) (locs : List Loc) (ls : Array Slot), (¬ z_all w N) → va_P Z.1 vwCl [] H → va_D A [] → va_S A s.heap H locs → lv_has ls 6 [(0, .long w), (2, .int (nI N)), (3, .int (nI k))] → W p l e ({ frames := 1, cells := 0, slots := 0, locals := 40 } : Room) s m args below meth c H locs 0 0 Q (F0 m 37 ls [])) (kx_45 : ∀ (k : Nat) (H : Heap) (locs : List Loc) (ls : Array Slot), (z_all w N) → va_P Z.1 vwCl [] H → va_D A [] → va_S A s.heap H locs → lv_has ls 6 [(0, .long w), (2, .int (nI N)), (3, .int (nI k))] → W p l e ({ frames := 1, cells := 0, slots := 0, locals := 40 } : Room) s m args below meth c H locs 0 0 Q (F0 m 45 ls [])) : ∀ (n : Nat) (k : Nat), N - k < n → (k ≤ N) → (∀ j, j < k → z_ok w j) → ∀ (H : Heap) (locs : List Loc) (ls : Array Slot), va_P Z.1 vwCl [] H → va_D A [] → va_S A s.heap H locs → lv_has ls 6 [(0, .long w), (2, .int (nI N)), (3, .int (nI k))] → W p l e ({ frames := 1, cells := 0, slots := 0, locals := 40 } : Room) s m args below meth c H locs 0 0 Q (F0 m 2 ls []) := by
  intro n
  induction n with
  | zero => intro k hn; exact absurd hn (Nat.not_lt_zero _)
  | succ n ih =>
    intro k hn hk hg H locs ls hP hD hS hl
    refine lv_iload_n hx hb dX5_areSigns_2 rfl (lv_at hl 2 rfl) ?_
    refine lv_iload_n hx hb dX5_areSigns_3 rfl (lv_at hl 1 rfl) ?_
    refine lv_icmp_ge (tgt := 45) hx hb dX5_areSigns_4 (by decide) (fun c_1 => ?_) (fun c_1 => ?_)
    · exact kx_45 k H locs ls (by rw [← z_ge hN hk c_1]; exact hg) hP hD hS (lv_sub hl [0, 1, 2] rfl)
    · have hlt : k < N := z_lt hN hk c_1
      refine lv_lload_n hx hb dX5_areSigns_7 rfl (lv_at hl 0 rfl) ?_
      refine lv_bipush (v := 8) hx hb dX5_areSigns_8 (by decide) ?_
      refine lv_iload_n hx hb dX5_areSigns_10 rfl (lv_at hl 2 rfl) ?_
      refine lv_imul hx hb dX5_areSigns_11 ?_
      refine lv_lshr hx hb dX5_areSigns_12 rfl ?_
      refine lv_ldc2 (v := 255) hx hb hown (hts (.constantLong RX5 22 (255)) (by decide +kernel)) dX5_areSigns_13 ?_
      refine lv_land hx hb dX5_areSigns_16 ?_
      refine lv_lstore (lv' := [(4, .long ((w >>> ((8 * (nI k)).toInt64 &&& 63)) &&& 255)), (0, .long w), (2, .int (nI N)), (3, .int (nI k))]) hx hb dX5_areSigns_17 hl (by decide) rfl (fun ls hl => ?_)
      refine lv_lload hx hb dX5_areSigns_19 (lv_at hl 0 rfl) ?_
      refine lv_ldc2 (v := 32) hx hb hown (hts (.constantLong RX5 24 (32)) (by decide +kernel)) dX5_areSigns_21 ?_
      refine W.lcmp hx hb dX5_areSigns_24 ?_
      refine lv_if_lt (tgt := 37) hx hb dX5_areSigns_25 (by decide) (fun c_2 => ?_) (fun c_2 => ?_)
      · rw [lg_cmp_lt] at c_2
        exact kx_37 k H locs ls (fun h => (h k hlt).1 c_2) hP hD hS (lv_sub hl [1, 2, 3] rfl)
      · rw [lg_cmp_lt] at c_2
        refine lv_lload hx hb dX5_areSigns_28 (lv_at hl 0 rfl) ?_
        refine lv_ldc2 (v := 126) hx hb hown (hts (.constantLong RX5 26 (126)) (by decide +kernel)) dX5_areSigns_30 ?_
        refine W.lcmp hx hb dX5_areSigns_33 ?_
        refine lv_if_le (tgt := 39) hx hb dX5_areSigns_34 (by decide) (fun c_3 => ?_) (fun c_3 => ?_)
        · rw [lg_cmp_le] at c_3
          refine lv_iinc (v := nI (k + 1)) (lv' := [(3, .int (nI (k + 1))), (4, .long ((w >>> ((8 * (nI k)).toInt64 &&& 63)) &&& 255)), (0, .long w), (2, .int (nI N))]) hx hb dX5_areSigns_39 hl (k := 3) rfl (nI_1 _) (by decide) rfl (fun ls hl => ?_)
          refine lv_goto (tgt := 2) hx hb dX5_areSigns_42 (by decide) ?_
          exact ih (k + 1) (by omega) (hlt) (lt_s hg ⟨c_2, Int64.not_lt.mpr c_3⟩) H locs ls hP hD hS (lv_sub hl [2, 3, 0] rfl)
        · rw [lg_cmp_le] at c_3
          exact kx_37 k H locs ls (fun h => (h k hlt).2 (Int64.not_le.mp c_3)) hP hD hS (lv_sub hl [1, 2, 3] rfl)
set_option maxHeartbeats 4000000 in
set_option maxRecDepth 100000 in
theorem c_X5_areSigns (l : Launch) (Z : gZ) (sz : Nat) (w : Int64) (N : Nat) (hN : N ≤ 8) : Met l yX5_areSigns wsX5_areSigns ({ frames := 1, cells := 0, slots := 0, locals := 40 }) (va_Pc [.long w, .int (nI N)] (fun U => U.heap.size = sz ∧ va_P Z.1 vwCl [] U.heap ∧ va_K Z.1 vwCl (gT Z) U ∧ va_D (fun _ => True) [])) (va_Qi (fun (r : Int32) (u : Unit) => (r = 1 ∧ z_all w N) ∨ (r = 0 ∧ ¬ z_all w N)) (fun (u : Unit) (t : State) => True) (va_A [] sz)) 0 0 (va_A [] sz) := by
  refine Met.ofW (cc := cX5_areSigns) (maxL := 6) (ret := (some .boolean)) (by decide) rfl ?_
  intro p e s m args below meth c s₁ B hml hv
  obtain ⟨rfl, hsz, hP, hK, hD0⟩ := hv
  have hx := B.exec
  have hb := B.bytes
  have hr := B.returns
  have hts := atoms_spec (ws := wsX5_areSigns) B.pre
  have hown : s.vm.findClass RX5 = some m.cls := findClass_of_methodNamed B.named
  have hlocks := B.notSynchronized
  subst hsz
  have hD := hD0.self (sz := s.heap.size)
  generalize hAe : va_A [] s.heap.size = A at hD ⊢
  have hA : ∀ q : Nat, s.heap.size ≤ q → A q := fun q h => by rw [← hAe]; exact Or.inr h
  have hS : va_S A s.heap s.heap [] := va_S.rf
  have hP : va_P Z.1 vwCl [] s.heap := hP
  have hl := lv_entry ([.long w, .int (nI N)]) (n := 6) (Nat.le_of_ble_eq_true rfl)
  rw [lg_entry_eq]
  generalize (lg_sl ([.long w, .int (nI N)]) ++ List.replicate (6 - (lg_sl ([.long w, .int (nI N)])).length) Slot.unset).toArray = ls at hl ⊢
  have hl : lv_has ls 6 [(0, .long w), (2, .int (nI N))] := hl
  refine lv_iconst (v := 0) hx hb dX5_areSigns_0 (by decide) ?_
  refine lv_istore_n (lv' := [(3, .int 0), (0, .long w), (2, .int (nI N))]) hx hb dX5_areSigns_1 rfl hl (by decide) rfl (fun ls hl => ?_)
  refine lp_X5_areSigns Z w N hN hx hb hml hts hown hK hA (fun k H locs ls hz hP hD hS hl => ?_) (fun k H locs ls hz hP hD hS hl => ?_) (N + 1) 0 (by omega) (Nat.zero_le _) (lt_0) s.heap _ ls hP hD hS (lv_sub hl [1, 2, 0] rfl)
  · refine lv_iconst (v := 0) hx hb dX5_areSigns_37 (by decide) ?_
    exact W.zret (v := 0) hx hb hr rfl (fun t ht hW => ⟨⟨0, (), rfl, Or.inr ⟨rfl, hz⟩, trivial⟩, hS.F ht⟩) hS.2.2 dX5_areSigns_38
  · refine lv_iconst (v := 1) hx hb dX5_areSigns_45 (by decide) ?_
    exact W.zret (v := 1) hx hb hr rfl (fun t ht hW => ⟨⟨1, (), rfl, Or.inl ⟨rfl, hz⟩, trivial⟩, hS.F ht⟩) hS.2.2 dX5_areSigns_46
set_option maxHeartbeats 4000000 in
set_option maxRecDepth 100000 in
theorem lp_X5_add {p : Program} {l : Launch} {e : Env} {s : State} {m : MethodId} {args : Array Value} {below : List Frame} {meth : Method} {c : Code} {Q : State → Prop} {A : Nat → Prop} (Z : gZ) (h0 : Nat) (tk : Nat) (x0 : Int32) (w : Int64) (N : Nat) (hN : N ≤ 8) (hx : p.tables.exec = Jvm.exec) (hb : c.code = cX5_add) (hml : c.maxLocals = 5) (hts : ∀ w ∈ wsX5_add, w.before args s = true) (hown : s.vm.findClass RX5 = some m.cls) (hK : va_K Z.1 vwCl (gT Z) s) (hA : ∀ q : Nat, s.heap.size ≤ q → A q) (kx_57 : ∀ (k : Nat) (j : Nat) (x : Int32) (g : Nat → Int32) (H : Heap) (locs : List Loc) (ls : Array Slot), (k = N) → va_P Z.1 vwCl [(h0, .inr (5, [.int (nI k), .int x0, .ref tk])), (tk, .inl (Z.2 1, 80, .inl g))] H → va_D A [(h0, .inr (5, [.int (nI k), .int x0, .ref tk])), (tk, .inl (Z.2 1, 80, .inl g))] → va_S A s.heap H locs → lv_has ls 5 [(0, .ref h0), (1, .long w), (3, .int (nI N)), (4, .int x)] → W p l e ({ frames := 1, cells := 0, slots := 0, locals := 40 } : Room) s m args below meth c H locs 0 0 Q (F0 m 57 ls [])) : ∀ (n : Nat) (k : Nat) (j : Nat) (x : Int32) (g : Nat → Int32), j < n → (k + j = N) → (z_dn j x) → ∀ (H : Heap) (locs : List Loc) (ls : Array Slot), va_P Z.1 vwCl [(h0, .inr (5, [.int (nI k), .int x0, .ref tk])), (tk, .inl (Z.2 1, 80, .inl g))] H → va_D A [(h0, .inr (5, [.int (nI k), .int x0, .ref tk])), (tk, .inl (Z.2 1, 80, .inl g))] → va_S A s.heap H locs → lv_has ls 5 [(0, .ref h0), (1, .long w), (3, .int (nI N)), (4, .int x)] → W p l e ({ frames := 1, cells := 0, slots := 0, locals := 40 } : Room) s m args below meth c H locs 0 0 Q (F0 m 5 ls []) := by
  have hin5 : ∀ w ∈ wsX50, w ∈ wsX5_add := by decide +kernel
  intro n
  induction n with
  | zero => intro k j x g hn; exact absurd hn (Nat.not_lt_zero _)
  | succ n ih =>
    intro k j x g hn hkj hx0 H locs ls hP hD hS hl
    rcases hx0 with ⟨rfl, rfl⟩ | ⟨q, rfl, rfl⟩
    · refine lv_iload hx hb dX5_add_5 (lv_at hl 3 rfl) ?_
      refine lv_if_lt (tgt := 57) hx hb dX5_add_7 (by decide) (fun _ => ?_) (fun c9 => absurd c9 (by decide))
      exact kx_57 k 0 (-1) g H locs ls (by omega) hP hD hS (lv_sub hl [0, 1, 2, 3] rfl)
    · refine lv_iload hx hb dX5_add_5 (lv_at hl 3 rfl) ?_
      refine lv_if_lt (tgt := 57) hx hb dX5_add_7 (by decide) (fun c9 => absurd c9 (nI_pos (by omega))) (fun _ => ?_)
      refine lv_aload_n hx hb dX5_add_10 rfl (lv_at hl 0 rfl) ?_
      refine va_get (D := Z.1) (ci := 5) (v := .int (nI k)) (C := RX5) (T := TX5) (N := 3) hx hb hts hin5 hown hK hP 0 rfl rfl 0 (by decide) (hts (.fieldLink RX5 9 "HalfAsked$Tape" "size" "I") (by decide +kernel)) (fun _ h9 => h9) rfl dX5_add_11 ?_
      refine lv_bipush (v := 80) hx hb dX5_add_14 (by decide) ?_
      refine lv_icmp_ge (tgt := 57) hx hb dX5_add_16 (by decide) (fun c9 => absurd c9 (nI_ge (a := k) (b := 80) (by omega) (by decide))) (fun _ => ?_)
      refine lv_aload_n hx hb dX5_add_19 rfl (lv_at hl 0 rfl) ?_
      refine va_get (D := Z.1) (ci := 5) (v := .ref tk) (C := RX5) (T := TX5) (N := 3) hx hb hts hin5 hown hK hP 0 rfl rfl 2 (by decide) (hts (.fieldLink RX5 18 "HalfAsked$Tape" "signs" "[C") (by decide +kernel)) (fun _ h9 => h9) rfl dX5_add_20 ?_
      refine lv_aload_n hx hb dX5_add_23 rfl (lv_at hl 0 rfl) ?_
      refine va_get (D := Z.1) (ci := 5) (v := .int (nI k)) (C := RX5) (T := TX5) (N := 3) hx hb hts hin5 hown hK hP 0 rfl rfl 0 (by decide) (hts (.fieldLink RX5 9 "HalfAsked$Tape" "size" "I") (by decide +kernel)) (fun _ h9 => h9) rfl dX5_add_24 ?_
      refine lv_lload_n hx hb dX5_add_27 rfl (lv_at hl 1 rfl) ?_
      refine lv_bipush (v := 8) hx hb dX5_add_28 (by decide) ?_
      refine lv_iload hx hb dX5_add_30 (lv_at hl 3 rfl) ?_
      refine lv_imul hx hb dX5_add_32 ?_
      refine lv_lshr hx hb dX5_add_33 rfl ?_
      refine lv_ldc2 (v := 255) hx hb hown (hts (.constantLong RX5 22 (255)) (by decide +kernel)) dX5_add_34 ?_
      refine lv_land hx hb dX5_add_37 ?_
      refine lv_l2i hx hb dX5_add_38 rfl ?_
      refine lv_i2c hx hb dX5_add_39 rfl ?_
      refine va_cast hx hb hK hP hD hS 1 1 rfl rfl (vp_in_nI (by omega) (by decide)) dX5_add_40 (fun H locs hP hD hS => ?_)
      have hP : va_P Z.1 vwCl [(h0, .inr (5, [.int (nI k), .int x0, .ref tk])), (tk, .inl (Z.2 1, 80, .inl (upd g ((nI k).toNatClampNeg) (vp_nar .char (((((w >>> ((8 * (nI q)).toInt64 &&& 63)) &&& 255).toInt32).toUInt32 % 65536).toInt32)))))] H := hP
      have hD : va_D A [(h0, .inr (5, [.int (nI k), .int x0, .ref tk])), (tk, .inl (Z.2 1, 80, .inl (upd g ((nI k).toNatClampNeg) (vp_nar .char (((((w >>> ((8 * (nI q)).toInt64 &&& 63)) &&& 255).toInt32).toUInt32 % 65536).toInt32)))))] := hD
      generalize (upd g ((nI k).toNatClampNeg) (vp_nar .char (((((w >>> ((8 * (nI q)).toInt64 &&& 63)) &&& 255).toInt32).toUInt32 % 65536).toInt32)) : Nat → Int32) = g_1 at hP hD
      refine lv_aload_n hx hb dX5_add_41 rfl (lv_at hl 0 rfl) ?_
      refine lv_dup hx hb dX5_add_42 rfl ?_
      refine va_get (D := Z.1) (ci := 5) (v := .int (nI k)) (C := RX5) (T := TX5) (N := 3) hx hb hts hin5 hown hK hP 0 rfl rfl 0 (by decide) (hts (.fieldLink RX5 9 "HalfAsked$Tape" "size" "I") (by decide +kernel)) (fun _ h9 => h9) rfl dX5_add_43 ?_
      refine lv_iconst (v := 1) hx hb dX5_add_46 (by decide) ?_
      refine lv_iadd hx hb dX5_add_47 ?_
      refine lv_topi (fun f_2 ef_2 => ?_)
      obtain rfl : f_2 = nI (k + 1) := ef_2.trans (nI_1 _)
      refine va_put (D := Z.1) (ci := 5) (v := .int (nI (k + 1))) (ty := .int) (C := RX5) (T := TX5) (N := 3) hx hb hts hin5 tyX5 tyX5_ok nmX5 hown hK hP hD hS 0 rfl rfl 0 (by decide) (hts (.fieldLink RX5 9 "HalfAsked$Tape" "size" "I") (by decide +kernel)) (fun _ h9 => h9) rfl (by decide +kernel) rfl rfl (Nat.le_of_ble_eq_true rfl) dX5_add_48 (fun H locs hP hD hS => ?_)
      have hP : va_P Z.1 vwCl [(h0, .inr (5, [.int (nI (k + 1)), .int x0, .ref tk])), (tk, .inl (Z.2 1, 80, .inl g_1))] H := hP
      have hD : va_D A [(h0, .inr (5, [.int (nI (k + 1)), .int x0, .ref tk])), (tk, .inl (Z.2 1, 80, .inl g_1))] := hD
      refine lv_iinc (v := nI q + (-1)) (lv' := [(4, .int (nI q + (-1))), (0, .ref h0), (1, .long w), (3, .int (nI N))]) hx hb dX5_add_51 hl (k := 3) rfl rfl (by decide) rfl (fun ls hl => ?_)
      refine lv_goto (tgt := 5) hx hb dX5_add_54 (by decide) ?_
      exact ih (k + 1) q (nI q + (-1)) g_1 (by omega) (by omega) (z_dn_step q) H locs ls hP hD hS (lv_sub hl [1, 2, 3, 0] rfl)
set_option maxHeartbeats 4000000 in
set_option maxRecDepth 100000 in
theorem c_X5_add (l : Launch) (Z : gZ) (sz : Nat) (h0 : Nat) (tk : Nat) (x0 : Int32) (g : Nat → Int32) (w : Int64) (N : Nat) (hN : N ≤ 8) : Met l yX5_add wsX5_add ({ frames := 1, cells := 0, slots := 0, locals := 40 }) (va_Pc [.ref h0, .long w, .int (nI N)] (fun U => U.heap.size = sz ∧ va_P Z.1 vwCl [(h0, .inr (5, [.int 0, .int x0, .ref tk])), (tk, .inl (Z.2 1, 80, .inl g))] U.heap ∧ va_K Z.1 vwCl (gT Z) U ∧ va_D (fun _ => True) [(h0, .inr (5, [.int 0, .int x0, .ref tk])), (tk, .inl (Z.2 1, 80, .inl g))])) (va_Qv (fun (u : (Nat → Int32)) => match u with | g1 => True) (fun (u : (Nat → Int32)) (t : State) => match u with | g1 => va_P Z.1 vwCl [(h0, .inr (5, [.int (nI N), .int x0, .ref tk])), (tk, .inl (Z.2 1, 80, .inl g1))] t.heap ∧ va_D (va_A [(h0, .inr (5, [.int 0, .int x0, .ref tk])), (tk, .inl (Z.2 1, 80, .inl g))] sz) [(h0, .inr (5, [.int (nI N), .int x0, .ref tk])), (tk, .inl (Z.2 1, 80, .inl g1))]) (va_A [(h0, .inr (5, [.int 0, .int x0, .ref tk])), (tk, .inl (Z.2 1, 80, .inl g))] sz)) 0 0 (va_A [(h0, .inr (5, [.int 0, .int x0, .ref tk])), (tk, .inl (Z.2 1, 80, .inl g))] sz) := by
  refine Met.ofW (cc := cX5_add) (maxL := 5) (ret := none) (by decide) rfl ?_
  intro p e s m args below meth c s₁ B hml hv
  obtain ⟨rfl, hsz, hP, hK, hD0⟩ := hv
  have hx := B.exec
  have hb := B.bytes
  have hr := B.returns
  have hts := atoms_spec (ws := wsX5_add) B.pre
  have hown : s.vm.findClass RX5 = some m.cls := findClass_of_methodNamed B.named
  have hlocks := B.notSynchronized
  subst hsz
  have hD := hD0.self (sz := s.heap.size)
  generalize hAe : va_A [(h0, .inr (5, [.int 0, .int x0, .ref tk])), (tk, .inl (Z.2 1, 80, .inl g))] s.heap.size = A at hD ⊢
  have hA : ∀ q : Nat, s.heap.size ≤ q → A q := fun q h => by rw [← hAe]; exact Or.inr h
  have hS : va_S A s.heap s.heap [] := va_S.rf
  have hP : va_P Z.1 vwCl [(h0, .inr (5, [.int 0, .int x0, .ref tk])), (tk, .inl (Z.2 1, 80, .inl g))] s.heap := hP
  have hl := lv_entry ([.ref h0, .long w, .int (nI N)]) (n := 5) (Nat.le_of_ble_eq_true rfl)
  rw [lg_entry_eq]
  generalize (lg_sl ([.ref h0, .long w, .int (nI N)]) ++ List.replicate (5 - (lg_sl ([.ref h0, .long w, .int (nI N)])).length) Slot.unset).toArray = ls at hl ⊢
  have hl : lv_has ls 5 [(0, .ref h0), (1, .long w), (3, .int (nI N))] := hl
  refine lv_iload_n hx hb dX5_add_0 rfl (lv_at hl 2 rfl) ?_
  refine lv_iconst (v := 1) hx hb dX5_add_1 (by decide) ?_
  refine lv_isub hx hb dX5_add_2 ?_
  refine lv_istore (lv' := [(4, .int ((nI N) - 1)), (0, .ref h0), (1, .long w), (3, .int (nI N))]) hx hb dX5_add_3 hl (by decide) rfl (fun ls hl => ?_)
  refine lp_X5_add Z h0 tk x0 w N hN hx hb hml hts hown hK hA (fun k j x g' H locs ls hz hP hD hS hl => ?_) (N + 1) 0 N (nI N - 1) g (by omega) (by omega) (z_dn_start N) s.heap _ ls hP hD hS (lv_sub hl [1, 2, 3, 0] rfl)
  subst hz
  have hP9 := hP.sub (ws' := [(h0, .inr (5, [.int (nI k), .int x0, .ref tk])), (tk, .inl (Z.2 1, 80, .inl g'))]) [0, 1] rfl
  have hD9 := hD.sub (ws' := [(h0, .inr (5, [.int (nI k), .int x0, .ref tk])), (tk, .inl (Z.2 1, 80, .inl g'))]) [0, 1] (by decide) rfl
  exact W.vret hx hb hr (fun t ht hW => ⟨⟨g', rfl, trivial, by rw [ht]; exact hP9, hD9⟩, hS.F ht⟩) hS.2.2 dX5_add_57
