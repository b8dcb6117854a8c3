theorem zT_in {t : Nat} {w : Int64} {x : Int32} (h : (if x.toInt64 < 1 then (0 : Int32) else (if 8 < x.toInt64 then (0 : Int32) else (1 : Int32))) = 0) : (-1) = zTy t w x ∧ t = zTn t w x := by
  by_cases h1 : x.toInt64 < 1
  · refine zT_lo ?_
    rw [Int64.lt_iff_toInt_lt, Int32.toInt_toInt64] at h1
    rw [Int32.lt_iff_toInt_lt]
    exact h1
  · by_cases h2 : 8 < x.toInt64
    · refine zT_hi ?_
      rw [Int64.lt_iff_toInt_lt, Int32.toInt_toInt64] at h2
      rw [Int32.lt_iff_toInt_lt]
      exact h2
    · rw [if_neg h1, if_neg h2] at h
      exact absurd h (by decide)
theorem z_in8 {x : Int32} (h : ¬ (if x.toInt64 < 1 then (0 : Int32) else (if 8 < x.toInt64 then (0 : Int32) else (1 : Int32))) = 0) : ∃ N : Nat, 1 ≤ N ∧ N ≤ 8 ∧ x = nI N := by
  by_cases h1 : x.toInt64 < 1
  · exact absurd (if_pos h1) h
  · by_cases h2 : 8 < x.toInt64
    · exact absurd (by rw [if_neg h1, if_pos h2]) h
    · refine z_n8 (fun q => h1 ?_) (fun q => h2 ?_)
      · rw [Int64.lt_iff_toInt_lt, Int32.toInt_toInt64]
        rw [Int32.lt_iff_toInt_lt] at q
        exact q
      · rw [Int64.lt_iff_toInt_lt, Int32.toInt_toInt64]
        rw [Int32.lt_iff_toInt_lt] at q
        exact q
theorem z_okof {w : Int64} {q : Nat} (h : ¬ (if ((w >>> ((8 * nI q).toInt64 &&& 63)) &&& 255) < 32 then (0 : Int32) else (if 126 < ((w >>> ((8 * nI q).toInt64 &&& 63)) &&& 255) then (0 : Int32) else (1 : Int32))) = 0) : z_ok w q := by
  by_cases h1 : ((w >>> ((8 * nI q).toInt64 &&& 63)) &&& 255) < 32
  · exact absurd (if_pos h1) h
  · by_cases h2 : 126 < ((w >>> ((8 * nI q).toInt64 &&& 63)) &&& 255)
    · exact absurd (by rw [if_neg h1, if_pos h2]) h
    · exact ⟨h1, h2⟩
theorem z_nok {w : Int64} {q : Nat} (h : (if ((w >>> ((8 * nI q).toInt64 &&& 63)) &&& 255) < 32 then (0 : Int32) else (if 126 < ((w >>> ((8 * nI q).toInt64 &&& 63)) &&& 255) then (0 : Int32) else (1 : Int32))) = 0) : ¬ z_ok w q := by
  intro k
  rw [if_neg k.1, if_neg k.2] at h
  exact absurd h (by decide)
theorem z_sum2 {t N : Nat} (ht : t ≤ 80) (hN : N ≤ 8) : nI (t + N) ≤ 80 ↔ t + N ≤ 80 := nI_leI (b := 80) (by omega) (by decide)
/-- the sign of w that is i from its end, as the reference keeps it -/
def xSr (w : Int64) (i : Nat) : Int32 := ((w >>> ((8 * nI i).toInt64 &&& 63)) &&& 255).toInt32
def xTm (g0 g : Nat → Int32) (w : Int64) (t N k : Nat) : Prop := (∀ z, z < t → g z = g0 z) ∧ ∀ z, t ≤ z → z < k → g z = xSr w (t + N - 1 - z)
theorem xTm_s {g0 g : Nat → Int32} {w : Int64} {t N k q : Nat} (h : xTm g0 g w t N k) (hk : k + (q + 1) = t + N) (ht : t ≤ k) (h8 : t + N ≤ 80) : xTm g0 (upd g ((nI k).toNatClampNeg) (xSr w q)) w t N (k + 1) := by
  rw [nI_clamp (by omega)]
  refine ⟨fun z hz => ?_, fun z h1 h2 => ?_⟩
  · rw [pk_un (by omega)]; exact h.1 z hz
  · rcases Nat.lt_or_ge z k with e | e
    · rw [pk_un (by omega)]; exact h.2 z h1 e
    · obtain rfl : z = k := by omega
      rw [pk_us, show t + N - 1 - z = q by omega]
def xTq (g g1 : Nat → Int32) (w : Int64) (t t1 : Nat) : Prop := (∀ z, z < t → g1 z = g z) ∧ ∀ z, t ≤ z → z < t1 → g1 z = xSr w (t1 - 1 - z)
theorem xTq_no {g : Nat → Int32} {w : Int64} {t : Nat} : xTq g g w t t := ⟨fun _ _ => rfl, fun z h1 h2 => absurd h2 (by omega)⟩
theorem xTq_yes {g g1 : Nat → Int32} {w : Int64} {t N : Nat} (q : xTm g g1 w t N (t + N)) : xTq g g1 w t (t + N) := ⟨q.1, fun z h1 h2 => q.2 z h1 h2⟩
set_option maxHeartbeats 4000000 in
set_option maxRecDepth 100000 in
theorem lp_X9_type1 {p : Program} {l : Launch} {e : Env} {s : State} {m : MethodId} {args : Array Value} {below : List Frame} {meth : Method} {c : Code} {Q : State → Prop} {A : Nat → Prop} (Z : gZ) (h0 : Nat) (b1 : Nat) (b2 : Nat) (b3 : Nat) (b4 : Nat) (b5 : Nat) (b6 : Nat) (b7 : Nat) (b8 : Nat) (b9 : Nat) (b10 : Nat) (b11 : Nat) (b12 : Nat) (b13 : Nat) (b14 : Nat) (b15 : Nat) (b16 : Nat) (b17 : Nat) (b18 : Nat) (b19 : Nat) (b20 : Nat) (b21 : Nat) (b22 : Nat) (b23 : Nat) (b24 : Nat) (b25 : Nat) (n : Nat) (pn : Nat) (tn : Nat) (xp : Int32) (xr : Int32) (ik : Int32) (f8 : Nat → Int32) (w : Int64) (N : Nat) (hN : N ≤ 8) (hx : p.tables.exec = Jvm.exec) (hb : c.code = cX9_type) (hml : c.maxLocals = 5) (hts : ∀ w ∈ wsX9_type, w.before args s = true) (hown : s.vm.findClass RX9 = some m.cls) (hK : va_K Z.1 vwCl (gT Z) s) (hA : ∀ q : Nat, s.heap.size ≤ q → A q) (kx_47 : ∀ (j : Nat) (y : Int32) (H : Heap) (locs : List Loc) (ls : Array Slot), (¬ z_all w N) → va_P Z.1 vwCl [(h0, .inr (9, [.ref b1, .ref b2, .ref b3, .ref b4, .int (nI n), .ref b5, .int (nI pn), .ref b6, .ref b7, .ref b8, .int (nI tn), .int xp, .int xr, .ref b9, .ref b10, .ref b11, .ref b12, .ref b13, .ref b14, .ref b15, .ref b16, .ref b17, .ref b18, .int ik, .ref b19, .ref b20, .ref b21, .ref b22, .ref b23, .ref b24, .ref b25])), (b8, .inl (Z.2 0, 80, .inl f8))] H → va_D A [(h0, .inr (9, [.ref b1, .ref b2, .ref b3, .ref b4, .int (nI n), .ref b5, .int (nI pn), .ref b6, .ref b7, .ref b8, .int (nI tn), .int xp, .int xr, .ref b9, .ref b10, .ref b11, .ref b12, .ref b13, .ref b14, .ref b15, .ref b16, .ref b17, .ref b18, .int ik, .ref b19, .ref b20, .ref b21, .ref b22, .ref b23, .ref b24, .ref b25])), (b8, .inl (Z.2 0, 80, .inl f8))] → va_S A s.heap H locs → lv_has ls 5 [(0, .ref h0), (1, .long w), (3, .int (nI N)), (4, .int y)] → W p l e ({ frames := 2, cells := 0, slots := 0, locals := 80 } : Room) s m args below meth c H locs 0 0 Q (F0 m 47 ls [])) (kx_55 : ∀ (j : Nat) (y : Int32) (H : Heap) (locs : List Loc) (ls : Array Slot), (z_all w N) → va_P Z.1 vwCl [(h0, .inr (9, [.ref b1, .ref b2, .ref b3, .ref b4, .int (nI n), .ref b5, .int (nI pn), .ref b6, .ref b7, .ref b8, .int (nI tn), .int xp, .int xr, .ref b9, .ref b10, .ref b11, .ref b12, .ref b13, .ref b14, .ref b15, .ref b16, .ref b17, .ref b18, .int ik, .ref b19, .ref b20, .ref b21, .ref b22, .ref b23, .ref b24, .ref b25])), (b8, .inl (Z.2 0, 80, .inl f8))] H → va_D A [(h0, .inr (9, [.ref b1, .ref b2, .ref b3, .ref b4, .int (nI n), .ref b5, .int (nI pn), .ref b6, .ref b7, .ref b8, .int (nI tn), .int xp, .int xr, .ref b9, .ref b10, .ref b11, .ref b12, .ref b13, .ref b14, .ref b15, .ref b16, .ref b17, .ref b18, .int ik, .ref b19, .ref b20, .ref b21, .ref b22, .ref b23, .ref b24, .ref b25])), (b8, .inl (Z.2 0, 80, .inl f8))] → va_S A s.heap H locs → lv_has ls 5 [(0, .ref h0), (1, .long w), (3, .int (nI N)), (4, .int y)] → W p l e ({ frames := 2, cells := 0, slots := 0, locals := 80 } : Room) s m args below meth c H locs 0 0 Q (F0 m 55 ls [])) : ∀ (fu9 : Nat) (j : Nat) (y : Int32), j < fu9 → (j ≤ N) → (z_dn j y) → (∀ z, j ≤ z → z < N → z_ok w z) → ∀ (H : Heap) (locs : List Loc) (ls : Array Slot), va_P Z.1 vwCl [(h0, .inr (9, [.ref b1, .ref b2, .ref b3, .ref b4, .int (nI n), .ref b5, .int (nI pn), .ref b6, .ref b7, .ref b8, .int (nI tn), .int xp, .int xr, .ref b9, .ref b10, .ref b11, .ref b12, .ref b13, .ref b14, .ref b15, .ref b16, .ref b17, .ref b18, .int ik, .ref b19, .ref b20, .ref b21, .ref b22, .ref b23, .ref b24, .ref b25])), (b8, .inl (Z.2 0, 80, .inl f8))] H → va_D A [(h0, .inr (9, [.ref b1, .ref b2, .ref b3, .ref b4, .int (nI n), .ref b5, .int (nI pn), .ref b6, .ref b7, .ref b8, .int (nI tn), .int xp, .int xr, .ref b9, .ref b10, .ref b11, .ref b12, .ref b13, .ref b14, .ref b15, .ref b16, .ref b17, .ref b18, .int ik, .ref b19, .ref b20, .ref b21, .ref b22, .ref b23, .ref b24, .ref b25])), (b8, .inl (Z.2 0, 80, .inl f8))] → va_S A s.heap H locs → lv_has ls 5 [(0, .ref h0), (1, .long w), (3, .int (nI N)), (4, .int y)] → W p l e ({ frames := 2, cells := 0, slots := 0, locals := 80 } : Room) s m args below meth c H locs 0 0 Q (F0 m 19 ls []) := by
  intro fu9
  induction fu9 with
  | zero => intro j y hf9; exact absurd hf9 (Nat.not_lt_zero _)
  | succ fu9 ih =>
    intro j y hf9 hj hy hg H locs ls hP hD hS hl
    rcases hy with ⟨rfl, rfl⟩ | ⟨q, rfl, rfl⟩
    · refine lv_iload hx hb dX9_type_19 (lv_at hl 3 rfl) ?_
      refine lv_if_lt (tgt := 55) hx hb dX9_type_21 (by decide) (fun _ => ?_) (fun c9 => absurd c9 (by decide))
      exact kx_55 0 (-1) H locs ls (fun z hz => hg z (Nat.zero_le _) hz) hP hD hS (lv_sub hl [0, 1, 2, 3] rfl)
    · refine lv_iload hx hb dX9_type_19 (lv_at hl 3 rfl) ?_
      refine lv_if_lt (tgt := 55) hx hb dX9_type_21 (by decide) (fun c9 => absurd c9 (nI_pos (by omega))) (fun _ => ?_)
      refine lv_lload_n hx hb dX9_type_24 rfl (lv_at hl 1 rfl) ?_
      refine lv_bipush (v := 8) hx hb dX9_type_25 (by decide) ?_
      refine lv_iload hx hb dX9_type_27 (lv_at hl 3 rfl) ?_
      refine lv_imul hx hb dX9_type_29 ?_
      refine lv_lshr hx hb dX9_type_30 rfl ?_
      refine lv_ldc2 (v := 255) hx hb hown (hts (.constantLong RX9 144 (255)) (List.mem_of_getElem? (i := 2) rfl)) dX9_type_31 ?_
      refine lv_land hx hb dX9_type_34 ?_
      refine lv_ldc2 (v := 32) hx hb hown (hts (.constantLong RX9 146 (32)) (List.mem_of_getElem? (i := 3) rfl)) dX9_type_35 ?_
      refine lv_ldc2 (v := 126) hx hb hown (hts (.constantLong RX9 148 (126)) (List.mem_of_getElem? (i := 4) rfl)) dX9_type_38 ?_
      have hPc := hP.sub (ws' := []) [] rfl
      have hDc := hD.sub (ws' := []) [] (by decide +kernel) rfl
      have hFc := va_free (wc := []) hD hS hA [] rfl
      refine va_calli (va_runS (As := [.long ((w >>> ((8 * (nI q)).toInt64 &&& 63)) &&& 255), .long 32, .long 126]) (rest := []) ⟨hx, hb, hml, hown, hts⟩ (c_X9_in l Z H.size ((w >>> ((8 * (nI q)).toInt64 &&& 63)) &&& 255) 32 126) (va_cwS 3 hts gX9_type_X9_in rfl rfl rfl (by decide +kernel) ⟨Nat.le_of_ble_eq_true rfl, Nat.le_of_ble_eq_true rfl⟩) ⟨fun a U g mk q => by obtain ⟨q0, q1, qP, qK, qD⟩ := q; exact ⟨q0, q1, qP, va_K.moved (u := U) (U := U.calling g mk a) (Vm.Alike.refl U.vm) qK, qD⟩, fun U hU hW => ⟨rfl, by rw [hU], by rw [hU]; exact hPc, va_K.moved hW.alike hK, hDc.weaken (fun _ _ _ _ => trivial)⟩⟩ rfl rfl hl.1 rfl (lv_room (Nat.le_of_ble_eq_true rfl)) dX9_type_41 ⟨Nat.le_of_ble_eq_true rfl, Nat.le_of_ble_eq_true rfl⟩) hS (fun q _ h => hFc q h) hFc (fun r_1 u t9 H1 locs ht hvm hw hB hz1 hk1 hS => ?_)
      have hw9 := hw.symm
      clear hw
      subst hw9
      have hP1 : va_P Z.1 vwCl [] H1 := fun k q h => by simp at h
      have hD1 : va_D (va_A [] H.size) [] := ⟨fun i j p q h => by simp at h, fun k q h => by simp at h⟩
      obtain ⟨hP, hD⟩ := va_join (wr := [(h0, .inr (9, [.ref b1, .ref b2, .ref b3, .ref b4, .int (nI n), .ref b5, .int (nI pn), .ref b6, .ref b7, .ref b8, .int (nI tn), .int xp, .int xr, .ref b9, .ref b10, .ref b11, .ref b12, .ref b13, .ref b14, .ref b15, .ref b16, .ref b17, .ref b18, .int ik, .ref b19, .ref b20, .ref b21, .ref b22, .ref b23, .ref b24, .ref b25])), (b8, .inl (Z.2 0, 80, .inl f8))]) (w1 := []) hP hD [] [0, 1] rfl rfl (by decide +kernel) (by decide +kernel) hk1 hFc hP1 hD1
      clear hPc hDc hP1 hD1 hk1 hz1 hFc ht hvm
      generalize H1 = H at hP hS ⊢
      have hP : va_P Z.1 vwCl [(h0, .inr (9, [.ref b1, .ref b2, .ref b3, .ref b4, .int (nI n), .ref b5, .int (nI pn), .ref b6, .ref b7, .ref b8, .int (nI tn), .int xp, .int xr, .ref b9, .ref b10, .ref b11, .ref b12, .ref b13, .ref b14, .ref b15, .ref b16, .ref b17, .ref b18, .int ik, .ref b19, .ref b20, .ref b21, .ref b22, .ref b23, .ref b24, .ref b25])), (b8, .inl (Z.2 0, 80, .inl f8))] H := hP
      have hD : va_D A [(h0, .inr (9, [.ref b1, .ref b2, .ref b3, .ref b4, .int (nI n), .ref b5, .int (nI pn), .ref b6, .ref b7, .ref b8, .int (nI tn), .int xp, .int xr, .ref b9, .ref b10, .ref b11, .ref b12, .ref b13, .ref b14, .ref b15, .ref b16, .ref b17, .ref b18, .int ik, .ref b19, .ref b20, .ref b21, .ref b22, .ref b23, .ref b24, .ref b25])), (b8, .inl (Z.2 0, 80, .inl f8))] := hD
      refine lv_if_ne (tgt := 49) hx hb dX9_type_44 (by decide) (fun c_2 => ?_) (fun c_2 => ?_)
      · refine lv_iinc (v := nI q + (-1)) (lv' := [(4, .int (nI q + (-1))), (0, .ref h0), (1, .long w), (3, .int (nI N))]) hx hb dX9_type_49 hl (k := 3) rfl rfl (by decide) rfl (fun ls hl => ?_)
        refine lv_goto (tgt := 19) hx hb dX9_type_52 (by decide) ?_
        exact ih q (nI q + (-1)) (by omega) (by omega) (z_dn_step q) (fun z h1 h2 => by rcases Nat.eq_or_lt_of_le h1 with e9 | e9; exact e9 ▸ z_okof c_2; exact hg z e9 h2) H locs ls hP hD hS (lv_sub hl [1, 2, 3, 0] rfl)
      · exact kx_47 (q + 1) (nI q) H locs ls (fun h => z_nok c_2 (h q (by omega))) hP hD hS (lv_sub hl [0, 1, 2, 3] rfl)
set_option maxHeartbeats 4000000 in
set_option maxRecDepth 100000 in
theorem lp_X9_type2 {p : Program} {l : Launch} {e : Env} {s : State} {m : MethodId} {args : Array Value} {below : List Frame} {meth : Method} {c : Code} {Q : State → Prop} {A : Nat → Prop} (Z : gZ) (h0 : Nat) (b1 : Nat) (b2 : Nat) (b3 : Nat) (b4 : Nat) (b5 : Nat) (b6 : Nat) (b7 : Nat) (b8 : Nat) (b9 : Nat) (b10 : Nat) (b11 : Nat) (b12 : Nat) (b13 : Nat) (b14 : Nat) (b15 : Nat) (b16 : Nat) (b17 : Nat) (b18 : Nat) (b19 : Nat) (b20 : Nat) (b21 : Nat) (b22 : Nat) (b23 : Nat) (b24 : Nat) (b25 : Nat) (n : Nat) (pn : Nat) (tn : Nat) (xp : Int32) (xr : Int32) (ik : Int32) (w : Int64) (N : Nat) (g0 : Nat → Int32) (hN : N ≤ 8) (htN : tn + N ≤ 80) (hx : p.tables.exec = Jvm.exec) (hb : c.code = cX9_type) (hml : c.maxLocals = 5) (hts : ∀ w ∈ wsX9_type, w.before args s = true) (hown : s.vm.findClass RX9 = some m.cls) (hK : va_K Z.1 vwCl (gT Z) s) (hA : ∀ q : Nat, s.heap.size ≤ q → A q) (kx_116 : ∀ (k : Nat) (j : Nat) (y : Int32) (f8 : Nat → Int32) (H : Heap) (locs : List Loc) (ls : Array Slot), (k = tn + N) → (xTm g0 f8 w tn N k) → va_P Z.1 vwCl [(h0, .inr (9, [.ref b1, .ref b2, .ref b3, .ref b4, .int (nI n), .ref b5, .int (nI pn), .ref b6, .ref b7, .ref b8, .int (nI k), .int xp, .int xr, .ref b9, .ref b10, .ref b11, .ref b12, .ref b13, .ref b14, .ref b15, .ref b16, .ref b17, .ref b18, .int ik, .ref b19, .ref b20, .ref b21, .ref b22, .ref b23, .ref b24, .ref b25])), (b8, .inl (Z.2 0, 80, .inl f8))] H → va_D A [(h0, .inr (9, [.ref b1, .ref b2, .ref b3, .ref b4, .int (nI n), .ref b5, .int (nI pn), .ref b6, .ref b7, .ref b8, .int (nI k), .int xp, .int xr, .ref b9, .ref b10, .ref b11, .ref b12, .ref b13, .ref b14, .ref b15, .ref b16, .ref b17, .ref b18, .int ik, .ref b19, .ref b20, .ref b21, .ref b22, .ref b23, .ref b24, .ref b25])), (b8, .inl (Z.2 0, 80, .inl f8))] → va_S A s.heap H locs → lv_has ls 5 [(0, .ref h0), (1, .long w), (3, .int (nI N)), (4, .int y)] → W p l e ({ frames := 2, cells := 0, slots := 0, locals := 80 } : Room) s m args below meth c H locs 0 0 Q (F0 m 116 ls [])) : ∀ (fu9 : Nat) (k : Nat) (j : Nat) (y : Int32) (f8 : Nat → Int32), j < fu9 → (k + j = tn + N) → (tn ≤ k) → (z_dn j y) → (xTm g0 f8 w tn N k) → ∀ (H : Heap) (locs : List Loc) (ls : Array Slot), va_P Z.1 vwCl [(h0, .inr (9, [.ref b1, .ref b2, .ref b3, .ref b4, .int (nI n), .ref b5, .int (nI pn), .ref b6, .ref b7, .ref b8, .int (nI k), .int xp, .int xr, .ref b9, .ref b10, .ref b11, .ref b12, .ref b13, .ref b14, .ref b15, .ref b16, .ref b17, .ref b18, .int ik, .ref b19, .ref b20, .ref b21, .ref b22, .ref b23, .ref b24, .ref b25])), (b8, .inl (Z.2 0, 80, .inl f8))] H → va_D A [(h0, .inr (9, [.ref b1, .ref b2, .ref b3, .ref b4, .int (nI n), .ref b5, .int (nI pn), .ref b6, .ref b7, .ref b8, .int (nI k), .int xp, .int xr, .ref b9, .ref b10, .ref b11, .ref b12, .ref b13, .ref b14, .ref b15, .ref b16, .ref b17, .ref b18, .int ik, .ref b19, .ref b20, .ref b21, .ref b22, .ref b23, .ref b24, .ref b25])), (b8, .inl (Z.2 0, 80, .inl f8))] → va_S A s.heap H locs → lv_has ls 5 [(0, .ref h0), (1, .long w), (3, .int (nI N)), (4, .int y)] → W p l e ({ frames := 2, cells := 0, slots := 0, locals := 80 } : Room) s m args below meth c H locs 0 0 Q (F0 m 74 ls []) := by
  have hin9 : ∀ w ∈ wsX90, w ∈ wsX9_type := fun w h9 => (List.mem_cons_of_mem _ (List.mem_append_right _ h9))
  intro fu9
  induction fu9 with
  | zero => intro k j y f8 hf9; exact absurd hf9 (Nat.not_lt_zero _)
  | succ fu9 ih =>
    intro k j y f8 hf9 hkj htk hy hxt H locs ls hP hD hS hl
    rcases hy with ⟨rfl, rfl⟩ | ⟨q, rfl, rfl⟩
    · refine lv_iload hx hb dX9_type_74 (lv_at hl 3 rfl) ?_
      refine lv_if_lt (tgt := 116) hx hb dX9_type_76 (by decide) (fun _ => ?_) (fun c9 => absurd c9 (by decide))
      exact kx_116 k 0 (-1) f8 H locs ls (by omega) (hxt) hP hD hS (lv_sub hl [0, 1, 2, 3] rfl)
    · refine lv_iload hx hb dX9_type_74 (lv_at hl 3 rfl) ?_
      refine lv_if_lt (tgt := 116) hx hb dX9_type_76 (by decide) (fun c9 => absurd c9 (nI_pos (by omega))) (fun _ => ?_)
      refine lv_aload_n hx hb dX9_type_79 rfl (lv_at hl 0 rfl) ?_
      refine va_get (D := Z.1) (ci := 9) (v := .ref b8) (C := RX9) (T := TX9) (N := 31) hx hb hts hin9 hown hK hP 0 rfl rfl 9 (by decide) (hts (.fieldLink RX9 31 "HalfAskedModel" "tape" "[I") (List.mem_of_getElem? (i := 6) rfl)) (fun _ h9 => h9) rfl dX9_type_80 ?_
      refine lv_aload_n hx hb dX9_type_83 rfl (lv_at hl 0 rfl) ?_
      refine va_get (D := Z.1) (ci := 9) (v := .int (nI k)) (C := RX9) (T := TX9) (N := 31) hx hb hts hin9 hown hK hP 0 rfl rfl 10 (by decide) (hts (.fieldLink RX9 150 "HalfAskedModel" "taped" "I") (List.mem_of_getElem? (i := 5) rfl)) (fun _ h9 => h9) rfl dX9_type_84 ?_
      refine lv_lload_n hx hb dX9_type_87 rfl (lv_at hl 1 rfl) ?_
      refine lv_bipush (v := 8) hx hb dX9_type_88 (by decide) ?_
      refine lv_iload hx hb dX9_type_90 (lv_at hl 3 rfl) ?_
      refine lv_imul hx hb dX9_type_92 ?_
      refine lv_lshr hx hb dX9_type_93 rfl ?_
      refine lv_ldc2 (v := 255) hx hb hown (hts (.constantLong RX9 144 (255)) (List.mem_of_getElem? (i := 2) rfl)) dX9_type_94 ?_
      refine lv_land hx hb dX9_type_97 ?_
      refine lv_l2i hx hb dX9_type_98 rfl ?_
      refine va_iast hx hb hK hP hD hS 1 0 rfl rfl (vp_in_nI (by omega) (by decide)) dX9_type_99 (fun H locs hP hD hS => ?_)
      have hP : va_P Z.1 vwCl [(h0, .inr (9, [.ref b1, .ref b2, .ref b3, .ref b4, .int (nI n), .ref b5, .int (nI pn), .ref b6, .ref b7, .ref b8, .int (nI k), .int xp, .int xr, .ref b9, .ref b10, .ref b11, .ref b12, .ref b13, .ref b14, .ref b15, .ref b16, .ref b17, .ref b18, .int ik, .ref b19, .ref b20, .ref b21, .ref b22, .ref b23, .ref b24, .ref b25])), (b8, .inl (Z.2 0, 80, .inl (upd f8 ((nI k).toNatClampNeg) (((w >>> ((8 * (nI q)).toInt64 &&& 63)) &&& 255).toInt32))))] H := hP
      have hD : va_D A [(h0, .inr (9, [.ref b1, .ref b2, .ref b3, .ref b4, .int (nI n), .ref b5, .int (nI pn), .ref b6, .ref b7, .ref b8, .int (nI k), .int xp, .int xr, .ref b9, .ref b10, .ref b11, .ref b12, .ref b13, .ref b14, .ref b15, .ref b16, .ref b17, .ref b18, .int ik, .ref b19, .ref b20, .ref b21, .ref b22, .ref b23, .ref b24, .ref b25])), (b8, .inl (Z.2 0, 80, .inl (upd f8 ((nI k).toNatClampNeg) (((w >>> ((8 * (nI q)).toInt64 &&& 63)) &&& 255).toInt32))))] := hD
      refine lv_aload_n hx hb dX9_type_100 rfl (lv_at hl 0 rfl) ?_
      refine lv_dup hx hb dX9_type_101 rfl ?_
      refine va_get (D := Z.1) (ci := 9) (v := .int (nI k)) (C := RX9) (T := TX9) (N := 31) hx hb hts hin9 hown hK hP 0 rfl rfl 10 (by decide) (hts (.fieldLink RX9 150 "HalfAskedModel" "taped" "I") (List.mem_of_getElem? (i := 5) rfl)) (fun _ h9 => h9) rfl dX9_type_102 ?_
      refine lv_iconst (v := 1) hx hb dX9_type_105 (by decide) ?_
      refine lv_iadd hx hb dX9_type_106 ?_
      refine lv_topi (fun f_1 ef_1 => ?_)
      obtain rfl : nI (k + 1) = f_1 := (ef_1.trans (nI_1 _)).symm
      refine va_put (D := Z.1) (ci := 9) (v := .int (nI (k + 1))) (ty := .int) (C := RX9) (T := TX9) (N := 31) hx hb hts hin9 tyX9 tyX9_ok nmX9 hown hK hP hD hS 0 rfl rfl 10 (by decide) (hts (.fieldLink RX9 150 "HalfAskedModel" "taped" "I") (List.mem_of_getElem? (i := 5) rfl)) (fun _ h9 => h9) rfl (by decide +kernel) rfl rfl (Nat.le_of_ble_eq_true rfl) dX9_type_107 (fun H locs hP hD hS => ?_)
      have hP : va_P Z.1 vwCl [(h0, .inr (9, [.ref b1, .ref b2, .ref b3, .ref b4, .int (nI n), .ref b5, .int (nI pn), .ref b6, .ref b7, .ref b8, .int (nI (k + 1)), .int xp, .int xr, .ref b9, .ref b10, .ref b11, .ref b12, .ref b13, .ref b14, .ref b15, .ref b16, .ref b17, .ref b18, .int ik, .ref b19, .ref b20, .ref b21, .ref b22, .ref b23, .ref b24, .ref b25])), (b8, .inl (Z.2 0, 80, .inl (upd f8 ((nI k).toNatClampNeg) (((w >>> ((8 * (nI q)).toInt64 &&& 63)) &&& 255).toInt32))))] H := hP
      have hD : va_D A [(h0, .inr (9, [.ref b1, .ref b2, .ref b3, .ref b4, .int (nI n), .ref b5, .int (nI pn), .ref b6, .ref b7, .ref b8, .int (nI (k + 1)), .int xp, .int xr, .ref b9, .ref b10, .ref b11, .ref b12, .ref b13, .ref b14, .ref b15, .ref b16, .ref b17, .ref b18, .int ik, .ref b19, .ref b20, .ref b21, .ref b22, .ref b23, .ref b24, .ref b25])), (b8, .inl (Z.2 0, 80, .inl (upd f8 ((nI k).toNatClampNeg) (((w >>> ((8 * (nI q)).toInt64 &&& 63)) &&& 255).toInt32))))] := hD
      refine lv_iinc (v := nI q + (-1)) (lv' := [(4, .int (nI q + (-1))), (0, .ref h0), (1, .long w), (3, .int (nI N))]) hx hb dX9_type_110 hl (k := 3) rfl rfl (by decide) rfl (fun ls hl => ?_)
      refine lv_goto (tgt := 74) hx hb dX9_type_113 (by decide) ?_
      exact ih (k + 1) q (nI q + (-1)) (upd f8 ((nI k).toNatClampNeg) (((w >>> ((8 * (nI q)).toInt64 &&& 63)) &&& 255).toInt32)) (by omega) (by omega) (by omega) (z_dn_step q) (xTm_s hxt (by omega) htk htN) H locs ls hP hD hS (lv_sub hl [1, 2, 3, 0] rfl)
set_option maxHeartbeats 4000000 in
set_option maxRecDepth 100000 in
theorem c_X9_type (l : Launch) (Z : gZ) (sz : Nat) (h0 : Nat) (b1 : Nat) (b2 : Nat) (b3 : Nat) (b4 : Nat) (b5 : Nat) (b6 : Nat) (b7 : Nat) (b8 : Nat) (b9 : Nat) (b10 : Nat) (b11 : Nat) (b12 : Nat) (b13 : Nat) (b14 : Nat) (b15 : Nat) (b16 : Nat) (b17 : Nat) (b18 : Nat) (b19 : Nat) (b20 : Nat) (b21 : Nat) (b22 : Nat) (b23 : Nat) (b24 : Nat) (b25 : Nat) (n : Nat) (pn : Nat) (tn : Nat) (xp : Int32) (xr : Int32) (ik : Int32) (f8 : Nat → Int32) (w : Int64) (x : Int32) (htn : tn ≤ 80) : Met l yX9_type wsX9_type ({ frames := 2, cells := 0, slots := 0, locals := 80 }) (va_Pc [.ref h0, .long w, .int x] (fun U => U.heap.size = sz ∧ va_P Z.1 vwCl [(h0, .inr (9, [.ref b1, .ref b2, .ref b3, .ref b4, .int (nI n), .ref b5, .int (nI pn), .ref b6, .ref b7, .ref b8, .int (nI tn), .int xp, .int xr, .ref b9, .ref b10, .ref b11, .ref b12, .ref b13, .ref b14, .ref b15, .ref b16, .ref b17, .ref b18, .int ik, .ref b19, .ref b20, .ref b21, .ref b22, .ref b23, .ref b24, .ref b25])), (b8, .inl (Z.2 0, 80, .inl f8))] U.heap ∧ va_K Z.1 vwCl (gT Z) U ∧ va_D (fun _ => True) [(h0, .inr (9, [.ref b1, .ref b2, .ref b3, .ref b4, .int (nI n), .ref b5, .int (nI pn), .ref b6, .ref b7, .ref b8, .int (nI tn), .int xp, .int xr, .ref b9, .ref b10, .ref b11, .ref b12, .ref b13, .ref b14, .ref b15, .ref b16, .ref b17, .ref b18, .int ik, .ref b19, .ref b20, .ref b21, .ref b22, .ref b23, .ref b24, .ref b25])), (b8, .inl (Z.2 0, 80, .inl f8))])) (va_Qi (fun (r : Int32) (u : Nat × (Nat → Int32)) => match u with | (tn1, g8) => r = zTy tn w x ∧ tn1 = zTn tn w x ∧ xTq f8 g8 w tn tn1) (fun (u : Nat × (Nat → Int32)) (t9 : State) => match u with | (tn1, g8) => va_P Z.1 vwCl [(h0, .inr (9, [.ref b1, .ref b2, .ref b3, .ref b4, .int (nI n), .ref b5, .int (nI pn), .ref b6, .ref b7, .ref b8, .int (nI tn1), .int xp, .int xr, .ref b9, .ref b10, .ref b11, .ref b12, .ref b13, .ref b14, .ref b15, .ref b16, .ref b17, .ref b18, .int ik, .ref b19, .ref b20, .ref b21, .ref b22, .ref b23, .ref b24, .ref b25])), (b8, .inl (Z.2 0, 80, .inl g8))] t9.heap ∧ va_D (va_A [(h0, .inr (9, [.ref b1, .ref b2, .ref b3, .ref b4, .int (nI n), .ref b5, .int (nI pn), .ref b6, .ref b7, .ref b8, .int (nI tn), .int xp, .int xr, .ref b9, .ref b10, .ref b11, .ref b12, .ref b13, .ref b14, .ref b15, .ref b16, .ref b17, .ref b18, .int ik, .ref b19, .ref b20, .ref b21, .ref b22, .ref b23, .ref b24, .ref b25])), (b8, .inl (Z.2 0, 80, .inl f8))] sz) [(h0, .inr (9, [.ref b1, .ref b2, .ref b3, .ref b4, .int (nI n), .ref b5, .int (nI pn), .ref b6, .ref b7, .ref b8, .int (nI tn1), .int xp, .int xr, .ref b9, .ref b10, .ref b11, .ref b12, .ref b13, .ref b14, .ref b15, .ref b16, .ref b17, .ref b18, .int ik, .ref b19, .ref b20, .ref b21, .ref b22, .ref b23, .ref b24, .ref b25])), (b8, .inl (Z.2 0, 80, .inl g8))]) (va_A [(h0, .inr (9, [.ref b1, .ref b2, .ref b3, .ref b4, .int (nI n), .ref b5, .int (nI pn), .ref b6, .ref b7, .ref b8, .int (nI tn), .int xp, .int xr, .ref b9, .ref b10, .ref b11, .ref b12, .ref b13, .ref b14, .ref b15, .ref b16, .ref b17, .ref b18, .int ik, .ref b19, .ref b20, .ref b21, .ref b22, .ref b23, .ref b24, .ref b25])), (b8, .inl (Z.2 0, 80, .inl f8))] sz)) 0 0 (va_A [(h0, .inr (9, [.ref b1, .ref b2, .ref b3, .ref b4, .int (nI n), .ref b5, .int (nI pn), .ref b6, .ref b7, .ref b8, .int (nI tn), .int xp, .int xr, .ref b9, .ref b10, .ref b11, .ref b12, .ref b13, .ref b14, .ref b15, .ref b16, .ref b17, .ref b18, .int ik, .ref b19, .ref b20, .ref b21, .ref b22, .ref b23, .ref b24, .ref b25])), (b8, .inl (Z.2 0, 80, .inl f8))] sz) := by
  refine Met.ofW (cc := cX9_type) (maxL := 5) (ret := (some .int)) (by decide) rfl ?_
  intro p e s m args below meth c s₁ B hml hv
  obtain ⟨rfl, hsz, hP, hK, hD0⟩ := hv
  have hx := B.exec
  have hb := B.bytes
  have hr := B.returns
  have hts := atoms_spec (ws := wsX9_type) B.pre
  have hown : s.vm.findClass RX9 = some m.cls := findClass_of_methodNamed B.named
  have hlocks := B.notSynchronized
  subst hsz
  have hin9 : ∀ w ∈ wsX90, w ∈ wsX9_type := fun w h9 => (List.mem_cons_of_mem _ (List.mem_append_right _ h9))
  have hD := hD0.self (sz := s.heap.size)
  generalize hAe : va_A [(h0, .inr (9, [.ref b1, .ref b2, .ref b3, .ref b4, .int (nI n), .ref b5, .int (nI pn), .ref b6, .ref b7, .ref b8, .int (nI tn), .int xp, .int xr, .ref b9, .ref b10, .ref b11, .ref b12, .ref b13, .ref b14, .ref b15, .ref b16, .ref b17, .ref b18, .int ik, .ref b19, .ref b20, .ref b21, .ref b22, .ref b23, .ref b24, .ref b25])), (b8, .inl (Z.2 0, 80, .inl f8))] s.heap.size = A at hD ⊢
  have hA : ∀ q : Nat, s.heap.size ≤ q → A q := fun q h => by rw [← hAe]; exact Or.inr h
  have hS : va_S A s.heap s.heap [] := va_S.rf
  have hP : va_P Z.1 vwCl [(h0, .inr (9, [.ref b1, .ref b2, .ref b3, .ref b4, .int (nI n), .ref b5, .int (nI pn), .ref b6, .ref b7, .ref b8, .int (nI tn), .int xp, .int xr, .ref b9, .ref b10, .ref b11, .ref b12, .ref b13, .ref b14, .ref b15, .ref b16, .ref b17, .ref b18, .int ik, .ref b19, .ref b20, .ref b21, .ref b22, .ref b23, .ref b24, .ref b25])), (b8, .inl (Z.2 0, 80, .inl f8))] s.heap := hP
  have hl := lv_entry ([.ref h0, .long w, .int x]) (n := 5) (Nat.le_of_ble_eq_true rfl)
  rw [lg_entry_eq]
  generalize (lg_sl ([.ref h0, .long w, .int x]) ++ List.replicate (5 - (lg_sl ([.ref h0, .long w, .int x])).length) Slot.unset).toArray = ls at hl ⊢
  have hl : lv_has ls 5 [(0, .ref h0), (1, .long w), (3, .int x)] := hl
  refine lv_iload_n hx hb dX9_type_0 rfl (lv_at hl 2 rfl) ?_
  refine lv_i2l hx hb dX9_type_1 rfl ?_
  refine lv_lconst (v := 1) hx hb dX9_type_2 (by decide) ?_
  refine lv_ldc2 (v := 8) hx hb hown (hts (.constantLong RX9 142 (8)) (List.mem_of_getElem? (i := 1) rfl)) dX9_type_3 ?_
  have hPc := hP.sub (ws' := []) [] rfl
  have hDc := hD.sub (ws' := []) [] (by decide +kernel) rfl
  have hFc := va_free (wc := []) hD hS hA [] rfl
  refine va_calli (va_runS (As := [.long x.toInt64, .long 1, .long 8]) (rest := []) ⟨hx, hb, hml, hown, hts⟩ (c_X9_in l Z s.heap.size x.toInt64 1 8) (va_cwS 3 hts gX9_type_X9_in rfl rfl rfl (by decide +kernel) ⟨Nat.le_of_ble_eq_true rfl, Nat.le_of_ble_eq_true rfl⟩) ⟨fun a U g mk q => by obtain ⟨q0, q1, qP, qK, qD⟩ := q; exact ⟨q0, q1, qP, va_K.moved (u := U) (U := U.calling g mk a) (Vm.Alike.refl U.vm) qK, qD⟩, fun U hU hW => ⟨rfl, by rw [hU], by rw [hU]; exact hPc, va_K.moved hW.alike hK, hDc.weaken (fun _ _ _ _ => trivial)⟩⟩ rfl rfl hl.1 rfl (lv_room (Nat.le_of_ble_eq_true rfl)) dX9_type_6 ⟨Nat.le_of_ble_eq_true rfl, Nat.le_of_ble_eq_true rfl⟩) hS (fun q _ h => hFc q h) hFc (fun r_1 u t9 H1 locs ht hvm hw hB hz1 hk1 hS => ?_)
  have hw9 := hw.symm
  clear hw
  subst hw9
  have hP1 : va_P Z.1 vwCl [] H1 := fun k q h => by simp at h
  have hD1 : va_D (va_A [] s.heap.size) [] := ⟨fun i j p q h => by simp at h, fun k q h => by simp at h⟩
  obtain ⟨hP, hD⟩ := va_join (wr := [(h0, .inr (9, [.ref b1, .ref b2, .ref b3, .ref b4, .int (nI n), .ref b5, .int (nI pn), .ref b6, .ref b7, .ref b8, .int (nI tn), .int xp, .int xr, .ref b9, .ref b10, .ref b11, .ref b12, .ref b13, .ref b14, .ref b15, .ref b16, .ref b17, .ref b18, .int ik, .ref b19, .ref b20, .ref b21, .ref b22, .ref b23, .ref b24, .ref b25])), (b8, .inl (Z.2 0, 80, .inl f8))]) (w1 := []) hP hD [] [0, 1] rfl rfl (by decide +kernel) (by decide +kernel) hk1 hFc hP1 hD1
  clear hPc hDc hP1 hD1 hk1 hz1 hFc ht hvm
  generalize H1 = H at hP hS ⊢
  have hP : va_P Z.1 vwCl [(h0, .inr (9, [.ref b1, .ref b2, .ref b3, .ref b4, .int (nI n), .ref b5, .int (nI pn), .ref b6, .ref b7, .ref b8, .int (nI tn), .int xp, .int xr, .ref b9, .ref b10, .ref b11, .ref b12, .ref b13, .ref b14, .ref b15, .ref b16, .ref b17, .ref b18, .int ik, .ref b19, .ref b20, .ref b21, .ref b22, .ref b23, .ref b24, .ref b25])), (b8, .inl (Z.2 0, 80, .inl f8))] H := hP
  have hD : va_D A [(h0, .inr (9, [.ref b1, .ref b2, .ref b3, .ref b4, .int (nI n), .ref b5, .int (nI pn), .ref b6, .ref b7, .ref b8, .int (nI tn), .int xp, .int xr, .ref b9, .ref b10, .ref b11, .ref b12, .ref b13, .ref b14, .ref b15, .ref b16, .ref b17, .ref b18, .int ik, .ref b19, .ref b20, .ref b21, .ref b22, .ref b23, .ref b24, .ref b25])), (b8, .inl (Z.2 0, 80, .inl f8))] := hD
  refine lv_if_ne (tgt := 14) hx hb dX9_type_9 (by decide) (fun c_2 => ?_) (fun c_2 => ?_)
  · obtain ⟨N, hN1, hN8, rfl⟩ := z_in8 c_2
    refine lv_iload_n hx hb dX9_type_14 rfl (lv_at hl 2 rfl) ?_
    refine lv_iconst (v := 1) hx hb dX9_type_15 (by decide) ?_
    refine lv_isub hx hb dX9_type_16 ?_
    refine lv_istore (lv' := [(4, .int ((nI N) - 1)), (0, .ref h0), (1, .long w), (3, .int (nI N))]) hx hb dX9_type_17 hl (by decide) rfl (fun ls hl => ?_)
    refine lp_X9_type1 Z h0 b1 b2 b3 b4 b5 b6 b7 b8 b9 b10 b11 b12 b13 b14 b15 b16 b17 b18 b19 b20 b21 b22 b23 b24 b25 n pn tn xp xr ik f8 w N hN8 hx hb hml hts hown hK hA (fun j y H locs ls hz hP hD hS hl => ?_) (fun j y H locs ls hz hP hD hS hl => ?_) (N + 1) N (nI N - 1) (by omega) (Nat.le_refl _) (z_dn_start N) (fun z h1 h2 => absurd h2 (by omega)) H _ ls hP hD hS (lv_sub hl [1, 2, 3, 0] rfl)
    · refine lv_iconst (v := (-1)) hx hb dX9_type_47 (by decide) ?_
      have hP9 := hP.sub (ws' := [(h0, .inr (9, [.ref b1, .ref b2, .ref b3, .ref b4, .int (nI n), .ref b5, .int (nI pn), .ref b6, .ref b7, .ref b8, .int (nI tn), .int xp, .int xr, .ref b9, .ref b10, .ref b11, .ref b12, .ref b13, .ref b14, .ref b15, .ref b16, .ref b17, .ref b18, .int ik, .ref b19, .ref b20, .ref b21, .ref b22, .ref b23, .ref b24, .ref b25])), (b8, .inl (Z.2 0, 80, .inl f8))]) [0, 1] rfl
      have hD9 := hD.sub (ws' := [(h0, .inr (9, [.ref b1, .ref b2, .ref b3, .ref b4, .int (nI n), .ref b5, .int (nI pn), .ref b6, .ref b7, .ref b8, .int (nI tn), .int xp, .int xr, .ref b9, .ref b10, .ref b11, .ref b12, .ref b13, .ref b14, .ref b15, .ref b16, .ref b17, .ref b18, .int ik, .ref b19, .ref b20, .ref b21, .ref b22, .ref b23, .ref b24, .ref b25])), (b8, .inl (Z.2 0, 80, .inl f8))]) [0, 1] (by decide +kernel) rfl
      exact W.iret (v := (-1)) hx hb hr (fun t9 ht hW => ⟨⟨(-1), (tn, f8), rfl, ⟨(zT_bad hN8 hz).1, (zT_bad hN8 hz).2, xTq_no⟩, by rw [ht]; exact hP9, hD9⟩, hS.F ht⟩) hS.2.2 dX9_type_48
    · refine lv_aload_n hx hb dX9_type_55 rfl (lv_at hl 0 rfl) ?_
      refine va_get (D := Z.1) (ci := 9) (v := .int (nI tn)) (C := RX9) (T := TX9) (N := 31) hx hb hts hin9 hown hK hP 0 rfl rfl 10 (by decide) (hts (.fieldLink RX9 150 "HalfAskedModel" "taped" "I") (List.mem_of_getElem? (i := 5) rfl)) (fun _ h9 => h9) rfl dX9_type_56 ?_
      refine lv_iload_n hx hb dX9_type_59 rfl (lv_at hl 2 rfl) ?_
      refine lv_iadd hx hb dX9_type_60 ?_
      refine lv_topi (fun f_3 ef_3 => ?_)
      obtain rfl : nI (tn + N) = f_3 := (ef_3.trans (nI_add tn N)).symm
      refine lv_bipush (v := 80) hx hb dX9_type_61 (by decide) ?_
      refine lv_icmp_le (tgt := 69) hx hb dX9_type_63 (by decide) (fun c_4 => ?_) (fun c_4 => ?_)
      · refine lv_iload_n hx hb dX9_type_69 rfl (lv_at hl 2 rfl) ?_
        refine lv_iconst (v := 1) hx hb dX9_type_70 (by decide) ?_
        refine lv_isub hx hb dX9_type_71 ?_
        refine lv_istore (lv' := [(4, .int ((nI N) - 1)), (0, .ref h0), (1, .long w), (3, .int (nI N))]) hx hb dX9_type_72 hl (by decide) rfl (fun ls hl => ?_)
        have htN := (z_sum2 htn hN8).mp c_4
        refine lp_X9_type2 Z h0 b1 b2 b3 b4 b5 b6 b7 b8 b9 b10 b11 b12 b13 b14 b15 b16 b17 b18 b19 b20 b21 b22 b23 b24 b25 n pn tn xp xr ik w N f8 hN8 htN hx hb hml hts hown hK hA (fun k j y' g8' H locs ls he hxt hP hD hS hl => ?_) (N + 1) tn N (nI N - 1) f8 (by omega) (by omega) (Nat.le_refl _) (z_dn_start N) (⟨fun z _ => rfl, fun z h1 h2 => absurd h2 (by omega)⟩) H _ ls hP hD hS (lv_sub hl [1, 2, 3, 0] rfl)
        subst he
        refine lv_aload_n hx hb dX9_type_116 rfl (lv_at hl 0 rfl) ?_
        refine va_get (D := Z.1) (ci := 9) (v := .int (nI (tn + N))) (C := RX9) (T := TX9) (N := 31) hx hb hts hin9 hown hK hP 0 rfl rfl 10 (by decide) (hts (.fieldLink RX9 150 "HalfAskedModel" "taped" "I") (List.mem_of_getElem? (i := 5) rfl)) (fun _ h9 => h9) rfl dX9_type_117 ?_
        have hP9 := hP.sub (ws' := [(h0, .inr (9, [.ref b1, .ref b2, .ref b3, .ref b4, .int (nI n), .ref b5, .int (nI pn), .ref b6, .ref b7, .ref b8, .int (nI (tn + N)), .int xp, .int xr, .ref b9, .ref b10, .ref b11, .ref b12, .ref b13, .ref b14, .ref b15, .ref b16, .ref b17, .ref b18, .int ik, .ref b19, .ref b20, .ref b21, .ref b22, .ref b23, .ref b24, .ref b25])), (b8, .inl (Z.2 0, 80, .inl g8'))]) [0, 1] rfl
        have hD9 := hD.sub (ws' := [(h0, .inr (9, [.ref b1, .ref b2, .ref b3, .ref b4, .int (nI n), .ref b5, .int (nI pn), .ref b6, .ref b7, .ref b8, .int (nI (tn + N)), .int xp, .int xr, .ref b9, .ref b10, .ref b11, .ref b12, .ref b13, .ref b14, .ref b15, .ref b16, .ref b17, .ref b18, .int ik, .ref b19, .ref b20, .ref b21, .ref b22, .ref b23, .ref b24, .ref b25])), (b8, .inl (Z.2 0, 80, .inl g8'))]) [0, 1] (by decide +kernel) rfl
        exact W.iret (v := (nI (tn + N))) hx hb hr (fun t9 ht hW => ⟨⟨nI (tn + N), ((tn + N), g8'), rfl, ⟨(zT_yes hN1 hN8 hz htN).1, (zT_yes hN1 hN8 hz htN).2, xTq_yes hxt⟩, by rw [ht]; exact hP9, hD9⟩, hS.F ht⟩) hS.2.2 dX9_type_120
      · refine lv_bipush (v := (-3)) hx hb dX9_type_66 (by decide) ?_
        have hP9 := hP.sub (ws' := [(h0, .inr (9, [.ref b1, .ref b2, .ref b3, .ref b4, .int (nI n), .ref b5, .int (nI pn), .ref b6, .ref b7, .ref b8, .int (nI tn), .int xp, .int xr, .ref b9, .ref b10, .ref b11, .ref b12, .ref b13, .ref b14, .ref b15, .ref b16, .ref b17, .ref b18, .int ik, .ref b19, .ref b20, .ref b21, .ref b22, .ref b23, .ref b24, .ref b25])), (b8, .inl (Z.2 0, 80, .inl f8))]) [0, 1] rfl
        have hD9 := hD.sub (ws' := [(h0, .inr (9, [.ref b1, .ref b2, .ref b3, .ref b4, .int (nI n), .ref b5, .int (nI pn), .ref b6, .ref b7, .ref b8, .int (nI tn), .int xp, .int xr, .ref b9, .ref b10, .ref b11, .ref b12, .ref b13, .ref b14, .ref b15, .ref b16, .ref b17, .ref b18, .int ik, .ref b19, .ref b20, .ref b21, .ref b22, .ref b23, .ref b24, .ref b25])), (b8, .inl (Z.2 0, 80, .inl f8))]) [0, 1] (by decide +kernel) rfl
        exact W.iret (v := (-3)) hx hb hr (fun t9 ht hW => ⟨⟨(-3), (tn, f8), rfl, ⟨(zT_full hN1 hN8 hz (fun q => c_4 ((z_sum2 htn hN8).mpr q))).1, (zT_full hN1 hN8 hz (fun q => c_4 ((z_sum2 htn hN8).mpr q))).2, xTq_no⟩, by rw [ht]; exact hP9, hD9⟩, hS.F ht⟩) hS.2.2 dX9_type_68
  · refine lv_iconst (v := (-1)) hx hb dX9_type_12 (by decide) ?_
    have hP9 := hP.sub (ws' := [(h0, .inr (9, [.ref b1, .ref b2, .ref b3, .ref b4, .int (nI n), .ref b5, .int (nI pn), .ref b6, .ref b7, .ref b8, .int (nI tn), .int xp, .int xr, .ref b9, .ref b10, .ref b11, .ref b12, .ref b13, .ref b14, .ref b15, .ref b16, .ref b17, .ref b18, .int ik, .ref b19, .ref b20, .ref b21, .ref b22, .ref b23, .ref b24, .ref b25])), (b8, .inl (Z.2 0, 80, .inl f8))]) [0, 1] rfl
    have hD9 := hD.sub (ws' := [(h0, .inr (9, [.ref b1, .ref b2, .ref b3, .ref b4, .int (nI n), .ref b5, .int (nI pn), .ref b6, .ref b7, .ref b8, .int (nI tn), .int xp, .int xr, .ref b9, .ref b10, .ref b11, .ref b12, .ref b13, .ref b14, .ref b15, .ref b16, .ref b17, .ref b18, .int ik, .ref b19, .ref b20, .ref b21, .ref b22, .ref b23, .ref b24, .ref b25])), (b8, .inl (Z.2 0, 80, .inl f8))]) [0, 1] (by decide +kernel) rfl
    exact W.iret (v := (-1)) hx hb hr (fun t9 ht hW => ⟨⟨(-1), (tn, f8), rfl, ⟨(zT_in c_2).1, (zT_in c_2).2, xTq_no⟩, by rw [ht]; exact hP9, hD9⟩, hS.F ht⟩) hS.2.2 dX9_type_13
