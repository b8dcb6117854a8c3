/-- n items from i on are there -/
def zRe (len : Nat) (i n : Int32) : Prop := 0 ≤ n.toInt ∧ 0 ≤ i.toInt ∧ i.toInt + n.toInt ≤ len
noncomputable def zCopyA (sl : zSL) (a i b j n : Int32) : Int32 := zI (vp_in a 4 ∧ vp_in b 4) (match sl a.toNatClampNeg, sl b.toNatClampNeg with | some (l1, n1), some (l2, n2) => zI (l1 = l2) (zI (zRe n1 i n ∧ zRe n2 j n) n (-13)) (-12) | _, _ => -11) (-1)
theorem zCopy_11 {sl : zSL} {f g : Nat → Int32} {a i b j n : Int32} (h : zSl sl f g) (ha : vp_in a 4) (hb : vp_in b 4) (h2 : f a.toNatClampNeg < 0 ∨ f b.toNatClampNeg < 0) : (-11) = zCopyA sl a i b j n := by
  have e0 : (0 : Int32).toInt = 0 := by decide
  unfold zCopyA
  rw [zI_p ⟨ha, hb⟩]
  rcases h _ (z_cl ha) with ⟨e2, -⟩ | ⟨ln, len, e2, e3, h3, -⟩
  · rw [e2]
  · rcases h _ (z_cl hb) with ⟨k2, -⟩ | ⟨lm, lem, k2, k3, g3, -⟩
    · rw [e2, k2]
    · rw [e3, k3, Int32.lt_iff_toInt_lt, Int32.lt_iff_toInt_lt] at h2; rw [vp_in_iff] at h3 g3; omega
theorem zCopy_ss {sl : zSL} {f g : Nat → Int32} {a : Int32} (h : zSl sl f g) (ha : vp_in a 4) (h2 : ¬ f a.toNatClampNeg < 0) : ∃ len, sl a.toNatClampNeg = some (f a.toNatClampNeg, len) ∧ g a.toNatClampNeg = nI len ∧ len ≤ 24 := by
  rcases h _ (z_cl ha) with ⟨-, e3⟩ | ⟨ln, len, e2, e3, -, e4, hl⟩
  · rw [e3] at h2; exact absurd (by decide) h2
  · exact ⟨len, by rw [e3]; exact e2, e4, hl⟩
theorem zCopy_12 {sl : zSL} {f g : Nat → Int32} {a i b j n : Int32} (h : zSl sl f g) (ha : vp_in a 4) (hb : vp_in b 4) (h1 : ¬ f a.toNatClampNeg < 0) (h2 : ¬ f b.toNatClampNeg < 0) (h3 : ¬ f a.toNatClampNeg = f b.toNatClampNeg) : (-12) = zCopyA sl a i b j n := by
  unfold zCopyA
  obtain ⟨l1, e1, -⟩ := zCopy_ss h ha h1
  obtain ⟨l2, e2, -⟩ := zCopy_ss h hb h2
  rw [zI_p ⟨ha, hb⟩, e1, e2]
  exact (zI_n h3).symm
theorem zCopy_g {sl : zSL} {f : Nat → Int32} {a i b j n : Int32} {l1 l2 : Nat} (ha : vp_in a 4) (hb : vp_in b 4) (e1 : sl a.toNatClampNeg = some (f a.toNatClampNeg, l1)) (e2 : sl b.toNatClampNeg = some (f b.toNatClampNeg, l2)) (h3 : f a.toNatClampNeg = f b.toNatClampNeg) : zCopyA sl a i b j n = zI (zRe l1 i n ∧ zRe l2 j n) n (-13) := by
  unfold zCopyA
  rw [zI_p ⟨ha, hb⟩, e1, e2]
  exact zI_p h3
theorem z_neg0 {i n : Int32} {len : Nat} (h : n < 0) : ¬ zRe len i n := by
  intro q
  have h1 := q.1
  rw [Int32.lt_iff_toInt_lt] at h
  have e0 : (0 : Int32).toInt = 0 := by decide
  omega
theorem z_re {i n : Int32} {len : Nat} (hl : len ≤ 24) (hn : ¬ n < 0) : (¬ (if i.toInt64 < 0 then (0 : Int32) else (if (nI len).toInt64 - n.toInt64 < i.toInt64 then (0 : Int32) else (1 : Int32))) = 0 → zRe len i n) ∧ ((if i.toInt64 < 0 then (0 : Int32) else (if (nI len).toInt64 - n.toInt64 < i.toInt64 then (0 : Int32) else (1 : Int32))) = 0 → ¬ zRe len i n) := by
  have e0 : (0 : Int32).toInt = 0 := by decide
  have e00 : (0 : Int64).toInt = 0 := by decide
  rw [Int32.lt_iff_toInt_lt] at hn
  have hb := Int32.toInt_lt n
  have em : ((nI len).toInt64 - n.toInt64).toInt = (len : Int) - n.toInt := by rw [Int64.toInt_sub, Int32.toInt_toInt64, Int32.toInt_toInt64, nI_toInt (by omega)]; exact Int.bmod_eq_of_le (by omega) (by omega)
  constructor
  · intro h
    by_cases q1 : i.toInt64 < 0
    · exact absurd (if_pos q1) h
    · by_cases q2 : (nI len).toInt64 - n.toInt64 < i.toInt64
      · exact absurd (by rw [if_neg q1, if_pos q2]) h
      · rw [Int64.lt_iff_toInt_lt, Int32.toInt_toInt64] at q1 q2
        rw [em] at q2
        exact ⟨by omega, by omega, by omega⟩
  · intro h q
    obtain ⟨a1, a2, a3⟩ := q
    have q1 : ¬ i.toInt64 < 0 := by rw [Int64.lt_iff_toInt_lt, Int32.toInt_toInt64]; omega
    have q2 : ¬ (nI len).toInt64 - n.toInt64 < i.toInt64 := by rw [Int64.lt_iff_toInt_lt, Int32.toInt_toInt64, em]; omega
    rw [if_neg q1, if_neg q2] at h
    exact absurd h (by decide)
noncomputable def imCopy (sl : zSL) (im : zIM) (a i b j n : Int32) : zIM := zI (0 ≤ zCopyA sl a i b j n) (fun t z => if t = b.toNatClampNeg ∧ j.toNatClampNeg ≤ z ∧ z < j.toNatClampNeg + n.toNatClampNeg then im a.toNatClampNeg (i.toNatClampNeg + (z - j.toNatClampNeg)) else im t z) im
theorem im_copyN {sl : zSL} {im : zIM} {a i b j n x : Int32} {g : Nat → Int64} (h : zIm sl im g) (e : x = zCopyA sl a i b j n) (hx : x < 0) : zIm sl (imCopy sl im a i b j n) g := by
  unfold imCopy
  rw [zI_n (fun q => Int32.not_lt.mpr (by rw [e]; exact q) hx)]
  exact h
theorem im_copyY {sl : zSL} {im : zIM} {a i b j n ln : Int32} {t u0 t2 u2 m0 l1 : Nat} {f g : Nat → Int32} {s mv s1 : Nat → Int64} (h : zIm sl im s) (hs : zSl sl f g) (ea : a = nI t) (ei : i = nI u0) (eb : b = nI t2) (ej : j = nI u2) (en : n = nI m0) (ht : t < 4) (ht2 : t2 < 4) (hu : u0 + m0 ≤ 24) (hu2 : u2 + m0 ≤ 24) (e1 : sl a.toNatClampNeg = some (ln, l1)) (hl : i.toInt + n.toInt ≤ l1) (e : n = zCopyA sl a i b j n) (hm : ∀ z, z < m0 → mv z = s (24 * t + u0 + z)) (h1 : rwN mv (24 * t2 + u2) m0 s s1) : zIm sl (imCopy sl im a i b j n) s1 := by
  unfold imCopy
  rw [zI_p (show 0 ≤ zCopyA sl a i b j n by rw [← e, en]; exact nI_pos' (by omega))]
  subst ea ei eb ej en
  rw [nI_clamp (show t < 2 ^ 31 by omega)] at e1
  rw [nI_toInt (by omega), nI_toInt (by omega)] at hl
  rw [nI_clamp (show t < 2 ^ 31 by omega), nI_clamp (show u0 < 2 ^ 31 by omega), nI_clamp (show t2 < 2 ^ 31 by omega), nI_clamp (show u2 < 2 ^ 31 by omega), nI_clamp (show m0 < 2 ^ 31 by omega)]
  intro t1 ht1 lm len k1 z hz
  have h24 := zSl_24 hs ht1 k1
  show s1 (24 * t1 + z) = if t1 = t2 ∧ u2 ≤ z ∧ z < u2 + m0 then im t (u0 + (z - u2)) else im t1 z
  rw [h1]
  by_cases c : t1 = t2 ∧ u2 ≤ z ∧ z < u2 + m0
  · rw [if_pos c, if_pos ⟨by omega, by omega⟩, show 24 * t1 + z - (24 * t2 + u2) = z - u2 by omega, hm _ (by omega), Nat.add_assoc]
    exact h t ht ln l1 e1 _ (by omega)
  · rw [if_neg c, if_neg (by omega)]; exact h t1 ht1 lm len k1 z hz
theorem mv_s {s g : Nat → Int64} {q j k k2 : Nat} (h : ∀ z, z < j → g z = s (q + z)) (hk : k = j) (hk2 : k2 = q + j) : ∀ z, z < j + 1 → vp_updL g k (s k2) z = s (q + z) := by
  intro z hz
  subst hk hk2
  by_cases e : z = k
  · rw [e, vl_s]
  · rw [vl_n e]; exact h z (by omega)
set_option maxHeartbeats 4000000 in
set_option maxRecDepth 100000 in
theorem lp_X9_copy1 {p : Program} {l : Launch} {e : Env} {s : State} {m : MethodId} {args : Array Value} {below : List Frame} {meth : Method} {c : Code} {Q : State → Prop} {A : Nat → Prop} (Z : gZ) (h0 : Nat) (b1 : Nat) (b2 : Nat) (b3 : Nat) (b4 : Nat) (b5 : Nat) (b6 : Nat) (b7 : Nat) (b8 : Nat) (b9 : Nat) (b10 : Nat) (b11 : Nat) (b12 : Nat) (b13 : Nat) (b14 : Nat) (b15 : Nat) (b16 : Nat) (b17 : Nat) (b18 : Nat) (b19 : Nat) (b20 : Nat) (b21 : Nat) (b22 : Nat) (b23 : Nat) (b24 : Nat) (b25 : Nat) (n : Nat) (pn : Nat) (tn : Nat) (xp : Int32) (xr : Int32) (ik : Int32) (f20 : Nat → Int32) (f21 : Nat → Int32) (f22 : Nat → Int64) (t : Nat) (u0 : Nat) (t2 : Nat) (u2 : Nat) (mz : Nat) (ht : t < 4) (hu : u0 + mz ≤ 24) (ht2 : t2 < 4) (hu2 : u2 + mz ≤ 24) (hx : p.tables.exec = Jvm.exec) (hb : c.code = cX9_copy) (hml : c.maxLocals = 7) (hts : ∀ w ∈ wsX9_copy, w.before args s = true) (hown : s.vm.findClass RX9 = some m.cls) (hK : va_K Z.1 vwCl (gT Z) s) (hA : ∀ q : Nat, s.heap.size ≤ q → A q) (kx_151 : ∀ (j : Nat) (f23 : Nat → Int64) (H : Heap) (locs : List Loc) (ls : Array Slot), (∀ z, z < mz → f23 z = f22 (24 * t + u0 + z)) → va_P Z.1 vwCl [(h0, .inr (9, [.ref b1, .ref b2, .ref b3, .ref b4, .int (nI n), .ref b5, .int (nI pn), .ref b6, .ref b7, .ref b8, .int (nI tn), .int xp, .int xr, .ref b9, .ref b10, .ref b11, .ref b12, .ref b13, .ref b14, .ref b15, .ref b16, .ref b17, .ref b18, .int ik, .ref b19, .ref b20, .ref b21, .ref b22, .ref b23, .ref b24, .ref b25])), (b20, .inl (Z.2 0, 4, .inl f20)), (b21, .inl (Z.2 0, 4, .inl f21)), (b22, .inl (Z.2 2, 96, .inr (.inl f22))), (b23, .inl (Z.2 2, 24, .inr (.inl f23)))] H → va_D A [(h0, .inr (9, [.ref b1, .ref b2, .ref b3, .ref b4, .int (nI n), .ref b5, .int (nI pn), .ref b6, .ref b7, .ref b8, .int (nI tn), .int xp, .int xr, .ref b9, .ref b10, .ref b11, .ref b12, .ref b13, .ref b14, .ref b15, .ref b16, .ref b17, .ref b18, .int ik, .ref b19, .ref b20, .ref b21, .ref b22, .ref b23, .ref b24, .ref b25])), (b20, .inl (Z.2 0, 4, .inl f20)), (b21, .inl (Z.2 0, 4, .inl f21)), (b22, .inl (Z.2 2, 96, .inr (.inl f22))), (b23, .inl (Z.2 2, 24, .inr (.inl f23)))] → va_S A s.heap H locs → lv_has ls 7 [(0, .ref h0), (1, .int (nI t)), (2, .int (nI u0)), (3, .int (nI t2)), (4, .int (nI u2)), (5, .int (nI mz)), (6, .int (nI j))] → W p l e ({ frames := 1, cells := 0, slots := 0, locals := 40 } : Room) s m args below meth c H locs 0 0 Q (F0 m 151 ls [])) : ∀ (fu9 : Nat) (j : Nat) (f23 : Nat → Int64), mz - j < fu9 → (j ≤ mz) → (∀ z, z < j → f23 z = f22 (24 * t + u0 + z)) → ∀ (H : Heap) (locs : List Loc) (ls : Array Slot), va_P Z.1 vwCl [(h0, .inr (9, [.ref b1, .ref b2, .ref b3, .ref b4, .int (nI n), .ref b5, .int (nI pn), .ref b6, .ref b7, .ref b8, .int (nI tn), .int xp, .int xr, .ref b9, .ref b10, .ref b11, .ref b12, .ref b13, .ref b14, .ref b15, .ref b16, .ref b17, .ref b18, .int ik, .ref b19, .ref b20, .ref b21, .ref b22, .ref b23, .ref b24, .ref b25])), (b20, .inl (Z.2 0, 4, .inl f20)), (b21, .inl (Z.2 0, 4, .inl f21)), (b22, .inl (Z.2 2, 96, .inr (.inl f22))), (b23, .inl (Z.2 2, 24, .inr (.inl f23)))] H → va_D A [(h0, .inr (9, [.ref b1, .ref b2, .ref b3, .ref b4, .int (nI n), .ref b5, .int (nI pn), .ref b6, .ref b7, .ref b8, .int (nI tn), .int xp, .int xr, .ref b9, .ref b10, .ref b11, .ref b12, .ref b13, .ref b14, .ref b15, .ref b16, .ref b17, .ref b18, .int ik, .ref b19, .ref b20, .ref b21, .ref b22, .ref b23, .ref b24, .ref b25])), (b20, .inl (Z.2 0, 4, .inl f20)), (b21, .inl (Z.2 0, 4, .inl f21)), (b22, .inl (Z.2 2, 96, .inr (.inl f22))), (b23, .inl (Z.2 2, 24, .inr (.inl f23)))] → va_S A s.heap H locs → lv_has ls 7 [(0, .ref h0), (1, .int (nI t)), (2, .int (nI u0)), (3, .int (nI t2)), (4, .int (nI u2)), (5, .int (nI mz)), (6, .int (nI j))] → W p l e ({ frames := 1, cells := 0, slots := 0, locals := 40 } : Room) s m args below meth c H locs 0 0 Q (F0 m 117 ls []) := by
  have hin9 : ∀ w ∈ wsX90, w ∈ wsX9_copy := fun w h9 => (List.mem_cons_of_mem _ (List.mem_append_right _ h9))
  intro fu9
  induction fu9 with
  | zero => intro j f23 hf9; exact absurd hf9 (Nat.not_lt_zero _)
  | succ fu9 ih =>
    intro j f23 hf9 hj hM H locs ls hP hD hS hl
    refine lv_iload hx hb dX9_copy_117 (lv_at hl 6 rfl) ?_
    refine lv_iload hx hb dX9_copy_119 (lv_at hl 5 rfl) ?_
    refine lv_icmp_ge (tgt := 151) hx hb dX9_copy_121 (by decide) (fun c_1 => ?_) (fun c_1 => ?_)
    · exact kx_151 j f23 H locs ls (by have e9 : j = mz := Nat.le_antisymm hj ((nI_leI (by omega) (by omega)).mp c_1); rw [e9] at hM; exact hM) hP hD hS (lv_sub hl [0, 1, 2, 3, 4, 5, 6] rfl)
    · have hlt : j < mz := z_clt (by omega) hj c_1
      refine lv_aload_n hx hb dX9_copy_124 rfl (lv_at hl 0 rfl) ?_
      refine va_get (D := Z.1) (ci := 9) (v := .ref b23) (C := RX9) (T := TX9) (N := 31) hx hb hts hin9 hown hK hP 0 rfl rfl 28 (by decide) (hts (.fieldLink RX9 77 "HalfAskedModel" "moved" "[J") (List.mem_of_getElem? (i := 4) rfl)) (fun _ h9 => h9) rfl dX9_copy_125 ?_
      refine lv_iload hx hb dX9_copy_128 (lv_at hl 6 rfl) ?_
      refine lv_aload_n hx hb dX9_copy_130 rfl (lv_at hl 0 rfl) ?_
      refine va_get (D := Z.1) (ci := 9) (v := .ref b22) (C := RX9) (T := TX9) (N := 31) hx hb hts hin9 hown hK hP 0 rfl rfl 27 (by decide) (hts (.fieldLink RX9 74 "HalfAskedModel" "items" "[J") (List.mem_of_getElem? (i := 5) rfl)) (fun _ h9 => h9) rfl dX9_copy_131 ?_
      refine lv_bipush (v := 24) hx hb dX9_copy_134 (by decide) ?_
      refine lv_iload_n hx hb dX9_copy_136 rfl (lv_at hl 1 rfl) ?_
      refine lv_imul hx hb dX9_copy_137 ?_
      refine lv_topi (fun f_2 ef_2 => ?_)
      obtain rfl : nI (24 * t) = f_2 := (ef_2.trans (pk_mul 24 t)).symm
      refine lv_iload_n hx hb dX9_copy_138 rfl (lv_at hl 2 rfl) ?_
      refine lv_iadd hx hb dX9_copy_139 ?_
      refine lv_topi (fun f_3 ef_3 => ?_)
      obtain rfl : nI ((24 * t) + u0) = f_3 := (ef_3.trans (nI_add (24 * t) u0)).symm
      refine lv_iload hx hb dX9_copy_140 (lv_at hl 6 rfl) ?_
      refine lv_iadd hx hb dX9_copy_142 ?_
      refine lv_topi (fun f_4 ef_4 => ?_)
      obtain rfl : nI (((24 * t) + u0) + j) = f_4 := (ef_4.trans (nI_add ((24 * t) + u0) j)).symm
      refine va_lald hx hb hK hP 3 2 rfl rfl (vp_in_nI (by omega) (by decide)) dX9_copy_143 ?_
      refine va_last hx hb hK hP hD hS 4 2 rfl rfl (vp_in_nI (by omega) (by decide)) dX9_copy_144 (fun H locs hP hD hS => ?_)
      have hP : va_P Z.1 vwCl [(h0, .inr (9, [.ref b1, .ref b2, .ref b3, .ref b4, .int (nI n), .ref b5, .int (nI pn), .ref b6, .ref b7, .ref b8, .int (nI tn), .int xp, .int xr, .ref b9, .ref b10, .ref b11, .ref b12, .ref b13, .ref b14, .ref b15, .ref b16, .ref b17, .ref b18, .int ik, .ref b19, .ref b20, .ref b21, .ref b22, .ref b23, .ref b24, .ref b25])), (b20, .inl (Z.2 0, 4, .inl f20)), (b21, .inl (Z.2 0, 4, .inl f21)), (b22, .inl (Z.2 2, 96, .inr (.inl f22))), (b23, .inl (Z.2 2, 24, .inr (.inl (vp_updL f23 ((nI j).toNatClampNeg) (f22 (nI (((24 * t) + u0) + j)).toNatClampNeg)))))] H := hP
      have hD : va_D A [(h0, .inr (9, [.ref b1, .ref b2, .ref b3, .ref b4, .int (nI n), .ref b5, .int (nI pn), .ref b6, .ref b7, .ref b8, .int (nI tn), .int xp, .int xr, .ref b9, .ref b10, .ref b11, .ref b12, .ref b13, .ref b14, .ref b15, .ref b16, .ref b17, .ref b18, .int ik, .ref b19, .ref b20, .ref b21, .ref b22, .ref b23, .ref b24, .ref b25])), (b20, .inl (Z.2 0, 4, .inl f20)), (b21, .inl (Z.2 0, 4, .inl f21)), (b22, .inl (Z.2 2, 96, .inr (.inl f22))), (b23, .inl (Z.2 2, 24, .inr (.inl (vp_updL f23 ((nI j).toNatClampNeg) (f22 (nI (((24 * t) + u0) + j)).toNatClampNeg)))))] := hD
      refine lv_iinc (v := nI (j + 1)) (lv' := [(6, .int (nI (j + 1))), (0, .ref h0), (1, .int (nI t)), (2, .int (nI u0)), (3, .int (nI t2)), (4, .int (nI u2)), (5, .int (nI mz))]) hx hb dX9_copy_145 hl (k := 6) rfl (nI_1 _) (by decide) rfl (fun ls hl => ?_)
      refine lv_goto (tgt := 117) hx hb dX9_copy_148 (by decide) ?_
      exact ih (j + 1) (vp_updL f23 ((nI j).toNatClampNeg) (f22 (nI (((24 * t) + u0) + j)).toNatClampNeg)) (by omega) (hlt) (mv_s hM (by rw [nI_clamp (by omega)]) (by rw [nI_clamp (by omega)])) H locs ls hP hD hS (lv_sub hl [1, 2, 3, 4, 5, 6, 0] rfl)
set_option maxHeartbeats 4000000 in
set_option maxRecDepth 100000 in
theorem lp_X9_copy2 {p : Program} {l : Launch} {e : Env} {s : State} {m : MethodId} {args : Array Value} {below : List Frame} {meth : Method} {c : Code} {Q : State → Prop} {A : Nat → Prop} (Z : gZ) (h0 : Nat) (b1 : Nat) (b2 : Nat) (b3 : Nat) (b4 : Nat) (b5 : Nat) (b6 : Nat) (b7 : Nat) (b8 : Nat) (b9 : Nat) (b10 : Nat) (b11 : Nat) (b12 : Nat) (b13 : Nat) (b14 : Nat) (b15 : Nat) (b16 : Nat) (b17 : Nat) (b18 : Nat) (b19 : Nat) (b20 : Nat) (b21 : Nat) (b22 : Nat) (b23 : Nat) (b24 : Nat) (b25 : Nat) (n : Nat) (pn : Nat) (tn : Nat) (xp : Int32) (xr : Int32) (ik : Int32) (f20 : Nat → Int32) (f21 : Nat → Int32) (f23 : Nat → Int64) (t : Nat) (u0 : Nat) (t2 : Nat) (u2 : Nat) (mz : Nat) (s0 : Nat → Int64) (ht : t < 4) (hu : u0 + mz ≤ 24) (ht2 : t2 < 4) (hu2 : u2 + mz ≤ 24) (hx : p.tables.exec = Jvm.exec) (hb : c.code = cX9_copy) (hml : c.maxLocals = 7) (hts : ∀ w ∈ wsX9_copy, w.before args s = true) (hown : s.vm.findClass RX9 = some m.cls) (hK : va_K Z.1 vwCl (gT Z) s) (hA : ∀ q : Nat, s.heap.size ≤ q → A q) (kx_189 : ∀ (j : Nat) (f22 : Nat → Int64) (H : Heap) (locs : List Loc) (ls : Array Slot), (rwN f23 (24 * t2 + u2) mz s0 f22) → va_P Z.1 vwCl [(h0, .inr (9, [.ref b1, .ref b2, .ref b3, .ref b4, .int (nI n), .ref b5, .int (nI pn), .ref b6, .ref b7, .ref b8, .int (nI tn), .int xp, .int xr, .ref b9, .ref b10, .ref b11, .ref b12, .ref b13, .ref b14, .ref b15, .ref b16, .ref b17, .ref b18, .int ik, .ref b19, .ref b20, .ref b21, .ref b22, .ref b23, .ref b24, .ref b25])), (b20, .inl (Z.2 0, 4, .inl f20)), (b21, .inl (Z.2 0, 4, .inl f21)), (b22, .inl (Z.2 2, 96, .inr (.inl f22))), (b23, .inl (Z.2 2, 24, .inr (.inl f23)))] H → va_D A [(h0, .inr (9, [.ref b1, .ref b2, .ref b3, .ref b4, .int (nI n), .ref b5, .int (nI pn), .ref b6, .ref b7, .ref b8, .int (nI tn), .int xp, .int xr, .ref b9, .ref b10, .ref b11, .ref b12, .ref b13, .ref b14, .ref b15, .ref b16, .ref b17, .ref b18, .int ik, .ref b19, .ref b20, .ref b21, .ref b22, .ref b23, .ref b24, .ref b25])), (b20, .inl (Z.2 0, 4, .inl f20)), (b21, .inl (Z.2 0, 4, .inl f21)), (b22, .inl (Z.2 2, 96, .inr (.inl f22))), (b23, .inl (Z.2 2, 24, .inr (.inl f23)))] → va_S A s.heap H locs → lv_has ls 7 [(0, .ref h0), (1, .int (nI t)), (2, .int (nI u0)), (3, .int (nI t2)), (4, .int (nI u2)), (5, .int (nI mz)), (6, .int (nI j))] → W p l e ({ frames := 1, cells := 0, slots := 0, locals := 40 } : Room) s m args below meth c H locs 0 0 Q (F0 m 189 ls [])) : ∀ (fu9 : Nat) (j : Nat) (f22 : Nat → Int64), mz - j < fu9 → (j ≤ mz) → (rwN f23 (24 * t2 + u2) j s0 f22) → ∀ (H : Heap) (locs : List Loc) (ls : Array Slot), va_P Z.1 vwCl [(h0, .inr (9, [.ref b1, .ref b2, .ref b3, .ref b4, .int (nI n), .ref b5, .int (nI pn), .ref b6, .ref b7, .ref b8, .int (nI tn), .int xp, .int xr, .ref b9, .ref b10, .ref b11, .ref b12, .ref b13, .ref b14, .ref b15, .ref b16, .ref b17, .ref b18, .int ik, .ref b19, .ref b20, .ref b21, .ref b22, .ref b23, .ref b24, .ref b25])), (b20, .inl (Z.2 0, 4, .inl f20)), (b21, .inl (Z.2 0, 4, .inl f21)), (b22, .inl (Z.2 2, 96, .inr (.inl f22))), (b23, .inl (Z.2 2, 24, .inr (.inl f23)))] H → va_D A [(h0, .inr (9, [.ref b1, .ref b2, .ref b3, .ref b4, .int (nI n), .ref b5, .int (nI pn), .ref b6, .ref b7, .ref b8, .int (nI tn), .int xp, .int xr, .ref b9, .ref b10, .ref b11, .ref b12, .ref b13, .ref b14, .ref b15, .ref b16, .ref b17, .ref b18, .int ik, .ref b19, .ref b20, .ref b21, .ref b22, .ref b23, .ref b24, .ref b25])), (b20, .inl (Z.2 0, 4, .inl f20)), (b21, .inl (Z.2 0, 4, .inl f21)), (b22, .inl (Z.2 2, 96, .inr (.inl f22))), (b23, .inl (Z.2 2, 24, .inr (.inl f23)))] → va_S A s.heap H locs → lv_has ls 7 [(0, .ref h0), (1, .int (nI t)), (2, .int (nI u0)), (3, .int (nI t2)), (4, .int (nI u2)), (5, .int (nI mz)), (6, .int (nI j))] → W p l e ({ frames := 1, cells := 0, slots := 0, locals := 40 } : Room) s m args below meth c H locs 0 0 Q (F0 m 154 ls []) := by
  have hin9 : ∀ w ∈ wsX90, w ∈ wsX9_copy := fun w h9 => (List.mem_cons_of_mem _ (List.mem_append_right _ h9))
  intro fu9
  induction fu9 with
  | zero => intro j f22 hf9; exact absurd hf9 (Nat.not_lt_zero _)
  | succ fu9 ih =>
    intro j f22 hf9 hj hM H locs ls hP hD hS hl
    refine lv_iload hx hb dX9_copy_154 (lv_at hl 6 rfl) ?_
    refine lv_iload hx hb dX9_copy_156 (lv_at hl 5 rfl) ?_
    refine lv_icmp_ge (tgt := 189) hx hb dX9_copy_158 (by decide) (fun c_1 => ?_) (fun c_1 => ?_)
    · exact kx_189 j f22 H locs ls (by have e9 : j = mz := Nat.le_antisymm hj ((nI_leI (by omega) (by omega)).mp c_1); rw [e9] at hM; exact hM) hP hD hS (lv_sub hl [0, 1, 2, 3, 4, 5, 6] rfl)
    · have hlt : j < mz := z_clt (by omega) hj c_1
      refine lv_aload_n hx hb dX9_copy_161 rfl (lv_at hl 0 rfl) ?_
      refine va_get (D := Z.1) (ci := 9) (v := .ref b22) (C := RX9) (T := TX9) (N := 31) hx hb hts hin9 hown hK hP 0 rfl rfl 27 (by decide) (hts (.fieldLink RX9 74 "HalfAskedModel" "items" "[J") (List.mem_of_getElem? (i := 5) rfl)) (fun _ h9 => h9) rfl dX9_copy_162 ?_
      refine lv_bipush (v := 24) hx hb dX9_copy_165 (by decide) ?_
      refine lv_iload_n hx hb dX9_copy_167 rfl (lv_at hl 3 rfl) ?_
      refine lv_imul hx hb dX9_copy_168 ?_
      refine lv_topi (fun f_2 ef_2 => ?_)
      obtain rfl : nI (24 * t2) = f_2 := (ef_2.trans (pk_mul 24 t2)).symm
      refine lv_iload hx hb dX9_copy_169 (lv_at hl 4 rfl) ?_
      refine lv_iadd hx hb dX9_copy_171 ?_
      refine lv_topi (fun f_3 ef_3 => ?_)
      obtain rfl : nI ((24 * t2) + u2) = f_3 := (ef_3.trans (nI_add (24 * t2) u2)).symm
      refine lv_iload hx hb dX9_copy_172 (lv_at hl 6 rfl) ?_
      refine lv_iadd hx hb dX9_copy_174 ?_
      refine lv_topi (fun f_4 ef_4 => ?_)
      obtain rfl : nI (((24 * t2) + u2) + j) = f_4 := (ef_4.trans (nI_add ((24 * t2) + u2) j)).symm
      refine lv_aload_n hx hb dX9_copy_175 rfl (lv_at hl 0 rfl) ?_
      refine va_get (D := Z.1) (ci := 9) (v := .ref b23) (C := RX9) (T := TX9) (N := 31) hx hb hts hin9 hown hK hP 0 rfl rfl 28 (by decide) (hts (.fieldLink RX9 77 "HalfAskedModel" "moved" "[J") (List.mem_of_getElem? (i := 4) rfl)) (fun _ h9 => h9) rfl dX9_copy_176 ?_
      refine lv_iload hx hb dX9_copy_179 (lv_at hl 6 rfl) ?_
      refine va_lald hx hb hK hP 4 2 rfl rfl (vp_in_nI (by omega) (by decide)) dX9_copy_181 ?_
      refine va_last hx hb hK hP hD hS 3 2 rfl rfl (vp_in_nI (by omega) (by decide)) dX9_copy_182 (fun H locs hP hD hS => ?_)
      have hP : va_P Z.1 vwCl [(h0, .inr (9, [.ref b1, .ref b2, .ref b3, .ref b4, .int (nI n), .ref b5, .int (nI pn), .ref b6, .ref b7, .ref b8, .int (nI tn), .int xp, .int xr, .ref b9, .ref b10, .ref b11, .ref b12, .ref b13, .ref b14, .ref b15, .ref b16, .ref b17, .ref b18, .int ik, .ref b19, .ref b20, .ref b21, .ref b22, .ref b23, .ref b24, .ref b25])), (b20, .inl (Z.2 0, 4, .inl f20)), (b21, .inl (Z.2 0, 4, .inl f21)), (b22, .inl (Z.2 2, 96, .inr (.inl (vp_updL f22 ((nI (((24 * t2) + u2) + j)).toNatClampNeg) (f23 (nI j).toNatClampNeg))))), (b23, .inl (Z.2 2, 24, .inr (.inl f23)))] H := hP
      have hD : va_D A [(h0, .inr (9, [.ref b1, .ref b2, .ref b3, .ref b4, .int (nI n), .ref b5, .int (nI pn), .ref b6, .ref b7, .ref b8, .int (nI tn), .int xp, .int xr, .ref b9, .ref b10, .ref b11, .ref b12, .ref b13, .ref b14, .ref b15, .ref b16, .ref b17, .ref b18, .int ik, .ref b19, .ref b20, .ref b21, .ref b22, .ref b23, .ref b24, .ref b25])), (b20, .inl (Z.2 0, 4, .inl f20)), (b21, .inl (Z.2 0, 4, .inl f21)), (b22, .inl (Z.2 2, 96, .inr (.inl (vp_updL f22 ((nI (((24 * t2) + u2) + j)).toNatClampNeg) (f23 (nI j).toNatClampNeg))))), (b23, .inl (Z.2 2, 24, .inr (.inl f23)))] := hD
      refine lv_iinc (v := nI (j + 1)) (lv' := [(6, .int (nI (j + 1))), (0, .ref h0), (1, .int (nI t)), (2, .int (nI u0)), (3, .int (nI t2)), (4, .int (nI u2)), (5, .int (nI mz))]) hx hb dX9_copy_183 hl (k := 6) rfl (nI_1 _) (by decide) rfl (fun ls hl => ?_)
      refine lv_goto (tgt := 154) hx hb dX9_copy_186 (by decide) ?_
      exact ih (j + 1) (vp_updL f22 ((nI (((24 * t2) + u2) + j)).toNatClampNeg) (f23 (nI j).toNatClampNeg)) (by omega) (hlt) (rwN_s hM (by rw [nI_clamp (by omega)]) (by rw [nI_clamp (by omega)])) H locs ls hP hD hS (lv_sub hl [1, 2, 3, 4, 5, 6, 0] rfl)
set_option maxHeartbeats 4000000 in
set_option maxRecDepth 100000 in
theorem c_X9_copy (l : Launch) (Z : gZ) (sz : Nat) (h0 : Nat) (b1 : Nat) (b2 : Nat) (b3 : Nat) (b4 : Nat) (b5 : Nat) (b6 : Nat) (b7 : Nat) (b8 : Nat) (b9 : Nat) (b10 : Nat) (b11 : Nat) (b12 : Nat) (b13 : Nat) (b14 : Nat) (b15 : Nat) (b16 : Nat) (b17 : Nat) (b18 : Nat) (b19 : Nat) (b20 : Nat) (b21 : Nat) (b22 : Nat) (b23 : Nat) (b24 : Nat) (b25 : Nat) (n : Nat) (pn : Nat) (tn : Nat) (xp : Int32) (xr : Int32) (ik : Int32) (f20 : Nat → Int32) (f21 : Nat → Int32) (f22 : Nat → Int64) (f23 : Nat → Int64) (a : Int32) (d : Int32) (b : Int32) (x4 : Int32) (cn : Int32) (sl : zSL) (im : zIM) (hs : zSl sl f20 f21) (hI : zIm sl im f22) : Met l yX9_copy wsX9_copy ({ frames := 1, cells := 0, slots := 0, locals := 40 }) (va_Pc [.ref h0, .int a, .int d, .int b, .int x4, .int cn] (fun U => U.heap.size = sz ∧ va_P Z.1 vwCl [(h0, .inr (9, [.ref b1, .ref b2, .ref b3, .ref b4, .int (nI n), .ref b5, .int (nI pn), .ref b6, .ref b7, .ref b8, .int (nI tn), .int xp, .int xr, .ref b9, .ref b10, .ref b11, .ref b12, .ref b13, .ref b14, .ref b15, .ref b16, .ref b17, .ref b18, .int ik, .ref b19, .ref b20, .ref b21, .ref b22, .ref b23, .ref b24, .ref b25])), (b20, .inl (Z.2 0, 4, .inl f20)), (b21, .inl (Z.2 0, 4, .inl f21)), (b22, .inl (Z.2 2, 96, .inr (.inl f22))), (b23, .inl (Z.2 2, 24, .inr (.inl f23)))] U.heap ∧ va_K Z.1 vwCl (gT Z) U ∧ va_D (fun _ => True) [(h0, .inr (9, [.ref b1, .ref b2, .ref b3, .ref b4, .int (nI n), .ref b5, .int (nI pn), .ref b6, .ref b7, .ref b8, .int (nI tn), .int xp, .int xr, .ref b9, .ref b10, .ref b11, .ref b12, .ref b13, .ref b14, .ref b15, .ref b16, .ref b17, .ref b18, .int ik, .ref b19, .ref b20, .ref b21, .ref b22, .ref b23, .ref b24, .ref b25])), (b20, .inl (Z.2 0, 4, .inl f20)), (b21, .inl (Z.2 0, 4, .inl f21)), (b22, .inl (Z.2 2, 96, .inr (.inl f22))), (b23, .inl (Z.2 2, 24, .inr (.inl f23)))])) (va_Qi (fun (r : Int32) (u : (Nat → Int64) × (Nat → Int64)) => match u with | (g22, g23) => r = zCopyA sl a d b x4 cn ∧ zIm sl (imCopy sl im a d b x4 cn) g22) (fun (u : (Nat → Int64) × (Nat → Int64)) (t9 : State) => match u with | (g22, g23) => va_P Z.1 vwCl [(h0, .inr (9, [.ref b1, .ref b2, .ref b3, .ref b4, .int (nI n), .ref b5, .int (nI pn), .ref b6, .ref b7, .ref b8, .int (nI tn), .int xp, .int xr, .ref b9, .ref b10, .ref b11, .ref b12, .ref b13, .ref b14, .ref b15, .ref b16, .ref b17, .ref b18, .int ik, .ref b19, .ref b20, .ref b21, .ref b22, .ref b23, .ref b24, .ref b25])), (b20, .inl (Z.2 0, 4, .inl f20)), (b21, .inl (Z.2 0, 4, .inl f21)), (b22, .inl (Z.2 2, 96, .inr (.inl g22))), (b23, .inl (Z.2 2, 24, .inr (.inl g23)))] t9.heap ∧ va_D (va_A [(h0, .inr (9, [.ref b1, .ref b2, .ref b3, .ref b4, .int (nI n), .ref b5, .int (nI pn), .ref b6, .ref b7, .ref b8, .int (nI tn), .int xp, .int xr, .ref b9, .ref b10, .ref b11, .ref b12, .ref b13, .ref b14, .ref b15, .ref b16, .ref b17, .ref b18, .int ik, .ref b19, .ref b20, .ref b21, .ref b22, .ref b23, .ref b24, .ref b25])), (b20, .inl (Z.2 0, 4, .inl f20)), (b21, .inl (Z.2 0, 4, .inl f21)), (b22, .inl (Z.2 2, 96, .inr (.inl f22))), (b23, .inl (Z.2 2, 24, .inr (.inl f23)))] sz) [(h0, .inr (9, [.ref b1, .ref b2, .ref b3, .ref b4, .int (nI n), .ref b5, .int (nI pn), .ref b6, .ref b7, .ref b8, .int (nI tn), .int xp, .int xr, .ref b9, .ref b10, .ref b11, .ref b12, .ref b13, .ref b14, .ref b15, .ref b16, .ref b17, .ref b18, .int ik, .ref b19, .ref b20, .ref b21, .ref b22, .ref b23, .ref b24, .ref b25])), (b20, .inl (Z.2 0, 4, .inl f20)), (b21, .inl (Z.2 0, 4, .inl f21)), (b22, .inl (Z.2 2, 96, .inr (.inl g22))), (b23, .inl (Z.2 2, 24, .inr (.inl g23)))]) (va_A [(h0, .inr (9, [.ref b1, .ref b2, .ref b3, .ref b4, .int (nI n), .ref b5, .int (nI pn), .ref b6, .ref b7, .ref b8, .int (nI tn), .int xp, .int xr, .ref b9, .ref b10, .ref b11, .ref b12, .ref b13, .ref b14, .ref b15, .ref b16, .ref b17, .ref b18, .int ik, .ref b19, .ref b20, .ref b21, .ref b22, .ref b23, .ref b24, .ref b25])), (b20, .inl (Z.2 0, 4, .inl f20)), (b21, .inl (Z.2 0, 4, .inl f21)), (b22, .inl (Z.2 2, 96, .inr (.inl f22))), (b23, .inl (Z.2 2, 24, .inr (.inl f23)))] sz)) 0 0 (va_A [(h0, .inr (9, [.ref b1, .ref b2, .ref b3, .ref b4, .int (nI n), .ref b5, .int (nI pn), .ref b6, .ref b7, .ref b8, .int (nI tn), .int xp, .int xr, .ref b9, .ref b10, .ref b11, .ref b12, .ref b13, .ref b14, .ref b15, .ref b16, .ref b17, .ref b18, .int ik, .ref b19, .ref b20, .ref b21, .ref b22, .ref b23, .ref b24, .ref b25])), (b20, .inl (Z.2 0, 4, .inl f20)), (b21, .inl (Z.2 0, 4, .inl f21)), (b22, .inl (Z.2 2, 96, .inr (.inl f22))), (b23, .inl (Z.2 2, 24, .inr (.inl f23)))] sz) := by
  refine Met.ofW (cc := cX9_copy) (maxL := 7) (ret := (some .int)) (by decide) rfl ?_
  intro p e s m args below meth c s₁ B hml hv
  obtain ⟨rfl, hsz, hP, hK, hD0⟩ := hv
  have hx := B.exec
  have hb := B.bytes
  have hr := B.returns
  have hts := atoms_spec (ws := wsX9_copy) B.pre
  have hown : s.vm.findClass RX9 = some m.cls := findClass_of_methodNamed B.named
  have hlocks := B.notSynchronized
  subst hsz
  have hin9 : ∀ w ∈ wsX90, w ∈ wsX9_copy := fun w h9 => (List.mem_cons_of_mem _ (List.mem_append_right _ h9))
  have hD := hD0.self (sz := s.heap.size)
  generalize hAe : va_A [(h0, .inr (9, [.ref b1, .ref b2, .ref b3, .ref b4, .int (nI n), .ref b5, .int (nI pn), .ref b6, .ref b7, .ref b8, .int (nI tn), .int xp, .int xr, .ref b9, .ref b10, .ref b11, .ref b12, .ref b13, .ref b14, .ref b15, .ref b16, .ref b17, .ref b18, .int ik, .ref b19, .ref b20, .ref b21, .ref b22, .ref b23, .ref b24, .ref b25])), (b20, .inl (Z.2 0, 4, .inl f20)), (b21, .inl (Z.2 0, 4, .inl f21)), (b22, .inl (Z.2 2, 96, .inr (.inl f22))), (b23, .inl (Z.2 2, 24, .inr (.inl f23)))] s.heap.size = A at hD ⊢
  have hA : ∀ q : Nat, s.heap.size ≤ q → A q := fun q h => by rw [← hAe]; exact Or.inr h
  have hS : va_S A s.heap s.heap [] := va_S.rf
  have hP : va_P Z.1 vwCl [(h0, .inr (9, [.ref b1, .ref b2, .ref b3, .ref b4, .int (nI n), .ref b5, .int (nI pn), .ref b6, .ref b7, .ref b8, .int (nI tn), .int xp, .int xr, .ref b9, .ref b10, .ref b11, .ref b12, .ref b13, .ref b14, .ref b15, .ref b16, .ref b17, .ref b18, .int ik, .ref b19, .ref b20, .ref b21, .ref b22, .ref b23, .ref b24, .ref b25])), (b20, .inl (Z.2 0, 4, .inl f20)), (b21, .inl (Z.2 0, 4, .inl f21)), (b22, .inl (Z.2 2, 96, .inr (.inl f22))), (b23, .inl (Z.2 2, 24, .inr (.inl f23)))] s.heap := hP
  have hl := lv_entry ([.ref h0, .int a, .int d, .int b, .int x4, .int cn]) (n := 7) (Nat.le_of_ble_eq_true rfl)
  rw [lg_entry_eq]
  generalize (lg_sl ([.ref h0, .int a, .int d, .int b, .int x4, .int cn]) ++ List.replicate (7 - (lg_sl ([.ref h0, .int a, .int d, .int b, .int x4, .int cn])).length) Slot.unset).toArray = ls at hl ⊢
  have hl : lv_has ls 7 [(0, .ref h0), (1, .int a), (2, .int d), (3, .int b), (4, .int x4), (5, .int cn)] := hl
  refine lv_iload_n hx hb dX9_copy_0 rfl (lv_at hl 1 rfl) ?_
  refine lv_i2l hx hb dX9_copy_1 rfl ?_
  refine lv_lconst (v := 0) hx hb dX9_copy_2 (by decide) ?_
  refine lv_ldc2 (v := 3) hx hb hown (hts (.constantLong RX9 98 (3)) (List.mem_of_getElem? (i := 1) rfl)) dX9_copy_3 ?_
  have hPc := hP.sub (ws' := []) [] rfl
  have hDc := hD.sub (ws' := []) [] (by decide +kernel) rfl
  have hFc := va_free (wc := []) hD hS hA [] rfl
  refine va_calli (va_runS (As := [.long a.toInt64, .long 0, .long 3]) (rest := []) ⟨hx, hb, hml, hown, hts⟩ (c_X9_in l Z s.heap.size a.toInt64 0 3) (va_cwS 3 hts gX9_copy_X9_in rfl rfl rfl (by decide +kernel) ⟨Nat.le_of_ble_eq_true rfl, Nat.le_of_ble_eq_true rfl⟩) ⟨fun a U g mk q => by obtain ⟨q0, q1, qP, qK, qD⟩ := q; exact ⟨q0, q1, qP, va_K.moved (u := U) (U := U.calling g mk a) (Vm.Alike.refl U.vm) qK, qD⟩, fun U hU hW => ⟨rfl, by rw [hU], by rw [hU]; exact hPc, va_K.moved hW.alike hK, hDc.weaken (fun _ _ _ _ => trivial)⟩⟩ rfl rfl hl.1 rfl (lv_room (Nat.le_of_ble_eq_true rfl)) dX9_copy_6 ⟨Nat.le_of_ble_eq_true rfl, Nat.le_of_ble_eq_true rfl⟩) hS (fun q _ h => hFc q h) hFc (fun r_1 u t9 H1 locs ht hvm hw hB hz1 hk1 hS => ?_)
  have hw9 := hw.symm
  clear hw
  subst hw9
  have hP1 : va_P Z.1 vwCl [] H1 := fun k q h => by simp at h
  have hD1 : va_D (va_A [] s.heap.size) [] := ⟨fun i j p q h => by simp at h, fun k q h => by simp at h⟩
  obtain ⟨hP, hD⟩ := va_join (wr := [(h0, .inr (9, [.ref b1, .ref b2, .ref b3, .ref b4, .int (nI n), .ref b5, .int (nI pn), .ref b6, .ref b7, .ref b8, .int (nI tn), .int xp, .int xr, .ref b9, .ref b10, .ref b11, .ref b12, .ref b13, .ref b14, .ref b15, .ref b16, .ref b17, .ref b18, .int ik, .ref b19, .ref b20, .ref b21, .ref b22, .ref b23, .ref b24, .ref b25])), (b20, .inl (Z.2 0, 4, .inl f20)), (b21, .inl (Z.2 0, 4, .inl f21)), (b22, .inl (Z.2 2, 96, .inr (.inl f22))), (b23, .inl (Z.2 2, 24, .inr (.inl f23)))]) (w1 := []) hP hD [] [0, 1, 2, 3, 4] rfl rfl (by decide +kernel) (by decide +kernel) hk1 hFc hP1 hD1
  clear hPc hDc hP1 hD1 hk1 hz1 hFc ht hvm
  generalize H1 = H at hP hS ⊢
  have hP : va_P Z.1 vwCl [(h0, .inr (9, [.ref b1, .ref b2, .ref b3, .ref b4, .int (nI n), .ref b5, .int (nI pn), .ref b6, .ref b7, .ref b8, .int (nI tn), .int xp, .int xr, .ref b9, .ref b10, .ref b11, .ref b12, .ref b13, .ref b14, .ref b15, .ref b16, .ref b17, .ref b18, .int ik, .ref b19, .ref b20, .ref b21, .ref b22, .ref b23, .ref b24, .ref b25])), (b20, .inl (Z.2 0, 4, .inl f20)), (b21, .inl (Z.2 0, 4, .inl f21)), (b22, .inl (Z.2 2, 96, .inr (.inl f22))), (b23, .inl (Z.2 2, 24, .inr (.inl f23)))] H := hP
  have hD : va_D A [(h0, .inr (9, [.ref b1, .ref b2, .ref b3, .ref b4, .int (nI n), .ref b5, .int (nI pn), .ref b6, .ref b7, .ref b8, .int (nI tn), .int xp, .int xr, .ref b9, .ref b10, .ref b11, .ref b12, .ref b13, .ref b14, .ref b15, .ref b16, .ref b17, .ref b18, .int ik, .ref b19, .ref b20, .ref b21, .ref b22, .ref b23, .ref b24, .ref b25])), (b20, .inl (Z.2 0, 4, .inl f20)), (b21, .inl (Z.2 0, 4, .inl f21)), (b22, .inl (Z.2 2, 96, .inr (.inl f22))), (b23, .inl (Z.2 2, 24, .inr (.inl f23)))] := hD
  refine lv_if_eq (tgt := 24) hx hb dX9_copy_9 (by decide) (fun c_2 => ?_) (fun c_2 => ?_)
  · refine lv_iconst (v := (-1)) hx hb dX9_copy_24 (by decide) ?_
    have hP9 := hP.sub (ws' := [(h0, .inr (9, [.ref b1, .ref b2, .ref b3, .ref b4, .int (nI n), .ref b5, .int (nI pn), .ref b6, .ref b7, .ref b8, .int (nI tn), .int xp, .int xr, .ref b9, .ref b10, .ref b11, .ref b12, .ref b13, .ref b14, .ref b15, .ref b16, .ref b17, .ref b18, .int ik, .ref b19, .ref b20, .ref b21, .ref b22, .ref b23, .ref b24, .ref b25])), (b20, .inl (Z.2 0, 4, .inl f20)), (b21, .inl (Z.2 0, 4, .inl f21)), (b22, .inl (Z.2 2, 96, .inr (.inl f22))), (b23, .inl (Z.2 2, 24, .inr (.inl f23)))]) [0, 1, 2, 3, 4] rfl
    have hD9 := hD.sub (ws' := [(h0, .inr (9, [.ref b1, .ref b2, .ref b3, .ref b4, .int (nI n), .ref b5, .int (nI pn), .ref b6, .ref b7, .ref b8, .int (nI tn), .int xp, .int xr, .ref b9, .ref b10, .ref b11, .ref b12, .ref b13, .ref b14, .ref b15, .ref b16, .ref b17, .ref b18, .int ik, .ref b19, .ref b20, .ref b21, .ref b22, .ref b23, .ref b24, .ref b25])), (b20, .inl (Z.2 0, 4, .inl f20)), (b21, .inl (Z.2 0, 4, .inl f21)), (b22, .inl (Z.2 2, 96, .inr (.inl f22))), (b23, .inl (Z.2 2, 24, .inr (.inl f23)))]) [0, 1, 2, 3, 4] (by decide +kernel) rfl
    exact W.iret (v := (-1)) hx hb hr (fun t9 ht hW => ⟨⟨(-1), (f22, f23), rfl, ⟨(zI_n (fun q => z_i30 c_2 q.1)).symm, im_copyN hI ((zI_n (fun q => z_i30 c_2 q.1)).symm) (by decide)⟩, by rw [ht]; exact hP9, hD9⟩, hS.F ht⟩) hS.2.2 dX9_copy_25
  · refine lv_iload_n hx hb dX9_copy_12 rfl (lv_at hl 3 rfl) ?_
    refine lv_i2l hx hb dX9_copy_13 rfl ?_
    refine lv_lconst (v := 0) hx hb dX9_copy_14 (by decide) ?_
    refine lv_ldc2 (v := 3) hx hb hown (hts (.constantLong RX9 98 (3)) (List.mem_of_getElem? (i := 1) rfl)) dX9_copy_15 ?_
    have hPc := hP.sub (ws' := []) [] rfl
    have hDc := hD.sub (ws' := []) [] (by decide +kernel) rfl
    have hFc := va_free (wc := []) hD hS hA [] rfl
    refine va_calli (va_runS (As := [.long b.toInt64, .long 0, .long 3]) (rest := []) ⟨hx, hb, hml, hown, hts⟩ (c_X9_in l Z H.size b.toInt64 0 3) (va_cwS 3 hts gX9_copy_X9_in rfl rfl rfl (by decide +kernel) ⟨Nat.le_of_ble_eq_true rfl, Nat.le_of_ble_eq_true rfl⟩) ⟨fun a U g mk q => by obtain ⟨q0, q1, qP, qK, qD⟩ := q; exact ⟨q0, q1, qP, va_K.moved (u := U) (U := U.calling g mk a) (Vm.Alike.refl U.vm) qK, qD⟩, fun U hU hW => ⟨rfl, by rw [hU], by rw [hU]; exact hPc, va_K.moved hW.alike hK, hDc.weaken (fun _ _ _ _ => trivial)⟩⟩ rfl rfl hl.1 rfl (lv_room (Nat.le_of_ble_eq_true rfl)) dX9_copy_18 ⟨Nat.le_of_ble_eq_true rfl, Nat.le_of_ble_eq_true rfl⟩) hS (fun q _ h => hFc q h) hFc (fun r_3 u t9 H1 locs ht hvm hw hB hz1 hk1 hS => ?_)
    have hw9 := hw.symm
    clear hw
    subst hw9
    have hP1 : va_P Z.1 vwCl [] H1 := fun k q h => by simp at h
    have hD1 : va_D (va_A [] H.size) [] := ⟨fun i j p q h => by simp at h, fun k q h => by simp at h⟩
    obtain ⟨hP, hD⟩ := va_join (wr := [(h0, .inr (9, [.ref b1, .ref b2, .ref b3, .ref b4, .int (nI n), .ref b5, .int (nI pn), .ref b6, .ref b7, .ref b8, .int (nI tn), .int xp, .int xr, .ref b9, .ref b10, .ref b11, .ref b12, .ref b13, .ref b14, .ref b15, .ref b16, .ref b17, .ref b18, .int ik, .ref b19, .ref b20, .ref b21, .ref b22, .ref b23, .ref b24, .ref b25])), (b20, .inl (Z.2 0, 4, .inl f20)), (b21, .inl (Z.2 0, 4, .inl f21)), (b22, .inl (Z.2 2, 96, .inr (.inl f22))), (b23, .inl (Z.2 2, 24, .inr (.inl f23)))]) (w1 := []) hP hD [] [0, 1, 2, 3, 4] rfl rfl (by decide +kernel) (by decide +kernel) hk1 hFc hP1 hD1
    clear hPc hDc hP1 hD1 hk1 hz1 hFc ht hvm
    generalize H1 = H at hP hS ⊢
    have hP : va_P Z.1 vwCl [(h0, .inr (9, [.ref b1, .ref b2, .ref b3, .ref b4, .int (nI n), .ref b5, .int (nI pn), .ref b6, .ref b7, .ref b8, .int (nI tn), .int xp, .int xr, .ref b9, .ref b10, .ref b11, .ref b12, .ref b13, .ref b14, .ref b15, .ref b16, .ref b17, .ref b18, .int ik, .ref b19, .ref b20, .ref b21, .ref b22, .ref b23, .ref b24, .ref b25])), (b20, .inl (Z.2 0, 4, .inl f20)), (b21, .inl (Z.2 0, 4, .inl f21)), (b22, .inl (Z.2 2, 96, .inr (.inl f22))), (b23, .inl (Z.2 2, 24, .inr (.inl f23)))] H := hP
    have hD : va_D A [(h0, .inr (9, [.ref b1, .ref b2, .ref b3, .ref b4, .int (nI n), .ref b5, .int (nI pn), .ref b6, .ref b7, .ref b8, .int (nI tn), .int xp, .int xr, .ref b9, .ref b10, .ref b11, .ref b12, .ref b13, .ref b14, .ref b15, .ref b16, .ref b17, .ref b18, .int ik, .ref b19, .ref b20, .ref b21, .ref b22, .ref b23, .ref b24, .ref b25])), (b20, .inl (Z.2 0, 4, .inl f20)), (b21, .inl (Z.2 0, 4, .inl f21)), (b22, .inl (Z.2 2, 96, .inr (.inl f22))), (b23, .inl (Z.2 2, 24, .inr (.inl f23)))] := hD
    refine lv_if_ne (tgt := 26) hx hb dX9_copy_21 (by decide) (fun c_4 => ?_) (fun c_4 => ?_)
    · have ha := z_i31 c_2
      have hb3 := z_i31 c_4
      refine lv_aload_n hx hb dX9_copy_26 rfl (lv_at hl 0 rfl) ?_
      refine va_get (D := Z.1) (ci := 9) (v := .ref b20) (C := RX9) (T := TX9) (N := 31) hx hb hts hin9 hown hK hP 0 rfl rfl 25 (by decide) (hts (.fieldLink RX9 68 "HalfAskedModel" "lanes" "[I") (List.mem_of_getElem? (i := 2) rfl)) (fun _ h9 => h9) rfl dX9_copy_27 ?_
      refine lv_iload_n hx hb dX9_copy_30 rfl (lv_at hl 1 rfl) ?_
      refine va_iald hx hb hK hP 1 0 rfl rfl ha dX9_copy_31 ?_
      refine lv_if_lt (tgt := 44) hx hb dX9_copy_32 (by decide) (fun c_5 => ?_) (fun c_5 => ?_)
      · refine lv_bipush (v := (-11)) hx hb dX9_copy_44 (by decide) ?_
        have hP9 := hP.sub (ws' := [(h0, .inr (9, [.ref b1, .ref b2, .ref b3, .ref b4, .int (nI n), .ref b5, .int (nI pn), .ref b6, .ref b7, .ref b8, .int (nI tn), .int xp, .int xr, .ref b9, .ref b10, .ref b11, .ref b12, .ref b13, .ref b14, .ref b15, .ref b16, .ref b17, .ref b18, .int ik, .ref b19, .ref b20, .ref b21, .ref b22, .ref b23, .ref b24, .ref b25])), (b20, .inl (Z.2 0, 4, .inl f20)), (b21, .inl (Z.2 0, 4, .inl f21)), (b22, .inl (Z.2 2, 96, .inr (.inl f22))), (b23, .inl (Z.2 2, 24, .inr (.inl f23)))]) [0, 1, 2, 3, 4] rfl
        have hD9 := hD.sub (ws' := [(h0, .inr (9, [.ref b1, .ref b2, .ref b3, .ref b4, .int (nI n), .ref b5, .int (nI pn), .ref b6, .ref b7, .ref b8, .int (nI tn), .int xp, .int xr, .ref b9, .ref b10, .ref b11, .ref b12, .ref b13, .ref b14, .ref b15, .ref b16, .ref b17, .ref b18, .int ik, .ref b19, .ref b20, .ref b21, .ref b22, .ref b23, .ref b24, .ref b25])), (b20, .inl (Z.2 0, 4, .inl f20)), (b21, .inl (Z.2 0, 4, .inl f21)), (b22, .inl (Z.2 2, 96, .inr (.inl f22))), (b23, .inl (Z.2 2, 24, .inr (.inl f23)))]) [0, 1, 2, 3, 4] (by decide +kernel) rfl
        exact W.iret (v := (-11)) hx hb hr (fun t9 ht hW => ⟨⟨(-11), (f22, f23), rfl, ⟨zCopy_11 hs ha hb3 (Or.inl c_5), im_copyN hI (zCopy_11 hs ha hb3 (Or.inl c_5)) (by decide)⟩, by rw [ht]; exact hP9, hD9⟩, hS.F ht⟩) hS.2.2 dX9_copy_46
      · refine lv_aload_n hx hb dX9_copy_35 rfl (lv_at hl 0 rfl) ?_
        refine va_get (D := Z.1) (ci := 9) (v := .ref b20) (C := RX9) (T := TX9) (N := 31) hx hb hts hin9 hown hK hP 0 rfl rfl 25 (by decide) (hts (.fieldLink RX9 68 "HalfAskedModel" "lanes" "[I") (List.mem_of_getElem? (i := 2) rfl)) (fun _ h9 => h9) rfl dX9_copy_36 ?_
        refine lv_iload_n hx hb dX9_copy_39 rfl (lv_at hl 3 rfl) ?_
        refine va_iald hx hb hK hP 1 0 rfl rfl hb3 dX9_copy_40 ?_
        refine lv_if_ge (tgt := 47) hx hb dX9_copy_41 (by decide) (fun c_6 => ?_) (fun c_6 => ?_)
        · have hfa : ¬ f20 a.toNatClampNeg < 0 := c_5
          have hfb : ¬ f20 b.toNatClampNeg < 0 := (Int32.not_lt.mpr c_6)
          refine lv_aload_n hx hb dX9_copy_47 rfl (lv_at hl 0 rfl) ?_
          refine va_get (D := Z.1) (ci := 9) (v := .ref b20) (C := RX9) (T := TX9) (N := 31) hx hb hts hin9 hown hK hP 0 rfl rfl 25 (by decide) (hts (.fieldLink RX9 68 "HalfAskedModel" "lanes" "[I") (List.mem_of_getElem? (i := 2) rfl)) (fun _ h9 => h9) rfl dX9_copy_48 ?_
          refine lv_iload_n hx hb dX9_copy_51 rfl (lv_at hl 1 rfl) ?_
          refine va_iald hx hb hK hP 1 0 rfl rfl ha dX9_copy_52 ?_
          refine lv_aload_n hx hb dX9_copy_53 rfl (lv_at hl 0 rfl) ?_
          refine va_get (D := Z.1) (ci := 9) (v := .ref b20) (C := RX9) (T := TX9) (N := 31) hx hb hts hin9 hown hK hP 0 rfl rfl 25 (by decide) (hts (.fieldLink RX9 68 "HalfAskedModel" "lanes" "[I") (List.mem_of_getElem? (i := 2) rfl)) (fun _ h9 => h9) rfl dX9_copy_54 ?_
          refine lv_iload_n hx hb dX9_copy_57 rfl (lv_at hl 3 rfl) ?_
          refine va_iald hx hb hK hP 1 0 rfl rfl hb3 dX9_copy_58 ?_
          refine lv_icmp_eq (tgt := 65) hx hb dX9_copy_59 (by decide) (fun c_7 => ?_) (fun c_7 => ?_)
          · obtain ⟨l1, e1, g1, hl1⟩ := zCopy_ss hs ha hfa
            obtain ⟨l2, e2, g2, hl2⟩ := zCopy_ss hs hb3 hfb
            refine lv_iload hx hb dX9_copy_65 (lv_at hl 5 rfl) ?_
            refine lv_if_lt (tgt := 111) hx hb dX9_copy_67 (by decide) (fun c_8 => ?_) (fun c_8 => ?_)
            · refine lv_bipush (v := (-13)) hx hb dX9_copy_111 (by decide) ?_
              have hP9 := hP.sub (ws' := [(h0, .inr (9, [.ref b1, .ref b2, .ref b3, .ref b4, .int (nI n), .ref b5, .int (nI pn), .ref b6, .ref b7, .ref b8, .int (nI tn), .int xp, .int xr, .ref b9, .ref b10, .ref b11, .ref b12, .ref b13, .ref b14, .ref b15, .ref b16, .ref b17, .ref b18, .int ik, .ref b19, .ref b20, .ref b21, .ref b22, .ref b23, .ref b24, .ref b25])), (b20, .inl (Z.2 0, 4, .inl f20)), (b21, .inl (Z.2 0, 4, .inl f21)), (b22, .inl (Z.2 2, 96, .inr (.inl f22))), (b23, .inl (Z.2 2, 24, .inr (.inl f23)))]) [0, 1, 2, 3, 4] rfl
              have hD9 := hD.sub (ws' := [(h0, .inr (9, [.ref b1, .ref b2, .ref b3, .ref b4, .int (nI n), .ref b5, .int (nI pn), .ref b6, .ref b7, .ref b8, .int (nI tn), .int xp, .int xr, .ref b9, .ref b10, .ref b11, .ref b12, .ref b13, .ref b14, .ref b15, .ref b16, .ref b17, .ref b18, .int ik, .ref b19, .ref b20, .ref b21, .ref b22, .ref b23, .ref b24, .ref b25])), (b20, .inl (Z.2 0, 4, .inl f20)), (b21, .inl (Z.2 0, 4, .inl f21)), (b22, .inl (Z.2 2, 96, .inr (.inl f22))), (b23, .inl (Z.2 2, 24, .inr (.inl f23)))]) [0, 1, 2, 3, 4] (by decide +kernel) rfl
              exact W.iret (v := (-13)) hx hb hr (fun t9 ht hW => ⟨⟨(-13), (f22, f23), rfl, ⟨((zCopy_g ha hb3 e1 e2 c_7).trans (zI_n (fun q => z_neg0 c_8 q.1))).symm, im_copyN hI (((zCopy_g ha hb3 e1 e2 c_7).trans (zI_n (fun q => z_neg0 c_8 q.1))).symm) (by decide)⟩, by rw [ht]; exact hP9, hD9⟩, hS.F ht⟩) hS.2.2 dX9_copy_113
            · refine lv_iload_n hx hb dX9_copy_70 rfl (lv_at hl 2 rfl) ?_
              refine lv_i2l hx hb dX9_copy_71 rfl ?_
              refine lv_lconst (v := 0) hx hb dX9_copy_72 (by decide) ?_
              refine lv_aload_n hx hb dX9_copy_73 rfl (lv_at hl 0 rfl) ?_
              refine va_get (D := Z.1) (ci := 9) (v := .ref b21) (C := RX9) (T := TX9) (N := 31) hx hb hts hin9 hown hK hP 0 rfl rfl 26 (by decide) (hts (.fieldLink RX9 71 "HalfAskedModel" "rowSizes" "[I") (List.mem_of_getElem? (i := 3) rfl)) (fun _ h9 => h9) rfl dX9_copy_74 ?_
              refine lv_iload_n hx hb dX9_copy_77 rfl (lv_at hl 1 rfl) ?_
              refine va_iald hx hb hK hP 2 0 rfl rfl ha dX9_copy_78 ?_
              refine lv_topi (fun f_9 ef_9 => ?_)
              obtain rfl : nI l1 = f_9 := (ef_9.trans (g1)).symm
              refine lv_i2l hx hb dX9_copy_79 rfl ?_
              refine lv_iload hx hb dX9_copy_80 (lv_at hl 5 rfl) ?_
              refine lv_i2l hx hb dX9_copy_82 rfl ?_
              refine lv_lsub hx hb dX9_copy_83 ?_
              have hPc := hP.sub (ws' := []) [] rfl
              have hDc := hD.sub (ws' := []) [] (by decide +kernel) rfl
              have hFc := va_free (wc := []) hD hS hA [] rfl
              refine va_calli (va_runS (As := [.long d.toInt64, .long 0, .long (((nI l1).toInt64) - cn.toInt64)]) (rest := []) ⟨hx, hb, hml, hown, hts⟩ (c_X9_in l Z H.size d.toInt64 0 (((nI l1).toInt64) - cn.toInt64)) (va_cwS 3 hts gX9_copy_X9_in rfl rfl rfl (by decide +kernel) ⟨Nat.le_of_ble_eq_true rfl, Nat.le_of_ble_eq_true rfl⟩) ⟨fun a U g mk q => by obtain ⟨q0, q1, qP, qK, qD⟩ := q; exact ⟨q0, q1, qP, va_K.moved (u := U) (U := U.calling g mk a) (Vm.Alike.refl U.vm) qK, qD⟩, fun U hU hW => ⟨rfl, by rw [hU], by rw [hU]; exact hPc, va_K.moved hW.alike hK, hDc.weaken (fun _ _ _ _ => trivial)⟩⟩ rfl rfl hl.1 rfl (lv_room (Nat.le_of_ble_eq_true rfl)) dX9_copy_84 ⟨Nat.le_of_ble_eq_true rfl, Nat.le_of_ble_eq_true rfl⟩) hS (fun q _ h => hFc q h) hFc (fun r_10 u t9 H1 locs ht hvm hw hB hz1 hk1 hS => ?_)
              have hw9 := hw.symm
              clear hw
              subst hw9
              have hP1 : va_P Z.1 vwCl [] H1 := fun k q h => by simp at h
              have hD1 : va_D (va_A [] H.size) [] := ⟨fun i j p q h => by simp at h, fun k q h => by simp at h⟩
              obtain ⟨hP, hD⟩ := va_join (wr := [(h0, .inr (9, [.ref b1, .ref b2, .ref b3, .ref b4, .int (nI n), .ref b5, .int (nI pn), .ref b6, .ref b7, .ref b8, .int (nI tn), .int xp, .int xr, .ref b9, .ref b10, .ref b11, .ref b12, .ref b13, .ref b14, .ref b15, .ref b16, .ref b17, .ref b18, .int ik, .ref b19, .ref b20, .ref b21, .ref b22, .ref b23, .ref b24, .ref b25])), (b20, .inl (Z.2 0, 4, .inl f20)), (b21, .inl (Z.2 0, 4, .inl f21)), (b22, .inl (Z.2 2, 96, .inr (.inl f22))), (b23, .inl (Z.2 2, 24, .inr (.inl f23)))]) (w1 := []) hP hD [] [0, 1, 2, 3, 4] rfl rfl (by decide +kernel) (by decide +kernel) hk1 hFc hP1 hD1
              clear hPc hDc hP1 hD1 hk1 hz1 hFc ht hvm
              generalize H1 = H at hP hS ⊢
              have hP : va_P Z.1 vwCl [(h0, .inr (9, [.ref b1, .ref b2, .ref b3, .ref b4, .int (nI n), .ref b5, .int (nI pn), .ref b6, .ref b7, .ref b8, .int (nI tn), .int xp, .int xr, .ref b9, .ref b10, .ref b11, .ref b12, .ref b13, .ref b14, .ref b15, .ref b16, .ref b17, .ref b18, .int ik, .ref b19, .ref b20, .ref b21, .ref b22, .ref b23, .ref b24, .ref b25])), (b20, .inl (Z.2 0, 4, .inl f20)), (b21, .inl (Z.2 0, 4, .inl f21)), (b22, .inl (Z.2 2, 96, .inr (.inl f22))), (b23, .inl (Z.2 2, 24, .inr (.inl f23)))] H := hP
              have hD : va_D A [(h0, .inr (9, [.ref b1, .ref b2, .ref b3, .ref b4, .int (nI n), .ref b5, .int (nI pn), .ref b6, .ref b7, .ref b8, .int (nI tn), .int xp, .int xr, .ref b9, .ref b10, .ref b11, .ref b12, .ref b13, .ref b14, .ref b15, .ref b16, .ref b17, .ref b18, .int ik, .ref b19, .ref b20, .ref b21, .ref b22, .ref b23, .ref b24, .ref b25])), (b20, .inl (Z.2 0, 4, .inl f20)), (b21, .inl (Z.2 0, 4, .inl f21)), (b22, .inl (Z.2 2, 96, .inr (.inl f22))), (b23, .inl (Z.2 2, 24, .inr (.inl f23)))] := hD
              refine lv_if_eq (tgt := 111) hx hb dX9_copy_87 (by decide) (fun c_11 => ?_) (fun c_11 => ?_)
              · refine lv_bipush (v := (-13)) hx hb dX9_copy_111 (by decide) ?_
                have hP9 := hP.sub (ws' := [(h0, .inr (9, [.ref b1, .ref b2, .ref b3, .ref b4, .int (nI n), .ref b5, .int (nI pn), .ref b6, .ref b7, .ref b8, .int (nI tn), .int xp, .int xr, .ref b9, .ref b10, .ref b11, .ref b12, .ref b13, .ref b14, .ref b15, .ref b16, .ref b17, .ref b18, .int ik, .ref b19, .ref b20, .ref b21, .ref b22, .ref b23, .ref b24, .ref b25])), (b20, .inl (Z.2 0, 4, .inl f20)), (b21, .inl (Z.2 0, 4, .inl f21)), (b22, .inl (Z.2 2, 96, .inr (.inl f22))), (b23, .inl (Z.2 2, 24, .inr (.inl f23)))]) [0, 1, 2, 3, 4] rfl
                have hD9 := hD.sub (ws' := [(h0, .inr (9, [.ref b1, .ref b2, .ref b3, .ref b4, .int (nI n), .ref b5, .int (nI pn), .ref b6, .ref b7, .ref b8, .int (nI tn), .int xp, .int xr, .ref b9, .ref b10, .ref b11, .ref b12, .ref b13, .ref b14, .ref b15, .ref b16, .ref b17, .ref b18, .int ik, .ref b19, .ref b20, .ref b21, .ref b22, .ref b23, .ref b24, .ref b25])), (b20, .inl (Z.2 0, 4, .inl f20)), (b21, .inl (Z.2 0, 4, .inl f21)), (b22, .inl (Z.2 2, 96, .inr (.inl f22))), (b23, .inl (Z.2 2, 24, .inr (.inl f23)))]) [0, 1, 2, 3, 4] (by decide +kernel) rfl
                exact W.iret (v := (-13)) hx hb hr (fun t9 ht hW => ⟨⟨(-13), (f22, f23), rfl, ⟨((zCopy_g ha hb3 e1 e2 c_7).trans (zI_n (fun q => (z_re hl1 c_8).2 c_11 q.1))).symm, im_copyN hI (((zCopy_g ha hb3 e1 e2 c_7).trans (zI_n (fun q => (z_re hl1 c_8).2 c_11 q.1))).symm) (by decide)⟩, by rw [ht]; exact hP9, hD9⟩, hS.F ht⟩) hS.2.2 dX9_copy_113
              · refine lv_iload hx hb dX9_copy_90 (lv_at hl 4 rfl) ?_
                refine lv_i2l hx hb dX9_copy_92 rfl ?_
                refine lv_lconst (v := 0) hx hb dX9_copy_93 (by decide) ?_
                refine lv_aload_n hx hb dX9_copy_94 rfl (lv_at hl 0 rfl) ?_
                refine va_get (D := Z.1) (ci := 9) (v := .ref b21) (C := RX9) (T := TX9) (N := 31) hx hb hts hin9 hown hK hP 0 rfl rfl 26 (by decide) (hts (.fieldLink RX9 71 "HalfAskedModel" "rowSizes" "[I") (List.mem_of_getElem? (i := 3) rfl)) (fun _ h9 => h9) rfl dX9_copy_95 ?_
                refine lv_iload_n hx hb dX9_copy_98 rfl (lv_at hl 3 rfl) ?_
                refine va_iald hx hb hK hP 2 0 rfl rfl hb3 dX9_copy_99 ?_
                refine lv_topi (fun f_12 ef_12 => ?_)
                obtain rfl : nI l2 = f_12 := (ef_12.trans (g2)).symm
                refine lv_i2l hx hb dX9_copy_100 rfl ?_
                refine lv_iload hx hb dX9_copy_101 (lv_at hl 5 rfl) ?_
                refine lv_i2l hx hb dX9_copy_103 rfl ?_
                refine lv_lsub hx hb dX9_copy_104 ?_
                have hPc := hP.sub (ws' := []) [] rfl
                have hDc := hD.sub (ws' := []) [] (by decide +kernel) rfl
                have hFc := va_free (wc := []) hD hS hA [] rfl
                refine va_calli (va_runS (As := [.long x4.toInt64, .long 0, .long (((nI l2).toInt64) - cn.toInt64)]) (rest := []) ⟨hx, hb, hml, hown, hts⟩ (c_X9_in l Z H.size x4.toInt64 0 (((nI l2).toInt64) - cn.toInt64)) (va_cwS 3 hts gX9_copy_X9_in rfl rfl rfl (by decide +kernel) ⟨Nat.le_of_ble_eq_true rfl, Nat.le_of_ble_eq_true rfl⟩) ⟨fun a U g mk q => by obtain ⟨q0, q1, qP, qK, qD⟩ := q; exact ⟨q0, q1, qP, va_K.moved (u := U) (U := U.calling g mk a) (Vm.Alike.refl U.vm) qK, qD⟩, fun U hU hW => ⟨rfl, by rw [hU], by rw [hU]; exact hPc, va_K.moved hW.alike hK, hDc.weaken (fun _ _ _ _ => trivial)⟩⟩ rfl rfl hl.1 rfl (lv_room (Nat.le_of_ble_eq_true rfl)) dX9_copy_105 ⟨Nat.le_of_ble_eq_true rfl, Nat.le_of_ble_eq_true rfl⟩) hS (fun q _ h => hFc q h) hFc (fun r_13 u t9 H1 locs ht hvm hw hB hz1 hk1 hS => ?_)
                have hw9 := hw.symm
                clear hw
                subst hw9
                have hP1 : va_P Z.1 vwCl [] H1 := fun k q h => by simp at h
                have hD1 : va_D (va_A [] H.size) [] := ⟨fun i j p q h => by simp at h, fun k q h => by simp at h⟩
                obtain ⟨hP, hD⟩ := va_join (wr := [(h0, .inr (9, [.ref b1, .ref b2, .ref b3, .ref b4, .int (nI n), .ref b5, .int (nI pn), .ref b6, .ref b7, .ref b8, .int (nI tn), .int xp, .int xr, .ref b9, .ref b10, .ref b11, .ref b12, .ref b13, .ref b14, .ref b15, .ref b16, .ref b17, .ref b18, .int ik, .ref b19, .ref b20, .ref b21, .ref b22, .ref b23, .ref b24, .ref b25])), (b20, .inl (Z.2 0, 4, .inl f20)), (b21, .inl (Z.2 0, 4, .inl f21)), (b22, .inl (Z.2 2, 96, .inr (.inl f22))), (b23, .inl (Z.2 2, 24, .inr (.inl f23)))]) (w1 := []) hP hD [] [0, 1, 2, 3, 4] rfl rfl (by decide +kernel) (by decide +kernel) hk1 hFc hP1 hD1
                clear hPc hDc hP1 hD1 hk1 hz1 hFc ht hvm
                generalize H1 = H at hP hS ⊢
                have hP : va_P Z.1 vwCl [(h0, .inr (9, [.ref b1, .ref b2, .ref b3, .ref b4, .int (nI n), .ref b5, .int (nI pn), .ref b6, .ref b7, .ref b8, .int (nI tn), .int xp, .int xr, .ref b9, .ref b10, .ref b11, .ref b12, .ref b13, .ref b14, .ref b15, .ref b16, .ref b17, .ref b18, .int ik, .ref b19, .ref b20, .ref b21, .ref b22, .ref b23, .ref b24, .ref b25])), (b20, .inl (Z.2 0, 4, .inl f20)), (b21, .inl (Z.2 0, 4, .inl f21)), (b22, .inl (Z.2 2, 96, .inr (.inl f22))), (b23, .inl (Z.2 2, 24, .inr (.inl f23)))] H := hP
                have hD : va_D A [(h0, .inr (9, [.ref b1, .ref b2, .ref b3, .ref b4, .int (nI n), .ref b5, .int (nI pn), .ref b6, .ref b7, .ref b8, .int (nI tn), .int xp, .int xr, .ref b9, .ref b10, .ref b11, .ref b12, .ref b13, .ref b14, .ref b15, .ref b16, .ref b17, .ref b18, .int ik, .ref b19, .ref b20, .ref b21, .ref b22, .ref b23, .ref b24, .ref b25])), (b20, .inl (Z.2 0, 4, .inl f20)), (b21, .inl (Z.2 0, 4, .inl f21)), (b22, .inl (Z.2 2, 96, .inr (.inl f22))), (b23, .inl (Z.2 2, 24, .inr (.inl f23)))] := hD
                refine lv_if_ne (tgt := 114) hx hb dX9_copy_108 (by decide) (fun c_14 => ?_) (fun c_14 => ?_)
                · have hn0 := c_8
                  have hr1 := (z_re hl1 hn0).1 c_11
                  have hr2 := (z_re hl2 hn0).1 c_14
                  have hgd := zCopy_g (i := d) (j := x4) (n := cn) ha hb3 e1 e2 c_7
                  rw [zI_p ⟨hr1, hr2⟩] at hgd
                  obtain ⟨q1, q2, q3⟩ := id hr1
                  obtain ⟨p1, p2, p3⟩ := id hr2
                  obtain ⟨t, ht, et⟩ := vp_in_of ha (by decide)
                  obtain ⟨t2, ht2, et2⟩ := vp_in_of hb3 (by decide)
                  obtain ⟨u0, hu0, eu0⟩ := vp_in_of (x := d) (n := 25) (vp_in_iff.mpr (by omega)) (by decide)
                  obtain ⟨u2, hu2, eu2⟩ := vp_in_of (x := x4) (n := 25) (vp_in_iff.mpr (by omega)) (by decide)
                  obtain ⟨m0, hm0, em0⟩ := vp_in_of (x := cn) (n := 25) (vp_in_iff.mpr (by omega)) (by decide)
                  have hw1 : u0 + m0 ≤ 24 := by rw [eu0, em0, nI_toInt (by omega), nI_toInt (by omega)] at q3; omega
                  have hw2 : u2 + m0 ≤ 24 := by rw [eu2, em0, nI_toInt (by omega), nI_toInt (by omega)] at p3; omega
                  have ht8 := ht
                  have hl : lv_has ls 7 [(0, .ref h0), (1, .int (nI t)), (2, .int (nI u0)), (3, .int (nI t2)), (4, .int (nI u2)), (5, .int (nI m0))] := by rw [← et, ← et2, ← eu0, ← eu2, ← em0]; exact hl
                  refine lv_iconst (v := 0) hx hb dX9_copy_114 (by decide) ?_
                  refine lv_istore (lv' := [(6, .int 0), (0, .ref h0), (1, .int (nI t)), (2, .int (nI u0)), (3, .int (nI t2)), (4, .int (nI u2)), (5, .int (nI m0))]) hx hb dX9_copy_115 hl (by decide) rfl (fun ls hl => ?_)
                  refine lp_X9_copy1 Z h0 b1 b2 b3 b4 b5 b6 b7 b8 b9 b10 b11 b12 b13 b14 b15 b16 b17 b18 b19 b20 b21 b22 b23 b24 b25 n pn tn xp xr ik f20 f21 f22 t u0 t2 u2 m0 ht hw1 ht2 hw2 hx hb hml hts hown hK hA (fun j f23' H locs ls hMv hP hD hS hl => ?_) (m0 + 1) 0 f23 (by omega) (Nat.zero_le _) (fun z hz => absurd hz (Nat.not_lt_zero z)) H _ ls hP hD hS (lv_sub hl [1, 2, 3, 4, 5, 6, 0] rfl)
                  refine lv_iconst (v := 0) hx hb dX9_copy_151 (by decide) ?_
                  refine lv_istore (lv' := [(6, .int 0), (0, .ref h0), (1, .int (nI t)), (2, .int (nI u0)), (3, .int (nI t2)), (4, .int (nI u2)), (5, .int (nI m0))]) hx hb dX9_copy_152 hl (by decide) rfl (fun ls hl => ?_)
                  refine lp_X9_copy2 Z h0 b1 b2 b3 b4 b5 b6 b7 b8 b9 b10 b11 b12 b13 b14 b15 b16 b17 b18 b19 b20 b21 b22 b23 b24 b25 n pn tn xp xr ik f20 f21 f23' t u0 t2 u2 m0 f22 ht hw1 ht2 hw2 hx hb hml hts hown hK hA (fun j f22' H locs ls hRw hP hD hS hl => ?_) (m0 + 1) 0 f22 (by omega) (Nat.zero_le _) (rwN_0) H _ ls hP hD hS (lv_sub hl [1, 2, 3, 4, 5, 6, 0] rfl)
                  refine lv_iload hx hb dX9_copy_189 (lv_at hl 5 rfl) ?_
                  have hP9 := hP.sub (ws' := [(h0, .inr (9, [.ref b1, .ref b2, .ref b3, .ref b4, .int (nI n), .ref b5, .int (nI pn), .ref b6, .ref b7, .ref b8, .int (nI tn), .int xp, .int xr, .ref b9, .ref b10, .ref b11, .ref b12, .ref b13, .ref b14, .ref b15, .ref b16, .ref b17, .ref b18, .int ik, .ref b19, .ref b20, .ref b21, .ref b22, .ref b23, .ref b24, .ref b25])), (b20, .inl (Z.2 0, 4, .inl f20)), (b21, .inl (Z.2 0, 4, .inl f21)), (b22, .inl (Z.2 2, 96, .inr (.inl f22'))), (b23, .inl (Z.2 2, 24, .inr (.inl f23')))]) [0, 1, 2, 3, 4] rfl
                  have hD9 := hD.sub (ws' := [(h0, .inr (9, [.ref b1, .ref b2, .ref b3, .ref b4, .int (nI n), .ref b5, .int (nI pn), .ref b6, .ref b7, .ref b8, .int (nI tn), .int xp, .int xr, .ref b9, .ref b10, .ref b11, .ref b12, .ref b13, .ref b14, .ref b15, .ref b16, .ref b17, .ref b18, .int ik, .ref b19, .ref b20, .ref b21, .ref b22, .ref b23, .ref b24, .ref b25])), (b20, .inl (Z.2 0, 4, .inl f20)), (b21, .inl (Z.2 0, 4, .inl f21)), (b22, .inl (Z.2 2, 96, .inr (.inl f22'))), (b23, .inl (Z.2 2, 24, .inr (.inl f23')))]) [0, 1, 2, 3, 4] (by decide +kernel) rfl
                  exact W.iret (v := (nI m0)) hx hb hr (fun t9 ht hW => ⟨⟨nI m0, (f22', f23'), rfl, ⟨by rw [hgd]; exact em0.symm, im_copyY hI hs et eu0 et2 eu2 em0 ht8 ht2 hw1 hw2 e1 q3 hgd.symm hMv hRw⟩, by rw [ht]; exact hP9, hD9⟩, hS.F ht⟩) hS.2.2 dX9_copy_191
                · refine lv_bipush (v := (-13)) hx hb dX9_copy_111 (by decide) ?_
                  have hP9 := hP.sub (ws' := [(h0, .inr (9, [.ref b1, .ref b2, .ref b3, .ref b4, .int (nI n), .ref b5, .int (nI pn), .ref b6, .ref b7, .ref b8, .int (nI tn), .int xp, .int xr, .ref b9, .ref b10, .ref b11, .ref b12, .ref b13, .ref b14, .ref b15, .ref b16, .ref b17, .ref b18, .int ik, .ref b19, .ref b20, .ref b21, .ref b22, .ref b23, .ref b24, .ref b25])), (b20, .inl (Z.2 0, 4, .inl f20)), (b21, .inl (Z.2 0, 4, .inl f21)), (b22, .inl (Z.2 2, 96, .inr (.inl f22))), (b23, .inl (Z.2 2, 24, .inr (.inl f23)))]) [0, 1, 2, 3, 4] rfl
                  have hD9 := hD.sub (ws' := [(h0, .inr (9, [.ref b1, .ref b2, .ref b3, .ref b4, .int (nI n), .ref b5, .int (nI pn), .ref b6, .ref b7, .ref b8, .int (nI tn), .int xp, .int xr, .ref b9, .ref b10, .ref b11, .ref b12, .ref b13, .ref b14, .ref b15, .ref b16, .ref b17, .ref b18, .int ik, .ref b19, .ref b20, .ref b21, .ref b22, .ref b23, .ref b24, .ref b25])), (b20, .inl (Z.2 0, 4, .inl f20)), (b21, .inl (Z.2 0, 4, .inl f21)), (b22, .inl (Z.2 2, 96, .inr (.inl f22))), (b23, .inl (Z.2 2, 24, .inr (.inl f23)))]) [0, 1, 2, 3, 4] (by decide +kernel) rfl
                  exact W.iret (v := (-13)) hx hb hr (fun t9 ht hW => ⟨⟨(-13), (f22, f23), rfl, ⟨((zCopy_g ha hb3 e1 e2 c_7).trans (zI_n (fun q => (z_re hl2 c_8).2 c_14 q.2))).symm, im_copyN hI (((zCopy_g ha hb3 e1 e2 c_7).trans (zI_n (fun q => (z_re hl2 c_8).2 c_14 q.2))).symm) (by decide)⟩, by rw [ht]; exact hP9, hD9⟩, hS.F ht⟩) hS.2.2 dX9_copy_113
          · refine lv_bipush (v := (-12)) hx hb dX9_copy_62 (by decide) ?_
            have hP9 := hP.sub (ws' := [(h0, .inr (9, [.ref b1, .ref b2, .ref b3, .ref b4, .int (nI n), .ref b5, .int (nI pn), .ref b6, .ref b7, .ref b8, .int (nI tn), .int xp, .int xr, .ref b9, .ref b10, .ref b11, .ref b12, .ref b13, .ref b14, .ref b15, .ref b16, .ref b17, .ref b18, .int ik, .ref b19, .ref b20, .ref b21, .ref b22, .ref b23, .ref b24, .ref b25])), (b20, .inl (Z.2 0, 4, .inl f20)), (b21, .inl (Z.2 0, 4, .inl f21)), (b22, .inl (Z.2 2, 96, .inr (.inl f22))), (b23, .inl (Z.2 2, 24, .inr (.inl f23)))]) [0, 1, 2, 3, 4] rfl
            have hD9 := hD.sub (ws' := [(h0, .inr (9, [.ref b1, .ref b2, .ref b3, .ref b4, .int (nI n), .ref b5, .int (nI pn), .ref b6, .ref b7, .ref b8, .int (nI tn), .int xp, .int xr, .ref b9, .ref b10, .ref b11, .ref b12, .ref b13, .ref b14, .ref b15, .ref b16, .ref b17, .ref b18, .int ik, .ref b19, .ref b20, .ref b21, .ref b22, .ref b23, .ref b24, .ref b25])), (b20, .inl (Z.2 0, 4, .inl f20)), (b21, .inl (Z.2 0, 4, .inl f21)), (b22, .inl (Z.2 2, 96, .inr (.inl f22))), (b23, .inl (Z.2 2, 24, .inr (.inl f23)))]) [0, 1, 2, 3, 4] (by decide +kernel) rfl
            exact W.iret (v := (-12)) hx hb hr (fun t9 ht hW => ⟨⟨(-12), (f22, f23), rfl, ⟨zCopy_12 hs ha hb3 hfa hfb c_7, im_copyN hI (zCopy_12 hs ha hb3 hfa hfb c_7) (by decide)⟩, by rw [ht]; exact hP9, hD9⟩, hS.F ht⟩) hS.2.2 dX9_copy_64
        · refine lv_bipush (v := (-11)) hx hb dX9_copy_44 (by decide) ?_
          have hP9 := hP.sub (ws' := [(h0, .inr (9, [.ref b1, .ref b2, .ref b3, .ref b4, .int (nI n), .ref b5, .int (nI pn), .ref b6, .ref b7, .ref b8, .int (nI tn), .int xp, .int xr, .ref b9, .ref b10, .ref b11, .ref b12, .ref b13, .ref b14, .ref b15, .ref b16, .ref b17, .ref b18, .int ik, .ref b19, .ref b20, .ref b21, .ref b22, .ref b23, .ref b24, .ref b25])), (b20, .inl (Z.2 0, 4, .inl f20)), (b21, .inl (Z.2 0, 4, .inl f21)), (b22, .inl (Z.2 2, 96, .inr (.inl f22))), (b23, .inl (Z.2 2, 24, .inr (.inl f23)))]) [0, 1, 2, 3, 4] rfl
          have hD9 := hD.sub (ws' := [(h0, .inr (9, [.ref b1, .ref b2, .ref b3, .ref b4, .int (nI n), .ref b5, .int (nI pn), .ref b6, .ref b7, .ref b8, .int (nI tn), .int xp, .int xr, .ref b9, .ref b10, .ref b11, .ref b12, .ref b13, .ref b14, .ref b15, .ref b16, .ref b17, .ref b18, .int ik, .ref b19, .ref b20, .ref b21, .ref b22, .ref b23, .ref b24, .ref b25])), (b20, .inl (Z.2 0, 4, .inl f20)), (b21, .inl (Z.2 0, 4, .inl f21)), (b22, .inl (Z.2 2, 96, .inr (.inl f22))), (b23, .inl (Z.2 2, 24, .inr (.inl f23)))]) [0, 1, 2, 3, 4] (by decide +kernel) rfl
          exact W.iret (v := (-11)) hx hb hr (fun t9 ht hW => ⟨⟨(-11), (f22, f23), rfl, ⟨zCopy_11 hs ha hb3 (Or.inr (Int32.not_le.mp c_6)), im_copyN hI (zCopy_11 hs ha hb3 (Or.inr (Int32.not_le.mp c_6))) (by decide)⟩, by rw [ht]; exact hP9, hD9⟩, hS.F ht⟩) hS.2.2 dX9_copy_46
    · refine lv_iconst (v := (-1)) hx hb dX9_copy_24 (by decide) ?_
      have hP9 := hP.sub (ws' := [(h0, .inr (9, [.ref b1, .ref b2, .ref b3, .ref b4, .int (nI n), .ref b5, .int (nI pn), .ref b6, .ref b7, .ref b8, .int (nI tn), .int xp, .int xr, .ref b9, .ref b10, .ref b11, .ref b12, .ref b13, .ref b14, .ref b15, .ref b16, .ref b17, .ref b18, .int ik, .ref b19, .ref b20, .ref b21, .ref b22, .ref b23, .ref b24, .ref b25])), (b20, .inl (Z.2 0, 4, .inl f20)), (b21, .inl (Z.2 0, 4, .inl f21)), (b22, .inl (Z.2 2, 96, .inr (.inl f22))), (b23, .inl (Z.2 2, 24, .inr (.inl f23)))]) [0, 1, 2, 3, 4] rfl
      have hD9 := hD.sub (ws' := [(h0, .inr (9, [.ref b1, .ref b2, .ref b3, .ref b4, .int (nI n), .ref b5, .int (nI pn), .ref b6, .ref b7, .ref b8, .int (nI tn), .int xp, .int xr, .ref b9, .ref b10, .ref b11, .ref b12, .ref b13, .ref b14, .ref b15, .ref b16, .ref b17, .ref b18, .int ik, .ref b19, .ref b20, .ref b21, .ref b22, .ref b23, .ref b24, .ref b25])), (b20, .inl (Z.2 0, 4, .inl f20)), (b21, .inl (Z.2 0, 4, .inl f21)), (b22, .inl (Z.2 2, 96, .inr (.inl f22))), (b23, .inl (Z.2 2, 24, .inr (.inl f23)))]) [0, 1, 2, 3, 4] (by decide +kernel) rfl
      exact W.iret (v := (-1)) hx hb hr (fun t9 ht hW => ⟨⟨(-1), (f22, f23), rfl, ⟨(zI_n (fun q => z_i30 c_4 q.2)).symm, im_copyN hI ((zI_n (fun q => z_i30 c_4 q.2)).symm) (by decide)⟩, by rw [ht]; exact hP9, hD9⟩, hS.F ht⟩) hS.2.2 dX9_copy_25
