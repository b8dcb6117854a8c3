/-! how both sides read the tape: blanks -/
abbrev spSk (tn : Nat) (ts : Nat → Int32) (ps : Nat) : Nat := ql_X5_skipBlanks tn ts (tn + 1) ps
theorem sk_eq {tn : Nat} {ts f8 : Nat → Int32} (htn : tn ≤ 80) (hT : ∀ j, j < tn → f8 j = ts j) : ∀ (fu ps : Nat), ps ≤ tn → ql_X9_nextByte tn f8 fu ps = ql_X5_skipBlanks tn ts fu ps
  | 0, _, _ => rfl
  | fu + 1, ps, hp => by
    rw [ql_X9_nextByte, ql_X5_skipBlanks]
    by_cases h : nI tn ≤ nI ps
    · rw [if_pos h, if_pos h]
    · have h1 : ps < tn := z_clt (by omega) hp h
      rw [if_neg h, if_neg h, nI_clamp (show ps < 2 ^ 31 by omega), hT ps h1, sk_eq htn hT fu (ps + 1) (by omega)]
theorem sk_prop {tn : Nat} {ts : Nat → Int32} (htn : tn ≤ 80) : ∀ (fu ps : Nat), ps ≤ tn → tn - ps < fu → ps ≤ ql_X5_skipBlanks tn ts fu ps ∧ ql_X5_skipBlanks tn ts fu ps ≤ tn ∧ (ql_X5_skipBlanks tn ts fu ps < tn → ¬ ts (ql_X5_skipBlanks tn ts fu ps) = 32)
  | 0, ps, _, h => absurd h (Nat.not_lt_zero _)
  | fu + 1, ps, hp, h => by
    rw [ql_X5_skipBlanks]
    by_cases h1 : nI tn ≤ nI ps
    · rw [if_pos h1]
      have e := z_cge (by omega) hp h1
      exact ⟨Nat.le_refl _, hp, fun q => by omega⟩
    · have h2 : ps < tn := z_clt (by omega) hp h1
      rw [if_neg h1, nI_clamp (show ps < 2 ^ 31 by omega)]
      by_cases h3 : ts ps = 32
      · rw [if_pos h3]
        have ih := sk_prop (ts := ts) htn fu (ps + 1) (by omega) (by omega)
        exact ⟨by omega, ih.2.1, ih.2.2⟩
      · rw [if_neg h3]
        exact ⟨Nat.le_refl _, hp, fun _ => h3⟩
theorem sk_p {tn : Nat} {ts : Nat → Int32} (htn : tn ≤ 80) {ps : Nat} (hp : ps ≤ tn) : ps ≤ spSk tn ts ps ∧ spSk tn ts ps ≤ tn ∧ (spSk tn ts ps < tn → ¬ ts (spSk tn ts ps) = 32) := sk_prop htn (tn + 1) ps hp (by omega)
theorem sk_id {tn : Nat} {ts : Nat → Int32} (htn : tn ≤ 80) {p : Nat} (hp : p ≤ tn) (h : p < tn → ¬ ts p = 32) : spSk tn ts p = p := by
  show ql_X5_skipBlanks tn ts (tn + 1) p = p
  rw [ql_X5_skipBlanks]
  by_cases h1 : nI tn ≤ nI p
  · rw [if_pos h1]
  · have h2 : p < tn := z_clt (by omega) hp h1
    rw [if_neg h1, nI_clamp (show p < 2 ^ 31 by omega), if_neg (h h2)]
theorem sk_sk {tn : Nat} {ts : Nat → Int32} (htn : tn ≤ 80) {ps : Nat} (hp : ps ≤ tn) : spSk tn ts (spSk tn ts ps) = spSk tn ts ps := sk_id htn (sk_p htn hp).2.1 (sk_p htn hp).2.2
theorem look_c {tn : Nat} {ts : Nat → Int32} (htn : tn ≤ 80) {ps : Nat} (hp : ps ≤ tn) : q_X5_look_p1 tn ps ts = spSk tn ts ps ∧ q_X5_look_r tn ps ts = if spSk tn ts ps < tn then ts (spSk tn ts ps) else 0 := by
  have h := sk_p (ts := ts) htn hp
  unfold q_X5_look_p1 q_X5_look_r q_X5_skipBlanks_p1
  refine ⟨ite_self _, ?_⟩
  by_cases h1 : nI tn ≤ nI (spSk tn ts ps)
  · have e := z_cge (by omega) h.2.1 h1
    rw [if_pos h1, if_neg (by omega)]
  · have h2 := z_clt (by omega) h.2.1 h1
    rw [if_neg h1, if_pos h2, nI_clamp (show spSk tn ts ps < 2 ^ 31 by omega)]
theorem look_m {tn : Nat} {ts f8 : Nat → Int32} (htn : tn ≤ 80) (hT : ∀ j, j < tn → f8 j = ts j) {ps : Nat} (hp : ps ≤ tn) : q_X9_nextByte_p1 tn f8 ps = spSk tn ts ps ∧ q_X9_nextByte_r tn f8 ps = if spSk tn ts ps < tn then ts (spSk tn ts ps) else -1 := by
  have h := sk_p (ts := ts) htn hp
  unfold q_X9_nextByte_p1 q_X9_nextByte_r
  rw [sk_eq htn hT (tn + 1) ps hp]
  refine ⟨ite_self _, ?_⟩
  by_cases h1 : nI tn ≤ nI (spSk tn ts ps)
  · have e := z_cge (by omega) h.2.1 h1
    rw [if_pos h1, if_neg (by omega)]
  · have h2 := z_clt (by omega) h.2.1 h1
    rw [if_neg h1, if_pos h2, nI_clamp (show spSk tn ts ps < 2 ^ 31 by omega)]
    exact hT _ h2
/-! a number -/
theorem dig_m {c : Int32} : (if c.toInt64 < 48 then (0 : Int32) else (if 57 < c.toInt64 then (0 : Int32) else (1 : Int32))) = 0 ↔ c < 48 ∨ 57 < c := by
  by_cases h1 : c.toInt64 < 48
  · rw [if_pos h1]
    rw [Int64.lt_iff_toInt_lt, Int32.toInt_toInt64] at h1
    exact ⟨fun _ => Or.inl (Int32.lt_iff_toInt_lt.mpr h1), fun _ => rfl⟩
  · by_cases h2 : 57 < c.toInt64
    · rw [if_neg h1, if_pos h2]
      rw [Int64.lt_iff_toInt_lt, Int32.toInt_toInt64] at h2
      exact ⟨fun _ => Or.inr (Int32.lt_iff_toInt_lt.mpr h2), fun _ => rfl⟩
    · rw [if_neg h1, if_neg h2]
      rw [Int64.lt_iff_toInt_lt, Int32.toInt_toInt64] at h1 h2
      refine ⟨fun q => absurd q (by decide), fun q => ?_⟩
      rcases q with q | q
      · exact absurd (Int32.lt_iff_toInt_lt.mp q) h1
      · exact absurd (Int32.lt_iff_toInt_lt.mp q) h2
theorem dig_n {c : Int32} (h1 : ¬ c < 48) (h2 : ¬ 57 < c) : ∃ d : Nat, d ≤ 9 ∧ c = nI (d + 48) := by
  have e48 : (48 : Int32).toInt = 48 := by decide
  have e57 : (57 : Int32).toInt = 57 := by decide
  rw [Int32.lt_iff_toInt_lt, e48] at h1
  rw [Int32.lt_iff_toInt_lt, e57] at h2
  obtain ⟨j, hj, rfl⟩ := vp_in_of (x := c) (n := 58) (vp_in_iff.mpr ⟨by omega, by omega⟩) (by decide)
  rw [nI_toInt (by omega)] at h1 h2
  exact ⟨j - 48, by omega, by rw [show j - 48 + 48 = j by omega]⟩
/-- the class's number x and the reference's y, at ps, begun at p0 -/
def numR (p0 ps : Nat) (x y : Int32) : Prop := (ps = p0 ∧ x = -1 ∧ y = 0) ∨ (p0 < ps ∧ ∃ u : Nat, u ≤ 1000009 ∧ y = nI u ∧ x = nI (min u 10000))
theorem num_x {x : Int32} {v d : Nat} (hv : v ≤ 10000) (hd : d ≤ 9) (h : (if x < 0 then (0 : Int32) else x) = nI v) : (if 10000 < ((((if x < 0 then (0 : Int32) else x) * 10) + nI (d + 48)) - 48) then (10000 : Int32) else ((((if x < 0 then (0 : Int32) else x) * 10) + nI (d + 48)) - 48)) = nI (min (v * 10 + d) 10000) := by
  rw [h, show (10 : Int32) = nI 10 from rfl, pk_mul, nI_add, show (48 : Int32) = nI 48 from rfl, pk_sub (by omega), show v * 10 + (d + 48) - 48 = v * 10 + d by omega]
  by_cases q : 10000 < v * 10 + d
  · rw [if_pos (show (10000 : Int32) < nI (v * 10 + d) from nI_lt (a := 10000) q (by omega)), Nat.min_eq_right (by omega)]; rfl
  · rw [if_neg (show ¬ (10000 : Int32) < nI (v * 10 + d) from nI_nlt (a := 10000) (by omega) (by decide)), Nat.min_eq_left (by omega)]
theorem num_y {u d : Nat} (hu : u ≤ 1000009) (hd : d ≤ 9) : (if nI u ≤ 99999 then 10 * nI u + nI (d + 48) - 48 else nI u) = nI (if u ≤ 99999 then 10 * u + d else u) := by
  by_cases q : u ≤ 99999
  · rw [if_pos (show nI u ≤ (99999 : Int32) from nI_le (b := 99999) q (by decide)), if_pos q, show (10 : Int32) = nI 10 from rfl, pk_mul, nI_add, show (48 : Int32) = nI 48 from rfl, pk_sub (by omega), show 10 * u + (d + 48) - 48 = 10 * u + d by omega]
  · rw [if_neg (show ¬ nI u ≤ (99999 : Int32) from nI_ge (b := u) (a := 99999) (by omega) (by omega)), if_neg q]
theorem num_rel {tn : Nat} {ts f8 : Nat → Int32} (htn : tn ≤ 80) (hT : ∀ j, j < tn → f8 j = ts j) {p0 : Nat} : ∀ (fu ps : Nat) (x y : Int32), ps ≤ tn → tn - ps < fu → numR p0 ps x y →
    (ql_X9_readNumber tn f8 fu ps y).1 = (ql_X5_readNumber tn ts fu ps x).1 ∧ (ql_X5_readNumber tn ts fu ps x).1 ≤ tn ∧ numR p0 (ql_X5_readNumber tn ts fu ps x).1 (ql_X5_readNumber tn ts fu ps x).2 (ql_X9_readNumber tn f8 fu ps y).2
  | 0, ps, x, y, _, h, _ => absurd h (Nat.not_lt_zero _)
  | fu + 1, ps, x, y, hp, h, hR => by
    rw [ql_X5_readNumber, ql_X9_readNumber]
    by_cases h1 : nI tn ≤ nI ps
    · rw [if_pos h1, if_pos h1]; exact ⟨rfl, hp, hR⟩
    · have h2 : ps < tn := z_clt (by omega) hp h1
      rw [if_neg h1, if_neg h1, nI_clamp (show ps < 2 ^ 31 by omega), hT ps h2]
      by_cases h3 : ts ps < 48
      · rw [if_pos h3, if_pos (dig_m.mpr (Or.inl h3))]; exact ⟨rfl, hp, hR⟩
      · by_cases h4 : 57 < ts ps
        · rw [if_neg h3, if_pos h4, if_pos (dig_m.mpr (Or.inr h4))]; exact ⟨rfl, hp, hR⟩
        · rw [if_neg h3, if_neg h4, if_neg (fun q => (dig_m.mp q).elim h3 h4)]
          obtain ⟨d, hd, e⟩ := dig_n h3 h4
          rw [e]
          have hx : ∃ u, u ≤ 1000009 ∧ y = nI u ∧ (if x < 0 then (0 : Int32) else x) = nI (min u 10000) := by
            rcases hR with ⟨-, rfl, rfl⟩ | ⟨-, u, hu, rfl, rfl⟩
            · exact ⟨0, by omega, rfl, by rw [if_pos (by decide)]; rfl⟩
            · exact ⟨u, hu, rfl, by rw [if_neg (nI_pos (by omega))]⟩
          obtain ⟨u, hu, rfl, hx⟩ := hx
          have hlt : p0 < ps + 1 := by rcases hR with ⟨q, -, -⟩ | ⟨q, -⟩ <;> omega
          have ey := num_y hu hd
          rw [num_x (by omega) hd hx]
          by_cases h5 : nI u ≤ 99999
          · rw [if_pos h5] at ey ⊢
            rw [ey]
            have h6 : u ≤ 99999 := (nI_leI (b := 99999) (by omega) (by decide)).mp h5
            rw [if_pos h6]
            refine num_rel htn hT fu (ps + 1) _ _ (by omega) (by omega) (Or.inr ⟨hlt, 10 * u + d, by omega, rfl, ?_⟩)
            rw [show min (min u 10000 * 10 + d) 10000 = min (10 * u + d) 10000 by omega]
          · rw [if_neg h5]
            have h6 : ¬ u ≤ 99999 := fun q => h5 (nI_le (b := 99999) q (by decide))
            refine num_rel htn hT fu (ps + 1) _ _ (by omega) (by omega) (Or.inr ⟨hlt, u, hu, rfl, ?_⟩)
            rw [show min (min u 10000 * 10 + d) 10000 = min u 10000 by omega]
/-- a number of at most 9999, from s on -/
theorem num_fin {tn : Nat} {ts f8 : Nat → Int32} (htn : tn ≤ 80) (hT : ∀ j, j < tn → f8 j = ts j) {ps : Nat} (hp : ps ≤ tn) :
    ((q_X5_readNumber_r tn (spSk tn ts ps) ts < 0 ∨ ¬ q_X5_readNumber_r tn (spSk tn ts ps) ts ≤ 9999) ∧ q_X9_readNumber_r tn f8 ps 9999 = -1 ∧ q_X9_readNumber_p1 tn f8 ps 9999 = spSk tn ts ps) ∨
    (¬ q_X5_readNumber_r tn (spSk tn ts ps) ts < 0 ∧ q_X5_readNumber_r tn (spSk tn ts ps) ts ≤ 9999 ∧ q_X9_readNumber_r tn f8 ps 9999 = q_X5_readNumber_r tn (spSk tn ts ps) ts ∧ q_X9_readNumber_p1 tn f8 ps 9999 = q_X5_readNumber_p1 tn (spSk tn ts ps) ts ∧ q_X5_readNumber_p1 tn (spSk tn ts ps) ts ≤ tn ∧ vp_in (q_X5_readNumber_r tn (spSk tn ts ps) ts) 10000) := by
  have hs := sk_p (ts := ts) htn hp
  have hl := (look_m htn hT hp).1
  have hr := num_rel htn hT (p0 := spSk tn ts ps) (tn + 1) (spSk tn ts ps) (-1) 0 hs.2.1 (by omega) (Or.inl ⟨rfl, rfl, rfl⟩)
  unfold q_X9_readNumber_r q_X9_readNumber_p1 q_X5_readNumber_r q_X5_readNumber_p1
  rw [hl, hr.1]
  rcases hr.2.2 with ⟨e1, e2, e3⟩ | ⟨e1, u, hu, e2, e3⟩
  · rw [e1, e2, if_pos rfl, if_pos rfl]
    exact Or.inl ⟨Or.inl (by decide), rfl, rfl⟩
  · have hb := hr.2.1
    have hne : ¬ nI (ql_X5_readNumber tn ts (tn + 1) (spSk tn ts ps) (-1)).1 = nI (spSk tn ts ps) := fun q => by have := (nI_eq (by omega) (by omega)).mp q; omega
    simp only [if_neg hne]
    rw [e2, e3]
    by_cases h : u ≤ 9999
    · rw [if_pos (show nI u ≤ (9999 : Int32) from nI_le (b := 9999) h (by decide)), if_pos (show nI u ≤ (9999 : Int32) from nI_le (b := 9999) h (by decide)), show min u 10000 = u by omega]
      exact Or.inr ⟨nI_pos (by omega), nI_le (b := 9999) h (by decide), rfl, rfl, hb, vp_in_nI (by omega) (by decide)⟩
    · rw [if_neg (show ¬ nI u ≤ (9999 : Int32) from nI_ge (a := 9999) (b := u) (by omega) (by omega)), if_neg (show ¬ nI u ≤ (9999 : Int32) from nI_ge (a := 9999) (b := u) (by omega) (by omega)), show min u 10000 = 10000 by omega]
      exact Or.inl ⟨Or.inr (by decide), rfl, rfl⟩
/-! a kind -/
theorem ix_n : ∀ j, j < 127 → q_J0_indexOf_0f7a4_r (nI j) = (if nI j = 102 then 0 else if nI j = 99 then 1 else if nI j = 116 then 2 else if nI j = 119 then 3 else -1) := by decide +kernel
theorem sg_n {tn : Nat} {ts : Nat → Int32} (hz : zSw tn ts) {j : Nat} (hj : j < tn) : ∃ c : Nat, 32 ≤ c ∧ c < 127 ∧ ts j = nI c := by
  have h := hz.2 j hj
  rw [Int32.le_iff_toInt_le, Int32.le_iff_toInt_le, show (32 : Int32).toInt = 32 by decide, show (126 : Int32).toInt = 126 by decide] at h
  obtain ⟨c, hc, e⟩ := vp_in_of (x := ts j) (n := 127) (vp_in_iff.mpr ⟨by omega, by omega⟩) (by decide)
  rw [e, nI_toInt (by omega)] at h
  exact ⟨c, by omega, hc, e⟩
/-- one of the people: the class's way and the reference's -/
theorem one_rel {tn : Nat} {ts f8 f9 : Nat → Int32} (htn : tn ≤ 80) (hT : ∀ j, j < tn → f8 j = ts j) (hz : zSw tn ts) {ps a : Nat} (hp : ps ≤ tn) (ha : a + 1 < 24) :
    (¬ 0 ≤ q_J0_indexOf_0f7a4_r (q_X5_look_r tn ps ts) ∧ q_X9_readOne_r tn f8 ps = 0 ∧ q_X9_readOne_p1 tn f8 ps = spSk tn ts ps) ∨
    (0 ≤ q_J0_indexOf_0f7a4_r (q_X5_look_r tn ps ts) ∧ vp_in (q_J0_indexOf_0f7a4_r (q_X5_look_r tn ps ts)) 4 ∧ spSk tn ts ps < tn ∧
      (((q_X5_readNumber_r tn (spSk tn ts (spSk tn ts ps + 1)) ts < 0 ∨ ¬ q_X5_readNumber_r tn (spSk tn ts (spSk tn ts ps + 1)) ts ≤ 9999) ∧ q_X9_readOne_r tn f8 ps = 0 ∧ q_X9_readOne_p1 tn f8 ps = spSk tn ts (spSk tn ts ps + 1)) ∨
       (¬ q_X5_readNumber_r tn (spSk tn ts (spSk tn ts ps + 1)) ts < 0 ∧ q_X5_readNumber_r tn (spSk tn ts (spSk tn ts ps + 1)) ts ≤ 9999 ∧ q_X9_readOne_r tn f8 ps = 1 ∧ q_X9_readOne_p1 tn f8 ps = q_X5_readNumber_p1 tn (spSk tn ts (spSk tn ts ps + 1)) ts ∧ q_X5_readNumber_p1 tn (spSk tn ts (spSk tn ts ps + 1)) ts ≤ tn ∧ vp_in (q_X5_readNumber_r tn (spSk tn ts (spSk tn ts ps + 1)) ts) 10000 ∧ q_X9_readOne_g9 tn f8 f9 ps a = upd (upd f9 a (q_J0_indexOf_0f7a4_r (q_X5_look_r tn ps ts))) (a + 1) (q_X5_readNumber_r tn (spSk tn ts (spSk tn ts ps + 1)) ts)))) := by
  have hs := sk_p (ts := ts) htn hp
  have lc := look_c (ts := ts) htn hp
  have lm := look_m htn hT hp
  by_cases h : spSk tn ts ps < tn
  · rw [if_pos h] at lc lm
    obtain ⟨c, hc1, hc2, ec⟩ := sg_n hz h
    have nf := num_fin (ps := spSk tn ts ps + 1) htn hT (by omega)
    have ix := ix_n c hc2
    rw [lc.2, ec, ix]
    rw [ec] at lm
    unfold q_X9_readOne_r q_X9_readOne_p1 q_X9_readOne_g9
    rw [lm.1, lm.2, nI_clamp (show a < 2 ^ 31 by omega), nI_clamp (show a + 1 < 2 ^ 31 by omega)]
    by_cases k0 : nI c = 102
    · simp only [if_pos k0]
      refine Or.inr ⟨by decide, vp_in_iff.mpr (by decide), h, ?_⟩
      rcases nf with ⟨n1, n2, n3⟩ | ⟨n1, n2, n3, n4, n5, n6⟩
      · rw [n2, n3, if_pos (by decide)]; exact Or.inl ⟨n1, rfl, ite_self _⟩
      · rw [n3, n4, if_neg n1, if_neg n1]; exact Or.inr ⟨n1, n2, rfl, rfl, n5, n6, ite_self _⟩
    · by_cases k1 : nI c = 99
      · simp only [if_neg k0, if_pos k1]
        refine Or.inr ⟨by decide, vp_in_iff.mpr (by decide), h, ?_⟩
        rcases nf with ⟨n1, n2, n3⟩ | ⟨n1, n2, n3, n4, n5, n6⟩
        · rw [n2, n3, if_pos (by decide)]; exact Or.inl ⟨n1, rfl, ite_self _⟩
        · rw [n3, n4, if_neg n1, if_neg n1]; exact Or.inr ⟨n1, n2, rfl, rfl, n5, n6, ite_self _⟩
      · by_cases k2 : nI c = 116
        · simp only [if_neg k0, if_neg k1, if_pos k2]
          refine Or.inr ⟨by decide, vp_in_iff.mpr (by decide), h, ?_⟩
          rcases nf with ⟨n1, n2, n3⟩ | ⟨n1, n2, n3, n4, n5, n6⟩
          · rw [n2, n3, if_pos (by decide)]; exact Or.inl ⟨n1, rfl, ite_self _⟩
          · rw [n3, n4, if_neg n1, if_neg n1]; exact Or.inr ⟨n1, n2, rfl, rfl, n5, n6, ite_self _⟩
        · by_cases k3 : nI c = 119
          · simp only [if_neg k0, if_neg k1, if_neg k2, if_pos k3]
            refine Or.inr ⟨by decide, vp_in_iff.mpr (by decide), h, ?_⟩
            rcases nf with ⟨n1, n2, n3⟩ | ⟨n1, n2, n3, n4, n5, n6⟩
            · rw [n2, n3, if_pos (by decide)]; exact Or.inl ⟨n1, rfl, ite_self _⟩
            · rw [n3, n4, if_neg n1, if_neg n1]; exact Or.inr ⟨n1, n2, rfl, rfl, n5, n6, ite_self _⟩
          · simp only [if_neg k0, if_neg k1, if_neg k2, if_neg k3]
            exact Or.inl ⟨by decide, trivial, trivial⟩
  · rw [if_neg h] at lc lm
    refine Or.inl ⟨by rw [lc.2]; decide, ?_, ?_⟩
    · unfold q_X9_readOne_r
      rw [lm.2, if_neg (by decide), if_neg (by decide), if_neg (by decide), if_neg (by decide)]
    · unfold q_X9_readOne_p1
      rw [lm.1, lm.2, if_neg (by decide), if_neg (by decide), if_neg (by decide), if_neg (by decide)]
