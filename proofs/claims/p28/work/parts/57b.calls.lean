/-! set -/
abbrev spSC (n : Nat) (a b : Int32) : Prop := vp_in a n ∧ vp_in b 10000
noncomputable def spSetS (P : spF) (a b : Int32) : spF := zI (spSC P.1 a b) (P.1, P.2.1, spU P.2.2.1 a.toNatClampNeg b.toNatClampNeg, P.2.2.2) P
noncomputable def spSetA (P : spF) (a b : Int32) : Int32 := zI (spSC P.1 a b) (nI (P.2.2.1 a.toNatClampNeg)) (-1)
theorem set_c {P : spF} {n : Nat} {kn ak a b : Int32} {ff fg : Nat → Int32} (hF : zFr P n kn ak ff fg) (hn : n ≤ 5) : zFr (spSetS P a b) n kn ak ff (q_X8_set_fg1 n fg a b) ∧ q_X8_set_r n fg a b = spSetA P a b := by
  have en := hF.1
  have ha := has_c (a := a) hn
  have hb := in_c (b := b) (m := 9999) (k := 10000) (by decide)
  unfold q_X8_set_fg1 q_X8_set_r spSetS spSetA
  by_cases h1 : (if a < 0 then (0 : Int32) else (if nI n ≤ a then (0 : Int32) else (1 : Int32))) = 0
  · rw [zI_n (fun q => ha.mp h1 (by rw [en]; exact q.1)), zI_n (fun q => ha.mp h1 (by rw [en]; exact q.1)), if_pos h1, if_pos h1]
    exact ⟨hF, rfl⟩
  · by_cases h2 : (if b < 0 then (0 : Int32) else (if 9999 < b then (0 : Int32) else (1 : Int32))) = 0
    · rw [zI_n (fun q => hb.mp h2 q.2), zI_n (fun q => hb.mp h2 q.2), if_neg h1, if_neg h1, if_pos h2, if_pos h2]
      exact ⟨hF, rfl⟩
    · have k1 : vp_in a n := Classical.byContradiction (fun k => h1 (ha.mpr k))
      have k2 : vp_in b 10000 := Classical.byContradiction (fun k => h2 (hb.mpr k))
      have e1 := in_nI k1 (by omega)
      have e2 := in_nI k2 (by decide)
      have k3 : spSC P.1 a b := ⟨by rw [← en]; exact k1, k2⟩
      rw [zI_p k3, zI_p k3, if_neg h1, if_neg h1, if_neg h2, if_neg h2]
      refine ⟨⟨en, hF.2.1, fun j hj => ?_, hF.2.2.2.1, hF.2.2.2.2⟩, hF.2.2.1 _ e1.2⟩
      show _ = nI (spU P.2.2.1 a.toNatClampNeg b.toNatClampNeg j)
      by_cases e : j = a.toNatClampNeg
      · rw [e, pk_us, spU_s]; exact e2.1
      · rw [pk_un e, spU_n e]; exact hF.2.2.1 j hj
theorem set_m {P : spF} {n : Nat} {a b : Int32} {f1 f2 f3 f4 : Nat → Int32} (hF : zFm P n f1 f2 f3 f4) (hn : n ≤ 5) : zFm (spSetS P a b) n f1 (q_X9_set_g2 n f2 a b) f3 f4 ∧ q_X9_set_r n f2 a b = spSetA P a b := by
  have en := hF.1
  have ha := one_m (a := a) hn
  have hb := in_m (b := b) (m := 9999) (k := 10000) (by decide)
  unfold q_X9_set_g2 q_X9_set_r spSetS spSetA
  by_cases h1 : q_X9_isOne_r n a = 0
  · rw [zI_n (fun q => ha.mp h1 (by rw [en]; exact q.1)), zI_n (fun q => ha.mp h1 (by rw [en]; exact q.1)), if_pos h1, if_pos h1]
    exact ⟨hF, rfl⟩
  · by_cases h2 : (if b.toInt64 < 0 then (0 : Int32) else (if 9999 < b.toInt64 then (0 : Int32) else (1 : Int32))) = 0
    · rw [zI_n (fun q => hb.mp h2 q.2), zI_n (fun q => hb.mp h2 q.2), if_neg h1, if_neg h1, if_pos h2, if_pos h2]
      exact ⟨hF, rfl⟩
    · have k1 : vp_in a n := Classical.byContradiction (fun k => h1 (ha.mpr k))
      have k2 : vp_in b 10000 := Classical.byContradiction (fun k => h2 (hb.mpr k))
      have e1 := in_nI k1 (by omega)
      have e2 := in_nI k2 (by decide)
      have k3 : spSC P.1 a b := ⟨by rw [← en]; exact k1, k2⟩
      rw [zI_p k3, zI_p k3, if_neg h1, if_neg h1, if_neg h2, if_neg h2]
      refine ⟨⟨en, fun j hj => ⟨(hF.2 j hj).1, ?_, (hF.2 j hj).2.2⟩⟩, (hF.2 _ e1.2).2.1⟩
      show _ = nI (spU P.2.2.1 a.toNatClampNeg b.toNatClampNeg j)
      by_cases e : j = a.toNatClampNeg
      · rw [e, pk_us, spU_s]; exact e2.1
      · rw [pk_un e, spU_n e]; exact (hF.2 j hj).2.1
theorem spSetS_w {P : spF} {N : Nat} {a b : Int32} (hw : zFw P N) : zFw (spSetS P a b) (N + 9999) ∧ (spSetS P a b).1 = P.1 := by
  unfold spSetS
  rcases Classical.em (spSC P.1 a b) with h | h
  · rw [zI_p h]
    have e1 := in_nI h.1 (by have := hw.1; omega)
    have e2 := in_nI h.2 (by decide)
    refine ⟨⟨hw.1, hw.2.1, ?_, hw.2.2.2⟩, rfl⟩
    have h1 := spU_sm (f := P.2.2.1) (v := b.toNatClampNeg) e1.2
    have h2 := hw.2.2.1
    show fb_sm (spU P.2.2.1 a.toNatClampNeg b.toNatClampNeg) P.1 ≤ N + 9999
    omega
  · rw [zI_n h]
    exact ⟨zFw_mono hw (by omega), rfl⟩
/-! a row of those who are there -/
def spRow (B : Nat → Bool) : Nat → Int32
  | 0 => 0
  | n + 1 => if B n = true then spRow B n ||| ((1 : Int32) <<< (nI n &&& 31)) else spRow B n
theorem spRow_b {B : Nat → Bool} : ∀ (n : Nat), n ≤ 32 → ∀ i, i < 32 → bt (spRow B n) i = (decide (i < n) && B i)
  | 0, _, i, hi => by rw [spRow, b_0, decide_eq_false (Nat.not_lt_zero i)]; rfl
  | n + 1, hn, i, hi => by
    rw [spRow]
    have ih := spRow_b (B := B) n (by omega) i hi
    by_cases e : i = n
    · subst e
      by_cases h : B i = true
      · rw [if_pos h, bt_set (by omega) hi, decide_eq_true (rfl : i = i), Bool.or_true, decide_eq_true (show i < i + 1 by omega), h]; rfl
      · rw [if_neg h, ih, decide_eq_false (Nat.lt_irrefl i), decide_eq_true (show i < i + 1 by omega)]
        cases e2 : B i
        · rfl
        · exact absurd e2 h
    · have e3 : decide (i < n + 1) = decide (i < n) := by
        by_cases h : i < n
        · rw [decide_eq_true h, decide_eq_true (show i < n + 1 by omega)]
        · rw [decide_eq_false h, decide_eq_false (show ¬ i < n + 1 by omega)]
      rw [e3]
      by_cases h : B n = true
      · rw [if_pos h, bt_set (by omega) hi, decide_eq_false e, Bool.or_false, ih]
      · rw [if_neg h, ih]
theorem mask_b : ∀ n, n < 6 → ∀ i, i < 32 → bt (((1 : Int32) <<< (nI n &&& 31)) - 1) i = decide (i < n) := by decide +kernel
theorem oth_c {n : Nat} {x : Int32} {a : Nat} {K : Nat → Nat → Bool} (hn : n ≤ 5) (ha : a < 5) (h : ∀ i, i < 32 → bt x i = (decide (i < 25) && K (i / 5) (i % 5))) : q_X0_others_r (nI n) x (nI a) = spRow (K a) n := by
  unfold q_X0_others_r
  apply b_ext
  intro i hi
  rw [b_and, spRow_b n (by omega) i hi, show (5 : Int32) = nI 5 from rfl, pk_mul, b_sshr (5 * a) (by omega) x hi, mask_b n (by omega) i hi]
  by_cases e : i < n
  · rw [decide_eq_true e, Bool.and_true, Bool.true_and, if_pos (show 5 * a + i < 32 by omega), h _ (by omega), decide_eq_true (show 5 * a + i < 25 by omega), Bool.true_and, show (5 * a + i) / 5 = a by omega, show (5 * a + i) % 5 = i by omega]
  · rw [decide_eq_false e, Bool.and_false, Bool.false_and]
/-! told -/
noncomputable def spToldA (P : spF) (a b : Int32) : Int32 := zI (vp_in a P.1) (if b = 0 then nI (P.2.1 a.toNatClampNeg) else if b = 1 then nI (P.2.2.1 a.toNatClampNeg) else if b = 2 then nI (spGv (P.2.1 a.toNatClampNeg) (P.2.2.1 a.toNatClampNeg)) else if b = 3 then spRow (P.2.2.2.1 a.toNatClampNeg) P.1 else if b = 4 then spRow (P.2.2.2.2 a.toNatClampNeg) P.1 else (-1)) (-1)
theorem told_c {P : spF} {n N : Nat} {kn ak a b : Int32} {ff fg : Nat → Int32} (hF : zFr P n kn ak ff fg) (hw : zFw P N) (hN : N < 1000000000) : q_X8_told_r n kn ak ff fg a b = spToldA P a b := by
  have en := hF.1
  have h5 := hw.1
  have ha := has_c (a := a) (n := n) (by omega)
  unfold q_X8_told_r spToldA
  by_cases h1 : (if a < 0 then (0 : Int32) else (if nI n ≤ a then (0 : Int32) else (1 : Int32))) = 0
  · rw [zI_n (fun q => ha.mp h1 (by rw [en]; exact q)), if_pos h1]
  · have k1 : vp_in a n := Classical.byContradiction (fun k => h1 (ha.mpr k))
    have e1 := in_nI k1 (by omega)
    have hp := zFw_pc hw (j := a.toNatClampNeg) (by omega)
    rw [zI_p (by rw [← en]; exact k1), if_neg h1, hF.2.1 _ e1.2, hF.2.2.1 _ e1.2, gv_c (hF.2.1 _ e1.2) (hF.2.2.1 _ e1.2) (hw.2.1 _ (by omega)) (by omega)]
    rw [show q_X0_others_r (nI n) kn a = spRow (P.2.2.2.1 a.toNatClampNeg) P.1 by rw [← en, ← oth_c (by omega) (by omega) hF.2.2.2.1, ← e1.1], show q_X0_others_r (nI n) ak a = spRow (P.2.2.2.2 a.toNatClampNeg) P.1 by rw [← en, ← oth_c (by omega) (by omega) hF.2.2.2.2, ← e1.1]]
theorem row_m {n : Nat} {x : Int32} {B : Nat → Bool} (hn : n ≤ 5) (h : ∀ i, i < 32 → bt x i = (decide (i < n) && B i)) : x = spRow B n := b_ext (fun i hi => by rw [h i hi, spRow_b n (by omega) i hi])
theorem told_m {P : spF} {n N : Nat} {a b : Int32} {f1 f2 f3 f4 : Nat → Int32} (hF : zFm P n f1 f2 f3 f4) (hw : zFw P N) (hN : N < 1000000000) : q_X9_told_r n f1 f2 f3 f4 a b = spToldA P a b := by
  have en := hF.1
  have h5 := hw.1
  have ha := one_m (a := a) (n := n) (by omega)
  have hb := in_m (b := b) (m := 4) (k := 5) (by decide)
  unfold q_X9_told_r spToldA
  by_cases h1 : q_X9_isOne_r n a = 0
  · rw [zI_n (fun q => ha.mp h1 (by rw [en]; exact q)), if_pos h1]
  · have k1 : vp_in a n := Classical.byContradiction (fun k => h1 (ha.mpr k))
    have e1 := in_nI k1 (by omega)
    have hp := zFw_pc hw (j := a.toNatClampNeg) (by omega)
    have hf := hF.2 _ e1.2
    rw [zI_p (by rw [← en]; exact k1), if_neg h1, hf.1, hf.2.1, gv_m hf.1 (hw.2.1 _ (by omega)) (by omega), ← en, ← row_m (by omega) hf.2.2.1, ← row_m (by omega) hf.2.2.2]
    by_cases h2 : (if b.toInt64 < 0 then (0 : Int32) else (if 4 < b.toInt64 then (0 : Int32) else (1 : Int32))) = 0
    · have k2 := hb.mp h2
      rw [if_pos h2, if_neg (fun q => k2 (by rw [q]; exact vp_in_iff.mpr (by decide))), if_neg (fun q => k2 (by rw [q]; exact vp_in_iff.mpr (by decide))), if_neg (fun q => k2 (by rw [q]; exact vp_in_iff.mpr (by decide))), if_neg (fun q => k2 (by rw [q]; exact vp_in_iff.mpr (by decide))), if_neg (fun q => k2 (by rw [q]; exact vp_in_iff.mpr (by decide)))]
    · have k2 : vp_in b 5 := Classical.byContradiction (fun k => h2 (hb.mpr k))
      obtain ⟨j, hj, rfl⟩ := vp_in_of k2 (by decide)
      rw [if_neg h2]
      rcases (show j = 0 ∨ j = 1 ∨ j = 2 ∨ j = 3 ∨ j = 4 by omega) with rfl | rfl | rfl | rfl | rfl <;> rfl
/-! knows -/
noncomputable def spKnowsS (P : spF) (a b d : Int32) : spF := zI (spTwo P.1 a b) (P.1, P.2.1, P.2.2.1, spUK P.2.2.2.1 a.toNatClampNeg b.toNatClampNeg (!decide (d = 0)), P.2.2.2.2) P
noncomputable def spKnowsA (P : spF) (a b : Int32) : Int32 := zI (spTwo P.1 a b) (if P.2.2.2.1 a.toNatClampNeg b.toNatClampNeg = true then 1 else 0) (-1)
theorem knows_c {P : spF} {n : Nat} {kn ak a b d : Int32} {ff fg : Nat → Int32} (hF : zFr P n kn ak ff fg) (hn : n ≤ 5) : zFr (spKnowsS P a b d) n (q_X8_knows_kn1 n kn a b d) ak ff fg ∧ q_X8_knows_r n kn a b d = spKnowsA P a b := by
  have en := hF.1
  have hp := pair_c (a := a) (b := b) hn
  unfold q_X8_knows_kn1 q_X8_knows_r spKnowsS spKnowsA
  by_cases h2 : spTwo n a b
  · have h1 := fun q => hp.mp q h2
    obtain ⟨ea, eb, la, lb, lab⟩ := two_n h2 hn
    have h3 : spTwo P.1 a b := by rw [← en]; exact h2
    rw [zI_p h3, zI_p h3, if_neg h1, if_neg h1]
    have hk := zFr_kn hF (a := a.toNatClampNeg) (b := b.toNatClampNeg) (by omega) (by omega)
    rw [← ea, ← eb] at hk
    have hq : q_X0_pair_r a b = (1 : Int32) <<< (nI (5 * a.toNatClampNeg + b.toNatClampNeg) &&& 31) := by rw [← pair_n, ← ea, ← eb]
    have hb0 : ∀ i, i < 32 → bt (kn &&& (q_X0_pair_r a b ^^^ (-1))) i = (decide (i < 25) && spUK P.2.2.2.1 a.toNatClampNeg b.toNatClampNeg false (i / 5) (i % 5)) := by
      intro i hi
      rw [hq, bt_clr (by omega) hi, hF.2.2.2.1 i hi]
      by_cases e : i = 5 * a.toNatClampNeg + b.toNatClampNeg
      · rw [decide_eq_true e, e, show (5 * a.toNatClampNeg + b.toNatClampNeg) / 5 = a.toNatClampNeg by omega, show (5 * a.toNatClampNeg + b.toNatClampNeg) % 5 = b.toNatClampNeg by omega, spUK_s, Bool.not_true, Bool.and_false, Bool.and_false]
      · rw [decide_eq_false e, spUK_n (fun q => e (by omega)), Bool.not_false, Bool.and_true]
    have hb1 : ∀ i, i < 32 → bt (kn ||| q_X0_pair_r a b) i = (decide (i < 25) && spUK P.2.2.2.1 a.toNatClampNeg b.toNatClampNeg true (i / 5) (i % 5)) := by
      intro i hi
      rw [hq, bt_set (by omega) hi, hF.2.2.2.1 i hi]
      by_cases e : i = 5 * a.toNatClampNeg + b.toNatClampNeg
      · rw [decide_eq_true e, e, show (5 * a.toNatClampNeg + b.toNatClampNeg) / 5 = a.toNatClampNeg by omega, show (5 * a.toNatClampNeg + b.toNatClampNeg) % 5 = b.toNatClampNeg by omega, spUK_s, Bool.or_true, decide_eq_true (show 5 * a.toNatClampNeg + b.toNatClampNeg < 25 by omega)]; rfl
      · rw [decide_eq_false e, spUK_n (fun q => e (by omega)), Bool.or_false]
    have hrep : zFr (P.1, P.2.1, P.2.2.1, spUK P.2.2.2.1 a.toNatClampNeg b.toNatClampNeg (!decide (d = 0)), P.2.2.2.2) n (if d = 0 then kn &&& (q_X0_pair_r a b ^^^ (-1)) else kn ||| q_X0_pair_r a b) ak ff fg := by
      by_cases hd : d = 0
      · rw [if_pos hd, decide_eq_true hd]; exact ⟨en, hF.2.1, hF.2.2.1, hb0, hF.2.2.2.2⟩
      · rw [if_neg hd, decide_eq_false hd]; exact ⟨en, hF.2.1, hF.2.2.1, hb1, hF.2.2.2.2⟩
    by_cases h4 : kn &&& q_X0_pair_r a b = 0
    · rw [if_pos h4, if_pos h4, if_neg (show ¬ P.2.2.2.1 a.toNatClampNeg b.toNatClampNeg = true by rw [hk.mp h4]; decide)]
      exact ⟨hrep, by split <;> rfl⟩
    · rw [if_neg h4, if_neg h4, if_pos (show P.2.2.2.1 a.toNatClampNeg b.toNatClampNeg = true by cases e : P.2.2.2.1 a.toNatClampNeg b.toNatClampNeg; exact absurd (hk.mpr e) h4; rfl)]
      exact ⟨hrep, by split <;> rfl⟩
  · have h1 := hp.mpr h2
    rw [zI_n (by rw [← en]; exact h2), zI_n (by rw [← en]; exact h2), if_pos h1, if_pos h1]
    exact ⟨hF, rfl⟩
theorem knows_m {P : spF} {n : Nat} {a b d : Int32} {f1 f2 f3 f4 : Nat → Int32} (hF : zFm P n f1 f2 f3 f4) (hn : n ≤ 5) : zFm (spKnowsS P a b d) n f1 f2 (q_X9_knows_g3 n f3 a b d) f4 ∧ q_X9_knows_r n f3 a b d = spKnowsA P a b := by
  have en := hF.1
  have hp := two_m (a := a) (b := b) hn
  unfold q_X9_knows_g3 q_X9_knows_r spKnowsS spKnowsA
  by_cases h2 : spTwo n a b
  · have h1 := fun q => hp.mp q h2
    obtain ⟨ea, eb, la, lb, lab⟩ := two_n h2 hn
    have h3 : spTwo P.1 a b := by rw [← en]; exact h2
    have hf := hF.2 _ la
    rw [zI_p h3, zI_p h3, if_neg h1, if_neg h1]
    have hr : ((f3 a.toNatClampNeg) >>> (b &&& 31)) &&& 1 = if P.2.2.2.1 a.toNatClampNeg b.toNatClampNeg = true then 1 else 0 := by
      rw [eb, bt_has (by omega), nI_clamp (show b.toNatClampNeg < 2 ^ 31 by omega), hf.2.2.1 _ (by omega), decide_eq_true lb, Bool.true_and]
    refine ⟨?_, by rw [hr]; split <;> rfl⟩
    have hg : ∀ (v : Bool) (x : Int32), (∀ i, i < 32 → bt x i = if i = b.toNatClampNeg then v else bt (f3 a.toNatClampNeg) i) → zFm (P.1, P.2.1, P.2.2.1, spUK P.2.2.2.1 a.toNatClampNeg b.toNatClampNeg v, P.2.2.2.2) n f1 f2 (upd f3 a.toNatClampNeg x) f4 := by
      intro v x hx
      refine ⟨en, fun j hj => ⟨(hF.2 j hj).1, (hF.2 j hj).2.1, fun i hi => ?_, (hF.2 j hj).2.2.2⟩⟩
      show _ = (decide (i < n) && spUK P.2.2.2.1 a.toNatClampNeg b.toNatClampNeg v j i)
      by_cases e : j = a.toNatClampNeg
      · rw [e, pk_us, hx i hi]
        by_cases e2 : i = b.toNatClampNeg
        · rw [if_pos e2, e2, spUK_s, decide_eq_true lb, Bool.true_and]
        · rw [if_neg e2, spUK_n (fun q => e2 q.2)]; exact hf.2.2.1 i hi
      · rw [pk_un e, spUK_n (fun q => e q.1)]; exact (hF.2 j hj).2.2.1 i hi
    by_cases hd : d = 0
    · rw [if_pos hd, decide_eq_true hd]
      refine hg false _ (fun i hi => ?_)
      rw [eb, bt_clr (by omega) hi, nI_clamp (show b.toNatClampNeg < 2 ^ 31 by omega)]
      by_cases e : i = b.toNatClampNeg
      · rw [if_pos e, decide_eq_true e, Bool.not_true, Bool.and_false]
      · rw [if_neg e, decide_eq_false e, Bool.not_false, Bool.and_true]
    · rw [if_neg hd, decide_eq_false hd]
      refine hg true _ (fun i hi => ?_)
      rw [eb, bt_set (by omega) hi, nI_clamp (show b.toNatClampNeg < 2 ^ 31 by omega)]
      by_cases e : i = b.toNatClampNeg
      · rw [if_pos e, decide_eq_true e, Bool.or_true]
      · rw [if_neg e, decide_eq_false e, Bool.or_false]
  · have h1 := hp.mpr h2
    rw [zI_n (by rw [← en]; exact h2), zI_n (by rw [← en]; exact h2), if_pos h1, if_pos h1]
    exact ⟨hF, rfl⟩
theorem spKnowsS_w {P : spF} {N : Nat} {a b d : Int32} (hw : zFw P N) : zFw (spKnowsS P a b d) N ∧ (spKnowsS P a b d).1 = P.1 := by
  unfold spKnowsS
  rcases Classical.em (spTwo P.1 a b) with h | h
  · rw [zI_p h]
    obtain ⟨ea, eb, la, lb, lab⟩ := two_n h hw.1
    refine ⟨⟨hw.1, hw.2.1, hw.2.2.1, fun x y hx hy hn hxy => ?_, hw.2.2.2.2.1, fun x => ?_, hw.2.2.2.2.2.2⟩, rfl⟩
    · show spUK P.2.2.2.1 a.toNatClampNeg b.toNatClampNeg _ x y = true
      rw [spUK_n (fun q => hn ⟨by rw [q.1]; exact la, by rw [q.2]; exact lb⟩)]
      exact hw.2.2.2.1 x y hx hy hn hxy
    · show spUK P.2.2.2.1 a.toNatClampNeg b.toNatClampNeg _ x x = false
      rw [spUK_n (fun q => lab (q.1.symm.trans q.2))]
      exact hw.2.2.2.2.2.1 x
  · rw [zI_n h]; exact ⟨hw, rfl⟩
/-! ask -/
noncomputable def spAskS (P : spF) (a b : Int32) : spF := zI (spTwo P.1 a b) (spAsk P a.toNatClampNeg b.toNatClampNeg) P
noncomputable def spAskA (P : spF) (a b : Int32) : Int32 := zI (spTwo P.1 a b) (spAns P a.toNatClampNeg b.toNatClampNeg) (-1)
theorem ask_c {P : spF} {n N : Nat} {kn ak a b : Int32} {ff fg : Nat → Int32} (hF : zFr P n kn ak ff fg) (hw : zFw P N) (hN : N < 1000000000) : zFr (spAskS P a b) n kn (q_X8_ask_ak1 n kn ak fg a b) ff (q_X8_ask_fg1 n kn ak ff fg a b) ∧ q_X8_ask_r n kn ak ff fg a b = spAskA P a b := by
  have en := hF.1
  have h5 := hw.1
  have hp := pair_c (a := a) (b := b) (n := n) (by omega)
  unfold q_X8_ask_ak1 q_X8_ask_fg1 q_X8_ask_r spAskS spAskA
  by_cases h2 : spTwo n a b
  · have h1 := fun q => hp.mp q h2
    obtain ⟨ea, eb, la, lb, lab⟩ := two_n h2 (by omega)
    have h3 : spTwo P.1 a b := by rw [← en]; exact h2
    rw [zI_p h3, zI_p h3, if_neg h1, if_neg h1, if_neg h1]
    have ht := try_c hF hw hN la lb lab
    rw [← ea, ← eb] at ht
    exact ht
  · have h1 := hp.mpr h2
    rw [zI_n (by rw [← en]; exact h2), zI_n (by rw [← en]; exact h2), if_pos h1, if_pos h1, if_pos h1]
    exact ⟨hF, rfl⟩
theorem ask_m {P : spF} {n N : Nat} {a b : Int32} {f1 f2 f3 f4 : Nat → Int32} (hF : zFm P n f1 f2 f3 f4) (hw : zFw P N) (hN : N < 1000000000) : zFm (spAskS P a b) n f1 (q_X9_ask_g2 n f1 f2 f3 f4 a b) f3 (q_X9_ask_g4 n f2 f3 f4 a b) ∧ q_X9_ask_r n f1 f2 f3 f4 a b = spAskA P a b := by
  have en := hF.1
  have h5 := hw.1
  have hp := two_m (a := a) (b := b) (n := n) (by omega)
  unfold q_X9_ask_g2 q_X9_ask_g4 q_X9_ask_r spAskS spAskA q_X9_keep_g2 q_X9_keep_g4 q_X9_begin_g6 q_X9_begin_g7
  by_cases h2 : spTwo n a b
  · have h1 := fun q => hp.mp q h2
    obtain ⟨ea, eb, la, lb, lab⟩ := two_n h2 (by omega)
    have h3 : spTwo P.1 a b := by rw [← en]; exact h2
    rw [zI_p h3, zI_p h3, if_neg h1, if_neg h1, if_neg h1]
    have ht := try_m hF hw hN la lb lab
    rw [← ea, ← eb] at ht
    exact ht
  · have h1 := hp.mpr h2
    rw [zI_n (by rw [← en]; exact h2), zI_n (by rw [← en]; exact h2), if_pos h1, if_pos h1, if_pos h1]
    exact ⟨hF, rfl⟩
theorem spAskS_w {P : spF} {N : Nat} {a b : Int32} (hw : zFw P N) : zFw (spAskS P a b) N ∧ (spAskS P a b).1 = P.1 := by
  unfold spAskS
  rcases Classical.em (spTwo P.1 a b) with h | h
  · rw [zI_p h]
    obtain ⟨ea, eb, la, lb, lab⟩ := two_n h hw.1
    exact ⟨zFw_ask hw la lb lab, spAsk_n _ _ _⟩
  · rw [zI_n h]; exact ⟨hw, rfl⟩
