/-! bounds as the two sides test them -/
theorem in_nI {a : Int32} {n : Nat} (h : vp_in a n) (hn : n < 2147483648) : a = nI a.toNatClampNeg ∧ a.toNatClampNeg < n := by
  obtain ⟨j, hj, rfl⟩ := vp_in_of h hn
  rw [nI_clamp (by omega)]
  exact ⟨rfl, hj⟩
theorem in_c {b m : Int32} {k : Nat} (hm : m.toInt + 1 = k) : (if b < 0 then (0 : Int32) else (if m < b then (0 : Int32) else (1 : Int32))) = 0 ↔ ¬ vp_in b k := by
  have e0 : (0 : Int32).toInt = 0 := by decide
  rw [vp_in_iff]
  by_cases h1 : b < 0
  · rw [if_pos h1]
    rw [Int32.lt_iff_toInt_lt] at h1
    exact ⟨fun _ q => by omega, fun _ => rfl⟩
  · by_cases h2 : m < b
    · rw [if_neg h1, if_pos h2]
      rw [Int32.lt_iff_toInt_lt] at h2
      exact ⟨fun _ q => by omega, fun _ => rfl⟩
    · rw [if_neg h1, if_neg h2]
      rw [Int32.lt_iff_toInt_lt] at h1 h2
      exact ⟨fun q => absurd q (by decide), fun q => absurd ⟨by omega, by omega⟩ q⟩
theorem in_m {b : Int32} {m : Int64} {k : Nat} (hm : m.toInt + 1 = k) : (if b.toInt64 < 0 then (0 : Int32) else (if m < b.toInt64 then (0 : Int32) else (1 : Int32))) = 0 ↔ ¬ vp_in b k := by
  have e0 : (0 : Int64).toInt = 0 := by decide
  rw [vp_in_iff]
  by_cases h1 : b.toInt64 < 0
  · rw [if_pos h1]
    rw [Int64.lt_iff_toInt_lt, Int32.toInt_toInt64] at h1
    exact ⟨fun _ q => by omega, fun _ => rfl⟩
  · by_cases h2 : m < b.toInt64
    · rw [if_neg h1, if_pos h2]
      rw [Int64.lt_iff_toInt_lt, Int32.toInt_toInt64] at h2
      exact ⟨fun _ q => by omega, fun _ => rfl⟩
    · rw [if_neg h1, if_neg h2]
      rw [Int64.lt_iff_toInt_lt, Int32.toInt_toInt64] at h1 h2
      exact ⟨fun q => absurd q (by decide), fun q => absurd ⟨by omega, by omega⟩ q⟩
theorem has_c {a : Int32} {n : Nat} (hn : n ≤ 5) : (if a < 0 then (0 : Int32) else (if nI n ≤ a then (0 : Int32) else (1 : Int32))) = 0 ↔ ¬ vp_in a n := by
  have e0 : (0 : Int32).toInt = 0 := by decide
  rw [vp_in_iff]
  by_cases h1 : a < 0
  · rw [if_pos h1]
    rw [Int32.lt_iff_toInt_lt] at h1
    exact ⟨fun _ q => by omega, fun _ => rfl⟩
  · by_cases h2 : nI n ≤ a
    · rw [if_neg h1, if_pos h2]
      rw [Int32.le_iff_toInt_le, nI_toInt (by omega)] at h2
      exact ⟨fun _ q => by omega, fun _ => rfl⟩
    · rw [if_neg h1, if_neg h2]
      rw [Int32.lt_iff_toInt_lt] at h1
      rw [Int32.le_iff_toInt_le, nI_toInt (by omega)] at h2
      exact ⟨fun q => absurd q (by decide), fun q => absurd ⟨by omega, by omega⟩ q⟩
abbrev spTwo (n : Nat) (a b : Int32) : Prop := vp_in a n ∧ vp_in b n ∧ ¬ a = b
theorem pair_c {a b : Int32} {n : Nat} (hn : n ≤ 5) : (if (if a < 0 then (0 : Int32) else (if nI n ≤ a then (0 : Int32) else (1 : Int32))) = 0 then (0 : Int32) else (if (if b < 0 then (0 : Int32) else (if nI n ≤ b then (0 : Int32) else (1 : Int32))) = 0 then (0 : Int32) else (if a = b then (0 : Int32) else (1 : Int32)))) = 0 ↔ ¬ spTwo n a b := by
  have ha := has_c (a := a) hn
  have hb := has_c (a := b) hn
  by_cases h1 : (if a < 0 then (0 : Int32) else (if nI n ≤ a then (0 : Int32) else (1 : Int32))) = 0
  · rw [if_pos h1]; exact ⟨fun _ q => ha.mp h1 q.1, fun _ => rfl⟩
  · rw [if_neg h1]
    by_cases h2 : (if b < 0 then (0 : Int32) else (if nI n ≤ b then (0 : Int32) else (1 : Int32))) = 0
    · rw [if_pos h2]; exact ⟨fun _ q => hb.mp h2 q.2.1, fun _ => rfl⟩
    · rw [if_neg h2]
      by_cases h3 : a = b
      · rw [if_pos h3]; exact ⟨fun _ q => q.2.2 h3, fun _ => rfl⟩
      · rw [if_neg h3]
        exact ⟨fun q => absurd q (by decide), fun q => absurd ⟨Classical.byContradiction (fun k => h1 (ha.mpr k)), Classical.byContradiction (fun k => h2 (hb.mpr k)), h3⟩ q⟩
theorem one_m {a : Int32} {n : Nat} (hn : n ≤ 5) : q_X9_isOne_r n a = 0 ↔ ¬ vp_in a n := ⟨z_oneO hn, fun q => Classical.byContradiction (fun k => q (z_oneI hn k))⟩
theorem two_m {a b : Int32} {n : Nat} (hn : n ≤ 5) : q_X9_areTwo_r n a b = 0 ↔ ¬ spTwo n a b := ⟨z_twoO hn, fun q => Classical.byContradiction (fun k => q (z_twoI hn k))⟩
theorem two_n {n : Nat} {a b : Int32} (h : spTwo n a b) (hn : n ≤ 5) : a = nI a.toNatClampNeg ∧ b = nI b.toNatClampNeg ∧ a.toNatClampNeg < n ∧ b.toNatClampNeg < n ∧ ¬ a.toNatClampNeg = b.toNatClampNeg := by
  have h1 := in_nI h.1 (by omega)
  have h2 := in_nI h.2.1 (by omega)
  exact ⟨h1.1, h2.1, h1.2, h2.2, fun e => h.2.2 (by rw [h1.1, h2.1, e])⟩
/-! person -/
def spAdd (P : spF) (k p : Nat) : spF := (P.1 + 1, spU P.2.1 P.1 k, spU P.2.2.1 P.1 p, P.2.2.2.1, P.2.2.2.2)
abbrev spPC (a b : Int32) : Prop := vp_in a 4 ∧ vp_in b 10000
noncomputable def spPersonS (P : spF) (a b : Int32) : spF := zI (spPC a b ∧ P.1 < 5) (spAdd P a.toNatClampNeg b.toNatClampNeg) P
noncomputable def spPersonA (P : spF) (a b : Int32) : Int32 := zI (spPC a b) (zI (P.1 < 5) (nI P.1) (-3)) (-1)
theorem zFw_add {P : spF} {N k p : Nat} (h : zFw P N) (h5 : P.1 < 5) (hk : k ≤ 3) (hp : p ≤ 9999) : zFw (spAdd P k p) (N + 9999) := by
  refine ⟨h5, fun j hj => ?_, ?_, fun a b ha hb hn hab => h.2.2.2.1 a b ha hb (fun q => hn ⟨?_, ?_⟩) hab, fun a b hn => h.2.2.2.2.1 a b (fun q => hn ⟨?_, ?_⟩), h.2.2.2.2.2⟩
  · show spU P.2.1 P.1 k j ≤ 3
    by_cases e : j = P.1
    · rw [e, spU_s]; exact hk
    · rw [spU_n e]
      refine h.2.1 j ?_
      have : j < P.1 + 1 := hj
      omega
  · show fb_sm (spU P.2.2.1 P.1 p) (P.1 + 1) ≤ _
    rw [fb_sm_succ, spU_s, fb_sm_cong (f := spU P.2.2.1 P.1 p) (g := P.2.2.1) (fun k hk => spU_n (by omega))]
    have := h.2.2.1
    omega
  · exact Nat.lt_succ_of_lt q.1
  · exact Nat.lt_succ_of_lt q.2
  · exact Nat.lt_succ_of_lt q.1
  · exact Nat.lt_succ_of_lt q.2
theorem zFr_add {P : spF} {n k p : Nat} {kn ak : Int32} {f g : Nat → Int32} (hF : zFr P n kn ak f g) : zFr (spAdd P k p) (n + 1) kn ak (upd f n (nI k)) (upd g n (nI p)) := by
  have en := hF.1
  subst en
  refine ⟨rfl, fun j hj => ?_, fun j hj => ?_, hF.2.2.2.1, hF.2.2.2.2⟩
  · show _ = nI (spU P.2.1 P.1 k j)
    by_cases e : j = P.1
    · rw [e, pk_us, spU_s]
    · rw [pk_un e, spU_n e]; exact hF.2.1 j (by omega)
  · show _ = nI (spU P.2.2.1 P.1 p j)
    by_cases e : j = P.1
    · rw [e, pk_us, spU_s]
    · rw [pk_un e, spU_n e]; exact hF.2.2.1 j (by omega)
theorem spPC_c {a b : Int32} : spPC a b ↔ ¬ a < 0 ∧ ¬ 3 < a ∧ ¬ (if b < 0 then (0 : Int32) else (if 9999 < b then (0 : Int32) else (1 : Int32))) = 0 := by
  have hb := in_c (b := b) (m := 9999) (k := 10000) (by decide)
  have e0 : (0 : Int32).toInt = 0 := by decide
  have e3 : (3 : Int32).toInt = 3 := by decide
  rw [hb]
  constructor
  · intro q
    have h := vp_in_iff.mp q.1
    refine ⟨fun k => ?_, fun k => ?_, fun k => k q.2⟩
    · rw [Int32.lt_iff_toInt_lt] at k; omega
    · rw [Int32.lt_iff_toInt_lt] at k; omega
  · rintro ⟨h1, h2, h3⟩
    rw [Int32.lt_iff_toInt_lt] at h1 h2
    exact ⟨vp_in_iff.mpr ⟨by omega, by omega⟩, Classical.byContradiction h3⟩
theorem person_c {P : spF} {n : Nat} {kn ak a b : Int32} {ff fg : Nat → Int32} (hF : zFr P n kn ak ff fg) (hn : n ≤ 5) : zFr (spPersonS P a b) (q_X8_person_n1 n a b) kn ak (q_X8_person_ff1 n ff a b) (q_X8_person_fg1 n fg a b) ∧ q_X8_person_r n a b = spPersonA P a b := by
  have en := hF.1
  unfold q_X8_person_n1 q_X8_person_ff1 q_X8_person_fg1 q_X8_person_r spPersonS spPersonA q_X0_add_f1 q_X0_add_g1
  by_cases hc : spPC a b
  · obtain ⟨h1, h2, h3⟩ := spPC_c.mp hc
    have ha := in_nI hc.1 (by decide)
    have hb := in_nI hc.2 (by decide)
    rw [zI_p hc]
    by_cases h5 : P.1 < 5
    · have h6 : nI n < 5 := nI_lt (b := 5) (by omega) (by decide)
      simp only [if_neg h1, if_neg h2, if_neg h3, if_pos h6]
      rw [zI_p h5, zI_p ⟨hc, h5⟩, nI_clamp (show n < 2 ^ 31 by omega)]
      refine ⟨?_, ?_⟩
      · have h7 := zFr_add (k := a.toNatClampNeg) (p := b.toNatClampNeg) hF
        rw [← ha.1, ← hb.1] at h7
        exact h7
      · rw [nI_pred, en]
    · have h6 : ¬ nI n < 5 := nI_nlt (b := 5) (by omega) (by omega)
      simp only [if_neg h1, if_neg h2, if_neg h3, if_neg h6]
      rw [zI_n h5, zI_n (fun q => h5 q.2)]
      exact ⟨hF, rfl⟩
  · rw [zI_n hc, zI_n (fun q => hc q.1)]
    by_cases h1 : a < 0
    · simp only [if_pos h1]; exact ⟨hF, trivial⟩
    · by_cases h2 : 3 < a
      · simp only [if_neg h1, if_pos h2]; exact ⟨hF, trivial⟩
      · by_cases h3 : (if b < 0 then (0 : Int32) else (if 9999 < b then (0 : Int32) else (1 : Int32))) = 0
        · simp only [if_neg h1, if_neg h2, if_pos h3]; exact ⟨hF, trivial⟩
        · exact absurd (spPC_c.mpr ⟨h1, h2, h3⟩) hc
/-! the reference's new row of those who know each other -/
theorem add_m {n : Nat} {f3 : Nat → Int32} (hn : n < 5) : ∀ (m fu j : Nat) (f : Nat → Int32), j + m = n → m < fu → (∀ q, q < j → ∀ i, i < 32 → bt (f q) i = (bt (f3 q) i || decide (i = n))) → (∀ q, j ≤ q → q < n → f q = f3 q) → (∀ i, i < 32 → bt (f n) i = decide (i < j)) →
    (∀ q, q < n → ∀ i, i < 32 → bt ((ql_X9_add n fu j f).2 q) i = (bt (f3 q) i || decide (i = n))) ∧ (∀ i, i < 32 → bt ((ql_X9_add n fu j f).2 n) i = decide (i < n))
  | m, 0, j, f, _, hfu, _, _, _ => absurd hfu (Nat.not_lt_zero _)
  | 0, fu + 1, j, f, h, hfu, h1, h2, h3 => by
    rw [ql_X9_add, if_pos (nI_le (by omega) (by omega))]
    have e : j = n := by omega
    subst e
    exact ⟨h1, h3⟩
  | m + 1, fu + 1, j, f, h, hfu, h1, h2, h3 => by
    rw [ql_X9_add, if_neg (nI_ge (by omega) (by omega)), nI_clamp (show j < 2 ^ 31 by omega), nI_clamp (show n < 2 ^ 31 by omega)]
    refine add_m hn m fu (j + 1) _ (by omega) (by omega) (fun q hq i hi => ?_) (fun q hq1 hq2 => ?_) (fun i hi => ?_)
    · rw [pk_un (show q ≠ n by omega)]
      by_cases e : q = j
      · subst e
        rw [pk_us, bt_set (by omega) hi, h2 q (by omega) (by omega)]
      · rw [pk_un e]; exact h1 q (by omega) i hi
    · rw [pk_un (show q ≠ n by omega), pk_un (show q ≠ j by omega)]
      exact h2 q (by omega) hq2
    · rw [pk_us, pk_un (show n ≠ j by omega), bt_set (by omega) hi, h3 i hi]
      by_cases e : i = j
      · rw [e, decide_eq_true (rfl : j = j), Bool.or_true, decide_eq_true (show j < j + 1 by omega)]
      · rw [decide_eq_false e, Bool.or_false]
        by_cases e2 : i < j
        · rw [decide_eq_true e2, decide_eq_true (show i < j + 1 by omega)]
        · rw [decide_eq_false e2, decide_eq_false (show ¬ i < j + 1 by omega)]
theorem zFm_add {P : spF} {n N k p : Nat} {f1 f2 f3 f4 : Nat → Int32} (hF : zFm P n f1 f2 f3 f4) (hw : zFw P N) (hn : n < 5) : zFm (spAdd P k p) (n + 1) (q_X9_add_g1 n f1 (nI k)) (q_X9_add_g2 n f2 (nI p)) (q_X9_add_g3 n f3) (q_X9_add_g4 n f4) := by
  have en := hF.1
  unfold q_X9_add_g1 q_X9_add_g2 q_X9_add_g3 q_X9_add_g4
  rw [nI_clamp (show n < 2 ^ 31 by omega)]
  have hA := add_m (f3 := f3) hn n (n + 1) 0 (upd f3 n 0) (by omega) (by omega) (fun q hq => absurd hq (Nat.not_lt_zero q)) (fun q h1 h2 => pk_un (by omega)) (fun i hi => by rw [pk_us, b_0, decide_eq_false (Nat.not_lt_zero i)])
  subst en
  refine ⟨rfl, fun j hj => ?_⟩
  by_cases e : j = P.1
  · subst e
    refine ⟨?_, ?_, fun i hi => ?_, fun i hi => ?_⟩
    · rw [pk_us]; show _ = nI (spU P.2.1 P.1 k P.1); rw [spU_s]
    · rw [pk_us]; show _ = nI (spU P.2.2.1 P.1 p P.1); rw [spU_s]
    · rw [hA.2 i hi]
      show _ = (decide (i < P.1 + 1) && P.2.2.2.1 P.1 i)
      by_cases h1 : i < P.1
      · rw [decide_eq_true h1, decide_eq_true (show i < P.1 + 1 by omega), hw.2.2.2.1 P.1 i (by omega) (by omega) (fun q => by omega) (by omega)]; rfl
      · rw [decide_eq_false h1]
        by_cases h2 : i = P.1
        · rw [h2, hw.2.2.2.2.2.1, Bool.and_false]
        · rw [decide_eq_false (show ¬ i < P.1 + 1 by omega)]; rfl
    · rw [pk_us, b_0]
      show _ = (decide (i < P.1 + 1) && P.2.2.2.2 P.1 i)
      rw [hw.2.2.2.2.1 P.1 i (fun q => by omega), Bool.and_false]
  · have hj2 : j < P.1 := by have : j < P.1 + 1 := hj; omega
    have hf := hF.2 j hj2
    refine ⟨?_, ?_, fun i hi => ?_, fun i hi => ?_⟩
    · rw [pk_un e]; show _ = nI (spU P.2.1 P.1 k j); rw [spU_n e]; exact hf.1
    · rw [pk_un e]; show _ = nI (spU P.2.2.1 P.1 p j); rw [spU_n e]; exact hf.2.1
    · rw [hA.1 j hj2 i hi, hf.2.2.1 i hi]
      show _ = (decide (i < P.1 + 1) && P.2.2.2.1 j i)
      by_cases h1 : i = P.1
      · rw [h1, decide_eq_true (rfl : P.1 = P.1), Bool.or_true, decide_eq_true (show P.1 < P.1 + 1 by omega), hw.2.2.2.1 j P.1 (by omega) (by omega) (fun q => by omega) (by omega)]; rfl
      · rw [decide_eq_false h1, Bool.or_false]
        by_cases h2 : i < P.1
        · rw [decide_eq_true h2, decide_eq_true (show i < P.1 + 1 by omega)]
        · rw [decide_eq_false h2, decide_eq_false (show ¬ i < P.1 + 1 by omega)]
    · rw [pk_un e, hf.2.2.2 i hi]
      show _ = (decide (i < P.1 + 1) && P.2.2.2.2 j i)
      by_cases h2 : i < P.1
      · rw [decide_eq_true h2, decide_eq_true (show i < P.1 + 1 by omega)]
      · rw [decide_eq_false h2, hw.2.2.2.2.1 j i (fun q => by omega), Bool.and_false, Bool.and_false]
theorem spPC_m {a b : Int32} : spPC a b ↔ ¬ (if a.toInt64 < 0 then (0 : Int32) else (if 3 < a.toInt64 then (0 : Int32) else (1 : Int32))) = 0 ∧ ¬ (if b.toInt64 < 0 then (0 : Int32) else (if 9999 < b.toInt64 then (0 : Int32) else (1 : Int32))) = 0 := by
  rw [in_m (b := a) (m := 3) (k := 4) (by decide), in_m (b := b) (m := 9999) (k := 10000) (by decide)]
  exact ⟨fun q => ⟨fun k => k q.1, fun k => k q.2⟩, fun q => ⟨Classical.byContradiction q.1, Classical.byContradiction q.2⟩⟩
theorem person_m {P : spF} {n N : Nat} {a b : Int32} {f1 f2 f3 f4 : Nat → Int32} (hF : zFm P n f1 f2 f3 f4) (hw : zFw P N) : zFm (spPersonS P a b) (q_X9_person_n1 n a b) (q_X9_person_g1 n f1 a b) (q_X9_person_g2 n f2 a b) (q_X9_person_g3 n f3 a b) (q_X9_person_g4 n f4 a b) ∧ q_X9_person_r n a b = spPersonA P a b := by
  have en := hF.1
  have h5w := hw.1
  unfold q_X9_person_n1 q_X9_person_g1 q_X9_person_g2 q_X9_person_g3 q_X9_person_g4 q_X9_person_r spPersonS spPersonA
  by_cases hc : spPC a b
  · obtain ⟨h1, h2⟩ := spPC_m.mp hc
    have ha := in_nI hc.1 (by decide)
    have hb := in_nI hc.2 (by decide)
    rw [zI_p hc]
    by_cases h5 : P.1 < 5
    · have h6 : ¬ nI n = 5 := fun q => by have := (nI_eq (a := n) (b := 5) (by omega) (by decide)).mp q; omega
      rw [if_neg h1, if_neg h1, if_neg h1, if_neg h1, if_neg h1, if_neg h1, if_neg h2, if_neg h2, if_neg h2, if_neg h2, if_neg h2, if_neg h2, if_neg h6, if_neg h6, if_neg h6, if_neg h6, if_neg h6, if_neg h6, zI_p h5, zI_p ⟨hc, h5⟩]
      have h7 := zFm_add (k := a.toNatClampNeg) (p := b.toNatClampNeg) hF hw (by omega)
      rw [← ha.1, ← hb.1] at h7
      exact ⟨h7, by rw [en]⟩
    · have h6 : nI n = 5 := by rw [show n = 5 by omega]; rfl
      rw [if_neg h1, if_neg h1, if_neg h1, if_neg h1, if_neg h1, if_neg h1, if_neg h2, if_neg h2, if_neg h2, if_neg h2, if_neg h2, if_neg h2, if_pos h6, if_pos h6, if_pos h6, if_pos h6, if_pos h6, if_pos h6, zI_n h5, zI_n (fun q => h5 q.2)]
      exact ⟨hF, rfl⟩
  · rw [zI_n hc, zI_n (fun q => hc q.1)]
    by_cases h1 : (if a.toInt64 < 0 then (0 : Int32) else (if 3 < a.toInt64 then (0 : Int32) else (1 : Int32))) = 0
    · rw [if_pos h1, if_pos h1, if_pos h1, if_pos h1, if_pos h1, if_pos h1]; exact ⟨hF, rfl⟩
    · by_cases h2 : (if b.toInt64 < 0 then (0 : Int32) else (if 9999 < b.toInt64 then (0 : Int32) else (1 : Int32))) = 0
      · rw [if_neg h1, if_neg h1, if_neg h1, if_neg h1, if_neg h1, if_neg h1, if_pos h2, if_pos h2, if_pos h2, if_pos h2, if_pos h2, if_pos h2]; exact ⟨hF, rfl⟩
      · exact absurd (spPC_m.mpr ⟨h1, h2⟩) hc
theorem spPersonS_w {P : spF} {N : Nat} {a b : Int32} (hw : zFw P N) : zFw (spPersonS P a b) (N + 9999) ∧ P.1 ≤ (spPersonS P a b).1 := by
  unfold spPersonS
  rcases Classical.em (spPC a b ∧ P.1 < 5) with h | h
  · rw [zI_p h]
    have ha := in_nI h.1.1 (by decide)
    have hb := in_nI h.1.2 (by decide)
    exact ⟨zFw_add hw h.2 (by omega) (by omega), Nat.le_succ _⟩
  · rw [zI_n h]
    exact ⟨zFw_mono hw (by omega), Nat.le_refl _⟩
theorem zLw_mono {L : spL} {n m : Nat} (h : zLw L n) (hm : n ≤ m) : zLw L m := ⟨h.1, fun j hj => ⟨Nat.lt_of_lt_of_le (h.2 j hj).1 hm, Nat.lt_of_lt_of_le (h.2 j hj).2.1 hm, (h.2 j hj).2.2⟩⟩
