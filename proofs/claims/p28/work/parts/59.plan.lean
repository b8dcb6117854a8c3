/-! an asking: the class's way and the reference's -/
theorem lt_in {x : Int32} {n : Nat} (hn : n ≤ 5) : vp_in x n ↔ ¬ x < 0 ∧ x < nI n := by
  rw [vp_in_iff, Int32.lt_iff_toInt_lt, Int32.lt_iff_toInt_lt, nI_toInt (show n < 2 ^ 31 by omega), show (0 : Int32).toInt = 0 by decide]
  omega
theorem no_48 {n : Nat} (hn : n ≤ 5) : ¬ vp_in ((-1 : Int32) - 48) n := fun q => by
  have h := vp_in_iff.mp q
  have e : ((-1 : Int32) - 48).toInt = -49 := by decide
  omega
abbrev spAk (tn : Nat) (ts f8 : Nat → Int32) (n ps a : Nat) : Prop :=
    (q_X5_readAsking_r tn ps ts n = 0 ∧ q_X9_readAsking_r n tn f8 ps = 0 ∧ q_X5_readAsking_p1 tn ps ts n ≤ tn ∧ q_X9_nextByte_p1 tn f8 (q_X9_readAsking_p1 n tn f8 ps) = q_X5_readAsking_p1 tn ps ts n) ∨
    (∃ x y : Nat, x < n ∧ y < n ∧ ¬ x = y ∧ q_X5_readAsking_r tn ps ts n = 1 ∧ q_X9_readAsking_r n tn f8 ps = 1 ∧ q_X5_readAsking_p1 tn ps ts n ≤ tn ∧ q_X9_readAsking_p1 n tn f8 ps = q_X5_readAsking_p1 tn ps ts n ∧ (∀ q, q_X5_readAsking_q1 tn ps ts q n = q + 1) ∧ (∀ q pf, q_X5_readAsking_pf1 tn ps ts q pf n = upd pf q (nI x)) ∧ (∀ q pg, q_X5_readAsking_pg1 tn ps ts q pg n = upd pg q (nI y)) ∧ (∀ f9, q_X9_readAsking_g9 n tn f8 f9 ps a = upd (upd (upd f9 a (nI x)) (a + 1) (nI y)) (a + 2) 0))
set_option maxHeartbeats 1000000 in
theorem ask_rel {tn : Nat} {ts f8 : Nat → Int32} (htn : tn ≤ 80) (hT : ∀ j, j < tn → f8 j = ts j) {n ps a : Nat} (hn : n ≤ 5) (hp : ps ≤ tn) (ha : a + 2 < 24) : spAk tn ts f8 n ps a := by
  have hs := sk_p (ts := ts) htn hp
  have lc := look_c (ts := ts) htn hp
  have lm := look_m htn hT hp
  unfold spAk
  by_cases h : spSk tn ts ps < tn
  · rw [if_pos h] at lc lm
    by_cases hv : vp_in (ts (spSk tn ts ps) - 48) n
    · have hv2 := (lt_in hn).mp hv
      have hp2 : spSk tn ts ps + 1 ≤ tn := h
      have hs2 := sk_p (ts := ts) htn hp2
      have lc2 := look_c (ts := ts) htn hp2
      have lm2 := look_m htn hT hp2
      have ho : ¬ q_X9_isOne_r n (ts (spSk tn ts ps) - 48) = 0 := fun q => (one_m hn).mp q hv
      by_cases h2 : spSk tn ts (spSk tn ts ps + 1) < tn
      · rw [if_pos h2] at lc2 lm2
        by_cases hg : ts (spSk tn ts (spSk tn ts ps + 1)) = 62
        · have hp3 : spSk tn ts (spSk tn ts ps + 1) + 1 ≤ tn := h2
          have hs3 := sk_p (ts := ts) htn hp3
          have lc3 := look_c (ts := ts) htn hp3
          have lm3 := look_m htn hT hp3
          by_cases h3 : spSk tn ts (spSk tn ts (spSk tn ts ps + 1) + 1) < tn
          · rw [if_pos h3] at lc3 lm3
            by_cases hw : vp_in (ts (spSk tn ts (spSk tn ts (spSk tn ts ps + 1) + 1)) - 48) n
            · have hw2 := (lt_in hn).mp hw
              have ho3 : ¬ q_X9_isOne_r n (ts (spSk tn ts (spSk tn ts (spSk tn ts ps + 1) + 1)) - 48) = 0 := fun q => (one_m hn).mp q hw
              by_cases he : ts (spSk tn ts (spSk tn ts (spSk tn ts ps + 1) + 1)) - 48 = ts (spSk tn ts ps) - 48
              · refine Or.inl ?_
                unfold q_X5_readAsking_r q_X9_readAsking_r q_X5_readAsking_p1 q_X9_readAsking_p1
                simp only [lc.1, lc.2, lm.1, lm.2, lc2.1, lc2.2, lm2.1, lm2.2, lc3.1, lc3.2, lm3.1, lm3.2, if_neg hv2.1, if_pos hv2.2, if_neg ho, if_pos hg, if_neg hw2.1, if_neg (Int32.not_le.mpr hw2.2), if_neg ho3, if_pos he]
                exact ⟨trivial, trivial, hs3.2.1, (look_m htn hT hs3.2.1).1.trans (sk_sk htn hp3)⟩
              · have e1 := in_nI hv (by omega)
                have e2 := in_nI hw (by omega)
                refine Or.inr ⟨(ts (spSk tn ts ps) - 48).toNatClampNeg, (ts (spSk tn ts (spSk tn ts (spSk tn ts ps + 1) + 1)) - 48).toNatClampNeg, e1.2, e2.2, fun q => he (by rw [e1.1, e2.1, q]), ?_⟩
                rw [← e1.1, ← e2.1]
                unfold q_X5_readAsking_r q_X9_readAsking_r q_X5_readAsking_p1 q_X9_readAsking_p1 q_X5_readAsking_q1 q_X5_readAsking_pf1 q_X5_readAsking_pg1 q_X9_readAsking_g9 q_X2_add_f1 q_X2_add_g1
                simp only [lc.1, lc.2, lm.1, lm.2, lc2.1, lc2.2, lm2.1, lm2.2, lc3.1, lc3.2, lm3.1, lm3.2, if_neg hv2.1, if_pos hv2.2, if_neg ho, if_pos hg, if_neg hw2.1, if_neg (Int32.not_le.mpr hw2.2), if_neg ho3, if_neg he, nI_clamp (show a < 2 ^ 31 by omega), nI_clamp (show a + 1 < 2 ^ 31 by omega), nI_clamp (show a + 2 < 2 ^ 31 by omega)]
                exact ⟨trivial, trivial, h3, trivial, fun _ => trivial, fun _ _ => trivial, fun _ _ => trivial, fun _ => trivial⟩
            · refine Or.inl ?_
              have ho3 : q_X9_isOne_r n (ts (spSk tn ts (spSk tn ts (spSk tn ts ps + 1) + 1)) - 48) = 0 := (one_m hn).mpr hw
              unfold q_X5_readAsking_r q_X9_readAsking_r q_X5_readAsking_p1 q_X9_readAsking_p1
              by_cases c1 : ts (spSk tn ts (spSk tn ts (spSk tn ts ps + 1) + 1)) - 48 < 0
              · simp only [lc.1, lc.2, lm.1, lm.2, lc2.1, lc2.2, lm2.1, lm2.2, lc3.1, lc3.2, lm3.1, lm3.2, if_neg hv2.1, if_pos hv2.2, if_neg ho, if_pos hg, if_pos c1, if_pos ho3]
                exact ⟨trivial, trivial, hs3.2.1, (look_m htn hT hs3.2.1).1.trans (sk_sk htn hp3)⟩
              · have c2 : nI n ≤ ts (spSk tn ts (spSk tn ts (spSk tn ts ps + 1) + 1)) - 48 := Int32.not_lt.mp (fun q => hw ((lt_in hn).mpr ⟨c1, q⟩))
                simp only [lc.1, lc.2, lm.1, lm.2, lc2.1, lc2.2, lm2.1, lm2.2, lc3.1, lc3.2, lm3.1, lm3.2, if_neg hv2.1, if_pos hv2.2, if_neg ho, if_pos hg, if_neg c1, if_pos c2, if_pos ho3]
                exact ⟨trivial, trivial, hs3.2.1, (look_m htn hT hs3.2.1).1.trans (sk_sk htn hp3)⟩
          · refine Or.inl ?_
            rw [if_neg h3] at lc3 lm3
            have ho3 : q_X9_isOne_r n ((-1 : Int32) - 48) = 0 := (one_m hn).mpr (no_48 hn)
            have c1 : (0 : Int32) - 48 < 0 := by decide
            unfold q_X5_readAsking_r q_X9_readAsking_r q_X5_readAsking_p1 q_X9_readAsking_p1
            simp only [lc.1, lc.2, lm.1, lm.2, lc2.1, lc2.2, lm2.1, lm2.2, lc3.1, lc3.2, lm3.1, lm3.2, if_neg hv2.1, if_pos hv2.2, if_neg ho, if_pos hg, if_pos c1, if_pos ho3]
            exact ⟨trivial, trivial, hs3.2.1, (look_m htn hT hs3.2.1).1.trans (sk_sk htn hp3)⟩
        · refine Or.inl ?_
          unfold q_X5_readAsking_r q_X9_readAsking_r q_X5_readAsking_p1 q_X9_readAsking_p1
          simp only [lc.1, lc.2, lm.1, lm.2, lc2.1, lc2.2, lm2.1, lm2.2, if_neg hv2.1, if_pos hv2.2, if_neg ho, if_neg hg]
          exact ⟨trivial, trivial, hs2.2.1, (look_m htn hT hs2.2.1).1.trans (sk_sk htn hp2)⟩
      · refine Or.inl ?_
        rw [if_neg h2] at lc2 lm2
        have c0 : ¬ (0 : Int32) = 62 := by decide
        have c1 : ¬ (-1 : Int32) = 62 := by decide
        unfold q_X5_readAsking_r q_X9_readAsking_r q_X5_readAsking_p1 q_X9_readAsking_p1
        simp only [lc.1, lc.2, lm.1, lm.2, lc2.1, lc2.2, lm2.1, lm2.2, if_neg hv2.1, if_pos hv2.2, if_neg ho, if_neg c0, if_neg c1]
        exact ⟨trivial, trivial, hs2.2.1, (look_m htn hT hs2.2.1).1.trans (sk_sk htn hp2)⟩
    · refine Or.inl ?_
      have ho : q_X9_isOne_r n (ts (spSk tn ts ps) - 48) = 0 := (one_m hn).mpr hv
      unfold q_X5_readAsking_r q_X9_readAsking_r q_X5_readAsking_p1 q_X9_readAsking_p1
      by_cases c1 : ts (spSk tn ts ps) - 48 < 0
      · simp only [lc.1, lc.2, lm.1, lm.2, if_pos c1, if_pos ho]
        exact ⟨trivial, trivial, hs.2.1, (look_m htn hT hs.2.1).1.trans (sk_sk htn hp)⟩
      · have c2 : ¬ ts (spSk tn ts ps) - 48 < nI n := fun q => hv ((lt_in hn).mpr ⟨c1, q⟩)
        simp only [lc.1, lc.2, lm.1, lm.2, if_neg c1, if_neg c2, if_pos ho]
        exact ⟨trivial, trivial, hs.2.1, (look_m htn hT hs.2.1).1.trans (sk_sk htn hp)⟩
  · refine Or.inl ?_
    rw [if_neg h] at lc lm
    have ho : q_X9_isOne_r n ((-1 : Int32) - 48) = 0 := (one_m hn).mpr (no_48 hn)
    have c1 : (0 : Int32) - 48 < 0 := by decide
    unfold q_X5_readAsking_r q_X9_readAsking_r q_X5_readAsking_p1 q_X9_readAsking_p1
    simp only [lc.1, lc.2, lm.1, lm.2, if_pos c1, if_pos ho]
    exact ⟨trivial, trivial, hs.2.1, (look_m htn hT hs.2.1).1.trans (sk_sk htn hp)⟩
/-! a plan -/
abbrev spC8 : Type := Nat × Nat × Nat × Nat × Int32 × Int32 × (Nat → Int32) × (Nat → Int32)
/-- q askings among n people, on both sides -/
def plA (n q : Nat) (en : Int32) (pf pg f9 : Nat → Int32) : Prop := (∀ j, j < q → ∃ x y : Nat, x < n ∧ y < n ∧ ¬ x = y ∧ pf j = nI x ∧ pg j = nI y ∧ f9 (3 * j) = nI x ∧ f9 (3 * j + 1) = nI y ∧ f9 (3 * j + 2) = if bt en j = true then 1 else 0) ∧ ∀ i, i < 32 → q ≤ i → bt en i = false
def plR (tn : Nat) (f8 : Nat → Int32) (n : Nat) (C : spC8) (M : spM5) : Prop :=
  (C.1 = 1 ∧ (M.1 = 1 ∨ M.1 = 2) ∧ (1 ≤ C.2.2.1 ∧ C.2.2.1 ≤ 8) ∧ M.2.2.2.1 = nI C.2.2.1 ∧ plA n C.2.2.1 C.2.2.2.2.1 C.2.2.2.2.2.2.1 C.2.2.2.2.2.2.2 M.2.2.2.2) ∨
  (¬ C.1 = 1 ∧ ¬ (M.1 = 1 ∨ M.1 = 2) ∧ C.2.1 ≤ tn ∧ q_X9_nextByte_p1 tn f8 M.2.1 = C.2.1)
theorem plA_c {n q x y : Nat} {en : Int32} {pf pg f9 : Nat → Int32} (h : plA n q en pf pg f9) (hq : q < 8) (hx : x < n) (hy : y < n) (hxy : ¬ x = y) : plA n (q + 1) en (upd pf q (nI x)) (upd pg q (nI y)) (upd (upd (upd f9 (3 * q) (nI x)) (3 * q + 1) (nI y)) (3 * q + 2) 0) := by
  refine ⟨fun j hj => ?_, fun i hi h1 => h.2 i hi (by omega)⟩
  by_cases e : j = q
  · subst e
    refine ⟨x, y, hx, hy, hxy, pk_us, pk_us, ?_, ?_, ?_⟩
    · rw [pk_un (show 3 * j ≠ 3 * j + 2 by omega), pk_un (show 3 * j ≠ 3 * j + 1 by omega), pk_us]
    · rw [pk_un (show 3 * j + 1 ≠ 3 * j + 2 by omega), pk_us]
    · rw [pk_us, h.2 j (by omega) (Nat.le_refl _), if_neg (by decide)]
  · obtain ⟨x', y', a1, a2, a3, a4, a5, a6, a7, a8⟩ := h.1 j (by omega)
    refine ⟨x', y', a1, a2, a3, ?_, ?_, ?_, ?_, ?_⟩
    · rw [pk_un e]; exact a4
    · rw [pk_un e]; exact a5
    · rw [pk_un (show 3 * j ≠ 3 * q + 2 by omega), pk_un (show 3 * j ≠ 3 * q + 1 by omega), pk_un (show 3 * j ≠ 3 * q by omega)]; exact a6
    · rw [pk_un (show 3 * j + 1 ≠ 3 * q + 2 by omega), pk_un (show 3 * j + 1 ≠ 3 * q + 1 by omega), pk_un (show 3 * j + 1 ≠ 3 * q by omega)]; exact a7
    · rw [pk_un (show 3 * j + 2 ≠ 3 * q + 2 by omega), pk_un (show 3 * j + 2 ≠ 3 * q + 1 by omega), pk_un (show 3 * j + 2 ≠ 3 * q by omega)]; exact a8
theorem plA_e {n q : Nat} {en : Int32} {pf pg f9 : Nat → Int32} (h : plA n (q + 1) en pf pg f9) (hq : q < 8) : plA n (q + 1) (en ||| ((1 : Int32) <<< (nI q &&& 31))) pf pg (upd f9 (3 * q + 2) 1) := by
  refine ⟨fun j hj => ?_, fun i hi h1 => by rw [bt_set (by omega) hi, h.2 i hi h1, decide_eq_false (by omega)]; rfl⟩
  obtain ⟨x, y, a1, a2, a3, a4, a5, a6, a7, a8⟩ := h.1 j hj
  refine ⟨x, y, a1, a2, a3, a4, a5, ?_, ?_, ?_⟩
  · rw [pk_un (show 3 * j ≠ 3 * q + 2 by omega)]; exact a6
  · rw [pk_un (show 3 * j + 1 ≠ 3 * q + 2 by omega)]; exact a7
  · rw [bt_set (by omega) (by omega)]
    by_cases e : j = q
    · rw [e, pk_us, decide_eq_true (rfl : q = q), Bool.or_true, if_pos rfl]
    · rw [pk_un (show 3 * j + 2 ≠ 3 * q + 2 by omega), decide_eq_false e, Bool.or_false]; exact a8
theorem plR_r {tn n : Nat} {f8 : Nat → Int32} {a p b m : Nat} {r : Nat × Nat × Int32 × Int32 × (Nat → Int32) × (Nat → Int32)} {r' : Nat × Int32 × (Nat → Int32)} (ha : ¬ a = 1) (hb : ¬ (b = 1 ∨ b = 2)) (hp : p ≤ tn) (hm : q_X9_nextByte_p1 tn f8 m = p) : plR tn f8 n (a, p, r) (b, m, r') := Or.inr ⟨ha, hb, hp, hm⟩
theorem plR_l {tn n : Nat} {f8 : Nat → Int32} {p q k b m x : Nat} {en rm : Int32} {pf pg f9 : Nat → Int32} (hb : b = 1 ∨ b = 2) (hq : 1 ≤ q ∧ q ≤ 8) (hA : plA n q en pf pg f9) : plR tn f8 n (1, p, q, k, en, rm, pf, pg) (b, m, x, nI q, f9) := Or.inl ⟨rfl, hb, hq, rfl, hA⟩
set_option maxHeartbeats 4000000 in
theorem pl_step {tn : Nat} {ts f8 : Nat → Int32} (htn : tn ≤ 80) (hT : ∀ j, j < tn → f8 j = ts j) (hz : zSw tn ts) {n : Nat} (hn : n ≤ 5) (k : Nat) (ih : ∀ k', k = k' + 1 → ∀ (fu fv ps q : Nat) (en xr : Int32) (pf pg f9 : Nat → Int32), q + k' + 1 = 8 → k' + 1 < fu → k' + 1 < fv → ps ≤ tn → plA n q en pf pg f9 → plR tn f8 n (ql_X5_readPlan tn ts n fu ps q (k' + 1) en (nI k') pf pg) (ql_X9_readPlan n tn f8 fv ps q xr f9)) :
    ∀ (fu fv ps q : Nat) (en xr : Int32) (pf pg f9 : Nat → Int32), q + k + 1 = 8 → k + 1 < fu → k + 1 < fv → ps ≤ tn → plA n q en pf pg f9 → plR tn f8 n (ql_X5_readPlan tn ts n fu ps q (k + 1) en (nI k) pf pg) (ql_X9_readPlan n tn f8 fv ps q xr f9) := by
  intro fu fv ps q en xr pf pg f9 hk hfu hfv hp hA
  obtain ⟨fu, rfl⟩ : ∃ z, fu = z + 1 := ⟨fu - 1, by omega⟩
  obtain ⟨fv, rfl⟩ : ∃ z, fv = z + 1 := ⟨fv - 1, by omega⟩
  rw [ql_X5_readPlan, ql_X9_readPlan, if_neg (nI_pos (show k < 2 ^ 31 by omega)), if_neg (show ¬ (8 : Int32) ≤ nI q from nI_ge (a := q) (b := 8) (by omega) (by decide))]
  rcases ask_rel (a := 3 * q) htn hT hn hp (by omega) with ⟨h1, h2, h3, h4⟩ | ⟨x, y, hx, hy, hxy, h1, h2, h3, h4, h5, h6, h7, h8⟩
  · rw [if_pos h1, if_pos h2]
    exact plR_r (by decide) (by decide) h3 h4
  · rw [if_neg (show ¬ q_X5_readAsking_r tn ps ts n = 0 by rw [h1]; decide), if_neg (show ¬ q_X9_readAsking_r n tn f8 ps = 0 by rw [h2]; decide)]
    simp only [h4, h5, h6, h7, h8]
    have hs := sk_p (ts := ts) htn h3
    have lc := look_c (ts := ts) htn h3
    have lm := look_m htn hT h3
    have lc2 := look_c (ts := ts) htn hs.2.1
    rw [sk_sk htn h3] at lc2
    have hA2 := plA_c hA (by omega) hx hy hxy
    have hR : q_X9_nextByte_p1 tn f8 (spSk tn ts (q_X5_readAsking_p1 tn ps ts n)) = spSk tn ts (q_X5_readAsking_p1 tn ps ts n) := (look_m htn hT hs.2.1).1.trans (sk_sk htn h3)
    simp only [lc.1, lm.1, lc2.1]
    by_cases he : spSk tn ts (q_X5_readAsking_p1 tn ps ts n) < tn
    · obtain ⟨c, hc1, hc2, ec⟩ := sg_n hz he
      rw [if_pos he, ec] at lc lm lc2
      simp only [lc.2, lm.2, lc2.2]
      have hc0 : ¬ nI c = 0 := nI_ne0 (by omega) (by omega)
      have hcp : (0 : Int32) ≤ nI c := nI_pos' (by omega)
      by_cases h59 : nI c = 59
      · rw [if_pos h59, if_pos h59]
        have hp2 : spSk tn ts (q_X5_readAsking_p1 tn ps ts n) + 1 ≤ tn := he
        have hs2 := sk_p (ts := ts) htn hp2
        have lc3 := look_c (ts := ts) htn hp2
        have lm3 := look_m htn hT hp2
        have hA3 := plA_e hA2 (by omega)
        simp only [lc3.1, lm3.1]
        rw [nI_pred, nI_clamp (show 3 * q + 2 < 2 ^ 31 by omega)]
        by_cases he2 : spSk tn ts (spSk tn ts (q_X5_readAsking_p1 tn ps ts n) + 1) < tn
        · obtain ⟨d, hd1, hd2, ed⟩ := sg_n hz he2
          rw [if_pos he2, ed] at lc3 lm3
          rw [lc3.2, lm3.2, if_neg (show ¬ nI d = 0 from nI_ne0 (by omega) (by omega)), if_pos (nI_pos' (show d < 2 ^ 31 by omega))]
          by_cases hk0 : k = 0
          · subst hk0
            have e7 : q = 7 := by omega
            subst e7
            obtain ⟨fv, rfl⟩ : ∃ z, fv = z + 1 := ⟨fv - 1, by omega⟩
            rw [if_pos (show nI 0 = 0 from rfl), ql_X9_readPlan, if_pos (show (8 : Int32) ≤ nI (7 + 1) by decide)]
            exact plR_r (by decide) (by decide) hs2.2.1 ((look_m htn hT hs2.2.1).1.trans (sk_sk htn hp2))
          · rw [if_neg (show ¬ nI k = 0 from nI_ne0 (by omega) (by omega)), if_neg (show ¬ nI c = 44 from fun e => by rw [h59] at e; exact absurd e (by decide))]
            obtain ⟨k', rfl⟩ : ∃ z, k = z + 1 := ⟨k - 1, by omega⟩
            rw [pk_m1, Nat.add_sub_cancel]
            exact ih k' rfl fu fv _ (q + 1) _ _ _ _ _ (by omega) (by omega) (by omega) hs2.2.1 hA3
        · rw [if_neg he2] at lc3 lm3
          rw [lc3.2, lm3.2, if_pos rfl, if_neg (show ¬ (0 : Int32) ≤ -1 by decide)]
          exact plR_l (Or.inl rfl) ⟨Nat.le_add_left 1 q, show q + 1 ≤ 8 by omega⟩ hA3
      · rw [if_neg h59, if_neg h59, if_neg hc0, if_pos hcp]
        by_cases h44 : nI c = 44
        · rw [if_pos h44, if_pos h44]
          by_cases hk0 : k = 0
          · subst hk0
            have e7 : q = 7 := by omega
            subst e7
            rw [if_pos (show nI 0 = 0 from rfl), if_pos (show (7 : Int32) ≤ nI 7 by decide)]
            exact plR_r (by decide) (by decide) hs.2.1 hR
          · rw [if_neg (show ¬ nI k = 0 from nI_ne0 (by omega) (by omega)), if_neg (show ¬ (7 : Int32) ≤ nI q from nI_ge (a := q) (b := 7) (by omega) (by decide))]
            obtain ⟨k', rfl⟩ : ∃ z, k = z + 1 := ⟨k - 1, by omega⟩
            rw [pk_m1, Nat.add_sub_cancel]
            exact ih k' rfl fu fv _ (q + 1) _ _ _ _ _ (by omega) (by omega) (by omega) he hA2
        · rw [if_neg h44, if_neg h44]
          by_cases hk0 : nI k = 0
          · rw [if_pos hk0]
            exact plR_r (by decide) (by decide) hs.2.1 hR
          · rw [if_neg hk0]
            exact plR_r (by decide) (by decide) hs.2.1 hR
    · rw [if_neg he] at lc lm lc2
      simp only [lc.2, lm.2, lc2.2]
      rw [if_neg (show ¬ (0 : Int32) = 59 by decide), if_neg (show ¬ (-1 : Int32) = 59 by decide), if_pos trivial, if_neg (show ¬ (0 : Int32) ≤ -1 by decide)]
      exact plR_l (Or.inr rfl) ⟨Nat.le_add_left 1 q, show q + 1 ≤ 8 by omega⟩ hA2
theorem pl_m {tn : Nat} {ts f8 : Nat → Int32} (htn : tn ≤ 80) (hT : ∀ j, j < tn → f8 j = ts j) (hz : zSw tn ts) {n : Nat} (hn : n ≤ 5) : ∀ (k fu fv ps q : Nat) (en xr : Int32) (pf pg f9 : Nat → Int32), q + k + 1 = 8 → k + 1 < fu → k + 1 < fv → ps ≤ tn → plA n q en pf pg f9 → plR tn f8 n (ql_X5_readPlan tn ts n fu ps q (k + 1) en (nI k) pf pg) (ql_X9_readPlan n tn f8 fv ps q xr f9)
  | 0 => pl_step htn hT hz hn 0 (fun k' e => absurd e (by omega))
  | k + 1 => pl_step htn hT hz hn (k + 1) (fun k' e => by
      obtain rfl : k' = k := by omega
      exact pl_m htn hT hz hn k')
theorem pl_0 {tn : Nat} {ts f8 : Nat → Int32} (htn : tn ≤ 80) (hT : ∀ j, j < tn → f8 j = ts j) (hz : zSw tn ts) {n : Nat} (hn : n ≤ 5) (pf pg f9 : Nat → Int32) (xr : Int32) : plR tn f8 n (ql_X5_readPlan tn ts n 9 0 0 8 0 7 pf pg) (ql_X9_readPlan n tn f8 9 0 0 xr f9) := pl_m htn hT hz hn 7 9 9 0 0 0 xr pf pg f9 (by decide) (by decide) (by decide) (Nat.zero_le _) ⟨fun j hj => absurd hj (Nat.not_lt_zero j), fun i _ _ => b_0 i⟩
theorem pr_good {tn n : Nat} {ts vf vg : Nat → Int32} (h : (ql_X5_readPlan tn ts n 9 0 0 8 0 7 vf vg).1 = 1) : q_X5_readPlan_r tn ts vf vg n = nI (ql_X5_readPlan tn ts n 9 0 0 8 0 7 vf vg).2.2.1 ∧ q_X5_readPlan_q1 tn ts vf vg n = (ql_X5_readPlan tn ts n 9 0 0 8 0 7 vf vg).2.2.1 ∧ q_X5_readPlan_en1 tn ts vf vg n = (ql_X5_readPlan tn ts n 9 0 0 8 0 7 vf vg).2.2.2.2.1 ∧ q_X5_readPlan_pf1 tn ts vf vg n = (ql_X5_readPlan tn ts n 9 0 0 8 0 7 vf vg).2.2.2.2.2.2.1 ∧ q_X5_readPlan_pg1 tn ts vf vg n = (ql_X5_readPlan tn ts n 9 0 0 8 0 7 vf vg).2.2.2.2.2.2.2 := by
  unfold q_X5_readPlan_r q_X5_readPlan_q1 q_X5_readPlan_en1 q_X5_readPlan_pf1 q_X5_readPlan_pg1
  generalize ql_X5_readPlan tn ts n 9 0 0 8 0 7 vf vg = C at h ⊢
  have h0 : ¬ C.1 = 0 := by omega
  simp only [if_neg h0, if_pos h]
  exact ⟨trivial, trivial, trivial, trivial, trivial⟩
theorem pr_bad {tn n : Nat} {ts vf vg : Nat → Int32} (h : ¬ (ql_X5_readPlan tn ts n 9 0 0 8 0 7 vf vg).1 = 1) : q_X5_readPlan_r tn ts vf vg n = -20 - nI (ql_X5_readPlan tn ts n 9 0 0 8 0 7 vf vg).2.1 := by
  unfold q_X5_readPlan_r
  generalize ql_X5_readPlan tn ts n 9 0 0 8 0 7 vf vg = C at h ⊢
  simp only [if_neg h, ite_self]
theorem rq_good {tn n : Nat} {xr : Int32} {f8 f9 : Nat → Int32} (h : (ql_X9_readPlan n tn f8 9 0 0 xr f9).1 = 1 ∨ (ql_X9_readPlan n tn f8 9 0 0 xr f9).1 = 2) : q_X9_readPlan_r n tn xr f8 f9 = 1 ∧ q_X9_readPlan_xr1 n tn xr f8 f9 = (ql_X9_readPlan n tn f8 9 0 0 xr f9).2.2.2.1 ∧ q_X9_readPlan_g9 n tn xr f8 f9 = (ql_X9_readPlan n tn f8 9 0 0 xr f9).2.2.2.2 := by
  unfold q_X9_readPlan_r q_X9_readPlan_xr1 q_X9_readPlan_g9
  generalize ql_X9_readPlan n tn f8 9 0 0 xr f9 = M at h ⊢
  have h0 : ¬ M.1 = 0 := by omega
  by_cases h1 : M.1 = 1
  · simp only [if_neg h0, if_pos h1]
    exact ⟨trivial, trivial, trivial⟩
  · have h2 : M.1 = 2 := h.resolve_left h1
    simp only [if_neg h0, if_neg h1, if_pos h2]
    exact ⟨trivial, trivial, trivial⟩
theorem rq_bad {tn n : Nat} {xr : Int32} {f8 f9 : Nat → Int32} (h : ¬ ((ql_X9_readPlan n tn f8 9 0 0 xr f9).1 = 1 ∨ (ql_X9_readPlan n tn f8 9 0 0 xr f9).1 = 2)) : q_X9_readPlan_r n tn xr f8 f9 = 0 ∧ q_X9_readPlan_p1 n tn xr f8 f9 = (ql_X9_readPlan n tn f8 9 0 0 xr f9).2.1 := by
  unfold q_X9_readPlan_r q_X9_readPlan_p1
  generalize ql_X9_readPlan n tn f8 9 0 0 xr f9 = M at h ⊢
  have h1 : ¬ M.1 = 1 := fun q => h (Or.inl q)
  have h2 : ¬ M.1 = 2 := fun q => h (Or.inr q)
  simp only [if_neg h1, if_neg h2, ite_self]
  exact ⟨trivial, trivial⟩
/-! plan -/
abbrev spPC0 (tn : Nat) (st : spT) : spC8 := ql_X5_readPlan tn st.2.2.1 st.1.1 9 0 0 8 0 7 spZ0 spZ0
def spPlanA (tn : Nat) (st : spT) : Int32 := q_X5_readPlan_r tn st.2.2.1 spZ0 spZ0 st.1.1
noncomputable def spPlanL (tn : Nat) (st : spT) : spL := zI ((spPC0 tn st).1 = 1) ((spPC0 tn st).2.2.1, fun j => ((spPC0 tn st).2.2.2.2.2.2.1 j).toNatClampNeg, fun j => ((spPC0 tn st).2.2.2.2.2.2.2 j).toNatClampNeg, fun j => bt (spPC0 tn st).2.2.2.2.1 j) st.2.1
/-- the same whatever the rows held -/
theorem pl_s {tn : Nat} {ts : Nat → Int32} (htn : tn ≤ 80) (hz : zSw tn ts) {n : Nat} (hn : n ≤ 5) (vf vg : Nat → Int32) :
    ((ql_X5_readPlan tn ts n 9 0 0 8 0 7 vf vg).1 = 1 ∧ (ql_X5_readPlan tn ts n 9 0 0 8 0 7 spZ0 spZ0).1 = 1 ∧ (ql_X5_readPlan tn ts n 9 0 0 8 0 7 vf vg).2.2.1 = (ql_X5_readPlan tn ts n 9 0 0 8 0 7 spZ0 spZ0).2.2.1 ∧ (ql_X5_readPlan tn ts n 9 0 0 8 0 7 vf vg).2.2.2.2.1 = (ql_X5_readPlan tn ts n 9 0 0 8 0 7 spZ0 spZ0).2.2.2.2.1 ∧ (1 ≤ (ql_X5_readPlan tn ts n 9 0 0 8 0 7 spZ0 spZ0).2.2.1 ∧ (ql_X5_readPlan tn ts n 9 0 0 8 0 7 spZ0 spZ0).2.2.1 ≤ 8) ∧
      (∀ j, j < (ql_X5_readPlan tn ts n 9 0 0 8 0 7 spZ0 spZ0).2.2.1 → (ql_X5_readPlan tn ts n 9 0 0 8 0 7 vf vg).2.2.2.2.2.2.1 j = nI ((ql_X5_readPlan tn ts n 9 0 0 8 0 7 spZ0 spZ0).2.2.2.2.2.2.1 j).toNatClampNeg ∧ (ql_X5_readPlan tn ts n 9 0 0 8 0 7 vf vg).2.2.2.2.2.2.2 j = nI ((ql_X5_readPlan tn ts n 9 0 0 8 0 7 spZ0 spZ0).2.2.2.2.2.2.2 j).toNatClampNeg) ∧ ∀ i, i < 32 → (ql_X5_readPlan tn ts n 9 0 0 8 0 7 spZ0 spZ0).2.2.1 ≤ i → bt (ql_X5_readPlan tn ts n 9 0 0 8 0 7 spZ0 spZ0).2.2.2.2.1 i = false) ∨
    (¬ (ql_X5_readPlan tn ts n 9 0 0 8 0 7 vf vg).1 = 1 ∧ ¬ (ql_X5_readPlan tn ts n 9 0 0 8 0 7 spZ0 spZ0).1 = 1 ∧ (ql_X5_readPlan tn ts n 9 0 0 8 0 7 vf vg).2.1 = (ql_X5_readPlan tn ts n 9 0 0 8 0 7 spZ0 spZ0).2.1 ∧ (ql_X5_readPlan tn ts n 9 0 0 8 0 7 spZ0 spZ0).2.1 ≤ tn) := by
  have h1 := pl_0 htn (fun j _ => rfl) hz hn vf vg spZ0 0
  have h2 := pl_0 htn (fun j _ => rfl) hz hn spZ0 spZ0 spZ0 0
  generalize ql_X5_readPlan tn ts n 9 0 0 8 0 7 vf vg = C at h1 ⊢
  generalize ql_X5_readPlan tn ts n 9 0 0 8 0 7 spZ0 spZ0 = C0 at h2 ⊢
  generalize ql_X9_readPlan n tn ts 9 0 0 0 spZ0 = M at h1 h2
  rcases h1 with ⟨a1, a2, a3, a4, a5⟩ | ⟨a1, a2, a3, a4⟩
  · rcases h2 with ⟨b1, b2, b3, b4, b5⟩ | ⟨b1, b2, b3, b4⟩
    · have e : C.2.2.1 = C0.2.2.1 := (nI_eq (by omega) (by omega)).mp (a4.symm.trans b4)
      have eb : C.2.2.2.2.1 = C0.2.2.2.2.1 := b_ext (fun i hi => by
        by_cases q : i < C0.2.2.1
        · obtain ⟨x, y, -, -, -, -, -, -, -, c8⟩ := a5.1 i (by omega)
          obtain ⟨x', y', -, -, -, -, -, -, -, d8⟩ := b5.1 i q
          have k := c8.symm.trans d8
          cases u : bt C.2.2.2.2.1 i <;> cases v : bt C0.2.2.2.2.1 i
          · rfl
          · rw [u, v, if_neg (by decide), if_pos rfl] at k; exact absurd k (by decide)
          · rw [u, v, if_pos rfl, if_neg (by decide)] at k; exact absurd k (by decide)
          · rfl
        · rw [a5.2 i hi (by omega), b5.2 i hi (by omega)])
      refine Or.inl ⟨a1, b1, e, eb, b3, fun j hj => ?_, b5.2⟩
      obtain ⟨x, y, c1, c2, c3, c4, c5, c6, c7, c8⟩ := a5.1 j (by omega)
      obtain ⟨x', y', d1, d2, d3, d4, d5, d6, d7, d8⟩ := b5.1 j hj
      rw [d4, d5, nI_clamp (by omega), nI_clamp (by omega)]
      exact ⟨c4.trans (c6.symm.trans d6), c5.trans (c7.symm.trans d7)⟩
    · exact absurd a2 b2
  · rcases h2 with ⟨b1, b2, b3, b4, b5⟩ | ⟨b1, b2, b3, b4⟩
    · exact absurd b2 a2
    · exact Or.inr ⟨a1, b1, a4.symm.trans b4, b3⟩
theorem plan_c {st : spT} {tn N n pn : Nat} {kn ak pe : Int32} {ff fg pf pg vf vg : Nat → Int32} (hF : zFr st.1 n kn ak ff fg) (hL : zPr st.2.1 pn pe pf pg) (hn : n ≤ 5) (htn : tn ≤ 80) (hok : zIv st tn N) :
    zPr (spPlanL tn st) (q_X8_plan_pn1 n pn tn st.2.2.1 vf vg) (q_X8_plan_pe1 n pe tn st.2.2.1 vf vg) (q_X8_plan_pf1 n pf tn st.2.2.1 vf vg) (q_X8_plan_pg1 n pg tn st.2.2.1 vf vg) ∧ q_X8_plan_r n tn st.2.2.1 vf vg = spPlanA tn st := by
  have en := hF.1
  have hs := pl_s htn hok.2.2.1 hn vf vg
  have hg := pr_good (tn := tn) (n := n) (ts := st.2.2.1) (vf := vf) (vg := vg)
  have hg0 := pr_good (tn := tn) (n := n) (ts := st.2.2.1) (vf := spZ0) (vg := spZ0)
  have hb := pr_bad (tn := tn) (n := n) (ts := st.2.2.1) (vf := vf) (vg := vg)
  have hb0 := pr_bad (tn := tn) (n := n) (ts := st.2.2.1) (vf := spZ0) (vg := spZ0)
  unfold q_X8_plan_pn1 q_X8_plan_pe1 q_X8_plan_pf1 q_X8_plan_pg1 q_X8_plan_r spPlanA spPlanL spPC0 q_X2_takeFrom_f2 q_X2_takeFrom_g2
  rw [← en]
  generalize ql_X5_readPlan tn st.2.2.1 n 9 0 0 8 0 7 vf vg = C at hs hg hb
  generalize ql_X5_readPlan tn st.2.2.1 n 9 0 0 8 0 7 spZ0 spZ0 = C0 at hs hg0 hb0 ⊢
  generalize q_X5_readPlan_r tn st.2.2.1 vf vg n = r at hg hb ⊢
  generalize q_X5_readPlan_r tn st.2.2.1 spZ0 spZ0 n = r0 at hg0 hb0 ⊢
  rcases hs with ⟨a1, a2, a3, a4, a5, a6, a7⟩ | ⟨a1, a2, a3, a4⟩
  · obtain ⟨e1, e2, e3, e4, e5⟩ := hg a1
    obtain ⟨d1, d2, d3, d4, d5⟩ := hg0 a2
    have hr : ¬ r ≤ 0 := by rw [e1, a3]; exact nI_nle (by omega) (by omega)
    simp only [if_neg hr]
    rw [zI_p a2]
    rw [e1, d1, e2, e3, e4, e5, a3, a4]
    refine ⟨⟨rfl, a6, fun i hi => ?_⟩, rfl⟩
    by_cases q : i < C0.2.2.1
    · rw [decide_eq_true q, Bool.true_and]
    · rw [decide_eq_false q, a7 i hi (by omega)]; rfl
  · have e1 := hb a1
    have d1 := hb0 a2
    have hr : r ≤ 0 := by rw [e1, a3]; exact m20_le (by omega)
    simp only [if_pos hr]
    rw [zI_n a2]
    rw [e1, d1, a3]
    exact ⟨hL, rfl⟩
theorem plan_cp {k : Nat} {f9 : Nat → Int32} (hk : k ≤ 8) : ∀ (m fu j : Nat) (f5 : Nat → Int32), j + m = 3 * k → m < fu → (∀ z, z < j → f5 z = f9 z) → ∀ z, z < 3 * k → (ql_X9_plan f9 k fu j f5).2 z = f9 z
  | m, 0, j, f5, _, h, _ => absurd h (Nat.not_lt_zero _)
  | 0, fu + 1, j, f5, h, _, hf => by
    rw [ql_X9_plan, if_pos (nI_le (by omega) (by omega))]
    intro z hz
    exact hf z (by omega)
  | m + 1, fu + 1, j, f5, h, hfu, hf => by
    rw [ql_X9_plan, if_neg (nI_ge (by omega) (by omega)), nI_clamp (show j < 2 ^ 31 by omega)]
    refine plan_cp hk m fu (j + 1) _ (by omega) (by omega) (fun z hz => ?_)
    by_cases e : z = j
    · rw [e, pk_us]
    · rw [pk_un e]; exact hf z (by omega)
theorem plan_m {st : spT} {tn N n pn : Nat} {xr : Int32} {f1 f2 f3 f4 f5 f8 f9 : Nat → Int32} (hF : zFm st.1 n f1 f2 f3 f4) (hL : zPm st.2.1 pn f5) (hT : ∀ j, j < tn → f8 j = st.2.2.1 j) (hn : n ≤ 5) (htn : tn ≤ 80) (hok : zIv st tn N) :
    zPm (spPlanL tn st) (q_X9_plan_pn1 n pn tn xr f8 f9) (q_X9_plan_g5 n tn xr f5 f8 f9) ∧ q_X9_plan_r n tn xr f8 f9 = spPlanA tn st := by
  have en := hF.1
  have h0 := pl_0 htn hT hok.2.2.1 hn spZ0 spZ0 f9 xr
  have hg := rq_good (tn := tn) (n := n) (xr := xr) (f8 := f8) (f9 := f9)
  have hg0 := pr_good (tn := tn) (n := n) (ts := st.2.2.1) (vf := spZ0) (vg := spZ0)
  have hb := rq_bad (tn := tn) (n := n) (xr := xr) (f8 := f8) (f9 := f9)
  have hb0 := pr_bad (tn := tn) (n := n) (ts := st.2.2.1) (vf := spZ0) (vg := spZ0)
  unfold q_X9_plan_pn1 q_X9_plan_g5 q_X9_plan_r spPlanA spPlanL spPC0
  rw [← en]
  generalize ql_X9_readPlan n tn f8 9 0 0 xr f9 = M at h0 hg hb
  generalize ql_X5_readPlan tn st.2.2.1 n 9 0 0 8 0 7 spZ0 spZ0 = C0 at h0 hg0 hb0 ⊢
  generalize q_X9_readPlan_r n tn xr f8 f9 = r at hg hb ⊢
  generalize q_X5_readPlan_r tn st.2.2.1 spZ0 spZ0 n = r0 at hg0 hb0 ⊢
  rcases h0 with ⟨a1, a2, a3, a4, a5⟩ | ⟨a1, a2, a3, a4⟩
  · obtain ⟨e1, e2, e3⟩ := hg a2
    obtain ⟨d1, d2, d3, d4, d5⟩ := hg0 a1
    have hr : ¬ r = 0 := by rw [e1]; decide
    simp only [if_neg hr]
    rw [zI_p a1]
    rw [e2, e3, a4, d1, nI_clamp (show C0.2.2.1 < 2 ^ 31 by omega)]
    have hc := plan_cp (f9 := M.2.2.2.2) a3.2 (3 * C0.2.2.1) (3 * C0.2.2.1 + 1) 0 f5 (by omega) (by omega) (fun z hz => absurd hz (Nat.not_lt_zero z))
    refine ⟨⟨rfl, fun j hj => ?_⟩, rfl⟩
    have hj2 : j < C0.2.2.1 := hj
    obtain ⟨x, y, c1, c2, c3, c4, c5, c6, c7, c8⟩ := a5.1 j hj2
    rw [hc (3 * j) (by omega), hc (3 * j + 1) (by omega), hc (3 * j + 2) (by omega)]
    refine ⟨?_, ?_, c8⟩
    · show _ = nI (C0.2.2.2.2.2.2.1 j).toNatClampNeg
      rw [c4, nI_clamp (by omega)]; exact c6
    · show _ = nI (C0.2.2.2.2.2.2.2 j).toNatClampNeg
      rw [c5, nI_clamp (by omega)]; exact c7
  · obtain ⟨e1, e2⟩ := hb a2
    have d1 := hb0 a1
    simp only [if_pos e1]
    rw [zI_n a1]
    rw [e2, a4, d1]
    exact ⟨hL, rfl⟩
theorem iv_plan {st : spT} {tn N : Nat} (h : zIv st tn N) : zIv (st.1, spPlanL tn st, st.2.2) 0 (N + 60000) := by
  refine ⟨zFw_mono h.1 (by omega), ?_, ⟨Nat.zero_le _, fun j hj => absurd hj (Nat.not_lt_zero j)⟩, zFw_mono h.2.2.2.1 (by omega), h.2.2.2.2⟩
  show zLw (spPlanL tn st) st.1.1
  have h0 := pl_0 h.2.2.1.1 (fun j _ => rfl) h.2.2.1 h.1.1 spZ0 spZ0 spZ0 0
  unfold spPlanL spPC0
  generalize ql_X5_readPlan tn st.2.2.1 st.1.1 9 0 0 8 0 7 spZ0 spZ0 = C0 at h0 ⊢
  generalize ql_X9_readPlan st.1.1 tn st.2.2.1 9 0 0 0 spZ0 = M at h0
  rcases h0 with ⟨a1, -, a3, -, a5⟩ | ⟨a1, -⟩
  · rw [zI_p a1]
    refine ⟨a3.2, fun j hj => ?_⟩
    obtain ⟨x, y, c1, c2, c3, c4, c5, -⟩ := a5.1 j hj
    show (C0.2.2.2.2.2.2.1 j).toNatClampNeg < st.1.1 ∧ (C0.2.2.2.2.2.2.2 j).toNatClampNeg < st.1.1 ∧ ¬ (C0.2.2.2.2.2.2.1 j).toNatClampNeg = (C0.2.2.2.2.2.2.2 j).toNatClampNeg
    have h5 := h.1.1
    rw [c4, c5, nI_clamp (by omega), nI_clamp (by omega)]
    exact ⟨c1, c2, c3⟩
  · rw [zI_n a1]
    exact h.2.1
