/-! people: the class's loop and the reference's -/
abbrev spC5 : Type := Nat × Nat × Nat × Nat × Int32 × (Nat → Int32) × (Nat → Int32) × Nat
abbrev spM5 : Type := Nat × Nat × Nat × Int32 × (Nat → Int32)
/-- where the fault is -/
def fkP (C : spC5) : Nat := if C.1 = 1 then C.2.2.2.2.2.2.2 else C.2.1
def folkR (tn : Nat) (f8 : Nat → Int32) (C : spC5) (M : spM5) : Prop :=
  (C.1 = 2 ∧ M.1 = 1 ∧ (1 ≤ C.2.2.1 ∧ C.2.2.1 ≤ 5) ∧ M.2.2.2.1 = nI C.2.2.1 ∧ (∀ q, q < C.2.2.1 → M.2.2.2.2 (2 * q) = C.2.2.2.2.2.1 q ∧ M.2.2.2.2 (2 * q + 1) = C.2.2.2.2.2.2.1 q) ∧ (∀ q, q < C.2.2.1 → vp_in (C.2.2.2.2.2.1 q) 4 ∧ vp_in (C.2.2.2.2.2.2.1 q) 10000)) ∨
  (¬ C.1 = 2 ∧ ¬ M.1 = 1 ∧ fkP C ≤ tn ∧ q_X9_nextByte_p1 tn f8 M.2.1 = fkP C)
theorem arr2 {f9 uf ug : Nat → Int32} {mm : Nat} {a b : Int32} (hA : ∀ q, q < mm → f9 (2 * q) = uf q ∧ f9 (2 * q + 1) = ug q) : ∀ q, q < mm + 1 → upd (upd f9 (2 * mm) a) (2 * mm + 1) b (2 * q) = upd uf mm a q ∧ upd (upd f9 (2 * mm) a) (2 * mm + 1) b (2 * q + 1) = upd ug mm b q := by
  intro q hq
  by_cases e : q = mm
  · subst e
    rw [pk_un (show 2 * q ≠ 2 * q + 1 by omega), pk_us, pk_us, pk_us, pk_us]
    exact ⟨rfl, rfl⟩
  · rw [pk_un (show 2 * q ≠ 2 * mm + 1 by omega), pk_un (show 2 * q ≠ 2 * mm by omega), pk_un (show 2 * q + 1 ≠ 2 * mm + 1 by omega), pk_un (show 2 * q + 1 ≠ 2 * mm by omega), pk_un e, pk_un e]
    exact hA q (by omega)
theorem val2 {uf ug : Nat → Int32} {mm : Nat} {a b : Int32} (ha : vp_in a 4) (hb : vp_in b 10000) (hV : ∀ q, q < mm → vp_in (uf q) 4 ∧ vp_in (ug q) 10000) : ∀ q, q < mm + 1 → vp_in (upd uf mm a q) 4 ∧ vp_in (upd ug mm b q) 10000 := by
  intro q hq
  by_cases e : q = mm
  · rw [e, pk_us, pk_us]; exact ⟨ha, hb⟩
  · rw [pk_un e, pk_un e]; exact hV q (by omega)
set_option maxHeartbeats 1000000 in
theorem folk_step {tn : Nat} {ts f8 : Nat → Int32} (htn : tn ≤ 80) (hT : ∀ j, j < tn → f8 j = ts j) (hz : zSw tn ts) (k : Nat) (ih : ∀ k', k = k' + 1 → ∀ (fu fv ps mm : Nat) (xr : Int32) (uf ug f9 : Nat → Int32), mm + k' + 1 = 5 → k' + 1 < fu → k' + 1 < fv → ps ≤ tn → (∀ q, q < mm → f9 (2 * q) = uf q ∧ f9 (2 * q + 1) = ug q) → (∀ q, q < mm → vp_in (uf q) 4 ∧ vp_in (ug q) 10000) → folkR tn f8 (ql_X5_readFolk tn ts fu ps mm (k' + 1) (nI k') uf ug) (ql_X9_readPeople tn f8 fv ps mm xr f9)) :
    ∀ (fu fv ps mm : Nat) (xr : Int32) (uf ug f9 : Nat → Int32), mm + k + 1 = 5 → k + 1 < fu → k + 1 < fv → ps ≤ tn → (∀ q, q < mm → f9 (2 * q) = uf q ∧ f9 (2 * q + 1) = ug q) → (∀ q, q < mm → vp_in (uf q) 4 ∧ vp_in (ug q) 10000) → folkR tn f8 (ql_X5_readFolk tn ts fu ps mm (k + 1) (nI k) uf ug) (ql_X9_readPeople tn f8 fv ps mm xr f9) := by
  intro fu fv ps mm xr uf ug f9 hk hfu hfv hp hA hV
  obtain ⟨fu, rfl⟩ : ∃ z, fu = z + 1 := ⟨fu - 1, by omega⟩
  obtain ⟨fv, rfl⟩ : ∃ z, fv = z + 1 := ⟨fv - 1, by omega⟩
  have lc := look_c (ts := ts) htn hp
  have hs := sk_p (ts := ts) htn hp
  have esk : ∀ p, q_X5_skipBlanks_p1 tn p ts = spSk tn ts p := fun _ => rfl
  rw [ql_X5_readFolk, ql_X9_readPeople, if_neg (nI_pos (show k < 2 ^ 31 by omega)), if_neg (show ¬ (5 : Int32) ≤ nI mm from nI_ge (a := mm) (b := 5) (by omega) (by decide))]
  simp only [esk, lc.1]
  rcases one_rel (f9 := f9) (a := 2 * mm) htn hT hz hp (by omega) with ⟨h1, h2, h3⟩ | ⟨h1, h1v, hlt, h⟩
  · rw [if_neg h1, if_pos h2]
    refine Or.inr ⟨show ¬ (0 : Nat) = 2 by decide, show ¬ (0 : Nat) = 1 by decide, ?_, ?_⟩
    · exact hs.2.1
    · show q_X9_nextByte_p1 tn f8 (q_X9_readOne_p1 tn f8 ps) = spSk tn ts ps
      rw [h3, (look_m htn hT hs.2.1).1, sk_sk htn hp]
  · have hp2 : spSk tn ts ps + 1 ≤ tn := hlt
    have hs2 := sk_p (ts := ts) htn hp2
    rw [if_pos h1]
    rcases h with ⟨n1, n2, n3⟩ | ⟨n1, n2, n3, n4, n5, n6, n7⟩
    · rw [if_pos n2]
      have hR : q_X9_nextByte_p1 tn f8 (q_X9_readOne_p1 tn f8 ps) = spSk tn ts (spSk tn ts ps + 1) := by rw [n3, (look_m htn hT hs2.2.1).1, sk_sk htn hp2]
      by_cases c1 : q_X5_readNumber_r tn (spSk tn ts (spSk tn ts ps + 1)) ts < 0
      · rw [if_pos c1]
        exact Or.inr ⟨show ¬ (1 : Nat) = 2 by decide, show ¬ (0 : Nat) = 1 by decide, hs2.2.1, hR⟩
      · rw [if_neg c1, if_neg (n1.resolve_left c1)]
        exact Or.inr ⟨show ¬ (1 : Nat) = 2 by decide, show ¬ (0 : Nat) = 1 by decide, hs2.2.1, hR⟩
    · have lc2 := look_c (ts := ts) htn n5
      have lm2 := look_m htn hT n5
      have hs3 := sk_p (ts := ts) htn n5
      rw [if_neg n1, if_pos n2, if_neg (show ¬ q_X9_readOne_r tn f8 ps = 0 by rw [n3]; decide), n4, n7]
      simp only [lc2.1]
      unfold q_X0_add_f1 q_X0_add_g1
      rw [nI_clamp (show mm < 2 ^ 31 by omega)]
      have hA2 := arr2 (a := q_J0_indexOf_0f7a4_r (q_X5_look_r tn ps ts)) (b := q_X5_readNumber_r tn (spSk tn ts (spSk tn ts ps + 1)) ts) hA
      have hV2 := val2 h1v n6 hV
      have hR2 : q_X9_nextByte_p1 tn f8 (q_X9_nextByte_p1 tn f8 (q_X5_readNumber_p1 tn (spSk tn ts (spSk tn ts ps + 1)) ts)) = spSk tn ts (q_X5_readNumber_p1 tn (spSk tn ts (spSk tn ts ps + 1)) ts) := by rw [lm2.1, (look_m htn hT hs3.2.1).1, sk_sk htn n5]
      by_cases he : spSk tn ts (q_X5_readNumber_p1 tn (spSk tn ts (spSk tn ts ps + 1)) ts) < tn
      · obtain ⟨c, hc1, hc2, ec⟩ := sg_n hz he
        rw [lc2.2, lm2.2, if_pos he, if_pos he, ec]
        rw [if_neg (show ¬ nI c = 0 from nI_ne0 (by omega) (by omega)), if_pos (nI_pos' (show c < 2 ^ 31 by omega))]
        by_cases h44 : nI c = 44
        · rw [if_pos h44, if_pos h44]
          by_cases hk0 : k = 0
          · subst hk0
            have e4 : mm = 4 := by omega
            subst e4
            rw [if_pos (show nI 0 = 0 from rfl), if_pos (show nI 4 = 4 from rfl)]
            exact Or.inr ⟨show ¬ (3 : Nat) = 2 by decide, show ¬ (2 : Nat) = 1 by decide, hs3.2.1, hR2⟩
          · rw [if_neg (show ¬ nI k = 0 from nI_ne0 (by omega) (by omega)), if_neg (show ¬ nI mm = (4 : Int32) from fun q => by have := (nI_eq (a := mm) (b := 4) (by omega) (by decide)).mp q; omega)]
            obtain ⟨k', rfl⟩ : ∃ z, k = z + 1 := ⟨k - 1, by omega⟩
            rw [lm2.1, pk_m1, Nat.add_sub_cancel]
            exact ih k' rfl fu fv _ (mm + 1) _ _ _ _ (by omega) (by omega) (by omega) he hA2 hV2
        · rw [if_neg h44, if_neg h44]
          exact Or.inr ⟨show ¬ (3 : Nat) = 2 by decide, show ¬ (2 : Nat) = 1 by decide, hs3.2.1, hR2⟩
      · rw [lc2.2, lm2.2, if_neg he, if_neg he, if_pos rfl, if_neg (show ¬ (0 : Int32) ≤ -1 by decide)]
        exact Or.inl ⟨rfl, rfl, ⟨Nat.le_add_left 1 mm, show mm + 1 ≤ 5 by omega⟩, rfl, hA2, hV2⟩
theorem folk_m {tn : Nat} {ts f8 : Nat → Int32} (htn : tn ≤ 80) (hT : ∀ j, j < tn → f8 j = ts j) (hz : zSw tn ts) : ∀ (k fu fv ps mm : Nat) (xr : Int32) (uf ug f9 : Nat → Int32), mm + k + 1 = 5 → k + 1 < fu → k + 1 < fv → ps ≤ tn → (∀ q, q < mm → f9 (2 * q) = uf q ∧ f9 (2 * q + 1) = ug q) → (∀ q, q < mm → vp_in (uf q) 4 ∧ vp_in (ug q) 10000) → folkR tn f8 (ql_X5_readFolk tn ts fu ps mm (k + 1) (nI k) uf ug) (ql_X9_readPeople tn f8 fv ps mm xr f9)
  | 0 => folk_step htn hT hz 0 (fun k' e => absurd e (by omega))
  | k + 1 => folk_step htn hT hz (k + 1) (fun k' e => by
      obtain rfl : k' = k := by omega
      exact folk_m htn hT hz k')
abbrev spZ0 : Nat → Int32 := fun _ => 0
theorem folk_0 {tn : Nat} {ts f8 : Nat → Int32} (htn : tn ≤ 80) (hT : ∀ j, j < tn → f8 j = ts j) (hz : zSw tn ts) (uf ug f9 : Nat → Int32) (xr : Int32) : folkR tn f8 (ql_X5_readFolk tn ts 6 0 0 5 4 uf ug) (ql_X9_readPeople tn f8 6 0 0 xr f9) := folk_m htn hT hz 4 6 6 0 0 xr uf ug f9 (by decide) (by decide) (by decide) (Nat.zero_le _) (fun q hq => absurd hq (Nat.not_lt_zero q)) (fun q hq => absurd hq (Nat.not_lt_zero q))
/-- the same whatever the rows held -/
theorem folk_s {tn : Nat} {ts : Nat → Int32} (htn : tn ≤ 80) (hz : zSw tn ts) (uf ug : Nat → Int32) :
    ((ql_X5_readFolk tn ts 6 0 0 5 4 uf ug).1 = 2 ∧ (ql_X5_readFolk tn ts 6 0 0 5 4 spZ0 spZ0).1 = 2 ∧ (ql_X5_readFolk tn ts 6 0 0 5 4 uf ug).2.2.1 = (ql_X5_readFolk tn ts 6 0 0 5 4 spZ0 spZ0).2.2.1 ∧ (∀ q, q < (ql_X5_readFolk tn ts 6 0 0 5 4 spZ0 spZ0).2.2.1 → (ql_X5_readFolk tn ts 6 0 0 5 4 uf ug).2.2.2.2.2.1 q = (ql_X5_readFolk tn ts 6 0 0 5 4 spZ0 spZ0).2.2.2.2.2.1 q ∧ (ql_X5_readFolk tn ts 6 0 0 5 4 uf ug).2.2.2.2.2.2.1 q = (ql_X5_readFolk tn ts 6 0 0 5 4 spZ0 spZ0).2.2.2.2.2.2.1 q)) ∨
    (¬ (ql_X5_readFolk tn ts 6 0 0 5 4 uf ug).1 = 2 ∧ ¬ (ql_X5_readFolk tn ts 6 0 0 5 4 spZ0 spZ0).1 = 2 ∧ fkP (ql_X5_readFolk tn ts 6 0 0 5 4 uf ug) = fkP (ql_X5_readFolk tn ts 6 0 0 5 4 spZ0 spZ0)) := by
  have h1 := folk_0 htn (fun j _ => rfl) hz uf ug spZ0 0
  have h2 := folk_0 htn (fun j _ => rfl) hz spZ0 spZ0 spZ0 0
  generalize ql_X5_readFolk tn ts 6 0 0 5 4 uf ug = C at h1 ⊢
  generalize ql_X5_readFolk tn ts 6 0 0 5 4 spZ0 spZ0 = C0 at h2 ⊢
  generalize ql_X9_readPeople tn ts 6 0 0 0 spZ0 = M at h1 h2
  rcases h1 with ⟨a1, a2, a3, a4, a5, a6⟩ | ⟨a1, a2, a3, a4⟩
  · rcases h2 with ⟨b1, b2, b3, b4, b5, b6⟩ | ⟨b1, b2, b3, b4⟩
    · have e : C.2.2.1 = C0.2.2.1 := (nI_eq (by omega) (by omega)).mp (a4.symm.trans b4)
      exact Or.inl ⟨a1, b1, e, fun q hq => ⟨(a5 q (by omega)).1.symm.trans (b5 q hq).1, (a5 q (by omega)).2.symm.trans (b5 q hq).2⟩⟩
    · exact absurd a2 b2
  · rcases h2 with ⟨b1, b2, b3, b4, b5, b6⟩ | ⟨b1, b2, b3, b4⟩
    · exact absurd b2 a2
    · exact Or.inr ⟨a1, b1, a4.symm.trans b4⟩
theorem fr_good {tn : Nat} {ts uf ug : Nat → Int32} (h : (ql_X5_readFolk tn ts 6 0 0 5 4 uf ug).1 = 2) : q_X5_readFolk_r tn ts uf ug = nI (ql_X5_readFolk tn ts 6 0 0 5 4 uf ug).2.2.1 ∧ q_X5_readFolk_mm tn ts uf ug = (ql_X5_readFolk tn ts 6 0 0 5 4 uf ug).2.2.1 ∧ q_X5_readFolk_uf1 tn ts uf ug = (ql_X5_readFolk tn ts 6 0 0 5 4 uf ug).2.2.2.2.2.1 ∧ q_X5_readFolk_ug1 tn ts uf ug = (ql_X5_readFolk tn ts 6 0 0 5 4 uf ug).2.2.2.2.2.2.1 := by
  unfold q_X5_readFolk_r q_X5_readFolk_mm q_X5_readFolk_uf1 q_X5_readFolk_ug1
  generalize ql_X5_readFolk tn ts 6 0 0 5 4 uf ug = C at h ⊢
  have h0 : ¬ C.1 = 0 := by omega
  have h1 : ¬ C.1 = 1 := by omega
  simp only [if_neg h0, if_neg h1, if_pos h]
  exact ⟨trivial, trivial, trivial, trivial⟩
theorem fr_bad {tn : Nat} {ts uf ug : Nat → Int32} (h : ¬ (ql_X5_readFolk tn ts 6 0 0 5 4 uf ug).1 = 2) : q_X5_readFolk_r tn ts uf ug = -20 - nI (fkP (ql_X5_readFolk tn ts 6 0 0 5 4 uf ug)) := by
  unfold q_X5_readFolk_r fkP
  generalize ql_X5_readFolk tn ts 6 0 0 5 4 uf ug = C at h ⊢
  by_cases h1 : C.1 = 1
  · have h0 : ¬ C.1 = 0 := by omega
    simp only [if_neg h0, if_pos h1]
  · by_cases h0 : C.1 = 0
    · simp only [if_pos h0, if_neg h1]
    · by_cases h3 : C.1 = 3
      · simp only [if_neg h0, if_neg h1, if_neg h, if_pos h3]
      · simp only [if_neg h0, if_neg h1, if_neg h, if_neg h3]
theorem m20_le {p : Nat} (h : p ≤ 80) : (-20 : Int32) - nI p ≤ 0 := by
  rw [Int32.le_iff_toInt_le, Int32.toInt_sub, nI_toInt (by omega), show (-20 : Int32).toInt = -20 by decide, show (0 : Int32).toInt = 0 by decide, Int.bmod_eq_of_le (by omega) (by omega)]
  omega
/-! people -/
def spPeopleA (tn : Nat) (ts : Nat → Int32) : Int32 := q_X5_readFolk_r tn ts spZ0 spZ0
def spNewF (C : spC5) : spF := (C.2.2.1, fun j => (C.2.2.2.2.2.1 j).toNatClampNeg, fun j => (C.2.2.2.2.2.2.1 j).toNatClampNeg, fun a b => !decide (a = b), fun _ _ => false)
noncomputable def spPeopleS (tn : Nat) (st : spT) : spF := zI ((ql_X5_readFolk tn st.2.2.1 6 0 0 5 4 spZ0 spZ0).1 = 2) (spNewF (ql_X5_readFolk tn st.2.2.1 6 0 0 5 4 spZ0 spZ0)) st.1
noncomputable def spPeopleL (tn : Nat) (st : spT) : spL := zI ((ql_X5_readFolk tn st.2.2.1 6 0 0 5 4 spZ0 spZ0).1 = 2) (0, st.2.1.2) st.2.1
theorem people_c {st : spT} {tn N n pn : Nat} {kn ak pe : Int32} {ff fg pf pg uf ug : Nat → Int32} (hF : zFr st.1 n kn ak ff fg) (hL : zPr st.2.1 pn pe pf pg) (_hn : n ≤ 5) (htn : tn ≤ 80) (hok : zIv st tn N) :
    zFr (spPeopleS tn st) (q_X8_people_n1 n tn st.2.2.1 uf ug) (q_X8_people_kn1 kn tn st.2.2.1 uf ug) (q_X8_people_ak1 ak tn st.2.2.1 uf ug) (q_X8_people_ff1 ff tn st.2.2.1 uf ug) (q_X8_people_fg1 fg tn st.2.2.1 uf ug) ∧ zPr (spPeopleL tn st) (q_X8_people_pn1 pn tn st.2.2.1 uf ug) (q_X8_people_pe1 pe tn st.2.2.1 uf ug) pf pg ∧ q_X8_people_r tn st.2.2.1 uf ug = spPeopleA tn st.2.2.1 := by
  have hz := hok.2.2.1
  have h0 := folk_0 htn (fun j _ => rfl) hz uf ug spZ0 0
  have hs := folk_s htn hz uf ug
  unfold q_X8_people_n1 q_X8_people_kn1 q_X8_people_ak1 q_X8_people_ff1 q_X8_people_fg1 q_X8_people_pn1 q_X8_people_pe1 q_X8_people_r spPeopleA spPeopleS spPeopleL
  rcases hs with ⟨c1, c2, c3, c4⟩ | ⟨c1, c2, c3⟩
  · obtain ⟨e1, e2, e3, e4⟩ := fr_good c1
    obtain ⟨d1, d2, d3, d4⟩ := fr_good c2
    rcases h0 with ⟨-, -, a3, -, -, a6⟩ | ⟨a1, -⟩
    · have hr : ¬ q_X5_readFolk_r tn st.2.2.1 uf ug ≤ 0 := by rw [e1]; exact nI_nle (by omega) (by omega)
      simp only [if_neg hr]
      rw [zI_p c2, zI_p c2]
      rw [e1, d1, e2, e3, e4]
      generalize ql_X5_readFolk tn st.2.2.1 6 0 0 5 4 uf ug = C at c1 c3 c4 a3 a6 ⊢
      generalize ql_X5_readFolk tn st.2.2.1 6 0 0 5 4 spZ0 spZ0 = C0 at c2 c3 c4 ⊢
      refine ⟨⟨c3, fun j hj => ?_, fun j hj => ?_, all_b, fun i hi => by rw [b_0]; exact (Bool.and_false _).symm⟩, ⟨rfl, fun j hj => absurd hj (Nat.not_lt_zero j), fun i hi => by rw [b_0, decide_eq_false (Nat.not_lt_zero i)]; rfl⟩, by rw [c3]⟩
      · show C.2.2.2.2.2.1 j = nI (C0.2.2.2.2.2.1 j).toNatClampNeg
        rw [← (c4 j (by omega)).1]
        exact (in_nI (a6 j hj).1 (by decide)).1
      · show C.2.2.2.2.2.2.1 j = nI (C0.2.2.2.2.2.2.1 j).toNatClampNeg
        rw [← (c4 j (by omega)).2]
        exact (in_nI (a6 j hj).2 (by decide)).1
    · exact absurd c1 a1
  · have e1 := fr_bad c1
    have d1 := fr_bad c2
    rcases h0 with ⟨a1, -⟩ | ⟨-, -, a3, -⟩
    · exact absurd a1 c1
    · have hr : q_X5_readFolk_r tn st.2.2.1 uf ug ≤ 0 := by rw [e1]; exact m20_le (by omega)
      simp only [if_pos hr]
      rw [zI_n c2, zI_n c2]
      rw [e1, d1, c3]
      exact ⟨hF, hL, rfl⟩
theorem spU_id (f : Nat → Nat) (k : Nat) : spU f k (f k) = f := by
  funext j
  by_cases e : j = k
  · rw [e, spU_s]
  · rw [spU_n e]
theorem ppl_m {k : Nat} {f9 : Nat → Int32} {kd pc : Nat → Nat} (hk : k ≤ 5) (h9 : ∀ q, q < k → f9 (2 * q) = nI (kd q) ∧ f9 (2 * q + 1) = nI (pc q)) (h3 : ∀ q, q < k → kd q ≤ 3) : ∀ (m fu j : Nat) (f1 f2 f3 f4 : Nat → Int32), j + m = k → m < fu → zFm (j, kd, pc, fun a b => !decide (a = b), fun _ _ => false) j f1 f2 f3 f4 →
    (ql_X9_people f9 k fu j f1 f2 f3 f4).1 = k ∧ zFm (k, kd, pc, fun a b => !decide (a = b), fun _ _ => false) k (ql_X9_people f9 k fu j f1 f2 f3 f4).2.1 (ql_X9_people f9 k fu j f1 f2 f3 f4).2.2.1 (ql_X9_people f9 k fu j f1 f2 f3 f4).2.2.2.1 (ql_X9_people f9 k fu j f1 f2 f3 f4).2.2.2.2
  | m, 0, j, f1, f2, f3, f4, _, h, _ => absurd h (Nat.not_lt_zero _)
  | 0, fu + 1, j, f1, f2, f3, f4, h, _, hF => by
    rw [ql_X9_people, if_pos (nI_le (by omega) (by omega))]
    obtain rfl : j = k := by omega
    exact ⟨rfl, hF⟩
  | m + 1, fu + 1, j, f1, f2, f3, f4, h, hfu, hF => by
    rw [ql_X9_people, if_neg (nI_ge (by omega) (by omega)), nI_clamp (show 2 * j < 2 ^ 31 by omega), nI_clamp (show 2 * j + 1 < 2 ^ 31 by omega), (h9 j (by omega)).1, (h9 j (by omega)).2]
    have hw : zFw (j, kd, pc, fun a b => !decide (a = b), fun _ _ => false) (fb_sm pc j) := ⟨show j ≤ 5 by omega, fun q hq => h3 q (by have : q < j := hq; omega), Nat.le_refl _, fun a b _ _ _ h => nd_ne h, fun _ _ _ => rfl, nd_self, fun _ => rfl⟩
    have h1 := zFm_add (k := kd j) (p := pc j) hF hw (by omega)
    have e : spAdd (j, kd, pc, fun a b => !decide (a = b), fun _ _ => false) (kd j) (pc j) = (j + 1, kd, pc, fun a b => !decide (a = b), fun _ _ => false) := by
      unfold spAdd
      show (j + 1, spU kd j (kd j), spU pc j (pc j), _) = _
      rw [spU_id, spU_id]
    rw [e] at h1
    exact ppl_m hk h9 h3 m fu (j + 1) _ _ _ _ (by omega) (by omega) h1
theorem rp_good {tn : Nat} {xr : Int32} {f8 f9 : Nat → Int32} (h : (ql_X9_readPeople tn f8 6 0 0 xr f9).1 = 1) : q_X9_readPeople_r tn xr f8 f9 = 1 ∧ q_X9_readPeople_xr1 tn xr f8 f9 = (ql_X9_readPeople tn f8 6 0 0 xr f9).2.2.2.1 ∧ q_X9_readPeople_g9 tn xr f8 f9 = (ql_X9_readPeople tn f8 6 0 0 xr f9).2.2.2.2 := by
  unfold q_X9_readPeople_r q_X9_readPeople_xr1 q_X9_readPeople_g9
  generalize ql_X9_readPeople tn f8 6 0 0 xr f9 = M at h ⊢
  have h0 : ¬ M.1 = 0 := by omega
  simp only [if_neg h0, if_pos h]
  exact ⟨trivial, trivial, trivial⟩
theorem rp_bad {tn : Nat} {xr : Int32} {f8 f9 : Nat → Int32} (h : ¬ (ql_X9_readPeople tn f8 6 0 0 xr f9).1 = 1) : q_X9_readPeople_r tn xr f8 f9 = 0 ∧ q_X9_readPeople_p1 tn xr f8 f9 = (ql_X9_readPeople tn f8 6 0 0 xr f9).2.1 := by
  unfold q_X9_readPeople_r q_X9_readPeople_p1
  generalize ql_X9_readPeople tn f8 6 0 0 xr f9 = M at h ⊢
  simp only [if_neg h, ite_self]
  exact ⟨trivial, trivial⟩
theorem people_m {st : spT} {tn N n pn : Nat} {xr : Int32} {f1 f2 f3 f4 f5 f8 f9 : Nat → Int32} (hF : zFm st.1 n f1 f2 f3 f4) (hL : zPm st.2.1 pn f5) (hT : ∀ j, j < tn → f8 j = st.2.2.1 j) (_hn : n ≤ 5) (htn : tn ≤ 80) (hok : zIv st tn N) :
    zFm (spPeopleS tn st) (q_X9_people_n1 n tn xr f1 f2 f3 f4 f8 f9) (q_X9_people_g1 tn xr f1 f2 f3 f4 f8 f9) (q_X9_people_g2 tn xr f1 f2 f3 f4 f8 f9) (q_X9_people_g3 tn xr f1 f2 f3 f4 f8 f9) (q_X9_people_g4 tn xr f1 f2 f3 f4 f8 f9) ∧ zPm (spPeopleL tn st) (q_X9_people_pn1 pn tn xr f8 f9) f5 ∧ q_X9_people_r tn xr f1 f2 f3 f4 f8 f9 = spPeopleA tn st.2.2.1 := by
  have hz := hok.2.2.1
  have h0 := folk_0 htn hT hz spZ0 spZ0 f9 xr
  unfold q_X9_people_n1 q_X9_people_g1 q_X9_people_g2 q_X9_people_g3 q_X9_people_g4 q_X9_people_pn1 q_X9_people_r spPeopleA spPeopleS spPeopleL
  rcases h0 with ⟨a1, a2, a3, a4, a5, a6⟩ | ⟨a1, a2, a3, a4⟩
  · obtain ⟨e1, e2, e3⟩ := rp_good a2
    obtain ⟨d1, d2, d3, d4⟩ := fr_good a1
    have hr : ¬ q_X9_readPeople_r tn xr f8 f9 = 0 := by rw [e1]; decide
    simp only [if_neg hr]
    rw [zI_p a1, zI_p a1]
    rw [e2, e3, a4, d1, nI_clamp (show (ql_X5_readFolk tn st.2.2.1 6 0 0 5 4 spZ0 spZ0).2.2.1 < 2 ^ 31 by omega)]
    have hp := ppl_m (k := (ql_X5_readFolk tn st.2.2.1 6 0 0 5 4 spZ0 spZ0).2.2.1) (f9 := (ql_X9_readPeople tn f8 6 0 0 xr f9).2.2.2.2) (kd := fun j => ((ql_X5_readFolk tn st.2.2.1 6 0 0 5 4 spZ0 spZ0).2.2.2.2.2.1 j).toNatClampNeg) (pc := fun j => ((ql_X5_readFolk tn st.2.2.1 6 0 0 5 4 spZ0 spZ0).2.2.2.2.2.2.1 j).toNatClampNeg) a3.2
      (fun q hq => ⟨(a5 q hq).1.trans (in_nI (a6 q hq).1 (by decide)).1, (a5 q hq).2.trans (in_nI (a6 q hq).2 (by decide)).1⟩) (fun q hq => by have := (in_nI (a6 q hq).1 (by decide)).2; show ((ql_X5_readFolk tn st.2.2.1 6 0 0 5 4 spZ0 spZ0).2.2.2.2.2.1 q).toNatClampNeg ≤ 3; omega)
      (ql_X5_readFolk tn st.2.2.1 6 0 0 5 4 spZ0 spZ0).2.2.1 ((ql_X5_readFolk tn st.2.2.1 6 0 0 5 4 spZ0 spZ0).2.2.1 + 1) 0 f1 f2 f3 f4 (by omega) (by omega) ⟨rfl, fun j hj => absurd hj (Nat.not_lt_zero j)⟩
    rw [hp.1]
    exact ⟨hp.2, ⟨rfl, fun j hj => absurd hj (Nat.not_lt_zero j)⟩, rfl⟩
  · obtain ⟨e1, e2⟩ := rp_bad a2
    have d1 := fr_bad a1
    simp only [if_pos e1]
    rw [zI_n a1, zI_n a1]
    rw [e2, a4, d1]
    exact ⟨hF, hL, rfl⟩
theorem sum5 {pc : Nat → Nat} : ∀ {n : Nat}, (∀ q, q < n → pc q ≤ 9999) → fb_sm pc n ≤ 9999 * n
  | 0, _ => Nat.le_refl _
  | n + 1, h => by
    rw [fb_sm_succ]
    have h1 := sum5 (pc := pc) (n := n) (fun q hq => h q (by omega))
    have h2 := h n (by omega)
    omega
theorem spPeople_w {st : spT} {tn N : Nat} (hok : zIv st tn N) : zFw (spPeopleS tn st) (N + 60000) ∧ zLw (spPeopleL tn st) (spPeopleS tn st).1 := by
  have h0 := folk_0 hok.2.2.1.1 (fun j _ => rfl) hok.2.2.1 spZ0 spZ0 spZ0 0
  unfold spPeopleS spPeopleL
  generalize ql_X9_readPeople tn st.2.2.1 6 0 0 0 spZ0 = M at h0
  generalize ql_X5_readFolk tn st.2.2.1 6 0 0 5 4 spZ0 spZ0 = C at h0 ⊢
  rcases h0 with ⟨a1, -, a3, -, -, a6⟩ | ⟨a1, -⟩
  · rw [zI_p a1, zI_p a1]
    have h1 : ∀ q, q < C.2.2.1 → (C.2.2.2.2.2.2.1 q).toNatClampNeg ≤ 9999 := fun q hq => by have := (in_nI (a6 q hq).2 (by decide)).2; omega
    have h2 := sum5 (pc := fun j => (C.2.2.2.2.2.2.1 j).toNatClampNeg) h1
    refine ⟨⟨a3.2, fun q hq => ?_, ?_, fun a b _ _ _ h => nd_ne h, fun _ _ _ => rfl, nd_self, fun _ => rfl⟩, ⟨Nat.zero_le _, fun j hj => absurd hj (Nat.not_lt_zero j)⟩⟩
    · have := (in_nI (a6 q hq).1 (by decide)).2
      show (C.2.2.2.2.2.1 q).toNatClampNeg ≤ 3
      omega
    · show fb_sm (fun j => (C.2.2.2.2.2.2.1 j).toNatClampNeg) C.2.2.1 ≤ N + 60000
      omega
  · rw [zI_n a1, zI_n a1]
    exact ⟨zFw_mono hok.1 (by omega), hok.2.1⟩
theorem iv_people {st : spT} {tn N : Nat} (h : zIv st tn N) : zIv (spPeopleS tn st, spPeopleL tn st, st.2.2) 0 (N + 60000) := by
  have h1 := spPeople_w h
  generalize spPeopleS tn st = P9 at h1 ⊢
  generalize spPeopleL tn st = L9 at h1 ⊢
  exact ⟨h1.1, h1.2, ⟨Nat.zero_le _, fun j hj => absurd hj (Nat.not_lt_zero j)⟩, zFw_mono h.2.2.2.1 (by omega), h.2.2.2.2⟩
