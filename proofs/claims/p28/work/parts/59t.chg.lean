/-! what was found is forgotten where people or plan change -/
abbrev chgd (tf tu tf1 tu1 : Int32) (same : Prop) : Prop := (same ∧ tf1 = tf ∧ tu1 = tu) ∨ (tf1 = 9 ∧ tu1 = 0)
theorem chg_person {P : spF} {n : Nat} {tf tu a b : Int32} (en : n = P.1) (hn : n ≤ 5) : chgd tf tu (q_X8_person_tf1 tf n a b) (q_X8_person_tu1 tu n a b) (spPersonS P a b = P) := by
  unfold q_X8_person_tf1 q_X8_person_tu1
  by_cases h1 : a < 0
  · rw [if_pos h1, if_pos h1]
    exact Or.inl ⟨zI_n (fun q => (spPC_c.mp q.1).1 h1), rfl, rfl⟩
  · rw [if_neg h1, if_neg h1]
    by_cases h2 : 3 < a
    · rw [if_pos h2, if_pos h2]
      exact Or.inl ⟨zI_n (fun q => (spPC_c.mp q.1).2.1 h2), rfl, rfl⟩
    · rw [if_neg h2, if_neg h2]
      by_cases h3 : (if b < 0 then (0 : Int32) else (if 9999 < b then (0 : Int32) else (1 : Int32))) = 0
      · rw [if_pos h3, if_pos h3]
        exact Or.inl ⟨zI_n (fun q => (spPC_c.mp q.1).2.2 h3), rfl, rfl⟩
      · rw [if_neg h3, if_neg h3]
        by_cases h4 : nI n < 5
        · rw [if_pos h4, if_pos h4]
          exact Or.inr ⟨rfl, rfl⟩
        · rw [if_neg h4, if_neg h4]
          exact Or.inl ⟨zI_n (fun q => h4 (show nI n < (5 : Int32) from nI_lt (b := 5) (by omega) (by decide))), rfl, rfl⟩
theorem chg_set {P : spF} {n : Nat} {tf tu a b : Int32} (en : n = P.1) (hn : n ≤ 5) : chgd tf tu (q_X8_set_tf1 tf n a b) (q_X8_set_tu1 tu n a b) (spSetS P a b = P) := by
  have ha := has_c (a := a) hn
  have hb := in_c (b := b) (m := 9999) (k := 10000) (by decide)
  unfold q_X8_set_tf1 q_X8_set_tu1
  by_cases h1 : (if a < 0 then (0 : Int32) else (if nI n ≤ a then (0 : Int32) else (1 : Int32))) = 0
  · rw [if_pos h1, if_pos h1]
    exact Or.inl ⟨zI_n (fun q => ha.mp h1 (by rw [en]; exact q.1)), rfl, rfl⟩
  · rw [if_neg h1, if_neg h1]
    by_cases h2 : (if b < 0 then (0 : Int32) else (if 9999 < b then (0 : Int32) else (1 : Int32))) = 0
    · rw [if_pos h2, if_pos h2]
      exact Or.inl ⟨zI_n (fun q => hb.mp h2 q.2), rfl, rfl⟩
    · rw [if_neg h2, if_neg h2]
      exact Or.inr ⟨rfl, rfl⟩
theorem chg_knows {P : spF} {n : Nat} {tf tu kn a b d : Int32} (en : n = P.1) (hn : n ≤ 5) : chgd tf tu (q_X8_knows_tf1 tf n kn a b d) (q_X8_knows_tu1 tu n kn a b d) (spKnowsS P a b d = P) := by
  have hp := pair_c (a := a) (b := b) hn
  unfold q_X8_knows_tf1 q_X8_knows_tu1
  by_cases h1 : (if (if a < 0 then (0 : Int32) else (if nI n ≤ a then (0 : Int32) else (1 : Int32))) = 0 then (0 : Int32) else (if (if b < 0 then (0 : Int32) else (if nI n ≤ b then (0 : Int32) else (1 : Int32))) = 0 then (0 : Int32) else (if a = b then (0 : Int32) else (1 : Int32)))) = 0
  · rw [if_pos h1, if_pos h1]
    exact Or.inl ⟨zI_n (fun q => hp.mp h1 (by rw [en]; exact q)), rfl, rfl⟩
  · rw [if_neg h1, if_neg h1]
    right
    constructor
    · split <;> split <;> rfl
    · split <;> split <;> rfl
theorem chg_ask {P : spF} {n : Nat} {tf tu a b : Int32} (en : n = P.1) (hn : n ≤ 5) : chgd tf tu (q_X8_ask_tf1 tf n a b) (q_X8_ask_tu1 tu n a b) (spAskS P a b = P) := by
  have hp := pair_c (a := a) (b := b) hn
  unfold q_X8_ask_tf1 q_X8_ask_tu1
  by_cases h1 : (if (if a < 0 then (0 : Int32) else (if nI n ≤ a then (0 : Int32) else (1 : Int32))) = 0 then (0 : Int32) else (if (if b < 0 then (0 : Int32) else (if nI n ≤ b then (0 : Int32) else (1 : Int32))) = 0 then (0 : Int32) else (if a = b then (0 : Int32) else (1 : Int32)))) = 0
  · rw [if_pos h1, if_pos h1]
    exact Or.inl ⟨zI_n (fun q => hp.mp h1 (by rw [en]; exact q)), rfl, rfl⟩
  · rw [if_neg h1, if_neg h1]
    exact Or.inr ⟨rfl, rfl⟩
theorem chg_people {st : spT} {tn N : Nat} {tf tu : Int32} {uf ug : Nat → Int32} (htn : tn ≤ 80) (hok : zIv st tn N) : chgd tf tu (q_X8_people_tf1 tf tn st.2.2.1 uf ug) (q_X8_people_tu1 tu tn st.2.2.1 uf ug) (spPeopleS tn st = st.1 ∧ spPeopleL tn st = st.2.1) := by
  have hz := hok.2.2.1
  have h0 := folk_0 htn (fun j _ => rfl) hz uf ug spZ0 0
  have hs := folk_s htn hz uf ug
  unfold q_X8_people_tf1 q_X8_people_tu1 spPeopleS spPeopleL
  rcases hs with ⟨c1, c2, c3, c4⟩ | ⟨c1, c2, c3⟩
  · obtain ⟨e1, e2, e3, e4⟩ := fr_good c1
    rcases h0 with ⟨-, -, a3, -, -, a6⟩ | ⟨a1, -⟩
    · have hr : ¬ q_X5_readFolk_r tn st.2.2.1 uf ug ≤ 0 := by rw [e1]; exact nI_nle (by omega) (by omega)
      rw [if_neg hr, if_neg hr]
      exact Or.inr ⟨rfl, rfl⟩
    · exact absurd c1 a1
  · have e1 := fr_bad c1
    rcases h0 with ⟨a1, -⟩ | ⟨-, -, a3, -⟩
    · exact absurd a1 c1
    · have hr : q_X5_readFolk_r tn st.2.2.1 uf ug ≤ 0 := by rw [e1]; exact m20_le (by omega)
      rw [if_pos hr, if_pos hr, zI_n c2, zI_n c2]
      exact Or.inl ⟨⟨rfl, rfl⟩, rfl, rfl⟩
theorem chg_plan {st : spT} {tn N n : Nat} {tf tu : Int32} {vf vg : Nat → Int32} (en : n = st.1.1) (hn : n ≤ 5) (htn : tn ≤ 80) (hok : zIv st tn N) : chgd tf tu (q_X8_plan_tf1 tf n tn st.2.2.1 vf vg) (q_X8_plan_tu1 tu n tn st.2.2.1 vf vg) (spPlanL tn st = st.2.1) := by
  have hs := pl_s htn hok.2.2.1 hn vf vg
  have hg := pr_good (tn := tn) (n := n) (ts := st.2.2.1) (vf := vf) (vg := vg)
  have hb := pr_bad (tn := tn) (n := n) (ts := st.2.2.1) (vf := vf) (vg := vg)
  unfold q_X8_plan_tf1 q_X8_plan_tu1 spPlanL spPC0
  rw [← en]
  generalize ql_X5_readPlan tn st.2.2.1 n 9 0 0 8 0 7 vf vg = C at hs hg hb
  generalize ql_X5_readPlan tn st.2.2.1 n 9 0 0 8 0 7 spZ0 spZ0 = C0 at hs ⊢
  generalize q_X5_readPlan_r tn st.2.2.1 vf vg n = r at hg hb ⊢
  rcases hs with ⟨a1, a2, a3, a4, a5, a6, a7⟩ | ⟨a1, a2, a3, a4⟩
  · obtain ⟨e1, e2, e3, e4, e5⟩ := hg a1
    have hr : ¬ r ≤ 0 := by rw [e1, a3]; exact nI_nle (by omega) (by omega)
    rw [if_neg hr, if_neg hr]
    exact Or.inr ⟨rfl, rfl⟩
  · have e1 := hb a1
    have hr : r ≤ 0 := by rw [e1]; exact m20_le (by omega)
    rw [if_pos hr, if_pos hr, zI_n a2]
    exact Or.inl ⟨rfl, rfl, rfl⟩
theorem chg_restore {st : spT} {tf tu kp : Int32} : chgd tf tu (q_X8_restore_tf1 kp tf) (q_X8_restore_tu1 kp tu) ((if kp = 0 then st.1 else st.2.2.2.1) = st.1 ∧ (if kp = 0 then st.2.1 else st.2.2.2.2) = st.2.1) := by
  unfold q_X8_restore_tf1 q_X8_restore_tu1
  by_cases e : kp = 0
  · rw [if_pos e, if_pos e, if_pos e, if_pos e]
    exact Or.inl ⟨⟨rfl, rfl⟩, rfl, rfl⟩
  · rw [if_neg e, if_neg e]
    exact Or.inr ⟨rfl, rfl⟩
/-! turns that were found -/
theorem tn_chg {P P' : spF} {tf tu tf1 tu1 : Int32} {pf ef : Nat → Int32} {q : Prop} (h : tu = 0 ∨ tnR 0 P pf ef) (k : chgd tf tu tf1 tu1 q) (e : q → P' = P) : tu1 = 0 ∨ tnR 0 P' pf ef := by
  rcases k with ⟨a, -, b⟩ | ⟨-, b⟩
  · rw [e a, b]; exact h
  · exact Or.inl b
theorem tm_chg {P P' : spF} {L L' : spL} {tf tu tf1 tu1 mo wy : Int32} {q : Prop} (h : wnTf P L tf mo wy) (k : chgd tf tu tf1 tu1 q) (e : q → P' = P ∧ L' = L) : wnTf P' L' tf1 mo wy := by
  rcases k with ⟨a, b, -⟩ | ⟨b, -⟩
  · rw [(e a).1, (e a).2, b]; exact h
  · exact Or.inl b
