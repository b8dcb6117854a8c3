/-! the first state -/
abbrev spF0 : spF := (0, fun _ => 0, fun _ => 0, fun a b => !decide (a = b), fun _ _ => false)
abbrev spL0 : spL := (0, fun _ => 0, fun _ => 0, fun _ => false)
abbrev spT0 : spT := (spF0, spL0, fun _ => 0, spF0, spL0)
theorem all_b : ∀ i, i < 32 → bt 16510910 i = (decide (i < 25) && !decide (i / 5 = i % 5)) := by decide +kernel
theorem zFr_0 : zFr spF0 0 16510910 0 (fun _ => 0) (fun _ => 0) := ⟨rfl, fun j hj => absurd hj (Nat.not_lt_zero j), fun j hj => absurd hj (Nat.not_lt_zero j), all_b, fun i hi => by rw [b_0]; exact (Bool.and_false _).symm⟩
theorem zPr_0 {f g : Nat → Int32} : zPr spL0 0 0 f g := ⟨rfl, fun j hj => absurd hj (Nat.not_lt_zero j), fun i hi => by rw [b_0]; exact (Bool.and_false _).symm⟩
theorem nd_self (a : Nat) : (!decide (a = a)) = false := by rw [decide_eq_true rfl]; rfl
theorem nd_ne {a b : Nat} (h : ¬ a = b) : (!decide (a = b)) = true := by rw [decide_eq_false h]; rfl
theorem zFw_0 : zFw spF0 0 := ⟨Nat.zero_le _, fun j hj => absurd hj (Nat.not_lt_zero j), Nat.le_refl _, fun a b _ _ _ h => nd_ne h, fun _ _ _ => rfl, nd_self, fun _ => rfl⟩
theorem zLw_0 {n : Nat} : zLw spL0 n := ⟨Nat.zero_le _, fun j hj => absurd hj (Nat.not_lt_zero j)⟩
theorem zIv_0 : zIv spT0 0 (10000 * 0) := ⟨zFw_0, zLw_0, ⟨Nat.zero_le _, fun j hj => absurd hj (Nat.not_lt_zero j)⟩, zFw_0, zLw_0⟩
/-! what holds goes on -/
theorem iv_same {st : spT} {tn N : Nat} (h : zIv st tn N) : zIv st tn (N + 60000) := zIv_mono h (by omega)
theorem iv_P {st : spT} {tn N : Nat} {P : spF} (h : zIv st tn N) (hw : zFw P (N + 60000)) (hl : st.1.1 ≤ P.1) : zIv (P, st.2) tn (N + 60000) := ⟨hw, zLw_mono h.2.1 hl, h.2.2.1, zFw_mono h.2.2.2.1 (by omega), h.2.2.2.2⟩
theorem iv_person {st : spT} {tn N : Nat} {a b : Int32} (h : zIv st tn N) : zIv (spPersonS st.1 a b, st.2) tn (N + 60000) := iv_P h (zFw_mono (spPersonS_w h.1).1 (by omega)) (spPersonS_w h.1).2
theorem iv_set {st : spT} {tn N : Nat} {a b : Int32} (h : zIv st tn N) : zIv (spSetS st.1 a b, st.2) tn (N + 60000) := iv_P h (zFw_mono (spSetS_w h.1).1 (by omega)) (Nat.le_of_eq (spSetS_w h.1).2.symm)
theorem iv_knows {st : spT} {tn N : Nat} {a b d : Int32} (h : zIv st tn N) : zIv (spKnowsS st.1 a b d, st.2) tn (N + 60000) := iv_P h (zFw_mono (spKnowsS_w h.1).1 (by omega)) (Nat.le_of_eq (spKnowsS_w h.1).2.symm)
theorem iv_ask {st : spT} {tn N : Nat} {a b : Int32} (h : zIv st tn N) : zIv (spAskS st.1 a b, st.2) tn (N + 60000) := iv_P h (zFw_mono (spAskS_w h.1).1 (by omega)) (Nat.le_of_eq (spAskS_w h.1).2.symm)
theorem iv_week {st : spT} {tn N : Nat} (h : zIv st tn N) : zIv (spWk st.1, st.2) tn (N + 60000) := iv_P h (zFw_mono (zFw_wk h.1) (by omega)) (Nat.le_refl _)
theorem iv_run {st : spT} {tn N : Nat} (h : zIv st tn N) : zIv ((spRun st.2.1 st.2.1.1 0 st.1).2, st.2) tn (N + 60000) := by
  have h1 := spRun_w h.2.1 st.2.1.1 0 st.1 (by omega) rfl h.1
  exact iv_P h (zFw_mono h1.1 (by omega)) (Nat.le_of_eq h1.2.1.symm)
theorem iv_image {st : spT} {tn N : Nat} (h : zIv st tn N) : zIv (st.1, st.2.1, st.2.2.1, st.1, st.2.1) tn (N + 60000) := ⟨zFw_mono h.1 (by omega), h.2.1, h.2.2.1, zFw_mono h.1 (by omega), h.2.1⟩
theorem iv_restore {st : spT} {tn N : Nat} {kp : Int32} (h : zIv st tn N) : zIv (if kp = 0 then st.1 else st.2.2.2.1, if kp = 0 then st.2.1 else st.2.2.2.2, st.2.2) tn (N + 60000) := by
  by_cases e : kp = 0
  · rw [if_pos e, if_pos e]; exact zIv_mono h (by omega)
  · rw [if_neg e, if_neg e]; exact ⟨zFw_mono h.2.2.2.1 (by omega), h.2.2.2.2, h.2.2.1, zFw_mono h.2.2.2.1 (by omega), h.2.2.2.2⟩
/-! run -/
theorem run_c2 {st : spT} {tn N n pn : Nat} {kn ak pe : Int32} {ff fg pf pg : Nat → Int32} (hF : zFr st.1 n kn ak ff fg) (hL : zPr st.2.1 pn pe pf pg) (hok : zIv st tn N) (hN : N < 1000000000) : zFr (spRun st.2.1 st.2.1.1 0 st.1).2 n kn (q_X8_run_ak1 kn ak ff fg pn pe pf pg) ff (q_X8_run_fg1 kn ak ff fg pn pe pf pg) ∧ q_X8_run_r kn ak ff fg pn pe pf pg = nI (spRun st.2.1 st.2.1.1 0 st.1).1 := by
  have e := hL.1
  have h := run_c hL (by rw [hF.1]; exact hok.2.1) hN pn (pn + 1) 0 ak fg st.1 (by omega) (by omega) hF hok.1
  rw [← e]
  exact ⟨h.2, congrArg nI h.1⟩
theorem run_m2 {st : spT} {tn N n pn : Nat} {f1 f2 f3 f4 f5 : Nat → Int32} (hF : zFm st.1 n f1 f2 f3 f4) (hL : zPm st.2.1 pn f5) (hok : zIv st tn N) (hN : N < 1000000000) : zFm (spRun st.2.1 st.2.1.1 0 st.1).2 n f1 (q_X9_run_g2 pn f1 f2 f3 f4 f5) f3 (q_X9_run_g4 pn f1 f2 f3 f4 f5) ∧ q_X9_run_r pn f1 f2 f3 f4 f5 = nI (spRun st.2.1 st.2.1.1 0 st.1).1 := by
  have e := hL.1
  have h := run_m hL (by rw [hF.1]; exact hok.2.1) hN pn (pn + 1) 0 f2 f4 st.1 (by omega) (by omega) hF hok.1
  rw [← e]
  exact ⟨h.2, congrArg nI h.1⟩
/-! image, restore -/
theorem restore_c {st : spT} {n n4 pn p5 : Nat} {kp kn ak kn4 ak4 pe e5 : Int32} {ff fg kf kg pf pg lf lg : Nat → Int32} (hF : zFr st.1 n kn ak ff fg) (hL : zPr st.2.1 pn pe pf pg) (hF4 : zFr st.2.2.2.1 n4 kn4 ak4 kf kg) (hL5 : zPr st.2.2.2.2 p5 e5 lf lg) :
    zFr (if kp = 0 then st.1 else st.2.2.2.1) (q_X8_restore_n1 kp n n4) (q_X8_restore_kn1 kp kn kn4) (q_X8_restore_ak1 kp ak ak4) (q_X8_restore_ff1 kp ff kf) (q_X8_restore_fg1 kp fg kg) ∧ zPr (if kp = 0 then st.2.1 else st.2.2.2.2) (q_X8_restore_pn1 kp pn p5) (q_X8_restore_pe1 kp pe e5) (q_X8_restore_pf1 kp pf lf) (q_X8_restore_pg1 kp pg lg) := by
  unfold q_X8_restore_n1 q_X8_restore_kn1 q_X8_restore_ak1 q_X8_restore_ff1 q_X8_restore_fg1 q_X8_restore_pn1 q_X8_restore_pe1 q_X8_restore_pf1 q_X8_restore_pg1
  by_cases e : kp = 0
  · simp only [if_pos e]; exact ⟨hF, hL⟩
  · simp only [if_neg e]; exact ⟨hF4, hL5⟩
theorem zWw_0 {f1 f2 f3 f4 : Nat → Int32} {j : Nat} (h : j < 5) : zWw f1 f2 f3 f4 j = f1 j := if_pos h
theorem zWw_5 {f1 f2 f3 f4 : Nat → Int32} {j : Nat} (h : j < 5) : zWw f1 f2 f3 f4 (j + 5) = f2 j := by
  unfold zWw
  rw [if_neg (show ¬ j + 5 < 5 by omega), if_pos (show j + 5 < 10 by omega), Nat.add_sub_cancel]
theorem zWw_10 {f1 f2 f3 f4 : Nat → Int32} {j : Nat} (h : j < 5) : zWw f1 f2 f3 f4 (j + 10) = f3 j := by
  unfold zWw
  rw [if_neg (show ¬ j + 10 < 5 by omega), if_neg (show ¬ j + 10 < 10 by omega), if_pos (show j + 10 < 15 by omega), Nat.add_sub_cancel]
theorem zWw_15 {f1 f2 f3 f4 : Nat → Int32} {j : Nat} (h : j < 5) : zWw f1 f2 f3 f4 (j + 15) = f4 j := by
  unfold zWw
  rw [if_neg (show ¬ j + 15 < 5 by omega), if_neg (show ¬ j + 15 < 10 by omega), if_neg (show ¬ j + 15 < 15 by omega), Nat.add_sub_cancel]
theorem image_f {P : spF} {n : Nat} {f1 f2 f3 f4 g : Nat → Int32} (hF : zFm P n f1 f2 f3 f4) (hk : zKw 46 f1 f2 f3 f4 g) (hn : n ≤ 5) : zFm P n g (fun z => g (z + 5)) (fun z => g (z + 10)) (fun z => g (z + 15)) := by
  refine ⟨hF.1, fun j hj => ?_⟩
  have h := hF.2 j hj
  have e0 : g j = f1 j := (hk j (by omega) (by omega)).trans (zWw_0 (by omega))
  have e5 : g (j + 5) = f2 j := (hk (j + 5) (by omega) (by omega)).trans (zWw_5 (by omega))
  have e10 : g (j + 10) = f3 j := (hk (j + 10) (by omega) (by omega)).trans (zWw_10 (by omega))
  have e15 : g (j + 15) = f4 j := (hk (j + 15) (by omega) (by omega)).trans (zWw_15 (by omega))
  exact ⟨e0.trans h.1, e5.trans h.2.1, fun i hi => by show bt (g (j + 10)) i = _; rw [e10]; exact h.2.2.1 i hi, fun i hi => by show bt (g (j + 15)) i = _; rw [e15]; exact h.2.2.2 i hi⟩
theorem image_l {L : spL} {pn : Nat} {f5 g : Nat → Int32} {x y : Int32} (hL : zPm L pn f5) (hk : zKp 46 f5 g x y) (hp : pn ≤ 8) : zPm L pn (fun z => g (z + 20)) := by
  refine ⟨hL.1, fun j hj => ?_⟩
  have h := hL.2 j hj
  exact ⟨(hk.1 (3 * j) (by omega) (by omega)).trans h.1, (hk.1 (3 * j + 1) (by omega) (by omega)).trans h.2.1, (hk.1 (3 * j + 2) (by omega) (by omega)).trans h.2.2⟩
theorem restore_m {st : spT} {n n1 n4 pn pn1 p5 : Nat} {kp : Int32} {f1 f2 f3 f4 f5 f19 g1 g2 g3 g4 g5 : Nat → Int32} (hF : zFm st.1 n f1 f2 f3 f4) (hL : zPm st.2.1 pn f5) (hF4 : zFm st.2.2.2.1 n4 f19 (fun z => f19 (z + 5)) (fun z => f19 (z + 10)) (fun z => f19 (z + 15))) (hL5 : zPm st.2.2.2.2 p5 (fun z => f19 (z + 20))) (hn4 : n4 ≤ 5) (hp5 : p5 ≤ 8)
    (h : (kp = 0 ∧ n1 = n ∧ pn1 = pn ∧ g1 = f1 ∧ g2 = f2 ∧ g3 = f3 ∧ g4 = f4 ∧ g5 = f5) ∨ (¬ kp = 0 ∧ n1 = n4 ∧ pn1 = p5 ∧ zKw 46 g1 g2 g3 g4 f19 ∧ ∀ z, z < 24 → f19 (z + 20) = g5 z)) :
    zFm (if kp = 0 then st.1 else st.2.2.2.1) n1 g1 g2 g3 g4 ∧ zPm (if kp = 0 then st.2.1 else st.2.2.2.2) pn1 g5 := by
  rcases h with ⟨e, rfl, rfl, rfl, rfl, rfl, rfl, rfl⟩ | ⟨e, rfl, rfl, hk, hg⟩
  · rw [if_pos e, if_pos e]; exact ⟨hF, hL⟩
  · rw [if_neg e, if_neg e]
    refine ⟨⟨hF4.1, fun j hj => ?_⟩, ⟨hL5.1, fun j hj => ?_⟩⟩
    · have h := hF4.2 j hj
      have e0 : g1 j = f19 j := ((hk j (by omega) (by omega)).trans (zWw_0 (by omega))).symm
      have e5 : g2 j = f19 (j + 5) := ((hk (j + 5) (by omega) (by omega)).trans (zWw_5 (by omega))).symm
      have e10 : g3 j = f19 (j + 10) := ((hk (j + 10) (by omega) (by omega)).trans (zWw_10 (by omega))).symm
      have e15 : g4 j = f19 (j + 15) := ((hk (j + 15) (by omega) (by omega)).trans (zWw_15 (by omega))).symm
      exact ⟨e0.trans h.1, e5.trans h.2.1, fun i hi => by rw [e10]; exact h.2.2.1 i hi, fun i hi => by rw [e15]; exact h.2.2.2 i hi⟩
    · have h := hL5.2 j hj
      exact ⟨(hg (3 * j) (by omega)).symm.trans h.1, (hg (3 * j + 1) (by omega)).symm.trans h.2.1, (hg (3 * j + 2) (by omega)).symm.trans h.2.2⟩
/-! type -/
def spTs (t t1 : Nat) (ts : Nat → Int32) (w : Int64) : Nat → Int32 := fun z => if t ≤ z ∧ z < t1 then xSg w (t1 - 1 - z) else ts z
theorem sg_eq {w : Int64} {i : Nat} (h : z_ok w i) : xSg w i = xSr w i ∧ 32 ≤ xSr w i ∧ xSr w i ≤ 126 := by
  have h1 := h.1
  have h2 := h.2
  rw [Int64.lt_iff_toInt_lt, show (32 : Int64).toInt = 32 by decide] at h1
  rw [Int64.lt_iff_toInt_lt, show (126 : Int64).toInt = 126 by decide] at h2
  obtain ⟨q, hq, e⟩ := pk_lOf (x := z_sg w (nI i)) (fun k => by rw [Int64.lt_iff_toInt_lt, show (0 : Int64).toInt = 0 by decide] at k; omega)
  rw [e, pk_lT (by omega)] at h1 h2
  have e2 : xSr w i = nI q := by
    show (z_sg w (nI i)).toInt32 = nI q
    rw [e]
    exact Int64.toInt32_ofNat'
  have e3 : xSg w i = nI q := by
    show vp_nar .char (((z_sg w (nI i)).toInt32).toUInt32 % 65536).toInt32 = nI q
    rw [pk_vc, show (z_sg w (nI i)).toInt32 = nI q from e2, pk_char, pk_tn (by omega), Nat.mod_eq_of_lt (by omega)]
  exact ⟨e3.trans e2.symm, by rw [e2]; exact nI_le (a := 32) (by omega) (by omega), by rw [e2]; exact nI_le (b := 126) (by omega) (by decide)⟩
theorem tn_ok {t j : Nat} {w : Int64} {x : Int32} (h1 : t ≤ j) (h2 : j < zTn t w x) : z_ok w (zTn t w x - 1 - j) := by
  rcases Classical.em (zOk w x ∧ t + x.toNatClampNeg ≤ 80) with q | q
  · have e : zTn t w x = t + x.toNatClampNeg := by unfold zTn; rw [if_pos q]
    rw [e] at h2 ⊢
    exact q.1.2 _ (by omega)
  · have e : zTn t w x = t := by unfold zTn; rw [if_neg q]
    omega
theorem spTs_m {t : Nat} {w : Int64} {x : Int32} {ts f8 g8 : Nat → Int32} (hT : ∀ j, j < t → f8 j = ts j) (h : xTq f8 g8 w t (zTn t w x)) : ∀ j, j < zTn t w x → g8 j = spTs t (zTn t w x) ts w j := by
  intro j hj
  unfold spTs
  by_cases e : t ≤ j
  · rw [if_pos ⟨e, hj⟩, h.2 j e hj, (sg_eq (tn_ok e hj)).1]
  · rw [if_neg (fun q => e q.1), h.1 j (by omega)]
    exact hT j (by omega)
theorem iv_type {st : spT} {tn N : Nat} {w : Int64} {x : Int32} (h : zIv st tn N) : zIv (st.1, st.2.1, spTs tn (zTn tn w x) st.2.2.1 w, st.2.2.2) (zTn tn w x) (N + 60000) := by
  have h80 : zTn tn w x ≤ 80 := by
    have h1 := h.2.2.1.1
    unfold zTn
    rcases Classical.em (zOk w x ∧ tn + x.toNatClampNeg ≤ 80) with q | q
    · rw [if_pos q]; exact q.2
    · rw [if_neg q]; exact h1
  refine ⟨zFw_mono h.1 (by omega), h.2.1, ⟨h80, fun j hj => ?_⟩, zFw_mono h.2.2.2.1 (by omega), h.2.2.2.2⟩
  show 32 ≤ spTs tn (zTn tn w x) st.2.2.1 w j ∧ spTs tn (zTn tn w x) st.2.2.1 w j ≤ 126
  unfold spTs
  by_cases e : tn ≤ j
  · rw [if_pos ⟨e, hj⟩, (sg_eq (tn_ok e hj)).1]
    exact (sg_eq (tn_ok e hj)).2
  · rw [if_neg (fun q => e q.1)]
    exact h.2.2.1.2 j (by omega)
