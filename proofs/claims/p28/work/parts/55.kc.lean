/-! the class: an asking -/
theorem gv_c {f g : Nat → Int32} {a : Int32} {k p : Nat} (hf : f a.toNatClampNeg = nI k) (hg : g a.toNatClampNeg = nI p) (hk : k ≤ 3) (hp : p < 2147483648) : q_X0_gives_r f g a = nI (spGv k p) := by
  have e1 : nI p / 2 = nI (p / 2) := pk_div (d := 2) hp (by decide) (by decide)
  have e2 : nI p / 3 = nI (p / 3) := pk_div (d := 3) hp (by decide) (by decide)
  unfold q_X0_gives_r
  rw [hf, hg, e1, e2]
  rcases (show k = 0 ∨ k = 1 ∨ k = 2 ∨ k = 3 by omega) with rfl | rfl | rfl | rfl
  · rw [if_neg (by decide), if_neg (by decide), if_neg (by decide)]
    exact pk_sub (Nat.div_le_self _ _)
  · rw [if_pos (by decide)]; rfl
  · rw [if_neg (by decide), if_pos (by decide)]; rfl
  · rw [if_neg (by decide), if_neg (by decide), if_pos (by decide)]
    show _ = nI (p - 9)
    by_cases h : p ≤ 9
    · rw [if_pos (show nI p ≤ (9 : Int32) from (nI_leI (b := 9) hp (by decide)).mpr h), show p - 9 = 0 by omega]; rfl
    · rw [if_neg (show ¬ nI p ≤ (9 : Int32) from fun q => h ((nI_leI (b := 9) hp (by decide)).mp q))]
      exact pk_sub (b := 9) (by omega)
theorem pair_n (a b : Nat) : q_X0_pair_r (nI a) (nI b) = (1 : Int32) <<< (nI (5 * a + b) &&& 31) := by
  unfold q_X0_pair_r
  rw [show (5 : Int32) = nI 5 from rfl, pk_mul, nI_add]
theorem zFr_kn {P : spF} {n : Nat} {kn ak : Int32} {f g : Nat → Int32} (hF : zFr P n kn ak f g) {a b : Nat} (ha : a < 5) (hb : b < 5) : kn &&& q_X0_pair_r (nI a) (nI b) = 0 ↔ P.2.2.2.1 a b = false := by
  rw [pair_n, bt_test (by omega), hF.2.2.2.1 _ (by omega), decide_eq_true (show 5 * a + b < 25 by omega), Bool.true_and, show (5 * a + b) / 5 = a by omega, show (5 * a + b) % 5 = b by omega]
theorem zFr_ak {P : spF} {n : Nat} {kn ak : Int32} {f g : Nat → Int32} (hF : zFr P n kn ak f g) {a b : Nat} (ha : a < 5) (hb : b < 5) : ak &&& q_X0_pair_r (nI a) (nI b) = 0 ↔ P.2.2.2.2 a b = false := by
  rw [pair_n, bt_test (by omega), hF.2.2.2.2 _ (by omega), decide_eq_true (show 5 * a + b < 25 by omega), Bool.true_and, show (5 * a + b) / 5 = a by omega, show (5 * a + b) % 5 = b by omega]
theorem nI_pos1 {p : Nat} (hp : p < 2147483648) : (0 : Int32) < nI p ↔ 0 < p := nI_ltI (a := 0) (by decide) hp
theorem spLaw_iff {P : spF} {a b : Nat} : spLaw P a b = true ↔ P.2.2.2.1 a b = true ∧ P.2.2.2.2 a b = false ∧ 0 < P.2.2.1 b := by
  unfold spLaw
  rw [Bool.and_eq_true, Bool.and_eq_true, Bool.not_eq_true', decide_eq_true_iff, and_assoc]
theorem try_c {P : spF} {n N : Nat} {kn ak : Int32} {f g : Nat → Int32} (hF : zFr P n kn ak f g) (hw : zFw P N) (hN : N < 1000000000) {a b : Nat} (ha : a < n) (hb : b < n) (hab : ¬ a = b) : zFr (spAsk P a b) n kn (q_X0_tryAsking_ak1 kn ak g (nI a) (nI b)) f (q_X0_tryAsking_g1 kn ak f g (nI a) (nI b)) ∧ q_X0_tryAsking_r kn ak f g (nI a) (nI b) = spAns P a b := by
  have h5 := hw.1
  have en := hF.1
  have hfb : f (nI b).toNatClampNeg = nI (P.2.1 b) := by rw [nI_clamp (by omega)]; exact hF.2.1 b hb
  have hgb : g (nI b).toNatClampNeg = nI (P.2.2.1 b) := by rw [nI_clamp (by omega)]; exact hF.2.2.1 b hb
  have hpb : P.2.2.1 b ≤ N := zFw_pc hw (by omega)
  have hgv : q_X0_gives_r f g (nI b) = nI (spGive P a b) := gv_c hfb hgb (hw.2.1 b (by omega)) (by omega)
  have hk := zFr_kn hF (a := a) (b := b) (by omega) (by omega)
  have hk2 := zFr_ak hF (a := a) (b := b) (by omega) (by omega)
  unfold q_X0_tryAsking_ak1 q_X0_tryAsking_g1 q_X0_tryAsking_r spAns spAsk
  by_cases h1 : kn &&& q_X0_pair_r (nI a) (nI b) = 0
  · have hl : ¬ spLaw P a b = true := fun q => by
      have q1 := (spLaw_iff.mp q).1
      rw [hk.mp h1] at q1
      exact absurd q1 (by decide)
    simp only [if_pos h1, if_neg hl]
    exact ⟨hF, trivial⟩
  · have k1 : P.2.2.2.1 a b = true := by
      cases e : P.2.2.2.1 a b
      · exact absurd (hk.mpr e) h1
      · rfl
    by_cases h2 : ak &&& q_X0_pair_r (nI a) (nI b) = 0
    · by_cases h3 : (0 : Int32) < g (nI b).toNatClampNeg
      · have h4 : 0 < P.2.2.1 b := by rw [hgb] at h3; exact (nI_pos1 (by omega)).mp h3
        have hl : spLaw P a b = true := spLaw_iff.mpr ⟨k1, hk2.mp h2, h4⟩
        simp only [if_neg h1, if_pos h2, if_pos h3, if_pos hl]
        refine ⟨⟨en, hF.2.1, fun j hj => ?_, hF.2.2.2.1, fun i hi => ?_⟩, hgv⟩
        · rw [hgv, hgb, nI_clamp (show a < 2 ^ 31 by omega), nI_clamp (show b < 2 ^ 31 by omega)]
          show _ = nI (spU (spU P.2.2.1 b (P.2.2.1 b - spGive P a b)) a (P.2.2.1 a + spGive P a b) j)
          by_cases ea : j = a
          · subst ea
            rw [pk_us, spU_s, pk_un hab, hF.2.2.1 j hj, nI_add]
          · rw [pk_un ea, spU_n ea]
            by_cases eb : j = b
            · subst eb
              rw [pk_us, spU_s]
              exact pk_sub (spGv_le _ _)
            · rw [pk_un eb, spU_n eb]
              exact hF.2.2.1 j hj
        · rw [pair_n, bt_set (by omega) hi, hF.2.2.2.2 i hi]
          show _ = (decide (i < 25) && spUK P.2.2.2.2 a b true (i / 5) (i % 5))
          by_cases e : i = 5 * a + b
          · subst e
            rw [decide_eq_true (rfl : 5 * a + b = 5 * a + b), Bool.or_true, show (5 * a + b) / 5 = a by omega, show (5 * a + b) % 5 = b by omega, spUK_s, decide_eq_true (show 5 * a + b < 25 by omega)]
            rfl
          · rw [decide_eq_false e, Bool.or_false, spUK_n (fun q => e (by omega))]
      · have hl : ¬ spLaw P a b = true := fun q => h3 (by rw [hgb]; exact (nI_pos1 (by omega)).mpr (spLaw_iff.mp q).2.2)
        simp only [if_neg h1, if_pos h2, if_neg h3, if_neg hl]
        exact ⟨hF, trivial⟩
    · have hl : ¬ spLaw P a b = true := fun q => h2 (hk2.mpr (spLaw_iff.mp q).2.1)
      simp only [if_neg h1, if_neg h2, if_neg hl]
      exact ⟨hF, trivial⟩
theorem spAns_not {P : spF} {N a b : Nat} (hw : zFw P N) (hN : N < 1000000000) (hb : b < P.1) : spAns P a b = -2 ↔ ¬ spLaw P a b = true := by
  have h1 := zFw_pc hw hb
  have h2 : spGive P a b ≤ P.2.2.1 b := spGv_le _ _
  unfold spAns
  by_cases h : spLaw P a b = true
  · rw [if_pos h]
    refine ⟨fun q => ?_, fun q => absurd h q⟩
    have e := congrArg Int32.toInt q
    rw [nI_toInt (by omega), show (-2 : Int32).toInt = -2 by decide] at e
    omega
  · rw [if_neg h]
    exact ⟨fun _ => h, fun _ => rfl⟩
theorem spAns_neg {P : spF} {N a b : Nat} (hw : zFw P N) (hN : N < 1000000000) (hb : b < P.1) : spAns P a b < 0 ↔ ¬ spLaw P a b = true := by
  have h1 := zFw_pc hw hb
  have h2 : spGive P a b ≤ P.2.2.1 b := spGv_le _ _
  unfold spAns
  by_cases h : spLaw P a b = true
  · rw [if_pos h]
    exact ⟨fun q => absurd q (nI_pos (by omega)), fun q => absurd h q⟩
  · rw [if_neg h]
    exact ⟨fun _ => h, fun _ => by decide⟩
theorem zFr_wk {P : spF} {n : Nat} {kn ak : Int32} {f g : Nat → Int32} (hF : zFr P n kn ak f g) : zFr (spWk P) n kn 0 f g := ⟨hF.1, hF.2.1, hF.2.2.1, hF.2.2.2.1, fun i hi => by rw [b_0]; exact (Bool.and_false _).symm⟩
theorem ends_c {L : spL} {pn : Nat} {pe : Int32} {pf pg : Nat → Int32} (hL : zPr L pn pe pf pg) {j : Nat} (hj : j < pn) (h8 : pn ≤ 8) : q_X2_endsWeek_r pe (nI j) = 0 ↔ L.2.2.2 j = false := by
  unfold q_X2_endsWeek_r
  have h1 : pe &&& ((1 : Int32) <<< (nI j &&& 31)) = 0 ↔ L.2.2.2 j = false := by rw [bt_test (by omega), hL.2.2 j (by omega), decide_eq_true hj, Bool.true_and]
  by_cases h : pe &&& ((1 : Int32) <<< (nI j &&& 31)) = 0
  · rw [if_pos h]; exact ⟨fun _ => h1.mp h, fun _ => rfl⟩
  · rw [if_neg h]; exact ⟨fun q => absurd q (by decide), fun q => absurd (h1.mpr q) h⟩
theorem end_c {P : spF} {L : spL} {n pn : Nat} {kn ak pe : Int32} {f g pf pg : Nat → Int32} (hF : zFr P n kn ak f g) (hL : zPr L pn pe pf pg) {j : Nat} (hj : j < pn) (h8 : pn ≤ 8) : zFr (spEnd L j P) n kn (q_X2_endWeekIfDue_ak2 pe ak (nI j)) f g := by
  have h1 := ends_c hL hj h8
  unfold spEnd q_X2_endWeekIfDue_ak2
  cases e : L.2.2.2 j
  · rw [if_pos (h1.mpr e), if_neg (by decide)]; exact hF
  · rw [if_pos rfl, if_neg (show ¬ q_X2_endsWeek_r pe (nI j) = 0 from fun q => by rw [h1.mp q] at e; exact absurd e (by decide))]; exact zFr_wk hF
/-! THE PLAN goes: how many are done, what comes of it -/
def spRun (L : spL) : Nat → Nat → spF → Nat × spF
  | 0, j, P => (j, P)
  | m + 1, j, P => if spLaw P (L.2.1 j) (L.2.2.1 j) = true then spRun L m (j + 1) (spEnd L j (spAsk P (L.2.1 j) (L.2.2.1 j))) else (j, P)
theorem spRun_w {L : spL} {n N : Nat} (hL : zLw L n) : ∀ (m j : Nat) (P : spF), j + m = L.1 → P.1 = n → zFw P N → zFw (spRun L m j P).2 N ∧ (spRun L m j P).2.1 = n ∧ (spRun L m j P).1 ≤ L.1
  | 0, j, P, h, hn, hw => ⟨hw, hn, by show j ≤ L.1; omega⟩
  | m + 1, j, P, h, hn, hw => by
    rw [spRun]
    have h1 := hL.2 j (by omega)
    by_cases hl : spLaw P (L.2.1 j) (L.2.2.1 j) = true
    · rw [if_pos hl]
      exact spRun_w hL m (j + 1) _ (by omega) (by rw [spEnd_n, spAsk_n]; exact hn) (zFw_end (zFw_ask hw (by omega) (by omega) h1.2.2))
    · rw [if_neg hl]
      exact ⟨hw, hn, by show j ≤ L.1; omega⟩
theorem run_c {L : spL} {n pn N : Nat} {kn pe : Int32} {ff pf pg : Nat → Int32} (hL : zPr L pn pe pf pg) (hLw : zLw L n) (hN : N < 1000000000) : ∀ (m fu j : Nat) (ak : Int32) (g : Nat → Int32) (P : spF), j + m = pn → m < fu → zFr P n kn ak ff g → zFw P N →
    (ql_X8_run kn ff pn pe pf pg fu j ak g).1 = (spRun L m j P).1 ∧ zFr (spRun L m j P).2 n kn (ql_X8_run kn ff pn pe pf pg fu j ak g).2.1 ff (ql_X8_run kn ff pn pe pf pg fu j ak g).2.2
  | m, 0, j, ak, g, P, _, hfu, _, _ => absurd hfu (Nat.not_lt_zero _)
  | 0, fu + 1, j, ak, g, P, h, hfu, hF, hw => by
    have h8 := hLw.1
    have e8 := hL.1
    rw [ql_X8_run, if_pos (nI_le (by omega) (by omega))]
    exact ⟨rfl, hF⟩
  | m + 1, fu + 1, j, ak, g, P, h, hfu, hF, hw => by
    have h8 := hLw.1
    have e8 := hL.1
    have en := hF.1
    have h1 := hLw.2 j (by omega)
    have h2 := hL.2.1 j (by omega)
    rw [ql_X8_run, if_neg (nI_ge (by omega) (by omega)), nI_clamp (show j < 2 ^ 31 by omega), h2.1, h2.2]
    have ht := try_c hF hw hN (a := L.2.1 j) (b := L.2.2.1 j) h1.1 h1.2.1 h1.2.2
    rw [spRun]
    by_cases hl : spLaw P (L.2.1 j) (L.2.2.1 j) = true
    · rw [if_neg (fun q => (spAns_not hw hN (by omega)).mp (ht.2.symm.trans q) hl), if_pos hl]
      exact run_c hL hLw hN m fu (j + 1) _ _ _ (by omega) (by omega) (end_c ht.1 hL (by omega) (by omega)) (zFw_end (zFw_ask hw (by omega) (by omega) h1.2.2))
    · rw [if_pos (ht.2.trans ((spAns_not hw hN (by omega)).mpr hl)), if_neg hl]
      refine ⟨rfl, ?_⟩
      have h3 := ht.1
      unfold spAsk at h3
      rw [if_neg hl] at h3
      exact h3
