/-! the reference: an asking -/
theorem gv_m {f1 : Nat → Int32} {a : Int32} {k p : Nat} (hf : f1 a.toNatClampNeg = nI k) (hk : k ≤ 3) (hp : p < 2147483647) : q_X9_gives_r f1 a (nI p) = nI (spGv k p) := by
  have e1 : nI p / 2 = nI (p / 2) := pk_div (d := 2) (by omega) (by decide) (by decide)
  have e2 : nI p / 3 = nI (p / 3) := pk_div (d := 3) (by omega) (by decide) (by decide)
  have e3 : (nI p + 1) / 2 = nI ((p + 1) / 2) := by rw [nI_1]; exact pk_div (d := 2) (by omega) (by decide) (by decide)
  unfold q_X9_gives_r
  rw [hf, e1, e2, e3]
  rcases (show k = 0 ∨ k = 1 ∨ k = 2 ∨ k = 3 by omega) with rfl | rfl | rfl | rfl
  · rw [if_neg (by decide), if_neg (by decide), if_neg (by decide)]
    show nI ((p + 1) / 2) = nI (p - p / 2)
    rw [show (p + 1) / 2 = p - p / 2 by omega]
  · rw [if_neg (by decide), if_pos (by decide)]; rfl
  · rw [if_neg (by decide), if_neg (by decide), if_pos (by decide)]; rfl
  · rw [if_pos (by decide)]
    show _ = nI (p - 9)
    by_cases h : p ≤ 9
    · rw [if_pos (show nI p ≤ (9 : Int32) from (nI_leI (b := 9) (by omega) (by decide)).mpr h), show p - 9 = 0 by omega]; rfl
    · rw [if_neg (show ¬ nI p ≤ (9 : Int32) from fun q => h ((nI_leI (b := 9) (by omega) (by decide)).mp q))]
      exact pk_sub (b := 9) (by omega)
theorem has_m {x : Int32} {k : Nat} (hk : k < 32) : (if ((x >>> (nI k &&& 31)) &&& 1) = 1 then (1 : Int32) else (0 : Int32)) = 0 ↔ bt x k = false := by
  rw [bt_has hk]
  cases bt x k <;> decide
theorem try_m {P : spF} {n N : Nat} {f1 f3 f6 f7 : Nat → Int32} (hF : zFm P n f1 f6 f3 f7) (hw : zFw P N) (hN : N < 1000000000) {a b : Nat} (ha : a < n) (hb : b < n) (hab : ¬ a = b) : zFm (spAsk P a b) n f1 (q_X9_tryAsk_g6 f1 f3 f6 f7 (nI a) (nI b)) f3 (q_X9_tryAsk_g7 f3 f6 f7 (nI a) (nI b)) ∧ q_X9_tryAsk_r f1 f3 f6 f7 (nI a) (nI b) = spAns P a b := by
  have h5 := hw.1
  have en := hF.1
  have hpb : P.2.2.1 b ≤ N := zFw_pc hw (by omega)
  have hfb : f1 (nI b).toNatClampNeg = nI (P.2.1 b) := by rw [nI_clamp (by omega)]; exact (hF.2 b hb).1
  have hgb : f6 (nI b).toNatClampNeg = nI (P.2.2.1 b) := by rw [nI_clamp (by omega)]; exact (hF.2 b hb).2.1
  have hgv : q_X9_gives_r f1 (nI b) (f6 (nI b).toNatClampNeg) = nI (spGive P a b) := by rw [hgb]; exact gv_m hfb (hw.2.1 b (by omega)) (by omega)
  have hk : (if (((f3 (nI a).toNatClampNeg) >>> (nI b &&& 31)) &&& 1) = 1 then (1 : Int32) else (0 : Int32)) = 0 ↔ P.2.2.2.1 a b = false := by
    rw [has_m (by omega), nI_clamp (show a < 2 ^ 31 by omega), (hF.2 a ha).2.2.1 b (by omega), decide_eq_true hb, Bool.true_and]
  have hk2 : (if (((f7 (nI a).toNatClampNeg) >>> (nI b &&& 31)) &&& 1) = 1 then (1 : Int32) else (0 : Int32)) = 0 ↔ P.2.2.2.2 a b = false := by
    rw [has_m (by omega), nI_clamp (show a < 2 ^ 31 by omega), (hF.2 a ha).2.2.2 b (by omega), decide_eq_true hb, Bool.true_and]
  unfold q_X9_tryAsk_g6 q_X9_tryAsk_g7 q_X9_tryAsk_r spAns spAsk
  by_cases h1 : (if (((f3 (nI a).toNatClampNeg) >>> (nI b &&& 31)) &&& 1) = 1 then (1 : Int32) else (0 : Int32)) = 0
  · have hl : ¬ spLaw P a b = true := fun q => by
      have q1 := (spLaw_iff.mp q).1
      rw [hk.mp h1] at q1
      exact absurd q1 (by decide)
    rw [if_pos h1, if_pos h1, if_pos h1, if_neg hl, if_neg hl]
    exact ⟨hF, rfl⟩
  · have k1 : P.2.2.2.1 a b = true := by
      cases e : P.2.2.2.1 a b
      · exact absurd (hk.mpr e) h1
      · rfl
    rw [if_neg h1, if_neg h1, if_neg h1]
    by_cases h3 : f6 (nI b).toNatClampNeg = 0
    · have hl : ¬ spLaw P a b = true := fun q => by
        have q1 := (spLaw_iff.mp q).2.2
        rw [hgb] at h3
        have e := congrArg Int32.toInt h3
        rw [nI_toInt (by omega), show (0 : Int32).toInt = 0 by decide] at e
        omega
      rw [if_pos h3, if_pos h3, if_pos h3, if_neg hl, if_neg hl]
      exact ⟨hF, rfl⟩
    · rw [if_neg h3, if_neg h3, if_neg h3]
      by_cases h2 : (if (((f7 (nI a).toNatClampNeg) >>> (nI b &&& 31)) &&& 1) = 1 then (1 : Int32) else (0 : Int32)) = 0
      · have h4 : 0 < P.2.2.1 b := by
          rcases Nat.eq_zero_or_pos (P.2.2.1 b) with e | e
          · exact absurd (by rw [hgb, e]; rfl) h3
          · exact e
        have hl : spLaw P a b = true := spLaw_iff.mpr ⟨k1, hk2.mp h2, h4⟩
        rw [if_pos h2, if_pos h2, if_pos h2, if_pos hl, if_pos hl]
        refine ⟨⟨en, fun j hj => ⟨(hF.2 j hj).1, ?_, (hF.2 j hj).2.2.1, fun i hi => ?_⟩⟩, hgv⟩
        · rw [hgv, hgb, nI_clamp (show a < 2 ^ 31 by omega), nI_clamp (show b < 2 ^ 31 by omega)]
          show _ = nI (spU (spU P.2.2.1 b (P.2.2.1 b - spGive P a b)) a (P.2.2.1 a + spGive P a b) j)
          by_cases ea : j = a
          · subst ea
            rw [pk_us, spU_s, pk_un hab, (hF.2 j hj).2.1, nI_add]
          · rw [pk_un ea, spU_n ea]
            by_cases eb : j = b
            · subst eb
              rw [pk_us, spU_s]
              exact pk_sub (spGv_le _ _)
            · rw [pk_un eb, spU_n eb]
              exact (hF.2 j hj).2.1
        · rw [nI_clamp (show a < 2 ^ 31 by omega)]
          show _ = (decide (i < n) && spUK P.2.2.2.2 a b true j i)
          by_cases ea : j = a
          · subst ea
            rw [pk_us, bt_set (by omega) hi, (hF.2 j hj).2.2.2 i hi]
            by_cases e : i = b
            · subst e
              rw [decide_eq_true (rfl : i = i), Bool.or_true, spUK_s, decide_eq_true hb]
              rfl
            · rw [decide_eq_false e, Bool.or_false, spUK_n (fun q => e q.2)]
          · rw [pk_un ea, (hF.2 j hj).2.2.2 i hi, spUK_n (fun q => ea q.1)]
      · have hl : ¬ spLaw P a b = true := fun q => h2 (hk2.mpr (spLaw_iff.mp q).2.1)
        rw [if_neg h2, if_neg h2, if_neg h2, if_neg hl, if_neg hl]
        exact ⟨hF, rfl⟩
theorem zFm_wk {P : spF} {n : Nat} {f1 f2 f3 f4 : Nat → Int32} (hF : zFm P n f1 f2 f3 f4) : zFm (spWk P) n f1 f2 f3 (fun _ => 0) := ⟨hF.1, fun j hj => ⟨(hF.2 j hj).1, (hF.2 j hj).2.1, (hF.2 j hj).2.2.1, fun i hi => by rw [b_0]; exact (Bool.and_false _).symm⟩⟩
theorem run_m {L : spL} {n pn N : Nat} {f1 f3 f5 : Nat → Int32} (hL : zPm L pn f5) (hLw : zLw L n) (hN : N < 1000000000) : ∀ (m fu j : Nat) (f6 f7 : Nat → Int32) (P : spF), j + m = pn → m < fu → zFm P n f1 f6 f3 f7 → zFw P N →
    (ql_X9_run pn f1 f3 f5 fu j f6 f7).1 = (spRun L m j P).1 ∧ zFm (spRun L m j P).2 n f1 (ql_X9_run pn f1 f3 f5 fu j f6 f7).2.1 f3 (ql_X9_run pn f1 f3 f5 fu j f6 f7).2.2
  | m, 0, j, f6, f7, P, _, hfu, _, _ => absurd hfu (Nat.not_lt_zero _)
  | 0, fu + 1, j, f6, f7, P, h, hfu, hF, hw => by
    have h8 := hLw.1
    have e8 := hL.1
    rw [ql_X9_run, if_pos (nI_le (by omega) (by omega))]
    exact ⟨rfl, hF⟩
  | m + 1, fu + 1, j, f6, f7, P, h, hfu, hF, hw => by
    have h8 := hLw.1
    have e8 := hL.1
    have en := hF.1
    have h1 := hLw.2 j (by omega)
    have h2 := hL.2 j (by omega)
    rw [ql_X9_run, if_neg (nI_ge (by omega) (by omega)), nI_clamp (show 3 * j < 2 ^ 31 by omega), nI_clamp (show 3 * j + 1 < 2 ^ 31 by omega), nI_clamp (show 3 * j + 2 < 2 ^ 31 by omega), h2.1, h2.2.1, h2.2.2]
    have ht := try_m hF hw hN (a := L.2.1 j) (b := L.2.2.1 j) h1.1 h1.2.1 h1.2.2
    rw [spRun]
    by_cases hl : spLaw P (L.2.1 j) (L.2.2.1 j) = true
    · rw [if_neg (fun q => (spAns_neg hw hN (by omega)).mp (by rw [← ht.2]; exact q) hl), if_pos hl]
      have hw2 := zFw_end (L := L) (j := j) (zFw_ask hw (show L.2.1 j < P.1 by omega) (show L.2.2.1 j < P.1 by omega) h1.2.2)
      by_cases he : L.2.2.2 j = true
      · rw [if_pos (by rw [if_pos he])]
        refine run_m hL hLw hN m fu (j + 1) _ _ _ (by omega) (by omega) ?_ hw2
        unfold spEnd
        rw [if_pos he]
        exact zFm_wk ht.1
      · rw [if_neg (by rw [if_neg he]; decide)]
        refine run_m hL hLw hN m fu (j + 1) _ _ _ (by omega) (by omega) ?_ hw2
        unfold spEnd
        rw [if_neg he]
        exact ht.1
    · rw [if_pos (by rw [ht.2]; exact (spAns_neg hw hN (by omega)).mpr hl), if_neg hl]
      refine ⟨rfl, ?_⟩
      have h3 := ht.1
      unfold spAsk at h3
      rw [if_neg hl] at h3
      exact h3
