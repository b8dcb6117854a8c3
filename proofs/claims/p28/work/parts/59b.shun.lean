/-! THE PLAN without askings of p by o -/
def spWo (L : spL) (o p : Nat) : Nat → Nat → spF → spF
  | 0, _, P => P
  | m + 1, j, P => spWo L o p m (j + 1) (spEnd L j (if L.2.1 j = o ∧ L.2.2.1 j = p then P else spAsk P (L.2.1 j) (L.2.2.1 j)))
theorem spWo_i {L : spL} {n N o p j : Nat} {P : spF} (hL : zLw L n) (hj : j < L.1) (hn : P.1 = n) (hw : zFw P N) : zFw (spEnd L j (if L.2.1 j = o ∧ L.2.2.1 j = p then P else spAsk P (L.2.1 j) (L.2.2.1 j))) N ∧ (spEnd L j (if L.2.1 j = o ∧ L.2.2.1 j = p then P else spAsk P (L.2.1 j) (L.2.2.1 j))).1 = n := by
  have h1 := hL.2 j hj
  by_cases h : L.2.1 j = o ∧ L.2.2.1 j = p
  · rw [if_pos h]; exact ⟨zFw_end hw, by rw [spEnd_n]; exact hn⟩
  · rw [if_neg h]; exact ⟨zFw_end (zFw_ask hw (by omega) (by omega) h1.2.2), by rw [spEnd_n, spAsk_n]; exact hn⟩
theorem wo_c {L : spL} {n pn N o p : Nat} {kn pe : Int32} {ff pf pg : Nat → Int32} (hL : zPr L pn pe pf pg) (hLw : zLw L n) (hN : N < 1000000000) (ho : o < 100) (hpp : p < 100) (hn5 : n ≤ 5) : ∀ (m fu j : Nat) (ak : Int32) (g : Nat → Int32) (P : spF), j + m = pn → m < fu → zFr P n kn ak ff g → zFw P N →
    zFr (spWo L o p m j P) n kn (ql_X8_penceWithout kn pn pe pf pg ff (nI o) (nI p) fu j ak g).2.1 ff (ql_X8_penceWithout kn pn pe pf pg ff (nI o) (nI p) fu j ak g).2.2 ∧ zFw (spWo L o p m j P) N
  | m, 0, j, ak, g, P, _, h, _, _ => absurd h (Nat.not_lt_zero _)
  | 0, fu + 1, j, ak, g, P, h, hfu, hF, hw => by
    have h8 := hLw.1
    have e8 := hL.1
    rw [ql_X8_penceWithout, if_pos (nI_le (by omega) (by omega))]
    exact ⟨hF, hw⟩
  | m + 1, fu + 1, j, ak, g, P, h, hfu, hF, hw => by
    have h8 := hLw.1
    have e8 := hL.1
    have en := hF.1
    have h1 := hLw.2 j (by omega)
    have h2 := hL.2.1 j (by omega)
    have hi := spWo_i (o := o) (p := p) (P := P) hLw (show j < L.1 by omega) (by omega) hw
    rw [spWo, ql_X8_penceWithout, if_neg (nI_ge (by omega) (by omega))]
    unfold q_X2_goOn_ak2 q_X2_goOn_g2
    rw [nI_clamp (show j < 2 ^ 31 by omega), h2.1, h2.2]
    have ht := try_c hF hw hN (a := L.2.1 j) (b := L.2.2.1 j) h1.1 h1.2.1 h1.2.2
    have e1 : nI (L.2.1 j) = nI o ↔ L.2.1 j = o := nI_eq (by omega) (by omega)
    have e2 : nI (L.2.2.1 j) = nI p ↔ L.2.2.1 j = p := nI_eq (by omega) (by omega)
    by_cases c1 : nI (L.2.1 j) = nI o
    · rw [if_pos c1]
      by_cases c2 : nI (L.2.2.1 j) = nI p
      · rw [if_pos c2]
        refine wo_c hL hLw hN ho hpp hn5 m fu (j + 1) _ _ _ (by omega) (by omega) ?_ hi.1
        rw [if_pos ⟨e1.mp c1, e2.mp c2⟩]
        exact end_c hF hL (by omega) (by omega)
      · rw [if_neg c2]
        refine wo_c hL hLw hN ho hpp hn5 m fu (j + 1) _ _ _ (by omega) (by omega) ?_ hi.1
        rw [if_neg (fun q => c2 (e2.mpr q.2))]
        exact end_c ht.1 hL (by omega) (by omega)
    · rw [if_neg c1]
      refine wo_c hL hLw hN ho hpp hn5 m fu (j + 1) _ _ _ (by omega) (by omega) ?_ hi.1
      rw [if_neg (fun q => c1 (e1.mpr q.1))]
      exact end_c ht.1 hL (by omega) (by omega)
theorem wo_m {L : spL} {n pn N o p : Nat} {f1 f3 f5 : Nat → Int32} (hL : zPm L pn f5) (hLw : zLw L n) (hN : N < 1000000000) (ho : o < 100) (hpp : p < 100) (hn5 : n ≤ 5) : ∀ (m fu j : Nat) (f6 f7 : Nat → Int32) (P : spF), j + m = pn → m < fu → zFm P n f1 f6 f3 f7 → zFw P N →
    zFm (spWo L o p m j P) n f1 (ql_X9_goWithout pn f1 f3 f5 (nI p) (nI o) fu j f6 f7).2.1 f3 (ql_X9_goWithout pn f1 f3 f5 (nI p) (nI o) fu j f6 f7).2.2 ∧ zFw (spWo L o p m j P) N
  | m, 0, j, f6, f7, P, _, h, _, _ => absurd h (Nat.not_lt_zero _)
  | 0, fu + 1, j, f6, f7, P, h, hfu, hF, hw => by
    have h8 := hLw.1
    have e8 := hL.1
    rw [ql_X9_goWithout, if_pos (nI_le (by omega) (by omega))]
    exact ⟨hF, hw⟩
  | m + 1, fu + 1, j, f6, f7, P, h, hfu, hF, hw => by
    have h8 := hLw.1
    have e8 := hL.1
    have en := hF.1
    have h1 := hLw.2 j (by omega)
    have h2 := hL.2 j (by omega)
    have hi := spWo_i (o := o) (p := p) (P := P) hLw (show j < L.1 by omega) (by omega) hw
    rw [spWo, ql_X9_goWithout, if_neg (nI_ge (by omega) (by omega)), nI_clamp (show 3 * j < 2 ^ 31 by omega), nI_clamp (show 3 * j + 1 < 2 ^ 31 by omega), nI_clamp (show 3 * j + 2 < 2 ^ 31 by omega), h2.1, h2.2.1, h2.2.2]
    have ht := try_m hF hw hN (a := L.2.1 j) (b := L.2.2.1 j) h1.1 h1.2.1 h1.2.2
    have e1 : nI (L.2.1 j) = nI o ↔ L.2.1 j = o := nI_eq (by omega) (by omega)
    have e2 : nI (L.2.2.1 j) = nI p ↔ L.2.2.1 j = p := nI_eq (by omega) (by omega)
    have hend : ∀ (Q : spF) (g6 g7 : Nat → Int32), zFm Q n f1 g6 f3 g7 → ∀ (X Y : Nat × (Nat → Int32) × (Nat → Int32)), (L.2.2.2 j = true → X = ql_X9_goWithout pn f1 f3 f5 (nI p) (nI o) fu (j + 1) g6 (fun _ => 0)) → (¬ L.2.2.2 j = true → Y = ql_X9_goWithout pn f1 f3 f5 (nI p) (nI o) fu (j + 1) g6 g7) → zFw (spEnd L j Q) N → spEnd L j (if L.2.1 j = o ∧ L.2.2.1 j = p then P else spAsk P (L.2.1 j) (L.2.2.1 j)) = spEnd L j Q →
        zFm (spWo L o p m (j + 1) (spEnd L j Q)) n f1 (if (if L.2.2.2 j = true then (1 : Int32) else 0) = 1 then X else Y).2.1 f3 (if (if L.2.2.2 j = true then (1 : Int32) else 0) = 1 then X else Y).2.2 ∧ zFw (spWo L o p m (j + 1) (spEnd L j Q)) N := by
      intro Q g6 g7 hQ X Y hX hY hwQ _
      by_cases he : L.2.2.2 j = true
      · rw [if_pos (show (if L.2.2.2 j = true then (1 : Int32) else 0) = 1 by rw [if_pos he]), hX he]
        refine wo_m hL hLw hN ho hpp hn5 m fu (j + 1) _ _ _ (by omega) (by omega) ?_ hwQ
        unfold spEnd
        rw [if_pos he]
        exact zFm_wk hQ
      · rw [if_neg (show ¬ (if L.2.2.2 j = true then (1 : Int32) else 0) = 1 by rw [if_neg he]; decide), hY he]
        refine wo_m hL hLw hN ho hpp hn5 m fu (j + 1) _ _ _ (by omega) (by omega) ?_ hwQ
        unfold spEnd
        rw [if_neg he]
        exact hQ
    by_cases c1 : nI (L.2.1 j) = nI o
    · rw [if_pos c1]
      by_cases c2 : nI (L.2.2.1 j) = nI p
      · rw [if_pos c2]
        have hc : L.2.1 j = o ∧ L.2.2.1 j = p := ⟨e1.mp c1, e2.mp c2⟩
        rw [if_pos hc] at hi ⊢
        exact hend P f6 f7 hF _ _ (fun _ => rfl) (fun _ => rfl) hi.1 (by rw [if_pos hc])
      · rw [if_neg c2]
        have hc : ¬ (L.2.1 j = o ∧ L.2.2.1 j = p) := fun q => c2 (e2.mpr q.2)
        rw [if_neg hc] at hi ⊢
        exact hend _ _ _ ht.1 _ _ (fun _ => rfl) (fun _ => rfl) hi.1 (by rw [if_neg hc])
    · rw [if_neg c1]
      have hc : ¬ (L.2.1 j = o ∧ L.2.2.1 j = p) := fun q => c1 (e1.mpr q.1)
      rw [if_neg hc] at hi ⊢
      exact hend _ _ _ ht.1 _ _ (fun _ => rfl) (fun _ => rfl) hi.1 (by rw [if_neg hc])
/-! shun -/
def spPw (P : spF) (L : spL) (p o : Nat) : Nat := (spWo L o p L.1 0 P).2.2.1 p
def spSh (f : Nat → Nat) (p : Nat) : Nat → Nat → Nat → Nat → Nat
  | 0, _, _, w => w
  | m + 1, j, mo, w => if ¬ j = p ∧ mo < f j then spSh f p m (j + 1) (f j) j else spSh f p m (j + 1) mo w
noncomputable def spShunA (st : spT) (a : Int32) : Int32 := zI (vp_in a st.1.1) (nI (spSh (spPw st.1 st.2.1 a.toNatClampNeg) a.toNatClampNeg st.1.1 0 (spPw st.1 st.2.1 a.toNatClampNeg 9) 9)) (-1)
theorem spWo_n {L : spL} {n N : Nat} (hL : zLw L n) (o p : Nat) : ∀ (m j : Nat) (P : spF), j + m = L.1 → P.1 = n → zFw P N → zFw (spWo L o p m j P) N ∧ (spWo L o p m j P).1 = n
  | 0, j, P, _, hn, hw => ⟨hw, hn⟩
  | m + 1, j, P, h, hn, hw => by
    rw [spWo]
    have h1 := spWo_i (o := o) (p := p) hL (show j < L.1 by omega) hn hw
    exact spWo_n hL o p m (j + 1) _ (by omega) h1.2 h1.1
theorem spPw_le {st : spT} {tn N : Nat} (h : zIv st tn N) {p : Nat} (hp : p < st.1.1) (o : Nat) : spPw st.1 st.2.1 p o ≤ N := by
  have h1 := spWo_n h.2.1 o p st.2.1.1 0 st.1 (by omega) rfl h.1
  exact zFw_pc h1.1 (by omega)
theorem pw_c {st : spT} {tn N n pn : Nat} {kn ak pe : Int32} {ff fg pf pg : Nat → Int32} (hF : zFr st.1 n kn ak ff fg) (hL : zPr st.2.1 pn pe pf pg) (hok : zIv st tn N) (hN : N < 1000000000) {o p : Nat} (ho : o < 100) (hp : p < n) : q_X8_penceWithout_r kn ak ff fg pn pe pf pg (nI o) (nI p) = nI (spPw st.1 st.2.1 p o) := by
  have en := hF.1
  have h5 := hok.1.1
  have h := wo_c (o := o) (p := p) hL (by rw [en]; exact hok.2.1) hN ho (by omega) (by omega) pn (pn + 1) 0 ak fg st.1 (by omega) (by omega) hF hok.1
  unfold q_X8_penceWithout_r q_X0_takeFrom_f2 q_X0_takeFrom_g2 spPw
  rw [nI_clamp (show p < 2 ^ 31 by omega), ← hL.1]
  exact h.1.2.2.1 p hp
theorem pw_m {st : spT} {tn N n pn : Nat} {f1 f2 f3 f4 f5 : Nat → Int32} (hF : zFm st.1 n f1 f2 f3 f4) (hL : zPm st.2.1 pn f5) (hok : zIv st tn N) (hN : N < 1000000000) {o p : Nat} (ho : o < 100) (hp : p < n) : q_X9_goWithout_r pn f1 f2 f3 f4 f5 (nI p) (nI o) = nI (spPw st.1 st.2.1 p o) := by
  have en := hF.1
  have h5 := hok.1.1
  have h := wo_m (o := o) (p := p) hL (by rw [en]; exact hok.2.1) hN ho (by omega) (by omega) pn (pn + 1) 0 f2 f4 st.1 (by omega) (by omega) hF hok.1
  unfold q_X9_goWithout_r q_X9_begin_g6 q_X9_begin_g7 spPw
  rw [nI_clamp (show p < 2 ^ 31 by omega), ← hL.1]
  exact (h.1.2 p hp).2.1
theorem shl_c {st : spT} {tn N n pn : Nat} {kn ak pe : Int32} {ff fg pf pg : Nat → Int32} (hF : zFr st.1 n kn ak ff fg) (hL : zPr st.2.1 pn pe pf pg) (hok : zIv st tn N) (hN : N < 1000000000) {p : Nat} (hp : p < n) : ∀ (m fu j mo w : Nat) (v7 kn7 ak7 : Int32) (uf ug : Nat → Int32), j + m = n → m < fu → mo ≤ N →
    (ql_X8_shun n kn ak ff fg pn pe pf pg (nI p) fu j (nI mo) (nI w) v7 kn7 ak7 uf ug).2.2.1 = nI (spSh (spPw st.1 st.2.1 p) p m j mo w)
  | m, 0, _, _, _, _, _, _, _, _, _, h, _ => absurd h (Nat.not_lt_zero _)
  | 0, fu + 1, j, mo, w, v7, kn7, ak7, uf, ug, h, _, _ => by
    have h5 := hok.1.1
    have en := hF.1
    rw [ql_X8_shun, if_pos (nI_le (by omega) (by omega))]
    rfl
  | m + 1, fu + 1, j, mo, w, v7, kn7, ak7, uf, ug, h, hfu, hmo => by
    have h5 := hok.1.1
    have en := hF.1
    rw [ql_X8_shun, if_neg (nI_ge (by omega) (by omega)), spSh]
    by_cases e : j = p
    · rw [if_pos (by rw [e]), if_pos (Int32.le_refl _), if_neg (fun q => q.1 e)]
      exact shl_c hF hL hok hN hp m fu (j + 1) mo w _ _ _ _ _ (by omega) (by omega) hmo
    · have hl := spPw_le hok (p := p) (by omega) j
      rw [if_neg (fun q => e ((nI_eq (by omega) (by omega)).mp q)), pw_c hF hL hok hN (o := j) (by omega) hp]
      by_cases c : spPw st.1 st.2.1 p j ≤ mo
      · rw [if_pos (nI_le c (by omega)), if_neg (fun q => by omega)]
        exact shl_c hF hL hok hN hp m fu (j + 1) mo w _ _ _ _ _ (by omega) (by omega) hmo
      · rw [if_neg (nI_ge (by omega) (by omega)), if_pos ⟨e, by omega⟩]
        exact shl_c hF hL hok hN hp m fu (j + 1) _ j _ _ _ _ _ (by omega) (by omega) hl
theorem shun_c {st : spT} {tn N n pn : Nat} {kn ak pe a : Int32} {ff fg pf pg : Nat → Int32} (hF : zFr st.1 n kn ak ff fg) (hL : zPr st.2.1 pn pe pf pg) (hok : zIv st tn N) (hN : N < 1000000000) : q_X8_shun_r n kn ak ff fg pn pe pf pg a = spShunA st a := by
  have h5 := hok.1.1
  have en := hF.1
  have ha := has_c (a := a) (n := n) (by omega)
  unfold q_X8_shun_r spShunA
  by_cases h1 : (if a < 0 then (0 : Int32) else (if nI n ≤ a then (0 : Int32) else (1 : Int32))) = 0
  · rw [if_pos h1, zI_n (fun q => ha.mp h1 (by rw [en]; exact q))]
  · have k1 : vp_in a n := Classical.byContradiction (fun k => h1 (ha.mpr k))
    have e1 := in_nI k1 (by omega)
    rw [if_neg h1, zI_p (by rw [← en]; exact k1), ← en]
    have hl := spPw_le hok (p := a.toNatClampNeg) (by omega) 9
    have h9 := pw_c hF hL hok hN (o := 9) (p := a.toNatClampNeg) (by decide) e1.2
    rw [← e1.1, show nI 9 = 9 from rfl] at h9
    rw [h9]
    have h := shl_c hF hL hok hN (p := a.toNatClampNeg) e1.2 n (n + 1) 0 (spPw st.1 st.2.1 a.toNatClampNeg 9) 9 (q_X8_penceWithout_v71 n) (q_X8_penceWithout_kn71 kn) (q_X8_penceWithout_ak71 kn ak ff fg pn pe pf pg 9 a) (q_X8_penceWithout_uf1 ff) (q_X8_penceWithout_ug1 kn ak ff fg pn pe pf pg 9 a) (by omega) (by omega) hl
    rw [← e1.1] at h
    exact h
theorem shl_m {st : spT} {tn N n pn : Nat} {f1 f2 f3 f4 f5 : Nat → Int32} (hF : zFm st.1 n f1 f2 f3 f4) (hL : zPm st.2.1 pn f5) (hok : zIv st tn N) (hN : N < 1000000000) {p : Nat} (hp : p < n) : ∀ (m fu j mo w : Nat) (f6 f7 : Nat → Int32), j + m = n → m < fu → mo ≤ N →
    (ql_X9_shun n pn f1 f2 f3 f4 f5 (nI p) fu j (nI mo) (nI w) f6 f7).2.2.1 = nI (spSh (spPw st.1 st.2.1 p) p m j mo w)
  | m, 0, _, _, _, _, _, _, h, _ => absurd h (Nat.not_lt_zero _)
  | 0, fu + 1, j, mo, w, f6, f7, h, _, _ => by
    have h5 := hok.1.1
    have en := hF.1
    rw [ql_X9_shun, if_pos (nI_le (by omega) (by omega))]
    rfl
  | m + 1, fu + 1, j, mo, w, f6, f7, h, hfu, hmo => by
    have h5 := hok.1.1
    have en := hF.1
    rw [ql_X9_shun, if_neg (nI_ge (by omega) (by omega)), spSh]
    by_cases e : j = p
    · have hm : (-1 : Int32) ≤ nI mo := by
        rw [Int32.le_iff_toInt_le, nI_toInt (by omega), show (-1 : Int32).toInt = -1 by decide]
        omega
      rw [if_pos (by rw [e]), if_pos hm, if_neg (fun q => q.1 e)]
      exact shl_m hF hL hok hN hp m fu (j + 1) mo w _ _ (by omega) (by omega) hmo
    · have hl := spPw_le hok (p := p) (by omega) j
      rw [if_neg (fun q => e ((nI_eq (by omega) (by omega)).mp q)), pw_m hF hL hok hN (o := j) (by omega) hp]
      by_cases c : spPw st.1 st.2.1 p j ≤ mo
      · rw [if_pos (nI_le c (by omega)), if_neg (fun q => by omega)]
        exact shl_m hF hL hok hN hp m fu (j + 1) mo w _ _ (by omega) (by omega) hmo
      · rw [if_neg (nI_ge (by omega) (by omega)), if_pos ⟨e, by omega⟩]
        exact shl_m hF hL hok hN hp m fu (j + 1) _ j _ _ (by omega) (by omega) hl
theorem shun_m {st : spT} {tn N n pn : Nat} {a : Int32} {f1 f2 f3 f4 f5 : Nat → Int32} (hF : zFm st.1 n f1 f2 f3 f4) (hL : zPm st.2.1 pn f5) (hok : zIv st tn N) (hN : N < 1000000000) : q_X9_shun_r n pn f1 f2 f3 f4 f5 a = spShunA st a := by
  have h5 := hok.1.1
  have en := hF.1
  have ha := one_m (a := a) (n := n) (by omega)
  unfold q_X9_shun_r spShunA
  by_cases h1 : q_X9_isOne_r n a = 0
  · rw [if_pos h1, zI_n (fun q => ha.mp h1 (by rw [en]; exact q))]
  · have k1 : vp_in a n := Classical.byContradiction (fun k => h1 (ha.mpr k))
    have e1 := in_nI k1 (by omega)
    rw [if_neg h1, zI_p (by rw [← en]; exact k1), ← en]
    have hl := spPw_le hok (p := a.toNatClampNeg) (by omega) 9
    have h9 := pw_m hF hL hok hN (o := 9) (p := a.toNatClampNeg) (by decide) e1.2
    rw [← e1.1, show nI 9 = 9 from rfl] at h9
    rw [h9]
    have h := shl_m hF hL hok hN (p := a.toNatClampNeg) e1.2 n (n + 1) 0 (spPw st.1 st.2.1 a.toNatClampNeg 9) 9 (q_X9_goWithout_g6 pn f1 f2 f3 f4 f5 a 9) (q_X9_goWithout_g7 pn f1 f2 f3 f4 f5 a 9) (by omega) (by omega) hl
    rw [← e1.1] at h
    exact h
