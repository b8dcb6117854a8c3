/-! TURNS: whom each from a turn on asks (9: he passes), and what all have in the end -/
abbrev spB : Type := (Nat → Nat) × (Nat → Nat)
def spTl (P : spF) (t : Nat) (G : spF → spB) : Nat → Nat → spB → spB
  | 0, _, B => B
  | m + 1, j, B => spTl P t G m (j + 1) (if ¬ j = t ∧ spLaw P t j = true ∧ B.2 t < (G (spAsk P t j)).2 t then (spU (G (spAsk P t j)).1 t j, (G (spAsk P t j)).2) else B)
def spTn (n : Nat) : Nat → Nat → spF → spB
  | 0, _, P => (fun _ => 9, P.2.2.1)
  | r + 1, t, P => spTl P t (spTn n r (t + 1)) n 0 (spU (spTn n r (t + 1) P).1 t 9, (spTn n r (t + 1) P).2)
/-- what all have stays below what there is -/
theorem spTl_le {n N t : Nat} {P : spF} {G : spF → spB} (hG : ∀ j w, j < n → ¬ j = t → w < n → (G (spAsk P t j)).2 w ≤ N) : ∀ (m j : Nat) (B : spB), j + m = n → (∀ w, w < n → B.2 w ≤ N) → ∀ w, w < n → (spTl P t G m j B).2 w ≤ N
  | 0, _, _, _, h => h
  | m + 1, j, B, hj, h => by
    rw [spTl]
    refine spTl_le hG m (j + 1) _ (by omega) (fun w hw => ?_)
    by_cases q : ¬ j = t ∧ spLaw P t j = true ∧ B.2 t < (G (spAsk P t j)).2 t
    · rw [if_pos q]; exact hG j w (by omega) q.1 hw
    · rw [if_neg q]; exact h w hw
theorem spTn_le {n N : Nat} : ∀ (r t : Nat) (P : spF), t + r = n → P.1 = n → zFw P N → ∀ w, w < n → (spTn n r t P).2 w ≤ N
  | 0, t, P, _, hn, hw, w, h => zFw_pc hw (by omega)
  | r + 1, t, P, ht, hn, hw, w, h => by
    rw [spTn]
    refine spTl_le (fun j v hj hne hv => ?_) n 0 _ (by omega) (fun v hv => ?_) w h
    · exact spTn_le r (t + 1) (spAsk P t j) (by omega) (by rw [spAsk_n]; exact hn) (zFw_ask hw (by omega) (by omega) (fun e => hne e.symm)) v hv
    · exact spTn_le r (t + 1) P (by omega) hn hw v hv
/-! the class: rows of picks and of ends -/
def tnB (t n : Nat) (B : spB) (pf ef : Nat → Int32) : Prop := ∀ w, w < n → ef w = nI (B.2 w) ∧ (t ≤ w → pf w = nI (B.1 w))
def tnR (t : Nat) (P : spF) (pf ef : Nat → Int32) : Prop := tnB t P.1 (spTn P.1 (P.1 - t) t P) pf ef
def tnI (t : Nat) (P : spF) (j : Nat) (pf ef : Nat → Int32) : Prop := ∃ B, tnB t P.1 B pf ef ∧ (∀ w, w < P.1 → B.2 w < 2147483648) ∧ spTl P t (spTn P.1 (P.1 - (t + 1)) (t + 1)) (P.1 - j) j B = spTn P.1 (P.1 - t) t P
theorem tn_leaf {t n : Nat} {P : spF} {kn ak : Int32} {f g pf : Nat → Int32} (hF : zFr P n kn ak f g) (h : n ≤ t) : tnR t P pf g := by
  have en := hF.1
  intro w hw
  rw [show P.1 - t = 0 by omega]
  exact ⟨hF.2.2.1 w (by omega), fun q => absurd q (by omega)⟩
theorem tn_keepB {t n x : Nat} {B : spB} {pf ef : Nat → Int32} (h : tnB (t + 1) n B pf ef) : tnB t n (spU B.1 t x, B.2) (upd pf t (nI x)) ef := by
  intro w hw
  refine ⟨(h w hw).1, fun q => ?_⟩
  show upd pf t (nI x) w = nI (spU B.1 t x w)
  by_cases e : w = t
  · rw [e, pk_us, spU_s]
  · rw [pk_un e, spU_n e]
    exact (h w hw).2 (by omega)
theorem tn_first {t N : Nat} {P : spF} {pf9 ef9 : Nat → Int32} (h : tnR (t + 1) P pf9 ef9) (ht : t < P.1) (hw : zFw P N) (hN : N < 1000000000) : tnI t P 0 (upd pf9 (nI t).toNatClampNeg 9) ef9 := by
  have h5 := hw.1
  rw [nI_clamp (show t < 2 ^ 31 by omega)]
  refine ⟨(spU (spTn P.1 (P.1 - (t + 1)) (t + 1) P).1 t 9, (spTn P.1 (P.1 - (t + 1)) (t + 1) P).2), tn_keepB (x := 9) h, fun w hv => ?_, ?_⟩
  · exact Nat.lt_of_le_of_lt (spTn_le (P.1 - (t + 1)) (t + 1) P (by omega) rfl hw w hv) (by omega)
  · rw [show P.1 - t = (P.1 - (t + 1)) + 1 by omega, spTn, Nat.sub_zero]
theorem tnI_end {t j : Nat} {P : spF} {pf ef : Nat → Int32} (h : tnI t P j pf ef) (hj : P.1 ≤ j) : tnR t P pf ef := by
  obtain ⟨B, hB, -, e⟩ := h
  rw [show P.1 - j = 0 by omega, spTl] at e
  unfold tnR
  rw [← e]
  exact hB
theorem tnI_no {t j : Nat} {P : spF} {pf ef : Nat → Int32} (h : tnI t P j pf ef) (hj : j < P.1) (hno : ∀ B : spB, tnB t P.1 B pf ef → (∀ w, w < P.1 → B.2 w < 2147483648) → ¬ (¬ j = t ∧ spLaw P t j = true ∧ B.2 t < (spTn P.1 (P.1 - (t + 1)) (t + 1) (spAsk P t j)).2 t)) : tnI t P (j + 1) pf ef := by
  obtain ⟨B, hB, hb, e⟩ := h
  refine ⟨B, hB, hb, ?_⟩
  rw [show P.1 - j = (P.1 - (j + 1)) + 1 by omega, spTl, if_neg (hno B hB hb)] at e
  exact e
theorem tnI_a {t j : Nat} {P : spF} {pf ef : Nat → Int32} (h : tnI t P j pf ef) (hj : j < P.1) (h5 : P.1 ≤ 5) (ht : t < 5) (e : nI j = nI t) : tnI t P (j + 1) pf ef := tnI_no h hj (fun B _ _ q => q.1 ((nI_eq (by omega) (by omega)).mp e))
theorem tn_law {t j n N : Nat} {P : spF} {kn ak : Int32} {f g : Nat → Int32} (hF : zFr P n kn ak f g) (hw : zFw P N) (hN : N < 1000000000) (ht : t < n) (hj : j < n) (hne : ¬ j = t) : q_X0_tryAsking_r kn ak f g (nI t) (nI j) = -2 ↔ ¬ spLaw P t j = true := by
  have h := try_c hF hw hN ht hj (fun e => hne e.symm)
  rw [h.2]
  exact spAns_not hw hN (by rw [← hF.1]; exact hj)
theorem tnI_b {t j n N : Nat} {P : spF} {kn ak : Int32} {f g pf ef : Nat → Int32} (h : tnI t P j pf ef) (hF : zFr P n kn ak f g) (hw : zFw P N) (hN : N < 1000000000) (ht : t < n) (hj : j < n) (hne : ¬ nI j = nI t) (e : q_X0_tryAsking_r kn ak f g (nI t) (nI j) = -2) : tnI t P (j + 1) pf ef := by
  have en := hF.1
  exact tnI_no h (by omega) (fun B _ _ q => (tn_law hF hw hN ht hj q.1).mp e q.2.1)
theorem tn_bd {t j n N : Nat} {P : spF} (hw : zFw P N) (hN : N < 1000000000) (hn : n = P.1) (ht : t < n) (hj : j < n) (hne : ¬ j = t) {w : Nat} (h : w < n) : (spTn P.1 (P.1 - (t + 1)) (t + 1) (spAsk P t j)).2 w < 2147483648 := by
  subst hn
  exact Nat.lt_of_le_of_lt (spTn_le (P.1 - (t + 1)) (t + 1) (spAsk P t j) (by omega) (spAsk_n P t j) (zFw_ask hw ht hj (fun e => hne e.symm)) w h) (by omega)
theorem tnI_c {t j n N : Nat} {P : spF} {kn ak : Int32} {f g pf ef pf9 ef9 : Nat → Int32} (h : tnI t P j pf ef) (hF : zFr P n kn ak f g) (hw : zFw P N) (hN : N < 1000000000) (ht : t < n) (hj : j < n) (hR : tnR (t + 1) (spAsk P t j) pf9 ef9) (hle : ef9 (nI t).toNatClampNeg ≤ ef (nI t).toNatClampNeg) : tnI t P (j + 1) pf ef := by
  have en := hF.1
  have h5 := hw.1
  refine tnI_no h (by omega) (fun B hB hb q => ?_)
  have h1 := (hB t (by omega)).1
  unfold tnR at hR
  rw [spAsk_n] at hR
  have h2 := (hR t (by omega)).1
  rw [nI_clamp (show t < 2 ^ 31 by omega), h1, h2] at hle
  have h3 := (nI_leI (tn_bd hw hN en ht hj q.1 (w := t) ht) (hb t (by omega))).mp hle
  omega
theorem tnI_d {t j n N : Nat} {P : spF} {kn ak : Int32} {f g pf ef pf9 ef9 : Nat → Int32} (h : tnI t P j pf ef) (hF : zFr P n kn ak f g) (hw : zFw P N) (hN : N < 1000000000) (ht : t < n) (hj : j < n) (hne : ¬ nI j = nI t) (e : ¬ q_X0_tryAsking_r kn ak f g (nI t) (nI j) = -2) (hR : tnR (t + 1) (spAsk P t j) pf9 ef9) (hgt : ¬ ef9 (nI t).toNatClampNeg ≤ ef (nI t).toNatClampNeg) : tnI t P (j + 1) (upd pf9 (nI t).toNatClampNeg (nI j)) ef9 := by
  have en := hF.1
  have h5 := hw.1
  have hne2 : ¬ j = t := fun k => hne (by rw [k])
  obtain ⟨B, hB, hb, e1⟩ := h
  have h1 := (hB t (by omega)).1
  unfold tnR at hR
  rw [spAsk_n] at hR
  have h2 := (hR t (by omega)).1
  rw [nI_clamp (show t < 2 ^ 31 by omega), h1, h2] at hgt
  have h3 : B.2 t < (spTn P.1 (P.1 - (t + 1)) (t + 1) (spAsk P t j)).2 t := by
    rcases Nat.lt_or_ge (B.2 t) ((spTn P.1 (P.1 - (t + 1)) (t + 1) (spAsk P t j)).2 t) with k | k
    · exact k
    · exact absurd ((nI_leI (tn_bd hw hN en ht hj hne2 (w := t) ht) (hb t (by omega))).mpr k) hgt
  have hl : spLaw P t j = true := Classical.byContradiction (fun k => e ((tn_law hF hw hN ht hj hne2).mpr k))
  rw [nI_clamp (show t < 2 ^ 31 by omega)]
  refine ⟨(spU (spTn P.1 (P.1 - (t + 1)) (t + 1) (spAsk P t j)).1 t j, (spTn P.1 (P.1 - (t + 1)) (t + 1) (spAsk P t j)).2), tn_keepB hR, fun w hv => tn_bd hw hN en ht hj hne2 (by omega), ?_⟩
  rw [show P.1 - j = (P.1 - (j + 1)) + 1 by omega, spTl, if_pos ⟨hne2, hl, h3⟩] at e1
  exact e1
/-! the calls -/
noncomputable def spTurnsA (P : spF) (a : Int32) : Int32 := zI (vp_in a P.1) (nI ((spTn P.1 P.1 0 P).1 a.toNatClampNeg)) (-1)
noncomputable def spEndsA (P : spF) (a : Int32) : Int32 := zI (vp_in a P.1) (nI ((spTn P.1 P.1 0 P).2 a.toNatClampNeg)) (-1)
theorem turnsA_c {P : spF} {a : Int32} {pf ef : Nat → Int32} (h : tnR 0 P pf ef) (h5 : P.1 ≤ 5) (hi : vp_in a P.1) : pf a.toNatClampNeg = spTurnsA P a := by
  unfold spTurnsA
  rw [zI_p hi]
  exact (h _ (in_nI hi (by omega)).2).2 (Nat.zero_le _)
theorem endsA_c {P : spF} {a : Int32} {pf ef : Nat → Int32} (h : tnR 0 P pf ef) (h5 : P.1 ≤ 5) (hi : vp_in a P.1) : ef a.toNatClampNeg = spEndsA P a := by
  unfold spEndsA
  rw [zI_p hi]
  exact (h _ (in_nI hi (by omega)).2).1
theorem has_y {a : Int32} {n : Nat} (hn : n ≤ 5) (h : ¬ (if a < 0 then (0 : Int32) else (if nI n ≤ a then (0 : Int32) else (1 : Int32))) = 0) : vp_in a n := Classical.byContradiction (fun q => h ((has_c hn).mpr q))
