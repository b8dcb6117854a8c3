/-! longs -/
theorem xL_div2 {a : Nat} (h : a < 2 ^ 63) : lN a / 2 = lN (a / 2) := by
  apply Int64.toInt_inj.mp
  rw [lg_ldiv_nonneg (by rw [pk_lT h]; omega) (by decide), pk_lT h, pk_lT (by omega), show (2 : Int64).toInt = 2 by decide]
  omega
theorem xL_odd {a : Nat} (h : a < 2 ^ 63) : lN a - lN a / 2 * 2 = 0 ↔ a % 2 = 0 := by
  rw [xL_div2 h, show (2 : Int64) = lN 2 from rfl, lN_mul, lN_sub (by omega), show a - a / 2 * 2 = a % 2 by omega]
  constructor
  · intro q
    have q2 := congrArg Int64.toInt q
    rw [pk_lT (by omega), show (0 : Int64).toInt = 0 by decide] at q2
    omega
  · intro q
    rw [q]; rfl
theorem xL_le1 {a : Nat} (h : a < 2 ^ 63) : lN a ≤ 1 ↔ a ≤ 1 := by
  rw [Int64.le_iff_toInt_le, pk_lT h, show (1 : Int64).toInt = 1 by decide]
  omega
theorem xL_c24 : ((24 : Int32).toInt64 &&& 63) = lN 24 := by decide +kernel
theorem xL_s24 : (BitVec.ofNat 64 24).smod 64 = BitVec.ofNat 64 24 := by decide +kernel
theorem xL_shl (n : Nat) : lN n <<< ((24 : Int32).toInt64 &&& 63) = lN (n * 2 ^ 24) := by
  rw [xL_c24]
  apply Int64.toBitVec_inj.mp
  rw [Int64.toBitVec_shiftLeft]
  show BitVec.ofNat 64 n <<< (BitVec.ofNat 64 24).smod 64 = BitVec.ofNat 64 (n * 2 ^ 24)
  rw [xL_s24]
  apply BitVec.eq_of_toNat_eq
  rw [BitVec.shiftLeft_eq', BitVec.toNat_shiftLeft, BitVec.toNat_ofNat, BitVec.toNat_ofNat, BitVec.toNat_ofNat, Nat.mod_eq_of_lt (show 24 < 2 ^ 64 by decide), Nat.shiftLeft_eq, Nat.mul_mod, Nat.mod_mod, ← Nat.mul_mod]
theorem xp_s {c : Nat} (h : c + 1 ≤ 24) : 2 ^ (24 - c) = 2 * 2 ^ (24 - (c + 1)) := by
  rw [show 24 - c = (24 - (c + 1)) + 1 by omega, Nat.pow_succ, Nat.mul_comm]
theorem xp_bd {p N c : Nat} (hp : p ≤ N * 2 ^ c) (hc : c ≤ 24) (hN : N < 1000000000) : p * 2 ^ (24 - c) < 2 ^ 62 := by
  have h1 : p * 2 ^ (24 - c) ≤ N * 2 ^ c * 2 ^ (24 - c) := Nat.mul_le_mul_right _ hp
  rw [Nat.mul_assoc, ← Nat.pow_add, show c + (24 - c) = 24 by omega] at h1
  have h2 : N * 2 ^ 24 < 2 ^ 62 := by omega
  omega
/-! EXACT: how many halvings, and what each one has in parts of that many halvings -/
abbrev spXS : Type := Nat × (Nat → Nat)
def spXs (p : Nat → Nat) (a b : Nat) : Nat → Nat := spU (spU (fun w => 2 * p w) b (p b)) a (2 * p a + p b)
def spX1 (K : Nat → Nat → Bool) (L : spL) : Nat → Nat → spXS → spXS
  | 0, _, s => s
  | m + 1, j, s => spX1 K L m (j + 1) (if K (L.2.1 j) (L.2.2.1 j) = true then (s.1 + 1, spXs s.2 (L.2.1 j) (L.2.2.1 j)) else s)
def spXT (K : Nat → Nat → Bool) (L : spL) : Nat → spXS → spXS
  | 0, s => s
  | t + 1, s => spXT K L t (spX1 K L L.1 0 s)
theorem fb_sm_2 (p : Nat → Nat) : ∀ n, fb_sm (fun w => 2 * p w) n = 2 * fb_sm p n
  | 0 => rfl
  | n + 1 => by
    rw [fb_sm_succ, fb_sm_succ, fb_sm_2 p n]
    omega
theorem spXs_sm {p : Nat → Nat} {a b n : Nat} (ha : a < n) (hb : b < n) (hab : ¬ a = b) : fb_sm (spXs p a b) n = 2 * fb_sm p n := by
  have h1 := spU_sm (f := spU (fun w => 2 * p w) b (p b)) (v := 2 * p a + p b) ha
  have h2 := spU_sm (f := fun w => 2 * p w) (v := p b) hb
  have h3 := fb_sm_2 p n
  rw [spU_n hab] at h1
  unfold spXs
  omega
def xXi (n N : Nat) (s : spXS) : Prop := fb_sm s.2 n ≤ N * 2 ^ s.1
theorem xXi_s {n N a b : Nat} {s : spXS} (h : xXi n N s) (ha : a < n) (hb : b < n) (hab : ¬ a = b) : xXi n N (s.1 + 1, spXs s.2 a b) := by
  show fb_sm (spXs s.2 a b) n ≤ N * 2 ^ (s.1 + 1)
  rw [spXs_sm ha hb hab, Nat.pow_succ, ← Nat.mul_assoc]
  unfold xXi at h
  omega
theorem spX1_w {K : Nat → Nat → Bool} {L : spL} {n N : Nat} (hL : zLw L n) : ∀ (m j : Nat) (s : spXS), j + m = L.1 → xXi n N s → xXi n N (spX1 K L m j s) ∧ (spX1 K L m j s).1 ≤ s.1 + m
  | 0, j, s, _, h => ⟨h, Nat.le_refl _⟩
  | m + 1, j, s, hj, h => by
    have h1 := hL.2 j (by omega)
    rw [spX1]
    by_cases hk : K (L.2.1 j) (L.2.2.1 j) = true
    · rw [if_pos hk]
      have h2 := spX1_w (K := K) hL m (j + 1) (s.1 + 1, spXs s.2 (L.2.1 j) (L.2.2.1 j)) (by omega) (xXi_s h h1.1 h1.2.1 h1.2.2)
      exact ⟨h2.1, Nat.le_trans h2.2 (by show s.1 + 1 + m ≤ _; omega)⟩
    · rw [if_neg hk]
      have h2 := spX1_w (K := K) hL m (j + 1) s (by omega) h
      exact ⟨h2.1, Nat.le_trans h2.2 (by omega)⟩
theorem spXT_w {K : Nat → Nat → Bool} {L : spL} {n N : Nat} (hL : zLw L n) : ∀ (t : Nat) (s : spXS), xXi n N s → xXi n N (spXT K L t s) ∧ (spXT K L t s).1 ≤ s.1 + t * L.1
  | 0, s, h => ⟨h, by show s.1 ≤ _; omega⟩
  | t + 1, s, h => by
    have h1 := spX1_w (K := K) hL L.1 0 s (by omega) h
    have h2 := spXT_w (K := K) hL t _ h1.1
    rw [spXT]
    refine ⟨h2.1, Nat.le_trans h2.2 ?_⟩
    rw [Nat.succ_mul]
    omega
/-! the class -/
def xCr (n : Nat) (s : spXS) (sh : Nat → Int64) : Prop := ∀ w, w < n → sh w = lN (s.2 w * 2 ^ (24 - s.1))
theorem xCr_s {n N a b : Nat} {s : spXS} {sh : Nat → Int64} (h : xCr n s sh) (hi : xXi n N s) (hN : N < 1000000000) (hc : s.1 + 1 ≤ 24) (ha : a < n) (hb : b < n) (hab : ¬ a = b) : xCr n (s.1 + 1, spXs s.2 a b) (vp_updL (vp_updL sh b (sh b / 2)) a ((vp_updL sh b (sh b / 2)) a + (vp_updL sh b (sh b / 2)) b)) := by
  have hp : s.2 b ≤ N * 2 ^ s.1 := Nat.le_trans (fb_sm_part _ hb) hi
  have e1 := xp_s hc
  have e2 : sh b / 2 = lN (s.2 b * 2 ^ (24 - (s.1 + 1))) := by
    rw [h b hb, xL_div2 (Nat.lt_trans (xp_bd hp (by omega) hN) (by decide)), e1, Nat.mul_left_comm, Nat.mul_div_cancel_left _ (by decide)]
  intro w hw
  show _ = lN (spXs s.2 a b w * 2 ^ (24 - (s.1 + 1)))
  unfold spXs
  by_cases ea : w = a
  · subst ea
    rw [pk_uLs, spU_s, pk_uLn hab, pk_uLs, e2, h w hw, lN_add, e1, Nat.add_mul, Nat.mul_left_comm, Nat.mul_assoc]
  · rw [pk_uLn ea, spU_n ea]
    by_cases eb : w = b
    · subst eb
      rw [pk_uLs, spU_s, e2]
    · rw [pk_uLn eb, spU_n eb, h w hw, e1, Nat.mul_left_comm, Nat.mul_assoc]
theorem sh2_c {P : spF} {L : spL} {n pn N : Nat} {kn ak pe : Int32} {ff fg pf pg : Nat → Int32} (hF : zFr P n kn ak ff fg) (hL : zPr L pn pe pf pg) (hLw : zLw L n) (h5 : n ≤ 5) (hN : N < 1000000000) : ∀ (m fu j : Nat) (sh : Nat → Int64) (s : spXS), j + m = pn → m < fu → s.1 + m ≤ 24 → xXi n N s → xCr n s sh → xCr n (spX1 P.2.2.2.1 L m j s) (ql_X8_share2 kn pn pf pg fu j sh).2
  | m, 0, j, sh, s, _, hfu, _, _, _ => absurd hfu (Nat.not_lt_zero _)
  | 0, fu + 1, j, sh, s, h, hfu, hc, hi, hr => by
    have h8 := hLw.1
    have e8 := hL.1
    rw [ql_X8_share2, if_pos (nI_le (by omega) (by omega))]
    exact hr
  | m + 1, fu + 1, j, sh, s, h, hfu, hc, hi, hr => by
    have h8 := hLw.1
    have e8 := hL.1
    have h1 := hLw.2 j (by omega)
    have h2 := hL.2.1 j (by omega)
    have hk := zFr_kn hF (a := L.2.1 j) (b := L.2.2.1 j) (by omega) (by omega)
    rw [ql_X8_share2, if_neg (nI_ge (by omega) (by omega)), nI_clamp (show j < 2 ^ 31 by omega), h2.1, h2.2, nI_clamp (show L.2.1 j < 2 ^ 31 by omega), nI_clamp (show L.2.2.1 j < 2 ^ 31 by omega), spX1]
    by_cases q : P.2.2.2.1 (L.2.1 j) (L.2.2.1 j) = true
    · have hk0 : ¬ (kn &&& q_X0_pair_r (nI (L.2.1 j)) (nI (L.2.2.1 j))) = 0 := fun z => by rw [hk.mp z] at q; exact absurd q (by decide)
      rw [if_neg hk0, if_pos q]
      exact sh2_c hF hL hLw h5 hN m fu (j + 1) _ _ (by omega) (by omega) (by show s.1 + 1 + m ≤ 24; omega) (xXi_s hi h1.1 h1.2.1 h1.2.2) (xCr_s hr hi hN (by omega) h1.1 h1.2.1 h1.2.2)
    · rw [if_pos (hk.mpr (Bool.eq_false_iff.mpr q)), if_neg q]
      exact sh2_c hF hL hLw h5 hN m fu (j + 1) sh s (by omega) (by omega) (by omega) hi hr
theorem sh3_c {P : spF} {L : spL} {n pn N t : Nat} {kn ak pe : Int32} {ff fg pf pg : Nat → Int32} (hF : zFr P n kn ak ff fg) (hL : zPr L pn pe pf pg) (hLw : zLw L n) (h5 : n ≤ 5) (hN : N < 1000000000) (ht : t ≤ 3) : ∀ (m fu z : Nat) (sh : Nat → Int64) (s : spXS), z + m = t → m < fu → s.1 + m * pn ≤ 24 → xXi n N s → xCr n s sh → xCr n (spXT P.2.2.2.1 L m s) (ql_X8_share3 kn pn pf pg t fu z sh).2
  | m, 0, z, sh, s, _, hfu, _, _, _ => absurd hfu (Nat.not_lt_zero _)
  | 0, fu + 1, z, sh, s, h, hfu, hc, hi, hr => by
    rw [ql_X8_share3, if_pos (nI_le (by omega) (by omega))]
    exact hr
  | m + 1, fu + 1, z, sh, s, h, hfu, hc, hi, hr => by
    have e8 := hL.1
    rw [Nat.succ_mul] at hc
    have hw := spX1_w (K := P.2.2.2.1) hLw L.1 0 s (by omega) hi
    rw [ql_X8_share3, if_neg (nI_ge (by omega) (by omega)), spXT]
    have h2 := sh2_c hF hL hLw h5 hN pn (pn + 1) 0 sh s (by omega) (by omega) (by omega) hi hr
    rw [e8] at h2 hc
    rw [e8]
    refine sh3_c (pn := L.1) hF ⟨rfl, by rw [← e8]; exact hL.2.1, by rw [← e8]; exact hL.2.2⟩ hLw h5 hN ht m fu (z + 1) _ _ (by omega) (by omega) (by omega) hw.1 h2
theorem sh1_c {n : Nat} {fg : Nat → Int32} {r : Nat → Nat} (h5 : n ≤ 5) (hr : ∀ j, j < n → fg j = nI (r j) ∧ r j < 2 ^ 31) : ∀ (m fu j : Nat) (sh : Nat → Int64), j + m = n → m < fu → (∀ w, w < j → sh w = lN (r w * 2 ^ 24)) → ∀ w, w < n → (ql_X8_share1 n fg fu j sh).2 w = lN (r w * 2 ^ 24)
  | m, 0, j, sh, _, hfu, _ => absurd hfu (Nat.not_lt_zero _)
  | 0, fu + 1, j, sh, h, hfu, hs => by
    rw [ql_X8_share1, if_pos (nI_le (by omega) (by omega))]
    intro w hw
    exact hs w (by omega)
  | m + 1, fu + 1, j, sh, h, hfu, hs => by
    have h1 := hr j (by omega)
    rw [ql_X8_share1, if_neg (nI_ge (by omega) (by omega)), nI_clamp (show j < 2 ^ 31 by omega), h1.1, nI_l h1.2, xL_shl]
    refine sh1_c h5 hr m fu (j + 1) _ (by omega) (by omega) (fun w hw => ?_)
    by_cases e : w = j
    · subst e; rw [pk_uLs]
    · rw [pk_uLn e]; exact hs w (by omega)
/-! the reference -/
def xMr (n : Nat) (s : spXS) (y : Int64) (f : Nat → Int64) : Prop := y = lN (2 ^ s.1) ∧ ∀ w, w < n → f w = lN (s.2 w)
theorem ex1_m {n : Nat} {f2 : Nat → Int32} {r : Nat → Nat} (h5 : n ≤ 5) (hr : ∀ j, j < n → f2 j = nI (r j) ∧ r j < 2 ^ 31) : ∀ (m fu j : Nat) (f : Nat → Int64), j + m = n → m < fu → (∀ w, w < j → f w = lN (r w)) → ∀ w, w < n → (ql_X9_exact1 n f2 fu j f).2 w = lN (r w)
  | m, 0, j, f, _, hfu, _ => absurd hfu (Nat.not_lt_zero _)
  | 0, fu + 1, j, f, h, hfu, hs => by
    rw [ql_X9_exact1, if_pos (nI_le (by omega) (by omega))]
    intro w hw
    exact hs w (by omega)
  | m + 1, fu + 1, j, f, h, hfu, hs => by
    have h1 := hr j (by omega)
    rw [ql_X9_exact1, if_neg (nI_ge (by omega) (by omega)), nI_clamp (show j < 2 ^ 31 by omega), h1.1, nI_l h1.2]
    refine ex1_m h5 hr m fu (j + 1) _ (by omega) (by omega) (fun w hw => ?_)
    by_cases e : w = j
    · subst e; rw [pk_uLs]
    · rw [pk_uLn e]; exact hs w (by omega)
theorem ex2_m {n : Nat} {r : Nat → Nat} (h5 : n ≤ 5) : ∀ (m fu j : Nat) (f : Nat → Int64), j + m = n → m < fu → (∀ w, w < n → f w = if w < j then lN (2 * r w) else lN (r w)) → ∀ w, w < n → (ql_X9_exact2 n fu j f).2 w = lN (2 * r w)
  | m, 0, j, f, _, hfu, _ => absurd hfu (Nat.not_lt_zero _)
  | 0, fu + 1, j, f, h, hfu, hs => by
    rw [ql_X9_exact2, if_pos (nI_le (by omega) (by omega))]
    intro w hw
    have h1 := hs w hw
    rw [if_pos (by omega)] at h1
    exact h1
  | m + 1, fu + 1, j, f, h, hfu, hs => by
    have h1 := hs j (by omega)
    rw [if_neg (by omega)] at h1
    rw [ql_X9_exact2, if_neg (nI_ge (by omega) (by omega)), nI_clamp (show j < 2 ^ 31 by omega), h1, show (2 : Int64) = lN 2 from rfl, lN_mul]
    refine ex2_m h5 m fu (j + 1) _ (by omega) (by omega) (fun w hw => ?_)
    by_cases e : w = j
    · subst e
      rw [pk_uLs, if_pos (by omega), Nat.mul_comm]
    · rw [pk_uLn e, hs w hw]
      by_cases q : w < j
      · rw [if_pos q, if_pos (by omega)]
      · rw [if_neg q, if_neg (by omega)]
theorem xMr_s {n N a b : Nat} {s : spXS} {y : Int64} {f : Nat → Int64} (h : xMr n s y f) (hi : xXi n N s) (hN : N < 1000000000) (hc : s.1 ≤ 24) (h5 : n ≤ 5) (ha : a < n) (hb : b < n) (hab : ¬ a = b) : xMr n (s.1 + 1, spXs s.2 a b) (y * 2) (vp_updL (vp_updL ((ql_X9_exact2 n (n + 1) 0 f).2) b (((ql_X9_exact2 n (n + 1) 0 f).2) b - (((ql_X9_exact2 n (n + 1) 0 f).2) b / 2))) a ((vp_updL ((ql_X9_exact2 n (n + 1) 0 f).2) b (((ql_X9_exact2 n (n + 1) 0 f).2) b - (((ql_X9_exact2 n (n + 1) 0 f).2) b / 2))) a + (((ql_X9_exact2 n (n + 1) 0 f).2) b / 2))) := by
  have h2 := ex2_m (r := s.2) h5 n (n + 1) 0 f (by omega) (by omega) (fun w hw => by rw [if_neg (Nat.not_lt_zero _)]; exact h.2 w hw)
  generalize (ql_X9_exact2 n (n + 1) 0 f).2 = D at h2 ⊢
  have hp : s.2 b ≤ N * 2 ^ s.1 := Nat.le_trans (fb_sm_part _ hb) hi
  have hb2 : s.2 b < 2 ^ 62 := by
    have h3 := xp_bd hp hc hN
    have h4 : s.2 b * 1 ≤ s.2 b * 2 ^ (24 - s.1) := Nat.mul_le_mul_left _ Nat.one_le_two_pow
    omega
  have e2 : D b / 2 = lN (s.2 b) := by
    rw [h2 b hb, xL_div2 (by omega), Nat.mul_div_cancel_left _ (by decide)]
  have e3 : D b - D b / 2 = lN (s.2 b) := by
    rw [e2, h2 b hb, lN_sub (by omega)]
    congr 1
    omega
  refine ⟨?_, fun w hw => ?_⟩
  · show y * 2 = lN (2 ^ (s.1 + 1))
    rw [h.1, show (2 : Int64) = lN 2 from rfl, lN_mul, Nat.pow_succ]
  · show _ = lN (spXs s.2 a b w)
    unfold spXs
    rw [e3, e2]
    by_cases ea : w = a
    · subst ea
      rw [pk_uLs, spU_s, pk_uLn hab, h2 w hw, lN_add]
    · rw [pk_uLn ea, spU_n ea]
      by_cases eb : w = b
      · subst eb
        rw [pk_uLs, spU_s]
      · rw [pk_uLn eb, spU_n eb, h2 w hw]
theorem ex3_p {P : spF} {L : spL} {n pn N t z : Nat} {f1 f2 f3 f4 f5 : Nat → Int32} (hF : zFm P n f1 f2 f3 f4) (hL : zPm L pn f5) (hLw : zLw L n) (h5 : n ≤ 5) (hN : N < 1000000000) (hz : z * pn + pn ≤ t * pn) (ht : t * pn ≤ 24) : ∀ (m fu j : Nat) (y : Int64) (f : Nat → Int64) (s : spXS), j + m = pn → s.1 ≤ z * pn + j → xXi n N s → xMr n s y f → ∃ y1 g1, ql_X9_exact3 n pn f3 f5 t (fu + m) (z * pn + j) y f = ql_X9_exact3 n pn f3 f5 t fu (z * pn + pn) y1 g1 ∧ xMr n (spX1 P.2.2.2.1 L m j s) y1 g1
  | 0, fu, j, y, f, s, h, hc, hi, hr => ⟨y, f, by rw [show j = pn by omega]; rfl, hr⟩
  | m + 1, fu, j, y, f, s, h, hc, hi, hr => by
    have h8 := hLw.1
    have e8 := hL.1
    have h1 := hLw.2 j (by omega)
    have h2 := hL.2 j (by omega)
    have ek : (z * pn + j) % pn = j := by rw [Nat.mul_comm z pn, Nat.mul_add_mod, Nat.mod_eq_of_lt (by omega)]
    have hk : (if (((f3 (L.2.1 j)) >>> (nI (L.2.2.1 j) &&& 31)) &&& 1) = 1 then (1 : Int32) else (0 : Int32)) = 0 ↔ P.2.2.2.1 (L.2.1 j) (L.2.2.1 j) = false := by
      rw [has_m (by omega), (hF.2 (L.2.1 j) h1.1).2.2.1 _ (by omega), decide_eq_true h1.2.1, Bool.true_and]
    rw [show fu + (m + 1) = (fu + m) + 1 by omega, ql_X9_exact3, if_neg (nI_ge (by omega) (by omega)), ek, nI_clamp (show 3 * j < 2 ^ 31 by omega), nI_clamp (show 3 * j + 1 < 2 ^ 31 by omega), h2.1, h2.2.1, nI_clamp (show L.2.1 j < 2 ^ 31 by omega), nI_clamp (show L.2.2.1 j < 2 ^ 31 by omega), spX1]
    by_cases q : P.2.2.2.1 (L.2.1 j) (L.2.2.1 j) = true
    · have hk0 : ¬ (if (((f3 (L.2.1 j)) >>> (nI (L.2.2.1 j) &&& 31)) &&& 1) = 1 then (1 : Int32) else (0 : Int32)) = 0 := fun z => by rw [hk.mp z] at q; exact absurd q (by decide)
      rw [if_neg hk0, if_pos q]
      exact ex3_p hF hL hLw h5 hN hz ht m fu (j + 1) _ _ _ (by omega) (by show s.1 + 1 ≤ _; omega) (xXi_s hi h1.1 h1.2.1 h1.2.2) (xMr_s hr hi hN (by omega) h5 h1.1 h1.2.1 h1.2.2)
    · rw [if_pos (hk.mpr (Bool.eq_false_iff.mpr q)), if_neg q]
      exact ex3_p hF hL hLw h5 hN hz ht m fu (j + 1) y f s (by omega) (by omega) hi hr
theorem ex3_m {P : spF} {L : spL} {n pn N t : Nat} {f1 f2 f3 f4 f5 : Nat → Int32} (hF : zFm P n f1 f2 f3 f4) (hL : zPm L pn f5) (hLw : zLw L n) (h5 : n ≤ 5) (hN : N < 1000000000) (ht : t * pn ≤ 24) : ∀ (r z : Nat) (y : Int64) (f : Nat → Int64) (s : spXS), z + r = t → s.1 ≤ z * pn → xXi n N s → xMr n s y f → xMr n (spXT P.2.2.2.1 L r s) (ql_X9_exact3 n pn f3 f5 t (1 + r * pn) (z * pn) y f).2.1 (ql_X9_exact3 n pn f3 f5 t (1 + r * pn) (z * pn) y f).2.2
  | 0, z, y, f, s, h, hc, hi, hr => by
    have ez : z = t := by omega
    subst ez
    rw [show 1 + 0 * pn = 0 + 1 by omega, ql_X9_exact3, if_pos (nI_le (by omega) (by omega))]
    exact hr
  | r + 1, z, y, f, s, h, hc, hi, hr => by
    have e8 := hL.1
    have hz : z * pn + pn ≤ t * pn := by
      have h1 : (z + 1) * pn ≤ t * pn := Nat.mul_le_mul_right _ (by omega)
      rw [Nat.succ_mul] at h1
      exact h1
    have hw := spX1_w (K := P.2.2.2.1) hLw L.1 0 s (by omega) hi
    obtain ⟨y1, g1, e1, h1⟩ := ex3_p hF hL hLw h5 hN hz ht pn (1 + r * pn) 0 y f s (by omega) (by omega) hi hr
    rw [show 1 + (r + 1) * pn = 1 + r * pn + pn by rw [Nat.succ_mul]; omega, show z * pn = z * pn + 0 from rfl, e1, spXT, show z * pn + pn = (z + 1) * pn by rw [Nat.succ_mul]]
    rw [e8] at h1
    have h2 : (spX1 P.2.2.2.1 L L.1 0 s).1 ≤ (z + 1) * pn := by
      rw [Nat.succ_mul]
      omega
    exact ex3_m hF hL hLw h5 hN ht r (z + 1) y1 g1 _ (by omega) h2 hw.1 h1
/-! lowest terms -/
theorem red_same : ∀ (c fu fv j x : Nat), c + j = 24 → c < fu → c < fv → x < 2 ^ 62 → (ql_X8_exact fu j (lN x) (lN (2 ^ c))).2 = ql_X9_exact4 fv (lN x) (lN (2 ^ c))
  | c, 0, fv, j, x, _, hfu, _, _ => absurd hfu (Nat.not_lt_zero _)
  | c, fu + 1, 0, j, x, _, _, hfv, _ => absurd hfv (Nat.not_lt_zero _)
  | 0, fu + 1, fv + 1, j, x, h, _, _, hx => by
    have ej : j = 24 := by omega
    subst ej
    rw [ql_X8_exact, ql_X9_exact4, if_pos (show (24 : Int32) ≤ nI 24 by decide), if_pos ((xL_le1 (by decide)).mpr (Nat.le_refl _))]
  | c + 1, fu + 1, fv + 1, j, x, h, hfu, hfv, hx => by
    have hc : 2 ^ (c + 1) ≤ 2 ^ 24 := Nat.pow_le_pow_right (by decide) (by omega)
    have hc2 : 2 ≤ 2 ^ (c + 1) := by
      have h1 : 2 ^ 1 ≤ 2 ^ (c + 1) := Nat.pow_le_pow_right (by decide) (by omega)
      omega
    have e1 : lN (2 ^ (c + 1)) / 2 = lN (2 ^ c) := by
      rw [xL_div2 (by omega), Nat.pow_succ, Nat.mul_div_cancel _ (by decide)]
    have ho := xL_odd (a := x) (by omega)
    rw [ql_X8_exact, ql_X9_exact4, if_neg (show ¬ (24 : Int32) ≤ nI j from nI_ge (a := j) (b := 24) (by omega) (by decide)), if_neg (show ¬ lN (2 ^ (c + 1)) ≤ 1 from fun q => by have h9 := (xL_le1 (show 2 ^ (c + 1) < 2 ^ 63 by omega)).mp q; omega)]
    by_cases q : x % 2 = 0
    · rw [if_pos (ho.mpr q), if_pos (ho.mpr q), xL_div2 (by omega), e1]
      exact red_same c fu fv (j + 1) (x / 2) (by omega) (by omega) (by omega) (by omega)
    · rw [if_neg (fun z => q (ho.mp z)), if_neg (fun z => q (ho.mp z))]
theorem red_lead (p : Nat) : ∀ (e fu j c : Nat), j + e + c = 24 → p * 2 ^ e < 2 ^ 62 → ql_X8_exact (fu + e) j (lN (p * 2 ^ e)) (lN (2 ^ (c + e))) = ql_X8_exact fu (j + e) (lN p) (lN (2 ^ c))
  | 0, fu, j, c, _, _ => by rw [Nat.pow_zero, Nat.mul_one]; rfl
  | e + 1, fu, j, c, h, hp => by
    have hc : 2 ^ (c + (e + 1)) ≤ 2 ^ 24 := Nat.pow_le_pow_right (by decide) (by omega)
    have e1 : lN (2 ^ (c + (e + 1))) / 2 = lN (2 ^ (c + e)) := by
      rw [xL_div2 (by omega), ← Nat.add_assoc, Nat.pow_succ, Nat.mul_div_cancel _ (by decide)]
    have e2 : p * 2 ^ (e + 1) = 2 * (p * 2 ^ e) := by rw [Nat.pow_succ, ← Nat.mul_assoc, Nat.mul_comm]
    have ho := xL_odd (a := p * 2 ^ (e + 1)) (by omega)
    rw [show fu + (e + 1) = (fu + e) + 1 by omega, ql_X8_exact, if_neg (show ¬ (24 : Int32) ≤ nI j from nI_ge (a := j) (b := 24) (by omega) (by decide)), if_pos (ho.mpr (by omega)), xL_div2 (by omega), e1, show p * 2 ^ (e + 1) / 2 = p * 2 ^ e by omega, show j + (e + 1) = (j + 1) + e by omega]
    exact red_lead p e fu (j + 1) c (by omega) (by omega)
theorem red_c {p c fv : Nat} (hc : c ≤ 24) (hv : c < fv) (hp : p * 2 ^ (24 - c) < 2 ^ 62) : (ql_X8_exact 25 0 (lN (p * 2 ^ (24 - c))) (1 <<< ((24 : Int32).toInt64 &&& 63))).2 = ql_X9_exact4 fv (lN p) (lN (2 ^ c)) := by
  have h1 := red_lead p (24 - c) (c + 1) 0 c (by omega) hp
  rw [show c + 1 + (24 - c) = 25 by omega, show c + (24 - c) = 24 by omega, show 0 + (24 - c) = 24 - c by omega] at h1
  have hp2 : p < 2 ^ 62 := by
    have h4 : p * 1 ≤ p * 2 ^ (24 - c) := Nat.mul_le_mul_left _ Nat.one_le_two_pow
    omega
  rw [show (1 : Int64) <<< ((24 : Int32).toInt64 &&& 63) = lN (2 ^ 24) from (xL_shl 1).trans (by rw [Nat.one_mul]), h1]
  exact red_same c (c + 1) fv (24 - c) p (by omega) (by omega) hv hp2
/-! the calls -/
def spExS (st : spT) (t : Nat) : spXS := spXT st.1.2.2.2.1 st.2.1 t (0, st.1.2.2.1)
abbrev spEx3 (b : Int32) : Prop := 1 ≤ b.toInt ∧ b.toInt ≤ 3
noncomputable def spExactA (st : spT) (a b d : Int32) : Int64 := zI (vp_in a st.1.1 ∧ spEx3 b ∧ vp_in d 2) (zI (d = 0) (ql_X9_exact4 (2 ^ (spExS st b.toNatClampNeg).1 + 1) (lN ((spExS st b.toNatClampNeg).2 a.toNatClampNeg)) (lN (2 ^ (spExS st b.toNatClampNeg).1))).1 (ql_X9_exact4 (2 ^ (spExS st b.toNatClampNeg).1 + 1) (lN ((spExS st b.toNatClampNeg).2 a.toNatClampNeg)) (lN (2 ^ (spExS st b.toNatClampNeg).1))).2) (-1)
theorem ex3_t {b : Int32} (h : spEx3 b) : 1 ≤ b.toNatClampNeg ∧ b.toNatClampNeg ≤ 3 := by
  have e : b.toNatClampNeg = b.toInt.toNat := rfl
  rw [e]
  have h1 := h.1
  have h2 := h.2
  omega
theorem spExS_w {st : spT} {tn N t : Nat} (hok : zIv st tn N) (ht : t ≤ 3) : xXi st.1.1 N (spExS st t) ∧ (spExS st t).1 ≤ 24 := by
  have h0 : xXi st.1.1 N (0, st.1.2.2.1) := by
    show fb_sm st.1.2.2.1 st.1.1 ≤ N * 2 ^ 0
    have h1 := hok.1.2.2.1
    omega
  have h := spXT_w (K := st.1.2.2.2.1) hok.2.1 t (0, st.1.2.2.1) h0
  have h8 := hok.2.1.1
  have h3 : t * st.2.1.1 ≤ 3 * 8 := Nat.mul_le_mul ht h8
  refine ⟨h.1, Nat.le_trans h.2 ?_⟩
  show 0 + t * st.2.1.1 ≤ 24
  omega
theorem exact_c {st : spT} {tn N n pn : Nat} {kn ak pe a b d : Int32} {ff fg pf pg : Nat → Int32} {sh : Nat → Int64} (hF : zFr st.1 n kn ak ff fg) (hL : zPr st.2.1 pn pe pf pg) (hok : zIv st tn N) (hN : N < 1000000000) : q_X8_exact_r n kn fg pn pf pg sh a b d = spExactA st a b d := by
  have en := hF.1
  have e8 := hL.1
  have h5 := hok.1.1
  have h8 := hok.2.1.1
  have ha := has_c (a := a) (n := n) (by omega)
  have i0 : (0 : Int32).toInt = 0 := by decide
  have i1 : (1 : Int32).toInt = 1 := by decide
  have i3 : (3 : Int32).toInt = 3 := by decide
  unfold q_X8_exact_r spExactA
  by_cases h1 : vp_in a n
  · rw [if_neg (fun q => ha.mp q h1)]
    by_cases h2 : spEx3 b
    · rw [if_neg (fun q => by rw [Int32.lt_iff_toInt_lt] at q; have := h2.1; omega), if_neg (fun q => by rw [Int32.lt_iff_toInt_lt] at q; have := h2.2; omega)]
      by_cases h3 : vp_in d 2
      · have h4 := vp_in_iff.mp h3
        have ht := ex3_t h2
        have hw := spExS_w (t := b.toNatClampNeg) hok ht.2
        have hin := in_nI h1 (by omega)
        have hs1 := sh1_c (n := n) (fg := fg) (r := st.1.2.2.1) (by omega) (fun j hj => ⟨hF.2.2.1 j hj, by have := zFw_pc hok.1 (j := j) (by omega); omega⟩) n (n + 1) 0 sh (by omega) (by omega) (fun w hw => absurd hw (Nat.not_lt_zero _))
        have h0 : xXi n N (0, st.1.2.2.1) := by
          show fb_sm st.1.2.2.1 n ≤ N * 2 ^ 0
          have h1 := hok.1.2.2.1
          rw [en]
          omega
        have h24 : b.toNatClampNeg * pn ≤ 3 * 8 := Nat.mul_le_mul ht.2 (by omega)
        have hs3 := sh3_c hF hL (by rw [en]; exact hok.2.1) (by omega) hN ht.2 b.toNatClampNeg (b.toNatClampNeg + 1) 0 _ (0, st.1.2.2.1) (by omega) (by omega) (by show 0 + _ ≤ 24; omega) h0 hs1
        have hv := hs3 a.toNatClampNeg hin.2
        have hx : (q_X8_shareOut_sh1 n kn fg pn pf pg sh b.toNatClampNeg) a.toNatClampNeg = lN ((spExS st b.toNatClampNeg).2 a.toNatClampNeg * 2 ^ (24 - (spExS st b.toNatClampNeg).1)) := hv
        have hp : (spExS st b.toNatClampNeg).2 a.toNatClampNeg ≤ N * 2 ^ (spExS st b.toNatClampNeg).1 := Nat.le_trans (fb_sm_part _ (show a.toNatClampNeg < st.1.1 by omega)) hw.1
        rw [if_neg (fun q => by rw [Int32.lt_iff_toInt_lt] at q; omega), if_pos (by rw [Int32.le_iff_toInt_le]; omega), zI_p ⟨by rw [← en]; exact h1, h2, h3⟩, hx, red_c (fv := 2 ^ (spExS st b.toNatClampNeg).1 + 1) hw.2 (Nat.lt_succ_of_lt Nat.lt_two_pow_self) (xp_bd hp hw.2 hN)]
        by_cases h6 : d = 0
        · rw [if_pos h6, zI_p h6]
        · rw [if_neg h6, zI_n h6]
      · rw [zI_n (fun q => h3 q.2.2)]
        by_cases q1 : d < 0
        · rw [if_pos q1]
        · rw [if_neg q1, if_neg (fun q => h3 (vp_in_iff.mpr ⟨by rw [Int32.lt_iff_toInt_lt] at q1; omega, by rw [Int32.le_iff_toInt_le] at q; omega⟩))]
    · rw [zI_n (fun q => h2 q.2.1)]
      by_cases q1 : b < 1
      · rw [if_pos q1]
      · rw [if_neg q1, if_pos (by
          rw [Int32.lt_iff_toInt_lt] at q1 ⊢
          rcases Int.lt_or_le 3 b.toInt with k | k
          · omega
          · exact absurd ⟨by omega, k⟩ h2)]
  · rw [if_pos (ha.mpr h1), zI_n (fun q => h1 (by rw [en]; exact q.1))]
theorem in3_m {b : Int32} : (if b.toInt64 < 1 then (0 : Int32) else (if 3 < b.toInt64 then (0 : Int32) else (1 : Int32))) = 0 ↔ ¬ spEx3 b := by
  have i1 : (1 : Int64).toInt = 1 := by decide
  have i3 : (3 : Int64).toInt = 3 := by decide
  by_cases h1 : b.toInt64 < 1
  · rw [if_pos h1]
    rw [Int64.lt_iff_toInt_lt, Int32.toInt_toInt64] at h1
    exact ⟨fun _ q => by have := q.1; omega, fun _ => rfl⟩
  · by_cases h2 : 3 < b.toInt64
    · rw [if_neg h1, if_pos h2]
      rw [Int64.lt_iff_toInt_lt, Int32.toInt_toInt64] at h2
      exact ⟨fun _ q => by have := q.2; omega, fun _ => rfl⟩
    · rw [if_neg h1, if_neg h2]
      rw [Int64.lt_iff_toInt_lt, Int32.toInt_toInt64] at h1 h2
      exact ⟨fun q => absurd q (by decide), fun q => absurd ⟨by omega, by omega⟩ q⟩
theorem exact_m {st : spT} {tn N n pn : Nat} {a b d : Int32} {f1 f2 f3 f4 f5 : Nat → Int32} {f18 : Nat → Int64} (hF : zFm st.1 n f1 f2 f3 f4) (hL : zPm st.2.1 pn f5) (hok : zIv st tn N) (hN : N < 1000000000) : q_X9_exact_r n pn f2 f3 f5 f18 a b d = spExactA st a b d := by
  have en := hF.1
  have e8 := hL.1
  have h5 := hok.1.1
  have h8 := hok.2.1.1
  have ha := one_m (a := a) (n := n) (by omega)
  have hb := in3_m (b := b)
  have hd := in_m (b := d) (m := 1) (k := 2) (by decide)
  unfold q_X9_exact_r spExactA
  by_cases h1 : vp_in a n
  · rw [if_neg (fun q => ha.mp q h1)]
    by_cases h2 : spEx3 b
    · rw [if_neg (fun q => hb.mp q h2)]
      by_cases h3 : vp_in d 2
      · have ht := ex3_t h2
        have hw := spExS_w (t := b.toNatClampNeg) hok ht.2
        have hin := in_nI h1 (by omega)
        have hs1 := ex1_m (n := n) (f2 := f2) (r := st.1.2.2.1) (by omega) (fun j hj => ⟨(hF.2 j hj).2.1, by have := zFw_pc hok.1 (j := j) (by omega); omega⟩) n (n + 1) 0 f18 (by omega) (by omega) (fun w hw => absurd hw (Nat.not_lt_zero _))
        have h0 : xXi n N (0, st.1.2.2.1) := by
          show fb_sm st.1.2.2.1 n ≤ N * 2 ^ 0
          have h1 := hok.1.2.2.1
          rw [en]
          omega
        have h24 : b.toNatClampNeg * pn ≤ 3 * 8 := Nat.mul_le_mul ht.2 (by omega)
        have hs3 := ex3_m hF hL (by rw [en]; exact hok.2.1) (by omega) hN (by omega) b.toNatClampNeg 0 1 ((ql_X9_exact1 n f2 (n + 1) 0 f18).2) (0, st.1.2.2.1) (by omega) (Nat.zero_le _) h0 ⟨rfl, hs1⟩
        rw [Nat.zero_mul, Nat.add_comm 1] at hs3
        have hy : (ql_X9_exact3 n pn f3 f5 b.toNatClampNeg (b.toNatClampNeg * pn + 1) 0 1 ((ql_X9_exact1 n f2 (n + 1) 0 f18).2)).2.1 = lN (2 ^ (spExS st b.toNatClampNeg).1) := hs3.1
        have hv : (ql_X9_exact3 n pn f3 f5 b.toNatClampNeg (b.toNatClampNeg * pn + 1) 0 1 ((ql_X9_exact1 n f2 (n + 1) 0 f18).2)).2.2 a.toNatClampNeg = lN ((spExS st b.toNatClampNeg).2 a.toNatClampNeg) := hs3.2 a.toNatClampNeg hin.2
        have hc : 2 ^ (spExS st b.toNatClampNeg).1 ≤ 2 ^ 24 := Nat.pow_le_pow_right (by decide) hw.2
        rw [if_neg (fun q => hd.mp q h3), zI_p ⟨by rw [← en]; exact h1, h2, h3⟩, hy, hv, pk_lT (by omega), Int.toNat_natCast]
        by_cases h6 : d = 0
        · rw [if_pos h6, zI_p h6]
        · rw [if_neg h6, zI_n h6]
      · rw [if_pos (hd.mpr h3), zI_n (fun q => h3 q.2.2)]
    · rw [if_pos (hb.mpr h2), zI_n (fun q => h2 q.2.1)]
  · rw [if_pos (ha.mpr h1), zI_n (fun q => h1 (by rw [en]; exact q.1))]
