/-! the class: how many are unlike -/
theorem un_e {G : Nat → Nat} {P : spF} {y a b : Int32} {j : Nat} (hy : y = nI (woU G P j)) (ha : a = nI (P.2.2.1 j)) (hb : b = nI (G j)) (h1 : P.2.2.1 j < 2147483648) (h2 : G j < 2147483648) (c : a = b) : y = nI (woU G P (j + 1)) := by
  rw [ha, hb] at c
  rw [woU, if_pos ((nI_eq h1 h2).mp c), Nat.add_zero]
  exact hy
theorem un_n {G : Nat → Nat} {P : spF} {y a b : Int32} {j : Nat} (hy : y = nI (woU G P j)) (ha : a = nI (P.2.2.1 j)) (hb : b = nI (G j)) (c : ¬ a = b) : y + 1 = nI (woU G P (j + 1)) := by
  rw [woU, if_neg (fun e => c (by rw [ha, hb, e])), ← nI_1, hy]
/-! the class: depth first, each asking a digit -/
def woH (G : Nat → Nat) (f : Nat → Bool) (k t u : Nat) (P : spF) (rw_ : Nat → Int32) : Prop := k ≤ 3 ∧ t ≤ k ∧ u < 25 ^ t ∧ (∀ z, z < 25 ^ (k - t) → f (u * 25 ^ (k - t) + z) = woD G (k - t) P z) ∧ ∀ i, i < t → rw_ i = nI (wo10 (u / 25 ^ (t - 1 - i) % 25))
theorem woH_rw {G : Nat → Nat} {f : Nat → Bool} {k t u : Nat} {P : spF} {r0 r1 : Nat → Int32} (h : woH G f k t u P r0) (hr : ∀ i, i < t → r1 i = r0 i) : woH G f k t u P r1 := ⟨h.1, h.2.1, h.2.2.1, h.2.2.2.1, fun i hi => by rw [hr i hi]; exact h.2.2.2.2 i hi⟩
theorem p25_3 {k : Nat} (hk : k ≤ 3) : 25 ^ k ≤ 15625 := Nat.le_trans (Nat.pow_le_pow_right (by decide) hk) (by decide)
theorem wo_leaf1 {G : Nat → Nat} {f : Nat → Bool} {k t u : Nat} {P : spF} {r0 g : Nat → Int32} {x un : Int32} (h : woH G f k t u P r0) (ht : k ≤ t) (hu : un = nI (woU G P P.1)) (h5 : P.1 ≤ 5) (c : un = 0) (hK : woK f wo10 k (u * 25 ^ (k - t)) x g) : woK f wo10 k ((u + 1) * 25 ^ (k - t)) (x + 1) (if x = 0 then r0 else g) := by
  obtain ⟨h1, h2, h3, h4, h6⟩ := h
  have e : k = t := by omega
  subst e
  rw [Nat.sub_self, Nat.pow_zero, Nat.mul_one] at hK ⊢
  rw [Nat.sub_self, Nat.pow_zero, Nat.mul_one] at h4
  have hf := h4 0 (by decide)
  rw [Nat.add_zero, woD] at hf
  have hle := woU_le (G := G) (P := P) P.1
  rw [hu] at c
  have h0 := (nI_eq (b := 0) (by omega) (by decide)).mp c
  rw [(woU_0 P.1).mp h0] at hf
  exact woK_keep hK (by have := p25_3 h1; omega) hf h6
theorem wo_leaf0 {G : Nat → Nat} {f : Nat → Bool} {k t u : Nat} {P : spF} {r0 g : Nat → Int32} {x un : Int32} (h : woH G f k t u P r0) (ht : k ≤ t) (hu : un = nI (woU G P P.1)) (c : ¬ un = 0) (hK : woK f wo10 k (u * 25 ^ (k - t)) x g) : woK f wo10 k ((u + 1) * 25 ^ (k - t)) x g := by
  obtain ⟨h1, h2, h3, h4, h6⟩ := h
  have e : k = t := by omega
  subst e
  rw [Nat.sub_self, Nat.pow_zero, Nat.mul_one] at hK ⊢
  rw [Nat.sub_self, Nat.pow_zero, Nat.mul_one] at h4
  have hf := h4 0 (by decide)
  rw [Nat.add_zero, woD] at hf
  exact woK_not hK (fun q => c (by rw [hu, (woU_0 P.1).mpr (hf.symm.trans q)]; rfl))
theorem wo_prune {G : Nat → Nat} {f : Nat → Bool} {k t u : Nat} {P : spF} {r0 g : Nat → Int32} {x : Int32} (h : woH G f k t u P r0) (h5 : P.1 ≤ 5) (c : ¬ nI (woU G P P.1) ≤ nI (2 * (k - t))) (hK : woK f wo10 k (u * 25 ^ (k - t)) x g) : woK f wo10 k ((u + 1) * 25 ^ (k - t)) x g := by
  obtain ⟨h1, h2, h3, h4, h6⟩ := h
  have hle := woU_le (G := G) (P := P) P.1
  rw [nI_leI (by omega) (by omega)] at c
  refine woK_skip hK (Nat.mul_le_mul_right _ (Nat.le_succ u)) (fun y hy1 hy2 hf => ?_)
  rw [Nat.add_mul, Nat.one_mul] at hy2
  have e := h4 (y - u * 25 ^ (k - t)) (by omega)
  rw [show u * 25 ^ (k - t) + (y - u * 25 ^ (k - t)) = y by omega, hf] at e
  have h7 := woD_u _ _ _ e.symm
  omega
theorem wo_first {f : Nat → Bool} {k t u : Nat} {g : Nat → Int32} {x : Int32} (ht : t < k) (hK : woK f wo10 k (u * 25 ^ (k - t)) x g) : woK f wo10 k ((u * 25 + 5 * 0) * 25 ^ (k - (t + 1))) x g := by
  rw [p25_s ht, ← Nat.mul_assoc] at hK
  exact hK
theorem wo_dig {G : Nat → Nat} {f : Nat → Bool} {k t u c : Nat} {P : spF} {r0 g : Nat → Int32} {x : Int32} (h : woH G f k t u P r0) (ht : t < k) (hc : c < 25) (hno : ¬ (c / 5 < P.1 ∧ c % 5 < P.1 ∧ ¬ c / 5 = c % 5 ∧ spLaw P (c / 5) (c % 5) = true)) (hK : woK f wo10 k ((u * 25 + c) * 25 ^ (k - (t + 1))) x g) : woK f wo10 k ((u * 25 + c + 1) * 25 ^ (k - (t + 1))) x g := by
  obtain ⟨h1, h2, h3, h4, h6⟩ := h
  refine woK_skip hK (Nat.mul_le_mul_right _ (Nat.le_succ _)) (fun y hy1 hy2 hf => ?_)
  have e25 := p25_s ht
  have hz : ∃ z, z < 25 ^ (k - (t + 1)) ∧ y = (u * 25 + c) * 25 ^ (k - (t + 1)) + z := ⟨y - (u * 25 + c) * 25 ^ (k - (t + 1)), by rw [Nat.add_mul _ 1, Nat.one_mul] at hy2; omega, by omega⟩
  obtain ⟨z, hz1, hz2⟩ := hz
  have hcz : c * 25 ^ (k - (t + 1)) + z < 25 ^ (k - t) := by
    have h7 : (c + 1) * 25 ^ (k - (t + 1)) ≤ 25 * 25 ^ (k - (t + 1)) := Nat.mul_le_mul_right _ hc
    rw [Nat.add_mul, Nat.one_mul] at h7
    omega
  have e := h4 (c * 25 ^ (k - (t + 1)) + z) hcz
  have ey : u * 25 ^ (k - t) + (c * 25 ^ (k - (t + 1)) + z) = y := by rw [hz2, e25, Nat.add_mul, ← Nat.mul_assoc, Nat.add_assoc]
  rw [ey, hf, show k - t = (k - (t + 1)) + 1 by omega, woD_c hz1] at e
  have e2 := e.symm
  rw [Bool.and_eq_true, Bool.and_eq_true, decide_eq_true_iff] at e2
  exact hno ⟨e2.1.1.1, e2.1.1.2.1, e2.1.1.2.2, e2.1.2⟩
theorem wo_digs {G : Nat → Nat} {f : Nat → Bool} {k t u : Nat} {P : spF} {r0 g : Nat → Int32} {x : Int32} (h : woH G f k t u P r0) (ht : t < k) : ∀ (m c : Nat), c + m ≤ 25 → (∀ e, c ≤ e → e < c + m → ¬ (e / 5 < P.1 ∧ e % 5 < P.1)) → woK f wo10 k ((u * 25 + c) * 25 ^ (k - (t + 1))) x g → woK f wo10 k ((u * 25 + (c + m)) * 25 ^ (k - (t + 1))) x g
  | 0, c, _, _, hK => hK
  | m + 1, c, hc, hno, hK => by
    have h1 := wo_digs h ht m c (by omega) (fun e h1 h2 => hno e h1 (by omega)) hK
    have h2 := wo_dig (c := c + m) h ht (by omega) (fun q => hno (c + m) (by omega) (by omega) ⟨q.1, q.2.1⟩) h1
    exact h2
theorem wo_row {G : Nat → Nat} {f : Nat → Bool} {k t u a n : Nat} {P : spF} {r0 g : Nat → Int32} {x : Int32} (h : woH G f k t u P r0) (ht : t < k) (en : n = P.1) (hn : n ≤ 5) (ha : a < n) {j : Nat} (hj : j ≤ n) (hj2 : n ≤ j) (hK : woK f wo10 k ((u * 25 + 5 * a + j) * 25 ^ (k - (t + 1))) x g) : woK f wo10 k ((u * 25 + 5 * (a + 1)) * 25 ^ (k - (t + 1))) x g := by
  have ej : j = n := by omega
  subst ej
  rw [Nat.add_assoc] at hK
  have h1 := wo_digs h ht (5 - j) (5 * a + j) (by omega) (fun e h1 h2 q => by omega) hK
  exact woK_ne h1 (by rw [show 5 * a + j + (5 - j) = 5 * (a + 1) by omega])
theorem wo_end {G : Nat → Nat} {f : Nat → Bool} {k t u a n : Nat} {P : spF} {r0 g : Nat → Int32} {x : Int32} (h : woH G f k t u P r0) (ht : t < k) (en : n = P.1) (hn : n ≤ 5) (ha : a ≤ n) (ha2 : n ≤ a) (hK : woK f wo10 k ((u * 25 + 5 * a) * 25 ^ (k - (t + 1))) x g) : woK f wo10 k ((u + 1) * 25 ^ (k - t)) x g := by
  have ea : a = n := by omega
  subst ea
  have h1 := wo_digs h ht (25 - 5 * a) (5 * a) (by omega) (fun e h1 h2 q => by omega) hK
  refine woK_ne h1 ?_
  rw [p25_s ht, ← Nat.mul_assoc, show 5 * a + (25 - 5 * a) = 25 by omega, Nat.add_mul u 1 25]
theorem wo_no {G : Nat → Nat} {f : Nat → Bool} {k t u a b n : Nat} {P : spF} {r0 g : Nat → Int32} {x : Int32} (h : woH G f k t u P r0) (ht : t < k) (hn : n ≤ 5) (ha : a < n) (hb : b < n) (hno : ¬ (¬ a = b ∧ spLaw P a b = true)) (hK : woK f wo10 k ((u * 25 + 5 * a + b) * 25 ^ (k - (t + 1))) x g) : woK f wo10 k ((u * 25 + 5 * a + (b + 1)) * 25 ^ (k - (t + 1))) x g := by
  rw [Nat.add_assoc] at hK
  have e1 : (5 * a + b) / 5 = a := by omega
  have e2 : (5 * a + b) % 5 = b := by omega
  have h1 := wo_dig h ht (c := 5 * a + b) (by omega) (by rw [e1, e2]; exact fun q => hno q.2.2) hK
  exact woK_ne h1 (by rw [show u * 25 + (5 * a + b) + 1 = u * 25 + 5 * a + (b + 1) by omega])
theorem wo_deep {G : Nat → Nat} {f : Nat → Bool} {k t u a b n : Nat} {P : spF} {r0 : Nat → Int32} {v : Int32} {q : Nat} (h : woH G f k t u P r0) (ht : t < k) (en : n = P.1) (hn : n ≤ 5) (ha : a < n) (hb : b < n) (hab : ¬ a = b) (hl : spLaw P a b = true) (hv : v = 10 * nI a + nI b) (hq : q = t) : woH G f k (t + 1) (u * 25 + 5 * a + b) (spAsk P a b) (upd r0 q v) := by
  subst hq
  obtain ⟨h1, h2, h3, h4, h6⟩ := h
  have e1 : (5 * a + b) / 5 = a := by omega
  have e2 : (5 * a + b) % 5 = b := by omega
  refine ⟨h1, ht, ?_, fun z hz => ?_, fun i hi => ?_⟩
  · rw [Nat.pow_succ]; omega
  · have e25 := p25_s ht
    have hcz : (5 * a + b) * 25 ^ (k - (q + 1)) + z < 25 ^ (k - q) := by
      have h7 : (5 * a + b + 1) * 25 ^ (k - (q + 1)) ≤ 25 * 25 ^ (k - (q + 1)) := Nat.mul_le_mul_right _ (by omega)
      rw [Nat.add_mul _ 1, Nat.one_mul] at h7
      omega
    have e := h4 _ hcz
    rw [show k - q = (k - (q + 1)) + 1 by omega, woD_c hz, e1, e2, decide_eq_true ⟨by omega, by omega, hab⟩, hl, Bool.true_and, Bool.true_and] at e
    rw [← e]
    congr 1
    rw [Nat.pow_succ, Nat.add_assoc (u * 25) (5 * a) b, Nat.add_mul (u * 25), Nat.add_assoc, Nat.mul_assoc, Nat.mul_comm 25]
  · by_cases e : i = q
    · subst e
      rw [pk_us, hv, show i + 1 - 1 - i = 0 by omega, Nat.pow_zero, Nat.div_one, show (u * 25 + 5 * a + b) % 25 = 5 * a + b by omega]
      unfold wo10
      rw [e1, e2, show (10 : Int32) = nI 10 from rfl, pk_mul, nI_add]
    · rw [pk_un e, h6 i (by omega)]
      congr 2
      rw [show q + 1 - 1 - i = (q - 1 - i) + 1 by omega, Nat.pow_succ, Nat.mul_comm (25 ^ (q - 1 - i)) 25, ← Nat.div_div_eq_div_mul, show (u * 25 + 5 * a + b) / 25 = u by omega]
theorem wo_H0 (P : spF) (i : Nat → Int64) (u k : Nat) (hk : k ≤ 3) (rw_ : Nat → Int32) : woH (woG P i u) (woF P i u k) k 0 0 (woS P i u) rw_ := ⟨hk, Nat.zero_le _, by decide, fun z _ => by rw [Nat.zero_mul, Nat.zero_add, Nat.sub_zero]; rfl, fun i hi => absurd hi (Nat.not_lt_zero i)⟩
theorem zFr_wo {P : spF} {n u : Nat} {kn ak : Int32} {f g g9 : Nat → Int32} {i : Nat → Int64} (h : zFr P n kn ak f g) (h9 : ∀ w, w < n → g9 w = nI ((woS P i u).2.2.1 w)) : zFr (woS P i u) n kn 0 f g9 := ⟨h.1, h.2.1, h9, h.2.2.2.1, fun q hq => by rw [b_0]; exact (Bool.and_false _).symm⟩
theorem wo_law {P : spF} {n N a b : Nat} {kn ak : Int32} {f g : Nat → Int32} (hF : zFr P n kn ak f g) (hw : zFw P N) (hN : N < 1000000000) (ha : a < n) (hb : b < n) (hab : ¬ a = b) : q_X0_tryAsking_r kn ak f g (nI a) (nI b) = -2 ↔ ¬ spLaw P a b = true := by
  rw [(try_c hF hw hN ha hb hab).2]
  exact spAns_not hw hN (by rw [← hF.1]; exact hb)
