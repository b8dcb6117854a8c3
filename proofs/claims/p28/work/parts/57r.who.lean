/-! WHO ASKED: rows of askings as numbers to the base 25, an asking of b by a being 5 a + b -/
def woE (G : Nat → Nat) (P : spF) : Nat → Bool
  | 0 => true
  | k + 1 => woE G P k && decide (P.2.2.1 k = G k)
def woD (G : Nat → Nat) : Nat → spF → Nat → Bool
  | 0, P, _ => woE G P P.1
  | d + 1, P, z => decide (z / 25 ^ d / 5 < P.1 ∧ z / 25 ^ d % 5 < P.1 ∧ ¬ z / 25 ^ d / 5 = z / 25 ^ d % 5) && spLaw P (z / 25 ^ d / 5) (z / 25 ^ d % 5) && woD G d (spAsk P (z / 25 ^ d / 5) (z / 25 ^ d % 5)) (z % 25 ^ d)
theorem p25 (d : Nat) : 0 < 25 ^ d := Nat.pow_pos (by decide)
theorem woD_c {G : Nat → Nat} {d c z : Nat} {P : spF} (hz : z < 25 ^ d) : woD G (d + 1) P (c * 25 ^ d + z) = (decide (c / 5 < P.1 ∧ c % 5 < P.1 ∧ ¬ c / 5 = c % 5) && spLaw P (c / 5) (c % 5) && woD G d (spAsk P (c / 5) (c % 5)) z) := by
  have e1 : (c * 25 ^ d + z) / 25 ^ d = c := by rw [Nat.mul_comm, Nat.mul_add_div (p25 d), Nat.div_eq_of_lt hz, Nat.add_zero]
  have e2 : (c * 25 ^ d + z) % 25 ^ d = z := by rw [Nat.mul_comm, Nat.mul_add_mod, Nat.mod_eq_of_lt hz]
  rw [woD, e1, e2]
/-- how many have not what they are to have -/
def woU (G : Nat → Nat) (P : spF) : Nat → Nat
  | 0 => 0
  | k + 1 => woU G P k + (if P.2.2.1 k = G k then 0 else 1)
theorem woU_0 {G : Nat → Nat} {P : spF} : ∀ k, (woU G P k = 0 ↔ woE G P k = true)
  | 0 => ⟨fun _ => rfl, fun _ => rfl⟩
  | k + 1 => by
    have h := woU_0 (G := G) (P := P) k
    rw [woU, woE, Bool.and_eq_true, decide_eq_true_iff, ← h]
    by_cases e : P.2.2.1 k = G k
    · rw [if_pos e]; exact ⟨fun k => ⟨k, e⟩, fun k => k.1⟩
    · rw [if_neg e]; exact ⟨fun k => absurd k (by omega), fun k => absurd k.2 e⟩
theorem woU_le {G : Nat → Nat} {P : spF} : ∀ k, woU G P k ≤ k
  | 0 => Nat.le_refl _
  | k + 1 => by
    have h := woU_le (G := G) (P := P) k
    rw [woU]
    split <;> omega
theorem pc_ask {P : spF} {a b w : Nat} (h1 : ¬ w = a) (h2 : ¬ w = b) : (spAsk P a b).2.2.1 w = P.2.2.1 w := by
  unfold spAsk
  split
  · show spU (spU P.2.2.1 b _) a _ w = _
    rw [spU_n h1, spU_n h2]
  · rfl
theorem woU_ask {G : Nat → Nat} {P : spF} {a b : Nat} : ∀ k, woU G P k ≤ woU G (spAsk P a b) k + (if a < k then 1 else 0) + (if b < k then 1 else 0)
  | 0 => Nat.zero_le _
  | k + 1 => by
    have h := woU_ask (G := G) (P := P) (a := a) (b := b) k
    rw [woU, woU]
    by_cases e1 : k = a
    · subst e1
      rw [if_neg (Nat.lt_irrefl k)] at h
      rw [if_pos (Nat.lt_succ_self k)]
      by_cases e2 : b < k
      · rw [if_pos e2] at h
        rw [if_pos (show b < k + 1 by omega)]
        split <;> split <;> omega
      · rw [if_neg e2] at h
        split <;> split <;> split <;> omega
    · by_cases e2 : k = b
      · subst e2
        rw [if_neg (Nat.lt_irrefl k)] at h
        rw [if_pos (Nat.lt_succ_self k)]
        by_cases e3 : a < k
        · rw [if_pos e3] at h
          rw [if_pos (show a < k + 1 by omega)]
          split <;> split <;> omega
        · rw [if_neg e3] at h
          split <;> split <;> split <;> omega
      · rw [pc_ask e1 e2]
        have k1 : (if a < k then 1 else 0) ≤ (if a < k + 1 then (1 : Nat) else 0) := by
          by_cases q : a < k
          · rw [if_pos q, if_pos (show a < k + 1 by omega)]; exact Nat.le_refl _
          · rw [if_neg q]; exact Nat.zero_le _
        have k2 : (if b < k then 1 else 0) ≤ (if b < k + 1 then (1 : Nat) else 0) := by
          by_cases q : b < k
          · rw [if_pos q, if_pos (show b < k + 1 by omega)]; exact Nat.le_refl _
          · rw [if_neg q]; exact Nat.zero_le _
        omega
theorem woD_u {G : Nat → Nat} : ∀ (d : Nat) (P : spF) (z : Nat), woD G d P z = true → woU G P P.1 ≤ 2 * d
  | 0, P, z, h => by
    rw [woD] at h
    rw [(woU_0 P.1).mpr h]; exact Nat.zero_le _
  | d + 1, P, z, h => by
    rw [woD, Bool.and_eq_true] at h
    have h1 := woD_u d _ _ h.2
    rw [spAsk_n] at h1
    have h2 := woU_ask (G := G) (P := P) (a := z / 25 ^ d / 5) (b := z / 25 ^ d % 5) P.1
    have k1 : (if z / 25 ^ d / 5 < P.1 then 1 else 0) ≤ (1 : Nat) := by split <;> omega
    have k2 : (if z / 25 ^ d % 5 < P.1 then 1 else 0) ≤ (1 : Nat) := by split <;> omega
    omega
/-! how many of those below z -/
def woC (f : Nat → Bool) : Nat → Nat
  | 0 => 0
  | z + 1 => woC f z + (if f z = true then 1 else 0)
theorem woC_le (f : Nat → Bool) : ∀ z, woC f z ≤ z
  | 0 => Nat.le_refl _
  | z + 1 => by
    have h := woC_le f z
    rw [woC]
    split <;> omega
theorem woC_no {f : Nat → Bool} {u : Nat} : ∀ m, (∀ y, u ≤ y → y < u + m → ¬ f y = true) → woC f (u + m) = woC f u
  | 0, _ => rfl
  | m + 1, h => by
    rw [← Nat.add_assoc, woC, woC_no m (fun y h1 h2 => h y h1 (by omega)), if_neg (h (u + m) (by omega) (by omega)), Nat.add_zero]
theorem woC_cong {f g : Nat → Bool} : ∀ z, (∀ y, y < z → f y = g y) → woC f z = woC g z
  | 0, _ => rfl
  | z + 1, h => by rw [woC, woC, woC_cong z (fun y hy => h y (by omega)), h z (by omega)]
theorem woC_z {f : Nat → Bool} : ∀ z, woC f z = 0 → ∀ y, y < z → ¬ f y = true
  | 0, _, y, hy => absurd hy (Nat.not_lt_zero y)
  | z + 1, h, y, hy => by
    rw [woC] at h
    by_cases e : f z = true
    · rw [if_pos e] at h; exact absurd h (by omega)
    · rw [if_neg e] at h
      rcases Nat.lt_or_ge y z with k | k
      · exact woC_z z (by omega) y k
      · rw [show y = z by omega]; exact e
/-- what is found among those below z: how many, and the askings of the first, each as e has it -/
def woK (f : Nat → Bool) (e : Nat → Nat) (k z : Nat) (x : Int32) (g : Nat → Int32) : Prop := x = nI (woC f z) ∧ (woC f z = 0 ∨ ∃ y, y < z ∧ f y = true ∧ (∀ v, v < y → ¬ f v = true) ∧ ∀ i, i < k → g i = nI (e (y / 25 ^ (k - 1 - i) % 25)))
theorem woK_0 (f : Nat → Bool) (e : Nat → Nat) (k : Nat) (g : Nat → Int32) : woK f e k 0 0 g := ⟨rfl, Or.inl rfl⟩
theorem woK_skip {f : Nat → Bool} {e : Nat → Nat} {k u v : Nat} {x : Int32} {g : Nat → Int32} (h : woK f e k u x g) (huv : u ≤ v) (hno : ∀ y, u ≤ y → y < v → ¬ f y = true) : woK f e k v x g := by
  have e1 := woC_no (f := f) (u := u) (v - u) (fun y h1 h2 => hno y h1 (by omega))
  rw [show u + (v - u) = v by omega] at e1
  obtain ⟨h1, h2⟩ := h
  refine ⟨by rw [e1]; exact h1, ?_⟩
  rcases h2 with k1 | ⟨y, k1, k2⟩
  · exact Or.inl (by rw [e1]; exact k1)
  · exact Or.inr ⟨y, by omega, k2⟩
theorem woK_not {f : Nat → Bool} {e : Nat → Nat} {k u : Nat} {x : Int32} {g : Nat → Int32} (h : woK f e k u x g) (hno : ¬ f u = true) : woK f e k (u + 1) x g := woK_skip h (by omega) (fun y h1 h2 => by rw [show y = u by omega]; exact hno)
theorem woK_keep {f : Nat → Bool} {e : Nat → Nat} {k u : Nat} {x : Int32} {g r : Nat → Int32} (h : woK f e k u x g) (hu : u < 100000) (hf : f u = true) (hr : ∀ i, i < k → r i = nI (e (u / 25 ^ (k - 1 - i) % 25))) : woK f e k (u + 1) (x + 1) (if x = 0 then r else g) := by
  obtain ⟨h1, h2⟩ := h
  have hle := woC_le f u
  refine ⟨by rw [woC, if_pos hf, h1, nI_1], Or.inr ?_⟩
  by_cases c : x = 0
  · rw [if_pos c]
    have e0 : woC f u = 0 := (nI_eq (b := 0) (by omega) (by decide)).mp (h1.symm.trans c)
    exact ⟨u, Nat.lt_succ_self u, hf, woC_z u e0, hr⟩
  · rw [if_neg c]
    rcases h2 with k1 | ⟨y, k1, k2⟩
    · exact absurd (by rw [h1, k1]; rfl) c
    · exact ⟨y, by omega, k2⟩
theorem woK_x {f : Nat → Bool} {e : Nat → Nat} {k u : Nat} {x : Int32} {g : Nat → Int32} (h : woK f e k u x g) (hu : u < 100000) : x = 0 ↔ woC f u = 0 := by
  have hle := woC_le f u
  rw [h.1]
  exact nI_eq (b := 0) (by omega) (by decide)
/-! the answer -/
def woS (P : spF) (im : Nat → Int64) (from_ : Nat) : spF := (P.1, P.2.1, fun w => (im (from_ + w)).toInt32.toNatClampNeg, P.2.2.2.1, fun _ _ => false)
def woG (P : spF) (im : Nat → Int64) (from_ : Nat) : Nat → Nat := fun w => (im (from_ + P.1 + w)).toInt32.toNatClampNeg
def woF (P : spF) (im : Nat → Int64) (u k : Nat) : Nat → Bool := woD (woG P im u) k (woS P im u)
/-- the first -/
noncomputable def woY (f : Nat → Bool) : Nat := Classical.epsilon (fun y => f y = true ∧ ∀ v, v < y → ¬ f v = true)
theorem woY_e {f : Nat → Bool} {y : Nat} (h1 : f y = true) (h2 : ∀ v, v < y → ¬ f v = true) : woY f = y := by
  obtain ⟨k1, k2⟩ := Classical.epsilon_spec (p := fun y => f y = true ∧ ∀ v, v < y → ¬ f v = true) ⟨y, h1, h2⟩
  rcases Nat.lt_trichotomy (woY f) y with q | q | q
  · exact absurd k1 (h2 _ q)
  · exact q
  · exact absurd h1 (k2 _ q)
def wo10 (c : Nat) : Nat := 10 * (c / 5) + c % 5
noncomputable def woA (f : Nat → Bool) (k : Nat) (i : Int32) : Int32 := zI (woC f (25 ^ k) = 0) (-4) (zI (i < 0) (nI (woC f (25 ^ k))) (nI (wo10 (woY f / 25 ^ (k - 1 - i.toNatClampNeg) % 25))))
theorem woA_0 {f : Nat → Bool} {e : Nat → Nat} {k : Nat} {x i : Int32} {g : Nat → Int32} (hk : k ≤ 3) (h : woK f e k (25 ^ k) x g) (c : x = 0) : (-4 : Int32) = woA f k i := by
  have hb : 25 ^ k < 100000 := Nat.lt_of_le_of_lt (Nat.pow_le_pow_right (by decide) hk) (by decide)
  unfold woA
  rw [zI_p ((woK_x h hb).mp c)]
theorem woA_n {f : Nat → Bool} {e : Nat → Nat} {k : Nat} {x i : Int32} {g : Nat → Int32} (hk : k ≤ 3) (h : woK f e k (25 ^ k) x g) (c : ¬ x = 0) (hi : i < 0) : x = woA f k i := by
  have hb : 25 ^ k < 100000 := Nat.lt_of_le_of_lt (Nat.pow_le_pow_right (by decide) hk) (by decide)
  unfold woA
  rw [zI_n (fun q => c ((woK_x h hb).mpr q)), zI_p hi]
  exact h.1
theorem woA_y {f : Nat → Bool} {e : Nat → Nat} {k : Nat} {x i : Int32} {g : Nat → Int32} (hk : k ≤ 3) (h : woK f e k (25 ^ k) x g) (c : ¬ x = 0) (hi : ¬ i < 0) (hik : i.toNatClampNeg < k) : g i.toNatClampNeg = nI (e (woY f / 25 ^ (k - 1 - i.toNatClampNeg) % 25)) ∧ woA f k i = nI (wo10 (woY f / 25 ^ (k - 1 - i.toNatClampNeg) % 25)) := by
  have hb : 25 ^ k < 100000 := Nat.lt_of_le_of_lt (Nat.pow_le_pow_right (by decide) hk) (by decide)
  have h0 : ¬ woC f (25 ^ k) = 0 := fun q => c ((woK_x h hb).mpr q)
  obtain ⟨y, k1, k2, k3, k4⟩ := h.2.resolve_left h0
  rw [woY_e k2 k3]
  refine ⟨k4 _ hik, ?_⟩
  unfold woA
  rw [zI_n h0, zI_n hi, woY_e k2 k3]
theorem to_nI {v : Int64} (h : zTo v) : v.toInt32 = nI v.toInt32.toNatClampNeg ∧ v.toInt32.toNatClampNeg < 100000 ∧ (nI v.toInt32.toNatClampNeg).toInt64 = v := by
  obtain ⟨h1, h2⟩ := h
  have e1 : v.toInt32.toInt = v.toInt := by
    rw [Int64.toInt_toInt32]
    exact Int.bmod_eq_of_le (by omega) (by omega)
  have hi : vp_in v.toInt32 100000 := vp_in_iff.mpr (by omega)
  have h3 := in_nI hi (by decide)
  refine ⟨h3.1, h3.2, ?_⟩
  rw [← h3.1]
  apply Int64.toInt_inj.mp
  rw [Int32.toInt_toInt64, e1]
theorem woE_cong {G G' : Nat → Nat} {P : spF} : ∀ k, (∀ w, w < k → G w = G' w) → woE G P k = woE G' P k
  | 0, _ => rfl
  | k + 1, h => by rw [woE, woE, woE_cong k (fun w hw => h w (by omega)), h k (by omega)]
/-- the same people, but for pence of those not there -/
def woQ (P Q : spF) : Prop := P.1 = Q.1 ∧ P.2.1 = Q.2.1 ∧ (∀ w, w < P.1 → P.2.2.1 w = Q.2.2.1 w) ∧ P.2.2.2.1 = Q.2.2.2.1 ∧ P.2.2.2.2 = Q.2.2.2.2
theorem woQ_ask {P Q : spF} {a b : Nat} (h : woQ P Q) (ha : a < P.1) (hb : b < P.1) : spLaw P a b = spLaw Q a b ∧ woQ (spAsk P a b) (spAsk Q a b) := by
  obtain ⟨h1, h2, h3, h4, h5⟩ := h
  have el : spLaw P a b = spLaw Q a b := by
    unfold spLaw
    rw [h4, h5, h3 b hb]
  have eg : spGive P a b = spGive Q a b := by
    unfold spGive
    rw [h2, h3 b hb]
  refine ⟨el, ?_⟩
  unfold spAsk
  rw [← el]
  by_cases c : spLaw P a b = true
  · rw [if_pos c, if_pos c]
    refine ⟨h1, h2, fun w hw => ?_, h4, by show spUK P.2.2.2.2 a b true = spUK Q.2.2.2.2 a b true; rw [h5]⟩
    show spU (spU P.2.2.1 b (P.2.2.1 b - spGive P a b)) a (P.2.2.1 a + spGive P a b) w = spU (spU Q.2.2.1 b (Q.2.2.1 b - spGive Q a b)) a (Q.2.2.1 a + spGive Q a b) w
    rw [eg, h3 a ha, h3 b hb]
    by_cases e1 : w = a
    · rw [e1, spU_s, spU_s]
    · rw [spU_n e1, spU_n e1]
      by_cases e2 : w = b
      · rw [e2, spU_s, spU_s]
      · rw [spU_n e2, spU_n e2]; exact h3 w hw
  · rw [if_neg c, if_neg c]; exact ⟨h1, h2, h3, h4, h5⟩
theorem woE_q {G G' : Nat → Nat} {P Q : spF} : ∀ k, k ≤ P.1 → (∀ w, w < P.1 → P.2.2.1 w = Q.2.2.1 w) → (∀ w, w < P.1 → G w = G' w) → woE G P k = woE G' Q k
  | 0, _, _, _ => rfl
  | k + 1, hk, h, hG => by rw [woE, woE, woE_q k (by omega) h hG, h k (by omega), hG k (by omega)]
theorem woD_q {G G' : Nat → Nat} : ∀ (d : Nat) (P Q : spF) (z : Nat), woQ P Q → (∀ w, w < P.1 → G w = G' w) → woD G d P z = woD G' d Q z
  | 0, P, Q, z, h, hG => by
    rw [woD, woD, ← h.1]
    exact woE_q P.1 (Nat.le_refl _) h.2.2.1 hG
  | d + 1, P, Q, z, h, hG => by
    rw [woD, woD, ← h.1]
    by_cases c : z / 25 ^ d / 5 < P.1 ∧ z / 25 ^ d % 5 < P.1 ∧ ¬ z / 25 ^ d / 5 = z / 25 ^ d % 5
    · have k := woQ_ask h c.1 c.2.1
      rw [k.1, woD_q d _ _ _ k.2 (fun w hw => hG w (by rw [spAsk_n] at hw; exact hw))]
    · rw [decide_eq_false c, Bool.false_and, Bool.false_and, Bool.false_and, Bool.false_and]
theorem woS_c {P : spF} {i : Nat → Int64} {u w : Nat} : (woS P i u).2.2.1 w = (i (u + w)).toInt32.toNatClampNeg := rfl
theorem woG_c {P : spF} {i : Nat → Int64} {u w : Nat} : woG P i u w = (i (u + P.1 + w)).toInt32.toNatClampNeg := rfl
theorem woS_1 {P : spF} {i : Nat → Int64} {u : Nat} : (woS P i u).1 = P.1 := rfl
theorem woS_2 {P : spF} {i : Nat → Int64} {u : Nat} : (woS P i u).2.1 = P.2.1 := rfl
theorem woS_4 {P : spF} {i : Nat → Int64} {u : Nat} : (woS P i u).2.2.2.1 = P.2.2.2.1 := rfl
theorem woS_5 {P : spF} {i : Nat → Int64} {u : Nat} : (woS P i u).2.2.2.2 = fun _ _ => false := rfl
theorem woS_q {P : spF} {i i2 : Nat → Int64} {u u2 : Nat} (h : ∀ w, w < P.1 → i (u + w) = i2 (u2 + w)) : woQ (woS P i u) (woS P i2 u2) := by
  refine ⟨woS_1.trans woS_1.symm, woS_2.trans woS_2.symm, ?_, woS_4.trans woS_4.symm, woS_5.trans woS_5.symm⟩
  intro w hw
  rw [woS_1] at hw
  rw [woS_c, woS_c, h w hw]
theorem woG_q {P : spF} {i i2 : Nat → Int64} {u u2 : Nat} (h : ∀ w, w < 2 * P.1 → i (u + w) = i2 (u2 + w)) : ∀ w, w < P.1 → woG P i u w = woG P i2 u2 w := by
  intro w hw
  have e := h (P.1 + w) (by omega)
  rw [← Nat.add_assoc, ← Nat.add_assoc] at e
  rw [woG_c, woG_c, e]
theorem woF_q {P : spF} {i i2 : Nat → Int64} {u u2 k : Nat} (h : ∀ w, w < 2 * P.1 → i (u + w) = i2 (u2 + w)) (z : Nat) : woF P i u k z = woF P i2 u2 k z := woD_q k _ _ z (woS_q (fun w hw => h w (by omega))) (woG_q h)
theorem woA_q {f g : Nat → Bool} (h : ∀ z, f z = g z) (k : Nat) (i : Int32) : woA f k i = woA g k i := by rw [show f = g from funext h]
/-- people as they are when a search begins -/
def zFk (P : spF) (n : Nat) (f1 f3 : Nat → Int32) : Prop := n = P.1 ∧ ∀ j, j < n → f1 j = nI (P.2.1 j) ∧ ∀ i, i < 32 → bt (f3 j) i = (decide (i < n) && P.2.2.2.1 j i)
theorem zFk_of {P : spF} {n : Nat} {f1 f2 f3 f4 : Nat → Int32} (h : zFm P n f1 f2 f3 f4) : zFk P n f1 f3 := ⟨h.1, fun j hj => ⟨(h.2 j hj).1, (h.2 j hj).2.2.1⟩⟩
theorem zFk_s {P : spF} {n u : Nat} {f1 f3 f6 : Nat → Int32} {i : Nat → Int64} (h : zFk P n f1 f3) (h6 : ∀ w, w < n → f6 w = nI ((woS P i u).2.2.1 w)) : zFm (woS P i u) n f1 f6 f3 (fun _ => 0) := ⟨h.1, fun j hj => ⟨(h.2 j hj).1, h6 j hj, (h.2 j hj).2, fun q _ => by rw [b_0]; exact (Bool.and_false _).symm⟩⟩
theorem sm_le {f : Nat → Nat} {M : Nat} : ∀ n, (∀ w, w < n → f w ≤ M) → fb_sm f n ≤ n * M
  | 0, _ => Nat.zero_le _
  | n + 1, h => by
    have h1 := sm_le n (fun w hw => h w (by omega))
    have h2 := h n (by omega)
    rw [fb_sm_succ, Nat.add_mul, Nat.one_mul]
    omega
theorem woS_w {P : spF} {N u : Nat} {i : Nat → Int64} (h : zFw P N) (ht : ∀ w, w < 2 * P.1 → zTo (i (u + w))) : zFw (woS P i u) 600000 := by
  refine ⟨h.1, h.2.1, ?_, h.2.2.2.1, fun _ _ _ => rfl, h.2.2.2.2.2.1, fun _ => rfl⟩
  have h5 := h.1
  have h1 := sm_le (f := (woS P i u).2.2.1) (M := 100000) P.1 (fun w hw => Nat.le_of_lt (to_nI (ht w (by omega))).2.1)
  have h2 : P.1 * 100000 ≤ 5 * 100000 := Nat.mul_le_mul_right _ h5
  exact Nat.le_trans h1 (by omega)
theorem woG_b {P : spF} {u w : Nat} {i : Nat → Int64} (ht : ∀ w, w < 2 * P.1 → zTo (i (u + w))) (hw : w < P.1) : woG P i u w < 100000 := by
  show (i (u + P.1 + w)).toInt32.toNatClampNeg < 100000
  rw [Nat.add_assoc]
  exact (to_nI (ht (P.1 + w) (by omega))).2.1
/-! the call -/
def woCo (a b kk i : Int32) : Prop := (vp_in a 4 ∧ vp_in b 3) ∧ (1 ≤ kk.toInt ∧ kk.toInt ≤ 3) ∧ (-1 ≤ i.toInt ∧ i.toInt < kk.toInt)
noncomputable def spWhoA (P : spF) (sl : zSL) (im : zIM) (a b d kk i : Int32) : Int32 := zI (woCo a b kk i) (zI (zLk (sl a.toNatClampNeg) b d (2 * P.1) < 0) (zLk (sl a.toNatClampNeg) b d (2 * P.1)) (zI (∀ w, w < 2 * P.1 → zTo (im a.toNatClampNeg (d.toNatClampNeg + w))) (woA (woF P (im a.toNatClampNeg) d.toNatClampNeg kk.toNatClampNeg) kk.toNatClampNeg i) (-2))) (-1)
theorem who_B {P : spF} {sl : zSL} {im : zIM} {a b d kk i : Int32} (h : ¬ woCo a b kk i) : (-1 : Int32) = spWhoA P sl im a b d kk i := (zI_n h).symm
theorem who_L {P : spF} {sl : zSL} {im : zIM} {a b d kk i : Int32} (h : woCo a b kk i) (h2 : zLk (sl a.toNatClampNeg) b d (2 * P.1) < 0) : zLk (sl a.toNatClampNeg) b d (2 * P.1) = spWhoA P sl im a b d kk i := ((zI_p h).trans (zI_p h2)).symm
theorem who_N {P : spF} {sl : zSL} {im : zIM} {a b d kk i : Int32} (h : woCo a b kk i) (h2 : ¬ zLk (sl a.toNatClampNeg) b d (2 * P.1) < 0) (h3 : ¬ ∀ w, w < 2 * P.1 → zTo (im a.toNatClampNeg (d.toNatClampNeg + w))) : (-2 : Int32) = spWhoA P sl im a b d kk i := ((zI_p h).trans ((zI_n h2).trans (zI_n h3))).symm
theorem who_Y {P : spF} {sl : zSL} {im : zIM} {a b d kk i : Int32} (h : woCo a b kk i) (h2 : ¬ zLk (sl a.toNatClampNeg) b d (2 * P.1) < 0) (h3 : ∀ w, w < 2 * P.1 → zTo (im a.toNatClampNeg (d.toNatClampNeg + w))) : woA (woF P (im a.toNatClampNeg) d.toNatClampNeg kk.toNatClampNeg) kk.toNatClampNeg i = spWhoA P sl im a b d kk i := ((zI_p h).trans ((zI_n h2).trans (zI_p h3))).symm
theorem p25_s {k j : Nat} (hj : j < k) : 25 ^ (k - j) = 25 * 25 ^ (k - (j + 1)) := by
  rw [show k - j = (k - (j + 1)) + 1 by omega, Nat.pow_succ, Nat.mul_comm]
theorem woK_ne {F : Nat → Bool} {e : Nat → Nat} {k z w : Nat} {x : Int32} {g : Nat → Int32} (h : woK F e k z x g) (hw : z = w) : woK F e k w x g := by rw [← hw]; exact h
