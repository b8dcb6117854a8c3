/-! the reference: a row of askings as digits -/
def woV (f : Nat → Int32) : Nat → Nat
  | 0 => 0
  | k + 1 => woV f k * 25 + (f k).toNatClampNeg
theorem k3_cases {k q : Nat} (hq : q < k) (hk : k ≤ 3) : (k = 1 ∧ q = 0) ∨ (k = 2 ∧ q = 0) ∨ (k = 2 ∧ q = 1) ∨ (k = 3 ∧ q = 0) ∨ (k = 3 ∧ q = 1) ∨ (k = 3 ∧ q = 2) := by omega
theorem woV_up {f : Nat → Int32} {q k : Nat} {x : Int32} (hq : q < k) (hk : k ≤ 3) : woV (upd f q x) k + (f q).toNatClampNeg * 25 ^ (k - 1 - q) = woV f k + x.toNatClampNeg * 25 ^ (k - 1 - q) := by
  rcases k3_cases hq hk with ⟨rfl, rfl⟩ | ⟨rfl, rfl⟩ | ⟨rfl, rfl⟩ | ⟨rfl, rfl⟩ | ⟨rfl, rfl⟩ | ⟨rfl, rfl⟩ <;> simp [woV, upd] <;> omega
theorem woV_lt {f : Nat → Int32} (hd : zRd f) : ∀ k, k ≤ 3 → woV f k < 25 ^ k
  | 0, _ => (show (0 : Nat) < 1 from Nat.one_pos)
  | k + 1, hk => by
    have h1 := woV_lt hd k (by omega)
    have h2 := z_cl (hd k (by omega))
    rw [woV, Nat.pow_succ]
    omega
theorem woV_dg {f : Nat → Int32} (hd : zRd f) {k i : Nat} (hi : i < k) (hk : k ≤ 3) : woV f k / 25 ^ (k - 1 - i) % 25 = (f i).toNatClampNeg := by
  have d0 := z_cl (hd 0 (by decide)); have d1 := z_cl (hd 1 (by decide)); have d2 := z_cl (hd 2 (by decide))
  rcases k3_cases hi hk with ⟨rfl, rfl⟩ | ⟨rfl, rfl⟩ | ⟨rfl, rfl⟩ | ⟨rfl, rfl⟩ | ⟨rfl, rfl⟩ | ⟨rfl, rfl⟩
  · show (0 * 25 + (f 0).toNatClampNeg) / 1 % 25 = _; omega
  · show ((0 * 25 + (f 0).toNatClampNeg) * 25 + (f 1).toNatClampNeg) / 25 % 25 = _; omega
  · show ((0 * 25 + (f 0).toNatClampNeg) * 25 + (f 1).toNatClampNeg) / 1 % 25 = _; omega
  · show (((0 * 25 + (f 0).toNatClampNeg) * 25 + (f 1).toNatClampNeg) * 25 + (f 2).toNatClampNeg) / 625 % 25 = _; omega
  · show (((0 * 25 + (f 0).toNatClampNeg) * 25 + (f 1).toNatClampNeg) * 25 + (f 2).toNatClampNeg) / 25 % 25 = _; omega
  · show (((0 * 25 + (f 0).toNatClampNeg) * 25 + (f 1).toNatClampNeg) * 25 + (f 2).toNatClampNeg) / 1 % 25 = _; omega
theorem woV_rm {f : Nat → Int32} (hd : zRd f) {k j : Nat} (hj : j < k) (hk : k ≤ 3) : woV f k % 25 ^ (k - j) / 25 ^ (k - (j + 1)) = (f j).toNatClampNeg ∧ woV f k % 25 ^ (k - j) % 25 ^ (k - (j + 1)) = woV f k % 25 ^ (k - (j + 1)) := by
  refine ⟨?_, Nat.mod_mod_of_dvd _ (Nat.pow_dvd_pow 25 (by omega))⟩
  have d0 := z_cl (hd 0 (by decide)); have d1 := z_cl (hd 1 (by decide)); have d2 := z_cl (hd 2 (by decide))
  rcases k3_cases hj hk with ⟨rfl, rfl⟩ | ⟨rfl, rfl⟩ | ⟨rfl, rfl⟩ | ⟨rfl, rfl⟩ | ⟨rfl, rfl⟩ | ⟨rfl, rfl⟩
  · show (0 * 25 + (f 0).toNatClampNeg) % 25 / 1 = _; omega
  · show ((0 * 25 + (f 0).toNatClampNeg) * 25 + (f 1).toNatClampNeg) % 625 / 25 = _; omega
  · show ((0 * 25 + (f 0).toNatClampNeg) * 25 + (f 1).toNatClampNeg) % 25 / 1 = _; omega
  · show (((0 * 25 + (f 0).toNatClampNeg) * 25 + (f 1).toNatClampNeg) * 25 + (f 2).toNatClampNeg) % 15625 / 625 = _; omega
  · show (((0 * 25 + (f 0).toNatClampNeg) * 25 + (f 1).toNatClampNeg) * 25 + (f 2).toNatClampNeg) % 625 / 25 = _; omega
  · show (((0 * 25 + (f 0).toNatClampNeg) * 25 + (f 1).toNatClampNeg) * 25 + (f 2).toNatClampNeg) % 25 / 1 = _; omega
/-! the next row -/
theorem wv_inc {f : Nat → Int32} {q k w : Nat} (hq : q < k) (hk : k ≤ 3) (hd : zRd f) (h : woV f k + 25 ^ (k - (q + 1)) = w + 1) : woV (upd f (nI q).toNatClampNeg (f (nI q).toNatClampNeg + 1)) k = w + 1 := by
  rw [nI_clamp (show q < 2 ^ 31 by omega)]
  have k1 := z_in25 (hd q (by omega))
  have h2 := woV_up (f := f) (x := f q + 1) hq hk
  rw [k1.1, Nat.add_mul, Nat.one_mul, show k - 1 - q = k - (q + 1) by omega] at h2
  omega
theorem wv_zero {f : Nat → Int32} {q k w : Nat} (hq : q < k) (hk : k ≤ 3) (hd : zRd f) (hc : ¬ f (nI q).toNatClampNeg + 1 < 25) (h : woV f k + 25 ^ (k - (q + 1)) = w + 1) : woV (upd (upd f (nI q).toNatClampNeg (f (nI q).toNatClampNeg + 1)) (nI q).toNatClampNeg 0) k + 25 ^ (k - q) = w + 1 := by
  rw [nI_clamp (show q < 2 ^ 31 by omega)] at hc ⊢
  rw [z_updu]
  have k1 := z_in25 (hd q (by omega))
  have h2 := woV_up (f := f) (x := 0) hq hk
  rw [k1.2.2 hc, show (0 : Int32).toNatClampNeg = 0 by decide, Nat.zero_mul, show k - 1 - q = k - (q + 1) by omega] at h2
  have h3 := p25_s hq
  omega
/-! whether a row leads from pence to pence -/
def woL (P : spF) (i : Nat → Int64) (u k : Nat) (f : Nat → Int32) (n : Nat) (f1 f3 : Nat → Int32) (j : Nat) (x : Int32) (f6 f7 : Nat → Int32) : Prop := (x = 1 ∧ ∃ Q, zFm Q n f1 f6 f3 f7 ∧ zFw Q 600000 ∧ woF P i u k (woV f k) = woD (woG P i u) (k - j) Q (woV f k % 25 ^ (k - j))) ∨ (x = 0 ∧ woF P i u k (woV f k) = false)
theorem woL_0 {P : spF} {i : Nat → Int64} {u k n : Nat} {f f1 f3 f6 : Nat → Int32} (hd : zRd f) (hk : k ≤ 3) (h : zFm (woS P i u) n f1 f6 f3 (fun _ => 0)) (hw : zFw (woS P i u) 600000) : woL P i u k f n f1 f3 0 1 f6 (fun _ => 0) := Or.inl ⟨rfl, _, h, hw, by rw [Nat.sub_zero, Nat.mod_eq_of_lt (woV_lt hd k hk)]; rfl⟩
theorem woL_1 {P : spF} {i : Nat → Int64} {u k n j : Nat} {f f1 f3 f6 f7 : Nat → Int32} {x : Int32} (h : woL P i u k f n f1 f3 j x f6 f7) (c : ¬ x = 0) : ∃ Q, zFm Q n f1 f6 f3 f7 ∧ zFw Q 600000 ∧ woF P i u k (woV f k) = woD (woG P i u) (k - j) Q (woV f k % 25 ^ (k - j)) := by
  rcases h with ⟨-, q⟩ | ⟨q, -⟩
  · exact q
  · exact absurd q c
theorem woL_d {P Q : spF} {i : Nat → Int64} {u k j c : Nat} {f : Nat → Int32} (hd : zRd f) (hk : k ≤ 3) (hj : j < k) (ec : f j = nI c) (hc : c < 25) (h : woF P i u k (woV f k) = woD (woG P i u) (k - j) Q (woV f k % 25 ^ (k - j))) : woF P i u k (woV f k) = (decide (c / 5 < Q.1 ∧ c % 5 < Q.1 ∧ ¬ c / 5 = c % 5) && spLaw Q (c / 5) (c % 5) && woD (woG P i u) (k - (j + 1)) (spAsk Q (c / 5) (c % 5)) (woV f k % 25 ^ (k - (j + 1)))) := by
  have e := woV_rm hd hj hk
  rw [ec, nI_clamp (by omega)] at e
  rw [h, show woD (woG P i u) (k - j) Q (woV f k % 25 ^ (k - j)) = woD (woG P i u) ((k - (j + 1)) + 1) Q (woV f k % 25 ^ (k - j)) by rw [show k - (j + 1) + 1 = k - j by omega], woD, e.1, e.2]
theorem woL_n1 {P Q : spF} {i : Nat → Int64} {u k n j c : Nat} {f f1 f3 f6 f7 g6 g7 : Nat → Int32} (hd : zRd f) (hk : k ≤ 3) (hj : j < k) (hn : n ≤ 5) (ec : f j = nI c) (hc : c < 25) (h1 : zFm Q n f1 f6 f3 f7) (h : woF P i u k (woV f k) = woD (woG P i u) (k - j) Q (woV f k % 25 ^ (k - j))) (hno : ¬ (vp_in (nI (c / 5)) n ∧ vp_in (nI (c % 5)) n ∧ ¬ nI (c / 5) = nI (c % 5))) : woL P i u k f n f1 f3 (j + 1) 0 g6 g7 := by
  refine Or.inr ⟨rfl, ?_⟩
  have en := h1.1
  rw [woL_d hd hk hj ec hc h, decide_eq_false (fun q => hno ⟨vp_in_nI (by omega) (by omega), vp_in_nI (by omega) (by omega), fun k => q.2.2 ((nI_eq (by omega) (by omega)).mp k)⟩)]
  rfl
theorem woL_n2 {P Q : spF} {i : Nat → Int64} {u k n j c : Nat} {f f1 f3 f6 f7 g6 g7 : Nat → Int32} (hd : zRd f) (hk : k ≤ 3) (hj : j < k) (hn : n ≤ 5) (ec : f j = nI c) (hc : c < 25) (h1 : zFm Q n f1 f6 f3 f7) (h2 : zFw Q 600000) (h : woF P i u k (woV f k) = woD (woG P i u) (k - j) Q (woV f k % 25 ^ (k - j))) (hy : vp_in (nI (c / 5)) n ∧ vp_in (nI (c % 5)) n ∧ ¬ nI (c / 5) = nI (c % 5)) (hl : q_X9_tryAsk_r f1 f3 f6 f7 (nI (c / 5)) (nI (c % 5)) < 0) : woL P i u k f n f1 f3 (j + 1) 0 g6 g7 := by
  refine Or.inr ⟨rfl, ?_⟩
  have en := h1.1
  have ha := (in_nI hy.1 (by omega)).2
  have hb := (in_nI hy.2.1 (by omega)).2
  rw [nI_clamp (by omega)] at ha hb
  have hab : ¬ c / 5 = c % 5 := fun e => hy.2.2 (by rw [e])
  rw [(try_m h1 h2 (by decide) ha hb hab).2] at hl
  have hl2 := (spAns_neg h2 (by decide) (by omega)).mp hl
  rw [woL_d hd hk hj ec hc h, Bool.eq_false_iff.mpr hl2, Bool.and_false, Bool.false_and]
theorem woL_y {P Q : spF} {i : Nat → Int64} {u k n j c : Nat} {f f1 f3 f6 f7 : Nat → Int32} (hd : zRd f) (hk : k ≤ 3) (hj : j < k) (hn : n ≤ 5) (ec : f j = nI c) (hc : c < 25) (h1 : zFm Q n f1 f6 f3 f7) (h2 : zFw Q 600000) (h : woF P i u k (woV f k) = woD (woG P i u) (k - j) Q (woV f k % 25 ^ (k - j))) (hy : vp_in (nI (c / 5)) n ∧ vp_in (nI (c % 5)) n ∧ ¬ nI (c / 5) = nI (c % 5)) (hl : ¬ q_X9_tryAsk_r f1 f3 f6 f7 (nI (c / 5)) (nI (c % 5)) < 0) : woL P i u k f n f1 f3 (j + 1) 1 (q_X9_tryAsk_g6 f1 f3 f6 f7 (nI (c / 5)) (nI (c % 5))) (q_X9_tryAsk_g7 f3 f6 f7 (nI (c / 5)) (nI (c % 5))) := by
  have en := h1.1
  have ha := (in_nI hy.1 (by omega)).2
  have hb := (in_nI hy.2.1 (by omega)).2
  rw [nI_clamp (by omega)] at ha hb
  have hab : ¬ c / 5 = c % 5 := fun e => hy.2.2 (by rw [e])
  have ht := try_m h1 h2 (by decide) ha hb hab
  rw [ht.2] at hl
  have hl2 : spLaw Q (c / 5) (c % 5) = true := Classical.byContradiction (fun q => hl ((spAns_neg h2 (by decide) (by omega)).mpr q))
  refine Or.inl ⟨rfl, _, ht.1, zFw_ask h2 (by omega) (by omega) hab, ?_⟩
  rw [woL_d hd hk hj ec hc h, decide_eq_true ⟨by omega, by omega, hab⟩, hl2]
  rfl
/-- all askings done: have all what they are to have? -/
def woR (P : spF) (i : Nat → Int64) (u k : Nat) (f : Nat → Int32) (n : Nat) (f1 f3 : Nat → Int32) (j : Nat) (x : Int32) (f6 f7 : Nat → Int32) : Prop := (x = 1 ∧ ∃ Q, zFm Q n f1 f6 f3 f7 ∧ zFw Q 600000 ∧ woF P i u k (woV f k) = woE (woG P i u) Q n ∧ woE (woG P i u) Q j = true) ∨ (x = 0 ∧ woF P i u k (woV f k) = false)
theorem woR_0 {P : spF} {i : Nat → Int64} {u k n j : Nat} {f f1 f3 f6 f7 : Nat → Int32} {x : Int32} (h : woL P i u k f n f1 f3 j x f6 f7) (c : x = 0 ∨ k ≤ j) : woR P i u k f n f1 f3 0 x f6 f7 := by
  rcases h with ⟨e, Q, h1, h2, h3⟩ | h
  · rcases c with c | c
    · rw [e] at c; exact absurd c (by decide)
    · rw [show k - j = 0 by omega, woD, ← h1.1] at h3
      exact Or.inl ⟨e, Q, h1, h2, h3, rfl⟩
  · exact Or.inr h
theorem eq64 {a b : Nat} (ha : a < 2147483648) (hb : b < 2147483648) : (nI a).toInt64 = (nI b).toInt64 ↔ a = b := by
  constructor
  · intro h
    have h1 := congrArg Int64.toInt h
    rw [Int32.toInt_toInt64, Int32.toInt_toInt64, nI_toInt ha, nI_toInt hb] at h1
    omega
  · intro h; rw [h]
theorem woR_p {P : spF} {i : Nat → Int64} {u k n j : Nat} {f f1 f3 f6 f7 : Nat → Int32} {x : Int32} (h : woR P i u k f n f1 f3 j x f6 f7) (en : n = P.1) (ht : ∀ w, w < 2 * n → zTo (i (u + w))) (hj : j < n) (hn : n ≤ 5) (c : ¬ x = 0) : ((f6 (nI j).toNatClampNeg).toInt64 = i (u + n + j) → woR P i u k f n f1 f3 (j + 1) 1 f6 f7) ∧ (¬ (f6 (nI j).toNatClampNeg).toInt64 = i (u + n + j) → woR P i u k f n f1 f3 (j + 1) 0 f6 f7) := by
  rcases h with ⟨e, Q, h1, h2, h3, h4⟩ | ⟨e, -⟩
  · have e6 := (h1.2 j hj).2.1
    have hp := zFw_pc h2 (show j < Q.1 by rw [← h1.1]; exact hj)
    have hv := to_nI (ht (n + j) (by omega))
    have eg : woG P i u j = (i (u + n + j)).toInt32.toNatClampNeg := by rw [en]; rfl
    rw [← Nat.add_assoc, ← eg] at hv
    rw [nI_clamp (by omega), e6, ← hv.2.2, eq64 (by omega) (by omega)]
    constructor
    · intro q
      exact Or.inl ⟨rfl, Q, h1, h2, h3, by rw [woE, h4, decide_eq_true q]; rfl⟩
    · intro q
      refine Or.inr ⟨rfl, ?_⟩
      rw [h3]
      cases z : woE (woG P i u) Q n
      · rfl
      · exfalso
        have hall : ∀ m, woE (woG P i u) Q m = true → ∀ w, w < m → Q.2.2.1 w = woG P i u w := by
          intro m
          induction m with
          | zero => exact fun _ w hw => absurd hw (Nat.not_lt_zero w)
          | succ m ih =>
            intro hm w hw
            rw [woE, Bool.and_eq_true, decide_eq_true_iff] at hm
            rcases Nat.lt_or_ge w m with y | y
            · exact ih hm.1 w y
            · rw [show w = m by omega]; exact hm.2
        exact q (hall n z j hj)
  · exact absurd e c
theorem woR_e {P : spF} {i : Nat → Int64} {u k n j : Nat} {f f1 f3 f6 f7 : Nat → Int32} {x : Int32} (h : woR P i u k f n f1 f3 j x f6 f7) (c : x = 0 ∨ (n ≤ j ∧ j ≤ n)) : (x = 1 ∧ woF P i u k (woV f k) = true) ∨ (x = 0 ∧ woF P i u k (woV f k) = false) := by
  rcases h with ⟨e, Q, h1, h2, h3, h4⟩ | h
  · rcases c with c | c
    · rw [e] at c; exact absurd c (by decide)
    · rw [show j = n by omega] at h4
      exact Or.inl ⟨e, h3.trans h4⟩
  · exact Or.inr h
/-! all rows -/
theorem to_in {v : Int64} : (if v < 0 then (0 : Int32) else (if 99999 < v then (0 : Int32) else (1 : Int32))) = 0 ↔ ¬ zTo v := by
  have e0 : (0 : Int64).toInt = 0 := by decide
  have e9 : (99999 : Int64).toInt = 99999 := by decide
  unfold zTo
  by_cases h1 : v < 0
  · rw [if_pos h1]
    rw [Int64.lt_iff_toInt_lt] at h1
    exact ⟨fun _ q => by omega, fun _ => rfl⟩
  · by_cases h2 : 99999 < v
    · rw [if_neg h1, if_pos h2]
      rw [Int64.lt_iff_toInt_lt] at h2
      exact ⟨fun _ q => by omega, fun _ => rfl⟩
    · rw [if_neg h1, if_neg h2]
      rw [Int64.lt_iff_toInt_lt] at h1 h2
      exact ⟨fun q => absurd q (by decide), fun q => absurd ⟨by omega, by omega⟩ q⟩
def wo1 (c : Nat) : Nat := c
theorem woK_k2 {F : Nat → Bool} {k : Nat} {x : Int32} {f g g1 : Nat → Int32} (h : woK F wo1 k (woV f k) x g) (hd : zRd f) (hk : k ≤ 3) (hf : F (woV f k) = true) (h1 : x = 0 → ∀ q, q < k → g1 q = f q) (h2 : ¬ x = 0 → ∀ q, q < k → g1 q = g q) : woK F wo1 k (woV f k + 1) (x + 1) g1 := by
  have hb : woV f k < 100000 := by
    have h3 := woV_lt hd k hk
    have h4 : 25 ^ k ≤ 25 ^ 3 := Nat.pow_le_pow_right (by decide) hk
    have h5 : 25 ^ 3 = 15625 := by decide
    omega
  have hr : ∀ i, i < k → f i = nI (wo1 (woV f k / 25 ^ (k - 1 - i) % 25)) := fun i hi => by
    rw [woV_dg hd hi hk]
    exact (in_nI (hd i (by omega)) (by decide)).1
  have h3 := woK_keep h hb hf hr
  refine ⟨h3.1, ?_⟩
  rcases h3.2 with q | ⟨y, q1, q2, q3, q4⟩
  · exact Or.inl q
  · refine Or.inr ⟨y, q1, q2, q3, fun i hi => ?_⟩
    have h6 := q4 i hi
    by_cases c : x = 0
    · rw [if_pos c] at h6; rw [h1 c i hi]; exact h6
    · rw [if_neg c] at h6; rw [h2 c i hi]; exact h6
