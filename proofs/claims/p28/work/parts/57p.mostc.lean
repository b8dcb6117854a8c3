/-! the class: sets as numbers below 32 -/
theorem bt_nI {x i : Nat} (hi : i < 32) : bt (nI x) i = x.testBit i := by
  show (BitVec.ofNat 32 x).getLsbD i = _
  rw [BitVec.getLsbD_ofNat, decide_eq_true hi, Bool.true_and]
theorem tb_5 {x q : Nat} (hx : x < 32) (h : x.testBit q = true) : q < 5 := by
  rcases Nat.lt_or_ge q 5 with k | k
  · exact k
  · have h1 : x < 2 ^ q := Nat.lt_of_lt_of_le hx (show 2 ^ 5 ≤ 2 ^ q from Nat.pow_le_pow_right (by decide) k)
    rw [Nat.testBit_lt_two_pow h1] at h
    exact absurd h (by decide)
theorem tb_sub : ∀ x, x < 32 → ∀ o, o < 32 → (nI x &&& (nI o ^^^ (-1)) = 0 ↔ x &&& o = x) := by decide +kernel
theorem tb_out0 : ∀ o, o < 32 → ∀ x, x < 32 → nI o &&& (nI x ^^^ (-1)) = nI (o &&& (31 ^^^ x)) := by decide +kernel
theorem tb_out1 : ∀ o, o < 32 → ∀ x, x < 32 → ∀ q, q < 5 → (o &&& (31 ^^^ x)).testBit q = (o.testBit q && !x.testBit q) := by decide +kernel
theorem tb_out {o x : Nat} (ho : o < 32) (hx : x < 32) : ∃ y, y < 32 ∧ nI o &&& (nI x ^^^ (-1)) = nI y ∧ ∀ q, q < 5 → (y.testBit q = true ↔ o.testBit q = true ∧ ¬ x.testBit q = true) := by
  refine ⟨o &&& (31 ^^^ x), Nat.lt_of_le_of_lt Nat.and_le_left ho, tb_out0 o ho x hx, fun q hq => ?_⟩
  rw [tb_out1 o ho x hx q hq, Bool.and_eq_true, Bool.not_eq_true']
  exact ⟨fun k => ⟨k.1, by rw [k.2]; decide⟩, fun k => ⟨k.1, Bool.eq_false_iff.mpr k.2⟩⟩
theorem tb_and {o : Nat} (ho : o < 32) (x : Int32) : ∃ y, y < 32 ∧ nI o &&& x = nI y ∧ ∀ q, q < 5 → (y.testBit q = true ↔ o.testBit q = true ∧ bt x q = true) := by
  obtain ⟨m, -, rfl⟩ := z_of32 x
  refine ⟨o &&& m, Nat.lt_of_le_of_lt Nat.and_le_left ho, z_nand o m, fun q hq => ?_⟩
  rw [bt_nI (by omega), Nat.testBit_and, Bool.and_eq_true]
theorem tb_le {x o : Nat} (h : ∀ q, q < 5 → x.testBit q = true → o.testBit q = true) (hx : x < 32) : x ≤ o := by
  have e : x &&& o = x := by
    apply Nat.eq_of_testBit_eq
    intro i
    rw [Nat.testBit_and]
    cases c : x.testBit i
    · rfl
    · rw [h i (tb_5 hx c) c]; rfl
  exact Nat.le_trans (Nat.le_of_eq e.symm) Nat.and_le_right
theorem tb_5b : ∀ b0 b1 b2 b3 b4 : Bool, ∃ y, y < 32 ∧ y.testBit 0 = b0 ∧ y.testBit 1 = b1 ∧ y.testBit 2 = b2 ∧ y.testBit 3 = b3 ∧ y.testBit 4 = b4 := by
  intro b0 b1 b2 b3 b4
  refine ⟨b0.toNat + 2 * b1.toNat + 4 * b2.toNat + 8 * b3.toNat + 16 * b4.toNat, ?_⟩
  revert b0 b1 b2 b3 b4
  decide
theorem tb_mk (c : Nat → Bool) : ∃ y, y < 32 ∧ ∀ q, q < 5 → y.testBit q = c q := by
  obtain ⟨y, h, h0, h1, h2, h3, h4⟩ := tb_5b (c 0) (c 1) (c 2) (c 3) (c 4)
  refine ⟨y, h, fun q hq => ?_⟩
  rcases (show q = 0 ∨ q = 1 ∨ q = 2 ∨ q = 3 ∨ q = 4 by omega) with rfl | rfl | rfl | rfl | rfl
  · exact h0
  · exact h1
  · exact h2
  · exact h3
  · exact h4
theorem tb_all {n a : Nat} (hn : n ≤ 5) {as : Int32} (ha : as = nI a ∧ a < n) {x : Int32} (h : (1 : Int32) <<< (nI n &&& 31) - 1 = x) : ∃ y, y < 32 ∧ x &&& (((1 : Int32) <<< (as &&& 31)) ^^^ (-1)) = nI y ∧ ∀ q, q < 5 → (y.testBit q = true ↔ q < n ∧ ¬ q = a) := by
  obtain ⟨m, -, em⟩ := z_of32 x
  have hb : ∀ q, q < 32 → m.testBit q = decide (q < n) := fun q hq => by rw [← bt_nI hq, ← em, ← h]; exact mask_b n (by omega) q hq
  obtain ⟨ea, ha⟩ := ha
  obtain ⟨y, hy, h5⟩ := tb_mk (fun q => decide (q < n) && !decide (q = a))
  refine ⟨y, hy, b_ext (fun i hi => ?_), fun q hq => ?_⟩
  · rw [ea, bt_clr (by omega) hi, em, bt_nI hi, hb i hi, bt_nI hi]
    rcases Nat.lt_or_ge i 5 with k | k
    · exact (h5 i k).symm
    · have h2 : y.testBit i = false := by
        cases c : y.testBit i
        · rfl
        · exact absurd (tb_5 hy c) (by omega)
      rw [h2, decide_eq_false (by omega)]; rfl
  · rw [h5 q hq, Bool.and_eq_true, decide_eq_true_iff, Bool.not_eq_true', decide_eq_false_iff_not]
/-! those of a set are asked at one time: what the way grows by -/
def wnE (n a : Nat) (F : Nat → Bool) (T : Nat → Nat) : Nat := wnC n a (fun q => if F q = true then T q else 0)
def wnAd (S : Nat → Bool) (t j : Nat) : Nat := wnH (fun q => if q < j then (if S q = true then t else 0) else 0) 5
theorem wnH_i (c : Nat → Nat) {j : Nat} (hj : j < 5) : wnH (fun q => if q < j + 1 then c q else 0) 5 = wnH (fun q => if q < j then c q else 0) 5 + c j * 10 ^ (4 - j) := by
  rcases (show j = 0 ∨ j = 1 ∨ j = 2 ∨ j = 3 ∨ j = 4 by omega) with rfl | rfl | rfl | rfl | rfl
  · show ((((0 * 10 + c 0) * 10 + 0) * 10 + 0) * 10 + 0) * 10 + 0 = (((((0 * 10 + 0) * 10 + 0) * 10 + 0) * 10 + 0) * 10 + 0) + c 0 * 10000; omega
  · show ((((0 * 10 + c 0) * 10 + c 1) * 10 + 0) * 10 + 0) * 10 + 0 = (((((0 * 10 + c 0) * 10 + 0) * 10 + 0) * 10 + 0) * 10 + 0) + c 1 * 1000; omega
  · show ((((0 * 10 + c 0) * 10 + c 1) * 10 + c 2) * 10 + 0) * 10 + 0 = (((((0 * 10 + c 0) * 10 + c 1) * 10 + 0) * 10 + 0) * 10 + 0) + c 2 * 100; omega
  · show ((((0 * 10 + c 0) * 10 + c 1) * 10 + c 2) * 10 + c 3) * 10 + 0 = (((((0 * 10 + c 0) * 10 + c 1) * 10 + c 2) * 10 + 0) * 10 + 0) + c 3 * 10; omega
  · show ((((0 * 10 + c 0) * 10 + c 1) * 10 + c 2) * 10 + c 3) * 10 + c 4 = (((((0 * 10 + c 0) * 10 + c 1) * 10 + c 2) * 10 + c 3) * 10 + 0) + c 4 * 1; omega
theorem wnAd_0 (S : Nat → Bool) (t : Nat) : wnAd S t 0 = 0 := by
  unfold wnAd
  rw [wnH_cong (E := fun _ => 0) 5 (fun q _ => if_neg (Nat.not_lt_zero q))]
  rfl
theorem wnAd_y {S : Nat → Bool} {t j : Nat} (hj : j < 5) (h : S j = true) : wnAd S t (j + 1) = wnAd S t j + t * 10 ^ (4 - j) := by
  unfold wnAd
  rw [wnH_i _ hj, if_pos h]
theorem wnAd_n {S : Nat → Bool} {t j : Nat} (hj : j < 5) (h : ¬ S j = true) : wnAd S t (j + 1) = wnAd S t j := by
  unfold wnAd
  rw [wnH_i _ hj, if_neg h, Nat.zero_mul, Nat.add_zero]
theorem wnAd_e {S : Nat → Bool} {t n a : Nat} (hS : ∀ q, q < n → S q = true → ¬ q = a) : wnAd S t n = wnE n a S (fun _ => t) := by
  unfold wnAd wnE wnC
  refine wnH_cong 5 (fun q _ => ?_)
  unfold wnD
  by_cases h1 : q < n
  · rw [if_pos h1]
    by_cases h2 : q = a
    · rw [if_neg (fun k => hS q h1 k h2), if_neg (fun k => k.2 h2)]
    · rw [if_pos (show q < n ∧ ¬ q = a from ⟨h1, h2⟩)]
  · rw [if_neg h1, if_neg (fun k => h1 k.1)]
theorem wt_nI {j : Nat} (hj : j < 5) : ([10000, 1000, 100, 10, 1] : List Int32).getD (nI j).toNatClampNeg 0 = nI (10 ^ (4 - j)) := by
  rcases (show j = 0 ∨ j = 1 ∨ j = 2 ∨ j = 3 ∨ j = 4 by omega) with rfl | rfl | rfl | rfl | rfl <;> decide
def wnI (P : spF) (a : Nat) (S : Nat → Bool) (t n : Nat) (kn : Int32) (f : Nat → Int32) (j : Nat) (y ak : Int32) (g : Nat → Int32) : Prop := zFr (wnB a S j P) n kn ak f g ∧ y = nI (wnAd S t j)
theorem wnI_0 {P : spF} {a t n : Nat} {S : Nat → Bool} {kn ak : Int32} {f g : Nat → Int32} (h : zFr P n kn ak f g) : wnI P a S t n kn f 0 0 ak g := ⟨h, by rw [wnAd_0]; rfl⟩
theorem wnI_n {P : spF} {a t n j x : Nat} {kn ak y : Int32} {f g : Nat → Int32} (h : wnI P a x.testBit t n kn f j y ak g) (hj : j < 5) (c : nI x &&& ((1 : Int32) <<< (nI j &&& 31)) = 0) : wnI P a x.testBit t n kn f (j + 1) y ak g := by
  have k : ¬ x.testBit j = true := by rw [← bt_nI (i := j) (by omega), (bt_test (by omega)).mp c]; decide
  obtain ⟨h1, h2⟩ := h
  exact ⟨by rw [wnB, if_neg k]; exact h1, by rw [wnAd_n hj k]; exact h2⟩
theorem wnI_y {P : spF} {a t n j x N : Nat} {kn ak y as : Int32} {f g : Nat → Int32} (h : wnI P a x.testBit t n kn f j y ak g) (hw : zFw P N) (hN : N < 1000000000) (ha : as = nI a ∧ a < n) (hn : n ≤ 5) (hj : j < n) (hS : ∀ q, x.testBit q = true → q < n ∧ ¬ q = a) (c : ¬ nI x &&& ((1 : Int32) <<< (nI j &&& 31)) = 0) : wnI P a x.testBit t n kn f (j + 1) (y + nI t * ([10000, 1000, 100, 10, 1] : List Int32).getD (nI j).toNatClampNeg 0) (q_X0_tryAsking_ak1 kn ak g as (nI j)) (q_X0_tryAsking_g1 kn ak f g as (nI j)) := by
  have k : x.testBit j = true := by
    rw [← bt_nI (i := j) (by omega)]
    cases e : bt (nI x) j
    · exact absurd ((bt_test (by omega)).mpr e) c
    · rfl
  obtain ⟨h1, h2⟩ := h
  obtain ⟨ea, ha2⟩ := ha
  have en : n = P.1 := by have h3 := h1.1; rw [wnB_n] at h3; exact h3
  have hw1 := wnB_w (S := x.testBit) hw (by omega) (fun q z => (hS q z).2) j (by omega)
  refine ⟨by rw [wnB, if_pos k, ea]; exact (try_c h1 hw1 hN ha2 hj (fun e => (hS j k).2 e.symm)).1, ?_⟩
  rw [wnAd_y (by omega) k, h2, wt_nI (by omega), pk_mul, nI_add]
theorem wnI_e {P : spF} {a t n j : Nat} {S : Nat → Bool} {kn ak y : Int32} {f g : Nat → Int32} (h : wnI P a S t n kn f j y ak g) (hj : j ≤ n) (c : n ≤ j) (hS : ∀ q, S q = true → q < n ∧ ¬ q = a) : y = nI (wnE n a S (fun _ => t)) ∧ zFr (wnB a S n P) n kn ak f g := by
  have e : j = n := by omega
  subst e
  rw [← wnAd_e (fun q _ z => (hS q z).2)]
  exact ⟨h.2, h.1⟩
/-! which is better: more, or as much by a lesser way -/
def wnBt (m w m' w' : Int) : Prop := m < m' ∨ (m = m' ∧ w' ≤ w)
theorem wnBt_r (m w : Int) : wnBt m w m w := Or.inr ⟨rfl, Int.le_refl _⟩
theorem wnBt_t {m w m1 w1 m2 w2 : Int} (h : wnBt m w m1 w1) (k : wnBt m1 w1 m2 w2) : wnBt m w m2 w2 := by
  unfold wnBt at *
  omega
def wnKb (a b mo wy mo1 wy1 : Int32) : Prop := wnBt mo.toInt wy.toInt mo1.toInt wy1.toInt ∧ wnBt a.toInt b.toInt mo1.toInt wy1.toInt ∧ ((mo1 = mo ∧ wy1 = wy) ∨ (mo1 = a ∧ wy1 = b))
theorem kb_1 {a b mo wy : Int32} (h : mo < a) : wnKb a b mo wy a b := ⟨Or.inl (Int32.lt_iff_toInt_lt.mp h), wnBt_r _ _, Or.inr ⟨rfl, rfl⟩⟩
theorem kb_2 {a b mo wy : Int32} (h : a = mo) (k : b < wy) : wnKb a b mo wy a b := ⟨Or.inr ⟨by rw [h], Int.le_of_lt (Int32.lt_iff_toInt_lt.mp k)⟩, wnBt_r _ _, Or.inr ⟨rfl, rfl⟩⟩
theorem kb_3 {a b mo wy : Int32} (h : a = mo) (k : wy ≤ b) : wnKb a b mo wy mo wy := ⟨wnBt_r _ _, Or.inr ⟨by rw [h], Int32.le_iff_toInt_le.mp k⟩, Or.inl ⟨rfl, rfl⟩⟩
theorem kb_4 {a b mo wy : Int32} (h : a ≤ mo) (k : ¬ a = mo) : wnKb a b mo wy mo wy := ⟨wnBt_r _ _, Or.inl (by
  have h1 := Int32.le_iff_toInt_le.mp h
  have h2 : ¬ a.toInt = mo.toInt := fun e => k (Int32.toInt_inj.mp e)
  omega), Or.inl ⟨rfl, rfl⟩⟩
/-! the search: rows that go on from a time, F being left -/
def wnK (L : spL) (n a t : Nat) (F : Nat → Bool) (T : Nat → Nat) : Prop := ∀ q, q < n → ¬ q = a → (F q = true → t ≤ T q ∧ T q ≤ L.1 ∧ (T q = L.1 ∨ wnW L a (T q) q)) ∧ (¬ F q = true → T q < t)
def wnQ (L : spL) (P : spF) (a t : Nat) (F : Nat → Bool) (C : Nat) (D : (Nat → Nat) → Prop) (m w m1 w1 : Int) : Prop := wnBt m w m1 w1 ∧ (∀ T, wnK L P.1 a t F T → D T → wnBt (wnG L a T (L.1 - t) t P : Nat) (C + wnE P.1 a F T : Nat) m1 w1) ∧ ((m1 = m ∧ w1 = w) ∨ ∃ T, wnK L P.1 a t F T ∧ m1 = (wnG L a T (L.1 - t) t P : Nat) ∧ w1 = (C + wnE P.1 a F T : Nat))
theorem wnQ_w {L : spL} {P : spF} {a t C : Nat} {F : Nat → Bool} {D D' : (Nat → Nat) → Prop} {m w m1 w1 : Int} (h : wnQ L P a t F C D m w m1 w1) (k : ∀ T, wnK L P.1 a t F T → D' T → D T) : wnQ L P a t F C D' m w m1 w1 := ⟨h.1, fun T h1 h2 => h.2.1 T h1 (k T h1 h2), h.2.2⟩
theorem wnQ_0 {L : spL} {P : spF} {a t C : Nat} {F : Nat → Bool} {D : (Nat → Nat) → Prop} {m w : Int} (k : ∀ T, ¬ D T) : wnQ L P a t F C D m w m w := ⟨wnBt_r _ _, fun T _ h => absurd h (k T), Or.inl ⟨rfl, rfl⟩⟩
/-- what holds where a search goes on -/
def wnH0 (L : spL) (n a t : Nat) (F : Nat → Bool) (C : Nat) : Prop := (∀ q, F q = true → q < n ∧ ¬ q = a) ∧ (t = 0 → ∀ q, q < n → ¬ q = a → F q = true) ∧ C + wnE n a F (fun _ => 8) < 100000 ∧ n ≤ 5 ∧ L.1 ≤ 8 ∧ t ≤ L.1
theorem wnE_le {n a : Nat} {F : Nat → Bool} {T U : Nat → Nat} (h : ∀ q, q < n → ¬ q = a → F q = true → T q ≤ U q) : wnE n a F T ≤ wnE n a F U := by
  unfold wnE wnC
  refine wnH_mono 5 (fun q _ => ?_)
  unfold wnD
  by_cases c : q < n ∧ ¬ q = a
  · rw [if_pos c, if_pos c]
    show (if F q = true then T q else 0) ≤ (if F q = true then U q else 0)
    by_cases k : F q = true
    · rw [if_pos k, if_pos k]; exact h q c.1 c.2 k
    · rw [if_neg k, if_neg k]; exact Nat.le_refl _
  · rw [if_neg c, if_neg c]; exact Nat.le_refl _
theorem wnE_cong {n a : Nat} {F : Nat → Bool} {T U : Nat → Nat} (h : ∀ q, q < n → ¬ q = a → F q = true → T q = U q) : wnE n a F T = wnE n a F U := Nat.le_antisymm (wnE_le (fun q h1 h2 h3 => Nat.le_of_eq (h q h1 h2 h3))) (wnE_le (fun q h1 h2 h3 => Nat.le_of_eq (h q h1 h2 h3).symm))
theorem wnE_add {n a : Nat} {F G S : Nat → Bool} {T U : Nat → Nat} (h : ∀ q, q < n → ¬ q = a → (if F q = true then T q else 0) = (if S q = true then U q else 0) + (if G q = true then T q else 0)) : wnE n a F T = wnE n a S U + wnE n a G T := by
  unfold wnE wnC
  refine wnH_add 5 (fun q _ => ?_)
  unfold wnD
  by_cases c : q < n ∧ ¬ q = a
  · rw [if_pos c, if_pos c, if_pos c]; exact h q c.1 c.2
  · rw [if_neg c, if_neg c, if_neg c]
theorem wn_leaf {L : spL} {P : spF} {n a t C : Nat} {F : Nat → Bool} {mo wy mo1 wy1 : Int32} {N : Nat} (en : n = P.1) (h : wnH0 L n a t F C) (ht : L.1 ≤ t) (hw : zFw P N) (hN : N < 1000000000) (ha : a < n) (hk : wnKb (nI ((wnB a F n P).2.2.1 a)) (nI (C + wnE n a F (fun _ => t))) mo wy mo1 wy1) : wnQ L P a t F C (fun _ => True) mo.toInt wy.toInt mo1.toInt wy1.toInt := by
  subst en
  obtain ⟨h1, h2, h3, h4, h5, h6⟩ := h
  have et : t = L.1 := by omega
  have e0 : L.1 - t = 0 := by omega
  have eT : ∀ T, wnK L P.1 a t F T → wnG L a T (L.1 - t) t P = (wnB a F P.1 P).2.2.1 a ∧ wnE P.1 a F T = wnE P.1 a F (fun _ => t) := by
    intro T hT
    constructor
    · rw [e0, wnG_0, wnB_cong (S := wnT a T t) (S' := F) P.1 (fun q hq => bool_ext (by
        rw [wnT_t]
        constructor
        · rintro ⟨k1, k2⟩
          exact Classical.byContradiction (fun k => by have k3 := (hT q hq k1).2 k; omega)
        · intro k
          have k1 := (h1 q k).2
          have k2 := (hT q hq k1).1 k
          exact ⟨k1, by omega⟩))]
    · exact wnE_cong (fun q hq hqa k => by
        have k2 := (hT q hq hqa).1 k
        show T q = t
        omega)
  have hT0 : wnK L P.1 a t F (fun q => if F q = true then t else 0) := by
    intro q hq hqa
    constructor
    · intro k
      show t ≤ (if F q = true then t else 0) ∧ (if F q = true then t else 0) ≤ L.1 ∧ ((if F q = true then t else 0) = L.1 ∨ wnW L a (if F q = true then t else 0) q)
      rw [if_pos k]
      exact ⟨Nat.le_refl _, by omega, Or.inl et⟩
    · intro k
      show (if F q = true then t else 0) < t
      rw [if_neg k]
      rcases Nat.eq_zero_or_pos t with e | e
      · exact absurd (h2 e q hq hqa) k
      · exact e
  have hle : wnE P.1 a F (fun _ => t) ≤ wnE P.1 a F (fun _ => 8) := wnE_le (fun q _ _ _ => (show t ≤ 8 by omega))
  have hv : (wnB a F P.1 P).2.2.1 a ≤ N := zFw_pc (wnB_w hw ha (fun q z => (h1 q z).2) P.1 (Nat.le_refl _)) (by rw [wnB_n]; exact ha)
  obtain ⟨k1, k2, k3⟩ := hk
  rw [nI_toInt (by omega), nI_toInt (by omega)] at k2
  refine ⟨k1, fun T hT _ => ?_, ?_⟩
  · rw [(eT T hT).1, (eT T hT).2]; exact k2
  · rcases k3 with ⟨c1, c2⟩ | ⟨c1, c2⟩
    · exact Or.inl ⟨by rw [c1], by rw [c2]⟩
    · refine Or.inr ⟨_, hT0, ?_, ?_⟩
      · rw [(eT _ hT0).1, c1, nI_toInt (by omega)]
      · rw [(eT _ hT0).2, c2, nI_toInt (by omega)]
theorem wn_step {L : spL} {P : spF} {a t C : Nat} {F S G : Nat → Bool} {D D' : (Nat → Nat) → Prop} {m0 w0 m w m1 w1 : Int} (hH : wnH0 L P.1 a t F C) (ht : t < L.1) (hS : ∀ q, q < 5 → S q = true → F q = true ∧ wnW L a t q) (hG : ∀ q, q < 5 → (G q = true ↔ F q = true ∧ ¬ S q = true)) (h : wnQ L P a t F C D m0 w0 m w)
    (hd : wnQ L (spEnd L t (spAsk (wnB a S P.1 P) (L.2.1 t) (L.2.2.1 t))) a (t + 1) G (C + wnE P.1 a S (fun _ => t)) (fun _ => True) m w m1 w1)
    (hD : ∀ T, wnK L P.1 a t F T → D' T → D T ∨ ∀ q, q < 5 → (S q = true ↔ F q = true ∧ T q = t)) : wnQ L P a t F C D' m0 w0 m1 w1 := by
  obtain ⟨h1, h2, h3, h4, h5, h6⟩ := hH
  have en : (spEnd L t (spAsk (wnB a S P.1 P) (L.2.1 t) (L.2.2.1 t))).1 = P.1 := by rw [spEnd_n, spAsk_n, wnB_n]
  unfold wnQ at hd
  rw [en] at hd
  obtain ⟨d1, d2, d3⟩ := hd
  have eS : ∀ T, wnK L P.1 a t F T → (∀ q, q < 5 → (S q = true ↔ F q = true ∧ T q = t)) → wnG L a T (L.1 - t) t P = wnG L a T (L.1 - (t + 1)) (t + 1) (spEnd L t (spAsk (wnB a S P.1 P) (L.2.1 t) (L.2.2.1 t))) ∧ C + wnE P.1 a F T = C + wnE P.1 a S (fun _ => t) + wnE P.1 a G T := by
    intro T hT hq9
    constructor
    · rw [show L.1 - t = (L.1 - (t + 1)) + 1 by omega, wnG_s, wnB_cong (S := wnT a T t) (S' := S) P.1 (fun q hq => bool_ext (by
        rw [wnT_t, hq9 q (by omega)]
        constructor
        · rintro ⟨k1, k2⟩
          exact ⟨Classical.byContradiction (fun k => by have k3 := (hT q hq k1).2 k; omega), k2⟩
        · rintro ⟨k1, k2⟩
          exact ⟨(h1 q k1).2, k2⟩))]
    · rw [wnE_add (F := F) (S := S) (G := G) (T := T) (U := fun _ => t) (fun q hq hqa => ?_), Nat.add_assoc]
      have g1 := hq9 q (by omega)
      have g2 := hG q (by omega)
      by_cases k1 : F q = true
      · rw [if_pos k1]
        by_cases k2 : S q = true
        · rw [if_pos k2, if_neg (fun k => (g2.mp k).2 k2), (g1.mp k2).2, Nat.add_zero]
        · rw [if_neg k2, if_pos (g2.mpr ⟨k1, k2⟩), Nat.zero_add]
      · rw [if_neg k1, if_neg (fun k => k1 (g1.mp k).1), if_neg (fun k => k1 (g2.mp k).1)]
  refine ⟨wnBt_t h.1 d1, fun T hT hDT => ?_, ?_⟩
  · rcases hD T hT hDT with k | k
    · exact wnBt_t (h.2.1 T hT k) d1
    · obtain ⟨e1, e2⟩ := eS T hT k
      rw [e1, e2]
      refine d2 T (fun q hq hqa => ⟨fun g => ?_, fun g => ?_⟩) trivial
      · have g2 := (hG q (by omega)).mp g
        have g3 := (hT q hq hqa).1 g2.1
        have g4 : ¬ T q = t := fun e => g2.2 ((k q (by omega)).mpr ⟨g2.1, e⟩)
        exact ⟨by omega, g3.2⟩
      · by_cases k1 : F q = true
        · have k2 : S q = true := Classical.byContradiction (fun z => g ((hG q (by omega)).mpr ⟨k1, z⟩))
          have k3 := ((k q (by omega)).mp k2).2
          omega
        · have k3 := (hT q hq hqa).2 k1
          omega
  · rcases d3 with ⟨c1, c2⟩ | ⟨T, hT, c1, c2⟩
    · rw [c1, c2]; exact h.2.2
    · have hX : wnK L P.1 a t F (fun q => if G q = true then T q else if F q = true then t else 0) := by
        intro q hq hqa
        have g2 := hG q (by omega)
        constructor
        · intro k
          show t ≤ (if G q = true then T q else if F q = true then t else 0) ∧ (if G q = true then T q else if F q = true then t else 0) ≤ L.1 ∧ ((if G q = true then T q else if F q = true then t else 0) = L.1 ∨ wnW L a (if G q = true then T q else if F q = true then t else 0) q)
          by_cases g : G q = true
          · rw [if_pos g]
            have g3 := (hT q hq hqa).1 g
            exact ⟨by omega, g3.2⟩
          · rw [if_neg g, if_pos k]
            have k2 : S q = true := Classical.byContradiction (fun z => g (g2.mpr ⟨k, z⟩))
            exact ⟨Nat.le_refl _, h6, Or.inr (hS q (by omega) k2).2⟩
        · intro k
          show (if G q = true then T q else if F q = true then t else 0) < t
          rw [if_neg (fun g => k (g2.mp g).1), if_neg k]
          rcases Nat.eq_zero_or_pos t with e | e
          · exact absurd (h2 e q hq hqa) k
          · exact e
      have hXS : ∀ q, q < 5 → (S q = true ↔ F q = true ∧ (if G q = true then T q else if F q = true then t else 0) = t) := by
        intro q hq
        have g2 := hG q hq
        constructor
        · intro k
          have k1 := (hS q hq k).1
          exact ⟨k1, by rw [if_neg (fun g => (g2.mp g).2 k), if_pos k1]⟩
        · rintro ⟨k1, k2⟩
          refine Classical.byContradiction (fun z => ?_)
          have g := g2.mpr ⟨k1, z⟩
          rw [if_pos g] at k2
          have g3 := (hT q (h1 q k1).1 (h1 q k1).2).1 g
          omega
      obtain ⟨e1, e2⟩ := eS _ hX hXS
      refine Or.inr ⟨_, hX, ?_, ?_⟩
      · rw [e1, c1]
        congr 1
        refine wnG_cong _ _ _ (fun q hq hqa u hu => ?_)
        rw [en] at hq
        show T q = u ↔ (if G q = true then T q else if F q = true then t else 0) = u
        by_cases g : G q = true
        · rw [if_pos g]
        · rw [if_neg g]
          have g3 := (hT q hq hqa).2 g
          by_cases k : F q = true
          · rw [if_pos k]; exact ⟨fun z => absurd z (by omega), fun z => absurd z (by omega)⟩
          · rw [if_neg k]; exact ⟨fun z => absurd z (by omega), fun z => absurd z (by omega)⟩
      · rw [e2, c2, wnE_cong (F := G) (T := T) (U := fun q => if G q = true then T q else if F q = true then t else 0) (fun q _ _ g => by
          show T q = (if G q = true then T q else if F q = true then t else 0)
          rw [if_pos g])]
theorem wnH0_s {L : spL} {n a t C : Nat} {F S G : Nat → Bool} (hH : wnH0 L n a t F C) (ht : t < L.1) (hS : ∀ q, q < 5 → S q = true → F q = true ∧ wnW L a t q) (hG : ∀ q, q < 5 → (G q = true ↔ F q = true ∧ ¬ S q = true)) (hG5 : ∀ q, G q = true → q < 5) : wnH0 L n a (t + 1) G (C + wnE n a S (fun _ => t)) := by
  obtain ⟨h1, h2, h3, h4, h5, h6⟩ := hH
  refine ⟨fun q k => h1 q ((hG q (hG5 q k)).mp k).1, fun e => absurd e (by omega), ?_, h4, h5, ht⟩
  have e1 : wnE n a F (fun _ => 8) = wnE n a S (fun _ => 8) + wnE n a G (fun _ => 8) := wnE_add (fun q hq hqa => by
    have g2 := hG q (by omega)
    by_cases k1 : F q = true
    · rw [if_pos k1]
      by_cases k2 : S q = true
      · rw [if_pos k2, if_neg (fun k => (g2.mp k).2 k2)]
      · rw [if_neg k2, if_pos (g2.mpr ⟨k1, k2⟩)]
    · rw [if_neg k1, if_neg (fun k => k1 (hS q (by omega) k).1), if_neg (fun k => k1 (g2.mp k).1)])
  have e2 : wnE n a S (fun _ => t) ≤ wnE n a S (fun _ => 8) := wnE_le (fun q _ _ _ => (show t ≤ 8 by omega))
  omega
theorem wn_pc {P : spF} {n a : Nat} {S : Nat → Bool} {kn ak as : Int32} {f g : Nat → Int32} (h : zFr (wnB a S n P) n kn ak f g) (ha : as = nI a ∧ a < n) (hn : n ≤ 5) : g as.toNatClampNeg = nI ((wnB a S n P).2.2.1 a) := by
  rw [ha.1, nI_clamp (by omega)]
  exact h.2.2.1 a ha.2
/-! the search goes through the sets by their numbers -/
def wnDx (t : Nat) (F : Nat → Bool) (x : Nat) (T : Nat → Nat) : Prop := ∃ y, y < x ∧ ∀ q, q < 5 → (y.testBit q = true ↔ F q = true ∧ T q = t)
theorem wnDx_0 {t : Nat} {F : Nat → Bool} (T : Nat → Nat) : ¬ wnDx t F 0 T := fun ⟨_, h, _⟩ => absurd h (Nat.not_lt_zero _)
theorem wnDx_s {t x : Nat} {F : Nat → Bool} {T : Nat → Nat} (h : wnDx t F (x + 1) T) : wnDx t F x T ∨ ∀ q, q < 5 → (x.testBit q = true ↔ F q = true ∧ T q = t) := by
  obtain ⟨y, h1, h2⟩ := h
  rcases Nat.lt_or_ge y x with k | k
  · exact Or.inl ⟨y, k, h2⟩
  · have e : y = x := by omega
    subst e
    exact Or.inr h2
abbrev wnOp (L : spL) (a t : Nat) (F : Nat → Bool) (o : Nat) : Prop := o < 32 ∧ ∀ q, q < 5 → (o.testBit q = true ↔ F q = true ∧ wnW L a t q)
theorem wn_end {L : spL} {P : spF} {n a t C o x : Nat} {F : Nat → Bool} {m w m1 w1 : Int} (en : n = P.1) (hH : wnH0 L n a t F C) (ht : t < L.1) (ho : wnOp L a t F o) (hx : o < x) (h : wnQ L P a t F C (wnDx t F x) m w m1 w1) : wnQ L P a t F C (fun _ => True) m w m1 w1 := by
  subst en
  refine wnQ_w h (fun T hT _ => ?_)
  obtain ⟨y, hy, hb⟩ := tb_mk (fun q => F q && decide (T q = t))
  have hb2 : ∀ q, q < 5 → (y.testBit q = true ↔ F q = true ∧ T q = t) := fun q hq => by rw [hb q hq, Bool.and_eq_true, decide_eq_true_iff]
  refine ⟨y, Nat.lt_of_le_of_lt (tb_le (fun q hq k => ?_) hy) hx, hb2⟩
  obtain ⟨k1, k2⟩ := (hb2 q hq).mp k
  have k3 := hH.1 q k1
  have k4 := (hT q k3.1 k3.2).1 k1
  rcases k4.2.2 with e | e
  · omega
  · rw [k2] at e
    exact (ho.2 q hq).mpr ⟨k1, e⟩
theorem wn_skip {L : spL} {P : spF} {n a t C o x : Nat} {F : Nat → Bool} {m w m1 w1 : Int} (en : n = P.1) (hH : wnH0 L n a t F C) (ht : t < L.1) (ho : wnOp L a t F o) (hx : x ≤ o) (c : ¬ nI x &&& (nI o ^^^ (-1)) = 0) (h : wnQ L P a t F C (wnDx t F x) m w m1 w1) : wnQ L P a t F C (wnDx t F (x + 1)) m w m1 w1 := by
  subst en
  refine wnQ_w h (fun T hT hD => (wnDx_s hD).resolve_right (fun k => c ((tb_sub x (by have := ho.1; omega) o ho.1).mpr ?_)))
  apply Nat.eq_of_testBit_eq
  intro i
  rw [Nat.testBit_and]
  cases e : x.testBit i
  · rfl
  · have hi := tb_5 (x := x) (by have := ho.1; omega) e
    obtain ⟨k1, k2⟩ := (k i hi).mp e
    have k3 := hH.1 i k1
    have k4 := (hT i k3.1 k3.2).1 k1
    rcases k4.2.2 with z | z
    · omega
    · rw [k2] at z
      rw [(ho.2 i hi).mpr ⟨k1, z⟩]; rfl
theorem wn_in {L : spL} {a t o x : Nat} {F : Nat → Bool} (ho : wnOp L a t F o) (hx : x ≤ o) (c : nI x &&& (nI o ^^^ (-1)) = 0) : ∀ q, q < 5 → x.testBit q = true → F q = true ∧ wnW L a t q := by
  intro q hq k
  refine (ho.2 q hq).mp ?_
  have e := (tb_sub x (by have := ho.1; omega) o ho.1).mp c
  rw [← e, Nat.testBit_and, Bool.and_eq_true] at k
  exact k.2
theorem wn_next {L : spL} {P : spF} {n a t C o x y : Nat} {F : Nat → Bool} {m0 w0 m w m1 w1 : Int} (en : n = P.1) (hH : wnH0 L n a t F C) (ht : t < L.1) (ho : wnOp L a t F o) (hx : x ≤ o) (c : nI x &&& (nI o ^^^ (-1)) = 0) (hy : ∀ q, q < 5 → (y.testBit q = true ↔ F q = true ∧ ¬ x.testBit q = true)) (h : wnQ L P a t F C (wnDx t F x) m0 w0 m w)
    (hd : wnQ L (spEnd L t (spAsk (wnB a x.testBit n P) (L.2.1 t) (L.2.2.1 t))) a (t + 1) y.testBit (C + wnE n a x.testBit (fun _ => t)) (fun _ => True) m w m1 w1) : wnQ L P a t F C (wnDx t F (x + 1)) m0 w0 m1 w1 := by
  subst en
  exact wn_step hH ht (wn_in ho hx c) hy h hd (fun _ _ hD => wnDx_s hD)
/-! whom it is worth to ask at a time -/
theorem wk_b {k i : Nat} (hk : k < 5) (hi : i < 5) : bt ((1 : Int32) <<< (nI k &&& 31)) i = true ↔ i = k := by rw [bt_one (by omega) (by omega), decide_eq_true_iff]
theorem wk_31 : ∀ q, q < 5 → bt 31 q = true := by decide
def wnV (L : spL) (a t : Nat) (r : Int32) : Prop := ∀ q, q < 5 → (bt r q = true ↔ wnW L a t q)
theorem wnV_0 {L : spL} {a : Nat} : wnV L a 0 31 := fun q hq => ⟨fun _ => Or.inl rfl, fun _ => wk_31 q hq⟩
theorem wnV_a {L : spL} {a t : Nat} (h : L.2.2.2 t = true ∨ L.2.2.1 t = a) : wnV L a (t + 1) 31 := fun q hq => ⟨fun _ => h.elim (fun k => Or.inr (Or.inl k)) (fun k => Or.inr (Or.inr (Or.inl k))), fun _ => wk_31 q hq⟩
theorem wnV_b {L : spL} {a t : Nat} (h1 : ¬ L.2.2.2 t = true) (h2 : ¬ L.2.2.1 t = a) (hb : L.2.1 t < 5) (hc : L.2.2.1 t < 5) : wnV L a (t + 1) (((1 : Int32) <<< (nI (L.2.1 t) &&& 31)) ||| ((1 : Int32) <<< (nI (L.2.2.1 t) &&& 31))) := by
  intro q hq
  rw [b_or, Bool.or_eq_true, wk_b hb hq, wk_b hc hq]
  unfold wnW
  rw [Nat.add_sub_cancel]
  constructor
  · intro h
    exact Or.inr (Or.inr (Or.inr h))
  · rintro (h | h | h | h)
    · exact absurd h (by omega)
    · exact absurd h h1
    · exact absurd h h2
    · exact h
theorem wn_open {L : spL} {a t o : Nat} (ho : o < 32) {r : Int32} (h : wnV L a t r) : ∃ y, nI o &&& r = nI y ∧ wnOp L a t o.testBit y := by
  obtain ⟨y, h1, h2, h3⟩ := tb_and ho r
  exact ⟨y, h2, h1, fun q hq => (h3 q hq).trans ⟨fun k => ⟨k.1, (h q hq).mp k.2⟩, fun k => ⟨k.1, (h q hq).mpr k.2⟩⟩⟩
/-! what a search has found -/
def wnO (P : spF) (L : spL) (a : Nat) (mo wy : Int32) : Prop := ∃ m c, mo = nI m ∧ wy = nI c ∧ c < 100000 ∧ wnBest (wnA L P.1 a) L P a m c
theorem wn_found {L : spL} {P : spF} {a N : Nat} {F : Nat → Bool} {mo wy : Int32} (hL : zLw L P.1) (hw : zFw P N) (hN : N < 1000000000) (ha : a < P.1) (hF : ∀ q, F q = true ↔ q < P.1 ∧ ¬ q = a) (h : wnQ L P a 0 F 0 (fun _ => True) (-1 : Int32).toInt (0 : Int32).toInt mo.toInt wy.toInt) : wnO P L a mo wy := by
  rw [show (-1 : Int32).toInt = -1 by decide, show (0 : Int32).toInt = 0 by decide] at h
  have h5 := hw.1
  have h8 := hL.1
  obtain ⟨-, h2, h3⟩ := h
  have hK : ∀ T, wnK L P.1 a 0 F T ↔ wnP L P.1 a T := by
    intro T
    constructor
    · intro k q hq hqa
      exact ((k q hq hqa).1 ((hF q).mpr ⟨hq, hqa⟩)).2
    · intro k q hq hqa
      exact ⟨fun _ => ⟨Nat.zero_le _, k q hq hqa⟩, fun z => absurd ((hF q).mpr ⟨hq, hqa⟩) z⟩
  have hE : ∀ T, 0 + wnE P.1 a F T = wnC P.1 a T := by
    intro T
    rw [Nat.zero_add]
    unfold wnE wnC
    refine wnH_cong 5 (fun q _ => ?_)
    unfold wnD
    by_cases c : q < P.1 ∧ ¬ q = a
    · rw [if_pos c, if_pos c]; exact if_pos ((hF q).mpr c)
    · rw [if_neg c, if_neg c]
  have hz : wnP L P.1 a (fun _ => 0) := fun q _ _ => ⟨Nat.zero_le _, Or.inr (Or.inl rfl)⟩
  have h0 := h2 _ ((hK _).mpr hz) trivial
  rcases h3 with ⟨c1, c2⟩ | ⟨T, hT, c1, c2⟩
  · rw [c1] at h0
    unfold wnBt at h0
    omega
  · have hT' := (hK T).mp hT
    rw [hE] at c2
    have b1 : wnG L a T (L.1 - 0) 0 P ≤ N := wnG_le _ _ _ (by omega) hw ha hL
    have b2 : wnC P.1 a T < 100000 := wnC_big (fun q hq hqa => by have := (hT' q hq hqa).1; omega)
    refine ⟨wnG L a T L.1 0 P, wnC P.1 a T, ?_, ?_, b2, wn_both hL h5 ⟨⟨T, hT', rfl, rfl⟩, fun X hX => ?_⟩⟩
    · apply Int32.toInt_inj.mp
      rw [Nat.sub_zero] at b1 c1
      rw [c1, nI_toInt (by omega)]
    · apply Int32.toInt_inj.mp
      rw [c2, nI_toInt (by omega)]
    · have k := h2 X ((hK X).mpr hX) trivial
      rw [hE, c1, c2, Nat.sub_zero] at k
      unfold wnBt at k
      omega
theorem most_c {P : spF} {L : spL} {a : Int32} {mo wy : Int32} (hi : vp_in a P.1) (h : wnO P L a.toNatClampNeg mo wy) : mo = spMostA P L a := by
  obtain ⟨m, c, h1, -, -, h4⟩ := h
  unfold spMostA
  rw [zI_p hi, (spWn_of h4).1, h1]
