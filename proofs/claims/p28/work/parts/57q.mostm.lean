/-! the class: when -/
theorem wt_n {k : Nat} (hk : k < 5) : ([10000, 1000, 100, 10, 1] : List Int32).getD k 0 = nI (10 ^ (4 - k)) := by
  rcases (show k = 0 ∨ k = 1 ∨ k = 2 ∨ k = 3 ∨ k = 4 by omega) with rfl | rfl | rfl | rfl | rfl <;> decide
theorem wt_lt {k : Nat} : 0 < 10 ^ (4 - k) ∧ 10 ^ (4 - k) < 2 ^ 31 := by
  have h : 10 ^ (4 - k) ≤ 10 ^ 4 := Nat.pow_le_pow_right (by decide) (by omega)
  exact ⟨Nat.pow_pos (by decide), Nat.lt_of_le_of_lt h (by decide)⟩
theorem when_c {P : spF} {L : spL} {a b mo wy : Int32} (h5 : P.1 ≤ 5) (hi : spTwo P.1 a b) (h : wnO P L a.toNatClampNeg mo wy) : wy / ([10000, 1000, 100, 10, 1] : List Int32).getD b.toNatClampNeg 0 - wy / ([10000, 1000, 100, 10, 1] : List Int32).getD b.toNatClampNeg 0 / 10 * 10 = spWhenA P L a b := by
  obtain ⟨m, c, -, h2, h3, h4⟩ := h
  have hb := (in_nI hi.2.1 (by omega)).2
  unfold spWhenA
  rw [zI_p hi, (spWn_of h4).2, h2, wt_n (by omega), pk_div (by omega) wt_lt.1 wt_lt.2]
  exact pk_rem (d := 10) (Nat.lt_of_le_of_lt (Nat.div_le_self _ _) (by omega)) (by decide) (by decide)
/-- the search that is kept -/
def wnTf (P : spF) (L : spL) (tf mo wy : Int32) : Prop := tf = 9 ∨ ∃ g, g < P.1 ∧ tf = nI g ∧ wnO P L g mo wy
theorem wnTf_y {P : spF} {L : spL} {tf mo wy : Int32} (h5 : P.1 ≤ 5) (h : wnTf P L tf mo wy) (hi : vp_in tf P.1) : wnO P L tf.toNatClampNeg mo wy := by
  rcases h with e | ⟨g, h1, h2, h3⟩
  · rw [e] at hi
    have h6 := (in_nI hi (by omega)).2
    exact absurd (show (9 : Nat) < P.1 from h6) (by omega)
  · rw [h2, nI_clamp (by omega)]; exact h3
theorem wnTf_m {P : spF} {L : spL} {a mo wy : Int32} (h5 : P.1 ≤ 5) (hi : vp_in a P.1) (h : wnO P L a.toNatClampNeg mo wy) : wnTf P L a mo wy := Or.inr ⟨a.toNatClampNeg, (in_nI hi (by omega)).2, (in_nI hi (by omega)).1, h⟩
/-! the reference: one asks all whose time it is -/
def wnTm (n a : Nat) (T : Nat → Nat) (f : Nat → Int32) : Prop := ∀ q, q < n → ¬ q = a → f q = nI (T q)
theorem wA_9 {L : spL} {n a : Nat} {T : Nat → Nat} (h8 : L.1 ≤ 8) (h : wnA L n a T) : ∀ q, q < n → ¬ q = a → T q ≤ 9 := fun q h1 h2 => by have := h q h1 h2; omega
theorem at_s {P : spF} {a t n j : Nat} {T : Nat → Nat} {f1 f3 f6 f7 : Nat → Int32} (h : zFm (wnB a (wnT a T t) j P) n f1 f6 f3 f7) (k : ¬ wnT a T t j = true) : zFm (wnB a (wnT a T t) (j + 1) P) n f1 f6 f3 f7 := by rw [wnB, if_neg k]; exact h
theorem at_y {P : spF} {a t n j N : Nat} {T : Nat → Nat} {as : Int32} {f1 f3 f6 f7 : Nat → Int32} (h : zFm (wnB a (wnT a T t) j P) n f1 f6 f3 f7) (hw : zFw P N) (hN : N < 1000000000) (ha : as = nI a ∧ a < n) (hj : j < n) (k : wnT a T t j = true) : zFm (wnB a (wnT a T t) (j + 1) P) n f1 (q_X9_tryAsk_g6 f1 f3 f6 f7 as (nI j)) f3 (q_X9_tryAsk_g7 f3 f6 f7 as (nI j)) := by
  have en : n = P.1 := by have h3 := h.1; rw [wnB_n] at h3; exact h3
  have hw1 := wnB_w (S := wnT a T t) hw (by omega) wnT_a j (by omega)
  rw [wnB, if_pos k, ha.1]
  exact (try_m h hw1 hN ha.2 hj (fun e => (wnT_t.mp k).1 e.symm)).1
theorem at_1 {n a j t : Nat} {T : Nat → Nat} {as : Int32} (hn : n ≤ 5) (ha : as = nI a ∧ a < n) (hj : j < n) (c : nI j = as) : ¬ wnT a T t j = true := fun k => (wnT_t.mp k).1 ((nI_eq (by omega) (by omega)).mp (c.trans ha.1))
theorem at_2 {n a j t : Nat} {T : Nat → Nat} {d : Int32} {f : Nat → Int32} (hn : n ≤ 5) (hT : wnTm n a T f) (hd : d = nI t) (hj : j < n) (c : ¬ f (nI j).toNatClampNeg = d) : ¬ wnT a T t j = true := fun k => c (by
  rw [nI_clamp (by omega), hT j hj (wnT_t.mp k).1, (wnT_t.mp k).2, hd])
theorem at_3 {L : spL} {n a j t : Nat} {T : Nat → Nat} {as d : Int32} {f : Nat → Int32} (hn : n ≤ 5) (hA : wnA L n a T) (h8 : L.1 ≤ 8) (ha : as = nI a ∧ a < n) (hT : wnTm n a T f) (hd : d = nI t ∧ t ≤ 8) (hj : j < n) (c1 : ¬ nI j = as) (c2 : f (nI j).toNatClampNeg = d) : wnT a T t j = true := by
  have hja : ¬ j = a := fun e => c1 (by rw [e, ha.1])
  refine wnT_t.mpr ⟨hja, ?_⟩
  rw [nI_clamp (by omega), hT j hj hja, hd.1] at c2
  have h9 := wA_9 h8 hA j hj hja
  exact (nI_eq (by omega) (by omega)).mp c2
/-! the plan goes -/
def wgI (L : spL) (a : Nat) (T : Nat → Nat) (V N n : Nat) (f1 f3 : Nat → Int32) (k : Nat) (f6 f7 : Nat → Int32) : Prop := ∃ Q, zFm Q n f1 f6 f3 f7 ∧ zFw Q N ∧ wnX L a T (L.1 - k) k Q = V
theorem wg_end {L : spL} {a V N n k : Nat} {T : Nat → Nat} {as : Int32} {f1 f3 f6 f7 : Nat → Int32} (h : wgI L a T V N n f1 f3 k f6 f7) (hn : n ≤ 5) (ha : as = nI a ∧ a < n) (hk : L.1 ≤ k) : f6 as.toNatClampNeg = nI V := by
  obtain ⟨Q, h1, -, h3⟩ := h
  rw [show L.1 - k = 0 by omega, wnX] at h3
  rw [ha.1, nI_clamp (by omega), (h1.2 a ha.2).2.1, h3]
theorem wg_step {L : spL} {a V N n k : Nat} {T : Nat → Nat} {Q : spF} {f1 f3 f6 f7 : Nat → Int32} (h2 : zFw Q N) (h3 : wnX L a T (L.1 - k) k Q = V) (hn : n = Q.1) (hk : k < L.1) (hL : zLw L n) (ha : a < n) (h : zFm (wnB a (wnT a T (k + 1)) n (spEnd L k (spAsk Q (L.2.1 k) (L.2.2.1 k)))) n f1 f6 f3 f7) : wgI L a T V N n f1 f3 (k + 1) f6 f7 := by
  have h1 := hL.2 k hk
  have e1 : (spEnd L k (spAsk Q (L.2.1 k) (L.2.2.1 k))).1 = n := by rw [spEnd_n, spAsk_n, hn]
  refine ⟨_, h, wnB_w (zFw_end (zFw_ask h2 (by omega) (by omega) h1.2.2)) (by omega) wnT_a n (by omega), ?_⟩
  rw [show L.1 - k = (L.1 - (k + 1)) + 1 by omega, wnX, ← hn] at h3
  exact h3
theorem wg_ye {L : spL} {n k : Nat} {Q : spF} {f1 f3 f6 f7 : Nat → Int32} (he : (if L.2.2.2 k = true then (1 : Int32) else 0) = 1) (h : zFm Q n f1 f6 f3 f7) : zFm (spEnd L k Q) n f1 f6 f3 (fun _ => 0) := by
  have e : L.2.2.2 k = true := by
    by_cases q : L.2.2.2 k = true
    · exact q
    · rw [if_neg q] at he; exact absurd he (by decide)
  unfold spEnd
  rw [if_pos e]
  exact zFm_wk h
theorem wg_no {L : spL} {n k : Nat} {Q : spF} {f1 f3 f6 f7 : Nat → Int32} (he : ¬ (if L.2.2.2 k = true then (1 : Int32) else 0) = 1) (h : zFm Q n f1 f6 f3 f7) : zFm (spEnd L k Q) n f1 f6 f3 f7 := by
  have e : ¬ L.2.2.2 k = true := fun q => he (if_pos q)
  unfold spEnd
  rw [if_neg e]
  exact h
/-! the next row of times -/
def wnNx (L : spL) (n a : Nat) (T T' : Nat → Nat) : Prop := wnC n a T < wnC n a T' ∧ ∀ X, wnA L n a X → wnC n a X ≤ wnC n a T ∨ wnC n a T' ≤ wnC n a X
/-- those from j on were never, and are now at the first time -/
def wnJ (n a : Nat) (T : Nat → Nat) (j : Nat) (f : Nat → Int32) : Prop := ∀ q, q < n → ¬ q = a → (q < j → f q = nI (T q)) ∧ (j ≤ q → T q = 9 ∧ f q = 0)
theorem wnJ_0 {n a : Nat} {T : Nat → Nat} {f : Nat → Int32} (h : wnTm n a T f) : wnJ n a T n f := fun q h1 h2 => ⟨fun _ => h q h1 h2, fun k => absurd k (by omega)⟩
theorem wnJ_a {n a q : Nat} {T : Nat → Nat} {as : Int32} {f : Nat → Int32} (h : wnJ n a T (q + 1) f) (hn : n ≤ 5) (hq : q < n) (ha : as = nI a ∧ a < n) (c : nI q = as) : wnJ n a T q f := by
  have e : q = a := (nI_eq (by omega) (by omega)).mp (c.trans ha.1)
  intro z h1 h2
  exact ⟨fun k => (h z h1 h2).1 (by omega), fun k => (h z h1 h2).2 (by omega)⟩
theorem wnJ_9 {L : spL} {n a q : Nat} {T : Nat → Nat} {f : Nat → Int32} (h : wnJ n a T (q + 1) f) (hA : wnA L n a T) (h8 : L.1 ≤ 8) (hn : n ≤ 5) (hq : q < n) (c : f (nI q).toNatClampNeg = 9) : wnJ n a T q (upd f (nI q).toNatClampNeg 0) := by
  rw [nI_clamp (show q < 2 ^ 31 by omega)] at c ⊢
  intro z h1 h2
  have hz := h z h1 h2
  refine ⟨fun k => by rw [pk_un (by omega)]; exact hz.1 (by omega), fun k => ?_⟩
  by_cases e : z = q
  · subst e
    rw [hz.1 (by omega)] at c
    have h9 := wA_9 h8 hA z h1 h2
    exact ⟨(nI_eq (b := 9) (by omega) (by decide)).mp c, by rw [pk_us]⟩
  · rw [pk_un e]
    exact hz.2 (by omega)
theorem wnJ_e {L : spL} {n a : Nat} {T : Nat → Nat} {f : Nat → Int32} (h : wnJ n a T 0 f) (h8 : L.1 ≤ 8) : ∀ X, wnA L n a X → wnC n a X ≤ wnC n a T := by
  intro X hX
  refine wnH_mono 5 (fun q _ => ?_)
  unfold wnD
  by_cases c : q < n ∧ ¬ q = a
  · rw [if_pos c, if_pos c, ((h q c.1 c.2).2 (Nat.zero_le _)).1]; exact wA_9 h8 hX q c.1 c.2
  · rw [if_neg c, if_neg c]; exact Nat.le_refl _
theorem wnJ_y {L : spL} {n a q s : Nat} {T : Nat → Nat} {f : Nat → Int32} {x as : Int32} (h : wnJ n a T (q + 1) f) (hA : wnA L n a T) (h8 : L.1 ≤ 8) (hn : n ≤ 5) (hq : q < n) (ha : as = nI a ∧ a < n) (c : ¬ nI q = as) (hx : x = nI s) (hs : T q < s) (hs2 : s ≤ L.1 ∨ s = 9) (hs3 : ∀ u, u ≤ L.1 ∨ u = 9 → u ≤ T q ∨ s ≤ u) : ∃ T', wnA L n a T' ∧ wnTm n a T' (upd f (nI q).toNatClampNeg x) ∧ wnNx L n a T T' := by
  have hqa : ¬ q = a := fun e => c (by rw [e, ha.1])
  rw [nI_clamp (show q < 2 ^ 31 by omega)]
  have hE : ∀ z, wnD n a (fun z => if z < q then T z else if z = q then s else 0) z = if z < q then wnD n a T z else if z = q then s else 0 := by
    intro z
    unfold wnD
    by_cases k : z < n ∧ ¬ z = a
    · rw [if_pos k, if_pos k]
    · rw [if_neg k, if_neg k]
      by_cases k1 : z < q
      · rw [if_pos k1]
      · rw [if_neg k1, if_neg (fun e => k ⟨by omega, fun e2 => hqa (e.symm.trans e2)⟩)]
  refine ⟨fun z => if z < q then T z else if z = q then s else 0, fun z h1 h2 => ?_, fun z h1 h2 => ?_, ?_, fun X hX => ?_⟩
  · show (if z < q then T z else if z = q then s else 0) ≤ L.1 ∨ (if z < q then T z else if z = q then s else 0) = 9
    by_cases k1 : z < q
    · rw [if_pos k1]; exact hA z h1 h2
    · rw [if_neg k1]
      by_cases k2 : z = q
      · rw [if_pos k2]; exact hs2
      · rw [if_neg k2]; exact Or.inl (Nat.zero_le _)
  · show upd f q x z = nI (if z < q then T z else if z = q then s else 0)
    by_cases k2 : z = q
    · rw [k2, pk_us, if_neg (Nat.lt_irrefl q), if_pos rfl, hx]
    · rw [pk_un k2]
      by_cases k1 : z < q
      · rw [if_pos k1]; exact (h z h1 h2).1 (by omega)
      · rw [if_neg k1, if_neg k2]; exact ((h z h1 h2).2 (by omega)).2
  · unfold wnC
    have k9 := wnD_9 (wA_9 h8 hA)
    have hlt : ∀ k, q < k → wnH (wnD n a T) k < wnH (wnD n a (fun z => if z < q then T z else if z = q then s else 0)) k ∨ wnH (wnD n a (fun z => if z < q then T z else if z = q then s else 0)) k ≤ wnH (wnD n a T) k := fun k _ => Nat.lt_or_ge _ _
    have hnx : ∀ k, q < k → wnH (wnD n a T) k + 1 ≤ wnH (wnD n a (fun z => if z < q then T z else if z = q then s else 0)) k ∧ wnH (wnD n a T) k + 1 ≤ wnH (wnD n a (fun z => if z < q then T z else if z = q then s else 0)) k := by
      intro k
      induction k with
      | zero => exact fun h => absurd h (Nat.not_lt_zero _)
      | succ k ih =>
        intro hk
        rw [wnH, wnH, hE k]
        rcases Nat.lt_or_ge q k with z | z
        · have h1 := (ih z).1
          have h2 := k9 k
          rw [if_neg (by omega), if_neg (by omega)]
          omega
        · have e : k = q := by omega
          subst e
          rw [if_neg (Nat.lt_irrefl k), if_pos rfl, wnH_cong (D := wnD n a (fun z => if z < k then T z else if z = k then s else 0)) (E := wnD n a T) k (fun z hz => by rw [hE z, if_pos hz]), wnD_y hq hqa]
          omega
    exact (hnx 5 (by omega)).1
  · have k9 := wnD_9 (wA_9 h8 hA)
    have kX := wnD_9 (wA_9 h8 hX)
    refine wnH_nx (x := q) (s := s) (fun z => ⟨k9 z, kX z⟩) (by omega) (fun z hz => by rw [hE z, if_pos hz]) (by rw [hE q, if_neg (Nat.lt_irrefl q), if_pos rfl]) (fun z hz => ⟨by rw [hE z, if_neg (by omega), if_neg (by omega)], ?_⟩) ?_ 5 (by omega)
    · unfold wnD
      by_cases k : z < n ∧ ¬ z = a
      · rw [if_pos k, if_pos k, ((h z k.1 k.2).2 (by omega)).1]; exact wA_9 h8 hX z k.1 k.2
      · rw [if_neg k, if_neg k]; exact Nat.le_refl _
    · rw [wnD_y hq hqa, wnD_y hq hqa]
      exact hs3 (X q) (hX q hq hqa)
theorem wnJ_y9 {L : spL} {n a q pn : Nat} {T : Nat → Nat} {f : Nat → Int32} {as : Int32} (h : wnJ n a T (q + 1) f) (hA : wnA L n a T) (hp : pn = L.1) (h8 : L.1 ≤ 8) (hn : n ≤ 5) (hq : q < n) (ha : as = nI a ∧ a < n) (c : ¬ nI q = as) (e : f (nI q).toNatClampNeg = nI pn) : ∃ T', wnA L n a T' ∧ wnTm n a T' (upd f (nI q).toNatClampNeg 9) ∧ wnNx L n a T T' := by
  have hqa : ¬ q = a := fun k => c (by rw [k, ha.1])
  have h9 := wA_9 h8 hA q hq hqa
  rw [nI_clamp (show q < 2 ^ 31 by omega), (h q hq hqa).1 (by omega)] at e
  have e2 : T q = pn := (nI_eq (by omega) (by omega)).mp e
  exact wnJ_y (s := 9) h hA h8 hn hq ha c rfl (by omega) (Or.inr rfl) (fun u hu => by omega)
theorem wnJ_y1 {L : spL} {n a q pn : Nat} {T : Nat → Nat} {f : Nat → Int32} {as : Int32} (h : wnJ n a T (q + 1) f) (hA : wnA L n a T) (hp : pn = L.1) (h8 : L.1 ≤ 8) (hn : n ≤ 5) (hq : q < n) (ha : as = nI a ∧ a < n) (c : ¬ nI q = as) (e9 : ¬ f (nI q).toNatClampNeg = 9) (e : ¬ f (nI q).toNatClampNeg = nI pn) : ∃ T', wnA L n a T' ∧ wnTm n a T' (upd f (nI q).toNatClampNeg (f (nI q).toNatClampNeg + 1)) ∧ wnNx L n a T T' := by
  have hqa : ¬ q = a := fun k => c (by rw [k, ha.1])
  have hT := hA q hq hqa
  have ef : f (nI q).toNatClampNeg = nI (T q) := by rw [nI_clamp (show q < 2 ^ 31 by omega)]; exact (h q hq hqa).1 (by omega)
  have e1 : ¬ T q = 9 := fun k => e9 (by rw [ef, k]; rfl)
  have e2 : ¬ T q = pn := fun k => e (by rw [ef, k])
  refine wnJ_y (s := T q + 1) h hA h8 hn hq ha c (by rw [ef, nI_1]) (Nat.lt_succ_self _) (by omega) (fun u hu => by omega)
/-! all rows, one behind the other -/
def wnBs (L : spL) (P : spF) (a : Nat) (T : Nat → Nat) (x : Int32) (g : Nat → Int32) : Prop := (x = -1 ∧ ∀ X, wnA L P.1 a X → ¬ wnC P.1 a X < wnC P.1 a T) ∨ ∃ B, wnA L P.1 a B ∧ wnTm P.1 a B g ∧ x = nI (wnG L a B L.1 0 P) ∧ wnC P.1 a B < wnC P.1 a T ∧ ∀ X, wnA L P.1 a X → wnC P.1 a X < wnC P.1 a T → wnG L a X L.1 0 P < wnG L a B L.1 0 P ∨ (wnG L a X L.1 0 P = wnG L a B L.1 0 P ∧ wnC P.1 a B ≤ wnC P.1 a X)
theorem wnBs_0 {L : spL} {P : spF} {a : Nat} {g : Nat → Int32} : wnBs L P a (fun _ => 0) (-1) g := Or.inl ⟨rfl, fun X _ h => by
  have e : wnC P.1 a (fun _ => 0) = 0 := by
    unfold wnC
    rw [wnH_cong (E := fun _ => 0) 5 (fun q _ => by unfold wnD; split <;> rfl)]
    rfl
  omega⟩
theorem wnC_in {L : spL} {P : spF} {a : Nat} {T X : Nat → Nat} (h5 : P.1 ≤ 5) (hT : ∀ q, q < P.1 → ¬ q = a → T q ≤ 9) (hX : ∀ q, q < P.1 → ¬ q = a → X q ≤ 9) (h : wnC P.1 a X = wnC P.1 a T) (d t : Nat) : wnG L a X d t P = wnG L a T d t P := by
  refine wnG_cong d t P (fun q hq hqa u _ => ?_)
  rw [← wnC_dg hX h5 hq hqa, h, wnC_dg hT h5 hq hqa]
/-- what is kept behind a row has been gone through: y is what one has by it; all whose number is no greater are known then -/
def wnBe (L : spL) (P : spF) (a : Nat) (T : Nat → Nat) (x : Int32) (g : Nat → Int32) : Prop := ∃ B, wnA L P.1 a B ∧ wnTm P.1 a B g ∧ x = nI (wnG L a B L.1 0 P) ∧ wnC P.1 a B ≤ wnC P.1 a T ∧ ∀ X, wnA L P.1 a X → wnC P.1 a X ≤ wnC P.1 a T → wnG L a X L.1 0 P < wnG L a B L.1 0 P ∨ (wnG L a X L.1 0 P = wnG L a B L.1 0 P ∧ wnC P.1 a B ≤ wnC P.1 a X)
theorem wnBs_y {L : spL} {P : spF} {a N : Nat} {T : Nat → Nat} {x y : Int32} {f g g' : Nat → Int32} (h5 : P.1 ≤ 5) (h8 : L.1 ≤ 8) (hv : ∀ X, wnG L a X L.1 0 P < 2147483648) (hA : wnA L P.1 a T) (hT : wnTm P.1 a T f) (h : wnBs L P a T x g) (hy : y = nI (wnG L a T L.1 0 P)) (c : ¬ y ≤ x) (hg : ∀ q, q < P.1 → g' q = f q) : wnBe L P a T y g' := by
  refine ⟨T, hA, fun q h1 h2 => by rw [hg q h1]; exact hT q h1 h2, hy, Nat.le_refl _, fun X hX hle => ?_⟩
  rcases Nat.lt_or_ge (wnC P.1 a X) (wnC P.1 a T) with k | k
  · left
    rcases h with ⟨-, h1⟩ | ⟨B, h1, h2, h3, h4, h6⟩
    · exact absurd k (h1 X hX)
    · have h7 := h6 X hX k
      rw [hy, h3, nI_leI (hv _) (hv _)] at c
      omega
  · right
    have e : wnC P.1 a X = wnC P.1 a T := by omega
    exact ⟨wnC_in h5 (wA_9 h8 hA) (wA_9 h8 hX) e _ _, by omega⟩
theorem wnBs_n {L : spL} {P : spF} {a N : Nat} {T : Nat → Nat} {x y : Int32} {f g g' : Nat → Int32} (h5 : P.1 ≤ 5) (h8 : L.1 ≤ 8) (hv : ∀ X, wnG L a X L.1 0 P < 2147483648) (hA : wnA L P.1 a T) (hT : wnTm P.1 a T f) (h : wnBs L P a T x g) (hy : y = nI (wnG L a T L.1 0 P)) (c : y ≤ x) (hg : ∀ q, q < P.1 → g' q = g q) : wnBe L P a T x g' := by
  rcases h with ⟨e, -⟩ | ⟨B, h1, h2, h3, h4, h6⟩
  · rw [e, hy, Int32.le_iff_toInt_le, nI_toInt (hv _), show (-1 : Int32).toInt = -1 by decide] at c
    omega
  · refine ⟨B, h1, fun q k1 k2 => by rw [hg q k1]; exact h2 q k1 k2, h3, by omega, fun X hX hle => ?_⟩
    rcases Nat.lt_or_ge (wnC P.1 a X) (wnC P.1 a T) with k | k
    · exact h6 X hX k
    · have e : wnC P.1 a X = wnC P.1 a T := by omega
      rw [hy, h3, nI_leI (hv _) (hv _)] at c
      have e2 := wnC_in (L := L) h5 (wA_9 h8 hA) (wA_9 h8 hX) e L.1 0
      omega
theorem wnBe_n {L : spL} {P : spF} {a : Nat} {T T' : Nat → Nat} {x : Int32} {g : Nat → Int32} (h : wnBe L P a T x g) (hN : wnNx L P.1 a T T') : wnBs L P a T' x g := by
  obtain ⟨B, h1, h2, h3, h4, h6⟩ := h
  obtain ⟨k1, k2⟩ := hN
  exact Or.inr ⟨B, h1, h2, h3, by omega, fun X hX hlt => h6 X hX ((k2 X hX).resolve_right (by omega))⟩
/-- what the reference has found -/
def wnFm (P : spF) (L : spL) (a : Nat) (x : Int32) (g : Nat → Int32) : Prop := ∃ B, wnA L P.1 a B ∧ wnTm P.1 a B g ∧ x = nI (wnG L a B L.1 0 P) ∧ wnBest (wnA L P.1 a) L P a (wnG L a B L.1 0 P) (wnC P.1 a B)
theorem wnBe_e {L : spL} {P : spF} {a : Nat} {T : Nat → Nat} {x : Int32} {g : Nat → Int32} (h : wnBe L P a T x g) (hN : ∀ X, wnA L P.1 a X → wnC P.1 a X ≤ wnC P.1 a T) : wnFm P L a x g := by
  obtain ⟨B, h1, h2, h3, h4, h6⟩ := h
  exact ⟨B, h1, h2, h3, ⟨B, h1, rfl, rfl⟩, fun X hX => h6 X hX (hN X hX)⟩
theorem most_m {P : spF} {L : spL} {a r : Int32} {g : Nat → Int32} (hi : vp_in a P.1) (h : wnFm P L a.toNatClampNeg r g) : r = spMostA P L a := by
  obtain ⟨B, -, -, h3, h4⟩ := h
  unfold spMostA
  rw [zI_p hi, (spWn_of h4).1, h3]
theorem when_m {P : spF} {L : spL} {a b r : Int32} {g : Nat → Int32} (h5 : P.1 ≤ 5) (h8 : L.1 ≤ 8) (hi : spTwo P.1 a b) (h : wnFm P L a.toNatClampNeg r g) : g b.toNatClampNeg = spWhenA P L a b := by
  obtain ⟨B, h1, h2, h3, h4⟩ := h
  have hb := (in_nI hi.2.1 (by omega)).2
  have hab : ¬ b.toNatClampNeg = a.toNatClampNeg := fun e => hi.2.2 (by rw [(in_nI hi.1 (by omega)).1, ← e, ← (in_nI hi.2.1 (by omega)).1])
  unfold spWhenA
  rw [zI_p hi, (spWn_of h4).2, wnC_dg (wA_9 h8 h1) h5 hb hab, h2 _ hb hab]
