/-! SO: orders of THE PLAN behind which all of a set have so many pence, one by one -/
def spUb (U : Nat → Bool) (j : Nat) : Nat → Bool := fun i => if i = j then true else U i
def spSoL (L : spL) (U : Nat → Bool) (P : spF) (G : (Nat → Bool) → spF → Nat → Nat) : Nat → Nat → Nat → Nat
  | 0, _, c => c
  | m + 1, j, c => spSoL L U P G m (j + 1) (if U j = true then c else G (spUb U j) (spAsk P (L.2.1 j) (L.2.2.1 j)) c)
def spSo (L : spL) (fit : spF → Bool) : Nat → (Nat → Bool) → spF → Nat → Nat
  | 0, _, P, c => if fit P = true then c + 1 else c
  | r + 1, U, P, c => spSoL L U P (spSo L fit r) L.1 0 c
def spFt (a b : Int32) (P : spF) : Nat → Bool
  | 0 => true
  | k + 1 => spFt a b P k && (!bt a k || decide (nI (P.2.2.1 k) = b))
def spFit (a b : Int32) (P : spF) : Bool := spFt a b P P.1
/-! the class: does it fit -/
theorem ft_v {q : Bool} {y : Int32} (h : y = if q = true then 1 else 0) : (y = 0 ↔ q = false) := by
  cases q
  · exact ⟨fun _ => rfl, fun _ => h⟩
  · exact ⟨fun k => by rw [h, if_pos rfl] at k; exact absurd k (by decide), fun k => absurd k (by decide)⟩
theorem ft_n {q : Bool} {y : Int32} (h : y = if q = true then 1 else 0) (c : ¬ y = 0) : q = true := by
  cases q
  · exact absurd (show y = 0 from h) c
  · rfl
theorem ft_0 {a b y : Int32} {P : spF} {j : Nat} (h : y = if spFt a b P j = true then 1 else 0) (c : y = 0) : (0 : Int32) = if spFt a b P (j + 1) = true then 1 else 0 := by
  rw [spFt, (ft_v h).mp c, Bool.false_and]; rfl
theorem ft_t {a b y : Int32} {P : spF} {j : Nat} (h : y = if spFt a b P j = true then 1 else 0) (c : ¬ y = 0) : spFt a b P j = true := by
  cases e : spFt a b P j
  · exact absurd ((ft_v h).mpr e) c
  · rfl
theorem ft_1 {a b y : Int32} {P : spF} {j : Nat} (hj : j < 5) (h : y = if spFt a b P j = true then 1 else 0) (c : ¬ y = 0) (d : a &&& ((1 : Int32) <<< (nI j &&& 31)) = 0) : (1 : Int32) = if spFt a b P (j + 1) = true then 1 else 0 := by
  rw [spFt, ft_t h c, (bt_test (by omega)).mp d]; rfl
theorem ft_2 {a b y : Int32} {P : spF} {j : Nat} {g : Nat → Int32} (hj : j < 5) (hg : g j = nI (P.2.2.1 j)) (h : y = if spFt a b P j = true then 1 else 0) (c : ¬ y = 0) (e : g (nI j).toNatClampNeg = b) : (1 : Int32) = if spFt a b P (j + 1) = true then 1 else 0 := by
  rw [nI_clamp (by omega), hg] at e
  rw [spFt, ft_t h c, decide_eq_true e, Bool.or_true]; rfl
theorem ft_3 {a b y : Int32} {P : spF} {j : Nat} {g : Nat → Int32} (hj : j < 5) (hg : g j = nI (P.2.2.1 j)) (h : y = if spFt a b P j = true then 1 else 0) (c : ¬ y = 0) (d : ¬ a &&& ((1 : Int32) <<< (nI j &&& 31)) = 0) (e : ¬ g (nI j).toNatClampNeg = b) : (0 : Int32) = if spFt a b P (j + 1) = true then 1 else 0 := by
  rw [nI_clamp (by omega), hg] at e
  have hb : bt a j = true := by
    cases k : bt a j
    · exact absurd ((bt_test (by omega)).mpr k) d
    · rfl
  rw [spFt, ft_t h c, decide_eq_false e, hb]; rfl
/-! the class: through the orders -/
def soJ (a b : Int32) (L : spL) (t : Nat) (U : Nat → Bool) (P : spF) (c0 j : Nat) (y : Int32) : Prop := ∃ c, y = nI c ∧ spSoL L U P (spSo L (spFit a b) (L.1 - (t + 1))) (L.1 - j) j c = spSo L (spFit a b) (L.1 - t) U P c0
theorem so_leaf {a b y : Int32} {L : spL} {t c : Nat} {U : Nat → Bool} {P : spF} (h : L.1 ≤ t) (hy : y = nI c) : (if spFit a b P = true then y + 1 else y) = nI (spSo L (spFit a b) (L.1 - t) U P c) := by
  rw [show L.1 - t = 0 by omega, spSo, hy]
  by_cases k : spFit a b P = true
  · rw [if_pos k, if_pos k, nI_1]
  · rw [if_neg k, if_neg k]
theorem so_first {a b y : Int32} {L : spL} {t c : Nat} {U : Nat → Bool} {P : spF} (h : t < L.1) (hy : y = nI c) : soJ a b L t U P c 0 y := ⟨c, hy, by rw [Nat.sub_zero, show L.1 - t = (L.1 - (t + 1)) + 1 by omega, spSo]⟩
theorem so_end {a b y : Int32} {L : spL} {t c j : Nat} {U : Nat → Bool} {P : spF} (h : soJ a b L t U P c j y) (hj : L.1 ≤ j) : y = nI (spSo L (spFit a b) (L.1 - t) U P c) := by
  obtain ⟨c1, e, h1⟩ := h
  rw [show L.1 - j = 0 by omega, spSoL] at h1
  rw [e, h1]
theorem so_skip {a b y us : Int32} {L : spL} {t c j : Nat} {U : Nat → Bool} {P : spF} (h : soJ a b L t U P c j y) (hj : j < L.1) (h8 : L.1 ≤ 8) (hu : ∀ i, i < 8 → bt us i = U i) (d : ¬ us &&& ((1 : Int32) <<< (nI j &&& 31)) = 0) : soJ a b L t U P c (j + 1) y := by
  obtain ⟨c1, e, h1⟩ := h
  have k : U j = true := by
    rw [← hu j (by omega)]
    cases k : bt us j
    · exact absurd ((bt_test (by omega)).mpr k) d
    · rfl
  rw [show L.1 - j = (L.1 - (j + 1)) + 1 by omega, spSoL, if_pos k] at h1
  exact ⟨c1, e, h1⟩
theorem so_step {a b y us : Int32} {L : spL} {t c c1 j : Nat} {U : Nat → Bool} {P : spF} (h1 : spSoL L U P (spSo L (spFit a b) (L.1 - (t + 1))) (L.1 - j) j c1 = spSo L (spFit a b) (L.1 - t) U P c) (hj : j < L.1) (h8 : L.1 ≤ 8) (hu : ∀ i, i < 8 → bt us i = U i) (d : us &&& ((1 : Int32) <<< (nI j &&& 31)) = 0) (hy : y = nI (spSo L (spFit a b) (L.1 - (t + 1)) (spUb U j) (spAsk P (L.2.1 j) (L.2.2.1 j)) c1)) : soJ a b L t U P c (j + 1) y := by
  have k : ¬ U j = true := by
    rw [← hu j (by omega), (bt_test (by omega)).mp d]; decide
  rw [show L.1 - j = (L.1 - (j + 1)) + 1 by omega, spSoL, if_neg k] at h1
  exact ⟨_, hy, h1⟩
theorem so_us {us : Int32} {U : Nat → Bool} {j : Nat} (hj : j < 8) (hu : ∀ i, i < 8 → bt us i = U i) : ∀ i, i < 8 → bt (us ||| ((1 : Int32) <<< (nI j &&& 31))) i = spUb U j i := by
  intro i hi
  rw [bt_set (by omega) (by omega), hu i hi]
  unfold spUb
  by_cases e : i = j
  · rw [if_pos e, decide_eq_true e, Bool.or_true]
  · rw [if_neg e, decide_eq_false e, Bool.or_false]
/-! the call -/
abbrev spSoC (P : spF) (a b : Int32) : Prop := (1 ≤ a.toInt ∧ a.toInt < 2 ^ P.1) ∧ vp_in b 100000
noncomputable def spSoA (P : spF) (L : spL) (a b : Int32) : Int32 := zI (spSoC P a b) (zI (L.1 ≤ 6) (nI (spSo L (spFit a b) L.1 (fun _ => false) P 0)) (-3)) (-1)
theorem so_sh : ∀ n, n ≤ 5 → ((1 : Int32) <<< (nI n &&& 31)).toInt = 2 ^ n := by decide +kernel
theorem so_c1 {P : spF} {a b : Int32} (h : a ≤ 0) : ¬ spSoC P a b := fun q => by
  rw [Int32.le_iff_toInt_le, show (0 : Int32).toInt = 0 by decide] at h
  have := q.1.1
  omega
theorem so_c2 {P : spF} {n : Nat} {a b : Int32} (hn : n ≤ 5) (en : n = P.1) (h : (1 : Int32) <<< (nI n &&& 31) ≤ a) : ¬ spSoC P a b := fun q => by
  rw [Int32.le_iff_toInt_le, so_sh n hn] at h
  have h2 := q.1.2
  rw [← en] at h2
  omega
theorem so_c3 {P : spF} {a b : Int32} (h : b < 0) : ¬ spSoC P a b := fun q => by
  rw [Int32.lt_iff_toInt_lt, show (0 : Int32).toInt = 0 by decide] at h
  have := vp_in_iff.mp q.2
  omega
theorem so_c4 {P : spF} {a b : Int32} (h : ¬ b ≤ 99999) : ¬ spSoC P a b := fun q => by
  rw [Int32.le_iff_toInt_le, show (99999 : Int32).toInt = 99999 by decide] at h
  have := vp_in_iff.mp q.2
  omega
theorem so_ok {P : spF} {n : Nat} {a b : Int32} (hn : n ≤ 5) (en : n = P.1) (h1 : ¬ a ≤ 0) (h2 : ¬ (1 : Int32) <<< (nI n &&& 31) ≤ a) (h3 : ¬ b < 0) (h4 : b ≤ 99999) : spSoC P a b := by
  rw [Int32.le_iff_toInt_le, show (0 : Int32).toInt = 0 by decide] at h1
  rw [Int32.le_iff_toInt_le, so_sh n hn, en] at h2
  rw [Int32.lt_iff_toInt_lt, show (0 : Int32).toInt = 0 by decide] at h3
  rw [Int32.le_iff_toInt_le, show (99999 : Int32).toInt = 99999 by decide] at h4
  exact ⟨⟨by omega, by omega⟩, vp_in_iff.mpr ⟨by omega, by omega⟩⟩
theorem so_A {P : spF} {L : spL} {a b : Int32} (h : spSoC P a b) (h6 : L.1 ≤ 6) : nI (spSo L (spFit a b) L.1 (fun _ => false) P 0) = spSoA P L a b := by
  unfold spSoA
  rw [zI_p h, zI_p h6]
theorem so_F {P : spF} {L : spL} {a b : Int32} (h : spSoC P a b) (h6 : ¬ L.1 ≤ 6) : (-3 : Int32) = spSoA P L a b := by
  unfold spSoA
  rw [zI_p h, zI_n h6]
theorem so_6 {pn : Nat} (h8 : pn ≤ 8) (h : nI pn ≤ 6) : pn ≤ 6 := (nI_leI (b := 6) (by omega) (by decide)).mp h
theorem so_n6 {pn : Nat} (h8 : pn ≤ 8) (h : ¬ nI pn ≤ 6) : ¬ pn ≤ 6 := fun k => h ((nI_leI (b := 6) (by omega) (by decide)).mpr k)
