/-! rows on bits: out of kit/laws/BITS.to-paste -/
def bt (x : Int32) (i : Nat) : Bool := x.toBitVec.getLsbD i
theorem b_ext {x y : Int32} (h : ∀ i, i < 32 → bt x i = bt y i) : x = y := Int32.toBitVec_inj.mp (BitVec.eq_of_getLsbD_eq (fun i hi => h i hi))
theorem b_or (x y : Int32) (i : Nat) : bt (x ||| y) i = (bt x i || bt y i) := by unfold bt; rw [Int32.toBitVec_or, BitVec.getLsbD_or]
theorem b_and (x y : Int32) (i : Nat) : bt (x &&& y) i = (bt x i && bt y i) := by unfold bt; rw [Int32.toBitVec_and, BitVec.getLsbD_and]
theorem b_xor (x y : Int32) (i : Nat) : bt (x ^^^ y) i = (bt x i ^^ bt y i) := by unfold bt; rw [Int32.toBitVec_xor, BitVec.getLsbD_xor]
theorem b_big {x : Int32} {i : Nat} (h : 32 ≤ i) : bt x i = false := BitVec.getLsbD_of_ge _ _ h
theorem b_m1 : ∀ i, i < 32 → bt (-1) i = true := by decide +kernel
theorem b_0 (i : Nat) : bt 0 i = false := BitVec.getLsbD_zero
theorem s_l : ∀ n, n < 32 → ((nI n &&& 31).toBitVec.smod 32).toNat = n := by decide +kernel
theorem b_shl (n : Nat) (hn : n < 32) (x : Int32) {i : Nat} (hi : i < 32) : bt (x <<< (nI n &&& 31)) i = (decide (n ≤ i) && bt x (i - n)) := by
  unfold bt
  rw [Int32.toBitVec_shiftLeft]
  show (x.toBitVec <<< ((nI n &&& 31).toBitVec.smod 32).toNat).getLsbD i = _
  rw [s_l n hn, BitVec.getLsbD_shiftLeft]
  rcases Nat.lt_or_ge i n with h | h
  · simp [h, Nat.not_le.mpr h]
  · simp [hi, h, Nat.not_lt.mpr h]
theorem b_sshr (n : Nat) (hn : n < 32) (x : Int32) {i : Nat} (hi : i < 32) : bt (x >>> (nI n &&& 31)) i = if n + i < 32 then bt x (n + i) else bt x 31 := by
  unfold bt
  rw [Int32.toBitVec_shiftRight]
  show (x.toBitVec.sshiftRight ((nI n &&& 31).toBitVec.smod 32).toNat).getLsbD i = _
  rw [s_l n hn, BitVec.getLsbD_sshiftRight, BitVec.msb_eq_getLsbD_last]
  simp [hi]
/-! one bit -/
theorem bt_1 : ∀ i, i < 32 → bt 1 i = decide (i = 0) := by decide +kernel
theorem bt_one {k i : Nat} (hk : k < 32) (hi : i < 32) : bt ((1 : Int32) <<< (nI k &&& 31)) i = decide (i = k) := by
  rw [b_shl k hk 1 hi]
  rcases Nat.lt_or_ge i k with h | h
  · rw [decide_eq_false (Nat.not_le.mpr h), decide_eq_false (by omega)]; rfl
  · rw [decide_eq_true h, bt_1 _ (by omega), Bool.true_and]
    by_cases e : i = k
    · rw [decide_eq_true e, decide_eq_true (by omega)]
    · rw [decide_eq_false e, decide_eq_false (by omega)]
theorem bt_set {x : Int32} {k i : Nat} (hk : k < 32) (hi : i < 32) : bt (x ||| ((1 : Int32) <<< (nI k &&& 31))) i = (bt x i || decide (i = k)) := by rw [b_or, bt_one hk hi]
theorem bt_clr {x : Int32} {k i : Nat} (hk : k < 32) (hi : i < 32) : bt (x &&& (((1 : Int32) <<< (nI k &&& 31)) ^^^ (-1))) i = (bt x i && !decide (i = k)) := by
  rw [b_and, b_xor, bt_one hk hi, b_m1 i hi, Bool.xor_true]
theorem bt_test {x : Int32} {k : Nat} (hk : k < 32) : x &&& ((1 : Int32) <<< (nI k &&& 31)) = 0 ↔ bt x k = false := by
  constructor
  · intro h
    have h1 : bt (x &&& ((1 : Int32) <<< (nI k &&& 31))) k = bt 0 k := by rw [h]
    rw [b_and, bt_one hk hk, b_0, decide_eq_true rfl, Bool.and_true] at h1
    exact h1
  · intro h
    apply b_ext
    intro i hi
    rw [b_and, bt_one hk hi, b_0]
    by_cases e : i = k
    · rw [e, h]; rfl
    · rw [decide_eq_false e, Bool.and_false]
theorem bt_has {x : Int32} {k : Nat} (hk : k < 32) : (x >>> (nI k &&& 31)) &&& 1 = if bt x k = true then 1 else 0 := by
  apply b_ext
  intro i hi
  rw [b_and, b_sshr k hk x hi, bt_1 i hi]
  by_cases e : i = 0
  · rw [e, if_pos (show k + 0 < 32 by omega), decide_eq_true rfl, Bool.and_true]
    cases h : bt x (k + 0)
    · rw [if_neg (by decide)]; rfl
    · rw [if_pos rfl]; rfl
  · rw [decide_eq_false e, Bool.and_false]
    by_cases h : bt x k = true
    · rw [if_pos h, bt_1 i hi, decide_eq_false e]
    · rw [if_neg h, b_0]
/-! sums: out of kit/laws/COUNTS.to-paste -/
def fb_sm (f : Nat → Nat) : Nat → Nat
  | 0 => 0
  | n + 1 => fb_sm f n + f n
theorem fb_sm_succ (f : Nat → Nat) (n : Nat) : fb_sm f (n + 1) = fb_sm f n + f n := rfl
theorem fb_sm_cong {f g : Nat → Nat} : ∀ {n : Nat}, (∀ k, k < n → f k = g k) → fb_sm f n = fb_sm g n
  | 0, _ => rfl
  | n + 1, h => by rw [fb_sm_succ, fb_sm_succ, fb_sm_cong (fun k hk => h k (by omega)), h n (by omega)]
theorem fb_sm_part (f : Nat → Nat) {i : Nat} : ∀ {n : Nat}, i < n → f i ≤ fb_sm f n
  | 0, h => absurd h (Nat.not_lt_zero i)
  | n + 1, h => by
    rw [fb_sm_succ]
    by_cases e : i = n
    · subst e; omega
    · have := fb_sm_part f (i := i) (n := n) (by omega)
      omega
/-! people, plans as the document has them: how many, kinds, pence, who knows whom, who has asked whom; how many, by, of, ends of weeks -/
abbrev spF : Type := Nat × (Nat → Nat) × (Nat → Nat) × (Nat → Nat → Bool) × (Nat → Nat → Bool)
abbrev spL : Type := Nat × (Nat → Nat) × (Nat → Nat) × (Nat → Bool)
/-! people, plan, signs of the tape, kept people, kept plan -/
abbrev spT : Type := spF × spL × (Nat → Int32) × spF × spL
def spU (f : Nat → Nat) (k v : Nat) : Nat → Nat := fun j => if j = k then v else f j
def spUK (K : Nat → Nat → Bool) (a b : Nat) (v : Bool) : Nat → Nat → Bool := fun x y => if x = a ∧ y = b then v else K x y
theorem spU_s {f : Nat → Nat} {k v : Nat} : spU f k v k = v := if_pos rfl
theorem spU_n {f : Nat → Nat} {k v j : Nat} (h : ¬ j = k) : spU f k v j = f j := if_neg h
theorem spUK_s {K : Nat → Nat → Bool} {a b : Nat} {v : Bool} : spUK K a b v a b = v := if_pos ⟨rfl, rfl⟩
theorem spUK_n {K : Nat → Nat → Bool} {a b x y : Nat} {v : Bool} (h : ¬ (x = a ∧ y = b)) : spUK K a b v x y = K x y := if_neg h
theorem spU_sm {f : Nat → Nat} {v i : Nat} : ∀ {n : Nat}, i < n → fb_sm (spU f i v) n + f i = fb_sm f n + v
  | 0, h => absurd h (Nat.not_lt_zero i)
  | n + 1, h => by
    rw [fb_sm_succ, fb_sm_succ]
    by_cases e : i = n
    · subst e
      rw [spU_s, fb_sm_cong (f := spU f i v) (g := f) (fun k hk => spU_n (by omega))]
      omega
    · have := spU_sm (f := f) (v := v) (i := i) (n := n) (by omega)
      rw [spU_n (show ¬ n = i by omega)]
      omega
def spGv (k p : Nat) : Nat := if k = 1 then p / 2 else if k = 2 then p / 3 else if k = 3 then p - 9 else p - p / 2
theorem spGv_le (k p : Nat) : spGv k p ≤ p := by
  unfold spGv
  split
  · omega
  · split
    · omega
    · split <;> omega
def spLaw (P : spF) (a b : Nat) : Bool := P.2.2.2.1 a b && !P.2.2.2.2 a b && decide (0 < P.2.2.1 b)
def spGive (P : spF) (a b : Nat) : Nat := spGv (P.2.1 b) (P.2.2.1 b)
/-- an asking, if it is lawful -/
def spAsk (P : spF) (a b : Nat) : spF := if spLaw P a b = true then (P.1, P.2.1, spU (spU P.2.2.1 b (P.2.2.1 b - spGive P a b)) a (P.2.2.1 a + spGive P a b), P.2.2.2.1, spUK P.2.2.2.2 a b true) else P
def spAns (P : spF) (a b : Nat) : Int32 := if spLaw P a b = true then nI (spGive P a b) else -2
def spWk (P : spF) : spF := (P.1, P.2.1, P.2.2.1, P.2.2.2.1, fun _ _ => false)
def spEnd (L : spL) (j : Nat) (P : spF) : spF := if L.2.2.2 j = true then spWk P else P
/-! what the class and the reference keep of it -/
def zFr (P : spF) (n : Nat) (kn ak : Int32) (f g : Nat → Int32) : Prop := n = P.1 ∧ (∀ j, j < n → f j = nI (P.2.1 j)) ∧ (∀ j, j < n → g j = nI (P.2.2.1 j)) ∧ (∀ i, i < 32 → bt kn i = (decide (i < 25) && P.2.2.2.1 (i / 5) (i % 5))) ∧ (∀ i, i < 32 → bt ak i = (decide (i < 25) && P.2.2.2.2 (i / 5) (i % 5)))
def zFm (P : spF) (n : Nat) (f1 f2 f3 f4 : Nat → Int32) : Prop := n = P.1 ∧ ∀ j, j < n → f1 j = nI (P.2.1 j) ∧ f2 j = nI (P.2.2.1 j) ∧ (∀ i, i < 32 → bt (f3 j) i = (decide (i < n) && P.2.2.2.1 j i)) ∧ (∀ i, i < 32 → bt (f4 j) i = (decide (i < n) && P.2.2.2.2 j i))
def zPr (L : spL) (pn : Nat) (pe : Int32) (pf pg : Nat → Int32) : Prop := pn = L.1 ∧ (∀ j, j < pn → pf j = nI (L.2.1 j) ∧ pg j = nI (L.2.2.1 j)) ∧ ∀ i, i < 32 → bt pe i = (decide (i < pn) && L.2.2.2 i)
def zPm (L : spL) (pn : Nat) (f5 : Nat → Int32) : Prop := pn = L.1 ∧ ∀ j, j < pn → f5 (3 * j) = nI (L.2.1 j) ∧ f5 (3 * j + 1) = nI (L.2.2.1 j) ∧ f5 (3 * j + 2) = (if L.2.2.2 j = true then 1 else 0)
/-! what holds of people and plans all the time; N: more than all have -/
def zFw (P : spF) (N : Nat) : Prop := P.1 ≤ 5 ∧ (∀ j, j < P.1 → P.2.1 j ≤ 3) ∧ fb_sm P.2.2.1 P.1 ≤ N ∧ (∀ a b, a < 5 → b < 5 → ¬ (a < P.1 ∧ b < P.1) → ¬ a = b → P.2.2.2.1 a b = true) ∧ (∀ a b, ¬ (a < P.1 ∧ b < P.1) → P.2.2.2.2 a b = false) ∧ (∀ a, P.2.2.2.1 a a = false) ∧ (∀ a, P.2.2.2.2 a a = false)
def zLw (L : spL) (n : Nat) : Prop := L.1 ≤ 8 ∧ ∀ j, j < L.1 → L.2.1 j < n ∧ L.2.2.1 j < n ∧ ¬ L.2.1 j = L.2.2.1 j
def zSw (tn : Nat) (ts : Nat → Int32) : Prop := tn ≤ 80 ∧ ∀ j, j < tn → 32 ≤ ts j ∧ ts j ≤ 126
def zIv (st : spT) (tn N : Nat) : Prop := zFw st.1 N ∧ zLw st.2.1 st.1.1 ∧ zSw tn st.2.2.1 ∧ zFw st.2.2.2.1 N ∧ zLw st.2.2.2.2 st.2.2.2.1.1
theorem zFw_mono {P : spF} {N M : Nat} (h : zFw P N) (hm : N ≤ M) : zFw P M := ⟨h.1, h.2.1, Nat.le_trans h.2.2.1 hm, h.2.2.2⟩
theorem zIv_mono {st : spT} {tn N M : Nat} (h : zIv st tn N) (hm : N ≤ M) : zIv st tn M := ⟨zFw_mono h.1 hm, h.2.1, h.2.2.1, zFw_mono h.2.2.2.1 hm, h.2.2.2.2⟩
theorem zFw_pc {P : spF} {N j : Nat} (h : zFw P N) (hj : j < P.1) : P.2.2.1 j ≤ N := Nat.le_trans (fb_sm_part _ hj) h.2.2.1
/-! an asking keeps what holds -/
theorem zFw_ask {P : spF} {N a b : Nat} (h : zFw P N) (ha : a < P.1) (hb : b < P.1) (hab : ¬ a = b) : zFw (spAsk P a b) N := by
  unfold spAsk
  by_cases hl : spLaw P a b = true
  · rw [if_pos hl]
    refine ⟨h.1, h.2.1, ?_, h.2.2.2.1, ?_, h.2.2.2.2.2.1, ?_⟩
    · have h1 := spU_sm (f := spU P.2.2.1 b (P.2.2.1 b - spGive P a b)) (v := P.2.2.1 a + spGive P a b) ha
      have h2 := spU_sm (f := P.2.2.1) (v := P.2.2.1 b - spGive P a b) hb
      have h3 : spGive P a b ≤ P.2.2.1 b := spGv_le _ _
      have h4 := h.2.2.1
      rw [spU_n hab] at h1
      show fb_sm (spU (spU P.2.2.1 b (P.2.2.1 b - spGive P a b)) a (P.2.2.1 a + spGive P a b)) P.1 ≤ N
      omega
    · intro x y hxy
      show spUK P.2.2.2.2 a b true x y = false
      rw [spUK_n (fun e => hxy ⟨by rw [e.1]; exact ha, by rw [e.2]; exact hb⟩)]
      exact h.2.2.2.2.1 x y hxy
    · intro x
      show spUK P.2.2.2.2 a b true x x = false
      rw [spUK_n (fun e => hab (e.1.symm.trans e.2))]
      exact h.2.2.2.2.2.2 x
  · rw [if_neg hl]; exact h
theorem spAsk_n (P : spF) (a b : Nat) : (spAsk P a b).1 = P.1 := by
  unfold spAsk
  split <;> rfl
theorem zFw_wk {P : spF} {N : Nat} (h : zFw P N) : zFw (spWk P) N := ⟨h.1, h.2.1, h.2.2.1, h.2.2.2.1, fun _ _ _ => rfl, h.2.2.2.2.2.1, fun _ => rfl⟩
theorem spEnd_n (L : spL) (j : Nat) (P : spF) : (spEnd L j P).1 = P.1 := by
  unfold spEnd
  split <;> rfl
theorem zFw_end {L : spL} {j : Nat} {P : spF} {N : Nat} (h : zFw P N) : zFw (spEnd L j P) N := by
  unfold spEnd
  split
  · exact zFw_wk h
  · exact h
