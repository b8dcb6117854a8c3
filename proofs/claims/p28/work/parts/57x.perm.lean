/-! all orders of n, as rows, the lesser first -/
def pmD (n : Nat) : Nat → List Nat → List (List Nat)
  | 0, _ => [[]]
  | r + 1, U => (List.range' 0 n).flatMap (fun j => if U.contains j = true then [] else (pmD n r (j :: U)).map (fun l => j :: l))
abbrev pmL (n : Nat) : List (List Nat) := pmD n n []
def runL (L : spL) (P : spF) (l : List Nat) : spF := l.foldl (fun P j => spAsk P (L.2.1 j) (L.2.2.1 j)) P
def cntL (L : spL) (fit : spF → Bool) (P : spF) (ls : List (List Nat)) (c : Nat) : Nat := ls.foldl (fun c l => if fit (runL L P l) = true then c + 1 else c) c
theorem cntL_app (L : spL) (fit : spF → Bool) (P : spF) (a b : List (List Nat)) (c : Nat) : cntL L fit P (a ++ b) c = cntL L fit P b (cntL L fit P a c) := by
  unfold cntL
  rw [List.foldl_append]
theorem cntL_map (L : spL) (fit : spF → Bool) (P : spF) (j : Nat) : ∀ (ls : List (List Nat)) (c : Nat), cntL L fit P (ls.map (fun l => j :: l)) c = cntL L fit (spAsk P (L.2.1 j) (L.2.2.1 j)) ls c
  | [], _ => rfl
  | l :: ls, c => by
    show cntL L fit P (ls.map (fun l => j :: l)) (if fit (runL L P (j :: l)) = true then c + 1 else c) = cntL L fit (spAsk P (L.2.1 j) (L.2.2.1 j)) ls (if fit (runL L (spAsk P (L.2.1 j) (L.2.2.1 j)) l) = true then c + 1 else c)
    exact cntL_map L fit P j ls _
theorem spUb_c (U : List Nat) (j : Nat) : spUb (fun i => U.contains i) j = fun i => (j :: U).contains i := by
  funext i
  show (if i = j then true else U.contains i) = (j :: U).contains i
  rw [List.contains_cons]
  by_cases e : i = j
  · rw [if_pos e, e, beq_self_eq_true, Bool.true_or]
  · rw [if_neg e, beq_eq_false_iff_ne.mpr e, Bool.false_or]
theorem soL_cnt {L : spL} {fit : spF → Bool} {r : Nat} {U : List Nat} {P : spF} (ih : ∀ (U : List Nat) (P : spF) (c : Nat), spSo L fit r (fun i => U.contains i) P c = cntL L fit P (pmD L.1 r U) c) : ∀ (m j c : Nat), spSoL L (fun i => U.contains i) P (spSo L fit r) m j c = cntL L fit P ((List.range' j m).flatMap (fun j => if U.contains j = true then [] else (pmD L.1 r (j :: U)).map (fun l => j :: l))) c
  | 0, _, _ => rfl
  | m + 1, j, c => by
    rw [spSoL, List.range'_succ, List.flatMap_cons, cntL_app]
    by_cases k : U.contains j = true
    · rw [if_pos k, if_pos k, soL_cnt ih m (j + 1) c]; rfl
    · rw [if_neg k, if_neg k, cntL_map, ← ih, ← spUb_c, soL_cnt ih m (j + 1) _]
theorem so_cnt {L : spL} {fit : spF → Bool} : ∀ (r : Nat) (U : List Nat) (P : spF) (c : Nat), spSo L fit r (fun i => U.contains i) P c = cntL L fit P (pmD L.1 r U) c
  | 0, U, P, c => rfl
  | r + 1, U, P, c => by
    rw [spSo, pmD]
    exact soL_cnt (so_cnt r) L.1 0 c
theorem so_all {L : spL} {fit : spF → Bool} {P : spF} : spSo L fit L.1 (fun _ => false) P 0 = cntL L fit P (pmL L.1) 0 := by
  have h := so_cnt (L := L) (fit := fit) L.1 [] P 0
  rw [show (fun i => ([] : List Nat).contains i) = (fun _ : Nat => false) from funext (fun _ => rfl)] at h
  exact h
/-! the next row -/
def nxA (l : List Nat) (i : Nat) : Nat := l.getD i 0
def nxC (n : Nat) (l : List Nat) (q z : Nat) : Bool := decide (q + 2 ≤ n) && decide (nxA l q ≤ nxA l (q + 1)) && decide (q + 1 ≤ z) && decide (z < n) && decide (nxA l q ≤ nxA l z) && (List.range' 0 n).all (fun i => !decide (q + 1 ≤ i) || !decide (i + 1 < n) || decide (nxA l (i + 1) < nxA l i)) && (List.range' 0 n).all (fun i => !decide (z < i) || decide (nxA l i < nxA l q))
def nxG (n : Nat) (l : List Nat) (q z i : Nat) : Nat := if q < i ∧ i < n then (if q + n - i = z then nxA l q else if q + n - i = q then nxA l z else nxA l (q + n - i)) else (if i = z then nxA l q else if i = q then nxA l z else nxA l i)
def dscL (n : Nat) (l : List Nat) : Bool := (List.range' 0 n).all (fun i => !decide (i + 1 < n) || decide (nxA l (i + 1) < nxA l i))
def chk2 (n : Nat) (l l2 : List Nat) : Bool := !dscL n l && (List.range' 0 n).all (fun q => (List.range' 0 n).all (fun z => !nxC n l q z || (List.range' 0 n).all (fun i => decide (nxG n l q z i = nxA l2 i))))
def chkE (n : Nat) (l : List Nat) : Bool := (List.range' 0 n).all (fun q => (List.range' 0 n).all (fun z => !nxC n l q z))
def chkL (n : Nat) : List (List Nat) → Bool
  | [] => false
  | [l] => chkE n l
  | l :: l2 :: ls => chk2 n l l2 && chkL n (l2 :: ls)
def chkV (n : Nat) (l : List Nat) : Bool := (List.range' 0 n).all (fun i => decide (nxA l i < n))
theorem pm_chk : ∀ n, n < 7 → chkL n (pmL n) = true ∧ (pmL n).all (chkV n) = true ∧ (List.range' 0 n).all (fun i => decide (nxA ((pmL n).getD 0 []) i = i)) = true := by decide +kernel
theorem pm_len : ∀ n, n < 7 → (pmL n).all (fun l => decide (l.length = n)) = true := by decide +kernel
theorem chkL_k {n : Nat} : ∀ (ls : List (List Nat)), chkL n ls = true → ∀ (k : Nat) (l : List Nat), ls[k]? = some l → (∃ l2, ls[k + 1]? = some l2 ∧ chk2 n l l2 = true) ∨ (ls.length = k + 1 ∧ chkE n l = true)
  | [], h, _, _, _ => absurd (show false = true from h) Bool.false_ne_true
  | [l], h, k, l1, hk => by
    cases k with
    | zero =>
      have e : l = l1 := Option.some.inj hk
      subst e
      exact Or.inr ⟨rfl, h⟩
    | succ k => exact absurd hk (by simp)
  | l :: l2 :: ls, h, k, l1, hk => by
    have h' : (chk2 n l l2 && chkL n (l2 :: ls)) = true := h
    rw [Bool.and_eq_true] at h'
    cases k with
    | zero =>
      have e : l = l1 := Option.some.inj hk
      subst e
      exact Or.inl ⟨l2, rfl, h'.1⟩
    | succ k =>
      rcases chkL_k (l2 :: ls) h'.2 k l1 hk with ⟨l3, h3, h4⟩ | ⟨h3, h4⟩
      · exact Or.inl ⟨l3, h3, h4⟩
      · exact Or.inr ⟨by rw [List.length_cons, h3], h4⟩
theorem all_r {n : Nat} {p : Nat → Bool} (h : (List.range' 0 n).all p = true) {i : Nat} (hi : i < n) : p i = true := List.all_eq_true.mp h i (List.mem_range'_1.mpr ⟨Nat.zero_le _, by omega⟩)
theorem r_all {n : Nat} {p : Nat → Bool} (h : ∀ i, i < n → p i = true) : (List.range' 0 n).all p = true := List.all_eq_true.mpr (fun i hi => h i (by have := (List.mem_range'_1.mp hi).2; omega))
/-- a row of the list, as the reference keeps it -/
def pmF (n : Nat) (l : List Nat) (f : Nat → Int32) : Prop := ∀ i, i < n → f i = nI (nxA l i) ∧ nxA l i < n
theorem pm_C {n q z : Nat} {l : List Nat} {f : Nat → Int32} (hn : n < 7) (hf : pmF n l f) (h1 : q + 2 ≤ n) (h2 : f q ≤ f (q + 1)) (h3 : ∀ i, q + 1 ≤ i → i + 1 < n → f (i + 1) < f i) (h4 : q + 1 ≤ z) (h5 : z < n) (h6 : f q ≤ f z) (h7 : ∀ i, z < i → i < n → f i < f q) : nxC n l q z = true := by
  have v : ∀ i, i < n → nxA l i < 2147483648 := fun i hi => by have := (hf i hi).2; omega
  have le : ∀ i j, i < n → j < n → f i ≤ f j → nxA l i ≤ nxA l j := fun i j hi hj k => by
    rw [(hf i hi).1, (hf j hj).1] at k
    exact (nI_leI (v i hi) (v j hj)).mp k
  have lt : ∀ i j, i < n → j < n → f i < f j → nxA l i < nxA l j := fun i j hi hj k => by
    rw [(hf i hi).1, (hf j hj).1] at k
    exact (nI_ltI (v i hi) (v j hj)).mp k
  unfold nxC
  rw [decide_eq_true h1, decide_eq_true (le q (q + 1) (by omega) (by omega) h2), decide_eq_true h4, decide_eq_true h5, decide_eq_true (le q z (by omega) h5 h6)]
  rw [r_all (fun i hi => ?_), r_all (fun i hi => ?_)]
  · rfl
  · by_cases k : z < i
    · rw [decide_eq_true (lt i q hi (by omega) (h7 i k hi)), Bool.or_true]
    · rw [decide_eq_false k, Bool.not_false, Bool.true_or]
  · by_cases k : q + 1 ≤ i
    · by_cases k2 : i + 1 < n
      · rw [decide_eq_true (lt (i + 1) i k2 hi (h3 i k k2)), Bool.or_true]
      · rw [decide_eq_false k2, Bool.not_false, Bool.or_true, Bool.true_or]
    · rw [decide_eq_false k, Bool.not_false, Bool.true_or, Bool.true_or]
theorem pm_G {n q z i : Nat} {l : List Nat} {f : Nat → Int32} (hf : pmF n l f) (h1 : q + 2 ≤ n) (h5 : z < n) (hi : i < n) : (if q < i ∧ i < n then (if q + n - i = z then f q else if q + n - i = q then f z else f (q + n - i)) else (if i = z then f q else if i = q then f z else f i)) = nI (nxG n l q z i) := by
  unfold nxG
  have e : ∀ j, j < n → f j = nI (nxA l j) := fun j hj => (hf j hj).1
  by_cases k : q < i ∧ i < n
  · rw [if_pos k, if_pos k]
    by_cases k1 : q + n - i = z
    · rw [if_pos k1, if_pos k1]; exact e q (by omega)
    · rw [if_neg k1, if_neg k1]
      by_cases k2 : q + n - i = q
      · rw [if_pos k2, if_pos k2]; exact e z h5
      · rw [if_neg k2, if_neg k2]; exact e _ (by omega)
  · rw [if_neg k, if_neg k]
    by_cases k1 : i = z
    · rw [if_pos k1, if_pos k1]; exact e q (by omega)
    · rw [if_neg k1, if_neg k1]
      by_cases k2 : i = q
      · rw [if_pos k2, if_pos k2]; exact e z h5
      · rw [if_neg k2, if_neg k2]; exact e i hi
theorem pm_V {n k : Nat} {l : List Nat} (hn : n < 7) (hk : (pmL n)[k]? = some l) {i : Nat} (hi : i < n) : nxA l i < n := of_decide_eq_true (all_r (List.all_eq_true.mp (pm_chk n hn).2.1 l (List.mem_of_getElem? hk)) hi)
theorem pm_next {n k : Nat} {l : List Nat} {f g : Nat → Int32} (hn : n < 7) (hk : (pmL n)[k]? = some l) (hf : pmF n l f) (h : nxO n f g) : ∃ l2, (pmL n)[k + 1]? = some l2 ∧ pmF n l2 g := by
  obtain ⟨q, z, h1, h2, h3, h4, h5, h6, h7, h8⟩ := h
  have hC := pm_C hn hf h1 h2 h3 h4 h5 h6 h7
  rcases chkL_k (pmL n) (pm_chk n hn).1 k l hk with ⟨l2, a1, a2⟩ | ⟨-, a2⟩
  · refine ⟨l2, a1, fun i hi => ⟨?_, pm_V hn a1 hi⟩⟩
    have a3 : (!dscL n l && (List.range' 0 n).all (fun q => (List.range' 0 n).all (fun z => !nxC n l q z || (List.range' 0 n).all (fun i => decide (nxG n l q z i = nxA l2 i))))) = true := a2
    rw [Bool.and_eq_true] at a3
    have a4 := all_r (all_r a3.2 (show q < n by omega)) h5
    rw [hC, Bool.not_true, Bool.false_or] at a4
    have a5 := of_decide_eq_true (all_r a4 hi)
    rw [h8 i, pm_G hf h1 h5 hi, a5]
  · have a4 := all_r (all_r a2 (show q < n by omega)) h5
    rw [hC] at a4
    exact absurd a4 (by decide)
theorem pm_last {n k : Nat} {l : List Nat} {f : Nat → Int32} (hn : n < 7) (hk : (pmL n)[k]? = some l) (hf : pmF n l f) (h : ∀ i, i + 1 < n → f (i + 1) < f i) : (pmL n).length = k + 1 := by
  rcases chkL_k (pmL n) (pm_chk n hn).1 k l hk with ⟨l2, -, a2⟩ | ⟨a1, -⟩
  · exfalso
    have a3 : (!dscL n l && (List.range' 0 n).all (fun q => (List.range' 0 n).all (fun z => !nxC n l q z || (List.range' 0 n).all (fun i => decide (nxG n l q z i = nxA l2 i))))) = true := a2
    rw [Bool.and_eq_true] at a3
    have hd : dscL n l = true := r_all (fun i hi => by
      by_cases k2 : i + 1 < n
      · have k3 := h i k2
        rw [(hf i hi).1, (hf (i + 1) k2).1] at k3
        have k4 := (nI_ltI (by have := (hf (i + 1) k2).2; omega) (by have := (hf i hi).2; omega)).mp k3
        rw [decide_eq_true k4, Bool.or_true]
      · rw [decide_eq_false k2, Bool.not_false, Bool.true_or])
    rw [hd] at a3
    exact absurd a3.1 (by decide)
  · exact a1
theorem pm_first {n : Nat} (hn : n < 7) {f : Nat → Int32} (hf : ∀ i, i < 8 → f i = nI i) : ∃ l, (pmL n)[0]? = some l ∧ pmF n l f := by
  cases e : (pmL n)[0]? with
  | none =>
    have h := (pm_chk n hn).1
    cases e2 : pmL n with
    | nil => rw [e2] at h; exact absurd (show false = true from h) Bool.false_ne_true
    | cons a b => rw [e2] at e; exact absurd e (by simp)
  | some l =>
    refine ⟨l, rfl, fun i hi => ⟨?_, pm_V hn e hi⟩⟩
    have h := of_decide_eq_true (all_r (pm_chk n hn).2.2 hi)
    have e3 : (pmL n).getD 0 [] = l := by rw [List.getD_eq_getElem?_getD, e]; rfl
    rw [e3] at h
    rw [h]
    exact hf i (by omega)
/-! the orders one by one -/
def runN (L : spL) (P : spF) (l : List Nat) : Nat → spF
  | 0 => P
  | m + 1 => spAsk (runN L P l m) (L.2.1 (nxA l m)) (L.2.2.1 (nxA l m))
theorem runN_take {L : spL} {P : spF} {l : List Nat} : ∀ m, m ≤ l.length → runN L P l m = runL L P (l.take m)
  | 0, _ => rfl
  | m + 1, h => by
    have e : l.take (m + 1) = l.take m ++ [nxA l m] := by
      rw [List.take_add_one]
      congr 1
      unfold nxA
      rw [List.getD_eq_getElem?_getD, List.getElem?_eq_getElem (by omega)]
      rfl
    rw [runN, runN_take m (by omega), e]
    unfold runL
    rw [List.foldl_append]
    rfl
theorem runN_all {L : spL} {P : spF} {n k : Nat} {l : List Nat} (hn : n < 7) (hk : (pmL n)[k]? = some l) : runN L P l n = runL L P l := by
  have h := of_decide_eq_true (List.all_eq_true.mp (pm_len n hn) l (List.mem_of_getElem? hk))
  rw [runN_take n (by omega), ← h, List.take_length]
theorem cnt_step {L : spL} {fit : spF → Bool} {P : spF} {ls : List (List Nat)} {k : Nat} {l : List Nat} (hk : ls[k]? = some l) : cntL L fit P (ls.take (k + 1)) 0 = if fit (runL L P l) = true then cntL L fit P (ls.take k) 0 + 1 else cntL L fit P (ls.take k) 0 := by
  rw [List.take_add_one, hk, cntL_app]
  rfl
