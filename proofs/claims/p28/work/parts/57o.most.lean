/-! an asking that is done; askings that touch others may change places -/
def spDo (P : spF) (a b : Nat) : spF := (P.1, P.2.1, spU (spU P.2.2.1 b (P.2.2.1 b - spGive P a b)) a (P.2.2.1 a + spGive P a b), P.2.2.2.1, spUK P.2.2.2.2 a b true)
theorem ask_do {P : spF} {a b : Nat} (h : spLaw P a b = true) : spAsk P a b = spDo P a b := if_pos h
theorem ask_no {P : spF} {a b : Nat} (h : ¬ spLaw P a b = true) : spAsk P a b = P := if_neg h
theorem law_do {P : spF} {a q x y : Nat} (h1 : ¬ y = a) (h2 : ¬ y = q) : spLaw (spDo P a q) x y = spLaw P x y := by
  show (P.2.2.2.1 x y && !spUK P.2.2.2.2 a q true x y && decide (0 < spU (spU P.2.2.1 q (P.2.2.1 q - spGive P a q)) a (P.2.2.1 a + spGive P a q) y)) = _
  rw [spUK_n (fun e => h2 e.2), spU_n h1, spU_n h2]
  rfl
theorem law_ask {P : spF} {a q x y : Nat} (h1 : ¬ y = a) (h2 : ¬ y = q) : spLaw (spAsk P a q) x y = spLaw P x y := by
  by_cases l : spLaw P a q = true
  · rw [ask_do l]; exact law_do h1 h2
  · rw [ask_no l]
theorem give_do {P : spF} {a q x y : Nat} (h1 : ¬ y = a) (h2 : ¬ y = q) : spGive (spDo P a q) x y = spGive P x y := by
  show spGv (P.2.1 y) (spU (spU P.2.2.1 q (P.2.2.1 q - spGive P a q)) a (P.2.2.1 a + spGive P a q) y) = _
  rw [spU_n h1, spU_n h2]
  rfl
theorem spU_c4 (f : Nat → Nat) {a q b c : Nat} (G1 G2 : Nat) (hqb : ¬ q = b) (hqc : ¬ q = c) (hca : ¬ c = a) (hqa : ¬ q = a) (hbc : ¬ b = c) :
    spU (spU (spU (spU f q (f q - G1)) a (f a + G1)) c (spU (spU f q (f q - G1)) a (f a + G1) c - G2)) b (spU (spU f q (f q - G1)) a (f a + G1) b + G2)
    = spU (spU (spU (spU f c (f c - G2)) b (f b + G2)) q (spU (spU f c (f c - G2)) b (f b + G2) q - G1)) a (spU (spU f c (f c - G2)) b (f b + G2) a + G1) := by
  rw [spU_n hca, spU_n (show ¬ c = q from fun e => hqc e.symm), spU_n (show ¬ q = b from hqb), spU_n hqc]
  funext y
  by_cases hba : b = a
  · subst hba
    rw [spU_s, spU_s]
    by_cases y1 : y = b
    · rw [y1, spU_s, spU_s]; omega
    · rw [spU_n y1, spU_n y1]
      by_cases y2 : y = c
      · rw [y2, spU_s, spU_n (fun e => hqc e.symm), spU_n hca, spU_s]
      · rw [spU_n y2, spU_n y1]
        by_cases y3 : y = q
        · rw [y3, spU_s, spU_s]
        · rw [spU_n y3, spU_n y3, spU_n y1, spU_n y2]
  · rw [spU_n hba, spU_n (show ¬ b = q from fun e => hqb e.symm), spU_n (show ¬ a = b from fun e => hba e.symm), spU_n (show ¬ a = c from fun e => hca e.symm)]
    by_cases y1 : y = b
    · rw [y1, spU_s, spU_n hba, spU_n (fun e => hqb e.symm), spU_s]
    · rw [spU_n y1]
      by_cases y2 : y = c
      · rw [y2, spU_s, spU_n hca, spU_n (fun e => hqc e.symm), spU_n (fun e => hbc e.symm), spU_s]
      · rw [spU_n y2]
        by_cases y4 : y = a
        · rw [y4, spU_s, spU_s]
        · rw [spU_n y4, spU_n y4]
          by_cases y3 : y = q
          · rw [y3, spU_s, spU_s]
          · rw [spU_n y3, spU_n y3, spU_n y1, spU_n y2]
theorem spUK_c2 (K : Nat → Nat → Bool) (a q b c : Nat) : spUK (spUK K a q true) b c true = spUK (spUK K b c true) a q true := by
  funext x y
  unfold spUK
  by_cases h1 : x = b ∧ y = c
  · rw [if_pos h1]
    by_cases h2 : x = a ∧ y = q
    · rw [if_pos h2]
    · rw [if_neg h2, if_pos h1]
  · rw [if_neg h1]
    by_cases h2 : x = a ∧ y = q
    · rw [if_pos h2, if_pos h2]
    · rw [if_neg h2, if_neg h2, if_neg h1]
theorem do_comm {P : spF} {a q b c : Nat} (hqb : ¬ q = b) (hqc : ¬ q = c) (hca : ¬ c = a) (hqa : ¬ q = a) (hbc : ¬ b = c) : spDo (spDo P a q) b c = spDo (spDo P b c) a q := by
  have g1 : spGive (spDo P a q) b c = spGive P b c := give_do hca (fun e => hqc e.symm)
  have g2 : spGive (spDo P b c) a q = spGive P a q := give_do hqb hqc
  unfold spDo at g1 g2 ⊢
  rw [g1, g2]
  have e1 := spU_c4 P.2.2.1 (spGive P a q) (spGive P b c) hqb hqc hca hqa hbc
  have e2 := spUK_c2 P.2.2.2.2 a q b c
  dsimp only
  rw [e1, e2]
theorem ask_comm {P : spF} {a q b c : Nat} (hqb : ¬ q = b) (hqc : ¬ q = c) (hca : ¬ c = a) (hqa : ¬ q = a) (hbc : ¬ b = c) : spAsk (spAsk P a q) b c = spAsk (spAsk P b c) a q := by
  have e1 : spLaw (spAsk P a q) b c = spLaw P b c := law_ask hca (fun e => hqc e.symm)
  have e2 : spLaw (spAsk P b c) a q = spLaw P a q := law_ask hqb hqc
  by_cases l1 : spLaw P a q = true
  · by_cases l2 : spLaw P b c = true
    · rw [ask_do (e1.trans l2), ask_do (e2.trans l1), ask_do l1, ask_do l2]; exact do_comm hqb hqc hca hqa hbc
    · rw [ask_no (P := spAsk P a q) (fun k => l2 (e1.symm.trans k)), ask_no l2]
  · rw [ask_no (P := spAsk P b c) (fun k => l1 (e2.symm.trans k)), ask_no l1]
theorem ask_ge (P : spF) (a x : Nat) : P.2.2.1 a ≤ (spAsk P a x).2.2.1 a := by
  by_cases l : spLaw P a x = true
  · rw [ask_do l]
    show P.2.2.1 a ≤ spU (spU P.2.2.1 x (P.2.2.1 x - spGive P a x)) a (P.2.2.1 a + spGive P a x) a
    rw [spU_s]; omega
  · rw [ask_no l]; exact Nat.le_refl _
/-! one asks all of a set by their numbers -/
def wnB (a : Nat) (S : Nat → Bool) : Nat → spF → spF
  | 0, P => P
  | k + 1, P => if S k = true then spAsk (wnB a S k P) a k else wnB a S k P
theorem wnB_n (a : Nat) (S : Nat → Bool) (P : spF) : ∀ k, (wnB a S k P).1 = P.1
  | 0 => rfl
  | k + 1 => by
    rw [wnB]
    by_cases h : S k = true
    · rw [if_pos h, spAsk_n]; exact wnB_n a S P k
    · rw [if_neg h]; exact wnB_n a S P k
theorem wnB_w {a N : Nat} {S : Nat → Bool} {P : spF} (hw : zFw P N) (ha : a < P.1) (hS : ∀ q, S q = true → ¬ q = a) : ∀ k, k ≤ P.1 → zFw (wnB a S k P) N
  | 0, _ => hw
  | k + 1, hk => by
    have h1 := wnB_w hw ha hS k (by omega)
    rw [wnB]
    by_cases h : S k = true
    · rw [if_pos h]
      exact zFw_ask h1 (by rw [wnB_n]; exact ha) (by rw [wnB_n]; omega) (fun e => hS k h e.symm)
    · rw [if_neg h]; exact h1
theorem wnB_cong {a : Nat} {S S' : Nat → Bool} {P : spF} : ∀ k, (∀ q, q < k → S q = S' q) → wnB a S k P = wnB a S' k P
  | 0, _ => rfl
  | k + 1, h => by rw [wnB, wnB, wnB_cong k (fun q hq => h q (by omega)), h k (by omega)]
theorem wnB_comm {a x : Nat} {S : Nat → Bool} {P : spF} (hxa : ¬ x = a) (hx : ¬ S x = true) (hS : ∀ q, S q = true → ¬ q = a) : ∀ k, wnB a S k (spAsk P a x) = spAsk (wnB a S k P) a x
  | 0 => rfl
  | k + 1 => by
    rw [wnB, wnB, wnB_comm hxa hx hS k]
    by_cases h : S k = true
    · rw [if_pos h, if_pos h]
      exact ask_comm hxa (fun e => hx (by rw [e]; exact h)) (hS k h) hxa (fun e => hS k h e.symm)
    · rw [if_neg h, if_neg h]
theorem wnB_one {a x : Nat} {S S' : Nat → Bool} {P : spF} (hxa : ¬ x = a) (hx : ¬ S x = true) (hS : ∀ q, S q = true → ¬ q = a) (h1 : S' x = true) (h2 : ∀ q, ¬ q = x → S' q = S q) : ∀ k, x < k → wnB a S' k P = spAsk (wnB a S k P) a x
  | 0, h => absurd h (Nat.not_lt_zero _)
  | k + 1, h => by
    rw [wnB, wnB]
    by_cases e : x = k
    · subst e
      rw [if_pos h1, if_neg hx, wnB_cong (S := S') (S' := S) x (fun q hq => h2 q (by omega))]
    · rw [wnB_one hxa hx hS h1 h2 k (by omega), h2 k (fun q => e q.symm)]
      by_cases c : S k = true
      · rw [if_pos c, if_pos c]
        exact ask_comm hxa e (hS k c) hxa (fun q => hS k c q.symm)
      · rw [if_neg c, if_neg c]
/-! a row of times: T q is when q is asked; what one has behind all -/
def wnT (a : Nat) (T : Nat → Nat) (t : Nat) : Nat → Bool := fun q => !decide (q = a) && decide (T q = t)
theorem wnT_t {a t q : Nat} {T : Nat → Nat} : wnT a T t q = true ↔ ¬ q = a ∧ T q = t := by
  unfold wnT
  rw [Bool.and_eq_true, Bool.not_eq_true', decide_eq_false_iff_not, decide_eq_true_iff]
theorem wnT_a {a t : Nat} {T : Nat → Nat} : ∀ q, wnT a T t q = true → ¬ q = a := fun _ h => (wnT_t.mp h).1
def wnX (L : spL) (a : Nat) (T : Nat → Nat) : Nat → Nat → spF → Nat
  | 0, _, P => P.2.2.1 a
  | d + 1, t, P => wnX L a T d (t + 1) (wnB a (wnT a T (t + 1)) P.1 (spEnd L t (spAsk P (L.2.1 t) (L.2.2.1 t))))
def wnG (L : spL) (a : Nat) (T : Nat → Nat) (d t : Nat) (P : spF) : Nat := wnX L a T d t (wnB a (wnT a T t) P.1 P)
theorem wnG_0 (L : spL) (a : Nat) (T : Nat → Nat) (t : Nat) (P : spF) : wnG L a T 0 t P = (wnB a (wnT a T t) P.1 P).2.2.1 a := rfl
theorem wnG_s (L : spL) (a : Nat) (T : Nat → Nat) (d t : Nat) (P : spF) : wnG L a T (d + 1) t P = wnG L a T d (t + 1) (spEnd L t (spAsk (wnB a (wnT a T t) P.1 P) (L.2.1 t) (L.2.2.1 t))) := by
  unfold wnG
  rw [wnX, spEnd_n, spAsk_n, wnB_n]
theorem bool_ext {x y : Bool} (h : x = true ↔ y = true) : x = y := by
  cases x
  · cases y
    · rfl
    · exact absurd (h.mpr rfl) (by decide)
  · exact (h.mp rfl).symm
theorem wnG_cong {L : spL} {a : Nat} {T T' : Nat → Nat} : ∀ (d s : Nat) (P : spF), (∀ q, q < P.1 → ¬ q = a → ∀ u, s ≤ u → (T q = u ↔ T' q = u)) → wnG L a T d s P = wnG L a T' d s P
  | 0, s, P, h => by
    rw [wnG_0, wnG_0, wnB_cong (S := wnT a T s) (S' := wnT a T' s) P.1 (fun q hq => bool_ext (by rw [wnT_t, wnT_t]; exact ⟨fun k => ⟨k.1, (h q hq k.1 s (Nat.le_refl _)).mp k.2⟩, fun k => ⟨k.1, (h q hq k.1 s (Nat.le_refl _)).mpr k.2⟩⟩))]
  | d + 1, s, P, h => by
    rw [wnG_s, wnG_s, wnB_cong (S := wnT a T s) (S' := wnT a T' s) P.1 (fun q hq => bool_ext (by rw [wnT_t, wnT_t]; exact ⟨fun k => ⟨k.1, (h q hq k.1 s (Nat.le_refl _)).mp k.2⟩, fun k => ⟨k.1, (h q hq k.1 s (Nat.le_refl _)).mpr k.2⟩⟩))]
    refine wnG_cong d (s + 1) _ (fun q hq hqa u hu => ?_)
    rw [spEnd_n, spAsk_n, wnB_n] at hq
    exact h q hq hqa u (by omega)
theorem spEnd_no {L : spL} {t : Nat} {P : spF} (h : ¬ L.2.2.2 t = true) : spEnd L t P = P := if_neg h
/-- asked one time earlier: the same, if the plan's asking between touches neither, and no week ends -/
theorem wnG_mv {L : spL} {a x t : Nat} {T : Nat → Nat} (hT : T x = t + 1) (hxa : ¬ x = a) (he : ¬ L.2.2.2 t = true) (ho : ¬ L.2.2.1 t = a) (hb : ¬ x = L.2.1 t) (hc : ¬ x = L.2.2.1 t) (hbc : ¬ L.2.1 t = L.2.2.1 t) : ∀ (d s : Nat) (P : spF), s ≤ t → t < s + d → x < P.1 → wnG L a (spU T x t) d s P = wnG L a T d s P
  | 0, s, P, h1, h2, _ => absurd h2 (by omega)
  | d + 1, s, P, h1, h2, hx => by
    have hn : ∀ (X : spF), (spEnd L s (spAsk (wnB a (wnT a T s) P.1 X) (L.2.1 s) (L.2.2.1 s))).1 = X.1 := fun X => by rw [spEnd_n, spAsk_n, wnB_n]
    rcases Nat.lt_or_ge s t with q | q
    · rw [wnG_s, wnG_s, wnB_cong (S := wnT a (spU T x t) s) (S' := wnT a T s) P.1 (fun z hz => bool_ext (by
        rw [wnT_t, wnT_t]
        by_cases e : z = x
        · rw [e, spU_s, hT]; exact ⟨fun k => absurd k.2 (by omega), fun k => absurd k.2 (by omega)⟩
        · rw [spU_n e]))]
      exact wnG_mv hT hxa he ho hb hc hbc d (s + 1) _ (by omega) (by omega) (by rw [hn]; exact hx)
    · have e : s = t := by omega
      subst e
      have k0 : ¬ wnT a T s x = true := fun k => by have h9 := (wnT_t.mp k).2; omega
      have k1 : wnT a (spU T x s) s x = true := wnT_t.mpr ⟨hxa, spU_s⟩
      have k2 : ∀ z, ¬ z = x → wnT a (spU T x s) s z = wnT a T s z := fun z hz => by unfold wnT; rw [spU_n hz]
      have m0 : ¬ wnT a (spU T x s) (s + 1) x = true := fun k => by have h9 := (wnT_t.mp k).2; rw [spU_s] at h9; omega
      have m1 : wnT a T (s + 1) x = true := wnT_t.mpr ⟨hxa, hT⟩
      have m2 : ∀ z, ¬ z = x → wnT a T (s + 1) z = wnT a (spU T x s) (s + 1) z := fun z hz => by unfold wnT; rw [spU_n hz]
      rw [wnG_s, wnG_s, wnB_one hxa k0 wnT_a k1 k2 P.1 hx, spEnd_no he, spEnd_no he, ask_comm hb hc ho hxa hbc]
      have hY : (spAsk (wnB a (wnT a T s) P.1 P) (L.2.1 s) (L.2.2.1 s)).1 = P.1 := by rw [spAsk_n, wnB_n]
      generalize spAsk (wnB a (wnT a T s) P.1 P) (L.2.1 s) (L.2.2.1 s) = Y at hY ⊢
      have hst : wnB a (wnT a (spU T x s) (s + 1)) (spAsk Y a x).1 (spAsk Y a x) = wnB a (wnT a T (s + 1)) Y.1 Y := by
        rw [spAsk_n, wnB_comm hxa m0 wnT_a, wnB_one (S := wnT a (spU T x s) (s + 1)) (S' := wnT a T (s + 1)) hxa m0 wnT_a m1 m2 Y.1 (by omega)]
      cases d with
      | zero => rw [wnG_0, wnG_0, hst]
      | succ d =>
        rw [wnG_s, wnG_s, hst]
        refine wnG_cong d (s + 1 + 1) _ (fun z _ _ u hu => ?_)
        by_cases e : z = x
        · rw [e, spU_s, hT]; exact ⟨fun k => absurd k (by omega), fun k => absurd k (by omega)⟩
        · rw [spU_n e]
/-- asked behind all: no less than never -/
theorem wnG_nv {L : spL} {a x : Nat} {T : Nat → Nat} (hT : L.1 < T x) (hxa : ¬ x = a) : ∀ (d s : Nat) (P : spF), s + d = L.1 → x < P.1 → wnG L a T d s P ≤ wnG L a (spU T x L.1) d s P
  | 0, s, P, h, hx => by
    have e : s = L.1 := by omega
    subst e
    have k0 : ¬ wnT a T L.1 x = true := fun k => by have h9 := (wnT_t.mp k).2; omega
    have k1 : wnT a (spU T x L.1) L.1 x = true := wnT_t.mpr ⟨hxa, spU_s⟩
    have k2 : ∀ z, ¬ z = x → wnT a (spU T x L.1) L.1 z = wnT a T L.1 z := fun z hz => by unfold wnT; rw [spU_n hz]
    rw [wnG_0, wnG_0, wnB_one hxa k0 wnT_a k1 k2 P.1 hx]
    exact ask_ge _ _ _
  | d + 1, s, P, h, hx => by
    rw [wnG_s, wnG_s, wnB_cong (S := wnT a (spU T x L.1) s) (S' := wnT a T s) P.1 (fun z hz => bool_ext (by
      rw [wnT_t, wnT_t]
      by_cases e : z = x
      · rw [e, spU_s]; exact ⟨fun k => absurd k.2 (by omega), fun k => absurd k.2 (by omega)⟩
      · rw [spU_n e]))]
    exact wnG_nv hT hxa d (s + 1) _ (by omega) (by rw [spEnd_n, spAsk_n, wnB_n]; exact hx)
theorem wnG_le {L : spL} {a N : Nat} {T : Nat → Nat} : ∀ (d s : Nat) (P : spF), s + d = L.1 → zFw P N → a < P.1 → zLw L P.1 → wnG L a T d s P ≤ N
  | 0, s, P, _, hw, ha, _ => by
    rw [wnG_0]
    exact zFw_pc (wnB_w hw ha wnT_a P.1 (Nat.le_refl _)) (by rw [wnB_n]; exact ha)
  | d + 1, s, P, h, hw, ha, hL => by
    rw [wnG_s]
    have h1 := hL.2 s (by omega)
    have h2 := wnB_w (S := wnT a T s) hw ha wnT_a P.1 (Nat.le_refl _)
    have h3 : (spEnd L s (spAsk (wnB a (wnT a T s) P.1 P) (L.2.1 s) (L.2.2.1 s))).1 = P.1 := by rw [spEnd_n, spAsk_n, wnB_n]
    exact wnG_le d (s + 1) _ (by omega) (zFw_end (zFw_ask h2 (by rw [wnB_n]; exact h1.1) (by rw [wnB_n]; exact h1.2.1) h1.2.2)) (by rw [h3]; exact ha) (by rw [h3]; exact hL)
/-! a row of times as a number -/
def wnH (D : Nat → Nat) : Nat → Nat
  | 0 => 0
  | k + 1 => wnH D k * 10 + D k
theorem wnH_cong {D E : Nat → Nat} : ∀ k, (∀ q, q < k → D q = E q) → wnH D k = wnH E k
  | 0, _ => rfl
  | k + 1, h => by rw [wnH, wnH, wnH_cong k (fun q hq => h q (by omega)), h k (by omega)]
theorem wnH_mono {D E : Nat → Nat} : ∀ k, (∀ q, q < k → D q ≤ E q) → wnH D k ≤ wnH E k
  | 0, _ => Nat.le_refl _
  | k + 1, h => by
    have h1 := wnH_mono k (fun q hq => h q (by omega))
    have h2 := h k (by omega)
    rw [wnH, wnH]; omega
theorem wnH_add {D E F : Nat → Nat} : ∀ k, (∀ q, q < k → D q = E q + F q) → wnH D k = wnH E k + wnH F k
  | 0, _ => rfl
  | k + 1, h => by rw [wnH, wnH, wnH, wnH_add k (fun q hq => h q (by omega)), h k (by omega)]; omega
theorem wnH_mul {D E : Nat → Nat} {c : Nat} : ∀ k, (∀ q, q < k → D q = c * E q) → wnH D k = c * wnH E k
  | 0, _ => (Nat.mul_zero c).symm
  | k + 1, h => by rw [wnH, wnH, wnH_mul k (fun q hq => h q (by omega)), h k (by omega), Nat.mul_add, ← Nat.mul_assoc]
theorem wnH_lt {D E : Nat → Nat} {x : Nat} (hx : D x < E x) : ∀ k, x < k → (∀ q, q < k → D q ≤ E q) → wnH D k < wnH E k
  | 0, h, _ => absurd h (Nat.not_lt_zero _)
  | k + 1, h, hm => by
    rw [wnH, wnH]
    have h2 := hm k (by omega)
    rcases Nat.lt_or_ge x k with q | q
    · have h1 := wnH_lt hx k q (fun z hz => hm z (by omega))
      omega
    · have e : x = k := by omega
      subst e
      have h1 := wnH_mono (D := D) (E := E) x (fun z hz => hm z (by omega))
      omega
/-- the next row of digits: none stands between -/
theorem wnH_nx {D E F : Nat → Nat} {x s : Nat} (h9 : ∀ q, D q ≤ 9 ∧ F q ≤ 9) (hs : s ≤ 9) (hlt : ∀ q, q < x → E q = D q) (hx : E x = s) (hgt : ∀ q, x < q → E q = 0 ∧ F q ≤ D q) (hF : F x ≤ D x ∨ s ≤ F x) : ∀ k, x < k → wnH F k ≤ wnH D k ∨ wnH E k ≤ wnH F k
  | 0, h => absurd h (Nat.not_lt_zero _)
  | k + 1, h => by
    rw [wnH, wnH, wnH]
    have hk := h9 k
    rcases Nat.lt_or_ge x k with q | q
    · have h1 := wnH_nx h9 hs hlt hx hgt hF k q
      have h2 := hgt k q
      omega
    · have e : x = k := by omega
      subst e
      have h1 := wnH_cong (D := E) (E := D) x hlt
      rw [h1, hx]
      generalize wnH D x = U
      generalize wnH F x = V
      rcases Nat.lt_or_ge V U with c | c
      · left; omega
      · rcases Nat.lt_or_ge U V with c2 | c2
        · right; omega
        · omega
def wnD (n a : Nat) (T : Nat → Nat) : Nat → Nat := fun q => if q < n ∧ ¬ q = a then T q else 0
def wnC (n a : Nat) (T : Nat → Nat) : Nat := wnH (wnD n a T) 5
theorem wnD_y {n a q : Nat} {T : Nat → Nat} (h1 : q < n) (h2 : ¬ q = a) : wnD n a T q = T q := if_pos ⟨h1, h2⟩
theorem wnD_9 {n a : Nat} {T : Nat → Nat} (h : ∀ q, q < n → ¬ q = a → T q ≤ 9) (q : Nat) : wnD n a T q ≤ 9 := by
  unfold wnD
  by_cases c : q < n ∧ ¬ q = a
  · rw [if_pos c]; exact h q c.1 c.2
  · rw [if_neg c]; omega
theorem wnC_dg {n a b : Nat} {T : Nat → Nat} (h : ∀ q, q < n → ¬ q = a → T q ≤ 9) (hn : n ≤ 5) (hb : b < n) (hab : ¬ b = a) : wnC n a T / 10 ^ (4 - b) % 10 = T b := by
  have h9 := wnD_9 h
  have e := wnD_y (T := T) hb hab
  rw [← e]
  have k0 := h9 0; have k1 := h9 1; have k2 := h9 2; have k3 := h9 3; have k4 := h9 4
  show (((((0 * 10 + wnD n a T 0) * 10 + wnD n a T 1) * 10 + wnD n a T 2) * 10 + wnD n a T 3) * 10 + wnD n a T 4) / 10 ^ (4 - b) % 10 = _
  generalize wnD n a T = D at *
  rcases (show b = 0 ∨ b = 1 ∨ b = 2 ∨ b = 3 ∨ b = 4 by omega) with rfl | rfl | rfl | rfl | rfl
  · show _ / 10000 % 10 = _; omega
  · show _ / 1000 % 10 = _; omega
  · show _ / 100 % 10 = _; omega
  · show _ / 10 % 10 = _; omega
  · show _ / 1 % 10 = _; omega
theorem wnC_big {n a : Nat} {T : Nat → Nat} (h : ∀ q, q < n → ¬ q = a → T q ≤ 9) : wnC n a T < 100000 := by
  have h9 := wnD_9 h
  have k0 := h9 0; have k1 := h9 1; have k2 := h9 2; have k3 := h9 3; have k4 := h9 4
  show ((((0 * 10 + wnD n a T 0) * 10 + wnD n a T 1) * 10 + wnD n a T 2) * 10 + wnD n a T 3) * 10 + wnD n a T 4 < 100000
  omega
theorem wnC_up {n a x v : Nat} {T : Nat → Nat} (hn : n ≤ 5) (hx : x < n) (hxa : ¬ x = a) (hv : v < T x) : wnC n a (spU T x v) < wnC n a T := by
  refine wnH_lt (x := x) ?_ 5 (by omega) (fun q _ => ?_)
  · rw [wnD_y hx hxa, wnD_y hx hxa, spU_s]; exact hv
  · unfold wnD
    by_cases c : q < n ∧ ¬ q = a
    · rw [if_pos c, if_pos c]
      by_cases e : q = x
      · rw [e, spU_s]; omega
      · rw [spU_n e]; exact Nat.le_refl _
    · rw [if_neg c, if_neg c]; exact Nat.le_refl _
/-! what may be told: all rows; those that need be looked at -/
def wnA (L : spL) (n a : Nat) (T : Nat → Nat) : Prop := ∀ q, q < n → ¬ q = a → T q ≤ L.1 ∨ T q = 9
def wnW (L : spL) (a t q : Nat) : Prop := t = 0 ∨ L.2.2.2 (t - 1) = true ∨ L.2.2.1 (t - 1) = a ∨ q = L.2.1 (t - 1) ∨ q = L.2.2.1 (t - 1)
def wnP (L : spL) (n a : Nat) (T : Nat → Nat) : Prop := ∀ q, q < n → ¬ q = a → T q ≤ L.1 ∧ (T q = L.1 ∨ wnW L a (T q) q)
def wnBest (Ok : (Nat → Nat) → Prop) (L : spL) (P : spF) (a m c : Nat) : Prop := (∃ T, Ok T ∧ wnG L a T L.1 0 P = m ∧ wnC P.1 a T = c) ∧ ∀ T, Ok T → wnG L a T L.1 0 P < m ∨ (wnG L a T L.1 0 P = m ∧ c ≤ wnC P.1 a T)
theorem wnBest_u {Ok : (Nat → Nat) → Prop} {L : spL} {P : spF} {a m c m' c' : Nat} (h : wnBest Ok L P a m c) (h' : wnBest Ok L P a m' c') : m = m' ∧ c = c' := by
  obtain ⟨⟨T, h1, h2, h3⟩, h4⟩ := h
  obtain ⟨⟨T', h1', h2', h3'⟩, h4'⟩ := h'
  have k := h4 T' h1'
  have k' := h4' T h1
  omega
theorem wn_ex {L : spL} {P : spF} {a N : Nat} (hL : zLw L P.1) (hn : P.1 ≤ 5) : ∀ (c : Nat) (T : Nat → Nat), wnC P.1 a T ≤ c → wnA L P.1 a T → ∃ T', wnP L P.1 a T' ∧ wnG L a T L.1 0 P ≤ wnG L a T' L.1 0 P ∧ wnC P.1 a T' ≤ wnC P.1 a T
  | 0, T, hc, hT => by
    refine ⟨T, fun q hq hqa => ?_, Nat.le_refl _, Nat.le_refl _⟩
    have e0 : T q = 0 := by
      rcases Nat.eq_zero_or_pos (T q) with e | e
      · exact e
      · have h1 := wnC_up (v := 0) hn hq hqa e
        omega
    rw [e0]
    exact ⟨Nat.zero_le _, Or.inr (Or.inl rfl)⟩
  | c + 1, T, hc, hT => by
    rcases Classical.em (wnP L P.1 a T) with hp | hp
    · exact ⟨T, hp, Nat.le_refl _, Nat.le_refl _⟩
    · have h8 := hL.1
      obtain ⟨x, hx, hxa, hno⟩ : ∃ x, x < P.1 ∧ ¬ x = a ∧ ¬ (T x ≤ L.1 ∧ (T x = L.1 ∨ wnW L a (T x) x)) := Classical.byContradiction (fun k => hp (fun q hq hqa => Classical.byContradiction (fun z => k ⟨q, hq, hqa, z⟩)))
      have hg : ∃ v, v < T x ∧ v ≤ L.1 ∧ wnG L a T L.1 0 P ≤ wnG L a (spU T x v) L.1 0 P := by
        rcases Nat.lt_or_ge L.1 (T x) with q | q
        · exact ⟨L.1, q, Nat.le_refl _, wnG_nv q hxa L.1 0 P (by omega) hx⟩
        · have hne : ¬ T x = L.1 := fun e => hno ⟨q, Or.inl e⟩
          have hnw : ¬ wnW L a (T x) x := fun e => hno ⟨q, Or.inr e⟩
          obtain ⟨t, et⟩ : ∃ t, T x = t + 1 := ⟨T x - 1, by
            have : ¬ T x = 0 := fun e => hnw (Or.inl e)
            omega⟩
          rw [et] at hnw
          have h1 := hL.2 t (by omega)
          refine ⟨t, by omega, by omega, Nat.le_of_eq ?_⟩
          exact (wnG_mv et hxa (fun e => hnw (Or.inr (Or.inl e))) (fun e => hnw (Or.inr (Or.inr (Or.inl e)))) (fun e => hnw (Or.inr (Or.inr (Or.inr (Or.inl e))))) (fun e => hnw (Or.inr (Or.inr (Or.inr (Or.inr e))))) h1.2.2 L.1 0 P (Nat.zero_le _) (by omega) hx).symm
      obtain ⟨v, hv, hv2, hle⟩ := hg
      have hup := wnC_up hn hx hxa hv
      obtain ⟨T', a1, a2, a3⟩ := wn_ex (a := a) (P := P) hL hn (N := N) c (spU T x v) (by omega) (fun q hq hqa => by
        by_cases e : q = x
        · rw [e, spU_s]; exact Or.inl hv2
        · rw [spU_n e]; exact hT q hq hqa)
      exact ⟨T', a1, Nat.le_trans hle a2, by omega⟩
theorem wn_both {L : spL} {P : spF} {a m c : Nat} (hL : zLw L P.1) (hn : P.1 ≤ 5) (h : wnBest (wnP L P.1 a) L P a m c) : wnBest (wnA L P.1 a) L P a m c := by
  obtain ⟨⟨T, h1, h2, h3⟩, h4⟩ := h
  refine ⟨⟨T, fun q hq hqa => Or.inl (h1 q hq hqa).1, h2, h3⟩, fun X hX => ?_⟩
  obtain ⟨T', a1, a2, a3⟩ := wn_ex (N := 0) hL hn (wnC P.1 a X) X (Nat.le_refl _) hX
  have k := h4 T' a1
  omega
/-! the calls -/
noncomputable def spWn (L : spL) (P : spF) (a : Nat) : Nat × Nat := Classical.epsilon (fun z => wnBest (wnA L P.1 a) L P a z.1 z.2)
theorem spWn_of {L : spL} {P : spF} {a m c : Nat} (h : wnBest (wnA L P.1 a) L P a m c) : (spWn L P a).1 = m ∧ (spWn L P a).2 = c := by
  have h1 : wnBest (wnA L P.1 a) L P a (spWn L P a).1 (spWn L P a).2 := Classical.epsilon_spec (p := fun z : Nat × Nat => wnBest (wnA L P.1 a) L P a z.1 z.2) ⟨(m, c), h⟩
  exact wnBest_u h1 h
noncomputable def spMostA (P : spF) (L : spL) (a : Int32) : Int32 := zI (vp_in a P.1) (nI (spWn L P a.toNatClampNeg).1) (-1)
noncomputable def spWhenA (P : spF) (L : spL) (a b : Int32) : Int32 := zI (spTwo P.1 a b) (nI ((spWn L P a.toNatClampNeg).2 / 10 ^ (4 - b.toNatClampNeg) % 10)) (-1)
