/-! turns as a stack goes through them: choices 0 (he passes), k + 1 (he asks k) -/
def pk9 : Nat → Nat
  | 0 => 9
  | k + 1 => k
def chE (x : Nat) : Nat := if x = 9 then 0 else x + 1
theorem chE_pk {c : Nat} (h : c ≤ 9) : chE (pk9 c) = c := by
  cases c with
  | zero => rfl
  | succ k => exact if_neg (show ¬ k = 9 by omega)
def spOk (P : spF) (t : Nat) : Nat → Bool
  | 0 => true
  | k + 1 => !decide (k = t) && spLaw P t k
def spSt (P : spF) (t : Nat) : Nat → spF
  | 0 => P
  | k + 1 => spAsk P t k
def spUB (t c : Nat) (B : Option spB) (R : spB) : Option spB :=
  match B with
  | none => some (spU R.1 t (pk9 c), R.2)
  | some b => if b.2 t < R.2 t then some (spU R.1 t (pk9 c), R.2) else some b
def spTk (P : spF) (t : Nat) (G : spF → spB) : Nat → Nat → Option spB → Option spB
  | 0, _, B => B
  | m + 1, c, B => spTk P t G m (c + 1) (if spOk P t c = true then spUB t c B (G (spSt P t c)) else B)
theorem spTk_tl {P : spF} {t : Nat} {G : spF → spB} : ∀ (m c : Nat) (B : spB), spTk P t G m (c + 1) (some B) = some (spTl P t G m c B)
  | 0, _, _ => rfl
  | m + 1, c, B => by
    rw [spTk, spTl]
    show spTk P t G m (c + 1 + 1) (if (!decide (c = t) && spLaw P t c) = true then (if B.2 t < (G (spAsk P t c)).2 t then some (spU (G (spAsk P t c)).1 t c, (G (spAsk P t c)).2) else some B) else some B) = _
    by_cases q : ¬ c = t ∧ spLaw P t c = true ∧ B.2 t < (G (spAsk P t c)).2 t
    · rw [if_pos q, if_pos (by rw [decide_eq_false q.1, q.2.1]; rfl), if_pos q.2.2, spTk_tl m (c + 1)]
    · rw [if_neg q]
      by_cases k : (!decide (c = t) && spLaw P t c) = true
      · have k1 : ¬ c = t ∧ spLaw P t c = true := by
          rw [Bool.and_eq_true, Bool.not_eq_true', decide_eq_false_iff_not] at k
          exact k
        rw [if_pos k, if_neg (fun z => q ⟨k1.1, k1.2, z⟩), spTk_tl m (c + 1)]
      · rw [if_neg k, spTk_tl m (c + 1)]
/-- what comes of a level that has tried c choices -/
def lvR (n t : Nat) (P : spF) (c : Nat) (B : Option spB) : Option spB := if t = n then some (fun _ => 9, P.2.2.1) else spTk P t (spTn n (n - (t + 1)) (t + 1)) (n + 1 - c) c B
theorem lvR_0 {n t : Nat} {P : spF} (h : t ≤ n) : lvR n t P 0 none = some (spTn n (n - t) t P) := by
  unfold lvR
  by_cases e : t = n
  · rw [if_pos e, show n - t = 0 by omega]; rfl
  · rw [if_neg e, show n - t = (n - (t + 1)) + 1 by omega, spTn, show n + 1 - 0 = n + 1 from rfl, spTk]
    exact spTk_tl n 0 _
/-! who has asked ahead of a turn does not matter in it -/
def spQ (t : Nat) (P Q : spF) : Prop := P.1 = Q.1 ∧ P.2.1 = Q.2.1 ∧ P.2.2.1 = Q.2.2.1 ∧ P.2.2.2.1 = Q.2.2.2.1 ∧ ∀ a b, t ≤ a → P.2.2.2.2 a b = Q.2.2.2.2 a b
theorem spQ_law {t : Nat} {P Q : spF} (h : spQ t P Q) (j : Nat) : spLaw P t j = spLaw Q t j := by
  unfold spLaw
  rw [h.2.2.1, h.2.2.2.1, h.2.2.2.2 t j (Nat.le_refl _)]
theorem spQ_ask {t : Nat} {P Q : spF} (h : spQ t P Q) (j : Nat) : spQ (t + 1) (spAsk P t j) (spAsk Q t j) := by
  have hl := spQ_law h j
  unfold spAsk spGive
  rw [hl]
  by_cases q : spLaw Q t j = true
  · rw [if_pos q, if_pos q]
    refine ⟨h.1, h.2.1, ?_, h.2.2.2.1, fun a b ha => ?_⟩
    · show spU (spU P.2.2.1 j (P.2.2.1 j - spGv (P.2.1 j) (P.2.2.1 j))) t (P.2.2.1 t + spGv (P.2.1 j) (P.2.2.1 j)) = spU (spU Q.2.2.1 j (Q.2.2.1 j - spGv (Q.2.1 j) (Q.2.2.1 j))) t (Q.2.2.1 t + spGv (Q.2.1 j) (Q.2.2.1 j))
      rw [h.2.1, h.2.2.1]
    · show spUK P.2.2.2.2 t j true a b = spUK Q.2.2.2.2 t j true a b
      rw [spUK_n (fun e => absurd e.1 (by omega)), spUK_n (fun e => absurd e.1 (by omega))]
      exact h.2.2.2.2 a b (by omega)
  · rw [if_neg q, if_neg q]
    exact ⟨h.1, h.2.1, h.2.2.1, h.2.2.2.1, fun a b ha => h.2.2.2.2 a b (by omega)⟩
theorem spTl_cong {t : Nat} {P Q : spF} {G : spF → spB} (h : spQ t P Q) (hG : ∀ j, G (spAsk P t j) = G (spAsk Q t j)) : ∀ (m j : Nat) (B : spB), spTl P t G m j B = spTl Q t G m j B
  | 0, _, _ => rfl
  | m + 1, j, B => by
    rw [spTl, spTl, spQ_law h j, hG j]
    exact spTl_cong h hG m (j + 1) _
theorem spTn_cong {n : Nat} : ∀ (r t : Nat) (P Q : spF), spQ t P Q → spTn n r t P = spTn n r t Q
  | 0, t, P, Q, h => by
    show ((fun _ => 9, P.2.2.1) : spB) = (fun _ => 9, Q.2.2.1)
    rw [h.2.2.1]
  | r + 1, t, P, Q, h => by
    have h1 : spTn n r (t + 1) P = spTn n r (t + 1) Q := spTn_cong r (t + 1) P Q ⟨h.1, h.2.1, h.2.2.1, h.2.2.2.1, fun a b ha => h.2.2.2.2 a b (by omega)⟩
    rw [spTn, spTn, h1]
    exact spTl_cong h (fun j => spTn_cong r (t + 1) _ _ (spQ_ask h j)) n 0 _
/-! the stack -/
def spW {α : Type} (f : Nat → α) (k : Nat) (v : α) : Nat → α := fun j => if j = k then v else f j
theorem spW_s {α : Type} {f : Nat → α} {k : Nat} {v : α} : spW f k v k = v := if_pos rfl
theorem spW_n {α : Type} {f : Nat → α} {k j : Nat} {v : α} (h : ¬ j = k) : spW f k v j = f j := if_neg h
def tmU (n : Nat) (Pf : Nat → spF) (cf : Nat → Nat) (Bf : Nat → Option spB) : Nat → Option spB → Option spB
  | 0, R => R
  | _ + 1, none => none
  | q + 1, some R => tmU n Pf cf Bf q (spTk (Pf q) q (spTn n (n - (q + 1)) (q + 1)) (n + 1 - cf q) (cf q) (spUB q (cf q - 1) (Bf q) R))
theorem tmU_cong {n : Nat} {Pf Pg : Nat → spF} {cf cg : Nat → Nat} {Bf Bg : Nat → Option spB} : ∀ (q : Nat), (∀ i, i < q → Pf i = Pg i ∧ cf i = cg i ∧ Bf i = Bg i) → ∀ R, tmU n Pf cf Bf q R = tmU n Pg cg Bg q R
  | 0, _, _ => rfl
  | q + 1, h, R => by
    cases R with
    | none => rfl
    | some R =>
      have h1 := h q (by omega)
      rw [tmU, tmU, h1.1, h1.2.1, h1.2.2]
      exact tmU_cong q (fun i hi => h i (by omega)) _
/-- what a level holds, as the reference keeps it -/
def tmB (i n N : Nat) (B : Option spB) (f14 f15 : Nat → Int32) : Prop :=
  match B with
  | none => f14 (5 * i) = -1
  | some b => ∀ w, w < n → (f14 (5 * i + w) = nI (b.2 w) ∧ b.2 w ≤ N) ∧ (i ≤ w → f15 (5 * i + w) = nI (chE (b.1 w)))
def tmP (P0 : spF) (N : Nat) (P : spF) : Prop := P.1 = P0.1 ∧ P.2.1 = P0.2.1 ∧ P.2.2.2.1 = P0.2.2.2.1 ∧ P.2.2.2.2 = P0.2.2.2.2 ∧ zFw P N
/-- q: the turn -/
def tmS (P0 : spF) (N n q : Nat) (Pf : Nat → spF) (cf : Nat → Nat) (Bf : Nat → Option spB) (f12 f13 f14 f15 : Nat → Int32) : Prop :=
  q ≤ n ∧ (∀ i, i ≤ q → tmP P0 N (Pf i) ∧ (∀ w, w < n → f12 (5 * i + w) = nI ((Pf i).2.2.1 w)) ∧ f13 i + 1 = nI (cf i) ∧ cf i ≤ n + 1) ∧
  (∀ i, i < q → 1 ≤ cf i) ∧ (∀ i, i ≤ q → i < n → tmB i n N (Bf i) f14 f15) ∧
  (q = n → cf n = 0 ∧ ∀ w, w < n → f14 (5 * n + w) = nI ((Pf n).2.2.1 w)) ∧
  (q < n → cf q = 0 ∨ ∃ b, Bf q = some b) ∧
  tmU n Pf cf Bf q (lvR n q (Pf q) (cf q) (Bf q)) = some (spTn n n 0 P0)
def tmI (P0 : spF) (N n q : Nat) (f12 f13 f14 f15 : Nat → Int32) : Prop := ∃ Pf cf Bf, tmS P0 N n q Pf cf Bf f12 f13 f14 f15
/-- all turns are gone through -/
def tmR (n : Nat) (P : spF) (f14 f15 : Nat → Int32) : Prop := ∀ w, w < n → f14 w = nI ((spTn n n 0 P).2 w) ∧ f15 w = nI (chE ((spTn n n 0 P).1 w))
theorem tm_zF {P0 P : spF} {N n q : Nat} {f1 f2 f3 f4 f12 : Nat → Int32} (hF : zFm P0 n f1 f2 f3 f4) (hP : tmP P0 N P) (hf : ∀ w, w < n → f12 (5 * q + w) = nI (P.2.2.1 w)) : zFm P n f1 (fun z => f12 (5 * q + z)) f3 f4 := by
  refine ⟨hF.1.trans hP.1.symm, fun j hj => ?_⟩
  have h := hF.2 j hj
  rw [hP.2.1, hP.2.2.1, hP.2.2.2.1]
  exact ⟨h.1, hf j hj, h.2.2⟩
theorem tm_cf {f13 : Nat → Int32} {q c v : Nat} (h1 : f13 q + 1 = nI c) (h2 : f13 q + 1 = nI v) (hc : c < 100) (hv : v < 100) : c = v := (nI_eq (by omega) (by omega)).mp (h1.symm.trans h2)
theorem upd_1 {f : Nat → Int32} {cf : Nat → Nat} {q v i : Nat} (h : f i + 1 = nI (cf i)) : upd f q (nI v) i + 1 = nI (spU cf q (v + 1) i) := by
  by_cases e : i = q
  · rw [e, pk_us, spU_s, nI_1]
  · rw [pk_un e, spU_n e]; exact h
theorem tm_fail {P0 : spF} {N n q u : Nat} {f1 f2 f3 f4 f12 f13 f14 f15 g12 : Nat → Int32} (hF : zFm P0 n f1 f2 f3 f4) (hN : N < 1000000000) (h5 : n ≤ 5) (h : tmI P0 N n q f12 f13 f14 f15) (hq : q < n) (e : f13 q + 1 = nI (u + 1)) (hu : u < n)
    (hr : nI u = nI q ∨ q_X9_tryAsk_r f1 f3 (fun z => f12 (5 * q + z)) f4 (nI q) (nI u) < 0) (hg : ∀ z, z < 5 * (q + 1) → g12 z = f12 z) : tmI P0 N n q g12 (upd f13 q (nI (u + 1))) f14 f15 := by
  obtain ⟨Pf, cf, Bf, -, hA, hB, hC, -, hE, hU⟩ := h
  obtain ⟨hPq, hfq, hcq, hlq⟩ := hA q (Nat.le_refl _)
  have ec : cf q = u + 1 := tm_cf hcq e (by omega) (by omega)
  have hz := tm_zF hF hPq hfq
  have hno : ¬ spOk (Pf q) q (u + 1) = true := by
    intro k
    have k1 : (!decide (u = q) && spLaw (Pf q) q u) = true := k
    rw [Bool.and_eq_true, Bool.not_eq_true', decide_eq_false_iff_not] at k1
    rcases hr with hr | hr
    · exact k1.1 ((nI_eq (by omega) (by omega)).mp hr)
    · rw [(try_m hz hPq.2.2.2.2 hN hq hu (fun z => k1.1 z.symm)).2] at hr
      exact (spAns_neg hPq.2.2.2.2 hN (by rw [← hz.1]; exact hu)).mp hr k1.2
  refine ⟨Pf, spU cf q (u + 1 + 1), Bf, by omega, fun i hi => ?_, fun i hi => ?_, hC, fun k => absurd k (by omega), fun _ => ?_, ?_⟩
  · obtain ⟨a1, a2, a3, a4⟩ := hA i hi
    refine ⟨a1, fun w hw => (hg _ (by omega)).trans (a2 w hw), upd_1 a3, ?_⟩
    by_cases ei : i = q
    · rw [ei, spU_s]; omega
    · rw [spU_n ei]; exact a4
  · rw [spU_n (show ¬ i = q by omega)]; exact hB i hi
  · rcases hE hq with k | k
    · omega
    · exact Or.inr k
  · rw [spU_s, ← hU, ec, tmU_cong q (Pf := Pf) (Pg := Pf) (cf := spU cf q (u + 1 + 1)) (cg := cf) (Bf := Bf) (Bg := Bf) (fun i hi => ⟨rfl, spU_n (show ¬ i = q by omega), rfl⟩)]
    congr 1
    unfold lvR
    rw [if_neg (show ¬ q = n by omega), if_neg (show ¬ q = n by omega), show n + 1 - (u + 1) = (n + 1 - (u + 1 + 1)) + 1 by omega, spTk, if_neg hno]
theorem spAsk_q {P : spF} {t j : Nat} : (spAsk P t j).1 = P.1 ∧ (spAsk P t j).2.1 = P.2.1 ∧ (spAsk P t j).2.2.2.1 = P.2.2.2.1 ∧ ∀ a b, ¬ a = t → (spAsk P t j).2.2.2.2 a b = P.2.2.2.2 a b := by
  unfold spAsk
  by_cases q : spLaw P t j = true
  · rw [if_pos q]
    exact ⟨rfl, rfl, rfl, fun a b h => spUK_n (fun e => h e.1)⟩
  · rw [if_neg q]
    exact ⟨rfl, rfl, rfl, fun _ _ _ => rfl⟩
theorem tm_push {P0 : spF} {N n q v : Nat} {f1 f2 f3 f4 f12 f13 f14 f15 g12 g14 : Nat → Int32} (hF : zFm P0 n f1 f2 f3 f4) (hN : N < 1000000000) (h5 : n ≤ 5) (h : tmI P0 N n q f12 f13 f14 f15) (hq : q < n) (e : f13 q + 1 = nI v) (hv : v ≤ n)
    (hr : (v = 0 ∧ ∀ w, w < 5 → g12 (5 * (q + 1) + w) = f12 (5 * q + w)) ∨ ∃ u, v = u + 1 ∧ ¬ nI u = nI q ∧ ¬ q_X9_tryAsk_r f1 f3 (fun z => f12 (5 * q + z)) f4 (nI q) (nI u) < 0 ∧ ∀ w, w < 5 → g12 (5 * (q + 1) + w) = q_X9_tryAsk_g6 f1 f3 (fun z => f12 (5 * q + z)) f4 (nI q) (nI u) w)
    (hg : ∀ z, z < 5 * (q + 1) → g12 z = f12 z) (hb : ∀ z, z < 5 * (q + 1) → g14 z = f14 z) (hb2 : ∀ w, w < 5 → g14 (5 * (q + 1) + w) = if nI (q + 1) = nI n then g12 (5 * (q + 1) + w) else -1) : tmI P0 N n (q + 1) g12 (upd (upd f13 q (nI v)) (q + 1) (-1)) g14 f15 := by
  obtain ⟨Pf, cf, Bf, -, hA, hB, hC, -, hE, hU⟩ := h
  obtain ⟨hPq, hfq, hcq, hlq⟩ := hA q (Nat.le_refl _)
  have ec : cf q = v := tm_cf hcq e (by omega) (by omega)
  have hz := tm_zF hF hPq hfq
  have en := hF.1
  -- what the choice does
  have hs : spOk (Pf q) q v = true ∧ (∀ w, w < n → g12 (5 * (q + 1) + w) = nI ((spSt (Pf q) q v).2.2.1 w)) ∧ zFw (spSt (Pf q) q v) N ∧ (spSt (Pf q) q v).1 = (Pf q).1 ∧ (spSt (Pf q) q v).2.1 = (Pf q).2.1 ∧ (spSt (Pf q) q v).2.2.2.1 = (Pf q).2.2.2.1 ∧ ∀ a b, ¬ a = q → (spSt (Pf q) q v).2.2.2.2 a b = (Pf q).2.2.2.2 a b := by
    rcases hr with ⟨rfl, hr⟩ | ⟨u, rfl, n1, n2, hr⟩
    · exact ⟨rfl, fun w hw => (hr w (by omega)).trans (hfq w hw), hPq.2.2.2.2, rfl, rfl, rfl, fun _ _ _ => rfl⟩
    · have hne : ¬ q = u := fun z => n1 (by rw [z])
      have ht := try_m hz hPq.2.2.2.2 hN hq (show u < n by omega) hne
      have hl : spLaw (Pf q) q u = true := by
        rw [ht.2] at n2
        exact Classical.byContradiction (fun k => n2 ((spAns_neg hPq.2.2.2.2 hN (by rw [← hz.1]; omega)).mpr k))
      refine ⟨?_, fun w hw => (hr w (by omega)).trans (ht.1.2 w hw).2.1, zFw_ask hPq.2.2.2.2 (by rw [← hz.1]; exact hq) (by rw [← hz.1]; omega) hne, spAsk_q.1, spAsk_q.2.1, spAsk_q.2.2.1, spAsk_q.2.2.2⟩
      show (!decide (u = q) && spLaw (Pf q) q u) = true
      rw [decide_eq_false (fun z => hne z.symm), hl]
      rfl
  obtain ⟨hok, hpc, hfw, s1, s2, s3, s4⟩ := hs
  obtain ⟨R9, hR9⟩ : ∃ R9 : spF, R9 = ((Pf q).1, (Pf q).2.1, (spSt (Pf q) q v).2.2.1, (Pf q).2.2.2.1, (Pf q).2.2.2.2) := ⟨_, rfl⟩
  have hPR : tmP P0 N R9 := by
    subst hR9
    have h9 := hPq.2.2.2.2
    refine ⟨hPq.1, hPq.2.1, hPq.2.2.1, hPq.2.2.2.1, h9.1, h9.2.1, ?_, h9.2.2.2⟩
    show fb_sm (spSt (Pf q) q v).2.2.1 (Pf q).1 ≤ N
    have h8 := hfw.2.2.1
    rw [s1] at h8
    exact h8
  have hcg : spTn n (n - (q + 1)) (q + 1) R9 = spTn n (n - (q + 1)) (q + 1) (spSt (Pf q) q v) := by
    refine spTn_cong _ _ _ _ ?_
    subst hR9
    exact ⟨s1.symm, s2.symm, rfl, s3.symm, fun a b ha => (s4 a b (by omega)).symm⟩
  have hp9 : R9.2.2.1 = (spSt (Pf q) q v).2.2.1 := by rw [hR9]
  refine ⟨spW Pf (q + 1) R9, spW (spU cf q (v + 1)) (q + 1) 0, spW Bf (q + 1) none, by omega, fun i hi => ?_, fun i hi => ?_, fun i hi hn => ?_, fun k => ?_, fun _ => Or.inl spW_s, ?_⟩
  · by_cases ei : i = q + 1
    · rw [ei, spW_s, spW_s, pk_us]
      exact ⟨hPR, fun w hw => by rw [hp9]; exact hpc w hw, by decide, by omega⟩
    · rw [spW_n ei, spW_n ei, pk_un ei]
      obtain ⟨a1, a2, a3, a4⟩ := hA i (by omega)
      refine ⟨a1, fun w hw => (hg _ (by omega)).trans (a2 w hw), upd_1 a3, ?_⟩
      by_cases ej : i = q
      · rw [ej, spU_s]; omega
      · rw [spU_n ej]; exact a4
  · rw [spW_n (show ¬ i = q + 1 by omega)]
    by_cases ej : i = q
    · rw [ej, spU_s]; omega
    · rw [spU_n ej]; exact hB i (by omega)
  · by_cases ei : i = q + 1
    · have h9 := hb2 0 (by omega)
      rw [if_neg (fun z => absurd ((nI_eq (by omega) (by omega)).mp z) (by omega))] at h9
      rw [ei, spW_s]
      exact h9
    · rw [spW_n ei]
      have h9 := hC i (by omega) hn
      cases eB : Bf i with
      | none =>
        rw [eB] at h9
        show g14 (5 * i) = -1
        rw [hb _ (by omega)]
        exact h9
      | some b =>
        rw [eB] at h9
        show ∀ w, w < n → (g14 (5 * i + w) = nI (b.2 w) ∧ b.2 w ≤ N) ∧ (i ≤ w → f15 (5 * i + w) = nI (chE (b.1 w)))
        intro w hw
        have h8 := h9 w hw
        exact ⟨⟨(hb _ (by omega)).trans h8.1.1, h8.1.2⟩, h8.2⟩
  · subst k
    refine ⟨spW_s, fun w hw => ?_⟩
    rw [spW_s, hp9, ← hpc w hw, hb2 w (by omega), if_pos rfl]
  · rw [spW_s, spW_s, spW_s, lvR_0 (show q + 1 ≤ n by omega), tmU, spW_n (f := Pf) (show ¬ q = q + 1 by omega), spW_n (f := spU cf q (v + 1)) (show ¬ q = q + 1 by omega), spW_n (f := Bf) (show ¬ q = q + 1 by omega), spU_s, ← hU, ec]
    rw [tmU_cong q (Pf := spW Pf (q + 1) R9) (Pg := Pf) (cf := spW (spU cf q (v + 1)) (q + 1) 0) (cg := cf) (Bf := spW Bf (q + 1) none) (Bg := Bf) (fun i hi => ⟨spW_n (show ¬ i = q + 1 by omega), by rw [spW_n (show ¬ i = q + 1 by omega), spU_n (show ¬ i = q by omega)], spW_n (show ¬ i = q + 1 by omega)⟩)]
    congr 1
    unfold lvR
    rw [if_neg (show ¬ q = n by omega), hcg, Nat.add_sub_cancel, show n + 1 - v = (n + 1 - (v + 1)) + 1 by omega, spTk, if_pos hok]
/-! a turn is given back -/
def tmBet (f14 : Nat → Int32) (t : Nat) : Prop := f14 (5 * t) < 0 ∨ f14 (5 * t + t) < f14 (5 * (t + 1) + t)
def tmG (t : Nat) (f13 f14 f15 g14 g15 : Nat → Int32) : Prop :=
  (tmBet f14 t ∧ (∀ z, z < 5 * t → g14 z = f14 z ∧ g15 z = f15 z) ∧ (∀ w, w < 5 → g14 (5 * t + w) = f14 (5 * (t + 1) + w)) ∧ (∀ w, w < 5 → ¬ w = t → g15 (5 * t + w) = f15 (5 * (t + 1) + w)) ∧ g15 (5 * t + t) = f13 t) ∨ (¬ tmBet f14 t ∧ g14 = f14 ∧ g15 = f15)
theorem tm_res {P0 : spF} {N n q : Nat} {Pf : Nat → spF} {cf : Nat → Nat} {Bf : Nat → Option spB} {f12 f13 f14 f15 : Nat → Int32} (h5 : n ≤ 5) (hen : n = P0.1) (h : tmS P0 N n q Pf cf Bf f12 f13 f14 f15) (hd : q = n ∨ f13 q = nI n) : ∃ b, lvR n q (Pf q) (cf q) (Bf q) = some b ∧ ∀ w, w < n → (f14 (5 * q + w) = nI (b.2 w) ∧ b.2 w ≤ N) ∧ (q ≤ w → f15 (5 * q + w) = nI (chE (b.1 w))) := by
  obtain ⟨hqn, hA, hB, hC, hD, hE, hU⟩ := h
  obtain ⟨hPq, hfq, hcq, hlq⟩ := hA q (Nat.le_refl _)
  unfold lvR
  by_cases e : q = n
  · rw [if_pos e]
    refine ⟨_, rfl, fun w hw => ⟨⟨?_, ?_⟩, fun k => absurd k (by omega)⟩⟩
    · have h1 := (hD e).2 w hw
      rw [e]
      exact h1
    · exact zFw_pc hPq.2.2.2.2 (by rw [hPq.1]; omega)
  · rw [if_neg e]
    have h1 : f13 q = nI n := hd.resolve_left e
    have ec : cf q = n + 1 := tm_cf hcq (by rw [h1, nI_1]) (by omega) (by omega)
    rcases hE (by omega) with k | ⟨b, hb⟩
    · omega
    · refine ⟨b, ?_, ?_⟩
      · rw [ec, Nat.sub_self, spTk]; exact hb
      · have h2 := hC q (Nat.le_refl _) (by omega)
        rw [hb] at h2
        exact h2
theorem tm_pop {P0 : spF} {N n t : Nat} {f12 f13 f14 f15 g14 g15 : Nat → Int32} (hN : N < 1000000000) (h5 : n ≤ 5) (hen : n = P0.1) (h : tmI P0 N n (t + 1) f12 f13 f14 f15) (hd : t + 1 = n ∨ f13 (t + 1) = nI n) (hG : tmG t f13 f14 f15 g14 g15) : tmI P0 N n t f12 f13 g14 g15 := by
  obtain ⟨Pf, cf, Bf, hS⟩ := h
  obtain ⟨b, hb, hbw⟩ := tm_res h5 hen hS hd
  obtain ⟨hqn, hA, hB, hC, hD, hE, hU⟩ := hS
  have hct := hB t (by omega)
  obtain ⟨-, -, hc1, hc2⟩ := hA t (by omega)
  have hf13 : f13 t = nI (cf t - 1) := by
    have h1 : f13 t + 1 = nI (cf t - 1) + 1 := by rw [hc1, nI_1, Nat.sub_add_cancel hct]
    exact z_add1 h1
  have htB := hC t (by omega) (by omega)
  refine ⟨Pf, cf, spW Bf t (spUB t (cf t - 1) (Bf t) b), by omega, fun i hi => hA i (by omega), fun i hi => hB i (by omega), fun i hi hn => ?_, fun k => absurd k (by omega), fun _ => Or.inr ?_, ?_⟩
  · by_cases ei : i = t
    · subst ei
      rw [spW_s]
      -- the new row, if it is the better one
      have hnew : tmBet f14 i → tmB i n N (some (spU b.1 i (pk9 (cf i - 1)), b.2)) g14 g15 := by
        intro hbet
        rcases hG with ⟨-, -, g2, g3, g4⟩ | ⟨k, -, -⟩
        · show ∀ w, w < n → (g14 (5 * i + w) = nI (b.2 w) ∧ b.2 w ≤ N) ∧ (i ≤ w → g15 (5 * i + w) = nI (chE (spU b.1 i (pk9 (cf i - 1)) w)))
          intro w hw
          refine ⟨⟨(g2 w (by omega)).trans (hbw w hw).1.1, (hbw w hw).1.2⟩, fun k => ?_⟩
          show g15 (5 * i + w) = nI (chE (spU b.1 i (pk9 (cf i - 1)) w))
          by_cases ew : w = i
          · rw [ew, g4, spU_s, chE_pk (by omega)]; exact hf13
          · rw [spU_n ew, g3 w (by omega) ew]
            exact (hbw w hw).2 (by omega)
        · exact absurd hbet k
      cases eB : Bf i with
      | none =>
        rw [eB] at htB
        exact hnew (Or.inl (by rw [show f14 (5 * i) = -1 from htB]; decide))
      | some b0 =>
        rw [eB] at htB
        have h0 := (htB 0 (by omega)).1
        have ht := (htB i hn).1
        have h1 := (hbw i hn).1
        have hnn : ¬ f14 (5 * i) < 0 := by
          rw [show f14 (5 * i) = nI (b0.2 0) from h0.1]
          exact nI_pos (by omega)
        have hlt : f14 (5 * i + i) < f14 (5 * (i + 1) + i) ↔ b0.2 i < b.2 i := by
          rw [ht.1, h1.1]
          exact nI_ltI (by omega) (by omega)
        by_cases k : b0.2 i < b.2 i
        · show tmB i n N (if b0.2 i < b.2 i then some (spU b.1 i (pk9 (cf i - 1)), b.2) else some b0) g14 g15
          rw [if_pos k]
          exact hnew (Or.inr (hlt.mpr k))
        · show tmB i n N (if b0.2 i < b.2 i then some (spU b.1 i (pk9 (cf i - 1)), b.2) else some b0) g14 g15
          rw [if_neg k]
          rcases hG with ⟨g1, -⟩ | ⟨-, rfl, rfl⟩
          · exact absurd (g1.resolve_left hnn) (fun z => k (hlt.mp z))
          · exact htB
    · rw [spW_n ei]
      have h9 := hC i (by omega) hn
      have hsame : ∀ z, z < 5 * t → g14 z = f14 z ∧ g15 z = f15 z := by
        rcases hG with ⟨-, g1, -⟩ | ⟨-, rfl, rfl⟩
        · exact g1
        · exact fun _ _ => ⟨rfl, rfl⟩
      cases eB : Bf i with
      | none =>
        rw [eB] at h9
        show g14 (5 * i) = -1
        rw [(hsame _ (by omega)).1]
        exact h9
      | some b1 =>
        rw [eB] at h9
        show ∀ w, w < n → (g14 (5 * i + w) = nI (b1.2 w) ∧ b1.2 w ≤ N) ∧ (i ≤ w → g15 (5 * i + w) = nI (chE (b1.1 w)))
        intro w hw
        have h8 := h9 w hw
        refine ⟨⟨(hsame _ (by omega)).1.trans h8.1.1, h8.1.2⟩, fun k => (hsame _ (by omega)).2.trans (h8.2 k)⟩
  · rw [spW_s]
    cases Bf t with
    | none => exact ⟨_, rfl⟩
    | some b0 =>
      show ∃ b1, (if b0.2 t < b.2 t then some (spU b.1 t (pk9 (cf t - 1)), b.2) else some b0) = some b1
      by_cases k : b0.2 t < b.2 t
      · rw [if_pos k]; exact ⟨_, rfl⟩
      · rw [if_neg k]; exact ⟨_, rfl⟩
  · rw [hb, tmU] at hU
    rw [spW_s, tmU_cong t (Pf := Pf) (Pg := Pf) (cf := cf) (cg := cf) (Bf := spW Bf t (spUB t (cf t - 1) (Bf t) b)) (Bg := Bf) (fun i hi => ⟨rfl, rfl, spW_n (show ¬ i = t by omega)⟩), ← hU]
    congr 1
    unfold lvR
    rw [if_neg (show ¬ t = n by omega)]
theorem tm_end {P0 : spF} {N n : Nat} {f12 f13 f14 f15 : Nat → Int32} (h5 : n ≤ 5) (hen : n = P0.1) (h : tmI P0 N n 0 f12 f13 f14 f15) (hd : 0 = n ∨ f13 0 = nI n) : tmR n P0 f14 f15 := by
  obtain ⟨Pf, cf, Bf, hS⟩ := h
  obtain ⟨b, hb, hbw⟩ := tm_res h5 hen hS hd
  have hU := hS.2.2.2.2.2.2
  rw [hb, tmU] at hU
  have e := Option.some.inj hU
  intro w hw
  have h1 := hbw w hw
  rw [← e]
  rw [Nat.mul_zero, Nat.zero_add] at h1
  exact ⟨h1.1.1, h1.2 (Nat.zero_le _)⟩
theorem tm_0 {P0 : spF} {N n : Nat} {f1 f2 f3 f4 f12 f13 f14 f15 : Nat → Int32} (hF : zFm P0 n f1 f2 f3 f4) (hw : zFw P0 N) (h5 : n ≤ 5) (h12 : ∀ w, w < 5 → f12 w = f2 w) (hb2 : ∀ w, w < 5 → f14 (5 * 0 + w) = if nI 0 = nI n then f12 (5 * 0 + w) else -1) : tmI P0 N n 0 f12 (upd f13 0 (-1)) f14 f15 := by
  have hf : ∀ w, w < n → f12 (5 * 0 + w) = nI (P0.2.2.1 w) := fun w hv => by
    rw [Nat.mul_zero, Nat.zero_add, h12 w (by omega)]
    exact (hF.2 w hv).2.1
  refine ⟨fun _ => P0, fun _ => 0, fun _ => none, Nat.zero_le _, fun i hi => ⟨⟨rfl, rfl, rfl, rfl, hw⟩, fun w hv => ?_, ?_, Nat.zero_le _⟩, fun i hi => absurd hi (Nat.not_lt_zero _), fun i hi hn => ?_, fun k => ⟨rfl, fun w hv => absurd hv (by omega)⟩, fun _ => Or.inl rfl, ?_⟩
  · rw [show i = 0 by omega]; exact hf w hv
  · rw [show i = 0 by omega, pk_us]; decide
  · show f14 (5 * i) = -1
    rw [show i = 0 by omega]
    have h1 := hb2 0 (by omega)
    rw [if_neg (fun z => absurd ((nI_eq (by omega) (by omega)).mp z) (by omega))] at h1
    exact h1
  · rw [tmU]
    exact lvR_0 (Nat.zero_le _)
/-! the reference's calls -/
theorem turnsA_m {P : spF} {n : Nat} {a : Int32} {f14 f15 : Nat → Int32} (h5 : n ≤ 5) (hen : n = P.1) (h : tmR n P f14 f15) (hpk : ∀ w, w < n → (spTn n n 0 P).1 w ≤ 9) (hi : vp_in a n) : (if f15 a.toNatClampNeg = 0 then (9 : Int32) else f15 a.toNatClampNeg - 1) = spTurnsA P a := by
  have ha := (in_nI hi (by omega)).2
  have h1 := (h _ ha).2
  have h2 := hpk _ ha
  unfold spTurnsA
  rw [zI_p (by rw [← hen]; exact hi), ← hen, h1]
  generalize (spTn n n 0 P).1 a.toNatClampNeg = x at h2 ⊢
  unfold chE
  by_cases e : x = 9
  · rw [if_pos e, if_pos (show nI 0 = 0 from rfl), e]; rfl
  · have hx : ¬ nI (x + 1) = 0 := fun z => absurd ((nI_eq (a := x + 1) (b := 0) (by omega) (by decide)).mp z) (by omega)
    rw [if_neg e, if_neg hx, nI_pred]
theorem endsA_m {P : spF} {n : Nat} {a : Int32} {f14 f15 : Nat → Int32} (h5 : n ≤ 5) (hen : n = P.1) (h : tmR n P f14 f15) (hi : vp_in a n) : f14 a.toNatClampNeg = spEndsA P a := by
  have ha := (in_nI hi (by omega)).2
  have h1 := (h _ ha).1
  unfold spEndsA
  rw [zI_p (by rw [← hen]; exact hi), ← hen]
  exact h1
/-- whom one asks is one of the people, or nobody -/
theorem spTl_pk {n t : Nat} {P : spF} {G : spF → spB} (hn : n ≤ 9) (hG : ∀ j w, (G (spAsk P t j)).1 w ≤ 9) : ∀ (m j : Nat) (B : spB), j + m = n → (∀ w, B.1 w ≤ 9) → ∀ w, (spTl P t G m j B).1 w ≤ 9
  | 0, _, _, _, h => h
  | m + 1, j, B, hj, h => by
    rw [spTl]
    refine spTl_pk hn hG m (j + 1) _ (by omega) (fun w => ?_)
    by_cases q : ¬ j = t ∧ spLaw P t j = true ∧ B.2 t < (G (spAsk P t j)).2 t
    · rw [if_pos q]
      show spU (G (spAsk P t j)).1 t j w ≤ 9
      by_cases e : w = t
      · rw [e, spU_s]; omega
      · rw [spU_n e]; exact hG j w
    · rw [if_neg q]; exact h w
theorem spTn_pk {n : Nat} (hn : n ≤ 9) : ∀ (r t : Nat) (P : spF) (w : Nat), (spTn n r t P).1 w ≤ 9
  | 0, _, _, _ => Nat.le_refl _
  | r + 1, t, P, w => by
    rw [spTn]
    refine spTl_pk hn (fun j v => spTn_pk hn r (t + 1) _ v) n 0 _ (by omega) (fun v => ?_) w
    show spU (spTn n r (t + 1) P).1 t 9 v ≤ 9
    by_cases e : v = t
    · rw [e, spU_s]; omega
    · rw [spU_n e]; exact spTn_pk hn r (t + 1) P v
