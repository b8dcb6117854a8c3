theorem z_add1 {a b : Int32} (h : a + 1 = b + 1) : a = b := by
  have h1 := congrArg (fun z => z - 1) h
  simpa [Int32.add_sub_cancel] using h1
/-- what is left to try in turns 0 .. j - 1 -/
def zPh (n : Nat) : Nat → (Nat → Int32) → Nat
  | 0, _ => 0
  | j + 1, f => zPh n j f + (n + 2 - (f j + 1).toNatClampNeg) * 10 ^ (5 - j)
def zTr (n j : Nat) (f : Nat → Int32) : Prop := ∀ q, q < j → vp_in (f q + 1) (n + 2)
theorem zPh_s (n j : Nat) (f : Nat → Int32) : zPh n (j + 1) f = zPh n j f + (n + 2 - (f j + 1).toNatClampNeg) * 10 ^ (5 - j) := rfl
theorem zPh_u {n q : Nat} {f : Nat → Int32} {x : Int32} : ∀ j, j ≤ q → zPh n j (upd f q x) = zPh n j f
  | 0, _ => rfl
  | j + 1, h => by rw [zPh_s, zPh_s, zPh_u j (by omega), pk_un (by omega)]
theorem zPh_pop {n q : Nat} {f : Nat → Int32} (h : zTr n (q + 1) f) : zPh n q f < zPh n (q + 1) f := by
  have h1 := z_cl (h q (Nat.lt_succ_self q))
  rw [zPh_s]
  exact Nat.lt_add_of_pos_right (Nat.mul_pos (by omega) (Nat.pow_pos (by decide)))
theorem zTr_pop {n q : Nat} {f : Nat → Int32} (h : zTr n (q + 1) f) : zTr n q f := fun k hk => h k (by omega)
theorem z_nI1c {v : Nat} (h : v < 100) : (nI v + 1).toNatClampNeg = v + 1 := by rw [nI_1, nI_clamp (by omega)]
theorem zTr_v {n q : Nat} {f : Nat → Int32} (hn : n ≤ 5) (hq : q < 100) (h : zTr n (q + 1) f) (hne : ¬ f (nI q).toNatClampNeg = nI n) : ∃ v, v ≤ n ∧ f (nI q).toNatClampNeg + 1 = nI v := by
  rw [nI_clamp (by omega)] at hne ⊢
  obtain ⟨v, hv, e⟩ := vp_in_of (h q (Nat.lt_succ_self q)) (by omega)
  refine ⟨v, ?_, e⟩
  rcases Nat.lt_or_ge v (n + 1) with q9 | q9
  · omega
  · exfalso
    have ev : v = n + 1 := by omega
    subst ev
    rw [← nI_1] at e
    exact hne (z_add1 e)
theorem zPh_inc {n q v : Nat} {f : Nat → Int32} (hn : n ≤ 5) (hv : v ≤ n) (e : f q + 1 = nI v) : zPh n (q + 1) (upd f q (nI v)) + 10 ^ (5 - q) = zPh n (q + 1) f := by
  rw [zPh_s, zPh_s, zPh_u q (Nat.le_refl _), pk_us, e, nI_clamp (by omega), z_nI1c (by omega)]
  obtain ⟨b, hb⟩ : ∃ b, n + 2 - v = b + 1 := ⟨n + 1 - v, by omega⟩
  rw [hb, show n + 2 - (v + 1) = b by omega, Nat.add_mul, Nat.one_mul]
  omega
theorem zPh_push {n q v : Nat} {f : Nat → Int32} (hn : n ≤ 5) (hq : q < 5) (hv : v ≤ n) (e : f q + 1 = nI v) : zPh n (q + 2) (upd (upd f q (nI v)) (q + 1) (-1)) < zPh n (q + 1) f := by
  have h1 := zPh_inc hn hv e
  have h2 := z_p10 hq
  rw [zPh_s, zPh_u (q + 1) (Nat.le_refl _), pk_us, show ((-1 : Int32) + 1).toNatClampNeg = 0 by decide, h2.2.2]
  have h3 : (n + 2 - 0) * 10 ^ (4 - q) ≤ 7 * 10 ^ (4 - q) := Nat.mul_le_mul_right _ (by omega)
  omega
theorem zTr_inc {n q v : Nat} {f : Nat → Int32} (hn : n ≤ 5) (hv : v ≤ n) (h : zTr n (q + 1) f) : zTr n (q + 1) (upd f q (nI v)) := by
  intro k hk
  rcases Nat.lt_or_ge k q with q9 | q9
  · rw [pk_un (by omega)]; exact h k hk
  · obtain rfl : k = q := by omega
    rw [pk_us, nI_1]; exact vp_in_nI (by omega) (by omega)
theorem zTr_push {n q : Nat} {f : Nat → Int32} (h : zTr n (q + 1) f) : zTr n (q + 2) (upd f (q + 1) (-1)) := by
  intro k hk
  rcases Nat.lt_or_ge k (q + 1) with q9 | q9
  · rw [pk_un (by omega)]; exact h k q9
  · obtain rfl : k = q + 1 := by omega
    rw [pk_us]; exact vp_in_iff.mpr ⟨by decide, by rw [show ((-1 : Int32) + 1).toInt = 0 by decide]; omega⟩
theorem zTr_1 {n : Nat} (f : Nat → Int32) : zTr n 1 (upd f 0 (-1)) := by
  intro k hk
  obtain rfl : k = 0 := by omega
  rw [pk_us]
  exact vp_in_iff.mpr ⟨by decide, by rw [show ((-1 : Int32) + 1).toInt = 0 by decide]; omega⟩
theorem zPh_le {n : Nat} (hn : n ≤ 5) (f : Nat → Int32) : zPh n 1 f < 1000000 := by
  rw [zPh_s]
  show 0 + _ < _
  have h3 : (n + 2 - (f 0 + 1).toNatClampNeg) * 10 ^ (5 - 0) ≤ 7 * 10 ^ (5 - 0) := Nat.mul_le_mul_right _ (by omega)
  omega
