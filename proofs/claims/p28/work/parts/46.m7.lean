/-- a row of times as a number, and that it is one -/
def zV (f : Nat → Int32) : Nat := (f 0).toNatClampNeg * 10000 + (f 1).toNatClampNeg * 1000 + (f 2).toNatClampNeg * 100 + (f 3).toNatClampNeg * 10 + (f 4).toNatClampNeg
def zDg (f : Nat → Int32) : Prop := ∀ q, q < 5 → vp_in (f q) 10
theorem zV_up {f : Nat → Int32} {q : Nat} {x : Int32} (hq : q < 5) : zV (upd f q x) + (f q).toNatClampNeg * 10 ^ (4 - q) = zV f + x.toNatClampNeg * 10 ^ (4 - q) := by
  rcases (show q = 0 ∨ q = 1 ∨ q = 2 ∨ q = 3 ∨ q = 4 by omega) with rfl | rfl | rfl | rfl | rfl <;> simp [zV, upd] <;> omega
theorem zV_le {f : Nat → Int32} (h : zDg f) : zV f ≤ 99999 := by
  have h0 := z_cl (h 0 (by decide))
  have h1 := z_cl (h 1 (by decide))
  have h2 := z_cl (h 2 (by decide))
  have h3 := z_cl (h 3 (by decide))
  have h4 := z_cl (h 4 (by decide))
  unfold zV
  omega
theorem zDg_up {f : Nat → Int32} {q : Nat} {x : Int32} (h : zDg f) (hx : vp_in x 10) : zDg (upd f q x) := by
  intro j hj
  by_cases e : j = q
  · subst e; rw [pk_us]; exact hx
  · rw [pk_un e]; exact h j hj
theorem z_p10 {q : Nat} (hq : q < 5) : 10 ^ (5 - q) = 10 * 10 ^ (4 - q) ∧ 0 < 10 ^ (4 - q) ∧ 10 ^ (5 - (q + 1)) = 10 ^ (4 - q) := by
  rcases (show q = 0 ∨ q = 1 ∨ q = 2 ∨ q = 3 ∨ q = 4 by omega) with rfl | rfl | rfl | rfl | rfl <;> decide
theorem zV_skip {f : Nat → Int32} {q v : Nat} (hq : q < 5) (h : v < zV f + 10 ^ (5 - (q + 1))) : v < zV f + 10 ^ (5 - q) := by
  have h1 := z_p10 hq
  omega
theorem zV_zero {f : Nat → Int32} {q v : Nat} (hq : q < 5) (e : f (nI q).toNatClampNeg = 9) (h : v < zV f + 10 ^ (5 - (q + 1))) : v < zV (upd f ((nI q).toNatClampNeg) 0) + 10 ^ (5 - q) := by
  rw [nI_clamp (by omega)] at e ⊢
  have h1 := z_p10 hq
  have h2 := zV_up (f := f) (x := 0) hq
  rw [e] at h2
  have e9 : (9 : Int32).toNatClampNeg = 9 := by decide
  have e0 : (0 : Int32).toNatClampNeg = 0 := by decide
  rw [e9, e0] at h2
  omega
theorem zV_inc {f : Nat → Int32} {q v : Nat} {x : Int32} (hq : q < 5) (hx : (f q).toNatClampNeg + 1 ≤ x.toNatClampNeg) (h : v < zV f + 10 ^ (5 - (q + 1))) : v < zV (upd f ((nI q).toNatClampNeg) x) := by
  rw [nI_clamp (by omega)]
  have h1 := z_p10 hq
  have h2 := zV_up (f := f) (x := x) hq
  have h3 := Nat.mul_le_mul_right (10 ^ (4 - q)) hx
  rw [Nat.add_mul, Nat.one_mul] at h3
  omega
theorem zV_i9 {f : Nat → Int32} {q v pn : Nat} (hq : q < 5) (hpn : pn ≤ 8) (e : f (nI q).toNatClampNeg = nI pn) (h : v < zV f + 10 ^ (5 - (q + 1))) : v < zV (upd f ((nI q).toNatClampNeg) 9) := by
  refine zV_inc hq ?_ h
  rw [nI_clamp (by omega)] at e
  rw [e, nI_clamp (by omega)]
  have e9 : (9 : Int32).toNatClampNeg = 9 := by decide
  omega
theorem z_in1 {x : Int32} (h : vp_in x 10) (h9 : ¬ x = 9) : vp_in (x + 1) 10 ∧ (x + 1).toNatClampNeg = x.toNatClampNeg + 1 := by
  obtain ⟨j, hj, rfl⟩ := vp_in_of h (by decide)
  have hj9 : ¬ j = 9 := fun e => h9 (by rw [e]; rfl)
  rw [nI_1, nI_clamp (by omega), nI_clamp (by omega)]
  exact ⟨vp_in_nI (by omega) (by decide), rfl⟩
theorem zV_i1 {f : Nat → Int32} {q v : Nat} (hq : q < 5) (hd : zDg f) (e : ¬ f (nI q).toNatClampNeg = 9) (h : v < zV f + 10 ^ (5 - (q + 1))) : v < zV (upd f ((nI q).toNatClampNeg) (f (nI q).toNatClampNeg + 1)) := by
  have e1 := (z_in1 (hd _ (by rw [nI_clamp (by omega)]; exact hq)) e).2
  refine zV_inc hq ?_ h
  rw [nI_clamp (by omega)] at e1 ⊢
  omega
theorem zDg_0 (f : Nat → Int32) : zDg (upd (upd (upd (upd (upd f 0 0) 1 0) 2 0) 3 0) 4 0) := by
  intro q hq
  rcases (show q = 0 ∨ q = 1 ∨ q = 2 ∨ q = 3 ∨ q = 4 by omega) with rfl | rfl | rfl | rfl | rfl <;> exact (show vp_in (0 : Int32) 10 from z_in (by decide))
