theorem z_64 (a m : Int32) : a.toInt64 < m.toInt64 ↔ a < m := by rw [Int64.lt_iff_toInt_lt, Int32.lt_iff_toInt_lt, Int32.toInt_toInt64, Int32.toInt_toInt64]
theorem z_lo0 (a : Int32) : a.toInt64 < 0 ↔ a < 0 := by
  have e : (0 : Int64) = (0 : Int32).toInt64 := by decide
  rw [e]
  exact z_64 a _
theorem z_lo1 (a : Int32) : a.toInt64 < 1 ↔ a < 1 := by
  have e : (1 : Int64) = (1 : Int32).toInt64 := by decide
  rw [e]
  exact z_64 a _
theorem z_lom1 (a : Int32) : a.toInt64 < (-1) ↔ a < (-1) := by
  have e : (-1 : Int64) = (-1 : Int32).toInt64 := by decide
  rw [e]
  exact z_64 a _
theorem z_hi2 (a : Int32) : 2 < a.toInt64 ↔ 2 < a := by
  have e : (2 : Int64) = (2 : Int32).toInt64 := by decide
  rw [e]
  exact z_64 _ a
theorem z_hi3 (a : Int32) : 3 < a.toInt64 ↔ 3 < a := by
  have e : (3 : Int64) = (3 : Int32).toInt64 := by decide
  rw [e]
  exact z_64 _ a
theorem z_hi5 (a : Int32) : 5 < a.toInt64 ↔ 5 < a := by
  have e : (5 : Int64) = (5 : Int32).toInt64 := by decide
  rw [e]
  exact z_64 _ a
theorem z_hi9999 (a : Int32) : 9999 < a.toInt64 ↔ 9999 < a := by
  have e : (9999 : Int64) = (9999 : Int32).toInt64 := by decide
  rw [e]
  exact z_64 _ a
theorem z_le4 (a : Int32) : 4 ≤ a ↔ 3 < a := by
  rw [Int32.le_iff_toInt_le, Int32.lt_iff_toInt_lt]
  have e1 : (4 : Int32).toInt = 4 := by decide
  have e2 : (3 : Int32).toInt = 3 := by decide
  omega
theorem z_le3 (a : Int32) : 3 ≤ a ↔ 2 < a := by
  rw [Int32.le_iff_toInt_le, Int32.lt_iff_toInt_lt]
  have e1 : (3 : Int32).toInt = 3 := by decide
  have e2 : (2 : Int32).toInt = 2 := by decide
  omega
theorem z_lt6 (a : Int32) : a < 6 ↔ ¬ 5 < a := by
  rw [Int32.lt_iff_toInt_lt, Int32.lt_iff_toInt_lt]
  have e1 : (6 : Int32).toInt = 6 := by decide
  have e2 : (5 : Int32).toInt = 5 := by decide
  omega
theorem z_ltf {f j : Int32} (h1 : ¬ f < 1) (h3 : ¬ 3 < f) : (f - 1).toInt64 < j.toInt64 ↔ ¬ j < f := by
  rw [z_64, Int32.lt_iff_toInt_lt, Int32.lt_iff_toInt_lt]
  rw [Int32.lt_iff_toInt_lt] at h1 h3
  have e1 : (1 : Int32).toInt = 1 := by decide
  have e3 : (3 : Int32).toInt = 3 := by decide
  have e4 : (f - 1).toInt = f.toInt - 1 := by rw [Int32.toInt_sub, e1]; exact Int.bmod_eq_of_le (by omega) (by omega)
  rw [e4]
  omega
theorem eq_person (a b : Int32) : (if a < 0 then (-1 : Int32) else (if 3 < a then (-1 : Int32) else (if (if b < 0 then (0 : Int32) else (if 9999 < b then (0 : Int32) else (1 : Int32))) = 0 then (-1 : Int32) else (0 : Int32)))) = (if (if a.toInt64 < 0 then (0 : Int32) else (if 3 < a.toInt64 then (0 : Int32) else (1 : Int32))) = 0 then (-1 : Int32) else (if (if b.toInt64 < 0 then (0 : Int32) else (if 9999 < b.toInt64 then (0 : Int32) else (1 : Int32))) = 0 then (-1 : Int32) else (0 : Int32))) := by
  simp only [z_lo0, z_lo1, z_lom1, z_hi2, z_hi3, z_hi5, z_hi9999, z_le4, z_le3, z_lt6]
  by_cases h0 : a < 0 <;> by_cases h1 : 3 < a <;> by_cases h2 : b < 0 <;> by_cases h3 : 9999 < b <;> simp [h0, h1, h2, h3]
theorem eq_order (a : Int32) : (if a < (-1) then (-1 : Int32) else (if a < 6 then (-4 : Int32) else (-1 : Int32))) = (if (if a.toInt64 < (-1) then (0 : Int32) else (if 5 < a.toInt64 then (0 : Int32) else (1 : Int32))) = 0 then (-1 : Int32) else (-4 : Int32)) := by
  simp only [z_lo0, z_lo1, z_lom1, z_hi2, z_hi3, z_hi5, z_hi9999, z_le4, z_le3, z_lt6]
  by_cases h0 : a < -1 <;> by_cases h1 : 5 < a <;> simp [h0, h1]
theorem eq_so (a : Int32) : (if a ≤ 0 then (-1 : Int32) else (-1 : Int32)) = (-1) := by
  by_cases h : a ≤ 0 <;> simp [h]
theorem eq_sheet (a b d : Int32) : (if (if a < 0 then (0 : Int32) else (if 4 ≤ a then (0 : Int32) else (1 : Int32))) = 0 then (-1 : Int32) else (if (if b < 0 then (0 : Int32) else (if 3 ≤ b then (0 : Int32) else (1 : Int32))) = 0 then (-1 : Int32) else (if d ≤ 24 then (if 0 ≤ d then d else (-14 : Int32)) else (-1 : Int32)))) = (if (if (if a.toInt64 < 0 then (0 : Int32) else (if 3 < a.toInt64 then (0 : Int32) else (1 : Int32))) = 0 then (0 : Int32) else (if (if b.toInt64 < 0 then (0 : Int32) else (if 2 < b.toInt64 then (0 : Int32) else (1 : Int32))) = 0 then (0 : Int32) else (1 : Int32))) = 0 then (-1 : Int32) else (if d ≤ 24 then (if 0 ≤ d then d else (-14 : Int32)) else (-1 : Int32))) := by
  simp only [z_lo0, z_lo1, z_lom1, z_hi2, z_hi3, z_hi5, z_hi9999, z_le4, z_le3, z_lt6]
  by_cases h0 : a < 0 <;> by_cases h1 : 3 < a <;> by_cases h2 : b < 0 <;> by_cases h3 : 2 < b <;> simp [h0, h1, h2, h3]
theorem eq_drop (a : Int32) : (if (if a < 0 then (0 : Int32) else (if 4 ≤ a then (0 : Int32) else (1 : Int32))) = 0 then (-1 : Int32) else (-11 : Int32)) = (if (if a.toInt64 < 0 then (0 : Int32) else (if 3 < a.toInt64 then (0 : Int32) else (1 : Int32))) = 0 then (-1 : Int32) else (-11 : Int32)) := by
  simp only [z_lo0, z_lo1, z_lom1, z_hi2, z_hi3, z_hi5, z_hi9999, z_le4, z_le3, z_lt6]
theorem eq_item (a b : Int32) : (if (if a < 0 then (0 : Int32) else (if 4 ≤ a then (0 : Int32) else (1 : Int32))) = 0 then (-1 : Int32) else (if (if b < 0 then (0 : Int32) else (if 3 ≤ b then (0 : Int32) else (1 : Int32))) = 0 then (-1 : Int32) else (-11 : Int32))) = (if (if (if a.toInt64 < 0 then (0 : Int32) else (if 3 < a.toInt64 then (0 : Int32) else (1 : Int32))) = 0 then (0 : Int32) else (if (if b.toInt64 < 0 then (0 : Int32) else (if 2 < b.toInt64 then (0 : Int32) else (1 : Int32))) = 0 then (0 : Int32) else (1 : Int32))) = 0 then (-1 : Int32) else (-11 : Int32)) := by
  simp only [z_lo0, z_lo1, z_lom1, z_hi2, z_hi3, z_hi5, z_hi9999, z_le4, z_le3, z_lt6]
  by_cases h0 : a < 0 <;> by_cases h1 : 3 < a <;> by_cases h2 : b < 0 <;> by_cases h3 : 2 < b <;> simp [h0, h1, h2, h3]
theorem eq_film (a b : Int32) : (if (if a < 0 then (0 : Int32) else (if 4 ≤ a then (0 : Int32) else (1 : Int32))) = 0 then (-1 : Int32) else (if (if b < 0 then (0 : Int32) else (if 3 ≤ b then (0 : Int32) else (1 : Int32))) = 0 then (-1 : Int32) else (-11 : Int32))) = (if (if (if a.toInt64 < 0 then (0 : Int32) else (if 3 < a.toInt64 then (0 : Int32) else (1 : Int32))) = 0 then (0 : Int32) else (if (if b.toInt64 < 0 then (0 : Int32) else (if 2 < b.toInt64 then (0 : Int32) else (1 : Int32))) = 0 then (0 : Int32) else (1 : Int32))) = 0 then (-1 : Int32) else (-11 : Int32)) := by
  simp only [z_lo0, z_lo1, z_lom1, z_hi2, z_hi3, z_hi5, z_hi9999, z_le4, z_le3, z_lt6]
  by_cases h0 : a < 0 <;> by_cases h1 : 3 < a <;> by_cases h2 : b < 0 <;> by_cases h3 : 2 < b <;> simp [h0, h1, h2, h3]
theorem eq_copy (a d : Int32) : (if (if a < 0 then (0 : Int32) else (if 4 ≤ a then (0 : Int32) else (1 : Int32))) = 0 then (-1 : Int32) else (if (if d < 0 then (0 : Int32) else (if 4 ≤ d then (0 : Int32) else (1 : Int32))) = 0 then (-1 : Int32) else (-11 : Int32))) = (if (if a.toInt64 < 0 then (0 : Int32) else (if 3 < a.toInt64 then (0 : Int32) else (1 : Int32))) = 0 then (-1 : Int32) else (if (if d.toInt64 < 0 then (0 : Int32) else (if 3 < d.toInt64 then (0 : Int32) else (1 : Int32))) = 0 then (-1 : Int32) else (-11 : Int32))) := by
  simp only [z_lo0, z_lo1, z_lom1, z_hi2, z_hi3, z_hi5, z_hi9999, z_le4, z_le3, z_lt6]
theorem eq_who (a b f j : Int32) : (if (if a < 0 then (0 : Int32) else (if 4 ≤ a then (0 : Int32) else (1 : Int32))) = 0 then (-1 : Int32) else (if (if b < 0 then (0 : Int32) else (if 3 ≤ b then (0 : Int32) else (1 : Int32))) = 0 then (-1 : Int32) else (if f < 1 then (-1 : Int32) else (if 3 < f then (-1 : Int32) else (if j < (-1) then (-1 : Int32) else (if j < f then (-11 : Int32) else (-1 : Int32))))))) = (if (if (if a.toInt64 < 0 then (0 : Int32) else (if 3 < a.toInt64 then (0 : Int32) else (1 : Int32))) = 0 then (0 : Int32) else (if (if b.toInt64 < 0 then (0 : Int32) else (if 2 < b.toInt64 then (0 : Int32) else (1 : Int32))) = 0 then (0 : Int32) else (1 : Int32))) = 0 then (-1 : Int32) else (if (if f.toInt64 < 1 then (0 : Int32) else (if 3 < f.toInt64 then (0 : Int32) else (1 : Int32))) = 0 then (-1 : Int32) else (if (if j.toInt64 < (-1) then (0 : Int32) else (if ((f - 1).toInt64) < j.toInt64 then (0 : Int32) else (1 : Int32))) = 0 then (-1 : Int32) else (-11 : Int32)))) := by
  by_cases h1 : f < 1
  · simp only [z_lo0, z_lo1, z_lom1, z_hi2, z_hi3, z_hi5, z_hi9999, z_le4, z_le3, z_lt6]
    by_cases h0 : a < 0 <;> by_cases g1 : 3 < a <;> by_cases h2 : b < 0 <;> by_cases h3 : 2 < b <;> simp [h1, h0, g1, h2, h3]
  · by_cases h3 : 3 < f
    · simp only [z_lo0, z_lo1, z_lom1, z_hi2, z_hi3, z_hi5, z_hi9999, z_le4, z_le3, z_lt6]
      by_cases h0 : a < 0 <;> by_cases g1 : 3 < a <;> by_cases h2 : b < 0 <;> by_cases g3 : 2 < b <;> simp [h1, h3, h0, g1, h2, g3]
    · simp only [z_ltf h1 h3]
      simp only [z_lo0, z_lo1, z_lom1, z_hi2, z_hi3, z_hi5, z_hi9999, z_le4, z_le3, z_lt6]
      by_cases h0 : a < 0 <;> by_cases g1 : 3 < a <;> by_cases h2 : b < 0 <;> by_cases g3 : 2 < b <;> by_cases h4 : j < -1 <;> by_cases h5 : j < f <;> simp [h1, h3, h0, g1, h2, g3, h4, h5]
