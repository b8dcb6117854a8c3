/-! how many bits a number has, as the JDK counts them -/
theorem and_split (k : Nat) {a c y z : Nat} (ha : a < 2 ^ k) (hc : c < 2 ^ k) : (2 ^ k * y + a) &&& (2 ^ k * z + c) = 2 ^ k * (y &&& z) + (a &&& c) := by
  apply Nat.eq_of_testBit_eq
  intro j
  rw [Nat.testBit_and, Nat.testBit_two_pow_mul_add _ ha, Nat.testBit_two_pow_mul_add _ hc, Nat.testBit_two_pow_mul_add _ (Nat.and_lt_two_pow _ hc)]
  by_cases h : j < k
  · rw [if_pos h, if_pos h, if_pos h, Nat.testBit_and]
  · rw [if_neg h, if_neg h, if_neg h, Nat.testBit_and]
def bcM (d : Nat) : Nat → Nat
  | 0 => 0
  | k + 1 => 16 * bcM d k + d
theorem bcM_and {d : Nat} (hd : d < 16) (k x : Nat) : x &&& bcM d (k + 1) = 16 * ((x / 16) &&& bcM d k) + ((x % 16) &&& d) := by
  have h := and_split 4 (a := x % 16) (c := d) (y := x / 16) (z := bcM d k) (by omega) (by omega)
  rw [show (2 : Nat) ^ 4 = 16 from rfl, Nat.div_add_mod] at h
  exact h
def bcU1 (k x : Nat) : Nat := x - ((x / 2) &&& bcM 5 k)
def bcU2 (k x : Nat) : Nat := (x &&& bcM 3 k) + ((x / 4) &&& bcM 3 k)
def bcW1 (n : Nat) : Nat := n - ((n / 2) &&& 5)
def bcW2 (n : Nat) : Nat := (n &&& 3) + ((n / 4) &&& 3)
def bcP4 (n : Nat) : Nat := n % 2 + n / 2 % 2 + n / 4 % 2 + n / 8 % 2
def bcPs : Nat → Nat → Nat
  | 0, _ => 0
  | k + 1, x => 16 * bcPs k (x / 16) + bcP4 (x % 16)
theorem bc_d5 : ∀ r, r < 32 → (r / 2) &&& 5 = (r % 16 / 2) &&& 5 := by decide +kernel
theorem bc_d3 : ∀ r, r < 64 → (r / 4) &&& 3 = (r % 16 / 4) &&& 3 := by decide +kernel
theorem bc_w : ∀ n, n < 16 → bcW2 (bcW1 n) = bcP4 n := by decide +kernel
theorem bcU1_s (k x : Nat) : bcU1 (k + 1) x = 16 * bcU1 k (x / 16) + bcW1 (x % 16) := by
  have h := bcM_and (d := 5) (by decide) k (x / 2)
  have h1 : (x / 2 % 16) &&& 5 = (x % 16 / 2) &&& 5 := by
    have h2 := bc_d5 (x % 32) (by omega)
    rw [show x % 32 / 2 = x / 2 % 16 by omega, show x % 32 % 16 = x % 16 by omega] at h2
    exact h2
  rw [h1, show x / 2 / 16 = x / 16 / 2 by omega] at h
  have h3 : (x / 16 / 2) &&& bcM 5 k ≤ x / 16 / 2 := Nat.and_le_left
  have h4 : (x % 16 / 2) &&& 5 ≤ x % 16 / 2 := Nat.and_le_left
  unfold bcU1 bcW1
  rw [h]
  generalize (x / 16 / 2) &&& bcM 5 k = u at h3 ⊢
  generalize (x % 16 / 2) &&& 5 = v at h4 ⊢
  omega
theorem bcU2_s (k y : Nat) : bcU2 (k + 1) y = 16 * bcU2 k (y / 16) + bcW2 (y % 16) := by
  have h := bcM_and (d := 3) (by decide) k (y / 4)
  have h0 := bcM_and (d := 3) (by decide) k y
  have h1 : (y / 4 % 16) &&& 3 = (y % 16 / 4) &&& 3 := by
    have h2 := bc_d3 (y % 64) (by omega)
    rw [show y % 64 / 4 = y / 4 % 16 by omega, show y % 64 % 16 = y % 16 by omega] at h2
    exact h2
  rw [h1, show y / 4 / 16 = y / 16 / 4 by omega] at h
  unfold bcU2 bcW2
  rw [h, h0]
  omega
theorem bcW1_lt {n : Nat} (h : n < 16) : bcW1 n < 16 := by
  unfold bcW1
  omega
theorem bc_12 : ∀ k x, bcU2 k (bcU1 k x) = bcPs k x
  | 0, x => by
    show (bcU1 0 x &&& 0) + ((bcU1 0 x / 4) &&& 0) = 0
    rw [Nat.and_zero, Nat.and_zero]
  | k + 1, x => by
    have h := bcW1_lt (n := x % 16) (by omega)
    rw [bcU2_s, bcU1_s, show (16 * bcU1 k (x / 16) + bcW1 (x % 16)) / 16 = bcU1 k (x / 16) by omega, show (16 * bcU1 k (x / 16) + bcW1 (x % 16)) % 16 = bcW1 (x % 16) by omega, bc_12 k, bc_w _ (by omega)]
    rfl
theorem bc_m15 (x z : Nat) : x &&& (256 * z + 15) = 256 * ((x / 256) &&& z) + x % 16 := by
  have h := and_split 8 (a := x % 256) (c := 15) (y := x / 256) (z := z) (by omega) (by decide)
  rw [show (2 : Nat) ^ 8 = 256 from rfl, Nat.div_add_mod, show (x % 256) &&& 15 = x % 256 % 16 from Nat.and_two_pow_sub_one_eq_mod _ 4] at h
  omega
def bcT (x : Nat) : Nat := bcP4 (x % 16) + bcP4 (x / 16 % 16) + bcP4 (x / 256 % 16) + bcP4 (x / 4096 % 16) + bcP4 (x / 65536 % 16) + bcP4 (x / 1048576 % 16) + bcP4 (x / 16777216 % 16) + bcP4 (x / 268435456 % 16)
theorem bcP4_le {n : Nat} : bcP4 n ≤ 4 := by
  unfold bcP4
  omega
theorem bc_ps8 (x : Nat) : bcPs 8 x = bcP4 (x % 16) + 16 * bcP4 (x / 16 % 16) + 256 * bcP4 (x / 256 % 16) + 4096 * bcP4 (x / 4096 % 16) + 65536 * bcP4 (x / 65536 % 16) + 1048576 * bcP4 (x / 1048576 % 16) + 16777216 * bcP4 (x / 16777216 % 16) + 268435456 * bcP4 (x / 268435456 % 16) := by
  show 16 * (16 * (16 * (16 * (16 * (16 * (16 * (16 * 0 + bcP4 (x / 16 / 16 / 16 / 16 / 16 / 16 / 16 % 16)) + bcP4 (x / 16 / 16 / 16 / 16 / 16 / 16 % 16)) + bcP4 (x / 16 / 16 / 16 / 16 / 16 % 16)) + bcP4 (x / 16 / 16 / 16 / 16 % 16)) + bcP4 (x / 16 / 16 / 16 % 16)) + bcP4 (x / 16 / 16 % 16)) + bcP4 (x / 16 % 16)) + bcP4 (x % 16) = _
  rw [show x / 16 / 16 = x / 256 by omega, show x / 256 / 16 = x / 4096 by omega, show x / 4096 / 16 = x / 65536 by omega, show x / 65536 / 16 = x / 1048576 by omega, show x / 1048576 / 16 = x / 16777216 by omega, show x / 16777216 / 16 = x / 268435456 by omega]
  omega
theorem bc_345 (X p0 p1 p2 p3 p4 p5 p6 p7 : Nat) (e : X = p0 + 16 * p1 + 256 * p2 + 4096 * p3 + 65536 * p4 + 1048576 * p5 + 16777216 * p6 + 268435456 * p7) (h0 : p0 ≤ 4) (h1 : p1 ≤ 4) (h2 : p2 ≤ 4) (h3 : p3 ≤ 4) (h4 : p4 ≤ 4) (h5 : p5 ≤ 4) (h6 : p6 ≤ 4) (h7 : p7 ≤ 4) :
    (X + X / 16) &&& 252645135 = (p0 + p1) + 256 * (p2 + p3) + 65536 * (p4 + p5) + 16777216 * (p6 + p7) := by
  have g0 := bc_m15 (X + X / 16) 986895
  have g1 := bc_m15 ((X + X / 16) / 256) 3855
  have g2 := bc_m15 ((X + X / 16) / 256 / 256) 15
  have g3 : (X + X / 16) / 256 / 256 / 256 &&& 15 = (X + X / 16) / 256 / 256 / 256 % 16 := Nat.and_two_pow_sub_one_eq_mod _ 4
  rw [show 256 * 986895 + 15 = 252645135 from rfl] at g0
  rw [show 256 * 3855 + 15 = 986895 from rfl] at g1
  rw [show 256 * 15 + 15 = 3855 from rfl] at g2
  rw [g0, g1, g2, g3]
  clear g0 g1 g2 g3
  have hY : X + X / 16 = (p0 + p1) + 16 * (p1 + p2) + 256 * (p2 + p3) + 4096 * (p3 + p4) + 65536 * (p4 + p5) + 1048576 * (p5 + p6) + 16777216 * (p6 + p7) + 268435456 * p7 := by
    have e16 : X / 16 = p1 + 16 * p2 + 256 * p3 + 4096 * p4 + 65536 * p5 + 1048576 * p6 + 16777216 * p7 := by omega
    rw [e16, e]
    omega
  rw [hY]
  clear hY e
  have y1 : ((p0 + p1) + 16 * (p1 + p2) + 256 * (p2 + p3) + 4096 * (p3 + p4) + 65536 * (p4 + p5) + 1048576 * (p5 + p6) + 16777216 * (p6 + p7) + 268435456 * p7) / 256 = (p2 + p3) + 16 * (p3 + p4) + 256 * (p4 + p5) + 4096 * (p5 + p6) + 65536 * (p6 + p7) + 1048576 * p7 := by omega
  have y2 : ((p2 + p3) + 16 * (p3 + p4) + 256 * (p4 + p5) + 4096 * (p5 + p6) + 65536 * (p6 + p7) + 1048576 * p7) / 256 = (p4 + p5) + 16 * (p5 + p6) + 256 * (p6 + p7) + 4096 * p7 := by omega
  have y3 : ((p4 + p5) + 16 * (p5 + p6) + 256 * (p6 + p7) + 4096 * p7) / 256 = (p6 + p7) + 16 * p7 := by omega
  have m0 : ((p0 + p1) + 16 * (p1 + p2) + 256 * (p2 + p3) + 4096 * (p3 + p4) + 65536 * (p4 + p5) + 1048576 * (p5 + p6) + 16777216 * (p6 + p7) + 268435456 * p7) % 16 = p0 + p1 := by omega
  have m1 : ((p2 + p3) + 16 * (p3 + p4) + 256 * (p4 + p5) + 4096 * (p5 + p6) + 65536 * (p6 + p7) + 1048576 * p7) % 16 = p2 + p3 := by omega
  have m2 : ((p4 + p5) + 16 * (p5 + p6) + 256 * (p6 + p7) + 4096 * p7) % 16 = p4 + p5 := by omega
  have m3 : ((p6 + p7) + 16 * p7) % 16 = p6 + p7 := by omega
  rw [y1, y2, y3, m0, m1, m2, m3]
  omega
theorem bc_form {a a1 a2 a3 a4 : Int32} (h1 : a - (((a.toUInt32 >>> ((1 : Int32).toUInt32 &&& Int32.toUInt32 31)).toInt32) &&& 1431655765) = a1) (h2 : (a1 &&& 858993459) + (((a1.toUInt32 >>> ((2 : Int32).toUInt32 &&& Int32.toUInt32 31)).toInt32) &&& 858993459) = a2) (h3 : (a2 + (a2.toUInt32 >>> ((4 : Int32).toUInt32 &&& Int32.toUInt32 31)).toInt32) &&& 252645135 = a3) (h4 : a3 + (a3.toUInt32 >>> ((8 : Int32).toUInt32 &&& Int32.toUInt32 31)).toInt32 = a4) :
    q_J6_bitCount_0f7a4_r a = (a4 + (a4.toUInt32 >>> ((16 : Int32).toUInt32 &&& Int32.toUInt32 31)).toInt32) &&& 63 := by
  subst h1
  subst h2
  subst h3
  subst h4
  rfl
theorem bc_nI {x : Nat} (hx : x < 4294967296) : q_J6_bitCount_0f7a4_r (nI x) = nI (bcT x) := by
  have k1 : bcU1 8 x ≤ x := Nat.sub_le _ _
  have e2 := bc_12 8 x
  have e3 := bc_ps8 x
  have b0 := bcP4_le (n := x % 16)
  have b1 := bcP4_le (n := x / 16 % 16)
  have b2 := bcP4_le (n := x / 256 % 16)
  have b3 := bcP4_le (n := x / 4096 % 16)
  have b4 := bcP4_le (n := x / 65536 % 16)
  have b5 := bcP4_le (n := x / 1048576 % 16)
  have b6 := bcP4_le (n := x / 16777216 % 16)
  have b7 := bcP4_le (n := x / 268435456 % 16)
  have e4 := bc_345 (bcPs 8 x) _ _ _ _ _ _ _ _ e3 b0 b1 b2 b3 b4 b5 b6 b7
  have ht : bcT x = bcP4 (x % 16) + bcP4 (x / 16 % 16) + bcP4 (x / 256 % 16) + bcP4 (x / 4096 % 16) + bcP4 (x / 65536 % 16) + bcP4 (x / 1048576 % 16) + bcP4 (x / 16777216 % 16) + bcP4 (x / 268435456 % 16) := rfl
  generalize bcP4 (x % 16) = p0 at *
  generalize bcP4 (x / 16 % 16) = p1 at *
  generalize bcP4 (x / 256 % 16) = p2 at *
  generalize bcP4 (x / 4096 % 16) = p3 at *
  generalize bcP4 (x / 65536 % 16) = p4 at *
  generalize bcP4 (x / 1048576 % 16) = p5 at *
  generalize bcP4 (x / 16777216 % 16) = p6 at *
  generalize bcP4 (x / 268435456 % 16) = p7 at *
  have hX : bcPs 8 x < 4294967296 := by omega
  have c1 : nI x - ((((nI x).toUInt32 >>> ((1 : Int32).toUInt32 &&& Int32.toUInt32 31)).toInt32) &&& 1431655765) = nI (bcU1 8 x) := by
    rw [pk_ushrN (by omega) 1 1 (by decide), show (1431655765 : Int32) = nI 1431655765 from rfl, z_nand, pk_sub (Nat.le_trans Nat.and_le_left (Nat.div_le_self _ _))]
    rfl
  have c2 : (nI (bcU1 8 x) &&& 858993459) + ((((nI (bcU1 8 x)).toUInt32 >>> ((2 : Int32).toUInt32 &&& Int32.toUInt32 31)).toInt32) &&& 858993459) = nI (bcPs 8 x) := by
    rw [pk_ushrN (by omega) 2 2 (by decide), show (858993459 : Int32) = nI 858993459 from rfl, z_nand, z_nand, nI_add, ← e2]
    rfl
  have c3 : (nI (bcPs 8 x) + ((nI (bcPs 8 x)).toUInt32 >>> ((4 : Int32).toUInt32 &&& Int32.toUInt32 31)).toInt32) &&& 252645135 = nI ((p0 + p1) + 256 * (p2 + p3) + 65536 * (p4 + p5) + 16777216 * (p6 + p7)) := by
    rw [pk_ushrN (by omega) 4 4 (by decide), show (252645135 : Int32) = nI 252645135 from rfl, nI_add, z_nand, show bcPs 8 x / 2 ^ 4 = bcPs 8 x / 16 from rfl, e4]
  have c4 : nI ((p0 + p1) + 256 * (p2 + p3) + 65536 * (p4 + p5) + 16777216 * (p6 + p7)) + ((nI ((p0 + p1) + 256 * (p2 + p3) + 65536 * (p4 + p5) + 16777216 * (p6 + p7))).toUInt32 >>> ((8 : Int32).toUInt32 &&& Int32.toUInt32 31)).toInt32 = nI ((p0 + p1 + p2 + p3) + 256 * (p2 + p3 + p4 + p5) + 65536 * (p4 + p5 + p6 + p7) + 16777216 * (p6 + p7)) := by
    rw [pk_ushrN (by omega) 8 8 (by decide), nI_add]
    congr 1
    rw [show (2 : Nat) ^ 8 = 256 from rfl]
    omega
  rw [bc_form c1 c2 c3 c4, pk_ushrN (by omega) 16 16 (by decide), nI_add, show (63 : Int32) = nI 63 from rfl, z_nand, show ∀ y : Nat, y &&& 63 = y % 64 from fun y => Nat.and_two_pow_sub_one_eq_mod y 6, ht]
  congr 1
  rw [show (2 : Nat) ^ 16 = 65536 from rfl]
  have a1 : ((p0 + p1 + p2 + p3) + 256 * (p2 + p3 + p4 + p5) + 65536 * (p4 + p5 + p6 + p7) + 16777216 * (p6 + p7)) / 65536 = (p4 + p5 + p6 + p7) + 256 * (p6 + p7) := by
    clear e4 e3 e2 k1 hX c1 c2 c3 c4 ht hx
    omega
  rw [a1]
  clear e4 e3 e2 k1 hX c1 c2 c3 c4 ht hx a1
  omega
/-! bits as numbers -/
def btN (x : Int32) (i : Nat) : Nat := (bt x i).toNat
theorem btN_nI {x i : Nat} (hx : x < 4294967296) : btN (nI x) i = x / 2 ^ i % 2 := by
  unfold btN bt
  show ((BitVec.ofNat 32 x).getLsbD i).toNat = _
  rw [← BitVec.testBit_toNat, BitVec.toNat_ofNat, Nat.mod_eq_of_lt (show x < 2 ^ 32 by omega), Nat.testBit_eq_decide_div_mod_eq]
  rcases Nat.mod_two_eq_zero_or_one (x / 2 ^ i) with h | h
  · rw [h]; rfl
  · rw [h]; rfl
theorem bcP4_y (y : Nat) : bcP4 (y % 16) = y % 2 + y / 2 % 2 + y / 4 % 2 + y / 8 % 2 := by
  unfold bcP4
  omega
theorem bcT_sm {x : Nat} (hx : x < 4294967296) : bcT x = fb_sm (btN (nI x)) 32 := by
  have hb : ∀ i, btN (nI x) i = x / 2 ^ i % 2 := fun i => btN_nI hx
  unfold bcT
  rw [bcP4_y, bcP4_y, bcP4_y, bcP4_y, bcP4_y, bcP4_y, bcP4_y, bcP4_y]
  simp only [fb_sm, hb, Nat.div_div_eq_div_mul, Nat.reduceMul, Nat.reducePow, Nat.div_one]
  omega
theorem bc_all (a : Int32) : q_J6_bitCount_0f7a4_r a = nI (fb_sm (btN a) 32) := by
  obtain ⟨x, hx, rfl⟩ := z_of32 a
  rw [bc_nI hx, bcT_sm hx]
theorem fb_sm_cut {f : Nat → Nat} {m : Nat} (h : ∀ i, m ≤ i → f i = 0) : ∀ k, fb_sm f (m + k) = fb_sm f m
  | 0 => rfl
  | k + 1 => by
    show fb_sm f (m + k) + f (m + k) = _
    rw [fb_sm_cut h k, h _ (by omega), Nat.add_zero]
theorem fb_sm_5 (g : Nat → Nat → Nat) : ∀ k, fb_sm (fun i => g (i / 5) (i % 5)) (5 * k) = fb_sm (fun a => fb_sm (g a) 5) k
  | 0 => rfl
  | k + 1 => by
    rw [show 5 * (k + 1) = 5 * k + 1 + 1 + 1 + 1 + 1 by omega, fb_sm_succ, fb_sm_succ, fb_sm_succ, fb_sm_succ, fb_sm_succ, fb_sm_5 g k, fb_sm_succ]
    rw [show 5 * k / 5 = k by omega, show 5 * k % 5 = 0 by omega, show (5 * k + 1) / 5 = k by omega, show (5 * k + 1) % 5 = 1 by omega, show (5 * k + 1 + 1) / 5 = k by omega, show (5 * k + 1 + 1) % 5 = 2 by omega, show (5 * k + 1 + 1 + 1) / 5 = k by omega, show (5 * k + 1 + 1 + 1) % 5 = 3 by omega, show (5 * k + 1 + 1 + 1 + 1) / 5 = k by omega, show (5 * k + 1 + 1 + 1 + 1) % 5 = 4 by omega]
    simp only [fb_sm]
    omega
/-! askings in this week -/
def spAsked (P : spF) : Nat := fb_sm (fun a => fb_sm (fun b => (P.2.2.2.2 a b).toNat) 5) P.1
theorem asked_c {P : spF} {n N : Nat} {kn ak : Int32} {f g : Nat → Int32} (hF : zFr P n kn ak f g) (hw : zFw P N) : q_X0_askings_r ak = nI (spAsked P) := by
  have h5 := hw.1
  unfold q_X0_askings_r
  rw [bc_all]
  congr 1
  have e1 : ∀ i, i < 32 → btN ak i = (fun i => if i < 25 then (P.2.2.2.2 (i / 5) (i % 5)).toNat else 0) i := fun i hi => by
    show (bt ak i).toNat = if i < 25 then (P.2.2.2.2 (i / 5) (i % 5)).toNat else 0
    rw [hF.2.2.2.2 i hi]
    by_cases h : i < 25
    · rw [if_pos h, decide_eq_true h, Bool.true_and]
    · rw [if_neg h, decide_eq_false h, Bool.false_and]; rfl
  rw [fb_sm_cong e1, show (32 : Nat) = 25 + 7 from rfl, fb_sm_cut (fun i hi => if_neg (Nat.not_lt.mpr hi)) 7]
  rw [fb_sm_cong (g := fun i => (fun a b => (P.2.2.2.2 a b).toNat) (i / 5) (i % 5)) (fun i hi => if_pos hi), show (25 : Nat) = 5 * 5 from rfl, fb_sm_5 (fun a b => (P.2.2.2.2 a b).toNat) 5]
  unfold spAsked
  obtain ⟨d, hd⟩ : ∃ d, 5 = P.1 + d := ⟨5 - P.1, by omega⟩
  have h0 : ∀ i, P.1 ≤ i → fb_sm (fun b => (P.2.2.2.2 i b).toNat) 5 = 0 := fun i hi => by
    have h1 : ∀ b, b < 5 → (P.2.2.2.2 i b).toNat = (fun _ => 0) b := fun b _ => by
      rw [hw.2.2.2.2.1 i b (fun q => absurd q.1 (Nat.not_lt.mpr hi))]; rfl
    rw [fb_sm_cong h1]; rfl
  have h2 := fb_sm_cut h0 d
  rw [← hd] at h2
  exact h2
theorem ones_32 : ∀ z, z < 32 → ql_X9_ones (z + 1) (nI z) 0 = nI (z / 2 ^ 0 % 2 + z / 2 ^ 1 % 2 + z / 2 ^ 2 % 2 + z / 2 ^ 3 % 2 + z / 2 ^ 4 % 2) := by decide +kernel
theorem ones_m {x : Int32} (h : ∀ i, i < 32 → 5 ≤ i → bt x i = false) : xOnes x = nI (fb_sm (btN x) 5) := by
  obtain ⟨z, hz, rfl⟩ := z_of32 x
  have h32 : z < 2 ^ 5 := by
    refine Nat.lt_pow_two_of_testBit z (fun i hi => ?_)
    rcases Nat.lt_or_ge i 32 with q | q
    · have h1 := h i q hi
      unfold bt at h1
      rw [show (nI z).toBitVec = BitVec.ofNat 32 z from rfl, ← BitVec.testBit_toNat, BitVec.toNat_ofNat, Nat.mod_eq_of_lt (show z < 2 ^ 32 by omega)] at h1
      exact h1
    · exact Nat.testBit_lt_two_pow (Nat.lt_of_lt_of_le hz (Nat.pow_le_pow_right (n := 2) (by decide) q))
  unfold xOnes
  rw [ql_ones_st 4294967296 z (nI z) 0 rfl (by omega), ones_32 z h32]
  congr 1
  simp only [fb_sm, btN_nI hz]
  omega
theorem asking_loop {n : Nat} {f4 : Nat → Int32} {r : Nat → Nat} (hn : n ≤ 5) (hr : ∀ j, j < n → xOnes (f4 j) = nI (r j)) : ∀ (m fu j : Nat), j + m = n → m < fu → (ql_X9_askings n f4 fu j (nI (fb_sm r j))).2 = nI (fb_sm r n)
  | m, 0, j, _, hfu => absurd hfu (Nat.not_lt_zero _)
  | 0, fu + 1, j, h, hfu => by
    rw [ql_X9_askings, if_pos (nI_le (by omega) (by omega)), show j = n by omega]
  | m + 1, fu + 1, j, h, hfu => by
    rw [ql_X9_askings, if_neg (nI_ge (by omega) (by omega)), nI_clamp (show j < 2 ^ 31 by omega), hr j (by omega), nI_add, ← fb_sm_succ]
    exact asking_loop hn hr m fu (j + 1) (by omega) (by omega)
theorem asked_m {P : spF} {n N : Nat} {f1 f2 f3 f4 : Nat → Int32} (hF : zFm P n f1 f2 f3 f4) (hw : zFw P N) : q_X9_askings_r n f4 = nI (spAsked P) := by
  have h5 := hw.1
  have en := hF.1
  have hr : ∀ j, j < n → xOnes (f4 j) = nI (fb_sm (fun b => (P.2.2.2.2 j b).toNat) 5) := fun j hj => by
    have hb := (hF.2 j hj).2.2.2
    rw [ones_m (fun i hi h => by rw [hb i hi, decide_eq_false (show ¬ i < n by omega)]; rfl)]
    congr 1
    refine fb_sm_cong (fun i hi => ?_)
    show (bt (f4 j) i).toNat = (P.2.2.2.2 j i).toNat
    rw [hb i (by omega)]
    by_cases h : i < n
    · rw [decide_eq_true h, Bool.true_and]
    · rw [decide_eq_false h, hw.2.2.2.2.1 j i (fun q => h (by omega))]; rfl
  have h := asking_loop (f4 := f4) (r := fun j => fb_sm (fun b => (P.2.2.2.2 j b).toNat) 5) (n := n) (by omega) hr n (n + 1) 0 (by omega) (by omega)
  unfold q_X9_askings_r spAsked
  rw [← en]
  exact h
/-! week -/
theorem week_c {P : spF} {n N : Nat} {kn ak : Int32} {f g : Nat → Int32} (hF : zFr P n kn ak f g) (hw : zFw P N) : q_X8_week_r ak = nI (spAsked P) := asked_c hF hw
theorem week_m {P : spF} {n N : Nat} {f1 f2 f3 f4 : Nat → Int32} (hF : zFm P n f1 f2 f3 f4) (hw : zFw P N) : q_X9_week_r n f4 = nI (spAsked P) := asked_m hF hw
/-! count -/
theorem sum_c {g : Nat → Int32} {r : Nat → Nat} : ∀ n, (∀ j, j < n → g j = nI (r j)) → xSum g n = nI (fb_sm r n)
  | 0, _ => rfl
  | n + 1, h => by
    rw [xSum, fb_sm_succ, sum_c n (fun j hj => h j (by omega)), h n (by omega), nI_add]
theorem count1_m {n : Nat} {f2 : Nat → Int32} {r : Nat → Nat} (hn : n ≤ 5) (hr : ∀ j, j < n → f2 j = nI (r j)) : ∀ (m fu j : Nat), j + m = n → m < fu → (ql_X9_count1 n f2 fu j (nI (fb_sm r j))).2 = nI (fb_sm r n)
  | m, 0, j, _, hfu => absurd hfu (Nat.not_lt_zero _)
  | 0, fu + 1, j, h, hfu => by
    rw [ql_X9_count1, if_pos (nI_le (by omega) (by omega)), show j = n by omega]
  | m + 1, fu + 1, j, h, hfu => by
    rw [ql_X9_count1, if_neg (nI_ge (by omega) (by omega)), nI_clamp (show j < 2 ^ 31 by omega), hr j (by omega), nI_add, ← fb_sm_succ]
    exact count1_m hn hr m fu (j + 1) (by omega) (by omega)
theorem count2_m {pn : Nat} {f5 : Nat → Int32} {r : Nat → Nat} (hn : pn ≤ 8) (hr : ∀ j, j < pn → f5 (3 * j + 2) = nI (r j)) : ∀ (m fu j : Nat), j + m = pn → m < fu → (ql_X9_count2 pn f5 fu j (nI (fb_sm r j))).2 = nI (fb_sm r pn)
  | m, 0, j, _, hfu => absurd hfu (Nat.not_lt_zero _)
  | 0, fu + 1, j, h, hfu => by
    rw [ql_X9_count2, if_pos (nI_le (by omega) (by omega)), show j = pn by omega]
  | m + 1, fu + 1, j, h, hfu => by
    rw [ql_X9_count2, if_neg (nI_ge (by omega) (by omega)), nI_clamp (show 3 * j + 2 < 2 ^ 31 by omega), hr j (by omega), nI_add, ← fb_sm_succ]
    exact count2_m hn hr m fu (j + 1) (by omega) (by omega)
def spEnds (L : spL) : Nat := fb_sm (fun j => (L.2.2.2 j).toNat) L.1
theorem ends_c2 {L : spL} {pn : Nat} {pe : Int32} {pf pg : Nat → Int32} (hL : zPr L pn pe pf pg) (h8 : pn ≤ 8) : q_J6_bitCount_0f7a4_r pe = nI (spEnds L) := by
  rw [bc_all]
  congr 1
  have e1 : ∀ i, i < 32 → btN pe i = (fun i => if i < pn then (L.2.2.2 i).toNat else 0) i := fun i hi => by
    show (bt pe i).toNat = if i < pn then (L.2.2.2 i).toNat else 0
    rw [hL.2.2 i hi]
    by_cases h : i < pn
    · rw [if_pos h, decide_eq_true h, Bool.true_and]
    · rw [if_neg h, decide_eq_false h, Bool.false_and]; rfl
  obtain ⟨d, hd⟩ : ∃ d, 32 = pn + d := ⟨32 - pn, by omega⟩
  rw [fb_sm_cong e1, hd, fb_sm_cut (fun i hi => if_neg (Nat.not_lt.mpr hi)) d]
  unfold spEnds
  rw [← hL.1]
  exact fb_sm_cong (fun i hi => if_pos hi)
def spCountA (st : spT) (a : Int32) : Int32 := if a = 0 then nI st.1.1 else if a = 1 then nI (fb_sm st.1.2.2.1 st.1.1) else if a = 2 then nI (spAsked st.1) else if a = 3 then nI st.2.1.1 else if a = 4 then nI (spEnds st.2.1) else -1
theorem count_c {st : spT} {tn N n pn : Nat} {kn ak pe a : Int32} {ff fg pf pg : Nat → Int32} (hF : zFr st.1 n kn ak ff fg) (hL : zPr st.2.1 pn pe pf pg) (hok : zIv st tn N) : q_X8_count_r n ak fg pn pe a = spCountA st a := by
  have h8 := hok.2.1.1
  have e8 := hL.1
  unfold q_X8_count_r spCountA
  rw [sum_c n hF.2.2.1, asked_c hF hok.1, ends_c2 hL (by omega), ← hF.1, ← hL.1]
theorem count_m {st : spT} {tn N n pn : Nat} {a : Int32} {f1 f2 f3 f4 f5 : Nat → Int32} (hF : zFm st.1 n f1 f2 f3 f4) (hL : zPm st.2.1 pn f5) (hok : zIv st tn N) : q_X9_count_r n pn f2 f4 f5 a = spCountA st a := by
  have h8 := hok.2.1.1
  have h5 := hok.1.1
  have e5 := hF.1
  have e8 := hL.1
  have h1 := count1_m (n := n) (f2 := f2) (r := st.1.2.2.1) (by omega) (fun j hj => (hF.2 j hj).2.1) n (n + 1) 0 (by omega) (by omega)
  have h2 := count2_m (pn := pn) (f5 := f5) (r := fun j => (st.2.1.2.2.2 j).toNat) (by omega) (fun j hj => by rw [(hL.2 j hj).2.2]; cases st.2.1.2.2.2 j <;> rfl) pn (pn + 1) 0 (by omega) (by omega)
  unfold q_X9_count_r spCountA spEnds
  rw [asked_m hF hok.1, show ql_X9_count1 n f2 (n + 1) 0 0 = ql_X9_count1 n f2 (n + 1) 0 (nI (fb_sm st.1.2.2.1 0)) from rfl, show ql_X9_count2 pn f5 (pn + 1) 0 0 = ql_X9_count2 pn f5 (pn + 1) 0 (nI (fb_sm (fun j => (st.2.1.2.2.2 j).toNat) 0)) from rfl, h1, h2, ← hF.1, ← hL.1]
