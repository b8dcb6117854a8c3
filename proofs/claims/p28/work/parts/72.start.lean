/-! THE CLAIM OUT OF ONE WALK OF THE LAW'S BODY. Your part is whole_start (and what it stands on); all else here is the same for every law, but numbers. -/
def R_law : String := "HalfAskedLaw"
def lw_P (b : Addr) (xs : List Int32) (args : Array Value) (s : State) : Prop := args = #[.ref b] ∧ s.IntsAt b xs ∧ xs.length ≤ 3072 ∧ (Jvm.Cond.and given_1 narrow_1).before args s = true
def lw_Q (_ : Array Value) (s : State) (o : Outcome) (t : State) : Prop := o = .returned (some (.int 1)) ∧ Framed s o t [] 600000 7302250
def lw_Z (below : List Frame) (a : Array Value) (s : State) : State → Prop := fun t => ∃ o, t.status = .running ∧ Ended t below o ∧ lw_Q a s o t
/-- the law's own end, with 1 on the stack, nothing written that was there before, its room as the claim has it -/
theorem lw_ret {p : Program} {l : Launch} {e : Env} {s : State} {m : MethodId} {below : List Frame} {meth : Method} {c : Code} {b : Nat} (hx : p.tables.exec = Jvm.exec) (hb : c.code = code) (hr : meth.sig.returnType = ret) (hlocks : meth.locks = false) {pc : Nat} {H : Heap} {ls : Array Slot} (hdg : decode code pc = .ok (.ireturn, 1)) : W p l e room_1 s m #[Value.ref b] below meth c H [] 600000 7302250 (lw_Z below #[Value.ref b] s) (F0 m pc ls [.int 1]) := by
  intro T hT X
  obtain ⟨fs, hret, hrun, hended, hW, hframe⟩ := X.leave (v := some (.int 1)) (hlocks := hlocks) (fun h => by rw [hr] at h; cases h)
  have hmeth' : T.vm.method? m = some meth := X.method'
  refine ⟨T.setFrames fs, ?_, .returned (some (.int 1)), hrun, hended, rfl, ⟨_, rfl⟩, hW, hframe⟩
  jvm_step X.here [X.here.top, hx, hb, hdg, hmeth', hr, ret, narrow_b1]
  (try refine ⟨rfl, ?_⟩); (try refine ⟨rfl, ?_⟩)
  first | (intro acts; rw [hret _ acts rfl rfl rfl]) | rw [hret _ _ rfl rfl rfl]
  exact Steps.refl _
/-- what holds at the law's entry: the machine, the code, the tables' words (any of lw_tbl by 'hts w (by decide +kernel)'), the script of L ints xs at the cell b, what the Statement gives of the start (any of its parts by flat_of_before) -/
def lw_At (p : Program) (s : State) (m : MethodId) (meth : Method) (c : Code) (b L : Nat) (xs : Nat → Int32) : Prop :=
  p.tables.exec = Jvm.exec ∧ c.code = code ∧ meth.sig.returnType = ret ∧ c.maxLocals = 4 ∧ s.vm.findClass R_law = some m.cls ∧ (∀ w ∈ lw_tbl, w.before #[Value.ref b] s = true) ∧ va_X b L xs s s.heap ∧ b < s.heap.size ∧ meth.locks = false ∧ (Jvm.Cond.and given_1 narrow_1).before #[Value.ref b] s = true

set_option maxRecDepth 100000 in
set_option maxHeartbeats 4000000 in
theorem z_start {s : State} {b : Nat} (hts : ∀ w ∈ lw_tbl, w.before #[Value.ref b] s = true) (hgv : (Jvm.Cond.and given_1 narrow_1).before #[Value.ref b] s = true) : ∃ (Z : gZ) (kA vA : Nat), va_K Z.1 vwCl (gT Z) s ∧ gN Z s ∧ gS kA vA (fun q : Nat => s.heap.size ≤ q) s := by
  obtain ⟨c0, i0, h0⟩ := u_known (C := RX0) (T := TX0) (N := 5) (n := 5) hts inX0 (hts (.instantiable RX0 5) (List.mem_append_right _ (List.mem_of_getElem? (i := 28) (by decide +kernel))))
  obtain ⟨c1, i1, h1⟩ := u_known (C := RX1) (T := TX1) (N := 8) (n := 8) hts inX1 (hts (.instantiable RX1 8) (List.mem_append_right _ (List.mem_of_getElem? (i := 175) (by decide +kernel))))
  obtain ⟨c2, i2, h2⟩ := u_known (C := RX2) (T := TX2) (N := 4) (n := 4) hts inX2 (hts (.instantiable RX2 4) (List.mem_append_right _ (List.mem_of_getElem? (i := 68) (by decide +kernel))))
  obtain ⟨c3, i3, h3⟩ := u_known (C := RX3) (T := TX3) (N := 6) (n := 6) hts inX3 (hts (.instantiable RX3 6) (List.mem_append_right _ (List.mem_of_getElem? (i := 212) (by decide +kernel))))
  obtain ⟨c4, i4, h4⟩ := u_known (C := RX4) (T := TX4) (N := 2) (n := 2) hts inX4 (hts (.instantiable RX4 2) (List.mem_append_right _ (List.mem_of_getElem? (i := 721) (by decide +kernel))))
  obtain ⟨c5, i5, h5⟩ := u_known (C := RX5) (T := TX5) (N := 3) (n := 3) hts inX5 (hts (.instantiable RX5 3) (List.mem_append_right _ (List.mem_of_getElem? (i := 99) (by decide +kernel))))
  obtain ⟨c6, i6, h6⟩ := u_known (C := RX6) (T := TX6) (N := 5) (n := 5) hts inX6 (hts (.instantiable RX6 5) (List.mem_append_right _ (List.mem_of_getElem? (i := 119) (by decide +kernel))))
  obtain ⟨c7, i7, h7⟩ := u_known (C := RX7) (T := TX7) (N := 3) (n := 3) hts inX7 (hts (.instantiable RX7 3) (List.mem_append_right _ (List.mem_of_getElem? (i := 154) (by decide +kernel))))
  obtain ⟨c8, i8, h8⟩ := u_known (C := RX8) (T := TX8) (N := 17) (n := 17) hts inX8 (hts (.instantiable RX8 17) (List.mem_append_right _ (List.mem_of_getElem? (i := 20) (by decide +kernel))))
  obtain ⟨c9, i9, h9⟩ := u_known (C := RX9) (T := TX9) (N := 31) (n := 31) hts inX9 (hts (.instantiable RX9 31) (List.mem_append_right _ (List.mem_of_getElem? (i := 761) (by decide +kernel))))
  obtain ⟨a0, ka0, co0, fa0, ga0, ta0⟩ := Cond.arrayClass_spec (hts (.arrayClass .int) (List.mem_append_right _ (List.mem_of_getElem? (i := 66) (by decide +kernel))))
  obtain ⟨a1, ka1, co1, fa1, ga1, ta1⟩ := Cond.arrayClass_spec (hts (.arrayClass .char) (List.mem_append_right _ (List.mem_of_getElem? (i := 115) (by decide +kernel))))
  obtain ⟨a2, ka2, co2, fa2, ga2, ta2⟩ := Cond.arrayClass_spec (hts (.arrayClass .long) (List.mem_append_right _ (List.mem_of_getElem? (i := 152) (by decide +kernel))))
  obtain ⟨co3, a3, ka3, fc3, fi3, ga3, ta3, fa3⟩ := Cond.arrayOver_spec (hts (.arrayOver (.object "HalfAsked$Folk")) (List.mem_append_right _ (List.mem_of_getElem? (i := 133) (by decide +kernel))))
  obtain ⟨co4, a4, ka4, fc4, fi4, ga4, ta4, fa4⟩ := Cond.arrayOver_spec (hts (.arrayOver (.object "HalfAsked$Sheet")) (List.mem_append_right _ (List.mem_of_getElem? (i := 117) (by decide +kernel))))
  obtain ⟨co5, a5, ka5, fc5, fi5, ga5, ta5, fa5⟩ := arrayOver_specB (hts (.arrayOver (.array .int)) (List.mem_append_right _ (List.mem_of_getElem? (i := 160) (by decide +kernel))))
  have hs := flat_of_before _ hgv
  have hA : ∀ a : Nat, a < s.heap.size → ¬ (fun q : Nat => s.heap.size ≤ q) a := fun a h => Nat.not_le.mpr h
  obtain ⟨adK, adV, hS, hev⟩ := vk_Sof (args := #[Value.ref b]) (s := s) (N := 1) (tm := fun _ => Term.string "HalfAsked$Tape" 33) (len := [4]) (byt := [[102, 99, 116, 119]]) (A := fun q : Nat => s.heap.size ≤ q) (fun i hi => by rcases (show i = 0 by omega) with rfl; decide) (fun i hi => hs _ (by decide +kernel)) (fun i hi => hs _ (by decide +kernel)) (fun i hi => hs _ (by decide +kernel)) (fun i hi => by rcases (show i = 0 by omega) with rfl; exact hs _ (by decide +kernel)) (fun i hi j hj => by rcases (show i = 0 by omega) with rfl; rcases (show j = 0 ∨ j = 1 ∨ j = 2 ∨ j = 3 by have h9 : j < 4 := hj; omega) with rfl | rfl | rfl | rfl <;> exact hs _ (by decide +kernel)) (fun i j hi hj h => absurd (by omega) h) hA
  have hZ := va_Zof (args := #[Value.ref b]) (s := s) (C := "java/lang/String") (n := "COMPACT_STRINGS") (d := "Z") (v := .int 1) (A := fun q : Nat => s.heap.size ≤ q) (hts (.laysStatic "java/lang/String" "COMPACT_STRINGS" "Z") (List.mem_append_right _ (List.mem_of_getElem? (i := 410) (by decide +kernel)))) (hts (.initialized "java/lang/String") (List.mem_append_right _ (List.mem_of_getElem? (i := 12) (by decide +kernel)))) (va_eqi (hs _ (by decide +kernel))) hA
  obtain ⟨o1, o2, o3, o4⟩ := hS.1 0 (by decide)
  refine ⟨((fun k => match k with | 0 => c0 | 1 => c1 | 2 => c2 | 3 => c3 | 4 => c4 | 5 => c5 | 6 => c6 | 7 => c7 | 8 => c8 | _ => c9, fun k => match k with | 0 => i0 | 1 => i1 | 2 => i2 | 3 => i3 | 4 => i4 | 5 => i5 | 6 => i6 | 7 => i7 | 8 => i8 | _ => i9), fun k => match k with | 0 => a0 | 1 => a1 | 2 => a2 | 3 => a3 | 4 => a4 | _ => a5), adK 0, adV 0, ⟨fun k q hq => ?_, fun k q hq => ?_⟩, ?_, hZ, o1, o2, o3, o4, vk_R.of (A := #[Value.ref b]) (hts (.stringRef "HalfAsked$Tape" 33 "fctw") (List.mem_append_right _ (List.mem_of_getElem? (i := 388) (by decide +kernel)))) (hev 0 (by decide))⟩
  · match k, hq with
    | 0, hq => cases hq; exact h0
    | 1, hq => cases hq; exact h1
    | 2, hq => cases hq; exact h2
    | 3, hq => cases hq; exact h3
    | 4, hq => cases hq; exact h4
    | 5, hq => cases hq; exact h5
    | 6, hq => cases hq; exact h6
    | 7, hq => cases hq; exact h7
    | 8, hq => cases hq; exact h8
    | 9, hq => cases hq; exact h9
    | k + 10, hq => simp [vwCl] at hq
  · match k, hq with
    | 0, hq => cases hq; exact ⟨fun n z => ⟨fun k h => (by cases h), ka0, ga0, co0, ta0⟩, fa0⟩
    | 1, hq => cases hq; exact ⟨fun n z => ⟨fun k h => (by cases h), ka1, ga1, co1, ta1⟩, fa1⟩
    | 2, hq => cases hq; exact ⟨fun n z => ⟨fun k h => (by cases h), ka2, ga2, co2, ta2⟩, fa2⟩
    | 3, hq => cases hq; exact ⟨fun n z => ⟨fun k h => (by cases h), ka3, ga3, co3, ta3⟩, ⟨ka3, co3, ga3, ta3, fc3, fa3⟩⟩
    | 4, hq => cases hq; exact ⟨fun n z => ⟨fun k h => (by cases h), ka4, ga4, co4, ta4⟩, ⟨ka4, co4, ga4, ta4, fc4, fa4⟩⟩
    | 5, hq => cases hq; exact ⟨fun n z => ⟨fun k h => (by cases h), ka5, ga5, co5, ta5⟩, fa5⟩
    | k + 6, hq => simp [gT] at hq
  · exact ⟨va_Nw.of rfl (hts (.methodLinkNest RX8 9 yX0_init "HalfAsked") (List.mem_append_right _ (List.mem_of_getElem? (i := 29) (by decide +kernel)))), va_Nw.of rfl (hts (.methodLinkNest RX8 18 yX2_init "HalfAsked") (List.mem_append_right _ (List.mem_of_getElem? (i := 69) (by decide +kernel)))), va_Nw.of rfl (hts (.methodLinkNest RX8 25 yX5_init "HalfAsked") (List.mem_append_right _ (List.mem_of_getElem? (i := 100) (by decide +kernel)))), va_Nw.of rfl (hts (.methodLinkNest RX8 58 yX6_init "HalfAsked") (List.mem_append_right _ (List.mem_of_getElem? (i := 120) (by decide +kernel)))), va_Nw.of rfl (hts (.methodLinkNest RX8 65 yX7_init "HalfAsked") (List.mem_append_right _ (List.mem_of_getElem? (i := 155) (by decide +kernel)))), va_Nw.of rfl (hts (.methodLinkNest RX8 72 yX1_init "HalfAsked") (List.mem_append_right _ (List.mem_of_getElem? (i := 176) (by decide +kernel)))), va_Nw.of rfl (hts (.methodLinkNest RX8 79 yX3_init "HalfAsked") (List.mem_append_right _ (List.mem_of_getElem? (i := 213) (by decide +kernel)))), va_Nw.of rfl (hts (.methodLinkNest RX1 33 yX2_init "HalfAsked") (List.mem_append_right _ (List.mem_of_getElem? (i := 181) (by decide +kernel)))), va_Nw.of rfl (hts (.methodLinkNest RX6 23 yX2_init "HalfAsked") (List.mem_append_right _ (List.mem_of_getElem? (i := 125) (by decide +kernel)))), va_AO.of (hts (.arrayOver (.object "HalfAsked$Folk")) (List.mem_append_right _ (List.mem_of_getElem? (i := 133) (by decide +kernel)))), va_AO.of (hts (.arrayOver (.object "HalfAsked$Sheet")) (List.mem_append_right _ (List.mem_of_getElem? (i := 117) (by decide +kernel)))), va_AOA.of (hts (.arrayOver (.array .int)) (List.mem_append_right _ (List.mem_of_getElem? (i := 160) (by decide +kernel))))⟩
set_option maxRecDepth 100000 in
set_option maxHeartbeats 4000000 in
theorem z_startW {s : State} {b : Nat} (hts : ∀ w ∈ lw_tbl, w.before #[Value.ref b] s = true) (hgv : (Jvm.Cond.and given_1 narrow_1).before #[Value.ref b] s = true) : ∃ wA : Nat, gW wA (fun q : Nat => s.heap.size ≤ q) s := by
  have hs := flat_of_before _ hgv
  have hA : ∀ a : Nat, a < s.heap.size → ¬ (fun q : Nat => s.heap.size ≤ q) a := fun a h => Nat.not_le.mpr h
  obtain ⟨wA, hev, hT⟩ := va_Tof (args := #[Value.ref b]) (s := s) (tm := Term.static "HalfAsked$Timing" "WEIGHT" "[I") (ty := .int) (N := 5) (f := (fun j => .int (([10000, 1000, 100, 10, 1] : List Int32).getD j 0))) (A := fun q : Nat => s.heap.size ≤ q) (by decide) (hs _ (by decide +kernel)) (va_eqt (hs _ (by decide +kernel))) (fun j hj => by rcases (show j = 0 ∨ j = 1 ∨ j = 2 ∨ j = 3 ∨ j = 4 by omega) with rfl | rfl | rfl | rfl | rfl <;> exact va_eqt (hs _ (by decide +kernel))) hA
  exact ⟨wA, va_Zof (hts (.laysStatic "HalfAsked$Timing" "WEIGHT" "[I") (List.mem_append_right _ (List.mem_of_getElem? (i := 570) (by decide +kernel)))) (hts (.initialized "HalfAsked$Timing") (List.mem_append_right _ (List.mem_of_getElem? (i := 5) (by decide +kernel)))) hev hA, hT⟩
