/-! what is the same for every contract: the classes' numbers (Z.1), the array classes (Z.2), the nest's words (gN) -/
abbrev gZ : Type := va_G × (Nat → ClassId)
abbrev gT (Z : gZ) : List (ClassId × FieldType) := [(Z.2 0, .int), (Z.2 1, .char), (Z.2 2, .long), (Z.2 3, .object "HalfAsked$Folk"), (Z.2 4, .object "HalfAsked$Sheet"), (Z.2 5, .array .int)]
theorem z_AOA {t : FieldType} {u U : State} (hvm : u.vm.Alike U.vm) (h : va_AOA t u) : va_AOA t U := arrayOver_alikeB hvm h
def gN (_ : gZ) (U : State) : Prop := va_Nw (.methodLinkNest RX8 9 yX0_init "HalfAsked") U ∧ va_Nw (.methodLinkNest RX8 18 yX2_init "HalfAsked") U ∧ va_Nw (.methodLinkNest RX8 25 yX5_init "HalfAsked") U ∧ va_Nw (.methodLinkNest RX8 58 yX6_init "HalfAsked") U ∧ va_Nw (.methodLinkNest RX8 65 yX7_init "HalfAsked") U ∧ va_Nw (.methodLinkNest RX8 72 yX1_init "HalfAsked") U ∧ va_Nw (.methodLinkNest RX8 79 yX3_init "HalfAsked") U ∧ va_Nw (.methodLinkNest RX1 33 yX2_init "HalfAsked") U ∧ va_Nw (.methodLinkNest RX6 23 yX2_init "HalfAsked") U ∧ va_AO "HalfAsked$Folk" U ∧ va_AO "HalfAsked$Sheet" U ∧ va_AOA .int U
theorem z_N {Z : gZ} {s U : State} (hW : s.WarmedH U.vm) (h : gN Z s) : gN Z U := by
  obtain ⟨h1, h2, h3, h4, h5, h6, h7, h8, h9, h10, h11, h12⟩ := h
  exact ⟨h1.warmM hW, h2.warmM hW, h3.warmM hW, h4.warmM hW, h5.warmM hW, h6.warmM hW, h7.warmM hW, h8.warmM hW, h9.warmM hW, h10.moved hW.alike, h11.moved hW.alike, z_AOA hW.alike h12⟩
theorem z_Nc {Z : gZ} {u U : State} (e : u.vm = U.vm) (h : gN Z u) : gN Z U := by
  obtain ⟨h1, h2, h3, h4, h5, h6, h7, h8, h9, h10, h11, h12⟩ := h
  have ha : u.vm.Alike U.vm := e ▸ Vm.Alike.refl u.vm
  exact ⟨h1.same rfl e, h2.same rfl e, h3.same rfl e, h4.same rfl e, h5.same rfl e, h6.same rfl e, h7.same rfl e, h8.same rfl e, h9.same rfl e, h10.moved ha, h11.moved ha, z_AOA ha h12⟩
theorem z_nest_X8_9 {Z : gZ} {s : State} (h : gN Z s) : va_Nw (.methodLinkNest RX8 9 yX0_init "HalfAsked") s := h.1
theorem z_nest_X8_18 {Z : gZ} {s : State} (h : gN Z s) : va_Nw (.methodLinkNest RX8 18 yX2_init "HalfAsked") s := h.2.1
theorem z_nest_X8_25 {Z : gZ} {s : State} (h : gN Z s) : va_Nw (.methodLinkNest RX8 25 yX5_init "HalfAsked") s := h.2.2.1
theorem z_nest_X8_58 {Z : gZ} {s : State} (h : gN Z s) : va_Nw (.methodLinkNest RX8 58 yX6_init "HalfAsked") s := h.2.2.2.1
theorem z_nest_X8_65 {Z : gZ} {s : State} (h : gN Z s) : va_Nw (.methodLinkNest RX8 65 yX7_init "HalfAsked") s := h.2.2.2.2.1
theorem z_nest_X8_72 {Z : gZ} {s : State} (h : gN Z s) : va_Nw (.methodLinkNest RX8 72 yX1_init "HalfAsked") s := h.2.2.2.2.2.1
theorem z_nest_X8_79 {Z : gZ} {s : State} (h : gN Z s) : va_Nw (.methodLinkNest RX8 79 yX3_init "HalfAsked") s := h.2.2.2.2.2.2.1
theorem z_nest_X1_33 {Z : gZ} {s : State} (h : gN Z s) : va_Nw (.methodLinkNest RX1 33 yX2_init "HalfAsked") s := h.2.2.2.2.2.2.2.1
theorem z_nest_X6_23 {Z : gZ} {s : State} (h : gN Z s) : va_Nw (.methodLinkNest RX6 23 yX2_init "HalfAsked") s := h.2.2.2.2.2.2.2.2.1
theorem z_AOF {Z : gZ} {s : State} (h : gN Z s) : va_AO "HalfAsked$Folk" s := h.2.2.2.2.2.2.2.2.2.1
theorem z_AOS {Z : gZ} {s : State} (h : gN Z s) : va_AO "HalfAsked$Sheet" s := h.2.2.2.2.2.2.2.2.2.2.1
theorem z_AOI {Z : gZ} {s : State} (h : gN Z s) : va_AOA .int s := h.2.2.2.2.2.2.2.2.2.2.2
theorem z_in {i : Int32} {n : Nat} (h : 0 ≤ i.toInt ∧ i.toInt < n) : vp_in i n := vp_in_iff.mpr h
theorem z_out5 {x : Int32} (h0 : ¬ x = 0) (h1 : ¬ x = 1) (h2 : ¬ x = 2) (h3 : ¬ x = 3) (h4 : ¬ x = 4) : x.toInt < 0 ∨ 4 < x.toInt := by
  have a0 : ¬ x.toInt = 0 := fun e => h0 (Int32.toInt_inj.mp (e.trans (by decide)))
  have a1 : ¬ x.toInt = 1 := fun e => h1 (Int32.toInt_inj.mp (e.trans (by decide)))
  have a2 : ¬ x.toInt = 2 := fun e => h2 (Int32.toInt_inj.mp (e.trans (by decide)))
  have a3 : ¬ x.toInt = 3 := fun e => h3 (Int32.toInt_inj.mp (e.trans (by decide)))
  have a4 : ¬ x.toInt = 4 := fun e => h4 (Int32.toInt_inj.mp (e.trans (by decide)))
  omega
theorem z_P0 {D : va_G} {cl : List vw_C} {X Y : va_W} {H : Heap} (h : va_P D cl (X ++ Y) H) : va_P D cl X H := fun k q hk => h k q (by rw [List.getElem?_append_left (List.getElem?_eq_some_iff.mp hk).1]; exact hk)
theorem z_D0 {A : Nat → Prop} {X Y : va_W} (h : va_D A (X ++ Y)) : va_D A X := ⟨fun i j p q hi hj e => h.1 i j p q (by rw [List.getElem?_append_left (List.getElem?_eq_some_iff.mp hi).1]; exact hi) (by rw [List.getElem?_append_left (List.getElem?_eq_some_iff.mp hj).1]; exact hj) e, fun k q hk => h.2 k q (by rw [List.getElem?_append_left (List.getElem?_eq_some_iff.mp hk).1]; exact hk)⟩
section ZNA
variable {p : Program} {l : Launch} {e : Env} {R : Room} {s : State} {m : MethodId} {args : Array Value} {below : List Frame} {meth : Method} {c : Code} {H : Heap} {locs : List Loc} {cells slots : Nat} {Q : State → Prop}
variable {cc : ByteArray} {pc : Nat} {ls : Array Slot} {rest : List Value} {D : va_G} {cl : List vw_C} {A : Nat → Prop} {ws : va_W} {H0 : Heap} {Z : gZ}
theorem z_newint (hexec : p.tables.exec = Jvm.exec) (hb : c.code = cc) (harr : (Cond.arrayClass .int).before args s = true) (hK : va_K D cl (gT Z) s) (hP : va_P D cl ws H) (hD : va_D A ws) (hS : va_S A H0 H locs) (hA : ∀ q, H0.size ≤ q → A q)
    {n : Int32} {N' : Nat} (hn : ¬ n < 0) (hN : n.toNatClampNeg = N') (hbytes : N' * 4 ≤ 536870912) (hcells : cells + 1 ≤ R.cells) (hslots : slots + N' ≤ R.slots) (hdg : decode cc pc = .ok (.newarray .int, 2))
    (kk : ∀ (q : Nat) (H1 : Heap), va_P D cl (ws ++ [(q, .inl (Z.2 0, N', .inl (fun _ => 0)))]) H1 → va_D A (ws ++ [(q, .inl (Z.2 0, N', .inl (fun _ => 0)))]) → va_S A H0 H1 locs → W p l e R s m args below meth c H1 locs (cells + 1) (slots + N') Q (F0 m (pc + 2) ls (.ref q :: rest))) : W p l e R s m args below meth c H locs cells slots Q (F0 m pc ls (.int n :: rest)) := by
  refine va_newa (atype := .int) (ty := .int) (a0 := (N', .inl (fun _ => 0))) hexec hb harr rfl hK hP hD hS hA (fun _ => rfl) hn hN hbytes hcells hslots hdg (fun q cA H1 hK1 hP1 hD1 hS1 => ?_)
  have e1 : s.vm.findClass ("[" ++ FieldType.int.toString) = some cA := (hK1.2 6 _ rfl).2
  have e2 : s.vm.findClass ("[" ++ FieldType.int.toString) = some (Z.2 0) := (hK.2 0 _ rfl).2
  have e3 : cA = Z.2 0 := Option.some.inj (e1.symm.trans e2)
  subst e3
  exact kk q H1 hP1 hD1 hS1
theorem z_newchar (hexec : p.tables.exec = Jvm.exec) (hb : c.code = cc) (harr : (Cond.arrayClass .char).before args s = true) (hK : va_K D cl (gT Z) s) (hP : va_P D cl ws H) (hD : va_D A ws) (hS : va_S A H0 H locs) (hA : ∀ q, H0.size ≤ q → A q)
    {n : Int32} {N' : Nat} (hn : ¬ n < 0) (hN : n.toNatClampNeg = N') (hbytes : N' * 2 ≤ 536870912) (hcells : cells + 1 ≤ R.cells) (hslots : slots + N' ≤ R.slots) (hdg : decode cc pc = .ok (.newarray .char, 2))
    (kk : ∀ (q : Nat) (H1 : Heap), va_P D cl (ws ++ [(q, .inl (Z.2 1, N', .inl (fun _ => 0)))]) H1 → va_D A (ws ++ [(q, .inl (Z.2 1, N', .inl (fun _ => 0)))]) → va_S A H0 H1 locs → W p l e R s m args below meth c H1 locs (cells + 1) (slots + N') Q (F0 m (pc + 2) ls (.ref q :: rest))) : W p l e R s m args below meth c H locs cells slots Q (F0 m pc ls (.int n :: rest)) := by
  refine va_newa (atype := .char) (ty := .char) (a0 := (N', .inl (fun _ => 0))) hexec hb harr rfl hK hP hD hS hA (fun _ => rfl) hn hN hbytes hcells hslots hdg (fun q cA H1 hK1 hP1 hD1 hS1 => ?_)
  have e1 : s.vm.findClass ("[" ++ FieldType.char.toString) = some cA := (hK1.2 6 _ rfl).2
  have e2 : s.vm.findClass ("[" ++ FieldType.char.toString) = some (Z.2 1) := (hK.2 1 _ rfl).2
  have e3 : cA = Z.2 1 := Option.some.inj (e1.symm.trans e2)
  subst e3
  exact kk q H1 hP1 hD1 hS1
theorem z_newlong (hexec : p.tables.exec = Jvm.exec) (hb : c.code = cc) (harr : (Cond.arrayClass .long).before args s = true) (hK : va_K D cl (gT Z) s) (hP : va_P D cl ws H) (hD : va_D A ws) (hS : va_S A H0 H locs) (hA : ∀ q, H0.size ≤ q → A q)
    {n : Int32} {N' : Nat} (hn : ¬ n < 0) (hN : n.toNatClampNeg = N') (hbytes : N' * 8 ≤ 536870912) (hcells : cells + 1 ≤ R.cells) (hslots : slots + N' ≤ R.slots) (hdg : decode cc pc = .ok (.newarray .long, 2))
    (kk : ∀ (q : Nat) (H1 : Heap), va_P D cl (ws ++ [(q, .inl (Z.2 2, N', .inr (.inl (fun _ => 0))))]) H1 → va_D A (ws ++ [(q, .inl (Z.2 2, N', .inr (.inl (fun _ => 0))))]) → va_S A H0 H1 locs → W p l e R s m args below meth c H1 locs (cells + 1) (slots + N') Q (F0 m (pc + 2) ls (.ref q :: rest))) : W p l e R s m args below meth c H locs cells slots Q (F0 m pc ls (.int n :: rest)) := by
  refine va_newa (atype := .long) (ty := .long) (a0 := (N', .inr (.inl (fun _ => 0)))) hexec hb harr rfl hK hP hD hS hA (fun _ => rfl) hn hN hbytes hcells hslots hdg (fun q cA H1 hK1 hP1 hD1 hS1 => ?_)
  have e1 : s.vm.findClass ("[" ++ FieldType.long.toString) = some cA := (hK1.2 6 _ rfl).2
  have e2 : s.vm.findClass ("[" ++ FieldType.long.toString) = some (Z.2 2) := (hK.2 2 _ rfl).2
  have e3 : cA = Z.2 2 := Option.some.inj (e1.symm.trans e2)
  subst e3
  exact kk q H1 hP1 hD1 hS1
theorem z_newFolk (hexec : p.tables.exec = Jvm.exec) (hb : c.code = cc) {own : String} {index : Nat} (hown : s.vm.findClass own = some m.cls) (hclink : (Cond.classLink own index "HalfAsked$Folk").before args s = true) (hN0 : gN Z s) (hK : va_K D cl (gT Z) s) (hP : va_P D cl ws H) (hD : va_D A ws) (hS : va_S A H0 H locs) (hA : ∀ q, H0.size ≤ q → A q)
    {n : Int32} {N' : Nat} (hn : ¬ n < 0) (hN : n.toNatClampNeg = N') (hbytes : N' * 4 ≤ 536870912) (hcells : cells + 1 ≤ R.cells) (hslots : slots + N' ≤ R.slots) (hdg : decode cc pc = .ok (.anewarray index, 3))
    (kk : ∀ (q : Nat) (H1 : Heap), va_P D cl (ws ++ [(q, .inl (Z.2 3, N', .inr (.inr (.inr (.inr (fun _ => none))))))]) H1 → va_D A (ws ++ [(q, .inl (Z.2 3, N', .inr (.inr (.inr (.inr (fun _ => none))))))]) → va_S A H0 H1 locs → W p l e R s m args below meth c H1 locs (cells + 1) (slots + N') Q (F0 m (pc + 3) ls (.ref q :: rest))) : W p l e R s m args below meth c H locs cells slots Q (F0 m pc ls (.int n :: rest)) := by
  refine va_newq hexec hb hown hclink (z_AOF hN0) hK hP hD hS hA hn hN hbytes hcells hslots hdg (fun q cA H1 hK1 hP1 hD1 hS1 => ?_)
  obtain ⟨-, -, -, -, -, e1⟩ := (hK1.2 6 _ rfl).2
  obtain ⟨-, -, -, -, -, e2⟩ := (hK.2 3 _ rfl).2
  have e3 : cA = Z.2 3 := Option.some.inj (e1.symm.trans e2)
  subst e3
  exact kk q H1 hP1 hD1 hS1
theorem z_newSheet (hexec : p.tables.exec = Jvm.exec) (hb : c.code = cc) {own : String} {index : Nat} (hown : s.vm.findClass own = some m.cls) (hclink : (Cond.classLink own index "HalfAsked$Sheet").before args s = true) (hN0 : gN Z s) (hK : va_K D cl (gT Z) s) (hP : va_P D cl ws H) (hD : va_D A ws) (hS : va_S A H0 H locs) (hA : ∀ q, H0.size ≤ q → A q)
    {n : Int32} {N' : Nat} (hn : ¬ n < 0) (hN : n.toNatClampNeg = N') (hbytes : N' * 4 ≤ 536870912) (hcells : cells + 1 ≤ R.cells) (hslots : slots + N' ≤ R.slots) (hdg : decode cc pc = .ok (.anewarray index, 3))
    (kk : ∀ (q : Nat) (H1 : Heap), va_P D cl (ws ++ [(q, .inl (Z.2 4, N', .inr (.inr (.inr (.inr (fun _ => none))))))]) H1 → va_D A (ws ++ [(q, .inl (Z.2 4, N', .inr (.inr (.inr (.inr (fun _ => none))))))]) → va_S A H0 H1 locs → W p l e R s m args below meth c H1 locs (cells + 1) (slots + N') Q (F0 m (pc + 3) ls (.ref q :: rest))) : W p l e R s m args below meth c H locs cells slots Q (F0 m pc ls (.int n :: rest)) := by
  refine va_newq hexec hb hown hclink (z_AOS hN0) hK hP hD hS hA hn hN hbytes hcells hslots hdg (fun q cA H1 hK1 hP1 hD1 hS1 => ?_)
  obtain ⟨-, -, -, -, -, e1⟩ := (hK1.2 6 _ rfl).2
  obtain ⟨-, -, -, -, -, e2⟩ := (hK.2 4 _ rfl).2
  have e3 : cA = Z.2 4 := Option.some.inj (e1.symm.trans e2)
  subst e3
  exact kk q H1 hP1 hD1 hS1
/-- new int[n][k]: of the rows nothing is kept -/
theorem z_newII (hexec : p.tables.exec = Jvm.exec) (hb : c.code = cc) {own : String} {index : Nat} (hown : s.vm.findClass own = some m.cls) (hclink : (Cond.classLink own index ("[" ++ (FieldType.array .int).toString)).before args s = true) (hN0 : gN Z s) (harr : (Cond.arrayClass .int).before args s = true) (hK : va_K D cl (gT Z) s) (hP : va_P D cl ws H) (hD : va_D A ws) (hS : va_S A H0 H locs) (hA : ∀ q, H0.size ≤ q → A q)
    {n k : Int32} {N' K' : Nat} (hn : ¬ n < 0) (hk : ¬ k < 0) (hN : n.toNatClampNeg = N') (hM : k.toNatClampNeg = K') (hb1 : N' * 4 ≤ 536870912) (hb2 : K' * 4 ≤ 536870912) (hb3 : K' ≤ 536870912) (hcells : cells + (1 + N') ≤ R.cells) (hslots : slots + (N' + N' * K') ≤ R.slots) (hdg : decode cc pc = .ok (.multianewarray index 2, 4))
    (kk : ∀ (q : Nat) (H1 : Heap), va_P D cl ws H1 → va_D A ws → va_S A H0 H1 locs → W p l e R s m args below meth c H1 locs (cells + 1 + N') (slots + N' + N' * K') Q (F0 m (pc + 4) ls (.ref q :: rest))) : W p l e R s m args below meth c H locs cells slots Q (F0 m pc ls (.int k :: .int n :: rest)) := by
  have hcy : s.vm.findClass (FieldType.array .int).toString = some (Z.2 0) := (hK.2 0 _ rfl).2
  have hP' : va_P D cl (ws ++ va_pl [] (fun _ => .inl (Z.2 0, 0, .inl (fun _ => 0)))) H := by
    rw [show va_pl [] (fun _ => .inl (Z.2 0, 0, .inl (fun _ => 0))) = [] from rfl, List.append_nil]; exact hP
  have hD' : va_D A (ws ++ va_pl [] (fun _ => .inl (Z.2 0, 0, .inl (fun _ => 0)))) := by
    rw [show va_pl [] (fun _ => .inl (Z.2 0, 0, .inl (fun _ => 0))) = [] from rfl, List.append_nil]; exact hD
  refine va_mna (L := []) (f := fun _ => .inl (Z.2 0, 0, .inl (fun _ => 0))) (ty := .int) (z := (K', .inl (fun _ => 0))) hexec hb hown hclink (z_AOI hN0) harr hcy hK hP' hD' hS hA hn hk hN hM hb1 hb2 hb3 rfl rfl hcells hslots (fun c9 => ?_) hdg (fun q r cA H1 _ _ _ hP1 hD1 hS1 => kk q H1 (z_P0 (z_P0 hP1)) (z_D0 (z_D0 hD1)) hS1)
  rw [vp_cell_i]
  exact arrV_new ..
end ZNA
/-! an array's contents count below its length alone -/
theorem z_cpy0 {α : Type} {f g : Nat → α} {n j : Nat} (h : j < n) : va_cpy f g 0 0 n j = f j := (pk_cpy_in (Nat.zero_le _) (by omega)).trans (by rw [Nat.zero_add, Nat.sub_zero])
theorem z_arrX {c : ClassId} {n : Nat} {f g : Nat → Value} (h : ∀ j, j < n → f j = g j) : arrV c n f = arrV c n g := by
  unfold arrV
  congr 1
  congr 1
  funext j
  exact h j.val j.isLt
theorem z_PX {D : va_G} {cl : List vw_C} {ws : va_W} {H : Heap} (k : Nat) {x y : Nat × va_E} (hk : ws[k]? = some x) (h : va_at D cl x H → va_at D cl y H) (hP : va_P D cl ws H) : va_P D cl (ws.set k y) H := by
  intro i q hq
  rw [List.getElem?_set] at hq
  by_cases e : k = i
  · subst e
    have hl : k < ws.length := (List.getElem?_eq_some_iff.mp hk).1
    rw [if_pos rfl, if_pos hl] at hq
    rw [← Option.some.inj hq]
    exact h (hP k x hk)
  · rw [if_neg e] at hq
    exact hP i q hq
theorem z_DX {A : Nat → Prop} {ws : va_W} (k : Nat) {x y : Nat × va_E} (hk : ws[k]? = some x) (h : y.1 = x.1) (hD : va_D A ws) : va_D A (ws.set k y) := by
  have hl : k < ws.length := (List.getElem?_eq_some_iff.mp hk).1
  have hget : ∀ (i : Nat) (q : Nat × va_E), (ws.set k y)[i]? = some q → ∃ q0, ws[i]? = some q0 ∧ q0.1 = q.1 := by
    intro i q hq
    rw [List.getElem?_set] at hq
    by_cases e : k = i
    · subst e
      rw [if_pos rfl, if_pos hl] at hq
      exact ⟨x, hk, by rw [← Option.some.inj hq]; exact h.symm⟩
    · rw [if_neg e] at hq
      exact ⟨q, hq, rfl⟩
  refine ⟨fun i j p q hi hj e => ?_, fun i q hq => ?_⟩
  · obtain ⟨p0, hp0, ep⟩ := hget i p hi
    obtain ⟨q0, hq0, eq⟩ := hget j q hj
    exact hD.1 i j p0 q0 hp0 hq0 (ep.trans (e.trans eq.symm))
  · obtain ⟨q0, hq0, eq⟩ := hget i q hq
    rw [← eq]
    exact hD.2 i q0 hq0
theorem z_PXi {D : va_G} {cl : List vw_C} {ws : va_W} {H : Heap} {q n : Nat} {c : ClassId} {f g : Nat → Int32} (k : Nat) (hk : ws[k]? = some (q, .inl (c, n, .inl f))) (h : ∀ j, j < n → f j = g j) (hP : va_P D cl ws H) : va_P D cl (ws.set k (q, .inl (c, n, .inl g))) H :=
  z_PX k hk (fun e => by
    show H[q]? = some (arrV c n (fun j => .int (g j)))
    rw [← z_arrX (c := c) (n := n) (f := fun j => .int (f j)) (g := fun j => .int (g j)) (fun j hj => by rw [h j hj])]
    exact e) hP
theorem z_DXi {A : Nat → Prop} {ws : va_W} {q n : Nat} {c : ClassId} {f g : Nat → Int32} (k : Nat) (hk : ws[k]? = some (q, .inl (c, n, .inl f))) (hD : va_D A ws) : va_D A (ws.set k (q, .inl (c, n, .inl g))) := z_DX k hk rfl hD
theorem z_PXl {D : va_G} {cl : List vw_C} {ws : va_W} {H : Heap} {q n : Nat} {c : ClassId} {f g : Nat → Int64} (k : Nat) (hk : ws[k]? = some (q, .inl (c, n, .inr (.inl f)))) (h : ∀ j, j < n → f j = g j) (hP : va_P D cl ws H) : va_P D cl (ws.set k (q, .inl (c, n, .inr (.inl g)))) H :=
  z_PX k hk (fun e => by
    show H[q]? = some (arrV c n (fun j => .long (g j)))
    rw [← z_arrX (c := c) (n := n) (f := fun j => .long (f j)) (g := fun j => .long (g j)) (fun j hj => by rw [h j hj])]
    exact e) hP
theorem z_DXl {A : Nat → Prop} {ws : va_W} {q n : Nat} {c : ClassId} {f g : Nat → Int64} (k : Nat) (hk : ws[k]? = some (q, .inl (c, n, .inr (.inl f)))) (hD : va_D A ws) : va_D A (ws.set k (q, .inl (c, n, .inr (.inl g)))) := z_DX k hk rfl hD
