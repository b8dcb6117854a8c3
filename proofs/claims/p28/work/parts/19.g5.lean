theorem z_dn_p {j : Nat} {x : Int32} (h : z_dn j x) (hj : j ≤ 100) (c : ¬ x < 0) : 1 ≤ j ∧ z_dn (j - 1) (x + (-1)) := by
  rcases h with ⟨rfl, rfl⟩ | ⟨q, rfl, rfl⟩
  · exact absurd (by decide) c
  · exact ⟨by omega, z_dn_step q⟩
def ql_X5_readFolk (n : Nat) (f : Nat → Int32) : Nat → Nat → Nat → Nat → Int32 → (Nat → Int32) → (Nat → Int32) → Nat × Nat × Nat × Nat × Int32 × (Nat → Int32) × (Nat → Int32) × Nat
  | 0, ps, mm, j, x, uf, ug => (0, ps, mm, j, x, uf, ug, 0)
  | fu9 + 1, ps, mm, j, x, uf, ug => (if x < 0 then (4, ps, mm, j, x, uf, ug, 0) else (if 0 ≤ (q_J0_indexOf_0f7a4_r (q_X5_look_r n ps f)) then (if (q_X5_readNumber_r n (q_X5_skipBlanks_p1 n ((q_X5_look_p1 n ps f) + 1) f) f) < 0 then (1, (q_X5_readNumber_p1 n (q_X5_skipBlanks_p1 n ((q_X5_look_p1 n ps f) + 1) f) f), mm, j, x, uf, ug, (q_X5_skipBlanks_p1 n ((q_X5_look_p1 n ps f) + 1) f)) else (if (q_X5_readNumber_r n (q_X5_skipBlanks_p1 n ((q_X5_look_p1 n ps f) + 1) f) f) ≤ 9999 then (if (q_X5_look_r n (q_X5_readNumber_p1 n (q_X5_skipBlanks_p1 n ((q_X5_look_p1 n ps f) + 1) f) f) f) = 0 then (2, (q_X5_look_p1 n (q_X5_readNumber_p1 n (q_X5_skipBlanks_p1 n ((q_X5_look_p1 n ps f) + 1) f) f) f), (mm + 1), j, x, q_X0_add_f1 mm uf (q_J0_indexOf_0f7a4_r (q_X5_look_r n ps f)), q_X0_add_g1 mm ug (q_X5_readNumber_r n (q_X5_skipBlanks_p1 n ((q_X5_look_p1 n ps f) + 1) f) f), 0) else (if (q_X5_look_r n (q_X5_readNumber_p1 n (q_X5_skipBlanks_p1 n ((q_X5_look_p1 n ps f) + 1) f) f) f) = 44 then (if x = 0 then (3, (q_X5_look_p1 n (q_X5_readNumber_p1 n (q_X5_skipBlanks_p1 n ((q_X5_look_p1 n ps f) + 1) f) f) f), (mm + 1), j, x, q_X0_add_f1 mm uf (q_J0_indexOf_0f7a4_r (q_X5_look_r n ps f)), q_X0_add_g1 mm ug (q_X5_readNumber_r n (q_X5_skipBlanks_p1 n ((q_X5_look_p1 n ps f) + 1) f) f), 0) else ql_X5_readFolk n f fu9 ((q_X5_look_p1 n (q_X5_readNumber_p1 n (q_X5_skipBlanks_p1 n ((q_X5_look_p1 n ps f) + 1) f) f) f) + 1) (mm + 1) (j - 1) (x + (-1)) (q_X0_add_f1 mm uf (q_J0_indexOf_0f7a4_r (q_X5_look_r n ps f))) (q_X0_add_g1 mm ug (q_X5_readNumber_r n (q_X5_skipBlanks_p1 n ((q_X5_look_p1 n ps f) + 1) f) f))) else (3, (q_X5_look_p1 n (q_X5_readNumber_p1 n (q_X5_skipBlanks_p1 n ((q_X5_look_p1 n ps f) + 1) f) f) f), (mm + 1), j, x, q_X0_add_f1 mm uf (q_J0_indexOf_0f7a4_r (q_X5_look_r n ps f)), q_X0_add_g1 mm ug (q_X5_readNumber_r n (q_X5_skipBlanks_p1 n ((q_X5_look_p1 n ps f) + 1) f) f), 0))) else (1, (q_X5_readNumber_p1 n (q_X5_skipBlanks_p1 n ((q_X5_look_p1 n ps f) + 1) f) f), mm, j, x, uf, ug, (q_X5_skipBlanks_p1 n ((q_X5_look_p1 n ps f) + 1) f)))) else (0, (q_X5_look_p1 n ps f), mm, j, x, uf, ug, 0)))
set_option maxHeartbeats 4000000 in
set_option maxRecDepth 100000 in
theorem lp_X5_readFolk {p : Program} {l : Launch} {e : Env} {s : State} {m : MethodId} {args : Array Value} {below : List Frame} {meth : Method} {c : Code} {Q : State → Prop} {A : Nat → Prop} (Z : gZ) (h0 : Nat) (tk : Nat) (n : Nat) (f : Nat → Int32) (h1 : Nat) (k : Nat) (q : Nat) (T9 : Nat × Nat × Nat × Nat × Int32 × (Nat → Int32) × (Nat → Int32) × Nat) (hn : n ≤ 80) (hc : zC f) (hx : p.tables.exec = Jvm.exec) (hb : c.code = cX5_readFolk) (hml : c.maxLocals = 7) (hts : ∀ w ∈ wsX5_readFolk, w.before args s = true) (hown : s.vm.findClass RX5 = some m.cls) (hK : va_K Z.1 vwCl (gT Z) s) (hA : ∀ q : Nat, s.heap.size ≤ q → A q) (kA vA : Nat) (hG : gS kA vA A s) (kx_29 : ∀ (ps : Nat) (mm : Nat) (j : Nat) (x : Int32) (uf : Nat → Int32) (ug : Nat → Int32) (sv : Nat) (H : Heap) (locs : List Loc) (ls : Array Slot), (ps ≤ n ∧ mm ≤ 5) → (T9 = (0, ps, mm, j, x, uf, ug, sv)) → va_P Z.1 vwCl [(h0, .inr (5, [.int (nI n), .int (nI ps), .ref tk])), (tk, .inl (Z.2 1, 80, .inl f)), (h1, .inr (0, [.int (nI mm), .int 16510910, .int 0, .ref k, .ref q])), (k, .inl (Z.2 0, 5, .inl uf)), (q, .inl (Z.2 0, 5, .inl ug))] H → va_D A [(h0, .inr (5, [.int (nI n), .int (nI ps), .ref tk])), (tk, .inl (Z.2 1, 80, .inl f)), (h1, .inr (0, [.int (nI mm), .int 16510910, .int 0, .ref k, .ref q])), (k, .inl (Z.2 0, 5, .inl uf)), (q, .inl (Z.2 0, 5, .inl ug))] → va_S A s.heap H locs → lv_has ls 7 [(0, .ref h0), (1, .ref h1), (2, .int x)] → W p l e ({ frames := 7, cells := 0, slots := 0, locals := 300 } : Room) s m args below meth c H locs 0 0 Q (F0 m 29 ls [])) (kx_76 : ∀ (ps : Nat) (mm : Nat) (j : Nat) (x : Int32) (uf : Nat → Int32) (ug : Nat → Int32) (sv : Nat) (H : Heap) (locs : List Loc) (ls : Array Slot), (ps ≤ n ∧ mm ≤ 5) → (T9 = (1, ps, mm, j, x, uf, ug, sv)) → va_P Z.1 vwCl [(h0, .inr (5, [.int (nI n), .int (nI ps), .ref tk])), (tk, .inl (Z.2 1, 80, .inl f)), (h1, .inr (0, [.int (nI mm), .int 16510910, .int 0, .ref k, .ref q])), (k, .inl (Z.2 0, 5, .inl uf)), (q, .inl (Z.2 0, 5, .inl ug))] H → va_D A [(h0, .inr (5, [.int (nI n), .int (nI ps), .ref tk])), (tk, .inl (Z.2 1, 80, .inl f)), (h1, .inr (0, [.int (nI mm), .int 16510910, .int 0, .ref k, .ref q])), (k, .inl (Z.2 0, 5, .inl uf)), (q, .inl (Z.2 0, 5, .inl ug))] → va_S A s.heap H locs → lv_has ls 7 [(0, .ref h0), (1, .ref h1), (2, .int x), (4, .int (nI sv))] → W p l e ({ frames := 7, cells := 0, slots := 0, locals := 300 } : Room) s m args below meth c H locs 0 0 Q (F0 m 76 ls [])) (kx_100 : ∀ (ps : Nat) (mm : Nat) (j : Nat) (x : Int32) (uf : Nat → Int32) (ug : Nat → Int32) (sv : Nat) (H : Heap) (locs : List Loc) (ls : Array Slot), (ps ≤ n ∧ mm ≤ 5) → (T9 = (2, ps, mm, j, x, uf, ug, sv)) → va_P Z.1 vwCl [(h0, .inr (5, [.int (nI n), .int (nI ps), .ref tk])), (tk, .inl (Z.2 1, 80, .inl f)), (h1, .inr (0, [.int (nI mm), .int 16510910, .int 0, .ref k, .ref q])), (k, .inl (Z.2 0, 5, .inl uf)), (q, .inl (Z.2 0, 5, .inl ug))] H → va_D A [(h0, .inr (5, [.int (nI n), .int (nI ps), .ref tk])), (tk, .inl (Z.2 1, 80, .inl f)), (h1, .inr (0, [.int (nI mm), .int 16510910, .int 0, .ref k, .ref q])), (k, .inl (Z.2 0, 5, .inl uf)), (q, .inl (Z.2 0, 5, .inl ug))] → va_S A s.heap H locs → lv_has ls 7 [(0, .ref h0), (1, .ref h1), (2, .int x)] → W p l e ({ frames := 7, cells := 0, slots := 0, locals := 300 } : Room) s m args below meth c H locs 0 0 Q (F0 m 100 ls [])) (kx_116 : ∀ (ps : Nat) (mm : Nat) (j : Nat) (x : Int32) (uf : Nat → Int32) (ug : Nat → Int32) (sv : Nat) (H : Heap) (locs : List Loc) (ls : Array Slot), (ps ≤ n ∧ mm ≤ 5) → (T9 = (3, ps, mm, j, x, uf, ug, sv)) → va_P Z.1 vwCl [(h0, .inr (5, [.int (nI n), .int (nI ps), .ref tk])), (tk, .inl (Z.2 1, 80, .inl f)), (h1, .inr (0, [.int (nI mm), .int 16510910, .int 0, .ref k, .ref q])), (k, .inl (Z.2 0, 5, .inl uf)), (q, .inl (Z.2 0, 5, .inl ug))] H → va_D A [(h0, .inr (5, [.int (nI n), .int (nI ps), .ref tk])), (tk, .inl (Z.2 1, 80, .inl f)), (h1, .inr (0, [.int (nI mm), .int 16510910, .int 0, .ref k, .ref q])), (k, .inl (Z.2 0, 5, .inl uf)), (q, .inl (Z.2 0, 5, .inl ug))] → va_S A s.heap H locs → lv_has ls 7 [(0, .ref h0), (1, .ref h1), (2, .int x)] → W p l e ({ frames := 7, cells := 0, slots := 0, locals := 300 } : Room) s m args below meth c H locs 0 0 Q (F0 m 116 ls [])) (kx_140 : ∀ (ps : Nat) (mm : Nat) (j : Nat) (x : Int32) (uf : Nat → Int32) (ug : Nat → Int32) (sv : Nat) (H : Heap) (locs : List Loc) (ls : Array Slot), (ps ≤ n ∧ mm ≤ 5) → (T9 = (4, ps, mm, j, x, uf, ug, sv)) → va_P Z.1 vwCl [(h0, .inr (5, [.int (nI n), .int (nI ps), .ref tk])), (tk, .inl (Z.2 1, 80, .inl f)), (h1, .inr (0, [.int (nI mm), .int 16510910, .int 0, .ref k, .ref q])), (k, .inl (Z.2 0, 5, .inl uf)), (q, .inl (Z.2 0, 5, .inl ug))] H → va_D A [(h0, .inr (5, [.int (nI n), .int (nI ps), .ref tk])), (tk, .inl (Z.2 1, 80, .inl f)), (h1, .inr (0, [.int (nI mm), .int 16510910, .int 0, .ref k, .ref q])), (k, .inl (Z.2 0, 5, .inl uf)), (q, .inl (Z.2 0, 5, .inl ug))] → va_S A s.heap H locs → lv_has ls 7 [(0, .ref h0), (1, .ref h1), (2, .int x)] → W p l e ({ frames := 7, cells := 0, slots := 0, locals := 300 } : Room) s m args below meth c H locs 0 0 Q (F0 m 140 ls [])) : ∀ (fu9 : Nat) (ps : Nat) (mm : Nat) (j : Nat) (x : Int32) (uf : Nat → Int32) (ug : Nat → Int32), j < fu9 → (ps ≤ n) → (mm + j ≤ 5) → (z_dn j x) → (ql_X5_readFolk n f fu9 ps mm j x uf ug = T9) → ∀ (H : Heap) (locs : List Loc) (ls : Array Slot), va_P Z.1 vwCl [(h0, .inr (5, [.int (nI n), .int (nI ps), .ref tk])), (tk, .inl (Z.2 1, 80, .inl f)), (h1, .inr (0, [.int (nI mm), .int 16510910, .int 0, .ref k, .ref q])), (k, .inl (Z.2 0, 5, .inl uf)), (q, .inl (Z.2 0, 5, .inl ug))] H → va_D A [(h0, .inr (5, [.int (nI n), .int (nI ps), .ref tk])), (tk, .inl (Z.2 1, 80, .inl f)), (h1, .inr (0, [.int (nI mm), .int 16510910, .int 0, .ref k, .ref q])), (k, .inl (Z.2 0, 5, .inl uf)), (q, .inl (Z.2 0, 5, .inl ug))] → va_S A s.heap H locs → lv_has ls 7 [(0, .ref h0), (1, .ref h1), (2, .int x)] → W p l e ({ frames := 7, cells := 0, slots := 0, locals := 300 } : Room) s m args below meth c H locs 0 0 Q (F0 m 11 ls []) := by
  have hin5 : ∀ w ∈ wsX50, w ∈ wsX5_readFolk := fun w h9 => (List.mem_cons_of_mem _ (List.mem_append_left _ (List.mem_append_right _ h9)))
  intro fu9
  induction fu9 with
  | zero => intro ps mm j x uf ug hf9; exact absurd hf9 (Nat.not_lt_zero _)
  | succ fu9 ih =>
    intro ps mm j x uf ug hf9 hp hmj hx0 hT9 H locs ls hP hD hS hl
    refine lv_iload_n hx hb dX5_readFolk_11 rfl (lv_at hl 2 rfl) ?_
    refine lv_if_lt (tgt := 140) hx hb dX5_readFolk_12 (by decide) (fun c_1 => ?_) (fun c_1 => ?_)
    · exact kx_140 ps mm j x uf ug 0 H locs ls (⟨by omega, by omega⟩) (by have h8 := hT9; rw [ql_X5_readFolk, if_pos c_1] at h8; exact h8.symm) hP hD hS (lv_sub hl [0, 1, 2] rfl)
    · have hdn := z_dn_p hx0 (by omega) c_1
      refine va_ldcS hx hb hown hG.2.2.2.2.2 dX5_readFolk_15 ?_
      refine lv_aload_n hx hb dX5_readFolk_17 rfl (lv_at hl 0 rfl) ?_
      have hPc := hP.sub (ws' := [(h0, .inr (5, [.int (nI n), .int (nI ps), .ref tk])), (tk, .inl (Z.2 1, 80, .inl f))]) [0, 1] rfl
      have hDc := hD.sub (ws' := [(h0, .inr (5, [.int (nI n), .int (nI ps), .ref tk])), (tk, .inl (Z.2 1, 80, .inl f))]) [0, 1] (by decide +kernel) rfl
      have hFc := va_free (wc := [(h0, .inr (5, [.int (nI n), .int (nI ps), .ref tk])), (tk, .inl (Z.2 1, 80, .inl f))]) hD hS hA [0, 1] rfl
      refine va_calli (va_runV (As := []) (rest := [.ref kA]) ⟨hx, hb, hml, hown, hts⟩ (c_X5_look l Z H.size h0 tk n ps f (hn) (by omega) (hc)) (cwV 0 hts gX5_readFolk_X5_look rfl rfl rfl (by decide +kernel) ⟨Nat.le_of_ble_eq_true rfl, Nat.le_of_ble_eq_true rfl⟩) ⟨fun a U g mk q => by obtain ⟨q0, q1, qP, qK, qD⟩ := q; exact ⟨q0, q1, qP, va_K.moved (u := U) (U := U.calling g mk a) (Vm.Alike.refl U.vm) qK, qD⟩, va_recv hK hPc (ci := 5) (q0 := 0) rfl rfl, fun U hU hW => ⟨rfl, by rw [hU], by rw [hU]; exact hPc, va_K.moved hW.alike hK, hDc.weaken (fun _ _ _ _ => trivial)⟩⟩ rfl rfl hl.1 rfl (lv_room (Nat.le_of_ble_eq_true rfl)) dX5_readFolk_18 ⟨Nat.le_of_ble_eq_true rfl, Nat.le_of_ble_eq_true rfl⟩) hS (fun q _ h => hFc q h) hFc (fun r_2 u t9 H1 locs ht hvm hw hB hz1 hk1 hS => ?_)
      obtain ⟨p1_3, rfl⟩ : ∃ z, z = u := ⟨_, rfl⟩
      try dsimp only at hw hB
      obtain ⟨hw, hx_4, hwr_2⟩ := hw
      subst hx_4
      have hw9 := hw.symm
      clear hw
      subst hw9
      obtain ⟨hP1, hD1⟩ := hB
      rw [ht] at hP1
      obtain ⟨hP, hD⟩ := va_join (wr := [(h1, .inr (0, [.int (nI mm), .int 16510910, .int 0, .ref k, .ref q])), (k, .inl (Z.2 0, 5, .inl uf)), (q, .inl (Z.2 0, 5, .inl ug))]) (w1 := [(h0, .inr (5, [.int (nI n), .int (nI (q_X5_look_p1 n ps f)), .ref tk])), (tk, .inl (Z.2 1, 80, .inl f))]) hP hD [0, 1] [2, 3, 4] rfl rfl (by decide +kernel) (by decide +kernel) hk1 hFc hP1 hD1
      clear hPc hDc hP1 hD1 hk1 hz1 hFc ht hvm
      generalize H1 = H at hP hS ⊢
      have hP : va_P Z.1 vwCl [(h1, .inr (0, [.int (nI mm), .int 16510910, .int 0, .ref k, .ref q])), (k, .inl (Z.2 0, 5, .inl uf)), (q, .inl (Z.2 0, 5, .inl ug)), (h0, .inr (5, [.int (nI n), .int (nI (q_X5_look_p1 n ps f)), .ref tk])), (tk, .inl (Z.2 1, 80, .inl f))] H := hP
      have hD : va_D A [(h1, .inr (0, [.int (nI mm), .int 16510910, .int 0, .ref k, .ref q])), (k, .inl (Z.2 0, 5, .inl uf)), (q, .inl (Z.2 0, 5, .inl ug)), (h0, .inr (5, [.int (nI n), .int (nI (q_X5_look_p1 n ps f)), .ref tk])), (tk, .inl (Z.2 1, 80, .inl f))] := hD
      have hPc := hP.sub (ws' := []) [] rfl
      have hDc := hD.sub (ws' := []) [] (by decide +kernel) rfl
      have hFc := va_free (wc := []) hD hS hA [] rfl
      refine va_calli (va_runV (As := [.int (q_X5_look_r n ps f)]) (rest := []) ⟨hx, hb, hml, hown, hts⟩ (c_J0_indexOf_0f7a4 l Z H.size (q_X5_look_r n ps f) kA vA) (cwV 1 hts gX5_readFolk_J0_indexOf_0f7a4 rfl rfl rfl (by decide +kernel) ⟨Nat.le_of_ble_eq_true rfl, Nat.le_of_ble_eq_true rfl⟩) ⟨fun a U g mk q => by obtain ⟨q0, q1, qP, qK, qD, qG⟩ := q; exact ⟨q0, q1, qP, va_K.moved (u := U) (U := U.calling g mk a) (Vm.Alike.refl U.vm) qK, qD, z_Gc (u := U) (U := U.calling g mk a) rfl rfl qG⟩, z_recv hG hS, fun U hU hW => ⟨rfl, by rw [hU], by rw [hU]; exact hPc, va_K.moved hW.alike hK, hDc.weaken (fun _ _ _ _ => trivial), z_G hW hG hS hU hFc⟩⟩ rfl rfl hl.1 rfl (lv_room (Nat.le_of_ble_eq_true rfl)) dX5_readFolk_21 ⟨Nat.le_of_ble_eq_true rfl, Nat.le_of_ble_eq_true rfl⟩) hS (fun q _ h => hFc q h) hFc (fun r_5 u t9 H1 locs ht hvm hw hB hz1 hk1 hS => ?_)
      have hw9 := hw.symm
      clear hw
      subst hw9
      have hP1 : va_P Z.1 vwCl [] H1 := fun k q h => by simp at h
      have hD1 : va_D (va_A [] H.size) [] := ⟨fun i j p q h => by simp at h, fun k q h => by simp at h⟩
      obtain ⟨hP, hD⟩ := va_join (wr := [(h1, .inr (0, [.int (nI mm), .int 16510910, .int 0, .ref k, .ref q])), (k, .inl (Z.2 0, 5, .inl uf)), (q, .inl (Z.2 0, 5, .inl ug)), (h0, .inr (5, [.int (nI n), .int (nI (q_X5_look_p1 n ps f)), .ref tk])), (tk, .inl (Z.2 1, 80, .inl f))]) (w1 := []) hP hD [] [0, 1, 2, 3, 4] rfl rfl (by decide +kernel) (by decide +kernel) hk1 hFc hP1 hD1
      clear hPc hDc hP1 hD1 hk1 hz1 hFc ht hvm
      generalize H1 = H at hP hS ⊢
      have hP : va_P Z.1 vwCl [(h1, .inr (0, [.int (nI mm), .int 16510910, .int 0, .ref k, .ref q])), (k, .inl (Z.2 0, 5, .inl uf)), (q, .inl (Z.2 0, 5, .inl ug)), (h0, .inr (5, [.int (nI n), .int (nI (q_X5_look_p1 n ps f)), .ref tk])), (tk, .inl (Z.2 1, 80, .inl f))] H := hP
      have hD : va_D A [(h1, .inr (0, [.int (nI mm), .int 16510910, .int 0, .ref k, .ref q])), (k, .inl (Z.2 0, 5, .inl uf)), (q, .inl (Z.2 0, 5, .inl ug)), (h0, .inr (5, [.int (nI n), .int (nI (q_X5_look_p1 n ps f)), .ref tk])), (tk, .inl (Z.2 1, 80, .inl f))] := hD
      refine lv_istore_n (lv' := [(3, .int (q_J0_indexOf_0f7a4_r (q_X5_look_r n ps f))), (0, .ref h0), (1, .ref h1), (2, .int x)]) hx hb dX5_readFolk_24 rfl hl (by decide) rfl (fun ls hl => ?_)
      refine lv_iload_n hx hb dX5_readFolk_25 rfl (lv_at hl 0 rfl) ?_
      refine lv_if_ge (tgt := 37) hx hb dX5_readFolk_26 (by decide) (fun c_6 => ?_) (fun c_6 => ?_)
      · have hq6 := hwr_2.1 (z_ix0 c_6)
        refine lv_aload_n hx hb dX5_readFolk_37 rfl (lv_at hl 1 rfl) ?_
        refine lv_dup hx hb dX5_readFolk_38 rfl ?_
        refine va_get (D := Z.1) (ci := 5) (v := .int (nI (q_X5_look_p1 n ps f))) (C := RX5) (T := TX5) (N := 3) hx hb hts hin5 hown hK hP 3 rfl rfl 1 (by decide) (hts (.fieldLink RX5 15 "HalfAsked$Tape" "at" "I") (List.mem_of_getElem? (i := 1) rfl)) (fun _ h9 => h9) rfl dX5_readFolk_39 ?_
        refine lv_iconst (v := 1) hx hb dX5_readFolk_42 (by decide) ?_
        refine lv_iadd hx hb dX5_readFolk_43 ?_
        refine lv_topi (fun f_7 ef_7 => ?_)
        obtain rfl : nI ((q_X5_look_p1 n ps f) + 1) = f_7 := (ef_7.trans (nI_1 _)).symm
        refine va_put (D := Z.1) (ci := 5) (v := .int (nI ((q_X5_look_p1 n ps f) + 1))) (ty := .int) (C := RX5) (T := TX5) (N := 3) hx hb hts hin5 tyX5 tyX5_ok nmX5 hown hK hP hD hS 3 rfl rfl 1 (by decide) (hts (.fieldLink RX5 15 "HalfAsked$Tape" "at" "I") (List.mem_of_getElem? (i := 1) rfl)) (fun _ h9 => h9) rfl (by decide +kernel) rfl rfl (Nat.le_of_ble_eq_true rfl) dX5_readFolk_44 (fun H locs hP hD hS => ?_)
        have hP : va_P Z.1 vwCl [(h1, .inr (0, [.int (nI mm), .int 16510910, .int 0, .ref k, .ref q])), (k, .inl (Z.2 0, 5, .inl uf)), (q, .inl (Z.2 0, 5, .inl ug)), (h0, .inr (5, [.int (nI n), .int (nI ((q_X5_look_p1 n ps f) + 1)), .ref tk])), (tk, .inl (Z.2 1, 80, .inl f))] H := hP
        have hD : va_D A [(h1, .inr (0, [.int (nI mm), .int 16510910, .int 0, .ref k, .ref q])), (k, .inl (Z.2 0, 5, .inl uf)), (q, .inl (Z.2 0, 5, .inl ug)), (h0, .inr (5, [.int (nI n), .int (nI ((q_X5_look_p1 n ps f) + 1)), .ref tk])), (tk, .inl (Z.2 1, 80, .inl f))] := hD
        refine lv_aload_n hx hb dX5_readFolk_47 rfl (lv_at hl 1 rfl) ?_
        have hPc := hP.sub (ws' := [(h0, .inr (5, [.int (nI n), .int (nI ((q_X5_look_p1 n ps f) + 1)), .ref tk])), (tk, .inl (Z.2 1, 80, .inl f))]) [3, 4] rfl
        have hDc := hD.sub (ws' := [(h0, .inr (5, [.int (nI n), .int (nI ((q_X5_look_p1 n ps f) + 1)), .ref tk])), (tk, .inl (Z.2 1, 80, .inl f))]) [3, 4] (by decide +kernel) rfl
        have hFc := va_free (wc := [(h0, .inr (5, [.int (nI n), .int (nI ((q_X5_look_p1 n ps f) + 1)), .ref tk])), (tk, .inl (Z.2 1, 80, .inl f))]) hD hS hA [3, 4] rfl
        refine va_callv (va_runV (As := []) (rest := []) ⟨hx, hb, hml, hown, hts⟩ (c_X5_skipBlanks l Z H.size h0 tk n ((q_X5_look_p1 n ps f) + 1) f (hn) (by omega) (hc)) (cwV 0 hts gX5_readFolk_X5_skipBlanks rfl rfl rfl (by decide +kernel) ⟨Nat.le_of_ble_eq_true rfl, Nat.le_of_ble_eq_true rfl⟩) ⟨fun a U g mk q => by obtain ⟨q0, q1, qP, qK, qD⟩ := q; exact ⟨q0, q1, qP, va_K.moved (u := U) (U := U.calling g mk a) (Vm.Alike.refl U.vm) qK, qD⟩, va_recv hK hPc (ci := 5) (q0 := 0) rfl rfl, fun U hU hW => ⟨rfl, by rw [hU], by rw [hU]; exact hPc, va_K.moved hW.alike hK, hDc.weaken (fun _ _ _ _ => trivial)⟩⟩ rfl rfl hl.1 rfl (lv_room (Nat.le_of_ble_eq_true rfl)) dX5_readFolk_48 ⟨Nat.le_of_ble_eq_true rfl, Nat.le_of_ble_eq_true rfl⟩) hS (fun q _ h => hFc q h) hFc (fun u t9 H1 locs ht hvm hw hB hz1 hk1 hS => ?_)
        obtain ⟨p1_9, rfl⟩ : ∃ z, z = u := ⟨_, rfl⟩
        try dsimp only at hw hB
        obtain ⟨hx_10, hwr_8⟩ := hw
        subst hx_10
        obtain ⟨hP1, hD1⟩ := hB
        rw [ht] at hP1
        obtain ⟨hP, hD⟩ := va_join (wr := [(h1, .inr (0, [.int (nI mm), .int 16510910, .int 0, .ref k, .ref q])), (k, .inl (Z.2 0, 5, .inl uf)), (q, .inl (Z.2 0, 5, .inl ug))]) (w1 := [(h0, .inr (5, [.int (nI n), .int (nI (q_X5_skipBlanks_p1 n ((q_X5_look_p1 n ps f) + 1) f)), .ref tk])), (tk, .inl (Z.2 1, 80, .inl f))]) hP hD [3, 4] [0, 1, 2] rfl rfl (by decide +kernel) (by decide +kernel) hk1 hFc hP1 hD1
        clear hPc hDc hP1 hD1 hk1 hz1 hFc ht hvm
        generalize H1 = H at hP hS ⊢
        have hP : va_P Z.1 vwCl [(h1, .inr (0, [.int (nI mm), .int 16510910, .int 0, .ref k, .ref q])), (k, .inl (Z.2 0, 5, .inl uf)), (q, .inl (Z.2 0, 5, .inl ug)), (h0, .inr (5, [.int (nI n), .int (nI (q_X5_skipBlanks_p1 n ((q_X5_look_p1 n ps f) + 1) f)), .ref tk])), (tk, .inl (Z.2 1, 80, .inl f))] H := hP
        have hD : va_D A [(h1, .inr (0, [.int (nI mm), .int 16510910, .int 0, .ref k, .ref q])), (k, .inl (Z.2 0, 5, .inl uf)), (q, .inl (Z.2 0, 5, .inl ug)), (h0, .inr (5, [.int (nI n), .int (nI (q_X5_skipBlanks_p1 n ((q_X5_look_p1 n ps f) + 1) f)), .ref tk])), (tk, .inl (Z.2 1, 80, .inl f))] := hD
        refine lv_aload_n hx hb dX5_readFolk_51 rfl (lv_at hl 1 rfl) ?_
        refine va_get (D := Z.1) (ci := 5) (v := .int (nI (q_X5_skipBlanks_p1 n ((q_X5_look_p1 n ps f) + 1) f))) (C := RX5) (T := TX5) (N := 3) hx hb hts hin5 hown hK hP 3 rfl rfl 1 (by decide) (hts (.fieldLink RX5 15 "HalfAsked$Tape" "at" "I") (List.mem_of_getElem? (i := 1) rfl)) (fun _ h9 => h9) rfl dX5_readFolk_52 ?_
        refine lv_istore (lv' := [(4, .int (nI (q_X5_skipBlanks_p1 n ((q_X5_look_p1 n ps f) + 1) f))), (3, .int (q_J0_indexOf_0f7a4_r (q_X5_look_r n ps f))), (0, .ref h0), (1, .ref h1), (2, .int x)]) hx hb dX5_readFolk_55 hl (by decide) rfl (fun ls hl => ?_)
        refine lv_aload_n hx hb dX5_readFolk_57 rfl (lv_at hl 2 rfl) ?_
        have hPc := hP.sub (ws' := [(h0, .inr (5, [.int (nI n), .int (nI (q_X5_skipBlanks_p1 n ((q_X5_look_p1 n ps f) + 1) f)), .ref tk])), (tk, .inl (Z.2 1, 80, .inl f))]) [3, 4] rfl
        have hDc := hD.sub (ws' := [(h0, .inr (5, [.int (nI n), .int (nI (q_X5_skipBlanks_p1 n ((q_X5_look_p1 n ps f) + 1) f)), .ref tk])), (tk, .inl (Z.2 1, 80, .inl f))]) [3, 4] (by decide +kernel) rfl
        have hFc := va_free (wc := [(h0, .inr (5, [.int (nI n), .int (nI (q_X5_skipBlanks_p1 n ((q_X5_look_p1 n ps f) + 1) f)), .ref tk])), (tk, .inl (Z.2 1, 80, .inl f))]) hD hS hA [3, 4] rfl
        refine va_calli (va_runV (As := []) (rest := []) ⟨hx, hb, hml, hown, hts⟩ (c_X5_readNumber l Z H.size h0 tk n (q_X5_skipBlanks_p1 n ((q_X5_look_p1 n ps f) + 1) f) f (hn) (by omega) (hc)) (cwV 0 hts gX5_readFolk_X5_readNumber rfl rfl rfl (by decide +kernel) ⟨Nat.le_of_ble_eq_true rfl, Nat.le_of_ble_eq_true rfl⟩) ⟨fun a U g mk q => by obtain ⟨q0, q1, qP, qK, qD⟩ := q; exact ⟨q0, q1, qP, va_K.moved (u := U) (U := U.calling g mk a) (Vm.Alike.refl U.vm) qK, qD⟩, va_recv hK hPc (ci := 5) (q0 := 0) rfl rfl, fun U hU hW => ⟨rfl, by rw [hU], by rw [hU]; exact hPc, va_K.moved hW.alike hK, hDc.weaken (fun _ _ _ _ => trivial)⟩⟩ rfl rfl hl.1 rfl (lv_room (Nat.le_of_ble_eq_true rfl)) dX5_readFolk_58 ⟨Nat.le_of_ble_eq_true rfl, Nat.le_of_ble_eq_true rfl⟩) hS (fun q _ h => hFc q h) hFc (fun r_11 u t9 H1 locs ht hvm hw hB hz1 hk1 hS => ?_)
        obtain ⟨p1_12, rfl⟩ : ∃ z, z = u := ⟨_, rfl⟩
        try dsimp only at hw hB
        obtain ⟨hw, hx_13, hwr_11⟩ := hw
        subst hx_13
        have hw9 := hw.symm
        clear hw
        subst hw9
        obtain ⟨hP1, hD1⟩ := hB
        rw [ht] at hP1
        obtain ⟨hP, hD⟩ := va_join (wr := [(h1, .inr (0, [.int (nI mm), .int 16510910, .int 0, .ref k, .ref q])), (k, .inl (Z.2 0, 5, .inl uf)), (q, .inl (Z.2 0, 5, .inl ug))]) (w1 := [(h0, .inr (5, [.int (nI n), .int (nI (q_X5_readNumber_p1 n (q_X5_skipBlanks_p1 n ((q_X5_look_p1 n ps f) + 1) f) f)), .ref tk])), (tk, .inl (Z.2 1, 80, .inl f))]) hP hD [3, 4] [0, 1, 2] rfl rfl (by decide +kernel) (by decide +kernel) hk1 hFc hP1 hD1
        clear hPc hDc hP1 hD1 hk1 hz1 hFc ht hvm
        generalize H1 = H at hP hS ⊢
        have hP : va_P Z.1 vwCl [(h1, .inr (0, [.int (nI mm), .int 16510910, .int 0, .ref k, .ref q])), (k, .inl (Z.2 0, 5, .inl uf)), (q, .inl (Z.2 0, 5, .inl ug)), (h0, .inr (5, [.int (nI n), .int (nI (q_X5_readNumber_p1 n (q_X5_skipBlanks_p1 n ((q_X5_look_p1 n ps f) + 1) f) f)), .ref tk])), (tk, .inl (Z.2 1, 80, .inl f))] H := hP
        have hD : va_D A [(h1, .inr (0, [.int (nI mm), .int 16510910, .int 0, .ref k, .ref q])), (k, .inl (Z.2 0, 5, .inl uf)), (q, .inl (Z.2 0, 5, .inl ug)), (h0, .inr (5, [.int (nI n), .int (nI (q_X5_readNumber_p1 n (q_X5_skipBlanks_p1 n ((q_X5_look_p1 n ps f) + 1) f) f)), .ref tk])), (tk, .inl (Z.2 1, 80, .inl f))] := hD
        refine lv_istore (lv' := [(5, .int (q_X5_readNumber_r n (q_X5_skipBlanks_p1 n ((q_X5_look_p1 n ps f) + 1) f) f)), (4, .int (nI (q_X5_skipBlanks_p1 n ((q_X5_look_p1 n ps f) + 1) f))), (3, .int (q_J0_indexOf_0f7a4_r (q_X5_look_r n ps f))), (0, .ref h0), (1, .ref h1), (2, .int x)]) hx hb dX5_readFolk_61 hl (by decide) rfl (fun ls hl => ?_)
        refine lv_iload hx hb dX5_readFolk_63 (lv_at hl 0 rfl) ?_
        refine lv_if_lt (tgt := 76) hx hb dX5_readFolk_65 (by decide) (fun c_14 => ?_) (fun c_14 => ?_)
        · exact kx_76 (q_X5_readNumber_p1 n (q_X5_skipBlanks_p1 n ((q_X5_look_p1 n ps f) + 1) f) f) mm j x uf ug (q_X5_skipBlanks_p1 n ((q_X5_look_p1 n ps f) + 1) f) H locs ls (⟨by omega, by omega⟩) (by have h8 := hT9; rw [ql_X5_readFolk, if_neg c_1, if_pos c_6, if_pos c_14] at h8; exact h8.symm) (hP.sub [3, 4, 0, 1, 2] rfl) (hD.sub [3, 4, 0, 1, 2] (by decide +kernel) rfl) hS (lv_sub hl [3, 4, 5, 1] rfl)
        · refine lv_iload hx hb dX5_readFolk_68 (lv_at hl 0 rfl) ?_
          refine lv_sipush (v := 9999) hx hb dX5_readFolk_70 (by decide) ?_
          refine lv_icmp_le (tgt := 82) hx hb dX5_readFolk_73 (by decide) (fun c_15 => ?_) (fun c_15 => ?_)
          · refine lv_aload_n hx hb dX5_readFolk_82 rfl (lv_at hl 4 rfl) ?_
            refine lv_iload_n hx hb dX5_readFolk_83 rfl (lv_at hl 2 rfl) ?_
            refine lv_iload hx hb dX5_readFolk_84 (lv_at hl 0 rfl) ?_
            have hPc := hP.sub (ws' := [(h1, .inr (0, [.int (nI mm), .int 16510910, .int 0, .ref k, .ref q])), (k, .inl (Z.2 0, 5, .inl uf)), (q, .inl (Z.2 0, 5, .inl ug))]) [0, 1, 2] rfl
            have hDc := hD.sub (ws' := [(h1, .inr (0, [.int (nI mm), .int 16510910, .int 0, .ref k, .ref q])), (k, .inl (Z.2 0, 5, .inl uf)), (q, .inl (Z.2 0, 5, .inl ug))]) [0, 1, 2] (by decide +kernel) rfl
            have hFc := va_free (wc := [(h1, .inr (0, [.int (nI mm), .int 16510910, .int 0, .ref k, .ref q])), (k, .inl (Z.2 0, 5, .inl uf)), (q, .inl (Z.2 0, 5, .inl ug))]) hD hS hA [0, 1, 2] rfl
            refine va_callv (va_runV (As := [.int (q_J0_indexOf_0f7a4_r (q_X5_look_r n ps f)), .int (q_X5_readNumber_r n (q_X5_skipBlanks_p1 n ((q_X5_look_p1 n ps f) + 1) f) f)]) (rest := []) ⟨hx, hb, hml, hown, hts⟩ (c_X0_add l Z H.size h1 mm 16510910 0 k q uf ug (q_J0_indexOf_0f7a4_r (q_X5_look_r n ps f)) (q_X5_readNumber_r n (q_X5_skipBlanks_p1 n ((q_X5_look_p1 n ps f) + 1) f) f) (by omega)) (cwV 2 hts gX5_readFolk_X0_add rfl rfl rfl (by decide +kernel) ⟨Nat.le_of_ble_eq_true rfl, Nat.le_of_ble_eq_true rfl⟩) ⟨fun a U g mk q => by obtain ⟨q0, q1, qP, qK, qD⟩ := q; exact ⟨q0, q1, qP, va_K.moved (u := U) (U := U.calling g mk a) (Vm.Alike.refl U.vm) qK, qD⟩, va_recv hK hPc (ci := 0) (q0 := 0) rfl rfl, fun U hU hW => ⟨rfl, by rw [hU], by rw [hU]; exact hPc, va_K.moved hW.alike hK, hDc.weaken (fun _ _ _ _ => trivial)⟩⟩ rfl rfl hl.1 rfl (lv_room (Nat.le_of_ble_eq_true rfl)) dX5_readFolk_86 ⟨Nat.le_of_ble_eq_true rfl, Nat.le_of_ble_eq_true rfl⟩) hS (fun q _ h => hFc q h) hFc (fun u t9 H1 locs ht hvm hw hB hz1 hk1 hS => ?_)
            obtain ⟨f1_17, g1_18⟩ := u
            try dsimp only at hw hB
            obtain ⟨hx_19, hx_20⟩ := hw
            subst hx_19
            subst hx_20
            obtain ⟨hP1, hD1⟩ := hB
            rw [ht] at hP1
            obtain ⟨hP, hD⟩ := va_join (wr := [(h0, .inr (5, [.int (nI n), .int (nI (q_X5_readNumber_p1 n (q_X5_skipBlanks_p1 n ((q_X5_look_p1 n ps f) + 1) f) f)), .ref tk])), (tk, .inl (Z.2 1, 80, .inl f))]) (w1 := [(h1, .inr (0, [.int (nI (mm + 1)), .int 16510910, .int 0, .ref k, .ref q])), (k, .inl (Z.2 0, 5, .inl (q_X0_add_f1 mm uf (q_J0_indexOf_0f7a4_r (q_X5_look_r n ps f))))), (q, .inl (Z.2 0, 5, .inl (q_X0_add_g1 mm ug (q_X5_readNumber_r n (q_X5_skipBlanks_p1 n ((q_X5_look_p1 n ps f) + 1) f) f))))]) hP hD [0, 1, 2] [3, 4] rfl rfl (by decide +kernel) (by decide +kernel) hk1 hFc hP1 hD1
            clear hPc hDc hP1 hD1 hk1 hz1 hFc ht hvm
            generalize H1 = H at hP hS ⊢
            have hP : va_P Z.1 vwCl [(h0, .inr (5, [.int (nI n), .int (nI (q_X5_readNumber_p1 n (q_X5_skipBlanks_p1 n ((q_X5_look_p1 n ps f) + 1) f) f)), .ref tk])), (tk, .inl (Z.2 1, 80, .inl f)), (h1, .inr (0, [.int (nI (mm + 1)), .int 16510910, .int 0, .ref k, .ref q])), (k, .inl (Z.2 0, 5, .inl (q_X0_add_f1 mm uf (q_J0_indexOf_0f7a4_r (q_X5_look_r n ps f))))), (q, .inl (Z.2 0, 5, .inl (q_X0_add_g1 mm ug (q_X5_readNumber_r n (q_X5_skipBlanks_p1 n ((q_X5_look_p1 n ps f) + 1) f) f))))] H := hP
            have hD : va_D A [(h0, .inr (5, [.int (nI n), .int (nI (q_X5_readNumber_p1 n (q_X5_skipBlanks_p1 n ((q_X5_look_p1 n ps f) + 1) f) f)), .ref tk])), (tk, .inl (Z.2 1, 80, .inl f)), (h1, .inr (0, [.int (nI (mm + 1)), .int 16510910, .int 0, .ref k, .ref q])), (k, .inl (Z.2 0, 5, .inl (q_X0_add_f1 mm uf (q_J0_indexOf_0f7a4_r (q_X5_look_r n ps f))))), (q, .inl (Z.2 0, 5, .inl (q_X0_add_g1 mm ug (q_X5_readNumber_r n (q_X5_skipBlanks_p1 n ((q_X5_look_p1 n ps f) + 1) f) f))))] := hD
            refine lv_aload_n hx hb dX5_readFolk_89 rfl (lv_at hl 3 rfl) ?_
            have hPc := hP.sub (ws' := [(h0, .inr (5, [.int (nI n), .int (nI (q_X5_readNumber_p1 n (q_X5_skipBlanks_p1 n ((q_X5_look_p1 n ps f) + 1) f) f)), .ref tk])), (tk, .inl (Z.2 1, 80, .inl f))]) [0, 1] rfl
            have hDc := hD.sub (ws' := [(h0, .inr (5, [.int (nI n), .int (nI (q_X5_readNumber_p1 n (q_X5_skipBlanks_p1 n ((q_X5_look_p1 n ps f) + 1) f) f)), .ref tk])), (tk, .inl (Z.2 1, 80, .inl f))]) [0, 1] (by decide +kernel) rfl
            have hFc := va_free (wc := [(h0, .inr (5, [.int (nI n), .int (nI (q_X5_readNumber_p1 n (q_X5_skipBlanks_p1 n ((q_X5_look_p1 n ps f) + 1) f) f)), .ref tk])), (tk, .inl (Z.2 1, 80, .inl f))]) hD hS hA [0, 1] rfl
            refine va_calli (va_runV (As := []) (rest := []) ⟨hx, hb, hml, hown, hts⟩ (c_X5_look l Z H.size h0 tk n (q_X5_readNumber_p1 n (q_X5_skipBlanks_p1 n ((q_X5_look_p1 n ps f) + 1) f) f) f (hn) (by omega) (hc)) (cwV 0 hts gX5_readFolk_X5_look rfl rfl rfl (by decide +kernel) ⟨Nat.le_of_ble_eq_true rfl, Nat.le_of_ble_eq_true rfl⟩) ⟨fun a U g mk q => by obtain ⟨q0, q1, qP, qK, qD⟩ := q; exact ⟨q0, q1, qP, va_K.moved (u := U) (U := U.calling g mk a) (Vm.Alike.refl U.vm) qK, qD⟩, va_recv hK hPc (ci := 5) (q0 := 0) rfl rfl, fun U hU hW => ⟨rfl, by rw [hU], by rw [hU]; exact hPc, va_K.moved hW.alike hK, hDc.weaken (fun _ _ _ _ => trivial)⟩⟩ rfl rfl hl.1 rfl (lv_room (Nat.le_of_ble_eq_true rfl)) dX5_readFolk_90 ⟨Nat.le_of_ble_eq_true rfl, Nat.le_of_ble_eq_true rfl⟩) hS (fun q _ h => hFc q h) hFc (fun r_21 u t9 H1 locs ht hvm hw hB hz1 hk1 hS => ?_)
            obtain ⟨p1_22, rfl⟩ : ∃ z, z = u := ⟨_, rfl⟩
            try dsimp only at hw hB
            obtain ⟨hw, hx_23, hwr_21⟩ := hw
            subst hx_23
            have hw9 := hw.symm
            clear hw
            subst hw9
            obtain ⟨hP1, hD1⟩ := hB
            rw [ht] at hP1
            obtain ⟨hP, hD⟩ := va_join (wr := [(h1, .inr (0, [.int (nI (mm + 1)), .int 16510910, .int 0, .ref k, .ref q])), (k, .inl (Z.2 0, 5, .inl (q_X0_add_f1 mm uf (q_J0_indexOf_0f7a4_r (q_X5_look_r n ps f))))), (q, .inl (Z.2 0, 5, .inl (q_X0_add_g1 mm ug (q_X5_readNumber_r n (q_X5_skipBlanks_p1 n ((q_X5_look_p1 n ps f) + 1) f) f))))]) (w1 := [(h0, .inr (5, [.int (nI n), .int (nI (q_X5_look_p1 n (q_X5_readNumber_p1 n (q_X5_skipBlanks_p1 n ((q_X5_look_p1 n ps f) + 1) f) f) f)), .ref tk])), (tk, .inl (Z.2 1, 80, .inl f))]) hP hD [0, 1] [2, 3, 4] rfl rfl (by decide +kernel) (by decide +kernel) hk1 hFc hP1 hD1
            clear hPc hDc hP1 hD1 hk1 hz1 hFc ht hvm
            generalize H1 = H at hP hS ⊢
            have hP : va_P Z.1 vwCl [(h1, .inr (0, [.int (nI (mm + 1)), .int 16510910, .int 0, .ref k, .ref q])), (k, .inl (Z.2 0, 5, .inl (q_X0_add_f1 mm uf (q_J0_indexOf_0f7a4_r (q_X5_look_r n ps f))))), (q, .inl (Z.2 0, 5, .inl (q_X0_add_g1 mm ug (q_X5_readNumber_r n (q_X5_skipBlanks_p1 n ((q_X5_look_p1 n ps f) + 1) f) f)))), (h0, .inr (5, [.int (nI n), .int (nI (q_X5_look_p1 n (q_X5_readNumber_p1 n (q_X5_skipBlanks_p1 n ((q_X5_look_p1 n ps f) + 1) f) f) f)), .ref tk])), (tk, .inl (Z.2 1, 80, .inl f))] H := hP
            have hD : va_D A [(h1, .inr (0, [.int (nI (mm + 1)), .int 16510910, .int 0, .ref k, .ref q])), (k, .inl (Z.2 0, 5, .inl (q_X0_add_f1 mm uf (q_J0_indexOf_0f7a4_r (q_X5_look_r n ps f))))), (q, .inl (Z.2 0, 5, .inl (q_X0_add_g1 mm ug (q_X5_readNumber_r n (q_X5_skipBlanks_p1 n ((q_X5_look_p1 n ps f) + 1) f) f)))), (h0, .inr (5, [.int (nI n), .int (nI (q_X5_look_p1 n (q_X5_readNumber_p1 n (q_X5_skipBlanks_p1 n ((q_X5_look_p1 n ps f) + 1) f) f) f)), .ref tk])), (tk, .inl (Z.2 1, 80, .inl f))] := hD
            refine lv_istore (lv' := [(6, .int (q_X5_look_r n (q_X5_readNumber_p1 n (q_X5_skipBlanks_p1 n ((q_X5_look_p1 n ps f) + 1) f) f) f)), (5, .int (q_X5_readNumber_r n (q_X5_skipBlanks_p1 n ((q_X5_look_p1 n ps f) + 1) f) f)), (4, .int (nI (q_X5_skipBlanks_p1 n ((q_X5_look_p1 n ps f) + 1) f))), (3, .int (q_J0_indexOf_0f7a4_r (q_X5_look_r n ps f))), (0, .ref h0), (1, .ref h1), (2, .int x)]) hx hb dX5_readFolk_93 hl (by decide) rfl (fun ls hl => ?_)
            refine lv_iload hx hb dX5_readFolk_95 (lv_at hl 0 rfl) ?_
            refine lv_if_ne (tgt := 105) hx hb dX5_readFolk_97 (by decide) (fun c_24 => ?_) (fun c_24 => ?_)
            · refine lv_iload hx hb dX5_readFolk_105 (lv_at hl 0 rfl) ?_
              refine lv_bipush (v := 44) hx hb dX5_readFolk_107 (by decide) ?_
              refine lv_icmp_ne (tgt := 116) hx hb dX5_readFolk_109 (by decide) (fun c_25 => ?_) (fun c_25 => ?_)
              · exact kx_116 (q_X5_look_p1 n (q_X5_readNumber_p1 n (q_X5_skipBlanks_p1 n ((q_X5_look_p1 n ps f) + 1) f) f) f) (mm + 1) j x (q_X0_add_f1 mm uf (q_J0_indexOf_0f7a4_r (q_X5_look_r n ps f))) (q_X0_add_g1 mm ug (q_X5_readNumber_r n (q_X5_skipBlanks_p1 n ((q_X5_look_p1 n ps f) + 1) f) f)) 0 H locs ls (⟨by omega, by omega⟩) (by have h8 := hT9; rw [ql_X5_readFolk, if_neg c_1, if_pos c_6, if_neg c_14, if_pos c_15, if_neg c_24, if_neg c_25] at h8; exact h8.symm) (hP.sub [3, 4, 0, 1, 2] rfl) (hD.sub [3, 4, 0, 1, 2] (by decide +kernel) rfl) hS (lv_sub hl [4, 5, 6] rfl)
              · refine lv_iload_n hx hb dX5_readFolk_112 rfl (lv_at hl 6 rfl) ?_
                refine lv_if_ne (tgt := 124) hx hb dX5_readFolk_113 (by decide) (fun c_26 => ?_) (fun c_26 => ?_)
                · have hq26 := hwr_21.1 (z_eq0 c_25 (by decide))
                  refine lv_aload_n hx hb dX5_readFolk_124 rfl (lv_at hl 4 rfl) ?_
                  refine lv_dup hx hb dX5_readFolk_125 rfl ?_
                  refine va_get (D := Z.1) (ci := 5) (v := .int (nI (q_X5_look_p1 n (q_X5_readNumber_p1 n (q_X5_skipBlanks_p1 n ((q_X5_look_p1 n ps f) + 1) f) f) f))) (C := RX5) (T := TX5) (N := 3) hx hb hts hin5 hown hK hP 3 rfl rfl 1 (by decide) (hts (.fieldLink RX5 15 "HalfAsked$Tape" "at" "I") (List.mem_of_getElem? (i := 1) rfl)) (fun _ h9 => h9) rfl dX5_readFolk_126 ?_
                  refine lv_iconst (v := 1) hx hb dX5_readFolk_129 (by decide) ?_
                  refine lv_iadd hx hb dX5_readFolk_130 ?_
                  refine lv_topi (fun f_27 ef_27 => ?_)
                  obtain rfl : nI ((q_X5_look_p1 n (q_X5_readNumber_p1 n (q_X5_skipBlanks_p1 n ((q_X5_look_p1 n ps f) + 1) f) f) f) + 1) = f_27 := (ef_27.trans (nI_1 _)).symm
                  refine va_put (D := Z.1) (ci := 5) (v := .int (nI ((q_X5_look_p1 n (q_X5_readNumber_p1 n (q_X5_skipBlanks_p1 n ((q_X5_look_p1 n ps f) + 1) f) f) f) + 1))) (ty := .int) (C := RX5) (T := TX5) (N := 3) hx hb hts hin5 tyX5 tyX5_ok nmX5 hown hK hP hD hS 3 rfl rfl 1 (by decide) (hts (.fieldLink RX5 15 "HalfAsked$Tape" "at" "I") (List.mem_of_getElem? (i := 1) rfl)) (fun _ h9 => h9) rfl (by decide +kernel) rfl rfl (Nat.le_of_ble_eq_true rfl) dX5_readFolk_131 (fun H locs hP hD hS => ?_)
                  have hP : va_P Z.1 vwCl [(h1, .inr (0, [.int (nI (mm + 1)), .int 16510910, .int 0, .ref k, .ref q])), (k, .inl (Z.2 0, 5, .inl (q_X0_add_f1 mm uf (q_J0_indexOf_0f7a4_r (q_X5_look_r n ps f))))), (q, .inl (Z.2 0, 5, .inl (q_X0_add_g1 mm ug (q_X5_readNumber_r n (q_X5_skipBlanks_p1 n ((q_X5_look_p1 n ps f) + 1) f) f)))), (h0, .inr (5, [.int (nI n), .int (nI ((q_X5_look_p1 n (q_X5_readNumber_p1 n (q_X5_skipBlanks_p1 n ((q_X5_look_p1 n ps f) + 1) f) f) f) + 1)), .ref tk])), (tk, .inl (Z.2 1, 80, .inl f))] H := hP
                  have hD : va_D A [(h1, .inr (0, [.int (nI (mm + 1)), .int 16510910, .int 0, .ref k, .ref q])), (k, .inl (Z.2 0, 5, .inl (q_X0_add_f1 mm uf (q_J0_indexOf_0f7a4_r (q_X5_look_r n ps f))))), (q, .inl (Z.2 0, 5, .inl (q_X0_add_g1 mm ug (q_X5_readNumber_r n (q_X5_skipBlanks_p1 n ((q_X5_look_p1 n ps f) + 1) f) f)))), (h0, .inr (5, [.int (nI n), .int (nI ((q_X5_look_p1 n (q_X5_readNumber_p1 n (q_X5_skipBlanks_p1 n ((q_X5_look_p1 n ps f) + 1) f) f) f) + 1)), .ref tk])), (tk, .inl (Z.2 1, 80, .inl f))] := hD
                  refine lv_iinc (v := x + (-1)) (lv' := [(2, .int (x + (-1))), (6, .int (q_X5_look_r n (q_X5_readNumber_p1 n (q_X5_skipBlanks_p1 n ((q_X5_look_p1 n ps f) + 1) f) f) f)), (5, .int (q_X5_readNumber_r n (q_X5_skipBlanks_p1 n ((q_X5_look_p1 n ps f) + 1) f) f)), (4, .int (nI (q_X5_skipBlanks_p1 n ((q_X5_look_p1 n ps f) + 1) f))), (3, .int (q_J0_indexOf_0f7a4_r (q_X5_look_r n ps f))), (0, .ref h0), (1, .ref h1)]) hx hb dX5_readFolk_134 hl (k := 6) rfl rfl (by decide) rfl (fun ls hl => ?_)
                  refine lv_goto (tgt := 11) hx hb dX5_readFolk_137 (by decide) ?_
                  exact ih ((q_X5_look_p1 n (q_X5_readNumber_p1 n (q_X5_skipBlanks_p1 n ((q_X5_look_p1 n ps f) + 1) f) f) f) + 1) (mm + 1) (j - 1) (x + (-1)) (q_X0_add_f1 mm uf (q_J0_indexOf_0f7a4_r (q_X5_look_r n ps f))) (q_X0_add_g1 mm ug (q_X5_readNumber_r n (q_X5_skipBlanks_p1 n ((q_X5_look_p1 n ps f) + 1) f) f)) (by omega) (by omega) (by omega) (hdn.2) (by have h8 := hT9; rw [ql_X5_readFolk, if_neg c_1, if_pos c_6, if_neg c_14, if_pos c_15, if_neg c_24, if_pos c_25, if_neg c_26] at h8; exact h8) H locs ls (hP.sub [3, 4, 0, 1, 2] rfl) (hD.sub [3, 4, 0, 1, 2] (by decide +kernel) rfl) hS (lv_sub hl [5, 6, 0] rfl)
                · exact kx_116 (q_X5_look_p1 n (q_X5_readNumber_p1 n (q_X5_skipBlanks_p1 n ((q_X5_look_p1 n ps f) + 1) f) f) f) (mm + 1) j x (q_X0_add_f1 mm uf (q_J0_indexOf_0f7a4_r (q_X5_look_r n ps f))) (q_X0_add_g1 mm ug (q_X5_readNumber_r n (q_X5_skipBlanks_p1 n ((q_X5_look_p1 n ps f) + 1) f) f)) 0 H locs ls (⟨by omega, by omega⟩) (by have h8 := hT9; rw [ql_X5_readFolk, if_neg c_1, if_pos c_6, if_neg c_14, if_pos c_15, if_neg c_24, if_pos c_25, if_pos c_26] at h8; exact h8.symm) (hP.sub [3, 4, 0, 1, 2] rfl) (hD.sub [3, 4, 0, 1, 2] (by decide +kernel) rfl) hS (lv_sub hl [4, 5, 6] rfl)
            · exact kx_100 (q_X5_look_p1 n (q_X5_readNumber_p1 n (q_X5_skipBlanks_p1 n ((q_X5_look_p1 n ps f) + 1) f) f) f) (mm + 1) j x (q_X0_add_f1 mm uf (q_J0_indexOf_0f7a4_r (q_X5_look_r n ps f))) (q_X0_add_g1 mm ug (q_X5_readNumber_r n (q_X5_skipBlanks_p1 n ((q_X5_look_p1 n ps f) + 1) f) f)) 0 H locs ls (⟨by omega, by omega⟩) (by have h8 := hT9; rw [ql_X5_readFolk, if_neg c_1, if_pos c_6, if_neg c_14, if_pos c_15, if_pos c_24] at h8; exact h8.symm) (hP.sub [3, 4, 0, 1, 2] rfl) (hD.sub [3, 4, 0, 1, 2] (by decide +kernel) rfl) hS (lv_sub hl [4, 5, 6] rfl)
          · exact kx_76 (q_X5_readNumber_p1 n (q_X5_skipBlanks_p1 n ((q_X5_look_p1 n ps f) + 1) f) f) mm j x uf ug (q_X5_skipBlanks_p1 n ((q_X5_look_p1 n ps f) + 1) f) H locs ls (⟨by omega, by omega⟩) (by have h8 := hT9; rw [ql_X5_readFolk, if_neg c_1, if_pos c_6, if_neg c_14, if_neg c_15] at h8; exact h8.symm) (hP.sub [3, 4, 0, 1, 2] rfl) (hD.sub [3, 4, 0, 1, 2] (by decide +kernel) rfl) hS (lv_sub hl [3, 4, 5, 1] rfl)
      · exact kx_29 (q_X5_look_p1 n ps f) mm j x uf ug 0 H locs ls (⟨by omega, by omega⟩) (by have h8 := hT9; rw [ql_X5_readFolk, if_neg c_1, if_neg c_6] at h8; exact h8.symm) (hP.sub [3, 4, 0, 1, 2] rfl) (hD.sub [3, 4, 0, 1, 2] (by decide +kernel) rfl) hS (lv_sub hl [1, 2, 3] rfl)
def q_X5_readFolk_r (n : Nat) (f : Nat → Int32) (uf : Nat → Int32) (ug : Nat → Int32) : Int32 := (if (ql_X5_readFolk n f 6 0 0 5 4 uf ug).1 = 0 then ((-20) - (nI ((ql_X5_readFolk n f 6 0 0 5 4 uf ug).2.1))) else (if (ql_X5_readFolk n f 6 0 0 5 4 uf ug).1 = 1 then ((-20) - (nI ((ql_X5_readFolk n f 6 0 0 5 4 uf ug).2.2.2.2.2.2.2))) else (if (ql_X5_readFolk n f 6 0 0 5 4 uf ug).1 = 2 then (nI ((ql_X5_readFolk n f 6 0 0 5 4 uf ug).2.2.1)) else (if (ql_X5_readFolk n f 6 0 0 5 4 uf ug).1 = 3 then ((-20) - (nI ((ql_X5_readFolk n f 6 0 0 5 4 uf ug).2.1))) else ((-20) - (nI ((ql_X5_readFolk n f 6 0 0 5 4 uf ug).2.1)))))))
def q_X5_readFolk_p1 (n : Nat) (f : Nat → Int32) (uf : Nat → Int32) (ug : Nat → Int32) : Nat := (if (ql_X5_readFolk n f 6 0 0 5 4 uf ug).1 = 0 then ((ql_X5_readFolk n f 6 0 0 5 4 uf ug).2.1) else (if (ql_X5_readFolk n f 6 0 0 5 4 uf ug).1 = 1 then ((ql_X5_readFolk n f 6 0 0 5 4 uf ug).2.1) else (if (ql_X5_readFolk n f 6 0 0 5 4 uf ug).1 = 2 then ((ql_X5_readFolk n f 6 0 0 5 4 uf ug).2.1) else (if (ql_X5_readFolk n f 6 0 0 5 4 uf ug).1 = 3 then ((ql_X5_readFolk n f 6 0 0 5 4 uf ug).2.1) else ((ql_X5_readFolk n f 6 0 0 5 4 uf ug).2.1)))))
def q_X5_readFolk_mm (n : Nat) (f : Nat → Int32) (uf : Nat → Int32) (ug : Nat → Int32) : Nat := (if (ql_X5_readFolk n f 6 0 0 5 4 uf ug).1 = 0 then ((ql_X5_readFolk n f 6 0 0 5 4 uf ug).2.2.1) else (if (ql_X5_readFolk n f 6 0 0 5 4 uf ug).1 = 1 then ((ql_X5_readFolk n f 6 0 0 5 4 uf ug).2.2.1) else (if (ql_X5_readFolk n f 6 0 0 5 4 uf ug).1 = 2 then ((ql_X5_readFolk n f 6 0 0 5 4 uf ug).2.2.1) else (if (ql_X5_readFolk n f 6 0 0 5 4 uf ug).1 = 3 then ((ql_X5_readFolk n f 6 0 0 5 4 uf ug).2.2.1) else ((ql_X5_readFolk n f 6 0 0 5 4 uf ug).2.2.1)))))
def q_X5_readFolk_uf1 (n : Nat) (f : Nat → Int32) (uf : Nat → Int32) (ug : Nat → Int32) : Nat → Int32 := (if (ql_X5_readFolk n f 6 0 0 5 4 uf ug).1 = 0 then ((ql_X5_readFolk n f 6 0 0 5 4 uf ug).2.2.2.2.2.1) else (if (ql_X5_readFolk n f 6 0 0 5 4 uf ug).1 = 1 then ((ql_X5_readFolk n f 6 0 0 5 4 uf ug).2.2.2.2.2.1) else (if (ql_X5_readFolk n f 6 0 0 5 4 uf ug).1 = 2 then ((ql_X5_readFolk n f 6 0 0 5 4 uf ug).2.2.2.2.2.1) else (if (ql_X5_readFolk n f 6 0 0 5 4 uf ug).1 = 3 then ((ql_X5_readFolk n f 6 0 0 5 4 uf ug).2.2.2.2.2.1) else ((ql_X5_readFolk n f 6 0 0 5 4 uf ug).2.2.2.2.2.1)))))
def q_X5_readFolk_ug1 (n : Nat) (f : Nat → Int32) (uf : Nat → Int32) (ug : Nat → Int32) : Nat → Int32 := (if (ql_X5_readFolk n f 6 0 0 5 4 uf ug).1 = 0 then ((ql_X5_readFolk n f 6 0 0 5 4 uf ug).2.2.2.2.2.2.1) else (if (ql_X5_readFolk n f 6 0 0 5 4 uf ug).1 = 1 then ((ql_X5_readFolk n f 6 0 0 5 4 uf ug).2.2.2.2.2.2.1) else (if (ql_X5_readFolk n f 6 0 0 5 4 uf ug).1 = 2 then ((ql_X5_readFolk n f 6 0 0 5 4 uf ug).2.2.2.2.2.2.1) else (if (ql_X5_readFolk n f 6 0 0 5 4 uf ug).1 = 3 then ((ql_X5_readFolk n f 6 0 0 5 4 uf ug).2.2.2.2.2.2.1) else ((ql_X5_readFolk n f 6 0 0 5 4 uf ug).2.2.2.2.2.2.1)))))
set_option maxHeartbeats 4000000 in
set_option maxRecDepth 100000 in
theorem c_X5_readFolk (l : Launch) (Z : gZ) (sz : Nat) (h0 : Nat) (tk : Nat) (n : Nat) (x0 : Int32) (f : Nat → Int32) (h1 : Nat) (v : Int32) (kn : Int32) (ak : Int32) (k : Nat) (q : Nat) (uf : Nat → Int32) (ug : Nat → Int32) (kA : Nat) (vA : Nat) (hn : n ≤ 80) (hc : zC f) : Met l yX5_readFolk wsX5_readFolk ({ frames := 7, cells := 0, slots := 0, locals := 300 }) (va_Pc [.ref h0, .ref h1] (fun U => U.heap.size = sz ∧ va_P Z.1 vwCl [(h0, .inr (5, [.int (nI n), .int x0, .ref tk])), (tk, .inl (Z.2 1, 80, .inl f)), (h1, .inr (0, [.int v, .int kn, .int ak, .ref k, .ref q])), (k, .inl (Z.2 0, 5, .inl uf)), (q, .inl (Z.2 0, 5, .inl ug))] U.heap ∧ va_K Z.1 vwCl (gT Z) U ∧ va_D (fun _ => True) [(h0, .inr (5, [.int (nI n), .int x0, .ref tk])), (tk, .inl (Z.2 1, 80, .inl f)), (h1, .inr (0, [.int v, .int kn, .int ak, .ref k, .ref q])), (k, .inl (Z.2 0, 5, .inl uf)), (q, .inl (Z.2 0, 5, .inl ug))] ∧ gS kA vA (va_A [(h0, .inr (5, [.int (nI n), .int x0, .ref tk])), (tk, .inl (Z.2 1, 80, .inl f)), (h1, .inr (0, [.int v, .int kn, .int ak, .ref k, .ref q])), (k, .inl (Z.2 0, 5, .inl uf)), (q, .inl (Z.2 0, 5, .inl ug))] sz) U)) (va_Qi (fun (r : Int32) (u : Nat × Nat × (Nat → Int32) × (Nat → Int32)) => match u with | (p1, mm, uf1, ug1) => r = q_X5_readFolk_r n f uf ug ∧ q_X5_readFolk_p1 n f uf ug = p1 ∧ q_X5_readFolk_mm n f uf ug = mm ∧ q_X5_readFolk_uf1 n f uf ug = uf1 ∧ q_X5_readFolk_ug1 n f uf ug = ug1 ∧ (p1 ≤ n ∧ mm ≤ 5)) (fun (u : Nat × Nat × (Nat → Int32) × (Nat → Int32)) (t9 : State) => match u with | (p1, mm, uf1, ug1) => va_P Z.1 vwCl [(h0, .inr (5, [.int (nI n), .int (nI p1), .ref tk])), (tk, .inl (Z.2 1, 80, .inl f)), (h1, .inr (0, [.int (nI mm), .int 16510910, .int 0, .ref k, .ref q])), (k, .inl (Z.2 0, 5, .inl uf1)), (q, .inl (Z.2 0, 5, .inl ug1))] t9.heap ∧ va_D (va_A [(h0, .inr (5, [.int (nI n), .int x0, .ref tk])), (tk, .inl (Z.2 1, 80, .inl f)), (h1, .inr (0, [.int v, .int kn, .int ak, .ref k, .ref q])), (k, .inl (Z.2 0, 5, .inl uf)), (q, .inl (Z.2 0, 5, .inl ug))] sz) [(h0, .inr (5, [.int (nI n), .int (nI p1), .ref tk])), (tk, .inl (Z.2 1, 80, .inl f)), (h1, .inr (0, [.int (nI mm), .int 16510910, .int 0, .ref k, .ref q])), (k, .inl (Z.2 0, 5, .inl uf1)), (q, .inl (Z.2 0, 5, .inl ug1))]) (va_A [(h0, .inr (5, [.int (nI n), .int x0, .ref tk])), (tk, .inl (Z.2 1, 80, .inl f)), (h1, .inr (0, [.int v, .int kn, .int ak, .ref k, .ref q])), (k, .inl (Z.2 0, 5, .inl uf)), (q, .inl (Z.2 0, 5, .inl ug))] sz)) 0 0 (va_A [(h0, .inr (5, [.int (nI n), .int x0, .ref tk])), (tk, .inl (Z.2 1, 80, .inl f)), (h1, .inr (0, [.int v, .int kn, .int ak, .ref k, .ref q])), (k, .inl (Z.2 0, 5, .inl uf)), (q, .inl (Z.2 0, 5, .inl ug))] sz) := by
  refine Met.ofW (cc := cX5_readFolk) (maxL := 7) (ret := (some .int)) (by decide) rfl ?_
  intro p e s m args below meth c s₁ B hml hv
  obtain ⟨rfl, hsz, hP, hK, hD0, hG⟩ := hv
  have hx := B.exec
  have hb := B.bytes
  have hr := B.returns
  have hts := atoms_spec (ws := wsX5_readFolk) B.pre
  have hown : s.vm.findClass RX5 = some m.cls := findClass_of_methodNamed B.named
  have hlocks := B.notSynchronized
  subst hsz
  have hin0 : ∀ w ∈ wsX00, w ∈ wsX5_readFolk := fun w h9 => (List.mem_cons_of_mem _ (List.mem_append_right _ h9))
  have hin5 : ∀ w ∈ wsX50, w ∈ wsX5_readFolk := fun w h9 => (List.mem_cons_of_mem _ (List.mem_append_left _ (List.mem_append_right _ h9)))
  have hD := hD0.self (sz := s.heap.size)
  generalize hAe : va_A [(h0, .inr (5, [.int (nI n), .int x0, .ref tk])), (tk, .inl (Z.2 1, 80, .inl f)), (h1, .inr (0, [.int v, .int kn, .int ak, .ref k, .ref q])), (k, .inl (Z.2 0, 5, .inl uf)), (q, .inl (Z.2 0, 5, .inl ug))] s.heap.size = A at hD hG ⊢
  have hA : ∀ q : Nat, s.heap.size ≤ q → A q := fun q h => by rw [← hAe]; exact Or.inr h
  have hS : va_S A s.heap s.heap [] := va_S.rf
  have hP : va_P Z.1 vwCl [(h0, .inr (5, [.int (nI n), .int x0, .ref tk])), (tk, .inl (Z.2 1, 80, .inl f)), (h1, .inr (0, [.int v, .int kn, .int ak, .ref k, .ref q])), (k, .inl (Z.2 0, 5, .inl uf)), (q, .inl (Z.2 0, 5, .inl ug))] s.heap := hP
  have hl := lv_entry ([.ref h0, .ref h1]) (n := 7) (Nat.le_of_ble_eq_true rfl)
  rw [lg_entry_eq]
  generalize (lg_sl ([.ref h0, .ref h1]) ++ List.replicate (7 - (lg_sl ([.ref h0, .ref h1])).length) Slot.unset).toArray = ls at hl ⊢
  have hl : lv_has ls 7 [(0, .ref h0), (1, .ref h1)] := hl
  refine lv_aload_n hx hb dX5_readFolk_0 rfl (lv_at hl 1 rfl) ?_
  have hPc := hP.sub (ws' := [(h1, .inr (0, [.int v, .int kn, .int ak, .ref k, .ref q]))]) [2] rfl
  have hDc := hD.sub (ws' := [(h1, .inr (0, [.int v, .int kn, .int ak, .ref k, .ref q]))]) [2] (by decide +kernel) rfl
  have hFc := va_free (wc := [(h1, .inr (0, [.int v, .int kn, .int ak, .ref k, .ref q]))]) hD hS hA [2] rfl
  refine va_callv (va_runV (As := []) (rest := []) ⟨hx, hb, hml, hown, hts⟩ (c_X0_clear l Z s.heap.size h1 v kn ak k q) (cwV 0 hts gX5_readFolk_X0_clear rfl rfl rfl (by decide +kernel) ⟨Nat.le_of_ble_eq_true rfl, Nat.le_of_ble_eq_true rfl⟩) ⟨fun a U g mk q => by obtain ⟨q0, q1, qP, qK, qD⟩ := q; exact ⟨q0, q1, qP, va_K.moved (u := U) (U := U.calling g mk a) (Vm.Alike.refl U.vm) qK, qD⟩, va_recv hK hPc (ci := 0) (q0 := 0) rfl rfl, fun U hU hW => ⟨rfl, by rw [hU], by rw [hU]; exact hPc, va_K.moved hW.alike hK, hDc.weaken (fun _ _ _ _ => trivial)⟩⟩ rfl rfl hl.1 rfl (lv_room (Nat.le_of_ble_eq_true rfl)) dX5_readFolk_1 ⟨Nat.le_of_ble_eq_true rfl, Nat.le_of_ble_eq_true rfl⟩) hS (fun q _ h => hFc q h) hFc (fun u t9 H1 locs ht hvm hw hB hz1 hk1 hS => ?_)
  obtain ⟨hP1, hD1⟩ := hB
  rw [ht] at hP1
  obtain ⟨hP, hD⟩ := va_join (wr := [(h0, .inr (5, [.int (nI n), .int x0, .ref tk])), (tk, .inl (Z.2 1, 80, .inl f)), (k, .inl (Z.2 0, 5, .inl uf)), (q, .inl (Z.2 0, 5, .inl ug))]) (w1 := [(h1, .inr (0, [.int 0, .int 16510910, .int 0, .ref k, .ref q]))]) hP hD [2] [0, 1, 3, 4] rfl rfl (by decide +kernel) (by decide +kernel) hk1 hFc hP1 hD1
  clear hPc hDc hP1 hD1 hk1 hz1 hFc ht hvm
  generalize H1 = H at hP hS ⊢
  have hP : va_P Z.1 vwCl [(h0, .inr (5, [.int (nI n), .int x0, .ref tk])), (tk, .inl (Z.2 1, 80, .inl f)), (k, .inl (Z.2 0, 5, .inl uf)), (q, .inl (Z.2 0, 5, .inl ug)), (h1, .inr (0, [.int 0, .int 16510910, .int 0, .ref k, .ref q]))] H := hP
  have hD : va_D A [(h0, .inr (5, [.int (nI n), .int x0, .ref tk])), (tk, .inl (Z.2 1, 80, .inl f)), (k, .inl (Z.2 0, 5, .inl uf)), (q, .inl (Z.2 0, 5, .inl ug)), (h1, .inr (0, [.int 0, .int 16510910, .int 0, .ref k, .ref q]))] := hD
  refine lv_aload_n hx hb dX5_readFolk_4 rfl (lv_at hl 0 rfl) ?_
  refine lv_iconst (v := 0) hx hb dX5_readFolk_5 (by decide) ?_
  refine va_put (D := Z.1) (ci := 5) (v := .int 0) (ty := .int) (C := RX5) (T := TX5) (N := 3) hx hb hts hin5 tyX5 tyX5_ok nmX5 hown hK hP hD hS 0 rfl rfl 1 (by decide) (hts (.fieldLink RX5 15 "HalfAsked$Tape" "at" "I") (List.mem_of_getElem? (i := 1) rfl)) (fun _ h9 => h9) rfl (by decide +kernel) rfl rfl (Nat.le_of_ble_eq_true rfl) dX5_readFolk_6 (fun H locs hP hD hS => ?_)
  have hP : va_P Z.1 vwCl [(h0, .inr (5, [.int (nI n), .int 0, .ref tk])), (tk, .inl (Z.2 1, 80, .inl f)), (k, .inl (Z.2 0, 5, .inl uf)), (q, .inl (Z.2 0, 5, .inl ug)), (h1, .inr (0, [.int 0, .int 16510910, .int 0, .ref k, .ref q]))] H := hP
  have hD : va_D A [(h0, .inr (5, [.int (nI n), .int 0, .ref tk])), (tk, .inl (Z.2 1, 80, .inl f)), (k, .inl (Z.2 0, 5, .inl uf)), (q, .inl (Z.2 0, 5, .inl ug)), (h1, .inr (0, [.int 0, .int 16510910, .int 0, .ref k, .ref q]))] := hD
  refine lv_iconst (v := 4) hx hb dX5_readFolk_9 (by decide) ?_
  refine lv_istore_n (lv' := [(2, .int 4), (0, .ref h0), (1, .ref h1)]) hx hb dX5_readFolk_10 rfl hl (by decide) rfl (fun ls hl => ?_)
  refine lp_X5_readFolk Z h0 tk n f h1 k q (ql_X5_readFolk n f 6 0 0 5 4 uf ug) hn hc hx hb hml hts hown hK hA kA vA hG (fun p' m' j' x' uf' ug' sv H locs ls he hT9_1 hP hD hS hl => ?_) (fun p' m' j' x' uf' ug' sv H locs ls he hT9_1 hP hD hS hl => ?_) (fun p' m' j' x' uf' ug' sv H locs ls he hT9_1 hP hD hS hl => ?_) (fun p' m' j' x' uf' ug' sv H locs ls he hT9_1 hP hD hS hl => ?_) (fun p' m' j' x' uf' ug' sv H locs ls he hT9_1 hP hD hS hl => ?_) 6 0 0 5 4 uf ug (by decide) (Nat.zero_le _) (by decide) (Or.inr ⟨4, rfl, rfl⟩) (rfl) H _ ls (hP.sub [0, 1, 4, 2, 3] rfl) (hD.sub [0, 1, 4, 2, 3] (by decide +kernel) rfl) hS (lv_sub hl [1, 2, 0] rfl)
  · have hT9_1_t0 : (ql_X5_readFolk n f 6 0 0 5 4 uf ug).1 = 0 := by rw [hT9_1]
    have e9p : (ql_X5_readFolk n f 6 0 0 5 4 uf ug).2.1 = p' := by rw [hT9_1]
    have e9m : (ql_X5_readFolk n f 6 0 0 5 4 uf ug).2.2.1 = m' := by rw [hT9_1]
    have e9j : (ql_X5_readFolk n f 6 0 0 5 4 uf ug).2.2.2.1 = j' := by rw [hT9_1]
    have e9x : (ql_X5_readFolk n f 6 0 0 5 4 uf ug).2.2.2.2.1 = x' := by rw [hT9_1]
    have e9uf : (ql_X5_readFolk n f 6 0 0 5 4 uf ug).2.2.2.2.2.1 = uf' := by rw [hT9_1]
    have e9ug : (ql_X5_readFolk n f 6 0 0 5 4 uf ug).2.2.2.2.2.2.1 = ug' := by rw [hT9_1]
    have e9sv : (ql_X5_readFolk n f 6 0 0 5 4 uf ug).2.2.2.2.2.2.2 = sv := by rw [hT9_1]
    subst e9p
    subst e9m
    subst e9j
    subst e9x
    subst e9uf
    subst e9ug
    subst e9sv
    refine lv_aload_n hx hb dX5_readFolk_29 rfl (lv_at hl 0 rfl) ?_
    refine va_get (D := Z.1) (ci := 5) (v := .int (nI ((ql_X5_readFolk n f 6 0 0 5 4 uf ug).2.1))) (C := RX5) (T := TX5) (N := 3) hx hb hts hin5 hown hK hP 0 rfl rfl 1 (by decide) (hts (.fieldLink RX5 15 "HalfAsked$Tape" "at" "I") (List.mem_of_getElem? (i := 1) rfl)) (fun _ h9 => h9) rfl dX5_readFolk_30 ?_
    have hPc := hP.sub (ws' := []) [] rfl
    have hDc := hD.sub (ws' := []) [] (by decide +kernel) rfl
    have hFc := va_free (wc := []) hD hS hA [] rfl
    refine va_calli (va_runS (As := [.int (nI ((ql_X5_readFolk n f 6 0 0 5 4 uf ug).2.1))]) (rest := []) ⟨hx, hb, hml, hown, hts⟩ (c_X5_fault l Z H.size (nI ((ql_X5_readFolk n f 6 0 0 5 4 uf ug).2.1))) (va_cwS 1 hts gX5_readFolk_X5_fault rfl rfl rfl (by decide +kernel) ⟨Nat.le_of_ble_eq_true rfl, Nat.le_of_ble_eq_true rfl⟩) ⟨fun a U g mk q => by obtain ⟨q0, q1, qP, qK, qD⟩ := q; exact ⟨q0, q1, qP, va_K.moved (u := U) (U := U.calling g mk a) (Vm.Alike.refl U.vm) qK, qD⟩, fun U hU hW => ⟨rfl, by rw [hU], by rw [hU]; exact hPc, va_K.moved hW.alike hK, hDc.weaken (fun _ _ _ _ => trivial)⟩⟩ rfl rfl hl.1 rfl (lv_room (Nat.le_of_ble_eq_true rfl)) dX5_readFolk_33 ⟨Nat.le_of_ble_eq_true rfl, Nat.le_of_ble_eq_true rfl⟩) hS (fun q _ h => hFc q h) hFc (fun r_3 u t9 H1 locs ht hvm hw hB hz1 hk1 hS => ?_)
    have hw9 := hw.symm
    clear hw
    subst hw9
    have hP1 : va_P Z.1 vwCl [] H1 := fun k q h => by simp at h
    have hD1 : va_D (va_A [] H.size) [] := ⟨fun i j p q h => by simp at h, fun k q h => by simp at h⟩
    obtain ⟨hP, hD⟩ := va_join (wr := [(h0, .inr (5, [.int (nI n), .int (nI ((ql_X5_readFolk n f 6 0 0 5 4 uf ug).2.1)), .ref tk])), (tk, .inl (Z.2 1, 80, .inl f)), (h1, .inr (0, [.int (nI ((ql_X5_readFolk n f 6 0 0 5 4 uf ug).2.2.1)), .int 16510910, .int 0, .ref k, .ref q])), (k, .inl (Z.2 0, 5, .inl ((ql_X5_readFolk n f 6 0 0 5 4 uf ug).2.2.2.2.2.1))), (q, .inl (Z.2 0, 5, .inl ((ql_X5_readFolk n f 6 0 0 5 4 uf ug).2.2.2.2.2.2.1)))]) (w1 := []) hP hD [] [0, 1, 2, 3, 4] rfl rfl (by decide +kernel) (by decide +kernel) hk1 hFc hP1 hD1
    clear hPc hDc hP1 hD1 hk1 hz1 hFc ht hvm
    generalize H1 = H at hP hS ⊢
    have hP : va_P Z.1 vwCl [(h0, .inr (5, [.int (nI n), .int (nI ((ql_X5_readFolk n f 6 0 0 5 4 uf ug).2.1)), .ref tk])), (tk, .inl (Z.2 1, 80, .inl f)), (h1, .inr (0, [.int (nI ((ql_X5_readFolk n f 6 0 0 5 4 uf ug).2.2.1)), .int 16510910, .int 0, .ref k, .ref q])), (k, .inl (Z.2 0, 5, .inl ((ql_X5_readFolk n f 6 0 0 5 4 uf ug).2.2.2.2.2.1))), (q, .inl (Z.2 0, 5, .inl ((ql_X5_readFolk n f 6 0 0 5 4 uf ug).2.2.2.2.2.2.1)))] H := hP
    have hD : va_D A [(h0, .inr (5, [.int (nI n), .int (nI ((ql_X5_readFolk n f 6 0 0 5 4 uf ug).2.1)), .ref tk])), (tk, .inl (Z.2 1, 80, .inl f)), (h1, .inr (0, [.int (nI ((ql_X5_readFolk n f 6 0 0 5 4 uf ug).2.2.1)), .int 16510910, .int 0, .ref k, .ref q])), (k, .inl (Z.2 0, 5, .inl ((ql_X5_readFolk n f 6 0 0 5 4 uf ug).2.2.2.2.2.1))), (q, .inl (Z.2 0, 5, .inl ((ql_X5_readFolk n f 6 0 0 5 4 uf ug).2.2.2.2.2.2.1)))] := hD
    have hP9 := hP.sub (ws' := [(h0, .inr (5, [.int (nI n), .int (nI ((ql_X5_readFolk n f 6 0 0 5 4 uf ug).2.1)), .ref tk])), (tk, .inl (Z.2 1, 80, .inl f)), (h1, .inr (0, [.int (nI ((ql_X5_readFolk n f 6 0 0 5 4 uf ug).2.2.1)), .int 16510910, .int 0, .ref k, .ref q])), (k, .inl (Z.2 0, 5, .inl ((ql_X5_readFolk n f 6 0 0 5 4 uf ug).2.2.2.2.2.1))), (q, .inl (Z.2 0, 5, .inl ((ql_X5_readFolk n f 6 0 0 5 4 uf ug).2.2.2.2.2.2.1)))]) [0, 1, 2, 3, 4] rfl
    have hD9 := hD.sub (ws' := [(h0, .inr (5, [.int (nI n), .int (nI ((ql_X5_readFolk n f 6 0 0 5 4 uf ug).2.1)), .ref tk])), (tk, .inl (Z.2 1, 80, .inl f)), (h1, .inr (0, [.int (nI ((ql_X5_readFolk n f 6 0 0 5 4 uf ug).2.2.1)), .int 16510910, .int 0, .ref k, .ref q])), (k, .inl (Z.2 0, 5, .inl ((ql_X5_readFolk n f 6 0 0 5 4 uf ug).2.2.2.2.2.1))), (q, .inl (Z.2 0, 5, .inl ((ql_X5_readFolk n f 6 0 0 5 4 uf ug).2.2.2.2.2.2.1)))]) [0, 1, 2, 3, 4] (by decide +kernel) rfl
    exact W.iret (v := ((-20) - (nI ((ql_X5_readFolk n f 6 0 0 5 4 uf ug).2.1)))) hx hb hr (fun t9 ht hW => ⟨⟨(-20) - (nI ((ql_X5_readFolk n f 6 0 0 5 4 uf ug).2.1)), (((ql_X5_readFolk n f 6 0 0 5 4 uf ug).2.1), ((ql_X5_readFolk n f 6 0 0 5 4 uf ug).2.2.1), (ql_X5_readFolk n f 6 0 0 5 4 uf ug).2.2.2.2.2.1, (ql_X5_readFolk n f 6 0 0 5 4 uf ug).2.2.2.2.2.2.1), rfl, ⟨(by unfold q_X5_readFolk_r; rw [if_pos hT9_1_t0]), (by unfold q_X5_readFolk_p1; rw [if_pos hT9_1_t0]), (by unfold q_X5_readFolk_mm; rw [if_pos hT9_1_t0]), (by unfold q_X5_readFolk_uf1; rw [if_pos hT9_1_t0]), (by unfold q_X5_readFolk_ug1; rw [if_pos hT9_1_t0]), he⟩, by rw [ht]; exact hP9, hD9⟩, hS.F ht⟩) hS.2.2 dX5_readFolk_36
  · have hT9_1_t0 : ¬ (ql_X5_readFolk n f 6 0 0 5 4 uf ug).1 = 0 := by rw [hT9_1]; exact (show ¬ (1 : Nat) = 0 by decide)
    have hT9_1_t1 : (ql_X5_readFolk n f 6 0 0 5 4 uf ug).1 = 1 := by rw [hT9_1]
    have e9p : (ql_X5_readFolk n f 6 0 0 5 4 uf ug).2.1 = p' := by rw [hT9_1]
    have e9m : (ql_X5_readFolk n f 6 0 0 5 4 uf ug).2.2.1 = m' := by rw [hT9_1]
    have e9j : (ql_X5_readFolk n f 6 0 0 5 4 uf ug).2.2.2.1 = j' := by rw [hT9_1]
    have e9x : (ql_X5_readFolk n f 6 0 0 5 4 uf ug).2.2.2.2.1 = x' := by rw [hT9_1]
    have e9uf : (ql_X5_readFolk n f 6 0 0 5 4 uf ug).2.2.2.2.2.1 = uf' := by rw [hT9_1]
    have e9ug : (ql_X5_readFolk n f 6 0 0 5 4 uf ug).2.2.2.2.2.2.1 = ug' := by rw [hT9_1]
    have e9sv : (ql_X5_readFolk n f 6 0 0 5 4 uf ug).2.2.2.2.2.2.2 = sv := by rw [hT9_1]
    subst e9p
    subst e9m
    subst e9j
    subst e9x
    subst e9uf
    subst e9ug
    subst e9sv
    refine lv_iload hx hb dX5_readFolk_76 (lv_at hl 3 rfl) ?_
    have hPc := hP.sub (ws' := []) [] rfl
    have hDc := hD.sub (ws' := []) [] (by decide +kernel) rfl
    have hFc := va_free (wc := []) hD hS hA [] rfl
    refine va_calli (va_runS (As := [.int (nI ((ql_X5_readFolk n f 6 0 0 5 4 uf ug).2.2.2.2.2.2.2))]) (rest := []) ⟨hx, hb, hml, hown, hts⟩ (c_X5_fault l Z H.size (nI ((ql_X5_readFolk n f 6 0 0 5 4 uf ug).2.2.2.2.2.2.2))) (va_cwS 1 hts gX5_readFolk_X5_fault rfl rfl rfl (by decide +kernel) ⟨Nat.le_of_ble_eq_true rfl, Nat.le_of_ble_eq_true rfl⟩) ⟨fun a U g mk q => by obtain ⟨q0, q1, qP, qK, qD⟩ := q; exact ⟨q0, q1, qP, va_K.moved (u := U) (U := U.calling g mk a) (Vm.Alike.refl U.vm) qK, qD⟩, fun U hU hW => ⟨rfl, by rw [hU], by rw [hU]; exact hPc, va_K.moved hW.alike hK, hDc.weaken (fun _ _ _ _ => trivial)⟩⟩ rfl rfl hl.1 rfl (lv_room (Nat.le_of_ble_eq_true rfl)) dX5_readFolk_78 ⟨Nat.le_of_ble_eq_true rfl, Nat.le_of_ble_eq_true rfl⟩) hS (fun q _ h => hFc q h) hFc (fun r_4 u t9 H1 locs ht hvm hw hB hz1 hk1 hS => ?_)
    have hw9 := hw.symm
    clear hw
    subst hw9
    have hP1 : va_P Z.1 vwCl [] H1 := fun k q h => by simp at h
    have hD1 : va_D (va_A [] H.size) [] := ⟨fun i j p q h => by simp at h, fun k q h => by simp at h⟩
    obtain ⟨hP, hD⟩ := va_join (wr := [(h0, .inr (5, [.int (nI n), .int (nI ((ql_X5_readFolk n f 6 0 0 5 4 uf ug).2.1)), .ref tk])), (tk, .inl (Z.2 1, 80, .inl f)), (h1, .inr (0, [.int (nI ((ql_X5_readFolk n f 6 0 0 5 4 uf ug).2.2.1)), .int 16510910, .int 0, .ref k, .ref q])), (k, .inl (Z.2 0, 5, .inl ((ql_X5_readFolk n f 6 0 0 5 4 uf ug).2.2.2.2.2.1))), (q, .inl (Z.2 0, 5, .inl ((ql_X5_readFolk n f 6 0 0 5 4 uf ug).2.2.2.2.2.2.1)))]) (w1 := []) hP hD [] [0, 1, 2, 3, 4] rfl rfl (by decide +kernel) (by decide +kernel) hk1 hFc hP1 hD1
    clear hPc hDc hP1 hD1 hk1 hz1 hFc ht hvm
    generalize H1 = H at hP hS ⊢
    have hP : va_P Z.1 vwCl [(h0, .inr (5, [.int (nI n), .int (nI ((ql_X5_readFolk n f 6 0 0 5 4 uf ug).2.1)), .ref tk])), (tk, .inl (Z.2 1, 80, .inl f)), (h1, .inr (0, [.int (nI ((ql_X5_readFolk n f 6 0 0 5 4 uf ug).2.2.1)), .int 16510910, .int 0, .ref k, .ref q])), (k, .inl (Z.2 0, 5, .inl ((ql_X5_readFolk n f 6 0 0 5 4 uf ug).2.2.2.2.2.1))), (q, .inl (Z.2 0, 5, .inl ((ql_X5_readFolk n f 6 0 0 5 4 uf ug).2.2.2.2.2.2.1)))] H := hP
    have hD : va_D A [(h0, .inr (5, [.int (nI n), .int (nI ((ql_X5_readFolk n f 6 0 0 5 4 uf ug).2.1)), .ref tk])), (tk, .inl (Z.2 1, 80, .inl f)), (h1, .inr (0, [.int (nI ((ql_X5_readFolk n f 6 0 0 5 4 uf ug).2.2.1)), .int 16510910, .int 0, .ref k, .ref q])), (k, .inl (Z.2 0, 5, .inl ((ql_X5_readFolk n f 6 0 0 5 4 uf ug).2.2.2.2.2.1))), (q, .inl (Z.2 0, 5, .inl ((ql_X5_readFolk n f 6 0 0 5 4 uf ug).2.2.2.2.2.2.1)))] := hD
    have hP9 := hP.sub (ws' := [(h0, .inr (5, [.int (nI n), .int (nI ((ql_X5_readFolk n f 6 0 0 5 4 uf ug).2.1)), .ref tk])), (tk, .inl (Z.2 1, 80, .inl f)), (h1, .inr (0, [.int (nI ((ql_X5_readFolk n f 6 0 0 5 4 uf ug).2.2.1)), .int 16510910, .int 0, .ref k, .ref q])), (k, .inl (Z.2 0, 5, .inl ((ql_X5_readFolk n f 6 0 0 5 4 uf ug).2.2.2.2.2.1))), (q, .inl (Z.2 0, 5, .inl ((ql_X5_readFolk n f 6 0 0 5 4 uf ug).2.2.2.2.2.2.1)))]) [0, 1, 2, 3, 4] rfl
    have hD9 := hD.sub (ws' := [(h0, .inr (5, [.int (nI n), .int (nI ((ql_X5_readFolk n f 6 0 0 5 4 uf ug).2.1)), .ref tk])), (tk, .inl (Z.2 1, 80, .inl f)), (h1, .inr (0, [.int (nI ((ql_X5_readFolk n f 6 0 0 5 4 uf ug).2.2.1)), .int 16510910, .int 0, .ref k, .ref q])), (k, .inl (Z.2 0, 5, .inl ((ql_X5_readFolk n f 6 0 0 5 4 uf ug).2.2.2.2.2.1))), (q, .inl (Z.2 0, 5, .inl ((ql_X5_readFolk n f 6 0 0 5 4 uf ug).2.2.2.2.2.2.1)))]) [0, 1, 2, 3, 4] (by decide +kernel) rfl
    exact W.iret (v := ((-20) - (nI ((ql_X5_readFolk n f 6 0 0 5 4 uf ug).2.2.2.2.2.2.2)))) hx hb hr (fun t9 ht hW => ⟨⟨(-20) - (nI ((ql_X5_readFolk n f 6 0 0 5 4 uf ug).2.2.2.2.2.2.2)), (((ql_X5_readFolk n f 6 0 0 5 4 uf ug).2.1), ((ql_X5_readFolk n f 6 0 0 5 4 uf ug).2.2.1), (ql_X5_readFolk n f 6 0 0 5 4 uf ug).2.2.2.2.2.1, (ql_X5_readFolk n f 6 0 0 5 4 uf ug).2.2.2.2.2.2.1), rfl, ⟨(by unfold q_X5_readFolk_r; rw [if_neg hT9_1_t0, if_pos hT9_1_t1]), (by unfold q_X5_readFolk_p1; rw [if_neg hT9_1_t0, if_pos hT9_1_t1]), (by unfold q_X5_readFolk_mm; rw [if_neg hT9_1_t0, if_pos hT9_1_t1]), (by unfold q_X5_readFolk_uf1; rw [if_neg hT9_1_t0, if_pos hT9_1_t1]), (by unfold q_X5_readFolk_ug1; rw [if_neg hT9_1_t0, if_pos hT9_1_t1]), he⟩, by rw [ht]; exact hP9, hD9⟩, hS.F ht⟩) hS.2.2 dX5_readFolk_81
  · have hT9_1_t0 : ¬ (ql_X5_readFolk n f 6 0 0 5 4 uf ug).1 = 0 := by rw [hT9_1]; exact (show ¬ (2 : Nat) = 0 by decide)
    have hT9_1_t1 : ¬ (ql_X5_readFolk n f 6 0 0 5 4 uf ug).1 = 1 := by rw [hT9_1]; exact (show ¬ (2 : Nat) = 1 by decide)
    have hT9_1_t2 : (ql_X5_readFolk n f 6 0 0 5 4 uf ug).1 = 2 := by rw [hT9_1]
    have e9p : (ql_X5_readFolk n f 6 0 0 5 4 uf ug).2.1 = p' := by rw [hT9_1]
    have e9m : (ql_X5_readFolk n f 6 0 0 5 4 uf ug).2.2.1 = m' := by rw [hT9_1]
    have e9j : (ql_X5_readFolk n f 6 0 0 5 4 uf ug).2.2.2.1 = j' := by rw [hT9_1]
    have e9x : (ql_X5_readFolk n f 6 0 0 5 4 uf ug).2.2.2.2.1 = x' := by rw [hT9_1]
    have e9uf : (ql_X5_readFolk n f 6 0 0 5 4 uf ug).2.2.2.2.2.1 = uf' := by rw [hT9_1]
    have e9ug : (ql_X5_readFolk n f 6 0 0 5 4 uf ug).2.2.2.2.2.2.1 = ug' := by rw [hT9_1]
    have e9sv : (ql_X5_readFolk n f 6 0 0 5 4 uf ug).2.2.2.2.2.2.2 = sv := by rw [hT9_1]
    subst e9p
    subst e9m
    subst e9j
    subst e9x
    subst e9uf
    subst e9ug
    subst e9sv
    refine lv_aload_n hx hb dX5_readFolk_100 rfl (lv_at hl 1 rfl) ?_
    refine va_get (D := Z.1) (ci := 0) (v := .int (nI ((ql_X5_readFolk n f 6 0 0 5 4 uf ug).2.2.1))) (C := RX0) (T := TX0) (N := 5) hx hb hts hin0 hown hK hP 2 rfl rfl 0 (by decide) (hts (.fieldLink RX5 59 "HalfAsked$Folk" "size" "I") (List.mem_of_getElem? (i := 2) rfl)) (fun _ h9 => h9) rfl dX5_readFolk_101 ?_
    have hP9 := hP.sub (ws' := [(h0, .inr (5, [.int (nI n), .int (nI ((ql_X5_readFolk n f 6 0 0 5 4 uf ug).2.1)), .ref tk])), (tk, .inl (Z.2 1, 80, .inl f)), (h1, .inr (0, [.int (nI ((ql_X5_readFolk n f 6 0 0 5 4 uf ug).2.2.1)), .int 16510910, .int 0, .ref k, .ref q])), (k, .inl (Z.2 0, 5, .inl ((ql_X5_readFolk n f 6 0 0 5 4 uf ug).2.2.2.2.2.1))), (q, .inl (Z.2 0, 5, .inl ((ql_X5_readFolk n f 6 0 0 5 4 uf ug).2.2.2.2.2.2.1)))]) [0, 1, 2, 3, 4] rfl
    have hD9 := hD.sub (ws' := [(h0, .inr (5, [.int (nI n), .int (nI ((ql_X5_readFolk n f 6 0 0 5 4 uf ug).2.1)), .ref tk])), (tk, .inl (Z.2 1, 80, .inl f)), (h1, .inr (0, [.int (nI ((ql_X5_readFolk n f 6 0 0 5 4 uf ug).2.2.1)), .int 16510910, .int 0, .ref k, .ref q])), (k, .inl (Z.2 0, 5, .inl ((ql_X5_readFolk n f 6 0 0 5 4 uf ug).2.2.2.2.2.1))), (q, .inl (Z.2 0, 5, .inl ((ql_X5_readFolk n f 6 0 0 5 4 uf ug).2.2.2.2.2.2.1)))]) [0, 1, 2, 3, 4] (by decide +kernel) rfl
    exact W.iret (v := (nI ((ql_X5_readFolk n f 6 0 0 5 4 uf ug).2.2.1))) hx hb hr (fun t9 ht hW => ⟨⟨nI ((ql_X5_readFolk n f 6 0 0 5 4 uf ug).2.2.1), (((ql_X5_readFolk n f 6 0 0 5 4 uf ug).2.1), ((ql_X5_readFolk n f 6 0 0 5 4 uf ug).2.2.1), (ql_X5_readFolk n f 6 0 0 5 4 uf ug).2.2.2.2.2.1, (ql_X5_readFolk n f 6 0 0 5 4 uf ug).2.2.2.2.2.2.1), rfl, ⟨(by unfold q_X5_readFolk_r; rw [if_neg hT9_1_t0, if_neg hT9_1_t1, if_pos hT9_1_t2]), (by unfold q_X5_readFolk_p1; rw [if_neg hT9_1_t0, if_neg hT9_1_t1, if_pos hT9_1_t2]), (by unfold q_X5_readFolk_mm; rw [if_neg hT9_1_t0, if_neg hT9_1_t1, if_pos hT9_1_t2]), (by unfold q_X5_readFolk_uf1; rw [if_neg hT9_1_t0, if_neg hT9_1_t1, if_pos hT9_1_t2]), (by unfold q_X5_readFolk_ug1; rw [if_neg hT9_1_t0, if_neg hT9_1_t1, if_pos hT9_1_t2]), he⟩, by rw [ht]; exact hP9, hD9⟩, hS.F ht⟩) hS.2.2 dX5_readFolk_104
  · have hT9_1_t0 : ¬ (ql_X5_readFolk n f 6 0 0 5 4 uf ug).1 = 0 := by rw [hT9_1]; exact (show ¬ (3 : Nat) = 0 by decide)
    have hT9_1_t1 : ¬ (ql_X5_readFolk n f 6 0 0 5 4 uf ug).1 = 1 := by rw [hT9_1]; exact (show ¬ (3 : Nat) = 1 by decide)
    have hT9_1_t2 : ¬ (ql_X5_readFolk n f 6 0 0 5 4 uf ug).1 = 2 := by rw [hT9_1]; exact (show ¬ (3 : Nat) = 2 by decide)
    have hT9_1_t3 : (ql_X5_readFolk n f 6 0 0 5 4 uf ug).1 = 3 := by rw [hT9_1]
    have e9p : (ql_X5_readFolk n f 6 0 0 5 4 uf ug).2.1 = p' := by rw [hT9_1]
    have e9m : (ql_X5_readFolk n f 6 0 0 5 4 uf ug).2.2.1 = m' := by rw [hT9_1]
    have e9j : (ql_X5_readFolk n f 6 0 0 5 4 uf ug).2.2.2.1 = j' := by rw [hT9_1]
    have e9x : (ql_X5_readFolk n f 6 0 0 5 4 uf ug).2.2.2.2.1 = x' := by rw [hT9_1]
    have e9uf : (ql_X5_readFolk n f 6 0 0 5 4 uf ug).2.2.2.2.2.1 = uf' := by rw [hT9_1]
    have e9ug : (ql_X5_readFolk n f 6 0 0 5 4 uf ug).2.2.2.2.2.2.1 = ug' := by rw [hT9_1]
    have e9sv : (ql_X5_readFolk n f 6 0 0 5 4 uf ug).2.2.2.2.2.2.2 = sv := by rw [hT9_1]
    subst e9p
    subst e9m
    subst e9j
    subst e9x
    subst e9uf
    subst e9ug
    subst e9sv
    refine lv_aload_n hx hb dX5_readFolk_116 rfl (lv_at hl 0 rfl) ?_
    refine va_get (D := Z.1) (ci := 5) (v := .int (nI ((ql_X5_readFolk n f 6 0 0 5 4 uf ug).2.1))) (C := RX5) (T := TX5) (N := 3) hx hb hts hin5 hown hK hP 0 rfl rfl 1 (by decide) (hts (.fieldLink RX5 15 "HalfAsked$Tape" "at" "I") (List.mem_of_getElem? (i := 1) rfl)) (fun _ h9 => h9) rfl dX5_readFolk_117 ?_
    have hPc := hP.sub (ws' := []) [] rfl
    have hDc := hD.sub (ws' := []) [] (by decide +kernel) rfl
    have hFc := va_free (wc := []) hD hS hA [] rfl
    refine va_calli (va_runS (As := [.int (nI ((ql_X5_readFolk n f 6 0 0 5 4 uf ug).2.1))]) (rest := []) ⟨hx, hb, hml, hown, hts⟩ (c_X5_fault l Z H.size (nI ((ql_X5_readFolk n f 6 0 0 5 4 uf ug).2.1))) (va_cwS 1 hts gX5_readFolk_X5_fault rfl rfl rfl (by decide +kernel) ⟨Nat.le_of_ble_eq_true rfl, Nat.le_of_ble_eq_true rfl⟩) ⟨fun a U g mk q => by obtain ⟨q0, q1, qP, qK, qD⟩ := q; exact ⟨q0, q1, qP, va_K.moved (u := U) (U := U.calling g mk a) (Vm.Alike.refl U.vm) qK, qD⟩, fun U hU hW => ⟨rfl, by rw [hU], by rw [hU]; exact hPc, va_K.moved hW.alike hK, hDc.weaken (fun _ _ _ _ => trivial)⟩⟩ rfl rfl hl.1 rfl (lv_room (Nat.le_of_ble_eq_true rfl)) dX5_readFolk_120 ⟨Nat.le_of_ble_eq_true rfl, Nat.le_of_ble_eq_true rfl⟩) hS (fun q _ h => hFc q h) hFc (fun r_5 u t9 H1 locs ht hvm hw hB hz1 hk1 hS => ?_)
    have hw9 := hw.symm
    clear hw
    subst hw9
    have hP1 : va_P Z.1 vwCl [] H1 := fun k q h => by simp at h
    have hD1 : va_D (va_A [] H.size) [] := ⟨fun i j p q h => by simp at h, fun k q h => by simp at h⟩
    obtain ⟨hP, hD⟩ := va_join (wr := [(h0, .inr (5, [.int (nI n), .int (nI ((ql_X5_readFolk n f 6 0 0 5 4 uf ug).2.1)), .ref tk])), (tk, .inl (Z.2 1, 80, .inl f)), (h1, .inr (0, [.int (nI ((ql_X5_readFolk n f 6 0 0 5 4 uf ug).2.2.1)), .int 16510910, .int 0, .ref k, .ref q])), (k, .inl (Z.2 0, 5, .inl ((ql_X5_readFolk n f 6 0 0 5 4 uf ug).2.2.2.2.2.1))), (q, .inl (Z.2 0, 5, .inl ((ql_X5_readFolk n f 6 0 0 5 4 uf ug).2.2.2.2.2.2.1)))]) (w1 := []) hP hD [] [0, 1, 2, 3, 4] rfl rfl (by decide +kernel) (by decide +kernel) hk1 hFc hP1 hD1
    clear hPc hDc hP1 hD1 hk1 hz1 hFc ht hvm
    generalize H1 = H at hP hS ⊢
    have hP : va_P Z.1 vwCl [(h0, .inr (5, [.int (nI n), .int (nI ((ql_X5_readFolk n f 6 0 0 5 4 uf ug).2.1)), .ref tk])), (tk, .inl (Z.2 1, 80, .inl f)), (h1, .inr (0, [.int (nI ((ql_X5_readFolk n f 6 0 0 5 4 uf ug).2.2.1)), .int 16510910, .int 0, .ref k, .ref q])), (k, .inl (Z.2 0, 5, .inl ((ql_X5_readFolk n f 6 0 0 5 4 uf ug).2.2.2.2.2.1))), (q, .inl (Z.2 0, 5, .inl ((ql_X5_readFolk n f 6 0 0 5 4 uf ug).2.2.2.2.2.2.1)))] H := hP
    have hD : va_D A [(h0, .inr (5, [.int (nI n), .int (nI ((ql_X5_readFolk n f 6 0 0 5 4 uf ug).2.1)), .ref tk])), (tk, .inl (Z.2 1, 80, .inl f)), (h1, .inr (0, [.int (nI ((ql_X5_readFolk n f 6 0 0 5 4 uf ug).2.2.1)), .int 16510910, .int 0, .ref k, .ref q])), (k, .inl (Z.2 0, 5, .inl ((ql_X5_readFolk n f 6 0 0 5 4 uf ug).2.2.2.2.2.1))), (q, .inl (Z.2 0, 5, .inl ((ql_X5_readFolk n f 6 0 0 5 4 uf ug).2.2.2.2.2.2.1)))] := hD
    have hP9 := hP.sub (ws' := [(h0, .inr (5, [.int (nI n), .int (nI ((ql_X5_readFolk n f 6 0 0 5 4 uf ug).2.1)), .ref tk])), (tk, .inl (Z.2 1, 80, .inl f)), (h1, .inr (0, [.int (nI ((ql_X5_readFolk n f 6 0 0 5 4 uf ug).2.2.1)), .int 16510910, .int 0, .ref k, .ref q])), (k, .inl (Z.2 0, 5, .inl ((ql_X5_readFolk n f 6 0 0 5 4 uf ug).2.2.2.2.2.1))), (q, .inl (Z.2 0, 5, .inl ((ql_X5_readFolk n f 6 0 0 5 4 uf ug).2.2.2.2.2.2.1)))]) [0, 1, 2, 3, 4] rfl
    have hD9 := hD.sub (ws' := [(h0, .inr (5, [.int (nI n), .int (nI ((ql_X5_readFolk n f 6 0 0 5 4 uf ug).2.1)), .ref tk])), (tk, .inl (Z.2 1, 80, .inl f)), (h1, .inr (0, [.int (nI ((ql_X5_readFolk n f 6 0 0 5 4 uf ug).2.2.1)), .int 16510910, .int 0, .ref k, .ref q])), (k, .inl (Z.2 0, 5, .inl ((ql_X5_readFolk n f 6 0 0 5 4 uf ug).2.2.2.2.2.1))), (q, .inl (Z.2 0, 5, .inl ((ql_X5_readFolk n f 6 0 0 5 4 uf ug).2.2.2.2.2.2.1)))]) [0, 1, 2, 3, 4] (by decide +kernel) rfl
    exact W.iret (v := ((-20) - (nI ((ql_X5_readFolk n f 6 0 0 5 4 uf ug).2.1)))) hx hb hr (fun t9 ht hW => ⟨⟨(-20) - (nI ((ql_X5_readFolk n f 6 0 0 5 4 uf ug).2.1)), (((ql_X5_readFolk n f 6 0 0 5 4 uf ug).2.1), ((ql_X5_readFolk n f 6 0 0 5 4 uf ug).2.2.1), (ql_X5_readFolk n f 6 0 0 5 4 uf ug).2.2.2.2.2.1, (ql_X5_readFolk n f 6 0 0 5 4 uf ug).2.2.2.2.2.2.1), rfl, ⟨(by unfold q_X5_readFolk_r; rw [if_neg hT9_1_t0, if_neg hT9_1_t1, if_neg hT9_1_t2, if_pos hT9_1_t3]), (by unfold q_X5_readFolk_p1; rw [if_neg hT9_1_t0, if_neg hT9_1_t1, if_neg hT9_1_t2, if_pos hT9_1_t3]), (by unfold q_X5_readFolk_mm; rw [if_neg hT9_1_t0, if_neg hT9_1_t1, if_neg hT9_1_t2, if_pos hT9_1_t3]), (by unfold q_X5_readFolk_uf1; rw [if_neg hT9_1_t0, if_neg hT9_1_t1, if_neg hT9_1_t2, if_pos hT9_1_t3]), (by unfold q_X5_readFolk_ug1; rw [if_neg hT9_1_t0, if_neg hT9_1_t1, if_neg hT9_1_t2, if_pos hT9_1_t3]), he⟩, by rw [ht]; exact hP9, hD9⟩, hS.F ht⟩) hS.2.2 dX5_readFolk_123
  · have hT9_1_t0 : ¬ (ql_X5_readFolk n f 6 0 0 5 4 uf ug).1 = 0 := by rw [hT9_1]; exact (show ¬ (4 : Nat) = 0 by decide)
    have hT9_1_t1 : ¬ (ql_X5_readFolk n f 6 0 0 5 4 uf ug).1 = 1 := by rw [hT9_1]; exact (show ¬ (4 : Nat) = 1 by decide)
    have hT9_1_t2 : ¬ (ql_X5_readFolk n f 6 0 0 5 4 uf ug).1 = 2 := by rw [hT9_1]; exact (show ¬ (4 : Nat) = 2 by decide)
    have hT9_1_t3 : ¬ (ql_X5_readFolk n f 6 0 0 5 4 uf ug).1 = 3 := by rw [hT9_1]; exact (show ¬ (4 : Nat) = 3 by decide)
    have e9p : (ql_X5_readFolk n f 6 0 0 5 4 uf ug).2.1 = p' := by rw [hT9_1]
    have e9m : (ql_X5_readFolk n f 6 0 0 5 4 uf ug).2.2.1 = m' := by rw [hT9_1]
    have e9j : (ql_X5_readFolk n f 6 0 0 5 4 uf ug).2.2.2.1 = j' := by rw [hT9_1]
    have e9x : (ql_X5_readFolk n f 6 0 0 5 4 uf ug).2.2.2.2.1 = x' := by rw [hT9_1]
    have e9uf : (ql_X5_readFolk n f 6 0 0 5 4 uf ug).2.2.2.2.2.1 = uf' := by rw [hT9_1]
    have e9ug : (ql_X5_readFolk n f 6 0 0 5 4 uf ug).2.2.2.2.2.2.1 = ug' := by rw [hT9_1]
    have e9sv : (ql_X5_readFolk n f 6 0 0 5 4 uf ug).2.2.2.2.2.2.2 = sv := by rw [hT9_1]
    subst e9p
    subst e9m
    subst e9j
    subst e9x
    subst e9uf
    subst e9ug
    subst e9sv
    refine lv_aload_n hx hb dX5_readFolk_140 rfl (lv_at hl 0 rfl) ?_
    refine va_get (D := Z.1) (ci := 5) (v := .int (nI ((ql_X5_readFolk n f 6 0 0 5 4 uf ug).2.1))) (C := RX5) (T := TX5) (N := 3) hx hb hts hin5 hown hK hP 0 rfl rfl 1 (by decide) (hts (.fieldLink RX5 15 "HalfAsked$Tape" "at" "I") (List.mem_of_getElem? (i := 1) rfl)) (fun _ h9 => h9) rfl dX5_readFolk_141 ?_
    have hPc := hP.sub (ws' := []) [] rfl
    have hDc := hD.sub (ws' := []) [] (by decide +kernel) rfl
    have hFc := va_free (wc := []) hD hS hA [] rfl
    refine va_calli (va_runS (As := [.int (nI ((ql_X5_readFolk n f 6 0 0 5 4 uf ug).2.1))]) (rest := []) ⟨hx, hb, hml, hown, hts⟩ (c_X5_fault l Z H.size (nI ((ql_X5_readFolk n f 6 0 0 5 4 uf ug).2.1))) (va_cwS 1 hts gX5_readFolk_X5_fault rfl rfl rfl (by decide +kernel) ⟨Nat.le_of_ble_eq_true rfl, Nat.le_of_ble_eq_true rfl⟩) ⟨fun a U g mk q => by obtain ⟨q0, q1, qP, qK, qD⟩ := q; exact ⟨q0, q1, qP, va_K.moved (u := U) (U := U.calling g mk a) (Vm.Alike.refl U.vm) qK, qD⟩, fun U hU hW => ⟨rfl, by rw [hU], by rw [hU]; exact hPc, va_K.moved hW.alike hK, hDc.weaken (fun _ _ _ _ => trivial)⟩⟩ rfl rfl hl.1 rfl (lv_room (Nat.le_of_ble_eq_true rfl)) dX5_readFolk_144 ⟨Nat.le_of_ble_eq_true rfl, Nat.le_of_ble_eq_true rfl⟩) hS (fun q _ h => hFc q h) hFc (fun r_6 u t9 H1 locs ht hvm hw hB hz1 hk1 hS => ?_)
    have hw9 := hw.symm
    clear hw
    subst hw9
    have hP1 : va_P Z.1 vwCl [] H1 := fun k q h => by simp at h
    have hD1 : va_D (va_A [] H.size) [] := ⟨fun i j p q h => by simp at h, fun k q h => by simp at h⟩
    obtain ⟨hP, hD⟩ := va_join (wr := [(h0, .inr (5, [.int (nI n), .int (nI ((ql_X5_readFolk n f 6 0 0 5 4 uf ug).2.1)), .ref tk])), (tk, .inl (Z.2 1, 80, .inl f)), (h1, .inr (0, [.int (nI ((ql_X5_readFolk n f 6 0 0 5 4 uf ug).2.2.1)), .int 16510910, .int 0, .ref k, .ref q])), (k, .inl (Z.2 0, 5, .inl ((ql_X5_readFolk n f 6 0 0 5 4 uf ug).2.2.2.2.2.1))), (q, .inl (Z.2 0, 5, .inl ((ql_X5_readFolk n f 6 0 0 5 4 uf ug).2.2.2.2.2.2.1)))]) (w1 := []) hP hD [] [0, 1, 2, 3, 4] rfl rfl (by decide +kernel) (by decide +kernel) hk1 hFc hP1 hD1
    clear hPc hDc hP1 hD1 hk1 hz1 hFc ht hvm
    generalize H1 = H at hP hS ⊢
    have hP : va_P Z.1 vwCl [(h0, .inr (5, [.int (nI n), .int (nI ((ql_X5_readFolk n f 6 0 0 5 4 uf ug).2.1)), .ref tk])), (tk, .inl (Z.2 1, 80, .inl f)), (h1, .inr (0, [.int (nI ((ql_X5_readFolk n f 6 0 0 5 4 uf ug).2.2.1)), .int 16510910, .int 0, .ref k, .ref q])), (k, .inl (Z.2 0, 5, .inl ((ql_X5_readFolk n f 6 0 0 5 4 uf ug).2.2.2.2.2.1))), (q, .inl (Z.2 0, 5, .inl ((ql_X5_readFolk n f 6 0 0 5 4 uf ug).2.2.2.2.2.2.1)))] H := hP
    have hD : va_D A [(h0, .inr (5, [.int (nI n), .int (nI ((ql_X5_readFolk n f 6 0 0 5 4 uf ug).2.1)), .ref tk])), (tk, .inl (Z.2 1, 80, .inl f)), (h1, .inr (0, [.int (nI ((ql_X5_readFolk n f 6 0 0 5 4 uf ug).2.2.1)), .int 16510910, .int 0, .ref k, .ref q])), (k, .inl (Z.2 0, 5, .inl ((ql_X5_readFolk n f 6 0 0 5 4 uf ug).2.2.2.2.2.1))), (q, .inl (Z.2 0, 5, .inl ((ql_X5_readFolk n f 6 0 0 5 4 uf ug).2.2.2.2.2.2.1)))] := hD
    have hP9 := hP.sub (ws' := [(h0, .inr (5, [.int (nI n), .int (nI ((ql_X5_readFolk n f 6 0 0 5 4 uf ug).2.1)), .ref tk])), (tk, .inl (Z.2 1, 80, .inl f)), (h1, .inr (0, [.int (nI ((ql_X5_readFolk n f 6 0 0 5 4 uf ug).2.2.1)), .int 16510910, .int 0, .ref k, .ref q])), (k, .inl (Z.2 0, 5, .inl ((ql_X5_readFolk n f 6 0 0 5 4 uf ug).2.2.2.2.2.1))), (q, .inl (Z.2 0, 5, .inl ((ql_X5_readFolk n f 6 0 0 5 4 uf ug).2.2.2.2.2.2.1)))]) [0, 1, 2, 3, 4] rfl
    have hD9 := hD.sub (ws' := [(h0, .inr (5, [.int (nI n), .int (nI ((ql_X5_readFolk n f 6 0 0 5 4 uf ug).2.1)), .ref tk])), (tk, .inl (Z.2 1, 80, .inl f)), (h1, .inr (0, [.int (nI ((ql_X5_readFolk n f 6 0 0 5 4 uf ug).2.2.1)), .int 16510910, .int 0, .ref k, .ref q])), (k, .inl (Z.2 0, 5, .inl ((ql_X5_readFolk n f 6 0 0 5 4 uf ug).2.2.2.2.2.1))), (q, .inl (Z.2 0, 5, .inl ((ql_X5_readFolk n f 6 0 0 5 4 uf ug).2.2.2.2.2.2.1)))]) [0, 1, 2, 3, 4] (by decide +kernel) rfl
    exact W.iret (v := ((-20) - (nI ((ql_X5_readFolk n f 6 0 0 5 4 uf ug).2.1)))) hx hb hr (fun t9 ht hW => ⟨⟨(-20) - (nI ((ql_X5_readFolk n f 6 0 0 5 4 uf ug).2.1)), (((ql_X5_readFolk n f 6 0 0 5 4 uf ug).2.1), ((ql_X5_readFolk n f 6 0 0 5 4 uf ug).2.2.1), (ql_X5_readFolk n f 6 0 0 5 4 uf ug).2.2.2.2.2.1, (ql_X5_readFolk n f 6 0 0 5 4 uf ug).2.2.2.2.2.2.1), rfl, ⟨(by unfold q_X5_readFolk_r; rw [if_neg hT9_1_t0, if_neg hT9_1_t1, if_neg hT9_1_t2, if_neg hT9_1_t3]), (by unfold q_X5_readFolk_p1; rw [if_neg hT9_1_t0, if_neg hT9_1_t1, if_neg hT9_1_t2, if_neg hT9_1_t3]), (by unfold q_X5_readFolk_mm; rw [if_neg hT9_1_t0, if_neg hT9_1_t1, if_neg hT9_1_t2, if_neg hT9_1_t3]), (by unfold q_X5_readFolk_uf1; rw [if_neg hT9_1_t0, if_neg hT9_1_t1, if_neg hT9_1_t2, if_neg hT9_1_t3]), (by unfold q_X5_readFolk_ug1; rw [if_neg hT9_1_t0, if_neg hT9_1_t1, if_neg hT9_1_t2, if_neg hT9_1_t3]), he⟩, by rw [ht]; exact hP9, hD9⟩, hS.F ht⟩) hS.2.2 dX5_readFolk_147
theorem z_by {x : Int32} {mm : Nat} (hm : mm ≤ 5) (h1 : ¬ x < 0) (h2 : ¬ nI mm ≤ x) : vp_in x 5 := by
  rw [Int32.lt_iff_toInt_lt] at h1
  rw [Int32.le_iff_toInt_le, nI_toInt (by omega)] at h2
  have e0 : (0 : Int32).toInt = 0 := by decide
  exact vp_in_iff.mpr (by omega)
theorem z_by2 {x : Int32} {mm : Nat} (hm : mm ≤ 5) (h1 : ¬ x < 0) (h2 : x < nI mm) : vp_in x 5 := z_by hm h1 (Int32.not_le.mpr h2)
def q_X5_readAsking_r (n : Nat) (ps : Nat) (f : Nat → Int32) (mm : Nat) : Int32 := (if ((q_X5_look_r n ps f) - 48) < 0 then (0 : Int32) else (if ((q_X5_look_r n ps f) - 48) < (nI mm) then (if (q_X5_look_r n ((q_X5_look_p1 n ps f) + 1) f) = 62 then (if ((q_X5_look_r n ((q_X5_look_p1 n ((q_X5_look_p1 n ps f) + 1) f) + 1) f) - 48) < 0 then (0 : Int32) else (if (nI mm) ≤ ((q_X5_look_r n ((q_X5_look_p1 n ((q_X5_look_p1 n ps f) + 1) f) + 1) f) - 48) then (0 : Int32) else (if ((q_X5_look_r n ((q_X5_look_p1 n ((q_X5_look_p1 n ps f) + 1) f) + 1) f) - 48) = ((q_X5_look_r n ps f) - 48) then (0 : Int32) else (1 : Int32)))) else (0 : Int32)) else (0 : Int32)))
def q_X5_readAsking_p1 (n : Nat) (ps : Nat) (f : Nat → Int32) (mm : Nat) : Nat := (if ((q_X5_look_r n ps f) - 48) < 0 then (q_X5_look_p1 n ps f) else (if ((q_X5_look_r n ps f) - 48) < (nI mm) then (if (q_X5_look_r n ((q_X5_look_p1 n ps f) + 1) f) = 62 then (if ((q_X5_look_r n ((q_X5_look_p1 n ((q_X5_look_p1 n ps f) + 1) f) + 1) f) - 48) < 0 then (q_X5_look_p1 n ((q_X5_look_p1 n ((q_X5_look_p1 n ps f) + 1) f) + 1) f) else (if (nI mm) ≤ ((q_X5_look_r n ((q_X5_look_p1 n ((q_X5_look_p1 n ps f) + 1) f) + 1) f) - 48) then (q_X5_look_p1 n ((q_X5_look_p1 n ((q_X5_look_p1 n ps f) + 1) f) + 1) f) else (if ((q_X5_look_r n ((q_X5_look_p1 n ((q_X5_look_p1 n ps f) + 1) f) + 1) f) - 48) = ((q_X5_look_r n ps f) - 48) then (q_X5_look_p1 n ((q_X5_look_p1 n ((q_X5_look_p1 n ps f) + 1) f) + 1) f) else ((q_X5_look_p1 n ((q_X5_look_p1 n ((q_X5_look_p1 n ps f) + 1) f) + 1) f) + 1)))) else (q_X5_look_p1 n ((q_X5_look_p1 n ps f) + 1) f)) else (q_X5_look_p1 n ps f)))
def q_X5_readAsking_q1 (n : Nat) (ps : Nat) (f : Nat → Int32) (q : Nat) (mm : Nat) : Nat := (if ((q_X5_look_r n ps f) - 48) < 0 then q else (if ((q_X5_look_r n ps f) - 48) < (nI mm) then (if (q_X5_look_r n ((q_X5_look_p1 n ps f) + 1) f) = 62 then (if ((q_X5_look_r n ((q_X5_look_p1 n ((q_X5_look_p1 n ps f) + 1) f) + 1) f) - 48) < 0 then q else (if (nI mm) ≤ ((q_X5_look_r n ((q_X5_look_p1 n ((q_X5_look_p1 n ps f) + 1) f) + 1) f) - 48) then q else (if ((q_X5_look_r n ((q_X5_look_p1 n ((q_X5_look_p1 n ps f) + 1) f) + 1) f) - 48) = ((q_X5_look_r n ps f) - 48) then q else (q + 1)))) else q) else q))
def q_X5_readAsking_pf1 (n : Nat) (ps : Nat) (f : Nat → Int32) (q : Nat) (pf : Nat → Int32) (mm : Nat) : Nat → Int32 := (if ((q_X5_look_r n ps f) - 48) < 0 then pf else (if ((q_X5_look_r n ps f) - 48) < (nI mm) then (if (q_X5_look_r n ((q_X5_look_p1 n ps f) + 1) f) = 62 then (if ((q_X5_look_r n ((q_X5_look_p1 n ((q_X5_look_p1 n ps f) + 1) f) + 1) f) - 48) < 0 then pf else (if (nI mm) ≤ ((q_X5_look_r n ((q_X5_look_p1 n ((q_X5_look_p1 n ps f) + 1) f) + 1) f) - 48) then pf else (if ((q_X5_look_r n ((q_X5_look_p1 n ((q_X5_look_p1 n ps f) + 1) f) + 1) f) - 48) = ((q_X5_look_r n ps f) - 48) then pf else (q_X2_add_f1 q pf ((q_X5_look_r n ps f) - 48))))) else pf) else pf))
def q_X5_readAsking_pg1 (n : Nat) (ps : Nat) (f : Nat → Int32) (q : Nat) (pg : Nat → Int32) (mm : Nat) : Nat → Int32 := (if ((q_X5_look_r n ps f) - 48) < 0 then pg else (if ((q_X5_look_r n ps f) - 48) < (nI mm) then (if (q_X5_look_r n ((q_X5_look_p1 n ps f) + 1) f) = 62 then (if ((q_X5_look_r n ((q_X5_look_p1 n ((q_X5_look_p1 n ps f) + 1) f) + 1) f) - 48) < 0 then pg else (if (nI mm) ≤ ((q_X5_look_r n ((q_X5_look_p1 n ((q_X5_look_p1 n ps f) + 1) f) + 1) f) - 48) then pg else (if ((q_X5_look_r n ((q_X5_look_p1 n ((q_X5_look_p1 n ps f) + 1) f) + 1) f) - 48) = ((q_X5_look_r n ps f) - 48) then pg else (q_X2_add_g1 q pg ((q_X5_look_r n ((q_X5_look_p1 n ((q_X5_look_p1 n ps f) + 1) f) + 1) f) - 48))))) else pg) else pg))
set_option maxHeartbeats 4000000 in
set_option maxRecDepth 100000 in
theorem c_X5_readAsking (l : Launch) (Z : gZ) (sz : Nat) (h0 : Nat) (tk : Nat) (n : Nat) (ps : Nat) (f : Nat → Int32) (h1 : Nat) (q : Nat) (en : Int32) (k : Nat) (z : Nat) (pf : Nat → Int32) (pg : Nat → Int32) (mm : Nat) (hn : n ≤ 80) (hp : ps ≤ n) (hc : zC f) (hq : q < 8) (hz : zP q pf pg) (hm : mm ≤ 5) : Met l yX5_readAsking wsX5_readAsking ({ frames := 2, cells := 0, slots := 0, locals := 40 }) (va_Pc [.ref h0, .ref h1, .int (nI mm)] (fun U => U.heap.size = sz ∧ va_P Z.1 vwCl [(h0, .inr (5, [.int (nI n), .int (nI ps), .ref tk])), (tk, .inl (Z.2 1, 80, .inl f)), (h1, .inr (2, [.int (nI q), .int en, .ref k, .ref z])), (k, .inl (Z.2 0, 8, .inl pf)), (z, .inl (Z.2 0, 8, .inl pg))] U.heap ∧ va_K Z.1 vwCl (gT Z) U ∧ va_D (fun _ => True) [(h0, .inr (5, [.int (nI n), .int (nI ps), .ref tk])), (tk, .inl (Z.2 1, 80, .inl f)), (h1, .inr (2, [.int (nI q), .int en, .ref k, .ref z])), (k, .inl (Z.2 0, 8, .inl pf)), (z, .inl (Z.2 0, 8, .inl pg))])) (va_Qi (fun (r : Int32) (u : Nat × Nat × (Nat → Int32) × (Nat → Int32)) => match u with | (p1, q1, pf1, pg1) => r = q_X5_readAsking_r n ps f mm ∧ q_X5_readAsking_p1 n ps f mm = p1 ∧ q_X5_readAsking_q1 n ps f q mm = q1 ∧ q_X5_readAsking_pf1 n ps f q pf mm = pf1 ∧ q_X5_readAsking_pg1 n ps f q pg mm = pg1 ∧ ((r = 0 ∨ (r = 1 ∧ 1 ≤ q1)) ∧ p1 ≤ n ∧ q1 ≤ q + 1 ∧ zP q1 pf1 pg1)) (fun (u : Nat × Nat × (Nat → Int32) × (Nat → Int32)) (t9 : State) => match u with | (p1, q1, pf1, pg1) => va_P Z.1 vwCl [(h0, .inr (5, [.int (nI n), .int (nI p1), .ref tk])), (tk, .inl (Z.2 1, 80, .inl f)), (h1, .inr (2, [.int (nI q1), .int en, .ref k, .ref z])), (k, .inl (Z.2 0, 8, .inl pf1)), (z, .inl (Z.2 0, 8, .inl pg1))] t9.heap ∧ va_D (va_A [(h0, .inr (5, [.int (nI n), .int (nI ps), .ref tk])), (tk, .inl (Z.2 1, 80, .inl f)), (h1, .inr (2, [.int (nI q), .int en, .ref k, .ref z])), (k, .inl (Z.2 0, 8, .inl pf)), (z, .inl (Z.2 0, 8, .inl pg))] sz) [(h0, .inr (5, [.int (nI n), .int (nI p1), .ref tk])), (tk, .inl (Z.2 1, 80, .inl f)), (h1, .inr (2, [.int (nI q1), .int en, .ref k, .ref z])), (k, .inl (Z.2 0, 8, .inl pf1)), (z, .inl (Z.2 0, 8, .inl pg1))]) (va_A [(h0, .inr (5, [.int (nI n), .int (nI ps), .ref tk])), (tk, .inl (Z.2 1, 80, .inl f)), (h1, .inr (2, [.int (nI q), .int en, .ref k, .ref z])), (k, .inl (Z.2 0, 8, .inl pf)), (z, .inl (Z.2 0, 8, .inl pg))] sz)) 0 0 (va_A [(h0, .inr (5, [.int (nI n), .int (nI ps), .ref tk])), (tk, .inl (Z.2 1, 80, .inl f)), (h1, .inr (2, [.int (nI q), .int en, .ref k, .ref z])), (k, .inl (Z.2 0, 8, .inl pf)), (z, .inl (Z.2 0, 8, .inl pg))] sz) := by
  refine Met.ofW (cc := cX5_readAsking) (maxL := 5) (ret := (some .boolean)) (by decide) rfl ?_
  intro p e s m args below meth c s₁ B hml hv
  obtain ⟨rfl, hsz, hP, hK, hD0⟩ := hv
  have hx := B.exec
  have hb := B.bytes
  have hr := B.returns
  have hts := atoms_spec (ws := wsX5_readAsking) B.pre
  have hown : s.vm.findClass RX5 = some m.cls := findClass_of_methodNamed B.named
  have hlocks := B.notSynchronized
  subst hsz
  have hin5 : ∀ w ∈ wsX50, w ∈ wsX5_readAsking := fun w h9 => (List.mem_cons_of_mem _ (List.mem_append_left _ (List.mem_append_right _ h9)))
  have hD := hD0.self (sz := s.heap.size)
  generalize hAe : va_A [(h0, .inr (5, [.int (nI n), .int (nI ps), .ref tk])), (tk, .inl (Z.2 1, 80, .inl f)), (h1, .inr (2, [.int (nI q), .int en, .ref k, .ref z])), (k, .inl (Z.2 0, 8, .inl pf)), (z, .inl (Z.2 0, 8, .inl pg))] s.heap.size = A at hD ⊢
  have hA : ∀ q : Nat, s.heap.size ≤ q → A q := fun q h => by rw [← hAe]; exact Or.inr h
  have hS : va_S A s.heap s.heap [] := va_S.rf
  have hP : va_P Z.1 vwCl [(h0, .inr (5, [.int (nI n), .int (nI ps), .ref tk])), (tk, .inl (Z.2 1, 80, .inl f)), (h1, .inr (2, [.int (nI q), .int en, .ref k, .ref z])), (k, .inl (Z.2 0, 8, .inl pf)), (z, .inl (Z.2 0, 8, .inl pg))] s.heap := hP
  have hl := lv_entry ([.ref h0, .ref h1, .int (nI mm)]) (n := 5) (Nat.le_of_ble_eq_true rfl)
  rw [lg_entry_eq]
  generalize (lg_sl ([.ref h0, .ref h1, .int (nI mm)]) ++ List.replicate (5 - (lg_sl ([.ref h0, .ref h1, .int (nI mm)])).length) Slot.unset).toArray = ls at hl ⊢
  have hl : lv_has ls 5 [(0, .ref h0), (1, .ref h1), (2, .int (nI mm))] := hl
  refine lv_aload_n hx hb dX5_readAsking_0 rfl (lv_at hl 0 rfl) ?_
  have hPc := hP.sub (ws' := [(h0, .inr (5, [.int (nI n), .int (nI ps), .ref tk])), (tk, .inl (Z.2 1, 80, .inl f))]) [0, 1] rfl
  have hDc := hD.sub (ws' := [(h0, .inr (5, [.int (nI n), .int (nI ps), .ref tk])), (tk, .inl (Z.2 1, 80, .inl f))]) [0, 1] (by decide +kernel) rfl
  have hFc := va_free (wc := [(h0, .inr (5, [.int (nI n), .int (nI ps), .ref tk])), (tk, .inl (Z.2 1, 80, .inl f))]) hD hS hA [0, 1] rfl
  refine va_calli (va_runV (As := []) (rest := []) ⟨hx, hb, hml, hown, hts⟩ (c_X5_look l Z s.heap.size h0 tk n ps f (hn) (by omega) (hc)) (cwV 0 hts gX5_readAsking_X5_look rfl rfl rfl (by decide +kernel) ⟨Nat.le_of_ble_eq_true rfl, Nat.le_of_ble_eq_true rfl⟩) ⟨fun a U g mk q => by obtain ⟨q0, q1, qP, qK, qD⟩ := q; exact ⟨q0, q1, qP, va_K.moved (u := U) (U := U.calling g mk a) (Vm.Alike.refl U.vm) qK, qD⟩, va_recv hK hPc (ci := 5) (q0 := 0) rfl rfl, fun U hU hW => ⟨rfl, by rw [hU], by rw [hU]; exact hPc, va_K.moved hW.alike hK, hDc.weaken (fun _ _ _ _ => trivial)⟩⟩ rfl rfl hl.1 rfl (lv_room (Nat.le_of_ble_eq_true rfl)) dX5_readAsking_1 ⟨Nat.le_of_ble_eq_true rfl, Nat.le_of_ble_eq_true rfl⟩) hS (fun q _ h => hFc q h) hFc (fun r_1 u t9 H1 locs ht hvm hw hB hz1 hk1 hS => ?_)
  obtain ⟨p1_2, rfl⟩ : ∃ z, z = u := ⟨_, rfl⟩
  try dsimp only at hw hB
  obtain ⟨hw, hx_3, hwr_1⟩ := hw
  subst hx_3
  have hw9 := hw.symm
  clear hw
  subst hw9
  obtain ⟨hP1, hD1⟩ := hB
  rw [ht] at hP1
  obtain ⟨hP, hD⟩ := va_join (wr := [(h1, .inr (2, [.int (nI q), .int en, .ref k, .ref z])), (k, .inl (Z.2 0, 8, .inl pf)), (z, .inl (Z.2 0, 8, .inl pg))]) (w1 := [(h0, .inr (5, [.int (nI n), .int (nI (q_X5_look_p1 n ps f)), .ref tk])), (tk, .inl (Z.2 1, 80, .inl f))]) hP hD [0, 1] [2, 3, 4] rfl rfl (by decide +kernel) (by decide +kernel) hk1 hFc hP1 hD1
  clear hPc hDc hP1 hD1 hk1 hz1 hFc ht hvm
  generalize H1 = H at hP hS ⊢
  have hP : va_P Z.1 vwCl [(h1, .inr (2, [.int (nI q), .int en, .ref k, .ref z])), (k, .inl (Z.2 0, 8, .inl pf)), (z, .inl (Z.2 0, 8, .inl pg)), (h0, .inr (5, [.int (nI n), .int (nI (q_X5_look_p1 n ps f)), .ref tk])), (tk, .inl (Z.2 1, 80, .inl f))] H := hP
  have hD : va_D A [(h1, .inr (2, [.int (nI q), .int en, .ref k, .ref z])), (k, .inl (Z.2 0, 8, .inl pf)), (z, .inl (Z.2 0, 8, .inl pg)), (h0, .inr (5, [.int (nI n), .int (nI (q_X5_look_p1 n ps f)), .ref tk])), (tk, .inl (Z.2 1, 80, .inl f))] := hD
  refine lv_bipush (v := 48) hx hb dX5_readAsking_4 (by decide) ?_
  refine lv_isub hx hb dX5_readAsking_6 ?_
  refine lv_istore_n (lv' := [(3, .int ((q_X5_look_r n ps f) - 48)), (0, .ref h0), (1, .ref h1), (2, .int (nI mm))]) hx hb dX5_readAsking_7 rfl hl (by decide) rfl (fun ls hl => ?_)
  refine lv_iload_n hx hb dX5_readAsking_8 rfl (lv_at hl 0 rfl) ?_
  refine lv_if_lt (tgt := 17) hx hb dX5_readAsking_9 (by decide) (fun c_4 => ?_) (fun c_4 => ?_)
  · refine lv_iconst (v := 0) hx hb dX5_readAsking_17 (by decide) ?_
    have hP9 := hP.sub (ws' := [(h0, .inr (5, [.int (nI n), .int (nI (q_X5_look_p1 n ps f)), .ref tk])), (tk, .inl (Z.2 1, 80, .inl f)), (h1, .inr (2, [.int (nI q), .int en, .ref k, .ref z])), (k, .inl (Z.2 0, 8, .inl pf)), (z, .inl (Z.2 0, 8, .inl pg))]) [3, 4, 0, 1, 2] rfl
    have hD9 := hD.sub (ws' := [(h0, .inr (5, [.int (nI n), .int (nI (q_X5_look_p1 n ps f)), .ref tk])), (tk, .inl (Z.2 1, 80, .inl f)), (h1, .inr (2, [.int (nI q), .int en, .ref k, .ref z])), (k, .inl (Z.2 0, 8, .inl pf)), (z, .inl (Z.2 0, 8, .inl pg))]) [3, 4, 0, 1, 2] (by decide +kernel) rfl
    exact W.zret (v := 0) hx hb hr rfl (fun t9 ht hW => ⟨⟨0, ((q_X5_look_p1 n ps f), q, pf, pg), rfl, ⟨(by unfold q_X5_readAsking_r; rw [if_pos c_4]), (by unfold q_X5_readAsking_p1; rw [if_pos c_4]), (by unfold q_X5_readAsking_q1; rw [if_pos c_4]), (by unfold q_X5_readAsking_pf1; rw [if_pos c_4]), (by unfold q_X5_readAsking_pg1; rw [if_pos c_4]), ⟨Or.inl rfl, by omega, by omega, hz⟩⟩, by rw [ht]; exact hP9, hD9⟩, hS.F ht⟩) hS.2.2 dX5_readAsking_18
  · refine lv_iload_n hx hb dX5_readAsking_12 rfl (lv_at hl 0 rfl) ?_
    refine lv_iload_n hx hb dX5_readAsking_13 rfl (lv_at hl 3 rfl) ?_
    refine lv_icmp_lt (tgt := 19) hx hb dX5_readAsking_14 (by decide) (fun c_5 => ?_) (fun c_5 => ?_)
    · have hq5 := hwr_1.1 (z_m48 c_4)
      refine lv_aload_n hx hb dX5_readAsking_19 rfl (lv_at hl 1 rfl) ?_
      refine lv_dup hx hb dX5_readAsking_20 rfl ?_
      refine va_get (D := Z.1) (ci := 5) (v := .int (nI (q_X5_look_p1 n ps f))) (C := RX5) (T := TX5) (N := 3) hx hb hts hin5 hown hK hP 3 rfl rfl 1 (by decide) (hts (.fieldLink RX5 15 "HalfAsked$Tape" "at" "I") (List.mem_of_getElem? (i := 1) rfl)) (fun _ h9 => h9) rfl dX5_readAsking_21 ?_
      refine lv_iconst (v := 1) hx hb dX5_readAsking_24 (by decide) ?_
      refine lv_iadd hx hb dX5_readAsking_25 ?_
      refine lv_topi (fun f_6 ef_6 => ?_)
      obtain rfl : nI ((q_X5_look_p1 n ps f) + 1) = f_6 := (ef_6.trans (nI_1 _)).symm
      refine va_put (D := Z.1) (ci := 5) (v := .int (nI ((q_X5_look_p1 n ps f) + 1))) (ty := .int) (C := RX5) (T := TX5) (N := 3) hx hb hts hin5 tyX5 tyX5_ok nmX5 hown hK hP hD hS 3 rfl rfl 1 (by decide) (hts (.fieldLink RX5 15 "HalfAsked$Tape" "at" "I") (List.mem_of_getElem? (i := 1) rfl)) (fun _ h9 => h9) rfl (by decide +kernel) rfl rfl (Nat.le_of_ble_eq_true rfl) dX5_readAsking_26 (fun H locs hP hD hS => ?_)
      have hP : va_P Z.1 vwCl [(h1, .inr (2, [.int (nI q), .int en, .ref k, .ref z])), (k, .inl (Z.2 0, 8, .inl pf)), (z, .inl (Z.2 0, 8, .inl pg)), (h0, .inr (5, [.int (nI n), .int (nI ((q_X5_look_p1 n ps f) + 1)), .ref tk])), (tk, .inl (Z.2 1, 80, .inl f))] H := hP
      have hD : va_D A [(h1, .inr (2, [.int (nI q), .int en, .ref k, .ref z])), (k, .inl (Z.2 0, 8, .inl pf)), (z, .inl (Z.2 0, 8, .inl pg)), (h0, .inr (5, [.int (nI n), .int (nI ((q_X5_look_p1 n ps f) + 1)), .ref tk])), (tk, .inl (Z.2 1, 80, .inl f))] := hD
      refine lv_aload_n hx hb dX5_readAsking_29 rfl (lv_at hl 1 rfl) ?_
      have hPc := hP.sub (ws' := [(h0, .inr (5, [.int (nI n), .int (nI ((q_X5_look_p1 n ps f) + 1)), .ref tk])), (tk, .inl (Z.2 1, 80, .inl f))]) [3, 4] rfl
      have hDc := hD.sub (ws' := [(h0, .inr (5, [.int (nI n), .int (nI ((q_X5_look_p1 n ps f) + 1)), .ref tk])), (tk, .inl (Z.2 1, 80, .inl f))]) [3, 4] (by decide +kernel) rfl
      have hFc := va_free (wc := [(h0, .inr (5, [.int (nI n), .int (nI ((q_X5_look_p1 n ps f) + 1)), .ref tk])), (tk, .inl (Z.2 1, 80, .inl f))]) hD hS hA [3, 4] rfl
      refine va_calli (va_runV (As := []) (rest := []) ⟨hx, hb, hml, hown, hts⟩ (c_X5_look l Z H.size h0 tk n ((q_X5_look_p1 n ps f) + 1) f (hn) (by omega) (hc)) (cwV 0 hts gX5_readAsking_X5_look rfl rfl rfl (by decide +kernel) ⟨Nat.le_of_ble_eq_true rfl, Nat.le_of_ble_eq_true rfl⟩) ⟨fun a U g mk q => by obtain ⟨q0, q1, qP, qK, qD⟩ := q; exact ⟨q0, q1, qP, va_K.moved (u := U) (U := U.calling g mk a) (Vm.Alike.refl U.vm) qK, qD⟩, va_recv hK hPc (ci := 5) (q0 := 0) rfl rfl, fun U hU hW => ⟨rfl, by rw [hU], by rw [hU]; exact hPc, va_K.moved hW.alike hK, hDc.weaken (fun _ _ _ _ => trivial)⟩⟩ rfl rfl hl.1 rfl (lv_room (Nat.le_of_ble_eq_true rfl)) dX5_readAsking_30 ⟨Nat.le_of_ble_eq_true rfl, Nat.le_of_ble_eq_true rfl⟩) hS (fun q _ h => hFc q h) hFc (fun r_7 u t9 H1 locs ht hvm hw hB hz1 hk1 hS => ?_)
      obtain ⟨p1_8, rfl⟩ : ∃ z, z = u := ⟨_, rfl⟩
      try dsimp only at hw hB
      obtain ⟨hw, hx_9, hwr_7⟩ := hw
      subst hx_9
      have hw9 := hw.symm
      clear hw
      subst hw9
      obtain ⟨hP1, hD1⟩ := hB
      rw [ht] at hP1
      obtain ⟨hP, hD⟩ := va_join (wr := [(h1, .inr (2, [.int (nI q), .int en, .ref k, .ref z])), (k, .inl (Z.2 0, 8, .inl pf)), (z, .inl (Z.2 0, 8, .inl pg))]) (w1 := [(h0, .inr (5, [.int (nI n), .int (nI (q_X5_look_p1 n ((q_X5_look_p1 n ps f) + 1) f)), .ref tk])), (tk, .inl (Z.2 1, 80, .inl f))]) hP hD [3, 4] [0, 1, 2] rfl rfl (by decide +kernel) (by decide +kernel) hk1 hFc hP1 hD1
      clear hPc hDc hP1 hD1 hk1 hz1 hFc ht hvm
      generalize H1 = H at hP hS ⊢
      have hP : va_P Z.1 vwCl [(h1, .inr (2, [.int (nI q), .int en, .ref k, .ref z])), (k, .inl (Z.2 0, 8, .inl pf)), (z, .inl (Z.2 0, 8, .inl pg)), (h0, .inr (5, [.int (nI n), .int (nI (q_X5_look_p1 n ((q_X5_look_p1 n ps f) + 1) f)), .ref tk])), (tk, .inl (Z.2 1, 80, .inl f))] H := hP
      have hD : va_D A [(h1, .inr (2, [.int (nI q), .int en, .ref k, .ref z])), (k, .inl (Z.2 0, 8, .inl pf)), (z, .inl (Z.2 0, 8, .inl pg)), (h0, .inr (5, [.int (nI n), .int (nI (q_X5_look_p1 n ((q_X5_look_p1 n ps f) + 1) f)), .ref tk])), (tk, .inl (Z.2 1, 80, .inl f))] := hD
      refine lv_bipush (v := 62) hx hb dX5_readAsking_33 (by decide) ?_
      refine lv_icmp_eq (tgt := 40) hx hb dX5_readAsking_35 (by decide) (fun c_10 => ?_) (fun c_10 => ?_)
      · have hq10 := hwr_7.1 (z_eq0 c_10 (by decide))
        refine lv_aload_n hx hb dX5_readAsking_40 rfl (lv_at hl 1 rfl) ?_
        refine lv_dup hx hb dX5_readAsking_41 rfl ?_
        refine va_get (D := Z.1) (ci := 5) (v := .int (nI (q_X5_look_p1 n ((q_X5_look_p1 n ps f) + 1) f))) (C := RX5) (T := TX5) (N := 3) hx hb hts hin5 hown hK hP 3 rfl rfl 1 (by decide) (hts (.fieldLink RX5 15 "HalfAsked$Tape" "at" "I") (List.mem_of_getElem? (i := 1) rfl)) (fun _ h9 => h9) rfl dX5_readAsking_42 ?_
        refine lv_iconst (v := 1) hx hb dX5_readAsking_45 (by decide) ?_
        refine lv_iadd hx hb dX5_readAsking_46 ?_
        refine lv_topi (fun f_11 ef_11 => ?_)
        obtain rfl : nI ((q_X5_look_p1 n ((q_X5_look_p1 n ps f) + 1) f) + 1) = f_11 := (ef_11.trans (nI_1 _)).symm
        refine va_put (D := Z.1) (ci := 5) (v := .int (nI ((q_X5_look_p1 n ((q_X5_look_p1 n ps f) + 1) f) + 1))) (ty := .int) (C := RX5) (T := TX5) (N := 3) hx hb hts hin5 tyX5 tyX5_ok nmX5 hown hK hP hD hS 3 rfl rfl 1 (by decide) (hts (.fieldLink RX5 15 "HalfAsked$Tape" "at" "I") (List.mem_of_getElem? (i := 1) rfl)) (fun _ h9 => h9) rfl (by decide +kernel) rfl rfl (Nat.le_of_ble_eq_true rfl) dX5_readAsking_47 (fun H locs hP hD hS => ?_)
        have hP : va_P Z.1 vwCl [(h1, .inr (2, [.int (nI q), .int en, .ref k, .ref z])), (k, .inl (Z.2 0, 8, .inl pf)), (z, .inl (Z.2 0, 8, .inl pg)), (h0, .inr (5, [.int (nI n), .int (nI ((q_X5_look_p1 n ((q_X5_look_p1 n ps f) + 1) f) + 1)), .ref tk])), (tk, .inl (Z.2 1, 80, .inl f))] H := hP
        have hD : va_D A [(h1, .inr (2, [.int (nI q), .int en, .ref k, .ref z])), (k, .inl (Z.2 0, 8, .inl pf)), (z, .inl (Z.2 0, 8, .inl pg)), (h0, .inr (5, [.int (nI n), .int (nI ((q_X5_look_p1 n ((q_X5_look_p1 n ps f) + 1) f) + 1)), .ref tk])), (tk, .inl (Z.2 1, 80, .inl f))] := hD
        refine lv_aload_n hx hb dX5_readAsking_50 rfl (lv_at hl 1 rfl) ?_
        have hPc := hP.sub (ws' := [(h0, .inr (5, [.int (nI n), .int (nI ((q_X5_look_p1 n ((q_X5_look_p1 n ps f) + 1) f) + 1)), .ref tk])), (tk, .inl (Z.2 1, 80, .inl f))]) [3, 4] rfl
        have hDc := hD.sub (ws' := [(h0, .inr (5, [.int (nI n), .int (nI ((q_X5_look_p1 n ((q_X5_look_p1 n ps f) + 1) f) + 1)), .ref tk])), (tk, .inl (Z.2 1, 80, .inl f))]) [3, 4] (by decide +kernel) rfl
        have hFc := va_free (wc := [(h0, .inr (5, [.int (nI n), .int (nI ((q_X5_look_p1 n ((q_X5_look_p1 n ps f) + 1) f) + 1)), .ref tk])), (tk, .inl (Z.2 1, 80, .inl f))]) hD hS hA [3, 4] rfl
        refine va_calli (va_runV (As := []) (rest := []) ⟨hx, hb, hml, hown, hts⟩ (c_X5_look l Z H.size h0 tk n ((q_X5_look_p1 n ((q_X5_look_p1 n ps f) + 1) f) + 1) f (hn) (by omega) (hc)) (cwV 0 hts gX5_readAsking_X5_look rfl rfl rfl (by decide +kernel) ⟨Nat.le_of_ble_eq_true rfl, Nat.le_of_ble_eq_true rfl⟩) ⟨fun a U g mk q => by obtain ⟨q0, q1, qP, qK, qD⟩ := q; exact ⟨q0, q1, qP, va_K.moved (u := U) (U := U.calling g mk a) (Vm.Alike.refl U.vm) qK, qD⟩, va_recv hK hPc (ci := 5) (q0 := 0) rfl rfl, fun U hU hW => ⟨rfl, by rw [hU], by rw [hU]; exact hPc, va_K.moved hW.alike hK, hDc.weaken (fun _ _ _ _ => trivial)⟩⟩ rfl rfl hl.1 rfl (lv_room (Nat.le_of_ble_eq_true rfl)) dX5_readAsking_51 ⟨Nat.le_of_ble_eq_true rfl, Nat.le_of_ble_eq_true rfl⟩) hS (fun q _ h => hFc q h) hFc (fun r_12 u t9 H1 locs ht hvm hw hB hz1 hk1 hS => ?_)
        obtain ⟨p1_13, rfl⟩ : ∃ z, z = u := ⟨_, rfl⟩
        try dsimp only at hw hB
        obtain ⟨hw, hx_14, hwr_12⟩ := hw
        subst hx_14
        have hw9 := hw.symm
        clear hw
        subst hw9
        obtain ⟨hP1, hD1⟩ := hB
        rw [ht] at hP1
        obtain ⟨hP, hD⟩ := va_join (wr := [(h1, .inr (2, [.int (nI q), .int en, .ref k, .ref z])), (k, .inl (Z.2 0, 8, .inl pf)), (z, .inl (Z.2 0, 8, .inl pg))]) (w1 := [(h0, .inr (5, [.int (nI n), .int (nI (q_X5_look_p1 n ((q_X5_look_p1 n ((q_X5_look_p1 n ps f) + 1) f) + 1) f)), .ref tk])), (tk, .inl (Z.2 1, 80, .inl f))]) hP hD [3, 4] [0, 1, 2] rfl rfl (by decide +kernel) (by decide +kernel) hk1 hFc hP1 hD1
        clear hPc hDc hP1 hD1 hk1 hz1 hFc ht hvm
        generalize H1 = H at hP hS ⊢
        have hP : va_P Z.1 vwCl [(h1, .inr (2, [.int (nI q), .int en, .ref k, .ref z])), (k, .inl (Z.2 0, 8, .inl pf)), (z, .inl (Z.2 0, 8, .inl pg)), (h0, .inr (5, [.int (nI n), .int (nI (q_X5_look_p1 n ((q_X5_look_p1 n ((q_X5_look_p1 n ps f) + 1) f) + 1) f)), .ref tk])), (tk, .inl (Z.2 1, 80, .inl f))] H := hP
        have hD : va_D A [(h1, .inr (2, [.int (nI q), .int en, .ref k, .ref z])), (k, .inl (Z.2 0, 8, .inl pf)), (z, .inl (Z.2 0, 8, .inl pg)), (h0, .inr (5, [.int (nI n), .int (nI (q_X5_look_p1 n ((q_X5_look_p1 n ((q_X5_look_p1 n ps f) + 1) f) + 1) f)), .ref tk])), (tk, .inl (Z.2 1, 80, .inl f))] := hD
        refine lv_bipush (v := 48) hx hb dX5_readAsking_54 (by decide) ?_
        refine lv_isub hx hb dX5_readAsking_56 ?_
        refine lv_istore (lv' := [(4, .int ((q_X5_look_r n ((q_X5_look_p1 n ((q_X5_look_p1 n ps f) + 1) f) + 1) f) - 48)), (3, .int ((q_X5_look_r n ps f) - 48)), (0, .ref h0), (1, .ref h1), (2, .int (nI mm))]) hx hb dX5_readAsking_57 hl (by decide) rfl (fun ls hl => ?_)
        refine lv_iload hx hb dX5_readAsking_59 (lv_at hl 0 rfl) ?_
        refine lv_if_lt (tgt := 76) hx hb dX5_readAsking_61 (by decide) (fun c_15 => ?_) (fun c_15 => ?_)
        · refine lv_iconst (v := 0) hx hb dX5_readAsking_76 (by decide) ?_
          have hP9 := hP.sub (ws' := [(h0, .inr (5, [.int (nI n), .int (nI (q_X5_look_p1 n ((q_X5_look_p1 n ((q_X5_look_p1 n ps f) + 1) f) + 1) f)), .ref tk])), (tk, .inl (Z.2 1, 80, .inl f)), (h1, .inr (2, [.int (nI q), .int en, .ref k, .ref z])), (k, .inl (Z.2 0, 8, .inl pf)), (z, .inl (Z.2 0, 8, .inl pg))]) [3, 4, 0, 1, 2] rfl
          have hD9 := hD.sub (ws' := [(h0, .inr (5, [.int (nI n), .int (nI (q_X5_look_p1 n ((q_X5_look_p1 n ((q_X5_look_p1 n ps f) + 1) f) + 1) f)), .ref tk])), (tk, .inl (Z.2 1, 80, .inl f)), (h1, .inr (2, [.int (nI q), .int en, .ref k, .ref z])), (k, .inl (Z.2 0, 8, .inl pf)), (z, .inl (Z.2 0, 8, .inl pg))]) [3, 4, 0, 1, 2] (by decide +kernel) rfl
          exact W.zret (v := 0) hx hb hr rfl (fun t9 ht hW => ⟨⟨0, ((q_X5_look_p1 n ((q_X5_look_p1 n ((q_X5_look_p1 n ps f) + 1) f) + 1) f), q, pf, pg), rfl, ⟨(by unfold q_X5_readAsking_r; rw [if_neg c_4, if_pos c_5, if_pos c_10, if_pos c_15]), (by unfold q_X5_readAsking_p1; rw [if_neg c_4, if_pos c_5, if_pos c_10, if_pos c_15]), (by unfold q_X5_readAsking_q1; rw [if_neg c_4, if_pos c_5, if_pos c_10, if_pos c_15]), (by unfold q_X5_readAsking_pf1; rw [if_neg c_4, if_pos c_5, if_pos c_10, if_pos c_15]), (by unfold q_X5_readAsking_pg1; rw [if_neg c_4, if_pos c_5, if_pos c_10, if_pos c_15]), ⟨Or.inl rfl, by omega, by omega, hz⟩⟩, by rw [ht]; exact hP9, hD9⟩, hS.F ht⟩) hS.2.2 dX5_readAsking_77
        · refine lv_iload hx hb dX5_readAsking_64 (lv_at hl 0 rfl) ?_
          refine lv_iload_n hx hb dX5_readAsking_66 rfl (lv_at hl 4 rfl) ?_
          refine lv_icmp_ge (tgt := 76) hx hb dX5_readAsking_67 (by decide) (fun c_16 => ?_) (fun c_16 => ?_)
          · refine lv_iconst (v := 0) hx hb dX5_readAsking_76 (by decide) ?_
            have hP9 := hP.sub (ws' := [(h0, .inr (5, [.int (nI n), .int (nI (q_X5_look_p1 n ((q_X5_look_p1 n ((q_X5_look_p1 n ps f) + 1) f) + 1) f)), .ref tk])), (tk, .inl (Z.2 1, 80, .inl f)), (h1, .inr (2, [.int (nI q), .int en, .ref k, .ref z])), (k, .inl (Z.2 0, 8, .inl pf)), (z, .inl (Z.2 0, 8, .inl pg))]) [3, 4, 0, 1, 2] rfl
            have hD9 := hD.sub (ws' := [(h0, .inr (5, [.int (nI n), .int (nI (q_X5_look_p1 n ((q_X5_look_p1 n ((q_X5_look_p1 n ps f) + 1) f) + 1) f)), .ref tk])), (tk, .inl (Z.2 1, 80, .inl f)), (h1, .inr (2, [.int (nI q), .int en, .ref k, .ref z])), (k, .inl (Z.2 0, 8, .inl pf)), (z, .inl (Z.2 0, 8, .inl pg))]) [3, 4, 0, 1, 2] (by decide +kernel) rfl
            exact W.zret (v := 0) hx hb hr rfl (fun t9 ht hW => ⟨⟨0, ((q_X5_look_p1 n ((q_X5_look_p1 n ((q_X5_look_p1 n ps f) + 1) f) + 1) f), q, pf, pg), rfl, ⟨(by unfold q_X5_readAsking_r; rw [if_neg c_4, if_pos c_5, if_pos c_10, if_neg c_15, if_pos c_16]), (by unfold q_X5_readAsking_p1; rw [if_neg c_4, if_pos c_5, if_pos c_10, if_neg c_15, if_pos c_16]), (by unfold q_X5_readAsking_q1; rw [if_neg c_4, if_pos c_5, if_pos c_10, if_neg c_15, if_pos c_16]), (by unfold q_X5_readAsking_pf1; rw [if_neg c_4, if_pos c_5, if_pos c_10, if_neg c_15, if_pos c_16]), (by unfold q_X5_readAsking_pg1; rw [if_neg c_4, if_pos c_5, if_pos c_10, if_neg c_15, if_pos c_16]), ⟨Or.inl rfl, by omega, by omega, hz⟩⟩, by rw [ht]; exact hP9, hD9⟩, hS.F ht⟩) hS.2.2 dX5_readAsking_77
          · refine lv_iload hx hb dX5_readAsking_70 (lv_at hl 0 rfl) ?_
            refine lv_iload_n hx hb dX5_readAsking_72 rfl (lv_at hl 1 rfl) ?_
            refine lv_icmp_ne (tgt := 78) hx hb dX5_readAsking_73 (by decide) (fun c_17 => ?_) (fun c_17 => ?_)
            · have hq17 := hwr_12.1 (z_m48 c_15)
              refine lv_aload_n hx hb dX5_readAsking_78 rfl (lv_at hl 2 rfl) ?_
              refine lv_dup hx hb dX5_readAsking_79 rfl ?_
              refine va_get (D := Z.1) (ci := 5) (v := .int (nI (q_X5_look_p1 n ((q_X5_look_p1 n ((q_X5_look_p1 n ps f) + 1) f) + 1) f))) (C := RX5) (T := TX5) (N := 3) hx hb hts hin5 hown hK hP 3 rfl rfl 1 (by decide) (hts (.fieldLink RX5 15 "HalfAsked$Tape" "at" "I") (List.mem_of_getElem? (i := 1) rfl)) (fun _ h9 => h9) rfl dX5_readAsking_80 ?_
              refine lv_iconst (v := 1) hx hb dX5_readAsking_83 (by decide) ?_
              refine lv_iadd hx hb dX5_readAsking_84 ?_
              refine lv_topi (fun f_18 ef_18 => ?_)
              obtain rfl : nI ((q_X5_look_p1 n ((q_X5_look_p1 n ((q_X5_look_p1 n ps f) + 1) f) + 1) f) + 1) = f_18 := (ef_18.trans (nI_1 _)).symm
              refine va_put (D := Z.1) (ci := 5) (v := .int (nI ((q_X5_look_p1 n ((q_X5_look_p1 n ((q_X5_look_p1 n ps f) + 1) f) + 1) f) + 1))) (ty := .int) (C := RX5) (T := TX5) (N := 3) hx hb hts hin5 tyX5 tyX5_ok nmX5 hown hK hP hD hS 3 rfl rfl 1 (by decide) (hts (.fieldLink RX5 15 "HalfAsked$Tape" "at" "I") (List.mem_of_getElem? (i := 1) rfl)) (fun _ h9 => h9) rfl (by decide +kernel) rfl rfl (Nat.le_of_ble_eq_true rfl) dX5_readAsking_85 (fun H locs hP hD hS => ?_)
              have hP : va_P Z.1 vwCl [(h1, .inr (2, [.int (nI q), .int en, .ref k, .ref z])), (k, .inl (Z.2 0, 8, .inl pf)), (z, .inl (Z.2 0, 8, .inl pg)), (h0, .inr (5, [.int (nI n), .int (nI ((q_X5_look_p1 n ((q_X5_look_p1 n ((q_X5_look_p1 n ps f) + 1) f) + 1) f) + 1)), .ref tk])), (tk, .inl (Z.2 1, 80, .inl f))] H := hP
              have hD : va_D A [(h1, .inr (2, [.int (nI q), .int en, .ref k, .ref z])), (k, .inl (Z.2 0, 8, .inl pf)), (z, .inl (Z.2 0, 8, .inl pg)), (h0, .inr (5, [.int (nI n), .int (nI ((q_X5_look_p1 n ((q_X5_look_p1 n ((q_X5_look_p1 n ps f) + 1) f) + 1) f) + 1)), .ref tk])), (tk, .inl (Z.2 1, 80, .inl f))] := hD
              refine lv_aload_n hx hb dX5_readAsking_88 rfl (lv_at hl 3 rfl) ?_
              refine lv_iload_n hx hb dX5_readAsking_89 rfl (lv_at hl 1 rfl) ?_
              refine lv_iload hx hb dX5_readAsking_90 (lv_at hl 0 rfl) ?_
              have hPc := hP.sub (ws' := [(h1, .inr (2, [.int (nI q), .int en, .ref k, .ref z])), (k, .inl (Z.2 0, 8, .inl pf)), (z, .inl (Z.2 0, 8, .inl pg))]) [0, 1, 2] rfl
              have hDc := hD.sub (ws' := [(h1, .inr (2, [.int (nI q), .int en, .ref k, .ref z])), (k, .inl (Z.2 0, 8, .inl pf)), (z, .inl (Z.2 0, 8, .inl pg))]) [0, 1, 2] (by decide +kernel) rfl
              have hFc := va_free (wc := [(h1, .inr (2, [.int (nI q), .int en, .ref k, .ref z])), (k, .inl (Z.2 0, 8, .inl pf)), (z, .inl (Z.2 0, 8, .inl pg))]) hD hS hA [0, 1, 2] rfl
              refine va_callv (va_runV (As := [.int ((q_X5_look_r n ps f) - 48), .int ((q_X5_look_r n ((q_X5_look_p1 n ((q_X5_look_p1 n ps f) + 1) f) + 1) f) - 48)]) (rest := []) ⟨hx, hb, hml, hown, hts⟩ (c_X2_add l Z H.size h1 q en k z pf pg ((q_X5_look_r n ps f) - 48) ((q_X5_look_r n ((q_X5_look_p1 n ((q_X5_look_p1 n ps f) + 1) f) + 1) f) - 48) (hq) (hz) (z_by2 hm c_4 c_5) (z_by hm c_15 c_16)) (cwV 2 hts gX5_readAsking_X2_add rfl rfl rfl (by decide +kernel) ⟨Nat.le_of_ble_eq_true rfl, Nat.le_of_ble_eq_true rfl⟩) ⟨fun a U g mk q => by obtain ⟨q0, q1, qP, qK, qD⟩ := q; exact ⟨q0, q1, qP, va_K.moved (u := U) (U := U.calling g mk a) (Vm.Alike.refl U.vm) qK, qD⟩, va_recv hK hPc (ci := 2) (q0 := 0) rfl rfl, fun U hU hW => ⟨rfl, by rw [hU], by rw [hU]; exact hPc, va_K.moved hW.alike hK, hDc.weaken (fun _ _ _ _ => trivial)⟩⟩ rfl rfl hl.1 rfl (lv_room (Nat.le_of_ble_eq_true rfl)) dX5_readAsking_92 ⟨Nat.le_of_ble_eq_true rfl, Nat.le_of_ble_eq_true rfl⟩) hS (fun q _ h => hFc q h) hFc (fun u t9 H1 locs ht hvm hw hB hz1 hk1 hS => ?_)
              obtain ⟨f1_20, g1_21⟩ := u
              try dsimp only at hw hB
              obtain ⟨hx_22, hx_23, hwr_19⟩ := hw
              subst hx_22
              subst hx_23
              obtain ⟨hP1, hD1⟩ := hB
              rw [ht] at hP1
              obtain ⟨hP, hD⟩ := va_join (wr := [(h0, .inr (5, [.int (nI n), .int (nI ((q_X5_look_p1 n ((q_X5_look_p1 n ((q_X5_look_p1 n ps f) + 1) f) + 1) f) + 1)), .ref tk])), (tk, .inl (Z.2 1, 80, .inl f))]) (w1 := [(h1, .inr (2, [.int (nI (q + 1)), .int en, .ref k, .ref z])), (k, .inl (Z.2 0, 8, .inl (q_X2_add_f1 q pf ((q_X5_look_r n ps f) - 48)))), (z, .inl (Z.2 0, 8, .inl (q_X2_add_g1 q pg ((q_X5_look_r n ((q_X5_look_p1 n ((q_X5_look_p1 n ps f) + 1) f) + 1) f) - 48))))]) hP hD [0, 1, 2] [3, 4] rfl rfl (by decide +kernel) (by decide +kernel) hk1 hFc hP1 hD1
              clear hPc hDc hP1 hD1 hk1 hz1 hFc ht hvm
              generalize H1 = H at hP hS ⊢
              have hP : va_P Z.1 vwCl [(h0, .inr (5, [.int (nI n), .int (nI ((q_X5_look_p1 n ((q_X5_look_p1 n ((q_X5_look_p1 n ps f) + 1) f) + 1) f) + 1)), .ref tk])), (tk, .inl (Z.2 1, 80, .inl f)), (h1, .inr (2, [.int (nI (q + 1)), .int en, .ref k, .ref z])), (k, .inl (Z.2 0, 8, .inl (q_X2_add_f1 q pf ((q_X5_look_r n ps f) - 48)))), (z, .inl (Z.2 0, 8, .inl (q_X2_add_g1 q pg ((q_X5_look_r n ((q_X5_look_p1 n ((q_X5_look_p1 n ps f) + 1) f) + 1) f) - 48))))] H := hP
              have hD : va_D A [(h0, .inr (5, [.int (nI n), .int (nI ((q_X5_look_p1 n ((q_X5_look_p1 n ((q_X5_look_p1 n ps f) + 1) f) + 1) f) + 1)), .ref tk])), (tk, .inl (Z.2 1, 80, .inl f)), (h1, .inr (2, [.int (nI (q + 1)), .int en, .ref k, .ref z])), (k, .inl (Z.2 0, 8, .inl (q_X2_add_f1 q pf ((q_X5_look_r n ps f) - 48)))), (z, .inl (Z.2 0, 8, .inl (q_X2_add_g1 q pg ((q_X5_look_r n ((q_X5_look_p1 n ((q_X5_look_p1 n ps f) + 1) f) + 1) f) - 48))))] := hD
              refine lv_iconst (v := 1) hx hb dX5_readAsking_95 (by decide) ?_
              have hP9 := hP.sub (ws' := [(h0, .inr (5, [.int (nI n), .int (nI ((q_X5_look_p1 n ((q_X5_look_p1 n ((q_X5_look_p1 n ps f) + 1) f) + 1) f) + 1)), .ref tk])), (tk, .inl (Z.2 1, 80, .inl f)), (h1, .inr (2, [.int (nI (q + 1)), .int en, .ref k, .ref z])), (k, .inl (Z.2 0, 8, .inl (q_X2_add_f1 q pf ((q_X5_look_r n ps f) - 48)))), (z, .inl (Z.2 0, 8, .inl (q_X2_add_g1 q pg ((q_X5_look_r n ((q_X5_look_p1 n ((q_X5_look_p1 n ps f) + 1) f) + 1) f) - 48))))]) [0, 1, 2, 3, 4] rfl
              have hD9 := hD.sub (ws' := [(h0, .inr (5, [.int (nI n), .int (nI ((q_X5_look_p1 n ((q_X5_look_p1 n ((q_X5_look_p1 n ps f) + 1) f) + 1) f) + 1)), .ref tk])), (tk, .inl (Z.2 1, 80, .inl f)), (h1, .inr (2, [.int (nI (q + 1)), .int en, .ref k, .ref z])), (k, .inl (Z.2 0, 8, .inl (q_X2_add_f1 q pf ((q_X5_look_r n ps f) - 48)))), (z, .inl (Z.2 0, 8, .inl (q_X2_add_g1 q pg ((q_X5_look_r n ((q_X5_look_p1 n ((q_X5_look_p1 n ps f) + 1) f) + 1) f) - 48))))]) [0, 1, 2, 3, 4] (by decide +kernel) rfl
              exact W.zret (v := 1) hx hb hr rfl (fun t9 ht hW => ⟨⟨1, (((q_X5_look_p1 n ((q_X5_look_p1 n ((q_X5_look_p1 n ps f) + 1) f) + 1) f) + 1), (q + 1), q_X2_add_f1 q pf ((q_X5_look_r n ps f) - 48), q_X2_add_g1 q pg ((q_X5_look_r n ((q_X5_look_p1 n ((q_X5_look_p1 n ps f) + 1) f) + 1) f) - 48)), rfl, ⟨(by unfold q_X5_readAsking_r; rw [if_neg c_4, if_pos c_5, if_pos c_10, if_neg c_15, if_neg c_16, if_neg c_17]), (by unfold q_X5_readAsking_p1; rw [if_neg c_4, if_pos c_5, if_pos c_10, if_neg c_15, if_neg c_16, if_neg c_17]), (by unfold q_X5_readAsking_q1; rw [if_neg c_4, if_pos c_5, if_pos c_10, if_neg c_15, if_neg c_16, if_neg c_17]), (by unfold q_X5_readAsking_pf1; rw [if_neg c_4, if_pos c_5, if_pos c_10, if_neg c_15, if_neg c_16, if_neg c_17]), (by unfold q_X5_readAsking_pg1; rw [if_neg c_4, if_pos c_5, if_pos c_10, if_neg c_15, if_neg c_16, if_neg c_17]), ⟨Or.inr ⟨rfl, by omega⟩, by omega, by omega, hwr_19⟩⟩, by rw [ht]; exact hP9, hD9⟩, hS.F ht⟩) hS.2.2 dX5_readAsking_96
            · refine lv_iconst (v := 0) hx hb dX5_readAsking_76 (by decide) ?_
              have hP9 := hP.sub (ws' := [(h0, .inr (5, [.int (nI n), .int (nI (q_X5_look_p1 n ((q_X5_look_p1 n ((q_X5_look_p1 n ps f) + 1) f) + 1) f)), .ref tk])), (tk, .inl (Z.2 1, 80, .inl f)), (h1, .inr (2, [.int (nI q), .int en, .ref k, .ref z])), (k, .inl (Z.2 0, 8, .inl pf)), (z, .inl (Z.2 0, 8, .inl pg))]) [3, 4, 0, 1, 2] rfl
              have hD9 := hD.sub (ws' := [(h0, .inr (5, [.int (nI n), .int (nI (q_X5_look_p1 n ((q_X5_look_p1 n ((q_X5_look_p1 n ps f) + 1) f) + 1) f)), .ref tk])), (tk, .inl (Z.2 1, 80, .inl f)), (h1, .inr (2, [.int (nI q), .int en, .ref k, .ref z])), (k, .inl (Z.2 0, 8, .inl pf)), (z, .inl (Z.2 0, 8, .inl pg))]) [3, 4, 0, 1, 2] (by decide +kernel) rfl
              exact W.zret (v := 0) hx hb hr rfl (fun t9 ht hW => ⟨⟨0, ((q_X5_look_p1 n ((q_X5_look_p1 n ((q_X5_look_p1 n ps f) + 1) f) + 1) f), q, pf, pg), rfl, ⟨(by unfold q_X5_readAsking_r; rw [if_neg c_4, if_pos c_5, if_pos c_10, if_neg c_15, if_neg c_16, if_pos c_17]), (by unfold q_X5_readAsking_p1; rw [if_neg c_4, if_pos c_5, if_pos c_10, if_neg c_15, if_neg c_16, if_pos c_17]), (by unfold q_X5_readAsking_q1; rw [if_neg c_4, if_pos c_5, if_pos c_10, if_neg c_15, if_neg c_16, if_pos c_17]), (by unfold q_X5_readAsking_pf1; rw [if_neg c_4, if_pos c_5, if_pos c_10, if_neg c_15, if_neg c_16, if_pos c_17]), (by unfold q_X5_readAsking_pg1; rw [if_neg c_4, if_pos c_5, if_pos c_10, if_neg c_15, if_neg c_16, if_pos c_17]), ⟨Or.inl rfl, by omega, by omega, hz⟩⟩, by rw [ht]; exact hP9, hD9⟩, hS.F ht⟩) hS.2.2 dX5_readAsking_77
      · refine lv_iconst (v := 0) hx hb dX5_readAsking_38 (by decide) ?_
        have hP9 := hP.sub (ws' := [(h0, .inr (5, [.int (nI n), .int (nI (q_X5_look_p1 n ((q_X5_look_p1 n ps f) + 1) f)), .ref tk])), (tk, .inl (Z.2 1, 80, .inl f)), (h1, .inr (2, [.int (nI q), .int en, .ref k, .ref z])), (k, .inl (Z.2 0, 8, .inl pf)), (z, .inl (Z.2 0, 8, .inl pg))]) [3, 4, 0, 1, 2] rfl
        have hD9 := hD.sub (ws' := [(h0, .inr (5, [.int (nI n), .int (nI (q_X5_look_p1 n ((q_X5_look_p1 n ps f) + 1) f)), .ref tk])), (tk, .inl (Z.2 1, 80, .inl f)), (h1, .inr (2, [.int (nI q), .int en, .ref k, .ref z])), (k, .inl (Z.2 0, 8, .inl pf)), (z, .inl (Z.2 0, 8, .inl pg))]) [3, 4, 0, 1, 2] (by decide +kernel) rfl
        exact W.zret (v := 0) hx hb hr rfl (fun t9 ht hW => ⟨⟨0, ((q_X5_look_p1 n ((q_X5_look_p1 n ps f) + 1) f), q, pf, pg), rfl, ⟨(by unfold q_X5_readAsking_r; rw [if_neg c_4, if_pos c_5, if_neg c_10]), (by unfold q_X5_readAsking_p1; rw [if_neg c_4, if_pos c_5, if_neg c_10]), (by unfold q_X5_readAsking_q1; rw [if_neg c_4, if_pos c_5, if_neg c_10]), (by unfold q_X5_readAsking_pf1; rw [if_neg c_4, if_pos c_5, if_neg c_10]), (by unfold q_X5_readAsking_pg1; rw [if_neg c_4, if_pos c_5, if_neg c_10]), ⟨Or.inl rfl, by omega, by omega, hz⟩⟩, by rw [ht]; exact hP9, hD9⟩, hS.F ht⟩) hS.2.2 dX5_readAsking_39
    · refine lv_iconst (v := 0) hx hb dX5_readAsking_17 (by decide) ?_
      have hP9 := hP.sub (ws' := [(h0, .inr (5, [.int (nI n), .int (nI (q_X5_look_p1 n ps f)), .ref tk])), (tk, .inl (Z.2 1, 80, .inl f)), (h1, .inr (2, [.int (nI q), .int en, .ref k, .ref z])), (k, .inl (Z.2 0, 8, .inl pf)), (z, .inl (Z.2 0, 8, .inl pg))]) [3, 4, 0, 1, 2] rfl
      have hD9 := hD.sub (ws' := [(h0, .inr (5, [.int (nI n), .int (nI (q_X5_look_p1 n ps f)), .ref tk])), (tk, .inl (Z.2 1, 80, .inl f)), (h1, .inr (2, [.int (nI q), .int en, .ref k, .ref z])), (k, .inl (Z.2 0, 8, .inl pf)), (z, .inl (Z.2 0, 8, .inl pg))]) [3, 4, 0, 1, 2] (by decide +kernel) rfl
      exact W.zret (v := 0) hx hb hr rfl (fun t9 ht hW => ⟨⟨0, ((q_X5_look_p1 n ps f), q, pf, pg), rfl, ⟨(by unfold q_X5_readAsking_r; rw [if_neg c_4, if_neg c_5]), (by unfold q_X5_readAsking_p1; rw [if_neg c_4, if_neg c_5]), (by unfold q_X5_readAsking_q1; rw [if_neg c_4, if_neg c_5]), (by unfold q_X5_readAsking_pf1; rw [if_neg c_4, if_neg c_5]), (by unfold q_X5_readAsking_pg1; rw [if_neg c_4, if_neg c_5]), ⟨Or.inl rfl, by omega, by omega, hz⟩⟩, by rw [ht]; exact hP9, hD9⟩, hS.F ht⟩) hS.2.2 dX5_readAsking_18
def ql_X5_readPlan (n : Nat) (f : Nat → Int32) (mm : Nat) : Nat → Nat → Nat → Nat → Int32 → Int32 → (Nat → Int32) → (Nat → Int32) → Nat × Nat × Nat × Nat × Int32 × Int32 × (Nat → Int32) × (Nat → Int32)
  | 0, ps, q, j, en, x, pf, pg => (0, ps, q, j, en, x, pf, pg)
  | fu9 + 1, ps, q, j, en, x, pf, pg => (if x < 0 then (3, ps, q, j, en, x, pf, pg) else (if (q_X5_readAsking_r n ps f mm) = 0 then (0, (q_X5_readAsking_p1 n ps f mm), (q_X5_readAsking_q1 n ps f q mm), j, en, x, q_X5_readAsking_pf1 n ps f q pf mm, q_X5_readAsking_pg1 n ps f q pg mm) else (if (q_X5_look_r n (q_X5_readAsking_p1 n ps f mm) f) = 59 then (if (q_X5_look_r n ((q_X5_look_p1 n (q_X5_readAsking_p1 n ps f mm) f) + 1) f) = 0 then (1, (q_X5_look_p1 n ((q_X5_look_p1 n (q_X5_readAsking_p1 n ps f mm) f) + 1) f), (q_X5_readAsking_q1 n ps f q mm), j, en ||| (1 <<< (((nI (q_X5_readAsking_q1 n ps f q mm)) - 1) &&& 31)), x, q_X5_readAsking_pf1 n ps f q pf mm, q_X5_readAsking_pg1 n ps f q pg mm) else (if x = 0 then (2, (q_X5_look_p1 n ((q_X5_look_p1 n (q_X5_readAsking_p1 n ps f mm) f) + 1) f), (q_X5_readAsking_q1 n ps f q mm), j, en ||| (1 <<< (((nI (q_X5_readAsking_q1 n ps f q mm)) - 1) &&& 31)), x, q_X5_readAsking_pf1 n ps f q pf mm, q_X5_readAsking_pg1 n ps f q pg mm) else (if (q_X5_look_r n (q_X5_readAsking_p1 n ps f mm) f) = 44 then ql_X5_readPlan n f mm fu9 ((q_X5_look_p1 n ((q_X5_look_p1 n (q_X5_readAsking_p1 n ps f mm) f) + 1) f) + 1) (q_X5_readAsking_q1 n ps f q mm) (j - 1) (en ||| (1 <<< (((nI (q_X5_readAsking_q1 n ps f q mm)) - 1) &&& 31))) (x + (-1)) (q_X5_readAsking_pf1 n ps f q pf mm) (q_X5_readAsking_pg1 n ps f q pg mm) else ql_X5_readPlan n f mm fu9 (q_X5_look_p1 n ((q_X5_look_p1 n (q_X5_readAsking_p1 n ps f mm) f) + 1) f) (q_X5_readAsking_q1 n ps f q mm) (j - 1) (en ||| (1 <<< (((nI (q_X5_readAsking_q1 n ps f q mm)) - 1) &&& 31))) (x + (-1)) (q_X5_readAsking_pf1 n ps f q pf mm) (q_X5_readAsking_pg1 n ps f q pg mm)))) else (if (q_X5_look_r n (q_X5_look_p1 n (q_X5_readAsking_p1 n ps f mm) f) f) = 0 then (1, (q_X5_look_p1 n (q_X5_look_p1 n (q_X5_readAsking_p1 n ps f mm) f) f), (q_X5_readAsking_q1 n ps f q mm), j, en, x, q_X5_readAsking_pf1 n ps f q pf mm, q_X5_readAsking_pg1 n ps f q pg mm) else (if x = 0 then (2, (q_X5_look_p1 n (q_X5_look_p1 n (q_X5_readAsking_p1 n ps f mm) f) f), (q_X5_readAsking_q1 n ps f q mm), j, en, x, q_X5_readAsking_pf1 n ps f q pf mm, q_X5_readAsking_pg1 n ps f q pg mm) else (if (q_X5_look_r n (q_X5_readAsking_p1 n ps f mm) f) = 44 then ql_X5_readPlan n f mm fu9 ((q_X5_look_p1 n (q_X5_look_p1 n (q_X5_readAsking_p1 n ps f mm) f) f) + 1) (q_X5_readAsking_q1 n ps f q mm) (j - 1) en (x + (-1)) (q_X5_readAsking_pf1 n ps f q pf mm) (q_X5_readAsking_pg1 n ps f q pg mm) else (2, (q_X5_look_p1 n (q_X5_look_p1 n (q_X5_readAsking_p1 n ps f mm) f) f), (q_X5_readAsking_q1 n ps f q mm), j, en, x, q_X5_readAsking_pf1 n ps f q pf mm, q_X5_readAsking_pg1 n ps f q pg mm)))))))
set_option maxHeartbeats 4000000 in
set_option maxRecDepth 100000 in
theorem lp_X5_readPlan {p : Program} {l : Launch} {e : Env} {s : State} {m : MethodId} {args : Array Value} {below : List Frame} {meth : Method} {c : Code} {Q : State → Prop} {A : Nat → Prop} (Z : gZ) (h0 : Nat) (tk : Nat) (n : Nat) (f : Nat → Int32) (h1 : Nat) (k : Nat) (z : Nat) (mm : Nat) (T9 : Nat × Nat × Nat × Nat × Int32 × Int32 × (Nat → Int32) × (Nat → Int32)) (hn : n ≤ 80) (hc : zC f) (hm : mm ≤ 5) (hx : p.tables.exec = Jvm.exec) (hb : c.code = cX5_readPlan) (hml : c.maxLocals = 5) (hts : ∀ w ∈ wsX5_readPlan, w.before args s = true) (hown : s.vm.findClass RX5 = some m.cls) (hK : va_K Z.1 vwCl (gT Z) s) (hA : ∀ q : Nat, s.heap.size ≤ q → A q) (kx_25 : ∀ (ps : Nat) (q : Nat) (j : Nat) (en : Int32) (x : Int32) (pf : Nat → Int32) (pg : Nat → Int32) (H : Heap) (locs : List Loc) (ls : Array Slot), ((ps ≤ n ∧ q ≤ 8) ∧ zP q pf pg) → (T9 = (0, ps, q, j, en, x, pf, pg)) → va_P Z.1 vwCl [(h0, .inr (5, [.int (nI n), .int (nI ps), .ref tk])), (tk, .inl (Z.2 1, 80, .inl f)), (h1, .inr (2, [.int (nI q), .int en, .ref k, .ref z])), (k, .inl (Z.2 0, 8, .inl pf)), (z, .inl (Z.2 0, 8, .inl pg))] H → va_D A [(h0, .inr (5, [.int (nI n), .int (nI ps), .ref tk])), (tk, .inl (Z.2 1, 80, .inl f)), (h1, .inr (2, [.int (nI q), .int en, .ref k, .ref z])), (k, .inl (Z.2 0, 8, .inl pf)), (z, .inl (Z.2 0, 8, .inl pg))] → va_S A s.heap H locs → lv_has ls 5 [(0, .ref h0), (1, .ref h1), (2, .int (nI mm)), (3, .int x)] → W p l e ({ frames := 6, cells := 0, slots := 0, locals := 300 } : Room) s m args below meth c H locs 0 0 Q (F0 m 25 ls [])) (kx_80 : ∀ (ps : Nat) (q : Nat) (j : Nat) (en : Int32) (x : Int32) (pf : Nat → Int32) (pg : Nat → Int32) (H : Heap) (locs : List Loc) (ls : Array Slot), ((ps ≤ n ∧ q ≤ 8) ∧ zP q pf pg) → (T9 = (1, ps, q, j, en, x, pf, pg)) → va_P Z.1 vwCl [(h0, .inr (5, [.int (nI n), .int (nI ps), .ref tk])), (tk, .inl (Z.2 1, 80, .inl f)), (h1, .inr (2, [.int (nI q), .int en, .ref k, .ref z])), (k, .inl (Z.2 0, 8, .inl pf)), (z, .inl (Z.2 0, 8, .inl pg))] H → va_D A [(h0, .inr (5, [.int (nI n), .int (nI ps), .ref tk])), (tk, .inl (Z.2 1, 80, .inl f)), (h1, .inr (2, [.int (nI q), .int en, .ref k, .ref z])), (k, .inl (Z.2 0, 8, .inl pf)), (z, .inl (Z.2 0, 8, .inl pg))] → va_S A s.heap H locs → lv_has ls 5 [(0, .ref h0), (1, .ref h1), (2, .int (nI mm)), (3, .int x)] → W p l e ({ frames := 6, cells := 0, slots := 0, locals := 300 } : Room) s m args below meth c H locs 0 0 Q (F0 m 80 ls [])) (kx_103 : ∀ (ps : Nat) (q : Nat) (j : Nat) (en : Int32) (x : Int32) (pf : Nat → Int32) (pg : Nat → Int32) (H : Heap) (locs : List Loc) (ls : Array Slot), ((ps ≤ n ∧ q ≤ 8) ∧ zP q pf pg) → (T9 = (2, ps, q, j, en, x, pf, pg)) → va_P Z.1 vwCl [(h0, .inr (5, [.int (nI n), .int (nI ps), .ref tk])), (tk, .inl (Z.2 1, 80, .inl f)), (h1, .inr (2, [.int (nI q), .int en, .ref k, .ref z])), (k, .inl (Z.2 0, 8, .inl pf)), (z, .inl (Z.2 0, 8, .inl pg))] H → va_D A [(h0, .inr (5, [.int (nI n), .int (nI ps), .ref tk])), (tk, .inl (Z.2 1, 80, .inl f)), (h1, .inr (2, [.int (nI q), .int en, .ref k, .ref z])), (k, .inl (Z.2 0, 8, .inl pf)), (z, .inl (Z.2 0, 8, .inl pg))] → va_S A s.heap H locs → lv_has ls 5 [(0, .ref h0), (1, .ref h1), (2, .int (nI mm)), (3, .int x)] → W p l e ({ frames := 6, cells := 0, slots := 0, locals := 300 } : Room) s m args below meth c H locs 0 0 Q (F0 m 103 ls [])) (kx_134 : ∀ (ps : Nat) (q : Nat) (j : Nat) (en : Int32) (x : Int32) (pf : Nat → Int32) (pg : Nat → Int32) (H : Heap) (locs : List Loc) (ls : Array Slot), ((ps ≤ n ∧ q ≤ 8) ∧ zP q pf pg) → (T9 = (3, ps, q, j, en, x, pf, pg)) → va_P Z.1 vwCl [(h0, .inr (5, [.int (nI n), .int (nI ps), .ref tk])), (tk, .inl (Z.2 1, 80, .inl f)), (h1, .inr (2, [.int (nI q), .int en, .ref k, .ref z])), (k, .inl (Z.2 0, 8, .inl pf)), (z, .inl (Z.2 0, 8, .inl pg))] H → va_D A [(h0, .inr (5, [.int (nI n), .int (nI ps), .ref tk])), (tk, .inl (Z.2 1, 80, .inl f)), (h1, .inr (2, [.int (nI q), .int en, .ref k, .ref z])), (k, .inl (Z.2 0, 8, .inl pf)), (z, .inl (Z.2 0, 8, .inl pg))] → va_S A s.heap H locs → lv_has ls 5 [(0, .ref h0), (1, .ref h1), (2, .int (nI mm)), (3, .int x)] → W p l e ({ frames := 6, cells := 0, slots := 0, locals := 300 } : Room) s m args below meth c H locs 0 0 Q (F0 m 134 ls [])) : ∀ (fu9 : Nat) (ps : Nat) (q : Nat) (j : Nat) (en : Int32) (x : Int32) (pf : Nat → Int32) (pg : Nat → Int32), j < fu9 → (ps ≤ n) → (q + j ≤ 8) → (z_dn j x) → (zP q pf pg) → (ql_X5_readPlan n f mm fu9 ps q j en x pf pg = T9) → ∀ (H : Heap) (locs : List Loc) (ls : Array Slot), va_P Z.1 vwCl [(h0, .inr (5, [.int (nI n), .int (nI ps), .ref tk])), (tk, .inl (Z.2 1, 80, .inl f)), (h1, .inr (2, [.int (nI q), .int en, .ref k, .ref z])), (k, .inl (Z.2 0, 8, .inl pf)), (z, .inl (Z.2 0, 8, .inl pg))] H → va_D A [(h0, .inr (5, [.int (nI n), .int (nI ps), .ref tk])), (tk, .inl (Z.2 1, 80, .inl f)), (h1, .inr (2, [.int (nI q), .int en, .ref k, .ref z])), (k, .inl (Z.2 0, 8, .inl pf)), (z, .inl (Z.2 0, 8, .inl pg))] → va_S A s.heap H locs → lv_has ls 5 [(0, .ref h0), (1, .ref h1), (2, .int (nI mm)), (3, .int x)] → W p l e ({ frames := 6, cells := 0, slots := 0, locals := 300 } : Room) s m args below meth c H locs 0 0 Q (F0 m 12 ls []) := by
  have hin2 : ∀ w ∈ wsX20, w ∈ wsX5_readPlan := fun w h9 => (List.mem_cons_of_mem _ (List.mem_append_right _ h9))
  have hin5 : ∀ w ∈ wsX50, w ∈ wsX5_readPlan := fun w h9 => (List.mem_cons_of_mem _ (List.mem_append_left _ (List.mem_append_right _ h9)))
  intro fu9
  induction fu9 with
  | zero => intro ps q j en x pf pg hf9; exact absurd hf9 (Nat.not_lt_zero _)
  | succ fu9 ih =>
    intro ps q j en x pf pg hf9 hp hqj hx0 hzz hT9 H locs ls hP hD hS hl
    refine lv_iload_n hx hb dX5_readPlan_12 rfl (lv_at hl 3 rfl) ?_
    refine lv_if_lt (tgt := 134) hx hb dX5_readPlan_13 (by decide) (fun c_1 => ?_) (fun c_1 => ?_)
    · exact kx_134 ps q j en x pf pg H locs ls (⟨⟨by omega, by omega⟩, hzz⟩) (by have h8 := hT9; rw [ql_X5_readPlan, if_pos c_1] at h8; exact h8.symm) hP hD hS (lv_sub hl [0, 1, 2, 3] rfl)
    · have hdn := z_dn_p hx0 (by omega) c_1
      refine lv_aload_n hx hb dX5_readPlan_16 rfl (lv_at hl 0 rfl) ?_
      refine lv_aload_n hx hb dX5_readPlan_17 rfl (lv_at hl 1 rfl) ?_
      refine lv_iload_n hx hb dX5_readPlan_18 rfl (lv_at hl 2 rfl) ?_
      have hPc := hP.sub (ws' := [(h0, .inr (5, [.int (nI n), .int (nI ps), .ref tk])), (tk, .inl (Z.2 1, 80, .inl f)), (h1, .inr (2, [.int (nI q), .int en, .ref k, .ref z])), (k, .inl (Z.2 0, 8, .inl pf)), (z, .inl (Z.2 0, 8, .inl pg))]) [0, 1, 2, 3, 4] rfl
      have hDc := hD.sub (ws' := [(h0, .inr (5, [.int (nI n), .int (nI ps), .ref tk])), (tk, .inl (Z.2 1, 80, .inl f)), (h1, .inr (2, [.int (nI q), .int en, .ref k, .ref z])), (k, .inl (Z.2 0, 8, .inl pf)), (z, .inl (Z.2 0, 8, .inl pg))]) [0, 1, 2, 3, 4] (by decide +kernel) rfl
      have hFc := va_free (wc := [(h0, .inr (5, [.int (nI n), .int (nI ps), .ref tk])), (tk, .inl (Z.2 1, 80, .inl f)), (h1, .inr (2, [.int (nI q), .int en, .ref k, .ref z])), (k, .inl (Z.2 0, 8, .inl pf)), (z, .inl (Z.2 0, 8, .inl pg))]) hD hS hA [0, 1, 2, 3, 4] rfl
      refine va_calli (va_runV (As := [.ref h1, .int (nI mm)]) (rest := []) ⟨hx, hb, hml, hown, hts⟩ (c_X5_readAsking l Z H.size h0 tk n ps f h1 q en k z pf pg mm (hn) (by omega) (hc) (by omega) (hzz) (hm)) (cwV 2 hts gX5_readPlan_X5_readAsking rfl rfl rfl (by decide +kernel) ⟨Nat.le_of_ble_eq_true rfl, Nat.le_of_ble_eq_true rfl⟩) ⟨fun a U g mk q => by obtain ⟨q0, q1, qP, qK, qD⟩ := q; exact ⟨q0, q1, qP, va_K.moved (u := U) (U := U.calling g mk a) (Vm.Alike.refl U.vm) qK, qD⟩, va_recv hK hPc (ci := 5) (q0 := 0) rfl rfl, fun U hU hW => ⟨rfl, by rw [hU], by rw [hU]; exact hPc, va_K.moved hW.alike hK, hDc.weaken (fun _ _ _ _ => trivial)⟩⟩ rfl rfl hl.1 rfl (lv_room (Nat.le_of_ble_eq_true rfl)) dX5_readPlan_19 ⟨Nat.le_of_ble_eq_true rfl, Nat.le_of_ble_eq_true rfl⟩) hS (fun q _ h => hFc q h) hFc (fun r_2 u t9 H1 locs ht hvm hw hB hz1 hk1 hS => ?_)
      obtain ⟨p1_3, q1_4, pf1_5, pg1_6⟩ := u
      try dsimp only at hw hB
      obtain ⟨hw, hx_7, hx_8, hx_9, hx_10, hwr_2⟩ := hw
      subst hx_7
      subst hx_8
      subst hx_9
      subst hx_10
      have hw9 := hw.symm
      clear hw
      subst hw9
      obtain ⟨hP1, hD1⟩ := hB
      rw [ht] at hP1
      obtain ⟨hP, hD⟩ := va_join (wr := []) (w1 := [(h0, .inr (5, [.int (nI n), .int (nI (q_X5_readAsking_p1 n ps f mm)), .ref tk])), (tk, .inl (Z.2 1, 80, .inl f)), (h1, .inr (2, [.int (nI (q_X5_readAsking_q1 n ps f q mm)), .int en, .ref k, .ref z])), (k, .inl (Z.2 0, 8, .inl (q_X5_readAsking_pf1 n ps f q pf mm))), (z, .inl (Z.2 0, 8, .inl (q_X5_readAsking_pg1 n ps f q pg mm)))]) hP hD [0, 1, 2, 3, 4] [] rfl rfl (by decide +kernel) (by decide +kernel) hk1 hFc hP1 hD1
      clear hPc hDc hP1 hD1 hk1 hz1 hFc ht hvm
      generalize H1 = H at hP hS ⊢
      have hP : va_P Z.1 vwCl [(h0, .inr (5, [.int (nI n), .int (nI (q_X5_readAsking_p1 n ps f mm)), .ref tk])), (tk, .inl (Z.2 1, 80, .inl f)), (h1, .inr (2, [.int (nI (q_X5_readAsking_q1 n ps f q mm)), .int en, .ref k, .ref z])), (k, .inl (Z.2 0, 8, .inl (q_X5_readAsking_pf1 n ps f q pf mm))), (z, .inl (Z.2 0, 8, .inl (q_X5_readAsking_pg1 n ps f q pg mm)))] H := hP
      have hD : va_D A [(h0, .inr (5, [.int (nI n), .int (nI (q_X5_readAsking_p1 n ps f mm)), .ref tk])), (tk, .inl (Z.2 1, 80, .inl f)), (h1, .inr (2, [.int (nI (q_X5_readAsking_q1 n ps f q mm)), .int en, .ref k, .ref z])), (k, .inl (Z.2 0, 8, .inl (q_X5_readAsking_pf1 n ps f q pf mm))), (z, .inl (Z.2 0, 8, .inl (q_X5_readAsking_pg1 n ps f q pg mm)))] := hD
      have hr10 := hwr_2
      refine lv_if_ne (tgt := 33) hx hb dX5_readPlan_22 (by decide) (fun c_11 => ?_) (fun c_11 => ?_)
      · have h111 := (hr10.1.resolve_left c_11).2
        refine lv_aload_n hx hb dX5_readPlan_33 rfl (lv_at hl 0 rfl) ?_
        have hPc := hP.sub (ws' := [(h0, .inr (5, [.int (nI n), .int (nI (q_X5_readAsking_p1 n ps f mm)), .ref tk])), (tk, .inl (Z.2 1, 80, .inl f))]) [0, 1] rfl
        have hDc := hD.sub (ws' := [(h0, .inr (5, [.int (nI n), .int (nI (q_X5_readAsking_p1 n ps f mm)), .ref tk])), (tk, .inl (Z.2 1, 80, .inl f))]) [0, 1] (by decide +kernel) rfl
        have hFc := va_free (wc := [(h0, .inr (5, [.int (nI n), .int (nI (q_X5_readAsking_p1 n ps f mm)), .ref tk])), (tk, .inl (Z.2 1, 80, .inl f))]) hD hS hA [0, 1] rfl
        refine va_calli (va_runV (As := []) (rest := []) ⟨hx, hb, hml, hown, hts⟩ (c_X5_look l Z H.size h0 tk n (q_X5_readAsking_p1 n ps f mm) f (hn) (by omega) (hc)) (cwV 0 hts gX5_readPlan_X5_look rfl rfl rfl (by decide +kernel) ⟨Nat.le_of_ble_eq_true rfl, Nat.le_of_ble_eq_true rfl⟩) ⟨fun a U g mk q => by obtain ⟨q0, q1, qP, qK, qD⟩ := q; exact ⟨q0, q1, qP, va_K.moved (u := U) (U := U.calling g mk a) (Vm.Alike.refl U.vm) qK, qD⟩, va_recv hK hPc (ci := 5) (q0 := 0) rfl rfl, fun U hU hW => ⟨rfl, by rw [hU], by rw [hU]; exact hPc, va_K.moved hW.alike hK, hDc.weaken (fun _ _ _ _ => trivial)⟩⟩ rfl rfl hl.1 rfl (lv_room (Nat.le_of_ble_eq_true rfl)) dX5_readPlan_34 ⟨Nat.le_of_ble_eq_true rfl, Nat.le_of_ble_eq_true rfl⟩) hS (fun q _ h => hFc q h) hFc (fun r_12 u t9 H1 locs ht hvm hw hB hz1 hk1 hS => ?_)
        obtain ⟨p1_13, rfl⟩ : ∃ z, z = u := ⟨_, rfl⟩
        try dsimp only at hw hB
        obtain ⟨hw, hx_14, hwr_12⟩ := hw
        subst hx_14
        have hw9 := hw.symm
        clear hw
        subst hw9
        obtain ⟨hP1, hD1⟩ := hB
        rw [ht] at hP1
        obtain ⟨hP, hD⟩ := va_join (wr := [(h1, .inr (2, [.int (nI (q_X5_readAsking_q1 n ps f q mm)), .int en, .ref k, .ref z])), (k, .inl (Z.2 0, 8, .inl (q_X5_readAsking_pf1 n ps f q pf mm))), (z, .inl (Z.2 0, 8, .inl (q_X5_readAsking_pg1 n ps f q pg mm)))]) (w1 := [(h0, .inr (5, [.int (nI n), .int (nI (q_X5_look_p1 n (q_X5_readAsking_p1 n ps f mm) f)), .ref tk])), (tk, .inl (Z.2 1, 80, .inl f))]) hP hD [0, 1] [2, 3, 4] rfl rfl (by decide +kernel) (by decide +kernel) hk1 hFc hP1 hD1
        clear hPc hDc hP1 hD1 hk1 hz1 hFc ht hvm
        generalize H1 = H at hP hS ⊢
        have hP : va_P Z.1 vwCl [(h1, .inr (2, [.int (nI (q_X5_readAsking_q1 n ps f q mm)), .int en, .ref k, .ref z])), (k, .inl (Z.2 0, 8, .inl (q_X5_readAsking_pf1 n ps f q pf mm))), (z, .inl (Z.2 0, 8, .inl (q_X5_readAsking_pg1 n ps f q pg mm))), (h0, .inr (5, [.int (nI n), .int (nI (q_X5_look_p1 n (q_X5_readAsking_p1 n ps f mm) f)), .ref tk])), (tk, .inl (Z.2 1, 80, .inl f))] H := hP
        have hD : va_D A [(h1, .inr (2, [.int (nI (q_X5_readAsking_q1 n ps f q mm)), .int en, .ref k, .ref z])), (k, .inl (Z.2 0, 8, .inl (q_X5_readAsking_pf1 n ps f q pf mm))), (z, .inl (Z.2 0, 8, .inl (q_X5_readAsking_pg1 n ps f q pg mm))), (h0, .inr (5, [.int (nI n), .int (nI (q_X5_look_p1 n (q_X5_readAsking_p1 n ps f mm) f)), .ref tk])), (tk, .inl (Z.2 1, 80, .inl f))] := hD
        refine lv_istore (lv' := [(4, .int (q_X5_look_r n (q_X5_readAsking_p1 n ps f mm) f)), (0, .ref h0), (1, .ref h1), (2, .int (nI mm)), (3, .int x)]) hx hb dX5_readPlan_37 hl (by decide) rfl (fun ls hl => ?_)
        refine lv_iload hx hb dX5_readPlan_39 (lv_at hl 0 rfl) ?_
        refine lv_bipush (v := 59) hx hb dX5_readPlan_41 (by decide) ?_
        refine lv_icmp_ne (tgt := 73) hx hb dX5_readPlan_43 (by decide) (fun c_15 => ?_) (fun c_15 => ?_)
        · refine lv_aload_n hx hb dX5_readPlan_73 rfl (lv_at hl 1 rfl) ?_
          have hPc := hP.sub (ws' := [(h0, .inr (5, [.int (nI n), .int (nI (q_X5_look_p1 n (q_X5_readAsking_p1 n ps f mm) f)), .ref tk])), (tk, .inl (Z.2 1, 80, .inl f))]) [3, 4] rfl
          have hDc := hD.sub (ws' := [(h0, .inr (5, [.int (nI n), .int (nI (q_X5_look_p1 n (q_X5_readAsking_p1 n ps f mm) f)), .ref tk])), (tk, .inl (Z.2 1, 80, .inl f))]) [3, 4] (by decide +kernel) rfl
          have hFc := va_free (wc := [(h0, .inr (5, [.int (nI n), .int (nI (q_X5_look_p1 n (q_X5_readAsking_p1 n ps f mm) f)), .ref tk])), (tk, .inl (Z.2 1, 80, .inl f))]) hD hS hA [3, 4] rfl
          refine va_calli (va_runV (As := []) (rest := []) ⟨hx, hb, hml, hown, hts⟩ (c_X5_look l Z H.size h0 tk n (q_X5_look_p1 n (q_X5_readAsking_p1 n ps f mm) f) f (hn) (by omega) (hc)) (cwV 0 hts gX5_readPlan_X5_look rfl rfl rfl (by decide +kernel) ⟨Nat.le_of_ble_eq_true rfl, Nat.le_of_ble_eq_true rfl⟩) ⟨fun a U g mk q => by obtain ⟨q0, q1, qP, qK, qD⟩ := q; exact ⟨q0, q1, qP, va_K.moved (u := U) (U := U.calling g mk a) (Vm.Alike.refl U.vm) qK, qD⟩, va_recv hK hPc (ci := 5) (q0 := 0) rfl rfl, fun U hU hW => ⟨rfl, by rw [hU], by rw [hU]; exact hPc, va_K.moved hW.alike hK, hDc.weaken (fun _ _ _ _ => trivial)⟩⟩ rfl rfl hl.1 rfl (lv_room (Nat.le_of_ble_eq_true rfl)) dX5_readPlan_74 ⟨Nat.le_of_ble_eq_true rfl, Nat.le_of_ble_eq_true rfl⟩) hS (fun q _ h => hFc q h) hFc (fun r_16 u t9 H1 locs ht hvm hw hB hz1 hk1 hS => ?_)
          obtain ⟨p1_17, rfl⟩ : ∃ z, z = u := ⟨_, rfl⟩
          try dsimp only at hw hB
          obtain ⟨hw, hx_18, hwr_16⟩ := hw
          subst hx_18
          have hw9 := hw.symm
          clear hw
          subst hw9
          obtain ⟨hP1, hD1⟩ := hB
          rw [ht] at hP1
          obtain ⟨hP, hD⟩ := va_join (wr := [(h1, .inr (2, [.int (nI (q_X5_readAsking_q1 n ps f q mm)), .int en, .ref k, .ref z])), (k, .inl (Z.2 0, 8, .inl (q_X5_readAsking_pf1 n ps f q pf mm))), (z, .inl (Z.2 0, 8, .inl (q_X5_readAsking_pg1 n ps f q pg mm)))]) (w1 := [(h0, .inr (5, [.int (nI n), .int (nI (q_X5_look_p1 n (q_X5_look_p1 n (q_X5_readAsking_p1 n ps f mm) f) f)), .ref tk])), (tk, .inl (Z.2 1, 80, .inl f))]) hP hD [3, 4] [0, 1, 2] rfl rfl (by decide +kernel) (by decide +kernel) hk1 hFc hP1 hD1
          clear hPc hDc hP1 hD1 hk1 hz1 hFc ht hvm
          generalize H1 = H at hP hS ⊢
          have hP : va_P Z.1 vwCl [(h1, .inr (2, [.int (nI (q_X5_readAsking_q1 n ps f q mm)), .int en, .ref k, .ref z])), (k, .inl (Z.2 0, 8, .inl (q_X5_readAsking_pf1 n ps f q pf mm))), (z, .inl (Z.2 0, 8, .inl (q_X5_readAsking_pg1 n ps f q pg mm))), (h0, .inr (5, [.int (nI n), .int (nI (q_X5_look_p1 n (q_X5_look_p1 n (q_X5_readAsking_p1 n ps f mm) f) f)), .ref tk])), (tk, .inl (Z.2 1, 80, .inl f))] H := hP
          have hD : va_D A [(h1, .inr (2, [.int (nI (q_X5_readAsking_q1 n ps f q mm)), .int en, .ref k, .ref z])), (k, .inl (Z.2 0, 8, .inl (q_X5_readAsking_pf1 n ps f q pf mm))), (z, .inl (Z.2 0, 8, .inl (q_X5_readAsking_pg1 n ps f q pg mm))), (h0, .inr (5, [.int (nI n), .int (nI (q_X5_look_p1 n (q_X5_look_p1 n (q_X5_readAsking_p1 n ps f mm) f) f)), .ref tk])), (tk, .inl (Z.2 1, 80, .inl f))] := hD
          refine lv_if_ne (tgt := 85) hx hb dX5_readPlan_77 (by decide) (fun c_19 => ?_) (fun c_19 => ?_)
          · refine lv_iload_n hx hb dX5_readPlan_85 rfl (lv_at hl 4 rfl) ?_
            refine lv_if_eq (tgt := 103) hx hb dX5_readPlan_86 (by decide) (fun c_20 => ?_) (fun c_20 => ?_)
            · exact kx_103 (q_X5_look_p1 n (q_X5_look_p1 n (q_X5_readAsking_p1 n ps f mm) f) f) (q_X5_readAsking_q1 n ps f q mm) j en x (q_X5_readAsking_pf1 n ps f q pf mm) (q_X5_readAsking_pg1 n ps f q pg mm) H locs ls (⟨⟨by omega, by omega⟩, hr10.2.2.2⟩) (by have h8 := hT9; rw [ql_X5_readPlan, if_neg c_1, if_neg c_11, if_neg c_15, if_neg c_19, if_pos c_20] at h8; exact h8.symm) (hP.sub [3, 4, 0, 1, 2] rfl) (hD.sub [3, 4, 0, 1, 2] (by decide +kernel) rfl) hS (lv_sub hl [1, 2, 3, 4] rfl)
            · refine lv_iload hx hb dX5_readPlan_89 (lv_at hl 0 rfl) ?_
              refine lv_bipush (v := 44) hx hb dX5_readPlan_91 (by decide) ?_
              refine lv_icmp_eq (tgt := 111) hx hb dX5_readPlan_93 (by decide) (fun c_21 => ?_) (fun c_21 => ?_)
              · refine lv_iload hx hb dX5_readPlan_111 (lv_at hl 0 rfl) ?_
                refine lv_bipush (v := 44) hx hb dX5_readPlan_113 (by decide) ?_
                refine lv_icmp_ne (tgt := 128) hx hb dX5_readPlan_115 (by decide) (fun c9 => absurd c_21 c9) (fun _ => ?_)
                have hq21 := hwr_16.1 c_19
                refine lv_aload_n hx hb dX5_readPlan_118 rfl (lv_at hl 1 rfl) ?_
                refine lv_dup hx hb dX5_readPlan_119 rfl ?_
                refine va_get (D := Z.1) (ci := 5) (v := .int (nI (q_X5_look_p1 n (q_X5_look_p1 n (q_X5_readAsking_p1 n ps f mm) f) f))) (C := RX5) (T := TX5) (N := 3) hx hb hts hin5 hown hK hP 3 rfl rfl 1 (by decide) (hts (.fieldLink RX5 15 "HalfAsked$Tape" "at" "I") (List.mem_of_getElem? (i := 1) rfl)) (fun _ h9 => h9) rfl dX5_readPlan_120 ?_
                refine lv_iconst (v := 1) hx hb dX5_readPlan_123 (by decide) ?_
                refine lv_iadd hx hb dX5_readPlan_124 ?_
                refine lv_topi (fun f_22 ef_22 => ?_)
                obtain rfl : nI ((q_X5_look_p1 n (q_X5_look_p1 n (q_X5_readAsking_p1 n ps f mm) f) f) + 1) = f_22 := (ef_22.trans (nI_1 _)).symm
                refine va_put (D := Z.1) (ci := 5) (v := .int (nI ((q_X5_look_p1 n (q_X5_look_p1 n (q_X5_readAsking_p1 n ps f mm) f) f) + 1))) (ty := .int) (C := RX5) (T := TX5) (N := 3) hx hb hts hin5 tyX5 tyX5_ok nmX5 hown hK hP hD hS 3 rfl rfl 1 (by decide) (hts (.fieldLink RX5 15 "HalfAsked$Tape" "at" "I") (List.mem_of_getElem? (i := 1) rfl)) (fun _ h9 => h9) rfl (by decide +kernel) rfl rfl (Nat.le_of_ble_eq_true rfl) dX5_readPlan_125 (fun H locs hP hD hS => ?_)
                have hP : va_P Z.1 vwCl [(h1, .inr (2, [.int (nI (q_X5_readAsking_q1 n ps f q mm)), .int en, .ref k, .ref z])), (k, .inl (Z.2 0, 8, .inl (q_X5_readAsking_pf1 n ps f q pf mm))), (z, .inl (Z.2 0, 8, .inl (q_X5_readAsking_pg1 n ps f q pg mm))), (h0, .inr (5, [.int (nI n), .int (nI ((q_X5_look_p1 n (q_X5_look_p1 n (q_X5_readAsking_p1 n ps f mm) f) f) + 1)), .ref tk])), (tk, .inl (Z.2 1, 80, .inl f))] H := hP
                have hD : va_D A [(h1, .inr (2, [.int (nI (q_X5_readAsking_q1 n ps f q mm)), .int en, .ref k, .ref z])), (k, .inl (Z.2 0, 8, .inl (q_X5_readAsking_pf1 n ps f q pf mm))), (z, .inl (Z.2 0, 8, .inl (q_X5_readAsking_pg1 n ps f q pg mm))), (h0, .inr (5, [.int (nI n), .int (nI ((q_X5_look_p1 n (q_X5_look_p1 n (q_X5_readAsking_p1 n ps f mm) f) f) + 1)), .ref tk])), (tk, .inl (Z.2 1, 80, .inl f))] := hD
                refine lv_iinc (v := x + (-1)) (lv' := [(3, .int (x + (-1))), (4, .int (q_X5_look_r n (q_X5_readAsking_p1 n ps f mm) f)), (0, .ref h0), (1, .ref h1), (2, .int (nI mm))]) hx hb dX5_readPlan_128 hl (k := 4) rfl rfl (by decide) rfl (fun ls hl => ?_)
                refine lv_goto (tgt := 12) hx hb dX5_readPlan_131 (by decide) ?_
                exact ih ((q_X5_look_p1 n (q_X5_look_p1 n (q_X5_readAsking_p1 n ps f mm) f) f) + 1) (q_X5_readAsking_q1 n ps f q mm) (j - 1) en (x + (-1)) (q_X5_readAsking_pf1 n ps f q pf mm) (q_X5_readAsking_pg1 n ps f q pg mm) (by omega) (by omega) (by omega) (hdn.2) (hr10.2.2.2) (by have h8 := hT9; rw [ql_X5_readPlan, if_neg c_1, if_neg c_11, if_neg c_15, if_neg c_19, if_neg c_20, if_pos c_21] at h8; exact h8) H locs ls (hP.sub [3, 4, 0, 1, 2] rfl) (hD.sub [3, 4, 0, 1, 2] (by decide +kernel) rfl) hS (lv_sub hl [2, 3, 4, 0] rfl)
              · refine lv_iload hx hb dX5_readPlan_96 (lv_at hl 0 rfl) ?_
                refine lv_bipush (v := 59) hx hb dX5_readPlan_98 (by decide) ?_
                refine lv_icmp_eq (tgt := 111) hx hb dX5_readPlan_100 (by decide) (fun c9 => absurd c9 c_15) (fun _ => ?_)
                exact kx_103 (q_X5_look_p1 n (q_X5_look_p1 n (q_X5_readAsking_p1 n ps f mm) f) f) (q_X5_readAsking_q1 n ps f q mm) j en x (q_X5_readAsking_pf1 n ps f q pf mm) (q_X5_readAsking_pg1 n ps f q pg mm) H locs ls (⟨⟨by omega, by omega⟩, hr10.2.2.2⟩) (by have h8 := hT9; rw [ql_X5_readPlan, if_neg c_1, if_neg c_11, if_neg c_15, if_neg c_19, if_neg c_20, if_neg c_21] at h8; exact h8.symm) (hP.sub [3, 4, 0, 1, 2] rfl) (hD.sub [3, 4, 0, 1, 2] (by decide +kernel) rfl) hS (lv_sub hl [1, 2, 3, 4] rfl)
          · exact kx_80 (q_X5_look_p1 n (q_X5_look_p1 n (q_X5_readAsking_p1 n ps f mm) f) f) (q_X5_readAsking_q1 n ps f q mm) j en x (q_X5_readAsking_pf1 n ps f q pf mm) (q_X5_readAsking_pg1 n ps f q pg mm) H locs ls (⟨⟨by omega, by omega⟩, hr10.2.2.2⟩) (by have h8 := hT9; rw [ql_X5_readPlan, if_neg c_1, if_neg c_11, if_neg c_15, if_pos c_19] at h8; exact h8.symm) (hP.sub [3, 4, 0, 1, 2] rfl) (hD.sub [3, 4, 0, 1, 2] (by decide +kernel) rfl) hS (lv_sub hl [1, 2, 3, 4] rfl)
        · have hq22 := hwr_12.1 (z_eq0 c_15 (by decide))
          refine lv_aload_n hx hb dX5_readPlan_46 rfl (lv_at hl 2 rfl) ?_
          refine lv_dup hx hb dX5_readPlan_47 rfl ?_
          refine va_get (D := Z.1) (ci := 2) (v := .int en) (C := RX2) (T := TX2) (N := 4) hx hb hts hin2 hown hK hP 0 rfl rfl 1 (by decide) (hts (.fieldLink RX5 67 "HalfAsked$Plan" "ends" "I") (List.mem_of_getElem? (i := 2) rfl)) (fun _ h9 => h9) rfl dX5_readPlan_48 ?_
          refine lv_iconst (v := 1) hx hb dX5_readPlan_51 (by decide) ?_
          refine lv_aload_n hx hb dX5_readPlan_52 rfl (lv_at hl 2 rfl) ?_
          refine va_get (D := Z.1) (ci := 2) (v := .int (nI (q_X5_readAsking_q1 n ps f q mm))) (C := RX2) (T := TX2) (N := 4) hx hb hts hin2 hown hK hP 0 rfl rfl 0 (by decide) (hts (.fieldLink RX5 70 "HalfAsked$Plan" "size" "I") (List.mem_of_getElem? (i := 3) rfl)) (fun _ h9 => h9) rfl dX5_readPlan_53 ?_
          refine lv_iconst (v := 1) hx hb dX5_readPlan_56 (by decide) ?_
          refine lv_isub hx hb dX5_readPlan_57 ?_
          refine lv_ishl hx hb dX5_readPlan_58 ?_
          refine lv_ior hx hb dX5_readPlan_59 ?_
          refine va_put (D := Z.1) (ci := 2) (v := .int (en ||| (1 <<< (((nI (q_X5_readAsking_q1 n ps f q mm)) - 1) &&& 31)))) (ty := .int) (C := RX2) (T := TX2) (N := 4) hx hb hts hin2 tyX2 tyX2_ok nmX2 hown hK hP hD hS 0 rfl rfl 1 (by decide) (hts (.fieldLink RX5 67 "HalfAsked$Plan" "ends" "I") (List.mem_of_getElem? (i := 2) rfl)) (fun _ h9 => h9) rfl (by decide +kernel) rfl rfl (Nat.le_of_ble_eq_true rfl) dX5_readPlan_60 (fun H locs hP hD hS => ?_)
          have hP : va_P Z.1 vwCl [(h1, .inr (2, [.int (nI (q_X5_readAsking_q1 n ps f q mm)), .int (en ||| (1 <<< (((nI (q_X5_readAsking_q1 n ps f q mm)) - 1) &&& 31))), .ref k, .ref z])), (k, .inl (Z.2 0, 8, .inl (q_X5_readAsking_pf1 n ps f q pf mm))), (z, .inl (Z.2 0, 8, .inl (q_X5_readAsking_pg1 n ps f q pg mm))), (h0, .inr (5, [.int (nI n), .int (nI (q_X5_look_p1 n (q_X5_readAsking_p1 n ps f mm) f)), .ref tk])), (tk, .inl (Z.2 1, 80, .inl f))] H := hP
          have hD : va_D A [(h1, .inr (2, [.int (nI (q_X5_readAsking_q1 n ps f q mm)), .int (en ||| (1 <<< (((nI (q_X5_readAsking_q1 n ps f q mm)) - 1) &&& 31))), .ref k, .ref z])), (k, .inl (Z.2 0, 8, .inl (q_X5_readAsking_pf1 n ps f q pf mm))), (z, .inl (Z.2 0, 8, .inl (q_X5_readAsking_pg1 n ps f q pg mm))), (h0, .inr (5, [.int (nI n), .int (nI (q_X5_look_p1 n (q_X5_readAsking_p1 n ps f mm) f)), .ref tk])), (tk, .inl (Z.2 1, 80, .inl f))] := hD
          refine lv_aload_n hx hb dX5_readPlan_63 rfl (lv_at hl 1 rfl) ?_
          refine lv_dup hx hb dX5_readPlan_64 rfl ?_
          refine va_get (D := Z.1) (ci := 5) (v := .int (nI (q_X5_look_p1 n (q_X5_readAsking_p1 n ps f mm) f))) (C := RX5) (T := TX5) (N := 3) hx hb hts hin5 hown hK hP 3 rfl rfl 1 (by decide) (hts (.fieldLink RX5 15 "HalfAsked$Tape" "at" "I") (List.mem_of_getElem? (i := 1) rfl)) (fun _ h9 => h9) rfl dX5_readPlan_65 ?_
          refine lv_iconst (v := 1) hx hb dX5_readPlan_68 (by decide) ?_
          refine lv_iadd hx hb dX5_readPlan_69 ?_
          refine lv_topi (fun f_23 ef_23 => ?_)
          obtain rfl : nI ((q_X5_look_p1 n (q_X5_readAsking_p1 n ps f mm) f) + 1) = f_23 := (ef_23.trans (nI_1 _)).symm
          refine va_put (D := Z.1) (ci := 5) (v := .int (nI ((q_X5_look_p1 n (q_X5_readAsking_p1 n ps f mm) f) + 1))) (ty := .int) (C := RX5) (T := TX5) (N := 3) hx hb hts hin5 tyX5 tyX5_ok nmX5 hown hK hP hD hS 3 rfl rfl 1 (by decide) (hts (.fieldLink RX5 15 "HalfAsked$Tape" "at" "I") (List.mem_of_getElem? (i := 1) rfl)) (fun _ h9 => h9) rfl (by decide +kernel) rfl rfl (Nat.le_of_ble_eq_true rfl) dX5_readPlan_70 (fun H locs hP hD hS => ?_)
          have hP : va_P Z.1 vwCl [(h1, .inr (2, [.int (nI (q_X5_readAsking_q1 n ps f q mm)), .int (en ||| (1 <<< (((nI (q_X5_readAsking_q1 n ps f q mm)) - 1) &&& 31))), .ref k, .ref z])), (k, .inl (Z.2 0, 8, .inl (q_X5_readAsking_pf1 n ps f q pf mm))), (z, .inl (Z.2 0, 8, .inl (q_X5_readAsking_pg1 n ps f q pg mm))), (h0, .inr (5, [.int (nI n), .int (nI ((q_X5_look_p1 n (q_X5_readAsking_p1 n ps f mm) f) + 1)), .ref tk])), (tk, .inl (Z.2 1, 80, .inl f))] H := hP
          have hD : va_D A [(h1, .inr (2, [.int (nI (q_X5_readAsking_q1 n ps f q mm)), .int (en ||| (1 <<< (((nI (q_X5_readAsking_q1 n ps f q mm)) - 1) &&& 31))), .ref k, .ref z])), (k, .inl (Z.2 0, 8, .inl (q_X5_readAsking_pf1 n ps f q pf mm))), (z, .inl (Z.2 0, 8, .inl (q_X5_readAsking_pg1 n ps f q pg mm))), (h0, .inr (5, [.int (nI n), .int (nI ((q_X5_look_p1 n (q_X5_readAsking_p1 n ps f mm) f) + 1)), .ref tk])), (tk, .inl (Z.2 1, 80, .inl f))] := hD
          refine lv_aload_n hx hb dX5_readPlan_73 rfl (lv_at hl 1 rfl) ?_
          have hPc := hP.sub (ws' := [(h0, .inr (5, [.int (nI n), .int (nI ((q_X5_look_p1 n (q_X5_readAsking_p1 n ps f mm) f) + 1)), .ref tk])), (tk, .inl (Z.2 1, 80, .inl f))]) [3, 4] rfl
          have hDc := hD.sub (ws' := [(h0, .inr (5, [.int (nI n), .int (nI ((q_X5_look_p1 n (q_X5_readAsking_p1 n ps f mm) f) + 1)), .ref tk])), (tk, .inl (Z.2 1, 80, .inl f))]) [3, 4] (by decide +kernel) rfl
          have hFc := va_free (wc := [(h0, .inr (5, [.int (nI n), .int (nI ((q_X5_look_p1 n (q_X5_readAsking_p1 n ps f mm) f) + 1)), .ref tk])), (tk, .inl (Z.2 1, 80, .inl f))]) hD hS hA [3, 4] rfl
          refine va_calli (va_runV (As := []) (rest := []) ⟨hx, hb, hml, hown, hts⟩ (c_X5_look l Z H.size h0 tk n ((q_X5_look_p1 n (q_X5_readAsking_p1 n ps f mm) f) + 1) f (hn) (by omega) (hc)) (cwV 0 hts gX5_readPlan_X5_look rfl rfl rfl (by decide +kernel) ⟨Nat.le_of_ble_eq_true rfl, Nat.le_of_ble_eq_true rfl⟩) ⟨fun a U g mk q => by obtain ⟨q0, q1, qP, qK, qD⟩ := q; exact ⟨q0, q1, qP, va_K.moved (u := U) (U := U.calling g mk a) (Vm.Alike.refl U.vm) qK, qD⟩, va_recv hK hPc (ci := 5) (q0 := 0) rfl rfl, fun U hU hW => ⟨rfl, by rw [hU], by rw [hU]; exact hPc, va_K.moved hW.alike hK, hDc.weaken (fun _ _ _ _ => trivial)⟩⟩ rfl rfl hl.1 rfl (lv_room (Nat.le_of_ble_eq_true rfl)) dX5_readPlan_74 ⟨Nat.le_of_ble_eq_true rfl, Nat.le_of_ble_eq_true rfl⟩) hS (fun q _ h => hFc q h) hFc (fun r_24 u t9 H1 locs ht hvm hw hB hz1 hk1 hS => ?_)
          obtain ⟨p1_25, rfl⟩ : ∃ z, z = u := ⟨_, rfl⟩
          try dsimp only at hw hB
          obtain ⟨hw, hx_26, hwr_24⟩ := hw
          subst hx_26
          have hw9 := hw.symm
          clear hw
          subst hw9
          obtain ⟨hP1, hD1⟩ := hB
          rw [ht] at hP1
          obtain ⟨hP, hD⟩ := va_join (wr := [(h1, .inr (2, [.int (nI (q_X5_readAsking_q1 n ps f q mm)), .int (en ||| (1 <<< (((nI (q_X5_readAsking_q1 n ps f q mm)) - 1) &&& 31))), .ref k, .ref z])), (k, .inl (Z.2 0, 8, .inl (q_X5_readAsking_pf1 n ps f q pf mm))), (z, .inl (Z.2 0, 8, .inl (q_X5_readAsking_pg1 n ps f q pg mm)))]) (w1 := [(h0, .inr (5, [.int (nI n), .int (nI (q_X5_look_p1 n ((q_X5_look_p1 n (q_X5_readAsking_p1 n ps f mm) f) + 1) f)), .ref tk])), (tk, .inl (Z.2 1, 80, .inl f))]) hP hD [3, 4] [0, 1, 2] rfl rfl (by decide +kernel) (by decide +kernel) hk1 hFc hP1 hD1
          clear hPc hDc hP1 hD1 hk1 hz1 hFc ht hvm
          generalize H1 = H at hP hS ⊢
          have hP : va_P Z.1 vwCl [(h1, .inr (2, [.int (nI (q_X5_readAsking_q1 n ps f q mm)), .int (en ||| (1 <<< (((nI (q_X5_readAsking_q1 n ps f q mm)) - 1) &&& 31))), .ref k, .ref z])), (k, .inl (Z.2 0, 8, .inl (q_X5_readAsking_pf1 n ps f q pf mm))), (z, .inl (Z.2 0, 8, .inl (q_X5_readAsking_pg1 n ps f q pg mm))), (h0, .inr (5, [.int (nI n), .int (nI (q_X5_look_p1 n ((q_X5_look_p1 n (q_X5_readAsking_p1 n ps f mm) f) + 1) f)), .ref tk])), (tk, .inl (Z.2 1, 80, .inl f))] H := hP
          have hD : va_D A [(h1, .inr (2, [.int (nI (q_X5_readAsking_q1 n ps f q mm)), .int (en ||| (1 <<< (((nI (q_X5_readAsking_q1 n ps f q mm)) - 1) &&& 31))), .ref k, .ref z])), (k, .inl (Z.2 0, 8, .inl (q_X5_readAsking_pf1 n ps f q pf mm))), (z, .inl (Z.2 0, 8, .inl (q_X5_readAsking_pg1 n ps f q pg mm))), (h0, .inr (5, [.int (nI n), .int (nI (q_X5_look_p1 n ((q_X5_look_p1 n (q_X5_readAsking_p1 n ps f mm) f) + 1) f)), .ref tk])), (tk, .inl (Z.2 1, 80, .inl f))] := hD
          refine lv_if_ne (tgt := 85) hx hb dX5_readPlan_77 (by decide) (fun c_27 => ?_) (fun c_27 => ?_)
          · refine lv_iload_n hx hb dX5_readPlan_85 rfl (lv_at hl 4 rfl) ?_
            refine lv_if_eq (tgt := 103) hx hb dX5_readPlan_86 (by decide) (fun c_28 => ?_) (fun c_28 => ?_)
            · exact kx_103 (q_X5_look_p1 n ((q_X5_look_p1 n (q_X5_readAsking_p1 n ps f mm) f) + 1) f) (q_X5_readAsking_q1 n ps f q mm) j (en ||| (1 <<< (((nI (q_X5_readAsking_q1 n ps f q mm)) - 1) &&& 31))) x (q_X5_readAsking_pf1 n ps f q pf mm) (q_X5_readAsking_pg1 n ps f q pg mm) H locs ls (⟨⟨by omega, by omega⟩, hr10.2.2.2⟩) (by have h8 := hT9; rw [ql_X5_readPlan, if_neg c_1, if_neg c_11, if_pos c_15, if_neg c_27, if_pos c_28] at h8; exact h8.symm) (hP.sub [3, 4, 0, 1, 2] rfl) (hD.sub [3, 4, 0, 1, 2] (by decide +kernel) rfl) hS (lv_sub hl [1, 2, 3, 4] rfl)
            · refine lv_iload hx hb dX5_readPlan_89 (lv_at hl 0 rfl) ?_
              refine lv_bipush (v := 44) hx hb dX5_readPlan_91 (by decide) ?_
              refine lv_icmp_eq (tgt := 111) hx hb dX5_readPlan_93 (by decide) (fun c_29 => ?_) (fun c_29 => ?_)
              · refine lv_iload hx hb dX5_readPlan_111 (lv_at hl 0 rfl) ?_
                refine lv_bipush (v := 44) hx hb dX5_readPlan_113 (by decide) ?_
                refine lv_icmp_ne (tgt := 128) hx hb dX5_readPlan_115 (by decide) (fun c9 => absurd c_29 c9) (fun _ => ?_)
                have hq29 := hwr_24.1 c_27
                refine lv_aload_n hx hb dX5_readPlan_118 rfl (lv_at hl 1 rfl) ?_
                refine lv_dup hx hb dX5_readPlan_119 rfl ?_
                refine va_get (D := Z.1) (ci := 5) (v := .int (nI (q_X5_look_p1 n ((q_X5_look_p1 n (q_X5_readAsking_p1 n ps f mm) f) + 1) f))) (C := RX5) (T := TX5) (N := 3) hx hb hts hin5 hown hK hP 3 rfl rfl 1 (by decide) (hts (.fieldLink RX5 15 "HalfAsked$Tape" "at" "I") (List.mem_of_getElem? (i := 1) rfl)) (fun _ h9 => h9) rfl dX5_readPlan_120 ?_
                refine lv_iconst (v := 1) hx hb dX5_readPlan_123 (by decide) ?_
                refine lv_iadd hx hb dX5_readPlan_124 ?_
                refine lv_topi (fun f_30 ef_30 => ?_)
                obtain rfl : nI ((q_X5_look_p1 n ((q_X5_look_p1 n (q_X5_readAsking_p1 n ps f mm) f) + 1) f) + 1) = f_30 := (ef_30.trans (nI_1 _)).symm
                refine va_put (D := Z.1) (ci := 5) (v := .int (nI ((q_X5_look_p1 n ((q_X5_look_p1 n (q_X5_readAsking_p1 n ps f mm) f) + 1) f) + 1))) (ty := .int) (C := RX5) (T := TX5) (N := 3) hx hb hts hin5 tyX5 tyX5_ok nmX5 hown hK hP hD hS 3 rfl rfl 1 (by decide) (hts (.fieldLink RX5 15 "HalfAsked$Tape" "at" "I") (List.mem_of_getElem? (i := 1) rfl)) (fun _ h9 => h9) rfl (by decide +kernel) rfl rfl (Nat.le_of_ble_eq_true rfl) dX5_readPlan_125 (fun H locs hP hD hS => ?_)
                have hP : va_P Z.1 vwCl [(h1, .inr (2, [.int (nI (q_X5_readAsking_q1 n ps f q mm)), .int (en ||| (1 <<< (((nI (q_X5_readAsking_q1 n ps f q mm)) - 1) &&& 31))), .ref k, .ref z])), (k, .inl (Z.2 0, 8, .inl (q_X5_readAsking_pf1 n ps f q pf mm))), (z, .inl (Z.2 0, 8, .inl (q_X5_readAsking_pg1 n ps f q pg mm))), (h0, .inr (5, [.int (nI n), .int (nI ((q_X5_look_p1 n ((q_X5_look_p1 n (q_X5_readAsking_p1 n ps f mm) f) + 1) f) + 1)), .ref tk])), (tk, .inl (Z.2 1, 80, .inl f))] H := hP
                have hD : va_D A [(h1, .inr (2, [.int (nI (q_X5_readAsking_q1 n ps f q mm)), .int (en ||| (1 <<< (((nI (q_X5_readAsking_q1 n ps f q mm)) - 1) &&& 31))), .ref k, .ref z])), (k, .inl (Z.2 0, 8, .inl (q_X5_readAsking_pf1 n ps f q pf mm))), (z, .inl (Z.2 0, 8, .inl (q_X5_readAsking_pg1 n ps f q pg mm))), (h0, .inr (5, [.int (nI n), .int (nI ((q_X5_look_p1 n ((q_X5_look_p1 n (q_X5_readAsking_p1 n ps f mm) f) + 1) f) + 1)), .ref tk])), (tk, .inl (Z.2 1, 80, .inl f))] := hD
                refine lv_iinc (v := x + (-1)) (lv' := [(3, .int (x + (-1))), (4, .int (q_X5_look_r n (q_X5_readAsking_p1 n ps f mm) f)), (0, .ref h0), (1, .ref h1), (2, .int (nI mm))]) hx hb dX5_readPlan_128 hl (k := 4) rfl rfl (by decide) rfl (fun ls hl => ?_)
                refine lv_goto (tgt := 12) hx hb dX5_readPlan_131 (by decide) ?_
                exact ih ((q_X5_look_p1 n ((q_X5_look_p1 n (q_X5_readAsking_p1 n ps f mm) f) + 1) f) + 1) (q_X5_readAsking_q1 n ps f q mm) (j - 1) (en ||| (1 <<< (((nI (q_X5_readAsking_q1 n ps f q mm)) - 1) &&& 31))) (x + (-1)) (q_X5_readAsking_pf1 n ps f q pf mm) (q_X5_readAsking_pg1 n ps f q pg mm) (by omega) (by omega) (by omega) (hdn.2) (hr10.2.2.2) (by have h8 := hT9; rw [ql_X5_readPlan, if_neg c_1, if_neg c_11, if_pos c_15, if_neg c_27, if_neg c_28, if_pos c_29] at h8; exact h8) H locs ls (hP.sub [3, 4, 0, 1, 2] rfl) (hD.sub [3, 4, 0, 1, 2] (by decide +kernel) rfl) hS (lv_sub hl [2, 3, 4, 0] rfl)
              · refine lv_iload hx hb dX5_readPlan_96 (lv_at hl 0 rfl) ?_
                refine lv_bipush (v := 59) hx hb dX5_readPlan_98 (by decide) ?_
                refine lv_icmp_eq (tgt := 111) hx hb dX5_readPlan_100 (by decide) (fun _ => ?_) (fun c9 => absurd c_15 c9)
                refine lv_iload hx hb dX5_readPlan_111 (lv_at hl 0 rfl) ?_
                refine lv_bipush (v := 44) hx hb dX5_readPlan_113 (by decide) ?_
                refine lv_icmp_ne (tgt := 128) hx hb dX5_readPlan_115 (by decide) (fun _ => ?_) (fun c9 => absurd c9 c_29)
                refine lv_iinc (v := x + (-1)) (lv' := [(3, .int (x + (-1))), (4, .int (q_X5_look_r n (q_X5_readAsking_p1 n ps f mm) f)), (0, .ref h0), (1, .ref h1), (2, .int (nI mm))]) hx hb dX5_readPlan_128 hl (k := 4) rfl rfl (by decide) rfl (fun ls hl => ?_)
                refine lv_goto (tgt := 12) hx hb dX5_readPlan_131 (by decide) ?_
                exact ih (q_X5_look_p1 n ((q_X5_look_p1 n (q_X5_readAsking_p1 n ps f mm) f) + 1) f) (q_X5_readAsking_q1 n ps f q mm) (j - 1) (en ||| (1 <<< (((nI (q_X5_readAsking_q1 n ps f q mm)) - 1) &&& 31))) (x + (-1)) (q_X5_readAsking_pf1 n ps f q pf mm) (q_X5_readAsking_pg1 n ps f q pg mm) (by omega) (by omega) (by omega) (hdn.2) (hr10.2.2.2) (by have h8 := hT9; rw [ql_X5_readPlan, if_neg c_1, if_neg c_11, if_pos c_15, if_neg c_27, if_neg c_28, if_neg c_29] at h8; exact h8) H locs ls (hP.sub [3, 4, 0, 1, 2] rfl) (hD.sub [3, 4, 0, 1, 2] (by decide +kernel) rfl) hS (lv_sub hl [2, 3, 4, 0] rfl)
          · exact kx_80 (q_X5_look_p1 n ((q_X5_look_p1 n (q_X5_readAsking_p1 n ps f mm) f) + 1) f) (q_X5_readAsking_q1 n ps f q mm) j (en ||| (1 <<< (((nI (q_X5_readAsking_q1 n ps f q mm)) - 1) &&& 31))) x (q_X5_readAsking_pf1 n ps f q pf mm) (q_X5_readAsking_pg1 n ps f q pg mm) H locs ls (⟨⟨by omega, by omega⟩, hr10.2.2.2⟩) (by have h8 := hT9; rw [ql_X5_readPlan, if_neg c_1, if_neg c_11, if_pos c_15, if_pos c_27] at h8; exact h8.symm) (hP.sub [3, 4, 0, 1, 2] rfl) (hD.sub [3, 4, 0, 1, 2] (by decide +kernel) rfl) hS (lv_sub hl [1, 2, 3, 4] rfl)
      · exact kx_25 (q_X5_readAsking_p1 n ps f mm) (q_X5_readAsking_q1 n ps f q mm) j en x (q_X5_readAsking_pf1 n ps f q pf mm) (q_X5_readAsking_pg1 n ps f q pg mm) H locs ls (⟨⟨by omega, by omega⟩, hr10.2.2.2⟩) (by have h8 := hT9; rw [ql_X5_readPlan, if_neg c_1, if_pos c_11] at h8; exact h8.symm) hP hD hS (lv_sub hl [0, 1, 2, 3] rfl)
def q_X5_readPlan_r (n : Nat) (f : Nat → Int32) (pf : Nat → Int32) (pg : Nat → Int32) (mm : Nat) : Int32 := (if (ql_X5_readPlan n f mm 9 0 0 8 0 7 pf pg).1 = 0 then ((-20) - (nI ((ql_X5_readPlan n f mm 9 0 0 8 0 7 pf pg).2.1))) else (if (ql_X5_readPlan n f mm 9 0 0 8 0 7 pf pg).1 = 1 then (nI ((ql_X5_readPlan n f mm 9 0 0 8 0 7 pf pg).2.2.1)) else (if (ql_X5_readPlan n f mm 9 0 0 8 0 7 pf pg).1 = 2 then ((-20) - (nI ((ql_X5_readPlan n f mm 9 0 0 8 0 7 pf pg).2.1))) else ((-20) - (nI ((ql_X5_readPlan n f mm 9 0 0 8 0 7 pf pg).2.1))))))
def q_X5_readPlan_p1 (n : Nat) (f : Nat → Int32) (pf : Nat → Int32) (pg : Nat → Int32) (mm : Nat) : Nat := (if (ql_X5_readPlan n f mm 9 0 0 8 0 7 pf pg).1 = 0 then ((ql_X5_readPlan n f mm 9 0 0 8 0 7 pf pg).2.1) else (if (ql_X5_readPlan n f mm 9 0 0 8 0 7 pf pg).1 = 1 then ((ql_X5_readPlan n f mm 9 0 0 8 0 7 pf pg).2.1) else (if (ql_X5_readPlan n f mm 9 0 0 8 0 7 pf pg).1 = 2 then ((ql_X5_readPlan n f mm 9 0 0 8 0 7 pf pg).2.1) else ((ql_X5_readPlan n f mm 9 0 0 8 0 7 pf pg).2.1))))
def q_X5_readPlan_q1 (n : Nat) (f : Nat → Int32) (pf : Nat → Int32) (pg : Nat → Int32) (mm : Nat) : Nat := (if (ql_X5_readPlan n f mm 9 0 0 8 0 7 pf pg).1 = 0 then ((ql_X5_readPlan n f mm 9 0 0 8 0 7 pf pg).2.2.1) else (if (ql_X5_readPlan n f mm 9 0 0 8 0 7 pf pg).1 = 1 then ((ql_X5_readPlan n f mm 9 0 0 8 0 7 pf pg).2.2.1) else (if (ql_X5_readPlan n f mm 9 0 0 8 0 7 pf pg).1 = 2 then ((ql_X5_readPlan n f mm 9 0 0 8 0 7 pf pg).2.2.1) else ((ql_X5_readPlan n f mm 9 0 0 8 0 7 pf pg).2.2.1))))
def q_X5_readPlan_en1 (n : Nat) (f : Nat → Int32) (pf : Nat → Int32) (pg : Nat → Int32) (mm : Nat) : Int32 := (if (ql_X5_readPlan n f mm 9 0 0 8 0 7 pf pg).1 = 0 then ((ql_X5_readPlan n f mm 9 0 0 8 0 7 pf pg).2.2.2.2.1) else (if (ql_X5_readPlan n f mm 9 0 0 8 0 7 pf pg).1 = 1 then ((ql_X5_readPlan n f mm 9 0 0 8 0 7 pf pg).2.2.2.2.1) else (if (ql_X5_readPlan n f mm 9 0 0 8 0 7 pf pg).1 = 2 then ((ql_X5_readPlan n f mm 9 0 0 8 0 7 pf pg).2.2.2.2.1) else ((ql_X5_readPlan n f mm 9 0 0 8 0 7 pf pg).2.2.2.2.1))))
def q_X5_readPlan_pf1 (n : Nat) (f : Nat → Int32) (pf : Nat → Int32) (pg : Nat → Int32) (mm : Nat) : Nat → Int32 := (if (ql_X5_readPlan n f mm 9 0 0 8 0 7 pf pg).1 = 0 then ((ql_X5_readPlan n f mm 9 0 0 8 0 7 pf pg).2.2.2.2.2.2.1) else (if (ql_X5_readPlan n f mm 9 0 0 8 0 7 pf pg).1 = 1 then ((ql_X5_readPlan n f mm 9 0 0 8 0 7 pf pg).2.2.2.2.2.2.1) else (if (ql_X5_readPlan n f mm 9 0 0 8 0 7 pf pg).1 = 2 then ((ql_X5_readPlan n f mm 9 0 0 8 0 7 pf pg).2.2.2.2.2.2.1) else ((ql_X5_readPlan n f mm 9 0 0 8 0 7 pf pg).2.2.2.2.2.2.1))))
def q_X5_readPlan_pg1 (n : Nat) (f : Nat → Int32) (pf : Nat → Int32) (pg : Nat → Int32) (mm : Nat) : Nat → Int32 := (if (ql_X5_readPlan n f mm 9 0 0 8 0 7 pf pg).1 = 0 then ((ql_X5_readPlan n f mm 9 0 0 8 0 7 pf pg).2.2.2.2.2.2.2) else (if (ql_X5_readPlan n f mm 9 0 0 8 0 7 pf pg).1 = 1 then ((ql_X5_readPlan n f mm 9 0 0 8 0 7 pf pg).2.2.2.2.2.2.2) else (if (ql_X5_readPlan n f mm 9 0 0 8 0 7 pf pg).1 = 2 then ((ql_X5_readPlan n f mm 9 0 0 8 0 7 pf pg).2.2.2.2.2.2.2) else ((ql_X5_readPlan n f mm 9 0 0 8 0 7 pf pg).2.2.2.2.2.2.2))))
set_option maxHeartbeats 4000000 in
set_option maxRecDepth 100000 in
theorem c_X5_readPlan (l : Launch) (Z : gZ) (sz : Nat) (h0 : Nat) (tk : Nat) (n : Nat) (x0 : Int32) (f : Nat → Int32) (h1 : Nat) (v : Int32) (e0 : Int32) (k : Nat) (z : Nat) (pf : Nat → Int32) (pg : Nat → Int32) (mm : Nat) (hn : n ≤ 80) (hc : zC f) (hm : mm ≤ 5) : Met l yX5_readPlan wsX5_readPlan ({ frames := 6, cells := 0, slots := 0, locals := 300 }) (va_Pc [.ref h0, .ref h1, .int (nI mm)] (fun U => U.heap.size = sz ∧ va_P Z.1 vwCl [(h0, .inr (5, [.int (nI n), .int x0, .ref tk])), (tk, .inl (Z.2 1, 80, .inl f)), (h1, .inr (2, [.int v, .int e0, .ref k, .ref z])), (k, .inl (Z.2 0, 8, .inl pf)), (z, .inl (Z.2 0, 8, .inl pg))] U.heap ∧ va_K Z.1 vwCl (gT Z) U ∧ va_D (fun _ => True) [(h0, .inr (5, [.int (nI n), .int x0, .ref tk])), (tk, .inl (Z.2 1, 80, .inl f)), (h1, .inr (2, [.int v, .int e0, .ref k, .ref z])), (k, .inl (Z.2 0, 8, .inl pf)), (z, .inl (Z.2 0, 8, .inl pg))])) (va_Qi (fun (r : Int32) (u : Nat × Nat × Int32 × (Nat → Int32) × (Nat → Int32)) => match u with | (p1, q1, en1, pf1, pg1) => r = q_X5_readPlan_r n f pf pg mm ∧ q_X5_readPlan_p1 n f pf pg mm = p1 ∧ q_X5_readPlan_q1 n f pf pg mm = q1 ∧ q_X5_readPlan_en1 n f pf pg mm = en1 ∧ q_X5_readPlan_pf1 n f pf pg mm = pf1 ∧ q_X5_readPlan_pg1 n f pf pg mm = pg1 ∧ (p1 ≤ n ∧ q1 ≤ 8 ∧ zP q1 pf1 pg1)) (fun (u : Nat × Nat × Int32 × (Nat → Int32) × (Nat → Int32)) (t9 : State) => match u with | (p1, q1, en1, pf1, pg1) => va_P Z.1 vwCl [(h0, .inr (5, [.int (nI n), .int (nI p1), .ref tk])), (tk, .inl (Z.2 1, 80, .inl f)), (h1, .inr (2, [.int (nI q1), .int en1, .ref k, .ref z])), (k, .inl (Z.2 0, 8, .inl pf1)), (z, .inl (Z.2 0, 8, .inl pg1))] t9.heap ∧ va_D (va_A [(h0, .inr (5, [.int (nI n), .int x0, .ref tk])), (tk, .inl (Z.2 1, 80, .inl f)), (h1, .inr (2, [.int v, .int e0, .ref k, .ref z])), (k, .inl (Z.2 0, 8, .inl pf)), (z, .inl (Z.2 0, 8, .inl pg))] sz) [(h0, .inr (5, [.int (nI n), .int (nI p1), .ref tk])), (tk, .inl (Z.2 1, 80, .inl f)), (h1, .inr (2, [.int (nI q1), .int en1, .ref k, .ref z])), (k, .inl (Z.2 0, 8, .inl pf1)), (z, .inl (Z.2 0, 8, .inl pg1))]) (va_A [(h0, .inr (5, [.int (nI n), .int x0, .ref tk])), (tk, .inl (Z.2 1, 80, .inl f)), (h1, .inr (2, [.int v, .int e0, .ref k, .ref z])), (k, .inl (Z.2 0, 8, .inl pf)), (z, .inl (Z.2 0, 8, .inl pg))] sz)) 0 0 (va_A [(h0, .inr (5, [.int (nI n), .int x0, .ref tk])), (tk, .inl (Z.2 1, 80, .inl f)), (h1, .inr (2, [.int v, .int e0, .ref k, .ref z])), (k, .inl (Z.2 0, 8, .inl pf)), (z, .inl (Z.2 0, 8, .inl pg))] sz) := by
  refine Met.ofW (cc := cX5_readPlan) (maxL := 5) (ret := (some .int)) (by decide) rfl ?_
  intro p e s m args below meth c s₁ B hml hv
  obtain ⟨rfl, hsz, hP, hK, hD0⟩ := hv
  have hx := B.exec
  have hb := B.bytes
  have hr := B.returns
  have hts := atoms_spec (ws := wsX5_readPlan) B.pre
  have hown : s.vm.findClass RX5 = some m.cls := findClass_of_methodNamed B.named
  have hlocks := B.notSynchronized
  subst hsz
  have hin2 : ∀ w ∈ wsX20, w ∈ wsX5_readPlan := fun w h9 => (List.mem_cons_of_mem _ (List.mem_append_right _ h9))
  have hin5 : ∀ w ∈ wsX50, w ∈ wsX5_readPlan := fun w h9 => (List.mem_cons_of_mem _ (List.mem_append_left _ (List.mem_append_right _ h9)))
  have hD := hD0.self (sz := s.heap.size)
  generalize hAe : va_A [(h0, .inr (5, [.int (nI n), .int x0, .ref tk])), (tk, .inl (Z.2 1, 80, .inl f)), (h1, .inr (2, [.int v, .int e0, .ref k, .ref z])), (k, .inl (Z.2 0, 8, .inl pf)), (z, .inl (Z.2 0, 8, .inl pg))] s.heap.size = A at hD ⊢
  have hA : ∀ q : Nat, s.heap.size ≤ q → A q := fun q h => by rw [← hAe]; exact Or.inr h
  have hS : va_S A s.heap s.heap [] := va_S.rf
  have hP : va_P Z.1 vwCl [(h0, .inr (5, [.int (nI n), .int x0, .ref tk])), (tk, .inl (Z.2 1, 80, .inl f)), (h1, .inr (2, [.int v, .int e0, .ref k, .ref z])), (k, .inl (Z.2 0, 8, .inl pf)), (z, .inl (Z.2 0, 8, .inl pg))] s.heap := hP
  have hl := lv_entry ([.ref h0, .ref h1, .int (nI mm)]) (n := 5) (Nat.le_of_ble_eq_true rfl)
  rw [lg_entry_eq]
  generalize (lg_sl ([.ref h0, .ref h1, .int (nI mm)]) ++ List.replicate (5 - (lg_sl ([.ref h0, .ref h1, .int (nI mm)])).length) Slot.unset).toArray = ls at hl ⊢
  have hl : lv_has ls 5 [(0, .ref h0), (1, .ref h1), (2, .int (nI mm))] := hl
  refine lv_aload_n hx hb dX5_readPlan_0 rfl (lv_at hl 1 rfl) ?_
  have hPc := hP.sub (ws' := [(h1, .inr (2, [.int v, .int e0, .ref k, .ref z]))]) [2] rfl
  have hDc := hD.sub (ws' := [(h1, .inr (2, [.int v, .int e0, .ref k, .ref z]))]) [2] (by decide +kernel) rfl
  have hFc := va_free (wc := [(h1, .inr (2, [.int v, .int e0, .ref k, .ref z]))]) hD hS hA [2] rfl
  refine va_callv (va_runV (As := []) (rest := []) ⟨hx, hb, hml, hown, hts⟩ (c_X2_clear l Z s.heap.size h1 v e0 k z) (cwV 0 hts gX5_readPlan_X2_clear rfl rfl rfl (by decide +kernel) ⟨Nat.le_of_ble_eq_true rfl, Nat.le_of_ble_eq_true rfl⟩) ⟨fun a U g mk q => by obtain ⟨q0, q1, qP, qK, qD⟩ := q; exact ⟨q0, q1, qP, va_K.moved (u := U) (U := U.calling g mk a) (Vm.Alike.refl U.vm) qK, qD⟩, va_recv hK hPc (ci := 2) (q0 := 0) rfl rfl, fun U hU hW => ⟨rfl, by rw [hU], by rw [hU]; exact hPc, va_K.moved hW.alike hK, hDc.weaken (fun _ _ _ _ => trivial)⟩⟩ rfl rfl hl.1 rfl (lv_room (Nat.le_of_ble_eq_true rfl)) dX5_readPlan_1 ⟨Nat.le_of_ble_eq_true rfl, Nat.le_of_ble_eq_true rfl⟩) hS (fun q _ h => hFc q h) hFc (fun u t9 H1 locs ht hvm hw hB hz1 hk1 hS => ?_)
  obtain ⟨hP1, hD1⟩ := hB
  rw [ht] at hP1
  obtain ⟨hP, hD⟩ := va_join (wr := [(h0, .inr (5, [.int (nI n), .int x0, .ref tk])), (tk, .inl (Z.2 1, 80, .inl f)), (k, .inl (Z.2 0, 8, .inl pf)), (z, .inl (Z.2 0, 8, .inl pg))]) (w1 := [(h1, .inr (2, [.int 0, .int 0, .ref k, .ref z]))]) hP hD [2] [0, 1, 3, 4] rfl rfl (by decide +kernel) (by decide +kernel) hk1 hFc hP1 hD1
  clear hPc hDc hP1 hD1 hk1 hz1 hFc ht hvm
  generalize H1 = H at hP hS ⊢
  have hP : va_P Z.1 vwCl [(h0, .inr (5, [.int (nI n), .int x0, .ref tk])), (tk, .inl (Z.2 1, 80, .inl f)), (k, .inl (Z.2 0, 8, .inl pf)), (z, .inl (Z.2 0, 8, .inl pg)), (h1, .inr (2, [.int 0, .int 0, .ref k, .ref z]))] H := hP
  have hD : va_D A [(h0, .inr (5, [.int (nI n), .int x0, .ref tk])), (tk, .inl (Z.2 1, 80, .inl f)), (k, .inl (Z.2 0, 8, .inl pf)), (z, .inl (Z.2 0, 8, .inl pg)), (h1, .inr (2, [.int 0, .int 0, .ref k, .ref z]))] := hD
  refine lv_aload_n hx hb dX5_readPlan_4 rfl (lv_at hl 0 rfl) ?_
  refine lv_iconst (v := 0) hx hb dX5_readPlan_5 (by decide) ?_
  refine va_put (D := Z.1) (ci := 5) (v := .int 0) (ty := .int) (C := RX5) (T := TX5) (N := 3) hx hb hts hin5 tyX5 tyX5_ok nmX5 hown hK hP hD hS 0 rfl rfl 1 (by decide) (hts (.fieldLink RX5 15 "HalfAsked$Tape" "at" "I") (List.mem_of_getElem? (i := 1) rfl)) (fun _ h9 => h9) rfl (by decide +kernel) rfl rfl (Nat.le_of_ble_eq_true rfl) dX5_readPlan_6 (fun H locs hP hD hS => ?_)
  have hP : va_P Z.1 vwCl [(h0, .inr (5, [.int (nI n), .int 0, .ref tk])), (tk, .inl (Z.2 1, 80, .inl f)), (k, .inl (Z.2 0, 8, .inl pf)), (z, .inl (Z.2 0, 8, .inl pg)), (h1, .inr (2, [.int 0, .int 0, .ref k, .ref z]))] H := hP
  have hD : va_D A [(h0, .inr (5, [.int (nI n), .int 0, .ref tk])), (tk, .inl (Z.2 1, 80, .inl f)), (k, .inl (Z.2 0, 8, .inl pf)), (z, .inl (Z.2 0, 8, .inl pg)), (h1, .inr (2, [.int 0, .int 0, .ref k, .ref z]))] := hD
  refine lv_bipush (v := 7) hx hb dX5_readPlan_9 (by decide) ?_
  refine lv_istore_n (lv' := [(3, .int 7), (0, .ref h0), (1, .ref h1), (2, .int (nI mm))]) hx hb dX5_readPlan_11 rfl hl (by decide) rfl (fun ls hl => ?_)
  refine lp_X5_readPlan Z h0 tk n f h1 k z mm (ql_X5_readPlan n f mm 9 0 0 8 0 7 pf pg) hn hc hm hx hb hml hts hown hK hA (fun ps q j en x pf' pg' H locs ls he hT9_1 hP hD hS hl => ?_) (fun ps q j en x pf' pg' H locs ls he hT9_1 hP hD hS hl => ?_) (fun ps q j en x pf' pg' H locs ls he hT9_1 hP hD hS hl => ?_) (fun ps q j en x pf' pg' H locs ls he hT9_1 hP hD hS hl => ?_) 9 0 0 8 0 7 pf pg (by decide) (Nat.zero_le _) (by decide) (Or.inr ⟨7, rfl, rfl⟩) (zP_0 _ _) (rfl) H _ ls (hP.sub [0, 1, 4, 2, 3] rfl) (hD.sub [0, 1, 4, 2, 3] (by decide +kernel) rfl) hS (lv_sub hl [1, 2, 3, 0] rfl)
  · have hT9_1_t0 : (ql_X5_readPlan n f mm 9 0 0 8 0 7 pf pg).1 = 0 := by rw [hT9_1]
    have e9ps : (ql_X5_readPlan n f mm 9 0 0 8 0 7 pf pg).2.1 = ps := by rw [hT9_1]
    have e9q : (ql_X5_readPlan n f mm 9 0 0 8 0 7 pf pg).2.2.1 = q := by rw [hT9_1]
    have e9j : (ql_X5_readPlan n f mm 9 0 0 8 0 7 pf pg).2.2.2.1 = j := by rw [hT9_1]
    have e9en : (ql_X5_readPlan n f mm 9 0 0 8 0 7 pf pg).2.2.2.2.1 = en := by rw [hT9_1]
    have e9x : (ql_X5_readPlan n f mm 9 0 0 8 0 7 pf pg).2.2.2.2.2.1 = x := by rw [hT9_1]
    have e9pf : (ql_X5_readPlan n f mm 9 0 0 8 0 7 pf pg).2.2.2.2.2.2.1 = pf' := by rw [hT9_1]
    have e9pg : (ql_X5_readPlan n f mm 9 0 0 8 0 7 pf pg).2.2.2.2.2.2.2 = pg' := by rw [hT9_1]
    subst e9ps
    subst e9q
    subst e9j
    subst e9en
    subst e9x
    subst e9pf
    subst e9pg
    refine lv_aload_n hx hb dX5_readPlan_25 rfl (lv_at hl 0 rfl) ?_
    refine va_get (D := Z.1) (ci := 5) (v := .int (nI ((ql_X5_readPlan n f mm 9 0 0 8 0 7 pf pg).2.1))) (C := RX5) (T := TX5) (N := 3) hx hb hts hin5 hown hK hP 0 rfl rfl 1 (by decide) (hts (.fieldLink RX5 15 "HalfAsked$Tape" "at" "I") (List.mem_of_getElem? (i := 1) rfl)) (fun _ h9 => h9) rfl dX5_readPlan_26 ?_
    have hPc := hP.sub (ws' := []) [] rfl
    have hDc := hD.sub (ws' := []) [] (by decide +kernel) rfl
    have hFc := va_free (wc := []) hD hS hA [] rfl
    refine va_calli (va_runS (As := [.int (nI ((ql_X5_readPlan n f mm 9 0 0 8 0 7 pf pg).2.1))]) (rest := []) ⟨hx, hb, hml, hown, hts⟩ (c_X5_fault l Z H.size (nI ((ql_X5_readPlan n f mm 9 0 0 8 0 7 pf pg).2.1))) (va_cwS 1 hts gX5_readPlan_X5_fault rfl rfl rfl (by decide +kernel) ⟨Nat.le_of_ble_eq_true rfl, Nat.le_of_ble_eq_true rfl⟩) ⟨fun a U g mk q => by obtain ⟨q0, q1, qP, qK, qD⟩ := q; exact ⟨q0, q1, qP, va_K.moved (u := U) (U := U.calling g mk a) (Vm.Alike.refl U.vm) qK, qD⟩, fun U hU hW => ⟨rfl, by rw [hU], by rw [hU]; exact hPc, va_K.moved hW.alike hK, hDc.weaken (fun _ _ _ _ => trivial)⟩⟩ rfl rfl hl.1 rfl (lv_room (Nat.le_of_ble_eq_true rfl)) dX5_readPlan_29 ⟨Nat.le_of_ble_eq_true rfl, Nat.le_of_ble_eq_true rfl⟩) hS (fun q _ h => hFc q h) hFc (fun r_3 u t9 H1 locs ht hvm hw hB hz1 hk1 hS => ?_)
    have hw9 := hw.symm
    clear hw
    subst hw9
    have hP1 : va_P Z.1 vwCl [] H1 := fun k q h => by simp at h
    have hD1 : va_D (va_A [] H.size) [] := ⟨fun i j p q h => by simp at h, fun k q h => by simp at h⟩
    obtain ⟨hP, hD⟩ := va_join (wr := [(h0, .inr (5, [.int (nI n), .int (nI ((ql_X5_readPlan n f mm 9 0 0 8 0 7 pf pg).2.1)), .ref tk])), (tk, .inl (Z.2 1, 80, .inl f)), (h1, .inr (2, [.int (nI ((ql_X5_readPlan n f mm 9 0 0 8 0 7 pf pg).2.2.1)), .int ((ql_X5_readPlan n f mm 9 0 0 8 0 7 pf pg).2.2.2.2.1), .ref k, .ref z])), (k, .inl (Z.2 0, 8, .inl ((ql_X5_readPlan n f mm 9 0 0 8 0 7 pf pg).2.2.2.2.2.2.1))), (z, .inl (Z.2 0, 8, .inl ((ql_X5_readPlan n f mm 9 0 0 8 0 7 pf pg).2.2.2.2.2.2.2)))]) (w1 := []) hP hD [] [0, 1, 2, 3, 4] rfl rfl (by decide +kernel) (by decide +kernel) hk1 hFc hP1 hD1
    clear hPc hDc hP1 hD1 hk1 hz1 hFc ht hvm
    generalize H1 = H at hP hS ⊢
    have hP : va_P Z.1 vwCl [(h0, .inr (5, [.int (nI n), .int (nI ((ql_X5_readPlan n f mm 9 0 0 8 0 7 pf pg).2.1)), .ref tk])), (tk, .inl (Z.2 1, 80, .inl f)), (h1, .inr (2, [.int (nI ((ql_X5_readPlan n f mm 9 0 0 8 0 7 pf pg).2.2.1)), .int ((ql_X5_readPlan n f mm 9 0 0 8 0 7 pf pg).2.2.2.2.1), .ref k, .ref z])), (k, .inl (Z.2 0, 8, .inl ((ql_X5_readPlan n f mm 9 0 0 8 0 7 pf pg).2.2.2.2.2.2.1))), (z, .inl (Z.2 0, 8, .inl ((ql_X5_readPlan n f mm 9 0 0 8 0 7 pf pg).2.2.2.2.2.2.2)))] H := hP
    have hD : va_D A [(h0, .inr (5, [.int (nI n), .int (nI ((ql_X5_readPlan n f mm 9 0 0 8 0 7 pf pg).2.1)), .ref tk])), (tk, .inl (Z.2 1, 80, .inl f)), (h1, .inr (2, [.int (nI ((ql_X5_readPlan n f mm 9 0 0 8 0 7 pf pg).2.2.1)), .int ((ql_X5_readPlan n f mm 9 0 0 8 0 7 pf pg).2.2.2.2.1), .ref k, .ref z])), (k, .inl (Z.2 0, 8, .inl ((ql_X5_readPlan n f mm 9 0 0 8 0 7 pf pg).2.2.2.2.2.2.1))), (z, .inl (Z.2 0, 8, .inl ((ql_X5_readPlan n f mm 9 0 0 8 0 7 pf pg).2.2.2.2.2.2.2)))] := hD
    have hP9 := hP.sub (ws' := [(h0, .inr (5, [.int (nI n), .int (nI ((ql_X5_readPlan n f mm 9 0 0 8 0 7 pf pg).2.1)), .ref tk])), (tk, .inl (Z.2 1, 80, .inl f)), (h1, .inr (2, [.int (nI ((ql_X5_readPlan n f mm 9 0 0 8 0 7 pf pg).2.2.1)), .int ((ql_X5_readPlan n f mm 9 0 0 8 0 7 pf pg).2.2.2.2.1), .ref k, .ref z])), (k, .inl (Z.2 0, 8, .inl ((ql_X5_readPlan n f mm 9 0 0 8 0 7 pf pg).2.2.2.2.2.2.1))), (z, .inl (Z.2 0, 8, .inl ((ql_X5_readPlan n f mm 9 0 0 8 0 7 pf pg).2.2.2.2.2.2.2)))]) [0, 1, 2, 3, 4] rfl
    have hD9 := hD.sub (ws' := [(h0, .inr (5, [.int (nI n), .int (nI ((ql_X5_readPlan n f mm 9 0 0 8 0 7 pf pg).2.1)), .ref tk])), (tk, .inl (Z.2 1, 80, .inl f)), (h1, .inr (2, [.int (nI ((ql_X5_readPlan n f mm 9 0 0 8 0 7 pf pg).2.2.1)), .int ((ql_X5_readPlan n f mm 9 0 0 8 0 7 pf pg).2.2.2.2.1), .ref k, .ref z])), (k, .inl (Z.2 0, 8, .inl ((ql_X5_readPlan n f mm 9 0 0 8 0 7 pf pg).2.2.2.2.2.2.1))), (z, .inl (Z.2 0, 8, .inl ((ql_X5_readPlan n f mm 9 0 0 8 0 7 pf pg).2.2.2.2.2.2.2)))]) [0, 1, 2, 3, 4] (by decide +kernel) rfl
    exact W.iret (v := ((-20) - (nI ((ql_X5_readPlan n f mm 9 0 0 8 0 7 pf pg).2.1)))) hx hb hr (fun t9 ht hW => ⟨⟨(-20) - (nI ((ql_X5_readPlan n f mm 9 0 0 8 0 7 pf pg).2.1)), (((ql_X5_readPlan n f mm 9 0 0 8 0 7 pf pg).2.1), ((ql_X5_readPlan n f mm 9 0 0 8 0 7 pf pg).2.2.1), (ql_X5_readPlan n f mm 9 0 0 8 0 7 pf pg).2.2.2.2.1, (ql_X5_readPlan n f mm 9 0 0 8 0 7 pf pg).2.2.2.2.2.2.1, (ql_X5_readPlan n f mm 9 0 0 8 0 7 pf pg).2.2.2.2.2.2.2), rfl, ⟨(by unfold q_X5_readPlan_r; rw [if_pos hT9_1_t0]), (by unfold q_X5_readPlan_p1; rw [if_pos hT9_1_t0]), (by unfold q_X5_readPlan_q1; rw [if_pos hT9_1_t0]), (by unfold q_X5_readPlan_en1; rw [if_pos hT9_1_t0]), (by unfold q_X5_readPlan_pf1; rw [if_pos hT9_1_t0]), (by unfold q_X5_readPlan_pg1; rw [if_pos hT9_1_t0]), ⟨he.1.1, he.1.2, he.2⟩⟩, by rw [ht]; exact hP9, hD9⟩, hS.F ht⟩) hS.2.2 dX5_readPlan_32
  · have hT9_1_t0 : ¬ (ql_X5_readPlan n f mm 9 0 0 8 0 7 pf pg).1 = 0 := by rw [hT9_1]; exact (show ¬ (1 : Nat) = 0 by decide)
    have hT9_1_t1 : (ql_X5_readPlan n f mm 9 0 0 8 0 7 pf pg).1 = 1 := by rw [hT9_1]
    have e9ps : (ql_X5_readPlan n f mm 9 0 0 8 0 7 pf pg).2.1 = ps := by rw [hT9_1]
    have e9q : (ql_X5_readPlan n f mm 9 0 0 8 0 7 pf pg).2.2.1 = q := by rw [hT9_1]
    have e9j : (ql_X5_readPlan n f mm 9 0 0 8 0 7 pf pg).2.2.2.1 = j := by rw [hT9_1]
    have e9en : (ql_X5_readPlan n f mm 9 0 0 8 0 7 pf pg).2.2.2.2.1 = en := by rw [hT9_1]
    have e9x : (ql_X5_readPlan n f mm 9 0 0 8 0 7 pf pg).2.2.2.2.2.1 = x := by rw [hT9_1]
    have e9pf : (ql_X5_readPlan n f mm 9 0 0 8 0 7 pf pg).2.2.2.2.2.2.1 = pf' := by rw [hT9_1]
    have e9pg : (ql_X5_readPlan n f mm 9 0 0 8 0 7 pf pg).2.2.2.2.2.2.2 = pg' := by rw [hT9_1]
    subst e9ps
    subst e9q
    subst e9j
    subst e9en
    subst e9x
    subst e9pf
    subst e9pg
    refine lv_aload_n hx hb dX5_readPlan_80 rfl (lv_at hl 1 rfl) ?_
    refine va_get (D := Z.1) (ci := 2) (v := .int (nI ((ql_X5_readPlan n f mm 9 0 0 8 0 7 pf pg).2.2.1))) (C := RX2) (T := TX2) (N := 4) hx hb hts hin2 hown hK hP 2 rfl rfl 0 (by decide) (hts (.fieldLink RX5 70 "HalfAsked$Plan" "size" "I") (List.mem_of_getElem? (i := 3) rfl)) (fun _ h9 => h9) rfl dX5_readPlan_81 ?_
    have hP9 := hP.sub (ws' := [(h0, .inr (5, [.int (nI n), .int (nI ((ql_X5_readPlan n f mm 9 0 0 8 0 7 pf pg).2.1)), .ref tk])), (tk, .inl (Z.2 1, 80, .inl f)), (h1, .inr (2, [.int (nI ((ql_X5_readPlan n f mm 9 0 0 8 0 7 pf pg).2.2.1)), .int ((ql_X5_readPlan n f mm 9 0 0 8 0 7 pf pg).2.2.2.2.1), .ref k, .ref z])), (k, .inl (Z.2 0, 8, .inl ((ql_X5_readPlan n f mm 9 0 0 8 0 7 pf pg).2.2.2.2.2.2.1))), (z, .inl (Z.2 0, 8, .inl ((ql_X5_readPlan n f mm 9 0 0 8 0 7 pf pg).2.2.2.2.2.2.2)))]) [0, 1, 2, 3, 4] rfl
    have hD9 := hD.sub (ws' := [(h0, .inr (5, [.int (nI n), .int (nI ((ql_X5_readPlan n f mm 9 0 0 8 0 7 pf pg).2.1)), .ref tk])), (tk, .inl (Z.2 1, 80, .inl f)), (h1, .inr (2, [.int (nI ((ql_X5_readPlan n f mm 9 0 0 8 0 7 pf pg).2.2.1)), .int ((ql_X5_readPlan n f mm 9 0 0 8 0 7 pf pg).2.2.2.2.1), .ref k, .ref z])), (k, .inl (Z.2 0, 8, .inl ((ql_X5_readPlan n f mm 9 0 0 8 0 7 pf pg).2.2.2.2.2.2.1))), (z, .inl (Z.2 0, 8, .inl ((ql_X5_readPlan n f mm 9 0 0 8 0 7 pf pg).2.2.2.2.2.2.2)))]) [0, 1, 2, 3, 4] (by decide +kernel) rfl
    exact W.iret (v := (nI ((ql_X5_readPlan n f mm 9 0 0 8 0 7 pf pg).2.2.1))) hx hb hr (fun t9 ht hW => ⟨⟨nI ((ql_X5_readPlan n f mm 9 0 0 8 0 7 pf pg).2.2.1), (((ql_X5_readPlan n f mm 9 0 0 8 0 7 pf pg).2.1), ((ql_X5_readPlan n f mm 9 0 0 8 0 7 pf pg).2.2.1), (ql_X5_readPlan n f mm 9 0 0 8 0 7 pf pg).2.2.2.2.1, (ql_X5_readPlan n f mm 9 0 0 8 0 7 pf pg).2.2.2.2.2.2.1, (ql_X5_readPlan n f mm 9 0 0 8 0 7 pf pg).2.2.2.2.2.2.2), rfl, ⟨(by unfold q_X5_readPlan_r; rw [if_neg hT9_1_t0, if_pos hT9_1_t1]), (by unfold q_X5_readPlan_p1; rw [if_neg hT9_1_t0, if_pos hT9_1_t1]), (by unfold q_X5_readPlan_q1; rw [if_neg hT9_1_t0, if_pos hT9_1_t1]), (by unfold q_X5_readPlan_en1; rw [if_neg hT9_1_t0, if_pos hT9_1_t1]), (by unfold q_X5_readPlan_pf1; rw [if_neg hT9_1_t0, if_pos hT9_1_t1]), (by unfold q_X5_readPlan_pg1; rw [if_neg hT9_1_t0, if_pos hT9_1_t1]), ⟨he.1.1, he.1.2, he.2⟩⟩, by rw [ht]; exact hP9, hD9⟩, hS.F ht⟩) hS.2.2 dX5_readPlan_84
  · have hT9_1_t0 : ¬ (ql_X5_readPlan n f mm 9 0 0 8 0 7 pf pg).1 = 0 := by rw [hT9_1]; exact (show ¬ (2 : Nat) = 0 by decide)
    have hT9_1_t1 : ¬ (ql_X5_readPlan n f mm 9 0 0 8 0 7 pf pg).1 = 1 := by rw [hT9_1]; exact (show ¬ (2 : Nat) = 1 by decide)
    have hT9_1_t2 : (ql_X5_readPlan n f mm 9 0 0 8 0 7 pf pg).1 = 2 := by rw [hT9_1]
    have e9ps : (ql_X5_readPlan n f mm 9 0 0 8 0 7 pf pg).2.1 = ps := by rw [hT9_1]
    have e9q : (ql_X5_readPlan n f mm 9 0 0 8 0 7 pf pg).2.2.1 = q := by rw [hT9_1]
    have e9j : (ql_X5_readPlan n f mm 9 0 0 8 0 7 pf pg).2.2.2.1 = j := by rw [hT9_1]
    have e9en : (ql_X5_readPlan n f mm 9 0 0 8 0 7 pf pg).2.2.2.2.1 = en := by rw [hT9_1]
    have e9x : (ql_X5_readPlan n f mm 9 0 0 8 0 7 pf pg).2.2.2.2.2.1 = x := by rw [hT9_1]
    have e9pf : (ql_X5_readPlan n f mm 9 0 0 8 0 7 pf pg).2.2.2.2.2.2.1 = pf' := by rw [hT9_1]
    have e9pg : (ql_X5_readPlan n f mm 9 0 0 8 0 7 pf pg).2.2.2.2.2.2.2 = pg' := by rw [hT9_1]
    subst e9ps
    subst e9q
    subst e9j
    subst e9en
    subst e9x
    subst e9pf
    subst e9pg
    refine lv_aload_n hx hb dX5_readPlan_103 rfl (lv_at hl 0 rfl) ?_
    refine va_get (D := Z.1) (ci := 5) (v := .int (nI ((ql_X5_readPlan n f mm 9 0 0 8 0 7 pf pg).2.1))) (C := RX5) (T := TX5) (N := 3) hx hb hts hin5 hown hK hP 0 rfl rfl 1 (by decide) (hts (.fieldLink RX5 15 "HalfAsked$Tape" "at" "I") (List.mem_of_getElem? (i := 1) rfl)) (fun _ h9 => h9) rfl dX5_readPlan_104 ?_
    have hPc := hP.sub (ws' := []) [] rfl
    have hDc := hD.sub (ws' := []) [] (by decide +kernel) rfl
    have hFc := va_free (wc := []) hD hS hA [] rfl
    refine va_calli (va_runS (As := [.int (nI ((ql_X5_readPlan n f mm 9 0 0 8 0 7 pf pg).2.1))]) (rest := []) ⟨hx, hb, hml, hown, hts⟩ (c_X5_fault l Z H.size (nI ((ql_X5_readPlan n f mm 9 0 0 8 0 7 pf pg).2.1))) (va_cwS 1 hts gX5_readPlan_X5_fault rfl rfl rfl (by decide +kernel) ⟨Nat.le_of_ble_eq_true rfl, Nat.le_of_ble_eq_true rfl⟩) ⟨fun a U g mk q => by obtain ⟨q0, q1, qP, qK, qD⟩ := q; exact ⟨q0, q1, qP, va_K.moved (u := U) (U := U.calling g mk a) (Vm.Alike.refl U.vm) qK, qD⟩, fun U hU hW => ⟨rfl, by rw [hU], by rw [hU]; exact hPc, va_K.moved hW.alike hK, hDc.weaken (fun _ _ _ _ => trivial)⟩⟩ rfl rfl hl.1 rfl (lv_room (Nat.le_of_ble_eq_true rfl)) dX5_readPlan_107 ⟨Nat.le_of_ble_eq_true rfl, Nat.le_of_ble_eq_true rfl⟩) hS (fun q _ h => hFc q h) hFc (fun r_4 u t9 H1 locs ht hvm hw hB hz1 hk1 hS => ?_)
    have hw9 := hw.symm
    clear hw
    subst hw9
    have hP1 : va_P Z.1 vwCl [] H1 := fun k q h => by simp at h
    have hD1 : va_D (va_A [] H.size) [] := ⟨fun i j p q h => by simp at h, fun k q h => by simp at h⟩
    obtain ⟨hP, hD⟩ := va_join (wr := [(h0, .inr (5, [.int (nI n), .int (nI ((ql_X5_readPlan n f mm 9 0 0 8 0 7 pf pg).2.1)), .ref tk])), (tk, .inl (Z.2 1, 80, .inl f)), (h1, .inr (2, [.int (nI ((ql_X5_readPlan n f mm 9 0 0 8 0 7 pf pg).2.2.1)), .int ((ql_X5_readPlan n f mm 9 0 0 8 0 7 pf pg).2.2.2.2.1), .ref k, .ref z])), (k, .inl (Z.2 0, 8, .inl ((ql_X5_readPlan n f mm 9 0 0 8 0 7 pf pg).2.2.2.2.2.2.1))), (z, .inl (Z.2 0, 8, .inl ((ql_X5_readPlan n f mm 9 0 0 8 0 7 pf pg).2.2.2.2.2.2.2)))]) (w1 := []) hP hD [] [0, 1, 2, 3, 4] rfl rfl (by decide +kernel) (by decide +kernel) hk1 hFc hP1 hD1
    clear hPc hDc hP1 hD1 hk1 hz1 hFc ht hvm
    generalize H1 = H at hP hS ⊢
    have hP : va_P Z.1 vwCl [(h0, .inr (5, [.int (nI n), .int (nI ((ql_X5_readPlan n f mm 9 0 0 8 0 7 pf pg).2.1)), .ref tk])), (tk, .inl (Z.2 1, 80, .inl f)), (h1, .inr (2, [.int (nI ((ql_X5_readPlan n f mm 9 0 0 8 0 7 pf pg).2.2.1)), .int ((ql_X5_readPlan n f mm 9 0 0 8 0 7 pf pg).2.2.2.2.1), .ref k, .ref z])), (k, .inl (Z.2 0, 8, .inl ((ql_X5_readPlan n f mm 9 0 0 8 0 7 pf pg).2.2.2.2.2.2.1))), (z, .inl (Z.2 0, 8, .inl ((ql_X5_readPlan n f mm 9 0 0 8 0 7 pf pg).2.2.2.2.2.2.2)))] H := hP
    have hD : va_D A [(h0, .inr (5, [.int (nI n), .int (nI ((ql_X5_readPlan n f mm 9 0 0 8 0 7 pf pg).2.1)), .ref tk])), (tk, .inl (Z.2 1, 80, .inl f)), (h1, .inr (2, [.int (nI ((ql_X5_readPlan n f mm 9 0 0 8 0 7 pf pg).2.2.1)), .int ((ql_X5_readPlan n f mm 9 0 0 8 0 7 pf pg).2.2.2.2.1), .ref k, .ref z])), (k, .inl (Z.2 0, 8, .inl ((ql_X5_readPlan n f mm 9 0 0 8 0 7 pf pg).2.2.2.2.2.2.1))), (z, .inl (Z.2 0, 8, .inl ((ql_X5_readPlan n f mm 9 0 0 8 0 7 pf pg).2.2.2.2.2.2.2)))] := hD
    have hP9 := hP.sub (ws' := [(h0, .inr (5, [.int (nI n), .int (nI ((ql_X5_readPlan n f mm 9 0 0 8 0 7 pf pg).2.1)), .ref tk])), (tk, .inl (Z.2 1, 80, .inl f)), (h1, .inr (2, [.int (nI ((ql_X5_readPlan n f mm 9 0 0 8 0 7 pf pg).2.2.1)), .int ((ql_X5_readPlan n f mm 9 0 0 8 0 7 pf pg).2.2.2.2.1), .ref k, .ref z])), (k, .inl (Z.2 0, 8, .inl ((ql_X5_readPlan n f mm 9 0 0 8 0 7 pf pg).2.2.2.2.2.2.1))), (z, .inl (Z.2 0, 8, .inl ((ql_X5_readPlan n f mm 9 0 0 8 0 7 pf pg).2.2.2.2.2.2.2)))]) [0, 1, 2, 3, 4] rfl
    have hD9 := hD.sub (ws' := [(h0, .inr (5, [.int (nI n), .int (nI ((ql_X5_readPlan n f mm 9 0 0 8 0 7 pf pg).2.1)), .ref tk])), (tk, .inl (Z.2 1, 80, .inl f)), (h1, .inr (2, [.int (nI ((ql_X5_readPlan n f mm 9 0 0 8 0 7 pf pg).2.2.1)), .int ((ql_X5_readPlan n f mm 9 0 0 8 0 7 pf pg).2.2.2.2.1), .ref k, .ref z])), (k, .inl (Z.2 0, 8, .inl ((ql_X5_readPlan n f mm 9 0 0 8 0 7 pf pg).2.2.2.2.2.2.1))), (z, .inl (Z.2 0, 8, .inl ((ql_X5_readPlan n f mm 9 0 0 8 0 7 pf pg).2.2.2.2.2.2.2)))]) [0, 1, 2, 3, 4] (by decide +kernel) rfl
    exact W.iret (v := ((-20) - (nI ((ql_X5_readPlan n f mm 9 0 0 8 0 7 pf pg).2.1)))) hx hb hr (fun t9 ht hW => ⟨⟨(-20) - (nI ((ql_X5_readPlan n f mm 9 0 0 8 0 7 pf pg).2.1)), (((ql_X5_readPlan n f mm 9 0 0 8 0 7 pf pg).2.1), ((ql_X5_readPlan n f mm 9 0 0 8 0 7 pf pg).2.2.1), (ql_X5_readPlan n f mm 9 0 0 8 0 7 pf pg).2.2.2.2.1, (ql_X5_readPlan n f mm 9 0 0 8 0 7 pf pg).2.2.2.2.2.2.1, (ql_X5_readPlan n f mm 9 0 0 8 0 7 pf pg).2.2.2.2.2.2.2), rfl, ⟨(by unfold q_X5_readPlan_r; rw [if_neg hT9_1_t0, if_neg hT9_1_t1, if_pos hT9_1_t2]), (by unfold q_X5_readPlan_p1; rw [if_neg hT9_1_t0, if_neg hT9_1_t1, if_pos hT9_1_t2]), (by unfold q_X5_readPlan_q1; rw [if_neg hT9_1_t0, if_neg hT9_1_t1, if_pos hT9_1_t2]), (by unfold q_X5_readPlan_en1; rw [if_neg hT9_1_t0, if_neg hT9_1_t1, if_pos hT9_1_t2]), (by unfold q_X5_readPlan_pf1; rw [if_neg hT9_1_t0, if_neg hT9_1_t1, if_pos hT9_1_t2]), (by unfold q_X5_readPlan_pg1; rw [if_neg hT9_1_t0, if_neg hT9_1_t1, if_pos hT9_1_t2]), ⟨he.1.1, he.1.2, he.2⟩⟩, by rw [ht]; exact hP9, hD9⟩, hS.F ht⟩) hS.2.2 dX5_readPlan_110
  · have hT9_1_t0 : ¬ (ql_X5_readPlan n f mm 9 0 0 8 0 7 pf pg).1 = 0 := by rw [hT9_1]; exact (show ¬ (3 : Nat) = 0 by decide)
    have hT9_1_t1 : ¬ (ql_X5_readPlan n f mm 9 0 0 8 0 7 pf pg).1 = 1 := by rw [hT9_1]; exact (show ¬ (3 : Nat) = 1 by decide)
    have hT9_1_t2 : ¬ (ql_X5_readPlan n f mm 9 0 0 8 0 7 pf pg).1 = 2 := by rw [hT9_1]; exact (show ¬ (3 : Nat) = 2 by decide)
    have e9ps : (ql_X5_readPlan n f mm 9 0 0 8 0 7 pf pg).2.1 = ps := by rw [hT9_1]
    have e9q : (ql_X5_readPlan n f mm 9 0 0 8 0 7 pf pg).2.2.1 = q := by rw [hT9_1]
    have e9j : (ql_X5_readPlan n f mm 9 0 0 8 0 7 pf pg).2.2.2.1 = j := by rw [hT9_1]
    have e9en : (ql_X5_readPlan n f mm 9 0 0 8 0 7 pf pg).2.2.2.2.1 = en := by rw [hT9_1]
    have e9x : (ql_X5_readPlan n f mm 9 0 0 8 0 7 pf pg).2.2.2.2.2.1 = x := by rw [hT9_1]
    have e9pf : (ql_X5_readPlan n f mm 9 0 0 8 0 7 pf pg).2.2.2.2.2.2.1 = pf' := by rw [hT9_1]
    have e9pg : (ql_X5_readPlan n f mm 9 0 0 8 0 7 pf pg).2.2.2.2.2.2.2 = pg' := by rw [hT9_1]
    subst e9ps
    subst e9q
    subst e9j
    subst e9en
    subst e9x
    subst e9pf
    subst e9pg
    refine lv_aload_n hx hb dX5_readPlan_134 rfl (lv_at hl 0 rfl) ?_
    refine va_get (D := Z.1) (ci := 5) (v := .int (nI ((ql_X5_readPlan n f mm 9 0 0 8 0 7 pf pg).2.1))) (C := RX5) (T := TX5) (N := 3) hx hb hts hin5 hown hK hP 0 rfl rfl 1 (by decide) (hts (.fieldLink RX5 15 "HalfAsked$Tape" "at" "I") (List.mem_of_getElem? (i := 1) rfl)) (fun _ h9 => h9) rfl dX5_readPlan_135 ?_
    have hPc := hP.sub (ws' := []) [] rfl
    have hDc := hD.sub (ws' := []) [] (by decide +kernel) rfl
    have hFc := va_free (wc := []) hD hS hA [] rfl
    refine va_calli (va_runS (As := [.int (nI ((ql_X5_readPlan n f mm 9 0 0 8 0 7 pf pg).2.1))]) (rest := []) ⟨hx, hb, hml, hown, hts⟩ (c_X5_fault l Z H.size (nI ((ql_X5_readPlan n f mm 9 0 0 8 0 7 pf pg).2.1))) (va_cwS 1 hts gX5_readPlan_X5_fault rfl rfl rfl (by decide +kernel) ⟨Nat.le_of_ble_eq_true rfl, Nat.le_of_ble_eq_true rfl⟩) ⟨fun a U g mk q => by obtain ⟨q0, q1, qP, qK, qD⟩ := q; exact ⟨q0, q1, qP, va_K.moved (u := U) (U := U.calling g mk a) (Vm.Alike.refl U.vm) qK, qD⟩, fun U hU hW => ⟨rfl, by rw [hU], by rw [hU]; exact hPc, va_K.moved hW.alike hK, hDc.weaken (fun _ _ _ _ => trivial)⟩⟩ rfl rfl hl.1 rfl (lv_room (Nat.le_of_ble_eq_true rfl)) dX5_readPlan_138 ⟨Nat.le_of_ble_eq_true rfl, Nat.le_of_ble_eq_true rfl⟩) hS (fun q _ h => hFc q h) hFc (fun r_5 u t9 H1 locs ht hvm hw hB hz1 hk1 hS => ?_)
    have hw9 := hw.symm
    clear hw
    subst hw9
    have hP1 : va_P Z.1 vwCl [] H1 := fun k q h => by simp at h
    have hD1 : va_D (va_A [] H.size) [] := ⟨fun i j p q h => by simp at h, fun k q h => by simp at h⟩
    obtain ⟨hP, hD⟩ := va_join (wr := [(h0, .inr (5, [.int (nI n), .int (nI ((ql_X5_readPlan n f mm 9 0 0 8 0 7 pf pg).2.1)), .ref tk])), (tk, .inl (Z.2 1, 80, .inl f)), (h1, .inr (2, [.int (nI ((ql_X5_readPlan n f mm 9 0 0 8 0 7 pf pg).2.2.1)), .int ((ql_X5_readPlan n f mm 9 0 0 8 0 7 pf pg).2.2.2.2.1), .ref k, .ref z])), (k, .inl (Z.2 0, 8, .inl ((ql_X5_readPlan n f mm 9 0 0 8 0 7 pf pg).2.2.2.2.2.2.1))), (z, .inl (Z.2 0, 8, .inl ((ql_X5_readPlan n f mm 9 0 0 8 0 7 pf pg).2.2.2.2.2.2.2)))]) (w1 := []) hP hD [] [0, 1, 2, 3, 4] rfl rfl (by decide +kernel) (by decide +kernel) hk1 hFc hP1 hD1
    clear hPc hDc hP1 hD1 hk1 hz1 hFc ht hvm
    generalize H1 = H at hP hS ⊢
    have hP : va_P Z.1 vwCl [(h0, .inr (5, [.int (nI n), .int (nI ((ql_X5_readPlan n f mm 9 0 0 8 0 7 pf pg).2.1)), .ref tk])), (tk, .inl (Z.2 1, 80, .inl f)), (h1, .inr (2, [.int (nI ((ql_X5_readPlan n f mm 9 0 0 8 0 7 pf pg).2.2.1)), .int ((ql_X5_readPlan n f mm 9 0 0 8 0 7 pf pg).2.2.2.2.1), .ref k, .ref z])), (k, .inl (Z.2 0, 8, .inl ((ql_X5_readPlan n f mm 9 0 0 8 0 7 pf pg).2.2.2.2.2.2.1))), (z, .inl (Z.2 0, 8, .inl ((ql_X5_readPlan n f mm 9 0 0 8 0 7 pf pg).2.2.2.2.2.2.2)))] H := hP
    have hD : va_D A [(h0, .inr (5, [.int (nI n), .int (nI ((ql_X5_readPlan n f mm 9 0 0 8 0 7 pf pg).2.1)), .ref tk])), (tk, .inl (Z.2 1, 80, .inl f)), (h1, .inr (2, [.int (nI ((ql_X5_readPlan n f mm 9 0 0 8 0 7 pf pg).2.2.1)), .int ((ql_X5_readPlan n f mm 9 0 0 8 0 7 pf pg).2.2.2.2.1), .ref k, .ref z])), (k, .inl (Z.2 0, 8, .inl ((ql_X5_readPlan n f mm 9 0 0 8 0 7 pf pg).2.2.2.2.2.2.1))), (z, .inl (Z.2 0, 8, .inl ((ql_X5_readPlan n f mm 9 0 0 8 0 7 pf pg).2.2.2.2.2.2.2)))] := hD
    have hP9 := hP.sub (ws' := [(h0, .inr (5, [.int (nI n), .int (nI ((ql_X5_readPlan n f mm 9 0 0 8 0 7 pf pg).2.1)), .ref tk])), (tk, .inl (Z.2 1, 80, .inl f)), (h1, .inr (2, [.int (nI ((ql_X5_readPlan n f mm 9 0 0 8 0 7 pf pg).2.2.1)), .int ((ql_X5_readPlan n f mm 9 0 0 8 0 7 pf pg).2.2.2.2.1), .ref k, .ref z])), (k, .inl (Z.2 0, 8, .inl ((ql_X5_readPlan n f mm 9 0 0 8 0 7 pf pg).2.2.2.2.2.2.1))), (z, .inl (Z.2 0, 8, .inl ((ql_X5_readPlan n f mm 9 0 0 8 0 7 pf pg).2.2.2.2.2.2.2)))]) [0, 1, 2, 3, 4] rfl
    have hD9 := hD.sub (ws' := [(h0, .inr (5, [.int (nI n), .int (nI ((ql_X5_readPlan n f mm 9 0 0 8 0 7 pf pg).2.1)), .ref tk])), (tk, .inl (Z.2 1, 80, .inl f)), (h1, .inr (2, [.int (nI ((ql_X5_readPlan n f mm 9 0 0 8 0 7 pf pg).2.2.1)), .int ((ql_X5_readPlan n f mm 9 0 0 8 0 7 pf pg).2.2.2.2.1), .ref k, .ref z])), (k, .inl (Z.2 0, 8, .inl ((ql_X5_readPlan n f mm 9 0 0 8 0 7 pf pg).2.2.2.2.2.2.1))), (z, .inl (Z.2 0, 8, .inl ((ql_X5_readPlan n f mm 9 0 0 8 0 7 pf pg).2.2.2.2.2.2.2)))]) [0, 1, 2, 3, 4] (by decide +kernel) rfl
    exact W.iret (v := ((-20) - (nI ((ql_X5_readPlan n f mm 9 0 0 8 0 7 pf pg).2.1)))) hx hb hr (fun t9 ht hW => ⟨⟨(-20) - (nI ((ql_X5_readPlan n f mm 9 0 0 8 0 7 pf pg).2.1)), (((ql_X5_readPlan n f mm 9 0 0 8 0 7 pf pg).2.1), ((ql_X5_readPlan n f mm 9 0 0 8 0 7 pf pg).2.2.1), (ql_X5_readPlan n f mm 9 0 0 8 0 7 pf pg).2.2.2.2.1, (ql_X5_readPlan n f mm 9 0 0 8 0 7 pf pg).2.2.2.2.2.2.1, (ql_X5_readPlan n f mm 9 0 0 8 0 7 pf pg).2.2.2.2.2.2.2), rfl, ⟨(by unfold q_X5_readPlan_r; rw [if_neg hT9_1_t0, if_neg hT9_1_t1, if_neg hT9_1_t2]), (by unfold q_X5_readPlan_p1; rw [if_neg hT9_1_t0, if_neg hT9_1_t1, if_neg hT9_1_t2]), (by unfold q_X5_readPlan_q1; rw [if_neg hT9_1_t0, if_neg hT9_1_t1, if_neg hT9_1_t2]), (by unfold q_X5_readPlan_en1; rw [if_neg hT9_1_t0, if_neg hT9_1_t1, if_neg hT9_1_t2]), (by unfold q_X5_readPlan_pf1; rw [if_neg hT9_1_t0, if_neg hT9_1_t1, if_neg hT9_1_t2]), (by unfold q_X5_readPlan_pg1; rw [if_neg hT9_1_t0, if_neg hT9_1_t1, if_neg hT9_1_t2]), ⟨he.1.1, he.1.2, he.2⟩⟩, by rw [ht]; exact hP9, hD9⟩, hS.F ht⟩) hS.2.2 dX5_readPlan_141
