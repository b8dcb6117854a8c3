def zcat : List va_W → va_W
  | [] => []
  | [g] => g
  | g :: h :: gs => g ++ zcat (h :: gs)
theorem zcat_flat : ∀ gs : List va_W, zcat gs = gs.flatten
  | [] => rfl
  | [g] => by simp [zcat]
  | g :: h :: gs => by
    show g ++ zcat (h :: gs) = _
    rw [zcat_flat (h :: gs)]
    rfl
theorem zcat_perm {gs gs' : List va_W} (h : gs.Perm gs') : (zcat gs).Perm (zcat gs') := by
  rw [zcat_flat, zcat_flat]
  exact h.flatten
theorem zcat_app (a b : List va_W) : zcat (a ++ b) = zcat a ++ zcat b := by
  rw [zcat_flat, zcat_flat, zcat_flat, List.flatten_append]
/-- of the groups gs those of isC, then those of isR: in all the same -/
theorem z_split {gs gc gr : List va_W} (isC isR : List Nat) (h : (isC ++ isR).isPerm (List.range gs.length) = true) (hc : isC.map (fun i => gs.getD i []) = gc) (hr : isR.map (fun i => gs.getD i []) = gr) : (zcat gc ++ zcat gr).Perm (zcat gs) := by
  subst hc hr
  rw [← zcat_app, ← List.map_append]
  refine zcat_perm ?_
  have h1 := (List.isPerm_iff.mp h).map (fun i => gs.getD i [])
  have h2 : (List.range gs.length).map (fun i => gs.getD i []) = gs := by
    apply List.ext_getElem?
    intro i
    rw [List.getElem?_map]
    rcases Nat.lt_or_ge i gs.length with q | q
    · rw [List.getElem?_range q]
      simp [List.getD, q]
    · rw [List.getElem?_eq_none (by simpa using q), List.getElem?_eq_none q]
      rfl
  rw [h2] at h1
  exact h1
theorem z_splitN {gs gc gr : List va_W} (N : Nat) (isC isR : List Nat) (hN : gs.length = N) (h : (isC ++ isR).isPerm (List.range N) = true) (hc : isC.map (fun i => gs.getD i []) = gc) (hr : isR.map (fun i => gs.getD i []) = gr) : (zcat gc ++ zcat gr).Perm (zcat gs) := z_split isC isR (by rw [hN]; exact h) hc hr
theorem z_Pp {D : va_G} {cl : List vw_C} {ws ws' : va_W} {H : Heap} (h : ws.Perm ws') (hP : va_P D cl ws H) : va_P D cl ws' H := fun k q hk => by
  obtain ⟨j, hj⟩ := List.getElem?_of_mem (h.mem_iff.mpr (List.mem_of_getElem? hk))
  exact hP j q hj
theorem z_Dc {A : Nat → Prop} {x : Nat × va_E} {ws : va_W} : va_D A (x :: ws) ↔ A x.1 ∧ (∀ y, y ∈ ws → ¬ y.1 = x.1) ∧ va_D A ws := by
  constructor
  · intro h
    refine ⟨h.2 0 x rfl, fun y hy e => ?_, ⟨fun i j p q hi hj e => ?_, fun k q hk => h.2 (k + 1) q (by rw [List.getElem?_cons_succ]; exact hk)⟩⟩
    · obtain ⟨k, hk⟩ := List.getElem?_of_mem hy
      have h1 := h.1 (k + 1) 0 y x (by rw [List.getElem?_cons_succ]; exact hk) rfl e
      omega
    · have h1 := h.1 (i + 1) (j + 1) p q (by rw [List.getElem?_cons_succ]; exact hi) (by rw [List.getElem?_cons_succ]; exact hj) e
      omega
  · rintro ⟨h1, h2, h3⟩
    refine ⟨fun i j p q hi hj e => ?_, fun k q hk => ?_⟩
    · cases i with
      | zero =>
        have e1 : x = p := Option.some.inj hi
        cases j with
        | zero => rfl
        | succ j =>
          rw [List.getElem?_cons_succ] at hj
          exact absurd (by rw [e1]; exact e.symm) (h2 q (List.mem_of_getElem? hj))
      | succ i =>
        rw [List.getElem?_cons_succ] at hi
        cases j with
        | zero =>
          have e1 : x = q := Option.some.inj hj
          exact absurd (by rw [e1]; exact e) (h2 p (List.mem_of_getElem? hi))
        | succ j =>
          rw [List.getElem?_cons_succ] at hj
          rw [h3.1 i j p q hi hj e]
    · cases k with
      | zero =>
        have e1 : x = q := Option.some.inj hk
        rw [← e1]; exact h1
      | succ k =>
        rw [List.getElem?_cons_succ] at hk
        exact h3.2 k q hk
theorem z_Dp {A : Nat → Prop} {ws ws' : va_W} (h : ws.Perm ws') : va_D A ws → va_D A ws' := by
  induction h with
  | nil => exact id
  | cons x h ih =>
    intro hd
    have hd := z_Dc.mp hd
    exact z_Dc.mpr ⟨hd.1, fun y hy => hd.2.1 y (h.mem_iff.mpr hy), ih hd.2.2⟩
  | swap x y l =>
    intro hd
    have hd := z_Dc.mp hd
    have hd2 := z_Dc.mp hd.2.2
    refine z_Dc.mpr ⟨hd2.1, fun z hz => ?_, z_Dc.mpr ⟨hd.1, fun z hz => hd.2.1 z (List.mem_cons_of_mem _ hz), hd2.2.2⟩⟩
    rcases List.mem_cons.mp hz with e | hz
    · rw [e]; exact fun k => hd.2.1 x List.mem_cons_self k.symm
    · exact hd2.2.1 z hz
  | trans _ _ ih1 ih2 => exact fun hd => ih2 (ih1 hd)
theorem z_Asub {cs rs full : va_W} (hp : (cs ++ rs).Perm full) {sz q : Nat} (h : va_A cs sz q) : va_A full sz q := by
  rcases h with ⟨k, e, h⟩ | h
  · obtain ⟨j, hj⟩ := List.getElem?_of_mem (hp.mem_iff.mp (List.mem_append_left rs (List.mem_of_getElem? h)))
    exact Or.inl ⟨j, e, hj⟩
  · exact Or.inr h
/-- behind a call that had the part cs: what the callee left beside the rest -/
theorem z_joinF {A0 : Nat → Prop} {D : va_G} {cl : List vw_C} {cs rs c1 full : va_W} {H H1 : Heap} (hp : (cs ++ rs).Perm full) (hP : va_P D cl full H) (hD : va_D A0 full) (hk : ∀ q : Nat, q < H.size → ¬ va_A cs H.size q → H1[q]? = H[q]?) (hF : ∀ q, va_A cs H.size q → A0 q) (hP1 : va_P D cl c1 H1) (hD1 : va_D (va_A cs H.size) c1) : va_P D cl (rs ++ c1) H1 ∧ va_D A0 (rs ++ c1) := by
  have hPs := z_Pp hp.symm hP
  have hDs := z_Dp hp.symm hD
  have sh : ∀ (k : Nat) (q : Nat × va_E), rs[k]? = some q → (cs ++ rs)[cs.length + k]? = some q := by
    intro k q hq
    rw [List.getElem?_append_right (by omega), Nat.add_sub_cancel_left]
    exact hq
  have apart : ∀ (k : Nat) (q : Nat × va_E), rs[k]? = some q → q.1 < H.size ∧ ¬ va_A cs H.size q.1 := by
    intro k q hq
    have h2 := sh k q hq
    have hl := (hPs _ q h2).lt
    refine ⟨hl, fun h => ?_⟩
    rcases h with ⟨k2, e, h⟩ | h
    · have hlt := (List.getElem?_eq_some_iff.mp h).1
      have h3 : (cs ++ rs)[k2]? = some (q.1, e) := by rw [List.getElem?_append_left hlt]; exact h
      have h4 := hDs.1 _ _ q (q.1, e) h2 h3 rfl
      omega
    · omega
  have hDr : va_D A0 rs := ⟨fun i j p q hi hj e => by have h1 := hDs.1 _ _ p q (sh i p hi) (sh j q hj) e; omega, fun k q hq => hDs.2 _ q (sh k q hq)⟩
  refine ⟨va_P.app (fun k q hq => ?_) hP1, va_D.app hDr (hD1.weaken (fun k q _ h => hF q.1 h)) (fun i j x y hx hy hxy => ?_)⟩
  · obtain ⟨g1, g2⟩ := apart k q hq
    exact (hPs _ q (sh k q hq)).kept (hk q.1 g1 g2)
  · exact (apart i x hx).2 (by rw [hxy]; exact hD1.2 j y hy)
/-- the frame rule of a contract that answers a number -/
theorem z_frI {l : Launch} {y : MethodName} {ws : List Cond} {rm : Room} {mc ms : Nat} {D : va_G} {cl : List vw_C} {S : Type} {av : List Value} {cs rs full : va_W} {sz : Nat} {X Xf : State → Prop} {post : Int32 → S → Prop} {B : S → State → Prop} {post' : Int32 → va_W → Prop} (hp : (cs ++ rs).Perm full)
    (h : Met l y ws rm (va_Pc av (fun U => U.heap.size = sz ∧ va_P D cl cs U.heap ∧ X U)) (va_Qi post B (va_A cs sz)) mc ms (va_A cs sz)) (hX : ∀ U, va_D (fun _ => True) cs → Xf U → X U) (hXD : ∀ U, Xf U → va_D (fun _ => True) full)
    (hq : ∀ (r : Int32) (u : S) (t9 : State), post r u → B u t9 → ∃ c1 w9 X9, va_P D cl c1 t9.heap ∧ va_D (va_A cs sz) c1 ∧ (rs ++ c1).Perm (w9 ++ X9) ∧ post' r w9) :
    Met l y ws rm (va_Pc av (fun U => U.heap.size = sz ∧ va_P D cl full U.heap ∧ Xf U)) (va_Qi post' (fun w t9 => va_P D cl w t9.heap ∧ va_D (va_A full sz) w) (va_A full sz)) mc ms (va_A full sz) := by
  intro p e ha hc hk s m args below hfr happ hPc hKK
  obtain ⟨hav, hsz, hPf, hXf⟩ := hPc
  have hDf := hXD s hXf
  obtain ⟨n, o, h1, h2, h3, ⟨⟨r, u, ho, hpo, hB⟩, hF⟩, L, hFE, hL⟩ := h p e ha hc hk s m args below hfr happ ⟨hav, hsz, z_P0 (z_Pp hp.symm hPf), hX s (z_D0 (z_Dp hp.symm hDf)) hXf⟩ hKK
  obtain ⟨c1, w9, X9, hP1, hD1, hw9, hpost⟩ := hq r u _ hpo hB
  subst hsz
  have hj := z_joinF (A0 := va_A full s.heap.size) hp hPf hDf.self hF.2 (fun q hq => z_Asub hp hq) hP1 hD1
  exact ⟨n, o, h1, h2, h3, ⟨⟨r, w9, ho, hpost, z_P0 (z_Pp hw9 hj.1), z_D0 (z_Dp hw9 hj.2)⟩, hF.1, fun q g1 g2 => hF.2 q g1 (fun k => g2 (z_Asub hp k))⟩, L, hFE, fun q hq => z_Asub hp (hL q hq)⟩
/-- the frame rule of a contract that answers a number -/
theorem z_frL {l : Launch} {y : MethodName} {ws : List Cond} {rm : Room} {mc ms : Nat} {D : va_G} {cl : List vw_C} {S : Type} {av : List Value} {cs rs full : va_W} {sz : Nat} {X Xf : State → Prop} {post : Int64 → S → Prop} {B : S → State → Prop} {post' : Int64 → va_W → Prop} (hp : (cs ++ rs).Perm full)
    (h : Met l y ws rm (va_Pc av (fun U => U.heap.size = sz ∧ va_P D cl cs U.heap ∧ X U)) (va_Ql post B (va_A cs sz)) mc ms (va_A cs sz)) (hX : ∀ U, va_D (fun _ => True) cs → Xf U → X U) (hXD : ∀ U, Xf U → va_D (fun _ => True) full)
    (hq : ∀ (r : Int64) (u : S) (t9 : State), post r u → B u t9 → ∃ c1 w9 X9, va_P D cl c1 t9.heap ∧ va_D (va_A cs sz) c1 ∧ (rs ++ c1).Perm (w9 ++ X9) ∧ post' r w9) :
    Met l y ws rm (va_Pc av (fun U => U.heap.size = sz ∧ va_P D cl full U.heap ∧ Xf U)) (va_Ql post' (fun w t9 => va_P D cl w t9.heap ∧ va_D (va_A full sz) w) (va_A full sz)) mc ms (va_A full sz) := by
  intro p e ha hc hk s m args below hfr happ hPc hKK
  obtain ⟨hav, hsz, hPf, hXf⟩ := hPc
  have hDf := hXD s hXf
  obtain ⟨n, o, h1, h2, h3, ⟨⟨r, u, ho, hpo, hB⟩, hF⟩, L, hFE, hL⟩ := h p e ha hc hk s m args below hfr happ ⟨hav, hsz, z_P0 (z_Pp hp.symm hPf), hX s (z_D0 (z_Dp hp.symm hDf)) hXf⟩ hKK
  obtain ⟨c1, w9, X9, hP1, hD1, hw9, hpost⟩ := hq r u _ hpo hB
  subst hsz
  have hj := z_joinF (A0 := va_A full s.heap.size) hp hPf hDf.self hF.2 (fun q hq => z_Asub hp hq) hP1 hD1
  exact ⟨n, o, h1, h2, h3, ⟨⟨r, w9, ho, hpost, z_P0 (z_Pp hw9 hj.1), z_D0 (z_Dp hw9 hj.2)⟩, hF.1, fun q g1 g2 => hF.2 q g1 (fun k => g2 (z_Asub hp k))⟩, L, hFE, fun q hq => z_Asub hp (hL q hq)⟩
