/-- a sheet or none -/
def zSlot (Z : gZ) (o : Option Nat) (s : Option (Int32 × Nat)) (sg : Nat → Int64) (w : va_W) : Prop := (o = none ∧ s = none ∧ w = []) ∨ ∃ (qS it : Nat) (ln : Int32) (len : Nat), o = some qS ∧ s = some (ln, len) ∧ len ≤ 24 ∧ w = [(qS, .inr (4, [.int ln, .ref it])), (it, .inl (Z.2 2, len, .inr (.inl sg)))]
def zgF (Z : gZ) (a1 : Nat) (P9 : spF) (w : va_W) : Prop := ∃ (n : Nat) (kn ak : Int32) (fk fq : Nat) (ff fg : Nat → Int32), n ≤ 5 ∧ zFr P9 n kn ak ff fg ∧ w = [(a1, .inr (0, [.int (nI n), .int kn, .int ak, .ref fk, .ref fq])), (fk, .inl (Z.2 0, 5, .inl ff)), (fq, .inl (Z.2 0, 5, .inl fg))]
def zgP (Z : gZ) (a2 : Nat) (L9 : spL) (w : va_W) : Prop := ∃ (pn : Nat) (pe : Int32) (pk pq : Nat) (pf pg : Nat → Int32), pn ≤ 8 ∧ zP pn pf pg ∧ zPr L9 pn pe pf pg ∧ w = [(a2, .inr (2, [.int (nI pn), .int pe, .ref pk, .ref pq])), (pk, .inl (Z.2 0, 8, .inl pf)), (pq, .inl (Z.2 0, 8, .inl pg))]
def zgT (Z : gZ) (a3 : Nat) (tn : Nat) (ts9 : Nat → Int32) (w : va_W) : Prop := ∃ (ta : Int32) (tk : Nat), tn ≤ 80 ∧ zC ts9 ∧ w = [(a3, .inr (5, [.int (nI tn), .int ta, .ref tk])), (tk, .inl (Z.2 1, 80, .inl ts9))]
def zgKF (Z : gZ) (a4 : Nat) (P9 : spF) (w : va_W) : Prop := ∃ (n4 : Nat) (kn4 ak4 : Int32) (kk kq : Nat) (kf kg : Nat → Int32), n4 ≤ 5 ∧ zFr P9 n4 kn4 ak4 kf kg ∧ w = [(a4, .inr (0, [.int (nI n4), .int kn4, .int ak4, .ref kk, .ref kq])), (kk, .inl (Z.2 0, 5, .inl kf)), (kq, .inl (Z.2 0, 5, .inl kg))]
def zgKP (Z : gZ) (a5 : Nat) (L9 : spL) (w : va_W) : Prop := ∃ (p5 : Nat) (e5 : Int32) (lk lq : Nat) (lf lg : Nat → Int32), p5 ≤ 8 ∧ zP p5 lf lg ∧ zPr L9 p5 e5 lf lg ∧ w = [(a5, .inr (2, [.int (nI p5), .int e5, .ref lk, .ref lq])), (lk, .inl (Z.2 0, 8, .inl lf)), (lq, .inl (Z.2 0, 8, .inl lg))]
def zgSH (Z : gZ) (a6 : Nat) (sl : zSL) (im : zIM) (S : Nat → va_W) (w : va_W) : Prop := ∃ (sf : Nat → Option Nat), (∀ t, t < 4 → zSlot Z (sf t) (sl t) (im t) (S t)) ∧ w = [(a6, .inl (Z.2 4, 4, .inr (.inr (.inr (.inr sf)))))]
def zgTF (Z : gZ) (a7 : Nat) (w : va_W) : Prop := ∃ (v7 kn7 ak7 : Int32) (uk uq : Nat) (uf ug : Nat → Int32), w = [(a7, .inr (0, [.int v7, .int kn7, .int ak7, .ref uk, .ref uq])), (uk, .inl (Z.2 0, 5, .inl uf)), (uq, .inl (Z.2 0, 5, .inl ug))]
def zgTP (Z : gZ) (a8 : Nat) (w : va_W) : Prop := ∃ (v8 e8 : Int32) (vk vq : Nat) (vf vg : Nat → Int32), w = [(a8, .inr (2, [.int v8, .int e8, .ref vk, .ref vq])), (vk, .inl (Z.2 0, 8, .inl vf)), (vq, .inl (Z.2 0, 8, .inl vg))]
def zgS (Z : gZ) (a9 : Nat) (w : va_W) : Prop := ∃ (sh : Nat → Int64), w = [(a9, .inl (Z.2 2, 5, .inr (.inl sh)))]
def zgTM (Z : gZ) (a10 : Nat) (P9 : spF) (L9 : spL) (tf : Int32) (EM : va_W) (w : va_W) : Prop := ∃ (mo wy asn : Int32) (mp ms : Nat) (v9 e9 : Int32) (mk mq : Nat) (mf mg : Nat → Int32) (ma : Nat → Option Nat), zRows Z ma 9 0 EM ∧ wnTf P9 L9 tf mo wy ∧ w = [(a10, .inr (6, [.int mo, .int wy, .int asn, .ref mp, .ref ms])), (mp, .inr (2, [.int v9, .int e9, .ref mk, .ref mq])), (mk, .inl (Z.2 0, 8, .inl mf)), (mq, .inl (Z.2 0, 8, .inl mg)), (ms, .inl (Z.2 3, 9, .inr (.inr (.inr (.inr ma)))))]
def zgTN (Z : gZ) (a11 : Nat) (P9 : spF) (tu : Int32) (ET : va_W) (w : va_W) : Prop := ∃ (pd en sr : Nat) (sa pa ea : Nat → Option Nat) (n1 : Nat) (nv nkn nak : Int32) (nk nq : Nat) (nf ng : Nat → Int32) (npr ner : Nat) (npf nef : Nat → Int32), sa 0 = some n1 ∧ pa 0 = some npr ∧ ea 0 = some ner ∧ zTurn Z sa pa ea 5 1 ET ∧ (tu = 0 ∨ tnR 0 P9 npf nef) ∧ w = [(a11, .inr (7, [.ref pd, .ref en, .ref sr])), (pd, .inl (Z.2 5, 6, .inr (.inr (.inr (.inr pa))))), (en, .inl (Z.2 5, 6, .inr (.inr (.inr (.inr ea))))), (sr, .inl (Z.2 3, 6, .inr (.inr (.inr (.inr sa))))), (n1, .inr (0, [.int nv, .int nkn, .int nak, .ref nk, .ref nq])), (nk, .inl (Z.2 0, 5, .inl nf)), (nq, .inl (Z.2 0, 5, .inl ng)), (npr, .inl (Z.2 0, 5, .inl npf)), (ner, .inl (Z.2 0, 5, .inl nef))]
def zgOR (Z : gZ) (a12 : Nat) (EO : va_W) (w : va_W) : Prop := ∃ (lsp fit : Int32) (fi rw : Nat) (wan wap : Int32) (op os : Nat) (fia rwa : Nat → Int32) (v9 e9 : Int32) (mk mq : Nat) (mf mg : Nat → Int32) (oa : Nat → Option Nat), zRows Z oa 7 0 EO ∧ w = [(a12, .inr (1, [.int lsp, .int fit, .ref fi, .ref rw, .int wan, .int wap, .ref op, .ref os])), (fi, .inl (Z.2 0, 6, .inl fia)), (rw, .inl (Z.2 0, 6, .inl rwa)), (op, .inr (2, [.int v9, .int e9, .ref mk, .ref mq])), (mk, .inl (Z.2 0, 8, .inl mf)), (mq, .inl (Z.2 0, 8, .inl mg)), (os, .inl (Z.2 3, 7, .inr (.inr (.inr (.inr oa)))))]
def zgSA (Z : gZ) (a13 : Nat) (EW : va_W) (w : va_W) : Prop := ∃ (rsn : Int32) (fi rw go : Nat) (lng : Int32) (ws : Nat) (fia rwa goa : Nat → Int32) (wa : Nat → Option Nat), zRows Z wa 4 0 EW ∧ w = [(a13, .inr (3, [.int rsn, .ref fi, .ref rw, .ref go, .int lng, .ref ws])), (fi, .inl (Z.2 0, 3, .inl fia)), (rw, .inl (Z.2 0, 3, .inl rwa)), (go, .inl (Z.2 0, 5, .inl goa)), (ws, .inl (Z.2 3, 4, .inr (.inr (.inr (.inr wa)))))]
theorem zgTN_up {Z : gZ} {a11 : Nat} {P P1 : spF} {tu tu1 : Int32} {ET w : va_W} (h : zgTN Z a11 P tu ET w) (k : ∀ pf ef : Nat → Int32, (tu = 0 ∨ tnR 0 P pf ef) → (tu1 = 0 ∨ tnR 0 P1 pf ef)) : zgTN Z a11 P1 tu1 ET w := by
  obtain ⟨pd, en, sr, sa, pa, ea, n1, nv, nkn, nak, nk, nq, nf, ng, npr, ner, npf, nef, hs0, hq0, he0, hET, hTN, e9⟩ := h
  exact ⟨pd, en, sr, sa, pa, ea, n1, nv, nkn, nak, nk, nq, nf, ng, npr, ner, npf, nef, hs0, hq0, he0, hET, k _ _ hTN, e9⟩
theorem zgTM_up {Z : gZ} {a10 : Nat} {P P1 : spF} {L L1 : spL} {tf tf1 : Int32} {EM w : va_W} (h : zgTM Z a10 P L tf EM w) (k : ∀ mo wy : Int32, wnTf P L tf mo wy → wnTf P1 L1 tf1 mo wy) : zgTM Z a10 P1 L1 tf1 EM w := by
  obtain ⟨mo, wy, asn, mp, ms, v9, e9, mk, mq, mf, mg, ma, hEM, hTM, ew⟩ := h
  exact ⟨mo, wy, asn, mp, ms, v9, e9, mk, mq, mf, mg, ma, hEM, k _ _ hTM, ew⟩
/-- all cells of an object of the class between calls -/
def zX (Z : gZ) (x0 tn : Nat) (kp : Int32) (sl : zSL) (im : zIM) (st : spT) (xw : va_W) : Prop := ∃ (a1 a2 a3 a4 a5 a6 a7 a8 a9 a10 a11 a12 a13 : Nat) (tf tu od : Int32) (wF wP wT wKF wKP wSH wTF wTP wS wM EM wN ET wO EO wW EW : va_W) (S : Nat → va_W), zgF Z a1 st.1 wF ∧ zgP Z a2 st.2.1 wP ∧ zgT Z a3 tn st.2.2.1 wT ∧ zgKF Z a4 st.2.2.2.1 wKF ∧ zgKP Z a5 st.2.2.2.2 wKP ∧ zgSH Z a6 sl im S wSH ∧ zgTF Z a7 wTF ∧ zgTP Z a8 wTP ∧ zgS Z a9 wS ∧ zgTM Z a10 st.1 st.2.1 tf EM wM ∧ zgTN Z a11 st.1 tu ET wN ∧ zgOR Z a12 EO wO ∧ zgSA Z a13 EW wW ∧ (zcat [[(x0, .inr (8, [.ref a1, .ref a2, .ref a3, .ref a4, .ref a5, .int kp, .ref a6, .ref a7, .ref a8, .ref a9, .ref a10, .ref a11, .ref a12, .ref a13, .int tf, .int tu, .int od]))], wF, wP, wT, wKF, wKP, wSH, wTF, wTP, wS, wM, EM, wN, ET, wO, EO, wW, EW, S 0, S 1, S 2, S 3]).Perm xw
theorem zX_cell {Z : gZ} {x0 tn : Nat} {kp : Int32} {sl : zSL} {im : zIM} {st : spT} {xw : va_W} (h : zX Z x0 tn kp sl im st xw) : ∃ (k : Nat) (fs : List Value), xw[k]? = some (x0, .inr (8, fs)) := by
  obtain ⟨a1, a2, a3, a4, a5, a6, a7, a8, a9, a10, a11, a12, a13, tf, tu, od, wF, wP, wT, wKF, wKP, wSH, wTF, wTP, wS, wM, EM, wN, ET, wO, EO, wW, EW, S, -, -, -, -, -, -, -, -, -, -, -, -, -, hp⟩ := h
  obtain ⟨k, hk⟩ := List.getElem?_of_mem (hp.mem_iff.mp (show (x0, .inr (8, [.ref a1, .ref a2, .ref a3, .ref a4, .ref a5, .int kp, .ref a6, .ref a7, .ref a8, .ref a9, .ref a10, .ref a11, .ref a12, .ref a13, .int tf, .int tu, .int od])) ∈ zcat [[(x0, .inr (8, [.ref a1, .ref a2, .ref a3, .ref a4, .ref a5, .int kp, .ref a6, .ref a7, .ref a8, .ref a9, .ref a10, .ref a11, .ref a12, .ref a13, .int tf, .int tu, .int od]))], wF, wP, wT, wKF, wKP, wSH, wTF, wTP, wS, wM, EM, wN, ET, wO, EO, wW, EW, S 0, S 1, S 2, S 3] from List.mem_cons_self))
  exact ⟨k, _, hk⟩
theorem zX_el {Z : gZ} {x0 tn : Nat} {kp : Int32} {sl : zSL} {im : zIM} {st : spT} {xw : va_W} {G9 : Prop} (h : zX Z x0 tn kp sl im st xw) (k9 : ∀ (a1 a2 a3 a4 a5 a6 a7 a8 a9 a10 a11 a12 a13 : Nat) (tf tu od : Int32) (wF wP wT wKF wKP wSH wTF wTP wS wM EM wN ET wO EO wW EW : va_W) (S : Nat → va_W), zgF Z a1 st.1 wF → zgP Z a2 st.2.1 wP → zgT Z a3 tn st.2.2.1 wT → zgKF Z a4 st.2.2.2.1 wKF → zgKP Z a5 st.2.2.2.2 wKP → zgSH Z a6 sl im S wSH → zgTF Z a7 wTF → zgTP Z a8 wTP → zgS Z a9 wS → zgTM Z a10 st.1 st.2.1 tf EM wM → zgTN Z a11 st.1 tu ET wN → zgOR Z a12 EO wO → zgSA Z a13 EW wW → (zcat [[(x0, .inr (8, [.ref a1, .ref a2, .ref a3, .ref a4, .ref a5, .int kp, .ref a6, .ref a7, .ref a8, .ref a9, .ref a10, .ref a11, .ref a12, .ref a13, .int tf, .int tu, .int od]))], wF, wP, wT, wKF, wKP, wSH, wTF, wTP, wS, wM, EM, wN, ET, wO, EO, wW, EW, S 0, S 1, S 2, S 3]).Perm xw → G9) : G9 := by
  obtain ⟨a1, a2, a3, a4, a5, a6, a7, a8, a9, a10, a11, a12, a13, tf, tu, od, wF, wP, wT, wKF, wKP, wSH, wTF, wTP, wS, wM, EM, wN, ET, wO, EO, wW, EW, S, gF, gP, gT, gKF, gKP, gSH, gTF, gTP, gS, gTM, gTN, gOR, gSA, hpm⟩ := h
  exact k9 a1 a2 a3 a4 a5 a6 a7 a8 a9 a10 a11 a12 a13 tf tu od wF wP wT wKF wKP wSH wTF wTP wS wM EM wN ET wO EO wW EW S gF gP gT gKF gKP gSH gTF gTP gS gTM gTN gOR gSA hpm
/-- what else holds where a call begins -/
abbrev zG (Z : gZ) (kA vA wA : Nat) (w : va_W) (sz : Nat) (U : State) : Prop := va_K Z.1 vwCl (gT Z) U ∧ va_D (fun _ => True) w ∧ gN Z U ∧ gS kA vA (va_A w sz) U ∧ gW wA (va_A w sz) U
theorem z_Gn {kA vA : Nat} {A B : Nat → Prop} {U : State} (h : gS kA vA A U) (hF : ∀ q, B q → A q) : gS kA vA B U := by
  obtain ⟨h1, h2, h3, h4, h5, h6⟩ := h
  exact ⟨h1.narrow hF, h2.narrow hF, h3.narrow hF, h4.narrow hF, h5.narrow hF, h6⟩
theorem z_Wn {wA : Nat} {A B : Nat → Prop} {U : State} (h : gW wA A U) (hF : ∀ q, B q → A q) : gW wA B U := ⟨h.1.narrow hF, h.2.narrow hF⟩
def zu (S : Nat → va_W) (t : Nat) (X : va_W) (k : Nat) : va_W := if k = t then X else S k
theorem zu_id (S : Nat → va_W) (t : Nat) : zu S t (S t) = S := by
  funext k
  unfold zu
  by_cases e : k = t
  · rw [if_pos e, e]
  · rw [if_neg e]
theorem z_cat2 (G : List va_W) {L : List va_W} {X : va_W} {M : List va_W} (h : L.Perm (X :: M)) : (zcat (G ++ L)).Perm (zcat (G ++ [X, zcat M])) := by
  rw [zcat_app, zcat_app]
  refine List.Perm.append_left _ ((zcat_perm h).trans ?_)
  rw [zcat_flat (X :: M)]
  show (X ++ M.flatten).Perm (X ++ zcat M)
  rw [zcat_flat]
theorem z_cat3 (G : List va_W) {L : List va_W} {X Y : va_W} {M : List va_W} (h : L.Perm (X :: Y :: M)) : (zcat (G ++ L)).Perm (zcat (G ++ [X, Y, zcat M])) := by
  rw [zcat_app, zcat_app]
  refine List.Perm.append_left _ ((zcat_perm h).trans ?_)
  rw [zcat_flat (X :: Y :: M)]
  show (X ++ (Y ++ M.flatten)).Perm (X ++ (Y ++ zcat M))
  rw [zcat_flat]
/-- one of the four sheets ahead of the others -/
theorem z_slot1 (S : Nat → va_W) {t : Nat} (ht : t < 4) : ∃ W9, ∀ (G : List va_W) (X : va_W), (zcat (G ++ [zu S t X 0, zu S t X 1, zu S t X 2, zu S t X 3])).Perm (zcat (G ++ [X, W9])) := by
  rcases (show t = 0 ∨ t = 1 ∨ t = 2 ∨ t = 3 by omega) with rfl | rfl | rfl | rfl
  · refine ⟨zcat [S 1, S 2, S 3], fun G X => z_cat2 G ?_⟩
    show [X, S 1, S 2, S 3].Perm (X :: [S 1, S 2, S 3])
    exact List.Perm.refl _
  · refine ⟨zcat [S 0, S 2, S 3], fun G X => z_cat2 G ?_⟩
    show [S 0, X, S 2, S 3].Perm (X :: [S 0, S 2, S 3])
    exact (List.perm_middle (l₁ := [S 0]) (a := X) (l₂ := [S 2, S 3]))
  · refine ⟨zcat [S 0, S 1, S 3], fun G X => z_cat2 G ?_⟩
    show [S 0, S 1, X, S 3].Perm (X :: [S 0, S 1, S 3])
    exact (List.perm_middle (l₁ := [S 0, S 1]) (a := X) (l₂ := [S 3]))
  · refine ⟨zcat [S 0, S 1, S 2], fun G X => z_cat2 G ?_⟩
    show [S 0, S 1, S 2, X].Perm (X :: [S 0, S 1, S 2])
    exact (List.perm_middle (l₁ := [S 0, S 1, S 2]) (a := X) (l₂ := []))
theorem z_slot2 (S : Nat → va_W) {t v : Nat} (ht : t < 4) (hv : v < 4) (hn : ¬ t = v) : ∃ W9, ∀ (G : List va_W) (X Y : va_W), (zcat (G ++ [zu (zu S t X) v Y 0, zu (zu S t X) v Y 1, zu (zu S t X) v Y 2, zu (zu S t X) v Y 3])).Perm (zcat (G ++ [X, Y, W9])) := by
  rcases (show t = 0 ∨ t = 1 ∨ t = 2 ∨ t = 3 by omega) with rfl | rfl | rfl | rfl <;> rcases (show v = 0 ∨ v = 1 ∨ v = 2 ∨ v = 3 by omega) with rfl | rfl | rfl | rfl
  · exact absurd rfl hn
  · refine ⟨zcat [S 2, S 3], fun G X Y => z_cat3 G ?_⟩
    show [X, Y, S 2, S 3].Perm (X :: Y :: [S 2, S 3])
    exact (List.perm_middle (l₁ := []) (a := X) (l₂ := [Y, S 2, S 3])).trans (List.Perm.cons X (List.perm_middle (l₁ := []) (a := Y) (l₂ := [S 2, S 3])))
  · refine ⟨zcat [S 1, S 3], fun G X Y => z_cat3 G ?_⟩
    show [X, S 1, Y, S 3].Perm (X :: Y :: [S 1, S 3])
    exact (List.perm_middle (l₁ := []) (a := X) (l₂ := [S 1, Y, S 3])).trans (List.Perm.cons X (List.perm_middle (l₁ := [S 1]) (a := Y) (l₂ := [S 3])))
  · refine ⟨zcat [S 1, S 2], fun G X Y => z_cat3 G ?_⟩
    show [X, S 1, S 2, Y].Perm (X :: Y :: [S 1, S 2])
    exact (List.perm_middle (l₁ := []) (a := X) (l₂ := [S 1, S 2, Y])).trans (List.Perm.cons X (List.perm_middle (l₁ := [S 1, S 2]) (a := Y) (l₂ := [])))
  · refine ⟨zcat [S 2, S 3], fun G X Y => z_cat3 G ?_⟩
    show [Y, X, S 2, S 3].Perm (X :: Y :: [S 2, S 3])
    exact (List.perm_middle (l₁ := [Y]) (a := X) (l₂ := [S 2, S 3])).trans (List.Perm.cons X (List.perm_middle (l₁ := []) (a := Y) (l₂ := [S 2, S 3])))
  · exact absurd rfl hn
  · refine ⟨zcat [S 0, S 3], fun G X Y => z_cat3 G ?_⟩
    show [S 0, X, Y, S 3].Perm (X :: Y :: [S 0, S 3])
    exact (List.perm_middle (l₁ := [S 0]) (a := X) (l₂ := [Y, S 3])).trans (List.Perm.cons X (List.perm_middle (l₁ := [S 0]) (a := Y) (l₂ := [S 3])))
  · refine ⟨zcat [S 0, S 2], fun G X Y => z_cat3 G ?_⟩
    show [S 0, X, S 2, Y].Perm (X :: Y :: [S 0, S 2])
    exact (List.perm_middle (l₁ := [S 0]) (a := X) (l₂ := [S 2, Y])).trans (List.Perm.cons X (List.perm_middle (l₁ := [S 0, S 2]) (a := Y) (l₂ := [])))
  · refine ⟨zcat [S 1, S 3], fun G X Y => z_cat3 G ?_⟩
    show [Y, S 1, X, S 3].Perm (X :: Y :: [S 1, S 3])
    exact (List.perm_middle (l₁ := [Y, S 1]) (a := X) (l₂ := [S 3])).trans (List.Perm.cons X (List.perm_middle (l₁ := []) (a := Y) (l₂ := [S 1, S 3])))
  · refine ⟨zcat [S 0, S 3], fun G X Y => z_cat3 G ?_⟩
    show [S 0, Y, X, S 3].Perm (X :: Y :: [S 0, S 3])
    exact (List.perm_middle (l₁ := [S 0, Y]) (a := X) (l₂ := [S 3])).trans (List.Perm.cons X (List.perm_middle (l₁ := [S 0]) (a := Y) (l₂ := [S 3])))
  · exact absurd rfl hn
  · refine ⟨zcat [S 0, S 1], fun G X Y => z_cat3 G ?_⟩
    show [S 0, S 1, X, Y].Perm (X :: Y :: [S 0, S 1])
    exact (List.perm_middle (l₁ := [S 0, S 1]) (a := X) (l₂ := [Y])).trans (List.Perm.cons X (List.perm_middle (l₁ := [S 0, S 1]) (a := Y) (l₂ := [])))
  · refine ⟨zcat [S 1, S 2], fun G X Y => z_cat3 G ?_⟩
    show [Y, S 1, S 2, X].Perm (X :: Y :: [S 1, S 2])
    exact (List.perm_middle (l₁ := [Y, S 1, S 2]) (a := X) (l₂ := [])).trans (List.Perm.cons X (List.perm_middle (l₁ := []) (a := Y) (l₂ := [S 1, S 2])))
  · refine ⟨zcat [S 0, S 2], fun G X Y => z_cat3 G ?_⟩
    show [S 0, Y, S 2, X].Perm (X :: Y :: [S 0, S 2])
    exact (List.perm_middle (l₁ := [S 0, Y, S 2]) (a := X) (l₂ := [])).trans (List.Perm.cons X (List.perm_middle (l₁ := [S 0]) (a := Y) (l₂ := [S 2])))
  · refine ⟨zcat [S 0, S 1], fun G X Y => z_cat3 G ?_⟩
    show [S 0, S 1, Y, X].Perm (X :: Y :: [S 0, S 1])
    exact (List.perm_middle (l₁ := [S 0, S 1, Y]) (a := X) (l₂ := [])).trans (List.Perm.cons X (List.perm_middle (l₁ := [S 0, S 1]) (a := Y) (l₂ := [])))
  · exact absurd rfl hn
