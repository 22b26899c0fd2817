/-! MACHINE: the worlds of the law: the class, the model, what binds them -/
def WXc (E : xE) (hx : Nat) (q : Nat → Nat) (s : Nat → Int32) (f : Nat → Nat → Int32) (t v1 : Nat → Int32) (f1 : Nat → Nat → Int32) (t1 v2 : Nat → Int32) (f2 : Nat → Nat → Int32) (t2 : Nat → Int32) (hc hf ol sl cm dp tl z ps kd st en : Int32) (ob fs ss vs sa ti tb : Nat → Int32) (P : Nat → Option xHO) (S : xSl) : va_W :=
  (hx, .inr (11, [.ref (q 0), .ref (q 14), .ref (q 28), .ref (q 42), .ref (q 45), .ref (q 47), .ref (q 48), .ref (q 49), .ref (q 53), .ref (q 56)])) :: (q 28, .inr (3, [.int (v2 0), .int (v2 1), .int (v2 8), .int (v2 12), .int (v2 13), .ref (q 29), .ref (q 30), .ref (q 35), .ref (q 41)])) :: (q 29, .inr (0, [.int (v2 2), .int (v2 3), .int (v2 4), .int (v2 5)])) :: (q 30, .inr (1, [.int (v2 6), .ref (q 31), .ref (q 32), .ref (q 33), .ref (q 34)])) :: (q 31, .inl (E.2.1.1, 4, .inl (f2 0))) :: (q 32, .inl (E.2.1.1, 4, .inl (f2 1))) :: (q 33, .inl (E.2.1.1, 4, .inl (f2 2))) :: (q 34, .inl (E.2.1.1, 4, .inl (f2 3))) :: (q 35, .inr (5, [.int (v2 7), .int (v2 9), .int (v2 10), .int (v2 11), .ref (q 36), .ref (q 37), .ref (q 38), .ref (q 39), .ref (q 40)])) :: (q 37, .inl (E.2.1.1, 20, .inl (f2 5))) :: (q 38, .inl (E.2.1.1, 20, .inl (f2 6))) :: (q 39, .inl (E.2.1.1, 20, .inl (f2 7))) :: (q 36, .inl (E.2.1.1, 20, .inl (f2 4))) :: (q 40, .inl (E.2.1.1, 20, .inl (f2 8))) :: (q 41, .inl (E.2.1.1, 4, .inl t2)) :: (q 14, .inr (3, [.int (v1 0), .int (v1 1), .int (v1 8), .int (v1 12), .int (v1 13), .ref (q 15), .ref (q 16), .ref (q 21), .ref (q 27)])) :: (q 15, .inr (0, [.int (v1 2), .int (v1 3), .int (v1 4), .int (v1 5)])) :: (q 16, .inr (1, [.int (v1 6), .ref (q 17), .ref (q 18), .ref (q 19), .ref (q 20)])) :: (q 17, .inl (E.2.1.1, 4, .inl (f1 0))) :: (q 18, .inl (E.2.1.1, 4, .inl (f1 1))) :: (q 19, .inl (E.2.1.1, 4, .inl (f1 2))) :: (q 20, .inl (E.2.1.1, 4, .inl (f1 3))) :: (q 21, .inr (5, [.int (v1 7), .int (v1 9), .int (v1 10), .int (v1 11), .ref (q 22), .ref (q 23), .ref (q 24), .ref (q 25), .ref (q 26)])) :: (q 23, .inl (E.2.1.1, 20, .inl (f1 5))) :: (q 24, .inl (E.2.1.1, 20, .inl (f1 6))) :: (q 25, .inl (E.2.1.1, 20, .inl (f1 7))) :: (q 22, .inl (E.2.1.1, 20, .inl (f1 4))) :: (q 26, .inl (E.2.1.1, 20, .inl (f1 8))) :: (q 27, .inl (E.2.1.1, 4, .inl t1)) :: (q 42, .inr (2, [.int hc, .int hf, .ref (q 43), .ref (q 44), .ref (q 58)])) :: (q 58, .inl (E.2.1.2.2.1, 2, .inl (hFS S))) :: (q 43, .inl (E.2.1.2.2.2, 8, .inr (.inr (.inr (.inr (hA P)))))) :: (q 44, .inl (E.2.1.2.2.2, 2, .inr (.inr (.inr (.inr (hAS S)))))) :: (q 0, .inr (3, [.int (s 0), .int (s 1), .int (s 8), .int (s 12), .int (s 13), .ref (q 1), .ref (q 2), .ref (q 7), .ref (q 13)])) :: (q 1, .inr (0, [.int (s 2), .int (s 3), .int (s 4), .int (s 5)])) :: (q 2, .inr (1, [.int (s 6), .ref (q 3), .ref (q 4), .ref (q 5), .ref (q 6)])) :: (q 3, .inl (E.2.1.1, 4, .inl (f 0))) :: (q 4, .inl (E.2.1.1, 4, .inl (f 1))) :: (q 5, .inl (E.2.1.1, 4, .inl (f 2))) :: (q 6, .inl (E.2.1.1, 4, .inl (f 3))) :: (q 7, .inr (5, [.int (s 7), .int (s 9), .int (s 10), .int (s 11), .ref (q 8), .ref (q 9), .ref (q 10), .ref (q 11), .ref (q 12)])) :: (q 9, .inl (E.2.1.1, 20, .inl (f 5))) :: (q 10, .inl (E.2.1.1, 20, .inl (f 6))) :: (q 11, .inl (E.2.1.1, 20, .inl (f 7))) :: (q 8, .inl (E.2.1.1, 20, .inl (f 4))) :: (q 12, .inl (E.2.1.1, 20, .inl (f 8))) :: (q 13, .inl (E.2.1.1, 4, .inl t)) :: (q 56, .inr (4, [.int ol, .ref (q 57)])) :: (q 57, .inl (E.2.1.1, 100, .inl ob)) :: (q 49, .inr (6, [.int sl, .ref (q 50), .ref (q 51), .ref (q 52)])) :: (q 51, .inl (E.2.1.1, 40, .inl fs)) :: (q 52, .inl (E.2.1.1, 40, .inl ss)) :: (q 50, .inl (E.2.1.1, 40, .inl vs)) :: (q 53, .inr (7, [.ref (q 47), .ref (q 49), .int cm, .int dp, .ref (q 54), .ref (q 55)])) :: (q 54, .inl (E.2.1.1, 2, .inl sa)) :: (q 55, .inl (E.2.1.1, 2, .inl ti)) :: (q 48, .inr (8, [.ref (q 47), .ref (q 28)])) :: (q 45, .inr (9, [.int tl, .ref (q 46)])) :: (q 46, .inl (E.2.1.1, 800, .inl tb)) :: (q 47, .inr (10, [.int z, .int ps, .ref (q 45), .int kd, .int st, .int en])) :: []
def WX (E : xE) (hx : Nat) (q : Nat → Nat) (s : Nat → Int32) (f : Nat → Nat → Int32) (t v1 : Nat → Int32) (f1 : Nat → Nat → Int32) (t1 v2 : Nat → Int32) (f2 : Nat → Nat → Int32) (t2 : Nat → Int32) (hc hf ol sl cm dp tl z ps kd st en : Int32) (ob fs ss vs sa ti tb : Nat → Int32) (P : Nat → Option xHO) (S : xSl) : va_W := WXc E hx q s f t v1 f1 t1 v2 f2 t2 hc hf ol sl cm dp tl z ps kd st en ob fs ss vs sa ti tb P S ++ hX E P S
def WM (E : xE) (hm : Nat) (p : Nat → Nat) (s : Nat → Int32) (e ud bu li at0 bg tk nb bd ba ec ep isd iso ord opn don wm : Int32) (wd : Int64) (again aside buffer isKept opened past slots text warm written : Nat → Int32) : va_W := [(hm, .inr (12, [.ref (p 0), .ref (p 1), .ref (p 2), .ref (p 3), .ref (p 4), .ref (p 5), .int ud, .int e, .ref (p 6), .ref (p 7), .int bu, .int li, .int at0, .int bg, .int tk, .int nb, .int bd, .int ba, .int ec, .int ep, .long wd, .int isd, .int iso, .int ord, .int opn, .int don, .ref (p 8), .ref (p 9), .ref (p 10), .int wm])), (p 9, .inl (E.2.1.1, 4, .inl again)), (p 1, .inl (E.2.1.1, 130, .inl aside)), (p 6, .inl (E.2.1.1, 800, .inl buffer)), (p 5, .inl (E.2.1.2.2.1, 2, .inl isKept)), (p 8, .inl (E.2.1.1, 4, .inl opened)), (p 2, .inl (E.2.1.1, 1040, .inl past)), (p 0, .inl (E.2.1.1, 130, .inl s)), (p 3, .inl (E.2.1.1, 260, .inl slots)), (p 7, .inl (E.2.1.1, 800, .inl text)), (p 4, .inl (E.2.1.1, 4, .inl warm)), (p 10, .inl (E.2.1.1, 100, .inl written))]
theorem WX_cong {E : xE} {hx : Nat} {s s2 : Nat → Int32} {f g : Nat → Nat → Int32} (hs : ∀ j, j < 14 → s j = s2 j) (hf : ∀ r, r < 9 → f r = g r) (q : Nat → Nat) (t v1 : Nat → Int32) (f1 : Nat → Nat → Int32) (t1 v2 : Nat → Int32) (f2 : Nat → Nat → Int32) (t2 : Nat → Int32) (hc h0 ol sl cm dp tl z ps kd st en : Int32) (ob fs ss vs sa ti tb : Nat → Int32) (P : Nat → Option xHO) (S : xSl) : WX E hx q s f t v1 f1 t1 v2 f2 t2 hc h0 ol sl cm dp tl z ps kd st en ob fs ss vs sa ti tb P S = WX E hx q s2 g t v1 f1 t1 v2 f2 t2 hc h0 ol sl cm dp tl z ps kd st en ob fs ss vs sa ti tb P S := by
  unfold WX WXc
  rw [hs 0 (by decide), hs 1 (by decide), hs 2 (by decide), hs 3 (by decide), hs 4 (by decide), hs 5 (by decide), hs 6 (by decide), hs 7 (by decide), hs 8 (by decide), hs 9 (by decide), hs 10 (by decide), hs 11 (by decide), hs 12 (by decide), hs 13 (by decide), hf 0 (by decide), hf 1 (by decide), hf 2 (by decide), hf 3 (by decide), hf 4 (by decide), hf 5 (by decide), hf 6 (by decide), hf 7 (by decide), hf 8 (by decide)]
/-- what binds them -/
def REL (s : Nat → Int32) (f : Nat → Nat → Int32) (v2 : Nat → Int32) (hc hf ol tl z ps : Int32) (ob tb : Nat → Int32) (P : Nat → Option xHO) (S : xSl) (ud bu ec ep wm : Int32) (buffer isKept past slots written : Nat → Int32) : Prop := (∃ nf ns, RQ nf ns f s) ∧ DI v2 ∧ (∃ u fi, hc = nI u ∧ hf = nI fi ∧ ud = nI u ∧ RPs u fi P past) ∧ RSl (hE S) isKept slots ∧ (∃ L, L ≤ 800 ∧ tl = nI L ∧ bu = nI L ∧ ∀ i, i < L → buffer i = tb i) ∧ (∃ a, a ≤ 100 ∧ ol = nI a ∧ wm = nI a ∧ ∀ i, i < a → written i = ob i) ∧ z = ec ∧ ps = ep
def INV (E : xE) (hx hm : Nat) (e : Int32) (MX MM : va_W) : Prop := ∃ (q : Nat → Nat) (s : Nat → Int32) (f : Nat → Nat → Int32) (t v1 : Nat → Int32) (f1 : Nat → Nat → Int32) (t1 v2 : Nat → Int32) (f2 : Nat → Nat → Int32) (t2 : Nat → Int32) (hc hf ol sl cm dp tl z ps kd st en : Int32) (ob fs ss vs sa ti tb : Nat → Int32) (P : Nat → Option xHO) (S : xSl) (p : Nat → Nat) (ud bu li at0 bg tk nb bd ba ec ep isd iso ord opn don wm : Int32) (wd : Int64) (again aside buffer isKept opened past slots text warm written : Nat → Int32), MX = WX E hx q s f t v1 f1 t1 v2 f2 t2 hc hf ol sl cm dp tl z ps kd st en ob fs ss vs sa ti tb P S ∧ MM = WM E hm p s e ud bu li at0 bg tk nb bd ba ec ep isd iso ord opn don wm wd again aside buffer isKept opened past slots text warm written ∧ REL s f v2 hc hf ol tl z ps ob tb P S ud bu ec ep wm buffer isKept past slots written
theorem perm_is {M Mc : va_W} {is js : List Nat} {n : Nat} (hp : (is ++ js).Perm (List.range n)) (hn : M.length = n) (he : is.filterMap (fun i => M[i]?) = Mc) : M.Perm (Mc ++ js.filterMap (fun i => M[i]?)) :=
  (x_pidx (M := M) (M' := Mc ++ js.filterMap (fun i => M[i]?)) hp hn (by rw [List.filterMap_append, he])).symm
/-- the same as filterMap, by another name: so that rfl works both sides out -/
def xsB : List Nat → va_W → va_W
  | [], _ => []
  | i :: t, M => match M[i]? with
    | none => xsB t M
    | some c => c :: xsB t M
theorem xsB_eq (js : List Nat) (M : va_W) : xsB js M = js.filterMap (fun i => M[i]?) := by
  induction js with
  | nil => rfl
  | cons i t ih =>
    rw [List.filterMap_cons, ← ih, xsB]
    cases M[i]? <;> rfl
section OPS
variable {E : xE} {y : xM} {R : Room} {As : List Value} {Mc Mo Mx M2 H : va_W} {K : Nat ⊕ Option Value} {Φ : va_W → Prop} {is js : List Nat} {n : Nat}
theorem SpP.op (h : SpP E y R As Mc (fun z => xOut K Mo = z)) (hp : (is ++ js).Perm (List.range n)) (hn : Mx.length = n) (he : is.filterMap (fun i => Mx[i]?) = Mc) (hn2 : M2.length = n) (he2 : is.filterMap (fun i => M2[i]?) = Mo) (hj : js.filterMap (fun i => M2[i]?) = xsB js Mx) (hΦ : Φ (M2 ++ H)) : SpP E y R As (Mx ++ H) (fun z => ∃ MX', Φ MX' ∧ z = xOut K MX') := by
  have p1 := perm_hr (H := H) (perm_is hp hn he)
  have p2 := perm_hr (H := H) (perm_is hp hn2 he2)
  rw [hj, xsB_eq] at p2
  refine h.frame p1 (fun v M' hv => ⟨M2 ++ H, ?_, M2 ++ H, hΦ, ?_⟩) (fun X M' hv => ⟨M2 ++ H, ?_, M2 ++ H, hΦ, ?_⟩)
  · cases K with
    | inl k => cases hv
    | inr r => cases hv; exact p2.symm
  · cases K with
    | inl k => cases hv
    | inr r => cases hv; rfl
  · cases K with
    | inl k => cases hv; exact p2.symm
    | inr r => cases hv
  · cases K with
    | inl k => cases hv; rfl
    | inr r => cases hv
theorem SpP.opH {P : Nat → Option xHO} {S : xSl} {Ψ : (Nat → Option xHO) → xSl → Prop} {Mo M2 : (Nat → Option xHO) → xSl → va_W} (h : SpP E y R As (Mc ++ hX E P S) (fun z => ∃ P' S', Ψ P' S' ∧ xOut K (Mo P' S' ++ hX E P' S') = z)) (hp : (is ++ js).Perm (List.range n)) (hn : Mx.length = n) (he : is.filterMap (fun i => Mx[i]?) = Mc) (hn2 : ∀ P' S', (M2 P' S').length = n) (he2 : ∀ P' S', is.filterMap (fun i => (M2 P' S')[i]?) = Mo P' S') (hj : ∀ P' S', js.filterMap (fun i => (M2 P' S')[i]?) = xsB js Mx) (hΦ : ∀ P' S', Ψ P' S' → Φ (M2 P' S' ++ hX E P' S')) : SpP E y R As (Mx ++ hX E P S) (fun z => ∃ MX', Φ MX' ∧ z = xOut K MX') := by
  have p1 := perm_hx (H := hX E P S) (perm_is hp hn he)
  have p2 : ∀ P' S', (M2 P' S' ++ hX E P' S').Perm ((Mo P' S' ++ hX E P' S') ++ js.filterMap (fun i => Mx[i]?)) := fun P' S' => by
    have := perm_hx (H := hX E P' S') (perm_is hp (hn2 P' S') (he2 P' S'))
    rw [hj, xsB_eq] at this
    exact this
  refine h.frame p1 (fun v M' hv => ?_) (fun X M' hv => ?_)
  · obtain ⟨P', S', hψ, hv⟩ := hv
    cases K with
    | inl k => cases hv
    | inr r => cases hv; exact ⟨_, (p2 P' S').symm, _, hΦ P' S' hψ, rfl⟩
  · obtain ⟨P', S', hψ, hv⟩ := hv
    cases K with
    | inl k => cases hv; exact ⟨_, (p2 P' S').symm, _, hΦ P' S' hψ, rfl⟩
    | inr r => cases hv
theorem SpP.opM {r : Option Value} (h : SpP E y R As Mc (fun z => (Sum.inl (r, Mo) : xO) = z)) (hp : (is ++ js).Perm (List.range n)) (hn : Mx.length = n) (he : is.filterMap (fun i => Mx[i]?) = Mc) (hn2 : M2.length = n) (he2 : is.filterMap (fun i => M2[i]?) = Mo) (hj : js.filterMap (fun i => M2[i]?) = xsB js Mx) : SpP E y R As Mx (fun z => z = .inl (r, M2)) := by
  have p1 := perm_is hp hn he
  have p2 := perm_is hp hn2 he2
  rw [hj, xsB_eq] at p2
  refine h.frame p1 (fun v M' hv => ⟨M2, ?_, ?_⟩) (fun X M' hv => by cases hv)
  · cases hv; exact p2.symm
  · cases hv; rfl
end OPS
theorem INV.el {C : Prop} {E : xE} {hx hm : Nat} {e : Int32} {MX MM : va_W} (h : INV E hx hm e MX MM) (k : ∀ (q : Nat → Nat) (s : Nat → Int32) (f : Nat → Nat → Int32) (t v1 : Nat → Int32) (f1 : Nat → Nat → Int32) (t1 v2 : Nat → Int32) (f2 : Nat → Nat → Int32) (t2 : Nat → Int32) (hc hf ol sl cm dp tl z ps kd st en : Int32) (ob fs ss vs sa ti tb : Nat → Int32) (P : Nat → Option xHO) (S : xSl) (p : Nat → Nat) (ud bu li at0 bg tk nb bd ba ec ep isd iso ord opn don wm : Int32) (wd : Int64) (again aside buffer isKept opened past slots text warm written : Nat → Int32), MX = WX E hx q s f t v1 f1 t1 v2 f2 t2 hc hf ol sl cm dp tl z ps kd st en ob fs ss vs sa ti tb P S → MM = WM E hm p s e ud bu li at0 bg tk nb bd ba ec ep isd iso ord opn don wm wd again aside buffer isKept opened past slots text warm written → REL s f v2 hc hf ol tl z ps ob tb P S ud bu ec ep wm buffer isKept past slots written → C) : C := by
  obtain ⟨q, s, f, t, v1, f1, t1, v2, f2, t2, hc, hf, ol, sl, cm, dp, tl, z, ps, kd, st, en, ob, fs, ss, vs, sa, ti, tb, P, S, p, ud, bu, li, at0, bg, tk, nb, bd, ba, ec, ep, isd, iso, ord, opn, don, wm, wd, again, aside, buffer, isKept, opened, past, slots, text, warm, written, h1, h2, h3⟩ := h
  exact k _ s f t v1 f1 t1 v2 f2 t2 hc hf ol sl cm dp tl z ps kd st en ob fs ss vs sa ti tb P S p ud bu li at0 bg tk nb bd ba ec ep isd iso ord opn don wm wd again aside buffer isKept opened past slots text warm written h1 h2 h3
theorem INV.x0 {E : xE} {hx hm : Nat} {e : Int32} {MX MM : va_W} (h : INV E hx hm e MX MM) : (∃ vs, MX[0]? = some (hx, .inr (11, vs))) ∧ (∃ vs, MM[0]? = some (hm, .inr (12, vs))) := by
  refine h.el ?_
  intro q s f t v1 f1 t1 v2 f2 t2 hc hf ol sl cm dp tl z ps kd st en ob fs ss vs sa ti tb P S p ud bu li at0 bg tk nb bd ba ec ep isd iso ord opn don wm wd again aside buffer isKept opened past slots text warm written h1 h2 _
  subst h1 h2
  exact ⟨⟨_, rfl⟩, ⟨_, rfl⟩⟩
