/-! MACHINE: a contract over a larger world -/
section FRAME
variable {E : xE} {y : xM} {R : Room} {As : List Value}
theorem SpP.frame {Mc Rest M : va_W} {O' O : xO → Prop} (h : SpP E y R As Mc O') (hp : M.Perm (Mc ++ Rest)) (hr : ∀ v M', O' (.inl (v, M')) → ∃ M2, (M' ++ Rest).Perm M2 ∧ O (.inl (v, M2))) (hx : ∀ X M', O' (.inr (X, M')) → ∃ M2, (M' ++ Rest).Perm M2 ∧ O (.inr (X, M2))) : SpP E y R As M O := by
  intro l sz hl
  have hAM : ∀ q, va_A Mc sz q → va_A M sz q := by
    rintro q (⟨k, e, hk⟩ | hq)
    · have hm : (q, e) ∈ M := hp.mem_iff.mpr (List.mem_append_left _ (List.mem_of_getElem? hk))
      obtain ⟨i, hi⟩ := List.getElem?_of_mem hm
      exact Or.inl ⟨i, e, hi⟩
    · exact Or.inr hq
  refine MetFree.mono (h l sz hl) (fun a s q => ?_) (fun _ _ _ _ _ q => q) (fun a s o t hpre hq => ?_)
  · obtain ⟨q0, q1, qP, qK, qD, qG⟩ := q
    exact ⟨q0, q1, qP.perm (fun z hz => hp.mem_iff.mpr (List.mem_append_left _ hz)), qK, (qD.perm hp).subl (List.sublist_append_left _ _), qG.narrow hAM⟩
  · obtain ⟨q0, q1, qP, qK, qD, qG⟩ := hpre
    subst q1
    have hP' : va_P E.1 vwCl (Mc ++ Rest) s.heap := qP.perm (fun z hz => hp.mem_iff.mpr hz)
    have hD' : va_D (va_A M s.heap.size) (Mc ++ Rest) := (qD.self (sz := s.heap.size)).perm hp
    have hF' : va_F (va_A Mc s.heap.size) s t → va_F (va_A M s.heap.size) s t := fun hF => ⟨hF.1, fun q g1 g2 => hF.2 q g1 (fun w => g2 (hAM q w))⟩
    rcases hq with ⟨⟨v, M', ho, hoc, hP1, hD1, hF⟩, L, hL, hb⟩ | ⟨q, ho, X, ce, L, ⟨M', hX, hP1, hD1, hF⟩, r1, r2, r3, r4, r5, r6⟩
    · obtain ⟨M2, hm2, ho2⟩ := hr v M' ho
      obtain ⟨j1, j2⟩ := x_join2 hP' hD' (fun q g1 g2 => hF.2 q g1 g2) hAM hP1 hD1
      exact Or.inl ⟨⟨v, M2, ho2, hoc, j1.perm (fun z hz => hm2.mem_iff.mpr hz), j2.perm hm2, hF' hF⟩, L, hL, fun q hq => hAM _ (hb q hq)⟩
    · obtain ⟨M2, hm2, ho2⟩ := hx X M' hX
      obtain ⟨j1, j2⟩ := x_join2 hP' hD' (fun q g1 g2 => hF.2 q g1 g2) hAM hP1 hD1
      exact Or.inr ⟨q, ho, X, ce, L, ⟨M2, ho2, j1.perm (fun z hz => hm2.mem_iff.mpr hz), j2.perm hm2, hF' hF⟩, r1, r2, r3, r4, r5, fun z hz => hAM _ (r6 z hz)⟩
/-- houses behind a world -/
theorem perm_hx {X A B H : va_W} (h : X.Perm (A ++ B)) : (X ++ H).Perm ((A ++ H) ++ B) := by
  refine (h.append_right H).trans ?_
  rw [List.append_assoc, List.append_assoc]
  exact List.Perm.append_left A List.perm_append_comm
theorem perm_hr {X A B H : va_W} (h : X.Perm (A ++ B)) : (X ++ H).Perm (A ++ (B ++ H)) := by
  rw [← List.append_assoc]
  exact h.append_right H
end FRAME
/-! the class's world -/
def WXc (E : xE) (hx : Nat) (q : Nat → Nat) (s : Nat → Int32) (f : Nat → Nat → Int32) (t v1 : Nat → Int32) (f1 : Nat → Nat → Int32) (t1 v2 : Nat → Int32) (f2 : Nat → Nat → Int32) (t2 : Nat → Int32) (hc hf ol sl cm dp tl z ps kd st en : Int32) (ob fs ss vs sa ti tb : Nat → Int32) (P : Nat → Option xHO) (S : xSl) : va_W :=
  (hx, .inr (11, [.ref (q 0), .ref (q 14), .ref (q 28), .ref (q 42), .ref (q 45), .ref (q 47), .ref (q 48), .ref (q 49), .ref (q 53), .ref (q 56)])) :: (q 28, .inr (3, [.int (v2 0), .int (v2 1), .int (v2 8), .int (v2 12), .int (v2 13), .ref (q 29), .ref (q 30), .ref (q 35), .ref (q 41)])) :: (q 29, .inr (0, [.int (v2 2), .int (v2 3), .int (v2 4), .int (v2 5)])) :: (q 30, .inr (1, [.int (v2 6), .ref (q 31), .ref (q 32), .ref (q 33), .ref (q 34)])) :: (q 31, .inl (E.2.1.1, 4, .inl (f2 0))) :: (q 32, .inl (E.2.1.1, 4, .inl (f2 1))) :: (q 33, .inl (E.2.1.1, 4, .inl (f2 2))) :: (q 34, .inl (E.2.1.1, 4, .inl (f2 3))) :: (q 35, .inr (5, [.int (v2 7), .int (v2 9), .int (v2 10), .int (v2 11), .ref (q 36), .ref (q 37), .ref (q 38), .ref (q 39), .ref (q 40)])) :: (q 37, .inl (E.2.1.1, 20, .inl (f2 5))) :: (q 38, .inl (E.2.1.1, 20, .inl (f2 6))) :: (q 39, .inl (E.2.1.1, 20, .inl (f2 7))) :: (q 36, .inl (E.2.1.1, 20, .inl (f2 4))) :: (q 40, .inl (E.2.1.1, 20, .inl (f2 8))) :: (q 41, .inl (E.2.1.1, 4, .inl t2)) :: (q 14, .inr (3, [.int (v1 0), .int (v1 1), .int (v1 8), .int (v1 12), .int (v1 13), .ref (q 15), .ref (q 16), .ref (q 21), .ref (q 27)])) :: (q 15, .inr (0, [.int (v1 2), .int (v1 3), .int (v1 4), .int (v1 5)])) :: (q 16, .inr (1, [.int (v1 6), .ref (q 17), .ref (q 18), .ref (q 19), .ref (q 20)])) :: (q 17, .inl (E.2.1.1, 4, .inl (f1 0))) :: (q 18, .inl (E.2.1.1, 4, .inl (f1 1))) :: (q 19, .inl (E.2.1.1, 4, .inl (f1 2))) :: (q 20, .inl (E.2.1.1, 4, .inl (f1 3))) :: (q 21, .inr (5, [.int (v1 7), .int (v1 9), .int (v1 10), .int (v1 11), .ref (q 22), .ref (q 23), .ref (q 24), .ref (q 25), .ref (q 26)])) :: (q 23, .inl (E.2.1.1, 20, .inl (f1 5))) :: (q 24, .inl (E.2.1.1, 20, .inl (f1 6))) :: (q 25, .inl (E.2.1.1, 20, .inl (f1 7))) :: (q 22, .inl (E.2.1.1, 20, .inl (f1 4))) :: (q 26, .inl (E.2.1.1, 20, .inl (f1 8))) :: (q 27, .inl (E.2.1.1, 4, .inl t1)) :: (q 42, .inr (2, [.int hc, .int hf, .ref (q 43), .ref (q 44), .ref (q 58)])) :: (q 58, .inl (E.2.1.2.2.1, 2, .inl (hFS S))) :: (q 43, .inl (E.2.1.2.2.2, 8, .inr (.inr (.inr (.inr (hA P)))))) :: (q 44, .inl (E.2.1.2.2.2, 2, .inr (.inr (.inr (.inr (hAS S)))))) :: (q 0, .inr (3, [.int (s 0), .int (s 1), .int (s 8), .int (s 12), .int (s 13), .ref (q 1), .ref (q 2), .ref (q 7), .ref (q 13)])) :: (q 1, .inr (0, [.int (s 2), .int (s 3), .int (s 4), .int (s 5)])) :: (q 2, .inr (1, [.int (s 6), .ref (q 3), .ref (q 4), .ref (q 5), .ref (q 6)])) :: (q 3, .inl (E.2.1.1, 4, .inl (f 0))) :: (q 4, .inl (E.2.1.1, 4, .inl (f 1))) :: (q 5, .inl (E.2.1.1, 4, .inl (f 2))) :: (q 6, .inl (E.2.1.1, 4, .inl (f 3))) :: (q 7, .inr (5, [.int (s 7), .int (s 9), .int (s 10), .int (s 11), .ref (q 8), .ref (q 9), .ref (q 10), .ref (q 11), .ref (q 12)])) :: (q 9, .inl (E.2.1.1, 20, .inl (f 5))) :: (q 10, .inl (E.2.1.1, 20, .inl (f 6))) :: (q 11, .inl (E.2.1.1, 20, .inl (f 7))) :: (q 8, .inl (E.2.1.1, 20, .inl (f 4))) :: (q 12, .inl (E.2.1.1, 20, .inl (f 8))) :: (q 13, .inl (E.2.1.1, 4, .inl t)) :: (q 56, .inr (4, [.int ol, .ref (q 57)])) :: (q 57, .inl (E.2.1.1, 100, .inl ob)) :: (q 49, .inr (6, [.int sl, .ref (q 50), .ref (q 51), .ref (q 52)])) :: (q 51, .inl (E.2.1.1, 40, .inl fs)) :: (q 52, .inl (E.2.1.1, 40, .inl ss)) :: (q 50, .inl (E.2.1.1, 40, .inl vs)) :: (q 53, .inr (7, [.ref (q 47), .ref (q 49), .int cm, .int dp, .ref (q 54), .ref (q 55)])) :: (q 54, .inl (E.2.1.1, 2, .inl sa)) :: (q 55, .inl (E.2.1.1, 2, .inl ti)) :: (q 48, .inr (8, [.ref (q 47), .ref (q 28)])) :: (q 45, .inr (9, [.int tl, .ref (q 46)])) :: (q 46, .inl (E.2.1.1, 800, .inl tb)) :: (q 47, .inr (10, [.int z, .int ps, .ref (q 45), .int kd, .int st, .int en])) :: []
def WX (E : xE) (hx : Nat) (q : Nat → Nat) (s : Nat → Int32) (f : Nat → Nat → Int32) (t v1 : Nat → Int32) (f1 : Nat → Nat → Int32) (t1 v2 : Nat → Int32) (f2 : Nat → Nat → Int32) (t2 : Nat → Int32) (hc hf ol sl cm dp tl z ps kd st en : Int32) (ob fs ss vs sa ti tb : Nat → Int32) (P : Nat → Option xHO) (S : xSl) : va_W := WXc E hx q s f t v1 f1 t1 v2 f2 t2 hc hf ol sl cm dp tl z ps kd st en ob fs ss vs sa ti tb P S ++ hX E P S
theorem WX_cong {E : xE} {hx : Nat} {s s2 : Nat → Int32} {f g : Nat → Nat → Int32} (hs : ∀ j, j < 14 → s j = s2 j) (hf : ∀ r, r < 9 → f r = g r) (q : Nat → Nat) (t v1 : Nat → Int32) (f1 : Nat → Nat → Int32) (t1 v2 : Nat → Int32) (f2 : Nat → Nat → Int32) (t2 : Nat → Int32) (hc h0 ol sl cm dp tl z ps kd st en : Int32) (ob fs ss vs sa ti tb : Nat → Int32) (P : Nat → Option xHO) (S : xSl) : WX E hx q s f t v1 f1 t1 v2 f2 t2 hc h0 ol sl cm dp tl z ps kd st en ob fs ss vs sa ti tb P S = WX E hx q s2 g t v1 f1 t1 v2 f2 t2 hc h0 ol sl cm dp tl z ps kd st en ob fs ss vs sa ti tb P S := by
  unfold WX WXc
  rw [hs 0 (by decide), hs 1 (by decide), hs 2 (by decide), hs 3 (by decide), hs 4 (by decide), hs 5 (by decide), hs 6 (by decide), hs 7 (by decide), hs 8 (by decide), hs 9 (by decide), hs 10 (by decide), hs 11 (by decide), hs 12 (by decide), hs 13 (by decide), hf 0 (by decide), hf 1 (by decide), hf 2 (by decide), hf 3 (by decide), hf 4 (by decide), hf 5 (by decide), hf 6 (by decide), hf 7 (by decide), hf 8 (by decide)]
theorem perm_is {M Mc : va_W} {is js : List Nat} {n : Nat} (hp : (is ++ js).Perm (List.range n)) (hn : M.length = n) (he : is.filterMap (fun i => M[i]?) = Mc) : M.Perm (Mc ++ js.filterMap (fun i => M[i]?)) :=
  (x_pidx (M := M) (M' := Mc ++ js.filterMap (fun i => M[i]?)) hp hn (by rw [List.filterMap_append, he])).symm
/-- the same as filterMap, by another name: so that rfl works both sides out -/
def xsB : List Nat → va_W → va_W
  | [], _ => []
  | i :: t, M => match M[i]? with
    | none => xsB t M
    | some c => c :: xsB t M
theorem xsB_eq (js : List Nat) (M : va_W) : xsB js M = js.filterMap (fun i => M[i]?) := by
  induction js with
  | nil => rfl
  | cons i t ih =>
    rw [List.filterMap_cons, ← ih, xsB]
    cases M[i]? <;> rfl
section OPS
variable {E : xE} {y : xM} {R : Room} {As : List Value} {Mc Mo Mx M2 H : va_W} {K : Nat ⊕ Option Value} {Φ : va_W → Prop} {is js : List Nat} {n : Nat}
theorem SpP.op (h : SpP E y R As Mc (fun z => xOut K Mo = z)) (hp : (is ++ js).Perm (List.range n)) (hn : Mx.length = n) (he : is.filterMap (fun i => Mx[i]?) = Mc) (hn2 : M2.length = n) (he2 : is.filterMap (fun i => M2[i]?) = Mo) (hj : js.filterMap (fun i => M2[i]?) = xsB js Mx) (hΦ : Φ (M2 ++ H)) : SpP E y R As (Mx ++ H) (fun z => ∃ MX', Φ MX' ∧ z = xOut K MX') := by
  have p1 := perm_hr (H := H) (perm_is hp hn he)
  have p2 := perm_hr (H := H) (perm_is hp hn2 he2)
  rw [hj, xsB_eq] at p2
  refine h.frame p1 (fun v M' hv => ⟨M2 ++ H, ?_, M2 ++ H, hΦ, ?_⟩) (fun X M' hv => ⟨M2 ++ H, ?_, M2 ++ H, hΦ, ?_⟩)
  · cases K with
    | inl k => cases hv
    | inr r => cases hv; exact p2.symm
  · cases K with
    | inl k => cases hv
    | inr r => cases hv; rfl
  · cases K with
    | inl k => cases hv; exact p2.symm
    | inr r => cases hv
  · cases K with
    | inl k => cases hv; rfl
    | inr r => cases hv
theorem SpP.opH {P : Nat → Option xHO} {S : xSl} {Ψ : (Nat → Option xHO) → xSl → Prop} {Mo M2 : (Nat → Option xHO) → xSl → va_W} (h : SpP E y R As (Mc ++ hX E P S) (fun z => ∃ P' S', Ψ P' S' ∧ xOut K (Mo P' S' ++ hX E P' S') = z)) (hp : (is ++ js).Perm (List.range n)) (hn : Mx.length = n) (he : is.filterMap (fun i => Mx[i]?) = Mc) (hn2 : ∀ P' S', (M2 P' S').length = n) (he2 : ∀ P' S', is.filterMap (fun i => (M2 P' S')[i]?) = Mo P' S') (hj : ∀ P' S', js.filterMap (fun i => (M2 P' S')[i]?) = xsB js Mx) (hΦ : ∀ P' S', Ψ P' S' → Φ (M2 P' S' ++ hX E P' S')) : SpP E y R As (Mx ++ hX E P S) (fun z => ∃ MX', Φ MX' ∧ z = xOut K MX') := by
  have p1 := perm_hx (H := hX E P S) (perm_is hp hn he)
  have p2 : ∀ P' S', (M2 P' S' ++ hX E P' S').Perm ((Mo P' S' ++ hX E P' S') ++ js.filterMap (fun i => Mx[i]?)) := fun P' S' => by
    have := perm_hx (H := hX E P' S') (perm_is hp (hn2 P' S') (he2 P' S'))
    rw [hj, xsB_eq] at this
    exact this
  refine h.frame p1 (fun v M' hv => ?_) (fun X M' hv => ?_)
  · obtain ⟨P', S', hψ, hv⟩ := hv
    cases K with
    | inl k => cases hv
    | inr r => cases hv; exact ⟨_, (p2 P' S').symm, _, hΦ P' S' hψ, rfl⟩
  · obtain ⟨P', S', hψ, hv⟩ := hv
    cases K with
    | inl k => cases hv; exact ⟨_, (p2 P' S').symm, _, hΦ P' S' hψ, rfl⟩
    | inr r => cases hv
end OPS
theorem SpP.out {E : xE} {y : xM} {R : Room} {As : List Value} {M : va_W} {O' O : xO → Prop} (h : SpP E y R As M O') (hr : ∀ z, O' z → O z) : SpP E y R As M O :=
  h.frame (Rest := []) (by rw [List.append_nil]) (fun v M' q => ⟨M', by rw [List.append_nil], hr _ q⟩) (fun X M' q => ⟨M', by rw [List.append_nil], hr _ q⟩)
theorem pDamp_o {nf : Nat} {s : Nat → Int32} {j : Nat} (h1 : j ≠ 1) (h12 : j ≠ 12) : pDamp nf s j = s j := by unfold pDamp; rw [upd_o _ _ h12, upd_o _ _ h1]
/-- the class stands in MX as a house of nf floors, ns sacks, the numbers s; its text; its error code -/
def CI (E : xE) (hx nf ns : Nat) (s : Nat → Int32) (tx : TB) (ec : Int32) (MX : va_W) : Prop := ∃ (q : Nat → Nat) (f : Nat → Nat → Int32) (t v1 : Nat → Int32) (f1 : Nat → Nat → Int32) (t1 v2 : Nat → Int32) (f2 : Nat → Nat → Int32) (t2 : Nat → Int32) (hc hf ol sl cm dp tl z ps kd st en : Int32) (ob fs ss vs sa ti tb : Nat → Int32) (P : Nat → Option xHO) (S : xSl) (past : Nat → Int32) (u fi : Nat), MX = WX E hx q s f t v1 f1 t1 v2 f2 t2 hc hf ol sl cm dp tl z ps kd st en ob fs ss vs sa ti tb P S ∧ RQ nf ns f s ∧ DI v2 ∧ (hc = nI u ∧ hf = nI fi ∧ RPs u fi P past) ∧ (tl = nI tx.1 ∧ tx.1 ≤ 800 ∧ ∀ i, i < tx.1 → tb i = tx.2 i) ∧ z = ec
theorem CI.el {K : Prop} {E : xE} {hx nf ns : Nat} {s : Nat → Int32} {tx : TB} {ec : Int32} {MX : va_W} (h : CI E hx nf ns s tx ec MX) (k : ∀ (q : Nat → Nat) (f : Nat → Nat → Int32) (t v1 : Nat → Int32) (f1 : Nat → Nat → Int32) (t1 v2 : Nat → Int32) (f2 : Nat → Nat → Int32) (t2 : Nat → Int32) (hc hf ol sl cm dp tl z ps kd st en : Int32) (ob fs ss vs sa ti tb : Nat → Int32) (P : Nat → Option xHO) (S : xSl) (past : Nat → Int32) (u fi : Nat), MX = WX E hx q s f t v1 f1 t1 v2 f2 t2 hc hf ol sl cm dp tl z ps kd st en ob fs ss vs sa ti tb P S → RQ nf ns f s → DI v2 → (hc = nI u ∧ hf = nI fi ∧ RPs u fi P past) → (tl = nI tx.1 ∧ tx.1 ≤ 800 ∧ ∀ i, i < tx.1 → tb i = tx.2 i) → z = ec → K) : K := by
  obtain ⟨q, f, t, v1, f1, t1, v2, f2, t2, hc, hf, ol, sl, cm, dp, tl, z, ps, kd, st, en, ob, fs, ss, vs, sa, ti, tb, P, S, past, u, fi, h1, h2, h3, h4, h5, h6⟩ := h
  exact k q f t v1 f1 t1 v2 f2 t2 hc hf ol sl cm dp tl z ps kd st en ob fs ss vs sa ti tb P S past u fi h1 h2 h3 h4 h5 h6
theorem CI.x0 {E : xE} {hx nf ns : Nat} {s : Nat → Int32} {tx : TB} {ec : Int32} {MX : va_W} (h : CI E hx nf ns s tx ec MX) : (∃ vs, MX[0]? = some (hx, .inr (11, vs))) ∧ ∃ f, RQ nf ns f s := by
  refine h.el ?_
  intro q f t v1 f1 t1 v2 f2 t2 hc hf ol sl cm dp tl z ps kd st en ob fs ss vs sa ti tb P S past u fi h1 h2 _ _ _ _
  subst h1
  exact ⟨⟨_, rfl⟩, f, h2⟩
