/-! a new load, a draw, a change of the law's house; what an act leaves -/
theorem permT (C T : va_W) (c : Nat × va_E) : List.Perm ((C ++ T) ++ [c]) ((C ++ [c]) ++ T) := by
  simp only [List.append_assoc]
  exact List.Perm.append_left C List.perm_append_comm
theorem permN (C A H : va_W) (c : Nat × va_E) : List.Perm ((C ++ [c]) ++ (A ++ H)) (C ++ (A ++ (c :: H))) := by
  simp only [List.append_assoc]
  refine List.Perm.append_left C ?_
  rw [← List.append_assoc]
  refine (List.perm_append_comm.append_right H).trans ?_
  rw [List.append_assoc]
  exact List.Perm.append_left A (List.Perm.refl _)
def hNew (hv : Nat → Nat → Int32) (q : Nat) (m w : Int32) : Nat → Nat → Int32 := fun b k => if b = q then (if k = 0 then m else if k = 1 then w else 0) else hv b k
theorem hNew_o (hv : Nat → Nat → Int32) {q b : Nat} (m w : Int32) (h : b ≠ q) : hNew hv q m w b = hv b := by funext k; exact if_neg h
theorem hLd_new {LP : List Nat} {q : Nat} (hq : q ∉ LP) (hv : Nat → Nat → Int32) (m w : Int32) : hLd (q :: LP) (hG (hNew hv q m w)) = (q, .inr (12, [.int m, .int w, .int 0, .int 0, .int 0])) :: hLd LP (hG hv) := by
  have h1 : hG (hNew hv q m w) q = [.int m, .int w, .int 0, .int 0, .int 0] := by simp [hNew]
  have h2 : hLd LP (hG (hNew hv q m w)) = hLd LP (hG hv) := by
    unfold hLd va_pl
    refine List.map_congr_left (fun a ha => ?_)
    have : a ≠ q := fun e => hq (e ▸ ha)
    simp only [hG, hNew_o hv m w this]
  show (q, .inr (12, hG (hNew hv q m w) q)) :: hLd LP (hG (hNew hv q m w)) = _
  rw [h1, h2]
theorem LH_new {E : xE} {nf ns ed cap q : Nat} {m w : Int32} {fl sk : Nat → Option Nat} {lim : Nat → Int32} {LP : List Nat} {hv : Nat → Nat → Int32} {s : Nat → Int32} (hH : LH E nf ns ed cap fl sk lim LP hv s) (hq : q ∉ LP) : LH E nf ns ed cap fl sk lim (q :: LP) (hNew hv q m w) s := by
  obtain ⟨h1, hlim, hFl, hSk, hOw, ⟨a1, a2, a3, a4, a5⟩, hns⟩ := hH
  refine ⟨h1, hlim, fun i hi => ?_, fun k hk => ?_, hOw, ⟨a1, a2, a3, fun j hj => ?_, a5⟩, hns⟩
  · rcases hFl i hi with h | ⟨b, h, hb, hr⟩
    · exact Or.inl h
    · have : b ≠ q := fun e => hq (e ▸ hb)
      rw [← hNew_o hv m w this] at hr
      exact Or.inr ⟨b, h, List.mem_cons_of_mem _ hb, hr⟩
  · obtain ⟨b, h, hb, hr⟩ := hSk k hk
    have : b ≠ q := fun e => hq (e ▸ hb)
    rw [← hNew_o hv m w this] at hr
    exact ⟨b, h, List.mem_cons_of_mem _ hb, hr⟩
  · obtain ⟨b, h, hb⟩ := a4 j hj
    exact ⟨b, h, List.mem_cons_of_mem _ hb⟩
theorem LH_lay {E : xE} {nf ns ed cap q i : Nat} {m w : Int32} {fl sk : Nat → Option Nat} {lim : Nat → Int32} {LP : List Nat} {hv : Nat → Nat → Int32} {s : Nat → Int32} (hH : LH E nf ns ed cap fl sk lim LP hv s) (hq : q ∉ LP) (hi : i < nf) (hm : 0 < m) : LH E nf ns ed cap (va_up fl i (some q)) sk lim (q :: LP) (hNew hv q m w) (sLay s i m w) := by
  obtain ⟨h1, hlim, hFl, hSk, ⟨ow, o1, o2⟩, hal, hns⟩ := LH_new (m := m) (w := w) hH hq
  have hLP : (∀ j a, j < nf → fl j = some a → a ≠ q) ∧ (∀ k a, k < ns → sk k = some a → a ≠ q) := by
    obtain ⟨-, -, gFl, gSk, -⟩ := hH
    refine ⟨fun j a hj ha e => ?_, fun k a hk ha e => ?_⟩
    · rcases gFl j hj with ⟨h, -⟩ | ⟨b, h, hb, -⟩
      · rw [ha] at h; cases h
      · rw [ha] at h; cases h; exact hq (e ▸ hb)
    · obtain ⟨b, h, hb, -⟩ := gSk k hk
      rw [ha] at h; cases h; exact hq (e ▸ hb)
  have hn4 := h1.2
  have so : ∀ j, j ≠ 8 → j ≠ 15 + 4 * i → j ≠ 16 + 4 * i → j ≠ 17 + 4 * i → sLay s i m w j = s j := fun j a b c d => sLay_o a b c d
  refine ⟨h1, fun j hj => by rw [so _ (by omega) (by omega) (by omega) (by omega)]; exact hlim j hj, fun j hj => ?_, fun k hk => ?_, ⟨fun b => if b = q then i else ow b, fun j b hj hb => ?_, fun k b hk hb => ?_⟩, hal, hns⟩
  · by_cases e : j = i
    · subst e
      refine Or.inr ⟨q, if_pos rfl, List.mem_cons_self, ?_⟩
      have e1 : sLay s j m w (15 + 4 * j) = m := by unfold sLay; rw [upd_o _ _ (by omega), upd_o _ _ (by omega), upd_o _ _ (by omega), upd_s]
      have e2 : sLay s j m w (16 + 4 * j) = w := by unfold sLay; rw [upd_o _ _ (by omega), upd_o _ _ (by omega), upd_s]
      have e3 : sLay s j m w (17 + 4 * j) = 0 := by unfold sLay; rw [upd_o _ _ (by omega), upd_s]
      rw [e1, e2, e3]
      have n : ∀ k, hNew hv q m w q k = if k = 0 then m else if k = 1 then w else 0 := fun k => if_pos rfl
      exact ⟨hm, n 0, n 1, n 2, n 3, n 4⟩
    · rw [show va_up fl i (some q) j = fl j from if_neg e, so _ (by omega) (by omega) (by omega) (by omega), so _ (by omega) (by omega) (by omega) (by omega), so _ (by omega) (by omega) (by omega) (by omega)]
      exact hFl j hj
  · rw [so _ (by omega) (by omega) (by omega) (by omega), so _ (by omega) (by omega) (by omega) (by omega), so _ (by omega) (by omega) (by omega) (by omega), so _ (by omega) (by omega) (by omega) (by omega), so _ (by omega) (by omega) (by omega) (by omega)]
    exact hSk k hk
  · by_cases e : j = i
    · subst e
      rw [show va_up fl j (some q) j = some q from if_pos rfl] at hb; cases hb; exact if_pos rfl
    · rw [show va_up fl i (some q) j = fl j from if_neg e] at hb
      exact (if_neg (hLP.1 j b hj hb)).trans (o1 j b hj hb)
  · exact (if_neg (hLP.2 k b hk hb)).trans (o2 k b hk hb)
/-- an act's end -/
def ActO (E : xE) (A : Nat → Nat) (nf hx gd : Nat) (lim : Nat → Int32) (tx : TB) (b : Int32) : xO → Prop := fun z => ∃ (ns ed cap : Nat) (m : Int32) (fl sk : Nat → Option Nat) (LP : List Nat) (hv : Nat → Nat → Int32) (s : Nat → Int32) (MX : va_W) (gv : Nat → Int32), LH E nf ns ed cap fl sk lim LP hv s ∧ CI E hx nf ns s tx 0 MX ∧ SUM nf ns s ∧ s 0 ≤ b ∧ z = .inl (some (.int 1), [lwO A s, lwF E A nf fl, lwL E A nf lim, lwS A m ed ns, (gd, .inl (E.2.1.1, 1, .inl gv))] ++ ((alR E ed cap sk ++ MX) ++ hLd LP (hG hv)))
theorem RH_low {nf ns i : Nat} {f : Nat → Nat → Int32} {s : Nat → Int32} (hR : RH nf ns f s) (hi : i < nf) (hw' : lWhy ns s i = 0) : (∃ f2, RH nf (if i = 0 then ns + 1 else ns) f2 (if i = 0 then lLow0 ns s else lLowI s i)) ∧ 0 < s (15 + 4 * i) ∧ (i = 0 → ns < 20) ∧ (0 < i → s (15 + 4 * (i - 1)) = 0) := by
  have hw : pWhy ns f i = 0 := by rw [e_why hR hi]; exact hw'
  obtain ⟨hm, h20⟩ := p_why0 hR.2.1.2 hw
  obtain ⟨ns', f', s1, -, -, h3, -, -, hs1, hn1'⟩ := p_lowL (N := 1000) (Nat.le_refl _) hR hi hm h20
  rw [hs1, hn1'] at h3
  refine ⟨⟨f', h3⟩, by rw [(e_f1 hR hi).2]; exact hm, h20, fun h0 => ?_⟩
  unfold lWhy at hw'
  by_cases c1 : s (15 + 4 * i) = 0
  · rw [if_pos c1] at hw'; exact absurd hw' (by decide)
  · rw [if_neg c1, if_neg (show ¬ i = 0 by omega)] at hw'
    by_cases c2 : s (15 + 4 * (i - 1)) = 0
    · exact c2
    · rw [if_neg c2] at hw'; exact absurd hw' (by decide)
theorem SUM.low {nf ns i : Nat} {s : Nat → Int32} (h : SUM nf ns s) (hn : 1 ≤ nf ∧ nf ≤ 4) (hi : i < nf) (he : 0 < i → s (15 + 4 * (i - 1)) = 0) : SUM nf (if i = 0 then ns + 1 else ns) (if i = 0 then lLow0 ns s else lLowI s i) := by
  by_cases e : i = 0
  · rw [if_pos e, if_pos e]; exact h.low0 hn
  · rw [if_neg e, if_neg e]; exact h.lowI hn.2 (by omega) hi (he (by omega))
theorem lwO_low (A : Nat → Nat) (ns : Nat) (s : Nat → Int32) (i : Nat) : lwO A (if i = 0 then lLow0 ns s else lLowI s i) = lwO A s := by
  by_cases e : i = 0
  · rw [if_pos e]; exact lwO_low0 A s ns
  · rw [if_neg e]; exact lwO_lowI A s (by omega)
section BNEW
variable {E : xE} {y : xM} {R : Room} {mc ms : Nat} {O : xO → Prop} {pc : Nat} {L : xL} {st : List Value} {ck sk : Nat}
theorem Bd.fresh {C Q : va_W} {LP : List Nat} {G : Nat → List Value} {a : Nat} {e : va_E} (q0 : Nat) (hM : C[q0]? = some (a, e)) (k : a ∉ LP → BdP E y R mc ms O pc L st (C ++ (Q ++ hLd LP G)) ck sk) : BdP E y R mc ms O pc L st (C ++ (Q ++ hLd LP G)) ck sk := by
  intro p l e0 s m args below meth c A H locs ls hF hr hx hP hD
  refine k (fun ha => ?_) p l e0 s m args below meth c A H locs ls hF hr hx hP hD
  obtain ⟨j, hj⟩ := List.getElem?_of_mem (List.mem_append_right Q (hLd_mem G ha))
  have h0 : q0 < C.length := (List.getElem?_eq_some_iff.mp hM).1
  have h1 : (C ++ (Q ++ hLd LP G))[q0]? = some (a, e) := by rw [List.getElem?_append_left h0]; exact hM
  have h2 : (C ++ (Q ++ hLd LP G))[C.length + j]? = some (a, .inr (12, G a)) := by rw [List.getElem?_append_right (by omega), Nat.add_sub_cancel_left]; exact hj
  have := hD.1 _ _ _ _ h1 h2 rfl
  omega
theorem Bd.drawC {C T : va_W} {gd mm idx : Nat} {gv : Nat → Int32} {rest : List Value} (hy : y.2.2.2.2 = 13) (hm : 0 < mm) (hm2 : mm < 1000) (hlk : Cond.methodLink (xCn y.2.2.2.2) idx mL_draw.1 ∈ xAll) (hd : decode y.2.1 pc = .ok (.invokestatic idx, 3)) (hR : 1 ≤ R.frames ∧ 60 ≤ R.locals ∧ ck ≤ R.cells ∧ sk ≤ R.slots) (hcat : (rest.map fun v => v.category).sum ≤ 8)
    (kk : ∀ r g2, r < mm → BdP E y R mc ms O (pc + 3) L (.int (nI r) :: rest) (C ++ ((gd, .inl (E.2.1.1, 1, .inl g2)) :: T)) ck sk) : BdP E y R mc ms O pc L (.int (nI mm) :: .ref gd :: rest) (C ++ ((gd, .inl (E.2.1.1, 1, .inl gv)) :: T)) ck sk := by
  refine Bd.perm (M' := [(gd, .inl (E.2.1.1, 1, .inl gv))] ++ (C ++ T)) List.perm_middle ?_
  refine Bd.callSa (As := [.ref gd, .int (nI mm)]) (rest := rest) oL_draw vL_draw nL_draw hlk hd (s_L_draw E gd mm gv hm hm2) ⟨hR.1, Nat.le_trans (by decide +kernel) hR.2.1⟩ rfl hcat ⟨hR.2.2.1, hR.2.2.2⟩ (fun X M h => by obtain ⟨_, _, _, h⟩ := h; cases h) (fun v9 M9 h9 => ?_)
  obtain ⟨r, g2, h1, h9⟩ := h9
  cases h9
  exact Bd.perm (M' := C ++ ((gd, .inl (E.2.1.1, 1, .inl g2)) :: T)) (List.Perm.symm (List.perm_middle (a := ((gd, .inl (E.2.1.1, 1, .inl g2)) : Nat × va_E)) (l₁ := C) (l₂ := T))) (kk r g2 h1)
end BNEW
