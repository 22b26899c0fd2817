/-! PURE: the doing calls with their past -/
/-- what became of the past: nothing, or a record -/
def HI (u fi r u2 fi2 : Nat) (P : Nat → Option xHO) (s : Nat → Int32) (f : Nat → Nat → Int32) (t past past2 : Nat → Int32) : Prop := (r = 0 ∧ u2 = u ∧ fi2 = fi ∧ past2 = past) ∨ (r = 1 ∧ ∀ (a : Nat → Nat) (P' : Nat → Option xHO), hR (nI u) (nI fi) P (a, hSV s, hFV f t) P' → RPs u2 fi2 P' past2)
theorem HI.to {u fi r u2 fi2 : Nat} {sl : Int32} {P P' : Nat → Option xHO} {S S' : xSl} {s : Nat → Int32} {f : Nat → Nat → Int32} {t past past2 kept slots : Nat → Int32} {a : Nat → Nat} (h : HI u fi r u2 fi2 P s f t past past2) (hP : RPs u fi P past) (hS : RSl (hE S) kept slots) (hψ : hRr (nI u) (nI fi) sl (a, hSV s, hFV f t) P S r P' S') : RPs u2 fi2 P' past2 ∧ RSl (hE S') kept slots := by
  rcases h with ⟨rfl, rfl, rfl, rfl⟩ | ⟨rfl, h⟩
  · obtain ⟨rfl, rfl⟩ := hψ
    exact ⟨hP, hS⟩
  · obtain ⟨h1, rfl⟩ := hψ
    exact ⟨h a P' h1, hS⟩
section FACES
variable {N u fi nf ns : Nat} {f : Nat → Nat → Int32} {s past : Nat → Int32} {P : Nat → Option xHO}
theorem q_setHeat (hN : 1000 ≤ N) (hQ : RQ nf ns f s) (hP : RPs u fi P past) (t : Nat → Int32) (a th : Int32) : ∃ (k : Nat ⊕ Int32) (v e : Int32) (r u2 fi2 : Nat) (past2 s2 : Nat → Int32), RQ nf ns f s2 ∧ AnsT tA k v e ∧ HI u fi r u2 fi2 P s f t past past2 ∧ (∀ j, j ≠ 1 → j ≠ 12 → s2 j = s j) ∧ F_X11_setHeat N a (nI u) (nI fi) (s 12) (s 1) (s 2) (s 5) (s 3) (s 4) (s 6) (f 0) (f 1) (f 2) = some (k, nI u2, nI fi2, s2 12, s2 1, r) ∧ F_X12_setHeat N a th (nI u) past s = some (v, e, nI u2, past2, s2) := by
  obtain ⟨u', fi', past', hK, hH, hrec⟩ := p_record (t := t) hN hP hQ
  have hh := p_setHeat hN hQ.1 hK hH a th
  by_cases c : 0 ≤ a ∧ a ≤ 90
  · obtain ⟨s', hR, ⟨s0, hd⟩, hk, h1, h2⟩ := hh.1 c
    exact ⟨_, _, 0, 1, u', fi', past', s', ⟨hR, by rw [hk 0 (by decide) (by decide)]; exact hQ.2.1, damps_RD hN hR hd⟩, Or.inl ⟨rfl, rfl⟩, Or.inr ⟨rfl, hrec⟩, hk, h1, h2⟩
  · obtain ⟨h1, h2⟩ := hh.2 c
    exact ⟨_, _, 1, 0, u, fi, past, s, hQ, Or.inr ⟨1, rfl, rfl, rfl, by decide⟩, Or.inl ⟨rfl, rfl, rfl, rfl⟩, fun j _ _ => rfl, h1, h2⟩
theorem q_setGear (hN : 1000 ≤ N) (hQ : RQ nf ns f s) (hP : RPs u fi P past) (t : Nat → Int32) (a th : Int32) : ∃ (k : Nat ⊕ Int32) (v e : Int32) (r u2 fi2 : Nat) (past2 s2 : Nat → Int32), RQ nf ns f s2 ∧ AnsT tA k v e ∧ HI u fi r u2 fi2 P s f t past past2 ∧ (∀ j, j ≠ 1 → j ≠ 2 → j ≠ 12 → s2 j = s j) ∧ F_X11_setGear N a (nI u) (nI fi) (s 12) (s 1) (s 2) (s 5) (s 3) (s 4) (s 6) (f 0) (f 1) (f 2) = some (k, nI u2, nI fi2, s2 12, s2 1, s2 2, r) ∧ F_X12_setGear N a th (nI u) past s = some (v, e, nI u2, past2, s2) := by
  obtain ⟨u', fi', past', hK, hH, hrec⟩ := p_record (t := t) hN hP hQ
  have hh := p_setGear hN hQ.1 hK hH a th
  by_cases c : 0 ≤ a ∧ a ≤ 4
  · obtain ⟨s', hR, ⟨s0, hd⟩, g2, hk, h1, h2⟩ := hh.1 c
    exact ⟨_, _, 0, 1, u', fi', past', s', ⟨hR, by rw [hk 0 (by decide) (by decide) (by decide)]; exact hQ.2.1, damps_RD hN hR hd⟩, Or.inl ⟨rfl, rfl⟩, Or.inr ⟨rfl, hrec⟩, hk, by rw [g2]; exact h1, h2⟩
  · obtain ⟨h1, h2⟩ := hh.2 c
    exact ⟨_, _, 1, 0, u, fi, past, s, hQ, Or.inr ⟨1, rfl, rfl, rfl, by decide⟩, Or.inl ⟨rfl, rfl, rfl, rfl⟩, fun j _ _ _ => rfl, h1, h2⟩
theorem q_setWind (hN : 1000 ≤ N) (hQ : RQ nf ns f s) (hP : RPs u fi P past) (t : Nat → Int32) (a b th : Int32) : ∃ (k : Nat ⊕ Int32) (v e : Int32) (r u2 fi2 : Nat) (past2 s2 : Nat → Int32), RQ nf ns f s2 ∧ AnsT tA k v e ∧ HI u fi r u2 fi2 P s f t past past2 ∧ (∀ j, j ≠ 1 → j ≠ 3 → j ≠ 4 → j ≠ 12 → s2 j = s j) ∧ F_X11_setWind N a b (nI u) (nI fi) (s 12) (s 1) (s 2) (s 5) (s 3) (s 4) (s 6) (f 0) (f 1) (f 2) = some (k, nI u2, nI fi2, s2 12, s2 1, s2 3, s2 4, r) ∧ F_X12_setWind N a b th (nI u) past s = some (v, e, nI u2, past2, s2) := by
  obtain ⟨u', fi', past', hK, hH, hrec⟩ := p_record (t := t) hN hP hQ
  have hh := p_setWind hN hQ.1 hK hH a b th
  by_cases c : (0 ≤ a ∧ a ≤ 7) ∧ (0 ≤ b ∧ b ≤ 9)
  · obtain ⟨s', hR, ⟨s0, hd⟩, g3, g4, hk, h1, h2⟩ := hh.1 c
    exact ⟨_, _, 0, 1, u', fi', past', s', ⟨hR, by rw [hk 0 (by decide) (by decide) (by decide) (by decide)]; exact hQ.2.1, damps_RD hN hR hd⟩, Or.inl ⟨rfl, rfl⟩, Or.inr ⟨rfl, hrec⟩, hk, by rw [g3, g4]; exact h1, h2⟩
  · obtain ⟨h1, h2⟩ := hh.2 c
    exact ⟨_, _, 1, 0, u, fi, past, s, hQ, Or.inr ⟨1, rfl, rfl, rfl, by decide⟩, Or.inl ⟨rfl, rfl, rfl, rfl⟩, fun j _ _ _ _ => rfl, h1, h2⟩
theorem q_putLoad (hN : 1000 ≤ N) (hQ : RQ nf ns f s) (hP : RPs u fi P past) (t : Nat → Int32) (a b th : Int32) : ∃ (k : Nat ⊕ Int32) (v e : Int32) (r u2 fi2 : Nat) (past2 : Nat → Int32) (f2 : Nat → Nat → Int32) (s2 : Nat → Int32), RQ nf ns f2 s2 ∧ AnsT tAS k v e ∧ HI u fi r u2 fi2 P s f t past past2 ∧ (f2 0 = f 0 ∧ f2 4 = f 4 ∧ f2 5 = f 5 ∧ f2 6 = f 6 ∧ f2 7 = f 7 ∧ f2 8 = f 8) ∧ (∀ j, j < 14 → j ≠ 1 → j ≠ 8 → j ≠ 12 → s2 j = s j) ∧ F_X11_putLoad N a b (nI u) (nI fi) (s 12) (s 1) (s 8) (s 2) (s 5) (s 3) (s 4) (s 6) (f 0) (f 1) (f 2) (f 3) = some (k, nI u2, nI fi2, s2 12, s2 1, s2 8, f2 1, f2 2, f2 3, r) ∧ F_X12_putLoad N a b th (nI u) past s = some (v, e, nI u2, past2, s2) := by
  obtain ⟨u', fi', past', hK, hH, hrec⟩ := p_record (t := t) hN hP hQ
  obtain ⟨k, v, e, r, f2, s2, g1, hr, g2, g3, g4, h1, h2⟩ := p_putLoad hN hQ hK hH a b th
  rcases hr with rfl | rfl
  · exact ⟨k, v, e, 0, u, fi, past, f2, s2, g1, g2, Or.inl ⟨rfl, rfl, rfl, rfl⟩, g3, g4, h1, h2⟩
  · exact ⟨k, v, e, 1, u', fi', past', f2, s2, g1, g2, Or.inr ⟨rfl, hrec⟩, g3, g4, h1, h2⟩
theorem q_lower (hN : 1000 ≤ N) (hQ : RQ nf ns f s) (hP : RPs u fi P past) (t : Nat → Int32) (a th : Int32) : ∃ (k : Nat ⊕ Int32) (v e : Int32) (r ns2 u2 fi2 : Nat) (past2 : Nat → Int32) (f2 : Nat → Nat → Int32) (s2 : Nat → Int32), RQ nf ns2 f2 s2 ∧ AnsT tIS k v e ∧ HI u fi r u2 fi2 P s f t past past2 ∧ f2 0 = f 0 ∧ (∀ j, j < 14 → j ≠ 1 → j ≠ 7 → j ≠ 12 → s2 j = s j) ∧ F_X11_lower N a (nI u) (nI fi) (s 12) (s 1) (s 2) (s 5) (s 3) (s 4) (s 6) (f 0) (f 1) (f 2) (f 3) (s 7) (f 5) (f 6) (f 7) (f 4) (f 8) = some (k, nI u2, nI fi2, s2 12, s2 1, f2 1, f2 2, f2 3, s2 7, f2 5, f2 6, f2 7, f2 4, f2 8, r) ∧ F_X12_lower N a th (nI u) past s = some (v, e, nI u2, past2, s2) := by
  obtain ⟨u', fi', past', hK, hH, hrec⟩ := p_record (t := t) hN hP hQ
  obtain ⟨k, v, e, r, ns2, f2, s2, g1, hr, g2, g3, g4, h1, h2⟩ := p_lower hN hQ hK hH a th
  rcases hr with rfl | rfl
  · exact ⟨k, v, e, 0, ns2, u, fi, past, f2, s2, g1, g2, Or.inl ⟨rfl, rfl, rfl, rfl⟩, g3, g4, h1, h2⟩
  · exact ⟨k, v, e, 1, ns2, u', fi', past', f2, s2, g1, g2, Or.inr ⟨rfl, hrec⟩, g3, g4, h1, h2⟩
theorem q_sell (hN : 1000 ≤ N) (hQ : RQ nf ns f s) (hP : RPs u fi P past) (t : Nat → Int32) (a th : Int32) : ∃ (k : Nat ⊕ Int32) (v e : Int32) (r u2 fi2 : Nat) (past2 : Nat → Int32) (f2 : Nat → Nat → Int32) (s2 : Nat → Int32), RQ nf ns f2 s2 ∧ AnsT tIS k v e ∧ HI u fi r u2 fi2 P s f t past past2 ∧ (∀ j, j ≠ 4 → f2 j = f j) ∧ (∀ j, j < 14 → j ≠ 9 → j ≠ 11 → s2 j = s j) ∧ F_X11_sell a (nI u) (nI fi) (s 7) (s 11) (s 9) (f 5) (f 6) (f 7) (f 4) (f 8) = some (k, nI u2, nI fi2, s2 11, s2 9, f2 4, r) ∧ F_X12_sell N a th (nI u) past s = some (v, e, nI u2, past2, s2) := by
  obtain ⟨u', fi', past', hK, hH, hrec⟩ := p_record (t := t) hN hP hQ
  obtain ⟨k, v, e, r, f2, s2, g1, hr, g2, g3, g4, h1, h2⟩ := p_sellF hN hQ hK hH a th
  rcases hr with rfl | rfl
  · exact ⟨k, v, e, 0, u, fi, past, f2, s2, g1, g2, Or.inl ⟨rfl, rfl, rfl, rfl⟩, g3, g4, h1, h2⟩
  · exact ⟨k, v, e, 1, u', fi', past', f2, s2, g1, g2, Or.inr ⟨rfl, hrec⟩, g3, g4, h1, h2⟩
theorem q_quench (hN : 1000 ≤ N) (hQ : RQ nf ns f s) (hP : RPs u fi P past) (t : Nat → Int32) (a th : Int32) : ∃ (k : Nat ⊕ Int32) (v e : Int32) (r u2 fi2 : Nat) (past2 : Nat → Int32) (f2 : Nat → Nat → Int32) (s2 : Nat → Int32), RQ nf ns f2 s2 ∧ AnsT tIS k v e ∧ HI u fi r u2 fi2 P s f t past past2 ∧ (∀ j, j ≠ 6 → j ≠ 8 → f2 j = f j) ∧ (∀ j, j < 14 → s2 j = s j) ∧ F_X11_quench a (nI u) (nI fi) (s 7) (f 6) (f 4) (f 8) = some (k, nI u2, nI fi2, f2 6, f2 8, r) ∧ F_X12_quench N a th (nI u) past s = some (v, e, nI u2, past2, s2) := by
  obtain ⟨u', fi', past', hK, hH, hrec⟩ := p_record (t := t) hN hP hQ
  obtain ⟨k, v, e, r, f2, s2, g1, hr, g2, g3, g4, h1, h2⟩ := p_quenchF hN hQ hK hH a th
  rcases hr with rfl | rfl
  · exact ⟨k, v, e, 0, u, fi, past, f2, s2, g1, g2, Or.inl ⟨rfl, rfl, rfl, rfl⟩, g3, g4, h1, h2⟩
  · exact ⟨k, v, e, 1, u', fi', past', f2, s2, g1, g2, Or.inr ⟨rfl, hrec⟩, g3, g4, h1, h2⟩
theorem q_advance (hN : 1000 ≤ N) (hQ : RQ nf ns f s) (hP : RPs u fi P past) (t : Nat → Int32) (w : Nat → Int32) (a th : Int32) : ∃ (k : Nat ⊕ Int32) (v e : Int32) (r u2 fi2 : Nat) (past2 : Nat → Int32) (f2 : Nat → Nat → Int32) (s2 t2 w2 : Nat → Int32), RQ nf ns f2 s2 ∧ AnsT tAS k v e ∧ HI u fi r u2 fi2 P s f t past past2 ∧ pKeep f f2 s s2 ∧ F_X11_advance N a (nI u) (nI fi) (s 12) (s 1) (s 0) (s 13) (s 2) (s 5) (s 3) (s 4) (s 6) (f 0) (f 1) (f 2) (f 3) (s 10) (s 7) (f 5) (f 6) (f 4) (f 8) t = some (k, nI u2, nI fi2, s2 12, s2 1, s2 0, s2 13, s2 5, f2 2, f2 3, s2 10, f2 4, f2 8, t2, r) ∧ F_X12_advance N a th (nI u) past s w = some (v, e, nI u2, past2, s2, w2) := by
  obtain ⟨u', fi', past', hK, hH, hrec⟩ := p_record (t := t) hN hP hQ
  obtain ⟨k, v, e, r, f2, s2, t2, w2, g1, hr, g2, g3, h1, h2⟩ := p_advance hN hQ hK hH t w a th
  rcases hr with rfl | rfl
  · exact ⟨k, v, e, 0, u, fi, past, f2, s2, t2, w2, g1, g2, Or.inl ⟨rfl, rfl, rfl, rfl⟩, g3, h1, h2⟩
  · exact ⟨k, v, e, 1, u', fi', past', f2, s2, t2, w2, g1, g2, Or.inr ⟨rfl, hrec⟩, g3, h1, h2⟩
theorem q_rotate (hN : 1000 ≤ N) (hQ : RQ nf ns f s) (hP : RPs u fi P past) (t : Nat → Int32) (th : Int32) : ∃ (v : Int32) (ns2 u2 fi2 : Nat) (past2 : Nat → Int32) (f2 : Nat → Nat → Int32) (s2 : Nat → Int32), RQ nf ns2 f2 s2 ∧ HI u fi 1 u2 fi2 P s f t past past2 ∧ f2 0 = f 0 ∧ (∀ j, j < 14 → j ≠ 1 → j ≠ 7 → j ≠ 12 → s2 j = s j) ∧ F_X11_rotate N (nI u) (nI fi) (s 12) (s 1) (s 2) (s 5) (s 3) (s 4) (s 6) (f 0) (f 1) (f 2) (f 3) (s 7) (f 5) (f 6) (f 7) (f 4) (f 8) = some (v, nI u2, nI fi2, s2 12, s2 1, f2 1, f2 2, f2 3, s2 7, f2 5, f2 6, f2 7, f2 4, f2 8, 1) ∧ F_X12_rotate N th (nI u) past s = some (v, 0, nI u2, past2, s2) := by
  obtain ⟨u', fi', past', hK, hH, hrec⟩ := p_record (t := t) hN hP hQ
  obtain ⟨v, ns2, f2, s2, g1, g3, g4, h1, h2⟩ := p_rotateF hN hQ hK hH th
  exact ⟨v, ns2, u', fi', past', f2, s2, g1, Or.inr ⟨rfl, hrec⟩, g3, g4, h1, h2⟩
end FACES
