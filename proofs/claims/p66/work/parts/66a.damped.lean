/-! PURE: what the damper leaves is damped -/
theorem damps_b0_out {N : Nat} : ∀ (fu : Nat) (s s' : Nat → Int32), F_X12_damps_b0 N fu s = some ((), s') → F_X12_isTooWarm N s' = some 0 := by
  intro fu
  induction fu with
  | zero => intro s s' h; rw [F_X12_damps_b0] at h; cases h
  | succ k ih =>
    intro s s' h
    rw [F_X12_damps_b0] at h
    cases hw : F_X12_isTooWarm N s with
    | none => rw [hw] at h; cases h
    | some r =>
      rw [hw, Option.bind_some] at h
      by_cases hr : r = 0
      · rw [if_pos hr] at h
        cases h
        rw [hw, hr]
      · rw [if_neg hr] at h
        exact ih _ _ h
/-- no floor is too warm -/
def RD (nf : Nat) (s : Nat → Int32) : Prop := ∀ i, i < nf → s 1 ≤ pB s i
/-- a house that stands between two calls -/
def RQ (nf ns : Nat) (f : Nat → Nat → Int32) (s : Nat → Int32) : Prop := RH nf ns f s ∧ (0 ≤ s 0 ∧ s 0 ≤ 9999) ∧ RD nf s
theorem damps_RD {N nf ns : Nat} {f : Nat → Nat → Int32} {s0 s : Nat → Int32} (hN : 1000 ≤ N) (hR : RH nf ns f s) (h : F_X12_damps N s0 = some ((), s)) : RD nf s := by
  obtain ⟨⟨h6, hn1, hn4⟩, ⟨h7, hns⟩, hh, hA, hF, hS⟩ := hR
  obtain ⟨r, g1, g2, -⟩ := m_warm hN hn4 h6 hF hA hh
  have := damps_b0_out N s0 s h
  rw [g1] at this
  exact g2 (Option.some.inj this)
theorem damps_id {N nf ns : Nat} {f : Nat → Nat → Int32} {s : Nat → Int32} (hN : 1000 ≤ N) (hR : RH nf ns f s) (hD : RD nf s) : F_X12_damps N s = some ((), s) := by
  obtain ⟨⟨h6, hn1, hn4⟩, ⟨h7, hns⟩, hh, hA, hF, hS⟩ := hR
  obtain ⟨r, g1, -, g3⟩ := m_warm hN hn4 h6 hF hA hh
  have h0 : r = 0 := Classical.byContradiction fun q => by
    obtain ⟨i, hi, e⟩ := g3 q
    have := hD i hi
    grind
  rw [h0] at g1
  have key : ∀ fu, 0 < fu → F_X12_damps_b0 N fu s = some ((), s) := by
    intro fu hf
    obtain ⟨k, rfl⟩ : ∃ k, fu = k + 1 := ⟨fu - 1, by omega⟩
    rw [F_X12_damps_b0, g1, Option.bind_some, if_pos rfl]
  exact key N (by omega)
theorem RD.cong {nf : Nat} {s s' : Nat → Int32} (h : RD nf s) (h1 : s' 1 = s 1) (h2 : s' 2 = s 2) (h3 : s' 3 = s 3) (h4 : s' 4 = s 4) (h5 : s' 5 = s 5) (h14 : ∀ i, i < nf → s' (14 + 4 * i) = s (14 + 4 * i)) (h16 : ∀ i, i < nf → s' (16 + 4 * i) = s (16 + 4 * i)) : RD nf s' := fun i hi => by
  have e : pB s' i = pB s i := by
    unfold pB
    rw [pD_upd h2 h3 h4 h5, pC_upd i (fun j hj => h16 j (by omega)), h14 i hi]
  rw [e, h1]
  exact h i hi
theorem RF_16 {nf i : Nat} {f : Nat → Nat → Int32} {s s' : Nat → Int32} (h : RF nf f s) (h' : RF nf f s') (hi : i < nf) : s' (14 + 4 * i) = s (14 + 4 * i) ∧ s' (16 + 4 * i) = s (16 + 4 * i) := by
  obtain ⟨⟨a0, -⟩, -, -, -, a4, a5⟩ := h i hi
  obtain ⟨⟨b0, -⟩, -, -, -, b4, b5⟩ := h' i hi
  refine ⟨by rw [a0, b0], ?_⟩
  by_cases hl : 0 < f 1 i
  · rw [(a4 hl).1, (b4 hl).1]
  · have hl' : f 1 i ≤ 0 := by grind
    rw [(a5 hl').1, (b5 hl').1]
theorem RQ.congp {nf ns : Nat} {f f' : Nat → Nat → Int32} {s s' : Nat → Int32} (h : RQ nf ns f s) (hs : ∀ j, j < 130 → s' j = s j) (hf : ∀ r j, r < 4 → j < 4 → f' r j = f r j) (hf' : ∀ r j, 4 ≤ r → r < 9 → j < 20 → f' r j = f r j) : RQ nf ns f' s' := by
  obtain ⟨hR, h0, hD⟩ := h
  have hn4 := hR.1.2.2
  exact ⟨hR.congp hs hf hf', by rw [hs 0 (by decide)]; exact h0, hD.cong (hs 1 (by decide)) (hs 2 (by decide)) (hs 3 (by decide)) (hs 4 (by decide)) (hs 5 (by decide)) (fun i hi => hs _ (by omega)) (fun i hi => hs _ (by omega))⟩
/-- minutes leave a damped house -/
theorem b43_out {N : Nat} {s1 s2 s3 c : Int32} {z w s' w' : Nat → Int32} (h : F_X12_minute1_b43 N s1 s2 s3 z w = some (c, s', w')) : ∃ s0, F_X12_damps N s0 = some ((), s') := by
  unfold F_X12_minute1_b43 at h
  obtain ⟨x3, -, h⟩ := ob h
  by_cases hx : xin s1 130 = true
  · rw [if_pos hx] at h
    obtain ⟨x6, -, h⟩ := ob h
    obtain ⟨x8, -, h⟩ := ob h
    obtain ⟨x10, -, h⟩ := ob h
    obtain ⟨x12, e, h⟩ := ob h
    cases h
    exact ⟨x10.2, e⟩
  · rw [if_neg hx] at h; cases h
theorem minute1_out {N : Nat} {c : Int32} {s w s' w' : Nat → Int32} (h : F_X12_minute1 N s w = some (c, s', w')) : ∃ s0, F_X12_damps N s0 = some ((), s') := by
  unfold F_X12_minute1 F_X12_minute1_b42 at h
  split at h
  · split at h
    · exact b43_out h
    · exact b43_out h
  · exact b43_out h
theorem minutes_out {N : Nat} : ∀ (fu : Nat) (l1 l2 l3 c : Int32) (s w s' w' : Nat → Int32), F_X12_minutes1_b4 N fu l1 l2 l3 s w = some (c, s', w') → s' = s ∨ ∃ s0, F_X12_damps N s0 = some ((), s') := by
  intro fu
  induction fu with
  | zero => intro l1 l2 l3 c s w s' w' h; rw [F_X12_minutes1_b4] at h; cases h
  | succ k ih =>
    intro l1 l2 l3 c s w s' w' h
    rw [F_X12_minutes1_b4] at h
    by_cases hl : l1 ≤ l3
    · rw [if_pos hl] at h; cases h; exact Or.inl rfl
    · rw [if_neg hl] at h
      obtain ⟨x, e, h⟩ := ob h
      obtain ⟨x1, x2, x3⟩ := x
      rcases ih _ _ _ _ _ _ _ _ h with q | q
      · rw [q]; exact Or.inr (minute1_out e)
      · exact Or.inr q
theorem RD.mins {N nf ns : Nat} {a c : Int32} {f2 : Nat → Nat → Int32} {s w s2 w2 : Nat → Int32} (hN : 1000 ≤ N) (hD : RD nf s) (hR : RH nf ns f2 s2) (h : F_X12_minutes1 N a s w = some (c, s2, w2)) : RD nf s2 := by
  rcases minutes_out N _ _ _ _ _ _ _ _ h with q | ⟨s0, q⟩
  · rw [q]; exact hD
  · exact damps_RD hN hR q
