/-! PURE: wind, draught, warmth, temperature -/
def pCw (s : Nat → Int32) : Int32 := ((s 3 - s 5) + 8) - ((s 3 - s 5) + 8) / 8 * 8
def pDv (s : Nat → Int32) : Int32 := if 4 < pCw s then 8 - pCw s else pCw s
def pD0 (s : Nat → Int32) : Int32 := if pDv s = 0 then 2 * s 2 + s 4 else if pDv s = 1 then 2 * s 2 + s 4 / 2 else if pDv s = 4 then 2 * s 2 - s 4 / 2 else 2 * s 2
def pD (s : Nat → Int32) : Int32 := if 0 ≤ pD0 s then pD0 s else 0
def pAir (s : Nat → Int32) : Prop := (0 ≤ s 2 ∧ s 2 ≤ 4) ∧ (0 ≤ s 3 ∧ s 3 ≤ 7) ∧ (0 ≤ s 4 ∧ s 4 ≤ 9) ∧ (0 ≤ s 5 ∧ s 5 ≤ 7)
theorem k_cw (s : Nat → Int32) : F_X0_clockwiseSteps (s 5) (s 3) = some (pCw s) := rfl
theorem m_cw (s : Nat → Int32) : F_X12_clockwise s = some (pCw s) := rfl
theorem k_dv (s : Nat → Int32) : F_X0_offset (s 5) (s 3) = some (pDv s) := by
  unfold F_X0_offset pDv; rw [k_cw, Option.bind_some, some_if]
theorem m_dv (s : Nat → Int32) : F_X12_deviates s = some (pDv s) := by
  unfold F_X12_deviates pDv; rw [m_cw, Option.bind_some]
  by_cases h : 4 < pCw s
  · rw [if_pos h, if_neg (by grind)]
  · rw [if_neg h, if_pos (by grind)]
theorem k_d (s : Nat → Int32) : F_X0_pull (s 2) (s 5) (s 3) (s 4) = some (pD s) := by
  unfold F_X0_pull F_X0_pull_b57 pD pD0; rw [k_dv, Option.bind_some]
  by_cases h0 : pDv s = 0
  · rw [if_pos h0, if_pos h0, some_if]
  · rw [if_neg h0, if_neg h0]
    by_cases h1 : pDv s = 1
    · rw [if_pos h1, if_pos h1, some_if]
    · rw [if_neg h1, if_neg h1]
      by_cases h4 : pDv s = 4
      · rw [if_pos h4, if_pos h4, some_if]
      · rw [if_neg h4, if_neg h4, some_if]
theorem m_d (s : Nat → Int32) : F_X12_draws s = some (pD s) := by
  unfold F_X12_draws F_X12_draws_b69 pD pD0; rw [m_dv, Option.bind_some]
  simp only [tn2, tn4, some_if]
  have e1 : 2 * s 2 + -(s 4 / 2) = 2 * s 2 - s 4 / 2 := by grind
  have e2 : 2 * s 2 + 0 = 2 * s 2 := by grind
  rw [e1, e2]
  congr 1
  grind
theorem pCw_r {s : Nat → Int32} (h : pAir s) : 0 ≤ pCw s ∧ pCw s ≤ 7 := by
  obtain ⟨-, h3, -, h5⟩ := h
  exact p_rem8 (x := s 3 - s 5 + 8) (by grind) (by grind)
theorem pDv_r {s : Nat → Int32} (h : pAir s) : 0 ≤ pDv s ∧ pDv s ≤ 4 := by
  have h1 := pCw_r h
  unfold pDv
  split <;> grind
theorem pD_r {s : Nat → Int32} (h : pAir s) : 0 ≤ pD s ∧ pD s ≤ 17 := by
  have h1 := p_half h.2.2.1.1 h.2.2.1.2
  obtain ⟨h2, -, h4, -⟩ := h
  unfold pD pD0
  generalize s 4 / 2 = q at h1
  grind
def pC (s : Nat → Int32) : Nat → Int32
  | 0 => 0
  | i + 1 => pC s i + s (16 + 4 * i) / 100
def pW (s : Nat → Int32) (i : Nat) : Int32 := s 1 - 4 * nI i - pD s - pC s i
def pT (s : Nat → Int32) (i : Nat) : Int32 := if 0 ≤ pW s i then 15 + pW s i else 15
theorem pC_it (s : Nat → Int32) (a : Int32) : ∀ d, it (fun j a => a - s (16 + 4 * j) / 100) 0 d a = a - pC s d := by
  intro d
  induction d with
  | zero => show a = a - 0; grind
  | succ d ih => rw [it_snoc, ih, Nat.zero_add]; show a - pC s d - s (16 + 4 * d) / 100 = a - (pC s d + s (16 + 4 * d) / 100); grind
theorem m_w {N i : Nat} (hN : 1000 ≤ N) (hi : i ≤ 4) (s : Nat → Int32) : F_X12_warmth N (nI i) s = some (pW s i) := by
  unfold F_X12_warmth; rw [m_d, Option.bind_some, tn1]
  have h := lp_run (fun fu j a => F_X12_warmth_b18 N s fu (nI i) a j) i (fun j a => a - s (16 + 4 * j) / 100) some
    (fun fu j a hj => by
      show (if nI i ≤ nI j then some a else ((F_X12_onFloor (nI j) 2 s).bind fun x3 => F_X12_warmth_b18 N s fu (nI i) (a - x3 / 100) (nI j + 1))) = _
      rw [if_neg (nI_ge hj (by omega)), m_on2 (by omega), Option.bind_some, nI_1])
    (fun fu a => by
      show (if nI i ≤ nI i then some a else _) = _
      rw [if_pos (nI_le (Nat.le_refl _) (by omega))]) i 0 N ((s 1 - 4 * nI i) - pD s) (by omega) (by omega)
  rw [pC_it] at h
  exact h
theorem m_deg {N i : Nat} (hN : 1000 ≤ N) (hi : i ≤ 4) (s : Nat → Int32) : F_X12_degrees N (nI i) s = some (pT s i) := by
  unfold F_X12_degrees pT; rw [m_w hN hi, Option.bind_some, some_if]
/-- the floors: class and model -/
def RF (nf : Nat) (f : Nat → Nat → Int32) (s : Nat → Int32) : Prop := ∀ i, i < nf →
  (s (14 + 4 * i) = f 0 i ∧ 40 ≤ f 0 i ∧ f 0 i ≤ 90) ∧ (s (15 + 4 * i) = f 1 i ∧ 0 ≤ f 1 i ∧ f 1 i ≤ 99) ∧
  (0 ≤ s (16 + 4 * i) ∧ s (16 + 4 * i) ≤ 800) ∧ (0 ≤ s (17 + 4 * i) ∧ s (17 + 4 * i) ≤ 100) ∧
  (0 < f 1 i → s (16 + 4 * i) = f 2 i ∧ s (17 + 4 * i) = f 3 i) ∧ (f 1 i ≤ 0 → s (16 + 4 * i) = 0 ∧ s (17 + 4 * i) = 0)
theorem k_ex {nf i : Nat} (hnf : nf ≤ 4) (hi : i < nf) : F_X1_exists (nI i) (nI nf) = some 1 := by
  unfold F_X1_exists; rw [if_neg (nI_pos (by omega)), if_neg (nI_ge hi (by omega))]
theorem k_taken {nf i : Nat} (hnf : nf ≤ 4) (hi : i < nf) (g : Nat → Int32) : F_X1_isTaken (nI i) (nI nf) g = some (if g i ≤ 0 then 0 else 1) := by
  unfold F_X1_isTaken F_X1_isTaken_b25
  rw [if_neg (nI_pos (by omega)), if_neg (nI_ge hi (by omega)), if_pos (xin_nI (by omega) (by decide)), tnI (by omega), some_if]
theorem k_cool {nf i : Nat} {f : Nat → Nat → Int32} {s : Nat → Int32} (hnf : nf ≤ 4) (hi : i < nf) (hF : RF nf f s) : F_X1_coolingBy (nI i) (nI nf) (f 1) (f 2) = some (s (16 + 4 * i) / 100) := by
  unfold F_X1_coolingBy F_X1_coolingBy_b33
  obtain ⟨-, -, -, -, h1, h2⟩ := hF i hi
  rw [if_neg (nI_pos (by omega)), if_neg (nI_ge hi (by omega)), if_pos (xin_nI (by omega) (by decide)), if_pos (xin_nI (by omega) (by decide)), tnI (by omega)]
  by_cases h : f 1 i ≤ 0
  · rw [if_pos h, (h2 h).1]; rfl
  · rw [if_neg h, (h1 (by grind)).1]
theorem k_w {N nf i : Nat} {f : Nat → Nat → Int32} {s : Nat → Int32} (hN : 1000 ≤ N) (hnf : nf ≤ 4) (hi : i ≤ nf) (hF : RF nf f s) : F_X3_warmth N (nI i) (pD s) (s 1) (nI nf) (f 1) (f 2) = some (pW s i) := by
  unfold F_X3_warmth
  have h := lp_run (fun fu j a => F_X3_warmth_b14 N (nI nf) (f 1) (f 2) fu (nI i) a j) i (fun j a => a - s (16 + 4 * j) / 100) some
    (fun fu j a hj => by
      show (if nI i ≤ nI j then some a else ((F_X1_coolingBy (nI j) (nI nf) (f 1) (f 2)).bind fun x1 => F_X3_warmth_b14 N (nI nf) (f 1) (f 2) fu (nI i) (a - x1) (nI j + 1))) = _
      rw [if_neg (nI_ge hj (by omega)), k_cool hnf (by omega) hF, Option.bind_some, nI_1])
    (fun fu a => by
      show (if nI i ≤ nI i then some a else _) = _
      rw [if_pos (nI_le (Nat.le_refl _) (by omega))]) i 0 N ((s 1 - 4 * nI i) - pD s) (by omega) (by omega)
  rw [pC_it] at h
  exact h
theorem k_t {N nf i : Nat} {f : Nat → Nat → Int32} {s : Nat → Int32} (hN : 1000 ≤ N) (hnf : nf ≤ 4) (hi : i ≤ nf) (hF : RF nf f s) : F_X3_temperature N (nI i) (pD s) (s 1) (nI nf) (f 1) (f 2) = some (pT s i) := by
  unfold F_X3_temperature pT; rw [k_w hN hnf hi hF, Option.bind_some, some_if]
theorem k_tn {N nf i : Nat} {f : Nat → Nat → Int32} {s : Nat → Int32} (hN : 1000 ≤ N) (hnf : nf ≤ 4) (hi : i ≤ nf) (hF : RF nf f s) : F_X3_temperatureNow N (nI i) (s 1) (s 2) (s 5) (s 3) (s 4) (nI nf) (f 1) (f 2) = some (pT s i) := by
  unfold F_X3_temperatureNow; rw [k_d, Option.bind_some, k_t hN hnf hi hF, Option.bind_some]
