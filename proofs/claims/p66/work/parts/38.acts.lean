/-! PURE: what the acts do -/
theorem p_why0 {ns i : Nat} {f : Nat → Nat → Int32} (hns : ns ≤ 20) (h : pWhy ns f i = 0) : 0 < f 1 i ∧ (i = 0 → ns < 20) := by
  unfold pWhy at h
  by_cases h1 : f 1 i ≤ 0
  · rw [if_pos h1] at h; exact absurd h (by decide)
  · rw [if_neg h1] at h
    refine ⟨by grind, fun h0 => ?_⟩
    rw [if_pos h0] at h
    by_cases h2 : f 2 0 ≤ 100
    · rw [if_pos h2] at h
      by_cases h3 : ns = 20
      · rw [if_pos h3] at h; exact absurd h (by decide)
      · omega
    · rw [if_neg h2] at h; exact absurd h (by decide)
theorem p_lowerOne {N nf ns i : Nat} {f : Nat → Nat → Int32} {s : Nat → Int32} (hN : 1000 ≤ N) (hR : RH nf ns f s) (hi : i < nf) (hw : pWhy ns f i = 0) :
    ∃ (ns' : Nat) (f' : Nat → Nat → Int32) (s1 s' : Nat → Int32), F_X3_lowerOne N (nI i) (s 12) (s 1) (s 2) (s 5) (s 3) (s 4) (s 6) (f 0) (f 1) (f 2) (f 3) (s 7) (f 5) (f 6) (f 7) (f 4) (f 8) = some ((), s' 12, s' 1, f' 1, f' 2, f' 3, s' 7, f' 5, f' 6, f' 7, f' 4, f' 8) ∧
      F_X12_lowers N (nI i) s = some (f 2 i, s1) ∧ F_X12_damps N s1 = some ((), s') ∧ RH nf ns' f' s' ∧ f' 0 = f 0 ∧ (∀ j, j < 14 → j ≠ 1 → j ≠ 7 → j ≠ 12 → s' j = s j) := by
  obtain ⟨hm, h20⟩ := p_why0 hR.2.1.2 hw
  obtain ⟨ns', f', s1, h1, h2, h3, h4, h5⟩ := p_low hN hR hi hm h20
  obtain ⟨d1, d2⟩ := p_damp hN h3
  obtain ⟨hR2, o2⟩ := p_damped h3
  refine ⟨ns', f', s1, pDamp nf s1, ?_, h2, d2, hR2, h4, fun j h14 hj1 hj7 hj12 => by rw [o2 j hj1 hj12, h5 j h14 hj7]⟩
  unfold F_X3_lowerOne
  rw [h1, Option.bind_some]
  rw [h5 12 (by decide) (by decide), h5 1 (by decide) (by decide), h5 2 (by decide) (by decide), h5 5 (by decide) (by decide), h5 3 (by decide) (by decide), h5 4 (by decide) (by decide), h5 6 (by decide) (by decide), h4] at d1
  show (F_X3_damp N (s 12) (s 1) (s 2) (s 5) (s 3) (s 4) (s 6) (f 0) (f' 1) (f' 2)).bind _ = _
  rw [d1, Option.bind_some, o2 7 (by decide) (by decide)]
theorem p_rot {N nf : Nat} (hN : 1000 ≤ N) : ∀ (d i ns : Nat) (f : Nat → Nat → Int32) (s : Nat → Int32), i + d = nf → RH nf ns f s →
    ∃ (ns' : Nat) (f' : Nat → Nat → Int32) (s1 : Nat → Int32) (c : Int32),
      (∀ fu l1, d < fu → F_X3_lowerAll_b4 N (s 2) (s 5) (s 3) (s 4) (s 6) (f 0) fu l1 (nI i) (s 12) (s 1) (f 1) (f 2) (f 3) (s 7) (f 5) (f 6) (f 7) (f 4) (f 8) = some (l1 + c, pDamp nf s1 12, pDamp nf s1 1, f' 1, f' 2, f' 3, s1 7, f' 5, f' 6, f' 7, f' 4, f' 8)) ∧
      (∀ fu l1, d < fu → F_X12_rotates_b4 N fu l1 (nI i) s = some (l1 + c, s1)) ∧ RH nf ns' f' s1 ∧ f' 0 = f 0 ∧ (∀ j, j < 14 → j ≠ 7 → s1 j = s j) := by
  intro d
  have e0 : ∀ l1 : Int32, l1 + 0 = l1 := fun l1 => by grind
  induction d with
  | zero =>
    intro i ns f s hi hR
    obtain rfl : i = nf := by omega
    obtain ⟨⟨h6, hn1, hn4⟩, -⟩ := id hR
    refine ⟨ns, f, s, 0, fun fu l1 hf => ?_, fun fu l1 hf => ?_, hR, rfl, fun _ _ _ => rfl⟩
    · obtain ⟨k, rfl⟩ : ∃ k, fu = k + 1 := ⟨fu - 1, by omega⟩
      rw [F_X3_lowerAll_b4, if_pos (by rw [h6]; exact nI_le (Nat.le_refl _) (by omega)), (p_damp hN hR).1, Option.bind_some, e0]
    · obtain ⟨k, rfl⟩ : ∃ k, fu = k + 1 := ⟨fu - 1, by omega⟩
      rw [F_X12_rotates_b4, tn6, h6, if_pos (nI_le (Nat.le_refl _) (by omega)), e0]
  | succ d ih =>
    intro i ns f s hi hR
    obtain ⟨⟨h6, hn1, hn4⟩, -⟩ := id hR
    have hle : ¬ s 6 ≤ nI i := by rw [h6]; exact nI_ge (by omega) (by omega)
    by_cases hw : pWhy ns f i = 0
    · obtain ⟨hm, h20⟩ := p_why0 hR.2.1.2 hw
      obtain ⟨ns1, f1, s1, h1, h2, h3, h4, h5⟩ := p_low hN hR (i := i) (by omega) hm h20
      obtain ⟨ns2, f2, s2, c, j1, j2, j3, j4, j5⟩ := ih (i + 1) ns1 f1 s1 (by omega) h3
      have ec : ∀ l1 : Int32, l1 + 1 + c = l1 + (1 + c) := fun l1 => by grind
      refine ⟨ns2, f2, s2, 1 + c, fun fu l1 hf => ?_, fun fu l1 hf => ?_, j3, j4.trans h4, fun j h14 hj7 => by rw [j5 j h14 hj7, h5 j h14 hj7]⟩
      · obtain ⟨k, rfl⟩ : ∃ k, fu = k + 1 := ⟨fu - 1, by omega⟩
        have := j1 k (l1 + 1) (by omega)
        rw [h5 2 (by decide) (by decide), h5 5 (by decide) (by decide), h5 3 (by decide) (by decide), h5 4 (by decide) (by decide), h5 6 (by decide) (by decide), h5 12 (by decide) (by decide), h5 1 (by decide) (by decide), h4] at this
        rw [F_X3_lowerAll_b4, if_neg hle, k_why hR (by omega), Option.bind_some, if_pos hw, h1, Option.bind_some]
        unfold F_X3_lowerAll_b31
        rw [nI_1, ← ec]
        exact this
      · obtain ⟨k, rfl⟩ : ∃ k, fu = k + 1 := ⟨fu - 1, by omega⟩
        rw [F_X12_rotates_b4, tn6, if_neg hle, m_why hR (by omega), Option.bind_some, if_pos hw, h2, Option.bind_some]
        unfold F_X12_rotates_b32
        rw [nI_1, ← ec]
        exact j2 k _ (by omega)
    · obtain ⟨ns2, f2, s2, c, j1, j2, j3, j4, j5⟩ := ih (i + 1) ns f s (by omega) hR
      refine ⟨ns2, f2, s2, c, fun fu l1 hf => ?_, fun fu l1 hf => ?_, j3, j4, j5⟩
      · obtain ⟨k, rfl⟩ : ∃ k, fu = k + 1 := ⟨fu - 1, by omega⟩
        rw [F_X3_lowerAll_b4, if_neg hle, k_why hR (by omega), Option.bind_some, if_neg hw]
        unfold F_X3_lowerAll_b31
        rw [nI_1]
        exact j1 k l1 (by omega)
      · obtain ⟨k, rfl⟩ : ∃ k, fu = k + 1 := ⟨fu - 1, by omega⟩
        rw [F_X12_rotates_b4, tn6, if_neg hle, m_why hR (by omega), Option.bind_some, if_neg hw]
        unfold F_X12_rotates_b32
        rw [nI_1]
        exact j2 k _ (by omega)
theorem p_rotate {N nf ns : Nat} {f : Nat → Nat → Int32} {s : Nat → Int32} (hN : 1000 ≤ N) (hR : RH nf ns f s) :
    ∃ (ns' : Nat) (f' : Nat → Nat → Int32) (s1 s' : Nat → Int32) (c : Int32), F_X3_lowerAll N (s 12) (s 1) (s 2) (s 5) (s 3) (s 4) (s 6) (f 0) (f 1) (f 2) (f 3) (s 7) (f 5) (f 6) (f 7) (f 4) (f 8) = some (c, s' 12, s' 1, f' 1, f' 2, f' 3, s' 7, f' 5, f' 6, f' 7, f' 4, f' 8) ∧
      F_X12_rotates N s = some (c, s1) ∧ F_X12_damps N s1 = some ((), s') ∧ RH nf ns' f' s' ∧ f' 0 = f 0 ∧ (∀ j, j < 14 → j ≠ 1 → j ≠ 7 → j ≠ 12 → s' j = s j) := by
  obtain ⟨⟨h6, hn1, hn4⟩, -⟩ := id hR
  obtain ⟨ns', f', s1, c, h1, h2, h3, h4, h5⟩ := p_rot hN nf 0 ns f s (by omega) hR
  obtain ⟨d1, d2⟩ := p_damp hN h3
  obtain ⟨hR2, o2⟩ := p_damped h3
  have e0 : ∀ c : Int32, 0 + c = c := fun l1 => by grind
  refine ⟨ns', f', s1, pDamp nf s1, c, ?_, ?_, d2, hR2, h4, fun j h14 hj1 hj7 hj12 => by rw [o2 j hj1 hj12, h5 j h14 hj7]⟩
  · have := h1 N 0 (by omega); rw [e0] at this; rw [o2 7 (by decide) (by decide)]; exact this
  · have := h2 N 0 (by omega); rw [e0] at this; exact this
theorem RH_heat {nf ns : Nat} {f : Nat → Nat → Int32} {s : Nat → Int32} {x : Int32} (hR : RH nf ns f s) (hx : 0 ≤ x ∧ x ≤ 90) : RH nf ns f (upd s 1 x) := by
  obtain ⟨⟨h6, hn1, hn4⟩, ⟨h7, hns⟩, hh, hA, hF, hS⟩ := hR
  exact ⟨⟨h6, hn1, hn4⟩, ⟨h7, hns⟩, hx, hA, hF.cong hn4 (fun j h14 _ => upd_o _ _ (by omega)) rfl rfl rfl rfl, RS.cong hS (fun j h30 => upd_o _ _ (by omega)) rfl rfl rfl rfl rfl⟩
theorem RH_gear {nf ns : Nat} {f : Nat → Nat → Int32} {s : Nat → Int32} {x : Int32} (hR : RH nf ns f s) (hx : 0 ≤ x ∧ x ≤ 4) : RH nf ns f (upd s 2 x) := by
  obtain ⟨⟨h6, hn1, hn4⟩, ⟨h7, hns⟩, hh, hA, hF, hS⟩ := hR
  exact ⟨⟨h6, hn1, hn4⟩, ⟨h7, hns⟩, hh, ⟨hx, hA.2⟩, hF.cong hn4 (fun j h14 _ => upd_o _ _ (by omega)) rfl rfl rfl rfl, RS.cong hS (fun j h30 => upd_o _ _ (by omega)) rfl rfl rfl rfl rfl⟩
theorem RH_wind {nf ns : Nat} {f : Nat → Nat → Int32} {s : Nat → Int32} {x y : Int32} (hR : RH nf ns f s) (hx : 0 ≤ x ∧ x ≤ 7) (hy : 0 ≤ y ∧ y ≤ 9) : RH nf ns f (upd (upd s 3 x) 4 y) := by
  obtain ⟨⟨h6, hn1, hn4⟩, ⟨h7, hns⟩, hh, hA, hF, hS⟩ := hR
  exact ⟨⟨h6, hn1, hn4⟩, ⟨h7, hns⟩, hh, ⟨hA.1, hx, hy, hA.2.2.2⟩, hF.cong hn4 (fun j h14 _ => by rw [upd_o _ _ (by omega), upd_o _ _ (by omega)]) rfl rfl rfl rfl, RS.cong hS (fun j h30 => by rw [upd_o _ _ (by omega), upd_o _ _ (by omega)]) rfl rfl rfl rfl rfl⟩
/-- a change of numbers and then the damper -/
theorem p_stoke {N nf ns : Nat} {f : Nat → Nat → Int32} {s : Nat → Int32} {x : Int32} (hN : 1000 ≤ N) (hR : RH nf ns f s) (hx : 0 ≤ x ∧ x ≤ 90) :
    ∃ s', F_X3_stoke N x (s 12) (s 1) (s 2) (s 5) (s 3) (s 4) (s 6) (f 0) (f 1) (f 2) = some ((), s' 12, s' 1) ∧ F_X12_damps N (upd s 1 x) = some ((), s') ∧ RH nf ns f s' ∧ (∀ j, j ≠ 1 → j ≠ 12 → s' j = s j) := by
  have h := RH_heat hR hx
  obtain ⟨d1, d2⟩ := p_damp hN h
  obtain ⟨hR2, o2⟩ := p_damped h
  refine ⟨pDamp nf (upd s 1 x), ?_, d2, hR2, fun j a b => by rw [o2 j a b, upd_o _ _ a]⟩
  unfold F_X3_stoke
  have d1' : F_X3_damp N (s 12) x (s 2) (s 5) (s 3) (s 4) (s 6) (f 0) (f 1) (f 2) = some ((), pDamp nf (upd s 1 x) 12, pDamp nf (upd s 1 x) 1) := d1
  rw [d1', Option.bind_some]
theorem p_shift {N nf ns : Nat} {f : Nat → Nat → Int32} {s : Nat → Int32} {x : Int32} (hN : 1000 ≤ N) (hR : RH nf ns f s) (hx : 0 ≤ x ∧ x ≤ 4) :
    ∃ s', F_X3_shiftGear N x (s 12) (s 1) (s 2) (s 5) (s 3) (s 4) (s 6) (f 0) (f 1) (f 2) = some ((), s' 12, s' 1, x) ∧ F_X12_damps N (upd s 2 x) = some ((), s') ∧ RH nf ns f s' ∧ s' 2 = x ∧ (∀ j, j ≠ 1 → j ≠ 2 → j ≠ 12 → s' j = s j) := by
  have h := RH_gear hR hx
  obtain ⟨d1, d2⟩ := p_damp hN h
  obtain ⟨hR2, o2⟩ := p_damped h
  refine ⟨pDamp nf (upd s 2 x), ?_, d2, hR2, by rw [o2 2 (by decide) (by decide), upd_s], fun j a b c => by rw [o2 j a c, upd_o _ _ b]⟩
  unfold F_X3_shiftGear
  have d1' : F_X3_damp N (s 12) (s 1) x (s 5) (s 3) (s 4) (s 6) (f 0) (f 1) (f 2) = some ((), pDamp nf (upd s 2 x) 12, pDamp nf (upd s 2 x) 1) := d1
  rw [d1', Option.bind_some]
theorem p_wind {N nf ns : Nat} {f : Nat → Nat → Int32} {s : Nat → Int32} {x y : Int32} (hN : 1000 ≤ N) (hR : RH nf ns f s) (hx : 0 ≤ x ∧ x ≤ 7) (hy : 0 ≤ y ∧ y ≤ 9) :
    ∃ s', F_X3_changeWind N x y (s 12) (s 1) (s 2) (s 5) (s 3) (s 4) (s 6) (f 0) (f 1) (f 2) = some ((), s' 12, s' 1, x, y) ∧ F_X12_damps N (upd (upd s 3 x) 4 y) = some ((), s') ∧ RH nf ns f s' ∧ s' 3 = x ∧ s' 4 = y ∧ (∀ j, j ≠ 1 → j ≠ 3 → j ≠ 4 → j ≠ 12 → s' j = s j) := by
  have h := RH_wind hR hx hy
  obtain ⟨d1, d2⟩ := p_damp hN h
  obtain ⟨hR2, o2⟩ := p_damped h
  refine ⟨pDamp nf (upd (upd s 3 x) 4 y), ?_, d2, hR2, by rw [o2 3 (by decide) (by decide)]; rfl, by rw [o2 4 (by decide) (by decide)]; rfl, fun j a b c d => by rw [o2 j a d, upd_o _ _ c, upd_o _ _ b]⟩
  unfold F_X3_changeWind
  have d1' : F_X3_damp N (s 12) (s 1) (s 2) (s 5) x y (s 6) (f 0) (f 1) (f 2) = some ((), pDamp nf (upd (upd s 3 x) 4 y) 12, pDamp nf (upd (upd s 3 x) 4 y) 1) := d1
  rw [d1', Option.bind_some]
/-- a sack's quality and price -/
def pQ (f : Nat → Nat → Int32) (k : Nat) : Int32 := if 0 ≤ 100 - f 7 k - (if f 6 k ≤ 80 then 0 else f 6 k - 80) / 2 then 100 - f 7 k - (if f 6 k ≤ 80 then 0 else f 6 k - 80) / 2 else 0
def pPr (f : Nat → Nat → Int32) (k : Nat) : Int32 := f 5 k * pQ f k / 10
theorem k_quality {ns k : Nat} (hns : ns ≤ 20) (hk : k < ns) (f : Nat → Nat → Int32) : F_X5_quality (nI k) (nI ns) (f 6) (f 7) = some (pQ f k) := by
  have hx : xin (nI k) 20 = true := xin_nI (by omega) (by decide)
  unfold F_X5_quality F_X5_quality_b34 pQ
  rw [k_exS hns hk, Option.bind_some, if_neg (by decide), if_pos hx, if_pos hx, if_pos hx, if_pos hx, tnI (by omega)]
  by_cases h : f 6 k ≤ 80
  · rw [if_pos h, if_pos h, some_if]
  · rw [if_neg h, if_neg h, some_if]
theorem k_price {ns k : Nat} (hns : ns ≤ 20) (hk : k < ns) (f : Nat → Nat → Int32) : F_X5_price (nI k) (nI ns) (f 5) (f 6) (f 7) = some (pPr f k) := by
  have hx : xin (nI k) 20 = true := xin_nI (by omega) (by decide)
  unfold F_X5_price pPr
  rw [k_exS hns hk, Option.bind_some, if_neg (by decide), if_pos hx, k_quality hns hk, Option.bind_some, tnI (by omega)]
theorem m_quality {k : Nat} (hk : k < 20) {f : Nat → Nat → Int32} {s : Nat → Int32} (h6 : s (32 + 5 * k) = f 6 k) (h7 : s (33 + 5 * k) = f 7 k) : F_X12_quality (nI k) s = some (pQ f k) := by
  unfold F_X12_quality F_X12_quality_b26 pQ
  rw [m_of2 hk, Option.bind_some, Option.bind_some, m_of3 hk, Option.bind_some, Option.bind_some, h6, h7]
  have e : (0 : Int32) / 2 = 0 := by decide
  by_cases h : f 6 k ≤ 80
  · rw [if_pos h, if_pos h, e, some_if]
  · rw [if_neg h, if_neg h, some_if]
theorem m_price {k : Nat} (hk : k < 20) {f : Nat → Nat → Int32} {s : Nat → Int32} (h5 : s (31 + 5 * k) = f 5 k) (h6 : s (32 + 5 * k) = f 6 k) (h7 : s (33 + 5 * k) = f 7 k) : F_X12_price (nI k) s = some (pPr f k) := by
  unfold F_X12_price pPr
  rw [m_of1 hk, Option.bind_some, m_quality hk h6 h7, Option.bind_some, h5]
theorem p_sell {nf ns k : Nat} {f : Nat → Nat → Int32} {s : Nat → Int32} (hR : RH nf ns f s) (hk : k < ns) :
    ∃ s', F_X5_giveAway (nI k) (s 7) (s 11) (s 9) (f 5) (f 6) (f 7) (f 4) = some ((), s' 11, s' 9, upd (f 4) k 1) ∧ F_X12_sells (nI k) s = some (pPr f k, s') ∧ RH nf ns (va_up f 4 (upd (f 4) k 1)) s' ∧ (∀ j, j < 14 → j ≠ 9 → j ≠ 11 → s' j = s j) := by
  obtain ⟨⟨h6, hn1, hn4⟩, ⟨h7, hns⟩, hh, hA, hF, hS⟩ := id hR
  obtain ⟨r0, r1, r2, r3, r4, r5, r6⟩ := hS k hk
  have hx : xin (nI k) 20 = true := xin_nI (by omega) (by decide)
  have hx0 : xin (nI (30 + 5 * k)) 130 = true := xin_nI (by omega) (by decide)
  obtain ⟨s', hs'⟩ : ∃ s', s' = upd (upd (upd s (30 + 5 * k) 1) 9 (s 9 + f 5 k)) 11 (s 11 + pPr f k) := ⟨_, rfl⟩
  have o : ∀ j, j ≠ 9 → j ≠ 11 → j ≠ 30 + 5 * k → s' j = s j := fun j a b c => by rw [hs', upd_o _ _ b, upd_o _ _ a, upd_o _ _ c]
  have e11 : s' 11 = s 11 + pPr f k := by rw [hs', upd_s]
  have e9 : s' 9 = s 9 + f 5 k := by rw [hs', upd_o _ _ (by decide), upd_s]
  have e30 : s' (30 + 5 * k) = 1 := by rw [hs', upd_o _ _ (by omega), upd_o _ _ (by omega), upd_s]
  refine ⟨s', ?_, ?_, ⟨⟨(o 6 (by decide) (by decide) (by omega)).trans h6, hn1, hn4⟩, ⟨(o 7 (by decide) (by decide) (by omega)).trans h7, hns⟩, by rw [o 1 (by decide) (by decide) (by omega)]; exact hh, hA.cong (o 2 (by decide) (by decide) (by omega)) (o 3 (by decide) (by decide) (by omega)) (o 4 (by decide) (by decide) (by omega)) (o 5 (by decide) (by decide) (by omega)), hF.cong hn4 (fun j h14 h30 => o j (by omega) (by omega) (by omega)) rfl rfl rfl rfl, ?_⟩, fun j h14 a b => o j a b (by omega)⟩
  · unfold F_X5_giveAway
    rw [h7, k_exS hns hk, Option.bind_some, if_neg (by decide), if_pos hx, if_pos hx, k_price hns hk, Option.bind_some, tnI (by omega), e11, e9]
  · unfold F_X12_sells
    rw [m_atS0, Option.bind_some, if_pos hx0, tnI (k := 30 + 5 * k) (by omega), m_of1 (by omega), Option.bind_some, upd_o _ _ (show 31 + 5 * k ≠ 30 + 5 * k by omega), r1.1, tn9, tn11, upd_o _ _ (show 9 ≠ 30 + 5 * k by omega)]
    have p1 : ∀ z : Nat → Int32, z (31 + 5 * k) = s (31 + 5 * k) → z (32 + 5 * k) = s (32 + 5 * k) → z (33 + 5 * k) = s (33 + 5 * k) → F_X12_price (nI k) z = some (pPr f k) := fun z a b c => m_price (by omega) (a.trans r1.1) (b.trans r2.1) (c.trans r3.1)
    rw [p1 (upd (upd s (30 + 5 * k) 1) 9 (s 9 + f 5 k)) (by rw [upd_o _ _ (by omega), upd_o _ _ (by omega)]) (by rw [upd_o _ _ (by omega), upd_o _ _ (by omega)]) (by rw [upd_o _ _ (by omega), upd_o _ _ (by omega)]), Option.bind_some, upd_o _ _ (show 11 ≠ 9 by decide), upd_o _ _ (show 11 ≠ 30 + 5 * k by omega), ← hs', p1 s' (o _ (by omega) (by omega) (by omega)) (o _ (by omega) (by omega) (by omega)) (o _ (by omega) (by omega) (by omega)), Option.bind_some]
  · intro j hj
    obtain ⟨q0, q1, q2, q3, q4, q5, q6⟩ := hS j hj
    have z4 : va_up f 4 (upd (f 4) k 1) 4 = upd (f 4) k 1 := rfl
    have z5 : va_up f 4 (upd (f 4) k 1) 5 = f 5 := rfl
    have z6 : va_up f 4 (upd (f 4) k 1) 6 = f 6 := rfl
    have z7 : va_up f 4 (upd (f 4) k 1) 7 = f 7 := rfl
    have z8 : va_up f 4 (upd (f 4) k 1) 8 = f 8 := rfl
    rw [z4, z5, z6, z7, z8, o (31 + 5 * j) (by omega) (by omega) (by omega), o (32 + 5 * j) (by omega) (by omega) (by omega), o (33 + 5 * j) (by omega) (by omega) (by omega), o (34 + 5 * j) (by omega) (by omega) (by omega)]
    by_cases hjk : j = k
    · subst hjk
      rw [e30, upd_s]
      exact ⟨rfl, q1, q2, q3, q4, fun h => absurd h (by decide), Or.inr (Or.inl rfl)⟩
    · rw [o (30 + 5 * j) (by omega) (by omega) (by omega), upd_o _ _ hjk]
      exact ⟨q0, q1, q2, q3, q4, q5, q6⟩
theorem p_quench {nf ns k : Nat} {f : Nat → Nat → Int32} {s : Nat → Int32} (hR : RH nf ns f s) (hk : k < ns) :
    ∃ (v : Int32) (s' : Nat → Int32), F_X5_wet (nI k) (s 7) (f 6) (f 8) = some ((), upd (f 6) k v, upd (f 8) k 15) ∧ F_X12_quenches (nI k) s = some (f 8 k, s') ∧ RH nf ns (va_up (va_up f 6 (upd (f 6) k v)) 8 (upd (f 8) k 15)) s' ∧ (∀ j, j < 14 → s' j = s j) := by
  obtain ⟨⟨h6, hn1, hn4⟩, ⟨h7, hns⟩, hh, hA, hF, hS⟩ := id hR
  obtain ⟨r0, r1, r2, r3, r4, r5, r6⟩ := hS k hk
  have hx : xin (nI k) 20 = true := xin_nI (by omega) (by decide)
  have hx2 : xin (nI (32 + 5 * k)) 130 = true := xin_nI (by omega) (by decide)
  have hx4 : xin (nI (34 + 5 * k)) 130 = true := xin_nI (by omega) (by decide)
  obtain ⟨v, hv⟩ : ∃ v, v = (if 800 ≤ f 6 k + 100 then 800 else f 6 k + 100) := ⟨_, rfl⟩
  have hvr : 0 ≤ v ∧ v ≤ 800 := by rw [hv]; grind
  obtain ⟨s', hs'⟩ : ∃ s', s' = upd (upd s (34 + 5 * k) 15) (32 + 5 * k) v := ⟨_, rfl⟩
  have o : ∀ j, j ≠ 32 + 5 * k → j ≠ 34 + 5 * k → s' j = s j := fun j a b => by rw [hs', upd_o _ _ a, upd_o _ _ b]
  have e32 : s' (32 + 5 * k) = v := by rw [hs', upd_s]
  have e34 : s' (34 + 5 * k) = 15 := by rw [hs', upd_o _ _ (by omega), upd_s]
  refine ⟨v, s', ?_, ?_, ⟨⟨(o 6 (by omega) (by omega)).trans h6, hn1, hn4⟩, ⟨(o 7 (by omega) (by omega)).trans h7, hns⟩, by rw [o 1 (by omega) (by omega)]; exact hh, hA.cong (o 2 (by omega) (by omega)) (o 3 (by omega) (by omega)) (o 4 (by omega) (by omega)) (o 5 (by omega) (by omega)), hF.cong hn4 (fun j h14 h30 => o j (by omega) (by omega)) rfl rfl rfl rfl, ?_⟩, fun j h14 => o j (by omega) (by omega)⟩
  · unfold F_X5_wet F_X5_wet_b45
    rw [h7, k_exS hns hk, Option.bind_some, if_neg (by decide), if_pos hx, if_pos hx, if_pos hx, if_pos hx, tnI (by omega), hv]
    by_cases h : 800 ≤ f 6 k + 100
    · rw [if_pos h, if_pos h]
    · rw [if_neg h, if_neg h]
  · unfold F_X12_quenches F_X12_quenches_b52
    rw [m_of4 (by omega), Option.bind_some, m_of2 (by omega), Option.bind_some, m_atS4, Option.bind_some, if_pos hx4, m_atS2, Option.bind_some, if_pos hx2, if_pos hx2, tnI (k := 34 + 5 * k) (by omega), tnI (k := 32 + 5 * k) (by omega), r4, r2.1, hs', hv]
    by_cases h : f 6 k + 100 ≤ 800
    · rw [if_pos h]
      by_cases h2 : 800 ≤ f 6 k + 100
      · rw [if_pos h2, show f 6 k + 100 = 800 by grind]
      · rw [if_neg h2]
    · rw [if_neg h, if_pos (by grind)]
  · intro j hj
    obtain ⟨q0, q1, q2, q3, q4, q5, q6⟩ := hS j hj
    have z4 : va_up (va_up f 6 (upd (f 6) k v)) 8 (upd (f 8) k 15) 4 = f 4 := rfl
    have z5 : va_up (va_up f 6 (upd (f 6) k v)) 8 (upd (f 8) k 15) 5 = f 5 := rfl
    have z6 : va_up (va_up f 6 (upd (f 6) k v)) 8 (upd (f 8) k 15) 6 = upd (f 6) k v := rfl
    have z7 : va_up (va_up f 6 (upd (f 6) k v)) 8 (upd (f 8) k 15) 7 = f 7 := rfl
    have z8 : va_up (va_up f 6 (upd (f 6) k v)) 8 (upd (f 8) k 15) 8 = upd (f 8) k 15 := rfl
    rw [z4, z5, z6, z7, z8, o (30 + 5 * j) (by omega) (by omega), o (31 + 5 * j) (by omega) (by omega), o (33 + 5 * j) (by omega) (by omega)]
    by_cases hjk : j = k
    · subst hjk
      rw [e32, e34, upd_s, upd_s]
      exact ⟨q0, q1, ⟨rfl, hvr⟩, q3, rfl, fun _ => ⟨by decide, (by decide : (15 : Int32) ≤ 109)⟩, q6⟩
    · rw [o (32 + 5 * j) (by omega) (by omega), o (34 + 5 * j) (by omega) (by omega), upd_o _ _ hjk, upd_o _ _ hjk]
      exact ⟨q0, q1, q2, q3, q4, q5, q6⟩
