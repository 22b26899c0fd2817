/-! PURE: the damper -/
/-- the greatest heat at which floor i isn't too warm -/
def pB (s : Nat → Int32) (i : Nat) : Int32 := 4 * nI i + pD s + pC s i + s (14 + 4 * i) - 15
/-- the heat behind the damper: floors i .. i + d - 1 act -/
def pH (s : Nat → Int32) (d : Nat) (x : Int32) : Int32 := it (fun j a => if pB s j < a then pB s j else a) 0 d x
def pDamp (nf : Nat) (s : Nat → Int32) : Nat → Int32 := upd (upd s 1 (pH s nf (s 1))) 12 (s 12 + (s 1 - pH s nf (s 1)))
theorem pC_upd {s s' : Nat → Int32} : ∀ d, (∀ j, j < d → s' (16 + 4 * j) = s (16 + 4 * j)) → pC s' d = pC s d := by
  intro d
  induction d with
  | zero => intro _; rfl
  | succ d ih => intro h; show pC s' d + s' (16 + 4 * d) / 100 = pC s d + s (16 + 4 * d) / 100; rw [ih (fun j hj => h j (by omega)), h d (by omega)]
theorem pD_upd {s s' : Nat → Int32} (h2 : s' 2 = s 2) (h3 : s' 3 = s 3) (h4 : s' 4 = s 4) (h5 : s' 5 = s 5) : pD s' = pD s := by
  unfold pD pD0 pDv pCw; rw [h2, h3, h4, h5]
theorem pC_r {nf : Nat} {f : Nat → Nat → Int32} {s : Nat → Int32} (hF : RF nf f s) (hnf : nf ≤ 4) : ∀ d, d ≤ nf → 0 ≤ pC s d ∧ pC s d ≤ 8 * nI d := by
  intro d
  induction d with
  | zero => intro _; exact ⟨(by decide : (0 : Int32) ≤ 0), (by decide : (0 : Int32) ≤ 8 * nI 0)⟩
  | succ d ih =>
    intro hd
    obtain ⟨-, -, h3, -⟩ := hF d (by omega)
    have h4 := p_cent h3.1 h3.2
    have h5 := ih (by omega)
    have h6 : 0 ≤ nI d ∧ nI d ≤ 4 := ⟨nI_pos' (by omega), nI_le (b := 4) (by omega) (by decide)⟩
    have h7 : nI (d + 1) = nI d + 1 := nI_succ d
    show 0 ≤ pC s d + s (16 + 4 * d) / 100 ∧ pC s d + s (16 + 4 * d) / 100 ≤ _
    rw [h7]
    generalize s (16 + 4 * d) / 100 = q at h4
    grind
theorem pB_r {nf : Nat} {f : Nat → Nat → Int32} {s : Nat → Int32} (hF : RF nf f s) (hA : pAir s) (hnf : nf ≤ 4) {i : Nat} (hi : i < nf) : 25 ≤ pB s i ∧ pB s i ≤ 200 := by
  have h1 := pC_r hF hnf i (by omega)
  have h2 := pD_r hA
  have h6 : 0 ≤ nI i ∧ nI i ≤ 4 := ⟨nI_pos' (by omega), nI_le (b := 4) (by omega) (by decide)⟩
  obtain ⟨⟨e1, h3, h4⟩, -⟩ := hF i hi
  unfold pB
  rw [e1]
  grind
theorem pT_le {nf : Nat} {f : Nat → Nat → Int32} {s : Nat → Int32} (hF : RF nf f s) (hA : pAir s) (hh : 0 ≤ s 1 ∧ s 1 ≤ 90) (hnf : nf ≤ 4) {i : Nat} (hi : i < nf) : (pT s i ≤ s (14 + 4 * i) ↔ s 1 ≤ pB s i) ∧ (pB s i < s 1 → pT s i - s (14 + 4 * i) = s 1 - pB s i) := by
  have h1 := pC_r hF hnf i (by omega)
  have h2 := pD_r hA
  have h6 : 0 ≤ nI i ∧ nI i ≤ 4 := ⟨nI_pos' (by omega), nI_le (b := 4) (by omega) (by decide)⟩
  obtain ⟨⟨e1, h3, h4⟩, -⟩ := hF i hi
  unfold pT pW pB
  rw [e1]
  generalize pC s i = c at *
  generalize pD s = e at *
  generalize nI i = z at *
  generalize s 1 = y at *
  generalize f 0 i = w at *
  constructor
  · split <;> constructor <;> intro h <;> grind
  · intro h; split <;> grind
theorem pH_succ (s : Nat → Int32) (d : Nat) (x : Int32) : pH s (d + 1) x = if pB s d < pH s d x then pB s d else pH s d x := by
  unfold pH; rw [it_snoc, Nat.zero_add]
theorem pH_r {nf : Nat} {f : Nat → Nat → Int32} {s : Nat → Int32} (hF : RF nf f s) (hA : pAir s) (hnf : nf ≤ 4) {x : Int32} (h0 : 0 ≤ x) (h1 : x ≤ 90) : ∀ d, d ≤ nf → 0 ≤ pH s d x ∧ pH s d x ≤ x := by
  intro d
  induction d with
  | zero => intro _; exact ⟨h0, by show x ≤ x; grind⟩
  | succ d ih =>
    intro hd
    have h3 := pB_r hF hA hnf (i := d) (by omega)
    have h4 := ih (by omega)
    rw [pH_succ]
    split <;> grind
/-- class: one floor after the other -/
theorem k_damp {N nf : Nat} {f : Nat → Nat → Int32} {s : Nat → Int32} (hN : 1000 ≤ N) (hnf : nf ≤ 4) (hF : RF nf f s) (hA : pAir s) (hh : 0 ≤ s 1 ∧ s 1 ≤ 90) :
    F_X3_damp N (s 12) (s 1) (s 2) (s 5) (s 3) (s 4) (nI nf) (f 0) (f 1) (f 2) = some ((), pDamp nf s 12, pDamp nf s 1) := by
  unfold F_X3_damp; rw [k_d, Option.bind_some]
  have key : ∀ d i fu (x : Int32), i + d = nf → d < fu → x = pH s i (s 1) → F_X3_damp_b10 N (nI nf) (f 0) (f 1) (f 2) fu (pD s) (nI i) (s 12 + (s 1 - x)) x = some ((), s 12 + (s 1 - pH s nf (s 1)), pH s nf (s 1)) := by
    intro d
    induction d with
    | zero =>
      intro i fu x hi hf hx
      obtain ⟨k, rfl⟩ : ∃ k, fu = k + 1 := ⟨fu - 1, by omega⟩
      obtain rfl : i = nf := by omega
      show (if nI i ≤ nI i then _ else _) = _
      rw [if_pos (nI_le (Nat.le_refl _) (by omega)), hx]
    | succ d ih =>
      intro i fu x hi hf hx
      obtain ⟨k, rfl⟩ : ∃ k, fu = k + 1 := ⟨fu - 1, by omega⟩
      have hr := pH_r hF hA hnf hh.1 hh.2 i (by omega)
      rw [← hx] at hr
      have hF' : RF nf f (upd s 1 x) := fun j hj => by
        have h := hF j hj
        rw [upd_o _ _ (by omega), upd_o _ _ (by omega), upd_o _ _ (by omega), upd_o _ _ (by omega)]
        exact h
      have hA' : pAir (upd s 1 x) := hA
      have eD : pD (upd s 1 x) = pD s := pD_upd rfl rfl rfl rfl
      have eB : pB (upd s 1 x) i = pB s i := by
        unfold pB; rw [eD, pC_upd i (fun j hj => upd_o _ _ (by omega)), upd_o _ _ (by omega)]
      have ht := k_t (s := upd s 1 x) hN hnf (i := i) (by omega) hF'
      rw [eD] at ht
      have hl := pT_le hF' hA' (by show 0 ≤ x ∧ x ≤ 90; grind) hnf (i := i) (by omega)
      rw [eB, upd_o _ _ (show 14 + 4 * i ≠ 1 by omega)] at hl
      obtain ⟨⟨e1, -⟩, -⟩ := hF i (by omega)
      rw [e1] at hl
      show (if nI nf ≤ nI i then _ else ((F_X3_temperature N (nI i) (pD s) x (nI nf) (f 1) (f 2)).bind fun x3 => (if xin (nI i) 4 = true then (if (x3 - (f 0 (Int32.toNatClampNeg (nI i)))) ≤ 0 then F_X3_damp_b10 N (nI nf) (f 0) (f 1) (f 2) k (pD s) (nI i + 1) (s 12 + (s 1 - x)) x else F_X3_damp_b10 N (nI nf) (f 0) (f 1) (f 2) k (pD s) (nI i + 1) ((s 12 + (s 1 - x)) + (x3 - (f 0 (Int32.toNatClampNeg (nI i))))) (x - (x3 - (f 0 (Int32.toNatClampNeg (nI i)))))) else none))) = _
      rw [if_neg (nI_ge (by omega) (by omega))]
      have ht2 : F_X3_temperature N (nI i) (pD s) x (nI nf) (f 1) (f 2) = some (pT (upd s 1 x) i) := ht
      rw [ht2, Option.bind_some, if_pos (xin_nI (by omega) (by decide)), tnI (by omega), nI_1]
      have hx1 : upd s 1 x 1 = x := rfl
      rw [hx1] at hl
      have hTr : 15 ≤ pT (upd s 1 x) i ∧ pT (upd s 1 x) i ≤ 200 := by
        have h1 := pC_r hF' hnf i (by omega)
        have h2 := pD_r hA'
        have h6 : 0 ≤ nI i ∧ nI i ≤ 4 := ⟨nI_pos' (by omega), nI_le (b := 4) (by omega) (by decide)⟩
        unfold pT pW
        rw [hx1]
        generalize pC (upd s 1 x) i = c at *
        generalize pD (upd s 1 x) = e at *
        generalize nI i = z at *
        split <;> grind
      have hlim := (hF i (by omega)).1.2
      by_cases hc : pB s i < x
      · have e2 := hl.2 hc
        rw [if_neg (by grind), e2]
        have e3 : s 12 + (s 1 - x) + (x - pB s i) = s 12 + (s 1 - pB s i) := by grind
        have e4 : x - (x - pB s i) = pB s i := by grind
        rw [e3, e4]
        exact ih (i + 1) k _ (by omega) (by omega) (by rw [pH_succ, ← hx, if_pos hc])
      · rw [if_pos (by grind)]
        exact ih (i + 1) k _ (by omega) (by omega) (by rw [pH_succ, ← hx, if_neg hc])
  have h := key nf 0 N (s 1) (by omega) (by omega) rfl
  have e : s 12 + (s 1 - s 1) = s 12 := by grind
  rw [e] at h
  exact h
theorem m_warm {N nf : Nat} {f : Nat → Nat → Int32} {s : Nat → Int32} (hN : 1000 ≤ N) (hnf : nf ≤ 4) (h6 : s 6 = nI nf) (hF : RF nf f s) (hA : pAir s) (hh : 0 ≤ s 1 ∧ s 1 ≤ 90) :
    ∃ r : Int32, F_X12_isTooWarm N s = some r ∧ (r = 0 → ∀ i, i < nf → s 1 ≤ pB s i) ∧ (¬ r = 0 → ∃ i, i < nf ∧ pB s i < s 1) := by
  unfold F_X12_isTooWarm
  have key : ∀ d i fu, i + d = nf → d < fu → (∀ j, j < i → s 1 ≤ pB s j) → ∃ r : Int32, F_X12_isTooWarm_b2 N s fu (nI i) = some r ∧ (r = 0 → ∀ i, i < nf → s 1 ≤ pB s i) ∧ (¬ r = 0 → ∃ i, i < nf ∧ pB s i < s 1) := by
    intro d
    induction d with
    | zero =>
      intro i fu hi hf hb
      obtain ⟨k, rfl⟩ : ∃ k, fu = k + 1 := ⟨fu - 1, by omega⟩
      refine ⟨0, ?_, fun _ j hj => hb j (by omega), fun h => absurd rfl h⟩
      show (if (s (Int32.toNatClampNeg 6)) ≤ nI i then some 0 else _) = _
      rw [tn6, h6, if_pos (nI_le (by omega) (by omega))]
    | succ d ih =>
      intro i fu hi hf hb
      obtain ⟨k, rfl⟩ : ∃ k, fu = k + 1 := ⟨fu - 1, by omega⟩
      have hl := (pT_le hF hA hh hnf (i := i) (by omega)).1
      have e : F_X12_isTooWarm_b2 N s (k + 1) (nI i) = if pT s i ≤ s (14 + 4 * i) then F_X12_isTooWarm_b2 N s k (nI (i + 1)) else some 1 := by
        show (if (s (Int32.toNatClampNeg 6)) ≤ nI i then some 0 else ((F_X12_degrees N (nI i) s).bind fun x1 => ((F_X12_onFloor (nI i) 0 s).bind fun x3 => (if x1 ≤ x3 then F_X12_isTooWarm_b2 N s k (nI i + 1) else some 1)))) = _
        rw [tn6, h6, if_neg (nI_ge (by omega) (by omega)), m_deg hN (by omega), Option.bind_some, m_on0 (by omega), Option.bind_some, nI_1]
      rw [e]
      by_cases hc : pT s i ≤ s (14 + 4 * i)
      · rw [if_pos hc]
        refine ih (i + 1) k (by omega) (by omega) (fun j hj => ?_)
        by_cases hji : j = i
        · subst hji; exact hl.mp hc
        · exact hb j (by omega)
      · rw [if_neg hc]
        refine ⟨1, rfl, fun h => absurd h (by decide), fun _ => ⟨i, by omega, ?_⟩⟩
        have : ¬ s 1 ≤ pB s i := fun h => hc (hl.mpr h)
        grind
  exact key nf 0 N (by omega) (by omega) (fun j hj => by omega)
theorem pH_below (s : Nat → Int32) (x : Int32) : ∀ d i, i < d → pH s d x ≤ pB s i := by
  intro d
  induction d with
  | zero => intro i hi; omega
  | succ d ih =>
    intro i hi
    rw [pH_succ]
    by_cases h : i = d
    · subst h; split <;> grind
    · have := ih i (by omega); split <;> grind
theorem pH_fix (s : Nat → Int32) (x : Int32) : ∀ d, (∀ i, i < d → x ≤ pB s i) → pH s d x = x := by
  intro d
  induction d with
  | zero => intro _; rfl
  | succ d ih => intro h; rw [pH_succ, ih (fun i hi => h i (by omega))]; have := h d (by omega); rw [if_neg (by grind)]
theorem pH_down (s : Nat → Int32) (x y : Int32) (hy : y ≤ x) : ∀ d, (pH s d x ≤ y → pH s d y = pH s d x) ∧ (pH s d y ≤ y) ∧ (¬ pH s d x ≤ y → pH s d y = y) := by
  intro d
  induction d with
  | zero => exact ⟨fun h => by show y = x; have h : x ≤ y := h; grind, by show y ≤ y; grind, fun _ => rfl⟩
  | succ d ih =>
    obtain ⟨h1, h2, h3⟩ := ih
    rw [pH_succ, pH_succ]
    by_cases hc : pH s d x ≤ y
    · rw [h1 hc]
      refine ⟨fun _ => rfl, ?_, ?_⟩
      · split <;> grind
      · intro h; exfalso; apply h; split <;> grind
    · rw [h3 hc]
      refine ⟨?_, ?_, ?_⟩
      · intro h; split at h <;> split <;> grind
      · split <;> grind
      · intro h; split at h <;> split <;> grind
/-- model: one degree after the other -/
theorem m_damp {N nf : Nat} {f : Nat → Nat → Int32} (hN : 1000 ≤ N) (hnf : nf ≤ 4) : ∀ (d fu : Nat) (s : Nat → Int32), s 6 = nI nf → RF nf f s → pAir s → 0 ≤ s 1 ∧ s 1 ≤ 90 → s 1 - pH s nf (s 1) = nI d → d ≤ 90 → d < fu → F_X12_damps_b0 N fu s = some ((), pDamp nf s) := by
  intro d
  induction d with
  | zero =>
    intro fu s h6 hF hA hh hd _ hf
    obtain ⟨k, rfl⟩ : ∃ k, fu = k + 1 := ⟨fu - 1, by omega⟩
    have e : pH s nf (s 1) = s 1 := by have : s 1 - pH s nf (s 1) = 0 := hd; grind
    obtain ⟨r, hr, h0, h1⟩ := m_warm hN hnf h6 hF hA hh
    have hr0 : r = 0 := by
      refine Classical.byContradiction fun hn => ?_
      obtain ⟨i, hi, hb⟩ := h1 hn
      have := pH_below s (s 1) nf i hi
      grind
    show ((F_X12_isTooWarm N s).bind fun x1 => (if x1 = 0 then some ((), s) else _)) = _
    rw [hr, Option.bind_some, if_pos hr0]
    have e2 : pDamp nf s = s := by
      funext j
      unfold pDamp
      rw [e]
      unfold upd
      by_cases j12 : j = 12
      · rw [if_pos j12, j12]; grind
      · rw [if_neg j12]
        by_cases j1 : j = 1
        · rw [if_pos j1, j1]
        · rw [if_neg j1]
    rw [e2]
  | succ d ih =>
    intro fu s h6 hF hA hh hd hd9 hf
    obtain ⟨k, rfl⟩ : ∃ k, fu = k + 1 := ⟨fu - 1, by omega⟩
    have hdn : 0 ≤ nI d ∧ nI d ≤ 90 := ⟨nI_pos' (by omega), nI_le (b := 90) (by omega) (by decide)⟩
    have hd1 : nI (d + 1) = nI d + 1 := nI_succ d
    have hHr := pH_r hF hA hnf hh.1 hh.2 nf (Nat.le_refl _)
    obtain ⟨r, hr, h0, h1⟩ := m_warm hN hnf h6 hF hA hh
    have hr0 : ¬ r = 0 := by
      intro hn
      have := pH_fix s (s 1) nf (h0 hn)
      rw [hd1, this] at hd
      grind
    obtain ⟨i0, hi0, hb0⟩ := h1 hr0
    have hB0 := pB_r hF hA hnf hi0
    obtain ⟨s', hs'⟩ : ∃ s', s' = upd (upd s 1 (s 1 - 1)) 12 (s 12 + 1) := ⟨_, rfl⟩
    have e1 : s' 1 = s 1 - 1 := by rw [hs']; rfl
    have e12 : s' 12 = s 12 + 1 := by rw [hs']; rfl
    have eo : ∀ j, j ≠ 1 → j ≠ 12 → s' j = s j := fun j ha hb => by rw [hs', upd_o _ _ hb, upd_o _ _ ha]
    have hF' : RF nf f s' := fun j hj => by
      have h := hF j hj
      rw [eo _ (by omega) (by omega), eo _ (by omega) (by omega), eo _ (by omega) (by omega), eo _ (by omega) (by omega)]
      exact h
    have hA' : pAir s' := by unfold pAir; rw [eo 2 (by decide) (by decide), eo 3 (by decide) (by decide), eo 4 (by decide) (by decide), eo 5 (by decide) (by decide)]; exact hA
    have eD : pD s' = pD s := pD_upd (eo 2 (by decide) (by decide)) (eo 3 (by decide) (by decide)) (eo 4 (by decide) (by decide)) (eo 5 (by decide) (by decide))
    have eB : ∀ i, i < nf → pB s' i = pB s i := fun i hi => by
      unfold pB; rw [eD, pC_upd i (fun j hj => eo _ (by omega) (by omega)), eo _ (by omega) (by omega)]
    have eH : ∀ x, pH s' nf x = pH s nf x := fun x => it_cong nf 0 x (fun j a _ hj => by rw [eB j (by omega)])
    have hlt : pH s nf (s 1) ≤ s 1 - 1 := by rw [hd1] at hd; grind
    have eH2 : pH s' nf (s' 1) = pH s nf (s 1) := by
      rw [eH, e1]; exact (pH_down s (s 1) (s 1 - 1) (by grind) nf).1 hlt
    have h := ih k s' (by rw [eo 6 (by decide) (by decide), h6]) hF' hA' (by rw [e1]; grind) (by rw [eH2, e1]; rw [hd1] at hd; grind) (by omega) (by omega)
    show ((F_X12_isTooWarm N s).bind fun x1 => (if x1 = 0 then some ((), s) else F_X12_damps_b0 N k (upd (upd s 1 (s 1 - 1)) 12 ((upd s 1 (s 1 - 1)) 12 + 1)))) = _
    rw [hr, Option.bind_some, if_neg hr0]
    have e3 : upd (upd s 1 (s 1 - 1)) 12 ((upd s 1 (s 1 - 1)) 12 + 1) = s' := hs'.symm
    rw [e3, h]
    have e4 : pDamp nf s' = pDamp nf s := by
      unfold pDamp
      rw [eH2, e1, e12]
      funext j
      unfold upd
      by_cases j12 : j = 12
      · rw [if_pos j12, if_pos j12]; grind
      · rw [if_neg j12, if_neg j12]
        by_cases j1 : j = 1
        · rw [if_pos j1, if_pos j1]
        · rw [if_neg j1, if_neg j1, eo j j1 j12]
    rw [e4]
theorem m_damps {N nf : Nat} {f : Nat → Nat → Int32} {s : Nat → Int32} (hN : 1000 ≤ N) (hnf : nf ≤ 4) (h6 : s 6 = nI nf) (hF : RF nf f s) (hA : pAir s) (hh : 0 ≤ s 1 ∧ s 1 ≤ 90) : F_X12_damps N s = some ((), pDamp nf s) := by
  have hr := pH_r hF hA hnf hh.1 hh.2 nf (Nat.le_refl _)
  obtain ⟨d, hd, e⟩ := n_of (x := s 1 - pH s nf (s 1)) (n := 90) (by decide) (by grind) (show _ ≤ (90 : Int32) by grind)
  exact m_damp hN hnf d N s h6 hF hA hh e hd (by omega)
