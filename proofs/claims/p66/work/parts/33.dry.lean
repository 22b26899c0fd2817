/-! PURE: a minute's drying -/
def pX (T D : Int32) : Int32 := ((T - 15) * (1 + D)) / 10
theorem pX_r {T D : Int32} (hT : 15 ≤ T ∧ T ≤ 200) (hD : 0 ≤ D ∧ D ≤ 17) : 0 ≤ pX T D := by
  obtain ⟨a, ha, ea⟩ := n_of (x := T - 15) (n := 185) (by decide) (by grind) (show _ ≤ (185 : Int32) by grind)
  obtain ⟨b, hb, eb⟩ := n_of (x := 1 + D) (n := 18) (by decide) (by grind) (show _ ≤ (18 : Int32) by grind)
  have hab : a * b ≤ 185 * 18 := Nat.mul_le_mul ha hb
  have e : (nI a * nI b) / 10 = nI (a * b / 10) := by rw [pk_mul]; exact pk_div (d := 10) (by omega) (by decide) (by decide)
  unfold pX
  rw [ea, eb, e]
  exact nI_pos' (by omega)
theorem pT_r {nf : Nat} {f : Nat → Nat → Int32} {s : Nat → Int32} (hF : RF nf f s) (hA : pAir s) (hh : 0 ≤ s 1 ∧ s 1 ≤ 90) (hnf : nf ≤ 4) {i : Nat} (hi : i ≤ nf) : 15 ≤ pT s i ∧ pT s i ≤ 105 := by
  have h1 := pC_r hF hnf i (by omega)
  have h2 := pD_r hA
  have h6 : 0 ≤ nI i ∧ nI i ≤ 4 := ⟨nI_pos' (by omega), nI_le (b := 4) (by omega) (by decide)⟩
  unfold pT pW
  generalize pC s i = c at *
  generalize pD s = e at *
  generalize nI i = z at *
  split <;> grind
/-- the cells of a vector but the floors' moistures and scorch points -/
def eqOut (s s' : Nat → Int32) : Prop := (∀ j, j < 14 → s' j = s j) ∧ (∀ j, 30 ≤ j → s' j = s j)
theorem eqOut.rf {s : Nat → Int32} : eqOut s s := ⟨fun _ _ => rfl, fun _ _ => rfl⟩
theorem eqOut.tr {s s' t : Nat → Int32} (h : eqOut s s') (k : eqOut s' t) : eqOut s t := ⟨fun j hj => (k.1 j hj).trans (h.1 j hj), fun j hj => (k.2 j hj).trans (h.2 j hj)⟩
theorem k_dec {nf i : Nat} {f : Nat → Nat → Int32} (hnf : nf ≤ 4) (hi : i < nf) (T D : Int32) : F_X1_decrease (nI i) T D (nI nf) (f 1) (f 2) = some (if f 1 i ≤ 0 then 0 else if f 2 i ≤ pX T D then f 2 i else pX T D) := by
  unfold F_X1_decrease
  rw [k_taken hnf hi, Option.bind_some]
  by_cases h : f 1 i ≤ 0
  · rw [if_pos h, if_pos rfl, if_pos h]
  · rw [if_neg h, if_neg (by decide), if_neg h, if_pos (xin_nI (by omega) (by decide)), if_pos (xin_nI (by omega) (by decide)), tnI (by omega)]
    exact some_if _ _ _
theorem m_dries {i : Nat} (hi : i < 4) (T D : Int32) (s : Nat → Int32) : F_X12_dries (nI i) T D s = some (if s (16 + 4 * i) ≤ pX T D then s (16 + 4 * i) else pX T D) := by
  unfold F_X12_dries
  rw [m_on2 hi, Option.bind_some, Option.bind_some]
  exact some_if _ _ _
/-- a floor's drying, class and model -/
theorem d_one {N nf i : Nat} {f : Nat → Nat → Int32} {s w : Nat → Int32} {T D : Int32} (hnf : nf ≤ 4) (hi : i < nf) (h6 : s 6 = nI nf) (hF : RF nf f s) (hT : 15 ≤ T ∧ T ≤ 200) (hD : 0 ≤ D ∧ D ≤ 17) (hw : w i = T) :
    ∃ (g2 g3 s' : Nat → Int32), F_X1_dryLoad (nI i) T D (nI nf) (f 1) (f 2) (f 3) = some ((), g2, g3) ∧ (∀ k, F_X12_driesAll_b37 N (k + 1) D (nI i) s w = F_X12_driesAll_b37 N k D (nI (i + 1)) s' w) ∧ RF nf (va_up (va_up f 2 g2) 3 g3) s' ∧ eqOut s s' := by
  obtain ⟨hl, hm, hq, hsc, hp, hz⟩ := hF i hi
  have hxi : xin (nI i) 4 = true := xin_nI (by omega) (by decide)
  have hx2 : xin (nI (16 + 4 * i)) 130 = true := xin_nI (by omega) (by decide)
  have hx3 : xin (nI (17 + 4 * i)) 130 = true := xin_nI (by omega) (by decide)
  have hle : ¬ s 6 ≤ nI i := by rw [h6]; exact nI_ge (by omega) (by omega)
  have kd := fun (a b : Int32) => k_dec (f := f) hnf hi a b
  by_cases h0 : f 1 i ≤ 0
  · refine ⟨f 2, f 3, s, ?_, fun k => ?_, ?_, eqOut.rf⟩
    · unfold F_X1_dryLoad
      rw [k_taken hnf hi, Option.bind_some, if_pos h0, if_pos rfl]
    · rw [F_X12_driesAll_b37]
      unfold F_X12_driesAll_b138
      rw [tn6, if_neg hle, show F_X12_isLoaded (nI i) s = some 0 by rw [m_loaded (by omega), hm.1, if_pos h0], Option.bind_some, if_pos rfl, nI_1]
    · have e : va_up (va_up f 2 (f 2)) 3 (f 3) = f := by
        funext k; unfold va_up; split
        · rename_i h; rw [h]
        · split
          · rename_i h; rw [h]
          · rfl
      rw [e]; exact hF
  · obtain ⟨e2, e3⟩ := hp (by grind)
    obtain ⟨x, hx⟩ : ∃ x, x = (if f 2 i ≤ pX T D then f 2 i else pX T D) := ⟨_, rfl⟩
    have hX := pX_r hT hD
    have hxr : 0 ≤ x ∧ x ≤ f 2 i := by rw [hx]; split <;> grind
    obtain ⟨c, hc⟩ : ∃ c : Bool, c = decide (60 < T ∧ f 2 i - x < 200 ∧ f 3 i < 100) := ⟨_, rfl⟩
    obtain ⟨m', hm'⟩ : ∃ m', m' = f 2 i - x := ⟨_, rfl⟩
    obtain ⟨c', hc'⟩ : ∃ c', c' = (if 60 < T ∧ m' < 200 ∧ f 3 i < 100 then f 3 i + 1 else f 3 i) := ⟨_, rfl⟩
    have hcr : 0 ≤ c' ∧ c' ≤ 100 := by rw [hc']; split <;> grind
    have hmr : 0 ≤ m' ∧ m' ≤ 800 := by rw [hm']; grind
    obtain ⟨s1, hs1⟩ : ∃ s1, s1 = upd s (16 + 4 * i) m' := ⟨_, rfl⟩
    have hup : ∀ (g : Nat → Int32), g i = f 3 i → (if 60 < T ∧ m' < 200 ∧ f 3 i < 100 then upd g i (f 3 i + 1) else g) = upd g i c' := by
      intro g hg
      rw [hc']
      split
      · rfl
      · funext j; unfold upd; split
        · rename_i h; rw [h, hg]
        · rfl
    refine ⟨upd (f 2) i m', upd (f 3) i c', upd s1 (17 + 4 * i) c', ?_, fun k => ?_, fun j hj => ?_, ⟨fun j hj => ?_, fun j hj => ?_⟩⟩
    · unfold F_X1_dryLoad
      rw [k_taken hnf hi, Option.bind_some, if_neg h0, if_neg (by decide), if_pos hxi, kd T D, Option.bind_some, if_neg h0, ← hx, tnI (by omega), if_pos hxi, ← hm']
      rw [← hup (f 3) rfl]
      by_cases c1 : T ≤ 60
      · rw [if_pos c1, if_neg (by grind)]
      · rw [if_neg c1, if_pos hxi, upd_s]
        by_cases c2 : 200 ≤ m'
        · rw [if_pos c2, if_neg (by grind)]
        · rw [if_neg c2, if_pos hxi]
          by_cases c3 : 100 ≤ f 3 i
          · rw [if_pos c3, if_neg (by grind)]
          · rw [if_neg c3, if_pos hxi, if_pos hxi, if_pos (by grind)]
    · rw [F_X12_driesAll_b37]
      unfold F_X12_driesAll_b119 F_X12_driesAll_b120 F_X12_driesAll_b138
      rw [tn6, if_neg hle, show F_X12_isLoaded (nI i) s = some 1 by rw [m_loaded (by omega), hm.1, if_neg h0], Option.bind_some, if_neg (by decide), m_atF2, Option.bind_some, if_pos hx2, if_pos hxi, tnI (k := i) (by omega), hw, m_dries (by omega), Option.bind_some, e2, ← hx, if_pos hx2, if_pos hxi, tnI (k := 16 + 4 * i) (by omega), e2, ← hm', ← hs1, m_atF3, Option.bind_some, Option.bind_some, if_pos hx3, if_pos hx3, tnI (k := 17 + 4 * i) (by omega), nI_1]
      have es3 : s1 (17 + 4 * i) = f 3 i := by rw [hs1, upd_o _ _ (by omega), e3]
      have es2 : s1 (16 + 4 * i) = m' := by rw [hs1, upd_s]
      have f0 : F_X12_flag 0 = some 0 := rfl
      have f1 : F_X12_flag 1 = some 1 := rfl
      have hz0 : upd s1 (17 + 4 * i) (f 3 i + 0) = upd s1 (17 + 4 * i) (f 3 i) := by rw [show f 3 i + 0 = f 3 i by grind]
      rw [f0, f1, Option.bind_some, Option.bind_some, if_pos hx3, if_pos hx3, m_on2 (by omega), Option.bind_some, m_on3 (by omega), Option.bind_some, es3, es2, hz0, hc']
      by_cases c1 : T ≤ 60
      · rw [if_pos c1, if_neg (by grind)]
      · rw [if_neg c1]
        by_cases c2 : 200 ≤ m'
        · rw [if_pos c2, if_neg (by grind)]
        · rw [if_neg c2]
          by_cases c3 : 100 ≤ f 3 i
          · rw [if_pos c3, if_neg (by grind)]
          · rw [if_neg c3, if_pos (by grind)]
    · obtain ⟨gl, gm, gq, gs, gp, gz⟩ := hF j hj
      have q0 : (va_up (va_up f 2 (upd (f 2) i m')) 3 (upd (f 3) i c')) 0 = f 0 := rfl
      have q1 : (va_up (va_up f 2 (upd (f 2) i m')) 3 (upd (f 3) i c')) 1 = f 1 := rfl
      have q2 : (va_up (va_up f 2 (upd (f 2) i m')) 3 (upd (f 3) i c')) 2 = upd (f 2) i m' := rfl
      have q3 : (va_up (va_up f 2 (upd (f 2) i m')) 3 (upd (f 3) i c')) 3 = upd (f 3) i c' := rfl
      rw [q0, q1, q2, q3, hs1]
      rw [upd_o _ _ (show 14 + 4 * j ≠ 17 + 4 * i by omega), upd_o _ _ (show 14 + 4 * j ≠ 16 + 4 * i by omega), upd_o _ _ (show 15 + 4 * j ≠ 17 + 4 * i by omega), upd_o _ _ (show 15 + 4 * j ≠ 16 + 4 * i by omega), upd_o _ _ (show 16 + 4 * j ≠ 17 + 4 * i by omega)]
      by_cases hij : j = i
      · subst hij
        rw [upd_s, upd_s, upd_s, upd_s]
        exact ⟨gl, gm, hmr, hcr, fun _ => ⟨rfl, rfl⟩, fun h => absurd h h0⟩
      · rw [upd_o _ _ (show 16 + 4 * j ≠ 16 + 4 * i by omega), upd_o _ _ (show 17 + 4 * j ≠ 17 + 4 * i by omega), upd_o _ _ (show 17 + 4 * j ≠ 16 + 4 * i by omega), upd_o _ _ hij, upd_o _ _ hij]
        exact ⟨gl, gm, gq, gs, gp, gz⟩
    · rw [upd_o _ _ (by omega), hs1, upd_o _ _ (by omega)]
    · rw [upd_o _ _ (by omega), hs1, upd_o _ _ (by omega)]
theorem d_all {N nf : Nat} (hnf : nf ≤ 4) {D : Int32} (hD : 0 ≤ D ∧ D ≤ 17) {w t : Nat → Int32} (hw : ∀ i, i < nf → w i = t i ∧ 15 ≤ t i ∧ t i ≤ 200) : ∀ (d i : Nat) (f : Nat → Nat → Int32) (s : Nat → Int32), i + d = nf → s 6 = nI nf → RF nf f s →
    ∃ (g2 g3 s' : Nat → Int32), (∀ fu, d < fu → F_X3_dryLoads_b41 N (nI nf) (f 1) fu D (nI i) (f 2) (f 3) t = some ((), g2, g3, t)) ∧ (∀ fu, d < fu → F_X12_driesAll_b37 N fu D (nI i) s w = some ((), s', w)) ∧ RF nf (va_up (va_up f 2 g2) 3 g3) s' ∧ eqOut s s' := by
  intro d
  induction d with
  | zero =>
    intro i f s hi h6 hF
    obtain rfl : i = nf := by omega
    refine ⟨f 2, f 3, s, fun fu hf => ?_, fun fu hf => ?_, ?_, eqOut.rf⟩
    · obtain ⟨k, rfl⟩ : ∃ k, fu = k + 1 := ⟨fu - 1, by omega⟩
      rw [F_X3_dryLoads_b41, if_pos (nI_le (Nat.le_refl _) (by omega))]
    · obtain ⟨k, rfl⟩ : ∃ k, fu = k + 1 := ⟨fu - 1, by omega⟩
      rw [F_X12_driesAll_b37, tn6, h6, if_pos (nI_le (Nat.le_refl _) (by omega))]
    · have e : va_up (va_up f 2 (f 2)) 3 (f 3) = f := by
        funext k; unfold va_up; split
        · rename_i h; rw [h]
        · split
          · rename_i h; rw [h]
          · rfl
      rw [e]; exact hF
  | succ d ih =>
    intro i f s hi h6 hF
    have hwi := hw i (by omega)
    obtain ⟨g2, g3, s1, h1, h2, h3, h4⟩ := d_one (N := N) (w := w) (T := t i) hnf (i := i) (by omega) h6 hF ⟨hwi.2.1, hwi.2.2⟩ hD hwi.1
    obtain ⟨k2, k3, s2, j1, j2, j3, j4⟩ := ih (i + 1) (va_up (va_up f 2 g2) 3 g3) s1 (by omega) (by rw [h4.1 6 (by decide)]; exact h6) h3
    refine ⟨k2, k3, s2, fun fu hf => ?_, fun fu hf => ?_, ?_, h4.tr j4⟩
    · obtain ⟨k, rfl⟩ : ∃ k, fu = k + 1 := ⟨fu - 1, by omega⟩
      rw [F_X3_dryLoads_b41, if_neg (nI_ge (by omega) (by omega)), if_pos (xin_nI (by omega) (by decide)), tnI (by omega), h1, Option.bind_some, nI_1]
      exact j1 k (by omega)
    · obtain ⟨k, rfl⟩ : ∃ k, fu = k + 1 := ⟨fu - 1, by omega⟩
      rw [h2]
      exact j2 k (by omega)
    · have e : va_up (va_up (va_up (va_up f 2 g2) 3 g3) 2 k2) 3 k3 = va_up (va_up f 2 k2) 3 k3 := by
        funext k; unfold va_up; split
        · rfl
        · split
          · rfl
          · rfl
      rw [e] at j3
      exact j3
