/-! PURE: the two other forecasts -/
theorem p_one {N nf ns : Nat} {f : Nat → Nat → Int32} {s : Nat → Int32} (hN : 1000 ≤ N) (hR : RH nf ns f s) (t w : Nat → Int32) :
    ∃ (f' : Nat → Nat → Int32) (s' t' w' : Nat → Int32) (c : Int32),
      F_X3_passMinutes N 1 (s 12) (s 1) (s 0) (s 13) (s 2) (s 5) (s 3) (s 4) (s 6) (f 0) (f 1) (f 2) (f 3) (s 10) (s 7) (f 5) (f 6) (f 4) (f 8) t = some (0 + c, s' 12, s' 1, s' 0, s' 13, s' 5, f' 2, f' 3, s' 10, f' 4, f' 8, t') ∧
      F_X12_minute1 N s w = some (c, s', w') ∧ RH nf ns f' s' ∧ pKeep f f' s s' := by
  obtain ⟨f', s', t', w', c, h1, h2, h3, h4, -⟩ := p_min hN hR t w
  refine ⟨f', s', t', w', c, ?_, h2, h3, h4⟩
  have go : ∀ M, F_X3_passMinutes_b4 N (s 2) (s 3) (s 4) (s 6) (f 0) (f 1) (s 7) (f 5) (f 6) (M + 1 + 1) 1 0 0 (s 12) (s 1) (s 0) (s 13) (s 5) (f 2) (f 3) (s 10) (f 4) (f 8) t = some (0 + c, s' 12, s' 1, s' 0, s' 13, s' 5, f' 2, f' 3, s' 10, f' 4, f' 8, t') := by
    intro M
    rw [h1 (M + 1) 1 0 0 (by decide), F_X3_passMinutes_b4, if_pos (by decide)]
  unfold F_X3_passMinutes
  obtain ⟨M, hM⟩ : ∃ M, N = M + 1 + 1 := ⟨N - 2, by omega⟩
  have := go M
  rw [← hM] at this
  exact this
theorem p_dryNow {nf ns i : Nat} {f : Nat → Nat → Int32} {s : Nat → Int32} (hR : RH nf ns f s) (hi : i < nf) : ∃ b, F_X1_holdsDryLoad (nI i) (s 6) (f 1) (f 2) = some b ∧ F_X12_isDryNow (nI i) s = some b := by
  obtain ⟨⟨h6, hn1, hn4⟩, -, -, -, hF, -⟩ := id hR
  unfold F_X1_holdsDryLoad F_X12_isDryNow F_X1_holdsDryLoad_b23 F_X12_isDryNow_b23
  rw [h6, k_taken hn4 hi, Option.bind_some, m_loadedR hR hi, Option.bind_some]
  by_cases q : f 1 i ≤ 0
  · rw [if_pos q, if_pos rfl, if_pos rfl]; exact ⟨0, rfl, rfl⟩
  · rw [if_neg q, if_neg (show ¬ (1 : Int32) = 0 by decide), if_pos (xin_nI (by omega) (by decide)), tnI (by omega), if_neg (show ¬ (1 : Int32) = 0 by decide), m_on2 (by omega), ((hF i hi).2.2.2.2.1 (by grind)).1, Option.bind_some]
    by_cases r : 100 < f 2 i
    · rw [if_pos r]; exact ⟨0, rfl, rfl⟩
    · rw [if_neg r]; exact ⟨1, rfl, rfl⟩
theorem lp_minutesUntilDry {N nf ns i : Nat} (hN : 1000 ≤ N) (hi : i < nf) (th : Int32) (aside : Nat → Int32) : ∀ (d k : Nat) (f : Nat → Nat → Int32) (s t w : Nat → Int32), k + d = 301 → RH nf ns f s →
    ∃ (v : Int32) (q : Nat → Int32) (g : Nat → Nat → Int32) (t' s' w' : Nat → Int32), (∀ fu, d < fu → F_X11_minutesUntilDry_b23 N fu (nI i) (nI k) (s 12) (s 1) (s 8) (s 0) (s 13) (s 2) (s 5) (s 3) (s 4) (s 6) (f 0) (f 1) (f 2) (f 3) (s 10) (s 7) (s 11) (s 9) (f 5) (f 6) (f 7) (f 4) (f 8) t = some (Sum.inr v, q 12, q 1, q 8, q 0, q 13, q 2, q 5, q 3, q 4, q 6, g 0, g 1, g 2, g 3, q 10, q 7, q 11, q 9, g 5, g 6, g 7, g 4, g 8, t')) ∧ (∀ fu l3, d < fu → F_X12_minutesUntilDry_b53 N fu (nI i) (nI k) l3 th aside s w = some (v, th, aside, s', w')) ∧ (∀ j, j < 130 → s' j = aside j) := by
  have cp : ∀ s, ∃ s', F_X12_copies N 130 130 0 0 aside s = some ((), s') ∧ ∀ j, j < 130 → s' j = aside j := fun s => by
    obtain ⟨s', a, b, -⟩ := m_copies hN aside s
    exact ⟨s', a, b⟩
  intro d
  induction d with
  | zero =>
    intro k f s t w hk hR
    have hk' : k = 301 := by omega
    subst hk'
    obtain ⟨s1, gs, hs⟩ := cp s
    refine ⟨-1, s, f, t, s1, w, fun fu hfu => ?_, fun fu l3 hfu => ?_, hs⟩
    · obtain ⟨m, rfl⟩ : ∃ m, fu = m + 1 := ⟨fu - 1, by omega⟩
      rw [F_X11_minutesUntilDry_b23, if_pos (show (300 : Int32) < nI 301 by decide)]
    · obtain ⟨m, rfl⟩ : ∃ m, fu = m + 1 := ⟨fu - 1, by omega⟩
      rw [F_X12_minutesUntilDry_b53, if_pos (show (300 : Int32) < nI 301 by decide)]
      unfold F_X12_minutesUntilDry_b81
      rw [gs, Option.bind_some, if_neg (show ¬ nI 301 ≤ (300 : Int32) by decide)]
  | succ d ih =>
    intro k f s t w hk hR
    have hk3 : ¬ (300 : Int32) < nI k := fun q => by have := (nI_ltI (a := 300) (b := k) (by decide) (by omega)).mp q; omega
    have hk4 : nI k ≤ (300 : Int32) := nI_le (b := 300) (by omega) (by decide)
    obtain ⟨f', s', t', w', c, g1, g2, hR', ⟨⟨k0, k1, k5, k6, k7⟩, j2, j3, j4, j6, j7, j8, j9, j11⟩⟩ := p_one hN hR t w
    obtain ⟨v, q, g, t1, s1, w1, r1, r2, r3⟩ := ih (k + 1) f' s' t' w' (by omega) hR'
    obtain ⟨b, e1, e2⟩ := p_dryNow hR hi
    by_cases hb : b = 0
    · refine ⟨v, q, g, t1, s1, w1, fun fu hfu => ?_, fun fu l3 hfu => ?_, r3⟩
      · obtain ⟨m, rfl⟩ : ∃ m, fu = m + 1 := ⟨fu - 1, by omega⟩
        have r := r1 m (by omega)
        rw [k0, k1, k5, k6, k7, j2, j3, j4, j6, j7, j8, j9, j11] at r
        rw [F_X11_minutesUntilDry_b23, if_neg hk3, e1, Option.bind_some, if_pos hb, g1, Option.bind_some, nI_1]
        exact r
      · obtain ⟨m, rfl⟩ : ∃ m, fu = m + 1 := ⟨fu - 1, by omega⟩
        rw [F_X12_minutesUntilDry_b53, if_neg hk3, e2, Option.bind_some, if_pos hb, g2, Option.bind_some, nI_1]
        exact r2 m _ (by omega)
    · obtain ⟨s2, gs, hs⟩ := cp s
      refine ⟨nI k, s, f, t, s2, w, fun fu hfu => ?_, fun fu l3 hfu => ?_, hs⟩
      · obtain ⟨m, rfl⟩ : ∃ m, fu = m + 1 := ⟨fu - 1, by omega⟩
        rw [F_X11_minutesUntilDry_b23, if_neg hk3, e1, Option.bind_some, if_neg hb]
      · obtain ⟨m, rfl⟩ : ∃ m, fu = m + 1 := ⟨fu - 1, by omega⟩
        rw [F_X12_minutesUntilDry_b53, if_neg hk3, e2, Option.bind_some, if_neg hb]
        unfold F_X12_minutesUntilDry_b81
        rw [gs, Option.bind_some, if_pos hk4]
theorem lp_minutesUntilBurnt {N nf ns i : Nat} (hN : 1000 ≤ N) (hi : i < ns) (th : Int32) (aside : Nat → Int32) : ∀ (d k : Nat) (f : Nat → Nat → Int32) (s t w : Nat → Int32), k + d = 301 → RH nf ns f s →
    ∃ (v : Int32) (q : Nat → Int32) (g : Nat → Nat → Int32) (t' s' w' : Nat → Int32), (∀ fu, d < fu → F_X11_minutesUntilBurnt_b18 N fu (nI i) (nI k) (s 12) (s 1) (s 8) (s 0) (s 13) (s 2) (s 5) (s 3) (s 4) (s 6) (f 0) (f 1) (f 2) (f 3) (s 10) (s 7) (s 11) (s 9) (f 5) (f 6) (f 7) (f 4) (f 8) t = some (Sum.inr v, q 12, q 1, q 8, q 0, q 13, q 2, q 5, q 3, q 4, q 6, g 0, g 1, g 2, g 3, q 10, q 7, q 11, q 9, g 5, g 6, g 7, g 4, g 8, t')) ∧ (∀ fu l3, d < fu → F_X12_minutesUntilBurnt_b32 N fu (nI i) (nI k) l3 th aside s w = some (v, th, aside, s', w')) ∧ (∀ j, j < 130 → s' j = aside j) := by
  have cp : ∀ s, ∃ s', F_X12_copies N 130 130 0 0 aside s = some ((), s') ∧ ∀ j, j < 130 → s' j = aside j := fun s => by
    obtain ⟨s', a, b, -⟩ := m_copies hN aside s
    exact ⟨s', a, b⟩
  intro d
  induction d with
  | zero =>
    intro k f s t w hk hR
    have hk' : k = 301 := by omega
    subst hk'
    obtain ⟨s1, gs, hs⟩ := cp s
    refine ⟨-1, s, f, t, s1, w, fun fu hfu => ?_, fun fu l3 hfu => ?_, hs⟩
    · obtain ⟨m, rfl⟩ : ∃ m, fu = m + 1 := ⟨fu - 1, by omega⟩
      rw [F_X11_minutesUntilBurnt_b18, if_pos (show (300 : Int32) < nI 301 by decide)]
    · obtain ⟨m, rfl⟩ : ∃ m, fu = m + 1 := ⟨fu - 1, by omega⟩
      rw [F_X12_minutesUntilBurnt_b32, if_pos (show (300 : Int32) < nI 301 by decide)]
      unfold F_X12_minutesUntilBurnt_b62
      rw [gs, Option.bind_some, if_neg (show ¬ nI 301 ≤ (300 : Int32) by decide)]
  | succ d ih =>
    intro k f s t w hk hR
    have hk3 : ¬ (300 : Int32) < nI k := fun q => by have := (nI_ltI (a := 300) (b := k) (by decide) (by omega)).mp q; omega
    have hk4 : nI k ≤ (300 : Int32) := nI_le (b := 300) (by omega) (by decide)
    obtain ⟨f', s', t', w', c, g1, g2, hR', ⟨⟨k0, k1, k5, k6, k7⟩, j2, j3, j4, j6, j7, j8, j9, j11⟩⟩ := p_one hN hR t w
    obtain ⟨v, q, g, t1, s1, w1, r1, r2, r3⟩ := ih (k + 1) f' s' t' w' (by omega) hR'
    obtain ⟨-, ⟨h7, hns⟩, -, -, -, hS⟩ := id hR
    have hx : xin (nI i) 20 = true := xin_nI (by omega) (by decide)
    have e2 : F_X12_of (nI i) 0 s = some (f 4 i) := by rw [m_of0 (by omega), (hS i hi).1]
    by_cases hb : ¬ f 4 i = 2
    · refine ⟨v, q, g, t1, s1, w1, fun fu hfu => ?_, fun fu l3 hfu => ?_, r3⟩
      · obtain ⟨m, rfl⟩ : ∃ m, fu = m + 1 := ⟨fu - 1, by omega⟩
        have r := r1 m (by omega)
        rw [k0, k1, k5, k6, k7, j2, j3, j4, j6, j7, j8, j9, j11] at r
        rw [F_X11_minutesUntilBurnt_b18, if_neg hk3, if_pos hx, tnI (by omega), if_neg hb, g1, Option.bind_some, nI_1]
        exact r
      · obtain ⟨m, rfl⟩ : ∃ m, fu = m + 1 := ⟨fu - 1, by omega⟩
        rw [F_X12_minutesUntilBurnt_b32, if_neg hk3, e2, Option.bind_some, if_neg hb, g2, Option.bind_some, nI_1]
        exact r2 m _ (by omega)
    · obtain ⟨s2, gs, hs⟩ := cp s
      refine ⟨nI k, s, f, t, s2, w, fun fu hfu => ?_, fun fu l3 hfu => ?_, hs⟩
      · obtain ⟨m, rfl⟩ : ∃ m, fu = m + 1 := ⟨fu - 1, by omega⟩
        rw [F_X11_minutesUntilBurnt_b18, if_neg hk3, if_pos hx, tnI (by omega), if_pos (Decidable.not_not.mp hb)]
      · obtain ⟨m, rfl⟩ : ∃ m, fu = m + 1 := ⟨fu - 1, by omega⟩
        rw [F_X12_minutesUntilBurnt_b32, if_neg hk3, e2, Option.bind_some, if_pos (Decidable.not_not.mp hb)]
        unfold F_X12_minutesUntilBurnt_b62
        rw [gs, Option.bind_some, if_pos hk4]
