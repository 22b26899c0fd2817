/-! PURE: one command of a script, done by both sides -/
theorem k_whyO {nf a : Int32} (h0 : ¬ a < 0) (ha : nf ≤ a) (g m : Nat → Int32) (n : Int32) : F_X3_obstacle a nf g m n = some 1 := by
  unfold F_X3_obstacle
  have e : F_X1_isTaken a nf g = some 0 := by
    unfold F_X1_isTaken F_X1_isTaken_b25
    rw [if_neg h0, if_pos ha]
  rw [e, Option.bind_some, if_pos rfl]
section ONE
variable {N nf ns i ln : Nat} {f : Nat → Nat → Int32} {s t w fs ss vs : Nat → Int32}
theorem p_one_0 (hN : 1000 ≤ N) (hQ : RQ nf ns f s) (hi : i < ln) (hl : ln ≤ 40) (hv : vs i = nI 0) (ha : 1 ≤ fs i ∧ fs i ≤ 99) (hb : 0 ≤ ss i ∧ ss i ≤ 800) : ∃ (is : Bool) (ns2 : Nat) (f2 : Nat → Nat → Int32) (s2 t2 w2 : Nat → Int32), MA N 0 (fs i) (ss i) s w is s2 w2 ∧ F_X6_canPerform (nI i) (s 0) (s 6) (f 1) (f 2) (s 7) (f 6) (f 4) (f 8) (nI ln) fs vs = some (cI is) ∧ (is = false → s2 = s ∧ w2 = w) ∧ (is = true → RQ nf ns2 f2 s2 ∧ s2 6 = s 6 ∧ f2 0 = f 0 ∧ F_X6_perform N (nI i) (s 12) (s 1) (s 8) (s 0) (s 13) (s 2) (s 5) (s 3) (s 4) (s 6) (f 0) (f 1) (f 2) (f 3) (s 10) (s 7) (s 11) (s 9) (f 5) (f 6) (f 7) (f 4) (f 8) t (nI ln) fs ss vs = some ((), s2 12, s2 1, s2 8, s2 0, s2 13, s2 2, s2 5, s2 3, s2 4, f2 1, f2 2, f2 3, s2 10, s2 7, s2 11, s2 9, f2 5, f2 6, f2 7, f2 4, f2 8, t2)) := by
  obtain ⟨hR, h0, hD⟩ := id hQ
  obtain ⟨⟨h6, hn1, hn4⟩, ⟨h7, hns⟩, hh, hA, hF, hS⟩ := id hR
  have e6 : s 6 - 1 = nI (nf - 1) := by rw [h6]; exact nI_pm hn1
  by_cases h3 : f 1 (nf - 1) ≤ 0
  · obtain ⟨f2, s2, g1, ⟨g2, g3⟩, g4, ⟨g0, k4, k5, k6, k7, k8⟩, g6⟩ := p_put hN hR ha hb
    refine ⟨true, ns, f2, s2, t, w, ⟨0, by rw [e6, m_loadedR hR (by omega), if_pos h3], Or.inl ⟨rfl, rfl, rfl, _, by rw [e6]; exact g2, g3⟩⟩, ?_, (fun q => by cases q), fun _ => ⟨⟨g4, by rw [g6 0 (by decide) (by decide) (by decide) (by decide)]; exact h0, damps_RD hN g4 g3⟩, g6 6 (by decide) (by decide) (by decide) (by decide), g0, ?_⟩⟩
    · unfold F_X6_canPerform
      rw [if_neg (nI_pos (n := i) (by omega)), if_pos (nI_lt (a := i) (b := ln) hi (by omega)), if_pos (xin_nI (by omega) (by decide)), tnI (by omega), hv, if_pos (show nI 0 = 0 from rfl), k_canPut hR, if_pos h3, Option.bind_some, if_pos (by decide)]
      rfl
    · unfold F_X6_perform
      rw [if_neg (nI_pos (n := i) (by omega)), if_pos (nI_lt (a := i) (b := ln) hi (by omega)), if_pos (xin_nI (by omega) (by decide)), if_pos (xin_nI (by omega) (by decide)), if_pos (xin_nI (by omega) (by decide)), tnI (by omega), hv, if_pos (show nI 0 = 0 from rfl), g1, Option.bind_some, g6 0 (by decide) (by decide) (by decide) (by decide), g6 13 (by decide) (by decide) (by decide) (by decide), g6 2 (by decide) (by decide) (by decide) (by decide), g6 5 (by decide) (by decide) (by decide) (by decide), g6 3 (by decide) (by decide) (by decide) (by decide), g6 4 (by decide) (by decide) (by decide) (by decide), g6 10 (by decide) (by decide) (by decide) (by decide), g6 7 (by decide) (by decide) (by decide) (by decide), g6 11 (by decide) (by decide) (by decide) (by decide), g6 9 (by decide) (by decide) (by decide) (by decide), k4, k5, k6, k7, k8]
  · refine ⟨false, ns, f, s, t, w, ⟨1, by rw [e6, m_loadedR hR (by omega), if_neg h3], Or.inr ⟨by decide, rfl, rfl, rfl⟩⟩, ?_, fun _ => ⟨rfl, rfl⟩, (fun q => by cases q)⟩
    unfold F_X6_canPerform
    rw [if_neg (nI_pos (n := i) (by omega)), if_pos (nI_lt (a := i) (b := ln) hi (by omega)), if_pos (xin_nI (by omega) (by decide)), tnI (by omega), hv, if_pos (show nI 0 = 0 from rfl), k_canPut hR, if_neg h3, Option.bind_some, if_pos (by decide)]
    rfl
theorem p_one_1 (hN : 1000 ≤ N) (hQ : RQ nf ns f s) (hi : i < ln) (hl : ln ≤ 40) (hv : vs i = nI 1) (ha : 0 ≤ fs i ∧ fs i ≤ 3) : ∃ (is : Bool) (ns2 : Nat) (f2 : Nat → Nat → Int32) (s2 t2 w2 : Nat → Int32), MA N 1 (fs i) (ss i) s w is s2 w2 ∧ F_X6_canPerform (nI i) (s 0) (s 6) (f 1) (f 2) (s 7) (f 6) (f 4) (f 8) (nI ln) fs vs = some (cI is) ∧ (is = false → s2 = s ∧ w2 = w) ∧ (is = true → RQ nf ns2 f2 s2 ∧ s2 6 = s 6 ∧ f2 0 = f 0 ∧ F_X6_perform N (nI i) (s 12) (s 1) (s 8) (s 0) (s 13) (s 2) (s 5) (s 3) (s 4) (s 6) (f 0) (f 1) (f 2) (f 3) (s 10) (s 7) (s 11) (s 9) (f 5) (f 6) (f 7) (f 4) (f 8) t (nI ln) fs ss vs = some ((), s2 12, s2 1, s2 8, s2 0, s2 13, s2 2, s2 5, s2 3, s2 4, f2 1, f2 2, f2 3, s2 10, s2 7, s2 11, s2 9, f2 5, f2 6, f2 7, f2 4, f2 8, t2)) := by
  obtain ⟨hR, h0, hD⟩ := id hQ
  obtain ⟨⟨h6, hn1, hn4⟩, ⟨h7, hns⟩, hh, hA, hF, hS⟩ := id hR
  obtain ⟨k, hk, ek⟩ := n_of (x := fs i) (n := 3) (by decide) ha.1 ha.2
  by_cases hkn : k < nf
  · have hle : ¬ s 6 ≤ nI k := by rw [h6]; exact nI_ge hkn (by omega)
    by_cases hw : pWhy ns f k = 0
    · obtain ⟨ns2, f2, s1, s2, g1, g2, g3, g4, g5, g6⟩ := p_lowerOne hN hR hkn hw
      refine ⟨true, ns2, f2, s2, t, w, Or.inr ⟨by rw [ek]; exact hle, 0, by rw [ek, m_why hR hkn, hw], Or.inl ⟨rfl, rfl, rfl, _, _, by rw [ek]; exact g2, g3⟩⟩, ?_, (fun q => by cases q), fun _ => ⟨⟨g4, by rw [g6 0 (by decide) (by decide) (by decide) (by decide)]; exact h0, damps_RD hN g4 g3⟩, g6 6 (by decide) (by decide) (by decide) (by decide), g5, ?_⟩⟩
      · unfold F_X6_canPerform
        rw [if_neg (nI_pos (n := i) (by omega)), if_pos (nI_lt (a := i) (b := ln) hi (by omega)), if_pos (xin_nI (by omega) (by decide)), tnI (by omega), hv, if_neg (show ¬ nI 1 = 0 by decide), if_pos (show nI 1 = 1 from rfl), if_pos (xin_nI (by omega) (by decide)), ek, k_why hR hkn, Option.bind_some, if_pos hw]
        rfl
      · unfold F_X6_perform
        rw [if_neg (nI_pos (n := i) (by omega)), if_pos (nI_lt (a := i) (b := ln) hi (by omega)), if_pos (xin_nI (by omega) (by decide)), if_pos (xin_nI (by omega) (by decide)), if_pos (xin_nI (by omega) (by decide)), tnI (by omega), hv, if_neg (show ¬ nI 1 = 0 by decide), if_pos (show nI 1 = 1 from rfl), ek, g1, Option.bind_some, g6 8 (by decide) (by decide) (by decide) (by decide), g6 0 (by decide) (by decide) (by decide) (by decide), g6 13 (by decide) (by decide) (by decide) (by decide), g6 2 (by decide) (by decide) (by decide) (by decide), g6 5 (by decide) (by decide) (by decide) (by decide), g6 3 (by decide) (by decide) (by decide) (by decide), g6 4 (by decide) (by decide) (by decide) (by decide), g6 10 (by decide) (by decide) (by decide) (by decide), g6 11 (by decide) (by decide) (by decide) (by decide), g6 9 (by decide) (by decide) (by decide) (by decide)]
    · refine ⟨false, ns, f, s, t, w, Or.inr ⟨by rw [ek]; exact hle, _, by rw [ek]; exact m_why hR hkn, Or.inr ⟨hw, rfl, rfl, rfl⟩⟩, ?_, fun _ => ⟨rfl, rfl⟩, (fun q => by cases q)⟩
      unfold F_X6_canPerform
      rw [if_neg (nI_pos (n := i) (by omega)), if_pos (nI_lt (a := i) (b := ln) hi (by omega)), if_pos (xin_nI (by omega) (by decide)), tnI (by omega), hv, if_neg (show ¬ nI 1 = 0 by decide), if_pos (show nI 1 = 1 from rfl), if_pos (xin_nI (by omega) (by decide)), ek, k_why hR hkn, Option.bind_some, if_neg hw]
      rfl
  · have hle : s 6 ≤ nI k := by rw [h6]; exact nI_le (by omega) (by omega)
    refine ⟨false, ns, f, s, t, w, Or.inl ⟨by rw [ek]; exact hle, rfl, rfl, rfl⟩, ?_, fun _ => ⟨rfl, rfl⟩, (fun q => by cases q)⟩
    unfold F_X6_canPerform
    rw [if_neg (nI_pos (n := i) (by omega)), if_pos (nI_lt (a := i) (b := ln) hi (by omega)), if_pos (xin_nI (by omega) (by decide)), tnI (by omega), hv, if_neg (show ¬ nI 1 = 0 by decide), if_pos (show nI 1 = 1 from rfl), if_pos (xin_nI (by omega) (by decide)), ek, k_whyO (nI_pos (by omega)) hle, Option.bind_some, if_neg (by decide)]
    rfl
theorem p_one_2 (hN : 1000 ≤ N) (hQ : RQ nf ns f s) (hi : i < ln) (hl : ln ≤ 40) (hv : vs i = nI 2) : ∃ (is : Bool) (ns2 : Nat) (f2 : Nat → Nat → Int32) (s2 t2 w2 : Nat → Int32), MA N 2 (fs i) (ss i) s w is s2 w2 ∧ F_X6_canPerform (nI i) (s 0) (s 6) (f 1) (f 2) (s 7) (f 6) (f 4) (f 8) (nI ln) fs vs = some (cI is) ∧ (is = false → s2 = s ∧ w2 = w) ∧ (is = true → RQ nf ns2 f2 s2 ∧ s2 6 = s 6 ∧ f2 0 = f 0 ∧ F_X6_perform N (nI i) (s 12) (s 1) (s 8) (s 0) (s 13) (s 2) (s 5) (s 3) (s 4) (s 6) (f 0) (f 1) (f 2) (f 3) (s 10) (s 7) (s 11) (s 9) (f 5) (f 6) (f 7) (f 4) (f 8) t (nI ln) fs ss vs = some ((), s2 12, s2 1, s2 8, s2 0, s2 13, s2 2, s2 5, s2 3, s2 4, f2 1, f2 2, f2 3, s2 10, s2 7, s2 11, s2 9, f2 5, f2 6, f2 7, f2 4, f2 8, t2)) := by
  obtain ⟨hR, h0, hD⟩ := id hQ
  obtain ⟨⟨h6, hn1, hn4⟩, ⟨h7, hns⟩, hh, hA, hF, hS⟩ := id hR
  obtain ⟨ns2, f2, s1, s2, m, g1, g2, g3, g4, g5, g6⟩ := p_rotate hN hR
  refine ⟨true, ns2, f2, s2, t, w, ⟨rfl, rfl, _, _, g2, g3⟩, ?_, (fun q => by cases q), fun _ => ⟨⟨g4, by rw [g6 0 (by decide) (by decide) (by decide) (by decide)]; exact h0, damps_RD hN g4 g3⟩, g6 6 (by decide) (by decide) (by decide) (by decide), g5, ?_⟩⟩
  · unfold F_X6_canPerform
    rw [if_neg (nI_pos (n := i) (by omega)), if_pos (nI_lt (a := i) (b := ln) hi (by omega)), if_pos (xin_nI (by omega) (by decide)), tnI (by omega), hv, if_neg (show ¬ nI 2 = 0 by decide), if_neg (show ¬ nI 2 = 1 by decide), if_pos (show nI 2 = 2 from rfl)]
    rfl
  · unfold F_X6_perform
    rw [if_neg (nI_pos (n := i) (by omega)), if_pos (nI_lt (a := i) (b := ln) hi (by omega)), if_pos (xin_nI (by omega) (by decide)), if_pos (xin_nI (by omega) (by decide)), if_pos (xin_nI (by omega) (by decide)), tnI (by omega), hv, if_neg (show ¬ nI 2 = 0 by decide), if_neg (show ¬ nI 2 = 1 by decide), if_pos (show nI 2 = 2 from rfl), g1, Option.bind_some, g6 8 (by decide) (by decide) (by decide) (by decide), g6 0 (by decide) (by decide) (by decide) (by decide), g6 13 (by decide) (by decide) (by decide) (by decide), g6 2 (by decide) (by decide) (by decide) (by decide), g6 5 (by decide) (by decide) (by decide) (by decide), g6 3 (by decide) (by decide) (by decide) (by decide), g6 4 (by decide) (by decide) (by decide) (by decide), g6 10 (by decide) (by decide) (by decide) (by decide), g6 11 (by decide) (by decide) (by decide) (by decide), g6 9 (by decide) (by decide) (by decide) (by decide)]
theorem p_one_3 (hN : 1000 ≤ N) (hQ : RQ nf ns f s) (hi : i < ln) (hl : ln ≤ 40) (hv : vs i = nI 3) (ha : 0 ≤ fs i ∧ fs i ≤ 90) : ∃ (is : Bool) (ns2 : Nat) (f2 : Nat → Nat → Int32) (s2 t2 w2 : Nat → Int32), MA N 3 (fs i) (ss i) s w is s2 w2 ∧ F_X6_canPerform (nI i) (s 0) (s 6) (f 1) (f 2) (s 7) (f 6) (f 4) (f 8) (nI ln) fs vs = some (cI is) ∧ (is = false → s2 = s ∧ w2 = w) ∧ (is = true → RQ nf ns2 f2 s2 ∧ s2 6 = s 6 ∧ f2 0 = f 0 ∧ F_X6_perform N (nI i) (s 12) (s 1) (s 8) (s 0) (s 13) (s 2) (s 5) (s 3) (s 4) (s 6) (f 0) (f 1) (f 2) (f 3) (s 10) (s 7) (s 11) (s 9) (f 5) (f 6) (f 7) (f 4) (f 8) t (nI ln) fs ss vs = some ((), s2 12, s2 1, s2 8, s2 0, s2 13, s2 2, s2 5, s2 3, s2 4, f2 1, f2 2, f2 3, s2 10, s2 7, s2 11, s2 9, f2 5, f2 6, f2 7, f2 4, f2 8, t2)) := by
  obtain ⟨hR, h0, hD⟩ := id hQ
  obtain ⟨⟨h6, hn1, hn4⟩, ⟨h7, hns⟩, hh, hA, hF, hS⟩ := id hR
  obtain ⟨s2, g1, g2, g3, g4⟩ := p_stoke hN hR ha
  refine ⟨true, ns, f, s2, t, w, ⟨rfl, rfl, g2⟩, ?_, (fun q => by cases q), fun _ => ⟨⟨g3, by rw [g4 0 (by decide) (by decide)]; exact h0, damps_RD hN g3 g2⟩, g4 6 (by decide) (by decide), rfl, ?_⟩⟩
  · unfold F_X6_canPerform
    rw [if_neg (nI_pos (n := i) (by omega)), if_pos (nI_lt (a := i) (b := ln) hi (by omega)), if_pos (xin_nI (by omega) (by decide)), tnI (by omega), hv, if_neg (show ¬ nI 3 = 0 by decide), if_neg (show ¬ nI 3 = 1 by decide), if_neg (show ¬ nI 3 = 2 by decide), if_pos (show nI 3 = 3 from rfl)]
    rfl
  · unfold F_X6_perform
    rw [if_neg (nI_pos (n := i) (by omega)), if_pos (nI_lt (a := i) (b := ln) hi (by omega)), if_pos (xin_nI (by omega) (by decide)), if_pos (xin_nI (by omega) (by decide)), if_pos (xin_nI (by omega) (by decide)), tnI (by omega), hv, if_neg (show ¬ nI 3 = 0 by decide), if_neg (show ¬ nI 3 = 1 by decide), if_neg (show ¬ nI 3 = 2 by decide), if_pos (show nI 3 = 3 from rfl), g1, Option.bind_some, g4 8 (by decide) (by decide), g4 0 (by decide) (by decide), g4 13 (by decide) (by decide), g4 2 (by decide) (by decide), g4 5 (by decide) (by decide), g4 3 (by decide) (by decide), g4 4 (by decide) (by decide), g4 10 (by decide) (by decide), g4 7 (by decide) (by decide), g4 11 (by decide) (by decide), g4 9 (by decide) (by decide)]
theorem p_one_4 (hN : 1000 ≤ N) (hQ : RQ nf ns f s) (hi : i < ln) (hl : ln ≤ 40) (hv : vs i = nI 4) (ha : 0 ≤ fs i ∧ fs i ≤ 4) : ∃ (is : Bool) (ns2 : Nat) (f2 : Nat → Nat → Int32) (s2 t2 w2 : Nat → Int32), MA N 4 (fs i) (ss i) s w is s2 w2 ∧ F_X6_canPerform (nI i) (s 0) (s 6) (f 1) (f 2) (s 7) (f 6) (f 4) (f 8) (nI ln) fs vs = some (cI is) ∧ (is = false → s2 = s ∧ w2 = w) ∧ (is = true → RQ nf ns2 f2 s2 ∧ s2 6 = s 6 ∧ f2 0 = f 0 ∧ F_X6_perform N (nI i) (s 12) (s 1) (s 8) (s 0) (s 13) (s 2) (s 5) (s 3) (s 4) (s 6) (f 0) (f 1) (f 2) (f 3) (s 10) (s 7) (s 11) (s 9) (f 5) (f 6) (f 7) (f 4) (f 8) t (nI ln) fs ss vs = some ((), s2 12, s2 1, s2 8, s2 0, s2 13, s2 2, s2 5, s2 3, s2 4, f2 1, f2 2, f2 3, s2 10, s2 7, s2 11, s2 9, f2 5, f2 6, f2 7, f2 4, f2 8, t2)) := by
  obtain ⟨hR, h0, hD⟩ := id hQ
  obtain ⟨⟨h6, hn1, hn4⟩, ⟨h7, hns⟩, hh, hA, hF, hS⟩ := id hR
  obtain ⟨s2, g1, g2, g3, g5, g4⟩ := p_shift hN hR ha
  refine ⟨true, ns, f, s2, t, w, ⟨rfl, rfl, g2⟩, ?_, (fun q => by cases q), fun _ => ⟨⟨g3, by rw [g4 0 (by decide) (by decide) (by decide)]; exact h0, damps_RD hN g3 g2⟩, g4 6 (by decide) (by decide) (by decide), rfl, ?_⟩⟩
  · unfold F_X6_canPerform
    rw [if_neg (nI_pos (n := i) (by omega)), if_pos (nI_lt (a := i) (b := ln) hi (by omega)), if_pos (xin_nI (by omega) (by decide)), tnI (by omega), hv, if_neg (show ¬ nI 4 = 0 by decide), if_neg (show ¬ nI 4 = 1 by decide), if_neg (show ¬ nI 4 = 2 by decide), if_neg (show ¬ nI 4 = 3 by decide), if_pos (show nI 4 = 4 from rfl)]
    rfl
  · unfold F_X6_perform
    rw [if_neg (nI_pos (n := i) (by omega)), if_pos (nI_lt (a := i) (b := ln) hi (by omega)), if_pos (xin_nI (by omega) (by decide)), if_pos (xin_nI (by omega) (by decide)), if_pos (xin_nI (by omega) (by decide)), tnI (by omega), hv, if_neg (show ¬ nI 4 = 0 by decide), if_neg (show ¬ nI 4 = 1 by decide), if_neg (show ¬ nI 4 = 2 by decide), if_neg (show ¬ nI 4 = 3 by decide), if_pos (show nI 4 = 4 from rfl), g1, Option.bind_some, g4 8 (by decide) (by decide) (by decide), g4 0 (by decide) (by decide) (by decide), g4 13 (by decide) (by decide) (by decide), g4 5 (by decide) (by decide) (by decide), g4 3 (by decide) (by decide) (by decide), g4 4 (by decide) (by decide) (by decide), g4 10 (by decide) (by decide) (by decide), g4 7 (by decide) (by decide) (by decide), g4 11 (by decide) (by decide) (by decide), g4 9 (by decide) (by decide) (by decide), g5]
theorem p_one_5 (hN : 1000 ≤ N) (hQ : RQ nf ns f s) (hi : i < ln) (hl : ln ≤ 40) (hv : vs i = nI 5) (ha : 0 ≤ fs i ∧ fs i ≤ 7) (hb : 0 ≤ ss i ∧ ss i ≤ 9) : ∃ (is : Bool) (ns2 : Nat) (f2 : Nat → Nat → Int32) (s2 t2 w2 : Nat → Int32), MA N 5 (fs i) (ss i) s w is s2 w2 ∧ F_X6_canPerform (nI i) (s 0) (s 6) (f 1) (f 2) (s 7) (f 6) (f 4) (f 8) (nI ln) fs vs = some (cI is) ∧ (is = false → s2 = s ∧ w2 = w) ∧ (is = true → RQ nf ns2 f2 s2 ∧ s2 6 = s 6 ∧ f2 0 = f 0 ∧ F_X6_perform N (nI i) (s 12) (s 1) (s 8) (s 0) (s 13) (s 2) (s 5) (s 3) (s 4) (s 6) (f 0) (f 1) (f 2) (f 3) (s 10) (s 7) (s 11) (s 9) (f 5) (f 6) (f 7) (f 4) (f 8) t (nI ln) fs ss vs = some ((), s2 12, s2 1, s2 8, s2 0, s2 13, s2 2, s2 5, s2 3, s2 4, f2 1, f2 2, f2 3, s2 10, s2 7, s2 11, s2 9, f2 5, f2 6, f2 7, f2 4, f2 8, t2)) := by
  obtain ⟨hR, h0, hD⟩ := id hQ
  obtain ⟨⟨h6, hn1, hn4⟩, ⟨h7, hns⟩, hh, hA, hF, hS⟩ := id hR
  obtain ⟨s2, g1, g2, g3, g5, g6, g4⟩ := p_wind hN hR ha hb
  refine ⟨true, ns, f, s2, t, w, ⟨rfl, rfl, g2⟩, ?_, (fun q => by cases q), fun _ => ⟨⟨g3, by rw [g4 0 (by decide) (by decide) (by decide) (by decide)]; exact h0, damps_RD hN g3 g2⟩, g4 6 (by decide) (by decide) (by decide) (by decide), rfl, ?_⟩⟩
  · unfold F_X6_canPerform
    rw [if_neg (nI_pos (n := i) (by omega)), if_pos (nI_lt (a := i) (b := ln) hi (by omega)), if_pos (xin_nI (by omega) (by decide)), tnI (by omega), hv, if_neg (show ¬ nI 5 = 0 by decide), if_neg (show ¬ nI 5 = 1 by decide), if_neg (show ¬ nI 5 = 2 by decide), if_neg (show ¬ nI 5 = 3 by decide), if_neg (show ¬ nI 5 = 4 by decide), if_pos (show nI 5 = 5 from rfl)]
    rfl
  · unfold F_X6_perform
    rw [if_neg (nI_pos (n := i) (by omega)), if_pos (nI_lt (a := i) (b := ln) hi (by omega)), if_pos (xin_nI (by omega) (by decide)), if_pos (xin_nI (by omega) (by decide)), if_pos (xin_nI (by omega) (by decide)), tnI (by omega), hv, if_neg (show ¬ nI 5 = 0 by decide), if_neg (show ¬ nI 5 = 1 by decide), if_neg (show ¬ nI 5 = 2 by decide), if_neg (show ¬ nI 5 = 3 by decide), if_neg (show ¬ nI 5 = 4 by decide), if_pos (show nI 5 = 5 from rfl), g1, Option.bind_some, g4 8 (by decide) (by decide) (by decide) (by decide), g4 0 (by decide) (by decide) (by decide) (by decide), g4 13 (by decide) (by decide) (by decide) (by decide), g4 2 (by decide) (by decide) (by decide) (by decide), g4 5 (by decide) (by decide) (by decide) (by decide), g4 10 (by decide) (by decide) (by decide) (by decide), g4 7 (by decide) (by decide) (by decide) (by decide), g4 11 (by decide) (by decide) (by decide) (by decide), g4 9 (by decide) (by decide) (by decide) (by decide), g5, g6]
theorem p_one_6 (hN : 1000 ≤ N) (hQ : RQ nf ns f s) (hi : i < ln) (hl : ln ≤ 40) (hv : vs i = nI 6) (ha : 0 ≤ fs i ∧ fs i ≤ 19) : ∃ (is : Bool) (ns2 : Nat) (f2 : Nat → Nat → Int32) (s2 t2 w2 : Nat → Int32), MA N 6 (fs i) (ss i) s w is s2 w2 ∧ F_X6_canPerform (nI i) (s 0) (s 6) (f 1) (f 2) (s 7) (f 6) (f 4) (f 8) (nI ln) fs vs = some (cI is) ∧ (is = false → s2 = s ∧ w2 = w) ∧ (is = true → RQ nf ns2 f2 s2 ∧ s2 6 = s 6 ∧ f2 0 = f 0 ∧ F_X6_perform N (nI i) (s 12) (s 1) (s 8) (s 0) (s 13) (s 2) (s 5) (s 3) (s 4) (s 6) (f 0) (f 1) (f 2) (f 3) (s 10) (s 7) (s 11) (s 9) (f 5) (f 6) (f 7) (f 4) (f 8) t (nI ln) fs ss vs = some ((), s2 12, s2 1, s2 8, s2 0, s2 13, s2 2, s2 5, s2 3, s2 4, f2 1, f2 2, f2 3, s2 10, s2 7, s2 11, s2 9, f2 5, f2 6, f2 7, f2 4, f2 8, t2)) := by
  obtain ⟨hR, h0, hD⟩ := id hQ
  obtain ⟨⟨h6, hn1, hn4⟩, ⟨h7, hns⟩, hh, hA, hF, hS⟩ := id hR
  rcases i_of (n := ns) hns (fs i) with ⟨k, hk, ek⟩ | ⟨h1, h2⟩
  · obtain ⟨r0, r1, r2, r3, r4, r5, r6⟩ := hS k hk
    by_cases hw : f 4 k = 0 ∧ ¬ (f 6 k < 60 ∧ 50 ≤ f 8 k)
    · obtain ⟨s2, g1, g2, g3, g4⟩ := p_sell hR hk
      have hD2 : RD nf s2 := hD.cong (g4 1 (by decide) (by decide) (by decide)) (g4 2 (by decide) (by decide) (by decide)) (g4 3 (by decide) (by decide) (by decide)) (g4 4 (by decide) (by decide) (by decide)) (g4 5 (by decide) (by decide) (by decide)) (fun j hj => (RF_16 hF (RF.cong g3.2.2.2.2.1 hn4 (fun _ _ _ => rfl) rfl rfl rfl rfl) hj).1) (fun j hj => (RF_16 hF (RF.cong g3.2.2.2.2.1 hn4 (fun _ _ _ => rfl) rfl rfl rfl rfl) hj).2)
      refine ⟨true, ns, _, s2, t, w, ⟨1, by rw [ek, m_stored h7 hns hk, r0, if_pos hw.1], Or.inr ⟨by decide, 0, by rw [ek, m_smo (by omega), r0, r2.1, r4, if_neg (fun q => hw.2 q.2)], Or.inl ⟨rfl, rfl, rfl, _, _, by rw [ek]; exact g2, damps_id hN g3 hD2⟩⟩⟩, ?_, (fun q => by cases q), fun _ => ⟨⟨g3, by rw [g4 0 (by decide) (by decide) (by decide)]; exact h0, hD2⟩, g4 6 (by decide) (by decide) (by decide), rfl, ?_⟩⟩
      · unfold F_X6_canPerform
        rw [if_neg (nI_pos (n := i) (by omega)), if_pos (nI_lt (a := i) (b := ln) hi (by omega)), if_pos (xin_nI (by omega) (by decide)), tnI (by omega), hv, if_neg (show ¬ nI 6 = 0 by decide), if_neg (show ¬ nI 6 = 1 by decide), if_neg (show ¬ nI 6 = 2 by decide), if_neg (show ¬ nI 6 = 3 by decide), if_neg (show ¬ nI 6 = 4 by decide), if_neg (show ¬ nI 6 = 5 by decide), if_pos (show nI 6 = 6 from rfl), if_pos (xin_nI (by omega) (by decide)), ek, show F_X5_canSell (nI k) (s 7) (f 6) (f 4) (f 8) = some 1 by rw [h7, k_canSell hns hk, if_pos hw], Option.bind_some, if_pos (by decide)]
        rfl
      · unfold F_X6_perform
        rw [if_neg (nI_pos (n := i) (by omega)), if_pos (nI_lt (a := i) (b := ln) hi (by omega)), if_pos (xin_nI (by omega) (by decide)), if_pos (xin_nI (by omega) (by decide)), if_pos (xin_nI (by omega) (by decide)), tnI (by omega), hv, if_neg (show ¬ nI 6 = 0 by decide), if_neg (show ¬ nI 6 = 1 by decide), if_neg (show ¬ nI 6 = 2 by decide), if_neg (show ¬ nI 6 = 3 by decide), if_neg (show ¬ nI 6 = 4 by decide), if_neg (show ¬ nI 6 = 5 by decide), if_pos (show nI 6 = 6 from rfl), ek, g1, Option.bind_some, g4 12 (by decide) (by decide) (by decide), g4 1 (by decide) (by decide) (by decide), g4 8 (by decide) (by decide) (by decide), g4 0 (by decide) (by decide) (by decide), g4 13 (by decide) (by decide) (by decide), g4 2 (by decide) (by decide) (by decide), g4 5 (by decide) (by decide) (by decide), g4 3 (by decide) (by decide) (by decide), g4 4 (by decide) (by decide) (by decide), g4 10 (by decide) (by decide) (by decide), g4 7 (by decide) (by decide) (by decide)]
        rfl
    · refine ⟨false, ns, f, s, t, w, ⟨if f 4 k = 0 then 1 else 0, by rw [ek, m_stored h7 hns hk, r0], ?_⟩, ?_, fun _ => ⟨rfl, rfl⟩, (fun q => by cases q)⟩
      · by_cases h1 : f 4 k = 0
        · have h2 : f 6 k < 60 ∧ 50 ≤ f 8 k := Classical.byContradiction fun q => hw ⟨h1, q⟩
          rw [if_pos h1]
          exact Or.inr ⟨by decide, 1, by rw [ek, m_smo (by omega), r0, r2.1, r4, if_pos ⟨h1, h2⟩], Or.inr ⟨by decide, rfl, rfl, rfl⟩⟩
        · rw [if_neg h1]
          exact Or.inl ⟨rfl, rfl, rfl, rfl⟩
      · unfold F_X6_canPerform
        rw [if_neg (nI_pos (n := i) (by omega)), if_pos (nI_lt (a := i) (b := ln) hi (by omega)), if_pos (xin_nI (by omega) (by decide)), tnI (by omega), hv, if_neg (show ¬ nI 6 = 0 by decide), if_neg (show ¬ nI 6 = 1 by decide), if_neg (show ¬ nI 6 = 2 by decide), if_neg (show ¬ nI 6 = 3 by decide), if_neg (show ¬ nI 6 = 4 by decide), if_neg (show ¬ nI 6 = 5 by decide), if_pos (show nI 6 = 6 from rfl), if_pos (xin_nI (by omega) (by decide)), ek, show F_X5_canSell (nI k) (s 7) (f 6) (f 4) (f 8) = some 0 by rw [h7, k_canSell hns hk, if_neg hw], Option.bind_some, if_pos (by decide)]
        rfl
  · refine ⟨false, ns, f, s, t, w, ⟨0, m_storedO h7 h1, Or.inl ⟨rfl, rfl, rfl, rfl⟩⟩, ?_, fun _ => ⟨rfl, rfl⟩, (fun q => by cases q)⟩
    unfold F_X6_canPerform
    rw [if_neg (nI_pos (n := i) (by omega)), if_pos (nI_lt (a := i) (b := ln) hi (by omega)), if_pos (xin_nI (by omega) (by decide)), tnI (by omega), hv, if_neg (show ¬ nI 6 = 0 by decide), if_neg (show ¬ nI 6 = 1 by decide), if_neg (show ¬ nI 6 = 2 by decide), if_neg (show ¬ nI 6 = 3 by decide), if_neg (show ¬ nI 6 = 4 by decide), if_neg (show ¬ nI 6 = 5 by decide), if_pos (show nI 6 = 6 from rfl), if_pos (xin_nI (by omega) (by decide)), show F_X5_canSell (fs i) (s 7) (f 6) (f 4) (f 8) = some 0 by rw [h7, k_canSellO hns h2], Option.bind_some, if_pos (by decide)]
    rfl
theorem p_one_7 (hN : 1000 ≤ N) (hQ : RQ nf ns f s) (hi : i < ln) (hl : ln ≤ 40) (hv : vs i = nI 7) (ha : 0 ≤ fs i ∧ fs i ≤ 19) : ∃ (is : Bool) (ns2 : Nat) (f2 : Nat → Nat → Int32) (s2 t2 w2 : Nat → Int32), MA N 7 (fs i) (ss i) s w is s2 w2 ∧ F_X6_canPerform (nI i) (s 0) (s 6) (f 1) (f 2) (s 7) (f 6) (f 4) (f 8) (nI ln) fs vs = some (cI is) ∧ (is = false → s2 = s ∧ w2 = w) ∧ (is = true → RQ nf ns2 f2 s2 ∧ s2 6 = s 6 ∧ f2 0 = f 0 ∧ F_X6_perform N (nI i) (s 12) (s 1) (s 8) (s 0) (s 13) (s 2) (s 5) (s 3) (s 4) (s 6) (f 0) (f 1) (f 2) (f 3) (s 10) (s 7) (s 11) (s 9) (f 5) (f 6) (f 7) (f 4) (f 8) t (nI ln) fs ss vs = some ((), s2 12, s2 1, s2 8, s2 0, s2 13, s2 2, s2 5, s2 3, s2 4, f2 1, f2 2, f2 3, s2 10, s2 7, s2 11, s2 9, f2 5, f2 6, f2 7, f2 4, f2 8, t2)) := by
  obtain ⟨hR, h0, hD⟩ := id hQ
  obtain ⟨⟨h6, hn1, hn4⟩, ⟨h7, hns⟩, hh, hA, hF, hS⟩ := id hR
  rcases i_of (n := ns) hns (fs i) with ⟨k, hk, ek⟩ | ⟨h1, h2⟩
  · obtain ⟨r0, r1, r2, r3, r4, r5, r6⟩ := hS k hk
    by_cases hw : f 4 k = 0
    · obtain ⟨u, s2, g1, g2, g3, g4⟩ := p_quench hR hk
      have hD2 : RD nf s2 := hD.cong (g4 1 (by decide)) (g4 2 (by decide)) (g4 3 (by decide)) (g4 4 (by decide)) (g4 5 (by decide)) (fun j hj => (RF_16 hF (RF.cong g3.2.2.2.2.1 hn4 (fun _ _ _ => rfl) rfl rfl rfl rfl) hj).1) (fun j hj => (RF_16 hF (RF.cong g3.2.2.2.2.1 hn4 (fun _ _ _ => rfl) rfl rfl rfl rfl) hj).2)
      refine ⟨true, ns, _, s2, t, w, ⟨1, by rw [ek, m_stored h7 hns hk, r0, if_pos hw], Or.inr ⟨by decide, rfl, rfl, _, _, by rw [ek]; exact g2, damps_id hN g3 hD2⟩⟩, ?_, (fun q => by cases q), fun _ => ⟨⟨g3, by rw [g4 0 (by decide)]; exact h0, hD2⟩, g4 6 (by decide), rfl, ?_⟩⟩
      · unfold F_X6_canPerform
        rw [if_neg (nI_pos (n := i) (by omega)), if_pos (nI_lt (a := i) (b := ln) hi (by omega)), if_pos (xin_nI (by omega) (by decide)), tnI (by omega), hv, if_neg (show ¬ nI 7 = 0 by decide), if_neg (show ¬ nI 7 = 1 by decide), if_neg (show ¬ nI 7 = 2 by decide), if_neg (show ¬ nI 7 = 3 by decide), if_neg (show ¬ nI 7 = 4 by decide), if_neg (show ¬ nI 7 = 5 by decide), if_neg (show ¬ nI 7 = 6 by decide), if_pos (show nI 7 = 7 from rfl), if_pos (xin_nI (by omega) (by decide)), ek, show F_X5_isStored (nI k) (s 7) (f 4) = some 1 by rw [h7, k_st hns hk, if_pos hw], Option.bind_some, if_pos (by decide)]
        rfl
      · unfold F_X6_perform
        rw [if_neg (nI_pos (n := i) (by omega)), if_pos (nI_lt (a := i) (b := ln) hi (by omega)), if_pos (xin_nI (by omega) (by decide)), if_pos (xin_nI (by omega) (by decide)), if_pos (xin_nI (by omega) (by decide)), tnI (by omega), hv, if_neg (show ¬ nI 7 = 0 by decide), if_neg (show ¬ nI 7 = 1 by decide), if_neg (show ¬ nI 7 = 2 by decide), if_neg (show ¬ nI 7 = 3 by decide), if_neg (show ¬ nI 7 = 4 by decide), if_neg (show ¬ nI 7 = 5 by decide), if_neg (show ¬ nI 7 = 6 by decide), if_pos (show nI 7 = 7 from rfl), ek, g1, Option.bind_some, g4 12 (by decide), g4 1 (by decide), g4 8 (by decide), g4 0 (by decide), g4 13 (by decide), g4 2 (by decide), g4 5 (by decide), g4 3 (by decide), g4 4 (by decide), g4 10 (by decide), g4 7 (by decide), g4 11 (by decide), g4 9 (by decide)]
        rfl
    · refine ⟨false, ns, f, s, t, w, ⟨0, by rw [ek, m_stored h7 hns hk, r0, if_neg hw], Or.inl ⟨rfl, rfl, rfl, rfl⟩⟩, ?_, fun _ => ⟨rfl, rfl⟩, (fun q => by cases q)⟩
      unfold F_X6_canPerform
      rw [if_neg (nI_pos (n := i) (by omega)), if_pos (nI_lt (a := i) (b := ln) hi (by omega)), if_pos (xin_nI (by omega) (by decide)), tnI (by omega), hv, if_neg (show ¬ nI 7 = 0 by decide), if_neg (show ¬ nI 7 = 1 by decide), if_neg (show ¬ nI 7 = 2 by decide), if_neg (show ¬ nI 7 = 3 by decide), if_neg (show ¬ nI 7 = 4 by decide), if_neg (show ¬ nI 7 = 5 by decide), if_neg (show ¬ nI 7 = 6 by decide), if_pos (show nI 7 = 7 from rfl), if_pos (xin_nI (by omega) (by decide)), ek, show F_X5_isStored (nI k) (s 7) (f 4) = some 0 by rw [h7, k_st hns hk, if_neg hw], Option.bind_some, if_pos (by decide)]
      rfl
  · refine ⟨false, ns, f, s, t, w, ⟨0, m_storedO h7 h1, Or.inl ⟨rfl, rfl, rfl, rfl⟩⟩, ?_, fun _ => ⟨rfl, rfl⟩, (fun q => by cases q)⟩
    unfold F_X6_canPerform
    rw [if_neg (nI_pos (n := i) (by omega)), if_pos (nI_lt (a := i) (b := ln) hi (by omega)), if_pos (xin_nI (by omega) (by decide)), tnI (by omega), hv, if_neg (show ¬ nI 7 = 0 by decide), if_neg (show ¬ nI 7 = 1 by decide), if_neg (show ¬ nI 7 = 2 by decide), if_neg (show ¬ nI 7 = 3 by decide), if_neg (show ¬ nI 7 = 4 by decide), if_neg (show ¬ nI 7 = 5 by decide), if_neg (show ¬ nI 7 = 6 by decide), if_pos (show nI 7 = 7 from rfl), if_pos (xin_nI (by omega) (by decide)), show F_X5_isStored (fs i) (s 7) (f 4) = some 0 by rw [h7, k_stO hns h2], Option.bind_some, if_pos (by decide)]
    rfl
theorem p_one_8 (hN : 1000 ≤ N) (hQ : RQ nf ns f s) (hi : i < ln) (hl : ln ≤ 40) (hv : vs i = nI 8) (ha : 1 ≤ fs i ∧ fs i ≤ 120) : ∃ (is : Bool) (ns2 : Nat) (f2 : Nat → Nat → Int32) (s2 t2 w2 : Nat → Int32), MA N 8 (fs i) (ss i) s w is s2 w2 ∧ F_X6_canPerform (nI i) (s 0) (s 6) (f 1) (f 2) (s 7) (f 6) (f 4) (f 8) (nI ln) fs vs = some (cI is) ∧ (is = false → s2 = s ∧ w2 = w) ∧ (is = true → RQ nf ns2 f2 s2 ∧ s2 6 = s 6 ∧ f2 0 = f 0 ∧ F_X6_perform N (nI i) (s 12) (s 1) (s 8) (s 0) (s 13) (s 2) (s 5) (s 3) (s 4) (s 6) (f 0) (f 1) (f 2) (f 3) (s 10) (s 7) (s 11) (s 9) (f 5) (f 6) (f 7) (f 4) (f 8) t (nI ln) fs ss vs = some ((), s2 12, s2 1, s2 8, s2 0, s2 13, s2 2, s2 5, s2 3, s2 4, f2 1, f2 2, f2 3, s2 10, s2 7, s2 11, s2 9, f2 5, f2 6, f2 7, f2 4, f2 8, t2)) := by
  obtain ⟨hR, h0, hD⟩ := id hQ
  obtain ⟨⟨h6, hn1, hn4⟩, ⟨h7, hns⟩, hh, hA, hF, hS⟩ := id hR
  obtain ⟨n, hn, en⟩ := n_of (x := fs i) (n := 120) (by decide) (by grind) ha.2
  by_cases h2 : s 0 + fs i ≤ 9999
  · obtain ⟨f2, s2, t2, w2, m, g1, g2, g3, g4, g5⟩ := p_pass hN (n := n) (by omega) (by omega) hR t w
    have hD2 : RD nf s2 := RD.mins hN hD g3 g2
    obtain ⟨⟨k0, k1, k5, k6, k7⟩, j2, j3, j4, j6, j7, j8, j9, j11⟩ := g4
    refine ⟨true, ns, f2, s2, t2, w2, Or.inr ⟨by grind, rfl, _, _, by rw [en]; exact g2, damps_id hN g3 hD2⟩, ?_, (fun q => by cases q), fun _ => ⟨⟨g3, ⟨by rw [g5, ← en]; grind, by rw [g5, ← en]; exact h2⟩, hD2⟩, j6, k0, ?_⟩⟩
    · unfold F_X6_canPerform
      rw [if_neg (nI_pos (n := i) (by omega)), if_pos (nI_lt (a := i) (b := ln) hi (by omega)), if_pos (xin_nI (by omega) (by decide)), tnI (by omega), hv, if_neg (show ¬ nI 8 = 0 by decide), if_neg (show ¬ nI 8 = 1 by decide), if_neg (show ¬ nI 8 = 2 by decide), if_neg (show ¬ nI 8 = 3 by decide), if_neg (show ¬ nI 8 = 4 by decide), if_neg (show ¬ nI 8 = 5 by decide), if_neg (show ¬ nI 8 = 6 by decide), if_neg (show ¬ nI 8 = 7 by decide), if_pos (show nI 8 = 8 from rfl), if_pos (xin_nI (by omega) (by decide)), k_canWait h0 ha, if_pos h2, Option.bind_some, if_pos (by decide)]
      rfl
    · unfold F_X6_perform
      rw [if_neg (nI_pos (n := i) (by omega)), if_pos (nI_lt (a := i) (b := ln) hi (by omega)), if_pos (xin_nI (by omega) (by decide)), if_pos (xin_nI (by omega) (by decide)), if_pos (xin_nI (by omega) (by decide)), tnI (by omega), hv, if_neg (show ¬ nI 8 = 0 by decide), if_neg (show ¬ nI 8 = 1 by decide), if_neg (show ¬ nI 8 = 2 by decide), if_neg (show ¬ nI 8 = 3 by decide), if_neg (show ¬ nI 8 = 4 by decide), if_neg (show ¬ nI 8 = 5 by decide), if_neg (show ¬ nI 8 = 6 by decide), if_neg (show ¬ nI 8 = 7 by decide), if_pos (show nI 8 = 8 from rfl), en, g1, Option.bind_some, j8, j2, j3, j4, j7, j11, j9, k1, k5, k6, k7]
  · refine ⟨false, ns, f, s, t, w, Or.inl ⟨by grind, rfl, rfl, rfl⟩, ?_, fun _ => ⟨rfl, rfl⟩, (fun q => by cases q)⟩
    unfold F_X6_canPerform
    rw [if_neg (nI_pos (n := i) (by omega)), if_pos (nI_lt (a := i) (b := ln) hi (by omega)), if_pos (xin_nI (by omega) (by decide)), tnI (by omega), hv, if_neg (show ¬ nI 8 = 0 by decide), if_neg (show ¬ nI 8 = 1 by decide), if_neg (show ¬ nI 8 = 2 by decide), if_neg (show ¬ nI 8 = 3 by decide), if_neg (show ¬ nI 8 = 4 by decide), if_neg (show ¬ nI 8 = 5 by decide), if_neg (show ¬ nI 8 = 6 by decide), if_neg (show ¬ nI 8 = 7 by decide), if_pos (show nI 8 = 8 from rfl), if_pos (xin_nI (by omega) (by decide)), k_canWait h0 ha, if_neg h2, Option.bind_some, if_pos (by decide)]
    rfl
theorem p_onec {C : Cmd} (hN : 1000 ≤ N) (hQ : RQ nf ns f s) (hi : i < ln) (hl : ln ≤ 40) (hC : vs i = nI C.1 ∧ fs i = C.2.1 ∧ ss i = C.2.2) (hV : Vd C) : ∃ (is : Bool) (ns2 : Nat) (f2 : Nat → Nat → Int32) (s2 t2 w2 : Nat → Int32), MA N C.1 (fs i) (ss i) s w is s2 w2 ∧ F_X6_canPerform (nI i) (s 0) (s 6) (f 1) (f 2) (s 7) (f 6) (f 4) (f 8) (nI ln) fs vs = some (cI is) ∧ (is = false → s2 = s ∧ w2 = w) ∧ (is = true → RQ nf ns2 f2 s2 ∧ s2 6 = s 6 ∧ f2 0 = f 0 ∧ F_X6_perform N (nI i) (s 12) (s 1) (s 8) (s 0) (s 13) (s 2) (s 5) (s 3) (s 4) (s 6) (f 0) (f 1) (f 2) (f 3) (s 10) (s 7) (s 11) (s 9) (f 5) (f 6) (f 7) (f 4) (f 8) t (nI ln) fs ss vs = some ((), s2 12, s2 1, s2 8, s2 0, s2 13, s2 2, s2 5, s2 3, s2 4, f2 1, f2 2, f2 3, s2 10, s2 7, s2 11, s2 9, f2 5, f2 6, f2 7, f2 4, f2 8, t2)) := by
  obtain ⟨hv, h1, h2⟩ := hC
  rcases hV with ⟨e, ha, hb⟩ | ⟨e, ha⟩ | e | ⟨e, ha⟩ | ⟨e, ha⟩ | ⟨e, ha, hb⟩ | ⟨e, ha⟩ | ⟨e, ha⟩ | ⟨e, ha⟩
  · rw [e] at hv ⊢; exact p_one_0 hN hQ hi hl hv (by rw [h1]; exact ha) (by rw [h2]; exact hb)
  · rw [e] at hv ⊢; exact p_one_1 hN hQ hi hl hv (by rw [h1]; exact ha)
  · rw [e] at hv ⊢; exact p_one_2 hN hQ hi hl hv
  · rw [e] at hv ⊢; exact p_one_3 hN hQ hi hl hv (by rw [h1]; exact ha)
  · rw [e] at hv ⊢; exact p_one_4 hN hQ hi hl hv (by rw [h1]; exact ha)
  · rw [e] at hv ⊢; exact p_one_5 hN hQ hi hl hv (by rw [h1]; exact ha) (by rw [h2]; exact hb)
  · rw [e] at hv ⊢; exact p_one_6 hN hQ hi hl hv (by rw [h1]; exact ha)
  · rw [e] at hv ⊢; exact p_one_7 hN hQ hi hl hv (by rw [h1]; exact ha)
  · rw [e] at hv ⊢; exact p_one_8 hN hQ hi hl hv (by rw [h1]; exact ha)
end ONE
