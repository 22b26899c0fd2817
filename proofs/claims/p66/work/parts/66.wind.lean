/-! PURE: setWind -/
theorem p_setWind {N nf ns : Nat} {f : Nat → Nat → Int32} {s past past' : Nat → Int32} {hc hf hc' hf' ud ud' : Int32} (hN : 1000 ≤ N) (hR : RH nf ns f s) (hK : F_X12_keepsPast N ud past s = some ((), ud', past')) (hH : F_X2_record hc hf = some ((), hc', hf')) (a b th : Int32) :
    ((0 ≤ a ∧ a ≤ 7) ∧ (0 ≤ b ∧ b ≤ 9) → ∃ s', RH nf ns f s' ∧ (∃ s0, F_X12_damps N s0 = some ((), s')) ∧ s' 3 = a ∧ s' 4 = b ∧ (∀ j, j ≠ 1 → j ≠ 3 → j ≠ 4 → j ≠ 12 → s' j = s j) ∧ F_X11_setWind N a b hc hf (s 12) (s 1) (s 2) (s 5) (s 3) (s 4) (s 6) (f 0) (f 1) (f 2) = some (Sum.inr (pD s'), hc', hf', s' 12, s' 1, a, b, 1) ∧ F_X12_setWind N a b th ud past s = some (pD s', 0, ud', past', s')) ∧
    (¬ ((0 ≤ a ∧ a ≤ 7) ∧ (0 ≤ b ∧ b ≤ 9)) → F_X11_setWind N a b hc hf (s 12) (s 1) (s 2) (s 5) (s 3) (s 4) (s 6) (f 0) (f 1) (f 2) = some (Sum.inl 1, hc, hf, s 12, s 1, s 3, s 4, 0) ∧ F_X12_setWind N a b th ud past s = some (0, 1, ud, past, s)) := by
  have hm1 : F_X12_in (Int32.toInt64 a) (Int64.ofNat 0) (Int64.ofNat 7) = some (if 0 ≤ a ∧ a ≤ 7 then 1 else 0) := m_in0 a 7
  have hm2 : F_X12_in (Int32.toInt64 b) (Int64.ofNat 0) (Int64.ofNat 9) = some (if 0 ≤ b ∧ b ≤ 9 then 1 else 0) := m_in0 b 9
  constructor
  · intro h
    obtain ⟨s', g1, g2, g3, g5, g6, g4⟩ := p_wind hN hR h.1 h.2
    have e := k_d s'
    rw [g5, g6, g4 2 (by decide) (by decide) (by decide) (by decide), g4 5 (by decide) (by decide) (by decide) (by decide)] at e
    refine ⟨s', g3, ⟨_, g2⟩, g5, g6, g4, ?_, ?_⟩
    · unfold F_X11_setWind
      rw [k_within, if_pos h.1, Option.bind_some, if_neg (by decide), k_within, if_pos h.2, Option.bind_some, if_neg (by decide), hH, Option.bind_some, g1, Option.bind_some]
      dsimp only
      rw [e, Option.bind_some]
    · unfold F_X12_setWind F_X12_setWind_b30 F_X12_setWind_b35
      rw [hm1, if_pos h.1, Option.bind_some, if_neg (by decide), hm2, if_pos h.2, Option.bind_some, if_neg (by decide)]
      show ((some ((0 : Int32), (0 : Int32))).bind _) = _
      rw [Option.bind_some, if_pos rfl, hK, Option.bind_some, tn3, tn4, g2, Option.bind_some, m_d, Option.bind_some]
  · intro h
    by_cases h1 : 0 ≤ a ∧ a ≤ 7
    · have h2 : ¬ (0 ≤ b ∧ b ≤ 9) := fun q => h ⟨h1, q⟩
      constructor
      · unfold F_X11_setWind F_X11_setWind_b20
        rw [k_within, if_pos h1, Option.bind_some, if_neg (by decide), k_within, if_neg h2, Option.bind_some, if_pos rfl]
      · unfold F_X12_setWind F_X12_setWind_b30 F_X12_setWind_b35
        rw [hm1, if_pos h1, Option.bind_some, if_neg (by decide), hm2, if_neg h2, Option.bind_some, if_pos rfl]
        rfl
    · constructor
      · unfold F_X11_setWind F_X11_setWind_b20
        rw [k_within, if_neg h1, Option.bind_some, if_pos rfl]
      · unfold F_X12_setWind F_X12_setWind_b30 F_X12_setWind_b35
        rw [hm1, if_neg h1, Option.bind_some, if_pos rfl]
        rfl
