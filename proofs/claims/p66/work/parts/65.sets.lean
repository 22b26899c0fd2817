/-! PURE: setHeat, setGear -/
section SETS
variable {N nf ns : Nat} {f : Nat → Nat → Int32} {s past past' : Nat → Int32} {hc hf hc' hf' ud ud' : Int32}
theorem p_setHeat (hN : 1000 ≤ N) (hR : RH nf ns f s) (hK : F_X12_keepsPast N ud past s = some ((), ud', past')) (hH : F_X2_record hc hf = some ((), hc', hf')) (a th : Int32) :
    (0 ≤ a ∧ a ≤ 90 → ∃ s', RH nf ns f s' ∧ (∃ s0, F_X12_damps N s0 = some ((), s')) ∧ (∀ j, j ≠ 1 → j ≠ 12 → s' j = s j) ∧ F_X11_setHeat N a hc hf (s 12) (s 1) (s 2) (s 5) (s 3) (s 4) (s 6) (f 0) (f 1) (f 2) = some (Sum.inr (s' 1), hc', hf', s' 12, s' 1, 1) ∧ F_X12_setHeat N a th ud past s = some (s' 1, 0, ud', past', s')) ∧
    (¬ (0 ≤ a ∧ a ≤ 90) → F_X11_setHeat N a hc hf (s 12) (s 1) (s 2) (s 5) (s 3) (s 4) (s 6) (f 0) (f 1) (f 2) = some (Sum.inl 1, hc, hf, s 12, s 1, 0) ∧ F_X12_setHeat N a th ud past s = some (0, 1, ud, past, s)) := by
  have hm : F_X12_in (Int32.toInt64 a) (Int64.ofNat 0) (Int64.ofNat 90) = some (if 0 ≤ a ∧ a ≤ 90 then 1 else 0) := m_in0 a 90
  constructor
  · intro h
    obtain ⟨s', g1, g2, g3, g4⟩ := p_stoke hN hR h
    refine ⟨s', g3, ⟨_, g2⟩, g4, ?_, ?_⟩
    · unfold F_X11_setHeat
      rw [k_within, if_pos h, Option.bind_some, if_neg (by decide), hH, Option.bind_some, g1, Option.bind_some]
    · unfold F_X12_setHeat F_X12_setHeat_b23
      rw [hm, if_pos h, Option.bind_some, if_neg (by decide)]
      show ((some ((0 : Int32), (0 : Int32))).bind _) = _
      rw [Option.bind_some, if_pos rfl, hK, Option.bind_some, tn1, g2, Option.bind_some]
  · intro h
    constructor
    · unfold F_X11_setHeat
      rw [k_within, if_neg h, Option.bind_some, if_pos rfl]
    · unfold F_X12_setHeat F_X12_setHeat_b23
      rw [hm, if_neg h, Option.bind_some, if_pos rfl]
      rfl
theorem p_setGear (hN : 1000 ≤ N) (hR : RH nf ns f s) (hK : F_X12_keepsPast N ud past s = some ((), ud', past')) (hH : F_X2_record hc hf = some ((), hc', hf')) (a th : Int32) :
    (0 ≤ a ∧ a ≤ 4 → ∃ s', RH nf ns f s' ∧ (∃ s0, F_X12_damps N s0 = some ((), s')) ∧ s' 2 = a ∧ (∀ j, j ≠ 1 → j ≠ 2 → j ≠ 12 → s' j = s j) ∧ F_X11_setGear N a hc hf (s 12) (s 1) (s 2) (s 5) (s 3) (s 4) (s 6) (f 0) (f 1) (f 2) = some (Sum.inr (s 2), hc', hf', s' 12, s' 1, a, 1) ∧ F_X12_setGear N a th ud past s = some (s 2, 0, ud', past', s')) ∧
    (¬ (0 ≤ a ∧ a ≤ 4) → F_X11_setGear N a hc hf (s 12) (s 1) (s 2) (s 5) (s 3) (s 4) (s 6) (f 0) (f 1) (f 2) = some (Sum.inl 1, hc, hf, s 12, s 1, s 2, 0) ∧ F_X12_setGear N a th ud past s = some (0, 1, ud, past, s)) := by
  have hm : F_X12_in (Int32.toInt64 a) (Int64.ofNat 0) (Int64.ofNat 4) = some (if 0 ≤ a ∧ a ≤ 4 then 1 else 0) := m_in0 a 4
  constructor
  · intro h
    obtain ⟨s', g1, g2, g3, g5, g4⟩ := p_shift hN hR h
    refine ⟨s', g3, ⟨_, g2⟩, g5, g4, ?_, ?_⟩
    · unfold F_X11_setGear
      rw [k_within, if_pos h, Option.bind_some, if_neg (by decide), hH, Option.bind_some, g1, Option.bind_some]
    · unfold F_X12_setGear F_X12_setGear_b23
      rw [hm, if_pos h, Option.bind_some, if_neg (by decide)]
      show ((some ((0 : Int32), (0 : Int32))).bind _) = _
      rw [Option.bind_some, if_pos rfl, hK, Option.bind_some, tn2, g2, Option.bind_some]
  · intro h
    constructor
    · unfold F_X11_setGear
      rw [k_within, if_neg h, Option.bind_some, if_pos rfl]
    · unfold F_X12_setGear F_X12_setGear_b23
      rw [hm, if_neg h, Option.bind_some, if_pos rfl]
      rfl
end SETS
