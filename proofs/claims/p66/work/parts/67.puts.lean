/-! PURE: putLoad, lower, rotate -/
/-- an answer of both sides: a value, or a throw that the law tells by the number t k -/
def AnsT (t : Nat → Int32) (k : Nat ⊕ Int32) (v e : Int32) : Prop := (k = Sum.inr v ∧ e = 0) ∨ ∃ n, k = Sum.inl n ∧ v = 0 ∧ e = t n ∧ ¬ t n = 0
/-- catches: IndexOutOfBounds 1, IllegalState 2 -/
def tIS : Nat → Int32 := fun n => if n = 2 then 1 else if n = 0 then 2 else 0
/-- IllegalArgument 1, IllegalState 2 -/
def tAS : Nat → Int32 := fun n => if n = 1 then 1 else if n = 0 then 2 else 0
theorem st_0 (k : Int32) : F_X12_stops 0 k 0 = some (0, 0) := by unfold F_X12_stops F_X12_stops_b16; rw [if_pos rfl, if_pos rfl, if_pos rfl]
theorem st_1 : F_X12_stops 1 1 0 = some (1, 1) := rfl
theorem st_2 : F_X12_stops 1 2 0 = some (1, 2) := rfl
section PUTS
variable {N nf ns : Nat} {f : Nat → Nat → Int32} {s past past' : Nat → Int32} {hc hf hc' hf' ud ud' : Int32}
theorem p_putLoad (hN : 1000 ≤ N) (hQ : RQ nf ns f s) (hK : F_X12_keepsPast N ud past s = some ((), ud', past')) (hH : F_X2_record hc hf = some ((), hc', hf')) (a b th : Int32) :
    ∃ (k : Nat ⊕ Int32) (v e : Int32) (r : Nat) (f2 : Nat → Nat → Int32) (s2 : Nat → Int32), RQ nf ns f2 s2 ∧ (r = 0 ∨ r = 1) ∧ AnsT tAS k v e ∧ (f2 0 = f 0 ∧ f2 4 = f 4 ∧ f2 5 = f 5 ∧ f2 6 = f 6 ∧ f2 7 = f 7 ∧ f2 8 = f 8) ∧ (∀ j, j < 14 → j ≠ 1 → j ≠ 8 → j ≠ 12 → s2 j = s j) ∧
      F_X11_putLoad N a b hc hf (s 12) (s 1) (s 8) (s 2) (s 5) (s 3) (s 4) (s 6) (f 0) (f 1) (f 2) (f 3) = some (k, if r = 1 then hc' else hc, if r = 1 then hf' else hf, s2 12, s2 1, s2 8, f2 1, f2 2, f2 3, r) ∧
      F_X12_putLoad N a b th ud past s = some (v, e, if r = 1 then ud' else ud, if r = 1 then past' else past, s2) := by
  obtain ⟨hR, h0, hD⟩ := id hQ
  obtain ⟨⟨h6, hn1, hn4⟩, -⟩ := id hR
  have hm1 : F_X12_in (Int32.toInt64 a) (Int64.ofNat 1) (Int64.ofNat 99) = some (if 1 ≤ a ∧ a ≤ 99 then 1 else 0) := m_in a 1 99
  have hm2 : F_X12_in (Int32.toInt64 b) (Int64.ofNat 0) (Int64.ofNat 800) = some (if 0 ≤ b ∧ b ≤ 800 then 1 else 0) := m_in0 b 800
  have out : ∀ (k : Nat ⊕ Int32) (e : Int32), AnsT tAS k 0 e → F_X11_putLoad N a b hc hf (s 12) (s 1) (s 8) (s 2) (s 5) (s 3) (s 4) (s 6) (f 0) (f 1) (f 2) (f 3) = some (k, hc, hf, s 12, s 1, s 8, f 1, f 2, f 3, 0) → F_X12_putLoad N a b th ud past s = some (0, e, ud, past, s) →
      ∃ (k : Nat ⊕ Int32) (v e : Int32) (r : Nat) (f2 : Nat → Nat → Int32) (s2 : Nat → Int32), RQ nf ns f2 s2 ∧ (r = 0 ∨ r = 1) ∧ AnsT tAS k v e ∧ (f2 0 = f 0 ∧ f2 4 = f 4 ∧ f2 5 = f 5 ∧ f2 6 = f 6 ∧ f2 7 = f 7 ∧ f2 8 = f 8) ∧ (∀ j, j < 14 → j ≠ 1 → j ≠ 8 → j ≠ 12 → s2 j = s j) ∧
      F_X11_putLoad N a b hc hf (s 12) (s 1) (s 8) (s 2) (s 5) (s 3) (s 4) (s 6) (f 0) (f 1) (f 2) (f 3) = some (k, if r = 1 then hc' else hc, if r = 1 then hf' else hf, s2 12, s2 1, s2 8, f2 1, f2 2, f2 3, r) ∧
      F_X12_putLoad N a b th ud past s = some (v, e, if r = 1 then ud' else ud, if r = 1 then past' else past, s2) := fun k e h1 h2 h3 => ⟨k, 0, e, 0, f, s, hQ, Or.inl rfl, h1, ⟨rfl, rfl, rfl, rfl, rfl, rfl⟩, fun _ _ _ _ _ => rfl, h2, h3⟩
  by_cases h1 : 1 ≤ a ∧ a ≤ 99
  · by_cases h2 : 0 ≤ b ∧ b ≤ 800
    · by_cases h3 : f 1 (nf - 1) ≤ 0
      · obtain ⟨f2, s2, g1, ⟨g2, g3⟩, g4, ⟨g0, g5⟩, g6⟩ := p_put hN hR h1 h2
        obtain ⟨⟨q6, -, -⟩, -⟩ := id g4
        refine ⟨Sum.inr (nI (cT (f2 1) nf)), _, 0, 1, f2, s2, ⟨g4, by rw [g6 0 (by decide) (by decide) (by decide) (by decide)]; exact h0, damps_RD hN g4 g3⟩, Or.inr rfl, Or.inl ⟨rfl, rfl⟩, ⟨g0, g5⟩, g6, ?_, ?_⟩
        · unfold F_X11_putLoad
          rw [k_within, if_pos h1, Option.bind_some, if_neg (by decide), k_within, if_pos h2, Option.bind_some, if_neg (by decide), k_canPut hR, if_pos h3, Option.bind_some, if_neg (by decide), hH, Option.bind_some, g1, Option.bind_some]
          dsimp only
          rw [h6, k_count hN hn4, Option.bind_some, if_pos rfl, if_pos rfl]
        · unfold F_X12_putLoad F_X12_putLoad_b45
          rw [hm1, if_pos h1, Option.bind_some, if_neg (by decide), hm2, if_pos h2, Option.bind_some, if_neg (by decide), st_0, Option.bind_some]
          dsimp only
          rw [if_pos rfl, tn6, h6, nI_pm hn1, m_loadedR hR (by omega), if_pos h3, Option.bind_some, st_0, Option.bind_some]
          dsimp only
          rw [if_pos rfl, hK, Option.bind_some, g2, Option.bind_some]
          dsimp only
          rw [g3, Option.bind_some]
          dsimp only
          rw [m_loads hN g4, Option.bind_some, if_pos rfl, if_pos rfl]
      · refine out (Sum.inl 0) 2 (Or.inr ⟨0, rfl, rfl, rfl, by decide⟩) ?_ ?_
        · unfold F_X11_putLoad
          rw [k_within, if_pos h1, Option.bind_some, if_neg (by decide), k_within, if_pos h2, Option.bind_some, if_neg (by decide), k_canPut hR, if_neg h3, Option.bind_some, if_pos rfl]
        · unfold F_X12_putLoad F_X12_putLoad_b45
          rw [hm1, if_pos h1, Option.bind_some, if_neg (by decide), hm2, if_pos h2, Option.bind_some, if_neg (by decide), st_0, Option.bind_some]
          dsimp only
          rw [if_pos rfl, tn6, h6, nI_pm hn1, m_loadedR hR (by omega), if_neg h3, Option.bind_some, st_2, Option.bind_some]
          dsimp only
          rw [if_neg (by decide)]
          rfl
    · refine out (Sum.inl 1) 1 (Or.inr ⟨1, rfl, rfl, rfl, by decide⟩) ?_ ?_
      · unfold F_X11_putLoad F_X11_putLoad_b21
        rw [k_within, if_pos h1, Option.bind_some, if_neg (by decide), k_within, if_neg h2, Option.bind_some, if_pos rfl]
      · unfold F_X12_putLoad F_X12_putLoad_b40 F_X12_putLoad_b45
        rw [hm1, if_pos h1, Option.bind_some, if_neg (by decide), hm2, if_neg h2, Option.bind_some, if_pos rfl, st_1, Option.bind_some]
        dsimp only
        rw [if_neg (by decide)]
        rfl
  · refine out (Sum.inl 1) 1 (Or.inr ⟨1, rfl, rfl, rfl, by decide⟩) ?_ ?_
    · unfold F_X11_putLoad F_X11_putLoad_b21
      rw [k_within, if_neg h1, Option.bind_some, if_pos rfl]
    · unfold F_X12_putLoad F_X12_putLoad_b40 F_X12_putLoad_b45
      rw [hm1, if_neg h1, Option.bind_some, if_pos rfl, st_1, Option.bind_some]
      dsimp only
      rw [if_neg (by decide)]
      rfl
theorem p_lower (hN : 1000 ≤ N) (hQ : RQ nf ns f s) (hK : F_X12_keepsPast N ud past s = some ((), ud', past')) (hH : F_X2_record hc hf = some ((), hc', hf')) (a th : Int32) :
    ∃ (k : Nat ⊕ Int32) (v e : Int32) (r ns2 : Nat) (f2 : Nat → Nat → Int32) (s2 : Nat → Int32), RQ nf ns2 f2 s2 ∧ (r = 0 ∨ r = 1) ∧ AnsT tIS k v e ∧ f2 0 = f 0 ∧ (∀ j, j < 14 → j ≠ 1 → j ≠ 7 → j ≠ 12 → s2 j = s j) ∧
      F_X11_lower N a hc hf (s 12) (s 1) (s 2) (s 5) (s 3) (s 4) (s 6) (f 0) (f 1) (f 2) (f 3) (s 7) (f 5) (f 6) (f 7) (f 4) (f 8) = some (k, if r = 1 then hc' else hc, if r = 1 then hf' else hf, s2 12, s2 1, f2 1, f2 2, f2 3, s2 7, f2 5, f2 6, f2 7, f2 4, f2 8, r) ∧
      F_X12_lower N a th ud past s = some (v, e, if r = 1 then ud' else ud, if r = 1 then past' else past, s2) := by
  obtain ⟨hR, h0, hD⟩ := id hQ
  obtain ⟨⟨h6, hn1, hn4⟩, ⟨h7, hns⟩, -⟩ := id hR
  rcases i_of (n := nf) (by omega) a with ⟨i, hi, rfl⟩ | ⟨h1, h2⟩
  · by_cases hw : pWhy ns f i = 0
    · obtain ⟨ns2, f2, s1, s2, g1, g2, g3, g4, g5, g6⟩ := p_lowerOne hN hR hi hw
      refine ⟨Sum.inr (f 2 i), f 2 i, 0, 1, ns2, f2, s2, ⟨g4, by rw [g6 0 (by decide) (by decide) (by decide) (by decide)]; exact h0, damps_RD hN g4 g3⟩, Or.inr rfl, Or.inl ⟨rfl, rfl⟩, g5, g6, ?_, ?_⟩
      · unfold F_X11_lower
        rw [show F_X11_requireFloor (nI i) (s 6) = some (Sum.inr ()) by rw [h6]; exact rq_in hn4 hi, Option.bind_some]
        dsimp only [Sum.elim]
        rw [k_why hR hi, Option.bind_some, if_pos hw, hH, Option.bind_some, if_pos (xin_nI (by omega) (by decide)), g1, Option.bind_some, tnI (by omega), if_pos rfl, if_pos rfl]
      · unfold F_X12_lower F_X12_lower_b27
        rw [no_in h6 hn4 hi, Option.bind_some]
        dsimp only
        rw [if_pos rfl, m_why hR hi, Option.bind_some, if_pos hw, st_0, Option.bind_some]
        dsimp only
        rw [if_pos rfl, hK, Option.bind_some, g2, Option.bind_some]
        dsimp only
        rw [g3, Option.bind_some, if_pos rfl, if_pos rfl]
    · refine ⟨Sum.inl 0, 0, 2, 0, ns, f, s, hQ, Or.inl rfl, Or.inr ⟨0, rfl, rfl, rfl, by decide⟩, rfl, fun _ _ _ _ _ => rfl, ?_, ?_⟩
      · unfold F_X11_lower
        rw [show F_X11_requireFloor (nI i) (s 6) = some (Sum.inr ()) by rw [h6]; exact rq_in hn4 hi, Option.bind_some]
        dsimp only [Sum.elim]
        rw [k_why hR hi, Option.bind_some, if_neg hw, if_neg (by decide), if_neg (by decide)]
      · unfold F_X12_lower F_X12_lower_b27
        rw [no_in h6 hn4 hi, Option.bind_some]
        dsimp only
        rw [if_pos rfl, m_why hR hi, Option.bind_some, if_neg hw, st_2, Option.bind_some]
        dsimp only
        rw [if_neg (by decide), if_neg (by decide), if_neg (by decide)]
        rfl
  · refine ⟨Sum.inl 2, 0, 1, 0, ns, f, s, hQ, Or.inl rfl, Or.inr ⟨2, rfl, rfl, rfl, by decide⟩, rfl, fun _ _ _ _ _ => rfl, ?_, ?_⟩
    · unfold F_X11_lower
      rw [show F_X11_requireFloor a (s 6) = some (Sum.inl 2) by rw [h6]; exact rq_out h2, Option.bind_some]
      dsimp only [Sum.elim]
      rw [if_neg (by decide), if_neg (by decide)]
    · unfold F_X12_lower
      rw [no_out h6 h1, Option.bind_some]
      dsimp only
      rw [if_neg (by decide), if_neg (by decide), if_neg (by decide)]
      rfl
theorem p_rotateF (hN : 1000 ≤ N) (hQ : RQ nf ns f s) (hK : F_X12_keepsPast N ud past s = some ((), ud', past')) (hH : F_X2_record hc hf = some ((), hc', hf')) (th : Int32) :
    ∃ (v : Int32) (ns2 : Nat) (f2 : Nat → Nat → Int32) (s2 : Nat → Int32), RQ nf ns2 f2 s2 ∧ f2 0 = f 0 ∧ (∀ j, j < 14 → j ≠ 1 → j ≠ 7 → j ≠ 12 → s2 j = s j) ∧
      F_X11_rotate N hc hf (s 12) (s 1) (s 2) (s 5) (s 3) (s 4) (s 6) (f 0) (f 1) (f 2) (f 3) (s 7) (f 5) (f 6) (f 7) (f 4) (f 8) = some (v, hc', hf', s2 12, s2 1, f2 1, f2 2, f2 3, s2 7, f2 5, f2 6, f2 7, f2 4, f2 8, 1) ∧
      F_X12_rotate N th ud past s = some (v, 0, ud', past', s2) := by
  obtain ⟨hR, h0, hD⟩ := id hQ
  obtain ⟨ns2, f2, s1, s2, c, g1, g2, g3, g4, g5, g6⟩ := p_rotate hN hR
  refine ⟨c, ns2, f2, s2, ⟨g4, by rw [g6 0 (by decide) (by decide) (by decide) (by decide)]; exact h0, damps_RD hN g4 g3⟩, g5, g6, ?_, ?_⟩
  · unfold F_X11_rotate
    rw [hH, Option.bind_some, g1, Option.bind_some]
  · unfold F_X12_rotate
    rw [hK, Option.bind_some, g2, Option.bind_some]
    dsimp only
    rw [g3, Option.bind_some]
end PUTS
