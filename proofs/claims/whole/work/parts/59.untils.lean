/-! PURE: minutesUntilDry, minutesUntilBurnt -/
theorem p_untilDry {N nf ns : Nat} {f g : Nat → Nat → Int32} {s q t aside warm : Nat → Int32} (hN : 1000 ≤ N) (hR : RH nf ns f s) (a th : Int32) :
    ∃ (k : Nat ⊕ Int32) (q' : Nat → Int32) (g' : Nat → Nat → Int32) (t' aside' s' warm' : Nat → Int32) (v e : Int32), F_X11_minutesUntilDry N a (q 12) (q 1) (q 8) (q 0) (q 13) (q 2) (q 5) (q 3) (q 4) (q 6) (g 0) (g 1) (g 2) (g 3) (q 10) (q 7) (q 11) (q 9) (g 5) (g 6) (g 7) (g 4) (g 8) t (s 12) (s 1) (s 8) (s 0) (s 13) (s 2) (s 5) (s 3) (s 4) (s 6) (f 0) (f 1) (f 2) (f 3) (s 10) (s 7) (s 11) (s 9) (f 5) (f 6) (f 7) (f 4) (f 8) = some (k, q' 12, q' 1, q' 8, q' 0, q' 13, q' 2, q' 5, q' 3, q' 4, q' 6, g' 0, g' 1, g' 2, g' 3, q' 10, q' 7, q' 11, q' 9, g' 5, g' 6, g' 7, g' 4, g' 8, t') ∧ F_X12_minutesUntilDry N a th aside s warm = some (v, e, aside', s', warm') ∧ (∀ j, j < 130 → s' j = s j) ∧ ((k = Sum.inr v ∧ e = 0) ∨ (k = Sum.inl 2 ∧ v = 0 ∧ e = 1) ∨ (k = Sum.inl 3 ∧ v = 0 ∧ e = 2)) := by
  obtain ⟨⟨h6, hn1, hn4⟩, -, -, -, hF, -⟩ := id hR
  rcases i_of (n := nf) (by omega) a with ⟨i, hi, rfl⟩ | ⟨h1, h2⟩
  · by_cases hl : f 1 i ≤ 0
    · refine ⟨Sum.inl 3, q, g, t, aside, s, warm, 0, 2, ?_, ?_, fun _ _ => rfl, Or.inr (Or.inr ⟨rfl, rfl, rfl⟩)⟩
      · unfold F_X11_minutesUntilDry
        rw [show F_X11_requireFloor (nI i) (s 6) = some (Sum.inr ()) by rw [h6]; exact rq_in hn4 hi, Option.bind_some]
        show ((F_X11_requireLoad (nI i) (s 6) (f 1)).bind _) = _
        rw [show F_X11_requireLoad (nI i) (s 6) (f 1) = some (Sum.inl 3) by rw [h6, rL_in hn4 hi, if_pos hl], Option.bind_some]
        rfl
      · unfold F_X12_minutesUntilDry F_X12_minutesUntilDry_b27
        rw [no_in h6 hn4 hi, Option.bind_some, if_pos rfl, m_loadedR hR hi, Option.bind_some, if_pos hl, if_pos rfl]
        rfl
    · have hRF : RH nf ns (fCp f g) s := hR.congp (fun _ _ => rfl) (fun r j _ hj => fCp_f hj) (fun r j hr _ hj => by obtain ⟨k, rfl⟩ : ∃ k, r = k + 4 := ⟨r - 4, by omega⟩; exact fCp_s hj)
      obtain ⟨a', ga, ha, -⟩ := m_copies hN s aside
      obtain ⟨v, q', g', t', s', w', r1, r2, r3⟩ := lp_minutesUntilDry hN hi 0 a' 301 0 (fCp f g) s t warm rfl hRF
      refine ⟨Sum.inr v, q', g', t', a', s', w', v, 0, ?_, ?_, fun j hj => by rw [r3 j hj, ha j hj], Or.inl ⟨rfl, rfl⟩⟩
      · unfold F_X11_minutesUntilDry
        rw [show F_X11_requireFloor (nI i) (s 6) = some (Sum.inr ()) by rw [h6]; exact rq_in hn4 hi, Option.bind_some]
        show ((F_X11_requireLoad (nI i) (s 6) (f 1)).bind _) = _
        rw [show F_X11_requireLoad (nI i) (s 6) (f 1) = some (Sum.inr ()) by rw [h6, rL_in hn4 hi, if_neg hl], Option.bind_some]
        unfold F_X3_copyFrom F_X0_copyFrom F_X1_copyFrom F_X5_copyFrom
        rw [Option.bind_some, Option.bind_some, Option.bind_some]
        exact r1 N (by omega)
      · unfold F_X12_minutesUntilDry F_X12_minutesUntilDry_b27
        rw [no_in h6 hn4 hi, Option.bind_some, if_pos rfl, m_loadedR hR hi, Option.bind_some, if_neg hl, if_neg (by decide)]
        show ((some ((0 : Int32), (0 : Int32))).bind _) = _
        rw [Option.bind_some, if_pos rfl, ga, Option.bind_some]
        exact r2 N 0 (by omega)
  · refine ⟨Sum.inl 2, q, g, t, aside, s, warm, 0, 1, ?_, ?_, fun _ _ => rfl, Or.inr (Or.inl ⟨rfl, rfl, rfl⟩)⟩
    · unfold F_X11_minutesUntilDry
      rw [show F_X11_requireFloor a (s 6) = some (Sum.inl 2) by rw [h6]; exact rq_out h2, Option.bind_some]
      rfl
    · unfold F_X12_minutesUntilDry
      rw [no_out h6 h1, Option.bind_some, if_neg (by decide)]
      rfl
theorem p_untilBurnt {N nf ns : Nat} {f g : Nat → Nat → Int32} {s q t aside warm : Nat → Int32} (hN : 1000 ≤ N) (hR : RH nf ns f s) (a th : Int32) :
    ∃ (k : Nat ⊕ Int32) (q' : Nat → Int32) (g' : Nat → Nat → Int32) (t' aside' s' warm' : Nat → Int32) (v e : Int32), F_X11_minutesUntilBurnt N a (q 12) (q 1) (q 8) (q 0) (q 13) (q 2) (q 5) (q 3) (q 4) (q 6) (g 0) (g 1) (g 2) (g 3) (q 10) (q 7) (q 11) (q 9) (g 5) (g 6) (g 7) (g 4) (g 8) t (s 12) (s 1) (s 8) (s 0) (s 13) (s 2) (s 5) (s 3) (s 4) (s 6) (f 0) (f 1) (f 2) (f 3) (s 10) (s 7) (s 11) (s 9) (f 5) (f 6) (f 7) (f 4) (f 8) = some (k, q' 12, q' 1, q' 8, q' 0, q' 13, q' 2, q' 5, q' 3, q' 4, q' 6, g' 0, g' 1, g' 2, g' 3, q' 10, q' 7, q' 11, q' 9, g' 5, g' 6, g' 7, g' 4, g' 8, t') ∧ F_X12_minutesUntilBurnt N a th aside s warm = some (v, e, aside', s', warm') ∧ (∀ j, j < 130 → s' j = s j) ∧ ((k = Sum.inr v ∧ e = 0) ∨ (k = Sum.inl 2 ∧ v = 0 ∧ e = 1)) := by
  obtain ⟨-, ⟨h7, hns⟩, -, -, -, hS⟩ := id hR
  rcases i_of (n := ns) hns a with ⟨i, hi, rfl⟩ | ⟨h1, h2⟩
  · have hRF : RH nf ns (fCp f g) s := hR.congp (fun _ _ => rfl) (fun r j _ hj => fCp_f hj) (fun r j hr _ hj => by obtain ⟨k, rfl⟩ : ∃ k, r = k + 4 := ⟨r - 4, by omega⟩; exact fCp_s hj)
    obtain ⟨a', ga, ha, -⟩ := m_copies hN s aside
    obtain ⟨v, q', g', t', s', w', r1, r2, r3⟩ := lp_minutesUntilBurnt hN hi 0 a' 301 0 (fCp f g) s t warm rfl hRF
    refine ⟨Sum.inr v, q', g', t', a', s', w', v, 0, ?_, ?_, fun j hj => by rw [r3 j hj, ha j hj], Or.inl ⟨rfl, rfl⟩⟩
    · unfold F_X11_minutesUntilBurnt
      rw [show F_X11_requireSack (nI i) (s 7) = some (Sum.inr ()) by rw [h7]; exact rS_in hns hi, Option.bind_some]
      unfold F_X3_copyFrom F_X0_copyFrom F_X1_copyFrom F_X5_copyFrom
      rw [Option.bind_some, Option.bind_some, Option.bind_some]
      exact r1 N (by omega)
    · unfold F_X12_minutesUntilBurnt
      rw [nS_in h7 hns hi, Option.bind_some, if_pos rfl, ga, Option.bind_some]
      exact r2 N 0 (by omega)
  · refine ⟨Sum.inl 2, q, g, t, aside, s, warm, 0, 1, ?_, ?_, fun _ _ => rfl, Or.inr ⟨rfl, rfl, rfl⟩⟩
    · unfold F_X11_minutesUntilBurnt
      rw [show F_X11_requireSack a (s 7) = some (Sum.inl 2) by rw [h7]; exact rS_out h2, Option.bind_some]
      rfl
    · unfold F_X12_minutesUntilBurnt
      rw [nS_out h7 h1, Option.bind_some, if_neg (by decide)]
