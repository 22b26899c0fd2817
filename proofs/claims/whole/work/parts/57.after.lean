/-! PURE: a forecast -/
theorem p_tempAfter {N nf ns : Nat} {f g : Nat → Nat → Int32} {s q t aside warm : Nat → Int32} (hN : 1000 ≤ N) (hR : RH nf ns f s) (a m th : Int32) :
    ∃ (k : Nat ⊕ Int32) (q' : Nat → Int32) (g' : Nat → Nat → Int32) (t' aside' s' warm' : Nat → Int32) (v e : Int32), F_X11_temperatureAfter N a m (q 12) (q 1) (q 8) (q 0) (q 13) (q 2) (q 5) (q 3) (q 4) (q 6) (g 0) (g 1) (g 2) (g 3) (q 10) (q 7) (q 11) (q 9) (g 5) (g 6) (g 7) (g 4) (g 8) t (s 12) (s 1) (s 8) (s 0) (s 13) (s 2) (s 5) (s 3) (s 4) (s 6) (f 0) (f 1) (f 2) (f 3) (s 10) (s 7) (s 11) (s 9) (f 5) (f 6) (f 7) (f 4) (f 8) = some (k, q' 12, q' 1, q' 8, q' 0, q' 13, q' 2, q' 5, q' 3, q' 4, q' 6, g' 0, g' 1, g' 2, g' 3, q' 10, q' 7, q' 11, q' 9, g' 5, g' 6, g' 7, g' 4, g' 8, t') ∧ F_X12_temperatureAfter N a m th aside s warm = some (v, e, aside', s', warm') ∧ (∀ j, j < 130 → s' j = s j) ∧ ((k = Sum.inr v ∧ e = 0) ∨ (k = Sum.inl 2 ∧ v = 0 ∧ e = 1) ∨ (k = Sum.inl 1 ∧ v = 0 ∧ e = 2)) := by
  obtain ⟨⟨h6, hn1, hn4⟩, -, -, -, hF, -⟩ := id hR
  rcases i_of (n := nf) (by omega) a with ⟨i, hi, rfl⟩ | ⟨h1, h2⟩
  · by_cases hm : 0 ≤ m ∧ m ≤ 300
    · obtain ⟨n, hn, rfl⟩ := n_of (x := m) (n := 300) (by decide) hm.1 hm.2
      have hRF : RH nf ns (fCp f g) s := hR.congp (fun _ _ => rfl) (fun r j _ hj => fCp_f hj) (fun r j hr _ hj => by obtain ⟨k, rfl⟩ : ∃ k, r = k + 4 := ⟨r - 4, by omega⟩; exact fCp_s hj)
      obtain ⟨f', s', t', w', c, g1, g2, hR', ⟨⟨k0, k1, k5, k6, k7⟩, j2, j3, j4, j6, j7, j8, j9, j11⟩, -⟩ := p_pass hN (n := n) (by omega) (by omega) hRF t warm
      obtain ⟨⟨h6', -, -⟩, -, -, -, hF', -⟩ := id hR'
      obtain ⟨a', ga, ha, -⟩ := m_copies hN s aside
      obtain ⟨s'', gs, hs, -⟩ := m_copies hN a' s'
      have et := k_tn hN hn4 (Nat.le_of_lt hi) hF'
      refine ⟨Sum.inr (pT s' i), s', f', t', a', s'', w', pT s' i, 0, ?_, ?_, fun j hj => by rw [hs j hj, ha j hj], Or.inl ⟨rfl, rfl⟩⟩
      · unfold F_X11_temperatureAfter
        rw [show F_X11_requireFloor (nI i) (s 6) = some (Sum.inr ()) by rw [h6]; exact rq_in hn4 hi, Option.bind_some]
        show ((F_X11_within (nI n) 0 300).bind _) = _
        rw [k_within, if_pos hm, Option.bind_some, if_neg (by decide)]
        unfold F_X3_copyFrom F_X0_copyFrom F_X1_copyFrom F_X5_copyFrom
        rw [Option.bind_some, Option.bind_some, Option.bind_some, Option.bind_some]
        refine (show _ = (F_X3_passMinutes N (nI n) (s 12) (s 1) (s 0) (s 13) (s 2) (s 5) (s 3) (s 4) (s 6) (fCp f g 0) (fCp f g 1) (fCp f g 2) (fCp f g 3) (s 10) (s 7) (fCp f g 5) (fCp f g 6) (fCp f g 4) (fCp f g 8) t).bind (fun x10 => (F_X3_temperatureNow N (nI i) x10.2.2.1 (s 2) x10.2.2.2.2.2.1 (s 3) (s 4) (s 6) (fCp f g 1) x10.2.2.2.2.2.2.1).bind fun x12 => some (Sum.inr x12, x10.2.1, x10.2.2.1, s 8, x10.2.2.2.1, x10.2.2.2.2.1, s 2, x10.2.2.2.2.2.1, s 3, s 4, s 6, fCp f g 0, fCp f g 1, x10.2.2.2.2.2.2.1, x10.2.2.2.2.2.2.2.1, x10.2.2.2.2.2.2.2.2.1, s 7, s 11, s 9, fCp f g 5, fCp f g 6, fCp f g 7, x10.2.2.2.2.2.2.2.2.2.1, x10.2.2.2.2.2.2.2.2.2.2.1, x10.2.2.2.2.2.2.2.2.2.2.2)) from rfl).trans ?_
        rw [g1, Option.bind_some]
        dsimp only
        rw [← j2, ← j3, ← j4, ← k1, h6, et, Option.bind_some, ← k0, ← k5, ← k6, ← k7, ← j7, ← j8, ← j9, ← j11, h6']
      · unfold F_X12_temperatureAfter F_X12_temperatureAfter_b31
        rw [no_in h6 hn4 hi, Option.bind_some, if_pos rfl, show F_X12_in (Int32.toInt64 (nI n)) (Int64.ofNat 0) (Int64.ofNat 300) = some (if 0 ≤ nI n ∧ nI n ≤ 300 then 1 else 0) from m_in0 (nI n) 300, if_pos hm, Option.bind_some, if_neg (by decide)]
        show ((some ((0 : Int32), (0 : Int32))).bind _) = _
        rw [Option.bind_some, if_pos rfl, ga, Option.bind_some, g2, Option.bind_some, m_deg hN (by omega), Option.bind_some, gs, Option.bind_some]
    · refine ⟨Sum.inl 1, q, g, t, aside, s, warm, 0, 2, ?_, ?_, fun _ _ => rfl, Or.inr (Or.inr ⟨rfl, rfl, rfl⟩)⟩
      · unfold F_X11_temperatureAfter
        rw [show F_X11_requireFloor (nI i) (s 6) = some (Sum.inr ()) by rw [h6]; exact rq_in hn4 hi, Option.bind_some]
        show ((F_X11_within m 0 300).bind _) = _
        rw [k_within, if_neg hm, Option.bind_some, if_pos rfl]
      · unfold F_X12_temperatureAfter F_X12_temperatureAfter_b31
        rw [no_in h6 hn4 hi, Option.bind_some, if_pos rfl, show F_X12_in (Int32.toInt64 m) (Int64.ofNat 0) (Int64.ofNat 300) = some (if 0 ≤ m ∧ m ≤ 300 then 1 else 0) from m_in0 m 300, if_neg hm, Option.bind_some, if_pos rfl]
        rfl
  · refine ⟨Sum.inl 2, q, g, t, aside, s, warm, 0, 1, ?_, ?_, fun _ _ => rfl, Or.inr (Or.inl ⟨rfl, rfl, rfl⟩)⟩
    · unfold F_X11_temperatureAfter
      rw [show F_X11_requireFloor a (s 6) = some (Sum.inl 2) by rw [h6]; exact rq_out h2, Option.bind_some]
      rfl
    · unfold F_X12_temperatureAfter
      rw [no_out h6 h1, Option.bind_some, if_neg (by decide)]
      rfl
