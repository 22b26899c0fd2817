/-! PURE: a record when all eight places are taken -/
theorem it_shift : ∀ (d i : Nat) (a : Nat → Int32) (j : Nat), it (fun k g => upd g k (g (k + 130))) i d a j = if i ≤ j ∧ j < i + d then a (j + 130) else a j := by
  intro d
  induction d with
  | zero => intro i a j; rw [if_neg (by omega)]; rfl
  | succ d ih =>
    intro i a j
    show it (fun k g => upd g k (g (k + 130))) (i + 1) d (upd a i (a (i + 130))) j = _
    rw [ih (i + 1)]
    by_cases h : i + 1 ≤ j ∧ j < i + 1 + d
    · rw [if_pos h, if_pos (by omega), upd_o _ _ (by omega)]
    · rw [if_neg h]
      by_cases hj : j = i
      · rw [hj, upd_s, if_pos (by omega)]
      · rw [upd_o _ _ hj, if_neg (by omega)]
theorem m_keeps8 {N : Nat} (hN : 1000 ≤ N) (past s : Nat → Int32) : ∃ past', F_X12_keepsPast N (nI 8) past s = some ((), nI 8, past') ∧ (∀ j, j < 130 → past' (910 + j) = s j) ∧ (∀ j, j < 910 → past' j = past (j + 130)) := by
  obtain ⟨p', g1, g2, g3⟩ := m_copiesAt (o := 910) hN (by omega) s (it (fun k g => upd g k (g (k + 130))) 0 910 past)
  refine ⟨p', ?_, g2, fun j hj => by rw [g3 j (Or.inl hj), it_shift, if_pos (by omega)]⟩
  unfold F_X12_keepsPast
  rw [if_pos (show nI 8 = (8 : Int32) from rfl)]
  refine lp_run (fun fu l a => F_X12_keepsPast_b11 N s fu l (nI 8) a) 910 (fun k g => upd g k (g (k + 130))) (fun a => F_X12_keepsPast_b50 N s (nI 8 - 1) a) (fun fu i a hi => ?_) (fun fu a => ?_) 910 0 N past rfl (by omega) |>.trans ?_
  · have hx : xin (nI i + 130) 1040 = true := by rw [show nI i + 130 = nI (i + 130) from nI_add i 130]; exact xin_nI (by omega) (by decide)
    have hy : xin (nI i) 1040 = true := xin_nI (by omega) (by decide)
    show F_X12_keepsPast_b11 N s (fu + 1) (nI i) (nI 8) a = _
    rw [F_X12_keepsPast_b11, if_neg (show ¬ (910 : Int32) ≤ nI i from nI_ge (b := 910) hi (by decide)), if_pos hx, if_pos hy, show nI i + 130 = nI (i + 130) from nI_add i 130, tnI (by omega), tnI (by omega), nI_1]
  · show F_X12_keepsPast_b11 N s (fu + 1) (nI 910) (nI 8) a = _
    rw [F_X12_keepsPast_b11, if_pos (show (910 : Int32) ≤ nI 910 by decide)]
  · show F_X12_keepsPast_b50 N s (nI 8 - 1) _ = _
    unfold F_X12_keepsPast_b50
    rw [show nI 8 - 1 = nI 7 from rfl, show (130 : Int32) * nI 7 = nI 910 from rfl, g1, Option.bind_some]
    rfl
