/-! PURE: the model's past -/
theorem it_updAt (o : Nat) (v : Nat → Int32) : ∀ (d i : Nat) (a : Nat → Int32) (j : Nat), it (fun k g => upd g (o + k) (v k)) i d a j = if o + i ≤ j ∧ j < o + i + d then v (j - o) else a j := by
  intro d
  induction d with
  | zero => intro i a j; rw [if_neg (by omega)]; rfl
  | succ d ih =>
    intro i a j
    show it (fun k g => upd g (o + k) (v k)) (i + 1) d (upd a (o + i) (v i)) j = _
    rw [ih (i + 1)]
    by_cases h : o + (i + 1) ≤ j ∧ j < o + (i + 1) + d
    · rw [if_pos h, if_pos (by omega)]
    · rw [if_neg h]
      by_cases hj : j = o + i
      · rw [hj, upd_s, if_pos (by omega), show o + i - o = i by omega]
      · rw [upd_o _ _ hj, if_neg (by omega)]
theorem m_copiesAt {N o : Nat} (hN : 1000 ≤ N) (ho : o + 130 ≤ 1040) (f g : Nat → Int32) : ∃ g', F_X12_copies N 130 1040 0 (nI o) f g = some ((), g') ∧ (∀ j, j < 130 → g' (o + j) = f j) ∧ (∀ j, (j < o ∨ o + 130 ≤ j) → g' j = g j) := by
  refine ⟨it (fun k g => upd g (o + k) (f k)) 0 130 g, ?_, fun j hj => by rw [it_updAt, if_pos (by omega), show o + j - o = j by omega], fun j hj => by rw [it_updAt, if_neg (by omega)]⟩
  unfold F_X12_copies
  refine lp_run (fun fu l a => F_X12_copies_b3 N 130 1040 f fu 0 (nI o) l a) 130 (fun k g => upd g (o + k) (f k)) (fun a => some ((), a)) (fun fu i a hi => ?_) (fun fu a => ?_) 130 0 N g rfl (by omega)
  · have hx : xin (0 + nI i) 130 = true := by rw [show (0 : Int32) + nI i = nI i by grind]; exact xin_nI hi (by decide)
    have hy : xin (nI o + nI i) 1040 = true := by rw [nI_add]; exact xin_nI (by omega) (by decide)
    show F_X12_copies_b3 N 130 1040 f (fu + 1) 0 (nI o) (nI i) a = _
    rw [F_X12_copies_b3, if_neg (show ¬ (130 : Int32) ≤ nI i from nI_ge (b := 130) hi (by decide)), if_pos hx, if_pos hy, show (0 : Int32) + nI i = nI i by grind, nI_add, tnI (by omega), tnI (by omega), nI_1]
  · show F_X12_copies_b3 N 130 1040 f (fu + 1) 0 (nI o) (nI 130) a = _
    rw [F_X12_copies_b3, if_pos (show (130 : Int32) ≤ nI 130 by decide)]
/-- a record while there is room -/
theorem m_keeps {N u : Nat} (hN : 1000 ≤ N) (hu : u < 8) (past s : Nat → Int32) : ∃ past', F_X12_keepsPast N (nI u) past s = some ((), nI (u + 1), past') ∧ (∀ j, j < 130 → past' (130 * u + j) = s j) ∧ (∀ j, (j < 130 * u ∨ 130 * u + 130 ≤ j) → past' j = past j) := by
  obtain ⟨p', g1, g2, g3⟩ := m_copiesAt (o := 130 * u) hN (by omega) s past
  refine ⟨p', ?_, g2, g3⟩
  unfold F_X12_keepsPast F_X12_keepsPast_b50
  rw [if_neg (show ¬ nI u = 8 from fun q => by have := (nI_eq (a := u) (b := 8) (by omega) (by decide)).mp q; omega), show (130 : Int32) * nI u = nI (130 * u) from pk_mul 130 u, g1, Option.bind_some, nI_1]
