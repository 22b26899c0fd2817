/-! PURE: what is written of the floors -/
def w1 (v : Int32) (p : TB) : TB := (p.1 + 1, upd p.2 p.1 v)
def wN (x : Int32) (p : TB) : TB := w1 (48 + (x - x / 10 * 10)) (if x < 10 then (if x < 100 then p else w1 (48 + (x / 100)) p) else w1 (48 + ((x / 10) - (x / 10) / 10 * 10)) (if x < 100 then p else w1 (48 + (x / 100)) p))
theorem TA.w {p q : TB} (h : TA p q) (v : Int32) : TA (w1 v p) (w1 v q) := by
  refine ⟨by show p.1 + 1 = q.1 + 1; rw [h.1], fun i (hi : i < p.1 + 1) => ?_⟩
  show upd q.2 q.1 v i = upd p.2 p.1 v i
  by_cases hip : i = p.1
  · rw [hip, upd_s, h.1, upd_s]
  · rw [upd_o _ _ hip, upd_o _ _ (by rw [← h.1]; exact hip)]; exact h.2 i (by omega)
theorem TA.n {p q : TB} (h : TA p q) (x : Int32) : TA (wN x p) (wN x q) := by
  have h1 : TA (if x < 100 then p else w1 (48 + (x / 100)) p) (if x < 100 then q else w1 (48 + (x / 100)) q) := by
    by_cases c : x < 100
    · rw [if_pos c, if_pos c]; exact h
    · rw [if_neg c, if_neg c]; exact h.w _
  unfold wN
  refine TA.w ?_ _
  by_cases c : x < 10
  · rw [if_pos c, if_pos c]; exact h1
  · rw [if_neg c, if_neg c]; exact h1.w _
theorem wN_len (x : Int32) (p : TB) : p.1 + 1 ≤ (wN x p).1 ∧ (wN x p).1 ≤ p.1 + 3 := by
  unfold wN
  by_cases c : x < 10
  · by_cases d : x < 100
    · rw [if_pos c, if_pos d]
      exact ⟨Nat.le_refl _, show p.1 + 1 ≤ p.1 + 3 by omega⟩
    · rw [if_pos c, if_neg d]
      exact ⟨show p.1 + 1 ≤ p.1 + 1 + 1 by omega, show p.1 + 1 + 1 ≤ p.1 + 3 by omega⟩
  · by_cases d : x < 100
    · rw [if_neg c, if_pos d]
      exact ⟨show p.1 + 1 ≤ p.1 + 1 + 1 by omega, show p.1 + 1 + 1 ≤ p.1 + 3 by omega⟩
    · rw [if_neg c, if_neg d]
      exact ⟨show p.1 + 1 ≤ p.1 + 1 + 1 + 1 by omega, show p.1 + 1 + 1 + 1 ≤ p.1 + 3 by omega⟩
theorem k_add1 {p : TB} (h : p.1 < 100) (v : Int32) : F_X4_add v (nI p.1) p.2 = some ((), nI (w1 v p).1, (w1 v p).2) := by
  unfold F_X4_add
  rw [if_neg (show ¬ (100 : Int32) ≤ nI p.1 from nI_ge (b := 100) h (by decide)), if_pos (xin_nI h (by decide)), tnI (by omega), nI_1]
  rfl
theorem m_add1 {p : TB} (h : p.1 < 100) (v : Int32) : F_X12_writes v (nI p.1) p.2 = some ((), nI (w1 v p).1, (w1 v p).2) := by
  unfold F_X12_writes
  rw [if_pos (xin_nI h (by decide)), tnI (by omega), nI_1]
  rfl
theorem k_addN (x : Int32) (p : TB) (h : (wN x p).1 ≤ 100) : F_X4_addNumber x (nI p.1) p.2 = some ((), nI (wN x p).1, (wN x p).2) := by
  have t37 : ∀ r : TB, r.1 < 100 → F_X4_addNumber_b37 x (nI r.1) r.2 = some ((), nI (w1 (48 + (x - x / 10 * 10)) r).1, (w1 (48 + (x - x / 10 * 10)) r).2) := fun r hr => by
    unfold F_X4_addNumber_b37; rw [k_add1 hr, Option.bind_some]
  have t17 : ∀ r : TB, (if x < 10 then r.1 else r.1 + 1) < 100 → F_X4_addNumber_b17 x (nI r.1) r.2 = some ((), nI (w1 (48 + (x - x / 10 * 10)) (if x < 10 then r else w1 (48 + ((x / 10) - (x / 10) / 10 * 10)) r)).1, (w1 (48 + (x - x / 10 * 10)) (if x < 10 then r else w1 (48 + ((x / 10) - (x / 10) / 10 * 10)) r)).2) := fun r hr => by
    unfold F_X4_addNumber_b17
    by_cases c : x < 10
    · rw [if_pos c] at hr; rw [if_pos c, if_pos c, t37 r hr]
    · rw [if_neg c] at hr; rw [if_neg c, if_neg c, k_add1 (by omega), Option.bind_some]; exact t37 _ hr
  unfold wN at h ⊢
  unfold F_X4_addNumber
  by_cases c : x < 100
  · rw [if_pos c] at h ⊢
    rw [if_pos c]
    refine t17 p ?_
    by_cases d : x < 10
    · rw [if_pos d] at h ⊢; exact h
    · rw [if_neg d] at h ⊢; exact h
  · rw [if_neg c] at h ⊢
    have hp : p.1 < 100 := by
      by_cases d : x < 10
      · rw [if_pos d] at h; have h' : p.1 + 1 + 1 ≤ 100 := h; omega
      · rw [if_neg d] at h; have h' : p.1 + 1 + 1 + 1 ≤ 100 := h; omega
    rw [if_neg c, k_add1 hp, Option.bind_some]
    refine t17 (w1 (48 + (x / 100)) p) ?_
    by_cases d : x < 10
    · rw [if_pos d] at h ⊢; exact h
    · rw [if_neg d] at h ⊢; exact h
theorem m_addN (x : Int32) (p : TB) (h : (wN x p).1 ≤ 100) : F_X12_writesNumber x (nI p.1) p.2 = some ((), nI (wN x p).1, (wN x p).2) := by
  have t37 : ∀ r : TB, r.1 < 100 → F_X12_writesNumber_b37 x (nI r.1) r.2 = some ((), nI (w1 (48 + (x - x / 10 * 10)) r).1, (w1 (48 + (x - x / 10 * 10)) r).2) := fun r hr => by
    unfold F_X12_writesNumber_b37; rw [m_add1 hr, Option.bind_some]
  have t17 : ∀ r : TB, (if x < 10 then r.1 else r.1 + 1) < 100 → F_X12_writesNumber_b17 x (nI r.1) r.2 = some ((), nI (w1 (48 + (x - x / 10 * 10)) (if x < 10 then r else w1 (48 + ((x / 10) - (x / 10) / 10 * 10)) r)).1, (w1 (48 + (x - x / 10 * 10)) (if x < 10 then r else w1 (48 + ((x / 10) - (x / 10) / 10 * 10)) r)).2) := fun r hr => by
    unfold F_X12_writesNumber_b17
    by_cases c : x < 10
    · rw [if_pos c] at hr; rw [if_pos (show x ≤ 9 by grind), if_pos c, t37 r hr]
    · rw [if_neg c] at hr; rw [if_neg (show ¬ x ≤ 9 by grind), if_neg c, m_add1 (by omega), Option.bind_some]; exact t37 _ hr
  unfold wN at h ⊢
  unfold F_X12_writesNumber
  by_cases c : x < 100
  · rw [if_pos c] at h ⊢
    rw [if_pos (show x ≤ 99 by grind)]
    refine t17 p ?_
    by_cases d : x < 10
    · rw [if_pos d] at h ⊢; exact h
    · rw [if_neg d] at h ⊢; exact h
  · rw [if_neg c] at h ⊢
    have hp : p.1 < 100 := by
      by_cases d : x < 10
      · rw [if_pos d] at h; have h' : p.1 + 1 + 1 ≤ 100 := h; omega
      · rw [if_neg d] at h; have h' : p.1 + 1 + 1 + 1 ≤ 100 := h; omega
    rw [if_neg (show ¬ x ≤ 99 by grind), m_add1 hp, Option.bind_some]
    refine t17 (w1 (48 + (x / 100)) p) ?_
    by_cases d : x < 10
    · rw [if_pos d] at h ⊢; exact h
    · rw [if_neg d] at h ⊢; exact h
theorem p_outByte {p q : TB} (h : TA p q) (hp : p.1 ≤ 100) (a th : Int32) : ∃ v, F_X11_outputByte a (nI p.1) p.2 = some v ∧ F_X12_outputByte a th (nI q.1) q.2 = some (v, 0) := by
  unfold F_X11_outputByte F_X4_at F_X4_at_b21 F_X12_outputByte
  rw [← h.1]
  have hb : (0 : Int32) ≤ nI p.1 ∧ nI p.1 ≤ 100 := ⟨nI_le (a := 0) (Nat.zero_le _) (by omega), nI_le (b := 100) hp (by decide)⟩
  rw [m_in0]
  by_cases c : 0 ≤ a ∧ a ≤ nI p.1 - 1
  · obtain ⟨k, hk, rfl⟩ := n_of (x := a) (n := p.1) (by omega) c.1 (by grind)
    have hk' : k < p.1 := (nI_ltI (by omega) (by omega)).mp (show nI k < nI p.1 by grind)
    have hx : xin (nI k) 100 = true := xin_nI (by omega) (by decide)
    refine ⟨p.2 k, ?_, ?_⟩
    · rw [if_neg (nI_pos (by omega)), if_neg (nI_ge hk' (by omega)), if_pos hx, tnI (by omega), Option.bind_some]
    · rw [if_pos c, Option.bind_some, if_neg (by decide), if_pos hx, tnI (by omega), h.2 k hk']
  · refine ⟨-1, ?_, ?_⟩
    · by_cases d : a < 0
      · rw [if_pos d, Option.bind_some]
      · rw [if_neg d, if_pos (by grind), Option.bind_some]
    · rw [if_neg c, Option.bind_some, if_pos rfl]
