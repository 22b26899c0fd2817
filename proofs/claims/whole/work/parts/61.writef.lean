/-! PURE: writeFloors -/
def wSt (f : Nat → Nat → Int32) (s : Nat → Int32) (i : Nat) (p : TB) : TB := if f 1 i ≤ 0 then w1 46 (wN (pT s i) (if i = 0 then p else w1 32 p)) else wN (f 2 i) (w1 58 (wN (pT s i) (if i = 0 then p else w1 32 p)))
def wFs (f : Nat → Nat → Int32) (s : Nat → Int32) (p : TB) : Nat → TB
  | 0 => p
  | i + 1 => wSt f s i (wFs f s p i)
theorem wSp_len (i : Nat) (p : TB) : p.1 ≤ (if i = 0 then p else w1 32 p).1 ∧ (if i = 0 then p else w1 32 p).1 ≤ p.1 + 1 := by
  by_cases c : i = 0
  · rw [if_pos c]; exact ⟨Nat.le_refl _, by omega⟩
  · rw [if_neg c]; exact ⟨show p.1 ≤ p.1 + 1 by omega, Nat.le_refl _⟩
theorem wSt_len (f : Nat → Nat → Int32) (s : Nat → Int32) (i : Nat) (p : TB) : p.1 + 1 ≤ (wSt f s i p).1 ∧ (wSt f s i p).1 ≤ p.1 + 8 := by
  have a := wSp_len i p
  have b := wN_len (pT s i) (if i = 0 then p else w1 32 p)
  unfold wSt
  by_cases c : f 1 i ≤ 0
  · rw [if_pos c]
    exact ⟨show p.1 + 1 ≤ (wN (pT s i) (if i = 0 then p else w1 32 p)).1 + 1 by omega, show (wN (pT s i) (if i = 0 then p else w1 32 p)).1 + 1 ≤ p.1 + 8 by omega⟩
  · rw [if_neg c]
    have d := wN_len (f 2 i) (w1 58 (wN (pT s i) (if i = 0 then p else w1 32 p)))
    have e : (w1 58 (wN (pT s i) (if i = 0 then p else w1 32 p))).1 = (wN (pT s i) (if i = 0 then p else w1 32 p)).1 + 1 := rfl
    omega
theorem wFs_len (f : Nat → Nat → Int32) (s : Nat → Int32) (p : TB) (hp : p.1 = 0) : ∀ i, i ≤ (wFs f s p i).1 ∧ (wFs f s p i).1 ≤ 8 * i := by
  intro i
  induction i with
  | zero => show 0 ≤ p.1 ∧ p.1 ≤ 8 * 0; omega
  | succ i ih => have := wSt_len f s i (wFs f s p i); show i + 1 ≤ (wSt f s i (wFs f s p i)).1 ∧ (wSt f s i (wFs f s p i)).1 ≤ 8 * (i + 1); omega
theorem wSt_TA {f : Nat → Nat → Int32} {s : Nat → Int32} {i : Nat} {p q : TB} (h : TA p q) : TA (wSt f s i p) (wSt f s i q) := by
  have h1 : TA (if i = 0 then p else w1 32 p) (if i = 0 then q else w1 32 q) := by
    by_cases c : i = 0
    · rw [if_pos c, if_pos c]; exact h
    · rw [if_neg c, if_neg c]; exact h.w _
  unfold wSt
  by_cases c : f 1 i ≤ 0
  · rw [if_pos c, if_pos c]; exact (h1.n _).w _
  · rw [if_neg c, if_neg c]; exact ((h1.n _).w _).n _
theorem wFs_TA {f : Nat → Nat → Int32} {s : Nat → Int32} {p q : TB} (h : TA p q) : ∀ i, TA (wFs f s p i) (wFs f s q i) := by
  intro i
  induction i with
  | zero => exact h
  | succ i ih => exact wSt_TA ih
theorem p_writeFloors {N nf ns : Nat} {f : Nat → Nat → Int32} {s : Nat → Int32} (hN : 1000 ≤ N) (hR : RH nf ns f s) (b b' : Nat → Int32) (l l' th : Int32) :
    ∃ p q : TB, TA p q ∧ p.1 ≤ 100 ∧ F_X11_writeFloors N (s 1) (s 2) (s 5) (s 3) (s 4) (s 6) (f 1) (f 2) l b = some (nI p.1, nI p.1, p.2) ∧ F_X12_writeFloors N th l' s b' = some (nI p.1, 0, nI q.1, q.2) := by
  obtain ⟨⟨h6, hn1, hn4⟩, -, -, -, hF, -⟩ := id hR
  have hT := wFs_TA (f := f) (s := s) (p := (0, b)) (q := (0, b')) ⟨rfl, fun i (hi : i < 0) => by omega⟩
  refine ⟨wFs f s (0, b) nf, wFs f s (0, b') nf, hT nf, by have := (wFs_len f s (0, b) rfl nf).2; omega, ?_, ?_⟩
  · unfold F_X11_writeFloors
    rw [h6]
    refine lp_seq (L := fun fu i => F_X11_writeFloors_b10 N (s 1) (s 2) (s 5) (s 3) (s 4) (nI nf) (f 1) (f 2) fu (nI i) (nI (wFs f s (0, b) i).1) (wFs f s (0, b) i).2) (n := nf) (fun fu i hi => ?_) (fun fu => ?_) nf 0 N (by omega) (by omega)
    · show F_X11_writeFloors_b10 N (s 1) (s 2) (s 5) (s 3) (s 4) (nI nf) (f 1) (f 2) (fu + 1) (nI i) (nI (wFs f s (0, b) i).1) (wFs f s (0, b) i).2 = F_X11_writeFloors_b10 N (s 1) (s 2) (s 5) (s 3) (s 4) (nI nf) (f 1) (f 2) fu (nI (i + 1)) (nI (wSt f s i (wFs f s (0, b) i)).1) (wSt f s i (wFs f s (0, b) i)).2
      have hlen := wFs_len f s (0, b) rfl i
      revert hlen
      generalize wFs f s (0, b) i = p
      intro hlen
      have a := wSp_len i p
      have bb := wN_len (pT s i) (if i = 0 then p else w1 32 p)
      have es : F_X4_separate (nI p.1) p.2 = some ((), nI (if i = 0 then p else w1 32 p).1, (if i = 0 then p else w1 32 p).2) := by
        unfold F_X4_separate
        by_cases c : i = 0
        · have : p.1 = 0 := by omega
          rw [if_pos (by rw [this]; decide), if_pos c]
        · rw [if_neg (show ¬ nI p.1 ≤ 0 from nI_ge (a := 0) (by omega) (by omega)), if_neg c, k_add1 (by omega), Option.bind_some]
      rw [F_X11_writeFloors_b10, if_neg (nI_ge hi (by omega)), es, Option.bind_some, k_tn hN hn4 (by omega) hF, Option.bind_some]
      dsimp only
      rw [k_addN _ _ (by omega), Option.bind_some, k_taken hn4 hi, Option.bind_some]
      unfold F_X11_writeFloors_b100 wSt
      by_cases c : f 1 i ≤ 0
      · rw [if_pos c, if_pos rfl, if_pos c]
        dsimp only
        rw [k_add1 (by omega), Option.bind_some, nI_1]
      · rw [if_neg c, if_neg (by decide), if_neg c]
        dsimp only
        rw [k_add1 (by omega), Option.bind_some, if_pos (xin_nI (by omega) (by decide)), tnI (by omega)]
        dsimp only
        have d := wN_len (f 2 i) (w1 58 (wN (pT s i) (if i = 0 then p else w1 32 p)))
        have e : (w1 58 (wN (pT s i) (if i = 0 then p else w1 32 p))).1 = (wN (pT s i) (if i = 0 then p else w1 32 p)).1 + 1 := rfl
        rw [k_addN _ _ (by omega), Option.bind_some, nI_1]
    · show F_X11_writeFloors_b10 N (s 1) (s 2) (s 5) (s 3) (s 4) (nI nf) (f 1) (f 2) (fu + 1) (nI nf) _ _ = _
      rw [F_X11_writeFloors_b10, if_pos (nI_le (Nat.le_refl _) (by omega))]
  · unfold F_X12_writeFloors
    rw [(hT nf).1]
    refine lp_seq (L := fun fu i => F_X12_writeFloors_b12 N s fu (nI i) 0 (nI (wFs f s (0, b') i).1) (wFs f s (0, b') i).2) (n := nf) (fun fu i hi => ?_) (fun fu => ?_) nf 0 N (by omega) (by omega)
    · show F_X12_writeFloors_b12 N s (fu + 1) (nI i) 0 (nI (wFs f s (0, b') i).1) (wFs f s (0, b') i).2 = F_X12_writeFloors_b12 N s fu (nI (i + 1)) 0 (nI (wSt f s i (wFs f s (0, b') i)).1) (wSt f s i (wFs f s (0, b') i)).2
      have hlen := wFs_len f s (0, b') rfl i
      revert hlen
      generalize wFs f s (0, b') i = p
      intro hlen
      have a := wSp_len i p
      have bb := wN_len (pT s i) (if i = 0 then p else w1 32 p)
      have e2 : ¬ f 1 i ≤ 0 → F_X12_onFloor (nI i) 2 s = some (f 2 i) := fun c => by rw [m_on2 (by omega), ((hF i hi).2.2.2.2.1 (by grind)).1]
      have t33 : ∀ r : TB, r = (if i = 0 then p else w1 32 p) → F_X12_writeFloors_b33 (F_X12_writeFloors_b12 N s fu) N s (nI i) 0 (nI r.1) r.2 = F_X12_writeFloors_b12 N s fu (nI (i + 1)) 0 (nI (wSt f s i p).1) (wSt f s i p).2 := by
        intro r hr
        unfold F_X12_writeFloors_b33 F_X12_writeFloors_b58 F_X12_writeFloors_b79 wSt
        rw [← hr]
        rw [← hr] at bb a
        rw [m_deg hN (by omega), Option.bind_some, m_addN _ _ (by omega), Option.bind_some, m_loadedR hR hi, Option.bind_some]
        by_cases c : f 1 i ≤ 0
        · rw [if_pos c, if_pos rfl, if_pos c]
          dsimp only
          rw [m_add1 (by omega), Option.bind_some, Option.bind_some, if_pos rfl, nI_1]
        · rw [if_neg c, if_neg (by decide), if_neg c]
          dsimp only
          have d := wN_len (f 2 i) (w1 58 (wN (pT s i) r))
          have e : (w1 58 (wN (pT s i) r)).1 = (wN (pT s i) r).1 + 1 := rfl
          rw [m_add1 (by omega), Option.bind_some, Option.bind_some, if_neg (by decide), e2 c, Option.bind_some]
          dsimp only
          rw [m_addN _ _ (by omega), Option.bind_some, nI_1]
      rw [F_X12_writeFloors_b12, tn6, h6, if_neg (nI_ge hi (by omega))]
      by_cases c : i = 0
      · rw [if_pos (by rw [c]; decide)]
        exact t33 p (by rw [if_pos c])
      · rw [if_neg (show ¬ nI i ≤ 0 from nI_ge (a := 0) (by omega) (by omega)), m_add1 (by omega), Option.bind_some]
        exact t33 (w1 32 p) (by rw [if_neg c])
    · show F_X12_writeFloors_b12 N s (fu + 1) (nI nf) 0 _ _ = _
      rw [F_X12_writeFloors_b12, tn6, h6, if_pos (nI_le (Nat.le_refl _) (by omega))]
