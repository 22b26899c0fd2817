/-! PURE: bytes packed by fours, and what append makes of them -/
def pkR (u : Nat → Nat) : Nat → Nat → Int32
  | 0 => fun _ => 0
  | j + 1 => upd (pkR u j) (j / 4) ((pkR u j (j / 4)) <<< ((8 : Int32) &&& 31) ||| nI (u j))
def pkv (u : Nat → Nat) (a : Nat) : Nat → Nat
  | 0 => 0
  | d + 1 => pkv u a d * 256 + u (a + d)
theorem pk_shor {x b : Nat} (hx : x < 2 ^ 23) (hb : b < 256) : nI x <<< ((8 : Int32) &&& 31) ||| nI b = nI (x * 256 + b) := by
  have e1 : nI x <<< ((8 : Int32) &&& 31) = nI (x * 256) := by
    rw [pk_shlN _ 8 (by decide) (by omega)]
  rw [e1]
  apply Int32.toBitVec_inj.mp
  apply BitVec.eq_of_toNat_eq
  show ((nI (x * 256)).toBitVec ||| (nI b).toBitVec).toNat = _
  rw [BitVec.toNat_or, pk_tn (by omega), pk_tn (by omega), pk_tn (by omega)]
  have h := Nat.shiftLeft_add_eq_or_of_lt (a := x) (b := b) (i := 8) (by omega)
  rw [Nat.shiftLeft_eq] at h
  exact h.symm
theorem pkv_lt {u : Nat → Nat} (hu : ∀ j, u j < 128) (a : Nat) : pkv u a 0 = 0 ∧ pkv u a 1 < 128 ∧ pkv u a 2 < 128 * 256 ∧ pkv u a 3 < 128 * 256 * 256 ∧ pkv u a 4 < 128 * 256 * 256 * 256 := by
  have h0 := hu (a + 0); have h1 := hu (a + 1); have h2 := hu (a + 2); have h3 := hu (a + 3)
  refine ⟨rfl, ?_, ?_, ?_, ?_⟩
  · show 0 * 256 + u (a + 0) < 128; omega
  · show (0 * 256 + u (a + 0)) * 256 + u (a + 1) < 128 * 256; omega
  · show ((0 * 256 + u (a + 0)) * 256 + u (a + 1)) * 256 + u (a + 2) < 128 * 256 * 256; omega
  · show (((0 * 256 + u (a + 0)) * 256 + u (a + 1)) * 256 + u (a + 2)) * 256 + u (a + 3) < 128 * 256 * 256 * 256; omega
theorem pkR_eq {u : Nat → Nat} (hu : ∀ j, u j < 128) : ∀ j, j ≤ 20 → ∀ i, i < 5 → pkR u j i = nI (pkv u (4 * i) (if j < 4 * i then 0 else if j < 4 * i + 4 then j - 4 * i else 4)) := by
  intro j
  induction j with
  | zero =>
    intro _ i _
    have : (if 0 < 4 * i then 0 else if 0 < 4 * i + 4 then 0 - 4 * i else 4) = 0 := by split <;> (try split) <;> omega
    rw [this]; rfl
  | succ j ih =>
    intro hj i hi
    rw [pkR]
    by_cases e : i = j / 4
    · subst e
      have hl := pkv_lt hu (4 * (j / 4))
      rw [upd_s, ih (by omega) (j / 4) hi, if_neg (by omega), if_pos (by omega), if_neg (by omega)]
      rcases (show j - 4 * (j / 4) = 0 ∨ j - 4 * (j / 4) = 1 ∨ j - 4 * (j / 4) = 2 ∨ j - 4 * (j / 4) = 3 by omega) with q | q | q | q
      · rw [q, if_pos (by omega), show j + 1 - 4 * (j / 4) = 0 + 1 by omega, pk_shor (by rw [hl.1]; omega) (by have := hu j; omega)]
        show nI _ = nI (pkv u (4 * (j / 4)) 0 * 256 + u (4 * (j / 4) + 0)); rw [show 4 * (j / 4) + 0 = j by omega]
      · rw [q, if_pos (by omega), show j + 1 - 4 * (j / 4) = 1 + 1 by omega, pk_shor (by omega) (by have := hu j; omega)]
        show nI _ = nI (pkv u (4 * (j / 4)) 1 * 256 + u (4 * (j / 4) + 1)); rw [show 4 * (j / 4) + 1 = j by omega]
      · rw [q, if_pos (by omega), show j + 1 - 4 * (j / 4) = 2 + 1 by omega, pk_shor (by omega) (by have := hu j; omega)]
        show nI _ = nI (pkv u (4 * (j / 4)) 2 * 256 + u (4 * (j / 4) + 2)); rw [show 4 * (j / 4) + 2 = j by omega]
      · rw [q, if_neg (by omega), pk_shor (by omega) (by have := hu j; omega)]
        show nI _ = nI (pkv u (4 * (j / 4)) 3 * 256 + u (4 * (j / 4) + 3)); rw [show 4 * (j / 4) + 3 = j by omega]
    · rw [upd_o _ _ e, ih (by omega) i hi]
      congr 2
      by_cases h1 : j < 4 * i
      · rw [if_pos h1]
        by_cases h2 : j + 1 < 4 * i
        · rw [if_pos h2]
        · rw [if_neg h2, if_pos (by omega)]; omega
      · rw [if_neg h1, if_neg (show ¬ j + 1 < 4 * i by omega), if_neg (by omega), if_neg (by omega)]
theorem bA_nI {X : Nat} (hX : X < 2 ^ 31) : bA (nI X) 24 = nI (X / 2 ^ 24 % 2 ^ 8) ∧ bA (nI X) 16 = nI (X / 2 ^ 16 % 2 ^ 8) ∧ bA (nI X) 8 = nI (X / 2 ^ 8 % 2 ^ 8) ∧ bA (nI X) 0 = nI (X / 2 ^ 0 % 2 ^ 8) := by
  unfold bA
  refine ⟨?_, ?_, ?_, ?_⟩
  · rw [pk_shrN hX _ 24 (by decide), pk_andN (by omega) 8 (by decide)]
  · rw [pk_shrN hX _ 16 (by decide), pk_andN (by omega) 8 (by decide)]
  · rw [pk_shrN hX _ 8 (by decide), pk_andN (by omega) 8 (by decide)]
  · rw [pk_shrN hX _ 0 (by decide), pk_andN (by omega) 8 (by decide)]
theorem aB_ok {a k : Int32} {p : TB} {x : Nat} (hx : 0 < x ∧ x < 128) (h : bA a k = nI x) : aB a k p = (p.1 + 1, upd p.2 p.1 (nI x)) := by
  unfold aB; rw [h, if_neg (nI_ne0 hx.1 (by omega))]
theorem a4_ok {u : Nat → Nat} (hu : ∀ j, 0 < u j ∧ u j < 128) (a : Nat) (p : TB) : (a4 (nI (pkv u a 4)) p).1 = p.1 + 4 ∧ (∀ j, j < p.1 → (a4 (nI (pkv u a 4)) p).2 j = p.2 j) ∧ ∀ r, r < 4 → (a4 (nI (pkv u a 4)) p).2 (p.1 + r) = nI (u (a + r)) := by
  have h0 := hu (a + 0); have h1 := hu (a + 1); have h2 := hu (a + 2); have h3 := hu (a + 3)
  have hX : pkv u a 4 = ((u (a + 0) * 256 + u (a + 1)) * 256 + u (a + 2)) * 256 + u (a + 3) := by simp [pkv]
  have hl := (pkv_lt (fun j => (hu j).2) a).2.2.2.2
  obtain ⟨b1, b2, b3, b4⟩ := bA_nI (X := pkv u a 4) (by omega)
  rw [show pkv u a 4 / 2 ^ 24 % 2 ^ 8 = u (a + 0) by omega] at b1
  rw [show pkv u a 4 / 2 ^ 16 % 2 ^ 8 = u (a + 1) by omega] at b2
  rw [show pkv u a 4 / 2 ^ 8 % 2 ^ 8 = u (a + 2) by omega] at b3
  rw [show pkv u a 4 / 2 ^ 0 % 2 ^ 8 = u (a + 3) by omega] at b4
  unfold a4
  rw [aB_ok h0 b1, aB_ok h1 b2, aB_ok h2 b3, aB_ok h3 b4]
  refine ⟨rfl, fun j hj => ?_, fun r hr => ?_⟩
  · show upd (upd (upd (upd p.2 p.1 _) (p.1 + 1) _) (p.1 + 1 + 1) _) (p.1 + 1 + 1 + 1) _ j = _
    rw [upd_o _ _ (by omega), upd_o _ _ (by omega), upd_o _ _ (by omega), upd_o _ _ (by omega)]
  · show upd (upd (upd (upd p.2 p.1 _) (p.1 + 1) _) (p.1 + 1 + 1) _) (p.1 + 1 + 1 + 1) _ (p.1 + r) = _
    rcases (show r = 0 ∨ r = 1 ∨ r = 2 ∨ r = 3 by omega) with rfl | rfl | rfl | rfl
    · rw [upd_o _ _ (by omega), upd_o _ _ (by omega), upd_o _ _ (by omega)]; exact upd_s _ _ _
    · rw [upd_o _ _ (by omega), upd_o _ _ (by omega)]; exact upd_s _ _ _
    · rw [upd_o _ _ (by omega)]; exact upd_s _ _ _
    · exact upd_s _ _ _
theorem feed20 {u : Nat → Nat} (hu : ∀ j, 0 < u j ∧ u j < 128) (p : TB) : (aA5 (pkR u 20 0) (pkR u 20 1) (pkR u 20 2) (pkR u 20 3) (pkR u 20 4) p).1 = p.1 + 20 ∧ (∀ j, j < p.1 → (aA5 (pkR u 20 0) (pkR u 20 1) (pkR u 20 2) (pkR u 20 3) (pkR u 20 4) p).2 j = p.2 j) ∧ ∀ r, r < 20 → (aA5 (pkR u 20 0) (pkR u 20 1) (pkR u 20 2) (pkR u 20 3) (pkR u 20 4) p).2 (p.1 + r) = nI (u r) := by
  have e := fun i hi => pkR_eq (fun j => (hu j).2) 20 (Nat.le_refl _) i hi
  have w : ∀ i, i < 5 → pkR u 20 i = nI (pkv u (4 * i) 4) := fun i hi => by
    rw [e i hi, if_neg (by omega)]
    by_cases h : 20 < 4 * i + 4
    · omega
    · rw [if_neg h]
  rw [w 0 (by decide), w 1 (by decide), w 2 (by decide), w 3 (by decide), w 4 (by decide)]
  obtain ⟨p1, hp1⟩ : ∃ p1, p1 = a4 (nI (pkv u (4 * 0) 4)) p := ⟨_, rfl⟩
  obtain ⟨p2, hp2⟩ : ∃ p2, p2 = a4 (nI (pkv u (4 * 1) 4)) p1 := ⟨_, rfl⟩
  obtain ⟨p3, hp3⟩ : ∃ p3, p3 = a4 (nI (pkv u (4 * 2) 4)) p2 := ⟨_, rfl⟩
  obtain ⟨p4, hp4⟩ : ∃ p4, p4 = a4 (nI (pkv u (4 * 3) 4)) p3 := ⟨_, rfl⟩
  obtain ⟨p5, hp5⟩ : ∃ p5, p5 = a4 (nI (pkv u (4 * 4) 4)) p4 := ⟨_, rfl⟩
  have q1 := a4_ok hu (4 * 0) p; rw [← hp1] at q1
  have q2 := a4_ok hu (4 * 1) p1; rw [← hp2] at q2
  have q3 := a4_ok hu (4 * 2) p2; rw [← hp3] at q3
  have q4 := a4_ok hu (4 * 3) p3; rw [← hp4] at q4
  have q5 := a4_ok hu (4 * 4) p4; rw [← hp5] at q5
  unfold aA5
  rw [← hp1, ← hp2, ← hp3, ← hp4, ← hp5]
  obtain ⟨n1, s1, b1⟩ := q1
  obtain ⟨n2, s2, b2⟩ := q2
  obtain ⟨n3, s3, b3⟩ := q3
  obtain ⟨n4, s4, b4⟩ := q4
  obtain ⟨n5, s5, b5⟩ := q5
  refine ⟨by omega, fun j hj => by rw [s5 j (by omega), s4 j (by omega), s3 j (by omega), s2 j (by omega), s1 j hj], fun r hr => ?_⟩
  by_cases c1 : r < 4
  · rw [s5 _ (by omega), s4 _ (by omega), s3 _ (by omega), s2 _ (by omega), b1 r c1, show 4 * 0 + r = r by omega]
  · by_cases c2 : r < 8
    · rw [s5 _ (by omega), s4 _ (by omega), s3 _ (by omega), show p.1 + r = p1.1 + (r - 4) by omega, b2 (r - 4) (by omega), show 4 * 1 + (r - 4) = r by omega]
    · by_cases c3 : r < 12
      · rw [s5 _ (by omega), s4 _ (by omega), show p.1 + r = p2.1 + (r - 8) by omega, b3 (r - 8) (by omega), show 4 * 2 + (r - 8) = r by omega]
      · by_cases c4 : r < 16
        · rw [s5 _ (by omega), show p.1 + r = p3.1 + (r - 12) by omega, b4 (r - 12) (by omega), show 4 * 3 + (r - 12) = r by omega]
        · rw [show p.1 + r = p4.1 + (r - 16) by omega, b5 (r - 16) (by omega), show 4 * 4 + (r - 16) = r by omega]
theorem nB5_le (a b c d e : Int32) : nB5 a b c d e ≤ 20 := by
  have := nB_le a; have := nB_le b; have := nB_le c; have := nB_le d; have := nB_le e
  unfold nB5; omega
