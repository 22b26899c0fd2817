/-! PURE: the floors of a setup -/
abbrev WFL : Nat := 6700530
def xG0 (c : Nat → Int32) (n : Nat) (x : Sg) : Sg := sChk c (!(bIs WFL c x.2.2 && decide (n = 4))) 4 x
def xG1 (c : Nat → Int32) (n : Nat) (x : Sg) : Sg := sWd c WFL (xG0 c n x)
def xG2 (c : Nat → Int32) (n : Nat) (x : Sg) : Sg := sNo c 40 90 (xG1 c n x)
def sFl (c : Nat → Int32) (n : Nat) (x : Sg) : Sg := sMk c 59 (xG2 c n x)
theorem Sim.g0 {c : Nat → Int32} {n : Nat} {x y : Sg} (h : Sim x y) : Sim (xG0 c n x) (xG0 c n y) := by unfold xG0; rw [h.2.1]; exact h.chk
theorem Sim.fl {c : Nat → Int32} {n : Nat} {x y : Sg} (h : Sim x y) : Sim (sFl c n x) (sFl c n y) := h.g0.wd.no.mk
theorem k_word2 {N L : Nat} {b c : Nat → Int32} {p : Nat} (hN : 1000 ≤ N) (h : TX L b c) (hp : p ≤ L) : F_X10_isWord N 2 (nI (tE c p)) (tK c p) (nI (tQ c p)) (nI L) b = some (cI (bIs WFL c p)) := by rw [k_w2 hN h hp (iIs _ _ _), bIs_cI]
theorem k_word3 {N L : Nat} {b c : Nat → Int32} {p : Nat} (hN : 1000 ≤ N) (h : TX L b c) (hp : p ≤ L) : F_X10_isWord N 3 (nI (tE c p)) (tK c p) (nI (tQ c p)) (nI L) b = some (cI (bIs 408612 c p)) := by rw [k_w3 hN h hp (iIs _ _ _), bIs_cI]
theorem cI_0 (b : Bool) : (cI b = 0) ↔ b = false := by cases b <;> decide
theorem sFl_le {L : Nat} {b c : Nat → Int32} {n : Nat} {x : Sg} (h : TX L b c) (hp : x.2.2 ≤ L) : (sFl c n x).2.2 ≤ L := sMk_le h (sNo_le h (sWd_le h hp))
theorem k_floor {N L n : Nat} {b c : Nat → Int32} {x : Sg} (hN : 1000 ≤ N) (h : TX L b c) (hp : x.2.2 ≤ L) (hn : n ≤ 4) (f0 f1 : Nat → Int32) :
    F_X8_readFloor N (nI n) f0 f1 x.1 (nI (tE c x.2.2)) (tK c x.2.2) x.2.1 (nI (tQ c x.2.2)) (nI L) b = some ((), nI (if n < 4 then n + 1 else n), if n < 4 then upd f0 n (kV 40 90 c (xG1 c n x).2.2) else f0, if n < 4 then upd f1 n 0 else f1, (sFl c n x).1, nI (tE c (sFl c n x).2.2), tK c (sFl c n x).2.2, (sFl c n x).2.1, nI (tQ c (sFl c n x).2.2)) := by
  have p0 : (xG0 c n x).2.2 ≤ L := hp
  have p1 : (xG1 c n x).2.2 ≤ L := sWd_le h p0
  have p2 : (xG2 c n x).2.2 ≤ L := sNo_le h p1
  have tail : F_X8_readFloor_b34 N (nI L) b (nI n) f0 f1 (xG0 c n x).1 (nI (tE c x.2.2)) (tK c x.2.2) (xG0 c n x).2.1 (nI (tQ c x.2.2)) = some ((), nI (if n < 4 then n + 1 else n), if n < 4 then upd f0 n (kV 40 90 c (xG1 c n x).2.2) else f0, if n < 4 then upd f1 n 0 else f1, (sFl c n x).1, nI (tE c (sFl c n x).2.2), tK c (sFl c n x).2.2, (sFl c n x).2.1, nI (tQ c (sFl c n x).2.2)) := by
    have g1 : F_X10_readWord N 2 (xG0 c n x).1 (nI (tE c x.2.2)) (tK c x.2.2) (xG0 c n x).2.1 (nI (tQ c x.2.2)) (nI L) b = some ((), (xG1 c n x).1, nI (tE c (xG1 c n x).2.2), tK c (xG1 c n x).2.2, (xG1 c n x).2.1, nI (tQ c (xG1 c n x).2.2)) := kk_wd (x := xG0 c n x) hN h p0 (k_word2 hN h p0)
    have g2 : F_X10_readNumber N 40 90 (xG1 c n x).1 (nI (tE c (xG1 c n x).2.2)) (tK c (xG1 c n x).2.2) (xG1 c n x).2.1 (nI (tQ c (xG1 c n x).2.2)) (nI L) b = some (kV 40 90 c (xG1 c n x).2.2, (xG2 c n x).1, nI (tE c (xG2 c n x).2.2), tK c (xG2 c n x).2.2, (xG2 c n x).2.1, nI (tQ c (xG2 c n x).2.2)) := kk_num (x := xG1 c n x) (l := 40) (H := 90) hN h p1 (by decide) (by decide)
    have g3 : F_X10_readMark N 59 (xG2 c n x).1 (nI (tE c (xG2 c n x).2.2)) (tK c (xG2 c n x).2.2) (xG2 c n x).2.1 (nI (tQ c (xG2 c n x).2.2)) (nI L) b = some ((), (sFl c n x).1, nI (tE c (sFl c n x).2.2), tK c (sFl c n x).2.2, (sFl c n x).2.1, nI (tQ c (sFl c n x).2.2)) := kk_mk (x := xG2 c n x) hN h p2
    have g4 : ∀ v, F_X1_addFloor v (nI n) f0 f1 = some ((), nI (if n < 4 then n + 1 else n), if n < 4 then upd f0 n v else f0, if n < 4 then upd f1 n 0 else f1) := by
      intro v
      unfold F_X1_addFloor
      by_cases h4 : n < 4
      · have hx : xin (nI n) 4 = true := xin_nI h4 (by decide)
        rw [if_neg (show ¬ (4 : Int32) ≤ nI n from nI_ge (b := 4) h4 (by decide)), if_pos hx, if_pos hx, if_pos h4, if_pos h4, if_pos h4, tnI (by omega), nI_1]
      · rw [if_pos (show (4 : Int32) ≤ nI n from nI_le (a := 4) (by omega) (by omega)), if_neg h4, if_neg h4, if_neg h4]
    unfold F_X8_readFloor_b34
    rw [g1, Option.bind_some]
    dsimp only
    rw [g2, Option.bind_some]
    dsimp only
    rw [g3, Option.bind_some]
    dsimp only
    rw [g4, Option.bind_some]
  unfold F_X8_readFloor
  rw [k_word2 hN h hp, Option.bind_some]
  by_cases hw : bIs WFL c x.2.2 = true
  · rw [hw, if_neg (by decide)]
    by_cases h4 : n = 4
    · have e : xG0 c n x = (mZ x.1 false 4, mP x.1 false (nI (tQ c x.2.2)) x.2.1, x.2.2) := by unfold xG0 sChk; rw [hw, decide_eq_true h4]; rfl
      rw [if_pos (show nI n = 4 by rw [h4]; rfl), k_fail, Option.bind_some]
      rw [e] at tail
      exact tail
    · have e : xG0 c n x = x := by unfold xG0; rw [hw, decide_eq_false h4]; exact sChk_ok x
      rw [if_neg (show ¬ nI n = 4 from fun q => h4 ((nI_eq (b := 4) (by omega) (by decide)).mp q))]
      rw [e] at tail
      exact tail
  · have hw' : bIs WFL c x.2.2 = false := Bool.eq_false_iff.mpr hw
    have e : xG0 c n x = x := by unfold xG0; rw [hw']; exact sChk_ok x
    rw [hw', if_pos (show cI false = 0 from rfl)]
    rw [e] at tail
    exact tail
/-- the vector while a setup's floors are read: n floors, no loads -/
def DF (n : Nat) (f0 f1 s : Nat → Int32) : Prop := s 6 = nI n ∧ n ≤ 4 ∧ (∀ i, i < n → s (14 + 4 * i) = f0 i ∧ 40 ≤ f0 i ∧ f0 i ≤ 90 ∧ f1 i = 0) ∧ (∀ j, 14 ≤ j → j < 30 → (∀ i, i < n → j ≠ 14 + 4 * i) → s j = 0)
theorem m_floor {N L n : Nat} {b c : Nat → Int32} {y : Sg} (hN : 1000 ≤ N) (h : TX L b c) (hp : y.2.2 ≤ L) (hn : n ≤ 4) (hy : y.1 = 0) (hw : bIs WFL c y.2.2 = true) {s : Nat → Int32} (h6 : s 6 = nI n) (nb : Int32) {wd : Int64} (hm : MW c y.2.2 nb wd) :
    ∃ nb' wd', F_X12_floorText N (nI (tE c y.2.2)) y.1 y.2.1 (nI (tQ c y.2.2)) (nI L) nb (tK c y.2.2) wd s b = some ((), nI (tE c (sFl c n y).2.2), (sFl c n y).1, (sFl c n y).2.1, nI (tQ c (sFl c n y).2.2), nb', tK c (sFl c n y).2.2, wd', if (xG2 c n y).1 = 0 then upd (upd s (14 + 4 * n) (mV c 40 (xG2 c n y).1 (xG1 c n y).2.2)) 6 (nI (n + 1)) else s) ∧ MW c (sFl c n y).2.2 nb' wd' := by
  have p1 : (xG1 c n y).2.2 ≤ L := sWd_le h (x := xG0 c n y) hp
  have p2 : (xG2 c n y).2.2 ≤ L := sNo_le h p1
  have e0 : xG0 c n y = sChk c (decide (n < 4)) 4 y := by
    unfold xG0; rw [hw, Bool.true_and]
    by_cases h4 : n = 4
    · rw [decide_eq_true h4, decide_eq_false (by omega)]; rfl
    · rw [decide_eq_false h4, decide_eq_true (by omega)]; rfl
  have e1 : xG1 c n y = sNx c (xG0 c n y) := by unfold xG1 sWd; rw [show (xG0 c n y).2.2 = y.2.2 from rfl, hw, sChk_ok]
  obtain ⟨nb1, wd1, g1, m1⟩ := mm_nx (x := xG0 c n y) hN h hp nb hm
  rw [← e1] at g1 m1
  obtain ⟨nb2, wd2, g2, m2⟩ := mm_no (x := xG1 c n y) (l := 40) (H := 90) hN h p1 (by decide) (by decide) nb1 m1
  obtain ⟨nb3, wd3, g3, m3⟩ := mm_mk (x := xG2 c n y) (m := 59) hN h p2 nb2 m2
  refine ⟨nb3, wd3, ?_, m3⟩
  have tail : F_X12_floorText_b17 N (nI L) b (cI (decide (n < 4))) (nI (tE c y.2.2)) y.1 y.2.1 (nI (tQ c y.2.2)) nb (tK c y.2.2) wd s = some ((), nI (tE c (sFl c n y).2.2), (sFl c n y).1, (sFl c n y).2.1, nI (tQ c (sFl c n y).2.2), nb3, tK c (sFl c n y).2.2, wd3, if (xG2 c n y).1 = 0 then upd (upd s (14 + 4 * n) (mV c 40 (xG2 c n y).1 (xG1 c n y).2.2)) 6 (nI (n + 1)) else s) := by
    have a1 : F_X12_goesOn N (nI (tE c y.2.2)) (mZ y.1 (decide (n < 4)) 4) (nI (tQ c y.2.2)) (nI L) nb (tK c y.2.2) wd b = some ((), nI (tE c (xG1 c n y).2.2), nI (tQ c (xG1 c n y).2.2), nb1, tK c (xG1 c n y).2.2, wd1) := by rw [e0] at g1; exact g1
    have a2 : F_X12_reads N 40 90 (nI (tE c (xG1 c n y).2.2)) (mZ y.1 (decide (n < 4)) 4) (mP y.1 (decide (n < 4)) (nI (tQ c y.2.2)) y.2.1) (nI (tQ c (xG1 c n y).2.2)) (nI L) nb1 (tK c (xG1 c n y).2.2) wd1 b = some (mV c 40 (xG2 c n y).1 (xG1 c n y).2.2, nI (tE c (xG2 c n y).2.2), (xG2 c n y).1, (xG2 c n y).2.1, nI (tQ c (xG2 c n y).2.2), nb2, tK c (xG2 c n y).2.2, wd2) := by
      have z1 : (xG1 c n y).1 = mZ y.1 (decide (n < 4)) 4 := by rw [e1, e0]; rfl
      have z2 : (xG1 c n y).2.1 = mP y.1 (decide (n < 4)) (nI (tQ c y.2.2)) y.2.1 := by rw [e1, e0]; rfl
      rw [← z1, ← z2]; exact g2
    have a3 : F_X12_sign N 59 (nI (tE c (xG2 c n y).2.2)) (xG2 c n y).1 (xG2 c n y).2.1 (nI (tQ c (xG2 c n y).2.2)) (nI L) nb2 (tK c (xG2 c n y).2.2) wd2 b = some ((), nI (tE c (sFl c n y).2.2), (sFl c n y).1, (sFl c n y).2.1, nI (tQ c (sFl c n y).2.2), nb3, tK c (sFl c n y).2.2, wd3) := g3
    unfold F_X12_floorText_b17 F_X12_floorText_b46
    rw [m_must, Option.bind_some]
    dsimp only
    rw [a1, Option.bind_some]
    dsimp only
    rw [a2, Option.bind_some]
    dsimp only
    unfold F_X12_isGood
    rw [a3, Option.bind_some]
    by_cases hz : (xG2 c n y).1 = 0
    · have h4 : n < 4 := by
        have q := (sNo_0 (x := xG1 c n y) hz).1
        have q2 := (sWd_0 (x := xG0 c n y) q).1
        rw [e0] at q2
        exact of_decide_eq_true (sChk_0 (by decide) q2).2
      have hx : xin (nI (14 + 4 * n)) 130 = true := xin_nI (by omega) (by decide)
      rw [if_pos hz, Option.bind_some, if_neg (by decide), if_pos hz]
      unfold F_X12_builds
      rw [tn6, h6, m_atF0, Option.bind_some, if_pos hx, tnI (k := 14 + 4 * n) (by omega), Option.bind_some, upd_o _ _ (show 6 ≠ 14 + 4 * n by omega), h6, nI_1, Option.bind_some]
    · rw [if_neg hz, Option.bind_some, if_pos rfl, if_neg hz]
  unfold F_X12_floorText
  rw [tn6, h6]
  by_cases h4 : n < 4
  · rw [if_neg (show ¬ (4 : Int32) ≤ nI n from nI_ge (b := 4) h4 (by decide))]
    rw [decide_eq_true h4] at tail
    exact tail
  · rw [if_pos (show (4 : Int32) ≤ nI n from nI_le (a := 4) (by omega) (by omega))]
    rw [decide_eq_false h4] at tail
    exact tail
/-- a floor that was read well -/
theorem DF_step {c : Nat → Int32} {n : Nat} {x y : Sg} {f0 f1 s : Nat → Int32} (hS : Sim x y) (hD : DF n f0 f1 s) (hz : (sFl c n x).1 = 0) :
    n < 4 ∧ (xG2 c n y).1 = 0 ∧ DF (n + 1) (upd f0 n (kV 40 90 c (xG1 c n x).2.2)) (upd f1 n 0) (upd (upd s (14 + 4 * n) (mV c 40 (xG2 c n y).1 (xG1 c n y).2.2)) 6 (nI (n + 1))) := by
  obtain ⟨h6, hn, hf, ho⟩ := hD
  have q2 := (sMk_0 (x := xG2 c n x) hz).1
  have q1 := sNo_0 (x := xG1 c n x) q2
  have q0 := sWd_0 (x := xG0 c n x) q1.1
  have qx := sChk_0 (x := x) (by decide) q0.1
  have hw : bIs WFL c x.2.2 = true := q0.2
  have h4 : n < 4 := by
    have := qx.2
    rw [hw, Bool.true_and] at this
    have : decide (n = 4) = false := by
      cases hd : decide (n = 4)
      · rfl
      · rw [hd] at this; cases this
    have := of_decide_eq_false this
    omega
  have s1 : Sim (xG1 c n x) (xG1 c n y) := hS.g0.wd
  have s2 : Sim (xG2 c n x) (xG2 c n y) := s1.no
  have z2 : (xG2 c n y).1 = 0 := by rw [← s2.1]; exact q2
  have hv : mV c 40 (xG2 c n y).1 (xG1 c n y).2.2 = kV 40 90 c (xG1 c n x).2.2 := by
    unfold mV; rw [if_pos z2, kV_eq q1.2.1 q1.2.2, s1.2.1]
  have hr := kV_r (c := c) (l := 40) (H := 90) (p := (xG1 c n x).2.2) (by decide) (by decide)
  refine ⟨h4, z2, ⟨by rw [upd_s], by omega, fun i hi => ?_, fun j hj hj3 hji => ?_⟩⟩
  · by_cases hin : i = n
    · subst hin
      rw [upd_o _ _ (show 14 + 4 * i ≠ 6 by omega), upd_s, hv, upd_s, upd_s]
      exact ⟨rfl, hr.1, hr.2, rfl⟩
    · rw [upd_o _ _ (show 14 + 4 * i ≠ 6 by omega), upd_o _ _ (show 14 + 4 * i ≠ 14 + 4 * n by omega), upd_o _ _ hin, upd_o _ _ hin]
      exact hf i (by omega)
  · rw [upd_o _ _ (show j ≠ 6 by omega), upd_o _ _ (hji n (by omega))]
    exact ho j hj hj3 (fun i hi => hji i (by omega))
/-- floors that stand in the class, sound or not -/
def CF (n : Nat) (f0 f1 : Nat → Int32) : Prop := 1 ≤ n ∧ n ≤ 4 ∧ ∀ i, i < n → 40 ≤ f0 i ∧ f0 i ≤ 90 ∧ f1 i = 0
theorem CF_step {n : Nat} {f0 f1 : Nat → Int32} {v : Int32} (h : ∀ i, i < n → 40 ≤ f0 i ∧ f0 i ≤ 90 ∧ f1 i = 0) (hn : n ≤ 4) (hv : 40 ≤ v ∧ v ≤ 90) : CF (if n < 4 then n + 1 else n) (if n < 4 then upd f0 n v else f0) (if n < 4 then upd f1 n 0 else f1) := by
  by_cases h4 : n < 4
  · rw [if_pos h4, if_pos h4, if_pos h4]
    refine ⟨by omega, by omega, fun i hi => ?_⟩
    by_cases hin : i = n
    · rw [hin, upd_s, upd_s]; exact ⟨hv.1, hv.2, rfl⟩
    · rw [upd_o _ _ hin, upd_o _ _ hin]; exact h i (by omega)
  · rw [if_neg h4, if_neg h4, if_neg h4]
    exact ⟨by omega, hn, h⟩
theorem fl_loop {N L : Nat} {b b' c : Nat → Int32} (hN : 1000 ≤ N) (h : TX L b c) (h' : TX L b' c) : ∀ (d k n : Nat) (x y : Sg) (f0 f1 s : Nat → Int32) (nb : Int32) (wd : Int64), k + d = 4 → Sim x y → x.2.2 ≤ L → CF n f0 f1 → MW c y.2.2 nb wd → (x.1 = 0 → n = k + 1 ∧ DF n f0 f1 s) →
    ∃ (n' : Nat) (x' y' : Sg) (f0' f1' s' : Nat → Int32) (nb' : Int32) (wd' : Int64), Sim x' y' ∧ x'.2.2 ≤ L ∧ CF n' f0' f1' ∧ MW c y'.2.2 nb' wd' ∧ (x'.1 = 0 → x.1 = 0 ∧ DF n' f0' f1' s') ∧ (∀ j, j < 14 → j ≠ 6 → s' j = s j) ∧
      (∀ fu dh ht lm ge va wi st f2 f3, d < fu → F_X8_read_b36 N (nI L) b fu (nI k) dh ht lm ge va wi st (nI n) f0 f1 f2 f3 x.1 (nI (tE c x.2.2)) (tK c x.2.2) x.2.1 (nI (tQ c x.2.2)) = F_X8_read_b73 N (nI L) b dh ht lm ge va wi st (nI n') f0' f1' f2 f3 x'.1 (nI (tE c x'.2.2)) (tK c x'.2.2) x'.2.1 (nI (tQ c x'.2.2))) ∧
      (∀ fu, d < fu → F_X12_setup_b98 N (nI L) b' fu (nI (tE c y.2.2)) y.1 y.2.1 (nI (tQ c y.2.2)) nb (tK c y.2.2) wd s = F_X12_setup_b115 N (nI L) b' N (nI (tE c y'.2.2)) y'.1 y'.2.1 (nI (tQ c y'.2.2)) nb' (tK c y'.2.2) wd' s') := by
  intro d
  have stop : ∀ (k n : Nat) (x y : Sg) (f0 f1 s : Nat → Int32) (nb : Int32) (wd : Int64) (fu : Nat), Sim x y → x.2.2 ≤ L → MW c y.2.2 nb wd → (decide (y.1 = 0) && bIs WFL c y.2.2) = false → F_X12_setup_b98 N (nI L) b' (fu + 1) (nI (tE c y.2.2)) y.1 y.2.1 (nI (tQ c y.2.2)) nb (tK c y.2.2) wd s = F_X12_setup_b115 N (nI L) b' N (nI (tE c y.2.2)) y.1 y.2.1 (nI (tQ c y.2.2)) nb (tK c y.2.2) wd s := by
    intro k n x y f0 f1 s nb wd fu hS hp hm hf
    rw [F_X12_setup_b98, show F_X12_isWord (Int64.ofNat 6700530) (nI (tE c y.2.2)) y.1 (nI (tQ c y.2.2)) (tK c y.2.2) wd = some (cI (decide (y.1 = 0) && bIs WFL c y.2.2)) from m_isW WFL h' (by rw [← hS.2.1]; exact hp) y.1 hm.2, hf, Option.bind_some, if_pos (show cI false = 0 from rfl)]
  induction d with
  | zero =>
    intro k n x y f0 f1 s nb wd hk hS hp hn hm hd
    have hne : ¬ x.1 = 0 := fun q => by have := (hd q).1; have := hn.2.1; omega
    have hf : (decide (y.1 = 0) && bIs WFL c y.2.2) = false := by rw [decide_eq_false (by rw [← hS.1]; exact hne)]; rfl
    refine ⟨n, x, y, f0, f1, s, nb, wd, hS, hp, hn, hm, fun q => absurd q hne, fun _ _ _ => rfl, fun fu dh ht lm ge va wi st f2 f3 hfu => ?_, fun fu hfu => ?_⟩
    · obtain ⟨m, rfl⟩ : ∃ m, fu = m + 1 := ⟨fu - 1, by omega⟩
      rw [F_X8_read_b36, if_pos (show (4 : Int32) ≤ nI k from nI_le (a := 4) (by omega) (by omega))]
    · obtain ⟨m, rfl⟩ : ∃ m, fu = m + 1 := ⟨fu - 1, by omega⟩
      exact stop k n x y f0 f1 s nb wd m hS hp hm hf
  | succ d ih =>
    intro k n x y f0 f1 s nb wd hk hS hp hn hm hd
    have hpy : y.2.2 ≤ L := by rw [← hS.2.1]; exact hp
    have hk4 : ¬ (4 : Int32) ≤ nI k := nI_ge (b := 4) (by omega) (by decide)
    by_cases hgo : x.1 = 0 ∧ bIs WFL c x.2.2 = true
    · obtain ⟨hx0, hw⟩ := hgo
      obtain ⟨hnk, hD⟩ := hd hx0
      have hy0 : y.1 = 0 := by rw [← hS.1]; exact hx0
      have hwy : bIs WFL c y.2.2 = true := by rw [← hS.2.1]; exact hw
      obtain ⟨nb1, wd1, g1, m1⟩ := m_floor hN h' hpy hn.2.1 hy0 hwy hD.1 nb hm
      have gk := k_floor (x := x) hN h hp hn.2.1 f0 f1
      obtain ⟨n', x', y', f0', f1', s', nb', wd', r1, r2, r3, r4, r5, r6, r7, r8⟩ := ih (k + 1) (if n < 4 then n + 1 else n) (sFl c n x) (sFl c n y) (if n < 4 then upd f0 n (kV 40 90 c (xG1 c n x).2.2) else f0) (if n < 4 then upd f1 n 0 else f1) (if (xG2 c n y).1 = 0 then upd (upd s (14 + 4 * n) (mV c 40 (xG2 c n y).1 (xG1 c n y).2.2)) 6 (nI (n + 1)) else s) nb1 wd1 (by omega) hS.fl (sFl_le h hp) (CF_step hn.2.2 hn.2.1 (kV_r (c := c) (l := 40) (H := 90) (p := (xG1 c n x).2.2) (by decide) (by decide))) m1 (fun q => by
        obtain ⟨a1, a2, a3⟩ := DF_step (c := c) hS hD q
        rw [if_pos a1, if_pos a1, if_pos a1, if_pos a2]
        exact ⟨by omega, a3⟩)
      refine ⟨n', x', y', f0', f1', s', nb', wd', r1, r2, r3, r4, fun q => ⟨hx0, (r5 q).2⟩, fun j hj hj6 => ?_, fun fu dh ht lm ge va wi st f2 f3 hfu => ?_, fun fu hfu => ?_⟩
      · rw [r6 j hj hj6]
        split
        · rw [upd_o _ _ hj6, upd_o _ _ (by omega)]
        · rfl
      · obtain ⟨m, rfl⟩ : ∃ m, fu = m + 1 := ⟨fu - 1, by omega⟩
        rw [F_X8_read_b36, if_neg hk4]
        unfold F_X10_sound
        rw [if_pos hx0, Option.bind_some, if_neg (by decide), k_word2 hN h hp, hw, Option.bind_some, if_neg (by decide), gk, Option.bind_some, nI_1]
        dsimp only
        exact r7 m dh ht lm ge va wi st f2 f3 (by omega)
      · obtain ⟨m, rfl⟩ : ∃ m, fu = m + 1 := ⟨fu - 1, by omega⟩
        rw [F_X12_setup_b98, show F_X12_isWord (Int64.ofNat 6700530) (nI (tE c y.2.2)) y.1 (nI (tQ c y.2.2)) (tK c y.2.2) wd = some (cI (decide (y.1 = 0) && bIs WFL c y.2.2)) from m_isW WFL h' hpy y.1 hm.2, hwy, decide_eq_true hy0, Option.bind_some, if_neg (by decide), g1, Option.bind_some]
        dsimp only
        exact r8 m (by omega)
    · have hf : (decide (y.1 = 0) && bIs WFL c y.2.2) = false := by
        refine Bool.eq_false_iff.mpr fun q => hgo ?_
        rw [Bool.and_eq_true, decide_eq_true_eq] at q
        exact ⟨by rw [hS.1]; exact q.1, by rw [hS.2.1]; exact q.2⟩
      refine ⟨n, x, y, f0, f1, s, nb, wd, hS, hp, hn, hm, fun q => ⟨q, (hd q).2⟩, fun _ _ _ => rfl, fun fu dh ht lm ge va wi st f2 f3 hfu => ?_, fun fu hfu => ?_⟩
      · obtain ⟨m, rfl⟩ : ∃ m, fu = m + 1 := ⟨fu - 1, by omega⟩
        rw [F_X8_read_b36, if_neg hk4]
        unfold F_X10_sound
        by_cases hx0 : x.1 = 0
        · rw [if_pos hx0, Option.bind_some, if_neg (by decide), k_word2 hN h hp, show bIs WFL c x.2.2 = false from Bool.eq_false_iff.mpr (fun q => hgo ⟨hx0, q⟩), Option.bind_some, if_pos (show cI false = 0 from rfl)]
        · rw [if_neg hx0, Option.bind_some, if_pos rfl]
      · obtain ⟨m, rfl⟩ : ∃ m, fu = m + 1 := ⟨fu - 1, by omega⟩
        exact stop k n x y f0 f1 s nb wd m hS hp hm hf
