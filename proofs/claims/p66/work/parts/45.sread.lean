/-! PURE: all loads of a setup, its end -/
def cT (g : Nat → Int32) : Nat → Nat
  | 0 => 0
  | n + 1 => cT g n + (if g n ≤ 0 then 0 else 1)
theorem cT_le (g : Nat → Int32) : ∀ n, cT g n ≤ n := by
  intro n
  induction n with
  | zero => exact Nat.le_refl _
  | succ n ih => show cT g n + _ ≤ n + 1; split <;> omega
theorem cT_out {g : Nat → Int32} {i : Nat} {m : Int32} : ∀ n, n ≤ i → cT (upd g i m) n = cT g n := by
  intro n
  induction n with
  | zero => intro _; rfl
  | succ n ih => intro h; show cT (upd g i m) n + (if upd g i m n ≤ 0 then 0 else 1) = _; rw [ih (by omega), upd_o _ _ (show n ≠ i by omega)]; rfl
theorem cT_put {g : Nat → Int32} {i : Nat} {m : Int32} (h0 : g i ≤ 0) (hm : ¬ m ≤ 0) : ∀ n, i < n → cT (upd g i m) n = cT g n + 1 := by
  intro n
  induction n with
  | zero => intro h; omega
  | succ n ih =>
    intro h
    show cT (upd g i m) n + (if upd g i m n ≤ 0 then 0 else 1) = cT g n + (if g n ≤ 0 then 0 else 1) + 1
    by_cases hin : i = n
    · subst hin; rw [cT_out i (Nat.le_refl _), upd_s, if_neg hm, if_pos h0]
    · rw [ih (by omega), upd_o _ _ (show n ≠ i by omega)]; omega
def sEnd (c : Nat → Int32) (x : Sg) : Sg := sChk c (bK 0 c x.2.2) 1 x
theorem Sim.end {c : Nat → Int32} {x y : Sg} (h : Sim x y) : Sim (sEnd c x) (sEnd c y) := by unfold sEnd; rw [h.2.1]; exact h.chk
/-- a load that was read well -/
theorem LD_step {c : Nat → Int32} {n : Nat} {g : Nat → Int32} {x y : Sg} (hS : Sim x y) (hz : (sLd c n g x).1 = 0) :
    x.1 = 0 ∧ (xL6 c n g y).1 = 0 ∧ g (kFn c n x) ≤ 0 ∧ mV c 1 (xL5 c n g y).1 (xL4 c n g y).2.2 = kMa c n g x ∧ mV c 0 (xL6 c n g y).1 (xL5 c n g y).2.2 = kMo c n g x := by
  have q6 := (sMk_0 (x := xL6 c n g x) hz).1
  have q5 := sNo_0 (x := xL5 c n g x) q6
  have q4 := sNo_0 (x := xL4 c n g x) q5.1
  have q3 : (xL3 c n g x).1 = 0 := q4.1
  have q2 := sChk_0 (x := xL2 c n x) (by decide) q3
  have q1 := sChk_0 (x := sChk c (bK 2 c (xL1 c x).2.2) 1 (xL1 c x)) (by decide) q2.1
  have q0 := sChk_0 (x := xL1 c x) (by decide) q1.1
  have qw := sWd_0 (x := x) q0.1
  have s4 : Sim (xL4 c n g x) (xL4 c n g y) := hS.l4
  have s5 : Sim (xL5 c n g x) (xL5 c n g y) := hS.l5
  have s6 : Sim (xL6 c n g x) (xL6 c n g y) := hS.l6
  have z5 : (xL5 c n g y).1 = 0 := by rw [← s5.1]; exact q5.1
  have z6 : (xL6 c n g y).1 = 0 := by rw [← s6.1]; exact q6
  refine ⟨qw.1, z6, of_decide_eq_true q2.2, ?_, ?_⟩
  · unfold mV kMa; rw [if_pos z5, kV_eq q4.2.1 q4.2.2, s4.2.1]
  · unfold mV kMo; rw [if_pos z6, kV_eq q5.2.1 q5.2.2, s5.2.1]
theorem ld_loop {N L n : Nat} {b b' c : Nat → Int32} (hN : 1000 ≤ N) (h : TX L b c) (h' : TX L b' c) (hn1 : 1 ≤ n) (hn : n ≤ 4) : ∀ (d k : Nat) (x y : Sg) (f : Nat → Nat → Int32) (s st : Nat → Int32) (nb : Int32) (wd : Int64), k + d = 5 → Sim x y → x.2.2 ≤ L → RF n f st → st 6 = nI n → MW c y.2.2 nb wd → (x.1 = 0 → s = st ∧ cT (f 1) n = k) →
    ∃ (x' y' : Sg) (f' : Nat → Nat → Int32) (s' st' : Nat → Int32) (nb' : Int32) (wd' : Int64), Sim x' y' ∧ x'.2.2 ≤ L ∧ RF n f' st' ∧ st' 6 = nI n ∧ MW c y'.2.2 nb' wd' ∧ (x'.1 = 0 → x.1 = 0 ∧ s' = st') ∧ (∀ j, j < 14 → j ≠ 8 → st' j = st j) ∧ (∀ j, 30 ≤ j → st' j = st j) ∧
      (∀ fu dh ht ge va wi sg, d < fu → F_X8_read_b75 N (nI L) b fu (nI k) dh ht (st 8) ge va wi sg (nI n) (f 0) (f 1) (f 2) (f 3) x.1 (nI (tE c x.2.2)) (tK c x.2.2) x.2.1 (nI (tQ c x.2.2)) = F_X8_read_b112 N dh ht (st' 8) ge va wi sg (nI n) (f' 0) (f' 1) (f' 2) (f' 3) x'.1 (nI (tE c x'.2.2)) (tK c x'.2.2) x'.2.1 (nI (tQ c x'.2.2))) ∧
      (∀ fu, d < fu → F_X12_setup_b115 N (nI L) b' fu (nI (tE c y.2.2)) y.1 y.2.1 (nI (tQ c y.2.2)) nb (tK c y.2.2) wd s = some ((), nI (tE c y'.2.2), (sEnd c y').1, (sEnd c y').2.1, nI (tQ c y'.2.2), nb', tK c y'.2.2, wd', s')) := by
  intro d
  have stop : ∀ (y : Sg) (s : Nat → Int32) (nb : Int32) (wd : Int64) (fu : Nat), y.2.2 ≤ L → MW c y.2.2 nb wd → (decide (y.1 = 0) && bIs WLD c y.2.2) = false → F_X12_setup_b115 N (nI L) b' (fu + 1) (nI (tE c y.2.2)) y.1 y.2.1 (nI (tQ c y.2.2)) nb (tK c y.2.2) wd s = some ((), nI (tE c y.2.2), (sEnd c y).1, (sEnd c y).2.1, nI (tQ c y.2.2), nb, tK c y.2.2, wd, s) := by
    intro y s nb wd fu hp hm hf
    have b145 : F_X12_setup_b145 N (cI (bK 0 c y.2.2)) (nI (tE c y.2.2)) y.1 y.2.1 (nI (tQ c y.2.2)) nb (tK c y.2.2) wd s = some ((), nI (tE c y.2.2), (sEnd c y).1, (sEnd c y).2.1, nI (tQ c y.2.2), nb, tK c y.2.2, wd, s) := by
      unfold F_X12_setup_b145
      rw [m_must, Option.bind_some]
      rfl
    rw [F_X12_setup_b115, show F_X12_isWord (Int64.ofNat 408612) (nI (tE c y.2.2)) y.1 (nI (tQ c y.2.2)) (tK c y.2.2) wd = some (cI (decide (y.1 = 0) && bIs WLD c y.2.2)) from m_isW WLD h' hp y.1 hm.2, hf, Option.bind_some, if_pos (show cI false = 0 from rfl)]
    by_cases hk : tK c y.2.2 = 0
    · rw [show bK 0 c y.2.2 = true from decide_eq_true hk] at b145
      rw [if_pos hk]
      exact b145
    · rw [show bK 0 c y.2.2 = false from decide_eq_false hk] at b145
      rw [if_neg hk]
      exact b145
  induction d with
  | zero =>
    intro k x y f s st nb wd hk hS hp hF h6 hm hd
    have hne : ¬ x.1 = 0 := fun q => by have := (hd q).2; have := cT_le (f 1) n; omega
    have hf : (decide (y.1 = 0) && bIs WLD c y.2.2) = false := by rw [decide_eq_false (by rw [← hS.1]; exact hne)]; rfl
    refine ⟨x, y, f, s, st, nb, wd, hS, hp, hF, h6, hm, fun q => absurd q hne, fun _ _ _ => rfl, fun _ _ => rfl, fun fu dh ht ge va wi sg hfu => ?_, fun fu hfu => ?_⟩
    · obtain ⟨m, rfl⟩ : ∃ m, fu = m + 1 := ⟨fu - 1, by omega⟩
      rw [F_X8_read_b75, if_pos (show (4 : Int32) < nI k from nI_lt (a := 4) (by omega) (by omega))]
    · obtain ⟨m, rfl⟩ : ∃ m, fu = m + 1 := ⟨fu - 1, by omega⟩
      exact stop y s nb wd m (by rw [← hS.2.1]; exact hp) hm hf
  | succ d ih =>
    intro k x y f s st nb wd hk hS hp hF h6 hm hd
    have hpy : y.2.2 ≤ L := by rw [← hS.2.1]; exact hp
    have hk4 : ¬ (4 : Int32) < nI k := fun q => by have := (nI_ltI (a := 4) (b := k) (by decide) (by omega)).mp q; omega
    by_cases hgo : x.1 = 0 ∧ bIs WLD c x.2.2 = true
    · obtain ⟨hx0, hw⟩ := hgo
      obtain ⟨hst, hcT⟩ := hd hx0
      subst hst
      have hy0 : y.1 = 0 := by rw [← hS.1]; exact hx0
      have hwy : bIs WLD c y.2.2 = true := by rw [← hS.2.1]; exact hw
      obtain ⟨nb1, wd1, g1, m1⟩ := m_load hN h' hpy hn1 hn hy0 hwy h6 hF nb hm
      have gk := k_load (x := x) hN h hp hn1 hn f (s 8)
      have hma := kV_r (c := c) (l := 1) (H := 99) (p := (xL4 c n (f 1) x).2.2) (by decide) (by decide)
      have hmo := kV_r (c := c) (l := 0) (H := 800) (p := (xL5 c n (f 1) x).2.2) (by decide) (by decide)
      have hi := kFn_lt c x hn1
      have h8 : sLay s (kFn c n x) (kMa c n (f 1) x) (kMo c n (f 1) x) 8 = s 8 + kMa c n (f 1) x := by unfold sLay; rw [upd_s]
      obtain ⟨x', y', f', s', st', nb', wd', r1, r2, r3, r4, r5, r6, r7, r8, r9, r10⟩ := ih (k + 1) (sLd c n (f 1) x) (sLd c n (f 1) y) (fLay f (kFn c n x) (kMa c n (f 1) x) (kMo c n (f 1) x)) (if (xL6 c n (f 1) y).1 = 0 then sLay s (kFn c n y) (mV c 1 (xL5 c n (f 1) y).1 (xL4 c n (f 1) y).2.2) (mV c 0 (xL6 c n (f 1) y).1 (xL5 c n (f 1) y).2.2) else s) (sLay s (kFn c n x) (kMa c n (f 1) x) (kMo c n (f 1) x)) nb1 wd1 (by omega) hS.ld (sLd_le h hp) (RF_lay hn hi hF hma hmo) (by rw [sLay_o (by decide) (by omega) (by omega) (by omega)]; exact h6) m1 (fun q => by
        obtain ⟨a1, a2, a3, a4, a5⟩ := LD_step (c := c) hS q
        refine ⟨by rw [if_pos a2, a4, a5, kFn_sim hS], ?_⟩
        have := cT_put (g := f 1) (i := kFn c n x) (m := kMa c n (f 1) x) a3 (fun q => by have := hma.1; unfold kMa at q; have e1 : nI 1 = 1 := rfl; grind) n hi
        show cT (upd (f 1) (kFn c n x) (kMa c n (f 1) x)) n = k + 1
        rw [this, hcT])
      refine ⟨x', y', f', s', st', nb', wd', r1, r2, r3, r4, r5, fun q => ⟨hx0, (r6 q).2⟩, fun j hj hj8 => ?_, fun j hj => ?_, fun fu dh ht ge va wi sg hfu => ?_, fun fu hfu => ?_⟩
      · rw [r7 j hj hj8, sLay_o hj8 (by omega) (by omega) (by omega)]
      · rw [r8 j hj, sLay_o (by omega) (by omega) (by omega) (by omega)]
      · obtain ⟨m, rfl⟩ : ∃ m, fu = m + 1 := ⟨fu - 1, by omega⟩
        rw [F_X8_read_b75, if_neg hk4]
        unfold F_X10_sound
        rw [if_pos hx0, Option.bind_some, if_neg (by decide), k_word3 hN h hp, hw, Option.bind_some, if_neg (by decide), gk, Option.bind_some, nI_1, ← h8]
        dsimp only
        exact r9 m dh ht ge va wi sg (by omega)
      · obtain ⟨m, rfl⟩ : ∃ m, fu = m + 1 := ⟨fu - 1, by omega⟩
        rw [F_X12_setup_b115, show F_X12_isWord (Int64.ofNat 408612) (nI (tE c y.2.2)) y.1 (nI (tQ c y.2.2)) (tK c y.2.2) wd = some (cI (decide (y.1 = 0) && bIs WLD c y.2.2)) from m_isW WLD h' hpy y.1 hm.2, hwy, decide_eq_true hy0, Option.bind_some, if_neg (by decide), g1, Option.bind_some]
        dsimp only
        exact r10 m (by omega)
    · have hf : (decide (y.1 = 0) && bIs WLD c y.2.2) = false := by
        refine Bool.eq_false_iff.mpr fun q => hgo ?_
        rw [Bool.and_eq_true, decide_eq_true_eq] at q
        exact ⟨by rw [hS.1]; exact q.1, by rw [hS.2.1]; exact q.2⟩
      refine ⟨x, y, f, s, st, nb, wd, hS, hp, hF, h6, hm, fun q => ⟨q, (hd q).1⟩, fun _ _ _ => rfl, fun _ _ => rfl, fun fu dh ht ge va wi sg hfu => ?_, fun fu hfu => ?_⟩
      · obtain ⟨m, rfl⟩ : ∃ m, fu = m + 1 := ⟨fu - 1, by omega⟩
        rw [F_X8_read_b75, if_neg hk4]
        unfold F_X10_sound
        by_cases hx0 : x.1 = 0
        · rw [if_pos hx0, Option.bind_some, if_neg (by decide), k_word3 hN h hp, show bIs WLD c x.2.2 = false from Bool.eq_false_iff.mpr (fun q => hgo ⟨hx0, q⟩), Option.bind_some, if_pos (show cI false = 0 from rfl)]
        · rw [if_neg hx0, Option.bind_some, if_pos rfl]
      · obtain ⟨m, rfl⟩ : ∃ m, fu = m + 1 := ⟨fu - 1, by omega⟩
        exact stop y s nb wd m hpy hm hf
