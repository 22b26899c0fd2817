/-! PURE: the numbers of a command -/
def rdV (c : Nat → Int32) : Nat → Sg → Sg
  | 0, x => sNo c 0 800 (sNo c 1 99 x)
  | 1, x => sNo c 0 3 x
  | 2, x => x
  | 3, x => sNo c 0 90 x
  | 4, x => sNo c 0 4 x
  | 5, x => sNo c 0 9 (sNo c 0 7 x)
  | 6, x => sNo c 0 19 x
  | 7, x => sNo c 0 19 x
  | _, x => sNo c 1 120 x
def rA (c : Nat → Int32) : Nat → Sg → Int32
  | 0, x => kV 1 99 c x.2.2
  | 1, x => kV 0 3 c x.2.2
  | 2, x => 0
  | 3, x => kV 0 90 c x.2.2
  | 4, x => kV 0 4 c x.2.2
  | 5, x => kV 0 7 c x.2.2
  | 6, x => kV 0 19 c x.2.2
  | 7, x => kV 0 19 c x.2.2
  | _, x => kV 1 120 c x.2.2
def rB (c : Nat → Int32) : Nat → Sg → Int32
  | 0, x => kV 0 800 c (sNo c 1 99 x).2.2
  | 5, x => kV 0 9 c (sNo c 0 7 x).2.2
  | _, _ => 0
section EQS
variable (c : Nat → Int32) (x : Sg)
theorem rdV0 : rdV c 0 x = sNo c 0 800 (sNo c 1 99 x) := rfl
theorem rA0 : rA c 0 x = kV 1 99 c x.2.2 := rfl
theorem rB0 : rB c 0 x = kV 0 800 c (sNo c 1 99 x).2.2 := rfl
theorem rdV1 : rdV c 1 x = sNo c 0 3 x := rfl
theorem rA1 : rA c 1 x = kV 0 3 c x.2.2 := rfl
theorem rB1 : rB c 1 x = 0 := rfl
theorem rdV2 : rdV c 2 x = x := rfl
theorem rA2 : rA c 2 x = 0 := rfl
theorem rB2 : rB c 2 x = 0 := rfl
theorem rdV3 : rdV c 3 x = sNo c 0 90 x := rfl
theorem rA3 : rA c 3 x = kV 0 90 c x.2.2 := rfl
theorem rB3 : rB c 3 x = 0 := rfl
theorem rdV4 : rdV c 4 x = sNo c 0 4 x := rfl
theorem rA4 : rA c 4 x = kV 0 4 c x.2.2 := rfl
theorem rB4 : rB c 4 x = 0 := rfl
theorem rdV5 : rdV c 5 x = sNo c 0 9 (sNo c 0 7 x) := rfl
theorem rA5 : rA c 5 x = kV 0 7 c x.2.2 := rfl
theorem rB5 : rB c 5 x = kV 0 9 c (sNo c 0 7 x).2.2 := rfl
theorem rdV6 : rdV c 6 x = sNo c 0 19 x := rfl
theorem rA6 : rA c 6 x = kV 0 19 c x.2.2 := rfl
theorem rB6 : rB c 6 x = 0 := rfl
theorem rdV7 : rdV c 7 x = sNo c 0 19 x := rfl
theorem rA7 : rA c 7 x = kV 0 19 c x.2.2 := rfl
theorem rB7 : rB c 7 x = 0 := rfl
theorem rdV8 : rdV c 8 x = sNo c 1 120 x := rfl
theorem rA8 : rA c 8 x = kV 1 120 c x.2.2 := rfl
theorem rB8 : rB c 8 x = 0 := rfl
end EQS
section NUMS
variable {N L : Nat} {b c : Nat → Int32} {x y : Sg}
theorem rdV_le (h : TX L b c) (hp : x.2.2 ≤ L) : ∀ v, v < 9 → (rdV c v x).2.2 ≤ L := by
  intro v hv
  match v, hv with
  | 0, _ => exact sNo_le h (sNo_le h hp)
  | 1, _ => exact sNo_le h hp
  | 2, _ => exact hp
  | 3, _ => exact sNo_le h hp
  | 4, _ => exact sNo_le h hp
  | 5, _ => exact sNo_le h (sNo_le h hp)
  | 6, _ => exact sNo_le h hp
  | 7, _ => exact sNo_le h hp
  | 8, _ => exact sNo_le h hp
theorem Sim.rd (h : Sim x y) : ∀ v, v < 9 → Sim (rdV c v x) (rdV c v y) := by
  intro v hv
  match v, hv with
  | 0, _ => exact h.no.no
  | 1, _ => exact h.no
  | 2, _ => exact h
  | 3, _ => exact h.no
  | 4, _ => exact h.no
  | 5, _ => exact h.no.no
  | 6, _ => exact h.no
  | 7, _ => exact h.no
  | 8, _ => exact h.no
theorem k_numbers_0 (hN : 1000 ≤ N) (h : TX L b c) (hp : x.2.2 ≤ L) (ln : Int32) (fs ss vs : Nat → Int32) : F_X7_readNumbers N (nI 0) ln fs ss vs x.1 (nI (tE c x.2.2)) (tK c x.2.2) x.2.1 (nI (tQ c x.2.2)) (nI L) b = (F_X6_add (nI 0) (rA c 0 x) (rB c 0 x) ln fs ss vs).bind fun x30 => some ((), x30.2.1, x30.2.2.1, x30.2.2.2.1, x30.2.2.2.2, (rdV c 0 x).1, nI (tE c (rdV c 0 x).2.2), tK c (rdV c 0 x).2.2, (rdV c 0 x).2.1, nI (tQ c (rdV c 0 x).2.2)) := by
  rw [rdV0, rA0, rB0]
  have g0 : F_X10_readNumber N 1 99 x.1 (nI (tE c x.2.2)) (tK c x.2.2) x.2.1 (nI (tQ c x.2.2)) (nI L) b = some (kV 1 99 c x.2.2, (sNo c 1 99 x).1, nI (tE c (sNo c 1 99 x).2.2), tK c (sNo c 1 99 x).2.2, (sNo c 1 99 x).2.1, nI (tQ c (sNo c 1 99 x).2.2)) := kk_num (x := x) (l := 1) (H := 99) hN h hp (by decide) (by decide)
  have g1 : F_X10_readNumber N 0 800 (sNo c 1 99 x).1 (nI (tE c (sNo c 1 99 x).2.2)) (tK c (sNo c 1 99 x).2.2) (sNo c 1 99 x).2.1 (nI (tQ c (sNo c 1 99 x).2.2)) (nI L) b = some (kV 0 800 c (sNo c 1 99 x).2.2, (sNo c 0 800 (sNo c 1 99 x)).1, nI (tE c (sNo c 0 800 (sNo c 1 99 x)).2.2), tK c (sNo c 0 800 (sNo c 1 99 x)).2.2, (sNo c 0 800 (sNo c 1 99 x)).2.1, nI (tQ c (sNo c 0 800 (sNo c 1 99 x)).2.2)) := kk_num (x := (sNo c 1 99 x)) (l := 0) (H := 800) hN h (sNo_le h hp) (by decide) (by decide)
  unfold F_X7_readNumbers F_X7_readNumbers_b175
  rw [if_pos (show nI 0 = 0 from rfl)]
  rw [g0, Option.bind_some]
  dsimp only
  rw [g1, Option.bind_some]
theorem k_numbers_1 (hN : 1000 ≤ N) (h : TX L b c) (hp : x.2.2 ≤ L) (ln : Int32) (fs ss vs : Nat → Int32) : F_X7_readNumbers N (nI 1) ln fs ss vs x.1 (nI (tE c x.2.2)) (tK c x.2.2) x.2.1 (nI (tQ c x.2.2)) (nI L) b = (F_X6_add (nI 1) (rA c 1 x) (rB c 1 x) ln fs ss vs).bind fun x30 => some ((), x30.2.1, x30.2.2.1, x30.2.2.2.1, x30.2.2.2.2, (rdV c 1 x).1, nI (tE c (rdV c 1 x).2.2), tK c (rdV c 1 x).2.2, (rdV c 1 x).2.1, nI (tQ c (rdV c 1 x).2.2)) := by
  rw [rdV1, rA1, rB1]
  have g0 : F_X10_readNumber N 0 3 x.1 (nI (tE c x.2.2)) (tK c x.2.2) x.2.1 (nI (tQ c x.2.2)) (nI L) b = some (kV 0 3 c x.2.2, (sNo c 0 3 x).1, nI (tE c (sNo c 0 3 x).2.2), tK c (sNo c 0 3 x).2.2, (sNo c 0 3 x).2.1, nI (tQ c (sNo c 0 3 x).2.2)) := kk_num (x := x) (l := 0) (H := 3) hN h hp (by decide) (by decide)
  unfold F_X7_readNumbers F_X7_readNumbers_b175
  rw [if_neg (by decide), if_pos (show nI 1 = 1 from rfl)]
  rw [g0, Option.bind_some]
theorem k_numbers_2 (hN : 1000 ≤ N) (h : TX L b c) (hp : x.2.2 ≤ L) (ln : Int32) (fs ss vs : Nat → Int32) : F_X7_readNumbers N (nI 2) ln fs ss vs x.1 (nI (tE c x.2.2)) (tK c x.2.2) x.2.1 (nI (tQ c x.2.2)) (nI L) b = (F_X6_add (nI 2) (rA c 2 x) (rB c 2 x) ln fs ss vs).bind fun x30 => some ((), x30.2.1, x30.2.2.1, x30.2.2.2.1, x30.2.2.2.2, (rdV c 2 x).1, nI (tE c (rdV c 2 x).2.2), tK c (rdV c 2 x).2.2, (rdV c 2 x).2.1, nI (tQ c (rdV c 2 x).2.2)) := by
  rw [rdV2, rA2, rB2]
  unfold F_X7_readNumbers F_X7_readNumbers_b175
  rw [if_neg (by decide), if_neg (by decide), if_pos (show nI 2 = 2 from rfl)]
theorem k_numbers_3 (hN : 1000 ≤ N) (h : TX L b c) (hp : x.2.2 ≤ L) (ln : Int32) (fs ss vs : Nat → Int32) : F_X7_readNumbers N (nI 3) ln fs ss vs x.1 (nI (tE c x.2.2)) (tK c x.2.2) x.2.1 (nI (tQ c x.2.2)) (nI L) b = (F_X6_add (nI 3) (rA c 3 x) (rB c 3 x) ln fs ss vs).bind fun x30 => some ((), x30.2.1, x30.2.2.1, x30.2.2.2.1, x30.2.2.2.2, (rdV c 3 x).1, nI (tE c (rdV c 3 x).2.2), tK c (rdV c 3 x).2.2, (rdV c 3 x).2.1, nI (tQ c (rdV c 3 x).2.2)) := by
  rw [rdV3, rA3, rB3]
  have g0 : F_X10_readNumber N 0 90 x.1 (nI (tE c x.2.2)) (tK c x.2.2) x.2.1 (nI (tQ c x.2.2)) (nI L) b = some (kV 0 90 c x.2.2, (sNo c 0 90 x).1, nI (tE c (sNo c 0 90 x).2.2), tK c (sNo c 0 90 x).2.2, (sNo c 0 90 x).2.1, nI (tQ c (sNo c 0 90 x).2.2)) := kk_num (x := x) (l := 0) (H := 90) hN h hp (by decide) (by decide)
  unfold F_X7_readNumbers F_X7_readNumbers_b175
  rw [if_neg (by decide), if_neg (by decide), if_neg (by decide), if_pos (show nI 3 = 3 from rfl)]
  rw [g0, Option.bind_some]
theorem k_numbers_4 (hN : 1000 ≤ N) (h : TX L b c) (hp : x.2.2 ≤ L) (ln : Int32) (fs ss vs : Nat → Int32) : F_X7_readNumbers N (nI 4) ln fs ss vs x.1 (nI (tE c x.2.2)) (tK c x.2.2) x.2.1 (nI (tQ c x.2.2)) (nI L) b = (F_X6_add (nI 4) (rA c 4 x) (rB c 4 x) ln fs ss vs).bind fun x30 => some ((), x30.2.1, x30.2.2.1, x30.2.2.2.1, x30.2.2.2.2, (rdV c 4 x).1, nI (tE c (rdV c 4 x).2.2), tK c (rdV c 4 x).2.2, (rdV c 4 x).2.1, nI (tQ c (rdV c 4 x).2.2)) := by
  rw [rdV4, rA4, rB4]
  have g0 : F_X10_readNumber N 0 4 x.1 (nI (tE c x.2.2)) (tK c x.2.2) x.2.1 (nI (tQ c x.2.2)) (nI L) b = some (kV 0 4 c x.2.2, (sNo c 0 4 x).1, nI (tE c (sNo c 0 4 x).2.2), tK c (sNo c 0 4 x).2.2, (sNo c 0 4 x).2.1, nI (tQ c (sNo c 0 4 x).2.2)) := kk_num (x := x) (l := 0) (H := 4) hN h hp (by decide) (by decide)
  unfold F_X7_readNumbers F_X7_readNumbers_b175
  rw [if_neg (by decide), if_neg (by decide), if_neg (by decide), if_neg (by decide), if_pos (show nI 4 = 4 from rfl)]
  rw [g0, Option.bind_some]
theorem k_numbers_5 (hN : 1000 ≤ N) (h : TX L b c) (hp : x.2.2 ≤ L) (ln : Int32) (fs ss vs : Nat → Int32) : F_X7_readNumbers N (nI 5) ln fs ss vs x.1 (nI (tE c x.2.2)) (tK c x.2.2) x.2.1 (nI (tQ c x.2.2)) (nI L) b = (F_X6_add (nI 5) (rA c 5 x) (rB c 5 x) ln fs ss vs).bind fun x30 => some ((), x30.2.1, x30.2.2.1, x30.2.2.2.1, x30.2.2.2.2, (rdV c 5 x).1, nI (tE c (rdV c 5 x).2.2), tK c (rdV c 5 x).2.2, (rdV c 5 x).2.1, nI (tQ c (rdV c 5 x).2.2)) := by
  rw [rdV5, rA5, rB5]
  have g0 : F_X10_readNumber N 0 7 x.1 (nI (tE c x.2.2)) (tK c x.2.2) x.2.1 (nI (tQ c x.2.2)) (nI L) b = some (kV 0 7 c x.2.2, (sNo c 0 7 x).1, nI (tE c (sNo c 0 7 x).2.2), tK c (sNo c 0 7 x).2.2, (sNo c 0 7 x).2.1, nI (tQ c (sNo c 0 7 x).2.2)) := kk_num (x := x) (l := 0) (H := 7) hN h hp (by decide) (by decide)
  have g1 : F_X10_readNumber N 0 9 (sNo c 0 7 x).1 (nI (tE c (sNo c 0 7 x).2.2)) (tK c (sNo c 0 7 x).2.2) (sNo c 0 7 x).2.1 (nI (tQ c (sNo c 0 7 x).2.2)) (nI L) b = some (kV 0 9 c (sNo c 0 7 x).2.2, (sNo c 0 9 (sNo c 0 7 x)).1, nI (tE c (sNo c 0 9 (sNo c 0 7 x)).2.2), tK c (sNo c 0 9 (sNo c 0 7 x)).2.2, (sNo c 0 9 (sNo c 0 7 x)).2.1, nI (tQ c (sNo c 0 9 (sNo c 0 7 x)).2.2)) := kk_num (x := (sNo c 0 7 x)) (l := 0) (H := 9) hN h (sNo_le h hp) (by decide) (by decide)
  unfold F_X7_readNumbers F_X7_readNumbers_b175
  rw [if_neg (by decide), if_neg (by decide), if_neg (by decide), if_neg (by decide), if_neg (by decide), if_pos (show nI 5 = 5 from rfl)]
  rw [g0, Option.bind_some]
  dsimp only
  rw [g1, Option.bind_some]
theorem k_numbers_6 (hN : 1000 ≤ N) (h : TX L b c) (hp : x.2.2 ≤ L) (ln : Int32) (fs ss vs : Nat → Int32) : F_X7_readNumbers N (nI 6) ln fs ss vs x.1 (nI (tE c x.2.2)) (tK c x.2.2) x.2.1 (nI (tQ c x.2.2)) (nI L) b = (F_X6_add (nI 6) (rA c 6 x) (rB c 6 x) ln fs ss vs).bind fun x30 => some ((), x30.2.1, x30.2.2.1, x30.2.2.2.1, x30.2.2.2.2, (rdV c 6 x).1, nI (tE c (rdV c 6 x).2.2), tK c (rdV c 6 x).2.2, (rdV c 6 x).2.1, nI (tQ c (rdV c 6 x).2.2)) := by
  rw [rdV6, rA6, rB6]
  have g0 : F_X10_readNumber N 0 19 x.1 (nI (tE c x.2.2)) (tK c x.2.2) x.2.1 (nI (tQ c x.2.2)) (nI L) b = some (kV 0 19 c x.2.2, (sNo c 0 19 x).1, nI (tE c (sNo c 0 19 x).2.2), tK c (sNo c 0 19 x).2.2, (sNo c 0 19 x).2.1, nI (tQ c (sNo c 0 19 x).2.2)) := kk_num (x := x) (l := 0) (H := 19) hN h hp (by decide) (by decide)
  unfold F_X7_readNumbers F_X7_readNumbers_b175
  rw [if_neg (by decide), if_neg (by decide), if_neg (by decide), if_neg (by decide), if_neg (by decide), if_neg (by decide), if_pos (show nI 6 = 6 from rfl)]
  rw [g0, Option.bind_some]
theorem k_numbers_7 (hN : 1000 ≤ N) (h : TX L b c) (hp : x.2.2 ≤ L) (ln : Int32) (fs ss vs : Nat → Int32) : F_X7_readNumbers N (nI 7) ln fs ss vs x.1 (nI (tE c x.2.2)) (tK c x.2.2) x.2.1 (nI (tQ c x.2.2)) (nI L) b = (F_X6_add (nI 7) (rA c 7 x) (rB c 7 x) ln fs ss vs).bind fun x30 => some ((), x30.2.1, x30.2.2.1, x30.2.2.2.1, x30.2.2.2.2, (rdV c 7 x).1, nI (tE c (rdV c 7 x).2.2), tK c (rdV c 7 x).2.2, (rdV c 7 x).2.1, nI (tQ c (rdV c 7 x).2.2)) := by
  rw [rdV7, rA7, rB7]
  have g0 : F_X10_readNumber N 0 19 x.1 (nI (tE c x.2.2)) (tK c x.2.2) x.2.1 (nI (tQ c x.2.2)) (nI L) b = some (kV 0 19 c x.2.2, (sNo c 0 19 x).1, nI (tE c (sNo c 0 19 x).2.2), tK c (sNo c 0 19 x).2.2, (sNo c 0 19 x).2.1, nI (tQ c (sNo c 0 19 x).2.2)) := kk_num (x := x) (l := 0) (H := 19) hN h hp (by decide) (by decide)
  unfold F_X7_readNumbers F_X7_readNumbers_b175
  rw [if_neg (by decide), if_neg (by decide), if_neg (by decide), if_neg (by decide), if_neg (by decide), if_neg (by decide), if_neg (by decide), if_pos (show nI 7 = 7 from rfl)]
  rw [g0, Option.bind_some]
theorem k_numbers_8 (hN : 1000 ≤ N) (h : TX L b c) (hp : x.2.2 ≤ L) (ln : Int32) (fs ss vs : Nat → Int32) : F_X7_readNumbers N (nI 8) ln fs ss vs x.1 (nI (tE c x.2.2)) (tK c x.2.2) x.2.1 (nI (tQ c x.2.2)) (nI L) b = (F_X6_add (nI 8) (rA c 8 x) (rB c 8 x) ln fs ss vs).bind fun x30 => some ((), x30.2.1, x30.2.2.1, x30.2.2.2.1, x30.2.2.2.2, (rdV c 8 x).1, nI (tE c (rdV c 8 x).2.2), tK c (rdV c 8 x).2.2, (rdV c 8 x).2.1, nI (tQ c (rdV c 8 x).2.2)) := by
  rw [rdV8, rA8, rB8]
  have g0 : F_X10_readNumber N 1 120 x.1 (nI (tE c x.2.2)) (tK c x.2.2) x.2.1 (nI (tQ c x.2.2)) (nI L) b = some (kV 1 120 c x.2.2, (sNo c 1 120 x).1, nI (tE c (sNo c 1 120 x).2.2), tK c (sNo c 1 120 x).2.2, (sNo c 1 120 x).2.1, nI (tQ c (sNo c 1 120 x).2.2)) := kk_num (x := x) (l := 1) (H := 120) hN h hp (by decide) (by decide)
  unfold F_X7_readNumbers F_X7_readNumbers_b175
  rw [if_neg (by decide), if_neg (by decide), if_neg (by decide), if_neg (by decide), if_neg (by decide), if_neg (by decide), if_neg (by decide), if_neg (by decide), if_pos (show nI 8 = 8 from rfl)]
  rw [g0, Option.bind_some]
theorem k_numbers (hN : 1000 ≤ N) (h : TX L b c) (hp : x.2.2 ≤ L) (ln : Int32) (fs ss vs : Nat → Int32) : ∀ v, v < 9 → F_X7_readNumbers N (nI v) ln fs ss vs x.1 (nI (tE c x.2.2)) (tK c x.2.2) x.2.1 (nI (tQ c x.2.2)) (nI L) b = (F_X6_add (nI v) (rA c v x) (rB c v x) ln fs ss vs).bind fun x30 => some ((), x30.2.1, x30.2.2.1, x30.2.2.2.1, x30.2.2.2.2, (rdV c v x).1, nI (tE c (rdV c v x).2.2), tK c (rdV c v x).2.2, (rdV c v x).2.1, nI (tQ c (rdV c v x).2.2)) := by
  intro v hv
  match v, hv with
  | 0, _ => exact k_numbers_0 hN h hp ln fs ss vs
  | 1, _ => exact k_numbers_1 hN h hp ln fs ss vs
  | 2, _ => exact k_numbers_2 hN h hp ln fs ss vs
  | 3, _ => exact k_numbers_3 hN h hp ln fs ss vs
  | 4, _ => exact k_numbers_4 hN h hp ln fs ss vs
  | 5, _ => exact k_numbers_5 hN h hp ln fs ss vs
  | 6, _ => exact k_numbers_6 hN h hp ln fs ss vs
  | 7, _ => exact k_numbers_7 hN h hp ln fs ss vs
  | 8, _ => exact k_numbers_8 hN h hp ln fs ss vs
end NUMS
theorem came_1 {N : Nat} {dn : Int32} {sa s1 : Nat → Int32} (h : F_X12_damps N sa = some ((), s1)) : F_X12_came N 1 dn 0 sa = some ((), dn + 1, if dn + 1 = 40 then 1 else 0, s1) := by
  unfold F_X12_came F_X12_came_b8 F_X12_came_b35 F_X12_came_b40
  rw [if_neg (by decide), h, Option.bind_some]
  show ((some (1 : Int32)).bind _) = _
  rw [Option.bind_some, if_neg (by decide)]
  by_cases h40 : dn + 1 = 40
  · rw [if_pos h40, if_pos h40, if_pos (by decide)]
  · rw [if_neg h40, if_neg h40, if_pos (by decide)]
theorem came_0 (N : Nat) (dn : Int32) (s : Nat → Int32) : F_X12_came N 0 dn 0 s = some ((), dn, 1, s) := by
  unfold F_X12_came F_X12_came_b8 F_X12_came_b35 F_X12_came_b40
  rw [if_pos rfl]
  show ((some (0 : Int32)).bind _) = _
  rw [Option.bind_some, if_pos rfl, if_pos (by decide), show dn + 0 = dn by grind]
/-- a command of the model's, done or refused -/
def MA (N : Nat) : Nat → Int32 → Int32 → (Nat → Int32) → (Nat → Int32) → Bool → (Nat → Int32) → (Nat → Int32) → Prop
  | 0, a, b, s, w, is, s1, w1 => ∃ l, F_X12_isLoaded (s 6 - 1) s = some l ∧ ((l = 0 ∧ is = true ∧ w1 = w ∧ ∃ sa, F_X12_lays (s 6 - 1) a b s = some ((), sa) ∧ F_X12_damps N sa = some ((), s1)) ∨ (¬ l = 0 ∧ is = false ∧ s1 = s ∧ w1 = w))
  | 1, a, _, s, w, is, s1, w1 => (s 6 ≤ a ∧ is = false ∧ s1 = s ∧ w1 = w) ∨ (¬ s 6 ≤ a ∧ ∃ y, F_X12_why a s = some y ∧ ((y = 0 ∧ is = true ∧ w1 = w ∧ ∃ m sa, F_X12_lowers N a s = some (m, sa) ∧ F_X12_damps N sa = some ((), s1)) ∨ (¬ y = 0 ∧ is = false ∧ s1 = s ∧ w1 = w)))
  | 2, _, _, s, w, is, s1, w1 => is = true ∧ w1 = w ∧ ∃ m sa, F_X12_rotates N s = some (m, sa) ∧ F_X12_damps N sa = some ((), s1)
  | 3, a, _, s, w, is, s1, w1 => is = true ∧ w1 = w ∧ F_X12_damps N (upd s 1 a) = some ((), s1)
  | 4, a, _, s, w, is, s1, w1 => is = true ∧ w1 = w ∧ F_X12_damps N (upd s 2 a) = some ((), s1)
  | 5, a, b, s, w, is, s1, w1 => is = true ∧ w1 = w ∧ F_X12_damps N (upd (upd s 3 a) 4 b) = some ((), s1)
  | 6, a, _, s, w, is, s1, w1 => ∃ st, F_X12_isStored a s = some st ∧ ((st = 0 ∧ is = false ∧ s1 = s ∧ w1 = w) ∨ (¬ st = 0 ∧ ∃ sm, F_X12_smoulders a s = some sm ∧ ((sm = 0 ∧ is = true ∧ w1 = w ∧ ∃ m sa, F_X12_sells a s = some (m, sa) ∧ F_X12_damps N sa = some ((), s1)) ∨ (¬ sm = 0 ∧ is = false ∧ s1 = s ∧ w1 = w))))
  | 7, a, _, s, w, is, s1, w1 => ∃ st, F_X12_isStored a s = some st ∧ ((st = 0 ∧ is = false ∧ s1 = s ∧ w1 = w) ∨ (¬ st = 0 ∧ is = true ∧ w1 = w ∧ ∃ m sa, F_X12_quenches a s = some (m, sa) ∧ F_X12_damps N sa = some ((), s1)))
  | _, a, _, s, w, is, s1, w1 => (9999 < s 0 + a ∧ is = false ∧ s1 = s ∧ w1 = w) ∨ (¬ 9999 < s 0 + a ∧ is = true ∧ ∃ m sa, F_X12_minutes1 N a s w = some (m, sa, w1) ∧ F_X12_damps N sa = some ((), s1))
def dnX (is : Bool) (dn : Int32) : Int32 := match is with | true => dn + 1 | false => dn
def ovX (is : Bool) (dn : Int32) : Int32 := match is with | true => (if dn + 1 = 40 then 1 else 0) | false => 1
theorem ac_0 (z ov : Int32) : F_X12_isActive z 0 ov = some 0 := by unfold F_X12_isActive F_X12_isActive_b25; rw [if_pos rfl]
theorem ac_1 : F_X12_isActive 0 1 0 = some 1 := by unfold F_X12_isActive; rw [if_neg (by decide), if_pos rfl, if_pos rfl]
section DOES
variable {N L : Nat} {b c : Nat → Int32} {y : Sg}
theorem m_does0_0 (hN : 1000 ≤ N) (h : TX L b c) (hp : y.2.2 ≤ L) (nb dn ov : Int32) {wd : Int64} (hm : MW c y.2.2 nb wd) (s w : Nat → Int32) : ∃ nb' wd', F_X12_does N (Int64.ofNat (vW 0)) (nI (tE c y.2.2)) y.1 y.2.1 (nI (tQ c y.2.2)) dn 0 ov (nI L) nb (tK c y.2.2) wd s b w = some ((), nI (tE c (rdV c 0 y).2.2), (rdV c 0 y).1, (rdV c 0 y).2.1, nI (tQ c (rdV c 0 y).2.2), dn, ov, nb', tK c (rdV c 0 y).2.2, wd', s, w) ∧ MW c (rdV c 0 y).2.2 nb' wd' := by
  rw [rdV0]
  obtain ⟨nb0, wd0, e0, m0⟩ := mm_no (x := y) (l := 1) (H := 99) hN h hp (by decide) (by decide) nb hm
  have g0 : F_X12_reads N 1 99 (nI (tE c y.2.2)) y.1 y.2.1 (nI (tQ c y.2.2)) (nI L) nb (tK c y.2.2) wd b = some ((if (sNo c 1 99 y).1 = 0 then nI (tV c y.2.2) else nI 1), nI (tE c (sNo c 1 99 y).2.2), (sNo c 1 99 y).1, (sNo c 1 99 y).2.1, nI (tQ c (sNo c 1 99 y).2.2), nb0, tK c (sNo c 1 99 y).2.2, wd0) := e0
  obtain ⟨nb1, wd1, e1, m1⟩ := mm_no (x := (sNo c 1 99 y)) (l := 0) (H := 800) hN h (sNo_le h hp) (by decide) (by decide) nb0 m0
  have g1 : F_X12_reads N 0 800 (nI (tE c (sNo c 1 99 y).2.2)) (sNo c 1 99 y).1 (sNo c 1 99 y).2.1 (nI (tQ c (sNo c 1 99 y).2.2)) (nI L) nb0 (tK c (sNo c 1 99 y).2.2) wd0 b = some ((if (sNo c 0 800 (sNo c 1 99 y)).1 = 0 then nI (tV c (sNo c 1 99 y).2.2) else nI 0), nI (tE c (sNo c 0 800 (sNo c 1 99 y)).2.2), (sNo c 0 800 (sNo c 1 99 y)).1, (sNo c 0 800 (sNo c 1 99 y)).2.1, nI (tQ c (sNo c 0 800 (sNo c 1 99 y)).2.2), nb1, tK c (sNo c 0 800 (sNo c 1 99 y)).2.2, wd1) := e1
  refine ⟨nb1, wd1, ?_, m1⟩
  unfold F_X12_does
  rw [if_pos (show lg_cmp (Int64.ofNat (vW 0)) (Int64.ofNat 408612) = 0 by decide)]
  unfold F_X12_putText
  rw [g0, Option.bind_some]
  dsimp only
  rw [g1, Option.bind_some]
  dsimp only
  rw [ac_0, Option.bind_some, if_pos rfl]
  simp only [Option.bind_some]
theorem m_does0_1 (hN : 1000 ≤ N) (h : TX L b c) (hp : y.2.2 ≤ L) (nb dn ov : Int32) {wd : Int64} (hm : MW c y.2.2 nb wd) (s w : Nat → Int32) : ∃ nb' wd', F_X12_does N (Int64.ofNat (vW 1)) (nI (tE c y.2.2)) y.1 y.2.1 (nI (tQ c y.2.2)) dn 0 ov (nI L) nb (tK c y.2.2) wd s b w = some ((), nI (tE c (rdV c 1 y).2.2), (rdV c 1 y).1, (rdV c 1 y).2.1, nI (tQ c (rdV c 1 y).2.2), dn, ov, nb', tK c (rdV c 1 y).2.2, wd', s, w) ∧ MW c (rdV c 1 y).2.2 nb' wd' := by
  rw [rdV1]
  obtain ⟨nb0, wd0, e0, m0⟩ := mm_no (x := y) (l := 0) (H := 3) hN h hp (by decide) (by decide) nb hm
  have g0 : F_X12_reads N 0 3 (nI (tE c y.2.2)) y.1 y.2.1 (nI (tQ c y.2.2)) (nI L) nb (tK c y.2.2) wd b = some ((if (sNo c 0 3 y).1 = 0 then nI (tV c y.2.2) else nI 0), nI (tE c (sNo c 0 3 y).2.2), (sNo c 0 3 y).1, (sNo c 0 3 y).2.1, nI (tQ c (sNo c 0 3 y).2.2), nb0, tK c (sNo c 0 3 y).2.2, wd0) := e0
  refine ⟨nb0, wd0, ?_, m0⟩
  unfold F_X12_does
  rw [if_neg (show ¬ lg_cmp (Int64.ofNat (vW 1)) (Int64.ofNat 408612) = 0 by decide), if_pos (show lg_cmp (Int64.ofNat (vW 1)) (Int64.ofNat 13098162) = 0 by decide)]
  unfold F_X12_lowerText
  rw [g0, Option.bind_some]
  dsimp only
  rw [ac_0, Option.bind_some, if_pos rfl]
  simp only [Option.bind_some]
theorem m_does0_2 (hN : 1000 ≤ N) (h : TX L b c) (hp : y.2.2 ≤ L) (nb dn ov : Int32) {wd : Int64} (hm : MW c y.2.2 nb wd) (s w : Nat → Int32) : ∃ nb' wd', F_X12_does N (Int64.ofNat (vW 2)) (nI (tE c y.2.2)) y.1 y.2.1 (nI (tQ c y.2.2)) dn 0 ov (nI L) nb (tK c y.2.2) wd s b w = some ((), nI (tE c (rdV c 2 y).2.2), (rdV c 2 y).1, (rdV c 2 y).2.1, nI (tQ c (rdV c 2 y).2.2), dn, ov, nb', tK c (rdV c 2 y).2.2, wd', s, w) ∧ MW c (rdV c 2 y).2.2 nb' wd' := by
  rw [rdV2]
  refine ⟨nb, wd, ?_, hm⟩
  unfold F_X12_does
  rw [if_neg (show ¬ lg_cmp (Int64.ofNat (vW 2)) (Int64.ofNat 408612) = 0 by decide), if_neg (show ¬ lg_cmp (Int64.ofNat (vW 2)) (Int64.ofNat 13098162) = 0 by decide), if_neg (show ¬ lg_cmp (Int64.ofNat (vW 2)) (Int64.ofNat 206405) = 0 by decide), if_neg (show ¬ lg_cmp (Int64.ofNat (vW 2)) (Int64.ofNat 234546) = 0 by decide), if_neg (show ¬ lg_cmp (Int64.ofNat (vW 2)) (Int64.ofNat 763332) = 0 by decide), if_neg (show ¬ lg_cmp (Int64.ofNat (vW 2)) (Int64.ofNat 628108) = 0 by decide), if_neg (show ¬ lg_cmp (Int64.ofNat (vW 2)) (Int64.ofNat 592623720) = 0 by decide), if_neg (show ¬ lg_cmp (Int64.ofNat (vW 2)) (Int64.ofNat 754996) = 0 by decide)]
  rw [ac_0, Option.bind_some, if_pos rfl]
theorem m_does0_3 (hN : 1000 ≤ N) (h : TX L b c) (hp : y.2.2 ≤ L) (nb dn ov : Int32) {wd : Int64} (hm : MW c y.2.2 nb wd) (s w : Nat → Int32) : ∃ nb' wd', F_X12_does N (Int64.ofNat (vW 3)) (nI (tE c y.2.2)) y.1 y.2.1 (nI (tQ c y.2.2)) dn 0 ov (nI L) nb (tK c y.2.2) wd s b w = some ((), nI (tE c (rdV c 3 y).2.2), (rdV c 3 y).1, (rdV c 3 y).2.1, nI (tQ c (rdV c 3 y).2.2), dn, ov, nb', tK c (rdV c 3 y).2.2, wd', s, w) ∧ MW c (rdV c 3 y).2.2 nb' wd' := by
  rw [rdV3]
  obtain ⟨nb0, wd0, e0, m0⟩ := mm_no (x := y) (l := 0) (H := 90) hN h hp (by decide) (by decide) nb hm
  have g0 : F_X12_reads N 0 90 (nI (tE c y.2.2)) y.1 y.2.1 (nI (tQ c y.2.2)) (nI L) nb (tK c y.2.2) wd b = some ((if (sNo c 0 90 y).1 = 0 then nI (tV c y.2.2) else nI 0), nI (tE c (sNo c 0 90 y).2.2), (sNo c 0 90 y).1, (sNo c 0 90 y).2.1, nI (tQ c (sNo c 0 90 y).2.2), nb0, tK c (sNo c 0 90 y).2.2, wd0) := e0
  refine ⟨nb0, wd0, ?_, m0⟩
  unfold F_X12_does
  rw [if_neg (show ¬ lg_cmp (Int64.ofNat (vW 3)) (Int64.ofNat 408612) = 0 by decide), if_neg (show ¬ lg_cmp (Int64.ofNat (vW 3)) (Int64.ofNat 13098162) = 0 by decide), if_pos (show lg_cmp (Int64.ofNat (vW 3)) (Int64.ofNat 206405) = 0 by decide)]
  unfold F_X12_setsText
  rw [g0, Option.bind_some]
  dsimp only
  rw [if_neg (show ¬ (1 : Int32) = 3 by decide)]
  unfold F_X12_setsText_b23
  rw [ac_0, Option.bind_some, if_pos rfl]
  simp only [Option.bind_some]
theorem m_does0_4 (hN : 1000 ≤ N) (h : TX L b c) (hp : y.2.2 ≤ L) (nb dn ov : Int32) {wd : Int64} (hm : MW c y.2.2 nb wd) (s w : Nat → Int32) : ∃ nb' wd', F_X12_does N (Int64.ofNat (vW 4)) (nI (tE c y.2.2)) y.1 y.2.1 (nI (tQ c y.2.2)) dn 0 ov (nI L) nb (tK c y.2.2) wd s b w = some ((), nI (tE c (rdV c 4 y).2.2), (rdV c 4 y).1, (rdV c 4 y).2.1, nI (tQ c (rdV c 4 y).2.2), dn, ov, nb', tK c (rdV c 4 y).2.2, wd', s, w) ∧ MW c (rdV c 4 y).2.2 nb' wd' := by
  rw [rdV4]
  obtain ⟨nb0, wd0, e0, m0⟩ := mm_no (x := y) (l := 0) (H := 4) hN h hp (by decide) (by decide) nb hm
  have g0 : F_X12_reads N 0 4 (nI (tE c y.2.2)) y.1 y.2.1 (nI (tQ c y.2.2)) (nI L) nb (tK c y.2.2) wd b = some ((if (sNo c 0 4 y).1 = 0 then nI (tV c y.2.2) else nI 0), nI (tE c (sNo c 0 4 y).2.2), (sNo c 0 4 y).1, (sNo c 0 4 y).2.1, nI (tQ c (sNo c 0 4 y).2.2), nb0, tK c (sNo c 0 4 y).2.2, wd0) := e0
  refine ⟨nb0, wd0, ?_, m0⟩
  unfold F_X12_does
  rw [if_neg (show ¬ lg_cmp (Int64.ofNat (vW 4)) (Int64.ofNat 408612) = 0 by decide), if_neg (show ¬ lg_cmp (Int64.ofNat (vW 4)) (Int64.ofNat 13098162) = 0 by decide), if_neg (show ¬ lg_cmp (Int64.ofNat (vW 4)) (Int64.ofNat 206405) = 0 by decide), if_pos (show lg_cmp (Int64.ofNat (vW 4)) (Int64.ofNat 234546) = 0 by decide)]
  unfold F_X12_setsText
  rw [g0, Option.bind_some]
  dsimp only
  rw [if_neg (show ¬ (2 : Int32) = 3 by decide)]
  unfold F_X12_setsText_b23
  rw [ac_0, Option.bind_some, if_pos rfl]
  simp only [Option.bind_some]
theorem m_does0_5 (hN : 1000 ≤ N) (h : TX L b c) (hp : y.2.2 ≤ L) (nb dn ov : Int32) {wd : Int64} (hm : MW c y.2.2 nb wd) (s w : Nat → Int32) : ∃ nb' wd', F_X12_does N (Int64.ofNat (vW 5)) (nI (tE c y.2.2)) y.1 y.2.1 (nI (tQ c y.2.2)) dn 0 ov (nI L) nb (tK c y.2.2) wd s b w = some ((), nI (tE c (rdV c 5 y).2.2), (rdV c 5 y).1, (rdV c 5 y).2.1, nI (tQ c (rdV c 5 y).2.2), dn, ov, nb', tK c (rdV c 5 y).2.2, wd', s, w) ∧ MW c (rdV c 5 y).2.2 nb' wd' := by
  rw [rdV5]
  obtain ⟨nb0, wd0, e0, m0⟩ := mm_no (x := y) (l := 0) (H := 7) hN h hp (by decide) (by decide) nb hm
  have g0 : F_X12_reads N 0 7 (nI (tE c y.2.2)) y.1 y.2.1 (nI (tQ c y.2.2)) (nI L) nb (tK c y.2.2) wd b = some ((if (sNo c 0 7 y).1 = 0 then nI (tV c y.2.2) else nI 0), nI (tE c (sNo c 0 7 y).2.2), (sNo c 0 7 y).1, (sNo c 0 7 y).2.1, nI (tQ c (sNo c 0 7 y).2.2), nb0, tK c (sNo c 0 7 y).2.2, wd0) := e0
  obtain ⟨nb1, wd1, e1, m1⟩ := mm_no (x := (sNo c 0 7 y)) (l := 0) (H := 9) hN h (sNo_le h hp) (by decide) (by decide) nb0 m0
  have g1 : F_X12_reads N 0 9 (nI (tE c (sNo c 0 7 y).2.2)) (sNo c 0 7 y).1 (sNo c 0 7 y).2.1 (nI (tQ c (sNo c 0 7 y).2.2)) (nI L) nb0 (tK c (sNo c 0 7 y).2.2) wd0 b = some ((if (sNo c 0 9 (sNo c 0 7 y)).1 = 0 then nI (tV c (sNo c 0 7 y).2.2) else nI 0), nI (tE c (sNo c 0 9 (sNo c 0 7 y)).2.2), (sNo c 0 9 (sNo c 0 7 y)).1, (sNo c 0 9 (sNo c 0 7 y)).2.1, nI (tQ c (sNo c 0 9 (sNo c 0 7 y)).2.2), nb1, tK c (sNo c 0 9 (sNo c 0 7 y)).2.2, wd1) := e1
  refine ⟨nb1, wd1, ?_, m1⟩
  unfold F_X12_does
  rw [if_neg (show ¬ lg_cmp (Int64.ofNat (vW 5)) (Int64.ofNat 408612) = 0 by decide), if_neg (show ¬ lg_cmp (Int64.ofNat (vW 5)) (Int64.ofNat 13098162) = 0 by decide), if_neg (show ¬ lg_cmp (Int64.ofNat (vW 5)) (Int64.ofNat 206405) = 0 by decide), if_neg (show ¬ lg_cmp (Int64.ofNat (vW 5)) (Int64.ofNat 234546) = 0 by decide), if_pos (show lg_cmp (Int64.ofNat (vW 5)) (Int64.ofNat 763332) = 0 by decide)]
  unfold F_X12_setsText
  rw [g0, Option.bind_some]
  dsimp only
  rw [if_pos (show (3 : Int32) = 3 from rfl)]
  rw [g1, Option.bind_some]
  dsimp only
  unfold F_X12_setsText_b23
  rw [ac_0, Option.bind_some, if_pos rfl]
  simp only [Option.bind_some]
theorem m_does0_6 (hN : 1000 ≤ N) (h : TX L b c) (hp : y.2.2 ≤ L) (nb dn ov : Int32) {wd : Int64} (hm : MW c y.2.2 nb wd) (s w : Nat → Int32) : ∃ nb' wd', F_X12_does N (Int64.ofNat (vW 6)) (nI (tE c y.2.2)) y.1 y.2.1 (nI (tQ c y.2.2)) dn 0 ov (nI L) nb (tK c y.2.2) wd s b w = some ((), nI (tE c (rdV c 6 y).2.2), (rdV c 6 y).1, (rdV c 6 y).2.1, nI (tQ c (rdV c 6 y).2.2), dn, ov, nb', tK c (rdV c 6 y).2.2, wd', s, w) ∧ MW c (rdV c 6 y).2.2 nb' wd' := by
  rw [rdV6]
  obtain ⟨nb0, wd0, e0, m0⟩ := mm_no (x := y) (l := 0) (H := 19) hN h hp (by decide) (by decide) nb hm
  have g0 : F_X12_reads N 0 19 (nI (tE c y.2.2)) y.1 y.2.1 (nI (tQ c y.2.2)) (nI L) nb (tK c y.2.2) wd b = some ((if (sNo c 0 19 y).1 = 0 then nI (tV c y.2.2) else nI 0), nI (tE c (sNo c 0 19 y).2.2), (sNo c 0 19 y).1, (sNo c 0 19 y).2.1, nI (tQ c (sNo c 0 19 y).2.2), nb0, tK c (sNo c 0 19 y).2.2, wd0) := e0
  refine ⟨nb0, wd0, ?_, m0⟩
  unfold F_X12_does
  rw [if_neg (show ¬ lg_cmp (Int64.ofNat (vW 6)) (Int64.ofNat 408612) = 0 by decide), if_neg (show ¬ lg_cmp (Int64.ofNat (vW 6)) (Int64.ofNat 13098162) = 0 by decide), if_neg (show ¬ lg_cmp (Int64.ofNat (vW 6)) (Int64.ofNat 206405) = 0 by decide), if_neg (show ¬ lg_cmp (Int64.ofNat (vW 6)) (Int64.ofNat 234546) = 0 by decide), if_neg (show ¬ lg_cmp (Int64.ofNat (vW 6)) (Int64.ofNat 763332) = 0 by decide), if_pos (show lg_cmp (Int64.ofNat (vW 6)) (Int64.ofNat 628108) = 0 by decide)]
  unfold F_X12_does_b99
  rw [if_pos (show lg_cmp (Int64.ofNat (vW 6)) (Int64.ofNat 628108) = 0 by decide)]
  unfold F_X12_does_b113
  unfold F_X12_sackText
  rw [g0, Option.bind_some]
  dsimp only
  rw [ac_0, Option.bind_some, if_pos rfl]
  simp only [Option.bind_some]
theorem m_does0_7 (hN : 1000 ≤ N) (h : TX L b c) (hp : y.2.2 ≤ L) (nb dn ov : Int32) {wd : Int64} (hm : MW c y.2.2 nb wd) (s w : Nat → Int32) : ∃ nb' wd', F_X12_does N (Int64.ofNat (vW 7)) (nI (tE c y.2.2)) y.1 y.2.1 (nI (tQ c y.2.2)) dn 0 ov (nI L) nb (tK c y.2.2) wd s b w = some ((), nI (tE c (rdV c 7 y).2.2), (rdV c 7 y).1, (rdV c 7 y).2.1, nI (tQ c (rdV c 7 y).2.2), dn, ov, nb', tK c (rdV c 7 y).2.2, wd', s, w) ∧ MW c (rdV c 7 y).2.2 nb' wd' := by
  rw [rdV7]
  obtain ⟨nb0, wd0, e0, m0⟩ := mm_no (x := y) (l := 0) (H := 19) hN h hp (by decide) (by decide) nb hm
  have g0 : F_X12_reads N 0 19 (nI (tE c y.2.2)) y.1 y.2.1 (nI (tQ c y.2.2)) (nI L) nb (tK c y.2.2) wd b = some ((if (sNo c 0 19 y).1 = 0 then nI (tV c y.2.2) else nI 0), nI (tE c (sNo c 0 19 y).2.2), (sNo c 0 19 y).1, (sNo c 0 19 y).2.1, nI (tQ c (sNo c 0 19 y).2.2), nb0, tK c (sNo c 0 19 y).2.2, wd0) := e0
  refine ⟨nb0, wd0, ?_, m0⟩
  unfold F_X12_does
  rw [if_neg (show ¬ lg_cmp (Int64.ofNat (vW 7)) (Int64.ofNat 408612) = 0 by decide), if_neg (show ¬ lg_cmp (Int64.ofNat (vW 7)) (Int64.ofNat 13098162) = 0 by decide), if_neg (show ¬ lg_cmp (Int64.ofNat (vW 7)) (Int64.ofNat 206405) = 0 by decide), if_neg (show ¬ lg_cmp (Int64.ofNat (vW 7)) (Int64.ofNat 234546) = 0 by decide), if_neg (show ¬ lg_cmp (Int64.ofNat (vW 7)) (Int64.ofNat 763332) = 0 by decide), if_neg (show ¬ lg_cmp (Int64.ofNat (vW 7)) (Int64.ofNat 628108) = 0 by decide), if_pos (show lg_cmp (Int64.ofNat (vW 7)) (Int64.ofNat 592623720) = 0 by decide)]
  unfold F_X12_does_b99
  rw [if_neg (show ¬ lg_cmp (Int64.ofNat (vW 7)) (Int64.ofNat 628108) = 0 by decide)]
  unfold F_X12_does_b113
  unfold F_X12_sackText
  rw [g0, Option.bind_some]
  dsimp only
  rw [ac_0, Option.bind_some, if_pos rfl]
  simp only [Option.bind_some]
theorem m_does0_8 (hN : 1000 ≤ N) (h : TX L b c) (hp : y.2.2 ≤ L) (nb dn ov : Int32) {wd : Int64} (hm : MW c y.2.2 nb wd) (s w : Nat → Int32) : ∃ nb' wd', F_X12_does N (Int64.ofNat (vW 8)) (nI (tE c y.2.2)) y.1 y.2.1 (nI (tQ c y.2.2)) dn 0 ov (nI L) nb (tK c y.2.2) wd s b w = some ((), nI (tE c (rdV c 8 y).2.2), (rdV c 8 y).1, (rdV c 8 y).2.1, nI (tQ c (rdV c 8 y).2.2), dn, ov, nb', tK c (rdV c 8 y).2.2, wd', s, w) ∧ MW c (rdV c 8 y).2.2 nb' wd' := by
  rw [rdV8]
  obtain ⟨nb0, wd0, e0, m0⟩ := mm_no (x := y) (l := 1) (H := 120) hN h hp (by decide) (by decide) nb hm
  have g0 : F_X12_reads N 1 120 (nI (tE c y.2.2)) y.1 y.2.1 (nI (tQ c y.2.2)) (nI L) nb (tK c y.2.2) wd b = some ((if (sNo c 1 120 y).1 = 0 then nI (tV c y.2.2) else nI 1), nI (tE c (sNo c 1 120 y).2.2), (sNo c 1 120 y).1, (sNo c 1 120 y).2.1, nI (tQ c (sNo c 1 120 y).2.2), nb0, tK c (sNo c 1 120 y).2.2, wd0) := e0
  refine ⟨nb0, wd0, ?_, m0⟩
  unfold F_X12_does
  rw [if_neg (show ¬ lg_cmp (Int64.ofNat (vW 8)) (Int64.ofNat 408612) = 0 by decide), if_neg (show ¬ lg_cmp (Int64.ofNat (vW 8)) (Int64.ofNat 13098162) = 0 by decide), if_neg (show ¬ lg_cmp (Int64.ofNat (vW 8)) (Int64.ofNat 206405) = 0 by decide), if_neg (show ¬ lg_cmp (Int64.ofNat (vW 8)) (Int64.ofNat 234546) = 0 by decide), if_neg (show ¬ lg_cmp (Int64.ofNat (vW 8)) (Int64.ofNat 763332) = 0 by decide), if_neg (show ¬ lg_cmp (Int64.ofNat (vW 8)) (Int64.ofNat 628108) = 0 by decide), if_neg (show ¬ lg_cmp (Int64.ofNat (vW 8)) (Int64.ofNat 592623720) = 0 by decide), if_pos (show lg_cmp (Int64.ofNat (vW 8)) (Int64.ofNat 754996) = 0 by decide)]
  unfold F_X12_waitText
  rw [g0, Option.bind_some]
  dsimp only
  rw [ac_0, Option.bind_some, if_pos rfl]
  simp only [Option.bind_some]
theorem m_does0 (hN : 1000 ≤ N) (h : TX L b c) (hp : y.2.2 ≤ L) (nb dn ov : Int32) {wd : Int64} (hm : MW c y.2.2 nb wd) (s w : Nat → Int32) : ∀ v, v < 9 → ∃ nb' wd', F_X12_does N (Int64.ofNat (vW v)) (nI (tE c y.2.2)) y.1 y.2.1 (nI (tQ c y.2.2)) dn 0 ov (nI L) nb (tK c y.2.2) wd s b w = some ((), nI (tE c (rdV c v y).2.2), (rdV c v y).1, (rdV c v y).2.1, nI (tQ c (rdV c v y).2.2), dn, ov, nb', tK c (rdV c v y).2.2, wd', s, w) ∧ MW c (rdV c v y).2.2 nb' wd' := by
  intro v hv
  match v, hv with
  | 0, _ => exact m_does0_0 hN h hp nb dn ov hm s w
  | 1, _ => exact m_does0_1 hN h hp nb dn ov hm s w
  | 2, _ => exact m_does0_2 hN h hp nb dn ov hm s w
  | 3, _ => exact m_does0_3 hN h hp nb dn ov hm s w
  | 4, _ => exact m_does0_4 hN h hp nb dn ov hm s w
  | 5, _ => exact m_does0_5 hN h hp nb dn ov hm s w
  | 6, _ => exact m_does0_6 hN h hp nb dn ov hm s w
  | 7, _ => exact m_does0_7 hN h hp nb dn ov hm s w
  | 8, _ => exact m_does0_8 hN h hp nb dn ov hm s w
theorem m_does1_0 (hN : 1000 ≤ N) (h : TX L b c) (hp : y.2.2 ≤ L) (nb dn : Int32) {wd : Int64} (hm : MW c y.2.2 nb wd) {s w s1 w1 : Nat → Int32} {is : Bool} : (rdV c 0 y).1 = 0 → MA N 0 (rA c 0 y) (rB c 0 y) s w is s1 w1 → ∃ nb' wd', F_X12_does N (Int64.ofNat (vW 0)) (nI (tE c y.2.2)) y.1 y.2.1 (nI (tQ c y.2.2)) dn 1 0 (nI L) nb (tK c y.2.2) wd s b w = some ((), nI (tE c (rdV c 0 y).2.2), (rdV c 0 y).1, (rdV c 0 y).2.1, nI (tQ c (rdV c 0 y).2.2), dnX is dn, ovX is dn, nb', tK c (rdV c 0 y).2.2, wd', s1, w1) ∧ MW c (rdV c 0 y).2.2 nb' wd' := by
  intro hz hma
  rw [rdV0] at hz ⊢
  rw [rA0, rB0] at hma
  obtain ⟨nb0, wd0, e0, m0⟩ := mm_no (x := y) (l := 1) (H := 99) hN h hp (by decide) (by decide) nb hm
  have q0 := sNo_0 (x := sNo c 1 99 y) hz
  have v0 : (if (sNo c 1 99 y).1 = 0 then nI (tV c y.2.2) else nI 1) = kV 1 99 c y.2.2 := by rw [if_pos (show (sNo c 1 99 y).1 = 0 from q0.1), kV_eq (sNo_0 (x := y) q0.1).2.1 (sNo_0 (x := y) q0.1).2.2]
  rw [v0] at e0
  have g0 : F_X12_reads N 1 99 (nI (tE c y.2.2)) y.1 y.2.1 (nI (tQ c y.2.2)) (nI L) nb (tK c y.2.2) wd b = some ((kV 1 99 c y.2.2), nI (tE c (sNo c 1 99 y).2.2), (sNo c 1 99 y).1, (sNo c 1 99 y).2.1, nI (tQ c (sNo c 1 99 y).2.2), nb0, tK c (sNo c 1 99 y).2.2, wd0) := e0
  obtain ⟨nb1, wd1, e1, m1⟩ := mm_no (x := (sNo c 1 99 y)) (l := 0) (H := 800) hN h (sNo_le h hp) (by decide) (by decide) nb0 m0
  have v1 : (if (sNo c 0 800 (sNo c 1 99 y)).1 = 0 then nI (tV c (sNo c 1 99 y).2.2) else nI 0) = kV 0 800 c (sNo c 1 99 y).2.2 := by rw [if_pos (show (sNo c 0 800 (sNo c 1 99 y)).1 = 0 from hz), kV_eq (sNo_0 (x := (sNo c 1 99 y)) hz).2.1 (sNo_0 (x := (sNo c 1 99 y)) hz).2.2]
  rw [v1] at e1
  have g1 : F_X12_reads N 0 800 (nI (tE c (sNo c 1 99 y).2.2)) (sNo c 1 99 y).1 (sNo c 1 99 y).2.1 (nI (tQ c (sNo c 1 99 y).2.2)) (nI L) nb0 (tK c (sNo c 1 99 y).2.2) wd0 b = some ((kV 0 800 c (sNo c 1 99 y).2.2), nI (tE c (sNo c 0 800 (sNo c 1 99 y)).2.2), (sNo c 0 800 (sNo c 1 99 y)).1, (sNo c 0 800 (sNo c 1 99 y)).2.1, nI (tQ c (sNo c 0 800 (sNo c 1 99 y)).2.2), nb1, tK c (sNo c 0 800 (sNo c 1 99 y)).2.2, wd1) := e1
  refine ⟨nb1, wd1, ?_, m1⟩
  unfold F_X12_does
  rw [if_pos (show lg_cmp (Int64.ofNat (vW 0)) (Int64.ofNat 408612) = 0 by decide)]
  have hz' : (sNo c 0 800 (sNo c 1 99 y)).1 = 0 := hz
  unfold F_X12_putText
  rw [g0, Option.bind_some]
  dsimp only
  rw [g1, Option.bind_some]
  dsimp only
  rw [hz', ac_1, Option.bind_some, if_neg (by decide)]
  obtain ⟨l, a1, ⟨rfl, rfl, rfl, sa, a2, a3⟩ | ⟨hl, rfl, rfl, rfl⟩⟩ := hma
  · rw [tn6, a1, Option.bind_some, if_pos rfl]
    unfold F_X12_putText_b45 F_X12_putText_b65
    rw [if_neg (by decide), tn6, show F_X12_lays (s 6 - 1) (kV 1 99 c y.2.2) (kV 0 800 c (sNo c 1 99 y).2.2) s = some ((), sa) from a2, Option.bind_some]
    dsimp only
    rw [came_1 a3, Option.bind_some]
    simp only [Option.bind_some, hz']
    rfl
  · rw [tn6, a1, Option.bind_some, if_neg hl]
    unfold F_X12_putText_b45 F_X12_putText_b65
    rw [if_pos rfl, came_0, Option.bind_some]
    simp only [Option.bind_some, hz']
    rfl
theorem m_does1_1 (hN : 1000 ≤ N) (h : TX L b c) (hp : y.2.2 ≤ L) (nb dn : Int32) {wd : Int64} (hm : MW c y.2.2 nb wd) {s w s1 w1 : Nat → Int32} {is : Bool} : (rdV c 1 y).1 = 0 → MA N 1 (rA c 1 y) (rB c 1 y) s w is s1 w1 → ∃ nb' wd', F_X12_does N (Int64.ofNat (vW 1)) (nI (tE c y.2.2)) y.1 y.2.1 (nI (tQ c y.2.2)) dn 1 0 (nI L) nb (tK c y.2.2) wd s b w = some ((), nI (tE c (rdV c 1 y).2.2), (rdV c 1 y).1, (rdV c 1 y).2.1, nI (tQ c (rdV c 1 y).2.2), dnX is dn, ovX is dn, nb', tK c (rdV c 1 y).2.2, wd', s1, w1) ∧ MW c (rdV c 1 y).2.2 nb' wd' := by
  intro hz hma
  rw [rdV1] at hz ⊢
  rw [rA1, rB1] at hma
  obtain ⟨nb0, wd0, e0, m0⟩ := mm_no (x := y) (l := 0) (H := 3) hN h hp (by decide) (by decide) nb hm
  have v0 : (if (sNo c 0 3 y).1 = 0 then nI (tV c y.2.2) else nI 0) = kV 0 3 c y.2.2 := by rw [if_pos (show (sNo c 0 3 y).1 = 0 from hz), kV_eq (sNo_0 (x := y) hz).2.1 (sNo_0 (x := y) hz).2.2]
  rw [v0] at e0
  have g0 : F_X12_reads N 0 3 (nI (tE c y.2.2)) y.1 y.2.1 (nI (tQ c y.2.2)) (nI L) nb (tK c y.2.2) wd b = some ((kV 0 3 c y.2.2), nI (tE c (sNo c 0 3 y).2.2), (sNo c 0 3 y).1, (sNo c 0 3 y).2.1, nI (tQ c (sNo c 0 3 y).2.2), nb0, tK c (sNo c 0 3 y).2.2, wd0) := e0
  refine ⟨nb0, wd0, ?_, m0⟩
  unfold F_X12_does
  rw [if_neg (show ¬ lg_cmp (Int64.ofNat (vW 1)) (Int64.ofNat 408612) = 0 by decide), if_pos (show lg_cmp (Int64.ofNat (vW 1)) (Int64.ofNat 13098162) = 0 by decide)]
  have hz' : (sNo c 0 3 y).1 = 0 := hz
  unfold F_X12_lowerText
  rw [g0, Option.bind_some]
  dsimp only
  rw [hz', ac_1, Option.bind_some, if_neg (by decide)]
  rcases hma with ⟨hl, rfl, rfl, rfl⟩ | ⟨hl, l, a1, ⟨rfl, rfl, rfl, m, sa, a2, a3⟩ | ⟨hl2, rfl, rfl, rfl⟩⟩
  · rw [tn6, if_pos (show _ ≤ kV 0 3 c y.2.2 from hl)]
    unfold F_X12_lowerText_b37 F_X12_lowerText_b38 F_X12_lowerText_b52
    rw [if_pos rfl, came_0, Option.bind_some]
    simp only [Option.bind_some, hz']
    rfl
  · rw [tn6, if_neg (show ¬ s 6 ≤ kV 0 3 c y.2.2 from hl), show F_X12_why (kV 0 3 c y.2.2) s = some 0 from a1, Option.bind_some, if_pos rfl]
    unfold F_X12_lowerText_b38 F_X12_lowerText_b52
    rw [if_neg (by decide), show F_X12_lowers N (kV 0 3 c y.2.2) s = some (m, sa) from a2, Option.bind_some]
    dsimp only
    rw [came_1 a3, Option.bind_some]
    simp only [Option.bind_some, hz']
    rfl
  · rw [tn6, if_neg (show ¬ _ ≤ kV 0 3 c y.2.2 from hl), show F_X12_why (kV 0 3 c y.2.2) _ = some l from a1, Option.bind_some, if_neg hl2]
    unfold F_X12_lowerText_b37 F_X12_lowerText_b38 F_X12_lowerText_b52
    rw [if_pos rfl, came_0, Option.bind_some]
    simp only [Option.bind_some, hz']
    rfl
theorem m_does1_2 (hN : 1000 ≤ N) (h : TX L b c) (hp : y.2.2 ≤ L) (nb dn : Int32) {wd : Int64} (hm : MW c y.2.2 nb wd) {s w s1 w1 : Nat → Int32} {is : Bool} : (rdV c 2 y).1 = 0 → MA N 2 (rA c 2 y) (rB c 2 y) s w is s1 w1 → ∃ nb' wd', F_X12_does N (Int64.ofNat (vW 2)) (nI (tE c y.2.2)) y.1 y.2.1 (nI (tQ c y.2.2)) dn 1 0 (nI L) nb (tK c y.2.2) wd s b w = some ((), nI (tE c (rdV c 2 y).2.2), (rdV c 2 y).1, (rdV c 2 y).2.1, nI (tQ c (rdV c 2 y).2.2), dnX is dn, ovX is dn, nb', tK c (rdV c 2 y).2.2, wd', s1, w1) ∧ MW c (rdV c 2 y).2.2 nb' wd' := by
  intro hz hma
  rw [rdV2] at hz ⊢
  rw [rA2, rB2] at hma
  refine ⟨nb, wd, ?_, hm⟩
  unfold F_X12_does
  rw [if_neg (show ¬ lg_cmp (Int64.ofNat (vW 2)) (Int64.ofNat 408612) = 0 by decide), if_neg (show ¬ lg_cmp (Int64.ofNat (vW 2)) (Int64.ofNat 13098162) = 0 by decide), if_neg (show ¬ lg_cmp (Int64.ofNat (vW 2)) (Int64.ofNat 206405) = 0 by decide), if_neg (show ¬ lg_cmp (Int64.ofNat (vW 2)) (Int64.ofNat 234546) = 0 by decide), if_neg (show ¬ lg_cmp (Int64.ofNat (vW 2)) (Int64.ofNat 763332) = 0 by decide), if_neg (show ¬ lg_cmp (Int64.ofNat (vW 2)) (Int64.ofNat 628108) = 0 by decide), if_neg (show ¬ lg_cmp (Int64.ofNat (vW 2)) (Int64.ofNat 592623720) = 0 by decide), if_neg (show ¬ lg_cmp (Int64.ofNat (vW 2)) (Int64.ofNat 754996) = 0 by decide)]
  obtain ⟨rfl, rfl, m, sa, a1, a2⟩ := hma
  rw [show y.1 = 0 from hz, ac_1, Option.bind_some, if_neg (by decide), a1, Option.bind_some]
  dsimp only
  rw [came_1 a2, Option.bind_some]
  rfl
theorem m_does1_3 (hN : 1000 ≤ N) (h : TX L b c) (hp : y.2.2 ≤ L) (nb dn : Int32) {wd : Int64} (hm : MW c y.2.2 nb wd) {s w s1 w1 : Nat → Int32} {is : Bool} : (rdV c 3 y).1 = 0 → MA N 3 (rA c 3 y) (rB c 3 y) s w is s1 w1 → ∃ nb' wd', F_X12_does N (Int64.ofNat (vW 3)) (nI (tE c y.2.2)) y.1 y.2.1 (nI (tQ c y.2.2)) dn 1 0 (nI L) nb (tK c y.2.2) wd s b w = some ((), nI (tE c (rdV c 3 y).2.2), (rdV c 3 y).1, (rdV c 3 y).2.1, nI (tQ c (rdV c 3 y).2.2), dnX is dn, ovX is dn, nb', tK c (rdV c 3 y).2.2, wd', s1, w1) ∧ MW c (rdV c 3 y).2.2 nb' wd' := by
  intro hz hma
  rw [rdV3] at hz ⊢
  rw [rA3, rB3] at hma
  obtain ⟨nb0, wd0, e0, m0⟩ := mm_no (x := y) (l := 0) (H := 90) hN h hp (by decide) (by decide) nb hm
  have v0 : (if (sNo c 0 90 y).1 = 0 then nI (tV c y.2.2) else nI 0) = kV 0 90 c y.2.2 := by rw [if_pos (show (sNo c 0 90 y).1 = 0 from hz), kV_eq (sNo_0 (x := y) hz).2.1 (sNo_0 (x := y) hz).2.2]
  rw [v0] at e0
  have g0 : F_X12_reads N 0 90 (nI (tE c y.2.2)) y.1 y.2.1 (nI (tQ c y.2.2)) (nI L) nb (tK c y.2.2) wd b = some ((kV 0 90 c y.2.2), nI (tE c (sNo c 0 90 y).2.2), (sNo c 0 90 y).1, (sNo c 0 90 y).2.1, nI (tQ c (sNo c 0 90 y).2.2), nb0, tK c (sNo c 0 90 y).2.2, wd0) := e0
  refine ⟨nb0, wd0, ?_, m0⟩
  unfold F_X12_does
  rw [if_neg (show ¬ lg_cmp (Int64.ofNat (vW 3)) (Int64.ofNat 408612) = 0 by decide), if_neg (show ¬ lg_cmp (Int64.ofNat (vW 3)) (Int64.ofNat 13098162) = 0 by decide), if_pos (show lg_cmp (Int64.ofNat (vW 3)) (Int64.ofNat 206405) = 0 by decide)]
  have hz' : (sNo c 0 90 y).1 = 0 := hz
  unfold F_X12_setsText
  rw [g0, Option.bind_some]
  dsimp only
  rw [if_neg (show ¬ (1 : Int32) = 3 by decide)]
  unfold F_X12_setsText_b23
  rw [hz', ac_1, Option.bind_some, if_neg (by decide)]
  obtain ⟨rfl, rfl, a1⟩ := hma
  rw [if_pos (by decide), if_neg (show ¬ (1 : Int32) = 3 by decide)]
  unfold F_X12_setsText_b60
  rw [if_pos (by decide), tn4, tn1, upd_id (g := upd s 1 (kV 0 90 c y.2.2)) (i := 4) rfl, came_1 (show F_X12_damps N (upd s 1 (kV 0 90 c y.2.2)) = some ((), s1) from a1), Option.bind_some]
  simp only [Option.bind_some, hz']
  rfl
theorem m_does1_4 (hN : 1000 ≤ N) (h : TX L b c) (hp : y.2.2 ≤ L) (nb dn : Int32) {wd : Int64} (hm : MW c y.2.2 nb wd) {s w s1 w1 : Nat → Int32} {is : Bool} : (rdV c 4 y).1 = 0 → MA N 4 (rA c 4 y) (rB c 4 y) s w is s1 w1 → ∃ nb' wd', F_X12_does N (Int64.ofNat (vW 4)) (nI (tE c y.2.2)) y.1 y.2.1 (nI (tQ c y.2.2)) dn 1 0 (nI L) nb (tK c y.2.2) wd s b w = some ((), nI (tE c (rdV c 4 y).2.2), (rdV c 4 y).1, (rdV c 4 y).2.1, nI (tQ c (rdV c 4 y).2.2), dnX is dn, ovX is dn, nb', tK c (rdV c 4 y).2.2, wd', s1, w1) ∧ MW c (rdV c 4 y).2.2 nb' wd' := by
  intro hz hma
  rw [rdV4] at hz ⊢
  rw [rA4, rB4] at hma
  obtain ⟨nb0, wd0, e0, m0⟩ := mm_no (x := y) (l := 0) (H := 4) hN h hp (by decide) (by decide) nb hm
  have v0 : (if (sNo c 0 4 y).1 = 0 then nI (tV c y.2.2) else nI 0) = kV 0 4 c y.2.2 := by rw [if_pos (show (sNo c 0 4 y).1 = 0 from hz), kV_eq (sNo_0 (x := y) hz).2.1 (sNo_0 (x := y) hz).2.2]
  rw [v0] at e0
  have g0 : F_X12_reads N 0 4 (nI (tE c y.2.2)) y.1 y.2.1 (nI (tQ c y.2.2)) (nI L) nb (tK c y.2.2) wd b = some ((kV 0 4 c y.2.2), nI (tE c (sNo c 0 4 y).2.2), (sNo c 0 4 y).1, (sNo c 0 4 y).2.1, nI (tQ c (sNo c 0 4 y).2.2), nb0, tK c (sNo c 0 4 y).2.2, wd0) := e0
  refine ⟨nb0, wd0, ?_, m0⟩
  unfold F_X12_does
  rw [if_neg (show ¬ lg_cmp (Int64.ofNat (vW 4)) (Int64.ofNat 408612) = 0 by decide), if_neg (show ¬ lg_cmp (Int64.ofNat (vW 4)) (Int64.ofNat 13098162) = 0 by decide), if_neg (show ¬ lg_cmp (Int64.ofNat (vW 4)) (Int64.ofNat 206405) = 0 by decide), if_pos (show lg_cmp (Int64.ofNat (vW 4)) (Int64.ofNat 234546) = 0 by decide)]
  have hz' : (sNo c 0 4 y).1 = 0 := hz
  unfold F_X12_setsText
  rw [g0, Option.bind_some]
  dsimp only
  rw [if_neg (show ¬ (2 : Int32) = 3 by decide)]
  unfold F_X12_setsText_b23
  rw [hz', ac_1, Option.bind_some, if_neg (by decide)]
  obtain ⟨rfl, rfl, a1⟩ := hma
  rw [if_pos (by decide), if_neg (show ¬ (2 : Int32) = 3 by decide)]
  unfold F_X12_setsText_b60
  rw [if_pos (by decide), tn4, tn2, upd_id (g := upd s 2 (kV 0 4 c y.2.2)) (i := 4) rfl, came_1 (show F_X12_damps N (upd s 2 (kV 0 4 c y.2.2)) = some ((), s1) from a1), Option.bind_some]
  simp only [Option.bind_some, hz']
  rfl
theorem m_does1_5 (hN : 1000 ≤ N) (h : TX L b c) (hp : y.2.2 ≤ L) (nb dn : Int32) {wd : Int64} (hm : MW c y.2.2 nb wd) {s w s1 w1 : Nat → Int32} {is : Bool} : (rdV c 5 y).1 = 0 → MA N 5 (rA c 5 y) (rB c 5 y) s w is s1 w1 → ∃ nb' wd', F_X12_does N (Int64.ofNat (vW 5)) (nI (tE c y.2.2)) y.1 y.2.1 (nI (tQ c y.2.2)) dn 1 0 (nI L) nb (tK c y.2.2) wd s b w = some ((), nI (tE c (rdV c 5 y).2.2), (rdV c 5 y).1, (rdV c 5 y).2.1, nI (tQ c (rdV c 5 y).2.2), dnX is dn, ovX is dn, nb', tK c (rdV c 5 y).2.2, wd', s1, w1) ∧ MW c (rdV c 5 y).2.2 nb' wd' := by
  intro hz hma
  rw [rdV5] at hz ⊢
  rw [rA5, rB5] at hma
  obtain ⟨nb0, wd0, e0, m0⟩ := mm_no (x := y) (l := 0) (H := 7) hN h hp (by decide) (by decide) nb hm
  have q0 := sNo_0 (x := sNo c 0 7 y) hz
  have v0 : (if (sNo c 0 7 y).1 = 0 then nI (tV c y.2.2) else nI 0) = kV 0 7 c y.2.2 := by rw [if_pos (show (sNo c 0 7 y).1 = 0 from q0.1), kV_eq (sNo_0 (x := y) q0.1).2.1 (sNo_0 (x := y) q0.1).2.2]
  rw [v0] at e0
  have g0 : F_X12_reads N 0 7 (nI (tE c y.2.2)) y.1 y.2.1 (nI (tQ c y.2.2)) (nI L) nb (tK c y.2.2) wd b = some ((kV 0 7 c y.2.2), nI (tE c (sNo c 0 7 y).2.2), (sNo c 0 7 y).1, (sNo c 0 7 y).2.1, nI (tQ c (sNo c 0 7 y).2.2), nb0, tK c (sNo c 0 7 y).2.2, wd0) := e0
  obtain ⟨nb1, wd1, e1, m1⟩ := mm_no (x := (sNo c 0 7 y)) (l := 0) (H := 9) hN h (sNo_le h hp) (by decide) (by decide) nb0 m0
  have v1 : (if (sNo c 0 9 (sNo c 0 7 y)).1 = 0 then nI (tV c (sNo c 0 7 y).2.2) else nI 0) = kV 0 9 c (sNo c 0 7 y).2.2 := by rw [if_pos (show (sNo c 0 9 (sNo c 0 7 y)).1 = 0 from hz), kV_eq (sNo_0 (x := (sNo c 0 7 y)) hz).2.1 (sNo_0 (x := (sNo c 0 7 y)) hz).2.2]
  rw [v1] at e1
  have g1 : F_X12_reads N 0 9 (nI (tE c (sNo c 0 7 y).2.2)) (sNo c 0 7 y).1 (sNo c 0 7 y).2.1 (nI (tQ c (sNo c 0 7 y).2.2)) (nI L) nb0 (tK c (sNo c 0 7 y).2.2) wd0 b = some ((kV 0 9 c (sNo c 0 7 y).2.2), nI (tE c (sNo c 0 9 (sNo c 0 7 y)).2.2), (sNo c 0 9 (sNo c 0 7 y)).1, (sNo c 0 9 (sNo c 0 7 y)).2.1, nI (tQ c (sNo c 0 9 (sNo c 0 7 y)).2.2), nb1, tK c (sNo c 0 9 (sNo c 0 7 y)).2.2, wd1) := e1
  refine ⟨nb1, wd1, ?_, m1⟩
  unfold F_X12_does
  rw [if_neg (show ¬ lg_cmp (Int64.ofNat (vW 5)) (Int64.ofNat 408612) = 0 by decide), if_neg (show ¬ lg_cmp (Int64.ofNat (vW 5)) (Int64.ofNat 13098162) = 0 by decide), if_neg (show ¬ lg_cmp (Int64.ofNat (vW 5)) (Int64.ofNat 206405) = 0 by decide), if_neg (show ¬ lg_cmp (Int64.ofNat (vW 5)) (Int64.ofNat 234546) = 0 by decide), if_pos (show lg_cmp (Int64.ofNat (vW 5)) (Int64.ofNat 763332) = 0 by decide)]
  have hz' : (sNo c 0 9 (sNo c 0 7 y)).1 = 0 := hz
  unfold F_X12_setsText
  rw [g0, Option.bind_some]
  dsimp only
  rw [if_pos (show (3 : Int32) = 3 from rfl)]
  rw [g1, Option.bind_some]
  dsimp only
  unfold F_X12_setsText_b23
  rw [hz', ac_1, Option.bind_some, if_neg (by decide)]
  obtain ⟨rfl, rfl, a1⟩ := hma
  rw [if_pos (by decide), if_pos (show (3 : Int32) = 3 from rfl)]
  unfold F_X12_setsText_b60
  rw [if_pos (by decide), tn4, tn3, came_1 (show F_X12_damps N (upd (upd s 3 (kV 0 7 c y.2.2)) 4 (kV 0 9 c (sNo c 0 7 y).2.2)) = some ((), s1) from a1), Option.bind_some]
  simp only [Option.bind_some, hz']
  rfl
theorem m_does1_6 (hN : 1000 ≤ N) (h : TX L b c) (hp : y.2.2 ≤ L) (nb dn : Int32) {wd : Int64} (hm : MW c y.2.2 nb wd) {s w s1 w1 : Nat → Int32} {is : Bool} : (rdV c 6 y).1 = 0 → MA N 6 (rA c 6 y) (rB c 6 y) s w is s1 w1 → ∃ nb' wd', F_X12_does N (Int64.ofNat (vW 6)) (nI (tE c y.2.2)) y.1 y.2.1 (nI (tQ c y.2.2)) dn 1 0 (nI L) nb (tK c y.2.2) wd s b w = some ((), nI (tE c (rdV c 6 y).2.2), (rdV c 6 y).1, (rdV c 6 y).2.1, nI (tQ c (rdV c 6 y).2.2), dnX is dn, ovX is dn, nb', tK c (rdV c 6 y).2.2, wd', s1, w1) ∧ MW c (rdV c 6 y).2.2 nb' wd' := by
  intro hz hma
  rw [rdV6] at hz ⊢
  rw [rA6, rB6] at hma
  obtain ⟨nb0, wd0, e0, m0⟩ := mm_no (x := y) (l := 0) (H := 19) hN h hp (by decide) (by decide) nb hm
  have v0 : (if (sNo c 0 19 y).1 = 0 then nI (tV c y.2.2) else nI 0) = kV 0 19 c y.2.2 := by rw [if_pos (show (sNo c 0 19 y).1 = 0 from hz), kV_eq (sNo_0 (x := y) hz).2.1 (sNo_0 (x := y) hz).2.2]
  rw [v0] at e0
  have g0 : F_X12_reads N 0 19 (nI (tE c y.2.2)) y.1 y.2.1 (nI (tQ c y.2.2)) (nI L) nb (tK c y.2.2) wd b = some ((kV 0 19 c y.2.2), nI (tE c (sNo c 0 19 y).2.2), (sNo c 0 19 y).1, (sNo c 0 19 y).2.1, nI (tQ c (sNo c 0 19 y).2.2), nb0, tK c (sNo c 0 19 y).2.2, wd0) := e0
  refine ⟨nb0, wd0, ?_, m0⟩
  unfold F_X12_does
  rw [if_neg (show ¬ lg_cmp (Int64.ofNat (vW 6)) (Int64.ofNat 408612) = 0 by decide), if_neg (show ¬ lg_cmp (Int64.ofNat (vW 6)) (Int64.ofNat 13098162) = 0 by decide), if_neg (show ¬ lg_cmp (Int64.ofNat (vW 6)) (Int64.ofNat 206405) = 0 by decide), if_neg (show ¬ lg_cmp (Int64.ofNat (vW 6)) (Int64.ofNat 234546) = 0 by decide), if_neg (show ¬ lg_cmp (Int64.ofNat (vW 6)) (Int64.ofNat 763332) = 0 by decide), if_pos (show lg_cmp (Int64.ofNat (vW 6)) (Int64.ofNat 628108) = 0 by decide)]
  have hz' : (sNo c 0 19 y).1 = 0 := hz
  unfold F_X12_does_b99
  rw [if_pos (show lg_cmp (Int64.ofNat (vW 6)) (Int64.ofNat 628108) = 0 by decide)]
  unfold F_X12_does_b113
  unfold F_X12_sackText
  rw [g0, Option.bind_some]
  dsimp only
  rw [hz', ac_1, Option.bind_some, if_neg (by decide)]
  obtain ⟨st, a1, ⟨rfl, rfl, rfl, rfl⟩ | ⟨hs, sm, a2, ⟨rfl, rfl, rfl, m, sa, a3, a4⟩ | ⟨hs2, rfl, rfl, rfl⟩⟩⟩ := hma
  · rw [show F_X12_isStored (kV 0 19 c y.2.2) _ = some 0 from a1, Option.bind_some, if_pos rfl]
    unfold F_X12_sackText_b39 F_X12_sackText_b40 F_X12_sackText_b66
    rw [if_pos rfl, came_0, Option.bind_some]
    simp only [Option.bind_some, hz']
    rfl
  · rw [show F_X12_isStored (kV 0 19 c y.2.2) _ = some st from a1, Option.bind_some, if_neg hs, if_neg (show ¬ (1 : Int32) = 0 by decide), show F_X12_smoulders (kV 0 19 c y.2.2) s = some 0 from a2, Option.bind_some, if_pos rfl]
    unfold F_X12_sackText_b35 F_X12_sackText_b40 F_X12_sackText_b66
    rw [if_neg (by decide), if_neg (show ¬ (1 : Int32) = 0 by decide), show F_X12_sells (kV 0 19 c y.2.2) s = some (m, sa) from a3, Option.bind_some]
    dsimp only
    rw [came_1 a4, Option.bind_some]
    simp only [Option.bind_some, hz']
    rfl
  · rw [show F_X12_isStored (kV 0 19 c y.2.2) _ = some st from a1, Option.bind_some, if_neg hs, if_neg (show ¬ (1 : Int32) = 0 by decide), show F_X12_smoulders (kV 0 19 c y.2.2) _ = some sm from a2, Option.bind_some, if_neg hs2]
    unfold F_X12_sackText_b39 F_X12_sackText_b40 F_X12_sackText_b66
    rw [if_pos rfl, came_0, Option.bind_some]
    simp only [Option.bind_some, hz']
    rfl
theorem m_does1_7 (hN : 1000 ≤ N) (h : TX L b c) (hp : y.2.2 ≤ L) (nb dn : Int32) {wd : Int64} (hm : MW c y.2.2 nb wd) {s w s1 w1 : Nat → Int32} {is : Bool} : (rdV c 7 y).1 = 0 → MA N 7 (rA c 7 y) (rB c 7 y) s w is s1 w1 → ∃ nb' wd', F_X12_does N (Int64.ofNat (vW 7)) (nI (tE c y.2.2)) y.1 y.2.1 (nI (tQ c y.2.2)) dn 1 0 (nI L) nb (tK c y.2.2) wd s b w = some ((), nI (tE c (rdV c 7 y).2.2), (rdV c 7 y).1, (rdV c 7 y).2.1, nI (tQ c (rdV c 7 y).2.2), dnX is dn, ovX is dn, nb', tK c (rdV c 7 y).2.2, wd', s1, w1) ∧ MW c (rdV c 7 y).2.2 nb' wd' := by
  intro hz hma
  rw [rdV7] at hz ⊢
  rw [rA7, rB7] at hma
  obtain ⟨nb0, wd0, e0, m0⟩ := mm_no (x := y) (l := 0) (H := 19) hN h hp (by decide) (by decide) nb hm
  have v0 : (if (sNo c 0 19 y).1 = 0 then nI (tV c y.2.2) else nI 0) = kV 0 19 c y.2.2 := by rw [if_pos (show (sNo c 0 19 y).1 = 0 from hz), kV_eq (sNo_0 (x := y) hz).2.1 (sNo_0 (x := y) hz).2.2]
  rw [v0] at e0
  have g0 : F_X12_reads N 0 19 (nI (tE c y.2.2)) y.1 y.2.1 (nI (tQ c y.2.2)) (nI L) nb (tK c y.2.2) wd b = some ((kV 0 19 c y.2.2), nI (tE c (sNo c 0 19 y).2.2), (sNo c 0 19 y).1, (sNo c 0 19 y).2.1, nI (tQ c (sNo c 0 19 y).2.2), nb0, tK c (sNo c 0 19 y).2.2, wd0) := e0
  refine ⟨nb0, wd0, ?_, m0⟩
  unfold F_X12_does
  rw [if_neg (show ¬ lg_cmp (Int64.ofNat (vW 7)) (Int64.ofNat 408612) = 0 by decide), if_neg (show ¬ lg_cmp (Int64.ofNat (vW 7)) (Int64.ofNat 13098162) = 0 by decide), if_neg (show ¬ lg_cmp (Int64.ofNat (vW 7)) (Int64.ofNat 206405) = 0 by decide), if_neg (show ¬ lg_cmp (Int64.ofNat (vW 7)) (Int64.ofNat 234546) = 0 by decide), if_neg (show ¬ lg_cmp (Int64.ofNat (vW 7)) (Int64.ofNat 763332) = 0 by decide), if_neg (show ¬ lg_cmp (Int64.ofNat (vW 7)) (Int64.ofNat 628108) = 0 by decide), if_pos (show lg_cmp (Int64.ofNat (vW 7)) (Int64.ofNat 592623720) = 0 by decide)]
  have hz' : (sNo c 0 19 y).1 = 0 := hz
  unfold F_X12_does_b99
  rw [if_neg (show ¬ lg_cmp (Int64.ofNat (vW 7)) (Int64.ofNat 628108) = 0 by decide)]
  unfold F_X12_does_b113
  unfold F_X12_sackText
  rw [g0, Option.bind_some]
  dsimp only
  rw [hz', ac_1, Option.bind_some, if_neg (by decide)]
  obtain ⟨st, a1, ⟨rfl, rfl, rfl, rfl⟩ | ⟨hs, rfl, rfl, m, sa, a3, a4⟩⟩ := hma
  · rw [show F_X12_isStored (kV 0 19 c y.2.2) _ = some 0 from a1, Option.bind_some, if_pos rfl]
    unfold F_X12_sackText_b39 F_X12_sackText_b40 F_X12_sackText_b66
    rw [if_pos rfl, came_0, Option.bind_some]
    simp only [Option.bind_some, hz']
    rfl
  · rw [show F_X12_isStored (kV 0 19 c y.2.2) _ = some st from a1, Option.bind_some, if_neg hs, if_pos rfl]
    unfold F_X12_sackText_b35 F_X12_sackText_b40 F_X12_sackText_b66
    rw [if_neg (by decide), if_pos rfl, show F_X12_quenches (kV 0 19 c y.2.2) s = some (m, sa) from a3, Option.bind_some]
    dsimp only
    rw [came_1 a4, Option.bind_some]
    simp only [Option.bind_some, hz']
    rfl
theorem m_does1_8 (hN : 1000 ≤ N) (h : TX L b c) (hp : y.2.2 ≤ L) (nb dn : Int32) {wd : Int64} (hm : MW c y.2.2 nb wd) {s w s1 w1 : Nat → Int32} {is : Bool} : (rdV c 8 y).1 = 0 → MA N 8 (rA c 8 y) (rB c 8 y) s w is s1 w1 → ∃ nb' wd', F_X12_does N (Int64.ofNat (vW 8)) (nI (tE c y.2.2)) y.1 y.2.1 (nI (tQ c y.2.2)) dn 1 0 (nI L) nb (tK c y.2.2) wd s b w = some ((), nI (tE c (rdV c 8 y).2.2), (rdV c 8 y).1, (rdV c 8 y).2.1, nI (tQ c (rdV c 8 y).2.2), dnX is dn, ovX is dn, nb', tK c (rdV c 8 y).2.2, wd', s1, w1) ∧ MW c (rdV c 8 y).2.2 nb' wd' := by
  intro hz hma
  rw [rdV8] at hz ⊢
  rw [rA8, rB8] at hma
  obtain ⟨nb0, wd0, e0, m0⟩ := mm_no (x := y) (l := 1) (H := 120) hN h hp (by decide) (by decide) nb hm
  have v0 : (if (sNo c 1 120 y).1 = 0 then nI (tV c y.2.2) else nI 1) = kV 1 120 c y.2.2 := by rw [if_pos (show (sNo c 1 120 y).1 = 0 from hz), kV_eq (sNo_0 (x := y) hz).2.1 (sNo_0 (x := y) hz).2.2]
  rw [v0] at e0
  have g0 : F_X12_reads N 1 120 (nI (tE c y.2.2)) y.1 y.2.1 (nI (tQ c y.2.2)) (nI L) nb (tK c y.2.2) wd b = some ((kV 1 120 c y.2.2), nI (tE c (sNo c 1 120 y).2.2), (sNo c 1 120 y).1, (sNo c 1 120 y).2.1, nI (tQ c (sNo c 1 120 y).2.2), nb0, tK c (sNo c 1 120 y).2.2, wd0) := e0
  refine ⟨nb0, wd0, ?_, m0⟩
  unfold F_X12_does
  rw [if_neg (show ¬ lg_cmp (Int64.ofNat (vW 8)) (Int64.ofNat 408612) = 0 by decide), if_neg (show ¬ lg_cmp (Int64.ofNat (vW 8)) (Int64.ofNat 13098162) = 0 by decide), if_neg (show ¬ lg_cmp (Int64.ofNat (vW 8)) (Int64.ofNat 206405) = 0 by decide), if_neg (show ¬ lg_cmp (Int64.ofNat (vW 8)) (Int64.ofNat 234546) = 0 by decide), if_neg (show ¬ lg_cmp (Int64.ofNat (vW 8)) (Int64.ofNat 763332) = 0 by decide), if_neg (show ¬ lg_cmp (Int64.ofNat (vW 8)) (Int64.ofNat 628108) = 0 by decide), if_neg (show ¬ lg_cmp (Int64.ofNat (vW 8)) (Int64.ofNat 592623720) = 0 by decide), if_pos (show lg_cmp (Int64.ofNat (vW 8)) (Int64.ofNat 754996) = 0 by decide)]
  have hz' : (sNo c 1 120 y).1 = 0 := hz
  unfold F_X12_waitText
  rw [g0, Option.bind_some]
  dsimp only
  rw [hz', ac_1, Option.bind_some, if_neg (by decide)]
  rcases hma with ⟨hl, rfl, rfl, rfl⟩ | ⟨hl, rfl, m, sa, a2, a3⟩
  · rw [tn0, if_pos (show 9999 < _ + (kV 1 120 c y.2.2) from hl)]
    unfold F_X12_waitText_b34 F_X12_waitText_b48
    rw [if_pos rfl, came_0, Option.bind_some]
    simp only [Option.bind_some, hz']
    rfl
  · rw [tn0, if_neg (show ¬ 9999 < s 0 + (kV 1 120 c y.2.2) from hl)]
    unfold F_X12_waitText_b34 F_X12_waitText_b48
    rw [if_neg (by decide), show F_X12_minutes1 N (kV 1 120 c y.2.2) s w = some (m, sa, w1) from a2, Option.bind_some]
    dsimp only
    rw [came_1 a3, Option.bind_some]
    simp only [Option.bind_some, hz']
    rfl
theorem m_does1 (hN : 1000 ≤ N) (h : TX L b c) (hp : y.2.2 ≤ L) (nb dn : Int32) {wd : Int64} (hm : MW c y.2.2 nb wd) {s w s1 w1 : Nat → Int32} {is : Bool} : ∀ v, v < 9 → (rdV c v y).1 = 0 → MA N v (rA c v y) (rB c v y) s w is s1 w1 → ∃ nb' wd', F_X12_does N (Int64.ofNat (vW v)) (nI (tE c y.2.2)) y.1 y.2.1 (nI (tQ c y.2.2)) dn 1 0 (nI L) nb (tK c y.2.2) wd s b w = some ((), nI (tE c (rdV c v y).2.2), (rdV c v y).1, (rdV c v y).2.1, nI (tQ c (rdV c v y).2.2), dnX is dn, ovX is dn, nb', tK c (rdV c v y).2.2, wd', s1, w1) ∧ MW c (rdV c v y).2.2 nb' wd' := by
  intro v hv
  match v, hv with
  | 0, _ => exact m_does1_0 hN h hp nb dn hm
  | 1, _ => exact m_does1_1 hN h hp nb dn hm
  | 2, _ => exact m_does1_2 hN h hp nb dn hm
  | 3, _ => exact m_does1_3 hN h hp nb dn hm
  | 4, _ => exact m_does1_4 hN h hp nb dn hm
  | 5, _ => exact m_does1_5 hN h hp nb dn hm
  | 6, _ => exact m_does1_6 hN h hp nb dn hm
  | 7, _ => exact m_does1_7 hN h hp nb dn hm
  | 8, _ => exact m_does1_8 hN h hp nb dn hm
end DOES
