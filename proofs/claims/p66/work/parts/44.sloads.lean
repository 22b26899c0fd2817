/-! PURE: the loads of a setup -/
abbrev WLD : Nat := 408612
def xL1 (c : Nat → Int32) (x : Sg) : Sg := sWd c WLD x
def xL2 (c : Nat → Int32) (n : Nat) (x : Sg) : Sg := sSee c 0 (n - 1) (xL1 c x)
def kFn (c : Nat → Int32) (n : Nat) (x : Sg) : Nat := if bK 2 c (xL1 c x).2.2 = true ∧ bNm 0 (n - 1) c (xL1 c x).2.2 = true then tV c (xL1 c x).2.2 else 0
theorem kFn_nI (c : Nat → Int32) (n : Nat) (x : Sg) : kV 0 (n - 1) c (xL1 c x).2.2 = nI (kFn c n x) := by unfold kV kFn; split <;> rfl
theorem kFn_lt (c : Nat → Int32) {n : Nat} (x : Sg) (h : 1 ≤ n) : kFn c n x < n := by
  unfold kFn
  split
  · rename_i q
    have := (bNm_iff 0 (n - 1) c (xL1 c x).2.2).mp q.2
    omega
  · omega
def xL3 (c : Nat → Int32) (n : Nat) (g : Nat → Int32) (x : Sg) : Sg := sChk c (decide (g (kFn c n x) ≤ 0)) 3 (xL2 c n x)
def xL4 (c : Nat → Int32) (n : Nat) (g : Nat → Int32) (x : Sg) : Sg := sNx c (xL3 c n g x)
def xL5 (c : Nat → Int32) (n : Nat) (g : Nat → Int32) (x : Sg) : Sg := sNo c 1 99 (xL4 c n g x)
def xL6 (c : Nat → Int32) (n : Nat) (g : Nat → Int32) (x : Sg) : Sg := sNo c 0 800 (xL5 c n g x)
def sLd (c : Nat → Int32) (n : Nat) (g : Nat → Int32) (x : Sg) : Sg := sMk c 59 (xL6 c n g x)
theorem kFn_sim {c : Nat → Int32} {n : Nat} {x y : Sg} (h : Sim x y) : kFn c n x = kFn c n y := by unfold kFn xL1; rw [h.wd.2.1]
theorem Sim.l3 {c : Nat → Int32} {n : Nat} {g : Nat → Int32} {x y : Sg} (h : Sim x y) : Sim (xL3 c n g x) (xL3 c n g y) := by unfold xL3; rw [kFn_sim h]; exact (Sim.see h.wd).chk
theorem Sim.l4 {c : Nat → Int32} {n : Nat} {g : Nat → Int32} {x y : Sg} (h : Sim x y) : Sim (xL4 c n g x) (xL4 c n g y) := h.l3.nx
theorem Sim.l5 {c : Nat → Int32} {n : Nat} {g : Nat → Int32} {x y : Sg} (h : Sim x y) : Sim (xL5 c n g x) (xL5 c n g y) := h.l4.no
theorem Sim.l6 {c : Nat → Int32} {n : Nat} {g : Nat → Int32} {x y : Sg} (h : Sim x y) : Sim (xL6 c n g x) (xL6 c n g y) := h.l5.no
theorem Sim.ld {c : Nat → Int32} {n : Nat} {g : Nat → Int32} {x y : Sg} (h : Sim x y) : Sim (sLd c n g x) (sLd c n g y) := h.l6.mk
section LOADS
variable {N L n : Nat} {b c : Nat → Int32} {g : Nat → Int32} {x : Sg}
theorem xL1_le (h : TX L b c) (hp : x.2.2 ≤ L) : (xL1 c x).2.2 ≤ L := sWd_le h hp
theorem xL4_le (h : TX L b c) (hp : x.2.2 ≤ L) : (xL4 c n g x).2.2 ≤ L := sNx_le (x := xL3 c n g x) h (show (xL1 c x).2.2 ≤ L from xL1_le h hp)
theorem xL5_le (h : TX L b c) (hp : x.2.2 ≤ L) : (xL5 c n g x).2.2 ≤ L := sNo_le h (xL4_le h hp)
theorem xL6_le (h : TX L b c) (hp : x.2.2 ≤ L) : (xL6 c n g x).2.2 ≤ L := sNo_le h (xL5_le h hp)
theorem sLd_le (h : TX L b c) (hp : x.2.2 ≤ L) : (sLd c n g x).2.2 ≤ L := sMk_le h (xL6_le h hp)
end LOADS
def kMa (c : Nat → Int32) (n : Nat) (g : Nat → Int32) (x : Sg) : Int32 := kV 1 99 c (xL4 c n g x).2.2
def kMo (c : Nat → Int32) (n : Nat) (g : Nat → Int32) (x : Sg) : Int32 := kV 0 800 c (xL5 c n g x).2.2
theorem k_load {N L n : Nat} {b c : Nat → Int32} {x : Sg} (hN : 1000 ≤ N) (h : TX L b c) (hp : x.2.2 ≤ L) (hn1 : 1 ≤ n) (hn : n ≤ 4) (f : Nat → Nat → Int32) (lm : Int32) :
    F_X8_readLoad N lm (nI n) (f 1) (f 2) (f 3) x.1 (nI (tE c x.2.2)) (tK c x.2.2) x.2.1 (nI (tQ c x.2.2)) (nI L) b = some ((), lm + kMa c n (f 1) x, fLay f (kFn c n x) (kMa c n (f 1) x) (kMo c n (f 1) x) 1, fLay f (kFn c n x) (kMa c n (f 1) x) (kMo c n (f 1) x) 2, fLay f (kFn c n x) (kMa c n (f 1) x) (kMo c n (f 1) x) 3, (sLd c n (f 1) x).1, nI (tE c (sLd c n (f 1) x).2.2), tK c (sLd c n (f 1) x).2.2, (sLd c n (f 1) x).2.1, nI (tQ c (sLd c n (f 1) x).2.2)) := by
  have p1 : (xL1 c x).2.2 ≤ L := xL1_le h hp
  have p3 : (xL3 c n (f 1) x).2.2 ≤ L := p1
  have p4 : (xL4 c n (f 1) x).2.2 ≤ L := xL4_le h hp
  have p5 : (xL5 c n (f 1) x).2.2 ≤ L := xL5_le h hp
  have p6 : (xL6 c n (f 1) x).2.2 ≤ L := xL6_le h hp
  have tail : F_X8_readLoad_b52 N (nI n) (nI L) b (nI (kFn c n x)) lm (f 1) (f 2) (f 3) (xL3 c n (f 1) x).1 (nI (tE c (xL1 c x).2.2)) (tK c (xL1 c x).2.2) (xL3 c n (f 1) x).2.1 (nI (tQ c (xL1 c x).2.2)) = some ((), lm + kMa c n (f 1) x, fLay f (kFn c n x) (kMa c n (f 1) x) (kMo c n (f 1) x) 1, fLay f (kFn c n x) (kMa c n (f 1) x) (kMo c n (f 1) x) 2, fLay f (kFn c n x) (kMa c n (f 1) x) (kMo c n (f 1) x) 3, (sLd c n (f 1) x).1, nI (tE c (sLd c n (f 1) x).2.2), tK c (sLd c n (f 1) x).2.2, (sLd c n (f 1) x).2.1, nI (tQ c (sLd c n (f 1) x).2.2)) := by
    have g1 : F_X10_next N (xL3 c n (f 1) x).1 (nI (tE c (xL1 c x).2.2)) (tK c (xL1 c x).2.2) (nI (tQ c (xL1 c x).2.2)) (nI L) b = some ((), nI (tE c (xL4 c n (f 1) x).2.2), tK c (xL4 c n (f 1) x).2.2, nI (tQ c (xL4 c n (f 1) x).2.2)) := kk_next (x := xL3 c n (f 1) x) hN h p3
    have g2 : F_X10_readNumber N 1 99 (xL3 c n (f 1) x).1 (nI (tE c (xL4 c n (f 1) x).2.2)) (tK c (xL4 c n (f 1) x).2.2) (xL3 c n (f 1) x).2.1 (nI (tQ c (xL4 c n (f 1) x).2.2)) (nI L) b = some (kMa c n (f 1) x, (xL5 c n (f 1) x).1, nI (tE c (xL5 c n (f 1) x).2.2), tK c (xL5 c n (f 1) x).2.2, (xL5 c n (f 1) x).2.1, nI (tQ c (xL5 c n (f 1) x).2.2)) := kk_num (x := xL4 c n (f 1) x) (l := 1) (H := 99) hN h p4 (by decide) (by decide)
    have g3 : F_X10_readNumber N 0 800 (xL5 c n (f 1) x).1 (nI (tE c (xL5 c n (f 1) x).2.2)) (tK c (xL5 c n (f 1) x).2.2) (xL5 c n (f 1) x).2.1 (nI (tQ c (xL5 c n (f 1) x).2.2)) (nI L) b = some (kMo c n (f 1) x, (xL6 c n (f 1) x).1, nI (tE c (xL6 c n (f 1) x).2.2), tK c (xL6 c n (f 1) x).2.2, (xL6 c n (f 1) x).2.1, nI (tQ c (xL6 c n (f 1) x).2.2)) := kk_num (x := xL5 c n (f 1) x) (l := 0) (H := 800) hN h p5 (by decide) (by decide)
    have g4 : F_X10_readMark N 59 (xL6 c n (f 1) x).1 (nI (tE c (xL6 c n (f 1) x).2.2)) (tK c (xL6 c n (f 1) x).2.2) (xL6 c n (f 1) x).2.1 (nI (tQ c (xL6 c n (f 1) x).2.2)) (nI L) b = some ((), (sLd c n (f 1) x).1, nI (tE c (sLd c n (f 1) x).2.2), tK c (sLd c n (f 1) x).2.2, (sLd c n (f 1) x).2.1, nI (tQ c (sLd c n (f 1) x).2.2)) := kk_mk (x := xL6 c n (f 1) x) hN h p6
    unfold F_X8_readLoad_b52
    rw [g1, Option.bind_some]
    dsimp only
    rw [g2, Option.bind_some]
    dsimp only
    rw [g3, Option.bind_some]
    dsimp only
    rw [g4, Option.bind_some]
    dsimp only
    rw [k_place hn (kFn_lt c x hn1), Option.bind_some]
  have w1 : F_X10_readWord N 3 x.1 (nI (tE c x.2.2)) (tK c x.2.2) x.2.1 (nI (tQ c x.2.2)) (nI L) b = some ((), (xL1 c x).1, nI (tE c (xL1 c x).2.2), tK c (xL1 c x).2.2, (xL1 c x).2.1, nI (tQ c (xL1 c x).2.2)) := kk_wd (x := x) hN h hp (k_word3 hN h hp)
  have w2 : F_X10_seeNumber N 0 (nI (n - 1)) (xL1 c x).1 (nI (tE c (xL1 c x).2.2)) (tK c (xL1 c x).2.2) (xL1 c x).2.1 (nI (tQ c (xL1 c x).2.2)) (nI L) b = some (kV 0 (n - 1) c (xL1 c x).2.2, (xL2 c n x).1, (xL2 c n x).2.1) := kk_see (x := xL1 c x) (l := 0) hN h p1 (by decide) (by omega)
  unfold F_X8_readLoad
  rw [w1, Option.bind_some]
  dsimp only
  rw [nI_pm hn1, w2, Option.bind_some]
  dsimp only
  rw [kFn_nI, k_taken hn (kFn_lt c x hn1), Option.bind_some]
  by_cases ht : f 1 (kFn c n x) ≤ 0
  · have e : xL3 c n (f 1) x = xL2 c n x := by unfold xL3; rw [decide_eq_true ht]; exact sChk_ok _
    rw [if_pos ht, if_pos rfl]
    rw [e] at tail
    exact tail
  · have e : xL3 c n (f 1) x = (mZ (xL2 c n x).1 false 3, mP (xL2 c n x).1 false (nI (tQ c (xL1 c x).2.2)) (xL2 c n x).2.1, (xL1 c x).2.2) := by unfold xL3; rw [decide_eq_false ht]; rfl
    rw [if_neg ht, if_neg (by decide), k_fail, Option.bind_some]
    rw [e] at tail
    exact tail
theorem m_load {N L n : Nat} {b c : Nat → Int32} {y : Sg} (hN : 1000 ≤ N) (h : TX L b c) (hp : y.2.2 ≤ L) (hn1 : 1 ≤ n) (hn : n ≤ 4) (hy : y.1 = 0) (hw : bIs WLD c y.2.2 = true) {f : Nat → Nat → Int32} {s : Nat → Int32} (h6 : s 6 = nI n) (hF : RF n f s) (nb : Int32) {wd : Int64} (hm : MW c y.2.2 nb wd) :
    ∃ nb' wd', F_X12_loadText N (nI (tE c y.2.2)) y.1 y.2.1 (nI (tQ c y.2.2)) (nI L) nb (tK c y.2.2) wd s b = some ((), nI (tE c (sLd c n (f 1) y).2.2), (sLd c n (f 1) y).1, (sLd c n (f 1) y).2.1, nI (tQ c (sLd c n (f 1) y).2.2), nb', tK c (sLd c n (f 1) y).2.2, wd', if (xL6 c n (f 1) y).1 = 0 then sLay s (kFn c n y) (mV c 1 (xL5 c n (f 1) y).1 (xL4 c n (f 1) y).2.2) (mV c 0 (xL6 c n (f 1) y).1 (xL5 c n (f 1) y).2.2) else s) ∧ MW c (sLd c n (f 1) y).2.2 nb' wd' := by
  have p1 : (xL1 c y).2.2 ≤ L := xL1_le h hp
  have p3 : (xL3 c n (f 1) y).2.2 ≤ L := p1
  have p4 : (xL4 c n (f 1) y).2.2 ≤ L := xL4_le h hp
  have p5 : (xL5 c n (f 1) y).2.2 ≤ L := xL5_le h hp
  have p6 : (xL6 c n (f 1) y).2.2 ≤ L := xL6_le h hp
  have e1 : xL1 c y = sNx c y := by unfold xL1 sWd; rw [hw, sChk_ok]
  have z1 : (xL1 c y).1 = y.1 := by rw [e1]; rfl
  have z2 : (xL1 c y).2.1 = y.2.1 := by rw [e1]; rfl
  obtain ⟨nb1, wd1, g1, m1⟩ := mm_nx (x := y) hN h hp nb hm
  rw [← e1] at g1 m1
  obtain ⟨nb2, wd2, g2, m2⟩ := mm_no (x := xL3 c n (f 1) y) (l := 0) (H := 3) hN h p3 (by decide) (by decide) nb1 m1
  have e4 : sNo c 0 3 (xL3 c n (f 1) y) = xL4 c n (f 1) y := by
    unfold sNo xL4
    by_cases h0 : (xL3 c n (f 1) y).1 = 0
    · have q2 := sChk_0 (x := xL2 c n y) (by decide) h0
      have q1 := sChk_0 (x := sChk c (bK 2 c (xL1 c y).2.2) 1 (xL1 c y)) (by decide) q2.1
      have q0 := sChk_0 (x := xL1 c y) (by decide) q1.1
      have hb : bNm 0 3 c (xL3 c n (f 1) y).2.2 = true := by
        rw [show (xL3 c n (f 1) y).2.2 = (xL1 c y).2.2 from rfl, bNm_iff]
        have := (bNm_iff 0 (n - 1) c (xL1 c y).2.2).mp q1.2
        omega
      have hk : bK 2 c (xL3 c n (f 1) y).2.2 = true := q0.2
      unfold sSee
      rw [hb, hk, sChk_ok, sChk_ok]
    · unfold sSee
      rw [sChk_bad h0, sChk_bad h0]
  rw [e4] at g2 m2
  obtain ⟨nb3, wd3, g3, m3⟩ := mm_no (x := xL4 c n (f 1) y) (l := 1) (H := 99) hN h p4 (by decide) (by decide) nb2 m2
  obtain ⟨nb4, wd4, g4, m4⟩ := mm_no (x := xL5 c n (f 1) y) (l := 0) (H := 800) hN h p5 (by decide) (by decide) nb3 m3
  obtain ⟨nb5, wd5, g5, m5⟩ := mm_mk (x := xL6 c n (f 1) y) (m := 59) hN h p6 nb4 m4
  refine ⟨nb5, wd5, ?_, m5⟩
  have a2 : F_X12_reads N 0 3 (nI (tE c (xL1 c y).2.2)) (xL3 c n (f 1) y).1 (xL3 c n (f 1) y).2.1 (nI (tQ c (xL1 c y).2.2)) (nI L) nb1 (tK c (xL1 c y).2.2) wd1 b = some (mV c 0 (xL4 c n (f 1) y).1 (xL1 c y).2.2, nI (tE c (xL4 c n (f 1) y).2.2), (xL4 c n (f 1) y).1, (xL4 c n (f 1) y).2.1, nI (tQ c (xL4 c n (f 1) y).2.2), nb2, tK c (xL4 c n (f 1) y).2.2, wd2) := g2
  have a3 : F_X12_reads N 1 99 (nI (tE c (xL4 c n (f 1) y).2.2)) (xL4 c n (f 1) y).1 (xL4 c n (f 1) y).2.1 (nI (tQ c (xL4 c n (f 1) y).2.2)) (nI L) nb2 (tK c (xL4 c n (f 1) y).2.2) wd2 b = some (mV c 1 (xL5 c n (f 1) y).1 (xL4 c n (f 1) y).2.2, nI (tE c (xL5 c n (f 1) y).2.2), (xL5 c n (f 1) y).1, (xL5 c n (f 1) y).2.1, nI (tQ c (xL5 c n (f 1) y).2.2), nb3, tK c (xL5 c n (f 1) y).2.2, wd3) := g3
  have a4 : F_X12_reads N 0 800 (nI (tE c (xL5 c n (f 1) y).2.2)) (xL5 c n (f 1) y).1 (xL5 c n (f 1) y).2.1 (nI (tQ c (xL5 c n (f 1) y).2.2)) (nI L) nb3 (tK c (xL5 c n (f 1) y).2.2) wd3 b = some (mV c 0 (xL6 c n (f 1) y).1 (xL5 c n (f 1) y).2.2, nI (tE c (xL6 c n (f 1) y).2.2), (xL6 c n (f 1) y).1, (xL6 c n (f 1) y).2.1, nI (tQ c (xL6 c n (f 1) y).2.2), nb4, tK c (xL6 c n (f 1) y).2.2, wd4) := g4
  have a5 : F_X12_sign N 59 (nI (tE c (xL6 c n (f 1) y).2.2)) (xL6 c n (f 1) y).1 (xL6 c n (f 1) y).2.1 (nI (tQ c (xL6 c n (f 1) y).2.2)) (nI L) nb4 (tK c (xL6 c n (f 1) y).2.2) wd4 b = some ((), nI (tE c (sLd c n (f 1) y).2.2), (sLd c n (f 1) y).1, (sLd c n (f 1) y).2.1, nI (tQ c (sLd c n (f 1) y).2.2), nb5, tK c (sLd c n (f 1) y).2.2, wd5) := g5
  have tail : ∀ ok, mZ (xL2 c n y).1 ok 3 = (xL3 c n (f 1) y).1 → mP (xL2 c n y).1 ok (nI (tQ c (xL1 c y).2.2)) (xL2 c n y).2.1 = (xL3 c n (f 1) y).2.1 → F_X12_loadText_b70 N (nI L) b (cI ok) (nI (tE c (xL1 c y).2.2)) (xL2 c n y).1 (xL2 c n y).2.1 (nI (tQ c (xL1 c y).2.2)) nb1 (tK c (xL1 c y).2.2) wd1 s = some ((), nI (tE c (sLd c n (f 1) y).2.2), (sLd c n (f 1) y).1, (sLd c n (f 1) y).2.1, nI (tQ c (sLd c n (f 1) y).2.2), nb5, tK c (sLd c n (f 1) y).2.2, wd5, if (xL6 c n (f 1) y).1 = 0 then sLay s (kFn c n y) (mV c 1 (xL5 c n (f 1) y).1 (xL4 c n (f 1) y).2.2) (mV c 0 (xL6 c n (f 1) y).1 (xL5 c n (f 1) y).2.2) else s) := by
    intro ok o1 o2
    unfold F_X12_loadText_b70 F_X12_loadText_b112
    rw [m_must, Option.bind_some]
    dsimp only
    rw [o1, o2, a2, Option.bind_some]
    dsimp only
    rw [a3, Option.bind_some]
    dsimp only
    rw [a4, Option.bind_some]
    dsimp only
    unfold F_X12_isGood
    by_cases hz : (xL6 c n (f 1) y).1 = 0
    · have r5 := sNo_0 (x := xL5 c n (f 1) y) hz
      have r4 := sNo_0 (x := xL4 c n (f 1) y) r5.1
      have r3 : (xL3 c n (f 1) y).1 = 0 := r4.1
      have r2 := sChk_0 (x := xL2 c n y) (by decide) r3
      have r1 := sChk_0 (x := sChk c (bK 2 c (xL1 c y).2.2) 1 (xL1 c y)) (by decide) r2.1
      have r0 := sChk_0 (x := xL1 c y) (by decide) r1.1
      have ek : mV c 0 (xL4 c n (f 1) y).1 (xL1 c y).2.2 = nI (kFn c n y) := by unfold mV kFn; rw [if_pos r4.1, if_pos ⟨r0.2, r1.2⟩]
      have hi := kFn_lt c y hn1
      rw [if_pos hz, Option.bind_some, if_neg (by decide), if_pos hz, ek, m_lays (by omega), Option.bind_some]
      dsimp only
      rw [a5, Option.bind_some]
    · rw [if_neg hz, Option.bind_some, if_pos rfl, if_neg hz, a5, Option.bind_some]
  have b18 : F_X12_loadText_b18 N (nI L) b (cI (bK 2 c (xL1 c y).2.2)) (nI (tE c (xL1 c y).2.2)) y.1 y.2.1 (nI (tQ c (xL1 c y).2.2)) nb1 (tK c (xL1 c y).2.2) wd1 s = some ((), nI (tE c (sLd c n (f 1) y).2.2), (sLd c n (f 1) y).1, (sLd c n (f 1) y).2.1, nI (tQ c (sLd c n (f 1) y).2.2), nb5, tK c (sLd c n (f 1) y).2.2, wd5, if (xL6 c n (f 1) y).1 = 0 then sLay s (kFn c n y) (mV c 1 (xL5 c n (f 1) y).1 (xL4 c n (f 1) y).2.2) (mV c 0 (xL6 c n (f 1) y).1 (xL5 c n (f 1) y).2.2) else s) := by
    obtain ⟨r, hr, hrb⟩ : ∃ r, F_X12_in (Int32.toInt64 nb1) (Int64.ofNat 0) (Int32.toInt64 (nI (n - 1))) = some (cI r) ∧ (bK 2 c (xL1 c y).2.2 = true → r = bNm 0 (n - 1) c (xL1 c y).2.2) := by
      by_cases hk : bK 2 c (xL1 c y).2.2 = true
      · have hk' : tK c (xL1 c y).2.2 = 2 := of_decide_eq_true hk
        refine ⟨bNm 0 (n - 1) c (xL1 c y).2.2, ?_, fun _ => rfl⟩
        rw [m1.1 hk']
        exact (m_inN (l := 0) (H := n - 1) h p1 (by decide) (by omega) hk').1
      · refine ⟨decide (0 ≤ nb1 ∧ nb1 ≤ nI (n - 1)), ?_, fun q => absurd q hk⟩
        rw [m_in0]
        by_cases q : 0 ≤ nb1 ∧ nb1 ≤ nI (n - 1)
        · rw [if_pos q, decide_eq_true q]; rfl
        · rw [if_neg q, decide_eq_false q]; rfl
    have e2 : sChk c r 2 (sChk c (bK 2 c (xL1 c y).2.2) 1 (xL1 c y)) = xL2 c n y := by
      unfold xL2 sSee
      by_cases hk : bK 2 c (xL1 c y).2.2 = true
      · rw [hrb hk]
      · have hb : ¬ (sChk c (bK 2 c (xL1 c y).2.2) 1 (xL1 c y)).1 = 0 := fun q => hk (sChk_0 (by decide) q).2
        rw [sChk_bad hb, sChk_bad hb]
    have c1 : mZ (mZ y.1 (bK 2 c (xL1 c y).2.2) 1) r 2 = (xL2 c n y).1 := by rw [← e2, ← z1]; rfl
    have c2 : mP (mZ y.1 (bK 2 c (xL1 c y).2.2) 1) r (nI (tQ c (xL1 c y).2.2)) (mP y.1 (bK 2 c (xL1 c y).2.2) (nI (tQ c (xL1 c y).2.2)) y.2.1) = (xL2 c n y).2.1 := by rw [← e2, ← z1, ← z2]; rfl
    unfold F_X12_loadText_b18 F_X12_loadText_b65
    rw [m_must, Option.bind_some]
    dsimp only
    rw [tn6, h6, nI_pm hn1, hr, Option.bind_some, m_must, Option.bind_some]
    dsimp only
    rw [c1, c2]
    unfold F_X12_isGood
    by_cases h0 : (xL2 c n y).1 = 0
    · have r1 := sChk_0 (x := sChk c (bK 2 c (xL1 c y).2.2) 1 (xL1 c y)) (by decide) h0
      have r0 := sChk_0 (x := xL1 c y) (by decide) r1.1
      have hk' : tK c (xL1 c y).2.2 = 2 := of_decide_eq_true r0.2
      have hv := (bNm_iff 0 (n - 1) c (xL1 c y).2.2).mp r1.2
      have ek : kFn c n y = tV c (xL1 c y).2.2 := by unfold kFn; rw [if_pos ⟨r0.2, r1.2⟩]
      have en : nb1 = nI (kFn c n y) := by rw [m1.1 hk', ek]; exact (m_inN (l := 0) (H := n - 1) h p1 (by decide) (by omega) hk').2 (by omega)
      have hi := kFn_lt c y hn1
      rw [if_pos h0, Option.bind_some, if_neg (by decide), en, m_loaded (by omega), Option.bind_some, (hF _ hi).2.1.1, ← en]
      by_cases ht : f 1 (kFn c n y) ≤ 0
      · rw [if_pos ht, if_pos rfl]
        have := tail true (by unfold xL3; rw [decide_eq_true ht]; rfl) (by unfold xL3; rw [decide_eq_true ht]; rfl)
        exact this
      · rw [if_neg ht, if_neg (by decide)]
        have := tail false (by unfold xL3; rw [decide_eq_false ht]; rfl) (by unfold xL3; rw [decide_eq_false ht]; rfl)
        exact this
    · rw [if_neg h0, Option.bind_some, if_pos rfl]
      have := tail true (by unfold xL3; rw [sChk_bad h0, mZ_true]) (by unfold xL3; rw [sChk_bad h0, mP_true])
      exact this
  unfold F_X12_loadText
  rw [g1, Option.bind_some]
  by_cases hk : tK c (xL1 c y).2.2 = 2
  · rw [if_pos hk]
    rw [show bK 2 c (xL1 c y).2.2 = true from decide_eq_true hk] at b18
    exact b18
  · rw [if_neg hk]
    rw [show bK 2 c (xL1 c y).2.2 = false from decide_eq_false hk] at b18
    exact b18
