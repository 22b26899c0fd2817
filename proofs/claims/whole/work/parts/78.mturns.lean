/-! PURE: one turn of the first pass, model -/
theorem mZ_ne {z : Int32} (hz : ¬ z = 0) (ok : Bool) (n : Int32) : mZ z ok n = z := by unfold mZ; rw [if_neg hz]
theorem mP_ne {z : Int32} (hz : ¬ z = 0) (ok : Bool) (q pos : Int32) : mP z ok q pos = pos := by unfold mP; rw [if_neg hz]
section MTURNS
variable {N L : Nat} {b c : Nat → Int32}
theorem must_ne {z : Int32} (hz : ¬ z = 0) (ok : Bool) (n za bg : Int32) : F_X12_must (cI ok) n z za bg = some ((), z, za) := by rw [m_must, mZ_ne hz, mP_ne hz]
theorem must_0 (n za bg : Int32) : F_X12_must 0 n 0 za bg = some ((), n, bg) := by
  have := m_must false n 0 za bg
  exact this
theorem m_exit {z : Int32} (hz : ¬ z = 0) (fu : Nat) (at0 za bg dn nb op ords tk : Int32) (wd : Int64) (ag opn s w : Nat → Int32) : F_X12_goesThrough_b29 N (nI L) b (fu + 1) at0 z za bg dn 0 0 nb op ords tk wd ag opn s w = some ((), at0, z, za, bg, dn, 0, 0, nb, op, ords, tk, wd, ag, opn, s, w) := by
  rw [F_X12_goesThrough_b29, if_neg hz]
  unfold F_X12_goesThrough_b73 F_X12_goesThrough_b88 F_X12_goesThrough_b93
  rw [if_pos rfl]
  have e1 := must_ne hz true 1 za bg
  have e0 := must_ne hz false 1 za bg
  have e1' : F_X12_must 1 1 z za bg = some ((), z, za) := e1
  have e0' : F_X12_must 0 1 z za bg = some ((), z, za) := e0
  rw [e1', e0', Option.bind_some]
  split <;> rfl
/-- the text ends -/
theorem m_end {p d : Nat} (hk : tK c p = 0) (hd : d ≤ 2) (fu : Nat) (dm at0 za bg dn nb ords : Int32) (wd : Int64) (ag opn s w : Nat → Int32) : F_X12_goesThrough_b29 N (nI L) b (fu + 1) at0 0 za bg dn dm 0 nb (nI d) ords (tK c p) wd ag opn s w = some ((), at0, if d = 0 then 0 else 1, if d = 0 then za else bg, bg, dn, dm, 0, nb, nI d, ords, tK c p, wd, ag, opn, s, w) := by
  rw [F_X12_goesThrough_b29, if_pos rfl, if_pos rfl, if_pos hk]
  unfold F_X12_goesThrough_b73 F_X12_goesThrough_b88 F_X12_goesThrough_b93
  rw [if_pos rfl]
  by_cases h : d = 0
  · rw [if_pos (show nI d = 0 by rw [h]; rfl), must_1, Option.bind_some, if_pos h, if_pos h]
  · rw [if_neg (show ¬ nI d = 0 from fun q => h ((nI_eq (b := 0) (by omega) (by decide)).mp q)), must_0, Option.bind_some, if_neg h, if_neg h]
theorem m_turnC (h : TX L b c) {p : Nat} (hp : p ≤ L) (hk : ¬ tK c p = 0) (hb : bMk 41 c p = false) {za dn nb op ords : Int32} {wd : Int64} {ag opn s w : Nat → Int32} {at' z' za' bg' nb' op' ords' tk' : Int32} {wd' : Int64} {ag' opn' : Nat → Int32}
    (hr : F_X12_order N (nI (tE c p)) 0 za (nI (tQ c p)) dn 0 0 (nI L) nb op ords (tK c p) wd ag opn s b w = some ((), at', z', za', bg', dn, 0, nb', op', ords', tk', wd', ag', opn', s, w)) (fu : Nat) :
    F_X12_goesThrough_b29 N (nI L) b (fu + 1) (nI (tE c p)) 0 za (nI (tQ c p)) dn 0 0 nb op ords (tK c p) wd ag opn s w = F_X12_goesThrough_b29 N (nI L) b fu at' z' za' bg' dn 0 0 nb' op' ords' tk' wd' ag' opn' s w := by
  have e41 : F_X12_isSign 41 0 (nI (tQ c p)) (tK c p) b = some 0 := by rw [m_sign h hp, hb]; rfl
  rw [F_X12_goesThrough_b29, if_pos rfl, if_pos rfl, if_neg hk, e41, Option.bind_some, if_pos rfl, hr, Option.bind_some]
theorem m_turnB (hN : 1000 ≤ N) (h : TX L b c) {p S : Nat} (hp : p ≤ L) (hS : S < 2) (hb : bMk 41 c p = true) (za dn nb ords : Int32) {wd : Int64} (hm : MW c p nb wd) (ag opn s w : Nat → Int32) :
    ∃ (y : Sg) (nb' : Int32) (wd' : Int64) (ag' : Nat → Int32), Sim (xBe c p) y ∧ MW c y.2.2 nb' wd' ∧ ∀ fu, F_X12_goesThrough_b29 N (nI L) b (fu + 1) (nI (tE c p)) 0 za (nI (tQ c p)) dn 0 0 nb (nI (S + 1)) ords (tK c p) wd ag opn s w = F_X12_goesThrough_b29 N (nI L) b fu (nI (tE c y.2.2)) y.1 y.2.1 (nI (tQ c y.2.2)) dn 0 0 nb' (nI S) ords (tK c y.2.2) wd' ag' opn s w := by
  have S0 := sim0 p za
  have S2 := S0.mk (c := c) (m := 41)
  have S3 := S2.mk (c := c) (m := 59)
  have e3 : sMk c 41 (0, za, p) = sNx c (0, za, p) := sMk_true (x := (0, za, p)) hb
  have p1 : (sNx c (0, za, p)).2.2 ≤ L := sNx_le (x := (0, za, p)) h hp
  rw [e3] at S3
  obtain ⟨nb1, wd1, e1, m1⟩ := mm_nx (x := (0, za, p)) hN h hp nb hm
  have g1 : F_X12_goesOn N (nI (tE c p)) 0 (nI (tQ c p)) (nI L) nb (tK c p) wd b = some ((), nI (tE c (sNx c (0, za, p)).2.2), nI (tQ c (sNx c (0, za, p)).2.2), nb1, tK c (sNx c (0, za, p)).2.2, wd1) := e1
  obtain ⟨nb2, wd2, e2, m2⟩ := mm_mk (x := sNx c (0, za, p)) (m := 59) hN h p1 nb1 m1
  have g2 : F_X12_sign N 59 (nI (tE c (sNx c (0, za, p)).2.2)) 0 za (nI (tQ c (sNx c (0, za, p)).2.2)) (nI L) nb1 (tK c (sNx c (0, za, p)).2.2) wd1 b = _ := e2
  refine ⟨sMk c 59 (sNx c (0, za, p)), nb2, wd2, upd ag S (ag S - 1), S3, m2, fun fu => ?_⟩
  have hx : xin (nI S) 4 = true := xin_nI (by omega) (by decide)
  have hk0 : ¬ tK c p = 0 := fun q => by have := ((bMk_iff 41 c p).mp hb).1; rw [q] at this; exact absurd this (by decide)
  rw [F_X12_goesThrough_b29, if_pos rfl, if_pos rfl, if_neg hk0, m_sg1 h hp hb, Option.bind_some, if_neg (by decide)]
  unfold F_X12_closes F_X12_closes_b13 F_X12_closes_b81
  rw [if_neg (nI_nle (by omega) (by omega)), must_1, Option.bind_some]
  dsimp only
  rw [if_pos rfl, nI_pred, if_pos hx, if_pos hx, if_pos rfl, tnI (by omega), g1, Option.bind_some]
  dsimp only
  rw [g2, Option.bind_some, Option.bind_some]
/-- a bracket that closes nothing -/
theorem m_turnB0 (h : TX L b c) {p : Nat} (hp : p ≤ L) (hb : bMk 41 c p = true) (za dn nb ords : Int32) (wd : Int64) (ag opn s w : Nat → Int32) (fu : Nat) : F_X12_goesThrough_b29 N (nI L) b (fu + 1) (nI (tE c p)) 0 za (nI (tQ c p)) dn 0 0 nb 0 ords (tK c p) wd ag opn s w = F_X12_goesThrough_b29 N (nI L) b fu (nI (tE c p)) 1 (nI (tQ c p)) (nI (tQ c p)) dn 0 0 nb 0 ords (tK c p) wd ag opn s w := by
  have hk0 : ¬ tK c p = 0 := fun q => by have := ((bMk_iff 41 c p).mp hb).1; rw [q] at this; exact absurd this (by decide)
  rw [F_X12_goesThrough_b29, if_pos rfl, if_pos rfl, if_neg hk0, m_sg1 h hp hb, Option.bind_some, if_neg (by decide)]
  unfold F_X12_closes F_X12_closes_b13
  rw [if_pos (by decide), must_0, Option.bind_some]
  dsimp only
  rw [if_neg (by decide), Option.bind_some]
theorem mo_none (h : TX L b c) {p cm : Nat} (hp : p ≤ L) (hcm : cm ≤ 30) (hv : vb c p = 10) {za dn nb op : Int32} {wd : Int64} (hm : MW c p nb wd) (ag opn s w : Nat → Int32) : F_X12_order N (nI (tE c p)) 0 za (nI (tQ c p)) dn 0 0 (nI L) nb op (nI cm) (tK c p) wd ag opn s b w = some ((), nI (tE c p), 1, nI (tQ c p), nI (tQ c p), dn, 0, nb, op, nI (cm + 1), tK c p, wd, ag, opn, s, w) := by
  have eo : F_X12_isOrder (nI (tE c p)) 0 (nI (tQ c p)) (tK c p) wd = some 0 := by rw [m_order h hp 0 hm.2, decide_eq_false (show ¬ ¬ vb c p = 10 from fun q => q hv)]; rfl
  have e1 : F_X12_must 1 4 1 (nI (tQ c p)) (nI (tQ c p)) = some ((), 1, nI (tQ c p)) := must_ne (z := 1) (by decide) true 4 _ _
  have e0 : F_X12_must 0 4 1 (nI (tQ c p)) (nI (tQ c p)) = some ((), 1, nI (tQ c p)) := must_ne (z := 1) (by decide) false 4 _ _
  unfold F_X12_order F_X12_order_b31 F_X12_order_b45
  rw [eo, Option.bind_some, must_0, Option.bind_some]
  dsimp only
  rw [if_pos rfl]
  by_cases hm30 : (30 : Int32) ≤ nI cm
  · rw [if_pos hm30, e0, Option.bind_some]
    dsimp only
    rw [if_neg (show ¬ (1 : Int32) = 0 by decide), nI_1]
  · rw [if_neg hm30, e1, Option.bind_some]
    dsimp only
    rw [if_neg (show ¬ (1 : Int32) = 0 by decide), nI_1]
theorem mo_many (h : TX L b c) {p : Nat} (hp : p ≤ L) (hv : ¬ vb c p = 10) {za dn nb op : Int32} {wd : Int64} (hm : MW c p nb wd) (ag opn s w : Nat → Int32) : F_X12_order N (nI (tE c p)) 0 za (nI (tQ c p)) dn 0 0 (nI L) nb op (nI 30) (tK c p) wd ag opn s b w = some ((), nI (tE c p), 4, nI (tQ c p), nI (tQ c p), dn, 0, nb, op, nI 31, tK c p, wd, ag, opn, s, w) := by
  have eo : F_X12_isOrder (nI (tE c p)) 0 (nI (tQ c p)) (tK c p) wd = some 1 := by rw [m_order h hp 0 hm.2, decide_eq_true hv]; rfl
  unfold F_X12_order F_X12_order_b31 F_X12_order_b45
  rw [eo, Option.bind_some, must_1, Option.bind_some]
  dsimp only
  rw [if_pos rfl, if_pos (show (30 : Int32) ≤ nI 30 by decide), must_0, Option.bind_some]
  dsimp only
  rw [if_neg (by decide), nI_1]
theorem mo_cmd (hN : 1000 ≤ N) (h : TX L b c) {p cm : Nat} (hp : p ≤ L) (hcm : cm < 30) (hv : vb c p < 9) (za : Int32) {dn nb op : Int32} {wd : Int64} (hm : MW c p nb wd) (ag opn s w : Nat → Int32) :
    ∃ (y : Sg) (nb' : Int32) (wd' : Int64), Sim (xC c p) y ∧ MW c y.2.2 nb' wd' ∧ F_X12_order N (nI (tE c p)) 0 za (nI (tQ c p)) dn 0 0 (nI L) nb op (nI cm) (tK c p) wd ag opn s b w = some ((), nI (tE c y.2.2), y.1, y.2.1, nI (tQ c y.2.2), dn, 0, nb', op, nI (cm + 1), tK c y.2.2, wd', ag, opn, s, w) := by
  have S0 := sim0 p za
  have S1 := S0.nx (c := c)
  have S2 := S1.rd (c := c) (vb c p) hv
  have S3 := S2.mk (c := c) (m := 59)
  have hv10 : ¬ vb c p = 10 := by omega
  obtain ⟨hk1, hwd⟩ := vb_wd hv10 hm.2
  have p1 : (sNx c (0, za, p)).2.2 ≤ L := sNx_le (x := (0, za, p)) h hp
  have p2 := rdV_le h p1 (vb c p) hv
  obtain ⟨nb1, wd1, e1, m1⟩ := mm_nx (x := (0, za, p)) hN h hp nb hm
  have g1 : F_X12_goesOn N (nI (tE c p)) 0 (nI (tQ c p)) (nI L) nb (tK c p) wd b = some ((), nI (tE c (sNx c (0, za, p)).2.2), nI (tQ c (sNx c (0, za, p)).2.2), nb1, tK c (sNx c (0, za, p)).2.2, wd1) := e1
  obtain ⟨nb2, wd2, e2, m2⟩ := m_does0 hN h p1 nb1 dn 0 m1 s w (vb c p) hv
  have g2 : F_X12_does N (Int64.ofNat (vW (vb c p))) (nI (tE c (sNx c (0, za, p)).2.2)) 0 za (nI (tQ c (sNx c (0, za, p)).2.2)) dn 0 0 (nI L) nb1 (tK c (sNx c (0, za, p)).2.2) wd1 s b w = _ := e2
  obtain ⟨nb3, wd3, e3, m3⟩ := mm_mk (x := rdV c (vb c p) (sNx c (0, za, p))) (m := 59) hN h p2 nb2 m2
  refine ⟨sMk c 59 (rdV c (vb c p) (sNx c (0, za, p))), nb3, wd3, S3, m3, ?_⟩
  have eo : F_X12_isOrder (nI (tE c p)) 0 (nI (tQ c p)) (tK c p) wd = some 1 := by rw [m_order h hp 0 hm.2, decide_eq_true hv10]; rfl
  unfold F_X12_order F_X12_order_b31 F_X12_order_b45
  rw [eo, Option.bind_some, must_1, Option.bind_some]
  dsimp only
  rw [if_pos rfl, if_neg (show ¬ (30 : Int32) ≤ nI cm from nI_ge (b := 30) hcm (by decide)), must_1, Option.bind_some]
  dsimp only
  rw [if_pos rfl, g1, Option.bind_some]
  dsimp only
  rw [hwd, if_neg (vW_ne _ hv), g2, Option.bind_some]
  dsimp only
  rw [e3, Option.bind_some, nI_1]
/-- the checks of an open bracket in the model's order -/
def yO (c : Nat → Int32) (d : Nat) (y2 : Sg) : Sg := sNx c (sChk c (!(bMk 40 c y2.2.2 && decide (2 ≤ d))) 4 (sChk c (bMk 40 c y2.2.2) 1 y2))
theorem yO_sim {d p : Nat} {za : Int32} (hd : d ≤ 2) : Sim (xOd c d p) (yO c d (sNo c 1 20 (sNx c (0, za, p)))) := by
  have S2 := ((sim0 p za).nx (c := c)).no (c := c) (l := 1) (H := 20)
  unfold xOd yO sMk
  obtain ⟨x, hx⟩ : ∃ x, x = sNo c 1 20 (sNx c (0, -1, p)) := ⟨_, rfl⟩
  obtain ⟨y, hy⟩ : ∃ y, y = sNo c 1 20 (sNx c (0, za, p)) := ⟨_, rfl⟩
  rw [← hx, ← hy] at S2
  rw [← hx, ← hy]
  have e2 : decide (2 ≤ d) = decide (d = 2) := by
    by_cases q : d = 2
    · rw [decide_eq_true q, decide_eq_true (by omega)]
    · rw [decide_eq_false q, decide_eq_false (by omega)]
  rw [e2, sChk_t, S2.2.1]
  by_cases hb : bMk 40 c y.2.2 = true
  · rw [hb, sChk_ok, sChk_ok]
    exact S2.chk.nx
  · have hb' : bMk 40 c y.2.2 = false := Bool.eq_false_iff.mpr hb
    rw [hb', show (!(false && decide (d = 2))) = true from rfl, sChk_ok, sChk_ok]
    exact S2.chk.nx
theorem mo_open (hN : 1000 ≤ N) (h : TX L b c) {p cm d : Nat} (hp : p ≤ L) (hcm : cm < 30) (hv : vb c p = 9) (hd : d ≤ 2) (za : Int32) {dn nb : Int32} {wd : Int64} (hm : MW c p nb wd) (ag opn s w : Nat → Int32) :
    ∃ (y : Sg) (nb' op' : Int32) (wd' : Int64) (ag' opn' : Nat → Int32), Sim (xOd c d p) y ∧ MW c y.2.2 nb' wd' ∧ (y.1 = 0 → op' = nI (d + 1)) ∧ F_X12_order N (nI (tE c p)) 0 za (nI (tQ c p)) dn 0 0 (nI L) nb (nI d) (nI cm) (tK c p) wd ag opn s b w = some ((), nI (tE c y.2.2), y.1, y.2.1, nI (tQ c y.2.2), dn, 0, nb', op', nI (cm + 1), tK c y.2.2, wd', ag', opn', s, w) := by
  have hv10 : ¬ vb c p = 10 := by omega
  obtain ⟨hk1, hwd⟩ := vb_wd hv10 hm.2
  rw [hv] at hwd
  have p1 : (sNx c (0, za, p)).2.2 ≤ L := sNx_le (x := (0, za, p)) h hp
  have p2 : (sNo c 1 20 (sNx c (0, za, p))).2.2 ≤ L := sNo_le h p1
  obtain ⟨nb1, wd1, e1, m1⟩ := mm_nx (x := (0, za, p)) hN h hp nb hm
  have g1 : F_X12_goesOn N (nI (tE c p)) 0 (nI (tQ c p)) (nI L) nb (tK c p) wd b = some ((), nI (tE c (sNx c (0, za, p)).2.2), nI (tQ c (sNx c (0, za, p)).2.2), nb1, tK c (sNx c (0, za, p)).2.2, wd1) := e1
  obtain ⟨nb2, wd2, e2, m2⟩ := mm_no (x := sNx c (0, za, p)) (l := 1) (H := 20) hN h p1 (by decide) (by decide) nb1 m1
  have hsim := yO_sim (c := c) (d := d) (p := p) (za := za) hd
  obtain ⟨y2, hy2⟩ : ∃ y2, y2 = sNo c 1 20 (sNx c (0, za, p)) := ⟨_, rfl⟩
  rw [← hy2] at hsim e2 m2 p2
  obtain ⟨vv, hvv⟩ : ∃ vv : Int32, vv = (if y2.1 = 0 then nI (tV c (sNx c (0, za, p)).2.2) else nI 1) := ⟨_, rfl⟩
  rw [← hvv] at e2
  have g2 : F_X12_reads N 1 20 (nI (tE c (sNx c (0, za, p)).2.2)) 0 za (nI (tQ c (sNx c (0, za, p)).2.2)) (nI L) nb1 (tK c (sNx c (0, za, p)).2.2) wd1 b = _ := e2
  obtain ⟨y4, hy4⟩ : ∃ y4, y4 = sChk c (!(bMk 40 c y2.2.2 && decide (2 ≤ d))) 4 (sChk c (bMk 40 c y2.2.2) 1 y2) := ⟨_, rfl⟩
  have q4 : y4.2.2 = y2.2.2 := by rw [hy4]; rfl
  obtain ⟨nb3, wd3, e3, m3⟩ := mm_nx (x := y4) hN h (by rw [q4]; exact p2) nb2 (by rw [q4]; exact m2)
  rw [q4] at e3
  have hyO : yO c d y2 = sNx c y4 := by rw [hy4]; rfl
  rw [hyO] at hsim
  have hx : xin (nI d + 1 - 1) 4 = true := by rw [show nI d + 1 - 1 = nI d by grind]; exact xin_nI (by omega) (by decide)
  refine ⟨sNx c y4, nb3, if y4.1 = 0 then nI (d + 1) else nI d, wd3, if y4.1 = 0 then upd ag d vv else ag, if y4.1 = 0 then upd opn d (nI (tQ c (sNx c y4).2.2)) else opn, hsim, m3, fun q => by rw [if_pos (show y4.1 = 0 from q)], ?_⟩
  have eo : F_X12_isOrder (nI (tE c p)) 0 (nI (tQ c p)) (tK c p) wd = some 1 := by rw [m_order h hp 0 hm.2, decide_eq_true hv10]; rfl
  have ms1 : F_X12_must (cI (decide (y2.1 = 0) && bMk 40 c y2.2.2)) 1 y2.1 y2.2.1 (nI (tQ c y2.2.2)) = some ((), (sChk c (bMk 40 c y2.2.2) 1 y2).1, (sChk c (bMk 40 c y2.2.2) 1 y2).2.1) := by rw [m_must, mZ_and, mP_and]; rfl
  obtain ⟨y3, hy3⟩ : ∃ y3, y3 = sChk c (bMk 40 c y2.2.2) 1 y2 := ⟨_, rfl⟩
  rw [← hy3] at ms1 hy4
  have b42 : ∀ ok : Bool, sChk c ok 4 y3 = y4 → F_X12_againOrder_b42 N (nI L) b vv (cI ok) (nI (tE c y2.2.2)) y3.1 y3.2.1 (nI (tQ c y2.2.2)) nb2 (nI d) (tK c y2.2.2) wd2 ag opn = some ((), nI (tE c (sNx c y4).2.2), y4.1, y4.2.1, nI (tQ c (sNx c y4).2.2), nb3, if y4.1 = 0 then nI (d + 1) else nI d, tK c (sNx c y4).2.2, wd3, if y4.1 = 0 then upd ag d vv else ag, if y4.1 = 0 then upd opn d (nI (tQ c (sNx c y4).2.2)) else opn) := by
    intro ok hok
    have q3 : y3.2.2 = y2.2.2 := by rw [hy3]; rfl
    have ms2 : F_X12_must (cI ok) 4 y3.1 y3.2.1 (nI (tQ c y2.2.2)) = some ((), y4.1, y4.2.1) := by
      rw [m_must, ← q3, ← hok]
      rfl
    unfold F_X12_againOrder_b42
    rw [ms2, Option.bind_some]
    dsimp only
    rw [e3, Option.bind_some]
    by_cases hz : y4.1 = 0
    · rw [if_pos hz, if_pos hx, if_pos hx, if_pos hz, if_pos hz, if_pos hz, show nI d + 1 - 1 = nI d by grind, tnI (by omega), nI_1]
    · rw [if_neg hz, if_neg hz, if_neg hz, if_neg hz]
  have b37 : (!(bMk 40 c y2.2.2 && decide (2 ≤ d))) = true ∨ ¬ y3.1 = 0 → sChk c true 4 y3 = y4 := by
    intro q
    rcases q with q | q
    · rw [hy4, q]
    · rw [hy4, sChk_ok, sChk_bad q]
  unfold F_X12_order F_X12_order_b31 F_X12_order_b45
  rw [eo, Option.bind_some, must_1, Option.bind_some]
  dsimp only
  rw [if_pos rfl, if_neg (show ¬ (30 : Int32) ≤ nI cm from nI_ge (b := 30) hcm (by decide)), must_1, Option.bind_some]
  dsimp only
  rw [if_pos rfl, g1, Option.bind_some]
  dsimp only
  rw [hwd, if_pos (by decide)]
  unfold F_X12_againOrder F_X12_againOrder_b37
  rw [g2, Option.bind_some]
  dsimp only
  rw [m_sign h p2, Option.bind_some, ms1, Option.bind_some]
  dsimp only
  rw [m_sign h p2, Option.bind_some]
  have fin : ∀ r : Option (Unit × Int32 × Int32 × Int32 × Int32 × Int32 × Int32 × Int32 × Int64 × (Nat → Int32) × (Nat → Int32)), r = some ((), nI (tE c (sNx c y4).2.2), y4.1, y4.2.1, nI (tQ c (sNx c y4).2.2), nb3, if y4.1 = 0 then nI (d + 1) else nI d, tK c (sNx c y4).2.2, wd3, if y4.1 = 0 then upd ag d vv else ag, if y4.1 = 0 then upd opn d (nI (tQ c (sNx c y4).2.2)) else opn) → (r.bind fun x13 => some ((), x13.2.1, x13.2.2.1, x13.2.2.2.1, x13.2.2.2.2.1, dn, (0 : Int32), x13.2.2.2.2.2.1, x13.2.2.2.2.2.2.1, nI cm + 1, x13.2.2.2.2.2.2.2.1, x13.2.2.2.2.2.2.2.2.1, x13.2.2.2.2.2.2.2.2.2.1, x13.2.2.2.2.2.2.2.2.2.2, s, w)) = some ((), nI (tE c (sNx c y4).2.2), (sNx c y4).1, (sNx c y4).2.1, nI (tQ c (sNx c y4).2.2), dn, 0, nb3, if y4.1 = 0 then nI (d + 1) else nI d, nI (cm + 1), tK c (sNx c y4).2.2, wd3, if y4.1 = 0 then upd ag d vv else ag, if y4.1 = 0 then upd opn d (nI (tQ c (sNx c y4).2.2)) else opn, s, w) := by
    intro r hr
    rw [hr, Option.bind_some, nI_1]
    rfl
  refine fin _ ?_
  by_cases hz : y3.1 = 0
  · rw [decide_eq_true hz, Bool.true_and]
    by_cases hb : bMk 40 c y2.2.2 = true
    · rw [hb, if_neg (show ¬ cI true = 0 by decide)]
      by_cases hd2 : 2 ≤ d
      · rw [if_pos (show (2 : Int32) ≤ nI d from nI_le (a := 2) hd2 (by omega))]
        exact b42 false (by rw [hy4, hb, decide_eq_true hd2]; rfl)
      · rw [if_neg (show ¬ (2 : Int32) ≤ nI d from nI_ge (b := 2) (by omega) (by decide))]
        exact b42 true (b37 (Or.inl (by rw [hb, decide_eq_false hd2]; rfl)))
    · have hb' : bMk 40 c y2.2.2 = false := Bool.eq_false_iff.mpr hb
      rw [hb', if_pos (show cI false = 0 from rfl)]
      exact b42 true (b37 (Or.inl (by rw [hb']; rfl)))
  · rw [decide_eq_false hz, Bool.false_and, if_pos (show cI false = 0 from rfl)]
    exact b42 true (b37 (Or.inr hz))
end MTURNS
