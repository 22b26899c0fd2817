/-! PURE: one turn of reading a script, class -/
def xOd (c : Nat → Int32) (d p : Nat) : Sg := sMk c 40 (sChk c (!(bMk 40 c (sNo c 1 20 (sNx c (0, -1, p))).2.2 && decide (d = 2))) 4 (sNo c 1 20 (sNx c (0, -1, p))))
theorem t60 {t : Nat} (ht : t ≤ 60) : ¬ (60 : Int32) < nI t := nI_nlt (a := 60) (b := t) ht (by decide)
section TURNS
variable {N L : Nat} {b c : Nat → Int32}
theorem k_exit {t : Nat} {z : Int32} (hz : ¬ z = 0) (fu : Nat) (cm d ln : Int32) (fs ss vs sa ti : Nat → Int32) (e k ps st : Int32) : F_X7_read_b27 N (nI L) b (fu + 1) (nI t) cm d ln fs ss vs sa ti z e k ps st = some ((), cm, d, ln, fs, ss, vs, sa, ti, z, e, k, ps, st) := by
  rw [F_X7_read_b27]
  by_cases h : (60 : Int32) < nI t
  · rw [if_pos h]
  · rw [if_neg h]
    unfold F_X10_sound
    rw [if_neg hz, Option.bind_some, if_pos rfl]
theorem k_done {t p : Nat} (ht : t ≤ 60) (hk : tK c p = 0) (fu : Nat) (cm ln : Int32) (fs ss vs sa ti : Nat → Int32) (e ps st : Int32) : F_X7_read_b27 N (nI L) b (fu + 1) (nI t) cm 0 ln fs ss vs sa ti 0 e (tK c p) ps st = some ((), cm, 0, ln, fs, ss, vs, sa, ti, 0, e, tK c p, ps, st) := by
  rw [F_X7_read_b27, if_neg (t60 ht)]
  unfold F_X10_sound F_X7_isDone F_X10_isEnd
  rw [if_pos rfl, Option.bind_some, if_neg (by decide), if_pos rfl, hk, if_pos rfl, Option.bind_some, if_neg (by decide), Option.bind_some, if_neg (by decide)]
/-- a turn that reads a command -/
theorem k_turnC (h : TX L b c) {t p d : Nat} (hp : p ≤ L) (ht : t ≤ 60) (hd2 : d ≤ 2) (hk : ¬ (d = 0 ∧ tK c p = 0)) (hb : d = 0 ∨ bMk 41 c p = false) {cm ln : Int32} {fs ss vs sa ti : Nat → Int32} {ps : Int32} {cm' d' ln' : Int32} {fs' ss' vs' sa' ti' : Nat → Int32} {z' e' k' ps' st' : Int32}
    (hr : F_X7_readCommand N cm (nI d) ln fs ss vs sa ti 0 (nI (tE c p)) (tK c p) ps (nI (tQ c p)) (nI L) b = some ((), cm', d', ln', fs', ss', vs', sa', ti', z', e', k', ps', st')) (fu : Nat) :
    F_X7_read_b27 N (nI L) b (fu + 1) (nI t) cm (nI d) ln fs ss vs sa ti 0 (nI (tE c p)) (tK c p) ps (nI (tQ c p)) = F_X7_read_b27 N (nI L) b fu (nI (t + 1)) cm' d' ln' fs' ss' vs' sa' ti' z' e' k' ps' st' := by
  have e76 : F_X7_read_b76 (F_X7_read_b27 N (nI L) b fu) N (nI L) b (nI t) cm (nI d) ln fs ss vs sa ti 0 (nI (tE c p)) (tK c p) ps (nI (tQ c p)) = F_X7_read_b27 N (nI L) b fu (nI (t + 1)) cm' d' ln' fs' ss' vs' sa' ti' z' e' k' ps' st' := by
    unfold F_X7_read_b76 F_X7_read_b80
    rw [hr, Option.bind_some, nI_1]
  rw [F_X7_read_b27, if_neg (t60 ht)]
  have hs : F_X10_sound 0 = some 1 := rfl
  have hdn : F_X7_isDone (nI d) (tK c p) = some 0 := by
    unfold F_X7_isDone F_X7_isDone_b21 F_X10_isEnd
    by_cases hd : d = 0
    · rw [if_pos (by rw [hd]; rfl), if_neg (fun q => hk ⟨hd, q⟩), Option.bind_some, if_pos rfl]
    · rw [if_neg (show ¬ nI d = 0 from fun q => hd ((nI_eq (b := 0) (by omega) (by decide)).mp q))]
  rw [hs, Option.bind_some, if_neg (by decide), hdn, Option.bind_some, if_pos rfl]
  by_cases hd : d = 0
  · rw [if_pos (by rw [hd]; decide)]
    exact e76
  · rw [if_neg (nI_nle (by omega) (by omega)), k_mark h hp 41, hb.resolve_left hd, Option.bind_some, if_pos (show cI false = 0 from rfl)]
    exact e76
/-- a turn that closes a bracket -/
theorem k_turnB (hN : 1000 ≤ N) (h : TX L b c) {t p n ln : Nat} (S : Nat) (hp : p ≤ L) (ht : t ≤ 60) (hd2 : S < 2) (hb : bMk 41 c p = true) (hn : n < 20) {A B : List Cmd} {cm : Int32} {fs ss vs sa ti : Nat → Int32} (hR : LR (A ++ B) ln fs ss vs) (hsa : sa S = nI (A.take 40).length) (hti : ti S = nI (n + 1)) :
    ∃ (ln' : Nat) (fs' ss' vs' : Nat → Int32), LR (A ++ rp (n + 1) B) ln' fs' ss' vs' ∧ ∀ fu, F_X7_read_b27 N (nI L) b (fu + 1) (nI t) cm (nI (S + 1)) (nI ln) fs ss vs sa ti 0 (nI (tE c p)) (tK c p) (-1) (nI (tQ c p)) = F_X7_read_b27 N (nI L) b fu (nI (t + 1)) cm (nI S) (nI ln') fs' ss' vs' sa ti (xBe c p).1 (nI (tE c (xBe c p).2.2)) (tK c (xBe c p).2.2) (xBe c p).2.1 (nI (tQ c (xBe c p).2.2)) := by
  obtain ⟨ln', fs', ss', vs', g1, g2⟩ := k_repeat hN hn hR
  refine ⟨ln', fs', ss', vs', g2, fun fu => ?_⟩
  have hx : xin (nI S) 2 = true := xin_nI hd2 (by decide)
  have m1 : F_X10_readMark N 41 0 (nI (tE c p)) (tK c p) (-1) (nI (tQ c p)) (nI L) b = some ((), (sMk c 41 (0, -1, p)).1, nI (tE c (sMk c 41 (0, -1, p)).2.2), tK c (sMk c 41 (0, -1, p)).2.2, (sMk c 41 (0, -1, p)).2.1, nI (tQ c (sMk c 41 (0, -1, p)).2.2)) := kk_mk (x := (0, -1, p)) hN h hp
  have m2 : F_X10_readMark N 59 (sMk c 41 (0, -1, p)).1 (nI (tE c (sMk c 41 (0, -1, p)).2.2)) (tK c (sMk c 41 (0, -1, p)).2.2) (sMk c 41 (0, -1, p)).2.1 (nI (tQ c (sMk c 41 (0, -1, p)).2.2)) (nI L) b = some ((), (xBe c p).1, nI (tE c (xBe c p).2.2), tK c (xBe c p).2.2, (xBe c p).2.1, nI (tQ c (xBe c p).2.2)) := kk_mk (x := sMk c 41 (0, -1, p)) hN h (sMk_le (x := (0, -1, p)) h hp)
  have hs : F_X10_sound 0 = some 1 := rfl
  have hdn : F_X7_isDone (nI (S + 1)) (tK c p) = some 0 := by
    unfold F_X7_isDone F_X7_isDone_b21
    rw [if_neg (nI_ne0 (by omega) (by omega))]
  rw [F_X7_read_b27, if_neg (t60 ht), hs, Option.bind_some, if_neg (by decide), hdn, Option.bind_some, if_pos rfl, if_neg (nI_nle (by omega) (by omega)), k_mark h hp 41, hb, Option.bind_some, if_neg (by decide)]
  unfold F_X7_closeBracket F_X7_read_b80
  rw [m1, Option.bind_some]
  dsimp only
  rw [m2, Option.bind_some, if_neg (nI_nle (by omega) (by omega)), nI_pred, if_pos hx, if_pos hx, tnI (by omega), hsa, hti, g1, Option.bind_some, Option.bind_some, nI_1]
theorem rc_none (hN : 1000 ≤ N) (h : TX L b c) {p : Nat} (hp : p ≤ L) (hv : vb c p = 10) (cm d ln : Int32) (fs ss vs sa ti : Nat → Int32) : F_X7_readCommand N cm d ln fs ss vs sa ti 0 (nI (tE c p)) (tK c p) (-1) (nI (tQ c p)) (nI L) b = some ((), cm, d, ln, fs, ss, vs, sa, ti, 1, nI (tE c p), tK c p, nI (tQ c p), nI (tQ c p)) := by
  unfold F_X7_readCommand
  rw [k_verb hN h hp, if_pos hv, Option.bind_some, if_pos rfl, k_fail, Option.bind_some]
  rfl
theorem vb_ne {p : Nat} (hv : ¬ vb c p = 10) : ¬ nI (vb c p) = -1 := by
  have := vb_le c p
  exact nI_ne_m1 (by omega)
theorem rc_many (hN : 1000 ≤ N) (h : TX L b c) {p : Nat} (hp : p ≤ L) (hv : ¬ vb c p = 10) (d ln : Int32) (fs ss vs sa ti : Nat → Int32) : F_X7_readCommand N (nI 30) d ln fs ss vs sa ti 0 (nI (tE c p)) (tK c p) (-1) (nI (tQ c p)) (nI L) b = some ((), nI 30, d, ln, fs, ss, vs, sa, ti, 4, nI (tE c p), tK c p, nI (tQ c p), nI (tQ c p)) := by
  unfold F_X7_readCommand
  rw [k_verb hN h hp, if_neg hv, Option.bind_some, if_neg (vb_ne hv), if_pos (show nI 30 = 30 from rfl), k_fail, Option.bind_some]
  rfl
theorem rc_cmd (hN : 1000 ≤ N) (h : TX L b c) {p cm ln : Nat} (hp : p ≤ L) (hv : vb c p < 9) (hcm : cm < 30) {X : List Cmd} (d : Int32) {fs ss vs : Nat → Int32} (sa ti : Nat → Int32) (hR : LR X ln fs ss vs) :
    ∃ (ln' : Nat) (fs' ss' vs' : Nat → Int32), LR (X ++ [cOf c p]) ln' fs' ss' vs' ∧ F_X7_readCommand N (nI cm) d (nI ln) fs ss vs sa ti 0 (nI (tE c p)) (tK c p) (-1) (nI (tQ c p)) (nI L) b = some ((), nI (cm + 1), d, nI ln', fs', ss', vs', sa, ti, (xC c p).1, nI (tE c (xC c p).2.2), tK c (xC c p).2.2, (xC c p).2.1, nI (tQ c (xC c p).2.2)) := by
  obtain ⟨ln', fs', ss', vs', g1, g2⟩ := k_add6 hR (v := vb c p) (rA c (vb c p) (sNx c (0, -1, p))) (rB c (vb c p) (sNx c (0, -1, p)))
  refine ⟨ln', fs', ss', vs', g2, ?_⟩
  have p1 : (sNx c (0, -1, p)).2.2 ≤ L := sNx_le (x := (0, -1, p)) h hp
  have n1 : F_X10_next N 0 (nI (tE c p)) (tK c p) (nI (tQ c p)) (nI L) b = some ((), nI (tE c (sNx c (0, -1, p)).2.2), tK c (sNx c (0, -1, p)).2.2, nI (tQ c (sNx c (0, -1, p)).2.2)) := kk_next (x := (0, -1, p)) hN h hp
  have n2 : F_X7_readNumbers N (nI (vb c p)) (nI ln) fs ss vs 0 (nI (tE c (sNx c (0, -1, p)).2.2)) (tK c (sNx c (0, -1, p)).2.2) (-1) (nI (tQ c (sNx c (0, -1, p)).2.2)) (nI L) b = _ := k_numbers (x := sNx c (0, -1, p)) hN h p1 (nI ln) fs ss vs (vb c p) hv
  rw [g1, Option.bind_some] at n2
  have n3 : F_X10_readMark N 59 (rdV c (vb c p) (sNx c (0, -1, p))).1 (nI (tE c (rdV c (vb c p) (sNx c (0, -1, p))).2.2)) (tK c (rdV c (vb c p) (sNx c (0, -1, p))).2.2) (rdV c (vb c p) (sNx c (0, -1, p))).2.1 (nI (tQ c (rdV c (vb c p) (sNx c (0, -1, p))).2.2)) (nI L) b = some ((), (xC c p).1, nI (tE c (xC c p).2.2), tK c (xC c p).2.2, (xC c p).2.1, nI (tQ c (xC c p).2.2)) := kk_mk (x := rdV c (vb c p) (sNx c (0, -1, p))) hN h (rdV_le h p1 _ hv)
  unfold F_X7_readCommand
  rw [k_verb hN h hp, if_neg (by omega), Option.bind_some, if_neg (vb_ne (by omega)), if_neg (show ¬ nI cm = 30 from fun q => by have := (nI_eq (b := 30) (by omega) (by decide)).mp q; omega), n1, Option.bind_some, if_neg (show ¬ nI (vb c p) = 9 from fun q => by have := (nI_eq (b := 9) (by omega) (by decide)).mp q; omega)]
  dsimp only
  rw [n2, Option.bind_some]
  dsimp only
  rw [n3, Option.bind_some, nI_1]
theorem rc_open (hN : 1000 ≤ N) (h : TX L b c) {p cm d : Nat} (hp : p ≤ L) (hv : vb c p = 9) (hcm : cm < 30) (hd : d ≤ 2) (ln : Int32) (fs ss vs sa ti : Nat → Int32) :
    F_X7_readCommand N (nI cm) (nI d) ln fs ss vs sa ti 0 (nI (tE c p)) (tK c p) (-1) (nI (tQ c p)) (nI L) b = some ((), nI (cm + 1), nI (if d < 2 then d + 1 else d), ln, fs, ss, vs, if d < 2 then upd sa d ln else sa, if d < 2 then upd ti d (kV 1 20 c (sNx c (0, -1, p)).2.2) else ti, (xOd c d p).1, nI (tE c (xOd c d p).2.2), tK c (xOd c d p).2.2, (xOd c d p).2.1, nI (tQ c (xOd c d p).2.2)) := by
  have p1 : (sNx c (0, -1, p)).2.2 ≤ L := sNx_le (x := (0, -1, p)) h hp
  have p2 : (sNo c 1 20 (sNx c (0, -1, p))).2.2 ≤ L := sNo_le h p1
  have n1 : F_X10_next N 0 (nI (tE c p)) (tK c p) (nI (tQ c p)) (nI L) b = some ((), nI (tE c (sNx c (0, -1, p)).2.2), tK c (sNx c (0, -1, p)).2.2, nI (tQ c (sNx c (0, -1, p)).2.2)) := kk_next (x := (0, -1, p)) hN h hp
  have n2 : F_X10_readNumber N 1 20 0 (nI (tE c (sNx c (0, -1, p)).2.2)) (tK c (sNx c (0, -1, p)).2.2) (-1) (nI (tQ c (sNx c (0, -1, p)).2.2)) (nI L) b = some (kV 1 20 c (sNx c (0, -1, p)).2.2, (sNo c 1 20 (sNx c (0, -1, p))).1, nI (tE c (sNo c 1 20 (sNx c (0, -1, p))).2.2), tK c (sNo c 1 20 (sNx c (0, -1, p))).2.2, (sNo c 1 20 (sNx c (0, -1, p))).2.1, nI (tQ c (sNo c 1 20 (sNx c (0, -1, p))).2.2)) := kk_num (x := sNx c (0, -1, p)) (l := 1) (H := 20) hN h p1 (by decide) (by decide)
  obtain ⟨x2, hx2⟩ : ∃ x2, x2 = sNo c 1 20 (sNx c (0, -1, p)) := ⟨_, rfl⟩
  have hod : xOd c d p = sMk c 40 (sChk c (!(bMk 40 c x2.2.2 && decide (d = 2))) 4 x2) := by rw [hx2]; rfl
  rw [← hx2] at n2 p2
  have tail : ∀ ok : Bool, F_X7_openBracket_b39 N ln (nI L) b (kV 1 20 c (sNx c (0, -1, p)).2.2) (nI d) sa ti (sChk c ok 4 x2).1 (nI (tE c x2.2.2)) (tK c x2.2.2) (sChk c ok 4 x2).2.1 (nI (tQ c x2.2.2)) = some ((), nI (if d < 2 then d + 1 else d), if d < 2 then upd sa d ln else sa, if d < 2 then upd ti d (kV 1 20 c (sNx c (0, -1, p)).2.2) else ti, (sMk c 40 (sChk c ok 4 x2)).1, nI (tE c (sMk c 40 (sChk c ok 4 x2)).2.2), tK c (sMk c 40 (sChk c ok 4 x2)).2.2, (sMk c 40 (sChk c ok 4 x2)).2.1, nI (tQ c (sMk c 40 (sChk c ok 4 x2)).2.2)) := by
    intro ok
    have n3 : F_X10_readMark N 40 (sChk c ok 4 x2).1 (nI (tE c x2.2.2)) (tK c x2.2.2) (sChk c ok 4 x2).2.1 (nI (tQ c x2.2.2)) (nI L) b = some ((), (sMk c 40 (sChk c ok 4 x2)).1, nI (tE c (sMk c 40 (sChk c ok 4 x2)).2.2), tK c (sMk c 40 (sChk c ok 4 x2)).2.2, (sMk c 40 (sChk c ok 4 x2)).2.1, nI (tQ c (sMk c 40 (sChk c ok 4 x2)).2.2)) := kk_mk (x := sChk c ok 4 x2) hN h p2
    unfold F_X7_openBracket_b39
    rw [n3, Option.bind_some]
    by_cases hd2 : d < 2
    · have hx : xin (nI d) 2 = true := xin_nI hd2 (by decide)
      rw [if_neg (show ¬ (2 : Int32) ≤ nI d from nI_ge (b := 2) hd2 (by decide)), if_pos hx, if_pos hx, tnI (by omega), nI_1, if_pos hd2, if_pos hd2, if_pos hd2]
    · rw [if_pos (show (2 : Int32) ≤ nI d from nI_le (a := 2) (by omega) (by omega)), if_neg hd2, if_neg hd2, if_neg hd2]
  unfold F_X7_readCommand
  rw [k_verb hN h hp, if_neg (by omega), Option.bind_some, if_neg (vb_ne (by omega)), if_neg (show ¬ nI cm = 30 from fun q => by have := (nI_eq (b := 30) (by omega) (by decide)).mp q; omega), n1, Option.bind_some, hv, if_pos (show nI 9 = 9 from rfl)]
  dsimp only
  unfold F_X7_openBracket
  rw [n2, Option.bind_some]
  dsimp only
  rw [k_mark h p2 40, Option.bind_some, hod]
  by_cases hb : bMk 40 c x2.2.2 = true
  · rw [hb, if_neg (show ¬ cI true = 0 by decide)]
    by_cases hd2 : d = 2
    · have tl := tail false
      rw [if_pos (show nI d = 2 by rw [hd2]; rfl), k_fail, Option.bind_some]
      dsimp only
      rw [show (!(true && decide (d = 2))) = false by rw [decide_eq_true hd2]; rfl]
      have tl' : F_X7_openBracket_b39 N ln (nI L) b (kV 1 20 c (sNx c (0, -1, p)).2.2) (nI d) sa ti (mZ x2.1 false 4) (nI (tE c x2.2.2)) (tK c x2.2.2) (mP x2.1 false (nI (tQ c x2.2.2)) x2.2.1) (nI (tQ c x2.2.2)) = _ := tl
      rw [tl', Option.bind_some, nI_1]
    · have tl := tail true
      rw [sChk_ok] at tl
      rw [if_neg (show ¬ nI d = 2 from fun q => hd2 ((nI_eq (b := 2) (by omega) (by decide)).mp q)), show (!(true && decide (d = 2))) = true by rw [decide_eq_false hd2]; rfl, sChk_ok, tl, Option.bind_some, nI_1]
  · have hb' : bMk 40 c x2.2.2 = false := Bool.eq_false_iff.mpr hb
    have tl := tail true
    rw [sChk_ok] at tl
    rw [hb', if_pos (show cI false = 0 from rfl), show (!(false && decide (d = 2))) = true from rfl, sChk_ok, tl, Option.bind_some, nI_1]
end TURNS
