/-! PURE: load, both sides -/
/-- the draft: a house where nothing has happened yet -/
def DI (q : Nat → Int32) : Prop := q 0 = 0 ∧ q 13 = 0 ∧ q 10 = 0 ∧ q 7 = 0 ∧ q 11 = 0 ∧ q 9 = 0
theorem p_load {N L : Nat} {b buf q s aside text kept : Nat → Int32} {d f : Nat → Nat → Int32} (hN : 1000 ≤ N) (hL : L ≤ 800) (hb : ∀ i, i < L → buf i = b i) (hq : DI q) (hc hf z0 e0 k0 p0 a0 at0 bad0 ba bg0 ec ep lim nb0 th tk ud : Int32) (wd0 : Int64) :
    (∃ (n : Nat) (s' : Nat → Int32) (d' : Nat → Nat → Int32) (ze zk zs at' ba' bg' nb' tk' : Int32) (wd' : Int64) (a' t' : Nat → Int32), RH n 0 d' s' ∧ RH n 0 (fCp d' f) s' ∧ DI s' ∧ s' 12 = 0 ∧
      F_X11_load N (q 12) (q 1) (q 8) (q 0) (q 13) (q 2) (q 5) (q 3) (q 4) (q 6) (d 0) (d 1) (d 2) (d 3) (q 10) (q 7) (q 11) (q 9) (d 5) (d 6) (d 7) (d 4) (d 8) hc hf (s 12) (s 1) (s 8) (s 0) (s 13) (s 2) (s 5) (s 3) (s 4) (s 6) (f 0) (f 1) (f 2) (f 3) (s 10) (s 7) (s 11) (s 9) (f 5) (f 6) (f 7) (f 4) (f 8) (nI L) b z0 e0 k0 p0 a0 = some (0, s' 12, s' 1, s' 8, s' 2, s' 5, s' 3, s' 4, s' 6, d' 0, d' 1, d' 2, d' 3, 0, s' 12, s' 1, s' 8, s' 0, s' 13, s' 2, s' 5, s' 3, s' 4, s' 6, fCp d' f 0, fCp d' f 1, fCp d' f 2, fCp d' f 3, s' 10, s' 7, s' 11, s' 9, fCp d' f 5, fCp d' f 6, fCp d' f 7, fCp d' f 4, fCp d' f 8, 0, 0, ze, zk, -1, zs, 3) ∧
      F_X12_load N at0 bad0 ba bg0 (nI L) ec ep lim nb0 th tk ud wd0 aside buf kept s text = some (0, at', 0, ba', bg', 0, 0, -1, nI L, nb', 0, tk', 0, wd', a', upd (upd kept 0 0) 1 0, s', t')) ∨
    (∃ (z zp : Int32) (q' : Nat → Int32) (d' : Nat → Nat → Int32) (ze zk zs at' bg' nb' tk' : Int32) (wd' : Int64) (a' t' s' : Nat → Int32), ¬ z = 0 ∧ DI q' ∧ (∀ j, j < 130 → s' j = s j) ∧
      F_X11_load N (q 12) (q 1) (q 8) (q 0) (q 13) (q 2) (q 5) (q 3) (q 4) (q 6) (d 0) (d 1) (d 2) (d 3) (q 10) (q 7) (q 11) (q 9) (d 5) (d 6) (d 7) (d 4) (d 8) hc hf (s 12) (s 1) (s 8) (s 0) (s 13) (s 2) (s 5) (s 3) (s 4) (s 6) (f 0) (f 1) (f 2) (f 3) (s 10) (s 7) (s 11) (s 9) (f 5) (f 6) (f 7) (f 4) (f 8) (nI L) b z0 e0 k0 p0 a0 = some (z, q' 12, q' 1, q' 8, q' 2, q' 5, q' 3, q' 4, q' 6, d' 0, d' 1, d' 2, d' 3, hc, s 12, s 1, s 8, s 0, s 13, s 2, s 5, s 3, s 4, s 6, f 0, f 1, f 2, f 3, s 10, s 7, s 11, s 9, f 5, f 6, f 7, f 4, f 8, 0, z, ze, zk, zp, zs, 0) ∧
      F_X12_load N at0 bad0 ba bg0 (nI L) ec ep lim nb0 th tk ud wd0 aside buf kept s text = some (z, at', z, zp, bg', 0, z, zp, nI L, nb', 0, tk', ud, wd', a', kept, s', t')) := by
  have hTb : TX L b (tC L b) := tC_TX hL (fun _ _ => rfl)
  obtain ⟨t', a', s0, nb, wd, hT, ha, hs0, hm, G⟩ := m_loadF (c := tC L b) hN hL buf text s aside (fun i hi => by unfold tC; rw [if_pos hi, hb i hi]) (fun i hi => by unfold tC; rw [if_neg (by omega)]) ba nb0 wd0
  obtain ⟨n, ge, wi, sg, va, lm, H, e, s1, nb', wd', x, y, S, px, hsnd, gk, gm⟩ := p_read hN hTb hT ba nb hm (fun j hj => hs0 j (by omega)) (q 12) (q 1) (q 8) (q 2) (q 5) (q 3) (q 4) (q 6) (d 0) (d 1) (d 2) (d 3) z0 e0 k0 p0 a0
  have G' := G _ gm at0 bad0 bg0 ec ep lim th tk ud kept
  have K := k_loadF (s := s) (f := f) (hc := hc) (hf := hf) gk
  rw [Option.bind_some] at G'
  dsimp only at G'
  unfold F_X12_tellsError F_X12_tellsError_b24 at G'
  by_cases hz : x.1 = 0
  · left
    obtain ⟨⟨⟨h6, hn1, hn4⟩, hF, hA, hh, o0, o7, o9, o10, o11, o12, o13⟩, c2, c3, c4, c5, c8, cH⟩ := hsnd hz
    have hy : y.1 = 0 := by rw [← S.1]; exact hz
    rw [hy, if_pos rfl, Option.bind_some, if_pos rfl, m_damps hN hn4 h6 hF hA hh, Option.bind_some, tn0, tn1, tn12] at G'
    rw [if_pos hz, hz, S.2.2.2 hz] at K
    have eo : ∀ j, j ≠ 1 → j ≠ 12 → upd (pDamp n s1) 12 0 j = s1 j := fun j h1 h12 => by unfold pDamp; rw [upd_o _ _ h12, upd_o _ _ h12, upd_o _ _ h1]
    have e1 : upd (pDamp n s1) 12 0 1 = pH s1 n (s1 1) := rfl
    have e12 : upd (pDamp n s1) 12 0 12 = 0 := rfl
    have q12 : qNew q H lm ge va wi sg (nI n) 12 = upd (pDamp n s1) 12 0 12 := rfl
    have q1 : qNew q H lm ge va wi sg (nI n) 1 = upd (pDamp n s1) 12 0 1 := by rw [e1, ← cH]; rfl
    have q8 : qNew q H lm ge va wi sg (nI n) 8 = upd (pDamp n s1) 12 0 8 := by rw [eo 8 (by decide) (by decide), c8]; rfl
    have q0 : qNew q H lm ge va wi sg (nI n) 0 = upd (pDamp n s1) 12 0 0 := by rw [eo 0 (by decide) (by decide), o0]; exact hq.1
    have q13 : qNew q H lm ge va wi sg (nI n) 13 = upd (pDamp n s1) 12 0 13 := by rw [eo 13 (by decide) (by decide), o13]; exact hq.2.1
    have q2 : qNew q H lm ge va wi sg (nI n) 2 = upd (pDamp n s1) 12 0 2 := by rw [eo 2 (by decide) (by decide), c2]; rfl
    have q5 : qNew q H lm ge va wi sg (nI n) 5 = upd (pDamp n s1) 12 0 5 := by rw [eo 5 (by decide) (by decide), c5]; rfl
    have q3 : qNew q H lm ge va wi sg (nI n) 3 = upd (pDamp n s1) 12 0 3 := by rw [eo 3 (by decide) (by decide), c3]; rfl
    have q4 : qNew q H lm ge va wi sg (nI n) 4 = upd (pDamp n s1) 12 0 4 := by rw [eo 4 (by decide) (by decide), c4]; rfl
    have q6 : qNew q H lm ge va wi sg (nI n) 6 = upd (pDamp n s1) 12 0 6 := by rw [eo 6 (by decide) (by decide), h6]; rfl
    have q10 : qNew q H lm ge va wi sg (nI n) 10 = upd (pDamp n s1) 12 0 10 := by rw [eo 10 (by decide) (by decide), o10]; exact hq.2.2.1
    have q7 : qNew q H lm ge va wi sg (nI n) 7 = upd (pDamp n s1) 12 0 7 := by rw [eo 7 (by decide) (by decide), o7]; exact hq.2.2.2.1
    have q11 : qNew q H lm ge va wi sg (nI n) 11 = upd (pDamp n s1) 12 0 11 := by rw [eo 11 (by decide) (by decide), o11]; exact hq.2.2.2.2.1
    have q9 : qNew q H lm ge va wi sg (nI n) 9 = upd (pDamp n s1) 12 0 9 := by rw [eo 9 (by decide) (by decide), o9]; exact hq.2.2.2.2.2
    rw [q12, q1, q8, q0, q13, q2, q5, q3, q4, q6, q10, q7, q11, q9] at K
    have hr := pH_r hF hA hn4 hh.1 hh.2 n (Nat.le_refl _)
    have R : RH n 0 (dNew d e) (upd (pDamp n s1) 12 0) := ⟨⟨(eo 6 (by decide) (by decide)).trans h6, hn1, hn4⟩, ⟨by rw [eo 7 (by decide) (by decide), o7]; rfl, by decide⟩, by rw [e1]; exact ⟨hr.1, by grind⟩, hA.cong (eo 2 (by decide) (by decide)) (eo 3 (by decide) (by decide)) (eo 4 (by decide) (by decide)) (eo 5 (by decide) (by decide)), hF.cong hn4 (fun j h14 _ => eo j (by omega) (by omega)) rfl rfl rfl rfl, fun k hk => by omega⟩
    have R' : RH n 0 (fCp (dNew d e) f) (upd (pDamp n s1) 12 0) := R.congp (fun _ _ => rfl) (fun r j _ hj => fCp_f hj) (fun r j hr _ hj => by obtain ⟨k, rfl⟩ : ∃ k, r = k + 4 := ⟨r - 4, by omega⟩; exact fCp_s hj)
    exact ⟨n, upd (pDamp n s1) 12 0, dNew d e, _, _, _, _, _, _, _, _, _, _, _, R, R', ⟨(eo 0 (by decide) (by decide)).trans o0, (eo 13 (by decide) (by decide)).trans o13, (eo 10 (by decide) (by decide)).trans o10, (eo 7 (by decide) (by decide)).trans o7, (eo 11 (by decide) (by decide)).trans o11, (eo 9 (by decide) (by decide)).trans o9⟩, rfl, K, G'⟩
  · right
    have hy : ¬ y.1 = 0 := by rw [← S.1]; exact hz
    obtain ⟨s'', gc, hs'', -⟩ := m_copies hN a' s1
    rw [if_neg hy, Option.bind_some, if_neg hy, gc, Option.bind_some, ← S.1, ← S.2.2.1 hz] at G'
    rw [if_neg hz] at K
    exact ⟨x.1, x.2.1, qNew q H lm ge va wi sg (nI n), dNew d e, _, _, _, _, _, _, _, _, _, _, s'', hz, hq, fun j hj => by rw [hs'' j hj, ha j hj], K, G'⟩
