/-! PURE: runScript, both sides -/
section SCRIPT
variable {N L nf ns u fi : Nat} {f : Nat → Nat → Int32} {s t w past bts buf : Nat → Int32} {P : Nat → Option xHO}
theorem m_scan0 {bm c : Nat → Int32} (hN : 1000 ≤ N) (h : TX L bm c) (bg nb tk : Int32) (wd : Int64) : ∃ nb' wd', MW c 0 nb' wd' ∧ ∀ at0 bad, F_X12_starts N at0 bad bg (nI L) nb tk wd bm = some ((), nI (tE c 0), 0, nI (tQ c 0), nb', tK c 0, wd') := by
  have e1 : F_X12_scan N 0 bg (nI L) nb tk wd bm = _ := m_scan (p := 0) hN h (Nat.zero_le _) bg nb tk wd
  refine ⟨if tK c 0 = 2 then tN c 0 else nb, if tK c 0 = 1 then tW c 0 else wd, ⟨fun q => by rw [if_pos q], fun q => by rw [if_pos q]⟩, fun at0 bad => ?_⟩
  unfold F_X12_starts
  rw [e1, Option.bind_some]
/-- the second pass as a whole -/
theorem m_second {bm c s' w' ag opn : Nat → Int32} {B : List Cmd} {p K k' : Nat} {ov : Bool} {za nb : Int32} {wd : Int64} (hN : 400000 ≤ N) (hSeg : Seg N L bm c 0 p B 0 K) (hK : K ≤ 336000) (hk : tK c p = 0) (hm : MW c 0 nb wd) (hE : ExR N B s w 0 s' w' k' ov) : Dn (F_X12_goesThrough_b29 N (nI L) bm N (nI (tE c 0)) 0 za (nI (tQ c 0)) 0 1 0 nb 0 0 (tK c 0) wd ag opn s w) s' w' k' := by
  obtain ⟨K', hK', r⟩ := hSeg.2 0 za nb wd ag opn s w 0 s' w' k' ov hm (by decide) hE
  have hmL : ∀ fu, F_X12_goesThrough_b29 N (nI L) bm fu (nI (tE c 0)) 0 za (nI (tQ c 0)) 0 1 0 nb 0 0 (tK c 0) wd ag opn s w = mL N L bm c 0 za fu 0 nb wd 0 ag opn s w 0 := fun fu => rfl
  rw [hmL]
  rcases r with ⟨-, r⟩ | ⟨-, za', nb', wd', ag', opn', m', -, r⟩
  · have := r (N - K' - 1)
    rw [show N - K' - 1 + K' + 1 = N by omega] at this
    exact this
  · have h1 := r (N - K')
    rw [show N - K' + K' = N by omega] at h1
    rw [h1]
    obtain ⟨q, hq⟩ : ∃ q, N - K' = q + 1 := ⟨N - K' - 1, by omega⟩
    rw [hq]
    unfold mL
    have e2 := m_end (N := N) (L := L) (b := bm) hk (show 0 ≤ 2 by omega) q 1 (nI (tE c p)) za' (nI (tQ c p)) (nI k') nb' 0 wd' ag' opn' s' w'
    rw [if_pos rfl, if_pos rfl] at e2
    exact ⟨_, _, _, _, _, _, _, _, _, _, _, e2⟩
theorem p_script (hN : 400000 ≤ N) (hL : L ≤ 800) (hb : ∀ i, i < L → buf i = bts i) (hQ : RQ nf ns f s) (hP : RPs u fi P past) (ln cm dp z0 e0 k0 p0 a0 : Int32) (fs ss vs sa ti : Nat → Int32) (at0 bad0 ba bg dn0 ec ep isd iso lim nb op od th tk : Int32) (wd : Int64) (ag opn text : Nat → Int32) :
    ∃ (v z ps ln2 cm2 dp2 e2 k2 st2 at2 bad2 ba2 bg2 dn2 isd2 iso2 nb2 op2 od2 tk2 : Int32) (wd2 : Int64) (fs2 ss2 vs2 sa2 ti2 t2 w2 ag2 opn2 text2 past2 : Nat → Int32) (r nf2 ns2 u2 fi2 : Nat) (f2 : Nat → Nat → Int32) (s2 : Nat → Int32), RQ nf2 ns2 f2 s2 ∧ s2 6 = s 6 ∧ f2 0 = f 0 ∧
      ((r = 0 ∧ u2 = u ∧ fi2 = fi ∧ past2 = past) ∨ (r = 1 ∧ ∀ (a : Nat → Nat) (P' : Nat → Option xHO), hR (nI u) (nI fi) P (a, hSV s, hFV f t) P' → RPs u2 fi2 P' past2)) ∧
      F_X11_runScript N (nI u) (nI fi) (s 12) (s 1) (s 8) (s 0) (s 13) (s 2) (s 5) (s 3) (s 4) (s 6) (f 0) (f 1) (f 2) (f 3) (s 10) (s 7) (s 11) (s 9) (f 5) (f 6) (f 7) (f 4) (f 8) t ln fs ss vs cm dp sa ti (nI L) bts z0 e0 k0 p0 a0 =
        some (v, nI u2, nI fi2, s2 12, s2 1, s2 8, s2 0, s2 13, s2 2, s2 5, s2 3, s2 4, f2 1, f2 2, f2 3, s2 10, s2 7, s2 11, s2 9, f2 5, f2 6, f2 7, f2 4, f2 8, t2, ln2, fs2, ss2, vs2, cm2, dp2, sa2, ti2, 0, z, e2, k2, ps, st2, r) ∧
      F_X12_runScript N at0 bad0 ba bg (nI L) dn0 ec ep isd iso lim nb op od th tk (nI u) wd ag buf opn past s text w =
        some (v, at2, bad2, ba2, bg2, 0, dn2, z, ps, isd2, iso2, nI L, nb2, op2, od2, 0, tk2, nI u2, wd2, ag2, opn2, past2, s2, text2, w2) := by
  have hN1 : 1000 ≤ N := by omega
  have hTb : TX L bts (tC L bts) := tC_TX hL (fun _ _ => rfl)
  obtain ⟨g', gt, hg⟩ := m_takes (N := N) hN1 hL lim buf text
  have hTm : TX L g' (tC L bts) := tC_TX hL (fun i hi => by rw [hg i hi, hb i hi])
  obtain ⟨c, hc⟩ : ∃ c, c = tC L bts := ⟨_, rfl⟩
  rw [← hc] at hTb hTm
  obtain ⟨nb1, wd1, m1, sc1⟩ := m_scan0 hN1 hTm bg nb tk wd
  have hpar := parse (s := s) (w := w) hN1 hTb hTm 62 0 0 0 0 0 0 [] [] fs ss vs sa ti ba nb1 wd1 ag opn rfl (Nat.zero_le _) (by decide) (by decide) (by decide) rfl (Seg.nil (Nat.zero_le _)) (Nat.zero_le _) ⟨rfl, fun i C h => by cases h⟩ trivial (fun C h => by cases h) m1 N N (by omega) (by omega)
  obtain ⟨cm', d', ln', fs', ss', vs', sa', ti', z, e, k, ps, sst, at', za', bg', nb', op', or', tk', wd', ag', opn', hk, hm, hres⟩ := hpar
  have hread : F_X7_read N cm dp ln fs ss vs sa ti z0 e0 k0 p0 a0 (nI L) bts = some ((), cm', d', ln', fs', ss', vs', sa', ti', z, e, k, ps, sst) := by
    have e1 : F_X10_next N 0 0 k0 a0 (nI L) bts = _ := k_next (p := 0) hN1 hTb (Nat.zero_le _) k0 a0
    unfold F_X7_read F_X10_begin
    rw [e1, Option.bind_some, Option.bind_some]
    exact hk
  have hfirst : F_X12_goesThrough N 0 at0 bad0 ba bg dn0 isd iso (nI L) nb op od tk wd ag opn s g' w = some ((), at', z, za', bg', 0, 0, 0, nb', op', or', tk', wd', ag', opn', s, w) := by
    unfold F_X12_goesThrough
    rw [if_pos (by decide), sc1, Option.bind_some]
    exact hm
  rcases hres with ⟨hz, hps⟩ | ⟨rfl, hps, B, p, K, l, rfl, hLR, hVd, hSeg, hk0, hK⟩
  · subst hps
    refine ⟨-1, z, ps, ln', cm', d', e, k, sst, at', z, ps, bg', 0, 0, 0, nb', op', or', tk', wd', fs', ss', vs', sa', ti', t, w, ag', opn', g', past, 0, nf, ns, u, fi, f, s, hQ, rfl, rfl, Or.inl ⟨rfl, rfl, rfl, rfl⟩, ?_, ?_⟩
    · unfold F_X11_runScript F_X10_sound
      rw [hread, Option.bind_some]
      dsimp only
      rw [if_neg hz, Option.bind_some, if_pos rfl]
    · unfold F_X12_runScript
      rw [gt, Option.bind_some]
      dsimp only
      rw [hfirst, Option.bind_some]
      dsimp only
      unfold F_X12_tellsError F_X12_tellsError_b24
      rw [if_neg hz, Option.bind_some, if_neg hz]
  · subst hps
    obtain ⟨u2, fi2, past2, r1, r2, r3⟩ := p_record (f := f) (t := t) hN1 hP hQ
    have hT40 : (B.take 40).length ≤ 40 := by rw [List.length_take]; omega
    obtain ⟨k', ns', f', s', t', w', ov, x1, x2, x3, x4, x5⟩ := p_exec hN1 hT40 hLR (fun C hC => hVd C (List.mem_of_mem_take hC)) (nI u2) (nI fi2) cm' d' 0 0 e k (-1) sst sa' ti' (B.take 40) 0 ns f s t w ⟨[], rfl, rfl⟩ hQ
    obtain ⟨nb3, wd3, m3, sc3⟩ := m_scan0 hN1 hTm bg' nb' tk' wd'
    obtain ⟨at4, za4, bg4, ov4, nb4, op4, or4, tk4, wd4, ag4, on4, hD⟩ := m_second (ag := ag') (opn := opn') (za := za') hN hSeg hK hk0 m3 (ExR_take x1)
    have hsecond : F_X12_goesThrough N 1 at' 0 za' bg' 0 0 0 (nI L) nb' op' or' tk' wd' ag' opn' s g' w = some ((), at4, 0, za4, bg4, nI k', 1, ov4, nb4, op4, or4, tk4, wd4, ag4, on4, s', w') := by
      unfold F_X12_goesThrough
      rw [if_pos (by decide), sc3, Option.bind_some]
      exact hD
    refine ⟨nI k', 0, -1, nI l, cm', d', e, k, sst, at4, 0, za4, bg4, nI k', 1, ov4, nb4, op4, or4, tk4, wd4, fs', ss', vs', sa', ti', t', w', ag4, on4, g', past2, 1, nf, ns', u2, fi2, f', s', x2, x3, x4, Or.inr ⟨rfl, r3⟩, ?_, ?_⟩
    · unfold F_X11_runScript F_X10_sound
      rw [hread, Option.bind_some]
      dsimp only
      rw [if_pos rfl, Option.bind_some, if_neg (by decide), r2, Option.bind_some]
      exact x5 N (by omega)
    · unfold F_X12_runScript
      rw [gt, Option.bind_some]
      dsimp only
      rw [hfirst, Option.bind_some]
      dsimp only
      unfold F_X12_tellsError F_X12_tellsError_b24
      rw [if_pos rfl, Option.bind_some, if_pos rfl, r1, Option.bind_some]
      dsimp only
      rw [hsecond, Option.bind_some]
end SCRIPT
