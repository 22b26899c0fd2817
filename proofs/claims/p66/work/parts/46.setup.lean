/-! PURE: a setup as a whole -/
def frow (f0 f1 f2 f3 : Nat → Int32) : Nat → Nat → Int32
  | 0 => f0
  | 1 => f1
  | 2 => f2
  | 3 => f3
  | _ => fun _ => 0
theorem RF_of {n : Nat} {f0 f1 f2 f3 st : Nat → Int32} (hC : CF n f0 f1) (h : ∀ i, i < n → st (14 + 4 * i) = f0 i ∧ st (15 + 4 * i) = 0 ∧ st (16 + 4 * i) = 0 ∧ st (17 + 4 * i) = 0) : RF n (frow f0 f1 f2 f3) st := fun i hi => by
  obtain ⟨a0, a1, a2, a3⟩ := h i hi
  obtain ⟨b1, b2, b3⟩ := hC.2.2 i hi
  have e0 : frow f0 f1 f2 f3 0 i = f0 i := rfl
  have e1 : frow f0 f1 f2 f3 1 i = 0 := b3
  rw [e0, e1, a0, a1, a2, a3]
  exact ⟨⟨rfl, b1, b2⟩, ⟨rfl, by decide, by decide⟩, ⟨by decide, by decide⟩, ⟨by decide, by decide⟩, fun q => absurd q (by decide), fun _ => ⟨rfl, rfl⟩⟩
def shd (n : Nat) (f0 : Nat → Int32) (ht ge wi sg va : Int32) : Nat → Int32 := fun j => if j = 1 then ht else if j = 2 then ge else if j = 3 then wi else if j = 4 then sg else if j = 5 then va else if j = 6 then nI n else if 14 ≤ j ∧ (j - 14) % 4 = 0 then f0 ((j - 14) / 4) else 0
theorem shd_RF {n : Nat} {f0 f1 f2 f3 : Nat → Int32} (hC : CF n f0 f1) (ht ge wi sg va : Int32) : RF n (frow f0 f1 f2 f3) (shd n f0 ht ge wi sg va) := RF_of hC fun i hi => by
  unfold shd
  have q : ∀ t, 14 ≤ t → t ≠ 1 ∧ t ≠ 2 ∧ t ≠ 3 ∧ t ≠ 4 ∧ t ≠ 5 ∧ t ≠ 6 := fun t ht => by omega
  obtain ⟨a1, a2, a3, a4, a5, a6⟩ := q (14 + 4 * i) (by omega)
  obtain ⟨b1, b2, b3, b4, b5, b6⟩ := q (15 + 4 * i) (by omega)
  obtain ⟨c1, c2, c3, c4, c5, c6⟩ := q (16 + 4 * i) (by omega)
  obtain ⟨d1, d2, d3, d4, d5, d6⟩ := q (17 + 4 * i) (by omega)
  refine ⟨?_, ?_, ?_, ?_⟩
  · rw [if_neg a1, if_neg a2, if_neg a3, if_neg a4, if_neg a5, if_neg a6, if_pos (by omega), show (14 + 4 * i - 14) / 4 = i by omega]
  · rw [if_neg b1, if_neg b2, if_neg b3, if_neg b4, if_neg b5, if_neg b6, if_neg (by omega)]
  · rw [if_neg c1, if_neg c2, if_neg c3, if_neg c4, if_neg c5, if_neg c6, if_neg (by omega)]
  · rw [if_neg d1, if_neg d2, if_neg d3, if_neg d4, if_neg d5, if_neg d6, if_neg (by omega)]
theorem mk_st {n : Nat} {f0 f1 s : Nat → Int32} (f2 f3 : Nat → Int32) {P : Prop} {ht ge wi sg va : Int32} (hC : CF n f0 f1) (hd : P → DF n f0 f1 s ∧ s 1 = ht ∧ s 2 = ge ∧ s 3 = wi ∧ s 4 = sg ∧ s 5 = va ∧ s 8 = 0) :
    ∃ st, RF n (frow f0 f1 f2 f3) st ∧ st 6 = nI n ∧ st 1 = ht ∧ st 2 = ge ∧ st 3 = wi ∧ st 4 = sg ∧ st 5 = va ∧ st 8 = 0 ∧ (P → s = st) := by
  by_cases hP : P
  · obtain ⟨⟨d6, dn, df, dz⟩, h1, h2, h3, h4, h5, h8⟩ := hd hP
    refine ⟨s, RF_of hC fun i hi => ⟨(df i hi).1, dz _ (by omega) (by omega) (fun j hj => by omega), dz _ (by omega) (by omega) (fun j hj => by omega), dz _ (by omega) (by omega) (fun j hj => by omega)⟩, d6, h1, h2, h3, h4, h5, h8, fun _ => rfl⟩
  · exact ⟨shd n f0 ht ge wi sg va, shd_RF hC ht ge wi sg va, rfl, rfl, rfl, rfl, rfl, rfl, rfl, fun q => absurd q hP⟩
theorem mV_kV {c : Nat → Int32} {l H : Nat} {x y : Sg} (hS : Sim x y) (hz : (sNo c l H x).1 = 0) : mV c l (sNo c l H y).1 y.2.2 = kV l H c x.2.2 := by
  have q := sNo_0 hz
  unfold mV
  rw [if_pos (by rw [← (Sim.no (c := c) (l := l) (H := H) hS).1]; exact hz), kV_eq q.2.1 q.2.2, hS.2.1]
theorem sFire_eq {c : Nat → Int32} {x y : Sg} {s : Nat → Int32} (hS : Sim x y) (hz : (xF7 c x).1 = 0) : sFire c y s 1 = kV 0 90 c (xF1 c x).2.2 ∧ sFire c y s 2 = kV 0 4 c (xF2 c x).2.2 ∧ sFire c y s 3 = kV 0 7 c (xF3 c x).2.2 ∧ sFire c y s 4 = kV 0 9 c (xF4 c x).2.2 ∧ sFire c y s 5 = kV 0 7 c (xF5 c x).2.2 := by
  have q6 := (sMk_0 (x := xF6 c x) hz).1
  have q5 := (sNo_0 (x := xF5 c x) q6).1
  have q4 := (sNo_0 (x := xF4 c x) q5).1
  have q3 := (sNo_0 (x := xF3 c x) q4).1
  have q2 := (sNo_0 (x := xF2 c x) q3).1
  have s1 : Sim (xF1 c x) (xF1 c y) := hS.wd
  have s2 : Sim (xF2 c x) (xF2 c y) := s1.no
  have s3 : Sim (xF3 c x) (xF3 c y) := s2.no
  have s4 : Sim (xF4 c x) (xF4 c y) := s3.no
  have s5 : Sim (xF5 c x) (xF5 c y) := s4.no
  have v1 : mV c 0 (xF2 c y).1 (xF1 c y).2.2 = kV 0 90 c (xF1 c x).2.2 := mV_kV s1 q2
  have v2 : mV c 0 (xF3 c y).1 (xF2 c y).2.2 = kV 0 4 c (xF2 c x).2.2 := mV_kV s2 q3
  have v3 : mV c 0 (xF4 c y).1 (xF3 c y).2.2 = kV 0 7 c (xF3 c x).2.2 := mV_kV s3 q4
  have v4 : mV c 0 (xF5 c y).1 (xF4 c y).2.2 = kV 0 9 c (xF4 c x).2.2 := mV_kV s4 q5
  have v5 : mV c 0 (xF6 c y).1 (xF5 c y).2.2 = kV 0 7 c (xF5 c x).2.2 := mV_kV s5 q6
  unfold sFire
  rw [v1, v2, v3, v4, v5]
  exact ⟨rfl, rfl, rfl, rfl, rfl⟩
theorem sFire_o {c : Nat → Int32} {y : Sg} {s : Nat → Int32} {j : Nat} (h : j = 0 ∨ 6 ≤ j) : sFire c y s j = s j := by
  unfold sFire
  rw [upd_o _ _ (by omega), upd_o _ _ (by omega), upd_o _ _ (by omega), upd_o _ _ (by omega), upd_o _ _ (by omega)]
theorem pH_12 {s : Nat → Int32} (dh : Int32) (n : Nat) (x : Int32) : pH (upd s 12 dh) n x = pH s n x := by
  refine it_cong n 0 x (fun j a _ _ => ?_)
  have e : pB (upd s 12 dh) j = pB s j := by
    unfold pB
    rw [pD_upd (s' := upd s 12 dh) (s := s) rfl rfl rfl rfl, pC_upd (s' := upd s 12 dh) (s := s) j (fun i _ => upd_o _ _ (show 16 + 4 * i ≠ 12 by omega)), upd_o _ _ (show 14 + 4 * j ≠ 12 by omega)]
  rw [e]
theorem k_damp12 {N n : Nat} {f : Nat → Nat → Int32} {s : Nat → Int32} (dh : Int32) (hN : 1000 ≤ N) (hn : n ≤ 4) (hF : RF n f s) (hA : pAir s) (hh : 0 ≤ s 1 ∧ s 1 ≤ 90) : ∃ u, F_X3_damp N dh (s 1) (s 2) (s 5) (s 3) (s 4) (nI n) (f 0) (f 1) (f 2) = some ((), u, pH s n (s 1)) := by
  have q := k_damp (s := upd s 12 dh) (f := f) hN hn (hF.cong hn (fun j h14 _ => upd_o _ _ (by omega)) rfl rfl rfl rfl) (hA.cong rfl rfl rfl rfl) hh
  refine ⟨pDamp n (upd s 12 dh) 12, ?_⟩
  have e : pDamp n (upd s 12 dh) 1 = pH s n (s 1) := pH_12 dh n (s 1)
  rw [← e]
  exact q
/-- what a sound setup leaves in the vector, before the damper acts -/
def SetS (n : Nat) (f : Nat → Nat → Int32) (s : Nat → Int32) : Prop := (s 6 = nI n ∧ 1 ≤ n ∧ n ≤ 4) ∧ RF n f s ∧ pAir s ∧ (0 ≤ s 1 ∧ s 1 ≤ 90) ∧ s 0 = 0 ∧ s 7 = 0 ∧ s 9 = 0 ∧ s 10 = 0 ∧ s 11 = 0 ∧ s 12 = 0 ∧ s 13 = 0
abbrev X00 : Sg := (0, -1, 0)
abbrev Y00 (ba : Int32) : Sg := (0, ba, 0)
theorem sChk_t {c : Nat → Int32} {ok : Bool} {n : Int32} (x : Sg) : (sChk c ok n x).2.2 = x.2.2 := rfl
theorem m_first {N L : Nat} {b' c : Nat → Int32} (hN : 1000 ≤ N) (h' : TX L b' c) (ba nb : Int32) {wd : Int64} (hm : MW c 0 nb wd) {s : Nat → Int32} (hs : ∀ j, j < 30 → s j = 0) (f0 f1 : Nat → Int32) (px7 : (xF7 c X00).2.2 ≤ L) (S7 : Sim (xF7 c X00) (xF7 c (Y00 ba))) :
    ∃ (s9 : Nat → Int32) (nb9 : Int32) (wd9 : Int64) (fu9 : Nat), 500 ≤ fu9 ∧ MW c (sFl c 0 (xF7 c (Y00 ba))).2.2 nb9 wd9 ∧ (∀ j, j < 14 → j ≠ 6 → s9 j = sFire c (Y00 ba) s j) ∧ F_X12_setup N (nI (tE c 0)) 0 ba (nI (tQ c 0)) (nI L) nb (tK c 0) wd s b' = F_X12_setup_b98 N (nI L) b' fu9 (nI (tE c (sFl c 0 (xF7 c (Y00 ba))).2.2)) (sFl c 0 (xF7 c (Y00 ba))).1 (sFl c 0 (xF7 c (Y00 ba))).2.1 (nI (tQ c (sFl c 0 (xF7 c (Y00 ba))).2.2)) nb9 (tK c (sFl c 0 (xF7 c (Y00 ba))).2.2) wd9 s9 ∧ ((sFl c 0 (xF7 c X00)).1 = 0 → DF 1 (upd f0 0 (kV 40 90 c (xG1 c 0 (xF7 c X00)).2.2)) (upd f1 0 0) s9) := by
  obtain ⟨nb1, wd1, gm, m7⟩ := m_fire (y := (Y00 ba)) hN h' (Nat.zero_le _) nb hm s
  have S9 : Sim (sFl c 0 (xF7 c X00)) (sFl c 0 (xF7 c (Y00 ba))) := S7.fl
  have py7 : (xF7 c (Y00 ba)).2.2 ≤ L := by rw [← S7.2.1]; exact px7
  have D0 : DF 0 f0 f1 (sFire c (Y00 ba) s) := ⟨by rw [sFire_o (by omega), hs 6 (by decide)]; rfl, by decide, fun i hi => by omega, fun j h14 h30 _ => by rw [sFire_o (by omega), hs j h30]⟩
  have e0 : xG0 c 0 (xF7 c (Y00 ba)) = xF7 c (Y00 ba) := by unfold xG0; rw [show decide (0 = 4) = false from rfl, Bool.and_false]; exact sChk_ok _
  by_cases hb : (sChk c (bIs WFL c (xF7 c (Y00 ba)).2.2) 1 (xF7 c (Y00 ba))).1 = 0
  · have q := sChk_0 (x := xF7 c (Y00 ba)) (by decide) hb
    have ey : sChk c (bIs WFL c (xF7 c (Y00 ba)).2.2) 1 (xF7 c (Y00 ba)) = xF7 c (Y00 ba) := by rw [q.2]; exact sChk_ok _
    obtain ⟨nb2, wd2, g2, m2⟩ := m_floor (n := 0) hN h' py7 (by decide) q.1 q.2 D0.1 nb1 m7
    refine ⟨if (xG2 c 0 (xF7 c (Y00 ba))).1 = 0 then upd (upd (sFire c (Y00 ba) s) (14 + 4 * 0) (mV c 40 (xG2 c 0 (xF7 c (Y00 ba))).1 (xG1 c 0 (xF7 c (Y00 ba))).2.2)) 6 (nI (0 + 1)) else sFire c (Y00 ba) s, nb2, wd2, N - 1, by omega, m2, fun j hj hj6 => ?_, ?_, fun qz => ?_⟩
    rotate_left
    · refine gm.trans ?_
      obtain ⟨M, rfl⟩ : ∃ M, N = M + 1 := ⟨N - 1, by omega⟩
      rw [show (sChk c (bIs 6700530 c (xF7 c (Y00 ba)).2.2) 1 (xF7 c (Y00 ba))) = xF7 c (Y00 ba) from ey, F_X12_setup_b98, show F_X12_isWord (Int64.ofNat 6700530) (nI (tE c (xF7 c (Y00 ba)).2.2)) (xF7 c (Y00 ba)).1 (nI (tQ c (xF7 c (Y00 ba)).2.2)) (tK c (xF7 c (Y00 ba)).2.2) wd1 = some (cI (decide ((xF7 c (Y00 ba)).1 = 0) && bIs WFL c (xF7 c (Y00 ba)).2.2)) from m_isW WFL h' py7 (xF7 c (Y00 ba)).1 m7.2, q.2, decide_eq_true q.1, Option.bind_some, if_neg (by decide), g2, Option.bind_some, Nat.add_sub_cancel]
    · obtain ⟨a1, a2, a3⟩ := DF_step (c := c) S7 D0 qz
      rw [if_pos a2]
      exact a3
    · split
      · rw [upd_o _ _ hj6, upd_o _ _ (by omega)]
      · rfl
  · have e1 : xG1 c 0 (xF7 c (Y00 ba)) = sChk c (bIs WFL c (xF7 c (Y00 ba)).2.2) 1 (xF7 c (Y00 ba)) := by
      unfold xG1 sWd
      rw [e0, sNx_bad hb]
    have hb1 : ¬ (xG1 c 0 (xF7 c (Y00 ba))).1 = 0 := by rw [e1]; exact hb
    have e2 : xG2 c 0 (xF7 c (Y00 ba)) = xG1 c 0 (xF7 c (Y00 ba)) := by
      unfold xG2 sNo sSee
      rw [sChk_bad hb1, sChk_bad hb1, sNx_bad hb1]
    have e3 : sFl c 0 (xF7 c (Y00 ba)) = sChk c (bIs WFL c (xF7 c (Y00 ba)).2.2) 1 (xF7 c (Y00 ba)) := by
      unfold sFl sMk
      rw [e2, sChk_bad hb1, sNx_bad hb1, e1]
    refine ⟨sFire c (Y00 ba) s, nb1, wd1, N, by omega, by rw [e3, sChk_t]; exact m7, fun _ _ _ => rfl, ?_, fun qz => ?_⟩
    · rw [e3, sChk_t]; exact gm
    · exfalso
      rw [S9.1, e3] at qz
      exact hb qz
theorem p_read {N L : Nat} {b b' c : Nat → Int32} (hN : 1000 ≤ N) (h : TX L b c) (h' : TX L b' c) (ba nb : Int32) {wd : Int64} (hm : MW c 0 nb wd) {s : Nat → Int32} (hs : ∀ j, j < 30 → s j = 0) (dh h0 l0 g0 v0 w0 t0 n0 : Int32) (f0 f1 f2 f3 : Nat → Int32) (z e k ps sa : Int32) :
    ∃ (n : Nat) (ge wi sg va lm H : Int32) (f : Nat → Nat → Int32) (s' : Nat → Int32) (nb' : Int32) (wd' : Int64) (x y : Sg), Sim x y ∧ x.2.2 ≤ L ∧ (x.1 = 0 → SetS n f s' ∧ s' 2 = ge ∧ s' 3 = wi ∧ s' 4 = sg ∧ s' 5 = va ∧ s' 8 = lm ∧ H = pH s' n (s' 1)) ∧
      F_X8_read N dh h0 l0 g0 v0 w0 t0 n0 f0 f1 f2 f3 z e k ps sa (nI L) b = some ((), 0, H, lm, ge, va, wi, sg, nI n, f 0, f 1, f 2, f 3, x.1, nI (tE c x.2.2), tK c x.2.2, x.2.1, nI (tQ c x.2.2)) ∧
      F_X12_setup N (nI (tE c 0)) 0 ba (nI (tQ c 0)) (nI L) nb (tK c 0) wd s b' = some ((), nI (tE c y.2.2), y.1, y.2.1, nI (tQ c y.2.2), nb', tK c y.2.2, wd', s') := by
  have S0 : Sim X00 (Y00 ba) := ⟨rfl, rfl, fun q => absurd rfl q, fun _ => rfl⟩
  obtain ⟨gk, px7⟩ := k_fire (x := X00) hN h (Nat.zero_le _) h0 g0 v0 w0 t0
  have S7 : Sim (xF7 c X00) (xF7 c (Y00 ba)) := S0.f7
  have gf := k_floor (n := 0) (x := xF7 c X00) hN h px7 (by decide) f0 f1
  have hr9 := kV_r (c := c) (l := 40) (H := 90) (p := (xG1 c 0 (xF7 c X00)).2.2) (by decide) (by decide)
  have S9 : Sim (sFl c 0 (xF7 c X00)) (sFl c 0 (xF7 c (Y00 ba))) := S7.fl
  have hC1 : CF 1 (upd f0 0 (kV 40 90 c (xG1 c 0 (xF7 c X00)).2.2)) (upd f1 0 0) := CF_step (n := 0) (fun i hi => by omega) (by decide) hr9
  obtain ⟨s9, nb9, wd9, fu9, hfu9, m9, k9, g9, hd9⟩ := m_first hN h' ba nb hm hs f0 f1 px7 S7
  obtain ⟨n, xa, ya, fa0, fa1, sa', nba, wda, Sa, pa, hCa, ma, hda, ka, ga, gb⟩ := fl_loop hN h h' 4 0 1 (sFl c 0 (xF7 c X00)) (sFl c 0 (xF7 c (Y00 ba))) _ _ s9 nb9 wd9 rfl S9 (sFl_le h px7) hC1 m9 (fun q => ⟨rfl, hd9 q⟩)
  have hz7 : xa.1 = 0 → (xF7 c X00).1 = 0 := fun q => by
    have q9 := (hda q).1
    have q8 := (sMk_0 (x := xG2 c 0 (xF7 c X00)) q9).1
    have q7 := (sNo_0 (x := xG1 c 0 (xF7 c X00)) q8).1
    have q6 := (sWd_0 (x := xG0 c 0 (xF7 c X00)) q7).1
    exact (sChk_0 (x := xF7 c X00) (by decide) q6).1
  have kk : ∀ j, j < 14 → j ≠ 6 → sa' j = sFire c (Y00 ba) s j := fun j hj h6 => (ka j hj h6).trans (k9 j hj h6)
  obtain ⟨st, tF, t6, t1, t2, t3, t4, t5, t8, tq⟩ := mk_st f2 f3 (P := xa.1 = 0) (s := sa') (ht := kV 0 90 c (xF1 c X00).2.2) (ge := kV 0 4 c (xF2 c X00).2.2) (wi := kV 0 7 c (xF3 c X00).2.2) (sg := kV 0 9 c (xF4 c X00).2.2) (va := kV 0 7 c (xF5 c X00).2.2) hCa (fun q => by
    obtain ⟨a1, a2, a3, a4, a5⟩ := sFire_eq (s := s) S0 (hz7 q)
    refine ⟨(hda q).2, (kk 1 (by decide) (by decide)).trans a1, (kk 2 (by decide) (by decide)).trans a2, (kk 3 (by decide) (by decide)).trans a3, (kk 4 (by decide) (by decide)).trans a4, (kk 5 (by decide) (by decide)).trans a5, ?_⟩
    rw [kk 8 (by decide) (by decide), sFire_o (by omega), hs 8 (by decide)])
  obtain ⟨xb, yb, fb, sb, tb, nbb, wdb, Sb, pb, hFb, h6b, mb, hdb, kb, kb3, gc, gd⟩ := ld_loop hN h h' hCa.1 hCa.2.1 5 0 xa ya (frow fa0 fa1 f2 f3) sa' st nba wda rfl Sa pa tF t6 ma (fun q => ⟨tq q, by
    have : ∀ m, m ≤ n → cT fa1 m = 0 := by
      intro m
      induction m with
      | zero => intro _; rfl
      | succ m ih => intro hmn; show cT fa1 m + _ = 0; rw [ih (by omega), if_pos (by rw [(hCa.2.2 m (by omega)).2.2]; decide)]
    exact this n (Nat.le_refl _)⟩)
  have r1 := kV_r (c := c) (l := 0) (H := 90) (p := (xF1 c X00).2.2) (by decide) (by decide)
  have r2 := kV_r (c := c) (l := 0) (H := 4) (p := (xF2 c X00).2.2) (by decide) (by decide)
  have r3 := kV_r (c := c) (l := 0) (H := 7) (p := (xF3 c X00).2.2) (by decide) (by decide)
  have r4 := kV_r (c := c) (l := 0) (H := 9) (p := (xF4 c X00).2.2) (by decide) (by decide)
  have r5 := kV_r (c := c) (l := 0) (H := 7) (p := (xF5 c X00).2.2) (by decide) (by decide)
  have b1 := (kb 1 (by decide) (by decide)).trans t1
  have b2 := (kb 2 (by decide) (by decide)).trans t2
  have b3 := (kb 3 (by decide) (by decide)).trans t3
  have b4 := (kb 4 (by decide) (by decide)).trans t4
  have b5 := (kb 5 (by decide) (by decide)).trans t5
  have hA : pAir tb := by unfold pAir; rw [b2, b3, b4, b5]; exact ⟨r2, r3, r4, r5⟩
  have hh : 0 ≤ tb 1 ∧ tb 1 ≤ 90 := by rw [b1]; exact r1
  obtain ⟨u, gu⟩ := k_damp12 dh hN hCa.2.1 hFb hA hh
  refine ⟨n, kV 0 4 c (xF2 c X00).2.2, kV 0 7 c (xF3 c X00).2.2, kV 0 9 c (xF4 c X00).2.2, kV 0 7 c (xF5 c X00).2.2, tb 8, pH tb n (tb 1), fb, sb, nbb, wdb, sEnd c xb, sEnd c yb, Sb.end, pb, fun q => ?_, ?_, ?_⟩
  · have qb := (sChk_0 (x := xb) (by decide) q).1
    obtain ⟨qa, es⟩ := hdb qb
    have o : ∀ j, j < 14 → j ≠ 6 → j ≠ 8 → (j = 0 ∨ 6 ≤ j) → tb j = 0 := fun j h1 h2 h3 h4 => by
      rw [kb j h1 h3, ← tq qa, kk j h1 h2, sFire_o h4, hs j (by omega)]
    rw [es]
    exact ⟨⟨⟨h6b, hCa.1, hCa.2.1⟩, hFb, hA, hh, o 0 (by decide) (by decide) (by decide) (by decide), o 7 (by decide) (by decide) (by decide) (by decide), o 9 (by decide) (by decide) (by decide) (by decide), o 10 (by decide) (by decide) (by decide) (by decide), o 11 (by decide) (by decide) (by decide) (by decide), o 12 (by decide) (by decide) (by decide) (by decide), o 13 (by decide) (by decide) (by decide) (by decide)⟩, b2, b3, b4, b5, rfl, rfl⟩
  · have gn : F_X10_next N 0 0 k sa (nI L) b = some ((), nI (tE c 0), tK c 0, nI (tQ c 0)) := k_next (p := 0) hN h (Nat.zero_le _) k sa
    have gk' : F_X8_readFireAndWind N h0 g0 v0 w0 t0 0 (nI (tE c 0)) (tK c 0) (-1) (nI (tQ c 0)) (nI L) b = _ := gk
    have gf' : F_X8_readFloor N 0 f0 f1 (xF7 c X00).1 (nI (tE c (xF7 c X00).2.2)) (tK c (xF7 c X00).2.2) (xF7 c X00).2.1 (nI (tQ c (xF7 c X00).2.2)) (nI L) b = _ := gf
    have ga' := ga N dh (kV 0 90 c (xF1 c X00).2.2) 0 (kV 0 4 c (xF2 c X00).2.2) (kV 0 7 c (xF5 c X00).2.2) (kV 0 7 c (xF3 c X00).2.2) (kV 0 9 c (xF4 c X00).2.2) f2 f3 (by omega)
    have gc' := gc N dh (kV 0 90 c (xF1 c X00).2.2) (kV 0 4 c (xF2 c X00).2.2) (kV 0 7 c (xF5 c X00).2.2) (kV 0 7 c (xF3 c X00).2.2) (kV 0 9 c (xF4 c X00).2.2) (by omega)
    rw [t8] at gc'
    rw [b1, b2, b3, b4, b5] at gu
    unfold F_X8_read F_X10_begin
    rw [gn, Option.bind_some, Option.bind_some]
    dsimp only
    rw [gk', Option.bind_some]
    dsimp only
    rw [gf', Option.bind_some]
    dsimp only
    refine ga'.trans ?_
    unfold F_X8_read_b73
    refine gc'.trans ?_
    unfold F_X8_read_b112 F_X10_isEnd F_X8_read_b130
    rw [gu, Option.bind_some]
    by_cases hk : tK c xb.2.2 = 0
    · have e : sEnd c xb = xb := by unfold sEnd; rw [show bK 0 c xb.2.2 = true from decide_eq_true hk]; exact sChk_ok _
      rw [if_pos hk, Option.bind_some, if_neg (by decide), e, b1]
    · have e : sEnd c xb = (mZ xb.1 false 1, mP xb.1 false (nI (tQ c xb.2.2)) xb.2.1, xb.2.2) := by unfold sEnd; rw [show bK 0 c xb.2.2 = false from decide_eq_false hk]; rfl
      rw [if_neg hk, Option.bind_some, if_pos rfl, k_fail, Option.bind_some, e, b1, Option.bind_some]
  · exact g9.trans ((gb fu9 (by omega)).trans (gd N (by omega)))
