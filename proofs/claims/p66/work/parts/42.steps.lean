/-! PURE: steps over (code, place, token) -/
abbrev Sg : Type := Int32 × Int32 × Nat
def sChk (c : Nat → Int32) (ok : Bool) (n : Int32) (x : Sg) : Sg := (mZ x.1 ok n, mP x.1 ok (nI (tQ c x.2.2)) x.2.1, x.2.2)
def sNx (c : Nat → Int32) (x : Sg) : Sg := (x.1, x.2.1, nx c x.1 x.2.2)
def sWd (c : Nat → Int32) (W : Nat) (x : Sg) : Sg := sNx c (sChk c (bIs W c x.2.2) 1 x)
def sMk (c : Nat → Int32) (m : Int32) (x : Sg) : Sg := sNx c (sChk c (bMk m c x.2.2) 1 x)
def sSee (c : Nat → Int32) (l H : Nat) (x : Sg) : Sg := sChk c (bNm l H c x.2.2) 2 (sChk c (bK 2 c x.2.2) 1 x)
def sNo (c : Nat → Int32) (l H : Nat) (x : Sg) : Sg := sNx c (sSee c l H x)
/-- class and model are at the same token, with the same code, and at an error at the same place -/
def Sim (x y : Sg) : Prop := x.1 = y.1 ∧ x.2.2 = y.2.2 ∧ (¬ x.1 = 0 → x.2.1 = y.2.1) ∧ (x.1 = 0 → x.2.1 = -1)
theorem Sim.chk {c : Nat → Int32} {ok : Bool} {n : Int32} {x y : Sg} (h : Sim x y) (hn : ¬ n = 0 := by decide) : Sim (sChk c ok n x) (sChk c ok n y) := by
  obtain ⟨h1, h2, h3, h4⟩ := h
  refine ⟨by unfold sChk; rw [h1], h2, ?_, ?_⟩
  rotate_left
  · unfold sChk mZ mP
    dsimp only
    by_cases h0 : x.1 = 0
    · rw [if_pos h0, if_pos h0]
      cases ok
      · exact fun q => absurd q hn
      · exact fun _ => h4 h0
    · rw [if_neg h0]; exact fun q => absurd q h0
  unfold sChk mZ mP
  dsimp only
  by_cases h0 : x.1 = 0
  · rw [if_pos h0, if_pos h0, if_pos (by rw [← h1]; exact h0), h2]
    cases ok
    · exact fun _ => rfl
    · exact fun q => absurd rfl q
  · rw [if_neg h0, if_neg h0, if_neg (by rw [← h1]; exact h0)]
    exact fun _ => h3 h0
theorem Sim.nx {c : Nat → Int32} {x y : Sg} (h : Sim x y) : Sim (sNx c x) (sNx c y) := ⟨h.1, by unfold sNx; rw [h.1, h.2.1], h.2.2.1, h.2.2.2⟩
theorem Sim.wd {c : Nat → Int32} {W : Nat} {x y : Sg} (h : Sim x y) : Sim (sWd c W x) (sWd c W y) := by unfold sWd; rw [h.2.1]; exact h.chk.nx
theorem Sim.mk {c : Nat → Int32} {m : Int32} {x y : Sg} (h : Sim x y) : Sim (sMk c m x) (sMk c m y) := by unfold sMk; rw [h.2.1]; exact h.chk.nx
theorem Sim.see {c : Nat → Int32} {l H : Nat} {x y : Sg} (h : Sim x y) : Sim (sSee c l H x) (sSee c l H y) := by unfold sSee; rw [h.2.1]; exact h.chk.chk
theorem Sim.no {c : Nat → Int32} {l H : Nat} {x y : Sg} (h : Sim x y) : Sim (sNo c l H x) (sNo c l H y) := h.see.nx
theorem sChk_0 {c : Nat → Int32} {ok : Bool} {n : Int32} {x : Sg} (hn : ¬ n = 0) (h : (sChk c ok n x).1 = 0) : x.1 = 0 ∧ ok = true := by
  unfold sChk mZ at h
  dsimp only at h
  by_cases h0 : x.1 = 0
  · rw [if_pos h0] at h
    cases ok
    · exact absurd h hn
    · exact ⟨h0, rfl⟩
  · rw [if_neg h0] at h; exact absurd h h0
theorem sChk_ok {c : Nat → Int32} {n : Int32} (x : Sg) : sChk c true n x = x := by unfold sChk; rw [mZ_true, mP_true]
theorem sChk_bad {c : Nat → Int32} {ok : Bool} {n : Int32} {x : Sg} (h : ¬ x.1 = 0) : sChk c ok n x = x := by
  unfold sChk mZ mP; rw [if_neg h, if_neg h]
theorem sNx_bad {c : Nat → Int32} {x : Sg} (h : ¬ x.1 = 0) : sNx c x = x := by show (x.1, x.2.1, nx c x.1 x.2.2) = x; unfold nx; rw [if_neg h]
theorem sNo_0 {c : Nat → Int32} {l H : Nat} {x : Sg} (h : (sNo c l H x).1 = 0) : x.1 = 0 ∧ bK 2 c x.2.2 = true ∧ bNm l H c x.2.2 = true := by
  have h1 := sChk_0 (by decide) (show (sChk c (bNm l H c x.2.2) 2 (sChk c (bK 2 c x.2.2) 1 x)).1 = 0 from h)
  have h2 := sChk_0 (by decide) h1.1
  exact ⟨h2.1, h2.2, h1.2⟩
theorem sWd_0 {c : Nat → Int32} {W : Nat} {x : Sg} (h : (sWd c W x).1 = 0) : x.1 = 0 ∧ bIs W c x.2.2 = true := sChk_0 (by decide) (show (sChk c (bIs W c x.2.2) 1 x).1 = 0 from h)
theorem sMk_0 {c : Nat → Int32} {m : Int32} {x : Sg} (h : (sMk c m x).1 = 0) : x.1 = 0 ∧ bMk m c x.2.2 = true := sChk_0 (by decide) (show (sChk c (bMk m c x.2.2) 1 x).1 = 0 from h)
section STEPS
variable {N L : Nat} {b c : Nat → Int32} {x : Sg}
theorem sNx_le (h : TX L b c) (hp : x.2.2 ≤ L) : (sNx c x).2.2 ≤ L := nx_le h hp x.1
theorem sNo_le {l H : Nat} (h : TX L b c) (hp : x.2.2 ≤ L) : (sNo c l H x).2.2 ≤ L := sNx_le (x := sSee c l H x) h hp
theorem sWd_le {W : Nat} (h : TX L b c) (hp : x.2.2 ≤ L) : (sWd c W x).2.2 ≤ L := sNx_le (x := sChk c (bIs W c x.2.2) 1 x) h hp
theorem sMk_le {m : Int32} (h : TX L b c) (hp : x.2.2 ≤ L) : (sMk c m x).2.2 ≤ L := sNx_le (x := sChk c (bMk m c x.2.2) 1 x) h hp
theorem kk_see {l H : Nat} (hN : 1000 ≤ N) (h : TX L b c) (hp : x.2.2 ≤ L) (hl : l ≤ 900) (hH : H ≤ 900) : F_X10_seeNumber N (nI l) (nI H) x.1 (nI (tE c x.2.2)) (tK c x.2.2) x.2.1 (nI (tQ c x.2.2)) (nI L) b = some (kV l H c x.2.2, (sSee c l H x).1, (sSee c l H x).2.1) := k_see hN h hp hl hH _ _
theorem kk_num {l H : Nat} (hN : 1000 ≤ N) (h : TX L b c) (hp : x.2.2 ≤ L) (hl : l ≤ 900) (hH : H ≤ 900) : F_X10_readNumber N (nI l) (nI H) x.1 (nI (tE c x.2.2)) (tK c x.2.2) x.2.1 (nI (tQ c x.2.2)) (nI L) b = some (kV l H c x.2.2, (sNo c l H x).1, nI (tE c (sNo c l H x).2.2), tK c (sNo c l H x).2.2, (sNo c l H x).2.1, nI (tQ c (sNo c l H x).2.2)) := k_num hN h hp hl hH _ _ rfl rfl
theorem kk_mk {m : Int32} (hN : 1000 ≤ N) (h : TX L b c) (hp : x.2.2 ≤ L) : F_X10_readMark N m x.1 (nI (tE c x.2.2)) (tK c x.2.2) x.2.1 (nI (tQ c x.2.2)) (nI L) b = some ((), (sMk c m x).1, nI (tE c (sMk c m x).2.2), tK c (sMk c m x).2.2, (sMk c m x).2.1, nI (tQ c (sMk c m x).2.2)) := k_rdMark hN h hp m _ _
theorem kk_wd {k0 W : Nat} (hN : 1000 ≤ N) (h : TX L b c) (hp : x.2.2 ≤ L) (hw : F_X10_isWord N k0 (nI (tE c x.2.2)) (tK c x.2.2) (nI (tQ c x.2.2)) (nI L) b = some (cI (bIs W c x.2.2))) : F_X10_readWord N k0 x.1 (nI (tE c x.2.2)) (tK c x.2.2) x.2.1 (nI (tQ c x.2.2)) (nI L) b = some ((), (sWd c W x).1, nI (tE c (sWd c W x).2.2), tK c (sWd c W x).2.2, (sWd c W x).2.1, nI (tQ c (sWd c W x).2.2)) := k_rdWord hN h hp hw _ _
theorem kk_next (hN : 1000 ≤ N) (h : TX L b c) (hp : x.2.2 ≤ L) : F_X10_next N x.1 (nI (tE c x.2.2)) (tK c x.2.2) (nI (tQ c x.2.2)) (nI L) b = some ((), nI (tE c (sNx c x).2.2), tK c (sNx c x).2.2, nI (tQ c (sNx c x).2.2)) := k_nextS hN h hp _
theorem mm_no {l H : Nat} (hN : 1000 ≤ N) (h : TX L b c) (hp : x.2.2 ≤ L) (hl : l ≤ 900) (hH : H ≤ 900) (nb : Int32) {wd : Int64} (hm : MW c x.2.2 nb wd) :
    ∃ nb' wd', F_X12_reads N (nI l) (nI H) (nI (tE c x.2.2)) x.1 x.2.1 (nI (tQ c x.2.2)) (nI L) nb (tK c x.2.2) wd b = some (if (sNo c l H x).1 = 0 then nI (tV c x.2.2) else nI l, nI (tE c (sNo c l H x).2.2), (sNo c l H x).1, (sNo c l H x).2.1, nI (tQ c (sNo c l H x).2.2), nb', tK c (sNo c l H x).2.2, wd') ∧ MW c (sNo c l H x).2.2 nb' wd' := m_reads hN h hp hl hH _ _ nb hm rfl rfl
theorem mm_mk {m : Int32} (hN : 1000 ≤ N) (h : TX L b c) (hp : x.2.2 ≤ L) (nb : Int32) {wd : Int64} (hm : MW c x.2.2 nb wd) :
    ∃ nb' wd', F_X12_sign N m (nI (tE c x.2.2)) x.1 x.2.1 (nI (tQ c x.2.2)) (nI L) nb (tK c x.2.2) wd b = some ((), nI (tE c (sMk c m x).2.2), (sMk c m x).1, (sMk c m x).2.1, nI (tQ c (sMk c m x).2.2), nb', tK c (sMk c m x).2.2, wd') ∧ MW c (sMk c m x).2.2 nb' wd' := m_rdSign hN h hp m _ _ nb hm
theorem mm_nx (hN : 1000 ≤ N) (h : TX L b c) (hp : x.2.2 ≤ L) (nb : Int32) {wd : Int64} (hm : MW c x.2.2 nb wd) :
    ∃ nb' wd', F_X12_goesOn N (nI (tE c x.2.2)) x.1 (nI (tQ c x.2.2)) (nI L) nb (tK c x.2.2) wd b = some ((), nI (tE c (sNx c x).2.2), nI (tQ c (sNx c x).2.2), nb', tK c (sNx c x).2.2, wd') ∧ MW c (sNx c x).2.2 nb' wd' := m_goesOn hN h hp _ nb hm
end STEPS
theorem kV_eq {c : Nat → Int32} {l H p : Nat} (h2 : bK 2 c p = true) (h : bNm l H c p = true) : kV l H c p = nI (tV c p) := by unfold kV; rw [if_pos ⟨h2, h⟩]
theorem kV_r {c : Nat → Int32} {l H p : Nat} (hlH : l ≤ H) (hH : H ≤ 900) : nI l ≤ kV l H c p ∧ kV l H c p ≤ nI H := by
  unfold kV
  split
  · rename_i q
    have := (bNm_iff l H c p).mp q.2
    exact ⟨nI_le this.1 (by omega), nI_le this.2 (by omega)⟩
  · exact ⟨nI_le (Nat.le_refl _) (by omega), nI_le hlH (by omega)⟩
/-! fire and wind -/
def xF1 (c : Nat → Int32) (x : Sg) : Sg := sWd c 493172 x
def xF2 (c : Nat → Int32) (x : Sg) : Sg := sNo c 0 90 (xF1 c x)
def xF3 (c : Nat → Int32) (x : Sg) : Sg := sNo c 0 4 (xF2 c x)
def xF4 (c : Nat → Int32) (x : Sg) : Sg := sNo c 0 7 (xF3 c x)
def xF5 (c : Nat → Int32) (x : Sg) : Sg := sNo c 0 9 (xF4 c x)
def xF6 (c : Nat → Int32) (x : Sg) : Sg := sNo c 0 7 (xF5 c x)
def xF7 (c : Nat → Int32) (x : Sg) : Sg := sMk c 59 (xF6 c x)
theorem Sim.f7 {c : Nat → Int32} {x y : Sg} (h : Sim x y) : Sim (xF7 c x) (xF7 c y) := h.wd.no.no.no.no.no.mk
theorem k_fire {N L : Nat} {b c : Nat → Int32} {x : Sg} (hN : 1000 ≤ N) (h : TX L b c) (hp : x.2.2 ≤ L) (a1 a2 a3 a4 a5 : Int32) :
    F_X8_readFireAndWind N a1 a2 a3 a4 a5 x.1 (nI (tE c x.2.2)) (tK c x.2.2) x.2.1 (nI (tQ c x.2.2)) (nI L) b = some ((), kV 0 90 c (xF1 c x).2.2, kV 0 4 c (xF2 c x).2.2, kV 0 7 c (xF5 c x).2.2, kV 0 7 c (xF3 c x).2.2, kV 0 9 c (xF4 c x).2.2, (xF7 c x).1, nI (tE c (xF7 c x).2.2), tK c (xF7 c x).2.2, (xF7 c x).2.1, nI (tQ c (xF7 c x).2.2)) ∧ (xF7 c x).2.2 ≤ L := by
  have p1 : (xF1 c x).2.2 ≤ L := sWd_le h hp
  have p2 : (xF2 c x).2.2 ≤ L := sNo_le h p1
  have p3 : (xF3 c x).2.2 ≤ L := sNo_le h p2
  have p4 : (xF4 c x).2.2 ≤ L := sNo_le h p3
  have p5 : (xF5 c x).2.2 ≤ L := sNo_le h p4
  have p6 : (xF6 c x).2.2 ≤ L := sNo_le h p5
  refine ⟨?_, sMk_le h p6⟩
  have w := kk_wd (x := x) hN h hp (k0 := 1) (W := 493172) (by rw [k_w1 hN h hp (iIs _ _ _), bIs_cI])
  have n2 : F_X10_readNumber N 0 90 (xF1 c x).1 (nI (tE c (xF1 c x).2.2)) (tK c (xF1 c x).2.2) (xF1 c x).2.1 (nI (tQ c (xF1 c x).2.2)) (nI L) b = some (kV 0 90 c (xF1 c x).2.2, (xF2 c x).1, nI (tE c (xF2 c x).2.2), tK c (xF2 c x).2.2, (xF2 c x).2.1, nI (tQ c (xF2 c x).2.2)) := kk_num (l := 0) (H := 90) hN h p1 (by decide) (by decide)
  have n3 : F_X10_readNumber N 0 4 (xF2 c x).1 (nI (tE c (xF2 c x).2.2)) (tK c (xF2 c x).2.2) (xF2 c x).2.1 (nI (tQ c (xF2 c x).2.2)) (nI L) b = some (kV 0 4 c (xF2 c x).2.2, (xF3 c x).1, nI (tE c (xF3 c x).2.2), tK c (xF3 c x).2.2, (xF3 c x).2.1, nI (tQ c (xF3 c x).2.2)) := kk_num (l := 0) (H := 4) hN h p2 (by decide) (by decide)
  have n4 : F_X10_readNumber N 0 7 (xF3 c x).1 (nI (tE c (xF3 c x).2.2)) (tK c (xF3 c x).2.2) (xF3 c x).2.1 (nI (tQ c (xF3 c x).2.2)) (nI L) b = some (kV 0 7 c (xF3 c x).2.2, (xF4 c x).1, nI (tE c (xF4 c x).2.2), tK c (xF4 c x).2.2, (xF4 c x).2.1, nI (tQ c (xF4 c x).2.2)) := kk_num (l := 0) (H := 7) hN h p3 (by decide) (by decide)
  have n5 : F_X10_readNumber N 0 9 (xF4 c x).1 (nI (tE c (xF4 c x).2.2)) (tK c (xF4 c x).2.2) (xF4 c x).2.1 (nI (tQ c (xF4 c x).2.2)) (nI L) b = some (kV 0 9 c (xF4 c x).2.2, (xF5 c x).1, nI (tE c (xF5 c x).2.2), tK c (xF5 c x).2.2, (xF5 c x).2.1, nI (tQ c (xF5 c x).2.2)) := kk_num (l := 0) (H := 9) hN h p4 (by decide) (by decide)
  have n6 : F_X10_readNumber N 0 7 (xF5 c x).1 (nI (tE c (xF5 c x).2.2)) (tK c (xF5 c x).2.2) (xF5 c x).2.1 (nI (tQ c (xF5 c x).2.2)) (nI L) b = some (kV 0 7 c (xF5 c x).2.2, (xF6 c x).1, nI (tE c (xF6 c x).2.2), tK c (xF6 c x).2.2, (xF6 c x).2.1, nI (tQ c (xF6 c x).2.2)) := kk_num (l := 0) (H := 7) hN h p5 (by decide) (by decide)
  have w' : F_X10_readWord N 1 x.1 (nI (tE c x.2.2)) (tK c x.2.2) x.2.1 (nI (tQ c x.2.2)) (nI L) b = some ((), (xF1 c x).1, nI (tE c (xF1 c x).2.2), tK c (xF1 c x).2.2, (xF1 c x).2.1, nI (tQ c (xF1 c x).2.2)) := w
  have mk : F_X10_readMark N 59 (xF6 c x).1 (nI (tE c (xF6 c x).2.2)) (tK c (xF6 c x).2.2) (xF6 c x).2.1 (nI (tQ c (xF6 c x).2.2)) (nI L) b = some ((), (xF7 c x).1, nI (tE c (xF7 c x).2.2), tK c (xF7 c x).2.2, (xF7 c x).2.1, nI (tQ c (xF7 c x).2.2)) := kk_mk hN h p6
  unfold F_X8_readFireAndWind
  rw [w', Option.bind_some]
  dsimp only
  rw [n2, Option.bind_some]
  dsimp only
  rw [n3, Option.bind_some]
  dsimp only
  rw [n4, Option.bind_some]
  dsimp only
  rw [n5, Option.bind_some]
  dsimp only
  rw [n6, Option.bind_some]
  dsimp only
  rw [mk, Option.bind_some]
/-- the value as the model reads it -/
def mV (c : Nat → Int32) (l : Nat) (z : Int32) (p : Nat) : Int32 := if z = 0 then nI (tV c p) else nI l
def sFire (c : Nat → Int32) (y : Sg) (s : Nat → Int32) : Nat → Int32 := upd (upd (upd (upd (upd s 1 (mV c 0 (xF2 c y).1 (xF1 c y).2.2)) 2 (mV c 0 (xF3 c y).1 (xF2 c y).2.2)) 3 (mV c 0 (xF4 c y).1 (xF3 c y).2.2)) 4 (mV c 0 (xF5 c y).1 (xF4 c y).2.2)) 5 (mV c 0 (xF6 c y).1 (xF5 c y).2.2)
theorem m_fire {N L : Nat} {b c : Nat → Int32} {y : Sg} (hN : 1000 ≤ N) (h : TX L b c) (hp : y.2.2 ≤ L) (nb : Int32) {wd : Int64} (hm : MW c y.2.2 nb wd) (s : Nat → Int32) :
    ∃ nb' wd', F_X12_setup N (nI (tE c y.2.2)) y.1 y.2.1 (nI (tQ c y.2.2)) (nI L) nb (tK c y.2.2) wd s b = F_X12_setup_b98 N (nI L) b N (nI (tE c (xF7 c y).2.2)) (sChk c (bIs 6700530 c (xF7 c y).2.2) 1 (xF7 c y)).1 (sChk c (bIs 6700530 c (xF7 c y).2.2) 1 (xF7 c y)).2.1 (nI (tQ c (xF7 c y).2.2)) nb' (tK c (xF7 c y).2.2) wd' (sFire c y s) ∧ MW c (xF7 c y).2.2 nb' wd' := by
  have p1 : (xF1 c y).2.2 ≤ L := sWd_le h hp
  have p2 : (xF2 c y).2.2 ≤ L := sNo_le h p1
  have p3 : (xF3 c y).2.2 ≤ L := sNo_le h p2
  have p4 : (xF4 c y).2.2 ≤ L := sNo_le h p3
  have p5 : (xF5 c y).2.2 ≤ L := sNo_le h p4
  have p6 : (xF6 c y).2.2 ≤ L := sNo_le h p5
  have p7 : (xF7 c y).2.2 ≤ L := sMk_le h p6
  obtain ⟨nb1, wd1, g1, m1⟩ := mm_nx (x := sChk c (bIs 493172 c y.2.2) 1 y) hN h hp nb hm
  obtain ⟨nb2, wd2, g2, m2⟩ := mm_no (x := xF1 c y) (l := 0) (H := 90) hN h p1 (by decide) (by decide) nb1 m1
  obtain ⟨nb3, wd3, g3, m3⟩ := mm_no (x := xF2 c y) (l := 0) (H := 4) hN h p2 (by decide) (by decide) nb2 m2
  obtain ⟨nb4, wd4, g4, m4⟩ := mm_no (x := xF3 c y) (l := 0) (H := 7) hN h p3 (by decide) (by decide) nb3 m3
  obtain ⟨nb5, wd5, g5, m5⟩ := mm_no (x := xF4 c y) (l := 0) (H := 9) hN h p4 (by decide) (by decide) nb4 m4
  obtain ⟨nb6, wd6, g6, m6⟩ := mm_no (x := xF5 c y) (l := 0) (H := 7) hN h p5 (by decide) (by decide) nb5 m5
  obtain ⟨nb7, wd7, g7, m7⟩ := mm_mk (x := xF6 c y) (m := 59) hN h p6 nb6 m6
  refine ⟨nb7, wd7, ?_, m7⟩
  unfold F_X12_setup
  rw [show F_X12_isWord (Int64.ofNat 493172) (nI (tE c y.2.2)) y.1 (nI (tQ c y.2.2)) (tK c y.2.2) wd = some (cI (decide (y.1 = 0) && bIs 493172 c y.2.2)) from m_isW 493172 h hp y.1 hm.2, Option.bind_some, m_must, Option.bind_some, mZ_and, mP_and]
  have g1' : F_X12_goesOn N (nI (tE c y.2.2)) (mZ y.1 (bIs 493172 c y.2.2) 1) (nI (tQ c y.2.2)) (nI L) nb (tK c y.2.2) wd b = some ((), nI (tE c (xF1 c y).2.2), nI (tQ c (xF1 c y).2.2), nb1, tK c (xF1 c y).2.2, wd1) := g1
  dsimp only
  rw [g1', Option.bind_some]
  have g2' : F_X12_reads N 0 90 (nI (tE c (xF1 c y).2.2)) (mZ y.1 (bIs 493172 c y.2.2) 1) (mP y.1 (bIs 493172 c y.2.2) (nI (tQ c y.2.2)) y.2.1) (nI (tQ c (xF1 c y).2.2)) (nI L) nb1 (tK c (xF1 c y).2.2) wd1 b = some (mV c 0 (xF2 c y).1 (xF1 c y).2.2, nI (tE c (xF2 c y).2.2), (xF2 c y).1, (xF2 c y).2.1, nI (tQ c (xF2 c y).2.2), nb2, tK c (xF2 c y).2.2, wd2) := g2
  dsimp only
  rw [g2', Option.bind_some]
  have g3' : F_X12_reads N 0 4 (nI (tE c (xF2 c y).2.2)) (xF2 c y).1 (xF2 c y).2.1 (nI (tQ c (xF2 c y).2.2)) (nI L) nb2 (tK c (xF2 c y).2.2) wd2 b = some (mV c 0 (xF3 c y).1 (xF2 c y).2.2, nI (tE c (xF3 c y).2.2), (xF3 c y).1, (xF3 c y).2.1, nI (tQ c (xF3 c y).2.2), nb3, tK c (xF3 c y).2.2, wd3) := g3
  dsimp only
  rw [g3', Option.bind_some]
  have g4' : F_X12_reads N 0 7 (nI (tE c (xF3 c y).2.2)) (xF3 c y).1 (xF3 c y).2.1 (nI (tQ c (xF3 c y).2.2)) (nI L) nb3 (tK c (xF3 c y).2.2) wd3 b = some (mV c 0 (xF4 c y).1 (xF3 c y).2.2, nI (tE c (xF4 c y).2.2), (xF4 c y).1, (xF4 c y).2.1, nI (tQ c (xF4 c y).2.2), nb4, tK c (xF4 c y).2.2, wd4) := g4
  dsimp only
  rw [g4', Option.bind_some]
  have g5' : F_X12_reads N 0 9 (nI (tE c (xF4 c y).2.2)) (xF4 c y).1 (xF4 c y).2.1 (nI (tQ c (xF4 c y).2.2)) (nI L) nb4 (tK c (xF4 c y).2.2) wd4 b = some (mV c 0 (xF5 c y).1 (xF4 c y).2.2, nI (tE c (xF5 c y).2.2), (xF5 c y).1, (xF5 c y).2.1, nI (tQ c (xF5 c y).2.2), nb5, tK c (xF5 c y).2.2, wd5) := g5
  dsimp only
  rw [g5', Option.bind_some]
  have g6' : F_X12_reads N 0 7 (nI (tE c (xF5 c y).2.2)) (xF5 c y).1 (xF5 c y).2.1 (nI (tQ c (xF5 c y).2.2)) (nI L) nb5 (tK c (xF5 c y).2.2) wd5 b = some (mV c 0 (xF6 c y).1 (xF5 c y).2.2, nI (tE c (xF6 c y).2.2), (xF6 c y).1, (xF6 c y).2.1, nI (tQ c (xF6 c y).2.2), nb6, tK c (xF6 c y).2.2, wd6) := g6
  dsimp only
  rw [g6', Option.bind_some]
  have g7' : F_X12_sign N 59 (nI (tE c (xF6 c y).2.2)) (xF6 c y).1 (xF6 c y).2.1 (nI (tQ c (xF6 c y).2.2)) (nI L) nb6 (tK c (xF6 c y).2.2) wd6 b = some ((), nI (tE c (xF7 c y).2.2), (xF7 c y).1, (xF7 c y).2.1, nI (tQ c (xF7 c y).2.2), nb7, tK c (xF7 c y).2.2, wd7) := g7
  dsimp only
  rw [g7', Option.bind_some]
  dsimp only
  rw [show F_X12_isWord (Int64.ofNat 6700530) (nI (tE c (xF7 c y).2.2)) (xF7 c y).1 (nI (tQ c (xF7 c y).2.2)) (tK c (xF7 c y).2.2) wd7 = some (cI (decide ((xF7 c y).1 = 0) && bIs 6700530 c (xF7 c y).2.2)) from m_isW 6700530 h p7 (xF7 c y).1 m7.2, Option.bind_some, m_must, Option.bind_some, mZ_and, mP_and]
  rfl
