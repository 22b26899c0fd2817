/-! PURE: a minute in the words of the law's house -/
def lTick (s : Nat → Int32) : Nat → Int32 := upd (upd s 0 (s 0 + 1)) 1 (if (s 0 + 1) - (s 0 + 1) / 10 * 10 = 0 then (if 0 < s 1 - 1 then s 1 - 1 else 0) else s 1)
def lVane (s : Nat → Int32) : Int32 := if pCw s < 5 then s 5 + 1 else s 5 + 7
def lTurn (s : Nat → Int32) : Nat → Int32 := if 1 < s 4 ∧ 0 < pDv s then upd (upd s 5 (lVane s - lVane s / 8 * 8)) 13 (s 13 + 1) else s
def lMo (q T D : Int32) : Int32 := if 0 < q - ((T - 15) * (D + 1)) / 10 then q - ((T - 15) * (D + 1)) / 10 else 0
def lSc (c : Int32) : Int32 := if c + 1 < 100 then c + 1 else 100
def lDry (s : Nat → Int32) (T D : Int32) (i : Nat) : Nat → Int32 := if s (15 + 4 * i) = 0 then s else if 60 < T ∧ lMo (s (16 + 4 * i)) T D < 200 then upd (upd s (16 + 4 * i) (lMo (s (16 + 4 * i)) T D)) (17 + 4 * i) (lSc (s (17 + 4 * i))) else upd s (16 + 4 * i) (lMo (s (16 + 4 * i)) T D)
def lDryA (t : Nat → Int32) (D : Int32) : Nat → Nat → (Nat → Int32) → Nat → Int32
  | 0, _, s => s
  | d + 1, i, s => lDryA t D d (i + 1) (lDry s (t i) D i)
theorem lDryA_cong {t t' : Nat → Int32} {D : Int32} : ∀ (d i : Nat) (s : Nat → Int32), (∀ j, i ≤ j → j < i + d → t j = t' j) → lDryA t D d i s = lDryA t' D d i s := by
  intro d
  induction d with
  | zero => intro i s h; rfl
  | succ d ih => intro i s h; rw [lDryA, lDryA, h i (by omega) (by omega)]; exact ih (i + 1) _ (fun j h1 h2 => h j (by omega) (by omega))
def lHt (st mo he : Int32) : Int32 := if lGl st mo he = 0 then (if 15 < he - 1 then he - 1 else 15) else he + 2
def lUp (s : Nat → Int32) (k : Nat) : Nat → Int32 := if s (30 + 5 * k) = 0 then upd s (34 + 5 * k) (s (34 + 5 * k) + 10) else s
def lUpL (s : Nat → Int32) (i : Nat) : Nat → Int32 := if 0 < i then lUp s (i - 1) else s
def lUpR (ns : Nat) (s : Nat → Int32) (i : Nat) : Nat → Int32 := if i + 1 < ns then lUp s (i + 1) else s
def lBurn (s : Nat → Int32) (i : Nat) : Nat → Int32 := upd (upd s (30 + 5 * i) 2) 10 (s 10 + s (31 + 5 * i))
def lHe (s : Nat → Int32) (i : Nat) : Int32 := lHt (s (30 + 5 * i)) (s (32 + 5 * i)) (s (34 + 5 * i))
def lGlow (ns : Nat) (s : Nat → Int32) (i : Nat) : Nat → Int32 := if s (30 + 5 * i) = 0 then (if lHe s i < 100 then upd s (34 + 5 * i) (lHe s i) else lUpR ns (lUpL (lBurn (upd s (34 + 5 * i) (lHe s i)) i) i) i) else s
def lGlowC (s : Nat → Int32) (i : Nat) : Int32 := if s (30 + 5 * i) = 0 then (if lHe s i < 100 then 0 else 1) else 0
def lGlowA (ns : Nat) : Nat → Nat → (Nat → Int32) → Nat → Int32
  | 0, _, s => s
  | d + 1, i, s => lGlowA ns d (i + 1) (lGlow ns s i)
def lGlowN (ns : Nat) : Nat → Nat → (Nat → Int32) → Int32
  | 0, _, _ => 0
  | d + 1, i, s => lGlowC s i + lGlowN ns d (i + 1) (lGlow ns s i)
/-- before the damper -/
def lAir (s : Nat → Int32) : Nat → Int32 := lTurn (lTick s)
def lDried (nf : Nat) (s : Nat → Int32) : Nat → Int32 := lDryA (pT (lAir s)) (pD (lAir s)) nf 0 (lAir s)
def lMid (nf ns : Nat) (s : Nat → Int32) : Nat → Int32 := lGlowA ns ns 0 (lDried nf s)
def lPass (nf ns : Nat) (s : Nat → Int32) : Nat → Int32 := pDamp nf (lMid nf ns s)
def lCnt (nf ns : Nat) (s : Nat → Int32) : Int32 := lGlowN ns ns 0 (lDried nf s)
theorem lMo_eq {q T D : Int32} (h0 : 0 ≤ q) (hX : 0 ≤ pX T D) : lMo q T D = q - (if q ≤ pX T D then q else pX T D) := by
  have e : ((T - 15) * (D + 1)) / 10 = pX T D := by unfold pX; rw [Int32.add_comm D 1]
  unfold lMo
  rw [e]
  by_cases h : q ≤ pX T D
  · rw [if_pos h, if_neg (by grind), Int32.sub_self]
  · rw [if_neg h, if_pos (by grind)]
theorem lSc_eq {c : Int32} (h0 : 0 ≤ c) (h1 : c ≤ 100) : lSc c = if c < 100 then c + 1 else c := by unfold lSc; grind
theorem lTurn_p {s : Nat → Int32} (hA : pAir s) : (if s 4 < 2 then s else if pCw s = 0 then s else upd (upd s 5 ((s 5 + if 4 < pCw s then 7 else 1) - (s 5 + if 4 < pCw s then 7 else 1) / 8 * 8)) 13 (s 13 + 1)) = lTurn s := by
  have hc := pCw_r hA
  have hd : (0 < pDv s) ↔ ¬ pCw s = 0 := by unfold pDv; grind
  unfold lTurn
  by_cases h1 : s 4 < 2
  · rw [if_pos h1, if_neg (by grind)]
  · rw [if_neg h1]
    by_cases h2 : pCw s = 0
    · rw [if_pos h2, if_neg (fun q => hd.mp q.2 h2)]
    · rw [if_neg h2, if_pos (show 1 < s 4 ∧ 0 < pDv s from ⟨by grind, hd.mpr h2⟩)]
      have e : lVane s = s 5 + if 4 < pCw s then 7 else 1 := by
        unfold lVane
        by_cases h3 : 4 < pCw s
        · rw [if_pos h3, if_neg (by grind)]
        · rw [if_neg h3, if_pos (by grind)]
      rw [e]
theorem p_turnL {s : Nat → Int32} (hA : pAir s) : ∃ (c : Int32) (s' : Nat → Int32), F_X0_turnVane (s 5) (s 3) (s 4) = some (c, s' 5) ∧ F_X12_turns s = some ((), s') ∧ s' 13 = s 13 + c ∧ (∀ j, j ≠ 5 → j ≠ 13 → s' j = s j) ∧ pAir s' ∧ s' = lTurn s := by
  have hL := lTurn_p hA
  have hc := pCw_r hA
  have e0 : s 13 + 0 = s 13 := by grind
  by_cases h1 : s 4 < 2
  · refine ⟨0, s, ?_, ?_, e0.symm, fun _ _ _ => rfl, hA, by rw [if_pos h1] at hL; exact hL⟩
    · unfold F_X0_turnVane F_X0_turnVane_b17; rw [k_cw, Option.bind_some, if_pos h1]
    · unfold F_X12_turns; rw [tn4, if_pos h1]
  · by_cases h2 : pCw s = 0
    · refine ⟨0, s, ?_, ?_, e0.symm, fun _ _ _ => rfl, hA, by rw [if_neg h1, if_pos h2] at hL; exact hL⟩
      · unfold F_X0_turnVane F_X0_turnVane_b17; rw [k_cw, Option.bind_some, if_neg h1, if_pos h2]
      · unfold F_X12_turns; rw [tn4, if_neg h1, m_dv, Option.bind_some, if_pos (by unfold pDv; rw [h2]; rfl)]
    · have hdv : ¬ pDv s = 0 := by unfold pDv; split <;> grind
      have go : ∀ z : Int32, 0 ≤ z → z ≤ 7 → ∃ s', F_X12_turns_b32 z s = some ((), s') ∧ s' 5 = (s 5 + z) - (s 5 + z) / 8 * 8 ∧ s' 13 = s 13 + 1 ∧ (∀ j, j ≠ 5 → j ≠ 13 → s' j = s j) ∧ pAir s' ∧ s' = upd (upd s 5 ((s 5 + z) - (s 5 + z) / 8 * 8)) 13 (s 13 + 1) := by
        intro z hz0 hz7
        refine ⟨_, rfl, ?_, ?_, fun j h5 h13 => ?_, ?_, by rw [tn5, tn13, upd_o _ _ (show 13 ≠ 5 by decide)]⟩
        · rw [tn5, tn13, upd_o _ _ (by decide), upd_s]
        · rw [tn5, tn13, upd_s, upd_o _ _ (by decide)]
        · rw [tn5, tn13, upd_o _ _ h13, upd_o _ _ h5]
        · have hA2 := hA.2.2.2
          have hr := p_rem8 (x := s 5 + z) (by grind) (by grind)
          unfold pAir
          rw [tn5, tn13, upd_o _ _ (show 2 ≠ 13 by decide), upd_o _ _ (show 2 ≠ 5 by decide), upd_o _ _ (show 3 ≠ 13 by decide), upd_o _ _ (show 3 ≠ 5 by decide), upd_o _ _ (show 4 ≠ 13 by decide), upd_o _ _ (show 4 ≠ 5 by decide), upd_o _ _ (show 5 ≠ 13 by decide), upd_s]
          exact ⟨hA.1, hA.2.1, hA.2.2.1, hr⟩
      by_cases h3 : 4 < pCw s
      · obtain ⟨s', g1, g2, g3, g4, g5, g6⟩ := go 7 (by decide) (by decide)
        refine ⟨1, s', ?_, ?_, g3, g4, g5, by rw [if_neg h1, if_neg h2, if_pos h3] at hL; rw [g6]; exact hL⟩
        · unfold F_X0_turnVane F_X0_turnVane_b30; rw [k_cw, Option.bind_some, if_neg h1, if_neg h2, if_pos h3, g2]
        · unfold F_X12_turns; rw [tn4, if_neg h1, m_dv, Option.bind_some, if_neg hdv, m_cw, Option.bind_some, if_pos h3, g1]
      · obtain ⟨s', g1, g2, g3, g4, g5, g6⟩ := go 1 (by decide) (by decide)
        refine ⟨1, s', ?_, ?_, g3, g4, g5, by rw [if_neg h1, if_neg h2, if_neg h3] at hL; rw [g6]; exact hL⟩
        · unfold F_X0_turnVane F_X0_turnVane_b30; rw [k_cw, Option.bind_some, if_neg h1, if_neg h2, if_neg h3, g2]
        · unfold F_X12_turns; rw [tn4, if_neg h1, m_dv, Option.bind_some, if_neg hdv, m_cw, Option.bind_some, if_neg h3, g1]
theorem d_oneL {N nf i : Nat} {f : Nat → Nat → Int32} {s w : Nat → Int32} {T D : Int32} (hnf : nf ≤ 4) (hi : i < nf) (h6 : s 6 = nI nf) (hF : RF nf f s) (hT : 15 ≤ T ∧ T ≤ 200) (hD : 0 ≤ D ∧ D ≤ 17) (hw : w i = T) :
    ∃ (g2 g3 s' : Nat → Int32), F_X1_dryLoad (nI i) T D (nI nf) (f 1) (f 2) (f 3) = some ((), g2, g3) ∧ (∀ k, F_X12_driesAll_b37 N (k + 1) D (nI i) s w = F_X12_driesAll_b37 N k D (nI (i + 1)) s' w) ∧ RF nf (va_up (va_up f 2 g2) 3 g3) s' ∧ eqOut s s' ∧ s' = lDry s T D i := by
  obtain ⟨hl, hm, hq, hsc, hp, hz⟩ := hF i hi
  have hxi : xin (nI i) 4 = true := xin_nI (by omega) (by decide)
  have hx2 : xin (nI (16 + 4 * i)) 130 = true := xin_nI (by omega) (by decide)
  have hx3 : xin (nI (17 + 4 * i)) 130 = true := xin_nI (by omega) (by decide)
  have hle : ¬ s 6 ≤ nI i := by rw [h6]; exact nI_ge (by omega) (by omega)
  have kd := fun (a b : Int32) => k_dec (f := f) hnf hi a b
  by_cases h0 : f 1 i ≤ 0
  · refine ⟨f 2, f 3, s, ?_, fun k => ?_, ?_, eqOut.rf, by unfold lDry; rw [if_pos (by rw [hm.1]; grind)]⟩
    · unfold F_X1_dryLoad
      rw [k_taken hnf hi, Option.bind_some, if_pos h0, if_pos rfl]
    · rw [F_X12_driesAll_b37]
      unfold F_X12_driesAll_b138
      rw [tn6, if_neg hle, show F_X12_isLoaded (nI i) s = some 0 by rw [m_loaded (by omega), hm.1, if_pos h0], Option.bind_some, if_pos rfl, nI_1]
    · have e : va_up (va_up f 2 (f 2)) 3 (f 3) = f := by
        funext k; unfold va_up; split
        · rename_i h; rw [h]
        · split
          · rename_i h; rw [h]
          · rfl
      rw [e]; exact hF
  · obtain ⟨e2, e3⟩ := hp (by grind)
    obtain ⟨x, hx⟩ : ∃ x, x = (if f 2 i ≤ pX T D then f 2 i else pX T D) := ⟨_, rfl⟩
    have hX := pX_r hT hD
    have hxr : 0 ≤ x ∧ x ≤ f 2 i := by rw [hx]; split <;> grind
    obtain ⟨c, hc⟩ : ∃ c : Bool, c = decide (60 < T ∧ f 2 i - x < 200 ∧ f 3 i < 100) := ⟨_, rfl⟩
    obtain ⟨m', hm'⟩ : ∃ m', m' = f 2 i - x := ⟨_, rfl⟩
    obtain ⟨c', hc'⟩ : ∃ c', c' = (if 60 < T ∧ m' < 200 ∧ f 3 i < 100 then f 3 i + 1 else f 3 i) := ⟨_, rfl⟩
    have hcr : 0 ≤ c' ∧ c' ≤ 100 := by rw [hc']; split <;> grind
    have hmr : 0 ≤ m' ∧ m' ≤ 800 := by rw [hm']; grind
    obtain ⟨s1, hs1⟩ : ∃ s1, s1 = upd s (16 + 4 * i) m' := ⟨_, rfl⟩
    have hup : ∀ (g : Nat → Int32), g i = f 3 i → (if 60 < T ∧ m' < 200 ∧ f 3 i < 100 then upd g i (f 3 i + 1) else g) = upd g i c' := by
      intro g hg
      rw [hc']
      split
      · rfl
      · funext j; unfold upd; split
        · rename_i h; rw [h, hg]
        · rfl
    refine ⟨upd (f 2) i m', upd (f 3) i c', upd s1 (17 + 4 * i) c', ?_, fun k => ?_, fun j hj => ?_, ⟨fun j hj => ?_, fun j hj => ?_⟩, ?_⟩
    · unfold F_X1_dryLoad
      rw [k_taken hnf hi, Option.bind_some, if_neg h0, if_neg (by decide), if_pos hxi, kd T D, Option.bind_some, if_neg h0, ← hx, tnI (by omega), if_pos hxi, ← hm']
      rw [← hup (f 3) rfl]
      by_cases c1 : T ≤ 60
      · rw [if_pos c1, if_neg (by grind)]
      · rw [if_neg c1, if_pos hxi, upd_s]
        by_cases c2 : 200 ≤ m'
        · rw [if_pos c2, if_neg (by grind)]
        · rw [if_neg c2, if_pos hxi]
          by_cases c3 : 100 ≤ f 3 i
          · rw [if_pos c3, if_neg (by grind)]
          · rw [if_neg c3, if_pos hxi, if_pos hxi, if_pos (by grind)]
    · rw [F_X12_driesAll_b37]
      unfold F_X12_driesAll_b119 F_X12_driesAll_b120 F_X12_driesAll_b138
      rw [tn6, if_neg hle, show F_X12_isLoaded (nI i) s = some 1 by rw [m_loaded (by omega), hm.1, if_neg h0], Option.bind_some, if_neg (by decide), m_atF2, Option.bind_some, if_pos hx2, if_pos hxi, tnI (k := i) (by omega), hw, m_dries (by omega), Option.bind_some, e2, ← hx, if_pos hx2, if_pos hxi, tnI (k := 16 + 4 * i) (by omega), e2, ← hm', ← hs1, m_atF3, Option.bind_some, Option.bind_some, if_pos hx3, if_pos hx3, tnI (k := 17 + 4 * i) (by omega), nI_1]
      have es3 : s1 (17 + 4 * i) = f 3 i := by rw [hs1, upd_o _ _ (by omega), e3]
      have es2 : s1 (16 + 4 * i) = m' := by rw [hs1, upd_s]
      have f0 : F_X12_flag 0 = some 0 := rfl
      have f1 : F_X12_flag 1 = some 1 := rfl
      have hz0 : upd s1 (17 + 4 * i) (f 3 i + 0) = upd s1 (17 + 4 * i) (f 3 i) := by rw [show f 3 i + 0 = f 3 i by grind]
      rw [f0, f1, Option.bind_some, Option.bind_some, if_pos hx3, if_pos hx3, m_on2 (by omega), Option.bind_some, m_on3 (by omega), Option.bind_some, es3, es2, hz0, hc']
      by_cases c1 : T ≤ 60
      · rw [if_pos c1, if_neg (by grind)]
      · rw [if_neg c1]
        by_cases c2 : 200 ≤ m'
        · rw [if_pos c2, if_neg (by grind)]
        · rw [if_neg c2]
          by_cases c3 : 100 ≤ f 3 i
          · rw [if_pos c3, if_neg (by grind)]
          · rw [if_neg c3, if_pos (by grind)]
    · obtain ⟨gl, gm, gq, gs, gp, gz⟩ := hF j hj
      have q0 : (va_up (va_up f 2 (upd (f 2) i m')) 3 (upd (f 3) i c')) 0 = f 0 := rfl
      have q1 : (va_up (va_up f 2 (upd (f 2) i m')) 3 (upd (f 3) i c')) 1 = f 1 := rfl
      have q2 : (va_up (va_up f 2 (upd (f 2) i m')) 3 (upd (f 3) i c')) 2 = upd (f 2) i m' := rfl
      have q3 : (va_up (va_up f 2 (upd (f 2) i m')) 3 (upd (f 3) i c')) 3 = upd (f 3) i c' := rfl
      rw [q0, q1, q2, q3, hs1]
      rw [upd_o _ _ (show 14 + 4 * j ≠ 17 + 4 * i by omega), upd_o _ _ (show 14 + 4 * j ≠ 16 + 4 * i by omega), upd_o _ _ (show 15 + 4 * j ≠ 17 + 4 * i by omega), upd_o _ _ (show 15 + 4 * j ≠ 16 + 4 * i by omega), upd_o _ _ (show 16 + 4 * j ≠ 17 + 4 * i by omega)]
      by_cases hij : j = i
      · subst hij
        rw [upd_s, upd_s, upd_s, upd_s]
        exact ⟨gl, gm, hmr, hcr, fun _ => ⟨rfl, rfl⟩, fun h => absurd h h0⟩
      · rw [upd_o _ _ (show 16 + 4 * j ≠ 16 + 4 * i by omega), upd_o _ _ (show 17 + 4 * j ≠ 17 + 4 * i by omega), upd_o _ _ (show 17 + 4 * j ≠ 16 + 4 * i by omega), upd_o _ _ hij, upd_o _ _ hij]
        exact ⟨gl, gm, gq, gs, gp, gz⟩
    · rw [upd_o _ _ (by omega), hs1, upd_o _ _ (by omega)]
    · rw [upd_o _ _ (by omega), hs1, upd_o _ _ (by omega)]
    · have em : lMo (s (16 + 4 * i)) T D = m' := by rw [lMo_eq hq.1 hX, e2, ← hx, hm']
      have ec : lSc (s (17 + 4 * i)) = if f 3 i < 100 then f 3 i + 1 else f 3 i := by rw [lSc_eq hsc.1 hsc.2, e3]
      unfold lDry
      rw [if_neg (by rw [hm.1]; grind), em, ec, hs1, hc']
      by_cases c1 : 60 < T ∧ m' < 200
      · rw [if_pos c1]
        by_cases c3 : f 3 i < 100
        · rw [if_pos c3, if_pos ⟨c1.1, c1.2, c3⟩]
        · rw [if_neg c3, if_neg (fun q => c3 q.2.2)]
      · rw [if_neg c1, if_neg (fun q => c1 ⟨q.1, q.2.1⟩)]
        exact upd_id (by rw [upd_o _ _ (by omega), e3])
theorem d_allL {N nf : Nat} (hnf : nf ≤ 4) {D : Int32} (hD : 0 ≤ D ∧ D ≤ 17) {w t : Nat → Int32} (hw : ∀ i, i < nf → w i = t i ∧ 15 ≤ t i ∧ t i ≤ 200) : ∀ (d i : Nat) (f : Nat → Nat → Int32) (s : Nat → Int32), i + d = nf → s 6 = nI nf → RF nf f s →
    ∃ (g2 g3 s' : Nat → Int32), (∀ fu, d < fu → F_X3_dryLoads_b41 N (nI nf) (f 1) fu D (nI i) (f 2) (f 3) t = some ((), g2, g3, t)) ∧ (∀ fu, d < fu → F_X12_driesAll_b37 N fu D (nI i) s w = some ((), s', w)) ∧ RF nf (va_up (va_up f 2 g2) 3 g3) s' ∧ eqOut s s' ∧ s' = lDryA t D d i s := by
  intro d
  induction d with
  | zero =>
    intro i f s hi h6 hF
    obtain rfl : i = nf := by omega
    refine ⟨f 2, f 3, s, fun fu hf => ?_, fun fu hf => ?_, ?_, eqOut.rf, rfl⟩
    · obtain ⟨k, rfl⟩ : ∃ k, fu = k + 1 := ⟨fu - 1, by omega⟩
      rw [F_X3_dryLoads_b41, if_pos (nI_le (Nat.le_refl _) (by omega))]
    · obtain ⟨k, rfl⟩ : ∃ k, fu = k + 1 := ⟨fu - 1, by omega⟩
      rw [F_X12_driesAll_b37, tn6, h6, if_pos (nI_le (Nat.le_refl _) (by omega))]
    · have e : va_up (va_up f 2 (f 2)) 3 (f 3) = f := by
        funext k; unfold va_up; split
        · rename_i h; rw [h]
        · split
          · rename_i h; rw [h]
          · rfl
      rw [e]; exact hF
  | succ d ih =>
    intro i f s hi h6 hF
    have hwi := hw i (by omega)
    obtain ⟨g2, g3, s1, h1, h2, h3, h4, h5⟩ := d_oneL (N := N) (w := w) (T := t i) hnf (i := i) (by omega) h6 hF ⟨hwi.2.1, hwi.2.2⟩ hD hwi.1
    obtain ⟨k2, k3, s2, j1, j2, j3, j4, j5⟩ := ih (i + 1) (va_up (va_up f 2 g2) 3 g3) s1 (by omega) (by rw [h4.1 6 (by decide)]; exact h6) h3
    refine ⟨k2, k3, s2, fun fu hf => ?_, fun fu hf => ?_, ?_, h4.tr j4, by rw [j5, h5]; rfl⟩
    · obtain ⟨k, rfl⟩ : ∃ k, fu = k + 1 := ⟨fu - 1, by omega⟩
      rw [F_X3_dryLoads_b41, if_neg (nI_ge (by omega) (by omega)), if_pos (xin_nI (by omega) (by decide)), tnI (by omega), h1, Option.bind_some, nI_1]
      exact j1 k (by omega)
    · obtain ⟨k, rfl⟩ : ∃ k, fu = k + 1 := ⟨fu - 1, by omega⟩
      rw [h2]
      exact j2 k (by omega)
    · have e : va_up (va_up (va_up (va_up f 2 g2) 3 g3) 2 k2) 3 k3 = va_up (va_up f 2 k2) 3 k3 := by
        funext k; unfold va_up; split
        · rfl
        · split
          · rfl
          · rfl
      rw [e] at j3
      exact j3
theorem d_dryL {N nf : Nat} {f : Nat → Nat → Int32} {s : Nat → Int32} (hN : 1000 ≤ N) (hnf : nf ≤ 4) (h6 : s 6 = nI nf) (hF : RF nf f s) (hA : pAir s) (hh : 0 ≤ s 1 ∧ s 1 ≤ 90) (t w : Nat → Int32) :
    ∃ g2 g3 t' s' w', F_X3_dryLoads N (s 1) (s 2) (s 5) (s 3) (s 4) (nI nf) (f 1) (f 2) (f 3) t = some ((), g2, g3, t') ∧ F_X12_driesAll N s w = some ((), s', w') ∧ RF nf (va_up (va_up f 2 g2) 3 g3) s' ∧ eqOut s s' ∧ s' = lDryA (pT s) (pD s) nf 0 s := by
  obtain ⟨t', w', h1, h2, h3⟩ := d_temps hN hnf h6 hF nf 0 t w (by omega) (fun j hj => by omega)
  obtain ⟨g2, g3, s', k1, k2, k3, k4, k5⟩ := d_allL (N := N) hnf (pD_r hA) (w := w') (t := t') (fun i hi => by
    have h := h1 i hi
    have hr := pT_r hF hA hh hnf (i := i) (by omega)
    rw [h.1, h.2]
    exact ⟨rfl, by grind, by grind⟩) nf 0 f s (by omega) h6 hF
  refine ⟨g2, g3, t', s', w', ?_, ?_, k3, k4, by rw [k5]; exact lDryA_cong nf 0 s (fun j _ hj => (h1 j (by omega)).1)⟩
  · unfold F_X3_dryLoads
    rw [k_d, Option.bind_some]
    exact (h2 N (by omega)).trans (k1 N (by omega))
  · unfold F_X12_driesAll
    rw [m_d, Option.bind_some]
    exact (h3 N (by omega)).trans (k2 N (by omega))
theorem g_heatL {ns : Nat} (hns : ns ≤ 20) (a : Int32) {g t s : Nat → Int32} (h7 : s 7 = nI ns) (hr : ∀ j, j < ns → s (30 + 5 * j) = g j ∧ s (34 + 5 * j) = t j) :
    ∃ t' s', F_X5_heatUp a (nI ns) g t = some ((), t') ∧ F_X12_heats a s = some ((), s') ∧ (∀ j, j < ns → s' (34 + 5 * j) = t' j ∧ t' j = if a = nI j ∧ g j = 0 then t j + 10 else t j) ∧ (∀ x, (∀ j, j < ns → x ≠ 34 + 5 * j) → s' x = s x) ∧ ((a < 0 ∨ nI ns ≤ a) → s' = s) ∧ (∀ k, k < ns → a = nI k → s' = lUp s k) := by
  rcases pk_ix a (n := ns) (by omega) with ha | ha | ⟨k, hk, rfl⟩
  · refine ⟨t, s, ?_, ?_, fun j hj => ⟨(hr j hj).2, ?_⟩, fun _ _ => rfl, fun _ => rfl, fun k hk e => absurd (nI_pos' (show k < 2 ^ 31 by omega)) (by rw [← e]; exact Int32.not_le.mpr ha)⟩
    · unfold F_X5_heatUp; rw [k_stO hns (Or.inl ha), Option.bind_some, if_pos rfl]
    · unfold F_X12_heats; rw [tn7, h7, m_in0, Option.bind_some, if_neg (n_predO hns (Or.inl ha)), if_pos rfl]
    · have h1 : 0 ≤ nI j := nI_pos' (by omega)
      rw [if_neg (by grind)]
  · refine ⟨t, s, ?_, ?_, fun j hj => ⟨(hr j hj).2, ?_⟩, fun _ _ => rfl, fun _ => rfl, fun k hk e => absurd (nI_lt hk (by omega)) (by rw [← e]; exact Int32.not_lt.mpr ha)⟩
    · unfold F_X5_heatUp; rw [k_stO hns (Or.inr ha), Option.bind_some, if_pos rfl]
    · unfold F_X12_heats; rw [tn7, h7, m_in0, Option.bind_some, if_neg (n_predO hns (Or.inr ha)), if_pos rfl]
    · have h1 : nI j < nI ns := nI_lt hj (by omega)
      rw [if_neg (by grind)]
  · have hx : xin (nI k) 20 = true := xin_nI (by omega) (by decide)
    have hx4 : xin (nI (34 + 5 * k)) 130 = true := xin_nI (by omega) (by decide)
    have hin := (n_pred hns k (by omega)).mpr hk
    by_cases h0 : g k = 0
    · refine ⟨upd t k (t k + 10), upd s (34 + 5 * k) (t k + 10), ?_, ?_, fun j hj => ?_, fun x hx => upd_o _ _ (hx k hk), fun q => ?_, fun k2 hk2 e => ?_⟩
      · unfold F_X5_heatUp; rw [k_st hns hk, Option.bind_some, if_pos h0, if_neg (by decide), if_pos hx, if_pos hx, tnI (k := k) (by omega)]
      · unfold F_X12_heats; rw [tn7, h7, m_in0, Option.bind_some, if_pos hin, if_neg (by decide), m_of0 (by omega), Option.bind_some, (hr k hk).1, if_pos h0, m_atS4, Option.bind_some, if_pos hx4, if_pos hx4, tnI (k := 34 + 5 * k) (by omega), (hr k hk).2]
      · by_cases hjk : j = k
        · subst hjk; rw [upd_s, upd_s, if_pos ⟨rfl, h0⟩]; exact ⟨rfl, rfl⟩
        · rw [upd_o _ _ (by omega), upd_o _ _ hjk, if_neg (fun q => hjk ((nI_eq (by omega) (by omega)).mp q.1).symm)]
          exact ⟨(hr j hj).2, rfl⟩
      · rcases q with q | q
        · exact absurd (nI_pos' (show k < 2 ^ 31 by omega)) (Int32.not_le.mpr q)
        · exact absurd (nI_lt hk (by omega)) (Int32.not_lt.mpr q)
      · obtain rfl : k = k2 := (nI_eq (by omega) (by omega)).mp e
        unfold lUp; rw [(hr k hk).1, if_pos h0, (hr k hk).2]
    · refine ⟨t, s, ?_, ?_, fun j hj => ⟨(hr j hj).2, ?_⟩, fun _ _ => rfl, fun q => ?_, fun k2 hk2 e => ?_⟩
      · unfold F_X5_heatUp; rw [k_st hns hk, Option.bind_some, if_neg h0, if_pos rfl]
      · unfold F_X12_heats; rw [tn7, h7, m_in0, Option.bind_some, if_pos hin, if_neg (by decide), m_of0 (by omega), Option.bind_some, (hr k hk).1, if_neg h0]
      · by_cases hjk : j = k
        · subst hjk; rw [if_neg (fun q => h0 q.2)]
        · rw [if_neg (fun q => hjk ((nI_eq (by omega) (by omega)).mp q.1).symm)]
      · rcases q with q | q
        · exact absurd (nI_pos' (show k < 2 ^ 31 by omega)) (Int32.not_le.mpr q)
        · exact absurd (nI_lt hk (by omega)) (Int32.not_lt.mpr q)
      · obtain rfl : k = k2 := (nI_eq (by omega) (by omega)).mp e
        unfold lUp; rw [(hr k hk).1, if_neg h0]
theorem g_stepL {N ns i : Nat} {f : Nat → Nat → Int32} {s : Nat → Int32} (hns : ns ≤ 20) (hi : i < ns) (h7 : s 7 = nI ns) (hR : RSb (pGb i) ns f s) :
    ∃ (g4 g8 s' : Nat → Int32) (c : Int32), (∀ fu l1, F_X5_glow_b4 N (nI ns) (f 5) (f 6) (fu + 1) l1 (nI i) (s 10) (f 4) (f 8) = F_X5_glow_b4 N (nI ns) (f 5) (f 6) fu (l1 + c) (nI (i + 1)) (s' 10) g4 g8) ∧
      (∀ fu l1, F_X12_glows_b4 N (fu + 1) l1 (nI i) s = F_X12_glows_b4 N fu (l1 + c) (nI (i + 1)) s') ∧ RSb (pGb (i + 1)) ns (va_up (va_up f 4 g4) 8 g8) s' ∧ (∀ j, j < 30 → j ≠ 10 → s' j = s j) ∧ s' = lGlow ns s i ∧ c = lGlowC s i := by
  obtain ⟨r0, r1, r2, r3, r4, r5, r6⟩ := hR i hi
  have hx : xin (nI i) 20 = true := xin_nI (by omega) (by decide)
  have hx0 : xin (nI (30 + 5 * i)) 130 = true := xin_nI (by omega) (by decide)
  have hx4 : xin (nI (34 + 5 * i)) 130 = true := xin_nI (by omega) (by decide)
  have hle : ¬ nI ns ≤ nI i := nI_ge (by omega) (by omega)
  have bnd : ∀ k, k ≠ i → k ≠ i + 1 → pGb i k ≤ pGb (i + 1) k := by
    intro k h1 h2; unfold pGb
    rw [if_neg h1, if_neg h2, if_neg (show ¬ k + 1 = i + 1 by omega)]
    split <;> decide
  have bnd1 : pGb i (i + 1) ≤ 109 ∧ pGb (i + 1) (i + 1) = 119 := by
    unfold pGb
    rw [if_neg (by omega), if_neg (by omega), if_pos rfl]
    exact ⟨by decide, rfl⟩
  have bndi : pGb (i + 1) i = 99 ∧ pGb i i = 119 := by
    unfold pGb
    rw [if_neg (by omega), if_pos rfl, if_pos rfl]
    exact ⟨rfl, rfl⟩
  have e0 : ∀ l1 : Int32, l1 + 0 = l1 := fun l1 => by grind
  have same : ∀ (h : Nat → Nat → Int32), va_up (va_up h 4 (h 4)) 8 (h 8) = h := by
    intro h; funext k; unfold va_up; split
    · rename_i q; rw [q]
    · split
      · rename_i q; rw [q]
      · rfl
  by_cases hs : f 4 i = 0
  · -- stored
    have hb := r5 hs
    rw [bndi.2] at hb
    obtain ⟨T, hT⟩ : ∃ T, T = (if f 6 i < 60 ∧ 50 ≤ f 8 i then f 8 i + 2 else if f 8 i ≤ 15 then f 8 i else f 8 i - 1) := ⟨_, rfl⟩
    have hTr : 15 ≤ T ∧ T ≤ 121 := by rw [hT]; grind
    have hGT : lHe s i = T := by
      unfold lHe lHt lGl
      rw [r0, r2.1, r4, hT]
      by_cases c1 : f 6 i < 60 ∧ 50 ≤ f 8 i
      · rw [show (if f 4 i = 0 ∧ f 6 i < 60 ∧ 50 ≤ f 8 i then (1 : Int32) else 0) = 1 from if_pos ⟨hs, c1⟩, if_pos c1, if_neg (show ¬ (1 : Int32) = 0 by decide)]
      · rw [show (if f 4 i = 0 ∧ f 6 i < 60 ∧ 50 ≤ f 8 i then (1 : Int32) else 0) = 0 from if_neg (fun q => c1 q.2), if_neg c1, if_pos rfl]
        by_cases c2 : f 8 i ≤ 15
        · rw [if_pos c2, if_neg (by grind)]; exact Int32.le_antisymm hb.1 c2
        · rw [if_neg c2]
          by_cases c3 : 15 < f 8 i - 1
          · rw [if_pos c3]
          · rw [if_neg c3]; grind
    obtain ⟨g8, hg8⟩ : ∃ g8, g8 = upd (f 8) i T := ⟨_, rfl⟩
    have kw : F_X5_warmOrCool (nI i) (nI ns) (f 6) (f 4) (f 8) = some ((), g8) := by
      unfold F_X5_warmOrCool
      by_cases c1 : f 6 i < 60 ∧ 50 ≤ f 8 i
      · rw [show F_X5_smoulders (nI i) (nI ns) (f 6) (f 4) (f 8) = some 1 by rw [k_smo hns hi, if_pos ⟨hs, c1⟩], Option.bind_some, if_neg (by decide), if_pos hx, if_pos hx, tnI (by omega), hg8, hT, if_pos c1]
      · rw [show F_X5_smoulders (nI i) (nI ns) (f 6) (f 4) (f 8) = some 0 by rw [k_smo hns hi, if_neg (fun q => c1 q.2)], Option.bind_some, if_pos rfl, if_pos hx, if_pos hx, if_pos hx, tnI (by omega), hg8, hT, if_neg c1]
        by_cases c2 : f 8 i ≤ 15
        · rw [if_pos c2, if_pos c2, upd_id rfl]
        · rw [if_neg c2, if_neg c2]
    have ex2 : ∀ (v : Int32), (if s (30 + 5 * i) = 0 ∧ s (32 + 5 * i) < 60 ∧ 50 ≤ s (34 + 5 * i) then (1 : Int32) else 0) = if f 6 i < 60 ∧ 50 ≤ f 8 i then 1 else 0 := by
      intro v
      rw [r0, r2.1, r4]
      by_cases c1 : f 6 i < 60 ∧ 50 ≤ f 8 i
      · rw [if_pos ⟨hs, c1⟩, if_pos c1]
      · rw [if_neg (fun q => c1 q.2), if_neg c1]
    obtain ⟨s1, hs1⟩ : ∃ s1, s1 = upd s (34 + 5 * i) T := ⟨_, rfl⟩
    have s1o : ∀ x, x ≠ 34 + 5 * i → s1 x = s x := fun x hx => by rw [hs1, upd_o _ _ hx]
    have s1s : s1 (34 + 5 * i) = T := by rw [hs1, upd_s]
    -- the model's visit up to the test
    have mv : ∀ fu l1, F_X12_glows_b4 N (fu + 1) l1 (nI i) s = if T < 100 then F_X12_glows_b120 (F_X12_glows_b4 N fu) N l1 (nI i) s1 else ((F_X12_heats (nI i - 1) (upd (upd s1 (30 + 5 * i) 2) 10 (s 10 + f 5 i))).bind fun x19 => ((F_X12_heats (nI i + 1) x19.2).bind fun x21 => F_X12_glows_b120 (F_X12_glows_b4 N fu) N (l1 + 1) (nI i) x21.2)) := by
      intro fu l1
      rw [F_X12_glows_b4, tn7, h7, if_neg hle, m_of0 (by omega), Option.bind_some, r0, if_pos hs, m_of4 (by omega), Option.bind_some, m_smo (by omega), Option.bind_some, ex2 0]
      have tail : ∀ (z : Int32), (if 15 ≤ z then z else 15) = T → (z < 100 ↔ T < 100) → (F_X12_glows_b46 (F_X12_glows_b4 N fu) N l1 (nI i) (s (34 + 5 * i)) (z - s (34 + 5 * i)) s) = if T < 100 then F_X12_glows_b120 (F_X12_glows_b4 N fu) N l1 (nI i) s1 else ((F_X12_heats (nI i - 1) (upd (upd s1 (30 + 5 * i) 2) 10 (s 10 + f 5 i))).bind fun x19 => ((F_X12_heats (nI i + 1) x19.2).bind fun x21 => F_X12_glows_b120 (F_X12_glows_b4 N fu) N (l1 + 1) (nI i) x21.2)) := by
        intro z hz hz2
        have ez : s (34 + 5 * i) + (z - s (34 + 5 * i)) = z := by grind
        have key : ∀ v, v = T → F_X12_glows_b69 (F_X12_glows_b4 N fu) N l1 (nI i) z (nI (34 + 5 * i)) v s = if T < 100 then F_X12_glows_b120 (F_X12_glows_b4 N fu) N l1 (nI i) s1 else ((F_X12_heats (nI i - 1) (upd (upd s1 (30 + 5 * i) 2) 10 (s 10 + f 5 i))).bind fun x19 => ((F_X12_heats (nI i + 1) x19.2).bind fun x21 => F_X12_glows_b120 (F_X12_glows_b4 N fu) N (l1 + 1) (nI i) x21.2)) := by
          intro v hv
          unfold F_X12_glows_b69
          rw [if_pos hx4, tnI (k := 34 + 5 * i) (by omega), hv, ← hs1]
          by_cases hc : T < 100
          · rw [if_pos (hz2.mpr hc), if_pos hc]
          · rw [if_neg (fun q => hc (hz2.mp q)), if_neg hc, m_atS0, Option.bind_some, if_pos hx0, tnI (k := 30 + 5 * i) (by omega), m_of1 (by omega), Option.bind_some, tn10]
            have e5 : upd s1 (30 + 5 * i) 2 (31 + 5 * i) = f 5 i := by rw [upd_o _ _ (by omega), s1o _ (by omega), r1.1]
            have e10 : upd s1 (30 + 5 * i) 2 10 = s 10 := by rw [upd_o _ _ (by omega), s1o _ (by omega)]
            rw [e5, e10]
        unfold F_X12_glows_b46
        rw [m_atS4, Option.bind_some, ez]
        by_cases hc : 15 ≤ z
        · rw [if_pos hc]; rw [if_pos hc] at hz; exact key z hz
        · rw [if_neg hc]; rw [if_neg hc] at hz; exact key 15 hz
      by_cases c1 : f 6 i < 60 ∧ 50 ≤ f 8 i
      · rw [if_pos c1, if_neg (by decide)]
        have := tail (s (34 + 5 * i) + 2) (by rw [hT, if_pos c1, r4]; rw [if_pos (by grind)]) (by rw [hT, if_pos c1, r4])
        rw [show s (34 + 5 * i) + 2 - s (34 + 5 * i) = 2 by grind] at this
        exact this
      · rw [if_neg c1, if_pos rfl]
        have := tail (s (34 + 5 * i) + -1) (by rw [hT, if_neg c1, r4]; exact (cool_eq hb.1 hb.2).1) (by rw [hT, if_neg c1, r4]; exact (cool_eq hb.1 hb.2).2)
        rw [show s (34 + 5 * i) + -1 - s (34 + 5 * i) = -1 by grind] at this
        exact this
    have kv : ∀ fu l1, F_X5_glow_b4 N (nI ns) (f 5) (f 6) (fu + 1) l1 (nI i) (s 10) (f 4) (f 8) = if T < 100 then F_X5_glow_b44 (F_X5_glow_b4 N (nI ns) (f 5) (f 6) fu) N l1 (nI i) (s 10) (f 4) g8 else ((F_X5_burn (nI i) (s 10) (nI ns) (f 5) (f 4) g8).bind fun x6 => F_X5_glow_b44 (F_X5_glow_b4 N (nI ns) (f 5) (f 6) fu) N (l1 + 1) (nI i) x6.2.1 x6.2.2.1 x6.2.2.2) := by
      intro fu l1
      rw [F_X5_glow_b4, if_neg hle, show F_X5_isStored (nI i) (nI ns) (f 4) = some 1 by rw [k_st hns hi, if_pos hs], Option.bind_some, if_neg (by decide), kw, Option.bind_some, if_pos hx, tnI (by omega), show ((), g8).2 i = T by show g8 i = T; rw [hg8, upd_s]]
    by_cases hc : T < 100
    · refine ⟨f 4, g8, s1, 0, fun fu l1 => ?_, fun fu l1 => ?_, ?_, fun j hj _ => s1o j (by omega), by unfold lGlow; rw [hGT, if_pos (by rw [r0]; exact hs), if_pos hc, hs1], by unfold lGlowC; rw [hGT, if_pos (by rw [r0]; exact hs), if_pos hc]⟩
      · rw [kv, if_pos hc, s1o 10 (by omega), e0]
        unfold F_X5_glow_b44
        rw [nI_1]
      · rw [mv, if_pos hc, e0]
        unfold F_X12_glows_b120
        rw [nI_1]
      · intro k hk
        obtain ⟨q0, q1, q2, q3, q4, q5, q6⟩ := hR k hk
        have z4 : (va_up (va_up f 4 (f 4)) 8 g8) 4 = f 4 := rfl
        have z5 : (va_up (va_up f 4 (f 4)) 8 g8) 5 = f 5 := rfl
        have z6 : (va_up (va_up f 4 (f 4)) 8 g8) 6 = f 6 := rfl
        have z7 : (va_up (va_up f 4 (f 4)) 8 g8) 7 = f 7 := rfl
        have z8 : (va_up (va_up f 4 (f 4)) 8 g8) 8 = g8 := rfl
        rw [z4, z5, z6, z7, z8, s1o _ (by omega), s1o _ (by omega), s1o _ (by omega), s1o _ (by omega)]
        refine ⟨q0, q1, q2, q3, ?_, fun h => ?_, q6⟩
        · by_cases e1 : k = i
          · subst e1; rw [s1s, hg8, upd_s]
          · rw [s1o _ (by omega), hg8, upd_o _ _ e1, q4]
        · by_cases e1 : k = i
          · subst e1; rw [bndi.1, hg8, upd_s]; exact ⟨hTr.1, by grind⟩
          · rw [hg8, upd_o _ _ e1]
            have h1 := q5 h
            by_cases e2 : k = i + 1
            · subst e2; rw [bnd1.2]; have := bnd1.1; exact ⟨h1.1, by grind⟩
            · have := bnd k e1 e2; exact ⟨h1.1, by grind⟩
    · -- it burns
      obtain ⟨s2, hs2⟩ : ∃ s2, s2 = upd (upd s1 (30 + 5 * i) 2) 10 (s 10 + f 5 i) := ⟨_, rfl⟩
      obtain ⟨g4, hg4⟩ : ∃ g4, g4 = upd (f 4) i 2 := ⟨_, rfl⟩
      have s2o : ∀ x, x ≠ 10 → x ≠ 30 + 5 * i → s2 x = s1 x := fun x h1 h2 => by rw [hs2, upd_o _ _ h1, upd_o _ _ h2]
      have hr2 : ∀ j, j < ns → s2 (30 + 5 * j) = g4 j ∧ s2 (34 + 5 * j) = g8 j := by
        intro j hj
        obtain ⟨q0, q1, q2, q3, q4, q5, q6⟩ := hR j hj
        by_cases e1 : j = i
        · subst e1
          refine ⟨?_, ?_⟩
          · rw [hs2, upd_o _ _ (by omega), upd_s, hg4, upd_s]
          · rw [s2o _ (by omega) (by omega), s1s, hg8, upd_s]
        · refine ⟨?_, ?_⟩
          · rw [s2o _ (by omega) (by omega), s1o _ (by omega), hg4, upd_o _ _ e1, q0]
          · rw [s2o _ (by omega) (by omega), s1o _ (by omega), hg8, upd_o _ _ e1, q4]
      obtain ⟨t3, s3, a1, a2, a3, a4, a5, a6⟩ := g_heatL hns (nI i - 1) (g := g4) (t := g8) (s := s2) (by rw [s2o _ (by omega) (by omega), s1o _ (by omega), h7]) hr2
      have hr3 : ∀ j, j < ns → s3 (30 + 5 * j) = g4 j ∧ s3 (34 + 5 * j) = t3 j := fun j hj => ⟨by rw [a4 _ (fun q _ => by omega)]; exact (hr2 j hj).1, (a3 j hj).1⟩
      obtain ⟨t4, s4, b1, b2, b3, b4, b5, b6⟩ := g_heatL hns (nI i + 1) (g := g4) (t := t3) (s := s3) (by rw [a4 _ (fun q _ => by omega), s2o _ (by omega) (by omega), s1o _ (by omega), h7]) hr3
      have s4o : ∀ x, (∀ j, j < ns → x ≠ 34 + 5 * j) → s4 x = s2 x := fun x hx => by rw [b4 x hx, a4 x hx]
      have e10 : s4 10 = s 10 + f 5 i := by rw [s4o 10 (fun j _ => by omega), hs2, upd_s]
      refine ⟨g4, t4, s4, 1, fun fu l1 => ?_, fun fu l1 => ?_, ?_, fun j hj hj10 => ?_, ?_, by unfold lGlowC; rw [hGT, if_pos (by rw [r0]; exact hs), if_neg hc]⟩
      · rw [kv, if_neg hc]
        unfold F_X5_burn F_X5_glow_b44
        rw [if_pos hx, if_pos hx, tnI (by omega), ← hg4, a1, Option.bind_some, b1, Option.bind_some, Option.bind_some, e10, nI_1]
      · rw [mv, if_neg hc, ← hs2, a2, Option.bind_some, b2, Option.bind_some]
        unfold F_X12_glows_b120
        rw [nI_1]
      · intro k hk
        obtain ⟨q0, q1, q2, q3, q4, q5, q6⟩ := hR k hk
        have z4 : (va_up (va_up f 4 g4) 8 t4) 4 = g4 := rfl
        have z5 : (va_up (va_up f 4 g4) 8 t4) 5 = f 5 := rfl
        have z6 : (va_up (va_up f 4 g4) 8 t4) 6 = f 6 := rfl
        have z7 : (va_up (va_up f 4 g4) 8 t4) 7 = f 7 := rfl
        have z8 : (va_up (va_up f 4 g4) 8 t4) 8 = t4 := rfl
        have u1 : ∀ x, (∀ j, j < ns → x ≠ 34 + 5 * j) → x ≠ 10 → x ≠ 30 + 5 * i → s4 x = s x := fun x h1 h2 h3 => by rw [s4o x h1, s2o x h2 h3, s1o x (h1 i hi)]
        rw [z4, z5, z6, z7, z8, u1 (31 + 5 * k) (fun j _ => by omega) (by omega) (by omega), u1 (32 + 5 * k) (fun j _ => by omega) (by omega) (by omega), u1 (33 + 5 * k) (fun j _ => by omega) (by omega) (by omega)]
        have h30 : s4 (30 + 5 * k) = g4 k := by rw [s4o _ (fun j _ => by omega)]; exact (hr2 k hk).1
        have hk1 : nI k + 1 = nI (k + 1) := nI_1 k
        have hi1 : nI i + 1 = nI (i + 1) := nI_1 i
        have c3 : t3 k = if k + 1 = i ∧ g4 k = 0 then g8 k + 10 else g8 k := by
          rw [(a3 k hk).2]
          have : (nI i - 1 = nI k) ↔ k + 1 = i := ⟨fun q => ((nI_eq (by omega) (by omega)).mp (show nI (k + 1) = nI i by rw [← hk1]; grind)), fun q => by rw [← q, ← hk1]; grind⟩
          simp only [this]
        have c4 : t4 k = if k = i + 1 ∧ g4 k = 0 then t3 k + 10 else t3 k := by
          rw [(b3 k hk).2]
          have : (nI i + 1 = nI k) ↔ k = i + 1 := ⟨fun q => ((nI_eq (by omega) (by omega)).mp (show nI k = nI (i + 1) by rw [← hi1, q])), fun q => by rw [q, hi1]⟩
          simp only [this]
        refine ⟨h30, q1, q2, q3, (b3 k hk).1, fun h => ?_, ?_⟩
        · by_cases e1 : k = i
          · subst e1; rw [hg4, upd_s] at h; exact absurd h (by decide)
          · have hf4 : f 4 k = 0 := by rw [hg4, upd_o _ _ e1] at h; exact h
            have h1 := q5 hf4
            have eg8 : g8 k = f 8 k := by rw [hg8, upd_o _ _ e1]
            by_cases e2 : k = i + 1
            · have w : pGb i k ≤ 109 ∧ pGb (i + 1) k = 119 := by rw [e2]; exact bnd1
              rw [c4, if_pos ⟨e2, h⟩, c3, if_neg (by omega), eg8, w.2]
              have w1 := w.1
              exact ⟨by grind, by grind⟩
            · by_cases e3 : k + 1 = i
              · rw [c4, if_neg (fun q => e2 q.1), c3, if_pos ⟨e3, h⟩, eg8]
                have w1 : pGb i k = 99 := by unfold pGb; rw [if_neg e1, if_pos e3]
                have w2 : pGb (i + 1) k = 109 := by unfold pGb; rw [if_neg e2, if_neg (by omega)]
                rw [w1] at h1
                rw [w2]
                exact ⟨by grind, by grind⟩
              · rw [c4, if_neg (fun q => e2 q.1), c3, if_neg (fun q => e3 q.1), eg8]
                have := bnd k e1 e2
                exact ⟨h1.1, by grind⟩
        · by_cases e1 : k = i
          · subst e1; rw [hg4, upd_s]; exact Or.inr (Or.inr rfl)
          · rw [hg4, upd_o _ _ e1]; exact q6
      · rw [s4o _ (fun q _ => by omega), s2o _ hj10 (by omega), s1o _ (by omega)]
      · have eL : s3 = lUpL s2 i := by
          unfold lUpL
          by_cases e : 0 < i
          · rw [if_pos e]; exact a6 (i - 1) (by omega) (nI_pm e)
          · rw [if_neg e]; exact a5 (Or.inl (by rw [show i = 0 by omega]; decide))
        have eR : s4 = lUpR ns s3 i := by
          unfold lUpR
          by_cases e : i + 1 < ns
          · rw [if_pos e]; exact b6 (i + 1) e (nI_1 i)
          · rw [if_neg e]; exact b5 (Or.inr (by rw [nI_1]; exact nI_le (by omega) (by omega)))
        have eB : s2 = lBurn s1 i := by
          rw [hs2]; unfold lBurn; rw [s1o 10 (by omega), s1o (31 + 5 * i) (by omega), r1.1]
        unfold lGlow
        rw [hGT, if_pos (by rw [r0]; exact hs), if_neg hc, ← hs1, ← eB, ← eL, ← eR]
  · refine ⟨f 4, f 8, s, 0, fun fu l1 => ?_, fun fu l1 => ?_, ?_, fun _ _ _ => rfl, by unfold lGlow; rw [if_neg (by rw [r0]; exact hs)], by unfold lGlowC; rw [if_neg (by rw [r0]; exact hs)]⟩
    · rw [F_X5_glow_b4, if_neg hle, k_st hns hi, Option.bind_some, if_neg hs, if_pos rfl, e0]
      unfold F_X5_glow_b44
      rw [nI_1]
    · rw [F_X12_glows_b4, tn7, h7, if_neg hle, m_of0 (by omega), Option.bind_some, r0, if_neg hs, e0]
      unfold F_X12_glows_b120
      rw [nI_1]
    · rw [same]
      intro k hk
      obtain ⟨q0, q1, q2, q3, q4, q5, q6⟩ := hR k hk
      refine ⟨q0, q1, q2, q3, q4, fun h => ?_, q6⟩
      have h1 := q5 h
      by_cases e1 : k = i
      · subst e1; exact absurd h hs
      · by_cases e2 : k = i + 1
        · subst e2; rw [bnd1.2]; have := bnd1.1; exact ⟨h1.1, by grind⟩
        · have := bnd k e1 e2; exact ⟨h1.1, by grind⟩
theorem g_allL {N ns : Nat} (hns : ns ≤ 20) : ∀ (d i : Nat) (f : Nat → Nat → Int32) (s : Nat → Int32), i + d = ns → s 7 = nI ns → RSb (pGb i) ns f s →
    ∃ (g4 g8 s' : Nat → Int32) (c : Int32), (∀ fu l1, d < fu → F_X5_glow_b4 N (nI ns) (f 5) (f 6) fu l1 (nI i) (s 10) (f 4) (f 8) = some (l1 + c, s' 10, g4, g8)) ∧
      (∀ fu l1, d < fu → F_X12_glows_b4 N fu l1 (nI i) s = some (l1 + c, s')) ∧ RSb (pGb ns) ns (va_up (va_up f 4 g4) 8 g8) s' ∧ (∀ j, j < 30 → j ≠ 10 → s' j = s j) ∧ s' = lGlowA ns d i s ∧ c = lGlowN ns d i s := by
  intro d
  induction d with
  | zero =>
    intro i f s hi h7 hR
    obtain rfl : i = ns := by omega
    have e0 : ∀ l1 : Int32, l1 + 0 = l1 := fun l1 => by grind
    refine ⟨f 4, f 8, s, 0, fun fu l1 hf => ?_, fun fu l1 hf => ?_, ?_, fun _ _ _ => rfl, rfl, rfl⟩
    · obtain ⟨k, rfl⟩ : ∃ k, fu = k + 1 := ⟨fu - 1, by omega⟩
      rw [F_X5_glow_b4, if_pos (nI_le (Nat.le_refl _) (by omega)), e0]
    · obtain ⟨k, rfl⟩ : ∃ k, fu = k + 1 := ⟨fu - 1, by omega⟩
      rw [F_X12_glows_b4, tn7, h7, if_pos (nI_le (Nat.le_refl _) (by omega)), e0]
    · have same : va_up (va_up f 4 (f 4)) 8 (f 8) = f := by
        funext k; unfold va_up; split
        · rename_i q; rw [q]
        · split
          · rename_i q; rw [q]
          · rfl
      rw [same]; exact hR
  | succ d ih =>
    intro i f s hi h7 hR
    obtain ⟨g4, g8, s1, c, h1, h2, h3, h4, h5, h6⟩ := g_stepL (N := N) hns (i := i) (by omega) h7 hR
    obtain ⟨k4, k8, s2, c2, j1, j2, j3, j4, j5, j6⟩ := ih (i + 1) (va_up (va_up f 4 g4) 8 g8) s1 (by omega) (by rw [h4 7 (by decide) (by decide)]; exact h7) h3
    have ec : ∀ l1 : Int32, l1 + c + c2 = l1 + (c + c2) := fun l1 => by grind
    refine ⟨k4, k8, s2, c + c2, fun fu l1 hf => ?_, fun fu l1 hf => ?_, ?_, fun j hj hj2 => (j4 j hj hj2).trans (h4 j hj hj2), by rw [j5, h5]; rfl, by rw [j6, h6, h5]; rfl⟩
    · obtain ⟨k, rfl⟩ : ∃ k, fu = k + 1 := ⟨fu - 1, by omega⟩
      rw [h1, ← ec]
      exact j1 k _ (by omega)
    · obtain ⟨k, rfl⟩ : ∃ k, fu = k + 1 := ⟨fu - 1, by omega⟩
      rw [h2, ← ec]
      exact j2 k _ (by omega)
    · have e : va_up (va_up (va_up (va_up f 4 g4) 8 g8) 4 k4) 8 k8 = va_up (va_up f 4 k4) 8 k8 := by
        funext k; unfold va_up; split
        · rfl
        · split
          · rfl
          · rfl
      rw [e] at j3
      exact j3
theorem g_glowL {N ns : Nat} {f : Nat → Nat → Int32} {s : Nat → Int32} (hN : 1000 ≤ N) (hns : ns ≤ 20) (h7 : s 7 = nI ns) (hR : RS ns f s) :
    ∃ (g4 g8 s' : Nat → Int32) (c : Int32), F_X5_glow N (s 10) (nI ns) (f 5) (f 6) (f 4) (f 8) = some (c, s' 10, g4, g8) ∧ F_X12_glows N s = some (c, s') ∧ RS ns (va_up (va_up f 4 g4) 8 g8) s' ∧ (∀ j, j < 30 → j ≠ 10 → s' j = s j) ∧ s' = lGlowA ns ns 0 s ∧ c = lGlowN ns ns 0 s := by
  have hR0 : RSb (pGb 0) ns f s := fun k hk => by
    obtain ⟨q0, q1, q2, q3, q4, q5, q6⟩ := hR k hk
    refine ⟨q0, q1, q2, q3, q4, fun h => ⟨(q5 h).1, ?_⟩, q6⟩
    have h1 := (q5 h).2
    unfold pGb; split
    · grind
    · rw [if_neg (by omega)]; exact h1
  obtain ⟨g4, g8, s', c, h1, h2, h3, h4, h5⟩ := g_allL (N := N) hns ns 0 f s (by omega) h7 hR0
  have e0 : ∀ c : Int32, 0 + c = c := fun l1 => by grind
  refine ⟨g4, g8, s', c, ?_, ?_, fun k hk => ?_, h4, h5⟩
  · have := h1 N 0 (by omega); rw [e0] at this; exact this
  · have := h2 N 0 (by omega); rw [e0] at this; exact this
  · obtain ⟨q0, q1, q2, q3, q4, q5, q6⟩ := h3 k hk
    refine ⟨q0, q1, q2, q3, q4, fun h => ⟨(q5 h).1, ?_⟩, q6⟩
    have h1 := (q5 h).2
    unfold pGb at h1
    rw [if_neg (by omega)] at h1
    split at h1 <;> grind
theorem p_minL {N nf ns : Nat} {f : Nat → Nat → Int32} {s : Nat → Int32} (hN : 1000 ≤ N) (hR : RH nf ns f s) (t : Nat → Int32) :
    ∃ (f' : Nat → Nat → Int32) (t' : Nat → Int32),
      (∀ fu l1 l2 l3, ¬ l1 ≤ l3 → F_X3_passMinutes_b4 N (s 2) (s 3) (s 4) (s 6) (f 0) (f 1) (s 7) (f 5) (f 6) (fu + 1) l1 l2 l3 (s 12) (s 1) (s 0) (s 13) (s 5) (f 2) (f 3) (s 10) (f 4) (f 8) t =
        F_X3_passMinutes_b4 N (s 2) (s 3) (s 4) (s 6) (f 0) (f 1) (s 7) (f 5) (f 6) fu l1 (l2 + lCnt nf ns s) (l3 + 1) (lPass nf ns s 12) (lPass nf ns s 1) (lPass nf ns s 0) (lPass nf ns s 13) (lPass nf ns s 5) (f' 2) (f' 3) (lPass nf ns s 10) (f' 4) (f' 8) t') ∧
      RH nf ns f' (lMid nf ns s) ∧ RH nf ns f' (lPass nf ns s) ∧ pKeep f f' s (lPass nf ns s) ∧ lPass nf ns s 0 = s 0 + 1 ∧ pAir (lAir s) ∧ (0 ≤ lAir s 1 ∧ lAir s 1 ≤ 90) := by
  obtain ⟨⟨h6, hn1, hn4⟩, ⟨h7, hns⟩, hh, hA, hF, hS⟩ := id hR
  obtain ⟨x, hx⟩ : ∃ x, x = (if ((s 0 + 1) - (s 0 + 1) / 10 * 10) = 0 then (if s 1 ≤ 0 then s 1 else s 1 - 1) else s 1) := ⟨_, rfl⟩
  have hxr : 0 ≤ x ∧ x ≤ 90 := by rw [hx]; grind
  obtain ⟨s1, hs1⟩ : ∃ s1, s1 = upd (upd s 0 (s 0 + 1)) 1 x := ⟨_, rfl⟩
  have hTk : s1 = lTick s := by
    rw [hs1]; unfold lTick
    have ex : x = (if (s 0 + 1) - (s 0 + 1) / 10 * 10 = 0 then (if 0 < s 1 - 1 then s 1 - 1 else 0) else s 1) := by
      rw [hx]
      by_cases c0 : (s 0 + 1) - (s 0 + 1) / 10 * 10 = 0
      · rw [if_pos c0, if_pos c0]; grind
      · rw [if_neg c0, if_neg c0]
    rw [ex]
  have s1o : ∀ j, j ≠ 0 → j ≠ 1 → s1 j = s j := fun j a b => by rw [hs1, upd_o _ _ b, upd_o _ _ a]
  have s10 : s1 0 = s 0 + 1 := by rw [hs1]; rfl
  have s11 : s1 1 = x := by rw [hs1]; rfl
  have hA1 : pAir s1 := hA.cong (s1o 2 (by decide) (by decide)) (s1o 3 (by decide) (by decide)) (s1o 4 (by decide) (by decide)) (s1o 5 (by decide) (by decide))
  obtain ⟨cv, s2, tv1, tv2, tv3, tv4, hA2, hTu⟩ := p_turnL hA1
  have hAi : s2 = lAir s := by rw [hTu, hTk]; rfl
  have s2o : ∀ j, j ≠ 0 → j ≠ 1 → j ≠ 5 → j ≠ 13 → s2 j = s j := fun j a b c d => by rw [tv4 j c d, s1o j a b]
  have s21 : s2 1 = x := by rw [tv4 1 (by decide) (by decide), s11]
  have hF2 : RF nf f s2 := hF.cong hn4 (fun j h14 _ => s2o j (by omega) (by omega) (by omega) (by omega)) rfl rfl rfl rfl
  obtain ⟨g2, g3, t', s3, w', dd1, dd2, hF3, dd4, hDr⟩ := d_dryL (s := s2) hN hn4 (by rw [s2o 6 (by decide) (by decide) (by decide) (by decide), h6]) hF2 hA2 (by rw [s21]; exact hxr) t t
  have hDi : s3 = lDried nf s := by rw [hDr, hAi]; rfl
  have hS3 : RS ns f s3 := RS.cong hS (fun j h30 => by rw [dd4.2 j h30, s2o j (by omega) (by omega) (by omega) (by omega)]) rfl rfl rfl rfl rfl
  have s3o : ∀ j, j < 14 → s3 j = s2 j := dd4.1
  obtain ⟨g4, g8, s4, c, gg1, gg2, hS4, gg4, hGl, hGc⟩ := g_glowL (s := s3) hN hns (by rw [s3o 7 (by decide), s2o 7 (by decide) (by decide) (by decide) (by decide), h7]) hS3
  have hMi : s4 = lMid nf ns s := by rw [hGl, hDi]; rfl
  have hCn : c = lCnt nf ns s := by rw [hGc, hDi]; rfl
  obtain ⟨f', hf'⟩ : ∃ f', f' = va_up (va_up (va_up (va_up f 2 g2) 3 g3) 4 g4) 8 g8 := ⟨_, rfl⟩
  have f0 : f' 0 = f 0 := by rw [hf']; rfl
  have f1 : f' 1 = f 1 := by rw [hf']; rfl
  have f2 : f' 2 = g2 := by rw [hf']; rfl
  have f3 : f' 3 = g3 := by rw [hf']; rfl
  have f4 : f' 4 = g4 := by rw [hf']; rfl
  have f5 : f' 5 = f 5 := by rw [hf']; rfl
  have f6 : f' 6 = f 6 := by rw [hf']; rfl
  have f7 : f' 7 = f 7 := by rw [hf']; rfl
  have f8 : f' 8 = g8 := by rw [hf']; rfl
  have s4o : ∀ j, j < 14 → j ≠ 10 → s4 j = s2 j := fun j h14 h10 => by rw [gg4 j (by omega) h10, s3o j h14]
  have hF4 : RF nf f' s4 := hF3.cong hn4 (fun j h14 h30 => gg4 j h30 (by omega)) f0 f1 f2 f3
  have hS4' : RS ns f' s4 := RS.cong hS4 (fun _ _ => rfl) f4 f5 f6 f7 f8
  have hA4 : pAir s4 := hA2.cong (s4o 2 (by decide) (by decide)) (s4o 3 (by decide) (by decide)) (s4o 4 (by decide) (by decide)) (s4o 5 (by decide) (by decide))
  have s41 : s4 1 = x := by rw [s4o 1 (by decide) (by decide), s21]
  have q := fun j a b c d => s2o j a b c d
  have h46 : s4 6 = nI nf := by rw [s4o 6 (by decide) (by decide), q 6 (by decide) (by decide) (by decide) (by decide), h6]
  have hR4 : RH nf ns f' s4 := ⟨⟨h46, hn1, hn4⟩, ⟨by rw [s4o 7 (by decide) (by decide), q 7 (by decide) (by decide) (by decide) (by decide), h7], hns⟩, by rw [s41]; exact hxr, hA4, hF4, hS4'⟩
  obtain ⟨hR5, s5o⟩ := p_damped hR4
  have kd := k_damp hN hn4 hF4 hA4 (by rw [s41]; exact hxr)
  have e2 : s4 2 = s 2 := by rw [s4o 2 (by decide) (by decide), q 2 (by decide) (by decide) (by decide) (by decide)]
  have e3 : s4 3 = s 3 := by rw [s4o 3 (by decide) (by decide), q 3 (by decide) (by decide) (by decide) (by decide)]
  have e4 : s4 4 = s 4 := by rw [s4o 4 (by decide) (by decide), q 4 (by decide) (by decide) (by decide) (by decide)]
  have e12 : s4 12 = s 12 := by rw [s4o 12 (by decide) (by decide), q 12 (by decide) (by decide) (by decide) (by decide)]
  have e5 : s4 5 = s2 5 := s4o 5 (by decide) (by decide)
  have e0 : s4 0 = s 0 + 1 := by rw [s4o 0 (by decide) (by decide), tv4 0 (by decide) (by decide), s10]
  have e13 : s4 13 = s 13 + cv := by rw [s4o 13 (by decide) (by decide), tv3, s1o 13 (by decide) (by decide)]
  have z0 := s5o 0 (by decide) (by decide)
  have hPa : lPass nf ns s = pDamp nf s4 := by rw [hMi]; rfl
  rw [hPa, ← hMi, ← hCn, ← hAi]
  refine ⟨f', t', fun fu l1 l2 l3 hl => ?_, hR4, hR5, ⟨⟨f0, f1, f5, f6, f7⟩, ?_, ?_, ?_, ?_, ?_, ?_, ?_, ?_⟩, by rw [z0, e0], hA2, by rw [s21]; exact hxr⟩
  · -- class
    have b46 : ∀ (r : Int32 → Int32 → Int32 → Int32 → Int32 → Int32 → Int32 → Int32 → (Nat → Int32) → (Nat → Int32) → Int32 → (Nat → Int32) → (Nat → Int32) → (Nat → Int32) → Option (Int32 × Int32 × Int32 × Int32 × Int32 × Int32 × (Nat → Int32) × (Nat → Int32) × Int32 × (Nat → Int32) × (Nat → Int32) × (Nat → Int32))),
        F_X3_passMinutes_b46 r N (s 2) (s 3) (s 4) (s 6) (f 0) (f 1) (s 7) (f 5) (f 6) l1 l2 l3 (s 12) x (s 0 + 1) (s 13) (s 5) (f 2) (f 3) (s 10) (f 4) (f 8) t = r l1 (l2 + c) (l3 + 1) (pDamp nf s4 12) (pDamp nf s4 1) (pDamp nf s4 0) (pDamp nf s4 13) (pDamp nf s4 5) (f' 2) (f' 3) (pDamp nf s4 10) (f' 4) (f' 8) t' := by
      intro r
      unfold F_X3_passMinutes_b46
      have c1 : F_X0_turnVane (s 5) (s 3) (s 4) = some (cv, s2 5) := by rw [← s1o 5 (by decide) (by decide), ← s1o 3 (by decide) (by decide), ← s1o 4 (by decide) (by decide)]; exact tv1
      rw [c1, Option.bind_some]
      have c2 : F_X3_dryLoads N x (s 2) (s2 5) (s 3) (s 4) (s 6) (f 1) (f 2) (f 3) t = some ((), g2, g3, t') := by rw [h6, ← s21, ← q 2 (by decide) (by decide) (by decide) (by decide), ← q 3 (by decide) (by decide) (by decide) (by decide), ← q 4 (by decide) (by decide) (by decide) (by decide)]; exact dd1
      rw [show ((cv, s2 5) : Int32 × Int32).2 = s2 5 from rfl, c2, Option.bind_some]
      have c3 : F_X5_glow N (s 10) (s 7) (f 5) (f 6) (f 4) (f 8) = some (c, s4 10, g4, g8) := by rw [h7, ← q 10 (by decide) (by decide) (by decide) (by decide), ← s3o 10 (by decide)]; exact gg1
      rw [c3, Option.bind_some]
      have c4 : F_X3_damp N (s 12) x (s 2) (s2 5) (s 3) (s 4) (s 6) (f 0) (f 1) g2 = some ((), pDamp nf s4 12, pDamp nf s4 1) := by
        rw [← e12, ← s41, ← e2, ← e3, ← e4, ← e5, h6, ← f0, ← f1, ← f2]; exact kd
      show (F_X3_damp N (s 12) x (s 2) (s2 5) (s 3) (s 4) (s 6) (f 0) (f 1) g2).bind _ = _
      rw [c4, Option.bind_some, z0, e0, s5o 13 (by decide) (by decide), e13, s5o 5 (by decide) (by decide), e5, s5o 10 (by decide) (by decide), f2, f3, f4, f8]
    rw [F_X3_passMinutes_b4, if_neg hl]
    by_cases c0 : ((s 0 + 1) - (s 0 + 1) / 10 * 10) = 0
    · rw [if_pos c0]; rw [if_pos c0] at hx
      by_cases c1 : s 1 ≤ 0
      · rw [if_pos c1]; rw [if_pos c1] at hx; rw [← hx]; exact b46 _
      · rw [if_neg c1]; rw [if_neg c1] at hx; rw [← hx]; exact b46 _
    · rw [if_neg c0]; rw [if_neg c0] at hx; rw [← hx]; exact b46 _
  · rw [s5o 2 (by decide) (by decide), e2]
  · rw [s5o 3 (by decide) (by decide), e3]
  · rw [s5o 4 (by decide) (by decide), e4]
  · rw [s5o 6 (by decide) (by decide), h46, h6]
  · rw [s5o 7 (by decide) (by decide), s4o 7 (by decide) (by decide), q 7 (by decide) (by decide) (by decide) (by decide)]
  · rw [s5o 8 (by decide) (by decide), s4o 8 (by decide) (by decide), q 8 (by decide) (by decide) (by decide) (by decide)]
  · rw [s5o 9 (by decide) (by decide), s4o 9 (by decide) (by decide), q 9 (by decide) (by decide) (by decide) (by decide)]
  · rw [s5o 11 (by decide) (by decide), s4o 11 (by decide) (by decide), q 11 (by decide) (by decide) (by decide) (by decide)]
def lPassA (nf ns : Nat) : Nat → (Nat → Int32) → Nat → Int32
  | 0, s => s
  | d + 1, s => lPassA nf ns d (lPass nf ns s)
def lPassN (nf ns : Nat) : Nat → (Nat → Int32) → Int32
  | 0, _ => 0
  | d + 1, s => lCnt nf ns s + lPassN nf ns d (lPass nf ns s)
theorem p_minsL {N nf ns n : Nat} (hN : 1000 ≤ N) (hn : n < 2 ^ 31) : ∀ (d i : Nat) (f : Nat → Nat → Int32) (s t : Nat → Int32), i + d = n → RH nf ns f s →
    ∃ (f' : Nat → Nat → Int32) (t' : Nat → Int32),
      (∀ fu l2, d < fu → F_X3_passMinutes_b4 N (s 2) (s 3) (s 4) (s 6) (f 0) (f 1) (s 7) (f 5) (f 6) fu (nI n) l2 (nI i) (s 12) (s 1) (s 0) (s 13) (s 5) (f 2) (f 3) (s 10) (f 4) (f 8) t =
        some (l2 + lPassN nf ns d s, lPassA nf ns d s 12, lPassA nf ns d s 1, lPassA nf ns d s 0, lPassA nf ns d s 13, lPassA nf ns d s 5, f' 2, f' 3, lPassA nf ns d s 10, f' 4, f' 8, t')) ∧
      RH nf ns f' (lPassA nf ns d s) ∧ pKeep f f' s (lPassA nf ns d s) ∧ lPassA nf ns d s 0 = s 0 + nI d := by
  intro d
  induction d with
  | zero =>
    intro i f s t hi hR
    obtain rfl : i = n := by omega
    have e0 : ∀ l1 : Int32, l1 + 0 = l1 := fun l1 => by grind
    refine ⟨f, t, fun fu l2 hf => ?_, hR, pKeep.rf, (e0 _).symm⟩
    · obtain ⟨k, rfl⟩ : ∃ k, fu = k + 1 := ⟨fu - 1, by omega⟩
      rw [F_X3_passMinutes_b4, if_pos (nI_le (Nat.le_refl _) (by omega)), show l2 + lPassN nf ns 0 s = l2 from e0 l2]; rfl
  | succ d ih =>
    intro i f s t hi hR
    obtain ⟨f1, t1, h1, -, h3, h4, h5, -, -⟩ := p_minL hN hR t
    obtain ⟨f2, t2, j1, j3, j4, j5⟩ := ih (i + 1) f1 (lPass nf ns s) t1 (by omega) h3
    have ec : ∀ l1 a b : Int32, l1 + a + b = l1 + (a + b) := fun l1 a b => by grind
    refine ⟨f2, t2, fun fu l2 hf => ?_, j3, h4.tr j4, ?_⟩
    · obtain ⟨k, rfl⟩ : ∃ k, fu = k + 1 := ⟨fu - 1, by omega⟩
      have := j1 k (l2 + lCnt nf ns s) (by omega)
      obtain ⟨⟨a0, a1, a5, a6, a7⟩, b2, b3, b4, b6, b7, -⟩ := h4
      rw [h1 k (nI n) l2 (nI i) (nI_ge (by omega) (by omega)), nI_1, show l2 + lPassN nf ns (d + 1) s = l2 + lCnt nf ns s + lPassN nf ns d (lPass nf ns s) from (ec _ _ _).symm]
      rw [b2, b3, b4, b6, b7, a0, a1, a5, a6] at this
      exact this
    · rw [show lPassA nf ns (d + 1) s = lPassA nf ns d (lPass nf ns s) from rfl, j5, h5, nI_succ]; grind
theorem p_passL {N nf ns n : Nat} {f : Nat → Nat → Int32} {s : Nat → Int32} (hN : 1000 ≤ N) (hn : n < N) (hn2 : n < 2 ^ 31) (hR : RH nf ns f s) (t : Nat → Int32) :
    ∃ (f' : Nat → Nat → Int32) (t' : Nat → Int32),
      F_X3_passMinutes N (nI n) (s 12) (s 1) (s 0) (s 13) (s 2) (s 5) (s 3) (s 4) (s 6) (f 0) (f 1) (f 2) (f 3) (s 10) (s 7) (f 5) (f 6) (f 4) (f 8) t = some (lPassN nf ns n s, lPassA nf ns n s 12, lPassA nf ns n s 1, lPassA nf ns n s 0, lPassA nf ns n s 13, lPassA nf ns n s 5, f' 2, f' 3, lPassA nf ns n s 10, f' 4, f' 8, t') ∧
      RH nf ns f' (lPassA nf ns n s) ∧ pKeep f f' s (lPassA nf ns n s) ∧ lPassA nf ns n s 0 = s 0 + nI n := by
  obtain ⟨f', t', h1, h3, h4, h5⟩ := p_minsL hN hn2 n 0 f s t (by omega) hR
  have e0 : ∀ c : Int32, 0 + c = c := fun l1 => by grind
  refine ⟨f', t', ?_, h3, h4, h5⟩
  · have := h1 N 0 hn; rw [e0] at this; exact this
