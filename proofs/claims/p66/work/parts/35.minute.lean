/-! PURE: a minute, minutes -/
def RH (nf ns : Nat) (f : Nat → Nat → Int32) (s : Nat → Int32) : Prop :=
  (s 6 = nI nf ∧ 1 ≤ nf ∧ nf ≤ 4) ∧ (s 7 = nI ns ∧ ns ≤ 20) ∧ (0 ≤ s 1 ∧ s 1 ≤ 90) ∧ pAir s ∧ RF nf f s ∧ RS ns f s
theorem RF.cong {nf : Nat} {f f' : Nat → Nat → Int32} {s s' : Nat → Int32} (h : RF nf f s) (hnf : nf ≤ 4) (hs : ∀ j, 14 ≤ j → j < 30 → s' j = s j) (h0 : f' 0 = f 0) (h1 : f' 1 = f 1) (h2 : f' 2 = f 2) (h3 : f' 3 = f 3) : RF nf f' s' := fun i hi => by
  have q := h i hi
  rw [hs _ (by omega) (by omega), hs _ (by omega) (by omega), hs _ (by omega) (by omega), hs _ (by omega) (by omega), h0, h1, h2, h3]
  exact q
theorem RS.cong {b : Nat → Int32} {ns : Nat} {f f' : Nat → Nat → Int32} {s s' : Nat → Int32} (h : RSb b ns f s) (hs : ∀ j, 30 ≤ j → s' j = s j) (h4 : f' 4 = f 4) (h5 : f' 5 = f 5) (h6 : f' 6 = f 6) (h7 : f' 7 = f 7) (h8 : f' 8 = f 8) : RSb b ns f' s' := fun k hk => by
  have q := h k hk
  rw [hs _ (by omega), hs _ (by omega), hs _ (by omega), hs _ (by omega), hs _ (by omega), h4, h5, h6, h7, h8]
  exact q
theorem pAir.cong {s s' : Nat → Int32} (h : pAir s) (h2 : s' 2 = s 2) (h3 : s' 3 = s 3) (h4 : s' 4 = s 4) (h5 : s' 5 = s 5) : pAir s' := by
  unfold pAir; rw [h2, h3, h4, h5]; exact h
theorem p_turn {s : Nat → Int32} (hA : pAir s) : ∃ (c : Int32) (s' : Nat → Int32), F_X0_turnVane (s 5) (s 3) (s 4) = some (c, s' 5) ∧ F_X12_turns s = some ((), s') ∧ s' 13 = s 13 + c ∧ (∀ j, j ≠ 5 → j ≠ 13 → s' j = s j) ∧ pAir s' := by
  have hc := pCw_r hA
  have e0 : s 13 + 0 = s 13 := by grind
  by_cases h1 : s 4 < 2
  · refine ⟨0, s, ?_, ?_, e0.symm, fun _ _ _ => rfl, hA⟩
    · unfold F_X0_turnVane F_X0_turnVane_b17; rw [k_cw, Option.bind_some, if_pos h1]
    · unfold F_X12_turns; rw [tn4, if_pos h1]
  · by_cases h2 : pCw s = 0
    · refine ⟨0, s, ?_, ?_, e0.symm, fun _ _ _ => rfl, hA⟩
      · unfold F_X0_turnVane F_X0_turnVane_b17; rw [k_cw, Option.bind_some, if_neg h1, if_pos h2]
      · unfold F_X12_turns; rw [tn4, if_neg h1, m_dv, Option.bind_some, if_pos (by unfold pDv; rw [h2]; rfl)]
    · have hdv : ¬ pDv s = 0 := by unfold pDv; split <;> grind
      have go : ∀ z : Int32, 0 ≤ z → z ≤ 7 → ∃ s', F_X12_turns_b32 z s = some ((), s') ∧ s' 5 = (s 5 + z) - (s 5 + z) / 8 * 8 ∧ s' 13 = s 13 + 1 ∧ (∀ j, j ≠ 5 → j ≠ 13 → s' j = s j) ∧ pAir s' := by
        intro z hz0 hz7
        refine ⟨_, rfl, ?_, ?_, fun j h5 h13 => ?_, ?_⟩
        · rw [tn5, tn13, upd_o _ _ (by decide), upd_s]
        · rw [tn5, tn13, upd_s, upd_o _ _ (by decide)]
        · rw [tn5, tn13, upd_o _ _ h13, upd_o _ _ h5]
        · have hA2 := hA.2.2.2
          have hr := p_rem8 (x := s 5 + z) (by grind) (by grind)
          unfold pAir
          rw [tn5, tn13, upd_o _ _ (show 2 ≠ 13 by decide), upd_o _ _ (show 2 ≠ 5 by decide), upd_o _ _ (show 3 ≠ 13 by decide), upd_o _ _ (show 3 ≠ 5 by decide), upd_o _ _ (show 4 ≠ 13 by decide), upd_o _ _ (show 4 ≠ 5 by decide), upd_o _ _ (show 5 ≠ 13 by decide), upd_s]
          exact ⟨hA.1, hA.2.1, hA.2.2.1, hr⟩
      by_cases h3 : 4 < pCw s
      · obtain ⟨s', g1, g2, g3, g4, g5⟩ := go 7 (by decide) (by decide)
        refine ⟨1, s', ?_, ?_, g3, g4, g5⟩
        · unfold F_X0_turnVane F_X0_turnVane_b30; rw [k_cw, Option.bind_some, if_neg h1, if_neg h2, if_pos h3, g2]
        · unfold F_X12_turns; rw [tn4, if_neg h1, m_dv, Option.bind_some, if_neg hdv, m_cw, Option.bind_some, if_pos h3, g1]
      · obtain ⟨s', g1, g2, g3, g4, g5⟩ := go 1 (by decide) (by decide)
        refine ⟨1, s', ?_, ?_, g3, g4, g5⟩
        · unfold F_X0_turnVane F_X0_turnVane_b30; rw [k_cw, Option.bind_some, if_neg h1, if_neg h2, if_neg h3, g2]
        · unfold F_X12_turns; rw [tn4, if_neg h1, m_dv, Option.bind_some, if_neg hdv, m_cw, Option.bind_some, if_neg h3, g1]
/-- what a minute leaves: rows and numbers that don't change -/
def pKeep (f f' : Nat → Nat → Int32) (s s' : Nat → Int32) : Prop := (f' 0 = f 0 ∧ f' 1 = f 1 ∧ f' 5 = f 5 ∧ f' 6 = f 6 ∧ f' 7 = f 7) ∧ (s' 2 = s 2 ∧ s' 3 = s 3 ∧ s' 4 = s 4 ∧ s' 6 = s 6 ∧ s' 7 = s 7 ∧ s' 8 = s 8 ∧ s' 9 = s 9 ∧ s' 11 = s 11)
theorem pKeep.rf {f : Nat → Nat → Int32} {s : Nat → Int32} : pKeep f f s s := ⟨⟨rfl, rfl, rfl, rfl, rfl⟩, rfl, rfl, rfl, rfl, rfl, rfl, rfl, rfl⟩
theorem pKeep.tr {f f' f'' : Nat → Nat → Int32} {s s' s'' : Nat → Int32} (h : pKeep f f' s s') (k : pKeep f' f'' s' s'') : pKeep f f'' s s'' := by
  obtain ⟨⟨a0, a1, a5, a6, a7⟩, b2, b3, b4, b6, b7, b8, b9, b11⟩ := h
  obtain ⟨⟨c0, c1, c5, c6, c7⟩, d2, d3, d4, d6, d7, d8, d9, d11⟩ := k
  exact ⟨⟨c0.trans a0, c1.trans a1, c5.trans a5, c6.trans a6, c7.trans a7⟩, d2.trans b2, d3.trans b3, d4.trans b4, d6.trans b6, d7.trans b7, d8.trans b8, d9.trans b9, d11.trans b11⟩
theorem p_damped {nf ns : Nat} {f : Nat → Nat → Int32} {s : Nat → Int32} (hR : RH nf ns f s) : RH nf ns f (pDamp nf s) ∧ (∀ j, j ≠ 1 → j ≠ 12 → pDamp nf s j = s j) := by
  obtain ⟨⟨h6, hn1, hn4⟩, ⟨h7, hns⟩, hh, hA, hF, hS⟩ := hR
  have eo : ∀ j, j ≠ 1 → j ≠ 12 → pDamp nf s j = s j := fun j h1 h12 => by unfold pDamp; rw [upd_o _ _ h12, upd_o _ _ h1]
  have e1 : pDamp nf s 1 = pH s nf (s 1) := rfl
  have hr := pH_r hF hA hn4 hh.1 hh.2 nf (Nat.le_refl _)
  exact ⟨⟨⟨(eo 6 (by decide) (by decide)).trans h6, hn1, hn4⟩, ⟨(eo 7 (by decide) (by decide)).trans h7, hns⟩, by rw [e1]; exact ⟨hr.1, by grind⟩, hA.cong (eo 2 (by decide) (by decide)) (eo 3 (by decide) (by decide)) (eo 4 (by decide) (by decide)) (eo 5 (by decide) (by decide)), hF.cong hn4 (fun j h14 _ => eo j (by omega) (by omega)) rfl rfl rfl rfl, RS.cong hS (fun j h30 => eo j (by omega) (by omega)) rfl rfl rfl rfl rfl⟩, eo⟩
theorem p_min {N nf ns : Nat} {f : Nat → Nat → Int32} {s : Nat → Int32} (hN : 1000 ≤ N) (hR : RH nf ns f s) (t w : Nat → Int32) :
    ∃ (f' : Nat → Nat → Int32) (s' t' w' : Nat → Int32) (c : Int32),
      (∀ fu l1 l2 l3, ¬ l1 ≤ l3 → F_X3_passMinutes_b4 N (s 2) (s 3) (s 4) (s 6) (f 0) (f 1) (s 7) (f 5) (f 6) (fu + 1) l1 l2 l3 (s 12) (s 1) (s 0) (s 13) (s 5) (f 2) (f 3) (s 10) (f 4) (f 8) t =
        F_X3_passMinutes_b4 N (s 2) (s 3) (s 4) (s 6) (f 0) (f 1) (s 7) (f 5) (f 6) fu l1 (l2 + c) (l3 + 1) (s' 12) (s' 1) (s' 0) (s' 13) (s' 5) (f' 2) (f' 3) (s' 10) (f' 4) (f' 8) t') ∧
      F_X12_minute1 N s w = some (c, s', w') ∧ RH nf ns f' s' ∧ pKeep f f' s s' ∧ s' 0 = s 0 + 1 := by
  obtain ⟨⟨h6, hn1, hn4⟩, ⟨h7, hns⟩, hh, hA, hF, hS⟩ := id hR
  obtain ⟨x, hx⟩ : ∃ x, x = (if ((s 0 + 1) - (s 0 + 1) / 10 * 10) = 0 then (if s 1 ≤ 0 then s 1 else s 1 - 1) else s 1) := ⟨_, rfl⟩
  have hxr : 0 ≤ x ∧ x ≤ 90 := by rw [hx]; grind
  obtain ⟨s1, hs1⟩ : ∃ s1, s1 = upd (upd s 0 (s 0 + 1)) 1 x := ⟨_, rfl⟩
  have s1o : ∀ j, j ≠ 0 → j ≠ 1 → s1 j = s j := fun j a b => by rw [hs1, upd_o _ _ b, upd_o _ _ a]
  have s10 : s1 0 = s 0 + 1 := by rw [hs1]; rfl
  have s11 : s1 1 = x := by rw [hs1]; rfl
  have hA1 : pAir s1 := hA.cong (s1o 2 (by decide) (by decide)) (s1o 3 (by decide) (by decide)) (s1o 4 (by decide) (by decide)) (s1o 5 (by decide) (by decide))
  obtain ⟨cv, s2, tv1, tv2, tv3, tv4, hA2⟩ := p_turn hA1
  have s2o : ∀ j, j ≠ 0 → j ≠ 1 → j ≠ 5 → j ≠ 13 → s2 j = s j := fun j a b c d => by rw [tv4 j c d, s1o j a b]
  have s21 : s2 1 = x := by rw [tv4 1 (by decide) (by decide), s11]
  have hF2 : RF nf f s2 := hF.cong hn4 (fun j h14 _ => s2o j (by omega) (by omega) (by omega) (by omega)) rfl rfl rfl rfl
  obtain ⟨g2, g3, t', s3, w', dd1, dd2, hF3, dd4⟩ := d_dry (s := s2) hN hn4 (by rw [s2o 6 (by decide) (by decide) (by decide) (by decide), h6]) hF2 hA2 (by rw [s21]; exact hxr) t w
  have hS3 : RS ns f s3 := RS.cong hS (fun j h30 => by rw [dd4.2 j h30, s2o j (by omega) (by omega) (by omega) (by omega)]) rfl rfl rfl rfl rfl
  have s3o : ∀ j, j < 14 → s3 j = s2 j := dd4.1
  obtain ⟨g4, g8, s4, c, gg1, gg2, hS4, gg4⟩ := g_glow (s := s3) hN hns (by rw [s3o 7 (by decide), s2o 7 (by decide) (by decide) (by decide) (by decide), h7]) hS3
  obtain ⟨f', hf'⟩ : ∃ f', f' = va_up (va_up (va_up (va_up f 2 g2) 3 g3) 4 g4) 8 g8 := ⟨_, rfl⟩
  have f0 : f' 0 = f 0 := by rw [hf']; rfl
  have f1 : f' 1 = f 1 := by rw [hf']; rfl
  have f2 : f' 2 = g2 := by rw [hf']; rfl
  have f3 : f' 3 = g3 := by rw [hf']; rfl
  have f4 : f' 4 = g4 := by rw [hf']; rfl
  have f5 : f' 5 = f 5 := by rw [hf']; rfl
  have f6 : f' 6 = f 6 := by rw [hf']; rfl
  have f7 : f' 7 = f 7 := by rw [hf']; rfl
  have f8 : f' 8 = g8 := by rw [hf']; rfl
  have s4o : ∀ j, j < 14 → j ≠ 10 → s4 j = s2 j := fun j h14 h10 => by rw [gg4 j (by omega) h10, s3o j h14]
  have hF4 : RF nf f' s4 := hF3.cong hn4 (fun j h14 h30 => gg4 j h30 (by omega)) f0 f1 f2 f3
  have hS4' : RS ns f' s4 := RS.cong hS4 (fun _ _ => rfl) f4 f5 f6 f7 f8
  have hA4 : pAir s4 := hA2.cong (s4o 2 (by decide) (by decide)) (s4o 3 (by decide) (by decide)) (s4o 4 (by decide) (by decide)) (s4o 5 (by decide) (by decide))
  have s41 : s4 1 = x := by rw [s4o 1 (by decide) (by decide), s21]
  have q := fun j a b c d => s2o j a b c d
  have h46 : s4 6 = nI nf := by rw [s4o 6 (by decide) (by decide), q 6 (by decide) (by decide) (by decide) (by decide), h6]
  have hR4 : RH nf ns f' s4 := ⟨⟨h46, hn1, hn4⟩, ⟨by rw [s4o 7 (by decide) (by decide), q 7 (by decide) (by decide) (by decide) (by decide), h7], hns⟩, by rw [s41]; exact hxr, hA4, hF4, hS4'⟩
  obtain ⟨hR5, s5o⟩ := p_damped hR4
  have kd := k_damp hN hn4 hF4 hA4 (by rw [s41]; exact hxr)
  have md := m_damps hN hn4 h46 hF4 hA4 (by rw [s41]; exact hxr)
  have e2 : s4 2 = s 2 := by rw [s4o 2 (by decide) (by decide), q 2 (by decide) (by decide) (by decide) (by decide)]
  have e3 : s4 3 = s 3 := by rw [s4o 3 (by decide) (by decide), q 3 (by decide) (by decide) (by decide) (by decide)]
  have e4 : s4 4 = s 4 := by rw [s4o 4 (by decide) (by decide), q 4 (by decide) (by decide) (by decide) (by decide)]
  have e12 : s4 12 = s 12 := by rw [s4o 12 (by decide) (by decide), q 12 (by decide) (by decide) (by decide) (by decide)]
  have e5 : s4 5 = s2 5 := s4o 5 (by decide) (by decide)
  have e0 : s4 0 = s 0 + 1 := by rw [s4o 0 (by decide) (by decide), tv4 0 (by decide) (by decide), s10]
  have e13 : s4 13 = s 13 + cv := by rw [s4o 13 (by decide) (by decide), tv3, s1o 13 (by decide) (by decide)]
  have z0 := s5o 0 (by decide) (by decide)
  refine ⟨f', pDamp nf s4, t', w', c, fun fu l1 l2 l3 hl => ?_, ?_, hR5, ⟨⟨f0, f1, f5, f6, f7⟩, ?_, ?_, ?_, ?_, ?_, ?_, ?_, ?_⟩, by rw [z0, e0]⟩
  · -- class
    have b46 : ∀ (r : Int32 → Int32 → Int32 → Int32 → Int32 → Int32 → Int32 → Int32 → (Nat → Int32) → (Nat → Int32) → Int32 → (Nat → Int32) → (Nat → Int32) → (Nat → Int32) → Option (Int32 × Int32 × Int32 × Int32 × Int32 × Int32 × (Nat → Int32) × (Nat → Int32) × Int32 × (Nat → Int32) × (Nat → Int32) × (Nat → Int32))),
        F_X3_passMinutes_b46 r N (s 2) (s 3) (s 4) (s 6) (f 0) (f 1) (s 7) (f 5) (f 6) l1 l2 l3 (s 12) x (s 0 + 1) (s 13) (s 5) (f 2) (f 3) (s 10) (f 4) (f 8) t = r l1 (l2 + c) (l3 + 1) (pDamp nf s4 12) (pDamp nf s4 1) (pDamp nf s4 0) (pDamp nf s4 13) (pDamp nf s4 5) (f' 2) (f' 3) (pDamp nf s4 10) (f' 4) (f' 8) t' := by
      intro r
      unfold F_X3_passMinutes_b46
      have c1 : F_X0_turnVane (s 5) (s 3) (s 4) = some (cv, s2 5) := by rw [← s1o 5 (by decide) (by decide), ← s1o 3 (by decide) (by decide), ← s1o 4 (by decide) (by decide)]; exact tv1
      rw [c1, Option.bind_some]
      have c2 : F_X3_dryLoads N x (s 2) (s2 5) (s 3) (s 4) (s 6) (f 1) (f 2) (f 3) t = some ((), g2, g3, t') := by rw [h6, ← s21, ← q 2 (by decide) (by decide) (by decide) (by decide), ← q 3 (by decide) (by decide) (by decide) (by decide), ← q 4 (by decide) (by decide) (by decide) (by decide)]; exact dd1
      rw [show ((cv, s2 5) : Int32 × Int32).2 = s2 5 from rfl, c2, Option.bind_some]
      have c3 : F_X5_glow N (s 10) (s 7) (f 5) (f 6) (f 4) (f 8) = some (c, s4 10, g4, g8) := by rw [h7, ← q 10 (by decide) (by decide) (by decide) (by decide), ← s3o 10 (by decide)]; exact gg1
      rw [c3, Option.bind_some]
      have c4 : F_X3_damp N (s 12) x (s 2) (s2 5) (s 3) (s 4) (s 6) (f 0) (f 1) g2 = some ((), pDamp nf s4 12, pDamp nf s4 1) := by
        rw [← e12, ← s41, ← e2, ← e3, ← e4, ← e5, h6, ← f0, ← f1, ← f2]; exact kd
      show (F_X3_damp N (s 12) x (s 2) (s2 5) (s 3) (s 4) (s 6) (f 0) (f 1) g2).bind _ = _
      rw [c4, Option.bind_some, z0, e0, s5o 13 (by decide) (by decide), e13, s5o 5 (by decide) (by decide), e5, s5o 10 (by decide) (by decide), f2, f3, f4, f8]
    rw [F_X3_passMinutes_b4, if_neg hl]
    by_cases c0 : ((s 0 + 1) - (s 0 + 1) / 10 * 10) = 0
    · rw [if_pos c0]; rw [if_pos c0] at hx
      by_cases c1 : s 1 ≤ 0
      · rw [if_pos c1]; rw [if_pos c1] at hx; rw [← hx]; exact b46 _
      · rw [if_neg c1]; rw [if_neg c1] at hx; rw [← hx]; exact b46 _
    · rw [if_neg c0]; rw [if_neg c0] at hx; rw [← hx]; exact b46 _
  · -- model
    have b43 : ∀ z : Int32, s 1 - z = x → F_X12_flag 0 = some 0 ∧ F_X12_flag 1 = some 1 → (F_X12_turns (upd (upd s 0 (s 0 + 1)) 1 (s 1 - z))).bind (fun x6 => ((F_X12_driesAll N x6.2 w).bind fun x8 => ((F_X12_glows N x8.2.1).bind fun x10 => ((F_X12_damps N x10.2).bind fun x12 => some (x10.1, x12.2, x8.2.2))))) = some (c, pDamp nf s4, w') := by
      intro z hz _
      rw [hz, ← hs1, tv2, Option.bind_some, dd2, Option.bind_some, gg2, Option.bind_some, md, Option.bind_some]
    have hx1 : xin 1 130 = true := by decide
    have hf : F_X12_flag 0 = some 0 ∧ F_X12_flag 1 = some 1 := ⟨rfl, rfl⟩
    unfold F_X12_minute1 F_X12_minute1_b42 F_X12_minute1_b43
    rw [tn0, tn1, upd_s, upd_o _ _ (show 1 ≠ 0 by decide), hf.1, hf.2, Option.bind_some, Option.bind_some, if_pos hx1, if_pos hx1]
    by_cases c0 : ((s 0 + 1) - (s 0 + 1) / 10 * 10) = 0
    · rw [if_pos c0]; rw [if_pos c0] at hx
      by_cases c1 : s 1 ≤ 0
      · rw [if_pos c1]; rw [if_pos c1] at hx; exact b43 0 (by rw [hx]; grind) hf
      · rw [if_neg c1]; rw [if_neg c1] at hx; exact b43 1 hx.symm hf
    · rw [if_neg c0]; rw [if_neg c0] at hx; exact b43 0 (by rw [hx]; grind) hf
  · rw [s5o 2 (by decide) (by decide), e2]
  · rw [s5o 3 (by decide) (by decide), e3]
  · rw [s5o 4 (by decide) (by decide), e4]
  · rw [s5o 6 (by decide) (by decide), h46, h6]
  · rw [s5o 7 (by decide) (by decide), s4o 7 (by decide) (by decide), q 7 (by decide) (by decide) (by decide) (by decide)]
  · rw [s5o 8 (by decide) (by decide), s4o 8 (by decide) (by decide), q 8 (by decide) (by decide) (by decide) (by decide)]
  · rw [s5o 9 (by decide) (by decide), s4o 9 (by decide) (by decide), q 9 (by decide) (by decide) (by decide) (by decide)]
  · rw [s5o 11 (by decide) (by decide), s4o 11 (by decide) (by decide), q 11 (by decide) (by decide) (by decide) (by decide)]
theorem p_mins {N nf ns n : Nat} (hN : 1000 ≤ N) (hn : n < 2 ^ 31) : ∀ (d i : Nat) (f : Nat → Nat → Int32) (s t w : Nat → Int32), i + d = n → RH nf ns f s →
    ∃ (f' : Nat → Nat → Int32) (s' t' w' : Nat → Int32) (c : Int32),
      (∀ fu l2, d < fu → F_X3_passMinutes_b4 N (s 2) (s 3) (s 4) (s 6) (f 0) (f 1) (s 7) (f 5) (f 6) fu (nI n) l2 (nI i) (s 12) (s 1) (s 0) (s 13) (s 5) (f 2) (f 3) (s 10) (f 4) (f 8) t =
        some (l2 + c, s' 12, s' 1, s' 0, s' 13, s' 5, f' 2, f' 3, s' 10, f' 4, f' 8, t')) ∧
      (∀ fu l2, d < fu → F_X12_minutes1_b4 N fu (nI n) l2 (nI i) s w = some (l2 + c, s', w')) ∧ RH nf ns f' s' ∧ pKeep f f' s s' ∧ s' 0 = s 0 + nI d := by
  intro d
  induction d with
  | zero =>
    intro i f s t w hi hR
    obtain rfl : i = n := by omega
    have e0 : ∀ l1 : Int32, l1 + 0 = l1 := fun l1 => by grind
    refine ⟨f, s, t, w, 0, fun fu l2 hf => ?_, fun fu l2 hf => ?_, hR, pKeep.rf, (e0 _).symm⟩
    · obtain ⟨k, rfl⟩ : ∃ k, fu = k + 1 := ⟨fu - 1, by omega⟩
      rw [F_X3_passMinutes_b4, if_pos (nI_le (Nat.le_refl _) (by omega)), e0]
    · obtain ⟨k, rfl⟩ : ∃ k, fu = k + 1 := ⟨fu - 1, by omega⟩
      rw [F_X12_minutes1_b4, if_pos (nI_le (Nat.le_refl _) (by omega)), e0]
  | succ d ih =>
    intro i f s t w hi hR
    obtain ⟨f1, s1, t1, w1, c1, h1, h2, h3, h4, h5⟩ := p_min hN hR t w
    obtain ⟨f2, s2, t2, w2, c2, j1, j2, j3, j4, j5⟩ := ih (i + 1) f1 s1 t1 w1 (by omega) h3
    have ec : ∀ l1 : Int32, l1 + c1 + c2 = l1 + (c1 + c2) := fun l1 => by grind
    refine ⟨f2, s2, t2, w2, c1 + c2, fun fu l2 hf => ?_, fun fu l2 hf => ?_, j3, h4.tr j4, ?_⟩
    · obtain ⟨k, rfl⟩ : ∃ k, fu = k + 1 := ⟨fu - 1, by omega⟩
      have := j1 k (l2 + c1) (by omega)
      obtain ⟨⟨a0, a1, a5, a6, a7⟩, b2, b3, b4, b6, b7, -⟩ := h4
      rw [h1 k (nI n) l2 (nI i) (nI_ge (by omega) (by omega)), ← ec, nI_1]
      rw [b2, b3, b4, b6, b7, a0, a1, a5, a6] at this
      exact this
    · obtain ⟨k, rfl⟩ : ∃ k, fu = k + 1 := ⟨fu - 1, by omega⟩
      rw [F_X12_minutes1_b4, if_neg (nI_ge (by omega) (by omega)), h2, Option.bind_some, ← ec, nI_1]
      exact j2 k _ (by omega)
    · rw [j5, h5, nI_succ]; grind
theorem p_pass {N nf ns n : Nat} {f : Nat → Nat → Int32} {s : Nat → Int32} (hN : 1000 ≤ N) (hn : n < N) (hn2 : n < 2 ^ 31) (hR : RH nf ns f s) (t w : Nat → Int32) :
    ∃ (f' : Nat → Nat → Int32) (s' t' w' : Nat → Int32) (c : Int32),
      F_X3_passMinutes N (nI n) (s 12) (s 1) (s 0) (s 13) (s 2) (s 5) (s 3) (s 4) (s 6) (f 0) (f 1) (f 2) (f 3) (s 10) (s 7) (f 5) (f 6) (f 4) (f 8) t = some (c, s' 12, s' 1, s' 0, s' 13, s' 5, f' 2, f' 3, s' 10, f' 4, f' 8, t') ∧
      F_X12_minutes1 N (nI n) s w = some (c, s', w') ∧ RH nf ns f' s' ∧ pKeep f f' s s' ∧ s' 0 = s 0 + nI n := by
  obtain ⟨f', s', t', w', c, h1, h2, h3, h4, h5⟩ := p_mins hN hn2 n 0 f s t w (by omega) hR
  have e0 : ∀ c : Int32, 0 + c = c := fun l1 => by grind
  refine ⟨f', s', t', w', c, ?_, ?_, h3, h4, h5⟩
  · have := h1 N 0 hn; rw [e0] at this; exact this
  · have := h2 N 0 hn; rw [e0] at this; exact this
