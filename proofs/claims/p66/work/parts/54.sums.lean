/-! PURE: contradictions, shares and means -/
def pSu (g : Nat → Int32) : Nat → Int32
  | 0 => 0
  | i + 1 => pSu g i + g i
def pGo (f : Nat → Nat → Int32) : Nat → Int32
  | 0 => 0
  | k + 1 => if f 4 k = 0 then pGo f k else pGo f k + f 5 k
def pHo (f : Nat → Nat → Int32) (s : Nat → Int32) : Nat → Int32
  | 0 => 0
  | i + 1 => if pT s i ≤ f 0 i then pHo f s i else pHo f s i + 1
theorem pW_step (s : Nat → Int32) (j : Nat) : pW s (j + 1) = (pW s j - 4) - s (16 + 4 * j) / 100 := by
  unfold pW
  rw [show pC s (j + 1) = pC s j + s (16 + 4 * j) / 100 from rfl, ← nI_1]
  grind
section SUMS
variable {N nf ns : Nat} {f : Nat → Nat → Int32} {s : Nat → Int32}
theorem k_suF (hN : 1000 ≤ N) (hnf : nf ≤ 4) (g : Nat → Int32) : F_X1_sumOfMasses N (nI nf) g = some (pSu g nf) := by
  unfold F_X1_sumOfMasses
  refine lp_seq (L := fun fu i => F_X1_sumOfMasses_b4 N (nI nf) g fu (pSu g i) (nI i)) (n := nf) (fun fu i hi => ?_) (fun fu => ?_) nf 0 N (by omega) (by omega)
  · show F_X1_sumOfMasses_b4 N (nI nf) g (fu + 1) (pSu g i) (nI i) = _
    rw [F_X1_sumOfMasses_b4, if_neg (nI_ge hi (by omega)), if_pos (xin_nI (by omega) (by decide)), tnI (by omega), nI_1]; rfl
  · show F_X1_sumOfMasses_b4 N (nI nf) g (fu + 1) (pSu g nf) (nI nf) = _
    rw [F_X1_sumOfMasses_b4, if_pos (nI_le (Nat.le_refl _) (by omega))]
theorem k_suS (hN : 1000 ≤ N) (hns : ns ≤ 20) (g : Nat → Int32) : F_X5_sumOfMasses N (nI ns) g = some (pSu g ns) := by
  unfold F_X5_sumOfMasses
  refine lp_seq (L := fun fu i => F_X5_sumOfMasses_b4 N (nI ns) g fu (pSu g i) (nI i)) (n := ns) (fun fu i hi => ?_) (fun fu => ?_) ns 0 N (by omega) (by omega)
  · show F_X5_sumOfMasses_b4 N (nI ns) g (fu + 1) (pSu g i) (nI i) = _
    rw [F_X5_sumOfMasses_b4, if_neg (nI_ge hi (by omega)), if_pos (xin_nI (by omega) (by decide)), tnI (by omega), nI_1]; rfl
  · show F_X5_sumOfMasses_b4 N (nI ns) g (fu + 1) (pSu g ns) (nI ns) = _
    rw [F_X5_sumOfMasses_b4, if_pos (nI_le (Nat.le_refl _) (by omega))]
theorem k_suG (hN : 1000 ≤ N) (hns : ns ≤ 20) (f : Nat → Nat → Int32) : F_X5_sumOfMassesGone N (nI ns) (f 5) (f 4) = some (pGo f ns) := by
  unfold F_X5_sumOfMassesGone
  refine lp_seq (L := fun fu i => F_X5_sumOfMassesGone_b4 N (nI ns) (f 5) (f 4) fu (pGo f i) (nI i)) (n := ns) (fun fu i hi => ?_) (fun fu => ?_) ns 0 N (by omega) (by omega)
  · show F_X5_sumOfMassesGone_b4 N (nI ns) (f 5) (f 4) (fu + 1) (pGo f i) (nI i) = F_X5_sumOfMassesGone_b4 N (nI ns) (f 5) (f 4) fu (pGo f (i + 1)) (nI (i + 1))
    rw [F_X5_sumOfMassesGone_b4, if_neg (nI_ge hi (by omega)), k_st hns hi, Option.bind_some]
    unfold F_X5_sumOfMassesGone_b29
    by_cases q : f 4 i = 0
    · rw [if_pos q, if_neg (by decide), nI_1, show pGo f (i + 1) = pGo f i from if_pos q]
    · rw [if_neg q, if_pos rfl, if_pos (xin_nI (by omega) (by decide)), tnI (by omega), nI_1, show pGo f (i + 1) = pGo f i + f 5 i from if_neg q]
  · show F_X5_sumOfMassesGone_b4 N (nI ns) (f 5) (f 4) (fu + 1) (pGo f ns) (nI ns) = _
    rw [F_X5_sumOfMassesGone_b4, if_pos (nI_le (Nat.le_refl _) (by omega))]
theorem k_hot (hN : 1000 ≤ N) (hnf : nf ≤ 4) (hF : RF nf f s) : F_X3_countTooHot N (s 1) (s 2) (s 5) (s 3) (s 4) (nI nf) (f 0) (f 1) (f 2) = some (pHo f s nf) := by
  unfold F_X3_countTooHot
  refine lp_seq (L := fun fu i => F_X3_countTooHot_b4 N (s 1) (s 2) (s 5) (s 3) (s 4) (nI nf) (f 0) (f 1) (f 2) fu (pHo f s i) (nI i)) (n := nf) (fun fu i hi => ?_) (fun fu => ?_) nf 0 N (by omega) (by omega)
  · show F_X3_countTooHot_b4 N (s 1) (s 2) (s 5) (s 3) (s 4) (nI nf) (f 0) (f 1) (f 2) (fu + 1) (pHo f s i) (nI i) = F_X3_countTooHot_b4 N (s 1) (s 2) (s 5) (s 3) (s 4) (nI nf) (f 0) (f 1) (f 2) fu (pHo f s (i + 1)) (nI (i + 1))
    rw [F_X3_countTooHot_b4, if_neg (nI_ge hi (by omega)), k_tn hN hnf (by omega) hF, Option.bind_some, if_pos (xin_nI (by omega) (by decide)), tnI (by omega)]
    unfold F_X3_countTooHot_b35
    by_cases q : pT s i ≤ f 0 i
    · rw [if_pos q, nI_1, show pHo f s (i + 1) = pHo f s i from if_pos q]
    · rw [if_neg q, nI_1, show pHo f s (i + 1) = pHo f s i + 1 from if_neg q]
  · show F_X3_countTooHot_b4 N (s 1) (s 2) (s 5) (s 3) (s 4) (nI nf) (f 0) (f 1) (f 2) (fu + 1) (pHo f s nf) (nI nf) = _
    rw [F_X3_countTooHot_b4, if_pos (nI_le (Nat.le_refl _) (by omega))]
theorem k_breaks (hN : 1000 ≤ N) (hn1 : 1 ≤ nf) (hnf : nf ≤ 4) (hF : RF nf f s) : F_X3_countWarmthBreaks N (s 1) (s 2) (s 5) (s 3) (s 4) (nI nf) (f 1) (f 2) = some 0 := by
  unfold F_X3_countWarmthBreaks
  rw [k_d, Option.bind_some]
  refine lp_seq (L := fun fu i => F_X3_countWarmthBreaks_b12 N (s 1) (nI nf) (f 1) (f 2) fu (pD s) 0 (nI (i + 1))) (n := nf - 1) (fun fu i hi => ?_) (fun fu => ?_) (nf - 1) 0 N (by omega) (by omega)
  · show F_X3_countWarmthBreaks_b12 N (s 1) (nI nf) (f 1) (f 2) (fu + 1) (pD s) 0 (nI (i + 1)) = F_X3_countWarmthBreaks_b12 N (s 1) (nI nf) (f 1) (f 2) fu (pD s) 0 (nI (i + 1 + 1))
    rw [F_X3_countWarmthBreaks_b12, if_neg (nI_ge (by omega) (by omega)), nI_pm (by omega), Nat.add_sub_cancel, k_w hN hnf (by omega) hF, Option.bind_some, k_cool hnf (by omega) hF, Option.bind_some, k_w hN hnf (by omega) hF, Option.bind_some, if_pos (pW_step s i)]
    unfold F_X3_countWarmthBreaks_b60
    rw [nI_1]
  · show F_X3_countWarmthBreaks_b12 N (s 1) (nI nf) (f 1) (f 2) (fu + 1) (pD s) 0 (nI (nf - 1 + 1)) = _
    rw [F_X3_countWarmthBreaks_b12, if_pos (nI_le (by omega) (by omega))]
theorem p_contradictions (hN : 1000 ≤ N) (hR : RH nf ns f s) (th : Int32) : ∃ v, F_X11_contradictions N (s 1) (s 8) (s 2) (s 5) (s 3) (s 4) (s 6) (f 0) (f 1) (f 2) (s 10) (s 7) (s 9) (f 5) (f 4) = some v ∧ F_X12_contradictions N th s = some (v, 0) := by
  obtain ⟨⟨h6, hn1, hn4⟩, ⟨h7, hns⟩, -, -, hF, hS⟩ := id hR
  refine ⟨((pHo f s nf + xabs ((s 8 - pSu (f 1) nf) - pSu (f 5) ns)) + xabs ((s 9 + s 10) - pGo f ns)) + 0, ?_, ?_⟩
  · unfold F_X11_contradictions
    rw [h6, h7, k_suF hN hn4, Option.bind_some, k_suS hN hns, Option.bind_some, k_suG hN hns, Option.bind_some, k_hot hN hn4 hF, Option.bind_some, k_breaks hN hn1 hn4 hF, Option.bind_some]
  · have eb : ∀ x, F_X12_bare x = some (xabs x) := fun x => by
      unfold F_X12_bare xabs
      by_cases q : 0 ≤ x
      · rw [if_pos q, if_pos q]
      · rw [if_neg q, if_neg q, show -x = 0 - x by grind]
    have lpS : F_X12_contradictions_b131 N s N (pHo f s nf) (s 8 - pSu (f 1) nf - pSu (f 5) 0) (s 9 + s 10 - pGo f 0) (nI 0) 0 = some ((pHo f s nf + xabs (s 8 - pSu (f 1) nf - pSu (f 5) ns)) + xabs (s 9 + s 10 - pGo f ns), 0) := by
      refine lp_seq (L := fun fu i => F_X12_contradictions_b131 N s fu (pHo f s nf) (s 8 - pSu (f 1) nf - pSu (f 5) i) (s 9 + s 10 - pGo f i) (nI i) 0) (n := ns) (fun fu i hi => ?_) (fun fu => ?_) ns 0 N (by omega) (by omega)
      · show F_X12_contradictions_b131 N s (fu + 1) (pHo f s nf) (s 8 - pSu (f 1) nf - pSu (f 5) i) (s 9 + s 10 - pGo f i) (nI i) 0 = F_X12_contradictions_b131 N s fu (pHo f s nf) (s 8 - pSu (f 1) nf - pSu (f 5) (i + 1)) (s 9 + s 10 - pGo f (i + 1)) (nI (i + 1)) 0
        rw [F_X12_contradictions_b131, tn7, h7, if_neg (nI_ge hi (by omega)), m_of1 (by omega), (hS i hi).2.1.1, Option.bind_some, m_of0 (by omega), (hS i hi).1, Option.bind_some, Option.bind_some]
        unfold F_X12_contradictions_b175
        rw [nI_1, show pSu (f 5) (i + 1) = pSu (f 5) i + f 5 i from rfl, show s 8 - pSu (f 1) nf - pSu (f 5) i - f 5 i = s 8 - pSu (f 1) nf - (pSu (f 5) i + f 5 i) by grind]
        by_cases q : f 4 i = 0
        · rw [if_pos q, show pGo f (i + 1) = pGo f i from if_pos q, show s 9 + s 10 - pGo f i - 0 = s 9 + s 10 - pGo f i by grind]
        · rw [if_neg q, show pGo f (i + 1) = pGo f i + f 5 i from if_neg q, show s 9 + s 10 - pGo f i - f 5 i = s 9 + s 10 - (pGo f i + f 5 i) by grind]
      · show F_X12_contradictions_b131 N s (fu + 1) (pHo f s nf) (s 8 - pSu (f 1) nf - pSu (f 5) ns) (s 9 + s 10 - pGo f ns) (nI ns) 0 = _
        rw [F_X12_contradictions_b131, tn7, h7, if_pos (nI_le (Nat.le_refl _) (by omega)), eb, Option.bind_some, eb, Option.bind_some]
    have lpF : F_X12_contradictions_b17 N s N (pHo f s 0) (s 8 - pSu (f 1) 0) (nI 0) 0 = F_X12_contradictions_b131 N s N (pHo f s nf) (s 8 - pSu (f 1) nf) (s 9 + s 10) 0 0 := by
      refine lp_seq (L := fun fu i => F_X12_contradictions_b17 N s fu (pHo f s i) (s 8 - pSu (f 1) i) (nI i) 0) (n := nf) (fun fu i hi => ?_) (fun fu => ?_) nf 0 N (by omega) (by omega)
      · show F_X12_contradictions_b17 N s (fu + 1) (pHo f s i) (s 8 - pSu (f 1) i) (nI i) 0 = F_X12_contradictions_b17 N s fu (pHo f s (i + 1)) (s 8 - pSu (f 1) (i + 1)) (nI (i + 1)) 0
        have t92 : ∀ h, F_X12_contradictions_b91 (F_X12_contradictions_b17 N s fu) N s (s 8 - pSu (f 1) i) (nI i) h 0 = F_X12_contradictions_b17 N s fu h (s 8 - pSu (f 1) (i + 1)) (nI (i + 1)) 0 := by
          intro h
          unfold F_X12_contradictions_b91 F_X12_contradictions_b92
          rw [show F_X12_flag 0 = some 0 from rfl, Option.bind_some, m_on1 (by omega), (hF i hi).2.1.1, Option.bind_some, nI_1, show pSu (f 1) (i + 1) = pSu (f 1) i + f 1 i from rfl, show s 8 - pSu (f 1) i - f 1 i = s 8 - (pSu (f 1) i + f 1 i) by grind, show h + 0 = h by grind]
        have t48 : ∀ b, (b = 0 ∨ b = 1) → F_X12_contradictions_b48 (F_X12_contradictions_b17 N s fu) N s (s 8 - pSu (f 1) i) (nI i) (pHo f s i) b 0 = F_X12_contradictions_b17 N s fu (pHo f s i + b) (s 8 - pSu (f 1) (i + 1)) (nI (i + 1)) 0 := by
          intro b hb
          unfold F_X12_contradictions_b48
          rw [show F_X12_flag b = some b by rcases hb with rfl | rfl <;> rfl, Option.bind_some]
          by_cases h0 : i = 0
          · rw [if_pos (by rw [h0]; decide), t92]
          · obtain ⟨j, rfl⟩ : ∃ j, i = j + 1 := ⟨i - 1, by omega⟩
            rw [if_neg (show ¬ nI (j + 1) ≤ 0 from nI_ge (a := 0) (by omega) (by omega)), m_w hN (by omega), Option.bind_some, nI_pm (by omega), Nat.add_sub_cancel, m_w hN (by omega), Option.bind_some, m_on2 (by omega), Option.bind_some, if_pos (pW_step s j), t92]
        rw [F_X12_contradictions_b17, tn6, h6, if_neg (nI_ge hi (by omega)), m_deg hN (by omega), Option.bind_some, m_on0 (by omega), (hF i hi).1.1, Option.bind_some]
        by_cases q : pT s i ≤ f 0 i
        · rw [if_pos q, t48 0 (Or.inl rfl), show pHo f s (i + 1) = pHo f s i from if_pos q, show pHo f s i + 0 = pHo f s i by grind]
        · rw [if_neg q, t48 1 (Or.inr rfl), show pHo f s (i + 1) = pHo f s i + 1 from if_neg q]
      · show F_X12_contradictions_b17 N s (fu + 1) (pHo f s nf) (s 8 - pSu (f 1) nf) (nI nf) 0 = _
        rw [F_X12_contradictions_b17, tn6, h6, if_pos (nI_le (Nat.le_refl _) (by omega)), tn9, tn10]
    unfold F_X12_contradictions
    rw [tn8]
    rw [show pHo f s 0 = 0 from rfl, show pSu (f 1) 0 = 0 from rfl, show s 8 - 0 = s 8 by grind] at lpF
    rw [show pSu (f 5) 0 = 0 from rfl, show pGo f 0 = 0 from rfl, show s 8 - pSu (f 1) nf - 0 = s 8 - pSu (f 1) nf by grind, show s 9 + s 10 - 0 = s 9 + s 10 by grind] at lpS
    refine (show F_X12_contradictions_b17 N s N 0 (s 8) 0 0 = _ from lpF).trans ((show F_X12_contradictions_b131 N s N (pHo f s nf) (s 8 - pSu (f 1) nf) (s 9 + s 10) 0 0 = _ from lpS).trans ?_)
    rw [show ((pHo f s nf + xabs (s 8 - pSu (f 1) nf - pSu (f 5) ns)) + xabs (s 9 + s 10 - pGo f ns)) + 0 = (pHo f s nf + xabs (s 8 - pSu (f 1) nf - pSu (f 5) ns)) + xabs (s 9 + s 10 - pGo f ns) by grind]
end SUMS
