/-! PURE: shares and means -/
theorem fp32 : ∀ k, k < 5 → ∀ m, m < 5 → 0 < m → xnn32 (FP.fdiv (FP.i2f (nI k)) (FP.i2f (nI m))) = true := by decide +kernel
def pMo (s : Nat → Int32) : Nat → Int32
  | 0 => 0
  | i + 1 => pMo s i + s (16 + 4 * i)
section MEANS
variable {N nf ns : Nat} {f : Nat → Nat → Int32} {s : Nat → Int32}
theorem k_mo (hN : 1000 ≤ N) (hnf : nf ≤ 4) (hF : RF nf f s) : F_X1_sumOfMoistures N (nI nf) (f 1) (f 2) = some (pMo s nf) := by
  unfold F_X1_sumOfMoistures
  refine lp_seq (L := fun fu i => F_X1_sumOfMoistures_b4 N (nI nf) (f 1) (f 2) fu (pMo s i) (nI i)) (n := nf) (fun fu i hi => ?_) (fun fu => ?_) nf 0 N (by omega) (by omega)
  · show F_X1_sumOfMoistures_b4 N (nI nf) (f 1) (f 2) (fu + 1) (pMo s i) (nI i) = F_X1_sumOfMoistures_b4 N (nI nf) (f 1) (f 2) fu (pMo s i + s (16 + 4 * i)) (nI (i + 1))
    obtain ⟨-, -, -, -, gp, gz⟩ := hF i hi
    rw [F_X1_sumOfMoistures_b4, if_neg (nI_ge hi (by omega)), k_taken hnf hi, Option.bind_some]
    unfold F_X1_sumOfMoistures_b29
    by_cases q : f 1 i ≤ 0
    · rw [if_pos q, if_pos rfl, nI_1, (gz q).1, show pMo s i + 0 = pMo s i by grind]
    · rw [if_neg q, if_neg (by decide), if_pos (xin_nI (by omega) (by decide)), tnI (by omega), nI_1, (gp (by grind)).1]
  · show F_X1_sumOfMoistures_b4 N (nI nf) (f 1) (f 2) (fu + 1) (pMo s nf) (nI nf) = _
    rw [F_X1_sumOfMoistures_b4, if_pos (nI_le (Nat.le_refl _) (by omega))]
theorem pMo_r (hnf : nf ≤ 4) (hF : RF nf f s) : ∀ i, i ≤ nf → ∃ k, k ≤ 800 * i ∧ pMo s i = nI k := by
  intro i
  induction i with
  | zero => intro _; exact ⟨0, by omega, rfl⟩
  | succ i ih =>
    intro hi
    obtain ⟨k, hk, e⟩ := ih (by omega)
    obtain ⟨-, -, g2, -⟩ := hF i (by omega)
    obtain ⟨m, hm, e2⟩ := n_of (x := s (16 + 4 * i)) (n := 800) (by decide) g2.1 g2.2
    refine ⟨k + m, by omega, ?_⟩
    show pMo s i + s (16 + 4 * i) = _
    rw [e, e2, nI_add]
theorem m_mo (hN : 1000 ≤ N) (hR : RH nf ns f s) (th : Int32) : F_X12_meanMoisture N th s = (if nI (cT (f 1) nf) = 0 then some (0, 0) else (if xnn64 (FP.ddiv (FP.i2d (pMo s nf)) (FP.i2d (nI (cT (f 1) nf)))) = true then some ((FP.ddiv (FP.i2d (pMo s nf)) (FP.i2d (nI (cT (f 1) nf)))), 0) else none)) := by
  obtain ⟨⟨h6, hn1, hn4⟩, -, -, -, hF, -⟩ := id hR
  unfold F_X12_meanMoisture
  refine lp_seq (L := fun fu i => F_X12_meanMoisture_b9 N s fu (pMo s i) (nI i) 0) (n := nf) (fun fu i hi => ?_) (fun fu => ?_) nf 0 N (by omega) (by omega)
  · show F_X12_meanMoisture_b9 N s (fu + 1) (pMo s i) (nI i) 0 = F_X12_meanMoisture_b9 N s fu (pMo s i + s (16 + 4 * i)) (nI (i + 1)) 0
    rw [F_X12_meanMoisture_b9, tn6, h6, if_neg (nI_ge hi (by omega)), m_on2 (by omega), Option.bind_some, nI_1]
  · show F_X12_meanMoisture_b9 N s (fu + 1) (pMo s nf) (nI nf) 0 = _
    rw [F_X12_meanMoisture_b9, tn6, h6, if_pos (nI_le (Nat.le_refl _) (by omega)), m_loads hN hR, Option.bind_some, Option.bind_some]
theorem k_mean (hN : 1000 ≤ N) (hR : RH nf ns f s) : F_X11_meanMoisture N (s 6) (f 1) (f 2) = (if nI (cT (f 1) nf) = 0 then some 0 else (if xnn64 (FP.ddiv (FP.i2d (pMo s nf)) (FP.i2d (nI (cT (f 1) nf)))) = true then some (FP.ddiv (FP.i2d (pMo s nf)) (FP.i2d (nI (cT (f 1) nf)))) else none)) := by
  obtain ⟨⟨h6, hn1, hn4⟩, -, -, -, hF, -⟩ := id hR
  unfold F_X11_meanMoisture
  rw [h6, k_count hN hn4, Option.bind_some, k_mo hN hn4 hF, Option.bind_some]
theorem p_share (hN : 1000 ≤ N) (hR : RH nf ns f s) (th : Int32) : F_X11_loadedShare N (s 6) (f 1) = some (FP.fdiv (FP.i2f (nI (cT (f 1) nf))) (FP.i2f (nI nf))) ∧ F_X12_loadedShare N th s = some (FP.fdiv (FP.i2f (nI (cT (f 1) nf))) (FP.i2f (nI nf)), 0) := by
  obtain ⟨⟨h6, hn1, hn4⟩, -, -, -, hF, -⟩ := id hR
  have hc := cT_le (f 1) nf
  have hx := fp32 (cT (f 1) nf) (by omega) nf (by omega) (by omega)
  constructor
  · unfold F_X11_loadedShare
    rw [h6, if_neg (fun q => by have := (nI_eq (a := nf) (b := 0) (by omega) (by decide)).mp q; omega), k_count hN hn4, Option.bind_some, if_pos hx]
  · unfold F_X12_loadedShare
    rw [m_loads hN hR, Option.bind_some, tn6, h6, if_pos hx]
end MEANS
