/-! PURE: the word of a command -/
def vb (c : Nat → Int32) (p : Nat) : Nat := if bIs 408612 c p = true then 0 else (if bIs 13098162 c p = true then 1 else (if bIs 620365445 c p = true then 2 else (if bIs 206405 c p = true then 3 else (if bIs 234546 c p = true then 4 else (if bIs 763332 c p = true then 5 else (if bIs 628108 c p = true then 6 else (if bIs 592623720 c p = true then 7 else (if bIs 754996 c p = true then 8 else (if bIs 609752116 c p = true then 9 else 10)))))))))
def vW : Nat → Nat
  | 0 => 408612
  | 1 => 13098162
  | 2 => 620365445
  | 3 => 206405
  | 4 => 234546
  | 5 => 763332
  | 6 => 628108
  | 7 => 592623720
  | 8 => 754996
  | _ => 609752116
theorem k_verb {N L p : Nat} {b c : Nat → Int32} (hN : 1000 ≤ N) (h : TX L b c) (hp : p ≤ L) : F_X7_verbHere N (nI (tE c p)) (tK c p) (nI (tQ c p)) (nI L) b = some (if vb c p = 10 then -1 else nI (vb c p)) := by
  have w0 : F_X10_isWord N 3 (nI (tE c p)) (tK c p) (nI (tQ c p)) (nI L) b = some (cI (bIs 408612 c p)) := by rw [k_w3 hN h hp (iIs _ _ _), bIs_cI]
  have w1 : F_X10_isWord N 4 (nI (tE c p)) (tK c p) (nI (tQ c p)) (nI L) b = some (cI (bIs 13098162 c p)) := by rw [k_w4 hN h hp (iIs _ _ _), bIs_cI]
  have w2 : F_X10_isWord N 5 (nI (tE c p)) (tK c p) (nI (tQ c p)) (nI L) b = some (cI (bIs 620365445 c p)) := by rw [k_w5 hN h hp (iIs _ _ _), bIs_cI]
  have w3 : F_X10_isWord N 6 (nI (tE c p)) (tK c p) (nI (tQ c p)) (nI L) b = some (cI (bIs 206405 c p)) := by rw [k_w6 hN h hp (iIs _ _ _), bIs_cI]
  have w4 : F_X10_isWord N 7 (nI (tE c p)) (tK c p) (nI (tQ c p)) (nI L) b = some (cI (bIs 234546 c p)) := by rw [k_w7 hN h hp (iIs _ _ _), bIs_cI]
  have w5 : F_X10_isWord N 8 (nI (tE c p)) (tK c p) (nI (tQ c p)) (nI L) b = some (cI (bIs 763332 c p)) := by rw [k_w8 hN h hp (iIs _ _ _), bIs_cI]
  have w6 : F_X10_isWord N 9 (nI (tE c p)) (tK c p) (nI (tQ c p)) (nI L) b = some (cI (bIs 628108 c p)) := by rw [k_w9 hN h hp (iIs _ _ _), bIs_cI]
  have w7 : F_X10_isWord N 10 (nI (tE c p)) (tK c p) (nI (tQ c p)) (nI L) b = some (cI (bIs 592623720 c p)) := by rw [k_w10 hN h hp (iIs _ _ _), bIs_cI]
  have w8 : F_X10_isWord N 11 (nI (tE c p)) (tK c p) (nI (tQ c p)) (nI L) b = some (cI (bIs 754996 c p)) := by rw [k_w11 hN h hp (iIs _ _ _), bIs_cI]
  have w9 : F_X10_isWord N 12 (nI (tE c p)) (tK c p) (nI (tQ c p)) (nI L) b = some (cI (bIs 609752116 c p)) := by rw [k_w12 hN h hp (iIs _ _ _), bIs_cI]
  unfold F_X7_verbHere vb
  rw [w0, w1, w2, w3, w4, w5, w6, w7, w8, w9]
  generalize bIs 408612 c p = b0
  generalize bIs 13098162 c p = b1
  generalize bIs 620365445 c p = b2
  generalize bIs 206405 c p = b3
  generalize bIs 234546 c p = b4
  generalize bIs 763332 c p = b5
  generalize bIs 628108 c p = b6
  generalize bIs 592623720 c p = b7
  generalize bIs 754996 c p = b8
  generalize bIs 609752116 c p = b9
  cases b0 with
  | true => rfl
  | false =>
    cases b1 with
    | true => rfl
    | false =>
      cases b2 with
      | true => rfl
      | false =>
        cases b3 with
        | true => rfl
        | false =>
          cases b4 with
          | true => rfl
          | false =>
            cases b5 with
            | true => rfl
            | false =>
              cases b6 with
              | true => rfl
              | false =>
                cases b7 with
                | true => rfl
                | false =>
                  cases b8 with
                  | true => rfl
                  | false =>
                    cases b9 with
                    | true => rfl
                    | false =>
                      rfl
theorem m_order {L p : Nat} {b c : Nat → Int32} (h : TX L b c) (hp : p ≤ L) (z : Int32) {wd : Int64} (hw : tK c p = 1 → wd = tW c p) : F_X12_isOrder (nI (tE c p)) z (nI (tQ c p)) (tK c p) wd = some (cI (decide (z = 0) && decide (¬ vb c p = 10))) := by
  have w0 : F_X12_isWord (Int64.ofNat 408612) (nI (tE c p)) z (nI (tQ c p)) (tK c p) wd = some (cI (decide (z = 0) && bIs 408612 c p)) := m_isW 408612 h hp z hw
  have w1 : F_X12_isWord (Int64.ofNat 13098162) (nI (tE c p)) z (nI (tQ c p)) (tK c p) wd = some (cI (decide (z = 0) && bIs 13098162 c p)) := m_isW 13098162 h hp z hw
  have w2 : F_X12_isWord (Int64.ofNat 620365445) (nI (tE c p)) z (nI (tQ c p)) (tK c p) wd = some (cI (decide (z = 0) && bIs 620365445 c p)) := m_isW 620365445 h hp z hw
  have w3 : F_X12_isWord (Int64.ofNat 206405) (nI (tE c p)) z (nI (tQ c p)) (tK c p) wd = some (cI (decide (z = 0) && bIs 206405 c p)) := m_isW 206405 h hp z hw
  have w4 : F_X12_isWord (Int64.ofNat 234546) (nI (tE c p)) z (nI (tQ c p)) (tK c p) wd = some (cI (decide (z = 0) && bIs 234546 c p)) := m_isW 234546 h hp z hw
  have w5 : F_X12_isWord (Int64.ofNat 763332) (nI (tE c p)) z (nI (tQ c p)) (tK c p) wd = some (cI (decide (z = 0) && bIs 763332 c p)) := m_isW 763332 h hp z hw
  have w6 : F_X12_isWord (Int64.ofNat 628108) (nI (tE c p)) z (nI (tQ c p)) (tK c p) wd = some (cI (decide (z = 0) && bIs 628108 c p)) := m_isW 628108 h hp z hw
  have w7 : F_X12_isWord (Int64.ofNat 592623720) (nI (tE c p)) z (nI (tQ c p)) (tK c p) wd = some (cI (decide (z = 0) && bIs 592623720 c p)) := m_isW 592623720 h hp z hw
  have w8 : F_X12_isWord (Int64.ofNat 754996) (nI (tE c p)) z (nI (tQ c p)) (tK c p) wd = some (cI (decide (z = 0) && bIs 754996 c p)) := m_isW 754996 h hp z hw
  have w9 : F_X12_isWord (Int64.ofNat 609752116) (nI (tE c p)) z (nI (tQ c p)) (tK c p) wd = some (cI (decide (z = 0) && bIs 609752116 c p)) := m_isW 609752116 h hp z hw
  unfold F_X12_isOrder F_X12_isOrder_b100 vb
  rw [w0, w1, w2, w3, w4, w5, w6, w7, w8, w9]
  generalize bIs 408612 c p = b0
  generalize bIs 13098162 c p = b1
  generalize bIs 620365445 c p = b2
  generalize bIs 206405 c p = b3
  generalize bIs 234546 c p = b4
  generalize bIs 763332 c p = b5
  generalize bIs 628108 c p = b6
  generalize bIs 592623720 c p = b7
  generalize bIs 754996 c p = b8
  generalize bIs 609752116 c p = b9
  generalize decide (z = 0) = zz
  cases zz with
  | false => rfl
  | true =>
    cases b0 with
    | true => rfl
    | false =>
      cases b1 with
      | true => rfl
      | false =>
        cases b2 with
        | true => rfl
        | false =>
          cases b3 with
          | true => rfl
          | false =>
            cases b4 with
            | true => rfl
            | false =>
              cases b5 with
              | true => rfl
              | false =>
                cases b6 with
                | true => rfl
                | false =>
                  cases b7 with
                  | true => rfl
                  | false =>
                    cases b8 with
                    | true => rfl
                    | false =>
                      cases b9 with
                      | true => rfl
                      | false =>
                        rfl
theorem vb_le (c : Nat → Int32) (p : Nat) : vb c p ≤ 10 := by
  unfold vb
  repeat' split
  all_goals decide
theorem vb_W {c : Nat → Int32} {p : Nat} (hv : ¬ vb c p = 10) : bIs (vW (vb c p)) c p = true := by
  unfold vb at hv ⊢
  by_cases h0 : bIs 408612 c p = true
  · rw [if_pos h0]; exact h0
  · rw [if_neg h0] at hv ⊢
    by_cases h1 : bIs 13098162 c p = true
    · rw [if_pos h1]; exact h1
    · rw [if_neg h1] at hv ⊢
      by_cases h2 : bIs 620365445 c p = true
      · rw [if_pos h2]; exact h2
      · rw [if_neg h2] at hv ⊢
        by_cases h3 : bIs 206405 c p = true
        · rw [if_pos h3]; exact h3
        · rw [if_neg h3] at hv ⊢
          by_cases h4 : bIs 234546 c p = true
          · rw [if_pos h4]; exact h4
          · rw [if_neg h4] at hv ⊢
            by_cases h5 : bIs 763332 c p = true
            · rw [if_pos h5]; exact h5
            · rw [if_neg h5] at hv ⊢
              by_cases h6 : bIs 628108 c p = true
              · rw [if_pos h6]; exact h6
              · rw [if_neg h6] at hv ⊢
                by_cases h7 : bIs 592623720 c p = true
                · rw [if_pos h7]; exact h7
                · rw [if_neg h7] at hv ⊢
                  by_cases h8 : bIs 754996 c p = true
                  · rw [if_pos h8]; exact h8
                  · rw [if_neg h8] at hv ⊢
                    by_cases h9 : bIs 609752116 c p = true
                    · rw [if_pos h9]; exact h9
                    · rw [if_neg h9] at hv ⊢
                      exact absurd rfl hv
theorem vb_wd {c : Nat → Int32} {p : Nat} {wd : Int64} (hv : ¬ vb c p = 10) (hw : tK c p = 1 → wd = tW c p) : tK c p = 1 ∧ wd = Int64.ofNat (vW (vb c p)) := by
  obtain ⟨h1, -, h3⟩ := (bIs_iff _ c p).mp (vb_W hv)
  exact ⟨h1, by rw [hw h1, h3]; rfl⟩
