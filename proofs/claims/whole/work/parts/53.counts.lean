/-! PURE: counts and sums -/
theorem lp_seq {β : Type} {L : Nat → Nat → Option β} {n : Nat} {fin : Option β} (h1 : ∀ fu i, i < n → L (fu + 1) i = L fu (i + 1)) (h2 : ∀ fu, L (fu + 1) n = fin) : ∀ (d i fu : Nat), i + d = n → d < fu → L fu i = fin := by
  intro d
  induction d with
  | zero => intro i fu hi hf; obtain ⟨k, rfl⟩ : ∃ k, fu = k + 1 := ⟨fu - 1, by omega⟩; rw [show i = n by omega]; exact h2 k
  | succ d ih =>
    intro i fu hi hf
    obtain ⟨k, rfl⟩ : ∃ k, fu = k + 1 := ⟨fu - 1, by omega⟩
    rw [h1 k i (by omega)]
    exact ih (i + 1) k (by omega) (by omega)
theorem m_flag (P : Prop) (inst : Decidable P) : F_X12_flag (if P then 0 else 1) = some (if P then 0 else 1) := by
  unfold F_X12_flag
  by_cases h : P
  · rw [if_pos h]; rfl
  · rw [if_neg h]; rfl
section COUNTS
variable {N nf ns : Nat} {f : Nat → Nat → Int32} {s : Nat → Int32}
theorem k_count (hN : 1000 ≤ N) (hnf : nf ≤ 4) (g : Nat → Int32) : F_X1_countTaken N (nI nf) g = some (nI (cT g nf)) := by
  unfold F_X1_countTaken
  refine lp_seq (L := fun fu i => F_X1_countTaken_b4 N (nI nf) g fu (nI (cT g i)) (nI i)) (n := nf) (fun fu i hi => ?_) (fun fu => ?_) nf 0 N (by omega) (by omega)
  · show F_X1_countTaken_b4 N (nI nf) g (fu + 1) (nI (cT g i)) (nI i) = _
    rw [F_X1_countTaken_b4, if_neg (nI_ge hi (by omega)), k_taken hnf hi, Option.bind_some]
    unfold F_X1_countTaken_b23
    by_cases q : g i ≤ 0
    · rw [if_pos q, if_pos rfl, nI_1, show cT g (i + 1) = cT g i by show cT g i + (if g i ≤ 0 then 0 else 1) = _; rw [if_pos q]; rfl]
    · rw [if_neg q, if_neg (by decide), nI_1, nI_1, show cT g (i + 1) = cT g i + 1 by show cT g i + (if g i ≤ 0 then 0 else 1) = _; rw [if_neg q]]
  · show F_X1_countTaken_b4 N (nI nf) g (fu + 1) (nI (cT g nf)) (nI nf) = _
    rw [F_X1_countTaken_b4, if_pos (nI_le (Nat.le_refl _) (by omega))]
theorem m_loads (hN : 1000 ≤ N) (hR : RH nf ns f s) : F_X12_loads N s = some (nI (cT (f 1) nf)) := by
  obtain ⟨⟨h6, hn1, hn4⟩, -, -, -, hF, -⟩ := id hR
  unfold F_X12_loads
  refine lp_seq (L := fun fu i => F_X12_loads_b4 N s fu (nI (cT (f 1) i)) (nI i)) (n := nf) (fun fu i hi => ?_) (fun fu => ?_) nf 0 N (by omega) (by omega)
  · show F_X12_loads_b4 N s (fu + 1) (nI (cT (f 1) i)) (nI i) = _
    rw [F_X12_loads_b4, tn6, h6, if_neg (nI_ge hi (by omega)), m_loadedR hR hi, Option.bind_some, m_flag, Option.bind_some, nI_1]
    by_cases q : f 1 i ≤ 0
    · rw [if_pos q, show nI (cT (f 1) i) + 0 = nI (cT (f 1) i) by grind, show cT (f 1) (i + 1) = cT (f 1) i by show cT (f 1) i + (if f 1 i ≤ 0 then 0 else 1) = _; rw [if_pos q]; rfl]
    · rw [if_neg q, nI_1, show cT (f 1) (i + 1) = cT (f 1) i + 1 by show cT (f 1) i + (if f 1 i ≤ 0 then 0 else 1) = _; rw [if_neg q]]
  · show F_X12_loads_b4 N s (fu + 1) (nI (cT (f 1) nf)) (nI nf) = _
    rw [F_X12_loads_b4, tn6, h6, if_pos (nI_le (Nat.le_refl _) (by omega))]
/-- how many sacks smoulder -/
def pSk (f : Nat → Nat → Int32) : Nat → Nat
  | 0 => 0
  | k + 1 => pSk f k + (if f 4 k = 0 ∧ f 6 k < 60 ∧ 50 ≤ f 8 k then 1 else 0)
theorem p_smSacks (hN : 1000 ≤ N) (hR : RH nf ns f s) (th : Int32) : F_X11_smoulderingSacks N (s 7) (f 6) (f 4) (f 8) = some (nI (pSk f ns)) ∧ F_X12_smoulderingSacks N th s = some (nI (pSk f ns), 0) := by
  obtain ⟨-, ⟨h7, hns⟩, -, -, -, hS⟩ := id hR
  constructor
  · unfold F_X11_smoulderingSacks F_X5_countSmouldering
    have : F_X5_countSmouldering_b4 N (nI ns) (f 6) (f 4) (f 8) N (nI (pSk f 0)) (nI 0) = some (nI (pSk f ns)) := by
      refine lp_seq (L := fun fu i => F_X5_countSmouldering_b4 N (nI ns) (f 6) (f 4) (f 8) fu (nI (pSk f i)) (nI i)) (n := ns) (fun fu i hi => ?_) (fun fu => ?_) ns 0 N (by omega) (by omega)
      · show F_X5_countSmouldering_b4 N (nI ns) (f 6) (f 4) (f 8) (fu + 1) (nI (pSk f i)) (nI i) = _
        rw [F_X5_countSmouldering_b4, if_neg (nI_ge hi (by omega)), k_smo hns hi, Option.bind_some]
        unfold F_X5_countSmouldering_b23
        by_cases q : f 4 i = 0 ∧ f 6 i < 60 ∧ 50 ≤ f 8 i
        · rw [if_pos q, if_neg (by decide), nI_1, nI_1, show pSk f (i + 1) = pSk f i + 1 by show pSk f i + (if f 4 i = 0 ∧ f 6 i < 60 ∧ 50 ≤ f 8 i then 1 else 0) = _; rw [if_pos q]]
        · rw [if_neg q, if_pos rfl, nI_1, show pSk f (i + 1) = pSk f i by show pSk f i + (if f 4 i = 0 ∧ f 6 i < 60 ∧ 50 ≤ f 8 i then 1 else 0) = _; rw [if_neg q]; rfl]
      · show F_X5_countSmouldering_b4 N (nI ns) (f 6) (f 4) (f 8) (fu + 1) (nI (pSk f ns)) (nI ns) = _
        rw [F_X5_countSmouldering_b4, if_pos (nI_le (Nat.le_refl _) (by omega))]
    rw [h7, show F_X5_countSmouldering_b4 N (nI ns) (f 6) (f 4) (f 8) N 0 0 = _ from this, Option.bind_some]
  · unfold F_X12_smoulderingSacks
    refine lp_seq (L := fun fu i => F_X12_smoulderingSacks_b9 N s fu (nI (pSk f i)) (nI i) 0) (n := ns) (fun fu i hi => ?_) (fun fu => ?_) ns 0 N (by omega) (by omega)
    · show F_X12_smoulderingSacks_b9 N s (fu + 1) (nI (pSk f i)) (nI i) 0 = _
      rw [F_X12_smoulderingSacks_b9, tn7, h7, if_neg (nI_ge hi (by omega)), m_smo (by omega), (hS i hi).1, (hS i hi).2.2.1.1, (hS i hi).2.2.2.2.1, Option.bind_some]
      unfold F_X12_flag
      by_cases q : f 4 i = 0 ∧ f 6 i < 60 ∧ 50 ≤ f 8 i
      · rw [if_pos q, if_neg (by decide), Option.bind_some, nI_1, nI_1, show pSk f (i + 1) = pSk f i + 1 by show pSk f i + (if f 4 i = 0 ∧ f 6 i < 60 ∧ 50 ≤ f 8 i then 1 else 0) = _; rw [if_pos q]]
      · rw [if_neg q, if_pos rfl, Option.bind_some, nI_1, show nI (pSk f i) + 0 = nI (pSk f i) by grind, show pSk f (i + 1) = pSk f i by show pSk f i + (if f 4 i = 0 ∧ f 6 i < 60 ∧ 50 ≤ f 8 i then 1 else 0) = _; rw [if_neg q]; rfl]
    · show F_X12_smoulderingSacks_b9 N s (fu + 1) (nI (pSk f ns)) (nI ns) 0 = _
      rw [F_X12_smoulderingSacks_b9, tn7, h7, if_pos (nI_le (Nat.le_refl _) (by omega))]
/-- the hottest stored sack, of k sacks -/
def pHt (f : Nat → Nat → Int32) : Nat → Option Nat
  | 0 => none
  | k + 1 => if f 4 k = 0 then (match pHt f k with | none => some k | some j => if f 8 k ≤ f 8 j then some j else some k) else pHt f k
def oI : Option Nat → Int32
  | none => -1
  | some j => nI j
theorem pHt_lt (f : Nat → Nat → Int32) : ∀ k j, pHt f k = some j → j < k := by
  intro k
  induction k with
  | zero => intro j h; cases h
  | succ k ih =>
    intro j h
    unfold pHt at h
    split at h
    · split at h
      · injection h with h; omega
      · rename_i j' hj'
        have := ih j' hj'
        split at h
        · injection h with h; omega
        · injection h with h; omega
    · have := ih j h; omega
theorem nI_ne_m1 {j : Nat} (h : j < 20) : ¬ nI j = -1 := by
  have : (0 : Int32) ≤ nI j := nI_le (a := 0) (Nat.zero_le _) (by omega)
  intro q; rw [q] at this; revert this; decide
theorem p_hottest (hN : 1000 ≤ N) (hR : RH nf ns f s) (th : Int32) : F_X11_hottestSack N (s 7) (f 4) (f 8) = some (oI (pHt f ns)) ∧ F_X12_hottestSack N th s = some (oI (pHt f ns), 0) := by
  obtain ⟨-, ⟨h7, hns⟩, -, -, -, hS⟩ := id hR
  constructor
  · unfold F_X11_hottestSack F_X5_hottest
    have : F_X5_hottest_b4 N (nI ns) (f 4) (f 8) N (oI (pHt f 0)) (nI 0) = some (oI (pHt f ns)) := by
      refine lp_seq (L := fun fu i => F_X5_hottest_b4 N (nI ns) (f 4) (f 8) fu (oI (pHt f i)) (nI i)) (n := ns) (fun fu i hi => ?_) (fun fu => ?_) ns 0 N (by omega) (by omega)
      · show F_X5_hottest_b4 N (nI ns) (f 4) (f 8) (fu + 1) (oI (pHt f i)) (nI i) = F_X5_hottest_b4 N (nI ns) (f 4) (f 8) fu (oI (pHt f (i + 1))) (nI (i + 1))
        have hi20 : i < 20 := by omega
        rw [F_X5_hottest_b4, if_neg (nI_ge hi (by omega)), k_st hns hi, Option.bind_some]
        unfold F_X5_hottest_b40 F_X5_hottest_b42
        by_cases q : f 4 i = 0
        · rw [if_pos q, if_neg (by decide)]
          cases e : pHt f i with
          | none =>
            rw [show pHt f (i + 1) = some i by show (if f 4 i = 0 then _ else _) = _; rw [if_pos q, e]]
            show (if (-1 : Int32) = -1 then _ else _) = _
            rw [if_pos rfl, nI_1]; rfl
          | some j =>
            have hj := pHt_lt f i j e
            show (if nI j = -1 then _ else _) = _
            rw [if_neg (nI_ne_m1 (by omega)), if_pos (xin_nI (by omega) (by decide)), if_pos (show xin (oI (some j)) 20 = true from xin_nI (by omega) (by decide)), tnI (by omega), show (oI (some j)).toNatClampNeg = j from tnI (by omega), nI_1]
            by_cases r : f 8 i ≤ f 8 j
            · rw [if_pos r, show pHt f (i + 1) = some j by show (if f 4 i = 0 then _ else _) = _; rw [if_pos q, e]; show (if f 8 i ≤ f 8 j then some j else some i) = _; rw [if_pos r]]
            · rw [if_neg r, show pHt f (i + 1) = some i by show (if f 4 i = 0 then _ else _) = _; rw [if_pos q, e]; show (if f 8 i ≤ f 8 j then some j else some i) = _; rw [if_neg r]]; rfl
        · rw [if_neg q, if_pos rfl, nI_1, show pHt f (i + 1) = pHt f i by show (if f 4 i = 0 then _ else _) = _; rw [if_neg q]]
      · show F_X5_hottest_b4 N (nI ns) (f 4) (f 8) (fu + 1) (oI (pHt f ns)) (nI ns) = _
        rw [F_X5_hottest_b4, if_pos (nI_le (Nat.le_refl _) (by omega))]
    rw [h7, show F_X5_hottest_b4 N (nI ns) (f 4) (f 8) N (-1) 0 = _ from this, Option.bind_some]
  · unfold F_X12_hottestSack
    refine lp_seq (L := fun fu i => F_X12_hottestSack_b9 N s fu (oI (pHt f i)) (nI i) 0) (n := ns) (fun fu i hi => ?_) (fun fu => ?_) ns 0 N (by omega) (by omega)
    · show F_X12_hottestSack_b9 N s (fu + 1) (oI (pHt f i)) (nI i) 0 = F_X12_hottestSack_b9 N s fu (oI (pHt f (i + 1))) (nI (i + 1)) 0
      rw [F_X12_hottestSack_b9, tn7, h7, if_neg (nI_ge hi (by omega)), m_of0 (by omega), (hS i hi).1, Option.bind_some]
      unfold F_X12_hottestSack_b49 F_X12_hottestSack_b51
      by_cases q : f 4 i = 0
      · rw [if_pos q]
        cases e : pHt f i with
        | none =>
          rw [show pHt f (i + 1) = some i by show (if f 4 i = 0 then _ else _) = _; rw [if_pos q, e]]
          show (if (-1 : Int32) = -1 then _ else _) = _
          rw [if_pos rfl, nI_1]; rfl
        | some j =>
          have hj := pHt_lt f i j e
          show (if nI j = -1 then _ else _) = _
          rw [if_neg (nI_ne_m1 (by omega)), m_of4 (by omega), (hS i hi).2.2.2.2.1, Option.bind_some, show F_X12_of (oI (some j)) 4 s = some (f 8 j) by rw [← (hS j (by omega)).2.2.2.2.1]; exact m_of4 (by omega) s, Option.bind_some, nI_1]
          by_cases r : f 8 i ≤ f 8 j
          · rw [if_pos r, show pHt f (i + 1) = some j by show (if f 4 i = 0 then _ else _) = _; rw [if_pos q, e]; show (if f 8 i ≤ f 8 j then some j else some i) = _; rw [if_pos r]]
          · rw [if_neg r, show pHt f (i + 1) = some i by show (if f 4 i = 0 then _ else _) = _; rw [if_pos q, e]; show (if f 8 i ≤ f 8 j then some j else some i) = _; rw [if_neg r]]; rfl
      · rw [if_neg q, nI_1, show pHt f (i + 1) = pHt f i by show (if f 4 i = 0 then _ else _) = _; rw [if_neg q]]
    · show F_X12_hottestSack_b9 N s (fu + 1) (oI (pHt f ns)) (nI ns) 0 = _
      rw [F_X12_hottestSack_b9, tn7, h7, if_pos (nI_le (Nat.le_refl _) (by omega))]
end COUNTS
