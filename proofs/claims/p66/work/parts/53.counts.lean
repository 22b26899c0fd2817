/-! PURE: counts and sums -/
theorem lp_seq {β : Type} {L : Nat → Nat → Option β} {n : Nat} {fin : Option β} (h1 : ∀ fu i, i < n → L (fu + 1) i = L fu (i + 1)) (h2 : ∀ fu, L (fu + 1) n = fin) : ∀ (d i fu : Nat), i + d = n → d < fu → L fu i = fin := by
  intro d
  induction d with
  | zero => intro i fu hi hf; obtain ⟨k, rfl⟩ : ∃ k, fu = k + 1 := ⟨fu - 1, by omega⟩; rw [show i = n by omega]; exact h2 k
  | succ d ih =>
    intro i fu hi hf
    obtain ⟨k, rfl⟩ : ∃ k, fu = k + 1 := ⟨fu - 1, by omega⟩
    rw [h1 k i (by omega)]
    exact ih (i + 1) k (by omega) (by omega)
theorem m_flag (P : Prop) (inst : Decidable P) : F_X12_flag (if P then 0 else 1) = some (if P then 0 else 1) := by
  unfold F_X12_flag
  by_cases h : P
  · rw [if_pos h]; rfl
  · rw [if_neg h]; rfl
section COUNTS
variable {N nf ns : Nat} {f : Nat → Nat → Int32} {s : Nat → Int32}
theorem k_count (hN : 1000 ≤ N) (hnf : nf ≤ 4) (g : Nat → Int32) : F_X1_countTaken N (nI nf) g = some (nI (cT g nf)) := by
  unfold F_X1_countTaken
  refine lp_seq (L := fun fu i => F_X1_countTaken_b4 N (nI nf) g fu (nI (cT g i)) (nI i)) (n := nf) (fun fu i hi => ?_) (fun fu => ?_) nf 0 N (by omega) (by omega)
  · show F_X1_countTaken_b4 N (nI nf) g (fu + 1) (nI (cT g i)) (nI i) = _
    rw [F_X1_countTaken_b4, if_neg (nI_ge hi (by omega)), k_taken hnf hi, Option.bind_some]
    unfold F_X1_countTaken_b23
    by_cases q : g i ≤ 0
    · rw [if_pos q, if_pos rfl, nI_1, show cT g (i + 1) = cT g i by show cT g i + (if g i ≤ 0 then 0 else 1) = _; rw [if_pos q]; rfl]
    · rw [if_neg q, if_neg (by decide), nI_1, nI_1, show cT g (i + 1) = cT g i + 1 by show cT g i + (if g i ≤ 0 then 0 else 1) = _; rw [if_neg q]]
  · show F_X1_countTaken_b4 N (nI nf) g (fu + 1) (nI (cT g nf)) (nI nf) = _
    rw [F_X1_countTaken_b4, if_pos (nI_le (Nat.le_refl _) (by omega))]
theorem m_loads (hN : 1000 ≤ N) (hR : RH nf ns f s) : F_X12_loads N s = some (nI (cT (f 1) nf)) := by
  obtain ⟨⟨h6, hn1, hn4⟩, -, -, -, hF, -⟩ := id hR
  unfold F_X12_loads
  refine lp_seq (L := fun fu i => F_X12_loads_b4 N s fu (nI (cT (f 1) i)) (nI i)) (n := nf) (fun fu i hi => ?_) (fun fu => ?_) nf 0 N (by omega) (by omega)
  · show F_X12_loads_b4 N s (fu + 1) (nI (cT (f 1) i)) (nI i) = _
    rw [F_X12_loads_b4, tn6, h6, if_neg (nI_ge hi (by omega)), m_loadedR hR hi, Option.bind_some, m_flag, Option.bind_some, nI_1]
    by_cases q : f 1 i ≤ 0
    · rw [if_pos q, show nI (cT (f 1) i) + 0 = nI (cT (f 1) i) by grind, show cT (f 1) (i + 1) = cT (f 1) i by show cT (f 1) i + (if f 1 i ≤ 0 then 0 else 1) = _; rw [if_pos q]; rfl]
    · rw [if_neg q, nI_1, show cT (f 1) (i + 1) = cT (f 1) i + 1 by show cT (f 1) i + (if f 1 i ≤ 0 then 0 else 1) = _; rw [if_neg q]]
  · show F_X12_loads_b4 N s (fu + 1) (nI (cT (f 1) nf)) (nI nf) = _
    rw [F_X12_loads_b4, tn6, h6, if_pos (nI_le (Nat.le_refl _) (by omega))]
/-- how many sacks smoulder -/
def pSk (f : Nat → Nat → Int32) : Nat → Nat
  | 0 => 0
  | k + 1 => pSk f k + (if f 4 k = 0 ∧ f 6 k < 60 ∧ 50 ≤ f 8 k then 1 else 0)
/-- the hottest stored sack, of k sacks -/
def pHt (f : Nat → Nat → Int32) : Nat → Option Nat
  | 0 => none
  | k + 1 => if f 4 k = 0 then (match pHt f k with | none => some k | some j => if f 8 k ≤ f 8 j then some j else some k) else pHt f k
def oI : Option Nat → Int32
  | none => -1
  | some j => nI j
theorem pHt_lt (f : Nat → Nat → Int32) : ∀ k j, pHt f k = some j → j < k := by
  intro k
  induction k with
  | zero => intro j h; cases h
  | succ k ih =>
    intro j h
    unfold pHt at h
    split at h
    · split at h
      · injection h with h; omega
      · rename_i j' hj'
        have := ih j' hj'
        split at h
        · injection h with h; omega
        · injection h with h; omega
    · have := ih j h; omega
theorem nI_ne_m1 {j : Nat} (h : j < 20) : ¬ nI j = -1 := by
  have : (0 : Int32) ≤ nI j := nI_le (a := 0) (Nat.zero_le _) (by omega)
  intro q; rw [q] at this; revert this; decide
end COUNTS
