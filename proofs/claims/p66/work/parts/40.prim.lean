/-! PURE: words, signs, numbers: the parsers' steps -/
def eN (g : Nat → Nat) : Nat → Nat
  | 0 => 0
  | n + 1 => 32 * eN g n + g n
theorem eN_inj {g h : Nat → Nat} : ∀ n m, (∀ i, i < n → 1 ≤ g i ∧ g i ≤ 26) → (∀ i, i < m → 1 ≤ h i ∧ h i ≤ 26) → eN g n = eN h m → n = m ∧ ∀ i, i < n → g i = h i := by
  intro n
  induction n with
  | zero =>
    intro m hg hh he
    cases m with
    | zero => exact ⟨rfl, fun i hi => by omega⟩
    | succ m => have := hh m (by omega); simp only [eN] at he; omega
  | succ n ih =>
    intro m hg hh he
    cases m with
    | zero => have := hg n (by omega); simp only [eN] at he; omega
    | succ m =>
      have h1 := hg n (by omega)
      have h2 := hh m (by omega)
      simp only [eN] at he
      obtain ⟨e1, e2⟩ := ih m (fun i hi => hg i (by omega)) (fun i hi => hh i (by omega)) (by omega)
      subst e1
      refine ⟨rfl, fun i hi => ?_⟩
      by_cases hin : i = n
      · subst hin; omega
      · exact e2 i (by omega)
theorem eN_lt {g : Nat → Nat} : ∀ n, (∀ i, i < n → g i ≤ 26) → eN g n < 32 ^ n := by
  intro n
  induction n with
  | zero => intro _; show (0 : Nat) < 32 ^ 0; decide
  | succ n ih =>
    intro h
    have h1 := ih (fun i hi => h i (by omega))
    have h2 := h n (by omega)
    rw [Nat.pow_succ]
    simp only [eN]
    omega
theorem t_letters {L p : Nat} {b c : Nat → Int32} (h : TX L b c) (hp : p ≤ L) (hk : tK c p = 1) : ∀ j, tQ c p ≤ j → j < tE c p → 97 ≤ c j ∧ c j ≤ 122 := by
  intro j h1 h2
  have hlt := tK_lt h hp (by rw [hk]; decide)
  have hL := h.1
  unfold tE at h2
  rw [hk, if_neg (by decide), if_pos (Or.inl rfl)] at h2
  by_cases hj : j = tQ c p
  · rw [hj]; exact (tKd_1 _).mp hk
  · exact (tKd_1 _).mp ((tRu_le h (Or.inl rfl) 801 (tQ c p + 1) (by omega) (by omega)).2.2.2 j (by omega) h2)
theorem t_digits {L p : Nat} {b c : Nat → Int32} (h : TX L b c) (hp : p ≤ L) (hk : tK c p = 2) : ∀ j, tQ c p ≤ j → j < tE c p → 48 ≤ c j ∧ c j ≤ 57 := by
  intro j h1 h2
  have hlt := tK_lt h hp (by rw [hk]; decide)
  have hL := h.1
  unfold tE at h2
  rw [hk, if_neg (by decide), if_pos (Or.inr rfl)] at h2
  by_cases hj : j = tQ c p
  · rw [hj]; exact (tKd_2 _).mp hk
  · exact (tKd_2 _).mp ((tRu_le h (Or.inr rfl) 801 (tQ c p + 1) (by omega) (by omega)).2.2.2 j (by omega) h2)
def tG (c : Nat → Int32) (q i : Nat) : Nat := (c (q + i)).toNatClampNeg - 96
theorem tG_ok {c : Nat → Int32} {q i : Nat} (h : 97 ≤ c (q + i) ∧ c (q + i) ≤ 122) : c (q + i) = nI (96 + tG c q i) ∧ 1 ≤ tG c q i ∧ tG c q i ≤ 26 := by
  obtain ⟨k, hk, e⟩ := n_of (n := 122) (by decide) (by grind) h.2
  have h97 : 97 ≤ k := (nI_leI (a := 97) (by decide) (by omega)).mp (by rw [← e]; exact h.1)
  have ek : (c (q + i)).toNatClampNeg = k := by rw [e]; exact tnI (by omega)
  unfold tG
  rw [ek]
  exact ⟨by rw [e]; congr 1; omega, by omega, by omega⟩
theorem tW_eN {c : Nat → Int32} {q : Nat} : ∀ n, n ≤ 12 → (∀ i, i < n → 97 ≤ c (q + i) ∧ c (q + i) ≤ 122) → it (tWs c q) q n (Int64.ofNat 0) = lN (eN (tG c q) n) := by
  intro n
  induction n with
  | zero => intro _ _; rfl
  | succ n ih =>
    intro h12 hl
    rw [it_snoc, ih (by omega) (fun i hi => hl i (by omega))]
    obtain ⟨e, h1, h2⟩ := tG_ok (hl n (by omega))
    unfold tWs
    rw [if_neg (by omega), e, nI_l (by omega)]
    show ((lN 32 * lN (eN (tG c q) n)) + lN (96 + tG c q n)) - lN 96 = _
    rw [lN_mul, lN_add, lN_sub (by omega)]
    exact congrArg lN (by simp only [eN]; omega)
/-- the current token is the word W -/
def tIs (W : Nat) (c : Nat → Int32) (p : Nat) : Prop := tK c p = 1 ∧ tE c p - tQ c p < 12 ∧ tW c p = lN W
theorem m_isWord (W : Nat) (c : Nat → Int32) (p : Nat) (bad : Int32) {wd : Int64} (hL : tE c p ≤ 2000) (hQ : tQ c p ≤ tE c p) (hw : tK c p = 1 → wd = tW c p) :
    F_X12_isWord (lN W) (nI (tE c p)) bad (nI (tQ c p)) (tK c p) wd = some (if bad = 0 ∧ tK c p = 1 ∧ tE c p - tQ c p < 12 ∧ tW c p = lN W then 1 else 0) := by
  unfold F_X12_isWord F_X12_isWord_b42
  by_cases h0 : bad = 0
  · rw [if_pos h0]
    by_cases h1 : tK c p = 1
    · rw [if_pos h1, hw h1, pk_sub hQ]
      by_cases h2 : tE c p - tQ c p < 12
      · rw [if_neg (show ¬ (12 : Int32) ≤ nI (tE c p - tQ c p) from nI_ge (b := 12) h2 (by decide))]
        by_cases h3 : tW c p = lN W
        · have e : lg_cmp (tW c p) (lN W) = 0 := by
            rw [h3]; unfold lg_cmp
            rw [if_neg (by show ¬ lN W < lN W; rw [Int64.lt_iff_toInt_lt]; omega), if_pos rfl]
          rw [if_pos e, if_pos ⟨h0, h1, h2, h3⟩]
        · have e : ¬ lg_cmp (tW c p) (lN W) = 0 := by
            unfold lg_cmp
            split
            · decide
            · decide
          rw [if_neg e, if_neg (fun q => h3 q.2.2.2)]
      · rw [if_pos (show (12 : Int32) ≤ nI (tE c p - tQ c p) from nI_le (a := 12) (by omega) (by omega)), if_neg (fun q => h2 q.2.2.1)]
    · rw [if_neg h1, if_neg (fun q => h1 q.2.1)]
  · rw [if_neg h0, if_neg (fun q => h0 q.1)]
theorem k_isWord {N L p : Nat} {b c : Nat → Int32} (hN : 1000 ≤ N) (h : TX L b c) (hp : p ≤ L) {k0 len W : Nat} {g : Nat → Nat} (hk : k0 < 22) (hlen : xSlen.getD k0 0 = len) (hl : len ≤ 11)
    (hch : ∀ i, i < len → xSB k0 (nI i) = nI (96 + g i) ∧ 1 ≤ g i ∧ g i ≤ 26) (hW : eN g len = W) (inst : Decidable (tIs W c p)) :
    F_X10_isWord N k0 (nI (tE c p)) (tK c p) (nI (tQ c p)) (nI L) b = some (if tIs W c p then 1 else 0) := by
  have hL := h.1
  have hE := tE_le h hp
  unfold F_X10_isWord F_X10_isWord_b24
  by_cases h1 : tK c p = 1
  · have hlt := t_letters h hp h1
    obtain ⟨n, hn⟩ : ∃ n, n = tE c p - tQ c p := ⟨_, rfl⟩
    have hlet : ∀ i, i < n → 97 ≤ c (tQ c p + i) ∧ c (tQ c p + i) ≤ 122 := fun i hi => hlt _ (by omega) (by omega)
    rw [if_pos h1, if_pos hk, pk_sub hE.1, ← hn]
    have exs : xSL_ k0 = nI len := by unfold xSL_; rw [hlen]; rfl
    rw [exs]
    by_cases h2 : n = len
    · rw [if_pos (by rw [h2])]
      have key : ∀ d i fu, i + d = len → d < fu → (∀ j, j < i → tG c (tQ c p) j = g j) → ∃ r : Int32, F_X10_isWord_b28 N k0 (nI (tQ c p)) (nI L) b fu (nI i) = some r ∧ (r = 1 ∧ (∀ j, j < len → tG c (tQ c p) j = g j) ∨ r = 0 ∧ ∃ j, j < len ∧ tG c (tQ c p) j ≠ g j) := by
        intro d
        induction d with
        | zero =>
          intro i fu hi hf hall
          obtain ⟨m, rfl⟩ : ∃ m, fu = m + 1 := ⟨fu - 1, by omega⟩
          refine ⟨1, ?_, Or.inl ⟨rfl, fun j hj => hall j (by omega)⟩⟩
          rw [F_X10_isWord_b28, if_pos hk, exs, if_pos (nI_le (by omega) (by omega))]
        | succ d ih =>
          intro i fu hi hf hall
          obtain ⟨m, rfl⟩ : ∃ m, fu = m + 1 := ⟨fu - 1, by omega⟩
          obtain ⟨ec, -⟩ := tG_ok (hlet i (by omega))
          obtain ⟨eg, hg⟩ := hch i (by omega)
          have hgr := (tG_ok (hlet i (by omega))).2
          have hx : xin (nI i) (xSlen.getD k0 0) = true := by rw [hlen]; exact xin_nI (by omega) (by omega)
          rw [F_X10_isWord_b28, if_pos hk, exs, if_neg (nI_ge (by omega) (by omega)), nI_add, k_at h (by omega), Option.bind_some, if_pos hk, if_pos hx, ec, eg, nI_1]
          by_cases he : tG c (tQ c p) i = g i
          · rw [if_pos (by rw [he])]
            refine ih (i + 1) m (by omega) (by omega) (fun j hj => ?_)
            by_cases hji : j = i
            · rw [hji]; exact he
            · exact hall j (by omega)
          · rw [if_neg (fun q => he (by have := (nI_eq (by omega) (by omega)).mp q; omega))]
            exact ⟨0, rfl, Or.inr ⟨rfl, i, by omega, he⟩⟩
      obtain ⟨r, hr, hcase⟩ := key len 0 N (by omega) (by omega) (fun j hj => by omega)
      have hr' : F_X10_isWord_b28 N k0 (nI (tQ c p)) (nI L) b N 0 = some r := hr
      rw [hr']
      have hWe : tW c p = lN (eN (tG c (tQ c p)) n) := by
        unfold tW; rw [← hn]; exact tW_eN n (by omega) hlet
      rcases hcase with ⟨rfl, hall⟩ | ⟨rfl, j, hj, hne⟩
      · rw [if_pos]
        refine ⟨h1, by omega, ?_⟩
        rw [hWe, ← hW, h2]
        congr 1
        have : ∀ m, m ≤ len → eN (tG c (tQ c p)) m = eN g m := by
          intro m
          induction m with
          | zero => intro _; rfl
          | succ m ihm => intro hm; simp only [eN]; rw [ihm (by omega), hall m (by omega)]
        exact this len (Nat.le_refl _)
      · rw [if_neg]
        intro ⟨_, _, q⟩
        rw [hWe, ← hW] at q
        have b1 := eN_lt (g := tG c (tQ c p)) n (fun i hi => (tG_ok (hlet i hi)).2.2)
        have b2 := eN_lt (g := g) len (fun i hi => (hch i hi).2.2)
        have p1 : (32 : Nat) ^ n ≤ 32 ^ 11 := Nat.pow_le_pow_right (by decide) (by omega)
        have p2 : (32 : Nat) ^ len ≤ 32 ^ 11 := Nat.pow_le_pow_right (by decide) hl
        have q2 := (pk_lEQ (by omega) (by omega)).mp q
        obtain ⟨e1, e2⟩ := eN_inj n len (fun i hi => (tG_ok (hlet i hi)).2) (fun i hi => (hch i hi).2) q2
        exact hne (e2 j (by omega))
    · rw [if_neg (fun q => h2 ((nI_eq (by omega) (by omega)).mp q)), if_neg]
      intro ⟨_, q1, q⟩
      have hn12 : n ≤ 11 := by omega
      have hWe : tW c p = lN (eN (tG c (tQ c p)) n) := by
        unfold tW; rw [← hn]; exact tW_eN n (by omega) hlet
      rw [hWe, ← hW] at q
      have b1 := eN_lt (g := tG c (tQ c p)) n (fun i hi => (tG_ok (hlet i hi)).2.2)
      have b2 := eN_lt (g := g) len (fun i hi => (hch i hi).2.2)
      have p1 : (32 : Nat) ^ n ≤ 32 ^ 11 := Nat.pow_le_pow_right (by decide) hn12
      have p2 : (32 : Nat) ^ len ≤ 32 ^ 11 := Nat.pow_le_pow_right (by decide) hl
      have q2 := (pk_lEQ (by omega) (by omega)).mp q
      exact h2 (eN_inj n len (fun i hi => (tG_ok (hlet i hi)).2) (fun i hi => (hch i hi).2) q2).1
  · rw [if_neg h1, if_neg (fun q => h1 q.1)]
def wG (l : List Nat) : Nat → Nat := fun i => l.getD i 1
theorem k_w1 {N L p : Nat} {b c : Nat → Int32} (hN : 1000 ≤ N) (h : TX L b c) (hp : p ≤ L) (inst : Decidable (tIs 493172 c p)) : F_X10_isWord N 1 (nI (tE c p)) (tK c p) (nI (tQ c p)) (nI L) b = some (if tIs 493172 c p then 1 else 0) := k_isWord hN h hp (g := wG [15, 1, 19, 20]) (len := 4) (by decide) (by decide +kernel) (by decide) (by decide +kernel) (by decide +kernel) inst
theorem k_w2 {N L p : Nat} {b c : Nat → Int32} (hN : 1000 ≤ N) (h : TX L b c) (hp : p ≤ L) (inst : Decidable (tIs 6700530 c p)) : F_X10_isWord N 2 (nI (tE c p)) (tK c p) (nI (tQ c p)) (nI L) b = some (if tIs 6700530 c p then 1 else 0) := k_isWord hN h hp (g := wG [6, 12, 15, 15, 18]) (len := 5) (by decide) (by decide +kernel) (by decide) (by decide +kernel) (by decide +kernel) inst
theorem k_w3 {N L p : Nat} {b c : Nat → Int32} (hN : 1000 ≤ N) (h : TX L b c) (hp : p ≤ L) (inst : Decidable (tIs 408612 c p)) : F_X10_isWord N 3 (nI (tE c p)) (tK c p) (nI (tQ c p)) (nI L) b = some (if tIs 408612 c p then 1 else 0) := k_isWord hN h hp (g := wG [12, 15, 1, 4]) (len := 4) (by decide) (by decide +kernel) (by decide) (by decide +kernel) (by decide +kernel) inst
/-- the current token is the sign m -/
def tMk (m : Int32) (c : Nat → Int32) (p : Nat) : Prop := tK c p = 3 ∧ c (tQ c p) = m
theorem k_isMark {L p : Nat} {b c : Nat → Int32} (h : TX L b c) (hp : p ≤ L) (m : Int32) (inst : Decidable (tMk m c p)) : F_X10_isMark m (tK c p) (nI (tQ c p)) (nI L) b = some (if tMk m c p then 1 else 0) := by
  have hL := h.1
  have hq := tQ_le h hp
  unfold F_X10_isMark F_X10_isMark_b27
  by_cases h1 : tK c p = 3
  · rw [if_pos h1, k_at h (by omega), Option.bind_some]
    by_cases h2 : c (tQ c p) = m
    · rw [if_pos h2, if_pos (show tMk m c p from ⟨h1, h2⟩)]
    · rw [if_neg h2, if_neg (fun q : tMk m c p => h2 q.2)]
  · rw [if_neg h1, if_neg (fun q : tMk m c p => h1 q.1)]
theorem m_isSign {L p : Nat} {b c : Nat → Int32} (h : TX L b c) (hp : p ≤ L) (m bad : Int32) (inst : Decidable (tMk m c p)) : F_X12_isSign m bad (nI (tQ c p)) (tK c p) b = some (if bad = 0 ∧ tMk m c p then 1 else 0) := by
  have hL := h.1
  unfold F_X12_isSign F_X12_isSign_b32
  by_cases h0 : bad = 0
  · rw [if_pos h0]
    by_cases h1 : tK c p = 3
    · have hlt := tK_lt h hp (by rw [h1]; decide)
      rw [if_pos h1, if_pos (xin_nI (by omega) (by decide)), tnI (by omega), ← h.2.1 _ hlt]
      by_cases h2 : c (tQ c p) = m
      · rw [if_pos h2, if_pos (show bad = 0 ∧ tMk m c p from ⟨h0, h1, h2⟩)]
      · rw [if_neg h2, if_neg (fun q : bad = 0 ∧ tMk m c p => h2 q.2.2)]
    · rw [if_neg h1, if_neg (fun q : bad = 0 ∧ tMk m c p => h1 q.2.1)]
  · rw [if_neg h0, if_neg (fun q : bad = 0 ∧ tMk m c p => h0 q.1)]
