/-! PURE: numbers, loops, the model's places -/
theorem upd_s (g : Nat → Int32) (i : Nat) (x : Int32) : upd g i x i = x := if_pos rfl
theorem upd_o (g : Nat → Int32) {i j : Nat} (x : Int32) (h : j ≠ i) : upd g i x j = g j := if_neg h
theorem xin_nI {k n : Nat} (h : k < n) (hn : n < 2 ^ 31) : xin (nI k) n = true := by
  rw [xin, decide_eq_false (fun q => nI_in h hn (Or.inl q)), decide_eq_false (fun q => nI_in h hn (Or.inr q))]; rfl
def it {α : Type} (g : Nat → α → α) : Nat → Nat → α → α
  | _, 0, a => a
  | i, d + 1, a => it g (i + 1) d (g i a)
theorem it_snoc {α : Type} (g : Nat → α → α) : ∀ (d i : Nat) (a : α), it g i (d + 1) a = g (i + d) (it g i d a) := by
  intro d
  induction d with
  | zero => intro i a; rfl
  | succ d ih => intro i a; show it g (i + 1) (d + 1) (g i a) = _; rw [ih (i + 1)]; show g (i + 1 + d) (it g i (d + 1) a) = g (i + (d + 1)) _; rw [show i + 1 + d = i + (d + 1) by omega]
theorem it_cong {α : Type} {g k : Nat → α → α} : ∀ (d i : Nat) (a : α), (∀ j a, i ≤ j → j < i + d → g j a = k j a) → it g i d a = it k i d a := by
  intro d
  induction d with
  | zero => intro i a _; rfl
  | succ d ih => intro i a h; show it g (i + 1) d (g i a) = it k (i + 1) d (k i a); rw [h i a (Nat.le_refl _) (by omega)]; exact ih _ _ (fun j a h1 h2 => h j a (by omega) (by omega))
theorem lp_run {α β : Type} (L : Nat → Int32 → α → Option β) (n : Nat) (step : Nat → α → α) (fin : α → Option β)
    (h1 : ∀ fu i a, i < n → L (fu + 1) (nI i) a = L fu (nI (i + 1)) (step i a)) (h2 : ∀ fu a, L (fu + 1) (nI n) a = fin a) :
    ∀ (d i fu : Nat) (a : α), i + d = n → d < fu → L fu (nI i) a = fin (it step i d a) := by
  intro d
  induction d with
  | zero => intro i fu a hi hf; obtain ⟨k, rfl⟩ : ∃ k, fu = k + 1 := ⟨fu - 1, by omega⟩; rw [show i = n by omega]; exact h2 k a
  | succ d ih =>
    intro i fu a hi hf
    obtain ⟨k, rfl⟩ : ∃ k, fu = k + 1 := ⟨fu - 1, by omega⟩
    rw [h1 k i a (by omega), ih (i + 1) k _ (by omega) (by omega)]
    rfl
theorem tn0 : Int32.toNatClampNeg 0 = 0 := rfl
theorem tn1 : Int32.toNatClampNeg 1 = 1 := rfl
theorem tn2 : Int32.toNatClampNeg 2 = 2 := rfl
theorem tn3 : Int32.toNatClampNeg 3 = 3 := rfl
theorem tn4 : Int32.toNatClampNeg 4 = 4 := rfl
theorem tn5 : Int32.toNatClampNeg 5 = 5 := rfl
theorem tn6 : Int32.toNatClampNeg 6 = 6 := rfl
theorem tn7 : Int32.toNatClampNeg 7 = 7 := rfl
theorem tn8 : Int32.toNatClampNeg 8 = 8 := rfl
theorem tn9 : Int32.toNatClampNeg 9 = 9 := rfl
theorem tn10 : Int32.toNatClampNeg 10 = 10 := rfl
theorem tn11 : Int32.toNatClampNeg 11 = 11 := rfl
theorem tn12 : Int32.toNatClampNeg 12 = 12 := rfl
theorem tn13 : Int32.toNatClampNeg 13 = 13 := rfl
theorem tn20 : Int32.toNatClampNeg 20 = 20 := rfl
theorem tnI {k : Nat} (h : k < 2 ^ 31) : (nI k).toNatClampNeg = k := nI_clamp h
/-- the model's places -/
theorem m_atF0 (i : Nat) : F_X12_atFloor (nI i) 0 = some (nI (14 + 4 * i)) := by
  show some ((nI 14 + nI 4 * nI i) + nI 0) = _; rw [pk_mul, nI_add, nI_add]; rfl
theorem m_atF1 (i : Nat) : F_X12_atFloor (nI i) 1 = some (nI (15 + 4 * i)) := by
  show some ((nI 14 + nI 4 * nI i) + nI 1) = _; rw [pk_mul, nI_add, nI_add]; exact congrArg (fun z => some (nI z)) (by omega)
theorem m_atF2 (i : Nat) : F_X12_atFloor (nI i) 2 = some (nI (16 + 4 * i)) := by
  show some ((nI 14 + nI 4 * nI i) + nI 2) = _; rw [pk_mul, nI_add, nI_add]; exact congrArg (fun z => some (nI z)) (by omega)
theorem m_atF3 (i : Nat) : F_X12_atFloor (nI i) 3 = some (nI (17 + 4 * i)) := by
  show some ((nI 14 + nI 4 * nI i) + nI 3) = _; rw [pk_mul, nI_add, nI_add]; exact congrArg (fun z => some (nI z)) (by omega)
theorem m_atS0 (i : Nat) : F_X12_atSack (nI i) 0 = some (nI (30 + 5 * i)) := by
  show some ((nI 30 + nI 5 * nI i) + nI 0) = _; rw [pk_mul, nI_add, nI_add]; rfl
theorem m_atS1 (i : Nat) : F_X12_atSack (nI i) 1 = some (nI (31 + 5 * i)) := by
  show some ((nI 30 + nI 5 * nI i) + nI 1) = _; rw [pk_mul, nI_add, nI_add]; exact congrArg (fun z => some (nI z)) (by omega)
theorem m_atS2 (i : Nat) : F_X12_atSack (nI i) 2 = some (nI (32 + 5 * i)) := by
  show some ((nI 30 + nI 5 * nI i) + nI 2) = _; rw [pk_mul, nI_add, nI_add]; exact congrArg (fun z => some (nI z)) (by omega)
theorem m_atS3 (i : Nat) : F_X12_atSack (nI i) 3 = some (nI (33 + 5 * i)) := by
  show some ((nI 30 + nI 5 * nI i) + nI 3) = _; rw [pk_mul, nI_add, nI_add]; exact congrArg (fun z => some (nI z)) (by omega)
theorem m_atS4 (i : Nat) : F_X12_atSack (nI i) 4 = some (nI (34 + 5 * i)) := by
  show some ((nI 30 + nI 5 * nI i) + nI 4) = _; rw [pk_mul, nI_add, nI_add]; exact congrArg (fun z => some (nI z)) (by omega)
theorem m_read {x : Option Int32} {k : Nat} {s : Nat → Int32} (hx : x = some (nI k)) (hk : k < 130) : (x.bind fun x1 => (if xin x1 130 = true then some (s (Int32.toNatClampNeg x1)) else none)) = some (s k) := by
  rw [hx, Option.bind_some, if_pos (xin_nI hk (by decide)), tnI (by omega)]
theorem m_on0 {i : Nat} (h : i < 4) (s : Nat → Int32) : F_X12_onFloor (nI i) 0 s = some (s (14 + 4 * i)) := m_read (m_atF0 i) (by omega)
theorem m_on1 {i : Nat} (h : i < 4) (s : Nat → Int32) : F_X12_onFloor (nI i) 1 s = some (s (15 + 4 * i)) := m_read (m_atF1 i) (by omega)
theorem m_on2 {i : Nat} (h : i < 4) (s : Nat → Int32) : F_X12_onFloor (nI i) 2 s = some (s (16 + 4 * i)) := m_read (m_atF2 i) (by omega)
theorem m_on3 {i : Nat} (h : i < 4) (s : Nat → Int32) : F_X12_onFloor (nI i) 3 s = some (s (17 + 4 * i)) := m_read (m_atF3 i) (by omega)
theorem m_of0 {i : Nat} (h : i < 20) (s : Nat → Int32) : F_X12_of (nI i) 0 s = some (s (30 + 5 * i)) := m_read (m_atS0 i) (by omega)
theorem m_of1 {i : Nat} (h : i < 20) (s : Nat → Int32) : F_X12_of (nI i) 1 s = some (s (31 + 5 * i)) := m_read (m_atS1 i) (by omega)
theorem m_of2 {i : Nat} (h : i < 20) (s : Nat → Int32) : F_X12_of (nI i) 2 s = some (s (32 + 5 * i)) := m_read (m_atS2 i) (by omega)
theorem m_of3 {i : Nat} (h : i < 20) (s : Nat → Int32) : F_X12_of (nI i) 3 s = some (s (33 + 5 * i)) := m_read (m_atS3 i) (by omega)
theorem m_of4 {i : Nat} (h : i < 20) (s : Nat → Int32) : F_X12_of (nI i) 4 s = some (s (34 + 5 * i)) := m_read (m_atS4 i) (by omega)
theorem m_loaded {i : Nat} (h : i < 4) (s : Nat → Int32) : F_X12_isLoaded (nI i) s = some (if s (15 + 4 * i) ≤ 0 then 0 else 1) := by
  unfold F_X12_isLoaded; rw [m_on1 h, Option.bind_some]; split <;> rfl
theorem lgc_gt (a b : Int32) : (Int32.toInt64 a > Int32.toInt64 b) ↔ b < a := by show Int32.toInt64 b < Int32.toInt64 a ↔ _; rw [Int64.lt_iff_toInt_lt, Int32.lt_iff_toInt_lt, Int32.toInt_toInt64, Int32.toInt_toInt64]
theorem lgc_eq (a b : Int32) : (Int32.toInt64 a = Int32.toInt64 b) ↔ a = b := by rw [← Int64.toInt_inj, ← Int32.toInt_inj, Int32.toInt_toInt64, Int32.toInt_toInt64]
theorem lgc_neg (a b : Int32) : (lg_cmp (Int32.toInt64 a) (Int32.toInt64 b) < 0) ↔ a < b := by
  unfold lg_cmp
  by_cases k1 : b < a
  · rw [if_pos ((lgc_gt a b).mpr k1)]; exact ⟨fun h => absurd h (by decide), fun h => by exfalso; grind⟩
  · rw [if_neg (fun q => k1 ((lgc_gt a b).mp q))]
    by_cases k2 : a = b
    · rw [if_pos ((lgc_eq a b).mpr k2)]; exact ⟨fun h => absurd h (by decide), fun h => by exfalso; grind⟩
    · rw [if_neg (fun q => k2 ((lgc_eq a b).mp q))]; exact ⟨fun _ => by grind, fun _ => by decide⟩
theorem lgc_pos (a b : Int32) : (0 < lg_cmp (Int32.toInt64 a) (Int32.toInt64 b)) ↔ b < a := by
  unfold lg_cmp
  by_cases k1 : b < a
  · rw [if_pos ((lgc_gt a b).mpr k1)]; exact ⟨fun _ => k1, fun _ => by decide⟩
  · rw [if_neg (fun q => k1 ((lgc_gt a b).mp q))]
    by_cases k2 : a = b
    · rw [if_pos ((lgc_eq a b).mpr k2)]; exact ⟨fun h => absurd h (by decide), fun h => absurd h k1⟩
    · rw [if_neg (fun q => k2 ((lgc_eq a b).mp q))]; exact ⟨fun h => absurd h (by decide), fun h => absurd h k1⟩
/-- within bounds, as longs -/
theorem m_in (a b c : Int32) : F_X12_in (Int32.toInt64 a) (Int32.toInt64 b) (Int32.toInt64 c) = some (if b ≤ a ∧ a ≤ c then 1 else 0) := by
  unfold F_X12_in F_X12_in_b17
  by_cases k1 : a < b
  · rw [if_pos ((lgc_neg a b).mpr k1), if_neg (by grind)]
  · rw [if_neg (fun q => k1 ((lgc_neg a b).mp q))]
    by_cases k2 : c < a
    · rw [if_pos ((lgc_pos a c).mpr k2), if_neg (by grind)]
    · rw [if_neg (fun q => k2 ((lgc_pos a c).mp q)), if_pos (by grind)]
theorem m_lit0 : Int64.ofNat 0 = Int32.toInt64 0 := by decide
theorem m_lit97 : Int64.ofNat 97 = Int32.toInt64 97 := by decide
theorem m_lit122 : Int64.ofNat 122 = Int32.toInt64 122 := by decide
theorem m_lit48 : Int64.ofNat 48 = Int32.toInt64 48 := by decide
theorem m_lit57 : Int64.ofNat 57 = Int32.toInt64 57 := by decide
theorem m_in0 (a c : Int32) : F_X12_in (Int32.toInt64 a) (Int64.ofNat 0) (Int32.toInt64 c) = some (if 0 ≤ a ∧ a ≤ c then 1 else 0) := by rw [m_lit0]; exact m_in a 0 c
theorem k_within (a b c : Int32) : F_X11_within a b c = some (if b ≤ a ∧ a ≤ c then 1 else 0) := by
  unfold F_X11_within F_X11_within_b14
  by_cases h1 : a < b
  · rw [if_pos h1, if_neg (by grind)]
  · rw [if_neg h1]
    by_cases h2 : c < a
    · rw [if_pos h2, if_neg (by grind)]
    · rw [if_neg h2, if_pos (by grind)]
theorem some_if {α : Type} (c : Prop) [Decidable c] (a b : α) : (if c then some a else some b) = some (if c then a else b) := by split <;> rfl
/-- a number within bounds is one of the naturals -/
theorem n_of {x : Int32} {n : Nat} (hn : n < 2 ^ 31) (h0 : 0 ≤ x) (h1 : x ≤ nI n) : ∃ k, k ≤ n ∧ x = nI k := nI_of2 (nI_toInt hn) (by grind) h1
theorem p_half {x : Int32} (h0 : 0 ≤ x) (h1 : x ≤ 9) : 0 ≤ x / 2 ∧ x / 2 ≤ 4 := by
  obtain ⟨k, hk, rfl⟩ := n_of (n := 9) (by decide) h0 h1
  have e : nI k / 2 = nI (k / 2) := pk_div (d := 2) (by omega) (by decide) (by decide)
  rw [e]
  exact ⟨nI_le (a := 0) (Nat.zero_le _) (by omega), nI_le (b := 4) (by omega) (by decide)⟩
theorem p_rem8 {x : Int32} (h0 : 0 ≤ x) (h1 : x ≤ 100) : 0 ≤ x - x / 8 * 8 ∧ x - x / 8 * 8 ≤ 7 := by
  obtain ⟨k, hk, rfl⟩ := n_of (n := 100) (by decide) h0 h1
  have e : nI k - nI k / 8 * 8 = nI (k % 8) := pk_rem (d := 8) (by omega) (by decide) (by decide)
  rw [e]
  exact ⟨nI_le (a := 0) (Nat.zero_le _) (by omega), nI_le (b := 7) (by omega) (by decide)⟩
theorem p_cent {x : Int32} (h0 : 0 ≤ x) (h1 : x ≤ 800) : 0 ≤ x / 100 ∧ x / 100 ≤ 8 := by
  obtain ⟨k, hk, rfl⟩ := n_of (n := 800) (by decide) h0 h1
  have e : nI k / 100 = nI (k / 100) := pk_div (d := 100) (by omega) (by decide) (by decide)
  rw [e]
  exact ⟨nI_le (a := 0) (Nat.zero_le _) (by omega), nI_le (b := 8) (by omega) (by decide)⟩
