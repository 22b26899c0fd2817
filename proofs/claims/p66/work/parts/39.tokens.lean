/-! PURE: the text, characters, tokens -/
def TX (L : Nat) (b c : Nat → Int32) : Prop := L ≤ 800 ∧ (∀ i, i < L → c i = b i) ∧ (∀ i, L ≤ i → c i = -1)
theorem k_at {L i : Nat} {b c : Nat → Int32} (h : TX L b c) (hi : i ≤ 2000) : F_X9_at (nI i) (nI L) b = some (c i) := by
  obtain ⟨h1, h2, h3⟩ := h
  unfold F_X9_at F_X9_at_b21
  rw [if_neg (nI_pos (by omega))]
  by_cases hl : i < L
  · rw [if_neg (nI_ge hl (by omega)), if_pos (xin_nI (by omega) (by decide)), tnI (by omega), h2 i hl]
  · rw [if_pos (nI_le (by omega) (by omega)), h3 i (by omega)]
theorem m_see {L i : Nat} {b c : Nat → Int32} (h : TX L b c) (hi : i ≤ 2000) : F_X12_see (nI i) (nI L) b = some (c i) := by
  obtain ⟨h1, h2, h3⟩ := h
  unfold F_X12_see
  by_cases hl : i < L
  · rw [if_neg (nI_ge hl (by omega)), if_pos (xin_nI (by omega) (by decide)), tnI (by omega), h2 i hl]
  · rw [if_pos (nI_le (by omega) (by omega)), h3 i (by omega)]
def tKd (v : Int32) : Int32 := if v = -1 then 0 else if 97 ≤ v ∧ v ≤ 122 then 1 else if 48 ≤ v ∧ v ≤ 57 then 2 else if v = 59 ∨ v = 40 ∨ v = 41 then 3 else 4
theorem k_kd (v : Int32) : F_X10_kindOf v = some (tKd v) := by
  unfold F_X10_kindOf F_X10_kindOf_b21 F_X10_kindOf_b35 F_X10_kindOf_b53 tKd
  by_cases h0 : v = -1
  · rw [if_pos h0, if_pos h0]
  · rw [if_neg h0, if_neg h0]
    by_cases h1 : 97 ≤ v ∧ v ≤ 122
    · rw [if_neg (by grind), if_neg (by grind), if_pos h1]
    · rw [if_neg h1]
      by_cases h2 : 48 ≤ v ∧ v ≤ 57
      · rw [if_pos (by grind), if_neg (by grind), if_neg (by grind), if_pos h2]
      · rw [if_neg h2]
        have e3 : (if v = 59 then some (3 : Int32) else if v = 40 then some 3 else if v = 41 then some 3 else some 4) = some (if v = 59 ∨ v = 40 ∨ v = 41 then 3 else 4) := by
          by_cases a : v = 59
          · rw [if_pos a, if_pos (Or.inl a)]
          · rw [if_neg a]
            by_cases b : v = 40
            · rw [if_pos b, if_pos (Or.inr (Or.inl b))]
            · rw [if_neg b]
              by_cases d : v = 41
              · rw [if_pos d, if_pos (Or.inr (Or.inr d))]
              · rw [if_neg d, if_neg (by grind)]
        rw [e3]
        by_cases h3 : v < 97
        · rw [if_pos h3]
          by_cases h4 : v < 48
          · rw [if_pos h4]
          · rw [if_neg h4, if_pos (by grind)]
        · rw [if_neg h3, if_pos (by grind)]
          by_cases h4 : v < 48
          · rw [if_pos h4]
          · rw [if_neg h4, if_pos (by grind)]
theorem m_small (v : Int32) : F_X12_isSmall v = some (if 97 ≤ v ∧ v ≤ 122 then 1 else 0) := by
  unfold F_X12_isSmall
  rw [m_lit97, m_lit122, m_in, Option.bind_some]
  split <;> rfl
theorem m_digit (v : Int32) : F_X12_isDigit v = some (if 48 ≤ v ∧ v ≤ 57 then 1 else 0) := by
  unfold F_X12_isDigit
  rw [m_lit48, m_lit57, m_in, Option.bind_some]
  split <;> rfl
def tBl (v : Int32) : Prop := v = 32 ∨ v = 10
theorem k_bl (v : Int32) : F_X10_isBlank v = some (if v = 32 ∨ v = 10 then 1 else 0) := by
  unfold F_X10_isBlank F_X10_isBlank_b12
  by_cases a : v = 32
  · rw [if_pos a, if_pos (Or.inl a)]
  · rw [if_neg a]
    by_cases b : v = 10
    · rw [if_pos b, if_pos (Or.inr b)]
    · rw [if_neg b, if_neg (by grind)]
/-- past the blanks; to the end of a run of one kind -/
def tSk (c : Nat → Int32) : Nat → Nat → Nat
  | 0, p => p
  | n + 1, p => if c p = 32 ∨ c p = 10 then tSk c n (p + 1) else p
def tRu (c : Nat → Int32) (k : Int32) : Nat → Nat → Nat
  | 0, p => p
  | n + 1, p => if tKd (c p) = k then tRu c k n (p + 1) else p
def tQ (c : Nat → Int32) (p : Nat) : Nat := tSk c 801 p
def tK (c : Nat → Int32) (p : Nat) : Int32 := tKd (c (tQ c p))
def tE (c : Nat → Int32) (p : Nat) : Nat := if tK c p = 0 then tQ c p else if tK c p = 1 ∨ tK c p = 2 then tRu c (tK c p) 801 (tQ c p + 1) else tQ c p + 1
def tNs (c : Nat → Int32) (j : Nat) (n : Int32) : Int32 := if n ≤ 999999 then (10 * n + c j) - 48 else n
def tWs (c : Nat → Int32) (q : Nat) (j : Nat) (w : Int64) : Int64 := if 12 ≤ j - q then w else ((Int64.ofNat 32 * w) + Int32.toInt64 (c j)) - Int64.ofNat 96
def tN (c : Nat → Int32) (p : Nat) : Int32 := it (tNs c) (tQ c p) (tE c p - tQ c p) 0
def tW (c : Nat → Int32) (p : Nat) : Int64 := it (tWs c (tQ c p)) (tQ c p) (tE c p - tQ c p) (Int64.ofNat 0)
theorem tSk_le {L : Nat} {b c : Nat → Int32} (h : TX L b c) : ∀ n p, p ≤ L → L < p + n → p ≤ tSk c n p ∧ tSk c n p ≤ L ∧ ¬ (c (tSk c n p) = 32 ∨ c (tSk c n p) = 10) := by
  intro n
  induction n with
  | zero => intro p h1 h2; omega
  | succ n ih =>
    intro p h1 h2
    unfold tSk
    by_cases hb : c p = 32 ∨ c p = 10
    · rw [if_pos hb]
      have hp : p < L := by
        refine Nat.lt_of_not_le fun hl => ?_
        rw [h.2.2 p hl] at hb
        exact absurd hb (by decide)
      have := ih (p + 1) (by omega) (by omega)
      exact ⟨by omega, this.2⟩
    · rw [if_neg hb]; exact ⟨Nat.le_refl _, h1, hb⟩
theorem tRu_le {L : Nat} {b c : Nat → Int32} (h : TX L b c) {k : Int32} (hk : k = 1 ∨ k = 2) : ∀ n p, p ≤ L → L < p + n → p ≤ tRu c k n p ∧ tRu c k n p ≤ L ∧ ¬ tKd (c (tRu c k n p)) = k ∧ (∀ j, p ≤ j → j < tRu c k n p → tKd (c j) = k) := by
  intro n
  induction n with
  | zero => intro p h1 h2; omega
  | succ n ih =>
    intro p h1 h2
    unfold tRu
    by_cases hb : tKd (c p) = k
    · rw [if_pos hb]
      have hp : p < L := by
        refine Nat.lt_of_not_le fun hl => ?_
        rw [h.2.2 p hl] at hb
        rcases hk with rfl | rfl <;> exact absurd hb (by decide)
      have := ih (p + 1) (by omega) (by omega)
      refine ⟨by omega, this.2.1, this.2.2.1, fun j h3 h4 => ?_⟩
      by_cases hj : j = p
      · rw [hj]; exact hb
      · exact this.2.2.2 j (by omega) h4
    · rw [if_neg hb]; exact ⟨Nat.le_refl _, h1, hb, fun j h3 h4 => by omega⟩
theorem tQ_le {L p : Nat} {b c : Nat → Int32} (h : TX L b c) (hp : p ≤ L) : p ≤ tQ c p ∧ tQ c p ≤ L ∧ ¬ (c (tQ c p) = 32 ∨ c (tQ c p) = 10) := tSk_le h 801 p hp (by have := h.1; omega)
theorem tK_lt {L p : Nat} {b c : Nat → Int32} (h : TX L b c) (hp : p ≤ L) (hk : ¬ tK c p = 0) : tQ c p < L := by
  have hq := tQ_le h hp
  refine Nat.lt_of_not_le fun hl => hk ?_
  unfold tK
  rw [h.2.2 _ hl]; rfl
theorem tE_le {L p : Nat} {b c : Nat → Int32} (h : TX L b c) (hp : p ≤ L) : tQ c p ≤ tE c p ∧ tE c p ≤ L ∧ (¬ tK c p = 0 → tQ c p < tE c p) := by
  have hq := tQ_le h hp
  unfold tE
  by_cases h0 : tK c p = 0
  · rw [if_pos h0]; exact ⟨Nat.le_refl _, hq.2.1, fun k => absurd h0 k⟩
  · rw [if_neg h0]
    have hlt := tK_lt h hp h0
    by_cases h1 : tK c p = 1 ∨ tK c p = 2
    · rw [if_pos h1]
      have := tRu_le h h1 801 (tQ c p + 1) (by omega) (by have := h.1; omega)
      exact ⟨by omega, this.2.1, fun _ => by omega⟩
    · rw [if_neg h1]; exact ⟨by omega, by omega, fun _ => by omega⟩
theorem k_run {N L : Nat} {b c : Nat → Int32} (h : TX L b c) {k : Int32} (hk : k = 1 ∨ k = 2) (st : Int32) : ∀ n p fu, p ≤ L → L < p + n → n ≤ fu → F_X10_next_b98 N (nI L) b fu (nI p) k st = some ((), nI (tRu c k n p), k, st) := by
  intro n
  induction n with
  | zero => intro p fu h1 h2; omega
  | succ n ih =>
    intro p fu h1 h2 h3
    obtain ⟨m, rfl⟩ : ∃ m, fu = m + 1 := ⟨fu - 1, by omega⟩
    have hL := h.1
    rw [F_X10_next_b98]
    unfold tRu
    by_cases hl : p < L
    · rw [if_neg (nI_ge hl (by omega)), k_at h (by omega), Option.bind_some, k_kd, Option.bind_some, nI_1]
      by_cases hb : tKd (c p) = k
      · rw [if_pos hb, if_pos hb]; exact ih (p + 1) m (by omega) (by omega) (by omega)
      · rw [if_neg hb, if_neg hb]
    · rw [if_pos (nI_le (by omega) (by omega)), if_neg]
      rw [h.2.2 p (by omega)]
      rcases hk with rfl | rfl <;> decide
theorem k_skip {N L : Nat} {b c : Nat → Int32} (h : TX L b c) (en kd st : Int32) : ∀ n p fu, p ≤ L → L < p + n → n ≤ fu → F_X10_next_b13 N (nI L) b fu (nI p) en kd st = F_X10_next_b44 N (nI L) b (nI (tSk c n p)) en kd st := by
  intro n
  induction n with
  | zero => intro p fu h1 h2; omega
  | succ n ih =>
    intro p fu h1 h2 h3
    obtain ⟨m, rfl⟩ : ∃ m, fu = m + 1 := ⟨fu - 1, by omega⟩
    have hL := h.1
    rw [F_X10_next_b13]
    unfold tSk
    by_cases hl : p < L
    · rw [if_neg (nI_ge hl (by omega)), k_at h (by omega), Option.bind_some, k_bl, Option.bind_some, nI_1]
      by_cases hb : c p = 32 ∨ c p = 10
      · rw [if_pos hb, if_neg (by decide), if_pos hb]; exact ih (p + 1) m (by omega) (by omega) (by omega)
      · rw [if_neg hb, if_pos rfl, if_neg hb]
    · rw [if_pos (nI_le (by omega) (by omega)), if_neg]
      rw [h.2.2 p (by omega)]
      decide
theorem k_next {N L p : Nat} {b c : Nat → Int32} (hN : 1000 ≤ N) (h : TX L b c) (hp : p ≤ L) (kd st : Int32) : F_X10_next N 0 (nI p) kd st (nI L) b = some ((), nI (tE c p), tK c p, nI (tQ c p)) := by
  have hL := h.1
  have hq := tQ_le h hp
  unfold F_X10_next F_X10_sound
  rw [if_pos rfl, Option.bind_some, if_neg (by decide), k_skip h _ _ _ 801 p N hp (by omega) (by omega)]
  unfold F_X10_next_b44 F_X10_next_b79
  have hq' : tSk c 801 p = tQ c p := rfl
  rw [hq', k_at h (by omega), Option.bind_some, k_kd, Option.bind_some, nI_1]
  have hk' : tKd (c (tQ c p)) = tK c p := rfl
  rw [hk']
  unfold tE
  by_cases h0 : tK c p = 0
  · rw [if_pos h0, if_pos h0, h0, if_neg (by decide), if_neg (by decide)]
  · have hlt := tK_lt h hp h0
    rw [if_neg h0, if_neg h0]
    by_cases h1 : tK c p = 1
    · rw [if_pos h1, if_pos (Or.inl h1), k_run h (Or.inl h1) _ 801 _ N (by omega) (by omega) (by omega)]
    · rw [if_neg h1]
      by_cases h2 : tK c p = 2
      · rw [if_pos h2, if_pos (Or.inr h2), k_run h (Or.inr h2) _ 801 _ N (by omega) (by omega) (by omega)]
      · rw [if_neg h2, if_neg (fun q => q.elim h1 h2)]
theorem it_add {α : Type} (g : Nat → α → α) (i e : Nat) (a : α) (h : i < e) : it g i (e - i) a = it g (i + 1) (e - (i + 1)) (g i a) := by
  obtain ⟨d, rfl⟩ : ∃ d, e = i + (d + 1) := ⟨e - i - 1, by omega⟩
  rw [show i + (d + 1) - i = d + 1 by omega, show i + (d + 1) - (i + 1) = d by omega]
  rfl
theorem tKd_1 (v : Int32) : (tKd v = 1) ↔ (97 ≤ v ∧ v ≤ 122) := by unfold tKd; grind
theorem tKd_2 (v : Int32) : (tKd v = 2) ↔ (48 ≤ v ∧ v ≤ 57) := by unfold tKd; grind
theorem m_word {N L q : Nat} {b c : Nat → Int32} (h : TX L b c) (nb tk : Int32) : ∀ n e fu w, q ≤ e → e ≤ L → L < e + n → n ≤ fu → F_X12_scan_b81 N (nI L) b fu (nI e) (nI q) nb tk w = some ((), nI (tRu c 1 n e), nI q, nb, 1, it (tWs c q) e (tRu c 1 n e - e) w) := by
  intro n
  induction n with
  | zero => intro p fu w _ h1 h2; omega
  | succ n ih =>
    intro e fu w hq h1 h2 h3
    obtain ⟨m, rfl⟩ : ∃ m, fu = m + 1 := ⟨fu - 1, by omega⟩
    have hL := h.1
    rw [F_X12_scan_b81, m_see h (by omega), Option.bind_some, m_small, Option.bind_some, Option.bind_some]
    unfold tRu
    by_cases hb : tKd (c e) = 1
    · have hb' := (tKd_1 _).mp hb
      have hlt : e < L := by
        refine Nat.lt_of_not_le fun hl => ?_
        rw [h.2.2 e hl] at hb; exact absurd hb (by decide)
      have hr := tRu_le h (Or.inl rfl) n (e + 1) (by omega) (by omega)
      rw [if_pos hb', if_neg (by decide), if_pos hb, it_add _ _ _ _ (by omega)]
      unfold F_X12_scan_b139
      rw [nI_1, pk_sub hq]
      have key : ∀ w', w' = tWs c q e w → F_X12_scan_b81 N (nI L) b m (nI (e + 1)) (nI q) nb tk w' = some ((), nI (tRu c 1 n (e + 1)), nI q, nb, 1, it (tWs c q) (e + 1) (tRu c 1 n (e + 1) - (e + 1)) (tWs c q e w)) := by
        intro w' hw'
        rw [hw']
        exact ih (e + 1) m _ (by omega) (by omega) (by omega) (by omega)
      by_cases h12 : 12 ≤ e - q
      · rw [if_pos (show (12 : Int32) ≤ nI (e - q) from nI_le (a := 12) h12 (by omega))]
        exact key w (by unfold tWs; rw [if_pos h12])
      · rw [if_neg (show ¬ (12 : Int32) ≤ nI (e - q) from nI_ge (b := 12) (by omega) (by decide))]
        exact key _ (by unfold tWs; rw [if_neg h12])
    · rw [if_neg (fun z => hb ((tKd_1 _).mpr z)), if_pos rfl, if_neg hb, Nat.sub_self]; rfl
theorem m_num {N L q : Nat} {b c : Nat → Int32} (h : TX L b c) (tk : Int32) (wd : Int64) : ∀ n e fu v, q ≤ e → e ≤ L → L < e + n → n ≤ fu → F_X12_scan_b175 N (nI L) b fu (nI e) (nI q) v tk wd = some ((), nI (tRu c 2 n e), nI q, it (tNs c) e (tRu c 2 n e - e) v, 2, wd) := by
  intro n
  induction n with
  | zero => intro p fu w _ h1 h2; omega
  | succ n ih =>
    intro e fu v hq h1 h2 h3
    obtain ⟨m, rfl⟩ : ∃ m, fu = m + 1 := ⟨fu - 1, by omega⟩
    have hL := h.1
    rw [F_X12_scan_b175, m_see h (by omega), Option.bind_some, m_digit, Option.bind_some, Option.bind_some]
    unfold tRu
    by_cases hb : tKd (c e) = 2
    · have hb' := (tKd_2 _).mp hb
      have hlt : e < L := by
        refine Nat.lt_of_not_le fun hl => ?_
        rw [h.2.2 e hl] at hb; exact absurd hb (by decide)
      have hr := tRu_le h (Or.inr rfl) n (e + 1) (by omega) (by omega)
      rw [if_pos hb', if_neg (by decide), if_pos hb, it_add _ _ _ _ (by omega)]
      unfold F_X12_scan_b225
      rw [nI_1]
      have key : ∀ w', w' = tNs c e v → F_X12_scan_b175 N (nI L) b m (nI (e + 1)) (nI q) w' tk wd = some ((), nI (tRu c 2 n (e + 1)), nI q, it (tNs c) (e + 1) (tRu c 2 n (e + 1) - (e + 1)) (tNs c e v), 2, wd) := by
        intro w' hw'
        rw [hw']
        exact ih (e + 1) m _ (by omega) (by omega) (by omega) (by omega)
      by_cases h12 : v ≤ 999999
      · rw [if_pos h12]
        exact key _ (by unfold tNs; rw [if_pos h12])
      · rw [if_neg h12]
        exact key _ (by unfold tNs; rw [if_neg h12])
    · rw [if_neg (fun z => hb ((tKd_2 _).mpr z)), if_pos rfl, if_neg hb, Nat.sub_self]; rfl
def tRest (N : Nat) (L : Int32) (b : Nat → Int32) (x5 p nb tk : Int32) (wd : Int64) : Option (Unit × Int32 × Int32 × Int32 × Int32 × Int64) := (if x5 = (-1) then some ((), p, p, nb, 0, wd) else ((F_X12_isSmall x5).bind fun x7 => (if x7 = 0 then ((F_X12_isDigit x5).bind fun x9 => (if x9 = 0 then (if x5 = 59 then F_X12_scan_b268 N p p nb tk wd else (if x5 = 40 then F_X12_scan_b268 N p p nb tk wd else (if x5 = 41 then F_X12_scan_b268 N p p nb tk wd else F_X12_scan_b273 N 4 p p nb tk wd))) else F_X12_scan_b175 N L b N p p 0 tk wd)) else F_X12_scan_b81 N L b N p p nb tk (Int64.ofNat 0))))
theorem m_scan {N L p : Nat} {b c : Nat → Int32} (hN : 1000 ≤ N) (h : TX L b c) (hp : p ≤ L) (bg nb tk : Int32) (wd : Int64) :
    F_X12_scan N (nI p) bg (nI L) nb tk wd b = some ((), nI (tE c p), nI (tQ c p), if tK c p = 2 then tN c p else nb, tK c p, if tK c p = 1 then tW c p else wd) := by
  have hL := h.1
  have hq := tQ_le h hp
  unfold F_X12_scan
  have key : ∀ n p fu, p ≤ L → L < p + n → n ≤ fu → F_X12_scan_b0 N (nI L) b fu (nI p) bg nb tk wd = tRest N (nI L) b (c (tSk c n p)) (nI (tSk c n p)) nb tk wd := by
    intro n
    induction n with
    | zero => intro p fu h1 h2; omega
    | succ n ih =>
      intro p fu h1 h2 h3
      obtain ⟨m, rfl⟩ : ∃ m, fu = m + 1 := ⟨fu - 1, by omega⟩
      unfold tSk
      by_cases hb : c p = 32 ∨ c p = 10
      · rw [if_pos hb]
        have hlt : p < L := by
          refine Nat.lt_of_not_le fun hl => ?_
          rw [h.2.2 p hl] at hb; exact absurd hb (by decide)
        rw [← ih (p + 1) m (by omega) (by omega) (by omega), F_X12_scan_b0, m_see h (by omega), Option.bind_some, Option.bind_some]
        unfold F_X12_scan_b26
        rw [nI_1]
        by_cases h32 : c p = 32
        · rw [if_pos h32]
        · rw [if_neg h32, if_pos (hb.resolve_left h32)]
      · rw [if_neg hb, F_X12_scan_b0, m_see h (by omega), Option.bind_some, Option.bind_some, if_neg (fun z => hb (Or.inl z)), if_neg (fun z => hb (Or.inr z)), Option.bind_some]
        rfl
  rw [key 801 p N hp (by omega) (by omega)]
  have hq' : tSk c 801 p = tQ c p := rfl
  rw [hq']
  unfold tRest
  rw [m_small, m_digit, Option.bind_some, Option.bind_some]
  unfold F_X12_scan_b268 F_X12_scan_b273
  rw [nI_1]
  have hk' : tKd (c (tQ c p)) = tK c p := rfl
  have n0 : ∀ z : Int32, z = 0 ∨ z = 3 ∨ z = 4 → (¬ z = 2) ∧ (¬ z = 1) := by intro z hz; grind
  unfold tN tW tE
  by_cases c0 : c (tQ c p) = -1
  · have e : tK c p = 0 := by rw [← hk']; unfold tKd; rw [if_pos c0]
    rw [if_pos c0, e, if_pos rfl, if_neg (by decide), if_neg (by decide)]
  · rw [if_neg c0]
    by_cases c1 : 97 ≤ c (tQ c p) ∧ c (tQ c p) ≤ 122
    · have e : tK c p = 1 := by rw [← hk', tKd_1]; exact c1
      have hlt := tK_lt h hp (by rw [e]; decide)
      rw [if_pos c1, if_neg (by decide), m_word h nb tk 802 (tQ c p) N (Int64.ofNat 0) (Nat.le_refl _) (by omega) (by omega) (by omega), e, if_neg (by decide), if_pos (Or.inl rfl), if_neg (by decide), if_pos rfl]
      have er : tRu c 1 802 (tQ c p) = tRu c 1 801 (tQ c p + 1) := by
        show (if tKd (c (tQ c p)) = 1 then tRu c 1 801 (tQ c p + 1) else _) = _
        rw [hk', if_pos e]
      rw [er]
    · rw [if_neg c1, if_pos rfl]
      by_cases c2 : 48 ≤ c (tQ c p) ∧ c (tQ c p) ≤ 57
      · have e : tK c p = 2 := by rw [← hk', tKd_2]; exact c2
        have hlt := tK_lt h hp (by rw [e]; decide)
        rw [if_pos c2, if_neg (by decide), m_num h tk wd 802 (tQ c p) N 0 (Nat.le_refl _) (by omega) (by omega) (by omega), e, if_neg (by decide), if_pos (Or.inr rfl), if_pos rfl, if_neg (by decide)]
        have er : tRu c 2 802 (tQ c p) = tRu c 2 801 (tQ c p + 1) := by
          show (if tKd (c (tQ c p)) = 2 then tRu c 2 801 (tQ c p + 1) else _) = _
          rw [hk', if_pos e]
        rw [er]
      · rw [if_neg c2, if_pos rfl]
        have e : tK c p = if c (tQ c p) = 59 ∨ c (tQ c p) = 40 ∨ c (tQ c p) = 41 then 3 else 4 := by rw [← hk']; unfold tKd; rw [if_neg c0, if_neg c1, if_neg c2]
        have e34 : tK c p = 3 ∨ tK c p = 4 := by rw [e]; grind
        have en := n0 (tK c p) (by grind)
        rw [if_neg en.1, if_neg en.2, if_neg (show ¬ tK c p = 0 by grind), if_neg (show ¬ (tK c p = 1 ∨ tK c p = 2) by grind)]
        by_cases d1 : c (tQ c p) = 59
        · rw [if_pos d1, e, if_pos (Or.inl d1)]
        · rw [if_neg d1]
          by_cases d2 : c (tQ c p) = 40
          · rw [if_pos d2, e, if_pos (Or.inr (Or.inl d2))]
          · rw [if_neg d2]
            by_cases d3 : c (tQ c p) = 41
            · rw [if_pos d3, e, if_pos (Or.inr (Or.inr d3))]
            · rw [if_neg d3, e, if_neg (by grind)]
