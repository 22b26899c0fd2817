/-! PURE: steps of the parsers over (code, token) -/
def cI (b : Bool) : Int32 := match b with | true => 1 | false => 0
theorem cI_if (P : Prop) (inst : Decidable P) : (if P then (1 : Int32) else 0) = cI (decide P) := by
  by_cases h : P
  · rw [if_pos h, decide_eq_true h]; rfl
  · rw [if_neg h, decide_eq_false h]; rfl
def bIs (W : Nat) (c : Nat → Int32) (p : Nat) : Bool := decide (tK c p = 1) && (decide (tE c p - tQ c p < 12) && decide (tW c p = lN W))
theorem bIs_iff (W : Nat) (c : Nat → Int32) (p : Nat) : bIs W c p = true ↔ tIs W c p := by unfold bIs tIs; simp only [Bool.and_eq_true, decide_eq_true_eq]
def iIs (W : Nat) (c : Nat → Int32) (p : Nat) : Decidable (tIs W c p) := if h : bIs W c p = true then .isTrue ((bIs_iff W c p).mp h) else .isFalse (fun q => h ((bIs_iff W c p).mpr q))
theorem bIs_cI (W : Nat) (c : Nat → Int32) (p : Nat) (inst : Decidable (tIs W c p)) : (@ite _ (tIs W c p) inst (1 : Int32) 0) = cI (bIs W c p) := by
  by_cases h : tIs W c p
  · rw [if_pos h, (bIs_iff W c p).mpr h]; rfl
  · rw [if_neg h, show bIs W c p = false from Bool.eq_false_iff.mpr (fun q => h ((bIs_iff W c p).mp q))]; rfl
def bMk (m : Int32) (c : Nat → Int32) (p : Nat) : Bool := decide (tK c p = 3) && decide (c (tQ c p) = m)
theorem bMk_iff (m : Int32) (c : Nat → Int32) (p : Nat) : bMk m c p = true ↔ tMk m c p := by unfold bMk tMk; simp only [Bool.and_eq_true, decide_eq_true_eq]
def iMk (m : Int32) (c : Nat → Int32) (p : Nat) : Decidable (tMk m c p) := if h : bMk m c p = true then .isTrue ((bMk_iff m c p).mp h) else .isFalse (fun q => h ((bMk_iff m c p).mpr q))
theorem k_mark {L p : Nat} {b c : Nat → Int32} (h : TX L b c) (hp : p ≤ L) (m : Int32) : F_X10_isMark m (tK c p) (nI (tQ c p)) (nI L) b = some (cI (bMk m c p)) := by
  rw [k_isMark h hp m (iMk m c p)]
  by_cases q : tMk m c p
  · rw [if_pos q, (bMk_iff m c p).mpr q]; rfl
  · rw [if_neg q, show bMk m c p = false from Bool.eq_false_iff.mpr (fun r => q ((bMk_iff m c p).mp r))]; rfl
theorem m_sign {L p : Nat} {b c : Nat → Int32} (h : TX L b c) (hp : p ≤ L) (m z : Int32) : F_X12_isSign m z (nI (tQ c p)) (tK c p) b = some (cI (decide (z = 0) && bMk m c p)) := by
  rw [@m_isSign L p b c h hp m z (iMk m c p)]
  by_cases q : z = 0 ∧ tMk m c p
  · rw [if_pos q, (bMk_iff m c p).mpr q.2, decide_eq_true q.1]; rfl
  · rw [if_neg q]
    by_cases q1 : z = 0
    · rw [show bMk m c p = false from Bool.eq_false_iff.mpr (fun r => q ⟨q1, (bMk_iff m c p).mp r⟩), Bool.and_false]; rfl
    · rw [decide_eq_false q1]; rfl
theorem m_isW (W : Nat) {L p : Nat} {b c : Nat → Int32} (h : TX L b c) (hp : p ≤ L) (z : Int32) {wd : Int64} (hw : tK c p = 1 → wd = tW c p) :
    F_X12_isWord (lN W) (nI (tE c p)) z (nI (tQ c p)) (tK c p) wd = some (cI (decide (z = 0) && bIs W c p)) := by
  have hL := h.1
  have hE := tE_le h hp
  rw [m_isWord W c p z (by omega) hE.1 hw]
  by_cases q1 : z = 0
  · rw [decide_eq_true q1, Bool.true_and]
    by_cases q : tIs W c p
    · rw [if_pos ⟨q1, q⟩, (bIs_iff W c p).mpr q]; rfl
    · rw [if_neg (fun r => q r.2), show bIs W c p = false from Bool.eq_false_iff.mpr (fun r => q ((bIs_iff W c p).mp r))]; rfl
  · rw [if_neg (fun r => q1 r.1), decide_eq_false q1]; rfl
/-- the code and its place behind a check -/
def mZ (z : Int32) (ok : Bool) (n : Int32) : Int32 := if z = 0 then (match ok with | true => 0 | false => n) else z
def mP (z : Int32) (ok : Bool) (q pos : Int32) : Int32 := if z = 0 then (match ok with | true => pos | false => q) else pos
theorem mZ_true (z n : Int32) : mZ z true n = z := by
  unfold mZ
  by_cases h : z = 0
  · rw [if_pos h, h]
  · rw [if_neg h]
theorem mP_true (z q pos : Int32) : mP z true q pos = pos := by unfold mP; split <;> rfl
theorem mZ_and (z n : Int32) (ok : Bool) : mZ z (decide (z = 0) && ok) n = mZ z ok n := by
  unfold mZ
  by_cases h : z = 0
  · rw [if_pos h, if_pos h, decide_eq_true h, Bool.true_and]
  · rw [if_neg h, if_neg h]
theorem mP_and (z q pos : Int32) (ok : Bool) : mP z (decide (z = 0) && ok) q pos = mP z ok q pos := by
  unfold mP
  by_cases h : z = 0
  · rw [if_pos h, if_pos h, decide_eq_true h, Bool.true_and]
  · rw [if_neg h, if_neg h]
theorem k_fail (n z pos st : Int32) : F_X10_fail n z pos st = some ((), mZ z false n, mP z false st pos) := by
  unfold F_X10_fail mZ mP
  by_cases h : z = 0
  · rw [if_pos h, if_pos h, if_pos h]
  · rw [if_neg h, if_neg h, if_neg h]
theorem m_must (ok : Bool) (n z ba bg : Int32) : F_X12_must (cI ok) n z ba bg = some ((), mZ z ok n, mP z ok bg ba) := by
  unfold F_X12_must mZ mP
  by_cases h : z = 0
  · rw [if_pos h, if_pos h, if_pos h]
    cases ok
    · rw [if_pos (show cI false = 0 from rfl)]
    · rw [if_neg (by decide), h]
  · rw [if_neg h, if_neg h, if_neg h]
/-- the next token, if there is no error -/
def nx (c : Nat → Int32) (z : Int32) (p : Nat) : Nat := if z = 0 then tE c p else p
theorem nx_le {L p : Nat} {b c : Nat → Int32} (h : TX L b c) (hp : p ≤ L) (z : Int32) : nx c z p ≤ L := by
  unfold nx; split
  · exact (tE_le h hp).2.1
  · exact hp
theorem k_nextS {N L p : Nat} {b c : Nat → Int32} (hN : 1000 ≤ N) (h : TX L b c) (hp : p ≤ L) (z : Int32) : F_X10_next N z (nI (tE c p)) (tK c p) (nI (tQ c p)) (nI L) b = some ((), nI (tE c (nx c z p)), tK c (nx c z p), nI (tQ c (nx c z p))) := by
  unfold nx
  by_cases hz : z = 0
  · rw [if_pos hz, hz]; exact k_next hN h (tE_le h hp).2.1 _ _
  · rw [if_neg hz]
    unfold F_X10_next F_X10_sound
    rw [if_neg hz, Option.bind_some, if_pos rfl]
/-- what the model holds of the token's number and word -/
def MW (c : Nat → Int32) (p : Nat) (nb : Int32) (wd : Int64) : Prop := (tK c p = 2 → nb = tN c p) ∧ (tK c p = 1 → wd = tW c p)
theorem m_goesOn {N L p : Nat} {b c : Nat → Int32} (hN : 1000 ≤ N) (h : TX L b c) (hp : p ≤ L) (z nb : Int32) {wd : Int64} (hm : MW c p nb wd) :
    ∃ nb' wd', F_X12_goesOn N (nI (tE c p)) z (nI (tQ c p)) (nI L) nb (tK c p) wd b = some ((), nI (tE c (nx c z p)), nI (tQ c (nx c z p)), nb', tK c (nx c z p), wd') ∧ MW c (nx c z p) nb' wd' := by
  unfold nx F_X12_goesOn
  by_cases hz : z = 0
  · rw [if_pos hz, if_pos hz, m_scan hN h (tE_le h hp).2.1, Option.bind_some]
    exact ⟨_, _, rfl, fun q => if_pos q, fun q => if_pos q⟩
  · rw [if_neg hz, if_neg hz]
    exact ⟨nb, wd, rfl, hm⟩
/-! numbers -/
def tD (c : Nat → Int32) (j : Nat) : Nat := (c j).toNatClampNeg - 48
theorem tD_ok {c : Nat → Int32} {j : Nat} (h : 48 ≤ c j ∧ c j ≤ 57) : c j = nI (48 + tD c j) ∧ tD c j ≤ 9 := by
  obtain ⟨k, hk, e⟩ := n_of (n := 57) (by decide) (by grind) h.2
  have h48 : 48 ≤ k := (nI_leI (a := 48) (by decide) (by omega)).mp (by rw [← e]; exact h.1)
  have ek : (c j).toNatClampNeg = k := by rw [e]; exact tnI (by omega)
  unfold tD
  rw [ek]
  exact ⟨by rw [e]; exact congrArg nI (by omega), by omega⟩
def tVn (c : Nat → Int32) (q : Nat) : Nat → Nat
  | 0 => 0
  | n + 1 => 10 * tVn c q n + tD c (q + n)
def tV (c : Nat → Int32) (p : Nat) : Nat := tVn c (tQ c p) (tE c p - tQ c p)
theorem tVn_mono (c : Nat → Int32) (q i : Nat) : ∀ d, tVn c q i ≤ tVn c q (i + d) := by
  intro d
  induction d with
  | zero => exact Nat.le_refl _
  | succ d ih => show _ ≤ 10 * tVn c q (i + d) + tD c (q + (i + d)); omega
theorem num_step {t d : Nat} (ht : t ≤ 10000000) (hd : d ≤ 9) : ((10 * nI t) + nI (48 + d)) - 48 = nI (10 * t + d) := by
  show ((nI 10 * nI t) + nI (48 + d)) - nI 48 = _
  rw [pk_mul, nI_add, pk_sub (by omega)]
  exact congrArg nI (by omega)
theorem k_seeLoop {N L q e l H : Nat} {b c : Nat → Int32} (h : TX L b c) (hq : q ≤ e) (he : e ≤ L) (hdg : ∀ j, q ≤ j → j < e → 48 ≤ c j ∧ c j ≤ 57) (hH : H ≤ 900) (z pos : Int32) :
    ∀ d i fu, i + d = e - q → d < fu → tVn c q i ≤ 10 * H + 9 → ∃ v, F_X10_seeNumber_b23 N (nI e) (nI q) (nI L) b fu (nI l) (nI H) (nI (tVn c q i)) (nI (q + i)) z pos = F_X10_seeNumber_b61 N (nI q) (nI l) (nI H) (nI v) z pos ∧ (v = tVn c q (e - q) ∧ v ≤ H ∨ H < v ∧ H < tVn c q (e - q) ∧ v ≤ 10 * H + 9) := by
  have hL := h.1
  intro d
  induction d with
  | zero =>
    intro i fu hi hf hb
    obtain ⟨m, rfl⟩ : ∃ m, fu = m + 1 := ⟨fu - 1, by omega⟩
    refine ⟨tVn c q i, ?_, ?_⟩
    · rw [F_X10_seeNumber_b23, if_pos (nI_le (by omega) (by omega))]
    · have ei : i = e - q := by omega
      rw [← ei]
      by_cases hv : tVn c q i ≤ H
      · exact Or.inl ⟨rfl, hv⟩
      · exact Or.inr ⟨by omega, by omega, hb⟩
  | succ d ih =>
    intro i fu hi hf hb
    obtain ⟨m, rfl⟩ : ∃ m, fu = m + 1 := ⟨fu - 1, by omega⟩
    rw [F_X10_seeNumber_b23, if_neg (nI_ge (by omega) (by omega))]
    by_cases hv : H < tVn c q i
    · refine ⟨tVn c q i, ?_, Or.inr ⟨hv, ?_, hb⟩⟩
      · rw [if_pos (nI_lt hv (by omega))]
      · have := tVn_mono c q i (e - q - i)
        rw [show i + (e - q - i) = e - q by omega] at this
        omega
    · obtain ⟨ec, hd9⟩ := tD_ok (hdg (q + i) (by omega) (by omega))
      rw [if_neg (nI_nlt (by omega) (by omega)), k_at h (by omega), Option.bind_some, ec, num_step (by omega) hd9, nI_1]
      exact ih (i + 1) m (by omega) (by omega) (show 10 * tVn c q i + tD c (q + i) ≤ _ by omega)
theorem tN_V {c : Nat → Int32} {q : Nat} : ∀ n, (∀ j, q ≤ j → j < q + n → 48 ≤ c j ∧ c j ≤ 57) → ∃ u, it (tNs c) q n 0 = nI u ∧ u ≤ 9999999 ∧ (tVn c q n ≤ 999999 → u = tVn c q n) ∧ (999999 < tVn c q n → 999999 < u) := by
  intro n
  induction n with
  | zero => intro _; exact ⟨0, rfl, by omega, fun _ => rfl, fun h => absurd (show 999999 < 0 from h) (by decide)⟩
  | succ n ih =>
    intro hd
    obtain ⟨u, h1, h2, h3, h4⟩ := ih (fun j a b => hd j a (by omega))
    obtain ⟨ec, hd9⟩ := tD_ok (hd (q + n) (by omega) (by omega))
    rw [it_snoc, h1]
    have ev : tVn c q (n + 1) = 10 * tVn c q n + tD c (q + n) := rfl
    unfold tNs
    by_cases hu : u ≤ 999999
    · rw [if_pos (show nI u ≤ 999999 from nI_le (b := 999999) hu (by decide)), ec, num_step (by omega) hd9]
      have hV : tVn c q n ≤ 999999 := by
        refine Nat.le_of_not_lt fun q => ?_
        have := h4 q; omega
      have := h3 hV
      refine ⟨_, rfl, by omega, fun _ => by omega, fun _ => by omega⟩
    · rw [if_neg (show ¬ nI u ≤ 999999 from nI_ge (a := 999999) (by omega) (by omega))]
      have hV : 999999 < tVn c q n := by
        refine Nat.lt_of_not_le fun q => ?_
        have := h3 q; omega
      exact ⟨u, rfl, h2, fun q => by omega, fun _ => by omega⟩
def bNm (l H : Nat) (c : Nat → Int32) (p : Nat) : Bool := decide (l ≤ tV c p) && decide (tV c p ≤ H)
theorem bNm_iff (l H : Nat) (c : Nat → Int32) (p : Nat) : bNm l H c p = true ↔ l ≤ tV c p ∧ tV c p ≤ H := by unfold bNm; simp only [Bool.and_eq_true, decide_eq_true_eq]
def bK (k : Int32) (c : Nat → Int32) (p : Nat) : Bool := decide (tK c p = k)
/-- the value that the class reads -/
def kV (l H : Nat) (c : Nat → Int32) (p : Nat) : Int32 := if bK 2 c p = true ∧ bNm l H c p = true then nI (tV c p) else nI l
theorem k_see {N L p l H : Nat} {b c : Nat → Int32} (hN : 1000 ≤ N) (h : TX L b c) (hp : p ≤ L) (hl : l ≤ 900) (hH : H ≤ 900) (z pos : Int32) :
    F_X10_seeNumber N (nI l) (nI H) z (nI (tE c p)) (tK c p) pos (nI (tQ c p)) (nI L) b = some (kV l H c p, mZ (mZ z (bK 2 c p) 1) (bNm l H c p) 2, mP (mZ z (bK 2 c p) 1) (bNm l H c p) (nI (tQ c p)) (mP z (bK 2 c p) (nI (tQ c p)) pos)) := by
  have hL := h.1
  have hE := tE_le h hp
  unfold F_X10_seeNumber kV
  by_cases hk : tK c p = 2
  · have hb2 : bK 2 c p = true := decide_eq_true hk
    obtain ⟨v, hv, hc⟩ := k_seeLoop (N := N) (l := l) (H := H) h hE.1 hE.2.1 (t_digits h hp hk) hH z pos (tE c p - tQ c p) 0 N (by omega) (by omega) (Nat.zero_le _)
    have hv' : F_X10_seeNumber_b23 N (nI (tE c p)) (nI (tQ c p)) (nI L) b N (nI l) (nI H) 0 (nI (tQ c p)) z pos = F_X10_seeNumber_b61 N (nI (tQ c p)) (nI l) (nI H) (nI v) z pos := hv
    rw [if_pos hk, hv', hb2, mZ_true, mP_true]
    unfold F_X10_seeNumber_b61
    rw [k_within, Option.bind_some]
    have hvl : v ≤ 9009 := by rcases hc with ⟨-, h2⟩ | ⟨-, -, h2⟩ <;> omega
    have hcond : (nI l ≤ nI v ∧ nI v ≤ nI H) ↔ (l ≤ tV c p ∧ tV c p ≤ H) := by
      rw [nI_leI (by omega) (by omega), nI_leI (by omega) (by omega)]
      rcases hc with ⟨h1, h2⟩ | ⟨h1, h2, h3⟩
      · rw [h1]; exact Iff.rfl
      · constructor
        · intro q; omega
        · intro q; have h2 : H < tV c p := h2; omega
    by_cases hr : l ≤ tV c p ∧ tV c p ≤ H
    · have hvt : v = tV c p := by
        rcases hc with ⟨h1, h2⟩ | ⟨h1, h2, h3⟩
        · exact h1
        · have h2 : H < tV c p := h2; omega
      rw [if_pos (hcond.mpr hr), if_neg (by decide), (bNm_iff l H c p).mpr hr, mZ_true, mP_true, if_pos ⟨rfl, rfl⟩, hvt]
    · rw [if_neg (fun q => hr (hcond.mp q)), if_pos rfl, k_fail, Option.bind_some]
      have hf : bNm l H c p = false := Bool.eq_false_iff.mpr (fun q => hr ((bNm_iff l H c p).mp q))
      rw [hf, if_neg (fun q => by cases q.2)]
  · have hb2 : bK 2 c p = false := decide_eq_false hk
    rw [if_neg hk, k_fail, Option.bind_some, hb2, if_neg (fun q => by cases q.1)]
    have e1 : ∀ ok, mZ (mZ z false 1) ok 2 = mZ z false 1 := by
      intro ok
      unfold mZ
      by_cases hz : z = 0
      · rw [if_pos hz]; rfl
      · rw [if_neg hz, if_neg hz]
    have e2 : ∀ ok x y, mP (mZ z false 1) ok x y = y := by
      intro ok x y
      unfold mP mZ
      by_cases hz : z = 0
      · rw [if_pos hz]; rfl
      · rw [if_neg hz, if_neg hz]
    rw [e1, e2]
/-- a number asked for, class -/
theorem k_num {N L p l H : Nat} {b c : Nat → Int32} (hN : 1000 ≤ N) (h : TX L b c) (hp : p ≤ L) (hl : l ≤ 900) (hH : H ≤ 900) (z pos : Int32) {z2 pos2 : Int32} (hz : z2 = mZ (mZ z (bK 2 c p) 1) (bNm l H c p) 2) (hpos : pos2 = mP (mZ z (bK 2 c p) 1) (bNm l H c p) (nI (tQ c p)) (mP z (bK 2 c p) (nI (tQ c p)) pos)) :
    F_X10_readNumber N (nI l) (nI H) z (nI (tE c p)) (tK c p) pos (nI (tQ c p)) (nI L) b = some (kV l H c p, z2, nI (tE c (nx c z2 p)), tK c (nx c z2 p), pos2, nI (tQ c (nx c z2 p))) := by
  unfold F_X10_readNumber
  rw [k_see hN h hp hl hH, Option.bind_some, ← hz, ← hpos, k_nextS hN h hp, Option.bind_some]
theorem m_inN {L p l H : Nat} {b c : Nat → Int32} (h : TX L b c) (hp : p ≤ L) (hl : l ≤ 900) (hH : H ≤ 900) (hk : tK c p = 2) : F_X12_in (Int32.toInt64 (tN c p)) (Int32.toInt64 (nI l)) (Int32.toInt64 (nI H)) = some (cI (bNm l H c p)) ∧ (tV c p ≤ 900 → tN c p = nI (tV c p)) := by
  have hE := tE_le h hp
  obtain ⟨u, h1, h2, h3, h4⟩ := tN_V (c := c) (q := tQ c p) (tE c p - tQ c p) (fun j a b => t_digits h hp hk j a (by omega))
  have e : tN c p = nI u := h1
  refine ⟨?_, fun hv => by rw [e, h3 (show tV c p ≤ 999999 by omega)]; rfl⟩
  rw [e, m_in]
  have hcond : (nI l ≤ nI u ∧ nI u ≤ nI H) ↔ (l ≤ tV c p ∧ tV c p ≤ H) := by
    rw [nI_leI (by omega) (by omega), nI_leI (by omega) (by omega)]
    by_cases hv : tV c p ≤ 999999
    · rw [h3 hv]; exact Iff.rfl
    · have := h4 (show 999999 < tV c p by omega)
      constructor
      · intro q; omega
      · intro q; omega
  by_cases hr : l ≤ tV c p ∧ tV c p ≤ H
  · rw [if_pos (hcond.mpr hr), (bNm_iff l H c p).mpr hr]; rfl
  · rw [if_neg (fun q => hr (hcond.mp q)), show bNm l H c p = false from Bool.eq_false_iff.mpr (fun q => hr ((bNm_iff l H c p).mp q))]; rfl
/-- .. model -/
theorem m_reads {N L p l H : Nat} {b c : Nat → Int32} (hN : 1000 ≤ N) (h : TX L b c) (hp : p ≤ L) (hl : l ≤ 900) (hH : H ≤ 900) (z ba nb : Int32) {wd : Int64} (hm : MW c p nb wd) {z2 ba2 : Int32} (hz : z2 = mZ (mZ z (bK 2 c p) 1) (bNm l H c p) 2) (hba : ba2 = mP (mZ z (bK 2 c p) 1) (bNm l H c p) (nI (tQ c p)) (mP z (bK 2 c p) (nI (tQ c p)) ba)) :
    ∃ nb' wd', F_X12_reads N (nI l) (nI H) (nI (tE c p)) z ba (nI (tQ c p)) (nI L) nb (tK c p) wd b = some (if z2 = 0 then nI (tV c p) else nI l, nI (tE c (nx c z2 p)), z2, ba2, nI (tQ c (nx c z2 p)), nb', tK c (nx c z2 p), wd') ∧ MW c (nx c z2 p) nb' wd' := by
  obtain ⟨nb', wd', g1, g2⟩ := m_goesOn hN h hp z2 nb hm
  refine ⟨nb', wd', ?_, g2⟩
  by_cases hk : tK c p = 2
  · have hb2 : bK 2 c p = true := decide_eq_true hk
    have enb := hm.1 hk
    rw [hb2, mZ_true] at hz
    rw [hb2, mZ_true, mP_true] at hba
    unfold F_X12_reads F_X12_reads_b14
    rw [if_pos hk, show (1 : Int32) = cI true from rfl, m_must, Option.bind_some, mZ_true, mP_true]
    rw [show F_X12_in (Int32.toInt64 nb) (Int32.toInt64 (nI l)) (Int32.toInt64 (nI H)) = some (cI (bNm l H c p)) by rw [enb]; exact (m_inN h hp hl hH hk).1, Option.bind_some, m_must, Option.bind_some, ← hz, ← hba]
    show (F_X12_goesOn N (nI (tE c p)) z2 (nI (tQ c p)) (nI L) nb (tK c p) wd b).bind _ = _
    rw [g1, Option.bind_some]
    by_cases h0 : z2 = 0
    · rw [if_pos h0, if_pos h0]
      have hr : bNm l H c p = true := by
        unfold mZ at hz
        by_cases hz0 : z = 0
        · rw [if_pos hz0] at hz
          cases hb : bNm l H c p with
          | true => rfl
          | false => rw [hb] at hz; rw [h0] at hz; exact absurd hz (by decide)
        · rw [if_neg hz0] at hz; rw [h0] at hz; exact absurd hz.symm hz0
      have hv := (bNm_iff l H c p).mp hr
      rw [enb, (m_inN h hp hl hH hk).2 (by omega)]
    · rw [if_neg h0, if_neg h0]
  · have hb2 : bK 2 c p = false := decide_eq_false hk
    rw [hb2] at hz hba
    have e1 : ∀ ok, mZ (mZ z false 1) ok 2 = mZ z false 1 := by
      intro ok
      unfold mZ
      by_cases hz : z = 0
      · rw [if_pos hz]; rfl
      · rw [if_neg hz, if_neg hz]
    have e2 : ∀ ok x y, mP (mZ z false 1) ok x y = y := by
      intro ok x y
      unfold mP mZ
      by_cases hz : z = 0
      · rw [if_pos hz]; rfl
      · rw [if_neg hz, if_neg hz]
    rw [e1] at hz
    rw [e2] at hba
    have hne : ¬ z2 = 0 := by
      rw [hz]; unfold mZ
      by_cases hz0 : z = 0
      · rw [if_pos hz0]; decide
      · rw [if_neg hz0]; exact hz0
    unfold F_X12_reads F_X12_reads_b14
    rw [if_neg hk, show (0 : Int32) = cI false from rfl, m_must, Option.bind_some, m_in, Option.bind_some, cI_if, m_must, Option.bind_some, e1, e2, ← hz, ← hba]
    show (F_X12_goesOn N (nI (tE c p)) z2 (nI (tQ c p)) (nI L) nb (tK c p) wd b).bind _ = _
    rw [g1, Option.bind_some]
    rw [if_neg (show ¬ z2 = cI false from hne), if_neg (show ¬ z2 = cI false from hne)]
/-- a sign asked for -/
theorem k_rdMark {N L p : Nat} {b c : Nat → Int32} (hN : 1000 ≤ N) (h : TX L b c) (hp : p ≤ L) (m z pos : Int32) :
    F_X10_readMark N m z (nI (tE c p)) (tK c p) pos (nI (tQ c p)) (nI L) b = some ((), mZ z (bMk m c p) 1, nI (tE c (nx c (mZ z (bMk m c p) 1) p)), tK c (nx c (mZ z (bMk m c p) 1) p), mP z (bMk m c p) (nI (tQ c p)) pos, nI (tQ c (nx c (mZ z (bMk m c p) 1) p))) := by
  unfold F_X10_readMark F_X10_readMark_b13
  rw [k_mark h hp, Option.bind_some]
  cases hb : bMk m c p
  · rw [if_pos (show cI false = 0 from rfl), k_fail, Option.bind_some, k_nextS hN h hp, Option.bind_some]
  · rw [if_neg (by decide), k_nextS hN h hp, Option.bind_some, mZ_true, mP_true]
theorem m_rdSign {N L p : Nat} {b c : Nat → Int32} (hN : 1000 ≤ N) (h : TX L b c) (hp : p ≤ L) (m z ba nb : Int32) {wd : Int64} (hm : MW c p nb wd) :
    ∃ nb' wd', F_X12_sign N m (nI (tE c p)) z ba (nI (tQ c p)) (nI L) nb (tK c p) wd b = some ((), nI (tE c (nx c (mZ z (bMk m c p) 1) p)), mZ z (bMk m c p) 1, mP z (bMk m c p) (nI (tQ c p)) ba, nI (tQ c (nx c (mZ z (bMk m c p) 1) p)), nb', tK c (nx c (mZ z (bMk m c p) 1) p), wd') ∧ MW c (nx c (mZ z (bMk m c p) 1) p) nb' wd' := by
  obtain ⟨nb', wd', g1, g2⟩ := m_goesOn hN h hp (mZ z (bMk m c p) 1) nb hm
  refine ⟨nb', wd', ?_, g2⟩
  unfold F_X12_sign
  rw [m_sign h hp, Option.bind_some, m_must, Option.bind_some, mZ_and, mP_and]
  show (F_X12_goesOn N (nI (tE c p)) (mZ z (bMk m c p) 1) (nI (tQ c p)) (nI L) nb (tK c p) wd b).bind _ = _
  rw [g1, Option.bind_some]
/-- a word asked for, class -/
theorem k_rdWord {N L p k0 W : Nat} {b c : Nat → Int32} (hN : 1000 ≤ N) (h : TX L b c) (hp : p ≤ L) (hw : F_X10_isWord N k0 (nI (tE c p)) (tK c p) (nI (tQ c p)) (nI L) b = some (cI (bIs W c p))) (z pos : Int32) :
    F_X10_readWord N k0 z (nI (tE c p)) (tK c p) pos (nI (tQ c p)) (nI L) b = some ((), mZ z (bIs W c p) 1, nI (tE c (nx c (mZ z (bIs W c p) 1) p)), tK c (nx c (mZ z (bIs W c p) 1) p), mP z (bIs W c p) (nI (tQ c p)) pos, nI (tQ c (nx c (mZ z (bIs W c p) 1) p))) := by
  unfold F_X10_readWord F_X10_readWord_b13
  rw [hw, Option.bind_some]
  cases hb : bIs W c p
  · rw [if_pos (show cI false = 0 from rfl), k_fail, Option.bind_some, k_nextS hN h hp, Option.bind_some]
  · rw [if_neg (by decide), k_nextS hN h hp, Option.bind_some, mZ_true, mP_true]
