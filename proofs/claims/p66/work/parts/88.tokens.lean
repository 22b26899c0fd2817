/-! PURE: tokens over a list of bytes -/
def cL (l : List Nat) : Nat → Int32 := fun i => if i < l.length then nI (l.getD i 0) else -1
/-- from p on the text reads l -/
def Rem (c : Nat → Int32) (p : Nat) (l : List Nat) : Prop := ∀ j, c (p + j) = cL l j
theorem cL_app (a b : List Nat) (j : Nat) : cL (a ++ b) (a.length + j) = cL b j := by
  unfold cL
  rw [List.length_append]
  by_cases h : j < b.length
  · rw [if_pos (by omega), if_pos h, List.getD_eq_getElem?_getD, List.getD_eq_getElem?_getD, List.getElem?_append_right (by omega), Nat.add_sub_cancel_left]
  · rw [if_neg (by omega), if_neg h]
theorem Rem.app {c : Nat → Int32} {p : Nat} {a b : List Nat} (h : Rem c p (a ++ b)) : Rem c (p + a.length) b := fun j => by
  rw [Nat.add_assoc, h, cL_app]
theorem Rem.at {c : Nat → Int32} {p : Nat} {a b : List Nat} (h : Rem c p (a ++ b)) {j : Nat} (hj : j < a.length) : c (p + j) = nI (a.getD j 0) := by
  rw [h j]; unfold cL; rw [if_pos (by rw [List.length_append]; omega), List.getD_eq_getElem?_getD, List.getD_eq_getElem?_getD, List.getElem?_append_left hj]
theorem Rem.hd {c : Nat → Int32} {p x : Nat} {r : List Nat} (h : Rem c p (x :: r)) : c p = nI x := h 0
theorem Rem.tl {c : Nat → Int32} {p x : Nat} {r : List Nat} (h : Rem c p (x :: r)) : Rem c (p + 1) r := Rem.app (a := [x]) h
theorem Rem.nil {c : Nat → Int32} {p : Nat} (h : Rem c p []) : c p = -1 := h 0
theorem tQ_0 {c : Nat → Int32} {p : Nat} (h : ¬ (c p = 32 ∨ c p = 10)) : tQ c p = p := by
  show tSk c (800 + 1) p = p
  rw [tSk, if_neg h]
theorem tQ_1 {c : Nat → Int32} {p : Nat} (h0 : c p = 32) (h : ¬ (c (p + 1) = 32 ∨ c (p + 1) = 10)) : tQ c p = p + 1 := by
  show tSk c (799 + 1 + 1) p = p + 1
  rw [tSk, if_pos (Or.inl h0), tSk, if_neg h]
theorem tRu_run {c : Nat → Int32} {k : Int32} : ∀ (m n p : Nat), (∀ j, j < m → tKd (c (p + j)) = k) → ¬ tKd (c (p + m)) = k → m < n → tRu c k n p = p + m := by
  intro m
  induction m with
  | zero => intro n p _ h hn; obtain ⟨q, rfl⟩ : ∃ q, n = q + 1 := ⟨n - 1, by omega⟩; rw [tRu, if_neg (show ¬ tKd (c p) = k from h)]; rfl
  | succ m ih =>
    intro n p h1 h2 hn
    obtain ⟨q, rfl⟩ : ∃ q, n = q + 1 := ⟨n - 1, by omega⟩
    rw [tRu, if_pos (show tKd (c p) = k from h1 0 (by omega)), ih q (p + 1) (fun j hj => by rw [Nat.add_assoc, Nat.add_comm 1 j]; exact h1 (j + 1) (by omega)) (by rw [Nat.add_assoc, Nat.add_comm 1 m]; exact h2) (by omega)]
    omega
/-- a token of a run: m bytes of one kind from q on -/
theorem tok_run {c : Nat → Int32} {p q m : Nat} {k : Int32} (hq : tQ c p = q) (hk : k = 1 ∨ k = 2) (h1 : ∀ j, j < m → tKd (c (q + j)) = k) (h2 : ¬ tKd (c (q + m)) = k) (h0 : 0 < m) (hm : m < 700) : tK c p = k ∧ tE c p = q + m := by
  have e : tK c p = k := by unfold tK; rw [hq]; exact h1 0 h0
  refine ⟨e, ?_⟩
  have hk0 : ¬ k = 0 := by rcases hk with rfl | rfl <;> decide
  unfold tE
  rw [e, if_neg hk0, if_pos hk, hq, tRu_run (m - 1) 801 (q + 1) (fun j hj => by rw [Nat.add_assoc, Nat.add_comm 1 j]; exact h1 (j + 1) (by omega)) (by rw [show q + 1 + (m - 1) = q + m by omega]; exact h2) (by omega)]
  omega
theorem tKd_nI {x : Nat} (h : x < 128) : (97 ≤ x ∧ x ≤ 122 → tKd (nI x) = 1) ∧ (48 ≤ x ∧ x ≤ 57 → tKd (nI x) = 2) ∧ ((x = 32 ∨ x = 59) → ¬ tKd (nI x) = 1 ∧ ¬ tKd (nI x) = 2) ∧ ((97 ≤ x ∧ x ≤ 122 ∨ 48 ≤ x ∧ x ≤ 57 ∨ x = 59) → ¬ (nI x = 32 ∨ nI x = 10)) := by
  have key : ∀ x : Fin 128, (97 ≤ x.val ∧ x.val ≤ 122 → tKd (nI x.val) = 1) ∧ (48 ≤ x.val ∧ x.val ≤ 57 → tKd (nI x.val) = 2) ∧ ((x.val = 32 ∨ x.val = 59) → ¬ tKd (nI x.val) = 1 ∧ ¬ tKd (nI x.val) = 2) ∧ ((97 ≤ x.val ∧ x.val ≤ 122 ∨ 48 ≤ x.val ∧ x.val ≤ 57 ∨ x.val = 59) → ¬ (nI x.val = 32 ∨ nI x.val = 10)) := by decide +kernel
  exact key ⟨x, h⟩
theorem eN_congr {g h : Nat → Nat} : ∀ n, (∀ i, i < n → g i = h i) → eN g n = eN h n := by
  intro n
  induction n with
  | zero => intro _; rfl
  | succ n ih => intro hg; rw [eN, eN, ih (fun i hi => hg i (by omega)), hg n (by omega)]
theorem tok_word {c : Nat → Int32} {p x : Nat} {w r : List Nat} (hw : ∀ i, i < w.length → 97 ≤ w.getD i 0 ∧ w.getD i 0 ≤ 122) (h0 : 0 < w.length) (h1 : w.length ≤ 11) (hx : x = 32 ∨ x = 59) (h : Rem c p (w ++ x :: r)) :
    tQ c p = p ∧ tK c p = 1 ∧ tE c p = p + w.length ∧ Rem c (p + w.length) (x :: r) ∧ tW c p = lN (eN (fun i => w.getD i 0 - 96) w.length) := by
  have hr := h.app
  have a : ∀ j, j < w.length → c (p + j) = nI (w.getD j 0) := fun j hj => h.at hj
  have hq : tQ c p = p := tQ_0 (by have := a 0 h0; rw [Nat.add_zero] at this; rw [this]; exact (tKd_nI (by have := hw 0 h0; omega)).2.2.2 (Or.inl (hw 0 h0)))
  obtain ⟨hk, he⟩ := tok_run (k := 1) hq (Or.inl rfl) (fun j hj => by rw [a j hj]; exact (tKd_nI (by have := hw j hj; omega)).1 (hw j hj)) (by rw [hr.hd]; exact ((tKd_nI (by omega)).2.2.1 hx).1) h0 (by omega)
  refine ⟨hq, hk, he, hr, ?_⟩
  have lt : ∀ i, i < w.length → 97 ≤ c (p + i) ∧ c (p + i) ≤ 122 := fun i hi => (tKd_1 _).mp (by rw [a i hi]; exact (tKd_nI (by have := hw i hi; omega)).1 (hw i hi))
  unfold tW
  rw [hq, he, Nat.add_sub_cancel_left, tW_eN _ (by omega) lt]
  congr 1
  exact eN_congr _ (fun i hi => by unfold tG; rw [a i hi, tnI (by have := hw i hi; omega)])
theorem bIs_of {c : Nat → Int32} {p W : Nat} {w : List Nat} (hq : tQ c p = p) (hk : tK c p = 1) (he : tE c p = p + w.length) (h1 : w.length ≤ 11) (hW : tW c p = lN (eN (fun i => w.getD i 0 - 96) w.length)) : bIs W c p = decide (lN (eN (fun i => w.getD i 0 - 96) w.length) = lN W) := by
  unfold bIs
  rw [hk, he, hq, hW, decide_eq_true rfl, decide_eq_true (show p + w.length - p < 12 by omega)]
  rfl
/-- the digits of a number below 1000 -/
def dg (v : Nat) : List Nat := if v < 10 then [48 + v] else if v < 100 then [48 + v / 10, 48 + v % 10] else [48 + v / 100, 48 + v / 10 % 10, 48 + v % 10]
theorem dg_len (v : Nat) : (dg v).length = xDz v := by unfold dg xDz; split <;> (try split) <;> rfl
theorem dg_at {v j : Nat} (hj : j < xDz v) : (dg v).getD j 0 = xDt v j := by
  unfold xDz at hj
  unfold dg xDt
  by_cases h1 : v < 10
  · rw [if_pos h1] at hj ⊢; rw [if_pos h1]; obtain rfl : j = 0 := by omega
    rfl
  · rw [if_neg h1] at hj ⊢; rw [if_neg h1]
    by_cases h2 : v < 100
    · rw [if_pos h2] at hj ⊢; rw [if_pos h2]
      rcases (show j = 0 ∨ j = 1 by omega) with rfl | rfl <;> rfl
    · rw [if_neg h2] at hj ⊢; rw [if_neg h2]
      rcases (show j = 0 ∨ j = 1 ∨ j = 2 by omega) with rfl | rfl | rfl <;> rfl
theorem tok_num {c : Nat → Int32} {p v x : Nat} {r : List Nat} (hv : v < 1000) (hx : x = 32 ∨ x = 59) (h : Rem c p (32 :: (dg v ++ x :: r))) :
    tQ c p = p + 1 ∧ tK c p = 2 ∧ tE c p = p + 1 + (dg v).length ∧ tV c p = v ∧ Rem c (p + 1 + (dg v).length) (x :: r) := by
  have h1 := h.tl
  have hr := h1.app
  have a : ∀ j, j < (dg v).length → c (p + 1 + j) = nI ((dg v).getD j 0) := fun j hj => h1.at hj
  have hd : ∀ j, j < (dg v).length → 48 ≤ (dg v).getD j 0 ∧ (dg v).getD j 0 ≤ 57 := by
    intro j hj
    rw [dg_len] at hj
    rw [dg_at hj]
    unfold xDt
    split
    · omega
    · split
      · split <;> omega
      · split
        · omega
        · split <;> omega
  have hl : 1 ≤ (dg v).length ∧ (dg v).length ≤ 3 := by rw [dg_len]; exact xDz_r v
  have hq : tQ c p = p + 1 := tQ_1 h.hd (by have := a 0 (by omega); rw [Nat.add_zero] at this; rw [this]; exact (tKd_nI (by have := hd 0 (by omega); omega)).2.2.2 (Or.inr (Or.inl (hd 0 (by omega)))))
  obtain ⟨hk, he⟩ := tok_run (k := 2) hq (Or.inr rfl) (fun j hj => by rw [a j hj]; exact (tKd_nI (by have := hd j hj; omega)).2.1 (hd j hj)) (by rw [hr.hd]; exact ((tKd_nI (by omega)).2.2.1 hx).2) (by omega) (by omega)
  refine ⟨hq, hk, he, ?_, hr⟩
  have d : ∀ j, j < (dg v).length → tD c (p + 1 + j) = (dg v).getD j 0 - 48 := fun j hj => by unfold tD; rw [a j hj, tnI (by have := hd j hj; omega)]
  unfold tV
  rw [he, hq, Nat.add_sub_cancel_left]
  unfold dg at d ⊢
  by_cases c1 : v < 10
  · rw [if_pos c1] at d ⊢
    have d0 := d 0 (by show 0 < 1; decide)
    show 10 * 0 + tD c (p + 1 + 0) = v
    rw [d0]; show 10 * 0 + (48 + v - 48) = v; omega
  · rw [if_neg c1] at d ⊢
    by_cases c2 : v < 100
    · rw [if_pos c2] at d ⊢
      have d0 := d 0 (by show 0 < 2; decide)
      have d1 := d 1 (by show 1 < 2; decide)
      show 10 * (10 * 0 + tD c (p + 1 + 0)) + tD c (p + 1 + 1) = v
      rw [d0, d1]; show 10 * (10 * 0 + (48 + v / 10 - 48)) + (48 + v % 10 - 48) = v; omega
    · rw [if_neg c2] at d ⊢
      have d0 := d 0 (by show 0 < 3; decide)
      have d1 := d 1 (by show 1 < 3; decide)
      have d2 := d 2 (by show 2 < 3; decide)
      show 10 * (10 * (10 * 0 + tD c (p + 1 + 0)) + tD c (p + 1 + 1)) + tD c (p + 1 + 2) = v
      rw [d0, d1, d2]; show 10 * (10 * (10 * 0 + (48 + v / 100 - 48)) + (48 + v / 10 % 10 - 48)) + (48 + v % 10 - 48) = v; omega
theorem tok_mark {c : Nat → Int32} {p : Nat} {r : List Nat} (h : Rem c p (59 :: r)) : bMk 59 c p = true ∧ tE c p = p + 1 ∧ Rem c (p + 1) r := by
  have h0 : c p = 59 := h.hd
  have hq : tQ c p = p := tQ_0 (by rw [h0]; decide)
  have hk : tK c p = 3 := by unfold tK; rw [hq, h0]; decide
  refine ⟨?_, ?_, h.tl⟩
  · unfold bMk; rw [hk, hq, h0]; decide
  · unfold tE; rw [hk, hq, if_neg (by decide), if_neg (by decide)]
theorem tok_end {c : Nat → Int32} {p : Nat} (h : Rem c p []) : tK c p = 0 := by
  have h0 : c p = -1 := h.nil
  have hq : tQ c p = p := tQ_0 (by rw [h0]; decide)
  unfold tK; rw [hq, h0]; decide
/-! steps that go well -/
theorem g_wd {c : Nat → Int32} {W p : Nat} (h : bIs W c p = true) : sWd c W (0, -1, p) = (0, -1, tE c p) := by unfold sWd; rw [show bIs W c ((0, -1, p) : Sg).2.2 = true from h, sChk_ok]; rfl
theorem g_mk {c : Nat → Int32} {m : Int32} {p : Nat} (h : bMk m c p = true) : sMk c m (0, -1, p) = (0, -1, tE c p) := by unfold sMk; rw [show bMk m c ((0, -1, p) : Sg).2.2 = true from h, sChk_ok]; rfl
theorem g_see {c : Nat → Int32} {l H p : Nat} (h1 : bK 2 c p = true) (h2 : bNm l H c p = true) : sSee c l H (0, -1, p) = (0, -1, p) := by unfold sSee; rw [show bK 2 c ((0, -1, p) : Sg).2.2 = true from h1, show bNm l H c ((0, -1, p) : Sg).2.2 = true from h2, sChk_ok, sChk_ok]
theorem g_no {c : Nat → Int32} {l H p : Nat} (h1 : bK 2 c p = true) (h2 : bNm l H c p = true) : sNo c l H (0, -1, p) = (0, -1, tE c p) := by unfold sNo; rw [g_see h1 h2]; rfl
theorem g_num {c : Nat → Int32} {p v x l H : Nat} {r : List Nat} (hv : v < 1000) (hx : x = 32 ∨ x = 59) (hl : l ≤ v) (hH : v ≤ H) (h : Rem c p (32 :: (dg v ++ x :: r))) : ∃ q, sNo c l H (0, -1, p) = (0, -1, q) ∧ sSee c l H (0, -1, p) = (0, -1, p) ∧ tE c p = q ∧ Rem c q (x :: r) ∧ kV l H c p = nI v ∧ bK 2 c p = true ∧ bNm l H c p = true ∧ tV c p = v := by
  obtain ⟨h1, h2, h3, h4, h5⟩ := tok_num hv hx h
  have k2 : bK 2 c p = true := decide_eq_true h2
  have kn : bNm l H c p = true := (bNm_iff l H c p).mpr ⟨by rw [h4]; exact hl, by rw [h4]; exact hH⟩
  exact ⟨_, g_no k2 kn, g_see k2 kn, rfl, by rw [h3]; exact h5, by rw [kV_eq k2 kn, h4], k2, kn, h4⟩
theorem g_mark {c : Nat → Int32} {p : Nat} {r : List Nat} (h : Rem c p (59 :: r)) : ∃ q, sMk c 59 (0, -1, p) = (0, -1, q) ∧ Rem c q r := by
  obtain ⟨h1, h2, h3⟩ := tok_mark h
  exact ⟨_, g_mk h1, by rw [h2]; exact h3⟩
abbrev wOast : List Nat := [111, 97, 115, 116]
abbrev wFloor : List Nat := [102, 108, 111, 111, 114]
abbrev wLoad : List Nat := [108, 111, 97, 100]
theorem g_word {c : Nat → Int32} {p W : Nat} {w r : List Nat} (hw : ∀ i, i < w.length → 97 ≤ w.getD i 0 ∧ w.getD i 0 ≤ 122) (h0 : 0 < w.length) (h1 : w.length ≤ 11) (hW : lN (eN (fun i => w.getD i 0 - 96) w.length) = lN W) (h : Rem c p (w ++ 32 :: r)) : bIs W c p = true ∧ ∃ q, sWd c W (0, -1, p) = (0, -1, q) ∧ Rem c q (32 :: r) := by
  obtain ⟨a1, a2, a3, a4, a5⟩ := tok_word hw h0 h1 (Or.inl rfl) h
  have hb : bIs W c p = true := by rw [bIs_of a1 a2 a3 h1 a5]; exact decide_eq_true hW
  exact ⟨hb, _, g_wd hb, by rw [a3]; exact a4⟩
/-! the three commands -/
def oastB (F G W S V : Nat) : List Nat := wOast ++ 32 :: (dg F ++ 32 :: (dg G ++ 32 :: (dg W ++ 32 :: (dg S ++ 32 :: (dg V ++ [59])))))
def floorB (L : Nat) : List Nat := wFloor ++ 32 :: (dg L ++ [59])
def loadB (i m q : Nat) : List Nat := wLoad ++ 32 :: (dg i ++ 32 :: (dg m ++ 32 :: (dg q ++ [59])))
theorem g_oast {c : Nat → Int32} {F G W S V : Nat} {r : List Nat} (hF : F ≤ 90) (hG : G ≤ 4) (hW : W ≤ 7) (hS : S ≤ 9) (hV : V ≤ 7) (h : Rem c 0 (oastB F G W S V ++ r)) :
    (∃ p, xF7 c X00 = (0, -1, p) ∧ Rem c p r) ∧ kV 0 90 c (xF1 c X00).2.2 = nI F ∧ kV 0 4 c (xF2 c X00).2.2 = nI G ∧ kV 0 7 c (xF3 c X00).2.2 = nI W ∧ kV 0 9 c (xF4 c X00).2.2 = nI S ∧ kV 0 7 c (xF5 c X00).2.2 = nI V := by
  have h : Rem c 0 (wOast ++ 32 :: (dg F ++ 32 :: (dg G ++ 32 :: (dg W ++ 32 :: (dg S ++ 32 :: (dg V ++ 59 :: r)))))) := by
    unfold oastB at h; simpa using h
  obtain ⟨-, q1, e1, h1⟩ := g_word (W := 493172) (by decide) (by decide) (by decide) (by decide +kernel) h
  obtain ⟨q2, e2, -, -, h2, k2, -⟩ := g_num (l := 0) (H := 90) (by omega) (Or.inl rfl) (Nat.zero_le _) hF h1
  obtain ⟨q3, e3, -, -, h3, k3, -⟩ := g_num (l := 0) (H := 4) (by omega) (Or.inl rfl) (Nat.zero_le _) hG h2
  obtain ⟨q4, e4, -, -, h4, k4, -⟩ := g_num (l := 0) (H := 7) (by omega) (Or.inl rfl) (Nat.zero_le _) hW h3
  obtain ⟨q5, e5, -, -, h5, k5, -⟩ := g_num (l := 0) (H := 9) (by omega) (Or.inl rfl) (Nat.zero_le _) hS h4
  obtain ⟨q6, e6, -, -, h6, k6, -⟩ := g_num (l := 0) (H := 7) (by omega) (Or.inr rfl) (Nat.zero_le _) hV h5
  obtain ⟨q7, e7, h7⟩ := g_mark h6
  have f1 : xF1 c X00 = (0, -1, q1) := e1
  have f2 : xF2 c X00 = (0, -1, q2) := by unfold xF2; rw [f1]; exact e2
  have f3 : xF3 c X00 = (0, -1, q3) := by unfold xF3; rw [f2]; exact e3
  have f4 : xF4 c X00 = (0, -1, q4) := by unfold xF4; rw [f3]; exact e4
  have f5 : xF5 c X00 = (0, -1, q5) := by unfold xF5; rw [f4]; exact e5
  have f6 : xF6 c X00 = (0, -1, q6) := by unfold xF6; rw [f5]; exact e6
  have f7 : xF7 c X00 = (0, -1, q7) := by unfold xF7; rw [f6]; exact e7
  exact ⟨⟨q7, f7, h7⟩, by rw [f1]; exact k2, by rw [f2]; exact k3, by rw [f3]; exact k4, by rw [f4]; exact k5, by rw [f5]; exact k6⟩
theorem g_floor {c : Nat → Int32} {p n L : Nat} {r : List Nat} (hn : n < 4) (hL : 40 ≤ L ∧ L ≤ 90) (h : Rem c p (floorB L ++ r)) : bIs WFL c p = true ∧ kV 40 90 c (xG1 c n (0, -1, p)).2.2 = nI L ∧ ∃ q, sFl c n (0, -1, p) = (0, -1, q) ∧ Rem c q r := by
  have h : Rem c p (wFloor ++ 32 :: (dg L ++ 59 :: r)) := by unfold floorB at h; simpa using h
  obtain ⟨hb, q1, e1, h1⟩ := g_word (W := WFL) (by decide) (by decide) (by decide) (by decide +kernel) h
  obtain ⟨q2, e2, -, -, h2, k2, -⟩ := g_num (l := 40) (H := 90) (by omega) (Or.inr rfl) hL.1 hL.2 h1
  obtain ⟨q3, e3, h3⟩ := g_mark h2
  have f0 : xG0 c n (0, -1, p) = (0, -1, p) := by unfold xG0; rw [show decide (n = 4) = false from decide_eq_false (by omega), Bool.and_false, Bool.not_false, sChk_ok]
  have f1 : xG1 c n (0, -1, p) = (0, -1, q1) := by unfold xG1; rw [f0]; exact e1
  have f2 : xG2 c n (0, -1, p) = (0, -1, q2) := by unfold xG2; rw [f1]; exact e2
  exact ⟨hb, by rw [f1]; exact k2, q3, by unfold sFl; rw [f2]; exact e3, h3⟩
theorem g_load {c : Nat → Int32} {p n i m q : Nat} {g : Nat → Int32} {r : List Nat} (hn : n ≤ 4) (hi : i < n) (hg : g i ≤ 0) (hm : 1 ≤ m ∧ m ≤ 99) (hq : q ≤ 800) (h : Rem c p (loadB i m q ++ r)) : bIs WLD c p = true ∧ bIs WFL c p = false ∧ kFn c n (0, -1, p) = i ∧ kMa c n g (0, -1, p) = nI m ∧ kMo c n g (0, -1, p) = nI q ∧ ∃ q2, sLd c n g (0, -1, p) = (0, -1, q2) ∧ Rem c q2 r := by
  have h : Rem c p (wLoad ++ 32 :: (dg i ++ 32 :: (dg m ++ 32 :: (dg q ++ 59 :: r)))) := by unfold loadB at h; simpa using h
  have hnf : bIs WFL c p = false := by
    obtain ⟨a1, a2, a3, a4, a5⟩ := tok_word (w := wLoad) (by decide) (by decide) (by decide) (Or.inl rfl) h
    rw [bIs_of a1 a2 a3 (by decide) a5]; exact decide_eq_false (by decide +kernel)
  obtain ⟨hb, q1, e1, h1⟩ := g_word (W := WLD) (by decide) (by decide) (by decide) (by decide +kernel) h
  obtain ⟨q2, e2, s2, t2, h2, k2, b2, n2, v2⟩ := g_num (l := 0) (H := n - 1) (v := i) (by omega) (Or.inl rfl) (Nat.zero_le _) (by omega) h1
  obtain ⟨q3, e3, -, -, h3, k3, -⟩ := g_num (l := 1) (H := 99) (by omega) (Or.inl rfl) hm.1 hm.2 h2
  obtain ⟨q4, e4, -, -, h4, k4, -⟩ := g_num (l := 0) (H := 800) (by omega) (Or.inr rfl) (Nat.zero_le _) hq h3
  obtain ⟨q5, e5, h5⟩ := g_mark h4
  have f1 : xL1 c (0, -1, p) = (0, -1, q1) := e1
  have f2 : xL2 c n (0, -1, p) = (0, -1, q1) := by unfold xL2; rw [f1]; exact s2
  have fn : kFn c n (0, -1, p) = i := by unfold kFn; rw [f1, if_pos ⟨b2, n2⟩]; exact v2
  have f3 : xL3 c n g (0, -1, p) = (0, -1, q1) := by unfold xL3; rw [fn, f2, decide_eq_true hg, sChk_ok]
  have f4 : xL4 c n g (0, -1, p) = (0, -1, q2) := by unfold xL4; rw [f3]; show ((0 : Int32), (-1 : Int32), nx c 0 q1) = _; unfold nx; rw [if_pos rfl, t2]
  have f5 : xL5 c n g (0, -1, p) = (0, -1, q3) := by unfold xL5; rw [f4]; exact e3
  have f6 : xL6 c n g (0, -1, p) = (0, -1, q4) := by unfold xL6; rw [f5]; exact e4
  exact ⟨hb, hnf, fn, by unfold kMa; rw [f4]; exact k3, by unfold kMo; rw [f5]; exact k4, q5, by unfold sLd; rw [f6]; exact e5, h5⟩
theorem g_end {c : Nat → Int32} {p : Nat} (h : Rem c p []) : bIs WFL c p = false ∧ bIs WLD c p = false ∧ tK c p = 0 := by
  have hk := tok_end h
  refine ⟨?_, ?_, hk⟩ <;> unfold bIs <;> rw [hk] <;> rfl
