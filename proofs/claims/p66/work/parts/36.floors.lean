/-! PURE: loads on floors -/
theorem va_o {α : Type} (f : Nat → α) {k j : Nat} (x : α) (h : j ≠ k) : va_up f k x j = f j := if_neg h
theorem va_s {α : Type} (f : Nat → α) (k : Nat) (x : α) : va_up f k x k = x := if_pos rfl
/-- a load put on floor i: the rows and the vector behind it -/
def fLay (f : Nat → Nat → Int32) (i : Nat) (m q : Int32) : Nat → Nat → Int32 := va_up (va_up (va_up f 1 (upd (f 1) i m)) 2 (upd (f 2) i q)) 3 (upd (f 3) i 0)
def sLay (s : Nat → Int32) (i : Nat) (m q : Int32) : Nat → Int32 := upd (upd (upd (upd s (15 + 4 * i) m) (16 + 4 * i) q) (17 + 4 * i) 0) 8 (s 8 + m)
theorem k_place {nf i : Nat} (hnf : nf ≤ 4) (hi : i < nf) (f : Nat → Nat → Int32) (m q l : Int32) : F_X3_place (nI i) m q l (nI nf) (f 1) (f 2) (f 3) = some ((), l + m, fLay f i m q 1, fLay f i m q 2, fLay f i m q 3) := by
  have hx : xin (nI i) 4 = true := xin_nI (by omega) (by decide)
  unfold F_X3_place F_X1_place
  rw [k_ex hnf hi, Option.bind_some, if_neg (by decide), if_pos hx, if_pos hx, if_pos hx, Option.bind_some, tnI (by omega)]
  rfl
theorem m_lays {i : Nat} (hi : i < 4) (s : Nat → Int32) (m q : Int32) : F_X12_lays (nI i) m q s = some ((), sLay s i m q) := by
  have h1 : xin (nI (15 + 4 * i)) 130 = true := xin_nI (by omega) (by decide)
  have h2 : xin (nI (16 + 4 * i)) 130 = true := xin_nI (by omega) (by decide)
  have h3 : xin (nI (17 + 4 * i)) 130 = true := xin_nI (by omega) (by decide)
  unfold F_X12_lays
  rw [m_atF1, Option.bind_some, if_pos h1, m_atF2, Option.bind_some, if_pos h2, m_atF3, Option.bind_some, if_pos h3, tnI (k := 15 + 4 * i) (by omega), tnI (k := 16 + 4 * i) (by omega), tnI (k := 17 + 4 * i) (by omega), tn8]
  rw [upd_o _ _ (show 8 ≠ 17 + 4 * i by omega), upd_o _ _ (show 8 ≠ 16 + 4 * i by omega), upd_o _ _ (show 8 ≠ 15 + 4 * i by omega)]
  rfl
theorem sLay_o {s : Nat → Int32} {i : Nat} {m q : Int32} {j : Nat} (h8 : j ≠ 8) (h1 : j ≠ 15 + 4 * i) (h2 : j ≠ 16 + 4 * i) (h3 : j ≠ 17 + 4 * i) : sLay s i m q j = s j := by
  unfold sLay; rw [upd_o _ _ h8, upd_o _ _ h3, upd_o _ _ h2, upd_o _ _ h1]
theorem RF_lay {nf i : Nat} {f : Nat → Nat → Int32} {s : Nat → Int32} {m q : Int32} (hnf : nf ≤ 4) (hi : i < nf) (hF : RF nf f s) (hm : 1 ≤ m ∧ m ≤ 99) (hq : 0 ≤ q ∧ q ≤ 800) : RF nf (fLay f i m q) (sLay s i m q) := fun j hj => by
  obtain ⟨gl, gm, gq, gs, gp, gz⟩ := hF j hj
  have e0 : fLay f i m q 0 = f 0 := rfl
  have e1 : fLay f i m q 1 = upd (f 1) i m := rfl
  have e2 : fLay f i m q 2 = upd (f 2) i q := rfl
  have e3 : fLay f i m q 3 = upd (f 3) i 0 := rfl
  rw [e0, e1, e2, e3, sLay_o (j := 14 + 4 * j) (by omega) (by omega) (by omega) (by omega)]
  by_cases hji : j = i
  · subst hji
    have a1 : sLay s j m q (15 + 4 * j) = m := by unfold sLay; rw [upd_o _ _ (by omega), upd_o _ _ (by omega), upd_o _ _ (by omega), upd_s]
    have a2 : sLay s j m q (16 + 4 * j) = q := by unfold sLay; rw [upd_o _ _ (by omega), upd_o _ _ (by omega), upd_s]
    have a3 : sLay s j m q (17 + 4 * j) = 0 := by unfold sLay; rw [upd_o _ _ (by omega), upd_s]
    rw [a1, a2, a3, upd_s, upd_s, upd_s]
    exact ⟨gl, ⟨rfl, by grind, hm.2⟩, hq, ⟨by decide, by decide⟩, fun _ => ⟨rfl, rfl⟩, fun h => by exfalso; grind⟩
  · rw [sLay_o (j := 15 + 4 * j) (by omega) (by omega) (by omega) (by omega), sLay_o (j := 16 + 4 * j) (by omega) (by omega) (by omega) (by omega), sLay_o (j := 17 + 4 * j) (by omega) (by omega) (by omega) (by omega), upd_o _ _ hji, upd_o _ _ hji, upd_o _ _ hji]
    exact ⟨gl, gm, gq, gs, gp, gz⟩
theorem RH_lay {nf ns i : Nat} {f : Nat → Nat → Int32} {s : Nat → Int32} {m q : Int32} (hi : i < nf) (hR : RH nf ns f s) (hm : 1 ≤ m ∧ m ≤ 99) (hq : 0 ≤ q ∧ q ≤ 800) : RH nf ns (fLay f i m q) (sLay s i m q) := by
  obtain ⟨⟨h6, hn1, hn4⟩, ⟨h7, hns⟩, hh, hA, hF, hS⟩ := hR
  have o := fun (j : Nat) (h8 : j ≠ 8) (h14 : j < 14) => sLay_o (s := s) (i := i) (m := m) (q := q) (j := j) h8 (by omega) (by omega) (by omega)
  refine ⟨⟨(o 6 (by decide) (by decide)).trans h6, hn1, hn4⟩, ⟨(o 7 (by decide) (by decide)).trans h7, hns⟩, by rw [o 1 (by decide) (by decide)]; exact hh, hA.cong (o 2 (by decide) (by decide)) (o 3 (by decide) (by decide)) (o 4 (by decide) (by decide)) (o 5 (by decide) (by decide)), RF_lay hn4 hi hF hm hq, ?_⟩
  exact RS.cong hS (fun j h30 => sLay_o (by omega) (by omega) (by omega) (by omega)) rfl rfl rfl rfl rfl
theorem nI_pm {n : Nat} (h : 1 ≤ n) : nI n - 1 = nI (n - 1) := by
  obtain ⟨k, rfl⟩ : ∃ k, n = k + 1 := ⟨n - 1, by omega⟩
  rw [nI_pred]; rfl
/-- the damper acts, class and model, over a state that stands -/
theorem p_damp {N nf ns : Nat} {f : Nat → Nat → Int32} {s : Nat → Int32} (hN : 1000 ≤ N) (hR : RH nf ns f s) : F_X3_damp N (s 12) (s 1) (s 2) (s 5) (s 3) (s 4) (s 6) (f 0) (f 1) (f 2) = some ((), pDamp nf s 12, pDamp nf s 1) ∧ F_X12_damps N s = some ((), pDamp nf s) := by
  obtain ⟨⟨h6, hn1, hn4⟩, ⟨h7, hns⟩, hh, hA, hF, hS⟩ := hR
  exact ⟨by rw [h6]; exact k_damp hN hn4 hF hA hh, m_damps hN hn4 h6 hF hA hh⟩
theorem k_canPut {nf ns : Nat} {f : Nat → Nat → Int32} {s : Nat → Int32} (hR : RH nf ns f s) : F_X3_canPut (s 6) (f 1) = some (if f 1 (nf - 1) ≤ 0 then 1 else 0) := by
  obtain ⟨⟨h6, hn1, hn4⟩, -⟩ := hR
  unfold F_X3_canPut
  rw [h6, nI_pm hn1, k_taken hn4 (by omega), Option.bind_some]
  by_cases h : f 1 (nf - 1) ≤ 0
  · rw [if_pos h, if_pos h, if_pos rfl]
  · rw [if_neg h, if_neg h, if_neg (by decide)]
theorem m_loadedR {nf ns i : Nat} {f : Nat → Nat → Int32} {s : Nat → Int32} (hR : RH nf ns f s) (hi : i < nf) : F_X12_isLoaded (nI i) s = some (if f 1 i ≤ 0 then 0 else 1) := by
  obtain ⟨⟨h6, hn1, hn4⟩, -, -, -, hF, -⟩ := hR
  rw [m_loaded (by omega), (hF i hi).2.1.1]
theorem p_put {N nf ns : Nat} {f : Nat → Nat → Int32} {s : Nat → Int32} {m q : Int32} (hN : 1000 ≤ N) (hR : RH nf ns f s) (hm : 1 ≤ m ∧ m ≤ 99) (hq : 0 ≤ q ∧ q ≤ 800) :
    ∃ (f' : Nat → Nat → Int32) (s' : Nat → Int32), F_X3_putOnTop N m q (s 12) (s 1) (s 8) (s 2) (s 5) (s 3) (s 4) (s 6) (f 0) (f 1) (f 2) (f 3) = some ((), s' 12, s' 1, s' 8, f' 1, f' 2, f' 3) ∧
      (F_X12_lays (nI (nf - 1)) m q s = some ((), sLay s (nf - 1) m q) ∧ F_X12_damps N (sLay s (nf - 1) m q) = some ((), s')) ∧ RH nf ns f' s' ∧ (f' 0 = f 0 ∧ f' 4 = f 4 ∧ f' 5 = f 5 ∧ f' 6 = f 6 ∧ f' 7 = f 7 ∧ f' 8 = f 8) ∧ (∀ j, j < 14 → j ≠ 1 → j ≠ 8 → j ≠ 12 → s' j = s j) := by
  obtain ⟨⟨h6, hn1, hn4⟩, -⟩ := id hR
  have hR1 := RH_lay (i := nf - 1) (by omega) hR hm hq
  obtain ⟨d1, d2⟩ := p_damp hN hR1
  obtain ⟨hR2, o2⟩ := p_damped hR1
  have o := fun (j : Nat) (h8 : j ≠ 8) (h14 : j < 14) => sLay_o (s := s) (i := nf - 1) (m := m) (q := q) (j := j) h8 (by omega) (by omega) (by omega)
  refine ⟨fLay f (nf - 1) m q, pDamp nf (sLay s (nf - 1) m q), ?_, ⟨m_lays (by omega) s m q, d2⟩, hR2, ⟨rfl, rfl, rfl, rfl, rfl, rfl⟩, fun j h14 h1 h8 h12 => by rw [o2 j h1 h12, o j h8 h14]⟩
  unfold F_X3_putOnTop
  rw [h6, nI_pm hn1, k_place hn4 (by omega), Option.bind_some]
  rw [o 12 (by decide) (by decide), o 1 (by decide) (by decide), o 2 (by decide) (by decide), o 5 (by decide) (by decide), o 3 (by decide) (by decide), o 4 (by decide) (by decide), o 6 (by decide) (by decide), h6] at d1
  show (F_X3_damp N (s 12) (s 1) (s 2) (s 5) (s 3) (s 4) (nI nf) (fLay f (nf - 1) m q 0) (fLay f (nf - 1) m q 1) (fLay f (nf - 1) m q 2)).bind _ = _
  rw [d1, Option.bind_some, o2 8 (by decide) (by decide)]
  rfl
/-- what stands against lowering floor i -/
def pWhy (ns : Nat) (f : Nat → Nat → Int32) (i : Nat) : Int32 := if f 1 i ≤ 0 then 1 else if i = 0 then (if f 2 0 ≤ 100 then (if ns = 20 then 4 else 0) else 3) else (if f 1 (i - 1) ≤ 0 then 0 else 2)
theorem k_why {nf ns i : Nat} {f : Nat → Nat → Int32} {s : Nat → Int32} (hR : RH nf ns f s) (hi : i < nf) : F_X3_obstacle (nI i) (s 6) (f 1) (f 2) (s 7) = some (pWhy ns f i) := by
  obtain ⟨⟨h6, hn1, hn4⟩, ⟨h7, hns⟩, -⟩ := hR
  have hx : xin (nI i) 4 = true := xin_nI (by omega) (by decide)
  unfold F_X3_obstacle pWhy
  rw [h6, h7]
  by_cases h1 : f 1 i ≤ 0
  · rw [show F_X1_isTaken (nI i) (nI nf) (f 1) = some 0 by rw [k_taken hn4 hi, if_pos h1], Option.bind_some, if_pos rfl, if_pos h1]
  · have ht : F_X1_isTaken (nI i) (nI nf) (f 1) = some 1 := by rw [k_taken hn4 hi, if_neg h1]
    rw [ht, Option.bind_some, if_neg (by decide), if_neg h1]
    by_cases h0 : i = 0
    · subst h0
      have hd : F_X1_holdsDryLoad (nI 0) (nI nf) (f 1) (f 2) = some (if f 2 0 ≤ 100 then 1 else 0) := by
        unfold F_X1_holdsDryLoad F_X1_holdsDryLoad_b23
        rw [ht, Option.bind_some, if_neg (by decide), if_pos hx, tnI (by omega)]
        by_cases h2 : 100 < f 2 0
        · rw [if_pos h2, if_neg (by grind)]
        · rw [if_neg h2, if_pos (by grind)]
      rw [if_pos (by decide), if_pos rfl, hd, Option.bind_some]
      by_cases h2 : f 2 0 ≤ 100
      · rw [if_pos h2, if_pos h2, if_neg (by decide)]
        unfold F_X5_isFull
        by_cases h3 : ns = 20
        · rw [if_pos h3, h3, if_neg (by decide), Option.bind_some, if_neg (by decide)]
        · rw [if_neg h3, if_pos (show nI ns < 20 from nI_lt (b := 20) (by omega) (by decide)), Option.bind_some, if_pos rfl]
      · rw [if_neg h2, if_neg h2, if_pos rfl]
    · rw [if_neg (nI_nle (by omega) (by omega)), if_neg h0, nI_pm (by omega), k_taken hn4 (by omega), Option.bind_some]
      by_cases h2 : f 1 (i - 1) ≤ 0
      · rw [if_pos h2, if_pos h2, if_pos rfl]
      · rw [if_neg h2, if_neg h2, if_neg (by decide)]
theorem m_why {nf ns i : Nat} {f : Nat → Nat → Int32} {s : Nat → Int32} (hR : RH nf ns f s) (hi : i < nf) : F_X12_why (nI i) s = some (pWhy ns f i) := by
  obtain ⟨⟨h6, hn1, hn4⟩, ⟨h7, hns⟩, -, -, hF, -⟩ := id hR
  unfold F_X12_why pWhy
  by_cases h1 : f 1 i ≤ 0
  · rw [show F_X12_isLoaded (nI i) s = some 0 by rw [m_loadedR hR hi, if_pos h1], Option.bind_some, if_pos rfl, if_pos h1]
  · rw [show F_X12_isLoaded (nI i) s = some 1 by rw [m_loadedR hR hi, if_neg h1], Option.bind_some, if_neg (by decide), if_neg h1]
    by_cases h0 : i = 0
    · subst h0
      have e2 : s 16 = f 2 0 := ((hF 0 hi).2.2.2.2.1 (by grind)).1
      have o2 : F_X12_onFloor 0 2 s = some (f 2 0) := by rw [← e2]; exact m_on2 (i := 0) (by decide) s
      rw [if_pos (by decide), if_pos rfl, o2, Option.bind_some, tn7, h7]
      by_cases h2 : f 2 0 ≤ 100
      · rw [if_pos h2, if_pos h2]
        by_cases h3 : ns = 20
        · rw [if_pos h3, h3, if_pos (by decide)]
        · rw [if_neg h3, if_neg (show ¬ nI ns = 20 from fun q => h3 ((nI_eq (b := 20) (by omega) (by decide)).mp q))]
      · rw [if_neg h2, if_neg h2]
    · rw [if_neg (nI_nle (by omega) (by omega)), if_neg h0, nI_pm (by omega), m_loadedR hR (by omega), Option.bind_some]
      by_cases h2 : f 1 (i - 1) ≤ 0
      · rw [if_pos h2, if_pos h2, if_pos rfl]
      · rw [if_neg h2, if_neg h2, if_neg (by decide)]
