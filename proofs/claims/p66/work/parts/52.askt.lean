/-! PURE: dryness, sacks, loops over floors and sacks -/
section ASKT
variable {N nf ns : Nat} {f : Nat → Nat → Int32} {s : Nat → Int32}
theorem p_isDry (hR : RH nf ns f s) (a th : Int32) : Ans (F_X11_isDry a (s 6) (f 1) (f 2)) (F_X12_isDry a th s) := by
  obtain ⟨⟨h6, hn1, hn4⟩, -, -, -, hF, -⟩ := id hR
  rcases i_of (n := nf) (by omega) a with ⟨i, hi, rfl⟩ | ⟨h1, h2⟩
  · left
    have hx : xin (nI i) 4 = true := xin_nI (by omega) (by decide)
    have ek : F_X11_isDry (nI i) (s 6) (f 1) (f 2) = (F_X1_holdsDryLoad (nI i) (nI nf) (f 1) (f 2)).bind fun x6 => (if x6 &&& 1 = x6 then some (Sum.inr x6) else none) := by
      unfold F_X11_isDry; rw [h6, rq_in hn4 hi, Option.bind_some]; rfl
    have em : F_X12_isDry (nI i) th s = (F_X12_isDryNow (nI i) s).bind fun x3 => (if x3 = 0 then F_X12_isDry_b25 0 else some (1, 0)) := by
      unfold F_X12_isDry; rw [no_in h6 hn4 hi, Option.bind_some, if_pos rfl]
    by_cases q : f 1 i ≤ 0
    · refine ⟨0, ?_, ?_⟩
      · rw [ek]; unfold F_X1_holdsDryLoad; rw [k_taken hn4 hi, Option.bind_some, if_pos q, if_pos rfl]; rfl
      · rw [em]; unfold F_X12_isDryNow; rw [m_loadedR hR hi, Option.bind_some, if_pos q, if_pos rfl]; rfl
    · have e2 := ((hF i hi).2.2.2.2.1 (by grind)).1
      by_cases d : 100 < f 2 i
      · refine ⟨0, ?_, ?_⟩
        · rw [ek]; unfold F_X1_holdsDryLoad; rw [k_taken hn4 hi, Option.bind_some, if_neg q, if_neg (by decide), if_pos hx, tnI (by omega), if_pos d]; rfl
        · rw [em]; unfold F_X12_isDryNow; rw [m_loadedR hR hi, Option.bind_some, if_neg q, if_neg (by decide), m_on2 (by omega), e2, Option.bind_some, if_pos d]; rfl
      · refine ⟨1, ?_, ?_⟩
        · rw [ek]; unfold F_X1_holdsDryLoad; rw [k_taken hn4 hi, Option.bind_some, if_neg q, if_neg (by decide), if_pos hx, tnI (by omega), if_neg d]; rfl
        · rw [em]; unfold F_X12_isDryNow; rw [m_loadedR hR hi, Option.bind_some, if_neg q, if_neg (by decide), m_on2 (by omega), e2, Option.bind_some, if_neg d]; rfl
  · right; left
    refine ⟨by unfold F_X11_isDry; rw [h6, rq_out h2]; rfl, ?_⟩
    unfold F_X12_isDry F_X12_isDry_b25; rw [no_out h6 h1, Option.bind_some, if_neg (by decide)]
theorem p_dryingOn (hN : 1000 ≤ N) (hR : RH nf ns f s) (a th : Int32) : Ans (F_X11_dryingOn N a (s 1) (s 2) (s 5) (s 3) (s 4) (s 6) (f 1) (f 2)) (F_X12_dryingOn N a th s) := by
  obtain ⟨⟨h6, hn1, hn4⟩, -, -, -, hF, -⟩ := id hR
  rcases i_of (n := nf) (by omega) a with ⟨i, hi, rfl⟩ | ⟨h1, h2⟩
  · left
    refine ⟨if f 1 i ≤ 0 then 0 else if f 2 i ≤ pX (pT s i) (pD s) then f 2 i else pX (pT s i) (pD s), ?_, ?_⟩
    · have ek : F_X11_dryingOn N (nI i) (s 1) (s 2) (s 5) (s 3) (s 4) (s 6) (f 1) (f 2) = (F_X3_dryingNow N (nI i) (s 1) (s 2) (s 5) (s 3) (s 4) (nI nf) (f 1) (f 2)).bind fun x6 => some (Sum.inr x6) := by
        unfold F_X11_dryingOn; rw [h6, rq_in hn4 hi, Option.bind_some]; rfl
      rw [ek]; unfold F_X3_dryingNow
      rw [k_d, Option.bind_some, k_t hN hn4 (by omega) hF, Option.bind_some, k_dec hn4 hi, Option.bind_some, Option.bind_some]
    · unfold F_X12_dryingOn F_X12_dryingOn_b21
      rw [no_in h6 hn4 hi, Option.bind_some, if_pos rfl, m_loadedR hR hi, Option.bind_some]
      by_cases q : f 1 i ≤ 0
      · rw [if_pos q, if_pos rfl, if_pos q]
      · rw [if_neg q, if_neg (by decide), m_deg hN (by omega), Option.bind_some, m_d, Option.bind_some, m_dries (by omega), Option.bind_some, if_neg q, ((hF i hi).2.2.2.2.1 (by grind)).1]
  · right; left
    refine ⟨by unfold F_X11_dryingOn; rw [h6, rq_out h2]; rfl, ?_⟩
    unfold F_X12_dryingOn F_X12_dryingOn_b21; rw [no_out h6 h1, Option.bind_some, if_neg (by decide)]
theorem p_askedS {k : Int32} {g : Nat → Int32} (hR : RH nf ns f s) (hm : ∀ i, i < ns → F_X12_of (nI i) k s = some (g i)) (K : Int32 → Option (Nat ⊕ Int32)) (hi' : ∀ i, i < ns → K (nI i) = some (Sum.inr (g i))) (ho' : ∀ a, (a < 0 ∨ nI ns ≤ a) → K a = some (Sum.inl 2)) (a th : Int32) (M : Option (Int32 × Int32)) (hM : M = (F_X12_askedSack a k th s).bind fun x1 => some (x1.1, x1.2)) : Ans (K a) M := by
  obtain ⟨-, ⟨h7, hns⟩, -⟩ := hR
  subst hM
  rcases i_of (n := ns) hns a with ⟨i, hi, rfl⟩ | ⟨h1, h2⟩
  · left
    refine ⟨g i, hi' i hi, ?_⟩
    unfold F_X12_askedSack; rw [nS_in h7 hns hi, Option.bind_some, if_pos rfl, hm i hi, Option.bind_some, Option.bind_some]
  · right; left
    refine ⟨ho' a h2, ?_⟩
    unfold F_X12_askedSack; rw [nS_out h7 h1, Option.bind_some, if_neg (by decide), Option.bind_some]
theorem p_sackState (hR : RH nf ns f s) (a th : Int32) : Ans (F_X11_sackState a (s 7) (f 4)) (F_X12_sackState a th s) := by
  obtain ⟨-, ⟨h7, hns⟩, -, -, -, hS⟩ := id hR
  exact p_askedS (k := 0) (g := f 4) hR (fun i hi => by rw [m_of0 (by omega), (hS i hi).1]) (fun a => F_X11_sackState a (s 7) (f 4)) (fun i hi => by unfold F_X11_sackState; rw [h7, rS_in hns hi, Option.bind_some]; show (if xin (nI i) 20 = true then _ else _) = _; rw [if_pos (xin_nI (by omega) (by decide)), tnI (by omega)]) (fun a ha => by unfold F_X11_sackState; rw [h7, rS_out ha]; rfl) a th _ rfl
theorem p_sackMass (hR : RH nf ns f s) (a th : Int32) : Ans (F_X11_sackMass a (s 7) (f 5)) (F_X12_sackMass a th s) := by
  obtain ⟨-, ⟨h7, hns⟩, -, -, -, hS⟩ := id hR
  exact p_askedS (k := 1) (g := f 5) hR (fun i hi => by rw [m_of1 (by omega), (hS i hi).2.1.1]) (fun a => F_X11_sackMass a (s 7) (f 5)) (fun i hi => by unfold F_X11_sackMass; rw [h7, rS_in hns hi, Option.bind_some]; show (if xin (nI i) 20 = true then _ else _) = _; rw [if_pos (xin_nI (by omega) (by decide)), tnI (by omega)]) (fun a ha => by unfold F_X11_sackMass; rw [h7, rS_out ha]; rfl) a th _ rfl
theorem p_sackMoisture (hR : RH nf ns f s) (a th : Int32) : Ans (F_X11_sackMoisture a (s 7) (f 6)) (F_X12_sackMoisture a th s) := by
  obtain ⟨-, ⟨h7, hns⟩, -, -, -, hS⟩ := id hR
  exact p_askedS (k := 2) (g := f 6) hR (fun i hi => by rw [m_of2 (by omega), (hS i hi).2.2.1.1]) (fun a => F_X11_sackMoisture a (s 7) (f 6)) (fun i hi => by unfold F_X11_sackMoisture; rw [h7, rS_in hns hi, Option.bind_some]; show (if xin (nI i) 20 = true then _ else _) = _; rw [if_pos (xin_nI (by omega) (by decide)), tnI (by omega)]) (fun a ha => by unfold F_X11_sackMoisture; rw [h7, rS_out ha]; rfl) a th _ rfl
theorem p_sackTemperature (hR : RH nf ns f s) (a th : Int32) : Ans (F_X11_sackTemperature a (s 7) (f 8)) (F_X12_sackTemperature a th s) := by
  obtain ⟨-, ⟨h7, hns⟩, -, -, -, hS⟩ := id hR
  exact p_askedS (k := 4) (g := f 8) hR (fun i hi => by rw [m_of4 (by omega), (hS i hi).2.2.2.2.1]) (fun a => F_X11_sackTemperature a (s 7) (f 8)) (fun i hi => by unfold F_X11_sackTemperature; rw [h7, rS_in hns hi, Option.bind_some]; show (if xin (nI i) 20 = true then _ else _) = _; rw [if_pos (xin_nI (by omega) (by decide)), tnI (by omega)]) (fun a ha => by unfold F_X11_sackTemperature; rw [h7, rS_out ha]; rfl) a th _ rfl
theorem p_isSmouldering (hR : RH nf ns f s) (a th : Int32) : Ans (F_X11_isSmouldering a (s 7) (f 6) (f 4) (f 8)) (F_X12_isSmouldering a th s) := by
  obtain ⟨-, ⟨h7, hns⟩, -, -, -, hS⟩ := id hR
  rcases i_of (n := ns) hns a with ⟨i, hi, rfl⟩ | ⟨h1, h2⟩
  · left
    have ek : F_X11_isSmouldering (nI i) (s 7) (f 6) (f 4) (f 8) = (F_X5_smoulders (nI i) (nI ns) (f 6) (f 4) (f 8)).bind fun x6 => (if x6 &&& 1 = x6 then some (Sum.inr x6) else none) := by
      unfold F_X11_isSmouldering; rw [h7, rS_in hns hi, Option.bind_some]; rfl
    have em : F_X12_isSmouldering (nI i) th s = (F_X12_smoulders (nI i) s).bind fun x3 => (if x3 = 0 then F_X12_isSmouldering_b25 0 else some (1, 0)) := by
      unfold F_X12_isSmouldering; rw [nS_in h7 hns hi, Option.bind_some, if_pos rfl]
    have e0 := (hS i hi).1
    have e2 := (hS i hi).2.2.1.1
    have e4 := (hS i hi).2.2.2.2.1
    rw [k_smo hns hi] at ek
    rw [m_smo (by omega), e0, e2, e4] at em
    by_cases q : f 4 i = 0 ∧ f 6 i < 60 ∧ 50 ≤ f 8 i
    · rw [if_pos q] at ek em
      exact ⟨1, ek, em⟩
    · rw [if_neg q] at ek em
      exact ⟨0, ek, em⟩
  · right; left
    refine ⟨by unfold F_X11_isSmouldering; rw [h7, rS_out h2]; rfl, ?_⟩
    unfold F_X12_isSmouldering F_X12_isSmouldering_b25; rw [nS_out h7 h1, Option.bind_some, if_neg (by decide)]
theorem p_qualityOf (hR : RH nf ns f s) (a th : Int32) : Ans (F_X11_qualityOf a (s 7) (f 6) (f 7)) (F_X12_qualityOf a th s) := by
  obtain ⟨-, ⟨h7, hns⟩, -, -, -, hS⟩ := id hR
  rcases i_of (n := ns) hns a with ⟨i, hi, rfl⟩ | ⟨h1, h2⟩
  · left
    refine ⟨pQ f i, ?_, ?_⟩
    · unfold F_X11_qualityOf; rw [h7, rS_in hns hi, Option.bind_some]; show (F_X5_quality (nI i) (nI ns) (f 6) (f 7)).bind _ = _; rw [k_quality hns hi, Option.bind_some]
    · unfold F_X12_qualityOf; rw [nS_in h7 hns hi, Option.bind_some, if_pos rfl, m_quality (by omega) (hS i hi).2.2.1.1 (hS i hi).2.2.2.1.1, Option.bind_some]
  · right; left
    refine ⟨by unfold F_X11_qualityOf; rw [h7, rS_out h2]; rfl, ?_⟩
    unfold F_X12_qualityOf; rw [nS_out h7 h1, Option.bind_some, if_neg (by decide)]
theorem p_priceOf (hR : RH nf ns f s) (a th : Int32) : Ans (F_X11_priceOf a (s 7) (f 5) (f 6) (f 7)) (F_X12_priceOf a th s) := by
  obtain ⟨-, ⟨h7, hns⟩, -, -, -, hS⟩ := id hR
  rcases i_of (n := ns) hns a with ⟨i, hi, rfl⟩ | ⟨h1, h2⟩
  · left
    refine ⟨pPr f i, ?_, ?_⟩
    · unfold F_X11_priceOf; rw [h7, rS_in hns hi, Option.bind_some]; show (F_X5_price (nI i) (nI ns) (f 5) (f 6) (f 7)).bind _ = _; rw [k_price hns hi, Option.bind_some]
    · unfold F_X12_priceOf; rw [nS_in h7 hns hi, Option.bind_some, if_pos rfl, m_price (by omega) (hS i hi).2.1.1 (hS i hi).2.2.1.1 (hS i hi).2.2.2.1.1, Option.bind_some]
  · right; left
    refine ⟨by unfold F_X11_priceOf; rw [h7, rS_out h2]; rfl, ?_⟩
    unfold F_X12_priceOf; rw [nS_out h7 h1, Option.bind_some, if_neg (by decide)]
/-- the warmest floor, of i floors -/
def pWm (s : Nat → Int32) : Nat → Nat
  | 0 => 0
  | i + 1 => if pT s i ≤ pT s (pWm s i) then pWm s i else i
theorem pWm_lt (s : Nat → Int32) : ∀ i, 1 ≤ i → pWm s i < i := by
  intro i
  induction i with
  | zero => intro h; omega
  | succ i ih =>
    intro _
    show (if pT s i ≤ pT s (pWm s i) then pWm s i else i) < i + 1
    split
    · by_cases h : i = 0
      · subst h; show 0 < 1; omega
      · have := ih (by omega); omega
    · omega
end ASKT
