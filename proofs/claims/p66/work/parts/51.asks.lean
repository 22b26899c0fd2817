/-! PURE: what is asked of a floor or a sack -/
/-- one answer, or one throw: 2 and 3 of the class are the model's 1 and 2 -/
def Ans (k : Option (Nat ⊕ Int32)) (m : Option (Int32 × Int32)) : Prop := (∃ v, k = some (Sum.inr v) ∧ m = some (v, 0)) ∨ (k = some (Sum.inl 2) ∧ m = some (0, 1)) ∨ (k = some (Sum.inl 3) ∧ m = some (0, 2))
theorem i_of {n : Nat} (hn : n ≤ 20) (a : Int32) : (∃ i, i < n ∧ a = nI i) ∨ (¬ (0 ≤ a ∧ a ≤ nI n - 1) ∧ (a < 0 ∨ nI n ≤ a)) := by
  by_cases h : 0 ≤ a ∧ a < nI n
  · left
    obtain ⟨k, hk, e⟩ := n_of (x := a) (n := n) (by omega) h.1 (by grind)
    refine ⟨k, ?_, e⟩
    have h2 := h.2
    rw [e] at h2
    exact (nI_ltI (by omega) (by omega)).mp h2
  · right
    have hb : nI n ≤ 20 := nI_le (b := 20) hn (by decide)
    have hb0 : 0 ≤ nI n := nI_le (a := 0) (Nat.zero_le _) (by omega)
    constructor
    · intro q; apply h; exact ⟨q.1, by grind⟩
    · by_cases h0 : a < 0
      · exact Or.inl h0
      · exact Or.inr (by grind)
theorem rq_in {nf i : Nat} (hnf : nf ≤ 4) (hi : i < nf) : F_X11_requireFloor (nI i) (nI nf) = some (Sum.inr ()) := by unfold F_X11_requireFloor; rw [k_ex hnf hi, Option.bind_some, if_neg (by decide)]
theorem rq_out {nf : Nat} {a : Int32} (ha : a < 0 ∨ nI nf ≤ a) : F_X11_requireFloor a (nI nf) = some (Sum.inl 2) := by
  unfold F_X11_requireFloor F_X1_exists F_X1_exists_b16
  by_cases h : a < 0
  · rw [if_pos h, Option.bind_some, if_pos rfl]
  · rw [if_neg h, if_pos (ha.resolve_left h), Option.bind_some, if_pos rfl]
theorem nf_in {n i : Nat} (hn : n ≤ 20) (hi : i < n) : (0 ≤ nI i ∧ nI i ≤ nI n - 1) := by
  rw [nI_pm (by omega)]
  exact ⟨nI_le (a := 0) (Nat.zero_le _) (by omega), nI_le (by omega) (by omega)⟩
theorem no_in {nf i : Nat} {s : Nat → Int32} (h6 : s 6 = nI nf) (hnf : nf ≤ 4) (hi : i < nf) : F_X12_noFloor (nI i) 0 s = some (0, 0) := by
  unfold F_X12_noFloor; rw [tn6, h6, m_in0, if_pos (nf_in (by omega) hi), Option.bind_some, if_neg (by decide)]; rfl
theorem no_out {nf : Nat} {a : Int32} {s : Nat → Int32} (h6 : s 6 = nI nf) (ha : ¬ (0 ≤ a ∧ a ≤ nI nf - 1)) : F_X12_noFloor a 0 s = some (1, 1) := by
  unfold F_X12_noFloor; rw [tn6, h6, m_in0, if_neg ha, Option.bind_some, if_pos rfl]; rfl
theorem rS_in {ns k : Nat} (hns : ns ≤ 20) (hk : k < ns) : F_X11_requireSack (nI k) (nI ns) = some (Sum.inr ()) := by unfold F_X11_requireSack; rw [k_exS hns hk, Option.bind_some, if_neg (by decide)]
theorem rS_out {ns : Nat} {a : Int32} (ha : a < 0 ∨ nI ns ≤ a) : F_X11_requireSack a (nI ns) = some (Sum.inl 2) := by
  unfold F_X11_requireSack F_X5_exists F_X5_exists_b16
  by_cases h : a < 0
  · rw [if_pos h, Option.bind_some, if_pos rfl]
  · rw [if_neg h, if_pos (ha.resolve_left h), Option.bind_some, if_pos rfl]
theorem nS_in {ns k : Nat} {s : Nat → Int32} (h7 : s 7 = nI ns) (hns : ns ≤ 20) (hk : k < ns) : F_X12_noSack (nI k) 0 s = some (0, 0) := by
  unfold F_X12_noSack; rw [tn7, h7, m_in0, if_pos (nf_in hns hk), Option.bind_some, if_neg (by decide)]; rfl
theorem nS_out {ns : Nat} {a : Int32} {s : Nat → Int32} (h7 : s 7 = nI ns) (ha : ¬ (0 ≤ a ∧ a ≤ nI ns - 1)) : F_X12_noSack a 0 s = some (1, 1) := by
  unfold F_X12_noSack; rw [tn7, h7, m_in0, if_neg ha, Option.bind_some, if_pos rfl]; rfl
section ASKS
variable {N nf ns : Nat} {f : Nat → Nat → Int32} {s : Nat → Int32}
theorem p_asked {k : Int32} {g : Nat → Int32} {o : Nat} (hR : RH nf ns f s) (hm : ∀ i, i < nf → F_X12_onFloor (nI i) k s = some (g i)) (K : Int32 → Option (Nat ⊕ Int32)) (hi' : ∀ i, i < nf → K (nI i) = some (Sum.inr (g i))) (ho' : ∀ a, (a < 0 ∨ nI nf ≤ a) → K a = some (Sum.inl 2)) (a th : Int32) : Ans (K a) (F_X12_asked a k th s) := by
  obtain ⟨⟨h6, hn1, hn4⟩, -⟩ := hR
  rcases i_of (n := nf) (by omega) a with ⟨i, hi, rfl⟩ | ⟨h1, h2⟩
  · left
    refine ⟨g i, hi' i hi, ?_⟩
    unfold F_X12_asked; rw [no_in h6 hn4 hi, Option.bind_some, if_pos rfl, hm i hi, Option.bind_some]
  · right; left
    refine ⟨ho' a h2, ?_⟩
    unfold F_X12_asked; rw [no_out h6 h1, Option.bind_some, if_neg (by decide)]
theorem p_massOn (hR : RH nf ns f s) (a th : Int32) : Ans (F_X11_massOn a (s 6) (f 1)) (F_X12_massOn a th s) := by
  obtain ⟨⟨h6, hn1, hn4⟩, -, -, -, hF, -⟩ := id hR
  have := p_asked (k := 1) (g := f 1) (o := 0) hR (fun i hi => by rw [m_on1 (by omega), (hF i hi).2.1.1]) (fun a => F_X11_massOn a (s 6) (f 1)) (fun i hi => by unfold F_X11_massOn; rw [h6, rq_in hn4 hi, Option.bind_some]; show (if xin (nI i) 4 = true then _ else _) = _; rw [if_pos (xin_nI (by omega) (by decide)), tnI (by omega)]) (fun a ha => by unfold F_X11_massOn; rw [h6, rq_out ha]; rfl) a th
  unfold F_X12_massOn
  rcases this with ⟨v, e1, e2⟩ | ⟨e1, e2⟩ | ⟨e1, e2⟩
  · exact Or.inl ⟨v, e1, by rw [e2]; rfl⟩
  · exact Or.inr (Or.inl ⟨e1, by rw [e2]; rfl⟩)
  · exact Or.inr (Or.inr ⟨e1, by rw [e2]; rfl⟩)
theorem p_temperatureOf (hN : 1000 ≤ N) (hR : RH nf ns f s) (a th : Int32) : Ans (F_X11_temperatureOf N a (s 1) (s 2) (s 5) (s 3) (s 4) (s 6) (f 1) (f 2)) (F_X12_temperatureOf N a th s) := by
  obtain ⟨⟨h6, hn1, hn4⟩, -, -, -, hF, -⟩ := hR
  rcases i_of (n := nf) (by omega) a with ⟨i, hi, rfl⟩ | ⟨h1, h2⟩
  · left
    refine ⟨pT s i, ?_, ?_⟩
    · unfold F_X11_temperatureOf; rw [h6, rq_in hn4 hi, Option.bind_some]; show (F_X3_temperatureNow N (nI i) (s 1) (s 2) (s 5) (s 3) (s 4) (nI nf) (f 1) (f 2)).bind _ = _; rw [k_tn hN hn4 (by omega) hF, Option.bind_some]
    · unfold F_X12_temperatureOf; rw [no_in h6 hn4 hi, Option.bind_some, if_pos rfl, m_deg hN (by omega), Option.bind_some]
  · right; left
    refine ⟨by unfold F_X11_temperatureOf; rw [h6, rq_out h2]; rfl, ?_⟩
    unfold F_X12_temperatureOf; rw [no_out h6 h1, Option.bind_some, if_neg (by decide)]
theorem p_hasLoad (hR : RH nf ns f s) (a th : Int32) : Ans (F_X11_hasLoad a (s 6) (f 1)) (F_X12_hasLoad a th s) := by
  obtain ⟨⟨h6, hn1, hn4⟩, -, -, -, hF, -⟩ := id hR
  rcases i_of (n := nf) (by omega) a with ⟨i, hi, rfl⟩ | ⟨h1, h2⟩
  · left
    refine ⟨if f 1 i ≤ 0 then 0 else 1, ?_, ?_⟩
    · unfold F_X11_hasLoad; rw [h6, rq_in hn4 hi, Option.bind_some]; show (F_X1_isTaken (nI i) (nI nf) (f 1)).bind _ = _; rw [k_taken hn4 hi, Option.bind_some]
      by_cases q : f 1 i ≤ 0
      · rw [if_pos q]; rfl
      · rw [if_neg q]; rfl
    · unfold F_X12_hasLoad F_X12_hasLoad_b25; rw [no_in h6 hn4 hi, Option.bind_some, if_pos rfl, m_loadedR hR hi, Option.bind_some]
      by_cases q : f 1 i ≤ 0
      · rw [if_pos q]; rfl
      · rw [if_neg q]; rfl
  · right; left
    refine ⟨by unfold F_X11_hasLoad; rw [h6, rq_out h2]; rfl, ?_⟩
    unfold F_X12_hasLoad F_X12_hasLoad_b25; rw [no_out h6 h1, Option.bind_some, if_neg (by decide)]
theorem rL_in {nf i : Nat} (hnf : nf ≤ 4) (hi : i < nf) (g : Nat → Int32) : F_X11_requireLoad (nI i) (nI nf) g = some (if g i ≤ 0 then Sum.inl 3 else Sum.inr ()) := by
  unfold F_X11_requireLoad; rw [k_taken hnf hi, Option.bind_some]
  by_cases q : g i ≤ 0
  · rw [if_pos q, if_pos q]; rfl
  · rw [if_neg q, if_neg q]; rfl
theorem p_askedLoad {k : Int32} {g : Nat → Int32} (hR : RH nf ns f s) (hm : ∀ i, i < nf → 0 < f 1 i → F_X12_onFloor (nI i) k s = some (g i)) (a th : Int32) :
    (∃ i, i < nf ∧ a = nI i ∧ 0 < f 1 i ∧ F_X12_askedLoad a k th s = some (g i, 0)) ∨ (∃ i, i < nf ∧ a = nI i ∧ f 1 i ≤ 0 ∧ F_X12_askedLoad a k th s = some (0, 2)) ∨ ((a < 0 ∨ nI nf ≤ a) ∧ F_X12_askedLoad a k th s = some (0, 1)) := by
  obtain ⟨⟨h6, hn1, hn4⟩, -⟩ := id hR
  unfold F_X12_askedLoad F_X12_askedLoad_b27 F_X12_askedLoad_b34
  rcases i_of (n := nf) (by omega) a with ⟨i, hi, rfl⟩ | ⟨h1, h2⟩
  · rw [no_in h6 hn4 hi, Option.bind_some, if_pos rfl, m_loadedR hR hi, Option.bind_some]
    by_cases q : f 1 i ≤ 0
    · right; left
      refine ⟨i, hi, rfl, q, ?_⟩
      rw [if_pos q, if_pos rfl]; rfl
    · left
      refine ⟨i, hi, rfl, by grind, ?_⟩
      rw [if_neg q, if_neg (by decide)]
      show (some ((0 : Int32), (0 : Int32))).bind _ = _
      rw [Option.bind_some, if_pos rfl, hm i hi (by grind), Option.bind_some]
  · right; right
    refine ⟨h2, ?_⟩
    rw [no_out h6 h1, Option.bind_some, if_neg (by decide)]
theorem p_moistureOn (hR : RH nf ns f s) (a th : Int32) : Ans (F_X11_moistureOn a (s 6) (f 1) (f 2)) (F_X12_moistureOn a th s) := by
  obtain ⟨⟨h6, hn1, hn4⟩, -, -, -, hF, -⟩ := id hR
  unfold F_X12_moistureOn
  rcases p_askedLoad (k := 2) (g := f 2) hR (fun i hi q => by rw [m_on2 (by omega), ((hF i hi).2.2.2.2.1 q).1]) a th with ⟨i, hi, rfl, q, e⟩ | ⟨i, hi, rfl, q, e⟩ | ⟨q, e⟩
  · refine Or.inl ⟨f 2 i, ?_, by rw [e]; rfl⟩
    unfold F_X11_moistureOn; rw [h6, rq_in hn4 hi, Option.bind_some]; show (F_X11_requireLoad (nI i) (nI nf) (f 1)).bind _ = _; rw [rL_in hn4 hi, if_neg (by grind), Option.bind_some]; show (if xin (nI i) 4 = true then _ else _) = _; rw [if_pos (xin_nI (by omega) (by decide)), tnI (by omega)]
  · refine Or.inr (Or.inr ⟨?_, by rw [e]; rfl⟩)
    unfold F_X11_moistureOn; rw [h6, rq_in hn4 hi, Option.bind_some]; show (F_X11_requireLoad (nI i) (nI nf) (f 1)).bind _ = _; rw [rL_in hn4 hi, if_pos q]; rfl
  · exact Or.inr (Or.inl ⟨by unfold F_X11_moistureOn; rw [h6, rq_out q]; rfl, by rw [e]; rfl⟩)
theorem p_scorchOn (hR : RH nf ns f s) (a th : Int32) : Ans (F_X11_scorchOn a (s 6) (f 1) (f 3)) (F_X12_scorchOn a th s) := by
  obtain ⟨⟨h6, hn1, hn4⟩, -, -, -, hF, -⟩ := id hR
  unfold F_X12_scorchOn
  rcases p_askedLoad (k := 3) (g := f 3) hR (fun i hi q => by rw [m_on3 (by omega), ((hF i hi).2.2.2.2.1 q).2]) a th with ⟨i, hi, rfl, q, e⟩ | ⟨i, hi, rfl, q, e⟩ | ⟨q, e⟩
  · refine Or.inl ⟨f 3 i, ?_, by rw [e]; rfl⟩
    unfold F_X11_scorchOn; rw [h6, rq_in hn4 hi, Option.bind_some]; show (F_X11_requireLoad (nI i) (nI nf) (f 1)).bind _ = _; rw [rL_in hn4 hi, if_neg (by grind), Option.bind_some]; show (if xin (nI i) 4 = true then _ else _) = _; rw [if_pos (xin_nI (by omega) (by decide)), tnI (by omega)]
  · refine Or.inr (Or.inr ⟨?_, by rw [e]; rfl⟩)
    unfold F_X11_scorchOn; rw [h6, rq_in hn4 hi, Option.bind_some]; show (F_X11_requireLoad (nI i) (nI nf) (f 1)).bind _ = _; rw [rL_in hn4 hi, if_pos q]; rfl
  · exact Or.inr (Or.inl ⟨by unfold F_X11_scorchOn; rw [h6, rq_out q]; rfl, by rw [e]; rfl⟩)
theorem p_obstacle (hR : RH nf ns f s) (a th : Int32) : Ans (F_X11_obstacleToLower a (s 6) (f 1) (f 2) (s 7)) (F_X12_obstacleToLower a th s) := by
  obtain ⟨⟨h6, hn1, hn4⟩, -⟩ := id hR
  rcases i_of (n := nf) (by omega) a with ⟨i, hi, rfl⟩ | ⟨h1, h2⟩
  · left
    refine ⟨pWhy ns f i, ?_, ?_⟩
    · have e := k_why hR hi
      unfold F_X11_obstacleToLower
      rw [show F_X11_requireFloor (nI i) (s 6) = some (Sum.inr ()) by rw [h6]; exact rq_in hn4 hi, Option.bind_some]; show (F_X3_obstacle (nI i) (s 6) (f 1) (f 2) (s 7)).bind _ = _; rw [e, Option.bind_some]
    · unfold F_X12_obstacleToLower; rw [no_in h6 hn4 hi, Option.bind_some, if_pos rfl, m_why hR hi, Option.bind_some]
  · right; left
    refine ⟨by unfold F_X11_obstacleToLower; rw [show F_X11_requireFloor a (s 6) = some (Sum.inl 2) by rw [h6]; exact rq_out h2]; rfl, ?_⟩
    unfold F_X12_obstacleToLower; rw [no_out h6 h1, Option.bind_some, if_neg (by decide)]
theorem p_deviation (s : Nat → Int32) (th : Int32) : F_X11_deviation (s 5) (s 3) = some (pDv s) ∧ F_X12_deviation th s = some (pDv s, 0) := ⟨by unfold F_X11_deviation; rw [k_dv]; rfl, by unfold F_X12_deviation; rw [m_dv]; rfl⟩
theorem p_draught (s : Nat → Int32) (th : Int32) : F_X11_draught (s 2) (s 5) (s 3) (s 4) = some (pD s) ∧ F_X12_draught th s = some (pD s, 0) := ⟨by unfold F_X11_draught; rw [k_d]; rfl, by unfold F_X12_draught; rw [m_d]; rfl⟩
end ASKS
