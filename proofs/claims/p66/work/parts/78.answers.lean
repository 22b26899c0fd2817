/-! PURE: what the class answers, in the numbers of the house alone -/
section ANSW
variable {N nf ns : Nat} {f : Nat → Nat → Int32} {s : Nat → Int32}
theorem e_f1 (hR : RH nf ns f s) {i : Nat} (hi : i < nf) : (f 1 i ≤ 0 ↔ s (15 + 4 * i) = 0) ∧ s (15 + 4 * i) = f 1 i := by
  obtain ⟨-, -, -, -, hF, -⟩ := hR
  obtain ⟨-, ⟨h1, h2, h3⟩, -⟩ := hF i hi
  exact ⟨⟨fun q => by rw [h1]; exact Int32.le_antisymm q h2, fun q => by rw [← h1, q]; decide⟩, h1⟩
theorem a_temp (hN : 1000 ≤ N) (hR : RH nf ns f s) {i : Nat} (hi : i < nf) : F_X11_temperatureOf N (nI i) (s 1) (s 2) (s 5) (s 3) (s 4) (s 6) (f 1) (f 2) = some (Sum.inr (pT s i)) := by
  obtain ⟨⟨h6, hn1, hn4⟩, -, -, -, hF, -⟩ := hR
  unfold F_X11_temperatureOf; rw [h6, rq_in hn4 hi, Option.bind_some]; show (F_X3_temperatureNow N (nI i) (s 1) (s 2) (s 5) (s 3) (s 4) (nI nf) (f 1) (f 2)).bind _ = _; rw [k_tn hN hn4 (by omega) hF, Option.bind_some]
theorem a_hasLoad (hR : RH nf ns f s) {i : Nat} (hi : i < nf) : F_X11_hasLoad (nI i) (s 6) (f 1) = some (Sum.inr (if s (15 + 4 * i) = 0 then 0 else 1)) := by
  have e := e_f1 hR hi
  obtain ⟨⟨h6, hn1, hn4⟩, -⟩ := hR
  unfold F_X11_hasLoad; rw [h6, rq_in hn4 hi, Option.bind_some]; show (F_X1_isTaken (nI i) (nI nf) (f 1)).bind _ = _; rw [k_taken hn4 hi, Option.bind_some]
  by_cases q : f 1 i ≤ 0
  · rw [if_pos q, if_pos (e.1.mp q)]; rfl
  · rw [if_neg q, if_neg (fun z => q (e.1.mpr z))]; rfl
theorem a_massOn (hR : RH nf ns f s) {i : Nat} (hi : i < nf) : F_X11_massOn (nI i) (s 6) (f 1) = some (Sum.inr (s (15 + 4 * i))) := by
  have e := e_f1 hR hi
  obtain ⟨⟨h6, hn1, hn4⟩, -⟩ := hR
  unfold F_X11_massOn; rw [h6, rq_in hn4 hi, Option.bind_some]; show (if xin (nI i) 4 = true then _ else _) = _; rw [if_pos (xin_nI (by omega) (by decide)), tnI (by omega), e.2]
theorem a_moistureOn (hR : RH nf ns f s) {i : Nat} (hi : i < nf) (hl : ¬ s (15 + 4 * i) = 0) : F_X11_moistureOn (nI i) (s 6) (f 1) (f 2) = some (Sum.inr (s (16 + 4 * i))) := by
  have e := e_f1 hR hi
  obtain ⟨⟨h6, hn1, hn4⟩, -, -, -, hF, -⟩ := hR
  have q : ¬ f 1 i ≤ 0 := fun z => hl (e.1.mp z)
  unfold F_X11_moistureOn; rw [h6, rq_in hn4 hi, Option.bind_some]; show (F_X11_requireLoad (nI i) (nI nf) (f 1)).bind _ = _; rw [rL_in hn4 hi, if_neg q, Option.bind_some]; show (if xin (nI i) 4 = true then _ else _) = _; rw [if_pos (xin_nI (by omega) (by decide)), tnI (by omega), ((hF i hi).2.2.2.2.1 (by grind)).1]
theorem a_scorchOn (hR : RH nf ns f s) {i : Nat} (hi : i < nf) (hl : ¬ s (15 + 4 * i) = 0) : F_X11_scorchOn (nI i) (s 6) (f 1) (f 3) = some (Sum.inr (s (17 + 4 * i))) := by
  have e := e_f1 hR hi
  obtain ⟨⟨h6, hn1, hn4⟩, -, -, -, hF, -⟩ := hR
  have q : ¬ f 1 i ≤ 0 := fun z => hl (e.1.mp z)
  unfold F_X11_scorchOn; rw [h6, rq_in hn4 hi, Option.bind_some]; show (F_X11_requireLoad (nI i) (nI nf) (f 1)).bind _ = _; rw [rL_in hn4 hi, if_neg q, Option.bind_some]; show (if xin (nI i) 4 = true then _ else _) = _; rw [if_pos (xin_nI (by omega) (by decide)), tnI (by omega), ((hF i hi).2.2.2.2.1 (by grind)).2]
theorem e_why (hR : RH nf ns f s) {i : Nat} (hi : i < nf) : pWhy ns f i = lWhy ns s i := by
  have e := e_f1 hR hi
  have hF := hR.2.2.2.2.1
  unfold pWhy lWhy
  by_cases c1 : s (15 + 4 * i) = 0
  · rw [if_pos c1, if_pos (e.1.mpr c1)]
  · have q1 : ¬ f 1 i ≤ 0 := fun z => c1 (e.1.mp z)
    rw [if_neg c1, if_neg q1]
    by_cases c2 : i = 0
    · subst c2
      have e2 : s 16 = f 2 0 := ((hF 0 hi).2.2.2.2.1 (by grind)).1
      rw [if_pos rfl, if_pos rfl, e2]
    · have e3 := e_f1 hR (i := i - 1) (by omega)
      rw [if_neg c2, if_neg c2]
      by_cases c3 : s (15 + 4 * (i - 1)) = 0
      · rw [if_pos c3, if_pos (e3.1.mpr c3)]
      · rw [if_neg c3, if_neg (fun z => c3 (e3.1.mp z))]
theorem a_obstacle (hR : RH nf ns f s) {i : Nat} (hi : i < nf) : F_X11_obstacleToLower (nI i) (s 6) (f 1) (f 2) (s 7) = some (Sum.inr (lWhy ns s i)) := by
  have e := k_why hR hi
  have h6 := hR.1.1
  have hn4 := hR.1.2.2
  unfold F_X11_obstacleToLower
  rw [show F_X11_requireFloor (nI i) (s 6) = some (Sum.inr ()) by rw [h6]; exact rq_in hn4 hi, Option.bind_some]; show (F_X3_obstacle (nI i) (s 6) (f 1) (f 2) (s 7)).bind _ = _; rw [e, Option.bind_some, e_why hR hi]
theorem a_isDry (hR : RH nf ns f s) {i : Nat} (hi : i < nf) : F_X11_isDry (nI i) (s 6) (f 1) (f 2) = some (Sum.inr (if s (15 + 4 * i) = 0 then 0 else if s (16 + 4 * i) ≤ 100 then 1 else 0)) := by
  have e := e_f1 hR hi
  obtain ⟨⟨h6, hn1, hn4⟩, -, -, -, hF, -⟩ := hR
  have hx : xin (nI i) 4 = true := xin_nI (by omega) (by decide)
  have ek : F_X11_isDry (nI i) (s 6) (f 1) (f 2) = (F_X1_holdsDryLoad (nI i) (nI nf) (f 1) (f 2)).bind fun x6 => (if x6 &&& 1 = x6 then some (Sum.inr x6) else none) := by
    unfold F_X11_isDry; rw [h6, rq_in hn4 hi, Option.bind_some]; rfl
  rw [ek]; unfold F_X1_holdsDryLoad
  rw [k_taken hn4 hi, Option.bind_some]
  by_cases q : f 1 i ≤ 0
  · rw [if_pos q, if_pos rfl, if_pos (e.1.mp q)]; rfl
  · have e2 := ((hF i hi).2.2.2.2.1 (by grind)).1
    rw [if_neg q, if_neg (by decide), if_pos hx, tnI (by omega), if_neg (fun z => q (e.1.mpr z)), e2]
    by_cases d : 100 < f 2 i
    · rw [if_pos d, if_neg (by grind)]; rfl
    · rw [if_neg d, if_pos (by grind)]; rfl
theorem a_dryingOn (hN : 1000 ≤ N) (hR : RH nf ns f s) {i : Nat} (hi : i < nf) (hl : s (15 + 4 * i) = 0) : F_X11_dryingOn N (nI i) (s 1) (s 2) (s 5) (s 3) (s 4) (s 6) (f 1) (f 2) = some (Sum.inr 0) := by
  have e := e_f1 hR hi
  obtain ⟨⟨h6, hn1, hn4⟩, -, -, -, hF, -⟩ := hR
  have ek : F_X11_dryingOn N (nI i) (s 1) (s 2) (s 5) (s 3) (s 4) (s 6) (f 1) (f 2) = (F_X3_dryingNow N (nI i) (s 1) (s 2) (s 5) (s 3) (s 4) (nI nf) (f 1) (f 2)).bind fun x6 => some (Sum.inr x6) := by
    unfold F_X11_dryingOn; rw [h6, rq_in hn4 hi, Option.bind_some]; rfl
  rw [ek]; unfold F_X3_dryingNow
  rw [k_d, Option.bind_some, k_t hN hn4 (by omega) hF, Option.bind_some, k_dec hn4 hi, Option.bind_some, Option.bind_some, if_pos (e.1.mpr hl)]
theorem a_sackState (hR : RH nf ns f s) {k : Nat} (hk : k < ns) : F_X11_sackState (nI k) (s 7) (f 4) = some (Sum.inr (s (30 + 5 * k))) := by
  obtain ⟨-, ⟨h7, hns⟩, -, -, -, hS⟩ := hR
  unfold F_X11_sackState; rw [h7, rS_in hns hk, Option.bind_some]; show (if xin (nI k) 20 = true then _ else _) = _; rw [if_pos (xin_nI (by omega) (by decide)), tnI (by omega), (hS k hk).1]
theorem a_sackMass (hR : RH nf ns f s) {k : Nat} (hk : k < ns) : F_X11_sackMass (nI k) (s 7) (f 5) = some (Sum.inr (s (31 + 5 * k))) := by
  obtain ⟨-, ⟨h7, hns⟩, -, -, -, hS⟩ := hR
  unfold F_X11_sackMass; rw [h7, rS_in hns hk, Option.bind_some]; show (if xin (nI k) 20 = true then _ else _) = _; rw [if_pos (xin_nI (by omega) (by decide)), tnI (by omega), (hS k hk).2.1.1]
theorem a_sackMoisture (hR : RH nf ns f s) {k : Nat} (hk : k < ns) : F_X11_sackMoisture (nI k) (s 7) (f 6) = some (Sum.inr (s (32 + 5 * k))) := by
  obtain ⟨-, ⟨h7, hns⟩, -, -, -, hS⟩ := hR
  unfold F_X11_sackMoisture; rw [h7, rS_in hns hk, Option.bind_some]; show (if xin (nI k) 20 = true then _ else _) = _; rw [if_pos (xin_nI (by omega) (by decide)), tnI (by omega), (hS k hk).2.2.1.1]
theorem a_sackTemperature (hR : RH nf ns f s) {k : Nat} (hk : k < ns) : F_X11_sackTemperature (nI k) (s 7) (f 8) = some (Sum.inr (s (34 + 5 * k))) := by
  obtain ⟨-, ⟨h7, hns⟩, -, -, -, hS⟩ := hR
  unfold F_X11_sackTemperature; rw [h7, rS_in hns hk, Option.bind_some]; show (if xin (nI k) 20 = true then _ else _) = _; rw [if_pos (xin_nI (by omega) (by decide)), tnI (by omega), (hS k hk).2.2.2.2.1]
theorem a_isSmouldering (hR : RH nf ns f s) {k : Nat} (hk : k < ns) : F_X11_isSmouldering (nI k) (s 7) (f 6) (f 4) (f 8) = some (Sum.inr (lGl (s (30 + 5 * k)) (s (32 + 5 * k)) (s (34 + 5 * k)))) := by
  obtain ⟨-, ⟨h7, hns⟩, -, -, -, hS⟩ := hR
  have ek : F_X11_isSmouldering (nI k) (s 7) (f 6) (f 4) (f 8) = (F_X5_smoulders (nI k) (nI ns) (f 6) (f 4) (f 8)).bind fun x6 => (if x6 &&& 1 = x6 then some (Sum.inr x6) else none) := by
    unfold F_X11_isSmouldering; rw [h7, rS_in hns hk, Option.bind_some]; rfl
  rw [ek, k_smo hns hk, (hS k hk).1, (hS k hk).2.2.1.1, (hS k hk).2.2.2.2.1, Option.bind_some]
  unfold lGl
  by_cases q : f 4 k = 0 ∧ f 6 k < 60 ∧ 50 ≤ f 8 k
  · rw [if_pos q]; rfl
  · rw [if_neg q]; rfl
theorem e_Q (hR : RH nf ns f s) {k : Nat} (hk : k < ns) : pQ f k = lQ (s (33 + 5 * k)) (s (32 + 5 * k)) := by
  obtain ⟨-, ⟨h7, hns⟩, -, -, -, hS⟩ := hR
  obtain ⟨-, -, ⟨r6, a6, b6⟩, ⟨r7, a7, b7⟩, -⟩ := hS k hk
  rw [r6, r7]
  unfold pQ lQ
  have e : (if f 6 k ≤ 80 then (0 : Int32) else f 6 k - 80) = (if 0 < f 6 k - 80 then f 6 k - 80 else 0) := by grind
  rw [e]
  generalize (if 0 < f 6 k - 80 then f 6 k - 80 else 0) / 2 = h
  by_cases c : 0 < 100 - f 7 k - h
  · rw [if_pos c, if_pos (Int32.le_of_lt c)]
  · rw [if_neg c]
    by_cases c2 : 0 ≤ 100 - f 7 k - h
    · rw [if_pos c2]; exact Int32.le_antisymm (Int32.not_lt.mp c) c2
    · rw [if_neg c2]
def lPr (s : Nat → Int32) (k : Nat) : Int32 := s (31 + 5 * k) * lQ (s (33 + 5 * k)) (s (32 + 5 * k)) / 10
theorem e_Pr (hR : RH nf ns f s) {k : Nat} (hk : k < ns) : pPr f k = lPr s k := by
  unfold pPr lPr; rw [e_Q hR hk, (hR.2.2.2.2.2 k hk).2.1.1]
theorem a_qualityOf (hR : RH nf ns f s) {k : Nat} (hk : k < ns) : F_X11_qualityOf (nI k) (s 7) (f 6) (f 7) = some (Sum.inr (lQ (s (33 + 5 * k)) (s (32 + 5 * k)))) := by
  have e := e_Q hR hk
  obtain ⟨-, ⟨h7, hns⟩, -⟩ := hR
  unfold F_X11_qualityOf; rw [h7, rS_in hns hk, Option.bind_some]; show (F_X5_quality (nI k) (nI ns) (f 6) (f 7)).bind _ = _; rw [k_quality hns hk, Option.bind_some, e]
theorem a_priceOf (hR : RH nf ns f s) {k : Nat} (hk : k < ns) : F_X11_priceOf (nI k) (s 7) (f 5) (f 6) (f 7) = some (Sum.inr (lPr s k)) := by
  have e := e_Pr hR hk
  obtain ⟨-, ⟨h7, hns⟩, -⟩ := hR
  unfold F_X11_priceOf; rw [h7, rS_in hns hk, Option.bind_some]; show (F_X5_price (nI k) (nI ns) (f 5) (f 6) (f 7)).bind _ = _; rw [k_price hns hk, Option.bind_some, e]
end ANSW
/-! the sums -/
def lsF (s : Nat → Int32) : Nat → Int32
  | 0 => 0
  | i + 1 => lsF s i + s (15 + 4 * i)
def lsS (s : Nat → Int32) : Nat → Int32
  | 0 => 0
  | k + 1 => lsS s k + s (31 + 5 * k)
/-- the masses of the sacks of a state -/
def lsT (z : Int32) (s : Nat → Int32) : Nat → Int32
  | 0 => 0
  | k + 1 => lsT z s k + (if s (30 + 5 * k) = z then s (31 + 5 * k) else 0)
/-- the sums hold -/
def SUM (nf ns : Nat) (s : Nat → Int32) : Prop := s 8 = lsF s nf + lsS s ns ∧ s 9 = lsT 1 s ns ∧ s 10 = lsT 2 s ns
theorem lsF_cong {s s' : Nat → Int32} : ∀ n, (∀ i, i < n → s' (15 + 4 * i) = s (15 + 4 * i)) → lsF s' n = lsF s n := by
  intro n
  induction n with
  | zero => intro _; rfl
  | succ n ih => intro h; rw [lsF, lsF, ih (fun i hi => h i (by omega)), h n (by omega)]
theorem lsS_cong {s s' : Nat → Int32} : ∀ n, (∀ i, i < n → s' (31 + 5 * i) = s (31 + 5 * i)) → lsS s' n = lsS s n := by
  intro n
  induction n with
  | zero => intro _; rfl
  | succ n ih => intro h; rw [lsS, lsS, ih (fun i hi => h i (by omega)), h n (by omega)]
theorem lsT_cong {z : Int32} {s s' : Nat → Int32} : ∀ n, (∀ i, i < n → s' (30 + 5 * i) = s (30 + 5 * i) ∧ s' (31 + 5 * i) = s (31 + 5 * i)) → lsT z s' n = lsT z s n := by
  intro n
  induction n with
  | zero => intro _; rfl
  | succ n ih => intro h; rw [lsT, lsT, ih (fun i hi => h i (by omega)), (h n (by omega)).1, (h n (by omega)).2]
/-- a change of one floor's mass -/
theorem lsF_one {s s' : Nat → Int32} {i : Nat} : ∀ n, i < n → (∀ j, j < n → j ≠ i → s' (15 + 4 * j) = s (15 + 4 * j)) → lsF s' n = lsF s n + (s' (15 + 4 * i) - s (15 + 4 * i)) := by
  intro n
  induction n with
  | zero => intro h; omega
  | succ n ih =>
    intro hi h
    by_cases e : i = n
    · subst e
      rw [lsF, lsF, lsF_cong i (fun j hj => h j (by omega) (by omega))]; grind
    · rw [lsF, lsF, ih (by omega) (fun j hj hji => h j (by omega) hji), h n (by omega) (by omega)]; grind
theorem lsT_one {z : Int32} {s s' : Nat → Int32} {i : Nat} : ∀ n, i < n → (∀ j, j < n → j ≠ i → s' (30 + 5 * j) = s (30 + 5 * j)) → (∀ j, j < n → s' (31 + 5 * j) = s (31 + 5 * j)) → lsT z s' n = lsT z s n + ((if s' (30 + 5 * i) = z then s (31 + 5 * i) else 0) - (if s (30 + 5 * i) = z then s (31 + 5 * i) else 0)) := by
  intro n
  induction n with
  | zero => intro h; omega
  | succ n ih =>
    intro hi h h2
    by_cases e : i = n
    · subst e
      rw [lsT, lsT, lsT_cong i (fun j hj => ⟨h j (by omega) (by omega), h2 j (by omega)⟩), h2 i (by omega)]; grind
    · rw [lsT, lsT, ih (by omega) (fun j hj hji => h j (by omega) hji) (fun j hj => h2 j (by omega)), h n (by omega) (by omega), h2 n (by omega)]; grind
theorem SUM.cong {nf ns : Nat} {s s' : Nat → Int32} (h : SUM nf ns s) (h8 : s' 8 = s 8) (h9 : s' 9 = s 9) (h10 : s' 10 = s 10) (hf : ∀ i, i < nf → s' (15 + 4 * i) = s (15 + 4 * i)) (hk : ∀ i, i < ns → s' (30 + 5 * i) = s (30 + 5 * i) ∧ s' (31 + 5 * i) = s (31 + 5 * i)) : SUM nf ns s' := by
  obtain ⟨a, b, c⟩ := h
  exact ⟨by rw [h8, a, lsF_cong nf hf, lsS_cong ns (fun i hi => (hk i hi).2)], by rw [h9, b, lsT_cong ns hk], by rw [h10, c, lsT_cong ns hk]⟩
theorem SUM.damp {nf ns n : Nat} {s : Nat → Int32} (h : SUM nf ns s) : SUM nf ns (pDamp n s) := by
  have e : ∀ j, j ≠ 1 → j ≠ 12 → pDamp n s j = s j := fun j h1 h12 => by unfold pDamp; rw [upd_o _ _ h12, upd_o _ _ h1]
  exact h.cong (e 8 (by decide) (by decide)) (e 9 (by decide) (by decide)) (e 10 (by decide) (by decide)) (fun i _ => e _ (by omega) (by omega)) (fun i _ => ⟨e _ (by omega) (by omega), e _ (by omega) (by omega)⟩)
theorem SUM.lay {nf ns i : Nat} {s : Nat → Int32} {m q : Int32} (h : SUM nf ns s) (hi : i < nf) (hn : nf ≤ 4) (he : s (15 + 4 * i) = 0) : SUM nf ns (sLay s i m q) := by
  obtain ⟨a, b, c⟩ := h
  have o := fun (j : Nat) (h8 : j ≠ 8) (hj : j < 14 ∨ 30 ≤ j) => sLay_o (s := s) (i := i) (m := m) (q := q) (j := j) h8 (by omega) (by omega) (by omega)
  have e15 : sLay s i m q (15 + 4 * i) = m := by unfold sLay; rw [upd_o _ _ (by omega), upd_o _ _ (by omega), upd_o _ _ (by omega), upd_s]
  have e8 : sLay s i m q 8 = s 8 + m := by unfold sLay; rw [upd_s]
  refine ⟨?_, ?_, ?_⟩
  · rw [e8, a, lsF_one nf hi (fun j hj hji => sLay_o (by omega) (by omega) (by omega) (by omega)), e15, he, lsS_cong ns (fun k _ => o _ (by omega) (by omega))]; grind
  · rw [o 9 (by decide) (by decide), b, lsT_cong ns (fun k _ => ⟨o _ (by omega) (by omega), o _ (by omega) (by omega)⟩)]
  · rw [o 10 (by decide) (by decide), c, lsT_cong ns (fun k _ => ⟨o _ (by omega) (by omega), o _ (by omega) (by omega)⟩)]
theorem SUM.low0 {nf ns : Nat} {s : Nat → Int32} (h : SUM nf ns s) (hn : 1 ≤ nf ∧ nf ≤ 4) : SUM nf (ns + 1) (lLow0 ns s) := by
  obtain ⟨a, b, c⟩ := h
  obtain ⟨⟨q0, q1, q2, q3, q4⟩, z1, -, -⟩ := lLow0_s ns s
  have o := fun (j : Nat) (h7 : j ≠ 7) (h1 : j ≠ 15) (h2 : j ≠ 16) (h3 : j ≠ 17) (hj : j < 30 + 5 * ns) => lLow0_o (s := s) (ns := ns) h7 h1 h2 h3 (Or.inl hj)
  refine ⟨?_, ?_, ?_⟩
  · rw [o 8 (by decide) (by decide) (by decide) (by decide) (by omega), a, lsF_one (i := 0) nf (by omega) (fun j hj hj0 => o _ (by omega) (by omega) (by omega) (by omega) (by omega)), lsS, lsS_cong ns (fun k hk => o _ (by omega) (by omega) (by omega) (by omega) (by omega)), q1]
    show lsF s nf + lsS s ns = lsF s nf + (lLow0 ns s 15 - s 15) + (lsS s ns + s 15)
    rw [z1]; grind
  · rw [o 9 (by decide) (by decide) (by decide) (by decide) (by omega), b, lsT, lsT_cong ns (fun k hk => ⟨o _ (by omega) (by omega) (by omega) (by omega) (by omega), o _ (by omega) (by omega) (by omega) (by omega) (by omega)⟩), q0, if_neg (by decide)]; grind
  · rw [o 10 (by decide) (by decide) (by decide) (by decide) (by omega), c, lsT, lsT_cong ns (fun k hk => ⟨o _ (by omega) (by omega) (by omega) (by omega) (by omega), o _ (by omega) (by omega) (by omega) (by omega) (by omega)⟩), q0, if_neg (by decide)]; grind
theorem SUM.lowI {nf ns i : Nat} {s : Nat → Int32} (h : SUM nf ns s) (hn : nf ≤ 4) (h0 : 0 < i) (hi : i < nf) (he : s (15 + 4 * (i - 1)) = 0) : SUM nf ns (lLowI s i) := by
  obtain ⟨a, b, c⟩ := h
  obtain ⟨⟨q1, -, -⟩, z1, -, -⟩ := lLowI_s (s := s) h0
  have o := fun (j : Nat) (hj : j < 14 ∨ 30 ≤ j) => lLowI_o (s := s) (i := i) (j := j) h0 ⟨by omega, by omega, by omega⟩ ⟨by omega, by omega, by omega⟩
  refine ⟨?_, ?_, ?_⟩
  · rw [o 8 (by decide), a, lsS_cong ns (fun k _ => o _ (by omega))]
    -- by way of the row where floor i is empty
    have e1 := lsF_one (s := s) (s' := upd s (15 + 4 * i) 0) (i := i) nf hi (fun j hj hji => upd_o _ _ (by omega))
    have e2 := lsF_one (s := upd s (15 + 4 * i) 0) (s' := lLowI s i) (i := i - 1) nf (by omega) (fun j hj hji => by
      by_cases e : j = i
      · subst e; rw [z1, upd_s]
      · rw [upd_o _ _ (by omega)]; exact lLowI_o h0 ⟨by omega, by omega, by omega⟩ ⟨by omega, by omega, by omega⟩)
    rw [upd_s] at e1
    rw [q1, upd_o _ _ (by omega), he, e1] at e2
    rw [e2]; grind
  · rw [o 9 (by decide), b, lsT_cong ns (fun k _ => ⟨o _ (by omega), o _ (by omega)⟩)]
  · rw [o 10 (by decide), c, lsT_cong ns (fun k _ => ⟨o _ (by omega), o _ (by omega)⟩)]
theorem lUp_k {s : Nat → Int32} {k j : Nat} (h : ∀ i, j ≠ 34 + 5 * i) : lUp s k j = s j := lUp_o (h k)
theorem lGlow_k {ns : Nat} {s : Nat → Int32} {i j : Nat} (h : ∀ i, j ≠ 34 + 5 * i) (h10 : j ≠ 10) (hi : j ≠ 30 + 5 * i) : lGlow ns s i j = s j := by
  have a : ∀ s2 : Nat → Int32, lUpL s2 i j = s2 j := fun s2 => by unfold lUpL; split; exact lUp_k h; rfl
  have b : ∀ s2 : Nat → Int32, lUpR ns s2 i j = s2 j := fun s2 => by unfold lUpR; split; exact lUp_k h; rfl
  unfold lGlow; split
  · split
    · exact upd_o _ _ (h i)
    · rw [b, a]; unfold lBurn; rw [upd_o _ _ h10, upd_o _ _ hi, upd_o _ _ (h i)]
  · rfl
theorem SUM.glow {nf ns i : Nat} {s : Nat → Int32} (h : SUM nf ns s) (hn : nf ≤ 4) (hi : i < ns) : SUM nf ns (lGlow ns s i) := by
  obtain ⟨a, b, c⟩ := h
  have k := fun (j : Nat) (h1 : ∀ i, j ≠ 34 + 5 * i) (h10 : j ≠ 10) (h2 : j ≠ 30 + 5 * i) => lGlow_k (ns := ns) (s := s) (i := i) h1 h10 h2
  by_cases c0 : s (30 + 5 * i) = 0 ∧ ¬ lHe s i < 100
  · have e30 : lGlow ns s i (30 + 5 * i) = 2 := by
      have p : ∀ s2 : Nat → Int32, lUpL s2 i (30 + 5 * i) = s2 (30 + 5 * i) := fun s2 => by unfold lUpL; split; exact lUp_o (by omega); rfl
      have q : ∀ s2 : Nat → Int32, lUpR ns s2 i (30 + 5 * i) = s2 (30 + 5 * i) := fun s2 => by unfold lUpR; split; exact lUp_o (by omega); rfl
      unfold lGlow; rw [if_pos c0.1, if_neg c0.2, q, p]; unfold lBurn; rw [upd_o _ _ (by omega), upd_s]
    have e10 : lGlow ns s i 10 = s 10 + s (31 + 5 * i) := by
      have p : ∀ s2 : Nat → Int32, lUpL s2 i 10 = s2 10 := fun s2 => by unfold lUpL; split; exact lUp_o (by omega); rfl
      have q : ∀ s2 : Nat → Int32, lUpR ns s2 i 10 = s2 10 := fun s2 => by unfold lUpR; split; exact lUp_o (by omega); rfl
      unfold lGlow; rw [if_pos c0.1, if_neg c0.2, q, p]; unfold lBurn; rw [upd_s, upd_o _ _ (by omega), upd_o _ _ (by omega)]
    refine ⟨?_, ?_, ?_⟩
    · rw [k 8 (by omega) (by decide) (by omega), a, lsF_cong nf (fun j _ => k _ (by omega) (by omega) (by omega)), lsS_cong ns (fun j _ => k _ (by omega) (by omega) (by omega))]
    · rw [k 9 (by omega) (by decide) (by omega), b, lsT_one ns hi (fun j _ hj => k _ (by omega) (by omega) (by omega)) (fun j _ => k _ (by omega) (by omega) (by omega)), e30, c0.1, if_neg (by decide), if_neg (by decide)]; grind
    · rw [e10, c, lsT_one (s' := lGlow ns s i) ns hi (fun j _ hj => k _ (by omega) (by omega) (by omega)) (fun j _ => k _ (by omega) (by omega) (by omega)), e30, c0.1, if_pos rfl, if_neg (by decide)]; grind
  · have all : ∀ j, (∀ i, j ≠ 34 + 5 * i) → lGlow ns s i j = s j := fun j h1 => by
      unfold lGlow
      by_cases c1 : s (30 + 5 * i) = 0
      · rw [if_pos c1, if_pos (Decidable.byContradiction (fun q => c0 ⟨c1, q⟩)), upd_o _ _ (h1 i)]
      · rw [if_neg c1]
    exact SUM.cong ⟨a, b, c⟩ (all 8 (by omega)) (all 9 (by omega)) (all 10 (by omega)) (fun j _ => all _ (by omega)) (fun j _ => ⟨all _ (by omega), all _ (by omega)⟩)
theorem SUM.glowA {nf ns : Nat} (hn : nf ≤ 4) : ∀ (d i : Nat) (s : Nat → Int32), i + d = ns → SUM nf ns s → SUM nf ns (lGlowA ns d i s) := by
  intro d
  induction d with
  | zero => intro i s _ h; exact h
  | succ d ih => intro i s hi h; rw [lGlowA]; exact ih (i + 1) _ (by omega) (h.glow hn (by omega))
theorem SUM.pass {nf ns : Nat} {s : Nat → Int32} (h : SUM nf ns s) (hn : nf ≤ 4) : SUM nf ns (lPass nf ns s) := by
  refine SUM.damp (SUM.glowA hn ns 0 _ (by omega) ?_)
  have e : ∀ j, 6 ≤ j → j < 13 → lDried nf s j = s j := fun j h1 h2 => by
    unfold lDried lAir; rw [lDryA_o (Or.inl (by omega)) nf 0 _ (by omega), lTurn_o (by omega) (by omega), lTick_o (by omega) (by omega)]
  have e30 : ∀ j, 30 ≤ j → lDried nf s j = s j := fun j h1 => by
    unfold lDried lAir; rw [lDryA_o (Or.inr h1) nf 0 _ (by omega), lTurn_o (by omega) (by omega), lTick_o (by omega) (by omega)]
  have dm : ∀ (T D : Int32) (i k : Nat) (z : Nat → Int32), lDry z T D i (15 + 4 * k) = z (15 + 4 * k) := fun T D i k z => lDry_o (by omega) (by omega)
  have dA : ∀ (t : Nat → Int32) (D : Int32) (k d i : Nat) (z : Nat → Int32), lDryA t D d i z (15 + 4 * k) = z (15 + 4 * k) := by
    intro t D k d
    induction d with
    | zero => intro i z; rfl
    | succ d ih => intro i z; rw [lDryA, ih, dm]
  have e15 : ∀ i, lDried nf s (15 + 4 * i) = s (15 + 4 * i) := fun i => by
    unfold lDried lAir; rw [dA, lTurn_o (by omega) (by omega), lTick_o (by omega) (by omega)]
  exact h.cong (e 8 (by decide) (by decide)) (e 9 (by decide) (by decide)) (e 10 (by decide) (by decide)) (fun i _ => e15 i) (fun i _ => ⟨e30 _ (by omega), e30 _ (by omega)⟩)
/-- sold -/
def lSell (s : Nat → Int32) (k : Nat) : Nat → Int32 := upd (upd (upd s (30 + 5 * k) 1) 9 (s 9 + s (31 + 5 * k))) 11 (s 11 + lPr s k)
/-- quenched -/
def lQuen (s : Nat → Int32) (k : Nat) : Nat → Int32 := upd (upd s (34 + 5 * k) 15) (32 + 5 * k) (s (32 + 5 * k) + 100)
theorem SUM.sell {nf ns k : Nat} {s : Nat → Int32} (h : SUM nf ns s) (hn : nf ≤ 4) (hk : k < ns) (h0 : s (30 + 5 * k) = 0) : SUM nf ns (lSell s k) := by
  obtain ⟨a, b, c⟩ := h
  have o : ∀ j, j ≠ 9 → j ≠ 11 → j ≠ 30 + 5 * k → lSell s k j = s j := fun j x y z => by unfold lSell; rw [upd_o _ _ y, upd_o _ _ x, upd_o _ _ z]
  have e30 : lSell s k (30 + 5 * k) = 1 := by unfold lSell; rw [upd_o _ _ (by omega), upd_o _ _ (by omega), upd_s]
  have e9 : lSell s k 9 = s 9 + s (31 + 5 * k) := by unfold lSell; rw [upd_o _ _ (by decide), upd_s]
  refine ⟨?_, ?_, ?_⟩
  · rw [o 8 (by decide) (by decide) (by omega), a, lsF_cong nf (fun j _ => o _ (by omega) (by omega) (by omega)), lsS_cong ns (fun j _ => o _ (by omega) (by omega) (by omega))]
  · rw [e9, b, lsT_one (s' := lSell s k) ns hk (fun j _ hj => o _ (by omega) (by omega) (by omega)) (fun j _ => o _ (by omega) (by omega) (by omega)), e30, h0, if_pos rfl, if_neg (by decide)]; grind
  · rw [o 10 (by decide) (by decide) (by omega), c, lsT_one ns hk (fun j _ hj => o _ (by omega) (by omega) (by omega)) (fun j _ => o _ (by omega) (by omega) (by omega)), e30, h0, if_neg (by decide), if_neg (by decide)]; grind
theorem SUM.quen {nf ns k : Nat} {s : Nat → Int32} (h : SUM nf ns s) (hn : nf ≤ 4) : SUM nf ns (lQuen s k) := by
  have o : ∀ j, j ≠ 32 + 5 * k → j ≠ 34 + 5 * k → lQuen s k j = s j := fun j x y => by unfold lQuen; rw [upd_o _ _ x, upd_o _ _ y]
  exact h.cong (o 8 (by omega) (by omega)) (o 9 (by omega) (by omega)) (o 10 (by omega) (by omega)) (fun j _ => o _ (by omega) (by omega)) (fun j _ => ⟨o _ (by omega) (by omega), o _ (by omega) (by omega)⟩)
