/-! PURE: all floors dry; the sacks glow -/
theorem d_temps {N nf : Nat} {f : Nat → Nat → Int32} {s : Nat → Int32} (hN : 1000 ≤ N) (hnf : nf ≤ 4) (h6 : s 6 = nI nf) (hF : RF nf f s) : ∀ (d i : Nat) (t w : Nat → Int32), i + d = nf → (∀ j, j < i → t j = pT s j ∧ w j = pT s j) →
    ∃ t' w', (∀ j, j < nf → t' j = pT s j ∧ w' j = pT s j) ∧ (∀ fu, d < fu → F_X3_dryLoads_b10 N (s 1) (nI nf) (f 1) fu (pD s) (nI i) (f 2) (f 3) t = F_X3_dryLoads_b41 N (nI nf) (f 1) N (pD s) 0 (f 2) (f 3) t') ∧ (∀ fu, d < fu → F_X12_driesAll_b7 N fu (pD s) (nI i) s w = F_X12_driesAll_b37 N N (pD s) 0 s w') := by
  intro d
  induction d with
  | zero =>
    intro i t w hi ht
    obtain rfl : i = nf := by omega
    refine ⟨t, w, ht, fun fu hf => ?_, fun fu hf => ?_⟩
    · obtain ⟨k, rfl⟩ : ∃ k, fu = k + 1 := ⟨fu - 1, by omega⟩
      rw [F_X3_dryLoads_b10, if_pos (nI_le (Nat.le_refl _) (by omega))]
    · obtain ⟨k, rfl⟩ : ∃ k, fu = k + 1 := ⟨fu - 1, by omega⟩
      rw [F_X12_driesAll_b7, tn6, h6, if_pos (nI_le (Nat.le_refl _) (by omega))]
  | succ d ih =>
    intro i t w hi ht
    obtain ⟨t', w', h1, h2, h3⟩ := ih (i + 1) (upd t i (pT s i)) (upd w i (pT s i)) (by omega) (fun j hj => by
      by_cases hji : j = i
      · subst hji; rw [upd_s, upd_s]; exact ⟨rfl, rfl⟩
      · rw [upd_o _ _ hji, upd_o _ _ hji]; exact ht j (by omega))
    refine ⟨t', w', h1, fun fu hf => ?_, fun fu hf => ?_⟩
    · obtain ⟨k, rfl⟩ : ∃ k, fu = k + 1 := ⟨fu - 1, by omega⟩
      rw [F_X3_dryLoads_b10, if_neg (nI_ge (by omega) (by omega)), k_t hN hnf (by omega) hF, Option.bind_some, if_pos (xin_nI (by omega) (by decide)), tnI (by omega), nI_1]
      exact h2 k (by omega)
    · obtain ⟨k, rfl⟩ : ∃ k, fu = k + 1 := ⟨fu - 1, by omega⟩
      rw [F_X12_driesAll_b7, tn6, h6, if_neg (nI_ge (by omega) (by omega)), m_deg hN (by omega), Option.bind_some, if_pos (xin_nI (by omega) (by decide)), tnI (by omega), nI_1]
      exact h3 k (by omega)
theorem d_dry {N nf : Nat} {f : Nat → Nat → Int32} {s : Nat → Int32} (hN : 1000 ≤ N) (hnf : nf ≤ 4) (h6 : s 6 = nI nf) (hF : RF nf f s) (hA : pAir s) (hh : 0 ≤ s 1 ∧ s 1 ≤ 90) (t w : Nat → Int32) :
    ∃ g2 g3 t' s' w', F_X3_dryLoads N (s 1) (s 2) (s 5) (s 3) (s 4) (nI nf) (f 1) (f 2) (f 3) t = some ((), g2, g3, t') ∧ F_X12_driesAll N s w = some ((), s', w') ∧ RF nf (va_up (va_up f 2 g2) 3 g3) s' ∧ eqOut s s' := by
  obtain ⟨t', w', h1, h2, h3⟩ := d_temps hN hnf h6 hF nf 0 t w (by omega) (fun j hj => by omega)
  obtain ⟨g2, g3, s', k1, k2, k3, k4⟩ := d_all (N := N) hnf (pD_r hA) (w := w') (t := t') (fun i hi => by
    have h := h1 i hi
    have hr := pT_r hF hA hh hnf (i := i) (by omega)
    rw [h.1, h.2]
    exact ⟨rfl, by grind, by grind⟩) nf 0 f s (by omega) h6 hF
  refine ⟨g2, g3, t', s', w', ?_, ?_, k3, k4⟩
  · unfold F_X3_dryLoads
    rw [k_d, Option.bind_some]
    exact (h2 N (by omega)).trans (k1 N (by omega))
  · unfold F_X12_driesAll
    rw [m_d, Option.bind_some]
    exact (h3 N (by omega)).trans (k2 N (by omega))
/-- the sacks: class and model; b: how hot a stored sack may be -/
def RSb (b : Nat → Int32) (ns : Nat) (f : Nat → Nat → Int32) (s : Nat → Int32) : Prop := ∀ k, k < ns →
  s (30 + 5 * k) = f 4 k ∧ (s (31 + 5 * k) = f 5 k ∧ 0 ≤ f 5 k ∧ f 5 k ≤ 99) ∧ (s (32 + 5 * k) = f 6 k ∧ 0 ≤ f 6 k ∧ f 6 k ≤ 800) ∧ (s (33 + 5 * k) = f 7 k ∧ 0 ≤ f 7 k ∧ f 7 k ≤ 100) ∧
  s (34 + 5 * k) = f 8 k ∧ (f 4 k = 0 → 15 ≤ f 8 k ∧ f 8 k ≤ b k) ∧ (f 4 k = 0 ∨ f 4 k = 1 ∨ f 4 k = 2)
abbrev RS : Nat → (Nat → Nat → Int32) → (Nat → Int32) → Prop := RSb (fun _ => 109)
theorem k_exS {ns k : Nat} (hns : ns ≤ 20) (hk : k < ns) : F_X5_exists (nI k) (nI ns) = some 1 := by
  unfold F_X5_exists; rw [if_neg (nI_pos (by omega)), if_neg (nI_ge hk (by omega))]
theorem k_st {ns k : Nat} (hns : ns ≤ 20) (hk : k < ns) (g : Nat → Int32) : F_X5_isStored (nI k) (nI ns) g = some (if g k = 0 then 1 else 0) := by
  unfold F_X5_isStored F_X5_isStored_b25
  rw [if_neg (nI_pos (by omega)), if_neg (nI_ge hk (by omega)), if_pos (xin_nI (by omega) (by decide)), tnI (by omega), some_if]
theorem k_stO {ns : Nat} (hns : ns ≤ 20) {a : Int32} (ha : a < 0 ∨ nI ns ≤ a) (g : Nat → Int32) : F_X5_isStored a (nI ns) g = some 0 := by
  unfold F_X5_isStored F_X5_isStored_b25
  by_cases h : a < 0
  · rw [if_pos h]
  · rw [if_neg h, if_pos (ha.resolve_left h)]
theorem k_smo {ns k : Nat} (hns : ns ≤ 20) (hk : k < ns) (g m t : Nat → Int32) : F_X5_smoulders (nI k) (nI ns) m g t = some (if g k = 0 ∧ m k < 60 ∧ 50 ≤ t k then 1 else 0) := by
  unfold F_X5_smoulders F_X5_smoulders_b34
  have hx : xin (nI k) 20 = true := xin_nI (by omega) (by decide)
  rw [k_st hns hk, Option.bind_some, if_pos hx, if_pos hx, tnI (by omega)]
  by_cases h1 : g k = 0
  · rw [if_pos h1, if_neg (by decide)]
    by_cases h2 : 60 ≤ m k
    · rw [if_pos h2, if_neg (by grind)]
    · rw [if_neg h2]
      by_cases h3 : t k < 50
      · rw [if_pos h3, if_neg (by grind)]
      · rw [if_neg h3, if_pos (by grind)]
  · rw [if_neg h1, if_pos rfl, if_neg (by grind)]
theorem m_smo {k : Nat} (hk : k < 20) (s : Nat → Int32) : F_X12_smoulders (nI k) s = some (if s (30 + 5 * k) = 0 ∧ s (32 + 5 * k) < 60 ∧ 50 ≤ s (34 + 5 * k) then 1 else 0) := by
  unfold F_X12_smoulders F_X12_smoulders_b35
  rw [m_of0 hk, Option.bind_some, m_of2 hk, Option.bind_some, m_of4 hk, Option.bind_some]
  by_cases h1 : s (30 + 5 * k) = 0
  · rw [if_pos h1]
    by_cases h2 : 60 ≤ s (32 + 5 * k)
    · rw [if_pos h2, if_neg (by grind)]
    · rw [if_neg h2]
      by_cases h3 : s (34 + 5 * k) < 50
      · rw [if_pos h3, if_neg (by grind)]
      · rw [if_neg h3, if_pos (by grind)]
  · rw [if_neg h1, if_neg (by grind)]
theorem n_pred {ns : Nat} (hns : ns ≤ 20) (k : Nat) (hk : k < 2 ^ 31) : (0 ≤ nI k ∧ nI k ≤ nI ns - 1) ↔ k < ns := by
  have h0 : 0 ≤ nI k := nI_pos' hk
  by_cases h : k < ns
  · have h1 : nI (k + 1) ≤ nI ns := nI_le (by omega) (by omega)
    have h2 : nI (k + 1) = nI k + 1 := nI_succ k
    have h3 : nI k ≤ 20 := nI_le (b := 20) (by omega) (by decide)
    have h4 : nI ns ≤ 20 := nI_le (b := 20) (by omega) (by decide)
    rw [h2] at h1
    exact ⟨fun _ => h, fun _ => ⟨h0, by grind⟩⟩
  · have h1 : nI ns ≤ nI k := nI_le (by omega) (by omega)
    have h2 : 0 ≤ nI ns := nI_pos' (by omega)
    exact ⟨fun q => by exfalso; grind, fun q => absurd q h⟩
theorem n_predO {ns : Nat} (hns : ns ≤ 20) {a : Int32} (ha : a < 0 ∨ nI ns ≤ a) : ¬ (0 ≤ a ∧ a ≤ nI ns - 1) := by
  have h1 : 0 ≤ nI ns := nI_pos' (by omega)
  have h2 : nI ns ≤ 20 := nI_le (b := 20) (by omega) (by decide)
  grind
/-- ten degrees more for a stored sack, class and model -/
theorem g_heat {ns : Nat} (hns : ns ≤ 20) (a : Int32) {g t s : Nat → Int32} (h7 : s 7 = nI ns) (hr : ∀ j, j < ns → s (30 + 5 * j) = g j ∧ s (34 + 5 * j) = t j) :
    ∃ t' s', F_X5_heatUp a (nI ns) g t = some ((), t') ∧ F_X12_heats a s = some ((), s') ∧ (∀ j, j < ns → s' (34 + 5 * j) = t' j ∧ t' j = if a = nI j ∧ g j = 0 then t j + 10 else t j) ∧ (∀ x, (∀ j, j < ns → x ≠ 34 + 5 * j) → s' x = s x) := by
  rcases pk_ix a (n := ns) (by omega) with ha | ha | ⟨k, hk, rfl⟩
  · refine ⟨t, s, ?_, ?_, fun j hj => ⟨(hr j hj).2, ?_⟩, fun _ _ => rfl⟩
    · unfold F_X5_heatUp; rw [k_stO hns (Or.inl ha), Option.bind_some, if_pos rfl]
    · unfold F_X12_heats; rw [tn7, h7, m_in0, Option.bind_some, if_neg (n_predO hns (Or.inl ha)), if_pos rfl]
    · have h1 : 0 ≤ nI j := nI_pos' (by omega)
      rw [if_neg (by grind)]
  · refine ⟨t, s, ?_, ?_, fun j hj => ⟨(hr j hj).2, ?_⟩, fun _ _ => rfl⟩
    · unfold F_X5_heatUp; rw [k_stO hns (Or.inr ha), Option.bind_some, if_pos rfl]
    · unfold F_X12_heats; rw [tn7, h7, m_in0, Option.bind_some, if_neg (n_predO hns (Or.inr ha)), if_pos rfl]
    · have h1 : nI j < nI ns := nI_lt hj (by omega)
      rw [if_neg (by grind)]
  · have hx : xin (nI k) 20 = true := xin_nI (by omega) (by decide)
    have hx4 : xin (nI (34 + 5 * k)) 130 = true := xin_nI (by omega) (by decide)
    have hin := (n_pred hns k (by omega)).mpr hk
    by_cases h0 : g k = 0
    · refine ⟨upd t k (t k + 10), upd s (34 + 5 * k) (t k + 10), ?_, ?_, fun j hj => ?_, fun x hx => upd_o _ _ (hx k hk)⟩
      · unfold F_X5_heatUp; rw [k_st hns hk, Option.bind_some, if_pos h0, if_neg (by decide), if_pos hx, if_pos hx, tnI (k := k) (by omega)]
      · unfold F_X12_heats; rw [tn7, h7, m_in0, Option.bind_some, if_pos hin, if_neg (by decide), m_of0 (by omega), Option.bind_some, (hr k hk).1, if_pos h0, m_atS4, Option.bind_some, if_pos hx4, if_pos hx4, tnI (k := 34 + 5 * k) (by omega), (hr k hk).2]
      · by_cases hjk : j = k
        · subst hjk; rw [upd_s, upd_s, if_pos ⟨rfl, h0⟩]; exact ⟨rfl, rfl⟩
        · rw [upd_o _ _ (by omega), upd_o _ _ hjk, if_neg (fun q => hjk ((nI_eq (by omega) (by omega)).mp q.1).symm)]
          exact ⟨(hr j hj).2, rfl⟩
    · refine ⟨t, s, ?_, ?_, fun j hj => ⟨(hr j hj).2, ?_⟩, fun _ _ => rfl⟩
      · unfold F_X5_heatUp; rw [k_st hns hk, Option.bind_some, if_neg h0, if_pos rfl]
      · unfold F_X12_heats; rw [tn7, h7, m_in0, Option.bind_some, if_pos hin, if_neg (by decide), m_of0 (by omega), Option.bind_some, (hr k hk).1, if_neg h0]
      · by_cases hjk : j = k
        · subst hjk; rw [if_neg (fun q => h0 q.2)]
        · rw [if_neg (fun q => hjk ((nI_eq (by omega) (by omega)).mp q.1).symm)]
theorem upd_id {g : Nat → Int32} {i : Nat} {x : Int32} (h : x = g i) : upd g i x = g := by
  funext j; unfold upd; split
  · rename_i q; rw [q, h]
  · rfl
theorem cool_tab : ∀ k, k < 105 → ((if (15 : Int32) ≤ nI (k + 15) + -1 then nI (k + 15) + -1 else 15) = if nI (k + 15) ≤ 15 then nI (k + 15) else nI (k + 15) - 1) ∧ ((nI (k + 15) + -1 < 100) ↔ (if nI (k + 15) ≤ 15 then nI (k + 15) else nI (k + 15) - 1) < 100) := by decide +kernel
theorem cool_eq {y : Int32} (h0 : 15 ≤ y) (h1 : y ≤ 119) : ((if 15 ≤ y + -1 then y + -1 else 15) = if y ≤ 15 then y else y - 1) ∧ ((y + -1 < 100) ↔ (if y ≤ 15 then y else y - 1) < 100) := by
  obtain ⟨k, hk, rfl⟩ := n_of (n := 119) (by decide) (by grind) h1
  have hk0 : 15 ≤ k := (nI_leI (a := 15) (by decide) (by omega)).mp h0
  obtain ⟨j, rfl⟩ : ∃ j, k = j + 15 := ⟨k - 15, by omega⟩
  exact cool_tab j (by omega)
/-- the bound while sack i is visited next -/
def pGb (i : Nat) (k : Nat) : Int32 := if k = i then 119 else if k + 1 = i then 99 else 109
theorem g_step {N ns i : Nat} {f : Nat → Nat → Int32} {s : Nat → Int32} (hns : ns ≤ 20) (hi : i < ns) (h7 : s 7 = nI ns) (hR : RSb (pGb i) ns f s) :
    ∃ (g4 g8 s' : Nat → Int32) (c : Int32), (∀ fu l1, F_X5_glow_b4 N (nI ns) (f 5) (f 6) (fu + 1) l1 (nI i) (s 10) (f 4) (f 8) = F_X5_glow_b4 N (nI ns) (f 5) (f 6) fu (l1 + c) (nI (i + 1)) (s' 10) g4 g8) ∧
      (∀ fu l1, F_X12_glows_b4 N (fu + 1) l1 (nI i) s = F_X12_glows_b4 N fu (l1 + c) (nI (i + 1)) s') ∧ RSb (pGb (i + 1)) ns (va_up (va_up f 4 g4) 8 g8) s' ∧ (∀ j, j < 30 → j ≠ 10 → s' j = s j) := by
  obtain ⟨r0, r1, r2, r3, r4, r5, r6⟩ := hR i hi
  have hx : xin (nI i) 20 = true := xin_nI (by omega) (by decide)
  have hx0 : xin (nI (30 + 5 * i)) 130 = true := xin_nI (by omega) (by decide)
  have hx4 : xin (nI (34 + 5 * i)) 130 = true := xin_nI (by omega) (by decide)
  have hle : ¬ nI ns ≤ nI i := nI_ge (by omega) (by omega)
  have bnd : ∀ k, k ≠ i → k ≠ i + 1 → pGb i k ≤ pGb (i + 1) k := by
    intro k h1 h2; unfold pGb
    rw [if_neg h1, if_neg h2, if_neg (show ¬ k + 1 = i + 1 by omega)]
    split <;> decide
  have bnd1 : pGb i (i + 1) ≤ 109 ∧ pGb (i + 1) (i + 1) = 119 := by
    unfold pGb
    rw [if_neg (by omega), if_neg (by omega), if_pos rfl]
    exact ⟨by decide, rfl⟩
  have bndi : pGb (i + 1) i = 99 ∧ pGb i i = 119 := by
    unfold pGb
    rw [if_neg (by omega), if_pos rfl, if_pos rfl]
    exact ⟨rfl, rfl⟩
  have e0 : ∀ l1 : Int32, l1 + 0 = l1 := fun l1 => by grind
  have same : ∀ (h : Nat → Nat → Int32), va_up (va_up h 4 (h 4)) 8 (h 8) = h := by
    intro h; funext k; unfold va_up; split
    · rename_i q; rw [q]
    · split
      · rename_i q; rw [q]
      · rfl
  by_cases hs : f 4 i = 0
  · -- stored
    have hb := r5 hs
    rw [bndi.2] at hb
    obtain ⟨T, hT⟩ : ∃ T, T = (if f 6 i < 60 ∧ 50 ≤ f 8 i then f 8 i + 2 else if f 8 i ≤ 15 then f 8 i else f 8 i - 1) := ⟨_, rfl⟩
    have hTr : 15 ≤ T ∧ T ≤ 121 := by rw [hT]; grind
    obtain ⟨g8, hg8⟩ : ∃ g8, g8 = upd (f 8) i T := ⟨_, rfl⟩
    have kw : F_X5_warmOrCool (nI i) (nI ns) (f 6) (f 4) (f 8) = some ((), g8) := by
      unfold F_X5_warmOrCool
      by_cases c1 : f 6 i < 60 ∧ 50 ≤ f 8 i
      · rw [show F_X5_smoulders (nI i) (nI ns) (f 6) (f 4) (f 8) = some 1 by rw [k_smo hns hi, if_pos ⟨hs, c1⟩], Option.bind_some, if_neg (by decide), if_pos hx, if_pos hx, tnI (by omega), hg8, hT, if_pos c1]
      · rw [show F_X5_smoulders (nI i) (nI ns) (f 6) (f 4) (f 8) = some 0 by rw [k_smo hns hi, if_neg (fun q => c1 q.2)], Option.bind_some, if_pos rfl, if_pos hx, if_pos hx, if_pos hx, tnI (by omega), hg8, hT, if_neg c1]
        by_cases c2 : f 8 i ≤ 15
        · rw [if_pos c2, if_pos c2, upd_id rfl]
        · rw [if_neg c2, if_neg c2]
    have ex2 : ∀ (v : Int32), (if s (30 + 5 * i) = 0 ∧ s (32 + 5 * i) < 60 ∧ 50 ≤ s (34 + 5 * i) then (1 : Int32) else 0) = if f 6 i < 60 ∧ 50 ≤ f 8 i then 1 else 0 := by
      intro v
      rw [r0, r2.1, r4]
      by_cases c1 : f 6 i < 60 ∧ 50 ≤ f 8 i
      · rw [if_pos ⟨hs, c1⟩, if_pos c1]
      · rw [if_neg (fun q => c1 q.2), if_neg c1]
    obtain ⟨s1, hs1⟩ : ∃ s1, s1 = upd s (34 + 5 * i) T := ⟨_, rfl⟩
    have s1o : ∀ x, x ≠ 34 + 5 * i → s1 x = s x := fun x hx => by rw [hs1, upd_o _ _ hx]
    have s1s : s1 (34 + 5 * i) = T := by rw [hs1, upd_s]
    -- the model's visit up to the test
    have mv : ∀ fu l1, F_X12_glows_b4 N (fu + 1) l1 (nI i) s = if T < 100 then F_X12_glows_b120 (F_X12_glows_b4 N fu) N l1 (nI i) s1 else ((F_X12_heats (nI i - 1) (upd (upd s1 (30 + 5 * i) 2) 10 (s 10 + f 5 i))).bind fun x19 => ((F_X12_heats (nI i + 1) x19.2).bind fun x21 => F_X12_glows_b120 (F_X12_glows_b4 N fu) N (l1 + 1) (nI i) x21.2)) := by
      intro fu l1
      rw [F_X12_glows_b4, tn7, h7, if_neg hle, m_of0 (by omega), Option.bind_some, r0, if_pos hs, m_of4 (by omega), Option.bind_some, m_smo (by omega), Option.bind_some, ex2 0]
      have tail : ∀ (z : Int32), (if 15 ≤ z then z else 15) = T → (z < 100 ↔ T < 100) → (F_X12_glows_b46 (F_X12_glows_b4 N fu) N l1 (nI i) (s (34 + 5 * i)) (z - s (34 + 5 * i)) s) = if T < 100 then F_X12_glows_b120 (F_X12_glows_b4 N fu) N l1 (nI i) s1 else ((F_X12_heats (nI i - 1) (upd (upd s1 (30 + 5 * i) 2) 10 (s 10 + f 5 i))).bind fun x19 => ((F_X12_heats (nI i + 1) x19.2).bind fun x21 => F_X12_glows_b120 (F_X12_glows_b4 N fu) N (l1 + 1) (nI i) x21.2)) := by
        intro z hz hz2
        have ez : s (34 + 5 * i) + (z - s (34 + 5 * i)) = z := by grind
        have key : ∀ v, v = T → F_X12_glows_b69 (F_X12_glows_b4 N fu) N l1 (nI i) z (nI (34 + 5 * i)) v s = if T < 100 then F_X12_glows_b120 (F_X12_glows_b4 N fu) N l1 (nI i) s1 else ((F_X12_heats (nI i - 1) (upd (upd s1 (30 + 5 * i) 2) 10 (s 10 + f 5 i))).bind fun x19 => ((F_X12_heats (nI i + 1) x19.2).bind fun x21 => F_X12_glows_b120 (F_X12_glows_b4 N fu) N (l1 + 1) (nI i) x21.2)) := by
          intro v hv
          unfold F_X12_glows_b69
          rw [if_pos hx4, tnI (k := 34 + 5 * i) (by omega), hv, ← hs1]
          by_cases hc : T < 100
          · rw [if_pos (hz2.mpr hc), if_pos hc]
          · rw [if_neg (fun q => hc (hz2.mp q)), if_neg hc, m_atS0, Option.bind_some, if_pos hx0, tnI (k := 30 + 5 * i) (by omega), m_of1 (by omega), Option.bind_some, tn10]
            have e5 : upd s1 (30 + 5 * i) 2 (31 + 5 * i) = f 5 i := by rw [upd_o _ _ (by omega), s1o _ (by omega), r1.1]
            have e10 : upd s1 (30 + 5 * i) 2 10 = s 10 := by rw [upd_o _ _ (by omega), s1o _ (by omega)]
            rw [e5, e10]
        unfold F_X12_glows_b46
        rw [m_atS4, Option.bind_some, ez]
        by_cases hc : 15 ≤ z
        · rw [if_pos hc]; rw [if_pos hc] at hz; exact key z hz
        · rw [if_neg hc]; rw [if_neg hc] at hz; exact key 15 hz
      by_cases c1 : f 6 i < 60 ∧ 50 ≤ f 8 i
      · rw [if_pos c1, if_neg (by decide)]
        have := tail (s (34 + 5 * i) + 2) (by rw [hT, if_pos c1, r4]; rw [if_pos (by grind)]) (by rw [hT, if_pos c1, r4])
        rw [show s (34 + 5 * i) + 2 - s (34 + 5 * i) = 2 by grind] at this
        exact this
      · rw [if_neg c1, if_pos rfl]
        have := tail (s (34 + 5 * i) + -1) (by rw [hT, if_neg c1, r4]; exact (cool_eq hb.1 hb.2).1) (by rw [hT, if_neg c1, r4]; exact (cool_eq hb.1 hb.2).2)
        rw [show s (34 + 5 * i) + -1 - s (34 + 5 * i) = -1 by grind] at this
        exact this
    have kv : ∀ fu l1, F_X5_glow_b4 N (nI ns) (f 5) (f 6) (fu + 1) l1 (nI i) (s 10) (f 4) (f 8) = if T < 100 then F_X5_glow_b44 (F_X5_glow_b4 N (nI ns) (f 5) (f 6) fu) N l1 (nI i) (s 10) (f 4) g8 else ((F_X5_burn (nI i) (s 10) (nI ns) (f 5) (f 4) g8).bind fun x6 => F_X5_glow_b44 (F_X5_glow_b4 N (nI ns) (f 5) (f 6) fu) N (l1 + 1) (nI i) x6.2.1 x6.2.2.1 x6.2.2.2) := by
      intro fu l1
      rw [F_X5_glow_b4, if_neg hle, show F_X5_isStored (nI i) (nI ns) (f 4) = some 1 by rw [k_st hns hi, if_pos hs], Option.bind_some, if_neg (by decide), kw, Option.bind_some, if_pos hx, tnI (by omega), show ((), g8).2 i = T by show g8 i = T; rw [hg8, upd_s]]
    by_cases hc : T < 100
    · refine ⟨f 4, g8, s1, 0, fun fu l1 => ?_, fun fu l1 => ?_, ?_, fun j hj _ => s1o j (by omega)⟩
      · rw [kv, if_pos hc, s1o 10 (by omega), e0]
        unfold F_X5_glow_b44
        rw [nI_1]
      · rw [mv, if_pos hc, e0]
        unfold F_X12_glows_b120
        rw [nI_1]
      · intro k hk
        obtain ⟨q0, q1, q2, q3, q4, q5, q6⟩ := hR k hk
        have z4 : (va_up (va_up f 4 (f 4)) 8 g8) 4 = f 4 := rfl
        have z5 : (va_up (va_up f 4 (f 4)) 8 g8) 5 = f 5 := rfl
        have z6 : (va_up (va_up f 4 (f 4)) 8 g8) 6 = f 6 := rfl
        have z7 : (va_up (va_up f 4 (f 4)) 8 g8) 7 = f 7 := rfl
        have z8 : (va_up (va_up f 4 (f 4)) 8 g8) 8 = g8 := rfl
        rw [z4, z5, z6, z7, z8, s1o _ (by omega), s1o _ (by omega), s1o _ (by omega), s1o _ (by omega)]
        refine ⟨q0, q1, q2, q3, ?_, fun h => ?_, q6⟩
        · by_cases e1 : k = i
          · subst e1; rw [s1s, hg8, upd_s]
          · rw [s1o _ (by omega), hg8, upd_o _ _ e1, q4]
        · by_cases e1 : k = i
          · subst e1; rw [bndi.1, hg8, upd_s]; exact ⟨hTr.1, by grind⟩
          · rw [hg8, upd_o _ _ e1]
            have h1 := q5 h
            by_cases e2 : k = i + 1
            · subst e2; rw [bnd1.2]; have := bnd1.1; exact ⟨h1.1, by grind⟩
            · have := bnd k e1 e2; exact ⟨h1.1, by grind⟩
    · -- it burns
      obtain ⟨s2, hs2⟩ : ∃ s2, s2 = upd (upd s1 (30 + 5 * i) 2) 10 (s 10 + f 5 i) := ⟨_, rfl⟩
      obtain ⟨g4, hg4⟩ : ∃ g4, g4 = upd (f 4) i 2 := ⟨_, rfl⟩
      have s2o : ∀ x, x ≠ 10 → x ≠ 30 + 5 * i → s2 x = s1 x := fun x h1 h2 => by rw [hs2, upd_o _ _ h1, upd_o _ _ h2]
      have hr2 : ∀ j, j < ns → s2 (30 + 5 * j) = g4 j ∧ s2 (34 + 5 * j) = g8 j := by
        intro j hj
        obtain ⟨q0, q1, q2, q3, q4, q5, q6⟩ := hR j hj
        by_cases e1 : j = i
        · subst e1
          refine ⟨?_, ?_⟩
          · rw [hs2, upd_o _ _ (by omega), upd_s, hg4, upd_s]
          · rw [s2o _ (by omega) (by omega), s1s, hg8, upd_s]
        · refine ⟨?_, ?_⟩
          · rw [s2o _ (by omega) (by omega), s1o _ (by omega), hg4, upd_o _ _ e1, q0]
          · rw [s2o _ (by omega) (by omega), s1o _ (by omega), hg8, upd_o _ _ e1, q4]
      obtain ⟨t3, s3, a1, a2, a3, a4⟩ := g_heat hns (nI i - 1) (g := g4) (t := g8) (s := s2) (by rw [s2o _ (by omega) (by omega), s1o _ (by omega), h7]) hr2
      have hr3 : ∀ j, j < ns → s3 (30 + 5 * j) = g4 j ∧ s3 (34 + 5 * j) = t3 j := fun j hj => ⟨by rw [a4 _ (fun q _ => by omega)]; exact (hr2 j hj).1, (a3 j hj).1⟩
      obtain ⟨t4, s4, b1, b2, b3, b4⟩ := g_heat hns (nI i + 1) (g := g4) (t := t3) (s := s3) (by rw [a4 _ (fun q _ => by omega), s2o _ (by omega) (by omega), s1o _ (by omega), h7]) hr3
      have s4o : ∀ x, (∀ j, j < ns → x ≠ 34 + 5 * j) → s4 x = s2 x := fun x hx => by rw [b4 x hx, a4 x hx]
      have e10 : s4 10 = s 10 + f 5 i := by rw [s4o 10 (fun j _ => by omega), hs2, upd_s]
      refine ⟨g4, t4, s4, 1, fun fu l1 => ?_, fun fu l1 => ?_, ?_, fun j hj hj10 => ?_⟩
      · rw [kv, if_neg hc]
        unfold F_X5_burn F_X5_glow_b44
        rw [if_pos hx, if_pos hx, tnI (by omega), ← hg4, a1, Option.bind_some, b1, Option.bind_some, Option.bind_some, e10, nI_1]
      · rw [mv, if_neg hc, ← hs2, a2, Option.bind_some, b2, Option.bind_some]
        unfold F_X12_glows_b120
        rw [nI_1]
      · intro k hk
        obtain ⟨q0, q1, q2, q3, q4, q5, q6⟩ := hR k hk
        have z4 : (va_up (va_up f 4 g4) 8 t4) 4 = g4 := rfl
        have z5 : (va_up (va_up f 4 g4) 8 t4) 5 = f 5 := rfl
        have z6 : (va_up (va_up f 4 g4) 8 t4) 6 = f 6 := rfl
        have z7 : (va_up (va_up f 4 g4) 8 t4) 7 = f 7 := rfl
        have z8 : (va_up (va_up f 4 g4) 8 t4) 8 = t4 := rfl
        have u1 : ∀ x, (∀ j, j < ns → x ≠ 34 + 5 * j) → x ≠ 10 → x ≠ 30 + 5 * i → s4 x = s x := fun x h1 h2 h3 => by rw [s4o x h1, s2o x h2 h3, s1o x (h1 i hi)]
        rw [z4, z5, z6, z7, z8, u1 (31 + 5 * k) (fun j _ => by omega) (by omega) (by omega), u1 (32 + 5 * k) (fun j _ => by omega) (by omega) (by omega), u1 (33 + 5 * k) (fun j _ => by omega) (by omega) (by omega)]
        have h30 : s4 (30 + 5 * k) = g4 k := by rw [s4o _ (fun j _ => by omega)]; exact (hr2 k hk).1
        have hk1 : nI k + 1 = nI (k + 1) := nI_1 k
        have hi1 : nI i + 1 = nI (i + 1) := nI_1 i
        have c3 : t3 k = if k + 1 = i ∧ g4 k = 0 then g8 k + 10 else g8 k := by
          rw [(a3 k hk).2]
          have : (nI i - 1 = nI k) ↔ k + 1 = i := ⟨fun q => ((nI_eq (by omega) (by omega)).mp (show nI (k + 1) = nI i by rw [← hk1]; grind)), fun q => by rw [← q, ← hk1]; grind⟩
          simp only [this]
        have c4 : t4 k = if k = i + 1 ∧ g4 k = 0 then t3 k + 10 else t3 k := by
          rw [(b3 k hk).2]
          have : (nI i + 1 = nI k) ↔ k = i + 1 := ⟨fun q => ((nI_eq (by omega) (by omega)).mp (show nI k = nI (i + 1) by rw [← hi1, q])), fun q => by rw [q, hi1]⟩
          simp only [this]
        refine ⟨h30, q1, q2, q3, (b3 k hk).1, fun h => ?_, ?_⟩
        · by_cases e1 : k = i
          · subst e1; rw [hg4, upd_s] at h; exact absurd h (by decide)
          · have hf4 : f 4 k = 0 := by rw [hg4, upd_o _ _ e1] at h; exact h
            have h1 := q5 hf4
            have eg8 : g8 k = f 8 k := by rw [hg8, upd_o _ _ e1]
            by_cases e2 : k = i + 1
            · have w : pGb i k ≤ 109 ∧ pGb (i + 1) k = 119 := by rw [e2]; exact bnd1
              rw [c4, if_pos ⟨e2, h⟩, c3, if_neg (by omega), eg8, w.2]
              have w1 := w.1
              exact ⟨by grind, by grind⟩
            · by_cases e3 : k + 1 = i
              · rw [c4, if_neg (fun q => e2 q.1), c3, if_pos ⟨e3, h⟩, eg8]
                have w1 : pGb i k = 99 := by unfold pGb; rw [if_neg e1, if_pos e3]
                have w2 : pGb (i + 1) k = 109 := by unfold pGb; rw [if_neg e2, if_neg (by omega)]
                rw [w1] at h1
                rw [w2]
                exact ⟨by grind, by grind⟩
              · rw [c4, if_neg (fun q => e2 q.1), c3, if_neg (fun q => e3 q.1), eg8]
                have := bnd k e1 e2
                exact ⟨h1.1, by grind⟩
        · by_cases e1 : k = i
          · subst e1; rw [hg4, upd_s]; exact Or.inr (Or.inr rfl)
          · rw [hg4, upd_o _ _ e1]; exact q6
      · rw [s4o _ (fun q _ => by omega), s2o _ hj10 (by omega), s1o _ (by omega)]
  · refine ⟨f 4, f 8, s, 0, fun fu l1 => ?_, fun fu l1 => ?_, ?_, fun _ _ _ => rfl⟩
    · rw [F_X5_glow_b4, if_neg hle, k_st hns hi, Option.bind_some, if_neg hs, if_pos rfl, e0]
      unfold F_X5_glow_b44
      rw [nI_1]
    · rw [F_X12_glows_b4, tn7, h7, if_neg hle, m_of0 (by omega), Option.bind_some, r0, if_neg hs, e0]
      unfold F_X12_glows_b120
      rw [nI_1]
    · rw [same]
      intro k hk
      obtain ⟨q0, q1, q2, q3, q4, q5, q6⟩ := hR k hk
      refine ⟨q0, q1, q2, q3, q4, fun h => ?_, q6⟩
      have h1 := q5 h
      by_cases e1 : k = i
      · subst e1; exact absurd h hs
      · by_cases e2 : k = i + 1
        · subst e2; rw [bnd1.2]; have := bnd1.1; exact ⟨h1.1, by grind⟩
        · have := bnd k e1 e2; exact ⟨h1.1, by grind⟩
theorem g_all {N ns : Nat} (hns : ns ≤ 20) : ∀ (d i : Nat) (f : Nat → Nat → Int32) (s : Nat → Int32), i + d = ns → s 7 = nI ns → RSb (pGb i) ns f s →
    ∃ (g4 g8 s' : Nat → Int32) (c : Int32), (∀ fu l1, d < fu → F_X5_glow_b4 N (nI ns) (f 5) (f 6) fu l1 (nI i) (s 10) (f 4) (f 8) = some (l1 + c, s' 10, g4, g8)) ∧
      (∀ fu l1, d < fu → F_X12_glows_b4 N fu l1 (nI i) s = some (l1 + c, s')) ∧ RSb (pGb ns) ns (va_up (va_up f 4 g4) 8 g8) s' ∧ (∀ j, j < 30 → j ≠ 10 → s' j = s j) := by
  intro d
  induction d with
  | zero =>
    intro i f s hi h7 hR
    obtain rfl : i = ns := by omega
    have e0 : ∀ l1 : Int32, l1 + 0 = l1 := fun l1 => by grind
    refine ⟨f 4, f 8, s, 0, fun fu l1 hf => ?_, fun fu l1 hf => ?_, ?_, fun _ _ _ => rfl⟩
    · obtain ⟨k, rfl⟩ : ∃ k, fu = k + 1 := ⟨fu - 1, by omega⟩
      rw [F_X5_glow_b4, if_pos (nI_le (Nat.le_refl _) (by omega)), e0]
    · obtain ⟨k, rfl⟩ : ∃ k, fu = k + 1 := ⟨fu - 1, by omega⟩
      rw [F_X12_glows_b4, tn7, h7, if_pos (nI_le (Nat.le_refl _) (by omega)), e0]
    · have same : va_up (va_up f 4 (f 4)) 8 (f 8) = f := by
        funext k; unfold va_up; split
        · rename_i q; rw [q]
        · split
          · rename_i q; rw [q]
          · rfl
      rw [same]; exact hR
  | succ d ih =>
    intro i f s hi h7 hR
    obtain ⟨g4, g8, s1, c, h1, h2, h3, h4⟩ := g_step (N := N) hns (i := i) (by omega) h7 hR
    obtain ⟨k4, k8, s2, c2, j1, j2, j3, j4⟩ := ih (i + 1) (va_up (va_up f 4 g4) 8 g8) s1 (by omega) (by rw [h4 7 (by decide) (by decide)]; exact h7) h3
    have ec : ∀ l1 : Int32, l1 + c + c2 = l1 + (c + c2) := fun l1 => by grind
    refine ⟨k4, k8, s2, c + c2, fun fu l1 hf => ?_, fun fu l1 hf => ?_, ?_, fun j hj hj2 => (j4 j hj hj2).trans (h4 j hj hj2)⟩
    · obtain ⟨k, rfl⟩ : ∃ k, fu = k + 1 := ⟨fu - 1, by omega⟩
      rw [h1, ← ec]
      exact j1 k _ (by omega)
    · obtain ⟨k, rfl⟩ : ∃ k, fu = k + 1 := ⟨fu - 1, by omega⟩
      rw [h2, ← ec]
      exact j2 k _ (by omega)
    · have e : va_up (va_up (va_up (va_up f 4 g4) 8 g8) 4 k4) 8 k8 = va_up (va_up f 4 k4) 8 k8 := by
        funext k; unfold va_up; split
        · rfl
        · split
          · rfl
          · rfl
      rw [e] at j3
      exact j3
theorem g_glow {N ns : Nat} {f : Nat → Nat → Int32} {s : Nat → Int32} (hN : 1000 ≤ N) (hns : ns ≤ 20) (h7 : s 7 = nI ns) (hR : RS ns f s) :
    ∃ (g4 g8 s' : Nat → Int32) (c : Int32), F_X5_glow N (s 10) (nI ns) (f 5) (f 6) (f 4) (f 8) = some (c, s' 10, g4, g8) ∧ F_X12_glows N s = some (c, s') ∧ RS ns (va_up (va_up f 4 g4) 8 g8) s' ∧ (∀ j, j < 30 → j ≠ 10 → s' j = s j) := by
  have hR0 : RSb (pGb 0) ns f s := fun k hk => by
    obtain ⟨q0, q1, q2, q3, q4, q5, q6⟩ := hR k hk
    refine ⟨q0, q1, q2, q3, q4, fun h => ⟨(q5 h).1, ?_⟩, q6⟩
    have h1 := (q5 h).2
    unfold pGb; split
    · grind
    · rw [if_neg (by omega)]; exact h1
  obtain ⟨g4, g8, s', c, h1, h2, h3, h4⟩ := g_all (N := N) hns ns 0 f s (by omega) h7 hR0
  have e0 : ∀ c : Int32, 0 + c = c := fun l1 => by grind
  refine ⟨g4, g8, s', c, ?_, ?_, fun k hk => ?_, h4⟩
  · have := h1 N 0 (by omega); rw [e0] at this; exact this
  · have := h2 N 0 (by omega); rw [e0] at this; exact this
  · obtain ⟨q0, q1, q2, q3, q4, q5, q6⟩ := h3 k hk
    refine ⟨q0, q1, q2, q3, q4, fun h => ⟨(q5 h).1, ?_⟩, q6⟩
    have h1 := (q5 h).2
    unfold pGb at h1
    rw [if_neg (by omega)] at h1
    split at h1 <;> grind
