/-! PURE: houses that are kept: the ring and the slots of the class, the rows of the model -/
theorem m_copiesG {N n0 n2 o p : Nat} (hN : 1000 ≤ N) (h0 : o + 130 ≤ n0) (h2 : p + 130 ≤ n2) (h3 : n0 ≤ 2000) (h4 : n2 ≤ 2000) (f g : Nat → Int32) : ∃ g', F_X12_copies N n0 n2 (nI o) (nI p) f g = some ((), g') ∧ (∀ j, j < 130 → g' (p + j) = f (o + j)) ∧ (∀ j, (j < p ∨ p + 130 ≤ j) → g' j = g j) := by
  refine ⟨it (fun k g => upd g (p + k) (f (o + k))) 0 130 g, ?_, fun j hj => by rw [it_updAt p (fun k => f (o + k)), if_pos (by omega), show p + j - p = j by omega], fun j hj => by rw [it_updAt p (fun k => f (o + k)), if_neg (by omega)]⟩
  unfold F_X12_copies
  refine lp_run (fun fu l a => F_X12_copies_b3 N n0 n2 f fu (nI o) (nI p) l a) 130 (fun k g => upd g (p + k) (f (o + k))) (fun a => some ((), a)) (fun fu i a hi => ?_) (fun fu a => ?_) 130 0 N g rfl (by omega)
  · have hx : xin (nI o + nI i) n0 = true := by rw [nI_add]; exact xin_nI (by omega) (by omega)
    have hy : xin (nI p + nI i) n2 = true := by rw [nI_add]; exact xin_nI (by omega) (by omega)
    show F_X12_copies_b3 N n0 n2 f (fu + 1) (nI o) (nI p) (nI i) a = _
    rw [F_X12_copies_b3, if_neg (show ¬ (130 : Int32) ≤ nI i from nI_ge (b := 130) hi (by decide)), if_pos hx, if_pos hy, nI_add, nI_add, tnI (by omega), tnI (by omega), nI_1]
  · show F_X12_copies_b3 N n0 n2 f (fu + 1) (nI o) (nI p) (nI 130) a = _
    rw [F_X12_copies_b3, if_pos (show (130 : Int32) ≤ nI 130 by decide)]
/-- a kept house and a block of the model's -/
def RHk (g : xHO) (p : Nat → Int32) (o : Nat) : Prop := ∃ nf ns, RQ nf ns g.2.2 (fun j => p (o + j)) ∧ ∀ j, j < 14 → g.2.1 j = p (o + j)
theorem RHk.cong {g : xHO} {p p' : Nat → Int32} {o o' : Nat} (h : RHk g p o) (hp : ∀ j, j < 130 → p' (o' + j) = p (o + j)) : RHk g p' o' := by
  obtain ⟨nf, ns, hR, hv⟩ := h
  exact ⟨nf, ns, hR.congp hp (fun _ _ _ _ => rfl) (fun _ _ _ _ _ => rfl), fun j hj => by rw [hv j hj, hp j (by omega)]⟩
theorem hCp_f {f g : Nat → Nat → Int32} {r j : Nat} (hr : r < 4) (hj : j < 4) : hCp f g r j = f r j := by
  unfold hCp
  rw [if_pos hr]
  exact cpy_in hj
theorem hCp_s {f g : Nat → Nat → Int32} {r j : Nat} (h4 : 4 ≤ r) (h9 : r < 9) (hj : j < 20) : hCp f g r j = f r j := by
  unfold hCp
  rw [if_neg (by omega), if_pos h9]
  exact cpy_in hj
abbrev hSV (s : Nat → Int32) : Nat → Int32 := hxV (s 0) (s 1) (s 2) (s 3) (s 4) (s 5) (s 6) (s 7) (s 8) (s 9) (s 10) (s 11) (s 12) (s 13)
abbrev hFV (f : Nat → Nat → Int32) (t : Nat → Int32) : Nat → Nat → Int32 := hxF (f 0) (f 1) (f 2) (f 3) (f 4) (f 5) (f 6) (f 7) (f 8) t
theorem hSV_j (s : Nat → Int32) : ∀ j, j < 14 → hSV s j = s j := by
  intro j hj
  match j, hj with
  | 0, _ => rfl
  | 1, _ => rfl
  | 2, _ => rfl
  | 3, _ => rfl
  | 4, _ => rfl
  | 5, _ => rfl
  | 6, _ => rfl
  | 7, _ => rfl
  | 8, _ => rfl
  | 9, _ => rfl
  | 10, _ => rfl
  | 11, _ => rfl
  | 12, _ => rfl
  | 13, _ => rfl
theorem hFV_j (f : Nat → Nat → Int32) (t : Nat → Int32) : ∀ r, r < 9 → hFV f t r = f r := by
  intro j hj
  match j, hj with
  | 0, _ => rfl
  | 1, _ => rfl
  | 2, _ => rfl
  | 3, _ => rfl
  | 4, _ => rfl
  | 5, _ => rfl
  | 6, _ => rfl
  | 7, _ => rfl
  | 8, _ => rfl
/-- the house as it is now, kept -/
theorem RHk.now {nf ns : Nat} {f g : Nat → Nat → Int32} {s t p : Nat → Int32} {o : Nat} (h : RQ nf ns f s) (hp : ∀ j, j < 130 → p (o + j) = s j) (a : Nat → Nat) : RHk (a, hSV s, hCp (hFV f t) g) p o := by
  exact ⟨nf, ns, h.congp hp (fun r j hr hj => by show hCp (hFV f t) g r j = _; rw [hCp_f hr hj, hFV_j f t r (by omega)]) (fun r j h4 h9 hj => by show hCp (hFV f t) g r j = _; rw [hCp_s h4 h9 hj, hFV_j f t r h9]), fun j hj => by rw [hp j (by omega)]; exact hSV_j s j hj⟩
/-- the past: u changes, the ring's first place is fi -/
def RPs (u fi : Nat) (P : Nat → Option xHO) (past : Nat → Int32) : Prop := u ≤ 8 ∧ fi < 8 ∧ ∀ k, k < u → ∃ g, P ((fi + k) % 8) = some g ∧ RHk g past (130 * k)
theorem hPl_nI {u fi : Nat} (hu : u ≤ 8) (hf : fi < 8) : hPl (nI u) (nI fi) = nI ((fi + u) % 8) := by
  unfold hPl
  rw [nI_add]
  exact pk_rem (d := 8) (by omega) (by decide) (by decide)
theorem hPl_1 {fi : Nat} (hf : fi < 8) : hPl 1 (nI fi) = nI ((fi + 1) % 8) := hPl_nI (u := 1) (by decide) hf
theorem k_rec {u fi : Nat} (hu : u ≤ 8) (hf : fi < 8) : F_X2_record (nI u) (nI fi) = some ((), if u = 8 then nI u else nI (u + 1), if u = 8 then nI ((fi + 1) % 8) else nI fi) := by
  unfold F_X2_record
  rw [hPl_nI hu hf, if_pos (xin_nI (Nat.mod_lt _ (by decide)) (by decide))]
  by_cases h : u = 8
  · rw [if_pos (by rw [h]; decide), hPl_1 hf, if_pos h, if_pos h]
  · rw [if_neg (show ¬ (8 : Int32) ≤ nI u from nI_ge (b := 8) (by omega) (by decide)), nI_1, if_neg h, if_neg h]
/-- a record, both sides -/
theorem p_record {N u fi nf ns : Nat} {f : Nat → Nat → Int32} {s t past : Nat → Int32} {P : Nat → Option xHO} (hN : 1000 ≤ N) (h : RPs u fi P past) (hQ : RQ nf ns f s) :
    ∃ (u' fi' : Nat) (past' : Nat → Int32), F_X12_keepsPast N (nI u) past s = some ((), nI u', past') ∧ F_X2_record (nI u) (nI fi) = some ((), nI u', nI fi') ∧
      ∀ (a : Nat → Nat) (P' : Nat → Option xHO), hR (nI u) (nI fi) P (a, hSV s, hFV f t) P' → RPs u' fi' P' past' := by
  obtain ⟨hu, hf, hk⟩ := h
  by_cases h8 : u = 8
  · subst h8
    obtain ⟨p', g1, g2, g3⟩ := m_keeps8 hN past s
    refine ⟨8, (fi + 1) % 8, p', g1, by rw [k_rec hu hf, if_pos rfl, if_pos rfl], fun a P' hP => ?_⟩
    obtain ⟨a', g, rfl⟩ := hP
    refine ⟨Nat.le_refl _, Nat.mod_lt _ (by decide), fun k hk8 => ?_⟩
    rw [hPl_nI hu hf, tnI (by omega)]
    by_cases h7 : k = 7
    · subst h7
      refine ⟨_, ?_, RHk.now (s := s) (f := f) (t := t) (g := g) (p := p') (o := 130 * 7) hQ (fun j hj => g2 j hj) a'⟩
      rw [show ((fi + 1) % 8 + 7) % 8 = (fi + 8) % 8 by omega, va_s]
    · obtain ⟨q, q1, q2⟩ := hk (k + 1) (by omega)
      refine ⟨q, ?_, q2.cong (fun j hj => by rw [g3 _ (by omega)]; exact congrArg past (by omega))⟩
      rw [va_o _ _ (by omega), show ((fi + 1) % 8 + k) % 8 = (fi + (k + 1)) % 8 by omega]
      exact q1
  · obtain ⟨p', g1, g2, g3⟩ := m_keeps hN (u := u) (by omega) past s
    refine ⟨u + 1, fi, p', g1, by rw [k_rec hu hf, if_neg h8, if_neg h8], fun a P' hP => ?_⟩
    obtain ⟨a', g, rfl⟩ := hP
    refine ⟨by omega, hf, fun k hk8 => ?_⟩
    rw [hPl_nI hu hf, tnI (by omega)]
    by_cases h7 : k = u
    · subst h7
      refine ⟨_, ?_, RHk.now (s := s) (f := f) (t := t) (g := g) (p := p') (o := 130 * k) hQ g2 a'⟩
      rw [va_s]
    · obtain ⟨q, q1, q2⟩ := hk k (by omega)
      refine ⟨q, ?_, q2.cong (fun j hj => g3 _ (by omega))⟩
      rw [va_o _ _ (by omega)]
      exact q1
/-- the slots -/
def RSl (S : Nat → Option xHO) (kept slots : Nat → Int32) : Prop := ∀ k, k < 2 → (kept k = 0 ∧ S k = none) ∨ (¬ kept k = 0 ∧ ∃ g, S k = some g ∧ RHk g slots (130 * k))
theorem RSl.none (S : xSl) (kept slots : Nat → Int32) : RSl (hE (hNo S)) (upd (upd kept 0 0) 1 0) slots := by
  rw [hE_no]
  intro k hk
  left
  rcases (show k = 0 ∨ k = 1 by omega) with rfl | rfl
  · exact ⟨rfl, rfl⟩
  · exact ⟨rfl, rfl⟩
/-- the rows that a copy of a kept house leaves -/
theorem RHk.back {g : xHO} {p s' : Nat → Int32} {f : Nat → Nat → Int32} {o : Nat} (h : RHk g p o) (hs : ∀ j, j < 130 → s' j = p (o + j)) : ∃ nf ns, RQ nf ns (fCp g.2.2 f) s' ∧ ∀ j, j < 14 → g.2.1 j = s' j := by
  obtain ⟨nf, ns, hR, hv⟩ := h
  exact ⟨nf, ns, hR.congp hs (fun r j hr hj => fCp_f hj) (fun r j h4 h9 hj => by obtain ⟨k, rfl⟩ : ∃ k, r = k + 4 := ⟨r - 4, by omega⟩; exact fCp_s hj), fun j hj => by rw [hv j hj, hs j (by omega)]⟩
