/-! PURE: undo, save, restore -/
def tS : Nat → Int32 := fun n => if n = 0 then 1 else 0
def tI : Nat → Int32 := fun n => if n = 2 then 1 else 0
section UNDOS
variable {N nf ns u fi : Nat} {f : Nat → Nat → Int32} {s past kept slots t : Nat → Int32} {P S : Nat → Option xHO}
theorem p_undo (hN : 1000 ≤ N) (hQ : RQ nf ns f s) (h : RPs u fi P past) (g0 : xHO) (th : Int32) :
    ∃ (gH : xHO) (k : Nat ⊕ Int32) (v e : Int32) (u2 nf2 ns2 : Nat) (f2 : Nat → Nat → Int32) (s2 : Nat → Int32), (¬ nI u = 0 → P (hPl (nI u - 1) (nI fi)).toNatClampNeg = some gH) ∧ RQ nf2 ns2 f2 s2 ∧ RPs u2 fi P past ∧ AnsT tS k v e ∧
      F_X11_undo gH (nI u) (nI fi) (s 12) (s 1) (s 8) (s 0) (s 13) (s 2) (s 5) (s 3) (s 4) (s 6) (f 0) (f 1) (f 2) (f 3) (s 10) (s 7) (s 11) (s 9) (f 5) (f 6) (f 7) (f 4) (f 8) = some (k, nI u2, s2 12, s2 1, s2 8, s2 0, s2 13, s2 2, s2 5, s2 3, s2 4, s2 6, f2 0, f2 1, f2 2, f2 3, s2 10, s2 7, s2 11, s2 9, f2 5, f2 6, f2 7, f2 4, f2 8, 0) ∧
      F_X12_undo N th (nI u) past s = some (v, e, nI u2, s2) := by
  obtain ⟨hu, hf, hk⟩ := id h
  by_cases h0 : u = 0
  · subst h0
    refine ⟨g0, Sum.inl 0, 0, 1, 0, nf, ns, f, s, fun q => absurd rfl q, hQ, h, Or.inr ⟨0, rfl, rfl, rfl, by decide⟩, ?_, ?_⟩
    · unfold F_X11_undo
      rw [if_pos (show nI 0 = 0 from rfl)]
    · unfold F_X12_undo F_X12_undo_b18
      rw [if_pos (show nI 0 = 0 from rfl), st_1, Option.bind_some]
      dsimp only
      rw [if_neg (by decide)]
  · have hne : ¬ nI u = 0 := fun q => by have := (nI_eq (a := u) (b := 0) (by omega) (by decide)).mp q; omega
    have hpm : nI u - 1 = nI (u - 1) := nI_pm (by omega)
    obtain ⟨g, g1, g2⟩ := hk (u - 1) (by omega)
    obtain ⟨s2, c1, c2, -⟩ := m_copiesG (N := N) (n0 := 1040) (n2 := 130) (o := 130 * (u - 1)) (p := 0) hN (by omega) (by omega) (by omega) (by omega) past s
    obtain ⟨nf2, ns2, hQ2, hv⟩ := g2.back (f := f) (s' := s2) (fun j hj => by have := c2 j hj; rw [Nat.zero_add] at this; exact this)
    have hpl : hPl (nI u - 1) (nI fi) = nI ((fi + (u - 1)) % 8) := by rw [hpm]; exact hPl_nI (by omega) hf
    refine ⟨g, Sum.inr (nI (u - 1)), nI (u - 1), 0, u - 1, nf2, ns2, fCp g.2.2 f, s2, fun _ => by rw [hpl, tnI (by omega)]; exact g1, hQ2, ⟨by omega, hf, fun k hk2 => hk k (by omega)⟩, Or.inl ⟨rfl, rfl⟩, ?_, ?_⟩
    · unfold F_X11_undo
      rw [if_neg hne, if_pos (by rw [hpl]; exact xin_nI (Nat.mod_lt _ (by decide)) (by decide)), if_pos (show ¬ nI u ≤ 0 from nI_ge (b := u) (a := 0) (by omega) (by omega)), hpm]
      rw [hv 12 (by decide), hv 1 (by decide), hv 8 (by decide), hv 0 (by decide), hv 13 (by decide), hv 2 (by decide), hv 5 (by decide), hv 3 (by decide), hv 4 (by decide), hv 6 (by decide), hv 10 (by decide), hv 7 (by decide), hv 11 (by decide), hv 9 (by decide)]
      rfl
    · unfold F_X12_undo F_X12_undo_b18
      rw [if_neg hne, st_0, Option.bind_some]
      dsimp only
      rw [if_pos rfl, hpm, show (130 : Int32) * nI (u - 1) = nI (130 * (u - 1)) from pk_mul 130 (u - 1), show (0 : Int32) = nI 0 from rfl, c1, Option.bind_some]
theorem nl_in {i : Nat} (hi : i < 2) : F_X12_noSlot (nI i) 0 = some (0, 0) := by
  rcases (show i = 0 ∨ i = 1 by omega) with rfl | rfl <;> rfl
theorem nl_out {a : Int32} (ha : ¬ (0 ≤ a ∧ a ≤ 1)) : F_X12_noSlot a 0 = some (1, 1) := by
  unfold F_X12_noSlot
  rw [show F_X12_in (Int32.toInt64 a) (Int64.ofNat 0) (Int64.ofNat 1) = some (if 0 ≤ a ∧ a ≤ 1 then 1 else 0) from m_in0 a 1, if_neg ha, Option.bind_some, if_pos rfl]
  rfl
theorem rl_in {i : Nat} (hi : i < 2) : F_X11_requireSlot (nI i) = some (Sum.inr ()) := by
  rcases (show i = 0 ∨ i = 1 by omega) with rfl | rfl <;> rfl
theorem rl_out {a : Int32} (ha : ¬ (0 ≤ a ∧ a ≤ 1)) : F_X11_requireSlot a = some (Sum.inl 2) := by
  unfold F_X11_requireSlot
  rw [k_within, if_neg ha, Option.bind_some, if_pos rfl]
theorem l_of (a : Int32) : (∃ i, i < 2 ∧ a = nI i) ∨ ¬ (0 ≤ a ∧ a ≤ 1) := by
  by_cases h : 0 ≤ a ∧ a ≤ 1
  · obtain ⟨k, hk, e⟩ := n_of (x := a) (n := 1) (by decide) h.1 h.2
    exact Or.inl ⟨k, by omega, e⟩
  · exact Or.inr h
theorem p_save {Z : xSl} (hN : 1000 ≤ N) (hQ : RQ nf ns f s) (h : RSl (hE Z) kept slots) (a hc hf th : Int32) :
    ∃ (k : Nat ⊕ Int32) (v e : Int32) (r : Nat) (kept2 slots2 : Nat → Int32), AnsT tI k v e ∧ ((r = 0 ∧ kept2 = kept ∧ slots2 = slots) ∨ (r = 2 ∧ ∀ adr S', hRS a Z (adr, hSV s, hFV f t) S' → RSl (hE S') kept2 slots2)) ∧
      F_X11_save a hc hf (s 0) = some (k, r) ∧ F_X12_save N a th kept s slots = some (v, e, kept2, slots2) := by
  rcases l_of a with ⟨i, hi, rfl⟩ | h1
  · obtain ⟨sl, c1, c2, c3⟩ := m_copiesG (N := N) (n0 := 130) (n2 := 260) (o := 0) (p := 130 * i) hN (by omega) (by omega) (by omega) (by omega) s slots
    refine ⟨Sum.inr (s 0), s 0, 0, 2, upd kept i 1, sl, Or.inl ⟨rfl, rfl⟩, Or.inr ⟨rfl, fun adr S' hS' => ?_⟩, ?_, ?_⟩
    · obtain ⟨a', g, rfl⟩ := hS'
      rw [hE_fill]
      intro k hk
      rw [tnI (by omega)]
      by_cases hki : k = i
      · subst hki
        right
        rw [upd_s, va_s]
        exact ⟨by decide, _, rfl, RHk.now hQ (fun j hj => by rw [c2 j hj, Nat.zero_add]) a'⟩
      · rw [upd_o _ _ hki, va_o _ _ hki]
        rcases h k hk with q | ⟨q1, g', q2, q3⟩
        · exact Or.inl q
        · exact Or.inr ⟨q1, g', q2, q3.cong (fun j hj => c3 _ (by omega))⟩
    · unfold F_X11_save
      rw [rl_in hi, Option.bind_some]
      dsimp only [Sum.elim]
      rw [if_pos (xin_nI hi (by decide))]
    · unfold F_X12_save
      rw [nl_in hi, Option.bind_some]
      dsimp only
      rw [if_pos rfl, show (130 : Int32) * nI i = nI (130 * i) from pk_mul 130 i, show (0 : Int32) = nI 0 from rfl, c1, Option.bind_some, if_pos (xin_nI hi (by decide)), tnI (k := i) (by omega)]
      rfl
  · refine ⟨Sum.inl 2, 0, 1, 0, kept, slots, Or.inr ⟨2, rfl, rfl, rfl, by decide⟩, Or.inl ⟨rfl, rfl, rfl⟩, ?_, ?_⟩
    · unfold F_X11_save
      rw [rl_out h1, Option.bind_some]
      rfl
    · unfold F_X12_save
      rw [nl_out h1, Option.bind_some]
      dsimp only
      rw [if_neg (by decide)]
theorem p_restore (hN : 1000 ≤ N) (hQ : RQ nf ns f s) (h : RSl S kept slots) (a hf th : Int32) :
    ∃ (k : Nat ⊕ Int32) (v e : Int32) (u2 nf2 ns2 : Nat) (f2 : Nat → Nat → Int32) (s2 : Nat → Int32), RQ nf2 ns2 f2 s2 ∧ (u2 = u ∨ u2 = 0) ∧ AnsT tIS k v e ∧
      F_X11_restore (S (Int32.toNatClampNeg a)) a (nI u) hf (s 12) (s 1) (s 8) (s 0) (s 13) (s 2) (s 5) (s 3) (s 4) (s 6) (f 0) (f 1) (f 2) (f 3) (s 10) (s 7) (s 11) (s 9) (f 5) (f 6) (f 7) (f 4) (f 8) = some (k, nI u2, s2 12, s2 1, s2 8, s2 0, s2 13, s2 2, s2 5, s2 3, s2 4, s2 6, f2 0, f2 1, f2 2, f2 3, s2 10, s2 7, s2 11, s2 9, f2 5, f2 6, f2 7, f2 4, f2 8, 0) ∧
      F_X12_restore N a th (nI u) kept s slots = some (v, e, nI u2, s2) := by
  rcases l_of a with ⟨i, hi, rfl⟩ | h1
  · rcases h i hi with ⟨q1, q2⟩ | ⟨q1, g, q2, q3⟩
    · refine ⟨Sum.inl 0, 0, 2, u, nf, ns, f, s, hQ, Or.inl rfl, Or.inr ⟨0, rfl, rfl, rfl, by decide⟩, ?_, ?_⟩
      · rw [tnI (by omega), q2]
        unfold F_X11_restore
        rw [rl_in hi, Option.bind_some]
        dsimp only [Sum.elim]
        rw [if_pos (xin_nI hi (by decide))]
        rfl
      · unfold F_X12_restore F_X12_restore_b28
        rw [nl_in hi, Option.bind_some]
        dsimp only
        rw [if_pos rfl, if_pos (xin_nI hi (by decide)), tnI (by omega), if_pos q1, st_2, Option.bind_some]
        dsimp only
        rw [if_neg (by decide)]
        rfl
    · obtain ⟨s2, c1, c2, -⟩ := m_copiesG (N := N) (n0 := 260) (n2 := 130) (o := 130 * i) (p := 0) hN (by omega) (by omega) (by omega) (by omega) slots s
      obtain ⟨nf2, ns2, hQ2, hv⟩ := q3.back (f := f) (s' := s2) (fun j hj => by have := c2 j hj; rw [Nat.zero_add] at this; exact this)
      refine ⟨Sum.inr (s2 0), s2 0, 0, 0, nf2, ns2, fCp g.2.2 f, s2, hQ2, Or.inr rfl, Or.inl ⟨rfl, rfl⟩, ?_, ?_⟩
      · rw [tnI (by omega), q2]
        unfold F_X11_restore F_X2_forgetChanges
        rw [rl_in hi, Option.bind_some]
        dsimp only [Sum.elim]
        rw [if_pos (xin_nI hi (by decide))]
        dsimp only [Option.elim]
        rw [Option.bind_some, hv 12 (by decide), hv 1 (by decide), hv 8 (by decide), hv 0 (by decide), hv 13 (by decide), hv 2 (by decide), hv 5 (by decide), hv 3 (by decide), hv 4 (by decide), hv 6 (by decide), hv 10 (by decide), hv 7 (by decide), hv 11 (by decide), hv 9 (by decide)]
        rfl
      · unfold F_X12_restore F_X12_restore_b28
        rw [nl_in hi, Option.bind_some]
        dsimp only
        rw [if_pos rfl, if_pos (xin_nI hi (by decide)), tnI (by omega), if_neg q1, st_0, Option.bind_some]
        dsimp only
        rw [if_pos rfl, show (130 : Int32) * nI i = nI (130 * i) from pk_mul 130 i, show (0 : Int32) = nI 0 from rfl, c1, Option.bind_some]
        rfl
  · refine ⟨Sum.inl 2, 0, 1, u, nf, ns, f, s, hQ, Or.inl rfl, Or.inr ⟨2, rfl, rfl, rfl, by decide⟩, ?_, ?_⟩
    · unfold F_X11_restore
      rw [rl_out h1, Option.bind_some]
      rfl
    · unfold F_X12_restore
      rw [nl_out h1, Option.bind_some]
      dsimp only
      rw [if_neg (by decide)]
      rfl
end UNDOS
