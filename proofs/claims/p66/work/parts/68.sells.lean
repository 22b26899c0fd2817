/-! PURE: sell, quench, advance -/
theorem k_canSell {ns k : Nat} (hns : ns ≤ 20) (hk : k < ns) (g m t : Nat → Int32) : F_X5_canSell (nI k) (nI ns) m g t = some (if g k = 0 ∧ ¬ (m k < 60 ∧ 50 ≤ t k) then 1 else 0) := by
  unfold F_X5_canSell F_X5_canSell_b20
  rw [k_st hns hk, Option.bind_some]
  by_cases h1 : g k = 0
  · rw [if_pos h1, if_neg (by decide), k_smo hns hk, Option.bind_some]
    by_cases h2 : m k < 60 ∧ 50 ≤ t k
    · rw [if_pos (show g k = 0 ∧ m k < 60 ∧ 50 ≤ t k from ⟨h1, h2⟩), if_neg (show ¬ (1 : Int32) = 0 by decide), if_neg (show ¬ (g k = 0 ∧ ¬ (m k < 60 ∧ 50 ≤ t k)) from fun q => q.2 h2)]
    · rw [if_neg (show ¬ (g k = 0 ∧ m k < 60 ∧ 50 ≤ t k) from fun q => h2 q.2), if_pos rfl, if_pos (show g k = 0 ∧ ¬ (m k < 60 ∧ 50 ≤ t k) from ⟨h1, h2⟩)]
  · rw [if_neg h1, if_pos rfl, if_neg (fun q => h1 q.1)]
theorem k_canSellO {ns : Nat} (hns : ns ≤ 20) {a : Int32} (ha : a < 0 ∨ nI ns ≤ a) (g m t : Nat → Int32) : F_X5_canSell a (nI ns) m g t = some 0 := by
  unfold F_X5_canSell F_X5_canSell_b20
  rw [k_stO hns ha, Option.bind_some, if_pos rfl]
theorem m_stored {ns k : Nat} {s : Nat → Int32} (h7 : s 7 = nI ns) (hns : ns ≤ 20) (hk : k < ns) : F_X12_isStored (nI k) s = some (if s (30 + 5 * k) = 0 then 1 else 0) := by
  unfold F_X12_isStored F_X12_isStored_b32
  rw [tn7, h7, m_in0, if_pos (nf_in hns hk), Option.bind_some, if_neg (by decide), m_of0 (by omega), Option.bind_some]
  by_cases h : s (30 + 5 * k) = 0
  · rw [if_pos h, if_pos h]
  · rw [if_neg h, if_neg h]
theorem m_storedO {ns : Nat} {a : Int32} {s : Nat → Int32} (h7 : s 7 = nI ns) (ha : ¬ (0 ≤ a ∧ a ≤ nI ns - 1)) : F_X12_isStored a s = some 0 := by
  unfold F_X12_isStored F_X12_isStored_b32
  rw [tn7, h7, m_in0, if_neg ha, Option.bind_some, if_pos rfl]
section SELLS
variable {N nf ns : Nat} {f : Nat → Nat → Int32} {s past past' : Nat → Int32} {hc hf hc' hf' ud ud' : Int32}
theorem p_sellF (hN : 1000 ≤ N) (hQ : RQ nf ns f s) (hK : F_X12_keepsPast N ud past s = some ((), ud', past')) (hH : F_X2_record hc hf = some ((), hc', hf')) (a th : Int32) :
    ∃ (k : Nat ⊕ Int32) (v e : Int32) (r : Nat) (f2 : Nat → Nat → Int32) (s2 : Nat → Int32), RQ nf ns f2 s2 ∧ (r = 0 ∨ r = 1) ∧ AnsT tIS k v e ∧ (∀ j, j ≠ 4 → f2 j = f j) ∧ (∀ j, j < 14 → j ≠ 9 → j ≠ 11 → s2 j = s j) ∧
      F_X11_sell a hc hf (s 7) (s 11) (s 9) (f 5) (f 6) (f 7) (f 4) (f 8) = some (k, if r = 1 then hc' else hc, if r = 1 then hf' else hf, s2 11, s2 9, f2 4, r) ∧
      F_X12_sell N a th ud past s = some (v, e, if r = 1 then ud' else ud, if r = 1 then past' else past, s2) := by
  obtain ⟨hR, h0, hD⟩ := id hQ
  obtain ⟨⟨h6, hn1, hn4⟩, ⟨h7, hns⟩, hh, hA, hF, hS⟩ := id hR
  rcases i_of (n := ns) (by omega) a with ⟨i, hi, rfl⟩ | ⟨h1, h2⟩
  · obtain ⟨r0, r1, r2, r3, r4, r5, r6⟩ := hS i hi
    by_cases hw : f 4 i = 0 ∧ ¬ (f 6 i < 60 ∧ 50 ≤ f 8 i)
    · obtain ⟨s2, g1, g2, g3, g4⟩ := p_sell hR hi
      refine ⟨Sum.inr (pPr f i), pPr f i, 0, 1, _, s2, ⟨g3, by rw [g4 0 (by decide) (by decide) (by decide)]; exact h0, hD.cong (g4 1 (by decide) (by decide) (by decide)) (g4 2 (by decide) (by decide) (by decide)) (g4 3 (by decide) (by decide) (by decide)) (g4 4 (by decide) (by decide) (by decide)) (g4 5 (by decide) (by decide) (by decide)) (fun j hj => (RF_16 hF (RF.cong g3.2.2.2.2.1 hn4 (fun _ _ _ => rfl) rfl rfl rfl rfl) hj).1) (fun j hj => (RF_16 hF (RF.cong g3.2.2.2.2.1 hn4 (fun _ _ _ => rfl) rfl rfl rfl rfl) hj).2)⟩, Or.inr rfl, Or.inl ⟨rfl, rfl⟩, fun j hj => va_o f _ hj, g4, ?_, ?_⟩
      · unfold F_X11_sell
        rw [show F_X11_requireSack (nI i) (s 7) = some (Sum.inr ()) by rw [h7]; exact rS_in hns hi, Option.bind_some]
        dsimp only [Sum.elim]
        rw [show F_X5_canSell (nI i) (s 7) (f 6) (f 4) (f 8) = some 1 by rw [h7, k_canSell hns hi, if_pos hw], Option.bind_some, if_neg (by decide), hH, Option.bind_some, g1, Option.bind_some, show F_X5_price (nI i) (s 7) (f 5) (f 6) (f 7) = some (pPr f i) by rw [h7, k_price hns hi], Option.bind_some, if_pos rfl, if_pos rfl, va_s]
      · unfold F_X12_sell F_X12_sell_b35
        rw [nS_in h7 hns hi, Option.bind_some]
        dsimp only
        rw [if_pos rfl, m_stored h7 hns hi, r0, if_pos hw.1, Option.bind_some, if_neg (by decide), m_smo (by omega), r0, r2.1, r4, if_neg (fun q => hw.2 q.2), Option.bind_some, if_pos rfl, st_0, Option.bind_some]
        dsimp only
        rw [if_pos rfl, hK, Option.bind_some, g2, Option.bind_some, if_pos rfl, if_pos rfl]
    · refine ⟨Sum.inl 0, 0, 2, 0, f, s, hQ, Or.inl rfl, Or.inr ⟨0, rfl, rfl, rfl, by decide⟩, fun _ _ => rfl, fun _ _ _ _ => rfl, ?_, ?_⟩
      · unfold F_X11_sell
        rw [show F_X11_requireSack (nI i) (s 7) = some (Sum.inr ()) by rw [h7]; exact rS_in hns hi, Option.bind_some]
        dsimp only [Sum.elim]
        rw [show F_X5_canSell (nI i) (s 7) (f 6) (f 4) (f 8) = some 0 by rw [h7, k_canSell hns hi, if_neg hw], Option.bind_some, if_pos rfl, if_neg (by decide), if_neg (by decide)]
      · unfold F_X12_sell F_X12_sell_b30 F_X12_sell_b35
        rw [nS_in h7 hns hi, Option.bind_some]
        dsimp only
        rw [if_pos rfl, m_stored h7 hns hi, r0]
        have fin : ((F_X12_stops 1 2 0).bind fun x10 => (if x10.1 = 0 then ((F_X12_keepsPast N ud past s).bind fun x12 => ((F_X12_sells (nI i) s).bind fun x14 => some (x14.1, x10.2, x12.2.1, x12.2.2, x14.2))) else F_X12_sell_b42 N x10.2 ud past s)) = some (0, 2, ud, past, s) := by
          rw [st_2, Option.bind_some]
          dsimp only
          rw [if_neg (by decide)]
          rfl
        by_cases h1 : f 4 i = 0
        · have h2 : f 6 i < 60 ∧ 50 ≤ f 8 i := Classical.byContradiction fun q => hw ⟨h1, q⟩
          rw [if_pos h1, Option.bind_some, if_neg (by decide), m_smo (by omega), r0, r2.1, r4, if_pos ⟨h1, h2⟩, Option.bind_some, if_neg (by decide), fin, if_neg (by decide), if_neg (by decide)]
        · rw [if_neg h1, Option.bind_some, if_pos rfl, fin, if_neg (by decide), if_neg (by decide)]
  · refine ⟨Sum.inl 2, 0, 1, 0, f, s, hQ, Or.inl rfl, Or.inr ⟨2, rfl, rfl, rfl, by decide⟩, fun _ _ => rfl, fun _ _ _ _ => rfl, ?_, ?_⟩
    · unfold F_X11_sell
      rw [show F_X11_requireSack a (s 7) = some (Sum.inl 2) by rw [h7]; exact rS_out h2, Option.bind_some]
      dsimp only [Sum.elim]
      rw [if_neg (by decide), if_neg (by decide)]
    · unfold F_X12_sell
      rw [nS_out h7 h1, Option.bind_some]
      dsimp only
      rw [if_neg (by decide), if_neg (by decide), if_neg (by decide)]
      rfl
theorem p_quenchF (hN : 1000 ≤ N) (hQ : RQ nf ns f s) (hK : F_X12_keepsPast N ud past s = some ((), ud', past')) (hH : F_X2_record hc hf = some ((), hc', hf')) (a th : Int32) :
    ∃ (k : Nat ⊕ Int32) (v e : Int32) (r : Nat) (f2 : Nat → Nat → Int32) (s2 : Nat → Int32), RQ nf ns f2 s2 ∧ (r = 0 ∨ r = 1) ∧ AnsT tIS k v e ∧ (∀ j, j ≠ 6 → j ≠ 8 → f2 j = f j) ∧ (∀ j, j < 14 → s2 j = s j) ∧
      F_X11_quench a hc hf (s 7) (f 6) (f 4) (f 8) = some (k, if r = 1 then hc' else hc, if r = 1 then hf' else hf, f2 6, f2 8, r) ∧
      F_X12_quench N a th ud past s = some (v, e, if r = 1 then ud' else ud, if r = 1 then past' else past, s2) := by
  obtain ⟨hR, h0, hD⟩ := id hQ
  obtain ⟨⟨h6, hn1, hn4⟩, ⟨h7, hns⟩, hh, hA, hF, hS⟩ := id hR
  rcases i_of (n := ns) (by omega) a with ⟨i, hi, rfl⟩ | ⟨h1, h2⟩
  · obtain ⟨r0, r1, r2, r3, r4, r5, r6⟩ := hS i hi
    by_cases hw : f 4 i = 0
    · obtain ⟨w, s2, g1, g2, g3, g4⟩ := p_quench hR hi
      refine ⟨Sum.inr (f 8 i), f 8 i, 0, 1, _, s2, ⟨g3, by rw [g4 0 (by decide)]; exact h0, hD.cong (g4 1 (by decide)) (g4 2 (by decide)) (g4 3 (by decide)) (g4 4 (by decide)) (g4 5 (by decide)) (fun j hj => (RF_16 hF (RF.cong g3.2.2.2.2.1 hn4 (fun _ _ _ => rfl) rfl rfl rfl rfl) hj).1) (fun j hj => (RF_16 hF (RF.cong g3.2.2.2.2.1 hn4 (fun _ _ _ => rfl) rfl rfl rfl rfl) hj).2)⟩, Or.inr rfl, Or.inl ⟨rfl, rfl⟩, fun j hj hj2 => by rw [va_o _ _ hj2, va_o _ _ hj], g4, ?_, ?_⟩
      · unfold F_X11_quench
        rw [show F_X11_requireSack (nI i) (s 7) = some (Sum.inr ()) by rw [h7]; exact rS_in hns hi, Option.bind_some]
        dsimp only [Sum.elim]
        rw [show F_X5_isStored (nI i) (s 7) (f 4) = some 1 by rw [h7, k_st hns hi, if_pos hw], Option.bind_some, if_neg (by decide), hH, Option.bind_some, if_pos (xin_nI (by omega) (by decide)), g1, Option.bind_some, if_pos rfl, if_pos rfl, va_s, va_o _ _ (show 6 ≠ 8 by decide), va_s, tnI (by omega)]
      · unfold F_X12_quench F_X12_quench_b27
        rw [nS_in h7 hns hi, Option.bind_some]
        dsimp only
        rw [if_pos rfl, m_stored h7 hns hi, r0, if_pos hw, Option.bind_some, if_neg (by decide), st_0, Option.bind_some]
        dsimp only
        rw [if_pos rfl, hK, Option.bind_some, g2, Option.bind_some, if_pos rfl, if_pos rfl]
    · refine ⟨Sum.inl 0, 0, 2, 0, f, s, hQ, Or.inl rfl, Or.inr ⟨0, rfl, rfl, rfl, by decide⟩, fun _ _ _ => rfl, fun _ _ => rfl, ?_, ?_⟩
      · unfold F_X11_quench
        rw [show F_X11_requireSack (nI i) (s 7) = some (Sum.inr ()) by rw [h7]; exact rS_in hns hi, Option.bind_some]
        dsimp only [Sum.elim]
        rw [show F_X5_isStored (nI i) (s 7) (f 4) = some 0 by rw [h7, k_st hns hi, if_neg hw], Option.bind_some, if_pos rfl, if_neg (by decide), if_neg (by decide)]
      · unfold F_X12_quench F_X12_quench_b27
        rw [nS_in h7 hns hi, Option.bind_some]
        dsimp only
        rw [if_pos rfl, m_stored h7 hns hi, r0, if_neg hw, Option.bind_some, if_pos rfl, st_2, Option.bind_some]
        dsimp only
        rw [if_neg (by decide), if_neg (by decide), if_neg (by decide)]
        rfl
  · refine ⟨Sum.inl 2, 0, 1, 0, f, s, hQ, Or.inl rfl, Or.inr ⟨2, rfl, rfl, rfl, by decide⟩, fun _ _ _ => rfl, fun _ _ => rfl, ?_, ?_⟩
    · unfold F_X11_quench
      rw [show F_X11_requireSack a (s 7) = some (Sum.inl 2) by rw [h7]; exact rS_out h2, Option.bind_some]
      dsimp only [Sum.elim]
      rw [if_neg (by decide), if_neg (by decide)]
    · unfold F_X12_quench
      rw [nS_out h7 h1, Option.bind_some]
      dsimp only
      rw [if_neg (by decide), if_neg (by decide), if_neg (by decide)]
      rfl
theorem k_canWait {m a : Int32} (h0 : 0 ≤ m ∧ m ≤ 9999) (ha : 1 ≤ a ∧ a ≤ 120) : F_X3_canWait a m = some (if m + a ≤ 9999 then 1 else 0) := by
  unfold F_X3_canWait
  by_cases h : m + a ≤ 9999
  · rw [if_pos h, if_neg (by grind)]
  · rw [if_neg h, if_pos (by grind)]
theorem p_advance (hN : 1000 ≤ N) (hQ : RQ nf ns f s) (hK : F_X12_keepsPast N ud past s = some ((), ud', past')) (hH : F_X2_record hc hf = some ((), hc', hf')) (t w : Nat → Int32) (a th : Int32) :
    ∃ (k : Nat ⊕ Int32) (v e : Int32) (r : Nat) (f2 : Nat → Nat → Int32) (s2 t2 w2 : Nat → Int32), RQ nf ns f2 s2 ∧ (r = 0 ∨ r = 1) ∧ AnsT tAS k v e ∧ pKeep f f2 s s2 ∧
      F_X11_advance N a hc hf (s 12) (s 1) (s 0) (s 13) (s 2) (s 5) (s 3) (s 4) (s 6) (f 0) (f 1) (f 2) (f 3) (s 10) (s 7) (f 5) (f 6) (f 4) (f 8) t = some (k, if r = 1 then hc' else hc, if r = 1 then hf' else hf, s2 12, s2 1, s2 0, s2 13, s2 5, f2 2, f2 3, s2 10, f2 4, f2 8, t2, r) ∧
      F_X12_advance N a th ud past s w = some (v, e, if r = 1 then ud' else ud, if r = 1 then past' else past, s2, w2) := by
  obtain ⟨hR, h0, hD⟩ := id hQ
  have hm1 : F_X12_in (Int32.toInt64 a) (Int64.ofNat 1) (Int64.ofNat 120) = some (if 1 ≤ a ∧ a ≤ 120 then 1 else 0) := m_in a 1 120
  by_cases h1 : 1 ≤ a ∧ a ≤ 120
  · by_cases h2 : s 0 + a ≤ 9999
    · obtain ⟨n, hn, rfl⟩ := n_of (x := a) (n := 120) (by decide) (by grind) h1.2
      obtain ⟨f2, s2, t2, w2, c, g1, g2, g3, g4, g5⟩ := p_pass hN (n := n) (by omega) (by omega) hR t w
      refine ⟨Sum.inr c, c, 0, 1, f2, s2, t2, w2, ⟨g3, ⟨by rw [g5]; grind, by rw [g5]; exact h2⟩, RD.mins hN hD g3 g2⟩, Or.inr rfl, Or.inl ⟨rfl, rfl⟩, g4, ?_, ?_⟩
      · unfold F_X11_advance
        rw [k_within, if_pos h1, Option.bind_some, if_neg (by decide), k_canWait h0 h1, if_pos h2, Option.bind_some, if_neg (by decide), hH, Option.bind_some, g1, Option.bind_some, if_pos rfl, if_pos rfl]
      · unfold F_X12_advance F_X12_advance_b23 F_X12_advance_b50
        rw [hm1, if_pos h1, Option.bind_some, if_neg (by decide), st_0, Option.bind_some]
        dsimp only
        rw [if_pos rfl, tn0, if_pos h2, st_0, Option.bind_some]
        dsimp only
        rw [if_pos rfl, hK, Option.bind_some, g2, Option.bind_some, if_pos rfl, if_pos rfl]
    · refine ⟨Sum.inl 0, 0, 2, 0, f, s, t, w, hQ, Or.inl rfl, Or.inr ⟨0, rfl, rfl, rfl, by decide⟩, pKeep.rf, ?_, ?_⟩
      · unfold F_X11_advance
        rw [k_within, if_pos h1, Option.bind_some, if_neg (by decide), k_canWait h0 h1, if_neg h2, Option.bind_some, if_pos rfl, if_neg (by decide), if_neg (by decide)]
      · unfold F_X12_advance F_X12_advance_b23 F_X12_advance_b50
        rw [hm1, if_pos h1, Option.bind_some, if_neg (by decide), st_0, Option.bind_some]
        dsimp only
        rw [if_pos rfl, tn0, if_neg h2, st_2, Option.bind_some]
        dsimp only
        rw [if_neg (by decide), if_neg (by decide), if_neg (by decide)]
        rfl
  · refine ⟨Sum.inl 1, 0, 1, 0, f, s, t, w, hQ, Or.inl rfl, Or.inr ⟨1, rfl, rfl, rfl, by decide⟩, pKeep.rf, ?_, ?_⟩
    · unfold F_X11_advance
      rw [k_within, if_neg h1, Option.bind_some, if_pos rfl, if_neg (by decide), if_neg (by decide)]
    · unfold F_X12_advance F_X12_advance_b23
      rw [hm1, if_neg h1, Option.bind_some, if_pos rfl, st_1, Option.bind_some]
      dsimp only
      rw [if_neg (by decide), if_neg (by decide), if_neg (by decide)]
      rfl
end SELLS
