/-! PURE: the doing calls of the class, in the numbers of the house -/
theorem p_lowL {N nf ns i : Nat} {f : Nat → Nat → Int32} {s : Nat → Int32} (hN : 1000 ≤ N) (hR : RH nf ns f s) (hi : i < nf) (hm : 0 < f 1 i) (h20 : i = 0 → ns < 20) :
    ∃ (ns' : Nat) (f' : Nat → Nat → Int32) (s' : Nat → Int32), F_X3_moveOrPack N (nI i) (s 1) (s 2) (s 5) (s 3) (s 4) (s 6) (f 1) (f 2) (f 3) (s 7) (f 5) (f 6) (f 7) (f 4) (f 8) = some ((), f' 1, f' 2, f' 3, s' 7, f' 5, f' 6, f' 7, f' 4, f' 8) ∧
      F_X12_lowers N (nI i) s = some (f 2 i, s') ∧ RH nf ns' f' s' ∧ f' 0 = f 0 ∧ (∀ j, j < 14 → j ≠ 7 → s' j = s j) ∧ s' = (if i = 0 then lLow0 ns s else lLowI s i) ∧ ns' = (if i = 0 then ns + 1 else ns) := by
  obtain ⟨⟨h6, hn1, hn4⟩, ⟨h7, hns⟩, hh, hA, hF, hS⟩ := id hR
  obtain ⟨il, im, iq, is, ip, iz⟩ := hF i hi
  obtain ⟨p2, p3⟩ := ip hm
  have hx : xin (nI i) 4 = true := xin_nI (by omega) (by decide)
  by_cases h0 : i = 0
  · subst h0
    have hns2 := h20 rfl
    have hT := pT_r hF hA hh hn4 (i := 0) (by omega)
    have im1 : s 15 = f 1 0 := im.1
    have ip2 : s 16 = f 2 0 := p2
    have ip3 : s 17 = f 3 0 := p3
    have hp : ∀ k, k < 5 → xin (nI (30 + k + 5 * ns)) 130 = true := fun k hk => xin_nI (by omega) (by decide)
    have q0 : xin (nI (30 + 5 * ns)) 130 = true := hp 0 (by decide)
    have q1 : xin (nI (31 + 5 * ns)) 130 = true := hp 1 (by decide)
    have q2 : xin (nI (32 + 5 * ns)) 130 = true := hp 2 (by decide)
    have q3 : xin (nI (33 + 5 * ns)) 130 = true := hp 3 (by decide)
    have q4 : xin (nI (34 + 5 * ns)) 130 = true := hp 4 (by decide)
    have hxn : xin (nI ns) 20 = true := xin_nI hns2 (by decide)
    refine ⟨ns + 1, fPack f ns (pT s 0), sEmpty (sPack0 f s ns (pT s 0)) 0, ?_, ?_, ?_, rfl, fun j h14 hj7 => ?_, by rw [if_pos rfl]; unfold sPack0 lLow0; rw [im1, ip2, ip3], by rw [if_pos rfl]⟩
    · unfold F_X3_moveOrPack
      rw [if_pos (by decide), h6, show F_X3_temperatureNow N 0 (s 1) (s 2) (s 5) (s 3) (s 4) (nI nf) (f 1) (f 2) = some (pT s 0) from k_tn (i := 0) hN hn4 (by omega) hF, Option.bind_some]
      unfold F_X5_pack F_X5_isFull
      rw [h7, if_pos (show nI ns < 20 from nI_lt (b := 20) hns2 (by decide)), Option.bind_some, if_pos rfl, if_pos hxn, if_pos hxn, if_pos hxn, if_pos hxn, if_pos hxn, tnI (by omega), tn0, Option.bind_some]
      have e7 : sEmpty (sPack0 f s ns (pT s 0)) 0 7 = nI ns + 1 := by
        rw [sEmpty_o (by decide) (by decide) (by decide)]; unfold sPack0
        rw [upd_o _ _ (by omega), upd_o _ _ (by omega), upd_o _ _ (by omega), upd_o _ _ (by omega), upd_o _ _ (by omega), upd_s]
      rw [e7]
      rfl
    · have hpk : F_X12_packs N s = some ((), sPack0 f s ns (pT s 0)) := by
        unfold F_X12_packs
        rw [tn7, h7, m_atS0, Option.bind_some, if_pos q0, m_atS1, Option.bind_some, tnI (k := 30 + 5 * ns) (by omega)]
        have o1 : F_X12_onFloor 0 1 (upd (upd s 7 (nI ns + 1)) (30 + 5 * ns) 0) = some (f 1 0) := by
          have := m_on1 (i := 0) (by decide) (upd (upd s 7 (nI ns + 1)) (30 + 5 * ns) 0)
          rw [upd_o _ _ (by omega), upd_o _ _ (by decide)] at this
          rw [← im1]; exact this
        rw [o1, Option.bind_some, if_pos q1, m_atS2, Option.bind_some, tnI (k := 31 + 5 * ns) (by omega)]
        have o2 : F_X12_onFloor 0 2 (upd (upd (upd s 7 (nI ns + 1)) (30 + 5 * ns) 0) (31 + 5 * ns) (f 1 0)) = some (f 2 0) := by
          have := m_on2 (i := 0) (by decide) (upd (upd (upd s 7 (nI ns + 1)) (30 + 5 * ns) 0) (31 + 5 * ns) (f 1 0))
          rw [upd_o _ _ (by omega), upd_o _ _ (by omega), upd_o _ _ (by decide)] at this
          rw [← ip2]; exact this
        rw [o2, Option.bind_some, if_pos q2, m_atS3, Option.bind_some, tnI (k := 32 + 5 * ns) (by omega)]
        have o3 : F_X12_onFloor 0 3 (upd (upd (upd (upd s 7 (nI ns + 1)) (30 + 5 * ns) 0) (31 + 5 * ns) (f 1 0)) (32 + 5 * ns) (f 2 0)) = some (f 3 0) := by
          have := m_on3 (i := 0) (by decide) (upd (upd (upd (upd s 7 (nI ns + 1)) (30 + 5 * ns) 0) (31 + 5 * ns) (f 1 0)) (32 + 5 * ns) (f 2 0))
          rw [upd_o _ _ (by omega), upd_o _ _ (by omega), upd_o _ _ (by omega), upd_o _ _ (by decide)] at this
          rw [← ip3]; exact this
        rw [o3, Option.bind_some, if_pos q3, m_atS4, Option.bind_some, tnI (k := 33 + 5 * ns) (by omega)]
        obtain ⟨z, hz⟩ : ∃ z, z = upd (upd (upd (upd (upd s 7 (nI ns + 1)) (30 + 5 * ns) 0) (31 + 5 * ns) (f 1 0)) (32 + 5 * ns) (f 2 0)) (33 + 5 * ns) (f 3 0) := ⟨_, rfl⟩
        have zo : ∀ j, j < 30 → j ≠ 7 → z j = s j := fun j h30 hj7 => by rw [hz, upd_o _ _ (by omega), upd_o _ _ (by omega), upd_o _ _ (by omega), upd_o _ _ (by omega), upd_o _ _ hj7]
        have hd : F_X12_degrees N 0 z = some (pT s 0) := by
          have := m_deg (i := 0) hN (by decide) z
          have e : pT z 0 = pT s 0 := by
            unfold pT pW
            rw [zo 1 (by decide) (by decide), pD_upd (zo 2 (by decide) (by decide)) (zo 3 (by decide) (by decide)) (zo 4 (by decide) (by decide)) (zo 5 (by decide) (by decide))]
            rfl
          rw [e] at this; exact this
        rw [← hz, hd, Option.bind_some, if_pos q4, tnI (k := 34 + 5 * ns) (by omega), hz]
        rfl
      unfold F_X12_lowers F_X12_lowers_b67
      have o0 : F_X12_onFloor (nI 0) 2 s = some (f 2 0) := by rw [← ip2]; exact m_on2 (i := 0) (by decide) s
      rw [o0, Option.bind_some, if_pos (by rfl), hpk, Option.bind_some, m_empties (by decide), Option.bind_some]
    · obtain ⟨v, hv⟩ : ∃ v, v = sEmpty (sPack0 f s ns (pT s 0)) 0 := ⟨_, rfl⟩
      have vo : ∀ j, j ≠ 7 → j ≠ 15 → j ≠ 16 → j ≠ 17 → j < 30 + 5 * ns → v j = s j := fun j a b c d e => by
        rw [hv, sEmpty_o b c d, sPack0_o a (Or.inl e)]
      rw [← hv]
      refine ⟨⟨by rw [vo 6 (by decide) (by decide) (by decide) (by decide) (by omega)]; exact h6, hn1, hn4⟩, ⟨?_, by omega⟩, by rw [vo 1 (by decide) (by decide) (by decide) (by decide) (by omega)]; exact hh, hA.cong (vo 2 (by decide) (by decide) (by decide) (by decide) (by omega)) (vo 3 (by decide) (by decide) (by decide) (by decide) (by omega)) (vo 4 (by decide) (by decide) (by decide) (by decide) (by omega)) (vo 5 (by decide) (by decide) (by decide) (by decide) (by omega)), ?_, ?_⟩
      · rw [hv, sEmpty_o (by decide) (by decide) (by decide)]; unfold sPack0
        rw [upd_o _ _ (by omega), upd_o _ _ (by omega), upd_o _ _ (by omega), upd_o _ _ (by omega), upd_o _ _ (by omega), upd_s, nI_succ]
      · intro j hj
        obtain ⟨gl, gm, gq, gs, gp, gz⟩ := hF j hj
        have e0 : fPack f ns (pT s 0) 0 = f 0 := rfl
        have e1 : fPack f ns (pT s 0) 1 = upd (f 1) 0 0 := rfl
        have e2 : fPack f ns (pT s 0) 2 = f 2 := rfl
        have e3 : fPack f ns (pT s 0) 3 = f 3 := rfl
        rw [e0, e1, e2, e3, vo (14 + 4 * j) (by omega) (by omega) (by omega) (by omega) (by omega)]
        by_cases hj0 : j = 0
        · subst hj0
          obtain ⟨z1, z2, z3⟩ := sEmpty_i (sPack0 f s ns (pT s 0)) 0
          rw [hv, z1, z2, z3, upd_s]
          exact ⟨gl, ⟨rfl, by decide, by decide⟩, ⟨by decide, by decide⟩, ⟨by decide, by decide⟩, fun h => absurd h (by decide), fun _ => ⟨rfl, rfl⟩⟩
        · rw [upd_o _ _ hj0, vo (15 + 4 * j) (by omega) (by omega) (by omega) (by omega) (by omega), vo (16 + 4 * j) (by omega) (by omega) (by omega) (by omega) (by omega), vo (17 + 4 * j) (by omega) (by omega) (by omega) (by omega) (by omega)]
          exact ⟨gl, gm, gq, gs, gp, gz⟩
      · intro k hk
        have e4 : fPack f ns (pT s 0) 4 = upd (f 4) ns 0 := rfl
        have e5 : fPack f ns (pT s 0) 5 = upd (f 5) ns (f 1 0) := rfl
        have e6 : fPack f ns (pT s 0) 6 = upd (f 6) ns (f 2 0) := rfl
        have e7 : fPack f ns (pT s 0) 7 = upd (f 7) ns (f 3 0) := rfl
        have e8 : fPack f ns (pT s 0) 8 = upd (f 8) ns (pT s 0) := rfl
        rw [e4, e5, e6, e7, e8]
        by_cases hkn : k = ns
        · subst hkn
          have b : ∀ j, 30 ≤ j → v j = sPack0 f s k (pT s 0) j := fun j hj => by rw [hv, sEmpty_o (by omega) (by omega) (by omega)]
          rw [b _ (by omega), b _ (by omega), b _ (by omega), b _ (by omega), b _ (by omega), upd_s, upd_s, upd_s, upd_s, upd_s]
          have c0 : sPack0 f s k (pT s 0) (30 + 5 * k) = 0 := by unfold sPack0; rw [upd_o _ _ (by omega), upd_o _ _ (by omega), upd_o _ _ (by omega), upd_o _ _ (by omega), upd_s]
          have c1 : sPack0 f s k (pT s 0) (31 + 5 * k) = f 1 0 := by unfold sPack0; rw [upd_o _ _ (by omega), upd_o _ _ (by omega), upd_o _ _ (by omega), upd_s]
          have c2 : sPack0 f s k (pT s 0) (32 + 5 * k) = f 2 0 := by unfold sPack0; rw [upd_o _ _ (by omega), upd_o _ _ (by omega), upd_s]
          have c3 : sPack0 f s k (pT s 0) (33 + 5 * k) = f 3 0 := by unfold sPack0; rw [upd_o _ _ (by omega), upd_s]
          have c4 : sPack0 f s k (pT s 0) (34 + 5 * k) = pT s 0 := by unfold sPack0; rw [upd_s]
          rw [c0, c1, c2, c3, c4]
          exact ⟨rfl, ⟨rfl, im.2⟩, ⟨rfl, by rw [← p2]; exact iq⟩, ⟨rfl, by rw [← p3]; exact is⟩, rfl, fun _ => ⟨hT.1, by grind⟩, Or.inl rfl⟩
        · have hk2 : k < ns := by omega
          obtain ⟨r0, r1, r2, r3, r4, r5, r6⟩ := hS k hk2
          rw [vo _ (by omega) (by omega) (by omega) (by omega) (by omega), vo _ (by omega) (by omega) (by omega) (by omega) (by omega), vo _ (by omega) (by omega) (by omega) (by omega) (by omega), vo _ (by omega) (by omega) (by omega) (by omega) (by omega), vo _ (by omega) (by omega) (by omega) (by omega) (by omega), upd_o _ _ hkn, upd_o _ _ hkn, upd_o _ _ hkn, upd_o _ _ hkn, upd_o _ _ hkn]
          exact ⟨r0, r1, r2, r3, r4, r5, r6⟩
    · rw [sEmpty_o (by omega) (by omega) (by omega), sPack0_o hj7 (by omega)]
  · have hip : 0 < i := by omega
    have hx1 : xin (nI (i - 1)) 4 = true := xin_nI (by omega) (by decide)
    refine ⟨ns, fDown f i, sDown f s i, ?_, ?_, ⟨⟨?_, hn1, hn4⟩, ⟨?_, hns⟩, ?_, hA.cong ?_ ?_ ?_ ?_, RF_down hn4 hip hi hF hm, RS.cong hS (fun j h30 => ?_) rfl rfl rfl rfl rfl⟩, rfl, fun j h14 hj7 => ?_, by rw [if_neg h0]; unfold sDown lLowI; rw [im.1, p2, p3], by rw [if_neg h0]⟩
    · unfold F_X3_moveOrPack
      rw [if_neg (nI_nle hip (by omega))]
      unfold F_X1_moveDown
      rw [h6, if_neg (nI_nle hip (by omega)), k_ex hn4 hi, Option.bind_some, if_neg (by decide), nI_pm (by omega), if_pos hx, if_pos hx1, if_pos hx, if_pos hx1, if_pos hx, if_pos hx1, if_pos hx, Option.bind_some, tnI (k := i) (by omega), tnI (k := i - 1) (by omega)]
      have e7 : sDown f s i 7 = s 7 := by unfold sDown; rw [sEmpty_o (by omega) (by omega) (by omega), upd_o _ _ (by omega), upd_o _ _ (by omega), upd_o _ _ (by omega)]
      rw [e7]
      rfl
    · have q1 : xin (nI (15 + 4 * (i - 1))) 130 = true := xin_nI (by omega) (by decide)
      have q2 : xin (nI (16 + 4 * (i - 1))) 130 = true := xin_nI (by omega) (by decide)
      have q3 : xin (nI (17 + 4 * (i - 1))) 130 = true := xin_nI (by omega) (by decide)
      unfold F_X12_lowers F_X12_lowers_b67
      rw [m_on2 (by omega), Option.bind_some, p2, if_neg (nI_ne0 hip (by omega)), nI_pm (by omega), m_atF1, Option.bind_some, m_on1 (by omega), Option.bind_some, im.1, if_pos q1, m_atF2, Option.bind_some, if_pos q2, m_atF3, Option.bind_some, tnI (k := 15 + 4 * (i - 1)) (by omega), tnI (k := 16 + 4 * (i - 1)) (by omega), m_on3 (by omega), Option.bind_some, if_pos q3, tnI (k := 17 + 4 * (i - 1)) (by omega), m_empties (by omega), Option.bind_some, upd_o _ _ (show 17 + 4 * i ≠ 16 + 4 * (i - 1) by omega), upd_o _ _ (show 17 + 4 * i ≠ 15 + 4 * (i - 1) by omega), p3]
      rfl
    all_goals (unfold sDown; rw [sEmpty_o (by omega) (by omega) (by omega), upd_o _ _ (by omega), upd_o _ _ (by omega), upd_o _ _ (by omega)])
    · exact h6
    · exact h7
    · exact hh
/-- all floors from i on are lowered, where nothing stands against it -/
def lRotS : Nat → Nat → Nat → (Nat → Int32) → Nat × (Nat → Int32)
  | 0, _, ns, s => (ns, s)
  | d + 1, i, ns, s => if lWhy ns s i = 0 then lRotS d (i + 1) (if i = 0 then ns + 1 else ns) (if i = 0 then lLow0 ns s else lLowI s i) else lRotS d (i + 1) ns s
def lRotN : Nat → Nat → Nat → (Nat → Int32) → Int32
  | 0, _, _, _ => 0
  | d + 1, i, ns, s => if lWhy ns s i = 0 then 1 + lRotN d (i + 1) (if i = 0 then ns + 1 else ns) (if i = 0 then lLow0 ns s else lLowI s i) else lRotN d (i + 1) ns s
theorem p_rotL {N nf : Nat} (hN : 1000 ≤ N) : ∀ (d i ns : Nat) (f : Nat → Nat → Int32) (s : Nat → Int32), i + d = nf → RH nf ns f s →
    ∃ (ns' : Nat) (f' : Nat → Nat → Int32) (s1 : Nat → Int32) (c : Int32),
      (∀ fu l1, d < fu → F_X3_lowerAll_b4 N (s 2) (s 5) (s 3) (s 4) (s 6) (f 0) fu l1 (nI i) (s 12) (s 1) (f 1) (f 2) (f 3) (s 7) (f 5) (f 6) (f 7) (f 4) (f 8) = some (l1 + c, pDamp nf s1 12, pDamp nf s1 1, f' 1, f' 2, f' 3, s1 7, f' 5, f' 6, f' 7, f' 4, f' 8)) ∧
      (∀ fu l1, d < fu → F_X12_rotates_b4 N fu l1 (nI i) s = some (l1 + c, s1)) ∧ RH nf ns' f' s1 ∧ f' 0 = f 0 ∧ (∀ j, j < 14 → j ≠ 7 → s1 j = s j) ∧ s1 = (lRotS d i ns s).2 ∧ ns' = (lRotS d i ns s).1 ∧ c = lRotN d i ns s := by
  intro d
  have e0 : ∀ l1 : Int32, l1 + 0 = l1 := fun l1 => by grind
  induction d with
  | zero =>
    intro i ns f s hi hR
    obtain rfl : i = nf := by omega
    obtain ⟨⟨h6, hn1, hn4⟩, -⟩ := id hR
    refine ⟨ns, f, s, 0, fun fu l1 hf => ?_, fun fu l1 hf => ?_, hR, rfl, fun _ _ _ => rfl, rfl, rfl, rfl⟩
    · obtain ⟨k, rfl⟩ : ∃ k, fu = k + 1 := ⟨fu - 1, by omega⟩
      rw [F_X3_lowerAll_b4, if_pos (by rw [h6]; exact nI_le (Nat.le_refl _) (by omega)), (p_damp hN hR).1, Option.bind_some, e0]
    · obtain ⟨k, rfl⟩ : ∃ k, fu = k + 1 := ⟨fu - 1, by omega⟩
      rw [F_X12_rotates_b4, tn6, h6, if_pos (nI_le (Nat.le_refl _) (by omega)), e0]
  | succ d ih =>
    intro i ns f s hi hR
    obtain ⟨⟨h6, hn1, hn4⟩, -⟩ := id hR
    have hle : ¬ s 6 ≤ nI i := by rw [h6]; exact nI_ge (by omega) (by omega)
    by_cases hw : pWhy ns f i = 0
    · have hw' : lWhy ns s i = 0 := by rw [← e_why hR (by omega)]; exact hw
      obtain ⟨hm, h20⟩ := p_why0 hR.2.1.2 hw
      obtain ⟨ns1, f1, s1, h1, h2, h3, h4, h5, hs1, hn1'⟩ := p_lowL hN hR (i := i) (by omega) hm h20
      obtain ⟨ns2, f2, s2, c, j1, j2, j3, j4, j5, j6, j7, j8⟩ := ih (i + 1) ns1 f1 s1 (by omega) h3
      have ec : ∀ l1 : Int32, l1 + 1 + c = l1 + (1 + c) := fun l1 => by grind
      refine ⟨ns2, f2, s2, 1 + c, fun fu l1 hf => ?_, fun fu l1 hf => ?_, j3, j4.trans h4, fun j h14 hj7 => by rw [j5 j h14 hj7, h5 j h14 hj7], by rw [j6, hs1, hn1', lRotS, if_pos hw'], by rw [j7, hs1, hn1', lRotS, if_pos hw'], by rw [j8, hs1, hn1', lRotN, if_pos hw']⟩
      · obtain ⟨k, rfl⟩ : ∃ k, fu = k + 1 := ⟨fu - 1, by omega⟩
        have := j1 k (l1 + 1) (by omega)
        rw [h5 2 (by decide) (by decide), h5 5 (by decide) (by decide), h5 3 (by decide) (by decide), h5 4 (by decide) (by decide), h5 6 (by decide) (by decide), h5 12 (by decide) (by decide), h5 1 (by decide) (by decide), h4] at this
        rw [F_X3_lowerAll_b4, if_neg hle, k_why hR (by omega), Option.bind_some, if_pos hw, h1, Option.bind_some]
        unfold F_X3_lowerAll_b31
        rw [nI_1, ← ec]
        exact this
      · obtain ⟨k, rfl⟩ : ∃ k, fu = k + 1 := ⟨fu - 1, by omega⟩
        rw [F_X12_rotates_b4, tn6, if_neg hle, m_why hR (by omega), Option.bind_some, if_pos hw, h2, Option.bind_some]
        unfold F_X12_rotates_b32
        rw [nI_1, ← ec]
        exact j2 k _ (by omega)
    · have hw' : ¬ lWhy ns s i = 0 := by rw [← e_why hR (by omega)]; exact hw
      obtain ⟨ns2, f2, s2, c, j1, j2, j3, j4, j5, j6, j7, j8⟩ := ih (i + 1) ns f s (by omega) hR
      refine ⟨ns2, f2, s2, c, fun fu l1 hf => ?_, fun fu l1 hf => ?_, j3, j4, j5, by rw [j6, lRotS, if_neg hw'], by rw [j7, lRotS, if_neg hw'], by rw [j8, lRotN, if_neg hw']⟩
      · obtain ⟨k, rfl⟩ : ∃ k, fu = k + 1 := ⟨fu - 1, by omega⟩
        rw [F_X3_lowerAll_b4, if_neg hle, k_why hR (by omega), Option.bind_some, if_neg hw]
        unfold F_X3_lowerAll_b31
        rw [nI_1]
        exact j1 k l1 (by omega)
      · obtain ⟨k, rfl⟩ : ∃ k, fu = k + 1 := ⟨fu - 1, by omega⟩
        rw [F_X12_rotates_b4, tn6, if_neg hle, m_why hR (by omega), Option.bind_some, if_neg hw]
        unfold F_X12_rotates_b32
        rw [nI_1]
        exact j2 k _ (by omega)
/-- how many floors are laden -/
def lCt (s : Nat → Int32) : Nat → Nat
  | 0 => 0
  | i + 1 => if s (15 + 4 * i) = 0 then lCt s i else lCt s i + 1
section DOING
variable {N nf ns : Nat} {f : Nat → Nat → Int32} {s : Nat → Int32} {hc hf hc' hf' : Int32}
theorem e_cT {f : Nat → Nat → Int32} {s : Nat → Int32} : ∀ n, (∀ i, i < n → (f 1 i ≤ 0 ↔ s (15 + 4 * i) = 0)) → cT (f 1) n = lCt s n := by
  intro n
  induction n with
  | zero => intro _; rfl
  | succ n ih =>
    intro h
    have e := ih (fun i hi => h i (by omega))
    have q := h n (by omega)
    rw [lCt]
    unfold cT
    by_cases c : s (15 + 4 * n) = 0
    · rw [if_pos c, if_pos (q.mpr c), e]; rfl
    · rw [if_neg c, if_neg (fun z => c (q.mp z)), e]
theorem RQ_damp {f1 : Nat → Nat → Int32} {s1 : Nat → Int32} {n1 : Nat} (hR : RH nf n1 f1 s1) (h0 : 0 ≤ s1 0 ∧ s1 0 ≤ 9999) : RQ nf n1 f1 (pDamp nf s1) := by
  obtain ⟨hR2, o2⟩ := p_damped hR
  exact ⟨hR2, by rw [o2 0 (by decide) (by decide)]; exact h0, damps_RD (N := 1000) (Nat.le_refl _) hR2 (p_damp (Nat.le_refl _) hR).2⟩
theorem x_contr (hN : 1000 ≤ N) (hQ : RQ nf ns f s) (hS' : SUM nf ns s) : F_X11_contradictions N (s 1) (s 8) (s 2) (s 5) (s 3) (s 4) (s 6) (f 0) (f 1) (f 2) (s 10) (s 7) (s 9) (f 5) (f 4) = some 0 := by
  obtain ⟨hR, -, hD⟩ := hQ
  obtain ⟨⟨h6, hn1, hn4⟩, ⟨h7, hns⟩, hh, hA, hF, hS⟩ := id hR
  obtain ⟨a8, a9, a10⟩ := hS'
  have eF : ∀ n, n ≤ nf → pSu (f 1) n = lsF s n := by
    intro n
    induction n with
    | zero => intro _; rfl
    | succ n ih => intro h; rw [pSu, lsF, ih (by omega), (hF n (by omega)).2.1.1]
  have eS : ∀ n, n ≤ ns → pSu (f 5) n = lsS s n := by
    intro n
    induction n with
    | zero => intro _; rfl
    | succ n ih => intro h; rw [pSu, lsS, ih (by omega), (hS n (by omega)).2.1.1]
  have eG : ∀ n, n ≤ ns → pGo f n = lsT 1 s n + lsT 2 s n := by
    intro n
    induction n with
    | zero => intro _; rfl
    | succ n ih =>
      intro h
      obtain ⟨r0, r1, -, -, -, -, r6⟩ := hS n (by omega)
      rw [pGo, lsT, lsT, ih (by omega), r0, r1.1]
      rcases r6 with q | q | q
      · rw [q, if_pos rfl, if_neg (by decide), if_neg (by decide)]; grind
      · rw [q, if_neg (by decide), if_pos rfl, if_neg (by decide)]; grind
      · rw [q, if_neg (by decide), if_neg (by decide), if_pos rfl]; grind
  have eH : ∀ n, n ≤ nf → pHo f s n = 0 := by
    intro n
    induction n with
    | zero => intro _; rfl
    | succ n ih =>
      intro h
      rw [pHo, ih (by omega), if_pos]
      have := (pT_le hF hA hh hn4 (i := n) (by omega)).1.mpr (hD n (by omega))
      rw [(hF n (by omega)).1.1] at this
      exact this
  unfold F_X11_contradictions
  rw [h6, h7, k_suF hN hn4, Option.bind_some, k_suS hN hns, Option.bind_some, k_suG hN hns, Option.bind_some, k_hot hN hn4 hF, Option.bind_some, k_breaks hN hn1 hn4 hF, Option.bind_some, eF nf (Nat.le_refl _), eS ns (Nat.le_refl _), eG ns (Nat.le_refl _), eH nf (Nat.le_refl _), a8, a9, a10]
  have z1 : lsF s nf + lsS s ns - lsF s nf - lsS s ns = 0 := by grind
  have z2 : lsT 1 s ns + lsT 2 s ns - (lsT 1 s ns + lsT 2 s ns) = 0 := Int32.sub_self _
  rw [z1, z2]
  rfl
theorem x_setHeat (hN : 1000 ≤ N) (hQ : RQ nf ns f s) (hH : F_X2_record hc hf = some ((), hc', hf')) {a : Int32} (h : 0 ≤ a ∧ a ≤ 90) : RQ nf ns f (pDamp nf (upd s 1 a)) ∧ F_X11_setHeat N a hc hf (s 12) (s 1) (s 2) (s 5) (s 3) (s 4) (s 6) (f 0) (f 1) (f 2) = some (Sum.inr (pDamp nf (upd s 1 a) 1), hc', hf', pDamp nf (upd s 1 a) 12, pDamp nf (upd s 1 a) 1, 1) := by
  obtain ⟨hR, h0, hD⟩ := hQ
  have h1 := RH_heat hR h
  refine ⟨RQ_damp h1 h0, ?_⟩
  have d1 : F_X3_damp N (s 12) a (s 2) (s 5) (s 3) (s 4) (s 6) (f 0) (f 1) (f 2) = some ((), pDamp nf (upd s 1 a) 12, pDamp nf (upd s 1 a) 1) := (p_damp hN h1).1
  unfold F_X11_setHeat F_X3_stoke
  rw [k_within, if_pos h, Option.bind_some, if_neg (by decide), hH, Option.bind_some, d1, Option.bind_some, Option.bind_some]
theorem x_setGear (hN : 1000 ≤ N) (hQ : RQ nf ns f s) (hH : F_X2_record hc hf = some ((), hc', hf')) {a : Int32} (h : 0 ≤ a ∧ a ≤ 4) : RQ nf ns f (pDamp nf (upd s 2 a)) ∧ F_X11_setGear N a hc hf (s 12) (s 1) (s 2) (s 5) (s 3) (s 4) (s 6) (f 0) (f 1) (f 2) = some (Sum.inr (s 2), hc', hf', pDamp nf (upd s 2 a) 12, pDamp nf (upd s 2 a) 1, a, 1) := by
  obtain ⟨hR, h0, hD⟩ := hQ
  have h1 := RH_gear hR h
  refine ⟨RQ_damp h1 h0, ?_⟩
  have d1 : F_X3_damp N (s 12) (s 1) a (s 5) (s 3) (s 4) (s 6) (f 0) (f 1) (f 2) = some ((), pDamp nf (upd s 2 a) 12, pDamp nf (upd s 2 a) 1) := (p_damp hN h1).1
  unfold F_X11_setGear F_X3_shiftGear
  rw [k_within, if_pos h, Option.bind_some, if_neg (by decide), hH, Option.bind_some, d1, Option.bind_some, Option.bind_some]
theorem x_setWind (hN : 1000 ≤ N) (hQ : RQ nf ns f s) (hH : F_X2_record hc hf = some ((), hc', hf')) {a b : Int32} (h : (0 ≤ a ∧ a ≤ 7) ∧ (0 ≤ b ∧ b ≤ 9)) : RQ nf ns f (pDamp nf (upd (upd s 3 a) 4 b)) ∧ F_X11_setWind N a b hc hf (s 12) (s 1) (s 2) (s 5) (s 3) (s 4) (s 6) (f 0) (f 1) (f 2) = some (Sum.inr (pD (pDamp nf (upd (upd s 3 a) 4 b))), hc', hf', pDamp nf (upd (upd s 3 a) 4 b) 12, pDamp nf (upd (upd s 3 a) 4 b) 1, a, b, 1) := by
  obtain ⟨hR, h0, hD⟩ := hQ
  have h1 := RH_wind hR h.1 h.2
  refine ⟨RQ_damp h1 h0, ?_⟩
  have d1 : F_X3_damp N (s 12) (s 1) (s 2) (s 5) a b (s 6) (f 0) (f 1) (f 2) = some ((), pDamp nf (upd (upd s 3 a) 4 b) 12, pDamp nf (upd (upd s 3 a) 4 b) 1) := (p_damp hN h1).1
  have o2 := (p_damped h1).2
  have e := k_d (pDamp nf (upd (upd s 3 a) 4 b))
  rw [o2 3 (by decide) (by decide), o2 4 (by decide) (by decide), o2 2 (by decide) (by decide), o2 5 (by decide) (by decide)] at e
  unfold F_X11_setWind F_X3_changeWind
  rw [k_within, if_pos h.1, Option.bind_some, if_neg (by decide), k_within, if_pos h.2, Option.bind_some, if_neg (by decide), hH, Option.bind_some, d1, Option.bind_some, Option.bind_some]
  dsimp only
  rw [show F_X0_pull (s 2) (s 5) a b = some (pD (pDamp nf (upd (upd s 3 a) 4 b))) from e, Option.bind_some]
theorem x_putLoad (hN : 1000 ≤ N) (hQ : RQ nf ns f s) (hH : F_X2_record hc hf = some ((), hc', hf')) {a b : Int32} (h1 : 1 ≤ a ∧ a ≤ 99) (h2 : 0 ≤ b ∧ b ≤ 800) (h3 : s (15 + 4 * (nf - 1)) = 0) : RQ nf ns (fLay f (nf - 1) a b) (pDamp nf (sLay s (nf - 1) a b)) ∧
    F_X11_putLoad N a b hc hf (s 12) (s 1) (s 8) (s 2) (s 5) (s 3) (s 4) (s 6) (f 0) (f 1) (f 2) (f 3) = some (Sum.inr (nI (lCt (pDamp nf (sLay s (nf - 1) a b)) nf)), hc', hf', pDamp nf (sLay s (nf - 1) a b) 12, pDamp nf (sLay s (nf - 1) a b) 1, pDamp nf (sLay s (nf - 1) a b) 8, fLay f (nf - 1) a b 1, fLay f (nf - 1) a b 2, fLay f (nf - 1) a b 3, 1) := by
  obtain ⟨hR, h0, hD⟩ := hQ
  obtain ⟨⟨h6, hn1, hn4⟩, -⟩ := id hR
  have hR1 := RH_lay (i := nf - 1) (by omega) hR h1 h2
  have o := fun (j : Nat) (h8 : j ≠ 8) (h14 : j < 14) => sLay_o (s := s) (i := nf - 1) (m := a) (q := b) (j := j) h8 (by omega) (by omega) (by omega)
  have hQ1 := RQ_damp hR1 (by rw [o 0 (by decide) (by decide)]; exact h0)
  refine ⟨hQ1, ?_⟩
  have d1 := (p_damp hN hR1).1
  have o2 := (p_damped hR1).2
  rw [o 12 (by decide) (by decide), o 1 (by decide) (by decide), o 2 (by decide) (by decide), o 5 (by decide) (by decide), o 3 (by decide) (by decide), o 4 (by decide) (by decide), o 6 (by decide) (by decide), h6] at d1
  have ec := e_cT (f := fLay f (nf - 1) a b) (s := pDamp nf (sLay s (nf - 1) a b)) nf (fun i hi => (e_f1 hQ1.1 hi).1)
  have hp : F_X3_putOnTop N a b (s 12) (s 1) (s 8) (s 2) (s 5) (s 3) (s 4) (s 6) (f 0) (f 1) (f 2) (f 3) = some ((), pDamp nf (sLay s (nf - 1) a b) 12, pDamp nf (sLay s (nf - 1) a b) 1, pDamp nf (sLay s (nf - 1) a b) 8, fLay f (nf - 1) a b 1, fLay f (nf - 1) a b 2, fLay f (nf - 1) a b 3) := by
    unfold F_X3_putOnTop
    rw [h6, nI_pm hn1, k_place hn4 (by omega), Option.bind_some]
    show (F_X3_damp N (s 12) (s 1) (s 2) (s 5) (s 3) (s 4) (nI nf) (fLay f (nf - 1) a b 0) (fLay f (nf - 1) a b 1) (fLay f (nf - 1) a b 2)).bind _ = _
    rw [d1, Option.bind_some, o2 8 (by decide) (by decide)]
    rfl
  unfold F_X11_putLoad
  rw [k_within, if_pos h1, Option.bind_some, if_neg (by decide), k_within, if_pos h2, Option.bind_some, if_neg (by decide), k_canPut hR, if_pos ((e_f1 hR (i := nf - 1) (by omega)).1.mpr h3), Option.bind_some, if_neg (by decide), hH, Option.bind_some, hp, Option.bind_some]
  dsimp only
  rw [h6, k_count hN hn4, Option.bind_some, ec]
theorem x_lower (hN : 1000 ≤ N) (hQ : RQ nf ns f s) (hH : F_X2_record hc hf = some ((), hc', hf')) {i : Nat} (hi : i < nf) (hw' : lWhy ns s i = 0) : ∃ f2 : Nat → Nat → Int32, RQ nf (if i = 0 then ns + 1 else ns) f2 (pDamp nf (if i = 0 then lLow0 ns s else lLowI s i)) ∧ f2 0 = f 0 ∧ (∀ j, j < 14 → j ≠ 1 → j ≠ 7 → j ≠ 12 → pDamp nf (if i = 0 then lLow0 ns s else lLowI s i) j = s j) ∧ RH nf (if i = 0 then ns + 1 else ns) f2 (if i = 0 then lLow0 ns s else lLowI s i) ∧
    F_X11_lower N (nI i) hc hf (s 12) (s 1) (s 2) (s 5) (s 3) (s 4) (s 6) (f 0) (f 1) (f 2) (f 3) (s 7) (f 5) (f 6) (f 7) (f 4) (f 8) = some (Sum.inr (s (16 + 4 * i)), hc', hf', pDamp nf (if i = 0 then lLow0 ns s else lLowI s i) 12, pDamp nf (if i = 0 then lLow0 ns s else lLowI s i) 1, f2 1, f2 2, f2 3, pDamp nf (if i = 0 then lLow0 ns s else lLowI s i) 7, f2 5, f2 6, f2 7, f2 4, f2 8, 1) := by
  obtain ⟨hR, h0, hD⟩ := id hQ
  obtain ⟨⟨h6, hn1, hn4⟩, ⟨h7, hns⟩, -, -, hF, -⟩ := id hR
  have hw : pWhy ns f i = 0 := by rw [e_why hR hi]; exact hw'
  obtain ⟨hm, h20⟩ := p_why0 hR.2.1.2 hw
  obtain ⟨ns', f', s1, h1, -, h3, h4, h5, hs1, hn1'⟩ := p_lowL hN hR hi hm h20
  rw [hn1'] at h3
  obtain ⟨d1, -⟩ := p_damp hN h3
  obtain ⟨hR2, o2⟩ := p_damped h3
  rw [← hs1]
  refine ⟨f', RQ_damp h3 (by rw [h5 0 (by decide) (by decide)]; exact h0), h4, fun j h14 hj1 hj7 hj12 => by rw [o2 j hj1 hj12, h5 j h14 hj7], h3, ?_⟩
  rw [h5 12 (by decide) (by decide), h5 1 (by decide) (by decide), h5 2 (by decide) (by decide), h5 5 (by decide) (by decide), h5 3 (by decide) (by decide), h5 4 (by decide) (by decide), h5 6 (by decide) (by decide), h4] at d1
  have hp : F_X3_lowerOne N (nI i) (s 12) (s 1) (s 2) (s 5) (s 3) (s 4) (s 6) (f 0) (f 1) (f 2) (f 3) (s 7) (f 5) (f 6) (f 7) (f 4) (f 8) = some ((), pDamp nf s1 12, pDamp nf s1 1, f' 1, f' 2, f' 3, pDamp nf s1 7, f' 5, f' 6, f' 7, f' 4, f' 8) := by
    unfold F_X3_lowerOne
    rw [h1, Option.bind_some]
    show (F_X3_damp N (s 12) (s 1) (s 2) (s 5) (s 3) (s 4) (s 6) (f 0) (f' 1) (f' 2)).bind _ = _
    rw [d1, Option.bind_some, o2 7 (by decide) (by decide)]
  unfold F_X11_lower
  rw [show F_X11_requireFloor (nI i) (s 6) = some (Sum.inr ()) by rw [h6]; exact rq_in hn4 hi, Option.bind_some]
  dsimp only [Sum.elim]
  rw [k_why hR hi, Option.bind_some, if_pos hw, hH, Option.bind_some, if_pos (xin_nI (by omega) (by decide)), hp, Option.bind_some, tnI (by omega), ((hF i hi).2.2.2.2.1 hm).1]
theorem x_rotate (hN : 1000 ≤ N) (hQ : RQ nf ns f s) (hH : F_X2_record hc hf = some ((), hc', hf')) : ∃ f2 : Nat → Nat → Int32, RQ nf (lRotS nf 0 ns s).1 f2 (pDamp nf (lRotS nf 0 ns s).2) ∧ f2 0 = f 0 ∧ (∀ j, j < 14 → j ≠ 1 → j ≠ 7 → j ≠ 12 → pDamp nf (lRotS nf 0 ns s).2 j = s j) ∧ RH nf (lRotS nf 0 ns s).1 f2 (lRotS nf 0 ns s).2 ∧
    F_X11_rotate N hc hf (s 12) (s 1) (s 2) (s 5) (s 3) (s 4) (s 6) (f 0) (f 1) (f 2) (f 3) (s 7) (f 5) (f 6) (f 7) (f 4) (f 8) = some (lRotN nf 0 ns s, hc', hf', pDamp nf (lRotS nf 0 ns s).2 12, pDamp nf (lRotS nf 0 ns s).2 1, f2 1, f2 2, f2 3, pDamp nf (lRotS nf 0 ns s).2 7, f2 5, f2 6, f2 7, f2 4, f2 8, 1) := by
  obtain ⟨hR, h0, hD⟩ := id hQ
  obtain ⟨⟨h6, hn1, hn4⟩, -⟩ := id hR
  obtain ⟨ns', f', s1, c, h1, -, h3, h4, h5, hs1, hn1', hc1⟩ := p_rotL hN nf 0 ns f s (by omega) hR
  rw [hn1'] at h3
  obtain ⟨hR2, o2⟩ := p_damped h3
  rw [← hs1, ← hc1]
  refine ⟨f', RQ_damp h3 (by rw [h5 0 (by decide) (by decide)]; exact h0), h4, fun j h14 hj1 hj7 hj12 => by rw [o2 j hj1 hj12, h5 j h14 hj7], h3, ?_⟩
  have e0 : ∀ c : Int32, 0 + c = c := fun l1 => by grind
  have hp := h1 N 0 (by omega)
  rw [e0] at hp
  unfold F_X11_rotate F_X3_lowerAll
  rw [hH, Option.bind_some, show F_X3_lowerAll_b4 N (s 2) (s 5) (s 3) (s 4) (s 6) (f 0) N 0 0 (s 12) (s 1) (f 1) (f 2) (f 3) (s 7) (f 5) (f 6) (f 7) (f 4) (f 8) = _ from hp, Option.bind_some, o2 7 (by decide) (by decide)]
theorem RH_sell (hR : RH nf ns f s) {k : Nat} (hk : k < ns) : RH nf ns (va_up f 4 (upd (f 4) k 1)) (lSell s k) ∧ F_X5_giveAway (nI k) (s 7) (s 11) (s 9) (f 5) (f 6) (f 7) (f 4) = some ((), lSell s k 11, lSell s k 9, upd (f 4) k 1) := by
  obtain ⟨s', g1, g2, g3, g4⟩ := p_sell hR hk
  obtain ⟨⟨h6, hn1, hn4⟩, ⟨h7, hns⟩, hh, hA, hF, hS⟩ := id hR
  obtain ⟨r0, r1, r2, r3, r4, r5, r6⟩ := hS k hk
  have e : s' = lSell s k := by
    have hx0 : xin (nI (30 + 5 * k)) 130 = true := xin_nI (by omega) (by decide)
    unfold F_X12_sells at g2
    rw [m_atS0, Option.bind_some, if_pos hx0, tnI (k := 30 + 5 * k) (by omega), m_of1 (by omega), Option.bind_some, upd_o _ _ (show 31 + 5 * k ≠ 30 + 5 * k by omega), tn9, tn11, upd_o _ _ (show 9 ≠ 30 + 5 * k by omega)] at g2
    have p1 : ∀ z : Nat → Int32, z (31 + 5 * k) = s (31 + 5 * k) → z (32 + 5 * k) = s (32 + 5 * k) → z (33 + 5 * k) = s (33 + 5 * k) → F_X12_price (nI k) z = some (pPr f k) := fun z a b c => m_price (by omega) (a.trans r1.1) (b.trans r2.1) (c.trans r3.1)
    rw [p1 (upd (upd s (30 + 5 * k) 1) 9 (s 9 + s (31 + 5 * k))) (by rw [upd_o _ _ (by omega), upd_o _ _ (by omega)]) (by rw [upd_o _ _ (by omega), upd_o _ _ (by omega)]) (by rw [upd_o _ _ (by omega), upd_o _ _ (by omega)]), Option.bind_some, upd_o _ _ (show 11 ≠ 9 by decide), upd_o _ _ (show 11 ≠ 30 + 5 * k by omega)] at g2
    obtain ⟨x, -, hx⟩ := Option.bind_eq_some_iff.mp g2
    have := (congrArg Prod.snd (Option.some.inj hx)).symm
    refine (show s' = _ from this).trans ?_
    unfold lSell
    rw [← e_Pr hR hk]
  rw [← e]
  exact ⟨g3, g1⟩
theorem x_sell (hQ : RQ nf ns f s) (hH : F_X2_record hc hf = some ((), hc', hf')) {k : Nat} (hk : k < ns) (h1 : s (30 + 5 * k) = 0) (h2 : lGl (s (30 + 5 * k)) (s (32 + 5 * k)) (s (34 + 5 * k)) = 0) : RQ nf ns (va_up f 4 (upd (f 4) k 1)) (lSell s k) ∧
    F_X11_sell (nI k) hc hf (s 7) (s 11) (s 9) (f 5) (f 6) (f 7) (f 4) (f 8) = some (Sum.inr (lPr s k), hc', hf', lSell s k 11, lSell s k 9, upd (f 4) k 1, 1) := by
  obtain ⟨hR, h0, hD⟩ := id hQ
  obtain ⟨⟨h6, hn1, hn4⟩, ⟨h7, hns⟩, hh, hA, hF, hS⟩ := id hR
  obtain ⟨r0, r1, r2, r3, r4, r5, r6⟩ := hS k hk
  obtain ⟨g3, g1⟩ := RH_sell hR hk
  have o : ∀ j, j ≠ 9 → j ≠ 11 → j ≠ 30 + 5 * k → lSell s k j = s j := fun j x y z => by unfold lSell; rw [upd_o _ _ y, upd_o _ _ x, upd_o _ _ z]
  have hw : f 4 k = 0 ∧ ¬ (f 6 k < 60 ∧ 50 ≤ f 8 k) := by
    refine ⟨by rw [← r0]; exact h1, fun q => ?_⟩
    unfold lGl at h2
    rw [if_pos ⟨h1, by rw [r2.1]; exact q.1, by rw [r4]; exact q.2⟩] at h2
    exact absurd h2 (by decide)
  refine ⟨⟨g3, by rw [o 0 (by decide) (by decide) (by omega)]; exact h0, hD.cong (o 1 (by decide) (by decide) (by omega)) (o 2 (by decide) (by decide) (by omega)) (o 3 (by decide) (by decide) (by omega)) (o 4 (by decide) (by decide) (by omega)) (o 5 (by decide) (by decide) (by omega)) (fun i hi => o _ (by omega) (by omega) (by omega)) (fun i hi => o _ (by omega) (by omega) (by omega))⟩, ?_⟩
  unfold F_X11_sell
  rw [show F_X11_requireSack (nI k) (s 7) = some (Sum.inr ()) by rw [h7]; exact rS_in hns hk, Option.bind_some]
  dsimp only [Sum.elim]
  rw [show F_X5_canSell (nI k) (s 7) (f 6) (f 4) (f 8) = some 1 by rw [h7, k_canSell hns hk, if_pos hw], Option.bind_some, if_neg (by decide), hH, Option.bind_some, g1, Option.bind_some, show F_X5_price (nI k) (s 7) (f 5) (f 6) (f 7) = some (pPr f k) by rw [h7, k_price hns hk], Option.bind_some, e_Pr hR hk]
theorem x_quench (hQ : RQ nf ns f s) (hH : F_X2_record hc hf = some ((), hc', hf')) {k : Nat} (hk : k < ns) (h1 : s (30 + 5 * k) = 0) (h2 : s (32 + 5 * k) ≤ 700) : ∃ v : Int32, RQ nf ns (va_up (va_up f 6 (upd (f 6) k v)) 8 (upd (f 8) k 15)) (lQuen s k) ∧
    F_X11_quench (nI k) hc hf (s 7) (f 6) (f 4) (f 8) = some (Sum.inr (s (34 + 5 * k)), hc', hf', upd (f 6) k v, upd (f 8) k 15, 1) := by
  obtain ⟨hR, h0, hD⟩ := id hQ
  obtain ⟨⟨h6, hn1, hn4⟩, ⟨h7, hns⟩, hh, hA, hF, hS⟩ := id hR
  obtain ⟨r0, r1, r2, r3, r4, r5, r6⟩ := hS k hk
  obtain ⟨v, s', g1, g2, g3, g4⟩ := p_quench hR hk
  have hx2 : xin (nI (32 + 5 * k)) 130 = true := xin_nI (by omega) (by decide)
  have hx4 : xin (nI (34 + 5 * k)) 130 = true := xin_nI (by omega) (by decide)
  have e : s' = lQuen s k := by
    unfold F_X12_quenches F_X12_quenches_b52 at g2
    rw [m_of4 (by omega), Option.bind_some, m_of2 (by omega), Option.bind_some, m_atS4, Option.bind_some, if_pos hx4, m_atS2, Option.bind_some, if_pos hx2, if_pos hx2, tnI (k := 34 + 5 * k) (by omega), tnI (k := 32 + 5 * k) (by omega), if_pos (by rw [r2.1] at h2 ⊢; have := r2.2.1; grind)] at g2
    exact (show s' = _ from (congrArg Prod.snd (Option.some.inj g2)).symm)
  have o : ∀ j, j ≠ 32 + 5 * k → j ≠ 34 + 5 * k → lQuen s k j = s j := fun j x y => by unfold lQuen; rw [upd_o _ _ x, upd_o _ _ y]
  rw [e] at g3
  refine ⟨v, ⟨g3, by rw [o 0 (by omega) (by omega)]; exact h0, hD.cong (o 1 (by omega) (by omega)) (o 2 (by omega) (by omega)) (o 3 (by omega) (by omega)) (o 4 (by omega) (by omega)) (o 5 (by omega) (by omega)) (fun i hi => o _ (by omega) (by omega)) (fun i hi => o _ (by omega) (by omega))⟩, ?_⟩
  unfold F_X11_quench
  rw [show F_X11_requireSack (nI k) (s 7) = some (Sum.inr ()) by rw [h7]; exact rS_in hns hk, Option.bind_some]
  dsimp only [Sum.elim]
  rw [show F_X5_isStored (nI k) (s 7) (f 4) = some 1 by rw [h7, k_st hns hk, if_pos (by rw [← r0]; exact h1)], Option.bind_some, if_neg (by decide), hH, Option.bind_some, if_pos (xin_nI (by omega) (by decide)), g1, Option.bind_some, tnI (by omega), r4]
theorem lPassA_RQ (hN : 1000 ≤ N) : ∀ (d : Nat) (f : Nat → Nat → Int32) (s : Nat → Int32), RQ nf ns f s → s 0 + nI d ≤ 9999 → d ≤ 200 → ∀ t : Nat → Int32, ∃ f2, RQ nf ns f2 (lPassA nf ns d s) := by
  intro d
  induction d with
  | zero => intro f s h _ _ t; exact ⟨f, h⟩
  | succ d ih =>
    intro f s hQ hb hd t
    obtain ⟨hR, h0, hD⟩ := id hQ
    obtain ⟨f1, t1, -, h2, h3, h4, h5, -⟩ := p_minL hN hR t
    rw [lPassA]
    have q := nI_succ d
    have hd2 : nI d ≤ 200 := nI_le (b := 200) (by omega) (by decide)
    have hd3 : 0 ≤ nI d := nI_pos' (by omega)
    rw [q] at hb
    have hb1 : 0 ≤ s 0 + 1 ∧ s 0 + 1 ≤ 9999 := by grind
    refine ih f1 (lPass nf ns s) ⟨h3, by rw [h5]; exact hb1, damps_RD hN h3 (p_damp hN h2).2⟩ (by rw [h5]; grind) (by omega) t1
theorem x_advance (hN : 1000 ≤ N) (hQ : RQ nf ns f s) (hH : F_X2_record hc hf = some ((), hc', hf')) (t : Nat → Int32) {n : Nat} (h1 : 1 ≤ n ∧ n ≤ 100) (h2 : s 0 + nI n ≤ 9999) : ∃ (f2 : Nat → Nat → Int32) (t2 : Nat → Int32), RQ nf ns f2 (lPassA nf ns n s) ∧ pKeep f f2 s (lPassA nf ns n s) ∧ lPassA nf ns n s 0 = s 0 + nI n ∧
    F_X11_advance N (nI n) hc hf (s 12) (s 1) (s 0) (s 13) (s 2) (s 5) (s 3) (s 4) (s 6) (f 0) (f 1) (f 2) (f 3) (s 10) (s 7) (f 5) (f 6) (f 4) (f 8) t = some (Sum.inr (lPassN nf ns n s), hc', hf', lPassA nf ns n s 12, lPassA nf ns n s 1, lPassA nf ns n s 0, lPassA nf ns n s 13, lPassA nf ns n s 5, f2 2, f2 3, lPassA nf ns n s 10, f2 4, f2 8, t2, 1) := by
  obtain ⟨hR, h0, hD⟩ := id hQ
  have ha : 1 ≤ nI n ∧ nI n ≤ 120 := ⟨nI_le (a := 1) h1.1 (by omega), nI_le (b := 120) (by omega) (by decide)⟩
  obtain ⟨f2, t2, g1, g3, g4, g5⟩ := p_passL hN (n := n) (by omega) (by omega) hR t
  obtain ⟨f3, hQ3⟩ := lPassA_RQ hN n f s hQ h2 (by omega) t
  refine ⟨f2, t2, ⟨g3, hQ3.2.1, hQ3.2.2⟩, g4, g5, ?_⟩
  unfold F_X11_advance
  rw [k_within, if_pos ha, Option.bind_some, if_neg (by decide), k_canWait h0 ha, if_pos h2, Option.bind_some, if_neg (by decide), hH, Option.bind_some, g1, Option.bind_some]
end DOING
