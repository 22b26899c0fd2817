/-! PURE: lowering -/
/-- a load moved from floor i to floor i - 1 -/
def fDown (f : Nat → Nat → Int32) (i : Nat) : Nat → Nat → Int32 := va_up (va_up (va_up f 1 (upd (upd (f 1) (i - 1) (f 1 i)) i 0)) 2 (upd (f 2) (i - 1) (f 2 i))) 3 (upd (f 3) (i - 1) (f 3 i))
def sEmpty (s : Nat → Int32) (i : Nat) : Nat → Int32 := upd (upd (upd s (15 + 4 * i) 0) (16 + 4 * i) 0) (17 + 4 * i) 0
def sDown (f : Nat → Nat → Int32) (s : Nat → Int32) (i : Nat) : Nat → Int32 := sEmpty (upd (upd (upd s (15 + 4 * (i - 1)) (f 1 i)) (16 + 4 * (i - 1)) (f 2 i)) (17 + 4 * (i - 1)) (f 3 i)) i
theorem m_empties {i : Nat} (hi : i < 4) (s : Nat → Int32) : F_X12_empties (nI i) s = some ((), sEmpty s i) := by
  have h1 : xin (nI (15 + 4 * i)) 130 = true := xin_nI (by omega) (by decide)
  have h2 : xin (nI (16 + 4 * i)) 130 = true := xin_nI (by omega) (by decide)
  have h3 : xin (nI (17 + 4 * i)) 130 = true := xin_nI (by omega) (by decide)
  unfold F_X12_empties
  rw [m_atF1, Option.bind_some, if_pos h1, m_atF2, Option.bind_some, if_pos h2, m_atF3, Option.bind_some, if_pos h3, tnI (k := 15 + 4 * i) (by omega), tnI (k := 16 + 4 * i) (by omega), tnI (k := 17 + 4 * i) (by omega)]
  rfl
theorem sEmpty_o {s : Nat → Int32} {i j : Nat} (h1 : j ≠ 15 + 4 * i) (h2 : j ≠ 16 + 4 * i) (h3 : j ≠ 17 + 4 * i) : sEmpty s i j = s j := by
  unfold sEmpty; rw [upd_o _ _ h3, upd_o _ _ h2, upd_o _ _ h1]
theorem sEmpty_i (s : Nat → Int32) (i : Nat) : sEmpty s i (15 + 4 * i) = 0 ∧ sEmpty s i (16 + 4 * i) = 0 ∧ sEmpty s i (17 + 4 * i) = 0 := by
  unfold sEmpty
  refine ⟨?_, ?_, ?_⟩
  · rw [upd_o _ _ (by omega), upd_o _ _ (by omega), upd_s]
  · rw [upd_o _ _ (by omega), upd_s]
  · rw [upd_s]
theorem RF_down {nf i : Nat} {f : Nat → Nat → Int32} {s : Nat → Int32} (hnf : nf ≤ 4) (h0 : 0 < i) (hi : i < nf) (hF : RF nf f s) (hm : 0 < f 1 i) : RF nf (fDown f i) (sDown f s i) := fun j hj => by
  obtain ⟨gl, gm, gq, gs, gp, gz⟩ := hF j hj
  obtain ⟨il, im, iq, is, ip, iz⟩ := hF i hi
  have e0 : fDown f i 0 = f 0 := rfl
  have e1 : fDown f i 1 = upd (upd (f 1) (i - 1) (f 1 i)) i 0 := rfl
  have e2 : fDown f i 2 = upd (f 2) (i - 1) (f 2 i) := rfl
  have e3 : fDown f i 3 = upd (f 3) (i - 1) (f 3 i) := rfl
  obtain ⟨p2, p3⟩ := ip hm
  rw [e0, e1, e2, e3]
  unfold sDown
  rw [sEmpty_o (j := 14 + 4 * j) (by omega) (by omega) (by omega), upd_o _ _ (show 14 + 4 * j ≠ 17 + 4 * (i - 1) by omega), upd_o _ _ (show 14 + 4 * j ≠ 16 + 4 * (i - 1) by omega), upd_o _ _ (show 14 + 4 * j ≠ 15 + 4 * (i - 1) by omega)]
  by_cases hji : j = i
  · subst hji
    obtain ⟨z1, z2, z3⟩ := sEmpty_i (upd (upd (upd s (15 + 4 * (j - 1)) (f 1 j)) (16 + 4 * (j - 1)) (f 2 j)) (17 + 4 * (j - 1)) (f 3 j)) j
    rw [z1, z2, z3, upd_s]
    exact ⟨gl, ⟨rfl, by decide, by decide⟩, ⟨by decide, by decide⟩, ⟨by decide, by decide⟩, fun h => absurd h (by decide), fun _ => ⟨rfl, rfl⟩⟩
  · rw [upd_o _ _ hji, sEmpty_o (j := 15 + 4 * j) (by omega) (by omega) (by omega), sEmpty_o (j := 16 + 4 * j) (by omega) (by omega) (by omega), sEmpty_o (j := 17 + 4 * j) (by omega) (by omega) (by omega)]
    by_cases hj1 : j = i - 1
    · subst hj1
      have a1 : upd (upd (upd s (15 + 4 * (i - 1)) (f 1 i)) (16 + 4 * (i - 1)) (f 2 i)) (17 + 4 * (i - 1)) (f 3 i) (15 + 4 * (i - 1)) = f 1 i := by rw [upd_o _ _ (by omega), upd_o _ _ (by omega), upd_s]
      have a2 : upd (upd (upd s (15 + 4 * (i - 1)) (f 1 i)) (16 + 4 * (i - 1)) (f 2 i)) (17 + 4 * (i - 1)) (f 3 i) (16 + 4 * (i - 1)) = f 2 i := by rw [upd_o _ _ (by omega), upd_s]
      rw [a1, a2, upd_s, upd_s, upd_s, upd_s]
      exact ⟨gl, ⟨rfl, im.2⟩, by rw [← p2]; exact iq, by rw [← p3]; exact is, fun _ => ⟨rfl, rfl⟩, fun h => by exfalso; grind⟩
    · rw [upd_o _ _ (show 15 + 4 * j ≠ 17 + 4 * (i - 1) by omega), upd_o _ _ (show 15 + 4 * j ≠ 16 + 4 * (i - 1) by omega), upd_o _ _ (show 15 + 4 * j ≠ 15 + 4 * (i - 1) by omega), upd_o _ _ (show 16 + 4 * j ≠ 17 + 4 * (i - 1) by omega), upd_o _ _ (show 16 + 4 * j ≠ 16 + 4 * (i - 1) by omega), upd_o _ _ (show 16 + 4 * j ≠ 15 + 4 * (i - 1) by omega), upd_o _ _ (show 17 + 4 * j ≠ 17 + 4 * (i - 1) by omega), upd_o _ _ (show 17 + 4 * j ≠ 16 + 4 * (i - 1) by omega), upd_o _ _ (show 17 + 4 * j ≠ 15 + 4 * (i - 1) by omega), upd_o _ _ hj1, upd_o _ _ hj1, upd_o _ _ hj1]
      exact ⟨gl, gm, gq, gs, gp, gz⟩
/-- the load of floor 0 packed as sack ns, at T degrees -/
def fPack (f : Nat → Nat → Int32) (ns : Nat) (T : Int32) : Nat → Nat → Int32 := va_up (va_up (va_up (va_up (va_up (va_up f 1 (upd (f 1) 0 0)) 4 (upd (f 4) ns 0)) 5 (upd (f 5) ns (f 1 0))) 6 (upd (f 6) ns (f 2 0))) 7 (upd (f 7) ns (f 3 0))) 8 (upd (f 8) ns T)
def sPack0 (f : Nat → Nat → Int32) (s : Nat → Int32) (ns : Nat) (T : Int32) : Nat → Int32 := upd (upd (upd (upd (upd (upd s 7 (nI ns + 1)) (30 + 5 * ns) 0) (31 + 5 * ns) (f 1 0)) (32 + 5 * ns) (f 2 0)) (33 + 5 * ns) (f 3 0)) (34 + 5 * ns) T
theorem sPack0_o {f : Nat → Nat → Int32} {s : Nat → Int32} {ns : Nat} {T : Int32} {j : Nat} (h7 : j ≠ 7) (h : j < 30 + 5 * ns ∨ 35 + 5 * ns ≤ j) : sPack0 f s ns T j = s j := by
  unfold sPack0; rw [upd_o _ _ (by omega), upd_o _ _ (by omega), upd_o _ _ (by omega), upd_o _ _ (by omega), upd_o _ _ (by omega), upd_o _ _ h7]
theorem p_low {N nf ns i : Nat} {f : Nat → Nat → Int32} {s : Nat → Int32} (hN : 1000 ≤ N) (hR : RH nf ns f s) (hi : i < nf) (hm : 0 < f 1 i) (h20 : i = 0 → ns < 20) :
    ∃ (ns' : Nat) (f' : Nat → Nat → Int32) (s' : Nat → Int32), F_X3_moveOrPack N (nI i) (s 1) (s 2) (s 5) (s 3) (s 4) (s 6) (f 1) (f 2) (f 3) (s 7) (f 5) (f 6) (f 7) (f 4) (f 8) = some ((), f' 1, f' 2, f' 3, s' 7, f' 5, f' 6, f' 7, f' 4, f' 8) ∧
      F_X12_lowers N (nI i) s = some (f 2 i, s') ∧ RH nf ns' f' s' ∧ f' 0 = f 0 ∧ (∀ j, j < 14 → j ≠ 7 → s' j = s j) := by
  obtain ⟨⟨h6, hn1, hn4⟩, ⟨h7, hns⟩, hh, hA, hF, hS⟩ := id hR
  obtain ⟨il, im, iq, is, ip, iz⟩ := hF i hi
  obtain ⟨p2, p3⟩ := ip hm
  have hx : xin (nI i) 4 = true := xin_nI (by omega) (by decide)
  by_cases h0 : i = 0
  · subst h0
    have hns2 := h20 rfl
    have hT := pT_r hF hA hh hn4 (i := 0) (by omega)
    have im1 : s 15 = f 1 0 := im.1
    have ip2 : s 16 = f 2 0 := p2
    have ip3 : s 17 = f 3 0 := p3
    have hp : ∀ k, k < 5 → xin (nI (30 + k + 5 * ns)) 130 = true := fun k hk => xin_nI (by omega) (by decide)
    have q0 : xin (nI (30 + 5 * ns)) 130 = true := hp 0 (by decide)
    have q1 : xin (nI (31 + 5 * ns)) 130 = true := hp 1 (by decide)
    have q2 : xin (nI (32 + 5 * ns)) 130 = true := hp 2 (by decide)
    have q3 : xin (nI (33 + 5 * ns)) 130 = true := hp 3 (by decide)
    have q4 : xin (nI (34 + 5 * ns)) 130 = true := hp 4 (by decide)
    have hxn : xin (nI ns) 20 = true := xin_nI hns2 (by decide)
    refine ⟨ns + 1, fPack f ns (pT s 0), sEmpty (sPack0 f s ns (pT s 0)) 0, ?_, ?_, ?_, rfl, fun j h14 hj7 => ?_⟩
    · unfold F_X3_moveOrPack
      rw [if_pos (by decide), h6, show F_X3_temperatureNow N 0 (s 1) (s 2) (s 5) (s 3) (s 4) (nI nf) (f 1) (f 2) = some (pT s 0) from k_tn (i := 0) hN hn4 (by omega) hF, Option.bind_some]
      unfold F_X5_pack F_X5_isFull
      rw [h7, if_pos (show nI ns < 20 from nI_lt (b := 20) hns2 (by decide)), Option.bind_some, if_pos rfl, if_pos hxn, if_pos hxn, if_pos hxn, if_pos hxn, if_pos hxn, tnI (by omega), tn0, Option.bind_some]
      have e7 : sEmpty (sPack0 f s ns (pT s 0)) 0 7 = nI ns + 1 := by
        rw [sEmpty_o (by decide) (by decide) (by decide)]; unfold sPack0
        rw [upd_o _ _ (by omega), upd_o _ _ (by omega), upd_o _ _ (by omega), upd_o _ _ (by omega), upd_o _ _ (by omega), upd_s]
      rw [e7]
      rfl
    · have hpk : F_X12_packs N s = some ((), sPack0 f s ns (pT s 0)) := by
        unfold F_X12_packs
        rw [tn7, h7, m_atS0, Option.bind_some, if_pos q0, m_atS1, Option.bind_some, tnI (k := 30 + 5 * ns) (by omega)]
        have o1 : F_X12_onFloor 0 1 (upd (upd s 7 (nI ns + 1)) (30 + 5 * ns) 0) = some (f 1 0) := by
          have := m_on1 (i := 0) (by decide) (upd (upd s 7 (nI ns + 1)) (30 + 5 * ns) 0)
          rw [upd_o _ _ (by omega), upd_o _ _ (by decide)] at this
          rw [← im1]; exact this
        rw [o1, Option.bind_some, if_pos q1, m_atS2, Option.bind_some, tnI (k := 31 + 5 * ns) (by omega)]
        have o2 : F_X12_onFloor 0 2 (upd (upd (upd s 7 (nI ns + 1)) (30 + 5 * ns) 0) (31 + 5 * ns) (f 1 0)) = some (f 2 0) := by
          have := m_on2 (i := 0) (by decide) (upd (upd (upd s 7 (nI ns + 1)) (30 + 5 * ns) 0) (31 + 5 * ns) (f 1 0))
          rw [upd_o _ _ (by omega), upd_o _ _ (by omega), upd_o _ _ (by decide)] at this
          rw [← ip2]; exact this
        rw [o2, Option.bind_some, if_pos q2, m_atS3, Option.bind_some, tnI (k := 32 + 5 * ns) (by omega)]
        have o3 : F_X12_onFloor 0 3 (upd (upd (upd (upd s 7 (nI ns + 1)) (30 + 5 * ns) 0) (31 + 5 * ns) (f 1 0)) (32 + 5 * ns) (f 2 0)) = some (f 3 0) := by
          have := m_on3 (i := 0) (by decide) (upd (upd (upd (upd s 7 (nI ns + 1)) (30 + 5 * ns) 0) (31 + 5 * ns) (f 1 0)) (32 + 5 * ns) (f 2 0))
          rw [upd_o _ _ (by omega), upd_o _ _ (by omega), upd_o _ _ (by omega), upd_o _ _ (by decide)] at this
          rw [← ip3]; exact this
        rw [o3, Option.bind_some, if_pos q3, m_atS4, Option.bind_some, tnI (k := 33 + 5 * ns) (by omega)]
        obtain ⟨z, hz⟩ : ∃ z, z = upd (upd (upd (upd (upd s 7 (nI ns + 1)) (30 + 5 * ns) 0) (31 + 5 * ns) (f 1 0)) (32 + 5 * ns) (f 2 0)) (33 + 5 * ns) (f 3 0) := ⟨_, rfl⟩
        have zo : ∀ j, j < 30 → j ≠ 7 → z j = s j := fun j h30 hj7 => by rw [hz, upd_o _ _ (by omega), upd_o _ _ (by omega), upd_o _ _ (by omega), upd_o _ _ (by omega), upd_o _ _ hj7]
        have hd : F_X12_degrees N 0 z = some (pT s 0) := by
          have := m_deg (i := 0) hN (by decide) z
          have e : pT z 0 = pT s 0 := by
            unfold pT pW
            rw [zo 1 (by decide) (by decide), pD_upd (zo 2 (by decide) (by decide)) (zo 3 (by decide) (by decide)) (zo 4 (by decide) (by decide)) (zo 5 (by decide) (by decide))]
            rfl
          rw [e] at this; exact this
        rw [← hz, hd, Option.bind_some, if_pos q4, tnI (k := 34 + 5 * ns) (by omega), hz]
        rfl
      unfold F_X12_lowers F_X12_lowers_b67
      have o0 : F_X12_onFloor (nI 0) 2 s = some (f 2 0) := by rw [← ip2]; exact m_on2 (i := 0) (by decide) s
      rw [o0, Option.bind_some, if_pos (by rfl), hpk, Option.bind_some, m_empties (by decide), Option.bind_some]
    · obtain ⟨v, hv⟩ : ∃ v, v = sEmpty (sPack0 f s ns (pT s 0)) 0 := ⟨_, rfl⟩
      have vo : ∀ j, j ≠ 7 → j ≠ 15 → j ≠ 16 → j ≠ 17 → j < 30 + 5 * ns → v j = s j := fun j a b c d e => by
        rw [hv, sEmpty_o b c d, sPack0_o a (Or.inl e)]
      rw [← hv]
      refine ⟨⟨by rw [vo 6 (by decide) (by decide) (by decide) (by decide) (by omega)]; exact h6, hn1, hn4⟩, ⟨?_, by omega⟩, by rw [vo 1 (by decide) (by decide) (by decide) (by decide) (by omega)]; exact hh, hA.cong (vo 2 (by decide) (by decide) (by decide) (by decide) (by omega)) (vo 3 (by decide) (by decide) (by decide) (by decide) (by omega)) (vo 4 (by decide) (by decide) (by decide) (by decide) (by omega)) (vo 5 (by decide) (by decide) (by decide) (by decide) (by omega)), ?_, ?_⟩
      · rw [hv, sEmpty_o (by decide) (by decide) (by decide)]; unfold sPack0
        rw [upd_o _ _ (by omega), upd_o _ _ (by omega), upd_o _ _ (by omega), upd_o _ _ (by omega), upd_o _ _ (by omega), upd_s, nI_succ]
      · intro j hj
        obtain ⟨gl, gm, gq, gs, gp, gz⟩ := hF j hj
        have e0 : fPack f ns (pT s 0) 0 = f 0 := rfl
        have e1 : fPack f ns (pT s 0) 1 = upd (f 1) 0 0 := rfl
        have e2 : fPack f ns (pT s 0) 2 = f 2 := rfl
        have e3 : fPack f ns (pT s 0) 3 = f 3 := rfl
        rw [e0, e1, e2, e3, vo (14 + 4 * j) (by omega) (by omega) (by omega) (by omega) (by omega)]
        by_cases hj0 : j = 0
        · subst hj0
          obtain ⟨z1, z2, z3⟩ := sEmpty_i (sPack0 f s ns (pT s 0)) 0
          rw [hv, z1, z2, z3, upd_s]
          exact ⟨gl, ⟨rfl, by decide, by decide⟩, ⟨by decide, by decide⟩, ⟨by decide, by decide⟩, fun h => absurd h (by decide), fun _ => ⟨rfl, rfl⟩⟩
        · rw [upd_o _ _ hj0, vo (15 + 4 * j) (by omega) (by omega) (by omega) (by omega) (by omega), vo (16 + 4 * j) (by omega) (by omega) (by omega) (by omega) (by omega), vo (17 + 4 * j) (by omega) (by omega) (by omega) (by omega) (by omega)]
          exact ⟨gl, gm, gq, gs, gp, gz⟩
      · intro k hk
        have e4 : fPack f ns (pT s 0) 4 = upd (f 4) ns 0 := rfl
        have e5 : fPack f ns (pT s 0) 5 = upd (f 5) ns (f 1 0) := rfl
        have e6 : fPack f ns (pT s 0) 6 = upd (f 6) ns (f 2 0) := rfl
        have e7 : fPack f ns (pT s 0) 7 = upd (f 7) ns (f 3 0) := rfl
        have e8 : fPack f ns (pT s 0) 8 = upd (f 8) ns (pT s 0) := rfl
        rw [e4, e5, e6, e7, e8]
        by_cases hkn : k = ns
        · subst hkn
          have b : ∀ j, 30 ≤ j → v j = sPack0 f s k (pT s 0) j := fun j hj => by rw [hv, sEmpty_o (by omega) (by omega) (by omega)]
          rw [b _ (by omega), b _ (by omega), b _ (by omega), b _ (by omega), b _ (by omega), upd_s, upd_s, upd_s, upd_s, upd_s]
          have c0 : sPack0 f s k (pT s 0) (30 + 5 * k) = 0 := by unfold sPack0; rw [upd_o _ _ (by omega), upd_o _ _ (by omega), upd_o _ _ (by omega), upd_o _ _ (by omega), upd_s]
          have c1 : sPack0 f s k (pT s 0) (31 + 5 * k) = f 1 0 := by unfold sPack0; rw [upd_o _ _ (by omega), upd_o _ _ (by omega), upd_o _ _ (by omega), upd_s]
          have c2 : sPack0 f s k (pT s 0) (32 + 5 * k) = f 2 0 := by unfold sPack0; rw [upd_o _ _ (by omega), upd_o _ _ (by omega), upd_s]
          have c3 : sPack0 f s k (pT s 0) (33 + 5 * k) = f 3 0 := by unfold sPack0; rw [upd_o _ _ (by omega), upd_s]
          have c4 : sPack0 f s k (pT s 0) (34 + 5 * k) = pT s 0 := by unfold sPack0; rw [upd_s]
          rw [c0, c1, c2, c3, c4]
          exact ⟨rfl, ⟨rfl, im.2⟩, ⟨rfl, by rw [← p2]; exact iq⟩, ⟨rfl, by rw [← p3]; exact is⟩, rfl, fun _ => ⟨hT.1, by grind⟩, Or.inl rfl⟩
        · have hk2 : k < ns := by omega
          obtain ⟨r0, r1, r2, r3, r4, r5, r6⟩ := hS k hk2
          rw [vo _ (by omega) (by omega) (by omega) (by omega) (by omega), vo _ (by omega) (by omega) (by omega) (by omega) (by omega), vo _ (by omega) (by omega) (by omega) (by omega) (by omega), vo _ (by omega) (by omega) (by omega) (by omega) (by omega), vo _ (by omega) (by omega) (by omega) (by omega) (by omega), upd_o _ _ hkn, upd_o _ _ hkn, upd_o _ _ hkn, upd_o _ _ hkn, upd_o _ _ hkn]
          exact ⟨r0, r1, r2, r3, r4, r5, r6⟩
    · rw [sEmpty_o (by omega) (by omega) (by omega), sPack0_o hj7 (by omega)]
  · have hip : 0 < i := by omega
    have hx1 : xin (nI (i - 1)) 4 = true := xin_nI (by omega) (by decide)
    refine ⟨ns, fDown f i, sDown f s i, ?_, ?_, ⟨⟨?_, hn1, hn4⟩, ⟨?_, hns⟩, ?_, hA.cong ?_ ?_ ?_ ?_, RF_down hn4 hip hi hF hm, RS.cong hS (fun j h30 => ?_) rfl rfl rfl rfl rfl⟩, rfl, fun j h14 hj7 => ?_⟩
    · unfold F_X3_moveOrPack
      rw [if_neg (nI_nle hip (by omega))]
      unfold F_X1_moveDown
      rw [h6, if_neg (nI_nle hip (by omega)), k_ex hn4 hi, Option.bind_some, if_neg (by decide), nI_pm (by omega), if_pos hx, if_pos hx1, if_pos hx, if_pos hx1, if_pos hx, if_pos hx1, if_pos hx, Option.bind_some, tnI (k := i) (by omega), tnI (k := i - 1) (by omega)]
      have e7 : sDown f s i 7 = s 7 := by unfold sDown; rw [sEmpty_o (by omega) (by omega) (by omega), upd_o _ _ (by omega), upd_o _ _ (by omega), upd_o _ _ (by omega)]
      rw [e7]
      rfl
    · have q1 : xin (nI (15 + 4 * (i - 1))) 130 = true := xin_nI (by omega) (by decide)
      have q2 : xin (nI (16 + 4 * (i - 1))) 130 = true := xin_nI (by omega) (by decide)
      have q3 : xin (nI (17 + 4 * (i - 1))) 130 = true := xin_nI (by omega) (by decide)
      unfold F_X12_lowers F_X12_lowers_b67
      rw [m_on2 (by omega), Option.bind_some, p2, if_neg (nI_ne0 hip (by omega)), nI_pm (by omega), m_atF1, Option.bind_some, m_on1 (by omega), Option.bind_some, im.1, if_pos q1, m_atF2, Option.bind_some, if_pos q2, m_atF3, Option.bind_some, tnI (k := 15 + 4 * (i - 1)) (by omega), tnI (k := 16 + 4 * (i - 1)) (by omega), m_on3 (by omega), Option.bind_some, if_pos q3, tnI (k := 17 + 4 * (i - 1)) (by omega), m_empties (by omega), Option.bind_some, upd_o _ _ (show 17 + 4 * i ≠ 16 + 4 * (i - 1) by omega), upd_o _ _ (show 17 + 4 * i ≠ 15 + 4 * (i - 1) by omega), p3]
      rfl
    all_goals (unfold sDown; rw [sEmpty_o (by omega) (by omega) (by omega), upd_o _ _ (by omega), upd_o _ _ (by omega), upd_o _ _ (by omega)])
    · exact h6
    · exact h7
    · exact hh
