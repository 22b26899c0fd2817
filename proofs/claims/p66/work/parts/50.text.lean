/-! PURE: append and truncate -/
def bA (a k : Int32) : Int32 := (a >>> (k &&& 31)) &&& 255
theorem bv_eq (x : BitVec 32) (k : Nat) (hk : k ≤ 24) : BitVec.ushiftRight x k &&& 255#32 = BitVec.sshiftRight x k &&& 255#32 := by
  apply BitVec.eq_of_getLsbD_eq
  intro i hi
  have e1 : (BitVec.ushiftRight x k).getLsbD i = x.getLsbD (k + i) := BitVec.getLsbD_ushiftRight x k i
  rw [BitVec.getLsbD_and, BitVec.getLsbD_and, e1, BitVec.getLsbD_sshiftRight]
  by_cases h8 : i < 8
  · rw [if_pos (by omega), decide_eq_false (by omega), Bool.not_false, Bool.true_and]
  · have e2 : ∀ j, j < 32 → ¬ j < 8 → (255#32).getLsbD j = false := by decide
    rw [e2 i hi h8, Bool.and_false, Bool.and_false]
theorem b_eq (a : Int32) {k : Int32} (hk : k = 24 ∨ k = 16 ∨ k = 8 ∨ k = 0) : (Int32.toUInt32 a >>> (Int32.toUInt32 k &&& Int32.toUInt32 31)).toInt32 &&& 255 = bA a k := by
  unfold bA
  apply Int32.toBitVec_inj.mp
  rcases hk with rfl | rfl | rfl | rfl
  · exact bv_eq a.toBitVec 24 (by decide)
  · exact bv_eq a.toBitVec 16 (by decide)
  · exact bv_eq a.toBitVec 8 (by decide)
  · exact bv_eq a.toBitVec 0 (by decide)
theorem k_ge0 {k : Int32} (hk : k = 24 ∨ k = 16 ∨ k = 8 ∨ k = 0) : ¬ k < 0 := by rcases hk with rfl | rfl | rfl | rfl <;> decide
def cA (a k : Int32) : Nat := if bA a k = 0 then 0 else 1
def nB (a : Int32) : Nat := cA a 24 + cA a 16 + cA a 8 + cA a 0
theorem cA_le (a k : Int32) : cA a k ≤ 1 := by unfold cA; split <;> decide
theorem nB_le (a : Int32) : nB a ≤ 4 := by have := cA_le a 24; have := cA_le a 16; have := cA_le a 8; have := cA_le a 0; unfold nB; omega
theorem k_vis {N : Nat} (hN : 1000 ≤ N) (a : Int32) : F_X11_visibleBytes N a = some (nI (nB a)) := by
  have st : ∀ fu n (k : Int32), (k = 24 ∨ k = 16 ∨ k = 8 ∨ k = 0) → F_X11_visibleBytes_b5 N (fu + 1) a (nI n) k = F_X11_visibleBytes_b5 N fu a (nI (n + cA a k)) (k + (-8)) := by
    intro fu n k hk
    rw [F_X11_visibleBytes_b5, if_neg (k_ge0 hk), b_eq a hk]
    unfold F_X11_visibleBytes_b22
    by_cases h : bA a k = 0
    · rw [if_pos h, show cA a k = 0 from if_pos h]; rfl
    · rw [if_neg h, show cA a k = 1 from if_neg h, nI_1]
  have go : ∀ M, F_X11_visibleBytes_b5 N (M + 1 + 1 + 1 + 1 + 1) a (nI 0) 24 = some (nI (nB a)) := by
    intro M
    rw [st _ _ 24 (by decide), st _ _ (24 + (-8)) (by decide), st _ _ (24 + (-8) + (-8)) (by decide), st _ _ (24 + (-8) + (-8) + (-8)) (by decide), F_X11_visibleBytes_b5, if_pos (by decide)]
    unfold nB
    rw [Nat.zero_add]
    rfl
  obtain ⟨M, hM⟩ : ∃ M, N = M + 1 + 1 + 1 + 1 + 1 := ⟨N - 5, by omega⟩
  have := go M
  rw [← hM] at this
  exact this
theorem m_vis {N : Nat} (hN : 1000 ≤ N) (a : Int32) : F_X12_bytesIn N a = some (nI (nB a)) := by
  have st : ∀ fu n (k : Int32), (k = 24 ∨ k = 16 ∨ k = 8 ∨ k = 0) → F_X12_bytesIn_b5 N (fu + 1) a (nI n) k = F_X12_bytesIn_b5 N fu a (nI (n + cA a k)) (k + (-8)) := by
    intro fu n k hk
    rw [F_X12_bytesIn_b5, if_neg (k_ge0 hk), show (a >>> (k &&& 31)) &&& 255 = bA a k from rfl]
    unfold F_X12_bytesIn_b25
    by_cases h : bA a k = 0
    · rw [if_pos h, show cA a k = 0 from if_pos h, show nI n + 0 = nI n by grind]; rfl
    · rw [if_neg h, show cA a k = 1 from if_neg h, nI_1]
  have go : ∀ M, F_X12_bytesIn_b5 N (M + 1 + 1 + 1 + 1 + 1) a (nI 0) 24 = some (nI (nB a)) := by
    intro M
    rw [st _ _ 24 (by decide), st _ _ (24 + (-8)) (by decide), st _ _ (24 + (-8) + (-8)) (by decide), st _ _ (24 + (-8) + (-8) + (-8)) (by decide), F_X12_bytesIn_b5, if_pos (by decide)]
    unfold nB
    rw [Nat.zero_add]
    rfl
  obtain ⟨M, hM⟩ : ∃ M, N = M + 1 + 1 + 1 + 1 + 1 := ⟨N - 5, by omega⟩
  have := go M
  rw [← hM] at this
  exact this
abbrev TB : Type := Nat × (Nat → Int32)
def aB (a k : Int32) (p : TB) : TB := if bA a k = 0 then p else (p.1 + 1, upd p.2 p.1 (bA a k))
def a4 (a : Int32) (p : TB) : TB := aB a 0 (aB a 8 (aB a 16 (aB a 24 p)))
theorem aB_1 (a k : Int32) (p : TB) : (aB a k p).1 = p.1 + cA a k := by unfold aB cA; split <;> rfl
theorem a4_1 (a : Int32) (p : TB) : (a4 a p).1 = p.1 + nB a := by unfold a4 nB; rw [aB_1, aB_1, aB_1, aB_1]; omega
/-- two texts of one length and one content -/
def TA (p q : TB) : Prop := p.1 = q.1 ∧ ∀ i, i < p.1 → q.2 i = p.2 i
theorem TA.sB {p q : TB} (h : TA p q) (a k : Int32) : TA (aB a k p) (aB a k q) := by
  unfold aB
  by_cases hb : bA a k = 0
  · rw [if_pos hb, if_pos hb]; exact h
  · rw [if_neg hb, if_neg hb]
    refine ⟨by show p.1 + 1 = q.1 + 1; rw [h.1], fun i (hi : i < p.1 + 1) => ?_⟩
    show upd q.2 q.1 (bA a k) i = upd p.2 p.1 (bA a k) i
    by_cases hip : i = p.1
    · rw [hip, upd_s, h.1, upd_s]
    · rw [upd_o _ _ hip, upd_o _ _ (by rw [← h.1]; exact hip)]; exact h.2 i (by omega)
theorem TA.s4 {p q : TB} (h : TA p q) (a : Int32) : TA (a4 a p) (a4 a q) := (((h.sB a 24).sB a 16).sB a 8).sB a 0
theorem k_add4 {N : Nat} (hN : 1000 ≤ N) (a : Int32) (p : TB) (h : p.1 + nB a ≤ 800) : F_X9_addFour N a (nI p.1) p.2 = some ((), nI (a4 a p).1, (a4 a p).2) := by
  have st : ∀ fu (p : TB) (k : Int32), (k = 24 ∨ k = 16 ∨ k = 8 ∨ k = 0) → p.1 + cA a k ≤ 800 → F_X9_addFour_b3 N (fu + 1) a k (nI p.1) p.2 = F_X9_addFour_b3 N fu a (k + (-8)) (nI (aB a k p).1) (aB a k p).2 := by
    intro fu p k hk hp
    rw [F_X9_addFour_b3, if_neg (k_ge0 hk), b_eq a hk]
    unfold F_X9_addFour_b24
    by_cases hb : bA a k = 0
    · rw [if_pos hb, show aB a k p = p from if_pos hb]
    · have hc : cA a k = 1 := if_neg hb
      rw [hc] at hp
      rw [if_neg hb, show aB a k p = (p.1 + 1, upd p.2 p.1 (bA a k)) from if_neg hb]
      unfold F_X9_add
      rw [if_neg (show ¬ (800 : Int32) ≤ nI p.1 from nI_ge (b := 800) (by omega) (by decide)), if_pos (xin_nI (by omega) (by decide)), Option.bind_some, tnI (by omega), nI_1]
  have go : ∀ M, F_X9_addFour_b3 N (M + 1 + 1 + 1 + 1 + 1) a 24 (nI p.1) p.2 = some ((), nI (a4 a p).1, (a4 a p).2) := by
    intro M
    unfold nB at h
    rw [st _ p 24 (by decide) (by omega), show (24 : Int32) + (-8) = 16 from rfl, st _ (aB a 24 p) 16 (by decide) (by rw [aB_1]; show _ + cA a 16 ≤ 800; omega), show (16 : Int32) + (-8) = 8 from rfl, st _ (aB a 16 (aB a 24 p)) 8 (by decide) (by rw [aB_1, aB_1]; show _ + cA a 8 ≤ 800; omega), show (8 : Int32) + (-8) = 0 from rfl, st _ (aB a 8 (aB a 16 (aB a 24 p))) 0 (by decide) (by rw [aB_1, aB_1, aB_1]; show _ + cA a 0 ≤ 800; omega), F_X9_addFour_b3, if_pos (by decide)]
    rfl
  obtain ⟨M, hM⟩ : ∃ M, N = M + 1 + 1 + 1 + 1 + 1 := ⟨N - 5, by omega⟩
  have := go M
  rw [← hM] at this
  exact this
theorem m_add4 {N : Nat} (hN : 1000 ≤ N) (a : Int32) (p : TB) (h : p.1 + nB a ≤ 800) : F_X12_four N a (nI p.1) p.2 = some ((), nI (a4 a p).1, (a4 a p).2) := by
  have st : ∀ fu (p : TB) (k : Int32), (k = 24 ∨ k = 16 ∨ k = 8 ∨ k = 0) → p.1 + cA a k ≤ 800 → F_X12_four_b3 N (fu + 1) a k (nI p.1) p.2 = F_X12_four_b3 N fu a (k + (-8)) (nI (aB a k p).1) (aB a k p).2 := by
    intro fu p k hk hp
    rw [F_X12_four_b3, if_neg (k_ge0 hk), show (a >>> (k &&& 31)) &&& 255 = bA a k from rfl]
    unfold F_X12_four_b43
    by_cases hb : bA a k = 0
    · rw [if_pos hb, show aB a k p = p from if_pos hb]
    · have hc : cA a k = 1 := if_neg hb
      rw [hc] at hp
      rw [if_neg hb, show aB a k p = (p.1 + 1, upd p.2 p.1 (bA a k)) from if_neg hb, if_pos (xin_nI (by omega) (by decide)), tnI (by omega), nI_1]
  have go : ∀ M, F_X12_four_b3 N (M + 1 + 1 + 1 + 1 + 1) a 24 (nI p.1) p.2 = some ((), nI (a4 a p).1, (a4 a p).2) := by
    intro M
    unfold nB at h
    rw [st _ p 24 (by decide) (by omega), show (24 : Int32) + (-8) = 16 from rfl, st _ (aB a 24 p) 16 (by decide) (by rw [aB_1]; show _ + cA a 16 ≤ 800; omega), show (16 : Int32) + (-8) = 8 from rfl, st _ (aB a 16 (aB a 24 p)) 8 (by decide) (by rw [aB_1, aB_1]; show _ + cA a 8 ≤ 800; omega), show (8 : Int32) + (-8) = 0 from rfl, st _ (aB a 8 (aB a 16 (aB a 24 p))) 0 (by decide) (by rw [aB_1, aB_1, aB_1]; show _ + cA a 0 ≤ 800; omega), F_X12_four_b3, if_pos (by decide)]
    rfl
  obtain ⟨M, hM⟩ : ∃ M, N = M + 1 + 1 + 1 + 1 + 1 := ⟨N - 5, by omega⟩
  have := go M
  rw [← hM] at this
  exact this
def nB5 (a0 a1 a2 a3 a4 : Int32) : Nat := nB a0 + nB a1 + nB a2 + nB a3 + nB a4
def aA5 (b0 b1 b2 b3 b4 : Int32) (p : TB) : TB := a4 b4 (a4 b3 (a4 b2 (a4 b1 (a4 b0 p))))
theorem p_append {N : Nat} (hN : 1000 ≤ N) (p q : TB) (h : TA p q) (hp : p.1 ≤ 800) (b0 b1 b2 b3 b4 th : Int32) :
    (p.1 + nB5 b0 b1 b2 b3 b4 ≤ 800 → TA (aA5 b0 b1 b2 b3 b4 p) (aA5 b0 b1 b2 b3 b4 q) ∧ (aA5 b0 b1 b2 b3 b4 p).1 ≤ 800 ∧ F_X11_append N b0 b1 b2 b3 b4 (nI p.1) p.2 = some (Sum.inr (nI (aA5 b0 b1 b2 b3 b4 p).1), nI (aA5 b0 b1 b2 b3 b4 p).1, (aA5 b0 b1 b2 b3 b4 p).2) ∧ F_X12_append N b0 b1 b2 b3 b4 (nI q.1) th q.2 = some (nI (aA5 b0 b1 b2 b3 b4 p).1, nI (aA5 b0 b1 b2 b3 b4 p).1, 0, (aA5 b0 b1 b2 b3 b4 q).2)) ∧
    (¬ p.1 + nB5 b0 b1 b2 b3 b4 ≤ 800 → F_X11_append N b0 b1 b2 b3 b4 (nI p.1) p.2 = some (Sum.inl 0, nI p.1, p.2) ∧ F_X12_append N b0 b1 b2 b3 b4 (nI q.1) th q.2 = some (0, nI q.1, 1, q.2)) := by
  have l0 := nB_le b0; have l1 := nB_le b1; have l2 := nB_le b2; have l3 := nB_le b3; have l4 := nB_le b4
  have e1 : nI p.1 + ((((nI (nB b0) + nI (nB b1)) + nI (nB b2)) + nI (nB b3)) + nI (nB b4)) = nI (p.1 + nB5 b0 b1 b2 b3 b4) := by unfold nB5; rw [nI_add, nI_add, nI_add, nI_add, nI_add]
  have e2 : ((((nI q.1 + nI (nB b0)) + nI (nB b1)) + nI (nB b2)) + nI (nB b3)) + nI (nB b4) = nI (p.1 + nB5 b0 b1 b2 b3 b4) := by unfold nB5; rw [nI_add, nI_add, nI_add, nI_add, nI_add, h.1]; congr 1; omega
  constructor
  · intro hle
    have hle' := hle
    unfold nB5 at hle'
    have t0 := h.s4 b0
    have t1 := t0.s4 b1
    have t2 := t1.s4 b2
    have t3 := t2.s4 b3
    have t4 := t3.s4 b4
    have n0 := a4_1 b0 p
    have n1 := a4_1 b1 (a4 b0 p)
    have n2 := a4_1 b2 (a4 b1 (a4 b0 p))
    have n3 := a4_1 b3 (a4 b2 (a4 b1 (a4 b0 p)))
    have n4 := a4_1 b4 (a4 b3 (a4 b2 (a4 b1 (a4 b0 p))))
    have i0 := h.1; have i1 := t0.1; have i2 := t1.1; have i3 := t2.1; have i4 := t3.1; have i5 := t4.1
    have hx : nI (p.1 + nB5 b0 b1 b2 b3 b4) ≤ (800 : Int32) := nI_le (b := 800) hle (by decide)
    refine ⟨t4, by show (a4 b4 _).1 ≤ 800; omega, ?_, ?_⟩
    · unfold F_X11_append
      rw [k_vis hN, Option.bind_some, k_vis hN, Option.bind_some, k_vis hN, Option.bind_some, k_vis hN, Option.bind_some, k_vis hN, Option.bind_some, e1, if_pos hx]
      rw [k_add4 hN b0 p (by omega), Option.bind_some]
      dsimp only
      rw [k_add4 hN b1 _ (by omega), Option.bind_some]
      dsimp only
      rw [k_add4 hN b2 _ (by omega), Option.bind_some]
      dsimp only
      rw [k_add4 hN b3 _ (by omega), Option.bind_some]
      dsimp only
      rw [k_add4 hN b4 _ (by omega), Option.bind_some]
      rfl
    · unfold F_X12_append F_X12_append_b53
      rw [m_vis hN, Option.bind_some, m_vis hN, Option.bind_some, m_vis hN, Option.bind_some, m_vis hN, Option.bind_some, m_vis hN, Option.bind_some, e2, if_pos hx]
      rw [show F_X12_stops 0 1 0 = some (0, 0) from rfl, Option.bind_some, if_pos rfl]
      rw [m_add4 hN b0 q (by omega), Option.bind_some]
      dsimp only
      rw [m_add4 hN b1 _ (by omega), Option.bind_some]
      dsimp only
      rw [m_add4 hN b2 _ (by omega), Option.bind_some]
      dsimp only
      rw [m_add4 hN b3 _ (by omega), Option.bind_some]
      dsimp only
      rw [m_add4 hN b4 _ (by omega), Option.bind_some]
      show some (nI (a4 b4 (a4 b3 (a4 b2 (a4 b1 (a4 b0 q))))).1, nI (a4 b4 (a4 b3 (a4 b2 (a4 b1 (a4 b0 q))))).1, (0 : Int32), (a4 b4 (a4 b3 (a4 b2 (a4 b1 (a4 b0 q))))).2) = _
      rw [← i5]
      rfl
  · intro hgt
    have hx : ¬ nI (p.1 + nB5 b0 b1 b2 b3 b4) ≤ (800 : Int32) := nI_ge (a := 800) (by omega) (by unfold nB5; omega)
    constructor
    · unfold F_X11_append
      rw [k_vis hN, Option.bind_some, k_vis hN, Option.bind_some, k_vis hN, Option.bind_some, k_vis hN, Option.bind_some, k_vis hN, Option.bind_some, e1, if_neg hx]
    · unfold F_X12_append F_X12_append_b53
      rw [m_vis hN, Option.bind_some, m_vis hN, Option.bind_some, m_vis hN, Option.bind_some, m_vis hN, Option.bind_some, m_vis hN, Option.bind_some, e2, if_neg hx]
      rfl
theorem p_trunc {L : Nat} (a th : Int32) (hL : L ≤ 800) :
    (0 ≤ a ∧ a ≤ nI L → F_X11_truncate a (nI L) = some (Sum.inr a, a) ∧ F_X12_truncate a (nI L) th = some (a, a, 0)) ∧
    (¬ (0 ≤ a ∧ a ≤ nI L) → F_X11_truncate a (nI L) = some (Sum.inl 1, nI L) ∧ F_X12_truncate a (nI L) th = some (0, nI L, 1)) := by
  constructor
  · intro h
    constructor
    · unfold F_X11_truncate; rw [k_within, if_pos h, Option.bind_some, if_neg (by decide)]
    · unfold F_X12_truncate; rw [m_in0, if_pos h, Option.bind_some, if_neg (by decide)]; rfl
  · intro h
    constructor
    · unfold F_X11_truncate; rw [k_within, if_neg h, Option.bind_some, if_pos rfl]
    · unfold F_X12_truncate; rw [m_in0, if_neg h, Option.bind_some, if_pos rfl]; rfl
