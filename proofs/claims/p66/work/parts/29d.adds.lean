/-! ArrayList.add(e) -/
def tb_growA : List (Nat × List xI) := [(0, [(.aload_n 0, [], 0), (.aload_n 0, [], 0), (.getfield 48, [16, 2], 0), (.iconst 1, [], 1), (.iadd, [], 0)]), (7, [(.invokevirtual 69, [], 0)]), (10, [(.areturn, [], 0)])]
set_option maxRecDepth 100000 in
theorem ok_growA : ∀ q ∈ tb_growA, xChks mJx4a65c_grow_d5877 q.1 q.2 = true := by decide +kernel
theorem nJx4a65c_grow_d5877 : xNa mJx4a65c_grow_d5877 0 := by delta xNa; decide +kernel
set_option maxHeartbeats 4000000 in
set_option maxRecDepth 100000 in
theorem s_growA (E : xE) (hs : Nat) (m : Int32) (sk : Nat → Option Nat) (LP : List Nat) (G : Nat → List Value)  : SpP E mJx4a65c_grow_d5877 (xRm 4 127 1 60) [.ref hs] ([(hs, .inr (16, [.int m, .ref (E.2.2.1 42), .int (nI 0)]))] ++ (hLd LP G)) (growO E hs 0 m sk LP G) := by
  refine Sp.of oJx4a65c_grow_d5877 (L := [some (.ref hs)]) rfl rfl (Nat.le_of_ble_eq_true rfl) (show BdP E mJx4a65c_grow_d5877 (xRm 4 127 1 60) 1 60 (growO E hs 0 m sk LP G) 0 [some (.ref hs)] [] ([(hs, .inr (16, [.int m, .ref (E.2.2.1 42), .int (nI 0)]))] ++ (hLd LP G)) 0 0 from ?_)
  refine Bd.seg ok_growA 0 [0] rfl (And.intro (And.intro rfl rfl) (show BdP E mJx4a65c_grow_d5877 (xRm 4 127 1 60) 1 60 (growO E hs 0 m sk LP G) 7 [some (.ref hs)] [.int ((nI 0) + 1), .ref hs] ([(hs, .inr (16, [.int m, .ref (E.2.2.1 42), .int (nI 0)]))] ++ (hLd LP G)) 0 0 from ?_))
  rw [nI_1]
  show BdP E mJx4a65c_grow_d5877 (xRm 4 127 1 60) 1 60 (growO E hs 0 m sk LP G) 7 [some (.ref hs)] [.int (nI (0 + 1)), .ref hs] ([(hs, .inr (16, [.int m, .ref (E.2.2.1 42), .int (nI 0)]))] ++ (hLd LP G)) 0 0
  refine Bd.callVw oJx4a65c_grow_92f84 vJx4a65c_grow_92f84 nJx4a65c_grow_92f84 k16_69 (xdec ok_growA 1 rfl) (As := [.int (nI (0 + 1))]) (rest := []) (s_grow0 E hs m sk LP G) ⟨(Nat.le_of_ble_eq_true rfl), (Nat.le_of_ble_eq_true rfl)⟩ rfl (Nat.le_of_ble_eq_true rfl) 0 rfl rfl rfl ⟨(Nat.le_of_ble_eq_true rfl), (Nat.le_of_ble_eq_true rfl)⟩ (fun X M h => by obtain ⟨_, _, _, _, h⟩ := h; cases h) (fun v9 M9 h9 => ?_)
  obtain ⟨e2, cap2, r2, g, h9⟩ := h9
  cases h9
  show BdP E mJx4a65c_grow_d5877 (xRm 4 127 1 60) 1 60 (growO E hs 0 m sk LP G) 10 [some (.ref hs)] [.ref e2] ([(hs, .inr (16, [.int m, .ref e2, .int (nI 0)])), (e2, .inl (E.2.1.2.1.2.2, cap2, .inr (.inr (.inr (.inr r2)))))] ++ (hLd LP G)) 1 60
  exact Bd.areta (xdec ok_growA 2 rfl) rfl ⟨e2, cap2, r2, g, rfl⟩ (Nat.le_of_ble_eq_true rfl) (Nat.le_of_ble_eq_true rfl)
def tb_growB : List (Nat × List xI) := [(0, [(.aload_n 0, [], 0), (.aload_n 0, [], 0), (.getfield 48, [16, 2], 0), (.iconst 1, [], 1), (.iadd, [], 0)]), (7, [(.invokevirtual 69, [], 0)]), (10, [(.areturn, [], 0)])]
set_option maxRecDepth 100000 in
theorem ok_growB : ∀ q ∈ tb_growB, xChks mJx4a65c_grow_d5877 q.1 q.2 = true := by decide +kernel
set_option maxHeartbeats 4000000 in
set_option maxRecDepth 100000 in
theorem s_growB (E : xE) (hs ed cap : Nat) (m : Int32) (sk : Nat → Option Nat) (LP : List Nat) (G : Nat → List Value) (h0 : 0 < cap) (hc : cap ≤ 25) (hsk : ∀ j z, j < cap → sk j = some z → z ∈ LP) : SpP E mJx4a65c_grow_d5877 (xRm 4 127 1 60) [.ref hs] ([(hs, .inr (16, [.int m, .ref ed, .int (nI cap)])), (ed, .inl (E.2.1.2.1.2.2, cap, .inr (.inr (.inr (.inr sk)))))] ++ (hLd LP G)) (growO E hs cap m sk LP G) := by
  refine Sp.of oJx4a65c_grow_d5877 (L := [some (.ref hs)]) rfl rfl (Nat.le_of_ble_eq_true rfl) (show BdP E mJx4a65c_grow_d5877 (xRm 4 127 1 60) 1 60 (growO E hs cap m sk LP G) 0 [some (.ref hs)] [] ([(hs, .inr (16, [.int m, .ref ed, .int (nI cap)])), (ed, .inl (E.2.1.2.1.2.2, cap, .inr (.inr (.inr (.inr sk)))))] ++ (hLd LP G)) 0 0 from ?_)
  refine Bd.seg ok_growB 0 [0] rfl (And.intro (And.intro rfl rfl) (show BdP E mJx4a65c_grow_d5877 (xRm 4 127 1 60) 1 60 (growO E hs cap m sk LP G) 7 [some (.ref hs)] [.int ((nI cap) + 1), .ref hs] ([(hs, .inr (16, [.int m, .ref ed, .int (nI cap)])), (ed, .inl (E.2.1.2.1.2.2, cap, .inr (.inr (.inr (.inr sk)))))] ++ (hLd LP G)) 0 0 from ?_))
  rw [nI_1]
  show BdP E mJx4a65c_grow_d5877 (xRm 4 127 1 60) 1 60 (growO E hs cap m sk LP G) 7 [some (.ref hs)] [.int (nI (cap + 1)), .ref hs] ([(hs, .inr (16, [.int m, .ref ed, .int (nI cap)])), (ed, .inl (E.2.1.2.1.2.2, cap, .inr (.inr (.inr (.inr sk)))))] ++ (hLd LP G)) 0 0
  refine Bd.callVw oJx4a65c_grow_92f84 vJx4a65c_grow_92f84 nJx4a65c_grow_92f84 k16_69 (xdec ok_growB 1 rfl) (As := [.int (nI (cap + 1))]) (rest := []) (s_growN E hs ed cap m sk LP G h0 hc hsk) ⟨(Nat.le_of_ble_eq_true rfl), (Nat.le_of_ble_eq_true rfl)⟩ rfl (Nat.le_of_ble_eq_true rfl) 0 rfl rfl rfl ⟨(Nat.le_of_ble_eq_true rfl), (Nat.le_of_ble_eq_true rfl)⟩ (fun X M h => by obtain ⟨_, _, _, _, h⟩ := h; cases h) (fun v9 M9 h9 => ?_)
  obtain ⟨e2, cap2, r2, g, h9⟩ := h9
  cases h9
  show BdP E mJx4a65c_grow_d5877 (xRm 4 127 1 60) 1 60 (growO E hs cap m sk LP G) 10 [some (.ref hs)] [.ref e2] ([(hs, .inr (16, [.int m, .ref e2, .int (nI cap)])), (e2, .inl (E.2.1.2.1.2.2, cap2, .inr (.inr (.inr (.inr r2)))))] ++ (hLd LP G)) 1 60
  exact Bd.areta (xdec ok_growB 2 rfl) rfl ⟨e2, cap2, r2, g, rfl⟩ (Nat.le_of_ble_eq_true rfl) (Nat.le_of_ble_eq_true rfl)
def addO (E : xE) (hs a ns : Nat) (m : Int32) (sk : Nat → Option Nat) (LP : List Nat) (G : Nat → List Value) (r : Option Value) : xO → Prop := fun z => ∃ (e2 cap2 : Nat) (r2 : Nat → Option Nat), alOk E e2 (ns + 1) cap2 r2 LP ∧ r2 ns = some a ∧ (∀ j, j < ns → r2 j = sk j) ∧ z = .inl (r, [(hs, .inr (16, [.int m, .ref e2, .int (nI (ns + 1))]))] ++ (alR E e2 cap2 r2 ++ hLd LP G))
theorem alR_pos (E : xE) (ed : Nat) {cap : Nat} (sk : Nat → Option Nat) (h : 0 < cap) : alR E ed cap sk = [(ed, .inl (E.2.1.2.1.2.2, cap, .inr (.inr (.inr (.inr sk)))))] := if_neg (by omega)
theorem alOk_put {E : xE} {e2 ns cap2 a : Nat} {sk r2 : Nat → Option Nat} {LP : List Nat} (h4 : ∀ j, j < ns → ∃ a, sk j = some a ∧ a ∈ LP) (ha : a ∈ LP) (h1 : ns < cap2) (h2 : cap2 ≤ 60) (h3 : ∀ j, j < ns → r2 j = sk j) (h5 : ∀ j, ns ≤ j → r2 j = none) : alOk E e2 (ns + 1) cap2 (va_up r2 ns (some a)) LP ∧ va_up r2 ns (some a) ns = some a ∧ (∀ j, j < ns → va_up r2 ns (some a) j = sk j) := by
  have e1 : va_up r2 ns (some a) ns = some a := if_pos rfl
  have e2 : ∀ j, j ≠ ns → va_up r2 ns (some a) j = r2 j := fun j h => if_neg h
  refine ⟨⟨by omega, h2, fun h => by omega, fun j hj => ?_, fun j hj => by rw [e2 j (by omega)]; exact h5 j (by omega)⟩, e1, fun j hj => by rw [e2 j (by omega)]; exact h3 j hj⟩
  by_cases e : j = ns
  · subst e; exact ⟨a, e1, ha⟩
  · rw [e2 j e, h3 j (by omega)]; exact h4 j (by omega)
def tb_Jx4a65c_add_72be8 : List (Nat × List xI) := [(0, [(.iload_n 3, [], 0), (.aload_n 2, [], 0)]), (2, [(.arraylength, [], 0)]), (3, [(.if_icmp .ne 8, [], 0)]), (6, [(.aload_n 0, [], 0)]), (7, [(.invokevirtual 129, [], 0)]), (10, [(.astore_n 2, [], 0), (.aload_n 2, [], 0), (.iload_n 3, [], 0), (.aload_n 1, [], 0)]), (14, [(.aastore, [], 0)]), (15, [(.aload_n 0, [], 0), (.iload_n 3, [], 0), (.iconst 1, [], 1), (.iadd, [], 0)]), (19, [(.putfield 48, [16, 2, 0], 0), (.return_, [], 0)]), (11, [(.aload_n 2, [], 0), (.iload_n 3, [], 0), (.aload_n 1, [], 0)])]
set_option maxRecDepth 100000 in
theorem ok_Jx4a65c_add_72be8 : ∀ q ∈ tb_Jx4a65c_add_72be8, xChks mJx4a65c_add_72be8 q.1 q.2 = true := by decide +kernel
theorem nJx4a65c_add_72be8 : xNa mJx4a65c_add_72be8 3 := by delta xNa; decide +kernel
set_option maxHeartbeats 4000000 in
set_option maxRecDepth 100000 in
theorem s_Jx4a65c_add_72be8 (E : xE) (hs a ed ns cap : Nat) (m : Int32) (sk : Nat → Option Nat) (LP : List Nat) (G : Nat → List Value) (hal : alOk E ed ns cap sk LP) (ha : a ∈ LP) (hn : ns ≤ 25) : SpP E mJx4a65c_add_72be8 (xRm 5 147 1 60) [.ref hs, .ref a, .ref ed, .int (nI ns)] ([(hs, .inr (16, [.int m, .ref ed, .int (nI ns)]))] ++ (alR E ed cap sk ++ hLd LP G)) (addO E hs a ns m sk LP G none) := by
  obtain ⟨h1, h2, h3, h4, h5⟩ := id hal
  by_cases h0 : cap = 0
  · subst h0
    obtain rfl : ns = 0 := by omega
    obtain rfl := h3 rfl
    show SpP E mJx4a65c_add_72be8 (xRm 5 147 1 60) [.ref hs, .ref a, .ref (E.2.2.1 42), .int (nI 0)] ([(hs, .inr (16, [.int m, .ref (E.2.2.1 42), .int (nI 0)]))] ++ (hLd LP G)) (addO E hs a 0 m sk LP G none)
    refine Sp.of oJx4a65c_add_72be8 (L := [some (.ref hs), some (.ref a), some (.ref (E.2.2.1 42)), some (.int (nI 0))]) rfl rfl (Nat.le_of_ble_eq_true rfl) (show BdP E mJx4a65c_add_72be8 (xRm 5 147 1 60) 1 60 (addO E hs a 0 m sk LP G none) 0 [some (.ref hs), some (.ref a), some (.ref (E.2.2.1 42)), some (.int (nI 0))] [] ([(hs, .inr (16, [.int m, .ref (E.2.2.1 42), .int (nI 0)]))] ++ (hLd LP G)) 0 0 from ?_)
    refine Bd.seg ok_Jx4a65c_add_72be8 0 [] rfl (show BdP E mJx4a65c_add_72be8 (xRm 5 147 1 60) 1 60 (addO E hs a 0 m sk LP G none) 2 [some (.ref hs), some (.ref a), some (.ref (E.2.2.1 42)), some (.int (nI 0))] [.ref (E.2.2.1 42), .int (nI 0)] ([(hs, .inr (16, [.int m, .ref (E.2.2.1 42), .int (nI 0)]))] ++ (hLd LP G)) 0 0 from ?_)
    refine Bd.emptyLen (xdec ok_Jx4a65c_add_72be8 1 rfl) ?_
    show BdP E mJx4a65c_add_72be8 (xRm 5 147 1 60) 1 60 (addO E hs a 0 m sk LP G none) 3 [some (.ref hs), some (.ref a), some (.ref (E.2.2.1 42)), some (.int (nI 0))] [.int 0, .int (nI 0)] ([(hs, .inr (16, [.int m, .ref (E.2.2.1 42), .int (nI 0)]))] ++ (hLd LP G)) 0 0
    refine Bd.seg ok_Jx4a65c_add_72be8 2 [] rfl (And.intro (fun c9 => absurd (rfl) c9) (fun c9 => (show BdP E mJx4a65c_add_72be8 (xRm 5 147 1 60) 1 60 (addO E hs a 0 m sk LP G none) 6 [some (.ref hs), some (.ref a), some (.ref (E.2.2.1 42)), some (.int (nI 0))] [] ([(hs, .inr (16, [.int m, .ref (E.2.2.1 42), .int (nI 0)]))] ++ (hLd LP G)) 0 0 from ?_)))
    refine Bd.seg ok_Jx4a65c_add_72be8 3 [] rfl (show BdP E mJx4a65c_add_72be8 (xRm 5 147 1 60) 1 60 (addO E hs a 0 m sk LP G none) 7 [some (.ref hs), some (.ref a), some (.ref (E.2.2.1 42)), some (.int (nI 0))] [.ref hs] ([(hs, .inr (16, [.int m, .ref (E.2.2.1 42), .int (nI 0)]))] ++ (hLd LP G)) 0 0 from ?_)
    refine Bd.callVw oJx4a65c_grow_d5877 vJx4a65c_grow_d5877 nJx4a65c_grow_d5877 k16_129 (xdec ok_Jx4a65c_add_72be8 4 rfl) (As := []) (rest := []) (s_growA E hs m sk LP G) ⟨(Nat.le_of_ble_eq_true rfl), (Nat.le_of_ble_eq_true rfl)⟩ rfl (Nat.le_of_ble_eq_true rfl) 0 rfl rfl rfl ⟨(Nat.le_of_ble_eq_true rfl), (Nat.le_of_ble_eq_true rfl)⟩ (fun X M h => by obtain ⟨_, _, _, _, h⟩ := h; cases h) (fun v9 M9 h9 => ?_)
    obtain ⟨e2, cap2, r2, ⟨g1, g2, g3, g4⟩, h9⟩ := h9
    cases h9
    show BdP E mJx4a65c_add_72be8 (xRm 5 147 1 60) 1 60 (addO E hs a 0 m sk LP G none) 10 [some (.ref hs), some (.ref a), some (.ref (E.2.2.1 42)), some (.int (nI 0))] [.ref e2] ([(hs, .inr (16, [.int m, .ref e2, .int (nI 0)])), (e2, .inl (E.2.1.2.1.2.2, cap2, .inr (.inr (.inr (.inr r2)))))] ++ (hLd LP G)) 1 60
    refine Bd.seg ok_Jx4a65c_add_72be8 5 [] rfl (And.intro (Nat.le_of_ble_eq_true rfl) (show BdP E mJx4a65c_add_72be8 (xRm 5 147 1 60) 1 60 (addO E hs a 0 m sk LP G none) 14 [some (.ref hs), some (.ref a), some (.ref e2), some (.int (nI 0))] [.ref a, .int (nI 0), .ref e2] ([(hs, .inr (16, [.int m, .ref e2, .int (nI 0)])), (e2, .inl (E.2.1.2.1.2.2, cap2, .inr (.inr (.inr (.inr r2)))))] ++ (hLd LP G)) 1 60 from ?_))
    obtain ⟨qk, hqk⟩ := hLd_at [(hs, .inr (16, [.int m, .ref e2, .int (nI 0)])), (e2, .inl (E.2.1.2.1.2.2, cap2, .inr (.inr (.inr (.inr r2)))))] G ha
    refine Bd.oast 1 qk rfl hqk (vp_in_nI (by omega) (by omega)) (xdec ok_Jx4a65c_add_72be8 6 rfl) ?_
    rw [nI_clamp (n := 0) (by omega)]
    show BdP E mJx4a65c_add_72be8 (xRm 5 147 1 60) 1 60 (addO E hs a 0 m sk LP G none) 15 [some (.ref hs), some (.ref a), some (.ref e2), some (.int (nI 0))] [] ([(hs, .inr (16, [.int m, .ref e2, .int (nI 0)])), (e2, .inl (E.2.1.2.1.2.2, cap2, .inr (.inr (.inr (.inr (va_up r2 0 (some a)))))))] ++ (hLd LP G)) 1 60
    refine Bd.seg ok_Jx4a65c_add_72be8 7 [] rfl (show BdP E mJx4a65c_add_72be8 (xRm 5 147 1 60) 1 60 (addO E hs a 0 m sk LP G none) 19 [some (.ref hs), some (.ref a), some (.ref e2), some (.int (nI 0))] [.int ((nI 0) + 1), .ref hs] ([(hs, .inr (16, [.int m, .ref e2, .int (nI 0)])), (e2, .inl (E.2.1.2.1.2.2, cap2, .inr (.inr (.inr (.inr (va_up r2 0 (some a)))))))] ++ (hLd LP G)) 1 60 from ?_)
    rw [nI_1]
    show BdP E mJx4a65c_add_72be8 (xRm 5 147 1 60) 1 60 (addO E hs a 0 m sk LP G none) 19 [some (.ref hs), some (.ref a), some (.ref e2), some (.int (nI 0))] [.int (nI (0 + 1)), .ref hs] ([(hs, .inr (16, [.int m, .ref e2, .int (nI 0)])), (e2, .inl (E.2.1.2.1.2.2, cap2, .inr (.inr (.inr (.inr (va_up r2 0 (some a)))))))] ++ (hLd LP G)) 1 60
    refine Bd.seg ok_Jx4a65c_add_72be8 8 [0] rfl (And.intro (And.intro rfl (And.intro rfl (Nat.le_of_ble_eq_true rfl))) (And.intro (And.intro rfl rfl) (And.intro (And.intro (by have g := alOk_put (E := E) (e2 := e2) h4 ha g1 g2 g3 g4; exact ⟨e2, cap2, _, g.1, g.2.1, g.2.2, by rw [alR_pos E e2 _ (by omega)]; rfl⟩) (And.intro (Nat.le_of_ble_eq_true rfl) (Nat.le_of_ble_eq_true rfl))) True.intro)))
  · rw [alR_pos E ed sk (by omega)]
    show SpP E mJx4a65c_add_72be8 (xRm 5 147 1 60) [.ref hs, .ref a, .ref ed, .int (nI ns)] ([(hs, .inr (16, [.int m, .ref ed, .int (nI ns)])), (ed, .inl (E.2.1.2.1.2.2, cap, .inr (.inr (.inr (.inr sk)))))] ++ (hLd LP G)) (addO E hs a ns m sk LP G none)
    refine Sp.of oJx4a65c_add_72be8 (L := [some (.ref hs), some (.ref a), some (.ref ed), some (.int (nI ns))]) rfl rfl (Nat.le_of_ble_eq_true rfl) (show BdP E mJx4a65c_add_72be8 (xRm 5 147 1 60) 1 60 (addO E hs a ns m sk LP G none) 0 [some (.ref hs), some (.ref a), some (.ref ed), some (.int (nI ns))] [] ([(hs, .inr (16, [.int m, .ref ed, .int (nI ns)])), (ed, .inl (E.2.1.2.1.2.2, cap, .inr (.inr (.inr (.inr sk)))))] ++ (hLd LP G)) 0 0 from ?_)
    refine Bd.seg ok_Jx4a65c_add_72be8 0 [] rfl (show BdP E mJx4a65c_add_72be8 (xRm 5 147 1 60) 1 60 (addO E hs a ns m sk LP G none) 2 [some (.ref hs), some (.ref a), some (.ref ed), some (.int (nI ns))] [.ref ed, .int (nI ns)] ([(hs, .inr (16, [.int m, .ref ed, .int (nI ns)])), (ed, .inl (E.2.1.2.1.2.2, cap, .inr (.inr (.inr (.inr sk)))))] ++ (hLd LP G)) 0 0 from ?_)
    refine Bd.alen 1 5 rfl rfl rfl (xdec ok_Jx4a65c_add_72be8 1 rfl) ?_
    show BdP E mJx4a65c_add_72be8 (xRm 5 147 1 60) 1 60 (addO E hs a ns m sk LP G none) 3 [some (.ref hs), some (.ref a), some (.ref ed), some (.int (nI ns))] [.int (nI cap), .int (nI ns)] ([(hs, .inr (16, [.int m, .ref ed, .int (nI ns)])), (ed, .inl (E.2.1.2.1.2.2, cap, .inr (.inr (.inr (.inr sk)))))] ++ (hLd LP G)) 0 0
    refine Bd.seg ok_Jx4a65c_add_72be8 2 [] rfl (And.intro (fun c9 => (show BdP E mJx4a65c_add_72be8 (xRm 5 147 1 60) 1 60 (addO E hs a ns m sk LP G none) 11 [some (.ref hs), some (.ref a), some (.ref ed), some (.int (nI ns))] [] ([(hs, .inr (16, [.int m, .ref ed, .int (nI ns)])), (ed, .inl (E.2.1.2.1.2.2, cap, .inr (.inr (.inr (.inr sk)))))] ++ (hLd LP G)) 0 0 from ?_)) (fun c9 => (show BdP E mJx4a65c_add_72be8 (xRm 5 147 1 60) 1 60 (addO E hs a ns m sk LP G none) 6 [some (.ref hs), some (.ref a), some (.ref ed), some (.int (nI ns))] [] ([(hs, .inr (16, [.int m, .ref ed, .int (nI ns)])), (ed, .inl (E.2.1.2.1.2.2, cap, .inr (.inr (.inr (.inr sk)))))] ++ (hLd LP G)) 0 0 from ?_)))
    · have g0 : ns < cap := by have := mt (nI_eq (a := ns) (b := cap) (by omega) (by omega)).mpr c9; omega
      refine Bd.wide (ck' := 1) (sk' := 60) (Nat.le_of_ble_eq_true rfl) (Nat.le_of_ble_eq_true rfl) ?_
      show BdP E mJx4a65c_add_72be8 (xRm 5 147 1 60) 1 60 (addO E hs a ns m sk LP G none) 11 [some (.ref hs), some (.ref a), some (.ref ed), some (.int (nI ns))] [] ([(hs, .inr (16, [.int m, .ref ed, .int (nI ns)])), (ed, .inl (E.2.1.2.1.2.2, cap, .inr (.inr (.inr (.inr sk)))))] ++ (hLd LP G)) 1 60
      refine Bd.seg ok_Jx4a65c_add_72be8 9 [] rfl (show BdP E mJx4a65c_add_72be8 (xRm 5 147 1 60) 1 60 (addO E hs a ns m sk LP G none) 14 [some (.ref hs), some (.ref a), some (.ref ed), some (.int (nI ns))] [.ref a, .int (nI ns), .ref ed] ([(hs, .inr (16, [.int m, .ref ed, .int (nI ns)])), (ed, .inl (E.2.1.2.1.2.2, cap, .inr (.inr (.inr (.inr sk)))))] ++ (hLd LP G)) 1 60 from ?_)
      obtain ⟨qk, hqk⟩ := hLd_at [(hs, .inr (16, [.int m, .ref ed, .int (nI ns)])), (ed, .inl (E.2.1.2.1.2.2, cap, .inr (.inr (.inr (.inr sk)))))] G ha
      refine Bd.oast 1 qk rfl hqk (vp_in_nI (by omega) (by omega)) (xdec ok_Jx4a65c_add_72be8 6 rfl) ?_
      rw [nI_clamp (n := ns) (by omega)]
      show BdP E mJx4a65c_add_72be8 (xRm 5 147 1 60) 1 60 (addO E hs a ns m sk LP G none) 15 [some (.ref hs), some (.ref a), some (.ref ed), some (.int (nI ns))] [] ([(hs, .inr (16, [.int m, .ref ed, .int (nI ns)])), (ed, .inl (E.2.1.2.1.2.2, cap, .inr (.inr (.inr (.inr (va_up sk ns (some a)))))))] ++ (hLd LP G)) 1 60
      refine Bd.seg ok_Jx4a65c_add_72be8 7 [] rfl (show BdP E mJx4a65c_add_72be8 (xRm 5 147 1 60) 1 60 (addO E hs a ns m sk LP G none) 19 [some (.ref hs), some (.ref a), some (.ref ed), some (.int (nI ns))] [.int ((nI ns) + 1), .ref hs] ([(hs, .inr (16, [.int m, .ref ed, .int (nI ns)])), (ed, .inl (E.2.1.2.1.2.2, cap, .inr (.inr (.inr (.inr (va_up sk ns (some a)))))))] ++ (hLd LP G)) 1 60 from ?_)
      rw [nI_1]
      show BdP E mJx4a65c_add_72be8 (xRm 5 147 1 60) 1 60 (addO E hs a ns m sk LP G none) 19 [some (.ref hs), some (.ref a), some (.ref ed), some (.int (nI ns))] [.int (nI (ns + 1)), .ref hs] ([(hs, .inr (16, [.int m, .ref ed, .int (nI ns)])), (ed, .inl (E.2.1.2.1.2.2, cap, .inr (.inr (.inr (.inr (va_up sk ns (some a)))))))] ++ (hLd LP G)) 1 60
      refine Bd.seg ok_Jx4a65c_add_72be8 8 [0] rfl (And.intro (And.intro rfl (And.intro rfl (Nat.le_of_ble_eq_true rfl))) (And.intro (And.intro rfl rfl) (And.intro (And.intro (by have g := alOk_put (E := E) (e2 := ed) h4 ha g0 h2 (fun _ _ => rfl) h5; exact ⟨ed, cap, _, g.1, g.2.1, g.2.2, by rw [alR_pos E ed _ (by omega)]; rfl⟩) (And.intro (Nat.le_of_ble_eq_true rfl) (Nat.le_of_ble_eq_true rfl))) True.intro)))
    · obtain rfl := (nI_eq (a := ns) (b := cap) (by omega) (by omega)).mp c9
      show BdP E mJx4a65c_add_72be8 (xRm 5 147 1 60) 1 60 (addO E hs a ns m sk LP G none) 6 [some (.ref hs), some (.ref a), some (.ref ed), some (.int (nI ns))] [] ([(hs, .inr (16, [.int m, .ref ed, .int (nI ns)])), (ed, .inl (E.2.1.2.1.2.2, ns, .inr (.inr (.inr (.inr sk)))))] ++ (hLd LP G)) 0 0
      refine Bd.seg ok_Jx4a65c_add_72be8 3 [] rfl (show BdP E mJx4a65c_add_72be8 (xRm 5 147 1 60) 1 60 (addO E hs a ns m sk LP G none) 7 [some (.ref hs), some (.ref a), some (.ref ed), some (.int (nI ns))] [.ref hs] ([(hs, .inr (16, [.int m, .ref ed, .int (nI ns)])), (ed, .inl (E.2.1.2.1.2.2, ns, .inr (.inr (.inr (.inr sk)))))] ++ (hLd LP G)) 0 0 from ?_)
      refine Bd.callVw oJx4a65c_grow_d5877 vJx4a65c_grow_d5877 nJx4a65c_grow_d5877 k16_129 (xdec ok_Jx4a65c_add_72be8 4 rfl) (As := []) (rest := []) (s_growB E hs ed ns m sk LP G (by omega) (by omega) (fun j z hj hz => by obtain ⟨a2, k1, k2⟩ := h4 j hj; rw [k1] at hz; cases hz; exact k2)) ⟨(Nat.le_of_ble_eq_true rfl), (Nat.le_of_ble_eq_true rfl)⟩ rfl (Nat.le_of_ble_eq_true rfl) 0 rfl rfl rfl ⟨(Nat.le_of_ble_eq_true rfl), (Nat.le_of_ble_eq_true rfl)⟩ (fun X M h => by obtain ⟨_, _, _, _, h⟩ := h; cases h) (fun v9 M9 h9 => ?_)
      obtain ⟨e2, cap2, r2, ⟨g1, g2, g3, g4⟩, h9⟩ := h9
      cases h9
      show BdP E mJx4a65c_add_72be8 (xRm 5 147 1 60) 1 60 (addO E hs a ns m sk LP G none) 10 [some (.ref hs), some (.ref a), some (.ref ed), some (.int (nI ns))] [.ref e2] ([(hs, .inr (16, [.int m, .ref e2, .int (nI ns)])), (e2, .inl (E.2.1.2.1.2.2, cap2, .inr (.inr (.inr (.inr r2)))))] ++ (hLd LP G)) 1 60
      refine Bd.seg ok_Jx4a65c_add_72be8 5 [] rfl (And.intro (Nat.le_of_ble_eq_true rfl) (show BdP E mJx4a65c_add_72be8 (xRm 5 147 1 60) 1 60 (addO E hs a ns m sk LP G none) 14 [some (.ref hs), some (.ref a), some (.ref e2), some (.int (nI ns))] [.ref a, .int (nI ns), .ref e2] ([(hs, .inr (16, [.int m, .ref e2, .int (nI ns)])), (e2, .inl (E.2.1.2.1.2.2, cap2, .inr (.inr (.inr (.inr r2)))))] ++ (hLd LP G)) 1 60 from ?_))
      obtain ⟨qk, hqk⟩ := hLd_at [(hs, .inr (16, [.int m, .ref e2, .int (nI ns)])), (e2, .inl (E.2.1.2.1.2.2, cap2, .inr (.inr (.inr (.inr r2)))))] G ha
      refine Bd.oast 1 qk rfl hqk (vp_in_nI (by omega) (by omega)) (xdec ok_Jx4a65c_add_72be8 6 rfl) ?_
      rw [nI_clamp (n := ns) (by omega)]
      show BdP E mJx4a65c_add_72be8 (xRm 5 147 1 60) 1 60 (addO E hs a ns m sk LP G none) 15 [some (.ref hs), some (.ref a), some (.ref e2), some (.int (nI ns))] [] ([(hs, .inr (16, [.int m, .ref e2, .int (nI ns)])), (e2, .inl (E.2.1.2.1.2.2, cap2, .inr (.inr (.inr (.inr (va_up r2 ns (some a)))))))] ++ (hLd LP G)) 1 60
      refine Bd.seg ok_Jx4a65c_add_72be8 7 [] rfl (show BdP E mJx4a65c_add_72be8 (xRm 5 147 1 60) 1 60 (addO E hs a ns m sk LP G none) 19 [some (.ref hs), some (.ref a), some (.ref e2), some (.int (nI ns))] [.int ((nI ns) + 1), .ref hs] ([(hs, .inr (16, [.int m, .ref e2, .int (nI ns)])), (e2, .inl (E.2.1.2.1.2.2, cap2, .inr (.inr (.inr (.inr (va_up r2 ns (some a)))))))] ++ (hLd LP G)) 1 60 from ?_)
      rw [nI_1]
      show BdP E mJx4a65c_add_72be8 (xRm 5 147 1 60) 1 60 (addO E hs a ns m sk LP G none) 19 [some (.ref hs), some (.ref a), some (.ref e2), some (.int (nI ns))] [.int (nI (ns + 1)), .ref hs] ([(hs, .inr (16, [.int m, .ref e2, .int (nI ns)])), (e2, .inl (E.2.1.2.1.2.2, cap2, .inr (.inr (.inr (.inr (va_up r2 ns (some a)))))))] ++ (hLd LP G)) 1 60
      refine Bd.seg ok_Jx4a65c_add_72be8 8 [0] rfl (And.intro (And.intro rfl (And.intro rfl (Nat.le_of_ble_eq_true rfl))) (And.intro (And.intro rfl rfl) (And.intro (And.intro (by have g := alOk_put (E := E) (e2 := e2) h4 ha g1 g2 g3 g4; exact ⟨e2, cap2, _, g.1, g.2.1, g.2.2, by rw [alR_pos E e2 _ (by omega)]; rfl⟩) (And.intro (Nat.le_of_ble_eq_true rfl) (Nat.le_of_ble_eq_true rfl))) True.intro)))
def tb_Jx4a65c_add_9ea2d : List (Nat × List xI) := [(0, [(.aload_n 0, [], 0), (.dup, [], 0)]), (5, [(.iconst 1, [], 1), (.iadd, [], 0)]), (10, [(.aload_n 0, [], 0), (.aload_n 1, [], 0), (.aload_n 0, [], 0), (.getfield 9, [16, 1], 0), (.aload_n 0, [], 0), (.getfield 48, [16, 2], 0)]), (20, [(.invokevirtual 131, [], 0)]), (23, [(.iconst 1, [], 1), (.ireturn, [], 0)])]
set_option maxRecDepth 100000 in
theorem ok_Jx4a65c_add_9ea2d : ∀ q ∈ tb_Jx4a65c_add_9ea2d, xChks mJx4a65c_add_9ea2d q.1 q.2 = true := by decide +kernel
theorem nJx4a65c_add_9ea2d : xNa mJx4a65c_add_9ea2d 1 := by delta xNa; decide +kernel
set_option maxHeartbeats 4000000 in
set_option maxRecDepth 100000 in
theorem s_Jx4a65c_add_9ea2d (E : xE) (hs a ed ns cap : Nat) (m : Int32) (sk : Nat → Option Nat) (LP : List Nat) (G : Nat → List Value) (hal : alOk E ed ns cap sk LP) (ha : a ∈ LP) (hn : ns ≤ 25) : SpP E mJx4a65c_add_9ea2d (xRm 6 170 1 60) [.ref hs, .ref a] ([(hs, .inr (16, [.int m, .ref ed, .int (nI ns)]))] ++ (alR E ed cap sk ++ hLd LP G)) (addO E hs a ns (m + 1) sk LP G (some (.int 1))) := by
  refine Sp.of oJx4a65c_add_9ea2d (L := [some (.ref hs), some (.ref a)]) rfl rfl (Nat.le_of_ble_eq_true rfl) (show BdP E mJx4a65c_add_9ea2d (xRm 6 170 1 60) 1 60 (addO E hs a ns (m + 1) sk LP G (some (.int 1))) 0 [some (.ref hs), some (.ref a)] [] ([(hs, .inr (16, [.int m, .ref ed, .int (nI ns)]))] ++ (alR E ed cap sk ++ hLd LP G)) 0 0 from ?_)
  refine Bd.seg ok_Jx4a65c_add_9ea2d 0 [] rfl (show BdP E mJx4a65c_add_9ea2d (xRm 6 170 1 60) 1 60 (addO E hs a ns (m + 1) sk LP G (some (.int 1))) 2 [some (.ref hs), some (.ref a)] [.ref hs, .ref hs] ([(hs, .inr (16, [.int m, .ref ed, .int (nI ns)]))] ++ (alR E ed cap sk ++ hLd LP G)) 0 0 from ?_)
  refine Bd.getMod 0 rfl rfl (by decide +kernel) ?_
  show BdP E mJx4a65c_add_9ea2d (xRm 6 170 1 60) 1 60 (addO E hs a ns (m + 1) sk LP G (some (.int 1))) 5 [some (.ref hs), some (.ref a)] [.int m, .ref hs] ([(hs, .inr (16, [.int m, .ref ed, .int (nI ns)]))] ++ (alR E ed cap sk ++ hLd LP G)) 0 0
  refine Bd.seg ok_Jx4a65c_add_9ea2d 1 [] rfl (show BdP E mJx4a65c_add_9ea2d (xRm 6 170 1 60) 1 60 (addO E hs a ns (m + 1) sk LP G (some (.int 1))) 7 [some (.ref hs), some (.ref a)] [.int (m + 1), .ref hs] ([(hs, .inr (16, [.int m, .ref ed, .int (nI ns)]))] ++ (alR E ed cap sk ++ hLd LP G)) 0 0 from ?_)
  refine Bd.putMod 0 rfl rfl (by decide +kernel) ?_
  show BdP E mJx4a65c_add_9ea2d (xRm 6 170 1 60) 1 60 (addO E hs a ns (m + 1) sk LP G (some (.int 1))) 10 [some (.ref hs), some (.ref a)] [] ([(hs, .inr (16, [.int (m + 1), .ref ed, .int (nI ns)]))] ++ (alR E ed cap sk ++ hLd LP G)) 0 0
  refine Bd.seg ok_Jx4a65c_add_9ea2d 2 [0, 0] rfl (And.intro (And.intro rfl rfl) (And.intro (And.intro rfl rfl) (show BdP E mJx4a65c_add_9ea2d (xRm 6 170 1 60) 1 60 (addO E hs a ns (m + 1) sk LP G (some (.int 1))) 20 [some (.ref hs), some (.ref a)] [.int (nI ns), .ref ed, .ref a, .ref hs] ([(hs, .inr (16, [.int (m + 1), .ref ed, .int (nI ns)]))] ++ (alR E ed cap sk ++ hLd LP G)) 0 0 from ?_)))
  refine Bd.callVw oJx4a65c_add_72be8 vJx4a65c_add_72be8 nJx4a65c_add_72be8 k16_131 (xdec ok_Jx4a65c_add_9ea2d 3 rfl) (As := [.ref a, .ref ed, .int (nI ns)]) (rest := []) (s_Jx4a65c_add_72be8 E hs a ed ns cap (m + 1) sk LP G hal ha hn) ⟨(Nat.le_of_ble_eq_true rfl), (Nat.le_of_ble_eq_true rfl)⟩ rfl (Nat.le_of_ble_eq_true rfl) 0 rfl rfl rfl ⟨(Nat.le_of_ble_eq_true rfl), (Nat.le_of_ble_eq_true rfl)⟩ (fun X M h => by obtain ⟨_, _, _, _, _, _, h⟩ := h; cases h) (fun v9 M9 h9 => ?_)
  obtain ⟨e2, cap2, r2, g1, g2, g3, h9⟩ := h9
  cases h9
  show BdP E mJx4a65c_add_9ea2d (xRm 6 170 1 60) 1 60 (addO E hs a ns (m + 1) sk LP G (some (.int 1))) 23 [some (.ref hs), some (.ref a)] [] ([(hs, .inr (16, [.int (m + 1), .ref e2, .int (nI (ns + 1))]))] ++ (alR E e2 cap2 r2 ++ hLd LP G)) 1 60
  refine Bd.seg ok_Jx4a65c_add_9ea2d 4 [] rfl (And.intro (And.intro ⟨e2, cap2, r2, g1, g2, g3, rfl⟩ (And.intro (Nat.le_of_ble_eq_true rfl) (Nat.le_of_ble_eq_true rfl))) rfl)
