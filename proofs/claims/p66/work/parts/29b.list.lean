/-! ARRAYLIST: a row of references to loads -/
section BMOD
variable {E : xE} {y : xM} {R : Room} {mc ms : Nat} {O : xO → Prop} {pc : Nat} {L : xL} {st : List Value} {M : va_W} {ck sk : Nat}
theorem xmodW : Cond.fieldLink (xCn 16) 63 "java/util/ArrayList" "modCount" "I" ∈ xAll ∧ Cond.sameField "java/util/ArrayList" "java/util/AbstractList" "modCount" "I" ∈ xAll := ⟨xm3 (n := 122) rfl rfl, xm3 (n := 123) rfl rfl⟩
theorem Bd.getMod (q0 : Nat) {a : Nat} {x : Int32} {fs : List Value} (hy : y.2.2.2.2 = 16) (hM : M[q0]? = some (a, .inr (16, .int x :: fs))) (hd : decode y.2.1 pc = .ok (.getfield 63, 3)) (k : BdP E y R mc ms O (pc + 3) L (.int x :: st) M ck sk) : BdP E y R mc ms O pc L (.ref a :: st) M ck sk := by
  intro p l e s m args below meth c A H locs ls hF hr hx hP hD hS hl hLn
  obtain ⟨hexec, hl0, hbt, hml, hown, hts, hlocks, hnm, hA, hKK, hG⟩ := id hF
  rw [hy] at hown
  obtain ⟨q1, q2, q3⟩ := xCl 16 _ rfl
  exact va_get hexec hbt hts q1 hown hKK hP q0 hM rfl 0 (by decide) (hts _ xmodW.1) (u_same (hts _ xmodW.2)) rfl hd (k p l e s m args below meth c A H locs ls hF hr hx hP hD hS hl hLn)
theorem Bd.putMod (q0 : Nat) {a : Nat} {x x0 : Int32} {f1 f2 : Value} (hy : y.2.2.2.2 = 16) (hM : M[q0]? = some (a, .inr (16, [.int x0, f1, f2]))) (hd : decode y.2.1 pc = .ok (.putfield 63, 3)) (k : BdP E y R mc ms O (pc + 3) L st (M.set q0 (a, .inr (16, [.int x, f1, f2]))) ck sk) : BdP E y R mc ms O pc L (.int x :: .ref a :: st) M ck sk := by
  intro p l e s m args below meth c A H locs ls hF hr hx hP hD hS hl hLn
  obtain ⟨hexec, hl0, hbt, hml, hown, hts, hlocks, hnm, hA, hKK, hG⟩ := id hF
  rw [hy] at hown
  obtain ⟨q1, q2, q3⟩ := xCl 16 _ rfl
  exact va_put hexec hbt hts q1 _ q2 q3 hown hKK hP hD hS q0 hM rfl 0 (by decide) (hts _ xmodW.1) (u_same (hts _ xmodW.2)) rfl (q2 0 (by decide)) rfl rfl (by decide : 0 < 3) hd (fun H1 locs1 hP1 hD1 hS1 => k p l e s m args below meth c A H1 locs1 ls hF hr hx hP1 hD1 hS1 hl hLn)
end BMOD
/-- a pool of loads: LP the addresses, G what each holds -/
abbrev hLd (LP : List Nat) (G : Nat → List Value) : va_W := va_pl LP (fun a => .inr (12, G a))
theorem hLd_at (X : va_W) {LP : List Nat} (G : Nat → List Value) {a : Nat} (h : a ∈ LP) : ∃ q : Nat, (X ++ hLd LP G)[q]? = some ((a, .inr (12, G a)) : Nat × va_E) := va_pl_get (f := fun a => .inr (12, G a)) h
/-- the row of a list: none while nothing was added -/
def alR (E : xE) (ed cap : Nat) (sk : Nat → Option Nat) : va_W := if cap = 0 then [] else [(ed, .inl (E.2.1.2.1.2.2, cap, .inr (.inr (.inr (.inr sk)))))]
/-- the list hs of ns loads sk 0, sk 1, .. -/
abbrev alW (E : xE) (hs : Nat) (m : Int32) (ed ns cap : Nat) (sk : Nat → Option Nat) : va_W := (hs, .inr (16, [.int m, .ref ed, .int (nI ns)])) :: alR E ed cap sk
/-- what holds of it: it has room, its loads lie in the pool; empty, its row is the JDK's -/
def alOk (E : xE) (ed ns cap : Nat) (sk : Nat → Option Nat) (LP : List Nat) : Prop := ns ≤ cap ∧ cap ≤ 60 ∧ (cap = 0 → ed = E.2.2.1 42) ∧ (∀ j, j < ns → ∃ a, sk j = some a ∧ a ∈ LP) ∧ (∀ j, ns ≤ j → sk j = none)
def tb_Jxa1e45_init_da8c8 : List (Nat × List xI) := [(0, [(.aload_n 0, [], 0), (.invokespecial 1, [0], 0)]), (4, [(.return_, [], 0)])]
set_option maxRecDepth 100000 in
theorem ok_Jxa1e45_init_da8c8 : ∀ q ∈ tb_Jxa1e45_init_da8c8, xChks mJxa1e45_init_da8c8 q.1 q.2 = true := by decide +kernel
theorem nJxa1e45_init_da8c8 : xNa mJxa1e45_init_da8c8 0 := by delta xNa; decide +kernel
set_option maxHeartbeats 4000000 in
set_option maxRecDepth 100000 in
theorem s_Jxa1e45_init_da8c8 (E : xE) (hs : Nat) (m : Int32) (f1 f2 : Value)  (o : xO) (ho : .inl (none, [(hs, .inr (16, [.int m, f1, f2]))]) = o) : Sp E mJxa1e45_init_da8c8 (xRm 1 20 0 0) [.ref hs] [(hs, .inr (16, [.int m, f1, f2]))] o := by
  refine Sp.of oJxa1e45_init_da8c8 (L := [some (.ref hs)]) rfl rfl (Nat.le_of_ble_eq_true rfl) (show BdP E mJxa1e45_init_da8c8 (xRm 1 20 0 0) 0 0 (fun z => o = z) 0 [some (.ref hs)] [] [(hs, .inr (16, [.int m, f1, f2]))] 0 0 from ?_)
  refine Bd.seg ok_Jxa1e45_init_da8c8 0 [] rfl (And.intro (And.intro (Nat.le_of_ble_eq_true rfl) (And.intro (Nat.le_of_ble_eq_true rfl) (Nat.le_of_ble_eq_true rfl))) (show BdP E mJxa1e45_init_da8c8 (xRm 1 20 0 0) 0 0 (fun z => o = z) 4 [some (.ref hs)] [] [(hs, .inr (16, [.int m, f1, f2]))] 0 0 from ?_))
  refine Bd.seg ok_Jxa1e45_init_da8c8 1 [] rfl (And.intro (And.intro ho.symm (And.intro (Nat.le_of_ble_eq_true rfl) (Nat.le_of_ble_eq_true rfl))) True.intro)
def tb_Jxc12de_init_da8c8 : List (Nat × List xI) := [(0, [(.aload_n 0, [], 0)]), (1, [(.invokespecial 1, [], 0)]), (4, [(.aload_n 0, [], 0), (.iconst 0, [], 0), (.putfield 7, [16, 0, 0], 0), (.return_, [], 0)])]
set_option maxRecDepth 100000 in
theorem ok_Jxc12de_init_da8c8 : ∀ q ∈ tb_Jxc12de_init_da8c8, xChks mJxc12de_init_da8c8 q.1 q.2 = true := by decide +kernel
theorem nJxc12de_init_da8c8 : xNa mJxc12de_init_da8c8 0 := by delta xNa; decide +kernel
set_option maxHeartbeats 4000000 in
set_option maxRecDepth 100000 in
theorem s_Jxc12de_init_da8c8 (E : xE) (hs : Nat) (m : Int32) (f1 f2 : Value)  (o : xO) (ho : .inl (none, [(hs, .inr (16, [.int 0, f1, f2]))]) = o) : Sp E mJxc12de_init_da8c8 (xRm 2 40 0 0) [.ref hs] [(hs, .inr (16, [.int m, f1, f2]))] o := by
  refine Sp.of oJxc12de_init_da8c8 (L := [some (.ref hs)]) rfl rfl (Nat.le_of_ble_eq_true rfl) (show BdP E mJxc12de_init_da8c8 (xRm 2 40 0 0) 0 0 (fun z => o = z) 0 [some (.ref hs)] [] [(hs, .inr (16, [.int m, f1, f2]))] 0 0 from ?_)
  refine Bd.seg ok_Jxc12de_init_da8c8 0 [] rfl (show BdP E mJxc12de_init_da8c8 (xRm 2 40 0 0) 0 0 (fun z => o = z) 1 [some (.ref hs)] [.ref hs] [(hs, .inr (16, [.int m, f1, f2]))] 0 0 from ?_)
  refine Bd.callI oJxa1e45_init_da8c8 vJxa1e45_init_da8c8 rfl rfl nJxa1e45_init_da8c8 k23_1 (xdec ok_Jxc12de_init_da8c8 1 rfl) (As := []) (rest := []) (s_Jxa1e45_init_da8c8 E hs m f1 f2 _ rfl) ⟨(Nat.le_of_ble_eq_true rfl), (Nat.le_of_ble_eq_true rfl)⟩ rfl (Nat.le_of_ble_eq_true rfl) [0] (by decide) rfl ⟨(Nat.le_of_ble_eq_true rfl), (Nat.le_of_ble_eq_true rfl)⟩ rfl ?_
  show BdP E mJxc12de_init_da8c8 (xRm 2 40 0 0) 0 0 (fun z => o = z) 4 [some (.ref hs)] [] [(hs, .inr (16, [.int m, f1, f2]))] 0 0
  refine Bd.seg ok_Jxc12de_init_da8c8 2 [0] rfl (And.intro (And.intro rfl (And.intro rfl (Nat.le_of_ble_eq_true rfl))) (And.intro (And.intro rfl rfl) (And.intro (And.intro ho.symm (And.intro (Nat.le_of_ble_eq_true rfl) (Nat.le_of_ble_eq_true rfl))) True.intro)))
def tb_Jx4a65c_init_da8c8 : List (Nat × List xI) := [(0, [(.aload_n 0, [], 0)]), (1, [(.invokespecial 1, [], 0)]), (4, [(.aload_n 0, [], 0)]), (8, [(.putfield 9, [16, 1, 0], 0), (.return_, [], 0)])]
set_option maxRecDepth 100000 in
theorem ok_Jx4a65c_init_da8c8 : ∀ q ∈ tb_Jx4a65c_init_da8c8, xChks mJx4a65c_init_da8c8 q.1 q.2 = true := by decide +kernel
theorem nJx4a65c_init_da8c8 : xNa mJx4a65c_init_da8c8 0 := by delta xNa; decide +kernel
set_option maxHeartbeats 4000000 in
set_option maxRecDepth 100000 in
theorem s_Jx4a65c_init_da8c8 (E : xE) (hs : Nat) (m : Int32) (f1 f2 : Value)  (o : xO) (ho : .inl (none, [(hs, .inr (16, [.int 0, .ref (E.2.2.1 42), f2]))]) = o) : Sp E mJx4a65c_init_da8c8 (xRm 3 60 0 0) [.ref hs] [(hs, .inr (16, [.int m, f1, f2]))] o := by
  refine Sp.of oJx4a65c_init_da8c8 (L := [some (.ref hs)]) rfl rfl (Nat.le_of_ble_eq_true rfl) (show BdP E mJx4a65c_init_da8c8 (xRm 3 60 0 0) 0 0 (fun z => o = z) 0 [some (.ref hs)] [] [(hs, .inr (16, [.int m, f1, f2]))] 0 0 from ?_)
  refine Bd.seg ok_Jx4a65c_init_da8c8 0 [] rfl (show BdP E mJx4a65c_init_da8c8 (xRm 3 60 0 0) 0 0 (fun z => o = z) 1 [some (.ref hs)] [.ref hs] [(hs, .inr (16, [.int m, f1, f2]))] 0 0 from ?_)
  refine Bd.callI oJxc12de_init_da8c8 vJxc12de_init_da8c8 rfl rfl nJxc12de_init_da8c8 k16_1 (xdec ok_Jx4a65c_init_da8c8 1 rfl) (As := []) (rest := []) (s_Jxc12de_init_da8c8 E hs m f1 f2 _ rfl) ⟨(Nat.le_of_ble_eq_true rfl), (Nat.le_of_ble_eq_true rfl)⟩ rfl (Nat.le_of_ble_eq_true rfl) [0] (by decide) rfl ⟨(Nat.le_of_ble_eq_true rfl), (Nat.le_of_ble_eq_true rfl)⟩ rfl ?_
  show BdP E mJx4a65c_init_da8c8 (xRm 3 60 0 0) 0 0 (fun z => o = z) 4 [some (.ref hs)] [] [(hs, .inr (16, [.int 0, f1, f2]))] 0 0
  refine Bd.seg ok_Jx4a65c_init_da8c8 2 [] rfl (show BdP E mJx4a65c_init_da8c8 (xRm 3 60 0 0) 0 0 (fun z => o = z) 5 [some (.ref hs)] [.ref hs] [(hs, .inr (16, [.int 0, f1, f2]))] 0 0 from ?_)
  refine Bd.emptyRow kf16_39 (by decide +kernel) ?_
  show BdP E mJx4a65c_init_da8c8 (xRm 3 60 0 0) 0 0 (fun z => o = z) 8 [some (.ref hs)] [.ref (E.2.2.1 42), .ref hs] [(hs, .inr (16, [.int 0, f1, f2]))] 0 0
  refine Bd.seg ok_Jx4a65c_init_da8c8 3 [0] rfl (And.intro (And.intro rfl (And.intro rfl (Nat.le_of_ble_eq_true rfl))) (And.intro (And.intro rfl rfl) (And.intro (And.intro ho.symm (And.intro (Nat.le_of_ble_eq_true rfl) (Nat.le_of_ble_eq_true rfl))) True.intro)))
def tb_Jx4a65c_size_8abf5 : List (Nat × List xI) := [(0, [(.aload_n 0, [], 0), (.getfield 48, [16, 2], 0), (.ireturn, [], 0)])]
set_option maxRecDepth 100000 in
theorem ok_Jx4a65c_size_8abf5 : ∀ q ∈ tb_Jx4a65c_size_8abf5, xChks mJx4a65c_size_8abf5 q.1 q.2 = true := by decide +kernel
theorem nJx4a65c_size_8abf5 : xNa mJx4a65c_size_8abf5 0 := by delta xNa; decide +kernel
set_option maxHeartbeats 4000000 in
set_option maxRecDepth 100000 in
theorem s_Jx4a65c_size_8abf5 (E : xE) (hs ed : Nat) (m c : Int32)  (o : xO) (ho : .inl (some (.int c), [(hs, .inr (16, [.int m, .ref ed, .int c]))]) = o) : Sp E mJx4a65c_size_8abf5 (xRm 0 0 0 0) [.ref hs] [(hs, .inr (16, [.int m, .ref ed, .int c]))] o := by
  refine Sp.of oJx4a65c_size_8abf5 (L := [some (.ref hs)]) rfl rfl (Nat.le_of_ble_eq_true rfl) (show BdP E mJx4a65c_size_8abf5 (xRm 0 0 0 0) 0 0 (fun z => o = z) 0 [some (.ref hs)] [] [(hs, .inr (16, [.int m, .ref ed, .int c]))] 0 0 from ?_)
  refine Bd.seg ok_Jx4a65c_size_8abf5 0 [0] rfl (And.intro (And.intro rfl rfl) (And.intro (And.intro ho.symm (And.intro (Nat.le_of_ble_eq_true rfl) (Nat.le_of_ble_eq_true rfl))) True.intro))
def tb_Jx4a65c_isEmpty_aae02 : List (Nat × List xI) := [(0, [(.aload_n 0, [], 0), (.getfield 48, [16, 2], 0), (.ifCond .ne 7, [], 0)]), (11, [(.iconst 0, [], 0), (.ireturn, [], 0)]), (7, [(.iconst 1, [], 1), (.goto 4, [], 0)]), (12, [(.ireturn, [], 0)])]
set_option maxRecDepth 100000 in
theorem ok_Jx4a65c_isEmpty_aae02 : ∀ q ∈ tb_Jx4a65c_isEmpty_aae02, xChks mJx4a65c_isEmpty_aae02 q.1 q.2 = true := by decide +kernel
theorem nJx4a65c_isEmpty_aae02 : xNa mJx4a65c_isEmpty_aae02 0 := by delta xNa; decide +kernel
set_option maxHeartbeats 4000000 in
set_option maxRecDepth 100000 in
theorem s_Jx4a65c_isEmpty_aae02 (E : xE) (hs ed : Nat) (m c : Int32)  (o : xO) (ho : .inl (some (.int (if c = 0 then 1 else 0)), [(hs, .inr (16, [.int m, .ref ed, .int c]))]) = o) : Sp E mJx4a65c_isEmpty_aae02 (xRm 0 0 0 0) [.ref hs] [(hs, .inr (16, [.int m, .ref ed, .int c]))] o := by
  refine Sp.of oJx4a65c_isEmpty_aae02 (L := [some (.ref hs)]) rfl rfl (Nat.le_of_ble_eq_true rfl) (show BdP E mJx4a65c_isEmpty_aae02 (xRm 0 0 0 0) 0 0 (fun z => o = z) 0 [some (.ref hs)] [] [(hs, .inr (16, [.int m, .ref ed, .int c]))] 0 0 from ?_)
  refine Bd.seg ok_Jx4a65c_isEmpty_aae02 0 [0] rfl (And.intro (And.intro rfl rfl) (And.intro (fun c9 => (show BdP E mJx4a65c_isEmpty_aae02 (xRm 0 0 0 0) 0 0 (fun z => o = z) 11 [some (.ref hs)] [] [(hs, .inr (16, [.int m, .ref ed, .int c]))] 0 0 from ?_)) (fun c9 => (show BdP E mJx4a65c_isEmpty_aae02 (xRm 0 0 0 0) 0 0 (fun z => o = z) 7 [some (.ref hs)] [] [(hs, .inr (16, [.int m, .ref ed, .int c]))] 0 0 from ?_))))
  · refine Bd.seg ok_Jx4a65c_isEmpty_aae02 1 [] rfl (And.intro (And.intro (by rw [← ho, if_neg c9]) (And.intro (Nat.le_of_ble_eq_true rfl) (Nat.le_of_ble_eq_true rfl))) rfl)
  · refine Bd.seg ok_Jx4a65c_isEmpty_aae02 2 [] rfl (show BdP E mJx4a65c_isEmpty_aae02 (xRm 0 0 0 0) 0 0 (fun z => o = z) 12 [some (.ref hs)] [.int 1] [(hs, .inr (16, [.int m, .ref ed, .int c]))] 0 0 from ?_)
    refine Bd.seg ok_Jx4a65c_isEmpty_aae02 3 [] rfl (And.intro (And.intro (by rw [← ho, if_pos c9]) (And.intro (Nat.le_of_ble_eq_true rfl) (Nat.le_of_ble_eq_true rfl))) rfl)
def tb_J15_checkIndex_7cf53 : List (Nat × List xI) := [(0, [(.iload_n 0, [], 0), (.iload_n 1, [], 0), (.aconst_null, [], 0)]), (3, [(.invokestatic 105, [], 0)]), (6, [(.ireturn, [], 0)])]
set_option maxRecDepth 100000 in
theorem ok_J15_checkIndex_7cf53 : ∀ q ∈ tb_J15_checkIndex_7cf53, xChks mJ15_checkIndex_7cf53 q.1 q.2 = true := by decide +kernel
theorem nJ15_checkIndex_7cf53 : xNa mJ15_checkIndex_7cf53 2 := by delta xNa; decide +kernel
set_option maxHeartbeats 4000000 in
set_option maxRecDepth 100000 in
theorem s_J15_checkIndex_7cf53 (E : xE) (a b : Int32) (h0 : ¬ a < 0) (h1 : a < b) (o : xO) (ho : .inl (some (.int a), []) = o) : Sp E mJ15_checkIndex_7cf53 (xRm 1 22 0 0) [.int a, .int b] [] o := by
  refine Sp.of oJ15_checkIndex_7cf53 (L := [some (.int a), some (.int b)]) rfl rfl (Nat.le_of_ble_eq_true rfl) (show BdP E mJ15_checkIndex_7cf53 (xRm 1 22 0 0) 0 0 (fun z => o = z) 0 [some (.int a), some (.int b)] [] [] 0 0 from ?_)
  refine Bd.seg ok_J15_checkIndex_7cf53 0 [] rfl (show BdP E mJ15_checkIndex_7cf53 (xRm 1 22 0 0) 0 0 (fun z => o = z) 3 [some (.int a), some (.int b)] [.null, .int b, .int a] [] 0 0 from ?_)
  refine Bd.callSr oJ3_checkIndex_8e157 vJ3_checkIndex_8e157 nJ3_checkIndex_8e157 k25_105 (xdec ok_J15_checkIndex_7cf53 1 rfl) (As := [.int a, .int b, .null]) (rest := []) (s_J3_checkIndex E a b .null (Or.inl rfl) h0 h1) ⟨(Nat.le_of_ble_eq_true rfl), (Nat.le_of_ble_eq_true rfl)⟩ rfl (Nat.le_of_ble_eq_true rfl) [] (by decide) rfl ⟨(Nat.le_of_ble_eq_true rfl), (Nat.le_of_ble_eq_true rfl)⟩ rfl ?_
  show BdP E mJ15_checkIndex_7cf53 (xRm 1 22 0 0) 0 0 (fun z => o = z) 6 [some (.int a), some (.int b)] [.int a] [] 0 0
  refine Bd.seg ok_J15_checkIndex_7cf53 2 [] rfl (And.intro (And.intro ho.symm (And.intro (Nat.le_of_ble_eq_true rfl) (Nat.le_of_ble_eq_true rfl))) True.intro)
def tb_Jx4a65c_elementData_915e3 : List (Nat × List xI) := [(0, [(.aload_n 0, [], 0), (.getfield 9, [16, 1], 0), (.iload_n 1, [], 0)]), (5, [(.aaload, [], 0)]), (6, [(.areturn, [], 0)])]
set_option maxRecDepth 100000 in
theorem ok_Jx4a65c_elementData_915e3 : ∀ q ∈ tb_Jx4a65c_elementData_915e3, xChks mJx4a65c_elementData_915e3 q.1 q.2 = true := by decide +kernel
theorem nJx4a65c_elementData_915e3 : xNa mJx4a65c_elementData_915e3 1 := by delta xNa; decide +kernel
set_option maxHeartbeats 4000000 in
set_option maxRecDepth 100000 in
theorem s_Jx4a65c_elementData_915e3 (E : xE) (hs ed ns cap k a : Nat) (m : Int32) (sk : Nat → Option Nat) (hk : sk k = some a) (hk1 : k < ns) (hc : ns ≤ cap) (hc2 : cap ≤ 60) (o : xO) (ho : .inl (some (.ref a), [(hs, .inr (16, [.int m, .ref ed, .int (nI ns)])), (ed, .inl (E.2.1.2.1.2.2, cap, .inr (.inr (.inr (.inr sk)))))]) = o) : Sp E mJx4a65c_elementData_915e3 (xRm 0 0 0 0) [.ref hs, .int (nI k)] [(hs, .inr (16, [.int m, .ref ed, .int (nI ns)])), (ed, .inl (E.2.1.2.1.2.2, cap, .inr (.inr (.inr (.inr sk)))))] o := by
  refine Sp.of oJx4a65c_elementData_915e3 (L := [some (.ref hs), some (.int (nI k))]) rfl rfl (Nat.le_of_ble_eq_true rfl) (show BdP E mJx4a65c_elementData_915e3 (xRm 0 0 0 0) 0 0 (fun z => o = z) 0 [some (.ref hs), some (.int (nI k))] [] [(hs, .inr (16, [.int m, .ref ed, .int (nI ns)])), (ed, .inl (E.2.1.2.1.2.2, cap, .inr (.inr (.inr (.inr sk)))))] 0 0 from ?_)
  refine Bd.seg ok_Jx4a65c_elementData_915e3 0 [0] rfl (And.intro (And.intro rfl rfl) (show BdP E mJx4a65c_elementData_915e3 (xRm 0 0 0 0) 0 0 (fun z => o = z) 5 [some (.ref hs), some (.int (nI k))] [.int (nI k), .ref ed] [(hs, .inr (16, [.int m, .ref ed, .int (nI ns)])), (ed, .inl (E.2.1.2.1.2.2, cap, .inr (.inr (.inr (.inr sk)))))] 0 0 from ?_))
  refine Bd.oald 1 rfl (vp_in_nI (by omega) (by omega)) (xdec ok_Jx4a65c_elementData_915e3 1 rfl) ?_
  rw [nI_clamp (by omega), hk]
  show BdP E mJx4a65c_elementData_915e3 (xRm 0 0 0 0) 0 0 (fun z => o = z) 6 [some (.ref hs), some (.int (nI k))] [.ref a] [(hs, .inr (16, [.int m, .ref ed, .int (nI ns)])), (ed, .inl (E.2.1.2.1.2.2, cap, .inr (.inr (.inr (.inr sk)))))] 0 0
  refine Bd.seg ok_Jx4a65c_elementData_915e3 2 [] rfl (And.intro (And.intro ho.symm (And.intro (Nat.le_of_ble_eq_true rfl) (Nat.le_of_ble_eq_true rfl))) True.intro)
def tb_Jx4a65c_get_915e3 : List (Nat × List xI) := [(0, [(.iload_n 1, [], 0), (.aload_n 0, [], 0), (.getfield 48, [16, 2], 0)]), (5, [(.invokestatic 118, [], 0)]), (8, [(.pop, [], 0), (.aload_n 0, [], 0), (.iload_n 1, [], 0)]), (11, [(.invokevirtual 123, [], 0)]), (14, [(.areturn, [], 0)])]
set_option maxRecDepth 100000 in
theorem ok_Jx4a65c_get_915e3 : ∀ q ∈ tb_Jx4a65c_get_915e3, xChks mJx4a65c_get_915e3 q.1 q.2 = true := by decide +kernel
theorem nJx4a65c_get_915e3 : xNa mJx4a65c_get_915e3 1 := by delta xNa; decide +kernel
set_option maxHeartbeats 4000000 in
set_option maxRecDepth 100000 in
theorem s_Jx4a65c_get_915e3 (E : xE) (hs ed ns cap k a : Nat) (m : Int32) (sk : Nat → Option Nat) (hk : sk k = some a) (hk1 : k < ns) (hc : ns ≤ cap) (hc2 : cap ≤ 60) (o : xO) (ho : .inl (some (.ref a), [(hs, .inr (16, [.int m, .ref ed, .int (nI ns)])), (ed, .inl (E.2.1.2.1.2.2, cap, .inr (.inr (.inr (.inr sk)))))]) = o) : Sp E mJx4a65c_get_915e3 (xRm 2 43 0 0) [.ref hs, .int (nI k)] [(hs, .inr (16, [.int m, .ref ed, .int (nI ns)])), (ed, .inl (E.2.1.2.1.2.2, cap, .inr (.inr (.inr (.inr sk)))))] o := by
  refine Sp.of oJx4a65c_get_915e3 (L := [some (.ref hs), some (.int (nI k))]) rfl rfl (Nat.le_of_ble_eq_true rfl) (show BdP E mJx4a65c_get_915e3 (xRm 2 43 0 0) 0 0 (fun z => o = z) 0 [some (.ref hs), some (.int (nI k))] [] [(hs, .inr (16, [.int m, .ref ed, .int (nI ns)])), (ed, .inl (E.2.1.2.1.2.2, cap, .inr (.inr (.inr (.inr sk)))))] 0 0 from ?_)
  refine Bd.seg ok_Jx4a65c_get_915e3 0 [0] rfl (And.intro (And.intro rfl rfl) (show BdP E mJx4a65c_get_915e3 (xRm 2 43 0 0) 0 0 (fun z => o = z) 5 [some (.ref hs), some (.int (nI k))] [.int (nI ns), .int (nI k)] [(hs, .inr (16, [.int m, .ref ed, .int (nI ns)])), (ed, .inl (E.2.1.2.1.2.2, cap, .inr (.inr (.inr (.inr sk)))))] 0 0 from ?_))
  refine Bd.callSr oJ15_checkIndex_7cf53 vJ15_checkIndex_7cf53 nJ15_checkIndex_7cf53 k16_118 (xdec ok_Jx4a65c_get_915e3 1 rfl) (As := [.int (nI k), .int (nI ns)]) (rest := []) (s_J15_checkIndex_7cf53 E (nI k) (nI ns) (nI_pos (by omega)) (nI_lt hk1 (by omega)) _ rfl) ⟨(Nat.le_of_ble_eq_true rfl), (Nat.le_of_ble_eq_true rfl)⟩ rfl (Nat.le_of_ble_eq_true rfl) [] (by decide) rfl ⟨(Nat.le_of_ble_eq_true rfl), (Nat.le_of_ble_eq_true rfl)⟩ rfl ?_
  show BdP E mJx4a65c_get_915e3 (xRm 2 43 0 0) 0 0 (fun z => o = z) 8 [some (.ref hs), some (.int (nI k))] [.int (nI k)] [(hs, .inr (16, [.int m, .ref ed, .int (nI ns)])), (ed, .inl (E.2.1.2.1.2.2, cap, .inr (.inr (.inr (.inr sk)))))] 0 0
  refine Bd.seg ok_Jx4a65c_get_915e3 2 [] rfl (show BdP E mJx4a65c_get_915e3 (xRm 2 43 0 0) 0 0 (fun z => o = z) 11 [some (.ref hs), some (.int (nI k))] [.int (nI k), .ref hs] [(hs, .inr (16, [.int m, .ref ed, .int (nI ns)])), (ed, .inl (E.2.1.2.1.2.2, cap, .inr (.inr (.inr (.inr sk)))))] 0 0 from ?_)
  refine Bd.callVr oJx4a65c_elementData_915e3 vJx4a65c_elementData_915e3 nJx4a65c_elementData_915e3 k16_123 (xdec ok_Jx4a65c_get_915e3 3 rfl) (As := [.int (nI k)]) (rest := []) (s_Jx4a65c_elementData_915e3 E hs ed ns cap k a m sk hk hk1 hc hc2 _ rfl) ⟨(Nat.le_of_ble_eq_true rfl), (Nat.le_of_ble_eq_true rfl)⟩ rfl (Nat.le_of_ble_eq_true rfl) [0, 1] (by decide) rfl 0 rfl rfl rfl ⟨(Nat.le_of_ble_eq_true rfl), (Nat.le_of_ble_eq_true rfl)⟩ rfl ?_
  show BdP E mJx4a65c_get_915e3 (xRm 2 43 0 0) 0 0 (fun z => o = z) 14 [some (.ref hs), some (.int (nI k))] [.ref a] [(hs, .inr (16, [.int m, .ref ed, .int (nI ns)])), (ed, .inl (E.2.1.2.1.2.2, cap, .inr (.inr (.inr (.inr sk)))))] 0 0
  refine Bd.seg ok_Jx4a65c_get_915e3 4 [] rfl (And.intro (And.intro ho.symm (And.intro (Nat.le_of_ble_eq_true rfl) (Nat.le_of_ble_eq_true rfl))) True.intro)
