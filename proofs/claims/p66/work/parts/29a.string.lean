/-! a String that was made: length, charAt -/
def tb_J0_coder_7d493 : List (Nat × List xI) := [(3, [(.ifCond .eq 10, [], 0)]), (6, [(.aload_n 0, [], 0), (.getfield 15, [14, 1], 0), (.goto 4, [], 0)]), (14, [(.ireturn, [], 0)])]
set_option maxRecDepth 100000 in
theorem ok_J0_coder_7d493 : ∀ q ∈ tb_J0_coder_7d493, xChks mJ0_coder_7d493 q.1 q.2 = true := by decide +kernel
set_option maxHeartbeats 4000000 in
set_option maxRecDepth 100000 in
theorem s_J0_coder_7d493 (E : xE) (q v n : Nat) (f : Nat → Int32)  (o : xO) (ho : .inl (some (.int 0), [(q, .inr (14, [.ref v, .int 0, .int 0, .int 0])), (v, .inl (E.2.1.2.1.1, n, .inl f))]) = o) : Sp E mJ0_coder_7d493 (xRm 0 0 0 0) [.ref q] [(q, .inr (14, [.ref v, .int 0, .int 0, .int 0])), (v, .inl (E.2.1.2.1.1, n, .inl f))] o := by
  refine Sp.of oJ0_coder_7d493 (L := [some (.ref q)]) rfl rfl (Nat.le_of_ble_eq_true rfl) (show BdP E mJ0_coder_7d493 (xRm 0 0 0 0) 0 0 (fun z => o = z) 0 [some (.ref q)] [] [(q, .inr (14, [.ref v, .int 0, .int 0, .int 0])), (v, .inl (E.2.1.2.1.1, n, .inl f))] 0 0 from ?_)
  refine Bd.gets0 kf14_38 (by decide +kernel) ?_
  refine Bd.seg ok_J0_coder_7d493 0 [] rfl (And.intro (fun c9 => absurd c9 ((by decide))) (fun c9 => (show BdP E mJ0_coder_7d493 (xRm 0 0 0 0) 0 0 (fun z => o = z) 6 [some (.ref q)] [] [(q, .inr (14, [.ref v, .int 0, .int 0, .int 0])), (v, .inl (E.2.1.2.1.1, n, .inl f))] 0 0 from ?_)))
  refine Bd.seg ok_J0_coder_7d493 1 [0] rfl (And.intro (And.intro rfl rfl) (show BdP E mJ0_coder_7d493 (xRm 0 0 0 0) 0 0 (fun z => o = z) 14 [some (.ref q)] [.int 0] [(q, .inr (14, [.ref v, .int 0, .int 0, .int 0])), (v, .inl (E.2.1.2.1.1, n, .inl f))] 0 0 from ?_))
  refine Bd.seg ok_J0_coder_7d493 2 [] rfl (And.intro (And.intro ho.symm (And.intro (Nat.le_of_ble_eq_true rfl) (Nat.le_of_ble_eq_true rfl))) rfl)
def tb_J0_isLatin1_aae02 : List (Nat × List xI) := [(3, [(.ifCond .eq 14, [], 0)]), (6, [(.aload_n 0, [], 0), (.getfield 15, [14, 1], 0), (.ifCond .ne 7, [], 0)]), (13, [(.iconst 1, [], 1), (.goto 4, [], 0)]), (18, [(.ireturn, [], 0)])]
set_option maxRecDepth 100000 in
theorem ok_J0_isLatin1_aae02 : ∀ q ∈ tb_J0_isLatin1_aae02, xChks mJ0_isLatin1_aae02 q.1 q.2 = true := by decide +kernel
set_option maxHeartbeats 4000000 in
set_option maxRecDepth 100000 in
theorem s_J0_isLatin1_aae02 (E : xE) (q v n : Nat) (f : Nat → Int32)  (o : xO) (ho : .inl (some (.int 1), [(q, .inr (14, [.ref v, .int 0, .int 0, .int 0])), (v, .inl (E.2.1.2.1.1, n, .inl f))]) = o) : Sp E mJ0_isLatin1_aae02 (xRm 0 0 0 0) [.ref q] [(q, .inr (14, [.ref v, .int 0, .int 0, .int 0])), (v, .inl (E.2.1.2.1.1, n, .inl f))] o := by
  refine Sp.of oJ0_isLatin1_aae02 (L := [some (.ref q)]) rfl rfl (Nat.le_of_ble_eq_true rfl) (show BdP E mJ0_isLatin1_aae02 (xRm 0 0 0 0) 0 0 (fun z => o = z) 0 [some (.ref q)] [] [(q, .inr (14, [.ref v, .int 0, .int 0, .int 0])), (v, .inl (E.2.1.2.1.1, n, .inl f))] 0 0 from ?_)
  refine Bd.gets0 kf14_38 (by decide +kernel) ?_
  refine Bd.seg ok_J0_isLatin1_aae02 0 [] rfl (And.intro (fun c9 => absurd c9 ((by decide))) (fun c9 => (show BdP E mJ0_isLatin1_aae02 (xRm 0 0 0 0) 0 0 (fun z => o = z) 6 [some (.ref q)] [] [(q, .inr (14, [.ref v, .int 0, .int 0, .int 0])), (v, .inl (E.2.1.2.1.1, n, .inl f))] 0 0 from ?_)))
  refine Bd.seg ok_J0_isLatin1_aae02 1 [0] rfl (And.intro (And.intro rfl rfl) (And.intro (fun c9 => absurd (rfl) c9) (fun c9 => (show BdP E mJ0_isLatin1_aae02 (xRm 0 0 0 0) 0 0 (fun z => o = z) 13 [some (.ref q)] [] [(q, .inr (14, [.ref v, .int 0, .int 0, .int 0])), (v, .inl (E.2.1.2.1.1, n, .inl f))] 0 0 from ?_))))
  refine Bd.seg ok_J0_isLatin1_aae02 2 [] rfl (show BdP E mJ0_isLatin1_aae02 (xRm 0 0 0 0) 0 0 (fun z => o = z) 18 [some (.ref q)] [.int 1] [(q, .inr (14, [.ref v, .int 0, .int 0, .int 0])), (v, .inl (E.2.1.2.1.1, n, .inl f))] 0 0 from ?_)
  refine Bd.seg ok_J0_isLatin1_aae02 3 [] rfl (And.intro (And.intro ho.symm (And.intro (Nat.le_of_ble_eq_true rfl) (Nat.le_of_ble_eq_true rfl))) rfl)
def tb_J0_length_8abf5 : List (Nat × List xI) := [(0, [(.aload_n 0, [], 0), (.getfield 9, [14, 0], 0)]), (4, [(.arraylength, [], 0)]), (5, [(.aload_n 0, [], 0)]), (6, [(.invokevirtual 335, [], 0)]), (9, [(.ishr, [], 0)]), (10, [(.ireturn, [], 0)])]
set_option maxRecDepth 100000 in
theorem ok_J0_length_8abf5 : ∀ q ∈ tb_J0_length_8abf5, xChks mJ0_length_8abf5 q.1 q.2 = true := by decide +kernel
set_option maxHeartbeats 4000000 in
set_option maxRecDepth 100000 in
theorem s_J0_length_8abf5 (E : xE) (q v n : Nat) (f : Nat → Int32)  (o : xO) (ho : .inl (some (.int (nI n)), [(q, .inr (14, [.ref v, .int 0, .int 0, .int 0])), (v, .inl (E.2.1.2.1.1, n, .inl f))]) = o) : Sp E mJ0_length_8abf5 (xRm 1 20 0 0) [.ref q] [(q, .inr (14, [.ref v, .int 0, .int 0, .int 0])), (v, .inl (E.2.1.2.1.1, n, .inl f))] o := by
  refine Sp.of oJ0_length_8abf5 (L := [some (.ref q)]) rfl rfl (Nat.le_of_ble_eq_true rfl) (show BdP E mJ0_length_8abf5 (xRm 1 20 0 0) 0 0 (fun z => o = z) 0 [some (.ref q)] [] [(q, .inr (14, [.ref v, .int 0, .int 0, .int 0])), (v, .inl (E.2.1.2.1.1, n, .inl f))] 0 0 from ?_)
  refine Bd.seg ok_J0_length_8abf5 0 [0] rfl (And.intro (And.intro rfl rfl) (show BdP E mJ0_length_8abf5 (xRm 1 20 0 0) 0 0 (fun z => o = z) 4 [some (.ref q)] [.ref v] [(q, .inr (14, [.ref v, .int 0, .int 0, .int 0])), (v, .inl (E.2.1.2.1.1, n, .inl f))] 0 0 from ?_))
  refine Bd.alen 1 1 rfl rfl rfl (xdec ok_J0_length_8abf5 1 rfl) ?_
  show BdP E mJ0_length_8abf5 (xRm 1 20 0 0) 0 0 (fun z => o = z) 5 [some (.ref q)] [.int (nI n)] [(q, .inr (14, [.ref v, .int 0, .int 0, .int 0])), (v, .inl (E.2.1.2.1.1, n, .inl f))] 0 0
  refine Bd.seg ok_J0_length_8abf5 2 [] rfl (show BdP E mJ0_length_8abf5 (xRm 1 20 0 0) 0 0 (fun z => o = z) 6 [some (.ref q)] [.ref q, .int (nI n)] [(q, .inr (14, [.ref v, .int 0, .int 0, .int 0])), (v, .inl (E.2.1.2.1.1, n, .inl f))] 0 0 from ?_)
  refine Bd.callVr oJ0_coder_7d493 vJ0_coder_7d493 nJ0_coder_7d493 k14_335 (xdec ok_J0_length_8abf5 3 rfl) (As := []) (rest := [.int (nI n)]) (s_J0_coder_7d493 E q v n f _ rfl) ⟨(Nat.le_of_ble_eq_true rfl), (Nat.le_of_ble_eq_true rfl)⟩ rfl (Nat.le_of_ble_eq_true rfl) [0, 1] (by decide) rfl 0 rfl rfl rfl ⟨(Nat.le_of_ble_eq_true rfl), (Nat.le_of_ble_eq_true rfl)⟩ rfl ?_
  show BdP E mJ0_length_8abf5 (xRm 1 20 0 0) 0 0 (fun z => o = z) 9 [some (.ref q)] [.int 0, .int (nI n)] [(q, .inr (14, [.ref v, .int 0, .int 0, .int 0])), (v, .inl (E.2.1.2.1.1, n, .inl f))] 0 0
  refine Bd.seg ok_J0_length_8abf5 4 [] rfl (show BdP E mJ0_length_8abf5 (xRm 1 20 0 0) 0 0 (fun z => o = z) 10 [some (.ref q)] [.int ((nI n) >>> (0 &&& 31))] [(q, .inr (14, [.ref v, .int 0, .int 0, .int 0])), (v, .inl (E.2.1.2.1.1, n, .inl f))] 0 0 from ?_)
  rw [xsh0]
  show BdP E mJ0_length_8abf5 (xRm 1 20 0 0) 0 0 (fun z => o = z) 10 [some (.ref q)] [.int (nI n)] [(q, .inr (14, [.ref v, .int 0, .int 0, .int 0])), (v, .inl (E.2.1.2.1.1, n, .inl f))] 0 0
  refine Bd.seg ok_J0_length_8abf5 5 [] rfl (And.intro (And.intro ho.symm (And.intro (Nat.le_of_ble_eq_true rfl) (Nat.le_of_ble_eq_true rfl))) True.intro)
theorem x_and255 {x : Nat} (h : x < 128) : nI x &&& 255 = nI x ∧ (nI x).toUInt32.toUInt16.toUInt32.toInt32 = nI x := by
  have key : ∀ x : Fin 128, nI x.val &&& 255 = nI x.val ∧ (nI x.val).toUInt32.toUInt16.toUInt32.toInt32 = nI x.val := by decide +kernel
  exact key ⟨x, h⟩
theorem x_i2cc {x : Nat} (h : x < 128) : ((nI x).toUInt32 % 65536).toInt32 = nI x := by
  have key : ∀ x : Fin 128, ((nI x.val).toUInt32 % 65536).toInt32 = nI x.val := by decide +kernel
  exact key ⟨x, h⟩
theorem Bd.i2c {E : xE} {y : xM} {R : Room} {mc ms : Nat} {O : xO → Prop} {pc : Nat} {L : xL} {st : List Value} {M : va_W} {ck sk : Nat} {a : Int32} (hd : decode y.2.1 pc = .ok (.i2c, 1)) (k : BdP E y R mc ms O (pc + 1) L (.int (a.toUInt32 % 65536).toInt32 :: st) M ck sk) : BdP E y R mc ms O pc L (.int a :: st) M ck sk := by
  intro p l e s m args below meth c A H locs ls hF hr hx hP hD hS hl hLn
  exact lv_i2c hF.1 hF.2.2.1 hd rfl (k p l e s m args below meth c A H locs ls hF hr hx hP hD hS hl hLn)
def tb_J1_charAt_3b067 : List (Nat × List xI) := [(0, [(.iload_n 1, [], 0), (.aload_n 0, [], 0)]), (2, [(.arraylength, [], 0)]), (3, [(.invokestatic 9, [], 0)]), (6, [(.aload_n 0, [], 0), (.iload_n 1, [], 0)]), (8, [(.baload, [], 0)]), (9, [(.sipush 255, [], 255), (.iand, [], 0)]), (13, [(.i2c, [], 0)]), (14, [(.ireturn, [], 0)])]
set_option maxRecDepth 100000 in
theorem ok_J1_charAt_3b067 : ∀ q ∈ tb_J1_charAt_3b067, xChks mJ1_charAt_3b067 q.1 q.2 = true := by decide +kernel
set_option maxHeartbeats 4000000 in
set_option maxRecDepth 100000 in
theorem s_J1_charAt_3b067 (E : xE) (v n j : Nat) (t : Nat → Nat) (f : Nat → Int32) (hL : xLat t n f) (hj : j < n) (hn : n ≤ 1000) (o : xO) (ho : .inl (some (.int (nI (t j))), [(v, .inl (E.2.1.2.1.1, n, .inl f))]) = o) : Sp E mJ1_charAt_3b067 (xRm 2 43 0 0) [.ref v, .int (nI j)] [(v, .inl (E.2.1.2.1.1, n, .inl f))] o := by
  refine Sp.of oJ1_charAt_3b067 (L := [some (.ref v), some (.int (nI j))]) rfl rfl (Nat.le_of_ble_eq_true rfl) (show BdP E mJ1_charAt_3b067 (xRm 2 43 0 0) 0 0 (fun z => o = z) 0 [some (.ref v), some (.int (nI j))] [] [(v, .inl (E.2.1.2.1.1, n, .inl f))] 0 0 from ?_)
  refine Bd.seg ok_J1_charAt_3b067 0 [] rfl (show BdP E mJ1_charAt_3b067 (xRm 2 43 0 0) 0 0 (fun z => o = z) 2 [some (.ref v), some (.int (nI j))] [.ref v, .int (nI j)] [(v, .inl (E.2.1.2.1.1, n, .inl f))] 0 0 from ?_)
  refine Bd.alen 0 1 rfl rfl rfl (xdec ok_J1_charAt_3b067 1 rfl) ?_
  show BdP E mJ1_charAt_3b067 (xRm 2 43 0 0) 0 0 (fun z => o = z) 3 [some (.ref v), some (.int (nI j))] [.int (nI n), .int (nI j)] [(v, .inl (E.2.1.2.1.1, n, .inl f))] 0 0
  refine Bd.callSr oJ0_checkIndex_df160 vJ0_checkIndex_df160 nJ0_checkIndex_df160 k17_9 (xdec ok_J1_charAt_3b067 2 rfl) (As := [.int (nI j), .int (nI n)]) (rest := []) (s_J0_checkIndex E (nI j) (nI n) (nI_pos (by omega)) (nI_lt hj (by omega))) ⟨(Nat.le_of_ble_eq_true rfl), (Nat.le_of_ble_eq_true rfl)⟩ rfl (Nat.le_of_ble_eq_true rfl) [] (by decide) rfl ⟨(Nat.le_of_ble_eq_true rfl), (Nat.le_of_ble_eq_true rfl)⟩ rfl ?_
  show BdP E mJ1_charAt_3b067 (xRm 2 43 0 0) 0 0 (fun z => o = z) 6 [some (.ref v), some (.int (nI j))] [] [(v, .inl (E.2.1.2.1.1, n, .inl f))] 0 0
  refine Bd.seg ok_J1_charAt_3b067 3 [] rfl (show BdP E mJ1_charAt_3b067 (xRm 2 43 0 0) 0 0 (fun z => o = z) 8 [some (.ref v), some (.int (nI j))] [.int (nI j), .ref v] [(v, .inl (E.2.1.2.1.1, n, .inl f))] 0 0 from ?_)
  refine Bd.bald 0 rfl (vp_in_nI hj (by omega)) (xdec ok_J1_charAt_3b067 4 rfl) ?_
  rw [nI_clamp (by omega), (hL.1 j hj).2]
  show BdP E mJ1_charAt_3b067 (xRm 2 43 0 0) 0 0 (fun z => o = z) 9 [some (.ref v), some (.int (nI j))] [.int (nI (t j))] [(v, .inl (E.2.1.2.1.1, n, .inl f))] 0 0
  refine Bd.seg ok_J1_charAt_3b067 5 [] rfl (show BdP E mJ1_charAt_3b067 (xRm 2 43 0 0) 0 0 (fun z => o = z) 13 [some (.ref v), some (.int (nI j))] [.int ((nI (t j)) &&& 255)] [(v, .inl (E.2.1.2.1.1, n, .inl f))] 0 0 from ?_)
  rw [(x_and255 (hL.1 j hj).1).1]
  show BdP E mJ1_charAt_3b067 (xRm 2 43 0 0) 0 0 (fun z => o = z) 13 [some (.ref v), some (.int (nI j))] [.int (nI (t j))] [(v, .inl (E.2.1.2.1.1, n, .inl f))] 0 0
  refine Bd.i2c (xdec ok_J1_charAt_3b067 6 rfl) ?_
  rw [x_i2cc (hL.1 j hj).1]
  show BdP E mJ1_charAt_3b067 (xRm 2 43 0 0) 0 0 (fun z => o = z) 14 [some (.ref v), some (.int (nI j))] [.int (nI (t j))] [(v, .inl (E.2.1.2.1.1, n, .inl f))] 0 0
  refine Bd.seg ok_J1_charAt_3b067 7 [] rfl (And.intro (And.intro ho.symm (And.intro (Nat.le_of_ble_eq_true rfl) (Nat.le_of_ble_eq_true rfl))) (x_and255 (hL.1 j hj).1).2)
def tb_J0_charAt_5068e : List (Nat × List xI) := [(0, [(.aload_n 0, [], 0)]), (1, [(.invokevirtual 492, [], 0)]), (4, [(.ifCond .eq 12, [], 0)]), (7, [(.aload_n 0, [], 0), (.getfield 9, [14, 0], 0), (.iload_n 1, [], 0)]), (12, [(.invokestatic 495, [], 0)]), (15, [(.ireturn, [], 0)])]
set_option maxRecDepth 100000 in
theorem ok_J0_charAt_5068e : ∀ q ∈ tb_J0_charAt_5068e, xChks mJ0_charAt_5068e q.1 q.2 = true := by decide +kernel
set_option maxHeartbeats 4000000 in
set_option maxRecDepth 100000 in
theorem s_J0_charAt_5068e (E : xE) (q v n j : Nat) (t : Nat → Nat) (f : Nat → Int32) (hL : xLat t n f) (hj : j < n) (hn : n ≤ 1000) (o : xO) (ho : .inl (some (.int (nI (t j))), [(q, .inr (14, [.ref v, .int 0, .int 0, .int 0])), (v, .inl (E.2.1.2.1.1, n, .inl f))]) = o) : Sp E mJ0_charAt_5068e (xRm 3 64 0 0) [.ref q, .int (nI j)] [(q, .inr (14, [.ref v, .int 0, .int 0, .int 0])), (v, .inl (E.2.1.2.1.1, n, .inl f))] o := by
  refine Sp.of oJ0_charAt_5068e (L := [some (.ref q), some (.int (nI j))]) rfl rfl (Nat.le_of_ble_eq_true rfl) (show BdP E mJ0_charAt_5068e (xRm 3 64 0 0) 0 0 (fun z => o = z) 0 [some (.ref q), some (.int (nI j))] [] [(q, .inr (14, [.ref v, .int 0, .int 0, .int 0])), (v, .inl (E.2.1.2.1.1, n, .inl f))] 0 0 from ?_)
  refine Bd.seg ok_J0_charAt_5068e 0 [] rfl (show BdP E mJ0_charAt_5068e (xRm 3 64 0 0) 0 0 (fun z => o = z) 1 [some (.ref q), some (.int (nI j))] [.ref q] [(q, .inr (14, [.ref v, .int 0, .int 0, .int 0])), (v, .inl (E.2.1.2.1.1, n, .inl f))] 0 0 from ?_)
  refine Bd.callVr oJ0_isLatin1_aae02 vJ0_isLatin1_aae02 nJ0_isLatin1_aae02 k14_492 (xdec ok_J0_charAt_5068e 1 rfl) (As := []) (rest := []) (s_J0_isLatin1_aae02 E q v n f _ rfl) ⟨(Nat.le_of_ble_eq_true rfl), (Nat.le_of_ble_eq_true rfl)⟩ rfl (Nat.le_of_ble_eq_true rfl) [0, 1] (by decide) rfl 0 rfl rfl rfl ⟨(Nat.le_of_ble_eq_true rfl), (Nat.le_of_ble_eq_true rfl)⟩ rfl ?_
  show BdP E mJ0_charAt_5068e (xRm 3 64 0 0) 0 0 (fun z => o = z) 4 [some (.ref q), some (.int (nI j))] [.int 1] [(q, .inr (14, [.ref v, .int 0, .int 0, .int 0])), (v, .inl (E.2.1.2.1.1, n, .inl f))] 0 0
  refine Bd.seg ok_J0_charAt_5068e 2 [] rfl (And.intro (fun c9 => absurd c9 ((by decide))) (fun c9 => (show BdP E mJ0_charAt_5068e (xRm 3 64 0 0) 0 0 (fun z => o = z) 7 [some (.ref q), some (.int (nI j))] [] [(q, .inr (14, [.ref v, .int 0, .int 0, .int 0])), (v, .inl (E.2.1.2.1.1, n, .inl f))] 0 0 from ?_)))
  refine Bd.seg ok_J0_charAt_5068e 3 [0] rfl (And.intro (And.intro rfl rfl) (show BdP E mJ0_charAt_5068e (xRm 3 64 0 0) 0 0 (fun z => o = z) 12 [some (.ref q), some (.int (nI j))] [.int (nI j), .ref v] [(q, .inr (14, [.ref v, .int 0, .int 0, .int 0])), (v, .inl (E.2.1.2.1.1, n, .inl f))] 0 0 from ?_))
  refine Bd.callSr oJ1_charAt_3b067 vJ1_charAt_3b067 nJ1_charAt_3b067 k14_495 (xdec ok_J0_charAt_5068e 4 rfl) (As := [.ref v, .int (nI j)]) (rest := []) (s_J1_charAt_3b067 E v n j t f hL hj hn _ rfl) ⟨(Nat.le_of_ble_eq_true rfl), (Nat.le_of_ble_eq_true rfl)⟩ rfl (Nat.le_of_ble_eq_true rfl) [1] (by decide) rfl ⟨(Nat.le_of_ble_eq_true rfl), (Nat.le_of_ble_eq_true rfl)⟩ rfl ?_
  show BdP E mJ0_charAt_5068e (xRm 3 64 0 0) 0 0 (fun z => o = z) 15 [some (.ref q), some (.int (nI j))] [.int (nI (t j))] [(q, .inr (14, [.ref v, .int 0, .int 0, .int 0])), (v, .inl (E.2.1.2.1.1, n, .inl f))] 0 0
  refine Bd.seg ok_J0_charAt_5068e 5 [] rfl (And.intro (And.intro ho.symm (And.intro (Nat.le_of_ble_eq_true rfl) (Nat.le_of_ble_eq_true rfl))) (x_and255 (hL.1 j hj).1).2)
