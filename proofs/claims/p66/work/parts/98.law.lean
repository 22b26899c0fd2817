/-! MACHINE: the law: its houses, its acts, its end -/
def tb_law : List (Nat × List xI) := [(0, [(.new 17, [11], 0), (.dup, [], 0)]), (4, [(.invokespecial 123, [], 0)]), (7, [(.astore_n 1, [], 0), (.aload_n 0, [], 0)]), (9, [(.arraylength, [], 0)]), (10, [(.istore_n 2, [], 0), (.iconst 0, [], 0), (.istore_n 3, [], 0)]), (13, [(.iload_n 3, [], 0), (.iload_n 2, [], 0), (.if_icmp .ge 89, [], 0)]), (18, [(.iload_n 3, [], 0), (.iconst 2, [], 2), (.if_icmp .ge 84, [], 0)]), (23, [(.iconst 1, [], 1), (.newarray .int, [0], 0), (.dup, [], 0), (.iconst 0, [], 0), (.aload_n 0, [], 0), (.iload_n 3, [], 0)]), (30, [(.iaload, [], 0)]), (31, [(.iastore, [], 0), (.astore 4, [], 0), (.aload_n 1, [], 0), (.aload 4, [], 0)]), (37, [(.invokestatic 124, [], 0)]), (40, [(.astore 5, [], 0), (.aload 5, [], 0), (.ifnonnull 5, [], 0)]), (49, [(.iconst 0, [], 0), (.istore 6, [], 0)]), (52, [(.iload 6, [], 0), (.bipush 16, [], 16), (.if_icmp .ge 31, [], 0)]), (59, [(.aload_n 1, [], 0), (.aload 5, [], 0)]), (62, [(.invokestatic 128, [], 0)]), (65, [(.ifCond .eq 14, [], 0)]), (68, [(.aload_n 1, [], 0), (.aload 5, [], 0), (.aload 4, [], 0)]), (73, [(.invokestatic 132, [], 0)]), (76, [(.ifCond .ne 5, [], 0)]), (81, [(.iinc 6 1, [], 1), (.goto (-32), [], 0)]), (87, [(.aload_n 1, [], 0), (.aload 5, [], 0)]), (90, [(.invokestatic 128, [], 0)]), (93, [(.ifCond .ne 5, [], 0)]), (98, [(.iinc 3 1, [], 1), (.goto (-88), [], 0)]), (104, [(.iconst 1, [], 1)])]
set_option maxRecDepth 100000 in
theorem ok_law : ∀ q ∈ tb_law, (xChks (yLw "law") q.1 q.2 && xNoPut q.2) = true := by decide +kernel
theorem d_ret : decode code 105 = .ok (.ireturn, 1) := by decide +kernel
/-- law and class alike: a house of the law's, its generator, the class -/
def LWd (E : xE) (A : Nat → Nat) (nf hx gd : Nat) (lim : Nat → Int32) (tx : TB) (b : Int32) (M : va_W) : Prop := ∃ (ns ed cap : Nat) (m : Int32) (fl sk : Nat → Option Nat) (LP : List Nat) (hv : Nat → Nat → Int32) (s : Nat → Int32) (MX : va_W) (gv : Nat → Int32), LH E nf ns ed cap fl sk lim LP hv s ∧ CI E hx nf ns s tx 0 MX ∧ SUM nf ns s ∧ s 0 ≤ b ∧ M = [lwO A s, lwF E A nf fl, lwL E A nf lim, lwS A m ed ns, (gd, .inl (E.2.1.1, 1, .inl gv))] ++ ((alR E ed cap sk ++ MX) ++ hLd LP (hG hv))
def LRt (X : LX) : Prop := ∀ (L : xL) (M : va_W) (ck sk : Nat), ck ≤ 600086 → sk ≤ 7301442 → BdL X 105 L [.int 1] M ck sk
section LAW
variable {X : LX} {A : Nat → Nat} {nf hx gd : Nat} {lim : Nat → Int32} {tx : TB} {b : Int32} {M : va_W} {pc : Nat} {L : xL} {c0 s0 : Nat}
theorem law_still (hF : LF X) (hW : LWd X.E A nf hx gd lim tx b M) (hd : decode code pc = .ok (.invokestatic 128, 3)) (hc : c0 + 190 ≤ 600086) (hs : s0 + 1100 ≤ 7301442) (k : BdL X (pc + 3) L [.int 1] M (c0 + 190) (s0 + 1100)) : BdL X pc L [.ref (A 0), .ref hx] M c0 s0 := by
  obtain ⟨ns, ed, cap, m, fl, sk, LP, hv, s, MX, gv, hH, hI, hS, hb, rfl⟩ := hW
  obtain ⟨f, hQ⟩ := hI.x0.2
  refine BdL.callS hF oL_still vL_still nL_still k13_128 hd (As := [.ref hx, .ref (A 0)]) (rest := []) (Mc := [lwO A s, lwF X.E A nf fl, lwL X.E A nf lim, lwS A m ed ns] ++ ((alR X.E ed cap sk ++ MX) ++ hLd LP (hG hv))) (Rest := [(gd, .inl (X.E.2.1.1, 1, .inl gv))]) (s_L_still X.E A s nf ns ed cap m fl sk lim LP hv hx tx 0 MX hH hQ.1.2.2.2.1 hI hS _ rfl) (fun Z M' h => by cases h) ⟨Nat.le_of_ble_eq_true rfl, Nat.le_of_ble_eq_true rfl⟩ rfl (Nat.le_of_ble_eq_true rfl) (permT [lwO A s, lwF X.E A nf fl, lwL X.E A nf lim, lwS A m ed ns] ((alR X.E ed cap sk ++ MX) ++ hLd LP (hG hv)) (gd, .inl (X.E.2.1.1, 1, .inl gv))).symm ⟨(show c0 + 190 ≤ 600086 by omega), (show s0 + 1100 ≤ 7301442 by omega)⟩ ?_
  intro v M' h
  cases h
  exact BdL.pm (permT [lwO A s, lwF X.E A nf fl, lwL X.E A nf lim, lwS A m ed ns] ((alR X.E ed cap sk ++ MX) ++ hLd LP (hG hv)) (gd, .inl (X.E.2.1.1, 1, .inl gv))) k
theorem law_act (hF : LF X) (hW : LWd X.E A nf hx gd lim tx b M) (hb9 : b ≤ 9000) (hd : decode code pc = .ok (.invokestatic 132, 3)) (hc : c0 + 240 ≤ 600086) (hs : s0 + 2400 ≤ 7301442) (k : ∀ M', LWd X.E A nf hx gd lim tx (b + 25) M' → BdL X (pc + 3) L [.int 1] M' (c0 + 240) (s0 + 2400)) : BdL X pc L [.ref gd, .ref (A 0), .ref hx] M c0 s0 := by
  obtain ⟨ns, ed, cap, m, fl, sk, LP, hv, s, MX, gv, hH, hI, hS, hb, rfl⟩ := hW
  refine BdL.callS0 hF oL_act vL_act nL_act k13_132 hd (As := [.ref hx, .ref (A 0), .ref gd]) (rest := []) (s_L_act X.E A s nf ns ed cap m fl sk lim LP hv hx gd tx MX gv b hH hI hS hb hb9) (fun Z M' h => by obtain ⟨_, _, _, _, _, _, _, _, _, _, _, _, _, _, _, h⟩ := h; cases h) ⟨Nat.le_of_ble_eq_true rfl, Nat.le_of_ble_eq_true rfl⟩ rfl (Nat.le_of_ble_eq_true rfl) ⟨(show c0 + 240 ≤ 600086 by omega), (show s0 + 2400 ≤ 7301442 by omega)⟩ ?_
  intro v M' h
  obtain ⟨n2, e2, c2, m2, fl2, sk2, LP2, hv2, s2, MX2, gv2, k1, k2, k3, k4, h⟩ := h
  cases h
  exact k _ ⟨n2, e2, c2, m2, fl2, sk2, LP2, hv2, s2, MX2, gv2, k1, k2, k3, k4, rfl⟩
end LAW
/-- the law's locals in the loop of acts -/
abbrev Lq (X : LX) (hx i gd a m : Nat) : xL := [some (.ref X.b), some (.ref hx), some (.int (nI X.n)), some (.int (nI i)), some (.ref gd), some (.ref a), some (.int (nI m))]
set_option maxRecDepth 100000 in
theorem law_acts {X : LX} {A : Nat → Nat} {nf hx gd i c9 s9 : Nat} {lim : Nat → Int32} {tx : TB} (hF : LF X) (hc9 : c9 ≤ 600086) (hs9 : s9 ≤ 7301442) (k : ∀ M b, LWd X.E A nf hx gd lim tx b M → BdL X 98 (Lq X hx i gd (A 0) 16) [] M c9 s9) : ∀ (d m : Nat) (M : va_W) (c0 s0 : Nat), m + d = 16 → LWd X.E A nf hx gd lim tx (nI (25 * m)) M → c0 + 430 * d + 190 ≤ c9 → s0 + 3500 * d + 1100 ≤ s9 → BdL X 52 (Lq X hx i gd (A 0) m) [] M c0 s0 := by
  intro d
  induction d with
  | zero =>
    intro m M c0 s0 hm hW hc hs
    obtain rfl : m = 16 := by omega
    refine BdL.seg hF ok_law 13 [] rfl ⟨fun c => (show BdL X 87 (Lq X hx i gd (A 0) 16) [] M c0 s0 from ?_), fun c => absurd (nI_le (a := 16) (b := 16) (Nat.le_refl _) (by decide)) c⟩
    refine BdL.seg hF ok_law 21 [] rfl (show BdL X 90 (Lq X hx i gd (A 0) 16) [.ref (A 0), .ref hx] M c0 s0 from ?_)
    refine law_still hF hW (xdecL ok_law 22 rfl) (by omega) (by omega) ?_
    refine BdL.seg hF ok_law 23 [] rfl ⟨fun c => (show BdL X 98 (Lq X hx i gd (A 0) 16) [] M (c0 + 190) (s0 + 1100) from ?_), fun c => absurd c (by decide)⟩
    exact BdL.wide (by omega) (by omega) (k M _ hW)
  | succ d ih =>
    intro m M c0 s0 hm hW hc hs
    refine BdL.seg hF ok_law 13 [] rfl ⟨fun c => absurd c (nI_ge (b := 16) (by omega) (by decide)), fun c => (show BdL X 59 (Lq X hx i gd (A 0) m) [] M c0 s0 from ?_)⟩
    refine BdL.seg hF ok_law 14 [] rfl (show BdL X 62 (Lq X hx i gd (A 0) m) [.ref (A 0), .ref hx] M c0 s0 from ?_)
    refine law_still hF hW (xdecL ok_law 15 rfl) (by omega) (by omega) ?_
    refine BdL.seg hF ok_law 16 [] rfl ⟨fun c => absurd c (by decide), fun c => (show BdL X 68 (Lq X hx i gd (A 0) m) [] M (c0 + 190) (s0 + 1100) from ?_)⟩
    refine BdL.seg hF ok_law 17 [] rfl (show BdL X 73 (Lq X hx i gd (A 0) m) [.ref gd, .ref (A 0), .ref hx] M (c0 + 190) (s0 + 1100) from ?_)
    refine law_act hF hW (nI_le (b := 9000) (by omega) (by decide)) (xdecL ok_law 18 rfl) (by omega) (by omega) ?_
    intro M' hW'
    rw [show (nI (25 * m) : Int32) + 25 = nI (25 * (m + 1)) from nI_add (25 * m) 25] at hW'
    refine BdL.seg hF ok_law 19 [] rfl ⟨fun c => (show BdL X 81 (Lq X hx i gd (A 0) m) [] M' (c0 + 190 + 240) (s0 + 1100 + 2400) from ?_), fun c => absurd c (by decide)⟩
    refine BdL.seg hF ok_law 20 [] rfl (show BdL X 52 [some (.ref X.b), some (.ref hx), some (.int (nI X.n)), some (.int (nI i)), some (.ref gd), some (.ref (A 0)), some (.int (nI m + 1))] [] M' (c0 + 190 + 240) (s0 + 1100 + 2400) from ?_)
    rw [nI_1]
    exact ih (m + 1) M' _ _ (by omega) hW' (by omega) (by omega)
set_option maxRecDepth 100000 in
theorem law_loop {X : LX} {hx : Nat} (hF : LF X) (hn : X.n ≤ 260) (hR : LRt X) : ∀ (d t nf ns : Nat) (s : Nat → Int32) (tx : TB) (ec : Int32) (MX : va_W), t + d = 2 → CI X.E hx nf ns s tx ec MX → BdL X 13 [some (.ref X.b), some (.ref hx), some (.int (nI X.n)), some (.int (nI t)), none, none, none] [] MX (100 + 10000 * t) (2000 + 130000 * t) := by
  have hend : ∀ (L : xL) (M : va_W) (ck sk : Nat), ck ≤ 600086 → sk ≤ 7301442 → BdL X 104 L [] M ck sk := fun L M ck sk h1 h2 => BdL.seg hF ok_law 25 [] rfl (hR _ _ _ _ h1 h2)
  intro d
  induction d with
  | zero =>
    intro t nf ns s tx ec MX ht hI
    obtain rfl : t = 2 := by omega
    refine BdL.seg hF ok_law 5 [] rfl ⟨fun c => (show BdL X 104 [some (.ref X.b), some (.ref hx), some (.int (nI X.n)), some (.int (nI 2)), none, none, none] [] MX (100 + 10000 * 2) (2000 + 130000 * 2) from hend _ _ _ _ (by omega) (by omega)), fun c => (show BdL X 18 [some (.ref X.b), some (.ref hx), some (.int (nI X.n)), some (.int (nI 2)), none, none, none] [] MX (100 + 10000 * 2) (2000 + 130000 * 2) from ?_)⟩
    exact BdL.seg hF ok_law 6 [] rfl ⟨fun c => (show BdL X 104 [some (.ref X.b), some (.ref hx), some (.int (nI X.n)), some (.int (nI 2)), none, none, none] [] MX (100 + 10000 * 2) (2000 + 130000 * 2) from hend _ _ _ _ (by omega) (by omega)), fun c => absurd (nI_le (a := 2) (b := 2) (Nat.le_refl _) (by decide)) c⟩
  | succ d ih =>
    intro t nf ns s tx ec MX ht hI
    refine BdL.seg hF ok_law 5 [] rfl ⟨fun c => (show BdL X 104 [some (.ref X.b), some (.ref hx), some (.int (nI X.n)), some (.int (nI t)), none, none, none] [] MX (100 + 10000 * t) (2000 + 130000 * t) from hend _ _ _ _ (by omega) (by omega)), fun c => (show BdL X 18 [some (.ref X.b), some (.ref hx), some (.int (nI X.n)), some (.int (nI t)), none, none, none] [] MX (100 + 10000 * t) (2000 + 130000 * t) from ?_)⟩
    have htn : t < X.n := Nat.lt_of_not_le (fun q => c (nI_le q (by omega)))
    refine BdL.seg hF ok_law 6 [] rfl ⟨fun c => absurd c (nI_ge (b := 2) (by omega) (by decide)), fun c => (show BdL X 23 [some (.ref X.b), some (.ref hx), some (.int (nI X.n)), some (.int (nI t)), none, none, none] [] MX (100 + 10000 * t) (2000 + 130000 * t) from ?_)⟩
    refine BdL.seg hF ok_law 7 [] rfl ⟨⟨by decide, by decide, by show 100 + 10000 * t + 1 ≤ 600086; omega, by show 2000 + 130000 * t + 1 ≤ 7301442; omega⟩, fun gd => (show BdL X 30 [some (.ref X.b), some (.ref hx), some (.int (nI X.n)), some (.int (nI t)), none, none, none] [.int (nI t), .ref X.b, .int 0, .ref gd, .ref gd] (MX ++ [(gd, .inl (X.E.2.1.1, 1, .inl (fun _ => 0)))]) (100 + 10000 * t + 1) (2000 + 130000 * t + 1) from ?_)⟩
    refine BdL.sld hF (xdecL ok_law 8 rfl) (xg (xin_nI htn (by omega))) ?_
    obtain ⟨x, hx0⟩ : ∃ x, x = X.xs (nI t).toNatClampNeg := ⟨_, rfl⟩
    rw [← hx0]
    refine BdL.pm (M' := (gd, .inl (X.E.2.1.1, 1, .inl (fun _ => 0))) :: MX) List.perm_append_comm ?_
    refine BdL.seg hF ok_law 9 [0] rfl ⟨⟨rfl, rfl⟩, vp_in_nI (show 0 < 1 by decide) (by decide), Nat.le_of_ble_eq_true rfl, (show BdL X 37 [some (.ref X.b), some (.ref hx), some (.int (nI X.n)), some (.int (nI t)), some (.ref gd), none, none] [.ref gd, .ref hx] ((gd, .inl (X.E.2.1.1, 1, .inl (upd (fun _ => 0) (Int32.toNatClampNeg 0) x))) :: MX) (100 + 10000 * t + 1) (2000 + 130000 * t + 1) from ?_)⟩
    refine BdL.callS0 hF oL_begins vL_begins nL_begins k13_124 (xdecL ok_law 10 rfl) (As := [.ref hx, .ref gd]) (rest := []) (s_L_begins X.E hx gd nf ns s tx ec MX _ hI) (fun Z M' h => by obtain ⟨_, _, _, _, _, _, _, _, _, _, _, _, _, _, _, _, _, _, _, h⟩ := h; cases h) ⟨Nat.le_of_ble_eq_true rfl, Nat.le_of_ble_eq_true rfl⟩ rfl (Nat.le_of_ble_eq_true rfl) ⟨(show 100 + 10000 * t + 1 + 140 ≤ 600086 by omega), (show 2000 + 130000 * t + 1 + 60000 ≤ 7301442 by omega)⟩ ?_
    intro v M' h
    obtain ⟨A, nf2, ns2, ed, cap, m, fl, sk, lim, LP, hv, s2, MX2, gv, tx2, g1, g2, g3, g4, h⟩ := h
    cases h
    refine (?_ : ∀ M2, LWd X.E A nf2 hx gd lim tx2 (nI (25 * 0)) M2 → BdL X 40 [some (.ref X.b), some (.ref hx), some (.int (nI X.n)), some (.int (nI t)), some (.ref gd), none, none] [.ref (A 0)] M2 (100 + 10000 * t + 1 + 140) (2000 + 130000 * t + 1 + 60000)) _ ⟨ns2, ed, cap, m, fl, sk, LP, hv, s2, MX2, gv, g1, g2, g3, g4, rfl⟩
    intro M2 hW
    refine BdL.seg hF ok_law 11 [] rfl ⟨Nat.le_of_ble_eq_true rfl, (show BdL X 49 [some (.ref X.b), some (.ref hx), some (.int (nI X.n)), some (.int (nI t)), some (.ref gd), some (.ref (A 0)), none] [] M2 (100 + 10000 * t + 1 + 140) (2000 + 130000 * t + 1 + 60000) from ?_)⟩
    refine BdL.seg hF ok_law 12 [] rfl ⟨Nat.le_of_ble_eq_true rfl, (show BdL X 52 (Lq X hx t gd (A 0) 0) [] M2 (100 + 10000 * t + 1 + 140) (2000 + 130000 * t + 1 + 60000) from ?_)⟩
    refine law_acts (nf := nf2) (lim := lim) (tx := tx2) (c9 := 100 + 10000 * (t + 1)) (s9 := 2000 + 130000 * (t + 1)) hF (by omega) (by omega) (fun M3 b hW3 => ?_) 16 0 M2 _ _ (by omega) hW (by omega) (by omega)
    obtain ⟨n3, e3, c3, m3, fl3, sk3, LP3, hv3, s3, MX3, gv3, g31, g32, g33, g34, rfl⟩ := hW3
    refine BdL.drop (M' := MX3) (((List.sublist_append_right (alR X.E e3 c3 sk3) MX3).trans (List.sublist_append_left _ (hLd LP3 (hG hv3)))).trans (List.sublist_append_right _ _)) ?_
    refine BdL.seg hF ok_law 24 [] rfl (show BdL X 13 [some (.ref X.b), some (.ref hx), some (.int (nI X.n)), some (.int (nI t + 1)), some (.ref gd), some (.ref (A 0)), some (.int (nI 16))] [] MX3 (100 + 10000 * (t + 1)) (2000 + 130000 * (t + 1)) from ?_)
    rw [nI_1]
    exact BdL.weak (ih (t + 1) nf2 n3 s3 tx2 0 MX3 (by omega) g32) ⟨rfl, rfl, rfl, rfl, trivial⟩
set_option maxRecDepth 100000 in
theorem law_start {X : LX} (hF : LF X) (hn : X.n ≤ 260) (hR : LRt X) : BdL X 0 [some (.ref X.b), none, none, none, none, none, none] [] [] 0 0 := by
  refine BdL.seg hF ok_law 0 [] rfl ⟨⟨Nat.le_of_ble_eq_true rfl, Nat.le_of_ble_eq_true rfl⟩, fun hx => (show BdL X 4 [some (.ref X.b), none, none, none, none, none, none] [.ref hx, .ref hx] [(hx, .inr (11, [.null, .null, .null, .null, .null, .null, .null, .null, .null, .null]))] 1 10 from ?_)⟩
  refine BdL.callI hF oX11_init vX11_init rfl rfl nX11_init k13_123 (xdecL ok_law 1 rfl) (As := []) (rest := [.ref hx]) (Rest := []) (c_init X.E hx) (fun Z M' h => by
    obtain ⟨_, _, _, _, h⟩ := h
    cases h) ⟨Nat.le_of_ble_eq_true rfl, Nat.le_of_ble_eq_true rfl⟩ rfl (Nat.le_of_ble_eq_true rfl) (List.Perm.refl _) ⟨Nat.le_of_ble_eq_true rfl, Nat.le_of_ble_eq_true rfl⟩ ?_
  rintro w M' ⟨MX, s, tx, hI, hz⟩
  cases hz
  refine BdL.pm (M' := M') (List.Perm.of_eq (List.append_nil _)) ?_
  refine BdL.seg hF ok_law 2 [] rfl ⟨Nat.le_of_ble_eq_true rfl, (show BdL X 9 [some (.ref X.b), some (.ref hx), none, none, none, none, none] [.ref X.b] M' 60 1514 from ?_)⟩
  refine BdL.slen hF (xdecL ok_law 3 rfl) ?_
  refine BdL.seg hF ok_law 4 [] rfl ⟨Nat.le_of_ble_eq_true rfl, Nat.le_of_ble_eq_true rfl, (show BdL X 13 [some (.ref X.b), some (.ref hx), some (.int (nI X.n)), some (.int (nI 0)), none, none, none] [] M' 60 1514 from ?_)⟩
  exact BdL.wide (by decide) (by decide) (law_loop hF hn hR 2 0 3 0 s tx 0 M' (by omega) hI)
