/-! THE LAW'S OWN HOUSE: loads as objects, rows of references to them -/
/-- what the loads hold: mass, moisture, scorch, state, heat -/
abbrev hG (hv : Nat → Nat → Int32) : Nat → List Value := fun a => [.int (hv a 0), .int (hv a 1), .int (hv a 2), .int (hv a 3), .int (hv a 4)]
def hU (hv : Nat → Nat → Int32) (a j : Nat) (x : Int32) : Nat → Nat → Int32 := fun b k => if b = a then (if k = j then x else hv b k) else hv b k
theorem hU_o (hv : Nat → Nat → Int32) {a b : Nat} (j : Nat) (x : Int32) (h : b ≠ a) : hU hv a j x b = hv b := by funext k; exact if_neg h
theorem hU_s (hv : Nat → Nat → Int32) (a j : Nat) (x : Int32) : hU hv a j x a j = x := by unfold hU; rw [if_pos rfl, if_pos rfl]
theorem hU_k (hv : Nat → Nat → Int32) (a : Nat) {j k : Nat} (x : Int32) (h : k ≠ j) : hU hv a j x a k = hv a k := by unfold hU; rw [if_pos rfl, if_neg h]
theorem hG_up (hv : Nat → Nat → Int32) (a j : Nat) (x : Int32) (hj : j < 5) : ∀ b, va_up (hG hv) a ((hG hv a).set j (.int x)) b = hG (hU hv a j x) b := by
  intro b
  by_cases e : b = a
  · subst e
    rw [show va_up (hG hv) b ((hG hv b).set j (.int x)) b = (hG hv b).set j (.int x) from if_pos rfl]
    rcases (show j = 0 ∨ j = 1 ∨ j = 2 ∨ j = 3 ∨ j = 4 by omega) with rfl | rfl | rfl | rfl | rfl <;> simp [hU]
  · rw [show va_up (hG hv) a ((hG hv a).set j (.int x)) b = hG hv b from if_neg e]
    show hG hv b = hG (hU hv a j x) b
    rw [show hG (hU hv a j x) b = hG hv b by simp only [hG, hU_o hv j x e]]
theorem hLd_mem {LP : List Nat} (G : Nat → List Value) {a : Nat} (h : a ∈ LP) : ((a, .inr (12, G a)) : Nat × va_E) ∈ hLd LP G := List.mem_map.mpr ⟨a, h, rfl⟩
theorem hLd_in (C R : va_W) {LP : List Nat} (G : Nat → List Value) {a : Nat} (h : a ∈ LP) : ∃ q : Nat, (C ++ (R ++ hLd LP G))[q]? = some ((a, .inr (12, G a)) : Nat × va_E) := List.getElem?_of_mem (List.mem_append_right _ (List.mem_append_right _ (hLd_mem G h)))
section BHOP
variable {E : xE} {y : xM} {R : Room} {mc ms : Nat} {O : xO → Prop} {pc : Nat} {L : xL} {st : List Value} {M : va_W} {ck sk : Nat}
/-- a field of a load, seen from the law -/
theorem Bd.getP {C Q : va_W} {LP : List Nat} {hv : Nat → Nat → Int32} {a idx : Nat} (k : Nat) (hk : k < 5) (ha : a ∈ LP) (hlk : Cond.fieldLinkNest (xCn y.2.2.2.2) idx RX12 (TX12 k).2.1 (TX12 k).2.2.1 "HopOastLaw" ∈ xOdd) (hd : decode y.2.1 pc = .ok (.getfield idx, 3))
    (kk : BdP E y R mc ms O (pc + 3) L (.int (hv a k) :: st) (C ++ (Q ++ hLd LP (hG hv))) ck sk) : BdP E y R mc ms O pc L (.ref a :: st) (C ++ (Q ++ hLd LP (hG hv))) ck sk := by
  intro p l e s m args below meth c A H locs ls hF hr hx hP hD hS hl hLn
  obtain ⟨hexec, hl0, hbt, hml, hown, hts, hlocks, hnm, hA, hKK, hG9⟩ := id hF
  obtain ⟨q, hq⟩ := hLd_in C Q (hG hv) ha
  obtain ⟨q1, q2, q3⟩ := xCl 12 _ rfl
  refine va_getN hexec hbt hts q1 hown hKK hP q hq rfl k hk (va_Nw.use rfl (hG9.1.1 _ hlk)) (fun x hx => by rcases (show k = 0 ∨ k = 1 ∨ k = 2 ∨ k = 3 ∨ k = 4 by omega) with rfl | rfl | rfl | rfl | rfl <;> exact hx) (v := .int (hv a k)) ?_ hd (kk p l e s m args below meth c A H locs ls hF hr hx hP hD hS hl hLn)
  rcases (show k = 0 ∨ k = 1 ∨ k = 2 ∨ k = 3 ∨ k = 4 by omega) with rfl | rfl | rfl | rfl | rfl <;> rfl
theorem Bd.putP {C Q : va_W} {LP : List Nat} {hv : Nat → Nat → Int32} {a idx : Nat} {x : Int32} (k : Nat) (h0 : 0 < k) (hk : k < 5) (ha : a ∈ LP) (hlk : Cond.fieldLinkNest (xCn y.2.2.2.2) idx RX12 (TX12 k).2.1 (TX12 k).2.2.1 "HopOastLaw" ∈ xOdd) (hd : decode y.2.1 pc = .ok (.putfield idx, 3))
    (kk : BdP E y R mc ms O (pc + 3) L st (C ++ (Q ++ hLd LP (hG (hU hv a k x)))) ck sk) : BdP E y R mc ms O pc L (.int x :: .ref a :: st) (C ++ (Q ++ hLd LP (hG hv))) ck sk := by
  intro p l env s m args below meth c A H locs ls hF hr hx hP hD hS hl hLn
  obtain ⟨hexec, hl0, hbt, hml, hown, hts, hlocks, hnm, hA, hKK, hG9⟩ := id hF
  obtain ⟨q, hq⟩ := hLd_in C Q (hG hv) ha
  obtain ⟨q1, q2, q3⟩ := xCl 12 _ rfl
  have e : (C ++ (Q ++ hLd LP (hG hv))).set q (a, .inr (12, (hG hv a).set k (.int x))) = C ++ (Q ++ hLd LP (hG (hU hv a k x))) := by
    rw [← List.append_assoc] at hD hq ⊢
    rw [va_pl_set (f := fun a => .inr (12, hG hv a)) hD ha hq, List.append_assoc]
    congr 2
    exact va_pl_congr (fun b => by
      rw [← hG_up hv a k x hk b]
      by_cases e : b = a
      · subst e; rw [show ∀ (f : Nat → va_E) z, va_up f b z b = z from fun _ _ => if_pos rfl, show ∀ (f : Nat → List Value) z, va_up f b z b = z from fun _ _ => if_pos rfl]
      · rw [show ∀ (f : Nat → va_E) z, va_up f a z b = f b from fun _ _ => if_neg e, show ∀ (f : Nat → List Value) z, va_up f a z b = f b from fun _ _ => if_neg e])
  refine va_putN hexec hbt hts q1 _ q2 q3 hown hKK hP hD hS q hq rfl k hk (va_Nw.use rfl (hG9.1.1 _ hlk)) (fun x hx => by rcases (show k = 0 ∨ k = 1 ∨ k = 2 ∨ k = 3 ∨ k = 4 by omega) with rfl | rfl | rfl | rfl | rfl <;> exact hx) (by rcases (show k = 1 ∨ k = 2 ∨ k = 3 ∨ k = 4 by omega) with rfl | rfl | rfl | rfl <;> rfl) (ty := .int) (by rcases (show k = 1 ∨ k = 2 ∨ k = 3 ∨ k = 4 by omega) with rfl | rfl | rfl | rfl <;> decide +kernel) rfl rfl (by show k < 5; exact hk) hd (fun H1 locs1 hP1 hD1 hS1 => ?_)
  rw [e] at hP1 hD1
  exact kk p l env s m args below meth c A H1 locs1 ls hF hr hx hP1 hD1 hS1 hl hLn
end BHOP
def tb_X12_init : List (Nat × List xI) := [(0, [(.aload_n 0, [], 0), (.invokespecial 1, [0], 0), (.aload_n 0, [], 0), (.iload_n 1, [], 0), (.putfield 7, [12, 0, 1], 0), (.aload_n 0, [], 0), (.iload_n 2, [], 0), (.putfield 13, [12, 1, 0], 0), (.return_, [], 0)])]
set_option maxRecDepth 100000 in
theorem ok_X12_init : ∀ q ∈ tb_X12_init, xChks mX12_init q.1 q.2 = true := by decide +kernel
theorem nX12_init : xNa mX12_init 2 := by delta xNa; decide +kernel
set_option maxHeartbeats 4000000 in
set_option maxRecDepth 100000 in
theorem s_X12_init (E : xE) (a : Nat) (h0 h1 h2 h3 h4 : Int32) (x y : Int32)  (o : xO) (ho : .inl (none, [(a, .inr (12, [.int x, .int y, .int h2, .int h3, .int h4]))]) = o) : Sp E mX12_init (xRm 1 20 0 0) [.ref a, .int x, .int y] [(a, .inr (12, [.int h0, .int h1, .int h2, .int h3, .int h4]))] o := by
  refine Sp.of oX12_init (L := [some (.ref a), some (.int x), some (.int y)]) rfl rfl (Nat.le_of_ble_eq_true rfl) (show BdP E mX12_init (xRm 1 20 0 0) 0 0 (fun z => o = z) 0 [some (.ref a), some (.int x), some (.int y)] [] [(a, .inr (12, [.int h0, .int h1, .int h2, .int h3, .int h4]))] 0 0 from ?_)
  refine Bd.seg ok_X12_init 0 [0, 0] rfl (And.intro (And.intro (Nat.le_of_ble_eq_true rfl) (And.intro (Nat.le_of_ble_eq_true rfl) (Nat.le_of_ble_eq_true rfl))) (And.intro (And.intro rfl (And.intro rfl (Nat.le_of_ble_eq_true rfl))) (And.intro (And.intro rfl rfl) (And.intro (And.intro rfl (And.intro rfl (Nat.le_of_ble_eq_true rfl))) (And.intro (And.intro rfl rfl) (And.intro (And.intro ho.symm (And.intro (Nat.le_of_ble_eq_true rfl) (Nat.le_of_ble_eq_true rfl))) True.intro))))))
def lQ (sc mo : Int32) : Int32 := if 0 < (100 - sc) - (if 0 < mo - 80 then mo - 80 else 0) / 2 then (100 - sc) - (if 0 < mo - 80 then mo - 80 else 0) / 2 else 0
def tb_X12_quality : List (Nat × List xI) := [(0, [(.iconst 0, [], 0), (.bipush 100, [], 100), (.aload_n 0, [], 0), (.getfield 16, [12, 2], 0), (.isub, [], 0), (.iconst 0, [], 0), (.aload_n 0, [], 0), (.getfield 13, [12, 1], 0), (.bipush 80, [], 80), (.isub, [], 0)]), (16, [(.invokestatic 19, [], 0)]), (19, [(.iconst 2, [], 2), (.idiv, [], 0), (.isub, [], 0)]), (22, [(.invokestatic 19, [], 0)]), (25, [(.ireturn, [], 0)])]
set_option maxRecDepth 100000 in
theorem ok_X12_quality : ∀ q ∈ tb_X12_quality, xChks mX12_quality q.1 q.2 = true := by decide +kernel
theorem nX12_quality : xNa mX12_quality 0 := by delta xNa; decide +kernel
set_option maxHeartbeats 4000000 in
set_option maxRecDepth 100000 in
theorem s_X12_quality (E : xE) (a : Nat) (h0 h1 h2 h3 h4 : Int32)  (o : xO) (ho : .inl (some (.int (lQ h2 h1)), [(a, .inr (12, [.int h0, .int h1, .int h2, .int h3, .int h4]))]) = o) : Sp E mX12_quality (xRm 1 20 0 0) [.ref a] [(a, .inr (12, [.int h0, .int h1, .int h2, .int h3, .int h4]))] o := by
  refine Sp.of oX12_quality (L := [some (.ref a)]) rfl rfl (Nat.le_of_ble_eq_true rfl) (show BdP E mX12_quality (xRm 1 20 0 0) 0 0 (fun z => o = z) 0 [some (.ref a)] [] [(a, .inr (12, [.int h0, .int h1, .int h2, .int h3, .int h4]))] 0 0 from ?_)
  refine Bd.seg ok_X12_quality 0 [0, 0] rfl (And.intro (And.intro rfl rfl) (And.intro (And.intro rfl rfl) (show BdP E mX12_quality (xRm 1 20 0 0) 0 0 (fun z => o = z) 16 [some (.ref a)] [.int (h1 - 80), .int 0, .int (100 - h2), .int 0] [(a, .inr (12, [.int h0, .int h1, .int h2, .int h3, .int h4]))] 0 0 from ?_)))
  refine Bd.mmax (xm6 (n := 100) rfl rfl) (xdec ok_X12_quality 1 rfl) ⟨(Nat.le_of_ble_eq_true rfl), (Nat.le_of_ble_eq_true rfl), (Nat.le_of_ble_eq_true rfl), (Nat.le_of_ble_eq_true rfl)⟩ ?_
  show BdP E mX12_quality (xRm 1 20 0 0) 0 0 (fun z => o = z) 19 [some (.ref a)] [.int (if 0 < h1 - 80 then h1 - 80 else 0), .int (100 - h2), .int 0] [(a, .inr (12, [.int h0, .int h1, .int h2, .int h3, .int h4]))] 0 0
  refine Bd.seg ok_X12_quality 2 [] rfl (And.intro (by decide) (show BdP E mX12_quality (xRm 1 20 0 0) 0 0 (fun z => o = z) 22 [some (.ref a)] [.int ((100 - h2) - ((if 0 < h1 - 80 then h1 - 80 else 0) / 2)), .int 0] [(a, .inr (12, [.int h0, .int h1, .int h2, .int h3, .int h4]))] 0 0 from ?_))
  refine Bd.mmax (xm6 (n := 100) rfl rfl) (xdec ok_X12_quality 3 rfl) ⟨(Nat.le_of_ble_eq_true rfl), (Nat.le_of_ble_eq_true rfl), (Nat.le_of_ble_eq_true rfl), (Nat.le_of_ble_eq_true rfl)⟩ ?_
  show BdP E mX12_quality (xRm 1 20 0 0) 0 0 (fun z => o = z) 25 [some (.ref a)] [.int (lQ h2 h1)] [(a, .inr (12, [.int h0, .int h1, .int h2, .int h3, .int h4]))] 0 0
  refine Bd.seg ok_X12_quality 4 [] rfl (And.intro (And.intro ho.symm (And.intro (Nat.le_of_ble_eq_true rfl) (Nat.le_of_ble_eq_true rfl))) True.intro)
def tb_X12_price : List (Nat × List xI) := [(0, [(.aload_n 0, [], 0), (.getfield 7, [12, 0], 0), (.aload_n 0, [], 0)]), (5, [(.invokevirtual 25, [], 0)]), (8, [(.imul, [], 0), (.bipush 10, [], 10), (.idiv, [], 0), (.ireturn, [], 0)])]
set_option maxRecDepth 100000 in
theorem ok_X12_price : ∀ q ∈ tb_X12_price, xChks mX12_price q.1 q.2 = true := by decide +kernel
theorem nX12_price : xNa mX12_price 0 := by delta xNa; decide +kernel
set_option maxHeartbeats 4000000 in
set_option maxRecDepth 100000 in
theorem s_X12_price (E : xE) (a : Nat) (h0 h1 h2 h3 h4 : Int32)  (o : xO) (ho : .inl (some (.int (h0 * lQ h2 h1 / 10)), [(a, .inr (12, [.int h0, .int h1, .int h2, .int h3, .int h4]))]) = o) : Sp E mX12_price (xRm 2 40 0 0) [.ref a] [(a, .inr (12, [.int h0, .int h1, .int h2, .int h3, .int h4]))] o := by
  refine Sp.of oX12_price (L := [some (.ref a)]) rfl rfl (Nat.le_of_ble_eq_true rfl) (show BdP E mX12_price (xRm 2 40 0 0) 0 0 (fun z => o = z) 0 [some (.ref a)] [] [(a, .inr (12, [.int h0, .int h1, .int h2, .int h3, .int h4]))] 0 0 from ?_)
  refine Bd.seg ok_X12_price 0 [0] rfl (And.intro (And.intro rfl rfl) (show BdP E mX12_price (xRm 2 40 0 0) 0 0 (fun z => o = z) 5 [some (.ref a)] [.ref a, .int h0] [(a, .inr (12, [.int h0, .int h1, .int h2, .int h3, .int h4]))] 0 0 from ?_))
  refine Bd.callVr oX12_quality vX12_quality nX12_quality k12_25 (xdec ok_X12_price 1 rfl) (As := []) (rest := [.int h0]) (s_X12_quality E a h0 h1 h2 h3 h4 _ rfl) ⟨(Nat.le_of_ble_eq_true rfl), (Nat.le_of_ble_eq_true rfl)⟩ rfl (Nat.le_of_ble_eq_true rfl) [0] (by decide) rfl 0 rfl rfl rfl ⟨(Nat.le_of_ble_eq_true rfl), (Nat.le_of_ble_eq_true rfl)⟩ rfl ?_
  show BdP E mX12_price (xRm 2 40 0 0) 0 0 (fun z => o = z) 8 [some (.ref a)] [.int (lQ h2 h1), .int h0] [(a, .inr (12, [.int h0, .int h1, .int h2, .int h3, .int h4]))] 0 0
  refine Bd.seg ok_X12_price 2 [] rfl (And.intro (by decide) (And.intro (And.intro ho.symm (And.intro (Nat.le_of_ble_eq_true rfl) (Nat.le_of_ble_eq_true rfl))) True.intro))
def lGl (st mo he : Int32) : Int32 := if st = 0 ∧ mo < 60 ∧ 50 ≤ he then 1 else 0
def tb_X12_glows : List (Nat × List xI) := [(0, [(.aload_n 0, [], 0), (.getfield 29, [12, 3], 0), (.ifCond .ne 25, [], 0)]), (29, [(.iconst 0, [], 0), (.ireturn, [], 0)]), (7, [(.aload_n 0, [], 0), (.getfield 13, [12, 1], 0), (.bipush 60, [], 60), (.if_icmp .ge 16, [], 0)]), (16, [(.aload_n 0, [], 0), (.getfield 32, [12, 4], 0), (.bipush 50, [], 50), (.if_icmp .lt 7, [], 0)]), (25, [(.iconst 1, [], 1), (.goto 4, [], 0)]), (30, [(.ireturn, [], 0)])]
set_option maxRecDepth 100000 in
theorem ok_X12_glows : ∀ q ∈ tb_X12_glows, xChks mX12_glows q.1 q.2 = true := by decide +kernel
theorem nX12_glows : xNa mX12_glows 0 := by delta xNa; decide +kernel
set_option maxHeartbeats 4000000 in
set_option maxRecDepth 100000 in
theorem s_X12_glows (E : xE) (a : Nat) (h0 h1 h2 h3 h4 : Int32)  (o : xO) (ho : .inl (some (.int (lGl h3 h1 h4)), [(a, .inr (12, [.int h0, .int h1, .int h2, .int h3, .int h4]))]) = o) : Sp E mX12_glows (xRm 0 0 0 0) [.ref a] [(a, .inr (12, [.int h0, .int h1, .int h2, .int h3, .int h4]))] o := by
  refine Sp.of oX12_glows (L := [some (.ref a)]) rfl rfl (Nat.le_of_ble_eq_true rfl) (show BdP E mX12_glows (xRm 0 0 0 0) 0 0 (fun z => o = z) 0 [some (.ref a)] [] [(a, .inr (12, [.int h0, .int h1, .int h2, .int h3, .int h4]))] 0 0 from ?_)
  refine Bd.seg ok_X12_glows 0 [0] rfl (And.intro (And.intro rfl rfl) (And.intro (fun c1 => (show BdP E mX12_glows (xRm 0 0 0 0) 0 0 (fun z => o = z) 29 [some (.ref a)] [] [(a, .inr (12, [.int h0, .int h1, .int h2, .int h3, .int h4]))] 0 0 from ?_)) (fun c1 => (show BdP E mX12_glows (xRm 0 0 0 0) 0 0 (fun z => o = z) 7 [some (.ref a)] [] [(a, .inr (12, [.int h0, .int h1, .int h2, .int h3, .int h4]))] 0 0 from ?_))))
  · refine Bd.seg ok_X12_glows 1 [] rfl (And.intro (And.intro (by rw [← ho, lGl, if_neg (fun q => c1 q.1)]) (And.intro (Nat.le_of_ble_eq_true rfl) (Nat.le_of_ble_eq_true rfl))) rfl)
  · refine Bd.seg ok_X12_glows 2 [0] rfl (And.intro (And.intro rfl rfl) (And.intro (fun c2 => (show BdP E mX12_glows (xRm 0 0 0 0) 0 0 (fun z => o = z) 29 [some (.ref a)] [] [(a, .inr (12, [.int h0, .int h1, .int h2, .int h3, .int h4]))] 0 0 from ?_)) (fun c2 => (show BdP E mX12_glows (xRm 0 0 0 0) 0 0 (fun z => o = z) 16 [some (.ref a)] [] [(a, .inr (12, [.int h0, .int h1, .int h2, .int h3, .int h4]))] 0 0 from ?_))))
    · refine Bd.seg ok_X12_glows 1 [] rfl (And.intro (And.intro (by rw [← ho, lGl, if_neg (fun q => absurd q.2.1 (Int32.not_lt.mpr c2))]) (And.intro (Nat.le_of_ble_eq_true rfl) (Nat.le_of_ble_eq_true rfl))) rfl)
    · refine Bd.seg ok_X12_glows 3 [0] rfl (And.intro (And.intro rfl rfl) (And.intro (fun c3 => (show BdP E mX12_glows (xRm 0 0 0 0) 0 0 (fun z => o = z) 29 [some (.ref a)] [] [(a, .inr (12, [.int h0, .int h1, .int h2, .int h3, .int h4]))] 0 0 from ?_)) (fun c3 => (show BdP E mX12_glows (xRm 0 0 0 0) 0 0 (fun z => o = z) 25 [some (.ref a)] [] [(a, .inr (12, [.int h0, .int h1, .int h2, .int h3, .int h4]))] 0 0 from ?_))))
      · refine Bd.seg ok_X12_glows 1 [] rfl (And.intro (And.intro (by rw [← ho, lGl, if_neg (fun q => absurd c3 (Int32.not_lt.mpr q.2.2))]) (And.intro (Nat.le_of_ble_eq_true rfl) (Nat.le_of_ble_eq_true rfl))) rfl)
      · refine Bd.seg ok_X12_glows 4 [] rfl (show BdP E mX12_glows (xRm 0 0 0 0) 0 0 (fun z => o = z) 30 [some (.ref a)] [.int 1] [(a, .inr (12, [.int h0, .int h1, .int h2, .int h3, .int h4]))] 0 0 from ?_)
        refine Bd.seg ok_X12_glows 5 [] rfl (And.intro (And.intro (by rw [← ho, lGl, if_pos ⟨c1, Int32.not_le.mp c2, Int32.not_lt.mp c3⟩]) (And.intro (Nat.le_of_ble_eq_true rfl) (Nat.le_of_ble_eq_true rfl))) rfl)
