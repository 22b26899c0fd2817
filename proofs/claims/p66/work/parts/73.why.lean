/-! the list in the law's world; draw, why -/
theorem xset_same : ∀ (is : List Nat) (M Mc : va_W), is.map (fun i => M[i]?) = Mc.map some → xset M is Mc = M := by
  intro is
  induction is with
  | nil => intro M Mc h; cases Mc with
    | nil => rfl
    | cons c cs => cases h
  | cons i is ih =>
    intro M Mc h
    cases Mc with
    | nil => cases h
    | cons c cs =>
      simp only [List.map_cons, List.cons.injEq] at h
      have e : M.set i c = M := by
        apply List.ext_getElem?
        intro k
        rw [List.getElem?_set]
        by_cases hk : i = k
        · subst hk
          rw [if_pos rfl, h.1]
          have : i < M.length := (List.getElem?_eq_some_iff.mp h.1).1
          rw [if_pos this]
        · rw [if_neg hk]
      rw [xset, e]
      exact ih M cs h.2
theorem xput_same {is : List Nat} {M Mc : va_W} (h : is.map (fun i => M[i]?) = Mc.map some) : xput M is Mc = M := by
  have hl : is.length = Mc.length := by simpa using congrArg List.length h
  unfold xput
  rw [xset_same is M Mc h, List.drop_of_length_le (by omega), List.append_nil]
section BLST
variable {E : xE} {y : xM} {R : Room} {mc ms : Nat} {O : xO → Prop} {pc : Nat} {L : xL} {st : List Value} {M : va_W} {ck sk : Nat}
/-- through List, on an ArrayList, what it looks at isn't changed -/
theorem Bd.callFi {x : MethodName} {y' : xM} {R' : Room} {As rest : List Value} {b cnt : Nat} {Mc : va_W} {v0 : Option Value} {idx : Nat} (hy : xMok y') (hlk : Cond.methodLink (xCn y.2.2.2.2) idx x ∈ xAll) (hfw : (x, y'.1) ∈ xFW) (hsel : Cond.selects "java/util/ArrayList" x y'.1 ∈ xAll) (hin : Cond.instanceMethod y'.1 ∈ xAll)
    (hn : (parseMethodDescriptor x.desc).map (fun d => d.parameters.length) = some As.length) (hd : decode y.2.1 pc = .ok (.invokeinterface idx cnt, 5))
    (hsp : Sp E y' R' (.ref b :: As) Mc (.inl (v0, Mc))) (hR : R'.frames + 1 ≤ R.frames ∧ 8 + (y'.2.2.1 + 11) + R'.locals ≤ R.locals) (hst : st = As.reverse ++ .ref b :: rest) (hcat : (rest.map fun v => v.category).sum ≤ 8)
    (is : List Nat) (hnd : va_nd is = true) (hC : is.map (fun i => M[i]?) = Mc.map some) (q0 : Nat) {fs : List Value} (hb : Mc[q0]? = some (b, .inr (16, fs))) (hroom : ck + R'.cells ≤ R.cells ∧ sk + R'.slots ≤ R.slots)
    (kk : BdP E y R mc ms O (pc + 5) L (v0.toList ++ rest) M (ck + R'.cells) (sk + R'.slots)) : BdP E y R mc ms O pc L st M ck sk := by
  subst hst
  intro p l e s m args below meth c A H locs ls hF hr hx hP hD hS hl hLn
  obtain ⟨hexec, hl0, hbt, hml, hown, hts, hlocks, hnm, hA, hKK, hG⟩ := id hF
  obtain ⟨⟨hbl, hpre⟩, hAc, hPc⟩ := x_pre (As := .ref b :: As) hKK hG hP hD hS hA is hnd hC
  have hrec := va_recv (q := (RJx4a65c, TJx4a65c, 3)) hKK hPc rfl hb
  have hT : GoodIn xAll (va_wsF (xCn y.2.2.2.2) idx "java/util/ArrayList" x y'.1 (xWs y')) := by
    intro w h
    rcases List.mem_append.mp h with h | h
    · simp only [List.mem_cons, List.not_mem_nil, or_false] at h
      rcases h with rfl | rfl | rfl | rfl
      · exact xGood _ hlk
      · exact xGood _ hsel
      · exact xGood _ hin
      · exact xGood _ hy.2.1
    · exact xWsGood hy w h
  have hmh := xFW_ok _ hfw
  have cw := va_cwF (R := R) (s := s) (args := args) (ret := y'.2.2.2.1) (bytes := y'.2.1) (maxL := y'.2.2.1) (rm := R') As.length hts hT rfl rfl rfl (hG.2.2.2.2.2.2.2.2.2.2 _ hfw) ⟨hmh.1, hmh.2, hn⟩ hR
  have hrun := va_runF (e := e) (below := below) (meth := meth) (As := As) (rest := rest) (g := F0 m pc ls (As.reverse ++ .ref b :: rest)) (locs := locs) (hKK.1 16 (RJx4a65c, TJx4a65c, 3) rfl).2 ⟨hexec, hbt, hml, hown, hts⟩ (x_met hsp l H.size hl0) cw ⟨hbl, hrec, hpre⟩ rfl rfl hl.1 rfl (lv_room hcat) hd hroom
  intro T hT2 X
  obtain ⟨v, st₀, t, T', L2, h0, X', hL, e1, e2, ⟨v', M', ho, hv, hP1, hD1, hF1⟩, stp⟩ := hrun T hT2 X
  cases hv; cases ho
  obtain ⟨k1, k2, k3⟩ := vx_keep h0 e1 hS (fun q _ h => hAc q h) hAc hL hF1
  obtain ⟨hP2, hD2⟩ := x_join (H1 := T'.heap) hP hD is hC (by rw [List.take_of_length_le]; have := congrArg List.length hC; simp only [List.length_map] at this; omega) k2 hAc (by rw [e1]; exact hP1) hD1
  rw [xput_same hC] at hP2 hD2
  obtain ⟨t2, a1, b1⟩ := kk p l e s m args below meth c A T'.heap (locs ++ L2) ls hF hr hx hP2 hD2 k3 hl hLn T' rfl X'
  exact ⟨t2, stp t2 a1, b1⟩
theorem xls (n : String) (d : String) : True := trivial
theorem Bd.lsize {idx cnt hs ed ns : Nat} {m : Int32} {rest : List Value} (q0 : Nat) (hM : M[q0]? = some (hs, .inr (16, [.int m, .ref ed, .int (nI ns)]))) (hlk : Cond.methodLink (xCn y.2.2.2.2) idx ⟨"java/util/List", "size", "()I"⟩ ∈ xAll) (hd : decode y.2.1 pc = .ok (.invokeinterface idx cnt, 5)) (hR : 1 ≤ R.frames ∧ 20 ≤ R.locals ∧ ck ≤ R.cells ∧ sk ≤ R.slots) (hcat : (rest.map fun v => v.category).sum ≤ 8)
    (kk : BdP E y R mc ms O (pc + 5) L (.int (nI ns) :: rest) M ck sk) : BdP E y R mc ms O pc L (.ref hs :: rest) M ck sk :=
  Bd.callFi (As := []) (Mc := [(hs, .inr (16, [.int m, .ref ed, .int (nI ns)]))]) (v0 := some (.int (nI ns))) oJx4a65c_size_8abf5 hlk (by decide +kernel) (xm5 (n := 219) rfl rfl) (xm5 (n := 221) rfl rfl) (by show (parseMethodDescriptor _).map (fun d => d.parameters.length) = some 0; decide +kernel) hd (s_Jx4a65c_size_8abf5 E hs ed m (nI ns) _ rfl) ⟨hR.1, hR.2.1⟩ rfl hcat [q0] (by simp [va_nd]) (by simp [hM]) 0 rfl ⟨hR.2.2.1, hR.2.2.2⟩ kk
theorem Bd.lempty {idx cnt hs ed ns : Nat} {m : Int32} {rest : List Value} (q0 : Nat) (hM : M[q0]? = some (hs, .inr (16, [.int m, .ref ed, .int (nI ns)]))) (hlk : Cond.methodLink (xCn y.2.2.2.2) idx ⟨"java/util/List", "isEmpty", "()Z"⟩ ∈ xAll) (hd : decode y.2.1 pc = .ok (.invokeinterface idx cnt, 5)) (hR : 1 ≤ R.frames ∧ 20 ≤ R.locals ∧ ck ≤ R.cells ∧ sk ≤ R.slots) (hcat : (rest.map fun v => v.category).sum ≤ 8)
    (kk : BdP E y R mc ms O (pc + 5) L (.int (if nI ns = 0 then 1 else 0) :: rest) M ck sk) : BdP E y R mc ms O pc L (.ref hs :: rest) M ck sk :=
  Bd.callFi (As := []) (Mc := [(hs, .inr (16, [.int m, .ref ed, .int (nI ns)]))]) (v0 := some (.int (if nI ns = 0 then 1 else 0))) oJx4a65c_isEmpty_aae02 hlk (by decide +kernel) (xm7 (n := 51) rfl rfl) (xm7 (n := 53) rfl rfl) (by show (parseMethodDescriptor _).map (fun d => d.parameters.length) = some 0; decide +kernel) hd (s_Jx4a65c_isEmpty_aae02 E hs ed m (nI ns) _ rfl) ⟨hR.1, hR.2.1⟩ rfl hcat [q0] (by simp [va_nd]) (by simp [hM]) 0 rfl ⟨hR.2.2.1, hR.2.2.2⟩ kk
theorem Bd.lget {C X : va_W} {idx cnt hs ed ns cap k a : Nat} {m : Int32} {sl : Nat → Option Nat} {rest : List Value} (q0 n : Nat) (hM : C[q0]? = some (hs, .inr (16, [.int m, .ref ed, .int (nI ns)]))) (hn : C.length = n) (hnd : va_nd [q0, n] = true) (hk : sl k = some a) (hk1 : k < ns) (hc : ns ≤ cap) (hc2 : cap ≤ 60)
    (hlk : Cond.methodLink (xCn y.2.2.2.2) idx ⟨"java/util/List", "get", "(I)Ljava/lang/Object;"⟩ ∈ xAll) (hd : decode y.2.1 pc = .ok (.invokeinterface idx cnt, 5)) (hR : 3 ≤ R.frames ∧ 64 ≤ R.locals ∧ ck ≤ R.cells ∧ sk ≤ R.slots) (hcat : (rest.map fun v => v.category).sum ≤ 8)
    (kk : BdP E y R mc ms O (pc + 5) L (.ref a :: rest) (C ++ (alR E ed cap sl ++ X)) ck sk) : BdP E y R mc ms O pc L (.int (nI k) :: .ref hs :: rest) (C ++ (alR E ed cap sl ++ X)) ck sk := by
  rw [alR_pos E ed sl (by omega)] at kk ⊢
  have h0 : q0 < C.length := (List.getElem?_eq_some_iff.mp hM).1
  exact Bd.callFi (As := [.int (nI k)]) (Mc := [(hs, .inr (16, [.int m, .ref ed, .int (nI ns)])), (ed, .inl (E.2.1.2.1.2.2, cap, .inr (.inr (.inr (.inr sl)))))]) (v0 := some (.ref a)) oJx4a65c_get_915e3 hlk (by decide +kernel) (xm6 (n := 37) rfl rfl) (xm6 (n := 39) rfl rfl) (by show (parseMethodDescriptor _).map (fun d => d.parameters.length) = some 1; decide +kernel) hd (s_Jx4a65c_get_915e3 E hs ed ns cap k a m sl hk hk1 hc hc2 _ rfl) ⟨hR.1, hR.2.1⟩ rfl hcat [q0, n] hnd (by
    simp only [List.map_cons, List.map_nil]
    rw [List.getElem?_append_left h0, hM, ← hn, List.getElem?_append_right (Nat.le_refl _), Nat.sub_self]; rfl) 0 rfl ⟨hR.2.2.1, hR.2.2.2⟩ kk
theorem Bd.castP {C Q : va_W} {LP : List Nat} {G : Nat → List Value} {idx a : Nat} (ha : a ∈ LP) (hlk : Cond.classLink (xCn y.2.2.2.2) idx RX12 ∈ xAll) (hd : decode y.2.1 pc = .ok (.checkcast idx, 3)) (k : BdP E y R mc ms O (pc + 3) L (.ref a :: st) (C ++ (Q ++ hLd LP G)) ck sk) : BdP E y R mc ms O pc L (.ref a :: st) (C ++ (Q ++ hLd LP G)) ck sk := by
  obtain ⟨q, hq⟩ := hLd_in C Q G ha
  exact Bd.castH q hlk hq hd k
end BLST
theorem x_ushr8 (x : Int32) : ∃ k : Nat, k < 2 ^ 24 ∧ (Int32.toUInt32 x >>> (Int32.toUInt32 8 &&& Int32.toUInt32 31)).toInt32 = nI k := by
  have h := pk_ushr x 8 8 (by decide)
  generalize (Int32.toUInt32 x >>> (Int32.toUInt32 8 &&& Int32.toUInt32 31)).toInt32 = w at h
  have hx : x.toBitVec.toNat < 2 ^ 32 := x.toBitVec.isLt
  refine ⟨w.toBitVec.toNat, by omega, ?_⟩
  have hn : w.toBitVec.toNat < 2 ^ 32 := w.toBitVec.isLt
  apply Int32.toBitVec_inj.mp
  apply BitVec.eq_of_toNat_eq
  rw [pk_tn hn]
def tb_L_draw : List (Nat × List xI) := [(0, [(.aload_n 0, [], 0), (.iconst 0, [], 0), (.aload_n 0, [], 0), (.iconst 0, [], 0)]), (4, [(.iaload, [], 0)]), (5, [(.ldc 36, [], 1664525), (.imul, [], 0), (.ldc 37, [], 1013904223), (.iadd, [], 0)]), (11, [(.iastore, [], 0)]), (12, [(.aload_n 0, [], 0), (.iconst 0, [], 0)]), (14, [(.iaload, [], 0)]), (15, [(.bipush 8, [], 8), (.iushr, [], 0)]), (18, [(.iload_n 1, [], 0)]), (19, [(.irem, [], 0)]), (20, [(.ireturn, [], 0)])]
set_option maxRecDepth 100000 in
theorem ok_L_draw : ∀ q ∈ tb_L_draw, xChks mL_draw q.1 q.2 = true := by decide +kernel
theorem nL_draw : xNa mL_draw 2 := by delta xNa; decide +kernel
set_option maxHeartbeats 4000000 in
set_option maxRecDepth 100000 in
theorem s_L_draw (E : xE) (gd mm : Nat) (gv : Nat → Int32) (hm : 0 < mm) (hm2 : mm < 1000) : SpP E mL_draw (xRm 0 0 0 0) [.ref gd, .int (nI mm)] [(gd, .inl (E.2.1.1, 1, .inl gv))] (fun z => ∃ (r : Nat) (g2 : Nat → Int32), r < mm ∧ z = .inl (some (.int (nI r)), [(gd, .inl (E.2.1.1, 1, .inl g2))])) := by
  refine Sp.of oL_draw (L := [some (.ref gd), some (.int (nI mm))]) rfl rfl (Nat.le_of_ble_eq_true rfl) (show BdP E mL_draw (xRm 0 0 0 0) 0 0 (fun z => ∃ (r : Nat) (g2 : Nat → Int32), r < mm ∧ z = .inl (some (.int (nI r)), [(gd, .inl (E.2.1.1, 1, .inl g2))])) 0 [some (.ref gd), some (.int (nI mm))] [] [(gd, .inl (E.2.1.1, 1, .inl gv))] 0 0 from ?_)
  refine Bd.seg ok_L_draw 0 [] rfl (show BdP E mL_draw (xRm 0 0 0 0) 0 0 (fun z => ∃ (r : Nat) (g2 : Nat → Int32), r < mm ∧ z = .inl (some (.int (nI r)), [(gd, .inl (E.2.1.1, 1, .inl g2))])) 4 [some (.ref gd), some (.int (nI mm))] [.int 0, .ref gd, .int 0, .ref gd] [(gd, .inl (E.2.1.1, 1, .inl gv))] 0 0 from ?_)
  refine Bd.iald 0 rfl (vp_in_nI (show 0 < 1 by decide) (by decide)) (xdec ok_L_draw 1 rfl) ?_
  show BdP E mL_draw (xRm 0 0 0 0) 0 0 (fun z => ∃ (r : Nat) (g2 : Nat → Int32), r < mm ∧ z = .inl (some (.int (nI r)), [(gd, .inl (E.2.1.1, 1, .inl g2))])) 5 [some (.ref gd), some (.int (nI mm))] [.int (gv (Int32.toNatClampNeg 0)), .int 0, .ref gd] [(gd, .inl (E.2.1.1, 1, .inl gv))] 0 0
  refine Bd.seg ok_L_draw 2 [] rfl (show BdP E mL_draw (xRm 0 0 0 0) 0 0 (fun z => ∃ (r : Nat) (g2 : Nat → Int32), r < mm ∧ z = .inl (some (.int (nI r)), [(gd, .inl (E.2.1.1, 1, .inl g2))])) 11 [some (.ref gd), some (.int (nI mm))] [.int (((gv (Int32.toNatClampNeg 0)) * 1664525) + 1013904223), .int 0, .ref gd] [(gd, .inl (E.2.1.1, 1, .inl gv))] 0 0 from ?_)
  refine Bd.iast 0 rfl (vp_in_nI (show 0 < 1 by decide) (by decide)) (xdec ok_L_draw 3 rfl) ?_
  show BdP E mL_draw (xRm 0 0 0 0) 0 0 (fun z => ∃ (r : Nat) (g2 : Nat → Int32), r < mm ∧ z = .inl (some (.int (nI r)), [(gd, .inl (E.2.1.1, 1, .inl g2))])) 12 [some (.ref gd), some (.int (nI mm))] [] [(gd, .inl (E.2.1.1, 1, .inl (upd gv (Int32.toNatClampNeg 0) ((gv (Int32.toNatClampNeg 0)) * 1664525 + 1013904223))))] 0 0
  refine Bd.seg ok_L_draw 4 [] rfl (show BdP E mL_draw (xRm 0 0 0 0) 0 0 (fun z => ∃ (r : Nat) (g2 : Nat → Int32), r < mm ∧ z = .inl (some (.int (nI r)), [(gd, .inl (E.2.1.1, 1, .inl g2))])) 14 [some (.ref gd), some (.int (nI mm))] [.int 0, .ref gd] [(gd, .inl (E.2.1.1, 1, .inl (upd gv (Int32.toNatClampNeg 0) ((gv (Int32.toNatClampNeg 0)) * 1664525 + 1013904223))))] 0 0 from ?_)
  refine Bd.iald 0 rfl (vp_in_nI (show 0 < 1 by decide) (by decide)) (xdec ok_L_draw 5 rfl) ?_
  generalize upd gv (Int32.toNatClampNeg 0) ((gv (Int32.toNatClampNeg 0)) * 1664525 + 1013904223) = g2
  generalize g2 (Int32.toNatClampNeg 0) = x0
  show BdP E mL_draw (xRm 0 0 0 0) 0 0 (fun z => ∃ (r : Nat) (g2 : Nat → Int32), r < mm ∧ z = .inl (some (.int (nI r)), [(gd, .inl (E.2.1.1, 1, .inl g2))])) 15 [some (.ref gd), some (.int (nI mm))] [.int x0] [(gd, .inl (E.2.1.1, 1, .inl g2))] 0 0
  refine Bd.seg ok_L_draw 6 [] rfl (show BdP E mL_draw (xRm 0 0 0 0) 0 0 (fun z => ∃ (r : Nat) (g2 : Nat → Int32), r < mm ∧ z = .inl (some (.int (nI r)), [(gd, .inl (E.2.1.1, 1, .inl g2))])) 18 [some (.ref gd), some (.int (nI mm))] [.int (Int32.toUInt32 x0 >>> (Int32.toUInt32 8 &&& Int32.toUInt32 31)).toInt32] [(gd, .inl (E.2.1.1, 1, .inl g2))] 0 0 from ?_)
  obtain ⟨k, hk, ek⟩ := x_ushr8 x0
  rw [ek]
  show BdP E mL_draw (xRm 0 0 0 0) 0 0 (fun z => ∃ (r : Nat) (g2 : Nat → Int32), r < mm ∧ z = .inl (some (.int (nI r)), [(gd, .inl (E.2.1.1, 1, .inl g2))])) 18 [some (.ref gd), some (.int (nI mm))] [.int (nI k)] [(gd, .inl (E.2.1.1, 1, .inl g2))] 0 0
  refine Bd.seg ok_L_draw 7 [] rfl (show BdP E mL_draw (xRm 0 0 0 0) 0 0 (fun z => ∃ (r : Nat) (g2 : Nat → Int32), r < mm ∧ z = .inl (some (.int (nI r)), [(gd, .inl (E.2.1.1, 1, .inl g2))])) 19 [some (.ref gd), some (.int (nI mm))] [.int (nI mm), .int (nI k)] [(gd, .inl (E.2.1.1, 1, .inl g2))] 0 0 from ?_)
  refine Bd.irem (nI_ne0 hm (by omega)) (xdec ok_L_draw 8 rfl) ?_
  rw [pk_rem (by omega) hm (by omega)]
  show BdP E mL_draw (xRm 0 0 0 0) 0 0 (fun z => ∃ (r : Nat) (g2 : Nat → Int32), r < mm ∧ z = .inl (some (.int (nI r)), [(gd, .inl (E.2.1.1, 1, .inl g2))])) 20 [some (.ref gd), some (.int (nI mm))] [.int (nI (k % mm))] [(gd, .inl (E.2.1.1, 1, .inl g2))] 0 0
  refine Bd.seg ok_L_draw 9 [] rfl (And.intro (And.intro ⟨k % mm, g2, Nat.mod_lt _ hm, rfl⟩ (And.intro (Nat.le_of_ble_eq_true rfl) (Nat.le_of_ble_eq_true rfl))) True.intro)
def lWhy (ns : Nat) (s : Nat → Int32) (i : Nat) : Int32 := if s (15 + 4 * i) = 0 then 1 else if i = 0 then (if s 16 ≤ 100 then (if ns = 20 then 4 else 0) else 3) else (if s (15 + 4 * (i - 1)) = 0 then 0 else 2)
def tb_L_why : List (Nat × List xI) := [(0, [(.aload_n 0, [], 0), (.getfield 69, [13, 1], 0), (.iload_n 1, [], 0)]), (5, [(.aaload, [], 0)]), (6, [(.ifnonnull 5, [], 0)]), (9, [(.iconst 1, [], 1), (.ireturn, [], 0)]), (11, [(.iload_n 1, [], 0), (.ifCond .le 20, [], 0)]), (32, [(.aload_n 0, [], 0), (.getfield 69, [13, 1], 0), (.iconst 0, [], 0)]), (37, [(.aaload, [], 0)]), (41, [(.bipush 100, [], 100), (.if_icmp .le 7, [], 0)]), (46, [(.iconst 3, [], 3), (.goto 22, [], 0)]), (69, [(.ireturn, [], 0)]), (50, [(.aload_n 0, [], 0), (.getfield 10, [13, 0], 0)]), (59, [(.bipush 20, [], 20), (.if_icmp .ne 7, [], 0)]), (68, [(.iconst 0, [], 0), (.ireturn, [], 0)]), (64, [(.iconst 4, [], 4), (.goto 4, [], 0)]), (15, [(.aload_n 0, [], 0), (.getfield 69, [13, 1], 0), (.iload_n 1, [], 0), (.iconst 1, [], 1), (.isub, [], 0)]), (22, [(.aaload, [], 0)]), (23, [(.ifnull 7, [], 0)]), (30, [(.iconst 0, [], 0), (.ireturn, [], 0)]), (26, [(.iconst 2, [], 2), (.goto 4, [], 0)]), (31, [(.ireturn, [], 0)])]
set_option maxRecDepth 100000 in
theorem ok_L_why : ∀ q ∈ tb_L_why, xChks mL_why q.1 q.2 = true := by decide +kernel
theorem nL_why : xNa mL_why 1 := by delta xNa; decide +kernel
set_option maxHeartbeats 4000000 in
set_option maxRecDepth 100000 in
theorem s_L_why (E : xE) (A : Nat → Nat) (s : Nat → Int32) (nf ns ed cap : Nat) (m : Int32) (fl sk : Nat → Option Nat) (lim : Nat → Int32) (LP : List Nat) (hv : Nat → Nat → Int32) (i : Nat) (hH : LH E nf ns ed cap fl sk lim LP hv s) (hi : i < nf) (o : xO) (ho : .inl (some (.int (lWhy ns s i)), ([((A 0), .inr (13, [.ref (A 1), .ref (A 2), .ref (A 3), .int (s 0), .int (s 1), .int (s 2), .int (s 3), .int (s 4), .int (s 5), .int (s 12), .int (s 13), .int (s 8), .int (s 11)])), ((A 2), .inl (E.2.1.2.1.2.1, nf, .inr (.inr (.inr (.inr fl))))), ((A 3), .inl (E.2.1.1, nf, .inl lim)), ((A 1), .inr (16, [.int m, .ref ed, .int (nI ns)]))] ++ (alR E ed cap sk ++ hLd LP (hG hv)))) = o) : Sp E mL_why (xRm 1 20 0 0) [.ref (A 0), .int (nI i)] ([((A 0), .inr (13, [.ref (A 1), .ref (A 2), .ref (A 3), .int (s 0), .int (s 1), .int (s 2), .int (s 3), .int (s 4), .int (s 5), .int (s 12), .int (s 13), .int (s 8), .int (s 11)])), ((A 2), .inl (E.2.1.2.1.2.1, nf, .inr (.inr (.inr (.inr fl))))), ((A 3), .inl (E.2.1.1, nf, .inl lim)), ((A 1), .inr (16, [.int m, .ref ed, .int (nI ns)]))] ++ (alR E ed cap sk ++ hLd LP (hG hv))) o := by
  refine Sp.of oL_why (L := [some (.ref (A 0)), some (.int (nI i))]) rfl rfl (Nat.le_of_ble_eq_true rfl) (show BdP E mL_why (xRm 1 20 0 0) 0 0 (fun z => o = z) 0 [some (.ref (A 0)), some (.int (nI i))] [] ([((A 0), .inr (13, [.ref (A 1), .ref (A 2), .ref (A 3), .int (s 0), .int (s 1), .int (s 2), .int (s 3), .int (s 4), .int (s 5), .int (s 12), .int (s 13), .int (s 8), .int (s 11)])), ((A 2), .inl (E.2.1.2.1.2.1, nf, .inr (.inr (.inr (.inr fl))))), ((A 3), .inl (E.2.1.1, nf, .inl lim)), ((A 1), .inr (16, [.int m, .ref ed, .int (nI ns)]))] ++ (alR E ed cap sk ++ hLd LP (hG hv))) 0 0 from ?_)
  obtain ⟨⟨hn1, hn4⟩, hlim, hFl, hSk, hOw, hal, hns⟩ := id hH
  refine Bd.seg ok_L_why 0 [0] rfl (And.intro (And.intro rfl rfl) (show BdP E mL_why (xRm 1 20 0 0) 0 0 (fun z => o = z) 5 [some (.ref (A 0)), some (.int (nI i))] [.int (nI i), .ref (A 2)] ([((A 0), .inr (13, [.ref (A 1), .ref (A 2), .ref (A 3), .int (s 0), .int (s 1), .int (s 2), .int (s 3), .int (s 4), .int (s 5), .int (s 12), .int (s 13), .int (s 8), .int (s 11)])), ((A 2), .inl (E.2.1.2.1.2.1, nf, .inr (.inr (.inr (.inr fl))))), ((A 3), .inl (E.2.1.1, nf, .inl lim)), ((A 1), .inr (16, [.int m, .ref ed, .int (nI ns)]))] ++ (alR E ed cap sk ++ hLd LP (hG hv))) 0 0 from ?_))
  refine Bd.hald 1 rfl (vp_in_nI hi (by omega)) (xdec ok_L_why 1 rfl) ?_
  rw [nI_clamp (n := i) (by omega)]
  rcases hFl i hi with ⟨g0, g1, g2, g3⟩ | ⟨a, g0, ga, gp, g1, g2, g3, g4, g5⟩
  · rw [g0]
    show BdP E mL_why (xRm 1 20 0 0) 0 0 (fun z => o = z) 6 [some (.ref (A 0)), some (.int (nI i))] [.null] ([((A 0), .inr (13, [.ref (A 1), .ref (A 2), .ref (A 3), .int (s 0), .int (s 1), .int (s 2), .int (s 3), .int (s 4), .int (s 5), .int (s 12), .int (s 13), .int (s 8), .int (s 11)])), ((A 2), .inl (E.2.1.2.1.2.1, nf, .inr (.inr (.inr (.inr fl))))), ((A 3), .inl (E.2.1.1, nf, .inl lim)), ((A 1), .inr (16, [.int m, .ref ed, .int (nI ns)]))] ++ (alR E ed cap sk ++ hLd LP (hG hv))) 0 0
    refine Bd.seg ok_L_why 2 [] rfl (show BdP E mL_why (xRm 1 20 0 0) 0 0 (fun z => o = z) 9 [some (.ref (A 0)), some (.int (nI i))] [] ([((A 0), .inr (13, [.ref (A 1), .ref (A 2), .ref (A 3), .int (s 0), .int (s 1), .int (s 2), .int (s 3), .int (s 4), .int (s 5), .int (s 12), .int (s 13), .int (s 8), .int (s 11)])), ((A 2), .inl (E.2.1.2.1.2.1, nf, .inr (.inr (.inr (.inr fl))))), ((A 3), .inl (E.2.1.1, nf, .inl lim)), ((A 1), .inr (16, [.int m, .ref ed, .int (nI ns)]))] ++ (alR E ed cap sk ++ hLd LP (hG hv))) 0 0 from ?_)
    refine Bd.seg ok_L_why 3 [] rfl (And.intro (And.intro (by rw [← ho, lWhy, if_pos g1]) (And.intro (Nat.le_of_ble_eq_true rfl) (Nat.le_of_ble_eq_true rfl))) True.intro)
  · rw [g0]
    show BdP E mL_why (xRm 1 20 0 0) 0 0 (fun z => o = z) 6 [some (.ref (A 0)), some (.int (nI i))] [.ref a] ([((A 0), .inr (13, [.ref (A 1), .ref (A 2), .ref (A 3), .int (s 0), .int (s 1), .int (s 2), .int (s 3), .int (s 4), .int (s 5), .int (s 12), .int (s 13), .int (s 8), .int (s 11)])), ((A 2), .inl (E.2.1.2.1.2.1, nf, .inr (.inr (.inr (.inr fl))))), ((A 3), .inl (E.2.1.1, nf, .inl lim)), ((A 1), .inr (16, [.int m, .ref ed, .int (nI ns)]))] ++ (alR E ed cap sk ++ hLd LP (hG hv))) 0 0
    refine Bd.seg ok_L_why 2 [] rfl (show BdP E mL_why (xRm 1 20 0 0) 0 0 (fun z => o = z) 11 [some (.ref (A 0)), some (.int (nI i))] [] ([((A 0), .inr (13, [.ref (A 1), .ref (A 2), .ref (A 3), .int (s 0), .int (s 1), .int (s 2), .int (s 3), .int (s 4), .int (s 5), .int (s 12), .int (s 13), .int (s 8), .int (s 11)])), ((A 2), .inl (E.2.1.2.1.2.1, nf, .inr (.inr (.inr (.inr fl))))), ((A 3), .inl (E.2.1.1, nf, .inl lim)), ((A 1), .inr (16, [.int m, .ref ed, .int (nI ns)]))] ++ (alR E ed cap sk ++ hLd LP (hG hv))) 0 0 from ?_)
    have gn : ¬ s (15 + 4 * i) = 0 := fun q => by rw [q] at gp; exact absurd gp (by decide)
    refine Bd.seg ok_L_why 4 [] rfl (And.intro (fun c1 => (show BdP E mL_why (xRm 1 20 0 0) 0 0 (fun z => o = z) 32 [some (.ref (A 0)), some (.int (nI i))] [] ([((A 0), .inr (13, [.ref (A 1), .ref (A 2), .ref (A 3), .int (s 0), .int (s 1), .int (s 2), .int (s 3), .int (s 4), .int (s 5), .int (s 12), .int (s 13), .int (s 8), .int (s 11)])), ((A 2), .inl (E.2.1.2.1.2.1, nf, .inr (.inr (.inr (.inr fl))))), ((A 3), .inl (E.2.1.1, nf, .inl lim)), ((A 1), .inr (16, [.int m, .ref ed, .int (nI ns)]))] ++ (alR E ed cap sk ++ hLd LP (hG hv))) 0 0 from ?_)) (fun c1 => (show BdP E mL_why (xRm 1 20 0 0) 0 0 (fun z => o = z) 15 [some (.ref (A 0)), some (.int (nI i))] [] ([((A 0), .inr (13, [.ref (A 1), .ref (A 2), .ref (A 3), .int (s 0), .int (s 1), .int (s 2), .int (s 3), .int (s 4), .int (s 5), .int (s 12), .int (s 13), .int (s 8), .int (s 11)])), ((A 2), .inl (E.2.1.2.1.2.1, nf, .inr (.inr (.inr (.inr fl))))), ((A 3), .inl (E.2.1.1, nf, .inl lim)), ((A 1), .inr (16, [.int m, .ref ed, .int (nI ns)]))] ++ (alR E ed cap sk ++ hLd LP (hG hv))) 0 0 from ?_)))
    · obtain rfl : i = 0 := by have := (nI_leI (a := i) (b := 0) (by omega) (by decide)).mp c1; omega
      refine Bd.seg ok_L_why 5 [0] rfl (And.intro (And.intro rfl rfl) (show BdP E mL_why (xRm 1 20 0 0) 0 0 (fun z => o = z) 37 [some (.ref (A 0)), some (.int (nI 0))] [.int 0, .ref (A 2)] ([((A 0), .inr (13, [.ref (A 1), .ref (A 2), .ref (A 3), .int (s 0), .int (s 1), .int (s 2), .int (s 3), .int (s 4), .int (s 5), .int (s 12), .int (s 13), .int (s 8), .int (s 11)])), ((A 2), .inl (E.2.1.2.1.2.1, nf, .inr (.inr (.inr (.inr fl))))), ((A 3), .inl (E.2.1.1, nf, .inl lim)), ((A 1), .inr (16, [.int m, .ref ed, .int (nI ns)]))] ++ (alR E ed cap sk ++ hLd LP (hG hv))) 0 0 from ?_))
      refine Bd.hald 1 rfl (vp_in_nI hi (by omega)) (xdec ok_L_why 6 rfl) ?_
      rw [tnz, g0]
      refine Bd.getP (idx := 73) 1 (by decide) ga (by decide +kernel) (by decide +kernel) ?_
      rw [g2]
      show BdP E mL_why (xRm 1 20 0 0) 0 0 (fun z => o = z) 41 [some (.ref (A 0)), some (.int (nI 0))] [.int (s 16)] ([((A 0), .inr (13, [.ref (A 1), .ref (A 2), .ref (A 3), .int (s 0), .int (s 1), .int (s 2), .int (s 3), .int (s 4), .int (s 5), .int (s 12), .int (s 13), .int (s 8), .int (s 11)])), ((A 2), .inl (E.2.1.2.1.2.1, nf, .inr (.inr (.inr (.inr fl))))), ((A 3), .inl (E.2.1.1, nf, .inl lim)), ((A 1), .inr (16, [.int m, .ref ed, .int (nI ns)]))] ++ (alR E ed cap sk ++ hLd LP (hG hv))) 0 0
      refine Bd.seg ok_L_why 7 [] rfl (And.intro (fun c2 => (show BdP E mL_why (xRm 1 20 0 0) 0 0 (fun z => o = z) 50 [some (.ref (A 0)), some (.int (nI 0))] [] ([((A 0), .inr (13, [.ref (A 1), .ref (A 2), .ref (A 3), .int (s 0), .int (s 1), .int (s 2), .int (s 3), .int (s 4), .int (s 5), .int (s 12), .int (s 13), .int (s 8), .int (s 11)])), ((A 2), .inl (E.2.1.2.1.2.1, nf, .inr (.inr (.inr (.inr fl))))), ((A 3), .inl (E.2.1.1, nf, .inl lim)), ((A 1), .inr (16, [.int m, .ref ed, .int (nI ns)]))] ++ (alR E ed cap sk ++ hLd LP (hG hv))) 0 0 from ?_)) (fun c2 => (show BdP E mL_why (xRm 1 20 0 0) 0 0 (fun z => o = z) 46 [some (.ref (A 0)), some (.int (nI 0))] [] ([((A 0), .inr (13, [.ref (A 1), .ref (A 2), .ref (A 3), .int (s 0), .int (s 1), .int (s 2), .int (s 3), .int (s 4), .int (s 5), .int (s 12), .int (s 13), .int (s 8), .int (s 11)])), ((A 2), .inl (E.2.1.2.1.2.1, nf, .inr (.inr (.inr (.inr fl))))), ((A 3), .inl (E.2.1.1, nf, .inl lim)), ((A 1), .inr (16, [.int m, .ref ed, .int (nI ns)]))] ++ (alR E ed cap sk ++ hLd LP (hG hv))) 0 0 from ?_)))
      · refine Bd.seg ok_L_why 10 [0] rfl (And.intro (And.intro rfl rfl) (show BdP E mL_why (xRm 1 20 0 0) 0 0 (fun z => o = z) 54 [some (.ref (A 0)), some (.int (nI 0))] [.ref (A 1)] ([((A 0), .inr (13, [.ref (A 1), .ref (A 2), .ref (A 3), .int (s 0), .int (s 1), .int (s 2), .int (s 3), .int (s 4), .int (s 5), .int (s 12), .int (s 13), .int (s 8), .int (s 11)])), ((A 2), .inl (E.2.1.2.1.2.1, nf, .inr (.inr (.inr (.inr fl))))), ((A 3), .inl (E.2.1.1, nf, .inl lim)), ((A 1), .inr (16, [.int m, .ref ed, .int (nI ns)]))] ++ (alR E ed cap sk ++ hLd LP (hG hv))) 0 0 from ?_))
        refine Bd.lsize (cnt := 1) 3 rfl (xm5 (n := 215) rfl rfl) (by decide +kernel) ⟨(Nat.le_of_ble_eq_true rfl), (Nat.le_of_ble_eq_true rfl), (Nat.le_of_ble_eq_true rfl), (Nat.le_of_ble_eq_true rfl)⟩ (Nat.le_of_ble_eq_true rfl) ?_
        show BdP E mL_why (xRm 1 20 0 0) 0 0 (fun z => o = z) 59 [some (.ref (A 0)), some (.int (nI 0))] [.int (nI ns)] ([((A 0), .inr (13, [.ref (A 1), .ref (A 2), .ref (A 3), .int (s 0), .int (s 1), .int (s 2), .int (s 3), .int (s 4), .int (s 5), .int (s 12), .int (s 13), .int (s 8), .int (s 11)])), ((A 2), .inl (E.2.1.2.1.2.1, nf, .inr (.inr (.inr (.inr fl))))), ((A 3), .inl (E.2.1.1, nf, .inl lim)), ((A 1), .inr (16, [.int m, .ref ed, .int (nI ns)]))] ++ (alR E ed cap sk ++ hLd LP (hG hv))) 0 0
        refine Bd.seg ok_L_why 11 [] rfl (And.intro (fun c3 => (show BdP E mL_why (xRm 1 20 0 0) 0 0 (fun z => o = z) 68 [some (.ref (A 0)), some (.int (nI 0))] [] ([((A 0), .inr (13, [.ref (A 1), .ref (A 2), .ref (A 3), .int (s 0), .int (s 1), .int (s 2), .int (s 3), .int (s 4), .int (s 5), .int (s 12), .int (s 13), .int (s 8), .int (s 11)])), ((A 2), .inl (E.2.1.2.1.2.1, nf, .inr (.inr (.inr (.inr fl))))), ((A 3), .inl (E.2.1.1, nf, .inl lim)), ((A 1), .inr (16, [.int m, .ref ed, .int (nI ns)]))] ++ (alR E ed cap sk ++ hLd LP (hG hv))) 0 0 from ?_)) (fun c3 => (show BdP E mL_why (xRm 1 20 0 0) 0 0 (fun z => o = z) 64 [some (.ref (A 0)), some (.int (nI 0))] [] ([((A 0), .inr (13, [.ref (A 1), .ref (A 2), .ref (A 3), .int (s 0), .int (s 1), .int (s 2), .int (s 3), .int (s 4), .int (s 5), .int (s 12), .int (s 13), .int (s 8), .int (s 11)])), ((A 2), .inl (E.2.1.2.1.2.1, nf, .inr (.inr (.inr (.inr fl))))), ((A 3), .inl (E.2.1.1, nf, .inl lim)), ((A 1), .inr (16, [.int m, .ref ed, .int (nI ns)]))] ++ (alR E ed cap sk ++ hLd LP (hG hv))) 0 0 from ?_)))
        · refine Bd.seg ok_L_why 12 [] rfl (And.intro (And.intro (by rw [← ho, lWhy, if_neg gn, if_pos rfl, if_pos c2, if_neg (fun q => c3 (by rw [q]; rfl))]) (And.intro (Nat.le_of_ble_eq_true rfl) (Nat.le_of_ble_eq_true rfl))) True.intro)
        · refine Bd.seg ok_L_why 13 [] rfl (show BdP E mL_why (xRm 1 20 0 0) 0 0 (fun z => o = z) 69 [some (.ref (A 0)), some (.int (nI 0))] [.int 4] ([((A 0), .inr (13, [.ref (A 1), .ref (A 2), .ref (A 3), .int (s 0), .int (s 1), .int (s 2), .int (s 3), .int (s 4), .int (s 5), .int (s 12), .int (s 13), .int (s 8), .int (s 11)])), ((A 2), .inl (E.2.1.2.1.2.1, nf, .inr (.inr (.inr (.inr fl))))), ((A 3), .inl (E.2.1.1, nf, .inl lim)), ((A 1), .inr (16, [.int m, .ref ed, .int (nI ns)]))] ++ (alR E ed cap sk ++ hLd LP (hG hv))) 0 0 from ?_)
          refine Bd.seg ok_L_why 9 [] rfl (And.intro (And.intro (by rw [← ho, lWhy, if_neg gn, if_pos rfl, if_pos c2, if_pos ((nI_eq (b := 20) (by omega) (by decide)).mp c3)]) (And.intro (Nat.le_of_ble_eq_true rfl) (Nat.le_of_ble_eq_true rfl))) True.intro)
      · refine Bd.seg ok_L_why 8 [] rfl (show BdP E mL_why (xRm 1 20 0 0) 0 0 (fun z => o = z) 69 [some (.ref (A 0)), some (.int (nI 0))] [.int 3] ([((A 0), .inr (13, [.ref (A 1), .ref (A 2), .ref (A 3), .int (s 0), .int (s 1), .int (s 2), .int (s 3), .int (s 4), .int (s 5), .int (s 12), .int (s 13), .int (s 8), .int (s 11)])), ((A 2), .inl (E.2.1.2.1.2.1, nf, .inr (.inr (.inr (.inr fl))))), ((A 3), .inl (E.2.1.1, nf, .inl lim)), ((A 1), .inr (16, [.int m, .ref ed, .int (nI ns)]))] ++ (alR E ed cap sk ++ hLd LP (hG hv))) 0 0 from ?_)
        refine Bd.seg ok_L_why 9 [] rfl (And.intro (And.intro (by rw [← ho, lWhy, if_neg gn, if_pos rfl, if_neg c2]) (And.intro (Nat.le_of_ble_eq_true rfl) (Nat.le_of_ble_eq_true rfl))) True.intro)
    · have i0 : 0 < i := by have := mt (nI_leI (a := i) (b := 0) (by omega) (by decide)).mpr c1; omega
      refine Bd.seg ok_L_why 14 [0] rfl (And.intro (And.intro rfl rfl) (show BdP E mL_why (xRm 1 20 0 0) 0 0 (fun z => o = z) 22 [some (.ref (A 0)), some (.int (nI i))] [.int ((nI i) - 1), .ref (A 2)] ([((A 0), .inr (13, [.ref (A 1), .ref (A 2), .ref (A 3), .int (s 0), .int (s 1), .int (s 2), .int (s 3), .int (s 4), .int (s 5), .int (s 12), .int (s 13), .int (s 8), .int (s 11)])), ((A 2), .inl (E.2.1.2.1.2.1, nf, .inr (.inr (.inr (.inr fl))))), ((A 3), .inl (E.2.1.1, nf, .inl lim)), ((A 1), .inr (16, [.int m, .ref ed, .int (nI ns)]))] ++ (alR E ed cap sk ++ hLd LP (hG hv))) 0 0 from ?_))
      rw [nI_pm (by omega)]
      show BdP E mL_why (xRm 1 20 0 0) 0 0 (fun z => o = z) 22 [some (.ref (A 0)), some (.int (nI i))] [.int (nI (i - 1)), .ref (A 2)] ([((A 0), .inr (13, [.ref (A 1), .ref (A 2), .ref (A 3), .int (s 0), .int (s 1), .int (s 2), .int (s 3), .int (s 4), .int (s 5), .int (s 12), .int (s 13), .int (s 8), .int (s 11)])), ((A 2), .inl (E.2.1.2.1.2.1, nf, .inr (.inr (.inr (.inr fl))))), ((A 3), .inl (E.2.1.1, nf, .inl lim)), ((A 1), .inr (16, [.int m, .ref ed, .int (nI ns)]))] ++ (alR E ed cap sk ++ hLd LP (hG hv))) 0 0
      refine Bd.hald 1 rfl (vp_in_nI (show i - 1 < nf by omega) (by omega)) (xdec ok_L_why 15 rfl) ?_
      rw [nI_clamp (n := i - 1) (by omega)]
      rcases hFl (i - 1) (by omega) with ⟨k0, k1, k2, k3⟩ | ⟨a2, k0, ka, kp, k1, k2, k3, k4, k5⟩
      · rw [k0]
        show BdP E mL_why (xRm 1 20 0 0) 0 0 (fun z => o = z) 23 [some (.ref (A 0)), some (.int (nI i))] [.null] ([((A 0), .inr (13, [.ref (A 1), .ref (A 2), .ref (A 3), .int (s 0), .int (s 1), .int (s 2), .int (s 3), .int (s 4), .int (s 5), .int (s 12), .int (s 13), .int (s 8), .int (s 11)])), ((A 2), .inl (E.2.1.2.1.2.1, nf, .inr (.inr (.inr (.inr fl))))), ((A 3), .inl (E.2.1.1, nf, .inl lim)), ((A 1), .inr (16, [.int m, .ref ed, .int (nI ns)]))] ++ (alR E ed cap sk ++ hLd LP (hG hv))) 0 0
        refine Bd.seg ok_L_why 16 [] rfl (show BdP E mL_why (xRm 1 20 0 0) 0 0 (fun z => o = z) 30 [some (.ref (A 0)), some (.int (nI i))] [] ([((A 0), .inr (13, [.ref (A 1), .ref (A 2), .ref (A 3), .int (s 0), .int (s 1), .int (s 2), .int (s 3), .int (s 4), .int (s 5), .int (s 12), .int (s 13), .int (s 8), .int (s 11)])), ((A 2), .inl (E.2.1.2.1.2.1, nf, .inr (.inr (.inr (.inr fl))))), ((A 3), .inl (E.2.1.1, nf, .inl lim)), ((A 1), .inr (16, [.int m, .ref ed, .int (nI ns)]))] ++ (alR E ed cap sk ++ hLd LP (hG hv))) 0 0 from ?_)
        refine Bd.seg ok_L_why 17 [] rfl (And.intro (And.intro (by rw [← ho, lWhy, if_neg gn, if_neg (show ¬ i = 0 by omega), if_pos k1]) (And.intro (Nat.le_of_ble_eq_true rfl) (Nat.le_of_ble_eq_true rfl))) True.intro)
      · rw [k0]
        show BdP E mL_why (xRm 1 20 0 0) 0 0 (fun z => o = z) 23 [some (.ref (A 0)), some (.int (nI i))] [.ref a2] ([((A 0), .inr (13, [.ref (A 1), .ref (A 2), .ref (A 3), .int (s 0), .int (s 1), .int (s 2), .int (s 3), .int (s 4), .int (s 5), .int (s 12), .int (s 13), .int (s 8), .int (s 11)])), ((A 2), .inl (E.2.1.2.1.2.1, nf, .inr (.inr (.inr (.inr fl))))), ((A 3), .inl (E.2.1.1, nf, .inl lim)), ((A 1), .inr (16, [.int m, .ref ed, .int (nI ns)]))] ++ (alR E ed cap sk ++ hLd LP (hG hv))) 0 0
        refine Bd.seg ok_L_why 16 [] rfl (show BdP E mL_why (xRm 1 20 0 0) 0 0 (fun z => o = z) 26 [some (.ref (A 0)), some (.int (nI i))] [] ([((A 0), .inr (13, [.ref (A 1), .ref (A 2), .ref (A 3), .int (s 0), .int (s 1), .int (s 2), .int (s 3), .int (s 4), .int (s 5), .int (s 12), .int (s 13), .int (s 8), .int (s 11)])), ((A 2), .inl (E.2.1.2.1.2.1, nf, .inr (.inr (.inr (.inr fl))))), ((A 3), .inl (E.2.1.1, nf, .inl lim)), ((A 1), .inr (16, [.int m, .ref ed, .int (nI ns)]))] ++ (alR E ed cap sk ++ hLd LP (hG hv))) 0 0 from ?_)
        refine Bd.seg ok_L_why 18 [] rfl (show BdP E mL_why (xRm 1 20 0 0) 0 0 (fun z => o = z) 31 [some (.ref (A 0)), some (.int (nI i))] [.int 2] ([((A 0), .inr (13, [.ref (A 1), .ref (A 2), .ref (A 3), .int (s 0), .int (s 1), .int (s 2), .int (s 3), .int (s 4), .int (s 5), .int (s 12), .int (s 13), .int (s 8), .int (s 11)])), ((A 2), .inl (E.2.1.2.1.2.1, nf, .inr (.inr (.inr (.inr fl))))), ((A 3), .inl (E.2.1.1, nf, .inl lim)), ((A 1), .inr (16, [.int m, .ref ed, .int (nI ns)]))] ++ (alR E ed cap sk ++ hLd LP (hG hv))) 0 0 from ?_)
        refine Bd.seg ok_L_why 19 [] rfl (And.intro (And.intro (by rw [← ho, lWhy, if_neg gn, if_neg (show ¬ i = 0 by omega), if_neg (fun q => by rw [q] at kp; exact absurd kp (by decide))]) (And.intro (Nat.le_of_ble_eq_true rfl) (Nat.le_of_ble_eq_true rfl))) True.intro)
