/-! MACHINE: the cases of the law -/
abbrev oC (X : LX) (ho : Nat) (g : Nat → Int64) : Nat × va_E := (ho, .inl (X.E.2.1.2.1, 1, .inr (.inl g)))
abbrev WL (X : LX) (ho : Nat) (g : Nat → Int64) (MX MM : va_W) : va_W := oC X ho g :: (MX ++ MM)
abbrev L0 (X : LX) (hx hm ho : Nat) (i : Int32) : xL := [some (.ref X.b), some (.ref hx), some (.ref hm), some (.ref ho), some (.int i), none, none, none, none]
/-- behind a case: on with the loop -/
def KN (X : LX) (hx hm ho : Nat) (i : Int32) (ck sk : Nat) : Prop := ∀ (e : Int32) (MX MM : va_W) (g : Nat → Int64), INV X.E hx hm e MX MM → BdL X 2666 (L0 X hx hm ho i) [] (WL X ho g MX MM) (ck + 16) (sk + 159)
theorem wp1 {a : Nat × va_E} {M1 M2 : va_W} : (a :: (M1 ++ M2)).Perm (M1 ++ (a :: M2)) := List.perm_middle.symm
theorem wp2 {a : Nat × va_E} {M1 M2 : va_W} : (M1 ++ (a :: M2)).Perm (M2 ++ (a :: M1)) := (List.perm_append_comm (l₁ := M1) (l₂ := a :: M2)).trans List.perm_middle.symm
theorem wp3 {a : Nat × va_E} {M1 M2 : va_W} : (M2 ++ (a :: M1)).Perm (a :: (M1 ++ M2)) := List.perm_middle.trans (List.Perm.cons a List.perm_append_comm)
theorem wp4 {a : Nat × va_E} {M1 M2 : va_W} : (a :: M1 ++ M2).Perm (M2 ++ (a :: M1)) := List.perm_append_comm
theorem cmp0 (x : Int64) : lg_cmp x x = 0 := by
  unfold lg_cmp
  simp
theorem xdecL {B : List (Nat × List xI)} (hB : ∀ q ∈ B, (xChks (yLw "law") q.1 q.2 && xNoPut q.2) = true) (n : Nat) {pc : Nat} {i : xI} (hn : B[n]? = some (pc, [i])) : decode code pc = .ok (i.1, xlen i.1) :=
  xdec (y := yLw "law") (fun q hq => by
    have := hB q hq
    rw [Bool.and_eq_true] at this
    exact this.1) n hn
theorem never {E : xE} {hx hm : Nat} {e : Int32} {MM : va_W} {r : Option Value} : ∀ (Z : String) (M' : va_W), ¬ ∃ MX', INV E hx hm e MX' MM ∧ (Sum.inr (Z, M') : xO) = xOut (Sum.inr r) MX' := by
  rintro Z M' ⟨MX', -, h⟩
  cases h
theorem neverM {MM : va_W} {r : Option Value} : ∀ (Z : String) (M' : va_W), ¬ (Sum.inr (Z, M') : xO) = .inl (r, MM) := fun Z M' h => by cases h
theorem ini13 : Cond.initialized RL ∈ xAll := xm1 (n := 0) rfl rfl
theorem op_thrown {E : xE} {hx hm : Nat} {e : Int32} {MX MM : va_W} (hI : INV E hx hm e MX MM) : SpP E mX12_thrown (xRm 0 0 0 0) [.ref hm] MM (fun z => z = .inl (some (.int e), MM)) := by
  refine hI.el ?_
  intro q s f t v1 f1 t1 v2 f2 t2 hc hf ol sl cm dp tl z ps kd st en ob fs ss vs sa ti tb P S p ud bu li at0 bg tk nb bd ba ec ep isd iso ord opn don wm wd again aside buffer isKept opened past slots text warm written h1 h2 _
  subst h1 h2
  exact SpP.opM (is := [0]) (js := [1, 2, 3, 4, 5, 6, 7, 8, 9, 10, 11]) (n := 12) (s_X12_thrown (E := E) (h_this := hm) (h_this_again := (p 9)) (h_this_aside := (p 1)) (h_this_buffer := (p 6)) (h_this_isKept := (p 5)) (h_this_opened := (p 8)) (h_this_past := (p 2)) (h_this_s := (p 0)) (h_this_slots := (p 3)) (h_this_text := (p 7)) (h_this_warm := (p 4)) (h_this_written := (p 10)) (v_this_undos := ud) (v_this_thrown := e) (v_this_buffered := bu) (v_this_limit := li) (v_this_at := at0) (v_this_begin := bg) (v_this_token := tk) (v_this_number := nb) (v_this_bad := bd) (v_this_badAt := ba) (v_this_errorCode := ec) (v_this_errorPosition := ep) (v_this_word := wd) (v_this_isDoing := isd) (v_this_isOverNow := iso) (v_this_orders := ord) (v_this_open := opn) (v_this_done := don) (v_this_writtenMany := wm) (hF := rfl) (ho := rfl)) (by decide +kernel) rfl rfl rfl rfl rfl
theorem nL_append : xNa mL_append 7 := by delta xNa; decide +kernel
theorem nL_truncate : xNa mL_truncate 3 := by delta xNa; decide +kernel
theorem nL_limitOf : xNa mL_limitOf 3 := by delta xNa; decide +kernel
theorem nL_temperatureOf : xNa mL_temperatureOf 3 := by delta xNa; decide +kernel
theorem nL_hasLoad : xNa mL_hasLoad 3 := by delta xNa; decide +kernel
theorem nL_massOn : xNa mL_massOn 3 := by delta xNa; decide +kernel
theorem nL_moistureOn : xNa mL_moistureOn 3 := by delta xNa; decide +kernel
theorem nL_scorchOn : xNa mL_scorchOn 3 := by delta xNa; decide +kernel
theorem nL_isDry : xNa mL_isDry 3 := by delta xNa; decide +kernel
theorem nL_dryingOn : xNa mL_dryingOn 3 := by delta xNa; decide +kernel
theorem nL_obstacleToLower : xNa mL_obstacleToLower 3 := by delta xNa; decide +kernel
theorem nL_sackState : xNa mL_sackState 3 := by delta xNa; decide +kernel
theorem nL_sackMass : xNa mL_sackMass 3 := by delta xNa; decide +kernel
theorem nL_sackMoisture : xNa mL_sackMoisture 3 := by delta xNa; decide +kernel
theorem nL_sackTemperature : xNa mL_sackTemperature 3 := by delta xNa; decide +kernel
theorem nL_isSmouldering : xNa mL_isSmouldering 3 := by delta xNa; decide +kernel
theorem nL_qualityOf : xNa mL_qualityOf 3 := by delta xNa; decide +kernel
theorem nL_priceOf : xNa mL_priceOf 3 := by delta xNa; decide +kernel
theorem nL_temperatureAfter : xNa mL_temperatureAfter 4 := by delta xNa; decide +kernel
theorem nL_minutesUntilDry : xNa mL_minutesUntilDry 3 := by delta xNa; decide +kernel
theorem nL_minutesUntilBurnt : xNa mL_minutesUntilBurnt 3 := by delta xNa; decide +kernel
theorem nL_putLoad : xNa mL_putLoad 4 := by delta xNa; decide +kernel
theorem nL_lower : xNa mL_lower 3 := by delta xNa; decide +kernel
theorem nL_setHeat : xNa mL_setHeat 3 := by delta xNa; decide +kernel
theorem nL_setGear : xNa mL_setGear 3 := by delta xNa; decide +kernel
theorem nL_setWind : xNa mL_setWind 4 := by delta xNa; decide +kernel
theorem nL_sell : xNa mL_sell 3 := by delta xNa; decide +kernel
theorem nL_quench : xNa mL_quench 3 := by delta xNa; decide +kernel
theorem nL_advance : xNa mL_advance 3 := by delta xNa; decide +kernel
theorem nL_undo : xNa mL_undo 2 := by delta xNa; decide +kernel
theorem nL_save : xNa mL_save 3 := by delta xNa; decide +kernel
theorem nL_restore : xNa mL_restore 3 := by delta xNa; decide +kernel
def tb_C_append : List (Nat × List xI) := [(308, [(.aload_n 1, [], 0), (.aload_n 0, [], 0), (.iload 4, [], 0), (.iconst 1, [], 1), (.iadd, [], 0)]), (314, [(.iaload, [], 0)]), (315, [(.aload_n 0, [], 0), (.iload 4, [], 0), (.iconst 2, [], 2), (.iadd, [], 0)]), (320, [(.iaload, [], 0)]), (321, [(.aload_n 0, [], 0), (.iload 4, [], 0), (.iconst 3, [], 3), (.iadd, [], 0)]), (326, [(.iaload, [], 0)]), (327, [(.aload_n 0, [], 0), (.iload 4, [], 0), (.iconst 4, [], 4), (.iadd, [], 0)]), (332, [(.iaload, [], 0)]), (333, [(.aload_n 0, [], 0), (.iload 4, [], 0), (.iconst 5, [], 5), (.iadd, [], 0)]), (338, [(.iaload, [], 0)]), (339, [(.aload_n 3, [], 0)]), (340, [(.invokestatic 122, [], 0)]), (343, [(.istore 5, [], 0), (.aload_n 2, [], 0), (.aload_n 0, [], 0), (.iload 4, [], 0), (.iconst 1, [], 1), (.iadd, [], 0)]), (351, [(.iaload, [], 0)]), (352, [(.aload_n 0, [], 0), (.iload 4, [], 0), (.iconst 2, [], 2), (.iadd, [], 0)]), (357, [(.iaload, [], 0)]), (358, [(.aload_n 0, [], 0), (.iload 4, [], 0), (.iconst 3, [], 3), (.iadd, [], 0)]), (363, [(.iaload, [], 0)]), (364, [(.aload_n 0, [], 0), (.iload 4, [], 0), (.iconst 4, [], 4), (.iadd, [], 0)]), (369, [(.iaload, [], 0)]), (370, [(.aload_n 0, [], 0), (.iload 4, [], 0), (.iconst 5, [], 5), (.iadd, [], 0)]), (375, [(.iaload, [], 0)]), (376, [(.invokevirtual 127, [], 0)]), (379, [(.istore 6, [], 0), (.aload_n 2, [], 0)]), (382, [(.invokevirtual 128, [], 0)]), (385, [(.iload 5, [], 0), (.if_icmp .eq 5, [], 0)]), (392, [(.iload 5, [], 0), (.ifCond .ne 15, [], 0)]), (409, [(.goto 2257, [], 0)]), (397, [(.aload_n 3, [], 0), (.iconst 0, [], 0), (.laload, [], 0), (.iload 6, [], 0), (.i2l, [], 0), (.lcmp, [], 0), (.ifCond .eq 5, [], 0)])]
set_option maxRecDepth 100000 in
theorem ok_C_append : ∀ q ∈ tb_C_append, (xChks (yLw "law") q.1 q.2 && xNoPut q.2) = true := by decide +kernel
set_option maxRecDepth 100000 in
theorem case_append {X : LX} {hx hm ho ck sk : Nat} {e0 i : Int32} {g : Nat → Int64} {MX MM : va_W} (hF : LF X) (hin : ∀ j : Int32, 0 ≤ j → j ≤ 5 → vp_in (i + j) X.n) (hI : INV X.E hx hm e0 MX MM) (hc : ck + 16 ≤ 601024) (hs : sk + 159 ≤ 7293034) (hk : KN X hx hm ho i ck sk) : BdL X 308 (L0 X hx hm ho i) [] (WL X ho g MX MM) ck sk := by
  obtain ⟨MM', k, v, e, ha, h1, h2⟩ := op_append (Nat.le_refl 400000) hI (X.xs (i + 1).toNatClampNeg) (X.xs (i + 2).toNatClampNeg) (X.xs (i + 3).toNatClampNeg) (X.xs (i + 4).toNatClampNeg) (X.xs (i + 5).toNatClampNeg)
  obtain ⟨-, ⟨ws, m0⟩⟩ := hI.x0
  refine BdL.seg hF ok_C_append 0 [] rfl (show BdL X 314 [some (.ref X.b), some (.ref hx), some (.ref hm), some (.ref ho), some (.int i), none, none, none, none] (.int (i + 1) :: .ref X.b :: [.ref hx]) (WL X ho g MX MM) ck sk from ?_)
  refine BdL.sld hF (xdecL ok_C_append 1 rfl) (hin 1 (by decide) (by decide)) ?_
  refine BdL.seg hF ok_C_append 2 [] rfl (show BdL X 320 [some (.ref X.b), some (.ref hx), some (.ref hm), some (.ref ho), some (.int i), none, none, none, none] (.int (i + 2) :: .ref X.b :: (.int (X.xs (i + 1).toNatClampNeg) :: [.ref hx])) (WL X ho g MX MM) ck sk from ?_)
  refine BdL.sld hF (xdecL ok_C_append 3 rfl) (hin 2 (by decide) (by decide)) ?_
  refine BdL.seg hF ok_C_append 4 [] rfl (show BdL X 326 [some (.ref X.b), some (.ref hx), some (.ref hm), some (.ref ho), some (.int i), none, none, none, none] (.int (i + 3) :: .ref X.b :: (.int (X.xs (i + 2).toNatClampNeg) :: (.int (X.xs (i + 1).toNatClampNeg) :: [.ref hx]))) (WL X ho g MX MM) ck sk from ?_)
  refine BdL.sld hF (xdecL ok_C_append 5 rfl) (hin 3 (by decide) (by decide)) ?_
  refine BdL.seg hF ok_C_append 6 [] rfl (show BdL X 332 [some (.ref X.b), some (.ref hx), some (.ref hm), some (.ref ho), some (.int i), none, none, none, none] (.int (i + 4) :: .ref X.b :: (.int (X.xs (i + 3).toNatClampNeg) :: (.int (X.xs (i + 2).toNatClampNeg) :: (.int (X.xs (i + 1).toNatClampNeg) :: [.ref hx])))) (WL X ho g MX MM) ck sk from ?_)
  refine BdL.sld hF (xdecL ok_C_append 7 rfl) (hin 4 (by decide) (by decide)) ?_
  refine BdL.seg hF ok_C_append 8 [] rfl (show BdL X 338 [some (.ref X.b), some (.ref hx), some (.ref hm), some (.ref ho), some (.int i), none, none, none, none] (.int (i + 5) :: .ref X.b :: (.int (X.xs (i + 4).toNatClampNeg) :: (.int (X.xs (i + 3).toNatClampNeg) :: (.int (X.xs (i + 2).toNatClampNeg) :: (.int (X.xs (i + 1).toNatClampNeg) :: [.ref hx]))))) (WL X ho g MX MM) ck sk from ?_)
  refine BdL.sld hF (xdecL ok_C_append 9 rfl) (hin 5 (by decide) (by decide)) ?_
  refine BdL.seg hF ok_C_append 10 [] rfl (show BdL X 340 [some (.ref X.b), some (.ref hx), some (.ref hm), some (.ref ho), some (.int i), none, none, none, none] (.ref ho :: (.int (X.xs (i + 5).toNatClampNeg) :: (.int (X.xs (i + 4).toNatClampNeg) :: (.int (X.xs (i + 3).toNatClampNeg) :: (.int (X.xs (i + 2).toNatClampNeg) :: (.int (X.xs (i + 1).toNatClampNeg) :: [.ref hx])))))) (WL X ho g MX MM) ck sk from ?_)
  refine BdL.callH hF wL_append vL_append ini13 xpl13.2 nL_append kL_append (xdecL ok_C_append 11 rfl) (As := [.ref hx, .int (X.xs (i + 1).toNatClampNeg), .int (X.xs (i + 2).toNatClampNeg), .int (X.xs (i + 3).toNatClampNeg), .int (X.xs (i + 4).toNatClampNeg), .int (X.xs (i + 5).toNatClampNeg), .ref ho]) (rest := []) (Mc := oC X ho g :: MX) (Rest := MM) (s_L_append g h1 ha hI.x0.1) ⟨Nat.le_of_ble_eq_true rfl, Nat.le_of_ble_eq_true rfl⟩ rfl (Nat.le_of_ble_eq_true rfl) (List.Perm.refl _) ⟨(show ck + 1 ≤ 601024 by omega), (show sk + 6 ≤ 7293034 by omega)⟩ ?_
  rintro w M' ⟨MX', g', hI2, hg, hz⟩
  cases hz
  refine BdL.seg hF ok_C_append 12 [] rfl ⟨Nat.le_of_ble_eq_true rfl, (show BdL X 351 [some (.ref X.b), some (.ref hx), some (.ref hm), some (.ref ho), some (.int i), some (.int e), none, none, none] (.int (i + 1) :: .ref X.b :: [.ref hm]) (oC X ho g' :: MX' ++ MM) (ck + 1) (sk + 6) from ?_)⟩
  refine BdL.sld hF (xdecL ok_C_append 13 rfl) (hin 1 (by decide) (by decide)) ?_
  refine BdL.seg hF ok_C_append 14 [] rfl (show BdL X 357 [some (.ref X.b), some (.ref hx), some (.ref hm), some (.ref ho), some (.int i), some (.int e), none, none, none] (.int (i + 2) :: .ref X.b :: (.int (X.xs (i + 1).toNatClampNeg) :: [.ref hm])) (oC X ho g' :: MX' ++ MM) (ck + 1) (sk + 6) from ?_)
  refine BdL.sld hF (xdecL ok_C_append 15 rfl) (hin 2 (by decide) (by decide)) ?_
  refine BdL.seg hF ok_C_append 16 [] rfl (show BdL X 363 [some (.ref X.b), some (.ref hx), some (.ref hm), some (.ref ho), some (.int i), some (.int e), none, none, none] (.int (i + 3) :: .ref X.b :: (.int (X.xs (i + 2).toNatClampNeg) :: (.int (X.xs (i + 1).toNatClampNeg) :: [.ref hm]))) (oC X ho g' :: MX' ++ MM) (ck + 1) (sk + 6) from ?_)
  refine BdL.sld hF (xdecL ok_C_append 17 rfl) (hin 3 (by decide) (by decide)) ?_
  refine BdL.seg hF ok_C_append 18 [] rfl (show BdL X 369 [some (.ref X.b), some (.ref hx), some (.ref hm), some (.ref ho), some (.int i), some (.int e), none, none, none] (.int (i + 4) :: .ref X.b :: (.int (X.xs (i + 3).toNatClampNeg) :: (.int (X.xs (i + 2).toNatClampNeg) :: (.int (X.xs (i + 1).toNatClampNeg) :: [.ref hm])))) (oC X ho g' :: MX' ++ MM) (ck + 1) (sk + 6) from ?_)
  refine BdL.sld hF (xdecL ok_C_append 19 rfl) (hin 4 (by decide) (by decide)) ?_
  refine BdL.seg hF ok_C_append 20 [] rfl (show BdL X 375 [some (.ref X.b), some (.ref hx), some (.ref hm), some (.ref ho), some (.int i), some (.int e), none, none, none] (.int (i + 5) :: .ref X.b :: (.int (X.xs (i + 4).toNatClampNeg) :: (.int (X.xs (i + 3).toNatClampNeg) :: (.int (X.xs (i + 2).toNatClampNeg) :: (.int (X.xs (i + 1).toNatClampNeg) :: [.ref hm]))))) (oC X ho g' :: MX' ++ MM) (ck + 1) (sk + 6) from ?_)
  refine BdL.sld hF (xdecL ok_C_append 21 rfl) (hin 5 (by decide) (by decide)) ?_
  refine BdL.callV hF oX12_append vX12_append nX12_append k13_127 (xdecL ok_C_append 22 rfl) (As := [.int (X.xs (i + 1).toNatClampNeg), .int (X.xs (i + 2).toNatClampNeg), .int (X.xs (i + 3).toNatClampNeg), .int (X.xs (i + 4).toNatClampNeg), .int (X.xs (i + 5).toNatClampNeg)]) (rest := []) h2 neverM ⟨Nat.le_of_ble_eq_true rfl, Nat.le_of_ble_eq_true rfl⟩ rfl (Nat.le_of_ble_eq_true rfl) wp4 0 m0 rfl rfl ⟨(show ck + 1 + 0 ≤ 601024 by omega), (show sk + 6 + 0 ≤ 7293034 by omega)⟩ ?_
  rintro w M'' hz
  cases hz
  obtain ⟨-, ⟨ws2, m1⟩⟩ := hI2.x0
  refine BdL.seg hF ok_C_append 23 [] rfl ⟨Nat.le_of_ble_eq_true rfl, (show BdL X 382 [some (.ref X.b), some (.ref hx), some (.ref hm), some (.ref ho), some (.int i), some (.int e), some (.int v), none, none] [.ref hm] (MM' ++ (oC X ho g' :: MX')) (ck + 1 + 0) (sk + 6 + 0) from ?_)⟩
  refine BdL.callV hF oX12_thrown vX12_thrown nX12_thrown k13_128 (xdecL ok_C_append 24 rfl) (As := []) (rest := []) (op_thrown hI2) neverM ⟨Nat.le_of_ble_eq_true rfl, Nat.le_of_ble_eq_true rfl⟩ rfl (Nat.le_of_ble_eq_true rfl) (List.Perm.refl _) 0 m1 rfl rfl ⟨(show ck + 1 + 0 + 0 ≤ 601024 by omega), (show sk + 6 + 0 + 0 ≤ 7293034 by omega)⟩ ?_
  rintro w M'' hz
  cases hz
  refine BdL.pm wp3 ?_
  refine BdL.seg hF ok_C_append 25 [] rfl ⟨fun _ => (show BdL X 392 [some (.ref X.b), some (.ref hx), some (.ref hm), some (.ref ho), some (.int i), some (.int e), some (.int v), none, none] [] (oC X ho g' :: (MX' ++ MM')) (ck + 1 + 0 + 0) (sk + 6 + 0 + 0) from ?_), fun c => absurd rfl c⟩
  have hend : BdL X 409 [some (.ref X.b), some (.ref hx), some (.ref hm), some (.ref ho), some (.int i), some (.int e), some (.int v), none, none] [] (oC X ho g' :: (MX' ++ MM')) (ck + 1 + 0 + 0) (sk + 6 + 0 + 0) := by
    refine BdL.seg hF ok_C_append 27 [] rfl (show BdL X 2666 [some (.ref X.b), some (.ref hx), some (.ref hm), some (.ref ho), some (.int i), some (.int e), some (.int v), none, none] [] (oC X ho g' :: (MX' ++ MM')) (ck + 1 + 0 + 0) (sk + 6 + 0 + 0) from ?_)
    exact BdL.weak (BdL.wide (by omega) (by omega) (hk _ _ _ g' hI2)) ⟨rfl, rfl, rfl, rfl, rfl, trivial⟩
  refine BdL.seg hF ok_C_append 26 [] rfl ⟨fun _ => hend, fun c0 => (show BdL X 397 [some (.ref X.b), some (.ref hx), some (.ref hm), some (.ref ho), some (.int i), some (.int e), some (.int v), none, none] [] (oC X ho g' :: (MX' ++ MM')) (ck + 1 + 0 + 0) (sk + 6 + 0 + 0) from ?_)⟩
  have hg0 : g' (Int32.toNatClampNeg 0) = v.toInt64 := hg c0
  refine BdL.seg hF ok_C_append 28 [0] rfl ⟨⟨rfl, rfl⟩, xg (by decide), fun _ => hend, fun c1 => absurd ?_ c1⟩
  rw [hg0]
  exact cmp0 _
def tb_C_truncate : List (Nat × List xI) := [(412, [(.aload_n 1, [], 0), (.aload_n 0, [], 0), (.iload 4, [], 0), (.iconst 1, [], 1), (.iadd, [], 0)]), (418, [(.iaload, [], 0)]), (419, [(.aload_n 3, [], 0)]), (420, [(.invokestatic 131, [], 0)]), (423, [(.istore 5, [], 0), (.aload_n 2, [], 0), (.aload_n 0, [], 0), (.iload 4, [], 0), (.iconst 1, [], 1), (.iadd, [], 0)]), (431, [(.iaload, [], 0)]), (432, [(.invokevirtual 134, [], 0)]), (435, [(.istore 6, [], 0), (.aload_n 2, [], 0)]), (438, [(.invokevirtual 128, [], 0)]), (441, [(.iload 5, [], 0), (.if_icmp .eq 5, [], 0)]), (448, [(.iload 5, [], 0), (.ifCond .ne 15, [], 0)]), (465, [(.goto 2201, [], 0)]), (453, [(.aload_n 3, [], 0), (.iconst 0, [], 0), (.laload, [], 0), (.iload 6, [], 0), (.i2l, [], 0), (.lcmp, [], 0), (.ifCond .eq 5, [], 0)])]
set_option maxRecDepth 100000 in
theorem ok_C_truncate : ∀ q ∈ tb_C_truncate, (xChks (yLw "law") q.1 q.2 && xNoPut q.2) = true := by decide +kernel
set_option maxRecDepth 100000 in
theorem case_truncate {X : LX} {hx hm ho ck sk : Nat} {e0 i : Int32} {g : Nat → Int64} {MX MM : va_W} (hF : LF X) (hin : ∀ j : Int32, 0 ≤ j → j ≤ 5 → vp_in (i + j) X.n) (hI : INV X.E hx hm e0 MX MM) (hc : ck + 16 ≤ 601024) (hs : sk + 159 ≤ 7293034) (hk : KN X hx hm ho i ck sk) : BdL X 412 (L0 X hx hm ho i) [] (WL X ho g MX MM) ck sk := by
  obtain ⟨MM', k, v, e, ha, h1, h2⟩ := op_truncate (Nat.le_refl 400000) hI (X.xs (i + 1).toNatClampNeg)
  obtain ⟨-, ⟨ws, m0⟩⟩ := hI.x0
  refine BdL.seg hF ok_C_truncate 0 [] rfl (show BdL X 418 [some (.ref X.b), some (.ref hx), some (.ref hm), some (.ref ho), some (.int i), none, none, none, none] (.int (i + 1) :: .ref X.b :: [.ref hx]) (WL X ho g MX MM) ck sk from ?_)
  refine BdL.sld hF (xdecL ok_C_truncate 1 rfl) (hin 1 (by decide) (by decide)) ?_
  refine BdL.seg hF ok_C_truncate 2 [] rfl (show BdL X 420 [some (.ref X.b), some (.ref hx), some (.ref hm), some (.ref ho), some (.int i), none, none, none, none] (.ref ho :: (.int (X.xs (i + 1).toNatClampNeg) :: [.ref hx])) (WL X ho g MX MM) ck sk from ?_)
  refine BdL.callH hF wL_truncate vL_truncate ini13 xpl13.2 nL_truncate kL_truncate (xdecL ok_C_truncate 3 rfl) (As := [.ref hx, .int (X.xs (i + 1).toNatClampNeg), .ref ho]) (rest := []) (Mc := oC X ho g :: MX) (Rest := MM) (s_L_truncate g h1 ha hI.x0.1) ⟨Nat.le_of_ble_eq_true rfl, Nat.le_of_ble_eq_true rfl⟩ rfl (Nat.le_of_ble_eq_true rfl) (List.Perm.refl _) ⟨(show ck + 1 ≤ 601024 by omega), (show sk + 6 ≤ 7293034 by omega)⟩ ?_
  rintro w M' ⟨MX', g', hI2, hg, hz⟩
  cases hz
  refine BdL.seg hF ok_C_truncate 4 [] rfl ⟨Nat.le_of_ble_eq_true rfl, (show BdL X 431 [some (.ref X.b), some (.ref hx), some (.ref hm), some (.ref ho), some (.int i), some (.int e), none, none, none] (.int (i + 1) :: .ref X.b :: [.ref hm]) (oC X ho g' :: MX' ++ MM) (ck + 1) (sk + 6) from ?_)⟩
  refine BdL.sld hF (xdecL ok_C_truncate 5 rfl) (hin 1 (by decide) (by decide)) ?_
  refine BdL.callV hF oX12_truncate vX12_truncate nX12_truncate k13_134 (xdecL ok_C_truncate 6 rfl) (As := [.int (X.xs (i + 1).toNatClampNeg)]) (rest := []) h2 neverM ⟨Nat.le_of_ble_eq_true rfl, Nat.le_of_ble_eq_true rfl⟩ rfl (Nat.le_of_ble_eq_true rfl) wp4 0 m0 rfl rfl ⟨(show ck + 1 + 0 ≤ 601024 by omega), (show sk + 6 + 0 ≤ 7293034 by omega)⟩ ?_
  rintro w M'' hz
  cases hz
  obtain ⟨-, ⟨ws2, m1⟩⟩ := hI2.x0
  refine BdL.seg hF ok_C_truncate 7 [] rfl ⟨Nat.le_of_ble_eq_true rfl, (show BdL X 438 [some (.ref X.b), some (.ref hx), some (.ref hm), some (.ref ho), some (.int i), some (.int e), some (.int v), none, none] [.ref hm] (MM' ++ (oC X ho g' :: MX')) (ck + 1 + 0) (sk + 6 + 0) from ?_)⟩
  refine BdL.callV hF oX12_thrown vX12_thrown nX12_thrown k13_128 (xdecL ok_C_truncate 8 rfl) (As := []) (rest := []) (op_thrown hI2) neverM ⟨Nat.le_of_ble_eq_true rfl, Nat.le_of_ble_eq_true rfl⟩ rfl (Nat.le_of_ble_eq_true rfl) (List.Perm.refl _) 0 m1 rfl rfl ⟨(show ck + 1 + 0 + 0 ≤ 601024 by omega), (show sk + 6 + 0 + 0 ≤ 7293034 by omega)⟩ ?_
  rintro w M'' hz
  cases hz
  refine BdL.pm wp3 ?_
  refine BdL.seg hF ok_C_truncate 9 [] rfl ⟨fun _ => (show BdL X 448 [some (.ref X.b), some (.ref hx), some (.ref hm), some (.ref ho), some (.int i), some (.int e), some (.int v), none, none] [] (oC X ho g' :: (MX' ++ MM')) (ck + 1 + 0 + 0) (sk + 6 + 0 + 0) from ?_), fun c => absurd rfl c⟩
  have hend : BdL X 465 [some (.ref X.b), some (.ref hx), some (.ref hm), some (.ref ho), some (.int i), some (.int e), some (.int v), none, none] [] (oC X ho g' :: (MX' ++ MM')) (ck + 1 + 0 + 0) (sk + 6 + 0 + 0) := by
    refine BdL.seg hF ok_C_truncate 11 [] rfl (show BdL X 2666 [some (.ref X.b), some (.ref hx), some (.ref hm), some (.ref ho), some (.int i), some (.int e), some (.int v), none, none] [] (oC X ho g' :: (MX' ++ MM')) (ck + 1 + 0 + 0) (sk + 6 + 0 + 0) from ?_)
    exact BdL.weak (BdL.wide (by omega) (by omega) (hk _ _ _ g' hI2)) ⟨rfl, rfl, rfl, rfl, rfl, trivial⟩
  refine BdL.seg hF ok_C_truncate 10 [] rfl ⟨fun _ => hend, fun c0 => (show BdL X 453 [some (.ref X.b), some (.ref hx), some (.ref hm), some (.ref ho), some (.int i), some (.int e), some (.int v), none, none] [] (oC X ho g' :: (MX' ++ MM')) (ck + 1 + 0 + 0) (sk + 6 + 0 + 0) from ?_)⟩
  have hg0 : g' (Int32.toNatClampNeg 0) = v.toInt64 := hg c0
  refine BdL.seg hF ok_C_truncate 12 [0] rfl ⟨⟨rfl, rfl⟩, xg (by decide), fun _ => hend, fun c1 => absurd ?_ c1⟩
  rw [hg0]
  exact cmp0 _
def tb_C_load : List (Nat × List xI) := [(468, [(.aload_n 1, [], 0)]), (469, [(.invokevirtual 135, [], 0)]), (472, [(.aload_n 2, [], 0)]), (473, [(.invokevirtual 138, [], 0)]), (476, [(.if_icmp .eq 2190, [], 0)])]
set_option maxRecDepth 100000 in
theorem ok_C_load : ∀ q ∈ tb_C_load, (xChks (yLw "law") q.1 q.2 && xNoPut q.2) = true := by decide +kernel
set_option maxRecDepth 100000 in
theorem case_load {X : LX} {hx hm ho ck sk : Nat} {e0 i : Int32} {g : Nat → Int64} {MX MM : va_W} (hF : LF X) (hin : ∀ j : Int32, 0 ≤ j → j ≤ 5 → vp_in (i + j) X.n) (hI : INV X.E hx hm e0 MX MM) (hc : ck + 16 ≤ 601024) (hs : sk + 159 ≤ 7293034) (hk : KN X hx hm ho i ck sk) : BdL X 468 (L0 X hx hm ho i) [] (WL X ho g MX MM) ck sk := by
  obtain ⟨MM', v, -, h1, h2⟩ := op_load (Nat.le_refl 400000) hI
  obtain ⟨⟨vs, x0⟩, ⟨ws, m0⟩⟩ := hI.x0
  refine BdL.seg hF ok_C_load 0 [] rfl (show BdL X 469 (L0 X hx hm ho i) [.ref hx] (WL X ho g MX MM) ck sk from ?_)
  refine BdL.callV hF oX11_load vX11_load nX11_load k13_135 (xdecL ok_C_load 1 rfl) (As := []) (rest := []) h1 never ⟨Nat.le_of_ble_eq_true rfl, Nat.le_of_ble_eq_true rfl⟩ rfl (Nat.le_of_ble_eq_true rfl) wp1 0 x0 rfl rfl ⟨(show ck + 0 ≤ 601024 by omega), (show sk + 0 ≤ 7293034 by omega)⟩ ?_
  rintro w M' ⟨MX', hI2, hz⟩
  cases hz
  refine BdL.seg hF ok_C_load 2 [] rfl (show BdL X 473 (L0 X hx hm ho i) [.ref hm, .int v] (M' ++ (oC X ho g :: MM)) (ck + 0) (sk + 0) from ?_)
  refine BdL.callV hF oX12_load vX12_load nX12_load k13_138 (xdecL ok_C_load 3 rfl) (As := []) (rest := [.int v]) h2 neverM ⟨Nat.le_of_ble_eq_true rfl, Nat.le_of_ble_eq_true rfl⟩ rfl (Nat.le_of_ble_eq_true rfl) wp2 0 m0 rfl rfl ⟨(show ck + 0 + 0 ≤ 601024 by omega), (show sk + 0 + 0 ≤ 7293034 by omega)⟩ ?_
  rintro w M'' hz
  cases hz
  refine BdL.seg hF ok_C_load 4 [] rfl ⟨fun _ => (show BdL X 2666 (L0 X hx hm ho i) [] (MM' ++ (oC X ho g :: M')) (ck + 0 + 0) (sk + 0 + 0) from ?_), fun c => absurd rfl c⟩
  exact BdL.pm wp3 (BdL.wide (by omega) (by omega) (hk _ _ _ g hI2))
def tb_C_runScript : List (Nat × List xI) := [(481, [(.aload_n 1, [], 0)]), (482, [(.invokevirtual 139, [], 0)]), (485, [(.aload_n 2, [], 0)]), (486, [(.invokevirtual 142, [], 0)]), (489, [(.if_icmp .eq 2177, [], 0)])]
set_option maxRecDepth 100000 in
theorem ok_C_runScript : ∀ q ∈ tb_C_runScript, (xChks (yLw "law") q.1 q.2 && xNoPut q.2) = true := by decide +kernel
set_option maxRecDepth 100000 in
theorem case_runScript {X : LX} {hx hm ho ck sk : Nat} {e0 i : Int32} {g : Nat → Int64} {MX MM : va_W} (hF : LF X) (hin : ∀ j : Int32, 0 ≤ j → j ≤ 5 → vp_in (i + j) X.n) (hI : INV X.E hx hm e0 MX MM) (hc : ck + 16 ≤ 601024) (hs : sk + 159 ≤ 7293034) (hk : KN X hx hm ho i ck sk) : BdL X 481 (L0 X hx hm ho i) [] (WL X ho g MX MM) ck sk := by
  obtain ⟨MM', v, -, h1, h2⟩ := op_runScript (Nat.le_refl 400000) hI
  obtain ⟨⟨vs, x0⟩, ⟨ws, m0⟩⟩ := hI.x0
  refine BdL.seg hF ok_C_runScript 0 [] rfl (show BdL X 482 (L0 X hx hm ho i) [.ref hx] (WL X ho g MX MM) ck sk from ?_)
  refine BdL.callV hF oX11_runScript vX11_runScript nX11_runScript k13_139 (xdecL ok_C_runScript 1 rfl) (As := []) (rest := []) h1 never ⟨Nat.le_of_ble_eq_true rfl, Nat.le_of_ble_eq_true rfl⟩ rfl (Nat.le_of_ble_eq_true rfl) wp1 0 x0 rfl rfl ⟨(show ck + 14 ≤ 601024 by omega), (show sk + 147 ≤ 7293034 by omega)⟩ ?_
  rintro w M' ⟨MX', hI2, hz⟩
  cases hz
  refine BdL.seg hF ok_C_runScript 2 [] rfl (show BdL X 486 (L0 X hx hm ho i) [.ref hm, .int v] (M' ++ (oC X ho g :: MM)) (ck + 14) (sk + 147) from ?_)
  refine BdL.callV hF oX12_runScript vX12_runScript nX12_runScript k13_142 (xdecL ok_C_runScript 3 rfl) (As := []) (rest := [.int v]) h2 neverM ⟨Nat.le_of_ble_eq_true rfl, Nat.le_of_ble_eq_true rfl⟩ rfl (Nat.le_of_ble_eq_true rfl) wp2 0 m0 rfl rfl ⟨(show ck + 14 + 0 ≤ 601024 by omega), (show sk + 147 + 0 ≤ 7293034 by omega)⟩ ?_
  rintro w M'' hz
  cases hz
  refine BdL.seg hF ok_C_runScript 4 [] rfl ⟨fun _ => (show BdL X 2666 (L0 X hx hm ho i) [] (MM' ++ (oC X ho g :: M')) (ck + 14 + 0) (sk + 147 + 0) from ?_), fun c => absurd rfl c⟩
  exact BdL.pm wp3 (BdL.wide (by omega) (by omega) (hk _ _ _ g hI2))
def tb_C_errorCode : List (Nat × List xI) := [(494, [(.aload_n 1, [], 0)]), (495, [(.invokevirtual 143, [], 0)]), (498, [(.aload_n 2, [], 0)]), (499, [(.invokevirtual 146, [], 0)]), (502, [(.if_icmp .eq 2164, [], 0)])]
set_option maxRecDepth 100000 in
theorem ok_C_errorCode : ∀ q ∈ tb_C_errorCode, (xChks (yLw "law") q.1 q.2 && xNoPut q.2) = true := by decide +kernel
set_option maxRecDepth 100000 in
theorem case_errorCode {X : LX} {hx hm ho ck sk : Nat} {e0 i : Int32} {g : Nat → Int64} {MX MM : va_W} (hF : LF X) (hin : ∀ j : Int32, 0 ≤ j → j ≤ 5 → vp_in (i + j) X.n) (hI : INV X.E hx hm e0 MX MM) (hc : ck + 16 ≤ 601024) (hs : sk + 159 ≤ 7293034) (hk : KN X hx hm ho i ck sk) : BdL X 494 (L0 X hx hm ho i) [] (WL X ho g MX MM) ck sk := by
  obtain ⟨MM', v, -, h1, h2⟩ := op_errorCode (Nat.le_refl 400000) hI
  obtain ⟨⟨vs, x0⟩, ⟨ws, m0⟩⟩ := hI.x0
  refine BdL.seg hF ok_C_errorCode 0 [] rfl (show BdL X 495 (L0 X hx hm ho i) [.ref hx] (WL X ho g MX MM) ck sk from ?_)
  refine BdL.callV hF oX11_errorCode vX11_errorCode nX11_errorCode k13_143 (xdecL ok_C_errorCode 1 rfl) (As := []) (rest := []) h1 never ⟨Nat.le_of_ble_eq_true rfl, Nat.le_of_ble_eq_true rfl⟩ rfl (Nat.le_of_ble_eq_true rfl) wp1 0 x0 rfl rfl ⟨(show ck + 0 ≤ 601024 by omega), (show sk + 0 ≤ 7293034 by omega)⟩ ?_
  rintro w M' ⟨MX', hI2, hz⟩
  cases hz
  refine BdL.seg hF ok_C_errorCode 2 [] rfl (show BdL X 499 (L0 X hx hm ho i) [.ref hm, .int v] (M' ++ (oC X ho g :: MM)) (ck + 0) (sk + 0) from ?_)
  refine BdL.callV hF oX12_errorCode vX12_errorCode nX12_errorCode k13_146 (xdecL ok_C_errorCode 3 rfl) (As := []) (rest := [.int v]) h2 neverM ⟨Nat.le_of_ble_eq_true rfl, Nat.le_of_ble_eq_true rfl⟩ rfl (Nat.le_of_ble_eq_true rfl) wp2 0 m0 rfl rfl ⟨(show ck + 0 + 0 ≤ 601024 by omega), (show sk + 0 + 0 ≤ 7293034 by omega)⟩ ?_
  rintro w M'' hz
  cases hz
  refine BdL.seg hF ok_C_errorCode 4 [] rfl ⟨fun _ => (show BdL X 2666 (L0 X hx hm ho i) [] (MM' ++ (oC X ho g :: M')) (ck + 0 + 0) (sk + 0 + 0) from ?_), fun c => absurd rfl c⟩
  exact BdL.pm wp3 (BdL.wide (by omega) (by omega) (hk _ _ _ g hI2))
def tb_C_errorPosition : List (Nat × List xI) := [(507, [(.aload_n 1, [], 0)]), (508, [(.invokevirtual 147, [], 0)]), (511, [(.aload_n 2, [], 0)]), (512, [(.invokevirtual 150, [], 0)]), (515, [(.if_icmp .eq 2151, [], 0)])]
set_option maxRecDepth 100000 in
theorem ok_C_errorPosition : ∀ q ∈ tb_C_errorPosition, (xChks (yLw "law") q.1 q.2 && xNoPut q.2) = true := by decide +kernel
set_option maxRecDepth 100000 in
theorem case_errorPosition {X : LX} {hx hm ho ck sk : Nat} {e0 i : Int32} {g : Nat → Int64} {MX MM : va_W} (hF : LF X) (hin : ∀ j : Int32, 0 ≤ j → j ≤ 5 → vp_in (i + j) X.n) (hI : INV X.E hx hm e0 MX MM) (hc : ck + 16 ≤ 601024) (hs : sk + 159 ≤ 7293034) (hk : KN X hx hm ho i ck sk) : BdL X 507 (L0 X hx hm ho i) [] (WL X ho g MX MM) ck sk := by
  obtain ⟨MM', v, -, h1, h2⟩ := op_errorPosition (Nat.le_refl 400000) hI
  obtain ⟨⟨vs, x0⟩, ⟨ws, m0⟩⟩ := hI.x0
  refine BdL.seg hF ok_C_errorPosition 0 [] rfl (show BdL X 508 (L0 X hx hm ho i) [.ref hx] (WL X ho g MX MM) ck sk from ?_)
  refine BdL.callV hF oX11_errorPosition vX11_errorPosition nX11_errorPosition k13_147 (xdecL ok_C_errorPosition 1 rfl) (As := []) (rest := []) h1 never ⟨Nat.le_of_ble_eq_true rfl, Nat.le_of_ble_eq_true rfl⟩ rfl (Nat.le_of_ble_eq_true rfl) wp1 0 x0 rfl rfl ⟨(show ck + 0 ≤ 601024 by omega), (show sk + 0 ≤ 7293034 by omega)⟩ ?_
  rintro w M' ⟨MX', hI2, hz⟩
  cases hz
  refine BdL.seg hF ok_C_errorPosition 2 [] rfl (show BdL X 512 (L0 X hx hm ho i) [.ref hm, .int v] (M' ++ (oC X ho g :: MM)) (ck + 0) (sk + 0) from ?_)
  refine BdL.callV hF oX12_errorPosition vX12_errorPosition nX12_errorPosition k13_150 (xdecL ok_C_errorPosition 3 rfl) (As := []) (rest := [.int v]) h2 neverM ⟨Nat.le_of_ble_eq_true rfl, Nat.le_of_ble_eq_true rfl⟩ rfl (Nat.le_of_ble_eq_true rfl) wp2 0 m0 rfl rfl ⟨(show ck + 0 + 0 ≤ 601024 by omega), (show sk + 0 + 0 ≤ 7293034 by omega)⟩ ?_
  rintro w M'' hz
  cases hz
  refine BdL.seg hF ok_C_errorPosition 4 [] rfl ⟨fun _ => (show BdL X 2666 (L0 X hx hm ho i) [] (MM' ++ (oC X ho g :: M')) (ck + 0 + 0) (sk + 0 + 0) from ?_), fun c => absurd rfl c⟩
  exact BdL.pm wp3 (BdL.wide (by omega) (by omega) (hk _ _ _ g hI2))
def tb_C_minute : List (Nat × List xI) := [(520, [(.aload_n 1, [], 0)]), (521, [(.invokevirtual 151, [], 0)]), (524, [(.aload_n 2, [], 0)]), (525, [(.invokevirtual 154, [], 0)]), (528, [(.if_icmp .eq 2138, [], 0)])]
set_option maxRecDepth 100000 in
theorem ok_C_minute : ∀ q ∈ tb_C_minute, (xChks (yLw "law") q.1 q.2 && xNoPut q.2) = true := by decide +kernel
set_option maxRecDepth 100000 in
theorem case_minute {X : LX} {hx hm ho ck sk : Nat} {e0 i : Int32} {g : Nat → Int64} {MX MM : va_W} (hF : LF X) (hin : ∀ j : Int32, 0 ≤ j → j ≤ 5 → vp_in (i + j) X.n) (hI : INV X.E hx hm e0 MX MM) (hc : ck + 16 ≤ 601024) (hs : sk + 159 ≤ 7293034) (hk : KN X hx hm ho i ck sk) : BdL X 520 (L0 X hx hm ho i) [] (WL X ho g MX MM) ck sk := by
  obtain ⟨MM', v, -, h1, h2⟩ := op_minute (Nat.le_refl 400000) hI
  obtain ⟨⟨vs, x0⟩, ⟨ws, m0⟩⟩ := hI.x0
  refine BdL.seg hF ok_C_minute 0 [] rfl (show BdL X 521 (L0 X hx hm ho i) [.ref hx] (WL X ho g MX MM) ck sk from ?_)
  refine BdL.callV hF oX11_minute vX11_minute nX11_minute k13_151 (xdecL ok_C_minute 1 rfl) (As := []) (rest := []) h1 never ⟨Nat.le_of_ble_eq_true rfl, Nat.le_of_ble_eq_true rfl⟩ rfl (Nat.le_of_ble_eq_true rfl) wp1 0 x0 rfl rfl ⟨(show ck + 0 ≤ 601024 by omega), (show sk + 0 ≤ 7293034 by omega)⟩ ?_
  rintro w M' ⟨MX', hI2, hz⟩
  cases hz
  refine BdL.seg hF ok_C_minute 2 [] rfl (show BdL X 525 (L0 X hx hm ho i) [.ref hm, .int v] (M' ++ (oC X ho g :: MM)) (ck + 0) (sk + 0) from ?_)
  refine BdL.callV hF oX12_minute vX12_minute nX12_minute k13_154 (xdecL ok_C_minute 3 rfl) (As := []) (rest := [.int v]) h2 neverM ⟨Nat.le_of_ble_eq_true rfl, Nat.le_of_ble_eq_true rfl⟩ rfl (Nat.le_of_ble_eq_true rfl) wp2 0 m0 rfl rfl ⟨(show ck + 0 + 0 ≤ 601024 by omega), (show sk + 0 + 0 ≤ 7293034 by omega)⟩ ?_
  rintro w M'' hz
  cases hz
  refine BdL.seg hF ok_C_minute 4 [] rfl ⟨fun _ => (show BdL X 2666 (L0 X hx hm ho i) [] (MM' ++ (oC X ho g :: M')) (ck + 0 + 0) (sk + 0 + 0) from ?_), fun c => absurd rfl c⟩
  exact BdL.pm wp3 (BdL.wide (by omega) (by omega) (hk _ _ _ g hI2))
def tb_C_heat : List (Nat × List xI) := [(533, [(.aload_n 1, [], 0)]), (534, [(.invokevirtual 155, [], 0)]), (537, [(.aload_n 2, [], 0)]), (538, [(.invokevirtual 158, [], 0)]), (541, [(.if_icmp .eq 2125, [], 0)])]
set_option maxRecDepth 100000 in
theorem ok_C_heat : ∀ q ∈ tb_C_heat, (xChks (yLw "law") q.1 q.2 && xNoPut q.2) = true := by decide +kernel
set_option maxRecDepth 100000 in
theorem case_heat {X : LX} {hx hm ho ck sk : Nat} {e0 i : Int32} {g : Nat → Int64} {MX MM : va_W} (hF : LF X) (hin : ∀ j : Int32, 0 ≤ j → j ≤ 5 → vp_in (i + j) X.n) (hI : INV X.E hx hm e0 MX MM) (hc : ck + 16 ≤ 601024) (hs : sk + 159 ≤ 7293034) (hk : KN X hx hm ho i ck sk) : BdL X 533 (L0 X hx hm ho i) [] (WL X ho g MX MM) ck sk := by
  obtain ⟨MM', v, -, h1, h2⟩ := op_heat (Nat.le_refl 400000) hI
  obtain ⟨⟨vs, x0⟩, ⟨ws, m0⟩⟩ := hI.x0
  refine BdL.seg hF ok_C_heat 0 [] rfl (show BdL X 534 (L0 X hx hm ho i) [.ref hx] (WL X ho g MX MM) ck sk from ?_)
  refine BdL.callV hF oX11_heat vX11_heat nX11_heat k13_155 (xdecL ok_C_heat 1 rfl) (As := []) (rest := []) h1 never ⟨Nat.le_of_ble_eq_true rfl, Nat.le_of_ble_eq_true rfl⟩ rfl (Nat.le_of_ble_eq_true rfl) wp1 0 x0 rfl rfl ⟨(show ck + 0 ≤ 601024 by omega), (show sk + 0 ≤ 7293034 by omega)⟩ ?_
  rintro w M' ⟨MX', hI2, hz⟩
  cases hz
  refine BdL.seg hF ok_C_heat 2 [] rfl (show BdL X 538 (L0 X hx hm ho i) [.ref hm, .int v] (M' ++ (oC X ho g :: MM)) (ck + 0) (sk + 0) from ?_)
  refine BdL.callV hF oX12_heat vX12_heat nX12_heat k13_158 (xdecL ok_C_heat 3 rfl) (As := []) (rest := [.int v]) h2 neverM ⟨Nat.le_of_ble_eq_true rfl, Nat.le_of_ble_eq_true rfl⟩ rfl (Nat.le_of_ble_eq_true rfl) wp2 0 m0 rfl rfl ⟨(show ck + 0 + 0 ≤ 601024 by omega), (show sk + 0 + 0 ≤ 7293034 by omega)⟩ ?_
  rintro w M'' hz
  cases hz
  refine BdL.seg hF ok_C_heat 4 [] rfl ⟨fun _ => (show BdL X 2666 (L0 X hx hm ho i) [] (MM' ++ (oC X ho g :: M')) (ck + 0 + 0) (sk + 0 + 0) from ?_), fun c => absurd rfl c⟩
  exact BdL.pm wp3 (BdL.wide (by omega) (by omega) (hk _ _ _ g hI2))
def tb_C_gear : List (Nat × List xI) := [(546, [(.aload_n 1, [], 0)]), (547, [(.invokevirtual 159, [], 0)]), (550, [(.aload_n 2, [], 0)]), (551, [(.invokevirtual 162, [], 0)]), (554, [(.if_icmp .eq 2112, [], 0)])]
set_option maxRecDepth 100000 in
theorem ok_C_gear : ∀ q ∈ tb_C_gear, (xChks (yLw "law") q.1 q.2 && xNoPut q.2) = true := by decide +kernel
set_option maxRecDepth 100000 in
theorem case_gear {X : LX} {hx hm ho ck sk : Nat} {e0 i : Int32} {g : Nat → Int64} {MX MM : va_W} (hF : LF X) (hin : ∀ j : Int32, 0 ≤ j → j ≤ 5 → vp_in (i + j) X.n) (hI : INV X.E hx hm e0 MX MM) (hc : ck + 16 ≤ 601024) (hs : sk + 159 ≤ 7293034) (hk : KN X hx hm ho i ck sk) : BdL X 546 (L0 X hx hm ho i) [] (WL X ho g MX MM) ck sk := by
  obtain ⟨MM', v, -, h1, h2⟩ := op_gear (Nat.le_refl 400000) hI
  obtain ⟨⟨vs, x0⟩, ⟨ws, m0⟩⟩ := hI.x0
  refine BdL.seg hF ok_C_gear 0 [] rfl (show BdL X 547 (L0 X hx hm ho i) [.ref hx] (WL X ho g MX MM) ck sk from ?_)
  refine BdL.callV hF oX11_gear vX11_gear nX11_gear k13_159 (xdecL ok_C_gear 1 rfl) (As := []) (rest := []) h1 never ⟨Nat.le_of_ble_eq_true rfl, Nat.le_of_ble_eq_true rfl⟩ rfl (Nat.le_of_ble_eq_true rfl) wp1 0 x0 rfl rfl ⟨(show ck + 0 ≤ 601024 by omega), (show sk + 0 ≤ 7293034 by omega)⟩ ?_
  rintro w M' ⟨MX', hI2, hz⟩
  cases hz
  refine BdL.seg hF ok_C_gear 2 [] rfl (show BdL X 551 (L0 X hx hm ho i) [.ref hm, .int v] (M' ++ (oC X ho g :: MM)) (ck + 0) (sk + 0) from ?_)
  refine BdL.callV hF oX12_gear vX12_gear nX12_gear k13_162 (xdecL ok_C_gear 3 rfl) (As := []) (rest := [.int v]) h2 neverM ⟨Nat.le_of_ble_eq_true rfl, Nat.le_of_ble_eq_true rfl⟩ rfl (Nat.le_of_ble_eq_true rfl) wp2 0 m0 rfl rfl ⟨(show ck + 0 + 0 ≤ 601024 by omega), (show sk + 0 + 0 ≤ 7293034 by omega)⟩ ?_
  rintro w M'' hz
  cases hz
  refine BdL.seg hF ok_C_gear 4 [] rfl ⟨fun _ => (show BdL X 2666 (L0 X hx hm ho i) [] (MM' ++ (oC X ho g :: M')) (ck + 0 + 0) (sk + 0 + 0) from ?_), fun c => absurd rfl c⟩
  exact BdL.pm wp3 (BdL.wide (by omega) (by omega) (hk _ _ _ g hI2))
def tb_C_windDirection : List (Nat × List xI) := [(559, [(.aload_n 1, [], 0)]), (560, [(.invokevirtual 163, [], 0)]), (563, [(.aload_n 2, [], 0)]), (564, [(.invokevirtual 166, [], 0)]), (567, [(.if_icmp .eq 2099, [], 0)])]
set_option maxRecDepth 100000 in
theorem ok_C_windDirection : ∀ q ∈ tb_C_windDirection, (xChks (yLw "law") q.1 q.2 && xNoPut q.2) = true := by decide +kernel
set_option maxRecDepth 100000 in
theorem case_windDirection {X : LX} {hx hm ho ck sk : Nat} {e0 i : Int32} {g : Nat → Int64} {MX MM : va_W} (hF : LF X) (hin : ∀ j : Int32, 0 ≤ j → j ≤ 5 → vp_in (i + j) X.n) (hI : INV X.E hx hm e0 MX MM) (hc : ck + 16 ≤ 601024) (hs : sk + 159 ≤ 7293034) (hk : KN X hx hm ho i ck sk) : BdL X 559 (L0 X hx hm ho i) [] (WL X ho g MX MM) ck sk := by
  obtain ⟨MM', v, -, h1, h2⟩ := op_windDirection (Nat.le_refl 400000) hI
  obtain ⟨⟨vs, x0⟩, ⟨ws, m0⟩⟩ := hI.x0
  refine BdL.seg hF ok_C_windDirection 0 [] rfl (show BdL X 560 (L0 X hx hm ho i) [.ref hx] (WL X ho g MX MM) ck sk from ?_)
  refine BdL.callV hF oX11_windDirection vX11_windDirection nX11_windDirection k13_163 (xdecL ok_C_windDirection 1 rfl) (As := []) (rest := []) h1 never ⟨Nat.le_of_ble_eq_true rfl, Nat.le_of_ble_eq_true rfl⟩ rfl (Nat.le_of_ble_eq_true rfl) wp1 0 x0 rfl rfl ⟨(show ck + 0 ≤ 601024 by omega), (show sk + 0 ≤ 7293034 by omega)⟩ ?_
  rintro w M' ⟨MX', hI2, hz⟩
  cases hz
  refine BdL.seg hF ok_C_windDirection 2 [] rfl (show BdL X 564 (L0 X hx hm ho i) [.ref hm, .int v] (M' ++ (oC X ho g :: MM)) (ck + 0) (sk + 0) from ?_)
  refine BdL.callV hF oX12_windDirection vX12_windDirection nX12_windDirection k13_166 (xdecL ok_C_windDirection 3 rfl) (As := []) (rest := [.int v]) h2 neverM ⟨Nat.le_of_ble_eq_true rfl, Nat.le_of_ble_eq_true rfl⟩ rfl (Nat.le_of_ble_eq_true rfl) wp2 0 m0 rfl rfl ⟨(show ck + 0 + 0 ≤ 601024 by omega), (show sk + 0 + 0 ≤ 7293034 by omega)⟩ ?_
  rintro w M'' hz
  cases hz
  refine BdL.seg hF ok_C_windDirection 4 [] rfl ⟨fun _ => (show BdL X 2666 (L0 X hx hm ho i) [] (MM' ++ (oC X ho g :: M')) (ck + 0 + 0) (sk + 0 + 0) from ?_), fun c => absurd rfl c⟩
  exact BdL.pm wp3 (BdL.wide (by omega) (by omega) (hk _ _ _ g hI2))
def tb_C_windStrength : List (Nat × List xI) := [(572, [(.aload_n 1, [], 0)]), (573, [(.invokevirtual 167, [], 0)]), (576, [(.aload_n 2, [], 0)]), (577, [(.invokevirtual 170, [], 0)]), (580, [(.if_icmp .eq 2086, [], 0)])]
set_option maxRecDepth 100000 in
theorem ok_C_windStrength : ∀ q ∈ tb_C_windStrength, (xChks (yLw "law") q.1 q.2 && xNoPut q.2) = true := by decide +kernel
set_option maxRecDepth 100000 in
theorem case_windStrength {X : LX} {hx hm ho ck sk : Nat} {e0 i : Int32} {g : Nat → Int64} {MX MM : va_W} (hF : LF X) (hin : ∀ j : Int32, 0 ≤ j → j ≤ 5 → vp_in (i + j) X.n) (hI : INV X.E hx hm e0 MX MM) (hc : ck + 16 ≤ 601024) (hs : sk + 159 ≤ 7293034) (hk : KN X hx hm ho i ck sk) : BdL X 572 (L0 X hx hm ho i) [] (WL X ho g MX MM) ck sk := by
  obtain ⟨MM', v, -, h1, h2⟩ := op_windStrength (Nat.le_refl 400000) hI
  obtain ⟨⟨vs, x0⟩, ⟨ws, m0⟩⟩ := hI.x0
  refine BdL.seg hF ok_C_windStrength 0 [] rfl (show BdL X 573 (L0 X hx hm ho i) [.ref hx] (WL X ho g MX MM) ck sk from ?_)
  refine BdL.callV hF oX11_windStrength vX11_windStrength nX11_windStrength k13_167 (xdecL ok_C_windStrength 1 rfl) (As := []) (rest := []) h1 never ⟨Nat.le_of_ble_eq_true rfl, Nat.le_of_ble_eq_true rfl⟩ rfl (Nat.le_of_ble_eq_true rfl) wp1 0 x0 rfl rfl ⟨(show ck + 0 ≤ 601024 by omega), (show sk + 0 ≤ 7293034 by omega)⟩ ?_
  rintro w M' ⟨MX', hI2, hz⟩
  cases hz
  refine BdL.seg hF ok_C_windStrength 2 [] rfl (show BdL X 577 (L0 X hx hm ho i) [.ref hm, .int v] (M' ++ (oC X ho g :: MM)) (ck + 0) (sk + 0) from ?_)
  refine BdL.callV hF oX12_windStrength vX12_windStrength nX12_windStrength k13_170 (xdecL ok_C_windStrength 3 rfl) (As := []) (rest := [.int v]) h2 neverM ⟨Nat.le_of_ble_eq_true rfl, Nat.le_of_ble_eq_true rfl⟩ rfl (Nat.le_of_ble_eq_true rfl) wp2 0 m0 rfl rfl ⟨(show ck + 0 + 0 ≤ 601024 by omega), (show sk + 0 + 0 ≤ 7293034 by omega)⟩ ?_
  rintro w M'' hz
  cases hz
  refine BdL.seg hF ok_C_windStrength 4 [] rfl ⟨fun _ => (show BdL X 2666 (L0 X hx hm ho i) [] (MM' ++ (oC X ho g :: M')) (ck + 0 + 0) (sk + 0 + 0) from ?_), fun c => absurd rfl c⟩
  exact BdL.pm wp3 (BdL.wide (by omega) (by omega) (hk _ _ _ g hI2))
def tb_C_vaneDirection : List (Nat × List xI) := [(585, [(.aload_n 1, [], 0)]), (586, [(.invokevirtual 171, [], 0)]), (589, [(.aload_n 2, [], 0)]), (590, [(.invokevirtual 174, [], 0)]), (593, [(.if_icmp .eq 2073, [], 0)])]
set_option maxRecDepth 100000 in
theorem ok_C_vaneDirection : ∀ q ∈ tb_C_vaneDirection, (xChks (yLw "law") q.1 q.2 && xNoPut q.2) = true := by decide +kernel
set_option maxRecDepth 100000 in
theorem case_vaneDirection {X : LX} {hx hm ho ck sk : Nat} {e0 i : Int32} {g : Nat → Int64} {MX MM : va_W} (hF : LF X) (hin : ∀ j : Int32, 0 ≤ j → j ≤ 5 → vp_in (i + j) X.n) (hI : INV X.E hx hm e0 MX MM) (hc : ck + 16 ≤ 601024) (hs : sk + 159 ≤ 7293034) (hk : KN X hx hm ho i ck sk) : BdL X 585 (L0 X hx hm ho i) [] (WL X ho g MX MM) ck sk := by
  obtain ⟨MM', v, -, h1, h2⟩ := op_vaneDirection (Nat.le_refl 400000) hI
  obtain ⟨⟨vs, x0⟩, ⟨ws, m0⟩⟩ := hI.x0
  refine BdL.seg hF ok_C_vaneDirection 0 [] rfl (show BdL X 586 (L0 X hx hm ho i) [.ref hx] (WL X ho g MX MM) ck sk from ?_)
  refine BdL.callV hF oX11_vaneDirection vX11_vaneDirection nX11_vaneDirection k13_171 (xdecL ok_C_vaneDirection 1 rfl) (As := []) (rest := []) h1 never ⟨Nat.le_of_ble_eq_true rfl, Nat.le_of_ble_eq_true rfl⟩ rfl (Nat.le_of_ble_eq_true rfl) wp1 0 x0 rfl rfl ⟨(show ck + 0 ≤ 601024 by omega), (show sk + 0 ≤ 7293034 by omega)⟩ ?_
  rintro w M' ⟨MX', hI2, hz⟩
  cases hz
  refine BdL.seg hF ok_C_vaneDirection 2 [] rfl (show BdL X 590 (L0 X hx hm ho i) [.ref hm, .int v] (M' ++ (oC X ho g :: MM)) (ck + 0) (sk + 0) from ?_)
  refine BdL.callV hF oX12_vaneDirection vX12_vaneDirection nX12_vaneDirection k13_174 (xdecL ok_C_vaneDirection 3 rfl) (As := []) (rest := [.int v]) h2 neverM ⟨Nat.le_of_ble_eq_true rfl, Nat.le_of_ble_eq_true rfl⟩ rfl (Nat.le_of_ble_eq_true rfl) wp2 0 m0 rfl rfl ⟨(show ck + 0 + 0 ≤ 601024 by omega), (show sk + 0 + 0 ≤ 7293034 by omega)⟩ ?_
  rintro w M'' hz
  cases hz
  refine BdL.seg hF ok_C_vaneDirection 4 [] rfl ⟨fun _ => (show BdL X 2666 (L0 X hx hm ho i) [] (MM' ++ (oC X ho g :: M')) (ck + 0 + 0) (sk + 0 + 0) from ?_), fun c => absurd rfl c⟩
  exact BdL.pm wp3 (BdL.wide (by omega) (by omega) (hk _ _ _ g hI2))
def tb_C_deviation : List (Nat × List xI) := [(598, [(.aload_n 1, [], 0)]), (599, [(.invokevirtual 175, [], 0)]), (602, [(.aload_n 2, [], 0)]), (603, [(.invokevirtual 178, [], 0)]), (606, [(.if_icmp .eq 2060, [], 0)])]
set_option maxRecDepth 100000 in
theorem ok_C_deviation : ∀ q ∈ tb_C_deviation, (xChks (yLw "law") q.1 q.2 && xNoPut q.2) = true := by decide +kernel
set_option maxRecDepth 100000 in
theorem case_deviation {X : LX} {hx hm ho ck sk : Nat} {e0 i : Int32} {g : Nat → Int64} {MX MM : va_W} (hF : LF X) (hin : ∀ j : Int32, 0 ≤ j → j ≤ 5 → vp_in (i + j) X.n) (hI : INV X.E hx hm e0 MX MM) (hc : ck + 16 ≤ 601024) (hs : sk + 159 ≤ 7293034) (hk : KN X hx hm ho i ck sk) : BdL X 598 (L0 X hx hm ho i) [] (WL X ho g MX MM) ck sk := by
  obtain ⟨MM', v, -, h1, h2⟩ := op_deviation (Nat.le_refl 400000) hI
  obtain ⟨⟨vs, x0⟩, ⟨ws, m0⟩⟩ := hI.x0
  refine BdL.seg hF ok_C_deviation 0 [] rfl (show BdL X 599 (L0 X hx hm ho i) [.ref hx] (WL X ho g MX MM) ck sk from ?_)
  refine BdL.callV hF oX11_deviation vX11_deviation nX11_deviation k13_175 (xdecL ok_C_deviation 1 rfl) (As := []) (rest := []) h1 never ⟨Nat.le_of_ble_eq_true rfl, Nat.le_of_ble_eq_true rfl⟩ rfl (Nat.le_of_ble_eq_true rfl) wp1 0 x0 rfl rfl ⟨(show ck + 0 ≤ 601024 by omega), (show sk + 0 ≤ 7293034 by omega)⟩ ?_
  rintro w M' ⟨MX', hI2, hz⟩
  cases hz
  refine BdL.seg hF ok_C_deviation 2 [] rfl (show BdL X 603 (L0 X hx hm ho i) [.ref hm, .int v] (M' ++ (oC X ho g :: MM)) (ck + 0) (sk + 0) from ?_)
  refine BdL.callV hF oX12_deviation vX12_deviation nX12_deviation k13_178 (xdecL ok_C_deviation 3 rfl) (As := []) (rest := [.int v]) h2 neverM ⟨Nat.le_of_ble_eq_true rfl, Nat.le_of_ble_eq_true rfl⟩ rfl (Nat.le_of_ble_eq_true rfl) wp2 0 m0 rfl rfl ⟨(show ck + 0 + 0 ≤ 601024 by omega), (show sk + 0 + 0 ≤ 7293034 by omega)⟩ ?_
  rintro w M'' hz
  cases hz
  refine BdL.seg hF ok_C_deviation 4 [] rfl ⟨fun _ => (show BdL X 2666 (L0 X hx hm ho i) [] (MM' ++ (oC X ho g :: M')) (ck + 0 + 0) (sk + 0 + 0) from ?_), fun c => absurd rfl c⟩
  exact BdL.pm wp3 (BdL.wide (by omega) (by omega) (hk _ _ _ g hI2))
def tb_C_draught : List (Nat × List xI) := [(611, [(.aload_n 1, [], 0)]), (612, [(.invokevirtual 179, [], 0)]), (615, [(.aload_n 2, [], 0)]), (616, [(.invokevirtual 182, [], 0)]), (619, [(.if_icmp .eq 2047, [], 0)])]
set_option maxRecDepth 100000 in
theorem ok_C_draught : ∀ q ∈ tb_C_draught, (xChks (yLw "law") q.1 q.2 && xNoPut q.2) = true := by decide +kernel
set_option maxRecDepth 100000 in
theorem case_draught {X : LX} {hx hm ho ck sk : Nat} {e0 i : Int32} {g : Nat → Int64} {MX MM : va_W} (hF : LF X) (hin : ∀ j : Int32, 0 ≤ j → j ≤ 5 → vp_in (i + j) X.n) (hI : INV X.E hx hm e0 MX MM) (hc : ck + 16 ≤ 601024) (hs : sk + 159 ≤ 7293034) (hk : KN X hx hm ho i ck sk) : BdL X 611 (L0 X hx hm ho i) [] (WL X ho g MX MM) ck sk := by
  obtain ⟨MM', v, -, h1, h2⟩ := op_draught (Nat.le_refl 400000) hI
  obtain ⟨⟨vs, x0⟩, ⟨ws, m0⟩⟩ := hI.x0
  refine BdL.seg hF ok_C_draught 0 [] rfl (show BdL X 612 (L0 X hx hm ho i) [.ref hx] (WL X ho g MX MM) ck sk from ?_)
  refine BdL.callV hF oX11_draught vX11_draught nX11_draught k13_179 (xdecL ok_C_draught 1 rfl) (As := []) (rest := []) h1 never ⟨Nat.le_of_ble_eq_true rfl, Nat.le_of_ble_eq_true rfl⟩ rfl (Nat.le_of_ble_eq_true rfl) wp1 0 x0 rfl rfl ⟨(show ck + 0 ≤ 601024 by omega), (show sk + 0 ≤ 7293034 by omega)⟩ ?_
  rintro w M' ⟨MX', hI2, hz⟩
  cases hz
  refine BdL.seg hF ok_C_draught 2 [] rfl (show BdL X 616 (L0 X hx hm ho i) [.ref hm, .int v] (M' ++ (oC X ho g :: MM)) (ck + 0) (sk + 0) from ?_)
  refine BdL.callV hF oX12_draught vX12_draught nX12_draught k13_182 (xdecL ok_C_draught 3 rfl) (As := []) (rest := [.int v]) h2 neverM ⟨Nat.le_of_ble_eq_true rfl, Nat.le_of_ble_eq_true rfl⟩ rfl (Nat.le_of_ble_eq_true rfl) wp2 0 m0 rfl rfl ⟨(show ck + 0 + 0 ≤ 601024 by omega), (show sk + 0 + 0 ≤ 7293034 by omega)⟩ ?_
  rintro w M'' hz
  cases hz
  refine BdL.seg hF ok_C_draught 4 [] rfl ⟨fun _ => (show BdL X 2666 (L0 X hx hm ho i) [] (MM' ++ (oC X ho g :: M')) (ck + 0 + 0) (sk + 0 + 0) from ?_), fun c => absurd rfl c⟩
  exact BdL.pm wp3 (BdL.wide (by omega) (by omega) (hk _ _ _ g hI2))
def tb_C_floorCount : List (Nat × List xI) := [(624, [(.aload_n 1, [], 0)]), (625, [(.invokevirtual 183, [], 0)]), (628, [(.aload_n 2, [], 0)]), (629, [(.invokevirtual 186, [], 0)]), (632, [(.if_icmp .eq 2034, [], 0)])]
set_option maxRecDepth 100000 in
theorem ok_C_floorCount : ∀ q ∈ tb_C_floorCount, (xChks (yLw "law") q.1 q.2 && xNoPut q.2) = true := by decide +kernel
set_option maxRecDepth 100000 in
theorem case_floorCount {X : LX} {hx hm ho ck sk : Nat} {e0 i : Int32} {g : Nat → Int64} {MX MM : va_W} (hF : LF X) (hin : ∀ j : Int32, 0 ≤ j → j ≤ 5 → vp_in (i + j) X.n) (hI : INV X.E hx hm e0 MX MM) (hc : ck + 16 ≤ 601024) (hs : sk + 159 ≤ 7293034) (hk : KN X hx hm ho i ck sk) : BdL X 624 (L0 X hx hm ho i) [] (WL X ho g MX MM) ck sk := by
  obtain ⟨MM', v, -, h1, h2⟩ := op_floorCount (Nat.le_refl 400000) hI
  obtain ⟨⟨vs, x0⟩, ⟨ws, m0⟩⟩ := hI.x0
  refine BdL.seg hF ok_C_floorCount 0 [] rfl (show BdL X 625 (L0 X hx hm ho i) [.ref hx] (WL X ho g MX MM) ck sk from ?_)
  refine BdL.callV hF oX11_floorCount vX11_floorCount nX11_floorCount k13_183 (xdecL ok_C_floorCount 1 rfl) (As := []) (rest := []) h1 never ⟨Nat.le_of_ble_eq_true rfl, Nat.le_of_ble_eq_true rfl⟩ rfl (Nat.le_of_ble_eq_true rfl) wp1 0 x0 rfl rfl ⟨(show ck + 0 ≤ 601024 by omega), (show sk + 0 ≤ 7293034 by omega)⟩ ?_
  rintro w M' ⟨MX', hI2, hz⟩
  cases hz
  refine BdL.seg hF ok_C_floorCount 2 [] rfl (show BdL X 629 (L0 X hx hm ho i) [.ref hm, .int v] (M' ++ (oC X ho g :: MM)) (ck + 0) (sk + 0) from ?_)
  refine BdL.callV hF oX12_floorCount vX12_floorCount nX12_floorCount k13_186 (xdecL ok_C_floorCount 3 rfl) (As := []) (rest := [.int v]) h2 neverM ⟨Nat.le_of_ble_eq_true rfl, Nat.le_of_ble_eq_true rfl⟩ rfl (Nat.le_of_ble_eq_true rfl) wp2 0 m0 rfl rfl ⟨(show ck + 0 + 0 ≤ 601024 by omega), (show sk + 0 + 0 ≤ 7293034 by omega)⟩ ?_
  rintro w M'' hz
  cases hz
  refine BdL.seg hF ok_C_floorCount 4 [] rfl ⟨fun _ => (show BdL X 2666 (L0 X hx hm ho i) [] (MM' ++ (oC X ho g :: M')) (ck + 0 + 0) (sk + 0 + 0) from ?_), fun c => absurd rfl c⟩
  exact BdL.pm wp3 (BdL.wide (by omega) (by omega) (hk _ _ _ g hI2))
def tb_C_limitOf : List (Nat × List xI) := [(637, [(.aload_n 1, [], 0), (.aload_n 0, [], 0), (.iload 4, [], 0), (.iconst 1, [], 1), (.iadd, [], 0)]), (643, [(.iaload, [], 0)]), (644, [(.aload_n 3, [], 0)]), (645, [(.invokestatic 187, [], 0)]), (648, [(.istore 5, [], 0), (.aload_n 2, [], 0), (.aload_n 0, [], 0), (.iload 4, [], 0), (.iconst 1, [], 1), (.iadd, [], 0)]), (656, [(.iaload, [], 0)]), (657, [(.invokevirtual 189, [], 0)]), (660, [(.istore 6, [], 0), (.aload_n 2, [], 0)]), (663, [(.invokevirtual 128, [], 0)]), (666, [(.iload 5, [], 0), (.if_icmp .eq 5, [], 0)]), (673, [(.iload 5, [], 0), (.ifCond .ne 15, [], 0)]), (690, [(.goto 1976, [], 0)]), (678, [(.aload_n 3, [], 0), (.iconst 0, [], 0), (.laload, [], 0), (.iload 6, [], 0), (.i2l, [], 0), (.lcmp, [], 0), (.ifCond .eq 5, [], 0)])]
set_option maxRecDepth 100000 in
theorem ok_C_limitOf : ∀ q ∈ tb_C_limitOf, (xChks (yLw "law") q.1 q.2 && xNoPut q.2) = true := by decide +kernel
set_option maxRecDepth 100000 in
theorem case_limitOf {X : LX} {hx hm ho ck sk : Nat} {e0 i : Int32} {g : Nat → Int64} {MX MM : va_W} (hF : LF X) (hin : ∀ j : Int32, 0 ≤ j → j ≤ 5 → vp_in (i + j) X.n) (hI : INV X.E hx hm e0 MX MM) (hc : ck + 16 ≤ 601024) (hs : sk + 159 ≤ 7293034) (hk : KN X hx hm ho i ck sk) : BdL X 637 (L0 X hx hm ho i) [] (WL X ho g MX MM) ck sk := by
  obtain ⟨MM', k, v, e, ha, h1, h2⟩ := op_limitOf (Nat.le_refl 400000) hI (X.xs (i + 1).toNatClampNeg)
  obtain ⟨-, ⟨ws, m0⟩⟩ := hI.x0
  refine BdL.seg hF ok_C_limitOf 0 [] rfl (show BdL X 643 [some (.ref X.b), some (.ref hx), some (.ref hm), some (.ref ho), some (.int i), none, none, none, none] (.int (i + 1) :: .ref X.b :: [.ref hx]) (WL X ho g MX MM) ck sk from ?_)
  refine BdL.sld hF (xdecL ok_C_limitOf 1 rfl) (hin 1 (by decide) (by decide)) ?_
  refine BdL.seg hF ok_C_limitOf 2 [] rfl (show BdL X 645 [some (.ref X.b), some (.ref hx), some (.ref hm), some (.ref ho), some (.int i), none, none, none, none] (.ref ho :: (.int (X.xs (i + 1).toNatClampNeg) :: [.ref hx])) (WL X ho g MX MM) ck sk from ?_)
  refine BdL.callH hF wL_limitOf vL_limitOf ini13 xpl13.2 nL_limitOf kL_limitOf (xdecL ok_C_limitOf 3 rfl) (As := [.ref hx, .int (X.xs (i + 1).toNatClampNeg), .ref ho]) (rest := []) (Mc := oC X ho g :: MX) (Rest := MM) (s_L_limitOf g h1 ha hI.x0.1) ⟨Nat.le_of_ble_eq_true rfl, Nat.le_of_ble_eq_true rfl⟩ rfl (Nat.le_of_ble_eq_true rfl) (List.Perm.refl _) ⟨(show ck + 1 ≤ 601024 by omega), (show sk + 6 ≤ 7293034 by omega)⟩ ?_
  rintro w M' ⟨MX', g', hI2, hg, hz⟩
  cases hz
  refine BdL.seg hF ok_C_limitOf 4 [] rfl ⟨Nat.le_of_ble_eq_true rfl, (show BdL X 656 [some (.ref X.b), some (.ref hx), some (.ref hm), some (.ref ho), some (.int i), some (.int e), none, none, none] (.int (i + 1) :: .ref X.b :: [.ref hm]) (oC X ho g' :: MX' ++ MM) (ck + 1) (sk + 6) from ?_)⟩
  refine BdL.sld hF (xdecL ok_C_limitOf 5 rfl) (hin 1 (by decide) (by decide)) ?_
  refine BdL.callV hF oX12_limitOf vX12_limitOf nX12_limitOf k13_189 (xdecL ok_C_limitOf 6 rfl) (As := [.int (X.xs (i + 1).toNatClampNeg)]) (rest := []) h2 neverM ⟨Nat.le_of_ble_eq_true rfl, Nat.le_of_ble_eq_true rfl⟩ rfl (Nat.le_of_ble_eq_true rfl) wp4 0 m0 rfl rfl ⟨(show ck + 1 + 0 ≤ 601024 by omega), (show sk + 6 + 0 ≤ 7293034 by omega)⟩ ?_
  rintro w M'' hz
  cases hz
  obtain ⟨-, ⟨ws2, m1⟩⟩ := hI2.x0
  refine BdL.seg hF ok_C_limitOf 7 [] rfl ⟨Nat.le_of_ble_eq_true rfl, (show BdL X 663 [some (.ref X.b), some (.ref hx), some (.ref hm), some (.ref ho), some (.int i), some (.int e), some (.int v), none, none] [.ref hm] (MM' ++ (oC X ho g' :: MX')) (ck + 1 + 0) (sk + 6 + 0) from ?_)⟩
  refine BdL.callV hF oX12_thrown vX12_thrown nX12_thrown k13_128 (xdecL ok_C_limitOf 8 rfl) (As := []) (rest := []) (op_thrown hI2) neverM ⟨Nat.le_of_ble_eq_true rfl, Nat.le_of_ble_eq_true rfl⟩ rfl (Nat.le_of_ble_eq_true rfl) (List.Perm.refl _) 0 m1 rfl rfl ⟨(show ck + 1 + 0 + 0 ≤ 601024 by omega), (show sk + 6 + 0 + 0 ≤ 7293034 by omega)⟩ ?_
  rintro w M'' hz
  cases hz
  refine BdL.pm wp3 ?_
  refine BdL.seg hF ok_C_limitOf 9 [] rfl ⟨fun _ => (show BdL X 673 [some (.ref X.b), some (.ref hx), some (.ref hm), some (.ref ho), some (.int i), some (.int e), some (.int v), none, none] [] (oC X ho g' :: (MX' ++ MM')) (ck + 1 + 0 + 0) (sk + 6 + 0 + 0) from ?_), fun c => absurd rfl c⟩
  have hend : BdL X 690 [some (.ref X.b), some (.ref hx), some (.ref hm), some (.ref ho), some (.int i), some (.int e), some (.int v), none, none] [] (oC X ho g' :: (MX' ++ MM')) (ck + 1 + 0 + 0) (sk + 6 + 0 + 0) := by
    refine BdL.seg hF ok_C_limitOf 11 [] rfl (show BdL X 2666 [some (.ref X.b), some (.ref hx), some (.ref hm), some (.ref ho), some (.int i), some (.int e), some (.int v), none, none] [] (oC X ho g' :: (MX' ++ MM')) (ck + 1 + 0 + 0) (sk + 6 + 0 + 0) from ?_)
    exact BdL.weak (BdL.wide (by omega) (by omega) (hk _ _ _ g' hI2)) ⟨rfl, rfl, rfl, rfl, rfl, trivial⟩
  refine BdL.seg hF ok_C_limitOf 10 [] rfl ⟨fun _ => hend, fun c0 => (show BdL X 678 [some (.ref X.b), some (.ref hx), some (.ref hm), some (.ref ho), some (.int i), some (.int e), some (.int v), none, none] [] (oC X ho g' :: (MX' ++ MM')) (ck + 1 + 0 + 0) (sk + 6 + 0 + 0) from ?_)⟩
  have hg0 : g' (Int32.toNatClampNeg 0) = v.toInt64 := hg c0
  refine BdL.seg hF ok_C_limitOf 12 [0] rfl ⟨⟨rfl, rfl⟩, xg (by decide), fun _ => hend, fun c1 => absurd ?_ c1⟩
  rw [hg0]
  exact cmp0 _
def tb_C_temperatureOf : List (Nat × List xI) := [(693, [(.aload_n 1, [], 0), (.aload_n 0, [], 0), (.iload 4, [], 0), (.iconst 1, [], 1), (.iadd, [], 0)]), (699, [(.iaload, [], 0)]), (700, [(.aload_n 3, [], 0)]), (701, [(.invokestatic 190, [], 0)]), (704, [(.istore 5, [], 0), (.aload_n 2, [], 0), (.aload_n 0, [], 0), (.iload 4, [], 0), (.iconst 1, [], 1), (.iadd, [], 0)]), (712, [(.iaload, [], 0)]), (713, [(.invokevirtual 192, [], 0)]), (716, [(.istore 6, [], 0), (.aload_n 2, [], 0)]), (719, [(.invokevirtual 128, [], 0)]), (722, [(.iload 5, [], 0), (.if_icmp .eq 5, [], 0)]), (729, [(.iload 5, [], 0), (.ifCond .ne 15, [], 0)]), (746, [(.goto 1920, [], 0)]), (734, [(.aload_n 3, [], 0), (.iconst 0, [], 0), (.laload, [], 0), (.iload 6, [], 0), (.i2l, [], 0), (.lcmp, [], 0), (.ifCond .eq 5, [], 0)])]
set_option maxRecDepth 100000 in
theorem ok_C_temperatureOf : ∀ q ∈ tb_C_temperatureOf, (xChks (yLw "law") q.1 q.2 && xNoPut q.2) = true := by decide +kernel
set_option maxRecDepth 100000 in
theorem case_temperatureOf {X : LX} {hx hm ho ck sk : Nat} {e0 i : Int32} {g : Nat → Int64} {MX MM : va_W} (hF : LF X) (hin : ∀ j : Int32, 0 ≤ j → j ≤ 5 → vp_in (i + j) X.n) (hI : INV X.E hx hm e0 MX MM) (hc : ck + 16 ≤ 601024) (hs : sk + 159 ≤ 7293034) (hk : KN X hx hm ho i ck sk) : BdL X 693 (L0 X hx hm ho i) [] (WL X ho g MX MM) ck sk := by
  obtain ⟨MM', k, v, e, ha, h1, h2⟩ := op_temperatureOf (Nat.le_refl 400000) hI (X.xs (i + 1).toNatClampNeg)
  obtain ⟨-, ⟨ws, m0⟩⟩ := hI.x0
  refine BdL.seg hF ok_C_temperatureOf 0 [] rfl (show BdL X 699 [some (.ref X.b), some (.ref hx), some (.ref hm), some (.ref ho), some (.int i), none, none, none, none] (.int (i + 1) :: .ref X.b :: [.ref hx]) (WL X ho g MX MM) ck sk from ?_)
  refine BdL.sld hF (xdecL ok_C_temperatureOf 1 rfl) (hin 1 (by decide) (by decide)) ?_
  refine BdL.seg hF ok_C_temperatureOf 2 [] rfl (show BdL X 701 [some (.ref X.b), some (.ref hx), some (.ref hm), some (.ref ho), some (.int i), none, none, none, none] (.ref ho :: (.int (X.xs (i + 1).toNatClampNeg) :: [.ref hx])) (WL X ho g MX MM) ck sk from ?_)
  refine BdL.callH hF wL_temperatureOf vL_temperatureOf ini13 xpl13.2 nL_temperatureOf kL_temperatureOf (xdecL ok_C_temperatureOf 3 rfl) (As := [.ref hx, .int (X.xs (i + 1).toNatClampNeg), .ref ho]) (rest := []) (Mc := oC X ho g :: MX) (Rest := MM) (s_L_temperatureOf g h1 ha hI.x0.1) ⟨Nat.le_of_ble_eq_true rfl, Nat.le_of_ble_eq_true rfl⟩ rfl (Nat.le_of_ble_eq_true rfl) (List.Perm.refl _) ⟨(show ck + 1 ≤ 601024 by omega), (show sk + 6 ≤ 7293034 by omega)⟩ ?_
  rintro w M' ⟨MX', g', hI2, hg, hz⟩
  cases hz
  refine BdL.seg hF ok_C_temperatureOf 4 [] rfl ⟨Nat.le_of_ble_eq_true rfl, (show BdL X 712 [some (.ref X.b), some (.ref hx), some (.ref hm), some (.ref ho), some (.int i), some (.int e), none, none, none] (.int (i + 1) :: .ref X.b :: [.ref hm]) (oC X ho g' :: MX' ++ MM) (ck + 1) (sk + 6) from ?_)⟩
  refine BdL.sld hF (xdecL ok_C_temperatureOf 5 rfl) (hin 1 (by decide) (by decide)) ?_
  refine BdL.callV hF oX12_temperatureOf vX12_temperatureOf nX12_temperatureOf k13_192 (xdecL ok_C_temperatureOf 6 rfl) (As := [.int (X.xs (i + 1).toNatClampNeg)]) (rest := []) h2 neverM ⟨Nat.le_of_ble_eq_true rfl, Nat.le_of_ble_eq_true rfl⟩ rfl (Nat.le_of_ble_eq_true rfl) wp4 0 m0 rfl rfl ⟨(show ck + 1 + 0 ≤ 601024 by omega), (show sk + 6 + 0 ≤ 7293034 by omega)⟩ ?_
  rintro w M'' hz
  cases hz
  obtain ⟨-, ⟨ws2, m1⟩⟩ := hI2.x0
  refine BdL.seg hF ok_C_temperatureOf 7 [] rfl ⟨Nat.le_of_ble_eq_true rfl, (show BdL X 719 [some (.ref X.b), some (.ref hx), some (.ref hm), some (.ref ho), some (.int i), some (.int e), some (.int v), none, none] [.ref hm] (MM' ++ (oC X ho g' :: MX')) (ck + 1 + 0) (sk + 6 + 0) from ?_)⟩
  refine BdL.callV hF oX12_thrown vX12_thrown nX12_thrown k13_128 (xdecL ok_C_temperatureOf 8 rfl) (As := []) (rest := []) (op_thrown hI2) neverM ⟨Nat.le_of_ble_eq_true rfl, Nat.le_of_ble_eq_true rfl⟩ rfl (Nat.le_of_ble_eq_true rfl) (List.Perm.refl _) 0 m1 rfl rfl ⟨(show ck + 1 + 0 + 0 ≤ 601024 by omega), (show sk + 6 + 0 + 0 ≤ 7293034 by omega)⟩ ?_
  rintro w M'' hz
  cases hz
  refine BdL.pm wp3 ?_
  refine BdL.seg hF ok_C_temperatureOf 9 [] rfl ⟨fun _ => (show BdL X 729 [some (.ref X.b), some (.ref hx), some (.ref hm), some (.ref ho), some (.int i), some (.int e), some (.int v), none, none] [] (oC X ho g' :: (MX' ++ MM')) (ck + 1 + 0 + 0) (sk + 6 + 0 + 0) from ?_), fun c => absurd rfl c⟩
  have hend : BdL X 746 [some (.ref X.b), some (.ref hx), some (.ref hm), some (.ref ho), some (.int i), some (.int e), some (.int v), none, none] [] (oC X ho g' :: (MX' ++ MM')) (ck + 1 + 0 + 0) (sk + 6 + 0 + 0) := by
    refine BdL.seg hF ok_C_temperatureOf 11 [] rfl (show BdL X 2666 [some (.ref X.b), some (.ref hx), some (.ref hm), some (.ref ho), some (.int i), some (.int e), some (.int v), none, none] [] (oC X ho g' :: (MX' ++ MM')) (ck + 1 + 0 + 0) (sk + 6 + 0 + 0) from ?_)
    exact BdL.weak (BdL.wide (by omega) (by omega) (hk _ _ _ g' hI2)) ⟨rfl, rfl, rfl, rfl, rfl, trivial⟩
  refine BdL.seg hF ok_C_temperatureOf 10 [] rfl ⟨fun _ => hend, fun c0 => (show BdL X 734 [some (.ref X.b), some (.ref hx), some (.ref hm), some (.ref ho), some (.int i), some (.int e), some (.int v), none, none] [] (oC X ho g' :: (MX' ++ MM')) (ck + 1 + 0 + 0) (sk + 6 + 0 + 0) from ?_)⟩
  have hg0 : g' (Int32.toNatClampNeg 0) = v.toInt64 := hg c0
  refine BdL.seg hF ok_C_temperatureOf 12 [0] rfl ⟨⟨rfl, rfl⟩, xg (by decide), fun _ => hend, fun c1 => absurd ?_ c1⟩
  rw [hg0]
  exact cmp0 _
def tb_C_hasLoad : List (Nat × List xI) := [(749, [(.aload_n 1, [], 0), (.aload_n 0, [], 0), (.iload 4, [], 0), (.iconst 1, [], 1), (.iadd, [], 0)]), (755, [(.iaload, [], 0)]), (756, [(.aload_n 3, [], 0)]), (757, [(.invokestatic 193, [], 0)]), (760, [(.istore 5, [], 0), (.aload_n 2, [], 0), (.aload_n 0, [], 0), (.iload 4, [], 0), (.iconst 1, [], 1), (.iadd, [], 0)]), (768, [(.iaload, [], 0)]), (769, [(.invokevirtual 195, [], 0)]), (772, [(.istore 6, [], 0), (.aload_n 2, [], 0)]), (775, [(.invokevirtual 128, [], 0)]), (778, [(.iload 5, [], 0), (.if_icmp .eq 5, [], 0)]), (785, [(.iload 5, [], 0), (.ifCond .ne 22, [], 0)]), (809, [(.goto 1857, [], 0)]), (790, [(.aload_n 3, [], 0), (.iconst 0, [], 0), (.laload, [], 0), (.iload 6, [], 0), (.ifCond .eq 7, [], 0)]), (802, [(.lconst 0, [], 0), (.lcmp, [], 0), (.ifCond .eq 5, [], 0)]), (798, [(.lconst 1, [], 0), (.goto 4, [], 0)]), (803, [(.lcmp, [], 0), (.ifCond .eq 5, [], 0)])]
set_option maxRecDepth 100000 in
theorem ok_C_hasLoad : ∀ q ∈ tb_C_hasLoad, (xChks (yLw "law") q.1 q.2 && xNoPut q.2) = true := by decide +kernel
set_option maxRecDepth 100000 in
theorem case_hasLoad {X : LX} {hx hm ho ck sk : Nat} {e0 i : Int32} {g : Nat → Int64} {MX MM : va_W} (hF : LF X) (hin : ∀ j : Int32, 0 ≤ j → j ≤ 5 → vp_in (i + j) X.n) (hI : INV X.E hx hm e0 MX MM) (hc : ck + 16 ≤ 601024) (hs : sk + 159 ≤ 7293034) (hk : KN X hx hm ho i ck sk) : BdL X 749 (L0 X hx hm ho i) [] (WL X ho g MX MM) ck sk := by
  obtain ⟨MM', k, v, e, ha, h1, h2⟩ := op_hasLoad (Nat.le_refl 400000) hI (X.xs (i + 1).toNatClampNeg)
  obtain ⟨-, ⟨ws, m0⟩⟩ := hI.x0
  refine BdL.seg hF ok_C_hasLoad 0 [] rfl (show BdL X 755 [some (.ref X.b), some (.ref hx), some (.ref hm), some (.ref ho), some (.int i), none, none, none, none] (.int (i + 1) :: .ref X.b :: [.ref hx]) (WL X ho g MX MM) ck sk from ?_)
  refine BdL.sld hF (xdecL ok_C_hasLoad 1 rfl) (hin 1 (by decide) (by decide)) ?_
  refine BdL.seg hF ok_C_hasLoad 2 [] rfl (show BdL X 757 [some (.ref X.b), some (.ref hx), some (.ref hm), some (.ref ho), some (.int i), none, none, none, none] (.ref ho :: (.int (X.xs (i + 1).toNatClampNeg) :: [.ref hx])) (WL X ho g MX MM) ck sk from ?_)
  refine BdL.callH hF wL_hasLoad vL_hasLoad ini13 xpl13.2 nL_hasLoad kL_hasLoad (xdecL ok_C_hasLoad 3 rfl) (As := [.ref hx, .int (X.xs (i + 1).toNatClampNeg), .ref ho]) (rest := []) (Mc := oC X ho g :: MX) (Rest := MM) (s_L_hasLoad g h1 ha hI.x0.1) ⟨Nat.le_of_ble_eq_true rfl, Nat.le_of_ble_eq_true rfl⟩ rfl (Nat.le_of_ble_eq_true rfl) (List.Perm.refl _) ⟨(show ck + 1 ≤ 601024 by omega), (show sk + 6 ≤ 7293034 by omega)⟩ ?_
  rintro w M' ⟨MX', g', hI2, hg, hz⟩
  cases hz
  refine BdL.seg hF ok_C_hasLoad 4 [] rfl ⟨Nat.le_of_ble_eq_true rfl, (show BdL X 768 [some (.ref X.b), some (.ref hx), some (.ref hm), some (.ref ho), some (.int i), some (.int e), none, none, none] (.int (i + 1) :: .ref X.b :: [.ref hm]) (oC X ho g' :: MX' ++ MM) (ck + 1) (sk + 6) from ?_)⟩
  refine BdL.sld hF (xdecL ok_C_hasLoad 5 rfl) (hin 1 (by decide) (by decide)) ?_
  refine BdL.callV hF oX12_hasLoad vX12_hasLoad nX12_hasLoad k13_195 (xdecL ok_C_hasLoad 6 rfl) (As := [.int (X.xs (i + 1).toNatClampNeg)]) (rest := []) h2 neverM ⟨Nat.le_of_ble_eq_true rfl, Nat.le_of_ble_eq_true rfl⟩ rfl (Nat.le_of_ble_eq_true rfl) wp4 0 m0 rfl rfl ⟨(show ck + 1 + 0 ≤ 601024 by omega), (show sk + 6 + 0 ≤ 7293034 by omega)⟩ ?_
  rintro w M'' hz
  cases hz
  obtain ⟨-, ⟨ws2, m1⟩⟩ := hI2.x0
  refine BdL.seg hF ok_C_hasLoad 7 [] rfl ⟨Nat.le_of_ble_eq_true rfl, (show BdL X 775 [some (.ref X.b), some (.ref hx), some (.ref hm), some (.ref ho), some (.int i), some (.int e), some (.int v), none, none] [.ref hm] (MM' ++ (oC X ho g' :: MX')) (ck + 1 + 0) (sk + 6 + 0) from ?_)⟩
  refine BdL.callV hF oX12_thrown vX12_thrown nX12_thrown k13_128 (xdecL ok_C_hasLoad 8 rfl) (As := []) (rest := []) (op_thrown hI2) neverM ⟨Nat.le_of_ble_eq_true rfl, Nat.le_of_ble_eq_true rfl⟩ rfl (Nat.le_of_ble_eq_true rfl) (List.Perm.refl _) 0 m1 rfl rfl ⟨(show ck + 1 + 0 + 0 ≤ 601024 by omega), (show sk + 6 + 0 + 0 ≤ 7293034 by omega)⟩ ?_
  rintro w M'' hz
  cases hz
  refine BdL.pm wp3 ?_
  refine BdL.seg hF ok_C_hasLoad 9 [] rfl ⟨fun _ => (show BdL X 785 [some (.ref X.b), some (.ref hx), some (.ref hm), some (.ref ho), some (.int i), some (.int e), some (.int v), none, none] [] (oC X ho g' :: (MX' ++ MM')) (ck + 1 + 0 + 0) (sk + 6 + 0 + 0) from ?_), fun c => absurd rfl c⟩
  have hend : BdL X 809 [some (.ref X.b), some (.ref hx), some (.ref hm), some (.ref ho), some (.int i), some (.int e), some (.int v), none, none] [] (oC X ho g' :: (MX' ++ MM')) (ck + 1 + 0 + 0) (sk + 6 + 0 + 0) := by
    refine BdL.seg hF ok_C_hasLoad 11 [] rfl (show BdL X 2666 [some (.ref X.b), some (.ref hx), some (.ref hm), some (.ref ho), some (.int i), some (.int e), some (.int v), none, none] [] (oC X ho g' :: (MX' ++ MM')) (ck + 1 + 0 + 0) (sk + 6 + 0 + 0) from ?_)
    exact BdL.weak (BdL.wide (by omega) (by omega) (hk _ _ _ g' hI2)) ⟨rfl, rfl, rfl, rfl, rfl, trivial⟩
  refine BdL.seg hF ok_C_hasLoad 10 [] rfl ⟨fun _ => hend, fun c0 => (show BdL X 790 [some (.ref X.b), some (.ref hx), some (.ref hm), some (.ref ho), some (.int i), some (.int e), some (.int v), none, none] [] (oC X ho g' :: (MX' ++ MM')) (ck + 1 + 0 + 0) (sk + 6 + 0 + 0) from ?_)⟩
  refine BdL.seg hF ok_C_hasLoad 12 [0] rfl ⟨⟨rfl, rfl⟩, xg (by decide), fun cv => (show BdL X 802 [some (.ref X.b), some (.ref hx), some (.ref hm), some (.ref ho), some (.int i), some (.int e), some (.int v), none, none] [.long (g' (Int32.toNatClampNeg 0))] (oC X ho g' :: (MX' ++ MM')) (ck + 1 + 0 + 0) (sk + 6 + 0 + 0) from ?_), fun cv => (show BdL X 798 [some (.ref X.b), some (.ref hx), some (.ref hm), some (.ref ho), some (.int i), some (.int e), some (.int v), none, none] [.long (g' (Int32.toNatClampNeg 0))] (oC X ho g' :: (MX' ++ MM')) (ck + 1 + 0 + 0) (sk + 6 + 0 + 0) from ?_)⟩
  · have hg0 : g' (Int32.toNatClampNeg 0) = Int64.ofNat 0 := (hg c0).trans (if_pos cv)
    rw [hg0]
    exact BdL.seg hF ok_C_hasLoad 13 [] rfl ⟨fun _ => hend, fun c1 => absurd (cmp0 _) c1⟩
  · have hg0 : g' (Int32.toNatClampNeg 0) = Int64.ofNat 1 := (hg c0).trans (if_neg cv)
    rw [hg0]
    refine BdL.seg hF ok_C_hasLoad 14 [] rfl (show BdL X 803 [some (.ref X.b), some (.ref hx), some (.ref hm), some (.ref ho), some (.int i), some (.int e), some (.int v), none, none] [.long (Int64.ofNat 1), .long (Int64.ofNat 1)] (oC X ho g' :: (MX' ++ MM')) (ck + 1 + 0 + 0) (sk + 6 + 0 + 0) from ?_)
    exact BdL.seg hF ok_C_hasLoad 15 [] rfl ⟨fun _ => hend, fun c1 => absurd (cmp0 _) c1⟩
def tb_C_massOn : List (Nat × List xI) := [(812, [(.aload_n 1, [], 0), (.aload_n 0, [], 0), (.iload 4, [], 0), (.iconst 1, [], 1), (.iadd, [], 0)]), (818, [(.iaload, [], 0)]), (819, [(.aload_n 3, [], 0)]), (820, [(.invokestatic 196, [], 0)]), (823, [(.istore 5, [], 0), (.aload_n 2, [], 0), (.aload_n 0, [], 0), (.iload 4, [], 0), (.iconst 1, [], 1), (.iadd, [], 0)]), (831, [(.iaload, [], 0)]), (832, [(.invokevirtual 198, [], 0)]), (835, [(.istore 6, [], 0), (.aload_n 2, [], 0)]), (838, [(.invokevirtual 128, [], 0)]), (841, [(.iload 5, [], 0), (.if_icmp .eq 5, [], 0)]), (848, [(.iload 5, [], 0), (.ifCond .ne 15, [], 0)]), (865, [(.goto 1801, [], 0)]), (853, [(.aload_n 3, [], 0), (.iconst 0, [], 0), (.laload, [], 0), (.iload 6, [], 0), (.i2l, [], 0), (.lcmp, [], 0), (.ifCond .eq 5, [], 0)])]
set_option maxRecDepth 100000 in
theorem ok_C_massOn : ∀ q ∈ tb_C_massOn, (xChks (yLw "law") q.1 q.2 && xNoPut q.2) = true := by decide +kernel
set_option maxRecDepth 100000 in
theorem case_massOn {X : LX} {hx hm ho ck sk : Nat} {e0 i : Int32} {g : Nat → Int64} {MX MM : va_W} (hF : LF X) (hin : ∀ j : Int32, 0 ≤ j → j ≤ 5 → vp_in (i + j) X.n) (hI : INV X.E hx hm e0 MX MM) (hc : ck + 16 ≤ 601024) (hs : sk + 159 ≤ 7293034) (hk : KN X hx hm ho i ck sk) : BdL X 812 (L0 X hx hm ho i) [] (WL X ho g MX MM) ck sk := by
  obtain ⟨MM', k, v, e, ha, h1, h2⟩ := op_massOn (Nat.le_refl 400000) hI (X.xs (i + 1).toNatClampNeg)
  obtain ⟨-, ⟨ws, m0⟩⟩ := hI.x0
  refine BdL.seg hF ok_C_massOn 0 [] rfl (show BdL X 818 [some (.ref X.b), some (.ref hx), some (.ref hm), some (.ref ho), some (.int i), none, none, none, none] (.int (i + 1) :: .ref X.b :: [.ref hx]) (WL X ho g MX MM) ck sk from ?_)
  refine BdL.sld hF (xdecL ok_C_massOn 1 rfl) (hin 1 (by decide) (by decide)) ?_
  refine BdL.seg hF ok_C_massOn 2 [] rfl (show BdL X 820 [some (.ref X.b), some (.ref hx), some (.ref hm), some (.ref ho), some (.int i), none, none, none, none] (.ref ho :: (.int (X.xs (i + 1).toNatClampNeg) :: [.ref hx])) (WL X ho g MX MM) ck sk from ?_)
  refine BdL.callH hF wL_massOn vL_massOn ini13 xpl13.2 nL_massOn kL_massOn (xdecL ok_C_massOn 3 rfl) (As := [.ref hx, .int (X.xs (i + 1).toNatClampNeg), .ref ho]) (rest := []) (Mc := oC X ho g :: MX) (Rest := MM) (s_L_massOn g h1 ha hI.x0.1) ⟨Nat.le_of_ble_eq_true rfl, Nat.le_of_ble_eq_true rfl⟩ rfl (Nat.le_of_ble_eq_true rfl) (List.Perm.refl _) ⟨(show ck + 1 ≤ 601024 by omega), (show sk + 6 ≤ 7293034 by omega)⟩ ?_
  rintro w M' ⟨MX', g', hI2, hg, hz⟩
  cases hz
  refine BdL.seg hF ok_C_massOn 4 [] rfl ⟨Nat.le_of_ble_eq_true rfl, (show BdL X 831 [some (.ref X.b), some (.ref hx), some (.ref hm), some (.ref ho), some (.int i), some (.int e), none, none, none] (.int (i + 1) :: .ref X.b :: [.ref hm]) (oC X ho g' :: MX' ++ MM) (ck + 1) (sk + 6) from ?_)⟩
  refine BdL.sld hF (xdecL ok_C_massOn 5 rfl) (hin 1 (by decide) (by decide)) ?_
  refine BdL.callV hF oX12_massOn vX12_massOn nX12_massOn k13_198 (xdecL ok_C_massOn 6 rfl) (As := [.int (X.xs (i + 1).toNatClampNeg)]) (rest := []) h2 neverM ⟨Nat.le_of_ble_eq_true rfl, Nat.le_of_ble_eq_true rfl⟩ rfl (Nat.le_of_ble_eq_true rfl) wp4 0 m0 rfl rfl ⟨(show ck + 1 + 0 ≤ 601024 by omega), (show sk + 6 + 0 ≤ 7293034 by omega)⟩ ?_
  rintro w M'' hz
  cases hz
  obtain ⟨-, ⟨ws2, m1⟩⟩ := hI2.x0
  refine BdL.seg hF ok_C_massOn 7 [] rfl ⟨Nat.le_of_ble_eq_true rfl, (show BdL X 838 [some (.ref X.b), some (.ref hx), some (.ref hm), some (.ref ho), some (.int i), some (.int e), some (.int v), none, none] [.ref hm] (MM' ++ (oC X ho g' :: MX')) (ck + 1 + 0) (sk + 6 + 0) from ?_)⟩
  refine BdL.callV hF oX12_thrown vX12_thrown nX12_thrown k13_128 (xdecL ok_C_massOn 8 rfl) (As := []) (rest := []) (op_thrown hI2) neverM ⟨Nat.le_of_ble_eq_true rfl, Nat.le_of_ble_eq_true rfl⟩ rfl (Nat.le_of_ble_eq_true rfl) (List.Perm.refl _) 0 m1 rfl rfl ⟨(show ck + 1 + 0 + 0 ≤ 601024 by omega), (show sk + 6 + 0 + 0 ≤ 7293034 by omega)⟩ ?_
  rintro w M'' hz
  cases hz
  refine BdL.pm wp3 ?_
  refine BdL.seg hF ok_C_massOn 9 [] rfl ⟨fun _ => (show BdL X 848 [some (.ref X.b), some (.ref hx), some (.ref hm), some (.ref ho), some (.int i), some (.int e), some (.int v), none, none] [] (oC X ho g' :: (MX' ++ MM')) (ck + 1 + 0 + 0) (sk + 6 + 0 + 0) from ?_), fun c => absurd rfl c⟩
  have hend : BdL X 865 [some (.ref X.b), some (.ref hx), some (.ref hm), some (.ref ho), some (.int i), some (.int e), some (.int v), none, none] [] (oC X ho g' :: (MX' ++ MM')) (ck + 1 + 0 + 0) (sk + 6 + 0 + 0) := by
    refine BdL.seg hF ok_C_massOn 11 [] rfl (show BdL X 2666 [some (.ref X.b), some (.ref hx), some (.ref hm), some (.ref ho), some (.int i), some (.int e), some (.int v), none, none] [] (oC X ho g' :: (MX' ++ MM')) (ck + 1 + 0 + 0) (sk + 6 + 0 + 0) from ?_)
    exact BdL.weak (BdL.wide (by omega) (by omega) (hk _ _ _ g' hI2)) ⟨rfl, rfl, rfl, rfl, rfl, trivial⟩
  refine BdL.seg hF ok_C_massOn 10 [] rfl ⟨fun _ => hend, fun c0 => (show BdL X 853 [some (.ref X.b), some (.ref hx), some (.ref hm), some (.ref ho), some (.int i), some (.int e), some (.int v), none, none] [] (oC X ho g' :: (MX' ++ MM')) (ck + 1 + 0 + 0) (sk + 6 + 0 + 0) from ?_)⟩
  have hg0 : g' (Int32.toNatClampNeg 0) = v.toInt64 := hg c0
  refine BdL.seg hF ok_C_massOn 12 [0] rfl ⟨⟨rfl, rfl⟩, xg (by decide), fun _ => hend, fun c1 => absurd ?_ c1⟩
  rw [hg0]
  exact cmp0 _
def tb_C_moistureOn : List (Nat × List xI) := [(868, [(.aload_n 1, [], 0), (.aload_n 0, [], 0), (.iload 4, [], 0), (.iconst 1, [], 1), (.iadd, [], 0)]), (874, [(.iaload, [], 0)]), (875, [(.aload_n 3, [], 0)]), (876, [(.invokestatic 199, [], 0)]), (879, [(.istore 5, [], 0), (.aload_n 2, [], 0), (.aload_n 0, [], 0), (.iload 4, [], 0), (.iconst 1, [], 1), (.iadd, [], 0)]), (887, [(.iaload, [], 0)]), (888, [(.invokevirtual 201, [], 0)]), (891, [(.istore 6, [], 0), (.aload_n 2, [], 0)]), (894, [(.invokevirtual 128, [], 0)]), (897, [(.iload 5, [], 0), (.if_icmp .eq 5, [], 0)]), (904, [(.iload 5, [], 0), (.ifCond .ne 15, [], 0)]), (921, [(.goto 1745, [], 0)]), (909, [(.aload_n 3, [], 0), (.iconst 0, [], 0), (.laload, [], 0), (.iload 6, [], 0), (.i2l, [], 0), (.lcmp, [], 0), (.ifCond .eq 5, [], 0)])]
set_option maxRecDepth 100000 in
theorem ok_C_moistureOn : ∀ q ∈ tb_C_moistureOn, (xChks (yLw "law") q.1 q.2 && xNoPut q.2) = true := by decide +kernel
set_option maxRecDepth 100000 in
theorem case_moistureOn {X : LX} {hx hm ho ck sk : Nat} {e0 i : Int32} {g : Nat → Int64} {MX MM : va_W} (hF : LF X) (hin : ∀ j : Int32, 0 ≤ j → j ≤ 5 → vp_in (i + j) X.n) (hI : INV X.E hx hm e0 MX MM) (hc : ck + 16 ≤ 601024) (hs : sk + 159 ≤ 7293034) (hk : KN X hx hm ho i ck sk) : BdL X 868 (L0 X hx hm ho i) [] (WL X ho g MX MM) ck sk := by
  obtain ⟨MM', k, v, e, ha, h1, h2⟩ := op_moistureOn (Nat.le_refl 400000) hI (X.xs (i + 1).toNatClampNeg)
  obtain ⟨-, ⟨ws, m0⟩⟩ := hI.x0
  refine BdL.seg hF ok_C_moistureOn 0 [] rfl (show BdL X 874 [some (.ref X.b), some (.ref hx), some (.ref hm), some (.ref ho), some (.int i), none, none, none, none] (.int (i + 1) :: .ref X.b :: [.ref hx]) (WL X ho g MX MM) ck sk from ?_)
  refine BdL.sld hF (xdecL ok_C_moistureOn 1 rfl) (hin 1 (by decide) (by decide)) ?_
  refine BdL.seg hF ok_C_moistureOn 2 [] rfl (show BdL X 876 [some (.ref X.b), some (.ref hx), some (.ref hm), some (.ref ho), some (.int i), none, none, none, none] (.ref ho :: (.int (X.xs (i + 1).toNatClampNeg) :: [.ref hx])) (WL X ho g MX MM) ck sk from ?_)
  refine BdL.callH hF wL_moistureOn vL_moistureOn ini13 xpl13.2 nL_moistureOn kL_moistureOn (xdecL ok_C_moistureOn 3 rfl) (As := [.ref hx, .int (X.xs (i + 1).toNatClampNeg), .ref ho]) (rest := []) (Mc := oC X ho g :: MX) (Rest := MM) (s_L_moistureOn g h1 ha hI.x0.1) ⟨Nat.le_of_ble_eq_true rfl, Nat.le_of_ble_eq_true rfl⟩ rfl (Nat.le_of_ble_eq_true rfl) (List.Perm.refl _) ⟨(show ck + 2 ≤ 601024 by omega), (show sk + 12 ≤ 7293034 by omega)⟩ ?_
  rintro w M' ⟨MX', g', hI2, hg, hz⟩
  cases hz
  refine BdL.seg hF ok_C_moistureOn 4 [] rfl ⟨Nat.le_of_ble_eq_true rfl, (show BdL X 887 [some (.ref X.b), some (.ref hx), some (.ref hm), some (.ref ho), some (.int i), some (.int e), none, none, none] (.int (i + 1) :: .ref X.b :: [.ref hm]) (oC X ho g' :: MX' ++ MM) (ck + 2) (sk + 12) from ?_)⟩
  refine BdL.sld hF (xdecL ok_C_moistureOn 5 rfl) (hin 1 (by decide) (by decide)) ?_
  refine BdL.callV hF oX12_moistureOn vX12_moistureOn nX12_moistureOn k13_201 (xdecL ok_C_moistureOn 6 rfl) (As := [.int (X.xs (i + 1).toNatClampNeg)]) (rest := []) h2 neverM ⟨Nat.le_of_ble_eq_true rfl, Nat.le_of_ble_eq_true rfl⟩ rfl (Nat.le_of_ble_eq_true rfl) wp4 0 m0 rfl rfl ⟨(show ck + 2 + 0 ≤ 601024 by omega), (show sk + 12 + 0 ≤ 7293034 by omega)⟩ ?_
  rintro w M'' hz
  cases hz
  obtain ⟨-, ⟨ws2, m1⟩⟩ := hI2.x0
  refine BdL.seg hF ok_C_moistureOn 7 [] rfl ⟨Nat.le_of_ble_eq_true rfl, (show BdL X 894 [some (.ref X.b), some (.ref hx), some (.ref hm), some (.ref ho), some (.int i), some (.int e), some (.int v), none, none] [.ref hm] (MM' ++ (oC X ho g' :: MX')) (ck + 2 + 0) (sk + 12 + 0) from ?_)⟩
  refine BdL.callV hF oX12_thrown vX12_thrown nX12_thrown k13_128 (xdecL ok_C_moistureOn 8 rfl) (As := []) (rest := []) (op_thrown hI2) neverM ⟨Nat.le_of_ble_eq_true rfl, Nat.le_of_ble_eq_true rfl⟩ rfl (Nat.le_of_ble_eq_true rfl) (List.Perm.refl _) 0 m1 rfl rfl ⟨(show ck + 2 + 0 + 0 ≤ 601024 by omega), (show sk + 12 + 0 + 0 ≤ 7293034 by omega)⟩ ?_
  rintro w M'' hz
  cases hz
  refine BdL.pm wp3 ?_
  refine BdL.seg hF ok_C_moistureOn 9 [] rfl ⟨fun _ => (show BdL X 904 [some (.ref X.b), some (.ref hx), some (.ref hm), some (.ref ho), some (.int i), some (.int e), some (.int v), none, none] [] (oC X ho g' :: (MX' ++ MM')) (ck + 2 + 0 + 0) (sk + 12 + 0 + 0) from ?_), fun c => absurd rfl c⟩
  have hend : BdL X 921 [some (.ref X.b), some (.ref hx), some (.ref hm), some (.ref ho), some (.int i), some (.int e), some (.int v), none, none] [] (oC X ho g' :: (MX' ++ MM')) (ck + 2 + 0 + 0) (sk + 12 + 0 + 0) := by
    refine BdL.seg hF ok_C_moistureOn 11 [] rfl (show BdL X 2666 [some (.ref X.b), some (.ref hx), some (.ref hm), some (.ref ho), some (.int i), some (.int e), some (.int v), none, none] [] (oC X ho g' :: (MX' ++ MM')) (ck + 2 + 0 + 0) (sk + 12 + 0 + 0) from ?_)
    exact BdL.weak (BdL.wide (by omega) (by omega) (hk _ _ _ g' hI2)) ⟨rfl, rfl, rfl, rfl, rfl, trivial⟩
  refine BdL.seg hF ok_C_moistureOn 10 [] rfl ⟨fun _ => hend, fun c0 => (show BdL X 909 [some (.ref X.b), some (.ref hx), some (.ref hm), some (.ref ho), some (.int i), some (.int e), some (.int v), none, none] [] (oC X ho g' :: (MX' ++ MM')) (ck + 2 + 0 + 0) (sk + 12 + 0 + 0) from ?_)⟩
  have hg0 : g' (Int32.toNatClampNeg 0) = v.toInt64 := hg c0
  refine BdL.seg hF ok_C_moistureOn 12 [0] rfl ⟨⟨rfl, rfl⟩, xg (by decide), fun _ => hend, fun c1 => absurd ?_ c1⟩
  rw [hg0]
  exact cmp0 _
def tb_C_scorchOn : List (Nat × List xI) := [(924, [(.aload_n 1, [], 0), (.aload_n 0, [], 0), (.iload 4, [], 0), (.iconst 1, [], 1), (.iadd, [], 0)]), (930, [(.iaload, [], 0)]), (931, [(.aload_n 3, [], 0)]), (932, [(.invokestatic 202, [], 0)]), (935, [(.istore 5, [], 0), (.aload_n 2, [], 0), (.aload_n 0, [], 0), (.iload 4, [], 0), (.iconst 1, [], 1), (.iadd, [], 0)]), (943, [(.iaload, [], 0)]), (944, [(.invokevirtual 204, [], 0)]), (947, [(.istore 6, [], 0), (.aload_n 2, [], 0)]), (950, [(.invokevirtual 128, [], 0)]), (953, [(.iload 5, [], 0), (.if_icmp .eq 5, [], 0)]), (960, [(.iload 5, [], 0), (.ifCond .ne 15, [], 0)]), (977, [(.goto 1689, [], 0)]), (965, [(.aload_n 3, [], 0), (.iconst 0, [], 0), (.laload, [], 0), (.iload 6, [], 0), (.i2l, [], 0), (.lcmp, [], 0), (.ifCond .eq 5, [], 0)])]
set_option maxRecDepth 100000 in
theorem ok_C_scorchOn : ∀ q ∈ tb_C_scorchOn, (xChks (yLw "law") q.1 q.2 && xNoPut q.2) = true := by decide +kernel
set_option maxRecDepth 100000 in
theorem case_scorchOn {X : LX} {hx hm ho ck sk : Nat} {e0 i : Int32} {g : Nat → Int64} {MX MM : va_W} (hF : LF X) (hin : ∀ j : Int32, 0 ≤ j → j ≤ 5 → vp_in (i + j) X.n) (hI : INV X.E hx hm e0 MX MM) (hc : ck + 16 ≤ 601024) (hs : sk + 159 ≤ 7293034) (hk : KN X hx hm ho i ck sk) : BdL X 924 (L0 X hx hm ho i) [] (WL X ho g MX MM) ck sk := by
  obtain ⟨MM', k, v, e, ha, h1, h2⟩ := op_scorchOn (Nat.le_refl 400000) hI (X.xs (i + 1).toNatClampNeg)
  obtain ⟨-, ⟨ws, m0⟩⟩ := hI.x0
  refine BdL.seg hF ok_C_scorchOn 0 [] rfl (show BdL X 930 [some (.ref X.b), some (.ref hx), some (.ref hm), some (.ref ho), some (.int i), none, none, none, none] (.int (i + 1) :: .ref X.b :: [.ref hx]) (WL X ho g MX MM) ck sk from ?_)
  refine BdL.sld hF (xdecL ok_C_scorchOn 1 rfl) (hin 1 (by decide) (by decide)) ?_
  refine BdL.seg hF ok_C_scorchOn 2 [] rfl (show BdL X 932 [some (.ref X.b), some (.ref hx), some (.ref hm), some (.ref ho), some (.int i), none, none, none, none] (.ref ho :: (.int (X.xs (i + 1).toNatClampNeg) :: [.ref hx])) (WL X ho g MX MM) ck sk from ?_)
  refine BdL.callH hF wL_scorchOn vL_scorchOn ini13 xpl13.2 nL_scorchOn kL_scorchOn (xdecL ok_C_scorchOn 3 rfl) (As := [.ref hx, .int (X.xs (i + 1).toNatClampNeg), .ref ho]) (rest := []) (Mc := oC X ho g :: MX) (Rest := MM) (s_L_scorchOn g h1 ha hI.x0.1) ⟨Nat.le_of_ble_eq_true rfl, Nat.le_of_ble_eq_true rfl⟩ rfl (Nat.le_of_ble_eq_true rfl) (List.Perm.refl _) ⟨(show ck + 2 ≤ 601024 by omega), (show sk + 12 ≤ 7293034 by omega)⟩ ?_
  rintro w M' ⟨MX', g', hI2, hg, hz⟩
  cases hz
  refine BdL.seg hF ok_C_scorchOn 4 [] rfl ⟨Nat.le_of_ble_eq_true rfl, (show BdL X 943 [some (.ref X.b), some (.ref hx), some (.ref hm), some (.ref ho), some (.int i), some (.int e), none, none, none] (.int (i + 1) :: .ref X.b :: [.ref hm]) (oC X ho g' :: MX' ++ MM) (ck + 2) (sk + 12) from ?_)⟩
  refine BdL.sld hF (xdecL ok_C_scorchOn 5 rfl) (hin 1 (by decide) (by decide)) ?_
  refine BdL.callV hF oX12_scorchOn vX12_scorchOn nX12_scorchOn k13_204 (xdecL ok_C_scorchOn 6 rfl) (As := [.int (X.xs (i + 1).toNatClampNeg)]) (rest := []) h2 neverM ⟨Nat.le_of_ble_eq_true rfl, Nat.le_of_ble_eq_true rfl⟩ rfl (Nat.le_of_ble_eq_true rfl) wp4 0 m0 rfl rfl ⟨(show ck + 2 + 0 ≤ 601024 by omega), (show sk + 12 + 0 ≤ 7293034 by omega)⟩ ?_
  rintro w M'' hz
  cases hz
  obtain ⟨-, ⟨ws2, m1⟩⟩ := hI2.x0
  refine BdL.seg hF ok_C_scorchOn 7 [] rfl ⟨Nat.le_of_ble_eq_true rfl, (show BdL X 950 [some (.ref X.b), some (.ref hx), some (.ref hm), some (.ref ho), some (.int i), some (.int e), some (.int v), none, none] [.ref hm] (MM' ++ (oC X ho g' :: MX')) (ck + 2 + 0) (sk + 12 + 0) from ?_)⟩
  refine BdL.callV hF oX12_thrown vX12_thrown nX12_thrown k13_128 (xdecL ok_C_scorchOn 8 rfl) (As := []) (rest := []) (op_thrown hI2) neverM ⟨Nat.le_of_ble_eq_true rfl, Nat.le_of_ble_eq_true rfl⟩ rfl (Nat.le_of_ble_eq_true rfl) (List.Perm.refl _) 0 m1 rfl rfl ⟨(show ck + 2 + 0 + 0 ≤ 601024 by omega), (show sk + 12 + 0 + 0 ≤ 7293034 by omega)⟩ ?_
  rintro w M'' hz
  cases hz
  refine BdL.pm wp3 ?_
  refine BdL.seg hF ok_C_scorchOn 9 [] rfl ⟨fun _ => (show BdL X 960 [some (.ref X.b), some (.ref hx), some (.ref hm), some (.ref ho), some (.int i), some (.int e), some (.int v), none, none] [] (oC X ho g' :: (MX' ++ MM')) (ck + 2 + 0 + 0) (sk + 12 + 0 + 0) from ?_), fun c => absurd rfl c⟩
  have hend : BdL X 977 [some (.ref X.b), some (.ref hx), some (.ref hm), some (.ref ho), some (.int i), some (.int e), some (.int v), none, none] [] (oC X ho g' :: (MX' ++ MM')) (ck + 2 + 0 + 0) (sk + 12 + 0 + 0) := by
    refine BdL.seg hF ok_C_scorchOn 11 [] rfl (show BdL X 2666 [some (.ref X.b), some (.ref hx), some (.ref hm), some (.ref ho), some (.int i), some (.int e), some (.int v), none, none] [] (oC X ho g' :: (MX' ++ MM')) (ck + 2 + 0 + 0) (sk + 12 + 0 + 0) from ?_)
    exact BdL.weak (BdL.wide (by omega) (by omega) (hk _ _ _ g' hI2)) ⟨rfl, rfl, rfl, rfl, rfl, trivial⟩
  refine BdL.seg hF ok_C_scorchOn 10 [] rfl ⟨fun _ => hend, fun c0 => (show BdL X 965 [some (.ref X.b), some (.ref hx), some (.ref hm), some (.ref ho), some (.int i), some (.int e), some (.int v), none, none] [] (oC X ho g' :: (MX' ++ MM')) (ck + 2 + 0 + 0) (sk + 12 + 0 + 0) from ?_)⟩
  have hg0 : g' (Int32.toNatClampNeg 0) = v.toInt64 := hg c0
  refine BdL.seg hF ok_C_scorchOn 12 [0] rfl ⟨⟨rfl, rfl⟩, xg (by decide), fun _ => hend, fun c1 => absurd ?_ c1⟩
  rw [hg0]
  exact cmp0 _
def tb_C_isDry : List (Nat × List xI) := [(980, [(.aload_n 1, [], 0), (.aload_n 0, [], 0), (.iload 4, [], 0), (.iconst 1, [], 1), (.iadd, [], 0)]), (986, [(.iaload, [], 0)]), (987, [(.aload_n 3, [], 0)]), (988, [(.invokestatic 205, [], 0)]), (991, [(.istore 5, [], 0), (.aload_n 2, [], 0), (.aload_n 0, [], 0), (.iload 4, [], 0), (.iconst 1, [], 1), (.iadd, [], 0)]), (999, [(.iaload, [], 0)]), (1000, [(.invokevirtual 207, [], 0)]), (1003, [(.istore 6, [], 0), (.aload_n 2, [], 0)]), (1006, [(.invokevirtual 128, [], 0)]), (1009, [(.iload 5, [], 0), (.if_icmp .eq 5, [], 0)]), (1016, [(.iload 5, [], 0), (.ifCond .ne 22, [], 0)]), (1040, [(.goto 1626, [], 0)]), (1021, [(.aload_n 3, [], 0), (.iconst 0, [], 0), (.laload, [], 0), (.iload 6, [], 0), (.ifCond .eq 7, [], 0)]), (1033, [(.lconst 0, [], 0), (.lcmp, [], 0), (.ifCond .eq 5, [], 0)]), (1029, [(.lconst 1, [], 0), (.goto 4, [], 0)]), (1034, [(.lcmp, [], 0), (.ifCond .eq 5, [], 0)])]
set_option maxRecDepth 100000 in
theorem ok_C_isDry : ∀ q ∈ tb_C_isDry, (xChks (yLw "law") q.1 q.2 && xNoPut q.2) = true := by decide +kernel
set_option maxRecDepth 100000 in
theorem case_isDry {X : LX} {hx hm ho ck sk : Nat} {e0 i : Int32} {g : Nat → Int64} {MX MM : va_W} (hF : LF X) (hin : ∀ j : Int32, 0 ≤ j → j ≤ 5 → vp_in (i + j) X.n) (hI : INV X.E hx hm e0 MX MM) (hc : ck + 16 ≤ 601024) (hs : sk + 159 ≤ 7293034) (hk : KN X hx hm ho i ck sk) : BdL X 980 (L0 X hx hm ho i) [] (WL X ho g MX MM) ck sk := by
  obtain ⟨MM', k, v, e, ha, h1, h2⟩ := op_isDry (Nat.le_refl 400000) hI (X.xs (i + 1).toNatClampNeg)
  obtain ⟨-, ⟨ws, m0⟩⟩ := hI.x0
  refine BdL.seg hF ok_C_isDry 0 [] rfl (show BdL X 986 [some (.ref X.b), some (.ref hx), some (.ref hm), some (.ref ho), some (.int i), none, none, none, none] (.int (i + 1) :: .ref X.b :: [.ref hx]) (WL X ho g MX MM) ck sk from ?_)
  refine BdL.sld hF (xdecL ok_C_isDry 1 rfl) (hin 1 (by decide) (by decide)) ?_
  refine BdL.seg hF ok_C_isDry 2 [] rfl (show BdL X 988 [some (.ref X.b), some (.ref hx), some (.ref hm), some (.ref ho), some (.int i), none, none, none, none] (.ref ho :: (.int (X.xs (i + 1).toNatClampNeg) :: [.ref hx])) (WL X ho g MX MM) ck sk from ?_)
  refine BdL.callH hF wL_isDry vL_isDry ini13 xpl13.2 nL_isDry kL_isDry (xdecL ok_C_isDry 3 rfl) (As := [.ref hx, .int (X.xs (i + 1).toNatClampNeg), .ref ho]) (rest := []) (Mc := oC X ho g :: MX) (Rest := MM) (s_L_isDry g h1 ha hI.x0.1) ⟨Nat.le_of_ble_eq_true rfl, Nat.le_of_ble_eq_true rfl⟩ rfl (Nat.le_of_ble_eq_true rfl) (List.Perm.refl _) ⟨(show ck + 1 ≤ 601024 by omega), (show sk + 6 ≤ 7293034 by omega)⟩ ?_
  rintro w M' ⟨MX', g', hI2, hg, hz⟩
  cases hz
  refine BdL.seg hF ok_C_isDry 4 [] rfl ⟨Nat.le_of_ble_eq_true rfl, (show BdL X 999 [some (.ref X.b), some (.ref hx), some (.ref hm), some (.ref ho), some (.int i), some (.int e), none, none, none] (.int (i + 1) :: .ref X.b :: [.ref hm]) (oC X ho g' :: MX' ++ MM) (ck + 1) (sk + 6) from ?_)⟩
  refine BdL.sld hF (xdecL ok_C_isDry 5 rfl) (hin 1 (by decide) (by decide)) ?_
  refine BdL.callV hF oX12_isDry vX12_isDry nX12_isDry k13_207 (xdecL ok_C_isDry 6 rfl) (As := [.int (X.xs (i + 1).toNatClampNeg)]) (rest := []) h2 neverM ⟨Nat.le_of_ble_eq_true rfl, Nat.le_of_ble_eq_true rfl⟩ rfl (Nat.le_of_ble_eq_true rfl) wp4 0 m0 rfl rfl ⟨(show ck + 1 + 0 ≤ 601024 by omega), (show sk + 6 + 0 ≤ 7293034 by omega)⟩ ?_
  rintro w M'' hz
  cases hz
  obtain ⟨-, ⟨ws2, m1⟩⟩ := hI2.x0
  refine BdL.seg hF ok_C_isDry 7 [] rfl ⟨Nat.le_of_ble_eq_true rfl, (show BdL X 1006 [some (.ref X.b), some (.ref hx), some (.ref hm), some (.ref ho), some (.int i), some (.int e), some (.int v), none, none] [.ref hm] (MM' ++ (oC X ho g' :: MX')) (ck + 1 + 0) (sk + 6 + 0) from ?_)⟩
  refine BdL.callV hF oX12_thrown vX12_thrown nX12_thrown k13_128 (xdecL ok_C_isDry 8 rfl) (As := []) (rest := []) (op_thrown hI2) neverM ⟨Nat.le_of_ble_eq_true rfl, Nat.le_of_ble_eq_true rfl⟩ rfl (Nat.le_of_ble_eq_true rfl) (List.Perm.refl _) 0 m1 rfl rfl ⟨(show ck + 1 + 0 + 0 ≤ 601024 by omega), (show sk + 6 + 0 + 0 ≤ 7293034 by omega)⟩ ?_
  rintro w M'' hz
  cases hz
  refine BdL.pm wp3 ?_
  refine BdL.seg hF ok_C_isDry 9 [] rfl ⟨fun _ => (show BdL X 1016 [some (.ref X.b), some (.ref hx), some (.ref hm), some (.ref ho), some (.int i), some (.int e), some (.int v), none, none] [] (oC X ho g' :: (MX' ++ MM')) (ck + 1 + 0 + 0) (sk + 6 + 0 + 0) from ?_), fun c => absurd rfl c⟩
  have hend : BdL X 1040 [some (.ref X.b), some (.ref hx), some (.ref hm), some (.ref ho), some (.int i), some (.int e), some (.int v), none, none] [] (oC X ho g' :: (MX' ++ MM')) (ck + 1 + 0 + 0) (sk + 6 + 0 + 0) := by
    refine BdL.seg hF ok_C_isDry 11 [] rfl (show BdL X 2666 [some (.ref X.b), some (.ref hx), some (.ref hm), some (.ref ho), some (.int i), some (.int e), some (.int v), none, none] [] (oC X ho g' :: (MX' ++ MM')) (ck + 1 + 0 + 0) (sk + 6 + 0 + 0) from ?_)
    exact BdL.weak (BdL.wide (by omega) (by omega) (hk _ _ _ g' hI2)) ⟨rfl, rfl, rfl, rfl, rfl, trivial⟩
  refine BdL.seg hF ok_C_isDry 10 [] rfl ⟨fun _ => hend, fun c0 => (show BdL X 1021 [some (.ref X.b), some (.ref hx), some (.ref hm), some (.ref ho), some (.int i), some (.int e), some (.int v), none, none] [] (oC X ho g' :: (MX' ++ MM')) (ck + 1 + 0 + 0) (sk + 6 + 0 + 0) from ?_)⟩
  refine BdL.seg hF ok_C_isDry 12 [0] rfl ⟨⟨rfl, rfl⟩, xg (by decide), fun cv => (show BdL X 1033 [some (.ref X.b), some (.ref hx), some (.ref hm), some (.ref ho), some (.int i), some (.int e), some (.int v), none, none] [.long (g' (Int32.toNatClampNeg 0))] (oC X ho g' :: (MX' ++ MM')) (ck + 1 + 0 + 0) (sk + 6 + 0 + 0) from ?_), fun cv => (show BdL X 1029 [some (.ref X.b), some (.ref hx), some (.ref hm), some (.ref ho), some (.int i), some (.int e), some (.int v), none, none] [.long (g' (Int32.toNatClampNeg 0))] (oC X ho g' :: (MX' ++ MM')) (ck + 1 + 0 + 0) (sk + 6 + 0 + 0) from ?_)⟩
  · have hg0 : g' (Int32.toNatClampNeg 0) = Int64.ofNat 0 := (hg c0).trans (if_pos cv)
    rw [hg0]
    exact BdL.seg hF ok_C_isDry 13 [] rfl ⟨fun _ => hend, fun c1 => absurd (cmp0 _) c1⟩
  · have hg0 : g' (Int32.toNatClampNeg 0) = Int64.ofNat 1 := (hg c0).trans (if_neg cv)
    rw [hg0]
    refine BdL.seg hF ok_C_isDry 14 [] rfl (show BdL X 1034 [some (.ref X.b), some (.ref hx), some (.ref hm), some (.ref ho), some (.int i), some (.int e), some (.int v), none, none] [.long (Int64.ofNat 1), .long (Int64.ofNat 1)] (oC X ho g' :: (MX' ++ MM')) (ck + 1 + 0 + 0) (sk + 6 + 0 + 0) from ?_)
    exact BdL.seg hF ok_C_isDry 15 [] rfl ⟨fun _ => hend, fun c1 => absurd (cmp0 _) c1⟩
def tb_C_dryingOn : List (Nat × List xI) := [(1043, [(.aload_n 1, [], 0), (.aload_n 0, [], 0), (.iload 4, [], 0), (.iconst 1, [], 1), (.iadd, [], 0)]), (1049, [(.iaload, [], 0)]), (1050, [(.aload_n 3, [], 0)]), (1051, [(.invokestatic 208, [], 0)]), (1054, [(.istore 5, [], 0), (.aload_n 2, [], 0), (.aload_n 0, [], 0), (.iload 4, [], 0), (.iconst 1, [], 1), (.iadd, [], 0)]), (1062, [(.iaload, [], 0)]), (1063, [(.invokevirtual 210, [], 0)]), (1066, [(.istore 6, [], 0), (.aload_n 2, [], 0)]), (1069, [(.invokevirtual 128, [], 0)]), (1072, [(.iload 5, [], 0), (.if_icmp .eq 5, [], 0)]), (1079, [(.iload 5, [], 0), (.ifCond .ne 15, [], 0)]), (1096, [(.goto 1570, [], 0)]), (1084, [(.aload_n 3, [], 0), (.iconst 0, [], 0), (.laload, [], 0), (.iload 6, [], 0), (.i2l, [], 0), (.lcmp, [], 0), (.ifCond .eq 5, [], 0)])]
set_option maxRecDepth 100000 in
theorem ok_C_dryingOn : ∀ q ∈ tb_C_dryingOn, (xChks (yLw "law") q.1 q.2 && xNoPut q.2) = true := by decide +kernel
set_option maxRecDepth 100000 in
theorem case_dryingOn {X : LX} {hx hm ho ck sk : Nat} {e0 i : Int32} {g : Nat → Int64} {MX MM : va_W} (hF : LF X) (hin : ∀ j : Int32, 0 ≤ j → j ≤ 5 → vp_in (i + j) X.n) (hI : INV X.E hx hm e0 MX MM) (hc : ck + 16 ≤ 601024) (hs : sk + 159 ≤ 7293034) (hk : KN X hx hm ho i ck sk) : BdL X 1043 (L0 X hx hm ho i) [] (WL X ho g MX MM) ck sk := by
  obtain ⟨MM', k, v, e, ha, h1, h2⟩ := op_dryingOn (Nat.le_refl 400000) hI (X.xs (i + 1).toNatClampNeg)
  obtain ⟨-, ⟨ws, m0⟩⟩ := hI.x0
  refine BdL.seg hF ok_C_dryingOn 0 [] rfl (show BdL X 1049 [some (.ref X.b), some (.ref hx), some (.ref hm), some (.ref ho), some (.int i), none, none, none, none] (.int (i + 1) :: .ref X.b :: [.ref hx]) (WL X ho g MX MM) ck sk from ?_)
  refine BdL.sld hF (xdecL ok_C_dryingOn 1 rfl) (hin 1 (by decide) (by decide)) ?_
  refine BdL.seg hF ok_C_dryingOn 2 [] rfl (show BdL X 1051 [some (.ref X.b), some (.ref hx), some (.ref hm), some (.ref ho), some (.int i), none, none, none, none] (.ref ho :: (.int (X.xs (i + 1).toNatClampNeg) :: [.ref hx])) (WL X ho g MX MM) ck sk from ?_)
  refine BdL.callH hF wL_dryingOn vL_dryingOn ini13 xpl13.2 nL_dryingOn kL_dryingOn (xdecL ok_C_dryingOn 3 rfl) (As := [.ref hx, .int (X.xs (i + 1).toNatClampNeg), .ref ho]) (rest := []) (Mc := oC X ho g :: MX) (Rest := MM) (s_L_dryingOn g h1 ha hI.x0.1) ⟨Nat.le_of_ble_eq_true rfl, Nat.le_of_ble_eq_true rfl⟩ rfl (Nat.le_of_ble_eq_true rfl) (List.Perm.refl _) ⟨(show ck + 1 ≤ 601024 by omega), (show sk + 6 ≤ 7293034 by omega)⟩ ?_
  rintro w M' ⟨MX', g', hI2, hg, hz⟩
  cases hz
  refine BdL.seg hF ok_C_dryingOn 4 [] rfl ⟨Nat.le_of_ble_eq_true rfl, (show BdL X 1062 [some (.ref X.b), some (.ref hx), some (.ref hm), some (.ref ho), some (.int i), some (.int e), none, none, none] (.int (i + 1) :: .ref X.b :: [.ref hm]) (oC X ho g' :: MX' ++ MM) (ck + 1) (sk + 6) from ?_)⟩
  refine BdL.sld hF (xdecL ok_C_dryingOn 5 rfl) (hin 1 (by decide) (by decide)) ?_
  refine BdL.callV hF oX12_dryingOn vX12_dryingOn nX12_dryingOn k13_210 (xdecL ok_C_dryingOn 6 rfl) (As := [.int (X.xs (i + 1).toNatClampNeg)]) (rest := []) h2 neverM ⟨Nat.le_of_ble_eq_true rfl, Nat.le_of_ble_eq_true rfl⟩ rfl (Nat.le_of_ble_eq_true rfl) wp4 0 m0 rfl rfl ⟨(show ck + 1 + 0 ≤ 601024 by omega), (show sk + 6 + 0 ≤ 7293034 by omega)⟩ ?_
  rintro w M'' hz
  cases hz
  obtain ⟨-, ⟨ws2, m1⟩⟩ := hI2.x0
  refine BdL.seg hF ok_C_dryingOn 7 [] rfl ⟨Nat.le_of_ble_eq_true rfl, (show BdL X 1069 [some (.ref X.b), some (.ref hx), some (.ref hm), some (.ref ho), some (.int i), some (.int e), some (.int v), none, none] [.ref hm] (MM' ++ (oC X ho g' :: MX')) (ck + 1 + 0) (sk + 6 + 0) from ?_)⟩
  refine BdL.callV hF oX12_thrown vX12_thrown nX12_thrown k13_128 (xdecL ok_C_dryingOn 8 rfl) (As := []) (rest := []) (op_thrown hI2) neverM ⟨Nat.le_of_ble_eq_true rfl, Nat.le_of_ble_eq_true rfl⟩ rfl (Nat.le_of_ble_eq_true rfl) (List.Perm.refl _) 0 m1 rfl rfl ⟨(show ck + 1 + 0 + 0 ≤ 601024 by omega), (show sk + 6 + 0 + 0 ≤ 7293034 by omega)⟩ ?_
  rintro w M'' hz
  cases hz
  refine BdL.pm wp3 ?_
  refine BdL.seg hF ok_C_dryingOn 9 [] rfl ⟨fun _ => (show BdL X 1079 [some (.ref X.b), some (.ref hx), some (.ref hm), some (.ref ho), some (.int i), some (.int e), some (.int v), none, none] [] (oC X ho g' :: (MX' ++ MM')) (ck + 1 + 0 + 0) (sk + 6 + 0 + 0) from ?_), fun c => absurd rfl c⟩
  have hend : BdL X 1096 [some (.ref X.b), some (.ref hx), some (.ref hm), some (.ref ho), some (.int i), some (.int e), some (.int v), none, none] [] (oC X ho g' :: (MX' ++ MM')) (ck + 1 + 0 + 0) (sk + 6 + 0 + 0) := by
    refine BdL.seg hF ok_C_dryingOn 11 [] rfl (show BdL X 2666 [some (.ref X.b), some (.ref hx), some (.ref hm), some (.ref ho), some (.int i), some (.int e), some (.int v), none, none] [] (oC X ho g' :: (MX' ++ MM')) (ck + 1 + 0 + 0) (sk + 6 + 0 + 0) from ?_)
    exact BdL.weak (BdL.wide (by omega) (by omega) (hk _ _ _ g' hI2)) ⟨rfl, rfl, rfl, rfl, rfl, trivial⟩
  refine BdL.seg hF ok_C_dryingOn 10 [] rfl ⟨fun _ => hend, fun c0 => (show BdL X 1084 [some (.ref X.b), some (.ref hx), some (.ref hm), some (.ref ho), some (.int i), some (.int e), some (.int v), none, none] [] (oC X ho g' :: (MX' ++ MM')) (ck + 1 + 0 + 0) (sk + 6 + 0 + 0) from ?_)⟩
  have hg0 : g' (Int32.toNatClampNeg 0) = v.toInt64 := hg c0
  refine BdL.seg hF ok_C_dryingOn 12 [0] rfl ⟨⟨rfl, rfl⟩, xg (by decide), fun _ => hend, fun c1 => absurd ?_ c1⟩
  rw [hg0]
  exact cmp0 _
def tb_C_warmestFloor : List (Nat × List xI) := [(1099, [(.aload_n 1, [], 0)]), (1100, [(.invokevirtual 211, [], 0)]), (1103, [(.aload_n 2, [], 0)]), (1104, [(.invokevirtual 214, [], 0)]), (1107, [(.if_icmp .eq 1559, [], 0)])]
set_option maxRecDepth 100000 in
theorem ok_C_warmestFloor : ∀ q ∈ tb_C_warmestFloor, (xChks (yLw "law") q.1 q.2 && xNoPut q.2) = true := by decide +kernel
set_option maxRecDepth 100000 in
theorem case_warmestFloor {X : LX} {hx hm ho ck sk : Nat} {e0 i : Int32} {g : Nat → Int64} {MX MM : va_W} (hF : LF X) (hin : ∀ j : Int32, 0 ≤ j → j ≤ 5 → vp_in (i + j) X.n) (hI : INV X.E hx hm e0 MX MM) (hc : ck + 16 ≤ 601024) (hs : sk + 159 ≤ 7293034) (hk : KN X hx hm ho i ck sk) : BdL X 1099 (L0 X hx hm ho i) [] (WL X ho g MX MM) ck sk := by
  obtain ⟨MM', v, -, h1, h2⟩ := op_warmestFloor (Nat.le_refl 400000) hI
  obtain ⟨⟨vs, x0⟩, ⟨ws, m0⟩⟩ := hI.x0
  refine BdL.seg hF ok_C_warmestFloor 0 [] rfl (show BdL X 1100 (L0 X hx hm ho i) [.ref hx] (WL X ho g MX MM) ck sk from ?_)
  refine BdL.callV hF oX11_warmestFloor vX11_warmestFloor nX11_warmestFloor k13_211 (xdecL ok_C_warmestFloor 1 rfl) (As := []) (rest := []) h1 never ⟨Nat.le_of_ble_eq_true rfl, Nat.le_of_ble_eq_true rfl⟩ rfl (Nat.le_of_ble_eq_true rfl) wp1 0 x0 rfl rfl ⟨(show ck + 0 ≤ 601024 by omega), (show sk + 0 ≤ 7293034 by omega)⟩ ?_
  rintro w M' ⟨MX', hI2, hz⟩
  cases hz
  refine BdL.seg hF ok_C_warmestFloor 2 [] rfl (show BdL X 1104 (L0 X hx hm ho i) [.ref hm, .int v] (M' ++ (oC X ho g :: MM)) (ck + 0) (sk + 0) from ?_)
  refine BdL.callV hF oX12_warmestFloor vX12_warmestFloor nX12_warmestFloor k13_214 (xdecL ok_C_warmestFloor 3 rfl) (As := []) (rest := [.int v]) h2 neverM ⟨Nat.le_of_ble_eq_true rfl, Nat.le_of_ble_eq_true rfl⟩ rfl (Nat.le_of_ble_eq_true rfl) wp2 0 m0 rfl rfl ⟨(show ck + 0 + 0 ≤ 601024 by omega), (show sk + 0 + 0 ≤ 7293034 by omega)⟩ ?_
  rintro w M'' hz
  cases hz
  refine BdL.seg hF ok_C_warmestFloor 4 [] rfl ⟨fun _ => (show BdL X 2666 (L0 X hx hm ho i) [] (MM' ++ (oC X ho g :: M')) (ck + 0 + 0) (sk + 0 + 0) from ?_), fun c => absurd rfl c⟩
  exact BdL.pm wp3 (BdL.wide (by omega) (by omega) (hk _ _ _ g hI2))
def tb_C_obstacleToLower : List (Nat × List xI) := [(1112, [(.aload_n 1, [], 0), (.aload_n 0, [], 0), (.iload 4, [], 0), (.iconst 1, [], 1), (.iadd, [], 0)]), (1118, [(.iaload, [], 0)]), (1119, [(.aload_n 3, [], 0)]), (1120, [(.invokestatic 215, [], 0)]), (1123, [(.istore 5, [], 0), (.aload_n 2, [], 0), (.aload_n 0, [], 0), (.iload 4, [], 0), (.iconst 1, [], 1), (.iadd, [], 0)]), (1131, [(.iaload, [], 0)]), (1132, [(.invokevirtual 217, [], 0)]), (1135, [(.istore 6, [], 0), (.aload_n 2, [], 0)]), (1138, [(.invokevirtual 128, [], 0)]), (1141, [(.iload 5, [], 0), (.if_icmp .eq 5, [], 0)]), (1148, [(.iload 5, [], 0), (.ifCond .ne 15, [], 0)]), (1165, [(.goto 1501, [], 0)]), (1153, [(.aload_n 3, [], 0), (.iconst 0, [], 0), (.laload, [], 0), (.iload 6, [], 0), (.i2l, [], 0), (.lcmp, [], 0), (.ifCond .eq 5, [], 0)])]
set_option maxRecDepth 100000 in
theorem ok_C_obstacleToLower : ∀ q ∈ tb_C_obstacleToLower, (xChks (yLw "law") q.1 q.2 && xNoPut q.2) = true := by decide +kernel
set_option maxRecDepth 100000 in
theorem case_obstacleToLower {X : LX} {hx hm ho ck sk : Nat} {e0 i : Int32} {g : Nat → Int64} {MX MM : va_W} (hF : LF X) (hin : ∀ j : Int32, 0 ≤ j → j ≤ 5 → vp_in (i + j) X.n) (hI : INV X.E hx hm e0 MX MM) (hc : ck + 16 ≤ 601024) (hs : sk + 159 ≤ 7293034) (hk : KN X hx hm ho i ck sk) : BdL X 1112 (L0 X hx hm ho i) [] (WL X ho g MX MM) ck sk := by
  obtain ⟨MM', k, v, e, ha, h1, h2⟩ := op_obstacleToLower (Nat.le_refl 400000) hI (X.xs (i + 1).toNatClampNeg)
  obtain ⟨-, ⟨ws, m0⟩⟩ := hI.x0
  refine BdL.seg hF ok_C_obstacleToLower 0 [] rfl (show BdL X 1118 [some (.ref X.b), some (.ref hx), some (.ref hm), some (.ref ho), some (.int i), none, none, none, none] (.int (i + 1) :: .ref X.b :: [.ref hx]) (WL X ho g MX MM) ck sk from ?_)
  refine BdL.sld hF (xdecL ok_C_obstacleToLower 1 rfl) (hin 1 (by decide) (by decide)) ?_
  refine BdL.seg hF ok_C_obstacleToLower 2 [] rfl (show BdL X 1120 [some (.ref X.b), some (.ref hx), some (.ref hm), some (.ref ho), some (.int i), none, none, none, none] (.ref ho :: (.int (X.xs (i + 1).toNatClampNeg) :: [.ref hx])) (WL X ho g MX MM) ck sk from ?_)
  refine BdL.callH hF wL_obstacleToLower vL_obstacleToLower ini13 xpl13.2 nL_obstacleToLower kL_obstacleToLower (xdecL ok_C_obstacleToLower 3 rfl) (As := [.ref hx, .int (X.xs (i + 1).toNatClampNeg), .ref ho]) (rest := []) (Mc := oC X ho g :: MX) (Rest := MM) (s_L_obstacleToLower g h1 ha hI.x0.1) ⟨Nat.le_of_ble_eq_true rfl, Nat.le_of_ble_eq_true rfl⟩ rfl (Nat.le_of_ble_eq_true rfl) (List.Perm.refl _) ⟨(show ck + 1 ≤ 601024 by omega), (show sk + 6 ≤ 7293034 by omega)⟩ ?_
  rintro w M' ⟨MX', g', hI2, hg, hz⟩
  cases hz
  refine BdL.seg hF ok_C_obstacleToLower 4 [] rfl ⟨Nat.le_of_ble_eq_true rfl, (show BdL X 1131 [some (.ref X.b), some (.ref hx), some (.ref hm), some (.ref ho), some (.int i), some (.int e), none, none, none] (.int (i + 1) :: .ref X.b :: [.ref hm]) (oC X ho g' :: MX' ++ MM) (ck + 1) (sk + 6) from ?_)⟩
  refine BdL.sld hF (xdecL ok_C_obstacleToLower 5 rfl) (hin 1 (by decide) (by decide)) ?_
  refine BdL.callV hF oX12_obstacleToLower vX12_obstacleToLower nX12_obstacleToLower k13_217 (xdecL ok_C_obstacleToLower 6 rfl) (As := [.int (X.xs (i + 1).toNatClampNeg)]) (rest := []) h2 neverM ⟨Nat.le_of_ble_eq_true rfl, Nat.le_of_ble_eq_true rfl⟩ rfl (Nat.le_of_ble_eq_true rfl) wp4 0 m0 rfl rfl ⟨(show ck + 1 + 0 ≤ 601024 by omega), (show sk + 6 + 0 ≤ 7293034 by omega)⟩ ?_
  rintro w M'' hz
  cases hz
  obtain ⟨-, ⟨ws2, m1⟩⟩ := hI2.x0
  refine BdL.seg hF ok_C_obstacleToLower 7 [] rfl ⟨Nat.le_of_ble_eq_true rfl, (show BdL X 1138 [some (.ref X.b), some (.ref hx), some (.ref hm), some (.ref ho), some (.int i), some (.int e), some (.int v), none, none] [.ref hm] (MM' ++ (oC X ho g' :: MX')) (ck + 1 + 0) (sk + 6 + 0) from ?_)⟩
  refine BdL.callV hF oX12_thrown vX12_thrown nX12_thrown k13_128 (xdecL ok_C_obstacleToLower 8 rfl) (As := []) (rest := []) (op_thrown hI2) neverM ⟨Nat.le_of_ble_eq_true rfl, Nat.le_of_ble_eq_true rfl⟩ rfl (Nat.le_of_ble_eq_true rfl) (List.Perm.refl _) 0 m1 rfl rfl ⟨(show ck + 1 + 0 + 0 ≤ 601024 by omega), (show sk + 6 + 0 + 0 ≤ 7293034 by omega)⟩ ?_
  rintro w M'' hz
  cases hz
  refine BdL.pm wp3 ?_
  refine BdL.seg hF ok_C_obstacleToLower 9 [] rfl ⟨fun _ => (show BdL X 1148 [some (.ref X.b), some (.ref hx), some (.ref hm), some (.ref ho), some (.int i), some (.int e), some (.int v), none, none] [] (oC X ho g' :: (MX' ++ MM')) (ck + 1 + 0 + 0) (sk + 6 + 0 + 0) from ?_), fun c => absurd rfl c⟩
  have hend : BdL X 1165 [some (.ref X.b), some (.ref hx), some (.ref hm), some (.ref ho), some (.int i), some (.int e), some (.int v), none, none] [] (oC X ho g' :: (MX' ++ MM')) (ck + 1 + 0 + 0) (sk + 6 + 0 + 0) := by
    refine BdL.seg hF ok_C_obstacleToLower 11 [] rfl (show BdL X 2666 [some (.ref X.b), some (.ref hx), some (.ref hm), some (.ref ho), some (.int i), some (.int e), some (.int v), none, none] [] (oC X ho g' :: (MX' ++ MM')) (ck + 1 + 0 + 0) (sk + 6 + 0 + 0) from ?_)
    exact BdL.weak (BdL.wide (by omega) (by omega) (hk _ _ _ g' hI2)) ⟨rfl, rfl, rfl, rfl, rfl, trivial⟩
  refine BdL.seg hF ok_C_obstacleToLower 10 [] rfl ⟨fun _ => hend, fun c0 => (show BdL X 1153 [some (.ref X.b), some (.ref hx), some (.ref hm), some (.ref ho), some (.int i), some (.int e), some (.int v), none, none] [] (oC X ho g' :: (MX' ++ MM')) (ck + 1 + 0 + 0) (sk + 6 + 0 + 0) from ?_)⟩
  have hg0 : g' (Int32.toNatClampNeg 0) = v.toInt64 := hg c0
  refine BdL.seg hF ok_C_obstacleToLower 12 [0] rfl ⟨⟨rfl, rfl⟩, xg (by decide), fun _ => hend, fun c1 => absurd ?_ c1⟩
  rw [hg0]
  exact cmp0 _
def tb_C_sackCount : List (Nat × List xI) := [(1168, [(.aload_n 1, [], 0)]), (1169, [(.invokevirtual 218, [], 0)]), (1172, [(.aload_n 2, [], 0)]), (1173, [(.invokevirtual 221, [], 0)]), (1176, [(.if_icmp .eq 1490, [], 0)])]
set_option maxRecDepth 100000 in
theorem ok_C_sackCount : ∀ q ∈ tb_C_sackCount, (xChks (yLw "law") q.1 q.2 && xNoPut q.2) = true := by decide +kernel
set_option maxRecDepth 100000 in
theorem case_sackCount {X : LX} {hx hm ho ck sk : Nat} {e0 i : Int32} {g : Nat → Int64} {MX MM : va_W} (hF : LF X) (hin : ∀ j : Int32, 0 ≤ j → j ≤ 5 → vp_in (i + j) X.n) (hI : INV X.E hx hm e0 MX MM) (hc : ck + 16 ≤ 601024) (hs : sk + 159 ≤ 7293034) (hk : KN X hx hm ho i ck sk) : BdL X 1168 (L0 X hx hm ho i) [] (WL X ho g MX MM) ck sk := by
  obtain ⟨MM', v, -, h1, h2⟩ := op_sackCount (Nat.le_refl 400000) hI
  obtain ⟨⟨vs, x0⟩, ⟨ws, m0⟩⟩ := hI.x0
  refine BdL.seg hF ok_C_sackCount 0 [] rfl (show BdL X 1169 (L0 X hx hm ho i) [.ref hx] (WL X ho g MX MM) ck sk from ?_)
  refine BdL.callV hF oX11_sackCount vX11_sackCount nX11_sackCount k13_218 (xdecL ok_C_sackCount 1 rfl) (As := []) (rest := []) h1 never ⟨Nat.le_of_ble_eq_true rfl, Nat.le_of_ble_eq_true rfl⟩ rfl (Nat.le_of_ble_eq_true rfl) wp1 0 x0 rfl rfl ⟨(show ck + 0 ≤ 601024 by omega), (show sk + 0 ≤ 7293034 by omega)⟩ ?_
  rintro w M' ⟨MX', hI2, hz⟩
  cases hz
  refine BdL.seg hF ok_C_sackCount 2 [] rfl (show BdL X 1173 (L0 X hx hm ho i) [.ref hm, .int v] (M' ++ (oC X ho g :: MM)) (ck + 0) (sk + 0) from ?_)
  refine BdL.callV hF oX12_sackCount vX12_sackCount nX12_sackCount k13_221 (xdecL ok_C_sackCount 3 rfl) (As := []) (rest := [.int v]) h2 neverM ⟨Nat.le_of_ble_eq_true rfl, Nat.le_of_ble_eq_true rfl⟩ rfl (Nat.le_of_ble_eq_true rfl) wp2 0 m0 rfl rfl ⟨(show ck + 0 + 0 ≤ 601024 by omega), (show sk + 0 + 0 ≤ 7293034 by omega)⟩ ?_
  rintro w M'' hz
  cases hz
  refine BdL.seg hF ok_C_sackCount 4 [] rfl ⟨fun _ => (show BdL X 2666 (L0 X hx hm ho i) [] (MM' ++ (oC X ho g :: M')) (ck + 0 + 0) (sk + 0 + 0) from ?_), fun c => absurd rfl c⟩
  exact BdL.pm wp3 (BdL.wide (by omega) (by omega) (hk _ _ _ g hI2))
def tb_C_sackState : List (Nat × List xI) := [(1181, [(.aload_n 1, [], 0), (.aload_n 0, [], 0), (.iload 4, [], 0), (.iconst 1, [], 1), (.iadd, [], 0)]), (1187, [(.iaload, [], 0)]), (1188, [(.aload_n 3, [], 0)]), (1189, [(.invokestatic 222, [], 0)]), (1192, [(.istore 5, [], 0), (.aload_n 2, [], 0), (.aload_n 0, [], 0), (.iload 4, [], 0), (.iconst 1, [], 1), (.iadd, [], 0)]), (1200, [(.iaload, [], 0)]), (1201, [(.invokevirtual 224, [], 0)]), (1204, [(.istore 6, [], 0), (.aload_n 2, [], 0)]), (1207, [(.invokevirtual 128, [], 0)]), (1210, [(.iload 5, [], 0), (.if_icmp .eq 5, [], 0)]), (1217, [(.iload 5, [], 0), (.ifCond .ne 15, [], 0)]), (1234, [(.goto 1432, [], 0)]), (1222, [(.aload_n 3, [], 0), (.iconst 0, [], 0), (.laload, [], 0), (.iload 6, [], 0), (.i2l, [], 0), (.lcmp, [], 0), (.ifCond .eq 5, [], 0)])]
set_option maxRecDepth 100000 in
theorem ok_C_sackState : ∀ q ∈ tb_C_sackState, (xChks (yLw "law") q.1 q.2 && xNoPut q.2) = true := by decide +kernel
set_option maxRecDepth 100000 in
theorem case_sackState {X : LX} {hx hm ho ck sk : Nat} {e0 i : Int32} {g : Nat → Int64} {MX MM : va_W} (hF : LF X) (hin : ∀ j : Int32, 0 ≤ j → j ≤ 5 → vp_in (i + j) X.n) (hI : INV X.E hx hm e0 MX MM) (hc : ck + 16 ≤ 601024) (hs : sk + 159 ≤ 7293034) (hk : KN X hx hm ho i ck sk) : BdL X 1181 (L0 X hx hm ho i) [] (WL X ho g MX MM) ck sk := by
  obtain ⟨MM', k, v, e, ha, h1, h2⟩ := op_sackState (Nat.le_refl 400000) hI (X.xs (i + 1).toNatClampNeg)
  obtain ⟨-, ⟨ws, m0⟩⟩ := hI.x0
  refine BdL.seg hF ok_C_sackState 0 [] rfl (show BdL X 1187 [some (.ref X.b), some (.ref hx), some (.ref hm), some (.ref ho), some (.int i), none, none, none, none] (.int (i + 1) :: .ref X.b :: [.ref hx]) (WL X ho g MX MM) ck sk from ?_)
  refine BdL.sld hF (xdecL ok_C_sackState 1 rfl) (hin 1 (by decide) (by decide)) ?_
  refine BdL.seg hF ok_C_sackState 2 [] rfl (show BdL X 1189 [some (.ref X.b), some (.ref hx), some (.ref hm), some (.ref ho), some (.int i), none, none, none, none] (.ref ho :: (.int (X.xs (i + 1).toNatClampNeg) :: [.ref hx])) (WL X ho g MX MM) ck sk from ?_)
  refine BdL.callH hF wL_sackState vL_sackState ini13 xpl13.2 nL_sackState kL_sackState (xdecL ok_C_sackState 3 rfl) (As := [.ref hx, .int (X.xs (i + 1).toNatClampNeg), .ref ho]) (rest := []) (Mc := oC X ho g :: MX) (Rest := MM) (s_L_sackState g h1 ha hI.x0.1) ⟨Nat.le_of_ble_eq_true rfl, Nat.le_of_ble_eq_true rfl⟩ rfl (Nat.le_of_ble_eq_true rfl) (List.Perm.refl _) ⟨(show ck + 1 ≤ 601024 by omega), (show sk + 6 ≤ 7293034 by omega)⟩ ?_
  rintro w M' ⟨MX', g', hI2, hg, hz⟩
  cases hz
  refine BdL.seg hF ok_C_sackState 4 [] rfl ⟨Nat.le_of_ble_eq_true rfl, (show BdL X 1200 [some (.ref X.b), some (.ref hx), some (.ref hm), some (.ref ho), some (.int i), some (.int e), none, none, none] (.int (i + 1) :: .ref X.b :: [.ref hm]) (oC X ho g' :: MX' ++ MM) (ck + 1) (sk + 6) from ?_)⟩
  refine BdL.sld hF (xdecL ok_C_sackState 5 rfl) (hin 1 (by decide) (by decide)) ?_
  refine BdL.callV hF oX12_sackState vX12_sackState nX12_sackState k13_224 (xdecL ok_C_sackState 6 rfl) (As := [.int (X.xs (i + 1).toNatClampNeg)]) (rest := []) h2 neverM ⟨Nat.le_of_ble_eq_true rfl, Nat.le_of_ble_eq_true rfl⟩ rfl (Nat.le_of_ble_eq_true rfl) wp4 0 m0 rfl rfl ⟨(show ck + 1 + 0 ≤ 601024 by omega), (show sk + 6 + 0 ≤ 7293034 by omega)⟩ ?_
  rintro w M'' hz
  cases hz
  obtain ⟨-, ⟨ws2, m1⟩⟩ := hI2.x0
  refine BdL.seg hF ok_C_sackState 7 [] rfl ⟨Nat.le_of_ble_eq_true rfl, (show BdL X 1207 [some (.ref X.b), some (.ref hx), some (.ref hm), some (.ref ho), some (.int i), some (.int e), some (.int v), none, none] [.ref hm] (MM' ++ (oC X ho g' :: MX')) (ck + 1 + 0) (sk + 6 + 0) from ?_)⟩
  refine BdL.callV hF oX12_thrown vX12_thrown nX12_thrown k13_128 (xdecL ok_C_sackState 8 rfl) (As := []) (rest := []) (op_thrown hI2) neverM ⟨Nat.le_of_ble_eq_true rfl, Nat.le_of_ble_eq_true rfl⟩ rfl (Nat.le_of_ble_eq_true rfl) (List.Perm.refl _) 0 m1 rfl rfl ⟨(show ck + 1 + 0 + 0 ≤ 601024 by omega), (show sk + 6 + 0 + 0 ≤ 7293034 by omega)⟩ ?_
  rintro w M'' hz
  cases hz
  refine BdL.pm wp3 ?_
  refine BdL.seg hF ok_C_sackState 9 [] rfl ⟨fun _ => (show BdL X 1217 [some (.ref X.b), some (.ref hx), some (.ref hm), some (.ref ho), some (.int i), some (.int e), some (.int v), none, none] [] (oC X ho g' :: (MX' ++ MM')) (ck + 1 + 0 + 0) (sk + 6 + 0 + 0) from ?_), fun c => absurd rfl c⟩
  have hend : BdL X 1234 [some (.ref X.b), some (.ref hx), some (.ref hm), some (.ref ho), some (.int i), some (.int e), some (.int v), none, none] [] (oC X ho g' :: (MX' ++ MM')) (ck + 1 + 0 + 0) (sk + 6 + 0 + 0) := by
    refine BdL.seg hF ok_C_sackState 11 [] rfl (show BdL X 2666 [some (.ref X.b), some (.ref hx), some (.ref hm), some (.ref ho), some (.int i), some (.int e), some (.int v), none, none] [] (oC X ho g' :: (MX' ++ MM')) (ck + 1 + 0 + 0) (sk + 6 + 0 + 0) from ?_)
    exact BdL.weak (BdL.wide (by omega) (by omega) (hk _ _ _ g' hI2)) ⟨rfl, rfl, rfl, rfl, rfl, trivial⟩
  refine BdL.seg hF ok_C_sackState 10 [] rfl ⟨fun _ => hend, fun c0 => (show BdL X 1222 [some (.ref X.b), some (.ref hx), some (.ref hm), some (.ref ho), some (.int i), some (.int e), some (.int v), none, none] [] (oC X ho g' :: (MX' ++ MM')) (ck + 1 + 0 + 0) (sk + 6 + 0 + 0) from ?_)⟩
  have hg0 : g' (Int32.toNatClampNeg 0) = v.toInt64 := hg c0
  refine BdL.seg hF ok_C_sackState 12 [0] rfl ⟨⟨rfl, rfl⟩, xg (by decide), fun _ => hend, fun c1 => absurd ?_ c1⟩
  rw [hg0]
  exact cmp0 _
def tb_C_sackMass : List (Nat × List xI) := [(1237, [(.aload_n 1, [], 0), (.aload_n 0, [], 0), (.iload 4, [], 0), (.iconst 1, [], 1), (.iadd, [], 0)]), (1243, [(.iaload, [], 0)]), (1244, [(.aload_n 3, [], 0)]), (1245, [(.invokestatic 225, [], 0)]), (1248, [(.istore 5, [], 0), (.aload_n 2, [], 0), (.aload_n 0, [], 0), (.iload 4, [], 0), (.iconst 1, [], 1), (.iadd, [], 0)]), (1256, [(.iaload, [], 0)]), (1257, [(.invokevirtual 227, [], 0)]), (1260, [(.istore 6, [], 0), (.aload_n 2, [], 0)]), (1263, [(.invokevirtual 128, [], 0)]), (1266, [(.iload 5, [], 0), (.if_icmp .eq 5, [], 0)]), (1273, [(.iload 5, [], 0), (.ifCond .ne 15, [], 0)]), (1290, [(.goto 1376, [], 0)]), (1278, [(.aload_n 3, [], 0), (.iconst 0, [], 0), (.laload, [], 0), (.iload 6, [], 0), (.i2l, [], 0), (.lcmp, [], 0), (.ifCond .eq 5, [], 0)])]
set_option maxRecDepth 100000 in
theorem ok_C_sackMass : ∀ q ∈ tb_C_sackMass, (xChks (yLw "law") q.1 q.2 && xNoPut q.2) = true := by decide +kernel
set_option maxRecDepth 100000 in
theorem case_sackMass {X : LX} {hx hm ho ck sk : Nat} {e0 i : Int32} {g : Nat → Int64} {MX MM : va_W} (hF : LF X) (hin : ∀ j : Int32, 0 ≤ j → j ≤ 5 → vp_in (i + j) X.n) (hI : INV X.E hx hm e0 MX MM) (hc : ck + 16 ≤ 601024) (hs : sk + 159 ≤ 7293034) (hk : KN X hx hm ho i ck sk) : BdL X 1237 (L0 X hx hm ho i) [] (WL X ho g MX MM) ck sk := by
  obtain ⟨MM', k, v, e, ha, h1, h2⟩ := op_sackMass (Nat.le_refl 400000) hI (X.xs (i + 1).toNatClampNeg)
  obtain ⟨-, ⟨ws, m0⟩⟩ := hI.x0
  refine BdL.seg hF ok_C_sackMass 0 [] rfl (show BdL X 1243 [some (.ref X.b), some (.ref hx), some (.ref hm), some (.ref ho), some (.int i), none, none, none, none] (.int (i + 1) :: .ref X.b :: [.ref hx]) (WL X ho g MX MM) ck sk from ?_)
  refine BdL.sld hF (xdecL ok_C_sackMass 1 rfl) (hin 1 (by decide) (by decide)) ?_
  refine BdL.seg hF ok_C_sackMass 2 [] rfl (show BdL X 1245 [some (.ref X.b), some (.ref hx), some (.ref hm), some (.ref ho), some (.int i), none, none, none, none] (.ref ho :: (.int (X.xs (i + 1).toNatClampNeg) :: [.ref hx])) (WL X ho g MX MM) ck sk from ?_)
  refine BdL.callH hF wL_sackMass vL_sackMass ini13 xpl13.2 nL_sackMass kL_sackMass (xdecL ok_C_sackMass 3 rfl) (As := [.ref hx, .int (X.xs (i + 1).toNatClampNeg), .ref ho]) (rest := []) (Mc := oC X ho g :: MX) (Rest := MM) (s_L_sackMass g h1 ha hI.x0.1) ⟨Nat.le_of_ble_eq_true rfl, Nat.le_of_ble_eq_true rfl⟩ rfl (Nat.le_of_ble_eq_true rfl) (List.Perm.refl _) ⟨(show ck + 1 ≤ 601024 by omega), (show sk + 6 ≤ 7293034 by omega)⟩ ?_
  rintro w M' ⟨MX', g', hI2, hg, hz⟩
  cases hz
  refine BdL.seg hF ok_C_sackMass 4 [] rfl ⟨Nat.le_of_ble_eq_true rfl, (show BdL X 1256 [some (.ref X.b), some (.ref hx), some (.ref hm), some (.ref ho), some (.int i), some (.int e), none, none, none] (.int (i + 1) :: .ref X.b :: [.ref hm]) (oC X ho g' :: MX' ++ MM) (ck + 1) (sk + 6) from ?_)⟩
  refine BdL.sld hF (xdecL ok_C_sackMass 5 rfl) (hin 1 (by decide) (by decide)) ?_
  refine BdL.callV hF oX12_sackMass vX12_sackMass nX12_sackMass k13_227 (xdecL ok_C_sackMass 6 rfl) (As := [.int (X.xs (i + 1).toNatClampNeg)]) (rest := []) h2 neverM ⟨Nat.le_of_ble_eq_true rfl, Nat.le_of_ble_eq_true rfl⟩ rfl (Nat.le_of_ble_eq_true rfl) wp4 0 m0 rfl rfl ⟨(show ck + 1 + 0 ≤ 601024 by omega), (show sk + 6 + 0 ≤ 7293034 by omega)⟩ ?_
  rintro w M'' hz
  cases hz
  obtain ⟨-, ⟨ws2, m1⟩⟩ := hI2.x0
  refine BdL.seg hF ok_C_sackMass 7 [] rfl ⟨Nat.le_of_ble_eq_true rfl, (show BdL X 1263 [some (.ref X.b), some (.ref hx), some (.ref hm), some (.ref ho), some (.int i), some (.int e), some (.int v), none, none] [.ref hm] (MM' ++ (oC X ho g' :: MX')) (ck + 1 + 0) (sk + 6 + 0) from ?_)⟩
  refine BdL.callV hF oX12_thrown vX12_thrown nX12_thrown k13_128 (xdecL ok_C_sackMass 8 rfl) (As := []) (rest := []) (op_thrown hI2) neverM ⟨Nat.le_of_ble_eq_true rfl, Nat.le_of_ble_eq_true rfl⟩ rfl (Nat.le_of_ble_eq_true rfl) (List.Perm.refl _) 0 m1 rfl rfl ⟨(show ck + 1 + 0 + 0 ≤ 601024 by omega), (show sk + 6 + 0 + 0 ≤ 7293034 by omega)⟩ ?_
  rintro w M'' hz
  cases hz
  refine BdL.pm wp3 ?_
  refine BdL.seg hF ok_C_sackMass 9 [] rfl ⟨fun _ => (show BdL X 1273 [some (.ref X.b), some (.ref hx), some (.ref hm), some (.ref ho), some (.int i), some (.int e), some (.int v), none, none] [] (oC X ho g' :: (MX' ++ MM')) (ck + 1 + 0 + 0) (sk + 6 + 0 + 0) from ?_), fun c => absurd rfl c⟩
  have hend : BdL X 1290 [some (.ref X.b), some (.ref hx), some (.ref hm), some (.ref ho), some (.int i), some (.int e), some (.int v), none, none] [] (oC X ho g' :: (MX' ++ MM')) (ck + 1 + 0 + 0) (sk + 6 + 0 + 0) := by
    refine BdL.seg hF ok_C_sackMass 11 [] rfl (show BdL X 2666 [some (.ref X.b), some (.ref hx), some (.ref hm), some (.ref ho), some (.int i), some (.int e), some (.int v), none, none] [] (oC X ho g' :: (MX' ++ MM')) (ck + 1 + 0 + 0) (sk + 6 + 0 + 0) from ?_)
    exact BdL.weak (BdL.wide (by omega) (by omega) (hk _ _ _ g' hI2)) ⟨rfl, rfl, rfl, rfl, rfl, trivial⟩
  refine BdL.seg hF ok_C_sackMass 10 [] rfl ⟨fun _ => hend, fun c0 => (show BdL X 1278 [some (.ref X.b), some (.ref hx), some (.ref hm), some (.ref ho), some (.int i), some (.int e), some (.int v), none, none] [] (oC X ho g' :: (MX' ++ MM')) (ck + 1 + 0 + 0) (sk + 6 + 0 + 0) from ?_)⟩
  have hg0 : g' (Int32.toNatClampNeg 0) = v.toInt64 := hg c0
  refine BdL.seg hF ok_C_sackMass 12 [0] rfl ⟨⟨rfl, rfl⟩, xg (by decide), fun _ => hend, fun c1 => absurd ?_ c1⟩
  rw [hg0]
  exact cmp0 _
def tb_C_sackMoisture : List (Nat × List xI) := [(1293, [(.aload_n 1, [], 0), (.aload_n 0, [], 0), (.iload 4, [], 0), (.iconst 1, [], 1), (.iadd, [], 0)]), (1299, [(.iaload, [], 0)]), (1300, [(.aload_n 3, [], 0)]), (1301, [(.invokestatic 228, [], 0)]), (1304, [(.istore 5, [], 0), (.aload_n 2, [], 0), (.aload_n 0, [], 0), (.iload 4, [], 0), (.iconst 1, [], 1), (.iadd, [], 0)]), (1312, [(.iaload, [], 0)]), (1313, [(.invokevirtual 230, [], 0)]), (1316, [(.istore 6, [], 0), (.aload_n 2, [], 0)]), (1319, [(.invokevirtual 128, [], 0)]), (1322, [(.iload 5, [], 0), (.if_icmp .eq 5, [], 0)]), (1329, [(.iload 5, [], 0), (.ifCond .ne 15, [], 0)]), (1346, [(.goto 1320, [], 0)]), (1334, [(.aload_n 3, [], 0), (.iconst 0, [], 0), (.laload, [], 0), (.iload 6, [], 0), (.i2l, [], 0), (.lcmp, [], 0), (.ifCond .eq 5, [], 0)])]
set_option maxRecDepth 100000 in
theorem ok_C_sackMoisture : ∀ q ∈ tb_C_sackMoisture, (xChks (yLw "law") q.1 q.2 && xNoPut q.2) = true := by decide +kernel
set_option maxRecDepth 100000 in
theorem case_sackMoisture {X : LX} {hx hm ho ck sk : Nat} {e0 i : Int32} {g : Nat → Int64} {MX MM : va_W} (hF : LF X) (hin : ∀ j : Int32, 0 ≤ j → j ≤ 5 → vp_in (i + j) X.n) (hI : INV X.E hx hm e0 MX MM) (hc : ck + 16 ≤ 601024) (hs : sk + 159 ≤ 7293034) (hk : KN X hx hm ho i ck sk) : BdL X 1293 (L0 X hx hm ho i) [] (WL X ho g MX MM) ck sk := by
  obtain ⟨MM', k, v, e, ha, h1, h2⟩ := op_sackMoisture (Nat.le_refl 400000) hI (X.xs (i + 1).toNatClampNeg)
  obtain ⟨-, ⟨ws, m0⟩⟩ := hI.x0
  refine BdL.seg hF ok_C_sackMoisture 0 [] rfl (show BdL X 1299 [some (.ref X.b), some (.ref hx), some (.ref hm), some (.ref ho), some (.int i), none, none, none, none] (.int (i + 1) :: .ref X.b :: [.ref hx]) (WL X ho g MX MM) ck sk from ?_)
  refine BdL.sld hF (xdecL ok_C_sackMoisture 1 rfl) (hin 1 (by decide) (by decide)) ?_
  refine BdL.seg hF ok_C_sackMoisture 2 [] rfl (show BdL X 1301 [some (.ref X.b), some (.ref hx), some (.ref hm), some (.ref ho), some (.int i), none, none, none, none] (.ref ho :: (.int (X.xs (i + 1).toNatClampNeg) :: [.ref hx])) (WL X ho g MX MM) ck sk from ?_)
  refine BdL.callH hF wL_sackMoisture vL_sackMoisture ini13 xpl13.2 nL_sackMoisture kL_sackMoisture (xdecL ok_C_sackMoisture 3 rfl) (As := [.ref hx, .int (X.xs (i + 1).toNatClampNeg), .ref ho]) (rest := []) (Mc := oC X ho g :: MX) (Rest := MM) (s_L_sackMoisture g h1 ha hI.x0.1) ⟨Nat.le_of_ble_eq_true rfl, Nat.le_of_ble_eq_true rfl⟩ rfl (Nat.le_of_ble_eq_true rfl) (List.Perm.refl _) ⟨(show ck + 1 ≤ 601024 by omega), (show sk + 6 ≤ 7293034 by omega)⟩ ?_
  rintro w M' ⟨MX', g', hI2, hg, hz⟩
  cases hz
  refine BdL.seg hF ok_C_sackMoisture 4 [] rfl ⟨Nat.le_of_ble_eq_true rfl, (show BdL X 1312 [some (.ref X.b), some (.ref hx), some (.ref hm), some (.ref ho), some (.int i), some (.int e), none, none, none] (.int (i + 1) :: .ref X.b :: [.ref hm]) (oC X ho g' :: MX' ++ MM) (ck + 1) (sk + 6) from ?_)⟩
  refine BdL.sld hF (xdecL ok_C_sackMoisture 5 rfl) (hin 1 (by decide) (by decide)) ?_
  refine BdL.callV hF oX12_sackMoisture vX12_sackMoisture nX12_sackMoisture k13_230 (xdecL ok_C_sackMoisture 6 rfl) (As := [.int (X.xs (i + 1).toNatClampNeg)]) (rest := []) h2 neverM ⟨Nat.le_of_ble_eq_true rfl, Nat.le_of_ble_eq_true rfl⟩ rfl (Nat.le_of_ble_eq_true rfl) wp4 0 m0 rfl rfl ⟨(show ck + 1 + 0 ≤ 601024 by omega), (show sk + 6 + 0 ≤ 7293034 by omega)⟩ ?_
  rintro w M'' hz
  cases hz
  obtain ⟨-, ⟨ws2, m1⟩⟩ := hI2.x0
  refine BdL.seg hF ok_C_sackMoisture 7 [] rfl ⟨Nat.le_of_ble_eq_true rfl, (show BdL X 1319 [some (.ref X.b), some (.ref hx), some (.ref hm), some (.ref ho), some (.int i), some (.int e), some (.int v), none, none] [.ref hm] (MM' ++ (oC X ho g' :: MX')) (ck + 1 + 0) (sk + 6 + 0) from ?_)⟩
  refine BdL.callV hF oX12_thrown vX12_thrown nX12_thrown k13_128 (xdecL ok_C_sackMoisture 8 rfl) (As := []) (rest := []) (op_thrown hI2) neverM ⟨Nat.le_of_ble_eq_true rfl, Nat.le_of_ble_eq_true rfl⟩ rfl (Nat.le_of_ble_eq_true rfl) (List.Perm.refl _) 0 m1 rfl rfl ⟨(show ck + 1 + 0 + 0 ≤ 601024 by omega), (show sk + 6 + 0 + 0 ≤ 7293034 by omega)⟩ ?_
  rintro w M'' hz
  cases hz
  refine BdL.pm wp3 ?_
  refine BdL.seg hF ok_C_sackMoisture 9 [] rfl ⟨fun _ => (show BdL X 1329 [some (.ref X.b), some (.ref hx), some (.ref hm), some (.ref ho), some (.int i), some (.int e), some (.int v), none, none] [] (oC X ho g' :: (MX' ++ MM')) (ck + 1 + 0 + 0) (sk + 6 + 0 + 0) from ?_), fun c => absurd rfl c⟩
  have hend : BdL X 1346 [some (.ref X.b), some (.ref hx), some (.ref hm), some (.ref ho), some (.int i), some (.int e), some (.int v), none, none] [] (oC X ho g' :: (MX' ++ MM')) (ck + 1 + 0 + 0) (sk + 6 + 0 + 0) := by
    refine BdL.seg hF ok_C_sackMoisture 11 [] rfl (show BdL X 2666 [some (.ref X.b), some (.ref hx), some (.ref hm), some (.ref ho), some (.int i), some (.int e), some (.int v), none, none] [] (oC X ho g' :: (MX' ++ MM')) (ck + 1 + 0 + 0) (sk + 6 + 0 + 0) from ?_)
    exact BdL.weak (BdL.wide (by omega) (by omega) (hk _ _ _ g' hI2)) ⟨rfl, rfl, rfl, rfl, rfl, trivial⟩
  refine BdL.seg hF ok_C_sackMoisture 10 [] rfl ⟨fun _ => hend, fun c0 => (show BdL X 1334 [some (.ref X.b), some (.ref hx), some (.ref hm), some (.ref ho), some (.int i), some (.int e), some (.int v), none, none] [] (oC X ho g' :: (MX' ++ MM')) (ck + 1 + 0 + 0) (sk + 6 + 0 + 0) from ?_)⟩
  have hg0 : g' (Int32.toNatClampNeg 0) = v.toInt64 := hg c0
  refine BdL.seg hF ok_C_sackMoisture 12 [0] rfl ⟨⟨rfl, rfl⟩, xg (by decide), fun _ => hend, fun c1 => absurd ?_ c1⟩
  rw [hg0]
  exact cmp0 _
def tb_C_sackTemperature : List (Nat × List xI) := [(1349, [(.aload_n 1, [], 0), (.aload_n 0, [], 0), (.iload 4, [], 0), (.iconst 1, [], 1), (.iadd, [], 0)]), (1355, [(.iaload, [], 0)]), (1356, [(.aload_n 3, [], 0)]), (1357, [(.invokestatic 231, [], 0)]), (1360, [(.istore 5, [], 0), (.aload_n 2, [], 0), (.aload_n 0, [], 0), (.iload 4, [], 0), (.iconst 1, [], 1), (.iadd, [], 0)]), (1368, [(.iaload, [], 0)]), (1369, [(.invokevirtual 233, [], 0)]), (1372, [(.istore 6, [], 0), (.aload_n 2, [], 0)]), (1375, [(.invokevirtual 128, [], 0)]), (1378, [(.iload 5, [], 0), (.if_icmp .eq 5, [], 0)]), (1385, [(.iload 5, [], 0), (.ifCond .ne 15, [], 0)]), (1402, [(.goto 1264, [], 0)]), (1390, [(.aload_n 3, [], 0), (.iconst 0, [], 0), (.laload, [], 0), (.iload 6, [], 0), (.i2l, [], 0), (.lcmp, [], 0), (.ifCond .eq 5, [], 0)])]
set_option maxRecDepth 100000 in
theorem ok_C_sackTemperature : ∀ q ∈ tb_C_sackTemperature, (xChks (yLw "law") q.1 q.2 && xNoPut q.2) = true := by decide +kernel
set_option maxRecDepth 100000 in
theorem case_sackTemperature {X : LX} {hx hm ho ck sk : Nat} {e0 i : Int32} {g : Nat → Int64} {MX MM : va_W} (hF : LF X) (hin : ∀ j : Int32, 0 ≤ j → j ≤ 5 → vp_in (i + j) X.n) (hI : INV X.E hx hm e0 MX MM) (hc : ck + 16 ≤ 601024) (hs : sk + 159 ≤ 7293034) (hk : KN X hx hm ho i ck sk) : BdL X 1349 (L0 X hx hm ho i) [] (WL X ho g MX MM) ck sk := by
  obtain ⟨MM', k, v, e, ha, h1, h2⟩ := op_sackTemperature (Nat.le_refl 400000) hI (X.xs (i + 1).toNatClampNeg)
  obtain ⟨-, ⟨ws, m0⟩⟩ := hI.x0
  refine BdL.seg hF ok_C_sackTemperature 0 [] rfl (show BdL X 1355 [some (.ref X.b), some (.ref hx), some (.ref hm), some (.ref ho), some (.int i), none, none, none, none] (.int (i + 1) :: .ref X.b :: [.ref hx]) (WL X ho g MX MM) ck sk from ?_)
  refine BdL.sld hF (xdecL ok_C_sackTemperature 1 rfl) (hin 1 (by decide) (by decide)) ?_
  refine BdL.seg hF ok_C_sackTemperature 2 [] rfl (show BdL X 1357 [some (.ref X.b), some (.ref hx), some (.ref hm), some (.ref ho), some (.int i), none, none, none, none] (.ref ho :: (.int (X.xs (i + 1).toNatClampNeg) :: [.ref hx])) (WL X ho g MX MM) ck sk from ?_)
  refine BdL.callH hF wL_sackTemperature vL_sackTemperature ini13 xpl13.2 nL_sackTemperature kL_sackTemperature (xdecL ok_C_sackTemperature 3 rfl) (As := [.ref hx, .int (X.xs (i + 1).toNatClampNeg), .ref ho]) (rest := []) (Mc := oC X ho g :: MX) (Rest := MM) (s_L_sackTemperature g h1 ha hI.x0.1) ⟨Nat.le_of_ble_eq_true rfl, Nat.le_of_ble_eq_true rfl⟩ rfl (Nat.le_of_ble_eq_true rfl) (List.Perm.refl _) ⟨(show ck + 1 ≤ 601024 by omega), (show sk + 6 ≤ 7293034 by omega)⟩ ?_
  rintro w M' ⟨MX', g', hI2, hg, hz⟩
  cases hz
  refine BdL.seg hF ok_C_sackTemperature 4 [] rfl ⟨Nat.le_of_ble_eq_true rfl, (show BdL X 1368 [some (.ref X.b), some (.ref hx), some (.ref hm), some (.ref ho), some (.int i), some (.int e), none, none, none] (.int (i + 1) :: .ref X.b :: [.ref hm]) (oC X ho g' :: MX' ++ MM) (ck + 1) (sk + 6) from ?_)⟩
  refine BdL.sld hF (xdecL ok_C_sackTemperature 5 rfl) (hin 1 (by decide) (by decide)) ?_
  refine BdL.callV hF oX12_sackTemperature vX12_sackTemperature nX12_sackTemperature k13_233 (xdecL ok_C_sackTemperature 6 rfl) (As := [.int (X.xs (i + 1).toNatClampNeg)]) (rest := []) h2 neverM ⟨Nat.le_of_ble_eq_true rfl, Nat.le_of_ble_eq_true rfl⟩ rfl (Nat.le_of_ble_eq_true rfl) wp4 0 m0 rfl rfl ⟨(show ck + 1 + 0 ≤ 601024 by omega), (show sk + 6 + 0 ≤ 7293034 by omega)⟩ ?_
  rintro w M'' hz
  cases hz
  obtain ⟨-, ⟨ws2, m1⟩⟩ := hI2.x0
  refine BdL.seg hF ok_C_sackTemperature 7 [] rfl ⟨Nat.le_of_ble_eq_true rfl, (show BdL X 1375 [some (.ref X.b), some (.ref hx), some (.ref hm), some (.ref ho), some (.int i), some (.int e), some (.int v), none, none] [.ref hm] (MM' ++ (oC X ho g' :: MX')) (ck + 1 + 0) (sk + 6 + 0) from ?_)⟩
  refine BdL.callV hF oX12_thrown vX12_thrown nX12_thrown k13_128 (xdecL ok_C_sackTemperature 8 rfl) (As := []) (rest := []) (op_thrown hI2) neverM ⟨Nat.le_of_ble_eq_true rfl, Nat.le_of_ble_eq_true rfl⟩ rfl (Nat.le_of_ble_eq_true rfl) (List.Perm.refl _) 0 m1 rfl rfl ⟨(show ck + 1 + 0 + 0 ≤ 601024 by omega), (show sk + 6 + 0 + 0 ≤ 7293034 by omega)⟩ ?_
  rintro w M'' hz
  cases hz
  refine BdL.pm wp3 ?_
  refine BdL.seg hF ok_C_sackTemperature 9 [] rfl ⟨fun _ => (show BdL X 1385 [some (.ref X.b), some (.ref hx), some (.ref hm), some (.ref ho), some (.int i), some (.int e), some (.int v), none, none] [] (oC X ho g' :: (MX' ++ MM')) (ck + 1 + 0 + 0) (sk + 6 + 0 + 0) from ?_), fun c => absurd rfl c⟩
  have hend : BdL X 1402 [some (.ref X.b), some (.ref hx), some (.ref hm), some (.ref ho), some (.int i), some (.int e), some (.int v), none, none] [] (oC X ho g' :: (MX' ++ MM')) (ck + 1 + 0 + 0) (sk + 6 + 0 + 0) := by
    refine BdL.seg hF ok_C_sackTemperature 11 [] rfl (show BdL X 2666 [some (.ref X.b), some (.ref hx), some (.ref hm), some (.ref ho), some (.int i), some (.int e), some (.int v), none, none] [] (oC X ho g' :: (MX' ++ MM')) (ck + 1 + 0 + 0) (sk + 6 + 0 + 0) from ?_)
    exact BdL.weak (BdL.wide (by omega) (by omega) (hk _ _ _ g' hI2)) ⟨rfl, rfl, rfl, rfl, rfl, trivial⟩
  refine BdL.seg hF ok_C_sackTemperature 10 [] rfl ⟨fun _ => hend, fun c0 => (show BdL X 1390 [some (.ref X.b), some (.ref hx), some (.ref hm), some (.ref ho), some (.int i), some (.int e), some (.int v), none, none] [] (oC X ho g' :: (MX' ++ MM')) (ck + 1 + 0 + 0) (sk + 6 + 0 + 0) from ?_)⟩
  have hg0 : g' (Int32.toNatClampNeg 0) = v.toInt64 := hg c0
  refine BdL.seg hF ok_C_sackTemperature 12 [0] rfl ⟨⟨rfl, rfl⟩, xg (by decide), fun _ => hend, fun c1 => absurd ?_ c1⟩
  rw [hg0]
  exact cmp0 _
def tb_C_isSmouldering : List (Nat × List xI) := [(1405, [(.aload_n 1, [], 0), (.aload_n 0, [], 0), (.iload 4, [], 0), (.iconst 1, [], 1), (.iadd, [], 0)]), (1411, [(.iaload, [], 0)]), (1412, [(.aload_n 3, [], 0)]), (1413, [(.invokestatic 234, [], 0)]), (1416, [(.istore 5, [], 0), (.aload_n 2, [], 0), (.aload_n 0, [], 0), (.iload 4, [], 0), (.iconst 1, [], 1), (.iadd, [], 0)]), (1424, [(.iaload, [], 0)]), (1425, [(.invokevirtual 236, [], 0)]), (1428, [(.istore 6, [], 0), (.aload_n 2, [], 0)]), (1431, [(.invokevirtual 128, [], 0)]), (1434, [(.iload 5, [], 0), (.if_icmp .eq 5, [], 0)]), (1441, [(.iload 5, [], 0), (.ifCond .ne 22, [], 0)]), (1465, [(.goto 1201, [], 0)]), (1446, [(.aload_n 3, [], 0), (.iconst 0, [], 0), (.laload, [], 0), (.iload 6, [], 0), (.ifCond .eq 7, [], 0)]), (1458, [(.lconst 0, [], 0), (.lcmp, [], 0), (.ifCond .eq 5, [], 0)]), (1454, [(.lconst 1, [], 0), (.goto 4, [], 0)]), (1459, [(.lcmp, [], 0), (.ifCond .eq 5, [], 0)])]
set_option maxRecDepth 100000 in
theorem ok_C_isSmouldering : ∀ q ∈ tb_C_isSmouldering, (xChks (yLw "law") q.1 q.2 && xNoPut q.2) = true := by decide +kernel
set_option maxRecDepth 100000 in
theorem case_isSmouldering {X : LX} {hx hm ho ck sk : Nat} {e0 i : Int32} {g : Nat → Int64} {MX MM : va_W} (hF : LF X) (hin : ∀ j : Int32, 0 ≤ j → j ≤ 5 → vp_in (i + j) X.n) (hI : INV X.E hx hm e0 MX MM) (hc : ck + 16 ≤ 601024) (hs : sk + 159 ≤ 7293034) (hk : KN X hx hm ho i ck sk) : BdL X 1405 (L0 X hx hm ho i) [] (WL X ho g MX MM) ck sk := by
  obtain ⟨MM', k, v, e, ha, h1, h2⟩ := op_isSmouldering (Nat.le_refl 400000) hI (X.xs (i + 1).toNatClampNeg)
  obtain ⟨-, ⟨ws, m0⟩⟩ := hI.x0
  refine BdL.seg hF ok_C_isSmouldering 0 [] rfl (show BdL X 1411 [some (.ref X.b), some (.ref hx), some (.ref hm), some (.ref ho), some (.int i), none, none, none, none] (.int (i + 1) :: .ref X.b :: [.ref hx]) (WL X ho g MX MM) ck sk from ?_)
  refine BdL.sld hF (xdecL ok_C_isSmouldering 1 rfl) (hin 1 (by decide) (by decide)) ?_
  refine BdL.seg hF ok_C_isSmouldering 2 [] rfl (show BdL X 1413 [some (.ref X.b), some (.ref hx), some (.ref hm), some (.ref ho), some (.int i), none, none, none, none] (.ref ho :: (.int (X.xs (i + 1).toNatClampNeg) :: [.ref hx])) (WL X ho g MX MM) ck sk from ?_)
  refine BdL.callH hF wL_isSmouldering vL_isSmouldering ini13 xpl13.2 nL_isSmouldering kL_isSmouldering (xdecL ok_C_isSmouldering 3 rfl) (As := [.ref hx, .int (X.xs (i + 1).toNatClampNeg), .ref ho]) (rest := []) (Mc := oC X ho g :: MX) (Rest := MM) (s_L_isSmouldering g h1 ha hI.x0.1) ⟨Nat.le_of_ble_eq_true rfl, Nat.le_of_ble_eq_true rfl⟩ rfl (Nat.le_of_ble_eq_true rfl) (List.Perm.refl _) ⟨(show ck + 1 ≤ 601024 by omega), (show sk + 6 ≤ 7293034 by omega)⟩ ?_
  rintro w M' ⟨MX', g', hI2, hg, hz⟩
  cases hz
  refine BdL.seg hF ok_C_isSmouldering 4 [] rfl ⟨Nat.le_of_ble_eq_true rfl, (show BdL X 1424 [some (.ref X.b), some (.ref hx), some (.ref hm), some (.ref ho), some (.int i), some (.int e), none, none, none] (.int (i + 1) :: .ref X.b :: [.ref hm]) (oC X ho g' :: MX' ++ MM) (ck + 1) (sk + 6) from ?_)⟩
  refine BdL.sld hF (xdecL ok_C_isSmouldering 5 rfl) (hin 1 (by decide) (by decide)) ?_
  refine BdL.callV hF oX12_isSmouldering vX12_isSmouldering nX12_isSmouldering k13_236 (xdecL ok_C_isSmouldering 6 rfl) (As := [.int (X.xs (i + 1).toNatClampNeg)]) (rest := []) h2 neverM ⟨Nat.le_of_ble_eq_true rfl, Nat.le_of_ble_eq_true rfl⟩ rfl (Nat.le_of_ble_eq_true rfl) wp4 0 m0 rfl rfl ⟨(show ck + 1 + 0 ≤ 601024 by omega), (show sk + 6 + 0 ≤ 7293034 by omega)⟩ ?_
  rintro w M'' hz
  cases hz
  obtain ⟨-, ⟨ws2, m1⟩⟩ := hI2.x0
  refine BdL.seg hF ok_C_isSmouldering 7 [] rfl ⟨Nat.le_of_ble_eq_true rfl, (show BdL X 1431 [some (.ref X.b), some (.ref hx), some (.ref hm), some (.ref ho), some (.int i), some (.int e), some (.int v), none, none] [.ref hm] (MM' ++ (oC X ho g' :: MX')) (ck + 1 + 0) (sk + 6 + 0) from ?_)⟩
  refine BdL.callV hF oX12_thrown vX12_thrown nX12_thrown k13_128 (xdecL ok_C_isSmouldering 8 rfl) (As := []) (rest := []) (op_thrown hI2) neverM ⟨Nat.le_of_ble_eq_true rfl, Nat.le_of_ble_eq_true rfl⟩ rfl (Nat.le_of_ble_eq_true rfl) (List.Perm.refl _) 0 m1 rfl rfl ⟨(show ck + 1 + 0 + 0 ≤ 601024 by omega), (show sk + 6 + 0 + 0 ≤ 7293034 by omega)⟩ ?_
  rintro w M'' hz
  cases hz
  refine BdL.pm wp3 ?_
  refine BdL.seg hF ok_C_isSmouldering 9 [] rfl ⟨fun _ => (show BdL X 1441 [some (.ref X.b), some (.ref hx), some (.ref hm), some (.ref ho), some (.int i), some (.int e), some (.int v), none, none] [] (oC X ho g' :: (MX' ++ MM')) (ck + 1 + 0 + 0) (sk + 6 + 0 + 0) from ?_), fun c => absurd rfl c⟩
  have hend : BdL X 1465 [some (.ref X.b), some (.ref hx), some (.ref hm), some (.ref ho), some (.int i), some (.int e), some (.int v), none, none] [] (oC X ho g' :: (MX' ++ MM')) (ck + 1 + 0 + 0) (sk + 6 + 0 + 0) := by
    refine BdL.seg hF ok_C_isSmouldering 11 [] rfl (show BdL X 2666 [some (.ref X.b), some (.ref hx), some (.ref hm), some (.ref ho), some (.int i), some (.int e), some (.int v), none, none] [] (oC X ho g' :: (MX' ++ MM')) (ck + 1 + 0 + 0) (sk + 6 + 0 + 0) from ?_)
    exact BdL.weak (BdL.wide (by omega) (by omega) (hk _ _ _ g' hI2)) ⟨rfl, rfl, rfl, rfl, rfl, trivial⟩
  refine BdL.seg hF ok_C_isSmouldering 10 [] rfl ⟨fun _ => hend, fun c0 => (show BdL X 1446 [some (.ref X.b), some (.ref hx), some (.ref hm), some (.ref ho), some (.int i), some (.int e), some (.int v), none, none] [] (oC X ho g' :: (MX' ++ MM')) (ck + 1 + 0 + 0) (sk + 6 + 0 + 0) from ?_)⟩
  refine BdL.seg hF ok_C_isSmouldering 12 [0] rfl ⟨⟨rfl, rfl⟩, xg (by decide), fun cv => (show BdL X 1458 [some (.ref X.b), some (.ref hx), some (.ref hm), some (.ref ho), some (.int i), some (.int e), some (.int v), none, none] [.long (g' (Int32.toNatClampNeg 0))] (oC X ho g' :: (MX' ++ MM')) (ck + 1 + 0 + 0) (sk + 6 + 0 + 0) from ?_), fun cv => (show BdL X 1454 [some (.ref X.b), some (.ref hx), some (.ref hm), some (.ref ho), some (.int i), some (.int e), some (.int v), none, none] [.long (g' (Int32.toNatClampNeg 0))] (oC X ho g' :: (MX' ++ MM')) (ck + 1 + 0 + 0) (sk + 6 + 0 + 0) from ?_)⟩
  · have hg0 : g' (Int32.toNatClampNeg 0) = Int64.ofNat 0 := (hg c0).trans (if_pos cv)
    rw [hg0]
    exact BdL.seg hF ok_C_isSmouldering 13 [] rfl ⟨fun _ => hend, fun c1 => absurd (cmp0 _) c1⟩
  · have hg0 : g' (Int32.toNatClampNeg 0) = Int64.ofNat 1 := (hg c0).trans (if_neg cv)
    rw [hg0]
    refine BdL.seg hF ok_C_isSmouldering 14 [] rfl (show BdL X 1459 [some (.ref X.b), some (.ref hx), some (.ref hm), some (.ref ho), some (.int i), some (.int e), some (.int v), none, none] [.long (Int64.ofNat 1), .long (Int64.ofNat 1)] (oC X ho g' :: (MX' ++ MM')) (ck + 1 + 0 + 0) (sk + 6 + 0 + 0) from ?_)
    exact BdL.seg hF ok_C_isSmouldering 15 [] rfl ⟨fun _ => hend, fun c1 => absurd (cmp0 _) c1⟩
def tb_C_qualityOf : List (Nat × List xI) := [(1468, [(.aload_n 1, [], 0), (.aload_n 0, [], 0), (.iload 4, [], 0), (.iconst 1, [], 1), (.iadd, [], 0)]), (1474, [(.iaload, [], 0)]), (1475, [(.aload_n 3, [], 0)]), (1476, [(.invokestatic 237, [], 0)]), (1479, [(.istore 5, [], 0), (.aload_n 2, [], 0), (.aload_n 0, [], 0), (.iload 4, [], 0), (.iconst 1, [], 1), (.iadd, [], 0)]), (1487, [(.iaload, [], 0)]), (1488, [(.invokevirtual 239, [], 0)]), (1491, [(.istore 6, [], 0), (.aload_n 2, [], 0)]), (1494, [(.invokevirtual 128, [], 0)]), (1497, [(.iload 5, [], 0), (.if_icmp .eq 5, [], 0)]), (1504, [(.iload 5, [], 0), (.ifCond .ne 15, [], 0)]), (1521, [(.goto 1145, [], 0)]), (1509, [(.aload_n 3, [], 0), (.iconst 0, [], 0), (.laload, [], 0), (.iload 6, [], 0), (.i2l, [], 0), (.lcmp, [], 0), (.ifCond .eq 5, [], 0)])]
set_option maxRecDepth 100000 in
theorem ok_C_qualityOf : ∀ q ∈ tb_C_qualityOf, (xChks (yLw "law") q.1 q.2 && xNoPut q.2) = true := by decide +kernel
set_option maxRecDepth 100000 in
theorem case_qualityOf {X : LX} {hx hm ho ck sk : Nat} {e0 i : Int32} {g : Nat → Int64} {MX MM : va_W} (hF : LF X) (hin : ∀ j : Int32, 0 ≤ j → j ≤ 5 → vp_in (i + j) X.n) (hI : INV X.E hx hm e0 MX MM) (hc : ck + 16 ≤ 601024) (hs : sk + 159 ≤ 7293034) (hk : KN X hx hm ho i ck sk) : BdL X 1468 (L0 X hx hm ho i) [] (WL X ho g MX MM) ck sk := by
  obtain ⟨MM', k, v, e, ha, h1, h2⟩ := op_qualityOf (Nat.le_refl 400000) hI (X.xs (i + 1).toNatClampNeg)
  obtain ⟨-, ⟨ws, m0⟩⟩ := hI.x0
  refine BdL.seg hF ok_C_qualityOf 0 [] rfl (show BdL X 1474 [some (.ref X.b), some (.ref hx), some (.ref hm), some (.ref ho), some (.int i), none, none, none, none] (.int (i + 1) :: .ref X.b :: [.ref hx]) (WL X ho g MX MM) ck sk from ?_)
  refine BdL.sld hF (xdecL ok_C_qualityOf 1 rfl) (hin 1 (by decide) (by decide)) ?_
  refine BdL.seg hF ok_C_qualityOf 2 [] rfl (show BdL X 1476 [some (.ref X.b), some (.ref hx), some (.ref hm), some (.ref ho), some (.int i), none, none, none, none] (.ref ho :: (.int (X.xs (i + 1).toNatClampNeg) :: [.ref hx])) (WL X ho g MX MM) ck sk from ?_)
  refine BdL.callH hF wL_qualityOf vL_qualityOf ini13 xpl13.2 nL_qualityOf kL_qualityOf (xdecL ok_C_qualityOf 3 rfl) (As := [.ref hx, .int (X.xs (i + 1).toNatClampNeg), .ref ho]) (rest := []) (Mc := oC X ho g :: MX) (Rest := MM) (s_L_qualityOf g h1 ha hI.x0.1) ⟨Nat.le_of_ble_eq_true rfl, Nat.le_of_ble_eq_true rfl⟩ rfl (Nat.le_of_ble_eq_true rfl) (List.Perm.refl _) ⟨(show ck + 1 ≤ 601024 by omega), (show sk + 6 ≤ 7293034 by omega)⟩ ?_
  rintro w M' ⟨MX', g', hI2, hg, hz⟩
  cases hz
  refine BdL.seg hF ok_C_qualityOf 4 [] rfl ⟨Nat.le_of_ble_eq_true rfl, (show BdL X 1487 [some (.ref X.b), some (.ref hx), some (.ref hm), some (.ref ho), some (.int i), some (.int e), none, none, none] (.int (i + 1) :: .ref X.b :: [.ref hm]) (oC X ho g' :: MX' ++ MM) (ck + 1) (sk + 6) from ?_)⟩
  refine BdL.sld hF (xdecL ok_C_qualityOf 5 rfl) (hin 1 (by decide) (by decide)) ?_
  refine BdL.callV hF oX12_qualityOf vX12_qualityOf nX12_qualityOf k13_239 (xdecL ok_C_qualityOf 6 rfl) (As := [.int (X.xs (i + 1).toNatClampNeg)]) (rest := []) h2 neverM ⟨Nat.le_of_ble_eq_true rfl, Nat.le_of_ble_eq_true rfl⟩ rfl (Nat.le_of_ble_eq_true rfl) wp4 0 m0 rfl rfl ⟨(show ck + 1 + 0 ≤ 601024 by omega), (show sk + 6 + 0 ≤ 7293034 by omega)⟩ ?_
  rintro w M'' hz
  cases hz
  obtain ⟨-, ⟨ws2, m1⟩⟩ := hI2.x0
  refine BdL.seg hF ok_C_qualityOf 7 [] rfl ⟨Nat.le_of_ble_eq_true rfl, (show BdL X 1494 [some (.ref X.b), some (.ref hx), some (.ref hm), some (.ref ho), some (.int i), some (.int e), some (.int v), none, none] [.ref hm] (MM' ++ (oC X ho g' :: MX')) (ck + 1 + 0) (sk + 6 + 0) from ?_)⟩
  refine BdL.callV hF oX12_thrown vX12_thrown nX12_thrown k13_128 (xdecL ok_C_qualityOf 8 rfl) (As := []) (rest := []) (op_thrown hI2) neverM ⟨Nat.le_of_ble_eq_true rfl, Nat.le_of_ble_eq_true rfl⟩ rfl (Nat.le_of_ble_eq_true rfl) (List.Perm.refl _) 0 m1 rfl rfl ⟨(show ck + 1 + 0 + 0 ≤ 601024 by omega), (show sk + 6 + 0 + 0 ≤ 7293034 by omega)⟩ ?_
  rintro w M'' hz
  cases hz
  refine BdL.pm wp3 ?_
  refine BdL.seg hF ok_C_qualityOf 9 [] rfl ⟨fun _ => (show BdL X 1504 [some (.ref X.b), some (.ref hx), some (.ref hm), some (.ref ho), some (.int i), some (.int e), some (.int v), none, none] [] (oC X ho g' :: (MX' ++ MM')) (ck + 1 + 0 + 0) (sk + 6 + 0 + 0) from ?_), fun c => absurd rfl c⟩
  have hend : BdL X 1521 [some (.ref X.b), some (.ref hx), some (.ref hm), some (.ref ho), some (.int i), some (.int e), some (.int v), none, none] [] (oC X ho g' :: (MX' ++ MM')) (ck + 1 + 0 + 0) (sk + 6 + 0 + 0) := by
    refine BdL.seg hF ok_C_qualityOf 11 [] rfl (show BdL X 2666 [some (.ref X.b), some (.ref hx), some (.ref hm), some (.ref ho), some (.int i), some (.int e), some (.int v), none, none] [] (oC X ho g' :: (MX' ++ MM')) (ck + 1 + 0 + 0) (sk + 6 + 0 + 0) from ?_)
    exact BdL.weak (BdL.wide (by omega) (by omega) (hk _ _ _ g' hI2)) ⟨rfl, rfl, rfl, rfl, rfl, trivial⟩
  refine BdL.seg hF ok_C_qualityOf 10 [] rfl ⟨fun _ => hend, fun c0 => (show BdL X 1509 [some (.ref X.b), some (.ref hx), some (.ref hm), some (.ref ho), some (.int i), some (.int e), some (.int v), none, none] [] (oC X ho g' :: (MX' ++ MM')) (ck + 1 + 0 + 0) (sk + 6 + 0 + 0) from ?_)⟩
  have hg0 : g' (Int32.toNatClampNeg 0) = v.toInt64 := hg c0
  refine BdL.seg hF ok_C_qualityOf 12 [0] rfl ⟨⟨rfl, rfl⟩, xg (by decide), fun _ => hend, fun c1 => absurd ?_ c1⟩
  rw [hg0]
  exact cmp0 _
def tb_C_priceOf : List (Nat × List xI) := [(1524, [(.aload_n 1, [], 0), (.aload_n 0, [], 0), (.iload 4, [], 0), (.iconst 1, [], 1), (.iadd, [], 0)]), (1530, [(.iaload, [], 0)]), (1531, [(.aload_n 3, [], 0)]), (1532, [(.invokestatic 240, [], 0)]), (1535, [(.istore 5, [], 0), (.aload_n 2, [], 0), (.aload_n 0, [], 0), (.iload 4, [], 0), (.iconst 1, [], 1), (.iadd, [], 0)]), (1543, [(.iaload, [], 0)]), (1544, [(.invokevirtual 242, [], 0)]), (1547, [(.istore 6, [], 0), (.aload_n 2, [], 0)]), (1550, [(.invokevirtual 128, [], 0)]), (1553, [(.iload 5, [], 0), (.if_icmp .eq 5, [], 0)]), (1560, [(.iload 5, [], 0), (.ifCond .ne 15, [], 0)]), (1577, [(.goto 1089, [], 0)]), (1565, [(.aload_n 3, [], 0), (.iconst 0, [], 0), (.laload, [], 0), (.iload 6, [], 0), (.i2l, [], 0), (.lcmp, [], 0), (.ifCond .eq 5, [], 0)])]
set_option maxRecDepth 100000 in
theorem ok_C_priceOf : ∀ q ∈ tb_C_priceOf, (xChks (yLw "law") q.1 q.2 && xNoPut q.2) = true := by decide +kernel
set_option maxRecDepth 100000 in
theorem case_priceOf {X : LX} {hx hm ho ck sk : Nat} {e0 i : Int32} {g : Nat → Int64} {MX MM : va_W} (hF : LF X) (hin : ∀ j : Int32, 0 ≤ j → j ≤ 5 → vp_in (i + j) X.n) (hI : INV X.E hx hm e0 MX MM) (hc : ck + 16 ≤ 601024) (hs : sk + 159 ≤ 7293034) (hk : KN X hx hm ho i ck sk) : BdL X 1524 (L0 X hx hm ho i) [] (WL X ho g MX MM) ck sk := by
  obtain ⟨MM', k, v, e, ha, h1, h2⟩ := op_priceOf (Nat.le_refl 400000) hI (X.xs (i + 1).toNatClampNeg)
  obtain ⟨-, ⟨ws, m0⟩⟩ := hI.x0
  refine BdL.seg hF ok_C_priceOf 0 [] rfl (show BdL X 1530 [some (.ref X.b), some (.ref hx), some (.ref hm), some (.ref ho), some (.int i), none, none, none, none] (.int (i + 1) :: .ref X.b :: [.ref hx]) (WL X ho g MX MM) ck sk from ?_)
  refine BdL.sld hF (xdecL ok_C_priceOf 1 rfl) (hin 1 (by decide) (by decide)) ?_
  refine BdL.seg hF ok_C_priceOf 2 [] rfl (show BdL X 1532 [some (.ref X.b), some (.ref hx), some (.ref hm), some (.ref ho), some (.int i), none, none, none, none] (.ref ho :: (.int (X.xs (i + 1).toNatClampNeg) :: [.ref hx])) (WL X ho g MX MM) ck sk from ?_)
  refine BdL.callH hF wL_priceOf vL_priceOf ini13 xpl13.2 nL_priceOf kL_priceOf (xdecL ok_C_priceOf 3 rfl) (As := [.ref hx, .int (X.xs (i + 1).toNatClampNeg), .ref ho]) (rest := []) (Mc := oC X ho g :: MX) (Rest := MM) (s_L_priceOf g h1 ha hI.x0.1) ⟨Nat.le_of_ble_eq_true rfl, Nat.le_of_ble_eq_true rfl⟩ rfl (Nat.le_of_ble_eq_true rfl) (List.Perm.refl _) ⟨(show ck + 1 ≤ 601024 by omega), (show sk + 6 ≤ 7293034 by omega)⟩ ?_
  rintro w M' ⟨MX', g', hI2, hg, hz⟩
  cases hz
  refine BdL.seg hF ok_C_priceOf 4 [] rfl ⟨Nat.le_of_ble_eq_true rfl, (show BdL X 1543 [some (.ref X.b), some (.ref hx), some (.ref hm), some (.ref ho), some (.int i), some (.int e), none, none, none] (.int (i + 1) :: .ref X.b :: [.ref hm]) (oC X ho g' :: MX' ++ MM) (ck + 1) (sk + 6) from ?_)⟩
  refine BdL.sld hF (xdecL ok_C_priceOf 5 rfl) (hin 1 (by decide) (by decide)) ?_
  refine BdL.callV hF oX12_priceOf vX12_priceOf nX12_priceOf k13_242 (xdecL ok_C_priceOf 6 rfl) (As := [.int (X.xs (i + 1).toNatClampNeg)]) (rest := []) h2 neverM ⟨Nat.le_of_ble_eq_true rfl, Nat.le_of_ble_eq_true rfl⟩ rfl (Nat.le_of_ble_eq_true rfl) wp4 0 m0 rfl rfl ⟨(show ck + 1 + 0 ≤ 601024 by omega), (show sk + 6 + 0 ≤ 7293034 by omega)⟩ ?_
  rintro w M'' hz
  cases hz
  obtain ⟨-, ⟨ws2, m1⟩⟩ := hI2.x0
  refine BdL.seg hF ok_C_priceOf 7 [] rfl ⟨Nat.le_of_ble_eq_true rfl, (show BdL X 1550 [some (.ref X.b), some (.ref hx), some (.ref hm), some (.ref ho), some (.int i), some (.int e), some (.int v), none, none] [.ref hm] (MM' ++ (oC X ho g' :: MX')) (ck + 1 + 0) (sk + 6 + 0) from ?_)⟩
  refine BdL.callV hF oX12_thrown vX12_thrown nX12_thrown k13_128 (xdecL ok_C_priceOf 8 rfl) (As := []) (rest := []) (op_thrown hI2) neverM ⟨Nat.le_of_ble_eq_true rfl, Nat.le_of_ble_eq_true rfl⟩ rfl (Nat.le_of_ble_eq_true rfl) (List.Perm.refl _) 0 m1 rfl rfl ⟨(show ck + 1 + 0 + 0 ≤ 601024 by omega), (show sk + 6 + 0 + 0 ≤ 7293034 by omega)⟩ ?_
  rintro w M'' hz
  cases hz
  refine BdL.pm wp3 ?_
  refine BdL.seg hF ok_C_priceOf 9 [] rfl ⟨fun _ => (show BdL X 1560 [some (.ref X.b), some (.ref hx), some (.ref hm), some (.ref ho), some (.int i), some (.int e), some (.int v), none, none] [] (oC X ho g' :: (MX' ++ MM')) (ck + 1 + 0 + 0) (sk + 6 + 0 + 0) from ?_), fun c => absurd rfl c⟩
  have hend : BdL X 1577 [some (.ref X.b), some (.ref hx), some (.ref hm), some (.ref ho), some (.int i), some (.int e), some (.int v), none, none] [] (oC X ho g' :: (MX' ++ MM')) (ck + 1 + 0 + 0) (sk + 6 + 0 + 0) := by
    refine BdL.seg hF ok_C_priceOf 11 [] rfl (show BdL X 2666 [some (.ref X.b), some (.ref hx), some (.ref hm), some (.ref ho), some (.int i), some (.int e), some (.int v), none, none] [] (oC X ho g' :: (MX' ++ MM')) (ck + 1 + 0 + 0) (sk + 6 + 0 + 0) from ?_)
    exact BdL.weak (BdL.wide (by omega) (by omega) (hk _ _ _ g' hI2)) ⟨rfl, rfl, rfl, rfl, rfl, trivial⟩
  refine BdL.seg hF ok_C_priceOf 10 [] rfl ⟨fun _ => hend, fun c0 => (show BdL X 1565 [some (.ref X.b), some (.ref hx), some (.ref hm), some (.ref ho), some (.int i), some (.int e), some (.int v), none, none] [] (oC X ho g' :: (MX' ++ MM')) (ck + 1 + 0 + 0) (sk + 6 + 0 + 0) from ?_)⟩
  have hg0 : g' (Int32.toNatClampNeg 0) = v.toInt64 := hg c0
  refine BdL.seg hF ok_C_priceOf 12 [0] rfl ⟨⟨rfl, rfl⟩, xg (by decide), fun _ => hend, fun c1 => absurd ?_ c1⟩
  rw [hg0]
  exact cmp0 _
def tb_C_smoulderingSacks : List (Nat × List xI) := [(1580, [(.aload_n 1, [], 0)]), (1581, [(.invokevirtual 243, [], 0)]), (1584, [(.aload_n 2, [], 0)]), (1585, [(.invokevirtual 246, [], 0)]), (1588, [(.if_icmp .eq 1078, [], 0)])]
set_option maxRecDepth 100000 in
theorem ok_C_smoulderingSacks : ∀ q ∈ tb_C_smoulderingSacks, (xChks (yLw "law") q.1 q.2 && xNoPut q.2) = true := by decide +kernel
set_option maxRecDepth 100000 in
theorem case_smoulderingSacks {X : LX} {hx hm ho ck sk : Nat} {e0 i : Int32} {g : Nat → Int64} {MX MM : va_W} (hF : LF X) (hin : ∀ j : Int32, 0 ≤ j → j ≤ 5 → vp_in (i + j) X.n) (hI : INV X.E hx hm e0 MX MM) (hc : ck + 16 ≤ 601024) (hs : sk + 159 ≤ 7293034) (hk : KN X hx hm ho i ck sk) : BdL X 1580 (L0 X hx hm ho i) [] (WL X ho g MX MM) ck sk := by
  obtain ⟨MM', v, -, h1, h2⟩ := op_smoulderingSacks (Nat.le_refl 400000) hI
  obtain ⟨⟨vs, x0⟩, ⟨ws, m0⟩⟩ := hI.x0
  refine BdL.seg hF ok_C_smoulderingSacks 0 [] rfl (show BdL X 1581 (L0 X hx hm ho i) [.ref hx] (WL X ho g MX MM) ck sk from ?_)
  refine BdL.callV hF oX11_smoulderingSacks vX11_smoulderingSacks nX11_smoulderingSacks k13_243 (xdecL ok_C_smoulderingSacks 1 rfl) (As := []) (rest := []) h1 never ⟨Nat.le_of_ble_eq_true rfl, Nat.le_of_ble_eq_true rfl⟩ rfl (Nat.le_of_ble_eq_true rfl) wp1 0 x0 rfl rfl ⟨(show ck + 0 ≤ 601024 by omega), (show sk + 0 ≤ 7293034 by omega)⟩ ?_
  rintro w M' ⟨MX', hI2, hz⟩
  cases hz
  refine BdL.seg hF ok_C_smoulderingSacks 2 [] rfl (show BdL X 1585 (L0 X hx hm ho i) [.ref hm, .int v] (M' ++ (oC X ho g :: MM)) (ck + 0) (sk + 0) from ?_)
  refine BdL.callV hF oX12_smoulderingSacks vX12_smoulderingSacks nX12_smoulderingSacks k13_246 (xdecL ok_C_smoulderingSacks 3 rfl) (As := []) (rest := [.int v]) h2 neverM ⟨Nat.le_of_ble_eq_true rfl, Nat.le_of_ble_eq_true rfl⟩ rfl (Nat.le_of_ble_eq_true rfl) wp2 0 m0 rfl rfl ⟨(show ck + 0 + 0 ≤ 601024 by omega), (show sk + 0 + 0 ≤ 7293034 by omega)⟩ ?_
  rintro w M'' hz
  cases hz
  refine BdL.seg hF ok_C_smoulderingSacks 4 [] rfl ⟨fun _ => (show BdL X 2666 (L0 X hx hm ho i) [] (MM' ++ (oC X ho g :: M')) (ck + 0 + 0) (sk + 0 + 0) from ?_), fun c => absurd rfl c⟩
  exact BdL.pm wp3 (BdL.wide (by omega) (by omega) (hk _ _ _ g hI2))
def tb_C_hottestSack : List (Nat × List xI) := [(1593, [(.aload_n 1, [], 0)]), (1594, [(.invokevirtual 247, [], 0)]), (1597, [(.aload_n 2, [], 0)]), (1598, [(.invokevirtual 250, [], 0)]), (1601, [(.if_icmp .eq 1065, [], 0)])]
set_option maxRecDepth 100000 in
theorem ok_C_hottestSack : ∀ q ∈ tb_C_hottestSack, (xChks (yLw "law") q.1 q.2 && xNoPut q.2) = true := by decide +kernel
set_option maxRecDepth 100000 in
theorem case_hottestSack {X : LX} {hx hm ho ck sk : Nat} {e0 i : Int32} {g : Nat → Int64} {MX MM : va_W} (hF : LF X) (hin : ∀ j : Int32, 0 ≤ j → j ≤ 5 → vp_in (i + j) X.n) (hI : INV X.E hx hm e0 MX MM) (hc : ck + 16 ≤ 601024) (hs : sk + 159 ≤ 7293034) (hk : KN X hx hm ho i ck sk) : BdL X 1593 (L0 X hx hm ho i) [] (WL X ho g MX MM) ck sk := by
  obtain ⟨MM', v, -, h1, h2⟩ := op_hottestSack (Nat.le_refl 400000) hI
  obtain ⟨⟨vs, x0⟩, ⟨ws, m0⟩⟩ := hI.x0
  refine BdL.seg hF ok_C_hottestSack 0 [] rfl (show BdL X 1594 (L0 X hx hm ho i) [.ref hx] (WL X ho g MX MM) ck sk from ?_)
  refine BdL.callV hF oX11_hottestSack vX11_hottestSack nX11_hottestSack k13_247 (xdecL ok_C_hottestSack 1 rfl) (As := []) (rest := []) h1 never ⟨Nat.le_of_ble_eq_true rfl, Nat.le_of_ble_eq_true rfl⟩ rfl (Nat.le_of_ble_eq_true rfl) wp1 0 x0 rfl rfl ⟨(show ck + 0 ≤ 601024 by omega), (show sk + 0 ≤ 7293034 by omega)⟩ ?_
  rintro w M' ⟨MX', hI2, hz⟩
  cases hz
  refine BdL.seg hF ok_C_hottestSack 2 [] rfl (show BdL X 1598 (L0 X hx hm ho i) [.ref hm, .int v] (M' ++ (oC X ho g :: MM)) (ck + 0) (sk + 0) from ?_)
  refine BdL.callV hF oX12_hottestSack vX12_hottestSack nX12_hottestSack k13_250 (xdecL ok_C_hottestSack 3 rfl) (As := []) (rest := [.int v]) h2 neverM ⟨Nat.le_of_ble_eq_true rfl, Nat.le_of_ble_eq_true rfl⟩ rfl (Nat.le_of_ble_eq_true rfl) wp2 0 m0 rfl rfl ⟨(show ck + 0 + 0 ≤ 601024 by omega), (show sk + 0 + 0 ≤ 7293034 by omega)⟩ ?_
  rintro w M'' hz
  cases hz
  refine BdL.seg hF ok_C_hottestSack 4 [] rfl ⟨fun _ => (show BdL X 2666 (L0 X hx hm ho i) [] (MM' ++ (oC X ho g :: M')) (ck + 0 + 0) (sk + 0 + 0) from ?_), fun c => absurd rfl c⟩
  exact BdL.pm wp3 (BdL.wide (by omega) (by omega) (hk _ _ _ g hI2))
def tb_C_loadedMass : List (Nat × List xI) := [(1606, [(.aload_n 1, [], 0)]), (1607, [(.invokevirtual 251, [], 0)]), (1610, [(.aload_n 2, [], 0)]), (1611, [(.invokevirtual 254, [], 0)]), (1614, [(.if_icmp .eq 1052, [], 0)])]
set_option maxRecDepth 100000 in
theorem ok_C_loadedMass : ∀ q ∈ tb_C_loadedMass, (xChks (yLw "law") q.1 q.2 && xNoPut q.2) = true := by decide +kernel
set_option maxRecDepth 100000 in
theorem case_loadedMass {X : LX} {hx hm ho ck sk : Nat} {e0 i : Int32} {g : Nat → Int64} {MX MM : va_W} (hF : LF X) (hin : ∀ j : Int32, 0 ≤ j → j ≤ 5 → vp_in (i + j) X.n) (hI : INV X.E hx hm e0 MX MM) (hc : ck + 16 ≤ 601024) (hs : sk + 159 ≤ 7293034) (hk : KN X hx hm ho i ck sk) : BdL X 1606 (L0 X hx hm ho i) [] (WL X ho g MX MM) ck sk := by
  obtain ⟨MM', v, -, h1, h2⟩ := op_loadedMass (Nat.le_refl 400000) hI
  obtain ⟨⟨vs, x0⟩, ⟨ws, m0⟩⟩ := hI.x0
  refine BdL.seg hF ok_C_loadedMass 0 [] rfl (show BdL X 1607 (L0 X hx hm ho i) [.ref hx] (WL X ho g MX MM) ck sk from ?_)
  refine BdL.callV hF oX11_loadedMass vX11_loadedMass nX11_loadedMass k13_251 (xdecL ok_C_loadedMass 1 rfl) (As := []) (rest := []) h1 never ⟨Nat.le_of_ble_eq_true rfl, Nat.le_of_ble_eq_true rfl⟩ rfl (Nat.le_of_ble_eq_true rfl) wp1 0 x0 rfl rfl ⟨(show ck + 0 ≤ 601024 by omega), (show sk + 0 ≤ 7293034 by omega)⟩ ?_
  rintro w M' ⟨MX', hI2, hz⟩
  cases hz
  refine BdL.seg hF ok_C_loadedMass 2 [] rfl (show BdL X 1611 (L0 X hx hm ho i) [.ref hm, .int v] (M' ++ (oC X ho g :: MM)) (ck + 0) (sk + 0) from ?_)
  refine BdL.callV hF oX12_loadedMass vX12_loadedMass nX12_loadedMass k13_254 (xdecL ok_C_loadedMass 3 rfl) (As := []) (rest := [.int v]) h2 neverM ⟨Nat.le_of_ble_eq_true rfl, Nat.le_of_ble_eq_true rfl⟩ rfl (Nat.le_of_ble_eq_true rfl) wp2 0 m0 rfl rfl ⟨(show ck + 0 + 0 ≤ 601024 by omega), (show sk + 0 + 0 ≤ 7293034 by omega)⟩ ?_
  rintro w M'' hz
  cases hz
  refine BdL.seg hF ok_C_loadedMass 4 [] rfl ⟨fun _ => (show BdL X 2666 (L0 X hx hm ho i) [] (MM' ++ (oC X ho g :: M')) (ck + 0 + 0) (sk + 0 + 0) from ?_), fun c => absurd rfl c⟩
  exact BdL.pm wp3 (BdL.wide (by omega) (by omega) (hk _ _ _ g hI2))
def tb_C_soldMass : List (Nat × List xI) := [(1619, [(.aload_n 1, [], 0)]), (1620, [(.invokevirtual 255, [], 0)]), (1623, [(.aload_n 2, [], 0)]), (1624, [(.invokevirtual 258, [], 0)]), (1627, [(.if_icmp .eq 1039, [], 0)])]
set_option maxRecDepth 100000 in
theorem ok_C_soldMass : ∀ q ∈ tb_C_soldMass, (xChks (yLw "law") q.1 q.2 && xNoPut q.2) = true := by decide +kernel
set_option maxRecDepth 100000 in
theorem case_soldMass {X : LX} {hx hm ho ck sk : Nat} {e0 i : Int32} {g : Nat → Int64} {MX MM : va_W} (hF : LF X) (hin : ∀ j : Int32, 0 ≤ j → j ≤ 5 → vp_in (i + j) X.n) (hI : INV X.E hx hm e0 MX MM) (hc : ck + 16 ≤ 601024) (hs : sk + 159 ≤ 7293034) (hk : KN X hx hm ho i ck sk) : BdL X 1619 (L0 X hx hm ho i) [] (WL X ho g MX MM) ck sk := by
  obtain ⟨MM', v, -, h1, h2⟩ := op_soldMass (Nat.le_refl 400000) hI
  obtain ⟨⟨vs, x0⟩, ⟨ws, m0⟩⟩ := hI.x0
  refine BdL.seg hF ok_C_soldMass 0 [] rfl (show BdL X 1620 (L0 X hx hm ho i) [.ref hx] (WL X ho g MX MM) ck sk from ?_)
  refine BdL.callV hF oX11_soldMass vX11_soldMass nX11_soldMass k13_255 (xdecL ok_C_soldMass 1 rfl) (As := []) (rest := []) h1 never ⟨Nat.le_of_ble_eq_true rfl, Nat.le_of_ble_eq_true rfl⟩ rfl (Nat.le_of_ble_eq_true rfl) wp1 0 x0 rfl rfl ⟨(show ck + 0 ≤ 601024 by omega), (show sk + 0 ≤ 7293034 by omega)⟩ ?_
  rintro w M' ⟨MX', hI2, hz⟩
  cases hz
  refine BdL.seg hF ok_C_soldMass 2 [] rfl (show BdL X 1624 (L0 X hx hm ho i) [.ref hm, .int v] (M' ++ (oC X ho g :: MM)) (ck + 0) (sk + 0) from ?_)
  refine BdL.callV hF oX12_soldMass vX12_soldMass nX12_soldMass k13_258 (xdecL ok_C_soldMass 3 rfl) (As := []) (rest := [.int v]) h2 neverM ⟨Nat.le_of_ble_eq_true rfl, Nat.le_of_ble_eq_true rfl⟩ rfl (Nat.le_of_ble_eq_true rfl) wp2 0 m0 rfl rfl ⟨(show ck + 0 + 0 ≤ 601024 by omega), (show sk + 0 + 0 ≤ 7293034 by omega)⟩ ?_
  rintro w M'' hz
  cases hz
  refine BdL.seg hF ok_C_soldMass 4 [] rfl ⟨fun _ => (show BdL X 2666 (L0 X hx hm ho i) [] (MM' ++ (oC X ho g :: M')) (ck + 0 + 0) (sk + 0 + 0) from ?_), fun c => absurd rfl c⟩
  exact BdL.pm wp3 (BdL.wide (by omega) (by omega) (hk _ _ _ g hI2))
def tb_C_burntMass : List (Nat × List xI) := [(1632, [(.aload_n 1, [], 0)]), (1633, [(.invokevirtual 259, [], 0)]), (1636, [(.aload_n 2, [], 0)]), (1637, [(.invokevirtual 262, [], 0)]), (1640, [(.if_icmp .eq 1026, [], 0)])]
set_option maxRecDepth 100000 in
theorem ok_C_burntMass : ∀ q ∈ tb_C_burntMass, (xChks (yLw "law") q.1 q.2 && xNoPut q.2) = true := by decide +kernel
set_option maxRecDepth 100000 in
theorem case_burntMass {X : LX} {hx hm ho ck sk : Nat} {e0 i : Int32} {g : Nat → Int64} {MX MM : va_W} (hF : LF X) (hin : ∀ j : Int32, 0 ≤ j → j ≤ 5 → vp_in (i + j) X.n) (hI : INV X.E hx hm e0 MX MM) (hc : ck + 16 ≤ 601024) (hs : sk + 159 ≤ 7293034) (hk : KN X hx hm ho i ck sk) : BdL X 1632 (L0 X hx hm ho i) [] (WL X ho g MX MM) ck sk := by
  obtain ⟨MM', v, -, h1, h2⟩ := op_burntMass (Nat.le_refl 400000) hI
  obtain ⟨⟨vs, x0⟩, ⟨ws, m0⟩⟩ := hI.x0
  refine BdL.seg hF ok_C_burntMass 0 [] rfl (show BdL X 1633 (L0 X hx hm ho i) [.ref hx] (WL X ho g MX MM) ck sk from ?_)
  refine BdL.callV hF oX11_burntMass vX11_burntMass nX11_burntMass k13_259 (xdecL ok_C_burntMass 1 rfl) (As := []) (rest := []) h1 never ⟨Nat.le_of_ble_eq_true rfl, Nat.le_of_ble_eq_true rfl⟩ rfl (Nat.le_of_ble_eq_true rfl) wp1 0 x0 rfl rfl ⟨(show ck + 0 ≤ 601024 by omega), (show sk + 0 ≤ 7293034 by omega)⟩ ?_
  rintro w M' ⟨MX', hI2, hz⟩
  cases hz
  refine BdL.seg hF ok_C_burntMass 2 [] rfl (show BdL X 1637 (L0 X hx hm ho i) [.ref hm, .int v] (M' ++ (oC X ho g :: MM)) (ck + 0) (sk + 0) from ?_)
  refine BdL.callV hF oX12_burntMass vX12_burntMass nX12_burntMass k13_262 (xdecL ok_C_burntMass 3 rfl) (As := []) (rest := [.int v]) h2 neverM ⟨Nat.le_of_ble_eq_true rfl, Nat.le_of_ble_eq_true rfl⟩ rfl (Nat.le_of_ble_eq_true rfl) wp2 0 m0 rfl rfl ⟨(show ck + 0 + 0 ≤ 601024 by omega), (show sk + 0 + 0 ≤ 7293034 by omega)⟩ ?_
  rintro w M'' hz
  cases hz
  refine BdL.seg hF ok_C_burntMass 4 [] rfl ⟨fun _ => (show BdL X 2666 (L0 X hx hm ho i) [] (MM' ++ (oC X ho g :: M')) (ck + 0 + 0) (sk + 0 + 0) from ?_), fun c => absurd rfl c⟩
  exact BdL.pm wp3 (BdL.wide (by omega) (by omega) (hk _ _ _ g hI2))
def tb_C_income : List (Nat × List xI) := [(1645, [(.aload_n 1, [], 0)]), (1646, [(.invokevirtual 263, [], 0)]), (1649, [(.aload_n 2, [], 0)]), (1650, [(.invokevirtual 266, [], 0)]), (1653, [(.if_icmp .eq 1013, [], 0)])]
set_option maxRecDepth 100000 in
theorem ok_C_income : ∀ q ∈ tb_C_income, (xChks (yLw "law") q.1 q.2 && xNoPut q.2) = true := by decide +kernel
set_option maxRecDepth 100000 in
theorem case_income {X : LX} {hx hm ho ck sk : Nat} {e0 i : Int32} {g : Nat → Int64} {MX MM : va_W} (hF : LF X) (hin : ∀ j : Int32, 0 ≤ j → j ≤ 5 → vp_in (i + j) X.n) (hI : INV X.E hx hm e0 MX MM) (hc : ck + 16 ≤ 601024) (hs : sk + 159 ≤ 7293034) (hk : KN X hx hm ho i ck sk) : BdL X 1645 (L0 X hx hm ho i) [] (WL X ho g MX MM) ck sk := by
  obtain ⟨MM', v, -, h1, h2⟩ := op_income (Nat.le_refl 400000) hI
  obtain ⟨⟨vs, x0⟩, ⟨ws, m0⟩⟩ := hI.x0
  refine BdL.seg hF ok_C_income 0 [] rfl (show BdL X 1646 (L0 X hx hm ho i) [.ref hx] (WL X ho g MX MM) ck sk from ?_)
  refine BdL.callV hF oX11_income vX11_income nX11_income k13_263 (xdecL ok_C_income 1 rfl) (As := []) (rest := []) h1 never ⟨Nat.le_of_ble_eq_true rfl, Nat.le_of_ble_eq_true rfl⟩ rfl (Nat.le_of_ble_eq_true rfl) wp1 0 x0 rfl rfl ⟨(show ck + 0 ≤ 601024 by omega), (show sk + 0 ≤ 7293034 by omega)⟩ ?_
  rintro w M' ⟨MX', hI2, hz⟩
  cases hz
  refine BdL.seg hF ok_C_income 2 [] rfl (show BdL X 1650 (L0 X hx hm ho i) [.ref hm, .int v] (M' ++ (oC X ho g :: MM)) (ck + 0) (sk + 0) from ?_)
  refine BdL.callV hF oX12_income vX12_income nX12_income k13_266 (xdecL ok_C_income 3 rfl) (As := []) (rest := [.int v]) h2 neverM ⟨Nat.le_of_ble_eq_true rfl, Nat.le_of_ble_eq_true rfl⟩ rfl (Nat.le_of_ble_eq_true rfl) wp2 0 m0 rfl rfl ⟨(show ck + 0 + 0 ≤ 601024 by omega), (show sk + 0 + 0 ≤ 7293034 by omega)⟩ ?_
  rintro w M'' hz
  cases hz
  refine BdL.seg hF ok_C_income 4 [] rfl ⟨fun _ => (show BdL X 2666 (L0 X hx hm ho i) [] (MM' ++ (oC X ho g :: M')) (ck + 0 + 0) (sk + 0 + 0) from ?_), fun c => absurd rfl c⟩
  exact BdL.pm wp3 (BdL.wide (by omega) (by omega) (hk _ _ _ g hI2))
def tb_C_dampedHeat : List (Nat × List xI) := [(1658, [(.aload_n 1, [], 0)]), (1659, [(.invokevirtual 267, [], 0)]), (1662, [(.aload_n 2, [], 0)]), (1663, [(.invokevirtual 270, [], 0)]), (1666, [(.if_icmp .eq 1000, [], 0)])]
set_option maxRecDepth 100000 in
theorem ok_C_dampedHeat : ∀ q ∈ tb_C_dampedHeat, (xChks (yLw "law") q.1 q.2 && xNoPut q.2) = true := by decide +kernel
set_option maxRecDepth 100000 in
theorem case_dampedHeat {X : LX} {hx hm ho ck sk : Nat} {e0 i : Int32} {g : Nat → Int64} {MX MM : va_W} (hF : LF X) (hin : ∀ j : Int32, 0 ≤ j → j ≤ 5 → vp_in (i + j) X.n) (hI : INV X.E hx hm e0 MX MM) (hc : ck + 16 ≤ 601024) (hs : sk + 159 ≤ 7293034) (hk : KN X hx hm ho i ck sk) : BdL X 1658 (L0 X hx hm ho i) [] (WL X ho g MX MM) ck sk := by
  obtain ⟨MM', v, -, h1, h2⟩ := op_dampedHeat (Nat.le_refl 400000) hI
  obtain ⟨⟨vs, x0⟩, ⟨ws, m0⟩⟩ := hI.x0
  refine BdL.seg hF ok_C_dampedHeat 0 [] rfl (show BdL X 1659 (L0 X hx hm ho i) [.ref hx] (WL X ho g MX MM) ck sk from ?_)
  refine BdL.callV hF oX11_dampedHeat vX11_dampedHeat nX11_dampedHeat k13_267 (xdecL ok_C_dampedHeat 1 rfl) (As := []) (rest := []) h1 never ⟨Nat.le_of_ble_eq_true rfl, Nat.le_of_ble_eq_true rfl⟩ rfl (Nat.le_of_ble_eq_true rfl) wp1 0 x0 rfl rfl ⟨(show ck + 0 ≤ 601024 by omega), (show sk + 0 ≤ 7293034 by omega)⟩ ?_
  rintro w M' ⟨MX', hI2, hz⟩
  cases hz
  refine BdL.seg hF ok_C_dampedHeat 2 [] rfl (show BdL X 1663 (L0 X hx hm ho i) [.ref hm, .int v] (M' ++ (oC X ho g :: MM)) (ck + 0) (sk + 0) from ?_)
  refine BdL.callV hF oX12_dampedHeat vX12_dampedHeat nX12_dampedHeat k13_270 (xdecL ok_C_dampedHeat 3 rfl) (As := []) (rest := [.int v]) h2 neverM ⟨Nat.le_of_ble_eq_true rfl, Nat.le_of_ble_eq_true rfl⟩ rfl (Nat.le_of_ble_eq_true rfl) wp2 0 m0 rfl rfl ⟨(show ck + 0 + 0 ≤ 601024 by omega), (show sk + 0 + 0 ≤ 7293034 by omega)⟩ ?_
  rintro w M'' hz
  cases hz
  refine BdL.seg hF ok_C_dampedHeat 4 [] rfl ⟨fun _ => (show BdL X 2666 (L0 X hx hm ho i) [] (MM' ++ (oC X ho g :: M')) (ck + 0 + 0) (sk + 0 + 0) from ?_), fun c => absurd rfl c⟩
  exact BdL.pm wp3 (BdL.wide (by omega) (by omega) (hk _ _ _ g hI2))
def tb_C_vaneSteps : List (Nat × List xI) := [(1671, [(.aload_n 1, [], 0)]), (1672, [(.invokevirtual 271, [], 0)]), (1675, [(.aload_n 2, [], 0)]), (1676, [(.invokevirtual 274, [], 0)]), (1679, [(.if_icmp .eq 987, [], 0)])]
set_option maxRecDepth 100000 in
theorem ok_C_vaneSteps : ∀ q ∈ tb_C_vaneSteps, (xChks (yLw "law") q.1 q.2 && xNoPut q.2) = true := by decide +kernel
set_option maxRecDepth 100000 in
theorem case_vaneSteps {X : LX} {hx hm ho ck sk : Nat} {e0 i : Int32} {g : Nat → Int64} {MX MM : va_W} (hF : LF X) (hin : ∀ j : Int32, 0 ≤ j → j ≤ 5 → vp_in (i + j) X.n) (hI : INV X.E hx hm e0 MX MM) (hc : ck + 16 ≤ 601024) (hs : sk + 159 ≤ 7293034) (hk : KN X hx hm ho i ck sk) : BdL X 1671 (L0 X hx hm ho i) [] (WL X ho g MX MM) ck sk := by
  obtain ⟨MM', v, -, h1, h2⟩ := op_vaneSteps (Nat.le_refl 400000) hI
  obtain ⟨⟨vs, x0⟩, ⟨ws, m0⟩⟩ := hI.x0
  refine BdL.seg hF ok_C_vaneSteps 0 [] rfl (show BdL X 1672 (L0 X hx hm ho i) [.ref hx] (WL X ho g MX MM) ck sk from ?_)
  refine BdL.callV hF oX11_vaneSteps vX11_vaneSteps nX11_vaneSteps k13_271 (xdecL ok_C_vaneSteps 1 rfl) (As := []) (rest := []) h1 never ⟨Nat.le_of_ble_eq_true rfl, Nat.le_of_ble_eq_true rfl⟩ rfl (Nat.le_of_ble_eq_true rfl) wp1 0 x0 rfl rfl ⟨(show ck + 0 ≤ 601024 by omega), (show sk + 0 ≤ 7293034 by omega)⟩ ?_
  rintro w M' ⟨MX', hI2, hz⟩
  cases hz
  refine BdL.seg hF ok_C_vaneSteps 2 [] rfl (show BdL X 1676 (L0 X hx hm ho i) [.ref hm, .int v] (M' ++ (oC X ho g :: MM)) (ck + 0) (sk + 0) from ?_)
  refine BdL.callV hF oX12_vaneSteps vX12_vaneSteps nX12_vaneSteps k13_274 (xdecL ok_C_vaneSteps 3 rfl) (As := []) (rest := [.int v]) h2 neverM ⟨Nat.le_of_ble_eq_true rfl, Nat.le_of_ble_eq_true rfl⟩ rfl (Nat.le_of_ble_eq_true rfl) wp2 0 m0 rfl rfl ⟨(show ck + 0 + 0 ≤ 601024 by omega), (show sk + 0 + 0 ≤ 7293034 by omega)⟩ ?_
  rintro w M'' hz
  cases hz
  refine BdL.seg hF ok_C_vaneSteps 4 [] rfl ⟨fun _ => (show BdL X 2666 (L0 X hx hm ho i) [] (MM' ++ (oC X ho g :: M')) (ck + 0 + 0) (sk + 0 + 0) from ?_), fun c => absurd rfl c⟩
  exact BdL.pm wp3 (BdL.wide (by omega) (by omega) (hk _ _ _ g hI2))
def tb_C_contradictions : List (Nat × List xI) := [(1768, [(.aload_n 1, [], 0)]), (1769, [(.invokevirtual 285, [], 0)]), (1772, [(.aload_n 2, [], 0)]), (1773, [(.invokevirtual 288, [], 0)]), (1776, [(.if_icmp .eq 890, [], 0)])]
set_option maxRecDepth 100000 in
theorem ok_C_contradictions : ∀ q ∈ tb_C_contradictions, (xChks (yLw "law") q.1 q.2 && xNoPut q.2) = true := by decide +kernel
set_option maxRecDepth 100000 in
theorem case_contradictions {X : LX} {hx hm ho ck sk : Nat} {e0 i : Int32} {g : Nat → Int64} {MX MM : va_W} (hF : LF X) (hin : ∀ j : Int32, 0 ≤ j → j ≤ 5 → vp_in (i + j) X.n) (hI : INV X.E hx hm e0 MX MM) (hc : ck + 16 ≤ 601024) (hs : sk + 159 ≤ 7293034) (hk : KN X hx hm ho i ck sk) : BdL X 1768 (L0 X hx hm ho i) [] (WL X ho g MX MM) ck sk := by
  obtain ⟨MM', v, -, h1, h2⟩ := op_contradictions (Nat.le_refl 400000) hI
  obtain ⟨⟨vs, x0⟩, ⟨ws, m0⟩⟩ := hI.x0
  refine BdL.seg hF ok_C_contradictions 0 [] rfl (show BdL X 1769 (L0 X hx hm ho i) [.ref hx] (WL X ho g MX MM) ck sk from ?_)
  refine BdL.callV hF oX11_contradictions vX11_contradictions nX11_contradictions k13_285 (xdecL ok_C_contradictions 1 rfl) (As := []) (rest := []) h1 never ⟨Nat.le_of_ble_eq_true rfl, Nat.le_of_ble_eq_true rfl⟩ rfl (Nat.le_of_ble_eq_true rfl) wp1 0 x0 rfl rfl ⟨(show ck + 0 ≤ 601024 by omega), (show sk + 0 ≤ 7293034 by omega)⟩ ?_
  rintro w M' ⟨MX', hI2, hz⟩
  cases hz
  refine BdL.seg hF ok_C_contradictions 2 [] rfl (show BdL X 1773 (L0 X hx hm ho i) [.ref hm, .int v] (M' ++ (oC X ho g :: MM)) (ck + 0) (sk + 0) from ?_)
  refine BdL.callV hF oX12_contradictions vX12_contradictions nX12_contradictions k13_288 (xdecL ok_C_contradictions 3 rfl) (As := []) (rest := [.int v]) h2 neverM ⟨Nat.le_of_ble_eq_true rfl, Nat.le_of_ble_eq_true rfl⟩ rfl (Nat.le_of_ble_eq_true rfl) wp2 0 m0 rfl rfl ⟨(show ck + 0 + 0 ≤ 601024 by omega), (show sk + 0 + 0 ≤ 7293034 by omega)⟩ ?_
  rintro w M'' hz
  cases hz
  refine BdL.seg hF ok_C_contradictions 4 [] rfl ⟨fun _ => (show BdL X 2666 (L0 X hx hm ho i) [] (MM' ++ (oC X ho g :: M')) (ck + 0 + 0) (sk + 0 + 0) from ?_), fun c => absurd rfl c⟩
  exact BdL.pm wp3 (BdL.wide (by omega) (by omega) (hk _ _ _ g hI2))
def tb_C_temperatureAfter : List (Nat × List xI) := [(1781, [(.aload_n 1, [], 0), (.aload_n 0, [], 0), (.iload 4, [], 0), (.iconst 1, [], 1), (.iadd, [], 0)]), (1787, [(.iaload, [], 0)]), (1788, [(.aload_n 0, [], 0), (.iload 4, [], 0), (.iconst 2, [], 2), (.iadd, [], 0)]), (1793, [(.iaload, [], 0)]), (1794, [(.aload_n 3, [], 0)]), (1795, [(.invokestatic 289, [], 0)]), (1798, [(.istore 5, [], 0), (.aload_n 2, [], 0), (.aload_n 0, [], 0), (.iload 4, [], 0), (.iconst 1, [], 1), (.iadd, [], 0)]), (1806, [(.iaload, [], 0)]), (1807, [(.aload_n 0, [], 0), (.iload 4, [], 0), (.iconst 2, [], 2), (.iadd, [], 0)]), (1812, [(.iaload, [], 0)]), (1813, [(.invokevirtual 292, [], 0)]), (1816, [(.istore 6, [], 0), (.aload_n 2, [], 0)]), (1819, [(.invokevirtual 128, [], 0)]), (1822, [(.iload 5, [], 0), (.if_icmp .eq 5, [], 0)]), (1829, [(.iload 5, [], 0), (.ifCond .ne 15, [], 0)]), (1846, [(.goto 820, [], 0)]), (1834, [(.aload_n 3, [], 0), (.iconst 0, [], 0), (.laload, [], 0), (.iload 6, [], 0), (.i2l, [], 0), (.lcmp, [], 0), (.ifCond .eq 5, [], 0)])]
set_option maxRecDepth 100000 in
theorem ok_C_temperatureAfter : ∀ q ∈ tb_C_temperatureAfter, (xChks (yLw "law") q.1 q.2 && xNoPut q.2) = true := by decide +kernel
set_option maxRecDepth 100000 in
theorem case_temperatureAfter {X : LX} {hx hm ho ck sk : Nat} {e0 i : Int32} {g : Nat → Int64} {MX MM : va_W} (hF : LF X) (hin : ∀ j : Int32, 0 ≤ j → j ≤ 5 → vp_in (i + j) X.n) (hI : INV X.E hx hm e0 MX MM) (hc : ck + 16 ≤ 601024) (hs : sk + 159 ≤ 7293034) (hk : KN X hx hm ho i ck sk) : BdL X 1781 (L0 X hx hm ho i) [] (WL X ho g MX MM) ck sk := by
  obtain ⟨MM', k, v, e, ha, h1, h2⟩ := op_temperatureAfter (Nat.le_refl 400000) hI (X.xs (i + 1).toNatClampNeg) (X.xs (i + 2).toNatClampNeg)
  obtain ⟨-, ⟨ws, m0⟩⟩ := hI.x0
  refine BdL.seg hF ok_C_temperatureAfter 0 [] rfl (show BdL X 1787 [some (.ref X.b), some (.ref hx), some (.ref hm), some (.ref ho), some (.int i), none, none, none, none] (.int (i + 1) :: .ref X.b :: [.ref hx]) (WL X ho g MX MM) ck sk from ?_)
  refine BdL.sld hF (xdecL ok_C_temperatureAfter 1 rfl) (hin 1 (by decide) (by decide)) ?_
  refine BdL.seg hF ok_C_temperatureAfter 2 [] rfl (show BdL X 1793 [some (.ref X.b), some (.ref hx), some (.ref hm), some (.ref ho), some (.int i), none, none, none, none] (.int (i + 2) :: .ref X.b :: (.int (X.xs (i + 1).toNatClampNeg) :: [.ref hx])) (WL X ho g MX MM) ck sk from ?_)
  refine BdL.sld hF (xdecL ok_C_temperatureAfter 3 rfl) (hin 2 (by decide) (by decide)) ?_
  refine BdL.seg hF ok_C_temperatureAfter 4 [] rfl (show BdL X 1795 [some (.ref X.b), some (.ref hx), some (.ref hm), some (.ref ho), some (.int i), none, none, none, none] (.ref ho :: (.int (X.xs (i + 2).toNatClampNeg) :: (.int (X.xs (i + 1).toNatClampNeg) :: [.ref hx]))) (WL X ho g MX MM) ck sk from ?_)
  refine BdL.callH hF wL_temperatureAfter vL_temperatureAfter ini13 xpl13.2 nL_temperatureAfter kL_temperatureAfter (xdecL ok_C_temperatureAfter 5 rfl) (As := [.ref hx, .int (X.xs (i + 1).toNatClampNeg), .int (X.xs (i + 2).toNatClampNeg), .ref ho]) (rest := []) (Mc := oC X ho g :: MX) (Rest := MM) (s_L_temperatureAfter g h1 ha hI.x0.1) ⟨Nat.le_of_ble_eq_true rfl, Nat.le_of_ble_eq_true rfl⟩ rfl (Nat.le_of_ble_eq_true rfl) (List.Perm.refl _) ⟨(show ck + 2 ≤ 601024 by omega), (show sk + 12 ≤ 7293034 by omega)⟩ ?_
  rintro w M' ⟨MX', g', hI2, hg, hz⟩
  cases hz
  refine BdL.seg hF ok_C_temperatureAfter 6 [] rfl ⟨Nat.le_of_ble_eq_true rfl, (show BdL X 1806 [some (.ref X.b), some (.ref hx), some (.ref hm), some (.ref ho), some (.int i), some (.int e), none, none, none] (.int (i + 1) :: .ref X.b :: [.ref hm]) (oC X ho g' :: MX' ++ MM) (ck + 2) (sk + 12) from ?_)⟩
  refine BdL.sld hF (xdecL ok_C_temperatureAfter 7 rfl) (hin 1 (by decide) (by decide)) ?_
  refine BdL.seg hF ok_C_temperatureAfter 8 [] rfl (show BdL X 1812 [some (.ref X.b), some (.ref hx), some (.ref hm), some (.ref ho), some (.int i), some (.int e), none, none, none] (.int (i + 2) :: .ref X.b :: (.int (X.xs (i + 1).toNatClampNeg) :: [.ref hm])) (oC X ho g' :: MX' ++ MM) (ck + 2) (sk + 12) from ?_)
  refine BdL.sld hF (xdecL ok_C_temperatureAfter 9 rfl) (hin 2 (by decide) (by decide)) ?_
  refine BdL.callV hF oX12_temperatureAfter vX12_temperatureAfter nX12_temperatureAfter k13_292 (xdecL ok_C_temperatureAfter 10 rfl) (As := [.int (X.xs (i + 1).toNatClampNeg), .int (X.xs (i + 2).toNatClampNeg)]) (rest := []) h2 neverM ⟨Nat.le_of_ble_eq_true rfl, Nat.le_of_ble_eq_true rfl⟩ rfl (Nat.le_of_ble_eq_true rfl) wp4 0 m0 rfl rfl ⟨(show ck + 2 + 0 ≤ 601024 by omega), (show sk + 12 + 0 ≤ 7293034 by omega)⟩ ?_
  rintro w M'' hz
  cases hz
  obtain ⟨-, ⟨ws2, m1⟩⟩ := hI2.x0
  refine BdL.seg hF ok_C_temperatureAfter 11 [] rfl ⟨Nat.le_of_ble_eq_true rfl, (show BdL X 1819 [some (.ref X.b), some (.ref hx), some (.ref hm), some (.ref ho), some (.int i), some (.int e), some (.int v), none, none] [.ref hm] (MM' ++ (oC X ho g' :: MX')) (ck + 2 + 0) (sk + 12 + 0) from ?_)⟩
  refine BdL.callV hF oX12_thrown vX12_thrown nX12_thrown k13_128 (xdecL ok_C_temperatureAfter 12 rfl) (As := []) (rest := []) (op_thrown hI2) neverM ⟨Nat.le_of_ble_eq_true rfl, Nat.le_of_ble_eq_true rfl⟩ rfl (Nat.le_of_ble_eq_true rfl) (List.Perm.refl _) 0 m1 rfl rfl ⟨(show ck + 2 + 0 + 0 ≤ 601024 by omega), (show sk + 12 + 0 + 0 ≤ 7293034 by omega)⟩ ?_
  rintro w M'' hz
  cases hz
  refine BdL.pm wp3 ?_
  refine BdL.seg hF ok_C_temperatureAfter 13 [] rfl ⟨fun _ => (show BdL X 1829 [some (.ref X.b), some (.ref hx), some (.ref hm), some (.ref ho), some (.int i), some (.int e), some (.int v), none, none] [] (oC X ho g' :: (MX' ++ MM')) (ck + 2 + 0 + 0) (sk + 12 + 0 + 0) from ?_), fun c => absurd rfl c⟩
  have hend : BdL X 1846 [some (.ref X.b), some (.ref hx), some (.ref hm), some (.ref ho), some (.int i), some (.int e), some (.int v), none, none] [] (oC X ho g' :: (MX' ++ MM')) (ck + 2 + 0 + 0) (sk + 12 + 0 + 0) := by
    refine BdL.seg hF ok_C_temperatureAfter 15 [] rfl (show BdL X 2666 [some (.ref X.b), some (.ref hx), some (.ref hm), some (.ref ho), some (.int i), some (.int e), some (.int v), none, none] [] (oC X ho g' :: (MX' ++ MM')) (ck + 2 + 0 + 0) (sk + 12 + 0 + 0) from ?_)
    exact BdL.weak (BdL.wide (by omega) (by omega) (hk _ _ _ g' hI2)) ⟨rfl, rfl, rfl, rfl, rfl, trivial⟩
  refine BdL.seg hF ok_C_temperatureAfter 14 [] rfl ⟨fun _ => hend, fun c0 => (show BdL X 1834 [some (.ref X.b), some (.ref hx), some (.ref hm), some (.ref ho), some (.int i), some (.int e), some (.int v), none, none] [] (oC X ho g' :: (MX' ++ MM')) (ck + 2 + 0 + 0) (sk + 12 + 0 + 0) from ?_)⟩
  have hg0 : g' (Int32.toNatClampNeg 0) = v.toInt64 := hg c0
  refine BdL.seg hF ok_C_temperatureAfter 16 [0] rfl ⟨⟨rfl, rfl⟩, xg (by decide), fun _ => hend, fun c1 => absurd ?_ c1⟩
  rw [hg0]
  exact cmp0 _
def tb_C_minutesUntilDry : List (Nat × List xI) := [(1849, [(.aload_n 1, [], 0), (.aload_n 0, [], 0), (.iload 4, [], 0), (.iconst 1, [], 1), (.iadd, [], 0)]), (1855, [(.iaload, [], 0)]), (1856, [(.aload_n 3, [], 0)]), (1857, [(.invokestatic 293, [], 0)]), (1860, [(.istore 5, [], 0), (.aload_n 2, [], 0), (.aload_n 0, [], 0), (.iload 4, [], 0), (.iconst 1, [], 1), (.iadd, [], 0)]), (1868, [(.iaload, [], 0)]), (1869, [(.invokevirtual 295, [], 0)]), (1872, [(.istore 6, [], 0), (.aload_n 2, [], 0)]), (1875, [(.invokevirtual 128, [], 0)]), (1878, [(.iload 5, [], 0), (.if_icmp .eq 5, [], 0)]), (1885, [(.iload 5, [], 0), (.ifCond .ne 15, [], 0)]), (1902, [(.goto 764, [], 0)]), (1890, [(.aload_n 3, [], 0), (.iconst 0, [], 0), (.laload, [], 0), (.iload 6, [], 0), (.i2l, [], 0), (.lcmp, [], 0), (.ifCond .eq 5, [], 0)])]
set_option maxRecDepth 100000 in
theorem ok_C_minutesUntilDry : ∀ q ∈ tb_C_minutesUntilDry, (xChks (yLw "law") q.1 q.2 && xNoPut q.2) = true := by decide +kernel
set_option maxRecDepth 100000 in
theorem case_minutesUntilDry {X : LX} {hx hm ho ck sk : Nat} {e0 i : Int32} {g : Nat → Int64} {MX MM : va_W} (hF : LF X) (hin : ∀ j : Int32, 0 ≤ j → j ≤ 5 → vp_in (i + j) X.n) (hI : INV X.E hx hm e0 MX MM) (hc : ck + 16 ≤ 601024) (hs : sk + 159 ≤ 7293034) (hk : KN X hx hm ho i ck sk) : BdL X 1849 (L0 X hx hm ho i) [] (WL X ho g MX MM) ck sk := by
  obtain ⟨MM', k, v, e, ha, h1, h2⟩ := op_minutesUntilDry (Nat.le_refl 400000) hI (X.xs (i + 1).toNatClampNeg)
  obtain ⟨-, ⟨ws, m0⟩⟩ := hI.x0
  refine BdL.seg hF ok_C_minutesUntilDry 0 [] rfl (show BdL X 1855 [some (.ref X.b), some (.ref hx), some (.ref hm), some (.ref ho), some (.int i), none, none, none, none] (.int (i + 1) :: .ref X.b :: [.ref hx]) (WL X ho g MX MM) ck sk from ?_)
  refine BdL.sld hF (xdecL ok_C_minutesUntilDry 1 rfl) (hin 1 (by decide) (by decide)) ?_
  refine BdL.seg hF ok_C_minutesUntilDry 2 [] rfl (show BdL X 1857 [some (.ref X.b), some (.ref hx), some (.ref hm), some (.ref ho), some (.int i), none, none, none, none] (.ref ho :: (.int (X.xs (i + 1).toNatClampNeg) :: [.ref hx])) (WL X ho g MX MM) ck sk from ?_)
  refine BdL.callH hF wL_minutesUntilDry vL_minutesUntilDry ini13 xpl13.2 nL_minutesUntilDry kL_minutesUntilDry (xdecL ok_C_minutesUntilDry 3 rfl) (As := [.ref hx, .int (X.xs (i + 1).toNatClampNeg), .ref ho]) (rest := []) (Mc := oC X ho g :: MX) (Rest := MM) (s_L_minutesUntilDry g h1 ha hI.x0.1) ⟨Nat.le_of_ble_eq_true rfl, Nat.le_of_ble_eq_true rfl⟩ rfl (Nat.le_of_ble_eq_true rfl) (List.Perm.refl _) ⟨(show ck + 2 ≤ 601024 by omega), (show sk + 12 ≤ 7293034 by omega)⟩ ?_
  rintro w M' ⟨MX', g', hI2, hg, hz⟩
  cases hz
  refine BdL.seg hF ok_C_minutesUntilDry 4 [] rfl ⟨Nat.le_of_ble_eq_true rfl, (show BdL X 1868 [some (.ref X.b), some (.ref hx), some (.ref hm), some (.ref ho), some (.int i), some (.int e), none, none, none] (.int (i + 1) :: .ref X.b :: [.ref hm]) (oC X ho g' :: MX' ++ MM) (ck + 2) (sk + 12) from ?_)⟩
  refine BdL.sld hF (xdecL ok_C_minutesUntilDry 5 rfl) (hin 1 (by decide) (by decide)) ?_
  refine BdL.callV hF oX12_minutesUntilDry vX12_minutesUntilDry nX12_minutesUntilDry k13_295 (xdecL ok_C_minutesUntilDry 6 rfl) (As := [.int (X.xs (i + 1).toNatClampNeg)]) (rest := []) h2 neverM ⟨Nat.le_of_ble_eq_true rfl, Nat.le_of_ble_eq_true rfl⟩ rfl (Nat.le_of_ble_eq_true rfl) wp4 0 m0 rfl rfl ⟨(show ck + 2 + 0 ≤ 601024 by omega), (show sk + 12 + 0 ≤ 7293034 by omega)⟩ ?_
  rintro w M'' hz
  cases hz
  obtain ⟨-, ⟨ws2, m1⟩⟩ := hI2.x0
  refine BdL.seg hF ok_C_minutesUntilDry 7 [] rfl ⟨Nat.le_of_ble_eq_true rfl, (show BdL X 1875 [some (.ref X.b), some (.ref hx), some (.ref hm), some (.ref ho), some (.int i), some (.int e), some (.int v), none, none] [.ref hm] (MM' ++ (oC X ho g' :: MX')) (ck + 2 + 0) (sk + 12 + 0) from ?_)⟩
  refine BdL.callV hF oX12_thrown vX12_thrown nX12_thrown k13_128 (xdecL ok_C_minutesUntilDry 8 rfl) (As := []) (rest := []) (op_thrown hI2) neverM ⟨Nat.le_of_ble_eq_true rfl, Nat.le_of_ble_eq_true rfl⟩ rfl (Nat.le_of_ble_eq_true rfl) (List.Perm.refl _) 0 m1 rfl rfl ⟨(show ck + 2 + 0 + 0 ≤ 601024 by omega), (show sk + 12 + 0 + 0 ≤ 7293034 by omega)⟩ ?_
  rintro w M'' hz
  cases hz
  refine BdL.pm wp3 ?_
  refine BdL.seg hF ok_C_minutesUntilDry 9 [] rfl ⟨fun _ => (show BdL X 1885 [some (.ref X.b), some (.ref hx), some (.ref hm), some (.ref ho), some (.int i), some (.int e), some (.int v), none, none] [] (oC X ho g' :: (MX' ++ MM')) (ck + 2 + 0 + 0) (sk + 12 + 0 + 0) from ?_), fun c => absurd rfl c⟩
  have hend : BdL X 1902 [some (.ref X.b), some (.ref hx), some (.ref hm), some (.ref ho), some (.int i), some (.int e), some (.int v), none, none] [] (oC X ho g' :: (MX' ++ MM')) (ck + 2 + 0 + 0) (sk + 12 + 0 + 0) := by
    refine BdL.seg hF ok_C_minutesUntilDry 11 [] rfl (show BdL X 2666 [some (.ref X.b), some (.ref hx), some (.ref hm), some (.ref ho), some (.int i), some (.int e), some (.int v), none, none] [] (oC X ho g' :: (MX' ++ MM')) (ck + 2 + 0 + 0) (sk + 12 + 0 + 0) from ?_)
    exact BdL.weak (BdL.wide (by omega) (by omega) (hk _ _ _ g' hI2)) ⟨rfl, rfl, rfl, rfl, rfl, trivial⟩
  refine BdL.seg hF ok_C_minutesUntilDry 10 [] rfl ⟨fun _ => hend, fun c0 => (show BdL X 1890 [some (.ref X.b), some (.ref hx), some (.ref hm), some (.ref ho), some (.int i), some (.int e), some (.int v), none, none] [] (oC X ho g' :: (MX' ++ MM')) (ck + 2 + 0 + 0) (sk + 12 + 0 + 0) from ?_)⟩
  have hg0 : g' (Int32.toNatClampNeg 0) = v.toInt64 := hg c0
  refine BdL.seg hF ok_C_minutesUntilDry 12 [0] rfl ⟨⟨rfl, rfl⟩, xg (by decide), fun _ => hend, fun c1 => absurd ?_ c1⟩
  rw [hg0]
  exact cmp0 _
def tb_C_minutesUntilBurnt : List (Nat × List xI) := [(1905, [(.aload_n 1, [], 0), (.aload_n 0, [], 0), (.iload 4, [], 0), (.iconst 1, [], 1), (.iadd, [], 0)]), (1911, [(.iaload, [], 0)]), (1912, [(.aload_n 3, [], 0)]), (1913, [(.invokestatic 296, [], 0)]), (1916, [(.istore 5, [], 0), (.aload_n 2, [], 0), (.aload_n 0, [], 0), (.iload 4, [], 0), (.iconst 1, [], 1), (.iadd, [], 0)]), (1924, [(.iaload, [], 0)]), (1925, [(.invokevirtual 298, [], 0)]), (1928, [(.istore 6, [], 0), (.aload_n 2, [], 0)]), (1931, [(.invokevirtual 128, [], 0)]), (1934, [(.iload 5, [], 0), (.if_icmp .eq 5, [], 0)]), (1941, [(.iload 5, [], 0), (.ifCond .ne 15, [], 0)]), (1958, [(.goto 708, [], 0)]), (1946, [(.aload_n 3, [], 0), (.iconst 0, [], 0), (.laload, [], 0), (.iload 6, [], 0), (.i2l, [], 0), (.lcmp, [], 0), (.ifCond .eq 5, [], 0)])]
set_option maxRecDepth 100000 in
theorem ok_C_minutesUntilBurnt : ∀ q ∈ tb_C_minutesUntilBurnt, (xChks (yLw "law") q.1 q.2 && xNoPut q.2) = true := by decide +kernel
set_option maxRecDepth 100000 in
theorem case_minutesUntilBurnt {X : LX} {hx hm ho ck sk : Nat} {e0 i : Int32} {g : Nat → Int64} {MX MM : va_W} (hF : LF X) (hin : ∀ j : Int32, 0 ≤ j → j ≤ 5 → vp_in (i + j) X.n) (hI : INV X.E hx hm e0 MX MM) (hc : ck + 16 ≤ 601024) (hs : sk + 159 ≤ 7293034) (hk : KN X hx hm ho i ck sk) : BdL X 1905 (L0 X hx hm ho i) [] (WL X ho g MX MM) ck sk := by
  obtain ⟨MM', k, v, e, ha, h1, h2⟩ := op_minutesUntilBurnt (Nat.le_refl 400000) hI (X.xs (i + 1).toNatClampNeg)
  obtain ⟨-, ⟨ws, m0⟩⟩ := hI.x0
  refine BdL.seg hF ok_C_minutesUntilBurnt 0 [] rfl (show BdL X 1911 [some (.ref X.b), some (.ref hx), some (.ref hm), some (.ref ho), some (.int i), none, none, none, none] (.int (i + 1) :: .ref X.b :: [.ref hx]) (WL X ho g MX MM) ck sk from ?_)
  refine BdL.sld hF (xdecL ok_C_minutesUntilBurnt 1 rfl) (hin 1 (by decide) (by decide)) ?_
  refine BdL.seg hF ok_C_minutesUntilBurnt 2 [] rfl (show BdL X 1913 [some (.ref X.b), some (.ref hx), some (.ref hm), some (.ref ho), some (.int i), none, none, none, none] (.ref ho :: (.int (X.xs (i + 1).toNatClampNeg) :: [.ref hx])) (WL X ho g MX MM) ck sk from ?_)
  refine BdL.callH hF wL_minutesUntilBurnt vL_minutesUntilBurnt ini13 xpl13.2 nL_minutesUntilBurnt kL_minutesUntilBurnt (xdecL ok_C_minutesUntilBurnt 3 rfl) (As := [.ref hx, .int (X.xs (i + 1).toNatClampNeg), .ref ho]) (rest := []) (Mc := oC X ho g :: MX) (Rest := MM) (s_L_minutesUntilBurnt g h1 ha hI.x0.1) ⟨Nat.le_of_ble_eq_true rfl, Nat.le_of_ble_eq_true rfl⟩ rfl (Nat.le_of_ble_eq_true rfl) (List.Perm.refl _) ⟨(show ck + 1 ≤ 601024 by omega), (show sk + 6 ≤ 7293034 by omega)⟩ ?_
  rintro w M' ⟨MX', g', hI2, hg, hz⟩
  cases hz
  refine BdL.seg hF ok_C_minutesUntilBurnt 4 [] rfl ⟨Nat.le_of_ble_eq_true rfl, (show BdL X 1924 [some (.ref X.b), some (.ref hx), some (.ref hm), some (.ref ho), some (.int i), some (.int e), none, none, none] (.int (i + 1) :: .ref X.b :: [.ref hm]) (oC X ho g' :: MX' ++ MM) (ck + 1) (sk + 6) from ?_)⟩
  refine BdL.sld hF (xdecL ok_C_minutesUntilBurnt 5 rfl) (hin 1 (by decide) (by decide)) ?_
  refine BdL.callV hF oX12_minutesUntilBurnt vX12_minutesUntilBurnt nX12_minutesUntilBurnt k13_298 (xdecL ok_C_minutesUntilBurnt 6 rfl) (As := [.int (X.xs (i + 1).toNatClampNeg)]) (rest := []) h2 neverM ⟨Nat.le_of_ble_eq_true rfl, Nat.le_of_ble_eq_true rfl⟩ rfl (Nat.le_of_ble_eq_true rfl) wp4 0 m0 rfl rfl ⟨(show ck + 1 + 0 ≤ 601024 by omega), (show sk + 6 + 0 ≤ 7293034 by omega)⟩ ?_
  rintro w M'' hz
  cases hz
  obtain ⟨-, ⟨ws2, m1⟩⟩ := hI2.x0
  refine BdL.seg hF ok_C_minutesUntilBurnt 7 [] rfl ⟨Nat.le_of_ble_eq_true rfl, (show BdL X 1931 [some (.ref X.b), some (.ref hx), some (.ref hm), some (.ref ho), some (.int i), some (.int e), some (.int v), none, none] [.ref hm] (MM' ++ (oC X ho g' :: MX')) (ck + 1 + 0) (sk + 6 + 0) from ?_)⟩
  refine BdL.callV hF oX12_thrown vX12_thrown nX12_thrown k13_128 (xdecL ok_C_minutesUntilBurnt 8 rfl) (As := []) (rest := []) (op_thrown hI2) neverM ⟨Nat.le_of_ble_eq_true rfl, Nat.le_of_ble_eq_true rfl⟩ rfl (Nat.le_of_ble_eq_true rfl) (List.Perm.refl _) 0 m1 rfl rfl ⟨(show ck + 1 + 0 + 0 ≤ 601024 by omega), (show sk + 6 + 0 + 0 ≤ 7293034 by omega)⟩ ?_
  rintro w M'' hz
  cases hz
  refine BdL.pm wp3 ?_
  refine BdL.seg hF ok_C_minutesUntilBurnt 9 [] rfl ⟨fun _ => (show BdL X 1941 [some (.ref X.b), some (.ref hx), some (.ref hm), some (.ref ho), some (.int i), some (.int e), some (.int v), none, none] [] (oC X ho g' :: (MX' ++ MM')) (ck + 1 + 0 + 0) (sk + 6 + 0 + 0) from ?_), fun c => absurd rfl c⟩
  have hend : BdL X 1958 [some (.ref X.b), some (.ref hx), some (.ref hm), some (.ref ho), some (.int i), some (.int e), some (.int v), none, none] [] (oC X ho g' :: (MX' ++ MM')) (ck + 1 + 0 + 0) (sk + 6 + 0 + 0) := by
    refine BdL.seg hF ok_C_minutesUntilBurnt 11 [] rfl (show BdL X 2666 [some (.ref X.b), some (.ref hx), some (.ref hm), some (.ref ho), some (.int i), some (.int e), some (.int v), none, none] [] (oC X ho g' :: (MX' ++ MM')) (ck + 1 + 0 + 0) (sk + 6 + 0 + 0) from ?_)
    exact BdL.weak (BdL.wide (by omega) (by omega) (hk _ _ _ g' hI2)) ⟨rfl, rfl, rfl, rfl, rfl, trivial⟩
  refine BdL.seg hF ok_C_minutesUntilBurnt 10 [] rfl ⟨fun _ => hend, fun c0 => (show BdL X 1946 [some (.ref X.b), some (.ref hx), some (.ref hm), some (.ref ho), some (.int i), some (.int e), some (.int v), none, none] [] (oC X ho g' :: (MX' ++ MM')) (ck + 1 + 0 + 0) (sk + 6 + 0 + 0) from ?_)⟩
  have hg0 : g' (Int32.toNatClampNeg 0) = v.toInt64 := hg c0
  refine BdL.seg hF ok_C_minutesUntilBurnt 12 [0] rfl ⟨⟨rfl, rfl⟩, xg (by decide), fun _ => hend, fun c1 => absurd ?_ c1⟩
  rw [hg0]
  exact cmp0 _
def tb_C_putLoad : List (Nat × List xI) := [(1961, [(.aload_n 1, [], 0), (.aload_n 0, [], 0), (.iload 4, [], 0), (.iconst 1, [], 1), (.iadd, [], 0)]), (1967, [(.iaload, [], 0)]), (1968, [(.aload_n 0, [], 0), (.iload 4, [], 0), (.iconst 2, [], 2), (.iadd, [], 0)]), (1973, [(.iaload, [], 0)]), (1974, [(.aload_n 3, [], 0)]), (1975, [(.invokestatic 299, [], 0)]), (1978, [(.istore 5, [], 0), (.aload_n 2, [], 0), (.aload_n 0, [], 0), (.iload 4, [], 0), (.iconst 1, [], 1), (.iadd, [], 0)]), (1986, [(.iaload, [], 0)]), (1987, [(.aload_n 0, [], 0), (.iload 4, [], 0), (.iconst 2, [], 2), (.iadd, [], 0)]), (1992, [(.iaload, [], 0)]), (1993, [(.invokevirtual 301, [], 0)]), (1996, [(.istore 6, [], 0), (.aload_n 2, [], 0)]), (1999, [(.invokevirtual 128, [], 0)]), (2002, [(.iload 5, [], 0), (.if_icmp .eq 5, [], 0)]), (2009, [(.iload 5, [], 0), (.ifCond .ne 15, [], 0)]), (2026, [(.goto 640, [], 0)]), (2014, [(.aload_n 3, [], 0), (.iconst 0, [], 0), (.laload, [], 0), (.iload 6, [], 0), (.i2l, [], 0), (.lcmp, [], 0), (.ifCond .eq 5, [], 0)])]
set_option maxRecDepth 100000 in
theorem ok_C_putLoad : ∀ q ∈ tb_C_putLoad, (xChks (yLw "law") q.1 q.2 && xNoPut q.2) = true := by decide +kernel
set_option maxRecDepth 100000 in
theorem case_putLoad {X : LX} {hx hm ho ck sk : Nat} {e0 i : Int32} {g : Nat → Int64} {MX MM : va_W} (hF : LF X) (hin : ∀ j : Int32, 0 ≤ j → j ≤ 5 → vp_in (i + j) X.n) (hI : INV X.E hx hm e0 MX MM) (hc : ck + 16 ≤ 601024) (hs : sk + 159 ≤ 7293034) (hk : KN X hx hm ho i ck sk) : BdL X 1961 (L0 X hx hm ho i) [] (WL X ho g MX MM) ck sk := by
  obtain ⟨MM', k, v, e, ha, h1, h2⟩ := op_putLoad (Nat.le_refl 400000) hI (X.xs (i + 1).toNatClampNeg) (X.xs (i + 2).toNatClampNeg)
  obtain ⟨-, ⟨ws, m0⟩⟩ := hI.x0
  refine BdL.seg hF ok_C_putLoad 0 [] rfl (show BdL X 1967 [some (.ref X.b), some (.ref hx), some (.ref hm), some (.ref ho), some (.int i), none, none, none, none] (.int (i + 1) :: .ref X.b :: [.ref hx]) (WL X ho g MX MM) ck sk from ?_)
  refine BdL.sld hF (xdecL ok_C_putLoad 1 rfl) (hin 1 (by decide) (by decide)) ?_
  refine BdL.seg hF ok_C_putLoad 2 [] rfl (show BdL X 1973 [some (.ref X.b), some (.ref hx), some (.ref hm), some (.ref ho), some (.int i), none, none, none, none] (.int (i + 2) :: .ref X.b :: (.int (X.xs (i + 1).toNatClampNeg) :: [.ref hx])) (WL X ho g MX MM) ck sk from ?_)
  refine BdL.sld hF (xdecL ok_C_putLoad 3 rfl) (hin 2 (by decide) (by decide)) ?_
  refine BdL.seg hF ok_C_putLoad 4 [] rfl (show BdL X 1975 [some (.ref X.b), some (.ref hx), some (.ref hm), some (.ref ho), some (.int i), none, none, none, none] (.ref ho :: (.int (X.xs (i + 2).toNatClampNeg) :: (.int (X.xs (i + 1).toNatClampNeg) :: [.ref hx]))) (WL X ho g MX MM) ck sk from ?_)
  refine BdL.callH hF wL_putLoad vL_putLoad ini13 xpl13.2 nL_putLoad kL_putLoad (xdecL ok_C_putLoad 5 rfl) (As := [.ref hx, .int (X.xs (i + 1).toNatClampNeg), .int (X.xs (i + 2).toNatClampNeg), .ref ho]) (rest := []) (Mc := oC X ho g :: MX) (Rest := MM) (s_L_putLoad g h1 ha hI.x0.1) ⟨Nat.le_of_ble_eq_true rfl, Nat.le_of_ble_eq_true rfl⟩ rfl (Nat.le_of_ble_eq_true rfl) (List.Perm.refl _) ⟨(show ck + 16 ≤ 601024 by omega), (show sk + 159 ≤ 7293034 by omega)⟩ ?_
  rintro w M' ⟨MX', g', hI2, hg, hz⟩
  cases hz
  refine BdL.seg hF ok_C_putLoad 6 [] rfl ⟨Nat.le_of_ble_eq_true rfl, (show BdL X 1986 [some (.ref X.b), some (.ref hx), some (.ref hm), some (.ref ho), some (.int i), some (.int e), none, none, none] (.int (i + 1) :: .ref X.b :: [.ref hm]) (oC X ho g' :: MX' ++ MM) (ck + 16) (sk + 159) from ?_)⟩
  refine BdL.sld hF (xdecL ok_C_putLoad 7 rfl) (hin 1 (by decide) (by decide)) ?_
  refine BdL.seg hF ok_C_putLoad 8 [] rfl (show BdL X 1992 [some (.ref X.b), some (.ref hx), some (.ref hm), some (.ref ho), some (.int i), some (.int e), none, none, none] (.int (i + 2) :: .ref X.b :: (.int (X.xs (i + 1).toNatClampNeg) :: [.ref hm])) (oC X ho g' :: MX' ++ MM) (ck + 16) (sk + 159) from ?_)
  refine BdL.sld hF (xdecL ok_C_putLoad 9 rfl) (hin 2 (by decide) (by decide)) ?_
  refine BdL.callV hF oX12_putLoad vX12_putLoad nX12_putLoad k13_301 (xdecL ok_C_putLoad 10 rfl) (As := [.int (X.xs (i + 1).toNatClampNeg), .int (X.xs (i + 2).toNatClampNeg)]) (rest := []) h2 neverM ⟨Nat.le_of_ble_eq_true rfl, Nat.le_of_ble_eq_true rfl⟩ rfl (Nat.le_of_ble_eq_true rfl) wp4 0 m0 rfl rfl ⟨(show ck + 16 + 0 ≤ 601024 by omega), (show sk + 159 + 0 ≤ 7293034 by omega)⟩ ?_
  rintro w M'' hz
  cases hz
  obtain ⟨-, ⟨ws2, m1⟩⟩ := hI2.x0
  refine BdL.seg hF ok_C_putLoad 11 [] rfl ⟨Nat.le_of_ble_eq_true rfl, (show BdL X 1999 [some (.ref X.b), some (.ref hx), some (.ref hm), some (.ref ho), some (.int i), some (.int e), some (.int v), none, none] [.ref hm] (MM' ++ (oC X ho g' :: MX')) (ck + 16 + 0) (sk + 159 + 0) from ?_)⟩
  refine BdL.callV hF oX12_thrown vX12_thrown nX12_thrown k13_128 (xdecL ok_C_putLoad 12 rfl) (As := []) (rest := []) (op_thrown hI2) neverM ⟨Nat.le_of_ble_eq_true rfl, Nat.le_of_ble_eq_true rfl⟩ rfl (Nat.le_of_ble_eq_true rfl) (List.Perm.refl _) 0 m1 rfl rfl ⟨(show ck + 16 + 0 + 0 ≤ 601024 by omega), (show sk + 159 + 0 + 0 ≤ 7293034 by omega)⟩ ?_
  rintro w M'' hz
  cases hz
  refine BdL.pm wp3 ?_
  refine BdL.seg hF ok_C_putLoad 13 [] rfl ⟨fun _ => (show BdL X 2009 [some (.ref X.b), some (.ref hx), some (.ref hm), some (.ref ho), some (.int i), some (.int e), some (.int v), none, none] [] (oC X ho g' :: (MX' ++ MM')) (ck + 16 + 0 + 0) (sk + 159 + 0 + 0) from ?_), fun c => absurd rfl c⟩
  have hend : BdL X 2026 [some (.ref X.b), some (.ref hx), some (.ref hm), some (.ref ho), some (.int i), some (.int e), some (.int v), none, none] [] (oC X ho g' :: (MX' ++ MM')) (ck + 16 + 0 + 0) (sk + 159 + 0 + 0) := by
    refine BdL.seg hF ok_C_putLoad 15 [] rfl (show BdL X 2666 [some (.ref X.b), some (.ref hx), some (.ref hm), some (.ref ho), some (.int i), some (.int e), some (.int v), none, none] [] (oC X ho g' :: (MX' ++ MM')) (ck + 16 + 0 + 0) (sk + 159 + 0 + 0) from ?_)
    exact BdL.weak (BdL.wide (by omega) (by omega) (hk _ _ _ g' hI2)) ⟨rfl, rfl, rfl, rfl, rfl, trivial⟩
  refine BdL.seg hF ok_C_putLoad 14 [] rfl ⟨fun _ => hend, fun c0 => (show BdL X 2014 [some (.ref X.b), some (.ref hx), some (.ref hm), some (.ref ho), some (.int i), some (.int e), some (.int v), none, none] [] (oC X ho g' :: (MX' ++ MM')) (ck + 16 + 0 + 0) (sk + 159 + 0 + 0) from ?_)⟩
  have hg0 : g' (Int32.toNatClampNeg 0) = v.toInt64 := hg c0
  refine BdL.seg hF ok_C_putLoad 16 [0] rfl ⟨⟨rfl, rfl⟩, xg (by decide), fun _ => hend, fun c1 => absurd ?_ c1⟩
  rw [hg0]
  exact cmp0 _
def tb_C_lower : List (Nat × List xI) := [(2029, [(.aload_n 1, [], 0), (.aload_n 0, [], 0), (.iload 4, [], 0), (.iconst 1, [], 1), (.iadd, [], 0)]), (2035, [(.iaload, [], 0)]), (2036, [(.aload_n 3, [], 0)]), (2037, [(.invokestatic 302, [], 0)]), (2040, [(.istore 5, [], 0), (.aload_n 2, [], 0), (.aload_n 0, [], 0), (.iload 4, [], 0), (.iconst 1, [], 1), (.iadd, [], 0)]), (2048, [(.iaload, [], 0)]), (2049, [(.invokevirtual 304, [], 0)]), (2052, [(.istore 6, [], 0), (.aload_n 2, [], 0)]), (2055, [(.invokevirtual 128, [], 0)]), (2058, [(.iload 5, [], 0), (.if_icmp .eq 5, [], 0)]), (2065, [(.iload 5, [], 0), (.ifCond .ne 15, [], 0)]), (2082, [(.goto 584, [], 0)]), (2070, [(.aload_n 3, [], 0), (.iconst 0, [], 0), (.laload, [], 0), (.iload 6, [], 0), (.i2l, [], 0), (.lcmp, [], 0), (.ifCond .eq 5, [], 0)])]
set_option maxRecDepth 100000 in
theorem ok_C_lower : ∀ q ∈ tb_C_lower, (xChks (yLw "law") q.1 q.2 && xNoPut q.2) = true := by decide +kernel
set_option maxRecDepth 100000 in
theorem case_lower {X : LX} {hx hm ho ck sk : Nat} {e0 i : Int32} {g : Nat → Int64} {MX MM : va_W} (hF : LF X) (hin : ∀ j : Int32, 0 ≤ j → j ≤ 5 → vp_in (i + j) X.n) (hI : INV X.E hx hm e0 MX MM) (hc : ck + 16 ≤ 601024) (hs : sk + 159 ≤ 7293034) (hk : KN X hx hm ho i ck sk) : BdL X 2029 (L0 X hx hm ho i) [] (WL X ho g MX MM) ck sk := by
  obtain ⟨MM', k, v, e, ha, h1, h2⟩ := op_lower (Nat.le_refl 400000) hI (X.xs (i + 1).toNatClampNeg)
  obtain ⟨-, ⟨ws, m0⟩⟩ := hI.x0
  refine BdL.seg hF ok_C_lower 0 [] rfl (show BdL X 2035 [some (.ref X.b), some (.ref hx), some (.ref hm), some (.ref ho), some (.int i), none, none, none, none] (.int (i + 1) :: .ref X.b :: [.ref hx]) (WL X ho g MX MM) ck sk from ?_)
  refine BdL.sld hF (xdecL ok_C_lower 1 rfl) (hin 1 (by decide) (by decide)) ?_
  refine BdL.seg hF ok_C_lower 2 [] rfl (show BdL X 2037 [some (.ref X.b), some (.ref hx), some (.ref hm), some (.ref ho), some (.int i), none, none, none, none] (.ref ho :: (.int (X.xs (i + 1).toNatClampNeg) :: [.ref hx])) (WL X ho g MX MM) ck sk from ?_)
  refine BdL.callH hF wL_lower vL_lower ini13 xpl13.2 nL_lower kL_lower (xdecL ok_C_lower 3 rfl) (As := [.ref hx, .int (X.xs (i + 1).toNatClampNeg), .ref ho]) (rest := []) (Mc := oC X ho g :: MX) (Rest := MM) (s_L_lower g h1 ha hI.x0.1) ⟨Nat.le_of_ble_eq_true rfl, Nat.le_of_ble_eq_true rfl⟩ rfl (Nat.le_of_ble_eq_true rfl) (List.Perm.refl _) ⟨(show ck + 16 ≤ 601024 by omega), (show sk + 159 ≤ 7293034 by omega)⟩ ?_
  rintro w M' ⟨MX', g', hI2, hg, hz⟩
  cases hz
  refine BdL.seg hF ok_C_lower 4 [] rfl ⟨Nat.le_of_ble_eq_true rfl, (show BdL X 2048 [some (.ref X.b), some (.ref hx), some (.ref hm), some (.ref ho), some (.int i), some (.int e), none, none, none] (.int (i + 1) :: .ref X.b :: [.ref hm]) (oC X ho g' :: MX' ++ MM) (ck + 16) (sk + 159) from ?_)⟩
  refine BdL.sld hF (xdecL ok_C_lower 5 rfl) (hin 1 (by decide) (by decide)) ?_
  refine BdL.callV hF oX12_lower vX12_lower nX12_lower k13_304 (xdecL ok_C_lower 6 rfl) (As := [.int (X.xs (i + 1).toNatClampNeg)]) (rest := []) h2 neverM ⟨Nat.le_of_ble_eq_true rfl, Nat.le_of_ble_eq_true rfl⟩ rfl (Nat.le_of_ble_eq_true rfl) wp4 0 m0 rfl rfl ⟨(show ck + 16 + 0 ≤ 601024 by omega), (show sk + 159 + 0 ≤ 7293034 by omega)⟩ ?_
  rintro w M'' hz
  cases hz
  obtain ⟨-, ⟨ws2, m1⟩⟩ := hI2.x0
  refine BdL.seg hF ok_C_lower 7 [] rfl ⟨Nat.le_of_ble_eq_true rfl, (show BdL X 2055 [some (.ref X.b), some (.ref hx), some (.ref hm), some (.ref ho), some (.int i), some (.int e), some (.int v), none, none] [.ref hm] (MM' ++ (oC X ho g' :: MX')) (ck + 16 + 0) (sk + 159 + 0) from ?_)⟩
  refine BdL.callV hF oX12_thrown vX12_thrown nX12_thrown k13_128 (xdecL ok_C_lower 8 rfl) (As := []) (rest := []) (op_thrown hI2) neverM ⟨Nat.le_of_ble_eq_true rfl, Nat.le_of_ble_eq_true rfl⟩ rfl (Nat.le_of_ble_eq_true rfl) (List.Perm.refl _) 0 m1 rfl rfl ⟨(show ck + 16 + 0 + 0 ≤ 601024 by omega), (show sk + 159 + 0 + 0 ≤ 7293034 by omega)⟩ ?_
  rintro w M'' hz
  cases hz
  refine BdL.pm wp3 ?_
  refine BdL.seg hF ok_C_lower 9 [] rfl ⟨fun _ => (show BdL X 2065 [some (.ref X.b), some (.ref hx), some (.ref hm), some (.ref ho), some (.int i), some (.int e), some (.int v), none, none] [] (oC X ho g' :: (MX' ++ MM')) (ck + 16 + 0 + 0) (sk + 159 + 0 + 0) from ?_), fun c => absurd rfl c⟩
  have hend : BdL X 2082 [some (.ref X.b), some (.ref hx), some (.ref hm), some (.ref ho), some (.int i), some (.int e), some (.int v), none, none] [] (oC X ho g' :: (MX' ++ MM')) (ck + 16 + 0 + 0) (sk + 159 + 0 + 0) := by
    refine BdL.seg hF ok_C_lower 11 [] rfl (show BdL X 2666 [some (.ref X.b), some (.ref hx), some (.ref hm), some (.ref ho), some (.int i), some (.int e), some (.int v), none, none] [] (oC X ho g' :: (MX' ++ MM')) (ck + 16 + 0 + 0) (sk + 159 + 0 + 0) from ?_)
    exact BdL.weak (BdL.wide (by omega) (by omega) (hk _ _ _ g' hI2)) ⟨rfl, rfl, rfl, rfl, rfl, trivial⟩
  refine BdL.seg hF ok_C_lower 10 [] rfl ⟨fun _ => hend, fun c0 => (show BdL X 2070 [some (.ref X.b), some (.ref hx), some (.ref hm), some (.ref ho), some (.int i), some (.int e), some (.int v), none, none] [] (oC X ho g' :: (MX' ++ MM')) (ck + 16 + 0 + 0) (sk + 159 + 0 + 0) from ?_)⟩
  have hg0 : g' (Int32.toNatClampNeg 0) = v.toInt64 := hg c0
  refine BdL.seg hF ok_C_lower 12 [0] rfl ⟨⟨rfl, rfl⟩, xg (by decide), fun _ => hend, fun c1 => absurd ?_ c1⟩
  rw [hg0]
  exact cmp0 _
def tb_C_rotate : List (Nat × List xI) := [(2085, [(.aload_n 1, [], 0)]), (2086, [(.invokevirtual 305, [], 0)]), (2089, [(.aload_n 2, [], 0)]), (2090, [(.invokevirtual 308, [], 0)]), (2093, [(.if_icmp .eq 573, [], 0)])]
set_option maxRecDepth 100000 in
theorem ok_C_rotate : ∀ q ∈ tb_C_rotate, (xChks (yLw "law") q.1 q.2 && xNoPut q.2) = true := by decide +kernel
set_option maxRecDepth 100000 in
theorem case_rotate {X : LX} {hx hm ho ck sk : Nat} {e0 i : Int32} {g : Nat → Int64} {MX MM : va_W} (hF : LF X) (hin : ∀ j : Int32, 0 ≤ j → j ≤ 5 → vp_in (i + j) X.n) (hI : INV X.E hx hm e0 MX MM) (hc : ck + 16 ≤ 601024) (hs : sk + 159 ≤ 7293034) (hk : KN X hx hm ho i ck sk) : BdL X 2085 (L0 X hx hm ho i) [] (WL X ho g MX MM) ck sk := by
  obtain ⟨MM', v, -, h1, h2⟩ := op_rotate (Nat.le_refl 400000) hI
  obtain ⟨⟨vs, x0⟩, ⟨ws, m0⟩⟩ := hI.x0
  refine BdL.seg hF ok_C_rotate 0 [] rfl (show BdL X 2086 (L0 X hx hm ho i) [.ref hx] (WL X ho g MX MM) ck sk from ?_)
  refine BdL.callV hF oX11_rotate vX11_rotate nX11_rotate k13_305 (xdecL ok_C_rotate 1 rfl) (As := []) (rest := []) h1 never ⟨Nat.le_of_ble_eq_true rfl, Nat.le_of_ble_eq_true rfl⟩ rfl (Nat.le_of_ble_eq_true rfl) wp1 0 x0 rfl rfl ⟨(show ck + 14 ≤ 601024 by omega), (show sk + 147 ≤ 7293034 by omega)⟩ ?_
  rintro w M' ⟨MX', hI2, hz⟩
  cases hz
  refine BdL.seg hF ok_C_rotate 2 [] rfl (show BdL X 2090 (L0 X hx hm ho i) [.ref hm, .int v] (M' ++ (oC X ho g :: MM)) (ck + 14) (sk + 147) from ?_)
  refine BdL.callV hF oX12_rotate vX12_rotate nX12_rotate k13_308 (xdecL ok_C_rotate 3 rfl) (As := []) (rest := [.int v]) h2 neverM ⟨Nat.le_of_ble_eq_true rfl, Nat.le_of_ble_eq_true rfl⟩ rfl (Nat.le_of_ble_eq_true rfl) wp2 0 m0 rfl rfl ⟨(show ck + 14 + 0 ≤ 601024 by omega), (show sk + 147 + 0 ≤ 7293034 by omega)⟩ ?_
  rintro w M'' hz
  cases hz
  refine BdL.seg hF ok_C_rotate 4 [] rfl ⟨fun _ => (show BdL X 2666 (L0 X hx hm ho i) [] (MM' ++ (oC X ho g :: M')) (ck + 14 + 0) (sk + 147 + 0) from ?_), fun c => absurd rfl c⟩
  exact BdL.pm wp3 (BdL.wide (by omega) (by omega) (hk _ _ _ g hI2))
def tb_C_setHeat : List (Nat × List xI) := [(2098, [(.aload_n 1, [], 0), (.aload_n 0, [], 0), (.iload 4, [], 0), (.iconst 1, [], 1), (.iadd, [], 0)]), (2104, [(.iaload, [], 0)]), (2105, [(.aload_n 3, [], 0)]), (2106, [(.invokestatic 309, [], 0)]), (2109, [(.istore 5, [], 0), (.aload_n 2, [], 0), (.aload_n 0, [], 0), (.iload 4, [], 0), (.iconst 1, [], 1), (.iadd, [], 0)]), (2117, [(.iaload, [], 0)]), (2118, [(.invokevirtual 311, [], 0)]), (2121, [(.istore 6, [], 0), (.aload_n 2, [], 0)]), (2124, [(.invokevirtual 128, [], 0)]), (2127, [(.iload 5, [], 0), (.if_icmp .eq 5, [], 0)]), (2134, [(.iload 5, [], 0), (.ifCond .ne 15, [], 0)]), (2151, [(.goto 515, [], 0)]), (2139, [(.aload_n 3, [], 0), (.iconst 0, [], 0), (.laload, [], 0), (.iload 6, [], 0), (.i2l, [], 0), (.lcmp, [], 0), (.ifCond .eq 5, [], 0)])]
set_option maxRecDepth 100000 in
theorem ok_C_setHeat : ∀ q ∈ tb_C_setHeat, (xChks (yLw "law") q.1 q.2 && xNoPut q.2) = true := by decide +kernel
set_option maxRecDepth 100000 in
theorem case_setHeat {X : LX} {hx hm ho ck sk : Nat} {e0 i : Int32} {g : Nat → Int64} {MX MM : va_W} (hF : LF X) (hin : ∀ j : Int32, 0 ≤ j → j ≤ 5 → vp_in (i + j) X.n) (hI : INV X.E hx hm e0 MX MM) (hc : ck + 16 ≤ 601024) (hs : sk + 159 ≤ 7293034) (hk : KN X hx hm ho i ck sk) : BdL X 2098 (L0 X hx hm ho i) [] (WL X ho g MX MM) ck sk := by
  obtain ⟨MM', k, v, e, ha, h1, h2⟩ := op_setHeat (Nat.le_refl 400000) hI (X.xs (i + 1).toNatClampNeg)
  obtain ⟨-, ⟨ws, m0⟩⟩ := hI.x0
  refine BdL.seg hF ok_C_setHeat 0 [] rfl (show BdL X 2104 [some (.ref X.b), some (.ref hx), some (.ref hm), some (.ref ho), some (.int i), none, none, none, none] (.int (i + 1) :: .ref X.b :: [.ref hx]) (WL X ho g MX MM) ck sk from ?_)
  refine BdL.sld hF (xdecL ok_C_setHeat 1 rfl) (hin 1 (by decide) (by decide)) ?_
  refine BdL.seg hF ok_C_setHeat 2 [] rfl (show BdL X 2106 [some (.ref X.b), some (.ref hx), some (.ref hm), some (.ref ho), some (.int i), none, none, none, none] (.ref ho :: (.int (X.xs (i + 1).toNatClampNeg) :: [.ref hx])) (WL X ho g MX MM) ck sk from ?_)
  refine BdL.callH hF wL_setHeat vL_setHeat ini13 xpl13.2 nL_setHeat kL_setHeat (xdecL ok_C_setHeat 3 rfl) (As := [.ref hx, .int (X.xs (i + 1).toNatClampNeg), .ref ho]) (rest := []) (Mc := oC X ho g :: MX) (Rest := MM) (s_L_setHeat g h1 ha hI.x0.1) ⟨Nat.le_of_ble_eq_true rfl, Nat.le_of_ble_eq_true rfl⟩ rfl (Nat.le_of_ble_eq_true rfl) (List.Perm.refl _) ⟨(show ck + 15 ≤ 601024 by omega), (show sk + 153 ≤ 7293034 by omega)⟩ ?_
  rintro w M' ⟨MX', g', hI2, hg, hz⟩
  cases hz
  refine BdL.seg hF ok_C_setHeat 4 [] rfl ⟨Nat.le_of_ble_eq_true rfl, (show BdL X 2117 [some (.ref X.b), some (.ref hx), some (.ref hm), some (.ref ho), some (.int i), some (.int e), none, none, none] (.int (i + 1) :: .ref X.b :: [.ref hm]) (oC X ho g' :: MX' ++ MM) (ck + 15) (sk + 153) from ?_)⟩
  refine BdL.sld hF (xdecL ok_C_setHeat 5 rfl) (hin 1 (by decide) (by decide)) ?_
  refine BdL.callV hF oX12_setHeat vX12_setHeat nX12_setHeat k13_311 (xdecL ok_C_setHeat 6 rfl) (As := [.int (X.xs (i + 1).toNatClampNeg)]) (rest := []) h2 neverM ⟨Nat.le_of_ble_eq_true rfl, Nat.le_of_ble_eq_true rfl⟩ rfl (Nat.le_of_ble_eq_true rfl) wp4 0 m0 rfl rfl ⟨(show ck + 15 + 0 ≤ 601024 by omega), (show sk + 153 + 0 ≤ 7293034 by omega)⟩ ?_
  rintro w M'' hz
  cases hz
  obtain ⟨-, ⟨ws2, m1⟩⟩ := hI2.x0
  refine BdL.seg hF ok_C_setHeat 7 [] rfl ⟨Nat.le_of_ble_eq_true rfl, (show BdL X 2124 [some (.ref X.b), some (.ref hx), some (.ref hm), some (.ref ho), some (.int i), some (.int e), some (.int v), none, none] [.ref hm] (MM' ++ (oC X ho g' :: MX')) (ck + 15 + 0) (sk + 153 + 0) from ?_)⟩
  refine BdL.callV hF oX12_thrown vX12_thrown nX12_thrown k13_128 (xdecL ok_C_setHeat 8 rfl) (As := []) (rest := []) (op_thrown hI2) neverM ⟨Nat.le_of_ble_eq_true rfl, Nat.le_of_ble_eq_true rfl⟩ rfl (Nat.le_of_ble_eq_true rfl) (List.Perm.refl _) 0 m1 rfl rfl ⟨(show ck + 15 + 0 + 0 ≤ 601024 by omega), (show sk + 153 + 0 + 0 ≤ 7293034 by omega)⟩ ?_
  rintro w M'' hz
  cases hz
  refine BdL.pm wp3 ?_
  refine BdL.seg hF ok_C_setHeat 9 [] rfl ⟨fun _ => (show BdL X 2134 [some (.ref X.b), some (.ref hx), some (.ref hm), some (.ref ho), some (.int i), some (.int e), some (.int v), none, none] [] (oC X ho g' :: (MX' ++ MM')) (ck + 15 + 0 + 0) (sk + 153 + 0 + 0) from ?_), fun c => absurd rfl c⟩
  have hend : BdL X 2151 [some (.ref X.b), some (.ref hx), some (.ref hm), some (.ref ho), some (.int i), some (.int e), some (.int v), none, none] [] (oC X ho g' :: (MX' ++ MM')) (ck + 15 + 0 + 0) (sk + 153 + 0 + 0) := by
    refine BdL.seg hF ok_C_setHeat 11 [] rfl (show BdL X 2666 [some (.ref X.b), some (.ref hx), some (.ref hm), some (.ref ho), some (.int i), some (.int e), some (.int v), none, none] [] (oC X ho g' :: (MX' ++ MM')) (ck + 15 + 0 + 0) (sk + 153 + 0 + 0) from ?_)
    exact BdL.weak (BdL.wide (by omega) (by omega) (hk _ _ _ g' hI2)) ⟨rfl, rfl, rfl, rfl, rfl, trivial⟩
  refine BdL.seg hF ok_C_setHeat 10 [] rfl ⟨fun _ => hend, fun c0 => (show BdL X 2139 [some (.ref X.b), some (.ref hx), some (.ref hm), some (.ref ho), some (.int i), some (.int e), some (.int v), none, none] [] (oC X ho g' :: (MX' ++ MM')) (ck + 15 + 0 + 0) (sk + 153 + 0 + 0) from ?_)⟩
  have hg0 : g' (Int32.toNatClampNeg 0) = v.toInt64 := hg c0
  refine BdL.seg hF ok_C_setHeat 12 [0] rfl ⟨⟨rfl, rfl⟩, xg (by decide), fun _ => hend, fun c1 => absurd ?_ c1⟩
  rw [hg0]
  exact cmp0 _
def tb_C_setGear : List (Nat × List xI) := [(2154, [(.aload_n 1, [], 0), (.aload_n 0, [], 0), (.iload 4, [], 0), (.iconst 1, [], 1), (.iadd, [], 0)]), (2160, [(.iaload, [], 0)]), (2161, [(.aload_n 3, [], 0)]), (2162, [(.invokestatic 312, [], 0)]), (2165, [(.istore 5, [], 0), (.aload_n 2, [], 0), (.aload_n 0, [], 0), (.iload 4, [], 0), (.iconst 1, [], 1), (.iadd, [], 0)]), (2173, [(.iaload, [], 0)]), (2174, [(.invokevirtual 314, [], 0)]), (2177, [(.istore 6, [], 0), (.aload_n 2, [], 0)]), (2180, [(.invokevirtual 128, [], 0)]), (2183, [(.iload 5, [], 0), (.if_icmp .eq 5, [], 0)]), (2190, [(.iload 5, [], 0), (.ifCond .ne 15, [], 0)]), (2207, [(.goto 459, [], 0)]), (2195, [(.aload_n 3, [], 0), (.iconst 0, [], 0), (.laload, [], 0), (.iload 6, [], 0), (.i2l, [], 0), (.lcmp, [], 0), (.ifCond .eq 5, [], 0)])]
set_option maxRecDepth 100000 in
theorem ok_C_setGear : ∀ q ∈ tb_C_setGear, (xChks (yLw "law") q.1 q.2 && xNoPut q.2) = true := by decide +kernel
set_option maxRecDepth 100000 in
theorem case_setGear {X : LX} {hx hm ho ck sk : Nat} {e0 i : Int32} {g : Nat → Int64} {MX MM : va_W} (hF : LF X) (hin : ∀ j : Int32, 0 ≤ j → j ≤ 5 → vp_in (i + j) X.n) (hI : INV X.E hx hm e0 MX MM) (hc : ck + 16 ≤ 601024) (hs : sk + 159 ≤ 7293034) (hk : KN X hx hm ho i ck sk) : BdL X 2154 (L0 X hx hm ho i) [] (WL X ho g MX MM) ck sk := by
  obtain ⟨MM', k, v, e, ha, h1, h2⟩ := op_setGear (Nat.le_refl 400000) hI (X.xs (i + 1).toNatClampNeg)
  obtain ⟨-, ⟨ws, m0⟩⟩ := hI.x0
  refine BdL.seg hF ok_C_setGear 0 [] rfl (show BdL X 2160 [some (.ref X.b), some (.ref hx), some (.ref hm), some (.ref ho), some (.int i), none, none, none, none] (.int (i + 1) :: .ref X.b :: [.ref hx]) (WL X ho g MX MM) ck sk from ?_)
  refine BdL.sld hF (xdecL ok_C_setGear 1 rfl) (hin 1 (by decide) (by decide)) ?_
  refine BdL.seg hF ok_C_setGear 2 [] rfl (show BdL X 2162 [some (.ref X.b), some (.ref hx), some (.ref hm), some (.ref ho), some (.int i), none, none, none, none] (.ref ho :: (.int (X.xs (i + 1).toNatClampNeg) :: [.ref hx])) (WL X ho g MX MM) ck sk from ?_)
  refine BdL.callH hF wL_setGear vL_setGear ini13 xpl13.2 nL_setGear kL_setGear (xdecL ok_C_setGear 3 rfl) (As := [.ref hx, .int (X.xs (i + 1).toNatClampNeg), .ref ho]) (rest := []) (Mc := oC X ho g :: MX) (Rest := MM) (s_L_setGear g h1 ha hI.x0.1) ⟨Nat.le_of_ble_eq_true rfl, Nat.le_of_ble_eq_true rfl⟩ rfl (Nat.le_of_ble_eq_true rfl) (List.Perm.refl _) ⟨(show ck + 15 ≤ 601024 by omega), (show sk + 153 ≤ 7293034 by omega)⟩ ?_
  rintro w M' ⟨MX', g', hI2, hg, hz⟩
  cases hz
  refine BdL.seg hF ok_C_setGear 4 [] rfl ⟨Nat.le_of_ble_eq_true rfl, (show BdL X 2173 [some (.ref X.b), some (.ref hx), some (.ref hm), some (.ref ho), some (.int i), some (.int e), none, none, none] (.int (i + 1) :: .ref X.b :: [.ref hm]) (oC X ho g' :: MX' ++ MM) (ck + 15) (sk + 153) from ?_)⟩
  refine BdL.sld hF (xdecL ok_C_setGear 5 rfl) (hin 1 (by decide) (by decide)) ?_
  refine BdL.callV hF oX12_setGear vX12_setGear nX12_setGear k13_314 (xdecL ok_C_setGear 6 rfl) (As := [.int (X.xs (i + 1).toNatClampNeg)]) (rest := []) h2 neverM ⟨Nat.le_of_ble_eq_true rfl, Nat.le_of_ble_eq_true rfl⟩ rfl (Nat.le_of_ble_eq_true rfl) wp4 0 m0 rfl rfl ⟨(show ck + 15 + 0 ≤ 601024 by omega), (show sk + 153 + 0 ≤ 7293034 by omega)⟩ ?_
  rintro w M'' hz
  cases hz
  obtain ⟨-, ⟨ws2, m1⟩⟩ := hI2.x0
  refine BdL.seg hF ok_C_setGear 7 [] rfl ⟨Nat.le_of_ble_eq_true rfl, (show BdL X 2180 [some (.ref X.b), some (.ref hx), some (.ref hm), some (.ref ho), some (.int i), some (.int e), some (.int v), none, none] [.ref hm] (MM' ++ (oC X ho g' :: MX')) (ck + 15 + 0) (sk + 153 + 0) from ?_)⟩
  refine BdL.callV hF oX12_thrown vX12_thrown nX12_thrown k13_128 (xdecL ok_C_setGear 8 rfl) (As := []) (rest := []) (op_thrown hI2) neverM ⟨Nat.le_of_ble_eq_true rfl, Nat.le_of_ble_eq_true rfl⟩ rfl (Nat.le_of_ble_eq_true rfl) (List.Perm.refl _) 0 m1 rfl rfl ⟨(show ck + 15 + 0 + 0 ≤ 601024 by omega), (show sk + 153 + 0 + 0 ≤ 7293034 by omega)⟩ ?_
  rintro w M'' hz
  cases hz
  refine BdL.pm wp3 ?_
  refine BdL.seg hF ok_C_setGear 9 [] rfl ⟨fun _ => (show BdL X 2190 [some (.ref X.b), some (.ref hx), some (.ref hm), some (.ref ho), some (.int i), some (.int e), some (.int v), none, none] [] (oC X ho g' :: (MX' ++ MM')) (ck + 15 + 0 + 0) (sk + 153 + 0 + 0) from ?_), fun c => absurd rfl c⟩
  have hend : BdL X 2207 [some (.ref X.b), some (.ref hx), some (.ref hm), some (.ref ho), some (.int i), some (.int e), some (.int v), none, none] [] (oC X ho g' :: (MX' ++ MM')) (ck + 15 + 0 + 0) (sk + 153 + 0 + 0) := by
    refine BdL.seg hF ok_C_setGear 11 [] rfl (show BdL X 2666 [some (.ref X.b), some (.ref hx), some (.ref hm), some (.ref ho), some (.int i), some (.int e), some (.int v), none, none] [] (oC X ho g' :: (MX' ++ MM')) (ck + 15 + 0 + 0) (sk + 153 + 0 + 0) from ?_)
    exact BdL.weak (BdL.wide (by omega) (by omega) (hk _ _ _ g' hI2)) ⟨rfl, rfl, rfl, rfl, rfl, trivial⟩
  refine BdL.seg hF ok_C_setGear 10 [] rfl ⟨fun _ => hend, fun c0 => (show BdL X 2195 [some (.ref X.b), some (.ref hx), some (.ref hm), some (.ref ho), some (.int i), some (.int e), some (.int v), none, none] [] (oC X ho g' :: (MX' ++ MM')) (ck + 15 + 0 + 0) (sk + 153 + 0 + 0) from ?_)⟩
  have hg0 : g' (Int32.toNatClampNeg 0) = v.toInt64 := hg c0
  refine BdL.seg hF ok_C_setGear 12 [0] rfl ⟨⟨rfl, rfl⟩, xg (by decide), fun _ => hend, fun c1 => absurd ?_ c1⟩
  rw [hg0]
  exact cmp0 _
def tb_C_setWind : List (Nat × List xI) := [(2210, [(.aload_n 1, [], 0), (.aload_n 0, [], 0), (.iload 4, [], 0), (.iconst 1, [], 1), (.iadd, [], 0)]), (2216, [(.iaload, [], 0)]), (2217, [(.aload_n 0, [], 0), (.iload 4, [], 0), (.iconst 2, [], 2), (.iadd, [], 0)]), (2222, [(.iaload, [], 0)]), (2223, [(.aload_n 3, [], 0)]), (2224, [(.invokestatic 315, [], 0)]), (2227, [(.istore 5, [], 0), (.aload_n 2, [], 0), (.aload_n 0, [], 0), (.iload 4, [], 0), (.iconst 1, [], 1), (.iadd, [], 0)]), (2235, [(.iaload, [], 0)]), (2236, [(.aload_n 0, [], 0), (.iload 4, [], 0), (.iconst 2, [], 2), (.iadd, [], 0)]), (2241, [(.iaload, [], 0)]), (2242, [(.invokevirtual 317, [], 0)]), (2245, [(.istore 6, [], 0), (.aload_n 2, [], 0)]), (2248, [(.invokevirtual 128, [], 0)]), (2251, [(.iload 5, [], 0), (.if_icmp .eq 5, [], 0)]), (2258, [(.iload 5, [], 0), (.ifCond .ne 15, [], 0)]), (2275, [(.goto 391, [], 0)]), (2263, [(.aload_n 3, [], 0), (.iconst 0, [], 0), (.laload, [], 0), (.iload 6, [], 0), (.i2l, [], 0), (.lcmp, [], 0), (.ifCond .eq 5, [], 0)])]
set_option maxRecDepth 100000 in
theorem ok_C_setWind : ∀ q ∈ tb_C_setWind, (xChks (yLw "law") q.1 q.2 && xNoPut q.2) = true := by decide +kernel
set_option maxRecDepth 100000 in
theorem case_setWind {X : LX} {hx hm ho ck sk : Nat} {e0 i : Int32} {g : Nat → Int64} {MX MM : va_W} (hF : LF X) (hin : ∀ j : Int32, 0 ≤ j → j ≤ 5 → vp_in (i + j) X.n) (hI : INV X.E hx hm e0 MX MM) (hc : ck + 16 ≤ 601024) (hs : sk + 159 ≤ 7293034) (hk : KN X hx hm ho i ck sk) : BdL X 2210 (L0 X hx hm ho i) [] (WL X ho g MX MM) ck sk := by
  obtain ⟨MM', k, v, e, ha, h1, h2⟩ := op_setWind (Nat.le_refl 400000) hI (X.xs (i + 1).toNatClampNeg) (X.xs (i + 2).toNatClampNeg)
  obtain ⟨-, ⟨ws, m0⟩⟩ := hI.x0
  refine BdL.seg hF ok_C_setWind 0 [] rfl (show BdL X 2216 [some (.ref X.b), some (.ref hx), some (.ref hm), some (.ref ho), some (.int i), none, none, none, none] (.int (i + 1) :: .ref X.b :: [.ref hx]) (WL X ho g MX MM) ck sk from ?_)
  refine BdL.sld hF (xdecL ok_C_setWind 1 rfl) (hin 1 (by decide) (by decide)) ?_
  refine BdL.seg hF ok_C_setWind 2 [] rfl (show BdL X 2222 [some (.ref X.b), some (.ref hx), some (.ref hm), some (.ref ho), some (.int i), none, none, none, none] (.int (i + 2) :: .ref X.b :: (.int (X.xs (i + 1).toNatClampNeg) :: [.ref hx])) (WL X ho g MX MM) ck sk from ?_)
  refine BdL.sld hF (xdecL ok_C_setWind 3 rfl) (hin 2 (by decide) (by decide)) ?_
  refine BdL.seg hF ok_C_setWind 4 [] rfl (show BdL X 2224 [some (.ref X.b), some (.ref hx), some (.ref hm), some (.ref ho), some (.int i), none, none, none, none] (.ref ho :: (.int (X.xs (i + 2).toNatClampNeg) :: (.int (X.xs (i + 1).toNatClampNeg) :: [.ref hx]))) (WL X ho g MX MM) ck sk from ?_)
  refine BdL.callH hF wL_setWind vL_setWind ini13 xpl13.2 nL_setWind kL_setWind (xdecL ok_C_setWind 5 rfl) (As := [.ref hx, .int (X.xs (i + 1).toNatClampNeg), .int (X.xs (i + 2).toNatClampNeg), .ref ho]) (rest := []) (Mc := oC X ho g :: MX) (Rest := MM) (s_L_setWind g h1 ha hI.x0.1) ⟨Nat.le_of_ble_eq_true rfl, Nat.le_of_ble_eq_true rfl⟩ rfl (Nat.le_of_ble_eq_true rfl) (List.Perm.refl _) ⟨(show ck + 15 ≤ 601024 by omega), (show sk + 153 ≤ 7293034 by omega)⟩ ?_
  rintro w M' ⟨MX', g', hI2, hg, hz⟩
  cases hz
  refine BdL.seg hF ok_C_setWind 6 [] rfl ⟨Nat.le_of_ble_eq_true rfl, (show BdL X 2235 [some (.ref X.b), some (.ref hx), some (.ref hm), some (.ref ho), some (.int i), some (.int e), none, none, none] (.int (i + 1) :: .ref X.b :: [.ref hm]) (oC X ho g' :: MX' ++ MM) (ck + 15) (sk + 153) from ?_)⟩
  refine BdL.sld hF (xdecL ok_C_setWind 7 rfl) (hin 1 (by decide) (by decide)) ?_
  refine BdL.seg hF ok_C_setWind 8 [] rfl (show BdL X 2241 [some (.ref X.b), some (.ref hx), some (.ref hm), some (.ref ho), some (.int i), some (.int e), none, none, none] (.int (i + 2) :: .ref X.b :: (.int (X.xs (i + 1).toNatClampNeg) :: [.ref hm])) (oC X ho g' :: MX' ++ MM) (ck + 15) (sk + 153) from ?_)
  refine BdL.sld hF (xdecL ok_C_setWind 9 rfl) (hin 2 (by decide) (by decide)) ?_
  refine BdL.callV hF oX12_setWind vX12_setWind nX12_setWind k13_317 (xdecL ok_C_setWind 10 rfl) (As := [.int (X.xs (i + 1).toNatClampNeg), .int (X.xs (i + 2).toNatClampNeg)]) (rest := []) h2 neverM ⟨Nat.le_of_ble_eq_true rfl, Nat.le_of_ble_eq_true rfl⟩ rfl (Nat.le_of_ble_eq_true rfl) wp4 0 m0 rfl rfl ⟨(show ck + 15 + 0 ≤ 601024 by omega), (show sk + 153 + 0 ≤ 7293034 by omega)⟩ ?_
  rintro w M'' hz
  cases hz
  obtain ⟨-, ⟨ws2, m1⟩⟩ := hI2.x0
  refine BdL.seg hF ok_C_setWind 11 [] rfl ⟨Nat.le_of_ble_eq_true rfl, (show BdL X 2248 [some (.ref X.b), some (.ref hx), some (.ref hm), some (.ref ho), some (.int i), some (.int e), some (.int v), none, none] [.ref hm] (MM' ++ (oC X ho g' :: MX')) (ck + 15 + 0) (sk + 153 + 0) from ?_)⟩
  refine BdL.callV hF oX12_thrown vX12_thrown nX12_thrown k13_128 (xdecL ok_C_setWind 12 rfl) (As := []) (rest := []) (op_thrown hI2) neverM ⟨Nat.le_of_ble_eq_true rfl, Nat.le_of_ble_eq_true rfl⟩ rfl (Nat.le_of_ble_eq_true rfl) (List.Perm.refl _) 0 m1 rfl rfl ⟨(show ck + 15 + 0 + 0 ≤ 601024 by omega), (show sk + 153 + 0 + 0 ≤ 7293034 by omega)⟩ ?_
  rintro w M'' hz
  cases hz
  refine BdL.pm wp3 ?_
  refine BdL.seg hF ok_C_setWind 13 [] rfl ⟨fun _ => (show BdL X 2258 [some (.ref X.b), some (.ref hx), some (.ref hm), some (.ref ho), some (.int i), some (.int e), some (.int v), none, none] [] (oC X ho g' :: (MX' ++ MM')) (ck + 15 + 0 + 0) (sk + 153 + 0 + 0) from ?_), fun c => absurd rfl c⟩
  have hend : BdL X 2275 [some (.ref X.b), some (.ref hx), some (.ref hm), some (.ref ho), some (.int i), some (.int e), some (.int v), none, none] [] (oC X ho g' :: (MX' ++ MM')) (ck + 15 + 0 + 0) (sk + 153 + 0 + 0) := by
    refine BdL.seg hF ok_C_setWind 15 [] rfl (show BdL X 2666 [some (.ref X.b), some (.ref hx), some (.ref hm), some (.ref ho), some (.int i), some (.int e), some (.int v), none, none] [] (oC X ho g' :: (MX' ++ MM')) (ck + 15 + 0 + 0) (sk + 153 + 0 + 0) from ?_)
    exact BdL.weak (BdL.wide (by omega) (by omega) (hk _ _ _ g' hI2)) ⟨rfl, rfl, rfl, rfl, rfl, trivial⟩
  refine BdL.seg hF ok_C_setWind 14 [] rfl ⟨fun _ => hend, fun c0 => (show BdL X 2263 [some (.ref X.b), some (.ref hx), some (.ref hm), some (.ref ho), some (.int i), some (.int e), some (.int v), none, none] [] (oC X ho g' :: (MX' ++ MM')) (ck + 15 + 0 + 0) (sk + 153 + 0 + 0) from ?_)⟩
  have hg0 : g' (Int32.toNatClampNeg 0) = v.toInt64 := hg c0
  refine BdL.seg hF ok_C_setWind 16 [0] rfl ⟨⟨rfl, rfl⟩, xg (by decide), fun _ => hend, fun c1 => absurd ?_ c1⟩
  rw [hg0]
  exact cmp0 _
def tb_C_sell : List (Nat × List xI) := [(2278, [(.aload_n 1, [], 0), (.aload_n 0, [], 0), (.iload 4, [], 0), (.iconst 1, [], 1), (.iadd, [], 0)]), (2284, [(.iaload, [], 0)]), (2285, [(.aload_n 3, [], 0)]), (2286, [(.invokestatic 318, [], 0)]), (2289, [(.istore 5, [], 0), (.aload_n 2, [], 0), (.aload_n 0, [], 0), (.iload 4, [], 0), (.iconst 1, [], 1), (.iadd, [], 0)]), (2297, [(.iaload, [], 0)]), (2298, [(.invokevirtual 320, [], 0)]), (2301, [(.istore 6, [], 0), (.aload_n 2, [], 0)]), (2304, [(.invokevirtual 128, [], 0)]), (2307, [(.iload 5, [], 0), (.if_icmp .eq 5, [], 0)]), (2314, [(.iload 5, [], 0), (.ifCond .ne 15, [], 0)]), (2331, [(.goto 335, [], 0)]), (2319, [(.aload_n 3, [], 0), (.iconst 0, [], 0), (.laload, [], 0), (.iload 6, [], 0), (.i2l, [], 0), (.lcmp, [], 0), (.ifCond .eq 5, [], 0)])]
set_option maxRecDepth 100000 in
theorem ok_C_sell : ∀ q ∈ tb_C_sell, (xChks (yLw "law") q.1 q.2 && xNoPut q.2) = true := by decide +kernel
set_option maxRecDepth 100000 in
theorem case_sell {X : LX} {hx hm ho ck sk : Nat} {e0 i : Int32} {g : Nat → Int64} {MX MM : va_W} (hF : LF X) (hin : ∀ j : Int32, 0 ≤ j → j ≤ 5 → vp_in (i + j) X.n) (hI : INV X.E hx hm e0 MX MM) (hc : ck + 16 ≤ 601024) (hs : sk + 159 ≤ 7293034) (hk : KN X hx hm ho i ck sk) : BdL X 2278 (L0 X hx hm ho i) [] (WL X ho g MX MM) ck sk := by
  obtain ⟨MM', k, v, e, ha, h1, h2⟩ := op_sell (Nat.le_refl 400000) hI (X.xs (i + 1).toNatClampNeg)
  obtain ⟨-, ⟨ws, m0⟩⟩ := hI.x0
  refine BdL.seg hF ok_C_sell 0 [] rfl (show BdL X 2284 [some (.ref X.b), some (.ref hx), some (.ref hm), some (.ref ho), some (.int i), none, none, none, none] (.int (i + 1) :: .ref X.b :: [.ref hx]) (WL X ho g MX MM) ck sk from ?_)
  refine BdL.sld hF (xdecL ok_C_sell 1 rfl) (hin 1 (by decide) (by decide)) ?_
  refine BdL.seg hF ok_C_sell 2 [] rfl (show BdL X 2286 [some (.ref X.b), some (.ref hx), some (.ref hm), some (.ref ho), some (.int i), none, none, none, none] (.ref ho :: (.int (X.xs (i + 1).toNatClampNeg) :: [.ref hx])) (WL X ho g MX MM) ck sk from ?_)
  refine BdL.callH hF wL_sell vL_sell ini13 xpl13.2 nL_sell kL_sell (xdecL ok_C_sell 3 rfl) (As := [.ref hx, .int (X.xs (i + 1).toNatClampNeg), .ref ho]) (rest := []) (Mc := oC X ho g :: MX) (Rest := MM) (s_L_sell g h1 ha hI.x0.1) ⟨Nat.le_of_ble_eq_true rfl, Nat.le_of_ble_eq_true rfl⟩ rfl (Nat.le_of_ble_eq_true rfl) (List.Perm.refl _) ⟨(show ck + 16 ≤ 601024 by omega), (show sk + 159 ≤ 7293034 by omega)⟩ ?_
  rintro w M' ⟨MX', g', hI2, hg, hz⟩
  cases hz
  refine BdL.seg hF ok_C_sell 4 [] rfl ⟨Nat.le_of_ble_eq_true rfl, (show BdL X 2297 [some (.ref X.b), some (.ref hx), some (.ref hm), some (.ref ho), some (.int i), some (.int e), none, none, none] (.int (i + 1) :: .ref X.b :: [.ref hm]) (oC X ho g' :: MX' ++ MM) (ck + 16) (sk + 159) from ?_)⟩
  refine BdL.sld hF (xdecL ok_C_sell 5 rfl) (hin 1 (by decide) (by decide)) ?_
  refine BdL.callV hF oX12_sell vX12_sell nX12_sell k13_320 (xdecL ok_C_sell 6 rfl) (As := [.int (X.xs (i + 1).toNatClampNeg)]) (rest := []) h2 neverM ⟨Nat.le_of_ble_eq_true rfl, Nat.le_of_ble_eq_true rfl⟩ rfl (Nat.le_of_ble_eq_true rfl) wp4 0 m0 rfl rfl ⟨(show ck + 16 + 0 ≤ 601024 by omega), (show sk + 159 + 0 ≤ 7293034 by omega)⟩ ?_
  rintro w M'' hz
  cases hz
  obtain ⟨-, ⟨ws2, m1⟩⟩ := hI2.x0
  refine BdL.seg hF ok_C_sell 7 [] rfl ⟨Nat.le_of_ble_eq_true rfl, (show BdL X 2304 [some (.ref X.b), some (.ref hx), some (.ref hm), some (.ref ho), some (.int i), some (.int e), some (.int v), none, none] [.ref hm] (MM' ++ (oC X ho g' :: MX')) (ck + 16 + 0) (sk + 159 + 0) from ?_)⟩
  refine BdL.callV hF oX12_thrown vX12_thrown nX12_thrown k13_128 (xdecL ok_C_sell 8 rfl) (As := []) (rest := []) (op_thrown hI2) neverM ⟨Nat.le_of_ble_eq_true rfl, Nat.le_of_ble_eq_true rfl⟩ rfl (Nat.le_of_ble_eq_true rfl) (List.Perm.refl _) 0 m1 rfl rfl ⟨(show ck + 16 + 0 + 0 ≤ 601024 by omega), (show sk + 159 + 0 + 0 ≤ 7293034 by omega)⟩ ?_
  rintro w M'' hz
  cases hz
  refine BdL.pm wp3 ?_
  refine BdL.seg hF ok_C_sell 9 [] rfl ⟨fun _ => (show BdL X 2314 [some (.ref X.b), some (.ref hx), some (.ref hm), some (.ref ho), some (.int i), some (.int e), some (.int v), none, none] [] (oC X ho g' :: (MX' ++ MM')) (ck + 16 + 0 + 0) (sk + 159 + 0 + 0) from ?_), fun c => absurd rfl c⟩
  have hend : BdL X 2331 [some (.ref X.b), some (.ref hx), some (.ref hm), some (.ref ho), some (.int i), some (.int e), some (.int v), none, none] [] (oC X ho g' :: (MX' ++ MM')) (ck + 16 + 0 + 0) (sk + 159 + 0 + 0) := by
    refine BdL.seg hF ok_C_sell 11 [] rfl (show BdL X 2666 [some (.ref X.b), some (.ref hx), some (.ref hm), some (.ref ho), some (.int i), some (.int e), some (.int v), none, none] [] (oC X ho g' :: (MX' ++ MM')) (ck + 16 + 0 + 0) (sk + 159 + 0 + 0) from ?_)
    exact BdL.weak (BdL.wide (by omega) (by omega) (hk _ _ _ g' hI2)) ⟨rfl, rfl, rfl, rfl, rfl, trivial⟩
  refine BdL.seg hF ok_C_sell 10 [] rfl ⟨fun _ => hend, fun c0 => (show BdL X 2319 [some (.ref X.b), some (.ref hx), some (.ref hm), some (.ref ho), some (.int i), some (.int e), some (.int v), none, none] [] (oC X ho g' :: (MX' ++ MM')) (ck + 16 + 0 + 0) (sk + 159 + 0 + 0) from ?_)⟩
  have hg0 : g' (Int32.toNatClampNeg 0) = v.toInt64 := hg c0
  refine BdL.seg hF ok_C_sell 12 [0] rfl ⟨⟨rfl, rfl⟩, xg (by decide), fun _ => hend, fun c1 => absurd ?_ c1⟩
  rw [hg0]
  exact cmp0 _
def tb_C_quench : List (Nat × List xI) := [(2334, [(.aload_n 1, [], 0), (.aload_n 0, [], 0), (.iload 4, [], 0), (.iconst 1, [], 1), (.iadd, [], 0)]), (2340, [(.iaload, [], 0)]), (2341, [(.aload_n 3, [], 0)]), (2342, [(.invokestatic 321, [], 0)]), (2345, [(.istore 5, [], 0), (.aload_n 2, [], 0), (.aload_n 0, [], 0), (.iload 4, [], 0), (.iconst 1, [], 1), (.iadd, [], 0)]), (2353, [(.iaload, [], 0)]), (2354, [(.invokevirtual 323, [], 0)]), (2357, [(.istore 6, [], 0), (.aload_n 2, [], 0)]), (2360, [(.invokevirtual 128, [], 0)]), (2363, [(.iload 5, [], 0), (.if_icmp .eq 5, [], 0)]), (2370, [(.iload 5, [], 0), (.ifCond .ne 15, [], 0)]), (2387, [(.goto 279, [], 0)]), (2375, [(.aload_n 3, [], 0), (.iconst 0, [], 0), (.laload, [], 0), (.iload 6, [], 0), (.i2l, [], 0), (.lcmp, [], 0), (.ifCond .eq 5, [], 0)])]
set_option maxRecDepth 100000 in
theorem ok_C_quench : ∀ q ∈ tb_C_quench, (xChks (yLw "law") q.1 q.2 && xNoPut q.2) = true := by decide +kernel
set_option maxRecDepth 100000 in
theorem case_quench {X : LX} {hx hm ho ck sk : Nat} {e0 i : Int32} {g : Nat → Int64} {MX MM : va_W} (hF : LF X) (hin : ∀ j : Int32, 0 ≤ j → j ≤ 5 → vp_in (i + j) X.n) (hI : INV X.E hx hm e0 MX MM) (hc : ck + 16 ≤ 601024) (hs : sk + 159 ≤ 7293034) (hk : KN X hx hm ho i ck sk) : BdL X 2334 (L0 X hx hm ho i) [] (WL X ho g MX MM) ck sk := by
  obtain ⟨MM', k, v, e, ha, h1, h2⟩ := op_quench (Nat.le_refl 400000) hI (X.xs (i + 1).toNatClampNeg)
  obtain ⟨-, ⟨ws, m0⟩⟩ := hI.x0
  refine BdL.seg hF ok_C_quench 0 [] rfl (show BdL X 2340 [some (.ref X.b), some (.ref hx), some (.ref hm), some (.ref ho), some (.int i), none, none, none, none] (.int (i + 1) :: .ref X.b :: [.ref hx]) (WL X ho g MX MM) ck sk from ?_)
  refine BdL.sld hF (xdecL ok_C_quench 1 rfl) (hin 1 (by decide) (by decide)) ?_
  refine BdL.seg hF ok_C_quench 2 [] rfl (show BdL X 2342 [some (.ref X.b), some (.ref hx), some (.ref hm), some (.ref ho), some (.int i), none, none, none, none] (.ref ho :: (.int (X.xs (i + 1).toNatClampNeg) :: [.ref hx])) (WL X ho g MX MM) ck sk from ?_)
  refine BdL.callH hF wL_quench vL_quench ini13 xpl13.2 nL_quench kL_quench (xdecL ok_C_quench 3 rfl) (As := [.ref hx, .int (X.xs (i + 1).toNatClampNeg), .ref ho]) (rest := []) (Mc := oC X ho g :: MX) (Rest := MM) (s_L_quench g h1 ha hI.x0.1) ⟨Nat.le_of_ble_eq_true rfl, Nat.le_of_ble_eq_true rfl⟩ rfl (Nat.le_of_ble_eq_true rfl) (List.Perm.refl _) ⟨(show ck + 16 ≤ 601024 by omega), (show sk + 159 ≤ 7293034 by omega)⟩ ?_
  rintro w M' ⟨MX', g', hI2, hg, hz⟩
  cases hz
  refine BdL.seg hF ok_C_quench 4 [] rfl ⟨Nat.le_of_ble_eq_true rfl, (show BdL X 2353 [some (.ref X.b), some (.ref hx), some (.ref hm), some (.ref ho), some (.int i), some (.int e), none, none, none] (.int (i + 1) :: .ref X.b :: [.ref hm]) (oC X ho g' :: MX' ++ MM) (ck + 16) (sk + 159) from ?_)⟩
  refine BdL.sld hF (xdecL ok_C_quench 5 rfl) (hin 1 (by decide) (by decide)) ?_
  refine BdL.callV hF oX12_quench vX12_quench nX12_quench k13_323 (xdecL ok_C_quench 6 rfl) (As := [.int (X.xs (i + 1).toNatClampNeg)]) (rest := []) h2 neverM ⟨Nat.le_of_ble_eq_true rfl, Nat.le_of_ble_eq_true rfl⟩ rfl (Nat.le_of_ble_eq_true rfl) wp4 0 m0 rfl rfl ⟨(show ck + 16 + 0 ≤ 601024 by omega), (show sk + 159 + 0 ≤ 7293034 by omega)⟩ ?_
  rintro w M'' hz
  cases hz
  obtain ⟨-, ⟨ws2, m1⟩⟩ := hI2.x0
  refine BdL.seg hF ok_C_quench 7 [] rfl ⟨Nat.le_of_ble_eq_true rfl, (show BdL X 2360 [some (.ref X.b), some (.ref hx), some (.ref hm), some (.ref ho), some (.int i), some (.int e), some (.int v), none, none] [.ref hm] (MM' ++ (oC X ho g' :: MX')) (ck + 16 + 0) (sk + 159 + 0) from ?_)⟩
  refine BdL.callV hF oX12_thrown vX12_thrown nX12_thrown k13_128 (xdecL ok_C_quench 8 rfl) (As := []) (rest := []) (op_thrown hI2) neverM ⟨Nat.le_of_ble_eq_true rfl, Nat.le_of_ble_eq_true rfl⟩ rfl (Nat.le_of_ble_eq_true rfl) (List.Perm.refl _) 0 m1 rfl rfl ⟨(show ck + 16 + 0 + 0 ≤ 601024 by omega), (show sk + 159 + 0 + 0 ≤ 7293034 by omega)⟩ ?_
  rintro w M'' hz
  cases hz
  refine BdL.pm wp3 ?_
  refine BdL.seg hF ok_C_quench 9 [] rfl ⟨fun _ => (show BdL X 2370 [some (.ref X.b), some (.ref hx), some (.ref hm), some (.ref ho), some (.int i), some (.int e), some (.int v), none, none] [] (oC X ho g' :: (MX' ++ MM')) (ck + 16 + 0 + 0) (sk + 159 + 0 + 0) from ?_), fun c => absurd rfl c⟩
  have hend : BdL X 2387 [some (.ref X.b), some (.ref hx), some (.ref hm), some (.ref ho), some (.int i), some (.int e), some (.int v), none, none] [] (oC X ho g' :: (MX' ++ MM')) (ck + 16 + 0 + 0) (sk + 159 + 0 + 0) := by
    refine BdL.seg hF ok_C_quench 11 [] rfl (show BdL X 2666 [some (.ref X.b), some (.ref hx), some (.ref hm), some (.ref ho), some (.int i), some (.int e), some (.int v), none, none] [] (oC X ho g' :: (MX' ++ MM')) (ck + 16 + 0 + 0) (sk + 159 + 0 + 0) from ?_)
    exact BdL.weak (BdL.wide (by omega) (by omega) (hk _ _ _ g' hI2)) ⟨rfl, rfl, rfl, rfl, rfl, trivial⟩
  refine BdL.seg hF ok_C_quench 10 [] rfl ⟨fun _ => hend, fun c0 => (show BdL X 2375 [some (.ref X.b), some (.ref hx), some (.ref hm), some (.ref ho), some (.int i), some (.int e), some (.int v), none, none] [] (oC X ho g' :: (MX' ++ MM')) (ck + 16 + 0 + 0) (sk + 159 + 0 + 0) from ?_)⟩
  have hg0 : g' (Int32.toNatClampNeg 0) = v.toInt64 := hg c0
  refine BdL.seg hF ok_C_quench 12 [0] rfl ⟨⟨rfl, rfl⟩, xg (by decide), fun _ => hend, fun c1 => absurd ?_ c1⟩
  rw [hg0]
  exact cmp0 _
def tb_C_advance : List (Nat × List xI) := [(2390, [(.aload_n 1, [], 0), (.aload_n 0, [], 0), (.iload 4, [], 0), (.iconst 1, [], 1), (.iadd, [], 0)]), (2396, [(.iaload, [], 0)]), (2397, [(.aload_n 3, [], 0)]), (2398, [(.invokestatic 324, [], 0)]), (2401, [(.istore 5, [], 0), (.aload_n 2, [], 0), (.aload_n 0, [], 0), (.iload 4, [], 0), (.iconst 1, [], 1), (.iadd, [], 0)]), (2409, [(.iaload, [], 0)]), (2410, [(.invokevirtual 326, [], 0)]), (2413, [(.istore 6, [], 0), (.aload_n 2, [], 0)]), (2416, [(.invokevirtual 128, [], 0)]), (2419, [(.iload 5, [], 0), (.if_icmp .eq 5, [], 0)]), (2426, [(.iload 5, [], 0), (.ifCond .ne 15, [], 0)]), (2443, [(.goto 223, [], 0)]), (2431, [(.aload_n 3, [], 0), (.iconst 0, [], 0), (.laload, [], 0), (.iload 6, [], 0), (.i2l, [], 0), (.lcmp, [], 0), (.ifCond .eq 5, [], 0)])]
set_option maxRecDepth 100000 in
theorem ok_C_advance : ∀ q ∈ tb_C_advance, (xChks (yLw "law") q.1 q.2 && xNoPut q.2) = true := by decide +kernel
set_option maxRecDepth 100000 in
theorem case_advance {X : LX} {hx hm ho ck sk : Nat} {e0 i : Int32} {g : Nat → Int64} {MX MM : va_W} (hF : LF X) (hin : ∀ j : Int32, 0 ≤ j → j ≤ 5 → vp_in (i + j) X.n) (hI : INV X.E hx hm e0 MX MM) (hc : ck + 16 ≤ 601024) (hs : sk + 159 ≤ 7293034) (hk : KN X hx hm ho i ck sk) : BdL X 2390 (L0 X hx hm ho i) [] (WL X ho g MX MM) ck sk := by
  obtain ⟨MM', k, v, e, ha, h1, h2⟩ := op_advance (Nat.le_refl 400000) hI (X.xs (i + 1).toNatClampNeg)
  obtain ⟨-, ⟨ws, m0⟩⟩ := hI.x0
  refine BdL.seg hF ok_C_advance 0 [] rfl (show BdL X 2396 [some (.ref X.b), some (.ref hx), some (.ref hm), some (.ref ho), some (.int i), none, none, none, none] (.int (i + 1) :: .ref X.b :: [.ref hx]) (WL X ho g MX MM) ck sk from ?_)
  refine BdL.sld hF (xdecL ok_C_advance 1 rfl) (hin 1 (by decide) (by decide)) ?_
  refine BdL.seg hF ok_C_advance 2 [] rfl (show BdL X 2398 [some (.ref X.b), some (.ref hx), some (.ref hm), some (.ref ho), some (.int i), none, none, none, none] (.ref ho :: (.int (X.xs (i + 1).toNatClampNeg) :: [.ref hx])) (WL X ho g MX MM) ck sk from ?_)
  refine BdL.callH hF wL_advance vL_advance ini13 xpl13.2 nL_advance kL_advance (xdecL ok_C_advance 3 rfl) (As := [.ref hx, .int (X.xs (i + 1).toNatClampNeg), .ref ho]) (rest := []) (Mc := oC X ho g :: MX) (Rest := MM) (s_L_advance g h1 ha hI.x0.1) ⟨Nat.le_of_ble_eq_true rfl, Nat.le_of_ble_eq_true rfl⟩ rfl (Nat.le_of_ble_eq_true rfl) (List.Perm.refl _) ⟨(show ck + 16 ≤ 601024 by omega), (show sk + 159 ≤ 7293034 by omega)⟩ ?_
  rintro w M' ⟨MX', g', hI2, hg, hz⟩
  cases hz
  refine BdL.seg hF ok_C_advance 4 [] rfl ⟨Nat.le_of_ble_eq_true rfl, (show BdL X 2409 [some (.ref X.b), some (.ref hx), some (.ref hm), some (.ref ho), some (.int i), some (.int e), none, none, none] (.int (i + 1) :: .ref X.b :: [.ref hm]) (oC X ho g' :: MX' ++ MM) (ck + 16) (sk + 159) from ?_)⟩
  refine BdL.sld hF (xdecL ok_C_advance 5 rfl) (hin 1 (by decide) (by decide)) ?_
  refine BdL.callV hF oX12_advance vX12_advance nX12_advance k13_326 (xdecL ok_C_advance 6 rfl) (As := [.int (X.xs (i + 1).toNatClampNeg)]) (rest := []) h2 neverM ⟨Nat.le_of_ble_eq_true rfl, Nat.le_of_ble_eq_true rfl⟩ rfl (Nat.le_of_ble_eq_true rfl) wp4 0 m0 rfl rfl ⟨(show ck + 16 + 0 ≤ 601024 by omega), (show sk + 159 + 0 ≤ 7293034 by omega)⟩ ?_
  rintro w M'' hz
  cases hz
  obtain ⟨-, ⟨ws2, m1⟩⟩ := hI2.x0
  refine BdL.seg hF ok_C_advance 7 [] rfl ⟨Nat.le_of_ble_eq_true rfl, (show BdL X 2416 [some (.ref X.b), some (.ref hx), some (.ref hm), some (.ref ho), some (.int i), some (.int e), some (.int v), none, none] [.ref hm] (MM' ++ (oC X ho g' :: MX')) (ck + 16 + 0) (sk + 159 + 0) from ?_)⟩
  refine BdL.callV hF oX12_thrown vX12_thrown nX12_thrown k13_128 (xdecL ok_C_advance 8 rfl) (As := []) (rest := []) (op_thrown hI2) neverM ⟨Nat.le_of_ble_eq_true rfl, Nat.le_of_ble_eq_true rfl⟩ rfl (Nat.le_of_ble_eq_true rfl) (List.Perm.refl _) 0 m1 rfl rfl ⟨(show ck + 16 + 0 + 0 ≤ 601024 by omega), (show sk + 159 + 0 + 0 ≤ 7293034 by omega)⟩ ?_
  rintro w M'' hz
  cases hz
  refine BdL.pm wp3 ?_
  refine BdL.seg hF ok_C_advance 9 [] rfl ⟨fun _ => (show BdL X 2426 [some (.ref X.b), some (.ref hx), some (.ref hm), some (.ref ho), some (.int i), some (.int e), some (.int v), none, none] [] (oC X ho g' :: (MX' ++ MM')) (ck + 16 + 0 + 0) (sk + 159 + 0 + 0) from ?_), fun c => absurd rfl c⟩
  have hend : BdL X 2443 [some (.ref X.b), some (.ref hx), some (.ref hm), some (.ref ho), some (.int i), some (.int e), some (.int v), none, none] [] (oC X ho g' :: (MX' ++ MM')) (ck + 16 + 0 + 0) (sk + 159 + 0 + 0) := by
    refine BdL.seg hF ok_C_advance 11 [] rfl (show BdL X 2666 [some (.ref X.b), some (.ref hx), some (.ref hm), some (.ref ho), some (.int i), some (.int e), some (.int v), none, none] [] (oC X ho g' :: (MX' ++ MM')) (ck + 16 + 0 + 0) (sk + 159 + 0 + 0) from ?_)
    exact BdL.weak (BdL.wide (by omega) (by omega) (hk _ _ _ g' hI2)) ⟨rfl, rfl, rfl, rfl, rfl, trivial⟩
  refine BdL.seg hF ok_C_advance 10 [] rfl ⟨fun _ => hend, fun c0 => (show BdL X 2431 [some (.ref X.b), some (.ref hx), some (.ref hm), some (.ref ho), some (.int i), some (.int e), some (.int v), none, none] [] (oC X ho g' :: (MX' ++ MM')) (ck + 16 + 0 + 0) (sk + 159 + 0 + 0) from ?_)⟩
  have hg0 : g' (Int32.toNatClampNeg 0) = v.toInt64 := hg c0
  refine BdL.seg hF ok_C_advance 12 [0] rfl ⟨⟨rfl, rfl⟩, xg (by decide), fun _ => hend, fun c1 => absurd ?_ c1⟩
  rw [hg0]
  exact cmp0 _
def tb_C_writeFloors : List (Nat × List xI) := [(2446, [(.aload_n 1, [], 0)]), (2447, [(.invokevirtual 327, [], 0)]), (2450, [(.aload_n 2, [], 0)]), (2451, [(.invokevirtual 330, [], 0)]), (2454, [(.if_icmp .eq 212, [], 0)])]
set_option maxRecDepth 100000 in
theorem ok_C_writeFloors : ∀ q ∈ tb_C_writeFloors, (xChks (yLw "law") q.1 q.2 && xNoPut q.2) = true := by decide +kernel
set_option maxRecDepth 100000 in
theorem case_writeFloors {X : LX} {hx hm ho ck sk : Nat} {e0 i : Int32} {g : Nat → Int64} {MX MM : va_W} (hF : LF X) (hin : ∀ j : Int32, 0 ≤ j → j ≤ 5 → vp_in (i + j) X.n) (hI : INV X.E hx hm e0 MX MM) (hc : ck + 16 ≤ 601024) (hs : sk + 159 ≤ 7293034) (hk : KN X hx hm ho i ck sk) : BdL X 2446 (L0 X hx hm ho i) [] (WL X ho g MX MM) ck sk := by
  obtain ⟨MM', v, -, h1, h2⟩ := op_writeFloors (Nat.le_refl 400000) hI
  obtain ⟨⟨vs, x0⟩, ⟨ws, m0⟩⟩ := hI.x0
  refine BdL.seg hF ok_C_writeFloors 0 [] rfl (show BdL X 2447 (L0 X hx hm ho i) [.ref hx] (WL X ho g MX MM) ck sk from ?_)
  refine BdL.callV hF oX11_writeFloors vX11_writeFloors nX11_writeFloors k13_327 (xdecL ok_C_writeFloors 1 rfl) (As := []) (rest := []) h1 never ⟨Nat.le_of_ble_eq_true rfl, Nat.le_of_ble_eq_true rfl⟩ rfl (Nat.le_of_ble_eq_true rfl) wp1 0 x0 rfl rfl ⟨(show ck + 0 ≤ 601024 by omega), (show sk + 0 ≤ 7293034 by omega)⟩ ?_
  rintro w M' ⟨MX', hI2, hz⟩
  cases hz
  refine BdL.seg hF ok_C_writeFloors 2 [] rfl (show BdL X 2451 (L0 X hx hm ho i) [.ref hm, .int v] (M' ++ (oC X ho g :: MM)) (ck + 0) (sk + 0) from ?_)
  refine BdL.callV hF oX12_writeFloors vX12_writeFloors nX12_writeFloors k13_330 (xdecL ok_C_writeFloors 3 rfl) (As := []) (rest := [.int v]) h2 neverM ⟨Nat.le_of_ble_eq_true rfl, Nat.le_of_ble_eq_true rfl⟩ rfl (Nat.le_of_ble_eq_true rfl) wp2 0 m0 rfl rfl ⟨(show ck + 0 + 0 ≤ 601024 by omega), (show sk + 0 + 0 ≤ 7293034 by omega)⟩ ?_
  rintro w M'' hz
  cases hz
  refine BdL.seg hF ok_C_writeFloors 4 [] rfl ⟨fun _ => (show BdL X 2666 (L0 X hx hm ho i) [] (MM' ++ (oC X ho g :: M')) (ck + 0 + 0) (sk + 0 + 0) from ?_), fun c => absurd rfl c⟩
  exact BdL.pm wp3 (BdL.wide (by omega) (by omega) (hk _ _ _ g hI2))
def tb_C_writeSacks : List (Nat × List xI) := [(2459, [(.aload_n 1, [], 0)]), (2460, [(.invokevirtual 331, [], 0)]), (2463, [(.aload_n 2, [], 0)]), (2464, [(.invokevirtual 334, [], 0)]), (2467, [(.if_icmp .eq 199, [], 0)])]
set_option maxRecDepth 100000 in
theorem ok_C_writeSacks : ∀ q ∈ tb_C_writeSacks, (xChks (yLw "law") q.1 q.2 && xNoPut q.2) = true := by decide +kernel
set_option maxRecDepth 100000 in
theorem case_writeSacks {X : LX} {hx hm ho ck sk : Nat} {e0 i : Int32} {g : Nat → Int64} {MX MM : va_W} (hF : LF X) (hin : ∀ j : Int32, 0 ≤ j → j ≤ 5 → vp_in (i + j) X.n) (hI : INV X.E hx hm e0 MX MM) (hc : ck + 16 ≤ 601024) (hs : sk + 159 ≤ 7293034) (hk : KN X hx hm ho i ck sk) : BdL X 2459 (L0 X hx hm ho i) [] (WL X ho g MX MM) ck sk := by
  obtain ⟨MM', v, -, h1, h2⟩ := op_writeSacks (Nat.le_refl 400000) hI
  obtain ⟨⟨vs, x0⟩, ⟨ws, m0⟩⟩ := hI.x0
  refine BdL.seg hF ok_C_writeSacks 0 [] rfl (show BdL X 2460 (L0 X hx hm ho i) [.ref hx] (WL X ho g MX MM) ck sk from ?_)
  refine BdL.callV hF oX11_writeSacks vX11_writeSacks nX11_writeSacks k13_331 (xdecL ok_C_writeSacks 1 rfl) (As := []) (rest := []) h1 never ⟨Nat.le_of_ble_eq_true rfl, Nat.le_of_ble_eq_true rfl⟩ rfl (Nat.le_of_ble_eq_true rfl) wp1 0 x0 rfl rfl ⟨(show ck + 0 ≤ 601024 by omega), (show sk + 0 ≤ 7293034 by omega)⟩ ?_
  rintro w M' ⟨MX', hI2, hz⟩
  cases hz
  refine BdL.seg hF ok_C_writeSacks 2 [] rfl (show BdL X 2464 (L0 X hx hm ho i) [.ref hm, .int v] (M' ++ (oC X ho g :: MM)) (ck + 0) (sk + 0) from ?_)
  refine BdL.callV hF oX12_writeSacks vX12_writeSacks nX12_writeSacks k13_334 (xdecL ok_C_writeSacks 3 rfl) (As := []) (rest := [.int v]) h2 neverM ⟨Nat.le_of_ble_eq_true rfl, Nat.le_of_ble_eq_true rfl⟩ rfl (Nat.le_of_ble_eq_true rfl) wp2 0 m0 rfl rfl ⟨(show ck + 0 + 0 ≤ 601024 by omega), (show sk + 0 + 0 ≤ 7293034 by omega)⟩ ?_
  rintro w M'' hz
  cases hz
  refine BdL.seg hF ok_C_writeSacks 4 [] rfl ⟨fun _ => (show BdL X 2666 (L0 X hx hm ho i) [] (MM' ++ (oC X ho g :: M')) (ck + 0 + 0) (sk + 0 + 0) from ?_), fun c => absurd rfl c⟩
  exact BdL.pm wp3 (BdL.wide (by omega) (by omega) (hk _ _ _ g hI2))
def tb_C_outputByte : List (Nat × List xI) := [(2472, [(.aload_n 1, [], 0), (.aload_n 0, [], 0), (.iload 4, [], 0), (.iconst 1, [], 1), (.iadd, [], 0)]), (2478, [(.iaload, [], 0)]), (2479, [(.invokevirtual 335, [], 0)]), (2482, [(.aload_n 2, [], 0), (.aload_n 0, [], 0), (.iload 4, [], 0), (.iconst 1, [], 1), (.iadd, [], 0)]), (2488, [(.iaload, [], 0)]), (2489, [(.invokevirtual 338, [], 0)]), (2492, [(.if_icmp .eq 174, [], 0)])]
set_option maxRecDepth 100000 in
theorem ok_C_outputByte : ∀ q ∈ tb_C_outputByte, (xChks (yLw "law") q.1 q.2 && xNoPut q.2) = true := by decide +kernel
set_option maxRecDepth 100000 in
theorem case_outputByte {X : LX} {hx hm ho ck sk : Nat} {e0 i : Int32} {g : Nat → Int64} {MX MM : va_W} (hF : LF X) (hin : ∀ j : Int32, 0 ≤ j → j ≤ 5 → vp_in (i + j) X.n) (hI : INV X.E hx hm e0 MX MM) (hc : ck + 16 ≤ 601024) (hs : sk + 159 ≤ 7293034) (hk : KN X hx hm ho i ck sk) : BdL X 2472 (L0 X hx hm ho i) [] (WL X ho g MX MM) ck sk := by
  obtain ⟨MM', v, -, h1, h2⟩ := op_outputByte (Nat.le_refl 400000) hI (X.xs (i + 1).toNatClampNeg)
  obtain ⟨⟨vs, x0⟩, ⟨ws, m0⟩⟩ := hI.x0
  refine BdL.seg hF ok_C_outputByte 0 [] rfl (show BdL X 2478 (L0 X hx hm ho i) (.int (i + 1) :: .ref X.b :: [.ref hx]) (WL X ho g MX MM) ck sk from ?_)
  refine BdL.sld hF (xdecL ok_C_outputByte 1 rfl) (hin 1 (by decide) (by decide)) ?_
  refine BdL.callV hF oX11_outputByte vX11_outputByte nX11_outputByte k13_335 (xdecL ok_C_outputByte 2 rfl) (As := [.int (X.xs (i + 1).toNatClampNeg)]) (rest := []) h1 never ⟨Nat.le_of_ble_eq_true rfl, Nat.le_of_ble_eq_true rfl⟩ rfl (Nat.le_of_ble_eq_true rfl) wp1 0 x0 rfl rfl ⟨(show ck + 0 ≤ 601024 by omega), (show sk + 0 ≤ 7293034 by omega)⟩ ?_
  rintro w M' ⟨MX', hI2, hz⟩
  cases hz
  refine BdL.seg hF ok_C_outputByte 3 [] rfl (show BdL X 2488 (L0 X hx hm ho i) (.int (i + 1) :: .ref X.b :: [.ref hm, .int v]) (M' ++ (oC X ho g :: MM)) (ck + 0) (sk + 0) from ?_)
  refine BdL.sld hF (xdecL ok_C_outputByte 4 rfl) (hin 1 (by decide) (by decide)) ?_
  refine BdL.callV hF oX12_outputByte vX12_outputByte nX12_outputByte k13_338 (xdecL ok_C_outputByte 5 rfl) (As := [.int (X.xs (i + 1).toNatClampNeg)]) (rest := [.int v]) h2 neverM ⟨Nat.le_of_ble_eq_true rfl, Nat.le_of_ble_eq_true rfl⟩ rfl (Nat.le_of_ble_eq_true rfl) wp2 0 m0 rfl rfl ⟨(show ck + 0 + 0 ≤ 601024 by omega), (show sk + 0 + 0 ≤ 7293034 by omega)⟩ ?_
  rintro w M'' hz
  cases hz
  refine BdL.seg hF ok_C_outputByte 6 [] rfl ⟨fun _ => (show BdL X 2666 (L0 X hx hm ho i) [] (MM' ++ (oC X ho g :: M')) (ck + 0 + 0) (sk + 0 + 0) from ?_), fun c => absurd rfl c⟩
  exact BdL.pm wp3 (BdL.wide (by omega) (by omega) (hk _ _ _ g hI2))
def tb_C_undoCount : List (Nat × List xI) := [(2497, [(.aload_n 1, [], 0)]), (2498, [(.invokevirtual 339, [], 0)]), (2501, [(.aload_n 2, [], 0)]), (2502, [(.invokevirtual 342, [], 0)]), (2505, [(.if_icmp .eq 161, [], 0)])]
set_option maxRecDepth 100000 in
theorem ok_C_undoCount : ∀ q ∈ tb_C_undoCount, (xChks (yLw "law") q.1 q.2 && xNoPut q.2) = true := by decide +kernel
set_option maxRecDepth 100000 in
theorem case_undoCount {X : LX} {hx hm ho ck sk : Nat} {e0 i : Int32} {g : Nat → Int64} {MX MM : va_W} (hF : LF X) (hin : ∀ j : Int32, 0 ≤ j → j ≤ 5 → vp_in (i + j) X.n) (hI : INV X.E hx hm e0 MX MM) (hc : ck + 16 ≤ 601024) (hs : sk + 159 ≤ 7293034) (hk : KN X hx hm ho i ck sk) : BdL X 2497 (L0 X hx hm ho i) [] (WL X ho g MX MM) ck sk := by
  obtain ⟨MM', v, -, h1, h2⟩ := op_undoCount (Nat.le_refl 400000) hI
  obtain ⟨⟨vs, x0⟩, ⟨ws, m0⟩⟩ := hI.x0
  refine BdL.seg hF ok_C_undoCount 0 [] rfl (show BdL X 2498 (L0 X hx hm ho i) [.ref hx] (WL X ho g MX MM) ck sk from ?_)
  refine BdL.callV hF oX11_undoCount vX11_undoCount nX11_undoCount k13_339 (xdecL ok_C_undoCount 1 rfl) (As := []) (rest := []) h1 never ⟨Nat.le_of_ble_eq_true rfl, Nat.le_of_ble_eq_true rfl⟩ rfl (Nat.le_of_ble_eq_true rfl) wp1 0 x0 rfl rfl ⟨(show ck + 0 ≤ 601024 by omega), (show sk + 0 ≤ 7293034 by omega)⟩ ?_
  rintro w M' ⟨MX', hI2, hz⟩
  cases hz
  refine BdL.seg hF ok_C_undoCount 2 [] rfl (show BdL X 2502 (L0 X hx hm ho i) [.ref hm, .int v] (M' ++ (oC X ho g :: MM)) (ck + 0) (sk + 0) from ?_)
  refine BdL.callV hF oX12_undoCount vX12_undoCount nX12_undoCount k13_342 (xdecL ok_C_undoCount 3 rfl) (As := []) (rest := [.int v]) h2 neverM ⟨Nat.le_of_ble_eq_true rfl, Nat.le_of_ble_eq_true rfl⟩ rfl (Nat.le_of_ble_eq_true rfl) wp2 0 m0 rfl rfl ⟨(show ck + 0 + 0 ≤ 601024 by omega), (show sk + 0 + 0 ≤ 7293034 by omega)⟩ ?_
  rintro w M'' hz
  cases hz
  refine BdL.seg hF ok_C_undoCount 4 [] rfl ⟨fun _ => (show BdL X 2666 (L0 X hx hm ho i) [] (MM' ++ (oC X ho g :: M')) (ck + 0 + 0) (sk + 0 + 0) from ?_), fun c => absurd rfl c⟩
  exact BdL.pm wp3 (BdL.wide (by omega) (by omega) (hk _ _ _ g hI2))
def tb_C_undo : List (Nat × List xI) := [(2510, [(.aload_n 1, [], 0), (.aload_n 3, [], 0)]), (2512, [(.invokestatic 343, [], 0)]), (2515, [(.istore 5, [], 0), (.aload_n 2, [], 0)]), (2518, [(.invokevirtual 346, [], 0)]), (2521, [(.istore 6, [], 0), (.aload_n 2, [], 0)]), (2524, [(.invokevirtual 128, [], 0)]), (2527, [(.iload 5, [], 0), (.if_icmp .eq 5, [], 0)]), (2534, [(.iload 5, [], 0), (.ifCond .ne 15, [], 0)]), (2551, [(.goto 115, [], 0)]), (2539, [(.aload_n 3, [], 0), (.iconst 0, [], 0), (.laload, [], 0), (.iload 6, [], 0), (.i2l, [], 0), (.lcmp, [], 0), (.ifCond .eq 5, [], 0)])]
set_option maxRecDepth 100000 in
theorem ok_C_undo : ∀ q ∈ tb_C_undo, (xChks (yLw "law") q.1 q.2 && xNoPut q.2) = true := by decide +kernel
set_option maxRecDepth 100000 in
theorem case_undo {X : LX} {hx hm ho ck sk : Nat} {e0 i : Int32} {g : Nat → Int64} {MX MM : va_W} (hF : LF X) (hin : ∀ j : Int32, 0 ≤ j → j ≤ 5 → vp_in (i + j) X.n) (hI : INV X.E hx hm e0 MX MM) (hc : ck + 16 ≤ 601024) (hs : sk + 159 ≤ 7293034) (hk : KN X hx hm ho i ck sk) : BdL X 2510 (L0 X hx hm ho i) [] (WL X ho g MX MM) ck sk := by
  obtain ⟨MM', k, v, e, ha, h1, h2⟩ := op_undo (Nat.le_refl 400000) hI
  obtain ⟨-, ⟨ws, m0⟩⟩ := hI.x0
  refine BdL.seg hF ok_C_undo 0 [] rfl (show BdL X 2512 [some (.ref X.b), some (.ref hx), some (.ref hm), some (.ref ho), some (.int i), none, none, none, none] (.ref ho :: [.ref hx]) (WL X ho g MX MM) ck sk from ?_)
  refine BdL.callH hF wL_undo vL_undo ini13 xpl13.2 nL_undo kL_undo (xdecL ok_C_undo 1 rfl) (As := [.ref hx, .ref ho]) (rest := []) (Mc := oC X ho g :: MX) (Rest := MM) (s_L_undo g h1 ha hI.x0.1) ⟨Nat.le_of_ble_eq_true rfl, Nat.le_of_ble_eq_true rfl⟩ rfl (Nat.le_of_ble_eq_true rfl) (List.Perm.refl _) ⟨(show ck + 1 ≤ 601024 by omega), (show sk + 6 ≤ 7293034 by omega)⟩ ?_
  rintro w M' ⟨MX', g', hI2, hg, hz⟩
  cases hz
  refine BdL.seg hF ok_C_undo 2 [] rfl ⟨Nat.le_of_ble_eq_true rfl, (show BdL X 2518 [some (.ref X.b), some (.ref hx), some (.ref hm), some (.ref ho), some (.int i), some (.int e), none, none, none] [.ref hm] (oC X ho g' :: MX' ++ MM) (ck + 1) (sk + 6) from ?_)⟩
  refine BdL.callV hF oX12_undo vX12_undo nX12_undo k13_346 (xdecL ok_C_undo 3 rfl) (As := []) (rest := []) h2 neverM ⟨Nat.le_of_ble_eq_true rfl, Nat.le_of_ble_eq_true rfl⟩ rfl (Nat.le_of_ble_eq_true rfl) wp4 0 m0 rfl rfl ⟨(show ck + 1 + 0 ≤ 601024 by omega), (show sk + 6 + 0 ≤ 7293034 by omega)⟩ ?_
  rintro w M'' hz
  cases hz
  obtain ⟨-, ⟨ws2, m1⟩⟩ := hI2.x0
  refine BdL.seg hF ok_C_undo 4 [] rfl ⟨Nat.le_of_ble_eq_true rfl, (show BdL X 2524 [some (.ref X.b), some (.ref hx), some (.ref hm), some (.ref ho), some (.int i), some (.int e), some (.int v), none, none] [.ref hm] (MM' ++ (oC X ho g' :: MX')) (ck + 1 + 0) (sk + 6 + 0) from ?_)⟩
  refine BdL.callV hF oX12_thrown vX12_thrown nX12_thrown k13_128 (xdecL ok_C_undo 5 rfl) (As := []) (rest := []) (op_thrown hI2) neverM ⟨Nat.le_of_ble_eq_true rfl, Nat.le_of_ble_eq_true rfl⟩ rfl (Nat.le_of_ble_eq_true rfl) (List.Perm.refl _) 0 m1 rfl rfl ⟨(show ck + 1 + 0 + 0 ≤ 601024 by omega), (show sk + 6 + 0 + 0 ≤ 7293034 by omega)⟩ ?_
  rintro w M'' hz
  cases hz
  refine BdL.pm wp3 ?_
  refine BdL.seg hF ok_C_undo 6 [] rfl ⟨fun _ => (show BdL X 2534 [some (.ref X.b), some (.ref hx), some (.ref hm), some (.ref ho), some (.int i), some (.int e), some (.int v), none, none] [] (oC X ho g' :: (MX' ++ MM')) (ck + 1 + 0 + 0) (sk + 6 + 0 + 0) from ?_), fun c => absurd rfl c⟩
  have hend : BdL X 2551 [some (.ref X.b), some (.ref hx), some (.ref hm), some (.ref ho), some (.int i), some (.int e), some (.int v), none, none] [] (oC X ho g' :: (MX' ++ MM')) (ck + 1 + 0 + 0) (sk + 6 + 0 + 0) := by
    refine BdL.seg hF ok_C_undo 8 [] rfl (show BdL X 2666 [some (.ref X.b), some (.ref hx), some (.ref hm), some (.ref ho), some (.int i), some (.int e), some (.int v), none, none] [] (oC X ho g' :: (MX' ++ MM')) (ck + 1 + 0 + 0) (sk + 6 + 0 + 0) from ?_)
    exact BdL.weak (BdL.wide (by omega) (by omega) (hk _ _ _ g' hI2)) ⟨rfl, rfl, rfl, rfl, rfl, trivial⟩
  refine BdL.seg hF ok_C_undo 7 [] rfl ⟨fun _ => hend, fun c0 => (show BdL X 2539 [some (.ref X.b), some (.ref hx), some (.ref hm), some (.ref ho), some (.int i), some (.int e), some (.int v), none, none] [] (oC X ho g' :: (MX' ++ MM')) (ck + 1 + 0 + 0) (sk + 6 + 0 + 0) from ?_)⟩
  have hg0 : g' (Int32.toNatClampNeg 0) = v.toInt64 := hg c0
  refine BdL.seg hF ok_C_undo 9 [0] rfl ⟨⟨rfl, rfl⟩, xg (by decide), fun _ => hend, fun c1 => absurd ?_ c1⟩
  rw [hg0]
  exact cmp0 _
def tb_C_save : List (Nat × List xI) := [(2554, [(.aload_n 1, [], 0), (.aload_n 0, [], 0), (.iload 4, [], 0), (.iconst 1, [], 1), (.iadd, [], 0)]), (2560, [(.iaload, [], 0)]), (2561, [(.aload_n 3, [], 0)]), (2562, [(.invokestatic 347, [], 0)]), (2565, [(.istore 5, [], 0), (.aload_n 2, [], 0), (.aload_n 0, [], 0), (.iload 4, [], 0), (.iconst 1, [], 1), (.iadd, [], 0)]), (2573, [(.iaload, [], 0)]), (2574, [(.invokevirtual 349, [], 0)]), (2577, [(.istore 6, [], 0), (.aload_n 2, [], 0)]), (2580, [(.invokevirtual 128, [], 0)]), (2583, [(.iload 5, [], 0), (.if_icmp .eq 5, [], 0)]), (2590, [(.iload 5, [], 0), (.ifCond .ne 15, [], 0)]), (2607, [(.goto 59, [], 0)]), (2595, [(.aload_n 3, [], 0), (.iconst 0, [], 0), (.laload, [], 0), (.iload 6, [], 0), (.i2l, [], 0), (.lcmp, [], 0), (.ifCond .eq 5, [], 0)])]
set_option maxRecDepth 100000 in
theorem ok_C_save : ∀ q ∈ tb_C_save, (xChks (yLw "law") q.1 q.2 && xNoPut q.2) = true := by decide +kernel
set_option maxRecDepth 100000 in
theorem case_save {X : LX} {hx hm ho ck sk : Nat} {e0 i : Int32} {g : Nat → Int64} {MX MM : va_W} (hF : LF X) (hin : ∀ j : Int32, 0 ≤ j → j ≤ 5 → vp_in (i + j) X.n) (hI : INV X.E hx hm e0 MX MM) (hc : ck + 16 ≤ 601024) (hs : sk + 159 ≤ 7293034) (hk : KN X hx hm ho i ck sk) : BdL X 2554 (L0 X hx hm ho i) [] (WL X ho g MX MM) ck sk := by
  obtain ⟨MM', k, v, e, ha, h1, h2⟩ := op_save (Nat.le_refl 400000) hI (X.xs (i + 1).toNatClampNeg)
  obtain ⟨-, ⟨ws, m0⟩⟩ := hI.x0
  refine BdL.seg hF ok_C_save 0 [] rfl (show BdL X 2560 [some (.ref X.b), some (.ref hx), some (.ref hm), some (.ref ho), some (.int i), none, none, none, none] (.int (i + 1) :: .ref X.b :: [.ref hx]) (WL X ho g MX MM) ck sk from ?_)
  refine BdL.sld hF (xdecL ok_C_save 1 rfl) (hin 1 (by decide) (by decide)) ?_
  refine BdL.seg hF ok_C_save 2 [] rfl (show BdL X 2562 [some (.ref X.b), some (.ref hx), some (.ref hm), some (.ref ho), some (.int i), none, none, none, none] (.ref ho :: (.int (X.xs (i + 1).toNatClampNeg) :: [.ref hx])) (WL X ho g MX MM) ck sk from ?_)
  refine BdL.callH hF wL_save vL_save ini13 xpl13.2 nL_save kL_save (xdecL ok_C_save 3 rfl) (As := [.ref hx, .int (X.xs (i + 1).toNatClampNeg), .ref ho]) (rest := []) (Mc := oC X ho g :: MX) (Rest := MM) (s_L_save g h1 ha hI.x0.1) ⟨Nat.le_of_ble_eq_true rfl, Nat.le_of_ble_eq_true rfl⟩ rfl (Nat.le_of_ble_eq_true rfl) (List.Perm.refl _) ⟨(show ck + 15 ≤ 601024 by omega), (show sk + 153 ≤ 7293034 by omega)⟩ ?_
  rintro w M' ⟨MX', g', hI2, hg, hz⟩
  cases hz
  refine BdL.seg hF ok_C_save 4 [] rfl ⟨Nat.le_of_ble_eq_true rfl, (show BdL X 2573 [some (.ref X.b), some (.ref hx), some (.ref hm), some (.ref ho), some (.int i), some (.int e), none, none, none] (.int (i + 1) :: .ref X.b :: [.ref hm]) (oC X ho g' :: MX' ++ MM) (ck + 15) (sk + 153) from ?_)⟩
  refine BdL.sld hF (xdecL ok_C_save 5 rfl) (hin 1 (by decide) (by decide)) ?_
  refine BdL.callV hF oX12_save vX12_save nX12_save k13_349 (xdecL ok_C_save 6 rfl) (As := [.int (X.xs (i + 1).toNatClampNeg)]) (rest := []) h2 neverM ⟨Nat.le_of_ble_eq_true rfl, Nat.le_of_ble_eq_true rfl⟩ rfl (Nat.le_of_ble_eq_true rfl) wp4 0 m0 rfl rfl ⟨(show ck + 15 + 0 ≤ 601024 by omega), (show sk + 153 + 0 ≤ 7293034 by omega)⟩ ?_
  rintro w M'' hz
  cases hz
  obtain ⟨-, ⟨ws2, m1⟩⟩ := hI2.x0
  refine BdL.seg hF ok_C_save 7 [] rfl ⟨Nat.le_of_ble_eq_true rfl, (show BdL X 2580 [some (.ref X.b), some (.ref hx), some (.ref hm), some (.ref ho), some (.int i), some (.int e), some (.int v), none, none] [.ref hm] (MM' ++ (oC X ho g' :: MX')) (ck + 15 + 0) (sk + 153 + 0) from ?_)⟩
  refine BdL.callV hF oX12_thrown vX12_thrown nX12_thrown k13_128 (xdecL ok_C_save 8 rfl) (As := []) (rest := []) (op_thrown hI2) neverM ⟨Nat.le_of_ble_eq_true rfl, Nat.le_of_ble_eq_true rfl⟩ rfl (Nat.le_of_ble_eq_true rfl) (List.Perm.refl _) 0 m1 rfl rfl ⟨(show ck + 15 + 0 + 0 ≤ 601024 by omega), (show sk + 153 + 0 + 0 ≤ 7293034 by omega)⟩ ?_
  rintro w M'' hz
  cases hz
  refine BdL.pm wp3 ?_
  refine BdL.seg hF ok_C_save 9 [] rfl ⟨fun _ => (show BdL X 2590 [some (.ref X.b), some (.ref hx), some (.ref hm), some (.ref ho), some (.int i), some (.int e), some (.int v), none, none] [] (oC X ho g' :: (MX' ++ MM')) (ck + 15 + 0 + 0) (sk + 153 + 0 + 0) from ?_), fun c => absurd rfl c⟩
  have hend : BdL X 2607 [some (.ref X.b), some (.ref hx), some (.ref hm), some (.ref ho), some (.int i), some (.int e), some (.int v), none, none] [] (oC X ho g' :: (MX' ++ MM')) (ck + 15 + 0 + 0) (sk + 153 + 0 + 0) := by
    refine BdL.seg hF ok_C_save 11 [] rfl (show BdL X 2666 [some (.ref X.b), some (.ref hx), some (.ref hm), some (.ref ho), some (.int i), some (.int e), some (.int v), none, none] [] (oC X ho g' :: (MX' ++ MM')) (ck + 15 + 0 + 0) (sk + 153 + 0 + 0) from ?_)
    exact BdL.weak (BdL.wide (by omega) (by omega) (hk _ _ _ g' hI2)) ⟨rfl, rfl, rfl, rfl, rfl, trivial⟩
  refine BdL.seg hF ok_C_save 10 [] rfl ⟨fun _ => hend, fun c0 => (show BdL X 2595 [some (.ref X.b), some (.ref hx), some (.ref hm), some (.ref ho), some (.int i), some (.int e), some (.int v), none, none] [] (oC X ho g' :: (MX' ++ MM')) (ck + 15 + 0 + 0) (sk + 153 + 0 + 0) from ?_)⟩
  have hg0 : g' (Int32.toNatClampNeg 0) = v.toInt64 := hg c0
  refine BdL.seg hF ok_C_save 12 [0] rfl ⟨⟨rfl, rfl⟩, xg (by decide), fun _ => hend, fun c1 => absurd ?_ c1⟩
  rw [hg0]
  exact cmp0 _
def tb_C_restore : List (Nat × List xI) := [(2610, [(.aload_n 1, [], 0), (.aload_n 0, [], 0), (.iload 4, [], 0), (.iconst 1, [], 1), (.iadd, [], 0)]), (2616, [(.iaload, [], 0)]), (2617, [(.aload_n 3, [], 0)]), (2618, [(.invokestatic 350, [], 0)]), (2621, [(.istore 5, [], 0), (.aload_n 2, [], 0), (.aload_n 0, [], 0), (.iload 4, [], 0), (.iconst 1, [], 1), (.iadd, [], 0)]), (2629, [(.iaload, [], 0)]), (2630, [(.invokevirtual 352, [], 0)]), (2633, [(.istore 6, [], 0), (.aload_n 2, [], 0)]), (2636, [(.invokevirtual 128, [], 0)]), (2639, [(.iload 5, [], 0), (.if_icmp .eq 5, [], 0)]), (2646, [(.iload 5, [], 0), (.ifCond .ne 15, [], 0)]), (2663, [(.goto 3, [], 0)]), (2651, [(.aload_n 3, [], 0), (.iconst 0, [], 0), (.laload, [], 0), (.iload 6, [], 0), (.i2l, [], 0), (.lcmp, [], 0), (.ifCond .eq 5, [], 0)])]
set_option maxRecDepth 100000 in
theorem ok_C_restore : ∀ q ∈ tb_C_restore, (xChks (yLw "law") q.1 q.2 && xNoPut q.2) = true := by decide +kernel
set_option maxRecDepth 100000 in
theorem case_restore {X : LX} {hx hm ho ck sk : Nat} {e0 i : Int32} {g : Nat → Int64} {MX MM : va_W} (hF : LF X) (hin : ∀ j : Int32, 0 ≤ j → j ≤ 5 → vp_in (i + j) X.n) (hI : INV X.E hx hm e0 MX MM) (hc : ck + 16 ≤ 601024) (hs : sk + 159 ≤ 7293034) (hk : KN X hx hm ho i ck sk) : BdL X 2610 (L0 X hx hm ho i) [] (WL X ho g MX MM) ck sk := by
  obtain ⟨MM', k, v, e, ha, h1, h2⟩ := op_restore (Nat.le_refl 400000) hI (X.xs (i + 1).toNatClampNeg)
  obtain ⟨-, ⟨ws, m0⟩⟩ := hI.x0
  refine BdL.seg hF ok_C_restore 0 [] rfl (show BdL X 2616 [some (.ref X.b), some (.ref hx), some (.ref hm), some (.ref ho), some (.int i), none, none, none, none] (.int (i + 1) :: .ref X.b :: [.ref hx]) (WL X ho g MX MM) ck sk from ?_)
  refine BdL.sld hF (xdecL ok_C_restore 1 rfl) (hin 1 (by decide) (by decide)) ?_
  refine BdL.seg hF ok_C_restore 2 [] rfl (show BdL X 2618 [some (.ref X.b), some (.ref hx), some (.ref hm), some (.ref ho), some (.int i), none, none, none, none] (.ref ho :: (.int (X.xs (i + 1).toNatClampNeg) :: [.ref hx])) (WL X ho g MX MM) ck sk from ?_)
  refine BdL.callH hF wL_restore vL_restore ini13 xpl13.2 nL_restore kL_restore (xdecL ok_C_restore 3 rfl) (As := [.ref hx, .int (X.xs (i + 1).toNatClampNeg), .ref ho]) (rest := []) (Mc := oC X ho g :: MX) (Rest := MM) (s_L_restore g h1 ha hI.x0.1) ⟨Nat.le_of_ble_eq_true rfl, Nat.le_of_ble_eq_true rfl⟩ rfl (Nat.le_of_ble_eq_true rfl) (List.Perm.refl _) ⟨(show ck + 2 ≤ 601024 by omega), (show sk + 12 ≤ 7293034 by omega)⟩ ?_
  rintro w M' ⟨MX', g', hI2, hg, hz⟩
  cases hz
  refine BdL.seg hF ok_C_restore 4 [] rfl ⟨Nat.le_of_ble_eq_true rfl, (show BdL X 2629 [some (.ref X.b), some (.ref hx), some (.ref hm), some (.ref ho), some (.int i), some (.int e), none, none, none] (.int (i + 1) :: .ref X.b :: [.ref hm]) (oC X ho g' :: MX' ++ MM) (ck + 2) (sk + 12) from ?_)⟩
  refine BdL.sld hF (xdecL ok_C_restore 5 rfl) (hin 1 (by decide) (by decide)) ?_
  refine BdL.callV hF oX12_restore vX12_restore nX12_restore k13_352 (xdecL ok_C_restore 6 rfl) (As := [.int (X.xs (i + 1).toNatClampNeg)]) (rest := []) h2 neverM ⟨Nat.le_of_ble_eq_true rfl, Nat.le_of_ble_eq_true rfl⟩ rfl (Nat.le_of_ble_eq_true rfl) wp4 0 m0 rfl rfl ⟨(show ck + 2 + 0 ≤ 601024 by omega), (show sk + 12 + 0 ≤ 7293034 by omega)⟩ ?_
  rintro w M'' hz
  cases hz
  obtain ⟨-, ⟨ws2, m1⟩⟩ := hI2.x0
  refine BdL.seg hF ok_C_restore 7 [] rfl ⟨Nat.le_of_ble_eq_true rfl, (show BdL X 2636 [some (.ref X.b), some (.ref hx), some (.ref hm), some (.ref ho), some (.int i), some (.int e), some (.int v), none, none] [.ref hm] (MM' ++ (oC X ho g' :: MX')) (ck + 2 + 0) (sk + 12 + 0) from ?_)⟩
  refine BdL.callV hF oX12_thrown vX12_thrown nX12_thrown k13_128 (xdecL ok_C_restore 8 rfl) (As := []) (rest := []) (op_thrown hI2) neverM ⟨Nat.le_of_ble_eq_true rfl, Nat.le_of_ble_eq_true rfl⟩ rfl (Nat.le_of_ble_eq_true rfl) (List.Perm.refl _) 0 m1 rfl rfl ⟨(show ck + 2 + 0 + 0 ≤ 601024 by omega), (show sk + 12 + 0 + 0 ≤ 7293034 by omega)⟩ ?_
  rintro w M'' hz
  cases hz
  refine BdL.pm wp3 ?_
  refine BdL.seg hF ok_C_restore 9 [] rfl ⟨fun _ => (show BdL X 2646 [some (.ref X.b), some (.ref hx), some (.ref hm), some (.ref ho), some (.int i), some (.int e), some (.int v), none, none] [] (oC X ho g' :: (MX' ++ MM')) (ck + 2 + 0 + 0) (sk + 12 + 0 + 0) from ?_), fun c => absurd rfl c⟩
  have hend : BdL X 2663 [some (.ref X.b), some (.ref hx), some (.ref hm), some (.ref ho), some (.int i), some (.int e), some (.int v), none, none] [] (oC X ho g' :: (MX' ++ MM')) (ck + 2 + 0 + 0) (sk + 12 + 0 + 0) := by
    refine BdL.seg hF ok_C_restore 11 [] rfl (show BdL X 2666 [some (.ref X.b), some (.ref hx), some (.ref hm), some (.ref ho), some (.int i), some (.int e), some (.int v), none, none] [] (oC X ho g' :: (MX' ++ MM')) (ck + 2 + 0 + 0) (sk + 12 + 0 + 0) from ?_)
    exact BdL.weak (BdL.wide (by omega) (by omega) (hk _ _ _ g' hI2)) ⟨rfl, rfl, rfl, rfl, rfl, trivial⟩
  refine BdL.seg hF ok_C_restore 10 [] rfl ⟨fun _ => hend, fun c0 => (show BdL X 2651 [some (.ref X.b), some (.ref hx), some (.ref hm), some (.ref ho), some (.int i), some (.int e), some (.int v), none, none] [] (oC X ho g' :: (MX' ++ MM')) (ck + 2 + 0 + 0) (sk + 12 + 0 + 0) from ?_)⟩
  have hg0 : g' (Int32.toNatClampNeg 0) = v.toInt64 := hg c0
  refine BdL.seg hF ok_C_restore 12 [0] rfl ⟨⟨rfl, rfl⟩, xg (by decide), fun _ => hend, fun c1 => absurd ?_ c1⟩
  rw [hg0]
  exact cmp0 _
