/-! MACHINE: the cases of the law, numbers with a point; the law's end and start -/
theorem BdL.f2d {X : LX} {pc : Nat} {L : xL} {st : List Value} {M : va_W} {ck sk : Nat} (hF : LF X) {a : UInt32} (hd : decode code pc = .ok (.f2d, 1)) (hn : vf_n64 (FP.f2d a)) (h : BdL X (pc + 1) L (.double (FP.f2d a) :: st) M ck sk) : BdL X pc L (.float a :: st) M ck sk := by
  intro H locs ls hP hD hS hl hLn
  obtain ⟨⟨hexec, hl0, hbt, hml, hown, hts, hlocks, hnm, hA, hKK, hG⟩, hX, hbl⟩ := hF
  exact lv_f2d hexec hbt hd hn (h H locs ls hP hD hS hl hLn)
theorem fq32a : (List.range 5).all (fun k => (List.range 5).all (fun m => decide (m = 0) || xnn64 (FP.f2d (FP.fdiv (FP.i2f (nI k)) (FP.i2f (nI m)))))) = true := by decide +kernel
theorem fq32 {k m : Nat} (hk : k ≤ 4) (hm : m ≤ 4) (h1 : 1 ≤ m) : vf_n64 (FP.f2d (FP.fdiv (FP.i2f (nI k)) (FP.i2f (nI m)))) := by
  have h := List.all_eq_true.mp (List.all_eq_true.mp fq32a k (List.mem_range.mpr (by omega))) m (List.mem_range.mpr (by omega))
  rw [Bool.or_eq_true] at h
  rcases h with h | h
  · exact absurd (of_decide_eq_true h) (by omega)
  · unfold xnn64 at h
    unfold vf_n64
    exact of_decide_eq_true h
set_option maxRecDepth 100000 in
theorem op_shareN {N : Nat} {E : xE} {hx hm : Nat} {e0 : Int32} {MX MM : va_W} (hN : 400000 ≤ N) (hI : INV E hx hm e0 MX MM) : ∃ (MM' : va_W) (v : UInt32), vf_n64 (FP.f2d v) ∧ SpP E mX11_loadedShare (xRm 2 43 0 0) [.ref hx] MX (fun z => ∃ MX', INV E hx hm 0 MX' MM' ∧ z = xOut (Sum.inr (some (.float v))) MX') ∧ SpP E mX12_loadedShare (xRm 4 86 0 0) [.ref hm] MM (fun z => z = .inl (some (.float v), MM')) := by
  refine hI.el ?_
  intro q s f t v1 f1 t1 v2 f2 t2 hc hf ol sl cm dp tl z ps kd st en ob fs ss vs sa ti tb P S p ud bu li at0 bg tk nb bd ba ec ep isd iso ord opn don wm wd again aside buffer isKept opened past slots text warm written h1 h2 hR
  subst h1 h2
  obtain ⟨⟨nf, ns, hQ⟩, hDI, ⟨u, fi, rfl, rfl, rfl, hP⟩, hS, ⟨L, hL, rfl, rfl, htx⟩, ⟨oa, hoa, rfl, rfl, hwr⟩, hz, hps⟩ := hR
  have hN1 : 1000 ≤ N := by omega
  have hle : cT (f 1) nf ≤ nf := cT_le (f 1) nf
  obtain ⟨v, h1, h2, hv⟩ : ∃ v, F_X11_loadedShare N (s 6) (f 1) = some v ∧ F_X12_loadedShare N e0 s = some (v, 0) ∧ vf_n64 (FP.f2d v) := ⟨_, (p_share hN1 hQ.1 e0).1, (p_share hN1 hQ.1 e0).2, fq32 (by have := hQ.1.1.2.2; omega) hQ.1.1.2.2 hQ.1.1.2.1⟩
  have hFx : F_X11_loadedShare N (s 6) (f 1) = some v := h1
  have hFm : F_X12_loadedShare N e0 s = some (v, 0) := h2
  refine ⟨WM E hm p s 0 (nI u) (nI L) li at0 bg tk nb bd ba ec ep isd iso ord opn don (nI oa) wd again aside buffer isKept opened past slots text warm written, v, hv, ?_, ?_⟩
  · exact SpP.op (K := (Sum.inr (some (.float v)))) (is := [0, 33, 35, 37]) (js := [1, 2, 3, 4, 5, 6, 7, 8, 9, 10, 11, 12, 13, 14, 15, 16, 17, 18, 19, 20, 21, 22, 23, 24, 25, 26, 27, 28, 29, 30, 31, 32, 34, 36, 38, 39, 40, 41, 42, 43, 44, 45, 46, 47, 48, 49, 50, 51, 52, 53, 54, 55, 56, 57, 58, 59]) (n := 60) (M2 := WXc E hx q s f t v1 f1 t1 v2 f2 t2 (nI u) (nI fi) (nI oa) sl cm dp (nI L) z ps kd st en ob fs ss vs sa ti tb P S) (s_X11_loadedShare (E := E) (h_this := hx) (h_this_draft := (q 28)) (h_this_forecast := (q 14)) (h_this_history := (q 42)) (h_this_house := (q 0)) (h_this_house_air := (q 1)) (h_this_house_floors := (q 2)) (h_this_house_floors_limit := (q 3)) (h_this_house_floors_mass := (q 4)) (h_this_house_floors_moisture := (q 5)) (h_this_house_floors_scorch := (q 6)) (h_this_house_sacks := (q 7)) (h_this_house_temperatures := (q 13)) (h_this_output := (q 56)) (h_this_script := (q 49)) (h_this_scriptReader := (q 53)) (h_this_setupReader := (q 48)) (h_this_text := (q 45)) (h_this_tokens := (q 47)) (N := N) (v_this_house_minute := (s 0)) (v_this_house_heat := (s 1)) (v_this_house_loadedMass := (s 8)) (v_this_house_dampedHeat := (s 12)) (v_this_house_vaneSteps := (s 13)) (v_this_house_floors_count := (s 6)) (f_this_house_floors_mass := (f 1)) (hF := hFx) (ho := rfl)) (by decide +kernel) rfl rfl rfl rfl rfl ⟨q, s, f, t, v1, f1, t1, v2, f2, t2, (nI u), (nI fi), (nI oa), sl, cm, dp, (nI L), z, ps, kd, st, en, ob, fs, ss, vs, sa, ti, tb, P, S, p, (nI u), (nI L), li, at0, bg, tk, nb, bd, ba, ec, ep, isd, iso, ord, opn, don, (nI oa), wd, again, aside, buffer, isKept, opened, past, slots, text, warm, written, rfl, rfl, ⟨nf, ns, hQ⟩, hDI, ⟨u, fi, rfl, rfl, rfl, hP⟩, hS, ⟨L, hL, rfl, rfl, htx⟩, ⟨oa, hoa, rfl, rfl, hwr⟩, hz, hps⟩
  · exact SpP.opM (is := [0, 7]) (js := [1, 2, 3, 4, 5, 6, 8, 9, 10, 11]) (n := 12) (s_X12_loadedShare (E := E) (h_this := hm) (h_this_again := (p 9)) (h_this_aside := (p 1)) (h_this_buffer := (p 6)) (h_this_isKept := (p 5)) (h_this_opened := (p 8)) (h_this_past := (p 2)) (h_this_s := (p 0)) (h_this_slots := (p 3)) (h_this_text := (p 7)) (h_this_warm := (p 4)) (h_this_written := (p 10)) (N := N) (v_this_undos := (nI u)) (v_this_thrown := e0) (v_this_buffered := (nI L)) (v_this_limit := li) (v_this_at := at0) (v_this_begin := bg) (v_this_token := tk) (v_this_number := nb) (v_this_bad := bd) (v_this_badAt := ba) (v_this_errorCode := ec) (v_this_errorPosition := ep) (v_this_word := wd) (v_this_isDoing := isd) (v_this_isOverNow := iso) (v_this_orders := ord) (v_this_open := opn) (v_this_done := don) (v_this_writtenMany := (nI oa)) (f_this_s := s) (hF := hFm) (ho := rfl)) (by decide +kernel) rfl rfl rfl rfl rfl
def tb_C_meanMoisture : List (Nat × List xI) := [(1684, [(.aload_n 1, [], 0)]), (1685, [(.invokevirtual 275, [], 0)]), (1688, [(.dstore 5, [], 0), (.aload_n 2, [], 0)]), (1691, [(.invokevirtual 279, [], 0)]), (1694, [(.dstore 7, [], 0)]), (1722, [(.goto 944, [], 0)]), (1696, [(.dload 5, [], 0), (.dload 7, [], 0), (.dcmp .l, [], 0), (.ifCond .eq 21, [], 0)]), (1704, [(.dload 5, [], 0), (.dload 5, [], 0), (.dcmp .l, [], 0), (.ifCond .eq 11, [], 0)]), (1712, [(.dload 7, [], 0), (.dload 7, [], 0), (.dcmp .l, [], 0), (.ifCond .ne 5, [], 0)])]
set_option maxRecDepth 100000 in
theorem ok_C_meanMoisture : ∀ q ∈ tb_C_meanMoisture, (xChks (yLw "law") q.1 q.2 && xNoPut q.2) = true := by decide +kernel
set_option maxRecDepth 100000 in
theorem case_meanMoisture {X : LX} {hx hm ho ck sk : Nat} {e0 i : Int32} {g : Nat → Int64} {MX MM : va_W} (hF : LF X) (hin : ∀ j : Int32, 0 ≤ j → j ≤ 5 → vp_in (i + j) X.n) (hI : INV X.E hx hm e0 MX MM) (hc : ck + 16 ≤ 601024) (hs : sk + 159 ≤ 7293034) (hk : KN X hx hm ho i ck sk) : BdL X 1684 (L0 X hx hm ho i) [] (WL X ho g MX MM) ck sk := by
  obtain ⟨MM', v, hv, h1, h2⟩ := op_meanMoisture (Nat.le_refl 400000) hI
  obtain ⟨⟨vs, x0⟩, ⟨ws, m0⟩⟩ := hI.x0
  refine BdL.seg hF ok_C_meanMoisture 0 [] rfl (show BdL X 1685 (L0 X hx hm ho i) [.ref hx] (WL X ho g MX MM) ck sk from ?_)
  refine BdL.callV hF oX11_meanMoisture vX11_meanMoisture nX11_meanMoisture k13_275 (xdecL ok_C_meanMoisture 1 rfl) (As := []) (rest := []) h1 never ⟨Nat.le_of_ble_eq_true rfl, Nat.le_of_ble_eq_true rfl⟩ rfl (Nat.le_of_ble_eq_true rfl) wp1 0 x0 rfl rfl ⟨(show ck + 0 ≤ 601024 by omega), (show sk + 0 ≤ 7293034 by omega)⟩ ?_
  rintro w M' ⟨MX', hI2, hz⟩
  cases hz
  refine BdL.seg hF ok_C_meanMoisture 2 [] rfl ⟨Nat.le_of_ble_eq_true rfl, (show BdL X 1691 [some (.ref X.b), some (.ref hx), some (.ref hm), some (.ref ho), some (.int i), some (.double v), none, none, none] [.ref hm] (M' ++ (oC X ho g :: MM)) (ck + 0) (sk + 0) from ?_)⟩
  refine BdL.callV hF oX12_meanMoisture vX12_meanMoisture nX12_meanMoisture k13_279 (xdecL ok_C_meanMoisture 3 rfl) (As := []) (rest := []) h2 neverM ⟨Nat.le_of_ble_eq_true rfl, Nat.le_of_ble_eq_true rfl⟩ rfl (Nat.le_of_ble_eq_true rfl) wp2 0 m0 rfl rfl ⟨(show ck + 0 + 0 ≤ 601024 by omega), (show sk + 0 + 0 ≤ 7293034 by omega)⟩ ?_
  rintro w M'' hz
  cases hz
  refine BdL.seg hF ok_C_meanMoisture 4 [] rfl ⟨Nat.le_of_ble_eq_true rfl, (show BdL X 1696 [some (.ref X.b), some (.ref hx), some (.ref hm), some (.ref ho), some (.int i), some (.double v), none, some (.double v), none] [] (MM' ++ (oC X ho g :: M')) (ck + 0 + 0) (sk + 0 + 0) from ?_)⟩
  have hend : BdL X 1722 [some (.ref X.b), some (.ref hx), some (.ref hm), some (.ref ho), some (.int i), some (.double v), none, some (.double v), none] [] (MM' ++ (oC X ho g :: M')) (ck + 0 + 0) (sk + 0 + 0) := by
    refine BdL.seg hF ok_C_meanMoisture 5 [] rfl (show BdL X 2666 [some (.ref X.b), some (.ref hx), some (.ref hm), some (.ref ho), some (.int i), some (.double v), none, some (.double v), none] [] (MM' ++ (oC X ho g :: M')) (ck + 0 + 0) (sk + 0 + 0) from ?_)
    exact BdL.weak (BdL.pm wp3 (BdL.wide (by omega) (by omega) (hk _ _ _ g hI2))) ⟨rfl, rfl, rfl, rfl, rfl, trivial⟩
  refine BdL.seg hF ok_C_meanMoisture 6 [] rfl ⟨fun _ => hend, fun c1 => (show BdL X 1704 [some (.ref X.b), some (.ref hx), some (.ref hm), some (.ref ho), some (.int i), some (.double v), none, some (.double v), none] [] (MM' ++ (oC X ho g :: M')) (ck + 0 + 0) (sk + 0 + 0) from ?_)⟩
  refine BdL.seg hF ok_C_meanMoisture 7 [] rfl ⟨fun c2 => absurd c2 c1, fun _ => (show BdL X 1712 [some (.ref X.b), some (.ref hx), some (.ref hm), some (.ref ho), some (.int i), some (.double v), none, some (.double v), none] [] (MM' ++ (oC X ho g :: M')) (ck + 0 + 0) (sk + 0 + 0) from ?_)⟩
  exact BdL.seg hF ok_C_meanMoisture 8 [] rfl ⟨fun _ => hend, fun c2 => absurd c2 c1⟩
def tb_C_loadedShare : List (Nat × List xI) := [(1725, [(.aload_n 1, [], 0)]), (1726, [(.invokevirtual 280, [], 0)]), (1729, [(.f2d, [], 0)]), (1730, [(.dstore 5, [], 0), (.aload_n 2, [], 0)]), (1733, [(.invokevirtual 284, [], 0)]), (1736, [(.f2d, [], 0)]), (1737, [(.dstore 7, [], 0)]), (1765, [(.goto 901, [], 0)]), (1739, [(.dload 5, [], 0), (.dload 7, [], 0), (.dcmp .l, [], 0), (.ifCond .eq 21, [], 0)]), (1747, [(.dload 5, [], 0), (.dload 5, [], 0), (.dcmp .l, [], 0), (.ifCond .eq 11, [], 0)]), (1755, [(.dload 7, [], 0), (.dload 7, [], 0), (.dcmp .l, [], 0), (.ifCond .ne 5, [], 0)])]
set_option maxRecDepth 100000 in
theorem ok_C_loadedShare : ∀ q ∈ tb_C_loadedShare, (xChks (yLw "law") q.1 q.2 && xNoPut q.2) = true := by decide +kernel
set_option maxRecDepth 100000 in
theorem case_loadedShare {X : LX} {hx hm ho ck sk : Nat} {e0 i : Int32} {g : Nat → Int64} {MX MM : va_W} (hF : LF X) (hin : ∀ j : Int32, 0 ≤ j → j ≤ 5 → vp_in (i + j) X.n) (hI : INV X.E hx hm e0 MX MM) (hc : ck + 16 ≤ 601024) (hs : sk + 159 ≤ 7293034) (hk : KN X hx hm ho i ck sk) : BdL X 1725 (L0 X hx hm ho i) [] (WL X ho g MX MM) ck sk := by
  obtain ⟨MM', v, hv, h1, h2⟩ := op_shareN (Nat.le_refl 400000) hI
  obtain ⟨⟨vs, x0⟩, ⟨ws, m0⟩⟩ := hI.x0
  refine BdL.seg hF ok_C_loadedShare 0 [] rfl (show BdL X 1726 (L0 X hx hm ho i) [.ref hx] (WL X ho g MX MM) ck sk from ?_)
  refine BdL.callV hF oX11_loadedShare vX11_loadedShare nX11_loadedShare k13_280 (xdecL ok_C_loadedShare 1 rfl) (As := []) (rest := []) h1 never ⟨Nat.le_of_ble_eq_true rfl, Nat.le_of_ble_eq_true rfl⟩ rfl (Nat.le_of_ble_eq_true rfl) wp1 0 x0 rfl rfl ⟨(show ck + 0 ≤ 601024 by omega), (show sk + 0 ≤ 7293034 by omega)⟩ ?_
  rintro w M' ⟨MX', hI2, hz⟩
  cases hz
  refine BdL.f2d hF (xdecL ok_C_loadedShare 2 rfl) hv ?_
  refine BdL.seg hF ok_C_loadedShare 3 [] rfl ⟨Nat.le_of_ble_eq_true rfl, (show BdL X 1733 [some (.ref X.b), some (.ref hx), some (.ref hm), some (.ref ho), some (.int i), some (.double (FP.f2d v)), none, none, none] [.ref hm] (M' ++ (oC X ho g :: MM)) (ck + 0) (sk + 0) from ?_)⟩
  refine BdL.callV hF oX12_loadedShare vX12_loadedShare nX12_loadedShare k13_284 (xdecL ok_C_loadedShare 4 rfl) (As := []) (rest := []) h2 neverM ⟨Nat.le_of_ble_eq_true rfl, Nat.le_of_ble_eq_true rfl⟩ rfl (Nat.le_of_ble_eq_true rfl) wp2 0 m0 rfl rfl ⟨(show ck + 0 + 0 ≤ 601024 by omega), (show sk + 0 + 0 ≤ 7293034 by omega)⟩ ?_
  rintro w M'' hz
  cases hz
  refine BdL.f2d hF (xdecL ok_C_loadedShare 5 rfl) hv ?_
  refine BdL.seg hF ok_C_loadedShare 6 [] rfl ⟨Nat.le_of_ble_eq_true rfl, (show BdL X 1739 [some (.ref X.b), some (.ref hx), some (.ref hm), some (.ref ho), some (.int i), some (.double (FP.f2d v)), none, some (.double (FP.f2d v)), none] [] (MM' ++ (oC X ho g :: M')) (ck + 0 + 0) (sk + 0 + 0) from ?_)⟩
  have hend : BdL X 1765 [some (.ref X.b), some (.ref hx), some (.ref hm), some (.ref ho), some (.int i), some (.double (FP.f2d v)), none, some (.double (FP.f2d v)), none] [] (MM' ++ (oC X ho g :: M')) (ck + 0 + 0) (sk + 0 + 0) := by
    refine BdL.seg hF ok_C_loadedShare 7 [] rfl (show BdL X 2666 [some (.ref X.b), some (.ref hx), some (.ref hm), some (.ref ho), some (.int i), some (.double (FP.f2d v)), none, some (.double (FP.f2d v)), none] [] (MM' ++ (oC X ho g :: M')) (ck + 0 + 0) (sk + 0 + 0) from ?_)
    exact BdL.weak (BdL.pm wp3 (BdL.wide (by omega) (by omega) (hk _ _ _ g hI2))) ⟨rfl, rfl, rfl, rfl, rfl, trivial⟩
  refine BdL.seg hF ok_C_loadedShare 8 [] rfl ⟨fun _ => hend, fun c1 => (show BdL X 1747 [some (.ref X.b), some (.ref hx), some (.ref hm), some (.ref ho), some (.int i), some (.double (FP.f2d v)), none, some (.double (FP.f2d v)), none] [] (MM' ++ (oC X ho g :: M')) (ck + 0 + 0) (sk + 0 + 0) from ?_)⟩
  refine BdL.seg hF ok_C_loadedShare 9 [] rfl ⟨fun c2 => absurd c2 c1, fun _ => (show BdL X 1755 [some (.ref X.b), some (.ref hx), some (.ref hm), some (.ref ho), some (.int i), some (.double (FP.f2d v)), none, some (.double (FP.f2d v)), none] [] (MM' ++ (oC X ho g :: M')) (ck + 0 + 0) (sk + 0 + 0) from ?_)⟩
  exact BdL.seg hF ok_C_loadedShare 10 [] rfl ⟨fun _ => hend, fun c2 => absurd c2 c1⟩
set_option maxRecDepth 100000 in
theorem op_init2 {E : xE} {hx : Nat} : ∃ (FX : va_W → Prop), SpP E mX11_init (xRm 9 192 59 1504) [.ref hx] [(hx, .inr (11, [.null, .null, .null, .null, .null, .null, .null, .null, .null, .null]))] (fun z => ∃ MX, FX MX ∧ z = .inl (none, MX)) ∧ ∀ hm : Nat, ∃ (FM : va_W → Prop), SpP E mX12_init (xRm 7 150 11 3274) [.ref hm] [(hm, .inr (12, [.null, .null, .null, .null, .null, .null, .int 0, .int 0, .null, .null, .int 0, .int 0, .int 0, .int 0, .int 0, .int 0, .int 0, .int 0, .int 0, .int 0, .long 0, .int 0, .int 0, .int 0, .int 0, .int 0, .null, .null, .null, .int 0]))] (fun z => ∃ MM, FM MM ∧ z = .inl (none, MM)) ∧ ∀ MX MM, FX MX → FM MM → INV E hx hm 0 MX MM := by
  obtain ⟨o, y, h1, h2, ⟨e1, e2, e3, e4⟩, ⟨c0, c1, c2, c3, c4, c5, c6, c7, c8, c9, c10, c11, c12, c13⟩, hQ⟩ := ini0
  refine ⟨fun MX => ∃ q : Nat → Nat, MX = WX E hx q (hxV (o.2.2.2.2.2.2.2.2.2.2.2.2.2.2.2.2.2.1) (o.2.2.2.2.2.2.2.2.2.2.2.2.2.2.2.1) (o.2.2.2.2.2.2.2.2.2.2.2.2.2.2.2.2.2.2.2.1) (o.2.2.2.2.2.2.2.2.2.2.2.2.2.2.2.2.2.2.2.2.2.1) (o.2.2.2.2.2.2.2.2.2.2.2.2.2.2.2.2.2.2.2.2.2.2.1) (o.2.2.2.2.2.2.2.2.2.2.2.2.2.2.2.2.2.2.2.2.1) (o.2.2.2.2.2.2.2.2.2.2.2.2.2.2.2.2.2.2.2.2.2.2.2.1) (o.2.2.2.2.2.2.2.2.2.2.2.2.2.2.2.2.2.2.2.2.2.2.2.2.2.2.2.2.2.1) (o.2.2.2.2.2.2.2.2.2.2.2.2.2.2.2.2.1) (o.2.2.2.2.2.2.2.2.2.2.2.2.2.2.2.2.2.2.2.2.2.2.2.2.2.2.2.2.2.2.2.1) (o.2.2.2.2.2.2.2.2.2.2.2.2.2.2.2.2.2.2.2.2.2.2.2.2.2.2.2.2.1) (o.2.2.2.2.2.2.2.2.2.2.2.2.2.2.2.2.2.2.2.2.2.2.2.2.2.2.2.2.2.2.1) (o.2.2.2.2.2.2.2.2.2.2.2.2.2.2.1) (o.2.2.2.2.2.2.2.2.2.2.2.2.2.2.2.2.2.2.1)) (hxF (o.2.2.2.2.2.2.2.2.2.2.2.2.2.2.2.2.2.2.2.2.2.2.2.2.1) (o.2.2.2.2.2.2.2.2.2.2.2.2.2.2.2.2.2.2.2.2.2.2.2.2.2.1) (o.2.2.2.2.2.2.2.2.2.2.2.2.2.2.2.2.2.2.2.2.2.2.2.2.2.2.1) (o.2.2.2.2.2.2.2.2.2.2.2.2.2.2.2.2.2.2.2.2.2.2.2.2.2.2.2.1) (o.2.2.2.2.2.2.2.2.2.2.2.2.2.2.2.2.2.2.2.2.2.2.2.2.2.2.2.2.2.2.2.2.2.2.2.1) (o.2.2.2.2.2.2.2.2.2.2.2.2.2.2.2.2.2.2.2.2.2.2.2.2.2.2.2.2.2.2.2.2.1) (o.2.2.2.2.2.2.2.2.2.2.2.2.2.2.2.2.2.2.2.2.2.2.2.2.2.2.2.2.2.2.2.2.2.1) (o.2.2.2.2.2.2.2.2.2.2.2.2.2.2.2.2.2.2.2.2.2.2.2.2.2.2.2.2.2.2.2.2.2.2.1) (o.2.2.2.2.2.2.2.2.2.2.2.2.2.2.2.2.2.2.2.2.2.2.2.2.2.2.2.2.2.2.2.2.2.2.2.2.1) (fun _ => 0)) ((fun _ => 0)) (hxV (0) (0) (0) (0) (0) (0) (0) (0) (0) (0) (0) (0) (0) (0)) (hxF ((fun _ => 0)) ((fun _ => 0)) ((fun _ => 0)) ((fun _ => 0)) ((fun _ => 0)) ((fun _ => 0)) ((fun _ => 0)) ((fun _ => 0)) ((fun _ => 0)) (fun _ => 0)) ((fun _ => 0)) (hxV (0) (o.2.2.1) (o.2.2.2.2.1) (o.2.2.2.2.2.2.1) (o.2.2.2.2.2.2.2.1) (o.2.2.2.2.2.1) (o.2.2.2.2.2.2.2.2.1) (0) (o.2.2.2.1) (0) (0) (0) (o.2.1) (0)) (hxF (o.2.2.2.2.2.2.2.2.2.1) (o.2.2.2.2.2.2.2.2.2.2.1) (o.2.2.2.2.2.2.2.2.2.2.2.1) (o.2.2.2.2.2.2.2.2.2.2.2.2.1) ((fun _ => 0)) ((fun _ => 0)) ((fun _ => 0)) ((fun _ => 0)) ((fun _ => 0)) (fun _ => 0)) ((fun _ => 0)) (o.2.2.2.2.2.2.2.2.2.2.2.2.2.1) (0) (0) (0) (0) (0) (o.2.2.2.2.2.2.2.2.2.2.2.2.2.2.2.2.2.2.2.2.2.2.2.2.2.2.2.2.2.2.2.2.2.2.2.2.2.1) (o.2.2.2.2.2.2.2.2.2.2.2.2.2.2.2.2.2.2.2.2.2.2.2.2.2.2.2.2.2.2.2.2.2.2.2.2.2.2.2.1) (o.2.2.2.2.2.2.2.2.2.2.2.2.2.2.2.2.2.2.2.2.2.2.2.2.2.2.2.2.2.2.2.2.2.2.2.2.2.2.2.2.2.2.1) (o.2.2.2.2.2.2.2.2.2.2.2.2.2.2.2.2.2.2.2.2.2.2.2.2.2.2.2.2.2.2.2.2.2.2.2.2.2.2.2.2.2.1) (o.2.2.2.2.2.2.2.2.2.2.2.2.2.2.2.2.2.2.2.2.2.2.2.2.2.2.2.2.2.2.2.2.2.2.2.2.2.2.2.2.2.2.2.1) (o.2.2.2.2.2.2.2.2.2.2.2.2.2.2.2.2.2.2.2.2.2.2.2.2.2.2.2.2.2.2.2.2.2.2.2.2.2.2.2.2.1) ((fun _ => 0)) ((fun _ => 0)) ((fun _ => 0)) ((fun _ => 0)) ((fun _ => 0)) ((fun _ => 0)) (o.2.2.2.2.2.2.2.2.2.2.2.2.2.2.2.2.2.2.2.2.2.2.2.2.2.2.2.2.2.2.2.2.2.2.2.2.2.2.1) (fun _ => none) xS0, (si_X11_init E hx 1000 o h1).out ?_, fun hm => ⟨fun MM => ∃ p : Nat → Nat, MM = WM E hm p y.2 0 0 0 0 0 0 0 0 0 0 0 (-1) 0 0 0 0 0 0 0 (fun _ => 0) (fun _ => 0) (fun _ => 0) (fun _ => 0) (fun _ => 0) (fun _ => 0) (fun _ => 0) (fun _ => 0) (fun _ => 0) (fun _ => 0), (si_X12_init E hm 1000 y h2).out ?_, ?_⟩⟩
  · intro z hz
    obtain ⟨q0, q1, q2, q3, q4, q5, q6, q7, q8, q9, q10, q11, q12, q13, q14, q15, q16, q17, q18, q19, q20, q21, q22, q23, q24, q25, q26, q27, q28, q29, q30, q31, q32, q33, q34, q35, q36, q37, q38, q39, q40, q41, q42, q43, q44, q45, q46, q47, q48, q49, q50, q51, q52, q53, q54, q55, q56, q57, q58, hz⟩ := hz
    exact ⟨_, ⟨(fun i => [q0, q1, q2, q3, q4, q5, q6, q7, q8, q9, q10, q11, q12, q13, q14, q15, q16, q17, q18, q19, q20, q21, q22, q23, q24, q25, q26, q27, q28, q29, q30, q31, q32, q33, q34, q35, q36, q37, q38, q39, q40, q41, q42, q43, q44, q46, q47, q48, q49, q50, q51, q52, q53, q54, q55, q56, q57, q58, q45].getD i 0), rfl⟩, hz⟩
  · intro z hz
    obtain ⟨p0, p1, p2, p3, p4, p5, p6, p7, p8, p9, p10, hz⟩ := hz
    exact ⟨_, ⟨(fun i => [p0, p1, p2, p3, p4, p5, p6, p7, p8, p9, p10].getD i 0), rfl⟩, hz⟩
  · rintro MX MM ⟨q, rfl⟩ ⟨p, rfl⟩
    have hs : ∀ j, j < 14 → (hxV (o.2.2.2.2.2.2.2.2.2.2.2.2.2.2.2.2.2.1) (o.2.2.2.2.2.2.2.2.2.2.2.2.2.2.2.1) (o.2.2.2.2.2.2.2.2.2.2.2.2.2.2.2.2.2.2.2.1) (o.2.2.2.2.2.2.2.2.2.2.2.2.2.2.2.2.2.2.2.2.2.1) (o.2.2.2.2.2.2.2.2.2.2.2.2.2.2.2.2.2.2.2.2.2.2.1) (o.2.2.2.2.2.2.2.2.2.2.2.2.2.2.2.2.2.2.2.2.1) (o.2.2.2.2.2.2.2.2.2.2.2.2.2.2.2.2.2.2.2.2.2.2.2.1) (o.2.2.2.2.2.2.2.2.2.2.2.2.2.2.2.2.2.2.2.2.2.2.2.2.2.2.2.2.2.1) (o.2.2.2.2.2.2.2.2.2.2.2.2.2.2.2.2.1) (o.2.2.2.2.2.2.2.2.2.2.2.2.2.2.2.2.2.2.2.2.2.2.2.2.2.2.2.2.2.2.2.1) (o.2.2.2.2.2.2.2.2.2.2.2.2.2.2.2.2.2.2.2.2.2.2.2.2.2.2.2.2.1) (o.2.2.2.2.2.2.2.2.2.2.2.2.2.2.2.2.2.2.2.2.2.2.2.2.2.2.2.2.2.2.1) (o.2.2.2.2.2.2.2.2.2.2.2.2.2.2.1) (o.2.2.2.2.2.2.2.2.2.2.2.2.2.2.2.2.2.2.1)) j = y.2 j := fun j hj => match j, hj with | 0, _ => c0 | 1, _ => c1 | 2, _ => c2 | 3, _ => c3 | 4, _ => c4 | 5, _ => c5 | 6, _ => c6 | 7, _ => c7 | 8, _ => c8 | 9, _ => c9 | 10, _ => c10 | 11, _ => c11 | 12, _ => c12 | 13, _ => c13
    exact ⟨q, y.2, (hxF (o.2.2.2.2.2.2.2.2.2.2.2.2.2.2.2.2.2.2.2.2.2.2.2.2.1) (o.2.2.2.2.2.2.2.2.2.2.2.2.2.2.2.2.2.2.2.2.2.2.2.2.2.1) (o.2.2.2.2.2.2.2.2.2.2.2.2.2.2.2.2.2.2.2.2.2.2.2.2.2.2.1) (o.2.2.2.2.2.2.2.2.2.2.2.2.2.2.2.2.2.2.2.2.2.2.2.2.2.2.2.1) (o.2.2.2.2.2.2.2.2.2.2.2.2.2.2.2.2.2.2.2.2.2.2.2.2.2.2.2.2.2.2.2.2.2.2.2.1) (o.2.2.2.2.2.2.2.2.2.2.2.2.2.2.2.2.2.2.2.2.2.2.2.2.2.2.2.2.2.2.2.2.1) (o.2.2.2.2.2.2.2.2.2.2.2.2.2.2.2.2.2.2.2.2.2.2.2.2.2.2.2.2.2.2.2.2.2.1) (o.2.2.2.2.2.2.2.2.2.2.2.2.2.2.2.2.2.2.2.2.2.2.2.2.2.2.2.2.2.2.2.2.2.2.1) (o.2.2.2.2.2.2.2.2.2.2.2.2.2.2.2.2.2.2.2.2.2.2.2.2.2.2.2.2.2.2.2.2.2.2.2.2.1) (fun _ => 0)), ((fun _ => 0)), (hxV (0) (0) (0) (0) (0) (0) (0) (0) (0) (0) (0) (0) (0) (0)), (hxF ((fun _ => 0)) ((fun _ => 0)) ((fun _ => 0)) ((fun _ => 0)) ((fun _ => 0)) ((fun _ => 0)) ((fun _ => 0)) ((fun _ => 0)) ((fun _ => 0)) (fun _ => 0)), ((fun _ => 0)), (hxV (0) (o.2.2.1) (o.2.2.2.2.1) (o.2.2.2.2.2.2.1) (o.2.2.2.2.2.2.2.1) (o.2.2.2.2.2.1) (o.2.2.2.2.2.2.2.2.1) (0) (o.2.2.2.1) (0) (0) (0) (o.2.1) (0)), (hxF (o.2.2.2.2.2.2.2.2.2.1) (o.2.2.2.2.2.2.2.2.2.2.1) (o.2.2.2.2.2.2.2.2.2.2.2.1) (o.2.2.2.2.2.2.2.2.2.2.2.2.1) ((fun _ => 0)) ((fun _ => 0)) ((fun _ => 0)) ((fun _ => 0)) ((fun _ => 0)) (fun _ => 0)), ((fun _ => 0)), (o.2.2.2.2.2.2.2.2.2.2.2.2.2.1), (0), (0), (0), (0), (0), (o.2.2.2.2.2.2.2.2.2.2.2.2.2.2.2.2.2.2.2.2.2.2.2.2.2.2.2.2.2.2.2.2.2.2.2.2.2.1), (o.2.2.2.2.2.2.2.2.2.2.2.2.2.2.2.2.2.2.2.2.2.2.2.2.2.2.2.2.2.2.2.2.2.2.2.2.2.2.2.1), (o.2.2.2.2.2.2.2.2.2.2.2.2.2.2.2.2.2.2.2.2.2.2.2.2.2.2.2.2.2.2.2.2.2.2.2.2.2.2.2.2.2.2.1), (o.2.2.2.2.2.2.2.2.2.2.2.2.2.2.2.2.2.2.2.2.2.2.2.2.2.2.2.2.2.2.2.2.2.2.2.2.2.2.2.2.2.1), (o.2.2.2.2.2.2.2.2.2.2.2.2.2.2.2.2.2.2.2.2.2.2.2.2.2.2.2.2.2.2.2.2.2.2.2.2.2.2.2.2.2.2.2.1), (o.2.2.2.2.2.2.2.2.2.2.2.2.2.2.2.2.2.2.2.2.2.2.2.2.2.2.2.2.2.2.2.2.2.2.2.2.2.2.2.2.1), ((fun _ => 0)), ((fun _ => 0)), ((fun _ => 0)), ((fun _ => 0)), ((fun _ => 0)), ((fun _ => 0)), (o.2.2.2.2.2.2.2.2.2.2.2.2.2.2.2.2.2.2.2.2.2.2.2.2.2.2.2.2.2.2.2.2.2.2.2.2.2.2.1), (fun _ => none), xS0, p, 0, 0, 0, 0, 0, 0, 0, 0, 0, 0, (-1), 0, 0, 0, 0, 0, 0, 0, (fun _ => 0), (fun _ => 0), (fun _ => 0), (fun _ => 0), (fun _ => 0), (fun _ => 0), (fun _ => 0), (fun _ => 0), (fun _ => 0), (fun _ => 0), WX_cong hs (fun _ _ => rfl) _ _ _ _ _ _ _ _ _ _ _ _ _ _ _ _ _ _ _ _ _ _ _ _ _ _ _ _ _, rfl, ⟨3, 0, hQ⟩, ⟨rfl, rfl, rfl, rfl, rfl, rfl⟩, ⟨0, 0, e1, rfl, rfl, by decide, by decide, fun k hk => absurd hk (Nat.not_lt_zero k)⟩, fun k _ => Or.inl ⟨rfl, if_pos rfl⟩, ⟨0, by decide, e4, rfl, fun i hi => absurd hi (Nat.not_lt_zero i)⟩, ⟨0, by decide, rfl, rfl, fun i hi => absurd hi (Nat.not_lt_zero i)⟩, e2, e3⟩
def tb_loop : List (Nat × List xI) := [(23, [(.iload 4, [], 0), (.aload_n 0, [], 0)]), (26, [(.arraylength, [], 0)]), (27, [(.bipush 6, [], 6), (.isub, [], 0), (.if_icmp .gt 2642, [], 0)]), (33, [(.aload_n 0, [], 0), (.iload 4, [], 0)]), (36, [(.iaload, [], 0)]), (37, [(.bipush 63, [], 63), (.iand, [], 0)]), (2666, [(.iinc 4 6, [], 6), (.goto (-2646), [], 0)]), (2672, [(.iconst 1, [], 1)])]
set_option maxRecDepth 100000 in
theorem ok_loop : ∀ q ∈ tb_loop, (xChks (yLw "law") q.1 q.2 && xNoPut q.2) = true := by decide +kernel
set_option maxRecDepth 100000 in
theorem d_sw : decode code 40 = .ok (.tableswitch 2626 0 62 #[268, 372, 428, 441, 454, 467, 480, 493, 506, 519, 532, 545, 558, 571, 584, 597, 653, 709, 772, 828, 884, 940, 1003, 1059, 1072, 1128, 1141, 1197, 1253, 1309, 1365, 1428, 1484, 1540, 1553, 1566, 1579, 1592, 1605, 1618, 1631, 1644, 1685, 1728, 1741, 1809, 1865, 1921, 1989, 2045, 2058, 2114, 2170, 2238, 2294, 2350, 2406, 2419, 2432, 2457, 2470, 2514, 2570], 268) := by decide +kernel
theorem d_ret : decode code 2673 = .ok (.ireturn, 1) := by decide +kernel
theorem and63 (x : Int32) : ∃ j, j < 64 ∧ x &&& 63 = nI j := by
  refine ⟨x.toBitVec.toNat % 64, Nat.mod_lt _ (by decide), ?_⟩
  apply Int32.toBitVec_inj.mp
  apply BitVec.eq_of_toNat_eq
  rw [Int32.toBitVec_and, BitVec.toNat_and]
  have h1 : ((63 : Int32).toBitVec).toNat = 2 ^ 6 - 1 := by decide
  rw [h1, Nat.and_two_pow_sub_one_eq_mod]
  have h2 : x.toBitVec.toNat % 2 ^ 6 < 2 ^ 6 := Nat.mod_lt _ (by decide)
  show _ = (BitVec.ofNat 32 _).toNat
  rw [BitVec.toNat_ofNat]
  omega
theorem cmpN {n k : Nat} (hn : n ≤ 3072) (hk : k ≤ 4000) : (Int32.ofNat n - 6 < nI k) ↔ n < k + 6 := by
  have h1 : (nI n).toInt = n := nI_toInt (by omega)
  have h2 : (nI k).toInt = k := nI_toInt (by omega)
  rw [Int32.lt_iff_toInt_lt, Int32.toInt_sub, h2]
  show ((nI n).toInt - (6 : Int32).toInt).bmod _ < _ ↔ _
  rw [h1, show (6 : Int32).toInt = 6 by decide, Int.bmod_eq_of_le (by omega) (by omega)]
  omega
theorem law_in {n t : Nat} (hn : n ≤ 3072) (h : 6 * t + 6 ≤ n) : ∀ j : Int32, 0 ≤ j → j ≤ 5 → vp_in (nI (6 * t) + j) n := by
  intro j h0 h5
  obtain ⟨q, hq, rfl⟩ := n_of (n := 5) (by decide) h0 h5
  rw [nI_add]
  exact xg (xin_nI (by omega) (by omega))
def LRt (X : LX) : Prop := ∀ (L : xL) (M : va_W) (ck sk : Nat), ck ≤ 601024 → sk ≤ 7293034 → BdL X 2673 L [.int 1] M ck sk
set_option maxRecDepth 100000 in
theorem law_turn {X : LX} {hx hm ho ck sk : Nat} {e0 v : Int32} {t j : Nat} {g : Nat → Int64} {MX MM : va_W} (hF : LF X) (hn : X.n ≤ 3072) (h6 : 6 * t + 6 ≤ X.n) (hI : INV X.E hx hm e0 MX MM) (hc : ck + 16 ≤ 601024) (hs : sk + 159 ≤ 7293034) (hk : KN X hx hm ho (nI (6 * t)) ck sk) (hj : j < 64) : BdL X 40 (L0 X hx hm ho (nI (6 * t))) [.int (nI j)] (WL X ho g MX MM) ck sk := by
  have hin := law_in hn h6
  match j, hj with
  | 0, _ => exact BdL.tabIn hF d_sw (by decide) (by decide) (off := 268) rfl rfl (case_append hF hin hI hc hs hk)
  | 1, _ => exact BdL.tabIn hF d_sw (by decide) (by decide) (off := 372) rfl rfl (case_truncate hF hin hI hc hs hk)
  | 2, _ => exact BdL.tabIn hF d_sw (by decide) (by decide) (off := 428) rfl rfl (case_load hF hin hI hc hs hk)
  | 3, _ => exact BdL.tabIn hF d_sw (by decide) (by decide) (off := 441) rfl rfl (case_runScript hF hin hI hc hs hk)
  | 4, _ => exact BdL.tabIn hF d_sw (by decide) (by decide) (off := 454) rfl rfl (case_errorCode hF hin hI hc hs hk)
  | 5, _ => exact BdL.tabIn hF d_sw (by decide) (by decide) (off := 467) rfl rfl (case_errorPosition hF hin hI hc hs hk)
  | 6, _ => exact BdL.tabIn hF d_sw (by decide) (by decide) (off := 480) rfl rfl (case_minute hF hin hI hc hs hk)
  | 7, _ => exact BdL.tabIn hF d_sw (by decide) (by decide) (off := 493) rfl rfl (case_heat hF hin hI hc hs hk)
  | 8, _ => exact BdL.tabIn hF d_sw (by decide) (by decide) (off := 506) rfl rfl (case_gear hF hin hI hc hs hk)
  | 9, _ => exact BdL.tabIn hF d_sw (by decide) (by decide) (off := 519) rfl rfl (case_windDirection hF hin hI hc hs hk)
  | 10, _ => exact BdL.tabIn hF d_sw (by decide) (by decide) (off := 532) rfl rfl (case_windStrength hF hin hI hc hs hk)
  | 11, _ => exact BdL.tabIn hF d_sw (by decide) (by decide) (off := 545) rfl rfl (case_vaneDirection hF hin hI hc hs hk)
  | 12, _ => exact BdL.tabIn hF d_sw (by decide) (by decide) (off := 558) rfl rfl (case_deviation hF hin hI hc hs hk)
  | 13, _ => exact BdL.tabIn hF d_sw (by decide) (by decide) (off := 571) rfl rfl (case_draught hF hin hI hc hs hk)
  | 14, _ => exact BdL.tabIn hF d_sw (by decide) (by decide) (off := 584) rfl rfl (case_floorCount hF hin hI hc hs hk)
  | 15, _ => exact BdL.tabIn hF d_sw (by decide) (by decide) (off := 597) rfl rfl (case_limitOf hF hin hI hc hs hk)
  | 16, _ => exact BdL.tabIn hF d_sw (by decide) (by decide) (off := 653) rfl rfl (case_temperatureOf hF hin hI hc hs hk)
  | 17, _ => exact BdL.tabIn hF d_sw (by decide) (by decide) (off := 709) rfl rfl (case_hasLoad hF hin hI hc hs hk)
  | 18, _ => exact BdL.tabIn hF d_sw (by decide) (by decide) (off := 772) rfl rfl (case_massOn hF hin hI hc hs hk)
  | 19, _ => exact BdL.tabIn hF d_sw (by decide) (by decide) (off := 828) rfl rfl (case_moistureOn hF hin hI hc hs hk)
  | 20, _ => exact BdL.tabIn hF d_sw (by decide) (by decide) (off := 884) rfl rfl (case_scorchOn hF hin hI hc hs hk)
  | 21, _ => exact BdL.tabIn hF d_sw (by decide) (by decide) (off := 940) rfl rfl (case_isDry hF hin hI hc hs hk)
  | 22, _ => exact BdL.tabIn hF d_sw (by decide) (by decide) (off := 1003) rfl rfl (case_dryingOn hF hin hI hc hs hk)
  | 23, _ => exact BdL.tabIn hF d_sw (by decide) (by decide) (off := 1059) rfl rfl (case_warmestFloor hF hin hI hc hs hk)
  | 24, _ => exact BdL.tabIn hF d_sw (by decide) (by decide) (off := 1072) rfl rfl (case_obstacleToLower hF hin hI hc hs hk)
  | 25, _ => exact BdL.tabIn hF d_sw (by decide) (by decide) (off := 1128) rfl rfl (case_sackCount hF hin hI hc hs hk)
  | 26, _ => exact BdL.tabIn hF d_sw (by decide) (by decide) (off := 1141) rfl rfl (case_sackState hF hin hI hc hs hk)
  | 27, _ => exact BdL.tabIn hF d_sw (by decide) (by decide) (off := 1197) rfl rfl (case_sackMass hF hin hI hc hs hk)
  | 28, _ => exact BdL.tabIn hF d_sw (by decide) (by decide) (off := 1253) rfl rfl (case_sackMoisture hF hin hI hc hs hk)
  | 29, _ => exact BdL.tabIn hF d_sw (by decide) (by decide) (off := 1309) rfl rfl (case_sackTemperature hF hin hI hc hs hk)
  | 30, _ => exact BdL.tabIn hF d_sw (by decide) (by decide) (off := 1365) rfl rfl (case_isSmouldering hF hin hI hc hs hk)
  | 31, _ => exact BdL.tabIn hF d_sw (by decide) (by decide) (off := 1428) rfl rfl (case_qualityOf hF hin hI hc hs hk)
  | 32, _ => exact BdL.tabIn hF d_sw (by decide) (by decide) (off := 1484) rfl rfl (case_priceOf hF hin hI hc hs hk)
  | 33, _ => exact BdL.tabIn hF d_sw (by decide) (by decide) (off := 1540) rfl rfl (case_smoulderingSacks hF hin hI hc hs hk)
  | 34, _ => exact BdL.tabIn hF d_sw (by decide) (by decide) (off := 1553) rfl rfl (case_hottestSack hF hin hI hc hs hk)
  | 35, _ => exact BdL.tabIn hF d_sw (by decide) (by decide) (off := 1566) rfl rfl (case_loadedMass hF hin hI hc hs hk)
  | 36, _ => exact BdL.tabIn hF d_sw (by decide) (by decide) (off := 1579) rfl rfl (case_soldMass hF hin hI hc hs hk)
  | 37, _ => exact BdL.tabIn hF d_sw (by decide) (by decide) (off := 1592) rfl rfl (case_burntMass hF hin hI hc hs hk)
  | 38, _ => exact BdL.tabIn hF d_sw (by decide) (by decide) (off := 1605) rfl rfl (case_income hF hin hI hc hs hk)
  | 39, _ => exact BdL.tabIn hF d_sw (by decide) (by decide) (off := 1618) rfl rfl (case_dampedHeat hF hin hI hc hs hk)
  | 40, _ => exact BdL.tabIn hF d_sw (by decide) (by decide) (off := 1631) rfl rfl (case_vaneSteps hF hin hI hc hs hk)
  | 41, _ => exact BdL.tabIn hF d_sw (by decide) (by decide) (off := 1644) rfl rfl (case_meanMoisture hF hin hI hc hs hk)
  | 42, _ => exact BdL.tabIn hF d_sw (by decide) (by decide) (off := 1685) rfl rfl (case_loadedShare hF hin hI hc hs hk)
  | 43, _ => exact BdL.tabIn hF d_sw (by decide) (by decide) (off := 1728) rfl rfl (case_contradictions hF hin hI hc hs hk)
  | 44, _ => exact BdL.tabIn hF d_sw (by decide) (by decide) (off := 1741) rfl rfl (case_temperatureAfter hF hin hI hc hs hk)
  | 45, _ => exact BdL.tabIn hF d_sw (by decide) (by decide) (off := 1809) rfl rfl (case_minutesUntilDry hF hin hI hc hs hk)
  | 46, _ => exact BdL.tabIn hF d_sw (by decide) (by decide) (off := 1865) rfl rfl (case_minutesUntilBurnt hF hin hI hc hs hk)
  | 47, _ => exact BdL.tabIn hF d_sw (by decide) (by decide) (off := 1921) rfl rfl (case_putLoad hF hin hI hc hs hk)
  | 48, _ => exact BdL.tabIn hF d_sw (by decide) (by decide) (off := 1989) rfl rfl (case_lower hF hin hI hc hs hk)
  | 49, _ => exact BdL.tabIn hF d_sw (by decide) (by decide) (off := 2045) rfl rfl (case_rotate hF hin hI hc hs hk)
  | 50, _ => exact BdL.tabIn hF d_sw (by decide) (by decide) (off := 2058) rfl rfl (case_setHeat hF hin hI hc hs hk)
  | 51, _ => exact BdL.tabIn hF d_sw (by decide) (by decide) (off := 2114) rfl rfl (case_setGear hF hin hI hc hs hk)
  | 52, _ => exact BdL.tabIn hF d_sw (by decide) (by decide) (off := 2170) rfl rfl (case_setWind hF hin hI hc hs hk)
  | 53, _ => exact BdL.tabIn hF d_sw (by decide) (by decide) (off := 2238) rfl rfl (case_sell hF hin hI hc hs hk)
  | 54, _ => exact BdL.tabIn hF d_sw (by decide) (by decide) (off := 2294) rfl rfl (case_quench hF hin hI hc hs hk)
  | 55, _ => exact BdL.tabIn hF d_sw (by decide) (by decide) (off := 2350) rfl rfl (case_advance hF hin hI hc hs hk)
  | 56, _ => exact BdL.tabIn hF d_sw (by decide) (by decide) (off := 2406) rfl rfl (case_writeFloors hF hin hI hc hs hk)
  | 57, _ => exact BdL.tabIn hF d_sw (by decide) (by decide) (off := 2419) rfl rfl (case_writeSacks hF hin hI hc hs hk)
  | 58, _ => exact BdL.tabIn hF d_sw (by decide) (by decide) (off := 2432) rfl rfl (case_outputByte hF hin hI hc hs hk)
  | 59, _ => exact BdL.tabIn hF d_sw (by decide) (by decide) (off := 2457) rfl rfl (case_undoCount hF hin hI hc hs hk)
  | 60, _ => exact BdL.tabIn hF d_sw (by decide) (by decide) (off := 2470) rfl rfl (case_undo hF hin hI hc hs hk)
  | 61, _ => exact BdL.tabIn hF d_sw (by decide) (by decide) (off := 2514) rfl rfl (case_save hF hin hI hc hs hk)
  | 62, _ => exact BdL.tabIn hF d_sw (by decide) (by decide) (off := 2570) rfl rfl (case_restore hF hin hI hc hs hk)
  | 63, _ => exact BdL.tabOut hF d_sw (Or.inr (by decide)) (tgt := 2666) rfl (BdL.wide (by omega) (by omega) (hk _ _ _ g hI))
  | j + 64, h => exact absurd h (by omega)
theorem law_loop {X : LX} {hx hm ho : Nat} (hF : LF X) (hn : X.n ≤ 3072) (hR : LRt X) : ∀ (k t : Nat) (e0 : Int32) (g : Nat → Int64) (MX MM : va_W), t + k ≤ 600 → X.n ≤ 6 * (t + k) + 5 → INV X.E hx hm e0 MX MM → BdL X 23 (L0 X hx hm ho (nI (6 * t))) [] (WL X ho g MX MM) (80 + 16 * t) (4832 + 159 * t) := by
  have hend : ∀ (t : Nat) (g : Nat → Int64) (MX MM : va_W), t ≤ 600 → BdL X 2672 (L0 X hx hm ho (nI (6 * t))) [] (WL X ho g MX MM) (80 + 16 * t) (4832 + 159 * t) := fun t g MX MM ht =>
    BdL.seg hF ok_loop 7 [] rfl (hR _ _ _ _ (by omega) (by omega))
  have hhead : ∀ (t : Nat) (g : Nat → Int64) (MX MM : va_W), t ≤ 600 → (6 * t + 6 ≤ X.n → BdL X 33 (L0 X hx hm ho (nI (6 * t))) [] (WL X ho g MX MM) (80 + 16 * t) (4832 + 159 * t)) → BdL X 23 (L0 X hx hm ho (nI (6 * t))) [] (WL X ho g MX MM) (80 + 16 * t) (4832 + 159 * t) := by
    intro t g MX MM ht h
    refine BdL.seg hF ok_loop 0 [] rfl (show BdL X 26 (L0 X hx hm ho (nI (6 * t))) [.ref X.b, .int (nI (6 * t))] (WL X ho g MX MM) (80 + 16 * t) (4832 + 159 * t) from ?_)
    refine BdL.slen hF (xdecL ok_loop 1 rfl) ?_
    refine BdL.seg hF ok_loop 2 [] rfl ⟨fun c => (show BdL X 2672 (L0 X hx hm ho (nI (6 * t))) [] (WL X ho g MX MM) (80 + 16 * t) (4832 + 159 * t) from hend t g MX MM ht), fun c => (show BdL X 33 (L0 X hx hm ho (nI (6 * t))) [] (WL X ho g MX MM) (80 + 16 * t) (4832 + 159 * t) from h ?_)⟩
    rw [cmpN hn (by omega)] at c
    omega
  intro k
  induction k with
  | zero =>
    intro t e0 g MX MM ht hX hI
    exact hhead t g MX MM (by omega) (fun h => by omega)
  | succ k ih =>
    intro t e0 g MX MM ht hX hI
    refine hhead t g MX MM (by omega) (fun h6 => ?_)
    refine BdL.seg hF ok_loop 3 [] rfl (show BdL X 36 (L0 X hx hm ho (nI (6 * t))) [.int (nI (6 * t)), .ref X.b] (WL X ho g MX MM) (80 + 16 * t) (4832 + 159 * t) from ?_)
    refine BdL.sld hF (xdecL ok_loop 4 rfl) (xg (xin_nI (by omega) (by omega))) ?_
    obtain ⟨j, hj, ej⟩ := and63 (X.xs (nI (6 * t)).toNatClampNeg)
    refine BdL.seg hF ok_loop 5 [] rfl (show BdL X 40 (L0 X hx hm ho (nI (6 * t))) [.int (X.xs (nI (6 * t)).toNatClampNeg &&& 63)] (WL X ho g MX MM) (80 + 16 * t) (4832 + 159 * t) from ?_)
    rw [ej]
    refine law_turn (v := 0) hF hn h6 hI (by omega) (by omega) ?_ hj
    intro e MX2 MM2 g2 hI2
    have hi : nI (6 * t) + 6 = nI (6 * (t + 1)) := by
      show nI (6 * t) + nI 6 = _
      rw [nI_add]
      rfl
    refine BdL.seg hF ok_loop 6 [] rfl (show BdL X 23 (L0 X hx hm ho (nI (6 * t) + 6)) [] (WL X ho g2 MX2 MM2) (80 + 16 * t + 16) (4832 + 159 * t + 159) from ?_)
    rw [hi]
    have := ih (t + 1) e g2 MX2 MM2 (by omega) (by omega) hI2
    exact BdL.wide (by omega) (by omega) this
