/-! appending a String constant, a letter; the constructor -/
section BVS
variable {E : xE} {y : xM} {R : Room} {mc ms : Nat} {O : xO → Prop} {pc : Nat} {L : xL} {st : List Value} {M : va_W} {ck sk : Nat}
/-- a call on a String constant, over cells ahead -/
theorem Bd.callVsa {y' : xM} {R' : Room} {As rest : List Value} {i idx : Nat} {Mc Rest : va_W} {O' : xO → Prop} (hi : i < 22) (hy : xMok y') (hv : xVok y') (hn : xNa y' As.length) (hlk : Cond.methodLink (xCn y.2.2.2.2) idx y'.1 ∈ xAll) (hd : decode y.2.1 pc = .ok (.invokevirtual idx, 3)) (hcls : y'.1.cls = "java/lang/String")
    (hsp : SpP E y' R' (.ref (E.2.2.1 i) :: As) Mc O') (hO : ∀ X M', ¬ O' (.inr (X, M'))) (hR : R'.frames + 1 ≤ R.frames ∧ 8 + (y'.2.2.1 + 11) + R'.locals ≤ R.locals) (hst : st = As.reverse ++ .ref (E.2.2.1 i) :: rest) (hcat : (rest.map fun v => v.category).sum ≤ 8)
    (hroom : ck + R'.cells ≤ R.cells ∧ sk + R'.slots ≤ R.slots) (kk : ∀ v M', O' (.inl (v, M')) → BdP E y R mc ms O (pc + 3) L (v.toList ++ rest) (M' ++ Rest) (ck + R'.cells) (sk + R'.slots)) : BdP E y R mc ms O pc L st (Mc ++ Rest) ck sk := by
  subst hst
  intro p l e s m args below meth c A H locs ls hF hr hx hP hD hS hl hLn
  obtain ⟨hexec, hl0, hbt, hml, hown, hts, hlocks, hnm0, hA, hKK, hG⟩ := id hF
  obtain ⟨⟨hbl, hpre⟩, hAc, hPc⟩ := x_pre2 (As := .ref (E.2.2.1 i) :: As) hKK hG hP hD hS hA
  have hrec := vk_recv hG.2.2.2.2.1.1 hi hS
  rw [← hcls] at hrec
  exact x_behind2 hF hr hx hP hD hS hl hLn hAc (vx_runV ⟨hexec, hbt, hml, hown, hts⟩ (hsp l H.size hl0) ⟨x_callB hts hy hn hlk hR, hts _ hv.1, hts _ hv.2⟩ ⟨hbl, hrec, hpre⟩ rfl rfl hl.1 rfl (lv_room hcat) hd hroom) (fun X M' h => absurd h (hO X M')) kk
end BVS
/-- the String constant k holds the text tx of w letters -/
def xTx (k w : Nat) (tx : Nat → Nat) : Prop := k < 22 ∧ xSlen.getD k 0 = w ∧ w ≤ 100 ∧ ∀ j, j < w → tx j < 128 ∧ (xSbyt.getD k []).getD j 0 = nI (tx j)
theorem fits128 {x : Nat} (h : x < 128) : fits .byte (.int (nI x)) = true := by
  have key : ∀ x : Fin 128, fits .byte (.int (nI x.val)) = true := by decide +kernel
  exact key ⟨x, h⟩
def tb_J0_getBytes_840e7 : List (Nat × List xI) := [(0, [(.aload_n 0, [], 0)]), (1, [(.invokevirtual 335, [], 0)]), (4, [(.iload_n 3, [], 0), (.if_icmp .ne 23, [], 0)]), (8, [(.aload_n 0, [], 0)]), (12, [(.iconst 0, [], 0), (.aload_n 1, [], 0), (.iload_n 2, [], 0), (.iload_n 3, [], 0)]), (16, [(.ishl, [], 0)]), (17, [(.aload_n 0, [], 0)]), (21, [(.arraylength, [], 0)]), (22, [(.invokestatic 212, [], 0)]), (25, [(.goto 18, [], 0)]), (43, [(.return_, [], 0)])]
set_option maxRecDepth 100000 in
theorem ok_J0_getBytes_840e7 : ∀ q ∈ tb_J0_getBytes_840e7, xChks mJ0_getBytes_840e7 q.1 q.2 = true := by decide +kernel
theorem nJ0_getBytes_840e7 : xNa mJ0_getBytes_840e7 3 := by delta xNa; decide +kernel
set_option maxHeartbeats 4000000 in
set_option maxRecDepth 100000 in
theorem s_J0_getBytes_840e7 (E : xE) (v cap k w d : Nat) (tx : Nat → Nat) (f : Nat → Int32) (hk : xTx k w tx) (hf : sb_Fit f) (hd : d + w ≤ cap) (hc : cap ≤ 1000) (O : xO → Prop) (ho : ∀ (f2 : Nat → Int32), (∀ j, j < d → f2 j = f j) → (∀ j, j < w → f2 (d + j) = nI (tx j)) → sb_Fit f2 → O (.inl (none, [(v, .inl (E.2.1.2.1.1, cap, .inl f2))]))) : SpP E mJ0_getBytes_840e7 (xRm 1 60 0 0) [.ref (E.2.2.1 k), .ref v, .int (nI d), .int 0] [(v, .inl (E.2.1.2.1.1, cap, .inl f))] O := by
  refine Sp.of oJ0_getBytes_840e7 (L := [some (.ref (E.2.2.1 k)), some (.ref v), some (.int (nI d)), some (.int 0)]) rfl rfl (Nat.le_of_ble_eq_true rfl) (show BdP E mJ0_getBytes_840e7 (xRm 1 60 0 0) 0 0 O 0 [some (.ref (E.2.2.1 k)), some (.ref v), some (.int (nI d)), some (.int 0)] [] [(v, .inl (E.2.1.2.1.1, cap, .inl f))] 0 0 from ?_)
  refine Bd.seg ok_J0_getBytes_840e7 0 [] rfl (show BdP E mJ0_getBytes_840e7 (xRm 1 60 0 0) 0 0 O 1 [some (.ref (E.2.2.1 k)), some (.ref v), some (.int (nI d)), some (.int 0)] [.ref (E.2.2.1 k)] [(v, .inl (E.2.1.2.1.1, cap, .inl f))] 0 0 from ?_)
  refine Bd.callVs hk.1 oJ0_coder_7d493 vJ0_coder_7d493 nJ0_coder_7d493 k14_335 (xdec ok_J0_getBytes_840e7 1 rfl) rfl (As := []) (rest := []) (s_J0_coder E k hk.1) ⟨(Nat.le_of_ble_eq_true rfl), (Nat.le_of_ble_eq_true rfl)⟩ rfl (Nat.le_of_ble_eq_true rfl) ⟨(Nat.le_of_ble_eq_true rfl), (Nat.le_of_ble_eq_true rfl)⟩ ?_
  show BdP E mJ0_getBytes_840e7 (xRm 1 60 0 0) 0 0 O 4 [some (.ref (E.2.2.1 k)), some (.ref v), some (.int (nI d)), some (.int 0)] [.int 0] [(v, .inl (E.2.1.2.1.1, cap, .inl f))] 0 0
  refine Bd.seg ok_J0_getBytes_840e7 2 [] rfl (And.intro (fun c9 => absurd (rfl) c9) (fun c9 => (show BdP E mJ0_getBytes_840e7 (xRm 1 60 0 0) 0 0 O 8 [some (.ref (E.2.2.1 k)), some (.ref v), some (.int (nI d)), some (.int 0)] [] [(v, .inl (E.2.1.2.1.1, cap, .inl f))] 0 0 from ?_)))
  refine Bd.seg ok_J0_getBytes_840e7 3 [] rfl (show BdP E mJ0_getBytes_840e7 (xRm 1 60 0 0) 0 0 O 9 [some (.ref (E.2.2.1 k)), some (.ref v), some (.int (nI d)), some (.int 0)] [.ref (E.2.2.1 k)] [(v, .inl (E.2.1.2.1.1, cap, .inl f))] 0 0 from ?_)
  refine Bd.strv hk.1 kf14_9 (by decide +kernel) ?_
  refine Bd.seg ok_J0_getBytes_840e7 4 [] rfl (show BdP E mJ0_getBytes_840e7 (xRm 1 60 0 0) 0 0 O 16 [some (.ref (E.2.2.1 k)), some (.ref v), some (.int (nI d)), some (.int 0)] [.int 0, .int (nI d), .ref v, .int 0, .ref (E.2.2.2 k)] [(v, .inl (E.2.1.2.1.1, cap, .inl f))] 0 0 from ?_)
  refine Bd.ishl (xdec ok_J0_getBytes_840e7 5 rfl) ?_
  rw [sb_shl0]
  show BdP E mJ0_getBytes_840e7 (xRm 1 60 0 0) 0 0 O 17 [some (.ref (E.2.2.1 k)), some (.ref v), some (.int (nI d)), some (.int 0)] [.int (nI d), .ref v, .int 0, .ref (E.2.2.2 k)] [(v, .inl (E.2.1.2.1.1, cap, .inl f))] 0 0
  refine Bd.seg ok_J0_getBytes_840e7 6 [] rfl (show BdP E mJ0_getBytes_840e7 (xRm 1 60 0 0) 0 0 O 18 [some (.ref (E.2.2.1 k)), some (.ref v), some (.int (nI d)), some (.int 0)] [.ref (E.2.2.1 k), .int (nI d), .ref v, .int 0, .ref (E.2.2.2 k)] [(v, .inl (E.2.1.2.1.1, cap, .inl f))] 0 0 from ?_)
  refine Bd.strv hk.1 kf14_9 (by decide +kernel) ?_
  refine Bd.tlen hk.1 (xdec ok_J0_getBytes_840e7 7 rfl) ?_
  rw [hk.2.1]
  show BdP E mJ0_getBytes_840e7 (xRm 1 60 0 0) 0 0 O 22 [some (.ref (E.2.2.1 k)), some (.ref v), some (.int (nI d)), some (.int 0)] [.int (nI w), .int (nI d), .ref v, .int 0, .ref (E.2.2.2 k)] [(v, .inl (E.2.1.2.1.1, cap, .inl f))] 0 0
  refine Bd.copyt 0 hk.1 (xm4 (n := 58) rfl rfl) rfl (by decide) (nI_pos (by omega)) (nI_pos (by have := hk.2.2.1; omega)) (by rw [nI_clamp (by have := hk.2.2.1; omega), tnz, hk.2.1]; omega) (by rw [nI_clamp (by omega), nI_clamp (by have := hk.2.2.1; omega)]; omega) (fun j hj => by rw [nI_clamp (by have := hk.2.2.1; omega)] at hj; rw [tnz, Nat.zero_add, (hk.2.2.2 j hj).2]; exact fits128 (hk.2.2.2 j hj).1) ⟨(Nat.le_of_ble_eq_true rfl), (Nat.le_of_ble_eq_true rfl)⟩ (xdec ok_J0_getBytes_840e7 8 rfl) ?_
  show BdP E mJ0_getBytes_840e7 (xRm 1 60 0 0) 0 0 O 25 [some (.ref (E.2.2.1 k)), some (.ref v), some (.int (nI d)), some (.int 0)] [] [(v, .inl (E.2.1.2.1.1, cap, .inl (va_cpy (fun j => (xSbyt.getD k []).getD j 0) f (Int32.toNatClampNeg 0) (Int32.toNatClampNeg (nI d)) (Int32.toNatClampNeg (nI w)))))] 0 0
  refine Bd.seg ok_J0_getBytes_840e7 9 [] rfl (show BdP E mJ0_getBytes_840e7 (xRm 1 60 0 0) 0 0 O 43 [some (.ref (E.2.2.1 k)), some (.ref v), some (.int (nI d)), some (.int 0)] [] [(v, .inl (E.2.1.2.1.1, cap, .inl (va_cpy (fun j => (xSbyt.getD k []).getD j 0) f (Int32.toNatClampNeg 0) (Int32.toNatClampNeg (nI d)) (Int32.toNatClampNeg (nI w)))))] 0 0 from ?_)
  refine Bd.seg ok_J0_getBytes_840e7 10 [] rfl (And.intro (And.intro (ho _ (fun j hj => by rw [nI_clamp (by omega)]; exact pk_cpy_out (Or.inl hj)) (fun j hj => by rw [nI_clamp (by omega), nI_clamp (by have := hk.2.2.1; omega), tnz, pk_cpy_in (by omega) (by omega), show 0 + (d + j - d) = j by omega]; exact (hk.2.2.2 j hj).2) (fun j => by
    rw [nI_clamp (by omega), nI_clamp (by have := hk.2.2.1; omega), tnz]
    by_cases h1 : d ≤ j ∧ j < d + w
    · rw [pk_cpy_in h1.1 h1.2, show 0 + (j - d) = j - d by omega, (hk.2.2.2 (j - d) (by omega)).2]; exact fits128 (hk.2.2.2 (j - d) (by omega)).1
    · rw [pk_cpy_out (by omega)]; exact hf j)) (And.intro (Nat.le_of_ble_eq_true rfl) (Nat.le_of_ble_eq_true rfl))) True.intro)
def tb_J5_inflateIfNeededFor_a7421 : List (Nat × List xI) := [(3, [(.ifCond .eq 18, [], 0)]), (6, [(.aload_n 0, [], 0), (.getfield 22, [15, 1], 0), (.aload_n 1, [], 0)]), (11, [(.invokevirtual 40, [], 0)]), (14, [(.if_icmp .eq 7, [], 0)]), (21, [(.return_, [], 0)])]
set_option maxRecDepth 100000 in
theorem ok_J5_inflateIfNeededFor_a7421 : ∀ q ∈ tb_J5_inflateIfNeededFor_a7421, xChks mJ5_inflateIfNeededFor_a7421 q.1 q.2 = true := by decide +kernel
theorem nJ5_inflateIfNeededFor_a7421 : xNa mJ5_inflateIfNeededFor_a7421 1 := by delta xNa; decide +kernel
set_option maxHeartbeats 4000000 in
set_option maxRecDepth 100000 in
theorem s_J5_inflateIfNeededFor_a7421 (E : xE) (sb v k : Nat) (c : Int32) (hk : k < 22) (o : xO) (ho : .inl (none, [(sb, .inr (15, [.ref v, .int 0, .int 0, .int c]))]) = o) : Sp E mJ5_inflateIfNeededFor_a7421 (xRm 1 20 0 0) [.ref sb, .ref (E.2.2.1 k)] [(sb, .inr (15, [.ref v, .int 0, .int 0, .int c]))] o := by
  refine Sp.of oJ5_inflateIfNeededFor_a7421 (L := [some (.ref sb), some (.ref (E.2.2.1 k))]) rfl rfl (Nat.le_of_ble_eq_true rfl) (show BdP E mJ5_inflateIfNeededFor_a7421 (xRm 1 20 0 0) 0 0 (fun z => o = z) 0 [some (.ref sb), some (.ref (E.2.2.1 k))] [] [(sb, .inr (15, [.ref v, .int 0, .int 0, .int c]))] 0 0 from ?_)
  refine Bd.gets0 kf19_18 (by decide +kernel) ?_
  refine Bd.seg ok_J5_inflateIfNeededFor_a7421 0 [] rfl (And.intro (fun c9 => absurd c9 ((by decide))) (fun c9 => (show BdP E mJ5_inflateIfNeededFor_a7421 (xRm 1 20 0 0) 0 0 (fun z => o = z) 6 [some (.ref sb), some (.ref (E.2.2.1 k))] [] [(sb, .inr (15, [.ref v, .int 0, .int 0, .int c]))] 0 0 from ?_)))
  refine Bd.seg ok_J5_inflateIfNeededFor_a7421 1 [0] rfl (And.intro (And.intro rfl rfl) (show BdP E mJ5_inflateIfNeededFor_a7421 (xRm 1 20 0 0) 0 0 (fun z => o = z) 11 [some (.ref sb), some (.ref (E.2.2.1 k))] [.ref (E.2.2.1 k), .int 0] [(sb, .inr (15, [.ref v, .int 0, .int 0, .int c]))] 0 0 from ?_))
  refine Bd.callVs hk oJ0_coder_7d493 vJ0_coder_7d493 nJ0_coder_7d493 k19_40 (xdec ok_J5_inflateIfNeededFor_a7421 2 rfl) rfl (As := []) (rest := [.int 0]) (s_J0_coder E k hk) ⟨(Nat.le_of_ble_eq_true rfl), (Nat.le_of_ble_eq_true rfl)⟩ rfl (Nat.le_of_ble_eq_true rfl) ⟨(Nat.le_of_ble_eq_true rfl), (Nat.le_of_ble_eq_true rfl)⟩ ?_
  show BdP E mJ5_inflateIfNeededFor_a7421 (xRm 1 20 0 0) 0 0 (fun z => o = z) 14 [some (.ref sb), some (.ref (E.2.2.1 k))] [.int 0, .int 0] [(sb, .inr (15, [.ref v, .int 0, .int 0, .int c]))] 0 0
  refine Bd.seg ok_J5_inflateIfNeededFor_a7421 3 [] rfl (And.intro (fun c9 => (show BdP E mJ5_inflateIfNeededFor_a7421 (xRm 1 20 0 0) 0 0 (fun z => o = z) 21 [some (.ref sb), some (.ref (E.2.2.1 k))] [] [(sb, .inr (15, [.ref v, .int 0, .int 0, .int c]))] 0 0 from ?_)) (fun c9 => absurd (rfl) c9))
  refine Bd.seg ok_J5_inflateIfNeededFor_a7421 4 [] rfl (And.intro (And.intro ho.symm (And.intro (Nat.le_of_ble_eq_true rfl) (Nat.le_of_ble_eq_true rfl))) True.intro)
def tb_J5_putStringAt_47b60 : List (Nat × List xI) := [(0, [(.aload_n 0, [], 0), (.aload_n 2, [], 0)]), (2, [(.invokevirtual 397, [], 0)]), (5, [(.aload_n 2, [], 0), (.aload_n 0, [], 0), (.getfield 15, [15, 0], 0), (.iload_n 1, [], 0), (.aload_n 0, [], 0), (.getfield 22, [15, 1], 0)]), (15, [(.invokevirtual 399, [], 0)]), (18, [(.return_, [], 0)])]
set_option maxRecDepth 100000 in
theorem ok_J5_putStringAt_47b60 : ∀ q ∈ tb_J5_putStringAt_47b60, xChks mJ5_putStringAt_47b60 q.1 q.2 = true := by decide +kernel
theorem nJ5_putStringAt_47b60 : xNa mJ5_putStringAt_47b60 2 := by delta xNa; decide +kernel
set_option maxHeartbeats 4000000 in
set_option maxRecDepth 100000 in
theorem s_J5_putStringAt_47b60 (E : xE) (sb v cap n k w d : Nat) (tx : Nat → Nat) (f : Nat → Int32) (hk : xTx k w tx) (hf : sb_Fit f) (hd : d + w ≤ cap) (hc : cap ≤ 1000) (O : xO → Prop) (ho : ∀ (f2 : Nat → Int32), (∀ j, j < d → f2 j = f j) → (∀ j, j < w → f2 (d + j) = nI (tx j)) → sb_Fit f2 → O (.inl (none, SBw E sb v cap f2 n))) : SpP E mJ5_putStringAt_47b60 (xRm 2 83 0 0) [.ref sb, .int (nI d), .ref (E.2.2.1 k)] [(sb, .inr (15, [.ref v, .int 0, .int 0, .int (nI n)])), (v, .inl (E.2.1.2.1.1, cap, .inl f))] O := by
  refine Sp.of oJ5_putStringAt_47b60 (L := [some (.ref sb), some (.int (nI d)), some (.ref (E.2.2.1 k))]) rfl rfl (Nat.le_of_ble_eq_true rfl) (show BdP E mJ5_putStringAt_47b60 (xRm 2 83 0 0) 0 0 O 0 [some (.ref sb), some (.int (nI d)), some (.ref (E.2.2.1 k))] [] [(sb, .inr (15, [.ref v, .int 0, .int 0, .int (nI n)])), (v, .inl (E.2.1.2.1.1, cap, .inl f))] 0 0 from ?_)
  refine Bd.seg ok_J5_putStringAt_47b60 0 [] rfl (show BdP E mJ5_putStringAt_47b60 (xRm 2 83 0 0) 0 0 O 2 [some (.ref sb), some (.int (nI d)), some (.ref (E.2.2.1 k))] [.ref (E.2.2.1 k), .ref sb] [(sb, .inr (15, [.ref v, .int 0, .int 0, .int (nI n)])), (v, .inl (E.2.1.2.1.1, cap, .inl f))] 0 0 from ?_)
  refine Bd.eqW (M' := [(sb, .inr (15, [.ref v, .int 0, .int 0, .int (nI n)]))] ++ [(v, .inl (E.2.1.2.1.1, cap, .inl f))]) rfl ?_
  refine Bd.callUa (x := ⟨"java/lang/AbstractStringBuilder", "inflateIfNeededFor", "(Ljava/lang/String;)V"⟩) (C := "java/lang/StringBuilder") (owner := "java/lang/AbstractStringBuilder") oJ5_inflateIfNeededFor_a7421 (xm4 (n := 31) rfl rfl) (xm7 (n := 132) rfl rfl) vJ5_inflateIfNeededFor_a7421.2 vJ5_inflateIfNeededFor_a7421.1 rfl ⟨by decide, by decide⟩ (by show (parseMethodDescriptor _).map (fun d => d.parameters.length) = some 1; decide +kernel) (xdec ok_J5_putStringAt_47b60 1 rfl) (As := [.ref (E.2.2.1 k)]) (rest := []) (Mc := [(sb, .inr (15, [.ref v, .int 0, .int 0, .int (nI n)]))]) (Rest := [(v, .inl (E.2.1.2.1.1, cap, .inl f))]) (s_J5_inflateIfNeededFor_a7421 E sb v k (nI n) hk.1 _ rfl) (fun X M h => by cases h) ⟨(Nat.le_of_ble_eq_true rfl), (Nat.le_of_ble_eq_true rfl)⟩ rfl (Nat.le_of_ble_eq_true rfl) 0 rfl rfl rfl ⟨(Nat.le_of_ble_eq_true rfl), (Nat.le_of_ble_eq_true rfl)⟩ (fun v9 M9 h9 => ?_)
  cases h9
  show BdP E mJ5_putStringAt_47b60 (xRm 2 83 0 0) 0 0 O 5 [some (.ref sb), some (.int (nI d)), some (.ref (E.2.2.1 k))] [] [(sb, .inr (15, [.ref v, .int 0, .int 0, .int (nI n)])), (v, .inl (E.2.1.2.1.1, cap, .inl f))] 0 0
  refine Bd.seg ok_J5_putStringAt_47b60 2 [0, 0] rfl (And.intro (And.intro rfl rfl) (And.intro (And.intro rfl rfl) (show BdP E mJ5_putStringAt_47b60 (xRm 2 83 0 0) 0 0 O 15 [some (.ref sb), some (.int (nI d)), some (.ref (E.2.2.1 k))] [.int 0, .int (nI d), .ref v, .ref (E.2.2.1 k)] [(sb, .inr (15, [.ref v, .int 0, .int 0, .int (nI n)])), (v, .inl (E.2.1.2.1.1, cap, .inl f))] 0 0 from ?_)))
  refine Bd.perm (M' := [(v, .inl (E.2.1.2.1.1, cap, .inl f))] ++ [(sb, .inr (15, [.ref v, .int 0, .int 0, .int (nI n)]))]) (List.Perm.swap _ _ []) ?_
  refine Bd.callVsa hk.1 oJ0_getBytes_840e7 vJ0_getBytes_840e7 nJ0_getBytes_840e7 k19_399 (xdec ok_J5_putStringAt_47b60 3 rfl) rfl (As := [.ref v, .int (nI d), .int 0]) (rest := []) (Mc := [(v, .inl (E.2.1.2.1.1, cap, .inl f))]) (Rest := [(sb, .inr (15, [.ref v, .int 0, .int 0, .int (nI n)]))]) (s_J0_getBytes_840e7 E v cap k w d tx f hk hf hd hc (fun z => ∃ (f2 : Nat → Int32), (∀ j, j < d → f2 j = f j) ∧ (∀ j, j < w → f2 (d + j) = nI (tx j)) ∧ sb_Fit f2 ∧ z = .inl (none, [(v, .inl (E.2.1.2.1.1, cap, .inl f2))])) (fun f2 h1 h2 h3 => ⟨f2, h1, h2, h3, rfl⟩)) (fun X M h => by obtain ⟨_, _, _, _, h⟩ := h; cases h) ⟨(Nat.le_of_ble_eq_true rfl), (Nat.le_of_ble_eq_true rfl)⟩ rfl (Nat.le_of_ble_eq_true rfl) ⟨(Nat.le_of_ble_eq_true rfl), (Nat.le_of_ble_eq_true rfl)⟩ (fun v9 M9 h9 => ?_)
  obtain ⟨f2, h1, h2, h3, h9⟩ := h9
  cases h9
  refine Bd.perm (M' := [(sb, .inr (15, [.ref v, .int 0, .int 0, .int (nI n)])), (v, .inl (E.2.1.2.1.1, cap, .inl f2))]) (List.Perm.swap _ _ []) (show BdP E mJ5_putStringAt_47b60 (xRm 2 83 0 0) 0 0 O 18 [some (.ref sb), some (.int (nI d)), some (.ref (E.2.2.1 k))] [] [(sb, .inr (15, [.ref v, .int 0, .int 0, .int (nI n)])), (v, .inl (E.2.1.2.1.1, cap, .inl f2))] 0 0 from ?_)
  refine Bd.seg ok_J5_putStringAt_47b60 4 [] rfl (And.intro (And.intro (ho f2 h1 h2 h3) (And.intro (Nat.le_of_ble_eq_true rfl) (Nat.le_of_ble_eq_true rfl))) True.intro)
theorem xLat_cat {t s : Nat → Nat} {n w : Nat} {f f2 : Nat → Int32} (h : xLat t n f) (h1 : ∀ j, j < n → f2 j = f j) (h2 : ∀ j, j < w → s j < 128 ∧ f2 (n + j) = nI (s j)) (h3 : sb_Fit f2) : xLat (sb_cat t n s) (n + w) f2 := by
  refine ⟨fun j hj => ?_, h3⟩
  by_cases c : j < n
  · rw [sb_cat_lo c]; exact ⟨(h.1 j c).1, by rw [h1 j c]; exact (h.1 j c).2⟩
  · obtain ⟨i, rfl⟩ : ∃ i, j = n + i := ⟨j - n, by omega⟩
    rw [sb_cat_hi]; exact h2 i (by omega)
def tb_J5_append_cf1ce : List (Nat × List xI) := [(0, [(.aload_n 1, [], 0), (.ifnonnull 8, [], 0)]), (9, [(.aload_n 1, [], 0)]), (10, [(.invokevirtual 32, [], 0)]), (13, [(.istore_n 2, [], 0), (.aload_n 0, [], 0), (.aload_n 0, [], 0), (.getfield 79, [15, 3], 0), (.iload_n 2, [], 0), (.iadd, [], 0)]), (21, [(.invokevirtual 100, [], 0)]), (24, [(.aload_n 0, [], 0), (.aload_n 0, [], 0), (.getfield 79, [15, 3], 0), (.aload_n 1, [], 0)]), (30, [(.invokevirtual 208, [], 0)]), (33, [(.aload_n 0, [], 0), (.dup, [], 0), (.getfield 79, [15, 3], 0), (.iload_n 2, [], 0), (.iadd, [], 0)]), (40, [(.putfield 79, [15, 3, 0], 0), (.aload_n 0, [], 0), (.areturn, [], 0)])]
set_option maxRecDepth 100000 in
theorem ok_J5_append_cf1ce : ∀ q ∈ tb_J5_append_cf1ce, xChks mJ5_append_cf1ce q.1 q.2 = true := by decide +kernel
theorem nJ5_append_cf1ce : xNa mJ5_append_cf1ce 1 := by delta xNa; decide +kernel
set_option maxHeartbeats 4000000 in
set_option maxRecDepth 100000 in
theorem s_J5_append_cf1ce (E : xE) (sb v cap n k w : Nat) (t tx : Nat → Nat) (f : Nat → Int32) (hk : xTx k w tx) (hL : xLat t n f) (hn : n ≤ cap) (hc : cap ≤ 1000) (hq : n + w ≤ 400) : SpP E mJ5_append_cf1ce (xRm 4 105 1 1000) [.ref sb, .ref (E.2.2.1 k)] [(sb, .inr (15, [.ref v, .int 0, .int 0, .int (nI n)])), (v, .inl (E.2.1.2.1.1, cap, .inl f))] (SBo E sb (some (.ref sb)) (sb_cat t n tx) (n + w)) := by
  refine Sp.of oJ5_append_cf1ce (L := [some (.ref sb), some (.ref (E.2.2.1 k)), none]) rfl rfl (Nat.le_of_ble_eq_true rfl) (show BdP E mJ5_append_cf1ce (xRm 4 105 1 1000) 1 1000 (SBo E sb (some (.ref sb)) (sb_cat t n tx) (n + w)) 0 [some (.ref sb), some (.ref (E.2.2.1 k)), none] [] [(sb, .inr (15, [.ref v, .int 0, .int 0, .int (nI n)])), (v, .inl (E.2.1.2.1.1, cap, .inl f))] 0 0 from ?_)
  refine Bd.seg ok_J5_append_cf1ce 0 [] rfl (show BdP E mJ5_append_cf1ce (xRm 4 105 1 1000) 1 1000 (SBo E sb (some (.ref sb)) (sb_cat t n tx) (n + w)) 9 [some (.ref sb), some (.ref (E.2.2.1 k)), none] [] [(sb, .inr (15, [.ref v, .int 0, .int 0, .int (nI n)])), (v, .inl (E.2.1.2.1.1, cap, .inl f))] 0 0 from ?_)
  refine Bd.seg ok_J5_append_cf1ce 1 [] rfl (show BdP E mJ5_append_cf1ce (xRm 4 105 1 1000) 1 1000 (SBo E sb (some (.ref sb)) (sb_cat t n tx) (n + w)) 10 [some (.ref sb), some (.ref (E.2.2.1 k)), none] [.ref (E.2.2.1 k)] [(sb, .inr (15, [.ref v, .int 0, .int 0, .int (nI n)])), (v, .inl (E.2.1.2.1.1, cap, .inl f))] 0 0 from ?_)
  refine Bd.callVs hk.1 oJ0_length_8abf5 vJ0_length_8abf5 nJ0_length_8abf5 k19_32 (xdec ok_J5_append_cf1ce 2 rfl) rfl (As := []) (rest := []) (s_J0_length E k hk.1) ⟨(Nat.le_of_ble_eq_true rfl), (Nat.le_of_ble_eq_true rfl)⟩ rfl (Nat.le_of_ble_eq_true rfl) ⟨(Nat.le_of_ble_eq_true rfl), (Nat.le_of_ble_eq_true rfl)⟩ ?_
  have hw : xSL_ k = nI w := by show Int32.ofNat (xSlen.getD k 0) = _; rw [hk.2.1]; rfl
  rw [hw]
  show BdP E mJ5_append_cf1ce (xRm 4 105 1 1000) 1 1000 (SBo E sb (some (.ref sb)) (sb_cat t n tx) (n + w)) 13 [some (.ref sb), some (.ref (E.2.2.1 k)), none] [.int (nI w)] [(sb, .inr (15, [.ref v, .int 0, .int 0, .int (nI n)])), (v, .inl (E.2.1.2.1.1, cap, .inl f))] 0 0
  refine Bd.seg ok_J5_append_cf1ce 3 [0] rfl (And.intro (Nat.le_of_ble_eq_true rfl) (And.intro (And.intro rfl rfl) (show BdP E mJ5_append_cf1ce (xRm 4 105 1 1000) 1 1000 (SBo E sb (some (.ref sb)) (sb_cat t n tx) (n + w)) 21 [some (.ref sb), some (.ref (E.2.2.1 k)), some (.int (nI w))] [.int ((nI n) + (nI w)), .ref sb] [(sb, .inr (15, [.ref v, .int 0, .int 0, .int (nI n)])), (v, .inl (E.2.1.2.1.1, cap, .inl f))] 0 0 from ?_)))
  rw [nI_add]
  show BdP E mJ5_append_cf1ce (xRm 4 105 1 1000) 1 1000 (SBo E sb (some (.ref sb)) (sb_cat t n tx) (n + w)) 21 [some (.ref sb), some (.ref (E.2.2.1 k)), some (.int (nI w))] [.int (nI (n + w)), .ref sb] [(sb, .inr (15, [.ref v, .int 0, .int 0, .int (nI n)])), (v, .inl (E.2.1.2.1.1, cap, .inl f))] 0 0
  have hw1 := hk.2.2.1
  refine Bd.eqW (M' := [(sb, .inr (15, [.ref v, .int 0, .int 0, .int (nI n)])), (v, .inl (E.2.1.2.1.1, cap, .inl f))] ++ []) rfl ?_
  refine Bd.callUa (x := ⟨"java/lang/AbstractStringBuilder", "ensureCapacityInternal", "(I)V"⟩) (C := "java/lang/StringBuilder") (owner := "java/lang/AbstractStringBuilder") oJ5_ensureCapacityInternal_d00df (xm3 (n := 214) rfl rfl) (xm7 (n := 129) rfl rfl) vJ5_ensureCapacityInternal_d00df.2 vJ5_ensureCapacityInternal_d00df.1 rfl ⟨by decide, by decide⟩ (by show (parseMethodDescriptor _).map (fun d => d.parameters.length) = some 1; decide +kernel) (xdec ok_J5_append_cf1ce 4 rfl) (As := [.int (nI (n + w))]) (rest := []) (Mc := [(sb, .inr (15, [.ref v, .int 0, .int 0, .int (nI n)])), (v, .inl (E.2.1.2.1.1, cap, .inl f))]) (Rest := []) (s_J5_ensureCapacityInternal_d00df E sb v cap n (n + w) f hL.2 hc (by omega) (fun z => ∃ (v2 cap2 : Nat) (f2 : Nat → Int32), (∀ j, j < cap → f2 j = f j) ∧ sb_Fit f2 ∧ (n + w) ≤ cap2 ∧ cap2 ≤ 1000 ∧ z = .inl (none, SBw E sb v2 cap2 f2 n)) (fun v2 cap2 f2 h1 h2 h3 h4 => ⟨v2, cap2, f2, h1, h2, h3, h4, rfl⟩)) (fun X M h => by obtain ⟨_, _, _, _, _, _, _, h⟩ := h; cases h) ⟨(Nat.le_of_ble_eq_true rfl), (Nat.le_of_ble_eq_true rfl)⟩ rfl (Nat.le_of_ble_eq_true rfl) 0 rfl rfl rfl ⟨(Nat.le_of_ble_eq_true rfl), (Nat.le_of_ble_eq_true rfl)⟩ (fun v9 M9 h9 => ?_)
  obtain ⟨v2, cap2, f2, g1, g2, g3, g4, h9⟩ := h9
  cases h9
  show BdP E mJ5_append_cf1ce (xRm 4 105 1 1000) 1 1000 (SBo E sb (some (.ref sb)) (sb_cat t n tx) (n + w)) 24 [some (.ref sb), some (.ref (E.2.2.1 k)), some (.int (nI w))] [] [(sb, .inr (15, [.ref v2, .int 0, .int 0, .int (nI n)])), (v2, .inl (E.2.1.2.1.1, cap2, .inl f2))] (0 + 1) (0 + 1000)
  refine Bd.seg ok_J5_append_cf1ce 5 [0] rfl (And.intro (And.intro rfl rfl) (show BdP E mJ5_append_cf1ce (xRm 4 105 1 1000) 1 1000 (SBo E sb (some (.ref sb)) (sb_cat t n tx) (n + w)) 30 [some (.ref sb), some (.ref (E.2.2.1 k)), some (.int (nI w))] [.ref (E.2.2.1 k), .int (nI n), .ref sb] [(sb, .inr (15, [.ref v2, .int 0, .int 0, .int (nI n)])), (v2, .inl (E.2.1.2.1.1, cap2, .inl f2))] (0 + 1) (0 + 1000) from ?_))
  refine Bd.eqW (M' := [(sb, .inr (15, [.ref v2, .int 0, .int 0, .int (nI n)])), (v2, .inl (E.2.1.2.1.1, cap2, .inl f2))] ++ []) rfl ?_
  refine Bd.callUa (x := ⟨"java/lang/AbstractStringBuilder", "putStringAt", "(ILjava/lang/String;)V"⟩) (C := "java/lang/StringBuilder") (owner := "java/lang/AbstractStringBuilder") oJ5_putStringAt_47b60 (xm4 (n := 27) rfl rfl) (xm7 (n := 131) rfl rfl) vJ5_putStringAt_47b60.2 vJ5_putStringAt_47b60.1 rfl ⟨by decide, by decide⟩ (by show (parseMethodDescriptor _).map (fun d => d.parameters.length) = some 2; decide +kernel) (xdec ok_J5_append_cf1ce 6 rfl) (As := [.int (nI n), .ref (E.2.2.1 k)]) (rest := []) (Mc := [(sb, .inr (15, [.ref v2, .int 0, .int 0, .int (nI n)])), (v2, .inl (E.2.1.2.1.1, cap2, .inl f2))]) (Rest := []) (s_J5_putStringAt_47b60 E sb v2 cap2 n k w n tx f2 hk g2 g3 g4 (fun z => ∃ (f3 : Nat → Int32), (∀ j, j < n → f3 j = f2 j) ∧ (∀ j, j < w → f3 (n + j) = nI (tx j)) ∧ sb_Fit f3 ∧ z = .inl (none, SBw E sb v2 cap2 f3 n)) (fun f3 h1 h2 h3 => ⟨f3, h1, h2, h3, rfl⟩)) (fun X M h => by obtain ⟨_, _, _, _, h⟩ := h; cases h) ⟨(Nat.le_of_ble_eq_true rfl), (Nat.le_of_ble_eq_true rfl)⟩ rfl (Nat.le_of_ble_eq_true rfl) 0 rfl rfl rfl ⟨(Nat.le_of_ble_eq_true rfl), (Nat.le_of_ble_eq_true rfl)⟩ (fun v9 M9 h9 => ?_)
  obtain ⟨f3, k1, k2, k3, h9⟩ := h9
  cases h9
  show BdP E mJ5_append_cf1ce (xRm 4 105 1 1000) 1 1000 (SBo E sb (some (.ref sb)) (sb_cat t n tx) (n + w)) 33 [some (.ref sb), some (.ref (E.2.2.1 k)), some (.int (nI w))] [] [(sb, .inr (15, [.ref v2, .int 0, .int 0, .int (nI n)])), (v2, .inl (E.2.1.2.1.1, cap2, .inl f3))] (0 + 1) (0 + 1000)
  refine Bd.seg ok_J5_append_cf1ce 7 [0] rfl (And.intro (And.intro rfl rfl) (show BdP E mJ5_append_cf1ce (xRm 4 105 1 1000) 1 1000 (SBo E sb (some (.ref sb)) (sb_cat t n tx) (n + w)) 40 [some (.ref sb), some (.ref (E.2.2.1 k)), some (.int (nI w))] [.int ((nI n) + (nI w)), .ref sb] [(sb, .inr (15, [.ref v2, .int 0, .int 0, .int (nI n)])), (v2, .inl (E.2.1.2.1.1, cap2, .inl f3))] (0 + 1) (0 + 1000) from ?_))
  rw [nI_add]
  show BdP E mJ5_append_cf1ce (xRm 4 105 1 1000) 1 1000 (SBo E sb (some (.ref sb)) (sb_cat t n tx) (n + w)) 40 [some (.ref sb), some (.ref (E.2.2.1 k)), some (.int (nI w))] [.int (nI (n + w)), .ref sb] [(sb, .inr (15, [.ref v2, .int 0, .int 0, .int (nI n)])), (v2, .inl (E.2.1.2.1.1, cap2, .inl f3))] (0 + 1) (0 + 1000)
  refine Bd.seg ok_J5_append_cf1ce 8 [0] rfl (And.intro (And.intro rfl (And.intro rfl (Nat.le_of_ble_eq_true rfl))) (And.intro (And.intro rfl rfl) (And.intro (And.intro ⟨v2, cap2, f3, rfl, xLat_cat hL (fun j hj => by rw [k1 j hj]; exact g1 j (by omega)) (fun j hj => ⟨(hk.2.2.2 j hj).1, k2 j hj⟩) k3, g3, g4⟩ (And.intro (Nat.le_of_ble_eq_true rfl) (Nat.le_of_ble_eq_true rfl))) True.intro)))
def tb_J4_append_15ec4 : List (Nat × List xI) := [(0, [(.aload_n 0, [], 0), (.aload_n 1, [], 0)]), (2, [(.invokespecial 29, [], 0)]), (5, [(.pop, [], 0), (.aload_n 0, [], 0), (.areturn, [], 0)])]
set_option maxRecDepth 100000 in
theorem ok_J4_append_15ec4 : ∀ q ∈ tb_J4_append_15ec4, xChks mJ4_append_15ec4 q.1 q.2 = true := by decide +kernel
theorem nJ4_append_15ec4 : xNa mJ4_append_15ec4 1 := by delta xNa; decide +kernel
set_option maxHeartbeats 4000000 in
set_option maxRecDepth 100000 in
theorem s_J4_append_15ec4 (E : xE) (sb v cap n k w : Nat) (t tx : Nat → Nat) (f : Nat → Int32) (hk : xTx k w tx) (hL : xLat t n f) (hn : n ≤ cap) (hc : cap ≤ 1000) (hq : n + w ≤ 400) : SpP E mJ4_append_15ec4 (xRm 5 127 1 1000) [.ref sb, .ref (E.2.2.1 k)] [(sb, .inr (15, [.ref v, .int 0, .int 0, .int (nI n)])), (v, .inl (E.2.1.2.1.1, cap, .inl f))] (SBo E sb (some (.ref sb)) (sb_cat t n tx) (n + w)) := by
  refine Sp.of oJ4_append_15ec4 (L := [some (.ref sb), some (.ref (E.2.2.1 k))]) rfl rfl (Nat.le_of_ble_eq_true rfl) (show BdP E mJ4_append_15ec4 (xRm 5 127 1 1000) 1 1000 (SBo E sb (some (.ref sb)) (sb_cat t n tx) (n + w)) 0 [some (.ref sb), some (.ref (E.2.2.1 k))] [] [(sb, .inr (15, [.ref v, .int 0, .int 0, .int (nI n)])), (v, .inl (E.2.1.2.1.1, cap, .inl f))] 0 0 from ?_)
  refine Bd.seg ok_J4_append_15ec4 0 [] rfl (show BdP E mJ4_append_15ec4 (xRm 5 127 1 1000) 1 1000 (SBo E sb (some (.ref sb)) (sb_cat t n tx) (n + w)) 2 [some (.ref sb), some (.ref (E.2.2.1 k))] [.ref (E.2.2.1 k), .ref sb] [(sb, .inr (15, [.ref v, .int 0, .int 0, .int (nI n)])), (v, .inl (E.2.1.2.1.1, cap, .inl f))] 0 0 from ?_)
  refine Bd.eqW (M' := [(sb, .inr (15, [.ref v, .int 0, .int 0, .int (nI n)])), (v, .inl (E.2.1.2.1.1, cap, .inl f))] ++ []) rfl ?_
  refine Bd.callSUa oJ5_append_cf1ce (xm3 (n := 207) rfl rfl) (xm3 (n := 199) rfl rfl) (xm3 (n := 208) rfl rfl) vJ5_append_cf1ce (by decide) nJ5_append_cf1ce (xdec ok_J4_append_15ec4 1 rfl) (As := [.ref (E.2.2.1 k)]) (rest := []) (Mc := [(sb, .inr (15, [.ref v, .int 0, .int 0, .int (nI n)])), (v, .inl (E.2.1.2.1.1, cap, .inl f))]) (Rest := []) (s_J5_append_cf1ce E sb v cap n k w t tx f hk hL hn hc hq) (fun X M h => by obtain ⟨_, _, _, h, _⟩ := h; cases h) ⟨(Nat.le_of_ble_eq_true rfl), (Nat.le_of_ble_eq_true rfl)⟩ rfl (Nat.le_of_ble_eq_true rfl) 0 rfl rfl ⟨(Nat.le_of_ble_eq_true rfl), (Nat.le_of_ble_eq_true rfl)⟩ (fun v9 M9 h9 => ?_)
  obtain ⟨v3, cap3, f3, h9, hL3, hn3, hc3⟩ := h9
  cases h9
  show BdP E mJ4_append_15ec4 (xRm 5 127 1 1000) 1 1000 (SBo E sb (some (.ref sb)) (sb_cat t n tx) (n + w)) 5 [some (.ref sb), some (.ref (E.2.2.1 k))] [.ref sb] [(sb, .inr (15, [.ref v3, .int 0, .int 0, .int (nI (n + w))])), (v3, .inl (E.2.1.2.1.1, cap3, .inl f3))] (0 + 1) (0 + 1000)
  refine Bd.seg ok_J4_append_15ec4 2 [] rfl (And.intro (And.intro ⟨v3, cap3, f3, rfl, hL3, hn3, hc3⟩ (And.intro (Nat.le_of_ble_eq_true rfl) (Nat.le_of_ble_eq_true rfl))) True.intro)
def tb_J4_append_cf1ce : List (Nat × List xI) := [(0, [(.aload_n 0, [], 0), (.aload_n 1, [], 0)]), (2, [(.invokevirtual 23, [], 0)]), (5, [(.areturn, [], 0)])]
set_option maxRecDepth 100000 in
theorem ok_J4_append_cf1ce : ∀ q ∈ tb_J4_append_cf1ce, xChks mJ4_append_cf1ce q.1 q.2 = true := by decide +kernel
theorem nJ4_append_cf1ce : xNa mJ4_append_cf1ce 1 := by delta xNa; decide +kernel
set_option maxHeartbeats 4000000 in
set_option maxRecDepth 100000 in
theorem s_J4_append_cf1ce (E : xE) (sb v cap n k w : Nat) (t tx : Nat → Nat) (f : Nat → Int32) (hk : xTx k w tx) (hL : xLat t n f) (hn : n ≤ cap) (hc : cap ≤ 1000) (hq : n + w ≤ 400) : SpP E mJ4_append_cf1ce (xRm 6 148 1 1000) [.ref sb, .ref (E.2.2.1 k)] [(sb, .inr (15, [.ref v, .int 0, .int 0, .int (nI n)])), (v, .inl (E.2.1.2.1.1, cap, .inl f))] (SBo E sb (some (.ref sb)) (sb_cat t n tx) (n + w)) := by
  refine Sp.of oJ4_append_cf1ce (L := [some (.ref sb), some (.ref (E.2.2.1 k))]) rfl rfl (Nat.le_of_ble_eq_true rfl) (show BdP E mJ4_append_cf1ce (xRm 6 148 1 1000) 1 1000 (SBo E sb (some (.ref sb)) (sb_cat t n tx) (n + w)) 0 [some (.ref sb), some (.ref (E.2.2.1 k))] [] [(sb, .inr (15, [.ref v, .int 0, .int 0, .int (nI n)])), (v, .inl (E.2.1.2.1.1, cap, .inl f))] 0 0 from ?_)
  refine Bd.seg ok_J4_append_cf1ce 0 [] rfl (show BdP E mJ4_append_cf1ce (xRm 6 148 1 1000) 1 1000 (SBo E sb (some (.ref sb)) (sb_cat t n tx) (n + w)) 2 [some (.ref sb), some (.ref (E.2.2.1 k))] [.ref (E.2.2.1 k), .ref sb] [(sb, .inr (15, [.ref v, .int 0, .int 0, .int (nI n)])), (v, .inl (E.2.1.2.1.1, cap, .inl f))] 0 0 from ?_)
  refine Bd.eqW (M' := [(sb, .inr (15, [.ref v, .int 0, .int 0, .int (nI n)])), (v, .inl (E.2.1.2.1.1, cap, .inl f))] ++ []) rfl ?_
  refine Bd.callVa oJ4_append_15ec4 vJ4_append_15ec4 nJ4_append_15ec4 k15_23 (xdec ok_J4_append_cf1ce 1 rfl) (As := [.ref (E.2.2.1 k)]) (rest := []) (Mc := [(sb, .inr (15, [.ref v, .int 0, .int 0, .int (nI n)])), (v, .inl (E.2.1.2.1.1, cap, .inl f))]) (Rest := []) (s_J4_append_15ec4 E sb v cap n k w t tx f hk hL hn hc hq) ⟨(Nat.le_of_ble_eq_true rfl), (Nat.le_of_ble_eq_true rfl)⟩ rfl (Nat.le_of_ble_eq_true rfl) 0 rfl rfl rfl ⟨(Nat.le_of_ble_eq_true rfl), (Nat.le_of_ble_eq_true rfl)⟩ (fun X M h => by obtain ⟨_, _, _, h, _⟩ := h; cases h) (fun v9 M9 h9 => ?_)
  obtain ⟨v3, cap3, f3, h9, hL3, hn3, hc3⟩ := h9
  cases h9
  show BdP E mJ4_append_cf1ce (xRm 6 148 1 1000) 1 1000 (SBo E sb (some (.ref sb)) (sb_cat t n tx) (n + w)) 5 [some (.ref sb), some (.ref (E.2.2.1 k))] [.ref sb] [(sb, .inr (15, [.ref v3, .int 0, .int 0, .int (nI (n + w))])), (v3, .inl (E.2.1.2.1.1, cap3, .inl f3))] (0 + 1) (0 + 1000)
  refine Bd.seg ok_J4_append_cf1ce 2 [] rfl (And.intro (And.intro ⟨v3, cap3, f3, rfl, hL3, hn3, hc3⟩ (And.intro (Nat.le_of_ble_eq_true rfl) (Nat.le_of_ble_eq_true rfl))) True.intro)
