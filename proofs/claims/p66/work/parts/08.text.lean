/-! the String constants: length and charAt -/
section BSTR
variable {E : xE} {y : xM} {R : Room} {mc ms : Nat} {O : xO → Prop} {pc : Nat} {L : xL} {st : List Value} {M : va_W} {ck sk : Nat}
theorem Bd.gets0 {idx : Nat} (hlk : Cond.fieldLink (xCn y.2.2.2.2) idx "java/lang/String" "COMPACT_STRINGS" "Z" ∈ xAll) (hd : decode y.2.1 pc = .ok (.getstatic idx, 3)) (k : BdP E y R mc ms O (pc + 3) L (.int 1 :: st) M ck sk) : BdP E y R mc ms O pc L st M ck sk := by
  intro p l e s m args below meth c A H locs ls hF hr hx hP hD hS hl hLn
  obtain ⟨hexec, hl0, hbt, hml, hown, hts, hlocks, hnm0, hA, hKK, hG⟩ := id hF
  exact va_gets hexec hbt hG.2.2.2.2.1.2.1 hS hown (hts _ hlk) (fun _ h9 => h9) hd (k p l e s m args below meth c A H locs ls hF hr hx hP hD hS hl hLn)
theorem Bd.getsq {idx : Nat} (hlk : Cond.fieldLink (xCn y.2.2.2.2) idx "jdk/internal/util/Preconditions" "SIOOBE_FORMATTER" "Ljava/util/function/BiFunction;" ∈ xAll) (hd : decode y.2.1 pc = .ok (.getstatic idx, 3)) (k0 : BdP E y R mc ms O (pc + 3) L (.null :: st) M ck sk) (k1 : ∀ t : Nat, BdP E y R mc ms O (pc + 3) L (.ref t :: st) M ck sk) : BdP E y R mc ms O pc L st M ck sk := by
  intro p l e s m args below meth c A H locs ls hF hr hx hP hD hS hl hLn
  obtain ⟨hexec, hl0, hbt, hml, hown, hts, hlocks, hnm0, hA, hKK, hG⟩ := id hF
  rcases hG.2.2.2.2.1.2.2 with hZ | ⟨t, hZ⟩
  · exact va_gets hexec hbt hZ hS hown (hts _ hlk) (fun _ h9 => h9) hd (k0 p l e s m args below meth c A H locs ls hF hr hx hP hD hS hl hLn)
  · exact va_gets hexec hbt hZ hS hown (hts _ hlk) (fun _ h9 => h9) hd (k1 t p l e s m args below meth c A H locs ls hF hr hx hP hD hS hl hLn)
theorem Bd.strv {idx i : Nat} (hi : i < 22) (hlk : Cond.fieldLink (xCn y.2.2.2.2) idx "java/lang/String" "value" "[B" ∈ xAll) (hd : decode y.2.1 pc = .ok (.getfield idx, 3)) (k : BdP E y R mc ms O (pc + 3) L (.ref (E.2.2.2 i) :: st) M ck sk) : BdP E y R mc ms O pc L (.ref (E.2.2.1 i) :: st) M ck sk := by
  intro p l e s m args below meth c A H locs ls hF hr hx hP hD hS hl hLn
  obtain ⟨hexec, hl0, hbt, hml, hown, hts, hlocks, hnm0, hA, hKK, hG⟩ := id hF
  exact vk_getf hexec hbt (hG.2.2.2.2.1.1.1 i hi).2.2.1 hS hown (hts _ hlk) (fun _ h9 => h9) hd (k p l e s m args below meth c A H locs ls hF hr hx hP hD hS hl hLn)
theorem Bd.strc {idx i : Nat} (hi : i < 22) (hlk : Cond.fieldLink (xCn y.2.2.2.2) idx "java/lang/String" "coder" "B" ∈ xAll) (hd : decode y.2.1 pc = .ok (.getfield idx, 3)) (k : BdP E y R mc ms O (pc + 3) L (.int 0 :: st) M ck sk) : BdP E y R mc ms O pc L (.ref (E.2.2.1 i) :: st) M ck sk := by
  intro p l e s m args below meth c A H locs ls hF hr hx hP hD hS hl hLn
  obtain ⟨hexec, hl0, hbt, hml, hown, hts, hlocks, hnm0, hA, hKK, hG⟩ := id hF
  exact vk_getf hexec hbt (hG.2.2.2.2.1.1.1 i hi).2.1 hS hown (hts _ hlk) (fun _ h9 => h9) hd (k p l e s m args below meth c A H locs ls hF hr hx hP hD hS hl hLn)
theorem Bd.tlen {i : Nat} (hi : i < 22) (hd : decode y.2.1 pc = .ok (.arraylength, 1)) (k : BdP E y R mc ms O (pc + 1) L (.int (Int32.ofNat (xSlen.getD i 0)) :: st) M ck sk) : BdP E y R mc ms O pc L (.ref (E.2.2.2 i) :: st) M ck sk := by
  intro p l e s m args below meth c A H locs ls hF hr hx hP hD hS hl hLn
  obtain ⟨hexec, hl0, hbt, hml, hown, hts, hlocks, hnm0, hA, hKK, hG⟩ := id hF
  exact va_tlen hexec hbt (hG.2.2.2.2.1.1.1 i hi).2.2.2 hS rfl hd (k p l e s m args below meth c A H locs ls hF hr hx hP hD hS hl hLn)
theorem Bd.tb {i : Nat} {j : Int32} (hi : i < 22) (hin : vp_in j (xSlen.getD i 0)) (hd : decode y.2.1 pc = .ok (.baload, 1)) (k : BdP E y R mc ms O (pc + 1) L (.int ((xSbyt.getD i []).getD j.toNatClampNeg 0) :: st) M ck sk) : BdP E y R mc ms O pc L (.int j :: .ref (E.2.2.2 i) :: st) M ck sk := by
  intro p l e s m args below meth c A H locs ls hF hr hx hP hD hS hl hLn
  obtain ⟨hexec, hl0, hbt, hml, hown, hts, hlocks, hnm0, hA, hKK, hG⟩ := id hF
  exact va_tb hexec hbt (hG.2.2.2.2.1.1.1 i hi).2.2.2 hS hin rfl hd (k p l e s m args below meth c A H locs ls hF hr hx hP hD hS hl hLn)
/-- a call on a String constant -/
theorem Bd.callVs {y' : xM} {R' : Room} {As rest : List Value} {i idx : Nat} {v : Option Value} (hi : i < 22) (hy : xMok y') (hv : xVok y') (hn : xNa y' As.length) (hlk : Cond.methodLink (xCn y.2.2.2.2) idx y'.1 ∈ xAll) (hd : decode y.2.1 pc = .ok (.invokevirtual idx, 3)) (hcls : y'.1.cls = "java/lang/String")
    (hsp : Sp E y' R' (.ref (E.2.2.1 i) :: As) [] (.inl (v, []))) (hR : R'.frames + 1 ≤ R.frames ∧ 8 + (y'.2.2.1 + 11) + R'.locals ≤ R.locals) (hst : st = As.reverse ++ .ref (E.2.2.1 i) :: rest) (hcat : (rest.map fun v => v.category).sum ≤ 8)
    (hroom : ck + R'.cells ≤ R.cells ∧ sk + R'.slots ≤ R.slots) (kk : BdP E y R mc ms O (pc + 3) L (v.toList ++ rest) M (ck + R'.cells) (sk + R'.slots)) : BdP E y R mc ms O pc L st M ck sk := by
  subst hst
  intro p l e s m args below meth c A H locs ls hF hr hx hP hD hS hl hLn
  obtain ⟨hexec, hl0, hbt, hml, hown, hts, hlocks, hnm0, hA, hKK, hG⟩ := id hF
  obtain ⟨⟨hbl, hpre⟩, hAc, hPc⟩ := x_pre (Mc := []) (As := .ref (E.2.2.1 i) :: As) hKK hG hP hD hS hA [] rfl rfl
  have hrec := vk_recv hG.2.2.2.2.1.1 hi hS
  rw [← hcls] at hrec
  refine x_behind (O' := fun z => (Sum.inl (v, []) : xO) = z) hF hr hx hP hD hS hl hLn [] rfl hAc (vx_runV ⟨hexec, hbt, hml, hown, hts⟩ (hsp l H.size hl0) ⟨x_callB hts hy hn hlk hR, hts _ hv.1, hts _ hv.2⟩ ⟨hbl, hrec, hpre⟩ rfl rfl hl.1 rfl (lv_room hcat) hd hroom) (fun M' h => rfl) (fun X M' h => by cases h) (fun v' M' h => ?_)
  cases h
  have e : xput M [] [] = M := by simp [xput, xset]
  rw [e]
  exact kk
end BSTR
theorem nJ0_coder_7d493 : xNa mJ0_coder_7d493 0 := by delta xNa; decide +kernel
theorem nJ0_length_8abf5 : xNa mJ0_length_8abf5 0 := by delta xNa; decide +kernel
theorem nJ0_isLatin1_aae02 : xNa mJ0_isLatin1_aae02 0 := by delta xNa; decide +kernel
theorem nJ0_charAt_5068e : xNa mJ0_charAt_5068e 1 := by delta xNa; decide +kernel
theorem nJ1_charAt_3b067 : xNa mJ1_charAt_3b067 2 := by delta xNa; decide +kernel
theorem nJ0_checkIndex_df160 : xNa mJ0_checkIndex_df160 2 := by delta xNa; decide +kernel
theorem nJ3_checkIndex_8e157 : xNa mJ3_checkIndex_8e157 3 := by delta xNa; decide +kernel
def xSL_ (k : Nat) : Int32 := Int32.ofNat (xSlen.getD k 0)
def xSB (k : Nat) (j : Int32) : Int32 := (xSbyt.getD k []).getD j.toNatClampNeg 0
def tb_J0_coder : List (Nat × List xI) := [(3, [(.ifCond .eq 10, [], 0)]), (6, [(.aload_n 0, [], 0)]), (10, [(.goto 4, [], 0)]), (14, [(.ireturn, [], 0)])]
theorem ok_J0_coder : ∀ q ∈ tb_J0_coder, xChks mJ0_coder_7d493 q.1 q.2 = true := by decide +kernel
theorem s_J0_coder (E : xE) (i : Nat) (hi : i < 22) : Sp E mJ0_coder_7d493 (xRm 0 0 0 0) [.ref (E.2.2.1 i)] [] (.inl (some (.int 0), [])) := by
  refine Sp.of oJ0_coder_7d493 (L := [some (.ref (E.2.2.1 i))]) rfl rfl (Nat.le_of_ble_eq_true rfl) ?_
  refine Bd.gets0 kf14_38 (by decide +kernel) ?_
  refine Bd.seg ok_J0_coder 0 [] rfl (And.intro (fun h => absurd h (by decide)) (fun _ => ?_))
  refine Bd.seg ok_J0_coder 1 [] rfl ?_
  refine Bd.strc hi kf14_15 (by decide +kernel) ?_
  refine Bd.seg ok_J0_coder 2 [] rfl ?_
  exact Bd.seg ok_J0_coder 3 [] rfl (And.intro (And.intro rfl (And.intro (Nat.le_of_ble_eq_true rfl) (Nat.le_of_ble_eq_true rfl))) rfl)
def tb_J0_length : List (Nat × List xI) := [(0, [(.aload_n 0, [], 0)]), (5, [(.aload_n 0, [], 0)]), (6, [(.invokevirtual 335, [], 0)]), (9, [(.ishr, [], 0), (.ireturn, [], 0)])]
theorem ok_J0_length : ∀ q ∈ tb_J0_length, xChks mJ0_length_8abf5 q.1 q.2 = true := by decide +kernel
theorem s_J0_length (E : xE) (i : Nat) (hi : i < 22) : Sp E mJ0_length_8abf5 (xRm 1 20 0 0) [.ref (E.2.2.1 i)] [] (.inl (some (.int (xSL_ i)), [])) := by
  have hz : xSL_ i >>> (0 &&& 31) = xSL_ i := by
    have h : ∀ k, k < 22 → xSL_ k >>> (0 &&& 31) = xSL_ k := by decide +kernel
    exact h i hi
  rw [← hz]
  refine Sp.of oJ0_length_8abf5 (L := [some (.ref (E.2.2.1 i))]) rfl rfl (Nat.le_of_ble_eq_true rfl) ?_
  refine Bd.seg ok_J0_length 0 [] rfl ?_
  refine Bd.strv hi kf14_9 (by decide +kernel) ?_
  refine Bd.tlen hi (by decide +kernel) ?_
  refine Bd.seg ok_J0_length 1 [] rfl ?_
  refine Bd.callVs hi oJ0_coder_7d493 vJ0_coder_7d493 nJ0_coder_7d493 k14_335 (xdec ok_J0_length 2 rfl) rfl (As := []) (rest := [.int (Int32.ofNat (xSlen.getD i 0))]) (s_J0_coder E i hi) ⟨(Nat.le_of_ble_eq_true rfl), (Nat.le_of_ble_eq_true rfl)⟩ rfl (Nat.le_of_ble_eq_true rfl) ⟨(Nat.le_of_ble_eq_true rfl), (Nat.le_of_ble_eq_true rfl)⟩ ?_
  exact Bd.seg ok_J0_length 3 [] rfl (And.intro (And.intro rfl (And.intro (Nat.le_of_ble_eq_true rfl) (Nat.le_of_ble_eq_true rfl))) True.intro)
def tb_J0_isLatin1 : List (Nat × List xI) := [(3, [(.ifCond .eq 14, [], 0)]), (6, [(.aload_n 0, [], 0)]), (10, [(.ifCond .ne 7, [], 0)]), (13, [(.iconst 1, [], 1), (.goto 4, [], 0)]), (18, [(.ireturn, [], 0)])]
theorem ok_J0_isLatin1 : ∀ q ∈ tb_J0_isLatin1, xChks mJ0_isLatin1_aae02 q.1 q.2 = true := by decide +kernel
theorem s_J0_isLatin1 (E : xE) (i : Nat) (hi : i < 22) : Sp E mJ0_isLatin1_aae02 (xRm 0 0 0 0) [.ref (E.2.2.1 i)] [] (.inl (some (.int 1), [])) := by
  refine Sp.of oJ0_isLatin1_aae02 (L := [some (.ref (E.2.2.1 i))]) rfl rfl (Nat.le_of_ble_eq_true rfl) ?_
  refine Bd.gets0 kf14_38 (by decide +kernel) ?_
  refine Bd.seg ok_J0_isLatin1 0 [] rfl (And.intro (fun h => absurd h (by decide)) (fun _ => ?_))
  refine Bd.seg ok_J0_isLatin1 1 [] rfl ?_
  refine Bd.strc hi kf14_15 (by decide +kernel) ?_
  refine Bd.seg ok_J0_isLatin1 2 [] rfl (And.intro (fun h => absurd rfl h) (fun _ => ?_))
  refine Bd.seg ok_J0_isLatin1 3 [] rfl ?_
  exact Bd.seg ok_J0_isLatin1 4 [] rfl (And.intro (And.intro rfl (And.intro (Nat.le_of_ble_eq_true rfl) (Nat.le_of_ble_eq_true rfl))) rfl)
def tb_J3_checkIndex : List (Nat × List xI) := [(0, [(.iload_n 0, [], 0), (.ifCond .lt 8, [], 0)]), (4, [(.iload_n 0, [], 0), (.iload_n 1, [], 0), (.if_icmp .lt 10, [], 0)]), (16, [(.iload_n 0, [], 0), (.ireturn, [], 0)])]
theorem ok_J3_checkIndex : ∀ q ∈ tb_J3_checkIndex, xChks mJ3_checkIndex_8e157 q.1 q.2 = true := by decide +kernel
theorem s_J3_checkIndex (E : xE) (a b : Int32) (v : Value) (hv : v = .null ∨ ∃ t, v = .ref t) (h0 : ¬ a < 0) (h1 : a < b) : Sp E mJ3_checkIndex_8e157 (xRm 0 0 0 0) [.int a, .int b, v] [] (.inl (some (.int a), [])) := by
  rcases hv with rfl | ⟨t, rfl⟩
  · refine Sp.of oJ3_checkIndex_8e157 (L := [some (.int a), some (.int b), some .null]) rfl rfl (Nat.le_of_ble_eq_true rfl) ?_
    refine Bd.seg ok_J3_checkIndex 0 [] rfl (And.intro (fun h => absurd h h0) (fun _ => ?_))
    refine Bd.seg ok_J3_checkIndex 1 [] rfl (And.intro (fun _ => ?_) (fun h => absurd h1 h))
    exact Bd.seg ok_J3_checkIndex 2 [] rfl (And.intro (And.intro rfl (And.intro (Nat.le_of_ble_eq_true rfl) (Nat.le_of_ble_eq_true rfl))) True.intro)
  · refine Sp.of oJ3_checkIndex_8e157 (L := [some (.int a), some (.int b), some (.ref t)]) rfl rfl (Nat.le_of_ble_eq_true rfl) ?_
    refine Bd.seg ok_J3_checkIndex 0 [] rfl (And.intro (fun h => absurd h h0) (fun _ => ?_))
    refine Bd.seg ok_J3_checkIndex 1 [] rfl (And.intro (fun _ => ?_) (fun h => absurd h1 h))
    exact Bd.seg ok_J3_checkIndex 2 [] rfl (And.intro (And.intro rfl (And.intro (Nat.le_of_ble_eq_true rfl) (Nat.le_of_ble_eq_true rfl))) True.intro)
def tb_J0_checkIndex : List (Nat × List xI) := [(0, [(.iload_n 0, [], 0), (.iload_n 1, [], 0)]), (5, [(.invokestatic 1059, [], 0)]), (8, [(.pop, [], 0), (.return_, [], 0)])]
theorem ok_J0_checkIndex : ∀ q ∈ tb_J0_checkIndex, xChks mJ0_checkIndex_df160 q.1 q.2 = true := by decide +kernel
theorem s_J0_checkIndex (E : xE) (a b : Int32) (h0 : ¬ a < 0) (h1 : a < b) : Sp E mJ0_checkIndex_df160 (xRm 1 22 0 0) [.int a, .int b] [] (.inl (none, [])) := by
  refine Sp.of oJ0_checkIndex_df160 (L := [some (.int a), some (.int b)]) rfl rfl (Nat.le_of_ble_eq_true rfl) ?_
  refine Bd.seg ok_J0_checkIndex 0 [] rfl ?_
  have key : ∀ v : Value, (v = .null ∨ ∃ t, v = .ref t) → Bd E mJ0_checkIndex_df160 (xRm 1 22 0 0) 0 0 (.inl (none, [])) 5 [some (.int a), some (.int b)] [v, .int b, .int a] [] 0 0 := by
    intro v hv
    refine Bd.callSr oJ3_checkIndex_8e157 vJ3_checkIndex_8e157 nJ3_checkIndex_8e157 k14_1059 (xdec ok_J0_checkIndex 1 rfl) (As := [.int a, .int b, v]) (rest := []) (s_J3_checkIndex E a b v hv h0 h1) ⟨(Nat.le_of_ble_eq_true rfl), (Nat.le_of_ble_eq_true rfl)⟩ rfl (Nat.le_of_ble_eq_true rfl) [] rfl rfl ⟨(Nat.le_of_ble_eq_true rfl), (Nat.le_of_ble_eq_true rfl)⟩ rfl ?_
    exact Bd.seg ok_J0_checkIndex 2 [] rfl (And.intro (And.intro rfl (And.intro (Nat.le_of_ble_eq_true rfl) (Nat.le_of_ble_eq_true rfl))) True.intro)
  refine Bd.getsq kf14_1053 (by decide +kernel) (key .null (Or.inl rfl)) (fun t => key (.ref t) (Or.inr ⟨t, rfl⟩))
def tb_J1_charAt : List (Nat × List xI) := [(0, [(.iload_n 1, [], 0), (.aload_n 0, [], 0)]), (3, [(.invokestatic 9, [], 0)]), (6, [(.aload_n 0, [], 0), (.iload_n 1, [], 0)]), (9, [(.sipush 255, [], 255), (.iand, [], 0), (.i2c, [], 0), (.ireturn, [], 0)])]
theorem ok_J1_charAt : ∀ q ∈ tb_J1_charAt, xChks mJ1_charAt_3b067 q.1 q.2 = true := by decide +kernel
theorem xSB_ok : ∀ l ∈ xSbyt, ∀ b ∈ l, ((b &&& 255).toUInt32 % 65536).toInt32 = b ∧ b.toUInt32.toUInt16.toUInt32.toInt32 = b := by decide +kernel
theorem xSB_at (i : Nat) (j : Int32) : ((xSB i j &&& 255).toUInt32 % 65536).toInt32 = xSB i j ∧ (xSB i j).toUInt32.toUInt16.toUInt32.toInt32 = xSB i j := by
  unfold xSB
  rw [List.getD_eq_getElem?_getD (l := xSbyt.getD i [])]
  cases h : (xSbyt.getD i [])[j.toNatClampNeg]? with
  | none => exact ⟨rfl, rfl⟩
  | some b =>
    have hb := List.mem_of_getElem? h
    rw [List.getD_eq_getElem?_getD] at hb
    cases h2 : xSbyt[i]? with
    | none => rw [h2] at hb; cases hb
    | some l =>
      rw [h2] at hb
      exact xSB_ok l (List.mem_of_getElem? h2) b hb
theorem xlt_of_in {i : Nat} {j : Int32} (hi : i < 22) (h : vp_in j (xSlen.getD i 0)) : ¬ j < 0 ∧ j < Int32.ofNat (xSlen.getD i 0) := by
  have hs : ∀ k, k < 22 → xSlen.getD k 0 < 2 ^ 31 := by decide +kernel
  obtain ⟨n, hn, rfl⟩ := vp_in_of h (hs i hi)
  exact ⟨nI_pos (by have := hs i hi; omega), nI_lt hn (hs i hi)⟩
theorem s_J1_charAt (E : xE) (i : Nat) (j : Int32) (hi : i < 22) (hj : vp_in j (xSlen.getD i 0)) : Sp E mJ1_charAt_3b067 (xRm 2 43 0 0) [.ref (E.2.2.2 i), .int j] [] (.inl (some (.int (xSB i j)), [])) := by
  obtain ⟨h0, h1⟩ := xlt_of_in hi hj
  have hz := xSB_at i j
  refine Sp.of oJ1_charAt_3b067 (L := [some (.ref (E.2.2.2 i)), some (.int j)]) rfl rfl (Nat.le_of_ble_eq_true rfl) ?_
  refine Bd.seg ok_J1_charAt 0 [] rfl ?_
  refine Bd.tlen hi (by decide +kernel) ?_
  refine Bd.callSr oJ0_checkIndex_df160 vJ0_checkIndex_df160 nJ0_checkIndex_df160 k17_9 (xdec ok_J1_charAt 1 rfl) (As := [.int j, .int (Int32.ofNat (xSlen.getD i 0))]) (rest := []) (s_J0_checkIndex E j _ h0 h1) ⟨(Nat.le_of_ble_eq_true rfl), (Nat.le_of_ble_eq_true rfl)⟩ rfl (Nat.le_of_ble_eq_true rfl) [] rfl rfl ⟨(Nat.le_of_ble_eq_true rfl), (Nat.le_of_ble_eq_true rfl)⟩ rfl ?_
  refine Bd.seg ok_J1_charAt 2 [] rfl ?_
  refine Bd.tb hi hj (by decide +kernel) ?_
  refine Bd.seg ok_J1_charAt 3 [] rfl (And.intro (And.intro ?_ (And.intro (Nat.le_of_ble_eq_true rfl) (Nat.le_of_ble_eq_true rfl))) ?_)
  · exact congrArg (fun z => (Sum.inl (some (Value.int z), []) : xO)) hz.1.symm
  · show ((_ : Int32)).toUInt32.toUInt16.toUInt32.toInt32 = _
    have h2 := hz.2
    rw [← hz.1] at h2
    exact h2
def tb_J0_charAt : List (Nat × List xI) := [(0, [(.aload_n 0, [], 0)]), (1, [(.invokevirtual 492, [], 0)]), (4, [(.ifCond .eq 12, [], 0)]), (7, [(.aload_n 0, [], 0)]), (11, [(.iload_n 1, [], 0)]), (12, [(.invokestatic 495, [], 0)]), (15, [(.ireturn, [], 0)])]
theorem ok_J0_charAt : ∀ q ∈ tb_J0_charAt, xChks mJ0_charAt_5068e q.1 q.2 = true := by decide +kernel
theorem s_J0_charAt (E : xE) (i : Nat) (j : Int32) (hi : i < 22) (hj : vp_in j (xSlen.getD i 0)) : Sp E mJ0_charAt_5068e (xRm 3 64 0 0) [.ref (E.2.2.1 i), .int j] [] (.inl (some (.int (xSB i j)), [])) := by
  refine Sp.of oJ0_charAt_5068e (L := [some (.ref (E.2.2.1 i)), some (.int j)]) rfl rfl (Nat.le_of_ble_eq_true rfl) ?_
  refine Bd.seg ok_J0_charAt 0 [] rfl ?_
  refine Bd.callVs hi oJ0_isLatin1_aae02 vJ0_isLatin1_aae02 nJ0_isLatin1_aae02 k14_492 (xdec ok_J0_charAt 1 rfl) rfl (As := []) (rest := []) (s_J0_isLatin1 E i hi) ⟨(Nat.le_of_ble_eq_true rfl), (Nat.le_of_ble_eq_true rfl)⟩ rfl (Nat.le_of_ble_eq_true rfl) ⟨(Nat.le_of_ble_eq_true rfl), (Nat.le_of_ble_eq_true rfl)⟩ ?_
  refine Bd.seg ok_J0_charAt 2 [] rfl (And.intro (fun h => absurd h (by decide)) (fun _ => ?_))
  refine Bd.seg ok_J0_charAt 3 [] rfl ?_
  refine Bd.strv hi kf14_9 (by decide +kernel) ?_
  refine Bd.seg ok_J0_charAt 4 [] rfl ?_
  refine Bd.callSr oJ1_charAt_3b067 vJ1_charAt_3b067 nJ1_charAt_3b067 k14_495 (xdec ok_J0_charAt 5 rfl) (As := [.ref (E.2.2.2 i), .int j]) (rest := []) (s_J1_charAt E i j hi hj) ⟨(Nat.le_of_ble_eq_true rfl), (Nat.le_of_ble_eq_true rfl)⟩ rfl (Nat.le_of_ble_eq_true rfl) [] rfl rfl ⟨(Nat.le_of_ble_eq_true rfl), (Nat.le_of_ble_eq_true rfl)⟩ rfl ?_
  exact Bd.seg ok_J0_charAt 6 [] rfl (And.intro (And.intro rfl (And.intro (Nat.le_of_ble_eq_true rfl) (Nat.le_of_ble_eq_true rfl))) (xSB_at i j).2)
