/-! STRINGBUILDER AND STRING, as the JDK's code runs them over Latin-1 texts -/
abbrev SBw (E : xE) (sb v cap : Nat) (f : Nat → Int32) (n : Nat) : va_W := [(sb, .inr (15, [.ref v, .int 0, .int 0, .int (nI n)])), (v, .inl (E.2.1.2.1.1, cap, .inl f))]
/-- the bytes f hold the text t of n letters (all below 128) -/
def xLat (t : Nat → Nat) (n : Nat) (f : Nat → Int32) : Prop := (∀ j, j < n → t j < 128 ∧ f j = nI (t j)) ∧ sb_Fit f
/-- a builder that holds t -/
def SBo (E : xE) (sb : Nat) (r : Option Value) (t : Nat → Nat) (n : Nat) : xO → Prop := fun z => ∃ (v cap : Nat) (f : Nat → Int32), z = .inl (r, SBw E sb v cap f n) ∧ xLat t n f ∧ n ≤ cap ∧ cap ≤ 1000
theorem xsh0 (x : Int32) : x >>> ((0 : Int32) &&& 31) = x := sb_shr0 x
theorem nI_toNat (n : Nat) : Int32.ofNat n = nI n := rfl
def tb_J5_isLatin1_aae02 : List (Nat × List xI) := [(3, [(.ifCond .eq 14, [], 0)]), (6, [(.aload_n 0, [], 0), (.getfield 22, [15, 1], 0), (.ifCond .ne 7, [], 0)]), (13, [(.iconst 1, [], 1), (.goto 4, [], 0)]), (18, [(.ireturn, [], 0)])]
set_option maxRecDepth 100000 in
theorem ok_J5_isLatin1_aae02 : ∀ q ∈ tb_J5_isLatin1_aae02, xChks mJ5_isLatin1_aae02 q.1 q.2 = true := by decide +kernel
theorem nJ5_isLatin1_aae02 : xNa mJ5_isLatin1_aae02 0 := by delta xNa; decide +kernel
set_option maxHeartbeats 4000000 in
set_option maxRecDepth 100000 in
theorem s_J5_isLatin1_aae02 (E : xE) (sb v : Nat) (c : Int32)  (o : xO) (ho : .inl (some (.int 1), [(sb, .inr (15, [.ref v, .int 0, .int 0, .int c]))]) = o) : Sp E mJ5_isLatin1_aae02 (xRm 0 0 0 0) [.ref sb] [(sb, .inr (15, [.ref v, .int 0, .int 0, .int c]))] o := by
  refine Sp.of oJ5_isLatin1_aae02 (L := [some (.ref sb)]) rfl rfl (Nat.le_of_ble_eq_true rfl) (show BdP E mJ5_isLatin1_aae02 (xRm 0 0 0 0) 0 0 (fun z => o = z) 0 [some (.ref sb)] [] [(sb, .inr (15, [.ref v, .int 0, .int 0, .int c]))] 0 0 from ?_)
  refine Bd.gets0 kf19_18 (by decide +kernel) ?_
  refine Bd.seg ok_J5_isLatin1_aae02 0 [] rfl (And.intro (fun c9 => absurd c9 ((by decide))) (fun c9 => (show BdP E mJ5_isLatin1_aae02 (xRm 0 0 0 0) 0 0 (fun z => o = z) 6 [some (.ref sb)] [] [(sb, .inr (15, [.ref v, .int 0, .int 0, .int c]))] 0 0 from ?_)))
  refine Bd.seg ok_J5_isLatin1_aae02 1 [0] rfl (And.intro (And.intro rfl rfl) (And.intro (fun c9 => absurd (rfl) c9) (fun c9 => (show BdP E mJ5_isLatin1_aae02 (xRm 0 0 0 0) 0 0 (fun z => o = z) 13 [some (.ref sb)] [] [(sb, .inr (15, [.ref v, .int 0, .int 0, .int c]))] 0 0 from ?_))))
  refine Bd.seg ok_J5_isLatin1_aae02 2 [] rfl (show BdP E mJ5_isLatin1_aae02 (xRm 0 0 0 0) 0 0 (fun z => o = z) 18 [some (.ref sb)] [.int 1] [(sb, .inr (15, [.ref v, .int 0, .int 0, .int c]))] 0 0 from ?_)
  refine Bd.seg ok_J5_isLatin1_aae02 3 [] rfl (And.intro (And.intro ho.symm (And.intro (Nat.le_of_ble_eq_true rfl) (Nat.le_of_ble_eq_true rfl))) rfl)
def tb_J5_length_8abf5 : List (Nat × List xI) := [(0, [(.aload_n 0, [], 0), (.getfield 79, [15, 3], 0), (.ireturn, [], 0)])]
set_option maxRecDepth 100000 in
theorem ok_J5_length_8abf5 : ∀ q ∈ tb_J5_length_8abf5, xChks mJ5_length_8abf5 q.1 q.2 = true := by decide +kernel
theorem nJ5_length_8abf5 : xNa mJ5_length_8abf5 0 := by delta xNa; decide +kernel
set_option maxHeartbeats 4000000 in
set_option maxRecDepth 100000 in
theorem s_J5_length_8abf5 (E : xE) (sb v : Nat) (c : Int32)  (o : xO) (ho : .inl (some (.int c), [(sb, .inr (15, [.ref v, .int 0, .int 0, .int c]))]) = o) : Sp E mJ5_length_8abf5 (xRm 0 0 0 0) [.ref sb] [(sb, .inr (15, [.ref v, .int 0, .int 0, .int c]))] o := by
  refine Sp.of oJ5_length_8abf5 (L := [some (.ref sb)]) rfl rfl (Nat.le_of_ble_eq_true rfl) (show BdP E mJ5_length_8abf5 (xRm 0 0 0 0) 0 0 (fun z => o = z) 0 [some (.ref sb)] [] [(sb, .inr (15, [.ref v, .int 0, .int 0, .int c]))] 0 0 from ?_)
  refine Bd.seg ok_J5_length_8abf5 0 [0] rfl (And.intro (And.intro rfl rfl) (And.intro (And.intro ho.symm (And.intro (Nat.le_of_ble_eq_true rfl) (Nat.le_of_ble_eq_true rfl))) True.intro))
def tb_J5_getValue_6d5f1 : List (Nat × List xI) := [(0, [(.aload_n 0, [], 0), (.getfield 15, [15, 0], 0)]), (4, [(.areturn, [], 0)])]
set_option maxRecDepth 100000 in
theorem ok_J5_getValue_6d5f1 : ∀ q ∈ tb_J5_getValue_6d5f1, xChks mJ5_getValue_6d5f1 q.1 q.2 = true := by decide +kernel
theorem nJ5_getValue_6d5f1 : xNa mJ5_getValue_6d5f1 0 := by delta xNa; decide +kernel
set_option maxHeartbeats 4000000 in
set_option maxRecDepth 100000 in
theorem s_J5_getValue_6d5f1 (E : xE) (sb v : Nat) (c : Int32)  (o : xO) (ho : .inl (some (.ref v), [(sb, .inr (15, [.ref v, .int 0, .int 0, .int c]))]) = o) : Sp E mJ5_getValue_6d5f1 (xRm 0 0 0 0) [.ref sb] [(sb, .inr (15, [.ref v, .int 0, .int 0, .int c]))] o := by
  refine Sp.of oJ5_getValue_6d5f1 (L := [some (.ref sb)]) rfl rfl (Nat.le_of_ble_eq_true rfl) (show BdP E mJ5_getValue_6d5f1 (xRm 0 0 0 0) 0 0 (fun z => o = z) 0 [some (.ref sb)] [] [(sb, .inr (15, [.ref v, .int 0, .int 0, .int c]))] 0 0 from ?_)
  refine Bd.seg ok_J5_getValue_6d5f1 0 [0] rfl (And.intro (And.intro rfl rfl) (show BdP E mJ5_getValue_6d5f1 (xRm 0 0 0 0) 0 0 (fun z => o = z) 4 [some (.ref sb)] [.ref v] [(sb, .inr (15, [.ref v, .int 0, .int 0, .int c]))] 0 0 from ?_))
  exact Bd.areta (xdec ok_J5_getValue_6d5f1 1 rfl) rfl ho.symm (Nat.le_of_ble_eq_true rfl) (Nat.le_of_ble_eq_true rfl)
def tb_J4_length_8abf5 : List (Nat × List xI) := [(0, [(.aload_n 0, [], 0)]), (1, [(.invokespecial 343, [], 0)]), (4, [(.ireturn, [], 0)])]
set_option maxRecDepth 100000 in
theorem ok_J4_length_8abf5 : ∀ q ∈ tb_J4_length_8abf5, xChks mJ4_length_8abf5 q.1 q.2 = true := by decide +kernel
theorem nJ4_length_8abf5 : xNa mJ4_length_8abf5 0 := by delta xNa; decide +kernel
set_option maxHeartbeats 4000000 in
set_option maxRecDepth 100000 in
theorem s_J4_length_8abf5 (E : xE) (sb v : Nat) (c : Int32)  (o : xO) (ho : .inl (some (.int c), [(sb, .inr (15, [.ref v, .int 0, .int 0, .int c]))]) = o) : Sp E mJ4_length_8abf5 (xRm 1 20 0 0) [.ref sb] [(sb, .inr (15, [.ref v, .int 0, .int 0, .int c]))] o := by
  refine Sp.of oJ4_length_8abf5 (L := [some (.ref sb)]) rfl rfl (Nat.le_of_ble_eq_true rfl) (show BdP E mJ4_length_8abf5 (xRm 1 20 0 0) 0 0 (fun z => o = z) 0 [some (.ref sb)] [] [(sb, .inr (15, [.ref v, .int 0, .int 0, .int c]))] 0 0 from ?_)
  refine Bd.seg ok_J4_length_8abf5 0 [] rfl (show BdP E mJ4_length_8abf5 (xRm 1 20 0 0) 0 0 (fun z => o = z) 1 [some (.ref sb)] [.ref sb] [(sb, .inr (15, [.ref v, .int 0, .int 0, .int c]))] 0 0 from ?_)
  refine Bd.eqW (M' := [(sb, .inr (15, [.ref v, .int 0, .int 0, .int c]))] ++ []) rfl ?_
  refine Bd.callSUa oJ5_length_8abf5 (xm4 (n := 183) rfl rfl) (xm4 (n := 179) rfl rfl) (xm3 (n := 208) rfl rfl) vJ5_length_8abf5 (by decide) nJ5_length_8abf5 (xdec ok_J4_length_8abf5 1 rfl) (As := []) (rest := []) (Mc := [(sb, .inr (15, [.ref v, .int 0, .int 0, .int c]))]) (Rest := []) (s_J5_length_8abf5 E sb v c _ rfl) (fun X M h => by cases h) ⟨(Nat.le_of_ble_eq_true rfl), (Nat.le_of_ble_eq_true rfl)⟩ rfl (Nat.le_of_ble_eq_true rfl) 0 rfl rfl ⟨(Nat.le_of_ble_eq_true rfl), (Nat.le_of_ble_eq_true rfl)⟩ (fun v9 M9 h9 => ?_)
  cases h9
  show BdP E mJ4_length_8abf5 (xRm 1 20 0 0) 0 0 (fun z => o = z) 4 [some (.ref sb)] [.int c] [(sb, .inr (15, [.ref v, .int 0, .int 0, .int c]))] 0 0
  refine Bd.seg ok_J4_length_8abf5 2 [] rfl (And.intro (And.intro ho.symm (And.intro (Nat.le_of_ble_eq_true rfl) (Nat.le_of_ble_eq_true rfl))) True.intro)
def tb_J8_newLength_cabcc : List (Nat × List xI) := [(0, [(.iload_n 0, [], 0), (.iload_n 1, [], 0), (.iload_n 2, [], 0)]), (3, [(.invokestatic 194, [], 0)]), (6, [(.iadd, [], 0)]), (7, [(.istore_n 3, [], 0), (.iconst 0, [], 0), (.iload_n 3, [], 0), (.if_icmp .ge 11, [], 0)]), (13, [(.iload_n 3, [], 0), (.ldc 200, [], 2147483639), (.if_icmp .gt 5, [], 0)]), (19, [(.iload_n 3, [], 0), (.ireturn, [], 0)])]
set_option maxRecDepth 100000 in
theorem ok_J8_newLength_cabcc : ∀ q ∈ tb_J8_newLength_cabcc, xChks mJ8_newLength_cabcc q.1 q.2 = true := by decide +kernel
theorem nJ8_newLength_cabcc : xNa mJ8_newLength_cabcc 3 := by delta xNa; decide +kernel
set_option maxHeartbeats 4000000 in
set_option maxRecDepth 100000 in
theorem s_J8_newLength_cabcc (E : xE) (a b c d : Nat) (hd : d = if b < c then c else b) (h0 : 0 < a + d) (h1 : a + d < 65536) (hb : b < 65536) (hc : c < 65536) (o : xO) (ho : .inl (some (.int (nI (a + d))), []) = o) : Sp E mJ8_newLength_cabcc (xRm 1 20 0 0) [.int (nI a), .int (nI b), .int (nI c)] [] o := by
  have e1 : (if nI b < nI c then nI c else nI b) = nI d := by
    subst hd
    by_cases h : b < c
    · rw [if_pos (nI_lt h (by omega)), if_pos h]
    · rw [if_neg (nI_nlt (by omega) (by omega)), if_neg h]
  refine Sp.of oJ8_newLength_cabcc (L := [some (.int (nI a)), some (.int (nI b)), some (.int (nI c)), none]) rfl rfl (Nat.le_of_ble_eq_true rfl) (show BdP E mJ8_newLength_cabcc (xRm 1 20 0 0) 0 0 (fun z => o = z) 0 [some (.int (nI a)), some (.int (nI b)), some (.int (nI c)), none] [] [] 0 0 from ?_)
  refine Bd.seg ok_J8_newLength_cabcc 0 [] rfl (show BdP E mJ8_newLength_cabcc (xRm 1 20 0 0) 0 0 (fun z => o = z) 3 [some (.int (nI a)), some (.int (nI b)), some (.int (nI c)), none] [.int (nI c), .int (nI b), .int (nI a)] [] 0 0 from ?_)
  refine Bd.mmax (xm3 (n := 225) rfl rfl) (xdec ok_J8_newLength_cabcc 1 rfl) ⟨(Nat.le_of_ble_eq_true rfl), (Nat.le_of_ble_eq_true rfl), (Nat.le_of_ble_eq_true rfl), (Nat.le_of_ble_eq_true rfl)⟩ ?_
  rw [e1]
  show BdP E mJ8_newLength_cabcc (xRm 1 20 0 0) 0 0 (fun z => o = z) 6 [some (.int (nI a)), some (.int (nI b)), some (.int (nI c)), none] [.int (nI d), .int (nI a)] [] 0 0
  refine Bd.seg ok_J8_newLength_cabcc 2 [] rfl (show BdP E mJ8_newLength_cabcc (xRm 1 20 0 0) 0 0 (fun z => o = z) 7 [some (.int (nI a)), some (.int (nI b)), some (.int (nI c)), none] [.int ((nI a) + (nI d))] [] 0 0 from ?_)
  rw [nI_add]
  show BdP E mJ8_newLength_cabcc (xRm 1 20 0 0) 0 0 (fun z => o = z) 7 [some (.int (nI a)), some (.int (nI b)), some (.int (nI c)), none] [.int (nI (a + d))] [] 0 0
  refine Bd.seg ok_J8_newLength_cabcc 3 [] rfl (And.intro (Nat.le_of_ble_eq_true rfl) (And.intro (fun c9 => absurd c9 ((nI_nle (by omega) (by omega)))) (fun c9 => (show BdP E mJ8_newLength_cabcc (xRm 1 20 0 0) 0 0 (fun z => o = z) 13 [some (.int (nI a)), some (.int (nI b)), some (.int (nI c)), some (.int (nI (a + d)))] [] [] 0 0 from ?_))))
  refine Bd.seg ok_J8_newLength_cabcc 4 [] rfl (And.intro (fun c9 => absurd c9 ((nI_nlt (b := a + d) (a := 2147483639) (by omega) (by decide)))) (fun c9 => (show BdP E mJ8_newLength_cabcc (xRm 1 20 0 0) 0 0 (fun z => o = z) 19 [some (.int (nI a)), some (.int (nI b)), some (.int (nI c)), some (.int (nI (a + d)))] [] [] 0 0 from ?_)))
  refine Bd.seg ok_J8_newLength_cabcc 5 [] rfl (And.intro (And.intro ho.symm (And.intro (Nat.le_of_ble_eq_true rfl) (Nat.le_of_ble_eq_true rfl))) True.intro)
def tb_J5_newCapacity_0f7a4 : List (Nat × List xI) := [(0, [(.aload_n 0, [], 0), (.getfield 15, [15, 0], 0)]), (4, [(.arraylength, [], 0)]), (5, [(.istore_n 2, [], 0), (.iload_n 1, [], 0), (.aload_n 0, [], 0), (.getfield 22, [15, 1], 0)]), (11, [(.ishl, [], 0)]), (12, [(.istore_n 3, [], 0), (.iload_n 3, [], 0), (.iload_n 2, [], 0), (.isub, [], 0)]), (16, [(.istore 4, [], 0), (.iload_n 2, [], 0), (.iload 4, [], 0), (.iload_n 2, [], 0), (.iconst 2, [], 2), (.aload_n 0, [], 0), (.getfield 22, [15, 1], 0)]), (27, [(.ishl, [], 0)]), (28, [(.iadd, [], 0)]), (29, [(.invokestatic 114, [], 0)]), (32, [(.istore 5, [], 0), (.iload 5, [], 0), (.ldc 39, [], 2147483647), (.if_icmp .ne 13, [], 0)]), (51, [(.iload 5, [], 0), (.aload_n 0, [], 0), (.getfield 22, [15, 1], 0), (.ishr, [], 0)]), (58, [(.ireturn, [], 0)])]
set_option maxRecDepth 100000 in
theorem ok_J5_newCapacity_0f7a4 : ∀ q ∈ tb_J5_newCapacity_0f7a4, xChks mJ5_newCapacity_0f7a4 q.1 q.2 = true := by decide +kernel
theorem nJ5_newCapacity_0f7a4 : xNa mJ5_newCapacity_0f7a4 1 := by delta xNa; decide +kernel
set_option maxHeartbeats 4000000 in
set_option maxRecDepth 100000 in
theorem s_J5_newCapacity_0f7a4 (E : xE) (sb v cap n q d : Nat) (f : Nat → Int32) (hd : d = if q - cap < cap + 2 then cap + 2 else q - cap) (hd2 : d < 3000) (hq : cap < q) (hq2 : q ≤ 1000) (o : xO) (ho : .inl (some (.int (nI (cap + d))), [(sb, .inr (15, [.ref v, .int 0, .int 0, .int (nI n)])), (v, .inl (E.2.1.2.1.1, cap, .inl f))]) = o) : Sp E mJ5_newCapacity_0f7a4 (xRm 2 43 0 0) [.ref sb, .int (nI q)] [(sb, .inr (15, [.ref v, .int 0, .int 0, .int (nI n)])), (v, .inl (E.2.1.2.1.1, cap, .inl f))] o := by
  refine Sp.of oJ5_newCapacity_0f7a4 (L := [some (.ref sb), some (.int (nI q)), none, none, none, none]) rfl rfl (Nat.le_of_ble_eq_true rfl) (show BdP E mJ5_newCapacity_0f7a4 (xRm 2 43 0 0) 0 0 (fun z => o = z) 0 [some (.ref sb), some (.int (nI q)), none, none, none, none] [] [(sb, .inr (15, [.ref v, .int 0, .int 0, .int (nI n)])), (v, .inl (E.2.1.2.1.1, cap, .inl f))] 0 0 from ?_)
  refine Bd.seg ok_J5_newCapacity_0f7a4 0 [0] rfl (And.intro (And.intro rfl rfl) (show BdP E mJ5_newCapacity_0f7a4 (xRm 2 43 0 0) 0 0 (fun z => o = z) 4 [some (.ref sb), some (.int (nI q)), none, none, none, none] [.ref v] [(sb, .inr (15, [.ref v, .int 0, .int 0, .int (nI n)])), (v, .inl (E.2.1.2.1.1, cap, .inl f))] 0 0 from ?_))
  refine Bd.alen 1 1 rfl rfl rfl (xdec ok_J5_newCapacity_0f7a4 1 rfl) ?_
  show BdP E mJ5_newCapacity_0f7a4 (xRm 2 43 0 0) 0 0 (fun z => o = z) 5 [some (.ref sb), some (.int (nI q)), none, none, none, none] [.int (nI cap)] [(sb, .inr (15, [.ref v, .int 0, .int 0, .int (nI n)])), (v, .inl (E.2.1.2.1.1, cap, .inl f))] 0 0
  refine Bd.seg ok_J5_newCapacity_0f7a4 2 [0] rfl (And.intro (Nat.le_of_ble_eq_true rfl) (And.intro (And.intro rfl rfl) (show BdP E mJ5_newCapacity_0f7a4 (xRm 2 43 0 0) 0 0 (fun z => o = z) 11 [some (.ref sb), some (.int (nI q)), some (.int (nI cap)), none, none, none] [.int 0, .int (nI q)] [(sb, .inr (15, [.ref v, .int 0, .int 0, .int (nI n)])), (v, .inl (E.2.1.2.1.1, cap, .inl f))] 0 0 from ?_)))
  refine Bd.ishl (xdec ok_J5_newCapacity_0f7a4 3 rfl) ?_
  rw [sb_shl0]
  show BdP E mJ5_newCapacity_0f7a4 (xRm 2 43 0 0) 0 0 (fun z => o = z) 12 [some (.ref sb), some (.int (nI q)), some (.int (nI cap)), none, none, none] [.int (nI q)] [(sb, .inr (15, [.ref v, .int 0, .int 0, .int (nI n)])), (v, .inl (E.2.1.2.1.1, cap, .inl f))] 0 0
  refine Bd.seg ok_J5_newCapacity_0f7a4 4 [] rfl (And.intro (Nat.le_of_ble_eq_true rfl) (show BdP E mJ5_newCapacity_0f7a4 (xRm 2 43 0 0) 0 0 (fun z => o = z) 16 [some (.ref sb), some (.int (nI q)), some (.int (nI cap)), some (.int (nI q)), none, none] [.int ((nI q) - (nI cap))] [(sb, .inr (15, [.ref v, .int 0, .int 0, .int (nI n)])), (v, .inl (E.2.1.2.1.1, cap, .inl f))] 0 0 from ?_))
  rw [pk_sub (show cap ≤ q by omega)]
  show BdP E mJ5_newCapacity_0f7a4 (xRm 2 43 0 0) 0 0 (fun z => o = z) 16 [some (.ref sb), some (.int (nI q)), some (.int (nI cap)), some (.int (nI q)), none, none] [.int (nI (q - cap))] [(sb, .inr (15, [.ref v, .int 0, .int 0, .int (nI n)])), (v, .inl (E.2.1.2.1.1, cap, .inl f))] 0 0
  refine Bd.seg ok_J5_newCapacity_0f7a4 5 [0] rfl (And.intro (Nat.le_of_ble_eq_true rfl) (And.intro (And.intro rfl rfl) (show BdP E mJ5_newCapacity_0f7a4 (xRm 2 43 0 0) 0 0 (fun z => o = z) 27 [some (.ref sb), some (.int (nI q)), some (.int (nI cap)), some (.int (nI q)), some (.int (nI (q - cap))), none] [.int 0, .int 2, .int (nI cap), .int (nI (q - cap)), .int (nI cap)] [(sb, .inr (15, [.ref v, .int 0, .int 0, .int (nI n)])), (v, .inl (E.2.1.2.1.1, cap, .inl f))] 0 0 from ?_)))
  refine Bd.ishl (xdec ok_J5_newCapacity_0f7a4 6 rfl) ?_
  rw [sb_shl0]
  show BdP E mJ5_newCapacity_0f7a4 (xRm 2 43 0 0) 0 0 (fun z => o = z) 28 [some (.ref sb), some (.int (nI q)), some (.int (nI cap)), some (.int (nI q)), some (.int (nI (q - cap))), none] [.int 2, .int (nI cap), .int (nI (q - cap)), .int (nI cap)] [(sb, .inr (15, [.ref v, .int 0, .int 0, .int (nI n)])), (v, .inl (E.2.1.2.1.1, cap, .inl f))] 0 0
  refine Bd.seg ok_J5_newCapacity_0f7a4 7 [] rfl (show BdP E mJ5_newCapacity_0f7a4 (xRm 2 43 0 0) 0 0 (fun z => o = z) 29 [some (.ref sb), some (.int (nI q)), some (.int (nI cap)), some (.int (nI q)), some (.int (nI (q - cap))), none] [.int ((nI cap) + 2), .int (nI (q - cap)), .int (nI cap)] [(sb, .inr (15, [.ref v, .int 0, .int 0, .int (nI n)])), (v, .inl (E.2.1.2.1.1, cap, .inl f))] 0 0 from ?_)
  rw [show nI cap + 2 = nI (cap + 2) from nI_add cap 2]
  show BdP E mJ5_newCapacity_0f7a4 (xRm 2 43 0 0) 0 0 (fun z => o = z) 29 [some (.ref sb), some (.int (nI q)), some (.int (nI cap)), some (.int (nI q)), some (.int (nI (q - cap))), none] [.int (nI (cap + 2)), .int (nI (q - cap)), .int (nI cap)] [(sb, .inr (15, [.ref v, .int 0, .int 0, .int (nI n)])), (v, .inl (E.2.1.2.1.1, cap, .inl f))] 0 0
  refine Bd.callSr oJ8_newLength_cabcc vJ8_newLength_cabcc nJ8_newLength_cabcc k19_114 (xdec ok_J5_newCapacity_0f7a4 8 rfl) (As := [.int (nI cap), .int (nI (q - cap)), .int (nI (cap + 2))]) (rest := []) (s_J8_newLength_cabcc E cap (q - cap) (cap + 2) d hd (by have : 0 < d := (by rw [hd]; split <;> omega); omega) (by omega) (by omega) (by omega) _ rfl) ⟨(Nat.le_of_ble_eq_true rfl), (Nat.le_of_ble_eq_true rfl)⟩ rfl (Nat.le_of_ble_eq_true rfl) [] (by decide) rfl ⟨(Nat.le_of_ble_eq_true rfl), (Nat.le_of_ble_eq_true rfl)⟩ rfl ?_
  show BdP E mJ5_newCapacity_0f7a4 (xRm 2 43 0 0) 0 0 (fun z => o = z) 32 [some (.ref sb), some (.int (nI q)), some (.int (nI cap)), some (.int (nI q)), some (.int (nI (q - cap))), none] [.int (nI (cap + d))] [(sb, .inr (15, [.ref v, .int 0, .int 0, .int (nI n)])), (v, .inl (E.2.1.2.1.1, cap, .inl f))] 0 0
  refine Bd.seg ok_J5_newCapacity_0f7a4 9 [] rfl (And.intro (Nat.le_of_ble_eq_true rfl) (And.intro (fun c9 => (show BdP E mJ5_newCapacity_0f7a4 (xRm 2 43 0 0) 0 0 (fun z => o = z) 51 [some (.ref sb), some (.int (nI q)), some (.int (nI cap)), some (.int (nI q)), some (.int (nI (q - cap))), some (.int (nI (cap + d)))] [] [(sb, .inr (15, [.ref v, .int 0, .int 0, .int (nI n)])), (v, .inl (E.2.1.2.1.1, cap, .inl f))] 0 0 from ?_)) (fun c9 => absurd c9 (fun z9 => by have := (nI_eq (by omega) (by decide)).mp (show nI (cap + d) = nI 2147483647 from z9); omega))))
  refine Bd.seg ok_J5_newCapacity_0f7a4 10 [0] rfl (And.intro (And.intro rfl rfl) (show BdP E mJ5_newCapacity_0f7a4 (xRm 2 43 0 0) 0 0 (fun z => o = z) 58 [some (.ref sb), some (.int (nI q)), some (.int (nI cap)), some (.int (nI q)), some (.int (nI (q - cap))), some (.int (nI (cap + d)))] [.int ((nI (cap + d)) >>> (0 &&& 31))] [(sb, .inr (15, [.ref v, .int 0, .int 0, .int (nI n)])), (v, .inl (E.2.1.2.1.1, cap, .inl f))] 0 0 from ?_))
  rw [xsh0]
  show BdP E mJ5_newCapacity_0f7a4 (xRm 2 43 0 0) 0 0 (fun z => o = z) 58 [some (.ref sb), some (.int (nI q)), some (.int (nI cap)), some (.int (nI q)), some (.int (nI (q - cap))), some (.int (nI (cap + d)))] [.int (nI (cap + d))] [(sb, .inr (15, [.ref v, .int 0, .int 0, .int (nI n)])), (v, .inl (E.2.1.2.1.1, cap, .inl f))] 0 0
  refine Bd.seg ok_J5_newCapacity_0f7a4 11 [] rfl (And.intro (And.intro ho.symm (And.intro (Nat.le_of_ble_eq_true rfl) (Nat.le_of_ble_eq_true rfl))) True.intro)
theorem tnz : Int32.toNatClampNeg 0 = 0 := rfl
def tb_J7_copyOf_9075b : List (Nat × List xI) := [(0, [(.iload_n 1, [], 0), (.aload_n 0, [], 0)]), (2, [(.arraylength, [], 0)]), (3, [(.if_icmp .ne 11, [], 0)]), (14, [(.iload_n 1, [], 0)]), (17, [(.astore_n 2, [], 0), (.aload_n 0, [], 0), (.iconst 0, [], 0), (.aload_n 2, [], 0), (.iconst 0, [], 0), (.aload_n 0, [], 0)]), (23, [(.arraylength, [], 0)]), (24, [(.iload_n 1, [], 0)]), (25, [(.invokestatic 304, [], 0)]), (28, [(.invokestatic 150, [], 0)]), (31, [(.aload_n 2, [], 0)]), (32, [(.areturn, [], 0)])]
set_option maxRecDepth 100000 in
theorem ok_J7_copyOf_9075b : ∀ q ∈ tb_J7_copyOf_9075b, xChks mJ7_copyOf_9075b q.1 q.2 = true := by decide +kernel
theorem nJ7_copyOf_9075b : xNa mJ7_copyOf_9075b 2 := by delta xNa; decide +kernel
set_option maxHeartbeats 4000000 in
set_option maxRecDepth 100000 in
theorem s_J7_copyOf_9075b (E : xE) (v cap q : Nat) (f : Nat → Int32) (hf : sb_Fit f) (hq : cap < q) (hq2 : q ≤ 1000) (O : xO → Prop) (ho : ∀ (v2 : Nat) (f2 : Nat → Int32), (∀ j, j < cap → f2 j = f j) → sb_Fit f2 → O (.inl (some (.ref v2), [(v, .inl (E.2.1.2.1.1, cap, .inl f)), (v2, .inl (E.2.1.2.1.1, q, .inl f2))]))) : SpP E mJ7_copyOf_9075b (xRm 1 60 1 1000) [.ref v, .int (nI q)] [(v, .inl (E.2.1.2.1.1, cap, .inl f))] O := by
  refine Sp.of oJ7_copyOf_9075b (L := [some (.ref v), some (.int (nI q)), none]) rfl rfl (Nat.le_of_ble_eq_true rfl) (show BdP E mJ7_copyOf_9075b (xRm 1 60 1 1000) 1 1000 O 0 [some (.ref v), some (.int (nI q)), none] [] [(v, .inl (E.2.1.2.1.1, cap, .inl f))] 0 0 from ?_)
  refine Bd.seg ok_J7_copyOf_9075b 0 [] rfl (show BdP E mJ7_copyOf_9075b (xRm 1 60 1 1000) 1 1000 O 2 [some (.ref v), some (.int (nI q)), none] [.ref v, .int (nI q)] [(v, .inl (E.2.1.2.1.1, cap, .inl f))] 0 0 from ?_)
  refine Bd.alen 0 1 rfl rfl rfl (xdec ok_J7_copyOf_9075b 1 rfl) ?_
  show BdP E mJ7_copyOf_9075b (xRm 1 60 1 1000) 1 1000 O 3 [some (.ref v), some (.int (nI q)), none] [.int (nI cap), .int (nI q)] [(v, .inl (E.2.1.2.1.1, cap, .inl f))] 0 0
  refine Bd.seg ok_J7_copyOf_9075b 2 [] rfl (And.intro (fun c9 => (show BdP E mJ7_copyOf_9075b (xRm 1 60 1 1000) 1 1000 O 14 [some (.ref v), some (.int (nI q)), none] [] [(v, .inl (E.2.1.2.1.1, cap, .inl f))] 0 0 from ?_)) (fun c9 => absurd c9 (fun z9 => by have := (nI_eq (by omega) (by omega)).mp z9; omega)))
  refine Bd.seg ok_J7_copyOf_9075b 3 [] rfl (show BdP E mJ7_copyOf_9075b (xRm 1 60 1 1000) 1 1000 O 15 [some (.ref v), some (.int (nI q)), none] [.int (nI q)] [(v, .inl (E.2.1.2.1.1, cap, .inl f))] 0 0 from ?_)
  refine Bd.newb (N' := q) (nI_pos (by omega)) (nI_clamp (by omega)) (by omega) (Nat.le_of_ble_eq_true rfl) (show 0 + q ≤ 1000 by omega) (by decide +kernel) (fun v2 => ?_)
  refine Bd.wide (ck' := 1) (sk' := 1000) (Nat.le_of_ble_eq_true rfl) (show 0 + q ≤ 1000 by omega) ?_
  show BdP E mJ7_copyOf_9075b (xRm 1 60 1 1000) 1 1000 O 17 [some (.ref v), some (.int (nI q)), none] [.ref v2] [(v, .inl (E.2.1.2.1.1, cap, .inl f)), (v2, .inl (E.2.1.2.1.1, q, .inl (fun _ => 0)))] 1 1000
  refine Bd.seg ok_J7_copyOf_9075b 4 [] rfl (And.intro (Nat.le_of_ble_eq_true rfl) (show BdP E mJ7_copyOf_9075b (xRm 1 60 1 1000) 1 1000 O 23 [some (.ref v), some (.int (nI q)), some (.ref v2)] [.ref v, .int 0, .ref v2, .int 0, .ref v] [(v, .inl (E.2.1.2.1.1, cap, .inl f)), (v2, .inl (E.2.1.2.1.1, q, .inl (fun _ => 0)))] 1 1000 from ?_))
  refine Bd.alen 0 1 rfl rfl rfl (xdec ok_J7_copyOf_9075b 5 rfl) ?_
  show BdP E mJ7_copyOf_9075b (xRm 1 60 1 1000) 1 1000 O 24 [some (.ref v), some (.int (nI q)), some (.ref v2)] [.int (nI cap), .int 0, .ref v2, .int 0, .ref v] [(v, .inl (E.2.1.2.1.1, cap, .inl f)), (v2, .inl (E.2.1.2.1.1, q, .inl (fun _ => 0)))] 1 1000
  refine Bd.seg ok_J7_copyOf_9075b 6 [] rfl (show BdP E mJ7_copyOf_9075b (xRm 1 60 1 1000) 1 1000 O 25 [some (.ref v), some (.int (nI q)), some (.ref v2)] [.int (nI q), .int (nI cap), .int 0, .ref v2, .int 0, .ref v] [(v, .inl (E.2.1.2.1.1, cap, .inl f)), (v2, .inl (E.2.1.2.1.1, q, .inl (fun _ => 0)))] 1 1000 from ?_)
  refine Bd.mmin (xm4 (n := 2) rfl rfl) (xdec ok_J7_copyOf_9075b 7 rfl) ⟨(Nat.le_of_ble_eq_true rfl), (Nat.le_of_ble_eq_true rfl), (Nat.le_of_ble_eq_true rfl), (Nat.le_of_ble_eq_true rfl)⟩ ?_
  rw [if_neg (nI_nlt (by omega) (by omega))]
  show BdP E mJ7_copyOf_9075b (xRm 1 60 1 1000) 1 1000 O 28 [some (.ref v), some (.int (nI q)), some (.ref v2)] [.int (nI cap), .int 0, .ref v2, .int 0, .ref v] [(v, .inl (E.2.1.2.1.1, cap, .inl f)), (v2, .inl (E.2.1.2.1.1, q, .inl (fun _ => 0)))] 1 1000
  refine Bd.copyb 0 1 (xm4 (n := 5) rfl rfl) rfl rfl (by decide) (by decide) (nI_pos (by omega)) (by rw [nI_clamp (by omega), tnz]; omega) (by rw [nI_clamp (by omega), tnz]; omega) (fun j _ => hf _) ⟨(Nat.le_of_ble_eq_true rfl), (Nat.le_of_ble_eq_true rfl)⟩ (xdec ok_J7_copyOf_9075b 8 rfl) ?_
  show BdP E mJ7_copyOf_9075b (xRm 1 60 1 1000) 1 1000 O 31 [some (.ref v), some (.int (nI q)), some (.ref v2)] [] [(v, .inl (E.2.1.2.1.1, cap, .inl f)), (v2, .inl (E.2.1.2.1.1, q, .inl (va_cpy f (fun _ => 0) (Int32.toNatClampNeg 0) (Int32.toNatClampNeg 0) (Int32.toNatClampNeg (nI cap)))))] 1 1000
  refine Bd.seg ok_J7_copyOf_9075b 9 [] rfl (show BdP E mJ7_copyOf_9075b (xRm 1 60 1 1000) 1 1000 O 32 [some (.ref v), some (.int (nI q)), some (.ref v2)] [.ref v2] [(v, .inl (E.2.1.2.1.1, cap, .inl f)), (v2, .inl (E.2.1.2.1.1, q, .inl (va_cpy f (fun _ => 0) (Int32.toNatClampNeg 0) (Int32.toNatClampNeg 0) (Int32.toNatClampNeg (nI cap)))))] 1 1000 from ?_)
  exact Bd.areta (xdec ok_J7_copyOf_9075b 10 rfl) rfl (ho v2 _ (fun j hj => by rw [nI_clamp (by omega), tnz]; exact sb_cpy0 hj) (sb_fitC hf sb_fit0)) (Nat.le_of_ble_eq_true rfl) (Nat.le_of_ble_eq_true rfl)
theorem x_le0 {a b : Nat} (ha : a < 2 ^ 30) (hb : b < 2 ^ 30) : nI a - nI b ≤ 0 ↔ a ≤ b := by
  rw [Int32.le_iff_toInt_le, pk_sub_toInt ha hb, Int32.toInt_zero]; omega
def tb_J5_ensureCapacityInternal_d00df : List (Nat × List xI) := [(0, [(.aload_n 0, [], 0), (.getfield 15, [15, 0], 0)]), (4, [(.arraylength, [], 0)]), (5, [(.aload_n 0, [], 0), (.getfield 22, [15, 1], 0), (.ishr, [], 0)]), (10, [(.istore_n 2, [], 0), (.iload_n 1, [], 0), (.iload_n 2, [], 0), (.isub, [], 0), (.ifCond .le 24, [], 0)]), (38, [(.return_, [], 0)]), (17, [(.aload_n 0, [], 0), (.aload_n 0, [], 0), (.getfield 15, [15, 0], 0), (.aload_n 0, [], 0), (.iload_n 1, [], 0)]), (24, [(.invokevirtual 104, [], 0)]), (27, [(.aload_n 0, [], 0), (.getfield 22, [15, 1], 0)]), (31, [(.ishl, [], 0)]), (32, [(.invokestatic 108, [], 0)]), (35, [(.putfield 15, [15, 0, 0], 0), (.return_, [], 0)])]
set_option maxRecDepth 100000 in
theorem ok_J5_ensureCapacityInternal_d00df : ∀ q ∈ tb_J5_ensureCapacityInternal_d00df, xChks mJ5_ensureCapacityInternal_d00df q.1 q.2 = true := by decide +kernel
theorem nJ5_ensureCapacityInternal_d00df : xNa mJ5_ensureCapacityInternal_d00df 1 := by delta xNa; decide +kernel
set_option maxHeartbeats 4000000 in
set_option maxRecDepth 100000 in
theorem s_J5_ensureCapacityInternal_d00df (E : xE) (sb v cap n q : Nat) (f : Nat → Int32) (hf : sb_Fit f) (hc : cap ≤ 1000) (hq : q ≤ 400) (O : xO → Prop) (ho : ∀ (v2 cap2 : Nat) (f2 : Nat → Int32), (∀ j, j < cap → f2 j = f j) → sb_Fit f2 → q ≤ cap2 → cap2 ≤ 1000 → O (.inl (none, SBw E sb v2 cap2 f2 n))) : SpP E mJ5_ensureCapacityInternal_d00df (xRm 3 82 1 1000) [.ref sb, .int (nI q)] [(sb, .inr (15, [.ref v, .int 0, .int 0, .int (nI n)])), (v, .inl (E.2.1.2.1.1, cap, .inl f))] O := by
  refine Sp.of oJ5_ensureCapacityInternal_d00df (L := [some (.ref sb), some (.int (nI q)), none]) rfl rfl (Nat.le_of_ble_eq_true rfl) (show BdP E mJ5_ensureCapacityInternal_d00df (xRm 3 82 1 1000) 1 1000 O 0 [some (.ref sb), some (.int (nI q)), none] [] [(sb, .inr (15, [.ref v, .int 0, .int 0, .int (nI n)])), (v, .inl (E.2.1.2.1.1, cap, .inl f))] 0 0 from ?_)
  refine Bd.seg ok_J5_ensureCapacityInternal_d00df 0 [0] rfl (And.intro (And.intro rfl rfl) (show BdP E mJ5_ensureCapacityInternal_d00df (xRm 3 82 1 1000) 1 1000 O 4 [some (.ref sb), some (.int (nI q)), none] [.ref v] [(sb, .inr (15, [.ref v, .int 0, .int 0, .int (nI n)])), (v, .inl (E.2.1.2.1.1, cap, .inl f))] 0 0 from ?_))
  refine Bd.alen 1 1 rfl rfl rfl (xdec ok_J5_ensureCapacityInternal_d00df 1 rfl) ?_
  show BdP E mJ5_ensureCapacityInternal_d00df (xRm 3 82 1 1000) 1 1000 O 5 [some (.ref sb), some (.int (nI q)), none] [.int (nI cap)] [(sb, .inr (15, [.ref v, .int 0, .int 0, .int (nI n)])), (v, .inl (E.2.1.2.1.1, cap, .inl f))] 0 0
  refine Bd.seg ok_J5_ensureCapacityInternal_d00df 2 [0] rfl (And.intro (And.intro rfl rfl) (show BdP E mJ5_ensureCapacityInternal_d00df (xRm 3 82 1 1000) 1 1000 O 10 [some (.ref sb), some (.int (nI q)), none] [.int ((nI cap) >>> (0 &&& 31))] [(sb, .inr (15, [.ref v, .int 0, .int 0, .int (nI n)])), (v, .inl (E.2.1.2.1.1, cap, .inl f))] 0 0 from ?_))
  rw [xsh0]
  show BdP E mJ5_ensureCapacityInternal_d00df (xRm 3 82 1 1000) 1 1000 O 10 [some (.ref sb), some (.int (nI q)), none] [.int (nI cap)] [(sb, .inr (15, [.ref v, .int 0, .int 0, .int (nI n)])), (v, .inl (E.2.1.2.1.1, cap, .inl f))] 0 0
  refine Bd.seg ok_J5_ensureCapacityInternal_d00df 3 [] rfl (And.intro (Nat.le_of_ble_eq_true rfl) (And.intro (fun c9 => (show BdP E mJ5_ensureCapacityInternal_d00df (xRm 3 82 1 1000) 1 1000 O 38 [some (.ref sb), some (.int (nI q)), some (.int (nI cap))] [] [(sb, .inr (15, [.ref v, .int 0, .int 0, .int (nI n)])), (v, .inl (E.2.1.2.1.1, cap, .inl f))] 0 0 from ?_)) (fun c9 => (show BdP E mJ5_ensureCapacityInternal_d00df (xRm 3 82 1 1000) 1 1000 O 17 [some (.ref sb), some (.int (nI q)), some (.int (nI cap))] [] [(sb, .inr (15, [.ref v, .int 0, .int 0, .int (nI n)])), (v, .inl (E.2.1.2.1.1, cap, .inl f))] 0 0 from ?_))))
  · refine Bd.wide (ck' := 1) (sk' := 1000) (Nat.le_of_ble_eq_true rfl) (Nat.le_of_ble_eq_true rfl) ?_
    refine Bd.seg ok_J5_ensureCapacityInternal_d00df 4 [] rfl (And.intro (And.intro (ho v cap f (fun _ _ => rfl) hf ((x_le0 (by omega) (by omega)).mp c9) hc) (And.intro (Nat.le_of_ble_eq_true rfl) (Nat.le_of_ble_eq_true rfl))) True.intro)
  · have c2 : cap < q := by have := mt (x_le0 (a := q) (b := cap) (by omega) (by omega)).mpr c9; omega
    obtain ⟨d, hd⟩ : ∃ d : Nat, d = if q - cap < cap + 2 then cap + 2 else q - cap := ⟨_, rfl⟩
    have hd2 : q ≤ cap + d ∧ cap + d ≤ 1000 := by subst hd; split <;> omega
    refine Bd.seg ok_J5_ensureCapacityInternal_d00df 5 [0] rfl (And.intro (And.intro rfl rfl) (show BdP E mJ5_ensureCapacityInternal_d00df (xRm 3 82 1 1000) 1 1000 O 24 [some (.ref sb), some (.int (nI q)), some (.int (nI cap))] [.int (nI q), .ref sb, .ref v, .ref sb] [(sb, .inr (15, [.ref v, .int 0, .int 0, .int (nI n)])), (v, .inl (E.2.1.2.1.1, cap, .inl f))] 0 0 from ?_))
    refine Bd.eqW (M' := [(sb, .inr (15, [.ref v, .int 0, .int 0, .int (nI n)])), (v, .inl (E.2.1.2.1.1, cap, .inl f))] ++ []) rfl ?_
    refine Bd.callUa (x := ⟨"java/lang/AbstractStringBuilder", "newCapacity", "(I)I"⟩) (C := "java/lang/StringBuilder") (owner := "java/lang/AbstractStringBuilder") oJ5_newCapacity_0f7a4 (xm3 (n := 218) rfl rfl) (xm7 (n := 130) rfl rfl) vJ5_newCapacity_0f7a4.2 vJ5_newCapacity_0f7a4.1 rfl ⟨by decide, by decide⟩ (by show (parseMethodDescriptor _).map (fun d => d.parameters.length) = some 1; decide +kernel) (xdec ok_J5_ensureCapacityInternal_d00df 6 rfl) (As := [.int (nI q)]) (rest := [.ref v, .ref sb]) (Mc := [(sb, .inr (15, [.ref v, .int 0, .int 0, .int (nI n)])), (v, .inl (E.2.1.2.1.1, cap, .inl f))]) (Rest := []) (s_J5_newCapacity_0f7a4 E sb v cap n q d f hd (by omega) c2 (by omega) _ rfl) (fun X M h => by cases h) ⟨(Nat.le_of_ble_eq_true rfl), (Nat.le_of_ble_eq_true rfl)⟩ rfl (Nat.le_of_ble_eq_true rfl) 0 rfl rfl rfl ⟨(Nat.le_of_ble_eq_true rfl), (Nat.le_of_ble_eq_true rfl)⟩ (fun v9 M9 h9 => ?_)
    cases h9
    show BdP E mJ5_ensureCapacityInternal_d00df (xRm 3 82 1 1000) 1 1000 O 27 [some (.ref sb), some (.int (nI q)), some (.int (nI cap))] [.int (nI (cap + d)), .ref v, .ref sb] [(sb, .inr (15, [.ref v, .int 0, .int 0, .int (nI n)])), (v, .inl (E.2.1.2.1.1, cap, .inl f))] 0 0
    refine Bd.seg ok_J5_ensureCapacityInternal_d00df 7 [0] rfl (And.intro (And.intro rfl rfl) (show BdP E mJ5_ensureCapacityInternal_d00df (xRm 3 82 1 1000) 1 1000 O 31 [some (.ref sb), some (.int (nI q)), some (.int (nI cap))] [.int 0, .int (nI (cap + d)), .ref v, .ref sb] [(sb, .inr (15, [.ref v, .int 0, .int 0, .int (nI n)])), (v, .inl (E.2.1.2.1.1, cap, .inl f))] 0 0 from ?_))
    refine Bd.ishl (xdec ok_J5_ensureCapacityInternal_d00df 8 rfl) ?_
    rw [sb_shl0]
    show BdP E mJ5_ensureCapacityInternal_d00df (xRm 3 82 1 1000) 1 1000 O 32 [some (.ref sb), some (.int (nI q)), some (.int (nI cap))] [.int (nI (cap + d)), .ref v, .ref sb] [(sb, .inr (15, [.ref v, .int 0, .int 0, .int (nI n)])), (v, .inl (E.2.1.2.1.1, cap, .inl f))] 0 0
    refine Bd.perm (M' := [(v, .inl (E.2.1.2.1.1, cap, .inl f))] ++ [(sb, .inr (15, [.ref v, .int 0, .int 0, .int (nI n)]))]) (List.Perm.swap _ _ []) ?_
    refine Bd.callSa oJ7_copyOf_9075b vJ7_copyOf_9075b nJ7_copyOf_9075b k19_108 (xdec ok_J5_ensureCapacityInternal_d00df 9 rfl) (As := [.ref v, .int (nI (cap + d))]) (rest := [.ref sb]) (Mc := [(v, .inl (E.2.1.2.1.1, cap, .inl f))]) (Rest := [(sb, .inr (15, [.ref v, .int 0, .int 0, .int (nI n)]))]) (s_J7_copyOf_9075b E v cap (cap + d) f hf (by omega) (by omega) (fun z => ∃ (v2 : Nat) (f2 : Nat → Int32), (∀ j, j < cap → f2 j = f j) ∧ sb_Fit f2 ∧ z = .inl (some (.ref v2), [(v, .inl (E.2.1.2.1.1, cap, .inl f)), (v2, .inl (E.2.1.2.1.1, cap + d, .inl f2))])) (fun v2 f2 h1 h2 => ⟨v2, f2, h1, h2, rfl⟩)) ⟨(Nat.le_of_ble_eq_true rfl), (Nat.le_of_ble_eq_true rfl)⟩ rfl (Nat.le_of_ble_eq_true rfl) ⟨(Nat.le_of_ble_eq_true rfl), (Nat.le_of_ble_eq_true rfl)⟩ (fun X M h => by obtain ⟨_, _, _, _, h⟩ := h; cases h) (fun v9 M9 h9 => ?_)
    obtain ⟨v2, f2, h1, h2, h9⟩ := h9
    cases h9
    refine Bd.drop (M' := [(v2, .inl (E.2.1.2.1.1, (cap + d), .inl f2)), (sb, .inr (15, [.ref v, .int 0, .int 0, .int (nI n)]))]) (List.Sublist.cons _ (List.Sublist.refl _)) ?_
    refine Bd.perm (M' := [(sb, .inr (15, [.ref v, .int 0, .int 0, .int (nI n)])), (v2, .inl (E.2.1.2.1.1, (cap + d), .inl f2))]) (List.Perm.swap _ _ []) (show BdP E mJ5_ensureCapacityInternal_d00df (xRm 3 82 1 1000) 1 1000 O 35 [some (.ref sb), some (.int (nI q)), some (.int (nI cap))] [.ref v2, .ref sb] [(sb, .inr (15, [.ref v, .int 0, .int 0, .int (nI n)])), (v2, .inl (E.2.1.2.1.1, (cap + d), .inl f2))] 1 1000 from ?_)
    refine Bd.seg ok_J5_ensureCapacityInternal_d00df 10 [0] rfl (And.intro (And.intro rfl (And.intro rfl (Nat.le_of_ble_eq_true rfl))) (And.intro (And.intro rfl rfl) (And.intro (And.intro (ho v2 (cap + d) f2 h1 h2 hd2.1 hd2.2) (And.intro (Nat.le_of_ble_eq_true rfl) (Nat.le_of_ble_eq_true rfl))) True.intro)))
