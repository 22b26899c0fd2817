/-! MACHINE: the law's helpers: each calls the class and tells by a number what it threw -/
theorem cl13_13 : Cond.classLink (xCn 13) 13 "java/lang/IllegalStateException" ∈ xAll := xm5 (n := 18) rfl rfl
theorem cs13_13 : Cond.castable "java/lang/IllegalStateException" "java/lang/IllegalStateException" ∈ xOdd := List.mem_of_getElem? (i := 13) rfl
theorem cl13_19 : Cond.classLink (xCn 13) 19 "java/lang/IllegalArgumentException" ∈ xAll := xm5 (n := 102) rfl rfl
theorem cs13_19 : Cond.castable "java/lang/IllegalArgumentException" "java/lang/IllegalArgumentException" ∈ xOdd := List.mem_of_getElem? (i := 14) rfl
theorem cl13_24 : Cond.classLink (xCn 13) 24 "java/lang/IndexOutOfBoundsException" ∈ xAll := xm5 (n := 127) rfl rfl
theorem cs13_24 : Cond.castable "java/lang/IndexOutOfBoundsException" "java/lang/IndexOutOfBoundsException" ∈ xOdd := List.mem_of_getElem? (i := 15) rfl
theorem cl13_39 : Cond.classLink (xCn 13) 39 "java/util/NoSuchElementException" ∈ xAll := xm5 (n := 177) rfl rfl
theorem cs13_39 : Cond.castable "java/util/NoSuchElementException" "java/util/NoSuchElementException" ∈ xOdd := List.mem_of_getElem? (i := 16) rfl
def mL_append : xM := (yL_append, cL_append, 8, (some .int), 13)
def hL_append : List (Nat × Nat × Nat × Nat) := [(0, 16, 19, 13)]
theorem wL_append : Cond.codeWith mL_append.1 mL_append.2.1 mL_append.2.2.1 mL_append.2.2.2.1 hL_append ∈ xAll := xm5 (n := 17) rfl rfl
theorem vL_append : Cond.static mL_append.1 ∈ xAll := xm5 (n := 16) rfl rfl
theorem kL_append : Cond.methodLink (xCn 13) 122 mL_append.1 ∈ xAll := xm5 (n := 15) rfl rfl
def tb_L_append : List (Nat × List xI) := [(0, [(.aload 6, [], 0), (.iconst 0, [], 0), (.aload_n 0, [], 0), (.iload_n 1, [], 0), (.iload_n 2, [], 0), (.iload_n 3, [], 0), (.iload 4, [], 0), (.iload 5, [], 0)]), (11, [(.invokevirtual 7, [], 0)]), (14, [(.i2l, [], 0), (.lastore, [], 0), (.goto 7, [], 0)]), (23, [(.iconst 0, [], 0), (.ireturn, [], 0)]), (19, [(.astore 7, [], 0), (.iconst 1, [], 1), (.ireturn, [], 0)])]
set_option maxRecDepth 100000 in
theorem ok_L_append : ∀ q ∈ tb_L_append, xChks mL_append q.1 q.2 = true := by decide +kernel
set_option maxRecDepth 100000 in
theorem s_L_append {E : xE} {hx ho : Nat} {a0 a1 a2 a3 a4 : Int32} {v e : Int32} {k : Nat ⊕ Int32} {MX : va_W} {Φ : va_W → Prop} (g : Nat → Int64) (hsp : SpP E mX11_append (xRm 6 90 1 6) [.ref hx, .int a0, .int a1, .int a2, .int a3, .int a4] MX (fun z => ∃ MX', Φ MX' ∧ z = xOut (Sum.map id (fun r => some (Value.int r)) k) MX')) (ha : AnsT tS k v e) (h0 : ∃ vs, MX[0]? = some (hx, .inr (11, vs))) : HpP E mL_append hL_append (xRm 7 116 1 6) [.ref hx, .int a0, .int a1, .int a2, .int a3, .int a4, .ref ho] ((ho, .inl (E.2.1.2.1, 1, .inr (.inl g))) :: MX) (fun z => ∃ (MX' : va_W) (g' : Nat → Int64), Φ MX' ∧ (e = 0 → g' 0 = v.toInt64) ∧ z = .inl (some (.int e), (ho, .inl (E.2.1.2.1, 1, .inr (.inl g'))) :: MX')) := by
  obtain ⟨vs, h0⟩ := h0
  refine HpP.of rfl rfl (L := [some (.ref hx), some (.int a0), some (.int a1), some (.int a2), some (.int a3), some (.int a4), some (.ref ho), none]) rfl rfl (Nat.le_of_ble_eq_true rfl) ?_
  refine BdH.seg ok_L_append 0 [] rfl (show BdH E mL_append hL_append (xRm 7 116 1 6) 1 6 (fun z => ∃ (MX' : va_W) (g' : Nat → Int64), Φ MX' ∧ (e = 0 → g' 0 = v.toInt64) ∧ z = .inl (some (.int e), (ho, .inl (E.2.1.2.1, 1, .inr (.inl g'))) :: MX')) 11 [some (.ref hx), some (.int a0), some (.int a1), some (.int a2), some (.int a3), some (.int a4), some (.ref ho), none] [.int a4, .int a3, .int a2, .int a1, .int a0, .ref hx, .int 0, .ref ho] ((ho, .inl (E.2.1.2.1, 1, .inr (.inl g))) :: MX) 0 0 from ?_)
  refine BdH.pm (List.perm_append_singleton _ _).symm ?_
  refine BdH.call oX11_append vX11_append nX11_append k13_7 (xdec ok_L_append 1 rfl) (As := [.int a0, .int a1, .int a2, .int a3, .int a4]) (rest := [.int 0, .ref ho]) hsp ⟨Nat.le_of_ble_eq_true rfl, Nat.le_of_ble_eq_true rfl⟩ rfl (Nat.le_of_ble_eq_true rfl) 0 h0 rfl rfl ⟨Nat.le_of_ble_eq_true rfl, Nat.le_of_ble_eq_true rfl⟩ ?_ ?_
  · rintro X M' ⟨MX', hΦ, hz⟩
    rcases ha with ⟨rfl, rfl⟩ | ⟨n, rfl, rfl, rfl, hn⟩
    · cases hz
    · have hn2 : n = 0 := by
        unfold tS at hn
        exact Classical.byContradiction fun q => hn (if_neg q)
      cases hz
      subst hn2
      refine ⟨[], (0, 16, 19, 13), [], rfl, nofun, ⟨by decide, by decide⟩, by decide, cl13_13, cs13_13, fun q => ?_⟩
      refine BdH.pm (List.perm_append_singleton _ _) ?_
      refine BdH.seg ok_L_append 4 [] rfl ⟨Nat.le_of_ble_eq_true rfl, ⟨⟨_, g, hΦ, fun w => absurd w (by decide), rfl⟩, Nat.le_of_ble_eq_true rfl, Nat.le_of_ble_eq_true rfl⟩, trivial⟩
  · rintro w M' ⟨MX', hΦ, hz⟩
    rcases ha with ⟨rfl, rfl⟩ | ⟨n, rfl, -⟩
    · cases hz
      refine BdH.pm (List.perm_append_singleton _ _) ?_
      refine BdH.seg ok_L_append 2 [0] rfl ⟨⟨rfl, rfl⟩, xg (by decide), (show BdH E mL_append hL_append (xRm 7 116 1 6) 1 6 (fun z => ∃ (MX' : va_W) (g' : Nat → Int64), Φ MX' ∧ ((0 : Int32) = 0 → g' 0 = v.toInt64) ∧ z = .inl (some (.int 0), (ho, .inl (E.2.1.2.1, 1, .inr (.inl g'))) :: MX')) 23 [some (.ref hx), some (.int a0), some (.int a1), some (.int a2), some (.int a3), some (.int a4), some (.ref ho), none] [] ((ho, .inl (E.2.1.2.1, 1, .inr (.inl (vp_updL g (Int32.toNatClampNeg 0) v.toInt64)))) :: M') 1 6 from ?_)⟩
      exact BdH.seg ok_L_append 3 [] rfl ⟨⟨⟨_, vp_updL g (Int32.toNatClampNeg 0) v.toInt64, hΦ, fun _ => rfl, rfl⟩, Nat.le_of_ble_eq_true rfl, Nat.le_of_ble_eq_true rfl⟩, trivial⟩
    · cases hz
def mL_truncate : xM := (yL_truncate, cL_truncate, 4, (some .int), 13)
def hL_truncate : List (Nat × Nat × Nat × Nat) := [(0, 9, 12, 19)]
theorem wL_truncate : Cond.codeWith mL_truncate.1 mL_truncate.2.1 mL_truncate.2.2.1 mL_truncate.2.2.2.1 hL_truncate ∈ xAll := xm5 (n := 101) rfl rfl
theorem vL_truncate : Cond.static mL_truncate.1 ∈ xAll := xm5 (n := 100) rfl rfl
theorem kL_truncate : Cond.methodLink (xCn 13) 131 mL_truncate.1 ∈ xAll := xm5 (n := 99) rfl rfl
def tb_L_truncate : List (Nat × List xI) := [(0, [(.aload_n 2, [], 0), (.iconst 0, [], 0), (.aload_n 0, [], 0), (.iload_n 1, [], 0)]), (4, [(.invokevirtual 15, [], 0)]), (7, [(.i2l, [], 0), (.lastore, [], 0), (.goto 6, [], 0)]), (15, [(.iconst 0, [], 0), (.ireturn, [], 0)]), (12, [(.astore_n 3, [], 0), (.iconst 1, [], 1), (.ireturn, [], 0)])]
set_option maxRecDepth 100000 in
theorem ok_L_truncate : ∀ q ∈ tb_L_truncate, xChks mL_truncate q.1 q.2 = true := by decide +kernel
set_option maxRecDepth 100000 in
theorem s_L_truncate {E : xE} {hx ho : Nat} {a0 : Int32} {v e : Int32} {k : Nat ⊕ Int32} {MX : va_W} {Φ : va_W → Prop} (g : Nat → Int64) (hsp : SpP E mX11_truncate (xRm 6 90 1 6) [.ref hx, .int a0] MX (fun z => ∃ MX', Φ MX' ∧ z = xOut (Sum.map id (fun r => some (Value.int r)) k) MX')) (ha : AnsT tA k v e) (h0 : ∃ vs, MX[0]? = some (hx, .inr (11, vs))) : HpP E mL_truncate hL_truncate (xRm 7 111 1 6) [.ref hx, .int a0, .ref ho] ((ho, .inl (E.2.1.2.1, 1, .inr (.inl g))) :: MX) (fun z => ∃ (MX' : va_W) (g' : Nat → Int64), Φ MX' ∧ (e = 0 → g' 0 = v.toInt64) ∧ z = .inl (some (.int e), (ho, .inl (E.2.1.2.1, 1, .inr (.inl g'))) :: MX')) := by
  obtain ⟨vs, h0⟩ := h0
  refine HpP.of rfl rfl (L := [some (.ref hx), some (.int a0), some (.ref ho), none]) rfl rfl (Nat.le_of_ble_eq_true rfl) ?_
  refine BdH.seg ok_L_truncate 0 [] rfl (show BdH E mL_truncate hL_truncate (xRm 7 111 1 6) 1 6 (fun z => ∃ (MX' : va_W) (g' : Nat → Int64), Φ MX' ∧ (e = 0 → g' 0 = v.toInt64) ∧ z = .inl (some (.int e), (ho, .inl (E.2.1.2.1, 1, .inr (.inl g'))) :: MX')) 4 [some (.ref hx), some (.int a0), some (.ref ho), none] [.int a0, .ref hx, .int 0, .ref ho] ((ho, .inl (E.2.1.2.1, 1, .inr (.inl g))) :: MX) 0 0 from ?_)
  refine BdH.pm (List.perm_append_singleton _ _).symm ?_
  refine BdH.call oX11_truncate vX11_truncate nX11_truncate k13_15 (xdec ok_L_truncate 1 rfl) (As := [.int a0]) (rest := [.int 0, .ref ho]) hsp ⟨Nat.le_of_ble_eq_true rfl, Nat.le_of_ble_eq_true rfl⟩ rfl (Nat.le_of_ble_eq_true rfl) 0 h0 rfl rfl ⟨Nat.le_of_ble_eq_true rfl, Nat.le_of_ble_eq_true rfl⟩ ?_ ?_
  · rintro X M' ⟨MX', hΦ, hz⟩
    rcases ha with ⟨rfl, rfl⟩ | ⟨n, rfl, rfl, rfl, hn⟩
    · cases hz
    · have hn2 : n = 1 := by
        unfold tA at hn
        exact Classical.byContradiction fun q => hn (if_neg q)
      cases hz
      subst hn2
      refine ⟨[], (0, 9, 12, 19), [], rfl, nofun, ⟨by decide, by decide⟩, by decide, cl13_19, cs13_19, fun q => ?_⟩
      refine BdH.pm (List.perm_append_singleton _ _) ?_
      refine BdH.seg ok_L_truncate 4 [] rfl ⟨Nat.le_of_ble_eq_true rfl, ⟨⟨_, g, hΦ, fun w => absurd w (by decide), rfl⟩, Nat.le_of_ble_eq_true rfl, Nat.le_of_ble_eq_true rfl⟩, trivial⟩
  · rintro w M' ⟨MX', hΦ, hz⟩
    rcases ha with ⟨rfl, rfl⟩ | ⟨n, rfl, -⟩
    · cases hz
      refine BdH.pm (List.perm_append_singleton _ _) ?_
      refine BdH.seg ok_L_truncate 2 [0] rfl ⟨⟨rfl, rfl⟩, xg (by decide), (show BdH E mL_truncate hL_truncate (xRm 7 111 1 6) 1 6 (fun z => ∃ (MX' : va_W) (g' : Nat → Int64), Φ MX' ∧ ((0 : Int32) = 0 → g' 0 = v.toInt64) ∧ z = .inl (some (.int 0), (ho, .inl (E.2.1.2.1, 1, .inr (.inl g'))) :: MX')) 15 [some (.ref hx), some (.int a0), some (.ref ho), none] [] ((ho, .inl (E.2.1.2.1, 1, .inr (.inl (vp_updL g (Int32.toNatClampNeg 0) v.toInt64)))) :: M') 1 6 from ?_)⟩
      exact BdH.seg ok_L_truncate 3 [] rfl ⟨⟨⟨_, vp_updL g (Int32.toNatClampNeg 0) v.toInt64, hΦ, fun _ => rfl, rfl⟩, Nat.le_of_ble_eq_true rfl, Nat.le_of_ble_eq_true rfl⟩, trivial⟩
    · cases hz
def mL_limitOf : xM := (yL_limitOf, cL_limitOf, 4, (some .int), 13)
def hL_limitOf : List (Nat × Nat × Nat × Nat) := [(0, 9, 12, 24)]
theorem wL_limitOf : Cond.codeWith mL_limitOf.1 mL_limitOf.2.1 mL_limitOf.2.2.1 mL_limitOf.2.2.2.1 hL_limitOf ∈ xAll := xm5 (n := 126) rfl rfl
theorem vL_limitOf : Cond.static mL_limitOf.1 ∈ xAll := xm5 (n := 125) rfl rfl
theorem kL_limitOf : Cond.methodLink (xCn 13) 187 mL_limitOf.1 ∈ xAll := xm5 (n := 124) rfl rfl
def tb_L_limitOf : List (Nat × List xI) := [(0, [(.aload_n 2, [], 0), (.iconst 0, [], 0), (.aload_n 0, [], 0), (.iload_n 1, [], 0)]), (4, [(.invokevirtual 21, [], 0)]), (7, [(.i2l, [], 0), (.lastore, [], 0), (.goto 6, [], 0)]), (15, [(.iconst 0, [], 0), (.ireturn, [], 0)]), (12, [(.astore_n 3, [], 0), (.iconst 1, [], 1), (.ireturn, [], 0)])]
set_option maxRecDepth 100000 in
theorem ok_L_limitOf : ∀ q ∈ tb_L_limitOf, xChks mL_limitOf q.1 q.2 = true := by decide +kernel
set_option maxRecDepth 100000 in
theorem s_L_limitOf {E : xE} {hx ho : Nat} {a0 : Int32} {v e : Int32} {k : Nat ⊕ Int32} {MX : va_W} {Φ : va_W → Prop} (g : Nat → Int64) (hsp : SpP E mX11_limitOf (xRm 7 111 1 6) [.ref hx, .int a0] MX (fun z => ∃ MX', Φ MX' ∧ z = xOut (Sum.map id (fun r => some (Value.int r)) k) MX')) (ha : AnsT tI k v e) (h0 : ∃ vs, MX[0]? = some (hx, .inr (11, vs))) : HpP E mL_limitOf hL_limitOf (xRm 8 132 1 6) [.ref hx, .int a0, .ref ho] ((ho, .inl (E.2.1.2.1, 1, .inr (.inl g))) :: MX) (fun z => ∃ (MX' : va_W) (g' : Nat → Int64), Φ MX' ∧ (e = 0 → g' 0 = v.toInt64) ∧ z = .inl (some (.int e), (ho, .inl (E.2.1.2.1, 1, .inr (.inl g'))) :: MX')) := by
  obtain ⟨vs, h0⟩ := h0
  refine HpP.of rfl rfl (L := [some (.ref hx), some (.int a0), some (.ref ho), none]) rfl rfl (Nat.le_of_ble_eq_true rfl) ?_
  refine BdH.seg ok_L_limitOf 0 [] rfl (show BdH E mL_limitOf hL_limitOf (xRm 8 132 1 6) 1 6 (fun z => ∃ (MX' : va_W) (g' : Nat → Int64), Φ MX' ∧ (e = 0 → g' 0 = v.toInt64) ∧ z = .inl (some (.int e), (ho, .inl (E.2.1.2.1, 1, .inr (.inl g'))) :: MX')) 4 [some (.ref hx), some (.int a0), some (.ref ho), none] [.int a0, .ref hx, .int 0, .ref ho] ((ho, .inl (E.2.1.2.1, 1, .inr (.inl g))) :: MX) 0 0 from ?_)
  refine BdH.pm (List.perm_append_singleton _ _).symm ?_
  refine BdH.call oX11_limitOf vX11_limitOf nX11_limitOf k13_21 (xdec ok_L_limitOf 1 rfl) (As := [.int a0]) (rest := [.int 0, .ref ho]) hsp ⟨Nat.le_of_ble_eq_true rfl, Nat.le_of_ble_eq_true rfl⟩ rfl (Nat.le_of_ble_eq_true rfl) 0 h0 rfl rfl ⟨Nat.le_of_ble_eq_true rfl, Nat.le_of_ble_eq_true rfl⟩ ?_ ?_
  · rintro X M' ⟨MX', hΦ, hz⟩
    rcases ha with ⟨rfl, rfl⟩ | ⟨n, rfl, rfl, rfl, hn⟩
    · cases hz
    · have hn2 : n = 2 := by
        unfold tI at hn
        exact Classical.byContradiction fun q => hn (if_neg q)
      cases hz
      subst hn2
      refine ⟨[], (0, 9, 12, 24), [], rfl, nofun, ⟨by decide, by decide⟩, by decide, cl13_24, cs13_24, fun q => ?_⟩
      refine BdH.pm (List.perm_append_singleton _ _) ?_
      refine BdH.seg ok_L_limitOf 4 [] rfl ⟨Nat.le_of_ble_eq_true rfl, ⟨⟨_, g, hΦ, fun w => absurd w (by decide), rfl⟩, Nat.le_of_ble_eq_true rfl, Nat.le_of_ble_eq_true rfl⟩, trivial⟩
  · rintro w M' ⟨MX', hΦ, hz⟩
    rcases ha with ⟨rfl, rfl⟩ | ⟨n, rfl, -⟩
    · cases hz
      refine BdH.pm (List.perm_append_singleton _ _) ?_
      refine BdH.seg ok_L_limitOf 2 [0] rfl ⟨⟨rfl, rfl⟩, xg (by decide), (show BdH E mL_limitOf hL_limitOf (xRm 8 132 1 6) 1 6 (fun z => ∃ (MX' : va_W) (g' : Nat → Int64), Φ MX' ∧ ((0 : Int32) = 0 → g' 0 = v.toInt64) ∧ z = .inl (some (.int 0), (ho, .inl (E.2.1.2.1, 1, .inr (.inl g'))) :: MX')) 15 [some (.ref hx), some (.int a0), some (.ref ho), none] [] ((ho, .inl (E.2.1.2.1, 1, .inr (.inl (vp_updL g (Int32.toNatClampNeg 0) v.toInt64)))) :: M') 1 6 from ?_)⟩
      exact BdH.seg ok_L_limitOf 3 [] rfl ⟨⟨⟨_, vp_updL g (Int32.toNatClampNeg 0) v.toInt64, hΦ, fun _ => rfl, rfl⟩, Nat.le_of_ble_eq_true rfl, Nat.le_of_ble_eq_true rfl⟩, trivial⟩
    · cases hz
def mL_temperatureOf : xM := (yL_temperatureOf, cL_temperatureOf, 4, (some .int), 13)
def hL_temperatureOf : List (Nat × Nat × Nat × Nat) := [(0, 9, 12, 24)]
theorem wL_temperatureOf : Cond.codeWith mL_temperatureOf.1 mL_temperatureOf.2.1 mL_temperatureOf.2.2.1 mL_temperatureOf.2.2.2.1 hL_temperatureOf ∈ xAll := xm5 (n := 155) rfl rfl
theorem vL_temperatureOf : Cond.static mL_temperatureOf.1 ∈ xAll := xm5 (n := 154) rfl rfl
theorem kL_temperatureOf : Cond.methodLink (xCn 13) 190 mL_temperatureOf.1 ∈ xAll := xm5 (n := 153) rfl rfl
def tb_L_temperatureOf : List (Nat × List xI) := [(0, [(.aload_n 2, [], 0), (.iconst 0, [], 0), (.aload_n 0, [], 0), (.iload_n 1, [], 0)]), (4, [(.invokevirtual 26, [], 0)]), (7, [(.i2l, [], 0), (.lastore, [], 0), (.goto 6, [], 0)]), (15, [(.iconst 0, [], 0), (.ireturn, [], 0)]), (12, [(.astore_n 3, [], 0), (.iconst 1, [], 1), (.ireturn, [], 0)])]
set_option maxRecDepth 100000 in
theorem ok_L_temperatureOf : ∀ q ∈ tb_L_temperatureOf, xChks mL_temperatureOf q.1 q.2 = true := by decide +kernel
set_option maxRecDepth 100000 in
theorem s_L_temperatureOf {E : xE} {hx ho : Nat} {a0 : Int32} {v e : Int32} {k : Nat ⊕ Int32} {MX : va_W} {Φ : va_W → Prop} (g : Nat → Int64) (hsp : SpP E mX11_temperatureOf (xRm 7 111 1 6) [.ref hx, .int a0] MX (fun z => ∃ MX', Φ MX' ∧ z = xOut (Sum.map id (fun r => some (Value.int r)) k) MX')) (ha : AnsT tI k v e) (h0 : ∃ vs, MX[0]? = some (hx, .inr (11, vs))) : HpP E mL_temperatureOf hL_temperatureOf (xRm 8 132 1 6) [.ref hx, .int a0, .ref ho] ((ho, .inl (E.2.1.2.1, 1, .inr (.inl g))) :: MX) (fun z => ∃ (MX' : va_W) (g' : Nat → Int64), Φ MX' ∧ (e = 0 → g' 0 = v.toInt64) ∧ z = .inl (some (.int e), (ho, .inl (E.2.1.2.1, 1, .inr (.inl g'))) :: MX')) := by
  obtain ⟨vs, h0⟩ := h0
  refine HpP.of rfl rfl (L := [some (.ref hx), some (.int a0), some (.ref ho), none]) rfl rfl (Nat.le_of_ble_eq_true rfl) ?_
  refine BdH.seg ok_L_temperatureOf 0 [] rfl (show BdH E mL_temperatureOf hL_temperatureOf (xRm 8 132 1 6) 1 6 (fun z => ∃ (MX' : va_W) (g' : Nat → Int64), Φ MX' ∧ (e = 0 → g' 0 = v.toInt64) ∧ z = .inl (some (.int e), (ho, .inl (E.2.1.2.1, 1, .inr (.inl g'))) :: MX')) 4 [some (.ref hx), some (.int a0), some (.ref ho), none] [.int a0, .ref hx, .int 0, .ref ho] ((ho, .inl (E.2.1.2.1, 1, .inr (.inl g))) :: MX) 0 0 from ?_)
  refine BdH.pm (List.perm_append_singleton _ _).symm ?_
  refine BdH.call oX11_temperatureOf vX11_temperatureOf nX11_temperatureOf k13_26 (xdec ok_L_temperatureOf 1 rfl) (As := [.int a0]) (rest := [.int 0, .ref ho]) hsp ⟨Nat.le_of_ble_eq_true rfl, Nat.le_of_ble_eq_true rfl⟩ rfl (Nat.le_of_ble_eq_true rfl) 0 h0 rfl rfl ⟨Nat.le_of_ble_eq_true rfl, Nat.le_of_ble_eq_true rfl⟩ ?_ ?_
  · rintro X M' ⟨MX', hΦ, hz⟩
    rcases ha with ⟨rfl, rfl⟩ | ⟨n, rfl, rfl, rfl, hn⟩
    · cases hz
    · have hn2 : n = 2 := by
        unfold tI at hn
        exact Classical.byContradiction fun q => hn (if_neg q)
      cases hz
      subst hn2
      refine ⟨[], (0, 9, 12, 24), [], rfl, nofun, ⟨by decide, by decide⟩, by decide, cl13_24, cs13_24, fun q => ?_⟩
      refine BdH.pm (List.perm_append_singleton _ _) ?_
      refine BdH.seg ok_L_temperatureOf 4 [] rfl ⟨Nat.le_of_ble_eq_true rfl, ⟨⟨_, g, hΦ, fun w => absurd w (by decide), rfl⟩, Nat.le_of_ble_eq_true rfl, Nat.le_of_ble_eq_true rfl⟩, trivial⟩
  · rintro w M' ⟨MX', hΦ, hz⟩
    rcases ha with ⟨rfl, rfl⟩ | ⟨n, rfl, -⟩
    · cases hz
      refine BdH.pm (List.perm_append_singleton _ _) ?_
      refine BdH.seg ok_L_temperatureOf 2 [0] rfl ⟨⟨rfl, rfl⟩, xg (by decide), (show BdH E mL_temperatureOf hL_temperatureOf (xRm 8 132 1 6) 1 6 (fun z => ∃ (MX' : va_W) (g' : Nat → Int64), Φ MX' ∧ ((0 : Int32) = 0 → g' 0 = v.toInt64) ∧ z = .inl (some (.int 0), (ho, .inl (E.2.1.2.1, 1, .inr (.inl g'))) :: MX')) 15 [some (.ref hx), some (.int a0), some (.ref ho), none] [] ((ho, .inl (E.2.1.2.1, 1, .inr (.inl (vp_updL g (Int32.toNatClampNeg 0) v.toInt64)))) :: M') 1 6 from ?_)⟩
      exact BdH.seg ok_L_temperatureOf 3 [] rfl ⟨⟨⟨_, vp_updL g (Int32.toNatClampNeg 0) v.toInt64, hΦ, fun _ => rfl, rfl⟩, Nat.le_of_ble_eq_true rfl, Nat.le_of_ble_eq_true rfl⟩, trivial⟩
    · cases hz
def mL_hasLoad : xM := (yL_hasLoad, cL_hasLoad, 4, (some .int), 13)
def hL_hasLoad : List (Nat × Nat × Nat × Nat) := [(0, 16, 19, 24)]
theorem wL_hasLoad : Cond.codeWith mL_hasLoad.1 mL_hasLoad.2.1 mL_hasLoad.2.2.1 mL_hasLoad.2.2.2.1 hL_hasLoad ∈ xAll := xm5 (n := 162) rfl rfl
theorem vL_hasLoad : Cond.static mL_hasLoad.1 ∈ xAll := xm5 (n := 161) rfl rfl
theorem kL_hasLoad : Cond.methodLink (xCn 13) 193 mL_hasLoad.1 ∈ xAll := xm5 (n := 160) rfl rfl
def tb_L_hasLoad : List (Nat × List xI) := [(0, [(.aload_n 2, [], 0), (.iconst 0, [], 0), (.aload_n 0, [], 0), (.iload_n 1, [], 0)]), (4, [(.invokevirtual 29, [], 0)]), (7, [(.ifCond .eq 7, [], 0)]), (10, [(.lconst 1, [], 0), (.goto 4, [], 0)]), (14, [(.lconst 0, [], 0), (.lastore, [], 0), (.goto 6, [], 0)]), (15, [(.lastore, [], 0), (.goto 6, [], 0)]), (22, [(.iconst 0, [], 0), (.ireturn, [], 0)]), (19, [(.astore_n 3, [], 0), (.iconst 1, [], 1), (.ireturn, [], 0)])]
set_option maxRecDepth 100000 in
theorem ok_L_hasLoad : ∀ q ∈ tb_L_hasLoad, xChks mL_hasLoad q.1 q.2 = true := by decide +kernel
set_option maxRecDepth 100000 in
theorem s_L_hasLoad {E : xE} {hx ho : Nat} {a0 : Int32} {v e : Int32} {k : Nat ⊕ Int32} {MX : va_W} {Φ : va_W → Prop} (g : Nat → Int64) (hsp : SpP E mX11_hasLoad (xRm 7 111 1 6) [.ref hx, .int a0] MX (fun z => ∃ MX', Φ MX' ∧ z = xOut (Sum.map id (fun r => some (Value.int r)) k) MX')) (ha : AnsT tI k v e) (h0 : ∃ vs, MX[0]? = some (hx, .inr (11, vs))) : HpP E mL_hasLoad hL_hasLoad (xRm 8 132 1 6) [.ref hx, .int a0, .ref ho] ((ho, .inl (E.2.1.2.1, 1, .inr (.inl g))) :: MX) (fun z => ∃ (MX' : va_W) (g' : Nat → Int64), Φ MX' ∧ (e = 0 → g' 0 = (if v = 0 then 0 else 1)) ∧ z = .inl (some (.int e), (ho, .inl (E.2.1.2.1, 1, .inr (.inl g'))) :: MX')) := by
  obtain ⟨vs, h0⟩ := h0
  refine HpP.of rfl rfl (L := [some (.ref hx), some (.int a0), some (.ref ho), none]) rfl rfl (Nat.le_of_ble_eq_true rfl) ?_
  refine BdH.seg ok_L_hasLoad 0 [] rfl (show BdH E mL_hasLoad hL_hasLoad (xRm 8 132 1 6) 1 6 (fun z => ∃ (MX' : va_W) (g' : Nat → Int64), Φ MX' ∧ (e = 0 → g' 0 = (if v = 0 then 0 else 1)) ∧ z = .inl (some (.int e), (ho, .inl (E.2.1.2.1, 1, .inr (.inl g'))) :: MX')) 4 [some (.ref hx), some (.int a0), some (.ref ho), none] [.int a0, .ref hx, .int 0, .ref ho] ((ho, .inl (E.2.1.2.1, 1, .inr (.inl g))) :: MX) 0 0 from ?_)
  refine BdH.pm (List.perm_append_singleton _ _).symm ?_
  refine BdH.call oX11_hasLoad vX11_hasLoad nX11_hasLoad k13_29 (xdec ok_L_hasLoad 1 rfl) (As := [.int a0]) (rest := [.int 0, .ref ho]) hsp ⟨Nat.le_of_ble_eq_true rfl, Nat.le_of_ble_eq_true rfl⟩ rfl (Nat.le_of_ble_eq_true rfl) 0 h0 rfl rfl ⟨Nat.le_of_ble_eq_true rfl, Nat.le_of_ble_eq_true rfl⟩ ?_ ?_
  · rintro X M' ⟨MX', hΦ, hz⟩
    rcases ha with ⟨rfl, rfl⟩ | ⟨n, rfl, rfl, rfl, hn⟩
    · cases hz
    · have hn2 : n = 2 := by
        unfold tI at hn
        exact Classical.byContradiction fun q => hn (if_neg q)
      cases hz
      subst hn2
      refine ⟨[], (0, 16, 19, 24), [], rfl, nofun, ⟨by decide, by decide⟩, by decide, cl13_24, cs13_24, fun q => ?_⟩
      refine BdH.pm (List.perm_append_singleton _ _) ?_
      refine BdH.seg ok_L_hasLoad 7 [] rfl ⟨Nat.le_of_ble_eq_true rfl, ⟨⟨_, g, hΦ, fun w => absurd w (by decide), rfl⟩, Nat.le_of_ble_eq_true rfl, Nat.le_of_ble_eq_true rfl⟩, trivial⟩
  · rintro w M' ⟨MX', hΦ, hz⟩
    rcases ha with ⟨rfl, rfl⟩ | ⟨n, rfl, -⟩
    · cases hz
      refine BdH.pm (List.perm_append_singleton _ _) ?_
      refine BdH.seg ok_L_hasLoad 2 [] rfl ⟨fun c => (show BdH E mL_hasLoad hL_hasLoad (xRm 8 132 1 6) 1 6 (fun z => ∃ (MX' : va_W) (g' : Nat → Int64), Φ MX' ∧ ((0 : Int32) = 0 → g' 0 = (if v = 0 then 0 else 1)) ∧ z = .inl (some (.int 0), (ho, .inl (E.2.1.2.1, 1, .inr (.inl g'))) :: MX')) 14 [some (.ref hx), some (.int a0), some (.ref ho), none] [.int 0, .ref ho] ((ho, .inl (E.2.1.2.1, 1, .inr (.inl g))) :: M') 1 6 from ?_), fun c => (show BdH E mL_hasLoad hL_hasLoad (xRm 8 132 1 6) 1 6 (fun z => ∃ (MX' : va_W) (g' : Nat → Int64), Φ MX' ∧ ((0 : Int32) = 0 → g' 0 = (if v = 0 then 0 else 1)) ∧ z = .inl (some (.int 0), (ho, .inl (E.2.1.2.1, 1, .inr (.inl g'))) :: MX')) 10 [some (.ref hx), some (.int a0), some (.ref ho), none] [.int 0, .ref ho] ((ho, .inl (E.2.1.2.1, 1, .inr (.inl g))) :: M') 1 6 from ?_)⟩
      · refine BdH.seg ok_L_hasLoad 4 [0] rfl ⟨⟨rfl, rfl⟩, xg (by decide), (show BdH E mL_hasLoad hL_hasLoad (xRm 8 132 1 6) 1 6 (fun z => ∃ (MX' : va_W) (g' : Nat → Int64), Φ MX' ∧ ((0 : Int32) = 0 → g' 0 = (if v = 0 then 0 else 1)) ∧ z = .inl (some (.int 0), (ho, .inl (E.2.1.2.1, 1, .inr (.inl g'))) :: MX')) 22 [some (.ref hx), some (.int a0), some (.ref ho), none] [] ((ho, .inl (E.2.1.2.1, 1, .inr (.inl (vp_updL g (Int32.toNatClampNeg 0) (Int64.ofNat 0))))) :: M') 1 6 from ?_)⟩
        exact BdH.seg ok_L_hasLoad 6 [] rfl ⟨⟨⟨_, vp_updL g (Int32.toNatClampNeg 0) (Int64.ofNat 0), hΦ, fun _ => by rw [if_pos c]; rfl, rfl⟩, Nat.le_of_ble_eq_true rfl, Nat.le_of_ble_eq_true rfl⟩, trivial⟩
      · refine BdH.seg ok_L_hasLoad 3 [] rfl (show BdH E mL_hasLoad hL_hasLoad (xRm 8 132 1 6) 1 6 (fun z => ∃ (MX' : va_W) (g' : Nat → Int64), Φ MX' ∧ ((0 : Int32) = 0 → g' 0 = (if v = 0 then 0 else 1)) ∧ z = .inl (some (.int 0), (ho, .inl (E.2.1.2.1, 1, .inr (.inl g'))) :: MX')) 15 [some (.ref hx), some (.int a0), some (.ref ho), none] [.long (Int64.ofNat 1), .int 0, .ref ho] ((ho, .inl (E.2.1.2.1, 1, .inr (.inl g))) :: M') 1 6 from ?_)
        refine BdH.seg ok_L_hasLoad 5 [0] rfl ⟨⟨rfl, rfl⟩, xg (by decide), (show BdH E mL_hasLoad hL_hasLoad (xRm 8 132 1 6) 1 6 (fun z => ∃ (MX' : va_W) (g' : Nat → Int64), Φ MX' ∧ ((0 : Int32) = 0 → g' 0 = (if v = 0 then 0 else 1)) ∧ z = .inl (some (.int 0), (ho, .inl (E.2.1.2.1, 1, .inr (.inl g'))) :: MX')) 22 [some (.ref hx), some (.int a0), some (.ref ho), none] [] ((ho, .inl (E.2.1.2.1, 1, .inr (.inl (vp_updL g (Int32.toNatClampNeg 0) (Int64.ofNat 1))))) :: M') 1 6 from ?_)⟩
        exact BdH.seg ok_L_hasLoad 6 [] rfl ⟨⟨⟨_, vp_updL g (Int32.toNatClampNeg 0) (Int64.ofNat 1), hΦ, fun _ => by rw [if_neg c]; rfl, rfl⟩, Nat.le_of_ble_eq_true rfl, Nat.le_of_ble_eq_true rfl⟩, trivial⟩
    · cases hz
def mL_massOn : xM := (yL_massOn, cL_massOn, 4, (some .int), 13)
def hL_massOn : List (Nat × Nat × Nat × Nat) := [(0, 9, 12, 24)]
theorem wL_massOn : Cond.codeWith mL_massOn.1 mL_massOn.2.1 mL_massOn.2.2.1 mL_massOn.2.2.2.1 hL_massOn ∈ xAll := xm5 (n := 169) rfl rfl
theorem vL_massOn : Cond.static mL_massOn.1 ∈ xAll := xm5 (n := 168) rfl rfl
theorem kL_massOn : Cond.methodLink (xCn 13) 196 mL_massOn.1 ∈ xAll := xm5 (n := 167) rfl rfl
def tb_L_massOn : List (Nat × List xI) := [(0, [(.aload_n 2, [], 0), (.iconst 0, [], 0), (.aload_n 0, [], 0), (.iload_n 1, [], 0)]), (4, [(.invokevirtual 33, [], 0)]), (7, [(.i2l, [], 0), (.lastore, [], 0), (.goto 6, [], 0)]), (15, [(.iconst 0, [], 0), (.ireturn, [], 0)]), (12, [(.astore_n 3, [], 0), (.iconst 1, [], 1), (.ireturn, [], 0)])]
set_option maxRecDepth 100000 in
theorem ok_L_massOn : ∀ q ∈ tb_L_massOn, xChks mL_massOn q.1 q.2 = true := by decide +kernel
set_option maxRecDepth 100000 in
theorem s_L_massOn {E : xE} {hx ho : Nat} {a0 : Int32} {v e : Int32} {k : Nat ⊕ Int32} {MX : va_W} {Φ : va_W → Prop} (g : Nat → Int64) (hsp : SpP E mX11_massOn (xRm 7 111 1 6) [.ref hx, .int a0] MX (fun z => ∃ MX', Φ MX' ∧ z = xOut (Sum.map id (fun r => some (Value.int r)) k) MX')) (ha : AnsT tI k v e) (h0 : ∃ vs, MX[0]? = some (hx, .inr (11, vs))) : HpP E mL_massOn hL_massOn (xRm 8 132 1 6) [.ref hx, .int a0, .ref ho] ((ho, .inl (E.2.1.2.1, 1, .inr (.inl g))) :: MX) (fun z => ∃ (MX' : va_W) (g' : Nat → Int64), Φ MX' ∧ (e = 0 → g' 0 = v.toInt64) ∧ z = .inl (some (.int e), (ho, .inl (E.2.1.2.1, 1, .inr (.inl g'))) :: MX')) := by
  obtain ⟨vs, h0⟩ := h0
  refine HpP.of rfl rfl (L := [some (.ref hx), some (.int a0), some (.ref ho), none]) rfl rfl (Nat.le_of_ble_eq_true rfl) ?_
  refine BdH.seg ok_L_massOn 0 [] rfl (show BdH E mL_massOn hL_massOn (xRm 8 132 1 6) 1 6 (fun z => ∃ (MX' : va_W) (g' : Nat → Int64), Φ MX' ∧ (e = 0 → g' 0 = v.toInt64) ∧ z = .inl (some (.int e), (ho, .inl (E.2.1.2.1, 1, .inr (.inl g'))) :: MX')) 4 [some (.ref hx), some (.int a0), some (.ref ho), none] [.int a0, .ref hx, .int 0, .ref ho] ((ho, .inl (E.2.1.2.1, 1, .inr (.inl g))) :: MX) 0 0 from ?_)
  refine BdH.pm (List.perm_append_singleton _ _).symm ?_
  refine BdH.call oX11_massOn vX11_massOn nX11_massOn k13_33 (xdec ok_L_massOn 1 rfl) (As := [.int a0]) (rest := [.int 0, .ref ho]) hsp ⟨Nat.le_of_ble_eq_true rfl, Nat.le_of_ble_eq_true rfl⟩ rfl (Nat.le_of_ble_eq_true rfl) 0 h0 rfl rfl ⟨Nat.le_of_ble_eq_true rfl, Nat.le_of_ble_eq_true rfl⟩ ?_ ?_
  · rintro X M' ⟨MX', hΦ, hz⟩
    rcases ha with ⟨rfl, rfl⟩ | ⟨n, rfl, rfl, rfl, hn⟩
    · cases hz
    · have hn2 : n = 2 := by
        unfold tI at hn
        exact Classical.byContradiction fun q => hn (if_neg q)
      cases hz
      subst hn2
      refine ⟨[], (0, 9, 12, 24), [], rfl, nofun, ⟨by decide, by decide⟩, by decide, cl13_24, cs13_24, fun q => ?_⟩
      refine BdH.pm (List.perm_append_singleton _ _) ?_
      refine BdH.seg ok_L_massOn 4 [] rfl ⟨Nat.le_of_ble_eq_true rfl, ⟨⟨_, g, hΦ, fun w => absurd w (by decide), rfl⟩, Nat.le_of_ble_eq_true rfl, Nat.le_of_ble_eq_true rfl⟩, trivial⟩
  · rintro w M' ⟨MX', hΦ, hz⟩
    rcases ha with ⟨rfl, rfl⟩ | ⟨n, rfl, -⟩
    · cases hz
      refine BdH.pm (List.perm_append_singleton _ _) ?_
      refine BdH.seg ok_L_massOn 2 [0] rfl ⟨⟨rfl, rfl⟩, xg (by decide), (show BdH E mL_massOn hL_massOn (xRm 8 132 1 6) 1 6 (fun z => ∃ (MX' : va_W) (g' : Nat → Int64), Φ MX' ∧ ((0 : Int32) = 0 → g' 0 = v.toInt64) ∧ z = .inl (some (.int 0), (ho, .inl (E.2.1.2.1, 1, .inr (.inl g'))) :: MX')) 15 [some (.ref hx), some (.int a0), some (.ref ho), none] [] ((ho, .inl (E.2.1.2.1, 1, .inr (.inl (vp_updL g (Int32.toNatClampNeg 0) v.toInt64)))) :: M') 1 6 from ?_)⟩
      exact BdH.seg ok_L_massOn 3 [] rfl ⟨⟨⟨_, vp_updL g (Int32.toNatClampNeg 0) v.toInt64, hΦ, fun _ => rfl, rfl⟩, Nat.le_of_ble_eq_true rfl, Nat.le_of_ble_eq_true rfl⟩, trivial⟩
    · cases hz
def mL_moistureOn : xM := (yL_moistureOn, cL_moistureOn, 4, (some .int), 13)
def hL_moistureOn : List (Nat × Nat × Nat × Nat) := [(0, 9, 12, 24), (0, 9, 15, 39)]
theorem wL_moistureOn : Cond.codeWith mL_moistureOn.1 mL_moistureOn.2.1 mL_moistureOn.2.2.1 mL_moistureOn.2.2.2.1 hL_moistureOn ∈ xAll := xm5 (n := 176) rfl rfl
theorem vL_moistureOn : Cond.static mL_moistureOn.1 ∈ xAll := xm5 (n := 175) rfl rfl
theorem kL_moistureOn : Cond.methodLink (xCn 13) 199 mL_moistureOn.1 ∈ xAll := xm5 (n := 174) rfl rfl
def tb_L_moistureOn : List (Nat × List xI) := [(0, [(.aload_n 2, [], 0), (.iconst 0, [], 0), (.aload_n 0, [], 0), (.iload_n 1, [], 0)]), (4, [(.invokevirtual 36, [], 0)]), (7, [(.i2l, [], 0), (.lastore, [], 0), (.goto 9, [], 0)]), (18, [(.iconst 0, [], 0), (.ireturn, [], 0)]), (12, [(.astore_n 3, [], 0), (.iconst 1, [], 1), (.ireturn, [], 0)]), (15, [(.astore_n 3, [], 0), (.iconst 2, [], 2), (.ireturn, [], 0)])]
set_option maxRecDepth 100000 in
theorem ok_L_moistureOn : ∀ q ∈ tb_L_moistureOn, xChks mL_moistureOn q.1 q.2 = true := by decide +kernel
set_option maxRecDepth 100000 in
theorem s_L_moistureOn {E : xE} {hx ho : Nat} {a0 : Int32} {v e : Int32} {k : Nat ⊕ Int32} {MX : va_W} {Φ : va_W → Prop} (g : Nat → Int64) (hsp : SpP E mX11_moistureOn (xRm 7 111 2 12) [.ref hx, .int a0] MX (fun z => ∃ MX', Φ MX' ∧ z = xOut (Sum.map id (fun r => some (Value.int r)) k) MX')) (ha : AnsT tM k v e) (h0 : ∃ vs, MX[0]? = some (hx, .inr (11, vs))) : HpP E mL_moistureOn hL_moistureOn (xRm 8 132 2 12) [.ref hx, .int a0, .ref ho] ((ho, .inl (E.2.1.2.1, 1, .inr (.inl g))) :: MX) (fun z => ∃ (MX' : va_W) (g' : Nat → Int64), Φ MX' ∧ (e = 0 → g' 0 = v.toInt64) ∧ z = .inl (some (.int e), (ho, .inl (E.2.1.2.1, 1, .inr (.inl g'))) :: MX')) := by
  obtain ⟨vs, h0⟩ := h0
  refine HpP.of rfl rfl (L := [some (.ref hx), some (.int a0), some (.ref ho), none]) rfl rfl (Nat.le_of_ble_eq_true rfl) ?_
  refine BdH.seg ok_L_moistureOn 0 [] rfl (show BdH E mL_moistureOn hL_moistureOn (xRm 8 132 2 12) 2 12 (fun z => ∃ (MX' : va_W) (g' : Nat → Int64), Φ MX' ∧ (e = 0 → g' 0 = v.toInt64) ∧ z = .inl (some (.int e), (ho, .inl (E.2.1.2.1, 1, .inr (.inl g'))) :: MX')) 4 [some (.ref hx), some (.int a0), some (.ref ho), none] [.int a0, .ref hx, .int 0, .ref ho] ((ho, .inl (E.2.1.2.1, 1, .inr (.inl g))) :: MX) 0 0 from ?_)
  refine BdH.pm (List.perm_append_singleton _ _).symm ?_
  refine BdH.call oX11_moistureOn vX11_moistureOn nX11_moistureOn k13_36 (xdec ok_L_moistureOn 1 rfl) (As := [.int a0]) (rest := [.int 0, .ref ho]) hsp ⟨Nat.le_of_ble_eq_true rfl, Nat.le_of_ble_eq_true rfl⟩ rfl (Nat.le_of_ble_eq_true rfl) 0 h0 rfl rfl ⟨Nat.le_of_ble_eq_true rfl, Nat.le_of_ble_eq_true rfl⟩ ?_ ?_
  · rintro X M' ⟨MX', hΦ, hz⟩
    rcases ha with ⟨rfl, rfl⟩ | ⟨n, rfl, rfl, rfl, hn⟩
    · cases hz
    · have hn2 : n = 2 ∨ n = 3 := by
        unfold tM at hn
        exact Classical.byContradiction fun q => hn (by rw [if_neg (fun w => q (Or.inl w)), if_neg (fun w => q (Or.inr w))])
      cases hz
      rcases hn2 with rfl | rfl
      · refine ⟨[], (0, 9, 12, 24), [(0, 9, 15, 39)], rfl, nofun, ⟨by decide, by decide⟩, by decide, cl13_24, cs13_24, fun q => ?_⟩
        refine BdH.pm (List.perm_append_singleton _ _) ?_
        refine BdH.seg ok_L_moistureOn 4 [] rfl ⟨Nat.le_of_ble_eq_true rfl, ⟨⟨_, g, hΦ, fun w => absurd w (by decide), rfl⟩, Nat.le_of_ble_eq_true rfl, Nat.le_of_ble_eq_true rfl⟩, trivial⟩
      · refine ⟨[(0, 9, 12, 24)], (0, 9, 15, 39), [], rfl, fun z hz => by
          obtain rfl := List.mem_singleton.mp hz
          exact ⟨by decide, _, cl13_24, by decide⟩, ⟨by decide, by decide⟩, by decide, cl13_39, cs13_39, fun q => ?_⟩
        refine BdH.pm (List.perm_append_singleton _ _) ?_
        refine BdH.seg ok_L_moistureOn 5 [] rfl ⟨Nat.le_of_ble_eq_true rfl, ⟨⟨_, g, hΦ, fun w => absurd w (by decide), rfl⟩, Nat.le_of_ble_eq_true rfl, Nat.le_of_ble_eq_true rfl⟩, trivial⟩
  · rintro w M' ⟨MX', hΦ, hz⟩
    rcases ha with ⟨rfl, rfl⟩ | ⟨n, rfl, -⟩
    · cases hz
      refine BdH.pm (List.perm_append_singleton _ _) ?_
      refine BdH.seg ok_L_moistureOn 2 [0] rfl ⟨⟨rfl, rfl⟩, xg (by decide), (show BdH E mL_moistureOn hL_moistureOn (xRm 8 132 2 12) 2 12 (fun z => ∃ (MX' : va_W) (g' : Nat → Int64), Φ MX' ∧ ((0 : Int32) = 0 → g' 0 = v.toInt64) ∧ z = .inl (some (.int 0), (ho, .inl (E.2.1.2.1, 1, .inr (.inl g'))) :: MX')) 18 [some (.ref hx), some (.int a0), some (.ref ho), none] [] ((ho, .inl (E.2.1.2.1, 1, .inr (.inl (vp_updL g (Int32.toNatClampNeg 0) v.toInt64)))) :: M') 2 12 from ?_)⟩
      exact BdH.seg ok_L_moistureOn 3 [] rfl ⟨⟨⟨_, vp_updL g (Int32.toNatClampNeg 0) v.toInt64, hΦ, fun _ => rfl, rfl⟩, Nat.le_of_ble_eq_true rfl, Nat.le_of_ble_eq_true rfl⟩, trivial⟩
    · cases hz
def mL_scorchOn : xM := (yL_scorchOn, cL_scorchOn, 4, (some .int), 13)
def hL_scorchOn : List (Nat × Nat × Nat × Nat) := [(0, 9, 12, 24), (0, 9, 15, 39)]
theorem wL_scorchOn : Cond.codeWith mL_scorchOn.1 mL_scorchOn.2.1 mL_scorchOn.2.2.1 mL_scorchOn.2.2.2.1 hL_scorchOn ∈ xAll := xm5 (n := 204) rfl rfl
theorem vL_scorchOn : Cond.static mL_scorchOn.1 ∈ xAll := xm5 (n := 203) rfl rfl
theorem kL_scorchOn : Cond.methodLink (xCn 13) 202 mL_scorchOn.1 ∈ xAll := xm5 (n := 202) rfl rfl
def tb_L_scorchOn : List (Nat × List xI) := [(0, [(.aload_n 2, [], 0), (.iconst 0, [], 0), (.aload_n 0, [], 0), (.iload_n 1, [], 0)]), (4, [(.invokevirtual 41, [], 0)]), (7, [(.i2l, [], 0), (.lastore, [], 0), (.goto 9, [], 0)]), (18, [(.iconst 0, [], 0), (.ireturn, [], 0)]), (12, [(.astore_n 3, [], 0), (.iconst 1, [], 1), (.ireturn, [], 0)]), (15, [(.astore_n 3, [], 0), (.iconst 2, [], 2), (.ireturn, [], 0)])]
set_option maxRecDepth 100000 in
theorem ok_L_scorchOn : ∀ q ∈ tb_L_scorchOn, xChks mL_scorchOn q.1 q.2 = true := by decide +kernel
set_option maxRecDepth 100000 in
theorem s_L_scorchOn {E : xE} {hx ho : Nat} {a0 : Int32} {v e : Int32} {k : Nat ⊕ Int32} {MX : va_W} {Φ : va_W → Prop} (g : Nat → Int64) (hsp : SpP E mX11_scorchOn (xRm 7 111 2 12) [.ref hx, .int a0] MX (fun z => ∃ MX', Φ MX' ∧ z = xOut (Sum.map id (fun r => some (Value.int r)) k) MX')) (ha : AnsT tM k v e) (h0 : ∃ vs, MX[0]? = some (hx, .inr (11, vs))) : HpP E mL_scorchOn hL_scorchOn (xRm 8 132 2 12) [.ref hx, .int a0, .ref ho] ((ho, .inl (E.2.1.2.1, 1, .inr (.inl g))) :: MX) (fun z => ∃ (MX' : va_W) (g' : Nat → Int64), Φ MX' ∧ (e = 0 → g' 0 = v.toInt64) ∧ z = .inl (some (.int e), (ho, .inl (E.2.1.2.1, 1, .inr (.inl g'))) :: MX')) := by
  obtain ⟨vs, h0⟩ := h0
  refine HpP.of rfl rfl (L := [some (.ref hx), some (.int a0), some (.ref ho), none]) rfl rfl (Nat.le_of_ble_eq_true rfl) ?_
  refine BdH.seg ok_L_scorchOn 0 [] rfl (show BdH E mL_scorchOn hL_scorchOn (xRm 8 132 2 12) 2 12 (fun z => ∃ (MX' : va_W) (g' : Nat → Int64), Φ MX' ∧ (e = 0 → g' 0 = v.toInt64) ∧ z = .inl (some (.int e), (ho, .inl (E.2.1.2.1, 1, .inr (.inl g'))) :: MX')) 4 [some (.ref hx), some (.int a0), some (.ref ho), none] [.int a0, .ref hx, .int 0, .ref ho] ((ho, .inl (E.2.1.2.1, 1, .inr (.inl g))) :: MX) 0 0 from ?_)
  refine BdH.pm (List.perm_append_singleton _ _).symm ?_
  refine BdH.call oX11_scorchOn vX11_scorchOn nX11_scorchOn k13_41 (xdec ok_L_scorchOn 1 rfl) (As := [.int a0]) (rest := [.int 0, .ref ho]) hsp ⟨Nat.le_of_ble_eq_true rfl, Nat.le_of_ble_eq_true rfl⟩ rfl (Nat.le_of_ble_eq_true rfl) 0 h0 rfl rfl ⟨Nat.le_of_ble_eq_true rfl, Nat.le_of_ble_eq_true rfl⟩ ?_ ?_
  · rintro X M' ⟨MX', hΦ, hz⟩
    rcases ha with ⟨rfl, rfl⟩ | ⟨n, rfl, rfl, rfl, hn⟩
    · cases hz
    · have hn2 : n = 2 ∨ n = 3 := by
        unfold tM at hn
        exact Classical.byContradiction fun q => hn (by rw [if_neg (fun w => q (Or.inl w)), if_neg (fun w => q (Or.inr w))])
      cases hz
      rcases hn2 with rfl | rfl
      · refine ⟨[], (0, 9, 12, 24), [(0, 9, 15, 39)], rfl, nofun, ⟨by decide, by decide⟩, by decide, cl13_24, cs13_24, fun q => ?_⟩
        refine BdH.pm (List.perm_append_singleton _ _) ?_
        refine BdH.seg ok_L_scorchOn 4 [] rfl ⟨Nat.le_of_ble_eq_true rfl, ⟨⟨_, g, hΦ, fun w => absurd w (by decide), rfl⟩, Nat.le_of_ble_eq_true rfl, Nat.le_of_ble_eq_true rfl⟩, trivial⟩
      · refine ⟨[(0, 9, 12, 24)], (0, 9, 15, 39), [], rfl, fun z hz => by
          obtain rfl := List.mem_singleton.mp hz
          exact ⟨by decide, _, cl13_24, by decide⟩, ⟨by decide, by decide⟩, by decide, cl13_39, cs13_39, fun q => ?_⟩
        refine BdH.pm (List.perm_append_singleton _ _) ?_
        refine BdH.seg ok_L_scorchOn 5 [] rfl ⟨Nat.le_of_ble_eq_true rfl, ⟨⟨_, g, hΦ, fun w => absurd w (by decide), rfl⟩, Nat.le_of_ble_eq_true rfl, Nat.le_of_ble_eq_true rfl⟩, trivial⟩
  · rintro w M' ⟨MX', hΦ, hz⟩
    rcases ha with ⟨rfl, rfl⟩ | ⟨n, rfl, -⟩
    · cases hz
      refine BdH.pm (List.perm_append_singleton _ _) ?_
      refine BdH.seg ok_L_scorchOn 2 [0] rfl ⟨⟨rfl, rfl⟩, xg (by decide), (show BdH E mL_scorchOn hL_scorchOn (xRm 8 132 2 12) 2 12 (fun z => ∃ (MX' : va_W) (g' : Nat → Int64), Φ MX' ∧ ((0 : Int32) = 0 → g' 0 = v.toInt64) ∧ z = .inl (some (.int 0), (ho, .inl (E.2.1.2.1, 1, .inr (.inl g'))) :: MX')) 18 [some (.ref hx), some (.int a0), some (.ref ho), none] [] ((ho, .inl (E.2.1.2.1, 1, .inr (.inl (vp_updL g (Int32.toNatClampNeg 0) v.toInt64)))) :: M') 2 12 from ?_)⟩
      exact BdH.seg ok_L_scorchOn 3 [] rfl ⟨⟨⟨_, vp_updL g (Int32.toNatClampNeg 0) v.toInt64, hΦ, fun _ => rfl, rfl⟩, Nat.le_of_ble_eq_true rfl, Nat.le_of_ble_eq_true rfl⟩, trivial⟩
    · cases hz
def mL_isDry : xM := (yL_isDry, cL_isDry, 4, (some .int), 13)
def hL_isDry : List (Nat × Nat × Nat × Nat) := [(0, 16, 19, 24)]
theorem wL_isDry : Cond.codeWith mL_isDry.1 mL_isDry.2.1 mL_isDry.2.2.1 mL_isDry.2.2.2.1 hL_isDry ∈ xAll := xm5 (n := 211) rfl rfl
theorem vL_isDry : Cond.static mL_isDry.1 ∈ xAll := xm5 (n := 210) rfl rfl
theorem kL_isDry : Cond.methodLink (xCn 13) 205 mL_isDry.1 ∈ xAll := xm5 (n := 209) rfl rfl
def tb_L_isDry : List (Nat × List xI) := [(0, [(.aload_n 2, [], 0), (.iconst 0, [], 0), (.aload_n 0, [], 0), (.iload_n 1, [], 0)]), (4, [(.invokevirtual 44, [], 0)]), (7, [(.ifCond .eq 7, [], 0)]), (10, [(.lconst 1, [], 0), (.goto 4, [], 0)]), (14, [(.lconst 0, [], 0), (.lastore, [], 0), (.goto 6, [], 0)]), (15, [(.lastore, [], 0), (.goto 6, [], 0)]), (22, [(.iconst 0, [], 0), (.ireturn, [], 0)]), (19, [(.astore_n 3, [], 0), (.iconst 1, [], 1), (.ireturn, [], 0)])]
set_option maxRecDepth 100000 in
theorem ok_L_isDry : ∀ q ∈ tb_L_isDry, xChks mL_isDry q.1 q.2 = true := by decide +kernel
set_option maxRecDepth 100000 in
theorem s_L_isDry {E : xE} {hx ho : Nat} {a0 : Int32} {v e : Int32} {k : Nat ⊕ Int32} {MX : va_W} {Φ : va_W → Prop} (g : Nat → Int64) (hsp : SpP E mX11_isDry (xRm 7 111 1 6) [.ref hx, .int a0] MX (fun z => ∃ MX', Φ MX' ∧ z = xOut (Sum.map id (fun r => some (Value.int r)) k) MX')) (ha : AnsT tI k v e) (h0 : ∃ vs, MX[0]? = some (hx, .inr (11, vs))) : HpP E mL_isDry hL_isDry (xRm 8 132 1 6) [.ref hx, .int a0, .ref ho] ((ho, .inl (E.2.1.2.1, 1, .inr (.inl g))) :: MX) (fun z => ∃ (MX' : va_W) (g' : Nat → Int64), Φ MX' ∧ (e = 0 → g' 0 = (if v = 0 then 0 else 1)) ∧ z = .inl (some (.int e), (ho, .inl (E.2.1.2.1, 1, .inr (.inl g'))) :: MX')) := by
  obtain ⟨vs, h0⟩ := h0
  refine HpP.of rfl rfl (L := [some (.ref hx), some (.int a0), some (.ref ho), none]) rfl rfl (Nat.le_of_ble_eq_true rfl) ?_
  refine BdH.seg ok_L_isDry 0 [] rfl (show BdH E mL_isDry hL_isDry (xRm 8 132 1 6) 1 6 (fun z => ∃ (MX' : va_W) (g' : Nat → Int64), Φ MX' ∧ (e = 0 → g' 0 = (if v = 0 then 0 else 1)) ∧ z = .inl (some (.int e), (ho, .inl (E.2.1.2.1, 1, .inr (.inl g'))) :: MX')) 4 [some (.ref hx), some (.int a0), some (.ref ho), none] [.int a0, .ref hx, .int 0, .ref ho] ((ho, .inl (E.2.1.2.1, 1, .inr (.inl g))) :: MX) 0 0 from ?_)
  refine BdH.pm (List.perm_append_singleton _ _).symm ?_
  refine BdH.call oX11_isDry vX11_isDry nX11_isDry k13_44 (xdec ok_L_isDry 1 rfl) (As := [.int a0]) (rest := [.int 0, .ref ho]) hsp ⟨Nat.le_of_ble_eq_true rfl, Nat.le_of_ble_eq_true rfl⟩ rfl (Nat.le_of_ble_eq_true rfl) 0 h0 rfl rfl ⟨Nat.le_of_ble_eq_true rfl, Nat.le_of_ble_eq_true rfl⟩ ?_ ?_
  · rintro X M' ⟨MX', hΦ, hz⟩
    rcases ha with ⟨rfl, rfl⟩ | ⟨n, rfl, rfl, rfl, hn⟩
    · cases hz
    · have hn2 : n = 2 := by
        unfold tI at hn
        exact Classical.byContradiction fun q => hn (if_neg q)
      cases hz
      subst hn2
      refine ⟨[], (0, 16, 19, 24), [], rfl, nofun, ⟨by decide, by decide⟩, by decide, cl13_24, cs13_24, fun q => ?_⟩
      refine BdH.pm (List.perm_append_singleton _ _) ?_
      refine BdH.seg ok_L_isDry 7 [] rfl ⟨Nat.le_of_ble_eq_true rfl, ⟨⟨_, g, hΦ, fun w => absurd w (by decide), rfl⟩, Nat.le_of_ble_eq_true rfl, Nat.le_of_ble_eq_true rfl⟩, trivial⟩
  · rintro w M' ⟨MX', hΦ, hz⟩
    rcases ha with ⟨rfl, rfl⟩ | ⟨n, rfl, -⟩
    · cases hz
      refine BdH.pm (List.perm_append_singleton _ _) ?_
      refine BdH.seg ok_L_isDry 2 [] rfl ⟨fun c => (show BdH E mL_isDry hL_isDry (xRm 8 132 1 6) 1 6 (fun z => ∃ (MX' : va_W) (g' : Nat → Int64), Φ MX' ∧ ((0 : Int32) = 0 → g' 0 = (if v = 0 then 0 else 1)) ∧ z = .inl (some (.int 0), (ho, .inl (E.2.1.2.1, 1, .inr (.inl g'))) :: MX')) 14 [some (.ref hx), some (.int a0), some (.ref ho), none] [.int 0, .ref ho] ((ho, .inl (E.2.1.2.1, 1, .inr (.inl g))) :: M') 1 6 from ?_), fun c => (show BdH E mL_isDry hL_isDry (xRm 8 132 1 6) 1 6 (fun z => ∃ (MX' : va_W) (g' : Nat → Int64), Φ MX' ∧ ((0 : Int32) = 0 → g' 0 = (if v = 0 then 0 else 1)) ∧ z = .inl (some (.int 0), (ho, .inl (E.2.1.2.1, 1, .inr (.inl g'))) :: MX')) 10 [some (.ref hx), some (.int a0), some (.ref ho), none] [.int 0, .ref ho] ((ho, .inl (E.2.1.2.1, 1, .inr (.inl g))) :: M') 1 6 from ?_)⟩
      · refine BdH.seg ok_L_isDry 4 [0] rfl ⟨⟨rfl, rfl⟩, xg (by decide), (show BdH E mL_isDry hL_isDry (xRm 8 132 1 6) 1 6 (fun z => ∃ (MX' : va_W) (g' : Nat → Int64), Φ MX' ∧ ((0 : Int32) = 0 → g' 0 = (if v = 0 then 0 else 1)) ∧ z = .inl (some (.int 0), (ho, .inl (E.2.1.2.1, 1, .inr (.inl g'))) :: MX')) 22 [some (.ref hx), some (.int a0), some (.ref ho), none] [] ((ho, .inl (E.2.1.2.1, 1, .inr (.inl (vp_updL g (Int32.toNatClampNeg 0) (Int64.ofNat 0))))) :: M') 1 6 from ?_)⟩
        exact BdH.seg ok_L_isDry 6 [] rfl ⟨⟨⟨_, vp_updL g (Int32.toNatClampNeg 0) (Int64.ofNat 0), hΦ, fun _ => by rw [if_pos c]; rfl, rfl⟩, Nat.le_of_ble_eq_true rfl, Nat.le_of_ble_eq_true rfl⟩, trivial⟩
      · refine BdH.seg ok_L_isDry 3 [] rfl (show BdH E mL_isDry hL_isDry (xRm 8 132 1 6) 1 6 (fun z => ∃ (MX' : va_W) (g' : Nat → Int64), Φ MX' ∧ ((0 : Int32) = 0 → g' 0 = (if v = 0 then 0 else 1)) ∧ z = .inl (some (.int 0), (ho, .inl (E.2.1.2.1, 1, .inr (.inl g'))) :: MX')) 15 [some (.ref hx), some (.int a0), some (.ref ho), none] [.long (Int64.ofNat 1), .int 0, .ref ho] ((ho, .inl (E.2.1.2.1, 1, .inr (.inl g))) :: M') 1 6 from ?_)
        refine BdH.seg ok_L_isDry 5 [0] rfl ⟨⟨rfl, rfl⟩, xg (by decide), (show BdH E mL_isDry hL_isDry (xRm 8 132 1 6) 1 6 (fun z => ∃ (MX' : va_W) (g' : Nat → Int64), Φ MX' ∧ ((0 : Int32) = 0 → g' 0 = (if v = 0 then 0 else 1)) ∧ z = .inl (some (.int 0), (ho, .inl (E.2.1.2.1, 1, .inr (.inl g'))) :: MX')) 22 [some (.ref hx), some (.int a0), some (.ref ho), none] [] ((ho, .inl (E.2.1.2.1, 1, .inr (.inl (vp_updL g (Int32.toNatClampNeg 0) (Int64.ofNat 1))))) :: M') 1 6 from ?_)⟩
        exact BdH.seg ok_L_isDry 6 [] rfl ⟨⟨⟨_, vp_updL g (Int32.toNatClampNeg 0) (Int64.ofNat 1), hΦ, fun _ => by rw [if_neg c]; rfl, rfl⟩, Nat.le_of_ble_eq_true rfl, Nat.le_of_ble_eq_true rfl⟩, trivial⟩
    · cases hz
def mL_dryingOn : xM := (yL_dryingOn, cL_dryingOn, 4, (some .int), 13)
def hL_dryingOn : List (Nat × Nat × Nat × Nat) := [(0, 9, 12, 24)]
theorem wL_dryingOn : Cond.codeWith mL_dryingOn.1 mL_dryingOn.2.1 mL_dryingOn.2.2.1 mL_dryingOn.2.2.2.1 hL_dryingOn ∈ xAll := xm5 (n := 219) rfl rfl
theorem vL_dryingOn : Cond.static mL_dryingOn.1 ∈ xAll := xm5 (n := 218) rfl rfl
theorem kL_dryingOn : Cond.methodLink (xCn 13) 208 mL_dryingOn.1 ∈ xAll := xm5 (n := 217) rfl rfl
def tb_L_dryingOn : List (Nat × List xI) := [(0, [(.aload_n 2, [], 0), (.iconst 0, [], 0), (.aload_n 0, [], 0), (.iload_n 1, [], 0)]), (4, [(.invokevirtual 47, [], 0)]), (7, [(.i2l, [], 0), (.lastore, [], 0), (.goto 6, [], 0)]), (15, [(.iconst 0, [], 0), (.ireturn, [], 0)]), (12, [(.astore_n 3, [], 0), (.iconst 1, [], 1), (.ireturn, [], 0)])]
set_option maxRecDepth 100000 in
theorem ok_L_dryingOn : ∀ q ∈ tb_L_dryingOn, xChks mL_dryingOn q.1 q.2 = true := by decide +kernel
set_option maxRecDepth 100000 in
theorem s_L_dryingOn {E : xE} {hx ho : Nat} {a0 : Int32} {v e : Int32} {k : Nat ⊕ Int32} {MX : va_W} {Φ : va_W → Prop} (g : Nat → Int64) (hsp : SpP E mX11_dryingOn (xRm 7 111 1 6) [.ref hx, .int a0] MX (fun z => ∃ MX', Φ MX' ∧ z = xOut (Sum.map id (fun r => some (Value.int r)) k) MX')) (ha : AnsT tI k v e) (h0 : ∃ vs, MX[0]? = some (hx, .inr (11, vs))) : HpP E mL_dryingOn hL_dryingOn (xRm 8 132 1 6) [.ref hx, .int a0, .ref ho] ((ho, .inl (E.2.1.2.1, 1, .inr (.inl g))) :: MX) (fun z => ∃ (MX' : va_W) (g' : Nat → Int64), Φ MX' ∧ (e = 0 → g' 0 = v.toInt64) ∧ z = .inl (some (.int e), (ho, .inl (E.2.1.2.1, 1, .inr (.inl g'))) :: MX')) := by
  obtain ⟨vs, h0⟩ := h0
  refine HpP.of rfl rfl (L := [some (.ref hx), some (.int a0), some (.ref ho), none]) rfl rfl (Nat.le_of_ble_eq_true rfl) ?_
  refine BdH.seg ok_L_dryingOn 0 [] rfl (show BdH E mL_dryingOn hL_dryingOn (xRm 8 132 1 6) 1 6 (fun z => ∃ (MX' : va_W) (g' : Nat → Int64), Φ MX' ∧ (e = 0 → g' 0 = v.toInt64) ∧ z = .inl (some (.int e), (ho, .inl (E.2.1.2.1, 1, .inr (.inl g'))) :: MX')) 4 [some (.ref hx), some (.int a0), some (.ref ho), none] [.int a0, .ref hx, .int 0, .ref ho] ((ho, .inl (E.2.1.2.1, 1, .inr (.inl g))) :: MX) 0 0 from ?_)
  refine BdH.pm (List.perm_append_singleton _ _).symm ?_
  refine BdH.call oX11_dryingOn vX11_dryingOn nX11_dryingOn k13_47 (xdec ok_L_dryingOn 1 rfl) (As := [.int a0]) (rest := [.int 0, .ref ho]) hsp ⟨Nat.le_of_ble_eq_true rfl, Nat.le_of_ble_eq_true rfl⟩ rfl (Nat.le_of_ble_eq_true rfl) 0 h0 rfl rfl ⟨Nat.le_of_ble_eq_true rfl, Nat.le_of_ble_eq_true rfl⟩ ?_ ?_
  · rintro X M' ⟨MX', hΦ, hz⟩
    rcases ha with ⟨rfl, rfl⟩ | ⟨n, rfl, rfl, rfl, hn⟩
    · cases hz
    · have hn2 : n = 2 := by
        unfold tI at hn
        exact Classical.byContradiction fun q => hn (if_neg q)
      cases hz
      subst hn2
      refine ⟨[], (0, 9, 12, 24), [], rfl, nofun, ⟨by decide, by decide⟩, by decide, cl13_24, cs13_24, fun q => ?_⟩
      refine BdH.pm (List.perm_append_singleton _ _) ?_
      refine BdH.seg ok_L_dryingOn 4 [] rfl ⟨Nat.le_of_ble_eq_true rfl, ⟨⟨_, g, hΦ, fun w => absurd w (by decide), rfl⟩, Nat.le_of_ble_eq_true rfl, Nat.le_of_ble_eq_true rfl⟩, trivial⟩
  · rintro w M' ⟨MX', hΦ, hz⟩
    rcases ha with ⟨rfl, rfl⟩ | ⟨n, rfl, -⟩
    · cases hz
      refine BdH.pm (List.perm_append_singleton _ _) ?_
      refine BdH.seg ok_L_dryingOn 2 [0] rfl ⟨⟨rfl, rfl⟩, xg (by decide), (show BdH E mL_dryingOn hL_dryingOn (xRm 8 132 1 6) 1 6 (fun z => ∃ (MX' : va_W) (g' : Nat → Int64), Φ MX' ∧ ((0 : Int32) = 0 → g' 0 = v.toInt64) ∧ z = .inl (some (.int 0), (ho, .inl (E.2.1.2.1, 1, .inr (.inl g'))) :: MX')) 15 [some (.ref hx), some (.int a0), some (.ref ho), none] [] ((ho, .inl (E.2.1.2.1, 1, .inr (.inl (vp_updL g (Int32.toNatClampNeg 0) v.toInt64)))) :: M') 1 6 from ?_)⟩
      exact BdH.seg ok_L_dryingOn 3 [] rfl ⟨⟨⟨_, vp_updL g (Int32.toNatClampNeg 0) v.toInt64, hΦ, fun _ => rfl, rfl⟩, Nat.le_of_ble_eq_true rfl, Nat.le_of_ble_eq_true rfl⟩, trivial⟩
    · cases hz
def mL_obstacleToLower : xM := (yL_obstacleToLower, cL_obstacleToLower, 4, (some .int), 13)
def hL_obstacleToLower : List (Nat × Nat × Nat × Nat) := [(0, 9, 12, 24)]
theorem wL_obstacleToLower : Cond.codeWith mL_obstacleToLower.1 mL_obstacleToLower.2.1 mL_obstacleToLower.2.2.1 mL_obstacleToLower.2.2.2.1 hL_obstacleToLower ∈ xAll := xm5 (n := 231) rfl rfl
theorem vL_obstacleToLower : Cond.static mL_obstacleToLower.1 ∈ xAll := xm5 (n := 230) rfl rfl
theorem kL_obstacleToLower : Cond.methodLink (xCn 13) 215 mL_obstacleToLower.1 ∈ xAll := xm5 (n := 229) rfl rfl
def tb_L_obstacleToLower : List (Nat × List xI) := [(0, [(.aload_n 2, [], 0), (.iconst 0, [], 0), (.aload_n 0, [], 0), (.iload_n 1, [], 0)]), (4, [(.invokevirtual 50, [], 0)]), (7, [(.i2l, [], 0), (.lastore, [], 0), (.goto 6, [], 0)]), (15, [(.iconst 0, [], 0), (.ireturn, [], 0)]), (12, [(.astore_n 3, [], 0), (.iconst 1, [], 1), (.ireturn, [], 0)])]
set_option maxRecDepth 100000 in
theorem ok_L_obstacleToLower : ∀ q ∈ tb_L_obstacleToLower, xChks mL_obstacleToLower q.1 q.2 = true := by decide +kernel
set_option maxRecDepth 100000 in
theorem s_L_obstacleToLower {E : xE} {hx ho : Nat} {a0 : Int32} {v e : Int32} {k : Nat ⊕ Int32} {MX : va_W} {Φ : va_W → Prop} (g : Nat → Int64) (hsp : SpP E mX11_obstacleToLower (xRm 7 111 1 6) [.ref hx, .int a0] MX (fun z => ∃ MX', Φ MX' ∧ z = xOut (Sum.map id (fun r => some (Value.int r)) k) MX')) (ha : AnsT tI k v e) (h0 : ∃ vs, MX[0]? = some (hx, .inr (11, vs))) : HpP E mL_obstacleToLower hL_obstacleToLower (xRm 8 132 1 6) [.ref hx, .int a0, .ref ho] ((ho, .inl (E.2.1.2.1, 1, .inr (.inl g))) :: MX) (fun z => ∃ (MX' : va_W) (g' : Nat → Int64), Φ MX' ∧ (e = 0 → g' 0 = v.toInt64) ∧ z = .inl (some (.int e), (ho, .inl (E.2.1.2.1, 1, .inr (.inl g'))) :: MX')) := by
  obtain ⟨vs, h0⟩ := h0
  refine HpP.of rfl rfl (L := [some (.ref hx), some (.int a0), some (.ref ho), none]) rfl rfl (Nat.le_of_ble_eq_true rfl) ?_
  refine BdH.seg ok_L_obstacleToLower 0 [] rfl (show BdH E mL_obstacleToLower hL_obstacleToLower (xRm 8 132 1 6) 1 6 (fun z => ∃ (MX' : va_W) (g' : Nat → Int64), Φ MX' ∧ (e = 0 → g' 0 = v.toInt64) ∧ z = .inl (some (.int e), (ho, .inl (E.2.1.2.1, 1, .inr (.inl g'))) :: MX')) 4 [some (.ref hx), some (.int a0), some (.ref ho), none] [.int a0, .ref hx, .int 0, .ref ho] ((ho, .inl (E.2.1.2.1, 1, .inr (.inl g))) :: MX) 0 0 from ?_)
  refine BdH.pm (List.perm_append_singleton _ _).symm ?_
  refine BdH.call oX11_obstacleToLower vX11_obstacleToLower nX11_obstacleToLower k13_50 (xdec ok_L_obstacleToLower 1 rfl) (As := [.int a0]) (rest := [.int 0, .ref ho]) hsp ⟨Nat.le_of_ble_eq_true rfl, Nat.le_of_ble_eq_true rfl⟩ rfl (Nat.le_of_ble_eq_true rfl) 0 h0 rfl rfl ⟨Nat.le_of_ble_eq_true rfl, Nat.le_of_ble_eq_true rfl⟩ ?_ ?_
  · rintro X M' ⟨MX', hΦ, hz⟩
    rcases ha with ⟨rfl, rfl⟩ | ⟨n, rfl, rfl, rfl, hn⟩
    · cases hz
    · have hn2 : n = 2 := by
        unfold tI at hn
        exact Classical.byContradiction fun q => hn (if_neg q)
      cases hz
      subst hn2
      refine ⟨[], (0, 9, 12, 24), [], rfl, nofun, ⟨by decide, by decide⟩, by decide, cl13_24, cs13_24, fun q => ?_⟩
      refine BdH.pm (List.perm_append_singleton _ _) ?_
      refine BdH.seg ok_L_obstacleToLower 4 [] rfl ⟨Nat.le_of_ble_eq_true rfl, ⟨⟨_, g, hΦ, fun w => absurd w (by decide), rfl⟩, Nat.le_of_ble_eq_true rfl, Nat.le_of_ble_eq_true rfl⟩, trivial⟩
  · rintro w M' ⟨MX', hΦ, hz⟩
    rcases ha with ⟨rfl, rfl⟩ | ⟨n, rfl, -⟩
    · cases hz
      refine BdH.pm (List.perm_append_singleton _ _) ?_
      refine BdH.seg ok_L_obstacleToLower 2 [0] rfl ⟨⟨rfl, rfl⟩, xg (by decide), (show BdH E mL_obstacleToLower hL_obstacleToLower (xRm 8 132 1 6) 1 6 (fun z => ∃ (MX' : va_W) (g' : Nat → Int64), Φ MX' ∧ ((0 : Int32) = 0 → g' 0 = v.toInt64) ∧ z = .inl (some (.int 0), (ho, .inl (E.2.1.2.1, 1, .inr (.inl g'))) :: MX')) 15 [some (.ref hx), some (.int a0), some (.ref ho), none] [] ((ho, .inl (E.2.1.2.1, 1, .inr (.inl (vp_updL g (Int32.toNatClampNeg 0) v.toInt64)))) :: M') 1 6 from ?_)⟩
      exact BdH.seg ok_L_obstacleToLower 3 [] rfl ⟨⟨⟨_, vp_updL g (Int32.toNatClampNeg 0) v.toInt64, hΦ, fun _ => rfl, rfl⟩, Nat.le_of_ble_eq_true rfl, Nat.le_of_ble_eq_true rfl⟩, trivial⟩
    · cases hz
def mL_sackState : xM := (yL_sackState, cL_sackState, 4, (some .int), 13)
def hL_sackState : List (Nat × Nat × Nat × Nat) := [(0, 9, 12, 24)]
theorem wL_sackState : Cond.codeWith mL_sackState.1 mL_sackState.2.1 mL_sackState.2.2.1 mL_sackState.2.2.2.1 hL_sackState ∈ xAll := xm5 (n := 239) rfl rfl
theorem vL_sackState : Cond.static mL_sackState.1 ∈ xAll := xm5 (n := 238) rfl rfl
theorem kL_sackState : Cond.methodLink (xCn 13) 222 mL_sackState.1 ∈ xAll := xm5 (n := 237) rfl rfl
def tb_L_sackState : List (Nat × List xI) := [(0, [(.aload_n 2, [], 0), (.iconst 0, [], 0), (.aload_n 0, [], 0), (.iload_n 1, [], 0)]), (4, [(.invokevirtual 53, [], 0)]), (7, [(.i2l, [], 0), (.lastore, [], 0), (.goto 6, [], 0)]), (15, [(.iconst 0, [], 0), (.ireturn, [], 0)]), (12, [(.astore_n 3, [], 0), (.iconst 1, [], 1), (.ireturn, [], 0)])]
set_option maxRecDepth 100000 in
theorem ok_L_sackState : ∀ q ∈ tb_L_sackState, xChks mL_sackState q.1 q.2 = true := by decide +kernel
set_option maxRecDepth 100000 in
theorem s_L_sackState {E : xE} {hx ho : Nat} {a0 : Int32} {v e : Int32} {k : Nat ⊕ Int32} {MX : va_W} {Φ : va_W → Prop} (g : Nat → Int64) (hsp : SpP E mX11_sackState (xRm 7 111 1 6) [.ref hx, .int a0] MX (fun z => ∃ MX', Φ MX' ∧ z = xOut (Sum.map id (fun r => some (Value.int r)) k) MX')) (ha : AnsT tI k v e) (h0 : ∃ vs, MX[0]? = some (hx, .inr (11, vs))) : HpP E mL_sackState hL_sackState (xRm 8 132 1 6) [.ref hx, .int a0, .ref ho] ((ho, .inl (E.2.1.2.1, 1, .inr (.inl g))) :: MX) (fun z => ∃ (MX' : va_W) (g' : Nat → Int64), Φ MX' ∧ (e = 0 → g' 0 = v.toInt64) ∧ z = .inl (some (.int e), (ho, .inl (E.2.1.2.1, 1, .inr (.inl g'))) :: MX')) := by
  obtain ⟨vs, h0⟩ := h0
  refine HpP.of rfl rfl (L := [some (.ref hx), some (.int a0), some (.ref ho), none]) rfl rfl (Nat.le_of_ble_eq_true rfl) ?_
  refine BdH.seg ok_L_sackState 0 [] rfl (show BdH E mL_sackState hL_sackState (xRm 8 132 1 6) 1 6 (fun z => ∃ (MX' : va_W) (g' : Nat → Int64), Φ MX' ∧ (e = 0 → g' 0 = v.toInt64) ∧ z = .inl (some (.int e), (ho, .inl (E.2.1.2.1, 1, .inr (.inl g'))) :: MX')) 4 [some (.ref hx), some (.int a0), some (.ref ho), none] [.int a0, .ref hx, .int 0, .ref ho] ((ho, .inl (E.2.1.2.1, 1, .inr (.inl g))) :: MX) 0 0 from ?_)
  refine BdH.pm (List.perm_append_singleton _ _).symm ?_
  refine BdH.call oX11_sackState vX11_sackState nX11_sackState k13_53 (xdec ok_L_sackState 1 rfl) (As := [.int a0]) (rest := [.int 0, .ref ho]) hsp ⟨Nat.le_of_ble_eq_true rfl, Nat.le_of_ble_eq_true rfl⟩ rfl (Nat.le_of_ble_eq_true rfl) 0 h0 rfl rfl ⟨Nat.le_of_ble_eq_true rfl, Nat.le_of_ble_eq_true rfl⟩ ?_ ?_
  · rintro X M' ⟨MX', hΦ, hz⟩
    rcases ha with ⟨rfl, rfl⟩ | ⟨n, rfl, rfl, rfl, hn⟩
    · cases hz
    · have hn2 : n = 2 := by
        unfold tI at hn
        exact Classical.byContradiction fun q => hn (if_neg q)
      cases hz
      subst hn2
      refine ⟨[], (0, 9, 12, 24), [], rfl, nofun, ⟨by decide, by decide⟩, by decide, cl13_24, cs13_24, fun q => ?_⟩
      refine BdH.pm (List.perm_append_singleton _ _) ?_
      refine BdH.seg ok_L_sackState 4 [] rfl ⟨Nat.le_of_ble_eq_true rfl, ⟨⟨_, g, hΦ, fun w => absurd w (by decide), rfl⟩, Nat.le_of_ble_eq_true rfl, Nat.le_of_ble_eq_true rfl⟩, trivial⟩
  · rintro w M' ⟨MX', hΦ, hz⟩
    rcases ha with ⟨rfl, rfl⟩ | ⟨n, rfl, -⟩
    · cases hz
      refine BdH.pm (List.perm_append_singleton _ _) ?_
      refine BdH.seg ok_L_sackState 2 [0] rfl ⟨⟨rfl, rfl⟩, xg (by decide), (show BdH E mL_sackState hL_sackState (xRm 8 132 1 6) 1 6 (fun z => ∃ (MX' : va_W) (g' : Nat → Int64), Φ MX' ∧ ((0 : Int32) = 0 → g' 0 = v.toInt64) ∧ z = .inl (some (.int 0), (ho, .inl (E.2.1.2.1, 1, .inr (.inl g'))) :: MX')) 15 [some (.ref hx), some (.int a0), some (.ref ho), none] [] ((ho, .inl (E.2.1.2.1, 1, .inr (.inl (vp_updL g (Int32.toNatClampNeg 0) v.toInt64)))) :: M') 1 6 from ?_)⟩
      exact BdH.seg ok_L_sackState 3 [] rfl ⟨⟨⟨_, vp_updL g (Int32.toNatClampNeg 0) v.toInt64, hΦ, fun _ => rfl, rfl⟩, Nat.le_of_ble_eq_true rfl, Nat.le_of_ble_eq_true rfl⟩, trivial⟩
    · cases hz
def mL_sackMass : xM := (yL_sackMass, cL_sackMass, 4, (some .int), 13)
def hL_sackMass : List (Nat × Nat × Nat × Nat) := [(0, 9, 12, 24)]
theorem wL_sackMass : Cond.codeWith mL_sackMass.1 mL_sackMass.2.1 mL_sackMass.2.2.1 mL_sackMass.2.2.2.1 hL_sackMass ∈ xAll := xm6 (n := 12) rfl rfl
theorem vL_sackMass : Cond.static mL_sackMass.1 ∈ xAll := xm6 (n := 11) rfl rfl
theorem kL_sackMass : Cond.methodLink (xCn 13) 225 mL_sackMass.1 ∈ xAll := xm6 (n := 10) rfl rfl
def tb_L_sackMass : List (Nat × List xI) := [(0, [(.aload_n 2, [], 0), (.iconst 0, [], 0), (.aload_n 0, [], 0), (.iload_n 1, [], 0)]), (4, [(.invokevirtual 56, [], 0)]), (7, [(.i2l, [], 0), (.lastore, [], 0), (.goto 6, [], 0)]), (15, [(.iconst 0, [], 0), (.ireturn, [], 0)]), (12, [(.astore_n 3, [], 0), (.iconst 1, [], 1), (.ireturn, [], 0)])]
set_option maxRecDepth 100000 in
theorem ok_L_sackMass : ∀ q ∈ tb_L_sackMass, xChks mL_sackMass q.1 q.2 = true := by decide +kernel
set_option maxRecDepth 100000 in
theorem s_L_sackMass {E : xE} {hx ho : Nat} {a0 : Int32} {v e : Int32} {k : Nat ⊕ Int32} {MX : va_W} {Φ : va_W → Prop} (g : Nat → Int64) (hsp : SpP E mX11_sackMass (xRm 7 111 1 6) [.ref hx, .int a0] MX (fun z => ∃ MX', Φ MX' ∧ z = xOut (Sum.map id (fun r => some (Value.int r)) k) MX')) (ha : AnsT tI k v e) (h0 : ∃ vs, MX[0]? = some (hx, .inr (11, vs))) : HpP E mL_sackMass hL_sackMass (xRm 8 132 1 6) [.ref hx, .int a0, .ref ho] ((ho, .inl (E.2.1.2.1, 1, .inr (.inl g))) :: MX) (fun z => ∃ (MX' : va_W) (g' : Nat → Int64), Φ MX' ∧ (e = 0 → g' 0 = v.toInt64) ∧ z = .inl (some (.int e), (ho, .inl (E.2.1.2.1, 1, .inr (.inl g'))) :: MX')) := by
  obtain ⟨vs, h0⟩ := h0
  refine HpP.of rfl rfl (L := [some (.ref hx), some (.int a0), some (.ref ho), none]) rfl rfl (Nat.le_of_ble_eq_true rfl) ?_
  refine BdH.seg ok_L_sackMass 0 [] rfl (show BdH E mL_sackMass hL_sackMass (xRm 8 132 1 6) 1 6 (fun z => ∃ (MX' : va_W) (g' : Nat → Int64), Φ MX' ∧ (e = 0 → g' 0 = v.toInt64) ∧ z = .inl (some (.int e), (ho, .inl (E.2.1.2.1, 1, .inr (.inl g'))) :: MX')) 4 [some (.ref hx), some (.int a0), some (.ref ho), none] [.int a0, .ref hx, .int 0, .ref ho] ((ho, .inl (E.2.1.2.1, 1, .inr (.inl g))) :: MX) 0 0 from ?_)
  refine BdH.pm (List.perm_append_singleton _ _).symm ?_
  refine BdH.call oX11_sackMass vX11_sackMass nX11_sackMass k13_56 (xdec ok_L_sackMass 1 rfl) (As := [.int a0]) (rest := [.int 0, .ref ho]) hsp ⟨Nat.le_of_ble_eq_true rfl, Nat.le_of_ble_eq_true rfl⟩ rfl (Nat.le_of_ble_eq_true rfl) 0 h0 rfl rfl ⟨Nat.le_of_ble_eq_true rfl, Nat.le_of_ble_eq_true rfl⟩ ?_ ?_
  · rintro X M' ⟨MX', hΦ, hz⟩
    rcases ha with ⟨rfl, rfl⟩ | ⟨n, rfl, rfl, rfl, hn⟩
    · cases hz
    · have hn2 : n = 2 := by
        unfold tI at hn
        exact Classical.byContradiction fun q => hn (if_neg q)
      cases hz
      subst hn2
      refine ⟨[], (0, 9, 12, 24), [], rfl, nofun, ⟨by decide, by decide⟩, by decide, cl13_24, cs13_24, fun q => ?_⟩
      refine BdH.pm (List.perm_append_singleton _ _) ?_
      refine BdH.seg ok_L_sackMass 4 [] rfl ⟨Nat.le_of_ble_eq_true rfl, ⟨⟨_, g, hΦ, fun w => absurd w (by decide), rfl⟩, Nat.le_of_ble_eq_true rfl, Nat.le_of_ble_eq_true rfl⟩, trivial⟩
  · rintro w M' ⟨MX', hΦ, hz⟩
    rcases ha with ⟨rfl, rfl⟩ | ⟨n, rfl, -⟩
    · cases hz
      refine BdH.pm (List.perm_append_singleton _ _) ?_
      refine BdH.seg ok_L_sackMass 2 [0] rfl ⟨⟨rfl, rfl⟩, xg (by decide), (show BdH E mL_sackMass hL_sackMass (xRm 8 132 1 6) 1 6 (fun z => ∃ (MX' : va_W) (g' : Nat → Int64), Φ MX' ∧ ((0 : Int32) = 0 → g' 0 = v.toInt64) ∧ z = .inl (some (.int 0), (ho, .inl (E.2.1.2.1, 1, .inr (.inl g'))) :: MX')) 15 [some (.ref hx), some (.int a0), some (.ref ho), none] [] ((ho, .inl (E.2.1.2.1, 1, .inr (.inl (vp_updL g (Int32.toNatClampNeg 0) v.toInt64)))) :: M') 1 6 from ?_)⟩
      exact BdH.seg ok_L_sackMass 3 [] rfl ⟨⟨⟨_, vp_updL g (Int32.toNatClampNeg 0) v.toInt64, hΦ, fun _ => rfl, rfl⟩, Nat.le_of_ble_eq_true rfl, Nat.le_of_ble_eq_true rfl⟩, trivial⟩
    · cases hz
def mL_sackMoisture : xM := (yL_sackMoisture, cL_sackMoisture, 4, (some .int), 13)
def hL_sackMoisture : List (Nat × Nat × Nat × Nat) := [(0, 9, 12, 24)]
theorem wL_sackMoisture : Cond.codeWith mL_sackMoisture.1 mL_sackMoisture.2.1 mL_sackMoisture.2.2.1 mL_sackMoisture.2.2.2.1 hL_sackMoisture ∈ xAll := xm6 (n := 19) rfl rfl
theorem vL_sackMoisture : Cond.static mL_sackMoisture.1 ∈ xAll := xm6 (n := 18) rfl rfl
theorem kL_sackMoisture : Cond.methodLink (xCn 13) 228 mL_sackMoisture.1 ∈ xAll := xm6 (n := 17) rfl rfl
def tb_L_sackMoisture : List (Nat × List xI) := [(0, [(.aload_n 2, [], 0), (.iconst 0, [], 0), (.aload_n 0, [], 0), (.iload_n 1, [], 0)]), (4, [(.invokevirtual 59, [], 0)]), (7, [(.i2l, [], 0), (.lastore, [], 0), (.goto 6, [], 0)]), (15, [(.iconst 0, [], 0), (.ireturn, [], 0)]), (12, [(.astore_n 3, [], 0), (.iconst 1, [], 1), (.ireturn, [], 0)])]
set_option maxRecDepth 100000 in
theorem ok_L_sackMoisture : ∀ q ∈ tb_L_sackMoisture, xChks mL_sackMoisture q.1 q.2 = true := by decide +kernel
set_option maxRecDepth 100000 in
theorem s_L_sackMoisture {E : xE} {hx ho : Nat} {a0 : Int32} {v e : Int32} {k : Nat ⊕ Int32} {MX : va_W} {Φ : va_W → Prop} (g : Nat → Int64) (hsp : SpP E mX11_sackMoisture (xRm 7 111 1 6) [.ref hx, .int a0] MX (fun z => ∃ MX', Φ MX' ∧ z = xOut (Sum.map id (fun r => some (Value.int r)) k) MX')) (ha : AnsT tI k v e) (h0 : ∃ vs, MX[0]? = some (hx, .inr (11, vs))) : HpP E mL_sackMoisture hL_sackMoisture (xRm 8 132 1 6) [.ref hx, .int a0, .ref ho] ((ho, .inl (E.2.1.2.1, 1, .inr (.inl g))) :: MX) (fun z => ∃ (MX' : va_W) (g' : Nat → Int64), Φ MX' ∧ (e = 0 → g' 0 = v.toInt64) ∧ z = .inl (some (.int e), (ho, .inl (E.2.1.2.1, 1, .inr (.inl g'))) :: MX')) := by
  obtain ⟨vs, h0⟩ := h0
  refine HpP.of rfl rfl (L := [some (.ref hx), some (.int a0), some (.ref ho), none]) rfl rfl (Nat.le_of_ble_eq_true rfl) ?_
  refine BdH.seg ok_L_sackMoisture 0 [] rfl (show BdH E mL_sackMoisture hL_sackMoisture (xRm 8 132 1 6) 1 6 (fun z => ∃ (MX' : va_W) (g' : Nat → Int64), Φ MX' ∧ (e = 0 → g' 0 = v.toInt64) ∧ z = .inl (some (.int e), (ho, .inl (E.2.1.2.1, 1, .inr (.inl g'))) :: MX')) 4 [some (.ref hx), some (.int a0), some (.ref ho), none] [.int a0, .ref hx, .int 0, .ref ho] ((ho, .inl (E.2.1.2.1, 1, .inr (.inl g))) :: MX) 0 0 from ?_)
  refine BdH.pm (List.perm_append_singleton _ _).symm ?_
  refine BdH.call oX11_sackMoisture vX11_sackMoisture nX11_sackMoisture k13_59 (xdec ok_L_sackMoisture 1 rfl) (As := [.int a0]) (rest := [.int 0, .ref ho]) hsp ⟨Nat.le_of_ble_eq_true rfl, Nat.le_of_ble_eq_true rfl⟩ rfl (Nat.le_of_ble_eq_true rfl) 0 h0 rfl rfl ⟨Nat.le_of_ble_eq_true rfl, Nat.le_of_ble_eq_true rfl⟩ ?_ ?_
  · rintro X M' ⟨MX', hΦ, hz⟩
    rcases ha with ⟨rfl, rfl⟩ | ⟨n, rfl, rfl, rfl, hn⟩
    · cases hz
    · have hn2 : n = 2 := by
        unfold tI at hn
        exact Classical.byContradiction fun q => hn (if_neg q)
      cases hz
      subst hn2
      refine ⟨[], (0, 9, 12, 24), [], rfl, nofun, ⟨by decide, by decide⟩, by decide, cl13_24, cs13_24, fun q => ?_⟩
      refine BdH.pm (List.perm_append_singleton _ _) ?_
      refine BdH.seg ok_L_sackMoisture 4 [] rfl ⟨Nat.le_of_ble_eq_true rfl, ⟨⟨_, g, hΦ, fun w => absurd w (by decide), rfl⟩, Nat.le_of_ble_eq_true rfl, Nat.le_of_ble_eq_true rfl⟩, trivial⟩
  · rintro w M' ⟨MX', hΦ, hz⟩
    rcases ha with ⟨rfl, rfl⟩ | ⟨n, rfl, -⟩
    · cases hz
      refine BdH.pm (List.perm_append_singleton _ _) ?_
      refine BdH.seg ok_L_sackMoisture 2 [0] rfl ⟨⟨rfl, rfl⟩, xg (by decide), (show BdH E mL_sackMoisture hL_sackMoisture (xRm 8 132 1 6) 1 6 (fun z => ∃ (MX' : va_W) (g' : Nat → Int64), Φ MX' ∧ ((0 : Int32) = 0 → g' 0 = v.toInt64) ∧ z = .inl (some (.int 0), (ho, .inl (E.2.1.2.1, 1, .inr (.inl g'))) :: MX')) 15 [some (.ref hx), some (.int a0), some (.ref ho), none] [] ((ho, .inl (E.2.1.2.1, 1, .inr (.inl (vp_updL g (Int32.toNatClampNeg 0) v.toInt64)))) :: M') 1 6 from ?_)⟩
      exact BdH.seg ok_L_sackMoisture 3 [] rfl ⟨⟨⟨_, vp_updL g (Int32.toNatClampNeg 0) v.toInt64, hΦ, fun _ => rfl, rfl⟩, Nat.le_of_ble_eq_true rfl, Nat.le_of_ble_eq_true rfl⟩, trivial⟩
    · cases hz
def mL_sackTemperature : xM := (yL_sackTemperature, cL_sackTemperature, 4, (some .int), 13)
def hL_sackTemperature : List (Nat × Nat × Nat × Nat) := [(0, 9, 12, 24)]
theorem wL_sackTemperature : Cond.codeWith mL_sackTemperature.1 mL_sackTemperature.2.1 mL_sackTemperature.2.2.1 mL_sackTemperature.2.2.2.1 hL_sackTemperature ∈ xAll := xm6 (n := 26) rfl rfl
theorem vL_sackTemperature : Cond.static mL_sackTemperature.1 ∈ xAll := xm6 (n := 25) rfl rfl
theorem kL_sackTemperature : Cond.methodLink (xCn 13) 231 mL_sackTemperature.1 ∈ xAll := xm6 (n := 24) rfl rfl
def tb_L_sackTemperature : List (Nat × List xI) := [(0, [(.aload_n 2, [], 0), (.iconst 0, [], 0), (.aload_n 0, [], 0), (.iload_n 1, [], 0)]), (4, [(.invokevirtual 62, [], 0)]), (7, [(.i2l, [], 0), (.lastore, [], 0), (.goto 6, [], 0)]), (15, [(.iconst 0, [], 0), (.ireturn, [], 0)]), (12, [(.astore_n 3, [], 0), (.iconst 1, [], 1), (.ireturn, [], 0)])]
set_option maxRecDepth 100000 in
theorem ok_L_sackTemperature : ∀ q ∈ tb_L_sackTemperature, xChks mL_sackTemperature q.1 q.2 = true := by decide +kernel
set_option maxRecDepth 100000 in
theorem s_L_sackTemperature {E : xE} {hx ho : Nat} {a0 : Int32} {v e : Int32} {k : Nat ⊕ Int32} {MX : va_W} {Φ : va_W → Prop} (g : Nat → Int64) (hsp : SpP E mX11_sackTemperature (xRm 7 111 1 6) [.ref hx, .int a0] MX (fun z => ∃ MX', Φ MX' ∧ z = xOut (Sum.map id (fun r => some (Value.int r)) k) MX')) (ha : AnsT tI k v e) (h0 : ∃ vs, MX[0]? = some (hx, .inr (11, vs))) : HpP E mL_sackTemperature hL_sackTemperature (xRm 8 132 1 6) [.ref hx, .int a0, .ref ho] ((ho, .inl (E.2.1.2.1, 1, .inr (.inl g))) :: MX) (fun z => ∃ (MX' : va_W) (g' : Nat → Int64), Φ MX' ∧ (e = 0 → g' 0 = v.toInt64) ∧ z = .inl (some (.int e), (ho, .inl (E.2.1.2.1, 1, .inr (.inl g'))) :: MX')) := by
  obtain ⟨vs, h0⟩ := h0
  refine HpP.of rfl rfl (L := [some (.ref hx), some (.int a0), some (.ref ho), none]) rfl rfl (Nat.le_of_ble_eq_true rfl) ?_
  refine BdH.seg ok_L_sackTemperature 0 [] rfl (show BdH E mL_sackTemperature hL_sackTemperature (xRm 8 132 1 6) 1 6 (fun z => ∃ (MX' : va_W) (g' : Nat → Int64), Φ MX' ∧ (e = 0 → g' 0 = v.toInt64) ∧ z = .inl (some (.int e), (ho, .inl (E.2.1.2.1, 1, .inr (.inl g'))) :: MX')) 4 [some (.ref hx), some (.int a0), some (.ref ho), none] [.int a0, .ref hx, .int 0, .ref ho] ((ho, .inl (E.2.1.2.1, 1, .inr (.inl g))) :: MX) 0 0 from ?_)
  refine BdH.pm (List.perm_append_singleton _ _).symm ?_
  refine BdH.call oX11_sackTemperature vX11_sackTemperature nX11_sackTemperature k13_62 (xdec ok_L_sackTemperature 1 rfl) (As := [.int a0]) (rest := [.int 0, .ref ho]) hsp ⟨Nat.le_of_ble_eq_true rfl, Nat.le_of_ble_eq_true rfl⟩ rfl (Nat.le_of_ble_eq_true rfl) 0 h0 rfl rfl ⟨Nat.le_of_ble_eq_true rfl, Nat.le_of_ble_eq_true rfl⟩ ?_ ?_
  · rintro X M' ⟨MX', hΦ, hz⟩
    rcases ha with ⟨rfl, rfl⟩ | ⟨n, rfl, rfl, rfl, hn⟩
    · cases hz
    · have hn2 : n = 2 := by
        unfold tI at hn
        exact Classical.byContradiction fun q => hn (if_neg q)
      cases hz
      subst hn2
      refine ⟨[], (0, 9, 12, 24), [], rfl, nofun, ⟨by decide, by decide⟩, by decide, cl13_24, cs13_24, fun q => ?_⟩
      refine BdH.pm (List.perm_append_singleton _ _) ?_
      refine BdH.seg ok_L_sackTemperature 4 [] rfl ⟨Nat.le_of_ble_eq_true rfl, ⟨⟨_, g, hΦ, fun w => absurd w (by decide), rfl⟩, Nat.le_of_ble_eq_true rfl, Nat.le_of_ble_eq_true rfl⟩, trivial⟩
  · rintro w M' ⟨MX', hΦ, hz⟩
    rcases ha with ⟨rfl, rfl⟩ | ⟨n, rfl, -⟩
    · cases hz
      refine BdH.pm (List.perm_append_singleton _ _) ?_
      refine BdH.seg ok_L_sackTemperature 2 [0] rfl ⟨⟨rfl, rfl⟩, xg (by decide), (show BdH E mL_sackTemperature hL_sackTemperature (xRm 8 132 1 6) 1 6 (fun z => ∃ (MX' : va_W) (g' : Nat → Int64), Φ MX' ∧ ((0 : Int32) = 0 → g' 0 = v.toInt64) ∧ z = .inl (some (.int 0), (ho, .inl (E.2.1.2.1, 1, .inr (.inl g'))) :: MX')) 15 [some (.ref hx), some (.int a0), some (.ref ho), none] [] ((ho, .inl (E.2.1.2.1, 1, .inr (.inl (vp_updL g (Int32.toNatClampNeg 0) v.toInt64)))) :: M') 1 6 from ?_)⟩
      exact BdH.seg ok_L_sackTemperature 3 [] rfl ⟨⟨⟨_, vp_updL g (Int32.toNatClampNeg 0) v.toInt64, hΦ, fun _ => rfl, rfl⟩, Nat.le_of_ble_eq_true rfl, Nat.le_of_ble_eq_true rfl⟩, trivial⟩
    · cases hz
def mL_isSmouldering : xM := (yL_isSmouldering, cL_isSmouldering, 4, (some .int), 13)
def hL_isSmouldering : List (Nat × Nat × Nat × Nat) := [(0, 16, 19, 24)]
theorem wL_isSmouldering : Cond.codeWith mL_isSmouldering.1 mL_isSmouldering.2.1 mL_isSmouldering.2.2.1 mL_isSmouldering.2.2.2.1 hL_isSmouldering ∈ xAll := xm6 (n := 33) rfl rfl
theorem vL_isSmouldering : Cond.static mL_isSmouldering.1 ∈ xAll := xm6 (n := 32) rfl rfl
theorem kL_isSmouldering : Cond.methodLink (xCn 13) 234 mL_isSmouldering.1 ∈ xAll := xm6 (n := 31) rfl rfl
def tb_L_isSmouldering : List (Nat × List xI) := [(0, [(.aload_n 2, [], 0), (.iconst 0, [], 0), (.aload_n 0, [], 0), (.iload_n 1, [], 0)]), (4, [(.invokevirtual 65, [], 0)]), (7, [(.ifCond .eq 7, [], 0)]), (10, [(.lconst 1, [], 0), (.goto 4, [], 0)]), (14, [(.lconst 0, [], 0), (.lastore, [], 0), (.goto 6, [], 0)]), (15, [(.lastore, [], 0), (.goto 6, [], 0)]), (22, [(.iconst 0, [], 0), (.ireturn, [], 0)]), (19, [(.astore_n 3, [], 0), (.iconst 1, [], 1), (.ireturn, [], 0)])]
set_option maxRecDepth 100000 in
theorem ok_L_isSmouldering : ∀ q ∈ tb_L_isSmouldering, xChks mL_isSmouldering q.1 q.2 = true := by decide +kernel
set_option maxRecDepth 100000 in
theorem s_L_isSmouldering {E : xE} {hx ho : Nat} {a0 : Int32} {v e : Int32} {k : Nat ⊕ Int32} {MX : va_W} {Φ : va_W → Prop} (g : Nat → Int64) (hsp : SpP E mX11_isSmouldering (xRm 7 111 1 6) [.ref hx, .int a0] MX (fun z => ∃ MX', Φ MX' ∧ z = xOut (Sum.map id (fun r => some (Value.int r)) k) MX')) (ha : AnsT tI k v e) (h0 : ∃ vs, MX[0]? = some (hx, .inr (11, vs))) : HpP E mL_isSmouldering hL_isSmouldering (xRm 8 132 1 6) [.ref hx, .int a0, .ref ho] ((ho, .inl (E.2.1.2.1, 1, .inr (.inl g))) :: MX) (fun z => ∃ (MX' : va_W) (g' : Nat → Int64), Φ MX' ∧ (e = 0 → g' 0 = (if v = 0 then 0 else 1)) ∧ z = .inl (some (.int e), (ho, .inl (E.2.1.2.1, 1, .inr (.inl g'))) :: MX')) := by
  obtain ⟨vs, h0⟩ := h0
  refine HpP.of rfl rfl (L := [some (.ref hx), some (.int a0), some (.ref ho), none]) rfl rfl (Nat.le_of_ble_eq_true rfl) ?_
  refine BdH.seg ok_L_isSmouldering 0 [] rfl (show BdH E mL_isSmouldering hL_isSmouldering (xRm 8 132 1 6) 1 6 (fun z => ∃ (MX' : va_W) (g' : Nat → Int64), Φ MX' ∧ (e = 0 → g' 0 = (if v = 0 then 0 else 1)) ∧ z = .inl (some (.int e), (ho, .inl (E.2.1.2.1, 1, .inr (.inl g'))) :: MX')) 4 [some (.ref hx), some (.int a0), some (.ref ho), none] [.int a0, .ref hx, .int 0, .ref ho] ((ho, .inl (E.2.1.2.1, 1, .inr (.inl g))) :: MX) 0 0 from ?_)
  refine BdH.pm (List.perm_append_singleton _ _).symm ?_
  refine BdH.call oX11_isSmouldering vX11_isSmouldering nX11_isSmouldering k13_65 (xdec ok_L_isSmouldering 1 rfl) (As := [.int a0]) (rest := [.int 0, .ref ho]) hsp ⟨Nat.le_of_ble_eq_true rfl, Nat.le_of_ble_eq_true rfl⟩ rfl (Nat.le_of_ble_eq_true rfl) 0 h0 rfl rfl ⟨Nat.le_of_ble_eq_true rfl, Nat.le_of_ble_eq_true rfl⟩ ?_ ?_
  · rintro X M' ⟨MX', hΦ, hz⟩
    rcases ha with ⟨rfl, rfl⟩ | ⟨n, rfl, rfl, rfl, hn⟩
    · cases hz
    · have hn2 : n = 2 := by
        unfold tI at hn
        exact Classical.byContradiction fun q => hn (if_neg q)
      cases hz
      subst hn2
      refine ⟨[], (0, 16, 19, 24), [], rfl, nofun, ⟨by decide, by decide⟩, by decide, cl13_24, cs13_24, fun q => ?_⟩
      refine BdH.pm (List.perm_append_singleton _ _) ?_
      refine BdH.seg ok_L_isSmouldering 7 [] rfl ⟨Nat.le_of_ble_eq_true rfl, ⟨⟨_, g, hΦ, fun w => absurd w (by decide), rfl⟩, Nat.le_of_ble_eq_true rfl, Nat.le_of_ble_eq_true rfl⟩, trivial⟩
  · rintro w M' ⟨MX', hΦ, hz⟩
    rcases ha with ⟨rfl, rfl⟩ | ⟨n, rfl, -⟩
    · cases hz
      refine BdH.pm (List.perm_append_singleton _ _) ?_
      refine BdH.seg ok_L_isSmouldering 2 [] rfl ⟨fun c => (show BdH E mL_isSmouldering hL_isSmouldering (xRm 8 132 1 6) 1 6 (fun z => ∃ (MX' : va_W) (g' : Nat → Int64), Φ MX' ∧ ((0 : Int32) = 0 → g' 0 = (if v = 0 then 0 else 1)) ∧ z = .inl (some (.int 0), (ho, .inl (E.2.1.2.1, 1, .inr (.inl g'))) :: MX')) 14 [some (.ref hx), some (.int a0), some (.ref ho), none] [.int 0, .ref ho] ((ho, .inl (E.2.1.2.1, 1, .inr (.inl g))) :: M') 1 6 from ?_), fun c => (show BdH E mL_isSmouldering hL_isSmouldering (xRm 8 132 1 6) 1 6 (fun z => ∃ (MX' : va_W) (g' : Nat → Int64), Φ MX' ∧ ((0 : Int32) = 0 → g' 0 = (if v = 0 then 0 else 1)) ∧ z = .inl (some (.int 0), (ho, .inl (E.2.1.2.1, 1, .inr (.inl g'))) :: MX')) 10 [some (.ref hx), some (.int a0), some (.ref ho), none] [.int 0, .ref ho] ((ho, .inl (E.2.1.2.1, 1, .inr (.inl g))) :: M') 1 6 from ?_)⟩
      · refine BdH.seg ok_L_isSmouldering 4 [0] rfl ⟨⟨rfl, rfl⟩, xg (by decide), (show BdH E mL_isSmouldering hL_isSmouldering (xRm 8 132 1 6) 1 6 (fun z => ∃ (MX' : va_W) (g' : Nat → Int64), Φ MX' ∧ ((0 : Int32) = 0 → g' 0 = (if v = 0 then 0 else 1)) ∧ z = .inl (some (.int 0), (ho, .inl (E.2.1.2.1, 1, .inr (.inl g'))) :: MX')) 22 [some (.ref hx), some (.int a0), some (.ref ho), none] [] ((ho, .inl (E.2.1.2.1, 1, .inr (.inl (vp_updL g (Int32.toNatClampNeg 0) (Int64.ofNat 0))))) :: M') 1 6 from ?_)⟩
        exact BdH.seg ok_L_isSmouldering 6 [] rfl ⟨⟨⟨_, vp_updL g (Int32.toNatClampNeg 0) (Int64.ofNat 0), hΦ, fun _ => by rw [if_pos c]; rfl, rfl⟩, Nat.le_of_ble_eq_true rfl, Nat.le_of_ble_eq_true rfl⟩, trivial⟩
      · refine BdH.seg ok_L_isSmouldering 3 [] rfl (show BdH E mL_isSmouldering hL_isSmouldering (xRm 8 132 1 6) 1 6 (fun z => ∃ (MX' : va_W) (g' : Nat → Int64), Φ MX' ∧ ((0 : Int32) = 0 → g' 0 = (if v = 0 then 0 else 1)) ∧ z = .inl (some (.int 0), (ho, .inl (E.2.1.2.1, 1, .inr (.inl g'))) :: MX')) 15 [some (.ref hx), some (.int a0), some (.ref ho), none] [.long (Int64.ofNat 1), .int 0, .ref ho] ((ho, .inl (E.2.1.2.1, 1, .inr (.inl g))) :: M') 1 6 from ?_)
        refine BdH.seg ok_L_isSmouldering 5 [0] rfl ⟨⟨rfl, rfl⟩, xg (by decide), (show BdH E mL_isSmouldering hL_isSmouldering (xRm 8 132 1 6) 1 6 (fun z => ∃ (MX' : va_W) (g' : Nat → Int64), Φ MX' ∧ ((0 : Int32) = 0 → g' 0 = (if v = 0 then 0 else 1)) ∧ z = .inl (some (.int 0), (ho, .inl (E.2.1.2.1, 1, .inr (.inl g'))) :: MX')) 22 [some (.ref hx), some (.int a0), some (.ref ho), none] [] ((ho, .inl (E.2.1.2.1, 1, .inr (.inl (vp_updL g (Int32.toNatClampNeg 0) (Int64.ofNat 1))))) :: M') 1 6 from ?_)⟩
        exact BdH.seg ok_L_isSmouldering 6 [] rfl ⟨⟨⟨_, vp_updL g (Int32.toNatClampNeg 0) (Int64.ofNat 1), hΦ, fun _ => by rw [if_neg c]; rfl, rfl⟩, Nat.le_of_ble_eq_true rfl, Nat.le_of_ble_eq_true rfl⟩, trivial⟩
    · cases hz
def mL_qualityOf : xM := (yL_qualityOf, cL_qualityOf, 4, (some .int), 13)
def hL_qualityOf : List (Nat × Nat × Nat × Nat) := [(0, 9, 12, 24)]
theorem wL_qualityOf : Cond.codeWith mL_qualityOf.1 mL_qualityOf.2.1 mL_qualityOf.2.2.1 mL_qualityOf.2.2.2.1 hL_qualityOf ∈ xAll := xm6 (n := 40) rfl rfl
theorem vL_qualityOf : Cond.static mL_qualityOf.1 ∈ xAll := xm6 (n := 39) rfl rfl
theorem kL_qualityOf : Cond.methodLink (xCn 13) 237 mL_qualityOf.1 ∈ xAll := xm6 (n := 38) rfl rfl
def tb_L_qualityOf : List (Nat × List xI) := [(0, [(.aload_n 2, [], 0), (.iconst 0, [], 0), (.aload_n 0, [], 0), (.iload_n 1, [], 0)]), (4, [(.invokevirtual 68, [], 0)]), (7, [(.i2l, [], 0), (.lastore, [], 0), (.goto 6, [], 0)]), (15, [(.iconst 0, [], 0), (.ireturn, [], 0)]), (12, [(.astore_n 3, [], 0), (.iconst 1, [], 1), (.ireturn, [], 0)])]
set_option maxRecDepth 100000 in
theorem ok_L_qualityOf : ∀ q ∈ tb_L_qualityOf, xChks mL_qualityOf q.1 q.2 = true := by decide +kernel
set_option maxRecDepth 100000 in
theorem s_L_qualityOf {E : xE} {hx ho : Nat} {a0 : Int32} {v e : Int32} {k : Nat ⊕ Int32} {MX : va_W} {Φ : va_W → Prop} (g : Nat → Int64) (hsp : SpP E mX11_qualityOf (xRm 7 111 1 6) [.ref hx, .int a0] MX (fun z => ∃ MX', Φ MX' ∧ z = xOut (Sum.map id (fun r => some (Value.int r)) k) MX')) (ha : AnsT tI k v e) (h0 : ∃ vs, MX[0]? = some (hx, .inr (11, vs))) : HpP E mL_qualityOf hL_qualityOf (xRm 8 132 1 6) [.ref hx, .int a0, .ref ho] ((ho, .inl (E.2.1.2.1, 1, .inr (.inl g))) :: MX) (fun z => ∃ (MX' : va_W) (g' : Nat → Int64), Φ MX' ∧ (e = 0 → g' 0 = v.toInt64) ∧ z = .inl (some (.int e), (ho, .inl (E.2.1.2.1, 1, .inr (.inl g'))) :: MX')) := by
  obtain ⟨vs, h0⟩ := h0
  refine HpP.of rfl rfl (L := [some (.ref hx), some (.int a0), some (.ref ho), none]) rfl rfl (Nat.le_of_ble_eq_true rfl) ?_
  refine BdH.seg ok_L_qualityOf 0 [] rfl (show BdH E mL_qualityOf hL_qualityOf (xRm 8 132 1 6) 1 6 (fun z => ∃ (MX' : va_W) (g' : Nat → Int64), Φ MX' ∧ (e = 0 → g' 0 = v.toInt64) ∧ z = .inl (some (.int e), (ho, .inl (E.2.1.2.1, 1, .inr (.inl g'))) :: MX')) 4 [some (.ref hx), some (.int a0), some (.ref ho), none] [.int a0, .ref hx, .int 0, .ref ho] ((ho, .inl (E.2.1.2.1, 1, .inr (.inl g))) :: MX) 0 0 from ?_)
  refine BdH.pm (List.perm_append_singleton _ _).symm ?_
  refine BdH.call oX11_qualityOf vX11_qualityOf nX11_qualityOf k13_68 (xdec ok_L_qualityOf 1 rfl) (As := [.int a0]) (rest := [.int 0, .ref ho]) hsp ⟨Nat.le_of_ble_eq_true rfl, Nat.le_of_ble_eq_true rfl⟩ rfl (Nat.le_of_ble_eq_true rfl) 0 h0 rfl rfl ⟨Nat.le_of_ble_eq_true rfl, Nat.le_of_ble_eq_true rfl⟩ ?_ ?_
  · rintro X M' ⟨MX', hΦ, hz⟩
    rcases ha with ⟨rfl, rfl⟩ | ⟨n, rfl, rfl, rfl, hn⟩
    · cases hz
    · have hn2 : n = 2 := by
        unfold tI at hn
        exact Classical.byContradiction fun q => hn (if_neg q)
      cases hz
      subst hn2
      refine ⟨[], (0, 9, 12, 24), [], rfl, nofun, ⟨by decide, by decide⟩, by decide, cl13_24, cs13_24, fun q => ?_⟩
      refine BdH.pm (List.perm_append_singleton _ _) ?_
      refine BdH.seg ok_L_qualityOf 4 [] rfl ⟨Nat.le_of_ble_eq_true rfl, ⟨⟨_, g, hΦ, fun w => absurd w (by decide), rfl⟩, Nat.le_of_ble_eq_true rfl, Nat.le_of_ble_eq_true rfl⟩, trivial⟩
  · rintro w M' ⟨MX', hΦ, hz⟩
    rcases ha with ⟨rfl, rfl⟩ | ⟨n, rfl, -⟩
    · cases hz
      refine BdH.pm (List.perm_append_singleton _ _) ?_
      refine BdH.seg ok_L_qualityOf 2 [0] rfl ⟨⟨rfl, rfl⟩, xg (by decide), (show BdH E mL_qualityOf hL_qualityOf (xRm 8 132 1 6) 1 6 (fun z => ∃ (MX' : va_W) (g' : Nat → Int64), Φ MX' ∧ ((0 : Int32) = 0 → g' 0 = v.toInt64) ∧ z = .inl (some (.int 0), (ho, .inl (E.2.1.2.1, 1, .inr (.inl g'))) :: MX')) 15 [some (.ref hx), some (.int a0), some (.ref ho), none] [] ((ho, .inl (E.2.1.2.1, 1, .inr (.inl (vp_updL g (Int32.toNatClampNeg 0) v.toInt64)))) :: M') 1 6 from ?_)⟩
      exact BdH.seg ok_L_qualityOf 3 [] rfl ⟨⟨⟨_, vp_updL g (Int32.toNatClampNeg 0) v.toInt64, hΦ, fun _ => rfl, rfl⟩, Nat.le_of_ble_eq_true rfl, Nat.le_of_ble_eq_true rfl⟩, trivial⟩
    · cases hz
def mL_priceOf : xM := (yL_priceOf, cL_priceOf, 4, (some .int), 13)
def hL_priceOf : List (Nat × Nat × Nat × Nat) := [(0, 9, 12, 24)]
theorem wL_priceOf : Cond.codeWith mL_priceOf.1 mL_priceOf.2.1 mL_priceOf.2.2.1 mL_priceOf.2.2.2.1 hL_priceOf ∈ xAll := xm6 (n := 48) rfl rfl
theorem vL_priceOf : Cond.static mL_priceOf.1 ∈ xAll := xm6 (n := 47) rfl rfl
theorem kL_priceOf : Cond.methodLink (xCn 13) 240 mL_priceOf.1 ∈ xAll := xm6 (n := 46) rfl rfl
def tb_L_priceOf : List (Nat × List xI) := [(0, [(.aload_n 2, [], 0), (.iconst 0, [], 0), (.aload_n 0, [], 0), (.iload_n 1, [], 0)]), (4, [(.invokevirtual 71, [], 0)]), (7, [(.i2l, [], 0), (.lastore, [], 0), (.goto 6, [], 0)]), (15, [(.iconst 0, [], 0), (.ireturn, [], 0)]), (12, [(.astore_n 3, [], 0), (.iconst 1, [], 1), (.ireturn, [], 0)])]
set_option maxRecDepth 100000 in
theorem ok_L_priceOf : ∀ q ∈ tb_L_priceOf, xChks mL_priceOf q.1 q.2 = true := by decide +kernel
set_option maxRecDepth 100000 in
theorem s_L_priceOf {E : xE} {hx ho : Nat} {a0 : Int32} {v e : Int32} {k : Nat ⊕ Int32} {MX : va_W} {Φ : va_W → Prop} (g : Nat → Int64) (hsp : SpP E mX11_priceOf (xRm 7 111 1 6) [.ref hx, .int a0] MX (fun z => ∃ MX', Φ MX' ∧ z = xOut (Sum.map id (fun r => some (Value.int r)) k) MX')) (ha : AnsT tI k v e) (h0 : ∃ vs, MX[0]? = some (hx, .inr (11, vs))) : HpP E mL_priceOf hL_priceOf (xRm 8 132 1 6) [.ref hx, .int a0, .ref ho] ((ho, .inl (E.2.1.2.1, 1, .inr (.inl g))) :: MX) (fun z => ∃ (MX' : va_W) (g' : Nat → Int64), Φ MX' ∧ (e = 0 → g' 0 = v.toInt64) ∧ z = .inl (some (.int e), (ho, .inl (E.2.1.2.1, 1, .inr (.inl g'))) :: MX')) := by
  obtain ⟨vs, h0⟩ := h0
  refine HpP.of rfl rfl (L := [some (.ref hx), some (.int a0), some (.ref ho), none]) rfl rfl (Nat.le_of_ble_eq_true rfl) ?_
  refine BdH.seg ok_L_priceOf 0 [] rfl (show BdH E mL_priceOf hL_priceOf (xRm 8 132 1 6) 1 6 (fun z => ∃ (MX' : va_W) (g' : Nat → Int64), Φ MX' ∧ (e = 0 → g' 0 = v.toInt64) ∧ z = .inl (some (.int e), (ho, .inl (E.2.1.2.1, 1, .inr (.inl g'))) :: MX')) 4 [some (.ref hx), some (.int a0), some (.ref ho), none] [.int a0, .ref hx, .int 0, .ref ho] ((ho, .inl (E.2.1.2.1, 1, .inr (.inl g))) :: MX) 0 0 from ?_)
  refine BdH.pm (List.perm_append_singleton _ _).symm ?_
  refine BdH.call oX11_priceOf vX11_priceOf nX11_priceOf k13_71 (xdec ok_L_priceOf 1 rfl) (As := [.int a0]) (rest := [.int 0, .ref ho]) hsp ⟨Nat.le_of_ble_eq_true rfl, Nat.le_of_ble_eq_true rfl⟩ rfl (Nat.le_of_ble_eq_true rfl) 0 h0 rfl rfl ⟨Nat.le_of_ble_eq_true rfl, Nat.le_of_ble_eq_true rfl⟩ ?_ ?_
  · rintro X M' ⟨MX', hΦ, hz⟩
    rcases ha with ⟨rfl, rfl⟩ | ⟨n, rfl, rfl, rfl, hn⟩
    · cases hz
    · have hn2 : n = 2 := by
        unfold tI at hn
        exact Classical.byContradiction fun q => hn (if_neg q)
      cases hz
      subst hn2
      refine ⟨[], (0, 9, 12, 24), [], rfl, nofun, ⟨by decide, by decide⟩, by decide, cl13_24, cs13_24, fun q => ?_⟩
      refine BdH.pm (List.perm_append_singleton _ _) ?_
      refine BdH.seg ok_L_priceOf 4 [] rfl ⟨Nat.le_of_ble_eq_true rfl, ⟨⟨_, g, hΦ, fun w => absurd w (by decide), rfl⟩, Nat.le_of_ble_eq_true rfl, Nat.le_of_ble_eq_true rfl⟩, trivial⟩
  · rintro w M' ⟨MX', hΦ, hz⟩
    rcases ha with ⟨rfl, rfl⟩ | ⟨n, rfl, -⟩
    · cases hz
      refine BdH.pm (List.perm_append_singleton _ _) ?_
      refine BdH.seg ok_L_priceOf 2 [0] rfl ⟨⟨rfl, rfl⟩, xg (by decide), (show BdH E mL_priceOf hL_priceOf (xRm 8 132 1 6) 1 6 (fun z => ∃ (MX' : va_W) (g' : Nat → Int64), Φ MX' ∧ ((0 : Int32) = 0 → g' 0 = v.toInt64) ∧ z = .inl (some (.int 0), (ho, .inl (E.2.1.2.1, 1, .inr (.inl g'))) :: MX')) 15 [some (.ref hx), some (.int a0), some (.ref ho), none] [] ((ho, .inl (E.2.1.2.1, 1, .inr (.inl (vp_updL g (Int32.toNatClampNeg 0) v.toInt64)))) :: M') 1 6 from ?_)⟩
      exact BdH.seg ok_L_priceOf 3 [] rfl ⟨⟨⟨_, vp_updL g (Int32.toNatClampNeg 0) v.toInt64, hΦ, fun _ => rfl, rfl⟩, Nat.le_of_ble_eq_true rfl, Nat.le_of_ble_eq_true rfl⟩, trivial⟩
    · cases hz
def mL_temperatureAfter : xM := (yL_temperatureAfter, cL_temperatureAfter, 5, (some .int), 13)
def hL_temperatureAfter : List (Nat × Nat × Nat × Nat) := [(0, 10, 13, 24), (0, 10, 17, 19)]
theorem wL_temperatureAfter : Cond.codeWith mL_temperatureAfter.1 mL_temperatureAfter.2.1 mL_temperatureAfter.2.2.1 mL_temperatureAfter.2.2.2.1 hL_temperatureAfter ∈ xAll := xm6 (n := 56) rfl rfl
theorem vL_temperatureAfter : Cond.static mL_temperatureAfter.1 ∈ xAll := xm6 (n := 55) rfl rfl
theorem kL_temperatureAfter : Cond.methodLink (xCn 13) 289 mL_temperatureAfter.1 ∈ xAll := xm6 (n := 54) rfl rfl
def tb_L_temperatureAfter : List (Nat × List xI) := [(0, [(.aload_n 3, [], 0), (.iconst 0, [], 0), (.aload_n 0, [], 0), (.iload_n 1, [], 0), (.iload_n 2, [], 0)]), (5, [(.invokevirtual 74, [], 0)]), (8, [(.i2l, [], 0), (.lastore, [], 0), (.goto 11, [], 0)]), (21, [(.iconst 0, [], 0), (.ireturn, [], 0)]), (13, [(.astore 4, [], 0), (.iconst 1, [], 1), (.ireturn, [], 0)]), (17, [(.astore 4, [], 0), (.iconst 2, [], 2), (.ireturn, [], 0)])]
set_option maxRecDepth 100000 in
theorem ok_L_temperatureAfter : ∀ q ∈ tb_L_temperatureAfter, xChks mL_temperatureAfter q.1 q.2 = true := by decide +kernel
set_option maxRecDepth 100000 in
theorem s_L_temperatureAfter {E : xE} {hx ho : Nat} {a0 a1 : Int32} {v e : Int32} {k : Nat ⊕ Int32} {MX : va_W} {Φ : va_W → Prop} (g : Nat → Int64) (hsp : SpP E mX11_temperatureAfter (xRm 7 114 2 12) [.ref hx, .int a0, .int a1] MX (fun z => ∃ MX', Φ MX' ∧ z = xOut (Sum.map id (fun r => some (Value.int r)) k) MX')) (ha : AnsT tIA k v e) (h0 : ∃ vs, MX[0]? = some (hx, .inr (11, vs))) : HpP E mL_temperatureAfter hL_temperatureAfter (xRm 8 136 2 12) [.ref hx, .int a0, .int a1, .ref ho] ((ho, .inl (E.2.1.2.1, 1, .inr (.inl g))) :: MX) (fun z => ∃ (MX' : va_W) (g' : Nat → Int64), Φ MX' ∧ (e = 0 → g' 0 = v.toInt64) ∧ z = .inl (some (.int e), (ho, .inl (E.2.1.2.1, 1, .inr (.inl g'))) :: MX')) := by
  obtain ⟨vs, h0⟩ := h0
  refine HpP.of rfl rfl (L := [some (.ref hx), some (.int a0), some (.int a1), some (.ref ho), none]) rfl rfl (Nat.le_of_ble_eq_true rfl) ?_
  refine BdH.seg ok_L_temperatureAfter 0 [] rfl (show BdH E mL_temperatureAfter hL_temperatureAfter (xRm 8 136 2 12) 2 12 (fun z => ∃ (MX' : va_W) (g' : Nat → Int64), Φ MX' ∧ (e = 0 → g' 0 = v.toInt64) ∧ z = .inl (some (.int e), (ho, .inl (E.2.1.2.1, 1, .inr (.inl g'))) :: MX')) 5 [some (.ref hx), some (.int a0), some (.int a1), some (.ref ho), none] [.int a1, .int a0, .ref hx, .int 0, .ref ho] ((ho, .inl (E.2.1.2.1, 1, .inr (.inl g))) :: MX) 0 0 from ?_)
  refine BdH.pm (List.perm_append_singleton _ _).symm ?_
  refine BdH.call oX11_temperatureAfter vX11_temperatureAfter nX11_temperatureAfter k13_74 (xdec ok_L_temperatureAfter 1 rfl) (As := [.int a0, .int a1]) (rest := [.int 0, .ref ho]) hsp ⟨Nat.le_of_ble_eq_true rfl, Nat.le_of_ble_eq_true rfl⟩ rfl (Nat.le_of_ble_eq_true rfl) 0 h0 rfl rfl ⟨Nat.le_of_ble_eq_true rfl, Nat.le_of_ble_eq_true rfl⟩ ?_ ?_
  · rintro X M' ⟨MX', hΦ, hz⟩
    rcases ha with ⟨rfl, rfl⟩ | ⟨n, rfl, rfl, rfl, hn⟩
    · cases hz
    · have hn2 : n = 2 ∨ n = 1 := by
        unfold tIA at hn
        exact Classical.byContradiction fun q => hn (by rw [if_neg (fun w => q (Or.inl w)), if_neg (fun w => q (Or.inr w))])
      cases hz
      rcases hn2 with rfl | rfl
      · refine ⟨[], (0, 10, 13, 24), [(0, 10, 17, 19)], rfl, nofun, ⟨by decide, by decide⟩, by decide, cl13_24, cs13_24, fun q => ?_⟩
        refine BdH.pm (List.perm_append_singleton _ _) ?_
        refine BdH.seg ok_L_temperatureAfter 4 [] rfl ⟨Nat.le_of_ble_eq_true rfl, ⟨⟨_, g, hΦ, fun w => absurd w (by decide), rfl⟩, Nat.le_of_ble_eq_true rfl, Nat.le_of_ble_eq_true rfl⟩, trivial⟩
      · refine ⟨[(0, 10, 13, 24)], (0, 10, 17, 19), [], rfl, fun z hz => by
          obtain rfl := List.mem_singleton.mp hz
          exact ⟨by decide, _, cl13_24, by decide⟩, ⟨by decide, by decide⟩, by decide, cl13_19, cs13_19, fun q => ?_⟩
        refine BdH.pm (List.perm_append_singleton _ _) ?_
        refine BdH.seg ok_L_temperatureAfter 5 [] rfl ⟨Nat.le_of_ble_eq_true rfl, ⟨⟨_, g, hΦ, fun w => absurd w (by decide), rfl⟩, Nat.le_of_ble_eq_true rfl, Nat.le_of_ble_eq_true rfl⟩, trivial⟩
  · rintro w M' ⟨MX', hΦ, hz⟩
    rcases ha with ⟨rfl, rfl⟩ | ⟨n, rfl, -⟩
    · cases hz
      refine BdH.pm (List.perm_append_singleton _ _) ?_
      refine BdH.seg ok_L_temperatureAfter 2 [0] rfl ⟨⟨rfl, rfl⟩, xg (by decide), (show BdH E mL_temperatureAfter hL_temperatureAfter (xRm 8 136 2 12) 2 12 (fun z => ∃ (MX' : va_W) (g' : Nat → Int64), Φ MX' ∧ ((0 : Int32) = 0 → g' 0 = v.toInt64) ∧ z = .inl (some (.int 0), (ho, .inl (E.2.1.2.1, 1, .inr (.inl g'))) :: MX')) 21 [some (.ref hx), some (.int a0), some (.int a1), some (.ref ho), none] [] ((ho, .inl (E.2.1.2.1, 1, .inr (.inl (vp_updL g (Int32.toNatClampNeg 0) v.toInt64)))) :: M') 2 12 from ?_)⟩
      exact BdH.seg ok_L_temperatureAfter 3 [] rfl ⟨⟨⟨_, vp_updL g (Int32.toNatClampNeg 0) v.toInt64, hΦ, fun _ => rfl, rfl⟩, Nat.le_of_ble_eq_true rfl, Nat.le_of_ble_eq_true rfl⟩, trivial⟩
    · cases hz
def mL_minutesUntilDry : xM := (yL_minutesUntilDry, cL_minutesUntilDry, 4, (some .int), 13)
def hL_minutesUntilDry : List (Nat × Nat × Nat × Nat) := [(0, 9, 12, 24), (0, 9, 15, 39)]
theorem wL_minutesUntilDry : Cond.codeWith mL_minutesUntilDry.1 mL_minutesUntilDry.2.1 mL_minutesUntilDry.2.2.1 mL_minutesUntilDry.2.2.2.1 hL_minutesUntilDry ∈ xAll := xm6 (n := 65) rfl rfl
theorem vL_minutesUntilDry : Cond.static mL_minutesUntilDry.1 ∈ xAll := xm6 (n := 64) rfl rfl
theorem kL_minutesUntilDry : Cond.methodLink (xCn 13) 293 mL_minutesUntilDry.1 ∈ xAll := xm6 (n := 63) rfl rfl
def tb_L_minutesUntilDry : List (Nat × List xI) := [(0, [(.aload_n 2, [], 0), (.iconst 0, [], 0), (.aload_n 0, [], 0), (.iload_n 1, [], 0)]), (4, [(.invokevirtual 78, [], 0)]), (7, [(.i2l, [], 0), (.lastore, [], 0), (.goto 9, [], 0)]), (18, [(.iconst 0, [], 0), (.ireturn, [], 0)]), (12, [(.astore_n 3, [], 0), (.iconst 1, [], 1), (.ireturn, [], 0)]), (15, [(.astore_n 3, [], 0), (.iconst 2, [], 2), (.ireturn, [], 0)])]
set_option maxRecDepth 100000 in
theorem ok_L_minutesUntilDry : ∀ q ∈ tb_L_minutesUntilDry, xChks mL_minutesUntilDry q.1 q.2 = true := by decide +kernel
set_option maxRecDepth 100000 in
theorem s_L_minutesUntilDry {E : xE} {hx ho : Nat} {a0 : Int32} {v e : Int32} {k : Nat ⊕ Int32} {MX : va_W} {Φ : va_W → Prop} (g : Nat → Int64) (hsp : SpP E mX11_minutesUntilDry (xRm 7 114 2 12) [.ref hx, .int a0] MX (fun z => ∃ MX', Φ MX' ∧ z = xOut (Sum.map id (fun r => some (Value.int r)) k) MX')) (ha : AnsT tM k v e) (h0 : ∃ vs, MX[0]? = some (hx, .inr (11, vs))) : HpP E mL_minutesUntilDry hL_minutesUntilDry (xRm 8 136 2 12) [.ref hx, .int a0, .ref ho] ((ho, .inl (E.2.1.2.1, 1, .inr (.inl g))) :: MX) (fun z => ∃ (MX' : va_W) (g' : Nat → Int64), Φ MX' ∧ (e = 0 → g' 0 = v.toInt64) ∧ z = .inl (some (.int e), (ho, .inl (E.2.1.2.1, 1, .inr (.inl g'))) :: MX')) := by
  obtain ⟨vs, h0⟩ := h0
  refine HpP.of rfl rfl (L := [some (.ref hx), some (.int a0), some (.ref ho), none]) rfl rfl (Nat.le_of_ble_eq_true rfl) ?_
  refine BdH.seg ok_L_minutesUntilDry 0 [] rfl (show BdH E mL_minutesUntilDry hL_minutesUntilDry (xRm 8 136 2 12) 2 12 (fun z => ∃ (MX' : va_W) (g' : Nat → Int64), Φ MX' ∧ (e = 0 → g' 0 = v.toInt64) ∧ z = .inl (some (.int e), (ho, .inl (E.2.1.2.1, 1, .inr (.inl g'))) :: MX')) 4 [some (.ref hx), some (.int a0), some (.ref ho), none] [.int a0, .ref hx, .int 0, .ref ho] ((ho, .inl (E.2.1.2.1, 1, .inr (.inl g))) :: MX) 0 0 from ?_)
  refine BdH.pm (List.perm_append_singleton _ _).symm ?_
  refine BdH.call oX11_minutesUntilDry vX11_minutesUntilDry nX11_minutesUntilDry k13_78 (xdec ok_L_minutesUntilDry 1 rfl) (As := [.int a0]) (rest := [.int 0, .ref ho]) hsp ⟨Nat.le_of_ble_eq_true rfl, Nat.le_of_ble_eq_true rfl⟩ rfl (Nat.le_of_ble_eq_true rfl) 0 h0 rfl rfl ⟨Nat.le_of_ble_eq_true rfl, Nat.le_of_ble_eq_true rfl⟩ ?_ ?_
  · rintro X M' ⟨MX', hΦ, hz⟩
    rcases ha with ⟨rfl, rfl⟩ | ⟨n, rfl, rfl, rfl, hn⟩
    · cases hz
    · have hn2 : n = 2 ∨ n = 3 := by
        unfold tM at hn
        exact Classical.byContradiction fun q => hn (by rw [if_neg (fun w => q (Or.inl w)), if_neg (fun w => q (Or.inr w))])
      cases hz
      rcases hn2 with rfl | rfl
      · refine ⟨[], (0, 9, 12, 24), [(0, 9, 15, 39)], rfl, nofun, ⟨by decide, by decide⟩, by decide, cl13_24, cs13_24, fun q => ?_⟩
        refine BdH.pm (List.perm_append_singleton _ _) ?_
        refine BdH.seg ok_L_minutesUntilDry 4 [] rfl ⟨Nat.le_of_ble_eq_true rfl, ⟨⟨_, g, hΦ, fun w => absurd w (by decide), rfl⟩, Nat.le_of_ble_eq_true rfl, Nat.le_of_ble_eq_true rfl⟩, trivial⟩
      · refine ⟨[(0, 9, 12, 24)], (0, 9, 15, 39), [], rfl, fun z hz => by
          obtain rfl := List.mem_singleton.mp hz
          exact ⟨by decide, _, cl13_24, by decide⟩, ⟨by decide, by decide⟩, by decide, cl13_39, cs13_39, fun q => ?_⟩
        refine BdH.pm (List.perm_append_singleton _ _) ?_
        refine BdH.seg ok_L_minutesUntilDry 5 [] rfl ⟨Nat.le_of_ble_eq_true rfl, ⟨⟨_, g, hΦ, fun w => absurd w (by decide), rfl⟩, Nat.le_of_ble_eq_true rfl, Nat.le_of_ble_eq_true rfl⟩, trivial⟩
  · rintro w M' ⟨MX', hΦ, hz⟩
    rcases ha with ⟨rfl, rfl⟩ | ⟨n, rfl, -⟩
    · cases hz
      refine BdH.pm (List.perm_append_singleton _ _) ?_
      refine BdH.seg ok_L_minutesUntilDry 2 [0] rfl ⟨⟨rfl, rfl⟩, xg (by decide), (show BdH E mL_minutesUntilDry hL_minutesUntilDry (xRm 8 136 2 12) 2 12 (fun z => ∃ (MX' : va_W) (g' : Nat → Int64), Φ MX' ∧ ((0 : Int32) = 0 → g' 0 = v.toInt64) ∧ z = .inl (some (.int 0), (ho, .inl (E.2.1.2.1, 1, .inr (.inl g'))) :: MX')) 18 [some (.ref hx), some (.int a0), some (.ref ho), none] [] ((ho, .inl (E.2.1.2.1, 1, .inr (.inl (vp_updL g (Int32.toNatClampNeg 0) v.toInt64)))) :: M') 2 12 from ?_)⟩
      exact BdH.seg ok_L_minutesUntilDry 3 [] rfl ⟨⟨⟨_, vp_updL g (Int32.toNatClampNeg 0) v.toInt64, hΦ, fun _ => rfl, rfl⟩, Nat.le_of_ble_eq_true rfl, Nat.le_of_ble_eq_true rfl⟩, trivial⟩
    · cases hz
def mL_minutesUntilBurnt : xM := (yL_minutesUntilBurnt, cL_minutesUntilBurnt, 4, (some .int), 13)
def hL_minutesUntilBurnt : List (Nat × Nat × Nat × Nat) := [(0, 9, 12, 24)]
theorem wL_minutesUntilBurnt : Cond.codeWith mL_minutesUntilBurnt.1 mL_minutesUntilBurnt.2.1 mL_minutesUntilBurnt.2.2.1 mL_minutesUntilBurnt.2.2.2.1 hL_minutesUntilBurnt ∈ xAll := xm6 (n := 72) rfl rfl
theorem vL_minutesUntilBurnt : Cond.static mL_minutesUntilBurnt.1 ∈ xAll := xm6 (n := 71) rfl rfl
theorem kL_minutesUntilBurnt : Cond.methodLink (xCn 13) 296 mL_minutesUntilBurnt.1 ∈ xAll := xm6 (n := 70) rfl rfl
def tb_L_minutesUntilBurnt : List (Nat × List xI) := [(0, [(.aload_n 2, [], 0), (.iconst 0, [], 0), (.aload_n 0, [], 0), (.iload_n 1, [], 0)]), (4, [(.invokevirtual 81, [], 0)]), (7, [(.i2l, [], 0), (.lastore, [], 0), (.goto 6, [], 0)]), (15, [(.iconst 0, [], 0), (.ireturn, [], 0)]), (12, [(.astore_n 3, [], 0), (.iconst 1, [], 1), (.ireturn, [], 0)])]
set_option maxRecDepth 100000 in
theorem ok_L_minutesUntilBurnt : ∀ q ∈ tb_L_minutesUntilBurnt, xChks mL_minutesUntilBurnt q.1 q.2 = true := by decide +kernel
set_option maxRecDepth 100000 in
theorem s_L_minutesUntilBurnt {E : xE} {hx ho : Nat} {a0 : Int32} {v e : Int32} {k : Nat ⊕ Int32} {MX : va_W} {Φ : va_W → Prop} (g : Nat → Int64) (hsp : SpP E mX11_minutesUntilBurnt (xRm 7 114 1 6) [.ref hx, .int a0] MX (fun z => ∃ MX', Φ MX' ∧ z = xOut (Sum.map id (fun r => some (Value.int r)) k) MX')) (ha : AnsT tI k v e) (h0 : ∃ vs, MX[0]? = some (hx, .inr (11, vs))) : HpP E mL_minutesUntilBurnt hL_minutesUntilBurnt (xRm 8 136 1 6) [.ref hx, .int a0, .ref ho] ((ho, .inl (E.2.1.2.1, 1, .inr (.inl g))) :: MX) (fun z => ∃ (MX' : va_W) (g' : Nat → Int64), Φ MX' ∧ (e = 0 → g' 0 = v.toInt64) ∧ z = .inl (some (.int e), (ho, .inl (E.2.1.2.1, 1, .inr (.inl g'))) :: MX')) := by
  obtain ⟨vs, h0⟩ := h0
  refine HpP.of rfl rfl (L := [some (.ref hx), some (.int a0), some (.ref ho), none]) rfl rfl (Nat.le_of_ble_eq_true rfl) ?_
  refine BdH.seg ok_L_minutesUntilBurnt 0 [] rfl (show BdH E mL_minutesUntilBurnt hL_minutesUntilBurnt (xRm 8 136 1 6) 1 6 (fun z => ∃ (MX' : va_W) (g' : Nat → Int64), Φ MX' ∧ (e = 0 → g' 0 = v.toInt64) ∧ z = .inl (some (.int e), (ho, .inl (E.2.1.2.1, 1, .inr (.inl g'))) :: MX')) 4 [some (.ref hx), some (.int a0), some (.ref ho), none] [.int a0, .ref hx, .int 0, .ref ho] ((ho, .inl (E.2.1.2.1, 1, .inr (.inl g))) :: MX) 0 0 from ?_)
  refine BdH.pm (List.perm_append_singleton _ _).symm ?_
  refine BdH.call oX11_minutesUntilBurnt vX11_minutesUntilBurnt nX11_minutesUntilBurnt k13_81 (xdec ok_L_minutesUntilBurnt 1 rfl) (As := [.int a0]) (rest := [.int 0, .ref ho]) hsp ⟨Nat.le_of_ble_eq_true rfl, Nat.le_of_ble_eq_true rfl⟩ rfl (Nat.le_of_ble_eq_true rfl) 0 h0 rfl rfl ⟨Nat.le_of_ble_eq_true rfl, Nat.le_of_ble_eq_true rfl⟩ ?_ ?_
  · rintro X M' ⟨MX', hΦ, hz⟩
    rcases ha with ⟨rfl, rfl⟩ | ⟨n, rfl, rfl, rfl, hn⟩
    · cases hz
    · have hn2 : n = 2 := by
        unfold tI at hn
        exact Classical.byContradiction fun q => hn (if_neg q)
      cases hz
      subst hn2
      refine ⟨[], (0, 9, 12, 24), [], rfl, nofun, ⟨by decide, by decide⟩, by decide, cl13_24, cs13_24, fun q => ?_⟩
      refine BdH.pm (List.perm_append_singleton _ _) ?_
      refine BdH.seg ok_L_minutesUntilBurnt 4 [] rfl ⟨Nat.le_of_ble_eq_true rfl, ⟨⟨_, g, hΦ, fun w => absurd w (by decide), rfl⟩, Nat.le_of_ble_eq_true rfl, Nat.le_of_ble_eq_true rfl⟩, trivial⟩
  · rintro w M' ⟨MX', hΦ, hz⟩
    rcases ha with ⟨rfl, rfl⟩ | ⟨n, rfl, -⟩
    · cases hz
      refine BdH.pm (List.perm_append_singleton _ _) ?_
      refine BdH.seg ok_L_minutesUntilBurnt 2 [0] rfl ⟨⟨rfl, rfl⟩, xg (by decide), (show BdH E mL_minutesUntilBurnt hL_minutesUntilBurnt (xRm 8 136 1 6) 1 6 (fun z => ∃ (MX' : va_W) (g' : Nat → Int64), Φ MX' ∧ ((0 : Int32) = 0 → g' 0 = v.toInt64) ∧ z = .inl (some (.int 0), (ho, .inl (E.2.1.2.1, 1, .inr (.inl g'))) :: MX')) 15 [some (.ref hx), some (.int a0), some (.ref ho), none] [] ((ho, .inl (E.2.1.2.1, 1, .inr (.inl (vp_updL g (Int32.toNatClampNeg 0) v.toInt64)))) :: M') 1 6 from ?_)⟩
      exact BdH.seg ok_L_minutesUntilBurnt 3 [] rfl ⟨⟨⟨_, vp_updL g (Int32.toNatClampNeg 0) v.toInt64, hΦ, fun _ => rfl, rfl⟩, Nat.le_of_ble_eq_true rfl, Nat.le_of_ble_eq_true rfl⟩, trivial⟩
    · cases hz
def mL_putLoad : xM := (yL_putLoad, cL_putLoad, 5, (some .int), 13)
def hL_putLoad : List (Nat × Nat × Nat × Nat) := [(0, 10, 13, 19), (0, 10, 17, 13)]
theorem wL_putLoad : Cond.codeWith mL_putLoad.1 mL_putLoad.2.1 mL_putLoad.2.2.1 mL_putLoad.2.2.2.1 hL_putLoad ∈ xAll := xm6 (n := 79) rfl rfl
theorem vL_putLoad : Cond.static mL_putLoad.1 ∈ xAll := xm6 (n := 78) rfl rfl
theorem kL_putLoad : Cond.methodLink (xCn 13) 299 mL_putLoad.1 ∈ xAll := xm6 (n := 77) rfl rfl
def tb_L_putLoad : List (Nat × List xI) := [(0, [(.aload_n 3, [], 0), (.iconst 0, [], 0), (.aload_n 0, [], 0), (.iload_n 1, [], 0), (.iload_n 2, [], 0)]), (5, [(.invokevirtual 84, [], 0)]), (8, [(.i2l, [], 0), (.lastore, [], 0), (.goto 11, [], 0)]), (21, [(.iconst 0, [], 0), (.ireturn, [], 0)]), (13, [(.astore 4, [], 0), (.iconst 1, [], 1), (.ireturn, [], 0)]), (17, [(.astore 4, [], 0), (.iconst 2, [], 2), (.ireturn, [], 0)])]
set_option maxRecDepth 100000 in
theorem ok_L_putLoad : ∀ q ∈ tb_L_putLoad, xChks mL_putLoad q.1 q.2 = true := by decide +kernel
set_option maxRecDepth 100000 in
theorem s_L_putLoad {E : xE} {hx ho : Nat} {a0 a1 : Int32} {v e : Int32} {k : Nat ⊕ Int32} {MX : va_W} {Φ : va_W → Prop} (g : Nat → Int64) (hsp : SpP E mX11_putLoad (xRm 6 124 16 159) [.ref hx, .int a0, .int a1] MX (fun z => ∃ MX', Φ MX' ∧ z = xOut (Sum.map id (fun r => some (Value.int r)) k) MX')) (ha : AnsT tAS k v e) (h0 : ∃ vs, MX[0]? = some (hx, .inr (11, vs))) : HpP E mL_putLoad hL_putLoad (xRm 7 146 16 159) [.ref hx, .int a0, .int a1, .ref ho] ((ho, .inl (E.2.1.2.1, 1, .inr (.inl g))) :: MX) (fun z => ∃ (MX' : va_W) (g' : Nat → Int64), Φ MX' ∧ (e = 0 → g' 0 = v.toInt64) ∧ z = .inl (some (.int e), (ho, .inl (E.2.1.2.1, 1, .inr (.inl g'))) :: MX')) := by
  obtain ⟨vs, h0⟩ := h0
  refine HpP.of rfl rfl (L := [some (.ref hx), some (.int a0), some (.int a1), some (.ref ho), none]) rfl rfl (Nat.le_of_ble_eq_true rfl) ?_
  refine BdH.seg ok_L_putLoad 0 [] rfl (show BdH E mL_putLoad hL_putLoad (xRm 7 146 16 159) 16 159 (fun z => ∃ (MX' : va_W) (g' : Nat → Int64), Φ MX' ∧ (e = 0 → g' 0 = v.toInt64) ∧ z = .inl (some (.int e), (ho, .inl (E.2.1.2.1, 1, .inr (.inl g'))) :: MX')) 5 [some (.ref hx), some (.int a0), some (.int a1), some (.ref ho), none] [.int a1, .int a0, .ref hx, .int 0, .ref ho] ((ho, .inl (E.2.1.2.1, 1, .inr (.inl g))) :: MX) 0 0 from ?_)
  refine BdH.pm (List.perm_append_singleton _ _).symm ?_
  refine BdH.call oX11_putLoad vX11_putLoad nX11_putLoad k13_84 (xdec ok_L_putLoad 1 rfl) (As := [.int a0, .int a1]) (rest := [.int 0, .ref ho]) hsp ⟨Nat.le_of_ble_eq_true rfl, Nat.le_of_ble_eq_true rfl⟩ rfl (Nat.le_of_ble_eq_true rfl) 0 h0 rfl rfl ⟨Nat.le_of_ble_eq_true rfl, Nat.le_of_ble_eq_true rfl⟩ ?_ ?_
  · rintro X M' ⟨MX', hΦ, hz⟩
    rcases ha with ⟨rfl, rfl⟩ | ⟨n, rfl, rfl, rfl, hn⟩
    · cases hz
    · have hn2 : n = 1 ∨ n = 0 := by
        unfold tAS at hn
        exact Classical.byContradiction fun q => hn (by rw [if_neg (fun w => q (Or.inl w)), if_neg (fun w => q (Or.inr w))])
      cases hz
      rcases hn2 with rfl | rfl
      · refine ⟨[], (0, 10, 13, 19), [(0, 10, 17, 13)], rfl, nofun, ⟨by decide, by decide⟩, by decide, cl13_19, cs13_19, fun q => ?_⟩
        refine BdH.pm (List.perm_append_singleton _ _) ?_
        refine BdH.seg ok_L_putLoad 4 [] rfl ⟨Nat.le_of_ble_eq_true rfl, ⟨⟨_, g, hΦ, fun w => absurd w (by decide), rfl⟩, Nat.le_of_ble_eq_true rfl, Nat.le_of_ble_eq_true rfl⟩, trivial⟩
      · refine ⟨[(0, 10, 13, 19)], (0, 10, 17, 13), [], rfl, fun z hz => by
          obtain rfl := List.mem_singleton.mp hz
          exact ⟨by decide, _, cl13_19, by decide⟩, ⟨by decide, by decide⟩, by decide, cl13_13, cs13_13, fun q => ?_⟩
        refine BdH.pm (List.perm_append_singleton _ _) ?_
        refine BdH.seg ok_L_putLoad 5 [] rfl ⟨Nat.le_of_ble_eq_true rfl, ⟨⟨_, g, hΦ, fun w => absurd w (by decide), rfl⟩, Nat.le_of_ble_eq_true rfl, Nat.le_of_ble_eq_true rfl⟩, trivial⟩
  · rintro w M' ⟨MX', hΦ, hz⟩
    rcases ha with ⟨rfl, rfl⟩ | ⟨n, rfl, -⟩
    · cases hz
      refine BdH.pm (List.perm_append_singleton _ _) ?_
      refine BdH.seg ok_L_putLoad 2 [0] rfl ⟨⟨rfl, rfl⟩, xg (by decide), (show BdH E mL_putLoad hL_putLoad (xRm 7 146 16 159) 16 159 (fun z => ∃ (MX' : va_W) (g' : Nat → Int64), Φ MX' ∧ ((0 : Int32) = 0 → g' 0 = v.toInt64) ∧ z = .inl (some (.int 0), (ho, .inl (E.2.1.2.1, 1, .inr (.inl g'))) :: MX')) 21 [some (.ref hx), some (.int a0), some (.int a1), some (.ref ho), none] [] ((ho, .inl (E.2.1.2.1, 1, .inr (.inl (vp_updL g (Int32.toNatClampNeg 0) v.toInt64)))) :: M') 16 159 from ?_)⟩
      exact BdH.seg ok_L_putLoad 3 [] rfl ⟨⟨⟨_, vp_updL g (Int32.toNatClampNeg 0) v.toInt64, hΦ, fun _ => rfl, rfl⟩, Nat.le_of_ble_eq_true rfl, Nat.le_of_ble_eq_true rfl⟩, trivial⟩
    · cases hz
def mL_lower : xM := (yL_lower, cL_lower, 4, (some .int), 13)
def hL_lower : List (Nat × Nat × Nat × Nat) := [(0, 9, 12, 24), (0, 9, 15, 13)]
theorem wL_lower : Cond.codeWith mL_lower.1 mL_lower.2.1 mL_lower.2.2.1 mL_lower.2.2.2.1 hL_lower ∈ xAll := xm6 (n := 90) rfl rfl
theorem vL_lower : Cond.static mL_lower.1 ∈ xAll := xm6 (n := 89) rfl rfl
theorem kL_lower : Cond.methodLink (xCn 13) 302 mL_lower.1 ∈ xAll := xm6 (n := 88) rfl rfl
def tb_L_lower : List (Nat × List xI) := [(0, [(.aload_n 2, [], 0), (.iconst 0, [], 0), (.aload_n 0, [], 0), (.iload_n 1, [], 0)]), (4, [(.invokevirtual 87, [], 0)]), (7, [(.i2l, [], 0), (.lastore, [], 0), (.goto 9, [], 0)]), (18, [(.iconst 0, [], 0), (.ireturn, [], 0)]), (12, [(.astore_n 3, [], 0), (.iconst 1, [], 1), (.ireturn, [], 0)]), (15, [(.astore_n 3, [], 0), (.iconst 2, [], 2), (.ireturn, [], 0)])]
set_option maxRecDepth 100000 in
theorem ok_L_lower : ∀ q ∈ tb_L_lower, xChks mL_lower q.1 q.2 = true := by decide +kernel
set_option maxRecDepth 100000 in
theorem s_L_lower {E : xE} {hx ho : Nat} {a0 : Int32} {v e : Int32} {k : Nat ⊕ Int32} {MX : va_W} {Φ : va_W → Prop} (g : Nat → Int64) (hsp : SpP E mX11_lower (xRm 7 131 16 159) [.ref hx, .int a0] MX (fun z => ∃ MX', Φ MX' ∧ z = xOut (Sum.map id (fun r => some (Value.int r)) k) MX')) (ha : AnsT tIS k v e) (h0 : ∃ vs, MX[0]? = some (hx, .inr (11, vs))) : HpP E mL_lower hL_lower (xRm 8 153 16 159) [.ref hx, .int a0, .ref ho] ((ho, .inl (E.2.1.2.1, 1, .inr (.inl g))) :: MX) (fun z => ∃ (MX' : va_W) (g' : Nat → Int64), Φ MX' ∧ (e = 0 → g' 0 = v.toInt64) ∧ z = .inl (some (.int e), (ho, .inl (E.2.1.2.1, 1, .inr (.inl g'))) :: MX')) := by
  obtain ⟨vs, h0⟩ := h0
  refine HpP.of rfl rfl (L := [some (.ref hx), some (.int a0), some (.ref ho), none]) rfl rfl (Nat.le_of_ble_eq_true rfl) ?_
  refine BdH.seg ok_L_lower 0 [] rfl (show BdH E mL_lower hL_lower (xRm 8 153 16 159) 16 159 (fun z => ∃ (MX' : va_W) (g' : Nat → Int64), Φ MX' ∧ (e = 0 → g' 0 = v.toInt64) ∧ z = .inl (some (.int e), (ho, .inl (E.2.1.2.1, 1, .inr (.inl g'))) :: MX')) 4 [some (.ref hx), some (.int a0), some (.ref ho), none] [.int a0, .ref hx, .int 0, .ref ho] ((ho, .inl (E.2.1.2.1, 1, .inr (.inl g))) :: MX) 0 0 from ?_)
  refine BdH.pm (List.perm_append_singleton _ _).symm ?_
  refine BdH.call oX11_lower vX11_lower nX11_lower k13_87 (xdec ok_L_lower 1 rfl) (As := [.int a0]) (rest := [.int 0, .ref ho]) hsp ⟨Nat.le_of_ble_eq_true rfl, Nat.le_of_ble_eq_true rfl⟩ rfl (Nat.le_of_ble_eq_true rfl) 0 h0 rfl rfl ⟨Nat.le_of_ble_eq_true rfl, Nat.le_of_ble_eq_true rfl⟩ ?_ ?_
  · rintro X M' ⟨MX', hΦ, hz⟩
    rcases ha with ⟨rfl, rfl⟩ | ⟨n, rfl, rfl, rfl, hn⟩
    · cases hz
    · have hn2 : n = 2 ∨ n = 0 := by
        unfold tIS at hn
        exact Classical.byContradiction fun q => hn (by rw [if_neg (fun w => q (Or.inl w)), if_neg (fun w => q (Or.inr w))])
      cases hz
      rcases hn2 with rfl | rfl
      · refine ⟨[], (0, 9, 12, 24), [(0, 9, 15, 13)], rfl, nofun, ⟨by decide, by decide⟩, by decide, cl13_24, cs13_24, fun q => ?_⟩
        refine BdH.pm (List.perm_append_singleton _ _) ?_
        refine BdH.seg ok_L_lower 4 [] rfl ⟨Nat.le_of_ble_eq_true rfl, ⟨⟨_, g, hΦ, fun w => absurd w (by decide), rfl⟩, Nat.le_of_ble_eq_true rfl, Nat.le_of_ble_eq_true rfl⟩, trivial⟩
      · refine ⟨[(0, 9, 12, 24)], (0, 9, 15, 13), [], rfl, fun z hz => by
          obtain rfl := List.mem_singleton.mp hz
          exact ⟨by decide, _, cl13_24, by decide⟩, ⟨by decide, by decide⟩, by decide, cl13_13, cs13_13, fun q => ?_⟩
        refine BdH.pm (List.perm_append_singleton _ _) ?_
        refine BdH.seg ok_L_lower 5 [] rfl ⟨Nat.le_of_ble_eq_true rfl, ⟨⟨_, g, hΦ, fun w => absurd w (by decide), rfl⟩, Nat.le_of_ble_eq_true rfl, Nat.le_of_ble_eq_true rfl⟩, trivial⟩
  · rintro w M' ⟨MX', hΦ, hz⟩
    rcases ha with ⟨rfl, rfl⟩ | ⟨n, rfl, -⟩
    · cases hz
      refine BdH.pm (List.perm_append_singleton _ _) ?_
      refine BdH.seg ok_L_lower 2 [0] rfl ⟨⟨rfl, rfl⟩, xg (by decide), (show BdH E mL_lower hL_lower (xRm 8 153 16 159) 16 159 (fun z => ∃ (MX' : va_W) (g' : Nat → Int64), Φ MX' ∧ ((0 : Int32) = 0 → g' 0 = v.toInt64) ∧ z = .inl (some (.int 0), (ho, .inl (E.2.1.2.1, 1, .inr (.inl g'))) :: MX')) 18 [some (.ref hx), some (.int a0), some (.ref ho), none] [] ((ho, .inl (E.2.1.2.1, 1, .inr (.inl (vp_updL g (Int32.toNatClampNeg 0) v.toInt64)))) :: M') 16 159 from ?_)⟩
      exact BdH.seg ok_L_lower 3 [] rfl ⟨⟨⟨_, vp_updL g (Int32.toNatClampNeg 0) v.toInt64, hΦ, fun _ => rfl, rfl⟩, Nat.le_of_ble_eq_true rfl, Nat.le_of_ble_eq_true rfl⟩, trivial⟩
    · cases hz
def mL_setHeat : xM := (yL_setHeat, cL_setHeat, 4, (some .int), 13)
def hL_setHeat : List (Nat × Nat × Nat × Nat) := [(0, 9, 12, 19)]
theorem wL_setHeat : Cond.codeWith mL_setHeat.1 mL_setHeat.2.1 mL_setHeat.2.2.1 mL_setHeat.2.2.2.1 hL_setHeat ∈ xAll := xm6 (n := 99) rfl rfl
theorem vL_setHeat : Cond.static mL_setHeat.1 ∈ xAll := xm6 (n := 98) rfl rfl
theorem kL_setHeat : Cond.methodLink (xCn 13) 309 mL_setHeat.1 ∈ xAll := xm6 (n := 97) rfl rfl
def tb_L_setHeat : List (Nat × List xI) := [(0, [(.aload_n 2, [], 0), (.iconst 0, [], 0), (.aload_n 0, [], 0), (.iload_n 1, [], 0)]), (4, [(.invokevirtual 90, [], 0)]), (7, [(.i2l, [], 0), (.lastore, [], 0), (.goto 6, [], 0)]), (15, [(.iconst 0, [], 0), (.ireturn, [], 0)]), (12, [(.astore_n 3, [], 0), (.iconst 1, [], 1), (.ireturn, [], 0)])]
set_option maxRecDepth 100000 in
theorem ok_L_setHeat : ∀ q ∈ tb_L_setHeat, xChks mL_setHeat q.1 q.2 = true := by decide +kernel
set_option maxRecDepth 100000 in
theorem s_L_setHeat {E : xE} {hx ho : Nat} {a0 : Int32} {v e : Int32} {k : Nat ⊕ Int32} {MX : va_W} {Φ : va_W → Prop} (g : Nat → Int64) (hsp : SpP E mX11_setHeat (xRm 6 124 15 153) [.ref hx, .int a0] MX (fun z => ∃ MX', Φ MX' ∧ z = xOut (Sum.map id (fun r => some (Value.int r)) k) MX')) (ha : AnsT tA k v e) (h0 : ∃ vs, MX[0]? = some (hx, .inr (11, vs))) : HpP E mL_setHeat hL_setHeat (xRm 7 145 15 153) [.ref hx, .int a0, .ref ho] ((ho, .inl (E.2.1.2.1, 1, .inr (.inl g))) :: MX) (fun z => ∃ (MX' : va_W) (g' : Nat → Int64), Φ MX' ∧ (e = 0 → g' 0 = v.toInt64) ∧ z = .inl (some (.int e), (ho, .inl (E.2.1.2.1, 1, .inr (.inl g'))) :: MX')) := by
  obtain ⟨vs, h0⟩ := h0
  refine HpP.of rfl rfl (L := [some (.ref hx), some (.int a0), some (.ref ho), none]) rfl rfl (Nat.le_of_ble_eq_true rfl) ?_
  refine BdH.seg ok_L_setHeat 0 [] rfl (show BdH E mL_setHeat hL_setHeat (xRm 7 145 15 153) 15 153 (fun z => ∃ (MX' : va_W) (g' : Nat → Int64), Φ MX' ∧ (e = 0 → g' 0 = v.toInt64) ∧ z = .inl (some (.int e), (ho, .inl (E.2.1.2.1, 1, .inr (.inl g'))) :: MX')) 4 [some (.ref hx), some (.int a0), some (.ref ho), none] [.int a0, .ref hx, .int 0, .ref ho] ((ho, .inl (E.2.1.2.1, 1, .inr (.inl g))) :: MX) 0 0 from ?_)
  refine BdH.pm (List.perm_append_singleton _ _).symm ?_
  refine BdH.call oX11_setHeat vX11_setHeat nX11_setHeat k13_90 (xdec ok_L_setHeat 1 rfl) (As := [.int a0]) (rest := [.int 0, .ref ho]) hsp ⟨Nat.le_of_ble_eq_true rfl, Nat.le_of_ble_eq_true rfl⟩ rfl (Nat.le_of_ble_eq_true rfl) 0 h0 rfl rfl ⟨Nat.le_of_ble_eq_true rfl, Nat.le_of_ble_eq_true rfl⟩ ?_ ?_
  · rintro X M' ⟨MX', hΦ, hz⟩
    rcases ha with ⟨rfl, rfl⟩ | ⟨n, rfl, rfl, rfl, hn⟩
    · cases hz
    · have hn2 : n = 1 := by
        unfold tA at hn
        exact Classical.byContradiction fun q => hn (if_neg q)
      cases hz
      subst hn2
      refine ⟨[], (0, 9, 12, 19), [], rfl, nofun, ⟨by decide, by decide⟩, by decide, cl13_19, cs13_19, fun q => ?_⟩
      refine BdH.pm (List.perm_append_singleton _ _) ?_
      refine BdH.seg ok_L_setHeat 4 [] rfl ⟨Nat.le_of_ble_eq_true rfl, ⟨⟨_, g, hΦ, fun w => absurd w (by decide), rfl⟩, Nat.le_of_ble_eq_true rfl, Nat.le_of_ble_eq_true rfl⟩, trivial⟩
  · rintro w M' ⟨MX', hΦ, hz⟩
    rcases ha with ⟨rfl, rfl⟩ | ⟨n, rfl, -⟩
    · cases hz
      refine BdH.pm (List.perm_append_singleton _ _) ?_
      refine BdH.seg ok_L_setHeat 2 [0] rfl ⟨⟨rfl, rfl⟩, xg (by decide), (show BdH E mL_setHeat hL_setHeat (xRm 7 145 15 153) 15 153 (fun z => ∃ (MX' : va_W) (g' : Nat → Int64), Φ MX' ∧ ((0 : Int32) = 0 → g' 0 = v.toInt64) ∧ z = .inl (some (.int 0), (ho, .inl (E.2.1.2.1, 1, .inr (.inl g'))) :: MX')) 15 [some (.ref hx), some (.int a0), some (.ref ho), none] [] ((ho, .inl (E.2.1.2.1, 1, .inr (.inl (vp_updL g (Int32.toNatClampNeg 0) v.toInt64)))) :: M') 15 153 from ?_)⟩
      exact BdH.seg ok_L_setHeat 3 [] rfl ⟨⟨⟨_, vp_updL g (Int32.toNatClampNeg 0) v.toInt64, hΦ, fun _ => rfl, rfl⟩, Nat.le_of_ble_eq_true rfl, Nat.le_of_ble_eq_true rfl⟩, trivial⟩
    · cases hz
def mL_setGear : xM := (yL_setGear, cL_setGear, 4, (some .int), 13)
def hL_setGear : List (Nat × Nat × Nat × Nat) := [(0, 9, 12, 19)]
theorem wL_setGear : Cond.codeWith mL_setGear.1 mL_setGear.2.1 mL_setGear.2.2.1 mL_setGear.2.2.2.1 hL_setGear ∈ xAll := xm6 (n := 108) rfl rfl
theorem vL_setGear : Cond.static mL_setGear.1 ∈ xAll := xm6 (n := 107) rfl rfl
theorem kL_setGear : Cond.methodLink (xCn 13) 312 mL_setGear.1 ∈ xAll := xm6 (n := 106) rfl rfl
def tb_L_setGear : List (Nat × List xI) := [(0, [(.aload_n 2, [], 0), (.iconst 0, [], 0), (.aload_n 0, [], 0), (.iload_n 1, [], 0)]), (4, [(.invokevirtual 93, [], 0)]), (7, [(.i2l, [], 0), (.lastore, [], 0), (.goto 6, [], 0)]), (15, [(.iconst 0, [], 0), (.ireturn, [], 0)]), (12, [(.astore_n 3, [], 0), (.iconst 1, [], 1), (.ireturn, [], 0)])]
set_option maxRecDepth 100000 in
theorem ok_L_setGear : ∀ q ∈ tb_L_setGear, xChks mL_setGear q.1 q.2 = true := by decide +kernel
set_option maxRecDepth 100000 in
theorem s_L_setGear {E : xE} {hx ho : Nat} {a0 : Int32} {v e : Int32} {k : Nat ⊕ Int32} {MX : va_W} {Φ : va_W → Prop} (g : Nat → Int64) (hsp : SpP E mX11_setGear (xRm 6 124 15 153) [.ref hx, .int a0] MX (fun z => ∃ MX', Φ MX' ∧ z = xOut (Sum.map id (fun r => some (Value.int r)) k) MX')) (ha : AnsT tA k v e) (h0 : ∃ vs, MX[0]? = some (hx, .inr (11, vs))) : HpP E mL_setGear hL_setGear (xRm 7 146 15 153) [.ref hx, .int a0, .ref ho] ((ho, .inl (E.2.1.2.1, 1, .inr (.inl g))) :: MX) (fun z => ∃ (MX' : va_W) (g' : Nat → Int64), Φ MX' ∧ (e = 0 → g' 0 = v.toInt64) ∧ z = .inl (some (.int e), (ho, .inl (E.2.1.2.1, 1, .inr (.inl g'))) :: MX')) := by
  obtain ⟨vs, h0⟩ := h0
  refine HpP.of rfl rfl (L := [some (.ref hx), some (.int a0), some (.ref ho), none]) rfl rfl (Nat.le_of_ble_eq_true rfl) ?_
  refine BdH.seg ok_L_setGear 0 [] rfl (show BdH E mL_setGear hL_setGear (xRm 7 146 15 153) 15 153 (fun z => ∃ (MX' : va_W) (g' : Nat → Int64), Φ MX' ∧ (e = 0 → g' 0 = v.toInt64) ∧ z = .inl (some (.int e), (ho, .inl (E.2.1.2.1, 1, .inr (.inl g'))) :: MX')) 4 [some (.ref hx), some (.int a0), some (.ref ho), none] [.int a0, .ref hx, .int 0, .ref ho] ((ho, .inl (E.2.1.2.1, 1, .inr (.inl g))) :: MX) 0 0 from ?_)
  refine BdH.pm (List.perm_append_singleton _ _).symm ?_
  refine BdH.call oX11_setGear vX11_setGear nX11_setGear k13_93 (xdec ok_L_setGear 1 rfl) (As := [.int a0]) (rest := [.int 0, .ref ho]) hsp ⟨Nat.le_of_ble_eq_true rfl, Nat.le_of_ble_eq_true rfl⟩ rfl (Nat.le_of_ble_eq_true rfl) 0 h0 rfl rfl ⟨Nat.le_of_ble_eq_true rfl, Nat.le_of_ble_eq_true rfl⟩ ?_ ?_
  · rintro X M' ⟨MX', hΦ, hz⟩
    rcases ha with ⟨rfl, rfl⟩ | ⟨n, rfl, rfl, rfl, hn⟩
    · cases hz
    · have hn2 : n = 1 := by
        unfold tA at hn
        exact Classical.byContradiction fun q => hn (if_neg q)
      cases hz
      subst hn2
      refine ⟨[], (0, 9, 12, 19), [], rfl, nofun, ⟨by decide, by decide⟩, by decide, cl13_19, cs13_19, fun q => ?_⟩
      refine BdH.pm (List.perm_append_singleton _ _) ?_
      refine BdH.seg ok_L_setGear 4 [] rfl ⟨Nat.le_of_ble_eq_true rfl, ⟨⟨_, g, hΦ, fun w => absurd w (by decide), rfl⟩, Nat.le_of_ble_eq_true rfl, Nat.le_of_ble_eq_true rfl⟩, trivial⟩
  · rintro w M' ⟨MX', hΦ, hz⟩
    rcases ha with ⟨rfl, rfl⟩ | ⟨n, rfl, -⟩
    · cases hz
      refine BdH.pm (List.perm_append_singleton _ _) ?_
      refine BdH.seg ok_L_setGear 2 [0] rfl ⟨⟨rfl, rfl⟩, xg (by decide), (show BdH E mL_setGear hL_setGear (xRm 7 146 15 153) 15 153 (fun z => ∃ (MX' : va_W) (g' : Nat → Int64), Φ MX' ∧ ((0 : Int32) = 0 → g' 0 = v.toInt64) ∧ z = .inl (some (.int 0), (ho, .inl (E.2.1.2.1, 1, .inr (.inl g'))) :: MX')) 15 [some (.ref hx), some (.int a0), some (.ref ho), none] [] ((ho, .inl (E.2.1.2.1, 1, .inr (.inl (vp_updL g (Int32.toNatClampNeg 0) v.toInt64)))) :: M') 15 153 from ?_)⟩
      exact BdH.seg ok_L_setGear 3 [] rfl ⟨⟨⟨_, vp_updL g (Int32.toNatClampNeg 0) v.toInt64, hΦ, fun _ => rfl, rfl⟩, Nat.le_of_ble_eq_true rfl, Nat.le_of_ble_eq_true rfl⟩, trivial⟩
    · cases hz
def mL_setWind : xM := (yL_setWind, cL_setWind, 5, (some .int), 13)
def hL_setWind : List (Nat × Nat × Nat × Nat) := [(0, 10, 13, 19)]
theorem wL_setWind : Cond.codeWith mL_setWind.1 mL_setWind.2.1 mL_setWind.2.2.1 mL_setWind.2.2.2.1 hL_setWind ∈ xAll := xm6 (n := 117) rfl rfl
theorem vL_setWind : Cond.static mL_setWind.1 ∈ xAll := xm6 (n := 116) rfl rfl
theorem kL_setWind : Cond.methodLink (xCn 13) 315 mL_setWind.1 ∈ xAll := xm6 (n := 115) rfl rfl
def tb_L_setWind : List (Nat × List xI) := [(0, [(.aload_n 3, [], 0), (.iconst 0, [], 0), (.aload_n 0, [], 0), (.iload_n 1, [], 0), (.iload_n 2, [], 0)]), (5, [(.invokevirtual 96, [], 0)]), (8, [(.i2l, [], 0), (.lastore, [], 0), (.goto 7, [], 0)]), (17, [(.iconst 0, [], 0), (.ireturn, [], 0)]), (13, [(.astore 4, [], 0), (.iconst 1, [], 1), (.ireturn, [], 0)])]
set_option maxRecDepth 100000 in
theorem ok_L_setWind : ∀ q ∈ tb_L_setWind, xChks mL_setWind q.1 q.2 = true := by decide +kernel
set_option maxRecDepth 100000 in
theorem s_L_setWind {E : xE} {hx ho : Nat} {a0 a1 : Int32} {v e : Int32} {k : Nat ⊕ Int32} {MX : va_W} {Φ : va_W → Prop} (g : Nat → Int64) (hsp : SpP E mX11_setWind (xRm 6 124 15 153) [.ref hx, .int a0, .int a1] MX (fun z => ∃ MX', Φ MX' ∧ z = xOut (Sum.map id (fun r => some (Value.int r)) k) MX')) (ha : AnsT tA k v e) (h0 : ∃ vs, MX[0]? = some (hx, .inr (11, vs))) : HpP E mL_setWind hL_setWind (xRm 7 146 15 153) [.ref hx, .int a0, .int a1, .ref ho] ((ho, .inl (E.2.1.2.1, 1, .inr (.inl g))) :: MX) (fun z => ∃ (MX' : va_W) (g' : Nat → Int64), Φ MX' ∧ (e = 0 → g' 0 = v.toInt64) ∧ z = .inl (some (.int e), (ho, .inl (E.2.1.2.1, 1, .inr (.inl g'))) :: MX')) := by
  obtain ⟨vs, h0⟩ := h0
  refine HpP.of rfl rfl (L := [some (.ref hx), some (.int a0), some (.int a1), some (.ref ho), none]) rfl rfl (Nat.le_of_ble_eq_true rfl) ?_
  refine BdH.seg ok_L_setWind 0 [] rfl (show BdH E mL_setWind hL_setWind (xRm 7 146 15 153) 15 153 (fun z => ∃ (MX' : va_W) (g' : Nat → Int64), Φ MX' ∧ (e = 0 → g' 0 = v.toInt64) ∧ z = .inl (some (.int e), (ho, .inl (E.2.1.2.1, 1, .inr (.inl g'))) :: MX')) 5 [some (.ref hx), some (.int a0), some (.int a1), some (.ref ho), none] [.int a1, .int a0, .ref hx, .int 0, .ref ho] ((ho, .inl (E.2.1.2.1, 1, .inr (.inl g))) :: MX) 0 0 from ?_)
  refine BdH.pm (List.perm_append_singleton _ _).symm ?_
  refine BdH.call oX11_setWind vX11_setWind nX11_setWind k13_96 (xdec ok_L_setWind 1 rfl) (As := [.int a0, .int a1]) (rest := [.int 0, .ref ho]) hsp ⟨Nat.le_of_ble_eq_true rfl, Nat.le_of_ble_eq_true rfl⟩ rfl (Nat.le_of_ble_eq_true rfl) 0 h0 rfl rfl ⟨Nat.le_of_ble_eq_true rfl, Nat.le_of_ble_eq_true rfl⟩ ?_ ?_
  · rintro X M' ⟨MX', hΦ, hz⟩
    rcases ha with ⟨rfl, rfl⟩ | ⟨n, rfl, rfl, rfl, hn⟩
    · cases hz
    · have hn2 : n = 1 := by
        unfold tA at hn
        exact Classical.byContradiction fun q => hn (if_neg q)
      cases hz
      subst hn2
      refine ⟨[], (0, 10, 13, 19), [], rfl, nofun, ⟨by decide, by decide⟩, by decide, cl13_19, cs13_19, fun q => ?_⟩
      refine BdH.pm (List.perm_append_singleton _ _) ?_
      refine BdH.seg ok_L_setWind 4 [] rfl ⟨Nat.le_of_ble_eq_true rfl, ⟨⟨_, g, hΦ, fun w => absurd w (by decide), rfl⟩, Nat.le_of_ble_eq_true rfl, Nat.le_of_ble_eq_true rfl⟩, trivial⟩
  · rintro w M' ⟨MX', hΦ, hz⟩
    rcases ha with ⟨rfl, rfl⟩ | ⟨n, rfl, -⟩
    · cases hz
      refine BdH.pm (List.perm_append_singleton _ _) ?_
      refine BdH.seg ok_L_setWind 2 [0] rfl ⟨⟨rfl, rfl⟩, xg (by decide), (show BdH E mL_setWind hL_setWind (xRm 7 146 15 153) 15 153 (fun z => ∃ (MX' : va_W) (g' : Nat → Int64), Φ MX' ∧ ((0 : Int32) = 0 → g' 0 = v.toInt64) ∧ z = .inl (some (.int 0), (ho, .inl (E.2.1.2.1, 1, .inr (.inl g'))) :: MX')) 17 [some (.ref hx), some (.int a0), some (.int a1), some (.ref ho), none] [] ((ho, .inl (E.2.1.2.1, 1, .inr (.inl (vp_updL g (Int32.toNatClampNeg 0) v.toInt64)))) :: M') 15 153 from ?_)⟩
      exact BdH.seg ok_L_setWind 3 [] rfl ⟨⟨⟨_, vp_updL g (Int32.toNatClampNeg 0) v.toInt64, hΦ, fun _ => rfl, rfl⟩, Nat.le_of_ble_eq_true rfl, Nat.le_of_ble_eq_true rfl⟩, trivial⟩
    · cases hz
def mL_sell : xM := (yL_sell, cL_sell, 4, (some .int), 13)
def hL_sell : List (Nat × Nat × Nat × Nat) := [(0, 9, 12, 24), (0, 9, 15, 13)]
theorem wL_sell : Cond.codeWith mL_sell.1 mL_sell.2.1 mL_sell.2.2.1 mL_sell.2.2.2.1 hL_sell ∈ xAll := xm6 (n := 126) rfl rfl
theorem vL_sell : Cond.static mL_sell.1 ∈ xAll := xm6 (n := 125) rfl rfl
theorem kL_sell : Cond.methodLink (xCn 13) 318 mL_sell.1 ∈ xAll := xm6 (n := 124) rfl rfl
def tb_L_sell : List (Nat × List xI) := [(0, [(.aload_n 2, [], 0), (.iconst 0, [], 0), (.aload_n 0, [], 0), (.iload_n 1, [], 0)]), (4, [(.invokevirtual 99, [], 0)]), (7, [(.i2l, [], 0), (.lastore, [], 0), (.goto 9, [], 0)]), (18, [(.iconst 0, [], 0), (.ireturn, [], 0)]), (12, [(.astore_n 3, [], 0), (.iconst 1, [], 1), (.ireturn, [], 0)]), (15, [(.astore_n 3, [], 0), (.iconst 2, [], 2), (.ireturn, [], 0)])]
set_option maxRecDepth 100000 in
theorem ok_L_sell : ∀ q ∈ tb_L_sell, xChks mL_sell q.1 q.2 = true := by decide +kernel
set_option maxRecDepth 100000 in
theorem s_L_sell {E : xE} {hx ho : Nat} {a0 : Int32} {v e : Int32} {k : Nat ⊕ Int32} {MX : va_W} {Φ : va_W → Prop} (g : Nat → Int64) (hsp : SpP E mX11_sell (xRm 7 124 16 159) [.ref hx, .int a0] MX (fun z => ∃ MX', Φ MX' ∧ z = xOut (Sum.map id (fun r => some (Value.int r)) k) MX')) (ha : AnsT tIS k v e) (h0 : ∃ vs, MX[0]? = some (hx, .inr (11, vs))) : HpP E mL_sell hL_sell (xRm 8 145 16 159) [.ref hx, .int a0, .ref ho] ((ho, .inl (E.2.1.2.1, 1, .inr (.inl g))) :: MX) (fun z => ∃ (MX' : va_W) (g' : Nat → Int64), Φ MX' ∧ (e = 0 → g' 0 = v.toInt64) ∧ z = .inl (some (.int e), (ho, .inl (E.2.1.2.1, 1, .inr (.inl g'))) :: MX')) := by
  obtain ⟨vs, h0⟩ := h0
  refine HpP.of rfl rfl (L := [some (.ref hx), some (.int a0), some (.ref ho), none]) rfl rfl (Nat.le_of_ble_eq_true rfl) ?_
  refine BdH.seg ok_L_sell 0 [] rfl (show BdH E mL_sell hL_sell (xRm 8 145 16 159) 16 159 (fun z => ∃ (MX' : va_W) (g' : Nat → Int64), Φ MX' ∧ (e = 0 → g' 0 = v.toInt64) ∧ z = .inl (some (.int e), (ho, .inl (E.2.1.2.1, 1, .inr (.inl g'))) :: MX')) 4 [some (.ref hx), some (.int a0), some (.ref ho), none] [.int a0, .ref hx, .int 0, .ref ho] ((ho, .inl (E.2.1.2.1, 1, .inr (.inl g))) :: MX) 0 0 from ?_)
  refine BdH.pm (List.perm_append_singleton _ _).symm ?_
  refine BdH.call oX11_sell vX11_sell nX11_sell k13_99 (xdec ok_L_sell 1 rfl) (As := [.int a0]) (rest := [.int 0, .ref ho]) hsp ⟨Nat.le_of_ble_eq_true rfl, Nat.le_of_ble_eq_true rfl⟩ rfl (Nat.le_of_ble_eq_true rfl) 0 h0 rfl rfl ⟨Nat.le_of_ble_eq_true rfl, Nat.le_of_ble_eq_true rfl⟩ ?_ ?_
  · rintro X M' ⟨MX', hΦ, hz⟩
    rcases ha with ⟨rfl, rfl⟩ | ⟨n, rfl, rfl, rfl, hn⟩
    · cases hz
    · have hn2 : n = 2 ∨ n = 0 := by
        unfold tIS at hn
        exact Classical.byContradiction fun q => hn (by rw [if_neg (fun w => q (Or.inl w)), if_neg (fun w => q (Or.inr w))])
      cases hz
      rcases hn2 with rfl | rfl
      · refine ⟨[], (0, 9, 12, 24), [(0, 9, 15, 13)], rfl, nofun, ⟨by decide, by decide⟩, by decide, cl13_24, cs13_24, fun q => ?_⟩
        refine BdH.pm (List.perm_append_singleton _ _) ?_
        refine BdH.seg ok_L_sell 4 [] rfl ⟨Nat.le_of_ble_eq_true rfl, ⟨⟨_, g, hΦ, fun w => absurd w (by decide), rfl⟩, Nat.le_of_ble_eq_true rfl, Nat.le_of_ble_eq_true rfl⟩, trivial⟩
      · refine ⟨[(0, 9, 12, 24)], (0, 9, 15, 13), [], rfl, fun z hz => by
          obtain rfl := List.mem_singleton.mp hz
          exact ⟨by decide, _, cl13_24, by decide⟩, ⟨by decide, by decide⟩, by decide, cl13_13, cs13_13, fun q => ?_⟩
        refine BdH.pm (List.perm_append_singleton _ _) ?_
        refine BdH.seg ok_L_sell 5 [] rfl ⟨Nat.le_of_ble_eq_true rfl, ⟨⟨_, g, hΦ, fun w => absurd w (by decide), rfl⟩, Nat.le_of_ble_eq_true rfl, Nat.le_of_ble_eq_true rfl⟩, trivial⟩
  · rintro w M' ⟨MX', hΦ, hz⟩
    rcases ha with ⟨rfl, rfl⟩ | ⟨n, rfl, -⟩
    · cases hz
      refine BdH.pm (List.perm_append_singleton _ _) ?_
      refine BdH.seg ok_L_sell 2 [0] rfl ⟨⟨rfl, rfl⟩, xg (by decide), (show BdH E mL_sell hL_sell (xRm 8 145 16 159) 16 159 (fun z => ∃ (MX' : va_W) (g' : Nat → Int64), Φ MX' ∧ ((0 : Int32) = 0 → g' 0 = v.toInt64) ∧ z = .inl (some (.int 0), (ho, .inl (E.2.1.2.1, 1, .inr (.inl g'))) :: MX')) 18 [some (.ref hx), some (.int a0), some (.ref ho), none] [] ((ho, .inl (E.2.1.2.1, 1, .inr (.inl (vp_updL g (Int32.toNatClampNeg 0) v.toInt64)))) :: M') 16 159 from ?_)⟩
      exact BdH.seg ok_L_sell 3 [] rfl ⟨⟨⟨_, vp_updL g (Int32.toNatClampNeg 0) v.toInt64, hΦ, fun _ => rfl, rfl⟩, Nat.le_of_ble_eq_true rfl, Nat.le_of_ble_eq_true rfl⟩, trivial⟩
    · cases hz
def mL_quench : xM := (yL_quench, cL_quench, 4, (some .int), 13)
def hL_quench : List (Nat × Nat × Nat × Nat) := [(0, 9, 12, 24), (0, 9, 15, 13)]
theorem wL_quench : Cond.codeWith mL_quench.1 mL_quench.2.1 mL_quench.2.2.1 mL_quench.2.2.2.1 hL_quench ∈ xAll := xm6 (n := 136) rfl rfl
theorem vL_quench : Cond.static mL_quench.1 ∈ xAll := xm6 (n := 135) rfl rfl
theorem kL_quench : Cond.methodLink (xCn 13) 321 mL_quench.1 ∈ xAll := xm6 (n := 134) rfl rfl
def tb_L_quench : List (Nat × List xI) := [(0, [(.aload_n 2, [], 0), (.iconst 0, [], 0), (.aload_n 0, [], 0), (.iload_n 1, [], 0)]), (4, [(.invokevirtual 102, [], 0)]), (7, [(.i2l, [], 0), (.lastore, [], 0), (.goto 9, [], 0)]), (18, [(.iconst 0, [], 0), (.ireturn, [], 0)]), (12, [(.astore_n 3, [], 0), (.iconst 1, [], 1), (.ireturn, [], 0)]), (15, [(.astore_n 3, [], 0), (.iconst 2, [], 2), (.ireturn, [], 0)])]
set_option maxRecDepth 100000 in
theorem ok_L_quench : ∀ q ∈ tb_L_quench, xChks mL_quench q.1 q.2 = true := by decide +kernel
set_option maxRecDepth 100000 in
theorem s_L_quench {E : xE} {hx ho : Nat} {a0 : Int32} {v e : Int32} {k : Nat ⊕ Int32} {MX : va_W} {Φ : va_W → Prop} (g : Nat → Int64) (hsp : SpP E mX11_quench (xRm 7 124 16 159) [.ref hx, .int a0] MX (fun z => ∃ MX', Φ MX' ∧ z = xOut (Sum.map id (fun r => some (Value.int r)) k) MX')) (ha : AnsT tIS k v e) (h0 : ∃ vs, MX[0]? = some (hx, .inr (11, vs))) : HpP E mL_quench hL_quench (xRm 8 146 16 159) [.ref hx, .int a0, .ref ho] ((ho, .inl (E.2.1.2.1, 1, .inr (.inl g))) :: MX) (fun z => ∃ (MX' : va_W) (g' : Nat → Int64), Φ MX' ∧ (e = 0 → g' 0 = v.toInt64) ∧ z = .inl (some (.int e), (ho, .inl (E.2.1.2.1, 1, .inr (.inl g'))) :: MX')) := by
  obtain ⟨vs, h0⟩ := h0
  refine HpP.of rfl rfl (L := [some (.ref hx), some (.int a0), some (.ref ho), none]) rfl rfl (Nat.le_of_ble_eq_true rfl) ?_
  refine BdH.seg ok_L_quench 0 [] rfl (show BdH E mL_quench hL_quench (xRm 8 146 16 159) 16 159 (fun z => ∃ (MX' : va_W) (g' : Nat → Int64), Φ MX' ∧ (e = 0 → g' 0 = v.toInt64) ∧ z = .inl (some (.int e), (ho, .inl (E.2.1.2.1, 1, .inr (.inl g'))) :: MX')) 4 [some (.ref hx), some (.int a0), some (.ref ho), none] [.int a0, .ref hx, .int 0, .ref ho] ((ho, .inl (E.2.1.2.1, 1, .inr (.inl g))) :: MX) 0 0 from ?_)
  refine BdH.pm (List.perm_append_singleton _ _).symm ?_
  refine BdH.call oX11_quench vX11_quench nX11_quench k13_102 (xdec ok_L_quench 1 rfl) (As := [.int a0]) (rest := [.int 0, .ref ho]) hsp ⟨Nat.le_of_ble_eq_true rfl, Nat.le_of_ble_eq_true rfl⟩ rfl (Nat.le_of_ble_eq_true rfl) 0 h0 rfl rfl ⟨Nat.le_of_ble_eq_true rfl, Nat.le_of_ble_eq_true rfl⟩ ?_ ?_
  · rintro X M' ⟨MX', hΦ, hz⟩
    rcases ha with ⟨rfl, rfl⟩ | ⟨n, rfl, rfl, rfl, hn⟩
    · cases hz
    · have hn2 : n = 2 ∨ n = 0 := by
        unfold tIS at hn
        exact Classical.byContradiction fun q => hn (by rw [if_neg (fun w => q (Or.inl w)), if_neg (fun w => q (Or.inr w))])
      cases hz
      rcases hn2 with rfl | rfl
      · refine ⟨[], (0, 9, 12, 24), [(0, 9, 15, 13)], rfl, nofun, ⟨by decide, by decide⟩, by decide, cl13_24, cs13_24, fun q => ?_⟩
        refine BdH.pm (List.perm_append_singleton _ _) ?_
        refine BdH.seg ok_L_quench 4 [] rfl ⟨Nat.le_of_ble_eq_true rfl, ⟨⟨_, g, hΦ, fun w => absurd w (by decide), rfl⟩, Nat.le_of_ble_eq_true rfl, Nat.le_of_ble_eq_true rfl⟩, trivial⟩
      · refine ⟨[(0, 9, 12, 24)], (0, 9, 15, 13), [], rfl, fun z hz => by
          obtain rfl := List.mem_singleton.mp hz
          exact ⟨by decide, _, cl13_24, by decide⟩, ⟨by decide, by decide⟩, by decide, cl13_13, cs13_13, fun q => ?_⟩
        refine BdH.pm (List.perm_append_singleton _ _) ?_
        refine BdH.seg ok_L_quench 5 [] rfl ⟨Nat.le_of_ble_eq_true rfl, ⟨⟨_, g, hΦ, fun w => absurd w (by decide), rfl⟩, Nat.le_of_ble_eq_true rfl, Nat.le_of_ble_eq_true rfl⟩, trivial⟩
  · rintro w M' ⟨MX', hΦ, hz⟩
    rcases ha with ⟨rfl, rfl⟩ | ⟨n, rfl, -⟩
    · cases hz
      refine BdH.pm (List.perm_append_singleton _ _) ?_
      refine BdH.seg ok_L_quench 2 [0] rfl ⟨⟨rfl, rfl⟩, xg (by decide), (show BdH E mL_quench hL_quench (xRm 8 146 16 159) 16 159 (fun z => ∃ (MX' : va_W) (g' : Nat → Int64), Φ MX' ∧ ((0 : Int32) = 0 → g' 0 = v.toInt64) ∧ z = .inl (some (.int 0), (ho, .inl (E.2.1.2.1, 1, .inr (.inl g'))) :: MX')) 18 [some (.ref hx), some (.int a0), some (.ref ho), none] [] ((ho, .inl (E.2.1.2.1, 1, .inr (.inl (vp_updL g (Int32.toNatClampNeg 0) v.toInt64)))) :: M') 16 159 from ?_)⟩
      exact BdH.seg ok_L_quench 3 [] rfl ⟨⟨⟨_, vp_updL g (Int32.toNatClampNeg 0) v.toInt64, hΦ, fun _ => rfl, rfl⟩, Nat.le_of_ble_eq_true rfl, Nat.le_of_ble_eq_true rfl⟩, trivial⟩
    · cases hz
def mL_advance : xM := (yL_advance, cL_advance, 4, (some .int), 13)
def hL_advance : List (Nat × Nat × Nat × Nat) := [(0, 9, 12, 19), (0, 9, 15, 13)]
theorem wL_advance : Cond.codeWith mL_advance.1 mL_advance.2.1 mL_advance.2.2.1 mL_advance.2.2.2.1 hL_advance ∈ xAll := xm6 (n := 146) rfl rfl
theorem vL_advance : Cond.static mL_advance.1 ∈ xAll := xm6 (n := 145) rfl rfl
theorem kL_advance : Cond.methodLink (xCn 13) 324 mL_advance.1 ∈ xAll := xm6 (n := 144) rfl rfl
def tb_L_advance : List (Nat × List xI) := [(0, [(.aload_n 2, [], 0), (.iconst 0, [], 0), (.aload_n 0, [], 0), (.iload_n 1, [], 0)]), (4, [(.invokevirtual 105, [], 0)]), (7, [(.i2l, [], 0), (.lastore, [], 0), (.goto 9, [], 0)]), (18, [(.iconst 0, [], 0), (.ireturn, [], 0)]), (12, [(.astore_n 3, [], 0), (.iconst 1, [], 1), (.ireturn, [], 0)]), (15, [(.astore_n 3, [], 0), (.iconst 2, [], 2), (.ireturn, [], 0)])]
set_option maxRecDepth 100000 in
theorem ok_L_advance : ∀ q ∈ tb_L_advance, xChks mL_advance q.1 q.2 = true := by decide +kernel
set_option maxRecDepth 100000 in
theorem s_L_advance {E : xE} {hx ho : Nat} {a0 : Int32} {v e : Int32} {k : Nat ⊕ Int32} {MX : va_W} {Φ : va_W → Prop} (g : Nat → Int64) (hsp : SpP E mX11_advance (xRm 6 124 16 159) [.ref hx, .int a0] MX (fun z => ∃ MX', Φ MX' ∧ z = xOut (Sum.map id (fun r => some (Value.int r)) k) MX')) (ha : AnsT tAS k v e) (h0 : ∃ vs, MX[0]? = some (hx, .inr (11, vs))) : HpP E mL_advance hL_advance (xRm 7 145 16 159) [.ref hx, .int a0, .ref ho] ((ho, .inl (E.2.1.2.1, 1, .inr (.inl g))) :: MX) (fun z => ∃ (MX' : va_W) (g' : Nat → Int64), Φ MX' ∧ (e = 0 → g' 0 = v.toInt64) ∧ z = .inl (some (.int e), (ho, .inl (E.2.1.2.1, 1, .inr (.inl g'))) :: MX')) := by
  obtain ⟨vs, h0⟩ := h0
  refine HpP.of rfl rfl (L := [some (.ref hx), some (.int a0), some (.ref ho), none]) rfl rfl (Nat.le_of_ble_eq_true rfl) ?_
  refine BdH.seg ok_L_advance 0 [] rfl (show BdH E mL_advance hL_advance (xRm 7 145 16 159) 16 159 (fun z => ∃ (MX' : va_W) (g' : Nat → Int64), Φ MX' ∧ (e = 0 → g' 0 = v.toInt64) ∧ z = .inl (some (.int e), (ho, .inl (E.2.1.2.1, 1, .inr (.inl g'))) :: MX')) 4 [some (.ref hx), some (.int a0), some (.ref ho), none] [.int a0, .ref hx, .int 0, .ref ho] ((ho, .inl (E.2.1.2.1, 1, .inr (.inl g))) :: MX) 0 0 from ?_)
  refine BdH.pm (List.perm_append_singleton _ _).symm ?_
  refine BdH.call oX11_advance vX11_advance nX11_advance k13_105 (xdec ok_L_advance 1 rfl) (As := [.int a0]) (rest := [.int 0, .ref ho]) hsp ⟨Nat.le_of_ble_eq_true rfl, Nat.le_of_ble_eq_true rfl⟩ rfl (Nat.le_of_ble_eq_true rfl) 0 h0 rfl rfl ⟨Nat.le_of_ble_eq_true rfl, Nat.le_of_ble_eq_true rfl⟩ ?_ ?_
  · rintro X M' ⟨MX', hΦ, hz⟩
    rcases ha with ⟨rfl, rfl⟩ | ⟨n, rfl, rfl, rfl, hn⟩
    · cases hz
    · have hn2 : n = 1 ∨ n = 0 := by
        unfold tAS at hn
        exact Classical.byContradiction fun q => hn (by rw [if_neg (fun w => q (Or.inl w)), if_neg (fun w => q (Or.inr w))])
      cases hz
      rcases hn2 with rfl | rfl
      · refine ⟨[], (0, 9, 12, 19), [(0, 9, 15, 13)], rfl, nofun, ⟨by decide, by decide⟩, by decide, cl13_19, cs13_19, fun q => ?_⟩
        refine BdH.pm (List.perm_append_singleton _ _) ?_
        refine BdH.seg ok_L_advance 4 [] rfl ⟨Nat.le_of_ble_eq_true rfl, ⟨⟨_, g, hΦ, fun w => absurd w (by decide), rfl⟩, Nat.le_of_ble_eq_true rfl, Nat.le_of_ble_eq_true rfl⟩, trivial⟩
      · refine ⟨[(0, 9, 12, 19)], (0, 9, 15, 13), [], rfl, fun z hz => by
          obtain rfl := List.mem_singleton.mp hz
          exact ⟨by decide, _, cl13_19, by decide⟩, ⟨by decide, by decide⟩, by decide, cl13_13, cs13_13, fun q => ?_⟩
        refine BdH.pm (List.perm_append_singleton _ _) ?_
        refine BdH.seg ok_L_advance 5 [] rfl ⟨Nat.le_of_ble_eq_true rfl, ⟨⟨_, g, hΦ, fun w => absurd w (by decide), rfl⟩, Nat.le_of_ble_eq_true rfl, Nat.le_of_ble_eq_true rfl⟩, trivial⟩
  · rintro w M' ⟨MX', hΦ, hz⟩
    rcases ha with ⟨rfl, rfl⟩ | ⟨n, rfl, -⟩
    · cases hz
      refine BdH.pm (List.perm_append_singleton _ _) ?_
      refine BdH.seg ok_L_advance 2 [0] rfl ⟨⟨rfl, rfl⟩, xg (by decide), (show BdH E mL_advance hL_advance (xRm 7 145 16 159) 16 159 (fun z => ∃ (MX' : va_W) (g' : Nat → Int64), Φ MX' ∧ ((0 : Int32) = 0 → g' 0 = v.toInt64) ∧ z = .inl (some (.int 0), (ho, .inl (E.2.1.2.1, 1, .inr (.inl g'))) :: MX')) 18 [some (.ref hx), some (.int a0), some (.ref ho), none] [] ((ho, .inl (E.2.1.2.1, 1, .inr (.inl (vp_updL g (Int32.toNatClampNeg 0) v.toInt64)))) :: M') 16 159 from ?_)⟩
      exact BdH.seg ok_L_advance 3 [] rfl ⟨⟨⟨_, vp_updL g (Int32.toNatClampNeg 0) v.toInt64, hΦ, fun _ => rfl, rfl⟩, Nat.le_of_ble_eq_true rfl, Nat.le_of_ble_eq_true rfl⟩, trivial⟩
    · cases hz
def mL_undo : xM := (yL_undo, cL_undo, 3, (some .int), 13)
def hL_undo : List (Nat × Nat × Nat × Nat) := [(0, 8, 11, 13)]
theorem wL_undo : Cond.codeWith mL_undo.1 mL_undo.2.1 mL_undo.2.2.1 mL_undo.2.2.2.1 hL_undo ∈ xAll := xm6 (n := 155) rfl rfl
theorem vL_undo : Cond.static mL_undo.1 ∈ xAll := xm6 (n := 154) rfl rfl
theorem kL_undo : Cond.methodLink (xCn 13) 343 mL_undo.1 ∈ xAll := xm6 (n := 153) rfl rfl
def tb_L_undo : List (Nat × List xI) := [(0, [(.aload_n 1, [], 0), (.iconst 0, [], 0), (.aload_n 0, [], 0)]), (3, [(.invokevirtual 108, [], 0)]), (6, [(.i2l, [], 0), (.lastore, [], 0), (.goto 6, [], 0)]), (14, [(.iconst 0, [], 0), (.ireturn, [], 0)]), (11, [(.astore_n 2, [], 0), (.iconst 1, [], 1), (.ireturn, [], 0)])]
set_option maxRecDepth 100000 in
theorem ok_L_undo : ∀ q ∈ tb_L_undo, xChks mL_undo q.1 q.2 = true := by decide +kernel
set_option maxRecDepth 100000 in
theorem s_L_undo {E : xE} {hx ho : Nat} {v e : Int32} {k : Nat ⊕ Int32} {MX : va_W} {Φ : va_W → Prop} (g : Nat → Int64) (hsp : SpP E mX11_undo (xRm 6 124 1 6) [.ref hx] MX (fun z => ∃ MX', Φ MX' ∧ z = xOut (Sum.map id (fun r => some (Value.int r)) k) MX')) (ha : AnsT tS k v e) (h0 : ∃ vs, MX[0]? = some (hx, .inr (11, vs))) : HpP E mL_undo hL_undo (xRm 7 144 1 6) [.ref hx, .ref ho] ((ho, .inl (E.2.1.2.1, 1, .inr (.inl g))) :: MX) (fun z => ∃ (MX' : va_W) (g' : Nat → Int64), Φ MX' ∧ (e = 0 → g' 0 = v.toInt64) ∧ z = .inl (some (.int e), (ho, .inl (E.2.1.2.1, 1, .inr (.inl g'))) :: MX')) := by
  obtain ⟨vs, h0⟩ := h0
  refine HpP.of rfl rfl (L := [some (.ref hx), some (.ref ho), none]) rfl rfl (Nat.le_of_ble_eq_true rfl) ?_
  refine BdH.seg ok_L_undo 0 [] rfl (show BdH E mL_undo hL_undo (xRm 7 144 1 6) 1 6 (fun z => ∃ (MX' : va_W) (g' : Nat → Int64), Φ MX' ∧ (e = 0 → g' 0 = v.toInt64) ∧ z = .inl (some (.int e), (ho, .inl (E.2.1.2.1, 1, .inr (.inl g'))) :: MX')) 3 [some (.ref hx), some (.ref ho), none] [.ref hx, .int 0, .ref ho] ((ho, .inl (E.2.1.2.1, 1, .inr (.inl g))) :: MX) 0 0 from ?_)
  refine BdH.pm (List.perm_append_singleton _ _).symm ?_
  refine BdH.call oX11_undo vX11_undo nX11_undo k13_108 (xdec ok_L_undo 1 rfl) (As := []) (rest := [.int 0, .ref ho]) hsp ⟨Nat.le_of_ble_eq_true rfl, Nat.le_of_ble_eq_true rfl⟩ rfl (Nat.le_of_ble_eq_true rfl) 0 h0 rfl rfl ⟨Nat.le_of_ble_eq_true rfl, Nat.le_of_ble_eq_true rfl⟩ ?_ ?_
  · rintro X M' ⟨MX', hΦ, hz⟩
    rcases ha with ⟨rfl, rfl⟩ | ⟨n, rfl, rfl, rfl, hn⟩
    · cases hz
    · have hn2 : n = 0 := by
        unfold tS at hn
        exact Classical.byContradiction fun q => hn (if_neg q)
      cases hz
      subst hn2
      refine ⟨[], (0, 8, 11, 13), [], rfl, nofun, ⟨by decide, by decide⟩, by decide, cl13_13, cs13_13, fun q => ?_⟩
      refine BdH.pm (List.perm_append_singleton _ _) ?_
      refine BdH.seg ok_L_undo 4 [] rfl ⟨Nat.le_of_ble_eq_true rfl, ⟨⟨_, g, hΦ, fun w => absurd w (by decide), rfl⟩, Nat.le_of_ble_eq_true rfl, Nat.le_of_ble_eq_true rfl⟩, trivial⟩
  · rintro w M' ⟨MX', hΦ, hz⟩
    rcases ha with ⟨rfl, rfl⟩ | ⟨n, rfl, -⟩
    · cases hz
      refine BdH.pm (List.perm_append_singleton _ _) ?_
      refine BdH.seg ok_L_undo 2 [0] rfl ⟨⟨rfl, rfl⟩, xg (by decide), (show BdH E mL_undo hL_undo (xRm 7 144 1 6) 1 6 (fun z => ∃ (MX' : va_W) (g' : Nat → Int64), Φ MX' ∧ ((0 : Int32) = 0 → g' 0 = v.toInt64) ∧ z = .inl (some (.int 0), (ho, .inl (E.2.1.2.1, 1, .inr (.inl g'))) :: MX')) 14 [some (.ref hx), some (.ref ho), none] [] ((ho, .inl (E.2.1.2.1, 1, .inr (.inl (vp_updL g (Int32.toNatClampNeg 0) v.toInt64)))) :: M') 1 6 from ?_)⟩
      exact BdH.seg ok_L_undo 3 [] rfl ⟨⟨⟨_, vp_updL g (Int32.toNatClampNeg 0) v.toInt64, hΦ, fun _ => rfl, rfl⟩, Nat.le_of_ble_eq_true rfl, Nat.le_of_ble_eq_true rfl⟩, trivial⟩
    · cases hz
def mL_save : xM := (yL_save, cL_save, 4, (some .int), 13)
def hL_save : List (Nat × Nat × Nat × Nat) := [(0, 9, 12, 24)]
theorem wL_save : Cond.codeWith mL_save.1 mL_save.2.1 mL_save.2.2.1 mL_save.2.2.2.1 hL_save ∈ xAll := xm6 (n := 167) rfl rfl
theorem vL_save : Cond.static mL_save.1 ∈ xAll := xm6 (n := 166) rfl rfl
theorem kL_save : Cond.methodLink (xCn 13) 347 mL_save.1 ∈ xAll := xm6 (n := 165) rfl rfl
def tb_L_save : List (Nat × List xI) := [(0, [(.aload_n 2, [], 0), (.iconst 0, [], 0), (.aload_n 0, [], 0), (.iload_n 1, [], 0)]), (4, [(.invokevirtual 112, [], 0)]), (7, [(.i2l, [], 0), (.lastore, [], 0), (.goto 6, [], 0)]), (15, [(.iconst 0, [], 0), (.ireturn, [], 0)]), (12, [(.astore_n 3, [], 0), (.iconst 1, [], 1), (.ireturn, [], 0)])]
set_option maxRecDepth 100000 in
theorem ok_L_save : ∀ q ∈ tb_L_save, xChks mL_save q.1 q.2 = true := by decide +kernel
set_option maxRecDepth 100000 in
theorem s_L_save {E : xE} {hx ho : Nat} {a0 : Int32} {v e : Int32} {k : Nat ⊕ Int32} {MX : va_W} {Φ : va_W → Prop} (g : Nat → Int64) (hsp : SpP E mX11_save (xRm 7 124 15 153) [.ref hx, .int a0] MX (fun z => ∃ MX', Φ MX' ∧ z = xOut (Sum.map id (fun r => some (Value.int r)) k) MX')) (ha : AnsT tI k v e) (h0 : ∃ vs, MX[0]? = some (hx, .inr (11, vs))) : HpP E mL_save hL_save (xRm 8 145 15 153) [.ref hx, .int a0, .ref ho] ((ho, .inl (E.2.1.2.1, 1, .inr (.inl g))) :: MX) (fun z => ∃ (MX' : va_W) (g' : Nat → Int64), Φ MX' ∧ (e = 0 → g' 0 = v.toInt64) ∧ z = .inl (some (.int e), (ho, .inl (E.2.1.2.1, 1, .inr (.inl g'))) :: MX')) := by
  obtain ⟨vs, h0⟩ := h0
  refine HpP.of rfl rfl (L := [some (.ref hx), some (.int a0), some (.ref ho), none]) rfl rfl (Nat.le_of_ble_eq_true rfl) ?_
  refine BdH.seg ok_L_save 0 [] rfl (show BdH E mL_save hL_save (xRm 8 145 15 153) 15 153 (fun z => ∃ (MX' : va_W) (g' : Nat → Int64), Φ MX' ∧ (e = 0 → g' 0 = v.toInt64) ∧ z = .inl (some (.int e), (ho, .inl (E.2.1.2.1, 1, .inr (.inl g'))) :: MX')) 4 [some (.ref hx), some (.int a0), some (.ref ho), none] [.int a0, .ref hx, .int 0, .ref ho] ((ho, .inl (E.2.1.2.1, 1, .inr (.inl g))) :: MX) 0 0 from ?_)
  refine BdH.pm (List.perm_append_singleton _ _).symm ?_
  refine BdH.call oX11_save vX11_save nX11_save k13_112 (xdec ok_L_save 1 rfl) (As := [.int a0]) (rest := [.int 0, .ref ho]) hsp ⟨Nat.le_of_ble_eq_true rfl, Nat.le_of_ble_eq_true rfl⟩ rfl (Nat.le_of_ble_eq_true rfl) 0 h0 rfl rfl ⟨Nat.le_of_ble_eq_true rfl, Nat.le_of_ble_eq_true rfl⟩ ?_ ?_
  · rintro X M' ⟨MX', hΦ, hz⟩
    rcases ha with ⟨rfl, rfl⟩ | ⟨n, rfl, rfl, rfl, hn⟩
    · cases hz
    · have hn2 : n = 2 := by
        unfold tI at hn
        exact Classical.byContradiction fun q => hn (if_neg q)
      cases hz
      subst hn2
      refine ⟨[], (0, 9, 12, 24), [], rfl, nofun, ⟨by decide, by decide⟩, by decide, cl13_24, cs13_24, fun q => ?_⟩
      refine BdH.pm (List.perm_append_singleton _ _) ?_
      refine BdH.seg ok_L_save 4 [] rfl ⟨Nat.le_of_ble_eq_true rfl, ⟨⟨_, g, hΦ, fun w => absurd w (by decide), rfl⟩, Nat.le_of_ble_eq_true rfl, Nat.le_of_ble_eq_true rfl⟩, trivial⟩
  · rintro w M' ⟨MX', hΦ, hz⟩
    rcases ha with ⟨rfl, rfl⟩ | ⟨n, rfl, -⟩
    · cases hz
      refine BdH.pm (List.perm_append_singleton _ _) ?_
      refine BdH.seg ok_L_save 2 [0] rfl ⟨⟨rfl, rfl⟩, xg (by decide), (show BdH E mL_save hL_save (xRm 8 145 15 153) 15 153 (fun z => ∃ (MX' : va_W) (g' : Nat → Int64), Φ MX' ∧ ((0 : Int32) = 0 → g' 0 = v.toInt64) ∧ z = .inl (some (.int 0), (ho, .inl (E.2.1.2.1, 1, .inr (.inl g'))) :: MX')) 15 [some (.ref hx), some (.int a0), some (.ref ho), none] [] ((ho, .inl (E.2.1.2.1, 1, .inr (.inl (vp_updL g (Int32.toNatClampNeg 0) v.toInt64)))) :: M') 15 153 from ?_)⟩
      exact BdH.seg ok_L_save 3 [] rfl ⟨⟨⟨_, vp_updL g (Int32.toNatClampNeg 0) v.toInt64, hΦ, fun _ => rfl, rfl⟩, Nat.le_of_ble_eq_true rfl, Nat.le_of_ble_eq_true rfl⟩, trivial⟩
    · cases hz
def mL_restore : xM := (yL_restore, cL_restore, 4, (some .int), 13)
def hL_restore : List (Nat × Nat × Nat × Nat) := [(0, 9, 12, 24), (0, 9, 15, 13)]
theorem wL_restore : Cond.codeWith mL_restore.1 mL_restore.2.1 mL_restore.2.2.1 mL_restore.2.2.2.1 hL_restore ∈ xAll := xm6 (n := 183) rfl rfl
theorem vL_restore : Cond.static mL_restore.1 ∈ xAll := xm6 (n := 182) rfl rfl
theorem kL_restore : Cond.methodLink (xCn 13) 350 mL_restore.1 ∈ xAll := xm6 (n := 181) rfl rfl
def tb_L_restore : List (Nat × List xI) := [(0, [(.aload_n 2, [], 0), (.iconst 0, [], 0), (.aload_n 0, [], 0), (.iload_n 1, [], 0)]), (4, [(.invokevirtual 115, [], 0)]), (7, [(.i2l, [], 0), (.lastore, [], 0), (.goto 9, [], 0)]), (18, [(.iconst 0, [], 0), (.ireturn, [], 0)]), (12, [(.astore_n 3, [], 0), (.iconst 1, [], 1), (.ireturn, [], 0)]), (15, [(.astore_n 3, [], 0), (.iconst 2, [], 2), (.ireturn, [], 0)])]
set_option maxRecDepth 100000 in
theorem ok_L_restore : ∀ q ∈ tb_L_restore, xChks mL_restore q.1 q.2 = true := by decide +kernel
set_option maxRecDepth 100000 in
theorem s_L_restore {E : xE} {hx ho : Nat} {a0 : Int32} {v e : Int32} {k : Nat ⊕ Int32} {MX : va_W} {Φ : va_W → Prop} (g : Nat → Int64) (hsp : SpP E mX11_restore (xRm 7 111 2 12) [.ref hx, .int a0] MX (fun z => ∃ MX', Φ MX' ∧ z = xOut (Sum.map id (fun r => some (Value.int r)) k) MX')) (ha : AnsT tIS k v e) (h0 : ∃ vs, MX[0]? = some (hx, .inr (11, vs))) : HpP E mL_restore hL_restore (xRm 8 133 2 12) [.ref hx, .int a0, .ref ho] ((ho, .inl (E.2.1.2.1, 1, .inr (.inl g))) :: MX) (fun z => ∃ (MX' : va_W) (g' : Nat → Int64), Φ MX' ∧ (e = 0 → g' 0 = v.toInt64) ∧ z = .inl (some (.int e), (ho, .inl (E.2.1.2.1, 1, .inr (.inl g'))) :: MX')) := by
  obtain ⟨vs, h0⟩ := h0
  refine HpP.of rfl rfl (L := [some (.ref hx), some (.int a0), some (.ref ho), none]) rfl rfl (Nat.le_of_ble_eq_true rfl) ?_
  refine BdH.seg ok_L_restore 0 [] rfl (show BdH E mL_restore hL_restore (xRm 8 133 2 12) 2 12 (fun z => ∃ (MX' : va_W) (g' : Nat → Int64), Φ MX' ∧ (e = 0 → g' 0 = v.toInt64) ∧ z = .inl (some (.int e), (ho, .inl (E.2.1.2.1, 1, .inr (.inl g'))) :: MX')) 4 [some (.ref hx), some (.int a0), some (.ref ho), none] [.int a0, .ref hx, .int 0, .ref ho] ((ho, .inl (E.2.1.2.1, 1, .inr (.inl g))) :: MX) 0 0 from ?_)
  refine BdH.pm (List.perm_append_singleton _ _).symm ?_
  refine BdH.call oX11_restore vX11_restore nX11_restore k13_115 (xdec ok_L_restore 1 rfl) (As := [.int a0]) (rest := [.int 0, .ref ho]) hsp ⟨Nat.le_of_ble_eq_true rfl, Nat.le_of_ble_eq_true rfl⟩ rfl (Nat.le_of_ble_eq_true rfl) 0 h0 rfl rfl ⟨Nat.le_of_ble_eq_true rfl, Nat.le_of_ble_eq_true rfl⟩ ?_ ?_
  · rintro X M' ⟨MX', hΦ, hz⟩
    rcases ha with ⟨rfl, rfl⟩ | ⟨n, rfl, rfl, rfl, hn⟩
    · cases hz
    · have hn2 : n = 2 ∨ n = 0 := by
        unfold tIS at hn
        exact Classical.byContradiction fun q => hn (by rw [if_neg (fun w => q (Or.inl w)), if_neg (fun w => q (Or.inr w))])
      cases hz
      rcases hn2 with rfl | rfl
      · refine ⟨[], (0, 9, 12, 24), [(0, 9, 15, 13)], rfl, nofun, ⟨by decide, by decide⟩, by decide, cl13_24, cs13_24, fun q => ?_⟩
        refine BdH.pm (List.perm_append_singleton _ _) ?_
        refine BdH.seg ok_L_restore 4 [] rfl ⟨Nat.le_of_ble_eq_true rfl, ⟨⟨_, g, hΦ, fun w => absurd w (by decide), rfl⟩, Nat.le_of_ble_eq_true rfl, Nat.le_of_ble_eq_true rfl⟩, trivial⟩
      · refine ⟨[(0, 9, 12, 24)], (0, 9, 15, 13), [], rfl, fun z hz => by
          obtain rfl := List.mem_singleton.mp hz
          exact ⟨by decide, _, cl13_24, by decide⟩, ⟨by decide, by decide⟩, by decide, cl13_13, cs13_13, fun q => ?_⟩
        refine BdH.pm (List.perm_append_singleton _ _) ?_
        refine BdH.seg ok_L_restore 5 [] rfl ⟨Nat.le_of_ble_eq_true rfl, ⟨⟨_, g, hΦ, fun w => absurd w (by decide), rfl⟩, Nat.le_of_ble_eq_true rfl, Nat.le_of_ble_eq_true rfl⟩, trivial⟩
  · rintro w M' ⟨MX', hΦ, hz⟩
    rcases ha with ⟨rfl, rfl⟩ | ⟨n, rfl, -⟩
    · cases hz
      refine BdH.pm (List.perm_append_singleton _ _) ?_
      refine BdH.seg ok_L_restore 2 [0] rfl ⟨⟨rfl, rfl⟩, xg (by decide), (show BdH E mL_restore hL_restore (xRm 8 133 2 12) 2 12 (fun z => ∃ (MX' : va_W) (g' : Nat → Int64), Φ MX' ∧ ((0 : Int32) = 0 → g' 0 = v.toInt64) ∧ z = .inl (some (.int 0), (ho, .inl (E.2.1.2.1, 1, .inr (.inl g'))) :: MX')) 18 [some (.ref hx), some (.int a0), some (.ref ho), none] [] ((ho, .inl (E.2.1.2.1, 1, .inr (.inl (vp_updL g (Int32.toNatClampNeg 0) v.toInt64)))) :: M') 2 12 from ?_)⟩
      exact BdH.seg ok_L_restore 3 [] rfl ⟨⟨⟨_, vp_updL g (Int32.toNatClampNeg 0) v.toInt64, hΦ, fun _ => rfl, rfl⟩, Nat.le_of_ble_eq_true rfl, Nat.le_of_ble_eq_true rfl⟩, trivial⟩
    · cases hz
