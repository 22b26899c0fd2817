/-! MACHINE: the law's own body: what goes on from a place of it -/
def LX : Type := Program × Launch × Env × State × MethodId × List Frame × Method × Code × Nat × Nat × (Nat → Int32) × xE × (State → Prop)
abbrev LX.p (X : LX) : Program := X.1
abbrev LX.l (X : LX) : Launch := X.2.1
abbrev LX.e (X : LX) : Env := X.2.2.1
abbrev LX.s (X : LX) : State := X.2.2.2.1
abbrev LX.m (X : LX) : MethodId := X.2.2.2.2.1
abbrev LX.below (X : LX) : List Frame := X.2.2.2.2.2.1
abbrev LX.meth (X : LX) : Method := X.2.2.2.2.2.2.1
abbrev LX.c (X : LX) : Code := X.2.2.2.2.2.2.2.1
abbrev LX.b (X : LX) : Nat := X.2.2.2.2.2.2.2.2.1
abbrev LX.n (X : LX) : Nat := X.2.2.2.2.2.2.2.2.2.1
abbrev LX.xs (X : LX) : Nat → Int32 := X.2.2.2.2.2.2.2.2.2.2.1
abbrev LX.E (X : LX) : xE := X.2.2.2.2.2.2.2.2.2.2.2.1
abbrev LX.Q (X : LX) : State → Prop := X.2.2.2.2.2.2.2.2.2.2.2.2
abbrev yLw (nm : String) : xM := (⟨RL, nm, ""⟩, code, 7, (some .boolean), 13)
def LXA (X : LX) : Nat → Prop := fun q => X.s.heap.size ≤ q
def LF (X : LX) : Prop := xFix X.E (yLw X.meth.name) X.p X.l X.s X.m #[.ref X.b] X.meth X.c (LXA X) ∧ va_X X.b X.n X.xs X.s X.s.heap ∧ X.b < X.s.heap.size
def BdL (X : LX) : xK := fun pc L st M ck sk =>
  ∀ (H : Heap) (locs : List Loc) (ls : Array Slot), va_P X.E.1 vwCl M H → va_D (LXA X) M → va_S (LXA X) X.s.heap H locs → lv_has ls 7 (xEn 0 L) → L.length = 7 →
    W X.p X.l X.e room_1 X.s X.m #[.ref X.b] X.below X.meth X.c H locs ck sk X.Q (F0 X.m pc ls st)
theorem xChk_nm (a a' : MethodName) (r : ByteArray × Nat × Option FieldType × Nat) (pc : Nat) (i : xI) (hi : ∀ x, i.1 ≠ .putfield x) : xChk (a, r) pc i = xChk (a', r) pc i := by
  obtain ⟨ii, aux, cv⟩ := i
  unfold xChk
  cases ii <;> first | rfl | exact absurd rfl (hi _)
def xNoPut : List xI → Bool
  | [] => true
  | i :: r => (match i.1 with | .putfield _ => false | _ => true) && xNoPut r
theorem xChks_nm (a a' : MethodName) (r : ByteArray × Nat × Option FieldType × Nat) : ∀ (is : List xI) (pc : Nat), xNoPut is = true → xChks (a, r) pc is = true → xChks (a', r) pc is = true := by
  intro is
  induction is with
  | nil => exact fun _ _ h => h
  | cons i t ih =>
    intro pc hp h
    rw [xNoPut, Bool.and_eq_true] at hp
    rw [xChks, Bool.and_eq_true] at h ⊢
    have hi : ∀ x, i.1 ≠ .putfield x := fun x e => by
      have := hp.1
      rw [e] at this
      cases this
    refine ⟨by rw [← xChk_nm a a' r pc i hi]; exact h.1, ?_⟩
    have h2 := h.2
    split
    · rename_i hj; rw [if_pos hj] at h2; exact h2
    · rename_i hj; rw [if_neg hj] at h2; exact ih _ hp.2 h2
section LAWB
variable {X : LX} {pc : Nat} {L : xL} {st : List Value} {M : va_W} {ck sk : Nat}
theorem BdL.seg (hF : LF X) {B : List (Nat × List xI)} (hB : ∀ q ∈ B, (xChks (yLw "law") q.1 q.2 && xNoPut q.2) = true) (n : Nat) (hs : List Nat) {pc : Nat} {is : List xI} (hn : B[n]? = some (pc, is)) {L : xL} {st : List Value} {M : va_W} {ck sk : Nat}
    (h : xrun room_1 X.E (BdL X) (fun _ _ _ _ => False) is hs pc L st M ck sk) : BdL X pc L st M ck sk := by
  intro H locs ls hP hD hS hl hLn
  have hb := hB _ (List.mem_of_getElem? hn)
  rw [Bool.and_eq_true] at hb
  exact xrun_W (y := yLw X.meth.name) hF.1 (fun pc L st M ck sk H locs ls hk hP hD hS hl hLn => hk H locs ls hP hD hS hl hLn) (fun pc v M ck sk H locs ls hk => hk.elim) is hs pc L st M ck sk H locs ls (xChks_nm _ _ _ is pc hb.2 hb.1) h hP hD hS hl hLn
theorem BdL.pm {M' : va_W} (hp : M.Perm M') (h : BdL X pc L st M' ck sk) : BdL X pc L st M ck sk :=
  fun H locs ls hP hD hS hl hLn => h H locs ls (hP.perm (fun q hq => hp.mem_iff.mpr hq)) (hD.perm hp) hS hl hLn
theorem BdL.weak {L' : xL} (h : BdL X pc L' st M ck sk) (hle : xle L' L) : BdL X pc L st M ck sk :=
  fun H locs ls hP hD hS hl hLn => h H locs ls hP hD hS ⟨hl.1, hl.2.1, fun q hq => hl.2.2 q (xle_mem L' L 0 hle q hq)⟩ ((xle_len L' L hle).trans hLn)
theorem BdL.wide {ck' sk' : Nat} (h1 : ck ≤ ck') (h2 : sk ≤ sk') (h : BdL X pc L st M ck' sk') : BdL X pc L st M ck sk :=
  fun H locs ls hP hD hS hl hLn => W.widen h1 h2 (h H locs ls hP hD hS hl hLn)
theorem BdL.sld (hF : LF X) {i : Int32} (hd : decode code pc = .ok (.iaload, 1)) (hin : vp_in i X.n) (h : BdL X (pc + 1) L (.int (X.xs i.toNatClampNeg) :: st) M ck sk) : BdL X pc L (.int i :: .ref X.b :: st) M ck sk := by
  intro H locs ls hP hD hS hl hLn
  obtain ⟨⟨hexec, hl0, hbt, hml, hown, hts, hlocks, hnm, hA, hKK, hG⟩, hX, hbl⟩ := hF
  exact va_sld hexec hbt hX hbl (Nat.not_le.mpr hbl : ¬ LXA X X.b) hS hin hd (h H locs ls hP hD hS hl hLn)
theorem BdL.slen (hF : LF X) (hd : decode code pc = .ok (.arraylength, 1)) (h : BdL X (pc + 1) L (.int (Int32.ofNat X.n) :: st) M ck sk) : BdL X pc L (.ref X.b :: st) M ck sk := by
  intro H locs ls hP hD hS hl hLn
  obtain ⟨⟨hexec, hl0, hbt, hml, hown, hts, hlocks, hnm, hA, hKK, hG⟩, hX, hbl⟩ := hF
  exact va_slen hexec hbt hX hbl (Nat.not_le.mpr hbl : ¬ LXA X X.b) hS hd (h H locs ls hP hD hS hl hLn)
/-- cells that are no longer looked at -/
theorem BdL.drop {M' : va_W} (hp : M'.Sublist M) (h : BdL X pc L st M' ck sk) : BdL X pc L st M ck sk :=
  fun H locs ls hP hD hS hl hLn => h H locs ls (hP.perm (fun _ hq => hp.subset hq)) (hD.subl hp) hS hl hLn
/-- a constructor -/
theorem BdL.callI (hF : LF X) {y' : xM} {R' : Room} {As rest : List Value} {b' : Nat} {Mc Rest : va_W} {O' : xO → Prop} {idx : Nat} (hy : xMok y') (hv : Cond.instanceMethod y'.1 ∈ xAll) (hnm2 : y'.1.name = "<init>") (hrt : y'.2.2.2.1 = none) (hn : xNa y' As.length) (hlk : Cond.methodLink (xCn 13) idx y'.1 ∈ xAll) (hd : decode code pc = .ok (.invokespecial idx, 3))
    (hsp : SpP X.E y' R' (.ref b' :: As) Mc O') (hO : ∀ Z M', ¬ O' (.inr (Z, M'))) (hR : R'.frames + 1 ≤ room_1.frames ∧ 8 + (y'.2.2.1 + 11) + R'.locals ≤ room_1.locals) (hst : st = As.reverse ++ .ref b' :: rest) (hcat : (rest.map fun v => v.category).sum ≤ 8) (hp : M.Perm (Mc ++ Rest)) (hroom : ck + R'.cells ≤ room_1.cells ∧ sk + R'.slots ≤ room_1.slots)
    (kk : ∀ v M', O' (.inl (v, M')) → BdL X (pc + 3) L (v.toList ++ rest) (M' ++ Rest) (ck + R'.cells) (sk + R'.slots)) : BdL X pc L st M ck sk := by
  subst hst
  refine BdL.pm hp ?_
  intro H locs ls hP hD hS hl hLn
  obtain ⟨⟨hexec, hl0, hbt, hml, hown, hts, hlocks, hnm, hA, hKK, hG⟩, hX, hbl2⟩ := hF
  obtain ⟨⟨hbl, hpre⟩, hAc, hPc⟩ := x_pre2 (As := .ref b' :: As) hKK hG hP hD hS hA
  have hcb := x_callB (R := room_1) (args := #[.ref X.b]) hts hy hn hlk hR
  rw [hrt] at hcb
  refine x_call (x_runR (va_runI (As := As) ⟨hexec, hbt, hml, hown, hts⟩ (x_metP hsp hO X.l H.size hl0) ⟨hcb, hnm2, hts _ hv⟩ ⟨hbl, hpre⟩ rfl rfl hl.1 rfl (lv_room hcat) hd hroom)) hS hAc (fun Z M' ce q9 H1 locs1 ho => absurd ho (hO Z M')) (fun v M' H1 locs1 ho hP1 hD1 hk hS1 => ?_)
  obtain ⟨hP2, hD2⟩ := x_join2 hP hD hk hAc hP1 hD1
  exact kk v M' ho H1 locs1 ls hP2 hD2 hS1 hl hLn
/-- a static method of the law's -/
theorem BdL.callS (hF : LF X) {y' : xM} {R' : Room} {As rest : List Value} {Mc Rest : va_W} {O' : xO → Prop} {idx : Nat} (hy : xMok y') (hv : Cond.static y'.1 ∈ xAll) (hn : xNa y' As.length) (hlk : Cond.methodLink (xCn 13) idx y'.1 ∈ xAll) (hd : decode code pc = .ok (.invokestatic idx, 3))
    (hsp : SpP X.E y' R' As Mc O') (hO : ∀ Z M', ¬ O' (.inr (Z, M'))) (hR : R'.frames + 1 ≤ room_1.frames ∧ 8 + (y'.2.2.1 + 11) + R'.locals ≤ room_1.locals) (hst : st = As.reverse ++ rest) (hcat : (rest.map fun v => v.category).sum ≤ 8) (hp : M.Perm (Mc ++ Rest)) (hroom : ck + R'.cells ≤ room_1.cells ∧ sk + R'.slots ≤ room_1.slots)
    (kk : ∀ v M', O' (.inl (v, M')) → BdL X (pc + 3) L (v.toList ++ rest) (M' ++ Rest) (ck + R'.cells) (sk + R'.slots)) : BdL X pc L st M ck sk := by
  subst hst
  refine BdL.pm hp ?_
  intro H locs ls hP hD hS hl hLn
  obtain ⟨⟨hexec, hl0, hbt, hml, hown, hts, hlocks, hnm, hA, hKK, hG⟩, hX, hbl2⟩ := hF
  obtain ⟨⟨hbl, hpre⟩, hAc, hPc⟩ := x_pre2 (As := As) hKK hG hP hD hS hA
  refine x_call (vx_runS ⟨hexec, hbt, hml, hown, hts⟩ (hsp X.l H.size hl0) ⟨x_callB hts hy hn hlk hR, hts _ hv⟩ ⟨hbl, hpre⟩ rfl rfl hl.1 rfl (lv_room hcat) hd hroom) hS hAc (fun Z M' ce q9 H1 locs1 ho => absurd ho (hO Z M')) (fun v M' H1 locs1 ho hP1 hD1 hk hS1 => ?_)
  obtain ⟨hP2, hD2⟩ := x_join2 hP hD hk hAc hP1 hD1
  exact kk v M' ho H1 locs1 ls hP2 hD2 hS1 hl hLn
theorem BdL.callS0 (hF : LF X) {y' : xM} {R' : Room} {As rest : List Value} {O' : xO → Prop} {idx : Nat} (hy : xMok y') (hv : Cond.static y'.1 ∈ xAll) (hn : xNa y' As.length) (hlk : Cond.methodLink (xCn 13) idx y'.1 ∈ xAll) (hd : decode code pc = .ok (.invokestatic idx, 3))
    (hsp : SpP X.E y' R' As M O') (hO : ∀ Z M', ¬ O' (.inr (Z, M'))) (hR : R'.frames + 1 ≤ room_1.frames ∧ 8 + (y'.2.2.1 + 11) + R'.locals ≤ room_1.locals) (hst : st = As.reverse ++ rest) (hcat : (rest.map fun v => v.category).sum ≤ 8) (hroom : ck + R'.cells ≤ room_1.cells ∧ sk + R'.slots ≤ room_1.slots)
    (kk : ∀ v M', O' (.inl (v, M')) → BdL X (pc + 3) L (v.toList ++ rest) M' (ck + R'.cells) (sk + R'.slots)) : BdL X pc L st M ck sk :=
  BdL.callS hF (Rest := []) hy hv hn hlk hd hsp hO hR hst hcat (List.Perm.of_eq (List.append_nil _).symm) hroom (fun v M' h => BdL.pm (List.Perm.of_eq (List.append_nil _)) (kk v M' h))
end LAWB
theorem xdecL {B : List (Nat × List xI)} (hB : ∀ q ∈ B, (xChks (yLw "law") q.1 q.2 && xNoPut q.2) = true) (n : Nat) {pc : Nat} {i : xI} (hn : B[n]? = some (pc, [i])) : decode code pc = .ok (i.1, xlen i.1) :=
  xdec (y := yLw "law") (fun q hq => by
    have := hB q hq
    rw [Bool.and_eq_true] at this
    exact this.1) n hn
