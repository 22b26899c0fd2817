/-! MACHINE: a method of the law's own that catches: its body, its calls, its contract -/
def BdH (E : xE) (y : xM) (hh : List (Nat × Nat × Nat × Nat)) (R : Room) (mc ms : Nat) (O : xO → Prop) : xK := fun pc L st M ck sk =>
  ∀ (p : Program) (l : Launch) (e : Env) (s : State) (m : MethodId) (args : Array Value) (below : List Frame) (meth : Method) (c : Code) (A : Nat → Prop) (H : Heap) (locs : List Loc) (ls : Array Slot),
    xFix E y p l s m args meth c A → meth.sig.returnType = y.2.2.2.1 → c.exceptionTable.toList = tableOf hh → va_P E.1 vwCl M H → va_D A M → va_S A s.heap H locs → lv_has ls y.2.2.1 (xEn 0 L) → L.length = y.2.2.1 →
    W p l e R s m args below meth c H locs ck sk (MQ below (xQc E O A) args s mc ms A) (F0 m pc ls st)
/-- such a method's contract: it never throws -/
def HpP (E : xE) (y : xM) (hh : List (Nat × Nat × Nat × Nat)) (R : Room) (As : List Value) (M : va_W) (O : xO → Prop) : Prop :=
  ∀ (l : Launch) (sz : Nat), l.stackTraces = false → Met l y.1 (Cond.codeWith y.1 y.2.1 y.2.2.1 y.2.2.2.1 hh :: xAll) R (va_Pc As (fun U => U.heap.size = sz ∧ va_P E.1 vwCl M U.heap ∧ va_K E.1 vwCl (xTy E) U ∧ va_D (fun _ => True) M ∧ xG E (va_A M sz) U U.heap)) (xQc E O (va_A M sz)) R.cells R.slots (va_A M sz)
section HELP
variable {E : xE} {y : xM} {hh : List (Nat × Nat × Nat × Nat)} {R : Room} {mc ms : Nat} {O : xO → Prop} {pc : Nat} {L : xL} {st : List Value} {M : va_W} {ck sk : Nat}
theorem HpP.of {As : List Value} (hpl : plainName y.1.cls = true) (hcn : y.1.cls = xCn y.2.2.2.2) (hL : xEn 0 L = lv_args 0 As) (hn : L.length = y.2.2.1) (hn2 : (lg_sl As).length ≤ y.2.2.1)
    (h : BdH E y hh R R.cells R.slots O 0 L [] M 0 0) : HpP E y hh R As M O := by
  intro l sz hst
  have hv : vx_Met l y.1 (Cond.codeWith y.1 y.2.1 y.2.2.1 y.2.2.2.1 hh :: xAll) R (va_Pc As (fun U => U.heap.size = sz ∧ va_P E.1 vwCl M U.heap ∧ va_K E.1 vwCl (xTy E) U ∧ va_D (fun _ => True) M ∧ xG E (va_A M sz) U U.heap)) (xQc E O (va_A M sz)) (fun _ _ _ => False) R.cells R.slots (va_A M sz) := by
    refine vx_ofWH (cc := y.2.1) (maxL := y.2.2.1) (ret := y.2.2.2.1) (hh := hh) hpl rfl ?_
    intro p e s m args below meth c s₁ B hml hv
    obtain ⟨rfl, hsz, hP, hK, hD0, hG⟩ := hv
    subst hsz
    have hts : ∀ w ∈ (Cond.codeWith y.1 y.2.1 y.2.2.1 y.2.2.2.1 hh :: xAll), w.before As.toArray s = true := atoms_spec B.pre
    have hD : va_D (va_A M s.heap.size) M := hD0.self (sz := s.heap.size)
    have hl := lv_entry As (n := y.2.2.1) hn2
    rw [lg_entry_eq]
    rw [← hL] at hl
    have hown : s.vm.findClass y.1.cls = some m.cls := findClass_of_methodNamed B.named
    rw [hcn] at hown
    exact vx_ret (h p l e s m _ below meth c _ s.heap [] _ ⟨B.exec, hst, B.bytes, hml, hown, fun w hw => hts w (List.mem_cons_of_mem _ hw), B.notSynchronized, (name_of_methodNamed B.named B.method).1, fun q hq => Or.inr hq, hK, hG⟩ B.returns (vx_table (x := y.1) B (hts _ List.mem_cons_self)) hP hD va_S.rf hl hn)
  refine MetFree.mono hv (fun _ _ q => q) (fun _ _ _ _ _ q => q) (fun a s o t _ hq => ?_)
  rcases hq with hq | ⟨q, ho, X, ce, L, hX, -⟩
  · exact hq
  · exact hX.elim
theorem BdH.seg {B : List (Nat × List xI)} (hB : ∀ q ∈ B, xChks y q.1 q.2 = true) (n : Nat) (hs : List Nat) {pc : Nat} {is : List xI} (hn : B[n]? = some (pc, is)) {L : xL} {st : List Value} {M : va_W} {ck sk : Nat}
    (h : xrun R E (BdH E y hh R mc ms O) (fun v M ck sk => (O (.inl (v, M)) ∧ ck ≤ mc ∧ sk ≤ ms) ∧ xRet y.2.2.2.1 v) is hs pc L st M ck sk) : BdH E y hh R mc ms O pc L st M ck sk := by
  intro p l e s m args below meth c A H locs ls hF hr hx hP hD hS hl hLn
  refine xrun_W hF (fun pc L st M ck sk H locs ls hk hP hD hS hl hLn => hk p l e s m args below meth c A H locs ls hF hr hx hP hD hS hl hLn) (fun pc v M ck sk H locs ls hk hd hP hD hS => ?_) is hs pc L st M ck sk H locs ls (hB _ (List.mem_of_getElem? hn)) h hP hD hS hl hLn
  obtain ⟨⟨ho, h1, h2⟩, hrt⟩ := hk
  obtain ⟨hexec, hl0, hb, hml, hown, hts, hlocks, hnm, hA, hKK, hG⟩ := hF
  refine W.widen h1 h2 ?_
  have hq : ∀ t : State, t.heap = H → s.WarmedH t.vm → xQc E O A args s (.returned v) t := fun t ht hW => ⟨v, M, ho, rfl, by rw [ht]; exact hP, hD, hS.F ht⟩
  have hf : ∀ q ∈ locs, A q.base := hS.2.2
  cases v with
  | none =>
    have hr0 : y.2.2.2.1 = none := by
      cases hz : y.2.2.2.1 with
      | none => rfl
      | some t => rw [hz] at hrt; cases t <;> exact hrt.elim
    exact W.vret hexec hb (by rw [hr, hr0]) hq hf hd
  | some v =>
    cases hz : y.2.2.2.1 with
    | none => rw [hz] at hrt; exact hrt.elim
    | some t =>
      rw [hz] at hrt hr
      cases v with
      | int x =>
        have hnw : narrow t (.int x) = .int x := by cases t <;> first | rfl | exact congrArg Value.int hrt | exact hrt.elim
        exact W.zret hexec hb hr hnw hq hf hd
      | long x => cases t <;> first | exact hrt.elim | exact W.lret hexec hb hr hq hf hd
      | float x => cases t <;> first | exact hrt.elim | exact W.fret hexec hb hr hq hf hd
      | double x => cases t <;> first | exact hrt.elim | exact W.dret hexec hb hr hq hf hd
      | null => cases t <;> first | exact hrt.elim | exact W.aret hexec hb hr (Or.inl ⟨_, rfl⟩) (Or.inl rfl) hq hf hd
      | ref a => cases t <;> first | exact hrt.elim | exact W.aret hexec hb hr (Or.inl ⟨_, rfl⟩) (Or.inr ⟨_, rfl⟩) hq hf hd
      | retAddr q => cases t <;> exact hrt.elim
theorem BdH.pm {M' : va_W} (hp : M.Perm M') (h : BdH E y hh R mc ms O pc L st M' ck sk) : BdH E y hh R mc ms O pc L st M ck sk :=
  fun p l e s m args below meth c A H locs ls hF hr hx hP hD hS hl hLn => h p l e s m args below meth c A H locs ls hF hr hx (hP.perm (fun q hq => hp.mem_iff.mpr hq)) (hD.perm hp) hS hl hLn
/-- a call that may throw, and what is thrown is caught here -/
theorem BdH.call {y' : xM} {R' : Room} {As rest : List Value} {b : Nat} {Mc Rest : va_W} {O' : xO → Prop} {idx : Nat} (hy : xMok y') (hv : xVok y') (hn : xNa y' As.length) (hlk : Cond.methodLink (xCn y.2.2.2.2) idx y'.1 ∈ xAll) (hd : decode y.2.1 pc = .ok (.invokevirtual idx, 3))
    (hsp : SpP E y' R' (.ref b :: As) Mc O') (hR : R'.frames + 1 ≤ R.frames ∧ 8 + (y'.2.2.1 + 11) + R'.locals ≤ R.locals) (hst : st = As.reverse ++ .ref b :: rest) (hcat : (rest.map fun v => v.category).sum ≤ 8)
    (q0 : Nat) {ci : Nat} {fs : List Value} {r : vw_C} (hb : Mc[q0]? = some (b, .inr (ci, fs))) (hci : vwCl[ci]? = some r) (hrc : r.1 = y'.1.cls) (hroom : ck + R'.cells ≤ R.cells ∧ sk + R'.slots ≤ R.slots)
    (kx : ∀ X M', O' (.inr (X, M')) → ∃ (pre : List (Nat × Nat × Nat × Nat)) (h : Nat × Nat × Nat × Nat) (suf : List (Nat × Nat × Nat × Nat)), hh = pre ++ h :: suf ∧ (∀ z ∈ pre, ¬ z.2.2.2 = 0 ∧ ∃ nm, Cond.classLink (xCn y.2.2.2.2) z.2.2.2 nm ∈ xAll ∧ (X, nm) ∈ xNcs) ∧ (h.1 ≤ pc ∧ pc < h.2.1) ∧ ¬ h.2.2.2 = 0 ∧ Cond.classLink (xCn y.2.2.2.2) h.2.2.2 X ∈ xAll ∧ Cond.castable X X ∈ xOdd ∧ ∀ q, BdH E y hh R mc ms O h.2.2.1 L [.ref q] (M' ++ Rest) (ck + R'.cells) (sk + R'.slots))
    (kk : ∀ v M', O' (.inl (v, M')) → BdH E y hh R mc ms O (pc + 3) L (v.toList ++ rest) (M' ++ Rest) (ck + R'.cells) (sk + R'.slots)) : BdH E y hh R mc ms O pc L st (Mc ++ Rest) ck sk := by
  subst hst
  intro p l e s m args below meth c A H locs ls hF hr hx hP hD hS hl hLn
  obtain ⟨hexec, hl0, hbt, hml, hown, hts, hlocks, hnm, hA, hKK, hG⟩ := id hF
  obtain ⟨⟨hbl, hpre⟩, hAc, hPc⟩ := x_pre2 (As := .ref b :: As) hKK hG hP hD hS hA
  have hrec := va_recv hKK hPc hci hb
  rw [hrc] at hrec
  refine x_call (vx_runV ⟨hexec, hbt, hml, hown, hts⟩ (hsp l H.size hl0) ⟨x_callB hts hy hn hlk hR, hts _ hv.1, hts _ hv.2⟩ ⟨hbl, hrec, hpre⟩ rfl rfl hl.1 rfl (lv_room hcat) hd hroom) hS hAc (fun X M' ce q9 H1 locs1 ho hP1 hD1 hk hS1 hce hcv hcl => ?_) (fun v M' H1 locs1 ho hP1 hD1 hk hS1 => ?_)
  · obtain ⟨pre, h, suf, hsp2, hpr, hcov, h0, hlnk, hcst, k⟩ := kx X M' ho
    obtain ⟨hP2, hD2⟩ := x_join2 hP hD hk hAc hP1 hD1
    refine vx_catch hown (tableOf pre) ⟨h.1, h.2.1, h.2.2.1, h.2.2.2⟩ (tableOf suf) (by rw [hx, hsp2]; unfold tableOf; rw [List.map_append, List.map_cons]) (fun z hz => ?_) (by unfold covers; simp [hcov.1, hcov.2]) h0 (hts _ hlnk) (va_Nw.use (xOdd_tab _ hcst) (hG.1.1 _ hcst)) hce hcv hcl (k q9 p l e s m args below meth c A H1 locs1 ls hF hr hx hP2 hD2 hS1 hl hLn)
    unfold tableOf at hz
    obtain ⟨w, hw, rfl⟩ := List.mem_map.mp hz
    obtain ⟨g0, nm, g1, g2⟩ := hpr w hw
    exact Or.inr ⟨g0, nm, hts _ g1, hG.1.2 _ g2⟩
  · obtain ⟨hP2, hD2⟩ := x_join2 hP hD hk hAc hP1 hD1
    exact kk v M' ho p l e s m args below meth c A H1 locs1 ls hF hr hx hP2 hD2 hS1 hl hLn
end HELP
