theorem xG.narrow {E : xE} {A B : Nat → Prop} {U : State} {H : Heap} (h : xG E A U H) (hAB : ∀ q, B q → A q) : xG E B U H :=
  ⟨h.1, h.2.1, h.2.2.1.narrow hAB, h.2.2.2.1.narrow hAB, h.2.2.2.2.1.narrow hAB, h.2.2.2.2.2⟩
theorem xG.kept {E : xE} {A : Nat → Prop} {U : State} {H H1 : Heap} (h : xG E A U H) (hq : ∀ a : Nat, a < H.size → ¬ A a → H1[a]? = H[a]?) : xG E A U H1 :=
  ⟨h.1, h.2.1, h.2.2.1.kept hq, h.2.2.2.1.kept hq, h.2.2.2.2.1.kept hq, h.2.2.2.2.2⟩
theorem xG.warm {E : xE} {A : Nat → Prop} {s U : State} {H : Heap} (h : xG E A s H) (hW : s.WarmedH U.vm) : xG E A U H :=
  ⟨⟨fun w hw => xOdd_warm w hw s U hW (h.1.1 w hw), fun q hq => (h.1.2 q hq).moved hW.alike⟩, h.2.1.moved hW.alike, h.2.2.1.moved hW.alike, h.2.2.2.1.moved hW.alike, h.2.2.2.2.1.moved hW.alike, fun q hq => (h.2.2.2.2.2 q hq).warm hW⟩
theorem xG.same {E : xE} {A : Nat → Prop} {s U : State} {H : Heap} (h : xG E A s H) (hv : U.vm = s.vm) : xG E A U H := by
  have hal : s.vm.Alike U.vm := by rw [hv]; exact Vm.Alike.refl _
  refine ⟨⟨fun w hw => va_Nw.same ?_ hv.symm (h.1.1 w hw), fun q hq => (h.1.2 q hq).moved hal⟩, h.2.1.moved hal, h.2.2.1.moved hal, h.2.2.2.1.moved hal, h.2.2.2.2.1.moved hal, fun q hq => vk_R.same hv (h.2.2.2.2.2 q hq)⟩
  revert w
  exact xOdd_tab
/-! what a method's end says -/
def xQc (E : xE) (o : xO) (A : Nat → Prop) : Array Value → State → Outcome → State → Prop := fun _ st oc t =>
  ∃ (v : Option Value) (M' : va_W), o = .inl (v, M') ∧ oc = .returned v ∧ va_P E.1 vwCl M' t.heap ∧ va_D A M' ∧ va_F A st t
def xXC (E : xE) (o : xO) (A : Nat → Prop) : String → State → State → Prop := fun X st t =>
  ∃ (M' : va_W), o = .inr (X, M') ∧ va_P E.1 vwCl M' t.heap ∧ va_D A M' ∧ va_F A st t
/-- from here the method comes to the end o -/
def Bd (E : xE) (y : xM) (R : Room) (mc ms : Nat) (o : xO) : xK := fun pc L st M ck sk =>
  ∀ (p : Program) (l : Launch) (e : Env) (s : State) (m : MethodId) (args : Array Value) (below : List Frame) (meth : Method) (c : Code) (A : Nat → Prop) (H : Heap) (locs : List Loc) (ls : Array Slot),
    xFix E y p l s m args meth c A → meth.sig.returnType = y.2.2.2.1 → (∀ x ∈ c.exceptionTable.toList, False) → va_P E.1 vwCl M H → va_D A M → va_S A s.heap H locs → lv_has ls y.2.2.1 (xEn 0 L) → L.length = y.2.2.1 →
    W p l e R s m args below meth c H locs ck sk (vx_MQ below (xQc E o A) (xXC E o A) args s mc ms A) (F0 m pc ls st)
abbrev xRm (fr lo mc ms : Nat) : Room := { frames := fr, cells := mc, slots := ms, locals := lo }
def xWs (y : xM) : List Cond := Cond.code y.1 y.2.1 y.2.2.1 y.2.2.2.1 :: xAll
/-- the method's contract: over this world, with these arguments, it comes to this end -/
def Sp (E : xE) (y : xM) (R : Room) (As : List Value) (M : va_W) (o : xO) : Prop :=
  ∀ (l : Launch) (sz : Nat), l.stackTraces = false → vx_Met l y.1 (xWs y) R (va_Pc As (fun U => U.heap.size = sz ∧ va_P E.1 vwCl M U.heap ∧ va_K E.1 vwCl (xTy E) U ∧ va_D (fun _ => True) M ∧ xG E (va_A M sz) U U.heap)) (xQc E o (va_A M sz)) (xXC E o (va_A M sz)) R.cells R.slots (va_A M sz)
theorem Sp.of {E : xE} {y : xM} {R : Room} {As : List Value} {M : va_W} {o : xO} (hy : xMok y) {L : xL} (hL : xEn 0 L = lv_args 0 As) (hn : L.length = y.2.2.1) (hn2 : (lg_sl As).length ≤ y.2.2.1)
    (h : Bd E y R R.cells R.slots o 0 L [] M 0 0) : Sp E y R As M o := by
  intro l sz hst
  refine vx_ofW (cc := y.2.1) (maxL := y.2.2.1) (ret := y.2.2.2.1) hy.2.2.2.1 rfl ?_
  intro p e s m args below meth c s₁ B hml hnoex hv
  obtain ⟨rfl, hsz, hP, hK, hD0, hG⟩ := hv
  subst hsz
  have hts : ∀ w ∈ xWs y, w.before As.toArray s = true := atoms_spec (ws := xWs y) B.pre
  have hD : va_D (va_A M s.heap.size) M := hD0.self (sz := s.heap.size)
  have hl := lv_entry As (n := y.2.2.1) hn2
  rw [lg_entry_eq]
  rw [← hL] at hl
  have hown : s.vm.findClass y.1.cls = some m.cls := findClass_of_methodNamed B.named
  rw [hy.2.2.1] at hown
  exact h p l e s m _ below meth c _ s.heap [] _ ⟨B.exec, hst, B.bytes, hml, hown, fun w hw => hts w (List.mem_cons_of_mem _ hw), B.notSynchronized, (name_of_methodNamed B.named B.method).1, fun q hq => Or.inr hq, hK, hG⟩ B.returns hnoex hP hD va_S.rf hl hn
theorem Bd.seg {E : xE} {y : xM} {R : Room} {mc ms : Nat} {o : xO} {B : List (Nat × List xI)} (hB : ∀ q ∈ B, xChks y q.1 q.2 = true) (n : Nat) (hs : List Nat) {pc : Nat} {is : List xI} (hn : B[n]? = some (pc, is)) {L : xL} {st : List Value} {M : va_W} {ck sk : Nat}
    (h : xrun R E (Bd E y R mc ms o) (fun v M ck sk => (o = .inl (v, M) ∧ ck ≤ mc ∧ sk ≤ ms) ∧ xRet y.2.2.2.1 v) is hs pc L st M ck sk) : Bd E y R mc ms o pc L st M ck sk := by
  intro p l e s m args below meth c A H locs ls hF hr hx hP hD hS hl hLn
  refine xrun_W hF (fun pc L st M ck sk H locs ls hk hP hD hS hl hLn => hk p l e s m args below meth c A H locs ls hF hr hx hP hD hS hl hLn) (fun pc v M ck sk H locs ls hk hd hP hD hS => ?_) is hs pc L st M ck sk H locs ls (hB _ (List.mem_of_getElem? hn)) h hP hD hS hl hLn
  obtain ⟨⟨ho, h1, h2⟩, hrt⟩ := hk
  obtain ⟨hexec, hl0, hb, hml, hown, hts, hlocks, hnm, hA, hKK, hG⟩ := hF
  refine W.widen h1 h2 (vx_ret ?_)
  have hq : ∀ t : State, t.heap = H → s.WarmedH t.vm → xQc E o A args s (.returned v) t := fun t ht hW => ⟨v, M, ho, rfl, by rw [ht]; exact hP, hD, hS.F ht⟩
  have hf : ∀ q ∈ locs, A q.base := hS.2.2
  cases v with
  | none =>
    have hr0 : y.2.2.2.1 = none := by
      cases hz : y.2.2.2.1 with
      | none => rfl
      | some t => rw [hz] at hrt; cases t <;> exact hrt.elim
    exact W.vret hexec hb (by rw [hr, hr0]) hq hf hd
  | some v =>
    cases hz : y.2.2.2.1 with
    | none => rw [hz] at hrt; exact hrt.elim
    | some t =>
      rw [hz] at hrt hr
      cases v with
      | int x =>
        have hnw : narrow t (.int x) = .int x := by cases t <;> first | rfl | exact congrArg Value.int hrt | exact hrt.elim
        exact W.zret hexec hb hr hnw hq hf hd
      | long x => cases t <;> first | exact hrt.elim | exact W.lret hexec hb hr hq hf hd
      | float x => cases t <;> first | exact hrt.elim | exact W.fret hexec hb hr hq hf hd
      | double x => cases t <;> first | exact hrt.elim | exact W.dret hexec hb hr hq hf hd
      | null => cases t <;> first | exact hrt.elim | exact W.aret hexec hb hr (Or.inl ⟨_, rfl⟩) (Or.inl rfl) hq hf hd
      | ref a => cases t <;> first | exact hrt.elim | exact W.aret hexec hb hr (Or.inl ⟨_, rfl⟩) (Or.inr ⟨_, rfl⟩) hq hf hd
      | retAddr q => cases t <;> exact hrt.elim
