theorem xthr_c3 : ∀ w ∈ Bundle.passSAtoms "java/util/NoSuchElementException" "java/lang/RuntimeException" 13 prog_45_method_4_code, xThrW w := List.forall_mem_cons.mpr ⟨fun _ => Or.inl (xm6 (n := 24) rfl rfl), List.forall_mem_cons.mpr ⟨fun _ => Or.inl (xm6 (n := 25) rfl rfl), List.forall_mem_cons.mpr ⟨fun _ => Or.inl (xm6 (n := 26) rfl rfl), List.forall_mem_cons.mpr ⟨fun _ => Or.inl (xm5 (n := 31) rfl rfl), List.forall_mem_cons.mpr ⟨fun _ => Or.inr (by decide +kernel), fun _ h => nomatch h⟩⟩⟩⟩⟩
theorem xthr_d3 : ∀ w ∈ ([.methodLink RX11 407 (Bundle.initS "java/util/NoSuchElementException"), .instantiable "java/util/NoSuchElementException" 6, .castable "java/util/NoSuchElementException" "java/util/NoSuchElementException", .selects "java/util/NoSuchElementException" Bundle.tFill0 Bundle.tFill0, .selects "java/util/NoSuchElementException" Bundle.tFill Bundle.tFill, .lays "java/util/NoSuchElementException" Bundle.tN "cause" "Ljava/lang/Throwable;", .lays "java/util/NoSuchElementException" Bundle.tN "stackTrace" "[Ljava/lang/StackTraceElement;", .lays "java/util/NoSuchElementException" Bundle.tN "suppressedExceptions" "Ljava/util/List;", .lays "java/util/NoSuchElementException" Bundle.tN "detailMessage" "Ljava/lang/String;", .isRef (.static Bundle.tN "UNASSIGNED_STACK" Bundle.steD), .isRef (.static Bundle.tN "SUPPRESSED_SENTINEL" Bundle.listD), .fieldLink Bundle.tN 198 Bundle.tN "backtrace" "Ljava/lang/Object;", .lays "java/lang/Throwable" Bundle.tN "backtrace" "Ljava/lang/Object;", .lays "java/util/NoSuchElementException" Bundle.tN "backtrace" "Ljava/lang/Object;"] : List Cond), xThrW w := List.forall_mem_cons.mpr ⟨fun _ => Or.inl (xm6 (n := 23) rfl rfl), List.forall_mem_cons.mpr ⟨fun _ => Or.inl (xm6 (n := 14) rfl rfl), List.forall_mem_cons.mpr ⟨fun _ => Or.inr (by decide +kernel), List.forall_mem_cons.mpr ⟨fun _ => Or.inl (xm6 (n := 16) rfl rfl), List.forall_mem_cons.mpr ⟨fun _ => Or.inl (xm5 (n := 19) rfl rfl), List.forall_mem_cons.mpr ⟨fun _ => Or.inl (xm6 (n := 17) rfl rfl), List.forall_mem_cons.mpr ⟨fun _ => Or.inl (xm6 (n := 18) rfl rfl), List.forall_mem_cons.mpr ⟨fun _ => Or.inl (xm6 (n := 19) rfl rfl), List.forall_mem_cons.mpr ⟨fun _ => Or.inl (xm6 (n := 20) rfl rfl), List.forall_mem_cons.mpr ⟨fun h => absurd h (by decide +kernel), List.forall_mem_cons.mpr ⟨fun h => absurd h (by decide +kernel), List.forall_mem_cons.mpr ⟨fun _ => Or.inl (xm5 (n := 5) rfl rfl), List.forall_mem_cons.mpr ⟨fun _ => Or.inl (xm5 (n := 4) rfl rfl), List.forall_mem_cons.mpr ⟨fun _ => Or.inl (xm6 (n := 21) rfl rfl), fun _ h => nomatch h⟩⟩⟩⟩⟩⟩⟩⟩⟩⟩⟩⟩⟩⟩
theorem xthr_l3 : Cond.classLink RX11 403 "java/util/NoSuchElementException" ∈ xAll ∧ Cond.initialized "java/util/NoSuchElementException" ∈ xAll ∧ Bundle.fit "java/util/NoSuchElementException" = true := ⟨xm6 (n := 13) rfl rfl, xm1 (n := 35) rfl rfl, by decide +kernel⟩
/-- what a throw of NoSuchElementException asks: its constructor's own bytes ahead of the chain -/
def xNat : List Cond := Bundle.throwableAtoms ++ Bundle.throwableSAtoms ++ (Bundle.passSAtoms "java/util/NoSuchElementException" "java/lang/RuntimeException" 13 prog_45_method_4_code ++ Bundle.chainSAtoms "java/lang/RuntimeException" ["java/lang/Exception"]) ++
  [.methodLink RX11 407 (Bundle.initS "java/util/NoSuchElementException"), .instantiable "java/util/NoSuchElementException" 6, .castable "java/util/NoSuchElementException" "java/util/NoSuchElementException", .selects "java/util/NoSuchElementException" Bundle.tFill0 Bundle.tFill0, .selects "java/util/NoSuchElementException" Bundle.tFill Bundle.tFill, .lays "java/util/NoSuchElementException" Bundle.tN "cause" "Ljava/lang/Throwable;", .lays "java/util/NoSuchElementException" Bundle.tN "stackTrace" "[Ljava/lang/StackTraceElement;", .lays "java/util/NoSuchElementException" Bundle.tN "suppressedExceptions" "Ljava/util/List;", .lays "java/util/NoSuchElementException" Bundle.tN "detailMessage" "Ljava/lang/String;", .isRef (.static Bundle.tN "UNASSIGNED_STACK" Bundle.steD), .isRef (.static Bundle.tN "SUPPRESSED_SENTINEL" Bundle.listD), .fieldLink Bundle.tN 198 Bundle.tN "backtrace" "Ljava/lang/Object;", .lays "java/lang/Throwable" Bundle.tN "backtrace" "Ljava/lang/Object;", .lays "java/util/NoSuchElementException" Bundle.tN "backtrace" "Ljava/lang/Object;"]
theorem xthr_3 : ∀ w ∈ xNat.filter vx_no, w ∈ xAll ∨ w ∈ xOdd := by
  have h : ∀ w ∈ xNat, xThrW w := List.forall_mem_append.mpr ⟨List.forall_mem_append.mpr ⟨List.forall_mem_append.mpr ⟨xthr_a1, xthr_a2⟩, List.forall_mem_append.mpr ⟨xthr_c3, List.forall_mem_append.mpr ⟨xthr_b1, xthr_b2⟩⟩⟩, xthr_d3⟩
  exact fun w hw => h w (List.mem_filter.mp hw).1 (List.mem_filter.mp hw).2
theorem xN_0 : decode prog_45_method_4_code 0 = .ok (.aload_n 0, 1) := by decide +kernel
theorem xN_1 : decode prog_45_method_4_code 1 = .ok (.aload_n 1, 1) := by decide +kernel
theorem xN_2 : decode prog_45_method_4_code 2 = .ok (.invokespecial 13, 3) := by decide +kernel
theorem xN_5 : decode prog_45_method_4_code 5 = .ok (.return_, 1) := by decide +kernel
section XNSE
variable {p : Program} {l : Launch} {e : Env} {R : Room} {s : State} {m : MethodId} {args : Array Value} {below : List Frame} {meth : Method} {c : Code} {W T : State} {locs : List Loc} {cells slots : Nat} {H : Heap} {ls : Array Slot} {rest : List Value}
set_option maxHeartbeats 1000000 in
theorem xN_made (X : Stand p l e R s m args below meth c W locs cells slots) (hexec : p.tables.exec = Jvm.exec) (htr : e.platform.stackTraces = false)
    (hown : s.vm.findClass RX11 = some m.cls) (h : ∀ a ∈ xNat, a.before args s = true)
    (hlocs : ∀ x ∈ locs, ∀ cell, s.heap[x.base]? = some cell → cell.vm.isStatics = false)
    {a : Addr} {cX : ClassId} {kX : Class} (hfoundX : s.vm.findClass "java/util/NoSuchElementException" = some cX) (hkX : s.vm.classes[cX]? = some kX) (hcell : W.heap[a]? = some (freshCell cX kX)) (hnew : s.heap.size ≤ a)
    {msg : Value} (hmsg : msg.isRef = true)
    {g : JFrame} (hg : g.method = m) (hsize : g.locals.size = c.maxLocals) {rest : List Value} (hstack : g.stack = msg :: .ref a :: .ref a :: rest)
    (hd6 : decode c.code g.pc = .ok (.invokespecial 407, 3))
    (hRframes : 5 < R.frames) (hRlocals : 2 * g.monitorRoom + ((Value.ref a :: rest).map fun v => v.category).sum + 81 ≤ R.locals) :
    ∃ (V : State) (ce : Cell) (L : List Loc), Stand p l e R s m args below meth c (V.setCell a ce) (locs ++ L) cells slots ∧ (∀ y ∈ L, y.base = a) ∧ a < V.heap.size ∧ ce.cls = cX ∧ ce.vm = .none ∧
      ∀ target, Steps p.tables e below ((V.setCell a ce).setTop { g with stack := .ref a :: rest, pc := g.pc + 3 }) target → Steps p.tables e below (W.setTop g) target := by
  have howns : e.platform.frameOwnsMonitors = true := by rw [X.admits.platform]
  have hfin : e.platform.finalization = false := by rw [X.admits.platform]
  have hpl : e.platform.magicAccessors = ({} : Platform).magicAccessors := by rw [X.admits.platform]
  have a' : ∀ x, x ∈ xNat → x.holds args s none s [] = true := fun x hx => h x hx
  have hfit : Bundle.fit "java/util/NoSuchElementException" = true := xthr_l3.2.2
  have hfitR : Bundle.fit "java/lang/RuntimeException" = true := xNms_fit _ List.mem_cons_self
  obtain ⟨T, Z0, L, -, Y⟩ := ThrowableC.of_atoms (args := args) howns hfin hpl (fun x hx => h x (by simp [xNat, hx]))
  obtain ⟨Z, M, LZ, LM, hnZ⟩ := Init0T.ofS_atoms (args := args) hpl L Y (fun x hx => h x (by simp [xNat, hx]))
  obtain ⟨P1, L1, hP1m, hsP⟩ := PassC.ofS_atoms (args := args) (s := s) hpl (X := "java/util/NoSuchElementException") (Y := "java/lang/RuntimeException") (Bundle.fit_spec hfit).1 (Bundle.fit_spec hfitR).2 xN_0 xN_1 xN_2 xN_5 (fun x hx => h x (by simp [xNat, hx]))
  obtain ⟨P2, Ps', hlen', L2, hL', hP2m, hlink2, hlink'⟩ := Bundle.chainS (args := args) hpl hnZ ["java/lang/Exception"] "java/lang/RuntimeException" hfitR (fun n hn => xNms_fit n (List.mem_cons_of_mem _ hn)) (fun x hx => h x (by simp [xNat, hx]))
  obtain ⟨Ps, hPs⟩ : ∃ z, z = P2 :: Ps' := ⟨_, rfl⟩
  have hlen : Ps.length = 2 := by rw [hPs]; simp [hlen']
  have hL : ∀ P, P ∈ Ps → P.LinksS e.platform s := by
    intro P hP
    rw [hPs] at hP
    rcases List.mem_cons.mp hP with rfl | hP
    · exact L2
    · exact hL' P hP
  have hlink1 : P1.sup = firstOf (Z.m T.toThrowableT) (Ps.map (·.toPassT)) := by rw [hPs]; exact Option.some.inj (hsP.symm.trans hP2m)
  have hlink : PassesOn (Z.m T.toThrowableT) (Ps.map (·.toPassT)) := by rw [hPs]; exact ⟨hlink2, hlink'⟩
  have hfound : s.vm.findClass "java/util/NoSuchElementException" = some P1.m.cls := findClass_of_methodNamed hP1m
  cases Option.some.inj (hfoundX.symm.trans hfound)
  obtain ⟨c1, kX', hc1, hk, hord, -, -, hn6⟩ := Cond.instantiable_spec (a' (.instantiable "java/util/NoSuchElementException" 6) (by simp [xNat]))
  cases Option.some.inj (hc1.symm.trans hfound)
  cases Option.some.inj (hkX.symm.trans hk)
  have hsel0 : selectMethod e.platform s.vm P1.m.cls T.fill0 = .method T.fill0 := by
    obtain ⟨c2, r2, m2, q1, q2, q3, q4, -⟩ := Cond.selects_spec (a' (.selects "java/util/NoSuchElementException" Bundle.tFill0 Bundle.tFill0) (by simp [xNat]))
    cases Option.some.inj (q1.symm.trans hfound)
    cases Option.some.inj (q2.symm.trans (State.methodFound?_of_named Y.fill0 (by decide)))
    cases Option.some.inj (q3.symm.trans Y.fill0)
    rw [Launch.admits_selectMethod X.admits]; exact q4
  have hselF : selectMethod e.platform s.vm P1.m.cls T.fill = .method T.fill := by
    obtain ⟨c2, r2, m2, q1, q2, q3, q4, -⟩ := Cond.selects_spec (a' (.selects "java/util/NoSuchElementException" Bundle.tFill Bundle.tFill) (by simp [xNat]))
    cases Option.some.inj (q1.symm.trans hfound)
    cases Option.some.inj (q2.symm.trans (State.methodFound?_of_named Y.fill (by decide)))
    cases Option.some.inj (q3.symm.trans Y.fill)
    rw [Launch.admits_selectMethod X.admits]; exact q4
  obtain ⟨cellS0, hcS0, hiss⟩ := Y.statics
  obtain ⟨u0, hu0⟩ := Cond.staticRefV Y.unassigned L.unassignedStatic L.statics hcS0 hiss (a' (.isRef (.static Bundle.tN "UNASSIGNED_STACK" Bundle.steD)) (by simp [xNat]))
  obtain ⟨sen, hsen⟩ := Cond.staticRefV Y.sentinel L.sentinelStatic L.statics hcS0 hiss (a' (.isRef (.static Bundle.tN "SUPPRESSED_SENTINEL" Bundle.listD)) (by simp [xNat]))
  obtain ⟨ci198, i198, fB, hk198, hg198, ha198, hsB, -, hnB, htB, hffB⟩ := Cond.ownField (t := .object "java/lang/Object") Y.found L.cls (by decide +kernel) (a' (.fieldLink Bundle.tN 198 Bundle.tN "backtrace" "Ljava/lang/Object;") (by simp [xNat])) (a' (.lays Bundle.tN Bundle.tN "backtrace" "Ljava/lang/Object;") (by simp [xNat, Bundle.tN])) e.platform hpl
  obtain ⟨cellS, hcS', heS, -, hkeep⟩ := X.same.2.2.2.2.2 T.aS cellS0 hcS0
  have hcellS : W.heap[T.aS]? = some cellS := hcS'
  have hout' : ∀ i, (⟨T.aS, i⟩ : Loc) ∉ locs := fun i hmem => by
    have := hlocs _ hmem cellS0 hcS0
    rw [hiss] at this; cases this
  have hknownS : cellS.vm ≠ .unknown := by
    rw [heS]; intro hu
    rw [show cellS0.vm = .unknown from hu] at hiss
    cases hiss
  have hneS : T.aS ≠ a := Nat.ne_of_lt (Nat.lt_of_lt_of_le (Array.getElem?_eq_some_iff.mp hcS0).1 hnew)
  obtain ⟨iM, hffM⟩ := Y.msg
  obtain ⟨tyC, dC, hdC, hdnC⟩ := Cond.laysAt hfound hk Y.cause (a' (.lays "java/util/NoSuchElementException" Bundle.tN "cause" "Ljava/lang/Throwable;") (by simp [xNat]))
  obtain ⟨tyS, dS, hdS, hdnS⟩ := Cond.laysAt hfound hk Y.stack (a' (.lays "java/util/NoSuchElementException" Bundle.tN "stackTrace" Bundle.steD) (by simp [xNat, Bundle.steD]))
  obtain ⟨tyP, dP, hdP, hdnP⟩ := Cond.laysAt hfound hk Y.supp (a' (.lays "java/util/NoSuchElementException" Bundle.tN "suppressedExceptions" Bundle.listD) (by simp [xNat, Bundle.listD]))
  obtain ⟨tyM, dM, hdM, hdnM⟩ := Cond.laysAt hfound hk hffM (a' (.lays "java/util/NoSuchElementException" Bundle.tN "detailMessage" "Ljava/lang/String;") (by simp [xNat]))
  obtain ⟨tyB, dB, hdB, hdnB⟩ := Cond.laysAt hfound hk hffB (a' (.lays "java/util/NoSuchElementException" Bundle.tN "backtrace" "Ljava/lang/Object;") (by simp [xNat]))
  have bC := Cond.laysApart hdB hdC hdnB hdnC (by rw [hnB, Y.causeName]; decide)
  have bS := Cond.laysApart hdB hdS hdnB hdnS (by rw [hnB, Y.stackName]; decide)
  have bP := Cond.laysApart hdB hdP hdnB hdnP (by rw [hnB, Y.suppName]; decide)
  have hskip : SkipFacts T e.platform s (fun u => u) u0 ((preparedCellV T.toThrowableT (freshCell P1.m.cls kX) a u0 sen).withEntry W.cur) :=
    ⟨{ ci198 := ci198, i198 := i198, fBack := fB }, ⟨hk198, hg198, ha198, hsB⟩, by
      have := fresh_default (c := P1.m.cls) tyB
      rw [htB] at this
      simpa [preparedCellV, Cell.setSlot, Cell.withEntry, Array.getElem?_setIfInBounds, bC, bS, bP, bC.symm, bS.symm, bP.symm, defaultValue] using this, fun _ _ => rfl⟩
  obtain ⟨tm, methC, cdC, kC, vm₁, hnC, -, -, -, -, -, -, -, hW₁, st1⟩ := Steps.initColdS (tb := p.tables) (e := e) (below := below) (s := s) (U := W) X.here hexec X.warmed hpl hown (t := Bundle.initS "java/util/NoSuchElementException") rfl rfl (Bundle.fit_spec hfit).2
    (a' (.methodLink RX11 407 (Bundle.initS "java/util/NoSuchElementException")) (by simp [xNat])) (h (.instanceMethod (Bundle.initS "java/util/NoSuchElementException")) (by simp [xNat, Bundle.passSAtoms])) (bytes := prog_45_method_4_code) (maxL := 2) (h (.code (Bundle.initS "java/util/NoSuchElementException") prog_45_method_4_code 2 none) (by simp [xNat, Bundle.passSAtoms]))
    (f := g) hg (a := a) (msg := msg) (rest := .ref a :: rest) hstack hd6
  cases Option.some.inj (hnC.symm.trans hP1m)
  have X₁ := X.noted hW₁
  obtain ⟨vm₂, X₂, st2⟩ := X₁.ctorMessageOffV hexec (g := { g with stack := .ref a :: rest }) hg hsize T L Z LZ M LM (P1 :: Ps)
    (fun P hP => by rcases List.mem_cons.mp hP with rfl | hP; exact L1; exact hL P hP) ⟨hlink1, hlink⟩ (u0 := u0) (sen := sen) (self := a) hmsg (cell := freshCell P1.m.cls kX) (cellS := cellS)
    hcell (fun _ => by simp) (by simp) rfl rfl hsel0 hselF hcellS hneS hknownS (by rw [hkeep _ (hout' _)]; exact hu0) (by rw [hkeep _ (hout' _)]; exact hsen)
    (Takes.of_laid hk hord tyC (by rw [Y.causeType]; rfl)) (Takes.of_laid hk hord tyS (by rw [Y.stackType]; exact fits_refV_array _ u0)) (Takes.of_laid hk hord tyP (by rw [Y.suppType]; exact fits_refV_object _ sen))
    (Takes.of_laid hk hord tyM (by rw [Y.msgType]; exact fits_refV_object _ ⟨msg, hmsg⟩)) Y.objLocals hskip htr [] hd6
    (by simp only [List.length_cons, hlen]; omega) (by simp only [List.length_cons, hlen]; exact hRlocals)
  have hlt : a < ((W.setVm vm₁).setVm vm₂).heap.size := (Array.getElem?_eq_some_iff.mp hcell).1
  refine ⟨(W.setVm vm₁).setVm vm₂, _, _, X₂, fun y hy => ?_, hlt, rfl, rfl, fun target hwalk => st1 _ (fun acts => ?_)⟩
  · simp only [List.mem_cons, List.not_mem_nil, or_false] at hy
    rcases hy with rfl | rfl | rfl | rfl | rfl <;> rfl
  · rw [doInvoke_state]
    exact st2 _ hwalk
set_option maxHeartbeats 1000000 in
theorem Bd.throwN {E : xE} {y : xM} {R : Room} {mc ms : Nat} {O : xO → Prop} {pc : Nat} {L : xL} {st : List Value} {M : va_W} {ck sk : Nat} {text : String} {is k : Nat} (hy : y.2.2.2.2 = 11) (hstr : (11, is, text, k) ∈ xStr)
    (d0 : decode y.2.1 pc = .ok (.new 403, 3)) (d3 : decode y.2.1 (pc + 3) = .ok (.dup, 1)) (hrest : (decode y.2.1 (pc + 4) = .ok (.ldc is, 2) ∧ decode y.2.1 (pc + 6) = .ok (.invokespecial 407, 3) ∧ decode y.2.1 (pc + 9) = .ok (.athrow, 1)) ∨ (decode y.2.1 (pc + 4) = .ok (.ldc_w is, 3) ∧ decode y.2.1 (pc + 7) = .ok (.invokespecial 407, 3) ∧ decode y.2.1 (pc + 10) = .ok (.athrow, 1)))
    (hR : 5 < R.frames ∧ (st.map fun v => v.category).sum + 82 ≤ R.locals ∧ ck + 1 ≤ R.cells ∧ sk + 6 ≤ R.slots) (ho : O (.inr ("java/util/NoSuchElementException", M))) (hmc : ck + 1 ≤ mc) (hms : sk + 6 ≤ ms) : BdP E y R mc ms O pc L st M ck sk := by
  intro p l e s m args below meth c A H locs ls hF hr hx hP hD hS hl hLn
  obtain ⟨hexec, hl0, hbt, hml, hown, hts, hlocks, hnm, hA, hKK, hG⟩ := id hF
  rw [hy] at hown
  have hat : ∀ w ∈ xNat.filter vx_no, w.before args s = true := fun w hw => (xthr_3 w hw).elim (hts w) (fun h => va_Nw.use (xOdd_tab w h) (hG.1.1 w h))
  have hX : ∀ t : State, s.vm.Alike t.vm → H.size ≤ t.heap.size → (∀ q : Nat, q < H.size → t.heap[q]? = H[q]?) → xXC E O A "java/util/NoSuchElementException" s t := fun t _ h1 h2 =>
    ⟨M, ho, hP.kept (fun k q hq => h2 q.1 (hP k q hq).lt), hD, Nat.le_trans hS.1 h1, fun q g1 g2 => (h2 q (Nat.lt_of_lt_of_le g1 hS.1)).trans (hS.2.1 q g1 g2)⟩
  have hstr1 : vk_R RX11 is text (E.2.2.1 k) s := hG.2.2.2.2.2.1 (11, is, text, k) hstr
  have hsize : ls.size = c.maxLocals := by rw [hml]; exact hl.1
  intro T hT X
  have htr : e.platform.stackTraces = false := (show e.platform.stackTraces = l.stackTraces by rw [X.admits.platform]).trans hl0
  have Y := vx_rebase X (R' := { frames := R.frames, locals := R.locals, cells := 1, slots := 6 }) (Nat.le_refl _) (Nat.le_refl _) hR.2.2.1 hR.2.2.2
  obtain ⟨s', hA'⟩ : ∃ z, z = (T.setVm s.vm).setFrames (.invoking m args :: below) := ⟨_, rfl⟩
  rw [← hA'] at Y
  have hvm : s'.vm = s.vm := by rw [hA']; rfl
  have hhp : s'.heap = H := by rw [hA']; exact hT
  have hW0 : s.WarmedH s'.vm := by rw [hvm]; exact State.WarmedH.refl s
  have hat' : ∀ w ∈ xNat.filter vx_no, w.before args s' = true := fun w hw => vx_ot_at hW0 hvm.symm (x_ot (xthr_3 w hw)) (hat w hw)
  have hk' : (Cond.classLink RX11 403 "java/util/NoSuchElementException").before args s' = true := vx_ot_at hW0 hvm.symm (x_ot (Or.inl xthr_l3.1)) (hts _ xthr_l3.1)
  have hini' : (Cond.initialized "java/util/NoSuchElementException").before args s' = true := vx_ot_at hW0 hvm.symm (x_ot (Or.inl xthr_l3.2.1)) (hts _ xthr_l3.2.1)
  have hU' : vx_Zq Bundle.tN "UNASSIGNED_STACK" Bundle.steD A s' s'.heap := by rw [hhp]; exact vx_Zq.moved hW0.alike (hG.2.2.1.kept hS.2.1)
  have hN' : vx_Zq Bundle.tN "SUPPRESSED_SENTINEL" Bundle.listD A s' s'.heap := by rw [hhp]; exact vx_Zq.moved hW0.alike (hG.2.2.2.1.kept hS.2.1)
  have h : ∀ w ∈ xNat, w.before args s' = true := vx_own hat' (vx_isRefq hU'.1) (vx_isRefq hN'.1) hU'.2.word hN'.2.word
  have hown' : s'.vm.findClass RX11 = some m.cls := by rw [hvm]; exact hown
  have hins : (Cond.instantiable "java/util/NoSuchElementException" 6).before args s' = true := h _ (by simp [xNat])
  obtain ⟨vm₁, cX, kX, hfX, hkX, -, -, X₁, st1⟩ := Y.newCold hexec (own := RX11) (C := "java/util/NoSuchElementException") (index := 403) (n := 6) hown' hk' hins hini'
    (g := F0 m pc ls st) rfl (by rw [hbt]; exact d0) (Nat.le_refl _) (Nat.le_refl _)
  generalize hT1 : (T.setVm vm₁).pushCell { cls := cX, slots := kX.instanceTypes.map defaultValue, vm := .none } = T1 at X₁ st1
  have hcat : (Value.ref T.heap.size).category = 1 := rfl
  have hcellA : T1.heap[T.heap.size]? = some (freshCell cX kX) := by rw [← hT1]; exact State.heap_pushCell_size _ _
  have d3' : decode c.code (pc + 3) = .ok (.dup, 1) := by rw [hbt]; exact d3
  have hstr' : vk_R RX11 is text (E.2.2.1 k) s' := vk_R.warm hW0 hstr1
  have hnew9 : s'.heap.size ≤ T.heap.size := by rw [hhp, hT]; exact Nat.le_refl _
  have fin : ∀ (n : Nat), decode c.code n = .ok (.invokespecial 407, 3) → decode c.code (n + 3) = .ok (.athrow, 1) →
      ∃ t, Steps p.tables e below (T1.setTop { method := m, pc := n, locals := ls, stack := .ref (E.2.2.1 k) :: .ref T.heap.size :: .ref T.heap.size :: st, locked := none }) t ∧ vx_MQ below (xQc E O A) (xXC E O A) args s mc ms A t := by
    intro n d6 d9
    obtain ⟨V, ce, L9, Z, hL9, hlt, hcl9, hvm9, stz⟩ := xN_made X₁ hexec htr hown' h (fun x hx => nomatch hx) hfX hkX hcellA hnew9 (msg := .ref (E.2.2.1 k)) rfl
      (g := { method := m, pc := n, locals := ls, stack := .ref (E.2.2.1 k) :: .ref T.heap.size :: .ref T.heap.size :: st, locked := none }) rfl hsize (rest := st) rfl d6 hR.1 (by have := hR.2.1; simp only [List.map_cons, List.sum_cons, hcat]; show 2 * 0 + _ + 81 ≤ R.locals; omega)
    have Z0 := Stand.forget (locs := []) Z (fun y hy => by rw [hL9 y hy]; exact hnew9)
    obtain ⟨hwalk, hrun, hended, hWU, hsame⟩ := Z0.athrowLeaves hexec (g := { method := m, pc := n + 3, locals := ls, stack := .ref T.heap.size :: st, locked := none }) rfl rfl rfl (fun x h => (hx x h).elim) (a := T.heap.size) (rest := st) rfl d9 hlocks
    obtain ⟨f1, f2⟩ := vx_frame hsame
    rw [hhp] at f1 f2
    have hWs : s.WarmedH ((V.setCell T.heap.size ce).setFrames (.throwing T.heap.size :: below)).vm := State.WarmedH.trans hW0 hWU
    have hce : ((V.setCell T.heap.size ce).setFrames (.throwing T.heap.size :: below)).heap[T.heap.size]? = some ce := heapAt_setCell_self (s := V) ce hlt
    have hcl : s.vm.findClass "java/util/NoSuchElementException" = some ce.cls := by
      rw [hvm] at hfX
      rw [hcl9]
      exact hfX
    have hall : s.sameButNew ({ ((V.setCell T.heap.size ce).setFrames (.throwing T.heap.size :: below)) with vm := s.vm } : State) locs mc ms := by
      subst hA'
      obtain ⟨e1, e2⟩ := hsame
      rw [State.setFrames_setFrames] at e1
      have h2 : (T.setVm s.vm).sameButNew ({ ((V.setCell T.heap.size ce).setFrames (.throwing T.heap.size :: below)) with vm := s.vm } : State) [] (0 + 1) (0 + 6) := ⟨e1, e2⟩
      have h3 := X.same.trans h2
      rw [List.append_nil] at h3
      exact h3.mono hmc hms
    exact ⟨_, stz _ hwalk, .threw T.heap.size, hrun, hended, Or.inr ⟨T.heap.size, rfl, "java/util/NoSuchElementException", ce, locs, hX _ hWs.alike f1 (fun q hq => f2 q hq (fun z hz => nomatch hz)), hce, hvm9, hcl, hWs, hall, hS.2.2⟩⟩
  rcases hrest with ⟨d4, d6, d9⟩ | ⟨d4, d6, d9⟩
  · obtain ⟨t, a1, b1⟩ := fin (pc + 6) (by rw [hbt]; exact d6) (by rw [hbt]; exact d9)
    refine ⟨t, st1 _ ?_, b1⟩
    show Steps p.tables e below (T1.setTop { method := m, pc := pc + 3, locals := ls, stack := .ref T.heap.size :: st, locked := none }) _
    jvm_step X₁.here [X₁.here.top, hexec, d3', Value.category]
    exact X₁.ldcString hexec (own := RX11) (text := text) (index := is) (a := E.2.2.1 k) hown' hstr'.1 hstr'.2
      (g := { method := m, pc := pc + 4, locals := ls, stack := .ref T.heap.size :: .ref T.heap.size :: st, locked := none }) rfl (by rw [hbt]; exact d4) _ a1
  · obtain ⟨t, a1, b1⟩ := fin (pc + 7) (by rw [hbt]; exact d6) (by rw [hbt]; exact d9)
    refine ⟨t, st1 _ ?_, b1⟩
    show Steps p.tables e below (T1.setTop { method := m, pc := pc + 3, locals := ls, stack := .ref T.heap.size :: st, locked := none }) _
    jvm_step X₁.here [X₁.here.top, hexec, d3', Value.category]
    exact X₁.ldcStringW hexec (own := RX11) (text := text) (index := is) (a := E.2.2.1 k) hown' hstr'.1 hstr'.2
      (g := { method := m, pc := pc + 4, locals := ls, stack := .ref T.heap.size :: .ref T.heap.size :: st, locked := none }) rfl (by rw [hbt]; exact d4) _ a1
end XNSE

