theorem xG.narrow {E : xE} {A B : Nat → Prop} {U : State} {H : Heap} (h : xG E A U H) (hAB : ∀ q, B q → A q) : xG E B U H :=
  ⟨h.1, h.2.1, h.2.2.1.narrow hAB, h.2.2.2.1.narrow hAB, ⟨h.2.2.2.2.1.1.narrow hAB, h.2.2.2.2.1.2.1.narrow hAB, h.2.2.2.2.1.2.2.narrow hAB⟩, h.2.2.2.2.2.1, h.2.2.2.2.2.2.narrow hAB⟩
theorem xG.kept {E : xE} {A : Nat → Prop} {U : State} {H H1 : Heap} (h : xG E A U H) (hq : ∀ a : Nat, a < H.size → ¬ A a → H1[a]? = H[a]?) : xG E A U H1 :=
  ⟨h.1, h.2.1, h.2.2.1.kept hq, h.2.2.2.1.kept hq, ⟨h.2.2.2.2.1.1.kept hq, h.2.2.2.2.1.2.1.kept hq, h.2.2.2.2.1.2.2.kept hq⟩, h.2.2.2.2.2.1, h.2.2.2.2.2.2.kept hq⟩
theorem xG.narrow' {E : xE} {A B : Nat → Prop} {U : State} {H0 H : Heap} (h : xG E A U H) (_ : H0.size ≤ H.size) (hAB : ∀ q, B q → A q) : xG E B U H := h.narrow hAB
theorem xG.warm {E : xE} {A : Nat → Prop} {s U : State} {H : Heap} (h : xG E A s H) (hW : s.WarmedH U.vm) : xG E A U H :=
  ⟨⟨fun w hw => xOdd_warm w hw s U hW (h.1.1 w hw), fun q hq => (h.1.2 q hq).moved hW.alike⟩, h.2.1.moved hW.alike, h.2.2.1.moved hW.alike, h.2.2.2.1.moved hW.alike, ⟨h.2.2.2.2.1.1.moved hW.alike, h.2.2.2.2.1.2.1.moved hW.alike, h.2.2.2.2.1.2.2.moved hW.alike⟩, fun q hq => (h.2.2.2.2.2.1 q hq).warm hW, h.2.2.2.2.2.2.moved hW.alike⟩
theorem xG.same {E : xE} {A : Nat → Prop} {s U : State} {H : Heap} (h : xG E A s H) (hv : U.vm = s.vm) : xG E A U H := by
  have hal : s.vm.Alike U.vm := by rw [hv]; exact Vm.Alike.refl _
  refine ⟨⟨fun w hw => va_Nw.same ?_ hv.symm (h.1.1 w hw), fun q hq => (h.1.2 q hq).moved hal⟩, h.2.1.moved hal, h.2.2.1.moved hal, h.2.2.2.1.moved hal, ⟨h.2.2.2.2.1.1.moved hal, h.2.2.2.2.1.2.1.moved hal, h.2.2.2.2.1.2.2.moved hal⟩, fun q hq => vk_R.same hv (h.2.2.2.2.2.1 q hq), h.2.2.2.2.2.2.moved hal⟩
  revert w
  exact xOdd_tab
/-! what a method's end says -/
def xQc (E : xE) (O : xO → Prop) (A : Nat → Prop) : Array Value → State → Outcome → State → Prop := fun _ st oc t =>
  ∃ (v : Option Value) (M' : va_W), O (.inl (v, M')) ∧ oc = .returned v ∧ va_P E.1 vwCl M' t.heap ∧ va_D A M' ∧ va_F A st t
def xXC (E : xE) (O : xO → Prop) (A : Nat → Prop) : String → State → State → Prop := fun X st t =>
  ∃ (M' : va_W), O (.inr (X, M')) ∧ va_P E.1 vwCl M' t.heap ∧ va_D A M' ∧ va_F A st t
/-- from here the method comes to an end of which O holds -/
def BdP (E : xE) (y : xM) (R : Room) (mc ms : Nat) (O : xO → Prop) : xK := fun pc L st M ck sk =>
  ∀ (p : Program) (l : Launch) (e : Env) (s : State) (m : MethodId) (args : Array Value) (below : List Frame) (meth : Method) (c : Code) (A : Nat → Prop) (H : Heap) (locs : List Loc) (ls : Array Slot),
    xFix E y p l s m args meth c A → meth.sig.returnType = y.2.2.2.1 → (∀ x ∈ c.exceptionTable.toList, False) → va_P E.1 vwCl M H → va_D A M → va_S A s.heap H locs → lv_has ls y.2.2.1 (xEn 0 L) → L.length = y.2.2.1 →
    W p l e R s m args below meth c H locs ck sk (vx_MQ below (xQc E O A) (xXC E O A) args s mc ms A) (F0 m pc ls st)
/-- from here the method comes to the end o -/
abbrev Bd (E : xE) (y : xM) (R : Room) (mc ms : Nat) (o : xO) : xK := BdP E y R mc ms (fun z => o = z)
abbrev xRm (fr lo mc ms : Nat) : Room := { frames := fr, cells := mc, slots := ms, locals := lo }
def xWs (y : xM) : List Cond := Cond.code y.1 y.2.1 y.2.2.1 y.2.2.2.1 :: xAll
/-- the method's contract: over this world, with these arguments, it comes to an end of which O holds -/
def SpP (E : xE) (y : xM) (R : Room) (As : List Value) (M : va_W) (O : xO → Prop) : Prop :=
  ∀ (l : Launch) (sz : Nat), l.stackTraces = false → vx_Met l y.1 (xWs y) R (va_Pc As (fun U => U.heap.size = sz ∧ va_P E.1 vwCl M U.heap ∧ va_K E.1 vwCl (xTy E) U ∧ va_D (fun _ => True) M ∧ xG E (va_A M sz) U U.heap)) (xQc E O (va_A M sz)) (xXC E O (va_A M sz)) R.cells R.slots (va_A M sz)
/-- .. to this end -/
abbrev Sp (E : xE) (y : xM) (R : Room) (As : List Value) (M : va_W) (o : xO) : Prop := SpP E y R As M (fun z => o = z)
theorem Sp.of {E : xE} {y : xM} {R : Room} {As : List Value} {M : va_W} {O : xO → Prop} (hy : xMok y) {L : xL} (hL : xEn 0 L = lv_args 0 As) (hn : L.length = y.2.2.1) (hn2 : (lg_sl As).length ≤ y.2.2.1)
    (h : BdP E y R R.cells R.slots O 0 L [] M 0 0) : SpP E y R As M O := by
  intro l sz hst
  refine vx_ofW (cc := y.2.1) (maxL := y.2.2.1) (ret := y.2.2.2.1) hy.2.2.2.1 rfl ?_
  intro p e s m args below meth c s₁ B hml hnoex hv
  obtain ⟨rfl, hsz, hP, hK, hD0, hG⟩ := hv
  subst hsz
  have hts : ∀ w ∈ xWs y, w.before As.toArray s = true := atoms_spec (ws := xWs y) B.pre
  have hD : va_D (va_A M s.heap.size) M := hD0.self (sz := s.heap.size)
  have hl := lv_entry As (n := y.2.2.1) hn2
  rw [lg_entry_eq]
  rw [← hL] at hl
  have hown : s.vm.findClass y.1.cls = some m.cls := findClass_of_methodNamed B.named
  rw [hy.2.2.1] at hown
  exact h p l e s m _ below meth c _ s.heap [] _ ⟨B.exec, hst, B.bytes, hml, hown, fun w hw => hts w (List.mem_cons_of_mem _ hw), B.notSynchronized, (name_of_methodNamed B.named B.method).1, fun q hq => Or.inr hq, hK, hG⟩ B.returns hnoex hP hD va_S.rf hl hn
theorem Bd.seg {E : xE} {y : xM} {R : Room} {mc ms : Nat} {O : xO → Prop} {B : List (Nat × List xI)} (hB : ∀ q ∈ B, xChks y q.1 q.2 = true) (n : Nat) (hs : List Nat) {pc : Nat} {is : List xI} (hn : B[n]? = some (pc, is)) {L : xL} {st : List Value} {M : va_W} {ck sk : Nat}
    (h : xrun R E (BdP E y R mc ms O) (fun v M ck sk => (O (.inl (v, M)) ∧ ck ≤ mc ∧ sk ≤ ms) ∧ xRet y.2.2.2.1 v) is hs pc L st M ck sk) : BdP E y R mc ms O pc L st M ck sk := by
  intro p l e s m args below meth c A H locs ls hF hr hx hP hD hS hl hLn
  refine xrun_W hF (fun pc L st M ck sk H locs ls hk hP hD hS hl hLn => hk p l e s m args below meth c A H locs ls hF hr hx hP hD hS hl hLn) (fun pc v M ck sk H locs ls hk hd hP hD hS => ?_) is hs pc L st M ck sk H locs ls (hB _ (List.mem_of_getElem? hn)) h hP hD hS hl hLn
  obtain ⟨⟨ho, h1, h2⟩, hrt⟩ := hk
  obtain ⟨hexec, hl0, hb, hml, hown, hts, hlocks, hnm, hA, hKK, hG⟩ := hF
  refine W.widen h1 h2 (vx_ret ?_)
  have hq : ∀ t : State, t.heap = H → s.WarmedH t.vm → xQc E O A args s (.returned v) t := fun t ht hW => ⟨v, M, ho, rfl, by rw [ht]; exact hP, hD, hS.F ht⟩
  have hf : ∀ q ∈ locs, A q.base := hS.2.2
  cases v with
  | none =>
    have hr0 : y.2.2.2.1 = none := by
      cases hz : y.2.2.2.1 with
      | none => rfl
      | some t => rw [hz] at hrt; cases t <;> exact hrt.elim
    exact W.vret hexec hb (by rw [hr, hr0]) hq hf hd
  | some v =>
    cases hz : y.2.2.2.1 with
    | none => rw [hz] at hrt; exact hrt.elim
    | some t =>
      rw [hz] at hrt hr
      cases v with
      | int x =>
        have hnw : narrow t (.int x) = .int x := by cases t <;> first | rfl | exact congrArg Value.int hrt | exact hrt.elim
        exact W.zret hexec hb hr hnw hq hf hd
      | long x => cases t <;> first | exact hrt.elim | exact W.lret hexec hb hr hq hf hd
      | float x => cases t <;> first | exact hrt.elim | exact W.fret hexec hb hr hq hf hd
      | double x => cases t <;> first | exact hrt.elim | exact W.dret hexec hb hr hq hf hd
      | null => cases t <;> first | exact hrt.elim | exact W.aret hexec hb hr (Or.inl ⟨_, rfl⟩) (Or.inl rfl) hq hf hd
      | ref a => cases t <;> first | exact hrt.elim | exact W.aret hexec hb hr (Or.inl ⟨_, rfl⟩) (Or.inr ⟨_, rfl⟩) hq hf hd
      | retAddr q => cases t <;> exact hrt.elim
/-! calls -/
def xset : va_W → List Nat → va_W → va_W
  | M, [], _ => M
  | M, i :: is, c :: cs => xset (M.set i c) is cs
  | M, _ :: _, [] => M
/-- the caller's world with the callee's cells put back at their places, the new ones behind -/
def xput (M : va_W) (is : List Nat) (M' : va_W) : va_W := xset M is M' ++ M'.drop is.length
theorem xset_at : ∀ (is : List Nat) (M M' : va_W) (k : Nat) (q : Nat × va_E), is.length ≤ M'.length → (xset M is M')[k]? = some q → (∃ j : Nat, is[j]? = some k ∧ M'[j]? = some q) ∨ (k ∉ is ∧ M[k]? = some q) := by
  intro is
  induction is with
  | nil => intro M M' k q _ h; exact Or.inr ⟨List.not_mem_nil, by cases M' <;> exact h⟩
  | cons i is ih =>
    intro M M' k q hl h
    cases M' with
    | nil => simp at hl
    | cons c cs =>
      simp only [List.length_cons] at hl
      rcases ih (M.set i c) cs k q (by omega) h with ⟨j, h1, h2⟩ | ⟨h1, h2⟩
      · exact Or.inl ⟨j + 1, by simpa using h1, by simpa using h2⟩
      · by_cases hk : i = k
        · subst hk
          rw [List.getElem?_set] at h2
          simp only [if_true] at h2
          split at h2
          · exact Or.inl ⟨0, rfl, by simpa using h2⟩
          · cases h2
        · rw [List.getElem?_set_ne hk] at h2
          exact Or.inr ⟨fun h => (List.mem_cons.mp h).elim (fun e => hk e.symm) h1, h2⟩
theorem x_join {A : Nat → Prop} {D : va_G} {cl : List vw_C} {M Mc M' : va_W} {H H1 : Heap} (hP : va_P D cl M H) (hD : va_D A M) (is : List Nat) (hC : is.map (fun i => M[i]?) = Mc.map some) (hadr : (M'.take is.length).map (·.1) = Mc.map (·.1))
    (hk : ∀ q : Nat, q < H.size → ¬ va_A Mc H.size q → H1[q]? = H[q]?) (hF : ∀ q, va_A Mc H.size q → A q) (hP1 : va_P D cl M' H1) (hD1 : va_D (va_A Mc H.size) M') : va_P D cl (xput M is M') H1 ∧ va_D A (xput M is M') := by
  have hlc : is.length = Mc.length := by simpa using congrArg List.length hC
  have hlm : is.length ≤ M'.length := by
    have := congrArg List.length hadr
    simp only [List.length_map, List.length_take] at this
    omega
  have atC : ∀ (j k : Nat), is[j]? = some k → ∃ c, Mc[j]? = some c ∧ M[k]? = some c := by
    intro j k hj
    have h1 : (is.map (fun i => M[i]?))[j]? = some M[k]? := by rw [List.getElem?_map, hj]; rfl
    rw [hC, List.getElem?_map] at h1
    cases hc : Mc[j]? with
    | none => rw [hc] at h1; cases h1
    | some c => rw [hc] at h1; exact ⟨c, rfl, (Option.some.inj h1).symm⟩
  have adr : ∀ (j : Nat) (q c : Nat × va_E), j < is.length → M'[j]? = some q → Mc[j]? = some c → q.1 = c.1 := by
    intro j q c hj hq hc
    have h1 : ((M'.take is.length).map (·.1))[j]? = some q.1 := by
      rw [List.getElem?_map, List.getElem?_take]
      simp [hj, hq]
    rw [hadr, List.getElem?_map, hc] at h1
    exact (Option.some.inj h1).symm
  have ofset : ∀ (k : Nat) (q : Nat × va_E), (xset M is M')[k]? = some q → ∃ p, M[k]? = some p ∧ p.1 = q.1 := by
    intro k q h
    rcases xset_at is M M' k q hlm h with ⟨j, h1, h2⟩ | ⟨h1, h2⟩
    · obtain ⟨c, hc, hM⟩ := atC j k h1
      exact ⟨c, hM, (adr j q c (List.getElem?_eq_some_iff.mp h1).1 h2 hc).symm⟩
    · exact ⟨q, h2, rfl⟩
  have apart : ∀ (k : Nat) (q : Nat × va_E), k ∉ is → M[k]? = some q → q.1 < H.size ∧ ¬ va_A Mc H.size q.1 := by
    intro k q hn hq
    have hl := (hP k q hq).lt
    refine ⟨hl, fun h => ?_⟩
    rcases h with ⟨k2, e, h⟩ | h
    · have hk2 : k2 < is.length := by rw [hlc]; exact (List.getElem?_eq_some_iff.mp h).1
      obtain ⟨c, hc, hM⟩ := atC k2 is[k2] (List.getElem?_eq_getElem hk2)
      rw [h] at hc
      cases hc
      have := hD.1 k is[k2] q (q.1, e) hq hM rfl
      exact hn (by rw [this]; exact List.getElem_mem hk2)
    · omega
  refine ⟨va_P.app (fun k q h => ?_) (fun k q h => ?_), va_D.app ⟨fun i j p q hp hq e => ?_, fun k q h => ?_⟩ ⟨fun i j p q hp hq e => ?_, fun k q h => ?_⟩ (fun i j p q hp hq e => ?_)⟩
  · rcases xset_at is M M' k q hlm h with ⟨j, h1, h2⟩ | ⟨h1, h2⟩
    · exact hP1 j q h2
    · obtain ⟨g1, g2⟩ := apart k q h1 h2
      exact (hP k q h2).kept (hk q.1 g1 g2)
  · rw [List.getElem?_drop] at h
    exact hP1 _ q h
  · obtain ⟨p0, hp0, e0⟩ := ofset i p hp
    obtain ⟨q0, hq0, e1⟩ := ofset j q hq
    exact hD.1 i j p0 q0 hp0 hq0 (by rw [e0, e1, e])
  · obtain ⟨p0, hp0, e0⟩ := ofset k q h
    rw [← e0]
    exact hD.2 k p0 hp0
  · rw [List.getElem?_drop] at hp hq
    have := hD1.1 _ _ p q hp hq e
    omega
  · rw [List.getElem?_drop] at h
    exact hF _ (hD1.2 _ q h)
  · rw [List.getElem?_drop] at hq
    obtain ⟨p0, hp0, e0⟩ := ofset i p hp
    by_cases hi : i ∈ is
    · obtain ⟨j2, hj2⟩ := List.getElem?_of_mem hi
      obtain ⟨c, hc, hM⟩ := atC j2 i hj2
      rw [hp0] at hM
      cases hM
      have hj2l : j2 < is.length := (List.getElem?_eq_some_iff.mp hj2).1
      have hm2 : M'[j2]? = some M'[j2] := List.getElem?_eq_getElem (by omega)
      have h1 := adr j2 _ _ hj2l hm2 hc
      have h2 := hD1.1 _ _ _ q hm2 hq (by rw [h1, e0, e])
      omega
    · obtain ⟨g1, g2⟩ := apart i p0 hi hp0
      exact g2 (by rw [e0, e]; exact hD1.2 _ q hq)
section XCALL
variable {p : Program} {l : Launch} {e : Env} {R : Room} {s : State} {m : MethodId} {args : Array Value} {below : List Frame} {meth : Method} {c : Code} {H : Heap} {locs : List Loc} {cells slots mc ms : Nat} {Q : State → Prop}
variable {A0 A1 : Nat → Prop} {a : Array Value} {pc : Nat} {ls : Array Slot} {st0 rest : List Value} {E : xE} {O : xO → Prop}
/-- behind a call: it came back, or it threw -/
theorem x_call (hr : vx_Run p l e R s m args below meth c H locs cells slots mc ms (F0 m pc ls st0) rest (xQc E O A1 a) (xXC E O A1) A1) (hS : va_S A0 s.heap H locs) (hA : ∀ q, A1 q → A0 q)
    (kx : ∀ (X : String) (M' : va_W) (ce : Cell) (q9 : Addr) (H1 : Heap) (locs1 : List Loc), O (.inr (X, M')) → va_P E.1 vwCl M' H1 → va_D A1 M' → (∀ q : Nat, q < H.size → ¬ A1 q → H1[q]? = H[q]?) → va_S A0 s.heap H1 locs1 → H1[q9]? = some ce → ce.vm = .none → s.vm.findClass X = some ce.cls → vx_W p l e R s m args below meth c H1 locs1 (cells + mc) (slots + ms) Q (F0 m pc ls rest) q9)
    (kk : ∀ (v : Option Value) (M' : va_W) (H1 : Heap) (locs1 : List Loc), O (.inl (v, M')) → va_P E.1 vwCl M' H1 → va_D A1 M' → (∀ q : Nat, q < H.size → ¬ A1 q → H1[q]? = H[q]?) → va_S A0 s.heap H1 locs1 → W p l e R s m args below meth c H1 locs1 (cells + mc) (slots + ms) Q (F0 m (pc + 3) ls (v.toList ++ rest))) : W p l e R s m args below meth c H locs cells slots Q (F0 m pc ls st0) := by
  intro T hT X
  rcases hr T hT X with ⟨v, st₀, t, T', L, h0, X', hL, e1, e2, ⟨v', M', ho, hv, hP1, hD1, hF⟩, st⟩ | ⟨q, st₀, t, T', L, E', ce, h0, X', hL, e1, e2, ⟨M', ho, hP1, hD1, hF⟩, hce, hcv, hcl, st⟩
  · cases hv
    obtain ⟨k1, k2, k3⟩ := vx_keep h0 e1 hS (fun q _ h => hA q h) hA hL hF
    obtain ⟨t2, a1, b1⟩ := kk v M' T'.heap (locs ++ L) ho (by rw [e1]; exact hP1) hD1 k2 k3 T' rfl X'
    exact ⟨t2, st t2 a1, b1⟩
  · obtain ⟨k1, k2, k3⟩ := vx_keep h0 e1 hS (fun q _ h => hA q h) hA hL hF
    obtain ⟨t2, a1, b1⟩ := kx E' M' ce q T'.heap (locs ++ L) ho (by rw [e1]; exact hP1) hD1 k2 k3 (by rw [e1]; exact hce) hcv hcl T' rfl X'
    exact ⟨t2, st.trans a1, b1⟩
end XCALL
/-- what the callee's start asks, of the cells cut out for it -/
theorem x_pre {E : xE} {s : State} {A : Nat → Prop} {M Mc : va_W} {H : Heap} {locs : List Loc} {As : List Value} (hK : va_K E.1 vwCl (xTy E) s) (hG : xG E A s s.heap) (hP : va_P E.1 vwCl M H) (hD : va_D A M) (hS : va_S A s.heap H locs) (hA : ∀ q, s.heap.size ≤ q → A q)
    (is : List Nat) (hn : va_nd is = true) (hC : is.map (fun i => M[i]?) = Mc.map some) :
    PreS s H (va_Pc As (fun U => U.heap.size = H.size ∧ va_P E.1 vwCl Mc U.heap ∧ va_K E.1 vwCl (xTy E) U ∧ va_D (fun _ => True) Mc ∧ xG E (va_A Mc H.size) U U.heap)) As ∧ (∀ q, va_A Mc H.size q → A q) ∧ va_P E.1 vwCl Mc H := by
  have hPc : va_P E.1 vwCl Mc H := by
    refine hP.sub is ?_
    have h1 : is.filterMap (fun i => M[i]?) = (is.map (fun i => M[i]?)).filterMap id := by rw [List.filterMap_map]; rfl
    rw [h1, hC, List.filterMap_map]
    exact List.filterMap_some
  have hDc := hD.sub is hn hC
  have hF := va_free (wc := Mc) hD hS hA is hC
  refine ⟨⟨fun a U g mk q => ?_, fun U hU hW => ⟨rfl, by rw [hU], by rw [hU]; exact hPc, va_K.moved hW.alike hK, hDc.weaken (fun _ _ _ _ => trivial), ?_⟩⟩, hF, hPc⟩
  · obtain ⟨q0, q1, qP, qK, qD, qG⟩ := q
    exact ⟨q0, q1, qP, va_K.moved (u := U) (U := U.calling g mk a) (Vm.Alike.refl U.vm) qK, qD, qG.same rfl⟩
  · rw [hU]
    exact ((hG.kept hS.2.1).narrow' hS.1 hF).warm hW
/-- how many arguments a method takes -/
def xNa (y : xM) (n : Nat) : Prop := (parseMethodDescriptor y.1.desc).map (fun d => d.parameters.length) = some n
theorem xGood : GoodIn xAll xAll := fun w h => ⟨h, xAll_good w h⟩
theorem xWsGood {y : xM} (hy : xMok y) : GoodIn xAll (xWs y) := fun w h => (List.mem_cons.mp h).elim (fun e => by rw [e]; exact xGood _ hy.1) (xGood w)
theorem x_callB {R R' : Room} {s : State} {args : Array Value} {own : String} {idx n : Nat} {y : xM} (hts : ∀ w ∈ xAll, w.before args s = true) (hy : xMok y) (hn : xNa y n) (hlk : Cond.methodLink own idx y.1 ∈ xAll) (hR : R'.frames + 1 ≤ R.frames ∧ 8 + (y.2.2.1 + 11) + R'.locals ≤ R.locals) :
    CallB R s args own idx y.1 y.2.1 y.2.2.1 y.2.2.2.1 (xWs y) R' R'.cells R'.slots n :=
  callB_of n hts (xWsGood hy) rfl rfl rfl (hts _ hy.2.1) (hts _ hlk) ⟨hy.2.2.2.2.1, hy.2.2.2.2.2, hn⟩ hR
theorem x_met {E : xE} {y : xM} {R : Room} {As : List Value} {M : va_W} {r : Option Value × va_W} (h : Sp E y R As M (.inl r)) (l : Launch) (sz : Nat) (hl : l.stackTraces = false) :
    Met l y.1 (xWs y) R (va_Pc As (fun U => U.heap.size = sz ∧ va_P E.1 vwCl M U.heap ∧ va_K E.1 vwCl (xTy E) U ∧ va_D (fun _ => True) M ∧ xG E (va_A M sz) U U.heap)) (xQc E (fun z => (Sum.inl r : xO) = z) (va_A M sz)) R.cells R.slots (va_A M sz) := by
  refine MetFree.mono (h l sz hl) (fun _ _ q => q) (fun _ _ _ _ _ q => q) (fun a s o t _ hq => ?_)
  rcases hq with hq | ⟨q, ho, X, ce, L, ⟨M', hX, -⟩, -⟩
  · exact hq
  · cases hX
/-- a plain run as one that may throw -/
theorem x_runR {p : Program} {l : Launch} {e : Env} {R : Room} {s : State} {m : MethodId} {args : Array Value} {below : List Frame} {meth : Method} {c : Code} {H : Heap} {locs : List Loc} {cells slots mc ms : Nat} {g : JFrame} {rest : List Value} {Qa : State → Outcome → State → Prop} {XC : String → State → State → Prop} {free : Addr → Prop}
    (h : va_Run p l e R s m args below meth c H locs cells slots mc ms g rest Qa free) : vx_Run p l e R s m args below meth c H locs cells slots mc ms g rest Qa XC free := by
  intro T hT X
  obtain ⟨v, st₀, t, T', L, h0, X', hL, e1, e2, hq, st⟩ := h T hT X
  exact Or.inl ⟨v, st₀, t, T', L, h0, X', hL, e1, e2, hq, st⟩
theorem xdec {y : xM} {B : List (Nat × List xI)} (hB : ∀ q ∈ B, xChks y q.1 q.2 = true) (n : Nat) {pc : Nat} {i : xI} (hn : B[n]? = some (pc, [i])) : decode y.2.1 pc = .ok (i.1, xlen i.1) := by
  have h := hB _ (List.mem_of_getElem? hn)
  dsimp only at h
  rw [xChks, Bool.and_eq_true, xChk, Bool.and_eq_true, decide_eq_true_eq] at h
  exact h.1.1
/-- locals that are known less of -/
def xle : xL → xL → Prop
  | [], [] => True
  | none :: r, _ :: r' => xle r r'
  | some v :: r, x :: r' => x = some v ∧ xle r r'
  | _, _ => False
theorem xle_len : ∀ (L' L : xL), xle L' L → L'.length = L.length
  | [], [], _ => rfl
  | none :: r, _ :: r', h => congrArg (· + 1) (xle_len r r' h)
  | some _ :: r, _ :: r', h => congrArg (· + 1) (xle_len r r' h.2)
  | [], _ :: _, h => h.elim
  | none :: _, [], h => h.elim
  | some _ :: _, [], h => h.elim
theorem xle_mem : ∀ (L' L : xL) (i : Nat), xle L' L → ∀ q ∈ xEn i L', q ∈ xEn i L
  | [], [], _, _, q, hq => hq
  | none :: r, x :: r', i, h, q, hq => by
    have := xle_mem r r' (i + 1) h q hq
    cases x with
    | none => exact this
    | some w => exact List.mem_cons_of_mem _ this
  | some v :: r, x :: r', i, h, q, hq => by
    obtain ⟨rfl, h⟩ := h
    rcases List.mem_cons.mp hq with e | hq
    · exact List.mem_cons.mpr (Or.inl e)
    · exact List.mem_cons_of_mem _ (xle_mem r r' (i + 1) h q hq)
  | [], _ :: _, _, h, _, _ => h.elim
  | none :: _, [], _, h, _, _ => h.elim
  | some _ :: _, [], _, h, _, _ => h.elim
theorem Bd.weak {E : xE} {y : xM} {R : Room} {mc ms : Nat} {O : xO → Prop} {pc : Nat} {L' L : xL} {st : List Value} {M : va_W} {ck sk : Nat} (h : BdP E y R mc ms O pc L' st M ck sk) (hle : xle L' L) : BdP E y R mc ms O pc L st M ck sk :=
  fun p l e s m args below meth c A H locs ls hF hr hx hP hD hS hl hLn => h p l e s m args below meth c A H locs ls hF hr hx hP hD hS ⟨hl.1, hl.2.1, fun q hq => hl.2.2 q (xle_mem L' L 0 hle q hq)⟩ ((xle_len L' L hle).trans hLn)
/-- room that is used later counts now -/
theorem Bd.wide {E : xE} {y : xM} {R : Room} {mc ms : Nat} {O : xO → Prop} {pc : Nat} {L : xL} {st : List Value} {M : va_W} {ck sk ck' sk' : Nat} (h1 : ck ≤ ck') (h2 : sk ≤ sk') (h : BdP E y R mc ms O pc L st M ck' sk') : BdP E y R mc ms O pc L st M ck sk :=
  fun p l e s m args below meth c A H locs ls hF hr hx hP hD hS hl hLn => W.widen h1 h2 (h p l e s m args below meth c A H locs ls hF hr hx hP hD hS hl hLn)
/-- an index that lies within, decided -/
def xin (i : Int32) (n : Nat) : Bool := !(decide (i < 0) || decide (n ≤ i.toNatClampNeg))
theorem xg {i : Int32} {n : Nat} (h : xin i n = true) : vp_in i n := by
  unfold xin at h
  unfold vp_in
  simpa using h
theorem ob {α β : Type} {o : Option α} {f : α → Option β} {b : β} (h : o.bind f = some b) : ∃ x, o = some x ∧ f x = some b := by
  cases o with
  | none => cases h
  | some x => exact ⟨x, rfl, h⟩
theorem og {α : Type} {i : Int32} {n : Nat} {x : Option α} {b : α} (h : (if xin i n = true then x else none) = some b) : vp_in i n ∧ x = some b := by
  by_cases hc : xin i n = true
  · rw [if_pos hc] at h; exact ⟨xg hc, h⟩
  · rw [if_neg hc] at h; cases h
/-- what a method's end is, from what its function says: a throw by its number -/
def xExN (k : Nat) : String := if k = 0 then "java/lang/IllegalStateException" else if k = 1 then "java/lang/IllegalArgumentException" else if k = 2 then "java/lang/IndexOutOfBoundsException" else "java/util/NoSuchElementException"
def xOut (r : Nat ⊕ Option Value) (M : va_W) : xO := match r with
  | .inl k => .inr (xExN k, M)
  | .inr v => .inl (v, M)
section BCALL
variable {E : xE} {y : xM} {R : Room} {mc ms : Nat} {O : xO → Prop} {pc : Nat} {L : xL} {st : List Value} {M : va_W} {ck sk : Nat}
/-- behind a call of any kind: the callee's end, put back into the world -/
theorem x_behind {R' : Room} {rest : List Value} {Mc : va_W} {O' : xO → Prop} {p : Program} {l : Launch} {e : Env} {s : State} {m : MethodId} {args : Array Value} {below : List Frame} {meth : Method} {c : Code} {A : Nat → Prop} {H : Heap} {locs : List Loc} {ls : Array Slot}
    (hF : xFix E y p l s m args meth c A) (hr : meth.sig.returnType = y.2.2.2.1) (hx : ∀ x ∈ c.exceptionTable.toList, False) (hP : va_P E.1 vwCl M H) (hD : va_D A M) (hS : va_S A s.heap H locs) (hl : lv_has ls y.2.2.1 (xEn 0 L)) (hLn : L.length = y.2.2.1)
    (is : List Nat) (hC : is.map (fun i => M[i]?) = Mc.map some) (hAc : ∀ q, va_A Mc H.size q → A q) {a : Array Value}
    (hrun : vx_Run p l e R s m args below meth c H locs ck sk R'.cells R'.slots (F0 m pc ls st) rest (xQc E O' (va_A Mc H.size) a) (xXC E O' (va_A Mc H.size)) (va_A Mc H.size))
    (hM : ∀ M', (∃ v, O' (.inl (v, M'))) ∨ (∃ X, O' (.inr (X, M'))) → (M'.take is.length).map (·.1) = Mc.map (·.1))
    (kx : ∀ X M', O' (.inr (X, M')) → O (.inr (X, xput M is M')) ∧ ck + R'.cells ≤ mc ∧ sk + R'.slots ≤ ms)
    (kk : ∀ v M', O' (.inl (v, M')) → BdP E y R mc ms O (pc + 3) L (v.toList ++ rest) (xput M is M') (ck + R'.cells) (sk + R'.slots)) :
    W p l e R s m args below meth c H locs ck sk (vx_MQ below (xQc E O A) (xXC E O A) args s mc ms A) (F0 m pc ls st) := by
  refine x_call hrun hS hAc (fun X M' ce q9 H1 locs1 ho hP1 hD1 hk hS1 hce hcv hcl => ?_) (fun v M' H1 locs1 ho hP1 hD1 hk hS1 => ?_)
  · obtain ⟨k1, k2, k3⟩ := kx X M' ho
    obtain ⟨hP2, hD2⟩ := x_join hP hD is hC (hM M' (Or.inr ⟨X, ho⟩)) hk hAc hP1 hD1
    exact vx_out (fun x h => (hx x h).elim) hF.2.2.2.2.2.2.1 hce hcv hcl (fun t ht hal => ⟨_, k1, by rw [ht]; exact hP2, hD2, hS1.F ht⟩) hS1.2.2 k2 k3
  · obtain ⟨hP2, hD2⟩ := x_join hP hD is hC (hM M' (Or.inl ⟨v, ho⟩)) hk hAc hP1 hD1
    exact kk v M' ho p l e s m args below meth c A H1 locs1 ls hF hr hx hP2 hD2 hS1 hl hLn
theorem Bd.callV {y' : xM} {R' : Room} {As rest : List Value} {b : Nat} {Mc : va_W} {O' : xO → Prop} {idx : Nat} (hy : xMok y') (hv : xVok y') (hn : xNa y' As.length) (hlk : Cond.methodLink (xCn y.2.2.2.2) idx y'.1 ∈ xAll) (hd : decode y.2.1 pc = .ok (.invokevirtual idx, 3))
    (hsp : SpP E y' R' (.ref b :: As) Mc O') (hR : R'.frames + 1 ≤ R.frames ∧ 8 + (y'.2.2.1 + 11) + R'.locals ≤ R.locals) (hst : st = As.reverse ++ .ref b :: rest) (hcat : (rest.map fun v => v.category).sum ≤ 8)
    (is : List Nat) (hnd : va_nd is = true) (hC : is.map (fun i => M[i]?) = Mc.map some) (q0 : Nat) {ci : Nat} {fs : List Value} {r : vw_C} (hb : Mc[q0]? = some (b, .inr (ci, fs))) (hci : vwCl[ci]? = some r) (hrc : r.1 = y'.1.cls) (hroom : ck + R'.cells ≤ R.cells ∧ sk + R'.slots ≤ R.slots)
    (hM : ∀ M', (∃ v, O' (.inl (v, M'))) ∨ (∃ X, O' (.inr (X, M'))) → (M'.take is.length).map (·.1) = Mc.map (·.1))
    (kx : ∀ X M', O' (.inr (X, M')) → O (.inr (X, xput M is M')) ∧ ck + R'.cells ≤ mc ∧ sk + R'.slots ≤ ms)
    (kk : ∀ v M', O' (.inl (v, M')) → BdP E y R mc ms O (pc + 3) L (v.toList ++ rest) (xput M is M') (ck + R'.cells) (sk + R'.slots)) : BdP E y R mc ms O pc L st M ck sk := by
  subst hst
  intro p l e s m args below meth c A H locs ls hF hr hx hP hD hS hl hLn
  obtain ⟨hexec, hl0, hbt, hml, hown, hts, hlocks, hnm, hA, hKK, hG⟩ := id hF
  obtain ⟨⟨hbl, hpre⟩, hAc, hPc⟩ := x_pre (As := .ref b :: As) hKK hG hP hD hS hA is hnd hC
  have hrec := va_recv hKK hPc hci hb
  rw [hrc] at hrec
  exact x_behind hF hr hx hP hD hS hl hLn is hC hAc (vx_runV ⟨hexec, hbt, hml, hown, hts⟩ (hsp l H.size hl0) ⟨x_callB hts hy hn hlk hR, hts _ hv.1, hts _ hv.2⟩ ⟨hbl, hrec, hpre⟩ rfl rfl hl.1 rfl (lv_room hcat) hd hroom) hM kx kk
theorem Bd.callS {y' : xM} {R' : Room} {As rest : List Value} {Mc : va_W} {O' : xO → Prop} {idx : Nat} (hy : xMok y') (hv : Cond.static y'.1 ∈ xAll) (hn : xNa y' As.length) (hlk : Cond.methodLink (xCn y.2.2.2.2) idx y'.1 ∈ xAll) (hd : decode y.2.1 pc = .ok (.invokestatic idx, 3))
    (hsp : SpP E y' R' As Mc O') (hR : R'.frames + 1 ≤ R.frames ∧ 8 + (y'.2.2.1 + 11) + R'.locals ≤ R.locals) (hst : st = As.reverse ++ rest) (hcat : (rest.map fun v => v.category).sum ≤ 8)
    (is : List Nat) (hnd : va_nd is = true) (hC : is.map (fun i => M[i]?) = Mc.map some) (hroom : ck + R'.cells ≤ R.cells ∧ sk + R'.slots ≤ R.slots)
    (hM : ∀ M', (∃ v, O' (.inl (v, M'))) ∨ (∃ X, O' (.inr (X, M'))) → (M'.take is.length).map (·.1) = Mc.map (·.1))
    (kx : ∀ X M', O' (.inr (X, M')) → O (.inr (X, xput M is M')) ∧ ck + R'.cells ≤ mc ∧ sk + R'.slots ≤ ms)
    (kk : ∀ v M', O' (.inl (v, M')) → BdP E y R mc ms O (pc + 3) L (v.toList ++ rest) (xput M is M') (ck + R'.cells) (sk + R'.slots)) : BdP E y R mc ms O pc L st M ck sk := by
  subst hst
  intro p l e s m args below meth c A H locs ls hF hr hx hP hD hS hl hLn
  obtain ⟨hexec, hl0, hbt, hml, hown, hts, hlocks, hnm, hA, hKK, hG⟩ := id hF
  obtain ⟨⟨hbl, hpre⟩, hAc, hPc⟩ := x_pre (As := As) hKK hG hP hD hS hA is hnd hC
  exact x_behind hF hr hx hP hD hS hl hLn is hC hAc (vx_runS ⟨hexec, hbt, hml, hown, hts⟩ (hsp l H.size hl0) ⟨x_callB hts hy hn hlk hR, hts _ hv⟩ ⟨hbl, hpre⟩ rfl rfl hl.1 rfl (lv_room hcat) hd hroom) hM kx kk
/-- a constructor of one's own, or a public one -/
theorem Bd.callI {y' : xM} {R' : Room} {As rest : List Value} {b : Nat} {Mc : va_W} {w : Option Value × va_W} {idx : Nat} (hy : xMok y') (hv : Cond.instanceMethod y'.1 ∈ xAll) (hnm : y'.1.name = "<init>") (hrt : y'.2.2.2.1 = none) (hn : xNa y' As.length) (hlk : Cond.methodLink (xCn y.2.2.2.2) idx y'.1 ∈ xAll) (hd : decode y.2.1 pc = .ok (.invokespecial idx, 3))
    (hsp : Sp E y' R' (.ref b :: As) Mc (.inl w)) (hR : R'.frames + 1 ≤ R.frames ∧ 8 + (y'.2.2.1 + 11) + R'.locals ≤ R.locals) (hst : st = As.reverse ++ .ref b :: rest) (hcat : (rest.map fun v => v.category).sum ≤ 8)
    (is : List Nat) (hnd : va_nd is = true) (hC : is.map (fun i => M[i]?) = Mc.map some) (hroom : ck + R'.cells ≤ R.cells ∧ sk + R'.slots ≤ R.slots)
    (hM : (w.2.take is.length).map (·.1) = Mc.map (·.1))
    (kk : BdP E y R mc ms O (pc + 3) L (w.1.toList ++ rest) (xput M is w.2) (ck + R'.cells) (sk + R'.slots)) : BdP E y R mc ms O pc L st M ck sk := by
  subst hst
  intro p l e s m args below meth c A H locs ls hF hr hx hP hD hS hl hLn
  obtain ⟨hexec, hl0, hbt, hml, hown, hts, hlocks, hnm0, hA, hKK, hG⟩ := id hF
  obtain ⟨⟨hbl, hpre⟩, hAc, hPc⟩ := x_pre (As := .ref b :: As) hKK hG hP hD hS hA is hnd hC
  have hcb := x_callB (R := R) (args := args) hts hy hn hlk hR
  rw [hrt] at hcb
  refine x_behind (O' := fun z => (Sum.inl w : xO) = z) hF hr hx hP hD hS hl hLn is hC hAc (x_runR (va_runI (As := As) ⟨hexec, hbt, hml, hown, hts⟩ (x_met hsp l H.size hl0) ⟨hcb, hnm, hts _ hv⟩ ⟨hbl, hpre⟩ rfl rfl hl.1 rfl (lv_room hcat) hd hroom)) (fun M' h => ?_) (fun X M' h => by cases h) (fun v M' h => ?_)
  · rcases h with ⟨v, h⟩ | ⟨X, h⟩
    · cases h; exact hM
    · cases h
  · cases h; exact kk
/-- a private constructor of a nest mate -/
theorem Bd.callIN {y' : xM} {R' : Room} {As rest : List Value} {b : Nat} {Mc : va_W} {w : Option Value × va_W} {idx : Nat} {host : String} (hy : xMok y') (hv : Cond.instanceMethod y'.1 ∈ xAll) (hnm : y'.1.name = "<init>") (hrt : y'.2.2.2.1 = none) (hn : xNa y' As.length) (hlk : Cond.methodLinkNest (xCn y.2.2.2.2) idx y'.1 host ∈ xOdd) (hd : decode y.2.1 pc = .ok (.invokespecial idx, 3))
    (hsp : Sp E y' R' (.ref b :: As) Mc (.inl w)) (hR : R'.frames + 1 ≤ R.frames ∧ 8 + (y'.2.2.1 + 11) + R'.locals ≤ R.locals) (hst : st = As.reverse ++ .ref b :: rest) (hcat : (rest.map fun v => v.category).sum ≤ 8)
    (is : List Nat) (hnd : va_nd is = true) (hC : is.map (fun i => M[i]?) = Mc.map some) (hroom : ck + R'.cells ≤ R.cells ∧ sk + R'.slots ≤ R.slots)
    (hM : (w.2.take is.length).map (·.1) = Mc.map (·.1))
    (kk : BdP E y R mc ms O (pc + 3) L (w.1.toList ++ rest) (xput M is w.2) (ck + R'.cells) (sk + R'.slots)) : BdP E y R mc ms O pc L st M ck sk := by
  subst hst
  intro p l e s m args below meth c A H locs ls hF hr hx hP hD hS hl hLn
  obtain ⟨hexec, hl0, hbt, hml, hown, hts, hlocks, hnm0, hA, hKK, hG⟩ := id hF
  obtain ⟨⟨hbl, hpre⟩, hAc, hPc⟩ := x_pre (As := .ref b :: As) hKK hG hP hD hS hA is hnd hC
  have hcb := va_cnB (R := R) (args := args) (ret := y'.2.2.2.1) (rm := R') As.length hts (xWsGood hy) rfl rfl rfl (hG.1.1 _ hlk) (hts _ hy.2.1) ⟨hy.2.2.2.2.1, hy.2.2.2.2.2, hn⟩ hR
  rw [hrt] at hcb
  refine x_behind (O' := fun z => (Sum.inl w : xO) = z) hF hr hx hP hD hS hl hLn is hC hAc (x_runR (va_runIN (As := As) ⟨hexec, hbt, hml, hown, hts⟩ (x_met hsp l H.size hl0) ⟨hcb, hnm, hts _ hv⟩ ⟨hbl, hpre⟩ rfl rfl hl.1 rfl (lv_room hcat) hd hroom)) (fun M' h => ?_) (fun X M' h => by cases h) (fun v M' h => ?_)
  · rcases h with ⟨v, h⟩ | ⟨X, h⟩
    · cases h; exact hM
    · cases h
  · cases h; exact kk
/-- a private static method of a nest mate -/
theorem Bd.callSN {y' : xM} {R' : Room} {As rest : List Value} {Mc : va_W} {w : Option Value × va_W} {idx : Nat} {host : String} (hy : xMok y') (hv : Cond.static y'.1 ∈ xAll) (hn : xNa y' As.length) (hlk : Cond.methodLinkNest (xCn y.2.2.2.2) idx y'.1 host ∈ xOdd) (hd : decode y.2.1 pc = .ok (.invokestatic idx, 3))
    (hsp : Sp E y' R' As Mc (.inl w)) (hR : R'.frames + 1 ≤ R.frames ∧ 8 + (y'.2.2.1 + 11) + R'.locals ≤ R.locals) (hst : st = As.reverse ++ rest) (hcat : (rest.map fun v => v.category).sum ≤ 8)
    (is : List Nat) (hnd : va_nd is = true) (hC : is.map (fun i => M[i]?) = Mc.map some) (hroom : ck + R'.cells ≤ R.cells ∧ sk + R'.slots ≤ R.slots)
    (hM : (w.2.take is.length).map (·.1) = Mc.map (·.1))
    (kk : BdP E y R mc ms O (pc + 3) L (w.1.toList ++ rest) (xput M is w.2) (ck + R'.cells) (sk + R'.slots)) : BdP E y R mc ms O pc L st M ck sk := by
  subst hst
  intro p l e s m args below meth c A H locs ls hF hr hx hP hD hS hl hLn
  obtain ⟨hexec, hl0, hbt, hml, hown, hts, hlocks, hnm0, hA, hKK, hG⟩ := id hF
  obtain ⟨⟨hbl, hpre⟩, hAc, hPc⟩ := x_pre (As := As) hKK hG hP hD hS hA is hnd hC
  have hcb := va_cnB (R := R) (args := args) (ret := y'.2.2.2.1) (rm := R') As.length hts (xWsGood hy) rfl rfl rfl (hG.1.1 _ hlk) (hts _ hy.2.1) ⟨hy.2.2.2.2.1, hy.2.2.2.2.2, hn⟩ hR
  refine x_behind (O' := fun z => (Sum.inl w : xO) = z) hF hr hx hP hD hS hl hLn is hC hAc (x_runR (va_runSN (As := As) ⟨hexec, hbt, hml, hown, hts⟩ (x_met hsp l H.size hl0) ⟨hcb, hts _ hv, trivial⟩ ⟨hbl, hpre⟩ rfl rfl hl.1 rfl (lv_room hcat) hd hroom)) (fun M' h => ?_) (fun X M' h => by cases h) (fun v M' h => ?_)
  · rcases h with ⟨v, h⟩ | ⟨X, h⟩
    · cases h; exact hM
    · cases h
  · cases h; exact kk
/-- the same, where the callee's end is known: it comes back -/
theorem Bd.callVr {y' : xM} {R' : Room} {As rest : List Value} {b : Nat} {Mc : va_W} {w : Option Value × va_W} {idx : Nat} (hy : xMok y') (hv : xVok y') (hn : xNa y' As.length) (hlk : Cond.methodLink (xCn y.2.2.2.2) idx y'.1 ∈ xAll) (hd : decode y.2.1 pc = .ok (.invokevirtual idx, 3))
    (hsp : Sp E y' R' (.ref b :: As) Mc (.inl w)) (hR : R'.frames + 1 ≤ R.frames ∧ 8 + (y'.2.2.1 + 11) + R'.locals ≤ R.locals) (hst : st = As.reverse ++ .ref b :: rest) (hcat : (rest.map fun v => v.category).sum ≤ 8)
    (is : List Nat) (hnd : va_nd is = true) (hC : is.map (fun i => M[i]?) = Mc.map some) (q0 : Nat) {ci : Nat} {fs : List Value} {r : vw_C} (hb : Mc[q0]? = some (b, .inr (ci, fs))) (hci : vwCl[ci]? = some r) (hrc : r.1 = y'.1.cls) (hroom : ck + R'.cells ≤ R.cells ∧ sk + R'.slots ≤ R.slots)
    (hM : (w.2.take is.length).map (·.1) = Mc.map (·.1))
    (kk : BdP E y R mc ms O (pc + 3) L (w.1.toList ++ rest) (xput M is w.2) (ck + R'.cells) (sk + R'.slots)) : BdP E y R mc ms O pc L st M ck sk := by
  refine Bd.callV hy hv hn hlk hd hsp hR hst hcat is hnd hC q0 hb hci hrc hroom (fun M' h => ?_) (fun X M' h => by cases h) (fun v M' h => by cases h; exact kk)
  rcases h with ⟨v, h⟩ | ⟨X, h⟩
  · cases h; exact hM
  · cases h
theorem Bd.callSr {y' : xM} {R' : Room} {As rest : List Value} {Mc : va_W} {w : Option Value × va_W} {idx : Nat} (hy : xMok y') (hv : Cond.static y'.1 ∈ xAll) (hn : xNa y' As.length) (hlk : Cond.methodLink (xCn y.2.2.2.2) idx y'.1 ∈ xAll) (hd : decode y.2.1 pc = .ok (.invokestatic idx, 3))
    (hsp : Sp E y' R' As Mc (.inl w)) (hR : R'.frames + 1 ≤ R.frames ∧ 8 + (y'.2.2.1 + 11) + R'.locals ≤ R.locals) (hst : st = As.reverse ++ rest) (hcat : (rest.map fun v => v.category).sum ≤ 8)
    (is : List Nat) (hnd : va_nd is = true) (hC : is.map (fun i => M[i]?) = Mc.map some) (hroom : ck + R'.cells ≤ R.cells ∧ sk + R'.slots ≤ R.slots)
    (hM : (w.2.take is.length).map (·.1) = Mc.map (·.1))
    (kk : BdP E y R mc ms O (pc + 3) L (w.1.toList ++ rest) (xput M is w.2) (ck + R'.cells) (sk + R'.slots)) : BdP E y R mc ms O pc L st M ck sk := by
  refine Bd.callS hy hv hn hlk hd hsp hR hst hcat is hnd hC hroom (fun M' h => ?_) (fun X M' h => by cases h) (fun v M' h => by cases h; exact kk)
  rcases h with ⟨v, h⟩ | ⟨X, h⟩
  · cases h; exact hM
  · cases h
/-- .. it throws, and that is this method's end -/
theorem Bd.callVx {y' : xM} {R' : Room} {As rest : List Value} {b : Nat} {Mc : va_W} {w : String × va_W} {idx : Nat} (hy : xMok y') (hv : xVok y') (hn : xNa y' As.length) (hlk : Cond.methodLink (xCn y.2.2.2.2) idx y'.1 ∈ xAll) (hd : decode y.2.1 pc = .ok (.invokevirtual idx, 3))
    (hsp : Sp E y' R' (.ref b :: As) Mc (.inr w)) (hR : R'.frames + 1 ≤ R.frames ∧ 8 + (y'.2.2.1 + 11) + R'.locals ≤ R.locals) (hst : st = As.reverse ++ .ref b :: rest) (hcat : (rest.map fun v => v.category).sum ≤ 8)
    (is : List Nat) (hnd : va_nd is = true) (hC : is.map (fun i => M[i]?) = Mc.map some) (q0 : Nat) {ci : Nat} {fs : List Value} {r : vw_C} (hb : Mc[q0]? = some (b, .inr (ci, fs))) (hci : vwCl[ci]? = some r) (hrc : r.1 = y'.1.cls) (hroom : ck + R'.cells ≤ R.cells ∧ sk + R'.slots ≤ R.slots)
    (hM : (w.2.take is.length).map (·.1) = Mc.map (·.1)) (ho : O (.inr (w.1, xput M is w.2))) (hmc : ck + R'.cells ≤ mc) (hms : sk + R'.slots ≤ ms) : BdP E y R mc ms O pc L st M ck sk := by
  refine Bd.callV hy hv hn hlk hd hsp hR hst hcat is hnd hC q0 hb hci hrc hroom (fun M' h => ?_) (fun X M' h => by cases h; exact ⟨ho, hmc, hms⟩) (fun v M' h => by cases h)
  rcases h with ⟨v, h⟩ | ⟨X, h⟩
  · cases h
  · cases h; exact hM
end BCALL
