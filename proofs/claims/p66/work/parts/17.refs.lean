/-! arrays of references, worlds in another order, calls that make objects -/
theorem va_P.perm {D : va_G} {cl : List vw_C} {M M' : va_W} {H : Heap} (h : va_P D cl M H) (hp : ∀ q ∈ M', q ∈ M) : va_P D cl M' H := by
  intro k q hk
  obtain ⟨i, hi⟩ := List.getElem?_of_mem (hp q (List.mem_of_getElem? hk))
  exact h i q hi
theorem va_D.iff {A : Nat → Prop} {M : va_W} : va_D A M ↔ (M.map (·.1)).Nodup ∧ ∀ q ∈ M, A q.1 := by
  constructor
  · rintro ⟨h1, h2⟩
    refine ⟨?_, fun q hq => ?_⟩
    · rw [List.Nodup, List.pairwise_iff_getElem]
      intro i j hi hj hij
      simp only [List.length_map] at hi hj
      intro he
      simp only [List.getElem_map] at he
      have := h1 i j M[i] M[j] (List.getElem?_eq_getElem hi) (List.getElem?_eq_getElem hj) he
      omega
    · obtain ⟨i, hi⟩ := List.getElem?_of_mem hq
      exact h2 i q hi
  · rintro ⟨h1, h2⟩
    refine ⟨fun i j p q hp hq he => ?_, fun k q hk => h2 q (List.mem_of_getElem? hk)⟩
    rw [List.Nodup, List.pairwise_iff_getElem] at h1
    obtain ⟨hi, ei⟩ := List.getElem?_eq_some_iff.mp hp
    obtain ⟨hj, ej⟩ := List.getElem?_eq_some_iff.mp hq
    by_cases h : i < j
    · refine absurd ?_ (h1 i j (by simpa using hi) (by simpa using hj) h)
      simp only [List.getElem_map, ei, ej, he]
    · by_cases h' : j < i
      · refine absurd ?_ (h1 j i (by simpa using hj) (by simpa using hi) h')
        simp only [List.getElem_map, ei, ej, he]
      · omega
theorem va_D.perm {A : Nat → Prop} {M M' : va_W} (h : va_D A M) (hp : M.Perm M') : va_D A M' := by
  rw [va_D.iff] at h ⊢
  exact ⟨((hp.map (·.1)).nodup_iff).mp h.1, fun q hq => h.2 q (hp.mem_iff.mpr hq)⟩
theorem va_D.subl {A : Nat → Prop} {M M' : va_W} (h : va_D A M) (hp : M'.Sublist M) : va_D A M' := by
  rw [va_D.iff] at h ⊢
  exact ⟨h.1.sublist (hp.map (·.1)), fun q hq => h.2 q (hp.subset hq)⟩
/-- a caller's cells beside the callee's -/
theorem x_pre2 {E : xE} {s : State} {A : Nat → Prop} {Mc Rest : va_W} {H : Heap} {locs : List Loc} {As : List Value} (hK : va_K E.1 vwCl (xTy E) s) (hG : xG E A s s.heap) (hP : va_P E.1 vwCl (Mc ++ Rest) H) (hD : va_D A (Mc ++ Rest)) (hS : va_S A s.heap H locs) (hA : ∀ q, s.heap.size ≤ q → A q) :
    PreS s H (va_Pc As (fun U => U.heap.size = H.size ∧ va_P E.1 vwCl Mc U.heap ∧ va_K E.1 vwCl (xTy E) U ∧ va_D (fun _ => True) Mc ∧ xG E (va_A Mc H.size) U U.heap)) As ∧ (∀ q, va_A Mc H.size q → A q) ∧ va_P E.1 vwCl Mc H := by
  have hPc : va_P E.1 vwCl Mc H := hP.perm (fun q hq => List.mem_append_left _ hq)
  have hDc : va_D A Mc := hD.subl (List.sublist_append_left _ _)
  have hF : ∀ q, va_A Mc H.size q → A q := by
    rintro q (⟨k, e, hk⟩ | hq)
    · exact hDc.2 k _ hk
    · exact hA q (Nat.le_trans hS.1 hq)
  refine ⟨⟨fun a U g mk q => ?_, fun U hU hW => ⟨rfl, by rw [hU], by rw [hU]; exact hPc, va_K.moved hW.alike hK, hDc.weaken (fun _ _ _ _ => trivial), ?_⟩⟩, hF, hPc⟩
  · obtain ⟨q0, q1, qP, qK, qD, qG⟩ := q
    exact ⟨q0, q1, qP, va_K.moved (u := U) (U := U.calling g mk a) (Vm.Alike.refl U.vm) qK, qD, qG.same rfl⟩
  · rw [hU]
    exact ((hG.kept hS.2.1).narrow' hS.1 hF).warm hW
theorem x_join2 {A : Nat → Prop} {D : va_G} {cl : List vw_C} {Mc Rest M' : va_W} {H H1 : Heap} (hP : va_P D cl (Mc ++ Rest) H) (hD : va_D A (Mc ++ Rest))
    (hk : ∀ q : Nat, q < H.size → ¬ va_A Mc H.size q → H1[q]? = H[q]?) (hF : ∀ q, va_A Mc H.size q → A q) (hP1 : va_P D cl M' H1) (hD1 : va_D (va_A Mc H.size) M') : va_P D cl (M' ++ Rest) H1 ∧ va_D A (M' ++ Rest) := by
  have apart : ∀ q ∈ Rest, q.1 < H.size ∧ ¬ va_A Mc H.size q.1 := by
    intro q hq
    obtain ⟨k, hk⟩ := List.getElem?_of_mem hq
    have hk' : (Mc ++ Rest)[Mc.length + k]? = some q := by rw [List.getElem?_append_right (by omega)]; simpa using hk
    have hl := (hP _ q hk').lt
    refine ⟨hl, fun h => ?_⟩
    rcases h with ⟨j, e, h⟩ | h
    · have hj : j < Mc.length := (List.getElem?_eq_some_iff.mp h).1
      have h' : (Mc ++ Rest)[j]? = some (q.1, e) := by rw [List.getElem?_append_left hj]; exact h
      have := hD.1 _ _ _ _ h' hk' rfl
      omega
    · omega
  refine ⟨hP1.app (fun k q h => ?_), va_D.app (hD1.weaken (fun k q _ h => hF _ h)) (hD.subl (List.sublist_append_right _ _)) (fun i j p q hp hq e => ?_)⟩
  · obtain ⟨g1, g2⟩ := apart q (List.mem_of_getElem? h)
    have hk' : (Mc ++ Rest)[Mc.length + k]? = some q := by rw [List.getElem?_append_right (by omega)]; simpa using h
    exact (hP _ q hk').kept (hk q.1 g1 g2)
  · obtain ⟨g1, g2⟩ := apart q (List.mem_of_getElem? hq)
    exact g2 (by rw [← e]; exact hD1.2 _ p hp)
theorem xanl : Cond.classLink (xCn 2) 9 RX3 ∈ xAll := xm1 (n := 201) rfl rfl
section BREF
variable {E : xE} {y : xM} {R : Room} {mc ms : Nat} {O : xO → Prop} {pc : Nat} {L : xL} {st : List Value} {M : va_W} {ck sk : Nat}
/-- the world in another order -/
theorem Bd.perm {M' : va_W} (hp : M.Perm M') (k : BdP E y R mc ms O pc L st M' ck sk) : BdP E y R mc ms O pc L st M ck sk :=
  fun p l e s m args below meth c A H locs ls hF hr hx hP hD hS hl hLn => k p l e s m args below meth c A H locs ls hF hr hx (hP.perm (fun _ hq => hp.mem_iff.mpr hq)) (hD.perm hp) hS hl hLn
/-- cells that are no longer looked at -/
theorem Bd.drop {M' : va_W} (hp : M'.Sublist M) (k : BdP E y R mc ms O pc L st M' ck sk) : BdP E y R mc ms O pc L st M ck sk :=
  fun p l e s m args below meth c A H locs ls hF hr hx hP hD hS hl hLn => k p l e s m args below meth c A H locs ls hF hr hx (hP.perm (fun _ hq => hp.subset hq)) (hD.subl hp) hS hl hLn
theorem Bd.aald (q0 : Nat) {a n : Nat} {f : Nat → Option Nat} (hM : M[q0]? = some (a, .inl (E.2.1.2.2.2, n, .inr (.inr (.inr (.inr f)))))) {i : Int32} (hin : vp_in i n) (hd : decode y.2.1 pc = .ok (.aaload, 1))
    (k : BdP E y R mc ms O (pc + 1) L (va_rf (f i.toNatClampNeg) :: st) M ck sk) : BdP E y R mc ms O pc L (.int i :: .ref a :: st) M ck sk := by
  intro p l e s m args below meth c A H locs ls hF hr hx hP hD hS hl hLn
  obtain ⟨hexec, hl0, hbt, hml, hown, hts, hlocks, hnm, hA, hKK, hG⟩ := id hF
  exact va_aldq hexec hbt hKK hP q0 3 (C := RX3) hM rfl hin hd (k p l e s m args below meth c A H locs ls hF hr hx hP hD hS hl hLn)
theorem Bd.aast (q0 qk : Nat) {a n v : Nat} {vs : List Value} {f : Nat → Option Nat} (hM : M[q0]? = some (a, .inl (E.2.1.2.2.2, n, .inr (.inr (.inr (.inr f)))))) (hv : M[qk]? = some (v, .inr (3, vs))) {i : Int32} (hin : vp_in i n) (hd : decode y.2.1 pc = .ok (.aastore, 1))
    (k : BdP E y R mc ms O (pc + 1) L st (M.set q0 (a, .inl (E.2.1.2.2.2, n, .inr (.inr (.inr (.inr (va_up f i.toNatClampNeg (some v)))))))) ck sk) : BdP E y R mc ms O pc L (.ref v :: .int i :: .ref a :: st) M ck sk := by
  intro p l e s m args below meth c A H locs ls hF hr hx hP hD hS hl hLn
  obtain ⟨hexec, hl0, hbt, hml, hown, hts, hlocks, hnm, hA, hKK, hG⟩ := id hF
  exact va_astq hexec hbt hKK hP hD hS q0 3 qk 3 (r := (vwCl[3]?).getD default) hM rfl hv rfl hin hd (fun H1 locs1 hP1 hD1 hS1 => k p l e s m args below meth c A H1 locs1 ls hF hr hx hP1 hD1 hS1 hl hLn)
theorem Bd.aastN (q0 : Nat) {a n : Nat} {f : Nat → Option Nat} (hM : M[q0]? = some (a, .inl (E.2.1.2.2.2, n, .inr (.inr (.inr (.inr f)))))) {i : Int32} (hin : vp_in i n) (hd : decode y.2.1 pc = .ok (.aastore, 1))
    (k : BdP E y R mc ms O (pc + 1) L st (M.set q0 (a, .inl (E.2.1.2.2.2, n, .inr (.inr (.inr (.inr (va_up f i.toNatClampNeg none))))))) ck sk) : BdP E y R mc ms O pc L (.null :: .int i :: .ref a :: st) M ck sk := by
  intro p l e s m args below meth c A H locs ls hF hr hx hP hD hS hl hLn
  obtain ⟨hexec, hl0, hbt, hml, hown, hts, hlocks, hnm, hA, hKK, hG⟩ := id hF
  exact va_astqN hexec hbt hKK hP hD hS q0 3 (C := RX3) hM rfl hin hd (fun H1 locs1 hP1 hD1 hS1 => k p l e s m args below meth c A H1 locs1 ls hF hr hx hP1 hD1 hS1 hl hLn)
theorem Bd.anew (hy : y.2.2.2.2 = 2) {n : Int32} {N' : Nat} (hn : ¬ n < 0) (hN : n.toNatClampNeg = N') (hbytes : N' * 4 ≤ 536870912) (hcells : ck + 1 ≤ R.cells) (hslots : sk + N' ≤ R.slots) (hd : decode y.2.1 pc = .ok (.anewarray 9, 3))
    (k : ∀ q : Nat, BdP E y R mc ms O (pc + 3) L (.ref q :: st) (M ++ [(q, .inl (E.2.1.2.2.2, N', .inr (.inr (.inr (.inr (fun _ => none))))))]) (ck + 1) (sk + N')) : BdP E y R mc ms O pc L (.int n :: st) M ck sk := by
  intro p l e0 s m args below meth c A H locs ls hF hr hx hP hD hS hl hLn
  obtain ⟨hexec, hl0, hbt, hml, hown, hts, hlocks, hnm, hA, hKK, hG⟩ := id hF
  rw [hy] at hown
  refine va_newq hexec hbt hown (hts _ xanl) hG.2.1 hKK hP hD hS hA hn hN hbytes hcells hslots hd (fun q cA H1 hK1 hP1 hD1 hS1 => ?_)
  have e : cA = E.2.1.2.2.2 := by
    have h1 := (hK1.2 3 (E.2.1.2.2.2, .object RX3) rfl).2
    have h2 := (hK1.2 6 (cA, .object RX3) rfl).2
    obtain ⟨k1, c1, -, -, -, f1⟩ := h1
    obtain ⟨k2, c2, -, -, -, f2⟩ := h2
    exact Option.some.inj (f2.symm.trans f1)
  subst e
  exact k q p l e0 s m args below meth c A H1 _ ls hF hr hx hP1 hD1 hS1 hl hLn
theorem x_behind2 {R' : Room} {rest : List Value} {Mc Rest : va_W} {O' : xO → Prop} {p : Program} {l : Launch} {e : Env} {s : State} {m : MethodId} {args : Array Value} {below : List Frame} {meth : Method} {c : Code} {A : Nat → Prop} {H : Heap} {locs : List Loc} {ls : Array Slot}
    (hF : xFix E y p l s m args meth c A) (hr : meth.sig.returnType = y.2.2.2.1) (hx : ∀ x ∈ c.exceptionTable.toList, False) (hP : va_P E.1 vwCl (Mc ++ Rest) H) (hD : va_D A (Mc ++ Rest)) (hS : va_S A s.heap H locs) (hl : lv_has ls y.2.2.1 (xEn 0 L)) (hLn : L.length = y.2.2.1)
    (hAc : ∀ q, va_A Mc H.size q → A q) {a : Array Value}
    (hrun : vx_Run p l e R s m args below meth c H locs ck sk R'.cells R'.slots (F0 m pc ls st) rest (xQc E O' (va_A Mc H.size) a) (xXC E O' (va_A Mc H.size)) (va_A Mc H.size))
    (kx : ∀ X M', O' (.inr (X, M')) → O (.inr (X, M' ++ Rest)) ∧ ck + R'.cells ≤ mc ∧ sk + R'.slots ≤ ms)
    (kk : ∀ v M', O' (.inl (v, M')) → BdP E y R mc ms O (pc + 3) L (v.toList ++ rest) (M' ++ Rest) (ck + R'.cells) (sk + R'.slots)) :
    W p l e R s m args below meth c H locs ck sk (vx_MQ below (xQc E O A) (xXC E O A) args s mc ms A) (F0 m pc ls st) := by
  refine x_call hrun hS hAc (fun X M' ce q9 H1 locs1 ho hP1 hD1 hk hS1 hce hcv hcl => ?_) (fun v M' H1 locs1 ho hP1 hD1 hk hS1 => ?_)
  · obtain ⟨k1, k2, k3⟩ := kx X M' ho
    obtain ⟨hP2, hD2⟩ := x_join2 hP hD hk hAc hP1 hD1
    exact vx_out (fun x h => (hx x h).elim) hF.2.2.2.2.2.2.1 hce hcv hcl (fun t ht hal => ⟨_, k1, by rw [ht]; exact hP2, hD2, hS1.F ht⟩) hS1.2.2 k2 k3
  · obtain ⟨hP2, hD2⟩ := x_join2 hP hD hk hAc hP1 hD1
    exact kk v M' ho p l e s m args below meth c A H1 locs1 ls hF hr hx hP2 hD2 hS1 hl hLn
/-- a call whose cells stand ahead -/
theorem Bd.callVa {y' : xM} {R' : Room} {As rest : List Value} {b : Nat} {Mc Rest : va_W} {O' : xO → Prop} {idx : Nat} (hy : xMok y') (hv : xVok y') (hn : xNa y' As.length) (hlk : Cond.methodLink (xCn y.2.2.2.2) idx y'.1 ∈ xAll) (hd : decode y.2.1 pc = .ok (.invokevirtual idx, 3))
    (hsp : SpP E y' R' (.ref b :: As) Mc O') (hR : R'.frames + 1 ≤ R.frames ∧ 8 + (y'.2.2.1 + 11) + R'.locals ≤ R.locals) (hst : st = As.reverse ++ .ref b :: rest) (hcat : (rest.map fun v => v.category).sum ≤ 8)
    (q0 : Nat) {ci : Nat} {fs : List Value} {r : vw_C} (hb : Mc[q0]? = some (b, .inr (ci, fs))) (hci : vwCl[ci]? = some r) (hrc : r.1 = y'.1.cls) (hroom : ck + R'.cells ≤ R.cells ∧ sk + R'.slots ≤ R.slots)
    (kx : ∀ X M', O' (.inr (X, M')) → O (.inr (X, M' ++ Rest)) ∧ ck + R'.cells ≤ mc ∧ sk + R'.slots ≤ ms)
    (kk : ∀ v M', O' (.inl (v, M')) → BdP E y R mc ms O (pc + 3) L (v.toList ++ rest) (M' ++ Rest) (ck + R'.cells) (sk + R'.slots)) : BdP E y R mc ms O pc L st (Mc ++ Rest) ck sk := by
  subst hst
  intro p l e s m args below meth c A H locs ls hF hr hx hP hD hS hl hLn
  obtain ⟨hexec, hl0, hbt, hml, hown, hts, hlocks, hnm, hA, hKK, hG⟩ := id hF
  obtain ⟨⟨hbl, hpre⟩, hAc, hPc⟩ := x_pre2 (As := .ref b :: As) hKK hG hP hD hS hA
  have hrec := va_recv hKK hPc hci hb
  rw [hrc] at hrec
  exact x_behind2 hF hr hx hP hD hS hl hLn hAc (vx_runV ⟨hexec, hbt, hml, hown, hts⟩ (hsp l H.size hl0) ⟨x_callB hts hy hn hlk hR, hts _ hv.1, hts _ hv.2⟩ ⟨hbl, hrec, hpre⟩ rfl rfl hl.1 rfl (lv_room hcat) hd hroom) kx kk
theorem x_metP {E : xE} {y : xM} {R : Room} {As : List Value} {M : va_W} {O' : xO → Prop} (h : SpP E y R As M O') (hO : ∀ X M', ¬ O' (.inr (X, M'))) (l : Launch) (sz : Nat) (hl : l.stackTraces = false) :
    Met l y.1 (xWs y) R (va_Pc As (fun U => U.heap.size = sz ∧ va_P E.1 vwCl M U.heap ∧ va_K E.1 vwCl (xTy E) U ∧ va_D (fun _ => True) M ∧ xG E (va_A M sz) U U.heap)) (xQc E O' (va_A M sz)) R.cells R.slots (va_A M sz) := by
  refine MetFree.mono (h l sz hl) (fun _ _ q => q) (fun _ _ _ _ _ q => q) (fun a s o t _ hq => ?_)
  rcases hq with hq | ⟨q, ho, X, ce, L, ⟨M', hX, -⟩, -⟩
  · exact hq
  · exact absurd hX (hO X M')
/-- a constructor that makes objects of its own -/
theorem Bd.callIa {y' : xM} {R' : Room} {As rest : List Value} {b : Nat} {Mc Rest : va_W} {O' : xO → Prop} {idx : Nat} (hy : xMok y') (hv : Cond.instanceMethod y'.1 ∈ xAll) (hnm : y'.1.name = "<init>") (hrt : y'.2.2.2.1 = none) (hn : xNa y' As.length) (hlk : Cond.methodLink (xCn y.2.2.2.2) idx y'.1 ∈ xAll) (hd : decode y.2.1 pc = .ok (.invokespecial idx, 3))
    (hsp : SpP E y' R' (.ref b :: As) Mc O') (hO : ∀ X M', ¬ O' (.inr (X, M'))) (hR : R'.frames + 1 ≤ R.frames ∧ 8 + (y'.2.2.1 + 11) + R'.locals ≤ R.locals) (hst : st = As.reverse ++ .ref b :: rest) (hcat : (rest.map fun v => v.category).sum ≤ 8)
    (hroom : ck + R'.cells ≤ R.cells ∧ sk + R'.slots ≤ R.slots)
    (kk : ∀ v M', O' (.inl (v, M')) → BdP E y R mc ms O (pc + 3) L (v.toList ++ rest) (M' ++ Rest) (ck + R'.cells) (sk + R'.slots)) : BdP E y R mc ms O pc L st (Mc ++ Rest) ck sk := by
  subst hst
  intro p l e s m args below meth c A H locs ls hF hr hx hP hD hS hl hLn
  obtain ⟨hexec, hl0, hbt, hml, hown, hts, hlocks, hnm0, hA, hKK, hG⟩ := id hF
  obtain ⟨⟨hbl, hpre⟩, hAc, hPc⟩ := x_pre2 (As := .ref b :: As) hKK hG hP hD hS hA
  have hcb := x_callB (R := R) (args := args) hts hy hn hlk hR
  rw [hrt] at hcb
  exact x_behind2 hF hr hx hP hD hS hl hLn hAc (x_runR (va_runI (As := As) ⟨hexec, hbt, hml, hown, hts⟩ (x_metP hsp hO l H.size hl0) ⟨hcb, hnm, hts _ hv⟩ ⟨hbl, hpre⟩ rfl rfl hl.1 rfl (lv_room hcat) hd hroom)) (fun X M' h => absurd h (hO X M')) kk
/-- a private one of a nest mate -/
theorem Bd.callINa {y' : xM} {R' : Room} {As rest : List Value} {b : Nat} {Mc Rest : va_W} {O' : xO → Prop} {idx : Nat} {host : String} (hy : xMok y') (hv : Cond.instanceMethod y'.1 ∈ xAll) (hnm : y'.1.name = "<init>") (hrt : y'.2.2.2.1 = none) (hn : xNa y' As.length) (hlk : Cond.methodLinkNest (xCn y.2.2.2.2) idx y'.1 host ∈ xOdd) (hd : decode y.2.1 pc = .ok (.invokespecial idx, 3))
    (hsp : SpP E y' R' (.ref b :: As) Mc O') (hO : ∀ X M', ¬ O' (.inr (X, M'))) (hR : R'.frames + 1 ≤ R.frames ∧ 8 + (y'.2.2.1 + 11) + R'.locals ≤ R.locals) (hst : st = As.reverse ++ .ref b :: rest) (hcat : (rest.map fun v => v.category).sum ≤ 8)
    (hroom : ck + R'.cells ≤ R.cells ∧ sk + R'.slots ≤ R.slots)
    (kk : ∀ v M', O' (.inl (v, M')) → BdP E y R mc ms O (pc + 3) L (v.toList ++ rest) (M' ++ Rest) (ck + R'.cells) (sk + R'.slots)) : BdP E y R mc ms O pc L st (Mc ++ Rest) ck sk := by
  subst hst
  intro p l e s m args below meth c A H locs ls hF hr hx hP hD hS hl hLn
  obtain ⟨hexec, hl0, hbt, hml, hown, hts, hlocks, hnm0, hA, hKK, hG⟩ := id hF
  obtain ⟨⟨hbl, hpre⟩, hAc, hPc⟩ := x_pre2 (As := .ref b :: As) hKK hG hP hD hS hA
  have hcb := va_cnB (R := R) (args := args) (ret := y'.2.2.2.1) (rm := R') As.length hts (xWsGood hy) rfl rfl rfl (hG.1.1 _ hlk) (hts _ hy.2.1) ⟨hy.2.2.2.2.1, hy.2.2.2.2.2, hn⟩ hR
  rw [hrt] at hcb
  exact x_behind2 hF hr hx hP hD hS hl hLn hAc (x_runR (va_runIN (As := As) ⟨hexec, hbt, hml, hown, hts⟩ (x_metP hsp hO l H.size hl0) ⟨hcb, hnm, hts _ hv⟩ ⟨hbl, hpre⟩ rfl rfl hl.1 rfl (lv_room hcat) hd hroom)) (fun X M' h => absurd h (hO X M')) kk
/-! quotients that are numbers -/
theorem Bd.ddiv {a b : UInt64} (hd : decode y.2.1 pc = .ok (.ddiv, 1)) (hn : vf_n64 (FP.ddiv a b)) (k : BdP E y R mc ms O (pc + 1) L (.double (FP.ddiv a b) :: st) M ck sk) : BdP E y R mc ms O pc L (.double b :: .double a :: st) M ck sk := by
  intro p l e s m args below meth c A H locs ls hF hr hx hP hD hS hl hLn
  exact lv_ddiv hF.1 hF.2.2.1 hd hn (k p l e s m args below meth c A H locs ls hF hr hx hP hD hS hl hLn)
theorem Bd.fdiv {a b : UInt32} (hd : decode y.2.1 pc = .ok (.fdiv, 1)) (hn : vf_n32 (FP.fdiv a b)) (k : BdP E y R mc ms O (pc + 1) L (.float (FP.fdiv a b) :: st) M ck sk) : BdP E y R mc ms O pc L (.float b :: .float a :: st) M ck sk := by
  intro p l e s m args below meth c A H locs ls hF hr hx hP hD hS hl hLn
  exact lv_fdiv hF.1 hF.2.2.1 hd hn (k p l e s m args below meth c A H locs ls hF hr hx hP hD hS hl hLn)
theorem Bd.f2d {a : UInt32} (hd : decode y.2.1 pc = .ok (.f2d, 1)) (hn : vf_n64 (FP.f2d a)) (k : BdP E y R mc ms O (pc + 1) L (.double (FP.f2d a) :: st) M ck sk) : BdP E y R mc ms O pc L (.float a :: st) M ck sk := by
  intro p l e s m args below meth c A H locs ls hF hr hx hP hD hS hl hLn
  exact lv_f2d hF.1 hF.2.2.1 hd hn (k p l e s m args below meth c A H locs ls hF hr hx hP hD hS hl hLn)
end BREF
/-- a result that is a number, decided -/
def xnn64 (r : UInt64) : Bool := decide (r &&& 0x7fffffffffffffff ≤ 0x7ff0000000000000)
def xnn32 (r : UInt32) : Bool := decide (r &&& 0x7fffffff ≤ 0x7f800000)
theorem on64 {α : Type} {v : UInt64} {x : Option α} {b : α} (h : (if xnn64 v = true then x else none) = some b) : (v &&& 0x7fffffffffffffff ≤ 0x7ff0000000000000) ∧ x = some b := by
  by_cases hc : xnn64 v = true
  · rw [if_pos hc] at h; unfold xnn64 at hc; exact ⟨of_decide_eq_true hc, h⟩
  · rw [if_neg hc] at h; cases h
theorem on32 {α : Type} {v : UInt32} {x : Option α} {b : α} (h : (if xnn32 v = true then x else none) = some b) : (v &&& 0x7fffffff ≤ 0x7f800000) ∧ x = some b := by
  by_cases hc : xnn32 v = true
  · rw [if_pos hc] at h; unfold xnn32 at hc; exact ⟨of_decide_eq_true hc, h⟩
  · rw [if_neg hc] at h; cases h
theorem x_prange {α : Type} : ∀ (M : List α), (List.range M.length).filterMap (fun i => M[i]?) = M
  | [] => rfl
  | a :: t => by
    have h : (List.range t.length).filterMap ((fun i => (a :: t)[i]?) ∘ Nat.succ) = t := x_prange t
    rw [List.length_cons, List.range_succ_eq_map, List.filterMap_cons, List.filterMap_map, h]
    rfl
/-- cells in another order: their places -/
theorem x_pidx {α : Type} {M M' : List α} {is : List Nat} {n : Nat} (hp : is.Perm (List.range n)) (hn : M.length = n) (he : is.filterMap (fun i => M[i]?) = M') : M'.Perm M := by
  subst hn
  rw [← he]
  exact (hp.filterMap (fun i => M[i]?)).trans (List.Perm.of_eq (x_prange M))
section BPM
variable {E : xE} {y : xM} {R : Room} {mc ms : Nat} {O : xO → Prop} {pc : Nat} {L : xL} {st : List Value} {M : va_W} {ck sk : Nat}
theorem Bd.pm {M' : va_W} {n : Nat} (is : List Nat) (hp : is.Perm (List.range n)) (hn : M.length = n) (he : is.filterMap (fun i => M[i]?) = M') (k : BdP E y R mc ms O pc L st M' ck sk) : BdP E y R mc ms O pc L st M ck sk := Bd.perm (x_pidx hp hn he).symm k
theorem Bd.pmb {M' : va_W} {n : Nat} (is : List Nat) (hp : is.Perm (List.range n)) (hn : M'.length = n) (he : is.filterMap (fun i => M'[i]?) = M) (k : BdP E y R mc ms O pc L st M' ck sk) : BdP E y R mc ms O pc L st M ck sk := Bd.perm (x_pidx hp hn he) k
theorem Bd.callVar {y' : xM} {R' : Room} {As rest : List Value} {b : Nat} {Mc Rest : va_W} {w : Option Value × va_W} {idx : Nat} (hy : xMok y') (hv : xVok y') (hn : xNa y' As.length) (hlk : Cond.methodLink (xCn y.2.2.2.2) idx y'.1 ∈ xAll) (hd : decode y.2.1 pc = .ok (.invokevirtual idx, 3))
    (hsp : Sp E y' R' (.ref b :: As) Mc (.inl w)) (hR : R'.frames + 1 ≤ R.frames ∧ 8 + (y'.2.2.1 + 11) + R'.locals ≤ R.locals) (hst : st = As.reverse ++ .ref b :: rest) (hcat : (rest.map fun v => v.category).sum ≤ 8)
    (q0 : Nat) {ci : Nat} {fs : List Value} {r : vw_C} (hb : Mc[q0]? = some (b, .inr (ci, fs))) (hci : vwCl[ci]? = some r) (hrc : r.1 = y'.1.cls) (hroom : ck + R'.cells ≤ R.cells ∧ sk + R'.slots ≤ R.slots)
    (kk : BdP E y R mc ms O (pc + 3) L (w.1.toList ++ rest) (w.2 ++ Rest) (ck + R'.cells) (sk + R'.slots)) : BdP E y R mc ms O pc L st (Mc ++ Rest) ck sk := by
  refine Bd.callVa hy hv hn hlk hd hsp hR hst hcat q0 hb hci hrc hroom (fun X M' h => by cases h) (fun v M' h => by cases h; exact kk)
theorem Bd.eqW {M' : va_W} (h : M = M') (k : BdP E y R mc ms O pc L st M' ck sk) : BdP E y R mc ms O pc L st M ck sk := h ▸ k
end BPM
