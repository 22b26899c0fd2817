/-! MACHINE: the start of the law: classes, arrays, texts, statics -/
abbrev boW : Cond := Jvm.Cond.and given_1 narrow_1
def boO : List String := ["HopOast", "HopOast$SetupReader", "HopOast$SetupReader", "HopOast$SetupReader", "HopOastLaw", "HopOastLaw", "HopOastLaw", "HopOast", "HopOast", "HopOast", "HopOast", "HopOast", "HopOast", "HopOast", "HopOast", "HopOast", "HopOast", "HopOast", "HopOast", "HopOast", "HopOast", "HopOast"]
def boK : List Nat := [77, 73, 49, 55, 143, 154, 168, 119, 105, 400, 405, 409, 308, 313, 319, 327, 332, 337, 345, 353, 300, 361]
def boP : List Nat := [264, 344, 353, 364, 375, 388, 403, 418, 451, 504, 539, 582, 618, 666, 719, 768, 807, 847, 905, 966, 1011, 1058]
def boT (i : Nat) : Term := .string (boO.getD i "") (boK.getD i 0)
def boL (i : Nat) : List Int32 := xSbyt.getD i []
def boB (i : Nat) : List Cond := .exactly (boT i) "java/lang/String" :: .eq (.field (boT i) "java/lang/String" "coder" "B") (.int 0) :: .arrayOf (.field (boT i) "java/lang/String" "value" "[B") .byte :: .eq (.length (.field (boT i) "java/lang/String" "value" "[B")) (.int (Int32.ofNat (boL i).length)) :: (List.range (boL i).length).map (fun j => .eq (.elem (.field (boT i) "java/lang/String" "value" "[B") (.int (Int32.ofNat j))) (.int ((boL i).getD j 0)))
set_option maxRecDepth 100000 in
theorem boB_at : ∀ i, i < 22 → ((flatC boW).drop (boP.getD i 0)).take (boB i).length = boB i := by decide +kernel
theorem boB_in (i : Nat) (hi : i < 22) : ∀ w ∈ boB i, w ∈ flatC boW := fun w hw => by
  rw [← boB_at i hi] at hw
  exact List.mem_of_mem_drop (List.mem_of_mem_take hw)
theorem boLen : ∀ i, i < 22 → xSlen.getD i 0 = (boL i).length ∧ (boL i).length < 2 ^ 31 := by decide +kernel
theorem boNe : ∀ i, i < 22 → ∀ j, j < 22 → i ≠ j → Int32.ofNat (xSlen.getD i 0) ≠ Int32.ofNat (xSlen.getD j 0) ∨ ∃ k, k < xSlen.getD i 0 ∧ k < xSlen.getD j 0 ∧ (xSbyt.getD i []).getD k 0 ≠ (xSbyt.getD j []).getD k 0 := by decide +kernel
theorem bo_str {args : Array Value} {s : State} {A : Nat → Prop} (h : ∀ w ∈ flatC boW, w.before args s = true) (hA : ∀ a : Nat, a < s.heap.size → ¬ A a) : ∃ adK adV : Nat → Nat, vk_S 22 xSlen xSbyt adK adV A s s.heap ∧ ∀ i, i < 22 → (boT i).eval args s none [] s = some (.ref (adK i)) := by
  have one : ∀ i : Nat, ∃ q : Nat × Nat, i < 22 → (boT i).eval args s none [] s = some (.ref q.1) ∧ va_O "java/lang/String" q.1 A s s.heap ∧ va_OF "java/lang/String" "coder" "B" (.int 0) q.1 A s s.heap ∧ va_OF "java/lang/String" "value" "[B" (.ref q.2) q.1 A s s.heap ∧ va_T .byte q.2 (boL i).length (fun j => .int ((boL i).getD j 0)) A s s.heap := by
    intro i
    by_cases hi : i < 22
    · have hb := boB_in i hi
      obtain ⟨K, V, hS, hE⟩ := vk_Sof (args := args) (s := s) (N := 1) (tm := fun _ => boT i) (len := [(boL i).length]) (byt := [boL i]) (A := A)
        (fun j hj => by obtain rfl : j = 0 := by omega
                        exact (boLen i hi).2)
        (fun j hj => h _ (hb _ List.mem_cons_self))
        (fun j hj => h _ (hb _ (List.mem_cons_of_mem _ List.mem_cons_self)))
        (fun j hj => h _ (hb _ (List.mem_cons_of_mem _ (List.mem_cons_of_mem _ List.mem_cons_self))))
        (fun j hj => by obtain rfl : j = 0 := by omega
                        exact h _ (hb _ (List.mem_cons_of_mem _ (List.mem_cons_of_mem _ (List.mem_cons_of_mem _ List.mem_cons_self)))))
        (fun j hj k hk => by obtain rfl : j = 0 := by omega
                             exact h _ (hb _ (List.mem_cons_of_mem _ (List.mem_cons_of_mem _ (List.mem_cons_of_mem _ (List.mem_cons_of_mem _ (List.mem_map.mpr ⟨k, List.mem_range.mpr hk, rfl⟩)))))))
        (fun a b ha hb hab => by omega) hA
      exact ⟨(K 0, V 0), fun _ => ⟨hE 0 (by decide), hS.1 0 (by decide)⟩⟩
    · exact ⟨(0, 0), fun q => absurd q hi⟩
  obtain ⟨ad, had⟩ := Classical.axiomOfChoice one
  refine ⟨fun i => (ad i).1, fun i => (ad i).2, ⟨fun i hi => ?_, fun i j hi hj e => ?_⟩, fun i hi => (had i hi).1⟩
  · have := (had i hi).2
    rw [← (boLen i hi).1] at this
    exact this
  · dsimp only at e
    refine Classical.byContradiction fun hij => ?_
    obtain ⟨-, -, -, ⟨cf, k, fi, f, cell, f1, f2, f3, f4, f5, f6⟩, c1, g1, g2, g3, g4, g5, g6, g7⟩ := had i hi
    obtain ⟨-, -, -, ⟨cf', k', fi', f', cell', f1', f2', f3', f4', f5', f6'⟩, c1', g1', g2', g3', g4', g5', g6', g7'⟩ := had j hj
    rw [f1] at f1'
    cases Option.some.inj f1'
    rw [← e, f3] at f3'
    cases Option.some.inj f3'
    rw [f5] at f5'
    have e2 : (ad i).2 = (ad j).2 := by
      have := Option.some.inj f5'
      injection this
    rw [← e2, g1] at g1'
    cases Option.some.inj g1'
    rcases boNe i hi j hj hij with q | ⟨n, n1, n2, n3⟩
    · rw [(boLen i hi).1, (boLen j hj).1] at q
      exact q (g5.symm.trans g5')
    · rw [(boLen i hi).1] at n1
      rw [(boLen j hj).1] at n2
      have h1 := g6 n n1
      rw [g6' n n2] at h1
      injection h1 with h1
      injection h1 with h1
      exact n3 h1.symm

theorem xt1 {n : Nat} {w : Cond} (h : tables_1_1[n]? = some w) : w ∈ lw_tbl := List.mem_append_right _ (List.mem_append_left _ (List.mem_of_getElem? h))
theorem xt2 {n : Nat} {w : Cond} (h : tables_1_2[n]? = some w) : w ∈ lw_tbl := List.mem_append_right _ (List.mem_append_right _ (List.mem_append_left _ (List.mem_of_getElem? h)))
theorem xt3 {n : Nat} {w : Cond} (h : tables_1_3[n]? = some w) : w ∈ lw_tbl := List.mem_append_right _ (List.mem_append_right _ (List.mem_append_right _ (List.mem_append_left _ (List.mem_of_getElem? h))))
theorem xt4 {n : Nat} {w : Cond} (h : tables_1_4[n]? = some w) : w ∈ lw_tbl := List.mem_append_right _ (List.mem_append_right _ (List.mem_append_right _ (List.mem_append_right _ (List.mem_append_left _ (List.mem_of_getElem? h)))))
theorem xt5 {n : Nat} {w : Cond} (h : tables_1_5[n]? = some w) : w ∈ lw_tbl := List.mem_append_right _ (List.mem_append_right _ (List.mem_append_right _ (List.mem_append_right _ (List.mem_append_right _ (List.mem_append_left _ (List.mem_of_getElem? h))))))
theorem xt6 {n : Nat} {w : Cond} (h : tables_1_6[n]? = some w) : w ∈ lw_tbl := List.mem_append_right _ (List.mem_append_right _ (List.mem_append_right _ (List.mem_append_right _ (List.mem_append_right _ (List.mem_append_right _ (List.mem_append_left _ (List.mem_of_getElem? h)))))))
theorem xt7 {n : Nat} {w : Cond} (h : tables_1_7[n]? = some w) : w ∈ lw_tbl := List.mem_append_right _ (List.mem_append_right _ (List.mem_append_right _ (List.mem_append_right _ (List.mem_append_right _ (List.mem_append_right _ (List.mem_append_right _ (List.mem_of_getElem? h)))))))
theorem boF {n : Nat} {w : Cond} (h : (flatC boW)[n]? = some w) : w ∈ flatC boW := List.mem_of_getElem? h
set_option maxRecDepth 100000 in
theorem xOdd_lw : ∀ w ∈ xOdd, w ∈ lw_tbl := List.forall_mem_cons.mpr ⟨xt1 (n := 47) rfl, List.forall_mem_cons.mpr ⟨xt1 (n := 53) rfl, List.forall_mem_cons.mpr ⟨xt1 (n := 81) rfl, List.forall_mem_cons.mpr ⟨xt1 (n := 114) rfl, List.forall_mem_cons.mpr ⟨xt1 (n := 197) rfl, List.forall_mem_cons.mpr ⟨xt1 (n := 222) rfl, List.forall_mem_cons.mpr ⟨xt2 (n := 36) rfl, List.forall_mem_cons.mpr ⟨xt2 (n := 77) rfl, List.forall_mem_cons.mpr ⟨xt2 (n := 197) rfl, List.forall_mem_cons.mpr ⟨xt6 (n := 155) rfl, List.forall_mem_cons.mpr ⟨xt4 (n := 228) rfl, List.forall_mem_cons.mpr ⟨xt4 (n := 230) rfl, List.forall_mem_cons.mpr ⟨xt4 (n := 232) rfl, List.forall_mem_cons.mpr ⟨xt5 (n := 63) rfl, List.forall_mem_cons.mpr ⟨xt4 (n := 226) rfl, List.forall_mem_cons.mpr ⟨xt5 (n := 172) rfl, List.forall_mem_cons.mpr ⟨xt6 (n := 15) rfl, List.forall_mem_cons.mpr ⟨xt4 (n := 120) rfl, List.forall_mem_cons.mpr ⟨xt4 (n := 122) rfl, List.forall_mem_cons.mpr ⟨xt4 (n := 124) rfl, List.forall_mem_cons.mpr ⟨xt4 (n := 126) rfl, List.forall_mem_cons.mpr ⟨xt4 (n := 128) rfl, List.forall_mem_cons.mpr ⟨xt7 (n := 138) rfl, List.forall_mem_cons.mpr ⟨xt4 (n := 0) rfl, fun _ h => nomatch h⟩⟩⟩⟩⟩⟩⟩⟩⟩⟩⟩⟩⟩⟩⟩⟩⟩⟩⟩⟩⟩⟩⟩⟩
set_option maxRecDepth 100000 in
theorem xNcs_fl : ∀ q ∈ xNcs, Cond.not (.castable q.1 q.2) ∈ flatC boW := fun _ h => nomatch h
set_option maxRecDepth 100000 in
theorem xStr_lw : ∀ q ∈ xStr, Cond.stringRef (xCn q.1) q.2.1 q.2.2.1 ∈ lw_tbl := List.forall_mem_cons.mpr ⟨xt2 (n := 87) rfl, List.forall_mem_cons.mpr ⟨xt2 (n := 174) rfl, List.forall_mem_cons.mpr ⟨xt2 (n := 212) rfl, List.forall_mem_cons.mpr ⟨xt2 (n := 220) rfl, List.forall_mem_cons.mpr ⟨xt3 (n := 178) rfl, List.forall_mem_cons.mpr ⟨xt4 (n := 112) rfl, List.forall_mem_cons.mpr ⟨xt4 (n := 140) rfl, List.forall_mem_cons.mpr ⟨xt5 (n := 26) rfl, List.forall_mem_cons.mpr ⟨xt5 (n := 70) rfl, List.forall_mem_cons.mpr ⟨xt5 (n := 179) rfl, List.forall_mem_cons.mpr ⟨xt6 (n := 22) rfl, List.forall_mem_cons.mpr ⟨xt6 (n := 62) rfl, List.forall_mem_cons.mpr ⟨xt6 (n := 145) rfl, List.forall_mem_cons.mpr ⟨xt6 (n := 150) rfl, List.forall_mem_cons.mpr ⟨xt6 (n := 233) rfl, List.forall_mem_cons.mpr ⟨xt7 (n := 24) rfl, List.forall_mem_cons.mpr ⟨xt7 (n := 33) rfl, List.forall_mem_cons.mpr ⟨xt7 (n := 42) rfl, List.forall_mem_cons.mpr ⟨xt7 (n := 65) rfl, List.forall_mem_cons.mpr ⟨xt7 (n := 76) rfl, List.forall_mem_cons.mpr ⟨xt7 (n := 89) rfl, List.forall_mem_cons.mpr ⟨xt7 (n := 94) rfl, fun _ h => nomatch h⟩⟩⟩⟩⟩⟩⟩⟩⟩⟩⟩⟩⟩⟩⟩⟩⟩⟩⟩⟩⟩⟩
theorem bo_inst : ∀ (ci : Nat) (r : vw_C), vwCl[ci]? = some r → Cond.instantiable r.1 r.2.2 ∈ xAll := by
  intro ci r h
  have hl : ci < 17 := (List.getElem?_eq_some_iff.mp h).1
  rcases (show ci = 0 ∨ ci = 1 ∨ ci = 2 ∨ ci = 3 ∨ ci = 4 ∨ ci = 5 ∨ ci = 6 ∨ ci = 7 ∨ ci = 8 ∨ ci = 9 ∨ ci = 10 ∨ ci = 11 ∨ ci = 12 ∨ ci = 13 ∨ ci = 14 ∨ ci = 15 ∨ ci = 16 by omega) with rfl | rfl | rfl | rfl | rfl | rfl | rfl | rfl | rfl | rfl | rfl | rfl | rfl | rfl | rfl | rfl | rfl
  · cases h; exact xm1 (n := 52) rfl rfl
  · cases h; exact xm1 (n := 80) rfl rfl
  · cases h; exact xm1 (n := 196) rfl rfl
  · cases h; exact xm1 (n := 46) rfl rfl
  · cases h; exact xm2 (n := 76) rfl rfl
  · cases h; exact xm1 (n := 113) rfl rfl
  · cases h; exact xm2 (n := 35) rfl rfl
  · cases h; exact xm2 (n := 53) rfl rfl
  · cases h; exact xm2 (n := 22) rfl rfl
  · cases h; exact xm1 (n := 221) rfl rfl
  · cases h; exact xm1 (n := 236) rfl rfl
  · cases h; exact xm1 (n := 38) rfl rfl
  · cases h; exact xm4 (n := 114) rfl rfl
  · cases h; exact xm3 (n := 100) rfl rfl
  · cases h; exact xm4 (n := 164) rfl rfl
  · cases h; exact xm3 (n := 177) rfl rfl
  · cases h; exact xm3 (n := 106) rfl rfl
set_option maxRecDepth 100000 in
theorem bo_fw {args : Array Value} {s : State} (hts : ∀ w ∈ lw_tbl, w.before args s = true) : ∀ q ∈ xFW, va_Fw "java/util/ArrayList" q.1 q.2 s := List.forall_mem_cons.mpr ⟨va_Fw.of (hts _ (xt5 (n := 217) rfl)) (hts _ (xt5 (n := 216) rfl)) (hts _ (xt5 (n := 222) rfl)) (hts _ (xt5 (n := 220) rfl)) (hts _ (xt5 (n := 218) rfl)), List.forall_mem_cons.mpr ⟨va_Fw.of (hts _ (xt6 (n := 36) rfl)) (hts _ (xt6 (n := 35) rfl)) (hts _ (xt6 (n := 40) rfl)) (hts _ (xt6 (n := 38) rfl)) (hts _ (xt5 (n := 218) rfl)), List.forall_mem_cons.mpr ⟨va_Fw.of (hts _ (xt6 (n := 174) rfl)) (hts _ (xt6 (n := 173) rfl)) (hts _ (xt6 (n := 178) rfl)) (hts _ (xt6 (n := 176) rfl)) (hts _ (xt5 (n := 218) rfl)), List.forall_mem_cons.mpr ⟨va_Fw.of (hts _ (xt7 (n := 50) rfl)) (hts _ (xt7 (n := 49) rfl)) (hts _ (xt7 (n := 54) rfl)) (hts _ (xt7 (n := 52) rfl)) (hts _ (xt5 (n := 218) rfl)), fun _ h => nomatch h⟩⟩⟩⟩
theorem sel_up {y y0 : MethodName} {C : String} {s : State} {args : Array Value} (hy : y.cls ≠ "java/lang/invoke/MethodHandle" ∧ y.cls ≠ "java/lang/invoke/VarHandle") (hpriv : (Cond.privateMethod y).before args s = true) (hinst : (Cond.instanceMethod y).before args s = true) (hs0 : (Cond.selects C y0 y0).before args s = true) (hcc : y0.cls = y.cls) : (Cond.selects C y y).before args s = true := by
  obtain ⟨c, r0, m0, q1, q2, q3, q4, kP, hkP, hkPi⟩ := Cond.selects_spec hs0
  obtain ⟨mk, methM, hnamed, hmethM, -, -⟩ := Cond.instanceMethod_spec hinst
  have hfound : s.methodFound? y.cls y.name y.desc = some mk := State.methodFound?_of_named hnamed hy
  have hcls : mk.cls = m0.cls := by
    have h1 := findClass_of_methodNamed hnamed
    have h2 := findClass_of_methodNamed q3
    rw [hcc, h1] at h2
    exact Option.some.inj h2
  have hsel : selectMethod {} s.vm c mk = .method mk := selectMethod_private hmethM (Cond.privateMethod_at hpriv mk methM hnamed hmethM)
  simp only [Cond.before, Cond.holds, Cond.value, q1, hfound, hnamed, hsel, hcls, hkP]
  simp; exact hkPi
theorem bo_sx {args : Array Value} {s : State} (hts : ∀ w ∈ lw_tbl, w.before args s = true) : ∀ w ∈ xSx, w.before args s = true := List.forall_mem_cons.mpr ⟨sel_up (y0 := ⟨"java/lang/AbstractStringBuilder", "isLatin1", "()Z"⟩) (by decide) (hts _ (xt3 (n := 215) rfl)) (hts _ (xt3 (n := 216) rfl)) (hts _ (xt4 (n := 9) rfl)) rfl, List.forall_mem_cons.mpr ⟨sel_up (y0 := ⟨"java/lang/AbstractStringBuilder", "isLatin1", "()Z"⟩) (by decide) (hts _ (xt3 (n := 219) rfl)) (hts _ (xt3 (n := 220) rfl)) (hts _ (xt4 (n := 9) rfl)) rfl, List.forall_mem_cons.mpr ⟨sel_up (y0 := ⟨"java/lang/AbstractStringBuilder", "isLatin1", "()Z"⟩) (by decide) (hts _ (xt4 (n := 28) rfl)) (hts _ (xt4 (n := 29) rfl)) (hts _ (xt4 (n := 9) rfl)) rfl, List.forall_mem_cons.mpr ⟨sel_up (y0 := ⟨"java/lang/AbstractStringBuilder", "isLatin1", "()Z"⟩) (by decide) (hts _ (xt4 (n := 32) rfl)) (hts _ (xt4 (n := 33) rfl)) (hts _ (xt4 (n := 9) rfl)) rfl, fun _ h => nomatch h⟩⟩⟩⟩
theorem bo_all {args : Array Value} {s : State} (hts : ∀ w ∈ lw_tbl, w.before args s = true) : ∀ w ∈ xAll, w.before args s = true := fun w hw => by
  rcases List.mem_append.mp (List.mem_filter.mp hw).1 with h | h
  · exact bo_sx hts w h
  · exact hts w h
theorem bo_arr {args : Array Value} {s : State} {ty : FieldType} (h : (Cond.arrayClass ty).before args s = true) (hp : ty = .int ∨ ty = .byte ∨ ty = .boolean) : ∃ cA, ArrOfT s cA ty ∧ va_RA s cA ty := by
  obtain ⟨c, k, comp, h1, h2, h3⟩ := Cond.arrayClass_spec h
  refine ⟨c, fun n z => ⟨fun k h => (by cases h), k, h2, comp, h3⟩, ?_⟩
  rcases hp with rfl | rfl | rfl <;> exact h1
theorem bo_arq {args : Array Value} {s : State} {C : String} (h : (Cond.arrayOver (.object C)).before args s = true) : ∃ cA, ArrOfT s cA (.object C) ∧ va_RA s cA (.object C) := by
  obtain ⟨comp, c, k, f1, -, f2, f3, f4⟩ := Cond.arrayOver_spec h
  exact ⟨c, fun N z => ⟨fun k h => (by cases h), k, f2, comp, f3⟩, k, comp, f2, f3, f1, f4⟩
theorem vkS_cong {N : Nat} {len : List Nat} {byt : List (List Int32)} {a a' v : Nat → Nat} {A : Nat → Prop} {U : State} {H : Heap} (hc : ∀ i, i < N → a' i = a i) (h : vk_S N len byt a v A U H) : vk_S N len byt a' v A U H :=
  ⟨fun i hi => by rw [hc i hi]; exact h.1 i hi, fun i j hi hj e => h.2 i j hi hj (by rw [hc i hi, hc j hj] at e; exact e)⟩
set_option maxRecDepth 100000 in
theorem bo_DigitOnes_l : ((flatC boW).drop 16).take 100 = (List.range 100).map (fun j => Cond.eq (.elem (.static "java/lang/Integer" "DigitOnes" "[B") (.int (Int32.ofNat j))) (.int (nI (48 + j % 10)))) := by decide +kernel
theorem bo_DigitOnes_w {args : Array Value} {s : State} (h : ∀ w ∈ flatC boW, w.before args s = true) : ∀ j : Nat, j < 100 → (Term.elem (.static "java/lang/Integer" "DigitOnes" "[B") (.int (Int32.ofNat j))).eval args s none [] s = some (xD1 j) := fun j hj => va_eqt (h _ (List.mem_of_mem_drop (List.mem_of_mem_take (i := 100) (by rw [bo_DigitOnes_l]; exact List.mem_map.mpr ⟨j, List.mem_range.mpr hj, rfl⟩))))
theorem bo_DigitOnes {args : Array Value} {s : State} {A : Nat → Prop} (hts : ∀ w ∈ lw_tbl, w.before args s = true) (h : ∀ w ∈ flatC boW, w.before args s = true) (hA : ∀ a : Nat, a < s.heap.size → ¬ A a) : ∃ t : Nat, va_Z "java/lang/Integer" "DigitOnes" "[B" (.ref t) A s s.heap ∧ va_T .byte t 100 xD1 A s s.heap := by
  obtain ⟨t, h1, h2⟩ := va_Tof (tm := .static "java/lang/Integer" "DigitOnes" "[B") (ty := .byte) (N := 100) (f := xD1) (by decide) (h _ (boF (n := 14) rfl)) (va_eqt (h _ (boF (n := 15) rfl))) (bo_DigitOnes_w h) hA
  exact ⟨t, va_Zref (hts _ (xt4 (n := 86) rfl)) (hts _ (xt1 (n := 27) rfl)) h1 hA, h2⟩
set_option maxRecDepth 100000 in
theorem bo_DigitTens_l : ((flatC boW).drop 119).take 100 = (List.range 100).map (fun j => Cond.eq (.elem (.static "java/lang/Integer" "DigitTens" "[B") (.int (Int32.ofNat j))) (.int (nI (48 + j / 10)))) := by decide +kernel
theorem bo_DigitTens_w {args : Array Value} {s : State} (h : ∀ w ∈ flatC boW, w.before args s = true) : ∀ j : Nat, j < 100 → (Term.elem (.static "java/lang/Integer" "DigitTens" "[B") (.int (Int32.ofNat j))).eval args s none [] s = some (xD10 j) := fun j hj => va_eqt (h _ (List.mem_of_mem_drop (List.mem_of_mem_take (i := 100) (by rw [bo_DigitTens_l]; exact List.mem_map.mpr ⟨j, List.mem_range.mpr hj, rfl⟩))))
theorem bo_DigitTens {args : Array Value} {s : State} {A : Nat → Prop} (hts : ∀ w ∈ lw_tbl, w.before args s = true) (h : ∀ w ∈ flatC boW, w.before args s = true) (hA : ∀ a : Nat, a < s.heap.size → ¬ A a) : ∃ t : Nat, va_Z "java/lang/Integer" "DigitTens" "[B" (.ref t) A s s.heap ∧ va_T .byte t 100 xD10 A s s.heap := by
  obtain ⟨t, h1, h2⟩ := va_Tof (tm := .static "java/lang/Integer" "DigitTens" "[B") (ty := .byte) (N := 100) (f := xD10) (by decide) (h _ (boF (n := 117) rfl)) (va_eqt (h _ (boF (n := 118) rfl))) (bo_DigitTens_w h) hA
  exact ⟨t, va_Zref (hts _ (xt4 (n := 88) rfl)) (hts _ (xt1 (n := 27) rfl)) h1 hA, h2⟩
theorem bo_empty {args : Array Value} {s : State} {A : Nat → Prop} (hts : ∀ w ∈ lw_tbl, w.before args s = true) (h : ∀ w ∈ flatC boW, w.before args s = true) (hA : ∀ a : Nat, a < s.heap.size → ¬ A a) : ∃ t : Nat, va_Z "java/util/ArrayList" "DEFAULTCAPACITY_EMPTY_ELEMENTDATA" "[Ljava/lang/Object;" (.ref t) A s s.heap ∧ va_T (.object "java/lang/Object") t 0 (fun _ => .null) A s s.heap := by
  obtain ⟨t, h1, h2⟩ := va_Tof (tm := .static "java/util/ArrayList" "DEFAULTCAPACITY_EMPTY_ELEMENTDATA" "[Ljava/lang/Object;") (ty := .object "java/lang/Object") (N := 0) (f := fun _ => .null) (by decide) (h _ (boF (n := 10) rfl)) (va_eqt (h _ (boF (n := 12) rfl))) (fun j hj => absurd hj (Nat.not_lt_zero j)) hA
  exact ⟨t, va_Zref (hts _ (xt3 (n := 118) rfl)) (hts _ (xt1 (n := 20) rfl)) h1 hA, h2⟩
set_option maxRecDepth 100000 in
theorem boot {args : Array Value} {s : State} (hts : ∀ w ∈ lw_tbl, w.before args s = true) (h : ∀ w ∈ flatC boW, w.before args s = true) : ∃ E : xE, va_K E.1 vwCl (xTy E) s ∧ xG E (fun q => s.heap.size ≤ q) s s.heap := by
  have hx : ∀ w ∈ xAll, w.before args s = true := bo_all hts
  have hA : ∀ a : Nat, a < s.heap.size → ¬ (fun q : Nat => s.heap.size ≤ q) a := fun a ha => Nat.not_le.mpr ha
  have cl : ∀ c : Nat, ∃ p : ClassId × (Nat → Nat), ∀ q : vw_C, vwCl[c]? = some q → u_Kn s q.1 q.2.1 q.2.2 p.1 p.2 := by
    intro c
    cases hq : vwCl[c]? with
    | none => exact ⟨(0, fun _ => 0), fun q w => by cases w⟩
    | some r =>
      obtain ⟨cC, iS, hk⟩ := u_known (C := r.1) (T := r.2.1) (N := r.2.2) (n := r.2.2) hx (xCl c r hq).1 (hx _ (bo_inst c r hq))
      exact ⟨(cC, iS), fun q w => by cases w; exact hk⟩
  obtain ⟨D, hD⟩ := Classical.axiomOfChoice cl
  obtain ⟨c0, a0, b0⟩ := bo_arr (hx _ xar_int) (Or.inl rfl)
  obtain ⟨c1, a1, b1⟩ := bo_arr (hx _ xar_byte) (Or.inr (Or.inl rfl))
  obtain ⟨c2, a2, b2⟩ := bo_arr (hx _ xar_boolean) (Or.inr (Or.inr rfl))
  have hov3 : (Cond.arrayOver (.object RX3)).before args s = true := hts _ (xt1 (n := 202) rfl)
  obtain ⟨c3, a3, b3⟩ := bo_arq hov3
  have hov4 : (Cond.arrayOver (.object RX12)).before args s = true := hts _ (xt4 (n := 111) rfl)
  obtain ⟨c4, a4, b4⟩ := bo_arq hov4
  have hov5 : (Cond.arrayOver (.object "java/lang/Object")).before args s = true := hts _ (xt6 (n := 225) rfl)
  obtain ⟨c5, a5, b5⟩ := bo_arq hov5
  obtain ⟨adK, adV, hS, hE⟩ := bo_str (args := args) (s := s) h hA
  obtain ⟨d1, hd1⟩ := bo_DigitOnes hts h hA
  obtain ⟨d10, hd10⟩ := bo_DigitTens hts h hA
  obtain ⟨de, hde⟩ := bo_empty hts h hA
  obtain ⟨mi, hmi⟩ := va_Mi.of (C := "[Ljava/lang/Object;") (h _ (boF (n := 263) rfl))
  obtain ⟨ad, had, e40, e41, e42, e43⟩ : ∃ ad : Nat → Nat, (∀ i, i < 22 → ad i = adK i) ∧ ad 40 = d1 ∧ ad 41 = d10 ∧ ad 42 = de ∧ ad 43 = mi :=
    ⟨fun i => if i < 22 then adK i else if i = 40 then d1 else if i = 41 then d10 else if i = 42 then de else mi, fun i hi => if_pos hi, rfl, rfl, rfl, rfl⟩
  rw [← e40] at hd1
  rw [← e41] at hd10
  rw [← e42] at hde
  rw [← e43] at hmi
  refine ⟨((fun c => (D c).1, fun c => (D c).2), (c0, (c1, c4, c5), c2, c3), ad, adV), ⟨fun c q hq => hD c q hq, fun k q hk => ?_⟩, ⟨fun w hw => va_Nw.of (xOdd_tab w hw) (hts w (xOdd_lw w hw)), fun q hq => va_Nc.of (h _ (xNcs_fl q hq))⟩, va_AO.of hov3, ?_, ?_, ⟨vkS_cong had hS, ?_, ?_⟩, fun q hq => vk_R.of (hts _ (xStr_lw q hq)) ?_, hd1, hd10, hde, ⟨va_AO.of hov4, va_AO.of hov5, hmi, va_Dc.of (hts _ (xt7 (n := 161) rfl))⟩, bo_fw hts⟩
  · match k, hk with
    | 0, hk => cases hk; exact ⟨a0, b0⟩
    | 1, hk => cases hk; exact ⟨a1, b1⟩
    | 2, hk => cases hk; exact ⟨a2, b2⟩
    | 3, hk => cases hk; exact ⟨a3, b3⟩
    | 4, hk => cases hk; exact ⟨a4, b4⟩
    | 5, hk => cases hk; exact ⟨a5, b5⟩
  · exact vx_Zqof (hts _ (xt5 (n := 11) rfl)) (hts _ (xt1 (n := 29) rfl)) (h _ (boF (n := 219) rfl)) hA
  · exact vx_Zqof (hts _ (xt5 (n := 13) rfl)) (hts _ (xt1 (n := 29) rfl)) (h _ (boF (n := 220) rfl)) hA
  · exact va_Zof (hts _ (xt2 (n := 97) rfl)) (hts _ (xt1 (n := 13) rfl)) (va_eqt (h _ (boF (n := 4) rfl))) hA
  · exact va_Zqof (hts _ (xt2 (n := 113) rfl)) (hts _ (xt1 (n := 15) rfl)) (h _ (boF (n := 5) rfl)) hA
  · have key : ∀ q ∈ xStr, ∃ i, i < 22 ∧ q.2.2.2 = i ∧ boT i = .string (xCn q.1) q.2.1 := List.forall_mem_cons.mpr ⟨⟨0, by decide, rfl, rfl⟩, List.forall_mem_cons.mpr ⟨⟨1, by decide, rfl, rfl⟩, List.forall_mem_cons.mpr ⟨⟨2, by decide, rfl, rfl⟩, List.forall_mem_cons.mpr ⟨⟨3, by decide, rfl, rfl⟩, List.forall_mem_cons.mpr ⟨⟨4, by decide, rfl, rfl⟩, List.forall_mem_cons.mpr ⟨⟨5, by decide, rfl, rfl⟩, List.forall_mem_cons.mpr ⟨⟨6, by decide, rfl, rfl⟩, List.forall_mem_cons.mpr ⟨⟨7, by decide, rfl, rfl⟩, List.forall_mem_cons.mpr ⟨⟨8, by decide, rfl, rfl⟩, List.forall_mem_cons.mpr ⟨⟨9, by decide, rfl, rfl⟩, List.forall_mem_cons.mpr ⟨⟨10, by decide, rfl, rfl⟩, List.forall_mem_cons.mpr ⟨⟨11, by decide, rfl, rfl⟩, List.forall_mem_cons.mpr ⟨⟨12, by decide, rfl, rfl⟩, List.forall_mem_cons.mpr ⟨⟨13, by decide, rfl, rfl⟩, List.forall_mem_cons.mpr ⟨⟨14, by decide, rfl, rfl⟩, List.forall_mem_cons.mpr ⟨⟨15, by decide, rfl, rfl⟩, List.forall_mem_cons.mpr ⟨⟨16, by decide, rfl, rfl⟩, List.forall_mem_cons.mpr ⟨⟨17, by decide, rfl, rfl⟩, List.forall_mem_cons.mpr ⟨⟨18, by decide, rfl, rfl⟩, List.forall_mem_cons.mpr ⟨⟨19, by decide, rfl, rfl⟩, List.forall_mem_cons.mpr ⟨⟨20, by decide, rfl, rfl⟩, List.forall_mem_cons.mpr ⟨⟨21, by decide, rfl, rfl⟩, fun _ h => nomatch h⟩⟩⟩⟩⟩⟩⟩⟩⟩⟩⟩⟩⟩⟩⟩⟩⟩⟩⟩⟩⟩⟩
    obtain ⟨i, hi, e1, e2⟩ := key q hq
    rw [← e2, e1]
    show _ = some (Value.ref (ad i))
    rw [had i hi]
    exact hE i hi
