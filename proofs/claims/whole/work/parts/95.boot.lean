/-! MACHINE: the start of the law: classes, arrays, texts, statics -/
abbrev boW : Cond := Jvm.Cond.and given_1 narrow_1
def boO : List String := ["HopOast", "HopOast$SetupReader", "HopOast$SetupReader", "HopOast$SetupReader", "HopOast$ScriptReader", "HopOast$ScriptReader", "HopOast$ScriptReader", "HopOast$ScriptReader", "HopOast$ScriptReader", "HopOast$ScriptReader", "HopOast$ScriptReader", "HopOast$ScriptReader", "HopOast$ScriptReader", "HopOast", "HopOast", "HopOast", "HopOast", "HopOast", "HopOast", "HopOast", "HopOast", "HopOast", "HopOast", "HopOast", "HopOast", "HopOast", "HopOast", "HopOast", "HopOast", "HopOast", "HopOast"]
def boK : List Nat := [77, 73, 49, 55, 90, 92, 94, 96, 98, 100, 102, 104, 106, 105, 119, 400, 405, 409, 300, 308, 313, 319, 327, 332, 337, 345, 353, 361, 375, 411, 390]
def boP : List Nat := [75, 155, 163, 172, 189, 198, 208, 216, 224, 232, 240, 250, 258, 268, 313, 339, 365, 398, 423, 450, 486, 526, 561, 585, 609, 650, 693, 719, 760, 787, 812]
def boT (i : Nat) : Term := .string (boO.getD i "") (boK.getD i 0)
def boL (i : Nat) : List Int32 := xSbyt.getD i []
def boB (i : Nat) : List Cond := .exactly (boT i) "java/lang/String" :: .eq (.field (boT i) "java/lang/String" "coder" "B") (.int 0) :: .arrayOf (.field (boT i) "java/lang/String" "value" "[B") .byte :: .eq (.length (.field (boT i) "java/lang/String" "value" "[B")) (.int (Int32.ofNat (boL i).length)) :: (List.range (boL i).length).map (fun j => .eq (.elem (.field (boT i) "java/lang/String" "value" "[B") (.int (Int32.ofNat j))) (.int ((boL i).getD j 0)))
set_option maxRecDepth 100000 in
theorem boB_at : ∀ i, i < 31 → ((flatC boW).drop (boP.getD i 0)).take (boB i).length = boB i := by decide +kernel
theorem boB_in (i : Nat) (hi : i < 31) : ∀ w ∈ boB i, w ∈ flatC boW := fun w hw => by
  rw [← boB_at i hi] at hw
  exact List.mem_of_mem_drop (List.mem_of_mem_take hw)
theorem boLen : ∀ i, i < 31 → xSlen.getD i 0 = (boL i).length ∧ (boL i).length < 2 ^ 31 := by decide +kernel
theorem boNe : ∀ i, i < 31 → ∀ j, j < 31 → i ≠ j → Int32.ofNat (xSlen.getD i 0) ≠ Int32.ofNat (xSlen.getD j 0) ∨ ∃ k, k < xSlen.getD i 0 ∧ k < xSlen.getD j 0 ∧ (xSbyt.getD i []).getD k 0 ≠ (xSbyt.getD j []).getD k 0 := by decide +kernel
theorem bo_str {args : Array Value} {s : State} {A : Nat → Prop} (h : ∀ w ∈ flatC boW, w.before args s = true) (hA : ∀ a : Nat, a < s.heap.size → ¬ A a) : ∃ adK adV : Nat → Nat, vk_S 31 xSlen xSbyt adK adV A s s.heap ∧ ∀ i, i < 31 → (boT i).eval args s none [] s = some (.ref (adK i)) := by
  have one : ∀ i : Nat, ∃ q : Nat × Nat, i < 31 → (boT i).eval args s none [] s = some (.ref q.1) ∧ va_O "java/lang/String" q.1 A s s.heap ∧ va_OF "java/lang/String" "coder" "B" (.int 0) q.1 A s s.heap ∧ va_OF "java/lang/String" "value" "[B" (.ref q.2) q.1 A s s.heap ∧ va_T .byte q.2 (boL i).length (fun j => .int ((boL i).getD j 0)) A s s.heap := by
    intro i
    by_cases hi : i < 31
    · have hb := boB_in i hi
      obtain ⟨K, V, hS, hE⟩ := vk_Sof (args := args) (s := s) (N := 1) (tm := fun _ => boT i) (len := [(boL i).length]) (byt := [boL i]) (A := A)
        (fun j hj => by obtain rfl : j = 0 := by omega
                        exact (boLen i hi).2)
        (fun j hj => h _ (hb _ List.mem_cons_self))
        (fun j hj => h _ (hb _ (List.mem_cons_of_mem _ List.mem_cons_self)))
        (fun j hj => h _ (hb _ (List.mem_cons_of_mem _ (List.mem_cons_of_mem _ List.mem_cons_self))))
        (fun j hj => by obtain rfl : j = 0 := by omega
                        exact h _ (hb _ (List.mem_cons_of_mem _ (List.mem_cons_of_mem _ (List.mem_cons_of_mem _ List.mem_cons_self)))))
        (fun j hj k hk => by obtain rfl : j = 0 := by omega
                             exact h _ (hb _ (List.mem_cons_of_mem _ (List.mem_cons_of_mem _ (List.mem_cons_of_mem _ (List.mem_cons_of_mem _ (List.mem_map.mpr ⟨k, List.mem_range.mpr hk, rfl⟩)))))))
        (fun a b ha hb hab => by omega) hA
      exact ⟨(K 0, V 0), fun _ => ⟨hE 0 (by decide), hS.1 0 (by decide)⟩⟩
    · exact ⟨(0, 0), fun q => absurd q hi⟩
  obtain ⟨ad, had⟩ := Classical.axiomOfChoice one
  refine ⟨fun i => (ad i).1, fun i => (ad i).2, ⟨fun i hi => ?_, fun i j hi hj e => ?_⟩, fun i hi => (had i hi).1⟩
  · have := (had i hi).2
    rw [← (boLen i hi).1] at this
    exact this
  · dsimp only at e
    refine Classical.byContradiction fun hij => ?_
    obtain ⟨-, -, -, ⟨cf, k, fi, f, cell, f1, f2, f3, f4, f5, f6⟩, c1, g1, g2, g3, g4, g5, g6, g7⟩ := had i hi
    obtain ⟨-, -, -, ⟨cf', k', fi', f', cell', f1', f2', f3', f4', f5', f6'⟩, c1', g1', g2', g3', g4', g5', g6', g7'⟩ := had j hj
    rw [f1] at f1'
    cases Option.some.inj f1'
    rw [← e, f3] at f3'
    cases Option.some.inj f3'
    rw [f5] at f5'
    have e2 : (ad i).2 = (ad j).2 := by
      have := Option.some.inj f5'
      injection this
    rw [← e2, g1] at g1'
    cases Option.some.inj g1'
    rcases boNe i hi j hj hij with q | ⟨n, n1, n2, n3⟩
    · rw [(boLen i hi).1, (boLen j hj).1] at q
      exact q (g5.symm.trans g5')
    · rw [(boLen i hi).1] at n1
      rw [(boLen j hj).1] at n2
      have h1 := g6 n n1
      rw [g6' n n2] at h1
      injection h1 with h1
      injection h1 with h1
      exact n3 h1.symm

theorem xt1 {n : Nat} {w : Cond} (h : tables_1_1[n]? = some w) : w ∈ lw_tbl := List.mem_append_right _ (List.mem_append_left _ (List.mem_of_getElem? h))
theorem xt2 {n : Nat} {w : Cond} (h : tables_1_2[n]? = some w) : w ∈ lw_tbl := List.mem_append_right _ (List.mem_append_right _ (List.mem_append_left _ (List.mem_of_getElem? h)))
theorem xt3 {n : Nat} {w : Cond} (h : tables_1_3[n]? = some w) : w ∈ lw_tbl := List.mem_append_right _ (List.mem_append_right _ (List.mem_append_right _ (List.mem_append_left _ (List.mem_of_getElem? h))))
theorem xt4 {n : Nat} {w : Cond} (h : tables_1_4[n]? = some w) : w ∈ lw_tbl := List.mem_append_right _ (List.mem_append_right _ (List.mem_append_right _ (List.mem_append_right _ (List.mem_append_left _ (List.mem_of_getElem? h)))))
theorem xt5 {n : Nat} {w : Cond} (h : tables_1_5[n]? = some w) : w ∈ lw_tbl := List.mem_append_right _ (List.mem_append_right _ (List.mem_append_right _ (List.mem_append_right _ (List.mem_append_right _ (List.mem_append_left _ (List.mem_of_getElem? h))))))
theorem xt6 {n : Nat} {w : Cond} (h : tables_1_6[n]? = some w) : w ∈ lw_tbl := List.mem_append_right _ (List.mem_append_right _ (List.mem_append_right _ (List.mem_append_right _ (List.mem_append_right _ (List.mem_append_right _ (List.mem_append_left _ (List.mem_of_getElem? h)))))))
theorem xt7 {n : Nat} {w : Cond} (h : tables_1_7[n]? = some w) : w ∈ lw_tbl := List.mem_append_right _ (List.mem_append_right _ (List.mem_append_right _ (List.mem_append_right _ (List.mem_append_right _ (List.mem_append_right _ (List.mem_append_right _ (List.mem_append_left _ (List.mem_of_getElem? h))))))))
theorem xt8 {n : Nat} {w : Cond} (h : tables_1_8[n]? = some w) : w ∈ lw_tbl := List.mem_append_right _ (List.mem_append_right _ (List.mem_append_right _ (List.mem_append_right _ (List.mem_append_right _ (List.mem_append_right _ (List.mem_append_right _ (List.mem_append_right _ (List.mem_append_left _ (List.mem_of_getElem? h)))))))))
theorem xt9 {n : Nat} {w : Cond} (h : tables_1_9[n]? = some w) : w ∈ lw_tbl := List.mem_append_right _ (List.mem_append_right _ (List.mem_append_right _ (List.mem_append_right _ (List.mem_append_right _ (List.mem_append_right _ (List.mem_append_right _ (List.mem_append_right _ (List.mem_append_right _ (List.mem_of_getElem? h)))))))))
theorem boF {n : Nat} {w : Cond} (h : (flatC boW)[n]? = some w) : w ∈ flatC boW := List.mem_of_getElem? h
theorem xOdd_lw : ∀ w ∈ xOdd, w ∈ lw_tbl := List.forall_mem_cons.mpr ⟨xt1 (n := 37) rfl, List.forall_mem_cons.mpr ⟨xt1 (n := 43) rfl, List.forall_mem_cons.mpr ⟨xt1 (n := 73) rfl, List.forall_mem_cons.mpr ⟨xt1 (n := 108) rfl, List.forall_mem_cons.mpr ⟨xt1 (n := 192) rfl, List.forall_mem_cons.mpr ⟨xt1 (n := 218) rfl, List.forall_mem_cons.mpr ⟨xt2 (n := 33) rfl, List.forall_mem_cons.mpr ⟨xt2 (n := 79) rfl, List.forall_mem_cons.mpr ⟨xt2 (n := 201) rfl, List.forall_mem_cons.mpr ⟨xt3 (n := 168) rfl, List.forall_mem_cons.mpr ⟨xt5 (n := 30) rfl, List.forall_mem_cons.mpr ⟨xt5 (n := 32) rfl, List.forall_mem_cons.mpr ⟨xt5 (n := 34) rfl, List.forall_mem_cons.mpr ⟨xt5 (n := 28) rfl, List.forall_mem_cons.mpr ⟨xt5 (n := 110) rfl, List.forall_mem_cons.mpr ⟨xt5 (n := 139) rfl, List.forall_mem_cons.mpr ⟨xt5 (n := 188) rfl, fun _ h => nomatch h⟩⟩⟩⟩⟩⟩⟩⟩⟩⟩⟩⟩⟩⟩⟩⟩⟩
set_option maxRecDepth 100000 in
theorem xNcs_fl : ∀ q ∈ xNcs, Cond.not (.castable q.1 q.2) ∈ flatC boW := List.forall_mem_cons.mpr ⟨boF (n := 40) rfl, List.forall_mem_cons.mpr ⟨boF (n := 56) rfl, List.forall_mem_cons.mpr ⟨boF (n := 72) rfl, List.forall_mem_cons.mpr ⟨boF (n := 24) rfl, List.forall_mem_cons.mpr ⟨boF (n := 57) rfl, List.forall_mem_cons.mpr ⟨boF (n := 73) rfl, List.forall_mem_cons.mpr ⟨boF (n := 25) rfl, List.forall_mem_cons.mpr ⟨boF (n := 41) rfl, List.forall_mem_cons.mpr ⟨boF (n := 74) rfl, List.forall_mem_cons.mpr ⟨boF (n := 26) rfl, List.forall_mem_cons.mpr ⟨boF (n := 42) rfl, List.forall_mem_cons.mpr ⟨boF (n := 58) rfl, fun _ h => nomatch h⟩⟩⟩⟩⟩⟩⟩⟩⟩⟩⟩⟩
theorem xStr_lw : ∀ q ∈ xStr, Cond.stringRef (xCn q.1) q.2.1 q.2.2.1 ∈ lw_tbl := List.forall_mem_cons.mpr ⟨xt2 (n := 91) rfl, List.forall_mem_cons.mpr ⟨xt2 (n := 178) rfl, List.forall_mem_cons.mpr ⟨xt2 (n := 216) rfl, List.forall_mem_cons.mpr ⟨xt2 (n := 224) rfl, List.forall_mem_cons.mpr ⟨xt3 (n := 141) rfl, List.forall_mem_cons.mpr ⟨xt3 (n := 143) rfl, List.forall_mem_cons.mpr ⟨xt3 (n := 144) rfl, List.forall_mem_cons.mpr ⟨xt3 (n := 145) rfl, List.forall_mem_cons.mpr ⟨xt3 (n := 146) rfl, List.forall_mem_cons.mpr ⟨xt3 (n := 147) rfl, List.forall_mem_cons.mpr ⟨xt3 (n := 148) rfl, List.forall_mem_cons.mpr ⟨xt3 (n := 149) rfl, List.forall_mem_cons.mpr ⟨xt3 (n := 150) rfl, List.forall_mem_cons.mpr ⟨xt3 (n := 151) rfl, List.forall_mem_cons.mpr ⟨xt5 (n := 68) rfl, List.forall_mem_cons.mpr ⟨xt5 (n := 117) rfl, List.forall_mem_cons.mpr ⟨xt5 (n := 146) rfl, List.forall_mem_cons.mpr ⟨xt5 (n := 195) rfl, List.forall_mem_cons.mpr ⟨xt6 (n := 9) rfl, List.forall_mem_cons.mpr ⟨xt6 (n := 61) rfl, List.forall_mem_cons.mpr ⟨xt6 (n := 84) rfl, List.forall_mem_cons.mpr ⟨xt6 (n := 86) rfl, List.forall_mem_cons.mpr ⟨xt6 (n := 95) rfl, List.forall_mem_cons.mpr ⟨xt6 (n := 104) rfl, List.forall_mem_cons.mpr ⟨xt6 (n := 113) rfl, List.forall_mem_cons.mpr ⟨xt6 (n := 122) rfl, List.forall_mem_cons.mpr ⟨xt6 (n := 132) rfl, List.forall_mem_cons.mpr ⟨xt6 (n := 142) rfl, List.forall_mem_cons.mpr ⟨xt6 (n := 152) rfl, List.forall_mem_cons.mpr ⟨xt6 (n := 160) rfl, List.forall_mem_cons.mpr ⟨xt6 (n := 176) rfl, List.forall_mem_cons.mpr ⟨xt6 (n := 192) rfl, fun _ h => nomatch h⟩⟩⟩⟩⟩⟩⟩⟩⟩⟩⟩⟩⟩⟩⟩⟩⟩⟩⟩⟩⟩⟩⟩⟩⟩⟩⟩⟩⟩⟩⟩⟩
theorem bo_inst : ∀ (ci : Nat) (r : vw_C), vwCl[ci]? = some r → Cond.instantiable r.1 r.2.2 ∈ xAll := by
  intro ci r h
  have hl : ci < 13 := (List.getElem?_eq_some_iff.mp h).1
  rcases (show ci = 0 ∨ ci = 1 ∨ ci = 2 ∨ ci = 3 ∨ ci = 4 ∨ ci = 5 ∨ ci = 6 ∨ ci = 7 ∨ ci = 8 ∨ ci = 9 ∨ ci = 10 ∨ ci = 11 ∨ ci = 12 by omega) with rfl | rfl | rfl | rfl | rfl | rfl | rfl | rfl | rfl | rfl | rfl | rfl | rfl
  · cases h; exact xm1 (n := 42) rfl rfl
  · cases h; exact xm1 (n := 72) rfl rfl
  · cases h; exact xm1 (n := 191) rfl rfl
  · cases h; exact xm1 (n := 36) rfl rfl
  · cases h; exact xm2 (n := 78) rfl rfl
  · cases h; exact xm1 (n := 107) rfl rfl
  · cases h; exact xm2 (n := 32) rfl rfl
  · cases h; exact xm2 (n := 53) rfl rfl
  · cases h; exact xm2 (n := 19) rfl rfl
  · cases h; exact xm1 (n := 217) rfl rfl
  · cases h; exact xm1 (n := 232) rfl rfl
  · cases h; exact xm1 (n := 28) rfl rfl
  · cases h; exact xm6 (n := 194) rfl rfl
theorem bo_arr {args : Array Value} {s : State} {ty : FieldType} (h : (Cond.arrayClass ty).before args s = true) (hp : ty = .int ∨ ty = .long ∨ ty = .boolean) : ∃ cA, ArrOfT s cA ty ∧ va_RA s cA ty := by
  obtain ⟨c, k, comp, h1, h2, h3⟩ := Cond.arrayClass_spec h
  refine ⟨c, fun n z => ⟨fun k h => (by cases h), k, h2, comp, h3⟩, ?_⟩
  rcases hp with rfl | rfl | rfl <;> exact h1
theorem bo_arq {args : Array Value} {s : State} {C : String} (h : (Cond.arrayOver (.object C)).before args s = true) : ∃ cA, ArrOfT s cA (.object C) ∧ va_RA s cA (.object C) := by
  obtain ⟨comp, c, k, f1, -, f2, f3, f4⟩ := Cond.arrayOver_spec h
  exact ⟨c, fun N z => ⟨fun k h => (by cases h), k, f2, comp, f3⟩, k, comp, f2, f3, f1, f4⟩
set_option maxRecDepth 100000 in
theorem boot {args : Array Value} {s : State} (hts : ∀ w ∈ lw_tbl, w.before args s = true) (h : ∀ w ∈ flatC boW, w.before args s = true) : ∃ E : xE, va_K E.1 vwCl (xTy E) s ∧ xG E (fun q => s.heap.size ≤ q) s s.heap := by
  have hx : ∀ w ∈ xAll, w.before args s = true := fun w hw => hts w (List.mem_filter.mp hw).1
  have hA : ∀ a : Nat, a < s.heap.size → ¬ (fun q : Nat => s.heap.size ≤ q) a := fun a ha => Nat.not_le.mpr ha
  have cl : ∀ c : Nat, ∃ p : ClassId × (Nat → Nat), ∀ q : vw_C, vwCl[c]? = some q → u_Kn s q.1 q.2.1 q.2.2 p.1 p.2 := by
    intro c
    cases hq : vwCl[c]? with
    | none => exact ⟨(0, fun _ => 0), fun q w => by cases w⟩
    | some r =>
      obtain ⟨cC, iS, hk⟩ := u_known (C := r.1) (T := r.2.1) (N := r.2.2) (n := r.2.2) hx (xCl c r hq).1 (hx _ (bo_inst c r hq))
      exact ⟨(cC, iS), fun q w => by cases w; exact hk⟩
  obtain ⟨D, hD⟩ := Classical.axiomOfChoice cl
  obtain ⟨c0, a0, b0⟩ := bo_arr (hx _ xar_int) (Or.inl rfl)
  obtain ⟨c1, a1, b1⟩ := bo_arr (hx _ xar_long) (Or.inr (Or.inl rfl))
  obtain ⟨c2, a2, b2⟩ := bo_arr (hx _ xar_boolean) (Or.inr (Or.inr rfl))
  have hov : (Cond.arrayOver (.object RX3)).before args s = true := hts _ (xt1 (n := 197) rfl)
  obtain ⟨c3, a3, b3⟩ := bo_arq hov
  obtain ⟨adK, adV, hS, hE⟩ := bo_str (args := args) (s := s) h hA
  refine ⟨((fun c => (D c).1, fun c => (D c).2), (c0, c1, c2, c3), adK, adV), ⟨fun c q hq => hD c q hq, fun k q hk => ?_⟩, ⟨fun w hw => va_Nw.of (xOdd_tab w hw) (hts w (xOdd_lw w hw)), fun q hq => va_Nc.of (h _ (xNcs_fl q hq))⟩, va_AO.of hov, ?_, ?_, ⟨hS, ?_, ?_⟩, fun q hq => vk_R.of (hts _ (xStr_lw q hq)) ?_⟩
  · match k, hk with
    | 0, hk => cases hk; exact ⟨a0, b0⟩
    | 1, hk => cases hk; exact ⟨a1, b1⟩
    | 2, hk => cases hk; exact ⟨a2, b2⟩
    | 3, hk => cases hk; exact ⟨a3, b3⟩
  · exact vx_Zqof (hts _ (xt5 (n := 53) rfl)) (hts _ (xt1 (n := 19) rfl)) (h _ (boF (n := 9) rfl)) hA
  · exact vx_Zqof (hts _ (xt5 (n := 55) rfl)) (hts _ (xt1 (n := 19) rfl)) (h _ (boF (n := 10) rfl)) hA
  · exact va_Zof (hts _ (xt2 (n := 101) rfl)) (hts _ (xt1 (n := 13) rfl)) (va_eqt (h _ (boF (n := 4) rfl))) hA
  · exact va_Zqof (hts _ (xt2 (n := 117) rfl)) (hts _ (xt1 (n := 15) rfl)) (h _ (boF (n := 5) rfl)) hA
  · have key : ∀ q ∈ xStr, (∃ i, i < 31 ∧ q.2.2.2 = i ∧ boT i = .string (xCn q.1) q.2.1) ∨ (q.2.2.2 = 3 ∧ Cond.eq (boT 3) (.string (xCn q.1) q.2.1) ∈ flatC boW) := List.forall_mem_cons.mpr ⟨Or.inl ⟨0, by decide, rfl, rfl⟩, List.forall_mem_cons.mpr ⟨Or.inl ⟨1, by decide, rfl, rfl⟩, List.forall_mem_cons.mpr ⟨Or.inl ⟨2, by decide, rfl, rfl⟩, List.forall_mem_cons.mpr ⟨Or.inl ⟨3, by decide, rfl, rfl⟩, List.forall_mem_cons.mpr ⟨Or.inr ⟨rfl, boF (n := 188) rfl⟩, List.forall_mem_cons.mpr ⟨Or.inl ⟨4, by decide, rfl, rfl⟩, List.forall_mem_cons.mpr ⟨Or.inl ⟨5, by decide, rfl, rfl⟩, List.forall_mem_cons.mpr ⟨Or.inl ⟨6, by decide, rfl, rfl⟩, List.forall_mem_cons.mpr ⟨Or.inl ⟨7, by decide, rfl, rfl⟩, List.forall_mem_cons.mpr ⟨Or.inl ⟨8, by decide, rfl, rfl⟩, List.forall_mem_cons.mpr ⟨Or.inl ⟨9, by decide, rfl, rfl⟩, List.forall_mem_cons.mpr ⟨Or.inl ⟨10, by decide, rfl, rfl⟩, List.forall_mem_cons.mpr ⟨Or.inl ⟨11, by decide, rfl, rfl⟩, List.forall_mem_cons.mpr ⟨Or.inl ⟨12, by decide, rfl, rfl⟩, List.forall_mem_cons.mpr ⟨Or.inl ⟨13, by decide, rfl, rfl⟩, List.forall_mem_cons.mpr ⟨Or.inl ⟨14, by decide, rfl, rfl⟩, List.forall_mem_cons.mpr ⟨Or.inl ⟨15, by decide, rfl, rfl⟩, List.forall_mem_cons.mpr ⟨Or.inl ⟨16, by decide, rfl, rfl⟩, List.forall_mem_cons.mpr ⟨Or.inl ⟨17, by decide, rfl, rfl⟩, List.forall_mem_cons.mpr ⟨Or.inl ⟨18, by decide, rfl, rfl⟩, List.forall_mem_cons.mpr ⟨Or.inl ⟨19, by decide, rfl, rfl⟩, List.forall_mem_cons.mpr ⟨Or.inl ⟨20, by decide, rfl, rfl⟩, List.forall_mem_cons.mpr ⟨Or.inl ⟨21, by decide, rfl, rfl⟩, List.forall_mem_cons.mpr ⟨Or.inl ⟨22, by decide, rfl, rfl⟩, List.forall_mem_cons.mpr ⟨Or.inl ⟨23, by decide, rfl, rfl⟩, List.forall_mem_cons.mpr ⟨Or.inl ⟨24, by decide, rfl, rfl⟩, List.forall_mem_cons.mpr ⟨Or.inl ⟨25, by decide, rfl, rfl⟩, List.forall_mem_cons.mpr ⟨Or.inl ⟨26, by decide, rfl, rfl⟩, List.forall_mem_cons.mpr ⟨Or.inl ⟨27, by decide, rfl, rfl⟩, List.forall_mem_cons.mpr ⟨Or.inl ⟨28, by decide, rfl, rfl⟩, List.forall_mem_cons.mpr ⟨Or.inl ⟨29, by decide, rfl, rfl⟩, List.forall_mem_cons.mpr ⟨Or.inl ⟨30, by decide, rfl, rfl⟩, fun _ h => nomatch h⟩⟩⟩⟩⟩⟩⟩⟩⟩⟩⟩⟩⟩⟩⟩⟩⟩⟩⟩⟩⟩⟩⟩⟩⟩⟩⟩⟩⟩⟩⟩⟩
    rcases key q hq with ⟨i, hi, e1, e2⟩ | ⟨e1, e2⟩
    · rw [← e2, e1]
      exact hE i hi
    · rw [e1]
      exact va_eqR (h _ e2) (hE 3 (by decide))
