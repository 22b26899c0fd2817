/-! RULES FOR THE JDK's CODE: byte arrays, tables, inherited methods, interfaces -/
section BJ
variable {E : xE} {y : xM} {R : Room} {mc ms : Nat} {O : xO → Prop} {pc : Nat} {L : xL} {st : List Value} {M : va_W} {ck sk : Nat}
theorem Bd.bald (q0 : Nat) {a n : Nat} {f : Nat → Int32} (hM : M[q0]? = some (a, .inl (E.2.1.2.1.1, n, .inl f))) {i : Int32} (hin : vp_in i n) (hd : decode y.2.1 pc = .ok (.baload, 1))
    (k : BdP E y R mc ms O (pc + 1) L (.int (f i.toNatClampNeg) :: st) M ck sk) : BdP E y R mc ms O pc L (.int i :: .ref a :: st) M ck sk := by
  intro p l e s m args below meth c A H locs ls hF hr hx hP hD hS hl hLn
  obtain ⟨hexec, hl0, hbt, hml, hown, hts, hlocks, hnm, hA, hKK, hG⟩ := id hF
  exact va_bald hexec hbt hKK hP q0 1 hM rfl hin hd (k p l e s m args below meth c A H locs ls hF hr hx hP hD hS hl hLn)
theorem Bd.bast (q0 : Nat) {a n : Nat} {f : Nat → Int32} {x x' : Int32} (hM : M[q0]? = some (a, .inl (E.2.1.2.1.1, n, .inl f))) {i : Int32} (hin : vp_in i n) (hx' : vp_nar .byte x = x') (hd : decode y.2.1 pc = .ok (.bastore, 1))
    (k : BdP E y R mc ms O (pc + 1) L st (M.set q0 (a, .inl (E.2.1.2.1.1, n, .inl (upd f i.toNatClampNeg x')))) ck sk) : BdP E y R mc ms O pc L (.int x :: .int i :: .ref a :: st) M ck sk := by
  subst hx'
  intro p l e s m args below meth c A H locs ls hF hr hx hP hD hS hl hLn
  obtain ⟨hexec, hl0, hbt, hml, hown, hts, hlocks, hnm, hA, hKK, hG⟩ := id hF
  exact va_bast hexec hbt hKK hP hD hS q0 1 hM rfl hin hd (fun H1 locs1 hP1 hD1 hS1 => k p l e s m args below meth c A H1 locs1 ls hF hr hx hP1 hD1 hS1 hl hLn)
theorem Bd.alen (q0 t0 : Nat) {a : Nat} {cA : ClassId} {x : vp_A} {ty : FieldType} {v : Int32} (hM : M[q0]? = some (a, .inl (cA, x))) (ht : (xTy E)[t0]? = some (cA, ty)) (hv : Int32.ofNat x.1 = v) (hd : decode y.2.1 pc = .ok (.arraylength, 1))
    (k : BdP E y R mc ms O (pc + 1) L (.int v :: st) M ck sk) : BdP E y R mc ms O pc L (.ref a :: st) M ck sk := by
  intro p l e s m args below meth c A H locs ls hF hr hx hP hD hS hl hLn
  obtain ⟨hexec, hl0, hbt, hml, hown, hts, hlocks, hnm, hA, hKK, hG⟩ := id hF
  exact va_alen hexec hbt hKK hP q0 t0 hM ht hv hd (k p l e s m args below meth c A H locs ls hF hr hx hP hD hS hl hLn)
/-- the tables of digits, ArrayList's empty row -/
theorem Bd.dig1 {idx : Nat} (hlk : Cond.fieldLink (xCn y.2.2.2.2) idx "java/lang/Integer" "DigitOnes" "[B" ∈ xAll) (hd : decode y.2.1 pc = .ok (.getstatic idx, 3)) (k : BdP E y R mc ms O (pc + 3) L (.ref (E.2.2.1 40) :: st) M ck sk) : BdP E y R mc ms O pc L st M ck sk := by
  intro p l e s m args below meth c A H locs ls hF hr hx hP hD hS hl hLn
  obtain ⟨hexec, hl0, hbt, hml, hown, hts, hlocks, hnm, hA, hKK, hG⟩ := id hF
  exact va_gets hexec hbt hG.2.2.2.2.2.2.1.1 hS hown (hts _ hlk) (fun _ h9 => h9) hd (k p l e s m args below meth c A H locs ls hF hr hx hP hD hS hl hLn)
theorem Bd.dig10 {idx : Nat} (hlk : Cond.fieldLink (xCn y.2.2.2.2) idx "java/lang/Integer" "DigitTens" "[B" ∈ xAll) (hd : decode y.2.1 pc = .ok (.getstatic idx, 3)) (k : BdP E y R mc ms O (pc + 3) L (.ref (E.2.2.1 41) :: st) M ck sk) : BdP E y R mc ms O pc L st M ck sk := by
  intro p l e s m args below meth c A H locs ls hF hr hx hP hD hS hl hLn
  obtain ⟨hexec, hl0, hbt, hml, hown, hts, hlocks, hnm, hA, hKK, hG⟩ := id hF
  exact va_gets hexec hbt hG.2.2.2.2.2.2.2.1.1 hS hown (hts _ hlk) (fun _ h9 => h9) hd (k p l e s m args below meth c A H locs ls hF hr hx hP hD hS hl hLn)
theorem Bd.emptyRow {idx : Nat} (hlk : Cond.fieldLink (xCn y.2.2.2.2) idx "java/util/ArrayList" "DEFAULTCAPACITY_EMPTY_ELEMENTDATA" "[Ljava/lang/Object;" ∈ xAll) (hd : decode y.2.1 pc = .ok (.getstatic idx, 3)) (k : BdP E y R mc ms O (pc + 3) L (.ref (E.2.2.1 42) :: st) M ck sk) : BdP E y R mc ms O pc L st M ck sk := by
  intro p l e s m args below meth c A H locs ls hF hr hx hP hD hS hl hLn
  obtain ⟨hexec, hl0, hbt, hml, hown, hts, hlocks, hnm, hA, hKK, hG⟩ := id hF
  exact va_gets hexec hbt hG.2.2.2.2.2.2.2.2.1.1 hS hown (hts _ hlk) (fun _ h9 => h9) hd (k p l e s m args below meth c A H locs ls hF hr hx hP hD hS hl hLn)
theorem Bd.emptyLen (hd : decode y.2.1 pc = .ok (.arraylength, 1)) (k : BdP E y R mc ms O (pc + 1) L (.int 0 :: st) M ck sk) : BdP E y R mc ms O pc L (.ref (E.2.2.1 42) :: st) M ck sk := by
  intro p l e s m args below meth c A H locs ls hF hr hx hP hD hS hl hLn
  obtain ⟨hexec, hl0, hbt, hml, hown, hts, hlocks, hnm, hA, hKK, hG⟩ := id hF
  exact va_tlen hexec hbt hG.2.2.2.2.2.2.2.2.1.2 hS rfl hd (k p l e s m args below meth c A H locs ls hF hr hx hP hD hS hl hLn)
theorem Bd.t1 {j : Int32} (hin : vp_in j 100) (hd : decode y.2.1 pc = .ok (.baload, 1)) (k : BdP E y R mc ms O (pc + 1) L (.int (nI (48 + j.toNatClampNeg % 10)) :: st) M ck sk) : BdP E y R mc ms O pc L (.int j :: .ref (E.2.2.1 40) :: st) M ck sk := by
  intro p l e s m args below meth c A H locs ls hF hr hx hP hD hS hl hLn
  obtain ⟨hexec, hl0, hbt, hml, hown, hts, hlocks, hnm, hA, hKK, hG⟩ := id hF
  exact va_tb hexec hbt hG.2.2.2.2.2.2.1.2 hS hin rfl hd (k p l e s m args below meth c A H locs ls hF hr hx hP hD hS hl hLn)
theorem Bd.t10 {j : Int32} (hin : vp_in j 100) (hd : decode y.2.1 pc = .ok (.baload, 1)) (k : BdP E y R mc ms O (pc + 1) L (.int (nI (48 + j.toNatClampNeg / 10)) :: st) M ck sk) : BdP E y R mc ms O pc L (.int j :: .ref (E.2.2.1 41) :: st) M ck sk := by
  intro p l e s m args below meth c A H locs ls hF hr hx hP hD hS hl hLn
  obtain ⟨hexec, hl0, hbt, hml, hown, hts, hlocks, hnm, hA, hKK, hG⟩ := id hF
  exact va_tb hexec hbt hG.2.2.2.2.2.2.2.1.2 hS hin rfl hd (k p l e s m args below meth c A H locs ls hF hr hx hP hD hS hl hLn)
/-- Math.max, Math.min -/
theorem xmmx : Cond.static Lib.Math.max.name ∈ xAll ∧ Cond.initialized "java/lang/Math" ∈ xAll ∧ Cond.code Lib.Math.max.name Lib.Math.max.code 2 (some .int) ∈ xAll := ⟨xm3 (n := 226) rfl rfl, xm1 (n := 24) rfl rfl, xm3 (n := 227) rfl rfl⟩
theorem xmmn : Cond.static Lib.Math.min.name ∈ xAll ∧ Cond.initialized "java/lang/Math" ∈ xAll ∧ Cond.code Lib.Math.min.name Lib.Math.min.code 2 (some .int) ∈ xAll := ⟨xm4 (n := 3) rfl rfl, xm1 (n := 24) rfl rfl, xm4 (n := 4) rfl rfl⟩
theorem Bd.mmax {idx : Nat} {a b : Int32} (hlk : Cond.methodLink (xCn y.2.2.2.2) idx Lib.Math.max.name ∈ xAll) (hd : decode y.2.1 pc = .ok (.invokestatic idx, 3)) (hR : 1 ≤ R.frames ∧ (st.map fun v => v.category).sum + 13 ≤ R.locals ∧ ck ≤ R.cells ∧ sk ≤ R.slots)
    (k : BdP E y R mc ms O (pc + 3) L (.int (if a < b then b else a) :: st) M ck sk) : BdP E y R mc ms O pc L (.int b :: .int a :: st) M ck sk := by
  intro p l e s m args below meth c A H locs ls hF hr hx hP hD hS hl hLn
  obtain ⟨hexec, hl0, hbt, hml, hown, hts, hlocks, hnm, hA, hKK, hG⟩ := id hF
  exact va_mmax hexec hbt (by rw [hml]; exact hl.1.symm) hown (hts _ hlk) (hts _ xmmx.1) (hts _ xmmx.2.1) (hts _ xmmx.2.2) hR.1 hR.2.1 hR.2.2.1 hR.2.2.2 hd (k p l e s m args below meth c A H locs ls hF hr hx hP hD hS hl hLn)
theorem Bd.mmin {idx : Nat} {a b : Int32} (hlk : Cond.methodLink (xCn y.2.2.2.2) idx Lib.Math.min.name ∈ xAll) (hd : decode y.2.1 pc = .ok (.invokestatic idx, 3)) (hR : 1 ≤ R.frames ∧ (st.map fun v => v.category).sum + 13 ≤ R.locals ∧ ck ≤ R.cells ∧ sk ≤ R.slots)
    (k : BdP E y R mc ms O (pc + 3) L (.int (if b < a then b else a) :: st) M ck sk) : BdP E y R mc ms O pc L (.int b :: .int a :: st) M ck sk := by
  intro p l e s m args below meth c A H locs ls hF hr hx hP hD hS hl hLn
  obtain ⟨hexec, hl0, hbt, hml, hown, hts, hlocks, hnm, hA, hKK, hG⟩ := id hF
  exact va_mmin hexec hbt (by rw [hml]; exact hl.1.symm) hown (hts _ hlk) (hts _ xmmn.1) (hts _ xmmn.2.1) (hts _ xmmn.2.2) hR.1 hR.2.1 hR.2.2.1 hR.2.2.2 hd (k p l e s m args below meth c A H locs ls hF hr hx hP hD hS hl hLn)
/-- plain instructions that the walker doesn't know -/
theorem Bd.dupx1 {a b : Value} (ha : a.category = 1) (hb : b.category = 1) (hd : decode y.2.1 pc = .ok (.dup_x1, 1)) (k : BdP E y R mc ms O (pc + 1) L (a :: b :: a :: st) M ck sk) : BdP E y R mc ms O pc L (a :: b :: st) M ck sk := by
  intro p l e s m args below meth c A H locs ls hF hr hx hP hD hS hl hLn
  exact lv_dup_x1 hF.1 hF.2.2.1 hd ha hb (k p l e s m args below meth c A H locs ls hF hr hx hP hD hS hl hLn)
theorem Bd.ishl {a b : Int32} (hd : decode y.2.1 pc = .ok (.ishl, 1)) (k : BdP E y R mc ms O (pc + 1) L (.int (a <<< (b &&& 31)) :: st) M ck sk) : BdP E y R mc ms O pc L (.int b :: .int a :: st) M ck sk := by
  intro p l e s m args below meth c A H locs ls hF hr hx hP hD hS hl hLn
  exact lv_ishl hF.1 hF.2.2.1 hd (k p l e s m args below meth c A H locs ls hF hr hx hP hD hS hl hLn)
theorem Bd.ior {a b : Int32} (hd : decode y.2.1 pc = .ok (.ior, 1)) (k : BdP E y R mc ms O (pc + 1) L (.int (a ||| b) :: st) M ck sk) : BdP E y R mc ms O pc L (.int b :: .int a :: st) M ck sk := by
  intro p l e s m args below meth c A H locs ls hF hr hx hP hD hS hl hLn
  exact lv_ior hF.1 hF.2.2.1 hd (k p l e s m args below meth c A H locs ls hF hr hx hP hD hS hl hLn)
theorem Bd.i2b {a : Int32} (hd : decode y.2.1 pc = .ok (.i2b, 1)) (k : BdP E y R mc ms O (pc + 1) L (.int a.toInt8.toInt32 :: st) M ck sk) : BdP E y R mc ms O pc L (.int a :: st) M ck sk := by
  intro p l e s m args below meth c A H locs ls hF hr hx hP hD hS hl hLn
  exact lv_i2b hF.1 hF.2.2.1 hd rfl (k p l e s m args below meth c A H locs ls hF hr hx hP hD hS hl hLn)
theorem Bd.irem {a b : Int32} (hb : ¬ b = 0) (hd : decode y.2.1 pc = .ok (.irem, 1)) (k : BdP E y R mc ms O (pc + 1) L (.int (a - a / b * b) :: st) M ck sk) : BdP E y R mc ms O pc L (.int b :: .int a :: st) M ck sk := by
  intro p l e s m args below meth c A H locs ls hF hr hx hP hD hS hl hLn
  exact lv_irem hF.1 hF.2.2.1 hd hb (k p l e s m args below meth c A H locs ls hF hr hx hP hD hS hl hLn)
theorem Bd.acmpEq {rx ry : Option Nat} {off : Int} {tgt : Nat} (hd : decode y.2.1 pc = .ok (.if_acmp .eq off, 3)) (ht : (pc : Int) + off = (tgt : Int)) (kt : rx = ry → BdP E y R mc ms O tgt L st M ck sk) (kf : ¬ rx = ry → BdP E y R mc ms O (pc + 3) L st M ck sk) : BdP E y R mc ms O pc L (va_rf ry :: va_rf rx :: st) M ck sk := by
  intro p l e s m args below meth c A H locs ls hF hr hx hP hD hS hl hLn
  exact lv_acmp_eq hF.1 hF.2.2.1 hd ht (fun h => kt h p l e s m args below meth c A H locs ls hF hr hx hP hD hS hl hLn) (fun h => kf h p l e s m args below meth c A H locs ls hF hr hx hP hD hS hl hLn)
theorem Bd.acmpNe {rx ry : Option Nat} {off : Int} {tgt : Nat} (hd : decode y.2.1 pc = .ok (.if_acmp .ne off, 3)) (ht : (pc : Int) + off = (tgt : Int)) (kt : ¬ rx = ry → BdP E y R mc ms O tgt L st M ck sk) (kf : rx = ry → BdP E y R mc ms O (pc + 3) L st M ck sk) : BdP E y R mc ms O pc L (va_rf ry :: va_rf rx :: st) M ck sk := by
  intro p l e s m args below meth c A H locs ls hF hr hx hP hD hS hl hLn
  exact lv_acmp_ne hF.1 hF.2.2.1 hd ht (fun h => kt h p l e s m args below meth c A H locs ls hF hr hx hP hD hS hl hLn) (fun h => kf h p l e s m args below meth c A H locs ls hF hr hx hP hD hS hl hLn)
/-- arraycopy: bytes of a String constant, bytes, references -/
theorem Bd.copyt (q1 : Nat) {i idx a1 n1 : Nat} {g : Nat → Int32} {sp dp n : Int32} (hi : i < 22) (hlk : Cond.methodLink (xCn y.2.2.2.2) idx arraycopyName ∈ xAll) (hM : M[q1]? = some (a1, .inl (E.2.1.2.1.1, n1, .inl g)))
    (h1 : ¬ sp < 0) (h2 : ¬ dp < 0) (h3 : ¬ n < 0) (h4 : sp.toNatClampNeg + n.toNatClampNeg ≤ xSlen.getD i 0) (h5 : dp.toNatClampNeg + n.toNatClampNeg ≤ n1) (hfit : ∀ j : Nat, j < n.toNatClampNeg → fits .byte (.int ((xSbyt.getD i []).getD (sp.toNatClampNeg + j) 0)) = true)
    (hR : 1 ≤ R.frames ∧ (st.map fun v => v.category).sum + (nativeFrameWords "java/lang/System" "arraycopy" 5 + 11) ≤ R.locals) (hd : decode y.2.1 pc = .ok (.invokestatic idx, 3))
    (k : BdP E y R mc ms O (pc + 3) L st (M.set q1 (a1, .inl (E.2.1.2.1.1, n1, .inl (va_cpy (fun j => (xSbyt.getD i []).getD j 0) g sp.toNatClampNeg dp.toNatClampNeg n.toNatClampNeg)))) ck sk) :
    BdP E y R mc ms O pc L (.int n :: .int dp :: .ref a1 :: .int sp :: .ref (E.2.2.2 i) :: st) M ck sk := by
  intro p l e s m args below meth c A H locs ls hF hr hx hP hD hS hl hLn
  obtain ⟨hexec, hl0, hbt, hml, hown, hts, hlocks, hnm, hA, hKK, hG⟩ := id hF
  exact vk_copyt hexec hbt (by rw [hml]; exact hl.1.symm) hown (hts _ hlk) (hts _ xac.1) (hts _ xac.2.1) (hts _ xac.2.2) hKK hP hD hS (hG.2.2.2.2.1.1.1 i hi).2.2.2 q1 1 hM rfl h1 h2 h3 h4 h5 hfit hR.1 hR.2 hd (fun H1 locs1 hP1 hD1 hS1 => k p l e s m args below meth c A H1 locs1 ls hF hr hx hP1 hD1 hS1 hl hLn)
theorem Bd.copyb (q0 q1 : Nat) {idx a0 a1 n0 n1 : Nat} {f g : Nat → Int32} {sp dp n : Int32} (hlk : Cond.methodLink (xCn y.2.2.2.2) idx arraycopyName ∈ xAll) (hM0 : M[q0]? = some (a0, .inl (E.2.1.2.1.1, n0, .inl f))) (hM : M[q1]? = some (a1, .inl (E.2.1.2.1.1, n1, .inl g)))
    (h1 : ¬ sp < 0) (h2 : ¬ dp < 0) (h3 : ¬ n < 0) (h4 : sp.toNatClampNeg + n.toNatClampNeg ≤ n0) (h5 : dp.toNatClampNeg + n.toNatClampNeg ≤ n1) (hfit : ∀ j, j < n.toNatClampNeg → fits .byte (.int (f (sp.toNatClampNeg + j))) = true)
    (hR : 1 ≤ R.frames ∧ (st.map fun v => v.category).sum + (nativeFrameWords "java/lang/System" "arraycopy" 5 + 11) ≤ R.locals) (hd : decode y.2.1 pc = .ok (.invokestatic idx, 3))
    (k : BdP E y R mc ms O (pc + 3) L st (M.set q1 (a1, .inl (E.2.1.2.1.1, n1, .inl (va_cpy f g sp.toNatClampNeg dp.toNatClampNeg n.toNatClampNeg)))) ck sk) :
    BdP E y R mc ms O pc L (.int n :: .int dp :: .ref a1 :: .int sp :: .ref a0 :: st) M ck sk := by
  intro p l e s m args below meth c A H locs ls hF hr hx hP hD hS hl hLn
  obtain ⟨hexec, hl0, hbt, hml, hown, hts, hlocks, hnm, hA, hKK, hG⟩ := id hF
  exact va_copyi hexec hbt (by rw [hml]; exact hl.1.symm) hown (hts _ hlk) (hts _ xac.1) (hts _ xac.2.1) (hts _ xac.2.2) hKK hP hD hS q0 q1 1 1 hM0 hM rfl rfl rfl h1 h2 h3 h4 h5 hfit hR.1 hR.2 hd (fun H1 locs1 hP1 hD1 hS1 => k p l e s m args below meth c A H1 locs1 ls hF hr hx hP1 hD1 hS1 hl hLn)
/-- rows of references to loads: of Hops[] (xTy 4), of Object[] (xTy 5) -/
theorem Bd.hald (q0 : Nat) {a n : Nat} {f : Nat → Option Nat} (hM : M[q0]? = some (a, .inl (E.2.1.2.1.2.1, n, .inr (.inr (.inr (.inr f)))))) {i : Int32} (hin : vp_in i n) (hd : decode y.2.1 pc = .ok (.aaload, 1))
    (k : BdP E y R mc ms O (pc + 1) L (va_rf (f i.toNatClampNeg) :: st) M ck sk) : BdP E y R mc ms O pc L (.int i :: .ref a :: st) M ck sk := by
  intro p l e s m args below meth c A H locs ls hF hr hx hP hD hS hl hLn
  obtain ⟨hexec, hl0, hbt, hml, hown, hts, hlocks, hnm, hA, hKK, hG⟩ := id hF
  exact va_aldq hexec hbt hKK hP q0 4 (C := RX12) hM rfl hin hd (k p l e s m args below meth c A H locs ls hF hr hx hP hD hS hl hLn)
theorem Bd.oald (q0 : Nat) {a n : Nat} {f : Nat → Option Nat} (hM : M[q0]? = some (a, .inl (E.2.1.2.1.2.2, n, .inr (.inr (.inr (.inr f)))))) {i : Int32} (hin : vp_in i n) (hd : decode y.2.1 pc = .ok (.aaload, 1))
    (k : BdP E y R mc ms O (pc + 1) L (va_rf (f i.toNatClampNeg) :: st) M ck sk) : BdP E y R mc ms O pc L (.int i :: .ref a :: st) M ck sk := by
  intro p l e s m args below meth c A H locs ls hF hr hx hP hD hS hl hLn
  obtain ⟨hexec, hl0, hbt, hml, hown, hts, hlocks, hnm, hA, hKK, hG⟩ := id hF
  exact va_aldq hexec hbt hKK hP q0 5 (C := "java/lang/Object") hM rfl hin hd (k p l e s m args below meth c A H locs ls hF hr hx hP hD hS hl hLn)
theorem Bd.hast (q0 qk : Nat) {a n v : Nat} {vs : List Value} {f : Nat → Option Nat} (hM : M[q0]? = some (a, .inl (E.2.1.2.1.2.1, n, .inr (.inr (.inr (.inr f)))))) (hv : M[qk]? = some (v, .inr (12, vs))) {i : Int32} (hin : vp_in i n) (hd : decode y.2.1 pc = .ok (.aastore, 1))
    (k : BdP E y R mc ms O (pc + 1) L st (M.set q0 (a, .inl (E.2.1.2.1.2.1, n, .inr (.inr (.inr (.inr (va_up f i.toNatClampNeg (some v)))))))) ck sk) : BdP E y R mc ms O pc L (.ref v :: .int i :: .ref a :: st) M ck sk := by
  intro p l e s m args below meth c A H locs ls hF hr hx hP hD hS hl hLn
  obtain ⟨hexec, hl0, hbt, hml, hown, hts, hlocks, hnm, hA, hKK, hG⟩ := id hF
  exact va_astq hexec hbt hKK hP hD hS q0 4 qk 12 (r := (RX12, TX12, 5)) hM rfl hv rfl hin hd (fun H1 locs1 hP1 hD1 hS1 => k p l e s m args below meth c A H1 locs1 ls hF hr hx hP1 hD1 hS1 hl hLn)
theorem Bd.hastN (q0 : Nat) {a n : Nat} {f : Nat → Option Nat} (hM : M[q0]? = some (a, .inl (E.2.1.2.1.2.1, n, .inr (.inr (.inr (.inr f)))))) {i : Int32} (hin : vp_in i n) (hd : decode y.2.1 pc = .ok (.aastore, 1))
    (k : BdP E y R mc ms O (pc + 1) L st (M.set q0 (a, .inl (E.2.1.2.1.2.1, n, .inr (.inr (.inr (.inr (va_up f i.toNatClampNeg none))))))) ck sk) : BdP E y R mc ms O pc L (.null :: .int i :: .ref a :: st) M ck sk := by
  intro p l e s m args below meth c A H locs ls hF hr hx hP hD hS hl hLn
  obtain ⟨hexec, hl0, hbt, hml, hown, hts, hlocks, hnm, hA, hKK, hG⟩ := id hF
  exact va_astqN hexec hbt hKK hP hD hS q0 4 (C := RX12) hM rfl hin hd (fun H1 locs1 hP1 hD1 hS1 => k p l e s m args below meth c A H1 locs1 ls hF hr hx hP1 hD1 hS1 hl hLn)
theorem xhop : Cond.castable "HopOastLaw$Hops" "java/lang/Object" ∈ xOdd ∧ Cond.castable "[B" "java/lang/Cloneable" ∈ xOdd := by decide +kernel
theorem Bd.oast (q0 qk : Nat) {a n v : Nat} {vs : List Value} {f : Nat → Option Nat} (hM : M[q0]? = some (a, .inl (E.2.1.2.1.2.2, n, .inr (.inr (.inr (.inr f)))))) (hv : M[qk]? = some (v, .inr (12, vs))) {i : Int32} (hin : vp_in i n) (hd : decode y.2.1 pc = .ok (.aastore, 1))
    (k : BdP E y R mc ms O (pc + 1) L st (M.set q0 (a, .inl (E.2.1.2.1.2.2, n, .inr (.inr (.inr (.inr (va_up f i.toNatClampNeg (some v)))))))) ck sk) : BdP E y R mc ms O pc L (.ref v :: .int i :: .ref a :: st) M ck sk := by
  intro p l e s m args below meth c A H locs ls hF hr hx hP hD hS hl hLn
  obtain ⟨hexec, hl0, hbt, hml, hown, hts, hlocks, hnm, hA, hKK, hG⟩ := id hF
  exact va_astqO hexec hbt hKK hP hD hS q0 5 qk 12 (r := (RX12, TX12, 5)) (E := "java/lang/Object") hM rfl (hG.1.1 _ xhop.1) hv rfl hin hd (fun H1 locs1 hP1 hD1 hS1 => k p l e s m args below meth c A H1 locs1 ls hF hr hx hP1 hD1 hS1 hl hLn)
theorem Bd.newh {idx : Nat} (hlk : Cond.classLink (xCn y.2.2.2.2) idx RX12 ∈ xAll) {n : Int32} {N' : Nat} (hn : ¬ n < 0) (hN : n.toNatClampNeg = N') (hbytes : N' * 4 ≤ 536870912) (hcells : ck + 1 ≤ R.cells) (hslots : sk + N' ≤ R.slots) (hd : decode y.2.1 pc = .ok (.anewarray idx, 3))
    (k : ∀ q : Nat, BdP E y R mc ms O (pc + 3) L (.ref q :: st) (M ++ [(q, .inl (E.2.1.2.1.2.1, N', .inr (.inr (.inr (.inr (fun _ => none))))))]) (ck + 1) (sk + N')) : BdP E y R mc ms O pc L (.int n :: st) M ck sk := by
  intro p l e0 s m args below meth c A H locs ls hF hr hx hP hD hS hl hLn
  obtain ⟨hexec, hl0, hbt, hml, hown, hts, hlocks, hnm, hA, hKK, hG⟩ := id hF
  refine va_newq hexec hbt hown (hts _ hlk) hG.2.2.2.2.2.2.2.2.2.1.1 hKK hP hD hS hA hn hN hbytes hcells hslots hd (fun q cA H1 hK1 hP1 hD1 hS1 => ?_)
  obtain rfl := x_same (j := 4) (E := E) hK1 rfl
  exact k q p l e0 s m args below meth c A H1 _ ls hF hr hx hP1 hD1 hS1 hl hLn
theorem Bd.newo {idx : Nat} (hlk : Cond.classLink (xCn y.2.2.2.2) idx "java/lang/Object" ∈ xAll) {n : Int32} {N' : Nat} (hn : ¬ n < 0) (hN : n.toNatClampNeg = N') (hbytes : N' * 4 ≤ 536870912) (hcells : ck + 1 ≤ R.cells) (hslots : sk + N' ≤ R.slots) (hd : decode y.2.1 pc = .ok (.anewarray idx, 3))
    (k : ∀ q : Nat, BdP E y R mc ms O (pc + 3) L (.ref q :: st) (M ++ [(q, .inl (E.2.1.2.1.2.2, N', .inr (.inr (.inr (.inr (fun _ => none))))))]) (ck + 1) (sk + N')) : BdP E y R mc ms O pc L (.int n :: st) M ck sk := by
  intro p l e0 s m args below meth c A H locs ls hF hr hx hP hD hS hl hLn
  obtain ⟨hexec, hl0, hbt, hml, hown, hts, hlocks, hnm, hA, hKK, hG⟩ := id hF
  refine va_newq hexec hbt hown (hts _ hlk) hG.2.2.2.2.2.2.2.2.2.1.2.1 hKK hP hD hS hA hn hN hbytes hcells hslots hd (fun q cA H1 hK1 hP1 hD1 hS1 => ?_)
  obtain rfl := x_same (j := 5) (E := E) hK1 rfl
  exact k q p l e0 s m args below meth c A H1 _ ls hF hr hx hP1 hD1 hS1 hl hLn
theorem xobjA {C : String} {cC c : ClassId} {s : State} (h : va_Nw (.castable C "java/lang/Object") s) (h1 : s.vm.findClass "java/lang/Object" = some c) (h2 : s.vm.findClass C = some cC) : s.vm.assignable cC c = true := vb_asgC h c cC h1 h2
theorem Bd.copyo (q0 q1 : Nat) {idx a0 a1 n0 n1 : Nat} {f g : Nat → Option Nat} {sp dp n : Int32} (hlk : Cond.methodLink (xCn y.2.2.2.2) idx arraycopyName ∈ xAll) (hM0 : M[q0]? = some (a0, .inl (E.2.1.2.1.2.2, n0, .inr (.inr (.inr (.inr f)))))) (hM : M[q1]? = some (a1, .inl (E.2.1.2.1.2.2, n1, .inr (.inr (.inr (.inr g))))))
    (h1 : ¬ sp < 0) (h2 : ¬ dp < 0) (h3 : ¬ n < 0) (h4 : sp.toNatClampNeg + n.toNatClampNeg ≤ n0) (h5 : dp.toNatClampNeg + n.toNatClampNeg ≤ n1) (hel : ∀ j : Nat, j < n.toNatClampNeg → ∀ z : Nat, f (sp.toNatClampNeg + j) = some z → ∃ (q : Nat) (fs : List Value), M[q]? = some (z, .inr (12, fs)))
    (hR : 1 ≤ R.frames ∧ (st.map fun v => v.category).sum + (nativeFrameWords "java/lang/System" "arraycopy" 5 + 11) ≤ R.locals) (hd : decode y.2.1 pc = .ok (.invokestatic idx, 3))
    (k : BdP E y R mc ms O (pc + 3) L st (M.set q1 (a1, .inl (E.2.1.2.1.2.2, n1, .inr (.inr (.inr (.inr (va_cpy f g sp.toNatClampNeg dp.toNatClampNeg n.toNatClampNeg))))))) ck sk) :
    BdP E y R mc ms O pc L (.int n :: .int dp :: .ref a1 :: .int sp :: .ref a0 :: st) M ck sk := by
  intro p l e s m args below meth c A H locs ls hF hr hx hP hD hS hl hLn
  obtain ⟨hexec, hl0, hbt, hml, hown, hts, hlocks, hnm, hA, hKK, hG⟩ := id hF
  exact va_copyq hexec hbt (by rw [hml]; exact hl.1.symm) hown (hts _ hlk) (hts _ xac.1) (hts _ xac.2.1) (hts _ xac.2.2) hKK hP hD hS q0 q1 5 5 (E0 := "java/lang/Object") (E1 := "java/lang/Object") (C := RX12) hM0 hM rfl rfl h1 h2 h3 h4 h5
    (fun j hj z hz => by obtain ⟨q, fs, h⟩ := hel j hj z hz; exact va_recv (q := (RX12, TX12, 5)) hKK hP rfl h)
    (fun comp c0 e1 e2 => xobjA (hG.1.1 _ xhop.1) e1 e2) hR.1 hR.2 hd (fun H1 locs1 hP1 hD1 hS1 => k p l e s m args below meth c A H1 locs1 ls hF hr hx hP1 hD1 hS1 hl hLn)
theorem Bd.newb {n : Int32} {N' : Nat} (hn : ¬ n < 0) (hN : n.toNatClampNeg = N') (hle : N' ≤ 10000) (hcells : ck + 1 ≤ R.cells) (hslots : sk + N' ≤ R.slots) (hd : decode y.2.1 pc = .ok (.newarray .byte, 2))
    (k : ∀ q : Nat, BdP E y R mc ms O (pc + 2) L (.ref q :: st) (M ++ [(q, .inl (E.2.1.2.1.1, N', .inl (fun _ => 0)))]) (ck + 1) (sk + N')) : BdP E y R mc ms O pc L (.int n :: st) M ck sk := by
  intro p l e0 s m args below meth c A H locs ls hF hr hx hP hD hS hl hLn
  obtain ⟨hexec, hl0, hbt, hml, hown, hts, hlocks, hnm, hA, hKK, hG⟩ := id hF
  subst hN
  refine va_newa (atype := .byte) (ty := .byte) (a0 := (_, .inl (fun _ => 0))) hexec hbt (hts _ xar_byte) rfl hKK hP hD hS hA (fun cA => rfl) hn rfl (x_nbytes hle) hcells hslots hd fun a cA H1 hK1 hP1 hD1 hS1 => ?_
  obtain rfl := x_same (j := 1) (E := E) hK1 rfl
  exact k a p l e0 s m args below meth c A H1 _ ls hF hr hx hP1 hD1 hS1 hl hLn
theorem Bd.newi {n : Int32} {N' : Nat} (hn : ¬ n < 0) (hN : n.toNatClampNeg = N') (hle : N' ≤ 10000) (hcells : ck + 1 ≤ R.cells) (hslots : sk + N' ≤ R.slots) (hd : decode y.2.1 pc = .ok (.newarray .int, 2))
    (k : ∀ q : Nat, BdP E y R mc ms O (pc + 2) L (.ref q :: st) (M ++ [(q, .inl (E.2.1.1, N', .inl (fun _ => 0)))]) (ck + 1) (sk + N')) : BdP E y R mc ms O pc L (.int n :: st) M ck sk := by
  intro p l e0 s m args below meth c A H locs ls hF hr hx hP hD hS hl hLn
  obtain ⟨hexec, hl0, hbt, hml, hown, hts, hlocks, hnm, hA, hKK, hG⟩ := id hF
  subst hN
  refine va_newa (atype := .int) (ty := .int) (a0 := (_, .inl (fun _ => 0))) hexec hbt (hts _ xar_int) rfl hKK hP hD hS hA (fun cA => rfl) hn rfl (x_nbytes hle) hcells hslots hd fun a cA H1 hK1 hP1 hD1 hS1 => ?_
  obtain rfl := x_same (j := 0) (E := E) hK1 rfl
  exact k a p l e0 s m args below meth c A H1 _ ls hF hr hx hP1 hD1 hS1 hl hLn
/-- the class object of Object[] -/
theorem Bd.ldcM {idx : Nat} (hlk : Cond.classLink (xCn y.2.2.2.2) idx "[Ljava/lang/Object;" ∈ xAll) (hd : decode y.2.1 pc = .ok (.ldc idx, 2)) (k : BdP E y R mc ms O (pc + 2) L (.ref (E.2.2.1 43) :: st) M ck sk) : BdP E y R mc ms O pc L st M ck sk := by
  intro p l e s m args below meth c A H locs ls hF hr hx hP hD hS hl hLn
  obtain ⟨hexec, hl0, hbt, hml, hown, hts, hlocks, hnm, hA, hKK, hG⟩ := id hF
  exact va_ldcM hexec hbt hown (hts _ hlk) hG.2.2.2.2.2.2.2.2.2.1.2.2.1 hd (k p l e s m args below meth c A H locs ls hF hr hx hP hD hS hl hLn)
end BJ
/-! CALLS: inherited and overriding methods, super, interfaces, class objects, clones -/
theorem x_byteName (E : xE) {s : State} (hK : va_K E.1 vwCl (xTy E) s) : s.vm.findClass "[B" = some E.2.1.2.1.1 := (hK.2 1 (E.2.1.2.1.1, .byte) rfl).2
theorem x_objName (E : xE) {s : State} (hK : va_K E.1 vwCl (xTy E) s) : s.vm.findClass "[Ljava/lang/Object;" = some E.2.1.2.1.2.2 := va_nmO (hK.2 5 (E.2.1.2.1.2.2, .object "java/lang/Object") rfl).2 (by decide +kernel)
section BJC
variable {E : xE} {y : xM} {R : Room} {mc ms : Nat} {O : xO → Prop} {pc : Nat} {L : xL} {st : List Value} {M : va_W} {ck sk : Nat}
theorem xgetC : Cond.selects "[Ljava/lang/Object;" ⟨"java/lang/Object", "getClass", "()Ljava/lang/Class;"⟩ ⟨"java/lang/Object", "getClass", "()Ljava/lang/Class;"⟩ ∈ xAll ∧ Cond.instanceMethod ⟨"java/lang/Object", "getClass", "()Ljava/lang/Class;"⟩ ∈ xAll ∧ Cond.native ⟨"java/lang/Object", "getClass", "()Ljava/lang/Class;"⟩ ∈ xAll := ⟨xm7 (n := 160) rfl rfl, xm6 (n := 197) rfl rfl, xm6 (n := 220) rfl rfl⟩
theorem Bd.getC (q0 : Nat) {idx a : Nat} {x : vp_A} (hlk : Cond.methodLink (xCn y.2.2.2.2) idx ⟨"java/lang/Object", "getClass", "()Ljava/lang/Class;"⟩ ∈ xAll) (hM : M[q0]? = some (a, .inl (E.2.1.2.1.2.2, x))) (hR : 1 ≤ R.frames ∧ (st.map fun v => v.category).sum + 14 ≤ R.locals) (hd : decode y.2.1 pc = .ok (.invokevirtual idx, 3))
    (k : BdP E y R mc ms O (pc + 3) L (.ref (E.2.2.1 43) :: st) M ck sk) : BdP E y R mc ms O pc L (.ref a :: st) M ck sk := by
  intro p l e s m args below meth c A H locs ls hF hr hx hP hD hS hl hLn
  obtain ⟨hexec, hl0, hbt, hml, hown, hts, hlocks, hnm, hA, hKK, hG⟩ := id hF
  have hvm0 : (vp_cell E.2.1.2.1.2.2 x).vm = .none := by
    obtain ⟨n, f | f | f | f | f⟩ := x <;> rfl
  have hcl0 : (vp_cell E.2.1.2.1.2.2 x).cls = E.2.1.2.1.2.2 := by
    obtain ⟨n, f | f | f | f | f⟩ := x <;> rfl
  exact va_getC hexec hbt (by rw [hml]; exact hl.1.symm) hown (hts _ hlk) (va_Dc.use hG.2.2.2.2.2.2.2.2.2.1.2.2.2) (hts _ xgetC.1) (hts _ xgetC.2.1) (hts _ xgetC.2.2) hG.2.2.2.2.2.2.2.2.2.1.2.2.1 ⟨_, hP q0 _ hM, by rw [hvm0]; rfl, by rw [hcl0]; exact x_objName E hKK⟩ hR.1 hR.2 hd (k p l e s m args below meth c A H locs ls hF hr hx hP hD hS hl hLn)
theorem xcloW : Cond.sameMethod "[B" "java/lang/Object" "clone" "()Ljava/lang/Object;" ∈ xAll ∧ Cond.native ⟨"java/lang/Object", "clone", "()Ljava/lang/Object;"⟩ ∈ xAll ∧ Cond.instanceMethod ⟨"java/lang/Object", "clone", "()Ljava/lang/Object;"⟩ ∈ xAll ∧ Cond.selects "[B" ⟨"[B", "clone", "()Ljava/lang/Object;"⟩ ⟨"java/lang/Object", "clone", "()Ljava/lang/Object;"⟩ ∈ xAll := ⟨xm3 (n := 236) rfl rfl, xm3 (n := 237) rfl rfl, xm3 (n := 238) rfl rfl, xm3 (n := 239) rfl rfl⟩
theorem Bd.cloneB (q0 : Nat) {idx a n : Nat} {f : Nat → Int32} (hlk : Cond.methodLink (xCn y.2.2.2.2) idx ⟨"[B", "clone", "()Ljava/lang/Object;"⟩ ∈ xAll) (hM : M[q0]? = some (a, .inl (E.2.1.2.1.1, n, .inl f))) (hfit : ∀ j, fits .byte (.int (f j)) = true) (hR : 1 ≤ R.frames ∧ (st.map fun v => v.category).sum + 14 ≤ R.locals ∧ ck + 1 ≤ R.cells ∧ sk + n ≤ R.slots) (hd : decode y.2.1 pc = .ok (.invokevirtual idx, 3))
    (k : ∀ q : Nat, BdP E y R mc ms O (pc + 3) L (.ref q :: st) (M ++ [(q, .inl (E.2.1.2.1.1, n, .inl f))]) (ck + 1) (sk + n)) : BdP E y R mc ms O pc L (.ref a :: st) M ck sk := by
  intro p l e s m args below meth c A H locs ls hF hr hx hP hD hS hl hLn
  obtain ⟨hexec, hl0, hbt, hml, hown, hts, hlocks, hnm, hA, hKK, hG⟩ := id hF
  refine va_clone hexec hbt (by rw [hml]; exact hl.1.symm) hown (hts _ hlk) (hts _ xcloW.1) (hts _ xcloW.2.1) (hts _ xcloW.2.2.1) (hts _ xcloW.2.2.2) (hG.1.1 _ xhop.2) hKK hP hD hS hA q0 1 (x := (n, .inl f)) hM rfl (x_byteName E hKK) (fun i v hv => ?_) hR.1 hR.2.1 hR.2.2.1 hR.2.2.2 hd (fun q H1 hK1 hP1 hD1 hS1 => k q p l e s m args below meth c A H1 _ ls hF hr hx hP1 hD1 hS1 hl hLn)
  by_cases hi : i < n
  · rw [show (vp_cell E.2.1.2.1.1 (n, .inl f)).slots[i]? = some (.int (f i)) from arrV_read _ (fun j => Value.int (f j)) hi] at hv
    cases hv
    exact hfit i
  · have hs : (vp_cell E.2.1.2.1.1 (n, .inl f)).slots.size = n := arrV_size _ _ _
    have := (Array.getElem?_eq_some_iff.mp hv).1
    omega
theorem Bd.castB (q0 : Nat) {idx a : Nat} {x : vp_A} (hlk : Cond.classLink (xCn y.2.2.2.2) idx "[B" ∈ xAll) (hM : M[q0]? = some (a, .inl (E.2.1.2.1.1, x))) (hd : decode y.2.1 pc = .ok (.checkcast idx, 3)) (k : BdP E y R mc ms O (pc + 3) L (.ref a :: st) M ck sk) : BdP E y R mc ms O pc L (.ref a :: st) M ck sk := by
  intro p l e s m args below meth c A H locs ls hF hr hx hP hD hS hl hLn
  obtain ⟨hexec, hl0, hbt, hml, hown, hts, hlocks, hnm, hA, hKK, hG⟩ := id hF
  exact va_castA hexec hbt hown (hts _ hlk) hP q0 hM (x_byteName E hKK) hd (k p l e s m args below meth c A H locs ls hF hr hx hP hD hS hl hLn)
theorem Bd.castH (q0 : Nat) {idx a : Nat} {fs : List Value} (hlk : Cond.classLink (xCn y.2.2.2.2) idx RX12 ∈ xAll) (hM : M[q0]? = some (a, .inr (12, fs))) (hd : decode y.2.1 pc = .ok (.checkcast idx, 3)) (k : BdP E y R mc ms O (pc + 3) L (.ref a :: st) M ck sk) : BdP E y R mc ms O pc L (.ref a :: st) M ck sk := by
  intro p l e s m args below meth c A H locs ls hF hr hx hP hD hS hl hLn
  obtain ⟨hexec, hl0, hbt, hml, hown, hts, hlocks, hnm, hA, hKK, hG⟩ := id hF
  exact va_castS hexec hbt hown (hts _ hlk) (hKK.1 12 (RX12, TX12, 5) rfl).2 (va_recv (q := (RX12, TX12, 5)) hKK hP rfl hM) hd (k p l e s m args below meth c A H locs ls hF hr hx hP hD hS hl hLn)
/-- an inherited method, of an object ahead of the rest -/
theorem Bd.callUa {x : MethodName} {C owner : String} {y' : xM} {R' : Room} {As rest : List Value} {b : Nat} {Mc Rest : va_W} {O' : xO → Prop} {idx : Nat} (hy : xMok y') (hlk : Cond.methodLink (xCn y.2.2.2.2) idx x ∈ xAll) (hsame : Cond.sameMethod x.cls owner x.name x.desc ∈ xAll) (hsel : Cond.selects C x y'.1 ∈ xAll) (hin : Cond.instanceMethod y'.1 ∈ xAll) (hyx : y'.1 = ⟨owner, x.name, x.desc⟩)
    (hmh : owner ≠ "java/lang/invoke/MethodHandle" ∧ owner ≠ "java/lang/invoke/VarHandle") (hn : (parseMethodDescriptor x.desc).map (fun d => d.parameters.length) = some As.length) (hd : decode y.2.1 pc = .ok (.invokevirtual idx, 3))
    (hsp : SpP E y' R' (.ref b :: As) Mc O') (hO : ∀ X M', ¬ O' (.inr (X, M'))) (hR : R'.frames + 1 ≤ R.frames ∧ 8 + (y'.2.2.1 + 11) + R'.locals ≤ R.locals) (hst : st = As.reverse ++ .ref b :: rest) (hcat : (rest.map fun v => v.category).sum ≤ 8)
    (q0 : Nat) {ci : Nat} {fs : List Value} {r : vw_C} (hb : Mc[q0]? = some (b, .inr (ci, fs))) (hci : vwCl[ci]? = some r) (hrc : r.1 = C) (hroom : ck + R'.cells ≤ R.cells ∧ sk + R'.slots ≤ R.slots)
    (kk : ∀ v M', O' (.inl (v, M')) → BdP E y R mc ms O (pc + 3) L (v.toList ++ rest) (M' ++ Rest) (ck + R'.cells) (sk + R'.slots)) : BdP E y R mc ms O pc L st (Mc ++ Rest) ck sk := by
  subst hst
  intro p l e s m args below meth c A H locs ls hF hr hx hP hD hS hl hLn
  obtain ⟨hexec, hl0, hbt, hml, hown, hts, hlocks, hnm, hA, hKK, hG⟩ := id hF
  obtain ⟨⟨hbl, hpre⟩, hAc, hPc⟩ := x_pre2 (As := .ref b :: As) hKK hG hP hD hS hA
  have hrec := va_recv hKK hPc hci hb
  rw [hrc] at hrec
  have hT : GoodIn xAll (va_wsU (xCn y.2.2.2.2) idx C owner x y'.1 (xWs y')) := by
    intro w h
    rcases List.mem_append.mp h with h | h
    · simp only [List.mem_cons, List.not_mem_nil, or_false] at h
      rcases h with rfl | rfl | rfl | rfl | rfl
      · exact xGood _ hlk
      · exact xGood _ hsame
      · exact xGood _ hsel
      · exact xGood _ hin
      · exact xGood _ hy.2.1
    · exact xWsGood hy w h
  have cw := va_cwU (R := R) (s := s) (args := args) (ret := y'.2.2.2.1) (bytes := y'.2.1) (maxL := y'.2.2.1) (rm := R') As.length hts hT rfl rfl rfl hyx ⟨hmh.1, hmh.2, hn⟩ hR
  exact x_behind2 hF hr hx hP hD hS hl hLn hAc (x_runR (va_runU (As := As) ⟨hexec, hbt, hml, hown, hts⟩ (x_metP hsp hO l H.size hl0) cw ⟨hbl, hrec, hpre⟩ rfl rfl hl.1 rfl (lv_room hcat) hd hroom)) (fun X M' h => absurd h (hO X M')) kk
/-- an overriding one -/
theorem Bd.callOa {x : MethodName} {C owner : String} {y' y0 : xM} {R' : Room} {As rest : List Value} {b : Nat} {Mc Rest : va_W} {O' : xO → Prop} {idx : Nat} (hy : xMok y') (hlk : Cond.methodLink (xCn y.2.2.2.2) idx x ∈ xAll) (hsame : Cond.sameMethod x.cls owner x.name x.desc ∈ xAll) (hsel : Cond.selects C x y'.1 ∈ xAll) (hin : Cond.instanceMethod y'.1 ∈ xAll) (hy0 : xMok y0) (h0 : y0.1 = ⟨owner, x.name, x.desc⟩) (hin0 : Cond.instanceMethod y0.1 ∈ xAll)
    (hmh : owner ≠ "java/lang/invoke/MethodHandle" ∧ owner ≠ "java/lang/invoke/VarHandle") (hn : (parseMethodDescriptor x.desc).map (fun d => d.parameters.length) = some As.length) (hd : decode y.2.1 pc = .ok (.invokevirtual idx, 3))
    (hsp : SpP E y' R' (.ref b :: As) Mc O') (hO : ∀ X M', ¬ O' (.inr (X, M'))) (hR : R'.frames + 1 ≤ R.frames ∧ 8 + (y'.2.2.1 + 11) + R'.locals ≤ R.locals) (hst : st = As.reverse ++ .ref b :: rest) (hcat : (rest.map fun v => v.category).sum ≤ 8)
    (q0 : Nat) {ci : Nat} {fs : List Value} {r : vw_C} (hb : Mc[q0]? = some (b, .inr (ci, fs))) (hci : vwCl[ci]? = some r) (hrc : r.1 = C) (hroom : ck + R'.cells ≤ R.cells ∧ sk + R'.slots ≤ R.slots)
    (kk : ∀ v M', O' (.inl (v, M')) → BdP E y R mc ms O (pc + 3) L (v.toList ++ rest) (M' ++ Rest) (ck + R'.cells) (sk + R'.slots)) : BdP E y R mc ms O pc L st (Mc ++ Rest) ck sk := by
  subst hst
  intro p l e s m args below meth c A H locs ls hF hr hx hP hD hS hl hLn
  obtain ⟨hexec, hl0, hbt, hml, hown, hts, hlocks, hnm, hA, hKK, hG⟩ := id hF
  obtain ⟨⟨hbl, hpre⟩, hAc, hPc⟩ := x_pre2 (As := .ref b :: As) hKK hG hP hD hS hA
  have hrec := va_recv hKK hPc hci hb
  rw [hrc] at hrec
  rw [h0] at hin0
  have hT : GoodIn xAll (va_wsO (xCn y.2.2.2.2) idx C owner x y'.1 (xWs y')) := by
    intro w h
    rcases List.mem_append.mp h with h | h
    · simp only [List.mem_cons, List.not_mem_nil, or_false] at h
      rcases h with rfl | rfl | rfl | rfl | rfl | rfl
      · exact xGood _ hlk
      · exact xGood _ hsame
      · exact xGood _ hin0
      · exact xGood _ hsel
      · exact xGood _ hin
      · exact xGood _ hy.2.1
    · exact xWsGood hy w h
  have hcd : Cond.code ⟨owner, x.name, x.desc⟩ y0.2.1 y0.2.2.1 y0.2.2.2.1 ∈ xAll := by rw [← h0]; exact hy0.1
  have cw := va_cwO (R := R) (s := s) (args := args) (ret := y'.2.2.2.1) (bytes := y'.2.1) (maxL := y'.2.2.1) (rm := R') As.length hts hT rfl rfl rfl hcd ⟨hmh.1, hmh.2, hn⟩ hR
  exact x_behind2 hF hr hx hP hD hS hl hLn hAc (x_runR (va_runU (As := As) ⟨hexec, hbt, hml, hown, hts⟩ (x_metP hsp hO l H.size hl0) cw ⟨hbl, hrec, hpre⟩ rfl rfl hl.1 rfl (lv_room hcat) hd hroom)) (fun X M' h => absurd h (hO X M')) kk
/-- super -/
theorem Bd.callSUa {y' : xM} {R' : Room} {As rest : List Value} {b : Nat} {Mc Rest : va_W} {O' : xO → Prop} {idx : Nat} (hy : xMok y') (hlk : Cond.methodLink (xCn y.2.2.2.2) idx y'.1 ∈ xAll) (hsame : Cond.sameMethod y'.1.cls y'.1.cls y'.1.name y'.1.desc ∈ xAll) (hsup : Cond.superclass (xCn y.2.2.2.2) y'.1.cls ∈ xAll) (hin : Cond.instanceMethod y'.1 ∈ xAll)
    (hno : y'.1.name ≠ "<init>") (hn : xNa y' As.length) (hd : decode y.2.1 pc = .ok (.invokespecial idx, 3))
    (hsp : SpP E y' R' (.ref b :: As) Mc O') (hO : ∀ X M', ¬ O' (.inr (X, M'))) (hR : R'.frames + 1 ≤ R.frames ∧ 8 + (y'.2.2.1 + 11) + R'.locals ≤ R.locals) (hst : st = As.reverse ++ .ref b :: rest) (hcat : (rest.map fun v => v.category).sum ≤ 8)
    (q0 : Nat) {ci : Nat} {fs : List Value} {r : vw_C} (hb : Mc[q0]? = some (b, .inr (ci, fs))) (hci : vwCl[ci]? = some r) (hroom : ck + R'.cells ≤ R.cells ∧ sk + R'.slots ≤ R.slots)
    (kk : ∀ v M', O' (.inl (v, M')) → BdP E y R mc ms O (pc + 3) L (v.toList ++ rest) (M' ++ Rest) (ck + R'.cells) (sk + R'.slots)) : BdP E y R mc ms O pc L st (Mc ++ Rest) ck sk := by
  subst hst
  intro p l e s m args below meth c A H locs ls hF hr hx hP hD hS hl hLn
  obtain ⟨hexec, hl0, hbt, hml, hown, hts, hlocks, hnm, hA, hKK, hG⟩ := id hF
  obtain ⟨⟨hbl, hpre⟩, hAc, hPc⟩ := x_pre2 (As := .ref b :: As) hKK hG hP hD hS hA
  have hrec := va_recv hKK hPc hci hb
  have hT : GoodIn xAll (va_wsSU (xCn y.2.2.2.2) idx y'.1 (xWs y')) := by
    intro w h
    rcases List.mem_append.mp h with h | h
    · simp only [List.mem_cons, List.not_mem_nil, or_false] at h
      rcases h with rfl | rfl | rfl | rfl | rfl
      · exact xGood _ hlk
      · exact xGood _ hsame
      · exact xGood _ hsup
      · exact xGood _ hin
      · exact xGood _ hy.2.1
    · exact xWsGood hy w h
  have cw := va_cwSU (R := R) (s := s) (args := args) (ret := y'.2.2.2.1) (bytes := y'.2.1) (maxL := y'.2.2.1) (rm := R') As.length hts hT rfl rfl rfl ⟨hno, hn⟩ hR
  exact x_behind2 hF hr hx hP hD hS hl hLn hAc (x_runR (va_runSU (As := As) (hKK.1 ci r hci).2 ⟨hexec, hbt, hml, hown, hts⟩ (x_metP hsp hO l H.size hl0) cw ⟨hbl, hrec, hpre⟩ rfl rfl hl.1 rfl (lv_room hcat) hd hroom)) (fun X M' h => absurd h (hO X M')) kk
/-- a static method over cells ahead -/
theorem Bd.callSa {y' : xM} {R' : Room} {As rest : List Value} {Mc Rest : va_W} {O' : xO → Prop} {idx : Nat} (hy : xMok y') (hv : Cond.static y'.1 ∈ xAll) (hn : xNa y' As.length) (hlk : Cond.methodLink (xCn y.2.2.2.2) idx y'.1 ∈ xAll) (hd : decode y.2.1 pc = .ok (.invokestatic idx, 3))
    (hsp : SpP E y' R' As Mc O') (hR : R'.frames + 1 ≤ R.frames ∧ 8 + (y'.2.2.1 + 11) + R'.locals ≤ R.locals) (hst : st = As.reverse ++ rest) (hcat : (rest.map fun v => v.category).sum ≤ 8) (hroom : ck + R'.cells ≤ R.cells ∧ sk + R'.slots ≤ R.slots)
    (kx : ∀ X M', O' (.inr (X, M')) → O (.inr (X, M' ++ Rest)) ∧ ck + R'.cells ≤ mc ∧ sk + R'.slots ≤ ms)
    (kk : ∀ v M', O' (.inl (v, M')) → BdP E y R mc ms O (pc + 3) L (v.toList ++ rest) (M' ++ Rest) (ck + R'.cells) (sk + R'.slots)) : BdP E y R mc ms O pc L st (Mc ++ Rest) ck sk := by
  subst hst
  intro p l e s m args below meth c A H locs ls hF hr hx hP hD hS hl hLn
  obtain ⟨hexec, hl0, hbt, hml, hown, hts, hlocks, hnm, hA, hKK, hG⟩ := id hF
  obtain ⟨⟨hbl, hpre⟩, hAc, hPc⟩ := x_pre2 (As := As) hKK hG hP hD hS hA
  exact x_behind2 hF hr hx hP hD hS hl hLn hAc (vx_runS ⟨hexec, hbt, hml, hown, hts⟩ (hsp l H.size hl0) ⟨x_callB hts hy hn hlk hR, hts _ hv⟩ ⟨hbl, hpre⟩ rfl rfl hl.1 rfl (lv_room hcat) hd hroom) kx kk
/-- through List, on an ArrayList -/
theorem Bd.callFa {x : MethodName} {y' : xM} {R' : Room} {As rest : List Value} {b cnt : Nat} {Mc Rest : va_W} {O' : xO → Prop} {idx : Nat} (hy : xMok y') (hlk : Cond.methodLink (xCn y.2.2.2.2) idx x ∈ xAll) (hfw : (x, y'.1) ∈ xFW) (hsel : Cond.selects "java/util/ArrayList" x y'.1 ∈ xAll) (hin : Cond.instanceMethod y'.1 ∈ xAll)
    (hn : (parseMethodDescriptor x.desc).map (fun d => d.parameters.length) = some As.length) (hd : decode y.2.1 pc = .ok (.invokeinterface idx cnt, 5))
    (hsp : SpP E y' R' (.ref b :: As) Mc O') (hO : ∀ X M', ¬ O' (.inr (X, M'))) (hR : R'.frames + 1 ≤ R.frames ∧ 8 + (y'.2.2.1 + 11) + R'.locals ≤ R.locals) (hst : st = As.reverse ++ .ref b :: rest) (hcat : (rest.map fun v => v.category).sum ≤ 8)
    (q0 : Nat) {fs : List Value} (hb : Mc[q0]? = some (b, .inr (16, fs))) (hroom : ck + R'.cells ≤ R.cells ∧ sk + R'.slots ≤ R.slots)
    (kk : ∀ v M', O' (.inl (v, M')) → BdP E y R mc ms O (pc + 5) L (v.toList ++ rest) (M' ++ Rest) (ck + R'.cells) (sk + R'.slots)) : BdP E y R mc ms O pc L st (Mc ++ Rest) ck sk := by
  subst hst
  intro p l e s m args below meth c A H locs ls hF hr hx hP hD hS hl hLn
  obtain ⟨hexec, hl0, hbt, hml, hown, hts, hlocks, hnm, hA, hKK, hG⟩ := id hF
  obtain ⟨⟨hbl, hpre⟩, hAc, hPc⟩ := x_pre2 (As := .ref b :: As) hKK hG hP hD hS hA
  have hrec := va_recv (q := (RJx4a65c, TJx4a65c, 3)) hKK hPc rfl hb
  have hT : GoodIn xAll (va_wsF (xCn y.2.2.2.2) idx "java/util/ArrayList" x y'.1 (xWs y')) := by
    intro w h
    rcases List.mem_append.mp h with h | h
    · simp only [List.mem_cons, List.not_mem_nil, or_false] at h
      rcases h with rfl | rfl | rfl | rfl
      · exact xGood _ hlk
      · exact xGood _ hsel
      · exact xGood _ hin
      · exact xGood _ hy.2.1
    · exact xWsGood hy w h
  have hmh := xFW_ok _ hfw
  have cw := va_cwF (R := R) (s := s) (args := args) (ret := y'.2.2.2.1) (bytes := y'.2.1) (maxL := y'.2.2.1) (rm := R') As.length hts hT rfl rfl rfl (hG.2.2.2.2.2.2.2.2.2.2 _ hfw) ⟨hmh.1, hmh.2, hn⟩ hR
  have hrun := va_runF (e := e) (below := below) (meth := meth) (As := As) (rest := rest) (g := F0 m pc ls (As.reverse ++ .ref b :: rest)) (locs := locs) (hKK.1 16 (RJx4a65c, TJx4a65c, 3) rfl).2 ⟨hexec, hbt, hml, hown, hts⟩ (x_metP hsp hO l H.size hl0) cw ⟨hbl, hrec, hpre⟩ rfl rfl hl.1 rfl (lv_room hcat) hd hroom
  intro T hT2 X
  obtain ⟨v, st₀, t, T', L2, h0, X', hL, e1, e2, ⟨v', M', ho, hv, hP1, hD1, hF1⟩, stp⟩ := hrun T hT2 X
  cases hv
  obtain ⟨k1, k2, k3⟩ := vx_keep h0 e1 hS (fun q _ h => hAc q h) hAc hL hF1
  obtain ⟨hP2, hD2⟩ := x_join2 hP hD k2 hAc (H1 := T'.heap) (by rw [e1]; exact hP1) hD1
  obtain ⟨t2, a1, b1⟩ := kk v M' ho p l e s m args below meth c A T'.heap (locs ++ L2) ls hF hr hx hP2 hD2 k3 hl hLn T' rfl X'
  exact ⟨t2, stp t2 a1, b1⟩
/-- a method of an array comes back -/
theorem Bd.areta {a : Nat} {ty : FieldType} (hd : decode y.2.1 pc = .ok (.areturn, 1)) (hret : y.2.2.2.1 = some (.array ty)) (ho : O (.inl (some (.ref a), M))) (h1 : ck ≤ mc) (h2 : sk ≤ ms) : BdP E y R mc ms O pc L [.ref a] M ck sk := by
  intro p l e s m args below meth c A H locs ls hF hr hx hP hD hS hl hLn
  obtain ⟨hexec, hl0, hb, hml, hown, hts, hlocks, hnm, hA, hKK, hG⟩ := id hF
  refine W.widen h1 h2 (vx_ret ?_)
  have hq : ∀ t : State, t.heap = H → s.WarmedH t.vm → xQc E O A args s (.returned (some (.ref a))) t := fun t ht hW => ⟨some (.ref a), M, ho, rfl, by rw [ht]; exact hP, hD, hS.F ht⟩
  exact W.aret hexec hb (hr.trans hret) (Or.inr ⟨_, rfl⟩) (Or.inr ⟨_, rfl⟩) hq hS.2.2 hd
end BJC
