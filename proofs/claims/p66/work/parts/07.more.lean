theorem oz {α : Type} {v : Int32} {x : Option α} {b : α} (h : (if v &&& 1 = v then x else none) = some b) : v &&& 1 = v ∧ x = some b := by
  by_cases hc : v &&& 1 = v
  · rw [if_pos hc] at h; exact ⟨hc, h⟩
  · rw [if_neg hc] at h; cases h
theorem x01 {v : Int32} (h : v &&& 1 = v) : v = 0 ∨ v = 1 := by
  have h1 := pk_and v (m := 1) 1 (by decide)
  rw [h] at h1
  have h2 : v.toBitVec.toNat % 2 ^ 1 = 0 ∨ v.toBitVec.toNat % 2 ^ 1 = 1 := by omega
  rcases h2 with e | e <;> rw [e] at h1
  · exact Or.inl h1
  · exact Or.inr h1
theorem xz {v : Int32} (h : v &&& 1 = v) : narrow .boolean (.int v) = .int v ∧ fits .boolean (.int v) = true := by
  rcases x01 h with rfl | rfl
  · exact ⟨rfl, rfl⟩
  · exact ⟨rfl, rfl⟩
theorem xthrok_0 : xThrOk 11 103 107 "java/lang/IllegalStateException" := ⟨xthr_l0, xthr_0⟩
theorem xthrok_1 : xThrOk 11 117 121 "java/lang/IllegalArgumentException" := ⟨xthr_l1, xthr_1⟩
theorem xthrok_2 : xThrOk 11 398 402 "java/lang/IndexOutOfBoundsException" := ⟨xthr_l2, xthr_2⟩
section BTAB
variable {E : xE} {y : xM} {R : Room} {mc ms : Nat} {O : xO → Prop} {pc : Nat} {L : xL} {st : List Value} {M : va_W} {ck sk : Nat}
theorem Bd.tableIn {dflt lo hi : Int} {offs : Array Int} {len : Nat} {x : Int32} {off : Int} {tgt : Nat} (hd : decode y.2.1 pc = .ok (.tableswitch dflt lo hi offs, len)) (j : Nat) (hx : x.toInt = lo + j) (ho : offs[j]? = some off) (ht : (pc : Int) + off = (tgt : Int)) (hh : lo + j ≤ hi)
    (k : BdP E y R mc ms O tgt L st M ck sk) : BdP E y R mc ms O pc L (.int x :: st) M ck sk := by
  intro p l e s m args below meth c A H locs ls hF hr hx0 hP hD hS hl hLn
  obtain ⟨hexec, hl0, hbt, -⟩ := id hF
  exact lv_tableIn hexec hbt hd (by omega) (by omega) (by rw [hx, show (lo + (j : Int) - lo).toNat = j by omega]; exact ho) ht (k p l e s m args below meth c A H locs ls hF hr hx0 hP hD hS hl hLn)
theorem Bd.tableOut {dflt lo hi : Int} {offs : Array Int} {len : Nat} {x : Int32} {tgt : Nat} (hd : decode y.2.1 pc = .ok (.tableswitch dflt lo hi offs, len)) (h : x.toInt < lo ∨ hi < x.toInt) (ht : (pc : Int) + dflt = (tgt : Int))
    (k : BdP E y R mc ms O tgt L st M ck sk) : BdP E y R mc ms O pc L (.int x :: st) M ck sk := by
  intro p l e s m args below meth c A H locs ls hF hr hx0 hP hD hS hl hLn
  obtain ⟨hexec, hl0, hbt, -⟩ := id hF
  exact lv_tableOut hexec hbt hd h ht (k p l e s m args below meth c A H locs ls hF hr hx0 hP hD hS hl hLn)
end BTAB
theorem xmab : Cond.methodLink (xCn 11) 292 Lib.Math.abs.name ∈ xAll ∧ Cond.static Lib.Math.abs.name ∈ xAll ∧ Cond.initialized "java/lang/Math" ∈ xAll ∧ Cond.code Lib.Math.abs.name Lib.Math.abs.code 1 (some .int) ∈ xAll := ⟨xm5 (n := 121) rfl rfl, xm5 (n := 122) rfl rfl, xm1 (n := 24) rfl rfl, xm5 (n := 123) rfl rfl⟩
def xabs (x : Int32) : Int32 := if 0 ≤ x then x else 0 - x
theorem Bd.mabs {E : xE} {y : xM} {R : Room} {mc ms : Nat} {O : xO → Prop} {pc : Nat} {L : xL} {st : List Value} {M : va_W} {ck sk : Nat} {x : Int32} (hy : y.2.2.2.2 = 11) (hd : decode y.2.1 pc = .ok (.invokestatic 292, 3)) (hR : 1 ≤ R.frames ∧ (st.map fun v => v.category).sum + 13 ≤ R.locals ∧ ck ≤ R.cells ∧ sk ≤ R.slots)
    (k : BdP E y R mc ms O (pc + 3) L (.int (xabs x) :: st) M ck sk) : BdP E y R mc ms O pc L (.int x :: st) M ck sk := by
  intro p l e s m args below meth c A H locs ls hF hr hx0 hP hD hS hl hLn
  obtain ⟨hexec, hl0, hbt, hml, hown, hts, -⟩ := id hF
  rw [hy] at hown
  exact va_mabs hexec hbt (by rw [hml]; exact hl.1.symm) hown (hts _ xmab.1) (hts _ xmab.2.1) (hts _ xmab.2.2.1) (hts _ xmab.2.2.2) hR.1 hR.2.1 hR.2.2.1 hR.2.2.2 hd (k p l e s m args below meth c A H locs ls hF hr hx0 hP hD hS hl hLn)
theorem ok31 {α : Type} {k : Nat} {x : Option α} {b : α} (h : (if k < 22 then x else none) = some b) : k < 22 ∧ x = some b := by
  by_cases hc : k < 22
  · rw [if_pos hc] at h; exact ⟨hc, h⟩
  · rw [if_neg hc] at h; cases h
