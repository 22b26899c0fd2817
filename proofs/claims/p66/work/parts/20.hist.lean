/-! houses in any number: cells of a house, of some houses -/
abbrev xHO : Type := (Nat → Nat) × (Nat → Int32) × (Nat → Nat → Int32)
def hC (E : xE) (h : xHO) : va_W := [((h.1 0), .inr (5, [.int (h.2.1 7), .int (h.2.1 9), .int (h.2.1 10), .int (h.2.1 11), .ref (h.1 1), .ref (h.1 2), .ref (h.1 3), .ref (h.1 4), .ref (h.1 5)])), ((h.1 1), .inl (E.2.1.1, 20, .inl (h.2.2 4))), ((h.1 2), .inl (E.2.1.1, 20, .inl (h.2.2 5))), ((h.1 3), .inl (E.2.1.1, 20, .inl (h.2.2 6))), ((h.1 4), .inl (E.2.1.1, 20, .inl (h.2.2 7))), ((h.1 5), .inl (E.2.1.1, 20, .inl (h.2.2 8))), ((h.1 6), .inr (1, [.int (h.2.1 6), .ref (h.1 7), .ref (h.1 8), .ref (h.1 9), .ref (h.1 10)])), ((h.1 7), .inl (E.2.1.1, 4, .inl (h.2.2 0))), ((h.1 8), .inl (E.2.1.1, 4, .inl (h.2.2 1))), ((h.1 9), .inl (E.2.1.1, 4, .inl (h.2.2 2))), ((h.1 10), .inl (E.2.1.1, 4, .inl (h.2.2 3))), ((h.1 11), .inr (0, [.int (h.2.1 2), .int (h.2.1 3), .int (h.2.1 4), .int (h.2.1 5)])), ((h.1 12), .inr (3, [.int (h.2.1 0), .int (h.2.1 1), .int (h.2.1 8), .int (h.2.1 12), .int (h.2.1 13), .ref (h.1 11), .ref (h.1 6), .ref (h.1 0), .ref (h.1 13)])), ((h.1 13), .inl (E.2.1.1, 4, .inl (h.2.2 9)))]
def hN (E : xE) : Nat → (Nat → Option xHO) → va_W
  | 0, _ => []
  | n + 1, P => (match P n with | none => [] | some h => hC E h) ++ hN E n P
/-- the slots: the houses that lie there, and which of them are filled -/
abbrev xSl : Type := (Nat → Option xHO) × (Nat → Int32)
abbrev hX (E : xE) (P : Nat → Option xHO) (S : xSl) : va_W := hN E 8 P ++ hN E 2 S.1
abbrev hA (P : Nat → Option xHO) : Nat → Option Nat := fun i => (P i).map fun h => h.1 12
abbrev hAS (S : xSl) : Nat → Option Nat := hA S.1
abbrev hFS (S : xSl) : Nat → Int32 := S.2
/-- what a slot holds for those who ask -/
def hE (S : xSl) : Nat → Option xHO := fun j => if S.2 j = 0 then none else S.1 j
abbrev sU (S : xSl) (k : Nat) (x : Option xHO) : xSl := (va_up S.1 k x, S.2)
abbrev xS0 : xSl := (fun _ => none, fun _ => 0)
/-- what a house is behind a copy: its own rows, overwritten as far as they are copied -/
def hCp (f g : Nat → Nat → Int32) : Nat → Nat → Int32 := fun k => if k < 4 then va_cpy (f k) (g k) (Int32.toNatClampNeg 0) (Int32.toNatClampNeg 0) (Int32.toNatClampNeg 4) else if k < 9 then va_cpy (f k) (g k) (Int32.toNatClampNeg 0) (Int32.toNatClampNeg 0) (Int32.toNatClampNeg 20) else g k
theorem hN_out (E : xE) {P : Nat → Option xHO} {k : Nat} {x : Option xHO} : ∀ n, n ≤ k → hN E n (va_up P k x) = hN E n P := by
  intro n
  induction n with
  | zero => intro _; rfl
  | succ n ih =>
    intro hk
    show (match (va_up P k x) n with | none => [] | some h => hC E h) ++ hN E n (va_up P k x) = (match P n with | none => [] | some h => hC E h) ++ hN E n P
    have h1 : (va_up P k x) n = P n := if_neg (fun q => by omega)
    rw [h1, ih (by omega)]
theorem hN_perm (E : xE) {P : Nat → Option xHO} {h : xHO} : ∀ (n k : Nat), k < n → P k = some h → (hN E n P).Perm (hC E h ++ hN E n (va_up P k none)) := by
  intro n
  induction n with
  | zero => intro k hk; omega
  | succ n ih =>
    intro k hk hp
    show ((match P n with | none => [] | some h => hC E h) ++ hN E n P).Perm (hC E h ++ ((match (va_up P k none) n with | none => [] | some h => hC E h) ++ hN E n (va_up P k none)))
    by_cases e : k = n
    · subst e
      have h1 : (va_up P k none) k = none := if_pos rfl
      rw [hp, hN_out E k (Nat.le_refl k), h1]
      exact List.Perm.refl _
    · have h1 : (va_up P k none) n = P n := if_neg (fun q => e q.symm)
      rw [h1]
      exact ((ih k (by omega) hp).append_left _).trans (List.perm_append_comm_assoc _ _ _)
theorem hU_twice (P : Nat → Option xHO) (k : Nat) (x y : Option xHO) : va_up (va_up P k x) k y = va_up P k y := by
  funext j
  show (if j = k then y else if j = k then x else P j) = if j = k then y else P j
  split <;> rfl
theorem hU_none {P : Nat → Option xHO} {k : Nat} {x : Option xHO} (h : P k = x) : va_up P k x = P := by
  funext j
  show (if j = k then x else P j) = P j
  split
  · rename_i e; rw [e, h]
  · rfl
theorem hN_put (E : xE) (P : Nat → Option xHO) (h : xHO) {n k : Nat} (hk : k < n) : (hN E n (va_up P k (some h))).Perm (hC E h ++ hN E n (va_up P k none)) := by
  have h1 := hN_perm E (P := va_up P k (some h)) n k hk (if_pos rfl)
  rw [hU_twice] at h1
  exact h1
theorem hA_up (P : Nat → Option xHO) (k : Nat) (h : xHO) : va_up (hA P) k (some (h.1 12)) = hA (va_up P k (some h)) := by
  funext j
  show (if j = k then some (h.1 12) else (P j).map _) = ((if j = k then some h else P j)).map _
  split <;> rfl
theorem hA_upN (P : Nat → Option xHO) (k : Nat) : va_up (hA P) k none = hA (va_up P k none) := by
  funext j
  show (if j = k then none else (P j).map _) = ((if j = k then none else P j)).map _
  split <;> rfl
theorem hA_same {P : Nat → Option xHO} {k : Nat} {h h' : xHO} (h0 : P k = some h) (h1 : h'.1 = h.1) : hA (va_up P k (some h')) = hA P := by
  funext j
  show ((if j = k then some h' else P j)).map _ = (P j).map _
  split
  · rename_i e; rw [e, h0, Option.map_some, Option.map_some, h1]
  · rfl
def hPl (count first : Int32) : Int32 := (first + count) - (first + count) / 8 * 8
def F_X2_record (v_this_count : Int32) (v_this_first : Int32) : Option (Unit × Int32 × Int32) := (if xin (hPl v_this_count v_this_first) 8 = true then (if 8 ≤ v_this_count then some ((), v_this_count, hPl 1 v_this_first) else some ((), v_this_count + 1, v_this_first)) else none)
/-- past behind record: at the place there is a house that is as this one, all others as they were -/
def hR (count first : Int32) (P : Nat → Option xHO) (h : xHO) (P' : Nat → Option xHO) : Prop := ∃ (a : Nat → Nat) (g : Nat → Nat → Int32), P' = va_up P (hPl count first).toNatClampNeg (some (a, h.2.1, hCp h.2.2 g))

abbrev hW3 (E : xE) (hh hp hs hq : Nat) (count first : Int32) (P : Nat → Option xHO) (S : xSl) : va_W := [(hh, .inr (2, [.int count, .int first, .ref hp, .ref hs, .ref hq])), (hp, .inl (E.2.1.2.2.2, 8, .inr (.inr (.inr (.inr (hA P)))))), (hs, .inl (E.2.1.2.2.2, 2, .inr (.inr (.inr (.inr (hAS S)))))), (hq, .inl (E.2.1.2.2.1, 2, .inl (hFS S)))]
theorem hAS_same {S : xSl} {k : Nat} {h h' : xHO} (h0 : S.1 k = some h) (h1 : h'.1 = h.1) : hAS (sU S k (some h')) = hAS S := hA_same h0 h1
theorem sU_twice (S : xSl) (k : Nat) (x y : Option xHO) : sU (sU S k x) k y = sU S k y := congrArg (fun z => (z, S.2)) (hU_twice S.1 k x y)
theorem sU_none {S : xSl} {k : Nat} {x : Option xHO} (h : S.1 k = x) : sU S k x = S := congrArg (fun z => (z, S.2)) (hU_none h)
theorem hE_some {S : xSl} {k : Nat} {g : xHO} (h : hE S k = some g) : S.1 k = some g ∧ ¬ S.2 k = 0 := by
  unfold hE at h
  by_cases c : S.2 k = 0
  · rw [if_pos c] at h; cases h
  · rw [if_neg c] at h; exact ⟨h, c⟩
theorem hE_fill (S : xSl) (k : Nat) (x : Option xHO) : hE (va_up S.1 k x, upd S.2 k 1) = va_up (hE S) k x := by
  funext j
  show (if upd S.2 k 1 j = 0 then none else va_up S.1 k x j) = va_up (hE S) k x j
  by_cases e : j = k
  · subst e
    rw [show upd S.2 j 1 j = 1 from if_pos rfl, show va_up S.1 j x j = x from if_pos rfl, show va_up (hE S) j x j = x from if_pos rfl]
    exact if_neg (by decide)
  · rw [show upd S.2 k 1 j = S.2 j from if_neg e, show va_up S.1 k x j = S.1 j from if_neg e, show va_up (hE S) k x j = hE S j from if_neg e]
    rfl
theorem x_pidx2 {M A R X : va_W} {is : List Nat} {n : Nat} (hp : is.Perm (List.range n)) (hn : M.length = n) (he : is.filterMap (fun i => M[i]?) = A ++ R) : (A ++ (R ++ X)).Perm (M ++ X) := by
  rw [← List.append_assoc]
  exact (x_pidx hp hn he).append_right X
section BPMX
variable {E : xE} {y : xM} {R : Room} {mc ms : Nat} {O : xO → Prop} {pc : Nat} {L : xL} {st : List Value} {ck sk : Nat}
theorem Bd.pmx {M A Q X : va_W} {n : Nat} (is : List Nat) (hp : is.Perm (List.range n)) (hn : M.length = n) (he : is.filterMap (fun i => M[i]?) = A ++ Q) (k : BdP E y R mc ms O pc L st (A ++ (Q ++ X)) ck sk) : BdP E y R mc ms O pc L st (M ++ X) ck sk := Bd.perm (x_pidx2 hp hn he).symm k
theorem Bd.pmbx {M A Q X : va_W} {n : Nat} (is : List Nat) (hp : is.Perm (List.range n)) (hn : M.length = n) (he : is.filterMap (fun i => M[i]?) = A ++ Q) (k : BdP E y R mc ms O pc L st (M ++ X) ck sk) : BdP E y R mc ms O pc L st (A ++ (Q ++ X)) ck sk := Bd.perm (x_pidx2 hp hn he) k
end BPMX
theorem vin_nat {x : Int32} {n : Nat} (h : xin x n = true) (hn : n < 2 ^ 31) : ∃ j, j < n ∧ x = nI j ∧ x.toNatClampNeg = j := by
  obtain ⟨j, h1, h2⟩ := vp_in_of (xg h) hn
  exact ⟨j, h1, h2, by rw [h2]; exact nI_clamp (by omega)⟩
/-- a new house in a list of houses -/
theorem hX_new (E : xE) {P : Nat → Option xHO} {S : xSl} {W H : va_W} {j : Nat} (hj : j < 8) (hP : P j = none) (g : xHO) : (hC E g ++ (W ++ (H ++ hX E P S))).Perm (W ++ (H ++ hX E (va_up P j (some g)) S)) := by
  have h1 := hN_put E P g hj
  rw [hU_none hP] at h1
  refine (List.perm_append_comm_assoc _ _ _).trans ((List.Perm.append_left W) ((List.perm_append_comm_assoc _ _ _).trans ((List.Perm.append_left H) ?_)))
  show (hC E g ++ (hN E 8 P ++ hN E 2 S.1)).Perm (hN E 8 _ ++ hN E 2 S.1)
  rw [← List.append_assoc]
  exact h1.symm.append_right _
theorem hX_newS (E : xE) {P : Nat → Option xHO} {S : xSl} {W H : va_W} {j : Nat} (hj : j < 2) (hS : S.1 j = none) (g : xHO) : (hC E g ++ (W ++ (H ++ hX E P S))).Perm (W ++ (H ++ hX E P (sU S j (some g)))) := by
  have h1 := hN_put E S.1 g hj
  rw [hU_none hS] at h1
  refine (List.perm_append_comm_assoc _ _ _).trans ((List.Perm.append_left W) ((List.perm_append_comm_assoc _ _ _).trans ((List.Perm.append_left H) ?_)))
  show (hC E g ++ (hN E 8 P ++ hN E 2 S.1)).Perm (hN E 8 P ++ hN E 2 _)
  exact (List.perm_append_comm_assoc _ _ _).trans ((List.Perm.append_left _) h1.symm)
/-- one of the houses ahead of the others -/
theorem hX_out (E : xE) {P : Nat → Option xHO} {S : xSl} {W H : va_W} {j : Nat} (hj : j < 8) {g : xHO} (hP : P j = some g) : (W ++ (H ++ hX E P S)).Perm ((W ++ (H ++ hC E g)) ++ hX E (va_up P j none) S) := by
  rw [List.append_assoc, List.append_assoc]
  refine (List.Perm.append_left W) ((List.Perm.append_left H) ?_)
  show (hN E 8 P ++ hN E 2 S.1).Perm (hC E g ++ (hN E 8 _ ++ hN E 2 S.1))
  rw [← List.append_assoc]
  exact (hN_perm E 8 j hj hP).append_right _
theorem hX_outS (E : xE) {P : Nat → Option xHO} {S : xSl} {W H : va_W} {j : Nat} (hj : j < 2) {g : xHO} (hS : S.1 j = some g) : (W ++ (H ++ hX E P S)).Perm ((W ++ (H ++ hC E g)) ++ hX E P (sU S j none)) := by
  rw [List.append_assoc, List.append_assoc]
  refine (List.Perm.append_left W) ((List.Perm.append_left H) ?_)
  show (hN E 8 P ++ hN E 2 S.1).Perm (hC E g ++ (hN E 8 P ++ hN E 2 _))
  exact ((List.Perm.append_left _) (hN_perm E 2 j hj hS)).trans (List.perm_append_comm_assoc _ _ _)
theorem hX_in (E : xE) {P : Nat → Option xHO} {S : xSl} {W H : va_W} {j : Nat} (hj : j < 8) (g : xHO) : ((W ++ (H ++ hC E g)) ++ hX E (va_up P j none) S).Perm (W ++ (H ++ hX E (va_up P j (some g)) S)) := by
  have h1 := hX_out E (P := va_up P j (some g)) (S := S) (W := W) (H := H) hj (g := g) (if_pos rfl)
  rw [hU_twice] at h1
  exact h1.symm
theorem hX_inS (E : xE) {P : Nat → Option xHO} {S : xSl} {W H : va_W} {j : Nat} (hj : j < 2) (g : xHO) : ((W ++ (H ++ hC E g)) ++ hX E P (sU S j none)).Perm (W ++ (H ++ hX E P (sU S j (some g)))) := by
  have h1 := hX_outS E (P := P) (S := sU S j (some g)) (W := W) (H := H) hj (g := g) (if_pos rfl)
  rw [sU_twice] at h1
  exact h1.symm
/-- a copy: the house behind it -/
abbrev hTo (g h : xHO) : xHO := (g.1, h.2.1, hCp h.2.2 g.2.2)
/-! HopOast.History.record -/
def tb_X2_record : List (Nat × List xI) := [(35, [(.aload_n 0, [], 0), (.getfield 11, [2, 2], 0), (.iload_n 2, [], 0)]), (40, [(.aaload, [], 0)]), (41, [(.aload_n 1, [], 0)]), (42, [(.invokevirtual 32, [], 0)]), (45, [(.aload_n 0, [], 0), (.getfield 28, [2, 0], 0), (.bipush 8, [], 8), (.if_icmp .ge 16, [], 0)]), (67, [(.aload_n 0, [], 0), (.aload_n 0, [], 0), (.getfield 24, [2, 1], 0), (.iconst 1, [], 1), (.iadd, [], 0), (.bipush 8, [], 8), (.irem, [], 0), (.putfield 24, [2, 1, 0], 0)]), (80, [(.return_, [], 0)]), (54, [(.aload_n 0, [], 0), (.dup, [], 0), (.getfield 28, [2, 0], 0), (.iconst 1, [], 1), (.iadd, [], 0), (.putfield 28, [2, 0, 0], 0), (.goto 16, [], 0)]), (0, [(.aload_n 0, [], 0), (.getfield 24, [2, 1], 0), (.aload_n 0, [], 0), (.getfield 28, [2, 0], 0), (.iadd, [], 0), (.bipush 8, [], 8), (.irem, [], 0), (.istore_n 2, [], 0), (.aload_n 0, [], 0), (.getfield 11, [2, 2], 0), (.iload_n 2, [], 0)]), (18, [(.aaload, [], 0)]), (19, [(.ifnonnull 16, [], 0)]), (22, [(.aload_n 0, [], 0), (.getfield 11, [2, 2], 0), (.iload_n 2, [], 0), (.new 9, [3], 0), (.dup, [], 0)]), (31, [(.invokespecial 31, [], 0)]), (34, [(.aastore, [], 0)])]
set_option maxRecDepth 100000 in
theorem ok_X2_record : ∀ q ∈ tb_X2_record, xChks mX2_record q.1 q.2 = true := by decide +kernel
theorem nX2_record : xNa mX2_record 1 := by delta xNa; decide +kernel
set_option maxHeartbeats 4000000 in
set_option maxRecDepth 100000 in
theorem s_X2_record (E : xE) (hh hp hs hq : Nat) (h : xHO) (P : Nat → Option xHO) (S : xSl) (count first : Int32) (out : Unit × Int32 × Int32) (hF : F_X2_record count first = some out) (O : xO → Prop) (ho : ∀ P', hR count first P h P' → O (.inl (none, hW3 E hh hp hs hq out.2.1 out.2.2 P' S ++ (hC E h ++ hX E P' S)))) : SpP E mX2_record (xRm 3 102 14 147) [.ref hh, .ref (h.1 12)] (hW3 E hh hp hs hq count first P S ++ (hC E h ++ hX E P S)) O := by
  unfold F_X2_record at hF
  obtain ⟨hin, hF⟩ := og hF
  have hxi : xin (hPl count first) 8 = true := by unfold xin; exact (by
    unfold vp_in at hin
    simp only [Bool.not_eq_true', Bool.or_eq_false_iff, decide_eq_false_iff_not]
    exact ⟨fun q => hin (Or.inl q), fun q => hin (Or.inr q)⟩)
  obtain ⟨j, hj, ej, cj⟩ := vin_nat hxi (by decide)
  have tail : ∀ (P1 : Nat → Option xHO) (g : xHO), P1 j = some g → va_up P1 j none = va_up P j none → BdP E mX2_record (xRm 3 102 14 147) 14 147 O 35 [some (.ref hh), some (.ref (h.1 12)), some (.int (hPl count first))] [] (hW3 E hh hp hs hq count first P1 S ++ (hC E h ++ hX E P1 S)) 14 147 := by
    intro P1 g hg hu
    refine Bd.perm (M' := (hW3 E hh hp hs hq count first P1 S ++ (hC E h ++ hC E g)) ++ hX E (va_up P1 j none) S) (hX_out E hj hg) ?_
    refine Bd.seg ok_X2_record 0 [0] rfl (And.intro (And.intro rfl rfl) (show BdP E mX2_record (xRm 3 102 14 147) 14 147 O 40 [some (.ref hh), some (.ref (h.1 12)), some (.int (hPl count first))] [.int (hPl count first), .ref hp] ((hW3 E hh hp hs hq count first P1 S ++ (hC E h ++ hC E g)) ++ hX E (va_up P1 j none) S) 14 147 from ?_))
    refine Bd.aald 1 rfl hin (xdec ok_X2_record 1 rfl) ?_
    have e1 : va_rf (hA P1 (hPl count first).toNatClampNeg) = .ref (g.1 12) := by rw [cj]; show va_rf ((P1 j).map _) = _; rw [hg]; rfl
    rw [e1]
    refine Bd.seg ok_X2_record 2 [] rfl (show BdP E mX2_record (xRm 3 102 14 147) 14 147 O 42 [some (.ref hh), some (.ref (h.1 12)), some (.int (hPl count first))] [.ref (h.1 12), .ref (g.1 12)] ((hW3 E hh hp hs hq count first P1 S ++ (hC E h ++ hC E g)) ++ hX E (va_up P1 j none) S) 14 147 from ?_)
    refine Bd.pmx (n := 32) (A := [((h.1 12), .inr (3, [.int (h.2.1 0), .int (h.2.1 1), .int (h.2.1 8), .int (h.2.1 12), .int (h.2.1 13), .ref (h.1 11), .ref (h.1 6), .ref (h.1 0), .ref (h.1 13)])), ((h.1 11), .inr (0, [.int (h.2.1 2), .int (h.2.1 3), .int (h.2.1 4), .int (h.2.1 5)])), ((h.1 6), .inr (1, [.int (h.2.1 6), .ref (h.1 7), .ref (h.1 8), .ref (h.1 9), .ref (h.1 10)])), ((h.1 7), .inl (E.2.1.1, 4, .inl (h.2.2 0))), ((h.1 8), .inl (E.2.1.1, 4, .inl (h.2.2 1))), ((h.1 9), .inl (E.2.1.1, 4, .inl (h.2.2 2))), ((h.1 10), .inl (E.2.1.1, 4, .inl (h.2.2 3))), ((h.1 0), .inr (5, [.int (h.2.1 7), .int (h.2.1 9), .int (h.2.1 10), .int (h.2.1 11), .ref (h.1 1), .ref (h.1 2), .ref (h.1 3), .ref (h.1 4), .ref (h.1 5)])), ((h.1 2), .inl (E.2.1.1, 20, .inl (h.2.2 5))), ((h.1 3), .inl (E.2.1.1, 20, .inl (h.2.2 6))), ((h.1 4), .inl (E.2.1.1, 20, .inl (h.2.2 7))), ((h.1 1), .inl (E.2.1.1, 20, .inl (h.2.2 4))), ((h.1 5), .inl (E.2.1.1, 20, .inl (h.2.2 8))), ((g.1 12), .inr (3, [.int (g.2.1 0), .int (g.2.1 1), .int (g.2.1 8), .int (g.2.1 12), .int (g.2.1 13), .ref (g.1 11), .ref (g.1 6), .ref (g.1 0), .ref (g.1 13)])), ((g.1 11), .inr (0, [.int (g.2.1 2), .int (g.2.1 3), .int (g.2.1 4), .int (g.2.1 5)])), ((g.1 6), .inr (1, [.int (g.2.1 6), .ref (g.1 7), .ref (g.1 8), .ref (g.1 9), .ref (g.1 10)])), ((g.1 7), .inl (E.2.1.1, 4, .inl (g.2.2 0))), ((g.1 8), .inl (E.2.1.1, 4, .inl (g.2.2 1))), ((g.1 9), .inl (E.2.1.1, 4, .inl (g.2.2 2))), ((g.1 10), .inl (E.2.1.1, 4, .inl (g.2.2 3))), ((g.1 0), .inr (5, [.int (g.2.1 7), .int (g.2.1 9), .int (g.2.1 10), .int (g.2.1 11), .ref (g.1 1), .ref (g.1 2), .ref (g.1 3), .ref (g.1 4), .ref (g.1 5)])), ((g.1 2), .inl (E.2.1.1, 20, .inl (g.2.2 5))), ((g.1 3), .inl (E.2.1.1, 20, .inl (g.2.2 6))), ((g.1 4), .inl (E.2.1.1, 20, .inl (g.2.2 7))), ((g.1 1), .inl (E.2.1.1, 20, .inl (g.2.2 4))), ((g.1 5), .inl (E.2.1.1, 20, .inl (g.2.2 8)))]) (Q := [(hh, .inr (2, [.int count, .int first, .ref hp, .ref hs, .ref hq])), (hp, .inl (E.2.1.2.2.2, 8, .inr (.inr (.inr (.inr (hA P1)))))), (hs, .inl (E.2.1.2.2.2, 2, .inr (.inr (.inr (.inr (hAS S)))))), (hq, .inl (E.2.1.2.2.1, 2, .inl (hFS S))), ((h.1 13), .inl (E.2.1.1, 4, .inl (h.2.2 9))), ((g.1 13), .inl (E.2.1.1, 4, .inl (g.2.2 9)))]) [16, 15, 10, 11, 12, 13, 14, 4, 6, 7, 8, 5, 9, 30, 29, 24, 25, 26, 27, 28, 18, 20, 21, 22, 19, 23, 0, 1, 2, 3, 17, 31] (by decide) rfl rfl ?_
    refine Bd.callVar oX3_copyFrom vX3_copyFrom nX3_copyFrom k2_32 (xdec ok_X2_record 3 rfl) (As := [.ref (h.1 12)]) (rest := []) (s_X3_copyFrom E (h.1 12) (h.1 11) (h.1 6) (h.1 7) (h.1 8) (h.1 9) (h.1 10) (h.1 0) (h.1 2) (h.1 3) (h.1 4) (h.1 1) (h.1 5) (h.1 13) (g.1 12) (g.1 11) (g.1 6) (g.1 7) (g.1 8) (g.1 9) (g.1 10) (g.1 0) (g.1 2) (g.1 3) (g.1 4) (g.1 1) (g.1 5) (g.1 13) (h.2.1 0) (h.2.1 1) (h.2.1 8) (h.2.1 12) (h.2.1 13) (h.2.1 2) (h.2.1 3) (h.2.1 4) (h.2.1 5) (h.2.1 6) (h.2.1 7) (h.2.1 9) (h.2.1 10) (h.2.1 11) (g.2.1 0) (g.2.1 1) (g.2.1 8) (g.2.1 12) (g.2.1 13) (g.2.1 2) (g.2.1 3) (g.2.1 4) (g.2.1 5) (g.2.1 6) (g.2.1 7) (g.2.1 9) (g.2.1 10) (g.2.1 11) (h.2.2 0) (h.2.2 1) (h.2.2 2) (h.2.2 3) (h.2.2 5) (h.2.2 6) (h.2.2 7) (h.2.2 4) (h.2.2 8) (g.2.2 0) (g.2.2 1) (g.2.2 2) (g.2.2 3) (g.2.2 5) (g.2.2 6) (g.2.2 7) (g.2.2 4) (g.2.2 8) _ rfl _ rfl) ⟨(Nat.le_of_ble_eq_true rfl), (Nat.le_of_ble_eq_true rfl)⟩ rfl (Nat.le_of_ble_eq_true rfl) 13 rfl rfl rfl ⟨(Nat.le_of_ble_eq_true rfl), (Nat.le_of_ble_eq_true rfl)⟩ ?_
    refine Bd.pmbx (n := 32) (M := hW3 E hh hp hs hq count first P1 S ++ (hC E h ++ hC E (hTo g h))) [16, 15, 10, 11, 12, 13, 14, 4, 6, 7, 8, 5, 9, 30, 29, 24, 25, 26, 27, 28, 18, 20, 21, 22, 19, 23, 0, 1, 2, 3, 17, 31] (by decide) rfl rfl (show BdP E mX2_record (xRm 3 102 14 147) 14 147 O 45 [some (.ref hh), some (.ref (h.1 12)), some (.int (hPl count first))] [] ((hW3 E hh hp hs hq count first P1 S ++ (hC E h ++ hC E (hTo g h))) ++ hX E (va_up P1 j none) S) 14 147 from ?_)
    have e2 : hW3 E hh hp hs hq count first P1 S = hW3 E hh hp hs hq count first (va_up P1 j (some (hTo g h))) S := by delta hW3; rw [hA_same (h' := hTo g h) hg rfl]
    refine Bd.eqW (congrArg (fun z => (z ++ (hC E h ++ hC E (hTo g h))) ++ hX E (va_up P1 j none) S) e2) ?_
    refine Bd.perm (hX_in E hj (hTo g h)) ?_
    have e3 : va_up P1 j (some (hTo g h)) = va_up P j (some (hTo g h)) := by rw [← hU_twice P1 j none, hu, hU_twice]
    rw [e3]
    obtain ⟨P2, hP2⟩ : ∃ P2, P2 = va_up P j (some (hTo g h)) := ⟨_, rfl⟩
    rw [← hP2]
    have hr : hR count first P h P2 := ⟨g.1, g.2.2, by rw [cj]; exact hP2⟩
    refine Bd.seg ok_X2_record 4 [0] rfl (And.intro (And.intro rfl rfl) (And.intro (fun c => (show BdP E mX2_record (xRm 3 102 14 147) 14 147 O 67 [some (.ref hh), some (.ref (h.1 12)), some (.int (hPl count first))] [] (hW3 E hh hp hs hq count first P2 S ++ (hC E h ++ hX E P2 S)) 14 147 from ?_)) (fun c => (show BdP E mX2_record (xRm 3 102 14 147) 14 147 O 54 [some (.ref hh), some (.ref (h.1 12)), some (.int (hPl count first))] [] (hW3 E hh hp hs hq count first P2 S ++ (hC E h ++ hX E P2 S)) 14 147 from ?_))))
    · rw [if_pos c] at hF
      obtain rfl := Option.some.inj hF
      refine Bd.seg ok_X2_record 5 [0, 0] rfl (And.intro (And.intro rfl rfl) (And.intro (by decide) (And.intro (And.intro rfl (And.intro rfl (Nat.le_of_ble_eq_true rfl))) (And.intro (And.intro rfl rfl) (show BdP E mX2_record (xRm 3 102 14 147) 14 147 O 80 [some (.ref hh), some (.ref (h.1 12)), some (.int (hPl count first))] [] (hW3 E hh hp hs hq count (hPl 1 first) P2 S ++ (hC E h ++ hX E P2 S)) 14 147 from ?_)))))
      refine Bd.seg ok_X2_record 6 [] rfl (And.intro (And.intro (ho P2 hr) (And.intro (Nat.le_of_ble_eq_true rfl) (Nat.le_of_ble_eq_true rfl))) True.intro)
    · rw [if_neg c] at hF
      obtain rfl := Option.some.inj hF
      refine Bd.seg ok_X2_record 7 [0, 0] rfl (And.intro (And.intro rfl rfl) (And.intro (And.intro rfl (And.intro rfl (Nat.le_of_ble_eq_true rfl))) (And.intro (And.intro rfl rfl) (show BdP E mX2_record (xRm 3 102 14 147) 14 147 O 80 [some (.ref hh), some (.ref (h.1 12)), some (.int (hPl count first))] [] (hW3 E hh hp hs hq (count + 1) first P2 S ++ (hC E h ++ hX E P2 S)) 14 147 from ?_))))
      refine Bd.seg ok_X2_record 6 [] rfl (And.intro (And.intro (ho P2 hr) (And.intro (Nat.le_of_ble_eq_true rfl) (Nat.le_of_ble_eq_true rfl))) True.intro)
  refine Sp.of oX2_record (L := [some (.ref hh), some (.ref (h.1 12)), none]) rfl rfl (Nat.le_of_ble_eq_true rfl) (show BdP E mX2_record (xRm 3 102 14 147) 14 147 O 0 [some (.ref hh), some (.ref (h.1 12)), none] [] (hW3 E hh hp hs hq count first P S ++ (hC E h ++ hX E P S)) 0 0 from ?_)
  refine Bd.seg ok_X2_record 8 [0, 0, 0] rfl (And.intro (And.intro rfl rfl) (And.intro (And.intro rfl rfl) (And.intro (by decide) (And.intro (Nat.le_of_ble_eq_true rfl) (And.intro (And.intro rfl rfl) (show BdP E mX2_record (xRm 3 102 14 147) 14 147 O 18 [some (.ref hh), some (.ref (h.1 12)), some (.int (hPl count first))] [.int (hPl count first), .ref hp] (hW3 E hh hp hs hq count first P S ++ (hC E h ++ hX E P S)) 0 0 from ?_))))))
  refine Bd.aald 1 rfl hin (xdec ok_X2_record 9 rfl) ?_
  rw [cj]
  cases hPj : P j with
  | none =>
    have e1 : va_rf (hA P j) = .null := by show va_rf ((P j).map _) = _; rw [hPj]; rfl
    rw [e1]
    refine Bd.seg ok_X2_record 10 [] rfl (show BdP E mX2_record (xRm 3 102 14 147) 14 147 O 22 [some (.ref hh), some (.ref (h.1 12)), some (.int (hPl count first))] [] (hW3 E hh hp hs hq count first P S ++ (hC E h ++ hX E P S)) 0 0 from ?_)
    refine Bd.seg ok_X2_record 11 [0] rfl (And.intro (And.intro rfl rfl) (And.intro (And.intro (Nat.le_of_ble_eq_true rfl) (Nat.le_of_ble_eq_true rfl)) (fun q => (show BdP E mX2_record (xRm 3 102 14 147) 14 147 O 31 [some (.ref hh), some (.ref (h.1 12)), some (.int (hPl count first))] [.ref q, .ref q, .int (hPl count first), .ref hp] ((hW3 E hh hp hs hq count first P S ++ (hC E h ++ hX E P S)) ++ [(q, .inr (3, [.int 0, .int 0, .int 0, .int 0, .int 0, .null, .null, .null, .null]))]) 1 9 from ?_))))
    refine Bd.perm (List.perm_append_comm (l₁ := (hW3 E hh hp hs hq count first P S ++ (hC E h ++ hX E P S) : va_W)) (l₂ := ([(q, .inr (3, [.int 0, .int 0, .int 0, .int 0, .int 0, .null, .null, .null, .null]))] : va_W))) ?_
    refine Bd.callINa oX3_init vX3_init rfl rfl nX3_init (host := "HopOast") (by decide +kernel) (xdec ok_X2_record 12 rfl) (As := []) (rest := [.ref q, .int (hPl count first), .ref hp]) (si_X3_init E q) (fun X M' h => by obtain ⟨_, _, _, _, _, _, _, _, _, _, _, _, _, e⟩ := h; cases e) ⟨(Nat.le_of_ble_eq_true rfl), (Nat.le_of_ble_eq_true rfl)⟩ rfl (Nat.le_of_ble_eq_true rfl) ⟨(Nat.le_of_ble_eq_true rfl), (Nat.le_of_ble_eq_true rfl)⟩ (fun v M' h9 => ?_)
    obtain ⟨q0, q1, q2, q3, q4, q5, q6, q7, q8, q9, q10, q11, q12, e9⟩ := h9
    cases e9
    obtain ⟨g, hg⟩ : ∃ g : xHO, g = (fun i => match i with | 0 => q6 | 1 => q7 | 2 => q8 | 3 => q9 | 4 => q10 | 5 => q11 | 6 => q1 | 7 => q2 | 8 => q3 | 9 => q4 | 10 => q5 | 11 => q0 | 12 => q | _ => q12, fun _ => 0, fun _ _ => 0) := ⟨_, rfl⟩
    have hgq : g.1 12 = q := by subst hg; rfl
    refine Bd.eqW (M' := hC E g ++ (hW3 E hh hp hs hq count first P S ++ (hC E h ++ hX E P S))) (by rw [hg]; rfl) ?_
    rw [← hgq]
    refine Bd.aast 15 12 (a := hp) (n := 8) (f := hA P) rfl rfl hin (xdec ok_X2_record 13 rfl) ?_
    rw [cj]
    refine Bd.eqW (M' := hC E g ++ (hW3 E hh hp hs hq count first (va_up P j (some g)) S ++ (hC E h ++ hX E P S))) ?_ ?_
    · show hC E g ++ ([_, (hp, .inl (E.2.1.2.2.2, 8, .inr (.inr (.inr (.inr (va_up (hA P) j (some (g.1 12)))))))), _, _] ++ _) = _
      rw [hA_up]
    refine Bd.perm (hX_new E hj hPj g) ?_
    exact tail (va_up P j (some g)) g (if_pos rfl) (hU_twice _ _ _ _)
  | some g =>
    have e1 : va_rf (hA P j) = .ref (g.1 12) := by show va_rf ((P j).map _) = _; rw [hPj]; rfl
    rw [e1]
    refine Bd.seg ok_X2_record 10 [] rfl (show BdP E mX2_record (xRm 3 102 14 147) 14 147 O 35 [some (.ref hh), some (.ref (h.1 12)), some (.int (hPl count first))] [] (hW3 E hh hp hs hq count first P S ++ (hC E h ++ hX E P S)) 0 0 from ?_)
    refine Bd.wide (ck' := 14) (sk' := 147) (Nat.le_of_ble_eq_true rfl) (Nat.le_of_ble_eq_true rfl) (tail P g hPj rfl)
/-- the slots behind fill -/
def hRS (slot : Int32) (S : xSl) (h : xHO) (S' : xSl) : Prop := ∃ (a : Nat → Nat) (g : Nat → Nat → Int32), S' = (va_up S.1 slot.toNatClampNeg (some (a, h.2.1, hCp h.2.2 g)), upd S.2 slot.toNatClampNeg 1)
/-! HopOast.History.emptySlots -/
abbrev hNo (S : xSl) : xSl := (S.1, upd (upd S.2 0 0) 1 0)
theorem hE_no (S : xSl) : hE (hNo S) = va_up (va_up (hE S) 0 none) 1 none := by
  funext j
  show (if upd (upd S.2 0 0) 1 0 j = 0 then none else S.1 j) = va_up (va_up (hE S) 0 none) 1 none j
  by_cases e1 : j = 1
  · subst e1
    rw [show upd (upd S.2 0 0) 1 0 1 = 0 from if_pos rfl, show va_up (va_up (hE S) 0 none) 1 none 1 = none from if_pos rfl]
    exact if_pos rfl
  · rw [show upd (upd S.2 0 0) 1 0 j = upd S.2 0 0 j from if_neg e1, show va_up (va_up (hE S) 0 none) 1 none j = va_up (hE S) 0 none j from if_neg e1]
    by_cases e0 : j = 0
    · subst e0
      rw [show upd S.2 0 0 0 = 0 from if_pos rfl, show va_up (hE S) 0 none 0 = none from if_pos rfl]
      exact if_pos rfl
    · rw [show upd S.2 0 0 j = S.2 j from if_neg e0, show va_up (hE S) 0 none j = hE S j from if_neg e0]
      rfl
def tb_X2_emptySlots : List (Nat × List xI) := [(0, [(.iconst 0, [], 0), (.istore_n 1, [], 0)]), (2, [(.iload_n 1, [], 0), (.iconst 2, [], 2), (.if_icmp .ge 16, [], 0)]), (7, [(.aload_n 0, [], 0), (.getfield 20, [2, 4], 0), (.iload_n 1, [], 0), (.iconst 0, [], 0), (.bastore, [], 0)]), (14, [(.iinc 1 1, [], 1), (.goto (-15), [], 0)]), (20, [(.return_, [], 0)])]
set_option maxRecDepth 100000 in
theorem ok_X2_emptySlots : ∀ q ∈ tb_X2_emptySlots, xChks mX2_emptySlots q.1 q.2 = true := by decide +kernel
theorem nX2_emptySlots : xNa mX2_emptySlots 0 := by delta xNa; decide +kernel
set_option maxHeartbeats 4000000 in
set_option maxRecDepth 100000 in
theorem s_X2_emptySlots (E : xE) (hh hp hs hq : Nat) (P : Nat → Option xHO) (S : xSl) (count first : Int32) (O : xO → Prop) (ho : O (.inl (none, hW3 E hh hp hs hq count first P (hNo S) ++ hX E P (hNo S)))) : SpP E mX2_emptySlots (xRm 0 0 0 0) [.ref hh] (hW3 E hh hp hs hq count first P S ++ hX E P S) O := by
  refine Sp.of oX2_emptySlots (L := [some (.ref hh), none]) rfl rfl (Nat.le_of_ble_eq_true rfl) (show BdP E mX2_emptySlots (xRm 0 0 0 0) 0 0 O 0 [some (.ref hh), none] [] ([(hh, .inr (2, [.int count, .int first, .ref hp, .ref hs, .ref hq])), (hp, .inl (E.2.1.2.2.2, 8, .inr (.inr (.inr (.inr (hA P)))))), (hs, .inl (E.2.1.2.2.2, 2, .inr (.inr (.inr (.inr (hAS S)))))), (hq, .inl (E.2.1.2.2.1, 2, .inl (hFS S)))] ++ hX E P S) 0 0 from ?_)
  refine Bd.seg ok_X2_emptySlots 0 [] rfl (And.intro (Nat.le_of_ble_eq_true rfl) (show BdP E mX2_emptySlots (xRm 0 0 0 0) 0 0 O 2 [some (.ref hh), some (.int 0)] [] ([(hh, .inr (2, [.int count, .int first, .ref hp, .ref hs, .ref hq])), (hp, .inl (E.2.1.2.2.2, 8, .inr (.inr (.inr (.inr (hA P)))))), (hs, .inl (E.2.1.2.2.2, 2, .inr (.inr (.inr (.inr (hAS S)))))), (hq, .inl (E.2.1.2.2.1, 2, .inl (hFS S)))] ++ hX E P S) 0 0 from ?_))
  refine Bd.seg ok_X2_emptySlots 1 [] rfl (And.intro (fun c => absurd c (by decide)) (fun c => (show BdP E mX2_emptySlots (xRm 0 0 0 0) 0 0 O 7 [some (.ref hh), some (.int 0)] [] ([(hh, .inr (2, [.int count, .int first, .ref hp, .ref hs, .ref hq])), (hp, .inl (E.2.1.2.2.2, 8, .inr (.inr (.inr (.inr (hA P)))))), (hs, .inl (E.2.1.2.2.2, 2, .inr (.inr (.inr (.inr (hAS S)))))), (hq, .inl (E.2.1.2.2.1, 2, .inl (hFS S)))] ++ hX E P S) 0 0 from ?_)))
  refine Bd.seg ok_X2_emptySlots 2 [0, 3] rfl (And.intro (And.intro rfl rfl) (And.intro (And.intro rfl (And.intro rfl rfl)) (And.intro (xg (by decide)) (show BdP E mX2_emptySlots (xRm 0 0 0 0) 0 0 O 14 [some (.ref hh), some (.int 0)] [] ([(hh, .inr (2, [.int count, .int first, .ref hp, .ref hs, .ref hq])), (hp, .inl (E.2.1.2.2.2, 8, .inr (.inr (.inr (.inr (hA P)))))), (hs, .inl (E.2.1.2.2.2, 2, .inr (.inr (.inr (.inr (hAS S)))))), (hq, .inl (E.2.1.2.2.1, 2, .inl (upd (hFS S) 0 0)))] ++ hX E P S) 0 0 from ?_))))
  refine Bd.seg ok_X2_emptySlots 3 [] rfl (show BdP E mX2_emptySlots (xRm 0 0 0 0) 0 0 O 2 [some (.ref hh), some (.int (0 + 1))] [] ([(hh, .inr (2, [.int count, .int first, .ref hp, .ref hs, .ref hq])), (hp, .inl (E.2.1.2.2.2, 8, .inr (.inr (.inr (.inr (hA P)))))), (hs, .inl (E.2.1.2.2.2, 2, .inr (.inr (.inr (.inr (hAS S)))))), (hq, .inl (E.2.1.2.2.1, 2, .inl (upd (hFS S) 0 0)))] ++ hX E P S) 0 0 from ?_)
  refine Bd.seg ok_X2_emptySlots 1 [] rfl (And.intro (fun c => absurd c (by decide)) (fun c => (show BdP E mX2_emptySlots (xRm 0 0 0 0) 0 0 O 7 [some (.ref hh), some (.int (0 + 1))] [] ([(hh, .inr (2, [.int count, .int first, .ref hp, .ref hs, .ref hq])), (hp, .inl (E.2.1.2.2.2, 8, .inr (.inr (.inr (.inr (hA P)))))), (hs, .inl (E.2.1.2.2.2, 2, .inr (.inr (.inr (.inr (hAS S)))))), (hq, .inl (E.2.1.2.2.1, 2, .inl (upd (hFS S) 0 0)))] ++ hX E P S) 0 0 from ?_)))
  refine Bd.seg ok_X2_emptySlots 2 [0, 3] rfl (And.intro (And.intro rfl rfl) (And.intro (And.intro rfl (And.intro rfl rfl)) (And.intro (xg (by decide)) (show BdP E mX2_emptySlots (xRm 0 0 0 0) 0 0 O 14 [some (.ref hh), some (.int (0 + 1))] [] ([(hh, .inr (2, [.int count, .int first, .ref hp, .ref hs, .ref hq])), (hp, .inl (E.2.1.2.2.2, 8, .inr (.inr (.inr (.inr (hA P)))))), (hs, .inl (E.2.1.2.2.2, 2, .inr (.inr (.inr (.inr (hAS S)))))), (hq, .inl (E.2.1.2.2.1, 2, .inl (upd (upd (hFS S) 0 0) 1 0)))] ++ hX E P S) 0 0 from ?_))))
  refine Bd.seg ok_X2_emptySlots 3 [] rfl (show BdP E mX2_emptySlots (xRm 0 0 0 0) 0 0 O 2 [some (.ref hh), some (.int (0 + 1 + 1))] [] ([(hh, .inr (2, [.int count, .int first, .ref hp, .ref hs, .ref hq])), (hp, .inl (E.2.1.2.2.2, 8, .inr (.inr (.inr (.inr (hA P)))))), (hs, .inl (E.2.1.2.2.2, 2, .inr (.inr (.inr (.inr (hAS S)))))), (hq, .inl (E.2.1.2.2.1, 2, .inl (upd (upd (hFS S) 0 0) 1 0)))] ++ hX E P S) 0 0 from ?_)
  refine Bd.seg ok_X2_emptySlots 1 [] rfl (And.intro (fun c => (show BdP E mX2_emptySlots (xRm 0 0 0 0) 0 0 O 20 [some (.ref hh), some (.int (0 + 1 + 1))] [] ([(hh, .inr (2, [.int count, .int first, .ref hp, .ref hs, .ref hq])), (hp, .inl (E.2.1.2.2.2, 8, .inr (.inr (.inr (.inr (hA P)))))), (hs, .inl (E.2.1.2.2.2, 2, .inr (.inr (.inr (.inr (hAS S)))))), (hq, .inl (E.2.1.2.2.1, 2, .inl (upd (upd (hFS S) 0 0) 1 0)))] ++ hX E P S) 0 0 from ?_)) (fun c => absurd (by decide) c))
  refine Bd.seg ok_X2_emptySlots 4 [] rfl (And.intro (And.intro ho (And.intro (Nat.le_of_ble_eq_true rfl) (Nat.le_of_ble_eq_true rfl))) True.intro)
/-! HopOast.History.forgetChanges -/
def F_X2_forgetChanges (v_this_count : Int32) : Option (Unit × Int32) := some ((), 0)
def tb_X2_forgetChanges : List (Nat × List xI) := [(0, [(.aload_n 0, [], 0), (.iconst 0, [], 0), (.putfield 28, [2, 0, 0], 0), (.return_, [], 0)])]
set_option maxRecDepth 100000 in
theorem ok_X2_forgetChanges : ∀ q ∈ tb_X2_forgetChanges, xChks mX2_forgetChanges q.1 q.2 = true := by decide +kernel
theorem nX2_forgetChanges : xNa mX2_forgetChanges 0 := by delta xNa; decide +kernel
set_option maxHeartbeats 4000000 in
set_option maxRecDepth 100000 in
theorem s_X2_forgetChanges (E : xE) (h_this : Nat) (h_this_filled : Nat) (h_this_past : Nat) (h_this_slots : Nat) (v_this_count : Int32) (v_this_first : Int32) (out : Unit × Int32) (hF : F_X2_forgetChanges v_this_count = some out) (o : xO) (ho : .inl (none, [(h_this, .inr (2, [.int out.2, .int v_this_first, .ref h_this_past, .ref h_this_slots, .ref h_this_filled]))]) = o) : Sp E mX2_forgetChanges (xRm 0 0 0 0) [.ref h_this] [(h_this, .inr (2, [.int v_this_count, .int v_this_first, .ref h_this_past, .ref h_this_slots, .ref h_this_filled]))] o := by
  replace hF : some ((), 0) = some out := hF
  refine Sp.of oX2_forgetChanges (L := [some (.ref h_this)]) rfl rfl (Nat.le_of_ble_eq_true rfl) (show Bd E mX2_forgetChanges (xRm 0 0 0 0) 0 0 o 0 [some (.ref h_this)] [] [(h_this, .inr (2, [.int v_this_count, .int v_this_first, .ref h_this_past, .ref h_this_slots, .ref h_this_filled]))] 0 0 from ?_)
  obtain rfl := Option.some.inj hF
  refine Bd.seg ok_X2_forgetChanges 0 [0] rfl (And.intro (And.intro rfl (And.intro rfl (Nat.le_of_ble_eq_true rfl))) (And.intro (And.intro rfl rfl) (And.intro (And.intro ho.symm (And.intro (Nat.le_of_ble_eq_true rfl) (Nat.le_of_ble_eq_true rfl))) True.intro)))
