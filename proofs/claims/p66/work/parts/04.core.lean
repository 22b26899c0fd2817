/-! THE WALKER: a run of instructions over a world, worked out as a function; what it says holds of the machine -/
abbrev xE : Type := va_G × (ClassId × (ClassId × ClassId × ClassId) × ClassId × ClassId) × (Nat → Nat) × (Nat → Nat)
abbrev xO : Type := (Option Value × va_W) ⊕ (String × va_W)
abbrev xI : Type := Instr × List Nat × Int32
abbrev xL : Type := List (Option Value)
abbrev xK : Type := Nat → xL → List Value → va_W → Nat → Nat → Prop
def xTy (E : xE) : List (ClassId × FieldType) := [(E.2.1.1, .int), (E.2.1.2.1.1, .byte), (E.2.1.2.2.1, .boolean), (E.2.1.2.2.2, .object RX3), (E.2.1.2.1.2.1, .object RX12), (E.2.1.2.1.2.2, .object "java/lang/Object")]
def xEn : Nat → xL → List (Nat × Value)
  | _, [] => []
  | i, none :: r => xEn (i + 1) r
  | i, some v :: r => (i, v) :: xEn (i + 1) r
theorem xEn_mem {j : Nat} {v : Value} : ∀ (L : xL) (i : Nat), (j, v) ∈ xEn i L ↔ i ≤ j ∧ L[j - i]? = some (some v) := by
  intro L
  induction L with
  | nil => intro i; simp [xEn]
  | cons x r ih =>
    intro i
    have key : ∀ (y : Option Value), (i ≤ j ∧ (y :: r)[j - i]? = some (some v)) ↔ ((j = i ∧ y = some v) ∨ (i + 1 ≤ j ∧ r[j - (i + 1)]? = some (some v))) := by
      intro y
      constructor
      · rintro ⟨h1, h2⟩
        by_cases h : j = i
        · subst h
          simp at h2
          exact Or.inl ⟨rfl, h2⟩
        · refine Or.inr ⟨by omega, ?_⟩
          rw [show j - i = (j - (i + 1)) + 1 by omega] at h2
          simpa using h2
      · rintro (⟨h1, h2⟩ | ⟨h1, h2⟩)
        · subst h1
          simp [h2]
        · refine ⟨by omega, ?_⟩
          rw [show j - i = (j - (i + 1)) + 1 by omega]
          simpa using h2
    rw [key]
    cases x with
    | none => simp [xEn, ih]
    | some w =>
      simp only [xEn, List.mem_cons, ih, Prod.mk.injEq, Option.some.injEq]
      constructor
      · rintro (⟨h1, h2⟩ | h)
        · exact Or.inl ⟨h1, h2.symm⟩
        · exact Or.inr h
      · rintro (⟨h1, h2⟩ | h)
        · exact Or.inl ⟨h1, h2.symm⟩
        · exact Or.inr h
theorem x_at {ls : Array Slot} {nL : Nat} {L : xL} {i : Nat} {v : Value} (h : lv_has ls nL (xEn 0 L)) (hL : L[i]? = some (some v)) : ls[i]? = some (.val v) :=
  h.2.2 (i, v) ((xEn_mem L 0).mpr ⟨Nat.zero_le _, hL⟩)
def xKill (i : Nat) (L : xL) : xL := match i with
  | 0 => L
  | j + 1 => match L[j]? with
    | some (some w) => if w.category = 2 then L.set j none else L
    | _ => L
theorem xKill_len (i : Nat) (L : xL) : (xKill i L).length = L.length := by
  unfold xKill
  split
  · rfl
  · split
    · split <;> simp
    · rfl
theorem xKill_mem {i j : Nat} {L : xL} {w : Value} (h : (xKill i L)[j]? = some (some w)) : L[j]? = some (some w) ∧ ¬ (j + 1 = i ∧ w.category = 2) := by
  unfold xKill at h
  split at h
  · exact ⟨h, fun q => by omega⟩
  · rename_i k
    split at h
    · rename_i w0 hw
      split at h
      · rename_i hc
        by_cases hj : k = j
        · subst hj
          rw [List.getElem?_set] at h
          simp at h
        · rw [List.getElem?_set_ne hj] at h
          exact ⟨h, fun q => by omega⟩
      · rename_i hc
        refine ⟨h, fun q => ?_⟩
        have : j = k := by omega
        subst this
        rw [hw] at h
        cases h
        exact hc q.2
    · rename_i hn
      refine ⟨h, fun q => ?_⟩
      have : j = k := by omega
      subst this
      exact hn _ h
theorem x_st1 {ls : Array Slot} {nL i : Nat} {L : xL} {v : Value} (h : lv_has ls nL ((i, v) :: (xEn 0 L).filter (fun q => !(q.1 == i) && !(q.1 + 1 == i && q.2.category == 2)))) : lv_has ls nL (xEn 0 ((xKill i L).set i (some v))) := by
  refine ⟨h.1, h.2.1, fun q hq => h.2.2 q ?_⟩
  obtain ⟨j, w⟩ := q
  obtain ⟨-, hq⟩ := (xEn_mem _ 0).mp hq
  rw [Nat.sub_zero, List.getElem?_set] at hq
  by_cases hj : i = j
  · subst hj
    rw [if_pos rfl] at hq
    split at hq
    · cases hq; exact List.mem_cons_self
    · cases hq
  · rw [if_neg hj] at hq
    obtain ⟨h1, h2⟩ := xKill_mem hq
    refine List.mem_cons_of_mem _ (List.mem_filter.mpr ⟨(xEn_mem L 0).mpr ⟨Nat.zero_le _, h1⟩, ?_⟩)
    simp only [Bool.and_eq_true, Bool.not_eq_true', beq_eq_false_iff_ne, Bool.and_eq_false_iff, ne_eq]
    refine ⟨fun e => hj e.symm, ?_⟩
    by_cases hc : j + 1 = i
    · exact Or.inr fun e => h2 ⟨hc, e⟩
    · exact Or.inl hc
theorem x_st2 {ls : Array Slot} {nL i : Nat} {L : xL} {v : Value} (h : lv_has ls nL ((i, v) :: (xEn 0 L).filter (fun q => !(q.1 == i) && (!(q.1 == i + 1) && !(q.1 + 1 == i && q.2.category == 2))))) : lv_has ls nL (xEn 0 (((xKill i L).set i (some v)).set (i + 1) none)) := by
  refine ⟨h.1, h.2.1, fun q hq => h.2.2 q ?_⟩
  obtain ⟨j, w⟩ := q
  obtain ⟨-, hq⟩ := (xEn_mem _ 0).mp hq
  rw [Nat.sub_zero, List.getElem?_set] at hq
  by_cases hj1 : i + 1 = j
  · rw [if_pos hj1] at hq
    split at hq <;> cases hq
  rw [if_neg hj1, List.getElem?_set] at hq
  by_cases hj : i = j
  · subst hj
    rw [if_pos rfl] at hq
    split at hq
    · cases hq; exact List.mem_cons_self
    · cases hq
  · rw [if_neg hj] at hq
    obtain ⟨h1, h2⟩ := xKill_mem hq
    refine List.mem_cons_of_mem _ (List.mem_filter.mpr ⟨(xEn_mem L 0).mpr ⟨Nat.zero_le _, h1⟩, ?_⟩)
    simp only [Bool.and_eq_true, Bool.not_eq_true', beq_eq_false_iff_ne, Bool.and_eq_false_iff, ne_eq]
    refine ⟨fun e => hj e.symm, fun e => hj1 e.symm, ?_⟩
    by_cases hc : j + 1 = i
    · exact Or.inr fun e => h2 ⟨hc, e⟩
    · exact Or.inl hc
/-- how many bytes an instruction takes -/
def xlen : Instr → Nat
  | .bipush _ => 2 | .sipush _ => 3 | .ldc _ => 2 | .ldc_w _ => 3 | .ldc2_w _ => 3
  | .iload _ => 2 | .lload _ => 2 | .dload _ => 2 | .aload _ => 2 | .istore _ => 2 | .lstore _ => 2 | .dstore _ => 2 | .astore _ => 2
  | .iinc _ _ => 3 | .getfield _ => 3 | .putfield _ => 3 | .ifCond _ _ => 3 | .if_icmp _ _ => 3 | .goto _ => 3 | .ifnull _ => 3 | .ifnonnull _ => 3
  | .new _ => 3 | .newarray _ => 2 | .anewarray _ => 3 | .invokevirtual _ => 3 | .invokespecial _ => 3 | .invokestatic _ => 3
  | _ => 1
/-- where a jump goes -/
def xjmp (pc : Nat) (off : Int) : Nat := ((pc : Int) + off).toNat
abbrev xKr : Type := Option Value → va_W → Nat → Nat → Prop
/-- an instruction, worked out: what must hold for it to go through, and then k of what it leaves (kr of a return) -/
def xstep (R : Room) (E : xE) (kr : xKr) (k : List Nat → xK) (i : xI) (hs : List Nat) (pc : Nat) (L : xL) (st : List Value) (M : va_W) (ck sk : Nat) : Prop :=
  match i.1 with
  | .iconst _ => k hs (pc + 1) L (.int i.2.2 :: st) M ck sk
  | .bipush _ => k hs (pc + 2) L (.int i.2.2 :: st) M ck sk
  | .sipush _ => k hs (pc + 3) L (.int i.2.2 :: st) M ck sk
  | .lconst n => k hs (pc + 1) L (.long (Int64.ofNat n) :: st) M ck sk
  | .dconst n => n = 0 ∧ k hs (pc + 1) L (.double 0 :: st) M ck sk
  | .fconst n => n = 0 ∧ k hs (pc + 1) L (.float 0 :: st) M ck sk
  | .aconst_null => k hs (pc + 1) L (.null :: st) M ck sk
  | .ldc _ => match i.2.1 with
    | [k0] => k hs (pc + 2) L (.ref (E.2.2.1 k0) :: st) M ck sk
    | _ => k hs (pc + 2) L (.int i.2.2 :: st) M ck sk
  | .ldc_w _ => k hs (pc + 3) L (.int i.2.2 :: st) M ck sk
  | .ldc2_w _ => match i.2.1 with
    | [k0] => k hs (pc + 3) L (.long (Int64.ofNat k0) :: st) M ck sk
    | _ => False
  | .iload_n n => match L[(n : Nat)]? with
    | some (some (.int x)) => k hs (pc + 1) L (.int x :: st) M ck sk
    | _ => False
  | .iload n => match L[n]? with
    | some (some (.int x)) => k hs (pc + 2) L (.int x :: st) M ck sk
    | _ => False
  | .lload_n n => match L[(n : Nat)]? with
    | some (some (.long x)) => k hs (pc + 1) L (.long x :: st) M ck sk
    | _ => False
  | .lload n => match L[n]? with
    | some (some (.long x)) => k hs (pc + 2) L (.long x :: st) M ck sk
    | _ => False
  | .dload n => match L[n]? with
    | some (some (.double x)) => k hs (pc + 2) L (.double x :: st) M ck sk
    | _ => False
  | .aload_n n => match L[(n : Nat)]? with
    | some (some (.ref x)) => k hs (pc + 1) L (.ref x :: st) M ck sk
    | some (some .null) => k hs (pc + 1) L (.null :: st) M ck sk
    | _ => False
  | .aload n => match L[n]? with
    | some (some (.ref x)) => k hs (pc + 2) L (.ref x :: st) M ck sk
    | some (some .null) => k hs (pc + 2) L (.null :: st) M ck sk
    | _ => False
  | .istore_n n => match st with
    | .int x :: st' => (n : Nat) < L.length ∧ k hs (pc + 1) ((xKill n L).set n (some (.int x))) st' M ck sk
    | _ => False
  | .istore n => match st with
    | .int x :: st' => n < L.length ∧ k hs (pc + 2) ((xKill n L).set n (some (.int x))) st' M ck sk
    | _ => False
  | .astore_n n => match st with
    | .ref x :: st' => (n : Nat) < L.length ∧ k hs (pc + 1) ((xKill n L).set n (some (.ref x))) st' M ck sk
    | .null :: st' => (n : Nat) < L.length ∧ k hs (pc + 1) ((xKill n L).set n (some .null)) st' M ck sk
    | _ => False
  | .astore n => match st with
    | .ref x :: st' => n < L.length ∧ k hs (pc + 2) ((xKill n L).set n (some (.ref x))) st' M ck sk
    | .null :: st' => n < L.length ∧ k hs (pc + 2) ((xKill n L).set n (some .null)) st' M ck sk
    | _ => False
  | .lstore_n n => match st with
    | .long x :: st' => (n : Nat) + 1 < L.length ∧ k hs (pc + 1) (((xKill n L).set n (some (.long x))).set (n + 1) none) st' M ck sk
    | _ => False
  | .lstore n => match st with
    | .long x :: st' => n + 1 < L.length ∧ k hs (pc + 2) (((xKill n L).set n (some (.long x))).set (n + 1) none) st' M ck sk
    | _ => False
  | .dstore n => match st with
    | .double x :: st' => n + 1 < L.length ∧ k hs (pc + 2) (((xKill n L).set n (some (.double x))).set (n + 1) none) st' M ck sk
    | _ => False
  | .iinc n _ => match L[n]? with
    | some (some (.int x)) => k hs (pc + 3) ((xKill n L).set n (some (.int (x + i.2.2)))) st M ck sk
    | _ => False
  | .dup => match st with
    | .int x :: st' => k hs (pc + 1) L (.int x :: .int x :: st') M ck sk
    | .ref x :: st' => k hs (pc + 1) L (.ref x :: .ref x :: st') M ck sk
    | _ => False
  | .dup2 => match st with
    | .int x :: .ref y :: st' => k hs (pc + 1) L (.int x :: .ref y :: .int x :: .ref y :: st') M ck sk
    | .int x :: .int y :: st' => k hs (pc + 1) L (.int x :: .int y :: .int x :: .int y :: st') M ck sk
    | _ => False
  | .pop => match st with
    | .int _ :: st' => k hs (pc + 1) L st' M ck sk
    | .ref _ :: st' => k hs (pc + 1) L st' M ck sk
    | _ => False
  | .iadd => match st with
    | .int y :: .int x :: st' => k hs (pc + 1) L (.int (x + y) :: st') M ck sk
    | _ => False
  | .isub => match st with
    | .int y :: .int x :: st' => k hs (pc + 1) L (.int (x - y) :: st') M ck sk
    | _ => False
  | .imul => match st with
    | .int y :: .int x :: st' => k hs (pc + 1) L (.int (x * y) :: st') M ck sk
    | _ => False
  | .idiv => match st with
    | .int y :: .int x :: st' => ¬ y = 0 ∧ k hs (pc + 1) L (.int (x / y) :: st') M ck sk
    | _ => False
  | .irem => match st with
    | .int y :: .int x :: st' => ¬ y = 0 ∧ k hs (pc + 1) L (.int (x - x / y * y) :: st') M ck sk
    | _ => False
  | .iand => match st with
    | .int y :: .int x :: st' => k hs (pc + 1) L (.int (x &&& y) :: st') M ck sk
    | _ => False
  | .ishr => match st with
    | .int y :: .int x :: st' => k hs (pc + 1) L (.int (x >>> (y &&& 31)) :: st') M ck sk
    | _ => False
  | .iushr => match st with
    | .int y :: .int x :: st' => k hs (pc + 1) L (.int (x.toUInt32 >>> (y.toUInt32 &&& Int32.toUInt32 31)).toInt32 :: st') M ck sk
    | _ => False
  | .ineg => match st with
    | .int x :: st' => k hs (pc + 1) L (.int (-x) :: st') M ck sk
    | _ => False
  | .ladd => match st with
    | .long y :: .long x :: st' => k hs (pc + 1) L (.long (x + y) :: st') M ck sk
    | _ => False
  | .lsub => match st with
    | .long y :: .long x :: st' => k hs (pc + 1) L (.long (x - y) :: st') M ck sk
    | _ => False
  | .lmul => match st with
    | .long y :: .long x :: st' => k hs (pc + 1) L (.long (x * y) :: st') M ck sk
    | _ => False
  | .lcmp => match st with
    | .long y :: .long x :: st' => k hs (pc + 1) L (.int (lg_cmp x y) :: st') M ck sk
    | _ => False
  | .dcmp op => match st with
    | .double y :: .double x :: st' => k hs (pc + 1) L (.int (Op.cmpValue (FP.dcmp x y) op) :: st') M ck sk
    | _ => False
  | .i2l => match st with
    | .int x :: st' => k hs (pc + 1) L (.long x.toInt64 :: st') M ck sk
    | _ => False
  | .i2c => match st with
    | .int x :: st' => k hs (pc + 1) L (.int (x.toUInt32 % 65536).toInt32 :: st') M ck sk
    | _ => False
  | .i2f => match st with
    | .int x :: st' => k hs (pc + 1) L (.float (FP.i2f x) :: st') M ck sk
    | _ => False
  | .i2d => match st with
    | .int x :: st' => k hs (pc + 1) L (.double (FP.i2d x) :: st') M ck sk
    | _ => False
  | .getfield _ => match i.2.1, hs, st with
    | [ci, k0], h :: hs', .ref a :: st' => match M[h]? with
      | some (b, .inr (cj, fs)) => match fs[k0]? with
        | some v => (a = b ∧ ci = cj) ∧ k hs' (pc + 3) L (v :: st') M ck sk
        | none => False
      | _ => False
    | _, _, _ => False
  | .putfield _ => match i.2.1, hs, st with
    | [ci, k0, fin], h :: hs', v :: .ref a :: st' => match M[h]? with
      | some (b, .inr (cj, fs)) => (a = b ∧ ci = cj ∧ k0 < fs.length) ∧ (narrow (xCT ci k0) v = v ∧ fits (xCT ci k0) v = true) ∧ k hs' (pc + 3) L st' (M.set h (b, .inr (cj, fs.set k0 v))) ck sk
      | _ => False
    | _, _, _ => False
  | .iaload => match hs, st with
    | h :: hs', .int j :: .ref a :: st' => match M[h]? with
      | some (b, .inl (cA, n, .inl f)) => (a = b ∧ cA = E.2.1.1) ∧ vp_in j n ∧ k hs' (pc + 1) L (.int (f j.toNatClampNeg) :: st') M ck sk
      | _ => False
    | _, _ => False
  | .iastore => match hs, st with
    | h :: hs', .int x :: .int j :: .ref a :: st' => match M[h]? with
      | some (b, .inl (cA, n, .inl f)) => (a = b ∧ cA = E.2.1.1) ∧ vp_in j n ∧ k hs' (pc + 1) L st' (M.set h (b, .inl (cA, n, .inl (upd f j.toNatClampNeg x)))) ck sk
      | _ => False
    | _, _ => False
  | .baload => match hs, st with
    | h :: hs', .int j :: .ref a :: st' => match M[h]? with
      | some (b, .inl (cA, n, .inl f)) => (a = b ∧ cA = E.2.1.2.2.1) ∧ vp_in j n ∧ k hs' (pc + 1) L (.int (f j.toNatClampNeg) :: st') M ck sk
      | _ => False
    | _, _ => False
  | .bastore => match hs, st with
    | h :: hs', .int x :: .int j :: .ref a :: st' => match M[h]? with
      | some (b, .inl (cA, n, .inl f)) => (a = b ∧ cA = E.2.1.2.2.1 ∧ vp_nar .boolean x = x) ∧ vp_in j n ∧ k hs' (pc + 1) L st' (M.set h (b, .inl (cA, n, .inl (upd f j.toNatClampNeg x)))) ck sk
      | _ => False
    | _, _ => False
  | .ifCond op off => match st with
    | .int x :: st' => match op with
      | .eq => (x = 0 → k hs (xjmp pc off) L st' M ck sk) ∧ (¬ x = 0 → k hs (pc + 3) L st' M ck sk)
      | .ne => (¬ x = 0 → k hs (xjmp pc off) L st' M ck sk) ∧ (x = 0 → k hs (pc + 3) L st' M ck sk)
      | .lt => (x < 0 → k hs (xjmp pc off) L st' M ck sk) ∧ (¬ x < 0 → k hs (pc + 3) L st' M ck sk)
      | .ge => (0 ≤ x → k hs (xjmp pc off) L st' M ck sk) ∧ (¬ 0 ≤ x → k hs (pc + 3) L st' M ck sk)
      | .gt => (0 < x → k hs (xjmp pc off) L st' M ck sk) ∧ (¬ 0 < x → k hs (pc + 3) L st' M ck sk)
      | .le => (x ≤ 0 → k hs (xjmp pc off) L st' M ck sk) ∧ (¬ x ≤ 0 → k hs (pc + 3) L st' M ck sk)
    | _ => False
  | .if_icmp op off => match st with
    | .int y :: .int x :: st' => match op with
      | .eq => (x = y → k hs (xjmp pc off) L st' M ck sk) ∧ (¬ x = y → k hs (pc + 3) L st' M ck sk)
      | .ne => (¬ x = y → k hs (xjmp pc off) L st' M ck sk) ∧ (x = y → k hs (pc + 3) L st' M ck sk)
      | .lt => (x < y → k hs (xjmp pc off) L st' M ck sk) ∧ (¬ x < y → k hs (pc + 3) L st' M ck sk)
      | .ge => (y ≤ x → k hs (xjmp pc off) L st' M ck sk) ∧ (¬ y ≤ x → k hs (pc + 3) L st' M ck sk)
      | .gt => (y < x → k hs (xjmp pc off) L st' M ck sk) ∧ (¬ y < x → k hs (pc + 3) L st' M ck sk)
      | .le => (x ≤ y → k hs (xjmp pc off) L st' M ck sk) ∧ (¬ x ≤ y → k hs (pc + 3) L st' M ck sk)
    | _ => False
  | .ifnull off => match st with
    | .ref _ :: st' => k hs (pc + 3) L st' M ck sk
    | .null :: st' => k hs (xjmp pc off) L st' M ck sk
    | _ => False
  | .ifnonnull off => match st with
    | .ref _ :: st' => k hs (xjmp pc off) L st' M ck sk
    | .null :: st' => k hs (pc + 3) L st' M ck sk
    | _ => False
  | .goto off => k hs (xjmp pc off) L st M ck sk
  | .ireturn => match st with
    | [.int x] => kr (some (.int x)) M ck sk
    | _ => False
  | .lreturn => match st with
    | [.long x] => kr (some (.long x)) M ck sk
    | _ => False
  | .freturn => match st with
    | [.float x] => kr (some (.float x)) M ck sk
    | _ => False
  | .dreturn => match st with
    | [.double x] => kr (some (.double x)) M ck sk
    | _ => False
  | .areturn => match st with
    | [.ref x] => kr (some (.ref x)) M ck sk
    | [.null] => kr (some .null) M ck sk
    | _ => False
  | .return_ => match st with
    | [] => kr none M ck sk
    | _ => False
  | .new _ => match i.2.1 with
    | [ci] => match vwCl[ci]? with
      | some q => (ck + 1 ≤ R.cells ∧ sk + q.2.2 ≤ R.slots) ∧ ∀ a : Nat, k hs (pc + 3) L (.ref a :: st) (M ++ [(a, .inr (ci, (List.range q.2.2).map (fun j => defaultValue (xCT ci j))))]) (ck + 1) (sk + q.2.2)
      | none => False
    | _ => False
  | .newarray _ => match i.2.1, st with
    | [0], .int n :: st' => (¬ n < 0 ∧ n.toNatClampNeg ≤ 10000 ∧ ck + 1 ≤ R.cells ∧ sk + n.toNatClampNeg ≤ R.slots) ∧ ∀ a : Nat, k hs (pc + 2) L (.ref a :: st') (M ++ [(a, .inl (E.2.1.1, n.toNatClampNeg, .inl (fun _ => 0)))]) (ck + 1) (sk + n.toNatClampNeg)
    | [1], .int n :: st' => (¬ n < 0 ∧ n.toNatClampNeg ≤ 10000 ∧ ck + 1 ≤ R.cells ∧ sk + n.toNatClampNeg ≤ R.slots) ∧ ∀ a : Nat, k hs (pc + 2) L (.ref a :: st') (M ++ [(a, .inl (E.2.1.2.1.1, n.toNatClampNeg, .inl (fun _ => 0)))]) (ck + 1) (sk + n.toNatClampNeg)
    | [2], .int n :: st' => (¬ n < 0 ∧ n.toNatClampNeg ≤ 10000 ∧ ck + 1 ≤ R.cells ∧ sk + n.toNatClampNeg ≤ R.slots) ∧ ∀ a : Nat, k hs (pc + 2) L (.ref a :: st') (M ++ [(a, .inl (E.2.1.2.2.1, n.toNatClampNeg, .inl (fun _ => 0)))]) (ck + 1) (sk + n.toNatClampNeg)
    | _, _ => False
  | .invokespecial _ => match i.2.1, st with
    | [0], .ref _ :: st' => (1 ≤ R.frames ∧ 20 ≤ R.locals ∧ (st'.map fun v => v.category).sum ≤ 8) ∧ k hs (pc + 3) L st' M ck sk
    | _, _ => False
  | .invokestatic _ => match i.2.1, hs, st with
    | [0], h0 :: h1 :: hs', .int n :: .int dp :: .ref a1 :: .int sp :: .ref a0 :: st' => match M[h0]?, M[h1]? with
      | some (b0, .inl (c0, n0, .inl f)), some (b1, .inl (c1, n1, .inl g)) =>
        (a0 = b0 ∧ a1 = b1 ∧ c0 = E.2.1.1 ∧ c1 = E.2.1.1 ∧ 1 ≤ R.frames ∧ (st'.map fun v => v.category).sum + (nativeFrameWords "java/lang/System" "arraycopy" 5 + 11) ≤ R.locals) ∧
        (¬ sp < 0 ∧ ¬ dp < 0 ∧ ¬ n < 0 ∧ sp.toNatClampNeg + n.toNatClampNeg ≤ n0 ∧ dp.toNatClampNeg + n.toNatClampNeg ≤ n1) ∧
        k hs' (pc + 3) L st' (M.set h1 (b1, .inl (c1, n1, .inl (va_cpy f g sp.toNatClampNeg dp.toNatClampNeg n.toNatClampNeg)))) ck sk
      | _, _ => False
    | _, _, _ => False
  | _ => False
/-- a run of instructions, worked out -/
def xrun (R : Room) (E : xE) (K : xK) (kr : xKr) : List xI → List Nat → xK
  | [], _, pc, L, st, M, ck, sk => K pc L st M ck sk
  | i :: r, hs, pc, L, st, M, ck, sk => xstep R E kr (fun hs => xrun R E K kr r hs) i hs pc L st M ck sk
/-- what a method of this type may return -/
def xRet (t : Option FieldType) (v : Option Value) : Prop := match t, v with
  | none, none => True
  | some .int, some (.int _) => True
  | some .boolean, some (.int x) => x &&& 1 = x
  | some .byte, some (.int x) => x.toInt8.toInt32 = x
  | some .char, some (.int x) => x.toUInt32.toUInt16.toUInt32.toInt32 = x
  | some .long, some (.long _) => True
  | some .float, some (.float _) => True
  | some .double, some (.double _) => True
  | some (.object _), some (.ref _) => True
  | some (.object _), some .null => True
  | _, _ => False
/-- the return that hands back v, its bytes there -/
def xRetAt (cc : ByteArray) (pc : Nat) (v : Option Value) : Prop := match v with
  | none => decode cc pc = .ok (.return_, 1)
  | some (.int _) => decode cc pc = .ok (.ireturn, 1)
  | some (.long _) => decode cc pc = .ok (.lreturn, 1)
  | some (.float _) => decode cc pc = .ok (.freturn, 1)
  | some (.double _) => decode cc pc = .ok (.dreturn, 1)
  | _ => decode cc pc = .ok (.areturn, 1)
def xRetSt (v : Option Value) : List Value := v.toList
def xStr : List (Nat × Nat × String × Nat) := [(11, 77, "oast 60 1 2 6 7; floor 70; floor 60; floor 55; load 0 20 150; load 1 30 420;", 0), (8, 73, "oast", 1), (8, 49, "floor", 2), (8, 55, "load", 3), (13, 143, "oast ", 4), (13, 154, "floor ", 5), (13, 168, "load ", 6), (11, 119, "length is out of range", 7), (11, 105, "the buffer would hold more than 800 bytes", 8), (11, 400, "there is no such floor", 9), (11, 405, "there is no load on the floor", 10), (11, 409, "there is no such sack", 11), (11, 308, "mass or moisture is out of range", 12), (11, 313, "there is a load on the highest floor", 13), (11, 319, "something prevents the lowering", 14), (11, 327, "heat is out of range", 15), (11, 332, "gear is out of range", 16), (11, 337, "direction or strength is out of range", 17), (11, 345, "the sack is not stored, or it smoulders", 18), (11, 353, "the sack is not stored", 19), (11, 300, "minutes is out of range", 20), (11, 361, "the minute would be greater than 9999", 21)]
def xSlen : List Nat := [76, 4, 5, 4, 5, 6, 5, 22, 41, 22, 29, 21, 32, 36, 31, 20, 20, 37, 39, 22, 23, 37]
def xSbyt : List (List Int32) := [[111, 97, 115, 116, 32, 54, 48, 32, 49, 32, 50, 32, 54, 32, 55, 59, 32, 102, 108, 111, 111, 114, 32, 55, 48, 59, 32, 102, 108, 111, 111, 114, 32, 54, 48, 59, 32, 102, 108, 111, 111, 114, 32, 53, 53, 59, 32, 108, 111, 97, 100, 32, 48, 32, 50, 48, 32, 49, 53, 48, 59, 32, 108, 111, 97, 100, 32, 49, 32, 51, 48, 32, 52, 50, 48, 59], [111, 97, 115, 116], [102, 108, 111, 111, 114], [108, 111, 97, 100], [111, 97, 115, 116, 32], [102, 108, 111, 111, 114, 32], [108, 111, 97, 100, 32], [108, 101, 110, 103, 116, 104, 32, 105, 115, 32, 111, 117, 116, 32, 111, 102, 32, 114, 97, 110, 103, 101], [116, 104, 101, 32, 98, 117, 102, 102, 101, 114, 32, 119, 111, 117, 108, 100, 32, 104, 111, 108, 100, 32, 109, 111, 114, 101, 32, 116, 104, 97, 110, 32, 56, 48, 48, 32, 98, 121, 116, 101, 115], [116, 104, 101, 114, 101, 32, 105, 115, 32, 110, 111, 32, 115, 117, 99, 104, 32, 102, 108, 111, 111, 114], [116, 104, 101, 114, 101, 32, 105, 115, 32, 110, 111, 32, 108, 111, 97, 100, 32, 111, 110, 32, 116, 104, 101, 32, 102, 108, 111, 111, 114], [116, 104, 101, 114, 101, 32, 105, 115, 32, 110, 111, 32, 115, 117, 99, 104, 32, 115, 97, 99, 107], [109, 97, 115, 115, 32, 111, 114, 32, 109, 111, 105, 115, 116, 117, 114, 101, 32, 105, 115, 32, 111, 117, 116, 32, 111, 102, 32, 114, 97, 110, 103, 101], [116, 104, 101, 114, 101, 32, 105, 115, 32, 97, 32, 108, 111, 97, 100, 32, 111, 110, 32, 116, 104, 101, 32, 104, 105, 103, 104, 101, 115, 116, 32, 102, 108, 111, 111, 114], [115, 111, 109, 101, 116, 104, 105, 110, 103, 32, 112, 114, 101, 118, 101, 110, 116, 115, 32, 116, 104, 101, 32, 108, 111, 119, 101, 114, 105, 110, 103], [104, 101, 97, 116, 32, 105, 115, 32, 111, 117, 116, 32, 111, 102, 32, 114, 97, 110, 103, 101], [103, 101, 97, 114, 32, 105, 115, 32, 111, 117, 116, 32, 111, 102, 32, 114, 97, 110, 103, 101], [100, 105, 114, 101, 99, 116, 105, 111, 110, 32, 111, 114, 32, 115, 116, 114, 101, 110, 103, 116, 104, 32, 105, 115, 32, 111, 117, 116, 32, 111, 102, 32, 114, 97, 110, 103, 101], [116, 104, 101, 32, 115, 97, 99, 107, 32, 105, 115, 32, 110, 111, 116, 32, 115, 116, 111, 114, 101, 100, 44, 32, 111, 114, 32, 105, 116, 32, 115, 109, 111, 117, 108, 100, 101, 114, 115], [116, 104, 101, 32, 115, 97, 99, 107, 32, 105, 115, 32, 110, 111, 116, 32, 115, 116, 111, 114, 101, 100], [109, 105, 110, 117, 116, 101, 115, 32, 105, 115, 32, 111, 117, 116, 32, 111, 102, 32, 114, 97, 110, 103, 101], [116, 104, 101, 32, 109, 105, 110, 117, 116, 101, 32, 119, 111, 117, 108, 100, 32, 98, 101, 32, 103, 114, 101, 97, 116, 101, 114, 32, 116, 104, 97, 110, 32, 57, 57, 57, 57]]
/-- words of the tables that the kit carries by hand: nest links, what a throw and a catch ask -/
def xOdd : List Cond := [.methodLinkNest "HopOast" 9 yX3_init "HopOast", .methodLinkNest "HopOast$House" 11 yX0_init "HopOast", .methodLinkNest "HopOast$House" 20 yX1_init "HopOast", .methodLinkNest "HopOast$House" 27 yX5_init "HopOast", .methodLinkNest "HopOast" 24 yX2_init "HopOast", .methodLinkNest "HopOast" 31 yX9_init "HopOast", .methodLinkNest "HopOast" 56 yX6_init "HopOast", .methodLinkNest "HopOast" 72 yX4_init "HopOast", .methodLinkNest "HopOast$Tokens" 79 yX11_within "HopOast", .methodLinkNest "HopOast$History" 31 yX3_init "HopOast", .declares (Bundle.initS "java/lang/RuntimeException"), .declares (Bundle.initS "java/lang/Exception"), .declares (Bundle.initS "java/lang/Throwable"), .castable "java/lang/IllegalStateException" "java/lang/IllegalStateException", .castable "java/lang/IllegalArgumentException" "java/lang/IllegalArgumentException", .castable "java/lang/IndexOutOfBoundsException" "java/lang/IndexOutOfBoundsException", .castable "java/util/NoSuchElementException" "java/util/NoSuchElementException", .fieldLinkNest "HopOastLaw" 165 "HopOastLaw$Hops" "mass" "I" "HopOastLaw", .fieldLinkNest "HopOastLaw" 73 "HopOastLaw$Hops" "moisture" "I" "HopOastLaw", .fieldLinkNest "HopOastLaw" 94 "HopOastLaw$Hops" "scorch" "I" "HopOastLaw", .fieldLinkNest "HopOastLaw" 106 "HopOastLaw$Hops" "state" "I" "HopOastLaw", .fieldLinkNest "HopOastLaw" 113 "HopOastLaw$Hops" "heat" "I" "HopOastLaw", .castable "HopOastLaw$Hops" "java/lang/Object", .castable "[B" "java/lang/Cloneable"]
theorem xOdd_warm : ∀ w ∈ xOdd, ∀ (s U : State), s.WarmedH U.vm → va_Nw w s → va_Nw w U := List.forall_mem_cons.mpr ⟨fun _ _ hW hZ => va_Nw.warmM hW hZ, List.forall_mem_cons.mpr ⟨fun _ _ hW hZ => va_Nw.warmM hW hZ, List.forall_mem_cons.mpr ⟨fun _ _ hW hZ => va_Nw.warmM hW hZ, List.forall_mem_cons.mpr ⟨fun _ _ hW hZ => va_Nw.warmM hW hZ, List.forall_mem_cons.mpr ⟨fun _ _ hW hZ => va_Nw.warmM hW hZ, List.forall_mem_cons.mpr ⟨fun _ _ hW hZ => va_Nw.warmM hW hZ, List.forall_mem_cons.mpr ⟨fun _ _ hW hZ => va_Nw.warmM hW hZ, List.forall_mem_cons.mpr ⟨fun _ _ hW hZ => va_Nw.warmM hW hZ, List.forall_mem_cons.mpr ⟨fun _ _ hW hZ => va_Nw.warmM hW hZ, List.forall_mem_cons.mpr ⟨fun _ _ hW hZ => va_Nw.warmM hW hZ, List.forall_mem_cons.mpr ⟨fun _ _ hW hZ => va_Nw.warmD hW hZ, List.forall_mem_cons.mpr ⟨fun _ _ hW hZ => va_Nw.warmD hW hZ, List.forall_mem_cons.mpr ⟨fun _ _ hW hZ => va_Nw.warmD hW hZ, List.forall_mem_cons.mpr ⟨fun _ _ hW hZ => va_Nw.warmC hW hZ, List.forall_mem_cons.mpr ⟨fun _ _ hW hZ => va_Nw.warmC hW hZ, List.forall_mem_cons.mpr ⟨fun _ _ hW hZ => va_Nw.warmC hW hZ, List.forall_mem_cons.mpr ⟨fun _ _ hW hZ => va_Nw.warmC hW hZ, List.forall_mem_cons.mpr ⟨fun _ _ hW hZ => va_Nw.warmF hW hZ, List.forall_mem_cons.mpr ⟨fun _ _ hW hZ => va_Nw.warmF hW hZ, List.forall_mem_cons.mpr ⟨fun _ _ hW hZ => va_Nw.warmF hW hZ, List.forall_mem_cons.mpr ⟨fun _ _ hW hZ => va_Nw.warmF hW hZ, List.forall_mem_cons.mpr ⟨fun _ _ hW hZ => va_Nw.warmF hW hZ, List.forall_mem_cons.mpr ⟨fun _ _ hW hZ => va_Nw.warmC hW hZ, List.forall_mem_cons.mpr ⟨fun _ _ hW hZ => va_Nw.warmC hW hZ, fun _ h => nomatch h⟩⟩⟩⟩⟩⟩⟩⟩⟩⟩⟩⟩⟩⟩⟩⟩⟩⟩⟩⟩⟩⟩⟩⟩
theorem xOdd_tab : ∀ w ∈ xOdd, w.onTables = true := by decide +kernel
def xNcs : List (String × String) := []
def xFW : List (MethodName × MethodName) := [(⟨"java/util/List", "size", "()I"⟩, yJx4a65c_size_8abf5), (⟨"java/util/List", "get", "(I)Ljava/lang/Object;"⟩, yJx4a65c_get_915e3), (⟨"java/util/List", "add", "(Ljava/lang/Object;)Z"⟩, yJx4a65c_add_9ea2d), (⟨"java/util/List", "isEmpty", "()Z"⟩, yJx4a65c_isEmpty_aae02)]
theorem xFW_ok : ∀ q ∈ xFW, q.1.cls ≠ "java/lang/invoke/MethodHandle" ∧ q.1.cls ≠ "java/lang/invoke/VarHandle" := by decide +kernel
/-- what the tables and the bytes say of an instruction -/
def xSL : List (Nat × Nat × Nat) := xStr.map (fun q => (q.1, q.2.1, q.2.2.2))
def xChk (y : xM) (pc : Nat) (i : xI) : Bool := decide (decode y.2.1 pc = .ok (i.1, xlen i.1)) && (match i.1 with
  | .iconst n => decide (Int32.ofInt n = i.2.2)
  | .bipush n => decide ((Int8.ofInt n).toInt32 = i.2.2)
  | .sipush n => decide ((Int16.ofInt n).toInt32 = i.2.2)
  | .iinc _ n => decide (Int32.ofInt n = i.2.2)
  | .ldc x => (match i.2.1 with
    | [k] => decide ((y.2.2.2.2, x, k) ∈ xSL)
    | _ => decide ((y.2.2.2.2, x, i.2.2) ∈ xKI))
  | .ldc_w x => decide ((y.2.2.2.2, x, i.2.2) ∈ xKI)
  | .ldc2_w x => (match i.2.1 with
    | [k] => decide ((y.2.2.2.2, x, Int64.ofNat k) ∈ xKL)
    | _ => false)
  | .getfield x => (match i.2.1 with
    | [ci, k] => decide ((y.2.2.2.2, x, ci, k) ∈ xFT)
    | _ => false)
  | .putfield x => (match i.2.1 with
    | [ci, k, fin] => decide ((y.2.2.2.2, x, ci, k) ∈ xFT) && (match vwCl[ci]? with
      | some r => if fin = 0 then decide ((r.2.1 k).2.2.2 = false) else decide ((r.2.1 k).2.2.2 = true) && decide (y.1.name = "<init>") && decide ((r.2.1 k).1 = xCn y.2.2.2.2)
      | none => false)
    | _ => false)
  | .ifCond _ off => decide (0 ≤ (pc : Int) + off)
  | .if_icmp _ off => decide (0 ≤ (pc : Int) + off)
  | .ifnull off => decide (0 ≤ (pc : Int) + off)
  | .ifnonnull off => decide (0 ≤ (pc : Int) + off)
  | .goto off => decide (0 ≤ (pc : Int) + off)
  | .new x => (match i.2.1 with
    | [ci] => decide ((y.2.2.2.2, x, ci) ∈ xNT)
    | _ => true)
  | .newarray t => (match i.2.1 with
    | [0] => decide (t = .int)
    | [1] => decide (t = .byte)
    | [2] => decide (t = .boolean)
    | _ => false)
  | .invokespecial x => (match i.2.1 with
    | [0] => decide ((y.2.2.2.2, x) ∈ xOL)
    | _ => true)
  | .invokestatic x => (match i.2.1 with
    | [0] => decide ((y.2.2.2.2, x) ∈ xAL)
    | _ => true)
  | _ => true)
def xIsJmp : Instr → Bool
  | .ifCond _ _ => true
  | .if_icmp _ _ => true
  | .ifnull _ => true
  | .ifnonnull _ => true
  | .goto _ => true
  | _ => false
def xChks (y : xM) : Nat → List xI → Bool
  | _, [] => true
  | pc, i :: r => xChk y pc i && (if xIsJmp i.1 then r.isEmpty else xChks y (pc + xlen i.1) r)
/-- statics that hold arrays, the class object of Object[], what a call by an interface asks -/
def xD1 (j : Nat) : Value := .int (nI (48 + j % 10))
def xD10 (j : Nat) : Value := .int (nI (48 + j / 10))
def xSt (E : xE) (A : Nat → Prop) (U : State) (H : Heap) : Prop :=
  (va_Z "java/lang/Integer" "DigitOnes" "[B" (.ref (E.2.2.1 40)) A U H ∧ va_T .byte (E.2.2.1 40) 100 xD1 A U H) ∧ (va_Z "java/lang/Integer" "DigitTens" "[B" (.ref (E.2.2.1 41)) A U H ∧ va_T .byte (E.2.2.1 41) 100 xD10 A U H) ∧
  (va_Z "java/util/ArrayList" "DEFAULTCAPACITY_EMPTY_ELEMENTDATA" "[Ljava/lang/Object;" (.ref (E.2.2.1 42)) A U H ∧ va_T (.object "java/lang/Object") (E.2.2.1 42) 0 (fun _ => .null) A U H) ∧
  (va_AO RX12 U ∧ va_AO "java/lang/Object" U ∧ va_Mi "[Ljava/lang/Object;" (E.2.2.1 43) U ∧ va_Dc U) ∧ (∀ q ∈ xFW, va_Fw "java/util/ArrayList" q.1 q.2 U)
theorem xSt.narrow {E : xE} {A B : Nat → Prop} {U : State} {H : Heap} (h : xSt E A U H) (hAB : ∀ q, B q → A q) : xSt E B U H :=
  ⟨⟨h.1.1.narrow hAB, h.1.2.narrow hAB⟩, ⟨h.2.1.1.narrow hAB, h.2.1.2.narrow hAB⟩, ⟨h.2.2.1.1.narrow hAB, h.2.2.1.2.narrow hAB⟩, h.2.2.2⟩
theorem xSt.kept {E : xE} {A : Nat → Prop} {U : State} {H H1 : Heap} (h : xSt E A U H) (hq : ∀ a : Nat, a < H.size → ¬ A a → H1[a]? = H[a]?) : xSt E A U H1 :=
  ⟨⟨h.1.1.kept hq, h.1.2.kept hq⟩, ⟨h.2.1.1.kept hq, h.2.1.2.kept hq⟩, ⟨h.2.2.1.1.kept hq, h.2.2.1.2.kept hq⟩, h.2.2.2⟩
theorem xSt.moved {E : xE} {A : Nat → Prop} {u U : State} {H : Heap} (hvm : u.vm.Alike U.vm) (h : xSt E A u H) : xSt E A U H :=
  ⟨⟨h.1.1.moved hvm, h.1.2.moved hvm⟩, ⟨h.2.1.1.moved hvm, h.2.1.2.moved hvm⟩, ⟨h.2.2.1.1.moved hvm, h.2.2.1.2.moved hvm⟩, ⟨h.2.2.2.1.1.moved hvm, h.2.2.2.1.2.1.moved hvm, h.2.2.2.1.2.2.1.moved hvm, h.2.2.2.1.2.2.2.moved hvm⟩, fun q hq => va_Fw.moved (xFW_ok q hq) hvm (h.2.2.2.2 q hq)⟩
/-- the String constants' words, the private constructors' links, what a throw reads: all that isn't the method's own world -/
def xG (E : xE) (A : Nat → Prop) (U : State) (H : Heap) : Prop :=
  ((∀ w ∈ xOdd, va_Nw w U) ∧ (∀ q ∈ xNcs, va_Nc q.1 q.2 U)) ∧ va_AO RX3 U ∧ vx_Zq Bundle.tN "UNASSIGNED_STACK" Bundle.steD A U H ∧ vx_Zq Bundle.tN "SUPPRESSED_SENTINEL" Bundle.listD A U H ∧
  (vk_S 22 xSlen xSbyt E.2.2.1 E.2.2.2 A U H ∧ va_Z "java/lang/String" "COMPACT_STRINGS" "Z" (.int 1) A U H ∧ va_Zq "jdk/internal/util/Preconditions" "SIOOBE_FORMATTER" "Ljava/util/function/BiFunction;" A U H) ∧ (∀ q ∈ xStr, vk_R (xCn q.1) q.2.1 q.2.2.1 (E.2.2.1 q.2.2.2) U) ∧ xSt E A U H
/-- what is fixed while a method's body runs -/
def xFix (E : xE) (y : xM) (p : Program) (l : Launch) (s : State) (m : MethodId) (args : Array Value) (meth : Method) (c : Code) (A : Nat → Prop) : Prop :=
  p.tables.exec = Jvm.exec ∧ l.stackTraces = false ∧ c.code = y.2.1 ∧ c.maxLocals = y.2.2.1 ∧ s.vm.findClass (xCn y.2.2.2.2) = some m.cls ∧ (∀ w ∈ xAll, w.before args s = true) ∧ meth.locks = false ∧ meth.name = y.1.name ∧ (∀ q, s.heap.size ≤ q → A q) ∧ va_K E.1 vwCl (xTy E) s ∧ xG E A s s.heap
theorem x_dflt {N : Nat} {ty : Nat → FieldType} {j : Nat} (hj : j < N) : defaultValue (ty j) = vp_V ((List.range N).map (fun j => defaultValue (ty j))) j := by
  simp [vp_V, List.getD, hj]
theorem x_nbytes {n : Nat} {ty : FieldType} (h : n ≤ 10000) : n * componentBytes ty ≤ 536870912 := by
  have : componentBytes ty ≤ 8 := by cases ty <;> simp [componentBytes]
  calc n * componentBytes ty ≤ 10000 * 8 := Nat.mul_le_mul h this
    _ ≤ 536870912 := by decide
theorem x_room20 {R : Room} {m : MethodId} {pc : Nat} {ls : Array Slot} {rest st : List Value} (h2 : 20 ≤ R.locals) (h : (st.map fun v => v.category).sum ≤ 8) : 2 * (F0 m pc ls rest).monitorRoom + (st.map fun v => v.category).sum + 12 ≤ R.locals := by
  have := lv_room (m := m) (pc := pc) (ls := ls) (rest := rest) h
  omega
theorem x_same {E : xE} {s : State} {cA : ClassId} {ty : FieldType} {j : Nat} {c0 : ClassId} (h : va_K E.1 vwCl (xTy E ++ [(cA, ty)]) s) (hj : (xTy E)[j]? = some (c0, ty)) : cA = c0 := by
  have h1 := (h.2 j (c0, ty) (by rw [List.getElem?_append_left (List.getElem?_eq_some_iff.mp hj).1]; exact hj)).2
  have h2 := (h.2 6 (cA, ty) rfl).2
  cases ty <;> first
    | (have h3 : s.vm.findClass _ = some _ := h1
       have h4 : s.vm.findClass _ = some _ := h2
       rw [h3] at h4
       exact (Option.some.inj h4).symm)
    | (obtain ⟨_, _, _, _, _, h3⟩ := h1
       obtain ⟨_, _, _, _, _, h4⟩ := h2
       rw [h3] at h4
       exact (Option.some.inj h4).symm)
theorem xjmp_eq {pc : Nat} {off : Int} (h : 0 ≤ (pc : Int) + off) : (pc : Int) + off = (xjmp pc off : Int) := by
  unfold xjmp
  omega
theorem x_hltL {L : xL} {k : Nat} {v : Option Value} (h : L[k]? = some v) : k < L.length := (List.getElem?_eq_some_iff.mp h).1
theorem x_hlt {fs : List Value} {k : Nat} {v : Value} (h : fs[k]? = some v) : k < fs.length := (List.getElem?_eq_some_iff.mp h).1
set_option maxHeartbeats 4000000 in
set_option maxRecDepth 100000 in
theorem xrun_W {E : xE} {y : xM} {p : Program} {l : Launch} {s : State} {m : MethodId} {args : Array Value} {meth : Method} {c : Code} {A : Nat → Prop} (hF : xFix E y p l s m args meth c A) {e : Env} {below : List Frame} {R : Room} {Q : State → Prop} {K : xK} {kr : xKr}
    (hK : ∀ (pc : Nat) (L : xL) (st : List Value) (M : va_W) (ck sk : Nat) (H : Heap) (locs : List Loc) (ls : Array Slot), K pc L st M ck sk → va_P E.1 vwCl M H → va_D A M → va_S A s.heap H locs → lv_has ls y.2.2.1 (xEn 0 L) → L.length = y.2.2.1 → W p l e R s m args below meth c H locs ck sk Q (F0 m pc ls st))
    (hKr : ∀ (pc : Nat) (v : Option Value) (M : va_W) (ck sk : Nat) (H : Heap) (locs : List Loc) (ls : Array Slot), kr v M ck sk → xRetAt y.2.1 pc v → va_P E.1 vwCl M H → va_D A M → va_S A s.heap H locs → W p l e R s m args below meth c H locs ck sk Q (F0 m pc ls v.toList)) :
    ∀ (is : List xI) (hs : List Nat) (pc : Nat) (L : xL) (st : List Value) (M : va_W) (ck sk : Nat) (H : Heap) (locs : List Loc) (ls : Array Slot), xChks y pc is = true → xrun R E K kr is hs pc L st M ck sk → va_P E.1 vwCl M H → va_D A M → va_S A s.heap H locs → lv_has ls y.2.2.1 (xEn 0 L) → L.length = y.2.2.1 → W p l e R s m args below meth c H locs ck sk Q (F0 m pc ls st) := by
  obtain ⟨hx, hl0, hb, hml, hown, hts, hlocks, hnm, hA, hKK, hG⟩ := hF
  intro is
  induction is with
  | nil => exact fun hs pc L st M ck sk H locs ls _ h hP hD hS hl hLn => hK pc L st M ck sk H locs ls h hP hD hS hl hLn
  | cons i r ih =>
    intro hs pc L st M ck sk H locs ls hok h hP hD hS hl hLn
    obtain ⟨ii, aux, cv⟩ := i
    replace h : xstep R E kr (fun hs => xrun R E K kr r hs) (ii, aux, cv) hs pc L st M ck sk := h
    rw [xChks, Bool.and_eq_true] at hok
    obtain ⟨hok1, hok2⟩ := hok
    rw [xChk, Bool.and_eq_true, decide_eq_true_eq] at hok1
    obtain ⟨hd, hc⟩ := hok1
    dsimp only at hd hc hok2
    have hjm : xIsJmp ii = true → r = [] := fun q => by rw [if_pos q] at hok2; exact List.isEmpty_iff.mp hok2
    have hnj : xIsJmp ii = false → xChks y (pc + xlen ii) r = true := fun q => by rw [q] at hok2; exact hok2
    clear hok2
    cases ii
    case iconst n =>
      exact lv_iconst hx hb hd (of_decide_eq_true hc) (ih _ _ _ _ _ _ _ _ _ _ (hnj rfl) h hP hD hS hl hLn)
    case bipush n =>
      exact lv_bipush hx hb hd (of_decide_eq_true hc) (ih _ _ _ _ _ _ _ _ _ _ (hnj rfl) h hP hD hS hl hLn)
    case sipush n =>
      exact lv_sipush hx hb hd (of_decide_eq_true hc) (ih _ _ _ _ _ _ _ _ _ _ (hnj rfl) h hP hD hS hl hLn)
    case lconst n =>
      exact lv_lconst hx hb hd rfl (ih _ _ _ _ _ _ _ _ _ _ (hnj rfl) h hP hD hS hl hLn)
    case aconst_null =>
      exact lv_null hx hb hd (ih _ _ _ _ _ _ _ _ _ _ (hnj rfl) h hP hD hS hl hLn)
    case ldc x =>
      delta xstep at h
      dsimp only at h
      split at h
      · rename_i k
        have hm : (y.2.2.2.2, x, k) ∈ xSL := of_decide_eq_true hc
        obtain ⟨q, hq, he⟩ := List.mem_map.mp hm
        have hz := hG.2.2.2.2.2.1 q hq
        simp only [Prod.mk.injEq] at he
        obtain ⟨e1, e2, e3⟩ := he
        rw [e1, e2, e3] at hz
        exact va_ldcS hx hb hown hz hd (ih _ _ _ _ _ _ _ _ _ _ (hnj rfl) h hP hD hS hl hLn)
      · rename_i hn
        dsimp only at hc
        have hm : (y.2.2.2.2, x, cv) ∈ xKI := by
          split at hc
          · rename_i k
            exact absurd rfl (hn k)
          · exact of_decide_eq_true hc
        exact lv_ldc hx hb hown (hts _ (xKI_ok _ hm)) hd (ih _ _ _ _ _ _ _ _ _ _ (hnj rfl) h hP hD hS hl hLn)
    case ldc_w x =>
      exact lv_ldcw hx hb hown (hts _ (xKI_ok _ (of_decide_eq_true hc))) hd (ih _ _ _ _ _ _ _ _ _ _ (hnj rfl) h hP hD hS hl hLn)
    case ldc2_w x =>
      delta xstep at h
      dsimp only at h
      split at h
      · exact lv_ldc2 hx hb hown (hts _ (xKL_ok _ (of_decide_eq_true hc))) hd (ih _ _ _ _ _ _ _ _ _ _ (hnj rfl) h hP hD hS hl hLn)
      · exact h.elim
    case iload_n n =>
      delta xstep at h
      dsimp only at h
      split at h
      · rename_i x hL
        exact lv_iload_n hx hb hd rfl (x_at hl hL) (ih _ _ _ _ _ _ _ _ _ _ (hnj rfl) h hP hD hS hl hLn)
      · exact h.elim
    case iload n =>
      delta xstep at h
      dsimp only at h
      split at h
      · rename_i x hL
        exact lv_iload hx hb hd (x_at hl hL) (ih _ _ _ _ _ _ _ _ _ _ (hnj rfl) h hP hD hS hl hLn)
      · exact h.elim
    case lload_n n =>
      delta xstep at h
      dsimp only at h
      split at h
      · rename_i x hL
        exact lv_lload_n hx hb hd rfl (x_at hl hL) (ih _ _ _ _ _ _ _ _ _ _ (hnj rfl) h hP hD hS hl hLn)
      · exact h.elim
    case lload n =>
      delta xstep at h
      dsimp only at h
      split at h
      · rename_i x hL
        exact lv_lload hx hb hd (x_at hl hL) (ih _ _ _ _ _ _ _ _ _ _ (hnj rfl) h hP hD hS hl hLn)
      · exact h.elim
    case dload n =>
      delta xstep at h
      dsimp only at h
      split at h
      · rename_i x hL
        exact lv_dload hx hb hd (x_at hl hL) (ih _ _ _ _ _ _ _ _ _ _ (hnj rfl) h hP hD hS hl hLn)
      · exact h.elim
    case aload_n n =>
      delta xstep at h
      dsimp only at h
      split at h
      · rename_i x hL
        exact lv_aload_n hx hb hd rfl (x_at hl hL) (ih _ _ _ _ _ _ _ _ _ _ (hnj rfl) h hP hD hS hl hLn)
      · rename_i hL
        exact lv_aload_nN hx hb hd rfl (x_at hl hL) (ih _ _ _ _ _ _ _ _ _ _ (hnj rfl) h hP hD hS hl hLn)
      · exact h.elim
    case aload n =>
      delta xstep at h
      dsimp only at h
      split at h
      · rename_i x hL
        exact lv_aload hx hb hd (x_at hl hL) (ih _ _ _ _ _ _ _ _ _ _ (hnj rfl) h hP hD hS hl hLn)
      · rename_i hL
        exact lv_aloadN hx hb hd (x_at hl hL) (ih _ _ _ _ _ _ _ _ _ _ (hnj rfl) h hP hD hS hl hLn)
      · exact h.elim
    case istore_n n =>
      delta xstep at h
      dsimp only at h
      split at h
      · exact lv_istore_n hx hb hd rfl hl (by rw [← hLn]; exact h.1) rfl fun ls1 hl1 => (ih _ _ _ _ _ _ _ _ _ ls1 (hnj rfl) h.2 hP hD hS (x_st1 hl1) (by rw [List.length_set, xKill_len]; exact hLn))
      · exact h.elim
    case istore n =>
      delta xstep at h
      dsimp only at h
      split at h
      · exact lv_istore hx hb hd hl (by rw [← hLn]; exact h.1) rfl fun ls1 hl1 => (ih _ _ _ _ _ _ _ _ _ ls1 (hnj rfl) h.2 hP hD hS (x_st1 hl1) (by rw [List.length_set, xKill_len]; exact hLn))
      · exact h.elim
    case astore_n n =>
      delta xstep at h
      dsimp only at h
      split at h
      · exact lv_astore_n hx hb hd rfl hl (by rw [← hLn]; exact h.1) rfl fun ls1 hl1 => (ih _ _ _ _ _ _ _ _ _ ls1 (hnj rfl) h.2 hP hD hS (x_st1 hl1) (by rw [List.length_set, xKill_len]; exact hLn))
      · exact lv_astore_nN hx hb hd rfl hl (by rw [← hLn]; exact h.1) rfl fun ls1 hl1 => (ih _ _ _ _ _ _ _ _ _ ls1 (hnj rfl) h.2 hP hD hS (x_st1 hl1) (by rw [List.length_set, xKill_len]; exact hLn))
      · exact h.elim
    case astore n =>
      delta xstep at h
      dsimp only at h
      split at h
      · exact lv_astore hx hb hd hl (by rw [← hLn]; exact h.1) rfl fun ls1 hl1 => (ih _ _ _ _ _ _ _ _ _ ls1 (hnj rfl) h.2 hP hD hS (x_st1 hl1) (by rw [List.length_set, xKill_len]; exact hLn))
      · exact lv_astoreN hx hb hd hl (by rw [← hLn]; exact h.1) rfl fun ls1 hl1 => (ih _ _ _ _ _ _ _ _ _ ls1 (hnj rfl) h.2 hP hD hS (x_st1 hl1) (by rw [List.length_set, xKill_len]; exact hLn))
      · exact h.elim
    case lstore_n n =>
      delta xstep at h
      dsimp only at h
      split at h
      · exact lv_lstore_n hx hb hd rfl hl (by rw [← hLn]; exact h.1) rfl fun ls1 hl1 => (ih _ _ _ _ _ _ _ _ _ ls1 (hnj rfl) h.2 hP hD hS (x_st2 hl1) (by rw [List.length_set, List.length_set, xKill_len]; exact hLn))
      · exact h.elim
    case lstore n =>
      delta xstep at h
      dsimp only at h
      split at h
      · exact lv_lstore hx hb hd hl (by rw [← hLn]; exact h.1) rfl fun ls1 hl1 => (ih _ _ _ _ _ _ _ _ _ ls1 (hnj rfl) h.2 hP hD hS (x_st2 hl1) (by rw [List.length_set, List.length_set, xKill_len]; exact hLn))
      · exact h.elim
    case dstore n =>
      delta xstep at h
      dsimp only at h
      split at h
      · exact lv_dstore hx hb hd hl (by rw [← hLn]; exact h.1) rfl fun ls1 hl1 => (ih _ _ _ _ _ _ _ _ _ ls1 (hnj rfl) h.2 hP hD hS (x_st2 hl1) (by rw [List.length_set, List.length_set, xKill_len]; exact hLn))
      · exact h.elim
    case iinc n k =>
      delta xstep at h
      dsimp only at h
      split at h
      · rename_i x hL
        have hm : (n, Value.int x) ∈ xEn 0 L := (xEn_mem L 0).mpr ⟨Nat.zero_le _, hL⟩
        obtain ⟨z, hz⟩ := List.getElem?_of_mem hm
        exact lv_iinc (k := z) hx hb hd hl hz (by rw [of_decide_eq_true hc]) (by rw [← hLn]; exact x_hltL hL) rfl fun ls1 hl1 => (ih _ _ _ _ _ _ _ _ _ ls1 (hnj rfl) h hP hD hS (x_st1 hl1) (by rw [List.length_set, xKill_len]; exact hLn))
      · exact h.elim
    case dup =>
      delta xstep at h
      dsimp only at h
      split at h
      · exact lv_dup hx hb hd rfl (ih _ _ _ _ _ _ _ _ _ _ (hnj rfl) h hP hD hS hl hLn)
      · exact lv_dup hx hb hd rfl (ih _ _ _ _ _ _ _ _ _ _ (hnj rfl) h hP hD hS hl hLn)
      · exact h.elim
    case dup2 =>
      delta xstep at h
      dsimp only at h
      split at h
      · exact lv_dup2_11 hx hb hd rfl rfl (ih _ _ _ _ _ _ _ _ _ _ (hnj rfl) h hP hD hS hl hLn)
      · exact lv_dup2_11 hx hb hd rfl rfl (ih _ _ _ _ _ _ _ _ _ _ (hnj rfl) h hP hD hS hl hLn)
      · exact h.elim
    case pop =>
      delta xstep at h
      dsimp only at h
      split at h
      · exact lv_pop hx hb hd rfl (ih _ _ _ _ _ _ _ _ _ _ (hnj rfl) h hP hD hS hl hLn)
      · exact lv_pop hx hb hd rfl (ih _ _ _ _ _ _ _ _ _ _ (hnj rfl) h hP hD hS hl hLn)
      · exact h.elim
    case iadd =>
      delta xstep at h
      dsimp only at h
      split at h
      · exact lv_iadd hx hb hd (ih _ _ _ _ _ _ _ _ _ _ (hnj rfl) h hP hD hS hl hLn)
      · exact h.elim
    case isub =>
      delta xstep at h
      dsimp only at h
      split at h
      · exact lv_isub hx hb hd (ih _ _ _ _ _ _ _ _ _ _ (hnj rfl) h hP hD hS hl hLn)
      · exact h.elim
    case imul =>
      delta xstep at h
      dsimp only at h
      split at h
      · exact lv_imul hx hb hd (ih _ _ _ _ _ _ _ _ _ _ (hnj rfl) h hP hD hS hl hLn)
      · exact h.elim
    case iand =>
      delta xstep at h
      dsimp only at h
      split at h
      · exact lv_iand hx hb hd (ih _ _ _ _ _ _ _ _ _ _ (hnj rfl) h hP hD hS hl hLn)
      · exact h.elim
    case ishr =>
      delta xstep at h
      dsimp only at h
      split at h
      · exact lv_ishr hx hb hd (ih _ _ _ _ _ _ _ _ _ _ (hnj rfl) h hP hD hS hl hLn)
      · exact h.elim
    case ineg =>
      delta xstep at h
      dsimp only at h
      split at h
      · exact lv_ineg hx hb hd (ih _ _ _ _ _ _ _ _ _ _ (hnj rfl) h hP hD hS hl hLn)
      · exact h.elim
    case ladd =>
      delta xstep at h
      dsimp only at h
      split at h
      · exact lv_ladd hx hb hd (ih _ _ _ _ _ _ _ _ _ _ (hnj rfl) h hP hD hS hl hLn)
      · exact h.elim
    case lsub =>
      delta xstep at h
      dsimp only at h
      split at h
      · exact lv_lsub hx hb hd (ih _ _ _ _ _ _ _ _ _ _ (hnj rfl) h hP hD hS hl hLn)
      · exact h.elim
    case lmul =>
      delta xstep at h
      dsimp only at h
      split at h
      · exact lv_lmul hx hb hd (ih _ _ _ _ _ _ _ _ _ _ (hnj rfl) h hP hD hS hl hLn)
      · exact h.elim
    case i2f =>
      delta xstep at h
      dsimp only at h
      split at h
      · exact lv_i2f hx hb hd (ih _ _ _ _ _ _ _ _ _ _ (hnj rfl) h hP hD hS hl hLn)
      · exact h.elim
    case i2d =>
      delta xstep at h
      dsimp only at h
      split at h
      · exact lv_i2d hx hb hd (ih _ _ _ _ _ _ _ _ _ _ (hnj rfl) h hP hD hS hl hLn)
      · exact h.elim
    case dcmp op =>
      delta xstep at h
      dsimp only at h
      split at h
      · exact lv_dcmp hx hb hd (ih _ _ _ _ _ _ _ _ _ _ (hnj rfl) h hP hD hS hl hLn)
      · exact h.elim
    case idiv =>
      delta xstep at h
      dsimp only at h
      split at h
      · exact lv_idiv hx hb hd h.1 (ih _ _ _ _ _ _ _ _ _ _ (hnj rfl) h.2 hP hD hS hl hLn)
      · exact h.elim
    case irem =>
      delta xstep at h
      dsimp only at h
      split at h
      · exact lv_irem hx hb hd h.1 (ih _ _ _ _ _ _ _ _ _ _ (hnj rfl) h.2 hP hD hS hl hLn)
      · exact h.elim
    case iushr =>
      delta xstep at h
      dsimp only at h
      split at h
      · exact lv_iushr hx hb hd rfl (ih _ _ _ _ _ _ _ _ _ _ (hnj rfl) h hP hD hS hl hLn)
      · exact h.elim
    case lcmp =>
      delta xstep at h
      dsimp only at h
      split at h
      · exact W.lcmp hx hb hd (ih _ _ _ _ _ _ _ _ _ _ (hnj rfl) h hP hD hS hl hLn)
      · exact h.elim
    case i2c =>
      delta xstep at h
      dsimp only at h
      split at h
      · exact lv_i2c hx hb hd rfl (ih _ _ _ _ _ _ _ _ _ _ (hnj rfl) h hP hD hS hl hLn)
      · exact h.elim
    case i2l =>
      delta xstep at h
      dsimp only at h
      split at h
      · exact lv_i2l hx hb hd rfl (ih _ _ _ _ _ _ _ _ _ _ (hnj rfl) h hP hD hS hl hLn)
      · exact h.elim
    case getfield x =>
      delta xstep at h
      dsimp only at h
      split at h
      · split at h
        · rename_i hM
          split at h
          · rename_i v hv
            obtain ⟨⟨rfl, rfl⟩, h⟩ := h
            obtain ⟨r0, hr, hk0, hlk⟩ := xFT_ok _ (of_decide_eq_true hc)
            obtain ⟨q1, q2, q3⟩ := xCl _ _ hr
            exact va_get hx hb hts q1 hown hKK hP _ hM hr _ hk0 (hts _ hlk) (fun _ h9 => h9) hv hd (ih _ _ _ _ _ _ _ _ _ _ (hnj rfl) h hP hD hS hl hLn)
          · exact h.elim
        · exact h.elim
      · exact h.elim
    case putfield x =>
      delta xstep at h
      dsimp only at h
      split at h
      · split at h
        · rename_i hM
          obtain ⟨⟨rfl, rfl, hkl⟩, ⟨hn, hfit⟩, h⟩ := h
          rw [Bool.and_eq_true] at hc
          obtain ⟨r0, hr, hk0, hlk⟩ := xFT_ok _ (of_decide_eq_true hc.1)
          obtain ⟨q1, q2, q3⟩ := xCl _ _ hr
          have hc2 := hc.2
          dsimp only at hr hk0 hlk
          rw [hr] at hc2
          dsimp only at hc2
          split at hc2
          · exact va_put hx hb hts q1 _ q2 q3 hown hKK hP hD hS _ hM hr _ hk0 (hts _ hlk) (fun _ h9 => h9) (of_decide_eq_true hc2) (q2 _ hk0) hn hfit hkl hd fun H1 locs1 hP1 hD1 hS1 => (ih _ _ _ _ _ _ _ _ _ _ (hnj rfl) h hP1 hD1 hS1 hl hLn)
          · rw [Bool.and_eq_true, Bool.and_eq_true, decide_eq_true_eq, decide_eq_true_eq, decide_eq_true_eq] at hc2
            exact va_putF hx hb hts q1 _ q2 q3 hown hKK hP hD hS _ hM hr _ hk0 (hts _ hlk) (fun _ h9 => h9) hc2.1.1 (hnm.trans hc2.1.2) hc2.2 (q2 _ hk0) hn hfit hkl hd fun H1 locs1 hP1 hD1 hS1 => (ih _ _ _ _ _ _ _ _ _ _ (hnj rfl) h hP1 hD1 hS1 hl hLn)
        · exact h.elim
      · exact h.elim
    case iaload =>
      delta xstep at h
      dsimp only at h
      split at h
      · split at h
        · rename_i hM
          obtain ⟨⟨rfl, rfl⟩, hin, h⟩ := h
          exact va_iald hx hb hKK hP _ 0 hM rfl hin hd (ih _ _ _ _ _ _ _ _ _ _ (hnj rfl) h hP hD hS hl hLn)
        · exact h.elim
      · exact h.elim
    case baload =>
      delta xstep at h
      dsimp only at h
      split at h
      · split at h
        · rename_i hM
          obtain ⟨⟨rfl, rfl⟩, hin, h⟩ := h
          exact va_zald hx hb hKK hP _ 2 hM rfl hin hd (ih _ _ _ _ _ _ _ _ _ _ (hnj rfl) h hP hD hS hl hLn)
        · exact h.elim
      · exact h.elim
    case iastore =>
      delta xstep at h
      dsimp only at h
      split at h
      · split at h
        · rename_i hM
          obtain ⟨⟨rfl, rfl⟩, hin, h⟩ := h
          exact va_iast hx hb hKK hP hD hS _ 0 hM rfl hin hd fun H1 locs1 hP1 hD1 hS1 => (ih _ _ _ _ _ _ _ _ _ _ (hnj rfl) h hP1 hD1 hS1 hl hLn)
        · exact h.elim
      · exact h.elim
    case bastore =>
      delta xstep at h
      dsimp only at h
      split at h
      · split at h
        · rename_i hM
          obtain ⟨⟨rfl, rfl, hnr⟩, hin, h⟩ := h
          refine va_zast hx hb hKK hP hD hS _ 2 hM rfl hin hd fun H1 locs1 hP1 hD1 hS1 => ?_
          rw [hnr] at hP1 hD1
          exact (ih _ _ _ _ _ _ _ _ _ _ (hnj rfl) h hP1 hD1 hS1 hl hLn)
        · exact h.elim
      · exact h.elim
    case ifCond op off =>
      obtain rfl := hjm rfl
      have hj := xjmp_eq (of_decide_eq_true hc)
      delta xstep at h
      dsimp only at h
      split at h
      · split at h
        · exact lv_if_eq hx hb hd hj (fun q => hK _ _ _ _ _ _ _ _ _ (h.1 q) hP hD hS hl hLn) (fun q => hK _ _ _ _ _ _ _ _ _ (h.2 q) hP hD hS hl hLn)
        · exact lv_if_ne hx hb hd hj (fun q => hK _ _ _ _ _ _ _ _ _ (h.1 q) hP hD hS hl hLn) (fun q => hK _ _ _ _ _ _ _ _ _ (h.2 q) hP hD hS hl hLn)
        · exact lv_if_lt hx hb hd hj (fun q => hK _ _ _ _ _ _ _ _ _ (h.1 q) hP hD hS hl hLn) (fun q => hK _ _ _ _ _ _ _ _ _ (h.2 q) hP hD hS hl hLn)
        · exact lv_if_ge hx hb hd hj (fun q => hK _ _ _ _ _ _ _ _ _ (h.1 q) hP hD hS hl hLn) (fun q => hK _ _ _ _ _ _ _ _ _ (h.2 q) hP hD hS hl hLn)
        · exact lv_if_gt hx hb hd hj (fun q => hK _ _ _ _ _ _ _ _ _ (h.1 q) hP hD hS hl hLn) (fun q => hK _ _ _ _ _ _ _ _ _ (h.2 q) hP hD hS hl hLn)
        · exact lv_if_le hx hb hd hj (fun q => hK _ _ _ _ _ _ _ _ _ (h.1 q) hP hD hS hl hLn) (fun q => hK _ _ _ _ _ _ _ _ _ (h.2 q) hP hD hS hl hLn)
      · exact h.elim
    case if_icmp op off =>
      obtain rfl := hjm rfl
      have hj := xjmp_eq (of_decide_eq_true hc)
      delta xstep at h
      dsimp only at h
      split at h
      · split at h
        · exact lv_icmp_eq hx hb hd hj (fun q => hK _ _ _ _ _ _ _ _ _ (h.1 q) hP hD hS hl hLn) (fun q => hK _ _ _ _ _ _ _ _ _ (h.2 q) hP hD hS hl hLn)
        · exact lv_icmp_ne hx hb hd hj (fun q => hK _ _ _ _ _ _ _ _ _ (h.1 q) hP hD hS hl hLn) (fun q => hK _ _ _ _ _ _ _ _ _ (h.2 q) hP hD hS hl hLn)
        · exact lv_icmp_lt hx hb hd hj (fun q => hK _ _ _ _ _ _ _ _ _ (h.1 q) hP hD hS hl hLn) (fun q => hK _ _ _ _ _ _ _ _ _ (h.2 q) hP hD hS hl hLn)
        · exact lv_icmp_ge hx hb hd hj (fun q => hK _ _ _ _ _ _ _ _ _ (h.1 q) hP hD hS hl hLn) (fun q => hK _ _ _ _ _ _ _ _ _ (h.2 q) hP hD hS hl hLn)
        · exact lv_icmp_gt hx hb hd hj (fun q => hK _ _ _ _ _ _ _ _ _ (h.1 q) hP hD hS hl hLn) (fun q => hK _ _ _ _ _ _ _ _ _ (h.2 q) hP hD hS hl hLn)
        · exact lv_icmp_le hx hb hd hj (fun q => hK _ _ _ _ _ _ _ _ _ (h.1 q) hP hD hS hl hLn) (fun q => hK _ _ _ _ _ _ _ _ _ (h.2 q) hP hD hS hl hLn)
      · exact h.elim
    case ifnull off =>
      obtain rfl := hjm rfl
      have hj := xjmp_eq (of_decide_eq_true hc)
      delta xstep at h
      dsimp only at h
      split at h
      · exact lv_ifnull hx hb hd (hK _ _ _ _ _ _ _ _ _ h hP hD hS hl hLn)
      · exact lv_ifnullN hx hb hd hj (hK _ _ _ _ _ _ _ _ _ h hP hD hS hl hLn)
      · exact h.elim
    case ifnonnull off =>
      obtain rfl := hjm rfl
      have hj := xjmp_eq (of_decide_eq_true hc)
      delta xstep at h
      dsimp only at h
      split at h
      · exact lv_ifnonnull hx hb hd hj (hK _ _ _ _ _ _ _ _ _ h hP hD hS hl hLn)
      · exact lv_ifnonnullN hx hb hd (hK _ _ _ _ _ _ _ _ _ h hP hD hS hl hLn)
      · exact h.elim
    case goto off =>
      obtain rfl := hjm rfl
      have hj := xjmp_eq (of_decide_eq_true hc)
      exact lv_goto hx hb hd hj (hK _ _ _ _ _ _ _ _ _ h hP hD hS hl hLn)
    case dconst n =>
      obtain rfl := h.1
      exact lv_dconst0 hx hb hd (ih _ _ _ _ _ _ _ _ _ _ (hnj rfl) h.2 hP hD hS hl hLn)
    case fconst n =>
      obtain rfl := h.1
      exact lv_fconst0 hx hb hd (ih _ _ _ _ _ _ _ _ _ _ (hnj rfl) h.2 hP hD hS hl hLn)
    case new x =>
      delta xstep at h
      dsimp only at h
      split at h
      · split at h
        · rename_i q hq
          obtain ⟨⟨h1, h2⟩, h⟩ := h
          obtain ⟨r0, hr, hk1, hk2, hk3⟩ := xNT_ok _ (of_decide_eq_true hc)
          dsimp only at hr hk1
          obtain rfl := Option.some.inj (hq.symm.trans hr)
          obtain ⟨q1, q2, q3⟩ := xCl _ _ hq
          exact va_new hx hb hts q1 _ q2 hown (hts _ hk1) (hts _ hk2) (hts _ hk3) hKK hP hD hS hA hq (fun j hj => x_dflt hj) h1 h2 hd fun a H1 hP1 hD1 hS1 => (ih _ _ _ _ _ _ _ _ _ _ (hnj rfl) (h a) hP1 hD1 hS1 hl hLn)
        · exact h.elim
      · exact h.elim
    case newarray x =>
      delta xstep at h
      dsimp only at h
      split at h
      · obtain ⟨⟨h1, h2, h3, h4⟩, h⟩ := h
        obtain rfl := of_decide_eq_true hc
        refine va_newa (atype := .int) (ty := .int) (a0 := (_, .inl (fun _ => 0))) hx hb (hts _ xar_int) rfl hKK hP hD hS hA (fun cA => rfl) h1 rfl (x_nbytes h2) h3 h4 hd fun a cA H1 hK1 hP1 hD1 hS1 => ?_
        obtain rfl := x_same (j := 0) (E := E) hK1 rfl
        exact (ih _ _ _ _ _ _ _ _ _ _ (hnj rfl) (h a) hP1 hD1 hS1 hl hLn)
      · obtain ⟨⟨h1, h2, h3, h4⟩, h⟩ := h
        obtain rfl := of_decide_eq_true hc
        refine va_newa (atype := .byte) (ty := .byte) (a0 := (_, .inl (fun _ => 0))) hx hb (hts _ xar_byte) rfl hKK hP hD hS hA (fun cA => rfl) h1 rfl (x_nbytes h2) h3 h4 hd fun a cA H1 hK1 hP1 hD1 hS1 => ?_
        obtain rfl := x_same (j := 1) (E := E) hK1 rfl
        exact (ih _ _ _ _ _ _ _ _ _ _ (hnj rfl) (h a) hP1 hD1 hS1 hl hLn)
      · obtain ⟨⟨h1, h2, h3, h4⟩, h⟩ := h
        obtain rfl := of_decide_eq_true hc
        refine va_newa (atype := .boolean) (ty := .boolean) (a0 := (_, .inl (fun _ => 0))) hx hb (hts _ xar_boolean) rfl hKK hP hD hS hA (fun cA => rfl) h1 rfl (x_nbytes h2) h3 h4 hd fun a cA H1 hK1 hP1 hD1 hS1 => ?_
        obtain rfl := x_same (j := 2) (E := E) hK1 rfl
        exact (ih _ _ _ _ _ _ _ _ _ _ (hnj rfl) (h a) hP1 hD1 hS1 hl hLn)
      · exact h.elim
    case invokespecial x =>
      delta xstep at h
      dsimp only at h
      split at h
      · obtain ⟨⟨h1, h2, h3⟩, h⟩ := h
        refine W.objInit hx hb hown (hts _ (xOL_ok _ (of_decide_eq_true hc))) (hts _ xobj.1) (hts _ xobj.2) rfl (by rw [hml]; exact hl.1) rfl hd h1 (x_room20 h2 h3) ?_
        exact W.eq (g2 := F0 m (pc + 3) ls _) rfl (ih _ _ _ _ _ _ _ _ _ _ (hnj rfl) h hP hD hS hl hLn)
      · exact h.elim
    case invokestatic x =>
      delta xstep at h
      dsimp only at h
      split at h
      · split at h
        · rename_i hM0 hM1
          obtain ⟨⟨rfl, rfl, rfl, rfl, hr1, hr2⟩, ⟨g1, g2, g3, g4, g5⟩, h⟩ := h
          exact va_copyi hx hb (by rw [hml]; exact hl.1.symm) hown (hts _ (xAL_ok _ (of_decide_eq_true hc))) (hts _ xac.1) (hts _ xac.2.1) (hts _ xac.2.2) hKK hP hD hS _ _ 0 0 hM0 hM1 rfl rfl rfl g1 g2 g3 g4 g5 (fun _ _ => rfl) hr1 hr2 hd fun H1 locs1 hP1 hD1 hS1 => (ih _ _ _ _ _ _ _ _ _ _ (hnj rfl) h hP1 hD1 hS1 hl hLn)
        · exact h.elim
      · exact h.elim
    case ireturn =>
      delta xstep at h
      dsimp only at h
      split at h
      · exact hKr _ _ _ _ _ _ _ _ h hd hP hD hS
      · exact h.elim
    case lreturn =>
      delta xstep at h
      dsimp only at h
      split at h
      · exact hKr _ _ _ _ _ _ _ _ h hd hP hD hS
      · exact h.elim
    case freturn =>
      delta xstep at h
      dsimp only at h
      split at h
      · exact hKr _ _ _ _ _ _ _ _ h hd hP hD hS
      · exact h.elim
    case dreturn =>
      delta xstep at h
      dsimp only at h
      split at h
      · exact hKr _ _ _ _ _ _ _ _ h hd hP hD hS
      · exact h.elim
    case areturn =>
      delta xstep at h
      dsimp only at h
      split at h
      · exact hKr _ _ _ _ _ _ _ _ h hd hP hD hS
      · exact hKr _ _ _ _ _ _ _ _ h hd hP hD hS
      · exact h.elim
    case return_ =>
      delta xstep at h
      dsimp only at h
      split at h
      · exact hKr _ _ _ _ _ _ _ _ h hd hP hD hS
      · exact h.elim
    all_goals exact h.elim
