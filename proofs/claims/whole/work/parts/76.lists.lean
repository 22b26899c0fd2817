/-! PURE: the class's list of commands -/
def LR0 (T : List Cmd) (ln : Nat) (fs ss vs : Nat → Int32) : Prop := ln = T.length ∧ ∀ i C, T[i]? = some C → vs i = nI C.1 ∧ fs i = C.2.1 ∧ ss i = C.2.2
def LR (B : List Cmd) (ln : Nat) (fs ss vs : Nat → Int32) : Prop := LR0 (B.take 40) ln fs ss vs
theorem LR.le {B : List Cmd} {ln : Nat} {fs ss vs : Nat → Int32} (h : LR B ln fs ss vs) : ln ≤ 40 := by
  have := h.1
  rw [List.length_take] at this
  omega
theorem LR.cong {A B : List Cmd} {ln : Nat} {fs ss vs : Nat → Int32} (h : LR A ln fs ss vs) (he : A.take 40 = B.take 40) : LR B ln fs ss vs := by
  unfold LR at h ⊢
  rw [← he]
  exact h
theorem k_add6 {X : List Cmd} {ln v : Nat} {fs ss vs : Nat → Int32} (h : LR X ln fs ss vs) (a b : Int32) : ∃ (ln' : Nat) (fs' ss' vs' : Nat → Int32), F_X6_add (nI v) a b (nI ln) fs ss vs = some ((), nI ln', fs', ss', vs') ∧ LR (X ++ [(v, a, b)]) ln' fs' ss' vs' := by
  have hl := h.1
  rw [List.length_take] at hl
  unfold F_X6_add
  by_cases hX : X.length < 40
  · have hn : ln < 40 := by omega
    have e1 : X.take 40 = X := List.take_of_length_le (by omega)
    have e2 : (X ++ [(v, a, b)]).take 40 = X ++ [(v, a, b)] := List.take_of_length_le (by rw [List.length_append]; simp; omega)
    refine ⟨ln + 1, upd fs ln a, upd ss ln b, upd vs ln (nI v), ?_, ?_⟩
    · have hx : xin (nI ln) 40 = true := xin_nI hn (by decide)
      rw [if_neg (show ¬ (40 : Int32) ≤ nI ln from nI_ge (b := 40) hn (by decide)), if_pos hx, if_pos hx, if_pos hx, tnI (by omega), nI_1]
    · unfold LR
      rw [e2]
      have hq := h.2
      rw [e1] at hq
      refine ⟨by rw [List.length_append]; simp; omega, fun i C hi => ?_⟩
      by_cases hi2 : i < X.length
      · rw [List.getElem?_append_left hi2] at hi
        obtain ⟨q1, q2, q3⟩ := hq i C hi
        rw [upd_o _ _ (by omega), upd_o _ _ (by omega), upd_o _ _ (by omega)]
        exact ⟨q1, q2, q3⟩
      · rw [List.getElem?_append_right (by omega)] at hi
        have hi3 : i - X.length = 0 := by
          have := (List.getElem?_eq_some_iff.mp hi).1
          simp at this
          omega
        rw [hi3] at hi
        obtain rfl : (v, a, b) = C := Option.some.inj hi
        obtain rfl : i = ln := by omega
        rw [upd_s, upd_s, upd_s]
        exact ⟨rfl, rfl, rfl⟩
  · have hn : ln = 40 := by omega
    refine ⟨ln, fs, ss, vs, ?_, h.cong ?_⟩
    · rw [hn, if_pos (show (40 : Int32) ≤ nI 40 by decide)]
    · rw [List.take_append_of_le_length (by omega)]
section REP
variable {N : Nat}
theorem k_repI {T : List Cmd} (r8 : Int32 → Int32 → Int32 → Int32 → Int32 → (Nat → Int32) → (Nat → Int32) → (Nat → Int32) → Option (Unit × Int32 × (Nat → Int32) × (Nat → Int32) × (Nat → Int32))) (l1 l2 l4 : Int32) :
    ∀ (d i fu : Nat) (X Y : List Cmd) (ln : Nat) (fs ss vs : Nat → Int32), i + d = (T.take 40).length → d < fu → X = T ++ Y → LR X ln fs ss vs → ∃ (ln' : Nat) (fs' ss' vs' : Nat → Int32), F_X6_repeatFrom_b17 r8 N fu l1 l2 (nI (T.take 40).length) l4 (nI i) (nI ln) fs ss vs = r8 l1 l2 (nI (T.take 40).length) (l4 + 1) (nI ln') fs' ss' vs' ∧ LR (X ++ (T.take 40).drop i) ln' fs' ss' vs' := by
  have h40 : (T.take 40).length ≤ 40 := by rw [List.length_take]; omega
  intro d
  induction d with
  | zero =>
    intro i fu X Y ln fs ss vs hi hf hX h
    obtain ⟨k, rfl⟩ : ∃ k, fu = k + 1 := ⟨fu - 1, by omega⟩
    refine ⟨ln, fs, ss, vs, ?_, ?_⟩
    · rw [F_X6_repeatFrom_b17, if_pos (nI_le (by omega) (by omega))]
    · rw [List.drop_eq_nil_of_le (by omega), List.append_nil]
      exact h
  | succ d ih =>
    intro i fu X Y ln fs ss vs hi hf hX h
    obtain ⟨k, rfl⟩ : ∃ k, fu = k + 1 := ⟨fu - 1, by omega⟩
    have hx : xin (nI i) 40 = true := xin_nI (by omega) (by decide)
    have hiT : i < (T.take 40).length := by omega
    obtain ⟨C, hC⟩ : ∃ C, (T.take 40)[i]? = some C := ⟨_, List.getElem?_eq_getElem hiT⟩
    have hXi : (X.take 40)[i]? = some C := by
      rw [hX, List.getElem?_take_of_lt (by omega)]
      rw [List.getElem?_take_of_lt (by omega)] at hC
      rw [List.getElem?_append_left (List.getElem?_eq_some_iff.mp hC).1]
      exact hC
    obtain ⟨q1, q2, q3⟩ := h.2 i C hXi
    obtain ⟨ln1, fs1, ss1, vs1, g1, g2⟩ := k_add6 (v := C.1) h C.2.1 C.2.2
    obtain ⟨ln2, fs2, ss2, vs2, g3, g4⟩ := ih (i + 1) k (X ++ [C]) (Y ++ [C]) ln1 fs1 ss1 vs1 (by omega) (by omega) (by rw [hX, List.append_assoc]) g2
    refine ⟨ln2, fs2, ss2, vs2, ?_, ?_⟩
    · rw [F_X6_repeatFrom_b17, if_neg (nI_ge (by omega) (by omega)), if_pos hx, if_pos hx, if_pos hx, tnI (by omega), q1, q2, q3, g1, Option.bind_some, nI_1]
      exact g3
    · have e : (T.take 40).drop i = C :: (T.take 40).drop (i + 1) := by
        rw [List.drop_eq_getElem_cons hiT]
        rw [List.getElem?_eq_getElem hiT] at hC
        rw [Option.some.inj hC]
      rw [e, show X ++ C :: (T.take 40).drop (i + 1) = X ++ [C] ++ (T.take 40).drop (i + 1) by simp]
      exact g4
theorem k_repO {A B : List Cmd} (hN : 1000 ≤ N) {n : Nat} (hn : n < 20) : ∀ (d t fu : Nat) (X Y : List Cmd) (ln : Nat) (fs ss vs : Nat → Int32), t + d = n + 1 → d < fu → X = A ++ B ++ Y → LR X ln fs ss vs → ∃ (ln' : Nat) (fs' ss' vs' : Nat → Int32), F_X6_repeatFrom_b8 N fu (nI (A.take 40).length) (nI (n + 1)) (nI ((A ++ B).take 40).length) (nI t) (nI ln) fs ss vs = some ((), nI ln', fs', ss', vs') ∧ LR (X ++ rp d B) ln' fs' ss' vs' := by
  intro d
  induction d with
  | zero =>
    intro t fu X Y ln fs ss vs hi hf hX h
    obtain ⟨k, rfl⟩ : ∃ k, fu = k + 1 := ⟨fu - 1, by omega⟩
    refine ⟨ln, fs, ss, vs, ?_, ?_⟩
    · rw [F_X6_repeatFrom_b8, if_pos (nI_le (by omega) (by omega))]
    · show LR (X ++ []) ln fs ss vs
      rw [List.append_nil]
      exact h
  | succ d ih =>
    intro t fu X Y ln fs ss vs hi hf hX h
    obtain ⟨k, rfl⟩ : ∃ k, fu = k + 1 := ⟨fu - 1, by omega⟩
    have hA : (A.take 40).length ≤ ((A ++ B).take 40).length := by rw [List.length_take, List.length_take, List.length_append]; omega
    have hAB : ((A ++ B).take 40).length ≤ 40 := by rw [List.length_take]; omega
    obtain ⟨ln1, fs1, ss1, vs1, g1, g2⟩ := k_repI (N := N) (T := A ++ B) (F_X6_repeatFrom_b8 N k) (nI (A.take 40).length) (nI (n + 1)) (nI t) (((A ++ B).take 40).length - (A.take 40).length) (A.take 40).length N X Y ln fs ss vs (by omega) (by omega) hX h
    have g2' : LR (X ++ B) ln1 fs1 ss1 vs1 := by
      refine g2.cong ?_
      by_cases h40 : (A ++ B).length ≤ 40
      · have hA40 : A.length ≤ 40 := by rw [List.length_append] at h40; omega
        rw [List.take_of_length_le h40, List.length_take, Nat.min_eq_right hA40, List.drop_left]
      · have hX40 : 40 ≤ X.length := by rw [hX, List.length_append]; omega
        rw [List.take_append_of_le_length hX40, List.take_append_of_le_length hX40]
    obtain ⟨ln2, fs2, ss2, vs2, g3, g4⟩ := ih (t + 1) k (X ++ B) (Y ++ B) ln1 fs1 ss1 vs1 (by omega) (by omega) (by rw [hX, List.append_assoc]) g2'
    refine ⟨ln2, fs2, ss2, vs2, ?_, ?_⟩
    · rw [F_X6_repeatFrom_b8, if_neg (nI_ge (by omega) (by omega)), g1, nI_1]
      exact g3
    · show LR (X ++ (B ++ rp d B)) ln2 fs2 ss2 vs2
      rw [← List.append_assoc]
      exact g4
theorem k_repeat {A B : List Cmd} (hN : 1000 ≤ N) {n ln : Nat} (hn : n < 20) {fs ss vs : Nat → Int32} (h : LR (A ++ B) ln fs ss vs) : ∃ (ln' : Nat) (fs' ss' vs' : Nat → Int32), F_X6_repeatFrom N (nI (A.take 40).length) (nI (n + 1)) (nI ln) fs ss vs = some ((), nI ln', fs', ss', vs') ∧ LR (A ++ rp (n + 1) B) ln' fs' ss' vs' := by
  obtain ⟨ln', fs', ss', vs', g1, g2⟩ := k_repO (N := N) (A := A) (B := B) hN hn n 1 N (A ++ B) [] ln fs ss vs (by omega) (by omega) (by rw [List.append_nil]) h
  refine ⟨ln', fs', ss', vs', ?_, ?_⟩
  · unfold F_X6_repeatFrom
    have e := h.1
    rw [← e] at g1
    exact g1
  · show LR (A ++ (B ++ rp n B)) ln' fs' ss' vs'
    rw [← List.append_assoc]
    exact g2
end REP
