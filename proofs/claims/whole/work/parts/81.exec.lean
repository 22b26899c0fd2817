/-! PURE: a script is executed, both sides -/
theorem ExR_over {N : Nat} : ∀ (A R : List Cmd) (s w : Nat → Int32) (k : Nat) (s' w' : Nat → Int32) (k' : Nat), ExR N A s w k s' w' k' true → ExR N (A ++ R) s w k s' w' k' true := by
  intro A
  induction A with
  | nil => intro R s w k s' w' k' h; obtain ⟨-, -, -, h⟩ := h; cases h
  | cons C A ih =>
    intro R s w k s' w' k' h
    obtain ⟨is, s1, w1, hM, h⟩ := h
    refine ⟨is, s1, w1, hM, ?_⟩
    rcases h with ⟨h1, h2, h3⟩ | h
    · exact Or.inl ⟨h1, h2, ih R _ _ _ _ _ _ h3⟩
    · exact Or.inr h
theorem ExR_40 {N : Nat} : ∀ (A : List Cmd) (s w : Nat → Int32) (k : Nat) (s' w' : Nat → Int32) (k' : Nat) (ov : Bool), ExR N A s w k s' w' k' ov → k < 40 → 40 ≤ k + A.length → ov = true := by
  intro A
  induction A with
  | nil => intro s w k s' w' k' ov _ hk h; simp at h; omega
  | cons C A ih =>
    intro s w k s' w' k' ov h hk hl
    obtain ⟨is, s1, w1, hM, h⟩ := h
    rcases h with ⟨h1, h2, h3⟩ | ⟨-, -, -, -, h5⟩
    · exact ih _ _ _ _ _ _ _ h3 h2 (by rw [List.length_cons] at hl; omega)
    · exact h5
/-- the first forty commands decide -/
theorem ExR_take {N : Nat} {B : List Cmd} {s w s' w' : Nat → Int32} {k' : Nat} {ov : Bool} (h : ExR N (B.take 40) s w 0 s' w' k' ov) : ExR N B s w 0 s' w' k' ov := by
  by_cases hB : B.length ≤ 40
  · rw [List.take_of_length_le hB] at h; exact h
  · obtain rfl := ExR_40 _ _ _ _ _ _ _ _ h (by decide) (by rw [List.length_take]; omega)
    have := ExR_over (B.take 40) (B.drop 40) _ _ _ _ _ _ h
    rw [List.take_append_drop] at this
    exact this
section EXEC
variable {N nf ln : Nat} {T : List Cmd} {fs ss vs : Nat → Int32}
theorem p_exec (hN : 1000 ≤ N) (hT : T.length ≤ 40) (hR0 : LR0 T ln fs ss vs) (hVd : ∀ C ∈ T, Vd C) (hc hf cm dp tl z e kd ps st : Int32) (sa ti : Nat → Int32) : ∀ (l : List Cmd) (i ns : Nat) (f : Nat → Nat → Int32) (s t w : Nat → Int32), (∃ pre, T = pre ++ l ∧ pre.length = i) → RQ nf ns f s →
    ∃ (k' ns' : Nat) (f' : Nat → Nat → Int32) (s' t' w' : Nat → Int32) (ov : Bool), ExR N l s w i s' w' k' ov ∧ RQ nf ns' f' s' ∧ s' 6 = s 6 ∧ f' 0 = f 0 ∧ ∀ fu, l.length < fu →
      F_X11_runScript_b40 N (s 6) (f 0) fu (nI i) hc hf (s 12) (s 1) (s 8) (s 0) (s 13) (s 2) (s 5) (s 3) (s 4) (f 1) (f 2) (f 3) (s 10) (s 7) (s 11) (s 9) (f 5) (f 6) (f 7) (f 4) (f 8) t (nI ln) fs ss vs cm dp sa ti tl z e kd ps st 1 =
        some (nI k', hc, hf, s' 12, s' 1, s' 8, s' 0, s' 13, s' 2, s' 5, s' 3, s' 4, f' 1, f' 2, f' 3, s' 10, s' 7, s' 11, s' 9, f' 5, f' 6, f' 7, f' 4, f' 8, t', nI ln, fs, ss, vs, cm, dp, sa, ti, tl, z, e, kd, ps, st, 1) := by
  have hln : ln ≤ 40 := by rw [hR0.1]; exact hT
  intro l
  induction l with
  | nil =>
    intro i ns f s t w hpre hQ
    obtain ⟨pre, h1, h2⟩ := hpre
    rw [List.append_nil] at h1
    refine ⟨i, ns, f, s, t, w, false, ⟨rfl, rfl, rfl, rfl⟩, hQ, rfl, rfl, fun fu hf => ?_⟩
    obtain ⟨k, rfl⟩ : ∃ k, fu = k + 1 := ⟨fu - 1, by omega⟩
    have hle : nI ln ≤ nI i := nI_le (by rw [hR0.1, h1, h2]; exact Nat.le_refl _) (by rw [h1, h2] at hT; omega)
    rw [F_X11_runScript_b40, if_pos hle]
    rfl
  | cons C l ih =>
    intro i ns f s t w hpre hQ
    obtain ⟨pre, h1, h2⟩ := hpre
    have hil : i < ln := by rw [hR0.1, h1, List.length_append, List.length_cons]; omega
    have hTi : T[i]? = some C := by rw [h1, List.getElem?_append_right (by omega), h2, Nat.sub_self]; rfl
    obtain ⟨is, ns2, f2, s2, t2, w2, g1, g2, g3, g4⟩ := p_onec (t := t) (w := w) hN hQ hil hln (hR0.2 i C hTi) (hVd C (List.mem_of_getElem? hTi))
    rw [(hR0.2 i C hTi).2.1, (hR0.2 i C hTi).2.2] at g1
    have hle : ¬ nI ln ≤ nI i := nI_ge hil (by omega)
    cases is with
    | false =>
      obtain ⟨rfl, rfl⟩ := g3 rfl
      refine ⟨i, ns, f, s2, t, w2, true, ⟨false, _, _, g1, Or.inr ⟨(fun q => by cases q.1), rfl, rfl, rfl, rfl⟩⟩, hQ, rfl, rfl, fun fu hf => ?_⟩
      obtain ⟨k, rfl⟩ : ∃ k, fu = k + 1 := ⟨fu - 1, by omega⟩
      rw [F_X11_runScript_b40, if_neg hle, g2, Option.bind_some, if_pos (show cI false = 0 from rfl)]
      rfl
    | true =>
      obtain ⟨q1, q2, q3, q4⟩ := g4 rfl
      have hstep : ∀ k, F_X11_runScript_b40 N (s 6) (f 0) (k + 1) (nI i) hc hf (s 12) (s 1) (s 8) (s 0) (s 13) (s 2) (s 5) (s 3) (s 4) (f 1) (f 2) (f 3) (s 10) (s 7) (s 11) (s 9) (f 5) (f 6) (f 7) (f 4) (f 8) t (nI ln) fs ss vs cm dp sa ti tl z e kd ps st 1 = F_X11_runScript_b40 N (s2 6) (f2 0) k (nI (i + 1)) hc hf (s2 12) (s2 1) (s2 8) (s2 0) (s2 13) (s2 2) (s2 5) (s2 3) (s2 4) (f2 1) (f2 2) (f2 3) (s2 10) (s2 7) (s2 11) (s2 9) (f2 5) (f2 6) (f2 7) (f2 4) (f2 8) t2 (nI ln) fs ss vs cm dp sa ti tl z e kd ps st 1 := by
        intro k
        rw [F_X11_runScript_b40, if_neg hle, g2, Option.bind_some, if_neg (show ¬ cI true = 0 by decide), q4, Option.bind_some, nI_1, q2, q3]
      obtain ⟨k', ns', f', s', t', w', ov, e1, e2, e3, e4, e5⟩ := ih (i + 1) ns2 f2 s2 t2 w2 ⟨pre ++ [C], by rw [h1]; simp, by rw [List.length_append]; simp; omega⟩ q1
      by_cases h40 : i + 1 < 40
      · refine ⟨k', ns', f', s', t', w', ov, ⟨true, _, _, g1, Or.inl ⟨rfl, h40, e1⟩⟩, e2, e3.trans q2, e4.trans q3, fun fu hf => ?_⟩
        obtain ⟨k, rfl⟩ : ∃ k, fu = k + 1 := ⟨fu - 1, by omega⟩
        rw [hstep]
        exact e5 k (by rw [List.length_cons] at hf; omega)
      · have hl0 : l = [] := by
          have : T.length = i + (l.length + 1) := by rw [h1, List.length_append, List.length_cons, h2]
          exact List.eq_nil_of_length_eq_zero (by omega)
        subst hl0
        obtain ⟨rfl, rfl, rfl, rfl⟩ := e1
        refine ⟨i + 1, ns', f', s', t', w', true, ⟨true, _, _, g1, Or.inr ⟨(fun q => h40 q.2), rfl, rfl, rfl, rfl⟩⟩, e2, e3.trans q2, e4.trans q3, fun fu hf => ?_⟩
        obtain ⟨k, rfl⟩ : ∃ k, fu = k + 1 := ⟨fu - 1, by omega⟩
        rw [hstep]
        exact e5 k (by rw [List.length_cons] at hf; omega)
end EXEC
