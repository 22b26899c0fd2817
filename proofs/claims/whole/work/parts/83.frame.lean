/-! MACHINE: a contract over a larger world -/
section FRAME
variable {E : xE} {y : xM} {R : Room} {As : List Value}
theorem SpP.frame {Mc Rest M : va_W} {O' O : xO → Prop} (h : SpP E y R As Mc O') (hp : M.Perm (Mc ++ Rest)) (hr : ∀ v M', O' (.inl (v, M')) → ∃ M2, (M' ++ Rest).Perm M2 ∧ O (.inl (v, M2))) (hx : ∀ X M', O' (.inr (X, M')) → ∃ M2, (M' ++ Rest).Perm M2 ∧ O (.inr (X, M2))) : SpP E y R As M O := by
  intro l sz hl
  have hAM : ∀ q, va_A Mc sz q → va_A M sz q := by
    rintro q (⟨k, e, hk⟩ | hq)
    · have hm : (q, e) ∈ M := hp.mem_iff.mpr (List.mem_append_left _ (List.mem_of_getElem? hk))
      obtain ⟨i, hi⟩ := List.getElem?_of_mem hm
      exact Or.inl ⟨i, e, hi⟩
    · exact Or.inr hq
  refine MetFree.mono (h l sz hl) (fun a s q => ?_) (fun _ _ _ _ _ q => q) (fun a s o t hpre hq => ?_)
  · obtain ⟨q0, q1, qP, qK, qD, qG⟩ := q
    exact ⟨q0, q1, qP.perm (fun z hz => hp.mem_iff.mpr (List.mem_append_left _ hz)), qK, (qD.perm hp).subl (List.sublist_append_left _ _), qG.narrow hAM⟩
  · obtain ⟨q0, q1, qP, qK, qD, qG⟩ := hpre
    subst q1
    have hP' : va_P E.1 vwCl (Mc ++ Rest) s.heap := qP.perm (fun z hz => hp.mem_iff.mpr hz)
    have hD' : va_D (va_A M s.heap.size) (Mc ++ Rest) := (qD.self (sz := s.heap.size)).perm hp
    have hF' : va_F (va_A Mc s.heap.size) s t → va_F (va_A M s.heap.size) s t := fun hF => ⟨hF.1, fun q g1 g2 => hF.2 q g1 (fun w => g2 (hAM q w))⟩
    rcases hq with ⟨⟨v, M', ho, hoc, hP1, hD1, hF⟩, L, hL, hb⟩ | ⟨q, ho, X, ce, L, ⟨M', hX, hP1, hD1, hF⟩, r1, r2, r3, r4, r5, r6⟩
    · obtain ⟨M2, hm2, ho2⟩ := hr v M' ho
      obtain ⟨j1, j2⟩ := x_join2 hP' hD' (fun q g1 g2 => hF.2 q g1 g2) hAM hP1 hD1
      exact Or.inl ⟨⟨v, M2, ho2, hoc, j1.perm (fun z hz => hm2.mem_iff.mpr hz), j2.perm hm2, hF' hF⟩, L, hL, fun q hq => hAM _ (hb q hq)⟩
    · obtain ⟨M2, hm2, ho2⟩ := hx X M' hX
      obtain ⟨j1, j2⟩ := x_join2 hP' hD' (fun q g1 g2 => hF.2 q g1 g2) hAM hP1 hD1
      exact Or.inr ⟨q, ho, X, ce, L, ⟨M2, ho2, j1.perm (fun z hz => hm2.mem_iff.mpr hz), j2.perm hm2, hF' hF⟩, r1, r2, r3, r4, r5, fun z hz => hAM _ (r6 z hz)⟩
/-- houses behind a world -/
theorem perm_hx {X A B H : va_W} (h : X.Perm (A ++ B)) : (X ++ H).Perm ((A ++ H) ++ B) := by
  refine (h.append_right H).trans ?_
  rw [List.append_assoc, List.append_assoc]
  exact List.Perm.append_left A List.perm_append_comm
theorem perm_hr {X A B H : va_W} (h : X.Perm (A ++ B)) : (X ++ H).Perm (A ++ (B ++ H)) := by
  rw [← List.append_assoc]
  exact h.append_right H
end FRAME
