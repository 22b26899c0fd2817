/-! PURE: a mean is a number -/
theorem fp64a : (List.range 3201).all (fun k => xnn64 (FP.ddiv (FP.i2d (nI k)) (FP.i2d (nI 1))) && xnn64 (FP.ddiv (FP.i2d (nI k)) (FP.i2d (nI 2))) && xnn64 (FP.ddiv (FP.i2d (nI k)) (FP.i2d (nI 3))) && xnn64 (FP.ddiv (FP.i2d (nI k)) (FP.i2d (nI 4)))) = true := by decide +kernel
theorem fp64 {k m : Nat} (hk : k ≤ 3200) (hm : m ≤ 4) (h1 : 1 ≤ m) : xnn64 (FP.ddiv (FP.i2d (nI k)) (FP.i2d (nI m))) = true := by
  have h := List.all_eq_true.mp fp64a k (List.mem_range.mpr (by omega))
  rw [Bool.and_eq_true, Bool.and_eq_true, Bool.and_eq_true] at h
  obtain ⟨⟨⟨a1, a2⟩, a3⟩, a4⟩ := h
  match m, h1, hm with
  | 1, _, _ => exact a1
  | 2, _, _ => exact a2
  | 3, _, _ => exact a3
  | 4, _, _ => exact a4
theorem p_mean {N nf ns : Nat} {f : Nat → Nat → Int32} {s : Nat → Int32} (hN : 1000 ≤ N) (hR : RH nf ns f s) (th : Int32) : ∃ v, F_X11_meanMoisture N (s 6) (f 1) (f 2) = some v ∧ F_X12_meanMoisture N th s = some (v, 0) := by
  obtain ⟨⟨h6, hn1, hn4⟩, -, -, -, hF, -⟩ := id hR
  rw [m_mo hN hR, k_mean hN hR]
  have hc := cT_le (f 1) nf
  by_cases q : nI (cT (f 1) nf) = 0
  · rw [if_pos q, if_pos q]; exact ⟨0, rfl, rfl⟩
  · rw [if_neg q, if_neg q]
    obtain ⟨k, hk, e⟩ := pMo_r hn4 hF nf (Nat.le_refl _)
    have h0 : 1 ≤ cT (f 1) nf := by
      refine Nat.pos_of_ne_zero fun z => q ?_
      rw [z]; rfl
    rw [e, if_pos (fp64 (by omega) (by omega) h0), if_pos (fp64 (by omega) (by omega) h0)]
    exact ⟨_, rfl, rfl⟩
