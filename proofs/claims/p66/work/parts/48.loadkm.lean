/-! PURE: load, class and model -/
def fCp (f g : Nat → Nat → Int32) : Nat → Nat → Int32
  | 0 => va_cpy (f 0) (g 0) 0 0 4
  | 1 => va_cpy (f 1) (g 1) 0 0 4
  | 2 => va_cpy (f 2) (g 2) 0 0 4
  | 3 => va_cpy (f 3) (g 3) 0 0 4
  | n + 4 => va_cpy (f (n + 4)) (g (n + 4)) 0 0 20
theorem cpy_in {f g : Nat → Int32} {n j : Nat} (h : j < n) : va_cpy f g 0 0 n j = f j := by unfold va_cpy; rw [if_pos (by omega), show 0 + (j - 0) = j by omega]
theorem fCp_f {f g : Nat → Nat → Int32} {r j : Nat} (h : j < 4) : fCp f g r j = f r j := by
  match r with
  | 0 => exact cpy_in h
  | 1 => exact cpy_in h
  | 2 => exact cpy_in h
  | 3 => exact cpy_in h
  | k + 4 => exact cpy_in (by omega)
theorem fCp_s {f g : Nat → Nat → Int32} {r j : Nat} (h : j < 20) : fCp f g (r + 4) j = f (r + 4) j := cpy_in h
theorem RF.congp {nf : Nat} {f f' : Nat → Nat → Int32} {s s' : Nat → Int32} (h : RF nf f s) (hnf : nf ≤ 4) (hs : ∀ j, 14 ≤ j → j < 30 → s' j = s j) (hf : ∀ r j, r < 4 → j < 4 → f' r j = f r j) : RF nf f' s' := fun i hi => by
  have q := h i hi
  rw [hs _ (by omega) (by omega), hs _ (by omega) (by omega), hs _ (by omega) (by omega), hs _ (by omega) (by omega), hf 0 i (by decide) (by omega), hf 1 i (by decide) (by omega), hf 2 i (by decide) (by omega), hf 3 i (by decide) (by omega)]
  exact q
theorem RS.congp {ns : Nat} {f f' : Nat → Nat → Int32} {s s' : Nat → Int32} (h : RS ns f s) (hns : ns ≤ 20) (hs : ∀ j, 30 ≤ j → j < 130 → s' j = s j) (hf : ∀ r j, 4 ≤ r → r < 9 → j < 20 → f' r j = f r j) : RS ns f' s' := fun k hk => by
  have q := h k hk
  rw [hs _ (by omega) (by omega), hs _ (by omega) (by omega), hs _ (by omega) (by omega), hs _ (by omega) (by omega), hs _ (by omega) (by omega), hf 4 k (by decide) (by decide) (by omega), hf 5 k (by decide) (by decide) (by omega), hf 6 k (by decide) (by decide) (by omega), hf 7 k (by decide) (by decide) (by omega), hf 8 k (by decide) (by decide) (by omega)]
  exact q
/-- a house and its vector: what two of them that agree on 130 places have in common -/
theorem RH.congp {nf ns : Nat} {f f' : Nat → Nat → Int32} {s s' : Nat → Int32} (h : RH nf ns f s) (hs : ∀ j, j < 130 → s' j = s j) (hf : ∀ r j, r < 4 → j < 4 → f' r j = f r j) (hf' : ∀ r j, 4 ≤ r → r < 9 → j < 20 → f' r j = f r j) : RH nf ns f' s' := by
  obtain ⟨⟨h6, hn1, hn4⟩, ⟨h7, hns⟩, hh, hA, hF, hS⟩ := h
  exact ⟨⟨(hs 6 (by decide)).trans h6, hn1, hn4⟩, ⟨(hs 7 (by decide)).trans h7, hns⟩, by rw [hs 1 (by decide)]; exact hh, hA.cong (hs 2 (by decide)) (hs 3 (by decide)) (hs 4 (by decide)) (hs 5 (by decide)), hF.congp hn4 (fun j _ h30 => hs j (by omega)) hf, hS.congp hns (fun j _ h => hs j h) hf'⟩
def qNew (q : Nat → Int32) (H lm ge va wi sg cn : Int32) : Nat → Int32 := fun j => if j = 12 then 0 else if j = 1 then H else if j = 8 then lm else if j = 2 then ge else if j = 5 then va else if j = 3 then wi else if j = 4 then sg else if j = 6 then cn else q j
def dNew (d e : Nat → Nat → Int32) : Nat → Nat → Int32
  | 0 => e 0
  | 1 => e 1
  | 2 => e 2
  | 3 => e 3
  | n + 4 => d (n + 4)
theorem k_loadF {N : Nat} {q s : Nat → Int32} {d f e : Nat → Nat → Int32} {hc hf tl z0 e0 k0 p0 a0 z ze zk zp zs H lm ge va wi sg cn : Int32} {b : Nat → Int32}
    (hR : F_X8_read N (q 12) (q 1) (q 8) (q 2) (q 5) (q 3) (q 4) (q 6) (d 0) (d 1) (d 2) (d 3) z0 e0 k0 p0 a0 tl b = some ((), 0, H, lm, ge, va, wi, sg, cn, e 0, e 1, e 2, e 3, z, ze, zk, zp, zs)) :
    F_X11_load N (q 12) (q 1) (q 8) (q 0) (q 13) (q 2) (q 5) (q 3) (q 4) (q 6) (d 0) (d 1) (d 2) (d 3) (q 10) (q 7) (q 11) (q 9) (d 5) (d 6) (d 7) (d 4) (d 8) hc hf (s 12) (s 1) (s 8) (s 0) (s 13) (s 2) (s 5) (s 3) (s 4) (s 6) (f 0) (f 1) (f 2) (f 3) (s 10) (s 7) (s 11) (s 9) (f 5) (f 6) (f 7) (f 4) (f 8) tl b z0 e0 k0 p0 a0 = if z = 0 then some (z, qNew q H lm ge va wi sg cn 12, qNew q H lm ge va wi sg cn 1, qNew q H lm ge va wi sg cn 8, qNew q H lm ge va wi sg cn 2, qNew q H lm ge va wi sg cn 5, qNew q H lm ge va wi sg cn 3, qNew q H lm ge va wi sg cn 4, qNew q H lm ge va wi sg cn 6, dNew d e 0, dNew d e 1, dNew d e 2, dNew d e 3, 0, (qNew q H lm ge va wi sg cn) 12, (qNew q H lm ge va wi sg cn) 1, (qNew q H lm ge va wi sg cn) 8, (qNew q H lm ge va wi sg cn) 0, (qNew q H lm ge va wi sg cn) 13, (qNew q H lm ge va wi sg cn) 2, (qNew q H lm ge va wi sg cn) 5, (qNew q H lm ge va wi sg cn) 3, (qNew q H lm ge va wi sg cn) 4, (qNew q H lm ge va wi sg cn) 6, fCp (dNew d e) f 0, fCp (dNew d e) f 1, fCp (dNew d e) f 2, fCp (dNew d e) f 3, (qNew q H lm ge va wi sg cn) 10, (qNew q H lm ge va wi sg cn) 7, (qNew q H lm ge va wi sg cn) 11, (qNew q H lm ge va wi sg cn) 9, fCp (dNew d e) f 5, fCp (dNew d e) f 6, fCp (dNew d e) f 7, fCp (dNew d e) f 4, fCp (dNew d e) f 8, 0, z, ze, zk, zp, zs, 3) else some (z, qNew q H lm ge va wi sg cn 12, qNew q H lm ge va wi sg cn 1, qNew q H lm ge va wi sg cn 8, qNew q H lm ge va wi sg cn 2, qNew q H lm ge va wi sg cn 5, qNew q H lm ge va wi sg cn 3, qNew q H lm ge va wi sg cn 4, qNew q H lm ge va wi sg cn 6, dNew d e 0, dNew d e 1, dNew d e 2, dNew d e 3, hc, s 12, s 1, s 8, s 0, s 13, s 2, s 5, s 3, s 4, s 6, f 0, f 1, f 2, f 3, s 10, s 7, s 11, s 9, f 5, f 6, f 7, f 4, f 8, 0, z, ze, zk, zp, zs, 0) := by
  unfold F_X11_load F_X11_beginHouse
  rw [hR, Option.bind_some]
  dsimp only
  unfold F_X10_sound
  by_cases hz : z = 0
  · rw [if_pos hz, if_pos hz, Option.bind_some, if_neg (by decide)]
    unfold F_X3_copyFrom F_X0_copyFrom F_X1_copyFrom F_X5_copyFrom F_X2_forgetChanges
    rw [Option.bind_some, Option.bind_some, Option.bind_some, Option.bind_some, Option.bind_some, Option.bind_some]
    rfl
  · rw [if_neg hz, if_neg hz, Option.bind_some, if_pos rfl, Option.bind_some]
    rfl
