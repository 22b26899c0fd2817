/-! PURE: load -/
theorem it_upd (v : Nat → Int32) : ∀ (d i : Nat) (a : Nat → Int32) (j : Nat), it (fun k g => upd g k (v k)) i d a j = if i ≤ j ∧ j < i + d then v j else a j := by
  intro d
  induction d with
  | zero => intro i a j; rw [if_neg (by omega)]; rfl
  | succ d ih =>
    intro i a j
    show it (fun k g => upd g k (v k)) (i + 1) d (upd a i (v i)) j = _
    rw [ih (i + 1)]
    by_cases h : i + 1 ≤ j ∧ j < i + 1 + d
    · rw [if_pos h, if_pos (by omega)]
    · rw [if_neg h]
      by_cases hj : j = i
      · rw [hj, upd_s, if_pos (by omega)]
      · rw [upd_o _ _ hj, if_neg (by omega)]
theorem m_copies {N : Nat} (hN : 1000 ≤ N) (f g : Nat → Int32) : ∃ g', F_X12_copies N 130 130 0 0 f g = some ((), g') ∧ (∀ j, j < 130 → g' j = f j) ∧ (∀ j, 130 ≤ j → g' j = g j) := by
  refine ⟨it (fun k g => upd g k (f k)) 0 130 g, ?_, fun j hj => by rw [it_upd, if_pos (by omega)], fun j hj => by rw [it_upd, if_neg (by omega)]⟩
  unfold F_X12_copies
  refine lp_run (fun fu l a => F_X12_copies_b3 N 130 130 f fu 0 0 l a) 130 (fun k g => upd g k (f k)) (fun a => some ((), a)) (fun fu i a hi => ?_) (fun fu a => ?_) 130 0 N g rfl (by omega)
  · have hx : xin (0 + nI i) 130 = true := by rw [show (0 : Int32) + nI i = nI i by grind]; exact xin_nI hi (by decide)
    show F_X12_copies_b3 N 130 130 f (fu + 1) 0 0 (nI i) a = _
    rw [F_X12_copies_b3, if_neg (show ¬ (130 : Int32) ≤ nI i from nI_ge (b := 130) hi (by decide)), if_pos hx, if_pos hx, show (0 : Int32) + nI i = nI i by grind, tnI (by omega), nI_1]
  · show F_X12_copies_b3 N 130 130 f (fu + 1) 0 0 (nI 130) a = _
    rw [F_X12_copies_b3, if_pos (show (130 : Int32) ≤ nI 130 by decide)]
theorem m_takes {N L : Nat} (hN : 1000 ≤ N) (hL : L ≤ 800) (lim : Int32) (f g : Nat → Int32) : ∃ g', F_X12_takesText N (nI L) lim f g = some ((), 0, nI L, g') ∧ (∀ j, j < L → g' j = f j) := by
  refine ⟨it (fun k g => upd g k (f k)) 0 L g, ?_, fun j hj => by rw [it_upd, if_pos (by omega)]⟩
  unfold F_X12_takesText
  refine lp_run (fun fu l a => F_X12_takesText_b2 N f fu l (nI L) lim a) L (fun k g => upd g k (f k)) (fun a => some ((), 0, nI L, a)) (fun fu i a hi => ?_) (fun fu a => ?_) L 0 N g (by omega) (by omega)
  · have hx : xin (nI i) 800 = true := xin_nI (by omega) (by decide)
    show F_X12_takesText_b2 N f (fu + 1) (nI i) (nI L) lim a = _
    rw [F_X12_takesText_b2, if_neg (show ¬ nI L ≤ nI i from nI_ge hi (by omega)), if_pos hx, if_pos hx, tnI (by omega), nI_1]
  · show F_X12_takesText_b2 N f (fu + 1) (nI L) (nI L) lim a = _
    rw [F_X12_takesText_b2, if_pos (show nI L ≤ nI L from nI_le (Nat.le_refl _) (by omega))]
/-- the text of the class and the model's: one run of bytes -/
def tC (L : Nat) (b : Nat → Int32) : Nat → Int32 := fun i => if i < L then b i else -1
theorem tC_TX {L : Nat} {b t : Nat → Int32} (hL : L ≤ 800) (h : ∀ i, i < L → t i = b i) : TX L t (tC L b) := ⟨hL, fun i hi => by unfold tC; rw [if_pos hi, h i hi], fun i hi => by unfold tC; rw [if_neg (by omega)]⟩
/-- the model's load, given what its setup comes to -/
theorem m_loadF {N L : Nat} {c : Nat → Int32} (hN : 1000 ≤ N) (hL : L ≤ 800) (buf text s aside : Nat → Int32) (hc : ∀ i, i < L → c i = buf i) (hc' : ∀ i, L ≤ i → c i = -1) (ba nb0 : Int32) (wd0 : Int64) :
    ∃ (t' a' s0 : Nat → Int32) (nb : Int32) (wd : Int64), TX L t' c ∧ (∀ j, j < 130 → a' j = s j) ∧ (∀ j, j < 130 → s0 j = 0) ∧ MW c 0 nb wd ∧
      ∀ (P : Option (Unit × Int32 × Int32 × Int32 × Int32 × Int32 × Int32 × Int64 × (Nat → Int32))), F_X12_setup N (nI (tE c 0)) 0 ba (nI (tQ c 0)) (nI L) nb (tK c 0) wd s0 t' = P → ∀ at0 bad0 bg0 ec ep lim th tk ud kept,
        F_X12_load N at0 bad0 ba bg0 (nI L) ec ep lim nb0 th tk ud wd0 aside buf kept s text = P.bind fun x7 => ((F_X12_tellsError x7.2.2.1 x7.2.2.2.1 ec ep).bind fun x9 => (if x7.2.2.1 = 0 then ((F_X12_damps N x7.2.2.2.2.2.2.2.2).bind fun x11 => some (0, x7.2.1, x7.2.2.1, x7.2.2.2.1, x7.2.2.2.2.1, 0, x9.2.1, x9.2.2, nI L, x7.2.2.2.2.2.1, 0, x7.2.2.2.2.2.2.1, 0, x7.2.2.2.2.2.2.2.1, a', (upd (upd kept (Int32.toNatClampNeg 0) 0) (Int32.toNatClampNeg 1) 0), (upd x11.2 (Int32.toNatClampNeg 12) 0), t')) else ((F_X12_copies N 130 130 0 0 a' x7.2.2.2.2.2.2.2.2).bind fun x13 => some (x7.2.2.1, x7.2.1, x7.2.2.1, x7.2.2.2.1, x7.2.2.2.2.1, 0, x9.2.1, x9.2.2, nI L, x7.2.2.2.2.2.1, 0, x7.2.2.2.2.2.2.1, ud, x7.2.2.2.2.2.2.2.1, a', kept, x13.2, t')))) := by
  obtain ⟨a', ga, ha, -⟩ := m_copies hN s aside
  have gt := fun lim => m_takes hN hL lim buf text
  obtain ⟨t', gt0, ht⟩ := m_takes hN hL 0 buf text
  have hT : TX L t' c := ⟨hL, fun i hi => by rw [hc i hi, ht i hi], hc'⟩
  refine ⟨t', a', it (fun k g => upd g k 0) 0 130 s, if tK c 0 = 2 then tN c 0 else nb0, if tK c 0 = 1 then tW c 0 else wd0, hT, ha, fun j hj => by rw [it_upd (fun _ => 0), if_pos (by omega)], ⟨fun q => by rw [if_pos q], fun q => by rw [if_pos q]⟩, ?_⟩
  intro P hP at0 bad0 bg0 ec ep lim th tk ud kept
  have gtl : F_X12_takesText N (nI L) lim buf text = some ((), 0, nI L, t') := by
    have e : ∀ l, F_X12_takesText N (nI L) l buf text = some ((), 0, nI L, it (fun k g => upd g k (buf k)) 0 L text) := by
      intro l
      unfold F_X12_takesText
      refine lp_run (fun fu l' a => F_X12_takesText_b2 N buf fu l' (nI L) l a) L (fun k g => upd g k (buf k)) (fun a => some ((), 0, nI L, a)) (fun fu i a hi => ?_) (fun fu a => ?_) L 0 N text (by omega) (by omega)
      · have hx : xin (nI i) 800 = true := xin_nI (by omega) (by decide)
        show F_X12_takesText_b2 N buf (fu + 1) (nI i) (nI L) l a = _
        rw [F_X12_takesText_b2, if_neg (show ¬ nI L ≤ nI i from nI_ge hi (by omega)), if_pos hx, if_pos hx, tnI (by omega), nI_1]
      · show F_X12_takesText_b2 N buf (fu + 1) (nI L) (nI L) l a = _
        rw [F_X12_takesText_b2, if_pos (show nI L ≤ nI L from nI_le (Nat.le_refl _) (by omega))]
    rw [e 0] at gt0
    rw [e lim, ← gt0]
  have gs := m_scan (p := 0) hN hT (Nat.zero_le _) bg0 nb0 tk wd0
  unfold F_X12_load
  rw [gtl, Option.bind_some, ga, Option.bind_some]
  refine (lp_run (fun fu l a => F_X12_load_b24 N fu l at0 bad0 ba bg0 0 ec ep (nI L) nb0 0 tk ud wd0 a' kept a t') 130 (fun k g => upd g k 0) (fun a => F_X12_load_b24 N 1 130 at0 bad0 ba bg0 0 ec ep (nI L) nb0 0 tk ud wd0 a' kept a t') (fun fu i a hi => ?_) (fun fu a => ?_) 130 0 N s rfl (by omega)).trans ?_
  · have hx : xin (nI i) 130 = true := xin_nI hi (by decide)
    show F_X12_load_b24 N (fu + 1) (nI i) at0 bad0 ba bg0 0 ec ep (nI L) nb0 0 tk ud wd0 a' kept a t' = _
    rw [F_X12_load_b24, if_neg (show ¬ (130 : Int32) ≤ nI i from nI_ge (b := 130) hi (by decide)), if_pos hx, tnI (by omega), nI_1]
  · show F_X12_load_b24 N (fu + 1) (nI 130) at0 bad0 ba bg0 0 ec ep (nI L) nb0 0 tk ud wd0 a' kept a t' = F_X12_load_b24 N (0 + 1) (nI 130) at0 bad0 ba bg0 0 ec ep (nI L) nb0 0 tk ud wd0 a' kept a t'
    rw [F_X12_load_b24, F_X12_load_b24, if_pos (show (130 : Int32) ≤ nI 130 by decide), if_pos (show (130 : Int32) ≤ nI 130 by decide)]
  · show F_X12_load_b24 N (0 + 1) (nI 130) at0 bad0 ba bg0 0 ec ep (nI L) nb0 0 tk ud wd0 a' kept (it (fun k g => upd g k 0) 0 130 s) t' = _
    have gs' : F_X12_scan N 0 bg0 (nI L) nb0 tk wd0 t' = _ := gs
    rw [F_X12_load_b24, if_pos (show (130 : Int32) ≤ nI 130 by decide)]
    unfold F_X12_starts
    rw [gs', Option.bind_some, Option.bind_some]
    dsimp only
    rw [hP]
