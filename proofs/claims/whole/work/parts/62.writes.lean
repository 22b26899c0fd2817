/-! PURE: writeSacks -/
def uMk (f : Nat → Nat → Int32) (k : Nat) (r : TB) : TB := if f 4 k = 0 ∧ f 6 k < 60 ∧ 50 ≤ f 8 k then w1 42 r else if f 4 k = 1 then w1 36 r else if f 4 k = 2 then w1 35 r else r
def uSt (f : Nat → Nat → Int32) (k : Nat) (p : TB) : TB := uMk f k (wN (f 5 k) (if k = 0 then p else w1 32 p))
def uFs (f : Nat → Nat → Int32) (p : TB) : Nat → TB
  | 0 => p
  | i + 1 => uSt f i (uFs f p i)
theorem wN_len2 {x : Int32} (hx : x ≤ 99) (p : TB) : (wN x p).1 ≤ p.1 + 2 := by
  unfold wN
  rw [if_pos (show x < 100 by grind)]
  by_cases c : x < 10
  · rw [if_pos c]; exact show p.1 + 1 ≤ p.1 + 2 by omega
  · rw [if_neg c]; exact show p.1 + 1 + 1 ≤ p.1 + 2 by omega
theorem uMk_len (f : Nat → Nat → Int32) (k : Nat) (r : TB) : r.1 ≤ (uMk f k r).1 ∧ (uMk f k r).1 ≤ r.1 + 1 := by
  unfold uMk
  by_cases c : f 4 k = 0 ∧ f 6 k < 60 ∧ 50 ≤ f 8 k
  · rw [if_pos c]; exact ⟨show r.1 ≤ r.1 + 1 by omega, Nat.le_refl _⟩
  · rw [if_neg c]
    by_cases d : f 4 k = 1
    · rw [if_pos d]; exact ⟨show r.1 ≤ r.1 + 1 by omega, Nat.le_refl _⟩
    · rw [if_neg d]
      by_cases e : f 4 k = 2
      · rw [if_pos e]; exact ⟨show r.1 ≤ r.1 + 1 by omega, Nat.le_refl _⟩
      · rw [if_neg e]; exact ⟨Nat.le_refl _, by omega⟩
theorem uFs_len {ns : Nat} {f : Nat → Nat → Int32} {s : Nat → Int32} (hS : RS ns f s) (p : TB) (hp : p.1 = 0) : ∀ i, i ≤ ns → i ≤ (uFs f p i).1 ∧ (uFs f p i).1 ≤ 4 * i := by
  intro i
  induction i with
  | zero => intro _; show 0 ≤ p.1 ∧ p.1 ≤ 4 * 0; omega
  | succ i ih =>
    intro hi
    have h0 := ih (by omega)
    have h1 := wSp_len i (uFs f p i)
    have h2 := wN_len (f 5 i) (if i = 0 then uFs f p i else w1 32 (uFs f p i))
    have h3 := wN_len2 (hS i (by omega)).2.1.2.2 (if i = 0 then uFs f p i else w1 32 (uFs f p i))
    have h4 := uMk_len f i (wN (f 5 i) (if i = 0 then uFs f p i else w1 32 (uFs f p i)))
    show i + 1 ≤ (uMk f i (wN (f 5 i) (if i = 0 then uFs f p i else w1 32 (uFs f p i)))).1 ∧ (uMk f i (wN (f 5 i) (if i = 0 then uFs f p i else w1 32 (uFs f p i)))).1 ≤ 4 * (i + 1)
    omega
theorem uFs_TA {f : Nat → Nat → Int32} {p q : TB} (h : TA p q) : ∀ i, TA (uFs f p i) (uFs f q i) := by
  intro i
  induction i with
  | zero => exact h
  | succ i ih =>
    have h1 : TA (if i = 0 then uFs f p i else w1 32 (uFs f p i)) (if i = 0 then uFs f q i else w1 32 (uFs f q i)) := by
      by_cases c : i = 0
      · rw [if_pos c, if_pos c]; exact ih
      · rw [if_neg c, if_neg c]; exact ih.w _
    have h2 := h1.n (f 5 i)
    show TA (uMk f i _) (uMk f i _)
    unfold uMk
    by_cases c : f 4 i = 0 ∧ f 6 i < 60 ∧ 50 ≤ f 8 i
    · rw [if_pos c, if_pos c]; exact h2.w _
    · rw [if_neg c, if_neg c]
      by_cases d : f 4 i = 1
      · rw [if_pos d, if_pos d]; exact h2.w _
      · rw [if_neg d, if_neg d]
        by_cases e : f 4 i = 2
        · rw [if_pos e, if_pos e]; exact h2.w _
        · rw [if_neg e, if_neg e]; exact h2
theorem p_writeSacks {N nf ns : Nat} {f : Nat → Nat → Int32} {s : Nat → Int32} (hN : 1000 ≤ N) (hR : RH nf ns f s) (b b' : Nat → Int32) (l l' th : Int32) :
    ∃ p q : TB, TA p q ∧ p.1 ≤ 100 ∧ F_X11_writeSacks N (s 7) (f 5) (f 6) (f 4) (f 8) l b = some (nI p.1, nI p.1, p.2) ∧ F_X12_writeSacks N th l' s b' = some (nI p.1, 0, nI q.1, q.2) := by
  obtain ⟨-, ⟨h7, hns⟩, -, -, -, hS⟩ := id hR
  have hT := uFs_TA (f := f) (p := (0, b)) (q := (0, b')) ⟨rfl, fun i (hi : i < 0) => by omega⟩
  refine ⟨uFs f (0, b) ns, uFs f (0, b') ns, hT ns, by have := (uFs_len hS (0, b) rfl ns (Nat.le_refl _)).2; omega, ?_, ?_⟩
  · unfold F_X11_writeSacks
    rw [h7]
    refine lp_seq (L := fun fu i => F_X11_writeSacks_b10 N (nI ns) (f 5) (f 6) (f 4) (f 8) fu (nI i) (nI (uFs f (0, b) i).1) (uFs f (0, b) i).2) (n := ns) (fun fu i hi => ?_) (fun fu => ?_) ns 0 N (by omega) (by omega)
    · show F_X11_writeSacks_b10 N (nI ns) (f 5) (f 6) (f 4) (f 8) (fu + 1) (nI i) (nI (uFs f (0, b) i).1) (uFs f (0, b) i).2 = F_X11_writeSacks_b10 N (nI ns) (f 5) (f 6) (f 4) (f 8) fu (nI (i + 1)) (nI (uSt f i (uFs f (0, b) i)).1) (uSt f i (uFs f (0, b) i)).2
      have hlen := uFs_len hS (0, b) rfl i (by omega)
      revert hlen
      generalize uFs f (0, b) i = p
      intro hlen
      have a := wSp_len i p
      have bb := wN_len2 (hS i hi).2.1.2.2 (if i = 0 then p else w1 32 p)
      have hx : xin (nI i) 20 = true := xin_nI (by omega) (by decide)
      have es : F_X4_separate (nI p.1) p.2 = some ((), nI (if i = 0 then p else w1 32 p).1, (if i = 0 then p else w1 32 p).2) := by
        unfold F_X4_separate
        by_cases c : i = 0
        · have : p.1 = 0 := by omega
          rw [if_pos (by rw [this]; decide), if_pos c]
        · rw [if_neg (show ¬ nI p.1 ≤ 0 from nI_ge (a := 0) (by omega) (by omega)), if_neg c, k_add1 (by omega), Option.bind_some]
      rw [F_X11_writeSacks_b10, if_neg (nI_ge hi (by omega)), es, Option.bind_some, if_pos hx, tnI (by omega)]
      dsimp only
      rw [k_addN _ _ (by omega), Option.bind_some, k_smo hns hi, Option.bind_some]
      dsimp only
      unfold F_X11_writeSacks_b129 uSt uMk
      by_cases c : f 4 i = 0 ∧ f 6 i < 60 ∧ 50 ≤ f 8 i
      · rw [if_pos c, if_neg (by decide), if_pos c, k_add1 (by omega), Option.bind_some, nI_1]
      · rw [if_neg c, if_pos rfl, if_neg c, if_pos hx]
        by_cases d : f 4 i = 1
        · rw [if_pos d, if_pos d, k_add1 (by omega), Option.bind_some, nI_1]
        · rw [if_neg d, if_neg d, if_pos hx]
          by_cases e : f 4 i = 2
          · rw [if_pos e, if_pos e, k_add1 (by omega), Option.bind_some, nI_1]
          · rw [if_neg e, if_neg e, nI_1]
    · show F_X11_writeSacks_b10 N (nI ns) (f 5) (f 6) (f 4) (f 8) (fu + 1) (nI ns) _ _ = _
      rw [F_X11_writeSacks_b10, if_pos (nI_le (Nat.le_refl _) (by omega))]
  · unfold F_X12_writeSacks
    rw [(hT ns).1]
    refine lp_seq (L := fun fu i => F_X12_writeSacks_b12 N s fu (nI i) 0 (nI (uFs f (0, b') i).1) (uFs f (0, b') i).2) (n := ns) (fun fu i hi => ?_) (fun fu => ?_) ns 0 N (by omega) (by omega)
    · show F_X12_writeSacks_b12 N s (fu + 1) (nI i) 0 (nI (uFs f (0, b') i).1) (uFs f (0, b') i).2 = F_X12_writeSacks_b12 N s fu (nI (i + 1)) 0 (nI (uSt f i (uFs f (0, b') i)).1) (uSt f i (uFs f (0, b') i)).2
      have hlen := uFs_len hS (0, b') rfl i (by omega)
      revert hlen
      generalize uFs f (0, b') i = p
      intro hlen
      have a := wSp_len i p
      have bb := wN_len2 (hS i hi).2.1.2.2 (if i = 0 then p else w1 32 p)
      have e0 : F_X12_of (nI i) 0 s = some (f 4 i) := by rw [m_of0 (by omega), (hS i hi).1]
      have t33 : ∀ r : TB, r = (if i = 0 then p else w1 32 p) → F_X12_writeSacks_b33 (F_X12_writeSacks_b12 N s fu) N s (nI i) 0 (nI r.1) r.2 = F_X12_writeSacks_b12 N s fu (nI (i + 1)) 0 (nI (uSt f i p).1) (uSt f i p).2 := by
        intro r hr
        unfold uSt
        rw [← hr]
        rw [← hr] at bb a
        have t93 : ∀ v, F_X12_writeSacks_b93 (F_X12_writeSacks_b12 N s fu) N (nI i) v 0 (nI (wN (f 5 i) r).1) (wN (f 5 i) r).2 = F_X12_writeSacks_b12 N s fu (nI (i + 1)) 0 (nI (w1 v (wN (f 5 i) r)).1) (w1 v (wN (f 5 i) r)).2 := fun v => by
          unfold F_X12_writeSacks_b93 F_X12_writeSacks_b96
          rw [m_add1 (by omega), Option.bind_some, nI_1]
        unfold F_X12_writeSacks_b33
        rw [m_of1 (by omega), (hS i hi).2.1.1, Option.bind_some, m_addN _ _ (by omega), Option.bind_some, e0, Option.bind_some]
        dsimp only
        have b60 : F_X12_writeSacks_b60 (F_X12_writeSacks_b12 N s fu) N s (nI i) 0 (nI (wN (f 5 i) r).1) (wN (f 5 i) r).2 = F_X12_writeSacks_b12 N s fu (nI (i + 1)) 0 (nI (w1 (if f 4 i = 1 then 36 else if f 4 i = 2 then 35 else 42) (wN (f 5 i) r)).1) (w1 (if f 4 i = 1 then 36 else if f 4 i = 2 then 35 else 42) (wN (f 5 i) r)).2 := by
          unfold F_X12_writeSacks_b60
          rw [e0, Option.bind_some, Option.bind_some]
          by_cases d : f 4 i = 1
          · rw [if_pos d, if_pos d]; exact t93 36
          · rw [if_neg d, if_neg d]
            by_cases e : f 4 i = 2
            · rw [if_pos e, if_pos e]; exact t93 35
            · rw [if_neg e, if_neg e]; exact t93 42
        rw [b60]
        unfold uMk
        by_cases z : f 4 i = 0
        · rw [if_pos z, m_smo (by omega), (hS i hi).1, (hS i hi).2.2.1.1, (hS i hi).2.2.2.2.1, Option.bind_some]
          have z1 : ¬ f 4 i = 1 := by rw [z]; decide
          have z2 : ¬ f 4 i = 2 := by rw [z]; decide
          rw [if_neg z1, if_neg z2, if_neg z1, if_neg z2]
          by_cases c : f 4 i = 0 ∧ f 6 i < 60 ∧ 50 ≤ f 8 i
          · rw [if_pos c, if_neg (by decide), if_pos c]
          · rw [if_neg c, if_pos rfl, if_neg c]
            unfold F_X12_writeSacks_b96
            rw [nI_1]
        · rw [if_neg z, if_neg (show ¬ (f 4 i = 0 ∧ f 6 i < 60 ∧ 50 ≤ f 8 i) from fun q => z q.1)]
          rcases (hS i hi).2.2.2.2.2.2 with q | q | q
          · exact absurd q z
          · rw [if_pos q, if_pos q]
          · have n1 : ¬ f 4 i = 1 := by rw [q]; decide
            rw [if_neg n1, if_neg n1, if_pos q, if_pos q]
      rw [F_X12_writeSacks_b12, tn7, h7, if_neg (nI_ge hi (by omega))]
      by_cases c : i = 0
      · rw [if_pos (by rw [c]; decide)]
        exact t33 p (by rw [if_pos c])
      · rw [if_neg (show ¬ nI i ≤ 0 from nI_ge (a := 0) (by omega) (by omega)), m_add1 (by omega), Option.bind_some]
        exact t33 (w1 32 p) (by rw [if_neg c])
    · show F_X12_writeSacks_b12 N s (fu + 1) (nI ns) 0 _ _ = _
      rw [F_X12_writeSacks_b12, tn7, h7, if_pos (nI_le (Nat.le_refl _) (by omega))]
