/-! PURE: the setup that the law writes is read as it was meant -/
/-- loads laid one after the other -/
def lays (s : Nat → Int32) : List (Nat × Nat × Nat) → Nat → Int32
  | [] => s
  | d :: t => lays (sLay s d.1 (nI d.2.1) (nI d.2.2)) t
def Inc (n : Nat) : Nat → List (Nat × Nat × Nat) → Prop
  | _, [] => True
  | j, d :: t => j ≤ d.1 ∧ d.1 < n ∧ (1 ≤ d.2.1 ∧ d.2.1 ≤ 99) ∧ d.2.2 ≤ 800 ∧ Inc n (d.1 + 1) t
theorem lays_o {n : Nat} {j : Nat} (hj : j < 14 ∨ 30 ≤ j ∨ (14 ≤ j ∧ (j - 14) % 4 = 0)) (h8 : j ≠ 8) (hn : n ≤ 4) : ∀ (Ds : List (Nat × Nat × Nat)) (a : Nat) (s : Nat → Int32), Inc n a Ds → lays s Ds j = s j := by
  intro Ds
  induction Ds with
  | nil => intro a s _; rfl
  | cons d t ih =>
    intro a s h
    obtain ⟨h1, h2, h3, h4, h5⟩ := h
    rw [lays, ih (d.1 + 1) _ h5, sLay_o h8 (by omega) (by omega) (by omega)]
def floorsB (Ls : List Nat) : List Nat := Ls.flatMap floorB
def loadsB (Ds : List (Nat × Nat × Nat)) : List Nat := Ds.flatMap (fun d => loadB d.1 d.2.1 d.2.2)
section READ
variable {N L : Nat} {b c : Nat → Int32}
theorem fl_read (hN : 1000 ≤ N) (h : TX L b c) : ∀ (Ls : List Nat) (k n p : Nat) (f0 f1 : Nat → Int32) (r : List Nat), k + 1 = n → n + Ls.length ≤ 4 → (∀ x ∈ Ls, 40 ≤ x ∧ x ≤ 90) → p ≤ L → Rem c p (floorsB Ls ++ r) → (∀ q, Rem c q r → bIs WFL c q = false) →
    ∃ (q : Nat) (f0' f1' : Nat → Int32), q ≤ L ∧ Rem c q r ∧ (∀ i, i < n → f0' i = f0 i ∧ f1' i = f1 i) ∧ (∀ i, i < Ls.length → f0' (n + i) = nI (Ls.getD i 0) ∧ f1' (n + i) = 0) ∧
      (∀ fu dh ht lm ge va wi st f2 f3, Ls.length < fu → F_X8_read_b36 N (nI L) b fu (nI k) dh ht lm ge va wi st (nI n) f0 f1 f2 f3 0 (nI (tE c p)) (tK c p) (-1) (nI (tQ c p)) = F_X8_read_b73 N (nI L) b dh ht lm ge va wi st (nI (n + Ls.length)) f0' f1' f2 f3 0 (nI (tE c q)) (tK c q) (-1) (nI (tQ c q))) := by
  intro Ls
  induction Ls with
  | nil =>
    intro k n p f0 f1 r hk hn hx hp hr hf
    have hr : Rem c p r := hr
    have hk4 : ¬ (4 : Int32) ≤ nI k := nI_ge (b := 4) (by have : n + 0 ≤ 4 := hn; omega) (by decide)
    refine ⟨p, f0, f1, hp, hr, fun _ _ => ⟨rfl, rfl⟩, fun i hi => absurd hi (Nat.not_lt_zero i), fun fu dh ht lm ge va wi st f2 f3 hfu => ?_⟩
    obtain ⟨m, rfl⟩ : ∃ m, fu = m + 1 := ⟨fu - 1, by omega⟩
    rw [F_X8_read_b36, if_neg hk4]
    unfold F_X10_sound
    rw [if_pos rfl, Option.bind_some, if_neg (by decide), k_word2 hN h hp, hf p hr, Option.bind_some, if_pos (show cI false = 0 from rfl)]
    rfl
  | cons a t ih =>
    intro k n p f0 f1 r hk hn hx hp hr hf
    have hn4 : n < 4 := by have : n + (t.length + 1) ≤ 4 := hn; omega
    have hk4 : ¬ (4 : Int32) ≤ nI k := nI_ge (b := 4) (by omega) (by decide)
    have hr : Rem c p (floorB a ++ (floorsB t ++ r)) := by rw [← List.append_assoc]; exact hr
    obtain ⟨hw, hv, q1, e1, h1⟩ := g_floor (n := n) hn4 (hx a List.mem_cons_self) hr
    have hle : q1 ≤ L := by have := sFl_le (n := n) (x := (0, -1, p)) h hp; rw [e1] at this; exact this
    have gk := k_floor (n := n) (x := (0, -1, p)) hN h hp (by omega) f0 f1
    rw [e1, if_pos hn4, if_pos hn4, if_pos hn4, hv] at gk
    obtain ⟨q, f0', f1', r1, r2, r3, r4, r5⟩ := ih (k + 1) (n + 1) q1 (upd f0 n (nI a)) (upd f1 n 0) r (by omega) (by have : n + (t.length + 1) ≤ 4 := hn; omega) (fun x hx' => hx x (List.mem_cons_of_mem _ hx')) hle h1 hf
    refine ⟨q, f0', f1', r1, r2, fun i hi => ?_, fun i hi => ?_, fun fu dh ht lm ge va wi st f2 f3 hfu => ?_⟩
    · have := r3 i (by omega)
      rw [upd_o _ _ (by omega), upd_o _ _ (by omega)] at this
      exact this
    · cases i with
      | zero =>
        have := r3 n (by omega)
        rw [upd_s, upd_s] at this
        exact this
      | succ i =>
        have := r4 i (by have : i + 1 < t.length + 1 := hi; omega)
        rw [show n + 1 + i = n + (i + 1) by omega] at this
        exact this
    · obtain ⟨m, rfl⟩ : ∃ m, fu = m + 1 := ⟨fu - 1, by omega⟩
      rw [F_X8_read_b36, if_neg hk4]
      unfold F_X10_sound
      have gk' : F_X8_readFloor N (nI n) f0 f1 0 (nI (tE c p)) (tK c p) (-1) (nI (tQ c p)) (nI L) b = _ := gk
      rw [if_pos rfl, Option.bind_some, if_neg (by decide), k_word2 hN h hp, hw, Option.bind_some, if_neg (by decide), gk', Option.bind_some, nI_1]
      dsimp only
      have := r5 m dh ht lm ge va wi st f2 f3 (by have : t.length + 1 < m + 1 := hfu; omega)
      rw [show n + 1 + t.length = n + (a :: t).length by show _ = n + (t.length + 1); omega] at this
      exact this
theorem ld_read (hN : 1000 ≤ N) (h : TX L b c) {n : Nat} (hn1 : 1 ≤ n) (hn : n ≤ 4) : ∀ (Ds : List (Nat × Nat × Nat)) (k p j0 : Nat) (f : Nat → Nat → Int32) (st : Nat → Int32), k + Ds.length ≤ 4 → Inc n j0 Ds → (∀ j, j0 ≤ j → j < n → f 1 j ≤ 0) → RF n f st → st 6 = nI n → p ≤ L → Rem c p (loadsB Ds) →
    ∃ (q : Nat) (f' : Nat → Nat → Int32), q ≤ L ∧ Rem c q [] ∧ RF n f' (lays st Ds) ∧
      (∀ fu dh ht ge va wi sg, Ds.length < fu → F_X8_read_b75 N (nI L) b fu (nI k) dh ht (st 8) ge va wi sg (nI n) (f 0) (f 1) (f 2) (f 3) 0 (nI (tE c p)) (tK c p) (-1) (nI (tQ c p)) = F_X8_read_b112 N dh ht (lays st Ds 8) ge va wi sg (nI n) (f' 0) (f' 1) (f' 2) (f' 3) 0 (nI (tE c q)) (tK c q) (-1) (nI (tQ c q))) := by
  intro Ds
  induction Ds with
  | nil =>
    intro k p j0 f st hk _ _ hF h6 hp hr
    have hk4 : ¬ (4 : Int32) < nI k := fun q => by have := (nI_ltI (a := 4) (b := k) (by decide) (by have : k + 0 ≤ 4 := hk; omega)).mp q; have : k + 0 ≤ 4 := hk; omega
    refine ⟨p, f, hp, hr, hF, fun fu dh ht ge va wi sg hfu => ?_⟩
    obtain ⟨m, rfl⟩ : ∃ m, fu = m + 1 := ⟨fu - 1, by omega⟩
    rw [F_X8_read_b75, if_neg hk4]
    unfold F_X10_sound
    rw [if_pos rfl, Option.bind_some, if_neg (by decide), k_word3 hN h hp, (g_end hr).2.1, Option.bind_some, if_pos (show cI false = 0 from rfl)]
    rfl
  | cons d t ih =>
    intro k p j0 f st hk hI hf hF h6 hp hr
    obtain ⟨i1, i2, i3, i4, i5⟩ := hI
    have hkt : k + (t.length + 1) ≤ 4 := hk
    have hk4 : ¬ (4 : Int32) < nI k := fun q => by have := (nI_ltI (a := 4) (b := k) (by decide) (by omega)).mp q; omega
    have hr : Rem c p (loadB d.1 d.2.1 d.2.2 ++ loadsB t) := hr
    obtain ⟨hw, -, e1, e2, e3, q1, e4, h1⟩ := g_load (g := f 1) hn i2 (hf _ i1 i2) i3 i4 hr
    have hle : q1 ≤ L := by have := sLd_le (n := n) (g := f 1) (x := (0, -1, p)) h hp; rw [e4] at this; exact this
    have gk := k_load (x := (0, -1, p)) hN h hp hn1 hn f (st 8)
    rw [e4, e1, e2, e3] at gk
    have h8 : sLay st d.1 (nI d.2.1) (nI d.2.2) 8 = st 8 + nI d.2.1 := by unfold sLay; rw [upd_s]
    have hm : 1 ≤ nI d.2.1 ∧ nI d.2.1 ≤ 99 := ⟨nI_le (a := 1) i3.1 (by omega), nI_le (b := 99) i3.2 (by decide)⟩
    have hq : 0 ≤ nI d.2.2 ∧ nI d.2.2 ≤ 800 := ⟨nI_le (a := 0) (Nat.zero_le _) (by omega), nI_le (b := 800) i4 (by decide)⟩
    obtain ⟨q, f', r1, r2, r3, r4⟩ := ih (k + 1) q1 (d.1 + 1) (fLay f d.1 (nI d.2.1) (nI d.2.2)) (sLay st d.1 (nI d.2.1) (nI d.2.2)) (by omega) i5 (fun j h1 h2 => by
      show upd (f 1) d.1 (nI d.2.1) j ≤ 0
      rw [upd_o _ _ (by omega)]; exact hf j (by omega) h2) (RF_lay hn i2 hF hm hq) (by rw [sLay_o (by decide) (by omega) (by omega) (by omega)]; exact h6) hle h1
    refine ⟨q, f', r1, r2, r3, fun fu dh ht ge va wi sg hfu => ?_⟩
    obtain ⟨m, rfl⟩ : ∃ m, fu = m + 1 := ⟨fu - 1, by omega⟩
    have gk' : F_X8_readLoad N (st 8) (nI n) (f 1) (f 2) (f 3) 0 (nI (tE c p)) (tK c p) (-1) (nI (tQ c p)) (nI L) b = _ := gk
    rw [F_X8_read_b75, if_neg hk4]
    unfold F_X10_sound
    rw [if_pos rfl, Option.bind_some, if_neg (by decide), k_word3 hN h hp, hw, Option.bind_some, if_neg (by decide), gk', Option.bind_some, nI_1, ← h8]
    dsimp only
    exact r4 m dh ht ge va wi sg (by have : t.length + 1 < m + 1 := hfu; omega)
/-- the whole text -/
def setB (F G W S V : Nat) (Ls : List Nat) (Ds : List (Nat × Nat × Nat)) : List Nat := oastB F G W S V ++ (floorsB Ls ++ loadsB Ds)
/-- the house before its first damping -/
def set0 (F G W S V : Nat) (Ls : List Nat) (Ds : List (Nat × Nat × Nat)) : Nat → Int32 := lays (shd Ls.length (fun i => nI (Ls.getD i 0)) (nI F) (nI G) (nI W) (nI S) (nI V)) Ds
theorem shd_at (n : Nat) (f0 : Nat → Int32) (a b2 c2 d e : Int32) (i : Nat) : shd n f0 a b2 c2 d e (14 + 4 * i) = f0 i ∧ shd n f0 a b2 c2 d e (15 + 4 * i) = 0 ∧ shd n f0 a b2 c2 d e (16 + 4 * i) = 0 ∧ shd n f0 a b2 c2 d e (17 + 4 * i) = 0 := by
  unfold shd
  refine ⟨?_, ?_, ?_, ?_⟩
  · rw [if_neg (by omega), if_neg (by omega), if_neg (by omega), if_neg (by omega), if_neg (by omega), if_neg (by omega), if_pos (by omega), show (14 + 4 * i - 14) / 4 = i by omega]
  · rw [if_neg (by omega), if_neg (by omega), if_neg (by omega), if_neg (by omega), if_neg (by omega), if_neg (by omega), if_neg (by omega)]
  · rw [if_neg (by omega), if_neg (by omega), if_neg (by omega), if_neg (by omega), if_neg (by omega), if_neg (by omega), if_neg (by omega)]
  · rw [if_neg (by omega), if_neg (by omega), if_neg (by omega), if_neg (by omega), if_neg (by omega), if_neg (by omega), if_neg (by omega)]
theorem r_read (hN : 1000 ≤ N) (h : TX L b c) {F G W S V : Nat} {Ls : List Nat} {Ds : List (Nat × Nat × Nat)} (hF : F ≤ 90) (hG : G ≤ 4) (hW : W ≤ 7) (hS : S ≤ 9) (hV : V ≤ 7) (hl : 1 ≤ Ls.length ∧ Ls.length ≤ 4) (hLs : ∀ x ∈ Ls, 40 ≤ x ∧ x ≤ 90) (hD : Inc Ls.length 0 Ds) (hDl : Ds.length ≤ 4) (hr : Rem c 0 (setB F G W S V Ls Ds)) (dh h0 l0 g0 v0 w0 t0 n0 : Int32) (f0 f1 f2 f3 : Nat → Int32) (z e k ps sa : Int32) :
    ∃ (f : Nat → Nat → Int32) (ze zk zs : Int32), SetS Ls.length f (set0 F G W S V Ls Ds) ∧ set0 F G W S V Ls Ds 2 = nI G ∧ set0 F G W S V Ls Ds 3 = nI W ∧ set0 F G W S V Ls Ds 4 = nI S ∧ set0 F G W S V Ls Ds 5 = nI V ∧
      F_X8_read N dh h0 l0 g0 v0 w0 t0 n0 f0 f1 f2 f3 z e k ps sa (nI L) b = some ((), 0, pH (set0 F G W S V Ls Ds) Ls.length (set0 F G W S V Ls Ds 1), set0 F G W S V Ls Ds 8, nI G, nI V, nI W, nI S, nI Ls.length, f 0, f 1, f 2, f 3, 0, ze, zk, -1, zs) := by
  obtain ⟨⟨p7, e7, h7⟩, v1, v2, v3, v4, v5⟩ := g_oast hF hG hW hS hV hr
  obtain ⟨gk, px7⟩ := k_fire (x := X00) hN h (Nat.zero_le _) h0 g0 v0 w0 t0
  rw [e7] at px7
  rw [e7, v1, v2, v3, v4, v5] at gk
  have hnoF : ∀ q, Rem c q (loadsB Ds) → bIs WFL c q = false := by
    intro q hq
    cases Ds with
    | nil => exact (g_end hq).1
    | cons d t =>
      obtain ⟨i1, i2, i3, i4, i5⟩ := hD
      have hq : Rem c q (loadB d.1 d.2.1 d.2.2 ++ loadsB t) := hq
      exact (g_load (g := fun _ => 0) hl.2 i2 (by decide) i3 i4 hq).2.1
  obtain ⟨L0, Lt, rfl⟩ : ∃ L0 Lt, Ls = L0 :: Lt := by
    cases Ls with
    | nil => exact absurd hl.1 (by decide)
    | cons a t => exact ⟨a, t, rfl⟩
  have hlt : Lt.length + 1 ≤ 4 := hl.2
  have h7' : Rem c p7 (floorB L0 ++ (floorsB Lt ++ loadsB Ds)) := by rw [← List.append_assoc]; exact h7
  obtain ⟨hw8, hv8, p8, e8, h8⟩ := g_floor (n := 0) (by decide) (hLs L0 List.mem_cons_self) h7'
  have px8 : p8 ≤ L := by have := sFl_le (n := 0) (x := (0, -1, p7)) h px7; rw [e8] at this; exact this
  have gf := k_floor (n := 0) (x := (0, -1, p7)) hN h px7 (by decide) f0 f1
  rw [e8, if_pos (by decide), if_pos (by decide), if_pos (by decide), hv8] at gf
  obtain ⟨pa, fa0, fa1, pxa, hra, a3, a4, ga⟩ := fl_read hN h Lt 0 1 p8 (upd f0 0 (nI L0)) (upd f1 0 0) (loadsB Ds) rfl (by omega) (fun x hx => hLs x (List.mem_cons_of_mem _ hx)) px8 h8 hnoF
  have hn : 1 + Lt.length = (L0 :: Lt).length := by show 1 + Lt.length = Lt.length + 1; omega
  rw [hn] at ga
  obtain ⟨n, hnn⟩ : ∃ n, n = (L0 :: Lt).length := ⟨_, rfl⟩
  have ea : ∀ i, i < n → fa0 i = nI ((L0 :: Lt).getD i 0) ∧ fa1 i = 0 := by
    intro i hi
    cases i with
    | zero => have := a3 0 (by decide); rw [upd_s, upd_s] at this; exact this
    | succ i => have := a4 i (by rw [hnn] at hi; have : i + 1 < Lt.length + 1 := hi; omega); rw [show 1 + i = i + 1 by omega] at this; exact this
  rw [← hnn] at ga hl hD
  have hsd := shd_at n (fun i => nI ((L0 :: Lt).getD i 0)) (nI F) (nI G) (nI W) (nI S) (nI V)
  obtain ⟨st0, hst0⟩ : ∃ st0, st0 = shd n (fun i => nI ((L0 :: Lt).getD i 0)) (nI F) (nI G) (nI W) (nI S) (nI V) := ⟨_, rfl⟩
  have es : set0 F G W S V (L0 :: Lt) Ds = lays st0 Ds := by unfold set0; rw [← hnn, hst0]
  rw [← hst0] at hsd
  have hr40 : ∀ i, i < n → 40 ≤ nI ((L0 :: Lt).getD i 0) ∧ nI ((L0 :: Lt).getD i 0) ≤ 90 := fun i hi => by
    have hm : (L0 :: Lt).getD i 0 ∈ L0 :: Lt := by
      rw [List.getD_eq_getElem?_getD, List.getElem?_eq_getElem (by rw [← hnn]; exact hi)]; exact List.getElem_mem _
    have := hLs _ hm
    exact ⟨nI_le (a := 40) this.1 (by omega), nI_le (b := 90) this.2 (by decide)⟩
  have hCF : CF n fa0 fa1 := ⟨hl.1, hl.2, fun i hi => by rw [(ea i hi).1, (ea i hi).2]; exact ⟨(hr40 i hi).1, (hr40 i hi).2, rfl⟩⟩
  have hRF : RF n (frow fa0 fa1 f2 f3) st0 := RF_of hCF (fun i hi => by rw [(hsd i).1, (ea i hi).1]; exact ⟨rfl, (hsd i).2⟩)
  have t6 : st0 6 = nI n := by rw [hst0]; rfl
  have t8 : st0 8 = 0 := by rw [hst0]; rfl
  obtain ⟨pb, fb, pxb, hrb, hFb, gc⟩ := ld_read hN h hl.1 hl.2 Ds 0 pa 0 (frow fa0 fa1 f2 f3) st0 (by omega) hD (fun j _ hj => by show fa1 j ≤ 0; rw [(ea j hj).2]; decide) hRF t6 pxa hra
  rw [← es] at hFb gc
  have o : ∀ j, j < 14 → j ≠ 8 → set0 F G W S V (L0 :: Lt) Ds j = st0 j := fun j hj h8 => by rw [es]; exact lays_o (Or.inl hj) h8 hl.2 Ds 0 st0 hD
  have b1 : set0 F G W S V (L0 :: Lt) Ds 1 = nI F := by rw [o 1 (by decide) (by decide), hst0]; rfl
  have b2 : set0 F G W S V (L0 :: Lt) Ds 2 = nI G := by rw [o 2 (by decide) (by decide), hst0]; rfl
  have b3 : set0 F G W S V (L0 :: Lt) Ds 3 = nI W := by rw [o 3 (by decide) (by decide), hst0]; rfl
  have b4 : set0 F G W S V (L0 :: Lt) Ds 4 = nI S := by rw [o 4 (by decide) (by decide), hst0]; rfl
  have b5 : set0 F G W S V (L0 :: Lt) Ds 5 = nI V := by rw [o 5 (by decide) (by decide), hst0]; rfl
  have b6 : set0 F G W S V (L0 :: Lt) Ds 6 = nI n := by rw [o 6 (by decide) (by decide)]; exact t6
  have z_ : ∀ j, j < 14 → j ≠ 8 → (j = 0 ∨ 7 ≤ j) → set0 F G W S V (L0 :: Lt) Ds j = 0 := fun j hj h8 h7 => by
    rw [o j hj h8, hst0]
    rcases (show j = 0 ∨ j = 7 ∨ j = 9 ∨ j = 10 ∨ j = 11 ∨ j = 12 ∨ j = 13 by omega) with rfl | rfl | rfl | rfl | rfl | rfl | rfl <;> rfl
  have hA : pAir (set0 F G W S V (L0 :: Lt) Ds) := by
    unfold pAir; rw [b2, b3, b4, b5]
    exact ⟨⟨nI_le (a := 0) (Nat.zero_le _) (by omega), nI_le (b := 4) hG (by decide)⟩, ⟨nI_le (a := 0) (Nat.zero_le _) (by omega), nI_le (b := 7) hW (by decide)⟩, ⟨nI_le (a := 0) (Nat.zero_le _) (by omega), nI_le (b := 9) hS (by decide)⟩, nI_le (a := 0) (Nat.zero_le _) (by omega), nI_le (b := 7) hV (by decide)⟩
  have hh : 0 ≤ set0 F G W S V (L0 :: Lt) Ds 1 ∧ set0 F G W S V (L0 :: Lt) Ds 1 ≤ 90 := by rw [b1]; exact ⟨nI_le (a := 0) (Nat.zero_le _) (by omega), nI_le (b := 90) hF (by decide)⟩
  obtain ⟨u, gu⟩ := k_damp12 dh hN hl.2 hFb hA hh
  rw [b1, b2, b3, b4, b5] at gu
  rw [← hnn]
  refine ⟨fb, nI (tE c pb), tK c pb, nI (tQ c pb), ⟨⟨b6, hl.1, hl.2⟩, hFb, hA, hh, z_ 0 (by decide) (by decide) (by decide), z_ 7 (by decide) (by decide) (by decide), z_ 9 (by decide) (by decide) (by decide), z_ 10 (by decide) (by decide) (by decide), z_ 11 (by decide) (by decide) (by decide), z_ 12 (by decide) (by decide) (by decide), z_ 13 (by decide) (by decide) (by decide)⟩, b2, b3, b4, b5, ?_⟩
  have gn : F_X10_next N 0 0 k sa (nI L) b = some ((), nI (tE c 0), tK c 0, nI (tQ c 0)) := k_next (p := 0) hN h (Nat.zero_le _) k sa
  have gk' : F_X8_readFireAndWind N h0 g0 v0 w0 t0 0 (nI (tE c 0)) (tK c 0) (-1) (nI (tQ c 0)) (nI L) b = _ := gk
  have gf' : F_X8_readFloor N 0 f0 f1 0 (nI (tE c p7)) (tK c p7) (-1) (nI (tQ c p7)) (nI L) b = _ := gf
  have ga' := ga N dh (nI F) 0 (nI G) (nI V) (nI W) (nI S) f2 f3 (by omega)
  have gc' := gc N dh (nI F) (nI G) (nI V) (nI W) (nI S) (by omega)
  rw [t8] at gc'
  unfold F_X8_read F_X10_begin
  rw [gn, Option.bind_some, Option.bind_some]
  dsimp only
  rw [gk', Option.bind_some]
  dsimp only
  rw [gf', Option.bind_some]
  dsimp only
  refine ga'.trans ?_
  unfold F_X8_read_b73
  refine gc'.trans ?_
  unfold F_X8_read_b112 F_X10_isEnd F_X8_read_b130
  rw [gu, Option.bind_some, if_pos (g_end hrb).2.2, Option.bind_some, if_neg (by decide), b1]
end READ
theorem x_load {N L : Nat} {b q s : Nat → Int32} {d f : Nat → Nat → Int32} (hN : 1000 ≤ N) (hL : L ≤ 800) (hq : DI q) {F G W S V : Nat} {Ls : List Nat} {Ds : List (Nat × Nat × Nat)} (hF : F ≤ 90) (hG : G ≤ 4) (hW : W ≤ 7) (hS : S ≤ 9) (hV : V ≤ 7) (hl : 1 ≤ Ls.length ∧ Ls.length ≤ 4) (hLs : ∀ x ∈ Ls, 40 ≤ x ∧ x ≤ 90) (hD : Inc Ls.length 0 Ds) (hDl : Ds.length ≤ 4) (hlen : L = (setB F G W S V Ls Ds).length) (hb : ∀ i, i < L → b i = nI ((setB F G W S V Ls Ds).getD i 0)) (hc hf z0 e0 k0 p0 a0 : Int32) :
    ∃ (d' : Nat → Nat → Int32) (ze zk zs : Int32) (s' : Nat → Int32), s' = upd (pDamp Ls.length (set0 F G W S V Ls Ds)) 12 0 ∧ RQ Ls.length 0 (fCp d' f) s' ∧ (∃ f2, RH Ls.length 0 f2 (set0 F G W S V Ls Ds)) ∧ DI s' ∧
      F_X11_load N (q 12) (q 1) (q 8) (q 0) (q 13) (q 2) (q 5) (q 3) (q 4) (q 6) (d 0) (d 1) (d 2) (d 3) (q 10) (q 7) (q 11) (q 9) (d 5) (d 6) (d 7) (d 4) (d 8) hc hf (s 12) (s 1) (s 8) (s 0) (s 13) (s 2) (s 5) (s 3) (s 4) (s 6) (f 0) (f 1) (f 2) (f 3) (s 10) (s 7) (s 11) (s 9) (f 5) (f 6) (f 7) (f 4) (f 8) (nI L) b z0 e0 k0 p0 a0 = some (0, s' 12, s' 1, s' 8, s' 2, s' 5, s' 3, s' 4, s' 6, d' 0, d' 1, d' 2, d' 3, 0, s' 12, s' 1, s' 8, s' 0, s' 13, s' 2, s' 5, s' 3, s' 4, s' 6, fCp d' f 0, fCp d' f 1, fCp d' f 2, fCp d' f 3, s' 10, s' 7, s' 11, s' 9, fCp d' f 5, fCp d' f 6, fCp d' f 7, fCp d' f 4, fCp d' f 8, 0, 0, ze, zk, -1, zs, 3) := by
  have hTb : TX L b (tC L b) := tC_TX hL (fun _ _ => rfl)
  have hrem : Rem (tC L b) 0 (setB F G W S V Ls Ds) := fun j => by
    rw [Nat.zero_add]
    unfold tC cL
    rw [← hlen]
    by_cases h : j < L
    · rw [if_pos h, if_pos h, hb j h]
    · rw [if_neg h, if_neg h]
  obtain ⟨e, ze, zk, zs, ⟨⟨h6, hn1, hn4⟩, hFr, hA, hh, o0, o7, o9, o10, o11, o12, o13⟩, c2, c3, c4, c5, gk⟩ := r_read hN hTb hF hG hW hS hV hl hLs hD hDl hrem (q 12) (q 1) (q 8) (q 2) (q 5) (q 3) (q 4) (q 6) (d 0) (d 1) (d 2) (d 3) z0 e0 k0 p0 a0
  have K := k_loadF (s := s) (f := f) (hc := hc) (hf := hf) gk
  generalize hs1 : set0 F G W S V Ls Ds = s1 at *
  generalize hn : Ls.length = n at *
  rw [if_pos rfl] at K
  have eo : ∀ j, j ≠ 1 → j ≠ 12 → upd (pDamp n s1) 12 0 j = s1 j := fun j h1 h12 => by unfold pDamp; rw [upd_o _ _ h12, upd_o _ _ h12, upd_o _ _ h1]
  have e1 : upd (pDamp n s1) 12 0 1 = pH s1 n (s1 1) := rfl
  have q12 : qNew q (pH s1 n (s1 1)) (s1 8) (nI G) (nI V) (nI W) (nI S) (nI n) 12 = upd (pDamp n s1) 12 0 12 := rfl
  have q1 : qNew q (pH s1 n (s1 1)) (s1 8) (nI G) (nI V) (nI W) (nI S) (nI n) 1 = upd (pDamp n s1) 12 0 1 := by rw [e1]; rfl
  have q8 : qNew q (pH s1 n (s1 1)) (s1 8) (nI G) (nI V) (nI W) (nI S) (nI n) 8 = upd (pDamp n s1) 12 0 8 := by rw [eo 8 (by decide) (by decide)]; rfl
  have q0 : qNew q (pH s1 n (s1 1)) (s1 8) (nI G) (nI V) (nI W) (nI S) (nI n) 0 = upd (pDamp n s1) 12 0 0 := by rw [eo 0 (by decide) (by decide), o0]; exact hq.1
  have q13 : qNew q (pH s1 n (s1 1)) (s1 8) (nI G) (nI V) (nI W) (nI S) (nI n) 13 = upd (pDamp n s1) 12 0 13 := by rw [eo 13 (by decide) (by decide), o13]; exact hq.2.1
  have q2 : qNew q (pH s1 n (s1 1)) (s1 8) (nI G) (nI V) (nI W) (nI S) (nI n) 2 = upd (pDamp n s1) 12 0 2 := by rw [eo 2 (by decide) (by decide), c2]; rfl
  have q5 : qNew q (pH s1 n (s1 1)) (s1 8) (nI G) (nI V) (nI W) (nI S) (nI n) 5 = upd (pDamp n s1) 12 0 5 := by rw [eo 5 (by decide) (by decide), c5]; rfl
  have q3 : qNew q (pH s1 n (s1 1)) (s1 8) (nI G) (nI V) (nI W) (nI S) (nI n) 3 = upd (pDamp n s1) 12 0 3 := by rw [eo 3 (by decide) (by decide), c3]; rfl
  have q4 : qNew q (pH s1 n (s1 1)) (s1 8) (nI G) (nI V) (nI W) (nI S) (nI n) 4 = upd (pDamp n s1) 12 0 4 := by rw [eo 4 (by decide) (by decide), c4]; rfl
  have q6 : qNew q (pH s1 n (s1 1)) (s1 8) (nI G) (nI V) (nI W) (nI S) (nI n) 6 = upd (pDamp n s1) 12 0 6 := by rw [eo 6 (by decide) (by decide), h6]; rfl
  have q10 : qNew q (pH s1 n (s1 1)) (s1 8) (nI G) (nI V) (nI W) (nI S) (nI n) 10 = upd (pDamp n s1) 12 0 10 := by rw [eo 10 (by decide) (by decide), o10]; exact hq.2.2.1
  have q7 : qNew q (pH s1 n (s1 1)) (s1 8) (nI G) (nI V) (nI W) (nI S) (nI n) 7 = upd (pDamp n s1) 12 0 7 := by rw [eo 7 (by decide) (by decide), o7]; exact hq.2.2.2.1
  have q11 : qNew q (pH s1 n (s1 1)) (s1 8) (nI G) (nI V) (nI W) (nI S) (nI n) 11 = upd (pDamp n s1) 12 0 11 := by rw [eo 11 (by decide) (by decide), o11]; exact hq.2.2.2.2.1
  have q9 : qNew q (pH s1 n (s1 1)) (s1 8) (nI G) (nI V) (nI W) (nI S) (nI n) 9 = upd (pDamp n s1) 12 0 9 := by rw [eo 9 (by decide) (by decide), o9]; exact hq.2.2.2.2.2
  rw [q12, q1, q8, q0, q13, q2, q5, q3, q4, q6, q10, q7, q11, q9] at K
  have hr := pH_r hFr hA hn4 hh.1 hh.2 n (Nat.le_refl _)
  have R0 : RH n 0 e s1 := ⟨⟨h6, hn1, hn4⟩, ⟨by rw [o7]; rfl, by decide⟩, hh, hA, hFr, fun k hk => by omega⟩
  have R : RH n 0 (dNew d e) (upd (pDamp n s1) 12 0) := ⟨⟨(eo 6 (by decide) (by decide)).trans h6, hn1, hn4⟩, ⟨by rw [eo 7 (by decide) (by decide), o7]; rfl, by decide⟩, by rw [e1]; exact ⟨hr.1, by grind⟩, hA.cong (eo 2 (by decide) (by decide)) (eo 3 (by decide) (by decide)) (eo 4 (by decide) (by decide)) (eo 5 (by decide) (by decide)), hFr.cong hn4 (fun j h14 _ => eo j (by omega) (by omega)) rfl rfl rfl rfl, fun k hk => by omega⟩
  have R' : RH n 0 (fCp (dNew d e) f) (upd (pDamp n s1) 12 0) := R.congp (fun _ _ => rfl) (fun r j _ hj => fCp_f hj) (fun r j hr _ hj => by obtain ⟨k, rfl⟩ : ∃ k, r = k + 4 := ⟨r - 4, by omega⟩; exact fCp_s hj)
  have hRD : RD n (upd (pDamp n s1) 12 0) := by
    have R1 := (p_damped R0).1
    exact (damps_RD (N := 1000) (Nat.le_refl _) R1 (p_damp (Nat.le_refl _) R0).2).cong (upd_o _ _ (by decide)) (upd_o _ _ (by decide)) (upd_o _ _ (by decide)) (upd_o _ _ (by decide)) (upd_o _ _ (by decide)) (fun i hi => upd_o _ _ (by omega)) (fun i hi => upd_o _ _ (by omega))
  have z0' : upd (pDamp n s1) 12 0 0 = 0 := by rw [eo 0 (by decide) (by decide), o0]
  exact ⟨dNew d e, _, _, _, upd (pDamp n s1) 12 0, rfl, ⟨R', by rw [z0']; decide, hRD⟩, ⟨e, R0⟩, ⟨z0', (eo 13 (by decide) (by decide)).trans o13, (eo 10 (by decide) (by decide)).trans o10, (eo 7 (by decide) (by decide)).trans o7, (eo 11 (by decide) (by decide)).trans o11, (eo 9 (by decide) (by decide)).trans o9⟩, K⟩
