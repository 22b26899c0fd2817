/-! PURE: the second pass of the model, by segments -/
abbrev Cmd : Type := Nat × Int32 × Int32
/-- commands one after the other, from a state to a state: k were done; over: one was refused, or the fortieth is done -/
def ExR (N : Nat) : List Cmd → (Nat → Int32) → (Nat → Int32) → Nat → (Nat → Int32) → (Nat → Int32) → Nat → Bool → Prop
  | [], s, w, k, s', w', k', ov => s' = s ∧ w' = w ∧ k' = k ∧ ov = false
  | C :: l, s, w, k, s', w', k', ov => ∃ (is : Bool) (s1 w1 : Nat → Int32), MA N C.1 C.2.1 C.2.2 s w is s1 w1 ∧ ((is = true ∧ k + 1 < 40 ∧ ExR N l s1 w1 (k + 1) s' w' k' ov) ∨ (¬ (is = true ∧ k + 1 < 40) ∧ s' = s1 ∧ w' = w1 ∧ k' = (if is = true then k + 1 else k) ∧ ov = true))
theorem ExR_split {N : Nat} : ∀ (A B : List Cmd) (s w : Nat → Int32) (k : Nat) (s' w' : Nat → Int32) (k' : Nat) (ov : Bool), ExR N (A ++ B) s w k s' w' k' ov → (∃ s1 w1 k1, ExR N A s w k s1 w1 k1 false ∧ ExR N B s1 w1 k1 s' w' k' ov) ∨ (ExR N A s w k s' w' k' true ∧ ov = true) := by
  intro A
  induction A with
  | nil => intro B s w k s' w' k' ov h; exact Or.inl ⟨s, w, k, ⟨rfl, rfl, rfl, rfl⟩, h⟩
  | cons C A ih =>
    intro B s w k s' w' k' ov h
    obtain ⟨is, s1, w1, hM, h⟩ := h
    rcases h with ⟨h1, h2, h3⟩ | ⟨h1, h2, h3, h4, h5⟩
    · rcases ih B _ _ _ _ _ _ _ h3 with ⟨s2, w2, k2, q1, q2⟩ | ⟨q1, q2⟩
      · exact Or.inl ⟨s2, w2, k2, ⟨is, s1, w1, hM, Or.inl ⟨h1, h2, q1⟩⟩, q2⟩
      · exact Or.inr ⟨⟨is, s1, w1, hM, Or.inl ⟨h1, h2, q1⟩⟩, q2⟩
    · exact Or.inr ⟨⟨is, s1, w1, hM, Or.inr ⟨h1, h2, h3, h4, rfl⟩⟩, h5⟩
theorem ExR_lt {N : Nat} : ∀ (A : List Cmd) (s w : Nat → Int32) (k : Nat) (s' w' : Nat → Int32) (k' : Nat), ExR N A s w k s' w' k' false → k < 40 → k' < 40 := by
  intro A
  induction A with
  | nil => intro s w k s' w' k' h hk; obtain ⟨-, -, e, -⟩ := h; omega
  | cons C A ih =>
    intro s w k s' w' k' h hk
    obtain ⟨is, s1, w1, hM, h⟩ := h
    rcases h with ⟨h1, h2, h3⟩ | ⟨-, -, -, -, h5⟩
    · exact ih _ _ _ _ _ _ h3 h2
    · cases h5
abbrev GT : Type := Unit × Int32 × Int32 × Int32 × Int32 × Int32 × Int32 × Int32 × Int32 × Int32 × Int32 × Int32 × Int64 × (Nat → Int32) × (Nat → Int32) × (Nat → Int32) × (Nat → Int32)
/-- the loop of the second pass at a token -/
def mL (N L : Nat) (b c : Nat → Int32) (ords za : Int32) (fu p : Nat) (nb : Int32) (wd : Int64) (d : Nat) (ag opn s w : Nat → Int32) (k : Nat) : Option GT := F_X12_goesThrough_b29 N (nI L) b fu (nI (tE c p)) 0 za (nI (tQ c p)) (nI k) 1 0 nb (nI d) ords (tK c p) wd ag opn s w
def Dn (r : Option GT) (s' w' : Nat → Int32) (k' : Nat) : Prop := ∃ (at' za' bg' ov' nb' op' or' tk' : Int32) (wd' : Int64) (ag' on' : Nat → Int32), r = some ((), at', 0, za', bg', nI k', 1, ov', nb', op', or', tk', wd', ag', on', s', w')
/-- from the token p to the token q, in brackets of depth d, the loop does the commands B, in at most K turns -/
def Seg (N L : Nat) (b c : Nat → Int32) (p q : Nat) (B : List Cmd) (d K : Nat) : Prop := (p ≤ q ∧ q ≤ L) ∧ ∀ (ords za nb : Int32) (wd : Int64) (ag opn s w : Nat → Int32) (k : Nat) (s' w' : Nat → Int32) (k' : Nat) (ov : Bool), MW c p nb wd → k < 40 → ExR N B s w k s' w' k' ov →
  ∃ K', K' ≤ K ∧ ((ov = true ∧ ∀ fu, Dn (mL N L b c ords za (fu + K' + 1) p nb wd d ag opn s w k) s' w' k') ∨ (ov = false ∧ ∃ za' nb' wd' ag' opn', MW c q nb' wd' ∧ (∀ j, j < d → ag' j = ag j ∧ opn' j = opn j) ∧ ∀ fu, mL N L b c ords za (fu + K') p nb wd d ag opn s w k = mL N L b c ords za' fu q nb' wd' d ag' opn' s' w' k'))
section SEGS
variable {N L : Nat} {b c : Nat → Int32}
theorem Seg.nil {p d : Nat} (hp : p ≤ L) : Seg N L b c p p [] d 0 := by
  refine ⟨⟨Nat.le_refl _, hp⟩, fun ords za nb wd ag opn s w k s' w' k' ov hm hk hE => ?_⟩
  obtain ⟨rfl, rfl, rfl, rfl⟩ := hE
  exact ⟨0, Nat.le_refl _, Or.inr ⟨rfl, za, nb, wd, ag, opn, hm, fun _ _ => ⟨rfl, rfl⟩, fun _ => rfl⟩⟩
theorem Seg.comp {p q r d K1 K2 : Nat} {A B : List Cmd} (hA : Seg N L b c p q A d K1) (hB : Seg N L b c q r B d K2) : Seg N L b c p r (A ++ B) d (K1 + K2) := by
  refine ⟨⟨Nat.le_trans hA.1.1 hB.1.1, hB.1.2⟩, fun ords za nb wd ag opn s w k s' w' k' ov hm hk hE => ?_⟩
  rcases ExR_split A B _ _ _ _ _ _ _ hE with ⟨s1, w1, k1, e1, e2⟩ | ⟨e1, rfl⟩
  · obtain ⟨K1', h1, r1⟩ := hA.2 ords za nb wd ag opn s w k s1 w1 k1 false hm hk e1
    rcases r1 with ⟨r1, -⟩ | ⟨-, za1, nb1, wd1, ag1, opn1, m1, hj, r1⟩
    · cases r1
    obtain ⟨K2', h2, r2⟩ := hB.2 ords za1 nb1 wd1 ag1 opn1 s1 w1 k1 s' w' k' ov m1 (ExR_lt _ _ _ _ _ _ _ e1 hk) e2
    refine ⟨K1' + K2', by omega, ?_⟩
    rcases r2 with ⟨ho, r2⟩ | ⟨ho, za2, nb2, wd2, ag2, opn2, m2, hj2, r2⟩
    · left
      refine ⟨ho, fun fu => ?_⟩
      rw [show fu + (K1' + K2') + 1 = (fu + K2' + 1) + K1' by omega, r1]
      exact r2 fu
    · right
      refine ⟨ho, za2, nb2, wd2, ag2, opn2, m2, fun j hj' => ⟨(hj2 j hj').1.trans (hj j hj').1, (hj2 j hj').2.trans (hj j hj').2⟩, fun fu => ?_⟩
      rw [show fu + (K1' + K2') = (fu + K2') + K1' by omega, r1, r2]
  · obtain ⟨K1', h1, r1⟩ := hA.2 ords za nb wd ag opn s w k s' w' k' true hm hk e1
    rcases r1 with ⟨-, r1⟩ | ⟨r1, -⟩
    · exact ⟨K1', by omega, Or.inl ⟨rfl, r1⟩⟩
    · cases r1
theorem vW_ne : ∀ v, v < 9 → ¬ lg_cmp (Int64.ofNat (vW v)) (Int64.ofNat 609752116) = 0 := by decide
theorem must_1 (n za bg : Int32) : F_X12_must 1 n 0 za bg = some ((), 0, za) := by
  have := m_must true n 0 za bg
  rw [mZ_true, mP_true] at this
  exact this
theorem bMk_word {p : Nat} {m : Int32} (h1 : tK c p = 1) : bMk m c p = false := by unfold bMk; rw [h1]; rfl
theorem rA_sim {x y : Sg} (h : Sim x y) (v : Nat) : rA c v x = rA c v y := by
  unfold rA
  split <;> first | rfl | rw [h.2.1]
theorem rB_sim {x y : Sg} (h : Sim x y) (v : Nat) : rB c v x = rB c v y := by
  unfold rB
  split
  · rw [(h.no (l := 1) (H := 99)).2.1]
  · rw [(h.no (l := 0) (H := 7)).2.1]
  · rfl
/-- where a command's text ends, as the class reads it -/
def xC (c : Nat → Int32) (p : Nat) : Sg := sMk c 59 (rdV c (vb c p) (sNx c (0, -1, p)))
abbrev cOf (c : Nat → Int32) (p : Nat) : Cmd := (vb c p, rA c (vb c p) (sNx c (0, -1, p)), rB c (vb c p) (sNx c (0, -1, p)))
theorem sim0 (p : Nat) (za : Int32) : Sim (0, -1, p) (0, za, p) := ⟨rfl, rfl, fun q => absurd rfl q, fun _ => rfl⟩
/-- one turn of the second pass over a command -/
theorem st_cmd (hN : 1000 ≤ N) (h : TX L b c) {p d k : Nat} {za ords nb : Int32} {wd : Int64} {ag opn s w s1 w1 : Nat → Int32} {is : Bool} (hp : p ≤ L) (hv : vb c p < 9) (hm : MW c p nb wd) (hz : (xC c p).1 = 0) (hma : MA N (vb c p) (rA c (vb c p) (sNx c (0, -1, p))) (rB c (vb c p) (sNx c (0, -1, p))) s w is s1 w1) :
    ∃ za' nb' wd', MW c (xC c p).2.2 nb' wd' ∧ ∀ fu, mL N L b c ords za (fu + 1) p nb wd d ag opn s w k = F_X12_goesThrough_b29 N (nI L) b fu (nI (tE c (xC c p).2.2)) 0 za' (nI (tQ c (xC c p).2.2)) (dnX is (nI k)) 1 (ovX is (nI k)) nb' (nI d) ords (tK c (xC c p).2.2) wd' ag opn s1 w1 := by
  have S0 := sim0 p za
  have S1 := S0.nx (c := c)
  have S2 := S1.rd (c := c) (vb c p) hv
  have S3 := S2.mk (c := c) (m := 59)
  have z2 : (rdV c (vb c p) (sNx c (0, za, p))).1 = 0 := by rw [← S2.1]; exact (sMk_0 hz).1
  have z3 : (sMk c 59 (rdV c (vb c p) (sNx c (0, za, p)))).1 = 0 := by rw [← S3.1]; exact hz
  have hv10 : ¬ vb c p = 10 := by omega
  obtain ⟨hk1, hwd⟩ := vb_wd hv10 hm.2
  have p1 : (sNx c (0, za, p)).2.2 ≤ L := sNx_le (x := (0, za, p)) h hp
  have p2 := rdV_le h p1 (vb c p) hv
  obtain ⟨nb1, wd1, e1, m1⟩ := mm_nx (x := (0, za, p)) hN h hp nb hm
  have g1 : F_X12_goesOn N (nI (tE c p)) 0 (nI (tQ c p)) (nI L) nb (tK c p) wd b = some ((), nI (tE c (sNx c (0, za, p)).2.2), nI (tQ c (sNx c (0, za, p)).2.2), nb1, tK c (sNx c (0, za, p)).2.2, wd1) := e1
  rw [rA_sim S1, rB_sim S1] at hma
  obtain ⟨nb2, wd2, e2, m2⟩ := m_does1 hN h p1 nb1 (nI k) m1 (vb c p) hv z2 hma
  have g2 : F_X12_does N (Int64.ofNat (vW (vb c p))) (nI (tE c (sNx c (0, za, p)).2.2)) 0 za (nI (tQ c (sNx c (0, za, p)).2.2)) (nI k) 1 0 (nI L) nb1 (tK c (sNx c (0, za, p)).2.2) wd1 s b w = _ := e2
  obtain ⟨nb3, wd3, e3, m3⟩ := mm_mk (x := rdV c (vb c p) (sNx c (0, za, p))) (m := 59) hN h p2 nb2 m2
  have eq3 : (sMk c 59 (rdV c (vb c p) (sNx c (0, za, p)))).2.2 = (xC c p).2.2 := S3.2.1.symm
  refine ⟨(sMk c 59 (rdV c (vb c p) (sNx c (0, za, p)))).2.1, nb3, wd3, by rw [← eq3]; exact m3, fun fu => ?_⟩
  have e41 : F_X12_isSign 41 0 (nI (tQ c p)) (tK c p) b = some 0 := by rw [m_sign h hp, bMk_word hk1]; rfl
  have eo : F_X12_isOrder (nI (tE c p)) 0 (nI (tQ c p)) (tK c p) wd = some 1 := by rw [m_order h hp 0 hm.2, decide_eq_true hv10]; rfl
  unfold mL
  rw [F_X12_goesThrough_b29, if_pos rfl, if_pos rfl, if_neg (by rw [hk1]; decide), e41, Option.bind_some, if_pos rfl]
  unfold F_X12_order F_X12_order_b45
  rw [eo, Option.bind_some, must_1, Option.bind_some]
  dsimp only
  rw [if_neg (by decide), if_pos rfl, g1, Option.bind_some]
  dsimp only
  rw [hwd, if_neg (vW_ne _ hv), g2, Option.bind_some]
  dsimp only
  rw [e3, Option.bind_some, Option.bind_some]
  dsimp only
  rw [z3, eq3]
/-- the loop ends when all is over -/
theorem st_over (fu : Nat) (at0 za bg dn nb op ords tk : Int32) (wd : Int64) (ag opn s w : Nat → Int32) : F_X12_goesThrough_b29 N (nI L) b (fu + 1) at0 0 za bg dn 1 1 nb op ords tk wd ag opn s w = some ((), at0, 0, za, bg, dn, 1, 1, nb, op, ords, tk, wd, ag, opn, s, w) := by
  rw [F_X12_goesThrough_b29, if_pos rfl, if_neg (by decide)]
  unfold F_X12_goesThrough_b73 F_X12_goesThrough_b88 F_X12_goesThrough_b93
  rw [if_neg (by decide), must_1, Option.bind_some]
theorem Seg.cmd (hN : 1000 ≤ N) (h : TX L b c) {p d : Nat} (hp : p ≤ L) (hv : vb c p < 9) (hz : (xC c p).1 = 0) (hle : p ≤ (xC c p).2.2) : Seg N L b c p (xC c p).2.2 [cOf c p] d 1 := by
  have hL : (xC c p).2.2 ≤ L := sMk_le h (rdV_le h (sNx_le (x := (0, -1, p)) h hp) _ hv)
  refine ⟨⟨hle, hL⟩, fun ords za nb wd ag opn s w k s' w' k' ov hm hk hE => ⟨1, Nat.le_refl _, ?_⟩⟩
  obtain ⟨is, s1, w1, hM, hE⟩ := hE
  obtain ⟨za', nb', wd', m', g⟩ := st_cmd (d := d) (k := k) (za := za) (ords := ords) (ag := ag) (opn := opn) hN h hp hv hm hz hM
  rcases hE with ⟨rfl, h2, rfl, rfl, rfl, rfl⟩ | ⟨h1, rfl, rfl, rfl, rfl⟩
  · right
    refine ⟨rfl, za', nb', wd', ag, opn, m', fun _ _ => ⟨rfl, rfl⟩, fun fu => ?_⟩
    rw [g]
    unfold mL dnX ovX
    dsimp only
    rw [nI_1, if_neg (fun q => by have := (nI_eq (a := k + 1) (b := 40) (by omega) (by decide)).mp q; omega)]
  · left
    refine ⟨rfl, fun fu => ?_⟩
    rw [g (fu + 1)]
    have hov : ovX is (nI k) = 1 := by
      cases is with
      | false => rfl
      | true =>
        have : k + 1 = 40 := by
          have hk2 : ¬ k + 1 < 40 := fun q => h1 ⟨rfl, q⟩
          omega
        unfold ovX
        dsimp only
        rw [nI_1, this]
        rfl
    have hdn : dnX is (nI k) = nI (if is = true then k + 1 else k) := by
      cases is with
      | false => rfl
      | true => unfold dnX; dsimp only; rw [if_pos rfl, nI_1]
    rw [hov, hdn, st_over]
    exact ⟨_, _, _, _, _, _, _, _, _, _, _, rfl⟩
end SEGS
