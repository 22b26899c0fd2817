/-! PURE: brackets in the second pass -/
section BRA
variable {N L : Nat} {b c : Nat → Int32}
theorem tQ_q (h : TX L b c) {p : Nat} (hp : p ≤ L) : tQ c (tQ c p) = tQ c p := by
  have hb := (tQ_le h hp).2.2
  have key : ∀ q, ¬ (c q = 32 ∨ c q = 10) → tSk c 801 q = q := by
    intro q hq
    show (if c q = 32 ∨ c q = 10 then tSk c 800 (q + 1) else q) = q
    rw [if_neg hq]
  exact key _ hb
theorem tK_q (h : TX L b c) {p : Nat} (hp : p ≤ L) : tK c (tQ c p) = tK c p := by unfold tK; rw [tQ_q h hp]
theorem tE_q (h : TX L b c) {p : Nat} (hp : p ≤ L) : tE c (tQ c p) = tE c p := by unfold tE; rw [tK_q h hp, tQ_q h hp]
theorem MW_q (h : TX L b c) {p : Nat} (hp : p ≤ L) {nb : Int32} {wd : Int64} (hm : MW c (tQ c p) nb wd) : MW c p nb wd := by
  unfold MW tN tW at hm
  rw [tK_q h hp, tE_q h hp, tQ_q h hp] at hm
  exact hm
def xOp (c : Nat → Int32) (p : Nat) : Sg := sMk c 40 (sNo c 1 20 (sNx c (0, -1, p)))
def xBe (c : Nat → Int32) (p : Nat) : Sg := sMk c 59 (sMk c 41 (0, -1, p))
theorem sMk_true {m : Int32} {x : Sg} (hb : bMk m c x.2.2 = true) : sMk c m x = sNx c x := by unfold sMk; rw [hb, sChk_ok]
theorem m_sg1 (h : TX L b c) {p : Nat} (hp : p ≤ L) {m : Int32} (hb : bMk m c p = true) : F_X12_isSign m 0 (nI (tQ c p)) (tK c p) b = some 1 := by rw [m_sign h hp, hb]; rfl
/-- a bracket is opened -/
theorem st_open (hN : 1000 ≤ N) (h : TX L b c) {p d k : Nat} {za ords nb : Int32} {wd : Int64} {ag opn s w : Nat → Int32} (hp : p ≤ L) (hv : vb c p = 9) (hm : MW c p nb wd) (hz : (xOp c p).1 = 0) (hd : d < 2) :
    ∃ za' nb' wd', MW c (xOp c p).2.2 nb' wd' ∧ ∀ fu, mL N L b c ords za (fu + 1) p nb wd d ag opn s w k = mL N L b c ords za' fu (xOp c p).2.2 nb' wd' (d + 1) (upd ag d (kV 1 20 c (sNx c (0, -1, p)).2.2)) (upd opn d (nI (tQ c (xOp c p).2.2))) s w k := by
  have S0 := sim0 p za
  have S1 := S0.nx (c := c)
  have S2 := S1.no (c := c) (l := 1) (H := 20)
  have S3 := S2.mk (c := c) (m := 40)
  have hzx := sMk_0 (x := sNo c 1 20 (sNx c (0, -1, p))) hz
  have z2 : (sNo c 1 20 (sNx c (0, za, p))).1 = 0 := by rw [← S2.1]; exact hzx.1
  have hb : bMk 40 c (sNo c 1 20 (sNx c (0, za, p))).2.2 = true := by rw [← S2.2.1]; exact hzx.2
  have e3 := sMk_true (c := c) hb
  have hv10 : ¬ vb c p = 10 := by omega
  obtain ⟨hk1, hwd⟩ := vb_wd hv10 hm.2
  rw [hv] at hwd
  have p1 : (sNx c (0, za, p)).2.2 ≤ L := sNx_le (x := (0, za, p)) h hp
  have p2 : (sNo c 1 20 (sNx c (0, za, p))).2.2 ≤ L := sNo_le h p1
  obtain ⟨nb1, wd1, e1, m1⟩ := mm_nx (x := (0, za, p)) hN h hp nb hm
  have g1 : F_X12_goesOn N (nI (tE c p)) 0 (nI (tQ c p)) (nI L) nb (tK c p) wd b = some ((), nI (tE c (sNx c (0, za, p)).2.2), nI (tQ c (sNx c (0, za, p)).2.2), nb1, tK c (sNx c (0, za, p)).2.2, wd1) := e1
  obtain ⟨nb2, wd2, e2, m2⟩ := mm_no (x := sNx c (0, za, p)) (l := 1) (H := 20) hN h p1 (by decide) (by decide) nb1 m1
  have hn0 := sNo_0 (x := sNx c (0, za, p)) z2
  rw [if_pos z2, z2, ← kV_eq hn0.2.1 hn0.2.2] at e2
  have g2 : F_X12_reads N 1 20 (nI (tE c (sNx c (0, za, p)).2.2)) 0 za (nI (tQ c (sNx c (0, za, p)).2.2)) (nI L) nb1 (tK c (sNx c (0, za, p)).2.2) wd1 b = _ := e2
  obtain ⟨nb3, wd3, e4, m3⟩ := mm_nx (x := sNo c 1 20 (sNx c (0, za, p))) hN h p2 nb2 m2
  rw [z2] at e4
  have eq3 : (sNx c (sNo c 1 20 (sNx c (0, za, p)))).2.2 = (xOp c p).2.2 := by rw [← e3]; exact S3.2.1.symm
  have eqv : kV 1 20 c (sNx c (0, za, p)).2.2 = kV 1 20 c (sNx c (0, -1, p)).2.2 := by rw [S1.2.1]
  refine ⟨(sNo c 1 20 (sNx c (0, za, p))).2.1, nb3, wd3, by rw [← eq3]; exact m3, fun fu => ?_⟩
  have e41 : F_X12_isSign 41 0 (nI (tQ c p)) (tK c p) b = some 0 := by rw [m_sign h hp, bMk_word hk1]; rfl
  have eo : F_X12_isOrder (nI (tE c p)) 0 (nI (tQ c p)) (tK c p) wd = some 1 := by rw [m_order h hp 0 hm.2, decide_eq_true hv10]; rfl
  have hx : xin (nI d + 1 - 1) 4 = true := by rw [show nI d + 1 - 1 = nI d by grind]; exact xin_nI (by omega) (by decide)
  have hdd : ¬ (2 : Int32) ≤ nI d := nI_ge (b := 2) hd (by decide)
  unfold mL
  rw [F_X12_goesThrough_b29, if_pos rfl, if_pos rfl, if_neg (by rw [hk1]; decide), e41, Option.bind_some, if_pos rfl]
  unfold F_X12_order F_X12_order_b45
  rw [eo, Option.bind_some, must_1, Option.bind_some]
  dsimp only
  rw [if_neg (by decide), if_pos rfl, g1, Option.bind_some]
  dsimp only
  rw [hwd, if_pos (by decide)]
  unfold F_X12_againOrder F_X12_againOrder_b37 F_X12_againOrder_b42
  rw [g2, Option.bind_some]
  dsimp only
  rw [m_sg1 h p2 hb, Option.bind_some, must_1, Option.bind_some]
  dsimp only
  rw [m_sg1 h p2 hb, Option.bind_some, if_neg (by decide), if_neg hdd, must_1, Option.bind_some]
  dsimp only
  rw [e4, Option.bind_some, if_pos rfl, if_pos hx, if_pos hx, Option.bind_some]
  dsimp only
  rw [show nI d + 1 - 1 = nI d by grind, tnI (by omega), nI_1, eq3, eqv]
  rfl
/-- a bracket is closed for good -/
theorem st_leave (hN : 1000 ≤ N) (h : TX L b c) {p d k : Nat} {za ords nb : Int32} {wd : Int64} {ag opn s w : Nat → Int32} (hp : p ≤ L) (hb : bMk 41 c p = true) (hm : MW c p nb wd) (hz : (xBe c p).1 = 0) (hd : d < 2) (hag : ag d = nI 1) :
    ∃ za' nb' wd', MW c (xBe c p).2.2 nb' wd' ∧ ∀ fu, mL N L b c ords za (fu + 1) p nb wd (d + 1) ag opn s w k = mL N L b c ords za' fu (xBe c p).2.2 nb' wd' d (upd ag d 0) opn s w k := by
  have S0 := sim0 p za
  have S2 := S0.mk (c := c) (m := 41)
  have S3 := S2.mk (c := c) (m := 59)
  have e3 : sMk c 41 (0, za, p) = sNx c (0, za, p) := sMk_true (x := (0, za, p)) hb
  have p1 : (sNx c (0, za, p)).2.2 ≤ L := sNx_le (x := (0, za, p)) h hp
  rw [e3] at S3
  obtain ⟨nb1, wd1, e1, m1⟩ := mm_nx (x := (0, za, p)) hN h hp nb hm
  have g1 : F_X12_goesOn N (nI (tE c p)) 0 (nI (tQ c p)) (nI L) nb (tK c p) wd b = some ((), nI (tE c (sNx c (0, za, p)).2.2), nI (tQ c (sNx c (0, za, p)).2.2), nb1, tK c (sNx c (0, za, p)).2.2, wd1) := e1
  obtain ⟨nb2, wd2, e2, m2⟩ := mm_mk (x := sNx c (0, za, p)) (m := 59) hN h p1 nb1 m1
  have g2 : F_X12_sign N 59 (nI (tE c (sNx c (0, za, p)).2.2)) 0 za (nI (tQ c (sNx c (0, za, p)).2.2)) (nI L) nb1 (tK c (sNx c (0, za, p)).2.2) wd1 b = _ := e2
  have z3 : (sMk c 59 (sNx c (0, za, p))).1 = 0 := by rw [← S3.1]; exact hz
  have eq3 : (sMk c 59 (sNx c (0, za, p))).2.2 = (xBe c p).2.2 := S3.2.1.symm
  refine ⟨(sMk c 59 (sNx c (0, za, p))).2.1, nb2, wd2, by rw [← eq3]; exact m2, fun fu => ?_⟩
  have hx : xin (nI d) 4 = true := xin_nI (by omega) (by decide)
  unfold mL
  have hk0 : ¬ tK c p = 0 := fun q => by have := ((bMk_iff 41 c p).mp hb).1; rw [q] at this; exact absurd this (by decide)
  rw [F_X12_goesThrough_b29, if_pos rfl, if_pos rfl, if_neg hk0, m_sg1 h hp hb, Option.bind_some, if_neg (by decide)]
  unfold F_X12_closes F_X12_closes_b13 F_X12_closes_b81
  rw [if_neg (nI_nle (by omega) (by omega)), must_1, Option.bind_some]
  dsimp only
  rw [if_pos rfl, nI_pred, if_pos hx, if_pos hx, if_neg (by decide), if_pos hx, tnI (by omega), upd_s, hag, if_pos (by decide), g1, Option.bind_some]
  dsimp only
  rw [g2, Option.bind_some, Option.bind_some]
  dsimp only
  rw [z3, eq3]
  rfl
/-- .. or the text behind it is read again -/
theorem st_again (hN : 1000 ≤ N) (h : TX L b c) {p p1 d k m : Nat} {za ords nb : Int32} {wd : Int64} {ag opn s w : Nat → Int32} (hp : p ≤ L) (hp1 : p1 ≤ L) (hb : bMk 41 c p = true) (hd : d < 2) (hm1 : 1 ≤ m) (hm20 : m ≤ 20) (hag : ag d = nI (m + 1)) (hop : opn d = nI (tQ c p1)) :
    ∃ nb' wd', MW c p1 nb' wd' ∧ ∀ fu, mL N L b c ords za (fu + 1) p nb wd (d + 1) ag opn s w k = mL N L b c ords za fu p1 nb' wd' (d + 1) (upd ag d (nI m)) opn s w k := by
  have q1 : tQ c p1 ≤ L := (tQ_le h hp1).2.1
  have e1 := m_scan hN h q1 (nI (tQ c p)) nb (tK c p) wd
  rw [tE_q h hp1, tQ_q h hp1, tK_q h hp1] at e1
  refine ⟨if tK c p1 = 2 then tN c (tQ c p1) else nb, if tK c p1 = 1 then tW c (tQ c p1) else wd, MW_q h hp1 ⟨fun q => ?_, fun q => ?_⟩, fun fu => ?_⟩
  · rw [tK_q h hp1] at q; rw [if_pos q]
  · rw [tK_q h hp1] at q; rw [if_pos q]
  have hx : xin (nI d) 4 = true := xin_nI (by omega) (by decide)
  unfold mL
  have hk0 : ¬ tK c p = 0 := fun q => by have := ((bMk_iff 41 c p).mp hb).1; rw [q] at this; exact absurd this (by decide)
  rw [F_X12_goesThrough_b29, if_pos rfl, if_pos rfl, if_neg hk0, m_sg1 h hp hb, Option.bind_some, if_neg (by decide)]
  unfold F_X12_closes F_X12_closes_b13
  rw [if_neg (nI_nle (by omega) (by omega)), must_1, Option.bind_some]
  dsimp only
  rw [if_pos rfl, nI_pred, if_pos hx, if_pos hx, if_neg (by decide), if_pos hx, tnI (by omega), upd_s, hag, nI_pred, if_neg (nI_nle (by omega) (by omega)), if_pos hx, hop, e1, Option.bind_some, Option.bind_some]
def rp : Nat → List Cmd → List Cmd
  | 0, _ => []
  | m + 1, B => B ++ rp m B
theorem Rep (hN : 1000 ≤ N) (h : TX L b c) {p1 p d K : Nat} {B : List Cmd} (hB : Seg N L b c p1 p B (d + 1) K) (hb : bMk 41 c p = true) (hz : (xBe c p).1 = 0) (hd : d < 2) : ∀ m, m < 20 → ∀ (ords za nb : Int32) (wd : Int64) (ag opn s w : Nat → Int32) (k : Nat) (s' w' : Nat → Int32) (k' : Nat) (ov : Bool), MW c p1 nb wd → k < 40 → ag d = nI (m + 1) → opn d = nI (tQ c p1) → ExR N (rp (m + 1) B) s w k s' w' k' ov →
    ∃ K', K' ≤ (m + 1) * (K + 1) ∧ ((ov = true ∧ ∀ fu, Dn (mL N L b c ords za (fu + K' + 1) p1 nb wd (d + 1) ag opn s w k) s' w' k') ∨ (ov = false ∧ ∃ za' nb' wd' ag' opn', MW c (xBe c p).2.2 nb' wd' ∧ (∀ j, j < d → ag' j = ag j ∧ opn' j = opn j) ∧ ∀ fu, mL N L b c ords za (fu + K') p1 nb wd (d + 1) ag opn s w k = mL N L b c ords za' fu (xBe c p).2.2 nb' wd' d ag' opn' s' w' k')) := by
  have hpL := hB.1.2
  have hp1L : p1 ≤ L := Nat.le_trans hB.1.1 hB.1.2
  intro m
  induction m with
  | zero =>
    intro _ ords za nb wd ag opn s w k s' w' k' ov hm hk hag hop hE
    have hE' : ExR N (B ++ []) s w k s' w' k' ov := hE
    rw [List.append_nil] at hE'
    obtain ⟨K1, hK1, r⟩ := hB.2 ords za nb wd ag opn s w k s' w' k' ov hm hk hE'
    rcases r with ⟨ho, r⟩ | ⟨ho, za1, nb1, wd1, ag1, opn1, m1, hj, r⟩
    · exact ⟨K1, by omega, Or.inl ⟨ho, r⟩⟩
    · obtain ⟨za2, nb2, wd2, m2, r2⟩ := st_leave (k := k') (za := za1) (ords := ords) (ag := ag1) (opn := opn1) (s := s') (w := w') hN h hpL hb m1 hz hd (by rw [(hj d (by omega)).1]; exact hag)
      refine ⟨K1 + 1, by omega, Or.inr ⟨ho, za2, nb2, wd2, upd ag1 d 0, opn1, m2, fun j hj' => ⟨by rw [upd_o _ _ (by omega)]; exact (hj j (by omega)).1, (hj j (by omega)).2⟩, fun fu => ?_⟩⟩
      rw [show fu + (K1 + 1) = (fu + 1) + K1 by omega, r, r2]
  | succ m ih =>
    intro hm20 ords za nb wd ag opn s w k s' w' k' ov hm hk hag hop hE
    rcases ExR_split B (rp (m + 1) B) _ _ _ _ _ _ _ hE with ⟨s1, w1, k1, e1, e2⟩ | ⟨e1, rfl⟩
    · obtain ⟨K1, hK1, r⟩ := hB.2 ords za nb wd ag opn s w k s1 w1 k1 false hm hk e1
      rcases r with ⟨r, -⟩ | ⟨-, za1, nb1, wd1, ag1, opn1, m1, hj, r⟩
      · cases r
      obtain ⟨nb2, wd2, m2, r2⟩ := st_again (k := k1) (za := za1) (ords := ords) (nb := nb1) (wd := wd1) (ag := ag1) (opn := opn1) (s := s1) (w := w1) (m := m + 1) hN h hpL hp1L hb hd (by omega) (by omega) (by rw [(hj d (by omega)).1]; exact hag) (by rw [(hj d (by omega)).2]; exact hop)
      obtain ⟨K2, hK2, r3⟩ := ih (by omega) ords za1 nb2 wd2 (upd ag1 d (nI (m + 1))) opn1 s1 w1 k1 s' w' k' ov m2 (ExR_lt _ _ _ _ _ _ _ e1 hk) (upd_s _ _ _) (by rw [(hj d (by omega)).2]; exact hop) e2
      refine ⟨K1 + 1 + K2, by rw [Nat.succ_mul (m + 1)]; omega, ?_⟩
      rcases r3 with ⟨ho, r3⟩ | ⟨ho, za3, nb3, wd3, ag3, opn3, m3, hj3, r3⟩
      · left
        refine ⟨ho, fun fu => ?_⟩
        rw [show fu + (K1 + 1 + K2) + 1 = (fu + K2 + 1 + 1) + K1 by omega, r, r2]
        exact r3 fu
      · right
        refine ⟨ho, za3, nb3, wd3, ag3, opn3, m3, fun j hj' => ⟨by rw [(hj3 j hj').1, upd_o _ _ (by omega)]; exact (hj j (by omega)).1, by rw [(hj3 j hj').2]; exact (hj j (by omega)).2⟩, fun fu => ?_⟩
        rw [show fu + (K1 + 1 + K2) = (fu + K2 + 1) + K1 by omega, r, r2, r3]
    · obtain ⟨K1, hK1, r⟩ := hB.2 ords za nb wd ag opn s w k s' w' k' true hm hk e1
      rcases r with ⟨-, r⟩ | ⟨r, -⟩
      · exact ⟨K1, by rw [Nat.succ_mul (m + 1)]; omega, Or.inl ⟨rfl, r⟩⟩
      · cases r
/-- a bracket as a whole -/
theorem Seg.rep (hN : 1000 ≤ N) (h : TX L b c) {p0 p d K n : Nat} {B : List Cmd} (hp0 : p0 ≤ L) (hv : vb c p0 = 9) (hz0 : (xOp c p0).1 = 0) (hB : Seg N L b c (xOp c p0).2.2 p B (d + 1) K) (hb : bMk 41 c p = true) (hz : (xBe c p).1 = 0) (hd : d < 2) (hn : kV 1 20 c (sNx c (0, -1, p0)).2.2 = nI (n + 1)) (hn20 : n < 20) (hle : p0 ≤ (xBe c p).2.2) : Seg N L b c p0 (xBe c p).2.2 (rp (n + 1) B) d (1 + (n + 1) * (K + 1)) := by
  have hL : (xBe c p).2.2 ≤ L := sMk_le h (sMk_le (x := (0, -1, p)) h hB.1.2)
  refine ⟨⟨hle, hL⟩, fun ords za nb wd ag opn s w k s' w' k' ov hm hk hE => ?_⟩
  obtain ⟨za1, nb1, wd1, m1, r1⟩ := st_open (k := k) (za := za) (ords := ords) (ag := ag) (opn := opn) (s := s) (w := w) hN h hp0 hv hm hz0 hd
  rw [hn] at r1
  obtain ⟨K2, hK2, r2⟩ := Rep hN h hB hb hz hd n hn20 ords za1 nb1 wd1 _ _ s w k s' w' k' ov m1 hk (upd_s _ _ _) (upd_s _ _ _) hE
  refine ⟨1 + K2, by omega, ?_⟩
  rcases r2 with ⟨ho, r2⟩ | ⟨ho, za3, nb3, wd3, ag3, opn3, m3, hj3, r2⟩
  · left
    refine ⟨ho, fun fu => ?_⟩
    rw [show fu + (1 + K2) + 1 = (fu + K2 + 1) + 1 by omega, r1]
    exact r2 fu
  · right
    refine ⟨ho, za3, nb3, wd3, ag3, opn3, m3, fun j hj' => ⟨by rw [(hj3 j hj').1, upd_o _ _ (by omega)], by rw [(hj3 j hj').2, upd_o _ _ (by omega)]⟩, fun fu => ?_⟩
    rw [show fu + (1 + K2) = (fu + K2) + 1 by omega, r1, r2]
end BRA
