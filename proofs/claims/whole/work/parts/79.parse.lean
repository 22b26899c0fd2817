/-! PURE: a script is read, both sides -/
abbrev Fr : Type := Nat × Nat × List Cmd × Nat × Nat
def wK : Nat → Nat
  | 0 => 420
  | 1 => 21
  | _ => 1
def Fl : List Fr → List Cmd
  | [] => []
  | F :: r => Fl r ++ F.2.2.1
/-- the brackets that are open: where the text ahead of each begins and ends, its commands, its times, its turns -/
def Stk (N L : Nat) (b c : Nat → Int32) : List Fr → Nat → Prop
  | [], st => st = 0
  | F :: r, st => Seg N L b c F.1 F.2.1 F.2.2.1 r.length F.2.2.2.2 ∧ (vb c F.2.1 = 9 ∧ (xOp c F.2.1).1 = 0 ∧ (xOp c F.2.1).2.2 = st ∧ kV 1 20 c (sNx c (0, -1, F.2.1)).2.2 = nI (F.2.2.2.1 + 1) ∧ F.2.2.2.1 < 20) ∧ F.2.1 < st ∧ F.2.2.2.2 ≤ wK r.length * (F.2.1 - F.1) ∧ Stk N L b c r F.1
def StT : List Fr → (Nat → Int32) → (Nat → Int32) → Prop
  | [], _, _ => True
  | F :: r, sa, ti => sa r.length = nI ((Fl r ++ F.2.2.1).take 40).length ∧ ti r.length = nI (F.2.2.2.1 + 1) ∧ StT r sa ti
theorem StT_upd {k : Nat} {u v : Int32} {sa ti : Nat → Int32} : ∀ S : List Fr, S.length ≤ k → StT S sa ti → StT S (upd sa k u) (upd ti k v)
  | [], _, _ => trivial
  | F :: r, hk, h => by
    have hk' : r.length + 1 ≤ k := hk
    obtain ⟨h1, h2, h3⟩ := h
    exact ⟨by rw [upd_o _ _ (by omega)]; exact h1, by rw [upd_o _ _ (by omega)]; exact h2, StT_upd r (by omega) h3⟩
def Vd (C : Cmd) : Prop := (C.1 = 0 ∧ (1 ≤ C.2.1 ∧ C.2.1 ≤ 99) ∧ (0 ≤ C.2.2 ∧ C.2.2 ≤ 800)) ∨ (C.1 = 1 ∧ (0 ≤ C.2.1 ∧ C.2.1 ≤ 3)) ∨ C.1 = 2 ∨ (C.1 = 3 ∧ (0 ≤ C.2.1 ∧ C.2.1 ≤ 90)) ∨ (C.1 = 4 ∧ (0 ≤ C.2.1 ∧ C.2.1 ≤ 4)) ∨ (C.1 = 5 ∧ (0 ≤ C.2.1 ∧ C.2.1 ≤ 7) ∧ (0 ≤ C.2.2 ∧ C.2.2 ≤ 9)) ∨ (C.1 = 6 ∧ (0 ≤ C.2.1 ∧ C.2.1 ≤ 19)) ∨ (C.1 = 7 ∧ (0 ≤ C.2.1 ∧ C.2.1 ≤ 19)) ∨ (C.1 = 8 ∧ (1 ≤ C.2.1 ∧ C.2.1 ≤ 120))
theorem Vd_cOf {c : Nat → Int32} (x : Sg) : ∀ v, v < 9 → Vd (v, rA c v x, rB c v x) := by
  intro v hv
  match v, hv with
  | 0, _ => exact Or.inl ⟨rfl, kV_r (l := 1) (H := 99) (by decide) (by decide), kV_r (l := 0) (H := 800) (by decide) (by decide)⟩
  | 1, _ => exact Or.inr (Or.inl ⟨rfl, kV_r (l := 0) (H := 3) (by decide) (by decide)⟩)
  | 2, _ => exact Or.inr (Or.inr (Or.inl rfl))
  | 3, _ => exact Or.inr (Or.inr (Or.inr (Or.inl ⟨rfl, kV_r (l := 0) (H := 90) (by decide) (by decide)⟩)))
  | 4, _ => exact Or.inr (Or.inr (Or.inr (Or.inr (Or.inl ⟨rfl, kV_r (l := 0) (H := 4) (by decide) (by decide)⟩))))
  | 5, _ => exact Or.inr (Or.inr (Or.inr (Or.inr (Or.inr (Or.inl ⟨rfl, kV_r (l := 0) (H := 7) (by decide) (by decide), kV_r (l := 0) (H := 9) (by decide) (by decide)⟩)))))
  | 6, _ => exact Or.inr (Or.inr (Or.inr (Or.inr (Or.inr (Or.inr (Or.inl ⟨rfl, kV_r (l := 0) (H := 19) (by decide) (by decide)⟩))))))
  | 7, _ => exact Or.inr (Or.inr (Or.inr (Or.inr (Or.inr (Or.inr (Or.inr (Or.inl ⟨rfl, kV_r (l := 0) (H := 19) (by decide) (by decide)⟩)))))))
  | 8, _ => exact Or.inr (Or.inr (Or.inr (Or.inr (Or.inr (Or.inr (Or.inr (Or.inr ⟨rfl, kV_r (l := 1) (H := 120) (by decide) (by decide)⟩)))))))
theorem rp_mem {C : Cmd} {B : List Cmd} : ∀ m, C ∈ rp m B → C ∈ B
  | 0, h => absurd h List.not_mem_nil
  | m + 1, h => by
    rcases List.mem_append.mp h with q | q
    · exact q
    · exact rp_mem m q
abbrev KT : Type := Unit × Int32 × Int32 × Int32 × (Nat → Int32) × (Nat → Int32) × (Nat → Int32) × (Nat → Int32) × (Nat → Int32) × Int32 × Int32 × Int32 × Int32 × Int32
def PR (N L : Nat) (bm c s w : Nat → Int32) (rk : Option KT) (rm : Option GT) : Prop := ∃ (cm' d' ln' : Int32) (fs' ss' vs' sa' ti' : Nat → Int32) (z e k ps sst at' za' bg' nb' op' or' tk' : Int32) (wd' : Int64) (ag' opn' : Nat → Int32),
  rk = some ((), cm', d', ln', fs', ss', vs', sa', ti', z, e, k, ps, sst) ∧ rm = some ((), at', z, za', bg', 0, 0, 0, nb', op', or', tk', wd', ag', opn', s, w) ∧
    ((¬ z = 0 ∧ ps = za') ∨ (z = 0 ∧ ps = -1 ∧ ∃ (B' : List Cmd) (p' K' l' : Nat), ln' = nI l' ∧ LR B' l' fs' ss' vs' ∧ (∀ C ∈ B', Vd C) ∧ Seg N L bm c 0 p' B' 0 K' ∧ tK c p' = 0 ∧ K' ≤ 336000))
section PARSE
variable {N L : Nat} {bk bm c s w : Nat → Int32}
theorem vb_10 {p : Nat} (hk : ¬ tK c p = 1) : vb c p = 10 := Classical.byContradiction fun hv => hk ((bIs_iff _ c p).mp (vb_W hv)).1
theorem bMk_k {p : Nat} {m : Int32} (hk : ¬ tK c p = 3) : bMk m c p = false := Bool.eq_false_iff.mpr fun q => hk ((bMk_iff m c p).mp q).1
theorem nx_ge (h : TX L bk c) {p : Nat} (hp : p ≤ L) (z : Int32) : p ≤ nx c z p := by
  have h1 := (tQ_le h hp).1
  have h2 := (tE_le h hp).1
  unfold nx
  split <;> omega
theorem sMk_ge (h : TX L bk c) {m : Int32} {x : Sg} (hp : x.2.2 ≤ L) : x.2.2 ≤ (sMk c m x).2.2 := nx_ge h hp (sChk c (bMk m c x.2.2) 1 x).1
theorem sNo_ge (h : TX L bk c) {l H : Nat} {x : Sg} (hp : x.2.2 ≤ L) : x.2.2 ≤ (sNo c l H x).2.2 := nx_ge h hp (sSee c l H x).1
theorem rdV_ge (h : TX L bk c) {x : Sg} (hp : x.2.2 ≤ L) : ∀ v, v < 9 → x.2.2 ≤ (rdV c v x).2.2 := by
  intro v hv
  match v, hv with
  | 0, _ => exact Nat.le_trans (sNo_ge (l := 1) (H := 99) h hp) (sNo_ge (l := 0) (H := 800) h (sNo_le h hp))
  | 1, _ => exact sNo_ge h hp
  | 2, _ => exact Nat.le_refl _
  | 3, _ => exact sNo_ge h hp
  | 4, _ => exact sNo_ge h hp
  | 5, _ => exact Nat.le_trans (sNo_ge (l := 0) (H := 7) h hp) (sNo_ge (l := 0) (H := 9) h (sNo_le h hp))
  | 6, _ => exact sNo_ge h hp
  | 7, _ => exact sNo_ge h hp
  | 8, _ => exact sNo_ge h hp
theorem sNx_gt (h : TX L bk c) {p : Nat} (hp : p ≤ L) (hk : ¬ tK c p = 0) : p < (sNx c (0, -1, p)).2.2 := by
  have h1 := (tQ_le h hp).1
  have h2 := (tE_le h hp).2.2 hk
  show p < nx c 0 p
  unfold nx
  rw [if_pos rfl]
  omega
theorem xC_gt (h : TX L bk c) {p : Nat} (hp : p ≤ L) (hk : ¬ tK c p = 0) (hv : vb c p < 9) : p < (xC c p).2.2 := by
  have p1 : (sNx c (0, -1, p)).2.2 ≤ L := sNx_le (x := (0, -1, p)) h hp
  exact Nat.lt_of_lt_of_le (sNx_gt h hp hk) (Nat.le_trans (rdV_ge h p1 _ hv) (sMk_ge h (rdV_le h p1 _ hv)))
theorem xOp_gt (h : TX L bk c) {p : Nat} (hp : p ≤ L) (hk : ¬ tK c p = 0) : p < (xOp c p).2.2 := by
  have p1 : (sNx c (0, -1, p)).2.2 ≤ L := sNx_le (x := (0, -1, p)) h hp
  exact Nat.lt_of_lt_of_le (sNx_gt h hp hk) (Nat.le_trans (sNo_ge (l := 1) (H := 20) h p1) (sMk_ge h (sNo_le h p1)))
theorem xBe_ge (h : TX L bk c) {p : Nat} (hp : p ≤ L) : p ≤ (xBe c p).2.2 := Nat.le_trans (sMk_ge (m := 41) (x := (0, -1, p)) h hp) (sMk_ge h (sMk_le (x := (0, -1, p)) h hp))
/-- an error ends both loops -/
theorem PR.bad {t fk fm : Nat} {x y : Sg} (hS : Sim x y) (hz : ¬ x.1 = 0) (cm d ln : Int32) (fs ss vs sa ti : Nat → Int32) (e k ps st at0 bg nb op or' tk za : Int32) (wd : Int64) (ag opn : Nat → Int32) (hfk : 0 < fk) (hfm : 0 < fm) (hps : ps = x.2.1) (hza : za = y.2.1) : PR N L bm c s w (F_X7_read_b27 N (nI L) bk fk (nI t) cm d ln fs ss vs sa ti x.1 e k ps st) (F_X12_goesThrough_b29 N (nI L) bm fm at0 y.1 za bg 0 0 0 nb op or' tk wd ag opn s w) := by
  obtain ⟨k1, rfl⟩ : ∃ k, fk = k + 1 := ⟨fk - 1, by omega⟩
  obtain ⟨m1, rfl⟩ : ∃ k, fm = k + 1 := ⟨fm - 1, by omega⟩
  rw [k_exit hz, ← hS.1, m_exit hz]
  exact ⟨_, _, _, _, _, _, _, _, _, _, _, _, _, _, _, _, _, _, _, _, _, _, _, rfl, rfl, Or.inl ⟨hz, by rw [hps, hza]; exact hS.2.2.1 hz⟩⟩
theorem parse (hN : 1000 ≤ N) (h : TX L bk c) (h' : TX L bm c) : ∀ (D t p cm ln st K : Nat) (S : List Fr) (B : List Cmd) (fs ss vs sa ti : Nat → Int32) (za nb : Int32) (wd : Int64) (ag opn : Nat → Int32), t + D = 62 → p ≤ L → S.length ≤ 2 → cm ≤ 30 → t + S.length ≤ 2 * cm → Stk N L bm c S st → Seg N L bm c st p B S.length K → K ≤ wK S.length * (p - st) → LR (Fl S ++ B) ln fs ss vs → StT S sa ti → (∀ C ∈ Fl S ++ B, Vd C) → MW c p nb wd → ∀ fk fm, D < fk → D < fm →
    PR N L bm c s w (F_X7_read_b27 N (nI L) bk fk (nI t) (nI cm) (nI S.length) (nI ln) fs ss vs sa ti 0 (nI (tE c p)) (tK c p) (-1) (nI (tQ c p))) (F_X12_goesThrough_b29 N (nI L) bm fm (nI (tE c p)) 0 za (nI (tQ c p)) 0 0 0 nb (nI S.length) (nI cm) (tK c p) wd ag opn s w) := by
  intro D
  induction D with
  | zero => intro t p cm ln st K S B fs ss vs sa ti za nb wd ag opn ht hp hS hcm htc; omega
  | succ D ih =>
    intro t p cm ln st K S B fs ss vs sa ti za nb wd ag opn ht hp hS hcm htc hStk hSeg hK hLR hStT hVd hm fk fm hfk hfm
    have ht60 : t ≤ 60 := by omega
    obtain ⟨fk, rfl⟩ : ∃ k, fk = k + 1 := ⟨fk - 1, by omega⟩
    obtain ⟨fm, rfl⟩ : ∃ k, fm = k + 1 := ⟨fm - 1, by omega⟩
    have hstp : st ≤ p := hSeg.1.1
    by_cases hk : tK c p = 0
    · cases S with
      | nil =>
        have hst : st = 0 := hStk
        subst hst
        have e1 := k_done (N := N) (L := L) (b := bk) ht60 hk fk (nI cm) (nI ln) fs ss vs sa ti (nI (tE c p)) (-1) (nI (tQ c p))
        have e2 := m_end (N := N) (L := L) (b := bm) hk (show 0 ≤ 2 by omega) fm 0 (nI (tE c p)) za (nI (tQ c p)) 0 nb (nI cm) wd ag opn s w
        rw [if_pos rfl, if_pos rfl] at e2
        refine ⟨_, _, _, _, _, _, _, _, _, _, _, _, _, _, _, _, _, _, _, _, _, _, _, e1, e2, Or.inr ⟨rfl, rfl, B, p, K, ln, rfl, hLR, hVd, hSeg, hk, ?_⟩⟩
        have hK' : K ≤ 420 * (p - 0) := hK
        have := h.1
        omega
      | cons F r =>
        have hd : r.length + 1 ≤ 2 := hS
        have hr := rc_none hN h hp (vb_10 (by rw [hk]; decide)) (nI cm) (nI (r.length + 1)) (nI ln) fs ss vs sa ti
        have e1 := k_turnC h hp ht60 hd (fun q => by have := q.1; omega) (Or.inr (bMk_k (by rw [hk]; decide))) hr fk
        have e2 := m_end (N := N) (L := L) (b := bm) hk hd fm 0 (nI (tE c p)) za (nI (tQ c p)) 0 nb (nI cm) wd ag opn s w
        rw [if_neg (by omega), if_neg (by omega)] at e2
        rw [show (F :: r).length = r.length + 1 from rfl, e1, e2]
        obtain ⟨k1, rfl⟩ : ∃ k, fk = k + 1 := ⟨fk - 1, by omega⟩
        rw [k_exit (by decide)]
        exact ⟨_, _, _, _, _, _, _, _, _, _, _, _, _, _, _, _, _, _, _, _, _, _, _, rfl, rfl, Or.inl ⟨by decide, rfl⟩⟩
    · by_cases hb : bMk 41 c p = true
      · have hk3 : tK c p = 3 := ((bMk_iff 41 c p).mp hb).1
        cases S with
        | nil =>
          have hr := rc_none hN h hp (vb_10 (by rw [hk3]; decide)) (nI cm) (nI 0) (nI ln) fs ss vs sa ti
          have e1 := k_turnC h hp ht60 (show 0 ≤ 2 by omega) (fun q => hk q.2) (Or.inl rfl) hr fk
          have e2 := m_turnB0 (N := N) h' hp hb za 0 nb (nI cm) wd ag opn s w fm
          have e1' : F_X7_read_b27 N (nI L) bk (fk + 1) (nI t) (nI cm) (nI ([] : List Fr).length) (nI ln) fs ss vs sa ti 0 (nI (tE c p)) (tK c p) (-1) (nI (tQ c p)) = _ := e1
          have e2' : F_X12_goesThrough_b29 N (nI L) bm (fm + 1) (nI (tE c p)) 0 za (nI (tQ c p)) 0 0 0 nb (nI ([] : List Fr).length) (nI cm) (tK c p) wd ag opn s w = _ := e2
          rw [e1', e2']
          exact PR.bad (x := (1, nI (tQ c p), p)) (y := (1, nI (tQ c p), p)) ⟨rfl, rfl, fun _ => rfl, fun q => absurd q (show ¬ (1 : Int32) = 0 by decide)⟩ (show ¬ (1 : Int32) = 0 by decide) _ _ _ _ _ _ _ _ _ _ _ _ _ _ _ _ _ _ _ _ _ _ (by omega) (by omega) rfl rfl
        | cons F r =>
          obtain ⟨pst, p0, B0, n, K0⟩ := F
          have hd : r.length + 1 ≤ 2 := hS
          obtain ⟨q1, ⟨q2, q3, q4, q5, q6⟩, q7, q8, q9⟩ := hStk
          obtain ⟨t1, t2, t3⟩ := hStT
          dsimp only at q1 q2 q3 q4 q5 q6 q7 q8 q9 t1 t2
          obtain ⟨ln', fs', ss', vs', g1, g2⟩ := k_turnB (cm := nI cm) hN h r.length hp ht60 (by omega) hb q6 (A := Fl r ++ B0) (B := B) hLR t1 t2
          obtain ⟨y, nb', wd', ag', y1, y2, y3⟩ := m_turnB hN h' (S := r.length) hp (by omega) hb za 0 nb (nI cm) hm ag opn s w
          rw [show ((pst, p0, B0, n, K0) :: r).length = r.length + 1 from rfl, g2 fk, y3 fm]
          by_cases hz : (xBe c p).1 = 0
          · have hy0 : y.1 = 0 := by rw [← y1.1]; exact hz
            rw [hz, y1.2.2.2 hz, hy0, ← y1.2.1]
            rw [← y1.2.1] at y2
            have hge := xBe_ge h hp
            have hle : p0 ≤ (xBe c p).2.2 := by omega
            have hSegR := Seg.rep hN h' (p0 := p0) (p := p) (d := r.length) (K := K) (n := n) (B := B) (Nat.le_trans q1.1.2 (Nat.le_refl _)) q2 q3 (by rw [q4]; exact hSeg) hb hz (by omega) q5 q6 hle
            have hSegN := q1.comp hSegR
            have hmul : (n + 1) * (K + 1) ≤ 20 * (K + 1) := Nat.mul_le_mul_right _ (by omega)
            have hp0 := q1.1.1
            refine ih (t + 1) (xBe c p).2.2 cm ln' pst (K0 + (1 + (n + 1) * (K + 1))) r (B0 ++ rp (n + 1) B) fs' ss' vs' sa ti y.2.1 nb' wd' ag' opn (by omega) hSegN.1.2 (by omega) hcm (by have : t + (r.length + 1) ≤ 2 * cm := htc; omega) q9 hSegN ?_ (by rw [← List.append_assoc]; exact g1) t3 ?_ y2 fk fm (by omega) (by omega)
            · have hK' : K ≤ wK (r.length + 1) * (p - st) := hK
              have hrl : r.length = 0 ∨ r.length = 1 := by omega
              rcases hrl with e | e
              · rw [e] at hK' q8 ⊢
                have a1 : K ≤ 21 * (p - st) := hK'
                have a2 : K0 ≤ 420 * (p0 - pst) := q8
                show K0 + (1 + (n + 1) * (K + 1)) ≤ 420 * ((xBe c p).2.2 - pst)
                omega
              · rw [e] at hK' q8 ⊢
                have a1 : K ≤ 1 * (p - st) := hK'
                have a2 : K0 ≤ 21 * (p0 - pst) := q8
                show K0 + (1 + (n + 1) * (K + 1)) ≤ 21 * ((xBe c p).2.2 - pst)
                omega
            · intro C hC
              apply hVd
              show C ∈ (Fl r ++ B0) ++ B
              rcases List.mem_append.mp hC with q | q
              · exact List.mem_append_left _ (List.mem_append_left _ q)
              · rcases List.mem_append.mp q with q | q
                · exact List.mem_append_left _ (List.mem_append_right _ q)
                · exact List.mem_append_right _ (rp_mem _ q)
          · exact PR.bad y1 hz _ _ _ _ _ _ _ _ _ _ _ _ _ _ _ _ _ _ _ _ _ _ (by omega) (by omega) rfl rfl
      · have hb' : bMk 41 c p = false := Bool.eq_false_iff.mpr hb
        have kC := fun {cm' d' ln' : Int32} {fs' ss' vs' sa' ti' : Nat → Int32} {z' e' k' ps' st' : Int32} hr => k_turnC (N := N) (cm := nI cm) (ln := nI ln) (fs := fs) (ss := ss) (vs := vs) (sa := sa) (ti := ti) (ps := -1) (cm' := cm') (d' := d') (ln' := ln') (fs' := fs') (ss' := ss') (vs' := vs') (sa' := sa') (ti' := ti') (z' := z') (e' := e') (k' := k') (ps' := ps') (st' := st') h hp ht60 hS (fun q => hk q.2) (Or.inr hb') hr fk
        by_cases hv : vb c p = 10
        · rw [kC (rc_none hN h hp hv (nI cm) (nI S.length) (nI ln) fs ss vs sa ti), m_turnC h' hp hk hb' (mo_none h' hp hcm hv hm ag opn s w) fm]
          exact PR.bad (x := (1, nI (tQ c p), p)) (y := (1, nI (tQ c p), p)) ⟨rfl, rfl, fun _ => rfl, fun q => absurd q (show ¬ (1 : Int32) = 0 by decide)⟩ (show ¬ (1 : Int32) = 0 by decide) _ _ _ _ _ _ _ _ _ _ _ _ _ _ _ _ _ _ _ _ _ _ (by omega) (by omega) rfl rfl
        · by_cases hc : cm = 30
          · subst hc
            rw [kC (rc_many hN h hp hv (nI S.length) (nI ln) fs ss vs sa ti), m_turnC h' hp hk hb' (mo_many h' hp hv hm ag opn s w) fm]
            exact PR.bad (x := (4, nI (tQ c p), p)) (y := (4, nI (tQ c p), p)) ⟨rfl, rfl, fun _ => rfl, fun q => absurd q (show ¬ (4 : Int32) = 0 by decide)⟩ (show ¬ (4 : Int32) = 0 by decide) _ _ _ _ _ _ _ _ _ _ _ _ _ _ _ _ _ _ _ _ _ _ (by omega) (by omega) rfl rfl
          · have hc30 : cm < 30 := by omega
            by_cases hv9 : vb c p = 9
            · obtain ⟨y, nb', op', wd', ag', opn', y1, y2, y3, y4⟩ := mo_open (N := N) hN h' hp hc30 hv9 hS za (dn := 0) hm ag opn s w
              rw [kC (rc_open hN h hp hv9 hc30 hS (nI ln) fs ss vs sa ti), m_turnC h' hp hk hb' y4 fm]
              by_cases hz : (xOd c S.length p).1 = 0
              · have z1 := sMk_0 hz
                have z2 := sChk_0 (by decide) z1.1
                have hd2 : ¬ S.length = 2 := fun q => by
                  have z3 := z2.2
                  have z4 : bMk 40 c (sNo c 1 20 (sNx c (0, -1, p))).2.2 = true := z1.2
                  rw [z4, decide_eq_true q] at z3
                  cases z3
                have hd : S.length < 2 := by omega
                have eod : xOd c S.length p = xOp c p := by
                  unfold xOd xOp
                  rw [decide_eq_false hd2, Bool.and_false, show (!false) = true from rfl, sChk_ok]
                have hy0 : y.1 = 0 := by rw [← y1.1]; exact hz
                rw [y1.2.2.2 hz, hz, hy0, y3 hy0, ← y1.2.1, if_pos hd, if_pos hd, if_pos hd]
                rw [← y1.2.1] at y2
                rw [eod] at hz y2 ⊢
                obtain ⟨k1, hk1, hk2⟩ := n_of (x := kV 1 20 c (sNx c (0, -1, p)).2.2) (n := 20) (by decide) (by have := (kV_r (c := c) (l := 1) (H := 20) (p := (sNx c (0, -1, p)).2.2) (by decide) (by decide)).1; have e1 : (1 : Int32) ≤ kV 1 20 c (sNx c (0, -1, p)).2.2 := this; grind) (kV_r (c := c) (l := 1) (H := 20) (p := (sNx c (0, -1, p)).2.2) (by decide) (by decide)).2
                have hk10 : 1 ≤ k1 := by
                  have e1 := (kV_r (c := c) (l := 1) (H := 20) (p := (sNx c (0, -1, p)).2.2) (by decide) (by decide)).1
                  rw [hk2] at e1
                  exact (nI_leI (by decide) (by omega)).mp e1
                obtain ⟨n, rfl⟩ : ∃ n, k1 = n + 1 := ⟨k1 - 1, by omega⟩
                have hpx : (xOp c p).2.2 ≤ L := sMk_le h (sNo_le h (sNx_le (x := (0, -1, p)) h hp))
                have hgt := xOp_gt h hp hk
                rw [hk2]
                refine ih (t + 1) (xOp c p).2.2 (cm + 1) ln (xOp c p).2.2 0 ((st, p, B, n, K) :: S) [] fs ss vs (upd sa S.length (nI ln)) (upd ti S.length (nI (n + 1))) y.2.1 nb' wd' ag' opn' (by omega) hpx (show S.length + 1 ≤ 2 by omega) (by omega) (show t + 1 + (S.length + 1) ≤ 2 * (cm + 1) by omega) ⟨hSeg, ⟨hv9, hz, rfl, hk2, show n < 20 by omega⟩, hgt, hK, hStk⟩ (Seg.nil hpx) (Nat.zero_le _) (by rw [List.append_nil]; exact hLR) ⟨?_, upd_s _ _ _, StT_upd S (Nat.le_refl _) hStT⟩ (by rw [List.append_nil]; exact hVd) y2 fk fm (by omega) (by omega)
                show upd sa S.length (nI ln) S.length = nI ((Fl S ++ B).take 40).length
                rw [upd_s, hLR.1]
              · exact PR.bad y1 hz _ _ _ _ _ _ _ _ _ _ _ _ _ _ _ _ _ _ _ _ _ _ (by omega) (by omega) rfl rfl
            · have hv9' : vb c p < 9 := by have := vb_le c p; omega
              obtain ⟨ln', fs', ss', vs', g1, g2⟩ := rc_cmd hN h hp hv9' hc30 (nI S.length) sa ti hLR
              obtain ⟨y, nb', wd', y1, y2, y4⟩ := mo_cmd (N := N) hN h' hp hc30 hv9' za (dn := 0) (op := nI S.length) hm ag opn s w
              rw [kC g2, m_turnC h' hp hk hb' y4 fm]
              by_cases hz : (xC c p).1 = 0
              · have hy0 : y.1 = 0 := by rw [← y1.1]; exact hz
                rw [y1.2.2.2 hz, hz, hy0, ← y1.2.1]
                rw [← y1.2.1] at y2
                have hgt := xC_gt h hp hk hv9'
                have hSegN := hSeg.comp (Seg.cmd (d := S.length) hN h' hp hv9' hz (by omega))
                refine ih (t + 1) (xC c p).2.2 (cm + 1) ln' st (K + 1) S (B ++ [cOf c p]) fs' ss' vs' sa ti y.2.1 nb' wd' ag opn (by omega) hSegN.1.2 hS (by omega) (by omega) hStk hSegN ?_ (by rw [← List.append_assoc]; exact g1) hStT ?_ y2 fk fm (by omega) (by omega)
                · have hsl : S.length = 0 ∨ S.length = 1 ∨ S.length = 2 := by omega
                  rcases hsl with e | e | e
                  · rw [e] at hK ⊢
                    have a1 : K ≤ 420 * (p - st) := hK
                    show K + 1 ≤ 420 * ((xC c p).2.2 - st)
                    omega
                  · rw [e] at hK ⊢
                    have a1 : K ≤ 21 * (p - st) := hK
                    show K + 1 ≤ 21 * ((xC c p).2.2 - st)
                    omega
                  · rw [e] at hK ⊢
                    have a1 : K ≤ 1 * (p - st) := hK
                    show K + 1 ≤ 1 * ((xC c p).2.2 - st)
                    omega
                · intro C hC
                  rw [← List.append_assoc] at hC
                  rcases List.mem_append.mp hC with q | q
                  · exact hVd C q
                  · rw [List.mem_singleton.mp q]
                    exact Vd_cOf _ _ hv9'
              · exact PR.bad y1 hz _ _ _ _ _ _ _ _ _ _ _ _ _ _ _ _ _ _ _ _ _ _ (by omega) (by omega) rfl rfl
end PARSE
