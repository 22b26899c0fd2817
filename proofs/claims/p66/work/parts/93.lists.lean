/-! the builder's text as a list of bytes; the law's constructor -/
/-- the builder holds l -/
def SBk (cap n : Nat) (f : Nat → Int32) (l : List Nat) : Prop := (∃ t, xLat t n f ∧ ∀ j, j < n → t j = l.getD j 0) ∧ n ≤ cap ∧ cap ≤ 1000 ∧ n = l.length
theorem SBk.cat {cap n w : Nat} {f f2 : Nat → Int32} {t tx : Nat → Nat} {cap2 : Nat} {l lx : List Nat} (ht : ∀ j, j < n → t j = l.getD j 0) (hn : n = l.length) (hw : w = lx.length) (hx : ∀ j, j < w → tx j = lx.getD j 0) (h1 : xLat (sb_cat t n tx) (n + w) f2) (h2 : n + w ≤ cap2) (h3 : cap2 ≤ 1000) : SBk cap2 (n + w) f2 (l ++ lx) := by
  refine ⟨⟨_, h1, fun j hj => ?_⟩, h2, h3, by rw [List.length_append, hn, hw]⟩
  unfold sb_cat
  by_cases c : j < n
  · rw [if_pos c, ht j c, List.getD_eq_getElem?_getD, List.getD_eq_getElem?_getD, List.getElem?_append_left (by omega)]
  · rw [if_neg c, hx _ (by omega), List.getD_eq_getElem?_getD, List.getD_eq_getElem?_getD, List.getElem?_append_right (by omega), hn]
abbrev SBc (E : xE) (sb v cap : Nat) (f : Nat → Int32) (n : Nat) : va_W := [(sb, .inr (15, [.ref v, .int 0, .int 0, .int (nI n)])), (v, .inl (E.2.1.2.1.1, cap, .inl f))]
section BSBK
variable {E : xE} {y : xM} {R : Room} {mc ms : Nat} {O : xO → Prop} {pc : Nat} {L : xL} {st : List Value} {ck sk : Nat}
theorem Bd.sbS {T : va_W} {sb v cap n k w idx : Nat} {f : Nat → Int32} {l lx : List Nat} {tx : Nat → Nat} {rest : List Value} (hB : SBk cap n f l) (hk : xTx k w tx) (hw : w = lx.length) (hx : ∀ j, j < w → tx j = lx.getD j 0) (hq : n + w ≤ 400) (hlk : Cond.methodLink (xCn y.2.2.2.2) idx mJ4_append_15ec4.1 ∈ xAll) (hd : decode y.2.1 pc = .ok (.invokevirtual idx, 3)) (hR : 6 ≤ R.frames ∧ 148 ≤ R.locals ∧ ck + 1 ≤ R.cells ∧ sk + 1000 ≤ R.slots) (hcat : (rest.map fun v => v.category).sum ≤ 8)
    (kk : ∀ v2 cap2 n2 f2, n2 = n + w → SBk cap2 n2 f2 (l ++ lx) → BdP E y R mc ms O (pc + 3) L (.ref sb :: rest) (SBc E sb v2 cap2 f2 n2 ++ T) (ck + 1) (sk + 1000)) : BdP E y R mc ms O pc L (.ref (E.2.2.1 k) :: .ref sb :: rest) (SBc E sb v cap f n ++ T) ck sk := by
  obtain ⟨⟨t, hL, ht⟩, hn, hc, hl⟩ := hB
  exact Bd.callVa (As := [.ref (E.2.2.1 k)]) (rest := rest) oJ4_append_15ec4 vJ4_append_15ec4 nJ4_append_15ec4 hlk hd (s_J4_append_15ec4 E sb v cap n k w t tx f hk hL hn hc hq) ⟨hR.1, Nat.le_trans (by decide +kernel) hR.2.1⟩ rfl hcat 0 rfl rfl rfl ⟨hR.2.2.1, hR.2.2.2⟩ (fun X M h => by obtain ⟨_, _, _, h, _⟩ := h; cases h) (fun v9 M9 h9 => by
    obtain ⟨v2, cap2, f2, h9, h1, h2, h3⟩ := h9
    cases h9
    exact kk v2 cap2 _ f2 rfl (SBk.cat (cap := cap) (f := f) ht hl hw hx h1 h2 h3))
theorem Bd.sbI {T : va_W} {sb v cap n x idx : Nat} {f : Nat → Int32} {l : List Nat} {rest : List Value} (hB : SBk cap n f l) (hx : x < 1000) (hq : n + 3 ≤ 400) (hlk : Cond.methodLink (xCn y.2.2.2.2) idx mJ4_append_bf812.1 ∈ xAll) (hd : decode y.2.1 pc = .ok (.invokevirtual idx, 3)) (hR : 6 ≤ R.frames ∧ 148 ≤ R.locals ∧ ck + 1 ≤ R.cells ∧ sk + 1000 ≤ R.slots) (hcat : (rest.map fun v => v.category).sum ≤ 8)
    (kk : ∀ v2 cap2 n2 f2, n2 ≤ n + 3 → SBk cap2 n2 f2 (l ++ dg x) → BdP E y R mc ms O (pc + 3) L (.ref sb :: rest) (SBc E sb v2 cap2 f2 n2 ++ T) (ck + 1) (sk + 1000)) : BdP E y R mc ms O pc L (.int (nI x) :: .ref sb :: rest) (SBc E sb v cap f n ++ T) ck sk := by
  obtain ⟨⟨t, hL, ht⟩, hn, hc, hl⟩ := hB
  have hz := xDz_r x
  exact Bd.callVa (As := [.int (nI x)]) (rest := rest) oJ4_append_bf812 vJ4_append_bf812 nJ4_append_bf812 hlk hd (s_J4_append_bf812 E sb v cap n x t f hx hL hn hc (by omega)) ⟨hR.1, Nat.le_trans (by decide +kernel) hR.2.1⟩ rfl hcat 0 rfl rfl rfl ⟨hR.2.2.1, hR.2.2.2⟩ (fun X M h => by obtain ⟨_, _, _, h, _⟩ := h; cases h) (fun v9 M9 h9 => by
    obtain ⟨v2, cap2, f2, h9, h1, h2, h3⟩ := h9
    cases h9
    exact kk v2 cap2 _ f2 (by omega) (SBk.cat (cap := cap) (f := f) ht hl (dg_len x).symm (fun j hj => (dg_at hj).symm) h1 h2 h3))
theorem Bd.sbC {T : va_W} {sb v cap n x idx : Nat} {f : Nat → Int32} {l : List Nat} {rest : List Value} (hB : SBk cap n f l) (hx : x < 128) (hq : n + 1 ≤ 400) (hlk : Cond.methodLink (xCn y.2.2.2.2) idx mJ4_append_cf468.1 ∈ xAll) (hd : decode y.2.1 pc = .ok (.invokevirtual idx, 3)) (hR : 6 ≤ R.frames ∧ 148 ≤ R.locals ∧ ck + 1 ≤ R.cells ∧ sk + 1000 ≤ R.slots) (hcat : (rest.map fun v => v.category).sum ≤ 8)
    (kk : ∀ v2 cap2 n2 f2, n2 = n + 1 → SBk cap2 n2 f2 (l ++ [x]) → BdP E y R mc ms O (pc + 3) L (.ref sb :: rest) (SBc E sb v2 cap2 f2 n2 ++ T) (ck + 1) (sk + 1000)) : BdP E y R mc ms O pc L (.int (nI x) :: .ref sb :: rest) (SBc E sb v cap f n ++ T) ck sk := by
  obtain ⟨⟨t, hL, ht⟩, hn, hc, hl⟩ := hB
  exact Bd.callVa (As := [.int (nI x)]) (rest := rest) oJ4_append_cf468 vJ4_append_cf468 nJ4_append_cf468 hlk hd (s_J4_append_cf468 E sb v cap n x t f hx hL hn hc hq) ⟨hR.1, Nat.le_trans (by decide +kernel) hR.2.1⟩ rfl hcat 0 rfl rfl rfl ⟨hR.2.2.1, hR.2.2.2⟩ (fun X M h => by obtain ⟨_, _, _, h, _⟩ := h; cases h) (fun v9 M9 h9 => by
    obtain ⟨v2, cap2, f2, h9, h1, h2, h3⟩ := h9
    cases h9
    exact kk v2 cap2 _ f2 rfl (SBk.cat (w := 1) (tx := fun _ => x) (lx := [x]) (cap := cap) (f := f) ht hl rfl (fun j hj => by
      have e : j = 0 := Nat.lt_one_iff.mp hj
      subst e
      rfl) h1 h2 h3))
end BSBK
/-! the rows of limits -/
def limR (Ls : List Nat) : Nat → Int32 := fun j => nI (Ls.getD j 0)
theorem limR_snoc {Ls : List Nat} {x i : Nat} (h : Ls.length = i) : upd (limR Ls) i (nI x) = limR (Ls ++ [x]) := by
  funext j
  unfold limR
  by_cases e : j = i
  · subst e
    rw [upd_s, List.getD_eq_getElem?_getD, List.getElem?_append_right (by omega), h, Nat.sub_self]; rfl
  · rw [upd_o _ _ e]
    congr 1
    by_cases c : j < i
    · rw [List.getD_eq_getElem?_getD, List.getD_eq_getElem?_getD, List.getElem?_append_left (by omega)]
    · rw [List.getD_eq_getElem?_getD, List.getD_eq_getElem?_getD, List.getElem?_eq_none (by omega), List.getElem?_eq_none (by rw [List.length_append]; show Ls.length + 1 ≤ j; omega)]
theorem limR_at {Ls : List Nat} {x i : Nat} (h : Ls.length = i) : limR (Ls ++ [x]) i = nI x := by rw [← limR_snoc h, upd_s]
theorem lays_snoc (d : Nat × Nat × Nat) : ∀ (Ds : List (Nat × Nat × Nat)) (s : Nat → Int32), lays s (Ds ++ [d]) = sLay (lays s Ds) d.1 (nI d.2.1) (nI d.2.2) := by
  intro Ds
  induction Ds with
  | nil => intro s; rfl
  | cons e t ih => intro s; exact ih _
theorem Inc_snoc {n : Nat} {d : Nat × Nat × Nat} (h1 : d.1 < n) (h2 : 1 ≤ d.2.1 ∧ d.2.1 ≤ 99) (h3 : d.2.2 ≤ 800) : ∀ (Ds : List (Nat × Nat × Nat)) (j : Nat), Inc n j Ds → (∀ e ∈ Ds, e.1 < d.1) → j ≤ d.1 → Inc n j (Ds ++ [d]) := by
  intro Ds
  induction Ds with
  | nil => intro j _ _ hj; exact ⟨hj, h1, h2, h3, trivial⟩
  | cons e t ih =>
    intro j h he hj
    obtain ⟨a1, a2, a3, a4, a5⟩ := h
    exact ⟨a1, a2, a3, a4, ih (e.1 + 1) a5 (fun x hx => he x (List.mem_cons_of_mem _ hx)) (by have := he e List.mem_cons_self; omega)⟩
theorem lays_RH {n : Nat} : ∀ (Ds : List (Nat × Nat × Nat)) (j : Nat) (f : Nat → Nat → Int32) (s : Nat → Int32), RH n 0 f s → Inc n j Ds → ∃ f2, RH n 0 f2 (lays s Ds) := by
  intro Ds
  induction Ds with
  | nil => intro j f s h _; exact ⟨f, h⟩
  | cons d t ih =>
    intro j f s h hI
    obtain ⟨a1, a2, a3, a4, a5⟩ := hI
    exact ih (d.1 + 1) _ _ (RH_lay a2 h ⟨nI_le (a := 1) a3.1 (by omega), nI_le (b := 99) a3.2 (by decide)⟩ ⟨nI_le (a := 0) (Nat.zero_le _) (by omega), nI_le (b := 800) a4 (by decide)⟩) a5
theorem RH_set0 {F G W S V : Nat} {Ls : List Nat} {Ds : List (Nat × Nat × Nat)} (hF : F ≤ 90) (hG : G ≤ 4) (hW : W ≤ 7) (hS : S ≤ 9) (hV : V ≤ 7) (hl : 1 ≤ Ls.length ∧ Ls.length ≤ 4) (hLs : ∀ x ∈ Ls, 40 ≤ x ∧ x ≤ 90) (hD : Inc Ls.length 0 Ds) : ∃ f2, RH Ls.length 0 f2 (set0 F G W S V Ls Ds) := by
  have hsd := shd_at Ls.length (fun i => nI (Ls.getD i 0)) (nI F) (nI G) (nI W) (nI S) (nI V)
  have hr40 : ∀ i, i < Ls.length → 40 ≤ nI (Ls.getD i 0) ∧ nI (Ls.getD i 0) ≤ 90 := fun i hi => by
    have hm : Ls.getD i 0 ∈ Ls := by rw [List.getD_eq_getElem?_getD, List.getElem?_eq_getElem hi]; exact List.getElem_mem _
    have := hLs _ hm
    exact ⟨nI_le (a := 40) this.1 (by omega), nI_le (b := 90) this.2 (by decide)⟩
  have hCF : CF Ls.length (fun i => nI (Ls.getD i 0)) (fun _ => 0) := ⟨hl.1, hl.2, fun i hi => ⟨(hr40 i hi).1, (hr40 i hi).2, rfl⟩⟩
  have r0 : ∀ {x m : Nat}, x ≤ m → m ≤ 100 → 0 ≤ nI x ∧ nI x ≤ nI m := fun h hm => ⟨nI_le (a := 0) (Nat.zero_le _) (by omega), nI_le h (by omega)⟩
  exact lays_RH Ds 0 (frow (fun i => nI (Ls.getD i 0)) (fun _ => 0) (fun _ => 0) (fun _ => 0)) _ ⟨⟨rfl, hl.1, hl.2⟩, ⟨rfl, by decide⟩, r0 hF (by decide), ⟨r0 hG (by decide), r0 hW (by decide), r0 hS (by decide), r0 hV (by decide)⟩, shd_RF hCF (nI F) (nI G) (nI W) (nI S) (nI V), fun k hk => absurd hk (Nat.not_lt_zero k)⟩ hD
theorem lays_SUM {n : Nat} (hn : n ≤ 4) : ∀ (Ds : List (Nat × Nat × Nat)) (j : Nat) (s : Nat → Int32), SUM n 0 s → Inc n j Ds → (∀ i, j ≤ i → i < n → s (15 + 4 * i) = 0) → SUM n 0 (lays s Ds) := by
  intro Ds
  induction Ds with
  | nil => intro j s h _ _; exact h
  | cons d t ih =>
    intro j s h hI he
    obtain ⟨a1, a2, a3, a4, a5⟩ := hI
    exact ih (d.1 + 1) _ (h.lay a2 hn (he _ a1 a2)) a5 (fun i h1 h2 => by rw [sLay_o (by omega) (by omega) (by omega) (by omega)]; exact he i (by omega) h2)
theorem SUM_set0 {F G W S V : Nat} {Ls : List Nat} {Ds : List (Nat × Nat × Nat)} (hl : Ls.length ≤ 4) (hD : Inc Ls.length 0 Ds) : SUM Ls.length 0 (set0 F G W S V Ls Ds) := by
  have hsd := shd_at Ls.length (fun i => nI (Ls.getD i 0)) (nI F) (nI G) (nI W) (nI S) (nI V)
  refine lays_SUM hl Ds 0 _ ⟨?_, rfl, rfl⟩ hD (fun i _ _ => (hsd i).2.1)
  have : ∀ n, lsF (shd Ls.length (fun i => nI (Ls.getD i 0)) (nI F) (nI G) (nI W) (nI S) (nI V)) n = 0 := by
    intro n
    induction n with
    | zero => rfl
    | succ n ih => rw [lsF, ih, (hsd n).2.1]; rfl
  rw [this]; rfl
theorem lays_e {n : Nat} {Ls : Nat → Nat} {i : Nat} : ∀ (Ds : List (Nat × Nat × Nat)) (s : Nat → Int32), (∀ e ∈ Ds, e.1 < i) → lays s Ds (15 + 4 * i) = s (15 + 4 * i) ∧ lays s Ds (16 + 4 * i) = s (16 + 4 * i) ∧ lays s Ds (17 + 4 * i) = s (17 + 4 * i) := by
  intro Ds
  induction Ds with
  | nil => intro s _; exact ⟨rfl, rfl, rfl⟩
  | cons d t ih =>
    intro s h
    have hd := h d List.mem_cons_self
    obtain ⟨a, b, c⟩ := ih (sLay s d.1 (nI d.2.1) (nI d.2.2)) (fun e he => h e (List.mem_cons_of_mem _ he))
    exact ⟨by rw [lays, a, sLay_o (by omega) (by omega) (by omega) (by omega)], by rw [lays, b, sLay_o (by omega) (by omega) (by omega) (by omega)], by rw [lays, c, sLay_o (by omega) (by omega) (by omega) (by omega)]⟩
theorem floorsB_snoc (Ls : List Nat) (x : Nat) : floorsB (Ls ++ [x]) = floorsB Ls ++ floorB x := by unfold floorsB; rw [List.flatMap_append]; simp
theorem loadsB_snoc (Ds : List (Nat × Nat × Nat)) (d : Nat × Nat × Nat) : loadsB (Ds ++ [d]) = loadsB Ds ++ loadB d.1 d.2.1 d.2.2 := by unfold loadsB; rw [List.flatMap_append]; simp
theorem kx4 : xTx 4 5 (fun j => [111, 97, 115, 116, 32].getD j 0) ∧ xTx 5 6 (fun j => [102, 108, 111, 111, 114, 32].getD j 0) ∧ xTx 6 5 (fun j => [108, 111, 97, 100, 32].getD j 0) := by
  unfold xTx; decide +kernel
theorem dg_pos {v : Nat} : ∀ x ∈ dg v, 0 < x := by
  unfold dg
  intro x hx
  split at hx
  · simp at hx; omega
  · split at hx <;> simp at hx <;> omega
theorem setB_pos {F G W S V : Nat} {Ls : List Nat} {Ds : List (Nat × Nat × Nat)} : ∀ x ∈ setB F G W S V Ls Ds, 0 < x := by
  have hf : ∀ L, ∀ x ∈ floorB L, 0 < x := fun L x hx => by
    unfold floorB at hx
    simp only [List.mem_append, List.mem_cons, List.not_mem_nil, or_false] at hx
    rcases hx with (rfl | rfl | rfl | rfl | rfl) | rfl | h | rfl <;> first | decide | exact dg_pos x h
  have hd : ∀ i m q, ∀ x ∈ loadB i m q, 0 < x := fun i m q x hx => by
    unfold loadB at hx
    simp only [List.mem_append, List.mem_cons, List.not_mem_nil, or_false] at hx
    rcases hx with (rfl | rfl | rfl | rfl) | rfl | h | rfl | h | rfl | h | rfl <;> first | decide | exact dg_pos x h
  intro x hx
  unfold setB at hx
  rcases List.mem_append.mp hx with h | h
  · unfold oastB at h
    simp only [List.mem_append, List.mem_cons, List.not_mem_nil, or_false] at h
    rcases h with (rfl | rfl | rfl | rfl) | rfl | h | rfl | h | rfl | h | rfl | h | rfl | h | rfl <;> first | decide | exact dg_pos x h
  · rcases List.mem_append.mp h with h | h
    · obtain ⟨L, -, hL⟩ := List.mem_flatMap.mp h
      exact hf L x hL
    · obtain ⟨d, -, hd'⟩ := List.mem_flatMap.mp h
      exact hd _ _ _ x hd'
def tb_L_init : List (Nat × List xI) := [(0, [(.aload_n 0, [], 0), (.invokespecial 1, [0], 0), (.aload_n 0, [], 0), (.new 7, [16], 0), (.dup, [], 0)]), (9, [(.invokespecial 9, [], 0)]), (12, [(.putfield 10, [13, 0, 1], 0), (.return_, [], 0)])]
set_option maxRecDepth 100000 in
theorem ok_L_init : ∀ q ∈ tb_L_init, xChks mL_init q.1 q.2 = true := by decide +kernel
theorem nL_init : xNa mL_init 0 := by delta xNa; decide +kernel
set_option maxHeartbeats 4000000 in
set_option maxRecDepth 100000 in
theorem s_L_init (E : xE) (h : Nat)  : SpP E mL_init (xRm 4 80 1 3) [.ref h] [(h, .inr (13, [.null, .null, .null, .int 0, .int 0, .int 0, .int 0, .int 0, .int 0, .int 0, .int 0, .int 0, .int 0]))] (fun z => ∃ hs : Nat, z = .inl (none, [(h, .inr (13, [.ref hs, .null, .null, .int 0, .int 0, .int 0, .int 0, .int 0, .int 0, .int 0, .int 0, .int 0, .int 0])), (hs, .inr (16, [.int 0, .ref (E.2.2.1 42), .int 0]))])) := by
  refine Sp.of oL_init (L := [some (.ref h)]) rfl rfl (Nat.le_of_ble_eq_true rfl) (show BdP E mL_init (xRm 4 80 1 3) 1 3 (fun z => ∃ hs : Nat, z = .inl (none, [(h, .inr (13, [.ref hs, .null, .null, .int 0, .int 0, .int 0, .int 0, .int 0, .int 0, .int 0, .int 0, .int 0, .int 0])), (hs, .inr (16, [.int 0, .ref (E.2.2.1 42), .int 0]))])) 0 [some (.ref h)] [] [(h, .inr (13, [.null, .null, .null, .int 0, .int 0, .int 0, .int 0, .int 0, .int 0, .int 0, .int 0, .int 0, .int 0]))] 0 0 from ?_)
  refine Bd.seg ok_L_init 0 [] rfl (And.intro (And.intro (Nat.le_of_ble_eq_true rfl) (And.intro (Nat.le_of_ble_eq_true rfl) (Nat.le_of_ble_eq_true rfl))) (And.intro (And.intro (Nat.le_of_ble_eq_true rfl) (Nat.le_of_ble_eq_true rfl)) (fun hs => (show BdP E mL_init (xRm 4 80 1 3) 1 3 (fun z => ∃ hs : Nat, z = .inl (none, [(h, .inr (13, [.ref hs, .null, .null, .int 0, .int 0, .int 0, .int 0, .int 0, .int 0, .int 0, .int 0, .int 0, .int 0])), (hs, .inr (16, [.int 0, .ref (E.2.2.1 42), .int 0]))])) 9 [some (.ref h)] [.ref hs, .ref hs, .ref h] [(h, .inr (13, [.null, .null, .null, .int 0, .int 0, .int 0, .int 0, .int 0, .int 0, .int 0, .int 0, .int 0, .int 0])), (hs, .inr (16, [.int 0, .null, .int 0]))] 1 3 from ?_))))
  refine Bd.callI oJx4a65c_init_da8c8 vJx4a65c_init_da8c8 rfl rfl nJx4a65c_init_da8c8 k13_9 (xdec ok_L_init 1 rfl) (As := []) (rest := [.ref hs, .ref h]) (s_Jx4a65c_init_da8c8 E hs 0 .null (.int 0) _ rfl) ⟨(Nat.le_of_ble_eq_true rfl), (Nat.le_of_ble_eq_true rfl)⟩ rfl (Nat.le_of_ble_eq_true rfl) [1] (by decide) rfl ⟨(Nat.le_of_ble_eq_true rfl), (Nat.le_of_ble_eq_true rfl)⟩ rfl ?_
  show BdP E mL_init (xRm 4 80 1 3) 1 3 (fun z => ∃ hs : Nat, z = .inl (none, [(h, .inr (13, [.ref hs, .null, .null, .int 0, .int 0, .int 0, .int 0, .int 0, .int 0, .int 0, .int 0, .int 0, .int 0])), (hs, .inr (16, [.int 0, .ref (E.2.2.1 42), .int 0]))])) 12 [some (.ref h)] [.ref hs, .ref h] [(h, .inr (13, [.null, .null, .null, .int 0, .int 0, .int 0, .int 0, .int 0, .int 0, .int 0, .int 0, .int 0, .int 0])), (hs, .inr (16, [.int 0, .ref (E.2.2.1 42), .int 0]))] 1 3
  refine Bd.seg ok_L_init 2 [0] rfl (And.intro (And.intro rfl (And.intro rfl (Nat.le_of_ble_eq_true rfl))) (And.intro (And.intro rfl rfl) (And.intro (And.intro ⟨hs, rfl⟩ (And.intro (Nat.le_of_ble_eq_true rfl) (Nat.le_of_ble_eq_true rfl))) True.intro)))
