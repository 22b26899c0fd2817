/-! THE WORDS OF THE TABLES THAT ARE USED, each by its place -/
def xAll : List Cond := lw_tbl.filter goodWord
theorem xm0 {n : Nat} {w : Cond} (h : (k2_sels lw_privs)[n]? = some w) (hg : goodWord w = true) : w ∈ xAll := List.mem_filter.mpr ⟨List.mem_append_left _ (List.mem_of_getElem? h), hg⟩
theorem xm1 {n : Nat} {w : Cond} (h : tables_1_1[n]? = some w) (hg : goodWord w = true) : w ∈ xAll := List.mem_filter.mpr ⟨List.mem_append_right _ (List.mem_append_left _ (List.mem_of_getElem? h)), hg⟩
theorem xm2 {n : Nat} {w : Cond} (h : tables_1_2[n]? = some w) (hg : goodWord w = true) : w ∈ xAll := List.mem_filter.mpr ⟨List.mem_append_right _ (List.mem_append_right _ (List.mem_append_left _ (List.mem_of_getElem? h))), hg⟩
theorem xm3 {n : Nat} {w : Cond} (h : tables_1_3[n]? = some w) (hg : goodWord w = true) : w ∈ xAll := List.mem_filter.mpr ⟨List.mem_append_right _ (List.mem_append_right _ (List.mem_append_right _ (List.mem_append_left _ (List.mem_of_getElem? h)))), hg⟩
theorem xm4 {n : Nat} {w : Cond} (h : tables_1_4[n]? = some w) (hg : goodWord w = true) : w ∈ xAll := List.mem_filter.mpr ⟨List.mem_append_right _ (List.mem_append_right _ (List.mem_append_right _ (List.mem_append_right _ (List.mem_append_left _ (List.mem_of_getElem? h))))), hg⟩
theorem xm5 {n : Nat} {w : Cond} (h : tables_1_5[n]? = some w) (hg : goodWord w = true) : w ∈ xAll := List.mem_filter.mpr ⟨List.mem_append_right _ (List.mem_append_right _ (List.mem_append_right _ (List.mem_append_right _ (List.mem_append_right _ (List.mem_append_left _ (List.mem_of_getElem? h)))))), hg⟩
theorem xm6 {n : Nat} {w : Cond} (h : tables_1_6[n]? = some w) (hg : goodWord w = true) : w ∈ xAll := List.mem_filter.mpr ⟨List.mem_append_right _ (List.mem_append_right _ (List.mem_append_right _ (List.mem_append_right _ (List.mem_append_right _ (List.mem_append_right _ (List.mem_append_left _ (List.mem_of_getElem? h))))))), hg⟩
theorem xm7 {n : Nat} {w : Cond} (h : tables_1_7[n]? = some w) (hg : goodWord w = true) : w ∈ xAll := List.mem_filter.mpr ⟨List.mem_append_right _ (List.mem_append_right _ (List.mem_append_right _ (List.mem_append_right _ (List.mem_append_right _ (List.mem_append_right _ (List.mem_append_right _ (List.mem_append_left _ (List.mem_of_getElem? h)))))))), hg⟩
theorem xm8 {n : Nat} {w : Cond} (h : tables_1_8[n]? = some w) (hg : goodWord w = true) : w ∈ xAll := List.mem_filter.mpr ⟨List.mem_append_right _ (List.mem_append_right _ (List.mem_append_right _ (List.mem_append_right _ (List.mem_append_right _ (List.mem_append_right _ (List.mem_append_right _ (List.mem_append_right _ (List.mem_append_left _ (List.mem_of_getElem? h))))))))), hg⟩
theorem xm9 {n : Nat} {w : Cond} (h : tables_1_9[n]? = some w) (hg : goodWord w = true) : w ∈ xAll := List.mem_filter.mpr ⟨List.mem_append_right _ (List.mem_append_right _ (List.mem_append_right _ (List.mem_append_right _ (List.mem_append_right _ (List.mem_append_right _ (List.mem_append_right _ (List.mem_append_right _ (List.mem_append_right _ (List.mem_of_getElem? h))))))))), hg⟩
theorem xAll_good : ∀ w ∈ xAll, (w.onTables && w.keeps) = true ∨ ∃ ty, w = .arrayClass ty := fun _ h => good_of_word (List.mem_filter.mp h).2
def xCn (c : Nat) : String := [RX0, RX1, RX2, RX3, RX4, RX5, RX6, RX7, RX8, RX9, RX10, RX11, RX12, RL, RJ0, RJ1, RJ3].getD c ""
def xCT (c : Nat) : Nat → FieldType := [tyX0, tyX1, tyX2, tyX3, tyX4, tyX5, tyX6, tyX7, tyX8, tyX9, tyX10, tyX11, tyX12].getD c tyX0
theorem xin0 : ∀ w ∈ u_ws RX0 TX0 4, w ∈ xAll := List.forall_mem_cons.mpr ⟨xm1 (n := 62) rfl rfl, List.forall_mem_cons.mpr ⟨xm1 (n := 64) rfl rfl, List.forall_mem_cons.mpr ⟨xm1 (n := 66) rfl rfl, List.forall_mem_cons.mpr ⟨xm1 (n := 68) rfl rfl, fun _ h => nomatch h⟩⟩⟩⟩
theorem xin1 : ∀ w ∈ u_ws RX1 TX1 5, w ∈ xAll := List.forall_mem_cons.mpr ⟨xm1 (n := 94) rfl rfl, List.forall_mem_cons.mpr ⟨xm1 (n := 96) rfl rfl, List.forall_mem_cons.mpr ⟨xm1 (n := 98) rfl rfl, List.forall_mem_cons.mpr ⟨xm1 (n := 100) rfl rfl, List.forall_mem_cons.mpr ⟨xm1 (n := 102) rfl rfl, fun _ h => nomatch h⟩⟩⟩⟩⟩
theorem xin2 : ∀ w ∈ u_ws RX2 TX2 5, w ∈ xAll := List.forall_mem_cons.mpr ⟨xm1 (n := 204) rfl rfl, List.forall_mem_cons.mpr ⟨xm1 (n := 206) rfl rfl, List.forall_mem_cons.mpr ⟨xm1 (n := 208) rfl rfl, List.forall_mem_cons.mpr ⟨xm1 (n := 210) rfl rfl, List.forall_mem_cons.mpr ⟨xm1 (n := 212) rfl rfl, fun _ h => nomatch h⟩⟩⟩⟩⟩
theorem xin3 : ∀ w ∈ u_ws RX3 TX3 9, w ∈ xAll := List.forall_mem_cons.mpr ⟨xm1 (n := 171) rfl rfl, List.forall_mem_cons.mpr ⟨xm1 (n := 173) rfl rfl, List.forall_mem_cons.mpr ⟨xm1 (n := 175) rfl rfl, List.forall_mem_cons.mpr ⟨xm1 (n := 177) rfl rfl, List.forall_mem_cons.mpr ⟨xm1 (n := 179) rfl rfl, List.forall_mem_cons.mpr ⟨xm1 (n := 181) rfl rfl, List.forall_mem_cons.mpr ⟨xm1 (n := 183) rfl rfl, List.forall_mem_cons.mpr ⟨xm1 (n := 185) rfl rfl, List.forall_mem_cons.mpr ⟨xm1 (n := 187) rfl rfl, fun _ h => nomatch h⟩⟩⟩⟩⟩⟩⟩⟩⟩
theorem xin4 : ∀ w ∈ u_ws RX4 TX4 2, w ∈ xAll := List.forall_mem_cons.mpr ⟨xm2 (n := 86) rfl rfl, List.forall_mem_cons.mpr ⟨xm2 (n := 88) rfl rfl, fun _ h => nomatch h⟩⟩
theorem xin5 : ∀ w ∈ u_ws RX5 TX5 9, w ∈ xAll := List.forall_mem_cons.mpr ⟨xm1 (n := 129) rfl rfl, List.forall_mem_cons.mpr ⟨xm1 (n := 131) rfl rfl, List.forall_mem_cons.mpr ⟨xm1 (n := 133) rfl rfl, List.forall_mem_cons.mpr ⟨xm1 (n := 135) rfl rfl, List.forall_mem_cons.mpr ⟨xm1 (n := 137) rfl rfl, List.forall_mem_cons.mpr ⟨xm1 (n := 139) rfl rfl, List.forall_mem_cons.mpr ⟨xm1 (n := 141) rfl rfl, List.forall_mem_cons.mpr ⟨xm1 (n := 143) rfl rfl, List.forall_mem_cons.mpr ⟨xm1 (n := 145) rfl rfl, fun _ h => nomatch h⟩⟩⟩⟩⟩⟩⟩⟩⟩
theorem xin6 : ∀ w ∈ u_ws RX6 TX6 4, w ∈ xAll := List.forall_mem_cons.mpr ⟨xm2 (n := 43) rfl rfl, List.forall_mem_cons.mpr ⟨xm2 (n := 45) rfl rfl, List.forall_mem_cons.mpr ⟨xm2 (n := 47) rfl rfl, List.forall_mem_cons.mpr ⟨xm2 (n := 49) rfl rfl, fun _ h => nomatch h⟩⟩⟩⟩
theorem xin7 : ∀ w ∈ u_ws RX7 TX7 6, w ∈ xAll := List.forall_mem_cons.mpr ⟨xm2 (n := 64) rfl rfl, List.forall_mem_cons.mpr ⟨xm2 (n := 66) rfl rfl, List.forall_mem_cons.mpr ⟨xm2 (n := 68) rfl rfl, List.forall_mem_cons.mpr ⟨xm2 (n := 70) rfl rfl, List.forall_mem_cons.mpr ⟨xm2 (n := 72) rfl rfl, List.forall_mem_cons.mpr ⟨xm2 (n := 74) rfl rfl, fun _ h => nomatch h⟩⟩⟩⟩⟩⟩
theorem xin8 : ∀ w ∈ u_ws RX8 TX8 2, w ∈ xAll := List.forall_mem_cons.mpr ⟨xm2 (n := 26) rfl rfl, List.forall_mem_cons.mpr ⟨xm2 (n := 28) rfl rfl, fun _ h => nomatch h⟩⟩
theorem xin9 : ∀ w ∈ u_ws RX9 TX9 2, w ∈ xAll := List.forall_mem_cons.mpr ⟨xm1 (n := 226) rfl rfl, List.forall_mem_cons.mpr ⟨xm1 (n := 228) rfl rfl, fun _ h => nomatch h⟩⟩
theorem xin10 : ∀ w ∈ u_ws RX10 TX10 6, w ∈ xAll := List.forall_mem_cons.mpr ⟨xm2 (n := 5) rfl rfl, List.forall_mem_cons.mpr ⟨xm2 (n := 7) rfl rfl, List.forall_mem_cons.mpr ⟨xm2 (n := 9) rfl rfl, List.forall_mem_cons.mpr ⟨xm2 (n := 11) rfl rfl, List.forall_mem_cons.mpr ⟨xm2 (n := 13) rfl rfl, List.forall_mem_cons.mpr ⟨xm2 (n := 15) rfl rfl, fun _ h => nomatch h⟩⟩⟩⟩⟩⟩
theorem xin11 : ∀ w ∈ u_ws RX11 TX11 10, w ∈ xAll := List.forall_mem_cons.mpr ⟨xm3 (n := 78) rfl rfl, List.forall_mem_cons.mpr ⟨xm3 (n := 80) rfl rfl, List.forall_mem_cons.mpr ⟨xm3 (n := 82) rfl rfl, List.forall_mem_cons.mpr ⟨xm3 (n := 84) rfl rfl, List.forall_mem_cons.mpr ⟨xm3 (n := 86) rfl rfl, List.forall_mem_cons.mpr ⟨xm3 (n := 88) rfl rfl, List.forall_mem_cons.mpr ⟨xm3 (n := 90) rfl rfl, List.forall_mem_cons.mpr ⟨xm3 (n := 92) rfl rfl, List.forall_mem_cons.mpr ⟨xm3 (n := 94) rfl rfl, List.forall_mem_cons.mpr ⟨xm3 (n := 96) rfl rfl, fun _ h => nomatch h⟩⟩⟩⟩⟩⟩⟩⟩⟩⟩
theorem xin12 : ∀ w ∈ u_ws RX12 TX12 30, w ∈ xAll := List.forall_mem_cons.mpr ⟨xm7 (n := 32) rfl rfl, List.forall_mem_cons.mpr ⟨xm7 (n := 34) rfl rfl, List.forall_mem_cons.mpr ⟨xm7 (n := 36) rfl rfl, List.forall_mem_cons.mpr ⟨xm7 (n := 38) rfl rfl, List.forall_mem_cons.mpr ⟨xm7 (n := 40) rfl rfl, List.forall_mem_cons.mpr ⟨xm7 (n := 42) rfl rfl, List.forall_mem_cons.mpr ⟨xm7 (n := 44) rfl rfl, List.forall_mem_cons.mpr ⟨xm7 (n := 46) rfl rfl, List.forall_mem_cons.mpr ⟨xm7 (n := 48) rfl rfl, List.forall_mem_cons.mpr ⟨xm7 (n := 50) rfl rfl, List.forall_mem_cons.mpr ⟨xm7 (n := 52) rfl rfl, List.forall_mem_cons.mpr ⟨xm7 (n := 54) rfl rfl, List.forall_mem_cons.mpr ⟨xm7 (n := 56) rfl rfl, List.forall_mem_cons.mpr ⟨xm7 (n := 58) rfl rfl, List.forall_mem_cons.mpr ⟨xm7 (n := 60) rfl rfl, List.forall_mem_cons.mpr ⟨xm7 (n := 62) rfl rfl, List.forall_mem_cons.mpr ⟨xm7 (n := 64) rfl rfl, List.forall_mem_cons.mpr ⟨xm7 (n := 66) rfl rfl, List.forall_mem_cons.mpr ⟨xm7 (n := 68) rfl rfl, List.forall_mem_cons.mpr ⟨xm7 (n := 70) rfl rfl, List.forall_mem_cons.mpr ⟨xm7 (n := 72) rfl rfl, List.forall_mem_cons.mpr ⟨xm7 (n := 74) rfl rfl, List.forall_mem_cons.mpr ⟨xm7 (n := 76) rfl rfl, List.forall_mem_cons.mpr ⟨xm7 (n := 78) rfl rfl, List.forall_mem_cons.mpr ⟨xm7 (n := 80) rfl rfl, List.forall_mem_cons.mpr ⟨xm7 (n := 82) rfl rfl, List.forall_mem_cons.mpr ⟨xm7 (n := 84) rfl rfl, List.forall_mem_cons.mpr ⟨xm7 (n := 86) rfl rfl, List.forall_mem_cons.mpr ⟨xm7 (n := 88) rfl rfl, List.forall_mem_cons.mpr ⟨xm7 (n := 90) rfl rfl, fun _ h => nomatch h⟩⟩⟩⟩⟩⟩⟩⟩⟩⟩⟩⟩⟩⟩⟩⟩⟩⟩⟩⟩⟩⟩⟩⟩⟩⟩⟩⟩⟩⟩
theorem xCl : ∀ (ci : Nat) (r : vw_C), vwCl[ci]? = some r → (∀ w ∈ u_ws r.1 r.2.1 r.2.2, w ∈ xAll) ∧ (∀ k, k < r.2.2 → parseFieldDescriptor (r.2.1 k).2.2.1 = some (xCT ci k)) ∧ (∀ a, a < r.2.2 → ∀ b, b < r.2.2 → a ≠ b → (r.2.1 a).2.1 ≠ (r.2.1 b).2.1) := by
  intro ci r h
  have hl : ci < 13 := (List.getElem?_eq_some_iff.mp h).1
  rcases (show ci = 0 ∨ ci = 1 ∨ ci = 2 ∨ ci = 3 ∨ ci = 4 ∨ ci = 5 ∨ ci = 6 ∨ ci = 7 ∨ ci = 8 ∨ ci = 9 ∨ ci = 10 ∨ ci = 11 ∨ ci = 12 by omega) with rfl | rfl | rfl | rfl | rfl | rfl | rfl | rfl | rfl | rfl | rfl | rfl | rfl
  · cases h; exact ⟨xin0, tyX0_ok, nmX0⟩
  · cases h; exact ⟨xin1, tyX1_ok, nmX1⟩
  · cases h; exact ⟨xin2, tyX2_ok, nmX2⟩
  · cases h; exact ⟨xin3, tyX3_ok, nmX3⟩
  · cases h; exact ⟨xin4, tyX4_ok, nmX4⟩
  · cases h; exact ⟨xin5, tyX5_ok, nmX5⟩
  · cases h; exact ⟨xin6, tyX6_ok, nmX6⟩
  · cases h; exact ⟨xin7, tyX7_ok, nmX7⟩
  · cases h; exact ⟨xin8, tyX8_ok, nmX8⟩
  · cases h; exact ⟨xin9, tyX9_ok, nmX9⟩
  · cases h; exact ⟨xin10, tyX10_ok, nmX10⟩
  · cases h; exact ⟨xin11, tyX11_ok, nmX11⟩
  · cases h; exact ⟨xin12, tyX12_ok, nmX12⟩
def xFT : List (Nat × Nat × Nat × Nat) := [(11, 10, 11, 0), (11, 16, 11, 1), (11, 19, 11, 2), (11, 25, 11, 3), (11, 32, 11, 4), (11, 41, 11, 5), (11, 50, 11, 6), (11, 57, 11, 7), (11, 66, 11, 8), (11, 73, 11, 9), (11, 100, 9, 0), (11, 122, 10, 0), (11, 136, 6, 0), (11, 145, 10, 1), (11, 148, 3, 0), (11, 151, 3, 1), (11, 154, 3, 5), (11, 158, 0, 0), (11, 163, 0, 1), (11, 166, 0, 2), (11, 169, 0, 3), (11, 178, 3, 6), (11, 182, 1, 0), (11, 190, 1, 1), (11, 201, 1, 2), (11, 207, 1, 3), (11, 210, 1, 4), (11, 225, 3, 7), (11, 229, 5, 0), (11, 235, 5, 4), (11, 238, 5, 5), (11, 239, 5, 6), (11, 240, 5, 8), (11, 258, 3, 2), (11, 261, 5, 1), (11, 264, 5, 2), (11, 267, 5, 3), (11, 270, 3, 3), (11, 273, 3, 4), (11, 363, 4, 0), (11, 374, 2, 0), (0, 9, 0, 0), (0, 15, 0, 1), (0, 18, 0, 2), (0, 21, 0, 3), (1, 9, 1, 1), (1, 15, 1, 2), (1, 18, 1, 3), (1, 21, 1, 4), (1, 24, 1, 0), (2, 11, 2, 2), (2, 17, 2, 3), (2, 20, 2, 4), (2, 24, 2, 1), (2, 28, 2, 0), (3, 12, 3, 5), (3, 21, 3, 6), (3, 28, 3, 7), (3, 32, 3, 8), (3, 36, 3, 0), (3, 40, 3, 1), (3, 43, 3, 2), (3, 46, 3, 3), (3, 49, 3, 4), (3, 81, 1, 0), (3, 87, 1, 1), (3, 117, 1, 2), (3, 126, 0, 0), (3, 129, 0, 1), (3, 132, 0, 2), (4, 9, 4, 1), (4, 15, 4, 0), (5, 9, 5, 4), (5, 15, 5, 5), (5, 18, 5, 6), (5, 21, 5, 7), (5, 24, 5, 8), (5, 27, 5, 0), (5, 31, 5, 1), (5, 34, 5, 2), (5, 37, 5, 3), (5, 57, 1, 2), (5, 60, 1, 3), (5, 61, 1, 4), (6, 9, 6, 1), (6, 15, 6, 2), (6, 18, 6, 3), (6, 21, 6, 0), (6, 39, 3, 7), (7, 9, 7, 4), (7, 15, 7, 5), (7, 18, 7, 0), (7, 22, 7, 1), (7, 31, 6, 0), (7, 37, 7, 2), (7, 40, 7, 3), (8, 9, 8, 0), (8, 15, 8, 1), (8, 24, 3, 6), (8, 30, 1, 0), (8, 36, 3, 2), (8, 70, 3, 3), (8, 83, 3, 1), (8, 86, 3, 5), (8, 90, 0, 0), (8, 95, 0, 1), (8, 98, 0, 2), (8, 101, 0, 3), (9, 9, 9, 1), (9, 15, 9, 0), (10, 9, 10, 1), (10, 15, 10, 2), (10, 19, 10, 0), (10, 22, 10, 5), (10, 28, 10, 4), (10, 35, 9, 0), (10, 51, 10, 3), (12, 7, 12, 0), (12, 13, 12, 1), (12, 16, 12, 2), (12, 19, 12, 3), (12, 22, 12, 4), (12, 25, 12, 5), (12, 29, 12, 8), (12, 32, 12, 9), (12, 35, 12, 19), (12, 39, 12, 26), (12, 42, 12, 27), (12, 45, 12, 28), (12, 59, 12, 7), (12, 148, 12, 10), (12, 161, 12, 11), (12, 172, 12, 12), (12, 178, 12, 13), (12, 181, 12, 14), (12, 187, 12, 20), (12, 198, 12, 15), (12, 202, 12, 16), (12, 205, 12, 17), (12, 246, 12, 18), (12, 265, 12, 6), (12, 286, 12, 21), (12, 290, 12, 22), (12, 293, 12, 25), (12, 315, 12, 24), (12, 340, 12, 23), (12, 408, 12, 29)]
def xFok (q : Nat × Nat × Nat × Nat) : Prop := ∃ r, vwCl[q.2.2.1]? = some r ∧ q.2.2.2 < r.2.2 ∧ Cond.fieldLink (xCn q.1) q.2.1 (r.2.1 q.2.2.2).1 (r.2.1 q.2.2.2).2.1 (r.2.1 q.2.2.2).2.2.1 ∈ xAll
theorem xf0 : xFok (11, 10, 11, 0) := ⟨_, rfl, Nat.le_of_ble_eq_true rfl, xm3 (n := 68) rfl rfl⟩
theorem xf1 : xFok (11, 16, 11, 1) := ⟨_, rfl, Nat.le_of_ble_eq_true rfl, xm3 (n := 69) rfl rfl⟩
theorem xf2 : xFok (11, 19, 11, 2) := ⟨_, rfl, Nat.le_of_ble_eq_true rfl, xm3 (n := 70) rfl rfl⟩
theorem xf3 : xFok (11, 25, 11, 3) := ⟨_, rfl, Nat.le_of_ble_eq_true rfl, xm3 (n := 71) rfl rfl⟩
theorem xf4 : xFok (11, 32, 11, 4) := ⟨_, rfl, Nat.le_of_ble_eq_true rfl, xm3 (n := 72) rfl rfl⟩
theorem xf5 : xFok (11, 41, 11, 5) := ⟨_, rfl, Nat.le_of_ble_eq_true rfl, xm3 (n := 73) rfl rfl⟩
theorem xf6 : xFok (11, 50, 11, 6) := ⟨_, rfl, Nat.le_of_ble_eq_true rfl, xm3 (n := 74) rfl rfl⟩
theorem xf7 : xFok (11, 57, 11, 7) := ⟨_, rfl, Nat.le_of_ble_eq_true rfl, xm3 (n := 75) rfl rfl⟩
theorem xf8 : xFok (11, 66, 11, 8) := ⟨_, rfl, Nat.le_of_ble_eq_true rfl, xm3 (n := 76) rfl rfl⟩
theorem xf9 : xFok (11, 73, 11, 9) := ⟨_, rfl, Nat.le_of_ble_eq_true rfl, xm3 (n := 77) rfl rfl⟩
theorem xf10 : xFok (11, 100, 9, 0) := ⟨_, rfl, Nat.le_of_ble_eq_true rfl, xm1 (n := 223) rfl rfl⟩
theorem xf11 : xFok (11, 122, 10, 0) := ⟨_, rfl, Nat.le_of_ble_eq_true rfl, xm1 (n := 238) rfl rfl⟩
theorem xf12 : xFok (11, 136, 6, 0) := ⟨_, rfl, Nat.le_of_ble_eq_true rfl, xm2 (n := 39) rfl rfl⟩
theorem xf13 : xFok (11, 145, 10, 1) := ⟨_, rfl, Nat.le_of_ble_eq_true rfl, xm2 (n := 0) rfl rfl⟩
theorem xf14 : xFok (11, 148, 3, 0) := ⟨_, rfl, Nat.le_of_ble_eq_true rfl, xm1 (n := 149) rfl rfl⟩
theorem xf15 : xFok (11, 151, 3, 1) := ⟨_, rfl, Nat.le_of_ble_eq_true rfl, xm1 (n := 152) rfl rfl⟩
theorem xf16 : xFok (11, 154, 3, 5) := ⟨_, rfl, Nat.le_of_ble_eq_true rfl, xm1 (n := 163) rfl rfl⟩
theorem xf17 : xFok (11, 158, 0, 0) := ⟨_, rfl, Nat.le_of_ble_eq_true rfl, xm1 (n := 49) rfl rfl⟩
theorem xf18 : xFok (11, 163, 0, 1) := ⟨_, rfl, Nat.le_of_ble_eq_true rfl, xm1 (n := 53) rfl rfl⟩
theorem xf19 : xFok (11, 166, 0, 2) := ⟨_, rfl, Nat.le_of_ble_eq_true rfl, xm1 (n := 57) rfl rfl⟩
theorem xf20 : xFok (11, 169, 0, 3) := ⟨_, rfl, Nat.le_of_ble_eq_true rfl, xm1 (n := 61) rfl rfl⟩
theorem xf21 : xFok (11, 178, 3, 6) := ⟨_, rfl, Nat.le_of_ble_eq_true rfl, xm1 (n := 166) rfl rfl⟩
theorem xf22 : xFok (11, 182, 1, 0) := ⟨_, rfl, Nat.le_of_ble_eq_true rfl, xm1 (n := 80) rfl rfl⟩
theorem xf23 : xFok (11, 190, 1, 1) := ⟨_, rfl, Nat.le_of_ble_eq_true rfl, xm1 (n := 83) rfl rfl⟩
theorem xf24 : xFok (11, 201, 1, 2) := ⟨_, rfl, Nat.le_of_ble_eq_true rfl, xm1 (n := 87) rfl rfl⟩
theorem xf25 : xFok (11, 207, 1, 3) := ⟨_, rfl, Nat.le_of_ble_eq_true rfl, xm1 (n := 90) rfl rfl⟩
theorem xf26 : xFok (11, 210, 1, 4) := ⟨_, rfl, Nat.le_of_ble_eq_true rfl, xm1 (n := 93) rfl rfl⟩
theorem xf27 : xFok (11, 225, 3, 7) := ⟨_, rfl, Nat.le_of_ble_eq_true rfl, xm1 (n := 169) rfl rfl⟩
theorem xf28 : xFok (11, 229, 5, 0) := ⟨_, rfl, Nat.le_of_ble_eq_true rfl, xm1 (n := 113) rfl rfl⟩
theorem xf29 : xFok (11, 235, 5, 4) := ⟨_, rfl, Nat.le_of_ble_eq_true rfl, xm1 (n := 121) rfl rfl⟩
theorem xf30 : xFok (11, 238, 5, 5) := ⟨_, rfl, Nat.le_of_ble_eq_true rfl, xm1 (n := 123) rfl rfl⟩
theorem xf31 : xFok (11, 239, 5, 6) := ⟨_, rfl, Nat.le_of_ble_eq_true rfl, xm1 (n := 125) rfl rfl⟩
theorem xf32 : xFok (11, 240, 5, 8) := ⟨_, rfl, Nat.le_of_ble_eq_true rfl, xm1 (n := 128) rfl rfl⟩
theorem xf33 : xFok (11, 258, 3, 2) := ⟨_, rfl, Nat.le_of_ble_eq_true rfl, xm1 (n := 155) rfl rfl⟩
theorem xf34 : xFok (11, 261, 5, 1) := ⟨_, rfl, Nat.le_of_ble_eq_true rfl, xm1 (n := 115) rfl rfl⟩
theorem xf35 : xFok (11, 264, 5, 2) := ⟨_, rfl, Nat.le_of_ble_eq_true rfl, xm1 (n := 117) rfl rfl⟩
theorem xf36 : xFok (11, 267, 5, 3) := ⟨_, rfl, Nat.le_of_ble_eq_true rfl, xm1 (n := 119) rfl rfl⟩
theorem xf37 : xFok (11, 270, 3, 3) := ⟨_, rfl, Nat.le_of_ble_eq_true rfl, xm1 (n := 158) rfl rfl⟩
theorem xf38 : xFok (11, 273, 3, 4) := ⟨_, rfl, Nat.le_of_ble_eq_true rfl, xm1 (n := 160) rfl rfl⟩
theorem xf39 : xFok (11, 363, 4, 0) := ⟨_, rfl, Nat.le_of_ble_eq_true rfl, xm2 (n := 84) rfl rfl⟩
theorem xf40 : xFok (11, 374, 2, 0) := ⟨_, rfl, Nat.le_of_ble_eq_true rfl, xm1 (n := 199) rfl rfl⟩
theorem xf41 : xFok (0, 9, 0, 0) := ⟨_, rfl, Nat.le_of_ble_eq_true rfl, xm1 (n := 47) rfl rfl⟩
theorem xf42 : xFok (0, 15, 0, 1) := ⟨_, rfl, Nat.le_of_ble_eq_true rfl, xm1 (n := 51) rfl rfl⟩
theorem xf43 : xFok (0, 18, 0, 2) := ⟨_, rfl, Nat.le_of_ble_eq_true rfl, xm1 (n := 55) rfl rfl⟩
theorem xf44 : xFok (0, 21, 0, 3) := ⟨_, rfl, Nat.le_of_ble_eq_true rfl, xm1 (n := 59) rfl rfl⟩
theorem xf45 : xFok (1, 9, 1, 1) := ⟨_, rfl, Nat.le_of_ble_eq_true rfl, xm1 (n := 81) rfl rfl⟩
theorem xf46 : xFok (1, 15, 1, 2) := ⟨_, rfl, Nat.le_of_ble_eq_true rfl, xm1 (n := 84) rfl rfl⟩
theorem xf47 : xFok (1, 18, 1, 3) := ⟨_, rfl, Nat.le_of_ble_eq_true rfl, xm1 (n := 88) rfl rfl⟩
theorem xf48 : xFok (1, 21, 1, 4) := ⟨_, rfl, Nat.le_of_ble_eq_true rfl, xm1 (n := 91) rfl rfl⟩
theorem xf49 : xFok (1, 24, 1, 0) := ⟨_, rfl, Nat.le_of_ble_eq_true rfl, xm1 (n := 77) rfl rfl⟩
theorem xf50 : xFok (2, 11, 2, 2) := ⟨_, rfl, Nat.le_of_ble_eq_true rfl, xm1 (n := 201) rfl rfl⟩
theorem xf51 : xFok (2, 17, 2, 3) := ⟨_, rfl, Nat.le_of_ble_eq_true rfl, xm1 (n := 202) rfl rfl⟩
theorem xf52 : xFok (2, 20, 2, 4) := ⟨_, rfl, Nat.le_of_ble_eq_true rfl, xm1 (n := 203) rfl rfl⟩
theorem xf53 : xFok (2, 24, 2, 1) := ⟨_, rfl, Nat.le_of_ble_eq_true rfl, xm1 (n := 200) rfl rfl⟩
theorem xf54 : xFok (2, 28, 2, 0) := ⟨_, rfl, Nat.le_of_ble_eq_true rfl, xm1 (n := 198) rfl rfl⟩
theorem xf55 : xFok (3, 12, 3, 5) := ⟨_, rfl, Nat.le_of_ble_eq_true rfl, xm1 (n := 161) rfl rfl⟩
theorem xf56 : xFok (3, 21, 3, 6) := ⟨_, rfl, Nat.le_of_ble_eq_true rfl, xm1 (n := 164) rfl rfl⟩
theorem xf57 : xFok (3, 28, 3, 7) := ⟨_, rfl, Nat.le_of_ble_eq_true rfl, xm1 (n := 167) rfl rfl⟩
theorem xf58 : xFok (3, 32, 3, 8) := ⟨_, rfl, Nat.le_of_ble_eq_true rfl, xm1 (n := 170) rfl rfl⟩
theorem xf59 : xFok (3, 36, 3, 0) := ⟨_, rfl, Nat.le_of_ble_eq_true rfl, xm1 (n := 148) rfl rfl⟩
theorem xf60 : xFok (3, 40, 3, 1) := ⟨_, rfl, Nat.le_of_ble_eq_true rfl, xm1 (n := 150) rfl rfl⟩
theorem xf61 : xFok (3, 43, 3, 2) := ⟨_, rfl, Nat.le_of_ble_eq_true rfl, xm1 (n := 153) rfl rfl⟩
theorem xf62 : xFok (3, 46, 3, 3) := ⟨_, rfl, Nat.le_of_ble_eq_true rfl, xm1 (n := 156) rfl rfl⟩
theorem xf63 : xFok (3, 49, 3, 4) := ⟨_, rfl, Nat.le_of_ble_eq_true rfl, xm1 (n := 159) rfl rfl⟩
theorem xf64 : xFok (3, 81, 1, 0) := ⟨_, rfl, Nat.le_of_ble_eq_true rfl, xm1 (n := 79) rfl rfl⟩
theorem xf65 : xFok (3, 87, 1, 1) := ⟨_, rfl, Nat.le_of_ble_eq_true rfl, xm1 (n := 82) rfl rfl⟩
theorem xf66 : xFok (3, 117, 1, 2) := ⟨_, rfl, Nat.le_of_ble_eq_true rfl, xm1 (n := 86) rfl rfl⟩
theorem xf67 : xFok (3, 126, 0, 0) := ⟨_, rfl, Nat.le_of_ble_eq_true rfl, xm1 (n := 50) rfl rfl⟩
theorem xf68 : xFok (3, 129, 0, 1) := ⟨_, rfl, Nat.le_of_ble_eq_true rfl, xm1 (n := 54) rfl rfl⟩
theorem xf69 : xFok (3, 132, 0, 2) := ⟨_, rfl, Nat.le_of_ble_eq_true rfl, xm1 (n := 58) rfl rfl⟩
theorem xf70 : xFok (4, 9, 4, 1) := ⟨_, rfl, Nat.le_of_ble_eq_true rfl, xm2 (n := 85) rfl rfl⟩
theorem xf71 : xFok (4, 15, 4, 0) := ⟨_, rfl, Nat.le_of_ble_eq_true rfl, xm2 (n := 83) rfl rfl⟩
theorem xf72 : xFok (5, 9, 5, 4) := ⟨_, rfl, Nat.le_of_ble_eq_true rfl, xm1 (n := 120) rfl rfl⟩
theorem xf73 : xFok (5, 15, 5, 5) := ⟨_, rfl, Nat.le_of_ble_eq_true rfl, xm1 (n := 122) rfl rfl⟩
theorem xf74 : xFok (5, 18, 5, 6) := ⟨_, rfl, Nat.le_of_ble_eq_true rfl, xm1 (n := 124) rfl rfl⟩
theorem xf75 : xFok (5, 21, 5, 7) := ⟨_, rfl, Nat.le_of_ble_eq_true rfl, xm1 (n := 126) rfl rfl⟩
theorem xf76 : xFok (5, 24, 5, 8) := ⟨_, rfl, Nat.le_of_ble_eq_true rfl, xm1 (n := 127) rfl rfl⟩
theorem xf77 : xFok (5, 27, 5, 0) := ⟨_, rfl, Nat.le_of_ble_eq_true rfl, xm1 (n := 112) rfl rfl⟩
theorem xf78 : xFok (5, 31, 5, 1) := ⟨_, rfl, Nat.le_of_ble_eq_true rfl, xm1 (n := 114) rfl rfl⟩
theorem xf79 : xFok (5, 34, 5, 2) := ⟨_, rfl, Nat.le_of_ble_eq_true rfl, xm1 (n := 116) rfl rfl⟩
theorem xf80 : xFok (5, 37, 5, 3) := ⟨_, rfl, Nat.le_of_ble_eq_true rfl, xm1 (n := 118) rfl rfl⟩
theorem xf81 : xFok (5, 57, 1, 2) := ⟨_, rfl, Nat.le_of_ble_eq_true rfl, xm1 (n := 85) rfl rfl⟩
theorem xf82 : xFok (5, 60, 1, 3) := ⟨_, rfl, Nat.le_of_ble_eq_true rfl, xm1 (n := 89) rfl rfl⟩
theorem xf83 : xFok (5, 61, 1, 4) := ⟨_, rfl, Nat.le_of_ble_eq_true rfl, xm1 (n := 92) rfl rfl⟩
theorem xf84 : xFok (6, 9, 6, 1) := ⟨_, rfl, Nat.le_of_ble_eq_true rfl, xm2 (n := 40) rfl rfl⟩
theorem xf85 : xFok (6, 15, 6, 2) := ⟨_, rfl, Nat.le_of_ble_eq_true rfl, xm2 (n := 41) rfl rfl⟩
theorem xf86 : xFok (6, 18, 6, 3) := ⟨_, rfl, Nat.le_of_ble_eq_true rfl, xm2 (n := 42) rfl rfl⟩
theorem xf87 : xFok (6, 21, 6, 0) := ⟨_, rfl, Nat.le_of_ble_eq_true rfl, xm2 (n := 37) rfl rfl⟩
theorem xf88 : xFok (6, 39, 3, 7) := ⟨_, rfl, Nat.le_of_ble_eq_true rfl, xm1 (n := 168) rfl rfl⟩
theorem xf89 : xFok (7, 9, 7, 4) := ⟨_, rfl, Nat.le_of_ble_eq_true rfl, xm2 (n := 62) rfl rfl⟩
theorem xf90 : xFok (7, 15, 7, 5) := ⟨_, rfl, Nat.le_of_ble_eq_true rfl, xm2 (n := 63) rfl rfl⟩
theorem xf91 : xFok (7, 18, 7, 0) := ⟨_, rfl, Nat.le_of_ble_eq_true rfl, xm2 (n := 58) rfl rfl⟩
theorem xf92 : xFok (7, 22, 7, 1) := ⟨_, rfl, Nat.le_of_ble_eq_true rfl, xm2 (n := 59) rfl rfl⟩
theorem xf93 : xFok (7, 31, 6, 0) := ⟨_, rfl, Nat.le_of_ble_eq_true rfl, xm2 (n := 38) rfl rfl⟩
theorem xf94 : xFok (7, 37, 7, 2) := ⟨_, rfl, Nat.le_of_ble_eq_true rfl, xm2 (n := 60) rfl rfl⟩
theorem xf95 : xFok (7, 40, 7, 3) := ⟨_, rfl, Nat.le_of_ble_eq_true rfl, xm2 (n := 61) rfl rfl⟩
theorem xf96 : xFok (8, 9, 8, 0) := ⟨_, rfl, Nat.le_of_ble_eq_true rfl, xm2 (n := 24) rfl rfl⟩
theorem xf97 : xFok (8, 15, 8, 1) := ⟨_, rfl, Nat.le_of_ble_eq_true rfl, xm2 (n := 25) rfl rfl⟩
theorem xf98 : xFok (8, 24, 3, 6) := ⟨_, rfl, Nat.le_of_ble_eq_true rfl, xm1 (n := 165) rfl rfl⟩
theorem xf99 : xFok (8, 30, 1, 0) := ⟨_, rfl, Nat.le_of_ble_eq_true rfl, xm1 (n := 78) rfl rfl⟩
theorem xf100 : xFok (8, 36, 3, 2) := ⟨_, rfl, Nat.le_of_ble_eq_true rfl, xm1 (n := 154) rfl rfl⟩
theorem xf101 : xFok (8, 70, 3, 3) := ⟨_, rfl, Nat.le_of_ble_eq_true rfl, xm1 (n := 157) rfl rfl⟩
theorem xf102 : xFok (8, 83, 3, 1) := ⟨_, rfl, Nat.le_of_ble_eq_true rfl, xm1 (n := 151) rfl rfl⟩
theorem xf103 : xFok (8, 86, 3, 5) := ⟨_, rfl, Nat.le_of_ble_eq_true rfl, xm1 (n := 162) rfl rfl⟩
theorem xf104 : xFok (8, 90, 0, 0) := ⟨_, rfl, Nat.le_of_ble_eq_true rfl, xm1 (n := 48) rfl rfl⟩
theorem xf105 : xFok (8, 95, 0, 1) := ⟨_, rfl, Nat.le_of_ble_eq_true rfl, xm1 (n := 52) rfl rfl⟩
theorem xf106 : xFok (8, 98, 0, 2) := ⟨_, rfl, Nat.le_of_ble_eq_true rfl, xm1 (n := 56) rfl rfl⟩
theorem xf107 : xFok (8, 101, 0, 3) := ⟨_, rfl, Nat.le_of_ble_eq_true rfl, xm1 (n := 60) rfl rfl⟩
theorem xf108 : xFok (9, 9, 9, 1) := ⟨_, rfl, Nat.le_of_ble_eq_true rfl, xm1 (n := 225) rfl rfl⟩
theorem xf109 : xFok (9, 15, 9, 0) := ⟨_, rfl, Nat.le_of_ble_eq_true rfl, xm1 (n := 222) rfl rfl⟩
theorem xf110 : xFok (10, 9, 10, 1) := ⟨_, rfl, Nat.le_of_ble_eq_true rfl, xm1 (n := 239) rfl rfl⟩
theorem xf111 : xFok (10, 15, 10, 2) := ⟨_, rfl, Nat.le_of_ble_eq_true rfl, xm2 (n := 1) rfl rfl⟩
theorem xf112 : xFok (10, 19, 10, 0) := ⟨_, rfl, Nat.le_of_ble_eq_true rfl, xm1 (n := 237) rfl rfl⟩
theorem xf113 : xFok (10, 22, 10, 5) := ⟨_, rfl, Nat.le_of_ble_eq_true rfl, xm2 (n := 4) rfl rfl⟩
theorem xf114 : xFok (10, 28, 10, 4) := ⟨_, rfl, Nat.le_of_ble_eq_true rfl, xm2 (n := 3) rfl rfl⟩
theorem xf115 : xFok (10, 35, 9, 0) := ⟨_, rfl, Nat.le_of_ble_eq_true rfl, xm1 (n := 224) rfl rfl⟩
theorem xf116 : xFok (10, 51, 10, 3) := ⟨_, rfl, Nat.le_of_ble_eq_true rfl, xm2 (n := 2) rfl rfl⟩
theorem xf117 : xFok (12, 7, 12, 0) := ⟨_, rfl, Nat.le_of_ble_eq_true rfl, xm7 (n := 2) rfl rfl⟩
theorem xf118 : xFok (12, 13, 12, 1) := ⟨_, rfl, Nat.le_of_ble_eq_true rfl, xm7 (n := 3) rfl rfl⟩
theorem xf119 : xFok (12, 16, 12, 2) := ⟨_, rfl, Nat.le_of_ble_eq_true rfl, xm7 (n := 4) rfl rfl⟩
theorem xf120 : xFok (12, 19, 12, 3) := ⟨_, rfl, Nat.le_of_ble_eq_true rfl, xm7 (n := 5) rfl rfl⟩
theorem xf121 : xFok (12, 22, 12, 4) := ⟨_, rfl, Nat.le_of_ble_eq_true rfl, xm7 (n := 6) rfl rfl⟩
theorem xf122 : xFok (12, 25, 12, 5) := ⟨_, rfl, Nat.le_of_ble_eq_true rfl, xm7 (n := 7) rfl rfl⟩
theorem xf123 : xFok (12, 29, 12, 8) := ⟨_, rfl, Nat.le_of_ble_eq_true rfl, xm7 (n := 10) rfl rfl⟩
theorem xf124 : xFok (12, 32, 12, 9) := ⟨_, rfl, Nat.le_of_ble_eq_true rfl, xm7 (n := 11) rfl rfl⟩
theorem xf125 : xFok (12, 35, 12, 19) := ⟨_, rfl, Nat.le_of_ble_eq_true rfl, xm7 (n := 21) rfl rfl⟩
theorem xf126 : xFok (12, 39, 12, 26) := ⟨_, rfl, Nat.le_of_ble_eq_true rfl, xm7 (n := 28) rfl rfl⟩
theorem xf127 : xFok (12, 42, 12, 27) := ⟨_, rfl, Nat.le_of_ble_eq_true rfl, xm7 (n := 29) rfl rfl⟩
theorem xf128 : xFok (12, 45, 12, 28) := ⟨_, rfl, Nat.le_of_ble_eq_true rfl, xm7 (n := 30) rfl rfl⟩
theorem xf129 : xFok (12, 59, 12, 7) := ⟨_, rfl, Nat.le_of_ble_eq_true rfl, xm7 (n := 9) rfl rfl⟩
theorem xf130 : xFok (12, 148, 12, 10) := ⟨_, rfl, Nat.le_of_ble_eq_true rfl, xm7 (n := 12) rfl rfl⟩
theorem xf131 : xFok (12, 161, 12, 11) := ⟨_, rfl, Nat.le_of_ble_eq_true rfl, xm7 (n := 13) rfl rfl⟩
theorem xf132 : xFok (12, 172, 12, 12) := ⟨_, rfl, Nat.le_of_ble_eq_true rfl, xm7 (n := 14) rfl rfl⟩
theorem xf133 : xFok (12, 178, 12, 13) := ⟨_, rfl, Nat.le_of_ble_eq_true rfl, xm7 (n := 15) rfl rfl⟩
theorem xf134 : xFok (12, 181, 12, 14) := ⟨_, rfl, Nat.le_of_ble_eq_true rfl, xm7 (n := 16) rfl rfl⟩
theorem xf135 : xFok (12, 187, 12, 20) := ⟨_, rfl, Nat.le_of_ble_eq_true rfl, xm7 (n := 22) rfl rfl⟩
theorem xf136 : xFok (12, 198, 12, 15) := ⟨_, rfl, Nat.le_of_ble_eq_true rfl, xm7 (n := 17) rfl rfl⟩
theorem xf137 : xFok (12, 202, 12, 16) := ⟨_, rfl, Nat.le_of_ble_eq_true rfl, xm7 (n := 18) rfl rfl⟩
theorem xf138 : xFok (12, 205, 12, 17) := ⟨_, rfl, Nat.le_of_ble_eq_true rfl, xm7 (n := 19) rfl rfl⟩
theorem xf139 : xFok (12, 246, 12, 18) := ⟨_, rfl, Nat.le_of_ble_eq_true rfl, xm7 (n := 20) rfl rfl⟩
theorem xf140 : xFok (12, 265, 12, 6) := ⟨_, rfl, Nat.le_of_ble_eq_true rfl, xm7 (n := 8) rfl rfl⟩
theorem xf141 : xFok (12, 286, 12, 21) := ⟨_, rfl, Nat.le_of_ble_eq_true rfl, xm7 (n := 23) rfl rfl⟩
theorem xf142 : xFok (12, 290, 12, 22) := ⟨_, rfl, Nat.le_of_ble_eq_true rfl, xm7 (n := 24) rfl rfl⟩
theorem xf143 : xFok (12, 293, 12, 25) := ⟨_, rfl, Nat.le_of_ble_eq_true rfl, xm7 (n := 27) rfl rfl⟩
theorem xf144 : xFok (12, 315, 12, 24) := ⟨_, rfl, Nat.le_of_ble_eq_true rfl, xm7 (n := 26) rfl rfl⟩
theorem xf145 : xFok (12, 340, 12, 23) := ⟨_, rfl, Nat.le_of_ble_eq_true rfl, xm7 (n := 25) rfl rfl⟩
theorem xf146 : xFok (12, 408, 12, 29) := ⟨_, rfl, Nat.le_of_ble_eq_true rfl, xm7 (n := 31) rfl rfl⟩
theorem xFT_ok : ∀ q ∈ xFT, xFok q := List.forall_mem_cons.mpr ⟨xf0, List.forall_mem_cons.mpr ⟨xf1, List.forall_mem_cons.mpr ⟨xf2, List.forall_mem_cons.mpr ⟨xf3, List.forall_mem_cons.mpr ⟨xf4, List.forall_mem_cons.mpr ⟨xf5, List.forall_mem_cons.mpr ⟨xf6, List.forall_mem_cons.mpr ⟨xf7, List.forall_mem_cons.mpr ⟨xf8, List.forall_mem_cons.mpr ⟨xf9, List.forall_mem_cons.mpr ⟨xf10, List.forall_mem_cons.mpr ⟨xf11, List.forall_mem_cons.mpr ⟨xf12, List.forall_mem_cons.mpr ⟨xf13, List.forall_mem_cons.mpr ⟨xf14, List.forall_mem_cons.mpr ⟨xf15, List.forall_mem_cons.mpr ⟨xf16, List.forall_mem_cons.mpr ⟨xf17, List.forall_mem_cons.mpr ⟨xf18, List.forall_mem_cons.mpr ⟨xf19, List.forall_mem_cons.mpr ⟨xf20, List.forall_mem_cons.mpr ⟨xf21, List.forall_mem_cons.mpr ⟨xf22, List.forall_mem_cons.mpr ⟨xf23, List.forall_mem_cons.mpr ⟨xf24, List.forall_mem_cons.mpr ⟨xf25, List.forall_mem_cons.mpr ⟨xf26, List.forall_mem_cons.mpr ⟨xf27, List.forall_mem_cons.mpr ⟨xf28, List.forall_mem_cons.mpr ⟨xf29, List.forall_mem_cons.mpr ⟨xf30, List.forall_mem_cons.mpr ⟨xf31, List.forall_mem_cons.mpr ⟨xf32, List.forall_mem_cons.mpr ⟨xf33, List.forall_mem_cons.mpr ⟨xf34, List.forall_mem_cons.mpr ⟨xf35, List.forall_mem_cons.mpr ⟨xf36, List.forall_mem_cons.mpr ⟨xf37, List.forall_mem_cons.mpr ⟨xf38, List.forall_mem_cons.mpr ⟨xf39, List.forall_mem_cons.mpr ⟨xf40, List.forall_mem_cons.mpr ⟨xf41, List.forall_mem_cons.mpr ⟨xf42, List.forall_mem_cons.mpr ⟨xf43, List.forall_mem_cons.mpr ⟨xf44, List.forall_mem_cons.mpr ⟨xf45, List.forall_mem_cons.mpr ⟨xf46, List.forall_mem_cons.mpr ⟨xf47, List.forall_mem_cons.mpr ⟨xf48, List.forall_mem_cons.mpr ⟨xf49, List.forall_mem_cons.mpr ⟨xf50, List.forall_mem_cons.mpr ⟨xf51, List.forall_mem_cons.mpr ⟨xf52, List.forall_mem_cons.mpr ⟨xf53, List.forall_mem_cons.mpr ⟨xf54, List.forall_mem_cons.mpr ⟨xf55, List.forall_mem_cons.mpr ⟨xf56, List.forall_mem_cons.mpr ⟨xf57, List.forall_mem_cons.mpr ⟨xf58, List.forall_mem_cons.mpr ⟨xf59, List.forall_mem_cons.mpr ⟨xf60, List.forall_mem_cons.mpr ⟨xf61, List.forall_mem_cons.mpr ⟨xf62, List.forall_mem_cons.mpr ⟨xf63, List.forall_mem_cons.mpr ⟨xf64, List.forall_mem_cons.mpr ⟨xf65, List.forall_mem_cons.mpr ⟨xf66, List.forall_mem_cons.mpr ⟨xf67, List.forall_mem_cons.mpr ⟨xf68, List.forall_mem_cons.mpr ⟨xf69, List.forall_mem_cons.mpr ⟨xf70, List.forall_mem_cons.mpr ⟨xf71, List.forall_mem_cons.mpr ⟨xf72, List.forall_mem_cons.mpr ⟨xf73, List.forall_mem_cons.mpr ⟨xf74, List.forall_mem_cons.mpr ⟨xf75, List.forall_mem_cons.mpr ⟨xf76, List.forall_mem_cons.mpr ⟨xf77, List.forall_mem_cons.mpr ⟨xf78, List.forall_mem_cons.mpr ⟨xf79, List.forall_mem_cons.mpr ⟨xf80, List.forall_mem_cons.mpr ⟨xf81, List.forall_mem_cons.mpr ⟨xf82, List.forall_mem_cons.mpr ⟨xf83, List.forall_mem_cons.mpr ⟨xf84, List.forall_mem_cons.mpr ⟨xf85, List.forall_mem_cons.mpr ⟨xf86, List.forall_mem_cons.mpr ⟨xf87, List.forall_mem_cons.mpr ⟨xf88, List.forall_mem_cons.mpr ⟨xf89, List.forall_mem_cons.mpr ⟨xf90, List.forall_mem_cons.mpr ⟨xf91, List.forall_mem_cons.mpr ⟨xf92, List.forall_mem_cons.mpr ⟨xf93, List.forall_mem_cons.mpr ⟨xf94, List.forall_mem_cons.mpr ⟨xf95, List.forall_mem_cons.mpr ⟨xf96, List.forall_mem_cons.mpr ⟨xf97, List.forall_mem_cons.mpr ⟨xf98, List.forall_mem_cons.mpr ⟨xf99, List.forall_mem_cons.mpr ⟨xf100, List.forall_mem_cons.mpr ⟨xf101, List.forall_mem_cons.mpr ⟨xf102, List.forall_mem_cons.mpr ⟨xf103, List.forall_mem_cons.mpr ⟨xf104, List.forall_mem_cons.mpr ⟨xf105, List.forall_mem_cons.mpr ⟨xf106, List.forall_mem_cons.mpr ⟨xf107, List.forall_mem_cons.mpr ⟨xf108, List.forall_mem_cons.mpr ⟨xf109, List.forall_mem_cons.mpr ⟨xf110, List.forall_mem_cons.mpr ⟨xf111, List.forall_mem_cons.mpr ⟨xf112, List.forall_mem_cons.mpr ⟨xf113, List.forall_mem_cons.mpr ⟨xf114, List.forall_mem_cons.mpr ⟨xf115, List.forall_mem_cons.mpr ⟨xf116, List.forall_mem_cons.mpr ⟨xf117, List.forall_mem_cons.mpr ⟨xf118, List.forall_mem_cons.mpr ⟨xf119, List.forall_mem_cons.mpr ⟨xf120, List.forall_mem_cons.mpr ⟨xf121, List.forall_mem_cons.mpr ⟨xf122, List.forall_mem_cons.mpr ⟨xf123, List.forall_mem_cons.mpr ⟨xf124, List.forall_mem_cons.mpr ⟨xf125, List.forall_mem_cons.mpr ⟨xf126, List.forall_mem_cons.mpr ⟨xf127, List.forall_mem_cons.mpr ⟨xf128, List.forall_mem_cons.mpr ⟨xf129, List.forall_mem_cons.mpr ⟨xf130, List.forall_mem_cons.mpr ⟨xf131, List.forall_mem_cons.mpr ⟨xf132, List.forall_mem_cons.mpr ⟨xf133, List.forall_mem_cons.mpr ⟨xf134, List.forall_mem_cons.mpr ⟨xf135, List.forall_mem_cons.mpr ⟨xf136, List.forall_mem_cons.mpr ⟨xf137, List.forall_mem_cons.mpr ⟨xf138, List.forall_mem_cons.mpr ⟨xf139, List.forall_mem_cons.mpr ⟨xf140, List.forall_mem_cons.mpr ⟨xf141, List.forall_mem_cons.mpr ⟨xf142, List.forall_mem_cons.mpr ⟨xf143, List.forall_mem_cons.mpr ⟨xf144, List.forall_mem_cons.mpr ⟨xf145, List.forall_mem_cons.mpr ⟨xf146, fun _ h => nomatch h⟩⟩⟩⟩⟩⟩⟩⟩⟩⟩⟩⟩⟩⟩⟩⟩⟩⟩⟩⟩⟩⟩⟩⟩⟩⟩⟩⟩⟩⟩⟩⟩⟩⟩⟩⟩⟩⟩⟩⟩⟩⟩⟩⟩⟩⟩⟩⟩⟩⟩⟩⟩⟩⟩⟩⟩⟩⟩⟩⟩⟩⟩⟩⟩⟩⟩⟩⟩⟩⟩⟩⟩⟩⟩⟩⟩⟩⟩⟩⟩⟩⟩⟩⟩⟩⟩⟩⟩⟩⟩⟩⟩⟩⟩⟩⟩⟩⟩⟩⟩⟩⟩⟩⟩⟩⟩⟩⟩⟩⟩⟩⟩⟩⟩⟩⟩⟩⟩⟩⟩⟩⟩⟩⟩⟩⟩⟩⟩⟩⟩⟩⟩⟩⟩⟩⟩⟩⟩⟩⟩⟩⟩⟩⟩⟩⟩⟩
abbrev xM : Type := MethodName × ByteArray × Nat × Option FieldType × Nat
def xMok (y : xM) : Prop := Cond.code y.1 y.2.1 y.2.2.1 y.2.2.2.1 ∈ xAll ∧ Cond.initialized y.1.cls ∈ xAll ∧ y.1.cls = xCn y.2.2.2.2 ∧ plainName y.1.cls = true ∧ (y.1.cls ≠ "java/lang/invoke/MethodHandle" ∧ y.1.cls ≠ "java/lang/invoke/VarHandle")
def xVok (y : xM) : Prop := Cond.instanceMethod y.1 ∈ xAll ∧ Cond.selects y.1.cls y.1 y.1 ∈ xAll
theorem xpl0 : plainName RX0 = true ∧ (RX0 ≠ "java/lang/invoke/MethodHandle" ∧ RX0 ≠ "java/lang/invoke/VarHandle") := by decide +kernel
theorem xpl1 : plainName RX1 = true ∧ (RX1 ≠ "java/lang/invoke/MethodHandle" ∧ RX1 ≠ "java/lang/invoke/VarHandle") := by decide +kernel
theorem xpl2 : plainName RX2 = true ∧ (RX2 ≠ "java/lang/invoke/MethodHandle" ∧ RX2 ≠ "java/lang/invoke/VarHandle") := by decide +kernel
theorem xpl3 : plainName RX3 = true ∧ (RX3 ≠ "java/lang/invoke/MethodHandle" ∧ RX3 ≠ "java/lang/invoke/VarHandle") := by decide +kernel
theorem xpl4 : plainName RX4 = true ∧ (RX4 ≠ "java/lang/invoke/MethodHandle" ∧ RX4 ≠ "java/lang/invoke/VarHandle") := by decide +kernel
theorem xpl5 : plainName RX5 = true ∧ (RX5 ≠ "java/lang/invoke/MethodHandle" ∧ RX5 ≠ "java/lang/invoke/VarHandle") := by decide +kernel
theorem xpl6 : plainName RX6 = true ∧ (RX6 ≠ "java/lang/invoke/MethodHandle" ∧ RX6 ≠ "java/lang/invoke/VarHandle") := by decide +kernel
theorem xpl7 : plainName RX7 = true ∧ (RX7 ≠ "java/lang/invoke/MethodHandle" ∧ RX7 ≠ "java/lang/invoke/VarHandle") := by decide +kernel
theorem xpl8 : plainName RX8 = true ∧ (RX8 ≠ "java/lang/invoke/MethodHandle" ∧ RX8 ≠ "java/lang/invoke/VarHandle") := by decide +kernel
theorem xpl9 : plainName RX9 = true ∧ (RX9 ≠ "java/lang/invoke/MethodHandle" ∧ RX9 ≠ "java/lang/invoke/VarHandle") := by decide +kernel
theorem xpl10 : plainName RX10 = true ∧ (RX10 ≠ "java/lang/invoke/MethodHandle" ∧ RX10 ≠ "java/lang/invoke/VarHandle") := by decide +kernel
theorem xpl11 : plainName RX11 = true ∧ (RX11 ≠ "java/lang/invoke/MethodHandle" ∧ RX11 ≠ "java/lang/invoke/VarHandle") := by decide +kernel
theorem xpl12 : plainName RX12 = true ∧ (RX12 ≠ "java/lang/invoke/MethodHandle" ∧ RX12 ≠ "java/lang/invoke/VarHandle") := by decide +kernel
theorem xpl13 : plainName RL = true ∧ (RL ≠ "java/lang/invoke/MethodHandle" ∧ RL ≠ "java/lang/invoke/VarHandle") := by decide +kernel
theorem xpl14 : plainName RJ0 = true ∧ (RJ0 ≠ "java/lang/invoke/MethodHandle" ∧ RJ0 ≠ "java/lang/invoke/VarHandle") := by decide +kernel
theorem xpl15 : plainName RJ1 = true ∧ (RJ1 ≠ "java/lang/invoke/MethodHandle" ∧ RJ1 ≠ "java/lang/invoke/VarHandle") := by decide +kernel
theorem xpl16 : plainName RJ3 = true ∧ (RJ3 ≠ "java/lang/invoke/MethodHandle" ∧ RJ3 ≠ "java/lang/invoke/VarHandle") := by decide +kernel
def mX0_init : xM := (yX0_init, cX0_init, 1, none, 0)
theorem oX0_init : xMok mX0_init := ⟨xm1 (n := 45) rfl rfl, xm1 (n := 3) rfl rfl, rfl, xpl0.1, xpl0.2⟩
theorem vX0_init : Cond.instanceMethod mX0_init.1 ∈ xAll := xm1 (n := 44) rfl rfl
def mX0_copyFrom : xM := (yX0_copyFrom, cX0_copyFrom, 2, none, 0)
theorem oX0_copyFrom : xMok mX0_copyFrom := ⟨xm3 (n := 47) rfl rfl, xm1 (n := 3) rfl rfl, rfl, xpl0.1, xpl0.2⟩
theorem vX0_copyFrom : xVok mX0_copyFrom := ⟨xm3 (n := 45) rfl rfl, xm3 (n := 46) rfl rfl⟩
def mX0_clockwiseSteps : xM := (yX0_clockwiseSteps, cX0_clockwiseSteps, 1, (some .int), 0)
theorem oX0_clockwiseSteps : xMok mX0_clockwiseSteps := ⟨xm3 (n := 26) rfl rfl, xm1 (n := 3) rfl rfl, rfl, xpl0.1, xpl0.2⟩
theorem vX0_clockwiseSteps : xVok mX0_clockwiseSteps := ⟨xm3 (n := 24) rfl rfl, xm3 (n := 25) rfl rfl⟩
def mX0_offset : xM := (yX0_offset, cX0_offset, 2, (some .int), 0)
theorem oX0_offset : xMok mX0_offset := ⟨xm3 (n := 22) rfl rfl, xm1 (n := 3) rfl rfl, rfl, xpl0.1, xpl0.2⟩
theorem vX0_offset : xVok mX0_offset := ⟨xm3 (n := 20) rfl rfl, xm3 (n := 21) rfl rfl⟩
def mX0_pull : xM := (yX0_pull, cX0_pull, 3, (some .int), 0)
theorem oX0_pull : xMok mX0_pull := ⟨xm3 (n := 18) rfl rfl, xm1 (n := 3) rfl rfl, rfl, xpl0.1, xpl0.2⟩
theorem vX0_pull : xVok mX0_pull := ⟨xm3 (n := 16) rfl rfl, xm3 (n := 17) rfl rfl⟩
def mX0_turnVane : xM := (yX0_turnVane, cX0_turnVane, 3, (some .int), 0)
theorem oX0_turnVane : xMok mX0_turnVane := ⟨xm4 (n := 44) rfl rfl, xm1 (n := 3) rfl rfl, rfl, xpl0.1, xpl0.2⟩
theorem vX0_turnVane : xVok mX0_turnVane := ⟨xm4 (n := 42) rfl rfl, xm4 (n := 43) rfl rfl⟩
def mX1_init : xM := (yX1_init, cX1_init, 1, none, 1)
theorem oX1_init : xMok mX1_init := ⟨xm1 (n := 75) rfl rfl, xm1 (n := 4) rfl rfl, rfl, xpl1.1, xpl1.2⟩
theorem vX1_init : Cond.instanceMethod mX1_init.1 ∈ xAll := xm1 (n := 74) rfl rfl
def mX1_copyFrom : xM := (yX1_copyFrom, cX1_copyFrom, 2, none, 1)
theorem oX1_copyFrom : xMok mX1_copyFrom := ⟨xm3 (n := 51) rfl rfl, xm1 (n := 4) rfl rfl, rfl, xpl1.1, xpl1.2⟩
theorem vX1_copyFrom : xVok mX1_copyFrom := ⟨xm3 (n := 49) rfl rfl, xm3 (n := 50) rfl rfl⟩
def mX1_addFloor : xM := (yX1_addFloor, cX1_addFloor, 2, none, 1)
theorem oX1_addFloor : xMok mX1_addFloor := ⟨xm2 (n := 222) rfl rfl, xm1 (n := 4) rfl rfl, rfl, xpl1.1, xpl1.2⟩
theorem vX1_addFloor : xVok mX1_addFloor := ⟨xm2 (n := 220) rfl rfl, xm2 (n := 221) rfl rfl⟩
def mX1_exists : xM := (yX1_exists, cX1_exists, 2, (some .boolean), 1)
theorem oX1_exists : xMok mX1_exists := ⟨xm3 (n := 6) rfl rfl, xm1 (n := 4) rfl rfl, rfl, xpl1.1, xpl1.2⟩
theorem vX1_exists : xVok mX1_exists := ⟨xm3 (n := 4) rfl rfl, xm3 (n := 5) rfl rfl⟩
def mX1_isTaken : xM := (yX1_isTaken, cX1_isTaken, 2, (some .boolean), 1)
theorem oX1_isTaken : xMok mX1_isTaken := ⟨xm2 (n := 233) rfl rfl, xm1 (n := 4) rfl rfl, rfl, xpl1.1, xpl1.2⟩
theorem vX1_isTaken : xVok mX1_isTaken := ⟨xm2 (n := 231) rfl rfl, xm2 (n := 232) rfl rfl⟩
def mX1_holdsDryLoad : xM := (yX1_holdsDryLoad, cX1_holdsDryLoad, 2, (some .boolean), 1)
theorem oX1_holdsDryLoad : xMok mX1_holdsDryLoad := ⟨xm3 (n := 186) rfl rfl, xm1 (n := 4) rfl rfl, rfl, xpl1.1, xpl1.2⟩
theorem vX1_holdsDryLoad : xVok mX1_holdsDryLoad := ⟨xm3 (n := 184) rfl rfl, xm3 (n := 185) rfl rfl⟩
def mX1_place : xM := (yX1_place, cX1_place, 4, none, 1)
theorem oX1_place : xMok mX1_place := ⟨xm3 (n := 2) rfl rfl, xm1 (n := 4) rfl rfl, rfl, xpl1.1, xpl1.2⟩
theorem vX1_place : xVok mX1_place := ⟨xm3 (n := 0) rfl rfl, xm3 (n := 1) rfl rfl⟩
def mX1_moveDown : xM := (yX1_moveDown, cX1_moveDown, 2, none, 1)
theorem oX1_moveDown : xMok mX1_moveDown := ⟨xm3 (n := 230) rfl rfl, xm1 (n := 4) rfl rfl, rfl, xpl1.1, xpl1.2⟩
theorem vX1_moveDown : xVok mX1_moveDown := ⟨xm3 (n := 228) rfl rfl, xm3 (n := 229) rfl rfl⟩
def mX1_coolingBy : xM := (yX1_coolingBy, cX1_coolingBy, 2, (some .int), 1)
theorem oX1_coolingBy : xMok mX1_coolingBy := ⟨xm3 (n := 38) rfl rfl, xm1 (n := 4) rfl rfl, rfl, xpl1.1, xpl1.2⟩
theorem vX1_coolingBy : xVok mX1_coolingBy := ⟨xm3 (n := 36) rfl rfl, xm3 (n := 37) rfl rfl⟩
def mX1_decrease : xM := (yX1_decrease, cX1_decrease, 5, (some .int), 1)
theorem oX1_decrease : xMok mX1_decrease := ⟨xm4 (n := 56) rfl rfl, xm1 (n := 4) rfl rfl, rfl, xpl1.1, xpl1.2⟩
theorem vX1_decrease : xVok mX1_decrease := ⟨xm4 (n := 54) rfl rfl, xm4 (n := 55) rfl rfl⟩
def mX1_dryLoad : xM := (yX1_dryLoad, cX1_dryLoad, 4, none, 1)
theorem oX1_dryLoad : xMok mX1_dryLoad := ⟨xm4 (n := 52) rfl rfl, xm1 (n := 4) rfl rfl, rfl, xpl1.1, xpl1.2⟩
theorem vX1_dryLoad : xVok mX1_dryLoad := ⟨xm4 (n := 50) rfl rfl, xm4 (n := 51) rfl rfl⟩
def mX1_countTaken : xM := (yX1_countTaken, cX1_countTaken, 3, (some .int), 1)
theorem oX1_countTaken : xMok mX1_countTaken := ⟨xm4 (n := 178) rfl rfl, xm1 (n := 4) rfl rfl, rfl, xpl1.1, xpl1.2⟩
theorem vX1_countTaken : xVok mX1_countTaken := ⟨xm4 (n := 176) rfl rfl, xm4 (n := 177) rfl rfl⟩
def mX1_sumOfMoistures : xM := (yX1_sumOfMoistures, cX1_sumOfMoistures, 3, (some .int), 1)
theorem oX1_sumOfMoistures : xMok mX1_sumOfMoistures := ⟨xm4 (n := 182) rfl rfl, xm1 (n := 4) rfl rfl, rfl, xpl1.1, xpl1.2⟩
theorem vX1_sumOfMoistures : xVok mX1_sumOfMoistures := ⟨xm4 (n := 180) rfl rfl, xm4 (n := 181) rfl rfl⟩
def mX1_sumOfMasses : xM := (yX1_sumOfMasses, cX1_sumOfMasses, 3, (some .int), 1)
theorem oX1_sumOfMasses : xMok mX1_sumOfMasses := ⟨xm4 (n := 194) rfl rfl, xm1 (n := 4) rfl rfl, rfl, xpl1.1, xpl1.2⟩
theorem vX1_sumOfMasses : xVok mX1_sumOfMasses := ⟨xm4 (n := 192) rfl rfl, xm4 (n := 193) rfl rfl⟩
def mX2_init : xM := (yX2_init, cX2_init, 1, none, 2)
theorem oX2_init : xMok mX2_init := ⟨xm1 (n := 194) rfl rfl, xm1 (n := 6) rfl rfl, rfl, xpl2.1, xpl2.2⟩
theorem vX2_init : Cond.instanceMethod mX2_init.1 ∈ xAll := xm1 (n := 193) rfl rfl
def mX2_record : xM := (yX2_record, cX2_record, 3, none, 2)
theorem oX2_record : xMok mX2_record := ⟨xm3 (n := 167) rfl rfl, xm1 (n := 6) rfl rfl, rfl, xpl2.1, xpl2.2⟩
theorem vX2_record : xVok mX2_record := ⟨xm3 (n := 165) rfl rfl, xm3 (n := 166) rfl rfl⟩
def mX2_takeBack : xM := (yX2_takeBack, cX2_takeBack, 3, none, 2)
theorem oX2_takeBack : xMok mX2_takeBack := ⟨xm6 (n := 164) rfl rfl, xm1 (n := 6) rfl rfl, rfl, xpl2.1, xpl2.2⟩
theorem vX2_takeBack : xVok mX2_takeBack := ⟨xm6 (n := 162) rfl rfl, xm6 (n := 163) rfl rfl⟩
def mX2_forgetChanges : xM := (yX2_forgetChanges, cX2_forgetChanges, 1, none, 2)
theorem oX2_forgetChanges : xMok mX2_forgetChanges := ⟨xm3 (n := 63) rfl rfl, xm1 (n := 6) rfl rfl, rfl, xpl2.1, xpl2.2⟩
theorem vX2_forgetChanges : xVok mX2_forgetChanges := ⟨xm3 (n := 61) rfl rfl, xm3 (n := 62) rfl rfl⟩
def mX2_inSlot : xM := (yX2_inSlot, cX2_inSlot, 2, (some (.object "HopOast$House")), 2)
theorem oX2_inSlot : xMok mX2_inSlot := ⟨xm6 (n := 191) rfl rfl, xm1 (n := 6) rfl rfl, rfl, xpl2.1, xpl2.2⟩
theorem vX2_inSlot : xVok mX2_inSlot := ⟨xm6 (n := 189) rfl rfl, xm6 (n := 190) rfl rfl⟩
def mX2_fill : xM := (yX2_fill, cX2_fill, 3, none, 2)
theorem oX2_fill : xMok mX2_fill := ⟨xm6 (n := 180) rfl rfl, xm1 (n := 6) rfl rfl, rfl, xpl2.1, xpl2.2⟩
theorem vX2_fill : xVok mX2_fill := ⟨xm6 (n := 178) rfl rfl, xm6 (n := 179) rfl rfl⟩
def mX2_emptySlots : xM := (yX2_emptySlots, cX2_emptySlots, 2, none, 2)
theorem oX2_emptySlots : xMok mX2_emptySlots := ⟨xm3 (n := 67) rfl rfl, xm1 (n := 6) rfl rfl, rfl, xpl2.1, xpl2.2⟩
theorem vX2_emptySlots : xVok mX2_emptySlots := ⟨xm3 (n := 65) rfl rfl, xm3 (n := 66) rfl rfl⟩
def mX3_init : xM := (yX3_init, cX3_init, 1, none, 3)
theorem oX3_init : xMok mX3_init := ⟨xm1 (n := 39) rfl rfl, xm1 (n := 2) rfl rfl, rfl, xpl3.1, xpl3.2⟩
theorem vX3_init : Cond.instanceMethod mX3_init.1 ∈ xAll := xm1 (n := 38) rfl rfl
def mX3_copyFrom : xM := (yX3_copyFrom, cX3_copyFrom, 2, none, 3)
theorem oX3_copyFrom : xMok mX3_copyFrom := ⟨xm3 (n := 43) rfl rfl, xm1 (n := 2) rfl rfl, rfl, xpl3.1, xpl3.2⟩
theorem vX3_copyFrom : xVok mX3_copyFrom := ⟨xm3 (n := 41) rfl rfl, xm3 (n := 42) rfl rfl⟩
def mX3_warmth : xM := (yX3_warmth, cX3_warmth, 5, (some .int), 3)
theorem oX3_warmth : xMok mX3_warmth := ⟨xm3 (n := 34) rfl rfl, xm1 (n := 2) rfl rfl, rfl, xpl3.1, xpl3.2⟩
theorem vX3_warmth : xVok mX3_warmth := ⟨xm3 (n := 32) rfl rfl, xm3 (n := 33) rfl rfl⟩
def mX3_temperature : xM := (yX3_temperature, cX3_temperature, 4, (some .int), 3)
theorem oX3_temperature : xMok mX3_temperature := ⟨xm3 (n := 30) rfl rfl, xm1 (n := 2) rfl rfl, rfl, xpl3.1, xpl3.2⟩
theorem vX3_temperature : xVok mX3_temperature := ⟨xm3 (n := 28) rfl rfl, xm3 (n := 29) rfl rfl⟩
def mX3_temperatureNow : xM := (yX3_temperatureNow, cX3_temperatureNow, 2, (some .int), 3)
theorem oX3_temperatureNow : xMok mX3_temperatureNow := ⟨xm3 (n := 234) rfl rfl, xm1 (n := 2) rfl rfl, rfl, xpl3.1, xpl3.2⟩
theorem vX3_temperatureNow : xVok mX3_temperatureNow := ⟨xm3 (n := 232) rfl rfl, xm3 (n := 233) rfl rfl⟩
def mX3_dryingNow : xM := (yX3_dryingNow, cX3_dryingNow, 3, (some .int), 3)
theorem oX3_dryingNow : xMok mX3_dryingNow := ⟨xm5 (n := 227) rfl rfl, xm1 (n := 2) rfl rfl, rfl, xpl3.1, xpl3.2⟩
theorem vX3_dryingNow : xVok mX3_dryingNow := ⟨xm5 (n := 225) rfl rfl, xm5 (n := 226) rfl rfl⟩
def mX3_warmest : xM := (yX3_warmest, cX3_warmest, 3, (some .int), 3)
theorem oX3_warmest : xMok mX3_warmest := ⟨xm4 (n := 126) rfl rfl, xm1 (n := 2) rfl rfl, rfl, xpl3.1, xpl3.2⟩
theorem vX3_warmest : xVok mX3_warmest := ⟨xm4 (n := 124) rfl rfl, xm4 (n := 125) rfl rfl⟩
def mX3_countTooHot : xM := (yX3_countTooHot, cX3_countTooHot, 3, (some .int), 3)
theorem oX3_countTooHot : xMok mX3_countTooHot := ⟨xm4 (n := 206) rfl rfl, xm1 (n := 2) rfl rfl, rfl, xpl3.1, xpl3.2⟩
theorem vX3_countTooHot : xVok mX3_countTooHot := ⟨xm4 (n := 204) rfl rfl, xm4 (n := 205) rfl rfl⟩
def mX3_countWarmthBreaks : xM := (yX3_countWarmthBreaks, cX3_countWarmthBreaks, 5, (some .int), 3)
theorem oX3_countWarmthBreaks : xMok mX3_countWarmthBreaks := ⟨xm4 (n := 213) rfl rfl, xm1 (n := 2) rfl rfl, rfl, xpl3.1, xpl3.2⟩
theorem vX3_countWarmthBreaks : xVok mX3_countWarmthBreaks := ⟨xm4 (n := 211) rfl rfl, xm4 (n := 212) rfl rfl⟩
def mX3_damp : xM := (yX3_damp, cX3_damp, 4, none, 3)
theorem oX3_damp : xMok mX3_damp := ⟨xm3 (n := 14) rfl rfl, xm1 (n := 2) rfl rfl, rfl, xpl3.1, xpl3.2⟩
theorem vX3_damp : xVok mX3_damp := ⟨xm3 (n := 12) rfl rfl, xm3 (n := 13) rfl rfl⟩
def mX3_place : xM := (yX3_place, cX3_place, 4, none, 3)
theorem oX3_place : xMok mX3_place := ⟨xm2 (n := 238) rfl rfl, xm1 (n := 2) rfl rfl, rfl, xpl3.1, xpl3.2⟩
theorem vX3_place : xVok mX3_place := ⟨xm2 (n := 236) rfl rfl, xm2 (n := 237) rfl rfl⟩
def mX3_canPut : xM := (yX3_canPut, cX3_canPut, 1, (some .boolean), 3)
theorem oX3_canPut : xMok mX3_canPut := ⟨xm3 (n := 177) rfl rfl, xm1 (n := 2) rfl rfl, rfl, xpl3.1, xpl3.2⟩
theorem vX3_canPut : xVok mX3_canPut := ⟨xm3 (n := 175) rfl rfl, xm3 (n := 176) rfl rfl⟩
def mX3_putOnTop : xM := (yX3_putOnTop, cX3_putOnTop, 3, none, 3)
theorem oX3_putOnTop : xMok mX3_putOnTop := ⟨xm3 (n := 216) rfl rfl, xm1 (n := 2) rfl rfl, rfl, xpl3.1, xpl3.2⟩
theorem vX3_putOnTop : xVok mX3_putOnTop := ⟨xm3 (n := 214) rfl rfl, xm3 (n := 215) rfl rfl⟩
def mX3_obstacle : xM := (yX3_obstacle, cX3_obstacle, 2, (some .int), 3)
theorem oX3_obstacle : xMok mX3_obstacle := ⟨xm3 (n := 182) rfl rfl, xm1 (n := 2) rfl rfl, rfl, xpl3.1, xpl3.2⟩
theorem vX3_obstacle : xVok mX3_obstacle := ⟨xm3 (n := 180) rfl rfl, xm3 (n := 181) rfl rfl⟩
def mX3_moveOrPack : xM := (yX3_moveOrPack, cX3_moveOrPack, 2, none, 3)
theorem oX3_moveOrPack : xMok mX3_moveOrPack := ⟨xm3 (n := 226) rfl rfl, xm1 (n := 2) rfl rfl, rfl, xpl3.1, xpl3.2⟩
theorem vX3_moveOrPack : xVok mX3_moveOrPack := ⟨xm3 (n := 225) rfl rfl, xm0 (n := 10) rfl rfl⟩
def mX3_lowerOne : xM := (yX3_lowerOne, cX3_lowerOne, 2, none, 3)
theorem oX3_lowerOne : xMok mX3_lowerOne := ⟨xm3 (n := 222) rfl rfl, xm1 (n := 2) rfl rfl, rfl, xpl3.1, xpl3.2⟩
theorem vX3_lowerOne : xVok mX3_lowerOne := ⟨xm3 (n := 220) rfl rfl, xm3 (n := 221) rfl rfl⟩
def mX3_lowerAll : xM := (yX3_lowerAll, cX3_lowerAll, 3, (some .int), 3)
theorem oX3_lowerAll : xMok mX3_lowerAll := ⟨xm4 (n := 3) rfl rfl, xm1 (n := 2) rfl rfl, rfl, xpl3.1, xpl3.2⟩
theorem vX3_lowerAll : xVok mX3_lowerAll := ⟨xm4 (n := 1) rfl rfl, xm4 (n := 2) rfl rfl⟩
def mX3_stoke : xM := (yX3_stoke, cX3_stoke, 2, none, 3)
theorem oX3_stoke : xMok mX3_stoke := ⟨xm4 (n := 8) rfl rfl, xm1 (n := 2) rfl rfl, rfl, xpl3.1, xpl3.2⟩
theorem vX3_stoke : xVok mX3_stoke := ⟨xm4 (n := 6) rfl rfl, xm4 (n := 7) rfl rfl⟩
def mX3_shiftGear : xM := (yX3_shiftGear, cX3_shiftGear, 2, none, 3)
theorem oX3_shiftGear : xMok mX3_shiftGear := ⟨xm4 (n := 12) rfl rfl, xm1 (n := 2) rfl rfl, rfl, xpl3.1, xpl3.2⟩
theorem vX3_shiftGear : xVok mX3_shiftGear := ⟨xm4 (n := 10) rfl rfl, xm4 (n := 11) rfl rfl⟩
def mX3_changeWind : xM := (yX3_changeWind, cX3_changeWind, 3, none, 3)
theorem oX3_changeWind : xMok mX3_changeWind := ⟨xm4 (n := 16) rfl rfl, xm1 (n := 2) rfl rfl, rfl, xpl3.1, xpl3.2⟩
theorem vX3_changeWind : xVok mX3_changeWind := ⟨xm4 (n := 14) rfl rfl, xm4 (n := 15) rfl rfl⟩
def mX3_canWait : xM := (yX3_canWait, cX3_canWait, 2, (some .boolean), 3)
theorem oX3_canWait : xMok mX3_canWait := ⟨xm3 (n := 208) rfl rfl, xm1 (n := 2) rfl rfl, rfl, xpl3.1, xpl3.2⟩
theorem vX3_canWait : xVok mX3_canWait := ⟨xm3 (n := 206) rfl rfl, xm3 (n := 207) rfl rfl⟩
def mX3_passMinutes : xM := (yX3_passMinutes, cX3_passMinutes, 4, (some .int), 3)
theorem oX3_passMinutes : xMok mX3_passMinutes := ⟨xm4 (n := 40) rfl rfl, xm1 (n := 2) rfl rfl, rfl, xpl3.1, xpl3.2⟩
theorem vX3_passMinutes : xVok mX3_passMinutes := ⟨xm4 (n := 38) rfl rfl, xm4 (n := 39) rfl rfl⟩
def mX3_dryLoads : xM := (yX3_dryLoads, cX3_dryLoads, 3, none, 3)
theorem oX3_dryLoads : xMok mX3_dryLoads := ⟨xm4 (n := 48) rfl rfl, xm1 (n := 2) rfl rfl, rfl, xpl3.1, xpl3.2⟩
theorem vX3_dryLoads : xVok mX3_dryLoads := ⟨xm4 (n := 47) rfl rfl, xm0 (n := 11) rfl rfl⟩
def mX4_init : xM := (yX4_init, cX4_init, 1, none, 4)
theorem oX4_init : xMok mX4_init := ⟨xm2 (n := 81) rfl rfl, xm1 (n := 12) rfl rfl, rfl, xpl4.1, xpl4.2⟩
theorem vX4_init : Cond.instanceMethod mX4_init.1 ∈ xAll := xm2 (n := 80) rfl rfl
def mX4_add : xM := (yX4_add, cX4_add, 2, none, 4)
theorem oX4_add : xMok mX4_add := ⟨xm4 (n := 230) rfl rfl, xm1 (n := 12) rfl rfl, rfl, xpl4.1, xpl4.2⟩
theorem vX4_add : xVok mX4_add := ⟨xm4 (n := 228) rfl rfl, xm4 (n := 229) rfl rfl⟩
def mX4_separate : xM := (yX4_separate, cX4_separate, 1, none, 4)
theorem oX4_separate : xMok mX4_separate := ⟨xm4 (n := 226) rfl rfl, xm1 (n := 12) rfl rfl, rfl, xpl4.1, xpl4.2⟩
theorem vX4_separate : xVok mX4_separate := ⟨xm4 (n := 224) rfl rfl, xm4 (n := 225) rfl rfl⟩
def mX4_addNumber : xM := (yX4_addNumber, cX4_addNumber, 2, none, 4)
theorem oX4_addNumber : xMok mX4_addNumber := ⟨xm4 (n := 235) rfl rfl, xm1 (n := 12) rfl rfl, rfl, xpl4.1, xpl4.2⟩
theorem vX4_addNumber : xVok mX4_addNumber := ⟨xm4 (n := 233) rfl rfl, xm4 (n := 234) rfl rfl⟩
def mX4_at : xM := (yX4_at, cX4_at, 2, (some .int), 4)
theorem oX4_at : xMok mX4_at := ⟨xm5 (n := 10) rfl rfl, xm1 (n := 12) rfl rfl, rfl, xpl4.1, xpl4.2⟩
theorem vX4_at : xVok mX4_at := ⟨xm5 (n := 8) rfl rfl, xm5 (n := 9) rfl rfl⟩
def mX5_init : xM := (yX5_init, cX5_init, 1, none, 5)
theorem oX5_init : xMok mX5_init := ⟨xm1 (n := 110) rfl rfl, xm1 (n := 5) rfl rfl, rfl, xpl5.1, xpl5.2⟩
theorem vX5_init : Cond.instanceMethod mX5_init.1 ∈ xAll := xm1 (n := 109) rfl rfl
def mX5_copyFrom : xM := (yX5_copyFrom, cX5_copyFrom, 2, none, 5)
theorem oX5_copyFrom : xMok mX5_copyFrom := ⟨xm3 (n := 58) rfl rfl, xm1 (n := 5) rfl rfl, rfl, xpl5.1, xpl5.2⟩
theorem vX5_copyFrom : xVok mX5_copyFrom := ⟨xm3 (n := 56) rfl rfl, xm3 (n := 57) rfl rfl⟩
def mX5_exists : xM := (yX5_exists, cX5_exists, 2, (some .boolean), 5)
theorem oX5_exists : xMok mX5_exists := ⟨xm4 (n := 24) rfl rfl, xm1 (n := 5) rfl rfl, rfl, xpl5.1, xpl5.2⟩
theorem vX5_exists : xVok mX5_exists := ⟨xm4 (n := 22) rfl rfl, xm4 (n := 23) rfl rfl⟩
def mX5_isStored : xM := (yX5_isStored, cX5_isStored, 2, (some .boolean), 5)
theorem oX5_isStored : xMok mX5_isStored := ⟨xm3 (n := 199) rfl rfl, xm1 (n := 5) rfl rfl, rfl, xpl5.1, xpl5.2⟩
theorem vX5_isStored : xVok mX5_isStored := ⟨xm3 (n := 197) rfl rfl, xm3 (n := 198) rfl rfl⟩
def mX5_smoulders : xM := (yX5_smoulders, cX5_smoulders, 2, (some .boolean), 5)
theorem oX5_smoulders : xMok mX5_smoulders := ⟨xm3 (n := 203) rfl rfl, xm1 (n := 5) rfl rfl, rfl, xpl5.1, xpl5.2⟩
theorem vX5_smoulders : xVok mX5_smoulders := ⟨xm3 (n := 201) rfl rfl, xm3 (n := 202) rfl rfl⟩
def mX5_canSell : xM := (yX5_canSell, cX5_canSell, 2, (some .boolean), 5)
theorem oX5_canSell : xMok mX5_canSell := ⟨xm3 (n := 195) rfl rfl, xm1 (n := 5) rfl rfl, rfl, xpl5.1, xpl5.2⟩
theorem vX5_canSell : xVok mX5_canSell := ⟨xm3 (n := 193) rfl rfl, xm3 (n := 194) rfl rfl⟩
def mX5_isFull : xM := (yX5_isFull, cX5_isFull, 1, (some .boolean), 5)
theorem oX5_isFull : xMok mX5_isFull := ⟨xm3 (n := 191) rfl rfl, xm1 (n := 5) rfl rfl, rfl, xpl5.1, xpl5.2⟩
theorem vX5_isFull : xVok mX5_isFull := ⟨xm3 (n := 189) rfl rfl, xm3 (n := 190) rfl rfl⟩
def mX5_pack : xM := (yX5_pack, cX5_pack, 3, none, 5)
theorem oX5_pack : xMok mX5_pack := ⟨xm3 (n := 238) rfl rfl, xm1 (n := 5) rfl rfl, rfl, xpl5.1, xpl5.2⟩
theorem vX5_pack : xVok mX5_pack := ⟨xm3 (n := 236) rfl rfl, xm3 (n := 237) rfl rfl⟩
def mX5_quality : xM := (yX5_quality, cX5_quality, 4, (some .int), 5)
theorem oX5_quality : xMok mX5_quality := ⟨xm4 (n := 32) rfl rfl, xm1 (n := 5) rfl rfl, rfl, xpl5.1, xpl5.2⟩
theorem vX5_quality : xVok mX5_quality := ⟨xm4 (n := 30) rfl rfl, xm4 (n := 31) rfl rfl⟩
def mX5_price : xM := (yX5_price, cX5_price, 2, (some .int), 5)
theorem oX5_price : xMok mX5_price := ⟨xm4 (n := 28) rfl rfl, xm1 (n := 5) rfl rfl, rfl, xpl5.1, xpl5.2⟩
theorem vX5_price : xVok mX5_price := ⟨xm4 (n := 26) rfl rfl, xm4 (n := 27) rfl rfl⟩
def mX5_giveAway : xM := (yX5_giveAway, cX5_giveAway, 2, none, 5)
theorem oX5_giveAway : xMok mX5_giveAway := ⟨xm4 (n := 20) rfl rfl, xm1 (n := 5) rfl rfl, rfl, xpl5.1, xpl5.2⟩
theorem vX5_giveAway : xVok mX5_giveAway := ⟨xm4 (n := 18) rfl rfl, xm4 (n := 19) rfl rfl⟩
def mX5_wet : xM := (yX5_wet, cX5_wet, 3, none, 5)
theorem oX5_wet : xMok mX5_wet := ⟨xm4 (n := 36) rfl rfl, xm1 (n := 5) rfl rfl, rfl, xpl5.1, xpl5.2⟩
theorem vX5_wet : xVok mX5_wet := ⟨xm4 (n := 34) rfl rfl, xm4 (n := 35) rfl rfl⟩
def mX5_glow : xM := (yX5_glow, cX5_glow, 3, (some .int), 5)
theorem oX5_glow : xMok mX5_glow := ⟨xm4 (n := 60) rfl rfl, xm1 (n := 5) rfl rfl, rfl, xpl5.1, xpl5.2⟩
theorem vX5_glow : xVok mX5_glow := ⟨xm4 (n := 58) rfl rfl, xm4 (n := 59) rfl rfl⟩
def mX5_warmOrCool : xM := (yX5_warmOrCool, cX5_warmOrCool, 2, none, 5)
theorem oX5_warmOrCool : xMok mX5_warmOrCool := ⟨xm4 (n := 64) rfl rfl, xm1 (n := 5) rfl rfl, rfl, xpl5.1, xpl5.2⟩
theorem vX5_warmOrCool : xVok mX5_warmOrCool := ⟨xm4 (n := 63) rfl rfl, xm0 (n := 12) rfl rfl⟩
def mX5_burn : xM := (yX5_burn, cX5_burn, 2, none, 5)
theorem oX5_burn : xMok mX5_burn := ⟨xm4 (n := 68) rfl rfl, xm1 (n := 5) rfl rfl, rfl, xpl5.1, xpl5.2⟩
theorem vX5_burn : xVok mX5_burn := ⟨xm4 (n := 67) rfl rfl, xm0 (n := 13) rfl rfl⟩
def mX5_heatUp : xM := (yX5_heatUp, cX5_heatUp, 2, none, 5)
theorem oX5_heatUp : xMok mX5_heatUp := ⟨xm4 (n := 72) rfl rfl, xm1 (n := 5) rfl rfl, rfl, xpl5.1, xpl5.2⟩
theorem vX5_heatUp : xVok mX5_heatUp := ⟨xm4 (n := 71) rfl rfl, xm0 (n := 14) rfl rfl⟩
def mX5_countSmouldering : xM := (yX5_countSmouldering, cX5_countSmouldering, 3, (some .int), 5)
theorem oX5_countSmouldering : xMok mX5_countSmouldering := ⟨xm4 (n := 138) rfl rfl, xm1 (n := 5) rfl rfl, rfl, xpl5.1, xpl5.2⟩
theorem vX5_countSmouldering : xVok mX5_countSmouldering := ⟨xm4 (n := 136) rfl rfl, xm4 (n := 137) rfl rfl⟩
def mX5_hottest : xM := (yX5_hottest, cX5_hottest, 3, (some .int), 5)
theorem oX5_hottest : xMok mX5_hottest := ⟨xm4 (n := 146) rfl rfl, xm1 (n := 5) rfl rfl, rfl, xpl5.1, xpl5.2⟩
theorem vX5_hottest : xVok mX5_hottest := ⟨xm4 (n := 144) rfl rfl, xm4 (n := 145) rfl rfl⟩
def mX5_sumOfMasses : xM := (yX5_sumOfMasses, cX5_sumOfMasses, 3, (some .int), 5)
theorem oX5_sumOfMasses : xMok mX5_sumOfMasses := ⟨xm4 (n := 198) rfl rfl, xm1 (n := 5) rfl rfl, rfl, xpl5.1, xpl5.2⟩
theorem vX5_sumOfMasses : xVok mX5_sumOfMasses := ⟨xm4 (n := 196) rfl rfl, xm4 (n := 197) rfl rfl⟩
def mX5_sumOfMassesGone : xM := (yX5_sumOfMassesGone, cX5_sumOfMassesGone, 3, (some .int), 5)
theorem oX5_sumOfMassesGone : xMok mX5_sumOfMassesGone := ⟨xm4 (n := 202) rfl rfl, xm1 (n := 5) rfl rfl, rfl, xpl5.1, xpl5.2⟩
theorem vX5_sumOfMassesGone : xVok mX5_sumOfMassesGone := ⟨xm4 (n := 200) rfl rfl, xm4 (n := 201) rfl rfl⟩
def mX6_init : xM := (yX6_init, cX6_init, 1, none, 6)
theorem oX6_init : xMok mX6_init := ⟨xm2 (n := 35) rfl rfl, xm1 (n := 10) rfl rfl, rfl, xpl6.1, xpl6.2⟩
theorem vX6_init : Cond.instanceMethod mX6_init.1 ∈ xAll := xm2 (n := 34) rfl rfl
def mX6_add : xM := (yX6_add, cX6_add, 4, none, 6)
theorem oX6_add : xMok mX6_add := ⟨xm3 (n := 132) rfl rfl, xm1 (n := 10) rfl rfl, rfl, xpl6.1, xpl6.2⟩
theorem vX6_add : xVok mX6_add := ⟨xm3 (n := 130) rfl rfl, xm3 (n := 131) rfl rfl⟩
def mX6_repeatFrom : xM := (yX6_repeatFrom, cX6_repeatFrom, 6, none, 6)
theorem oX6_repeatFrom : xMok mX6_repeatFrom := ⟨xm3 (n := 128) rfl rfl, xm1 (n := 10) rfl rfl, rfl, xpl6.1, xpl6.2⟩
theorem vX6_repeatFrom : xVok mX6_repeatFrom := ⟨xm3 (n := 126) rfl rfl, xm3 (n := 127) rfl rfl⟩
def mX6_canPerform : xM := (yX6_canPerform, cX6_canPerform, 3, (some .boolean), 6)
theorem oX6_canPerform : xMok mX6_canPerform := ⟨xm3 (n := 173) rfl rfl, xm1 (n := 10) rfl rfl, rfl, xpl6.1, xpl6.2⟩
theorem vX6_canPerform : xVok mX6_canPerform := ⟨xm3 (n := 171) rfl rfl, xm3 (n := 172) rfl rfl⟩
def mX6_perform : xM := (yX6_perform, cX6_perform, 5, none, 6)
theorem oX6_perform : xMok mX6_perform := ⟨xm3 (n := 212) rfl rfl, xm1 (n := 10) rfl rfl, rfl, xpl6.1, xpl6.2⟩
theorem vX6_perform : xVok mX6_perform := ⟨xm3 (n := 210) rfl rfl, xm3 (n := 211) rfl rfl⟩
def mX7_init : xM := (yX7_init, cX7_init, 3, none, 7)
theorem oX7_init : xMok mX7_init := ⟨xm2 (n := 56) rfl rfl, xm1 (n := 11) rfl rfl, rfl, xpl7.1, xpl7.2⟩
theorem vX7_init : Cond.instanceMethod mX7_init.1 ∈ xAll := xm2 (n := 55) rfl rfl
def mX7_read : xM := (yX7_read, cX7_read, 2, none, 7)
theorem oX7_read : xMok mX7_read := ⟨xm3 (n := 111) rfl rfl, xm1 (n := 11) rfl rfl, rfl, xpl7.1, xpl7.2⟩
theorem vX7_read : xVok mX7_read := ⟨xm3 (n := 109) rfl rfl, xm3 (n := 110) rfl rfl⟩
def mX7_isDone : xM := (yX7_isDone, cX7_isDone, 1, (some .boolean), 7)
theorem oX7_isDone : xMok mX7_isDone := ⟨xm3 (n := 117) rfl rfl, xm1 (n := 11) rfl rfl, rfl, xpl7.1, xpl7.2⟩
theorem vX7_isDone : xVok mX7_isDone := ⟨xm3 (n := 116) rfl rfl, xm0 (n := 4) rfl rfl⟩
def mX7_readCommand : xM := (yX7_readCommand, cX7_readCommand, 2, none, 7)
theorem oX7_readCommand : xMok mX7_readCommand := ⟨xm3 (n := 136) rfl rfl, xm1 (n := 11) rfl rfl, rfl, xpl7.1, xpl7.2⟩
theorem vX7_readCommand : xVok mX7_readCommand := ⟨xm3 (n := 135) rfl rfl, xm0 (n := 6) rfl rfl⟩
def mX7_verbHere : xM := (yX7_verbHere, cX7_verbHere, 1, (some .int), 7)
theorem oX7_verbHere : xMok mX7_verbHere := ⟨xm3 (n := 140) rfl rfl, xm1 (n := 11) rfl rfl, rfl, xpl7.1, xpl7.2⟩
theorem vX7_verbHere : xVok mX7_verbHere := ⟨xm3 (n := 139) rfl rfl, xm0 (n := 7) rfl rfl⟩
def mX7_readNumbers : xM := (yX7_readNumbers, cX7_readNumbers, 4, none, 7)
theorem oX7_readNumbers : xMok mX7_readNumbers := ⟨xm3 (n := 162) rfl rfl, xm1 (n := 11) rfl rfl, rfl, xpl7.1, xpl7.2⟩
theorem vX7_readNumbers : xVok mX7_readNumbers := ⟨xm3 (n := 161) rfl rfl, xm0 (n := 9) rfl rfl⟩
def mX7_openBracket : xM := (yX7_openBracket, cX7_openBracket, 2, none, 7)
theorem oX7_openBracket : xMok mX7_openBracket := ⟨xm3 (n := 157) rfl rfl, xm1 (n := 11) rfl rfl, rfl, xpl7.1, xpl7.2⟩
theorem vX7_openBracket : xVok mX7_openBracket := ⟨xm3 (n := 156) rfl rfl, xm0 (n := 8) rfl rfl⟩
def mX7_closeBracket : xM := (yX7_closeBracket, cX7_closeBracket, 1, none, 7)
theorem oX7_closeBracket : xMok mX7_closeBracket := ⟨xm3 (n := 123) rfl rfl, xm1 (n := 11) rfl rfl, rfl, xpl7.1, xpl7.2⟩
theorem vX7_closeBracket : xVok mX7_closeBracket := ⟨xm3 (n := 122) rfl rfl, xm0 (n := 5) rfl rfl⟩
def mX8_init : xM := (yX8_init, cX8_init, 3, none, 8)
theorem oX8_init : xMok mX8_init := ⟨xm2 (n := 22) rfl rfl, xm1 (n := 9) rfl rfl, rfl, xpl8.1, xpl8.2⟩
theorem vX8_init : Cond.instanceMethod mX8_init.1 ∈ xAll := xm2 (n := 21) rfl rfl
def mX8_read : xM := (yX8_read, cX8_read, 2, none, 8)
theorem oX8_read : xMok mX8_read := ⟨xm2 (n := 151) rfl rfl, xm1 (n := 9) rfl rfl, rfl, xpl8.1, xpl8.2⟩
theorem vX8_read : xVok mX8_read := ⟨xm2 (n := 149) rfl rfl, xm2 (n := 150) rfl rfl⟩
def mX8_readFireAndWind : xM := (yX8_readFireAndWind, cX8_readFireAndWind, 1, none, 8)
theorem oX8_readFireAndWind : xMok mX8_readFireAndWind := ⟨xm2 (n := 177) rfl rfl, xm1 (n := 9) rfl rfl, rfl, xpl8.1, xpl8.2⟩
theorem vX8_readFireAndWind : xVok mX8_readFireAndWind := ⟨xm2 (n := 176) rfl rfl, xm0 (n := 1) rfl rfl⟩
def mX8_readFloor : xM := (yX8_readFloor, cX8_readFloor, 2, none, 8)
theorem oX8_readFloor : xMok mX8_readFloor := ⟨xm2 (n := 215) rfl rfl, xm1 (n := 9) rfl rfl, rfl, xpl8.1, xpl8.2⟩
theorem vX8_readFloor : xVok mX8_readFloor := ⟨xm2 (n := 214) rfl rfl, xm0 (n := 2) rfl rfl⟩
def mX8_readLoad : xM := (yX8_readLoad, cX8_readLoad, 4, none, 8)
theorem oX8_readLoad : xMok mX8_readLoad := ⟨xm2 (n := 228) rfl rfl, xm1 (n := 9) rfl rfl, rfl, xpl8.1, xpl8.2⟩
theorem vX8_readLoad : xVok mX8_readLoad := ⟨xm2 (n := 227) rfl rfl, xm0 (n := 3) rfl rfl⟩
def mX9_init : xM := (yX9_init, cX9_init, 1, none, 9)
theorem oX9_init : xMok mX9_init := ⟨xm1 (n := 220) rfl rfl, xm1 (n := 7) rfl rfl, rfl, xpl9.1, xpl9.2⟩
theorem vX9_init : Cond.instanceMethod mX9_init.1 ∈ xAll := xm1 (n := 219) rfl rfl
def mX9_add : xM := (yX9_add, cX9_add, 2, none, 9)
theorem oX9_add : xMok mX9_add := ⟨xm2 (n := 143) rfl rfl, xm1 (n := 7) rfl rfl, rfl, xpl9.1, xpl9.2⟩
theorem vX9_add : xVok mX9_add := ⟨xm2 (n := 141) rfl rfl, xm2 (n := 142) rfl rfl⟩
def mX9_addFour : xM := (yX9_addFour, cX9_addFour, 4, none, 9)
theorem oX9_addFour : xMok mX9_addFour := ⟨xm5 (n := 97) rfl rfl, xm1 (n := 7) rfl rfl, rfl, xpl9.1, xpl9.2⟩
theorem vX9_addFour : xVok mX9_addFour := ⟨xm5 (n := 95) rfl rfl, xm5 (n := 96) rfl rfl⟩
def mX9_at : xM := (yX9_at, cX9_at, 2, (some .int), 9)
theorem oX9_at : xMok mX9_at := ⟨xm2 (n := 167) rfl rfl, xm1 (n := 7) rfl rfl, rfl, xpl9.1, xpl9.2⟩
theorem vX9_at : xVok mX9_at := ⟨xm2 (n := 165) rfl rfl, xm2 (n := 166) rfl rfl⟩
def mX10_init : xM := (yX10_init, cX10_init, 2, none, 10)
theorem oX10_init : xMok mX10_init := ⟨xm1 (n := 235) rfl rfl, xm1 (n := 8) rfl rfl, rfl, xpl10.1, xpl10.2⟩
theorem vX10_init : Cond.instanceMethod mX10_init.1 ∈ xAll := xm1 (n := 234) rfl rfl
def mX10_begin : xM := (yX10_begin, cX10_begin, 1, none, 10)
theorem oX10_begin : xMok mX10_begin := ⟨xm2 (n := 155) rfl rfl, xm1 (n := 8) rfl rfl, rfl, xpl10.1, xpl10.2⟩
theorem vX10_begin : xVok mX10_begin := ⟨xm2 (n := 153) rfl rfl, xm2 (n := 154) rfl rfl⟩
def mX10_sound : xM := (yX10_sound, cX10_sound, 1, (some .boolean), 10)
theorem oX10_sound : xMok mX10_sound := ⟨xm2 (n := 163) rfl rfl, xm1 (n := 8) rfl rfl, rfl, xpl10.1, xpl10.2⟩
theorem vX10_sound : xVok mX10_sound := ⟨xm2 (n := 161) rfl rfl, xm2 (n := 162) rfl rfl⟩
def mX10_fail : xM := (yX10_fail, cX10_fail, 2, none, 10)
theorem oX10_fail : xMok mX10_fail := ⟨xm2 (n := 192) rfl rfl, xm1 (n := 8) rfl rfl, rfl, xpl10.1, xpl10.2⟩
theorem vX10_fail : xVok mX10_fail := ⟨xm2 (n := 190) rfl rfl, xm2 (n := 191) rfl rfl⟩
def mX10_next : xM := (yX10_next, cX10_next, 2, none, 10)
theorem oX10_next : xMok mX10_next := ⟨xm2 (n := 159) rfl rfl, xm1 (n := 8) rfl rfl, rfl, xpl10.1, xpl10.2⟩
theorem vX10_next : xVok mX10_next := ⟨xm2 (n := 157) rfl rfl, xm2 (n := 158) rfl rfl⟩
def mX10_isBlank : xM := (yX10_isBlank, cX10_isBlank, 1, (some .boolean), 10)
theorem oX10_isBlank : xMok mX10_isBlank := ⟨xm2 (n := 170) rfl rfl, xm1 (n := 8) rfl rfl, rfl, xpl10.1, xpl10.2⟩
theorem vX10_isBlank : Cond.static mX10_isBlank.1 ∈ xAll := xm2 (n := 169) rfl rfl
def mX10_kindOf : xM := (yX10_kindOf, cX10_kindOf, 1, (some .int), 10)
theorem oX10_kindOf : xMok mX10_kindOf := ⟨xm2 (n := 173) rfl rfl, xm1 (n := 8) rfl rfl, rfl, xpl10.1, xpl10.2⟩
theorem vX10_kindOf : Cond.static mX10_kindOf.1 ∈ xAll := xm2 (n := 172) rfl rfl
def mX10_isEnd : xM := (yX10_isEnd, cX10_isEnd, 1, (some .boolean), 10)
theorem oX10_isEnd : xMok mX10_isEnd := ⟨xm3 (n := 10) rfl rfl, xm1 (n := 8) rfl rfl, rfl, xpl10.1, xpl10.2⟩
theorem vX10_isEnd : xVok mX10_isEnd := ⟨xm3 (n := 8) rfl rfl, xm3 (n := 9) rfl rfl⟩
def mX10_isMark : xM := (yX10_isMark, cX10_isMark, 2, (some .boolean), 10)
theorem oX10_isMark : xMok mX10_isMark := ⟨xm2 (n := 211) rfl rfl, xm1 (n := 8) rfl rfl, rfl, xpl10.1, xpl10.2⟩
theorem vX10_isMark : xVok mX10_isMark := ⟨xm2 (n := 209) rfl rfl, xm2 (n := 210) rfl rfl⟩
def mX10_isWord : xM := (yX10_isWord, cX10_isWord, 3, (some .boolean), 10)
theorem oX10_isWord : xMok mX10_isWord := ⟨xm2 (n := 186) rfl rfl, xm1 (n := 8) rfl rfl, rfl, xpl10.1, xpl10.2⟩
theorem vX10_isWord : xVok mX10_isWord := ⟨xm2 (n := 184) rfl rfl, xm2 (n := 185) rfl rfl⟩
def mX10_readMark : xM := (yX10_readMark, cX10_readMark, 2, none, 10)
theorem oX10_readMark : xMok mX10_readMark := ⟨xm2 (n := 207) rfl rfl, xm1 (n := 8) rfl rfl, rfl, xpl10.1, xpl10.2⟩
theorem vX10_readMark : xVok mX10_readMark := ⟨xm2 (n := 205) rfl rfl, xm2 (n := 206) rfl rfl⟩
def mX10_readWord : xM := (yX10_readWord, cX10_readWord, 2, none, 10)
theorem oX10_readWord : xMok mX10_readWord := ⟨xm2 (n := 182) rfl rfl, xm1 (n := 8) rfl rfl, rfl, xpl10.1, xpl10.2⟩
theorem vX10_readWord : xVok mX10_readWord := ⟨xm2 (n := 180) rfl rfl, xm2 (n := 181) rfl rfl⟩
def mX10_readNumber : xM := (yX10_readNumber, cX10_readNumber, 4, (some .int), 10)
theorem oX10_readNumber : xMok mX10_readNumber := ⟨xm2 (n := 196) rfl rfl, xm1 (n := 8) rfl rfl, rfl, xpl10.1, xpl10.2⟩
theorem vX10_readNumber : xVok mX10_readNumber := ⟨xm2 (n := 194) rfl rfl, xm2 (n := 195) rfl rfl⟩
def mX10_seeNumber : xM := (yX10_seeNumber, cX10_seeNumber, 5, (some .int), 10)
theorem oX10_seeNumber : xMok mX10_seeNumber := ⟨xm2 (n := 200) rfl rfl, xm1 (n := 8) rfl rfl, rfl, xpl10.1, xpl10.2⟩
theorem vX10_seeNumber : xVok mX10_seeNumber := ⟨xm2 (n := 198) rfl rfl, xm2 (n := 199) rfl rfl⟩
def mX11_init : xM := (yX11_init, cX11_init, 2, none, 11)
theorem oX11_init : xMok mX11_init := ⟨xm1 (n := 31) rfl rfl, xm1 (n := 1) rfl rfl, rfl, xpl11.1, xpl11.2⟩
theorem vX11_init : Cond.instanceMethod mX11_init.1 ∈ xAll := xm1 (n := 30) rfl rfl
def mX11_append : xM := (yX11_append, cX11_append, 7, (some .int), 11)
theorem oX11_append : xMok mX11_append := ⟨xm5 (n := 22) rfl rfl, xm1 (n := 1) rfl rfl, rfl, xpl11.1, xpl11.2⟩
theorem vX11_append : xVok mX11_append := ⟨xm5 (n := 20) rfl rfl, xm5 (n := 21) rfl rfl⟩
def mX11_truncate : xM := (yX11_truncate, cX11_truncate, 2, (some .int), 11)
theorem oX11_truncate : xMok mX11_truncate := ⟨xm5 (n := 106) rfl rfl, xm1 (n := 1) rfl rfl, rfl, xpl11.1, xpl11.2⟩
theorem vX11_truncate : xVok mX11_truncate := ⟨xm5 (n := 104) rfl rfl, xm5 (n := 105) rfl rfl⟩
def mX11_load : xM := (yX11_load, cX11_load, 1, (some .int), 11)
theorem oX11_load : xMok mX11_load := ⟨xm3 (n := 103) rfl rfl, xm1 (n := 1) rfl rfl, rfl, xpl11.1, xpl11.2⟩
theorem vX11_load : xVok mX11_load := ⟨xm3 (n := 101) rfl rfl, xm3 (n := 102) rfl rfl⟩
def mX11_runScript : xM := (yX11_runScript, cX11_runScript, 2, (some .int), 11)
theorem oX11_runScript : xMok mX11_runScript := ⟨xm3 (n := 107) rfl rfl, xm1 (n := 1) rfl rfl, rfl, xpl11.1, xpl11.2⟩
theorem vX11_runScript : xVok mX11_runScript := ⟨xm3 (n := 105) rfl rfl, xm3 (n := 106) rfl rfl⟩
def mX11_errorCode : xM := (yX11_errorCode, cX11_errorCode, 1, (some .int), 11)
theorem oX11_errorCode : xMok mX11_errorCode := ⟨xm4 (n := 76) rfl rfl, xm1 (n := 1) rfl rfl, rfl, xpl11.1, xpl11.2⟩
theorem vX11_errorCode : xVok mX11_errorCode := ⟨xm4 (n := 74) rfl rfl, xm4 (n := 75) rfl rfl⟩
def mX11_errorPosition : xM := (yX11_errorPosition, cX11_errorPosition, 1, (some .int), 11)
theorem oX11_errorPosition : xMok mX11_errorPosition := ⟨xm4 (n := 80) rfl rfl, xm1 (n := 1) rfl rfl, rfl, xpl11.1, xpl11.2⟩
theorem vX11_errorPosition : xVok mX11_errorPosition := ⟨xm4 (n := 78) rfl rfl, xm4 (n := 79) rfl rfl⟩
def mX11_minute : xM := (yX11_minute, cX11_minute, 1, (some .int), 11)
theorem oX11_minute : xMok mX11_minute := ⟨xm4 (n := 84) rfl rfl, xm1 (n := 1) rfl rfl, rfl, xpl11.1, xpl11.2⟩
theorem vX11_minute : xVok mX11_minute := ⟨xm4 (n := 82) rfl rfl, xm4 (n := 83) rfl rfl⟩
def mX11_heat : xM := (yX11_heat, cX11_heat, 1, (some .int), 11)
theorem oX11_heat : xMok mX11_heat := ⟨xm4 (n := 88) rfl rfl, xm1 (n := 1) rfl rfl, rfl, xpl11.1, xpl11.2⟩
theorem vX11_heat : xVok mX11_heat := ⟨xm4 (n := 86) rfl rfl, xm4 (n := 87) rfl rfl⟩
def mX11_gear : xM := (yX11_gear, cX11_gear, 1, (some .int), 11)
theorem oX11_gear : xMok mX11_gear := ⟨xm4 (n := 92) rfl rfl, xm1 (n := 1) rfl rfl, rfl, xpl11.1, xpl11.2⟩
theorem vX11_gear : xVok mX11_gear := ⟨xm4 (n := 90) rfl rfl, xm4 (n := 91) rfl rfl⟩
def mX11_windDirection : xM := (yX11_windDirection, cX11_windDirection, 1, (some .int), 11)
theorem oX11_windDirection : xMok mX11_windDirection := ⟨xm4 (n := 96) rfl rfl, xm1 (n := 1) rfl rfl, rfl, xpl11.1, xpl11.2⟩
theorem vX11_windDirection : xVok mX11_windDirection := ⟨xm4 (n := 94) rfl rfl, xm4 (n := 95) rfl rfl⟩
def mX11_windStrength : xM := (yX11_windStrength, cX11_windStrength, 1, (some .int), 11)
theorem oX11_windStrength : xMok mX11_windStrength := ⟨xm4 (n := 100) rfl rfl, xm1 (n := 1) rfl rfl, rfl, xpl11.1, xpl11.2⟩
theorem vX11_windStrength : xVok mX11_windStrength := ⟨xm4 (n := 98) rfl rfl, xm4 (n := 99) rfl rfl⟩
def mX11_vaneDirection : xM := (yX11_vaneDirection, cX11_vaneDirection, 1, (some .int), 11)
theorem oX11_vaneDirection : xMok mX11_vaneDirection := ⟨xm4 (n := 104) rfl rfl, xm1 (n := 1) rfl rfl, rfl, xpl11.1, xpl11.2⟩
theorem vX11_vaneDirection : xVok mX11_vaneDirection := ⟨xm4 (n := 102) rfl rfl, xm4 (n := 103) rfl rfl⟩
def mX11_deviation : xM := (yX11_deviation, cX11_deviation, 1, (some .int), 11)
theorem oX11_deviation : xMok mX11_deviation := ⟨xm4 (n := 108) rfl rfl, xm1 (n := 1) rfl rfl, rfl, xpl11.1, xpl11.2⟩
theorem vX11_deviation : xVok mX11_deviation := ⟨xm4 (n := 106) rfl rfl, xm4 (n := 107) rfl rfl⟩
def mX11_draught : xM := (yX11_draught, cX11_draught, 1, (some .int), 11)
theorem oX11_draught : xMok mX11_draught := ⟨xm4 (n := 113) rfl rfl, xm1 (n := 1) rfl rfl, rfl, xpl11.1, xpl11.2⟩
theorem vX11_draught : xVok mX11_draught := ⟨xm4 (n := 111) rfl rfl, xm4 (n := 112) rfl rfl⟩
def mX11_floorCount : xM := (yX11_floorCount, cX11_floorCount, 1, (some .int), 11)
theorem oX11_floorCount : xMok mX11_floorCount := ⟨xm4 (n := 118) rfl rfl, xm1 (n := 1) rfl rfl, rfl, xpl11.1, xpl11.2⟩
theorem vX11_floorCount : xVok mX11_floorCount := ⟨xm4 (n := 116) rfl rfl, xm4 (n := 117) rfl rfl⟩
def mX11_limitOf : xM := (yX11_limitOf, cX11_limitOf, 2, (some .int), 11)
theorem oX11_limitOf : xMok mX11_limitOf := ⟨xm5 (n := 131) rfl rfl, xm1 (n := 1) rfl rfl, rfl, xpl11.1, xpl11.2⟩
theorem vX11_limitOf : xVok mX11_limitOf := ⟨xm5 (n := 129) rfl rfl, xm5 (n := 130) rfl rfl⟩
def mX11_temperatureOf : xM := (yX11_temperatureOf, cX11_temperatureOf, 2, (some .int), 11)
theorem oX11_temperatureOf : xMok mX11_temperatureOf := ⟨xm5 (n := 159) rfl rfl, xm1 (n := 1) rfl rfl, rfl, xpl11.1, xpl11.2⟩
theorem vX11_temperatureOf : xVok mX11_temperatureOf := ⟨xm5 (n := 157) rfl rfl, xm5 (n := 158) rfl rfl⟩
def mX11_hasLoad : xM := (yX11_hasLoad, cX11_hasLoad, 2, (some .boolean), 11)
theorem oX11_hasLoad : xMok mX11_hasLoad := ⟨xm5 (n := 166) rfl rfl, xm1 (n := 1) rfl rfl, rfl, xpl11.1, xpl11.2⟩
theorem vX11_hasLoad : xVok mX11_hasLoad := ⟨xm5 (n := 164) rfl rfl, xm5 (n := 165) rfl rfl⟩
def mX11_massOn : xM := (yX11_massOn, cX11_massOn, 2, (some .int), 11)
theorem oX11_massOn : xMok mX11_massOn := ⟨xm5 (n := 173) rfl rfl, xm1 (n := 1) rfl rfl, rfl, xpl11.1, xpl11.2⟩
theorem vX11_massOn : xVok mX11_massOn := ⟨xm5 (n := 171) rfl rfl, xm5 (n := 172) rfl rfl⟩
def mX11_moistureOn : xM := (yX11_moistureOn, cX11_moistureOn, 2, (some .int), 11)
theorem oX11_moistureOn : xMok mX11_moistureOn := ⟨xm5 (n := 181) rfl rfl, xm1 (n := 1) rfl rfl, rfl, xpl11.1, xpl11.2⟩
theorem vX11_moistureOn : xVok mX11_moistureOn := ⟨xm5 (n := 179) rfl rfl, xm5 (n := 180) rfl rfl⟩
def mX11_scorchOn : xM := (yX11_scorchOn, cX11_scorchOn, 2, (some .int), 11)
theorem oX11_scorchOn : xMok mX11_scorchOn := ⟨xm5 (n := 208) rfl rfl, xm1 (n := 1) rfl rfl, rfl, xpl11.1, xpl11.2⟩
theorem vX11_scorchOn : xVok mX11_scorchOn := ⟨xm5 (n := 206) rfl rfl, xm5 (n := 207) rfl rfl⟩
def mX11_isDry : xM := (yX11_isDry, cX11_isDry, 2, (some .boolean), 11)
theorem oX11_isDry : xMok mX11_isDry := ⟨xm5 (n := 215) rfl rfl, xm1 (n := 1) rfl rfl, rfl, xpl11.1, xpl11.2⟩
theorem vX11_isDry : xVok mX11_isDry := ⟨xm5 (n := 213) rfl rfl, xm5 (n := 214) rfl rfl⟩
def mX11_dryingOn : xM := (yX11_dryingOn, cX11_dryingOn, 2, (some .int), 11)
theorem oX11_dryingOn : xMok mX11_dryingOn := ⟨xm5 (n := 223) rfl rfl, xm1 (n := 1) rfl rfl, rfl, xpl11.1, xpl11.2⟩
theorem vX11_dryingOn : xVok mX11_dryingOn := ⟨xm5 (n := 221) rfl rfl, xm5 (n := 222) rfl rfl⟩
def mX11_warmestFloor : xM := (yX11_warmestFloor, cX11_warmestFloor, 1, (some .int), 11)
theorem oX11_warmestFloor : xMok mX11_warmestFloor := ⟨xm4 (n := 122) rfl rfl, xm1 (n := 1) rfl rfl, rfl, xpl11.1, xpl11.2⟩
theorem vX11_warmestFloor : xVok mX11_warmestFloor := ⟨xm4 (n := 120) rfl rfl, xm4 (n := 121) rfl rfl⟩
def mX11_obstacleToLower : xM := (yX11_obstacleToLower, cX11_obstacleToLower, 2, (some .int), 11)
theorem oX11_obstacleToLower : xMok mX11_obstacleToLower := ⟨xm5 (n := 235) rfl rfl, xm1 (n := 1) rfl rfl, rfl, xpl11.1, xpl11.2⟩
theorem vX11_obstacleToLower : xVok mX11_obstacleToLower := ⟨xm5 (n := 233) rfl rfl, xm5 (n := 234) rfl rfl⟩
def mX11_sackCount : xM := (yX11_sackCount, cX11_sackCount, 1, (some .int), 11)
theorem oX11_sackCount : xMok mX11_sackCount := ⟨xm4 (n := 130) rfl rfl, xm1 (n := 1) rfl rfl, rfl, xpl11.1, xpl11.2⟩
theorem vX11_sackCount : xVok mX11_sackCount := ⟨xm4 (n := 128) rfl rfl, xm4 (n := 129) rfl rfl⟩
def mX11_sackState : xM := (yX11_sackState, cX11_sackState, 2, (some .int), 11)
theorem oX11_sackState : xMok mX11_sackState := ⟨xm6 (n := 3) rfl rfl, xm1 (n := 1) rfl rfl, rfl, xpl11.1, xpl11.2⟩
theorem vX11_sackState : xVok mX11_sackState := ⟨xm6 (n := 1) rfl rfl, xm6 (n := 2) rfl rfl⟩
def mX11_sackMass : xM := (yX11_sackMass, cX11_sackMass, 2, (some .int), 11)
theorem oX11_sackMass : xMok mX11_sackMass := ⟨xm6 (n := 16) rfl rfl, xm1 (n := 1) rfl rfl, rfl, xpl11.1, xpl11.2⟩
theorem vX11_sackMass : xVok mX11_sackMass := ⟨xm6 (n := 14) rfl rfl, xm6 (n := 15) rfl rfl⟩
def mX11_sackMoisture : xM := (yX11_sackMoisture, cX11_sackMoisture, 2, (some .int), 11)
theorem oX11_sackMoisture : xMok mX11_sackMoisture := ⟨xm6 (n := 23) rfl rfl, xm1 (n := 1) rfl rfl, rfl, xpl11.1, xpl11.2⟩
theorem vX11_sackMoisture : xVok mX11_sackMoisture := ⟨xm6 (n := 21) rfl rfl, xm6 (n := 22) rfl rfl⟩
def mX11_sackTemperature : xM := (yX11_sackTemperature, cX11_sackTemperature, 2, (some .int), 11)
theorem oX11_sackTemperature : xMok mX11_sackTemperature := ⟨xm6 (n := 30) rfl rfl, xm1 (n := 1) rfl rfl, rfl, xpl11.1, xpl11.2⟩
theorem vX11_sackTemperature : xVok mX11_sackTemperature := ⟨xm6 (n := 28) rfl rfl, xm6 (n := 29) rfl rfl⟩
def mX11_isSmouldering : xM := (yX11_isSmouldering, cX11_isSmouldering, 2, (some .boolean), 11)
theorem oX11_isSmouldering : xMok mX11_isSmouldering := ⟨xm6 (n := 37) rfl rfl, xm1 (n := 1) rfl rfl, rfl, xpl11.1, xpl11.2⟩
theorem vX11_isSmouldering : xVok mX11_isSmouldering := ⟨xm6 (n := 35) rfl rfl, xm6 (n := 36) rfl rfl⟩
def mX11_qualityOf : xM := (yX11_qualityOf, cX11_qualityOf, 2, (some .int), 11)
theorem oX11_qualityOf : xMok mX11_qualityOf := ⟨xm6 (n := 44) rfl rfl, xm1 (n := 1) rfl rfl, rfl, xpl11.1, xpl11.2⟩
theorem vX11_qualityOf : xVok mX11_qualityOf := ⟨xm6 (n := 42) rfl rfl, xm6 (n := 43) rfl rfl⟩
def mX11_priceOf : xM := (yX11_priceOf, cX11_priceOf, 2, (some .int), 11)
theorem oX11_priceOf : xMok mX11_priceOf := ⟨xm6 (n := 52) rfl rfl, xm1 (n := 1) rfl rfl, rfl, xpl11.1, xpl11.2⟩
theorem vX11_priceOf : xVok mX11_priceOf := ⟨xm6 (n := 50) rfl rfl, xm6 (n := 51) rfl rfl⟩
def mX11_smoulderingSacks : xM := (yX11_smoulderingSacks, cX11_smoulderingSacks, 1, (some .int), 11)
theorem oX11_smoulderingSacks : xMok mX11_smoulderingSacks := ⟨xm4 (n := 134) rfl rfl, xm1 (n := 1) rfl rfl, rfl, xpl11.1, xpl11.2⟩
theorem vX11_smoulderingSacks : xVok mX11_smoulderingSacks := ⟨xm4 (n := 132) rfl rfl, xm4 (n := 133) rfl rfl⟩
def mX11_hottestSack : xM := (yX11_hottestSack, cX11_hottestSack, 1, (some .int), 11)
theorem oX11_hottestSack : xMok mX11_hottestSack := ⟨xm4 (n := 142) rfl rfl, xm1 (n := 1) rfl rfl, rfl, xpl11.1, xpl11.2⟩
theorem vX11_hottestSack : xVok mX11_hottestSack := ⟨xm4 (n := 140) rfl rfl, xm4 (n := 141) rfl rfl⟩
def mX11_loadedMass : xM := (yX11_loadedMass, cX11_loadedMass, 1, (some .int), 11)
theorem oX11_loadedMass : xMok mX11_loadedMass := ⟨xm4 (n := 150) rfl rfl, xm1 (n := 1) rfl rfl, rfl, xpl11.1, xpl11.2⟩
theorem vX11_loadedMass : xVok mX11_loadedMass := ⟨xm4 (n := 148) rfl rfl, xm4 (n := 149) rfl rfl⟩
def mX11_soldMass : xM := (yX11_soldMass, cX11_soldMass, 1, (some .int), 11)
theorem oX11_soldMass : xMok mX11_soldMass := ⟨xm4 (n := 154) rfl rfl, xm1 (n := 1) rfl rfl, rfl, xpl11.1, xpl11.2⟩
theorem vX11_soldMass : xVok mX11_soldMass := ⟨xm4 (n := 152) rfl rfl, xm4 (n := 153) rfl rfl⟩
def mX11_burntMass : xM := (yX11_burntMass, cX11_burntMass, 1, (some .int), 11)
theorem oX11_burntMass : xMok mX11_burntMass := ⟨xm4 (n := 158) rfl rfl, xm1 (n := 1) rfl rfl, rfl, xpl11.1, xpl11.2⟩
theorem vX11_burntMass : xVok mX11_burntMass := ⟨xm4 (n := 156) rfl rfl, xm4 (n := 157) rfl rfl⟩
def mX11_income : xM := (yX11_income, cX11_income, 1, (some .int), 11)
theorem oX11_income : xMok mX11_income := ⟨xm4 (n := 162) rfl rfl, xm1 (n := 1) rfl rfl, rfl, xpl11.1, xpl11.2⟩
theorem vX11_income : xVok mX11_income := ⟨xm4 (n := 160) rfl rfl, xm4 (n := 161) rfl rfl⟩
def mX11_dampedHeat : xM := (yX11_dampedHeat, cX11_dampedHeat, 1, (some .int), 11)
theorem oX11_dampedHeat : xMok mX11_dampedHeat := ⟨xm4 (n := 166) rfl rfl, xm1 (n := 1) rfl rfl, rfl, xpl11.1, xpl11.2⟩
theorem vX11_dampedHeat : xVok mX11_dampedHeat := ⟨xm4 (n := 164) rfl rfl, xm4 (n := 165) rfl rfl⟩
def mX11_vaneSteps : xM := (yX11_vaneSteps, cX11_vaneSteps, 1, (some .int), 11)
theorem oX11_vaneSteps : xMok mX11_vaneSteps := ⟨xm4 (n := 170) rfl rfl, xm1 (n := 1) rfl rfl, rfl, xpl11.1, xpl11.2⟩
theorem vX11_vaneSteps : xVok mX11_vaneSteps := ⟨xm4 (n := 168) rfl rfl, xm4 (n := 169) rfl rfl⟩
def mX11_meanMoisture : xM := (yX11_meanMoisture, cX11_meanMoisture, 2, (some .double), 11)
theorem oX11_meanMoisture : xMok mX11_meanMoisture := ⟨xm4 (n := 174) rfl rfl, xm1 (n := 1) rfl rfl, rfl, xpl11.1, xpl11.2⟩
theorem vX11_meanMoisture : xVok mX11_meanMoisture := ⟨xm4 (n := 172) rfl rfl, xm4 (n := 173) rfl rfl⟩
def mX11_loadedShare : xM := (yX11_loadedShare, cX11_loadedShare, 2, (some .float), 11)
theorem oX11_loadedShare : xMok mX11_loadedShare := ⟨xm4 (n := 186) rfl rfl, xm1 (n := 1) rfl rfl, rfl, xpl11.1, xpl11.2⟩
theorem vX11_loadedShare : xVok mX11_loadedShare := ⟨xm4 (n := 184) rfl rfl, xm4 (n := 185) rfl rfl⟩
def mX11_contradictions : xM := (yX11_contradictions, cX11_contradictions, 3, (some .int), 11)
theorem oX11_contradictions : xMok mX11_contradictions := ⟨xm4 (n := 190) rfl rfl, xm1 (n := 1) rfl rfl, rfl, xpl11.1, xpl11.2⟩
theorem vX11_contradictions : xVok mX11_contradictions := ⟨xm4 (n := 188) rfl rfl, xm4 (n := 189) rfl rfl⟩
def mX11_temperatureAfter : xM := (yX11_temperatureAfter, cX11_temperatureAfter, 3, (some .int), 11)
theorem oX11_temperatureAfter : xMok mX11_temperatureAfter := ⟨xm6 (n := 60) rfl rfl, xm1 (n := 1) rfl rfl, rfl, xpl11.1, xpl11.2⟩
theorem vX11_temperatureAfter : xVok mX11_temperatureAfter := ⟨xm6 (n := 58) rfl rfl, xm6 (n := 59) rfl rfl⟩
def mX11_minutesUntilDry : xM := (yX11_minutesUntilDry, cX11_minutesUntilDry, 3, (some .int), 11)
theorem oX11_minutesUntilDry : xMok mX11_minutesUntilDry := ⟨xm6 (n := 69) rfl rfl, xm1 (n := 1) rfl rfl, rfl, xpl11.1, xpl11.2⟩
theorem vX11_minutesUntilDry : xVok mX11_minutesUntilDry := ⟨xm6 (n := 67) rfl rfl, xm6 (n := 68) rfl rfl⟩
def mX11_minutesUntilBurnt : xM := (yX11_minutesUntilBurnt, cX11_minutesUntilBurnt, 3, (some .int), 11)
theorem oX11_minutesUntilBurnt : xMok mX11_minutesUntilBurnt := ⟨xm6 (n := 76) rfl rfl, xm1 (n := 1) rfl rfl, rfl, xpl11.1, xpl11.2⟩
theorem vX11_minutesUntilBurnt : xVok mX11_minutesUntilBurnt := ⟨xm6 (n := 74) rfl rfl, xm6 (n := 75) rfl rfl⟩
def mX11_putLoad : xM := (yX11_putLoad, cX11_putLoad, 3, (some .int), 11)
theorem oX11_putLoad : xMok mX11_putLoad := ⟨xm6 (n := 83) rfl rfl, xm1 (n := 1) rfl rfl, rfl, xpl11.1, xpl11.2⟩
theorem vX11_putLoad : xVok mX11_putLoad := ⟨xm6 (n := 81) rfl rfl, xm6 (n := 82) rfl rfl⟩
def mX11_lower : xM := (yX11_lower, cX11_lower, 3, (some .int), 11)
theorem oX11_lower : xMok mX11_lower := ⟨xm6 (n := 94) rfl rfl, xm1 (n := 1) rfl rfl, rfl, xpl11.1, xpl11.2⟩
theorem vX11_lower : xVok mX11_lower := ⟨xm6 (n := 92) rfl rfl, xm6 (n := 93) rfl rfl⟩
def mX11_rotate : xM := (yX11_rotate, cX11_rotate, 1, (some .int), 11)
theorem oX11_rotate : xMok mX11_rotate := ⟨xm4 (n := 217) rfl rfl, xm1 (n := 1) rfl rfl, rfl, xpl11.1, xpl11.2⟩
theorem vX11_rotate : xVok mX11_rotate := ⟨xm4 (n := 215) rfl rfl, xm4 (n := 216) rfl rfl⟩
def mX11_setHeat : xM := (yX11_setHeat, cX11_setHeat, 2, (some .int), 11)
theorem oX11_setHeat : xMok mX11_setHeat := ⟨xm6 (n := 103) rfl rfl, xm1 (n := 1) rfl rfl, rfl, xpl11.1, xpl11.2⟩
theorem vX11_setHeat : xVok mX11_setHeat := ⟨xm6 (n := 101) rfl rfl, xm6 (n := 102) rfl rfl⟩
def mX11_setGear : xM := (yX11_setGear, cX11_setGear, 3, (some .int), 11)
theorem oX11_setGear : xMok mX11_setGear := ⟨xm6 (n := 112) rfl rfl, xm1 (n := 1) rfl rfl, rfl, xpl11.1, xpl11.2⟩
theorem vX11_setGear : xVok mX11_setGear := ⟨xm6 (n := 110) rfl rfl, xm6 (n := 111) rfl rfl⟩
def mX11_setWind : xM := (yX11_setWind, cX11_setWind, 3, (some .int), 11)
theorem oX11_setWind : xMok mX11_setWind := ⟨xm6 (n := 121) rfl rfl, xm1 (n := 1) rfl rfl, rfl, xpl11.1, xpl11.2⟩
theorem vX11_setWind : xVok mX11_setWind := ⟨xm6 (n := 119) rfl rfl, xm6 (n := 120) rfl rfl⟩
def mX11_sell : xM := (yX11_sell, cX11_sell, 2, (some .int), 11)
theorem oX11_sell : xMok mX11_sell := ⟨xm6 (n := 130) rfl rfl, xm1 (n := 1) rfl rfl, rfl, xpl11.1, xpl11.2⟩
theorem vX11_sell : xVok mX11_sell := ⟨xm6 (n := 128) rfl rfl, xm6 (n := 129) rfl rfl⟩
def mX11_quench : xM := (yX11_quench, cX11_quench, 3, (some .int), 11)
theorem oX11_quench : xMok mX11_quench := ⟨xm6 (n := 140) rfl rfl, xm1 (n := 1) rfl rfl, rfl, xpl11.1, xpl11.2⟩
theorem vX11_quench : xVok mX11_quench := ⟨xm6 (n := 138) rfl rfl, xm6 (n := 139) rfl rfl⟩
def mX11_advance : xM := (yX11_advance, cX11_advance, 2, (some .int), 11)
theorem oX11_advance : xMok mX11_advance := ⟨xm6 (n := 150) rfl rfl, xm1 (n := 1) rfl rfl, rfl, xpl11.1, xpl11.2⟩
theorem vX11_advance : xVok mX11_advance := ⟨xm6 (n := 148) rfl rfl, xm6 (n := 149) rfl rfl⟩
def mX11_writeFloors : xM := (yX11_writeFloors, cX11_writeFloors, 2, (some .int), 11)
theorem oX11_writeFloors : xMok mX11_writeFloors := ⟨xm4 (n := 222) rfl rfl, xm1 (n := 1) rfl rfl, rfl, xpl11.1, xpl11.2⟩
theorem vX11_writeFloors : xVok mX11_writeFloors := ⟨xm4 (n := 220) rfl rfl, xm4 (n := 221) rfl rfl⟩
def mX11_writeSacks : xM := (yX11_writeSacks, cX11_writeSacks, 2, (some .int), 11)
theorem oX11_writeSacks : xMok mX11_writeSacks := ⟨xm5 (n := 1) rfl rfl, xm1 (n := 1) rfl rfl, rfl, xpl11.1, xpl11.2⟩
theorem vX11_writeSacks : xVok mX11_writeSacks := ⟨xm4 (n := 239) rfl rfl, xm5 (n := 0) rfl rfl⟩
def mX11_outputByte : xM := (yX11_outputByte, cX11_outputByte, 2, (some .int), 11)
theorem oX11_outputByte : xMok mX11_outputByte := ⟨xm5 (n := 6) rfl rfl, xm1 (n := 1) rfl rfl, rfl, xpl11.1, xpl11.2⟩
theorem vX11_outputByte : xVok mX11_outputByte := ⟨xm5 (n := 4) rfl rfl, xm5 (n := 5) rfl rfl⟩
def mX11_undoCount : xM := (yX11_undoCount, cX11_undoCount, 1, (some .int), 11)
theorem oX11_undoCount : xMok mX11_undoCount := ⟨xm5 (n := 14) rfl rfl, xm1 (n := 1) rfl rfl, rfl, xpl11.1, xpl11.2⟩
theorem vX11_undoCount : xVok mX11_undoCount := ⟨xm5 (n := 12) rfl rfl, xm5 (n := 13) rfl rfl⟩
def mX11_undo : xM := (yX11_undo, cX11_undo, 1, (some .int), 11)
theorem oX11_undo : xMok mX11_undo := ⟨xm6 (n := 159) rfl rfl, xm1 (n := 1) rfl rfl, rfl, xpl11.1, xpl11.2⟩
theorem vX11_undo : xVok mX11_undo := ⟨xm6 (n := 157) rfl rfl, xm6 (n := 158) rfl rfl⟩
def mX11_save : xM := (yX11_save, cX11_save, 2, (some .int), 11)
theorem oX11_save : xMok mX11_save := ⟨xm6 (n := 171) rfl rfl, xm1 (n := 1) rfl rfl, rfl, xpl11.1, xpl11.2⟩
theorem vX11_save : xVok mX11_save := ⟨xm6 (n := 169) rfl rfl, xm6 (n := 170) rfl rfl⟩
def mX11_restore : xM := (yX11_restore, cX11_restore, 3, (some .int), 11)
theorem oX11_restore : xMok mX11_restore := ⟨xm6 (n := 187) rfl rfl, xm1 (n := 1) rfl rfl, rfl, xpl11.1, xpl11.2⟩
theorem vX11_restore : xVok mX11_restore := ⟨xm6 (n := 185) rfl rfl, xm6 (n := 186) rfl rfl⟩
def mX11_requireFloor : xM := (yX11_requireFloor, cX11_requireFloor, 2, none, 11)
theorem oX11_requireFloor : xMok mX11_requireFloor := ⟨xm5 (n := 135) rfl rfl, xm1 (n := 1) rfl rfl, rfl, xpl11.1, xpl11.2⟩
theorem vX11_requireFloor : xVok mX11_requireFloor := ⟨xm5 (n := 134) rfl rfl, xm0 (n := 16) rfl rfl⟩
def mX11_requireLoad : xM := (yX11_requireLoad, cX11_requireLoad, 2, none, 11)
theorem oX11_requireLoad : xMok mX11_requireLoad := ⟨xm5 (n := 185) rfl rfl, xm1 (n := 1) rfl rfl, rfl, xpl11.1, xpl11.2⟩
theorem vX11_requireLoad : xVok mX11_requireLoad := ⟨xm5 (n := 184) rfl rfl, xm0 (n := 17) rfl rfl⟩
def mX11_requireSack : xM := (yX11_requireSack, cX11_requireSack, 2, none, 11)
theorem oX11_requireSack : xMok mX11_requireSack := ⟨xm6 (n := 7) rfl rfl, xm1 (n := 1) rfl rfl, rfl, xpl11.1, xpl11.2⟩
theorem vX11_requireSack : xVok mX11_requireSack := ⟨xm6 (n := 6) rfl rfl, xm0 (n := 18) rfl rfl⟩
def mX11_requireSlot : xM := (yX11_requireSlot, cX11_requireSlot, 2, none, 11)
theorem oX11_requireSlot : xMok mX11_requireSlot := ⟨xm6 (n := 175) rfl rfl, xm1 (n := 1) rfl rfl, rfl, xpl11.1, xpl11.2⟩
theorem vX11_requireSlot : xVok mX11_requireSlot := ⟨xm6 (n := 174) rfl rfl, xm0 (n := 19) rfl rfl⟩
def mX11_within : xM := (yX11_within, cX11_within, 3, (some .boolean), 11)
theorem oX11_within : xMok mX11_within := ⟨xm2 (n := 203) rfl rfl, xm1 (n := 1) rfl rfl, rfl, xpl11.1, xpl11.2⟩
theorem vX11_within : Cond.static mX11_within.1 ∈ xAll := xm2 (n := 202) rfl rfl
def mX11_visibleBytes : xM := (yX11_visibleBytes, cX11_visibleBytes, 3, (some .int), 11)
theorem oX11_visibleBytes : xMok mX11_visibleBytes := ⟨xm5 (n := 25) rfl rfl, xm1 (n := 1) rfl rfl, rfl, xpl11.1, xpl11.2⟩
theorem vX11_visibleBytes : Cond.static mX11_visibleBytes.1 ∈ xAll := xm5 (n := 24) rfl rfl
def mX11_beginHouse : xM := (yX11_beginHouse, cX11_beginHouse, 1, none, 11)
theorem oX11_beginHouse : xMok mX11_beginHouse := ⟨xm2 (n := 147) rfl rfl, xm1 (n := 1) rfl rfl, rfl, xpl11.1, xpl11.2⟩
theorem vX11_beginHouse : xVok mX11_beginHouse := ⟨xm2 (n := 146) rfl rfl, xm0 (n := 0) rfl rfl⟩
def mX12_init : xM := (yX12_init, cX12_init, 1, none, 12)
theorem oX12_init : xMok mX12_init := ⟨xm6 (n := 197) rfl rfl, xm1 (n := 18) rfl rfl, rfl, xpl12.1, xpl12.2⟩
theorem vX12_init : Cond.instanceMethod mX12_init.1 ∈ xAll := xm6 (n := 196) rfl rfl
def mX12_thrown : xM := (yX12_thrown, cX12_thrown, 1, (some .int), 12)
theorem oX12_thrown : xMok mX12_thrown := ⟨xm7 (n := 96) rfl rfl, xm1 (n := 18) rfl rfl, rfl, xpl12.1, xpl12.2⟩
theorem vX12_thrown : xVok mX12_thrown := ⟨xm7 (n := 94) rfl rfl, xm7 (n := 95) rfl rfl⟩
def mX12_in : xM := (yX12_in, cX12_in, 6, (some .boolean), 12)
theorem oX12_in : xMok mX12_in := ⟨xm7 (n := 119) rfl rfl, xm1 (n := 18) rfl rfl, rfl, xpl12.1, xpl12.2⟩
theorem vX12_in : Cond.static mX12_in.1 ∈ xAll := xm7 (n := 118) rfl rfl
def mX12_flag : xM := (yX12_flag, cX12_flag, 1, (some .int), 12)
theorem oX12_flag : xMok mX12_flag := ⟨xm8 (n := 18) rfl rfl, xm1 (n := 18) rfl rfl, rfl, xpl12.1, xpl12.2⟩
theorem vX12_flag : Cond.static mX12_flag.1 ∈ xAll := xm8 (n := 17) rfl rfl
def mX12_bare : xM := (yX12_bare, cX12_bare, 1, (some .int), 12)
theorem oX12_bare : xMok mX12_bare := ⟨xm9 (n := 135) rfl rfl, xm1 (n := 18) rfl rfl, rfl, xpl12.1, xpl12.2⟩
theorem vX12_bare : Cond.static mX12_bare.1 ∈ xAll := xm9 (n := 134) rfl rfl
def mX12_stops : xM := (yX12_stops, cX12_stops, 3, (some .boolean), 12)
theorem oX12_stops : xMok mX12_stops := ⟨xm7 (n := 108) rfl rfl, xm1 (n := 18) rfl rfl, rfl, xpl12.1, xpl12.2⟩
theorem vX12_stops : xVok mX12_stops := ⟨xm7 (n := 107) rfl rfl, xm0 (n := 31) rfl rfl⟩
def mX12_copies : xM := (yX12_copies, cX12_copies, 5, none, 12)
theorem oX12_copies : xMok mX12_copies := ⟨xm7 (n := 130) rfl rfl, xm1 (n := 18) rfl rfl, rfl, xpl12.1, xpl12.2⟩
theorem vX12_copies : Cond.static mX12_copies.1 ∈ xAll := xm7 (n := 129) rfl rfl
def mX12_atFloor : xM := (yX12_atFloor, cX12_atFloor, 2, (some .int), 12)
theorem oX12_atFloor : xMok mX12_atFloor := ⟨xm6 (n := 205) rfl rfl, xm1 (n := 18) rfl rfl, rfl, xpl12.1, xpl12.2⟩
theorem vX12_atFloor : Cond.static mX12_atFloor.1 ∈ xAll := xm6 (n := 204) rfl rfl
def mX12_atSack : xM := (yX12_atSack, cX12_atSack, 2, (some .int), 12)
theorem oX12_atSack : xMok mX12_atSack := ⟨xm8 (n := 37) rfl rfl, xm1 (n := 18) rfl rfl, rfl, xpl12.1, xpl12.2⟩
theorem vX12_atSack : Cond.static mX12_atSack.1 ∈ xAll := xm8 (n := 36) rfl rfl
def mX12_onFloor : xM := (yX12_onFloor, cX12_onFloor, 3, (some .int), 12)
theorem oX12_onFloor : xMok mX12_onFloor := ⟨xm7 (n := 1) rfl rfl, xm1 (n := 18) rfl rfl, rfl, xpl12.1, xpl12.2⟩
theorem vX12_onFloor : xVok mX12_onFloor := ⟨xm7 (n := 0) rfl rfl, xm0 (n := 29) rfl rfl⟩
def mX12_of : xM := (yX12_of, cX12_of, 3, (some .int), 12)
theorem oX12_of : xMok mX12_of := ⟨xm8 (n := 57) rfl rfl, xm1 (n := 18) rfl rfl, rfl, xpl12.1, xpl12.2⟩
theorem vX12_of : xVok mX12_of := ⟨xm8 (n := 56) rfl rfl, xm0 (n := 66) rfl rfl⟩
def mX12_builds : xM := (yX12_builds, cX12_builds, 2, none, 12)
theorem oX12_builds : xMok mX12_builds := ⟨xm6 (n := 202) rfl rfl, xm1 (n := 18) rfl rfl, rfl, xpl12.1, xpl12.2⟩
theorem vX12_builds : xVok mX12_builds := ⟨xm6 (n := 201) rfl rfl, xm0 (n := 20) rfl rfl⟩
def mX12_isLoaded : xM := (yX12_isLoaded, cX12_isLoaded, 2, (some .boolean), 12)
theorem oX12_isLoaded : xMok mX12_isLoaded := ⟨xm7 (n := 202) rfl rfl, xm1 (n := 18) rfl rfl, rfl, xpl12.1, xpl12.2⟩
theorem vX12_isLoaded : xVok mX12_isLoaded := ⟨xm7 (n := 201) rfl rfl, xm0 (n := 47) rfl rfl⟩
def mX12_lays : xM := (yX12_lays, cX12_lays, 4, none, 12)
theorem oX12_lays : xMok mX12_lays := ⟨xm6 (n := 209) rfl rfl, xm1 (n := 18) rfl rfl, rfl, xpl12.1, xpl12.2⟩
theorem vX12_lays : xVok mX12_lays := ⟨xm6 (n := 208) rfl rfl, xm0 (n := 21) rfl rfl⟩
def mX12_empties : xM := (yX12_empties, cX12_empties, 2, none, 12)
theorem oX12_empties : xMok mX12_empties := ⟨xm8 (n := 41) rfl rfl, xm1 (n := 18) rfl rfl, rfl, xpl12.1, xpl12.2⟩
theorem vX12_empties : xVok mX12_empties := ⟨xm8 (n := 40) rfl rfl, xm0 (n := 62) rfl rfl⟩
def mX12_clockwise : xM := (yX12_clockwise, cX12_clockwise, 1, (some .int), 12)
theorem oX12_clockwise : xMok mX12_clockwise := ⟨xm6 (n := 237) rfl rfl, xm1 (n := 18) rfl rfl, rfl, xpl12.1, xpl12.2⟩
theorem vX12_clockwise : xVok mX12_clockwise := ⟨xm6 (n := 236) rfl rfl, xm0 (n := 28) rfl rfl⟩
def mX12_deviates : xM := (yX12_deviates, cX12_deviates, 2, (some .int), 12)
theorem oX12_deviates : xMok mX12_deviates := ⟨xm6 (n := 233) rfl rfl, xm1 (n := 18) rfl rfl, rfl, xpl12.1, xpl12.2⟩
theorem vX12_deviates : xVok mX12_deviates := ⟨xm6 (n := 232) rfl rfl, xm0 (n := 27) rfl rfl⟩
def mX12_draws : xM := (yX12_draws, cX12_draws, 4, (some .int), 12)
theorem oX12_draws : xMok mX12_draws := ⟨xm6 (n := 229) rfl rfl, xm1 (n := 18) rfl rfl, rfl, xpl12.1, xpl12.2⟩
theorem vX12_draws : xVok mX12_draws := ⟨xm6 (n := 228) rfl rfl, xm0 (n := 26) rfl rfl⟩
def mX12_warmth : xM := (yX12_warmth, cX12_warmth, 4, (some .int), 12)
theorem oX12_warmth : xMok mX12_warmth := ⟨xm6 (n := 225) rfl rfl, xm1 (n := 18) rfl rfl, rfl, xpl12.1, xpl12.2⟩
theorem vX12_warmth : xVok mX12_warmth := ⟨xm6 (n := 224) rfl rfl, xm0 (n := 25) rfl rfl⟩
def mX12_degrees : xM := (yX12_degrees, cX12_degrees, 3, (some .int), 12)
theorem oX12_degrees : xMok mX12_degrees := ⟨xm6 (n := 221) rfl rfl, xm1 (n := 18) rfl rfl, rfl, xpl12.1, xpl12.2⟩
theorem vX12_degrees : xVok mX12_degrees := ⟨xm6 (n := 220) rfl rfl, xm0 (n := 24) rfl rfl⟩
def mX12_isTooWarm : xM := (yX12_isTooWarm, cX12_isTooWarm, 2, (some .boolean), 12)
theorem oX12_isTooWarm : xMok mX12_isTooWarm := ⟨xm6 (n := 217) rfl rfl, xm1 (n := 18) rfl rfl, rfl, xpl12.1, xpl12.2⟩
theorem vX12_isTooWarm : xVok mX12_isTooWarm := ⟨xm6 (n := 216) rfl rfl, xm0 (n := 23) rfl rfl⟩
def mX12_damps : xM := (yX12_damps, cX12_damps, 1, none, 12)
theorem oX12_damps : xMok mX12_damps := ⟨xm6 (n := 213) rfl rfl, xm1 (n := 18) rfl rfl, rfl, xpl12.1, xpl12.2⟩
theorem vX12_damps : xVok mX12_damps := ⟨xm6 (n := 212) rfl rfl, xm0 (n := 22) rfl rfl⟩
def mX12_turns : xM := (yX12_turns, cX12_turns, 2, none, 12)
theorem oX12_turns : xMok mX12_turns := ⟨xm8 (n := 93) rfl rfl, xm1 (n := 18) rfl rfl, rfl, xpl12.1, xpl12.2⟩
theorem vX12_turns : xVok mX12_turns := ⟨xm8 (n := 92) rfl rfl, xm0 (n := 75) rfl rfl⟩
def mX12_dries : xM := (yX12_dries, cX12_dries, 5, (some .int), 12)
theorem oX12_dries : xMok mX12_dries := ⟨xm8 (n := 101) rfl rfl, xm1 (n := 18) rfl rfl, rfl, xpl12.1, xpl12.2⟩
theorem vX12_dries : xVok mX12_dries := ⟨xm8 (n := 100) rfl rfl, xm0 (n := 77) rfl rfl⟩
def mX12_driesAll : xM := (yX12_driesAll, cX12_driesAll, 4, none, 12)
theorem oX12_driesAll : xMok mX12_driesAll := ⟨xm8 (n := 97) rfl rfl, xm1 (n := 18) rfl rfl, rfl, xpl12.1, xpl12.2⟩
theorem vX12_driesAll : xVok mX12_driesAll := ⟨xm8 (n := 96) rfl rfl, xm0 (n := 76) rfl rfl⟩
def mX12_smoulders : xM := (yX12_smoulders, cX12_smoulders, 2, (some .boolean), 12)
theorem oX12_smoulders : xMok mX12_smoulders := ⟨xm8 (n := 61) rfl rfl, xm1 (n := 18) rfl rfl, rfl, xpl12.1, xpl12.2⟩
theorem vX12_smoulders : xVok mX12_smoulders := ⟨xm8 (n := 60) rfl rfl, xm0 (n := 67) rfl rfl⟩
def mX12_heats : xM := (yX12_heats, cX12_heats, 2, none, 12)
theorem oX12_heats : xMok mX12_heats := ⟨xm8 (n := 109) rfl rfl, xm1 (n := 18) rfl rfl, rfl, xpl12.1, xpl12.2⟩
theorem vX12_heats : xVok mX12_heats := ⟨xm8 (n := 108) rfl rfl, xm0 (n := 79) rfl rfl⟩
def mX12_glows : xM := (yX12_glows, cX12_glows, 4, (some .int), 12)
theorem oX12_glows : xMok mX12_glows := ⟨xm8 (n := 105) rfl rfl, xm1 (n := 18) rfl rfl, rfl, xpl12.1, xpl12.2⟩
theorem vX12_glows : xVok mX12_glows := ⟨xm8 (n := 104) rfl rfl, xm0 (n := 78) rfl rfl⟩
def mX12_minute1 : xM := (yX12_minute1, cX12_minute1, 2, (some .int), 12)
theorem oX12_minute1 : xMok mX12_minute1 := ⟨xm8 (n := 89) rfl rfl, xm1 (n := 18) rfl rfl, rfl, xpl12.1, xpl12.2⟩
theorem vX12_minute1 : xVok mX12_minute1 := ⟨xm8 (n := 88) rfl rfl, xm0 (n := 74) rfl rfl⟩
def mX12_minutes1 : xM := (yX12_minutes1, cX12_minutes1, 4, (some .int), 12)
theorem oX12_minutes1 : xMok mX12_minutes1 := ⟨xm8 (n := 85) rfl rfl, xm1 (n := 18) rfl rfl, rfl, xpl12.1, xpl12.2⟩
theorem vX12_minutes1 : xVok mX12_minutes1 := ⟨xm8 (n := 84) rfl rfl, xm0 (n := 73) rfl rfl⟩
def mX12_why : xM := (yX12_why, cX12_why, 2, (some .int), 12)
theorem oX12_why : xMok mX12_why := ⟨xm8 (n := 26) rfl rfl, xm1 (n := 18) rfl rfl, rfl, xpl12.1, xpl12.2⟩
theorem vX12_why : xVok mX12_why := ⟨xm8 (n := 25) rfl rfl, xm0 (n := 59) rfl rfl⟩
def mX12_packs : xM := (yX12_packs, cX12_packs, 2, none, 12)
theorem oX12_packs : xMok mX12_packs := ⟨xm8 (n := 34) rfl rfl, xm1 (n := 18) rfl rfl, rfl, xpl12.1, xpl12.2⟩
theorem vX12_packs : xVok mX12_packs := ⟨xm8 (n := 33) rfl rfl, xm0 (n := 61) rfl rfl⟩
def mX12_lowers : xM := (yX12_lowers, cX12_lowers, 3, (some .int), 12)
theorem oX12_lowers : xMok mX12_lowers := ⟨xm8 (n := 30) rfl rfl, xm1 (n := 18) rfl rfl, rfl, xpl12.1, xpl12.2⟩
theorem vX12_lowers : xVok mX12_lowers := ⟨xm8 (n := 29) rfl rfl, xm0 (n := 60) rfl rfl⟩
def mX12_rotates : xM := (yX12_rotates, cX12_rotates, 4, (some .int), 12)
theorem oX12_rotates : xMok mX12_rotates := ⟨xm8 (n := 113) rfl rfl, xm1 (n := 18) rfl rfl, rfl, xpl12.1, xpl12.2⟩
theorem vX12_rotates : xVok mX12_rotates := ⟨xm8 (n := 112) rfl rfl, xm0 (n := 80) rfl rfl⟩
def mX12_loads : xM := (yX12_loads, cX12_loads, 3, (some .int), 12)
theorem oX12_loads : xMok mX12_loads := ⟨xm8 (n := 135) rfl rfl, xm1 (n := 18) rfl rfl, rfl, xpl12.1, xpl12.2⟩
theorem vX12_loads : xVok mX12_loads := ⟨xm8 (n := 134) rfl rfl, xm0 (n := 82) rfl rfl⟩
def mX12_quality : xM := (yX12_quality, cX12_quality, 4, (some .int), 12)
theorem oX12_quality : xMok mX12_quality := ⟨xm8 (n := 73) rfl rfl, xm1 (n := 18) rfl rfl, rfl, xpl12.1, xpl12.2⟩
theorem vX12_quality : xVok mX12_quality := ⟨xm8 (n := 72) rfl rfl, xm0 (n := 70) rfl rfl⟩
def mX12_price : xM := (yX12_price, cX12_price, 2, (some .int), 12)
theorem oX12_price : xMok mX12_price := ⟨xm8 (n := 69) rfl rfl, xm1 (n := 18) rfl rfl, rfl, xpl12.1, xpl12.2⟩
theorem vX12_price : xVok mX12_price := ⟨xm8 (n := 68) rfl rfl, xm0 (n := 69) rfl rfl⟩
def mX12_isStored : xM := (yX12_isStored, cX12_isStored, 2, (some .boolean), 12)
theorem oX12_isStored : xMok mX12_isStored := ⟨xm8 (n := 53) rfl rfl, xm1 (n := 18) rfl rfl, rfl, xpl12.1, xpl12.2⟩
theorem vX12_isStored : xVok mX12_isStored := ⟨xm8 (n := 52) rfl rfl, xm0 (n := 65) rfl rfl⟩
def mX12_sells : xM := (yX12_sells, cX12_sells, 2, (some .int), 12)
theorem oX12_sells : xMok mX12_sells := ⟨xm8 (n := 65) rfl rfl, xm1 (n := 18) rfl rfl, rfl, xpl12.1, xpl12.2⟩
theorem vX12_sells : xVok mX12_sells := ⟨xm8 (n := 64) rfl rfl, xm0 (n := 68) rfl rfl⟩
def mX12_quenches : xM := (yX12_quenches, cX12_quenches, 4, (some .int), 12)
theorem oX12_quenches : xMok mX12_quenches := ⟨xm8 (n := 77) rfl rfl, xm1 (n := 18) rfl rfl, rfl, xpl12.1, xpl12.2⟩
theorem vX12_quenches : xVok mX12_quenches := ⟨xm8 (n := 76) rfl rfl, xm0 (n := 71) rfl rfl⟩
def mX12_bytesIn : xM := (yX12_bytesIn, cX12_bytesIn, 4, (some .int), 12)
theorem oX12_bytesIn : xMok mX12_bytesIn := ⟨xm7 (n := 104) rfl rfl, xm1 (n := 18) rfl rfl, rfl, xpl12.1, xpl12.2⟩
theorem vX12_bytesIn : xVok mX12_bytesIn := ⟨xm7 (n := 103) rfl rfl, xm0 (n := 30) rfl rfl⟩
def mX12_four : xM := (yX12_four, cX12_four, 3, none, 12)
theorem oX12_four : xMok mX12_four := ⟨xm7 (n := 112) rfl rfl, xm1 (n := 18) rfl rfl, rfl, xpl12.1, xpl12.2⟩
theorem vX12_four : xVok mX12_four := ⟨xm7 (n := 111) rfl rfl, xm0 (n := 32) rfl rfl⟩
def mX12_append : xM := (yX12_append, cX12_append, 6, (some .int), 12)
theorem oX12_append : xMok mX12_append := ⟨xm7 (n := 100) rfl rfl, xm1 (n := 18) rfl rfl, rfl, xpl12.1, xpl12.2⟩
theorem vX12_append : xVok mX12_append := ⟨xm7 (n := 98) rfl rfl, xm7 (n := 99) rfl rfl⟩
def mX12_truncate : xM := (yX12_truncate, cX12_truncate, 2, (some .int), 12)
theorem oX12_truncate : xMok mX12_truncate := ⟨xm7 (n := 116) rfl rfl, xm1 (n := 18) rfl rfl, rfl, xpl12.1, xpl12.2⟩
theorem vX12_truncate : xVok mX12_truncate := ⟨xm7 (n := 114) rfl rfl, xm7 (n := 115) rfl rfl⟩
def mX12_see : xM := (yX12_see, cX12_see, 2, (some .int), 12)
theorem oX12_see : xMok mX12_see := ⟨xm7 (n := 142) rfl rfl, xm1 (n := 18) rfl rfl, rfl, xpl12.1, xpl12.2⟩
theorem vX12_see : xVok mX12_see := ⟨xm7 (n := 141) rfl rfl, xm0 (n := 36) rfl rfl⟩
def mX12_isSmall : xM := (yX12_isSmall, cX12_isSmall, 1, (some .boolean), 12)
theorem oX12_isSmall : xMok mX12_isSmall := ⟨xm7 (n := 145) rfl rfl, xm1 (n := 18) rfl rfl, rfl, xpl12.1, xpl12.2⟩
theorem vX12_isSmall : Cond.static mX12_isSmall.1 ∈ xAll := xm7 (n := 144) rfl rfl
def mX12_isDigit : xM := (yX12_isDigit, cX12_isDigit, 1, (some .boolean), 12)
theorem oX12_isDigit : xMok mX12_isDigit := ⟨xm7 (n := 152) rfl rfl, xm1 (n := 18) rfl rfl, rfl, xpl12.1, xpl12.2⟩
theorem vX12_isDigit : Cond.static mX12_isDigit.1 ∈ xAll := xm7 (n := 151) rfl rfl
def mX12_scan : xM := (yX12_scan, cX12_scan, 2, none, 12)
theorem oX12_scan : xMok mX12_scan := ⟨xm7 (n := 138) rfl rfl, xm1 (n := 18) rfl rfl, rfl, xpl12.1, xpl12.2⟩
theorem vX12_scan : xVok mX12_scan := ⟨xm7 (n := 137) rfl rfl, xm0 (n := 35) rfl rfl⟩
def mX12_isGood : xM := (yX12_isGood, cX12_isGood, 1, (some .boolean), 12)
theorem oX12_isGood : xMok mX12_isGood := ⟨xm7 (n := 193) rfl rfl, xm1 (n := 18) rfl rfl, rfl, xpl12.1, xpl12.2⟩
theorem vX12_isGood : xVok mX12_isGood := ⟨xm7 (n := 192) rfl rfl, xm0 (n := 45) rfl rfl⟩
def mX12_must : xM := (yX12_must, cX12_must, 3, none, 12)
theorem oX12_must : xMok mX12_must := ⟨xm7 (n := 168) rfl rfl, xm1 (n := 18) rfl rfl, rfl, xpl12.1, xpl12.2⟩
theorem vX12_must : xVok mX12_must := ⟨xm7 (n := 167) rfl rfl, xm0 (n := 39) rfl rfl⟩
def mX12_goesOn : xM := (yX12_goesOn, cX12_goesOn, 1, none, 12)
theorem oX12_goesOn : xMok mX12_goesOn := ⟨xm7 (n := 172) rfl rfl, xm1 (n := 18) rfl rfl, rfl, xpl12.1, xpl12.2⟩
theorem vX12_goesOn : xVok mX12_goesOn := ⟨xm7 (n := 171) rfl rfl, xm0 (n := 40) rfl rfl⟩
def mX12_starts : xM := (yX12_starts, cX12_starts, 1, none, 12)
theorem oX12_starts : xMok mX12_starts := ⟨xm7 (n := 134) rfl rfl, xm1 (n := 18) rfl rfl, rfl, xpl12.1, xpl12.2⟩
theorem vX12_starts : xVok mX12_starts := ⟨xm7 (n := 133) rfl rfl, xm0 (n := 34) rfl rfl⟩
def mX12_isWord : xM := (yX12_isWord, cX12_isWord, 3, (some .boolean), 12)
theorem oX12_isWord : xMok mX12_isWord := ⟨xm7 (n := 164) rfl rfl, xm1 (n := 18) rfl rfl, rfl, xpl12.1, xpl12.2⟩
theorem vX12_isWord : xVok mX12_isWord := ⟨xm7 (n := 163) rfl rfl, xm0 (n := 38) rfl rfl⟩
def mX12_isSign : xM := (yX12_isSign, cX12_isSign, 2, (some .boolean), 12)
theorem oX12_isSign : xMok mX12_isSign := ⟨xm7 (n := 184) rfl rfl, xm1 (n := 18) rfl rfl, rfl, xpl12.1, xpl12.2⟩
theorem vX12_isSign : xVok mX12_isSign := ⟨xm7 (n := 183) rfl rfl, xm0 (n := 43) rfl rfl⟩
def mX12_sign : xM := (yX12_sign, cX12_sign, 2, none, 12)
theorem oX12_sign : xMok mX12_sign := ⟨xm7 (n := 180) rfl rfl, xm1 (n := 18) rfl rfl, rfl, xpl12.1, xpl12.2⟩
theorem vX12_sign : xVok mX12_sign := ⟨xm7 (n := 179) rfl rfl, xm0 (n := 42) rfl rfl⟩
def mX12_reads : xM := (yX12_reads, cX12_reads, 4, (some .int), 12)
theorem oX12_reads : xMok mX12_reads := ⟨xm7 (n := 176) rfl rfl, xm1 (n := 18) rfl rfl, rfl, xpl12.1, xpl12.2⟩
theorem vX12_reads : xVok mX12_reads := ⟨xm7 (n := 175) rfl rfl, xm0 (n := 41) rfl rfl⟩
def mX12_floorText : xM := (yX12_floorText, cX12_floorText, 2, none, 12)
theorem oX12_floorText : xMok mX12_floorText := ⟨xm7 (n := 189) rfl rfl, xm1 (n := 18) rfl rfl, rfl, xpl12.1, xpl12.2⟩
theorem vX12_floorText : xVok mX12_floorText := ⟨xm7 (n := 188) rfl rfl, xm0 (n := 44) rfl rfl⟩
def mX12_loadText : xM := (yX12_loadText, cX12_loadText, 4, none, 12)
theorem oX12_loadText : xMok mX12_loadText := ⟨xm7 (n := 198) rfl rfl, xm1 (n := 18) rfl rfl, rfl, xpl12.1, xpl12.2⟩
theorem vX12_loadText : xVok mX12_loadText := ⟨xm7 (n := 197) rfl rfl, xm0 (n := 46) rfl rfl⟩
def mX12_setup : xM := (yX12_setup, cX12_setup, 1, none, 12)
theorem oX12_setup : xMok mX12_setup := ⟨xm7 (n := 159) rfl rfl, xm1 (n := 18) rfl rfl, rfl, xpl12.1, xpl12.2⟩
theorem vX12_setup : xVok mX12_setup := ⟨xm7 (n := 158) rfl rfl, xm0 (n := 37) rfl rfl⟩
def mX12_takesText : xM := (yX12_takesText, cX12_takesText, 2, none, 12)
theorem oX12_takesText : xMok mX12_takesText := ⟨xm7 (n := 127) rfl rfl, xm1 (n := 18) rfl rfl, rfl, xpl12.1, xpl12.2⟩
theorem vX12_takesText : xVok mX12_takesText := ⟨xm7 (n := 126) rfl rfl, xm0 (n := 33) rfl rfl⟩
def mX12_tellsError : xM := (yX12_tellsError, cX12_tellsError, 1, none, 12)
theorem oX12_tellsError : xMok mX12_tellsError := ⟨xm7 (n := 206) rfl rfl, xm1 (n := 18) rfl rfl, rfl, xpl12.1, xpl12.2⟩
theorem vX12_tellsError : xVok mX12_tellsError := ⟨xm7 (n := 205) rfl rfl, xm0 (n := 48) rfl rfl⟩
def mX12_load : xM := (yX12_load, cX12_load, 2, (some .int), 12)
theorem oX12_load : xMok mX12_load := ⟨xm7 (n := 123) rfl rfl, xm1 (n := 18) rfl rfl, rfl, xpl12.1, xpl12.2⟩
theorem vX12_load : xVok mX12_load := ⟨xm7 (n := 121) rfl rfl, xm7 (n := 122) rfl rfl⟩
def mX12_isOrder : xM := (yX12_isOrder, cX12_isOrder, 1, (some .boolean), 12)
theorem oX12_isOrder : xMok mX12_isOrder := ⟨xm7 (n := 226) rfl rfl, xm1 (n := 18) rfl rfl, rfl, xpl12.1, xpl12.2⟩
theorem vX12_isOrder : xVok mX12_isOrder := ⟨xm7 (n := 225) rfl rfl, xm0 (n := 52) rfl rfl⟩
def mX12_isActive : xM := (yX12_isActive, cX12_isActive, 1, (some .boolean), 12)
theorem oX12_isActive : xMok mX12_isActive := ⟨xm8 (n := 11) rfl rfl, xm1 (n := 18) rfl rfl, rfl, xpl12.1, xpl12.2⟩
theorem vX12_isActive : xVok mX12_isActive := ⟨xm8 (n := 10) rfl rfl, xm0 (n := 56) rfl rfl⟩
def mX12_came : xM := (yX12_came, cX12_came, 2, none, 12)
theorem oX12_came : xMok mX12_came := ⟨xm8 (n := 15) rfl rfl, xm1 (n := 18) rfl rfl, rfl, xpl12.1, xpl12.2⟩
theorem vX12_came : xVok mX12_came := ⟨xm8 (n := 14) rfl rfl, xm0 (n := 57) rfl rfl⟩
def mX12_putText : xM := (yX12_putText, cX12_putText, 4, none, 12)
theorem oX12_putText : xMok mX12_putText := ⟨xm8 (n := 7) rfl rfl, xm1 (n := 18) rfl rfl, rfl, xpl12.1, xpl12.2⟩
theorem vX12_putText : xVok mX12_putText := ⟨xm8 (n := 6) rfl rfl, xm0 (n := 55) rfl rfl⟩
def mX12_lowerText : xM := (yX12_lowerText, cX12_lowerText, 4, none, 12)
theorem oX12_lowerText : xMok mX12_lowerText := ⟨xm8 (n := 22) rfl rfl, xm1 (n := 18) rfl rfl, rfl, xpl12.1, xpl12.2⟩
theorem vX12_lowerText : xVok mX12_lowerText := ⟨xm8 (n := 21) rfl rfl, xm0 (n := 58) rfl rfl⟩
def mX12_setsText : xM := (yX12_setsText, cX12_setsText, 5, none, 12)
theorem oX12_setsText : xMok mX12_setsText := ⟨xm8 (n := 45) rfl rfl, xm1 (n := 18) rfl rfl, rfl, xpl12.1, xpl12.2⟩
theorem vX12_setsText : xVok mX12_setsText := ⟨xm8 (n := 44) rfl rfl, xm0 (n := 63) rfl rfl⟩
def mX12_sackText : xM := (yX12_sackText, cX12_sackText, 5, none, 12)
theorem oX12_sackText : xMok mX12_sackText := ⟨xm8 (n := 49) rfl rfl, xm1 (n := 18) rfl rfl, rfl, xpl12.1, xpl12.2⟩
theorem vX12_sackText : xVok mX12_sackText := ⟨xm8 (n := 48) rfl rfl, xm0 (n := 64) rfl rfl⟩
def mX12_waitText : xM := (yX12_waitText, cX12_waitText, 4, none, 12)
theorem oX12_waitText : xMok mX12_waitText := ⟨xm8 (n := 81) rfl rfl, xm1 (n := 18) rfl rfl, rfl, xpl12.1, xpl12.2⟩
theorem vX12_waitText : xVok mX12_waitText := ⟨xm8 (n := 80) rfl rfl, xm0 (n := 72) rfl rfl⟩
def mX12_againOrder : xM := (yX12_againOrder, cX12_againOrder, 2, none, 12)
theorem oX12_againOrder : xMok mX12_againOrder := ⟨xm7 (n := 239) rfl rfl, xm1 (n := 18) rfl rfl, rfl, xpl12.1, xpl12.2⟩
theorem vX12_againOrder : xVok mX12_againOrder := ⟨xm7 (n := 238) rfl rfl, xm0 (n := 53) rfl rfl⟩
def mX12_closes : xM := (yX12_closes, cX12_closes, 1, none, 12)
theorem oX12_closes : xMok mX12_closes := ⟨xm7 (n := 218) rfl rfl, xm1 (n := 18) rfl rfl, rfl, xpl12.1, xpl12.2⟩
theorem vX12_closes : xVok mX12_closes := ⟨xm7 (n := 217) rfl rfl, xm0 (n := 50) rfl rfl⟩
def mX12_does : xM := (yX12_does, cX12_does, 4, none, 12)
theorem oX12_does : xMok mX12_does := ⟨xm8 (n := 3) rfl rfl, xm1 (n := 18) rfl rfl, rfl, xpl12.1, xpl12.2⟩
theorem vX12_does : xVok mX12_does := ⟨xm8 (n := 2) rfl rfl, xm0 (n := 54) rfl rfl⟩
def mX12_order : xM := (yX12_order, cX12_order, 3, none, 12)
theorem oX12_order : xMok mX12_order := ⟨xm7 (n := 222) rfl rfl, xm1 (n := 18) rfl rfl, rfl, xpl12.1, xpl12.2⟩
theorem vX12_order : xVok mX12_order := ⟨xm7 (n := 221) rfl rfl, xm0 (n := 51) rfl rfl⟩
def mX12_goesThrough : xM := (yX12_goesThrough, cX12_goesThrough, 2, none, 12)
theorem oX12_goesThrough : xMok mX12_goesThrough := ⟨xm7 (n := 214) rfl rfl, xm1 (n := 18) rfl rfl, rfl, xpl12.1, xpl12.2⟩
theorem vX12_goesThrough : xVok mX12_goesThrough := ⟨xm7 (n := 213) rfl rfl, xm0 (n := 49) rfl rfl⟩
def mX12_runScript : xM := (yX12_runScript, cX12_runScript, 1, (some .int), 12)
theorem oX12_runScript : xMok mX12_runScript := ⟨xm7 (n := 210) rfl rfl, xm1 (n := 18) rfl rfl, rfl, xpl12.1, xpl12.2⟩
theorem vX12_runScript : xVok mX12_runScript := ⟨xm7 (n := 208) rfl rfl, xm7 (n := 209) rfl rfl⟩
def mX12_errorCode : xM := (yX12_errorCode, cX12_errorCode, 1, (some .int), 12)
theorem oX12_errorCode : xMok mX12_errorCode := ⟨xm8 (n := 121) rfl rfl, xm1 (n := 18) rfl rfl, rfl, xpl12.1, xpl12.2⟩
theorem vX12_errorCode : xVok mX12_errorCode := ⟨xm8 (n := 119) rfl rfl, xm8 (n := 120) rfl rfl⟩
def mX12_errorPosition : xM := (yX12_errorPosition, cX12_errorPosition, 1, (some .int), 12)
theorem oX12_errorPosition : xMok mX12_errorPosition := ⟨xm8 (n := 125) rfl rfl, xm1 (n := 18) rfl rfl, rfl, xpl12.1, xpl12.2⟩
theorem vX12_errorPosition : xVok mX12_errorPosition := ⟨xm8 (n := 123) rfl rfl, xm8 (n := 124) rfl rfl⟩
def mX12_keepsPast : xM := (yX12_keepsPast, cX12_keepsPast, 2, none, 12)
theorem oX12_keepsPast : xMok mX12_keepsPast := ⟨xm8 (n := 117) rfl rfl, xm1 (n := 18) rfl rfl, rfl, xpl12.1, xpl12.2⟩
theorem vX12_keepsPast : xVok mX12_keepsPast := ⟨xm8 (n := 116) rfl rfl, xm0 (n := 81) rfl rfl⟩
def mX12_noFloor : xM := (yX12_noFloor, cX12_noFloor, 2, (some .boolean), 12)
theorem oX12_noFloor : xMok mX12_noFloor := ⟨xm8 (n := 143) rfl rfl, xm1 (n := 18) rfl rfl, rfl, xpl12.1, xpl12.2⟩
theorem vX12_noFloor : xVok mX12_noFloor := ⟨xm8 (n := 142) rfl rfl, xm0 (n := 83) rfl rfl⟩
def mX12_noSack : xM := (yX12_noSack, cX12_noSack, 2, (some .boolean), 12)
theorem oX12_noSack : xMok mX12_noSack := ⟨xm8 (n := 171) rfl rfl, xm1 (n := 18) rfl rfl, rfl, xpl12.1, xpl12.2⟩
theorem vX12_noSack : xVok mX12_noSack := ⟨xm8 (n := 170) rfl rfl, xm0 (n := 84) rfl rfl⟩
def mX12_putLoad : xM := (yX12_putLoad, cX12_putLoad, 4, (some .int), 12)
theorem oX12_putLoad : xMok mX12_putLoad := ⟨xm8 (n := 129) rfl rfl, xm1 (n := 18) rfl rfl, rfl, xpl12.1, xpl12.2⟩
theorem vX12_putLoad : xVok mX12_putLoad := ⟨xm8 (n := 127) rfl rfl, xm8 (n := 128) rfl rfl⟩
def mX12_lower : xM := (yX12_lower, cX12_lower, 3, (some .int), 12)
theorem oX12_lower : xMok mX12_lower := ⟨xm8 (n := 139) rfl rfl, xm1 (n := 18) rfl rfl, rfl, xpl12.1, xpl12.2⟩
theorem vX12_lower : xVok mX12_lower := ⟨xm8 (n := 137) rfl rfl, xm8 (n := 138) rfl rfl⟩
def mX12_rotate : xM := (yX12_rotate, cX12_rotate, 2, (some .int), 12)
theorem oX12_rotate : xMok mX12_rotate := ⟨xm8 (n := 147) rfl rfl, xm1 (n := 18) rfl rfl, rfl, xpl12.1, xpl12.2⟩
theorem vX12_rotate : xVok mX12_rotate := ⟨xm8 (n := 145) rfl rfl, xm8 (n := 146) rfl rfl⟩
def mX12_setHeat : xM := (yX12_setHeat, cX12_setHeat, 2, (some .int), 12)
theorem oX12_setHeat : xMok mX12_setHeat := ⟨xm8 (n := 151) rfl rfl, xm1 (n := 18) rfl rfl, rfl, xpl12.1, xpl12.2⟩
theorem vX12_setHeat : xVok mX12_setHeat := ⟨xm8 (n := 149) rfl rfl, xm8 (n := 150) rfl rfl⟩
def mX12_setGear : xM := (yX12_setGear, cX12_setGear, 3, (some .int), 12)
theorem oX12_setGear : xMok mX12_setGear := ⟨xm8 (n := 156) rfl rfl, xm1 (n := 18) rfl rfl, rfl, xpl12.1, xpl12.2⟩
theorem vX12_setGear : xVok mX12_setGear := ⟨xm8 (n := 154) rfl rfl, xm8 (n := 155) rfl rfl⟩
def mX12_setWind : xM := (yX12_setWind, cX12_setWind, 3, (some .int), 12)
theorem oX12_setWind : xMok mX12_setWind := ⟨xm8 (n := 161) rfl rfl, xm1 (n := 18) rfl rfl, rfl, xpl12.1, xpl12.2⟩
theorem vX12_setWind : xVok mX12_setWind := ⟨xm8 (n := 159) rfl rfl, xm8 (n := 160) rfl rfl⟩
def mX12_sell : xM := (yX12_sell, cX12_sell, 2, (some .int), 12)
theorem oX12_sell : xMok mX12_sell := ⟨xm8 (n := 167) rfl rfl, xm1 (n := 18) rfl rfl, rfl, xpl12.1, xpl12.2⟩
theorem vX12_sell : xVok mX12_sell := ⟨xm8 (n := 165) rfl rfl, xm8 (n := 166) rfl rfl⟩
def mX12_quench : xM := (yX12_quench, cX12_quench, 2, (some .int), 12)
theorem oX12_quench : xMok mX12_quench := ⟨xm8 (n := 175) rfl rfl, xm1 (n := 18) rfl rfl, rfl, xpl12.1, xpl12.2⟩
theorem vX12_quench : xVok mX12_quench := ⟨xm8 (n := 173) rfl rfl, xm8 (n := 174) rfl rfl⟩
def mX12_advance : xM := (yX12_advance, cX12_advance, 2, (some .int), 12)
theorem oX12_advance : xMok mX12_advance := ⟨xm8 (n := 179) rfl rfl, xm1 (n := 18) rfl rfl, rfl, xpl12.1, xpl12.2⟩
theorem vX12_advance : xVok mX12_advance := ⟨xm8 (n := 177) rfl rfl, xm8 (n := 178) rfl rfl⟩
def mX12_undoCount : xM := (yX12_undoCount, cX12_undoCount, 1, (some .int), 12)
theorem oX12_undoCount : xMok mX12_undoCount := ⟨xm8 (n := 184) rfl rfl, xm1 (n := 18) rfl rfl, rfl, xpl12.1, xpl12.2⟩
theorem vX12_undoCount : xVok mX12_undoCount := ⟨xm8 (n := 182) rfl rfl, xm8 (n := 183) rfl rfl⟩
def mX12_undo : xM := (yX12_undo, cX12_undo, 1, (some .int), 12)
theorem oX12_undo : xMok mX12_undo := ⟨xm8 (n := 188) rfl rfl, xm1 (n := 18) rfl rfl, rfl, xpl12.1, xpl12.2⟩
theorem vX12_undo : xVok mX12_undo := ⟨xm8 (n := 186) rfl rfl, xm8 (n := 187) rfl rfl⟩
def mX12_noSlot : xM := (yX12_noSlot, cX12_noSlot, 2, (some .boolean), 12)
theorem oX12_noSlot : xMok mX12_noSlot := ⟨xm8 (n := 196) rfl rfl, xm1 (n := 18) rfl rfl, rfl, xpl12.1, xpl12.2⟩
theorem vX12_noSlot : xVok mX12_noSlot := ⟨xm8 (n := 195) rfl rfl, xm0 (n := 85) rfl rfl⟩
def mX12_save : xM := (yX12_save, cX12_save, 2, (some .int), 12)
theorem oX12_save : xMok mX12_save := ⟨xm8 (n := 192) rfl rfl, xm1 (n := 18) rfl rfl, rfl, xpl12.1, xpl12.2⟩
theorem vX12_save : xVok mX12_save := ⟨xm8 (n := 190) rfl rfl, xm8 (n := 191) rfl rfl⟩
def mX12_restore : xM := (yX12_restore, cX12_restore, 2, (some .int), 12)
theorem oX12_restore : xMok mX12_restore := ⟨xm8 (n := 200) rfl rfl, xm1 (n := 18) rfl rfl, rfl, xpl12.1, xpl12.2⟩
theorem vX12_restore : xVok mX12_restore := ⟨xm8 (n := 198) rfl rfl, xm8 (n := 199) rfl rfl⟩
def mX12_told : xM := (yX12_told, cX12_told, 2, (some .int), 12)
theorem oX12_told : xMok mX12_told := ⟨xm8 (n := 208) rfl rfl, xm1 (n := 18) rfl rfl, rfl, xpl12.1, xpl12.2⟩
theorem vX12_told : xVok mX12_told := ⟨xm8 (n := 207) rfl rfl, xm0 (n := 86) rfl rfl⟩
def mX12_minute : xM := (yX12_minute, cX12_minute, 1, (some .int), 12)
theorem oX12_minute : xMok mX12_minute := ⟨xm8 (n := 204) rfl rfl, xm1 (n := 18) rfl rfl, rfl, xpl12.1, xpl12.2⟩
theorem vX12_minute : xVok mX12_minute := ⟨xm8 (n := 202) rfl rfl, xm8 (n := 203) rfl rfl⟩
def mX12_heat : xM := (yX12_heat, cX12_heat, 1, (some .int), 12)
theorem oX12_heat : xMok mX12_heat := ⟨xm8 (n := 212) rfl rfl, xm1 (n := 18) rfl rfl, rfl, xpl12.1, xpl12.2⟩
theorem vX12_heat : xVok mX12_heat := ⟨xm8 (n := 210) rfl rfl, xm8 (n := 211) rfl rfl⟩
def mX12_gear : xM := (yX12_gear, cX12_gear, 1, (some .int), 12)
theorem oX12_gear : xMok mX12_gear := ⟨xm8 (n := 216) rfl rfl, xm1 (n := 18) rfl rfl, rfl, xpl12.1, xpl12.2⟩
theorem vX12_gear : xVok mX12_gear := ⟨xm8 (n := 214) rfl rfl, xm8 (n := 215) rfl rfl⟩
def mX12_windDirection : xM := (yX12_windDirection, cX12_windDirection, 1, (some .int), 12)
theorem oX12_windDirection : xMok mX12_windDirection := ⟨xm8 (n := 220) rfl rfl, xm1 (n := 18) rfl rfl, rfl, xpl12.1, xpl12.2⟩
theorem vX12_windDirection : xVok mX12_windDirection := ⟨xm8 (n := 218) rfl rfl, xm8 (n := 219) rfl rfl⟩
def mX12_windStrength : xM := (yX12_windStrength, cX12_windStrength, 1, (some .int), 12)
theorem oX12_windStrength : xMok mX12_windStrength := ⟨xm8 (n := 224) rfl rfl, xm1 (n := 18) rfl rfl, rfl, xpl12.1, xpl12.2⟩
theorem vX12_windStrength : xVok mX12_windStrength := ⟨xm8 (n := 222) rfl rfl, xm8 (n := 223) rfl rfl⟩
def mX12_vaneDirection : xM := (yX12_vaneDirection, cX12_vaneDirection, 1, (some .int), 12)
theorem oX12_vaneDirection : xMok mX12_vaneDirection := ⟨xm8 (n := 228) rfl rfl, xm1 (n := 18) rfl rfl, rfl, xpl12.1, xpl12.2⟩
theorem vX12_vaneDirection : xVok mX12_vaneDirection := ⟨xm8 (n := 226) rfl rfl, xm8 (n := 227) rfl rfl⟩
def mX12_deviation : xM := (yX12_deviation, cX12_deviation, 1, (some .int), 12)
theorem oX12_deviation : xMok mX12_deviation := ⟨xm8 (n := 232) rfl rfl, xm1 (n := 18) rfl rfl, rfl, xpl12.1, xpl12.2⟩
theorem vX12_deviation : xVok mX12_deviation := ⟨xm8 (n := 230) rfl rfl, xm8 (n := 231) rfl rfl⟩
def mX12_draught : xM := (yX12_draught, cX12_draught, 1, (some .int), 12)
theorem oX12_draught : xMok mX12_draught := ⟨xm8 (n := 236) rfl rfl, xm1 (n := 18) rfl rfl, rfl, xpl12.1, xpl12.2⟩
theorem vX12_draught : xVok mX12_draught := ⟨xm8 (n := 234) rfl rfl, xm8 (n := 235) rfl rfl⟩
def mX12_floorCount : xM := (yX12_floorCount, cX12_floorCount, 1, (some .int), 12)
theorem oX12_floorCount : xMok mX12_floorCount := ⟨xm9 (n := 0) rfl rfl, xm1 (n := 18) rfl rfl, rfl, xpl12.1, xpl12.2⟩
theorem vX12_floorCount : xVok mX12_floorCount := ⟨xm8 (n := 238) rfl rfl, xm8 (n := 239) rfl rfl⟩
def mX12_asked : xM := (yX12_asked, cX12_asked, 3, (some .int), 12)
theorem oX12_asked : xMok mX12_asked := ⟨xm9 (n := 8) rfl rfl, xm1 (n := 18) rfl rfl, rfl, xpl12.1, xpl12.2⟩
theorem vX12_asked : xVok mX12_asked := ⟨xm9 (n := 7) rfl rfl, xm0 (n := 87) rfl rfl⟩
def mX12_askedLoad : xM := (yX12_askedLoad, cX12_askedLoad, 3, (some .int), 12)
theorem oX12_askedLoad : xMok mX12_askedLoad := ⟨xm9 (n := 28) rfl rfl, xm1 (n := 18) rfl rfl, rfl, xpl12.1, xpl12.2⟩
theorem vX12_askedLoad : xVok mX12_askedLoad := ⟨xm9 (n := 27) rfl rfl, xm0 (n := 88) rfl rfl⟩
def mX12_limitOf : xM := (yX12_limitOf, cX12_limitOf, 2, (some .int), 12)
theorem oX12_limitOf : xMok mX12_limitOf := ⟨xm9 (n := 4) rfl rfl, xm1 (n := 18) rfl rfl, rfl, xpl12.1, xpl12.2⟩
theorem vX12_limitOf : xVok mX12_limitOf := ⟨xm9 (n := 2) rfl rfl, xm9 (n := 3) rfl rfl⟩
def mX12_temperatureOf : xM := (yX12_temperatureOf, cX12_temperatureOf, 2, (some .int), 12)
theorem oX12_temperatureOf : xMok mX12_temperatureOf := ⟨xm9 (n := 12) rfl rfl, xm1 (n := 18) rfl rfl, rfl, xpl12.1, xpl12.2⟩
theorem vX12_temperatureOf : xVok mX12_temperatureOf := ⟨xm9 (n := 10) rfl rfl, xm9 (n := 11) rfl rfl⟩
def mX12_hasLoad : xM := (yX12_hasLoad, cX12_hasLoad, 2, (some .boolean), 12)
theorem oX12_hasLoad : xMok mX12_hasLoad := ⟨xm9 (n := 16) rfl rfl, xm1 (n := 18) rfl rfl, rfl, xpl12.1, xpl12.2⟩
theorem vX12_hasLoad : xVok mX12_hasLoad := ⟨xm9 (n := 14) rfl rfl, xm9 (n := 15) rfl rfl⟩
def mX12_massOn : xM := (yX12_massOn, cX12_massOn, 2, (some .int), 12)
theorem oX12_massOn : xMok mX12_massOn := ⟨xm9 (n := 20) rfl rfl, xm1 (n := 18) rfl rfl, rfl, xpl12.1, xpl12.2⟩
theorem vX12_massOn : xVok mX12_massOn := ⟨xm9 (n := 18) rfl rfl, xm9 (n := 19) rfl rfl⟩
def mX12_moistureOn : xM := (yX12_moistureOn, cX12_moistureOn, 2, (some .int), 12)
theorem oX12_moistureOn : xMok mX12_moistureOn := ⟨xm9 (n := 24) rfl rfl, xm1 (n := 18) rfl rfl, rfl, xpl12.1, xpl12.2⟩
theorem vX12_moistureOn : xVok mX12_moistureOn := ⟨xm9 (n := 22) rfl rfl, xm9 (n := 23) rfl rfl⟩
def mX12_scorchOn : xM := (yX12_scorchOn, cX12_scorchOn, 2, (some .int), 12)
theorem oX12_scorchOn : xMok mX12_scorchOn := ⟨xm9 (n := 32) rfl rfl, xm1 (n := 18) rfl rfl, rfl, xpl12.1, xpl12.2⟩
theorem vX12_scorchOn : xVok mX12_scorchOn := ⟨xm9 (n := 30) rfl rfl, xm9 (n := 31) rfl rfl⟩
def mX12_isDryNow : xM := (yX12_isDryNow, cX12_isDryNow, 2, (some .boolean), 12)
theorem oX12_isDryNow : xMok mX12_isDryNow := ⟨xm9 (n := 40) rfl rfl, xm1 (n := 18) rfl rfl, rfl, xpl12.1, xpl12.2⟩
theorem vX12_isDryNow : xVok mX12_isDryNow := ⟨xm9 (n := 39) rfl rfl, xm0 (n := 89) rfl rfl⟩
def mX12_isDry : xM := (yX12_isDry, cX12_isDry, 2, (some .boolean), 12)
theorem oX12_isDry : xMok mX12_isDry := ⟨xm9 (n := 36) rfl rfl, xm1 (n := 18) rfl rfl, rfl, xpl12.1, xpl12.2⟩
theorem vX12_isDry : xVok mX12_isDry := ⟨xm9 (n := 34) rfl rfl, xm9 (n := 35) rfl rfl⟩
def mX12_dryingOn : xM := (yX12_dryingOn, cX12_dryingOn, 2, (some .int), 12)
theorem oX12_dryingOn : xMok mX12_dryingOn := ⟨xm9 (n := 44) rfl rfl, xm1 (n := 18) rfl rfl, rfl, xpl12.1, xpl12.2⟩
theorem vX12_dryingOn : xVok mX12_dryingOn := ⟨xm9 (n := 42) rfl rfl, xm9 (n := 43) rfl rfl⟩
def mX12_warmestFloor : xM := (yX12_warmestFloor, cX12_warmestFloor, 3, (some .int), 12)
theorem oX12_warmestFloor : xMok mX12_warmestFloor := ⟨xm9 (n := 48) rfl rfl, xm1 (n := 18) rfl rfl, rfl, xpl12.1, xpl12.2⟩
theorem vX12_warmestFloor : xVok mX12_warmestFloor := ⟨xm9 (n := 46) rfl rfl, xm9 (n := 47) rfl rfl⟩
def mX12_obstacleToLower : xM := (yX12_obstacleToLower, cX12_obstacleToLower, 2, (some .int), 12)
theorem oX12_obstacleToLower : xMok mX12_obstacleToLower := ⟨xm9 (n := 52) rfl rfl, xm1 (n := 18) rfl rfl, rfl, xpl12.1, xpl12.2⟩
theorem vX12_obstacleToLower : xVok mX12_obstacleToLower := ⟨xm9 (n := 50) rfl rfl, xm9 (n := 51) rfl rfl⟩
def mX12_sackCount : xM := (yX12_sackCount, cX12_sackCount, 1, (some .int), 12)
theorem oX12_sackCount : xMok mX12_sackCount := ⟨xm9 (n := 56) rfl rfl, xm1 (n := 18) rfl rfl, rfl, xpl12.1, xpl12.2⟩
theorem vX12_sackCount : xVok mX12_sackCount := ⟨xm9 (n := 54) rfl rfl, xm9 (n := 55) rfl rfl⟩
def mX12_askedSack : xM := (yX12_askedSack, cX12_askedSack, 3, (some .int), 12)
theorem oX12_askedSack : xMok mX12_askedSack := ⟨xm9 (n := 64) rfl rfl, xm1 (n := 18) rfl rfl, rfl, xpl12.1, xpl12.2⟩
theorem vX12_askedSack : xVok mX12_askedSack := ⟨xm9 (n := 63) rfl rfl, xm0 (n := 90) rfl rfl⟩
def mX12_sackState : xM := (yX12_sackState, cX12_sackState, 2, (some .int), 12)
theorem oX12_sackState : xMok mX12_sackState := ⟨xm9 (n := 60) rfl rfl, xm1 (n := 18) rfl rfl, rfl, xpl12.1, xpl12.2⟩
theorem vX12_sackState : xVok mX12_sackState := ⟨xm9 (n := 58) rfl rfl, xm9 (n := 59) rfl rfl⟩
def mX12_sackMass : xM := (yX12_sackMass, cX12_sackMass, 2, (some .int), 12)
theorem oX12_sackMass : xMok mX12_sackMass := ⟨xm9 (n := 68) rfl rfl, xm1 (n := 18) rfl rfl, rfl, xpl12.1, xpl12.2⟩
theorem vX12_sackMass : xVok mX12_sackMass := ⟨xm9 (n := 66) rfl rfl, xm9 (n := 67) rfl rfl⟩
def mX12_sackMoisture : xM := (yX12_sackMoisture, cX12_sackMoisture, 2, (some .int), 12)
theorem oX12_sackMoisture : xMok mX12_sackMoisture := ⟨xm9 (n := 72) rfl rfl, xm1 (n := 18) rfl rfl, rfl, xpl12.1, xpl12.2⟩
theorem vX12_sackMoisture : xVok mX12_sackMoisture := ⟨xm9 (n := 70) rfl rfl, xm9 (n := 71) rfl rfl⟩
def mX12_sackTemperature : xM := (yX12_sackTemperature, cX12_sackTemperature, 2, (some .int), 12)
theorem oX12_sackTemperature : xMok mX12_sackTemperature := ⟨xm9 (n := 76) rfl rfl, xm1 (n := 18) rfl rfl, rfl, xpl12.1, xpl12.2⟩
theorem vX12_sackTemperature : xVok mX12_sackTemperature := ⟨xm9 (n := 74) rfl rfl, xm9 (n := 75) rfl rfl⟩
def mX12_isSmouldering : xM := (yX12_isSmouldering, cX12_isSmouldering, 2, (some .boolean), 12)
theorem oX12_isSmouldering : xMok mX12_isSmouldering := ⟨xm9 (n := 80) rfl rfl, xm1 (n := 18) rfl rfl, rfl, xpl12.1, xpl12.2⟩
theorem vX12_isSmouldering : xVok mX12_isSmouldering := ⟨xm9 (n := 78) rfl rfl, xm9 (n := 79) rfl rfl⟩
def mX12_qualityOf : xM := (yX12_qualityOf, cX12_qualityOf, 2, (some .int), 12)
theorem oX12_qualityOf : xMok mX12_qualityOf := ⟨xm9 (n := 84) rfl rfl, xm1 (n := 18) rfl rfl, rfl, xpl12.1, xpl12.2⟩
theorem vX12_qualityOf : xVok mX12_qualityOf := ⟨xm9 (n := 82) rfl rfl, xm9 (n := 83) rfl rfl⟩
def mX12_priceOf : xM := (yX12_priceOf, cX12_priceOf, 2, (some .int), 12)
theorem oX12_priceOf : xMok mX12_priceOf := ⟨xm9 (n := 88) rfl rfl, xm1 (n := 18) rfl rfl, rfl, xpl12.1, xpl12.2⟩
theorem vX12_priceOf : xVok mX12_priceOf := ⟨xm9 (n := 86) rfl rfl, xm9 (n := 87) rfl rfl⟩
def mX12_smoulderingSacks : xM := (yX12_smoulderingSacks, cX12_smoulderingSacks, 3, (some .int), 12)
theorem oX12_smoulderingSacks : xMok mX12_smoulderingSacks := ⟨xm9 (n := 92) rfl rfl, xm1 (n := 18) rfl rfl, rfl, xpl12.1, xpl12.2⟩
theorem vX12_smoulderingSacks : xVok mX12_smoulderingSacks := ⟨xm9 (n := 90) rfl rfl, xm9 (n := 91) rfl rfl⟩
def mX12_hottestSack : xM := (yX12_hottestSack, cX12_hottestSack, 3, (some .int), 12)
theorem oX12_hottestSack : xMok mX12_hottestSack := ⟨xm9 (n := 96) rfl rfl, xm1 (n := 18) rfl rfl, rfl, xpl12.1, xpl12.2⟩
theorem vX12_hottestSack : xVok mX12_hottestSack := ⟨xm9 (n := 94) rfl rfl, xm9 (n := 95) rfl rfl⟩
def mX12_loadedMass : xM := (yX12_loadedMass, cX12_loadedMass, 1, (some .int), 12)
theorem oX12_loadedMass : xMok mX12_loadedMass := ⟨xm9 (n := 100) rfl rfl, xm1 (n := 18) rfl rfl, rfl, xpl12.1, xpl12.2⟩
theorem vX12_loadedMass : xVok mX12_loadedMass := ⟨xm9 (n := 98) rfl rfl, xm9 (n := 99) rfl rfl⟩
def mX12_soldMass : xM := (yX12_soldMass, cX12_soldMass, 1, (some .int), 12)
theorem oX12_soldMass : xMok mX12_soldMass := ⟨xm9 (n := 104) rfl rfl, xm1 (n := 18) rfl rfl, rfl, xpl12.1, xpl12.2⟩
theorem vX12_soldMass : xVok mX12_soldMass := ⟨xm9 (n := 102) rfl rfl, xm9 (n := 103) rfl rfl⟩
def mX12_burntMass : xM := (yX12_burntMass, cX12_burntMass, 1, (some .int), 12)
theorem oX12_burntMass : xMok mX12_burntMass := ⟨xm9 (n := 108) rfl rfl, xm1 (n := 18) rfl rfl, rfl, xpl12.1, xpl12.2⟩
theorem vX12_burntMass : xVok mX12_burntMass := ⟨xm9 (n := 106) rfl rfl, xm9 (n := 107) rfl rfl⟩
def mX12_income : xM := (yX12_income, cX12_income, 1, (some .int), 12)
theorem oX12_income : xMok mX12_income := ⟨xm9 (n := 112) rfl rfl, xm1 (n := 18) rfl rfl, rfl, xpl12.1, xpl12.2⟩
theorem vX12_income : xVok mX12_income := ⟨xm9 (n := 110) rfl rfl, xm9 (n := 111) rfl rfl⟩
def mX12_dampedHeat : xM := (yX12_dampedHeat, cX12_dampedHeat, 1, (some .int), 12)
theorem oX12_dampedHeat : xMok mX12_dampedHeat := ⟨xm9 (n := 116) rfl rfl, xm1 (n := 18) rfl rfl, rfl, xpl12.1, xpl12.2⟩
theorem vX12_dampedHeat : xVok mX12_dampedHeat := ⟨xm9 (n := 114) rfl rfl, xm9 (n := 115) rfl rfl⟩
def mX12_vaneSteps : xM := (yX12_vaneSteps, cX12_vaneSteps, 1, (some .int), 12)
theorem oX12_vaneSteps : xMok mX12_vaneSteps := ⟨xm9 (n := 120) rfl rfl, xm1 (n := 18) rfl rfl, rfl, xpl12.1, xpl12.2⟩
theorem vX12_vaneSteps : xVok mX12_vaneSteps := ⟨xm9 (n := 118) rfl rfl, xm9 (n := 119) rfl rfl⟩
def mX12_meanMoisture : xM := (yX12_meanMoisture, cX12_meanMoisture, 3, (some .double), 12)
theorem oX12_meanMoisture : xMok mX12_meanMoisture := ⟨xm9 (n := 124) rfl rfl, xm1 (n := 18) rfl rfl, rfl, xpl12.1, xpl12.2⟩
theorem vX12_meanMoisture : xVok mX12_meanMoisture := ⟨xm9 (n := 122) rfl rfl, xm9 (n := 123) rfl rfl⟩
def mX12_loadedShare : xM := (yX12_loadedShare, cX12_loadedShare, 1, (some .float), 12)
theorem oX12_loadedShare : xMok mX12_loadedShare := ⟨xm9 (n := 128) rfl rfl, xm1 (n := 18) rfl rfl, rfl, xpl12.1, xpl12.2⟩
theorem vX12_loadedShare : xVok mX12_loadedShare := ⟨xm9 (n := 126) rfl rfl, xm9 (n := 127) rfl rfl⟩
def mX12_contradictions : xM := (yX12_contradictions, cX12_contradictions, 5, (some .int), 12)
theorem oX12_contradictions : xMok mX12_contradictions := ⟨xm9 (n := 132) rfl rfl, xm1 (n := 18) rfl rfl, rfl, xpl12.1, xpl12.2⟩
theorem vX12_contradictions : xVok mX12_contradictions := ⟨xm9 (n := 130) rfl rfl, xm9 (n := 131) rfl rfl⟩
def mX12_temperatureAfter : xM := (yX12_temperatureAfter, cX12_temperatureAfter, 5, (some .int), 12)
theorem oX12_temperatureAfter : xMok mX12_temperatureAfter := ⟨xm9 (n := 139) rfl rfl, xm1 (n := 18) rfl rfl, rfl, xpl12.1, xpl12.2⟩
theorem vX12_temperatureAfter : xVok mX12_temperatureAfter := ⟨xm9 (n := 137) rfl rfl, xm9 (n := 138) rfl rfl⟩
def mX12_minutesUntilDry : xM := (yX12_minutesUntilDry, cX12_minutesUntilDry, 4, (some .int), 12)
theorem oX12_minutesUntilDry : xMok mX12_minutesUntilDry := ⟨xm9 (n := 144) rfl rfl, xm1 (n := 18) rfl rfl, rfl, xpl12.1, xpl12.2⟩
theorem vX12_minutesUntilDry : xVok mX12_minutesUntilDry := ⟨xm9 (n := 142) rfl rfl, xm9 (n := 143) rfl rfl⟩
def mX12_minutesUntilBurnt : xM := (yX12_minutesUntilBurnt, cX12_minutesUntilBurnt, 4, (some .int), 12)
theorem oX12_minutesUntilBurnt : xMok mX12_minutesUntilBurnt := ⟨xm9 (n := 148) rfl rfl, xm1 (n := 18) rfl rfl, rfl, xpl12.1, xpl12.2⟩
theorem vX12_minutesUntilBurnt : xVok mX12_minutesUntilBurnt := ⟨xm9 (n := 146) rfl rfl, xm9 (n := 147) rfl rfl⟩
def mX12_writes : xM := (yX12_writes, cX12_writes, 2, none, 12)
theorem oX12_writes : xMok mX12_writes := ⟨xm9 (n := 156) rfl rfl, xm1 (n := 18) rfl rfl, rfl, xpl12.1, xpl12.2⟩
theorem vX12_writes : xVok mX12_writes := ⟨xm9 (n := 155) rfl rfl, xm0 (n := 91) rfl rfl⟩
def mX12_writesNumber : xM := (yX12_writesNumber, cX12_writesNumber, 2, none, 12)
theorem oX12_writesNumber : xMok mX12_writesNumber := ⟨xm9 (n := 160) rfl rfl, xm1 (n := 18) rfl rfl, rfl, xpl12.1, xpl12.2⟩
theorem vX12_writesNumber : xVok mX12_writesNumber := ⟨xm9 (n := 159) rfl rfl, xm0 (n := 92) rfl rfl⟩
def mX12_writeFloors : xM := (yX12_writeFloors, cX12_writeFloors, 2, (some .int), 12)
theorem oX12_writeFloors : xMok mX12_writeFloors := ⟨xm9 (n := 152) rfl rfl, xm1 (n := 18) rfl rfl, rfl, xpl12.1, xpl12.2⟩
theorem vX12_writeFloors : xVok mX12_writeFloors := ⟨xm9 (n := 150) rfl rfl, xm9 (n := 151) rfl rfl⟩
def mX12_writeSacks : xM := (yX12_writeSacks, cX12_writeSacks, 2, (some .int), 12)
theorem oX12_writeSacks : xMok mX12_writeSacks := ⟨xm9 (n := 164) rfl rfl, xm1 (n := 18) rfl rfl, rfl, xpl12.1, xpl12.2⟩
theorem vX12_writeSacks : xVok mX12_writeSacks := ⟨xm9 (n := 162) rfl rfl, xm9 (n := 163) rfl rfl⟩
def mX12_outputByte : xM := (yX12_outputByte, cX12_outputByte, 2, (some .int), 12)
theorem oX12_outputByte : xMok mX12_outputByte := ⟨xm9 (n := 168) rfl rfl, xm1 (n := 18) rfl rfl, rfl, xpl12.1, xpl12.2⟩
theorem vX12_outputByte : xVok mX12_outputByte := ⟨xm9 (n := 166) rfl rfl, xm9 (n := 167) rfl rfl⟩
def mJ0_length_8abf5 : xM := (yJ0_length_8abf5, cJ0_length_8abf5, 1, (some .int), 14)
theorem oJ0_length_8abf5 : xMok mJ0_length_8abf5 := ⟨xm2 (n := 95) rfl rfl, xm1 (n := 13) rfl rfl, rfl, xpl14.1, xpl14.2⟩
theorem vJ0_length_8abf5 : xVok mJ0_length_8abf5 := ⟨xm2 (n := 93) rfl rfl, xm2 (n := 94) rfl rfl⟩
def mJ0_charAt_5068e : xM := (yJ0_charAt_5068e, cJ0_charAt_5068e, 2, (some .char), 14)
theorem oJ0_charAt_5068e : xMok mJ0_charAt_5068e := ⟨xm2 (n := 105) rfl rfl, xm1 (n := 13) rfl rfl, rfl, xpl14.1, xpl14.2⟩
theorem vJ0_charAt_5068e : xVok mJ0_charAt_5068e := ⟨xm2 (n := 103) rfl rfl, xm2 (n := 104) rfl rfl⟩
def mJ0_coder_7d493 : xM := (yJ0_coder_7d493, cJ0_coder_7d493, 1, (some .byte), 14)
theorem oJ0_coder_7d493 : xMok mJ0_coder_7d493 := ⟨xm2 (n := 99) rfl rfl, xm1 (n := 13) rfl rfl, rfl, xpl14.1, xpl14.2⟩
theorem vJ0_coder_7d493 : xVok mJ0_coder_7d493 := ⟨xm2 (n := 97) rfl rfl, xm2 (n := 98) rfl rfl⟩
def mJ0_isLatin1_aae02 : xM := (yJ0_isLatin1_aae02, cJ0_isLatin1_aae02, 1, (some .boolean), 14)
theorem oJ0_isLatin1_aae02 : xMok mJ0_isLatin1_aae02 := ⟨xm2 (n := 109) rfl rfl, xm1 (n := 13) rfl rfl, rfl, xpl14.1, xpl14.2⟩
theorem vJ0_isLatin1_aae02 : xVok mJ0_isLatin1_aae02 := ⟨xm2 (n := 107) rfl rfl, xm2 (n := 108) rfl rfl⟩
def mJ0_checkIndex_df160 : xM := (yJ0_checkIndex_df160, cJ0_checkIndex_df160, 2, none, 14)
theorem oJ0_checkIndex_df160 : xMok mJ0_checkIndex_df160 := ⟨xm2 (n := 115) rfl rfl, xm1 (n := 13) rfl rfl, rfl, xpl14.1, xpl14.2⟩
theorem vJ0_checkIndex_df160 : Cond.static mJ0_checkIndex_df160.1 ∈ xAll := xm2 (n := 114) rfl rfl
def mJ1_charAt_3b067 : xM := (yJ1_charAt_3b067, cJ1_charAt_3b067, 2, (some .char), 15)
theorem oJ1_charAt_3b067 : xMok mJ1_charAt_3b067 := ⟨xm2 (n := 112) rfl rfl, xm1 (n := 14) rfl rfl, rfl, xpl15.1, xpl15.2⟩
theorem vJ1_charAt_3b067 : Cond.static mJ1_charAt_3b067.1 ∈ xAll := xm2 (n := 111) rfl rfl
def mJ3_checkIndex_8e157 : xM := (yJ3_checkIndex_8e157, cJ3_checkIndex_8e157, 3, (some .int), 16)
theorem oJ3_checkIndex_8e157 : xMok mJ3_checkIndex_8e157 := ⟨xm2 (n := 120) rfl rfl, xm1 (n := 15) rfl rfl, rfl, xpl16.1, xpl16.2⟩
theorem vJ3_checkIndex_8e157 : Cond.static mJ3_checkIndex_8e157.1 ∈ xAll := xm2 (n := 119) rfl rfl
theorem k11_38 : Cond.methodLink (xCn 11) 38 mX10_init.1 ∈ xAll := xm1 (n := 233) rfl rfl
theorem k11_47 : Cond.methodLink (xCn 11) 47 mX8_init.1 ∈ xAll := xm2 (n := 20) rfl rfl
theorem k11_63 : Cond.methodLink (xCn 11) 63 mX7_init.1 ∈ xAll := xm2 (n := 54) rfl rfl
theorem k11_79 : Cond.methodLink (xCn 11) 79 mJ0_length_8abf5.1 ∈ xAll := xm2 (n := 92) rfl rfl
theorem k11_85 : Cond.methodLink (xCn 11) 85 mJ0_charAt_5068e.1 ∈ xAll := xm2 (n := 102) rfl rfl
theorem k11_89 : Cond.methodLink (xCn 11) 89 mX9_add.1 ∈ xAll := xm2 (n := 140) rfl rfl
theorem k11_93 : Cond.methodLink (xCn 11) 93 mX11_beginHouse.1 ∈ xAll := xm2 (n := 144) rfl rfl
theorem k11_96 : Cond.methodLink (xCn 11) 96 mX11_visibleBytes.1 ∈ xAll := xm5 (n := 23) rfl rfl
theorem k11_110 : Cond.methodLink (xCn 11) 110 mX9_addFour.1 ∈ xAll := xm5 (n := 94) rfl rfl
theorem k11_113 : Cond.methodLink (xCn 11) 113 mX11_within.1 ∈ xAll := xm5 (n := 107) rfl rfl
theorem k11_125 : Cond.methodLink (xCn 11) 125 mX7_read.1 ∈ xAll := xm3 (n := 108) rfl rfl
theorem k11_128 : Cond.methodLink (xCn 11) 128 mX10_sound.1 ∈ xAll := xm3 (n := 39) rfl rfl
theorem k11_132 : Cond.methodLink (xCn 11) 132 mX2_record.1 ∈ xAll := xm3 (n := 164) rfl rfl
theorem k11_137 : Cond.methodLink (xCn 11) 137 mX6_canPerform.1 ∈ xAll := xm3 (n := 170) rfl rfl
theorem k11_141 : Cond.methodLink (xCn 11) 141 mX6_perform.1 ∈ xAll := xm3 (n := 209) rfl rfl
theorem k11_172 : Cond.methodLink (xCn 11) 172 mX0_offset.1 ∈ xAll := xm4 (n := 109) rfl rfl
theorem k11_175 : Cond.methodLink (xCn 11) 175 mX0_pull.1 ∈ xAll := xm4 (n := 114) rfl rfl
theorem k11_187 : Cond.methodLink (xCn 11) 187 mX11_requireFloor.1 ∈ xAll := xm5 (n := 132) rfl rfl
theorem k11_194 : Cond.methodLink (xCn 11) 194 mX3_temperatureNow.1 ∈ xAll := xm4 (n := 231) rfl rfl
theorem k11_197 : Cond.methodLink (xCn 11) 197 mX1_isTaken.1 ∈ xAll := xm4 (n := 236) rfl rfl
theorem k11_204 : Cond.methodLink (xCn 11) 204 mX11_requireLoad.1 ∈ xAll := xm5 (n := 182) rfl rfl
theorem k11_213 : Cond.methodLink (xCn 11) 213 mX1_holdsDryLoad.1 ∈ xAll := xm5 (n := 216) rfl rfl
theorem k11_216 : Cond.methodLink (xCn 11) 216 mX3_dryingNow.1 ∈ xAll := xm5 (n := 224) rfl rfl
theorem k11_219 : Cond.methodLink (xCn 11) 219 mX3_warmest.1 ∈ xAll := xm4 (n := 123) rfl rfl
theorem k11_222 : Cond.methodLink (xCn 11) 222 mX3_obstacle.1 ∈ xAll := xm5 (n := 236) rfl rfl
theorem k11_232 : Cond.methodLink (xCn 11) 232 mX11_requireSack.1 ∈ xAll := xm6 (n := 4) rfl rfl
theorem k11_243 : Cond.methodLink (xCn 11) 243 mX5_smoulders.1 ∈ xAll := xm5 (n := 2) rfl rfl
theorem k11_246 : Cond.methodLink (xCn 11) 246 mX5_quality.1 ∈ xAll := xm6 (n := 45) rfl rfl
theorem k11_249 : Cond.methodLink (xCn 11) 249 mX5_price.1 ∈ xAll := xm6 (n := 53) rfl rfl
theorem k11_252 : Cond.methodLink (xCn 11) 252 mX5_countSmouldering.1 ∈ xAll := xm4 (n := 135) rfl rfl
theorem k11_255 : Cond.methodLink (xCn 11) 255 mX5_hottest.1 ∈ xAll := xm4 (n := 143) rfl rfl
theorem k11_276 : Cond.methodLink (xCn 11) 276 mX1_countTaken.1 ∈ xAll := xm4 (n := 175) rfl rfl
theorem k11_279 : Cond.methodLink (xCn 11) 279 mX1_sumOfMoistures.1 ∈ xAll := xm4 (n := 179) rfl rfl
theorem k11_282 : Cond.methodLink (xCn 11) 282 mX1_sumOfMasses.1 ∈ xAll := xm4 (n := 191) rfl rfl
theorem k11_285 : Cond.methodLink (xCn 11) 285 mX5_sumOfMasses.1 ∈ xAll := xm4 (n := 195) rfl rfl
theorem k11_286 : Cond.methodLink (xCn 11) 286 mX5_sumOfMassesGone.1 ∈ xAll := xm4 (n := 199) rfl rfl
theorem k11_289 : Cond.methodLink (xCn 11) 289 mX3_countTooHot.1 ∈ xAll := xm4 (n := 203) rfl rfl
theorem k11_297 : Cond.methodLink (xCn 11) 297 mX3_countWarmthBreaks.1 ∈ xAll := xm4 (n := 210) rfl rfl
theorem k11_302 : Cond.methodLink (xCn 11) 302 mX3_copyFrom.1 ∈ xAll := xm3 (n := 40) rfl rfl
theorem k11_305 : Cond.methodLink (xCn 11) 305 mX3_passMinutes.1 ∈ xAll := xm6 (n := 62) rfl rfl
theorem k11_310 : Cond.methodLink (xCn 11) 310 mX3_canPut.1 ∈ xAll := xm6 (n := 85) rfl rfl
theorem k11_315 : Cond.methodLink (xCn 11) 315 mX3_putOnTop.1 ∈ xAll := xm6 (n := 87) rfl rfl
theorem k11_321 : Cond.methodLink (xCn 11) 321 mX3_lowerOne.1 ∈ xAll := xm6 (n := 96) rfl rfl
theorem k11_324 : Cond.methodLink (xCn 11) 324 mX3_lowerAll.1 ∈ xAll := xm4 (n := 218) rfl rfl
theorem k11_329 : Cond.methodLink (xCn 11) 329 mX3_stoke.1 ∈ xAll := xm6 (n := 105) rfl rfl
theorem k11_334 : Cond.methodLink (xCn 11) 334 mX3_shiftGear.1 ∈ xAll := xm6 (n := 114) rfl rfl
theorem k11_339 : Cond.methodLink (xCn 11) 339 mX3_changeWind.1 ∈ xAll := xm6 (n := 123) rfl rfl
theorem k11_342 : Cond.methodLink (xCn 11) 342 mX5_canSell.1 ∈ xAll := xm6 (n := 131) rfl rfl
theorem k11_347 : Cond.methodLink (xCn 11) 347 mX5_giveAway.1 ∈ xAll := xm6 (n := 133) rfl rfl
theorem k11_350 : Cond.methodLink (xCn 11) 350 mX5_isStored.1 ∈ xAll := xm6 (n := 141) rfl rfl
theorem k11_355 : Cond.methodLink (xCn 11) 355 mX5_wet.1 ∈ xAll := xm6 (n := 143) rfl rfl
theorem k11_358 : Cond.methodLink (xCn 11) 358 mX3_canWait.1 ∈ xAll := xm6 (n := 151) rfl rfl
theorem k11_364 : Cond.methodLink (xCn 11) 364 mX4_separate.1 ∈ xAll := xm4 (n := 223) rfl rfl
theorem k11_367 : Cond.methodLink (xCn 11) 367 mX4_addNumber.1 ∈ xAll := xm4 (n := 232) rfl rfl
theorem k11_370 : Cond.methodLink (xCn 11) 370 mX4_add.1 ∈ xAll := xm4 (n := 237) rfl rfl
theorem k11_371 : Cond.methodLink (xCn 11) 371 mX4_at.1 ∈ xAll := xm5 (n := 7) rfl rfl
theorem k11_377 : Cond.methodLink (xCn 11) 377 mX2_takeBack.1 ∈ xAll := xm6 (n := 161) rfl rfl
theorem k11_380 : Cond.methodLink (xCn 11) 380 mX11_requireSlot.1 ∈ xAll := xm6 (n := 172) rfl rfl
theorem k11_383 : Cond.methodLink (xCn 11) 383 mX2_fill.1 ∈ xAll := xm6 (n := 177) rfl rfl
theorem k11_386 : Cond.methodLink (xCn 11) 386 mX2_inSlot.1 ∈ xAll := xm6 (n := 188) rfl rfl
theorem k11_392 : Cond.methodLink (xCn 11) 392 mX2_forgetChanges.1 ∈ xAll := xm3 (n := 60) rfl rfl
theorem k11_395 : Cond.methodLink (xCn 11) 395 mX1_exists.1 ∈ xAll := xm5 (n := 136) rfl rfl
theorem k11_408 : Cond.methodLink (xCn 11) 408 mX5_exists.1 ∈ xAll := xm6 (n := 8) rfl rfl
theorem k11_413 : Cond.methodLink (xCn 11) 413 mX8_read.1 ∈ xAll := xm2 (n := 148) rfl rfl
theorem k11_414 : Cond.methodLink (xCn 11) 414 mX2_emptySlots.1 ∈ xAll := xm3 (n := 64) rfl rfl
theorem k0_24 : Cond.methodLink (xCn 0) 24 mX0_clockwiseSteps.1 ∈ xAll := xm3 (n := 23) rfl rfl
theorem k0_28 : Cond.methodLink (xCn 0) 28 mX0_offset.1 ∈ xAll := xm3 (n := 19) rfl rfl
theorem k1_34 : Cond.methodLink (xCn 1) 34 mX1_isTaken.1 ∈ xAll := xm3 (n := 187) rfl rfl
theorem k1_38 : Cond.methodLink (xCn 1) 38 mX1_exists.1 ∈ xAll := xm3 (n := 3) rfl rfl
theorem k1_41 : Cond.methodLink (xCn 1) 41 mX1_decrease.1 ∈ xAll := xm4 (n := 53) rfl rfl
theorem k2_32 : Cond.methodLink (xCn 2) 32 mX3_copyFrom.1 ∈ xAll := xm3 (n := 169) rfl rfl
theorem k3_52 : Cond.methodLink (xCn 3) 52 mX0_copyFrom.1 ∈ xAll := xm3 (n := 44) rfl rfl
theorem k3_56 : Cond.methodLink (xCn 3) 56 mX1_copyFrom.1 ∈ xAll := xm3 (n := 48) rfl rfl
theorem k3_59 : Cond.methodLink (xCn 3) 59 mX5_copyFrom.1 ∈ xAll := xm3 (n := 55) rfl rfl
theorem k3_62 : Cond.methodLink (xCn 3) 62 mX1_coolingBy.1 ∈ xAll := xm3 (n := 35) rfl rfl
theorem k3_66 : Cond.methodLink (xCn 3) 66 mX3_warmth.1 ∈ xAll := xm3 (n := 31) rfl rfl
theorem k3_70 : Cond.methodLink (xCn 3) 70 mX0_pull.1 ∈ xAll := xm3 (n := 15) rfl rfl
theorem k3_74 : Cond.methodLink (xCn 3) 74 mX3_temperature.1 ∈ xAll := xm3 (n := 27) rfl rfl
theorem k3_77 : Cond.methodLink (xCn 3) 77 mX1_decrease.1 ∈ xAll := xm5 (n := 228) rfl rfl
theorem k3_84 : Cond.methodLink (xCn 3) 84 mX3_temperatureNow.1 ∈ xAll := xm3 (n := 231) rfl rfl
theorem k3_90 : Cond.methodLink (xCn 3) 90 mX1_place.1 ∈ xAll := xm2 (n := 239) rfl rfl
theorem k3_94 : Cond.methodLink (xCn 3) 94 mX1_isTaken.1 ∈ xAll := xm3 (n := 178) rfl rfl
theorem k3_98 : Cond.methodLink (xCn 3) 98 mX3_place.1 ∈ xAll := xm3 (n := 217) rfl rfl
theorem k3_99 : Cond.methodLink (xCn 3) 99 mX3_damp.1 ∈ xAll := xm3 (n := 218) rfl rfl
theorem k3_102 : Cond.methodLink (xCn 3) 102 mX1_holdsDryLoad.1 ∈ xAll := xm3 (n := 183) rfl rfl
theorem k3_105 : Cond.methodLink (xCn 3) 105 mX5_isFull.1 ∈ xAll := xm3 (n := 188) rfl rfl
theorem k3_109 : Cond.methodLink (xCn 3) 109 mX1_moveDown.1 ∈ xAll := xm3 (n := 227) rfl rfl
theorem k3_113 : Cond.methodLink (xCn 3) 113 mX5_pack.1 ∈ xAll := xm3 (n := 235) rfl rfl
theorem k3_120 : Cond.methodLink (xCn 3) 120 mX3_moveOrPack.1 ∈ xAll := xm3 (n := 223) rfl rfl
theorem k3_123 : Cond.methodLink (xCn 3) 123 mX3_obstacle.1 ∈ xAll := xm4 (n := 4) rfl rfl
theorem k3_135 : Cond.methodLink (xCn 3) 135 mX0_turnVane.1 ∈ xAll := xm4 (n := 41) rfl rfl
theorem k3_138 : Cond.methodLink (xCn 3) 138 mX3_dryLoads.1 ∈ xAll := xm4 (n := 45) rfl rfl
theorem k3_141 : Cond.methodLink (xCn 3) 141 mX5_glow.1 ∈ xAll := xm4 (n := 57) rfl rfl
theorem k3_144 : Cond.methodLink (xCn 3) 144 mX1_dryLoad.1 ∈ xAll := xm4 (n := 49) rfl rfl
theorem k4_19 : Cond.methodLink (xCn 4) 19 mX4_add.1 ∈ xAll := xm4 (n := 227) rfl rfl
theorem k5_46 : Cond.methodLink (xCn 5) 46 mX5_isStored.1 ∈ xAll := xm3 (n := 196) rfl rfl
theorem k5_50 : Cond.methodLink (xCn 5) 50 mX5_smoulders.1 ∈ xAll := xm3 (n := 200) rfl rfl
theorem k5_53 : Cond.methodLink (xCn 5) 53 mX5_isFull.1 ∈ xAll := xm3 (n := 239) rfl rfl
theorem k5_62 : Cond.methodLink (xCn 5) 62 mX5_exists.1 ∈ xAll := xm4 (n := 21) rfl rfl
theorem k5_65 : Cond.methodLink (xCn 5) 65 mX5_quality.1 ∈ xAll := xm4 (n := 29) rfl rfl
theorem k5_69 : Cond.methodLink (xCn 5) 69 mX5_price.1 ∈ xAll := xm4 (n := 25) rfl rfl
theorem k5_72 : Cond.methodLink (xCn 5) 72 mX5_warmOrCool.1 ∈ xAll := xm4 (n := 61) rfl rfl
theorem k5_76 : Cond.methodLink (xCn 5) 76 mX5_burn.1 ∈ xAll := xm4 (n := 65) rfl rfl
theorem k5_79 : Cond.methodLink (xCn 5) 79 mX5_heatUp.1 ∈ xAll := xm4 (n := 69) rfl rfl
theorem k6_25 : Cond.methodLink (xCn 6) 25 mX6_add.1 ∈ xAll := xm3 (n := 129) rfl rfl
theorem k6_29 : Cond.methodLink (xCn 6) 29 mX3_canPut.1 ∈ xAll := xm3 (n := 174) rfl rfl
theorem k6_35 : Cond.methodLink (xCn 6) 35 mX3_obstacle.1 ∈ xAll := xm3 (n := 179) rfl rfl
theorem k6_43 : Cond.methodLink (xCn 6) 43 mX5_canSell.1 ∈ xAll := xm3 (n := 192) rfl rfl
theorem k6_49 : Cond.methodLink (xCn 6) 49 mX5_isStored.1 ∈ xAll := xm3 (n := 204) rfl rfl
theorem k6_52 : Cond.methodLink (xCn 6) 52 mX3_canWait.1 ∈ xAll := xm3 (n := 205) rfl rfl
theorem k6_55 : Cond.methodLink (xCn 6) 55 mX3_putOnTop.1 ∈ xAll := xm3 (n := 213) rfl rfl
theorem k6_59 : Cond.methodLink (xCn 6) 59 mX3_lowerOne.1 ∈ xAll := xm3 (n := 219) rfl rfl
theorem k6_63 : Cond.methodLink (xCn 6) 63 mX3_lowerAll.1 ∈ xAll := xm4 (n := 0) rfl rfl
theorem k6_67 : Cond.methodLink (xCn 6) 67 mX3_stoke.1 ∈ xAll := xm4 (n := 5) rfl rfl
theorem k6_70 : Cond.methodLink (xCn 6) 70 mX3_shiftGear.1 ∈ xAll := xm4 (n := 9) rfl rfl
theorem k6_73 : Cond.methodLink (xCn 6) 73 mX3_changeWind.1 ∈ xAll := xm4 (n := 13) rfl rfl
theorem k6_76 : Cond.methodLink (xCn 6) 76 mX5_giveAway.1 ∈ xAll := xm4 (n := 17) rfl rfl
theorem k6_79 : Cond.methodLink (xCn 6) 79 mX5_wet.1 ∈ xAll := xm4 (n := 33) rfl rfl
theorem k6_82 : Cond.methodLink (xCn 6) 82 mX3_passMinutes.1 ∈ xAll := xm4 (n := 37) rfl rfl
theorem k7_26 : Cond.methodLink (xCn 7) 26 mX10_begin.1 ∈ xAll := xm3 (n := 112) rfl rfl
theorem k7_43 : Cond.methodLink (xCn 7) 43 mX10_sound.1 ∈ xAll := xm3 (n := 113) rfl rfl
theorem k7_47 : Cond.methodLink (xCn 7) 47 mX7_isDone.1 ∈ xAll := xm3 (n := 114) rfl rfl
theorem k7_50 : Cond.methodLink (xCn 7) 50 mX10_isMark.1 ∈ xAll := xm3 (n := 119) rfl rfl
theorem k7_54 : Cond.methodLink (xCn 7) 54 mX7_closeBracket.1 ∈ xAll := xm3 (n := 120) rfl rfl
theorem k7_57 : Cond.methodLink (xCn 7) 57 mX7_readCommand.1 ∈ xAll := xm3 (n := 133) rfl rfl
theorem k7_60 : Cond.methodLink (xCn 7) 60 mX10_isEnd.1 ∈ xAll := xm3 (n := 118) rfl rfl
theorem k7_63 : Cond.methodLink (xCn 7) 63 mX7_verbHere.1 ∈ xAll := xm3 (n := 137) rfl rfl
theorem k7_67 : Cond.methodLink (xCn 7) 67 mX10_fail.1 ∈ xAll := xm3 (n := 152) rfl rfl
theorem k7_71 : Cond.methodLink (xCn 7) 71 mX10_next.1 ∈ xAll := xm3 (n := 153) rfl rfl
theorem k7_74 : Cond.methodLink (xCn 7) 74 mX7_openBracket.1 ∈ xAll := xm3 (n := 154) rfl rfl
theorem k7_77 : Cond.methodLink (xCn 7) 77 mX7_readNumbers.1 ∈ xAll := xm3 (n := 159) rfl rfl
theorem k7_80 : Cond.methodLink (xCn 7) 80 mX10_readMark.1 ∈ xAll := xm3 (n := 124) rfl rfl
theorem k7_86 : Cond.methodLink (xCn 7) 86 mX10_isWord.1 ∈ xAll := xm3 (n := 142) rfl rfl
theorem k7_108 : Cond.methodLink (xCn 7) 108 mX10_readNumber.1 ∈ xAll := xm3 (n := 158) rfl rfl
theorem k7_112 : Cond.methodLink (xCn 7) 112 mX6_add.1 ∈ xAll := xm3 (n := 163) rfl rfl
theorem k7_116 : Cond.methodLink (xCn 7) 116 mX6_repeatFrom.1 ∈ xAll := xm3 (n := 125) rfl rfl
theorem k8_19 : Cond.methodLink (xCn 8) 19 mX10_begin.1 ∈ xAll := xm2 (n := 152) rfl rfl
theorem k8_39 : Cond.methodLink (xCn 8) 39 mX8_readFireAndWind.1 ∈ xAll := xm2 (n := 174) rfl rfl
theorem k8_42 : Cond.methodLink (xCn 8) 42 mX8_readFloor.1 ∈ xAll := xm2 (n := 212) rfl rfl
theorem k8_45 : Cond.methodLink (xCn 8) 45 mX10_sound.1 ∈ xAll := xm2 (n := 223) rfl rfl
theorem k8_51 : Cond.methodLink (xCn 8) 51 mX10_isWord.1 ∈ xAll := xm2 (n := 217) rfl rfl
theorem k8_57 : Cond.methodLink (xCn 8) 57 mX8_readLoad.1 ∈ xAll := xm2 (n := 225) rfl rfl
theorem k8_60 : Cond.methodLink (xCn 8) 60 mX10_isEnd.1 ∈ xAll := xm3 (n := 7) rfl rfl
theorem k8_63 : Cond.methodLink (xCn 8) 63 mX10_fail.1 ∈ xAll := xm2 (n := 218) rfl rfl
theorem k8_67 : Cond.methodLink (xCn 8) 67 mX3_damp.1 ∈ xAll := xm3 (n := 11) rfl rfl
theorem k8_75 : Cond.methodLink (xCn 8) 75 mX10_readWord.1 ∈ xAll := xm2 (n := 179) rfl rfl
theorem k8_79 : Cond.methodLink (xCn 8) 79 mX10_readNumber.1 ∈ xAll := xm2 (n := 193) rfl rfl
theorem k8_104 : Cond.methodLink (xCn 8) 104 mX10_readMark.1 ∈ xAll := xm2 (n := 204) rfl rfl
theorem k8_108 : Cond.methodLink (xCn 8) 108 mX1_addFloor.1 ∈ xAll := xm2 (n := 219) rfl rfl
theorem k8_111 : Cond.methodLink (xCn 8) 111 mX10_seeNumber.1 ∈ xAll := xm2 (n := 229) rfl rfl
theorem k8_114 : Cond.methodLink (xCn 8) 114 mX1_isTaken.1 ∈ xAll := xm2 (n := 230) rfl rfl
theorem k8_118 : Cond.methodLink (xCn 8) 118 mX10_next.1 ∈ xAll := xm2 (n := 234) rfl rfl
theorem k8_121 : Cond.methodLink (xCn 8) 121 mX3_place.1 ∈ xAll := xm2 (n := 235) rfl rfl
theorem k9_19 : Cond.methodLink (xCn 9) 19 mX9_add.1 ∈ xAll := xm5 (n := 98) rfl rfl
theorem k10_25 : Cond.methodLink (xCn 10) 25 mX10_next.1 ∈ xAll := xm2 (n := 156) rfl rfl
theorem k10_31 : Cond.methodLink (xCn 10) 31 mX10_sound.1 ∈ xAll := xm2 (n := 160) rfl rfl
theorem k10_40 : Cond.methodLink (xCn 10) 40 mX9_at.1 ∈ xAll := xm2 (n := 164) rfl rfl
theorem k10_44 : Cond.methodLink (xCn 10) 44 mX10_isBlank.1 ∈ xAll := xm2 (n := 168) rfl rfl
theorem k10_48 : Cond.methodLink (xCn 10) 48 mX10_kindOf.1 ∈ xAll := xm2 (n := 171) rfl rfl
theorem k10_54 : Cond.methodLink (xCn 10) 54 mJ0_length_8abf5.1 ∈ xAll := xm2 (n := 187) rfl rfl
theorem k10_59 : Cond.methodLink (xCn 10) 59 mJ0_charAt_5068e.1 ∈ xAll := xm2 (n := 188) rfl rfl
theorem k10_63 : Cond.methodLink (xCn 10) 63 mX10_isMark.1 ∈ xAll := xm2 (n := 208) rfl rfl
theorem k10_67 : Cond.methodLink (xCn 10) 67 mX10_fail.1 ∈ xAll := xm2 (n := 189) rfl rfl
theorem k10_71 : Cond.methodLink (xCn 10) 71 mX10_isWord.1 ∈ xAll := xm2 (n := 183) rfl rfl
theorem k10_75 : Cond.methodLink (xCn 10) 75 mX10_seeNumber.1 ∈ xAll := xm2 (n := 197) rfl rfl
theorem k13_7 : Cond.methodLink (xCn 13) 7 mX11_append.1 ∈ xAll := xm5 (n := 19) rfl rfl
theorem k13_15 : Cond.methodLink (xCn 13) 15 mX11_truncate.1 ∈ xAll := xm5 (n := 103) rfl rfl
theorem k13_21 : Cond.methodLink (xCn 13) 21 mX11_limitOf.1 ∈ xAll := xm5 (n := 128) rfl rfl
theorem k13_26 : Cond.methodLink (xCn 13) 26 mX11_temperatureOf.1 ∈ xAll := xm5 (n := 156) rfl rfl
theorem k13_29 : Cond.methodLink (xCn 13) 29 mX11_hasLoad.1 ∈ xAll := xm5 (n := 163) rfl rfl
theorem k13_33 : Cond.methodLink (xCn 13) 33 mX11_massOn.1 ∈ xAll := xm5 (n := 170) rfl rfl
theorem k13_36 : Cond.methodLink (xCn 13) 36 mX11_moistureOn.1 ∈ xAll := xm5 (n := 178) rfl rfl
theorem k13_41 : Cond.methodLink (xCn 13) 41 mX11_scorchOn.1 ∈ xAll := xm5 (n := 205) rfl rfl
theorem k13_44 : Cond.methodLink (xCn 13) 44 mX11_isDry.1 ∈ xAll := xm5 (n := 212) rfl rfl
theorem k13_47 : Cond.methodLink (xCn 13) 47 mX11_dryingOn.1 ∈ xAll := xm5 (n := 220) rfl rfl
theorem k13_50 : Cond.methodLink (xCn 13) 50 mX11_obstacleToLower.1 ∈ xAll := xm5 (n := 232) rfl rfl
theorem k13_53 : Cond.methodLink (xCn 13) 53 mX11_sackState.1 ∈ xAll := xm6 (n := 0) rfl rfl
theorem k13_56 : Cond.methodLink (xCn 13) 56 mX11_sackMass.1 ∈ xAll := xm6 (n := 13) rfl rfl
theorem k13_59 : Cond.methodLink (xCn 13) 59 mX11_sackMoisture.1 ∈ xAll := xm6 (n := 20) rfl rfl
theorem k13_62 : Cond.methodLink (xCn 13) 62 mX11_sackTemperature.1 ∈ xAll := xm6 (n := 27) rfl rfl
theorem k13_65 : Cond.methodLink (xCn 13) 65 mX11_isSmouldering.1 ∈ xAll := xm6 (n := 34) rfl rfl
theorem k13_68 : Cond.methodLink (xCn 13) 68 mX11_qualityOf.1 ∈ xAll := xm6 (n := 41) rfl rfl
theorem k13_71 : Cond.methodLink (xCn 13) 71 mX11_priceOf.1 ∈ xAll := xm6 (n := 49) rfl rfl
theorem k13_74 : Cond.methodLink (xCn 13) 74 mX11_temperatureAfter.1 ∈ xAll := xm6 (n := 57) rfl rfl
theorem k13_78 : Cond.methodLink (xCn 13) 78 mX11_minutesUntilDry.1 ∈ xAll := xm6 (n := 66) rfl rfl
theorem k13_81 : Cond.methodLink (xCn 13) 81 mX11_minutesUntilBurnt.1 ∈ xAll := xm6 (n := 73) rfl rfl
theorem k13_84 : Cond.methodLink (xCn 13) 84 mX11_putLoad.1 ∈ xAll := xm6 (n := 80) rfl rfl
theorem k13_87 : Cond.methodLink (xCn 13) 87 mX11_lower.1 ∈ xAll := xm6 (n := 91) rfl rfl
theorem k13_90 : Cond.methodLink (xCn 13) 90 mX11_setHeat.1 ∈ xAll := xm6 (n := 100) rfl rfl
theorem k13_93 : Cond.methodLink (xCn 13) 93 mX11_setGear.1 ∈ xAll := xm6 (n := 109) rfl rfl
theorem k13_96 : Cond.methodLink (xCn 13) 96 mX11_setWind.1 ∈ xAll := xm6 (n := 118) rfl rfl
theorem k13_99 : Cond.methodLink (xCn 13) 99 mX11_sell.1 ∈ xAll := xm6 (n := 127) rfl rfl
theorem k13_102 : Cond.methodLink (xCn 13) 102 mX11_quench.1 ∈ xAll := xm6 (n := 137) rfl rfl
theorem k13_105 : Cond.methodLink (xCn 13) 105 mX11_advance.1 ∈ xAll := xm6 (n := 147) rfl rfl
theorem k13_108 : Cond.methodLink (xCn 13) 108 mX11_undo.1 ∈ xAll := xm6 (n := 156) rfl rfl
theorem k13_112 : Cond.methodLink (xCn 13) 112 mX11_save.1 ∈ xAll := xm6 (n := 168) rfl rfl
theorem k13_115 : Cond.methodLink (xCn 13) 115 mX11_restore.1 ∈ xAll := xm6 (n := 184) rfl rfl
theorem k13_118 : Cond.methodLink (xCn 13) 118 mX11_init.1 ∈ xAll := xm1 (n := 29) rfl rfl
theorem k13_121 : Cond.methodLink (xCn 13) 121 mX12_init.1 ∈ xAll := xm6 (n := 195) rfl rfl
theorem k13_127 : Cond.methodLink (xCn 13) 127 mX12_append.1 ∈ xAll := xm7 (n := 97) rfl rfl
theorem k13_128 : Cond.methodLink (xCn 13) 128 mX12_thrown.1 ∈ xAll := xm7 (n := 93) rfl rfl
theorem k13_134 : Cond.methodLink (xCn 13) 134 mX12_truncate.1 ∈ xAll := xm7 (n := 113) rfl rfl
theorem k13_135 : Cond.methodLink (xCn 13) 135 mX11_load.1 ∈ xAll := xm3 (n := 100) rfl rfl
theorem k13_138 : Cond.methodLink (xCn 13) 138 mX12_load.1 ∈ xAll := xm7 (n := 120) rfl rfl
theorem k13_139 : Cond.methodLink (xCn 13) 139 mX11_runScript.1 ∈ xAll := xm3 (n := 104) rfl rfl
theorem k13_142 : Cond.methodLink (xCn 13) 142 mX12_runScript.1 ∈ xAll := xm7 (n := 207) rfl rfl
theorem k13_143 : Cond.methodLink (xCn 13) 143 mX11_errorCode.1 ∈ xAll := xm4 (n := 73) rfl rfl
theorem k13_146 : Cond.methodLink (xCn 13) 146 mX12_errorCode.1 ∈ xAll := xm8 (n := 118) rfl rfl
theorem k13_147 : Cond.methodLink (xCn 13) 147 mX11_errorPosition.1 ∈ xAll := xm4 (n := 77) rfl rfl
theorem k13_150 : Cond.methodLink (xCn 13) 150 mX12_errorPosition.1 ∈ xAll := xm8 (n := 122) rfl rfl
theorem k13_151 : Cond.methodLink (xCn 13) 151 mX11_minute.1 ∈ xAll := xm4 (n := 81) rfl rfl
theorem k13_154 : Cond.methodLink (xCn 13) 154 mX12_minute.1 ∈ xAll := xm8 (n := 201) rfl rfl
theorem k13_155 : Cond.methodLink (xCn 13) 155 mX11_heat.1 ∈ xAll := xm4 (n := 85) rfl rfl
theorem k13_158 : Cond.methodLink (xCn 13) 158 mX12_heat.1 ∈ xAll := xm8 (n := 209) rfl rfl
theorem k13_159 : Cond.methodLink (xCn 13) 159 mX11_gear.1 ∈ xAll := xm4 (n := 89) rfl rfl
theorem k13_162 : Cond.methodLink (xCn 13) 162 mX12_gear.1 ∈ xAll := xm8 (n := 213) rfl rfl
theorem k13_163 : Cond.methodLink (xCn 13) 163 mX11_windDirection.1 ∈ xAll := xm4 (n := 93) rfl rfl
theorem k13_166 : Cond.methodLink (xCn 13) 166 mX12_windDirection.1 ∈ xAll := xm8 (n := 217) rfl rfl
theorem k13_167 : Cond.methodLink (xCn 13) 167 mX11_windStrength.1 ∈ xAll := xm4 (n := 97) rfl rfl
theorem k13_170 : Cond.methodLink (xCn 13) 170 mX12_windStrength.1 ∈ xAll := xm8 (n := 221) rfl rfl
theorem k13_171 : Cond.methodLink (xCn 13) 171 mX11_vaneDirection.1 ∈ xAll := xm4 (n := 101) rfl rfl
theorem k13_174 : Cond.methodLink (xCn 13) 174 mX12_vaneDirection.1 ∈ xAll := xm8 (n := 225) rfl rfl
theorem k13_175 : Cond.methodLink (xCn 13) 175 mX11_deviation.1 ∈ xAll := xm4 (n := 105) rfl rfl
theorem k13_178 : Cond.methodLink (xCn 13) 178 mX12_deviation.1 ∈ xAll := xm8 (n := 229) rfl rfl
theorem k13_179 : Cond.methodLink (xCn 13) 179 mX11_draught.1 ∈ xAll := xm4 (n := 110) rfl rfl
theorem k13_182 : Cond.methodLink (xCn 13) 182 mX12_draught.1 ∈ xAll := xm8 (n := 233) rfl rfl
theorem k13_183 : Cond.methodLink (xCn 13) 183 mX11_floorCount.1 ∈ xAll := xm4 (n := 115) rfl rfl
theorem k13_186 : Cond.methodLink (xCn 13) 186 mX12_floorCount.1 ∈ xAll := xm8 (n := 237) rfl rfl
theorem k13_189 : Cond.methodLink (xCn 13) 189 mX12_limitOf.1 ∈ xAll := xm9 (n := 1) rfl rfl
theorem k13_192 : Cond.methodLink (xCn 13) 192 mX12_temperatureOf.1 ∈ xAll := xm9 (n := 9) rfl rfl
theorem k13_195 : Cond.methodLink (xCn 13) 195 mX12_hasLoad.1 ∈ xAll := xm9 (n := 13) rfl rfl
theorem k13_198 : Cond.methodLink (xCn 13) 198 mX12_massOn.1 ∈ xAll := xm9 (n := 17) rfl rfl
theorem k13_201 : Cond.methodLink (xCn 13) 201 mX12_moistureOn.1 ∈ xAll := xm9 (n := 21) rfl rfl
theorem k13_204 : Cond.methodLink (xCn 13) 204 mX12_scorchOn.1 ∈ xAll := xm9 (n := 29) rfl rfl
theorem k13_207 : Cond.methodLink (xCn 13) 207 mX12_isDry.1 ∈ xAll := xm9 (n := 33) rfl rfl
theorem k13_210 : Cond.methodLink (xCn 13) 210 mX12_dryingOn.1 ∈ xAll := xm9 (n := 41) rfl rfl
theorem k13_211 : Cond.methodLink (xCn 13) 211 mX11_warmestFloor.1 ∈ xAll := xm4 (n := 119) rfl rfl
theorem k13_214 : Cond.methodLink (xCn 13) 214 mX12_warmestFloor.1 ∈ xAll := xm9 (n := 45) rfl rfl
theorem k13_217 : Cond.methodLink (xCn 13) 217 mX12_obstacleToLower.1 ∈ xAll := xm9 (n := 49) rfl rfl
theorem k13_218 : Cond.methodLink (xCn 13) 218 mX11_sackCount.1 ∈ xAll := xm4 (n := 127) rfl rfl
theorem k13_221 : Cond.methodLink (xCn 13) 221 mX12_sackCount.1 ∈ xAll := xm9 (n := 53) rfl rfl
theorem k13_224 : Cond.methodLink (xCn 13) 224 mX12_sackState.1 ∈ xAll := xm9 (n := 57) rfl rfl
theorem k13_227 : Cond.methodLink (xCn 13) 227 mX12_sackMass.1 ∈ xAll := xm9 (n := 65) rfl rfl
theorem k13_230 : Cond.methodLink (xCn 13) 230 mX12_sackMoisture.1 ∈ xAll := xm9 (n := 69) rfl rfl
theorem k13_233 : Cond.methodLink (xCn 13) 233 mX12_sackTemperature.1 ∈ xAll := xm9 (n := 73) rfl rfl
theorem k13_236 : Cond.methodLink (xCn 13) 236 mX12_isSmouldering.1 ∈ xAll := xm9 (n := 77) rfl rfl
theorem k13_239 : Cond.methodLink (xCn 13) 239 mX12_qualityOf.1 ∈ xAll := xm9 (n := 81) rfl rfl
theorem k13_242 : Cond.methodLink (xCn 13) 242 mX12_priceOf.1 ∈ xAll := xm9 (n := 85) rfl rfl
theorem k13_243 : Cond.methodLink (xCn 13) 243 mX11_smoulderingSacks.1 ∈ xAll := xm4 (n := 131) rfl rfl
theorem k13_246 : Cond.methodLink (xCn 13) 246 mX12_smoulderingSacks.1 ∈ xAll := xm9 (n := 89) rfl rfl
theorem k13_247 : Cond.methodLink (xCn 13) 247 mX11_hottestSack.1 ∈ xAll := xm4 (n := 139) rfl rfl
theorem k13_250 : Cond.methodLink (xCn 13) 250 mX12_hottestSack.1 ∈ xAll := xm9 (n := 93) rfl rfl
theorem k13_251 : Cond.methodLink (xCn 13) 251 mX11_loadedMass.1 ∈ xAll := xm4 (n := 147) rfl rfl
theorem k13_254 : Cond.methodLink (xCn 13) 254 mX12_loadedMass.1 ∈ xAll := xm9 (n := 97) rfl rfl
theorem k13_255 : Cond.methodLink (xCn 13) 255 mX11_soldMass.1 ∈ xAll := xm4 (n := 151) rfl rfl
theorem k13_258 : Cond.methodLink (xCn 13) 258 mX12_soldMass.1 ∈ xAll := xm9 (n := 101) rfl rfl
theorem k13_259 : Cond.methodLink (xCn 13) 259 mX11_burntMass.1 ∈ xAll := xm4 (n := 155) rfl rfl
theorem k13_262 : Cond.methodLink (xCn 13) 262 mX12_burntMass.1 ∈ xAll := xm9 (n := 105) rfl rfl
theorem k13_263 : Cond.methodLink (xCn 13) 263 mX11_income.1 ∈ xAll := xm4 (n := 159) rfl rfl
theorem k13_266 : Cond.methodLink (xCn 13) 266 mX12_income.1 ∈ xAll := xm9 (n := 109) rfl rfl
theorem k13_267 : Cond.methodLink (xCn 13) 267 mX11_dampedHeat.1 ∈ xAll := xm4 (n := 163) rfl rfl
theorem k13_270 : Cond.methodLink (xCn 13) 270 mX12_dampedHeat.1 ∈ xAll := xm9 (n := 113) rfl rfl
theorem k13_271 : Cond.methodLink (xCn 13) 271 mX11_vaneSteps.1 ∈ xAll := xm4 (n := 167) rfl rfl
theorem k13_274 : Cond.methodLink (xCn 13) 274 mX12_vaneSteps.1 ∈ xAll := xm9 (n := 117) rfl rfl
theorem k13_275 : Cond.methodLink (xCn 13) 275 mX11_meanMoisture.1 ∈ xAll := xm4 (n := 171) rfl rfl
theorem k13_279 : Cond.methodLink (xCn 13) 279 mX12_meanMoisture.1 ∈ xAll := xm9 (n := 121) rfl rfl
theorem k13_280 : Cond.methodLink (xCn 13) 280 mX11_loadedShare.1 ∈ xAll := xm4 (n := 183) rfl rfl
theorem k13_284 : Cond.methodLink (xCn 13) 284 mX12_loadedShare.1 ∈ xAll := xm9 (n := 125) rfl rfl
theorem k13_285 : Cond.methodLink (xCn 13) 285 mX11_contradictions.1 ∈ xAll := xm4 (n := 187) rfl rfl
theorem k13_288 : Cond.methodLink (xCn 13) 288 mX12_contradictions.1 ∈ xAll := xm9 (n := 129) rfl rfl
theorem k13_292 : Cond.methodLink (xCn 13) 292 mX12_temperatureAfter.1 ∈ xAll := xm9 (n := 136) rfl rfl
theorem k13_295 : Cond.methodLink (xCn 13) 295 mX12_minutesUntilDry.1 ∈ xAll := xm9 (n := 141) rfl rfl
theorem k13_298 : Cond.methodLink (xCn 13) 298 mX12_minutesUntilBurnt.1 ∈ xAll := xm9 (n := 145) rfl rfl
theorem k13_301 : Cond.methodLink (xCn 13) 301 mX12_putLoad.1 ∈ xAll := xm8 (n := 126) rfl rfl
theorem k13_304 : Cond.methodLink (xCn 13) 304 mX12_lower.1 ∈ xAll := xm8 (n := 136) rfl rfl
theorem k13_305 : Cond.methodLink (xCn 13) 305 mX11_rotate.1 ∈ xAll := xm4 (n := 214) rfl rfl
theorem k13_308 : Cond.methodLink (xCn 13) 308 mX12_rotate.1 ∈ xAll := xm8 (n := 144) rfl rfl
theorem k13_311 : Cond.methodLink (xCn 13) 311 mX12_setHeat.1 ∈ xAll := xm8 (n := 148) rfl rfl
theorem k13_314 : Cond.methodLink (xCn 13) 314 mX12_setGear.1 ∈ xAll := xm8 (n := 153) rfl rfl
theorem k13_317 : Cond.methodLink (xCn 13) 317 mX12_setWind.1 ∈ xAll := xm8 (n := 158) rfl rfl
theorem k13_320 : Cond.methodLink (xCn 13) 320 mX12_sell.1 ∈ xAll := xm8 (n := 164) rfl rfl
theorem k13_323 : Cond.methodLink (xCn 13) 323 mX12_quench.1 ∈ xAll := xm8 (n := 172) rfl rfl
theorem k13_326 : Cond.methodLink (xCn 13) 326 mX12_advance.1 ∈ xAll := xm8 (n := 176) rfl rfl
theorem k13_327 : Cond.methodLink (xCn 13) 327 mX11_writeFloors.1 ∈ xAll := xm4 (n := 219) rfl rfl
theorem k13_330 : Cond.methodLink (xCn 13) 330 mX12_writeFloors.1 ∈ xAll := xm9 (n := 149) rfl rfl
theorem k13_331 : Cond.methodLink (xCn 13) 331 mX11_writeSacks.1 ∈ xAll := xm4 (n := 238) rfl rfl
theorem k13_334 : Cond.methodLink (xCn 13) 334 mX12_writeSacks.1 ∈ xAll := xm9 (n := 161) rfl rfl
theorem k13_335 : Cond.methodLink (xCn 13) 335 mX11_outputByte.1 ∈ xAll := xm5 (n := 3) rfl rfl
theorem k13_338 : Cond.methodLink (xCn 13) 338 mX12_outputByte.1 ∈ xAll := xm9 (n := 165) rfl rfl
theorem k13_339 : Cond.methodLink (xCn 13) 339 mX11_undoCount.1 ∈ xAll := xm5 (n := 11) rfl rfl
theorem k13_342 : Cond.methodLink (xCn 13) 342 mX12_undoCount.1 ∈ xAll := xm8 (n := 181) rfl rfl
theorem k13_346 : Cond.methodLink (xCn 13) 346 mX12_undo.1 ∈ xAll := xm8 (n := 185) rfl rfl
theorem k13_349 : Cond.methodLink (xCn 13) 349 mX12_save.1 ∈ xAll := xm8 (n := 189) rfl rfl
theorem k13_352 : Cond.methodLink (xCn 13) 352 mX12_restore.1 ∈ xAll := xm8 (n := 197) rfl rfl
theorem k12_48 : Cond.methodLink (xCn 12) 48 mX12_builds.1 ∈ xAll := xm6 (n := 199) rfl rfl
theorem k12_52 : Cond.methodLink (xCn 12) 52 mX12_lays.1 ∈ xAll := xm6 (n := 206) rfl rfl
theorem k12_56 : Cond.methodLink (xCn 12) 56 mX12_damps.1 ∈ xAll := xm6 (n := 210) rfl rfl
theorem k12_62 : Cond.methodLink (xCn 12) 62 mX12_atFloor.1 ∈ xAll := xm6 (n := 203) rfl rfl
theorem k12_66 : Cond.methodLink (xCn 12) 66 mX12_atSack.1 ∈ xAll := xm8 (n := 35) rfl rfl
theorem k12_69 : Cond.methodLink (xCn 12) 69 mX12_onFloor.1 ∈ xAll := xm6 (n := 238) rfl rfl
theorem k12_72 : Cond.methodLink (xCn 12) 72 mX12_clockwise.1 ∈ xAll := xm6 (n := 234) rfl rfl
theorem k12_76 : Cond.methodLink (xCn 12) 76 mX12_deviates.1 ∈ xAll := xm6 (n := 230) rfl rfl
theorem k12_79 : Cond.methodLink (xCn 12) 79 mX12_draws.1 ∈ xAll := xm6 (n := 226) rfl rfl
theorem k12_82 : Cond.methodLink (xCn 12) 82 mX12_warmth.1 ∈ xAll := xm6 (n := 222) rfl rfl
theorem k12_86 : Cond.methodLink (xCn 12) 86 mX12_degrees.1 ∈ xAll := xm6 (n := 218) rfl rfl
theorem k12_89 : Cond.methodLink (xCn 12) 89 mX12_isTooWarm.1 ∈ xAll := xm6 (n := 214) rfl rfl
theorem k12_93 : Cond.methodLink (xCn 12) 93 mX12_isLoaded.1 ∈ xAll := xm7 (n := 199) rfl rfl
theorem k12_97 : Cond.methodLink (xCn 12) 97 mX12_dries.1 ∈ xAll := xm8 (n := 98) rfl rfl
theorem k12_101 : Cond.methodLink (xCn 12) 101 mX12_flag.1 ∈ xAll := xm8 (n := 16) rfl rfl
theorem k12_105 : Cond.methodLink (xCn 12) 105 mX12_of.1 ∈ xAll := xm8 (n := 54) rfl rfl
theorem k12_108 : Cond.methodLink (xCn 12) 108 mX12_in.1 ∈ xAll := xm7 (n := 117) rfl rfl
theorem k12_112 : Cond.methodLink (xCn 12) 112 mX12_smoulders.1 ∈ xAll := xm8 (n := 58) rfl rfl
theorem k12_115 : Cond.methodLink (xCn 12) 115 mX12_heats.1 ∈ xAll := xm8 (n := 106) rfl rfl
theorem k12_118 : Cond.methodLink (xCn 12) 118 mX12_turns.1 ∈ xAll := xm8 (n := 90) rfl rfl
theorem k12_121 : Cond.methodLink (xCn 12) 121 mX12_driesAll.1 ∈ xAll := xm8 (n := 94) rfl rfl
theorem k12_124 : Cond.methodLink (xCn 12) 124 mX12_glows.1 ∈ xAll := xm8 (n := 102) rfl rfl
theorem k12_127 : Cond.methodLink (xCn 12) 127 mX12_minute1.1 ∈ xAll := xm8 (n := 86) rfl rfl
theorem k12_130 : Cond.methodLink (xCn 12) 130 mX12_packs.1 ∈ xAll := xm8 (n := 31) rfl rfl
theorem k12_133 : Cond.methodLink (xCn 12) 133 mX12_empties.1 ∈ xAll := xm8 (n := 38) rfl rfl
theorem k12_136 : Cond.methodLink (xCn 12) 136 mX12_why.1 ∈ xAll := xm8 (n := 23) rfl rfl
theorem k12_139 : Cond.methodLink (xCn 12) 139 mX12_lowers.1 ∈ xAll := xm8 (n := 27) rfl rfl
theorem k12_142 : Cond.methodLink (xCn 12) 142 mX12_quality.1 ∈ xAll := xm8 (n := 70) rfl rfl
theorem k12_145 : Cond.methodLink (xCn 12) 145 mX12_price.1 ∈ xAll := xm8 (n := 66) rfl rfl
theorem k12_151 : Cond.methodLink (xCn 12) 151 mX12_bytesIn.1 ∈ xAll := xm7 (n := 101) rfl rfl
theorem k12_154 : Cond.methodLink (xCn 12) 154 mX12_stops.1 ∈ xAll := xm7 (n := 105) rfl rfl
theorem k12_158 : Cond.methodLink (xCn 12) 158 mX12_four.1 ∈ xAll := xm7 (n := 109) rfl rfl
theorem k12_175 : Cond.methodLink (xCn 12) 175 mX12_see.1 ∈ xAll := xm7 (n := 139) rfl rfl
theorem k12_184 : Cond.methodLink (xCn 12) 184 mX12_isSmall.1 ∈ xAll := xm7 (n := 143) rfl rfl
theorem k12_195 : Cond.methodLink (xCn 12) 195 mX12_isDigit.1 ∈ xAll := xm7 (n := 150) rfl rfl
theorem k12_208 : Cond.methodLink (xCn 12) 208 mX12_scan.1 ∈ xAll := xm7 (n := 135) rfl rfl
theorem k12_211 : Cond.methodLink (xCn 12) 211 mX12_isSign.1 ∈ xAll := xm7 (n := 181) rfl rfl
theorem k12_214 : Cond.methodLink (xCn 12) 214 mX12_must.1 ∈ xAll := xm7 (n := 165) rfl rfl
theorem k12_218 : Cond.methodLink (xCn 12) 218 mX12_goesOn.1 ∈ xAll := xm7 (n := 169) rfl rfl
theorem k12_221 : Cond.methodLink (xCn 12) 221 mX12_reads.1 ∈ xAll := xm7 (n := 173) rfl rfl
theorem k12_224 : Cond.methodLink (xCn 12) 224 mX12_isGood.1 ∈ xAll := xm7 (n := 190) rfl rfl
theorem k12_227 : Cond.methodLink (xCn 12) 227 mX12_sign.1 ∈ xAll := xm7 (n := 177) rfl rfl
theorem k12_232 : Cond.methodLink (xCn 12) 232 mX12_isWord.1 ∈ xAll := xm7 (n := 161) rfl rfl
theorem k12_238 : Cond.methodLink (xCn 12) 238 mX12_floorText.1 ∈ xAll := xm7 (n := 186) rfl rfl
theorem k12_243 : Cond.methodLink (xCn 12) 243 mX12_loadText.1 ∈ xAll := xm7 (n := 195) rfl rfl
theorem k12_249 : Cond.methodLink (xCn 12) 249 mX12_takesText.1 ∈ xAll := xm7 (n := 124) rfl rfl
theorem k12_252 : Cond.methodLink (xCn 12) 252 mX12_copies.1 ∈ xAll := xm7 (n := 128) rfl rfl
theorem k12_256 : Cond.methodLink (xCn 12) 256 mX12_starts.1 ∈ xAll := xm7 (n := 131) rfl rfl
theorem k12_259 : Cond.methodLink (xCn 12) 259 mX12_setup.1 ∈ xAll := xm7 (n := 156) rfl rfl
theorem k12_262 : Cond.methodLink (xCn 12) 262 mX12_tellsError.1 ∈ xAll := xm7 (n := 203) rfl rfl
theorem k12_296 : Cond.methodLink (xCn 12) 296 mX12_isActive.1 ∈ xAll := xm8 (n := 8) rfl rfl
theorem k12_299 : Cond.methodLink (xCn 12) 299 mX12_came.1 ∈ xAll := xm8 (n := 12) rfl rfl
theorem k12_303 : Cond.methodLink (xCn 12) 303 mX12_isStored.1 ∈ xAll := xm8 (n := 50) rfl rfl
theorem k12_306 : Cond.methodLink (xCn 12) 306 mX12_sells.1 ∈ xAll := xm8 (n := 62) rfl rfl
theorem k12_309 : Cond.methodLink (xCn 12) 309 mX12_quenches.1 ∈ xAll := xm8 (n := 74) rfl rfl
theorem k12_312 : Cond.methodLink (xCn 12) 312 mX12_minutes1.1 ∈ xAll := xm8 (n := 82) rfl rfl
theorem k12_318 : Cond.methodLink (xCn 12) 318 mX12_putText.1 ∈ xAll := xm8 (n := 4) rfl rfl
theorem k12_321 : Cond.methodLink (xCn 12) 321 mX12_lowerText.1 ∈ xAll := xm8 (n := 19) rfl rfl
theorem k12_324 : Cond.methodLink (xCn 12) 324 mX12_setsText.1 ∈ xAll := xm8 (n := 42) rfl rfl
theorem k12_328 : Cond.methodLink (xCn 12) 328 mX12_sackText.1 ∈ xAll := xm8 (n := 46) rfl rfl
theorem k12_331 : Cond.methodLink (xCn 12) 331 mX12_waitText.1 ∈ xAll := xm8 (n := 78) rfl rfl
theorem k12_334 : Cond.methodLink (xCn 12) 334 mX12_rotates.1 ∈ xAll := xm8 (n := 110) rfl rfl
theorem k12_337 : Cond.methodLink (xCn 12) 337 mX12_isOrder.1 ∈ xAll := xm7 (n := 223) rfl rfl
theorem k12_343 : Cond.methodLink (xCn 12) 343 mX12_againOrder.1 ∈ xAll := xm7 (n := 236) rfl rfl
theorem k12_346 : Cond.methodLink (xCn 12) 346 mX12_does.1 ∈ xAll := xm8 (n := 0) rfl rfl
theorem k12_350 : Cond.methodLink (xCn 12) 350 mX12_closes.1 ∈ xAll := xm7 (n := 215) rfl rfl
theorem k12_353 : Cond.methodLink (xCn 12) 353 mX12_order.1 ∈ xAll := xm7 (n := 219) rfl rfl
theorem k12_356 : Cond.methodLink (xCn 12) 356 mX12_goesThrough.1 ∈ xAll := xm7 (n := 211) rfl rfl
theorem k12_359 : Cond.methodLink (xCn 12) 359 mX12_keepsPast.1 ∈ xAll := xm8 (n := 114) rfl rfl
theorem k12_366 : Cond.methodLink (xCn 12) 366 mX12_loads.1 ∈ xAll := xm8 (n := 132) rfl rfl
theorem k12_369 : Cond.methodLink (xCn 12) 369 mX12_noFloor.1 ∈ xAll := xm8 (n := 140) rfl rfl
theorem k12_380 : Cond.methodLink (xCn 12) 380 mX12_noSack.1 ∈ xAll := xm8 (n := 168) rfl rfl
theorem k12_385 : Cond.methodLink (xCn 12) 385 mX12_noSlot.1 ∈ xAll := xm8 (n := 193) rfl rfl
theorem k12_388 : Cond.methodLink (xCn 12) 388 mX12_told.1 ∈ xAll := xm8 (n := 205) rfl rfl
theorem k12_391 : Cond.methodLink (xCn 12) 391 mX12_asked.1 ∈ xAll := xm9 (n := 5) rfl rfl
theorem k12_394 : Cond.methodLink (xCn 12) 394 mX12_askedLoad.1 ∈ xAll := xm9 (n := 25) rfl rfl
theorem k12_397 : Cond.methodLink (xCn 12) 397 mX12_isDryNow.1 ∈ xAll := xm9 (n := 37) rfl rfl
theorem k12_400 : Cond.methodLink (xCn 12) 400 mX12_askedSack.1 ∈ xAll := xm9 (n := 61) rfl rfl
theorem k12_403 : Cond.methodLink (xCn 12) 403 mX12_bare.1 ∈ xAll := xm9 (n := 133) rfl rfl
theorem k12_411 : Cond.methodLink (xCn 12) 411 mX12_writes.1 ∈ xAll := xm9 (n := 153) rfl rfl
theorem k12_414 : Cond.methodLink (xCn 12) 414 mX12_writesNumber.1 ∈ xAll := xm9 (n := 157) rfl rfl
theorem k14_335 : Cond.methodLink (xCn 14) 335 mJ0_coder_7d493.1 ∈ xAll := xm2 (n := 96) rfl rfl
theorem k14_492 : Cond.methodLink (xCn 14) 492 mJ0_isLatin1_aae02.1 ∈ xAll := xm2 (n := 106) rfl rfl
theorem k14_495 : Cond.methodLink (xCn 14) 495 mJ1_charAt_3b067.1 ∈ xAll := xm2 (n := 110) rfl rfl
theorem k14_1059 : Cond.methodLink (xCn 14) 1059 mJ3_checkIndex_8e157.1 ∈ xAll := xm2 (n := 118) rfl rfl
theorem k15_9 : Cond.methodLink (xCn 15) 9 mJ0_checkIndex_df160.1 ∈ xAll := xm2 (n := 113) rfl rfl
theorem kf14_9 : Cond.fieldLink (xCn 14) 9 "java/lang/String" "value" "[B" ∈ xAll := xm9 (n := 190) rfl rfl
theorem kf14_15 : Cond.fieldLink (xCn 14) 15 "java/lang/String" "coder" "B" ∈ xAll := xm9 (n := 191) rfl rfl
theorem kf14_38 : Cond.fieldLink (xCn 14) 38 "java/lang/String" "COMPACT_STRINGS" "Z" ∈ xAll := xm2 (n := 100) rfl rfl
theorem kf14_1053 : Cond.fieldLink (xCn 14) 1053 "jdk/internal/util/Preconditions" "SIOOBE_FORMATTER" "Ljava/util/function/BiFunction;" ∈ xAll := xm2 (n := 116) rfl rfl
theorem xobj : Cond.instanceMethod objectInit ∈ xAll ∧ Cond.code objectInit ⟨#[0xb1]⟩ 1 none ∈ xAll := ⟨xm1 (n := 33) rfl rfl, xm1 (n := 34) rfl rfl⟩
def xOL : List (Nat × Nat) := [(11, 1), (0, 3), (1, 3), (2, 3), (3, 3), (4, 3), (5, 3), (6, 3), (7, 3), (8, 3), (9, 3), (10, 3), (12, 1)]
theorem xOL_ok : ∀ q ∈ xOL, Cond.methodLink (xCn q.1) q.2 objectInit ∈ xAll := List.forall_mem_cons.mpr ⟨xm1 (n := 32) rfl rfl, List.forall_mem_cons.mpr ⟨xm1 (n := 46) rfl rfl, List.forall_mem_cons.mpr ⟨xm1 (n := 76) rfl rfl, List.forall_mem_cons.mpr ⟨xm1 (n := 195) rfl rfl, List.forall_mem_cons.mpr ⟨xm1 (n := 40) rfl rfl, List.forall_mem_cons.mpr ⟨xm2 (n := 82) rfl rfl, List.forall_mem_cons.mpr ⟨xm1 (n := 111) rfl rfl, List.forall_mem_cons.mpr ⟨xm2 (n := 36) rfl rfl, List.forall_mem_cons.mpr ⟨xm2 (n := 57) rfl rfl, List.forall_mem_cons.mpr ⟨xm2 (n := 23) rfl rfl, List.forall_mem_cons.mpr ⟨xm1 (n := 221) rfl rfl, List.forall_mem_cons.mpr ⟨xm1 (n := 236) rfl rfl, List.forall_mem_cons.mpr ⟨xm6 (n := 198) rfl rfl, fun _ h => nomatch h⟩⟩⟩⟩⟩⟩⟩⟩⟩⟩⟩⟩⟩
def xAL : List (Nat × Nat) := [(1, 28), (5, 40)]
theorem xAL_ok : ∀ q ∈ xAL, Cond.methodLink (xCn q.1) q.2 arraycopyName ∈ xAll := List.forall_mem_cons.mpr ⟨xm3 (n := 52) rfl rfl, List.forall_mem_cons.mpr ⟨xm3 (n := 59) rfl rfl, fun _ h => nomatch h⟩⟩
theorem xac : Cond.native arraycopyName ∈ xAll ∧ Cond.static arraycopyName ∈ xAll ∧ Cond.initialized "java/lang/System" ∈ xAll := ⟨xm3 (n := 54) rfl rfl, xm3 (n := 53) rfl rfl, xm1 (n := 17) rfl rfl⟩
theorem xar_int : Cond.arrayClass .int ∈ xAll := xm1 (n := 105) rfl rfl
theorem xar_long : Cond.arrayClass .long ∈ xAll := xm9 (n := 169) rfl rfl
theorem xar_boolean : Cond.arrayClass .boolean ∈ xAll := xm1 (n := 215) rfl rfl
theorem xar_byte : Cond.arrayClass .byte ∈ xAll := xm3 (n := 99) rfl rfl
def xNT : List (Nat × Nat × Nat) := [(11, 7, 3), (11, 22, 2), (11, 29, 9), (11, 36, 10), (11, 45, 8), (11, 54, 6), (11, 61, 7), (11, 70, 4), (2, 9, 3), (3, 9, 0), (3, 18, 1), (3, 25, 5), (13, 8, 11), (13, 119, 12)]
def xNok (q : Nat × Nat × Nat) : Prop := ∃ r, vwCl[q.2.2]? = some r ∧ Cond.classLink (xCn q.1) q.2.1 r.1 ∈ xAll ∧ Cond.instantiable r.1 r.2.2 ∈ xAll ∧ Cond.initialized r.1 ∈ xAll
theorem xNT_ok : ∀ q ∈ xNT, xNok q := List.forall_mem_cons.mpr ⟨⟨_, rfl, xm1 (n := 35) rfl rfl, xm1 (n := 36) rfl rfl, xm1 (n := 2) rfl rfl⟩, List.forall_mem_cons.mpr ⟨⟨_, rfl, xm1 (n := 190) rfl rfl, xm1 (n := 191) rfl rfl, xm1 (n := 6) rfl rfl⟩, List.forall_mem_cons.mpr ⟨⟨_, rfl, xm1 (n := 216) rfl rfl, xm1 (n := 217) rfl rfl, xm1 (n := 7) rfl rfl⟩, List.forall_mem_cons.mpr ⟨⟨_, rfl, xm1 (n := 231) rfl rfl, xm1 (n := 232) rfl rfl, xm1 (n := 8) rfl rfl⟩, List.forall_mem_cons.mpr ⟨⟨_, rfl, xm2 (n := 18) rfl rfl, xm2 (n := 19) rfl rfl, xm1 (n := 9) rfl rfl⟩, List.forall_mem_cons.mpr ⟨⟨_, rfl, xm2 (n := 31) rfl rfl, xm2 (n := 32) rfl rfl, xm1 (n := 10) rfl rfl⟩, List.forall_mem_cons.mpr ⟨⟨_, rfl, xm2 (n := 52) rfl rfl, xm2 (n := 53) rfl rfl, xm1 (n := 11) rfl rfl⟩, List.forall_mem_cons.mpr ⟨⟨_, rfl, xm2 (n := 77) rfl rfl, xm2 (n := 78) rfl rfl, xm1 (n := 12) rfl rfl⟩, List.forall_mem_cons.mpr ⟨⟨_, rfl, xm1 (n := 196) rfl rfl, xm1 (n := 36) rfl rfl, xm1 (n := 2) rfl rfl⟩, List.forall_mem_cons.mpr ⟨⟨_, rfl, xm1 (n := 41) rfl rfl, xm1 (n := 42) rfl rfl, xm1 (n := 3) rfl rfl⟩, List.forall_mem_cons.mpr ⟨⟨_, rfl, xm1 (n := 71) rfl rfl, xm1 (n := 72) rfl rfl, xm1 (n := 4) rfl rfl⟩, List.forall_mem_cons.mpr ⟨⟨_, rfl, xm1 (n := 106) rfl rfl, xm1 (n := 107) rfl rfl, xm1 (n := 5) rfl rfl⟩, List.forall_mem_cons.mpr ⟨⟨_, rfl, xm1 (n := 27) rfl rfl, xm1 (n := 28) rfl rfl, xm1 (n := 1) rfl rfl⟩, List.forall_mem_cons.mpr ⟨⟨_, rfl, xm6 (n := 193) rfl rfl, xm6 (n := 194) rfl rfl, xm1 (n := 18) rfl rfl⟩, fun _ h => nomatch h⟩⟩⟩⟩⟩⟩⟩⟩⟩⟩⟩⟩⟩⟩
def xKL : List (Nat × Nat × Int64) := [(12, 164, 97), (12, 166, 122), (12, 168, 48), (12, 170, 57), (12, 191, 32), (12, 193, 96), (12, 230, 493172), (12, 236, 6700530), (12, 241, 408612), (12, 268, 13098162), (12, 270, 620365445), (12, 272, 206405), (12, 274, 234546), (12, 276, 763332), (12, 278, 628108), (12, 280, 592623720), (12, 282, 754996), (12, 284, 609752116), (12, 362, 99), (12, 364, 800), (12, 372, 90), (12, 374, 4), (12, 376, 7), (12, 378, 9), (12, 383, 120), (12, 406, 300)]
theorem xKL_ok : ∀ q ∈ xKL, Cond.constantLong (xCn q.1) q.2.1 q.2.2 ∈ xAll := List.forall_mem_cons.mpr ⟨xm7 (n := 146) rfl rfl, List.forall_mem_cons.mpr ⟨xm7 (n := 147) rfl rfl, List.forall_mem_cons.mpr ⟨xm7 (n := 153) rfl rfl, List.forall_mem_cons.mpr ⟨xm7 (n := 154) rfl rfl, List.forall_mem_cons.mpr ⟨xm7 (n := 148) rfl rfl, List.forall_mem_cons.mpr ⟨xm7 (n := 149) rfl rfl, List.forall_mem_cons.mpr ⟨xm7 (n := 160) rfl rfl, List.forall_mem_cons.mpr ⟨xm7 (n := 185) rfl rfl, List.forall_mem_cons.mpr ⟨xm7 (n := 194) rfl rfl, List.forall_mem_cons.mpr ⟨xm7 (n := 227) rfl rfl, List.forall_mem_cons.mpr ⟨xm7 (n := 228) rfl rfl, List.forall_mem_cons.mpr ⟨xm7 (n := 229) rfl rfl, List.forall_mem_cons.mpr ⟨xm7 (n := 230) rfl rfl, List.forall_mem_cons.mpr ⟨xm7 (n := 231) rfl rfl, List.forall_mem_cons.mpr ⟨xm7 (n := 232) rfl rfl, List.forall_mem_cons.mpr ⟨xm7 (n := 233) rfl rfl, List.forall_mem_cons.mpr ⟨xm7 (n := 234) rfl rfl, List.forall_mem_cons.mpr ⟨xm7 (n := 235) rfl rfl, List.forall_mem_cons.mpr ⟨xm8 (n := 130) rfl rfl, List.forall_mem_cons.mpr ⟨xm8 (n := 131) rfl rfl, List.forall_mem_cons.mpr ⟨xm8 (n := 152) rfl rfl, List.forall_mem_cons.mpr ⟨xm8 (n := 157) rfl rfl, List.forall_mem_cons.mpr ⟨xm8 (n := 162) rfl rfl, List.forall_mem_cons.mpr ⟨xm8 (n := 163) rfl rfl, List.forall_mem_cons.mpr ⟨xm8 (n := 180) rfl rfl, List.forall_mem_cons.mpr ⟨xm9 (n := 140) rfl rfl, fun _ h => nomatch h⟩⟩⟩⟩⟩⟩⟩⟩⟩⟩⟩⟩⟩⟩⟩⟩⟩⟩⟩⟩⟩⟩⟩⟩⟩⟩
def xKI : List (Nat × Nat × Int32) := [(12, 201, 999999)]
theorem xKI_ok : ∀ q ∈ xKI, Cond.constant (xCn q.1) q.2.1 q.2.2 ∈ xAll := List.forall_mem_cons.mpr ⟨xm7 (n := 155) rfl rfl, fun _ h => nomatch h⟩
