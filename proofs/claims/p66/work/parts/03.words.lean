/-! THE WORDS OF THE TABLES THAT ARE USED, each by its place -/
def xSx : List Cond := [.selects "java/lang/StringBuilder" yJ5_ensureCapacityInternal_d00df yJ5_ensureCapacityInternal_d00df, .selects "java/lang/StringBuilder" yJ5_newCapacity_0f7a4 yJ5_newCapacity_0f7a4, .selects "java/lang/StringBuilder" yJ5_putStringAt_47b60 yJ5_putStringAt_47b60, .selects "java/lang/StringBuilder" yJ5_inflateIfNeededFor_a7421 yJ5_inflateIfNeededFor_a7421]
def xAll : List Cond := (xSx ++ lw_tbl).filter goodWord
theorem xmx {n : Nat} {w : Cond} (h : xSx[n]? = some w) (hg : goodWord w = true) : w ∈ xAll := List.mem_filter.mpr ⟨List.mem_append_left _ (List.mem_of_getElem? h), hg⟩
theorem xm0 {n : Nat} {w : Cond} (h : (k2_sels lw_privs)[n]? = some w) (hg : goodWord w = true) : w ∈ xAll := List.mem_filter.mpr ⟨List.mem_append_right _ (List.mem_append_left _ (List.mem_of_getElem? h)), hg⟩
theorem xm1 {n : Nat} {w : Cond} (h : tables_1_1[n]? = some w) (hg : goodWord w = true) : w ∈ xAll := List.mem_filter.mpr ⟨List.mem_append_right _ (List.mem_append_right _ (List.mem_append_left _ (List.mem_of_getElem? h))), hg⟩
theorem xm2 {n : Nat} {w : Cond} (h : tables_1_2[n]? = some w) (hg : goodWord w = true) : w ∈ xAll := List.mem_filter.mpr ⟨List.mem_append_right _ (List.mem_append_right _ (List.mem_append_right _ (List.mem_append_left _ (List.mem_of_getElem? h)))), hg⟩
theorem xm3 {n : Nat} {w : Cond} (h : tables_1_3[n]? = some w) (hg : goodWord w = true) : w ∈ xAll := List.mem_filter.mpr ⟨List.mem_append_right _ (List.mem_append_right _ (List.mem_append_right _ (List.mem_append_right _ (List.mem_append_left _ (List.mem_of_getElem? h))))), hg⟩
theorem xm4 {n : Nat} {w : Cond} (h : tables_1_4[n]? = some w) (hg : goodWord w = true) : w ∈ xAll := List.mem_filter.mpr ⟨List.mem_append_right _ (List.mem_append_right _ (List.mem_append_right _ (List.mem_append_right _ (List.mem_append_right _ (List.mem_append_left _ (List.mem_of_getElem? h)))))), hg⟩
theorem xm5 {n : Nat} {w : Cond} (h : tables_1_5[n]? = some w) (hg : goodWord w = true) : w ∈ xAll := List.mem_filter.mpr ⟨List.mem_append_right _ (List.mem_append_right _ (List.mem_append_right _ (List.mem_append_right _ (List.mem_append_right _ (List.mem_append_right _ (List.mem_append_left _ (List.mem_of_getElem? h))))))), hg⟩
theorem xm6 {n : Nat} {w : Cond} (h : tables_1_6[n]? = some w) (hg : goodWord w = true) : w ∈ xAll := List.mem_filter.mpr ⟨List.mem_append_right _ (List.mem_append_right _ (List.mem_append_right _ (List.mem_append_right _ (List.mem_append_right _ (List.mem_append_right _ (List.mem_append_right _ (List.mem_append_left _ (List.mem_of_getElem? h)))))))), hg⟩
theorem xm7 {n : Nat} {w : Cond} (h : tables_1_7[n]? = some w) (hg : goodWord w = true) : w ∈ xAll := List.mem_filter.mpr ⟨List.mem_append_right _ (List.mem_append_right _ (List.mem_append_right _ (List.mem_append_right _ (List.mem_append_right _ (List.mem_append_right _ (List.mem_append_right _ (List.mem_append_right _ (List.mem_of_getElem? h)))))))), hg⟩
theorem xAll_good : ∀ w ∈ xAll, (w.onTables && w.keeps) = true ∨ ∃ ty, w = .arrayClass ty := fun _ h => good_of_word (List.mem_filter.mp h).2
def xCn (c : Nat) : String := [RX0, RX1, RX2, RX3, RX4, RX5, RX6, RX7, RX8, RX9, RX10, RX11, RX12, RL, RJ0, RJ4, RJx4a65c, RJ1, RJ3, RJ5, RJ6, RJ7, RJ8, RJxc12de, RJxa1e45, RJ15].getD c ""
def xCT (c : Nat) : Nat → FieldType := [tyX0, tyX1, tyX2, tyX3, tyX4, tyX5, tyX6, tyX7, tyX8, tyX9, tyX10, tyX11, tyX12, tyL, tyJ0, tyJ4, tyJx4a65c].getD c tyX0
theorem xin0 : ∀ w ∈ u_ws RX0 TX0 4, w ∈ xAll := List.forall_mem_cons.mpr ⟨xm1 (n := 70) rfl rfl, List.forall_mem_cons.mpr ⟨xm1 (n := 72) rfl rfl, List.forall_mem_cons.mpr ⟨xm1 (n := 74) rfl rfl, List.forall_mem_cons.mpr ⟨xm1 (n := 76) rfl rfl, fun _ h => nomatch h⟩⟩⟩⟩
theorem xin1 : ∀ w ∈ u_ws RX1 TX1 5, w ∈ xAll := List.forall_mem_cons.mpr ⟨xm1 (n := 100) rfl rfl, List.forall_mem_cons.mpr ⟨xm1 (n := 102) rfl rfl, List.forall_mem_cons.mpr ⟨xm1 (n := 104) rfl rfl, List.forall_mem_cons.mpr ⟨xm1 (n := 106) rfl rfl, List.forall_mem_cons.mpr ⟨xm1 (n := 108) rfl rfl, fun _ h => nomatch h⟩⟩⟩⟩⟩
theorem xin2 : ∀ w ∈ u_ws RX2 TX2 5, w ∈ xAll := List.forall_mem_cons.mpr ⟨xm1 (n := 208) rfl rfl, List.forall_mem_cons.mpr ⟨xm1 (n := 210) rfl rfl, List.forall_mem_cons.mpr ⟨xm1 (n := 212) rfl rfl, List.forall_mem_cons.mpr ⟨xm1 (n := 214) rfl rfl, List.forall_mem_cons.mpr ⟨xm1 (n := 216) rfl rfl, fun _ h => nomatch h⟩⟩⟩⟩⟩
theorem xin3 : ∀ w ∈ u_ws RX3 TX3 9, w ∈ xAll := List.forall_mem_cons.mpr ⟨xm1 (n := 176) rfl rfl, List.forall_mem_cons.mpr ⟨xm1 (n := 178) rfl rfl, List.forall_mem_cons.mpr ⟨xm1 (n := 180) rfl rfl, List.forall_mem_cons.mpr ⟨xm1 (n := 182) rfl rfl, List.forall_mem_cons.mpr ⟨xm1 (n := 184) rfl rfl, List.forall_mem_cons.mpr ⟨xm1 (n := 186) rfl rfl, List.forall_mem_cons.mpr ⟨xm1 (n := 188) rfl rfl, List.forall_mem_cons.mpr ⟨xm1 (n := 190) rfl rfl, List.forall_mem_cons.mpr ⟨xm1 (n := 192) rfl rfl, fun _ h => nomatch h⟩⟩⟩⟩⟩⟩⟩⟩⟩
theorem xin4 : ∀ w ∈ u_ws RX4 TX4 2, w ∈ xAll := List.forall_mem_cons.mpr ⟨xm2 (n := 82) rfl rfl, List.forall_mem_cons.mpr ⟨xm2 (n := 84) rfl rfl, fun _ h => nomatch h⟩⟩
theorem xin5 : ∀ w ∈ u_ws RX5 TX5 9, w ∈ xAll := List.forall_mem_cons.mpr ⟨xm1 (n := 135) rfl rfl, List.forall_mem_cons.mpr ⟨xm1 (n := 137) rfl rfl, List.forall_mem_cons.mpr ⟨xm1 (n := 139) rfl rfl, List.forall_mem_cons.mpr ⟨xm1 (n := 141) rfl rfl, List.forall_mem_cons.mpr ⟨xm1 (n := 143) rfl rfl, List.forall_mem_cons.mpr ⟨xm1 (n := 145) rfl rfl, List.forall_mem_cons.mpr ⟨xm1 (n := 147) rfl rfl, List.forall_mem_cons.mpr ⟨xm1 (n := 149) rfl rfl, List.forall_mem_cons.mpr ⟨xm1 (n := 151) rfl rfl, fun _ h => nomatch h⟩⟩⟩⟩⟩⟩⟩⟩⟩
theorem xin6 : ∀ w ∈ u_ws RX6 TX6 4, w ∈ xAll := List.forall_mem_cons.mpr ⟨xm2 (n := 43) rfl rfl, List.forall_mem_cons.mpr ⟨xm2 (n := 45) rfl rfl, List.forall_mem_cons.mpr ⟨xm2 (n := 47) rfl rfl, List.forall_mem_cons.mpr ⟨xm2 (n := 49) rfl rfl, fun _ h => nomatch h⟩⟩⟩⟩
theorem xin7 : ∀ w ∈ u_ws RX7 TX7 6, w ∈ xAll := List.forall_mem_cons.mpr ⟨xm2 (n := 62) rfl rfl, List.forall_mem_cons.mpr ⟨xm2 (n := 64) rfl rfl, List.forall_mem_cons.mpr ⟨xm2 (n := 66) rfl rfl, List.forall_mem_cons.mpr ⟨xm2 (n := 68) rfl rfl, List.forall_mem_cons.mpr ⟨xm2 (n := 70) rfl rfl, List.forall_mem_cons.mpr ⟨xm2 (n := 72) rfl rfl, fun _ h => nomatch h⟩⟩⟩⟩⟩⟩
theorem xin8 : ∀ w ∈ u_ws RX8 TX8 2, w ∈ xAll := List.forall_mem_cons.mpr ⟨xm2 (n := 29) rfl rfl, List.forall_mem_cons.mpr ⟨xm2 (n := 31) rfl rfl, fun _ h => nomatch h⟩⟩
theorem xin9 : ∀ w ∈ u_ws RX9 TX9 2, w ∈ xAll := List.forall_mem_cons.mpr ⟨xm1 (n := 230) rfl rfl, List.forall_mem_cons.mpr ⟨xm1 (n := 232) rfl rfl, fun _ h => nomatch h⟩⟩
theorem xin10 : ∀ w ∈ u_ws RX10 TX10 6, w ∈ xAll := List.forall_mem_cons.mpr ⟨xm2 (n := 8) rfl rfl, List.forall_mem_cons.mpr ⟨xm2 (n := 10) rfl rfl, List.forall_mem_cons.mpr ⟨xm2 (n := 12) rfl rfl, List.forall_mem_cons.mpr ⟨xm2 (n := 14) rfl rfl, List.forall_mem_cons.mpr ⟨xm2 (n := 16) rfl rfl, List.forall_mem_cons.mpr ⟨xm2 (n := 18) rfl rfl, fun _ h => nomatch h⟩⟩⟩⟩⟩⟩
theorem xin11 : ∀ w ∈ u_ws RX11 TX11 10, w ∈ xAll := List.forall_mem_cons.mpr ⟨xm3 (n := 74) rfl rfl, List.forall_mem_cons.mpr ⟨xm3 (n := 76) rfl rfl, List.forall_mem_cons.mpr ⟨xm3 (n := 78) rfl rfl, List.forall_mem_cons.mpr ⟨xm3 (n := 80) rfl rfl, List.forall_mem_cons.mpr ⟨xm3 (n := 82) rfl rfl, List.forall_mem_cons.mpr ⟨xm3 (n := 84) rfl rfl, List.forall_mem_cons.mpr ⟨xm3 (n := 86) rfl rfl, List.forall_mem_cons.mpr ⟨xm3 (n := 88) rfl rfl, List.forall_mem_cons.mpr ⟨xm3 (n := 90) rfl rfl, List.forall_mem_cons.mpr ⟨xm3 (n := 92) rfl rfl, fun _ h => nomatch h⟩⟩⟩⟩⟩⟩⟩⟩⟩⟩
theorem xin12 : ∀ w ∈ u_ws RX12 TX12 5, w ∈ xAll := List.forall_mem_cons.mpr ⟨xm4 (n := 129) rfl rfl, List.forall_mem_cons.mpr ⟨xm4 (n := 131) rfl rfl, List.forall_mem_cons.mpr ⟨xm4 (n := 133) rfl rfl, List.forall_mem_cons.mpr ⟨xm4 (n := 135) rfl rfl, List.forall_mem_cons.mpr ⟨xm4 (n := 137) rfl rfl, fun _ h => nomatch h⟩⟩⟩⟩⟩
theorem xin13 : ∀ w ∈ u_ws RL TL 13, w ∈ xAll := List.forall_mem_cons.mpr ⟨xm3 (n := 144) rfl rfl, List.forall_mem_cons.mpr ⟨xm3 (n := 146) rfl rfl, List.forall_mem_cons.mpr ⟨xm3 (n := 148) rfl rfl, List.forall_mem_cons.mpr ⟨xm3 (n := 150) rfl rfl, List.forall_mem_cons.mpr ⟨xm3 (n := 152) rfl rfl, List.forall_mem_cons.mpr ⟨xm3 (n := 154) rfl rfl, List.forall_mem_cons.mpr ⟨xm3 (n := 156) rfl rfl, List.forall_mem_cons.mpr ⟨xm3 (n := 158) rfl rfl, List.forall_mem_cons.mpr ⟨xm3 (n := 160) rfl rfl, List.forall_mem_cons.mpr ⟨xm3 (n := 162) rfl rfl, List.forall_mem_cons.mpr ⟨xm3 (n := 164) rfl rfl, List.forall_mem_cons.mpr ⟨xm3 (n := 166) rfl rfl, List.forall_mem_cons.mpr ⟨xm3 (n := 168) rfl rfl, fun _ h => nomatch h⟩⟩⟩⟩⟩⟩⟩⟩⟩⟩⟩⟩⟩
theorem xin14 : ∀ w ∈ u_ws RJ0 TJ0 4, w ∈ xAll := List.forall_mem_cons.mpr ⟨xm4 (n := 207) rfl rfl, List.forall_mem_cons.mpr ⟨xm4 (n := 209) rfl rfl, List.forall_mem_cons.mpr ⟨xm4 (n := 211) rfl rfl, List.forall_mem_cons.mpr ⟨xm4 (n := 213) rfl rfl, fun _ h => nomatch h⟩⟩⟩⟩
theorem xin15 : ∀ w ∈ u_ws RJ4 TJ4 4, w ∈ xAll := List.forall_mem_cons.mpr ⟨xm4 (n := 64) rfl rfl, List.forall_mem_cons.mpr ⟨xm4 (n := 66) rfl rfl, List.forall_mem_cons.mpr ⟨xm4 (n := 68) rfl rfl, List.forall_mem_cons.mpr ⟨xm4 (n := 70) rfl rfl, fun _ h => nomatch h⟩⟩⟩⟩
theorem xin16 : ∀ w ∈ u_ws RJx4a65c TJx4a65c 3, w ∈ xAll := List.forall_mem_cons.mpr ⟨xm3 (n := 128) rfl rfl, List.forall_mem_cons.mpr ⟨xm3 (n := 124) rfl rfl, List.forall_mem_cons.mpr ⟨xm3 (n := 126) rfl rfl, fun _ h => nomatch h⟩⟩⟩
theorem xCl : ∀ (ci : Nat) (r : vw_C), vwCl[ci]? = some r → (∀ w ∈ u_ws r.1 r.2.1 r.2.2, w ∈ xAll) ∧ (∀ k, k < r.2.2 → parseFieldDescriptor (r.2.1 k).2.2.1 = some (xCT ci k)) ∧ (∀ a, a < r.2.2 → ∀ b, b < r.2.2 → a ≠ b → (r.2.1 a).2.1 ≠ (r.2.1 b).2.1) := by
  intro ci r h
  have hl : ci < 17 := (List.getElem?_eq_some_iff.mp h).1
  rcases (show ci = 0 ∨ ci = 1 ∨ ci = 2 ∨ ci = 3 ∨ ci = 4 ∨ ci = 5 ∨ ci = 6 ∨ ci = 7 ∨ ci = 8 ∨ ci = 9 ∨ ci = 10 ∨ ci = 11 ∨ ci = 12 ∨ ci = 13 ∨ ci = 14 ∨ ci = 15 ∨ ci = 16 by omega) with rfl | rfl | rfl | rfl | rfl | rfl | rfl | rfl | rfl | rfl | rfl | rfl | rfl | rfl | rfl | rfl | rfl
  · cases h; exact ⟨xin0, tyX0_ok, nmX0⟩
  · cases h; exact ⟨xin1, tyX1_ok, nmX1⟩
  · cases h; exact ⟨xin2, tyX2_ok, nmX2⟩
  · cases h; exact ⟨xin3, tyX3_ok, nmX3⟩
  · cases h; exact ⟨xin4, tyX4_ok, nmX4⟩
  · cases h; exact ⟨xin5, tyX5_ok, nmX5⟩
  · cases h; exact ⟨xin6, tyX6_ok, nmX6⟩
  · cases h; exact ⟨xin7, tyX7_ok, nmX7⟩
  · cases h; exact ⟨xin8, tyX8_ok, nmX8⟩
  · cases h; exact ⟨xin9, tyX9_ok, nmX9⟩
  · cases h; exact ⟨xin10, tyX10_ok, nmX10⟩
  · cases h; exact ⟨xin11, tyX11_ok, nmX11⟩
  · cases h; exact ⟨xin12, tyX12_ok, nmX12⟩
  · cases h; exact ⟨xin13, tyL_ok, nmL⟩
  · cases h; exact ⟨xin14, tyJ0_ok, nmJ0⟩
  · cases h; exact ⟨xin15, tyJ4_ok, nmJ4⟩
  · cases h; exact ⟨xin16, tyJx4a65c_ok, nmJx4a65c⟩
def xFT : List (Nat × Nat × Nat × Nat) := [(11, 10, 11, 0), (11, 16, 11, 1), (11, 19, 11, 2), (11, 25, 11, 3), (11, 32, 11, 4), (11, 41, 11, 5), (11, 50, 11, 6), (11, 57, 11, 7), (11, 66, 11, 8), (11, 73, 11, 9), (11, 100, 9, 0), (11, 122, 10, 0), (11, 148, 3, 0), (11, 151, 3, 1), (11, 154, 3, 5), (11, 158, 0, 0), (11, 169, 0, 3), (11, 178, 3, 6), (11, 201, 1, 2), (11, 207, 1, 3), (11, 210, 1, 4), (11, 225, 3, 7), (11, 229, 5, 0), (11, 235, 5, 4), (11, 238, 5, 5), (11, 239, 5, 6), (11, 240, 5, 8), (11, 258, 3, 2), (11, 261, 5, 1), (11, 264, 5, 2), (11, 267, 5, 3), (11, 270, 3, 3), (11, 273, 3, 4), (0, 9, 0, 0), (0, 15, 0, 1), (0, 18, 0, 2), (0, 21, 0, 3), (1, 9, 1, 1), (1, 15, 1, 2), (1, 18, 1, 3), (1, 21, 1, 4), (1, 24, 1, 0), (2, 11, 2, 2), (2, 17, 2, 3), (2, 20, 2, 4), (2, 24, 2, 1), (2, 28, 2, 0), (3, 12, 3, 5), (3, 21, 3, 6), (3, 28, 3, 7), (3, 32, 3, 8), (3, 36, 3, 0), (3, 40, 3, 1), (3, 43, 3, 2), (3, 46, 3, 3), (3, 49, 3, 4), (3, 81, 1, 0), (3, 87, 1, 1), (3, 117, 1, 2), (3, 126, 0, 0), (3, 129, 0, 1), (3, 132, 0, 2), (4, 9, 4, 1), (5, 9, 5, 4), (5, 15, 5, 5), (5, 18, 5, 6), (5, 21, 5, 7), (5, 24, 5, 8), (5, 27, 5, 0), (5, 31, 5, 1), (5, 34, 5, 2), (5, 37, 5, 3), (5, 57, 1, 2), (5, 60, 1, 3), (5, 61, 1, 4), (6, 9, 6, 1), (6, 15, 6, 2), (6, 18, 6, 3), (7, 9, 7, 4), (7, 15, 7, 5), (7, 18, 7, 0), (7, 22, 7, 1), (8, 9, 8, 0), (8, 15, 8, 1), (8, 24, 3, 6), (8, 30, 1, 0), (8, 36, 3, 2), (8, 70, 3, 3), (8, 83, 3, 1), (8, 86, 3, 5), (8, 90, 0, 0), (8, 95, 0, 1), (8, 98, 0, 2), (8, 101, 0, 3), (9, 9, 9, 1), (9, 15, 9, 0), (10, 9, 10, 1), (10, 15, 10, 2), (10, 19, 10, 0), (10, 22, 10, 5), (10, 28, 10, 4), (10, 35, 9, 0), (10, 51, 10, 3), (13, 10, 13, 0), (13, 38, 13, 6), (13, 42, 13, 8), (13, 54, 13, 7), (13, 57, 13, 5), (13, 63, 13, 4), (13, 69, 13, 1), (13, 81, 13, 2), (13, 85, 13, 9), (13, 88, 13, 3), (13, 91, 13, 10), (13, 162, 13, 11), (13, 273, 13, 12), (12, 7, 12, 0), (12, 13, 12, 1), (12, 16, 12, 2), (12, 29, 12, 3), (12, 32, 12, 4), (19, 15, 15, 0), (19, 22, 15, 1), (19, 79, 15, 3), (14, 9, 14, 0), (14, 15, 14, 1), (14, 1048, 15, 2), (23, 7, 16, 0), (16, 9, 16, 1), (16, 48, 16, 2)]
def xFok (q : Nat × Nat × Nat × Nat) : Prop := ∃ r, vwCl[q.2.2.1]? = some r ∧ q.2.2.2 < r.2.2 ∧ Cond.fieldLink (xCn q.1) q.2.1 (r.2.1 q.2.2.2).1 (r.2.1 q.2.2.2).2.1 (r.2.1 q.2.2.2).2.2.1 ∈ xAll
theorem xf0 : xFok (11, 10, 11, 0) := ⟨_, rfl, Nat.le_of_ble_eq_true rfl, xm3 (n := 64) rfl rfl⟩
theorem xf1 : xFok (11, 16, 11, 1) := ⟨_, rfl, Nat.le_of_ble_eq_true rfl, xm3 (n := 65) rfl rfl⟩
theorem xf2 : xFok (11, 19, 11, 2) := ⟨_, rfl, Nat.le_of_ble_eq_true rfl, xm3 (n := 66) rfl rfl⟩
theorem xf3 : xFok (11, 25, 11, 3) := ⟨_, rfl, Nat.le_of_ble_eq_true rfl, xm3 (n := 67) rfl rfl⟩
theorem xf4 : xFok (11, 32, 11, 4) := ⟨_, rfl, Nat.le_of_ble_eq_true rfl, xm3 (n := 68) rfl rfl⟩
theorem xf5 : xFok (11, 41, 11, 5) := ⟨_, rfl, Nat.le_of_ble_eq_true rfl, xm3 (n := 69) rfl rfl⟩
theorem xf6 : xFok (11, 50, 11, 6) := ⟨_, rfl, Nat.le_of_ble_eq_true rfl, xm3 (n := 70) rfl rfl⟩
theorem xf7 : xFok (11, 57, 11, 7) := ⟨_, rfl, Nat.le_of_ble_eq_true rfl, xm3 (n := 71) rfl rfl⟩
theorem xf8 : xFok (11, 66, 11, 8) := ⟨_, rfl, Nat.le_of_ble_eq_true rfl, xm3 (n := 72) rfl rfl⟩
theorem xf9 : xFok (11, 73, 11, 9) := ⟨_, rfl, Nat.le_of_ble_eq_true rfl, xm3 (n := 73) rfl rfl⟩
theorem xf10 : xFok (11, 100, 9, 0) := ⟨_, rfl, Nat.le_of_ble_eq_true rfl, xm1 (n := 227) rfl rfl⟩
theorem xf11 : xFok (11, 122, 10, 0) := ⟨_, rfl, Nat.le_of_ble_eq_true rfl, xm2 (n := 2) rfl rfl⟩
theorem xf12 : xFok (11, 148, 3, 0) := ⟨_, rfl, Nat.le_of_ble_eq_true rfl, xm1 (n := 155) rfl rfl⟩
theorem xf13 : xFok (11, 151, 3, 1) := ⟨_, rfl, Nat.le_of_ble_eq_true rfl, xm1 (n := 158) rfl rfl⟩
theorem xf14 : xFok (11, 154, 3, 5) := ⟨_, rfl, Nat.le_of_ble_eq_true rfl, xm1 (n := 169) rfl rfl⟩
theorem xf15 : xFok (11, 158, 0, 0) := ⟨_, rfl, Nat.le_of_ble_eq_true rfl, xm1 (n := 60) rfl rfl⟩
theorem xf16 : xFok (11, 169, 0, 3) := ⟨_, rfl, Nat.le_of_ble_eq_true rfl, xm1 (n := 69) rfl rfl⟩
theorem xf17 : xFok (11, 178, 3, 6) := ⟨_, rfl, Nat.le_of_ble_eq_true rfl, xm1 (n := 172) rfl rfl⟩
theorem xf18 : xFok (11, 201, 1, 2) := ⟨_, rfl, Nat.le_of_ble_eq_true rfl, xm1 (n := 93) rfl rfl⟩
theorem xf19 : xFok (11, 207, 1, 3) := ⟨_, rfl, Nat.le_of_ble_eq_true rfl, xm1 (n := 96) rfl rfl⟩
theorem xf20 : xFok (11, 210, 1, 4) := ⟨_, rfl, Nat.le_of_ble_eq_true rfl, xm1 (n := 99) rfl rfl⟩
theorem xf21 : xFok (11, 225, 3, 7) := ⟨_, rfl, Nat.le_of_ble_eq_true rfl, xm1 (n := 174) rfl rfl⟩
theorem xf22 : xFok (11, 229, 5, 0) := ⟨_, rfl, Nat.le_of_ble_eq_true rfl, xm1 (n := 119) rfl rfl⟩
theorem xf23 : xFok (11, 235, 5, 4) := ⟨_, rfl, Nat.le_of_ble_eq_true rfl, xm1 (n := 127) rfl rfl⟩
theorem xf24 : xFok (11, 238, 5, 5) := ⟨_, rfl, Nat.le_of_ble_eq_true rfl, xm1 (n := 129) rfl rfl⟩
theorem xf25 : xFok (11, 239, 5, 6) := ⟨_, rfl, Nat.le_of_ble_eq_true rfl, xm1 (n := 131) rfl rfl⟩
theorem xf26 : xFok (11, 240, 5, 8) := ⟨_, rfl, Nat.le_of_ble_eq_true rfl, xm1 (n := 134) rfl rfl⟩
theorem xf27 : xFok (11, 258, 3, 2) := ⟨_, rfl, Nat.le_of_ble_eq_true rfl, xm1 (n := 161) rfl rfl⟩
theorem xf28 : xFok (11, 261, 5, 1) := ⟨_, rfl, Nat.le_of_ble_eq_true rfl, xm1 (n := 121) rfl rfl⟩
theorem xf29 : xFok (11, 264, 5, 2) := ⟨_, rfl, Nat.le_of_ble_eq_true rfl, xm1 (n := 123) rfl rfl⟩
theorem xf30 : xFok (11, 267, 5, 3) := ⟨_, rfl, Nat.le_of_ble_eq_true rfl, xm1 (n := 125) rfl rfl⟩
theorem xf31 : xFok (11, 270, 3, 3) := ⟨_, rfl, Nat.le_of_ble_eq_true rfl, xm1 (n := 164) rfl rfl⟩
theorem xf32 : xFok (11, 273, 3, 4) := ⟨_, rfl, Nat.le_of_ble_eq_true rfl, xm1 (n := 166) rfl rfl⟩
theorem xf33 : xFok (0, 9, 0, 0) := ⟨_, rfl, Nat.le_of_ble_eq_true rfl, xm1 (n := 57) rfl rfl⟩
theorem xf34 : xFok (0, 15, 0, 1) := ⟨_, rfl, Nat.le_of_ble_eq_true rfl, xm1 (n := 61) rfl rfl⟩
theorem xf35 : xFok (0, 18, 0, 2) := ⟨_, rfl, Nat.le_of_ble_eq_true rfl, xm1 (n := 64) rfl rfl⟩
theorem xf36 : xFok (0, 21, 0, 3) := ⟨_, rfl, Nat.le_of_ble_eq_true rfl, xm1 (n := 67) rfl rfl⟩
theorem xf37 : xFok (1, 9, 1, 1) := ⟨_, rfl, Nat.le_of_ble_eq_true rfl, xm1 (n := 88) rfl rfl⟩
theorem xf38 : xFok (1, 15, 1, 2) := ⟨_, rfl, Nat.le_of_ble_eq_true rfl, xm1 (n := 90) rfl rfl⟩
theorem xf39 : xFok (1, 18, 1, 3) := ⟨_, rfl, Nat.le_of_ble_eq_true rfl, xm1 (n := 94) rfl rfl⟩
theorem xf40 : xFok (1, 21, 1, 4) := ⟨_, rfl, Nat.le_of_ble_eq_true rfl, xm1 (n := 97) rfl rfl⟩
theorem xf41 : xFok (1, 24, 1, 0) := ⟨_, rfl, Nat.le_of_ble_eq_true rfl, xm1 (n := 85) rfl rfl⟩
theorem xf42 : xFok (2, 11, 2, 2) := ⟨_, rfl, Nat.le_of_ble_eq_true rfl, xm1 (n := 205) rfl rfl⟩
theorem xf43 : xFok (2, 17, 2, 3) := ⟨_, rfl, Nat.le_of_ble_eq_true rfl, xm1 (n := 206) rfl rfl⟩
theorem xf44 : xFok (2, 20, 2, 4) := ⟨_, rfl, Nat.le_of_ble_eq_true rfl, xm1 (n := 207) rfl rfl⟩
theorem xf45 : xFok (2, 24, 2, 1) := ⟨_, rfl, Nat.le_of_ble_eq_true rfl, xm1 (n := 204) rfl rfl⟩
theorem xf46 : xFok (2, 28, 2, 0) := ⟨_, rfl, Nat.le_of_ble_eq_true rfl, xm1 (n := 203) rfl rfl⟩
theorem xf47 : xFok (3, 12, 3, 5) := ⟨_, rfl, Nat.le_of_ble_eq_true rfl, xm1 (n := 167) rfl rfl⟩
theorem xf48 : xFok (3, 21, 3, 6) := ⟨_, rfl, Nat.le_of_ble_eq_true rfl, xm1 (n := 170) rfl rfl⟩
theorem xf49 : xFok (3, 28, 3, 7) := ⟨_, rfl, Nat.le_of_ble_eq_true rfl, xm1 (n := 173) rfl rfl⟩
theorem xf50 : xFok (3, 32, 3, 8) := ⟨_, rfl, Nat.le_of_ble_eq_true rfl, xm1 (n := 175) rfl rfl⟩
theorem xf51 : xFok (3, 36, 3, 0) := ⟨_, rfl, Nat.le_of_ble_eq_true rfl, xm1 (n := 154) rfl rfl⟩
theorem xf52 : xFok (3, 40, 3, 1) := ⟨_, rfl, Nat.le_of_ble_eq_true rfl, xm1 (n := 156) rfl rfl⟩
theorem xf53 : xFok (3, 43, 3, 2) := ⟨_, rfl, Nat.le_of_ble_eq_true rfl, xm1 (n := 159) rfl rfl⟩
theorem xf54 : xFok (3, 46, 3, 3) := ⟨_, rfl, Nat.le_of_ble_eq_true rfl, xm1 (n := 162) rfl rfl⟩
theorem xf55 : xFok (3, 49, 3, 4) := ⟨_, rfl, Nat.le_of_ble_eq_true rfl, xm1 (n := 165) rfl rfl⟩
theorem xf56 : xFok (3, 81, 1, 0) := ⟨_, rfl, Nat.le_of_ble_eq_true rfl, xm1 (n := 87) rfl rfl⟩
theorem xf57 : xFok (3, 87, 1, 1) := ⟨_, rfl, Nat.le_of_ble_eq_true rfl, xm1 (n := 89) rfl rfl⟩
theorem xf58 : xFok (3, 117, 1, 2) := ⟨_, rfl, Nat.le_of_ble_eq_true rfl, xm1 (n := 92) rfl rfl⟩
theorem xf59 : xFok (3, 126, 0, 0) := ⟨_, rfl, Nat.le_of_ble_eq_true rfl, xm1 (n := 59) rfl rfl⟩
theorem xf60 : xFok (3, 129, 0, 1) := ⟨_, rfl, Nat.le_of_ble_eq_true rfl, xm1 (n := 63) rfl rfl⟩
theorem xf61 : xFok (3, 132, 0, 2) := ⟨_, rfl, Nat.le_of_ble_eq_true rfl, xm1 (n := 66) rfl rfl⟩
theorem xf62 : xFok (4, 9, 4, 1) := ⟨_, rfl, Nat.le_of_ble_eq_true rfl, xm2 (n := 81) rfl rfl⟩
theorem xf63 : xFok (5, 9, 5, 4) := ⟨_, rfl, Nat.le_of_ble_eq_true rfl, xm1 (n := 126) rfl rfl⟩
theorem xf64 : xFok (5, 15, 5, 5) := ⟨_, rfl, Nat.le_of_ble_eq_true rfl, xm1 (n := 128) rfl rfl⟩
theorem xf65 : xFok (5, 18, 5, 6) := ⟨_, rfl, Nat.le_of_ble_eq_true rfl, xm1 (n := 130) rfl rfl⟩
theorem xf66 : xFok (5, 21, 5, 7) := ⟨_, rfl, Nat.le_of_ble_eq_true rfl, xm1 (n := 132) rfl rfl⟩
theorem xf67 : xFok (5, 24, 5, 8) := ⟨_, rfl, Nat.le_of_ble_eq_true rfl, xm1 (n := 133) rfl rfl⟩
theorem xf68 : xFok (5, 27, 5, 0) := ⟨_, rfl, Nat.le_of_ble_eq_true rfl, xm1 (n := 118) rfl rfl⟩
theorem xf69 : xFok (5, 31, 5, 1) := ⟨_, rfl, Nat.le_of_ble_eq_true rfl, xm1 (n := 120) rfl rfl⟩
theorem xf70 : xFok (5, 34, 5, 2) := ⟨_, rfl, Nat.le_of_ble_eq_true rfl, xm1 (n := 122) rfl rfl⟩
theorem xf71 : xFok (5, 37, 5, 3) := ⟨_, rfl, Nat.le_of_ble_eq_true rfl, xm1 (n := 124) rfl rfl⟩
theorem xf72 : xFok (5, 57, 1, 2) := ⟨_, rfl, Nat.le_of_ble_eq_true rfl, xm1 (n := 91) rfl rfl⟩
theorem xf73 : xFok (5, 60, 1, 3) := ⟨_, rfl, Nat.le_of_ble_eq_true rfl, xm1 (n := 95) rfl rfl⟩
theorem xf74 : xFok (5, 61, 1, 4) := ⟨_, rfl, Nat.le_of_ble_eq_true rfl, xm1 (n := 98) rfl rfl⟩
theorem xf75 : xFok (6, 9, 6, 1) := ⟨_, rfl, Nat.le_of_ble_eq_true rfl, xm2 (n := 40) rfl rfl⟩
theorem xf76 : xFok (6, 15, 6, 2) := ⟨_, rfl, Nat.le_of_ble_eq_true rfl, xm2 (n := 41) rfl rfl⟩
theorem xf77 : xFok (6, 18, 6, 3) := ⟨_, rfl, Nat.le_of_ble_eq_true rfl, xm2 (n := 42) rfl rfl⟩
theorem xf78 : xFok (7, 9, 7, 4) := ⟨_, rfl, Nat.le_of_ble_eq_true rfl, xm2 (n := 60) rfl rfl⟩
theorem xf79 : xFok (7, 15, 7, 5) := ⟨_, rfl, Nat.le_of_ble_eq_true rfl, xm2 (n := 61) rfl rfl⟩
theorem xf80 : xFok (7, 18, 7, 0) := ⟨_, rfl, Nat.le_of_ble_eq_true rfl, xm2 (n := 58) rfl rfl⟩
theorem xf81 : xFok (7, 22, 7, 1) := ⟨_, rfl, Nat.le_of_ble_eq_true rfl, xm2 (n := 59) rfl rfl⟩
theorem xf82 : xFok (8, 9, 8, 0) := ⟨_, rfl, Nat.le_of_ble_eq_true rfl, xm2 (n := 27) rfl rfl⟩
theorem xf83 : xFok (8, 15, 8, 1) := ⟨_, rfl, Nat.le_of_ble_eq_true rfl, xm2 (n := 28) rfl rfl⟩
theorem xf84 : xFok (8, 24, 3, 6) := ⟨_, rfl, Nat.le_of_ble_eq_true rfl, xm1 (n := 171) rfl rfl⟩
theorem xf85 : xFok (8, 30, 1, 0) := ⟨_, rfl, Nat.le_of_ble_eq_true rfl, xm1 (n := 86) rfl rfl⟩
theorem xf86 : xFok (8, 36, 3, 2) := ⟨_, rfl, Nat.le_of_ble_eq_true rfl, xm1 (n := 160) rfl rfl⟩
theorem xf87 : xFok (8, 70, 3, 3) := ⟨_, rfl, Nat.le_of_ble_eq_true rfl, xm1 (n := 163) rfl rfl⟩
theorem xf88 : xFok (8, 83, 3, 1) := ⟨_, rfl, Nat.le_of_ble_eq_true rfl, xm1 (n := 157) rfl rfl⟩
theorem xf89 : xFok (8, 86, 3, 5) := ⟨_, rfl, Nat.le_of_ble_eq_true rfl, xm1 (n := 168) rfl rfl⟩
theorem xf90 : xFok (8, 90, 0, 0) := ⟨_, rfl, Nat.le_of_ble_eq_true rfl, xm1 (n := 58) rfl rfl⟩
theorem xf91 : xFok (8, 95, 0, 1) := ⟨_, rfl, Nat.le_of_ble_eq_true rfl, xm1 (n := 62) rfl rfl⟩
theorem xf92 : xFok (8, 98, 0, 2) := ⟨_, rfl, Nat.le_of_ble_eq_true rfl, xm1 (n := 65) rfl rfl⟩
theorem xf93 : xFok (8, 101, 0, 3) := ⟨_, rfl, Nat.le_of_ble_eq_true rfl, xm1 (n := 68) rfl rfl⟩
theorem xf94 : xFok (9, 9, 9, 1) := ⟨_, rfl, Nat.le_of_ble_eq_true rfl, xm1 (n := 229) rfl rfl⟩
theorem xf95 : xFok (9, 15, 9, 0) := ⟨_, rfl, Nat.le_of_ble_eq_true rfl, xm1 (n := 226) rfl rfl⟩
theorem xf96 : xFok (10, 9, 10, 1) := ⟨_, rfl, Nat.le_of_ble_eq_true rfl, xm2 (n := 3) rfl rfl⟩
theorem xf97 : xFok (10, 15, 10, 2) := ⟨_, rfl, Nat.le_of_ble_eq_true rfl, xm2 (n := 4) rfl rfl⟩
theorem xf98 : xFok (10, 19, 10, 0) := ⟨_, rfl, Nat.le_of_ble_eq_true rfl, xm2 (n := 1) rfl rfl⟩
theorem xf99 : xFok (10, 22, 10, 5) := ⟨_, rfl, Nat.le_of_ble_eq_true rfl, xm2 (n := 7) rfl rfl⟩
theorem xf100 : xFok (10, 28, 10, 4) := ⟨_, rfl, Nat.le_of_ble_eq_true rfl, xm2 (n := 6) rfl rfl⟩
theorem xf101 : xFok (10, 35, 9, 0) := ⟨_, rfl, Nat.le_of_ble_eq_true rfl, xm1 (n := 228) rfl rfl⟩
theorem xf102 : xFok (10, 51, 10, 3) := ⟨_, rfl, Nat.le_of_ble_eq_true rfl, xm2 (n := 5) rfl rfl⟩
theorem xf103 : xFok (13, 10, 13, 0) := ⟨_, rfl, Nat.le_of_ble_eq_true rfl, xm3 (n := 131) rfl rfl⟩
theorem xf104 : xFok (13, 38, 13, 6) := ⟨_, rfl, Nat.le_of_ble_eq_true rfl, xm3 (n := 137) rfl rfl⟩
theorem xf105 : xFok (13, 42, 13, 8) := ⟨_, rfl, Nat.le_of_ble_eq_true rfl, xm3 (n := 139) rfl rfl⟩
theorem xf106 : xFok (13, 54, 13, 7) := ⟨_, rfl, Nat.le_of_ble_eq_true rfl, xm3 (n := 138) rfl rfl⟩
theorem xf107 : xFok (13, 57, 13, 5) := ⟨_, rfl, Nat.le_of_ble_eq_true rfl, xm3 (n := 136) rfl rfl⟩
theorem xf108 : xFok (13, 63, 13, 4) := ⟨_, rfl, Nat.le_of_ble_eq_true rfl, xm3 (n := 135) rfl rfl⟩
theorem xf109 : xFok (13, 69, 13, 1) := ⟨_, rfl, Nat.le_of_ble_eq_true rfl, xm3 (n := 132) rfl rfl⟩
theorem xf110 : xFok (13, 81, 13, 2) := ⟨_, rfl, Nat.le_of_ble_eq_true rfl, xm3 (n := 133) rfl rfl⟩
theorem xf111 : xFok (13, 85, 13, 9) := ⟨_, rfl, Nat.le_of_ble_eq_true rfl, xm3 (n := 140) rfl rfl⟩
theorem xf112 : xFok (13, 88, 13, 3) := ⟨_, rfl, Nat.le_of_ble_eq_true rfl, xm3 (n := 134) rfl rfl⟩
theorem xf113 : xFok (13, 91, 13, 10) := ⟨_, rfl, Nat.le_of_ble_eq_true rfl, xm3 (n := 141) rfl rfl⟩
theorem xf114 : xFok (13, 162, 13, 11) := ⟨_, rfl, Nat.le_of_ble_eq_true rfl, xm3 (n := 142) rfl rfl⟩
theorem xf115 : xFok (13, 273, 13, 12) := ⟨_, rfl, Nat.le_of_ble_eq_true rfl, xm3 (n := 143) rfl rfl⟩
theorem xf116 : xFok (12, 7, 12, 0) := ⟨_, rfl, Nat.le_of_ble_eq_true rfl, xm4 (n := 119) rfl rfl⟩
theorem xf117 : xFok (12, 13, 12, 1) := ⟨_, rfl, Nat.le_of_ble_eq_true rfl, xm4 (n := 121) rfl rfl⟩
theorem xf118 : xFok (12, 16, 12, 2) := ⟨_, rfl, Nat.le_of_ble_eq_true rfl, xm4 (n := 123) rfl rfl⟩
theorem xf119 : xFok (12, 29, 12, 3) := ⟨_, rfl, Nat.le_of_ble_eq_true rfl, xm4 (n := 125) rfl rfl⟩
theorem xf120 : xFok (12, 32, 12, 4) := ⟨_, rfl, Nat.le_of_ble_eq_true rfl, xm4 (n := 127) rfl rfl⟩
theorem xf121 : xFok (19, 15, 15, 0) := ⟨_, rfl, Nat.le_of_ble_eq_true rfl, xm4 (n := 60) rfl rfl⟩
theorem xf122 : xFok (19, 22, 15, 1) := ⟨_, rfl, Nat.le_of_ble_eq_true rfl, xm4 (n := 61) rfl rfl⟩
theorem xf123 : xFok (19, 79, 15, 3) := ⟨_, rfl, Nat.le_of_ble_eq_true rfl, xm4 (n := 63) rfl rfl⟩
theorem xf124 : xFok (14, 9, 14, 0) := ⟨_, rfl, Nat.le_of_ble_eq_true rfl, xm4 (n := 205) rfl rfl⟩
theorem xf125 : xFok (14, 15, 14, 1) := ⟨_, rfl, Nat.le_of_ble_eq_true rfl, xm4 (n := 206) rfl rfl⟩
theorem xf126 : xFok (14, 1048, 15, 2) := ⟨_, rfl, Nat.le_of_ble_eq_true rfl, xm4 (n := 62) rfl rfl⟩
theorem xf127 : xFok (23, 7, 16, 0) := ⟨_, rfl, Nat.le_of_ble_eq_true rfl, xm3 (n := 121) rfl rfl⟩
theorem xf128 : xFok (16, 9, 16, 1) := ⟨_, rfl, Nat.le_of_ble_eq_true rfl, xm3 (n := 119) rfl rfl⟩
theorem xf129 : xFok (16, 48, 16, 2) := ⟨_, rfl, Nat.le_of_ble_eq_true rfl, xm3 (n := 120) rfl rfl⟩
theorem xFT_ok : ∀ q ∈ xFT, xFok q := List.forall_mem_cons.mpr ⟨xf0, List.forall_mem_cons.mpr ⟨xf1, List.forall_mem_cons.mpr ⟨xf2, List.forall_mem_cons.mpr ⟨xf3, List.forall_mem_cons.mpr ⟨xf4, List.forall_mem_cons.mpr ⟨xf5, List.forall_mem_cons.mpr ⟨xf6, List.forall_mem_cons.mpr ⟨xf7, List.forall_mem_cons.mpr ⟨xf8, List.forall_mem_cons.mpr ⟨xf9, List.forall_mem_cons.mpr ⟨xf10, List.forall_mem_cons.mpr ⟨xf11, List.forall_mem_cons.mpr ⟨xf12, List.forall_mem_cons.mpr ⟨xf13, List.forall_mem_cons.mpr ⟨xf14, List.forall_mem_cons.mpr ⟨xf15, List.forall_mem_cons.mpr ⟨xf16, List.forall_mem_cons.mpr ⟨xf17, List.forall_mem_cons.mpr ⟨xf18, List.forall_mem_cons.mpr ⟨xf19, List.forall_mem_cons.mpr ⟨xf20, List.forall_mem_cons.mpr ⟨xf21, List.forall_mem_cons.mpr ⟨xf22, List.forall_mem_cons.mpr ⟨xf23, List.forall_mem_cons.mpr ⟨xf24, List.forall_mem_cons.mpr ⟨xf25, List.forall_mem_cons.mpr ⟨xf26, List.forall_mem_cons.mpr ⟨xf27, List.forall_mem_cons.mpr ⟨xf28, List.forall_mem_cons.mpr ⟨xf29, List.forall_mem_cons.mpr ⟨xf30, List.forall_mem_cons.mpr ⟨xf31, List.forall_mem_cons.mpr ⟨xf32, List.forall_mem_cons.mpr ⟨xf33, List.forall_mem_cons.mpr ⟨xf34, List.forall_mem_cons.mpr ⟨xf35, List.forall_mem_cons.mpr ⟨xf36, List.forall_mem_cons.mpr ⟨xf37, List.forall_mem_cons.mpr ⟨xf38, List.forall_mem_cons.mpr ⟨xf39, List.forall_mem_cons.mpr ⟨xf40, List.forall_mem_cons.mpr ⟨xf41, List.forall_mem_cons.mpr ⟨xf42, List.forall_mem_cons.mpr ⟨xf43, List.forall_mem_cons.mpr ⟨xf44, List.forall_mem_cons.mpr ⟨xf45, List.forall_mem_cons.mpr ⟨xf46, List.forall_mem_cons.mpr ⟨xf47, List.forall_mem_cons.mpr ⟨xf48, List.forall_mem_cons.mpr ⟨xf49, List.forall_mem_cons.mpr ⟨xf50, List.forall_mem_cons.mpr ⟨xf51, List.forall_mem_cons.mpr ⟨xf52, List.forall_mem_cons.mpr ⟨xf53, List.forall_mem_cons.mpr ⟨xf54, List.forall_mem_cons.mpr ⟨xf55, List.forall_mem_cons.mpr ⟨xf56, List.forall_mem_cons.mpr ⟨xf57, List.forall_mem_cons.mpr ⟨xf58, List.forall_mem_cons.mpr ⟨xf59, List.forall_mem_cons.mpr ⟨xf60, List.forall_mem_cons.mpr ⟨xf61, List.forall_mem_cons.mpr ⟨xf62, List.forall_mem_cons.mpr ⟨xf63, List.forall_mem_cons.mpr ⟨xf64, List.forall_mem_cons.mpr ⟨xf65, List.forall_mem_cons.mpr ⟨xf66, List.forall_mem_cons.mpr ⟨xf67, List.forall_mem_cons.mpr ⟨xf68, List.forall_mem_cons.mpr ⟨xf69, List.forall_mem_cons.mpr ⟨xf70, List.forall_mem_cons.mpr ⟨xf71, List.forall_mem_cons.mpr ⟨xf72, List.forall_mem_cons.mpr ⟨xf73, List.forall_mem_cons.mpr ⟨xf74, List.forall_mem_cons.mpr ⟨xf75, List.forall_mem_cons.mpr ⟨xf76, List.forall_mem_cons.mpr ⟨xf77, List.forall_mem_cons.mpr ⟨xf78, List.forall_mem_cons.mpr ⟨xf79, List.forall_mem_cons.mpr ⟨xf80, List.forall_mem_cons.mpr ⟨xf81, List.forall_mem_cons.mpr ⟨xf82, List.forall_mem_cons.mpr ⟨xf83, List.forall_mem_cons.mpr ⟨xf84, List.forall_mem_cons.mpr ⟨xf85, List.forall_mem_cons.mpr ⟨xf86, List.forall_mem_cons.mpr ⟨xf87, List.forall_mem_cons.mpr ⟨xf88, List.forall_mem_cons.mpr ⟨xf89, List.forall_mem_cons.mpr ⟨xf90, List.forall_mem_cons.mpr ⟨xf91, List.forall_mem_cons.mpr ⟨xf92, List.forall_mem_cons.mpr ⟨xf93, List.forall_mem_cons.mpr ⟨xf94, List.forall_mem_cons.mpr ⟨xf95, List.forall_mem_cons.mpr ⟨xf96, List.forall_mem_cons.mpr ⟨xf97, List.forall_mem_cons.mpr ⟨xf98, List.forall_mem_cons.mpr ⟨xf99, List.forall_mem_cons.mpr ⟨xf100, List.forall_mem_cons.mpr ⟨xf101, List.forall_mem_cons.mpr ⟨xf102, List.forall_mem_cons.mpr ⟨xf103, List.forall_mem_cons.mpr ⟨xf104, List.forall_mem_cons.mpr ⟨xf105, List.forall_mem_cons.mpr ⟨xf106, List.forall_mem_cons.mpr ⟨xf107, List.forall_mem_cons.mpr ⟨xf108, List.forall_mem_cons.mpr ⟨xf109, List.forall_mem_cons.mpr ⟨xf110, List.forall_mem_cons.mpr ⟨xf111, List.forall_mem_cons.mpr ⟨xf112, List.forall_mem_cons.mpr ⟨xf113, List.forall_mem_cons.mpr ⟨xf114, List.forall_mem_cons.mpr ⟨xf115, List.forall_mem_cons.mpr ⟨xf116, List.forall_mem_cons.mpr ⟨xf117, List.forall_mem_cons.mpr ⟨xf118, List.forall_mem_cons.mpr ⟨xf119, List.forall_mem_cons.mpr ⟨xf120, List.forall_mem_cons.mpr ⟨xf121, List.forall_mem_cons.mpr ⟨xf122, List.forall_mem_cons.mpr ⟨xf123, List.forall_mem_cons.mpr ⟨xf124, List.forall_mem_cons.mpr ⟨xf125, List.forall_mem_cons.mpr ⟨xf126, List.forall_mem_cons.mpr ⟨xf127, List.forall_mem_cons.mpr ⟨xf128, List.forall_mem_cons.mpr ⟨xf129, fun _ h => nomatch h⟩⟩⟩⟩⟩⟩⟩⟩⟩⟩⟩⟩⟩⟩⟩⟩⟩⟩⟩⟩⟩⟩⟩⟩⟩⟩⟩⟩⟩⟩⟩⟩⟩⟩⟩⟩⟩⟩⟩⟩⟩⟩⟩⟩⟩⟩⟩⟩⟩⟩⟩⟩⟩⟩⟩⟩⟩⟩⟩⟩⟩⟩⟩⟩⟩⟩⟩⟩⟩⟩⟩⟩⟩⟩⟩⟩⟩⟩⟩⟩⟩⟩⟩⟩⟩⟩⟩⟩⟩⟩⟩⟩⟩⟩⟩⟩⟩⟩⟩⟩⟩⟩⟩⟩⟩⟩⟩⟩⟩⟩⟩⟩⟩⟩⟩⟩⟩⟩⟩⟩⟩⟩⟩⟩⟩⟩⟩⟩⟩⟩
abbrev xM : Type := MethodName × ByteArray × Nat × Option FieldType × Nat
def xMok (y : xM) : Prop := Cond.code y.1 y.2.1 y.2.2.1 y.2.2.2.1 ∈ xAll ∧ Cond.initialized y.1.cls ∈ xAll ∧ y.1.cls = xCn y.2.2.2.2 ∧ plainName y.1.cls = true ∧ (y.1.cls ≠ "java/lang/invoke/MethodHandle" ∧ y.1.cls ≠ "java/lang/invoke/VarHandle")
def xVok (y : xM) : Prop := Cond.instanceMethod y.1 ∈ xAll ∧ Cond.selects y.1.cls y.1 y.1 ∈ xAll
theorem xpl0 : plainName RX0 = true ∧ (RX0 ≠ "java/lang/invoke/MethodHandle" ∧ RX0 ≠ "java/lang/invoke/VarHandle") := by decide +kernel
theorem xpl1 : plainName RX1 = true ∧ (RX1 ≠ "java/lang/invoke/MethodHandle" ∧ RX1 ≠ "java/lang/invoke/VarHandle") := by decide +kernel
theorem xpl2 : plainName RX2 = true ∧ (RX2 ≠ "java/lang/invoke/MethodHandle" ∧ RX2 ≠ "java/lang/invoke/VarHandle") := by decide +kernel
theorem xpl3 : plainName RX3 = true ∧ (RX3 ≠ "java/lang/invoke/MethodHandle" ∧ RX3 ≠ "java/lang/invoke/VarHandle") := by decide +kernel
theorem xpl4 : plainName RX4 = true ∧ (RX4 ≠ "java/lang/invoke/MethodHandle" ∧ RX4 ≠ "java/lang/invoke/VarHandle") := by decide +kernel
theorem xpl5 : plainName RX5 = true ∧ (RX5 ≠ "java/lang/invoke/MethodHandle" ∧ RX5 ≠ "java/lang/invoke/VarHandle") := by decide +kernel
theorem xpl6 : plainName RX6 = true ∧ (RX6 ≠ "java/lang/invoke/MethodHandle" ∧ RX6 ≠ "java/lang/invoke/VarHandle") := by decide +kernel
theorem xpl7 : plainName RX7 = true ∧ (RX7 ≠ "java/lang/invoke/MethodHandle" ∧ RX7 ≠ "java/lang/invoke/VarHandle") := by decide +kernel
theorem xpl8 : plainName RX8 = true ∧ (RX8 ≠ "java/lang/invoke/MethodHandle" ∧ RX8 ≠ "java/lang/invoke/VarHandle") := by decide +kernel
theorem xpl9 : plainName RX9 = true ∧ (RX9 ≠ "java/lang/invoke/MethodHandle" ∧ RX9 ≠ "java/lang/invoke/VarHandle") := by decide +kernel
theorem xpl10 : plainName RX10 = true ∧ (RX10 ≠ "java/lang/invoke/MethodHandle" ∧ RX10 ≠ "java/lang/invoke/VarHandle") := by decide +kernel
theorem xpl11 : plainName RX11 = true ∧ (RX11 ≠ "java/lang/invoke/MethodHandle" ∧ RX11 ≠ "java/lang/invoke/VarHandle") := by decide +kernel
theorem xpl12 : plainName RX12 = true ∧ (RX12 ≠ "java/lang/invoke/MethodHandle" ∧ RX12 ≠ "java/lang/invoke/VarHandle") := by decide +kernel
theorem xpl13 : plainName RL = true ∧ (RL ≠ "java/lang/invoke/MethodHandle" ∧ RL ≠ "java/lang/invoke/VarHandle") := by decide +kernel
theorem xpl14 : plainName RJ0 = true ∧ (RJ0 ≠ "java/lang/invoke/MethodHandle" ∧ RJ0 ≠ "java/lang/invoke/VarHandle") := by decide +kernel
theorem xpl15 : plainName RJ4 = true ∧ (RJ4 ≠ "java/lang/invoke/MethodHandle" ∧ RJ4 ≠ "java/lang/invoke/VarHandle") := by decide +kernel
theorem xpl16 : plainName RJx4a65c = true ∧ (RJx4a65c ≠ "java/lang/invoke/MethodHandle" ∧ RJx4a65c ≠ "java/lang/invoke/VarHandle") := by decide +kernel
theorem xpl17 : plainName RJ1 = true ∧ (RJ1 ≠ "java/lang/invoke/MethodHandle" ∧ RJ1 ≠ "java/lang/invoke/VarHandle") := by decide +kernel
theorem xpl18 : plainName RJ3 = true ∧ (RJ3 ≠ "java/lang/invoke/MethodHandle" ∧ RJ3 ≠ "java/lang/invoke/VarHandle") := by decide +kernel
theorem xpl19 : plainName RJ5 = true ∧ (RJ5 ≠ "java/lang/invoke/MethodHandle" ∧ RJ5 ≠ "java/lang/invoke/VarHandle") := by decide +kernel
theorem xpl20 : plainName RJ6 = true ∧ (RJ6 ≠ "java/lang/invoke/MethodHandle" ∧ RJ6 ≠ "java/lang/invoke/VarHandle") := by decide +kernel
theorem xpl21 : plainName RJ7 = true ∧ (RJ7 ≠ "java/lang/invoke/MethodHandle" ∧ RJ7 ≠ "java/lang/invoke/VarHandle") := by decide +kernel
theorem xpl22 : plainName RJ8 = true ∧ (RJ8 ≠ "java/lang/invoke/MethodHandle" ∧ RJ8 ≠ "java/lang/invoke/VarHandle") := by decide +kernel
theorem xpl23 : plainName RJxc12de = true ∧ (RJxc12de ≠ "java/lang/invoke/MethodHandle" ∧ RJxc12de ≠ "java/lang/invoke/VarHandle") := by decide +kernel
theorem xpl24 : plainName RJxa1e45 = true ∧ (RJxa1e45 ≠ "java/lang/invoke/MethodHandle" ∧ RJxa1e45 ≠ "java/lang/invoke/VarHandle") := by decide +kernel
theorem xpl25 : plainName RJ15 = true ∧ (RJ15 ≠ "java/lang/invoke/MethodHandle" ∧ RJ15 ≠ "java/lang/invoke/VarHandle") := by decide +kernel
def mX0_init : xM := (yX0_init, cX0_init, 1, none, 0)
theorem oX0_init : xMok mX0_init := ⟨xm1 (n := 55) rfl rfl, xm1 (n := 3) rfl rfl, rfl, xpl0.1, xpl0.2⟩
theorem vX0_init : Cond.instanceMethod mX0_init.1 ∈ xAll := xm1 (n := 54) rfl rfl
def mX0_copyFrom : xM := (yX0_copyFrom, cX0_copyFrom, 2, none, 0)
theorem oX0_copyFrom : xMok mX0_copyFrom := ⟨xm3 (n := 43) rfl rfl, xm1 (n := 3) rfl rfl, rfl, xpl0.1, xpl0.2⟩
theorem vX0_copyFrom : xVok mX0_copyFrom := ⟨xm3 (n := 41) rfl rfl, xm3 (n := 42) rfl rfl⟩
def mX0_clockwiseSteps : xM := (yX0_clockwiseSteps, cX0_clockwiseSteps, 1, (some .int), 0)
theorem oX0_clockwiseSteps : xMok mX0_clockwiseSteps := ⟨xm3 (n := 22) rfl rfl, xm1 (n := 3) rfl rfl, rfl, xpl0.1, xpl0.2⟩
theorem vX0_clockwiseSteps : xVok mX0_clockwiseSteps := ⟨xm3 (n := 20) rfl rfl, xm3 (n := 21) rfl rfl⟩
def mX0_offset : xM := (yX0_offset, cX0_offset, 2, (some .int), 0)
theorem oX0_offset : xMok mX0_offset := ⟨xm3 (n := 18) rfl rfl, xm1 (n := 3) rfl rfl, rfl, xpl0.1, xpl0.2⟩
theorem vX0_offset : xVok mX0_offset := ⟨xm3 (n := 16) rfl rfl, xm3 (n := 17) rfl rfl⟩
def mX0_pull : xM := (yX0_pull, cX0_pull, 3, (some .int), 0)
theorem oX0_pull : xMok mX0_pull := ⟨xm3 (n := 14) rfl rfl, xm1 (n := 3) rfl rfl, rfl, xpl0.1, xpl0.2⟩
theorem vX0_pull : xVok mX0_pull := ⟨xm3 (n := 12) rfl rfl, xm3 (n := 13) rfl rfl⟩
def mX0_turnVane : xM := (yX0_turnVane, cX0_turnVane, 3, (some .int), 0)
theorem oX0_turnVane : xMok mX0_turnVane := ⟨xm7 (n := 102) rfl rfl, xm1 (n := 3) rfl rfl, rfl, xpl0.1, xpl0.2⟩
theorem vX0_turnVane : xVok mX0_turnVane := ⟨xm7 (n := 100) rfl rfl, xm7 (n := 101) rfl rfl⟩
def mX1_init : xM := (yX1_init, cX1_init, 1, none, 1)
theorem oX1_init : xMok mX1_init := ⟨xm1 (n := 83) rfl rfl, xm1 (n := 4) rfl rfl, rfl, xpl1.1, xpl1.2⟩
theorem vX1_init : Cond.instanceMethod mX1_init.1 ∈ xAll := xm1 (n := 82) rfl rfl
def mX1_copyFrom : xM := (yX1_copyFrom, cX1_copyFrom, 2, none, 1)
theorem oX1_copyFrom : xMok mX1_copyFrom := ⟨xm3 (n := 47) rfl rfl, xm1 (n := 4) rfl rfl, rfl, xpl1.1, xpl1.2⟩
theorem vX1_copyFrom : xVok mX1_copyFrom := ⟨xm3 (n := 45) rfl rfl, xm3 (n := 46) rfl rfl⟩
def mX1_addFloor : xM := (yX1_addFloor, cX1_addFloor, 2, none, 1)
theorem oX1_addFloor : xMok mX1_addFloor := ⟨xm2 (n := 218) rfl rfl, xm1 (n := 4) rfl rfl, rfl, xpl1.1, xpl1.2⟩
theorem vX1_addFloor : xVok mX1_addFloor := ⟨xm2 (n := 216) rfl rfl, xm2 (n := 217) rfl rfl⟩
def mX1_exists : xM := (yX1_exists, cX1_exists, 2, (some .boolean), 1)
theorem oX1_exists : xMok mX1_exists := ⟨xm3 (n := 2) rfl rfl, xm1 (n := 4) rfl rfl, rfl, xpl1.1, xpl1.2⟩
theorem vX1_exists : xVok mX1_exists := ⟨xm3 (n := 0) rfl rfl, xm3 (n := 1) rfl rfl⟩
def mX1_isTaken : xM := (yX1_isTaken, cX1_isTaken, 2, (some .boolean), 1)
theorem oX1_isTaken : xMok mX1_isTaken := ⟨xm2 (n := 229) rfl rfl, xm1 (n := 4) rfl rfl, rfl, xpl1.1, xpl1.2⟩
theorem vX1_isTaken : xVok mX1_isTaken := ⟨xm2 (n := 227) rfl rfl, xm2 (n := 228) rfl rfl⟩
def mX1_holdsDryLoad : xM := (yX1_holdsDryLoad, cX1_holdsDryLoad, 2, (some .boolean), 1)
theorem oX1_holdsDryLoad : xMok mX1_holdsDryLoad := ⟨xm5 (n := 204) rfl rfl, xm1 (n := 4) rfl rfl, rfl, xpl1.1, xpl1.2⟩
theorem vX1_holdsDryLoad : xVok mX1_holdsDryLoad := ⟨xm5 (n := 202) rfl rfl, xm5 (n := 203) rfl rfl⟩
def mX1_place : xM := (yX1_place, cX1_place, 4, none, 1)
theorem oX1_place : xMok mX1_place := ⟨xm2 (n := 238) rfl rfl, xm1 (n := 4) rfl rfl, rfl, xpl1.1, xpl1.2⟩
theorem vX1_place : xVok mX1_place := ⟨xm2 (n := 236) rfl rfl, xm2 (n := 237) rfl rfl⟩
def mX1_moveDown : xM := (yX1_moveDown, cX1_moveDown, 2, none, 1)
theorem oX1_moveDown : xMok mX1_moveDown := ⟨xm7 (n := 5) rfl rfl, xm1 (n := 4) rfl rfl, rfl, xpl1.1, xpl1.2⟩
theorem vX1_moveDown : xVok mX1_moveDown := ⟨xm7 (n := 3) rfl rfl, xm7 (n := 4) rfl rfl⟩
def mX1_coolingBy : xM := (yX1_coolingBy, cX1_coolingBy, 2, (some .int), 1)
theorem oX1_coolingBy : xMok mX1_coolingBy := ⟨xm3 (n := 34) rfl rfl, xm1 (n := 4) rfl rfl, rfl, xpl1.1, xpl1.2⟩
theorem vX1_coolingBy : xVok mX1_coolingBy := ⟨xm3 (n := 32) rfl rfl, xm3 (n := 33) rfl rfl⟩
def mX1_decrease : xM := (yX1_decrease, cX1_decrease, 5, (some .int), 1)
theorem oX1_decrease : xMok mX1_decrease := ⟨xm5 (n := 239) rfl rfl, xm1 (n := 4) rfl rfl, rfl, xpl1.1, xpl1.2⟩
theorem vX1_decrease : xVok mX1_decrease := ⟨xm5 (n := 237) rfl rfl, xm5 (n := 238) rfl rfl⟩
def mX1_dryLoad : xM := (yX1_dryLoad, cX1_dryLoad, 4, none, 1)
theorem oX1_dryLoad : xMok mX1_dryLoad := ⟨xm7 (n := 110) rfl rfl, xm1 (n := 4) rfl rfl, rfl, xpl1.1, xpl1.2⟩
theorem vX1_dryLoad : xVok mX1_dryLoad := ⟨xm7 (n := 108) rfl rfl, xm7 (n := 109) rfl rfl⟩
def mX1_countTaken : xM := (yX1_countTaken, cX1_countTaken, 3, (some .int), 1)
theorem oX1_countTaken : xMok mX1_countTaken := ⟨xm6 (n := 166) rfl rfl, xm1 (n := 4) rfl rfl, rfl, xpl1.1, xpl1.2⟩
theorem vX1_countTaken : xVok mX1_countTaken := ⟨xm6 (n := 164) rfl rfl, xm6 (n := 165) rfl rfl⟩
def mX1_sumOfMasses : xM := (yX1_sumOfMasses, cX1_sumOfMasses, 3, (some .int), 1)
theorem oX1_sumOfMasses : xMok mX1_sumOfMasses := ⟨xm5 (n := 100) rfl rfl, xm1 (n := 4) rfl rfl, rfl, xpl1.1, xpl1.2⟩
theorem vX1_sumOfMasses : xVok mX1_sumOfMasses := ⟨xm5 (n := 98) rfl rfl, xm5 (n := 99) rfl rfl⟩
def mX2_init : xM := (yX2_init, cX2_init, 1, none, 2)
theorem oX2_init : xMok mX2_init := ⟨xm1 (n := 199) rfl rfl, xm1 (n := 6) rfl rfl, rfl, xpl2.1, xpl2.2⟩
theorem vX2_init : Cond.instanceMethod mX2_init.1 ∈ xAll := xm1 (n := 198) rfl rfl
def mX2_record : xM := (yX2_record, cX2_record, 3, none, 2)
theorem oX2_record : xMok mX2_record := ⟨xm6 (n := 154) rfl rfl, xm1 (n := 6) rfl rfl, rfl, xpl2.1, xpl2.2⟩
theorem vX2_record : xVok mX2_record := ⟨xm6 (n := 152) rfl rfl, xm6 (n := 153) rfl rfl⟩
def mX2_forgetChanges : xM := (yX2_forgetChanges, cX2_forgetChanges, 1, none, 2)
theorem oX2_forgetChanges : xMok mX2_forgetChanges := ⟨xm3 (n := 59) rfl rfl, xm1 (n := 6) rfl rfl, rfl, xpl2.1, xpl2.2⟩
theorem vX2_forgetChanges : xVok mX2_forgetChanges := ⟨xm3 (n := 57) rfl rfl, xm3 (n := 58) rfl rfl⟩
def mX2_emptySlots : xM := (yX2_emptySlots, cX2_emptySlots, 2, none, 2)
theorem oX2_emptySlots : xMok mX2_emptySlots := ⟨xm3 (n := 63) rfl rfl, xm1 (n := 6) rfl rfl, rfl, xpl2.1, xpl2.2⟩
theorem vX2_emptySlots : xVok mX2_emptySlots := ⟨xm3 (n := 61) rfl rfl, xm3 (n := 62) rfl rfl⟩
def mX3_init : xM := (yX3_init, cX3_init, 1, none, 3)
theorem oX3_init : xMok mX3_init := ⟨xm1 (n := 49) rfl rfl, xm1 (n := 2) rfl rfl, rfl, xpl3.1, xpl3.2⟩
theorem vX3_init : Cond.instanceMethod mX3_init.1 ∈ xAll := xm1 (n := 48) rfl rfl
def mX3_copyFrom : xM := (yX3_copyFrom, cX3_copyFrom, 2, none, 3)
theorem oX3_copyFrom : xMok mX3_copyFrom := ⟨xm3 (n := 39) rfl rfl, xm1 (n := 2) rfl rfl, rfl, xpl3.1, xpl3.2⟩
theorem vX3_copyFrom : xVok mX3_copyFrom := ⟨xm3 (n := 37) rfl rfl, xm3 (n := 38) rfl rfl⟩
def mX3_warmth : xM := (yX3_warmth, cX3_warmth, 5, (some .int), 3)
theorem oX3_warmth : xMok mX3_warmth := ⟨xm3 (n := 30) rfl rfl, xm1 (n := 2) rfl rfl, rfl, xpl3.1, xpl3.2⟩
theorem vX3_warmth : xVok mX3_warmth := ⟨xm3 (n := 28) rfl rfl, xm3 (n := 29) rfl rfl⟩
def mX3_temperature : xM := (yX3_temperature, cX3_temperature, 4, (some .int), 3)
theorem oX3_temperature : xMok mX3_temperature := ⟨xm3 (n := 26) rfl rfl, xm1 (n := 2) rfl rfl, rfl, xpl3.1, xpl3.2⟩
theorem vX3_temperature : xVok mX3_temperature := ⟨xm3 (n := 24) rfl rfl, xm3 (n := 25) rfl rfl⟩
def mX3_temperatureNow : xM := (yX3_temperatureNow, cX3_temperatureNow, 2, (some .int), 3)
theorem oX3_temperatureNow : xMok mX3_temperatureNow := ⟨xm5 (n := 120) rfl rfl, xm1 (n := 2) rfl rfl, rfl, xpl3.1, xpl3.2⟩
theorem vX3_temperatureNow : xVok mX3_temperatureNow := ⟨xm5 (n := 118) rfl rfl, xm5 (n := 119) rfl rfl⟩
def mX3_dryingNow : xM := (yX3_dryingNow, cX3_dryingNow, 3, (some .int), 3)
theorem oX3_dryingNow : xMok mX3_dryingNow := ⟨xm5 (n := 235) rfl rfl, xm1 (n := 2) rfl rfl, rfl, xpl3.1, xpl3.2⟩
theorem vX3_dryingNow : xVok mX3_dryingNow := ⟨xm5 (n := 233) rfl rfl, xm5 (n := 234) rfl rfl⟩
def mX3_countTooHot : xM := (yX3_countTooHot, cX3_countTooHot, 3, (some .int), 3)
theorem oX3_countTooHot : xMok mX3_countTooHot := ⟨xm5 (n := 116) rfl rfl, xm1 (n := 2) rfl rfl, rfl, xpl3.1, xpl3.2⟩
theorem vX3_countTooHot : xVok mX3_countTooHot := ⟨xm5 (n := 114) rfl rfl, xm5 (n := 115) rfl rfl⟩
def mX3_countWarmthBreaks : xM := (yX3_countWarmthBreaks, cX3_countWarmthBreaks, 5, (some .int), 3)
theorem oX3_countWarmthBreaks : xMok mX3_countWarmthBreaks := ⟨xm5 (n := 127) rfl rfl, xm1 (n := 2) rfl rfl, rfl, xpl3.1, xpl3.2⟩
theorem vX3_countWarmthBreaks : xVok mX3_countWarmthBreaks := ⟨xm5 (n := 125) rfl rfl, xm5 (n := 126) rfl rfl⟩
def mX3_damp : xM := (yX3_damp, cX3_damp, 4, none, 3)
theorem oX3_damp : xMok mX3_damp := ⟨xm3 (n := 10) rfl rfl, xm1 (n := 2) rfl rfl, rfl, xpl3.1, xpl3.2⟩
theorem vX3_damp : xVok mX3_damp := ⟨xm3 (n := 8) rfl rfl, xm3 (n := 9) rfl rfl⟩
def mX3_place : xM := (yX3_place, cX3_place, 4, none, 3)
theorem oX3_place : xMok mX3_place := ⟨xm2 (n := 234) rfl rfl, xm1 (n := 2) rfl rfl, rfl, xpl3.1, xpl3.2⟩
theorem vX3_place : xVok mX3_place := ⟨xm2 (n := 232) rfl rfl, xm2 (n := 233) rfl rfl⟩
def mX3_canPut : xM := (yX3_canPut, cX3_canPut, 1, (some .boolean), 3)
theorem oX3_canPut : xMok mX3_canPut := ⟨xm6 (n := 149) rfl rfl, xm1 (n := 2) rfl rfl, rfl, xpl3.1, xpl3.2⟩
theorem vX3_canPut : xVok mX3_canPut := ⟨xm6 (n := 147) rfl rfl, xm6 (n := 148) rfl rfl⟩
def mX3_putOnTop : xM := (yX3_putOnTop, cX3_putOnTop, 3, none, 3)
theorem oX3_putOnTop : xMok mX3_putOnTop := ⟨xm6 (n := 160) rfl rfl, xm1 (n := 2) rfl rfl, rfl, xpl3.1, xpl3.2⟩
theorem vX3_putOnTop : xVok mX3_putOnTop := ⟨xm6 (n := 158) rfl rfl, xm6 (n := 159) rfl rfl⟩
def mX3_obstacle : xM := (yX3_obstacle, cX3_obstacle, 2, (some .int), 3)
theorem oX3_obstacle : xMok mX3_obstacle := ⟨xm5 (n := 199) rfl rfl, xm1 (n := 2) rfl rfl, rfl, xpl3.1, xpl3.2⟩
theorem vX3_obstacle : xVok mX3_obstacle := ⟨xm5 (n := 197) rfl rfl, xm5 (n := 198) rfl rfl⟩
def mX3_moveOrPack : xM := (yX3_moveOrPack, cX3_moveOrPack, 2, none, 3)
theorem oX3_moveOrPack : xMok mX3_moveOrPack := ⟨xm7 (n := 1) rfl rfl, xm1 (n := 2) rfl rfl, rfl, xpl3.1, xpl3.2⟩
theorem vX3_moveOrPack : xVok mX3_moveOrPack := ⟨xm7 (n := 0) rfl rfl, xm0 (n := 17) rfl rfl⟩
def mX3_lowerOne : xM := (yX3_lowerOne, cX3_lowerOne, 2, none, 3)
theorem oX3_lowerOne : xMok mX3_lowerOne := ⟨xm6 (n := 237) rfl rfl, xm1 (n := 2) rfl rfl, rfl, xpl3.1, xpl3.2⟩
theorem vX3_lowerOne : xVok mX3_lowerOne := ⟨xm6 (n := 235) rfl rfl, xm6 (n := 236) rfl rfl⟩
def mX3_lowerAll : xM := (yX3_lowerAll, cX3_lowerAll, 3, (some .int), 3)
theorem oX3_lowerAll : xMok mX3_lowerAll := ⟨xm7 (n := 18) rfl rfl, xm1 (n := 2) rfl rfl, rfl, xpl3.1, xpl3.2⟩
theorem vX3_lowerAll : xVok mX3_lowerAll := ⟨xm7 (n := 16) rfl rfl, xm7 (n := 17) rfl rfl⟩
def mX3_stoke : xM := (yX3_stoke, cX3_stoke, 2, none, 3)
theorem oX3_stoke : xMok mX3_stoke := ⟨xm7 (n := 28) rfl rfl, xm1 (n := 2) rfl rfl, rfl, xpl3.1, xpl3.2⟩
theorem vX3_stoke : xVok mX3_stoke := ⟨xm7 (n := 26) rfl rfl, xm7 (n := 27) rfl rfl⟩
def mX3_shiftGear : xM := (yX3_shiftGear, cX3_shiftGear, 2, none, 3)
theorem oX3_shiftGear : xMok mX3_shiftGear := ⟨xm7 (n := 37) rfl rfl, xm1 (n := 2) rfl rfl, rfl, xpl3.1, xpl3.2⟩
theorem vX3_shiftGear : xVok mX3_shiftGear := ⟨xm7 (n := 35) rfl rfl, xm7 (n := 36) rfl rfl⟩
def mX3_changeWind : xM := (yX3_changeWind, cX3_changeWind, 3, none, 3)
theorem oX3_changeWind : xMok mX3_changeWind := ⟨xm7 (n := 46) rfl rfl, xm1 (n := 2) rfl rfl, rfl, xpl3.1, xpl3.2⟩
theorem vX3_changeWind : xVok mX3_changeWind := ⟨xm7 (n := 44) rfl rfl, xm7 (n := 45) rfl rfl⟩
def mX3_canWait : xM := (yX3_canWait, cX3_canWait, 2, (some .boolean), 3)
theorem oX3_canWait : xMok mX3_canWait := ⟨xm7 (n := 93) rfl rfl, xm1 (n := 2) rfl rfl, rfl, xpl3.1, xpl3.2⟩
theorem vX3_canWait : xVok mX3_canWait := ⟨xm7 (n := 91) rfl rfl, xm7 (n := 92) rfl rfl⟩
def mX3_passMinutes : xM := (yX3_passMinutes, cX3_passMinutes, 4, (some .int), 3)
theorem oX3_passMinutes : xMok mX3_passMinutes := ⟨xm7 (n := 98) rfl rfl, xm1 (n := 2) rfl rfl, rfl, xpl3.1, xpl3.2⟩
theorem vX3_passMinutes : xVok mX3_passMinutes := ⟨xm7 (n := 96) rfl rfl, xm7 (n := 97) rfl rfl⟩
def mX3_dryLoads : xM := (yX3_dryLoads, cX3_dryLoads, 3, none, 3)
theorem oX3_dryLoads : xMok mX3_dryLoads := ⟨xm7 (n := 106) rfl rfl, xm1 (n := 2) rfl rfl, rfl, xpl3.1, xpl3.2⟩
theorem vX3_dryLoads : xVok mX3_dryLoads := ⟨xm7 (n := 105) rfl rfl, xm0 (n := 19) rfl rfl⟩
def mX4_init : xM := (yX4_init, cX4_init, 1, none, 4)
theorem oX4_init : xMok mX4_init := ⟨xm2 (n := 79) rfl rfl, xm1 (n := 12) rfl rfl, rfl, xpl4.1, xpl4.2⟩
theorem vX4_init : Cond.instanceMethod mX4_init.1 ∈ xAll := xm2 (n := 78) rfl rfl
def mX5_init : xM := (yX5_init, cX5_init, 1, none, 5)
theorem oX5_init : xMok mX5_init := ⟨xm1 (n := 116) rfl rfl, xm1 (n := 5) rfl rfl, rfl, xpl5.1, xpl5.2⟩
theorem vX5_init : Cond.instanceMethod mX5_init.1 ∈ xAll := xm1 (n := 115) rfl rfl
def mX5_copyFrom : xM := (yX5_copyFrom, cX5_copyFrom, 2, none, 5)
theorem oX5_copyFrom : xMok mX5_copyFrom := ⟨xm3 (n := 54) rfl rfl, xm1 (n := 5) rfl rfl, rfl, xpl5.1, xpl5.2⟩
theorem vX5_copyFrom : xVok mX5_copyFrom := ⟨xm3 (n := 52) rfl rfl, xm3 (n := 53) rfl rfl⟩
def mX5_exists : xM := (yX5_exists, cX5_exists, 2, (some .boolean), 5)
theorem oX5_exists : xMok mX5_exists := ⟨xm6 (n := 61) rfl rfl, xm1 (n := 5) rfl rfl, rfl, xpl5.1, xpl5.2⟩
theorem vX5_exists : xVok mX5_exists := ⟨xm6 (n := 59) rfl rfl, xm6 (n := 60) rfl rfl⟩
def mX5_isStored : xM := (yX5_isStored, cX5_isStored, 2, (some .boolean), 5)
theorem oX5_isStored : xMok mX5_isStored := ⟨xm5 (n := 112) rfl rfl, xm1 (n := 5) rfl rfl, rfl, xpl5.1, xpl5.2⟩
theorem vX5_isStored : xVok mX5_isStored := ⟨xm5 (n := 110) rfl rfl, xm5 (n := 111) rfl rfl⟩
def mX5_smoulders : xM := (yX5_smoulders, cX5_smoulders, 2, (some .boolean), 5)
theorem oX5_smoulders : xMok mX5_smoulders := ⟨xm6 (n := 82) rfl rfl, xm1 (n := 5) rfl rfl, rfl, xpl5.1, xpl5.2⟩
theorem vX5_smoulders : xVok mX5_smoulders := ⟨xm6 (n := 80) rfl rfl, xm6 (n := 81) rfl rfl⟩
def mX5_canSell : xM := (yX5_canSell, cX5_canSell, 2, (some .boolean), 5)
theorem oX5_canSell : xMok mX5_canSell := ⟨xm7 (n := 63) rfl rfl, xm1 (n := 5) rfl rfl, rfl, xpl5.1, xpl5.2⟩
theorem vX5_canSell : xVok mX5_canSell := ⟨xm7 (n := 61) rfl rfl, xm7 (n := 62) rfl rfl⟩
def mX5_isFull : xM := (yX5_isFull, cX5_isFull, 1, (some .boolean), 5)
theorem oX5_isFull : xMok mX5_isFull := ⟨xm5 (n := 209) rfl rfl, xm1 (n := 5) rfl rfl, rfl, xpl5.1, xpl5.2⟩
theorem vX5_isFull : xVok mX5_isFull := ⟨xm5 (n := 207) rfl rfl, xm5 (n := 208) rfl rfl⟩
def mX5_pack : xM := (yX5_pack, cX5_pack, 3, none, 5)
theorem oX5_pack : xMok mX5_pack := ⟨xm7 (n := 9) rfl rfl, xm1 (n := 5) rfl rfl, rfl, xpl5.1, xpl5.2⟩
theorem vX5_pack : xVok mX5_pack := ⟨xm7 (n := 7) rfl rfl, xm7 (n := 8) rfl rfl⟩
def mX5_quality : xM := (yX5_quality, cX5_quality, 4, (some .int), 5)
theorem oX5_quality : xMok mX5_quality := ⟨xm6 (n := 94) rfl rfl, xm1 (n := 5) rfl rfl, rfl, xpl5.1, xpl5.2⟩
theorem vX5_quality : xVok mX5_quality := ⟨xm6 (n := 92) rfl rfl, xm6 (n := 93) rfl rfl⟩
def mX5_price : xM := (yX5_price, cX5_price, 2, (some .int), 5)
theorem oX5_price : xMok mX5_price := ⟨xm6 (n := 108) rfl rfl, xm1 (n := 5) rfl rfl, rfl, xpl5.1, xpl5.2⟩
theorem vX5_price : xVok mX5_price := ⟨xm6 (n := 106) rfl rfl, xm6 (n := 107) rfl rfl⟩
def mX5_giveAway : xM := (yX5_giveAway, cX5_giveAway, 2, none, 5)
theorem oX5_giveAway : xMok mX5_giveAway := ⟨xm7 (n := 69) rfl rfl, xm1 (n := 5) rfl rfl, rfl, xpl5.1, xpl5.2⟩
theorem vX5_giveAway : xVok mX5_giveAway := ⟨xm7 (n := 67) rfl rfl, xm7 (n := 68) rfl rfl⟩
def mX5_wet : xM := (yX5_wet, cX5_wet, 3, none, 5)
theorem oX5_wet : xMok mX5_wet := ⟨xm7 (n := 80) rfl rfl, xm1 (n := 5) rfl rfl, rfl, xpl5.1, xpl5.2⟩
theorem vX5_wet : xVok mX5_wet := ⟨xm7 (n := 78) rfl rfl, xm7 (n := 79) rfl rfl⟩
def mX5_glow : xM := (yX5_glow, cX5_glow, 3, (some .int), 5)
theorem oX5_glow : xMok mX5_glow := ⟨xm7 (n := 115) rfl rfl, xm1 (n := 5) rfl rfl, rfl, xpl5.1, xpl5.2⟩
theorem vX5_glow : xVok mX5_glow := ⟨xm7 (n := 113) rfl rfl, xm7 (n := 114) rfl rfl⟩
def mX5_warmOrCool : xM := (yX5_warmOrCool, cX5_warmOrCool, 2, none, 5)
theorem oX5_warmOrCool : xMok mX5_warmOrCool := ⟨xm7 (n := 119) rfl rfl, xm1 (n := 5) rfl rfl, rfl, xpl5.1, xpl5.2⟩
theorem vX5_warmOrCool : xVok mX5_warmOrCool := ⟨xm7 (n := 118) rfl rfl, xm0 (n := 20) rfl rfl⟩
def mX5_burn : xM := (yX5_burn, cX5_burn, 2, none, 5)
theorem oX5_burn : xMok mX5_burn := ⟨xm7 (n := 123) rfl rfl, xm1 (n := 5) rfl rfl, rfl, xpl5.1, xpl5.2⟩
theorem vX5_burn : xVok mX5_burn := ⟨xm7 (n := 122) rfl rfl, xm0 (n := 21) rfl rfl⟩
def mX5_heatUp : xM := (yX5_heatUp, cX5_heatUp, 2, none, 5)
theorem oX5_heatUp : xMok mX5_heatUp := ⟨xm7 (n := 127) rfl rfl, xm1 (n := 5) rfl rfl, rfl, xpl5.1, xpl5.2⟩
theorem vX5_heatUp : xVok mX5_heatUp := ⟨xm7 (n := 126) rfl rfl, xm0 (n := 22) rfl rfl⟩
def mX5_sumOfMasses : xM := (yX5_sumOfMasses, cX5_sumOfMasses, 3, (some .int), 5)
theorem oX5_sumOfMasses : xMok mX5_sumOfMasses := ⟨xm5 (n := 104) rfl rfl, xm1 (n := 5) rfl rfl, rfl, xpl5.1, xpl5.2⟩
theorem vX5_sumOfMasses : xVok mX5_sumOfMasses := ⟨xm5 (n := 102) rfl rfl, xm5 (n := 103) rfl rfl⟩
def mX5_sumOfMassesGone : xM := (yX5_sumOfMassesGone, cX5_sumOfMassesGone, 3, (some .int), 5)
theorem oX5_sumOfMassesGone : xMok mX5_sumOfMassesGone := ⟨xm5 (n := 108) rfl rfl, xm1 (n := 5) rfl rfl, rfl, xpl5.1, xpl5.2⟩
theorem vX5_sumOfMassesGone : xVok mX5_sumOfMassesGone := ⟨xm5 (n := 106) rfl rfl, xm5 (n := 107) rfl rfl⟩
def mX6_init : xM := (yX6_init, cX6_init, 1, none, 6)
theorem oX6_init : xMok mX6_init := ⟨xm2 (n := 38) rfl rfl, xm1 (n := 10) rfl rfl, rfl, xpl6.1, xpl6.2⟩
theorem vX6_init : Cond.instanceMethod mX6_init.1 ∈ xAll := xm2 (n := 37) rfl rfl
def mX7_init : xM := (yX7_init, cX7_init, 3, none, 7)
theorem oX7_init : xMok mX7_init := ⟨xm2 (n := 56) rfl rfl, xm1 (n := 11) rfl rfl, rfl, xpl7.1, xpl7.2⟩
theorem vX7_init : Cond.instanceMethod mX7_init.1 ∈ xAll := xm2 (n := 55) rfl rfl
def mX8_init : xM := (yX8_init, cX8_init, 3, none, 8)
theorem oX8_init : xMok mX8_init := ⟨xm2 (n := 25) rfl rfl, xm1 (n := 9) rfl rfl, rfl, xpl8.1, xpl8.2⟩
theorem vX8_init : Cond.instanceMethod mX8_init.1 ∈ xAll := xm2 (n := 24) rfl rfl
def mX8_read : xM := (yX8_read, cX8_read, 2, none, 8)
theorem oX8_read : xMok mX8_read := ⟨xm2 (n := 147) rfl rfl, xm1 (n := 9) rfl rfl, rfl, xpl8.1, xpl8.2⟩
theorem vX8_read : xVok mX8_read := ⟨xm2 (n := 145) rfl rfl, xm2 (n := 146) rfl rfl⟩
def mX8_readFireAndWind : xM := (yX8_readFireAndWind, cX8_readFireAndWind, 1, none, 8)
theorem oX8_readFireAndWind : xMok mX8_readFireAndWind := ⟨xm2 (n := 173) rfl rfl, xm1 (n := 9) rfl rfl, rfl, xpl8.1, xpl8.2⟩
theorem vX8_readFireAndWind : xVok mX8_readFireAndWind := ⟨xm2 (n := 172) rfl rfl, xm0 (n := 1) rfl rfl⟩
def mX8_readFloor : xM := (yX8_readFloor, cX8_readFloor, 2, none, 8)
theorem oX8_readFloor : xMok mX8_readFloor := ⟨xm2 (n := 211) rfl rfl, xm1 (n := 9) rfl rfl, rfl, xpl8.1, xpl8.2⟩
theorem vX8_readFloor : xVok mX8_readFloor := ⟨xm2 (n := 210) rfl rfl, xm0 (n := 2) rfl rfl⟩
def mX8_readLoad : xM := (yX8_readLoad, cX8_readLoad, 4, none, 8)
theorem oX8_readLoad : xMok mX8_readLoad := ⟨xm2 (n := 224) rfl rfl, xm1 (n := 9) rfl rfl, rfl, xpl8.1, xpl8.2⟩
theorem vX8_readLoad : xVok mX8_readLoad := ⟨xm2 (n := 223) rfl rfl, xm0 (n := 3) rfl rfl⟩
def mX9_init : xM := (yX9_init, cX9_init, 1, none, 9)
theorem oX9_init : xMok mX9_init := ⟨xm1 (n := 224) rfl rfl, xm1 (n := 7) rfl rfl, rfl, xpl9.1, xpl9.2⟩
theorem vX9_init : Cond.instanceMethod mX9_init.1 ∈ xAll := xm1 (n := 223) rfl rfl
def mX9_add : xM := (yX9_add, cX9_add, 2, none, 9)
theorem oX9_add : xMok mX9_add := ⟨xm2 (n := 139) rfl rfl, xm1 (n := 7) rfl rfl, rfl, xpl9.1, xpl9.2⟩
theorem vX9_add : xVok mX9_add := ⟨xm2 (n := 137) rfl rfl, xm2 (n := 138) rfl rfl⟩
def mX9_addFour : xM := (yX9_addFour, cX9_addFour, 4, none, 9)
theorem oX9_addFour : xMok mX9_addFour := ⟨xm5 (n := 80) rfl rfl, xm1 (n := 7) rfl rfl, rfl, xpl9.1, xpl9.2⟩
theorem vX9_addFour : xVok mX9_addFour := ⟨xm5 (n := 78) rfl rfl, xm5 (n := 79) rfl rfl⟩
def mX9_at : xM := (yX9_at, cX9_at, 2, (some .int), 9)
theorem oX9_at : xMok mX9_at := ⟨xm2 (n := 163) rfl rfl, xm1 (n := 7) rfl rfl, rfl, xpl9.1, xpl9.2⟩
theorem vX9_at : xVok mX9_at := ⟨xm2 (n := 161) rfl rfl, xm2 (n := 162) rfl rfl⟩
def mX10_init : xM := (yX10_init, cX10_init, 2, none, 10)
theorem oX10_init : xMok mX10_init := ⟨xm1 (n := 239) rfl rfl, xm1 (n := 8) rfl rfl, rfl, xpl10.1, xpl10.2⟩
theorem vX10_init : Cond.instanceMethod mX10_init.1 ∈ xAll := xm1 (n := 238) rfl rfl
def mX10_begin : xM := (yX10_begin, cX10_begin, 1, none, 10)
theorem oX10_begin : xMok mX10_begin := ⟨xm2 (n := 151) rfl rfl, xm1 (n := 8) rfl rfl, rfl, xpl10.1, xpl10.2⟩
theorem vX10_begin : xVok mX10_begin := ⟨xm2 (n := 149) rfl rfl, xm2 (n := 150) rfl rfl⟩
def mX10_sound : xM := (yX10_sound, cX10_sound, 1, (some .boolean), 10)
theorem oX10_sound : xMok mX10_sound := ⟨xm2 (n := 159) rfl rfl, xm1 (n := 8) rfl rfl, rfl, xpl10.1, xpl10.2⟩
theorem vX10_sound : xVok mX10_sound := ⟨xm2 (n := 157) rfl rfl, xm2 (n := 158) rfl rfl⟩
def mX10_fail : xM := (yX10_fail, cX10_fail, 2, none, 10)
theorem oX10_fail : xMok mX10_fail := ⟨xm2 (n := 188) rfl rfl, xm1 (n := 8) rfl rfl, rfl, xpl10.1, xpl10.2⟩
theorem vX10_fail : xVok mX10_fail := ⟨xm2 (n := 186) rfl rfl, xm2 (n := 187) rfl rfl⟩
def mX10_next : xM := (yX10_next, cX10_next, 2, none, 10)
theorem oX10_next : xMok mX10_next := ⟨xm2 (n := 155) rfl rfl, xm1 (n := 8) rfl rfl, rfl, xpl10.1, xpl10.2⟩
theorem vX10_next : xVok mX10_next := ⟨xm2 (n := 153) rfl rfl, xm2 (n := 154) rfl rfl⟩
def mX10_isBlank : xM := (yX10_isBlank, cX10_isBlank, 1, (some .boolean), 10)
theorem oX10_isBlank : xMok mX10_isBlank := ⟨xm2 (n := 166) rfl rfl, xm1 (n := 8) rfl rfl, rfl, xpl10.1, xpl10.2⟩
theorem vX10_isBlank : Cond.static mX10_isBlank.1 ∈ xAll := xm2 (n := 165) rfl rfl
def mX10_kindOf : xM := (yX10_kindOf, cX10_kindOf, 1, (some .int), 10)
theorem oX10_kindOf : xMok mX10_kindOf := ⟨xm2 (n := 169) rfl rfl, xm1 (n := 8) rfl rfl, rfl, xpl10.1, xpl10.2⟩
theorem vX10_kindOf : Cond.static mX10_kindOf.1 ∈ xAll := xm2 (n := 168) rfl rfl
def mX10_isEnd : xM := (yX10_isEnd, cX10_isEnd, 1, (some .boolean), 10)
theorem oX10_isEnd : xMok mX10_isEnd := ⟨xm3 (n := 6) rfl rfl, xm1 (n := 8) rfl rfl, rfl, xpl10.1, xpl10.2⟩
theorem vX10_isEnd : xVok mX10_isEnd := ⟨xm3 (n := 4) rfl rfl, xm3 (n := 5) rfl rfl⟩
def mX10_isMark : xM := (yX10_isMark, cX10_isMark, 2, (some .boolean), 10)
theorem oX10_isMark : xMok mX10_isMark := ⟨xm2 (n := 207) rfl rfl, xm1 (n := 8) rfl rfl, rfl, xpl10.1, xpl10.2⟩
theorem vX10_isMark : xVok mX10_isMark := ⟨xm2 (n := 205) rfl rfl, xm2 (n := 206) rfl rfl⟩
def mX10_isWord : xM := (yX10_isWord, cX10_isWord, 3, (some .boolean), 10)
theorem oX10_isWord : xMok mX10_isWord := ⟨xm2 (n := 182) rfl rfl, xm1 (n := 8) rfl rfl, rfl, xpl10.1, xpl10.2⟩
theorem vX10_isWord : xVok mX10_isWord := ⟨xm2 (n := 180) rfl rfl, xm2 (n := 181) rfl rfl⟩
def mX10_readMark : xM := (yX10_readMark, cX10_readMark, 2, none, 10)
theorem oX10_readMark : xMok mX10_readMark := ⟨xm2 (n := 203) rfl rfl, xm1 (n := 8) rfl rfl, rfl, xpl10.1, xpl10.2⟩
theorem vX10_readMark : xVok mX10_readMark := ⟨xm2 (n := 201) rfl rfl, xm2 (n := 202) rfl rfl⟩
def mX10_readWord : xM := (yX10_readWord, cX10_readWord, 2, none, 10)
theorem oX10_readWord : xMok mX10_readWord := ⟨xm2 (n := 178) rfl rfl, xm1 (n := 8) rfl rfl, rfl, xpl10.1, xpl10.2⟩
theorem vX10_readWord : xVok mX10_readWord := ⟨xm2 (n := 176) rfl rfl, xm2 (n := 177) rfl rfl⟩
def mX10_readNumber : xM := (yX10_readNumber, cX10_readNumber, 4, (some .int), 10)
theorem oX10_readNumber : xMok mX10_readNumber := ⟨xm2 (n := 192) rfl rfl, xm1 (n := 8) rfl rfl, rfl, xpl10.1, xpl10.2⟩
theorem vX10_readNumber : xVok mX10_readNumber := ⟨xm2 (n := 190) rfl rfl, xm2 (n := 191) rfl rfl⟩
def mX10_seeNumber : xM := (yX10_seeNumber, cX10_seeNumber, 5, (some .int), 10)
theorem oX10_seeNumber : xMok mX10_seeNumber := ⟨xm2 (n := 196) rfl rfl, xm1 (n := 8) rfl rfl, rfl, xpl10.1, xpl10.2⟩
theorem vX10_seeNumber : xVok mX10_seeNumber := ⟨xm2 (n := 194) rfl rfl, xm2 (n := 195) rfl rfl⟩
def mX11_init : xM := (yX11_init, cX11_init, 2, none, 11)
theorem oX11_init : xMok mX11_init := ⟨xm1 (n := 41) rfl rfl, xm1 (n := 1) rfl rfl, rfl, xpl11.1, xpl11.2⟩
theorem vX11_init : Cond.instanceMethod mX11_init.1 ∈ xAll := xm1 (n := 40) rfl rfl
def mX11_append : xM := (yX11_append, cX11_append, 7, (some .int), 11)
theorem oX11_append : xMok mX11_append := ⟨xm5 (n := 57) rfl rfl, xm1 (n := 1) rfl rfl, rfl, xpl11.1, xpl11.2⟩
theorem vX11_append : xVok mX11_append := ⟨xm5 (n := 55) rfl rfl, xm5 (n := 56) rfl rfl⟩
def mX11_truncate : xM := (yX11_truncate, cX11_truncate, 2, (some .int), 11)
theorem oX11_truncate : xMok mX11_truncate := ⟨xm4 (n := 222) rfl rfl, xm1 (n := 1) rfl rfl, rfl, xpl11.1, xpl11.2⟩
theorem vX11_truncate : xVok mX11_truncate := ⟨xm4 (n := 220) rfl rfl, xm4 (n := 221) rfl rfl⟩
def mX11_load : xM := (yX11_load, cX11_load, 1, (some .int), 11)
theorem oX11_load : xMok mX11_load := ⟨xm5 (n := 85) rfl rfl, xm1 (n := 1) rfl rfl, rfl, xpl11.1, xpl11.2⟩
theorem vX11_load : xVok mX11_load := ⟨xm5 (n := 83) rfl rfl, xm5 (n := 84) rfl rfl⟩
def mX11_errorCode : xM := (yX11_errorCode, cX11_errorCode, 1, (some .int), 11)
theorem oX11_errorCode : xMok mX11_errorCode := ⟨xm5 (n := 89) rfl rfl, xm1 (n := 1) rfl rfl, rfl, xpl11.1, xpl11.2⟩
theorem vX11_errorCode : xVok mX11_errorCode := ⟨xm5 (n := 87) rfl rfl, xm5 (n := 88) rfl rfl⟩
def mX11_minute : xM := (yX11_minute, cX11_minute, 1, (some .int), 11)
theorem oX11_minute : xMok mX11_minute := ⟨xm5 (n := 131) rfl rfl, xm1 (n := 1) rfl rfl, rfl, xpl11.1, xpl11.2⟩
theorem vX11_minute : xVok mX11_minute := ⟨xm5 (n := 129) rfl rfl, xm5 (n := 130) rfl rfl⟩
def mX11_heat : xM := (yX11_heat, cX11_heat, 1, (some .int), 11)
theorem oX11_heat : xMok mX11_heat := ⟨xm5 (n := 135) rfl rfl, xm1 (n := 1) rfl rfl, rfl, xpl11.1, xpl11.2⟩
theorem vX11_heat : xVok mX11_heat := ⟨xm5 (n := 133) rfl rfl, xm5 (n := 134) rfl rfl⟩
def mX11_vaneDirection : xM := (yX11_vaneDirection, cX11_vaneDirection, 1, (some .int), 11)
theorem oX11_vaneDirection : xMok mX11_vaneDirection := ⟨xm5 (n := 139) rfl rfl, xm1 (n := 1) rfl rfl, rfl, xpl11.1, xpl11.2⟩
theorem vX11_vaneDirection : xVok mX11_vaneDirection := ⟨xm5 (n := 137) rfl rfl, xm5 (n := 138) rfl rfl⟩
def mX11_deviation : xM := (yX11_deviation, cX11_deviation, 1, (some .int), 11)
theorem oX11_deviation : xMok mX11_deviation := ⟨xm5 (n := 143) rfl rfl, xm1 (n := 1) rfl rfl, rfl, xpl11.1, xpl11.2⟩
theorem vX11_deviation : xVok mX11_deviation := ⟨xm5 (n := 141) rfl rfl, xm5 (n := 142) rfl rfl⟩
def mX11_draught : xM := (yX11_draught, cX11_draught, 1, (some .int), 11)
theorem oX11_draught : xMok mX11_draught := ⟨xm5 (n := 148) rfl rfl, xm1 (n := 1) rfl rfl, rfl, xpl11.1, xpl11.2⟩
theorem vX11_draught : xVok mX11_draught := ⟨xm5 (n := 146) rfl rfl, xm5 (n := 147) rfl rfl⟩
def mX11_temperatureOf : xM := (yX11_temperatureOf, cX11_temperatureOf, 2, (some .int), 11)
theorem oX11_temperatureOf : xMok mX11_temperatureOf := ⟨xm5 (n := 164) rfl rfl, xm1 (n := 1) rfl rfl, rfl, xpl11.1, xpl11.2⟩
theorem vX11_temperatureOf : xVok mX11_temperatureOf := ⟨xm5 (n := 162) rfl rfl, xm5 (n := 163) rfl rfl⟩
def mX11_hasLoad : xM := (yX11_hasLoad, cX11_hasLoad, 2, (some .boolean), 11)
theorem oX11_hasLoad : xMok mX11_hasLoad := ⟨xm5 (n := 190) rfl rfl, xm1 (n := 1) rfl rfl, rfl, xpl11.1, xpl11.2⟩
theorem vX11_hasLoad : xVok mX11_hasLoad := ⟨xm5 (n := 188) rfl rfl, xm5 (n := 189) rfl rfl⟩
def mX11_massOn : xM := (yX11_massOn, cX11_massOn, 2, (some .int), 11)
theorem oX11_massOn : xMok mX11_massOn := ⟨xm5 (n := 227) rfl rfl, xm1 (n := 1) rfl rfl, rfl, xpl11.1, xpl11.2⟩
theorem vX11_massOn : xVok mX11_massOn := ⟨xm5 (n := 225) rfl rfl, xm5 (n := 226) rfl rfl⟩
def mX11_moistureOn : xM := (yX11_moistureOn, cX11_moistureOn, 2, (some .int), 11)
theorem oX11_moistureOn : xMok mX11_moistureOn := ⟨xm6 (n := 8) rfl rfl, xm1 (n := 1) rfl rfl, rfl, xpl11.1, xpl11.2⟩
theorem vX11_moistureOn : xVok mX11_moistureOn := ⟨xm6 (n := 6) rfl rfl, xm6 (n := 7) rfl rfl⟩
def mX11_scorchOn : xM := (yX11_scorchOn, cX11_scorchOn, 2, (some .int), 11)
theorem oX11_scorchOn : xMok mX11_scorchOn := ⟨xm6 (n := 32) rfl rfl, xm1 (n := 1) rfl rfl, rfl, xpl11.1, xpl11.2⟩
theorem vX11_scorchOn : xVok mX11_scorchOn := ⟨xm6 (n := 30) rfl rfl, xm6 (n := 31) rfl rfl⟩
def mX11_isDry : xM := (yX11_isDry, cX11_isDry, 2, (some .boolean), 11)
theorem oX11_isDry : xMok mX11_isDry := ⟨xm6 (n := 3) rfl rfl, xm1 (n := 1) rfl rfl, rfl, xpl11.1, xpl11.2⟩
theorem vX11_isDry : xVok mX11_isDry := ⟨xm6 (n := 1) rfl rfl, xm6 (n := 2) rfl rfl⟩
def mX11_dryingOn : xM := (yX11_dryingOn, cX11_dryingOn, 2, (some .int), 11)
theorem oX11_dryingOn : xMok mX11_dryingOn := ⟨xm5 (n := 231) rfl rfl, xm1 (n := 1) rfl rfl, rfl, xpl11.1, xpl11.2⟩
theorem vX11_dryingOn : xVok mX11_dryingOn := ⟨xm5 (n := 229) rfl rfl, xm5 (n := 230) rfl rfl⟩
def mX11_obstacleToLower : xM := (yX11_obstacleToLower, cX11_obstacleToLower, 2, (some .int), 11)
theorem oX11_obstacleToLower : xMok mX11_obstacleToLower := ⟨xm5 (n := 195) rfl rfl, xm1 (n := 1) rfl rfl, rfl, xpl11.1, xpl11.2⟩
theorem vX11_obstacleToLower : xVok mX11_obstacleToLower := ⟨xm5 (n := 193) rfl rfl, xm5 (n := 194) rfl rfl⟩
def mX11_sackCount : xM := (yX11_sackCount, cX11_sackCount, 1, (some .int), 11)
theorem oX11_sackCount : xMok mX11_sackCount := ⟨xm6 (n := 118) rfl rfl, xm1 (n := 1) rfl rfl, rfl, xpl11.1, xpl11.2⟩
theorem vX11_sackCount : xVok mX11_sackCount := ⟨xm6 (n := 116) rfl rfl, xm6 (n := 117) rfl rfl⟩
def mX11_sackState : xM := (yX11_sackState, cX11_sackState, 2, (some .int), 11)
theorem oX11_sackState : xMok mX11_sackState := ⟨xm6 (n := 53) rfl rfl, xm1 (n := 1) rfl rfl, rfl, xpl11.1, xpl11.2⟩
theorem vX11_sackState : xVok mX11_sackState := ⟨xm6 (n := 51) rfl rfl, xm6 (n := 52) rfl rfl⟩
def mX11_sackMass : xM := (yX11_sackMass, cX11_sackMass, 2, (some .int), 11)
theorem oX11_sackMass : xMok mX11_sackMass := ⟨xm6 (n := 66) rfl rfl, xm1 (n := 1) rfl rfl, rfl, xpl11.1, xpl11.2⟩
theorem vX11_sackMass : xVok mX11_sackMass := ⟨xm6 (n := 64) rfl rfl, xm6 (n := 65) rfl rfl⟩
def mX11_sackMoisture : xM := (yX11_sackMoisture, cX11_sackMoisture, 2, (some .int), 11)
theorem oX11_sackMoisture : xMok mX11_sackMoisture := ⟨xm6 (n := 70) rfl rfl, xm1 (n := 1) rfl rfl, rfl, xpl11.1, xpl11.2⟩
theorem vX11_sackMoisture : xVok mX11_sackMoisture := ⟨xm6 (n := 68) rfl rfl, xm6 (n := 69) rfl rfl⟩
def mX11_sackTemperature : xM := (yX11_sackTemperature, cX11_sackTemperature, 2, (some .int), 11)
theorem oX11_sackTemperature : xMok mX11_sackTemperature := ⟨xm6 (n := 74) rfl rfl, xm1 (n := 1) rfl rfl, rfl, xpl11.1, xpl11.2⟩
theorem vX11_sackTemperature : xVok mX11_sackTemperature := ⟨xm6 (n := 72) rfl rfl, xm6 (n := 73) rfl rfl⟩
def mX11_isSmouldering : xM := (yX11_isSmouldering, cX11_isSmouldering, 2, (some .boolean), 11)
theorem oX11_isSmouldering : xMok mX11_isSmouldering := ⟨xm6 (n := 78) rfl rfl, xm1 (n := 1) rfl rfl, rfl, xpl11.1, xpl11.2⟩
theorem vX11_isSmouldering : xVok mX11_isSmouldering := ⟨xm6 (n := 76) rfl rfl, xm6 (n := 77) rfl rfl⟩
def mX11_qualityOf : xM := (yX11_qualityOf, cX11_qualityOf, 2, (some .int), 11)
theorem oX11_qualityOf : xMok mX11_qualityOf := ⟨xm6 (n := 90) rfl rfl, xm1 (n := 1) rfl rfl, rfl, xpl11.1, xpl11.2⟩
theorem vX11_qualityOf : xVok mX11_qualityOf := ⟨xm6 (n := 88) rfl rfl, xm6 (n := 89) rfl rfl⟩
def mX11_priceOf : xM := (yX11_priceOf, cX11_priceOf, 2, (some .int), 11)
theorem oX11_priceOf : xMok mX11_priceOf := ⟨xm6 (n := 104) rfl rfl, xm1 (n := 1) rfl rfl, rfl, xpl11.1, xpl11.2⟩
theorem vX11_priceOf : xVok mX11_priceOf := ⟨xm6 (n := 102) rfl rfl, xm6 (n := 103) rfl rfl⟩
def mX11_loadedMass : xM := (yX11_loadedMass, cX11_loadedMass, 1, (some .int), 11)
theorem oX11_loadedMass : xMok mX11_loadedMass := ⟨xm6 (n := 134) rfl rfl, xm1 (n := 1) rfl rfl, rfl, xpl11.1, xpl11.2⟩
theorem vX11_loadedMass : xVok mX11_loadedMass := ⟨xm6 (n := 132) rfl rfl, xm6 (n := 133) rfl rfl⟩
def mX11_soldMass : xM := (yX11_soldMass, cX11_soldMass, 1, (some .int), 11)
theorem oX11_soldMass : xMok mX11_soldMass := ⟨xm6 (n := 122) rfl rfl, xm1 (n := 1) rfl rfl, rfl, xpl11.1, xpl11.2⟩
theorem vX11_soldMass : xVok mX11_soldMass := ⟨xm6 (n := 120) rfl rfl, xm6 (n := 121) rfl rfl⟩
def mX11_burntMass : xM := (yX11_burntMass, cX11_burntMass, 1, (some .int), 11)
theorem oX11_burntMass : xMok mX11_burntMass := ⟨xm6 (n := 126) rfl rfl, xm1 (n := 1) rfl rfl, rfl, xpl11.1, xpl11.2⟩
theorem vX11_burntMass : xVok mX11_burntMass := ⟨xm6 (n := 124) rfl rfl, xm6 (n := 125) rfl rfl⟩
def mX11_income : xM := (yX11_income, cX11_income, 1, (some .int), 11)
theorem oX11_income : xMok mX11_income := ⟨xm6 (n := 130) rfl rfl, xm1 (n := 1) rfl rfl, rfl, xpl11.1, xpl11.2⟩
theorem vX11_income : xVok mX11_income := ⟨xm6 (n := 128) rfl rfl, xm6 (n := 129) rfl rfl⟩
def mX11_dampedHeat : xM := (yX11_dampedHeat, cX11_dampedHeat, 1, (some .int), 11)
theorem oX11_dampedHeat : xMok mX11_dampedHeat := ⟨xm5 (n := 157) rfl rfl, xm1 (n := 1) rfl rfl, rfl, xpl11.1, xpl11.2⟩
theorem vX11_dampedHeat : xVok mX11_dampedHeat := ⟨xm5 (n := 155) rfl rfl, xm5 (n := 156) rfl rfl⟩
def mX11_vaneSteps : xM := (yX11_vaneSteps, cX11_vaneSteps, 1, (some .int), 11)
theorem oX11_vaneSteps : xMok mX11_vaneSteps := ⟨xm5 (n := 153) rfl rfl, xm1 (n := 1) rfl rfl, rfl, xpl11.1, xpl11.2⟩
theorem vX11_vaneSteps : xVok mX11_vaneSteps := ⟨xm5 (n := 151) rfl rfl, xm5 (n := 152) rfl rfl⟩
def mX11_contradictions : xM := (yX11_contradictions, cX11_contradictions, 3, (some .int), 11)
theorem oX11_contradictions : xMok mX11_contradictions := ⟨xm5 (n := 96) rfl rfl, xm1 (n := 1) rfl rfl, rfl, xpl11.1, xpl11.2⟩
theorem vX11_contradictions : xVok mX11_contradictions := ⟨xm5 (n := 94) rfl rfl, xm5 (n := 95) rfl rfl⟩
def mX11_putLoad : xM := (yX11_putLoad, cX11_putLoad, 3, (some .int), 11)
theorem oX11_putLoad : xMok mX11_putLoad := ⟨xm6 (n := 144) rfl rfl, xm1 (n := 1) rfl rfl, rfl, xpl11.1, xpl11.2⟩
theorem vX11_putLoad : xVok mX11_putLoad := ⟨xm6 (n := 142) rfl rfl, xm6 (n := 143) rfl rfl⟩
def mX11_lower : xM := (yX11_lower, cX11_lower, 3, (some .int), 11)
theorem oX11_lower : xMok mX11_lower := ⟨xm6 (n := 232) rfl rfl, xm1 (n := 1) rfl rfl, rfl, xpl11.1, xpl11.2⟩
theorem vX11_lower : xVok mX11_lower := ⟨xm6 (n := 230) rfl rfl, xm6 (n := 231) rfl rfl⟩
def mX11_rotate : xM := (yX11_rotate, cX11_rotate, 1, (some .int), 11)
theorem oX11_rotate : xMok mX11_rotate := ⟨xm7 (n := 14) rfl rfl, xm1 (n := 1) rfl rfl, rfl, xpl11.1, xpl11.2⟩
theorem vX11_rotate : xVok mX11_rotate := ⟨xm7 (n := 12) rfl rfl, xm7 (n := 13) rfl rfl⟩
def mX11_setHeat : xM := (yX11_setHeat, cX11_setHeat, 2, (some .int), 11)
theorem oX11_setHeat : xMok mX11_setHeat := ⟨xm7 (n := 23) rfl rfl, xm1 (n := 1) rfl rfl, rfl, xpl11.1, xpl11.2⟩
theorem vX11_setHeat : xVok mX11_setHeat := ⟨xm7 (n := 21) rfl rfl, xm7 (n := 22) rfl rfl⟩
def mX11_setGear : xM := (yX11_setGear, cX11_setGear, 3, (some .int), 11)
theorem oX11_setGear : xMok mX11_setGear := ⟨xm7 (n := 32) rfl rfl, xm1 (n := 1) rfl rfl, rfl, xpl11.1, xpl11.2⟩
theorem vX11_setGear : xVok mX11_setGear := ⟨xm7 (n := 30) rfl rfl, xm7 (n := 31) rfl rfl⟩
def mX11_setWind : xM := (yX11_setWind, cX11_setWind, 3, (some .int), 11)
theorem oX11_setWind : xMok mX11_setWind := ⟨xm7 (n := 41) rfl rfl, xm1 (n := 1) rfl rfl, rfl, xpl11.1, xpl11.2⟩
theorem vX11_setWind : xVok mX11_setWind := ⟨xm7 (n := 39) rfl rfl, xm7 (n := 40) rfl rfl⟩
def mX11_sell : xM := (yX11_sell, cX11_sell, 2, (some .int), 11)
theorem oX11_sell : xMok mX11_sell := ⟨xm7 (n := 59) rfl rfl, xm1 (n := 1) rfl rfl, rfl, xpl11.1, xpl11.2⟩
theorem vX11_sell : xVok mX11_sell := ⟨xm7 (n := 57) rfl rfl, xm7 (n := 58) rfl rfl⟩
def mX11_quench : xM := (yX11_quench, cX11_quench, 3, (some .int), 11)
theorem oX11_quench : xMok mX11_quench := ⟨xm7 (n := 74) rfl rfl, xm1 (n := 1) rfl rfl, rfl, xpl11.1, xpl11.2⟩
theorem vX11_quench : xVok mX11_quench := ⟨xm7 (n := 72) rfl rfl, xm7 (n := 73) rfl rfl⟩
def mX11_advance : xM := (yX11_advance, cX11_advance, 2, (some .int), 11)
theorem oX11_advance : xMok mX11_advance := ⟨xm7 (n := 88) rfl rfl, xm1 (n := 1) rfl rfl, rfl, xpl11.1, xpl11.2⟩
theorem vX11_advance : xVok mX11_advance := ⟨xm7 (n := 86) rfl rfl, xm7 (n := 87) rfl rfl⟩
def mX11_requireFloor : xM := (yX11_requireFloor, cX11_requireFloor, 2, none, 11)
theorem oX11_requireFloor : xMok mX11_requireFloor := ⟨xm5 (n := 168) rfl rfl, xm1 (n := 1) rfl rfl, rfl, xpl11.1, xpl11.2⟩
theorem vX11_requireFloor : xVok mX11_requireFloor := ⟨xm5 (n := 167) rfl rfl, xm0 (n := 9) rfl rfl⟩
def mX11_requireLoad : xM := (yX11_requireLoad, cX11_requireLoad, 2, none, 11)
theorem oX11_requireLoad : xMok mX11_requireLoad := ⟨xm6 (n := 12) rfl rfl, xm1 (n := 1) rfl rfl, rfl, xpl11.1, xpl11.2⟩
theorem vX11_requireLoad : xVok mX11_requireLoad := ⟨xm6 (n := 11) rfl rfl, xm0 (n := 11) rfl rfl⟩
def mX11_requireSack : xM := (yX11_requireSack, cX11_requireSack, 2, none, 11)
theorem oX11_requireSack : xMok mX11_requireSack := ⟨xm6 (n := 57) rfl rfl, xm1 (n := 1) rfl rfl, rfl, xpl11.1, xpl11.2⟩
theorem vX11_requireSack : xVok mX11_requireSack := ⟨xm6 (n := 56) rfl rfl, xm0 (n := 12) rfl rfl⟩
def mX11_within : xM := (yX11_within, cX11_within, 3, (some .boolean), 11)
theorem oX11_within : xMok mX11_within := ⟨xm2 (n := 199) rfl rfl, xm1 (n := 1) rfl rfl, rfl, xpl11.1, xpl11.2⟩
theorem vX11_within : Cond.static mX11_within.1 ∈ xAll := xm2 (n := 198) rfl rfl
def mX11_visibleBytes : xM := (yX11_visibleBytes, cX11_visibleBytes, 3, (some .int), 11)
theorem oX11_visibleBytes : xMok mX11_visibleBytes := ⟨xm5 (n := 60) rfl rfl, xm1 (n := 1) rfl rfl, rfl, xpl11.1, xpl11.2⟩
theorem vX11_visibleBytes : Cond.static mX11_visibleBytes.1 ∈ xAll := xm5 (n := 59) rfl rfl
def mX11_beginHouse : xM := (yX11_beginHouse, cX11_beginHouse, 1, none, 11)
theorem oX11_beginHouse : xMok mX11_beginHouse := ⟨xm2 (n := 143) rfl rfl, xm1 (n := 1) rfl rfl, rfl, xpl11.1, xpl11.2⟩
theorem vX11_beginHouse : xVok mX11_beginHouse := ⟨xm2 (n := 142) rfl rfl, xm0 (n := 0) rfl rfl⟩
def mX12_init : xM := (yX12_init, cX12_init, 3, none, 12)
theorem oX12_init : xMok mX12_init := ⟨xm4 (n := 117) rfl rfl, xm1 (n := 28) rfl rfl, rfl, xpl12.1, xpl12.2⟩
theorem vX12_init : Cond.instanceMethod mX12_init.1 ∈ xAll := xm4 (n := 116) rfl rfl
def mX12_quality : xM := (yX12_quality, cX12_quality, 1, (some .int), 12)
theorem oX12_quality : xMok mX12_quality := ⟨xm6 (n := 99) rfl rfl, xm1 (n := 28) rfl rfl, rfl, xpl12.1, xpl12.2⟩
theorem vX12_quality : xVok mX12_quality := ⟨xm6 (n := 97) rfl rfl, xm6 (n := 98) rfl rfl⟩
def mX12_price : xM := (yX12_price, cX12_price, 1, (some .int), 12)
theorem oX12_price : xMok mX12_price := ⟨xm6 (n := 113) rfl rfl, xm1 (n := 28) rfl rfl, rfl, xpl12.1, xpl12.2⟩
theorem vX12_price : xVok mX12_price := ⟨xm6 (n := 111) rfl rfl, xm6 (n := 112) rfl rfl⟩
def mX12_glows : xM := (yX12_glows, cX12_glows, 1, (some .boolean), 12)
theorem oX12_glows : xMok mX12_glows := ⟨xm6 (n := 86) rfl rfl, xm1 (n := 28) rfl rfl, rfl, xpl12.1, xpl12.2⟩
theorem vX12_glows : xVok mX12_glows := ⟨xm6 (n := 84) rfl rfl, xm6 (n := 85) rfl rfl⟩
def mJ5_init_a7421 : xM := (yJ5_init_a7421, cJ5_init_a7421, 5, none, 19)
theorem oJ5_init_a7421 : xMok mJ5_init_a7421 := ⟨xm3 (n := 184) rfl rfl, xm1 (n := 21) rfl rfl, rfl, xpl19.1, xpl19.2⟩
theorem vJ5_init_a7421 : Cond.instanceMethod mJ5_init_a7421.1 ∈ xAll := xm3 (n := 183) rfl rfl
def mJ5_length_8abf5 : xM := (yJ5_length_8abf5, cJ5_length_8abf5, 1, (some .int), 19)
theorem oJ5_length_8abf5 : xMok mJ5_length_8abf5 := ⟨xm4 (n := 184) rfl rfl, xm1 (n := 21) rfl rfl, rfl, xpl19.1, xpl19.2⟩
theorem vJ5_length_8abf5 : Cond.instanceMethod mJ5_length_8abf5.1 ∈ xAll := xm4 (n := 178) rfl rfl
def mJ5_ensureCapacityInternal_d00df : xM := (yJ5_ensureCapacityInternal_d00df, cJ5_ensureCapacityInternal_d00df, 3, none, 19)
theorem oJ5_ensureCapacityInternal_d00df : xMok mJ5_ensureCapacityInternal_d00df := ⟨xm3 (n := 217) rfl rfl, xm1 (n := 21) rfl rfl, rfl, xpl19.1, xpl19.2⟩
theorem vJ5_ensureCapacityInternal_d00df : Cond.instanceMethod mJ5_ensureCapacityInternal_d00df.1 ∈ xAll ∧ Cond.selects "java/lang/StringBuilder" mJ5_ensureCapacityInternal_d00df.1 mJ5_ensureCapacityInternal_d00df.1 ∈ xAll := ⟨xm3 (n := 216) rfl rfl, xmx (n := 0) rfl rfl⟩
def mJ5_newCapacity_0f7a4 : xM := (yJ5_newCapacity_0f7a4, cJ5_newCapacity_0f7a4, 6, (some .int), 19)
theorem oJ5_newCapacity_0f7a4 : xMok mJ5_newCapacity_0f7a4 := ⟨xm3 (n := 221) rfl rfl, xm1 (n := 21) rfl rfl, rfl, xpl19.1, xpl19.2⟩
theorem vJ5_newCapacity_0f7a4 : Cond.instanceMethod mJ5_newCapacity_0f7a4.1 ∈ xAll ∧ Cond.selects "java/lang/StringBuilder" mJ5_newCapacity_0f7a4.1 mJ5_newCapacity_0f7a4.1 ∈ xAll := ⟨xm3 (n := 220) rfl rfl, xmx (n := 1) rfl rfl⟩
def mJ5_append_cf1ce : xM := (yJ5_append_cf1ce, cJ5_append_cf1ce, 3, (some (.object "java/lang/AbstractStringBuilder")), 19)
theorem oJ5_append_cf1ce : xMok mJ5_append_cf1ce := ⟨xm3 (n := 209) rfl rfl, xm1 (n := 21) rfl rfl, rfl, xpl19.1, xpl19.2⟩
theorem vJ5_append_cf1ce : Cond.instanceMethod mJ5_append_cf1ce.1 ∈ xAll := xm3 (n := 198) rfl rfl
def mJ5_append_3fe6f : xM := (yJ5_append_3fe6f, cJ5_append_3fe6f, 2, (some (.object "java/lang/AbstractStringBuilder")), 19)
theorem oJ5_append_3fe6f : xMok mJ5_append_3fe6f := ⟨xm4 (n := 103) rfl rfl, xm1 (n := 21) rfl rfl, rfl, xpl19.1, xpl19.2⟩
theorem vJ5_append_3fe6f : Cond.instanceMethod mJ5_append_3fe6f.1 ∈ xAll := xm4 (n := 102) rfl rfl
def mJ5_append_c97b9 : xM := (yJ5_append_c97b9, cJ5_append_c97b9, 4, (some (.object "java/lang/AbstractStringBuilder")), 19)
theorem oJ5_append_c97b9 : xMok mJ5_append_c97b9 := ⟨xm4 (n := 78) rfl rfl, xm1 (n := 21) rfl rfl, rfl, xpl19.1, xpl19.2⟩
theorem vJ5_append_c97b9 : Cond.instanceMethod mJ5_append_c97b9.1 ∈ xAll := xm4 (n := 77) rfl rfl
def mJ5_getValue_6d5f1 : xM := (yJ5_getValue_6d5f1, cJ5_getValue_6d5f1, 1, (some (.array .byte)), 19)
theorem oJ5_getValue_6d5f1 : xMok mJ5_getValue_6d5f1 := ⟨xm4 (n := 176) rfl rfl, xm1 (n := 21) rfl rfl, rfl, xpl19.1, xpl19.2⟩
theorem vJ5_getValue_6d5f1 : Cond.instanceMethod mJ5_getValue_6d5f1.1 ∈ xAll ∧ Cond.selects "java/lang/StringBuilder" mJ5_getValue_6d5f1.1 mJ5_getValue_6d5f1.1 ∈ xAll := ⟨xm4 (n := 173) rfl rfl, xm4 (n := 175) rfl rfl⟩
def mJ5_isLatin1_aae02 : xM := (yJ5_isLatin1_aae02, cJ5_isLatin1_aae02, 1, (some .boolean), 19)
theorem oJ5_isLatin1_aae02 : xMok mJ5_isLatin1_aae02 := ⟨xm4 (n := 10) rfl rfl, xm1 (n := 21) rfl rfl, rfl, xpl19.1, xpl19.2⟩
theorem vJ5_isLatin1_aae02 : Cond.instanceMethod mJ5_isLatin1_aae02.1 ∈ xAll ∧ Cond.selects "java/lang/StringBuilder" mJ5_isLatin1_aae02.1 mJ5_isLatin1_aae02.1 ∈ xAll := ⟨xm4 (n := 7) rfl rfl, xm4 (n := 9) rfl rfl⟩
def mJ5_inflateIfNeededFor_a7421 : xM := (yJ5_inflateIfNeededFor_a7421, cJ5_inflateIfNeededFor_a7421, 2, none, 19)
theorem oJ5_inflateIfNeededFor_a7421 : xMok mJ5_inflateIfNeededFor_a7421 := ⟨xm4 (n := 34) rfl rfl, xm1 (n := 21) rfl rfl, rfl, xpl19.1, xpl19.2⟩
theorem vJ5_inflateIfNeededFor_a7421 : Cond.instanceMethod mJ5_inflateIfNeededFor_a7421.1 ∈ xAll ∧ Cond.selects "java/lang/StringBuilder" mJ5_inflateIfNeededFor_a7421.1 mJ5_inflateIfNeededFor_a7421.1 ∈ xAll := ⟨xm4 (n := 33) rfl rfl, xmx (n := 3) rfl rfl⟩
def mJ5_putStringAt_47b60 : xM := (yJ5_putStringAt_47b60, cJ5_putStringAt_47b60, 3, none, 19)
theorem oJ5_putStringAt_47b60 : xMok mJ5_putStringAt_47b60 := ⟨xm4 (n := 30) rfl rfl, xm1 (n := 21) rfl rfl, rfl, xpl19.1, xpl19.2⟩
theorem vJ5_putStringAt_47b60 : Cond.instanceMethod mJ5_putStringAt_47b60.1 ∈ xAll ∧ Cond.selects "java/lang/StringBuilder" mJ5_putStringAt_47b60.1 mJ5_putStringAt_47b60.1 ∈ xAll := ⟨xm4 (n := 29) rfl rfl, xmx (n := 2) rfl rfl⟩
def mJ6_getChars_ba4f3 : xM := (yJ6_getChars_ba4f3, cJ6_getChars_ba4f3, 7, (some .int), 20)
theorem oJ6_getChars_ba4f3 : xMok mJ6_getChars_ba4f3 := ⟨xm4 (n := 84) rfl rfl, xm1 (n := 27) rfl rfl, rfl, xpl20.1, xpl20.2⟩
theorem vJ6_getChars_ba4f3 : Cond.static mJ6_getChars_ba4f3.1 ∈ xAll := xm4 (n := 83) rfl rfl
def mJ6_stringSize_0f7a4 : xM := (yJ6_stringSize_0f7a4, cJ6_stringSize_0f7a4, 4, (some .int), 20)
theorem oJ6_stringSize_0f7a4 : xMok mJ6_stringSize_0f7a4 := ⟨xm4 (n := 81) rfl rfl, xm1 (n := 27) rfl rfl, rfl, xpl20.1, xpl20.2⟩
theorem vJ6_stringSize_0f7a4 : Cond.static mJ6_stringSize_0f7a4.1 ∈ xAll := xm4 (n := 80) rfl rfl
def mJ0_init_81219 : xM := (yJ0_init_81219, cJ0_init_81219, 2, none, 14)
theorem oJ0_init_81219 : xMok mJ0_init_81219 := ⟨xm4 (n := 167) rfl rfl, xm1 (n := 13) rfl rfl, rfl, xpl14.1, xpl14.2⟩
theorem vJ0_init_81219 : Cond.instanceMethod mJ0_init_81219.1 ∈ xAll := xm4 (n := 166) rfl rfl
def mJ0_length_8abf5 : xM := (yJ0_length_8abf5, cJ0_length_8abf5, 1, (some .int), 14)
theorem oJ0_length_8abf5 : xMok mJ0_length_8abf5 := ⟨xm2 (n := 91) rfl rfl, xm1 (n := 13) rfl rfl, rfl, xpl14.1, xpl14.2⟩
theorem vJ0_length_8abf5 : xVok mJ0_length_8abf5 := ⟨xm2 (n := 89) rfl rfl, xm2 (n := 90) rfl rfl⟩
def mJ0_charAt_5068e : xM := (yJ0_charAt_5068e, cJ0_charAt_5068e, 2, (some .char), 14)
theorem oJ0_charAt_5068e : xMok mJ0_charAt_5068e := ⟨xm2 (n := 101) rfl rfl, xm1 (n := 13) rfl rfl, rfl, xpl14.1, xpl14.2⟩
theorem vJ0_charAt_5068e : xVok mJ0_charAt_5068e := ⟨xm2 (n := 99) rfl rfl, xm2 (n := 100) rfl rfl⟩
def mJ0_getBytes_840e7 : xM := (yJ0_getBytes_840e7, cJ0_getBytes_840e7, 4, none, 14)
theorem oJ0_getBytes_840e7 : xMok mJ0_getBytes_840e7 := ⟨xm4 (n := 57) rfl rfl, xm1 (n := 13) rfl rfl, rfl, xpl14.1, xpl14.2⟩
theorem vJ0_getBytes_840e7 : xVok mJ0_getBytes_840e7 := ⟨xm4 (n := 55) rfl rfl, xm4 (n := 56) rfl rfl⟩
def mJ0_init_db425 : xM := (yJ0_init_db425, cJ0_init_db425, 5, none, 14)
theorem oJ0_init_db425 : xMok mJ0_init_db425 := ⟨xm4 (n := 170) rfl rfl, xm1 (n := 13) rfl rfl, rfl, xpl14.1, xpl14.2⟩
theorem vJ0_init_db425 : Cond.instanceMethod mJ0_init_db425.1 ∈ xAll := xm4 (n := 169) rfl rfl
def mJ0_coder_7d493 : xM := (yJ0_coder_7d493, cJ0_coder_7d493, 1, (some .byte), 14)
theorem oJ0_coder_7d493 : xMok mJ0_coder_7d493 := ⟨xm2 (n := 95) rfl rfl, xm1 (n := 13) rfl rfl, rfl, xpl14.1, xpl14.2⟩
theorem vJ0_coder_7d493 : xVok mJ0_coder_7d493 := ⟨xm2 (n := 93) rfl rfl, xm2 (n := 94) rfl rfl⟩
def mJ0_isLatin1_aae02 : xM := (yJ0_isLatin1_aae02, cJ0_isLatin1_aae02, 1, (some .boolean), 14)
theorem oJ0_isLatin1_aae02 : xMok mJ0_isLatin1_aae02 := ⟨xm2 (n := 105) rfl rfl, xm1 (n := 13) rfl rfl, rfl, xpl14.1, xpl14.2⟩
theorem vJ0_isLatin1_aae02 : xVok mJ0_isLatin1_aae02 := ⟨xm2 (n := 103) rfl rfl, xm2 (n := 104) rfl rfl⟩
def mJ0_checkIndex_df160 : xM := (yJ0_checkIndex_df160, cJ0_checkIndex_df160, 2, none, 14)
theorem oJ0_checkIndex_df160 : xMok mJ0_checkIndex_df160 := ⟨xm2 (n := 111) rfl rfl, xm1 (n := 13) rfl rfl, rfl, xpl14.1, xpl14.2⟩
theorem vJ0_checkIndex_df160 : Cond.static mJ0_checkIndex_df160.1 ∈ xAll := xm2 (n := 110) rfl rfl
def mJ4_init_a7421 : xM := (yJ4_init_a7421, cJ4_init_a7421, 2, none, 15)
theorem oJ4_init_a7421 : xMok mJ4_init_a7421 := ⟨xm3 (n := 181) rfl rfl, xm1 (n := 22) rfl rfl, rfl, xpl15.1, xpl15.2⟩
theorem vJ4_init_a7421 : Cond.instanceMethod mJ4_init_a7421.1 ∈ xAll := xm3 (n := 180) rfl rfl
def mJ4_append_15ec4 : xM := (yJ4_append_15ec4, cJ4_append_15ec4, 2, (some (.object "java/lang/StringBuilder")), 15)
theorem oJ4_append_15ec4 : xMok mJ4_append_15ec4 := ⟨xm3 (n := 206) rfl rfl, xm1 (n := 22) rfl rfl, rfl, xpl15.1, xpl15.2⟩
theorem vJ4_append_15ec4 : xVok mJ4_append_15ec4 := ⟨xm3 (n := 204) rfl rfl, xm3 (n := 205) rfl rfl⟩
def mJ4_append_cf468 : xM := (yJ4_append_cf468, cJ4_append_cf468, 2, (some (.object "java/lang/StringBuilder")), 15)
theorem oJ4_append_cf468 : xMok mJ4_append_cf468 := ⟨xm4 (n := 100) rfl rfl, xm1 (n := 22) rfl rfl, rfl, xpl15.1, xpl15.2⟩
theorem vJ4_append_cf468 : xVok mJ4_append_cf468 := ⟨xm4 (n := 98) rfl rfl, xm4 (n := 99) rfl rfl⟩
def mJ4_append_bf812 : xM := (yJ4_append_bf812, cJ4_append_bf812, 2, (some (.object "java/lang/StringBuilder")), 15)
theorem oJ4_append_bf812 : xMok mJ4_append_bf812 := ⟨xm4 (n := 75) rfl rfl, xm1 (n := 22) rfl rfl, rfl, xpl15.1, xpl15.2⟩
theorem vJ4_append_bf812 : xVok mJ4_append_bf812 := ⟨xm4 (n := 73) rfl rfl, xm4 (n := 74) rfl rfl⟩
def mJ4_toString_0e30d : xM := (yJ4_toString_0e30d, cJ4_toString_0e30d, 1, (some (.object "java/lang/String")), 15)
theorem oJ4_toString_0e30d : xMok mJ4_toString_0e30d := ⟨xm4 (n := 162) rfl rfl, xm1 (n := 22) rfl rfl, rfl, xpl15.1, xpl15.2⟩
theorem vJ4_toString_0e30d : xVok mJ4_toString_0e30d := ⟨xm4 (n := 160) rfl rfl, xm4 (n := 161) rfl rfl⟩
def mJ4_append_cf1ce : xM := (yJ4_append_cf1ce, cJ4_append_cf1ce, 2, (some (.object "java/lang/AbstractStringBuilder")), 15)
theorem oJ4_append_cf1ce : xMok mJ4_append_cf1ce := ⟨xm3 (n := 202) rfl rfl, xm1 (n := 22) rfl rfl, rfl, xpl15.1, xpl15.2⟩
theorem vJ4_append_cf1ce : Cond.instanceMethod mJ4_append_cf1ce.1 ∈ xAll := xm3 (n := 201) rfl rfl
def mJ4_length_8abf5 : xM := (yJ4_length_8abf5, cJ4_length_8abf5, 1, (some .int), 15)
theorem oJ4_length_8abf5 : xMok mJ4_length_8abf5 := ⟨xm4 (n := 182) rfl rfl, xm1 (n := 22) rfl rfl, rfl, xpl15.1, xpl15.2⟩
theorem vJ4_length_8abf5 : Cond.instanceMethod mJ4_length_8abf5.1 ∈ xAll := xm4 (n := 181) rfl rfl
def mJ1_charAt_3b067 : xM := (yJ1_charAt_3b067, cJ1_charAt_3b067, 2, (some .char), 17)
theorem oJ1_charAt_3b067 : xMok mJ1_charAt_3b067 := ⟨xm2 (n := 108) rfl rfl, xm1 (n := 14) rfl rfl, rfl, xpl17.1, xpl17.2⟩
theorem vJ1_charAt_3b067 : Cond.static mJ1_charAt_3b067.1 ∈ xAll := xm2 (n := 107) rfl rfl
def mJ1_canEncode_fc78d : xM := (yJ1_canEncode_fc78d, cJ1_canEncode_fc78d, 1, (some .boolean), 17)
theorem oJ1_canEncode_fc78d : xMok mJ1_canEncode_fc78d := ⟨xm4 (n := 106) rfl rfl, xm1 (n := 14) rfl rfl, rfl, xpl17.1, xpl17.2⟩
theorem vJ1_canEncode_fc78d : Cond.static mJ1_canEncode_fc78d.1 ∈ xAll := xm4 (n := 105) rfl rfl
def mJxa1e45_init_da8c8 : xM := (yJxa1e45_init_da8c8, cJxa1e45_init_da8c8, 1, none, 24)
theorem oJxa1e45_init_da8c8 : xMok mJxa1e45_init_da8c8 := ⟨xm3 (n := 115) rfl rfl, xm1 (n := 18) rfl rfl, rfl, xpl24.1, xpl24.2⟩
theorem vJxa1e45_init_da8c8 : Cond.instanceMethod mJxa1e45_init_da8c8.1 ∈ xAll := xm3 (n := 114) rfl rfl
def mJxc12de_init_da8c8 : xM := (yJxc12de_init_da8c8, cJxc12de_init_da8c8, 1, none, 23)
theorem oJxc12de_init_da8c8 : xMok mJxc12de_init_da8c8 := ⟨xm3 (n := 112) rfl rfl, xm1 (n := 19) rfl rfl, rfl, xpl23.1, xpl23.2⟩
theorem vJxc12de_init_da8c8 : Cond.instanceMethod mJxc12de_init_da8c8.1 ∈ xAll := xm3 (n := 111) rfl rfl
def mJx4a65c_init_da8c8 : xM := (yJx4a65c_init_da8c8, cJx4a65c_init_da8c8, 1, none, 16)
theorem oJx4a65c_init_da8c8 : xMok mJx4a65c_init_da8c8 := ⟨xm3 (n := 109) rfl rfl, xm1 (n := 20) rfl rfl, rfl, xpl16.1, xpl16.2⟩
theorem vJx4a65c_init_da8c8 : Cond.instanceMethod mJx4a65c_init_da8c8.1 ∈ xAll := xm3 (n := 108) rfl rfl
def mJx4a65c_grow_92f84 : xM := (yJx4a65c_grow_92f84, cJx4a65c_grow_92f84, 4, (some (.array (.object "java/lang/Object"))), 16)
theorem oJx4a65c_grow_92f84 : xMok mJx4a65c_grow_92f84 := ⟨xm6 (n := 191) rfl rfl, xm1 (n := 20) rfl rfl, rfl, xpl16.1, xpl16.2⟩
theorem vJx4a65c_grow_92f84 : xVok mJx4a65c_grow_92f84 := ⟨xm6 (n := 190) rfl rfl, xm0 (n := 16) rfl rfl⟩
def mJx4a65c_grow_d5877 : xM := (yJx4a65c_grow_d5877, cJx4a65c_grow_d5877, 1, (some (.array (.object "java/lang/Object"))), 16)
theorem oJx4a65c_grow_d5877 : xMok mJx4a65c_grow_d5877 := ⟨xm6 (n := 187) rfl rfl, xm1 (n := 20) rfl rfl, rfl, xpl16.1, xpl16.2⟩
theorem vJx4a65c_grow_d5877 : xVok mJx4a65c_grow_d5877 := ⟨xm6 (n := 186) rfl rfl, xm0 (n := 15) rfl rfl⟩
def mJx4a65c_size_8abf5 : xM := (yJx4a65c_size_8abf5, cJx4a65c_size_8abf5, 1, (some .int), 16)
theorem oJx4a65c_size_8abf5 : xMok mJx4a65c_size_8abf5 := ⟨xm5 (n := 223) rfl rfl, xm1 (n := 20) rfl rfl, rfl, xpl16.1, xpl16.2⟩
theorem vJx4a65c_size_8abf5 : Cond.instanceMethod mJx4a65c_size_8abf5.1 ∈ xAll := xm5 (n := 221) rfl rfl
def mJx4a65c_isEmpty_aae02 : xM := (yJx4a65c_isEmpty_aae02, cJx4a65c_isEmpty_aae02, 1, (some .boolean), 16)
theorem oJx4a65c_isEmpty_aae02 : xMok mJx4a65c_isEmpty_aae02 := ⟨xm7 (n := 55) rfl rfl, xm1 (n := 20) rfl rfl, rfl, xpl16.1, xpl16.2⟩
theorem vJx4a65c_isEmpty_aae02 : Cond.instanceMethod mJx4a65c_isEmpty_aae02.1 ∈ xAll := xm7 (n := 53) rfl rfl
def mJx4a65c_elementData_915e3 : xM := (yJx4a65c_elementData_915e3, cJx4a65c_elementData_915e3, 2, (some (.object "java/lang/Object")), 16)
theorem oJx4a65c_elementData_915e3 : xMok mJx4a65c_elementData_915e3 := ⟨xm6 (n := 49) rfl rfl, xm1 (n := 20) rfl rfl, rfl, xpl16.1, xpl16.2⟩
theorem vJx4a65c_elementData_915e3 : xVok mJx4a65c_elementData_915e3 := ⟨xm6 (n := 47) rfl rfl, xm6 (n := 48) rfl rfl⟩
def mJx4a65c_get_915e3 : xM := (yJx4a65c_get_915e3, cJx4a65c_get_915e3, 2, (some (.object "java/lang/Object")), 16)
theorem oJx4a65c_get_915e3 : xMok mJx4a65c_get_915e3 := ⟨xm6 (n := 41) rfl rfl, xm1 (n := 20) rfl rfl, rfl, xpl16.1, xpl16.2⟩
theorem vJx4a65c_get_915e3 : Cond.instanceMethod mJx4a65c_get_915e3.1 ∈ xAll := xm6 (n := 39) rfl rfl
def mJx4a65c_add_72be8 : xM := (yJx4a65c_add_72be8, cJx4a65c_add_72be8, 4, none, 16)
theorem oJx4a65c_add_72be8 : xMok mJx4a65c_add_72be8 := ⟨xm6 (n := 183) rfl rfl, xm1 (n := 20) rfl rfl, rfl, xpl16.1, xpl16.2⟩
theorem vJx4a65c_add_72be8 : xVok mJx4a65c_add_72be8 := ⟨xm6 (n := 182) rfl rfl, xm0 (n := 14) rfl rfl⟩
def mJx4a65c_add_9ea2d : xM := (yJx4a65c_add_9ea2d, cJx4a65c_add_9ea2d, 2, (some .boolean), 16)
theorem oJx4a65c_add_9ea2d : xMok mJx4a65c_add_9ea2d := ⟨xm6 (n := 179) rfl rfl, xm1 (n := 20) rfl rfl, rfl, xpl16.1, xpl16.2⟩
theorem vJx4a65c_add_9ea2d : Cond.instanceMethod mJx4a65c_add_9ea2d.1 ∈ xAll := xm6 (n := 177) rfl rfl
def mJ7_copyOf_1904c : xM := (yJ7_copyOf_1904c, cJ7_copyOf_1904c, 2, (some (.array (.object "java/lang/Object"))), 21)
theorem oJ7_copyOf_1904c : xMok mJ7_copyOf_1904c := ⟨xm6 (n := 195) rfl rfl, xm1 (n := 25) rfl rfl, rfl, xpl21.1, xpl21.2⟩
theorem vJ7_copyOf_1904c : Cond.static mJ7_copyOf_1904c.1 ∈ xAll := xm6 (n := 194) rfl rfl
def mJ7_copyOf_6403c : xM := (yJ7_copyOf_6403c, cJ7_copyOf_6403c, 4, (some (.array (.object "java/lang/Object"))), 21)
theorem oJ7_copyOf_6403c : xMok mJ7_copyOf_6403c := ⟨xm6 (n := 223) rfl rfl, xm1 (n := 25) rfl rfl, rfl, xpl21.1, xpl21.2⟩
theorem vJ7_copyOf_6403c : Cond.static mJ7_copyOf_6403c.1 ∈ xAll := xm6 (n := 222) rfl rfl
def mJ7_copyOf_9075b : xM := (yJ7_copyOf_9075b, cJ7_copyOf_9075b, 3, (some (.array .byte)), 21)
theorem oJ7_copyOf_9075b : xMok mJ7_copyOf_9075b := ⟨xm3 (n := 234) rfl rfl, xm1 (n := 25) rfl rfl, rfl, xpl21.1, xpl21.2⟩
theorem vJ7_copyOf_9075b : Cond.static mJ7_copyOf_9075b.1 ∈ xAll := xm3 (n := 233) rfl rfl
def mJ7_checkLength_df160 : xM := (yJ7_checkLength_df160, cJ7_checkLength_df160, 2, none, 21)
theorem oJ7_checkLength_df160 : xMok mJ7_checkLength_df160 := ⟨xm4 (n := 194) rfl rfl, xm1 (n := 25) rfl rfl, rfl, xpl21.1, xpl21.2⟩
theorem vJ7_checkLength_df160 : Cond.static mJ7_checkLength_df160.1 ∈ xAll := xm4 (n := 193) rfl rfl
def mJ7_copyOfRange_39247 : xM := (yJ7_copyOfRange_39247, cJ7_copyOfRange_39247, 3, (some (.array .byte)), 21)
theorem oJ7_copyOfRange_39247 : xMok mJ7_copyOfRange_39247 := ⟨xm4 (n := 188) rfl rfl, xm1 (n := 25) rfl rfl, rfl, xpl21.1, xpl21.2⟩
theorem vJ7_copyOfRange_39247 : Cond.static mJ7_copyOfRange_39247.1 ∈ xAll := xm4 (n := 187) rfl rfl
def mJ7_copyOfRangeByte_39247 : xM := (yJ7_copyOfRangeByte_39247, cJ7_copyOfRangeByte_39247, 5, (some (.array .byte)), 21)
theorem oJ7_copyOfRangeByte_39247 : xMok mJ7_copyOfRangeByte_39247 := ⟨xm4 (n := 191) rfl rfl, xm1 (n := 25) rfl rfl, rfl, xpl21.1, xpl21.2⟩
theorem vJ7_copyOfRangeByte_39247 : Cond.static mJ7_copyOfRangeByte_39247.1 ∈ xAll := xm4 (n := 190) rfl rfl
def mJ15_checkIndex_7cf53 : xM := (yJ15_checkIndex_7cf53, cJ15_checkIndex_7cf53, 2, (some .int), 25)
theorem oJ15_checkIndex_7cf53 : xMok mJ15_checkIndex_7cf53 := ⟨xm6 (n := 44) rfl rfl, xm1 (n := 36) rfl rfl, rfl, xpl25.1, xpl25.2⟩
theorem vJ15_checkIndex_7cf53 : Cond.static mJ15_checkIndex_7cf53.1 ∈ xAll := xm6 (n := 43) rfl rfl
def mJ8_newLength_cabcc : xM := (yJ8_newLength_cabcc, cJ8_newLength_cabcc, 4, (some .int), 22)
theorem oJ8_newLength_cabcc : xMok mJ8_newLength_cabcc := ⟨xm3 (n := 224) rfl rfl, xm1 (n := 23) rfl rfl, rfl, xpl22.1, xpl22.2⟩
theorem vJ8_newLength_cabcc : Cond.static mJ8_newLength_cabcc.1 ∈ xAll := xm3 (n := 223) rfl rfl
def mJ3_checkIndex_8e157 : xM := (yJ3_checkIndex_8e157, cJ3_checkIndex_8e157, 3, (some .int), 18)
theorem oJ3_checkIndex_8e157 : xMok mJ3_checkIndex_8e157 := ⟨xm2 (n := 116) rfl rfl, xm1 (n := 15) rfl rfl, rfl, xpl18.1, xpl18.2⟩
theorem vJ3_checkIndex_8e157 : Cond.static mJ3_checkIndex_8e157.1 ∈ xAll := xm2 (n := 115) rfl rfl
def mL_init : xM := (yL_init, cL_init, 1, none, 13)
theorem oL_init : xMok mL_init := ⟨xm3 (n := 103) rfl rfl, xm1 (n := 0) rfl rfl, rfl, xpl13.1, xpl13.2⟩
theorem vL_init : Cond.instanceMethod mL_init.1 ∈ xAll := xm3 (n := 102) rfl rfl
def mL_feeds : xM := (yL_feeds, cL_feeds, 6, (some .boolean), 13)
theorem oL_feeds : xMok mL_feeds := ⟨xm4 (n := 218) rfl rfl, xm1 (n := 0) rfl rfl, rfl, xpl13.1, xpl13.2⟩
theorem vL_feeds : Cond.static mL_feeds.1 ∈ xAll := xm4 (n := 217) rfl rfl
def mL_draw : xM := (yL_draw, cL_draw, 2, (some .int), 13)
theorem oL_draw : xMok mL_draw := ⟨xm3 (n := 173) rfl rfl, xm1 (n := 0) rfl rfl, rfl, xpl13.1, xpl13.2⟩
theorem vL_draw : Cond.static mL_draw.1 ∈ xAll := xm3 (n := 172) rfl rfl
def mL_deviation : xM := (yL_deviation, cL_deviation, 2, (some .int), 13)
theorem oL_deviation : xMok mL_deviation := ⟨xm4 (n := 156) rfl rfl, xm1 (n := 0) rfl rfl, rfl, xpl13.1, xpl13.2⟩
theorem vL_deviation : xVok mL_deviation := ⟨xm4 (n := 155) rfl rfl, xm0 (n := 7) rfl rfl⟩
def mL_draught : xM := (yL_draught, cL_draught, 3, (some .int), 13)
theorem oL_draught : xMok mL_draught := ⟨xm4 (n := 152) rfl rfl, xm1 (n := 0) rfl rfl, rfl, xpl13.1, xpl13.2⟩
theorem vL_draught : xVok mL_draught := ⟨xm4 (n := 151) rfl rfl, xm0 (n := 6) rfl rfl⟩
def mL_degrees : xM := (yL_degrees, cL_degrees, 4, (some .int), 13)
theorem oL_degrees : xMok mL_degrees := ⟨xm4 (n := 148) rfl rfl, xm1 (n := 0) rfl rfl, rfl, xpl13.1, xpl13.2⟩
theorem vL_degrees : xVok mL_degrees := ⟨xm4 (n := 147) rfl rfl, xm0 (n := 5) rfl rfl⟩
def mL_damps : xM := (yL_damps, cL_damps, 3, none, 13)
theorem oL_damps : xMok mL_damps := ⟨xm4 (n := 144) rfl rfl, xm1 (n := 0) rfl rfl, rfl, xpl13.1, xpl13.2⟩
theorem vL_damps : xVok mL_damps := ⟨xm4 (n := 143) rfl rfl, xm0 (n := 4) rfl rfl⟩
def mL_passes : xM := (yL_passes, cL_passes, 5, (some .int), 13)
theorem oL_passes : xMok mL_passes := ⟨xm7 (n := 84) rfl rfl, xm1 (n := 0) rfl rfl, rfl, xpl13.1, xpl13.2⟩
theorem vL_passes : xVok mL_passes := ⟨xm7 (n := 83) rfl rfl, xm0 (n := 18) rfl rfl⟩
def mL_why : xM := (yL_why, cL_why, 2, (some .int), 13)
theorem oL_why : xMok mL_why := ⟨xm5 (n := 213) rfl rfl, xm1 (n := 0) rfl rfl, rfl, xpl13.1, xpl13.2⟩
theorem vL_why : xVok mL_why := ⟨xm5 (n := 212) rfl rfl, xm0 (n := 10) rfl rfl⟩
def mL_lowers : xM := (yL_lowers, cL_lowers, 4, (some .int), 13)
theorem oL_lowers : xMok mL_lowers := ⟨xm6 (n := 170) rfl rfl, xm1 (n := 0) rfl rfl, rfl, xpl13.1, xpl13.2⟩
theorem vL_lowers : xVok mL_lowers := ⟨xm6 (n := 169) rfl rfl, xm0 (n := 13) rfl rfl⟩
def mL_begins : xM := (yL_begins, cL_begins, 6, (some (.object "HopOastLaw")), 13)
theorem oL_begins : xMok mL_begins := ⟨xm3 (n := 98) rfl rfl, xm1 (n := 0) rfl rfl, rfl, xpl13.1, xpl13.2⟩
theorem vL_begins : Cond.static mL_begins.1 ∈ xAll := xm3 (n := 97) rfl rfl
def mL_isFloor : xM := (yL_isFloor, cL_isFloor, 4, (some .boolean), 13)
theorem oL_isFloor : xMok mL_isFloor := ⟨xm5 (n := 160) rfl rfl, xm1 (n := 0) rfl rfl, rfl, xpl13.1, xpl13.2⟩
theorem vL_isFloor : Cond.static mL_isFloor.1 ∈ xAll := xm5 (n := 159) rfl rfl
def mL_still : xM := (yL_still, cL_still, 6, (some .boolean), 13)
theorem oL_still : xMok mL_still := ⟨xm5 (n := 92) rfl rfl, xm1 (n := 0) rfl rfl, rfl, xpl13.1, xpl13.2⟩
theorem vL_still : Cond.static mL_still.1 ∈ xAll := xm5 (n := 91) rfl rfl
def mL_floors : xM := (yL_floors, cL_floors, 11, (some .boolean), 13)
theorem oL_floors : xMok mL_floors := ⟨xm6 (n := 140) rfl rfl, xm1 (n := 0) rfl rfl, rfl, xpl13.1, xpl13.2⟩
theorem vL_floors : Cond.static mL_floors.1 ∈ xAll := xm6 (n := 139) rfl rfl
def mL_act : xM := (yL_act, cL_act, 7, (some .boolean), 13)
theorem oL_act : xMok mL_act := ⟨xm6 (n := 137) rfl rfl, xm1 (n := 0) rfl rfl, rfl, xpl13.1, xpl13.2⟩
theorem vL_act : Cond.static mL_act.1 ∈ xAll := xm6 (n := 136) rfl rfl
theorem k11_38 : Cond.methodLink (xCn 11) 38 mX10_init.1 ∈ xAll := xm1 (n := 237) rfl rfl
theorem k11_47 : Cond.methodLink (xCn 11) 47 mX8_init.1 ∈ xAll := xm2 (n := 23) rfl rfl
theorem k11_63 : Cond.methodLink (xCn 11) 63 mX7_init.1 ∈ xAll := xm2 (n := 54) rfl rfl
theorem k11_79 : Cond.methodLink (xCn 11) 79 mJ0_length_8abf5.1 ∈ xAll := xm2 (n := 88) rfl rfl
theorem k11_85 : Cond.methodLink (xCn 11) 85 mJ0_charAt_5068e.1 ∈ xAll := xm2 (n := 98) rfl rfl
theorem k11_89 : Cond.methodLink (xCn 11) 89 mX9_add.1 ∈ xAll := xm2 (n := 136) rfl rfl
theorem k11_93 : Cond.methodLink (xCn 11) 93 mX11_beginHouse.1 ∈ xAll := xm2 (n := 140) rfl rfl
theorem k11_96 : Cond.methodLink (xCn 11) 96 mX11_visibleBytes.1 ∈ xAll := xm5 (n := 58) rfl rfl
theorem k11_110 : Cond.methodLink (xCn 11) 110 mX9_addFour.1 ∈ xAll := xm5 (n := 77) rfl rfl
theorem k11_113 : Cond.methodLink (xCn 11) 113 mX11_within.1 ∈ xAll := xm4 (n := 223) rfl rfl
theorem k11_128 : Cond.methodLink (xCn 11) 128 mX10_sound.1 ∈ xAll := xm3 (n := 35) rfl rfl
theorem k11_132 : Cond.methodLink (xCn 11) 132 mX2_record.1 ∈ xAll := xm6 (n := 151) rfl rfl
theorem k11_172 : Cond.methodLink (xCn 11) 172 mX0_offset.1 ∈ xAll := xm5 (n := 144) rfl rfl
theorem k11_175 : Cond.methodLink (xCn 11) 175 mX0_pull.1 ∈ xAll := xm5 (n := 149) rfl rfl
theorem k11_187 : Cond.methodLink (xCn 11) 187 mX11_requireFloor.1 ∈ xAll := xm5 (n := 165) rfl rfl
theorem k11_194 : Cond.methodLink (xCn 11) 194 mX3_temperatureNow.1 ∈ xAll := xm5 (n := 186) rfl rfl
theorem k11_197 : Cond.methodLink (xCn 11) 197 mX1_isTaken.1 ∈ xAll := xm5 (n := 191) rfl rfl
theorem k11_204 : Cond.methodLink (xCn 11) 204 mX11_requireLoad.1 ∈ xAll := xm6 (n := 9) rfl rfl
theorem k11_213 : Cond.methodLink (xCn 11) 213 mX1_holdsDryLoad.1 ∈ xAll := xm6 (n := 4) rfl rfl
theorem k11_216 : Cond.methodLink (xCn 11) 216 mX3_dryingNow.1 ∈ xAll := xm5 (n := 232) rfl rfl
theorem k11_222 : Cond.methodLink (xCn 11) 222 mX3_obstacle.1 ∈ xAll := xm5 (n := 196) rfl rfl
theorem k11_232 : Cond.methodLink (xCn 11) 232 mX11_requireSack.1 ∈ xAll := xm6 (n := 54) rfl rfl
theorem k11_243 : Cond.methodLink (xCn 11) 243 mX5_smoulders.1 ∈ xAll := xm6 (n := 79) rfl rfl
theorem k11_246 : Cond.methodLink (xCn 11) 246 mX5_quality.1 ∈ xAll := xm6 (n := 91) rfl rfl
theorem k11_249 : Cond.methodLink (xCn 11) 249 mX5_price.1 ∈ xAll := xm6 (n := 105) rfl rfl
theorem k11_276 : Cond.methodLink (xCn 11) 276 mX1_countTaken.1 ∈ xAll := xm6 (n := 163) rfl rfl
theorem k11_282 : Cond.methodLink (xCn 11) 282 mX1_sumOfMasses.1 ∈ xAll := xm5 (n := 97) rfl rfl
theorem k11_285 : Cond.methodLink (xCn 11) 285 mX5_sumOfMasses.1 ∈ xAll := xm5 (n := 101) rfl rfl
theorem k11_286 : Cond.methodLink (xCn 11) 286 mX5_sumOfMassesGone.1 ∈ xAll := xm5 (n := 105) rfl rfl
theorem k11_289 : Cond.methodLink (xCn 11) 289 mX3_countTooHot.1 ∈ xAll := xm5 (n := 113) rfl rfl
theorem k11_297 : Cond.methodLink (xCn 11) 297 mX3_countWarmthBreaks.1 ∈ xAll := xm5 (n := 124) rfl rfl
theorem k11_302 : Cond.methodLink (xCn 11) 302 mX3_copyFrom.1 ∈ xAll := xm3 (n := 36) rfl rfl
theorem k11_305 : Cond.methodLink (xCn 11) 305 mX3_passMinutes.1 ∈ xAll := xm7 (n := 95) rfl rfl
theorem k11_310 : Cond.methodLink (xCn 11) 310 mX3_canPut.1 ∈ xAll := xm6 (n := 146) rfl rfl
theorem k11_315 : Cond.methodLink (xCn 11) 315 mX3_putOnTop.1 ∈ xAll := xm6 (n := 157) rfl rfl
theorem k11_321 : Cond.methodLink (xCn 11) 321 mX3_lowerOne.1 ∈ xAll := xm6 (n := 234) rfl rfl
theorem k11_324 : Cond.methodLink (xCn 11) 324 mX3_lowerAll.1 ∈ xAll := xm7 (n := 15) rfl rfl
theorem k11_329 : Cond.methodLink (xCn 11) 329 mX3_stoke.1 ∈ xAll := xm7 (n := 25) rfl rfl
theorem k11_334 : Cond.methodLink (xCn 11) 334 mX3_shiftGear.1 ∈ xAll := xm7 (n := 34) rfl rfl
theorem k11_339 : Cond.methodLink (xCn 11) 339 mX3_changeWind.1 ∈ xAll := xm7 (n := 43) rfl rfl
theorem k11_342 : Cond.methodLink (xCn 11) 342 mX5_canSell.1 ∈ xAll := xm7 (n := 60) rfl rfl
theorem k11_347 : Cond.methodLink (xCn 11) 347 mX5_giveAway.1 ∈ xAll := xm7 (n := 66) rfl rfl
theorem k11_350 : Cond.methodLink (xCn 11) 350 mX5_isStored.1 ∈ xAll := xm7 (n := 75) rfl rfl
theorem k11_355 : Cond.methodLink (xCn 11) 355 mX5_wet.1 ∈ xAll := xm7 (n := 77) rfl rfl
theorem k11_358 : Cond.methodLink (xCn 11) 358 mX3_canWait.1 ∈ xAll := xm7 (n := 90) rfl rfl
theorem k11_392 : Cond.methodLink (xCn 11) 392 mX2_forgetChanges.1 ∈ xAll := xm3 (n := 56) rfl rfl
theorem k11_395 : Cond.methodLink (xCn 11) 395 mX1_exists.1 ∈ xAll := xm5 (n := 169) rfl rfl
theorem k11_408 : Cond.methodLink (xCn 11) 408 mX5_exists.1 ∈ xAll := xm6 (n := 58) rfl rfl
theorem k11_413 : Cond.methodLink (xCn 11) 413 mX8_read.1 ∈ xAll := xm2 (n := 144) rfl rfl
theorem k11_414 : Cond.methodLink (xCn 11) 414 mX2_emptySlots.1 ∈ xAll := xm3 (n := 60) rfl rfl
theorem k0_24 : Cond.methodLink (xCn 0) 24 mX0_clockwiseSteps.1 ∈ xAll := xm3 (n := 19) rfl rfl
theorem k0_28 : Cond.methodLink (xCn 0) 28 mX0_offset.1 ∈ xAll := xm3 (n := 15) rfl rfl
theorem k1_34 : Cond.methodLink (xCn 1) 34 mX1_isTaken.1 ∈ xAll := xm5 (n := 205) rfl rfl
theorem k1_38 : Cond.methodLink (xCn 1) 38 mX1_exists.1 ∈ xAll := xm2 (n := 239) rfl rfl
theorem k1_41 : Cond.methodLink (xCn 1) 41 mX1_decrease.1 ∈ xAll := xm7 (n := 111) rfl rfl
theorem k2_32 : Cond.methodLink (xCn 2) 32 mX3_copyFrom.1 ∈ xAll := xm6 (n := 156) rfl rfl
theorem k3_52 : Cond.methodLink (xCn 3) 52 mX0_copyFrom.1 ∈ xAll := xm3 (n := 40) rfl rfl
theorem k3_56 : Cond.methodLink (xCn 3) 56 mX1_copyFrom.1 ∈ xAll := xm3 (n := 44) rfl rfl
theorem k3_59 : Cond.methodLink (xCn 3) 59 mX5_copyFrom.1 ∈ xAll := xm3 (n := 51) rfl rfl
theorem k3_62 : Cond.methodLink (xCn 3) 62 mX1_coolingBy.1 ∈ xAll := xm3 (n := 31) rfl rfl
theorem k3_66 : Cond.methodLink (xCn 3) 66 mX3_warmth.1 ∈ xAll := xm3 (n := 27) rfl rfl
theorem k3_70 : Cond.methodLink (xCn 3) 70 mX0_pull.1 ∈ xAll := xm3 (n := 11) rfl rfl
theorem k3_74 : Cond.methodLink (xCn 3) 74 mX3_temperature.1 ∈ xAll := xm3 (n := 23) rfl rfl
theorem k3_77 : Cond.methodLink (xCn 3) 77 mX1_decrease.1 ∈ xAll := xm5 (n := 236) rfl rfl
theorem k3_84 : Cond.methodLink (xCn 3) 84 mX3_temperatureNow.1 ∈ xAll := xm5 (n := 117) rfl rfl
theorem k3_90 : Cond.methodLink (xCn 3) 90 mX1_place.1 ∈ xAll := xm2 (n := 235) rfl rfl
theorem k3_94 : Cond.methodLink (xCn 3) 94 mX1_isTaken.1 ∈ xAll := xm5 (n := 200) rfl rfl
theorem k3_98 : Cond.methodLink (xCn 3) 98 mX3_place.1 ∈ xAll := xm6 (n := 161) rfl rfl
theorem k3_99 : Cond.methodLink (xCn 3) 99 mX3_damp.1 ∈ xAll := xm6 (n := 162) rfl rfl
theorem k3_102 : Cond.methodLink (xCn 3) 102 mX1_holdsDryLoad.1 ∈ xAll := xm5 (n := 201) rfl rfl
theorem k3_105 : Cond.methodLink (xCn 3) 105 mX5_isFull.1 ∈ xAll := xm5 (n := 206) rfl rfl
theorem k3_109 : Cond.methodLink (xCn 3) 109 mX1_moveDown.1 ∈ xAll := xm7 (n := 2) rfl rfl
theorem k3_113 : Cond.methodLink (xCn 3) 113 mX5_pack.1 ∈ xAll := xm7 (n := 6) rfl rfl
theorem k3_120 : Cond.methodLink (xCn 3) 120 mX3_moveOrPack.1 ∈ xAll := xm6 (n := 238) rfl rfl
theorem k3_123 : Cond.methodLink (xCn 3) 123 mX3_obstacle.1 ∈ xAll := xm7 (n := 19) rfl rfl
theorem k3_135 : Cond.methodLink (xCn 3) 135 mX0_turnVane.1 ∈ xAll := xm7 (n := 99) rfl rfl
theorem k3_138 : Cond.methodLink (xCn 3) 138 mX3_dryLoads.1 ∈ xAll := xm7 (n := 103) rfl rfl
theorem k3_141 : Cond.methodLink (xCn 3) 141 mX5_glow.1 ∈ xAll := xm7 (n := 112) rfl rfl
theorem k3_144 : Cond.methodLink (xCn 3) 144 mX1_dryLoad.1 ∈ xAll := xm7 (n := 107) rfl rfl
theorem k5_46 : Cond.methodLink (xCn 5) 46 mX5_isStored.1 ∈ xAll := xm5 (n := 109) rfl rfl
theorem k5_50 : Cond.methodLink (xCn 5) 50 mX5_smoulders.1 ∈ xAll := xm7 (n := 64) rfl rfl
theorem k5_53 : Cond.methodLink (xCn 5) 53 mX5_isFull.1 ∈ xAll := xm7 (n := 10) rfl rfl
theorem k5_62 : Cond.methodLink (xCn 5) 62 mX5_exists.1 ∈ xAll := xm6 (n := 95) rfl rfl
theorem k5_65 : Cond.methodLink (xCn 5) 65 mX5_quality.1 ∈ xAll := xm6 (n := 109) rfl rfl
theorem k5_69 : Cond.methodLink (xCn 5) 69 mX5_price.1 ∈ xAll := xm7 (n := 70) rfl rfl
theorem k5_72 : Cond.methodLink (xCn 5) 72 mX5_warmOrCool.1 ∈ xAll := xm7 (n := 116) rfl rfl
theorem k5_76 : Cond.methodLink (xCn 5) 76 mX5_burn.1 ∈ xAll := xm7 (n := 120) rfl rfl
theorem k5_79 : Cond.methodLink (xCn 5) 79 mX5_heatUp.1 ∈ xAll := xm7 (n := 124) rfl rfl
theorem k8_19 : Cond.methodLink (xCn 8) 19 mX10_begin.1 ∈ xAll := xm2 (n := 148) rfl rfl
theorem k8_39 : Cond.methodLink (xCn 8) 39 mX8_readFireAndWind.1 ∈ xAll := xm2 (n := 170) rfl rfl
theorem k8_42 : Cond.methodLink (xCn 8) 42 mX8_readFloor.1 ∈ xAll := xm2 (n := 208) rfl rfl
theorem k8_45 : Cond.methodLink (xCn 8) 45 mX10_sound.1 ∈ xAll := xm2 (n := 219) rfl rfl
theorem k8_51 : Cond.methodLink (xCn 8) 51 mX10_isWord.1 ∈ xAll := xm2 (n := 213) rfl rfl
theorem k8_57 : Cond.methodLink (xCn 8) 57 mX8_readLoad.1 ∈ xAll := xm2 (n := 221) rfl rfl
theorem k8_60 : Cond.methodLink (xCn 8) 60 mX10_isEnd.1 ∈ xAll := xm3 (n := 3) rfl rfl
theorem k8_63 : Cond.methodLink (xCn 8) 63 mX10_fail.1 ∈ xAll := xm2 (n := 214) rfl rfl
theorem k8_67 : Cond.methodLink (xCn 8) 67 mX3_damp.1 ∈ xAll := xm3 (n := 7) rfl rfl
theorem k8_75 : Cond.methodLink (xCn 8) 75 mX10_readWord.1 ∈ xAll := xm2 (n := 175) rfl rfl
theorem k8_79 : Cond.methodLink (xCn 8) 79 mX10_readNumber.1 ∈ xAll := xm2 (n := 189) rfl rfl
theorem k8_104 : Cond.methodLink (xCn 8) 104 mX10_readMark.1 ∈ xAll := xm2 (n := 200) rfl rfl
theorem k8_108 : Cond.methodLink (xCn 8) 108 mX1_addFloor.1 ∈ xAll := xm2 (n := 215) rfl rfl
theorem k8_111 : Cond.methodLink (xCn 8) 111 mX10_seeNumber.1 ∈ xAll := xm2 (n := 225) rfl rfl
theorem k8_114 : Cond.methodLink (xCn 8) 114 mX1_isTaken.1 ∈ xAll := xm2 (n := 226) rfl rfl
theorem k8_118 : Cond.methodLink (xCn 8) 118 mX10_next.1 ∈ xAll := xm2 (n := 230) rfl rfl
theorem k8_121 : Cond.methodLink (xCn 8) 121 mX3_place.1 ∈ xAll := xm2 (n := 231) rfl rfl
theorem k9_19 : Cond.methodLink (xCn 9) 19 mX9_add.1 ∈ xAll := xm5 (n := 81) rfl rfl
theorem k10_25 : Cond.methodLink (xCn 10) 25 mX10_next.1 ∈ xAll := xm2 (n := 152) rfl rfl
theorem k10_31 : Cond.methodLink (xCn 10) 31 mX10_sound.1 ∈ xAll := xm2 (n := 156) rfl rfl
theorem k10_40 : Cond.methodLink (xCn 10) 40 mX9_at.1 ∈ xAll := xm2 (n := 160) rfl rfl
theorem k10_44 : Cond.methodLink (xCn 10) 44 mX10_isBlank.1 ∈ xAll := xm2 (n := 164) rfl rfl
theorem k10_48 : Cond.methodLink (xCn 10) 48 mX10_kindOf.1 ∈ xAll := xm2 (n := 167) rfl rfl
theorem k10_54 : Cond.methodLink (xCn 10) 54 mJ0_length_8abf5.1 ∈ xAll := xm2 (n := 183) rfl rfl
theorem k10_59 : Cond.methodLink (xCn 10) 59 mJ0_charAt_5068e.1 ∈ xAll := xm2 (n := 184) rfl rfl
theorem k10_63 : Cond.methodLink (xCn 10) 63 mX10_isMark.1 ∈ xAll := xm2 (n := 204) rfl rfl
theorem k10_67 : Cond.methodLink (xCn 10) 67 mX10_fail.1 ∈ xAll := xm2 (n := 185) rfl rfl
theorem k10_71 : Cond.methodLink (xCn 10) 71 mX10_isWord.1 ∈ xAll := xm2 (n := 179) rfl rfl
theorem k10_75 : Cond.methodLink (xCn 10) 75 mX10_seeNumber.1 ∈ xAll := xm2 (n := 193) rfl rfl
theorem k13_9 : Cond.methodLink (xCn 13) 9 mJx4a65c_init_da8c8.1 ∈ xAll := xm3 (n := 107) rfl rfl
theorem k13_16 : Cond.methodLink (xCn 13) 16 mX11_truncate.1 ∈ xAll := xm4 (n := 219) rfl rfl
theorem k13_22 : Cond.methodLink (xCn 13) 22 mJ0_length_8abf5.1 ∈ xAll := xm5 (n := 52) rfl rfl
theorem k13_28 : Cond.methodLink (xCn 13) 28 mJ0_charAt_5068e.1 ∈ xAll := xm5 (n := 53) rfl rfl
theorem k13_32 : Cond.methodLink (xCn 13) 32 mX11_append.1 ∈ xAll := xm5 (n := 54) rfl rfl
theorem k13_51 : Cond.methodLink (xCn 13) 51 mL_deviation.1 ∈ xAll := xm4 (n := 153) rfl rfl
theorem k13_66 : Cond.methodLink (xCn 13) 66 mL_draught.1 ∈ xAll := xm4 (n := 149) rfl rfl
theorem k13_78 : Cond.methodLink (xCn 13) 78 mL_degrees.1 ∈ xAll := xm4 (n := 145) rfl rfl
theorem k13_109 : Cond.methodLink (xCn 13) 109 mX12_glows.1 ∈ xAll := xm6 (n := 83) rfl rfl
theorem k13_116 : Cond.methodLink (xCn 13) 116 mL_damps.1 ∈ xAll := xm4 (n := 141) rfl rfl
theorem k13_123 : Cond.methodLink (xCn 13) 123 mX11_init.1 ∈ xAll := xm1 (n := 39) rfl rfl
theorem k13_124 : Cond.methodLink (xCn 13) 124 mL_begins.1 ∈ xAll := xm3 (n := 96) rfl rfl
theorem k13_128 : Cond.methodLink (xCn 13) 128 mL_still.1 ∈ xAll := xm5 (n := 90) rfl rfl
theorem k13_132 : Cond.methodLink (xCn 13) 132 mL_act.1 ∈ xAll := xm6 (n := 135) rfl rfl
theorem k13_136 : Cond.methodLink (xCn 13) 136 mL_init.1 ∈ xAll := xm3 (n := 101) rfl rfl
theorem k13_137 : Cond.methodLink (xCn 13) 137 mL_draw.1 ∈ xAll := xm3 (n := 171) rfl rfl
theorem k13_145 : Cond.methodLink (xCn 13) 145 mJ4_init_a7421.1 ∈ xAll := xm3 (n := 179) rfl rfl
theorem k13_148 : Cond.methodLink (xCn 13) 148 mJ4_append_bf812.1 ∈ xAll := xm4 (n := 72) rfl rfl
theorem k13_151 : Cond.methodLink (xCn 13) 151 mJ4_append_cf468.1 ∈ xAll := xm4 (n := 97) rfl rfl
theorem k13_156 : Cond.methodLink (xCn 13) 156 mJ4_append_15ec4.1 ∈ xAll := xm4 (n := 113) rfl rfl
theorem k13_159 : Cond.methodLink (xCn 13) 159 mX12_init.1 ∈ xAll := xm4 (n := 115) rfl rfl
theorem k13_170 : Cond.methodLink (xCn 13) 170 mJ4_toString_0e30d.1 ∈ xAll := xm4 (n := 159) rfl rfl
theorem k13_174 : Cond.methodLink (xCn 13) 174 mL_feeds.1 ∈ xAll := xm4 (n := 216) rfl rfl
theorem k13_178 : Cond.methodLink (xCn 13) 178 mX11_load.1 ∈ xAll := xm5 (n := 82) rfl rfl
theorem k13_181 : Cond.methodLink (xCn 13) 181 mX11_errorCode.1 ∈ xAll := xm5 (n := 86) rfl rfl
theorem k13_184 : Cond.methodLink (xCn 13) 184 mX11_temperatureOf.1 ∈ xAll := xm5 (n := 161) rfl rfl
theorem k13_187 : Cond.methodLink (xCn 13) 187 mX11_hasLoad.1 ∈ xAll := xm5 (n := 187) rfl rfl
theorem k13_191 : Cond.methodLink (xCn 13) 191 mX11_obstacleToLower.1 ∈ xAll := xm5 (n := 192) rfl rfl
theorem k13_194 : Cond.methodLink (xCn 13) 194 mL_why.1 ∈ xAll := xm5 (n := 210) rfl rfl
theorem k13_197 : Cond.methodLink (xCn 13) 197 mX11_massOn.1 ∈ xAll := xm5 (n := 224) rfl rfl
theorem k13_200 : Cond.methodLink (xCn 13) 200 mX11_dryingOn.1 ∈ xAll := xm5 (n := 228) rfl rfl
theorem k13_203 : Cond.methodLink (xCn 13) 203 mX11_isDry.1 ∈ xAll := xm6 (n := 0) rfl rfl
theorem k13_206 : Cond.methodLink (xCn 13) 206 mX11_moistureOn.1 ∈ xAll := xm6 (n := 5) rfl rfl
theorem k13_209 : Cond.methodLink (xCn 13) 209 mX11_scorchOn.1 ∈ xAll := xm6 (n := 29) rfl rfl
theorem k13_212 : Cond.methodLink (xCn 13) 212 mX11_contradictions.1 ∈ xAll := xm5 (n := 93) rfl rfl
theorem k13_215 : Cond.methodLink (xCn 13) 215 mX11_minute.1 ∈ xAll := xm5 (n := 128) rfl rfl
theorem k13_217 : Cond.methodLink (xCn 13) 217 mX11_heat.1 ∈ xAll := xm5 (n := 132) rfl rfl
theorem k13_219 : Cond.methodLink (xCn 13) 219 mX11_vaneDirection.1 ∈ xAll := xm5 (n := 136) rfl rfl
theorem k13_222 : Cond.methodLink (xCn 13) 222 mX11_deviation.1 ∈ xAll := xm5 (n := 140) rfl rfl
theorem k13_223 : Cond.methodLink (xCn 13) 223 mX11_draught.1 ∈ xAll := xm5 (n := 145) rfl rfl
theorem k13_224 : Cond.methodLink (xCn 13) 224 mX11_vaneSteps.1 ∈ xAll := xm5 (n := 150) rfl rfl
theorem k13_227 : Cond.methodLink (xCn 13) 227 mX11_dampedHeat.1 ∈ xAll := xm5 (n := 154) rfl rfl
theorem k13_230 : Cond.methodLink (xCn 13) 230 mL_isFloor.1 ∈ xAll := xm5 (n := 158) rfl rfl
theorem k13_234 : Cond.methodLink (xCn 13) 234 mX11_sackState.1 ∈ xAll := xm6 (n := 50) rfl rfl
theorem k13_237 : Cond.methodLink (xCn 13) 237 mX11_sackMass.1 ∈ xAll := xm6 (n := 63) rfl rfl
theorem k13_240 : Cond.methodLink (xCn 13) 240 mX11_sackMoisture.1 ∈ xAll := xm6 (n := 67) rfl rfl
theorem k13_243 : Cond.methodLink (xCn 13) 243 mX11_sackTemperature.1 ∈ xAll := xm6 (n := 71) rfl rfl
theorem k13_246 : Cond.methodLink (xCn 13) 246 mX11_isSmouldering.1 ∈ xAll := xm6 (n := 75) rfl rfl
theorem k13_249 : Cond.methodLink (xCn 13) 249 mX11_qualityOf.1 ∈ xAll := xm6 (n := 87) rfl rfl
theorem k13_252 : Cond.methodLink (xCn 13) 252 mX12_quality.1 ∈ xAll := xm6 (n := 96) rfl rfl
theorem k13_255 : Cond.methodLink (xCn 13) 255 mX11_priceOf.1 ∈ xAll := xm6 (n := 101) rfl rfl
theorem k13_258 : Cond.methodLink (xCn 13) 258 mX12_price.1 ∈ xAll := xm6 (n := 110) rfl rfl
theorem k13_261 : Cond.methodLink (xCn 13) 261 mX11_sackCount.1 ∈ xAll := xm6 (n := 115) rfl rfl
theorem k13_264 : Cond.methodLink (xCn 13) 264 mX11_soldMass.1 ∈ xAll := xm6 (n := 119) rfl rfl
theorem k13_267 : Cond.methodLink (xCn 13) 267 mX11_burntMass.1 ∈ xAll := xm6 (n := 123) rfl rfl
theorem k13_270 : Cond.methodLink (xCn 13) 270 mX11_income.1 ∈ xAll := xm6 (n := 127) rfl rfl
theorem k13_275 : Cond.methodLink (xCn 13) 275 mX11_loadedMass.1 ∈ xAll := xm6 (n := 131) rfl rfl
theorem k13_278 : Cond.methodLink (xCn 13) 278 mX11_putLoad.1 ∈ xAll := xm6 (n := 141) rfl rfl
theorem k13_281 : Cond.methodLink (xCn 13) 281 mL_lowers.1 ∈ xAll := xm6 (n := 167) rfl rfl
theorem k13_284 : Cond.methodLink (xCn 13) 284 mX11_lower.1 ∈ xAll := xm6 (n := 229) rfl rfl
theorem k13_287 : Cond.methodLink (xCn 13) 287 mX11_rotate.1 ∈ xAll := xm7 (n := 11) rfl rfl
theorem k13_290 : Cond.methodLink (xCn 13) 290 mL_floors.1 ∈ xAll := xm6 (n := 138) rfl rfl
theorem k13_293 : Cond.methodLink (xCn 13) 293 mX11_setHeat.1 ∈ xAll := xm7 (n := 20) rfl rfl
theorem k13_296 : Cond.methodLink (xCn 13) 296 mX11_setGear.1 ∈ xAll := xm7 (n := 29) rfl rfl
theorem k13_299 : Cond.methodLink (xCn 13) 299 mX11_setWind.1 ∈ xAll := xm7 (n := 38) rfl rfl
theorem k13_305 : Cond.methodLink (xCn 13) 305 mX11_sell.1 ∈ xAll := xm7 (n := 56) rfl rfl
theorem k13_308 : Cond.methodLink (xCn 13) 308 mX11_quench.1 ∈ xAll := xm7 (n := 71) rfl rfl
theorem k13_311 : Cond.methodLink (xCn 13) 311 mL_passes.1 ∈ xAll := xm7 (n := 81) rfl rfl
theorem k13_314 : Cond.methodLink (xCn 13) 314 mX11_advance.1 ∈ xAll := xm7 (n := 85) rfl rfl
theorem k12_25 : Cond.methodLink (xCn 12) 25 mX12_quality.1 ∈ xAll := xm6 (n := 114) rfl rfl
theorem k19_32 : Cond.methodLink (xCn 19) 32 mJ0_length_8abf5.1 ∈ xAll := xm3 (n := 186) rfl rfl
theorem k19_40 : Cond.methodLink (xCn 19) 40 mJ0_coder_7d493.1 ∈ xAll := xm3 (n := 189) rfl rfl
theorem k19_43 : Cond.methodLink (xCn 19) 43 mJ5_append_cf1ce.1 ∈ xAll := xm3 (n := 197) rfl rfl
theorem k19_83 : Cond.methodLink (xCn 19) 83 mJ5_isLatin1_aae02.1 ∈ xAll := xm4 (n := 6) rfl rfl
theorem k19_100 : Cond.methodLink (xCn 19) 100 mJ5_ensureCapacityInternal_d00df.1 ∈ xAll := xm3 (n := 214) rfl rfl
theorem k19_104 : Cond.methodLink (xCn 19) 104 mJ5_newCapacity_0f7a4.1 ∈ xAll := xm3 (n := 218) rfl rfl
theorem k19_108 : Cond.methodLink (xCn 19) 108 mJ7_copyOf_9075b.1 ∈ xAll := xm3 (n := 232) rfl rfl
theorem k19_114 : Cond.methodLink (xCn 19) 114 mJ8_newLength_cabcc.1 ∈ xAll := xm3 (n := 222) rfl rfl
theorem k19_191 : Cond.methodLink (xCn 19) 191 mJ1_canEncode_fc78d.1 ∈ xAll := xm4 (n := 104) rfl rfl
theorem k19_208 : Cond.methodLink (xCn 19) 208 mJ5_putStringAt_47b60.1 ∈ xAll := xm4 (n := 27) rfl rfl
theorem k19_245 : Cond.methodLink (xCn 19) 245 mJ6_stringSize_0f7a4.1 ∈ xAll := xm4 (n := 79) rfl rfl
theorem k19_248 : Cond.methodLink (xCn 19) 248 mJ6_getChars_ba4f3.1 ∈ xAll := xm4 (n := 82) rfl rfl
theorem k19_397 : Cond.methodLink (xCn 19) 397 mJ5_inflateIfNeededFor_a7421.1 ∈ xAll := xm4 (n := 31) rfl rfl
theorem k19_399 : Cond.methodLink (xCn 19) 399 mJ0_getBytes_840e7.1 ∈ xAll := xm4 (n := 54) rfl rfl
theorem k14_54 : Cond.methodLink (xCn 14) 54 mJ7_copyOfRange_39247.1 ∈ xAll := xm4 (n := 186) rfl rfl
theorem k14_335 : Cond.methodLink (xCn 14) 335 mJ0_coder_7d493.1 ∈ xAll := xm2 (n := 92) rfl rfl
theorem k14_489 : Cond.methodLink (xCn 14) 489 mJ0_init_db425.1 ∈ xAll := xm4 (n := 168) rfl rfl
theorem k14_492 : Cond.methodLink (xCn 14) 492 mJ0_isLatin1_aae02.1 ∈ xAll := xm2 (n := 102) rfl rfl
theorem k14_495 : Cond.methodLink (xCn 14) 495 mJ1_charAt_3b067.1 ∈ xAll := xm2 (n := 106) rfl rfl
theorem k14_549 : Cond.methodLink (xCn 14) 549 mJ5_length_8abf5.1 ∈ xAll := xm4 (n := 177) rfl rfl
theorem k14_552 : Cond.methodLink (xCn 14) 552 mJ5_getValue_6d5f1.1 ∈ xAll := xm4 (n := 172) rfl rfl
theorem k14_1047 : Cond.methodLink (xCn 14) 1047 mJ5_isLatin1_aae02.1 ∈ xAll := xm4 (n := 185) rfl rfl
theorem k14_1059 : Cond.methodLink (xCn 14) 1059 mJ3_checkIndex_8e157.1 ∈ xAll := xm2 (n := 114) rfl rfl
theorem k15_7 : Cond.methodLink (xCn 15) 7 mJ5_init_a7421.1 ∈ xAll := xm3 (n := 182) rfl rfl
theorem k15_23 : Cond.methodLink (xCn 15) 23 mJ4_append_15ec4.1 ∈ xAll := xm3 (n := 203) rfl rfl
theorem k15_29 : Cond.methodLink (xCn 15) 29 mJ5_append_cf1ce.1 ∈ xAll := xm3 (n := 207) rfl rfl
theorem k15_50 : Cond.methodLink (xCn 15) 50 mJ5_append_3fe6f.1 ∈ xAll := xm4 (n := 101) rfl rfl
theorem k15_53 : Cond.methodLink (xCn 15) 53 mJ5_append_c97b9.1 ∈ xAll := xm4 (n := 76) rfl rfl
theorem k15_137 : Cond.methodLink (xCn 15) 137 mJ0_init_81219.1 ∈ xAll := xm4 (n := 165) rfl rfl
theorem k15_343 : Cond.methodLink (xCn 15) 343 mJ5_length_8abf5.1 ∈ xAll := xm4 (n := 183) rfl rfl
theorem k17_9 : Cond.methodLink (xCn 17) 9 mJ0_checkIndex_df160.1 ∈ xAll := xm2 (n := 109) rfl rfl
theorem k23_1 : Cond.methodLink (xCn 23) 1 mJxa1e45_init_da8c8.1 ∈ xAll := xm3 (n := 113) rfl rfl
theorem k16_1 : Cond.methodLink (xCn 16) 1 mJxc12de_init_da8c8.1 ∈ xAll := xm3 (n := 110) rfl rfl
theorem k16_66 : Cond.methodLink (xCn 16) 66 mJ7_copyOf_1904c.1 ∈ xAll := xm6 (n := 193) rfl rfl
theorem k16_69 : Cond.methodLink (xCn 16) 69 mJx4a65c_grow_92f84.1 ∈ xAll := xm6 (n := 188) rfl rfl
theorem k16_73 : Cond.methodLink (xCn 16) 73 mJ8_newLength_cabcc.1 ∈ xAll := xm6 (n := 192) rfl rfl
theorem k16_118 : Cond.methodLink (xCn 16) 118 mJ15_checkIndex_7cf53.1 ∈ xAll := xm6 (n := 42) rfl rfl
theorem k16_123 : Cond.methodLink (xCn 16) 123 mJx4a65c_elementData_915e3.1 ∈ xAll := xm6 (n := 46) rfl rfl
theorem k16_129 : Cond.methodLink (xCn 16) 129 mJx4a65c_grow_d5877.1 ∈ xAll := xm6 (n := 184) rfl rfl
theorem k16_131 : Cond.methodLink (xCn 16) 131 mJx4a65c_add_72be8.1 ∈ xAll := xm6 (n := 180) rfl rfl
theorem k21_300 : Cond.methodLink (xCn 21) 300 mJ7_copyOf_6403c.1 ∈ xAll := xm6 (n := 221) rfl rfl
theorem k21_339 : Cond.methodLink (xCn 21) 339 mJ7_copyOfRangeByte_39247.1 ∈ xAll := xm4 (n := 189) rfl rfl
theorem k21_343 : Cond.methodLink (xCn 21) 343 mJ7_checkLength_df160.1 ∈ xAll := xm4 (n := 192) rfl rfl
theorem k25_105 : Cond.methodLink (xCn 25) 105 mJ3_checkIndex_8e157.1 ∈ xAll := xm6 (n := 45) rfl rfl
theorem kf19_15 : Cond.fieldLink (xCn 19) 15 "java/lang/AbstractStringBuilder" "value" "[B" ∈ xAll := xm4 (n := 60) rfl rfl
theorem kf19_18 : Cond.fieldLink (xCn 19) 18 "java/lang/String" "COMPACT_STRINGS" "Z" ∈ xAll := xm4 (n := 11) rfl rfl
theorem kf19_22 : Cond.fieldLink (xCn 19) 22 "java/lang/AbstractStringBuilder" "coder" "B" ∈ xAll := xm4 (n := 61) rfl rfl
theorem kf19_79 : Cond.fieldLink (xCn 19) 79 "java/lang/AbstractStringBuilder" "count" "I" ∈ xAll := xm4 (n := 63) rfl rfl
theorem kf20_83 : Cond.fieldLink (xCn 20) 83 "java/lang/Integer" "DigitOnes" "[B" ∈ xAll := xm4 (n := 85) rfl rfl
theorem kf20_87 : Cond.fieldLink (xCn 20) 87 "java/lang/Integer" "DigitTens" "[B" ∈ xAll := xm4 (n := 87) rfl rfl
theorem kf14_9 : Cond.fieldLink (xCn 14) 9 "java/lang/String" "value" "[B" ∈ xAll := xm4 (n := 205) rfl rfl
theorem kf14_15 : Cond.fieldLink (xCn 14) 15 "java/lang/String" "coder" "B" ∈ xAll := xm4 (n := 206) rfl rfl
theorem kf14_38 : Cond.fieldLink (xCn 14) 38 "java/lang/String" "COMPACT_STRINGS" "Z" ∈ xAll := xm2 (n := 96) rfl rfl
theorem kf14_1048 : Cond.fieldLink (xCn 14) 1048 "java/lang/AbstractStringBuilder" "maybeLatin1" "Z" ∈ xAll := xm4 (n := 62) rfl rfl
theorem kf14_1053 : Cond.fieldLink (xCn 14) 1053 "jdk/internal/util/Preconditions" "SIOOBE_FORMATTER" "Ljava/util/function/BiFunction;" ∈ xAll := xm2 (n := 112) rfl rfl
theorem kf23_7 : Cond.fieldLink (xCn 23) 7 "java/util/AbstractList" "modCount" "I" ∈ xAll := xm3 (n := 121) rfl rfl
theorem kf16_9 : Cond.fieldLink (xCn 16) 9 "java/util/ArrayList" "elementData" "[Ljava/lang/Object;" ∈ xAll := xm3 (n := 119) rfl rfl
theorem kf16_39 : Cond.fieldLink (xCn 16) 39 "java/util/ArrayList" "DEFAULTCAPACITY_EMPTY_ELEMENTDATA" "[Ljava/lang/Object;" ∈ xAll := xm3 (n := 117) rfl rfl
theorem kf16_48 : Cond.fieldLink (xCn 16) 48 "java/util/ArrayList" "size" "I" ∈ xAll := xm3 (n := 120) rfl rfl
theorem kf16_63 : Cond.fieldLink (xCn 16) 63 "java/util/ArrayList" "modCount" "I" ∈ xAll := xm3 (n := 122) rfl rfl
theorem xobj : Cond.instanceMethod objectInit ∈ xAll ∧ Cond.code objectInit ⟨#[0xb1]⟩ 1 none ∈ xAll := ⟨xm1 (n := 43) rfl rfl, xm1 (n := 44) rfl rfl⟩
def xOL : List (Nat × Nat) := [(11, 1), (0, 3), (1, 3), (2, 3), (3, 3), (4, 3), (5, 3), (6, 3), (7, 3), (8, 3), (9, 3), (10, 3), (13, 1), (12, 1), (19, 3), (14, 1), (24, 1)]
theorem xOL_ok : ∀ q ∈ xOL, Cond.methodLink (xCn q.1) q.2 objectInit ∈ xAll := List.forall_mem_cons.mpr ⟨xm1 (n := 42) rfl rfl, List.forall_mem_cons.mpr ⟨xm1 (n := 56) rfl rfl, List.forall_mem_cons.mpr ⟨xm1 (n := 84) rfl rfl, List.forall_mem_cons.mpr ⟨xm1 (n := 200) rfl rfl, List.forall_mem_cons.mpr ⟨xm1 (n := 50) rfl rfl, List.forall_mem_cons.mpr ⟨xm2 (n := 80) rfl rfl, List.forall_mem_cons.mpr ⟨xm1 (n := 117) rfl rfl, List.forall_mem_cons.mpr ⟨xm2 (n := 39) rfl rfl, List.forall_mem_cons.mpr ⟨xm2 (n := 57) rfl rfl, List.forall_mem_cons.mpr ⟨xm2 (n := 26) rfl rfl, List.forall_mem_cons.mpr ⟨xm1 (n := 225) rfl rfl, List.forall_mem_cons.mpr ⟨xm2 (n := 0) rfl rfl, List.forall_mem_cons.mpr ⟨xm3 (n := 104) rfl rfl, List.forall_mem_cons.mpr ⟨xm4 (n := 118) rfl rfl, List.forall_mem_cons.mpr ⟨xm3 (n := 185) rfl rfl, List.forall_mem_cons.mpr ⟨xm4 (n := 171) rfl rfl, List.forall_mem_cons.mpr ⟨xm3 (n := 116) rfl rfl, fun _ h => nomatch h⟩⟩⟩⟩⟩⟩⟩⟩⟩⟩⟩⟩⟩⟩⟩⟩⟩
def xAL : List (Nat × Nat) := [(1, 28), (5, 40), (14, 212), (21, 150)]
theorem xAL_ok : ∀ q ∈ xAL, Cond.methodLink (xCn q.1) q.2 arraycopyName ∈ xAll := List.forall_mem_cons.mpr ⟨xm3 (n := 48) rfl rfl, List.forall_mem_cons.mpr ⟨xm3 (n := 55) rfl rfl, List.forall_mem_cons.mpr ⟨xm4 (n := 58) rfl rfl, List.forall_mem_cons.mpr ⟨xm4 (n := 5) rfl rfl, fun _ h => nomatch h⟩⟩⟩⟩
theorem xac : Cond.native arraycopyName ∈ xAll ∧ Cond.static arraycopyName ∈ xAll ∧ Cond.initialized "java/lang/System" ∈ xAll := ⟨xm3 (n := 50) rfl rfl, xm3 (n := 49) rfl rfl, xm1 (n := 17) rfl rfl⟩
theorem xar_int : Cond.arrayClass .int ∈ xAll := xm1 (n := 111) rfl rfl
theorem xar_boolean : Cond.arrayClass .boolean ∈ xAll := xm1 (n := 219) rfl rfl
theorem xar_byte : Cond.arrayClass .byte ∈ xAll := xm3 (n := 95) rfl rfl
def xNT : List (Nat × Nat × Nat) := [(11, 7, 3), (11, 22, 2), (11, 29, 9), (11, 36, 10), (11, 45, 8), (11, 54, 6), (11, 61, 7), (11, 70, 4), (2, 9, 3), (3, 9, 0), (3, 18, 1), (3, 25, 5), (13, 7, 16), (13, 11, 13), (13, 17, 11), (13, 74, 12), (13, 141, 15), (15, 18, 14)]
def xNok (q : Nat × Nat × Nat) : Prop := ∃ r, vwCl[q.2.2]? = some r ∧ Cond.classLink (xCn q.1) q.2.1 r.1 ∈ xAll ∧ Cond.instantiable r.1 r.2.2 ∈ xAll ∧ Cond.initialized r.1 ∈ xAll
theorem xNT_ok : ∀ q ∈ xNT, xNok q := List.forall_mem_cons.mpr ⟨⟨_, rfl, xm1 (n := 45) rfl rfl, xm1 (n := 46) rfl rfl, xm1 (n := 2) rfl rfl⟩, List.forall_mem_cons.mpr ⟨⟨_, rfl, xm1 (n := 195) rfl rfl, xm1 (n := 196) rfl rfl, xm1 (n := 6) rfl rfl⟩, List.forall_mem_cons.mpr ⟨⟨_, rfl, xm1 (n := 220) rfl rfl, xm1 (n := 221) rfl rfl, xm1 (n := 7) rfl rfl⟩, List.forall_mem_cons.mpr ⟨⟨_, rfl, xm1 (n := 235) rfl rfl, xm1 (n := 236) rfl rfl, xm1 (n := 8) rfl rfl⟩, List.forall_mem_cons.mpr ⟨⟨_, rfl, xm2 (n := 21) rfl rfl, xm2 (n := 22) rfl rfl, xm1 (n := 9) rfl rfl⟩, List.forall_mem_cons.mpr ⟨⟨_, rfl, xm2 (n := 34) rfl rfl, xm2 (n := 35) rfl rfl, xm1 (n := 10) rfl rfl⟩, List.forall_mem_cons.mpr ⟨⟨_, rfl, xm2 (n := 52) rfl rfl, xm2 (n := 53) rfl rfl, xm1 (n := 11) rfl rfl⟩, List.forall_mem_cons.mpr ⟨⟨_, rfl, xm2 (n := 75) rfl rfl, xm2 (n := 76) rfl rfl, xm1 (n := 12) rfl rfl⟩, List.forall_mem_cons.mpr ⟨⟨_, rfl, xm1 (n := 201) rfl rfl, xm1 (n := 46) rfl rfl, xm1 (n := 2) rfl rfl⟩, List.forall_mem_cons.mpr ⟨⟨_, rfl, xm1 (n := 51) rfl rfl, xm1 (n := 52) rfl rfl, xm1 (n := 3) rfl rfl⟩, List.forall_mem_cons.mpr ⟨⟨_, rfl, xm1 (n := 79) rfl rfl, xm1 (n := 80) rfl rfl, xm1 (n := 4) rfl rfl⟩, List.forall_mem_cons.mpr ⟨⟨_, rfl, xm1 (n := 112) rfl rfl, xm1 (n := 113) rfl rfl, xm1 (n := 5) rfl rfl⟩, List.forall_mem_cons.mpr ⟨⟨_, rfl, xm3 (n := 105) rfl rfl, xm3 (n := 106) rfl rfl, xm1 (n := 20) rfl rfl⟩, List.forall_mem_cons.mpr ⟨⟨_, rfl, xm3 (n := 99) rfl rfl, xm3 (n := 100) rfl rfl, xm1 (n := 0) rfl rfl⟩, List.forall_mem_cons.mpr ⟨⟨_, rfl, xm1 (n := 37) rfl rfl, xm1 (n := 38) rfl rfl, xm1 (n := 1) rfl rfl⟩, List.forall_mem_cons.mpr ⟨⟨_, rfl, xm4 (n := 110) rfl rfl, xm4 (n := 114) rfl rfl, xm1 (n := 28) rfl rfl⟩, List.forall_mem_cons.mpr ⟨⟨_, rfl, xm3 (n := 176) rfl rfl, xm3 (n := 177) rfl rfl, xm1 (n := 22) rfl rfl⟩, List.forall_mem_cons.mpr ⟨⟨_, rfl, xm4 (n := 163) rfl rfl, xm4 (n := 164) rfl rfl, xm1 (n := 13) rfl rfl⟩, fun _ h => nomatch h⟩⟩⟩⟩⟩⟩⟩⟩⟩⟩⟩⟩⟩⟩⟩⟩⟩⟩
def xKL : List (Nat × Nat × Int64) := []
theorem xKL_ok : ∀ q ∈ xKL, Cond.constantLong (xCn q.1) q.2.1 q.2.2 ∈ xAll := fun _ h => nomatch h
def xKI : List (Nat × Nat × Int32) := [(13, 36, 1664525), (13, 37, 1013904223), (19, 38, 2147483631), (19, 39, 2147483647), (22, 200, 2147483639)]
theorem xKI_ok : ∀ q ∈ xKI, Cond.constant (xCn q.1) q.2.1 q.2.2 ∈ xAll := List.forall_mem_cons.mpr ⟨xm3 (n := 174) rfl rfl, List.forall_mem_cons.mpr ⟨xm3 (n := 175) rfl rfl, List.forall_mem_cons.mpr ⟨xm3 (n := 187) rfl rfl, List.forall_mem_cons.mpr ⟨xm3 (n := 188) rfl rfl, List.forall_mem_cons.mpr ⟨xm3 (n := 228) rfl rfl, fun _ h => nomatch h⟩⟩⟩⟩⟩
