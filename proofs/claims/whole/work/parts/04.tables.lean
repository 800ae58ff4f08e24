/-- a word that stays good over calls -/
def hw_T : List Cond := lw_tbl.filter goodWord
def hw_isN : Cond → Bool
  | .fieldLinkNest _ _ _ _ _ _ => true
  | .methodLinkNest _ _ _ _ => true
  | _ => false
def hw_N : List Cond := lw_tbl.filter hw_isN
theorem hw_memT {w : Cond} (i : Nat) (h : lw_tbl[i]? = some w) (g : goodWord w = true) : w ∈ hw_T := List.mem_filter.mpr ⟨List.mem_of_getElem? h, g⟩
theorem hw_memN {w : Cond} (i : Nat) (h : lw_tbl[i]? = some w) (g : hw_isN w = true) : w ∈ hw_N := List.mem_filter.mpr ⟨List.mem_of_getElem? h, g⟩
def hw_nm : Nat → String
  | 0 => RX0
  | 1 => RX1
  | 2 => RX2
  | 3 => RX3
  | 4 => RX4
  | 5 => RX5
  | 6 => RX6
  | 7 => RX7
  | 8 => RX8
  | 9 => RX9
  | 10 => RX10
  | 11 => RX11
  | 12 => RL
  | _ => RJ6
def hw_ty : Nat → Nat → FieldType
  | 0 => tyX0
  | 1 => tyX1
  | 2 => tyX2
  | 3 => tyX3
  | 4 => tyX4
  | 5 => tyX5
  | 6 => tyX6
  | 7 => tyX7
  | 8 => tyX8
  | 9 => tyX9
  | 10 => tyX10
  | _ => tyX11
/-- what the tables say of a class whose objects are made -/
def hw_okc (c : Nat) (q : vw_C) : Prop := (∀ w ∈ u_ws q.1 q.2.1 q.2.2, w ∈ hw_T) ∧ (∀ k, k < q.2.2 → parseFieldDescriptor (q.2.1 k).2.2.1 = some (hw_ty c k)) ∧ (∀ a, a < q.2.2 → ∀ b, b < q.2.2 → a ≠ b → (q.2.1 a).2.1 ≠ (q.2.1 b).2.1) ∧ Cond.instantiable q.1 q.2.2 ∈ hw_T ∧ Cond.initialized q.1 ∈ hw_T ∧ q.1 = hw_nm c
theorem hw_okc_0 : hw_okc 0 (RX0, TX0, 4) := by
  refine ⟨fun w hw => ?_, tyX0_ok, nmX0, hw_memT 276 (by decide +kernel) (by decide +kernel), hw_memT 72 (by decide +kernel) (by decide +kernel), rfl⟩
  obtain ⟨k, hk, rfl⟩ := List.mem_map.mp hw
  have hk := List.mem_range.mp hk
  have key : ∀ j, j < 4 → lw_tbl[([289, 291, 293, 295] : List Nat).getD j 0]? = some (u_lay RX0 TX0 j) ∧ goodWord (u_lay RX0 TX0 j) = true := by decide +kernel
  exact hw_memT _ (key k hk).1 (key k hk).2
theorem hw_okc_1 : hw_okc 1 (RX1, TX1, 3) := by
  refine ⟨fun w hw => ?_, tyX1_ok, nmX1, hw_memT 116 (by decide +kernel) (by decide +kernel), hw_memT 65 (by decide +kernel) (by decide +kernel), rfl⟩
  obtain ⟨k, hk, rfl⟩ := List.mem_map.mp hw
  have hk := List.mem_range.mp hk
  have key : ∀ j, j < 3 → lw_tbl[([127, 129, 131] : List Nat).getD j 0]? = some (u_lay RX1 TX1 j) ∧ goodWord (u_lay RX1 TX1 j) = true := by decide +kernel
  exact hw_memT _ (key k hk).1 (key k hk).2
theorem hw_okc_2 : hw_okc 2 (RX2, TX2, 4) := by
  refine ⟨fun w hw => ?_, tyX2_ok, nmX2, hw_memT 179 (by decide +kernel) (by decide +kernel), hw_memT 68 (by decide +kernel) (by decide +kernel), rfl⟩
  obtain ⟨k, hk, rfl⟩ := List.mem_map.mp hw
  have hk := List.mem_range.mp hk
  have key : ∀ j, j < 4 → lw_tbl[([193, 195, 197, 199] : List Nat).getD j 0]? = some (u_lay RX2 TX2 j) ∧ goodWord (u_lay RX2 TX2 j) = true := by decide +kernel
  exact hw_memT _ (key k hk).1 (key k hk).2
theorem hw_okc_3 : hw_okc 3 (RX3, TX3, 4) := by
  refine ⟨fun w hw => ?_, tyX3_ok, nmX3, hw_memT 203 (by decide +kernel) (by decide +kernel), hw_memT 69 (by decide +kernel) (by decide +kernel), rfl⟩
  obtain ⟨k, hk, rfl⟩ := List.mem_map.mp hw
  have hk := List.mem_range.mp hk
  have key : ∀ j, j < 4 → lw_tbl[([214, 216, 218, 220] : List Nat).getD j 0]? = some (u_lay RX3 TX3 j) ∧ goodWord (u_lay RX3 TX3 j) = true := by decide +kernel
  exact hw_memT _ (key k hk).1 (key k hk).2
theorem hw_okc_4 : hw_okc 4 (RX4, TX4, 2) := by
  refine ⟨fun w hw => ?_, tyX4_ok, nmX4, hw_memT 91 (by decide +kernel) (by decide +kernel), hw_memT 63 (by decide +kernel) (by decide +kernel), rfl⟩
  obtain ⟨k, hk, rfl⟩ := List.mem_map.mp hw
  have hk := List.mem_range.mp hk
  have key : ∀ j, j < 2 → lw_tbl[([102, 104] : List Nat).getD j 0]? = some (u_lay RX4 TX4 j) ∧ goodWord (u_lay RX4 TX4 j) = true := by decide +kernel
  exact hw_memT _ (key k hk).1 (key k hk).2
theorem hw_okc_5 : hw_okc 5 (RX5, TX5, 2) := by
  refine ⟨fun w hw => ?_, tyX5_ok, nmX5, hw_memT 135 (by decide +kernel) (by decide +kernel), hw_memT 66 (by decide +kernel) (by decide +kernel), rfl⟩
  obtain ⟨k, hk, rfl⟩ := List.mem_map.mp hw
  have hk := List.mem_range.mp hk
  have key : ∀ j, j < 2 → lw_tbl[([144, 146] : List Nat).getD j 0]? = some (u_lay RX5 TX5 j) ∧ goodWord (u_lay RX5 TX5 j) = true := by decide +kernel
  exact hw_memT _ (key k hk).1 (key k hk).2
theorem hw_okc_6 : hw_okc 6 (RX6, TX6, 5) := by
  refine ⟨fun w hw => ?_, tyX6_ok, nmX6, hw_memT 150 (by decide +kernel) (by decide +kernel), hw_memT 67 (by decide +kernel) (by decide +kernel), rfl⟩
  obtain ⟨k, hk, rfl⟩ := List.mem_map.mp hw
  have hk := List.mem_range.mp hk
  have key : ∀ j, j < 5 → lw_tbl[([167, 169, 171, 173, 175] : List Nat).getD j 0]? = some (u_lay RX6 TX6 j) ∧ goodWord (u_lay RX6 TX6 j) = true := by decide +kernel
  exact hw_memT _ (key k hk).1 (key k hk).2
theorem hw_okc_7 : hw_okc 7 (RX7, TX7, 1) := by
  refine ⟨fun w hw => ?_, tyX7_ok, nmX7, hw_memT 85 (by decide +kernel) (by decide +kernel), hw_memT 62 (by decide +kernel) (by decide +kernel), rfl⟩
  obtain ⟨k, hk, rfl⟩ := List.mem_map.mp hw
  have hk := List.mem_range.mp hk
  have key : ∀ j, j < 1 → lw_tbl[([110] : List Nat).getD j 0]? = some (u_lay RX7 TX7 j) ∧ goodWord (u_lay RX7 TX7 j) = true := by decide +kernel
  exact hw_memT _ (key k hk).1 (key k hk).2
theorem hw_okc_8 : hw_okc 8 (RX8, TX8, 5) := by
  refine ⟨fun w hw => ?_, tyX8_ok, nmX8, hw_memT 249 (by decide +kernel) (by decide +kernel), hw_memT 71 (by decide +kernel) (by decide +kernel), rfl⟩
  obtain ⟨k, hk, rfl⟩ := List.mem_map.mp hw
  have hk := List.mem_range.mp hk
  have key : ∀ j, j < 5 → lw_tbl[([263, 265, 267, 269, 271] : List Nat).getD j 0]? = some (u_lay RX8 TX8 j) ∧ goodWord (u_lay RX8 TX8 j) = true := by decide +kernel
  exact hw_memT _ (key k hk).1 (key k hk).2
theorem hw_okc_9 : hw_okc 9 (RX9, TX9, 4) := by
  refine ⟨fun w hw => ?_, tyX9_ok, nmX9, hw_memT 224 (by decide +kernel) (by decide +kernel), hw_memT 70 (by decide +kernel) (by decide +kernel), rfl⟩
  obtain ⟨k, hk, rfl⟩ := List.mem_map.mp hw
  have hk := List.mem_range.mp hk
  have key : ∀ j, j < 4 → lw_tbl[([239, 241, 243, 245] : List Nat).getD j 0]? = some (u_lay RX9 TX9 j) ∧ goodWord (u_lay RX9 TX9 j) = true := by decide +kernel
  exact hw_memT _ (key k hk).1 (key k hk).2
theorem hw_okc_10 : hw_okc 10 (RX10, TX10, 15) := by
  refine ⟨fun w hw => ?_, tyX10_ok, nmX10, hw_memT 77 (by decide +kernel) (by decide +kernel), hw_memT 61 (by decide +kernel) (by decide +kernel), rfl⟩
  obtain ⟨k, hk, rfl⟩ := List.mem_map.mp hw
  have hk := List.mem_range.mp hk
  have key : ∀ j, j < 15 → lw_tbl[([397, 399, 401, 403, 405, 407, 409, 411, 413, 415, 417, 419, 421, 423, 425] : List Nat).getD j 0]? = some (u_lay RX10 TX10 j) ∧ goodWord (u_lay RX10 TX10 j) = true := by decide +kernel
  exact hw_memT _ (key k hk).1 (key k hk).2
theorem hw_okc_11 : hw_okc 11 (RX11, TX11, 53) := by
  refine ⟨fun w hw => ?_, tyX11_ok, nmX11, hw_memT 1052 (by decide +kernel) (by decide +kernel), hw_memT 73 (by decide +kernel) (by decide +kernel), rfl⟩
  obtain ⟨k, hk, rfl⟩ := List.mem_map.mp hw
  have hk := List.mem_range.mp hk
  have key : ∀ j, j < 53 → lw_tbl[([1110, 1112, 1114, 1116, 1118, 1120, 1122, 1124, 1126, 1128, 1130, 1132, 1134, 1136, 1138, 1140, 1142, 1144, 1146, 1148, 1150, 1152, 1154, 1156, 1158, 1160, 1162, 1164, 1166, 1168, 1170, 1172, 1174, 1176, 1178, 1180, 1182, 1184, 1186, 1188, 1190, 1192, 1194, 1196, 1198, 1200, 1202, 1204, 1206, 1208, 1210, 1212, 1214] : List Nat).getD j 0]? = some (u_lay RX11 TX11 j) ∧ goodWord (u_lay RX11 TX11 j) = true := by decide +kernel
  exact hw_memT _ (key k hk).1 (key k hk).2
theorem hw_cls : ∀ (c : Nat) (q : vw_C), vwCl[c]? = some q → hw_okc c q := by
  intro c q h
  match c, h with
  | 0, h => cases h; exact hw_okc_0
  | 1, h => cases h; exact hw_okc_1
  | 2, h => cases h; exact hw_okc_2
  | 3, h => cases h; exact hw_okc_3
  | 4, h => cases h; exact hw_okc_4
  | 5, h => cases h; exact hw_okc_5
  | 6, h => cases h; exact hw_okc_6
  | 7, h => cases h; exact hw_okc_7
  | 8, h => cases h; exact hw_okc_8
  | 9, h => cases h; exact hw_okc_9
  | 10, h => cases h; exact hw_okc_10
  | 11, h => cases h; exact hw_okc_11
  | c + 12, h => simp [vwCl] at h
def hw_FT : List (Nat × Nat × Nat × Nat) := [(0, 9, 0, 0), (0, 15, 0, 1), (0, 19, 0, 2), (0, 32, 0, 3), (1, 14, 1, 0), (1, 20, 1, 1), (1, 23, 1, 2), (2, 14, 2, 0), (2, 20, 2, 1), (2, 23, 2, 2), (2, 26, 2, 3), (3, 16, 3, 0), (3, 20, 3, 1), (3, 23, 3, 2), (3, 27, 3, 3), (3, 53, 7, 0), (4, 15, 4, 0), (4, 21, 4, 1), (5, 14, 5, 0), (5, 20, 5, 1), (5, 43, 1, 2), (6, 14, 6, 0), (6, 20, 6, 1), (6, 23, 6, 2), (6, 26, 6, 3), (6, 32, 6, 4), (7, 14, 7, 0), (7, 24, 4, 1), (8, 12, 8, 0), (8, 21, 8, 1), (8, 25, 8, 3), (8, 28, 8, 4), (8, 49, 8, 2), (9, 12, 9, 2), (9, 23, 9, 3), (10, 11, 10, 0), (10, 18, 10, 1), (10, 27, 10, 2), (10, 34, 10, 3), (10, 41, 10, 4), (10, 48, 10, 5), (10, 55, 10, 6), (10, 59, 10, 7), (10, 63, 10, 8), (10, 69, 10, 9), (10, 76, 10, 10), (10, 80, 10, 11), (10, 83, 10, 12), (10, 89, 10, 13), (10, 95, 10, 14), (10, 208, 6, 2), (10, 211, 6, 4), (10, 214, 6, 0), (10, 217, 6, 1), (10, 220, 6, 3), (10, 245, 2, 1), (10, 246, 2, 2), (10, 247, 2, 3), (10, 253, 8, 1), (10, 256, 8, 0), (10, 281, 9, 0), (10, 284, 9, 1), (10, 285, 9, 2), (10, 289, 9, 3), (10, 310, 0, 1), (10, 322, 0, 2), (10, 325, 0, 0), (10, 335, 0, 3), (11, 9, 11, 0), (11, 15, 11, 2), (11, 19, 11, 3), (11, 22, 11, 4), (11, 25, 11, 6), (11, 28, 11, 9), (11, 31, 11, 11), (11, 34, 11, 13), (11, 37, 11, 17), (11, 40, 11, 18), (11, 43, 11, 19), (11, 46, 11, 21), (11, 49, 11, 22), (11, 52, 11, 23), (11, 55, 11, 24), (11, 59, 11, 26), (11, 62, 11, 27), (11, 66, 11, 28), (11, 69, 11, 30), (11, 72, 11, 32), (11, 75, 11, 34), (11, 78, 11, 36), (11, 81, 11, 37), (11, 84, 11, 40), (11, 87, 11, 42), (11, 90, 11, 44), (11, 93, 11, 46), (11, 96, 11, 47), (11, 99, 11, 48), (11, 102, 11, 50), (11, 105, 11, 51), (11, 108, 11, 52), (11, 119, 11, 1), (11, 122, 11, 7), (11, 129, 11, 8), (11, 134, 11, 5), (11, 179, 11, 25), (11, 196, 11, 29), (11, 202, 11, 31), (11, 211, 11, 33), (11, 217, 11, 35), (11, 223, 11, 41), (11, 235, 11, 38), (11, 238, 11, 39), (11, 259, 11, 43), (11, 262, 11, 45), (11, 278, 11, 10), (11, 281, 11, 49), (11, 287, 11, 12), (11, 299, 11, 14), (11, 303, 11, 15), (11, 306, 11, 16), (11, 309, 11, 20)]
def hw_f (o i : Nat) : Option (Nat × Nat) := (hw_FT.find? (fun q => q.1 == o && q.2.1 == i)).map (fun q => (q.2.2.1, q.2.2.2))
def hw_fk (o i c k : Nat) : Prop := ∃ q : vw_C, vwCl[c]? = some q ∧ k < q.2.2 ∧ (Cond.fieldLink (hw_nm o) i (q.2.1 k).1 (q.2.1 k).2.1 (q.2.1 k).2.2.1 ∈ hw_T ∨ ∃ host, Cond.fieldLinkNest (hw_nm o) i (q.2.1 k).1 (q.2.1 k).2.1 (q.2.1 k).2.2.1 host ∈ hw_N)
theorem fk_0_9 : hw_fk 0 9 0 0 := ⟨_, rfl, by decide, Or.inl (hw_memT 281 (by decide +kernel) (by decide +kernel))⟩
theorem fk_0_15 : hw_fk 0 15 0 1 := ⟨_, rfl, by decide, Or.inl (hw_memT 283 (by decide +kernel) (by decide +kernel))⟩
theorem fk_0_19 : hw_fk 0 19 0 2 := ⟨_, rfl, by decide, Or.inl (hw_memT 285 (by decide +kernel) (by decide +kernel))⟩
theorem fk_0_32 : hw_fk 0 32 0 3 := ⟨_, rfl, by decide, Or.inl (hw_memT 287 (by decide +kernel) (by decide +kernel))⟩
theorem fk_1_14 : hw_fk 1 14 1 0 := ⟨_, rfl, by decide, Or.inl (hw_memT 123 (by decide +kernel) (by decide +kernel))⟩
theorem fk_1_20 : hw_fk 1 20 1 1 := ⟨_, rfl, by decide, Or.inl (hw_memT 124 (by decide +kernel) (by decide +kernel))⟩
theorem fk_1_23 : hw_fk 1 23 1 2 := ⟨_, rfl, by decide, Or.inl (hw_memT 125 (by decide +kernel) (by decide +kernel))⟩
theorem fk_2_14 : hw_fk 2 14 2 0 := ⟨_, rfl, by decide, Or.inl (hw_memT 186 (by decide +kernel) (by decide +kernel))⟩
theorem fk_2_20 : hw_fk 2 20 2 1 := ⟨_, rfl, by decide, Or.inl (hw_memT 187 (by decide +kernel) (by decide +kernel))⟩
theorem fk_2_23 : hw_fk 2 23 2 2 := ⟨_, rfl, by decide, Or.inl (hw_memT 189 (by decide +kernel) (by decide +kernel))⟩
theorem fk_2_26 : hw_fk 2 26 2 3 := ⟨_, rfl, by decide, Or.inl (hw_memT 191 (by decide +kernel) (by decide +kernel))⟩
theorem fk_3_16 : hw_fk 3 16 3 0 := ⟨_, rfl, by decide, Or.inl (hw_memT 210 (by decide +kernel) (by decide +kernel))⟩
theorem fk_3_20 : hw_fk 3 20 3 1 := ⟨_, rfl, by decide, Or.inl (hw_memT 211 (by decide +kernel) (by decide +kernel))⟩
theorem fk_3_23 : hw_fk 3 23 3 2 := ⟨_, rfl, by decide, Or.inl (hw_memT 212 (by decide +kernel) (by decide +kernel))⟩
theorem fk_3_27 : hw_fk 3 27 3 3 := ⟨_, rfl, by decide, Or.inl (hw_memT 213 (by decide +kernel) (by decide +kernel))⟩
theorem fk_3_53 : hw_fk 3 53 7 0 := ⟨_, rfl, by decide, Or.inr ⟨"HornRuleWorkbench", hw_memN 109 (by decide +kernel) (by decide +kernel)⟩⟩
theorem fk_4_15 : hw_fk 4 15 4 0 := ⟨_, rfl, by decide, Or.inl (hw_memT 99 (by decide +kernel) (by decide +kernel))⟩
theorem fk_4_21 : hw_fk 4 21 4 1 := ⟨_, rfl, by decide, Or.inl (hw_memT 100 (by decide +kernel) (by decide +kernel))⟩
theorem fk_5_14 : hw_fk 5 14 5 0 := ⟨_, rfl, by decide, Or.inl (hw_memT 142 (by decide +kernel) (by decide +kernel))⟩
theorem fk_5_20 : hw_fk 5 20 5 1 := ⟨_, rfl, by decide, Or.inl (hw_memT 143 (by decide +kernel) (by decide +kernel))⟩
theorem fk_5_43 : hw_fk 5 43 1 2 := ⟨_, rfl, by decide, Or.inr ⟨"HornRuleWorkbench", hw_memN 126 (by decide +kernel) (by decide +kernel)⟩⟩
theorem fk_6_14 : hw_fk 6 14 6 0 := ⟨_, rfl, by decide, Or.inl (hw_memT 157 (by decide +kernel) (by decide +kernel))⟩
theorem fk_6_20 : hw_fk 6 20 6 1 := ⟨_, rfl, by decide, Or.inl (hw_memT 159 (by decide +kernel) (by decide +kernel))⟩
theorem fk_6_23 : hw_fk 6 23 6 2 := ⟨_, rfl, by decide, Or.inl (hw_memT 161 (by decide +kernel) (by decide +kernel))⟩
theorem fk_6_26 : hw_fk 6 26 6 3 := ⟨_, rfl, by decide, Or.inl (hw_memT 163 (by decide +kernel) (by decide +kernel))⟩
theorem fk_6_32 : hw_fk 6 32 6 4 := ⟨_, rfl, by decide, Or.inl (hw_memT 165 (by decide +kernel) (by decide +kernel))⟩
theorem fk_7_14 : hw_fk 7 14 7 0 := ⟨_, rfl, by decide, Or.inl (hw_memT 108 (by decide +kernel) (by decide +kernel))⟩
theorem fk_7_24 : hw_fk 7 24 4 1 := ⟨_, rfl, by decide, Or.inr ⟨"HornRuleWorkbench", hw_memN 101 (by decide +kernel) (by decide +kernel)⟩⟩
theorem fk_8_12 : hw_fk 8 12 8 0 := ⟨_, rfl, by decide, Or.inl (hw_memT 256 (by decide +kernel) (by decide +kernel))⟩
theorem fk_8_21 : hw_fk 8 21 8 1 := ⟨_, rfl, by decide, Or.inl (hw_memT 258 (by decide +kernel) (by decide +kernel))⟩
theorem fk_8_25 : hw_fk 8 25 8 3 := ⟨_, rfl, by decide, Or.inl (hw_memT 261 (by decide +kernel) (by decide +kernel))⟩
theorem fk_8_28 : hw_fk 8 28 8 4 := ⟨_, rfl, by decide, Or.inl (hw_memT 262 (by decide +kernel) (by decide +kernel))⟩
theorem fk_8_49 : hw_fk 8 49 8 2 := ⟨_, rfl, by decide, Or.inl (hw_memT 260 (by decide +kernel) (by decide +kernel))⟩
theorem fk_9_12 : hw_fk 9 12 9 2 := ⟨_, rfl, by decide, Or.inl (hw_memT 235 (by decide +kernel) (by decide +kernel))⟩
theorem fk_9_23 : hw_fk 9 23 9 3 := ⟨_, rfl, by decide, Or.inl (hw_memT 237 (by decide +kernel) (by decide +kernel))⟩
theorem fk_10_11 : hw_fk 10 11 10 0 := ⟨_, rfl, by decide, Or.inl (hw_memT 382 (by decide +kernel) (by decide +kernel))⟩
theorem fk_10_18 : hw_fk 10 18 10 1 := ⟨_, rfl, by decide, Or.inl (hw_memT 383 (by decide +kernel) (by decide +kernel))⟩
theorem fk_10_27 : hw_fk 10 27 10 2 := ⟨_, rfl, by decide, Or.inl (hw_memT 384 (by decide +kernel) (by decide +kernel))⟩
theorem fk_10_34 : hw_fk 10 34 10 3 := ⟨_, rfl, by decide, Or.inl (hw_memT 385 (by decide +kernel) (by decide +kernel))⟩
theorem fk_10_41 : hw_fk 10 41 10 4 := ⟨_, rfl, by decide, Or.inl (hw_memT 386 (by decide +kernel) (by decide +kernel))⟩
theorem fk_10_48 : hw_fk 10 48 10 5 := ⟨_, rfl, by decide, Or.inl (hw_memT 387 (by decide +kernel) (by decide +kernel))⟩
theorem fk_10_55 : hw_fk 10 55 10 6 := ⟨_, rfl, by decide, Or.inl (hw_memT 388 (by decide +kernel) (by decide +kernel))⟩
theorem fk_10_59 : hw_fk 10 59 10 7 := ⟨_, rfl, by decide, Or.inl (hw_memT 389 (by decide +kernel) (by decide +kernel))⟩
theorem fk_10_63 : hw_fk 10 63 10 8 := ⟨_, rfl, by decide, Or.inl (hw_memT 390 (by decide +kernel) (by decide +kernel))⟩
theorem fk_10_69 : hw_fk 10 69 10 9 := ⟨_, rfl, by decide, Or.inl (hw_memT 391 (by decide +kernel) (by decide +kernel))⟩
theorem fk_10_76 : hw_fk 10 76 10 10 := ⟨_, rfl, by decide, Or.inl (hw_memT 392 (by decide +kernel) (by decide +kernel))⟩
theorem fk_10_80 : hw_fk 10 80 10 11 := ⟨_, rfl, by decide, Or.inl (hw_memT 393 (by decide +kernel) (by decide +kernel))⟩
theorem fk_10_83 : hw_fk 10 83 10 12 := ⟨_, rfl, by decide, Or.inl (hw_memT 394 (by decide +kernel) (by decide +kernel))⟩
theorem fk_10_89 : hw_fk 10 89 10 13 := ⟨_, rfl, by decide, Or.inl (hw_memT 395 (by decide +kernel) (by decide +kernel))⟩
theorem fk_10_95 : hw_fk 10 95 10 14 := ⟨_, rfl, by decide, Or.inl (hw_memT 396 (by decide +kernel) (by decide +kernel))⟩
theorem fk_10_208 : hw_fk 10 208 6 2 := ⟨_, rfl, by decide, Or.inr ⟨"HornRuleWorkbench", hw_memN 162 (by decide +kernel) (by decide +kernel)⟩⟩
theorem fk_10_211 : hw_fk 10 211 6 4 := ⟨_, rfl, by decide, Or.inr ⟨"HornRuleWorkbench", hw_memN 166 (by decide +kernel) (by decide +kernel)⟩⟩
theorem fk_10_214 : hw_fk 10 214 6 0 := ⟨_, rfl, by decide, Or.inr ⟨"HornRuleWorkbench", hw_memN 158 (by decide +kernel) (by decide +kernel)⟩⟩
theorem fk_10_217 : hw_fk 10 217 6 1 := ⟨_, rfl, by decide, Or.inr ⟨"HornRuleWorkbench", hw_memN 160 (by decide +kernel) (by decide +kernel)⟩⟩
theorem fk_10_220 : hw_fk 10 220 6 3 := ⟨_, rfl, by decide, Or.inr ⟨"HornRuleWorkbench", hw_memN 164 (by decide +kernel) (by decide +kernel)⟩⟩
theorem fk_10_245 : hw_fk 10 245 2 1 := ⟨_, rfl, by decide, Or.inr ⟨"HornRuleWorkbench", hw_memN 188 (by decide +kernel) (by decide +kernel)⟩⟩
theorem fk_10_246 : hw_fk 10 246 2 2 := ⟨_, rfl, by decide, Or.inr ⟨"HornRuleWorkbench", hw_memN 190 (by decide +kernel) (by decide +kernel)⟩⟩
theorem fk_10_247 : hw_fk 10 247 2 3 := ⟨_, rfl, by decide, Or.inr ⟨"HornRuleWorkbench", hw_memN 192 (by decide +kernel) (by decide +kernel)⟩⟩
theorem fk_10_253 : hw_fk 10 253 8 1 := ⟨_, rfl, by decide, Or.inr ⟨"HornRuleWorkbench", hw_memN 259 (by decide +kernel) (by decide +kernel)⟩⟩
theorem fk_10_256 : hw_fk 10 256 8 0 := ⟨_, rfl, by decide, Or.inr ⟨"HornRuleWorkbench", hw_memN 257 (by decide +kernel) (by decide +kernel)⟩⟩
theorem fk_10_281 : hw_fk 10 281 9 0 := ⟨_, rfl, by decide, Or.inr ⟨"HornRuleWorkbench", hw_memN 233 (by decide +kernel) (by decide +kernel)⟩⟩
theorem fk_10_284 : hw_fk 10 284 9 1 := ⟨_, rfl, by decide, Or.inr ⟨"HornRuleWorkbench", hw_memN 234 (by decide +kernel) (by decide +kernel)⟩⟩
theorem fk_10_285 : hw_fk 10 285 9 2 := ⟨_, rfl, by decide, Or.inr ⟨"HornRuleWorkbench", hw_memN 236 (by decide +kernel) (by decide +kernel)⟩⟩
theorem fk_10_289 : hw_fk 10 289 9 3 := ⟨_, rfl, by decide, Or.inr ⟨"HornRuleWorkbench", hw_memN 238 (by decide +kernel) (by decide +kernel)⟩⟩
theorem fk_10_310 : hw_fk 10 310 0 1 := ⟨_, rfl, by decide, Or.inr ⟨"HornRuleWorkbench", hw_memN 284 (by decide +kernel) (by decide +kernel)⟩⟩
theorem fk_10_322 : hw_fk 10 322 0 2 := ⟨_, rfl, by decide, Or.inr ⟨"HornRuleWorkbench", hw_memN 286 (by decide +kernel) (by decide +kernel)⟩⟩
theorem fk_10_325 : hw_fk 10 325 0 0 := ⟨_, rfl, by decide, Or.inr ⟨"HornRuleWorkbench", hw_memN 282 (by decide +kernel) (by decide +kernel)⟩⟩
theorem fk_10_335 : hw_fk 10 335 0 3 := ⟨_, rfl, by decide, Or.inr ⟨"HornRuleWorkbench", hw_memN 288 (by decide +kernel) (by decide +kernel)⟩⟩
theorem fk_11_9 : hw_fk 11 9 11 0 := ⟨_, rfl, by decide, Or.inl (hw_memT 1057 (by decide +kernel) (by decide +kernel))⟩
theorem fk_11_15 : hw_fk 11 15 11 2 := ⟨_, rfl, by decide, Or.inl (hw_memT 1059 (by decide +kernel) (by decide +kernel))⟩
theorem fk_11_19 : hw_fk 11 19 11 3 := ⟨_, rfl, by decide, Or.inl (hw_memT 1060 (by decide +kernel) (by decide +kernel))⟩
theorem fk_11_22 : hw_fk 11 22 11 4 := ⟨_, rfl, by decide, Or.inl (hw_memT 1061 (by decide +kernel) (by decide +kernel))⟩
theorem fk_11_25 : hw_fk 11 25 11 6 := ⟨_, rfl, by decide, Or.inl (hw_memT 1063 (by decide +kernel) (by decide +kernel))⟩
theorem fk_11_28 : hw_fk 11 28 11 9 := ⟨_, rfl, by decide, Or.inl (hw_memT 1066 (by decide +kernel) (by decide +kernel))⟩
theorem fk_11_31 : hw_fk 11 31 11 11 := ⟨_, rfl, by decide, Or.inl (hw_memT 1068 (by decide +kernel) (by decide +kernel))⟩
theorem fk_11_34 : hw_fk 11 34 11 13 := ⟨_, rfl, by decide, Or.inl (hw_memT 1070 (by decide +kernel) (by decide +kernel))⟩
theorem fk_11_37 : hw_fk 11 37 11 17 := ⟨_, rfl, by decide, Or.inl (hw_memT 1074 (by decide +kernel) (by decide +kernel))⟩
theorem fk_11_40 : hw_fk 11 40 11 18 := ⟨_, rfl, by decide, Or.inl (hw_memT 1075 (by decide +kernel) (by decide +kernel))⟩
theorem fk_11_43 : hw_fk 11 43 11 19 := ⟨_, rfl, by decide, Or.inl (hw_memT 1076 (by decide +kernel) (by decide +kernel))⟩
theorem fk_11_46 : hw_fk 11 46 11 21 := ⟨_, rfl, by decide, Or.inl (hw_memT 1078 (by decide +kernel) (by decide +kernel))⟩
theorem fk_11_49 : hw_fk 11 49 11 22 := ⟨_, rfl, by decide, Or.inl (hw_memT 1079 (by decide +kernel) (by decide +kernel))⟩
theorem fk_11_52 : hw_fk 11 52 11 23 := ⟨_, rfl, by decide, Or.inl (hw_memT 1080 (by decide +kernel) (by decide +kernel))⟩
theorem fk_11_55 : hw_fk 11 55 11 24 := ⟨_, rfl, by decide, Or.inl (hw_memT 1081 (by decide +kernel) (by decide +kernel))⟩
theorem fk_11_59 : hw_fk 11 59 11 26 := ⟨_, rfl, by decide, Or.inl (hw_memT 1083 (by decide +kernel) (by decide +kernel))⟩
theorem fk_11_62 : hw_fk 11 62 11 27 := ⟨_, rfl, by decide, Or.inl (hw_memT 1084 (by decide +kernel) (by decide +kernel))⟩
theorem fk_11_66 : hw_fk 11 66 11 28 := ⟨_, rfl, by decide, Or.inl (hw_memT 1085 (by decide +kernel) (by decide +kernel))⟩
theorem fk_11_69 : hw_fk 11 69 11 30 := ⟨_, rfl, by decide, Or.inl (hw_memT 1087 (by decide +kernel) (by decide +kernel))⟩
theorem fk_11_72 : hw_fk 11 72 11 32 := ⟨_, rfl, by decide, Or.inl (hw_memT 1089 (by decide +kernel) (by decide +kernel))⟩
theorem fk_11_75 : hw_fk 11 75 11 34 := ⟨_, rfl, by decide, Or.inl (hw_memT 1091 (by decide +kernel) (by decide +kernel))⟩
theorem fk_11_78 : hw_fk 11 78 11 36 := ⟨_, rfl, by decide, Or.inl (hw_memT 1093 (by decide +kernel) (by decide +kernel))⟩
theorem fk_11_81 : hw_fk 11 81 11 37 := ⟨_, rfl, by decide, Or.inl (hw_memT 1094 (by decide +kernel) (by decide +kernel))⟩
theorem fk_11_84 : hw_fk 11 84 11 40 := ⟨_, rfl, by decide, Or.inl (hw_memT 1097 (by decide +kernel) (by decide +kernel))⟩
theorem fk_11_87 : hw_fk 11 87 11 42 := ⟨_, rfl, by decide, Or.inl (hw_memT 1099 (by decide +kernel) (by decide +kernel))⟩
theorem fk_11_90 : hw_fk 11 90 11 44 := ⟨_, rfl, by decide, Or.inl (hw_memT 1101 (by decide +kernel) (by decide +kernel))⟩
theorem fk_11_93 : hw_fk 11 93 11 46 := ⟨_, rfl, by decide, Or.inl (hw_memT 1103 (by decide +kernel) (by decide +kernel))⟩
theorem fk_11_96 : hw_fk 11 96 11 47 := ⟨_, rfl, by decide, Or.inl (hw_memT 1104 (by decide +kernel) (by decide +kernel))⟩
theorem fk_11_99 : hw_fk 11 99 11 48 := ⟨_, rfl, by decide, Or.inl (hw_memT 1105 (by decide +kernel) (by decide +kernel))⟩
theorem fk_11_102 : hw_fk 11 102 11 50 := ⟨_, rfl, by decide, Or.inl (hw_memT 1107 (by decide +kernel) (by decide +kernel))⟩
theorem fk_11_105 : hw_fk 11 105 11 51 := ⟨_, rfl, by decide, Or.inl (hw_memT 1108 (by decide +kernel) (by decide +kernel))⟩
theorem fk_11_108 : hw_fk 11 108 11 52 := ⟨_, rfl, by decide, Or.inl (hw_memT 1109 (by decide +kernel) (by decide +kernel))⟩
theorem fk_11_119 : hw_fk 11 119 11 1 := ⟨_, rfl, by decide, Or.inl (hw_memT 1058 (by decide +kernel) (by decide +kernel))⟩
theorem fk_11_122 : hw_fk 11 122 11 7 := ⟨_, rfl, by decide, Or.inl (hw_memT 1064 (by decide +kernel) (by decide +kernel))⟩
theorem fk_11_129 : hw_fk 11 129 11 8 := ⟨_, rfl, by decide, Or.inl (hw_memT 1065 (by decide +kernel) (by decide +kernel))⟩
theorem fk_11_134 : hw_fk 11 134 11 5 := ⟨_, rfl, by decide, Or.inl (hw_memT 1062 (by decide +kernel) (by decide +kernel))⟩
theorem fk_11_179 : hw_fk 11 179 11 25 := ⟨_, rfl, by decide, Or.inl (hw_memT 1082 (by decide +kernel) (by decide +kernel))⟩
theorem fk_11_196 : hw_fk 11 196 11 29 := ⟨_, rfl, by decide, Or.inl (hw_memT 1086 (by decide +kernel) (by decide +kernel))⟩
theorem fk_11_202 : hw_fk 11 202 11 31 := ⟨_, rfl, by decide, Or.inl (hw_memT 1088 (by decide +kernel) (by decide +kernel))⟩
theorem fk_11_211 : hw_fk 11 211 11 33 := ⟨_, rfl, by decide, Or.inl (hw_memT 1090 (by decide +kernel) (by decide +kernel))⟩
theorem fk_11_217 : hw_fk 11 217 11 35 := ⟨_, rfl, by decide, Or.inl (hw_memT 1092 (by decide +kernel) (by decide +kernel))⟩
theorem fk_11_223 : hw_fk 11 223 11 41 := ⟨_, rfl, by decide, Or.inl (hw_memT 1098 (by decide +kernel) (by decide +kernel))⟩
theorem fk_11_235 : hw_fk 11 235 11 38 := ⟨_, rfl, by decide, Or.inl (hw_memT 1095 (by decide +kernel) (by decide +kernel))⟩
theorem fk_11_238 : hw_fk 11 238 11 39 := ⟨_, rfl, by decide, Or.inl (hw_memT 1096 (by decide +kernel) (by decide +kernel))⟩
theorem fk_11_259 : hw_fk 11 259 11 43 := ⟨_, rfl, by decide, Or.inl (hw_memT 1100 (by decide +kernel) (by decide +kernel))⟩
theorem fk_11_262 : hw_fk 11 262 11 45 := ⟨_, rfl, by decide, Or.inl (hw_memT 1102 (by decide +kernel) (by decide +kernel))⟩
theorem fk_11_278 : hw_fk 11 278 11 10 := ⟨_, rfl, by decide, Or.inl (hw_memT 1067 (by decide +kernel) (by decide +kernel))⟩
theorem fk_11_281 : hw_fk 11 281 11 49 := ⟨_, rfl, by decide, Or.inl (hw_memT 1106 (by decide +kernel) (by decide +kernel))⟩
theorem fk_11_287 : hw_fk 11 287 11 12 := ⟨_, rfl, by decide, Or.inl (hw_memT 1069 (by decide +kernel) (by decide +kernel))⟩
theorem fk_11_299 : hw_fk 11 299 11 14 := ⟨_, rfl, by decide, Or.inl (hw_memT 1071 (by decide +kernel) (by decide +kernel))⟩
theorem fk_11_303 : hw_fk 11 303 11 15 := ⟨_, rfl, by decide, Or.inl (hw_memT 1072 (by decide +kernel) (by decide +kernel))⟩
theorem fk_11_306 : hw_fk 11 306 11 16 := ⟨_, rfl, by decide, Or.inl (hw_memT 1073 (by decide +kernel) (by decide +kernel))⟩
theorem fk_11_309 : hw_fk 11 309 11 20 := ⟨_, rfl, by decide, Or.inl (hw_memT 1077 (by decide +kernel) (by decide +kernel))⟩
theorem hw_FT_ok : ∀ q ∈ hw_FT, hw_fk q.1 q.2.1 q.2.2.1 q.2.2.2 := by
  unfold hw_FT
  refine List.forall_mem_cons.mpr ⟨fk_0_9, ?_⟩
  refine List.forall_mem_cons.mpr ⟨fk_0_15, ?_⟩
  refine List.forall_mem_cons.mpr ⟨fk_0_19, ?_⟩
  refine List.forall_mem_cons.mpr ⟨fk_0_32, ?_⟩
  refine List.forall_mem_cons.mpr ⟨fk_1_14, ?_⟩
  refine List.forall_mem_cons.mpr ⟨fk_1_20, ?_⟩
  refine List.forall_mem_cons.mpr ⟨fk_1_23, ?_⟩
  refine List.forall_mem_cons.mpr ⟨fk_2_14, ?_⟩
  refine List.forall_mem_cons.mpr ⟨fk_2_20, ?_⟩
  refine List.forall_mem_cons.mpr ⟨fk_2_23, ?_⟩
  refine List.forall_mem_cons.mpr ⟨fk_2_26, ?_⟩
  refine List.forall_mem_cons.mpr ⟨fk_3_16, ?_⟩
  refine List.forall_mem_cons.mpr ⟨fk_3_20, ?_⟩
  refine List.forall_mem_cons.mpr ⟨fk_3_23, ?_⟩
  refine List.forall_mem_cons.mpr ⟨fk_3_27, ?_⟩
  refine List.forall_mem_cons.mpr ⟨fk_3_53, ?_⟩
  refine List.forall_mem_cons.mpr ⟨fk_4_15, ?_⟩
  refine List.forall_mem_cons.mpr ⟨fk_4_21, ?_⟩
  refine List.forall_mem_cons.mpr ⟨fk_5_14, ?_⟩
  refine List.forall_mem_cons.mpr ⟨fk_5_20, ?_⟩
  refine List.forall_mem_cons.mpr ⟨fk_5_43, ?_⟩
  refine List.forall_mem_cons.mpr ⟨fk_6_14, ?_⟩
  refine List.forall_mem_cons.mpr ⟨fk_6_20, ?_⟩
  refine List.forall_mem_cons.mpr ⟨fk_6_23, ?_⟩
  refine List.forall_mem_cons.mpr ⟨fk_6_26, ?_⟩
  refine List.forall_mem_cons.mpr ⟨fk_6_32, ?_⟩
  refine List.forall_mem_cons.mpr ⟨fk_7_14, ?_⟩
  refine List.forall_mem_cons.mpr ⟨fk_7_24, ?_⟩
  refine List.forall_mem_cons.mpr ⟨fk_8_12, ?_⟩
  refine List.forall_mem_cons.mpr ⟨fk_8_21, ?_⟩
  refine List.forall_mem_cons.mpr ⟨fk_8_25, ?_⟩
  refine List.forall_mem_cons.mpr ⟨fk_8_28, ?_⟩
  refine List.forall_mem_cons.mpr ⟨fk_8_49, ?_⟩
  refine List.forall_mem_cons.mpr ⟨fk_9_12, ?_⟩
  refine List.forall_mem_cons.mpr ⟨fk_9_23, ?_⟩
  refine List.forall_mem_cons.mpr ⟨fk_10_11, ?_⟩
  refine List.forall_mem_cons.mpr ⟨fk_10_18, ?_⟩
  refine List.forall_mem_cons.mpr ⟨fk_10_27, ?_⟩
  refine List.forall_mem_cons.mpr ⟨fk_10_34, ?_⟩
  refine List.forall_mem_cons.mpr ⟨fk_10_41, ?_⟩
  refine List.forall_mem_cons.mpr ⟨fk_10_48, ?_⟩
  refine List.forall_mem_cons.mpr ⟨fk_10_55, ?_⟩
  refine List.forall_mem_cons.mpr ⟨fk_10_59, ?_⟩
  refine List.forall_mem_cons.mpr ⟨fk_10_63, ?_⟩
  refine List.forall_mem_cons.mpr ⟨fk_10_69, ?_⟩
  refine List.forall_mem_cons.mpr ⟨fk_10_76, ?_⟩
  refine List.forall_mem_cons.mpr ⟨fk_10_80, ?_⟩
  refine List.forall_mem_cons.mpr ⟨fk_10_83, ?_⟩
  refine List.forall_mem_cons.mpr ⟨fk_10_89, ?_⟩
  refine List.forall_mem_cons.mpr ⟨fk_10_95, ?_⟩
  refine List.forall_mem_cons.mpr ⟨fk_10_208, ?_⟩
  refine List.forall_mem_cons.mpr ⟨fk_10_211, ?_⟩
  refine List.forall_mem_cons.mpr ⟨fk_10_214, ?_⟩
  refine List.forall_mem_cons.mpr ⟨fk_10_217, ?_⟩
  refine List.forall_mem_cons.mpr ⟨fk_10_220, ?_⟩
  refine List.forall_mem_cons.mpr ⟨fk_10_245, ?_⟩
  refine List.forall_mem_cons.mpr ⟨fk_10_246, ?_⟩
  refine List.forall_mem_cons.mpr ⟨fk_10_247, ?_⟩
  refine List.forall_mem_cons.mpr ⟨fk_10_253, ?_⟩
  refine List.forall_mem_cons.mpr ⟨fk_10_256, ?_⟩
  refine List.forall_mem_cons.mpr ⟨fk_10_281, ?_⟩
  refine List.forall_mem_cons.mpr ⟨fk_10_284, ?_⟩
  refine List.forall_mem_cons.mpr ⟨fk_10_285, ?_⟩
  refine List.forall_mem_cons.mpr ⟨fk_10_289, ?_⟩
  refine List.forall_mem_cons.mpr ⟨fk_10_310, ?_⟩
  refine List.forall_mem_cons.mpr ⟨fk_10_322, ?_⟩
  refine List.forall_mem_cons.mpr ⟨fk_10_325, ?_⟩
  refine List.forall_mem_cons.mpr ⟨fk_10_335, ?_⟩
  refine List.forall_mem_cons.mpr ⟨fk_11_9, ?_⟩
  refine List.forall_mem_cons.mpr ⟨fk_11_15, ?_⟩
  refine List.forall_mem_cons.mpr ⟨fk_11_19, ?_⟩
  refine List.forall_mem_cons.mpr ⟨fk_11_22, ?_⟩
  refine List.forall_mem_cons.mpr ⟨fk_11_25, ?_⟩
  refine List.forall_mem_cons.mpr ⟨fk_11_28, ?_⟩
  refine List.forall_mem_cons.mpr ⟨fk_11_31, ?_⟩
  refine List.forall_mem_cons.mpr ⟨fk_11_34, ?_⟩
  refine List.forall_mem_cons.mpr ⟨fk_11_37, ?_⟩
  refine List.forall_mem_cons.mpr ⟨fk_11_40, ?_⟩
  refine List.forall_mem_cons.mpr ⟨fk_11_43, ?_⟩
  refine List.forall_mem_cons.mpr ⟨fk_11_46, ?_⟩
  refine List.forall_mem_cons.mpr ⟨fk_11_49, ?_⟩
  refine List.forall_mem_cons.mpr ⟨fk_11_52, ?_⟩
  refine List.forall_mem_cons.mpr ⟨fk_11_55, ?_⟩
  refine List.forall_mem_cons.mpr ⟨fk_11_59, ?_⟩
  refine List.forall_mem_cons.mpr ⟨fk_11_62, ?_⟩
  refine List.forall_mem_cons.mpr ⟨fk_11_66, ?_⟩
  refine List.forall_mem_cons.mpr ⟨fk_11_69, ?_⟩
  refine List.forall_mem_cons.mpr ⟨fk_11_72, ?_⟩
  refine List.forall_mem_cons.mpr ⟨fk_11_75, ?_⟩
  refine List.forall_mem_cons.mpr ⟨fk_11_78, ?_⟩
  refine List.forall_mem_cons.mpr ⟨fk_11_81, ?_⟩
  refine List.forall_mem_cons.mpr ⟨fk_11_84, ?_⟩
  refine List.forall_mem_cons.mpr ⟨fk_11_87, ?_⟩
  refine List.forall_mem_cons.mpr ⟨fk_11_90, ?_⟩
  refine List.forall_mem_cons.mpr ⟨fk_11_93, ?_⟩
  refine List.forall_mem_cons.mpr ⟨fk_11_96, ?_⟩
  refine List.forall_mem_cons.mpr ⟨fk_11_99, ?_⟩
  refine List.forall_mem_cons.mpr ⟨fk_11_102, ?_⟩
  refine List.forall_mem_cons.mpr ⟨fk_11_105, ?_⟩
  refine List.forall_mem_cons.mpr ⟨fk_11_108, ?_⟩
  refine List.forall_mem_cons.mpr ⟨fk_11_119, ?_⟩
  refine List.forall_mem_cons.mpr ⟨fk_11_122, ?_⟩
  refine List.forall_mem_cons.mpr ⟨fk_11_129, ?_⟩
  refine List.forall_mem_cons.mpr ⟨fk_11_134, ?_⟩
  refine List.forall_mem_cons.mpr ⟨fk_11_179, ?_⟩
  refine List.forall_mem_cons.mpr ⟨fk_11_196, ?_⟩
  refine List.forall_mem_cons.mpr ⟨fk_11_202, ?_⟩
  refine List.forall_mem_cons.mpr ⟨fk_11_211, ?_⟩
  refine List.forall_mem_cons.mpr ⟨fk_11_217, ?_⟩
  refine List.forall_mem_cons.mpr ⟨fk_11_223, ?_⟩
  refine List.forall_mem_cons.mpr ⟨fk_11_235, ?_⟩
  refine List.forall_mem_cons.mpr ⟨fk_11_238, ?_⟩
  refine List.forall_mem_cons.mpr ⟨fk_11_259, ?_⟩
  refine List.forall_mem_cons.mpr ⟨fk_11_262, ?_⟩
  refine List.forall_mem_cons.mpr ⟨fk_11_278, ?_⟩
  refine List.forall_mem_cons.mpr ⟨fk_11_281, ?_⟩
  refine List.forall_mem_cons.mpr ⟨fk_11_287, ?_⟩
  refine List.forall_mem_cons.mpr ⟨fk_11_299, ?_⟩
  refine List.forall_mem_cons.mpr ⟨fk_11_303, ?_⟩
  refine List.forall_mem_cons.mpr ⟨fk_11_306, ?_⟩
  refine List.forall_mem_cons.mpr ⟨fk_11_309, ?_⟩
  exact fun _ h => absurd h List.not_mem_nil
theorem hw_f_ok {o i c k : Nat} (h : hw_f o i = some (c, k)) : hw_fk o i c k := by
  unfold hw_f at h
  cases hq : hw_FT.find? (fun q => q.1 == o && q.2.1 == i) with
  | none => rw [hq] at h; cases h
  | some q =>
    rw [hq] at h
    have h1 := List.find?_some hq
    have h2 := List.mem_of_find?_eq_some hq
    have h3 := hw_FT_ok q h2
    simp only [Bool.and_eq_true, beq_iff_eq] at h1
    cases h
    rw [← h1.1, ← h1.2]
    exact h3
theorem fl_0 : hw_f 0 9 = some (0, 0) ∧ hw_f 0 15 = some (0, 1) ∧ hw_f 0 19 = some (0, 2) ∧ hw_f 0 32 = some (0, 3) := ⟨rfl, rfl, rfl, rfl⟩
theorem fl_1 : hw_f 1 14 = some (1, 0) ∧ hw_f 1 20 = some (1, 1) ∧ hw_f 1 23 = some (1, 2) := ⟨rfl, rfl, rfl⟩
theorem fl_2 : hw_f 2 14 = some (2, 0) ∧ hw_f 2 20 = some (2, 1) ∧ hw_f 2 23 = some (2, 2) ∧ hw_f 2 26 = some (2, 3) := ⟨rfl, rfl, rfl, rfl⟩
theorem fl_3 : hw_f 3 16 = some (3, 0) ∧ hw_f 3 20 = some (3, 1) ∧ hw_f 3 23 = some (3, 2) ∧ hw_f 3 27 = some (3, 3) ∧ hw_f 3 53 = some (7, 0) := ⟨rfl, rfl, rfl, rfl, rfl⟩
theorem fl_4 : hw_f 4 15 = some (4, 0) ∧ hw_f 4 21 = some (4, 1) := ⟨rfl, rfl⟩
theorem fl_5 : hw_f 5 14 = some (5, 0) ∧ hw_f 5 20 = some (5, 1) ∧ hw_f 5 43 = some (1, 2) := ⟨rfl, rfl, rfl⟩
theorem fl_6 : hw_f 6 14 = some (6, 0) ∧ hw_f 6 20 = some (6, 1) ∧ hw_f 6 23 = some (6, 2) ∧ hw_f 6 26 = some (6, 3) ∧ hw_f 6 32 = some (6, 4) := ⟨rfl, rfl, rfl, rfl, rfl⟩
theorem fl_7 : hw_f 7 14 = some (7, 0) ∧ hw_f 7 24 = some (4, 1) := ⟨rfl, rfl⟩
theorem fl_8 : hw_f 8 12 = some (8, 0) ∧ hw_f 8 21 = some (8, 1) ∧ hw_f 8 25 = some (8, 3) ∧ hw_f 8 28 = some (8, 4) ∧ hw_f 8 49 = some (8, 2) := ⟨rfl, rfl, rfl, rfl, rfl⟩
theorem fl_9 : hw_f 9 12 = some (9, 2) ∧ hw_f 9 23 = some (9, 3) := ⟨rfl, rfl⟩
theorem fl_10 : hw_f 10 11 = some (10, 0) ∧ hw_f 10 18 = some (10, 1) ∧ hw_f 10 27 = some (10, 2) ∧ hw_f 10 34 = some (10, 3) ∧ hw_f 10 41 = some (10, 4) ∧ hw_f 10 48 = some (10, 5) ∧ hw_f 10 55 = some (10, 6) ∧ hw_f 10 59 = some (10, 7) ∧ hw_f 10 63 = some (10, 8) ∧ hw_f 10 69 = some (10, 9) ∧ hw_f 10 76 = some (10, 10) ∧ hw_f 10 80 = some (10, 11) ∧ hw_f 10 83 = some (10, 12) ∧ hw_f 10 89 = some (10, 13) ∧ hw_f 10 95 = some (10, 14) ∧ hw_f 10 208 = some (6, 2) ∧ hw_f 10 211 = some (6, 4) ∧ hw_f 10 214 = some (6, 0) ∧ hw_f 10 217 = some (6, 1) ∧ hw_f 10 220 = some (6, 3) ∧ hw_f 10 245 = some (2, 1) ∧ hw_f 10 246 = some (2, 2) ∧ hw_f 10 247 = some (2, 3) ∧ hw_f 10 253 = some (8, 1) ∧ hw_f 10 256 = some (8, 0) ∧ hw_f 10 281 = some (9, 0) ∧ hw_f 10 284 = some (9, 1) ∧ hw_f 10 285 = some (9, 2) ∧ hw_f 10 289 = some (9, 3) ∧ hw_f 10 310 = some (0, 1) ∧ hw_f 10 322 = some (0, 2) ∧ hw_f 10 325 = some (0, 0) ∧ hw_f 10 335 = some (0, 3) := ⟨rfl, rfl, rfl, rfl, rfl, rfl, rfl, rfl, rfl, rfl, rfl, rfl, rfl, rfl, rfl, rfl, rfl, rfl, rfl, rfl, rfl, rfl, rfl, rfl, rfl, rfl, rfl, rfl, rfl, rfl, rfl, rfl, rfl⟩
theorem fl_11 : hw_f 11 9 = some (11, 0) ∧ hw_f 11 15 = some (11, 2) ∧ hw_f 11 19 = some (11, 3) ∧ hw_f 11 22 = some (11, 4) ∧ hw_f 11 25 = some (11, 6) ∧ hw_f 11 28 = some (11, 9) ∧ hw_f 11 31 = some (11, 11) ∧ hw_f 11 34 = some (11, 13) ∧ hw_f 11 37 = some (11, 17) ∧ hw_f 11 40 = some (11, 18) ∧ hw_f 11 43 = some (11, 19) ∧ hw_f 11 46 = some (11, 21) ∧ hw_f 11 49 = some (11, 22) ∧ hw_f 11 52 = some (11, 23) ∧ hw_f 11 55 = some (11, 24) ∧ hw_f 11 59 = some (11, 26) ∧ hw_f 11 62 = some (11, 27) ∧ hw_f 11 66 = some (11, 28) ∧ hw_f 11 69 = some (11, 30) ∧ hw_f 11 72 = some (11, 32) ∧ hw_f 11 75 = some (11, 34) ∧ hw_f 11 78 = some (11, 36) ∧ hw_f 11 81 = some (11, 37) ∧ hw_f 11 84 = some (11, 40) ∧ hw_f 11 87 = some (11, 42) ∧ hw_f 11 90 = some (11, 44) ∧ hw_f 11 93 = some (11, 46) ∧ hw_f 11 96 = some (11, 47) ∧ hw_f 11 99 = some (11, 48) ∧ hw_f 11 102 = some (11, 50) ∧ hw_f 11 105 = some (11, 51) ∧ hw_f 11 108 = some (11, 52) ∧ hw_f 11 119 = some (11, 1) ∧ hw_f 11 122 = some (11, 7) ∧ hw_f 11 129 = some (11, 8) ∧ hw_f 11 134 = some (11, 5) ∧ hw_f 11 179 = some (11, 25) ∧ hw_f 11 196 = some (11, 29) ∧ hw_f 11 202 = some (11, 31) ∧ hw_f 11 211 = some (11, 33) ∧ hw_f 11 217 = some (11, 35) ∧ hw_f 11 223 = some (11, 41) ∧ hw_f 11 235 = some (11, 38) ∧ hw_f 11 238 = some (11, 39) ∧ hw_f 11 259 = some (11, 43) ∧ hw_f 11 262 = some (11, 45) ∧ hw_f 11 278 = some (11, 10) ∧ hw_f 11 281 = some (11, 49) ∧ hw_f 11 287 = some (11, 12) ∧ hw_f 11 299 = some (11, 14) ∧ hw_f 11 303 = some (11, 15) ∧ hw_f 11 306 = some (11, 16) ∧ hw_f 11 309 = some (11, 20) := ⟨rfl, rfl, rfl, rfl, rfl, rfl, rfl, rfl, rfl, rfl, rfl, rfl, rfl, rfl, rfl, rfl, rfl, rfl, rfl, rfl, rfl, rfl, rfl, rfl, rfl, rfl, rfl, rfl, rfl, rfl, rfl, rfl, rfl, rfl, rfl, rfl, rfl, rfl, rfl, rfl, rfl, rfl, rfl, rfl, rfl, rfl, rfl, rfl, rfl, rfl, rfl, rfl, rfl⟩
def hw_cT : List (Nat × Nat × Int32) := [(10, 226, 2000000000), (10, 343, 1103515245), (10, 344, 2147483647), (10, 345, 65536), (11, 325, 1103515245), (11, 326, 2147483647), (11, 327, 65536), (13, 265, 1431655765), (13, 266, 858993459), (13, 267, 252645135)]
def hw_c (o i : Nat) : Option Int32 := (hw_cT.find? (fun q => q.1 == o && q.2.1 == i)).map (fun q => q.2.2)
theorem hw_cT_ok : ∀ q ∈ hw_cT, Cond.constant (hw_nm q.1) q.2.1 q.2.2 ∈ hw_T := by
  unfold hw_cT
  refine List.forall_mem_cons.mpr ⟨hw_memT 778 (by decide +kernel) (by decide +kernel), ?_⟩
  refine List.forall_mem_cons.mpr ⟨hw_memT 1034 (by decide +kernel) (by decide +kernel), ?_⟩
  refine List.forall_mem_cons.mpr ⟨hw_memT 1035 (by decide +kernel) (by decide +kernel), ?_⟩
  refine List.forall_mem_cons.mpr ⟨hw_memT 1036 (by decide +kernel) (by decide +kernel), ?_⟩
  refine List.forall_mem_cons.mpr ⟨hw_memT 1660 (by decide +kernel) (by decide +kernel), ?_⟩
  refine List.forall_mem_cons.mpr ⟨hw_memT 1661 (by decide +kernel) (by decide +kernel), ?_⟩
  refine List.forall_mem_cons.mpr ⟨hw_memT 1662 (by decide +kernel) (by decide +kernel), ?_⟩
  refine List.forall_mem_cons.mpr ⟨hw_memT 1040 (by decide +kernel) (by decide +kernel), ?_⟩
  refine List.forall_mem_cons.mpr ⟨hw_memT 1041 (by decide +kernel) (by decide +kernel), ?_⟩
  refine List.forall_mem_cons.mpr ⟨hw_memT 1042 (by decide +kernel) (by decide +kernel), ?_⟩
  exact fun _ h => absurd h List.not_mem_nil
theorem hw_c_ok {o i : Nat} {v : Int32} (h : hw_c o i = some v) : Cond.constant (hw_nm o) i v ∈ hw_T := by
  unfold hw_c at h
  cases hq : hw_cT.find? (fun q => q.1 == o && q.2.1 == i) with
  | none => rw [hq] at h; cases h
  | some q =>
    rw [hq] at h
    have h1 := List.find?_some hq
    have h3 := hw_cT_ok q (List.mem_of_find?_eq_some hq)
    simp only [Bool.and_eq_true, beq_iff_eq] at h1
    cases h
    rw [← h1.1, ← h1.2]
    exact h3
theorem hw_cl : hw_c 10 226 = some (2000000000) ∧ hw_c 10 343 = some (1103515245) ∧ hw_c 10 344 = some (2147483647) ∧ hw_c 10 345 = some (65536) ∧ hw_c 11 325 = some (1103515245) ∧ hw_c 11 326 = some (2147483647) ∧ hw_c 11 327 = some (65536) ∧ hw_c 13 265 = some (1431655765) ∧ hw_c 13 266 = some (858993459) ∧ hw_c 13 267 = some (252645135) := ⟨rfl, rfl, rfl, rfl, rfl, rfl, rfl, rfl, rfl, rfl⟩
def hw_cjT : List (Nat × Nat × Int64) := [(0, 39, -9223372036854775808), (10, 229, 2147483647), (10, 317, -9223372036854775808), (11, 132, 6), (11, 250, 2000000000), (11, 254, 2147483647), (11, 274, 32), (11, 276, 126), (11, 312, 2), (11, 321, -9223372036854775808), (11, 323, 20), (12, 273, 4294967295)]
def hw_cj (o i : Nat) : Option Int64 := (hw_cjT.find? (fun q => q.1 == o && q.2.1 == i)).map (fun q => q.2.2)
theorem hw_cjT_ok : ∀ q ∈ hw_cjT, Cond.constantLong (hw_nm q.1) q.2.1 q.2.2 ∈ hw_T := by
  unfold hw_cjT
  refine List.forall_mem_cons.mpr ⟨hw_memT 1013 (by decide +kernel) (by decide +kernel), ?_⟩
  refine List.forall_mem_cons.mpr ⟨hw_memT 779 (by decide +kernel) (by decide +kernel), ?_⟩
  refine List.forall_mem_cons.mpr ⟨hw_memT 1008 (by decide +kernel) (by decide +kernel), ?_⟩
  refine List.forall_mem_cons.mpr ⟨hw_memT 1222 (by decide +kernel) (by decide +kernel), ?_⟩
  refine List.forall_mem_cons.mpr ⟨hw_memT 1498 (by decide +kernel) (by decide +kernel), ?_⟩
  refine List.forall_mem_cons.mpr ⟨hw_memT 1499 (by decide +kernel) (by decide +kernel), ?_⟩
  refine List.forall_mem_cons.mpr ⟨hw_memT 1568 (by decide +kernel) (by decide +kernel), ?_⟩
  refine List.forall_mem_cons.mpr ⟨hw_memT 1569 (by decide +kernel) (by decide +kernel), ?_⟩
  refine List.forall_mem_cons.mpr ⟨hw_memT 1629 (by decide +kernel) (by decide +kernel), ?_⟩
  refine List.forall_mem_cons.mpr ⟨hw_memT 1642 (by decide +kernel) (by decide +kernel), ?_⟩
  refine List.forall_mem_cons.mpr ⟨hw_memT 1659 (by decide +kernel) (by decide +kernel), ?_⟩
  refine List.forall_mem_cons.mpr ⟨hw_memT 1674 (by decide +kernel) (by decide +kernel), ?_⟩
  exact fun _ h => absurd h List.not_mem_nil
theorem hw_cj_ok {o i : Nat} {v : Int64} (h : hw_cj o i = some v) : Cond.constantLong (hw_nm o) i v ∈ hw_T := by
  unfold hw_cj at h
  cases hq : hw_cjT.find? (fun q => q.1 == o && q.2.1 == i) with
  | none => rw [hq] at h; cases h
  | some q =>
    rw [hq] at h
    have h1 := List.find?_some hq
    have h3 := hw_cjT_ok q (List.mem_of_find?_eq_some hq)
    simp only [Bool.and_eq_true, beq_iff_eq] at h1
    cases h
    rw [← h1.1, ← h1.2]
    exact h3
theorem hw_cjl : hw_cj 0 39 = some (-9223372036854775808) ∧ hw_cj 10 229 = some (2147483647) ∧ hw_cj 10 317 = some (-9223372036854775808) ∧ hw_cj 11 132 = some (6) ∧ hw_cj 11 250 = some (2000000000) ∧ hw_cj 11 254 = some (2147483647) ∧ hw_cj 11 274 = some (32) ∧ hw_cj 11 276 = some (126) ∧ hw_cj 11 312 = some (2) ∧ hw_cj 11 321 = some (-9223372036854775808) ∧ hw_cj 11 323 = some (20) ∧ hw_cj 12 273 = some (4294967295) := ⟨rfl, rfl, rfl, rfl, rfl, rfl, rfl, rfl, rfl, rfl, rfl, rfl⟩
def hw_KT : List (Nat × Nat × Nat) := [(1, 9, 4), (2, 9, 4), (3, 9, 4), (5, 9, 4), (6, 9, 4), (7, 9, 4), (8, 9, 7), (9, 9, 7), (9, 18, 4), (10, 15, 7), (10, 22, 4), (10, 31, 1), (10, 38, 5), (10, 45, 6), (10, 52, 2), (10, 66, 3), (10, 73, 9), (10, 86, 8), (10, 93, 0), (12, 7, 10), (12, 10, 11)]
def hw_k (o i : Nat) : Option Nat := (hw_KT.find? (fun q => q.1 == o && q.2.1 == i)).map (fun q => q.2.2)
theorem hw_KT_ok : ∀ q ∈ hw_KT, Cond.classLink (hw_nm q.1) q.2.1 (hw_nm q.2.2) ∈ hw_T := by
  unfold hw_KT
  refine List.forall_mem_cons.mpr ⟨hw_memT 121 (by decide +kernel) (by decide +kernel), ?_⟩
  refine List.forall_mem_cons.mpr ⟨hw_memT 184 (by decide +kernel) (by decide +kernel), ?_⟩
  refine List.forall_mem_cons.mpr ⟨hw_memT 208 (by decide +kernel) (by decide +kernel), ?_⟩
  refine List.forall_mem_cons.mpr ⟨hw_memT 140 (by decide +kernel) (by decide +kernel), ?_⟩
  refine List.forall_mem_cons.mpr ⟨hw_memT 155 (by decide +kernel) (by decide +kernel), ?_⟩
  refine List.forall_mem_cons.mpr ⟨hw_memT 90 (by decide +kernel) (by decide +kernel), ?_⟩
  refine List.forall_mem_cons.mpr ⟨hw_memT 254 (by decide +kernel) (by decide +kernel), ?_⟩
  refine List.forall_mem_cons.mpr ⟨hw_memT 229 (by decide +kernel) (by decide +kernel), ?_⟩
  refine List.forall_mem_cons.mpr ⟨hw_memT 231 (by decide +kernel) (by decide +kernel), ?_⟩
  refine List.forall_mem_cons.mpr ⟨hw_memT 84 (by decide +kernel) (by decide +kernel), ?_⟩
  refine List.forall_mem_cons.mpr ⟨hw_memT 113 (by decide +kernel) (by decide +kernel), ?_⟩
  refine List.forall_mem_cons.mpr ⟨hw_memT 115 (by decide +kernel) (by decide +kernel), ?_⟩
  refine List.forall_mem_cons.mpr ⟨hw_memT 134 (by decide +kernel) (by decide +kernel), ?_⟩
  refine List.forall_mem_cons.mpr ⟨hw_memT 149 (by decide +kernel) (by decide +kernel), ?_⟩
  refine List.forall_mem_cons.mpr ⟨hw_memT 178 (by decide +kernel) (by decide +kernel), ?_⟩
  refine List.forall_mem_cons.mpr ⟨hw_memT 202 (by decide +kernel) (by decide +kernel), ?_⟩
  refine List.forall_mem_cons.mpr ⟨hw_memT 223 (by decide +kernel) (by decide +kernel), ?_⟩
  refine List.forall_mem_cons.mpr ⟨hw_memT 248 (by decide +kernel) (by decide +kernel), ?_⟩
  refine List.forall_mem_cons.mpr ⟨hw_memT 274 (by decide +kernel) (by decide +kernel), ?_⟩
  refine List.forall_mem_cons.mpr ⟨hw_memT 76 (by decide +kernel) (by decide +kernel), ?_⟩
  refine List.forall_mem_cons.mpr ⟨hw_memT 1051 (by decide +kernel) (by decide +kernel), ?_⟩
  exact fun _ h => absurd h List.not_mem_nil
theorem hw_k_ok {o i c : Nat} (h : hw_k o i = some c) : Cond.classLink (hw_nm o) i (hw_nm c) ∈ hw_T := by
  unfold hw_k at h
  cases hq : hw_KT.find? (fun q => q.1 == o && q.2.1 == i) with
  | none => rw [hq] at h; cases h
  | some q =>
    rw [hq] at h
    have h1 := List.find?_some hq
    have h3 := hw_KT_ok q (List.mem_of_find?_eq_some hq)
    simp only [Bool.and_eq_true, beq_iff_eq] at h1
    cases h
    rw [← h1.1, ← h1.2]
    exact h3
theorem hw_kl : hw_k 1 9 = some 4 ∧ hw_k 2 9 = some 4 ∧ hw_k 3 9 = some 4 ∧ hw_k 5 9 = some 4 ∧ hw_k 6 9 = some 4 ∧ hw_k 7 9 = some 4 ∧ hw_k 8 9 = some 7 ∧ hw_k 9 9 = some 7 ∧ hw_k 9 18 = some 4 ∧ hw_k 10 15 = some 7 ∧ hw_k 10 22 = some 4 ∧ hw_k 10 31 = some 1 ∧ hw_k 10 38 = some 5 ∧ hw_k 10 45 = some 6 ∧ hw_k 10 52 = some 2 ∧ hw_k 10 66 = some 3 ∧ hw_k 10 73 = some 9 ∧ hw_k 10 86 = some 8 ∧ hw_k 10 93 = some 0 ∧ hw_k 12 7 = some 10 ∧ hw_k 12 10 = some 11 := ⟨rfl, rfl, rfl, rfl, rfl, rfl, rfl, rfl, rfl, rfl, rfl, rfl, rfl, rfl, rfl, rfl, rfl, rfl, rfl, rfl, rfl⟩
theorem hw_ac_int : Cond.arrayClass .int ∈ hw_T := hw_memT 107 (by decide +kernel) (by decide +kernel)
theorem hw_ac_long : Cond.arrayClass .long ∈ hw_T := hw_memT 298 (by decide +kernel) (by decide +kernel)
theorem hw_ac_boolean : Cond.arrayClass .boolean ∈ hw_T := hw_memT 1217 (by decide +kernel) (by decide +kernel)
theorem hw_ao_Buffer : Cond.arrayOver (.object "HornRuleWorkbench$Buffer") ∈ lw_tbl := List.mem_of_getElem? (i := 275) (by decide +kernel)
