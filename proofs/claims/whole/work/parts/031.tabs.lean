theorem inX0 : ∀ w ∈ u_ws RX0 TX0 9, w ∈ LW := by
  intro w hw
  obtain ⟨k, hk, rfl⟩ := List.mem_map.mp hw
  have hk := List.mem_range.mp hk
  match k, hk with
  | 0, _ => exact LW_t tb2 (k := 122) rfl rfl
  | 1, _ => exact LW_t tb2 (k := 124) rfl rfl
  | 2, _ => exact LW_t tb2 (k := 126) rfl rfl
  | 3, _ => exact LW_t tb2 (k := 128) rfl rfl
  | 4, _ => exact LW_t tb2 (k := 130) rfl rfl
  | 5, _ => exact LW_t tb2 (k := 132) rfl rfl
  | 6, _ => exact LW_t tb2 (k := 134) rfl rfl
  | 7, _ => exact LW_t tb2 (k := 136) rfl rfl
  | 8, _ => exact LW_t tb2 (k := 138) rfl rfl
  | k + 9, hk => exact absurd hk (by omega)
theorem cf0 : CF 0 RX0 TX0 9 tyX0 := ⟨by decide, rfl, by decide, inX0, tyX0_ok, nmX0⟩
theorem inX1 : ∀ w ∈ u_ws RX1 TX1 1, w ∈ LW := by
  intro w hw
  obtain ⟨k, hk, rfl⟩ := List.mem_map.mp hw
  have hk := List.mem_range.mp hk
  match k, hk with
  | 0, _ => exact LW_t tb3 (k := 232) rfl rfl
  | k + 1, hk => exact absurd hk (by omega)
theorem cf1 : CF 1 RX1 TX1 1 tyX1 := ⟨by decide, rfl, by decide, inX1, tyX1_ok, nmX1⟩
theorem inX2 : ∀ w ∈ u_ws RX2 TX2 6, w ∈ LW := by
  intro w hw
  obtain ⟨k, hk, rfl⟩ := List.mem_map.mp hw
  have hk := List.mem_range.mp hk
  match k, hk with
  | 0, _ => exact LW_t tb2 (k := 155) rfl rfl
  | 1, _ => exact LW_t tb2 (k := 157) rfl rfl
  | 2, _ => exact LW_t tb2 (k := 159) rfl rfl
  | 3, _ => exact LW_t tb2 (k := 161) rfl rfl
  | 4, _ => exact LW_t tb2 (k := 163) rfl rfl
  | 5, _ => exact LW_t tb2 (k := 165) rfl rfl
  | k + 6, hk => exact absurd hk (by omega)
theorem cf2 : CF 2 RX2 TX2 6 tyX2 := ⟨by decide, rfl, by decide, inX2, tyX2_ok, nmX2⟩
theorem inX3 : ∀ w ∈ u_ws RX3 TX3 5, w ∈ LW := by
  intro w hw
  obtain ⟨k, hk, rfl⟩ := List.mem_map.mp hw
  have hk := List.mem_range.mp hk
  match k, hk with
  | 0, _ => exact LW_t tb2 (k := 91) rfl rfl
  | 1, _ => exact LW_t tb2 (k := 93) rfl rfl
  | 2, _ => exact LW_t tb2 (k := 95) rfl rfl
  | 3, _ => exact LW_t tb2 (k := 97) rfl rfl
  | 4, _ => exact LW_t tb2 (k := 99) rfl rfl
  | k + 5, hk => exact absurd hk (by omega)
theorem cf3 : CF 3 RX3 TX3 5 tyX3 := ⟨by decide, rfl, by decide, inX3, tyX3_ok, nmX3⟩
theorem inX4 : ∀ w ∈ u_ws RX4 TX4 7, w ∈ LW := by
  intro w hw
  obtain ⟨k, hk, rfl⟩ := List.mem_map.mp hw
  have hk := List.mem_range.mp hk
  match k, hk with
  | 0, _ => exact LW_t tb2 (k := 65) rfl rfl
  | 1, _ => exact LW_t tb2 (k := 67) rfl rfl
  | 2, _ => exact LW_t tb2 (k := 69) rfl rfl
  | 3, _ => exact LW_t tb2 (k := 71) rfl rfl
  | 4, _ => exact LW_t tb2 (k := 73) rfl rfl
  | 5, _ => exact LW_t tb2 (k := 75) rfl rfl
  | 6, _ => exact LW_t tb2 (k := 77) rfl rfl
  | k + 7, hk => exact absurd hk (by omega)
theorem cf4 : CF 4 RX4 TX4 7 tyX4 := ⟨by decide, rfl, by decide, inX4, tyX4_ok, nmX4⟩
theorem inX5 : ∀ w ∈ u_ws RX5 TX5 5, w ∈ LW := by
  intro w hw
  obtain ⟨k, hk, rfl⟩ := List.mem_map.mp hw
  have hk := List.mem_range.mp hk
  match k, hk with
  | 0, _ => exact LW_t tb6 (k := 122) rfl rfl
  | 1, _ => exact LW_t tb6 (k := 124) rfl rfl
  | 2, _ => exact LW_t tb6 (k := 126) rfl rfl
  | 3, _ => exact LW_t tb6 (k := 128) rfl rfl
  | 4, _ => exact LW_t tb6 (k := 130) rfl rfl
  | k + 5, hk => exact absurd hk (by omega)
theorem cf5 : CF 5 RX5 TX5 5 tyX5 := ⟨by decide, rfl, by decide, inX5, tyX5_ok, nmX5⟩
theorem inX6 : ∀ w ∈ u_ws RX6 TX6 13, w ∈ LW := by
  intro w hw
  obtain ⟨k, hk, rfl⟩ := List.mem_map.mp hw
  have hk := List.mem_range.mp hk
  match k, hk with
  | 0, _ => exact LW_t tb1 (k := 190) rfl rfl
  | 1, _ => exact LW_t tb1 (k := 192) rfl rfl
  | 2, _ => exact LW_t tb1 (k := 194) rfl rfl
  | 3, _ => exact LW_t tb1 (k := 196) rfl rfl
  | 4, _ => exact LW_t tb1 (k := 198) rfl rfl
  | 5, _ => exact LW_t tb1 (k := 200) rfl rfl
  | 6, _ => exact LW_t tb1 (k := 202) rfl rfl
  | 7, _ => exact LW_t tb1 (k := 204) rfl rfl
  | 8, _ => exact LW_t tb1 (k := 206) rfl rfl
  | 9, _ => exact LW_t tb1 (k := 208) rfl rfl
  | 10, _ => exact LW_t tb1 (k := 210) rfl rfl
  | 11, _ => exact LW_t tb1 (k := 212) rfl rfl
  | 12, _ => exact LW_t tb1 (k := 214) rfl rfl
  | k + 13, hk => exact absurd hk (by omega)
theorem cf6 : CF 6 RX6 TX6 13 tyX6 := ⟨by decide, rfl, by decide, inX6, tyX6_ok, nmX6⟩
theorem inX7 : ∀ w ∈ u_ws RX7 TX7 6, w ∈ LW := by
  intro w hw
  obtain ⟨k, hk, rfl⟩ := List.mem_map.mp hw
  have hk := List.mem_range.mp hk
  match k, hk with
  | 0, _ => exact LW_t tb1 (k := 163) rfl rfl
  | 1, _ => exact LW_t tb1 (k := 165) rfl rfl
  | 2, _ => exact LW_t tb1 (k := 167) rfl rfl
  | 3, _ => exact LW_t tb1 (k := 169) rfl rfl
  | 4, _ => exact LW_t tb1 (k := 171) rfl rfl
  | 5, _ => exact LW_t tb1 (k := 173) rfl rfl
  | k + 6, hk => exact absurd hk (by omega)
theorem cf7 : CF 7 RX7 TX7 6 tyX7 := ⟨by decide, rfl, by decide, inX7, tyX7_ok, nmX7⟩
theorem inX8 : ∀ w ∈ u_ws RX8 TX8 13, w ∈ LW := by
  intro w hw
  obtain ⟨k, hk, rfl⟩ := List.mem_map.mp hw
  have hk := List.mem_range.mp hk
  match k, hk with
  | 0, _ => exact LW_t tb2 (k := 24) rfl rfl
  | 1, _ => exact LW_t tb2 (k := 26) rfl rfl
  | 2, _ => exact LW_t tb2 (k := 28) rfl rfl
  | 3, _ => exact LW_t tb2 (k := 30) rfl rfl
  | 4, _ => exact LW_t tb2 (k := 32) rfl rfl
  | 5, _ => exact LW_t tb2 (k := 34) rfl rfl
  | 6, _ => exact LW_t tb2 (k := 36) rfl rfl
  | 7, _ => exact LW_t tb2 (k := 38) rfl rfl
  | 8, _ => exact LW_t tb2 (k := 40) rfl rfl
  | 9, _ => exact LW_t tb2 (k := 42) rfl rfl
  | 10, _ => exact LW_t tb2 (k := 44) rfl rfl
  | 11, _ => exact LW_t tb2 (k := 46) rfl rfl
  | 12, _ => exact LW_t tb2 (k := 48) rfl rfl
  | k + 13, hk => exact absurd hk (by omega)
theorem cf8 : CF 8 RX8 TX8 13 tyX8 := ⟨by decide, rfl, by decide, inX8, tyX8_ok, nmX8⟩
theorem inX9 : ∀ w ∈ u_ws RX9 TX9 17, w ∈ LW := by
  intro w hw
  obtain ⟨k, hk, rfl⟩ := List.mem_map.mp hw
  have hk := List.mem_range.mp hk
  match k, hk with
  | 0, _ => exact LW_t tb1 (k := 109) rfl rfl
  | 1, _ => exact LW_t tb1 (k := 111) rfl rfl
  | 2, _ => exact LW_t tb1 (k := 113) rfl rfl
  | 3, _ => exact LW_t tb1 (k := 115) rfl rfl
  | 4, _ => exact LW_t tb1 (k := 117) rfl rfl
  | 5, _ => exact LW_t tb1 (k := 119) rfl rfl
  | 6, _ => exact LW_t tb1 (k := 121) rfl rfl
  | 7, _ => exact LW_t tb1 (k := 123) rfl rfl
  | 8, _ => exact LW_t tb1 (k := 125) rfl rfl
  | 9, _ => exact LW_t tb1 (k := 127) rfl rfl
  | 10, _ => exact LW_t tb1 (k := 129) rfl rfl
  | 11, _ => exact LW_t tb1 (k := 131) rfl rfl
  | 12, _ => exact LW_t tb1 (k := 133) rfl rfl
  | 13, _ => exact LW_t tb1 (k := 135) rfl rfl
  | 14, _ => exact LW_t tb1 (k := 137) rfl rfl
  | 15, _ => exact LW_t tb1 (k := 139) rfl rfl
  | 16, _ => exact LW_t tb1 (k := 141) rfl rfl
  | k + 17, hk => exact absurd hk (by omega)
theorem cf9 : CF 9 RX9 TX9 17 tyX9 := ⟨by decide, rfl, by decide, inX9, tyX9_ok, nmX9⟩
theorem inX10 : ∀ w ∈ u_ws RX10 TX10 11, w ∈ LW := by
  intro w hw
  obtain ⟨k, hk, rfl⟩ := List.mem_map.mp hw
  have hk := List.mem_range.mp hk
  match k, hk with
  | 0, _ => exact LW_t tb2 (k := 183) rfl rfl
  | 1, _ => exact LW_t tb2 (k := 185) rfl rfl
  | 2, _ => exact LW_t tb2 (k := 187) rfl rfl
  | 3, _ => exact LW_t tb2 (k := 189) rfl rfl
  | 4, _ => exact LW_t tb2 (k := 191) rfl rfl
  | 5, _ => exact LW_t tb2 (k := 193) rfl rfl
  | 6, _ => exact LW_t tb2 (k := 195) rfl rfl
  | 7, _ => exact LW_t tb2 (k := 197) rfl rfl
  | 8, _ => exact LW_t tb2 (k := 199) rfl rfl
  | 9, _ => exact LW_t tb2 (k := 201) rfl rfl
  | 10, _ => exact LW_t tb2 (k := 203) rfl rfl
  | k + 11, hk => exact absurd hk (by omega)
theorem cf10 : CF 10 RX10 TX10 11 tyX10 := ⟨by decide, rfl, by decide, inX10, tyX10_ok, nmX10⟩
theorem inX11 : ∀ w ∈ u_ws RX11 TX11 51, w ∈ LW := by
  intro w hw
  obtain ⟨k, hk, rfl⟩ := List.mem_map.mp hw
  have hk := List.mem_range.mp hk
  match k, hk with
  | 0, _ => exact LW_t tb7 (k := 158) rfl rfl
  | 1, _ => exact LW_t tb7 (k := 160) rfl rfl
  | 2, _ => exact LW_t tb7 (k := 162) rfl rfl
  | 3, _ => exact LW_t tb7 (k := 164) rfl rfl
  | 4, _ => exact LW_t tb7 (k := 166) rfl rfl
  | 5, _ => exact LW_t tb7 (k := 168) rfl rfl
  | 6, _ => exact LW_t tb7 (k := 170) rfl rfl
  | 7, _ => exact LW_t tb7 (k := 172) rfl rfl
  | 8, _ => exact LW_t tb7 (k := 174) rfl rfl
  | 9, _ => exact LW_t tb7 (k := 176) rfl rfl
  | 10, _ => exact LW_t tb7 (k := 178) rfl rfl
  | 11, _ => exact LW_t tb7 (k := 180) rfl rfl
  | 12, _ => exact LW_t tb7 (k := 182) rfl rfl
  | 13, _ => exact LW_t tb7 (k := 184) rfl rfl
  | 14, _ => exact LW_t tb7 (k := 186) rfl rfl
  | 15, _ => exact LW_t tb7 (k := 188) rfl rfl
  | 16, _ => exact LW_t tb7 (k := 190) rfl rfl
  | 17, _ => exact LW_t tb7 (k := 192) rfl rfl
  | 18, _ => exact LW_t tb7 (k := 194) rfl rfl
  | 19, _ => exact LW_t tb7 (k := 196) rfl rfl
  | 20, _ => exact LW_t tb7 (k := 198) rfl rfl
  | 21, _ => exact LW_t tb7 (k := 200) rfl rfl
  | 22, _ => exact LW_t tb7 (k := 202) rfl rfl
  | 23, _ => exact LW_t tb7 (k := 204) rfl rfl
  | 24, _ => exact LW_t tb7 (k := 206) rfl rfl
  | 25, _ => exact LW_t tb7 (k := 208) rfl rfl
  | 26, _ => exact LW_t tb7 (k := 210) rfl rfl
  | 27, _ => exact LW_t tb7 (k := 212) rfl rfl
  | 28, _ => exact LW_t tb7 (k := 214) rfl rfl
  | 29, _ => exact LW_t tb7 (k := 216) rfl rfl
  | 30, _ => exact LW_t tb7 (k := 218) rfl rfl
  | 31, _ => exact LW_t tb7 (k := 220) rfl rfl
  | 32, _ => exact LW_t tb7 (k := 222) rfl rfl
  | 33, _ => exact LW_t tb7 (k := 224) rfl rfl
  | 34, _ => exact LW_t tb7 (k := 226) rfl rfl
  | 35, _ => exact LW_t tb7 (k := 228) rfl rfl
  | 36, _ => exact LW_t tb7 (k := 230) rfl rfl
  | 37, _ => exact LW_t tb7 (k := 232) rfl rfl
  | 38, _ => exact LW_t tb7 (k := 234) rfl rfl
  | 39, _ => exact LW_t tb7 (k := 236) rfl rfl
  | 40, _ => exact LW_t tb7 (k := 238) rfl rfl
  | 41, _ => exact LW_t tb8 (k := 0) rfl rfl
  | 42, _ => exact LW_t tb8 (k := 2) rfl rfl
  | 43, _ => exact LW_t tb8 (k := 4) rfl rfl
  | 44, _ => exact LW_t tb8 (k := 6) rfl rfl
  | 45, _ => exact LW_t tb8 (k := 8) rfl rfl
  | 46, _ => exact LW_t tb8 (k := 10) rfl rfl
  | 47, _ => exact LW_t tb8 (k := 12) rfl rfl
  | 48, _ => exact LW_t tb8 (k := 14) rfl rfl
  | 49, _ => exact LW_t tb8 (k := 16) rfl rfl
  | 50, _ => exact LW_t tb8 (k := 18) rfl rfl
  | k + 51, hk => exact absurd hk (by omega)
theorem cf11 : CF 11 RX11 TX11 51 tyX11 := ⟨by decide, rfl, by decide, inX11, tyX11_ok, nmX11⟩
theorem fk_X9_9 : FK RX9 9 RX9 TX9 17 0 := ⟨by decide, LW_t tb1 (k := 50) rfl rfl, rfl⟩
theorem fk_X8_85 : FK RX8 85 RX9 TX9 17 0 := ⟨by decide, LW_t tb1 (k := 51) rfl rfl, rfl⟩
theorem fk_X6_127 : FK RX6 127 RX9 TX9 17 0 := ⟨by decide, LW_t tb1 (k := 52) rfl rfl, rfl⟩
theorem fk_X10_261 : FK RX10 261 RX9 TX9 17 0 := ⟨by decide, LW_t tb1 (k := 53) rfl rfl, rfl⟩
theorem fk_X9_15 : FK RX9 15 RX9 TX9 17 1 := ⟨by decide, LW_t tb1 (k := 54) rfl rfl, rfl⟩
theorem fk_X10_103 : FK RX10 103 RX9 TX9 17 1 := ⟨by decide, LW_t tb1 (k := 55) rfl rfl, rfl⟩
theorem fk_X8_88 : FK RX8 88 RX9 TX9 17 1 := ⟨by decide, LW_t tb1 (k := 56) rfl rfl, rfl⟩
theorem fk_X6_143 : FK RX6 143 RX9 TX9 17 1 := ⟨by decide, LW_t tb1 (k := 57) rfl rfl, rfl⟩
theorem fk_X9_19 : FK RX9 19 RX9 TX9 17 2 := ⟨by decide, LW_t tb1 (k := 58) rfl rfl, rfl⟩
theorem fk_X10_106 : FK RX10 106 RX9 TX9 17 2 := ⟨by decide, LW_t tb1 (k := 59) rfl rfl, rfl⟩
theorem fk_X8_76 : FK RX8 76 RX9 TX9 17 2 := ⟨by decide, LW_t tb1 (k := 60) rfl rfl, rfl⟩
theorem fk_X6_149 : FK RX6 149 RX9 TX9 17 2 := ⟨by decide, LW_t tb1 (k := 61) rfl rfl, rfl⟩
theorem fk_X9_22 : FK RX9 22 RX9 TX9 17 3 := ⟨by decide, LW_t tb1 (k := 62) rfl rfl, rfl⟩
theorem fk_X10_109 : FK RX10 109 RX9 TX9 17 3 := ⟨by decide, LW_t tb1 (k := 63) rfl rfl, rfl⟩
theorem fk_X8_99 : FK RX8 99 RX9 TX9 17 3 := ⟨by decide, LW_t tb1 (k := 64) rfl rfl, rfl⟩
theorem fk_X6_152 : FK RX6 152 RX9 TX9 17 3 := ⟨by decide, LW_t tb1 (k := 65) rfl rfl, rfl⟩
theorem fk_X9_25 : FK RX9 25 RX9 TX9 17 4 := ⟨by decide, LW_t tb1 (k := 66) rfl rfl, rfl⟩
theorem fk_X8_61 : FK RX8 61 RX9 TX9 17 4 := ⟨by decide, LW_t tb1 (k := 67) rfl rfl, rfl⟩
theorem fk_X6_155 : FK RX6 155 RX9 TX9 17 4 := ⟨by decide, LW_t tb1 (k := 68) rfl rfl, rfl⟩
theorem fk_X9_29 : FK RX9 29 RX9 TX9 17 5 := ⟨by decide, LW_t tb1 (k := 69) rfl rfl, rfl⟩
theorem fk_X6_83 : FK RX6 83 RX9 TX9 17 5 := ⟨by decide, LW_t tb1 (k := 70) rfl rfl, rfl⟩
theorem fk_X3_76 : FK RX3 76 RX9 TX9 17 5 := ⟨by decide, LW_t tb1 (k := 71) rfl rfl, rfl⟩
theorem fk_X0_122 : FK RX0 122 RX9 TX9 17 5 := ⟨by decide, LW_t tb1 (k := 72) rfl rfl, rfl⟩
theorem fk_X4_126 : FK RX4 126 RX9 TX9 17 5 := ⟨by decide, LW_t tb1 (k := 73) rfl rfl, rfl⟩
theorem fk_X10_318 : FK RX10 318 RX9 TX9 17 5 := ⟨by decide, LW_t tb1 (k := 74) rfl rfl, rfl⟩
theorem fk_X9_32 : FK RX9 32 RX9 TX9 17 6 := ⟨by decide, LW_t tb1 (k := 75) rfl rfl, rfl⟩
theorem fk_X6_97 : FK RX6 97 RX9 TX9 17 6 := ⟨by decide, LW_t tb1 (k := 76) rfl rfl, rfl⟩
theorem fk_X0_125 : FK RX0 125 RX9 TX9 17 6 := ⟨by decide, LW_t tb1 (k := 77) rfl rfl, rfl⟩
theorem fk_X9_37 : FK RX9 37 RX9 TX9 17 7 := ⟨by decide, LW_t tb1 (k := 78) rfl rfl, rfl⟩
theorem fk_X6_162 : FK RX6 162 RX9 TX9 17 7 := ⟨by decide, LW_t tb1 (k := 79) rfl rfl, rfl⟩
theorem fk_X9_41 : FK RX9 41 RX9 TX9 17 8 := ⟨by decide, LW_t tb1 (k := 80) rfl rfl, rfl⟩
theorem fk_X0_116 : FK RX0 116 RX9 TX9 17 8 := ⟨by decide, LW_t tb1 (k := 81) rfl rfl, rfl⟩
theorem fk_X2_122 : FK RX2 122 RX9 TX9 17 8 := ⟨by decide, LW_t tb1 (k := 82) rfl rfl, rfl⟩
theorem fk_X6_181 : FK RX6 181 RX9 TX9 17 8 := ⟨by decide, LW_t tb1 (k := 83) rfl rfl, rfl⟩
theorem fk_X10_434 : FK RX10 434 RX9 TX9 17 8 := ⟨by decide, LW_t tb1 (k := 84) rfl rfl, rfl⟩
theorem fk_X9_44 : FK RX9 44 RX9 TX9 17 9 := ⟨by decide, LW_t tb1 (k := 85) rfl rfl, rfl⟩
theorem fk_X6_184 : FK RX6 184 RX9 TX9 17 9 := ⟨by decide, LW_t tb1 (k := 86) rfl rfl, rfl⟩
theorem fk_X10_392 : FK RX10 392 RX9 TX9 17 9 := ⟨by decide, LW_t tb1 (k := 87) rfl rfl, rfl⟩
theorem fk_X9_47 : FK RX9 47 RX9 TX9 17 10 := ⟨by decide, LW_t tb1 (k := 88) rfl rfl, rfl⟩
theorem fk_X6_187 : FK RX6 187 RX9 TX9 17 10 := ⟨by decide, LW_t tb1 (k := 89) rfl rfl, rfl⟩
theorem fk_X9_50 : FK RX9 50 RX9 TX9 17 11 := ⟨by decide, LW_t tb1 (k := 90) rfl rfl, rfl⟩
theorem fk_X0_86 : FK RX0 86 RX9 TX9 17 11 := ⟨by decide, LW_t tb1 (k := 91) rfl rfl, rfl⟩
theorem fk_X2_96 : FK RX2 96 RX9 TX9 17 11 := ⟨by decide, LW_t tb1 (k := 92) rfl rfl, rfl⟩
theorem fk_X4_110 : FK RX4 110 RX9 TX9 17 11 := ⟨by decide, LW_t tb1 (k := 93) rfl rfl, rfl⟩
theorem fk_X6_190 : FK RX6 190 RX9 TX9 17 11 := ⟨by decide, LW_t tb1 (k := 94) rfl rfl, rfl⟩
theorem fk_X10_223 : FK RX10 223 RX9 TX9 17 11 := ⟨by decide, LW_t tb1 (k := 95) rfl rfl, rfl⟩
theorem fk_X9_53 : FK RX9 53 RX9 TX9 17 12 := ⟨by decide, LW_t tb1 (k := 96) rfl rfl, rfl⟩
theorem fk_X4_42 : FK RX4 42 RX9 TX9 17 12 := ⟨by decide, LW_t tb1 (k := 97) rfl rfl, rfl⟩
theorem fk_X0_61 : FK RX0 61 RX9 TX9 17 12 := ⟨by decide, LW_t tb1 (k := 98) rfl rfl, rfl⟩
theorem fk_X10_200 : FK RX10 200 RX9 TX9 17 12 := ⟨by decide, LW_t tb1 (k := 99) rfl rfl, rfl⟩
theorem fk_X6_193 : FK RX6 193 RX9 TX9 17 12 := ⟨by decide, LW_t tb1 (k := 100) rfl rfl, rfl⟩
theorem fk_X9_56 : FK RX9 56 RX9 TX9 17 13 := ⟨by decide, LW_t tb1 (k := 101) rfl rfl, rfl⟩
theorem fk_X4_129 : FK RX4 129 RX9 TX9 17 13 := ⟨by decide, LW_t tb1 (k := 102) rfl rfl, rfl⟩
theorem fk_X10_389 : FK RX10 389 RX9 TX9 17 13 := ⟨by decide, LW_t tb1 (k := 103) rfl rfl, rfl⟩
theorem fk_X9_59 : FK RX9 59 RX9 TX9 17 14 := ⟨by decide, LW_t tb1 (k := 104) rfl rfl, rfl⟩
theorem fk_X4_132 : FK RX4 132 RX9 TX9 17 14 := ⟨by decide, LW_t tb1 (k := 105) rfl rfl, rfl⟩
theorem fk_X9_62 : FK RX9 62 RX9 TX9 17 15 := ⟨by decide, LW_t tb1 (k := 106) rfl rfl, rfl⟩
theorem fk_X8_79 : FK RX8 79 RX9 TX9 17 15 := ⟨by decide, LW_t tb1 (k := 107) rfl rfl, rfl⟩
theorem fk_X9_65 : FK RX9 65 RX9 TX9 17 16 := ⟨by decide, LW_t tb1 (k := 108) rfl rfl, rfl⟩
theorem fk_X7_29 : FK RX7 29 RX7 TX7 6 0 := ⟨by decide, LW_t tb1 (k := 153) rfl rfl, rfl⟩
theorem fk_X7_9 : FK RX7 9 RX7 TX7 6 1 := ⟨by decide, LW_t tb1 (k := 154) rfl rfl, rfl⟩
theorem fk_X7_15 : FK RX7 15 RX7 TX7 6 2 := ⟨by decide, LW_t tb1 (k := 155) rfl rfl, rfl⟩
theorem fk_X6_73 : FK RX6 73 RX7 TX7 6 2 := ⟨by decide, LW_t tb1 (k := 156) rfl rfl, rfl⟩
theorem fk_X7_19 : FK RX7 19 RX7 TX7 6 3 := ⟨by decide, LW_t tb1 (k := 157) rfl rfl, rfl⟩
theorem fk_X6_100 : FK RX6 100 RX7 TX7 6 3 := ⟨by decide, LW_t tb1 (k := 158) rfl rfl, rfl⟩
theorem fk_X7_22 : FK RX7 22 RX7 TX7 6 4 := ⟨by decide, LW_t tb1 (k := 159) rfl rfl, rfl⟩
theorem fk_X6_103 : FK RX6 103 RX7 TX7 6 4 := ⟨by decide, LW_t tb1 (k := 160) rfl rfl, rfl⟩
theorem fk_X7_26 : FK RX7 26 RX7 TX7 6 5 := ⟨by decide, LW_t tb1 (k := 161) rfl rfl, rfl⟩
theorem fk_X6_76 : FK RX6 76 RX7 TX7 6 5 := ⟨by decide, LW_t tb1 (k := 162) rfl rfl, rfl⟩
theorem fk_X6_61 : FK RX6 61 RX6 TX6 13 0 := ⟨by decide, LW_t tb1 (k := 177) rfl rfl, rfl⟩
theorem fk_X6_9 : FK RX6 9 RX6 TX6 13 1 := ⟨by decide, LW_t tb1 (k := 178) rfl rfl, rfl⟩
theorem fk_X6_17 : FK RX6 17 RX6 TX6 13 2 := ⟨by decide, LW_t tb1 (k := 179) rfl rfl, rfl⟩
theorem fk_X6_20 : FK RX6 20 RX6 TX6 13 3 := ⟨by decide, LW_t tb1 (k := 180) rfl rfl, rfl⟩
theorem fk_X6_26 : FK RX6 26 RX6 TX6 13 4 := ⟨by decide, LW_t tb1 (k := 181) rfl rfl, rfl⟩
theorem fk_X6_30 : FK RX6 30 RX6 TX6 13 5 := ⟨by decide, LW_t tb1 (k := 182) rfl rfl, rfl⟩
theorem fk_X6_34 : FK RX6 34 RX6 TX6 13 6 := ⟨by decide, LW_t tb1 (k := 183) rfl rfl, rfl⟩
theorem fk_X6_37 : FK RX6 37 RX6 TX6 13 7 := ⟨by decide, LW_t tb1 (k := 184) rfl rfl, rfl⟩
theorem fk_X6_41 : FK RX6 41 RX6 TX6 13 8 := ⟨by decide, LW_t tb1 (k := 185) rfl rfl, rfl⟩
theorem fk_X6_45 : FK RX6 45 RX6 TX6 13 9 := ⟨by decide, LW_t tb1 (k := 186) rfl rfl, rfl⟩
theorem fk_X6_48 : FK RX6 48 RX6 TX6 13 10 := ⟨by decide, LW_t tb1 (k := 187) rfl rfl, rfl⟩
theorem fk_X6_51 : FK RX6 51 RX6 TX6 13 11 := ⟨by decide, LW_t tb1 (k := 188) rfl rfl, rfl⟩
theorem fk_X6_55 : FK RX6 55 RX6 TX6 13 12 := ⟨by decide, LW_t tb1 (k := 189) rfl rfl, rfl⟩
theorem fk_X8_51 : FK RX8 51 RX8 TX8 13 0 := ⟨by decide, LW_t tb1 (k := 226) rfl rfl, rfl⟩
theorem fk_X10_81 : FK RX10 81 RX8 TX8 13 0 := ⟨by decide, LW_t tb1 (k := 227) rfl rfl, rfl⟩
theorem fk_X4_36 : FK RX4 36 RX8 TX8 13 0 := ⟨by decide, LW_t tb1 (k := 228) rfl rfl, rfl⟩
theorem fk_X0_49 : FK RX0 49 RX8 TX8 13 0 := ⟨by decide, LW_t tb1 (k := 229) rfl rfl, rfl⟩
theorem fk_X2_56 : FK RX2 56 RX8 TX8 13 0 := ⟨by decide, LW_t tb1 (k := 230) rfl rfl, rfl⟩
theorem fk_X3_36 : FK RX3 36 RX8 TX8 13 0 := ⟨by decide, LW_t tb1 (k := 231) rfl rfl, rfl⟩
theorem fk_X8_9 : FK RX8 9 RX8 TX8 13 1 := ⟨by decide, LW_t tb1 (k := 232) rfl rfl, rfl⟩
theorem fk_X10_276 : FK RX10 276 RX8 TX8 13 1 := ⟨by decide, LW_t tb1 (k := 233) rfl rfl, rfl⟩
theorem fk_X8_15 : FK RX8 15 RX8 TX8 13 2 := ⟨by decide, LW_t tb1 (k := 234) rfl rfl, rfl⟩
theorem fk_X0_137 : FK RX0 137 RX8 TX8 13 2 := ⟨by decide, LW_t tb1 (k := 235) rfl rfl, rfl⟩
theorem fk_X4_155 : FK RX4 155 RX8 TX8 13 2 := ⟨by decide, LW_t tb1 (k := 236) rfl rfl, rfl⟩
theorem fk_X10_264 : FK RX10 264 RX8 TX8 13 2 := ⟨by decide, LW_t tb1 (k := 237) rfl rfl, rfl⟩
theorem fk_X8_18 : FK RX8 18 RX8 TX8 13 3 := ⟨by decide, LW_t tb1 (k := 238) rfl rfl, rfl⟩
theorem fk_X0_140 : FK RX0 140 RX8 TX8 13 3 := ⟨by decide, LW_t tb1 (k := 239) rfl rfl, rfl⟩
theorem fk_X4_158 : FK RX4 158 RX8 TX8 13 3 := ⟨by decide, LW_t tb2 (k := 0) rfl rfl, rfl⟩
theorem fk_X10_267 : FK RX10 267 RX8 TX8 13 3 := ⟨by decide, LW_t tb2 (k := 1) rfl rfl, rfl⟩
theorem fk_X8_21 : FK RX8 21 RX8 TX8 13 4 := ⟨by decide, LW_t tb2 (k := 2) rfl rfl, rfl⟩
theorem fk_X10_112 : FK RX10 112 RX8 TX8 13 4 := ⟨by decide, LW_t tb2 (k := 3) rfl rfl, rfl⟩
theorem fk_X8_25 : FK RX8 25 RX8 TX8 13 5 := ⟨by decide, LW_t tb2 (k := 4) rfl rfl, rfl⟩
theorem fk_X2_65 : FK RX2 65 RX8 TX8 13 5 := ⟨by decide, LW_t tb2 (k := 5) rfl rfl, rfl⟩
theorem fk_X10_371 : FK RX10 371 RX8 TX8 13 5 := ⟨by decide, LW_t tb2 (k := 6) rfl rfl, rfl⟩
theorem fk_X8_28 : FK RX8 28 RX8 TX8 13 6 := ⟨by decide, LW_t tb2 (k := 7) rfl rfl, rfl⟩
theorem fk_X2_46 : FK RX2 46 RX8 TX8 13 6 := ⟨by decide, LW_t tb2 (k := 8) rfl rfl, rfl⟩
theorem fk_X8_31 : FK RX8 31 RX8 TX8 13 7 := ⟨by decide, LW_t tb2 (k := 9) rfl rfl, rfl⟩
theorem fk_X2_49 : FK RX2 49 RX8 TX8 13 7 := ⟨by decide, LW_t tb2 (k := 10) rfl rfl, rfl⟩
theorem fk_X8_34 : FK RX8 34 RX8 TX8 13 8 := ⟨by decide, LW_t tb2 (k := 11) rfl rfl, rfl⟩
theorem fk_X2_33 : FK RX2 33 RX8 TX8 13 8 := ⟨by decide, LW_t tb2 (k := 12) rfl rfl, rfl⟩
theorem fk_X10_345 : FK RX10 345 RX8 TX8 13 8 := ⟨by decide, LW_t tb2 (k := 13) rfl rfl, rfl⟩
theorem fk_X8_38 : FK RX8 38 RX8 TX8 13 9 := ⟨by decide, LW_t tb2 (k := 14) rfl rfl, rfl⟩
theorem fk_X10_382 : FK RX10 382 RX8 TX8 13 9 := ⟨by decide, LW_t tb2 (k := 15) rfl rfl, rfl⟩
theorem fk_X8_42 : FK RX8 42 RX8 TX8 13 10 := ⟨by decide, LW_t tb2 (k := 16) rfl rfl, rfl⟩
theorem fk_X4_116 : FK RX4 116 RX8 TX8 13 10 := ⟨by decide, LW_t tb2 (k := 17) rfl rfl, rfl⟩
theorem fk_X10_235 : FK RX10 235 RX8 TX8 13 10 := ⟨by decide, LW_t tb2 (k := 18) rfl rfl, rfl⟩
theorem fk_X8_45 : FK RX8 45 RX8 TX8 13 11 := ⟨by decide, LW_t tb2 (k := 19) rfl rfl, rfl⟩
theorem fk_X4_164 : FK RX4 164 RX8 TX8 13 11 := ⟨by decide, LW_t tb2 (k := 20) rfl rfl, rfl⟩
theorem fk_X8_48 : FK RX8 48 RX8 TX8 13 12 := ⟨by decide, LW_t tb2 (k := 21) rfl rfl, rfl⟩
theorem fk_X4_113 : FK RX4 113 RX8 TX8 13 12 := ⟨by decide, LW_t tb2 (k := 22) rfl rfl, rfl⟩
theorem fk_X10_232 : FK RX10 232 RX8 TX8 13 12 := ⟨by decide, LW_t tb2 (k := 23) rfl rfl, rfl⟩
theorem fk_X4_32 : FK RX4 32 RX4 TX4 7 0 := ⟨by decide, LW_t tb2 (k := 58) rfl rfl, rfl⟩
theorem fk_X4_9 : FK RX4 9 RX4 TX4 7 1 := ⟨by decide, LW_t tb2 (k := 59) rfl rfl, rfl⟩
theorem fk_X4_15 : FK RX4 15 RX4 TX4 7 2 := ⟨by decide, LW_t tb2 (k := 60) rfl rfl, rfl⟩
theorem fk_X4_19 : FK RX4 19 RX4 TX4 7 3 := ⟨by decide, LW_t tb2 (k := 61) rfl rfl, rfl⟩
theorem fk_X4_22 : FK RX4 22 RX4 TX4 7 4 := ⟨by decide, LW_t tb2 (k := 62) rfl rfl, rfl⟩
theorem fk_X4_25 : FK RX4 25 RX4 TX4 7 5 := ⟨by decide, LW_t tb2 (k := 63) rfl rfl, rfl⟩
theorem fk_X4_29 : FK RX4 29 RX4 TX4 7 6 := ⟨by decide, LW_t tb2 (k := 64) rfl rfl, rfl⟩
theorem fk_X3_22 : FK RX3 22 RX3 TX3 5 0 := ⟨by decide, LW_t tb2 (k := 86) rfl rfl, rfl⟩
theorem fk_X3_26 : FK RX3 26 RX3 TX3 5 1 := ⟨by decide, LW_t tb2 (k := 87) rfl rfl, rfl⟩
theorem fk_X3_9 : FK RX3 9 RX3 TX3 5 2 := ⟨by decide, LW_t tb2 (k := 88) rfl rfl, rfl⟩
theorem fk_X3_15 : FK RX3 15 RX3 TX3 5 3 := ⟨by decide, LW_t tb2 (k := 89) rfl rfl, rfl⟩
theorem fk_X3_18 : FK RX3 18 RX3 TX3 5 4 := ⟨by decide, LW_t tb2 (k := 90) rfl rfl, rfl⟩
theorem fk_X0_35 : FK RX0 35 RX0 TX0 9 0 := ⟨by decide, LW_t tb2 (k := 108) rfl rfl, rfl⟩
theorem fk_X0_39 : FK RX0 39 RX0 TX0 9 1 := ⟨by decide, LW_t tb2 (k := 109) rfl rfl, rfl⟩
theorem fk_X0_9 : FK RX0 9 RX0 TX0 9 2 := ⟨by decide, LW_t tb2 (k := 110) rfl rfl, rfl⟩
theorem fk_X10_288 : FK RX10 288 RX0 TX0 9 2 := ⟨by decide, LW_t tb2 (k := 111) rfl rfl, rfl⟩
theorem fk_X0_15 : FK RX0 15 RX0 TX0 9 3 := ⟨by decide, LW_t tb2 (k := 112) rfl rfl, rfl⟩
theorem fk_X10_291 : FK RX10 291 RX0 TX0 9 3 := ⟨by decide, LW_t tb2 (k := 113) rfl rfl, rfl⟩
theorem fk_X0_18 : FK RX0 18 RX0 TX0 9 4 := ⟨by decide, LW_t tb2 (k := 114) rfl rfl, rfl⟩
theorem fk_X10_294 : FK RX10 294 RX0 TX0 9 4 := ⟨by decide, LW_t tb2 (k := 115) rfl rfl, rfl⟩
theorem fk_X0_21 : FK RX0 21 RX0 TX0 9 5 := ⟨by decide, LW_t tb2 (k := 116) rfl rfl, rfl⟩
theorem fk_X10_285 : FK RX10 285 RX0 TX0 9 5 := ⟨by decide, LW_t tb2 (k := 117) rfl rfl, rfl⟩
theorem fk_X0_24 : FK RX0 24 RX0 TX0 9 6 := ⟨by decide, LW_t tb2 (k := 118) rfl rfl, rfl⟩
theorem fk_X0_27 : FK RX0 27 RX0 TX0 9 7 := ⟨by decide, LW_t tb2 (k := 119) rfl rfl, rfl⟩
theorem fk_X10_315 : FK RX10 315 RX0 TX0 9 7 := ⟨by decide, LW_t tb2 (k := 120) rfl rfl, rfl⟩
theorem fk_X0_31 : FK RX0 31 RX0 TX0 9 8 := ⟨by decide, LW_t tb2 (k := 121) rfl rfl, rfl⟩
theorem fk_X2_25 : FK RX2 25 RX2 TX2 6 0 := ⟨by decide, LW_t tb2 (k := 147) rfl rfl, rfl⟩
theorem fk_X2_29 : FK RX2 29 RX2 TX2 6 1 := ⟨by decide, LW_t tb2 (k := 148) rfl rfl, rfl⟩
theorem fk_X2_9 : FK RX2 9 RX2 TX2 6 2 := ⟨by decide, LW_t tb2 (k := 149) rfl rfl, rfl⟩
theorem fk_X2_15 : FK RX2 15 RX2 TX2 6 3 := ⟨by decide, LW_t tb2 (k := 150) rfl rfl, rfl⟩
theorem fk_X2_18 : FK RX2 18 RX2 TX2 6 4 := ⟨by decide, LW_t tb2 (k := 151) rfl rfl, rfl⟩
theorem fk_X10_356 : FK RX10 356 RX2 TX2 6 4 := ⟨by decide, LW_t tb2 (k := 152) rfl rfl, rfl⟩
theorem fk_X2_22 : FK RX2 22 RX2 TX2 6 5 := ⟨by decide, LW_t tb2 (k := 153) rfl rfl, rfl⟩
theorem fk_X10_351 : FK RX10 351 RX2 TX2 6 5 := ⟨by decide, LW_t tb2 (k := 154) rfl rfl, rfl⟩
theorem fk_X10_9 : FK RX10 9 RX10 TX10 11 0 := ⟨by decide, LW_t tb2 (k := 172) rfl rfl, rfl⟩
theorem fk_X10_13 : FK RX10 13 RX10 TX10 11 1 := ⟨by decide, LW_t tb2 (k := 173) rfl rfl, rfl⟩
theorem fk_X10_22 : FK RX10 22 RX10 TX10 11 2 := ⟨by decide, LW_t tb2 (k := 174) rfl rfl, rfl⟩
theorem fk_X10_34 : FK RX10 34 RX10 TX10 11 3 := ⟨by decide, LW_t tb2 (k := 175) rfl rfl, rfl⟩
theorem fk_X10_38 : FK RX10 38 RX10 TX10 11 4 := ⟨by decide, LW_t tb2 (k := 176) rfl rfl, rfl⟩
theorem fk_X10_47 : FK RX10 47 RX10 TX10 11 5 := ⟨by decide, LW_t tb2 (k := 177) rfl rfl, rfl⟩
theorem fk_X10_56 : FK RX10 56 RX10 TX10 11 6 := ⟨by decide, LW_t tb2 (k := 178) rfl rfl, rfl⟩
theorem fk_X10_63 : FK RX10 63 RX10 TX10 11 7 := ⟨by decide, LW_t tb2 (k := 179) rfl rfl, rfl⟩
theorem fk_X10_70 : FK RX10 70 RX10 TX10 11 8 := ⟨by decide, LW_t tb2 (k := 180) rfl rfl, rfl⟩
theorem fk_X10_74 : FK RX10 74 RX10 TX10 11 9 := ⟨by decide, LW_t tb2 (k := 181) rfl rfl, rfl⟩
theorem fk_X10_78 : FK RX10 78 RX10 TX10 11 10 := ⟨by decide, LW_t tb2 (k := 182) rfl rfl, rfl⟩
theorem fk_X1_7 : FK RX1 7 RX1 TX1 1 0 := ⟨by decide, LW_t tb3 (k := 231) rfl rfl, rfl⟩
theorem fk_X5_7 : FK RX5 7 RX5 TX5 5 0 := ⟨by decide, LW_t tb6 (k := 113) rfl rfl, rfl⟩
theorem fk_X5_13 : FK RX5 13 RX5 TX5 5 1 := ⟨by decide, LW_t tb6 (k := 114) rfl rfl, rfl⟩
theorem fk_X10_251 : FK RX10 251 RX5 TX5 5 1 := ⟨by decide, LW_t tb6 (k := 115) rfl rfl, rfl⟩
theorem fk_X5_17 : FK RX5 17 RX5 TX5 5 2 := ⟨by decide, LW_t tb6 (k := 116) rfl rfl, rfl⟩
theorem fk_X10_242 : FK RX10 242 RX5 TX5 5 2 := ⟨by decide, LW_t tb6 (k := 117) rfl rfl, rfl⟩
theorem fk_X5_21 : FK RX5 21 RX5 TX5 5 3 := ⟨by decide, LW_t tb6 (k := 118) rfl rfl, rfl⟩
theorem fk_X10_245 : FK RX10 245 RX5 TX5 5 3 := ⟨by decide, LW_t tb6 (k := 119) rfl rfl, rfl⟩
theorem fk_X5_24 : FK RX5 24 RX5 TX5 5 4 := ⟨by decide, LW_t tb6 (k := 120) rfl rfl, rfl⟩
theorem fk_X10_248 : FK RX10 248 RX5 TX5 5 4 := ⟨by decide, LW_t tb6 (k := 121) rfl rfl, rfl⟩
theorem fk_X11_1 : FK RX11 1 RX11 TX11 51 0 := ⟨by decide, LW_t tb7 (k := 107) rfl rfl, rfl⟩
theorem fk_X11_14 : FK RX11 14 RX11 TX11 51 1 := ⟨by decide, LW_t tb7 (k := 108) rfl rfl, rfl⟩
theorem fk_X11_11 : FK RX11 11 RX11 TX11 51 2 := ⟨by decide, LW_t tb7 (k := 109) rfl rfl, rfl⟩
theorem fk_X11_174 : FK RX11 174 RX11 TX11 51 3 := ⟨by decide, LW_t tb7 (k := 110) rfl rfl, rfl⟩
theorem fk_X11_24 : FK RX11 24 RX11 TX11 51 4 := ⟨by decide, LW_t tb7 (k := 111) rfl rfl, rfl⟩
theorem fk_X11_27 : FK RX11 27 RX11 TX11 51 5 := ⟨by decide, LW_t tb7 (k := 112) rfl rfl, rfl⟩
theorem fk_X11_30 : FK RX11 30 RX11 TX11 51 6 := ⟨by decide, LW_t tb7 (k := 113) rfl rfl, rfl⟩
theorem fk_X11_193 : FK RX11 193 RX11 TX11 51 7 := ⟨by decide, LW_t tb7 (k := 114) rfl rfl, rfl⟩
theorem fk_X11_196 : FK RX11 196 RX11 TX11 51 8 := ⟨by decide, LW_t tb7 (k := 115) rfl rfl, rfl⟩
theorem fk_X11_70 : FK RX11 70 RX11 TX11 51 9 := ⟨by decide, LW_t tb7 (k := 116) rfl rfl, rfl⟩
theorem fk_X11_73 : FK RX11 73 RX11 TX11 51 10 := ⟨by decide, LW_t tb7 (k := 117) rfl rfl, rfl⟩
theorem fk_X11_76 : FK RX11 76 RX11 TX11 51 11 := ⟨by decide, LW_t tb7 (k := 118) rfl rfl, rfl⟩
theorem fk_X11_79 : FK RX11 79 RX11 TX11 51 12 := ⟨by decide, LW_t tb7 (k := 119) rfl rfl, rfl⟩
theorem fk_X11_215 : FK RX11 215 RX11 TX11 51 13 := ⟨by decide, LW_t tb7 (k := 120) rfl rfl, rfl⟩
theorem fk_X11_82 : FK RX11 82 RX11 TX11 51 14 := ⟨by decide, LW_t tb7 (k := 121) rfl rfl, rfl⟩
theorem fk_X11_85 : FK RX11 85 RX11 TX11 51 15 := ⟨by decide, LW_t tb7 (k := 122) rfl rfl, rfl⟩
theorem fk_X11_218 : FK RX11 218 RX11 TX11 51 16 := ⟨by decide, LW_t tb7 (k := 123) rfl rfl, rfl⟩
theorem fk_X11_221 : FK RX11 221 RX11 TX11 51 17 := ⟨by decide, LW_t tb7 (k := 124) rfl rfl, rfl⟩
theorem fk_X11_270 : FK RX11 270 RX11 TX11 51 18 := ⟨by decide, LW_t tb7 (k := 125) rfl rfl, rfl⟩
theorem fk_X11_163 : FK RX11 163 RX11 TX11 51 19 := ⟨by decide, LW_t tb7 (k := 126) rfl rfl, rfl⟩
theorem fk_X11_167 : FK RX11 167 RX11 TX11 51 20 := ⟨by decide, LW_t tb7 (k := 127) rfl rfl, rfl⟩
theorem fk_X11_89 : FK RX11 89 RX11 TX11 51 21 := ⟨by decide, LW_t tb7 (k := 128) rfl rfl, rfl⟩
theorem fk_X11_92 : FK RX11 92 RX11 TX11 51 22 := ⟨by decide, LW_t tb7 (k := 129) rfl rfl, rfl⟩
theorem fk_X11_95 : FK RX11 95 RX11 TX11 51 23 := ⟨by decide, LW_t tb7 (k := 130) rfl rfl, rfl⟩
theorem fk_X11_98 : FK RX11 98 RX11 TX11 51 24 := ⟨by decide, LW_t tb7 (k := 131) rfl rfl, rfl⟩
theorem fk_X11_101 : FK RX11 101 RX11 TX11 51 25 := ⟨by decide, LW_t tb7 (k := 132) rfl rfl, rfl⟩
theorem fk_X11_104 : FK RX11 104 RX11 TX11 51 26 := ⟨by decide, LW_t tb7 (k := 133) rfl rfl, rfl⟩
theorem fk_X11_121 : FK RX11 121 RX11 TX11 51 27 := ⟨by decide, LW_t tb7 (k := 134) rfl rfl, rfl⟩
theorem fk_X11_429 : FK RX11 429 RX11 TX11 51 28 := ⟨by decide, LW_t tb7 (k := 135) rfl rfl, rfl⟩
theorem fk_X11_433 : FK RX11 433 RX11 TX11 51 29 := ⟨by decide, LW_t tb7 (k := 136) rfl rfl, rfl⟩
theorem fk_X11_124 : FK RX11 124 RX11 TX11 51 30 := ⟨by decide, LW_t tb7 (k := 137) rfl rfl, rfl⟩
theorem fk_X11_127 : FK RX11 127 RX11 TX11 51 31 := ⟨by decide, LW_t tb7 (k := 138) rfl rfl, rfl⟩
theorem fk_X11_456 : FK RX11 456 RX11 TX11 51 32 := ⟨by decide, LW_t tb7 (k := 139) rfl rfl, rfl⟩
theorem fk_X11_130 : FK RX11 130 RX11 TX11 51 33 := ⟨by decide, LW_t tb7 (k := 140) rfl rfl, rfl⟩
theorem fk_X11_133 : FK RX11 133 RX11 TX11 51 34 := ⟨by decide, LW_t tb7 (k := 141) rfl rfl, rfl⟩
theorem fk_X11_136 : FK RX11 136 RX11 TX11 51 35 := ⟨by decide, LW_t tb7 (k := 142) rfl rfl, rfl⟩
theorem fk_X11_139 : FK RX11 139 RX11 TX11 51 36 := ⟨by decide, LW_t tb7 (k := 143) rfl rfl, rfl⟩
theorem fk_X11_142 : FK RX11 142 RX11 TX11 51 37 := ⟨by decide, LW_t tb7 (k := 144) rfl rfl, rfl⟩
theorem fk_X11_495 : FK RX11 495 RX11 TX11 51 38 := ⟨by decide, LW_t tb7 (k := 145) rfl rfl, rfl⟩
theorem fk_X11_145 : FK RX11 145 RX11 TX11 51 39 := ⟨by decide, LW_t tb7 (k := 146) rfl rfl, rfl⟩
theorem fk_X11_234 : FK RX11 234 RX11 TX11 51 40 := ⟨by decide, LW_t tb7 (k := 147) rfl rfl, rfl⟩
theorem fk_X11_148 : FK RX11 148 RX11 TX11 51 41 := ⟨by decide, LW_t tb7 (k := 148) rfl rfl, rfl⟩
theorem fk_X11_151 : FK RX11 151 RX11 TX11 51 42 := ⟨by decide, LW_t tb7 (k := 149) rfl rfl, rfl⟩
theorem fk_X11_555 : FK RX11 555 RX11 TX11 51 43 := ⟨by decide, LW_t tb7 (k := 150) rfl rfl, rfl⟩
theorem fk_X11_558 : FK RX11 558 RX11 TX11 51 44 := ⟨by decide, LW_t tb7 (k := 151) rfl rfl, rfl⟩
theorem fk_X11_561 : FK RX11 561 RX11 TX11 51 45 := ⟨by decide, LW_t tb7 (k := 152) rfl rfl, rfl⟩
theorem fk_X11_564 : FK RX11 564 RX11 TX11 51 46 := ⟨by decide, LW_t tb7 (k := 153) rfl rfl, rfl⟩
theorem fk_X11_567 : FK RX11 567 RX11 TX11 51 47 := ⟨by decide, LW_t tb7 (k := 154) rfl rfl, rfl⟩
theorem fk_X11_154 : FK RX11 154 RX11 TX11 51 48 := ⟨by decide, LW_t tb7 (k := 155) rfl rfl, rfl⟩
theorem fk_X11_157 : FK RX11 157 RX11 TX11 51 49 := ⟨by decide, LW_t tb7 (k := 156) rfl rfl, rfl⟩
theorem fk_X11_160 : FK RX11 160 RX11 TX11 51 50 := ⟨by decide, LW_t tb7 (k := 157) rfl rfl, rfl⟩
theorem zk_X11_311 : Cond.fieldLink RX11 311 "LastWordModel" "THREES" "[I" ∈ LW := LW_t tb8 (k := 184) rfl rfl
theorem mk_X0_init : MK yX0_init cX0_init 3 none 2 := ⟨LW_t tb2 (k := 106) rfl rfl, LW_t tb1 (k := 9) rfl rfl, by decide, by decide, by decide +kernel⟩
theorem ik_X0_init : Cond.instanceMethod yX0_init ∈ LW := LW_t tb2 (k := 105) rfl rfl
theorem mk_X0_run : MK yX0_run cX0_run 6 none 2 := ⟨LW_t tb4 (k := 234) rfl rfl, LW_t tb1 (k := 9) rfl rfl, by decide, by decide, by decide +kernel⟩
theorem vk_X0_run : VK yX0_run := ⟨LW_t tb4 (k := 232) rfl rfl, LW_t tb4 (k := 233) rfl rfl⟩
theorem mk_X0_faresOf : MK yX0_faresOf cX0_faresOf 6 (some .int) 1 := ⟨LW_t tb5 (k := 59) rfl rfl, LW_t tb1 (k := 9) rfl rfl, by decide, by decide, by decide +kernel⟩
theorem vk_X0_faresOf : VK yX0_faresOf := ⟨LW_t tb5 (k := 57) rfl rfl, LW_t tb5 (k := 58) rfl rfl⟩
theorem mk_X0_faresOfAll : MK yX0_faresOfAll cX0_faresOfAll 3 (some .int) 0 := ⟨LW_t tb5 (k := 55) rfl rfl, LW_t tb1 (k := 9) rfl rfl, by decide, by decide, by decide +kernel⟩
theorem vk_X0_faresOfAll : VK yX0_faresOfAll := ⟨LW_t tb5 (k := 53) rfl rfl, LW_t tb5 (k := 54) rfl rfl⟩
theorem mk_X0_lasts : MK yX0_lasts cX0_lasts 4 (some .int) 0 := ⟨LW_t tb6 (k := 209) rfl rfl, LW_t tb1 (k := 9) rfl rfl, by decide, by decide, by decide +kernel⟩
theorem vk_X0_lasts : VK yX0_lasts := ⟨LW_t tb6 (k := 207) rfl rfl, LW_t tb6 (k := 208) rfl rfl⟩
theorem mk_X0_timesBack : MK yX0_timesBack cX0_timesBack 3 (some .int) 0 := ⟨LW_t tb6 (k := 213) rfl rfl, LW_t tb1 (k := 9) rfl rfl, by decide, by decide, by decide +kernel⟩
theorem vk_X0_timesBack : VK yX0_timesBack := ⟨LW_t tb6 (k := 211) rfl rfl, LW_t tb6 (k := 212) rfl rfl⟩
theorem mk_X0_timesAsked : MK yX0_timesAsked cX0_timesAsked 4 (some .int) 1 := ⟨LW_t tb6 (k := 222) rfl rfl, LW_t tb1 (k := 9) rfl rfl, by decide, by decide, by decide +kernel⟩
theorem vk_X0_timesAsked : VK yX0_timesAsked := ⟨LW_t tb6 (k := 220) rfl rfl, LW_t tb6 (k := 221) rfl rfl⟩
theorem mk_X0_hadStoodSo : MK yX0_hadStoodSo cX0_hadStoodSo 6 (some .boolean) 1 := ⟨LW_t tb6 (k := 217) rfl rfl, LW_t tb1 (k := 9) rfl rfl, by decide, by decide, by decide +kernel⟩
theorem vk_X0_hadStoodSo : VK yX0_hadStoodSo := ⟨LW_t tb6 (k := 216) rfl rfl, LW_mem (List.mem_append_left _ (List.mem_map.mpr ⟨(⟨"LastWord$Century", "hadStoodSo", "(I)Z"⟩, 9), List.mem_of_getElem? (i := 70) rfl, rfl⟩)) rfl⟩
theorem mk_X0_draw : MK yX0_draw cX0_draw 2 (some .int) 1 := ⟨LW_t tb5 (k := 7) rfl rfl, LW_t tb1 (k := 9) rfl rfl, by decide, by decide, by decide +kernel⟩
theorem vk_X0_draw : VK yX0_draw := ⟨LW_t tb5 (k := 6) rfl rfl, LW_mem (List.mem_append_left _ (List.mem_map.mpr ⟨(⟨"LastWord$Century", "draw", "(I)I"⟩, 9), List.mem_of_getElem? (i := 45) rfl, rfl⟩)) rfl⟩
theorem mk_X0_whoComes : MK yX0_whoComes cX0_whoComes 5 (some .int) 1 := ⟨LW_t tb5 (k := 3) rfl rfl, LW_t tb1 (k := 9) rfl rfl, by decide, by decide, by decide +kernel⟩
theorem vk_X0_whoComes : VK yX0_whoComes := ⟨LW_t tb5 (k := 2) rfl rfl, LW_mem (List.mem_append_left _ (List.mem_map.mpr ⟨(⟨"LastWord$Century", "whoComes", "(I)I"⟩, 9), List.mem_of_getElem? (i := 44) rfl, rfl⟩)) rfl⟩
theorem mk_X0_whoIsAsked : MK yX0_whoIsAsked cX0_whoIsAsked 4 (some .int) 2 := ⟨LW_t tb5 (k := 15) rfl rfl, LW_t tb1 (k := 9) rfl rfl, by decide, by decide, by decide +kernel⟩
theorem vk_X0_whoIsAsked : VK yX0_whoIsAsked := ⟨LW_t tb5 (k := 14) rfl rfl, LW_mem (List.mem_append_left _ (List.mem_map.mpr ⟨(⟨"LastWord$Century", "whoIsAsked", "(II)I"⟩, 9), List.mem_of_getElem? (i := 46) rfl, rfl⟩)) rfl⟩
theorem mk_X0_cameIn : MK yX0_cameIn cX0_cameIn 2 (some .int) 1 := ⟨LW_t tb5 (k := 19) rfl rfl, LW_t tb1 (k := 9) rfl rfl, by decide, by decide, by decide +kernel⟩
theorem vk_X0_cameIn : VK yX0_cameIn := ⟨LW_t tb5 (k := 18) rfl rfl, LW_mem (List.mem_append_left _ (List.mem_map.mpr ⟨(⟨"LastWord$Century", "cameIn", "(I)I"⟩, 9), List.mem_of_getElem? (i := 47) rfl, rfl⟩)) rfl⟩
theorem mk_X0_lastWhoCame : MK yX0_lastWhoCame cX0_lastWhoCame 3 (some .int) 1 := ⟨LW_t tb5 (k := 23) rfl rfl, LW_t tb1 (k := 9) rfl rfl, by decide, by decide, by decide +kernel⟩
theorem vk_X0_lastWhoCame : VK yX0_lastWhoCame := ⟨LW_t tb5 (k := 22) rfl rfl, LW_mem (List.mem_append_left _ (List.mem_map.mpr ⟨(⟨"LastWord$Century", "lastWhoCame", "(I)I"⟩, 9), List.mem_of_getElem? (i := 48) rfl, rfl⟩)) rfl⟩
theorem mk_X0_answer : MK yX0_answer cX0_answer 5 (some .int) 3 := ⟨LW_t tb5 (k := 27) rfl rfl, LW_t tb1 (k := 9) rfl rfl, by decide, by decide, by decide +kernel⟩
theorem vk_X0_answer : VK yX0_answer := ⟨LW_t tb5 (k := 26) rfl rfl, LW_mem (List.mem_append_left _ (List.mem_map.mpr ⟨(⟨"LastWord$Century", "answer", "(III)I"⟩, 9), List.mem_of_getElem? (i := 49) rfl, rfl⟩)) rfl⟩
theorem mk_X0_answerOfAll : MK yX0_answerOfAll cX0_answerOfAll 4 (some .int) 2 := ⟨LW_t tb5 (k := 34) rfl rfl, LW_t tb1 (k := 9) rfl rfl, by decide, by decide, by decide +kernel⟩
theorem vk_X0_answerOfAll : VK yX0_answerOfAll := ⟨LW_t tb5 (k := 33) rfl rfl, LW_mem (List.mem_append_left _ (List.mem_map.mpr ⟨(⟨"LastWord$Century", "answerOfAll", "(II)I"⟩, 9), List.mem_of_getElem? (i := 50) rfl, rfl⟩)) rfl⟩
theorem mk_X0_pay : MK yX0_pay cX0_pay 4 none 3 := ⟨LW_t tb5 (k := 51) rfl rfl, LW_t tb1 (k := 9) rfl rfl, by decide, by decide, by decide +kernel⟩
theorem vk_X0_pay : VK yX0_pay := ⟨LW_t tb5 (k := 50) rfl rfl, LW_mem (List.mem_append_left _ (List.mem_map.mpr ⟨(⟨"LastWord$Century", "pay", "(III)V"⟩, 9), List.mem_of_getElem? (i := 51) rfl, rfl⟩)) rfl⟩
theorem mk_X1_init : MK yX1_init cX1_init 2 none 1 := ⟨LW_t tb3 (k := 229) rfl rfl, LW_t tb1 (k := 18) rfl rfl, by decide, by decide, by decide +kernel⟩
theorem ik_X1_init : Cond.instanceMethod yX1_init ∈ LW := LW_t tb3 (k := 228) rfl rfl
theorem mk_X1_reckon : MK yX1_reckon cX1_reckon 8 (some .int) 4 := ⟨LW_t tb4 (k := 40) rfl rfl, LW_t tb1 (k := 18) rfl rfl, by decide, by decide, by decide +kernel⟩
theorem vk_X1_reckon : VK yX1_reckon := ⟨LW_t tb4 (k := 38) rfl rfl, LW_t tb4 (k := 39) rfl rfl⟩
theorem mk_X1_partOf : MK yX1_partOf cX1_partOf 5 (some .int) 5 := ⟨LW_t tb4 (k := 46) rfl rfl, LW_t tb1 (k := 18) rfl rfl, by decide, by decide, by decide +kernel⟩
theorem sk_X1_partOf : Cond.static yX1_partOf ∈ LW := LW_t tb4 (k := 45) rfl rfl
theorem mk_X1_join : MK yX1_join cX1_join 3 (some .int) 3 := ⟨LW_t tb4 (k := 43) rfl rfl, LW_t tb1 (k := 18) rfl rfl, by decide, by decide, by decide +kernel⟩
theorem sk_X1_join : Cond.static yX1_join ∈ LW := LW_t tb4 (k := 42) rfl rfl
theorem mk_X2_init : MK yX2_init cX2_init 3 none 2 := ⟨LW_t tb2 (k := 145) rfl rfl, LW_t tb1 (k := 10) rfl rfl, by decide, by decide, by decide +kernel⟩
theorem ik_X2_init : Cond.instanceMethod yX2_init ∈ LW := LW_t tb2 (k := 144) rfl rfl
theorem mk_X2_hear : MK yX2_hear cX2_hear 3 none 0 := ⟨LW_t tb6 (k := 233) rfl rfl, LW_t tb1 (k := 10) rfl rfl, by decide, by decide, by decide +kernel⟩
theorem vk_X2_hear : VK yX2_hear := ⟨LW_t tb6 (k := 231) rfl rfl, LW_t tb6 (k := 232) rfl rfl⟩
theorem mk_X2_standsBehind : MK yX2_standsBehind cX2_standsBehind 1 (some .int) 0 := ⟨LW_t tb6 (k := 237) rfl rfl, LW_t tb1 (k := 10) rfl rfl, by decide, by decide, by decide +kernel⟩
theorem vk_X2_standsBehind : VK yX2_standsBehind := ⟨LW_t tb6 (k := 235) rfl rfl, LW_t tb6 (k := 236) rfl rfl⟩
theorem mk_X2_didAsAhead : MK yX2_didAsAhead cX2_didAsAhead 4 (some .int) 0 := ⟨LW_t tb7 (k := 18) rfl rfl, LW_t tb1 (k := 10) rfl rfl, by decide, by decide, by decide +kernel⟩
theorem vk_X2_didAsAhead : VK yX2_didAsAhead := ⟨LW_t tb7 (k := 16) rfl rfl, LW_t tb7 (k := 17) rfl rfl⟩
theorem mk_X2_likelyAbove : MK yX2_likelyAbove cX2_likelyAbove 5 (some .long) 0 := ⟨LW_t tb7 (k := 27) rfl rfl, LW_t tb1 (k := 10) rfl rfl, by decide, by decide, by decide +kernel⟩
theorem vk_X2_likelyAbove : VK yX2_likelyAbove := ⟨LW_t tb7 (k := 25) rfl rfl, LW_t tb7 (k := 26) rfl rfl⟩
theorem mk_X2_likelyBelow : MK yX2_likelyBelow cX2_likelyBelow 4 (some .long) 0 := ⟨LW_t tb7 (k := 32) rfl rfl, LW_t tb1 (k := 10) rfl rfl, by decide, by decide, by decide +kernel⟩
theorem vk_X2_likelyBelow : VK yX2_likelyBelow := ⟨LW_t tb7 (k := 30) rfl rfl, LW_t tb7 (k := 31) rfl rfl⟩
theorem mk_X2_faresOf : MK yX2_faresOf cX2_faresOf 3 (some .int) 1 := ⟨LW_t tb7 (k := 54) rfl rfl, LW_t tb1 (k := 10) rfl rfl, by decide, by decide, by decide +kernel⟩
theorem vk_X2_faresOf : VK yX2_faresOf := ⟨LW_t tb7 (k := 52) rfl rfl, LW_t tb7 (k := 53) rfl rfl⟩
theorem mk_X2_lossOf : MK yX2_lossOf cX2_lossOf 4 (some .int) 1 := ⟨LW_t tb7 (k := 44) rfl rfl, LW_t tb1 (k := 10) rfl rfl, by decide, by decide, by decide +kernel⟩
theorem vk_X2_lossOf : VK yX2_lossOf := ⟨LW_t tb7 (k := 42) rfl rfl, LW_t tb7 (k := 43) rfl rfl⟩
theorem mk_X2_standsAheadOf : MK yX2_standsAheadOf cX2_standsAheadOf 2 (some .int) 1 := ⟨LW_t tb7 (k := 22) rfl rfl, LW_t tb1 (k := 10) rfl rfl, by decide, by decide, by decide +kernel⟩
theorem vk_X2_standsAheadOf : VK yX2_standsAheadOf := ⟨LW_t tb7 (k := 21) rfl rfl, LW_mem (List.mem_append_left _ (List.mem_map.mpr ⟨(⟨"LastWord$Judge", "standsAheadOf", "(I)I"⟩, 6), List.mem_of_getElem? (i := 73) rfl, rfl⟩)) rfl⟩
theorem mk_X2_worthsAlong : MK yX2_worthsAlong cX2_worthsAlong 6 (some .int) 2 := ⟨LW_t tb7 (k := 48) rfl rfl, LW_t tb1 (k := 10) rfl rfl, by decide, by decide, by decide +kernel⟩
theorem vk_X2_worthsAlong : VK yX2_worthsAlong := ⟨LW_t tb7 (k := 47) rfl rfl, LW_mem (List.mem_append_left _ (List.mem_map.mpr ⟨(⟨"LastWord$Judge", "worthsAlong", "(I[I)I"⟩, 6), List.mem_of_getElem? (i := 74) rfl, rfl⟩)) rfl⟩
theorem mk_X2_whyNot : MK yX2_whyNot cX2_whyNot 6 (some .int) 2 := ⟨LW_t tb7 (k := 2) rfl rfl, LW_t tb1 (k := 10) rfl rfl, by decide, by decide, by decide +kernel⟩
theorem vk_X2_whyNot : VK yX2_whyNot := ⟨LW_t tb7 (k := 1) rfl rfl, LW_mem (List.mem_append_left _ (List.mem_map.mpr ⟨(⟨"LastWord$Judge", "whyNot", "(II)I"⟩, 6), List.mem_of_getElem? (i := 71) rfl, rfl⟩)) rfl⟩
theorem mk_X2_couldCome : MK yX2_couldCome cX2_couldCome 3 (some .boolean) 2 := ⟨LW_t tb7 (k := 7) rfl rfl, LW_t tb1 (k := 10) rfl rfl, by decide, by decide, by decide +kernel⟩
theorem vk_X2_couldCome : VK yX2_couldCome := ⟨LW_t tb7 (k := 6) rfl rfl, LW_mem (List.mem_append_left _ (List.mem_map.mpr ⟨(⟨"LastWord$Judge", "couldCome", "(II)Z"⟩, 6), List.mem_of_getElem? (i := 72) rfl, rfl⟩)) rfl⟩
theorem mk_X3_init : MK yX3_init cX3_init 3 none 2 := ⟨LW_t tb2 (k := 84) rfl rfl, LW_t tb1 (k := 8) rfl rfl, by decide, by decide, by decide +kernel⟩
theorem ik_X3_init : Cond.instanceMethod yX3_init ∈ LW := LW_t tb2 (k := 83) rfl rfl
theorem mk_X3_oddsOf : MK yX3_oddsOf cX3_oddsOf 2 (some .long) 1 := ⟨LW_t tb6 (k := 41) rfl rfl, LW_t tb1 (k := 8) rfl rfl, by decide, by decide, by decide +kernel⟩
theorem vk_X3_oddsOf : VK yX3_oddsOf := ⟨LW_t tb6 (k := 39) rfl rfl, LW_t tb6 (k := 40) rfl rfl⟩
theorem mk_X3_stirred : MK yX3_stirred cX3_stirred 1 (some .long) 0 := ⟨LW_t tb6 (k := 53) rfl rfl, LW_t tb1 (k := 8) rfl rfl, by decide, by decide, by decide +kernel⟩
theorem vk_X3_stirred : VK yX3_stirred := ⟨LW_t tb6 (k := 51) rfl rfl, LW_t tb6 (k := 52) rfl rfl⟩
theorem mk_X3_passAheadOf : MK yX3_passAheadOf cX3_passAheadOf 4 none 1 := ⟨LW_t tb6 (k := 25) rfl rfl, LW_t tb1 (k := 8) rfl rfl, by decide, by decide, by decide +kernel⟩
theorem vk_X3_passAheadOf : VK yX3_passAheadOf := ⟨LW_t tb6 (k := 23) rfl rfl, LW_t tb6 (k := 24) rfl rfl⟩
theorem mk_X3_hopesOf : MK yX3_hopesOf cX3_hopesOf 6 (some .long) 2 := ⟨LW_t tb6 (k := 151) rfl rfl, LW_t tb1 (k := 8) rfl rfl, by decide, by decide, by decide +kernel⟩
theorem vk_X3_hopesOf : VK yX3_hopesOf := ⟨LW_t tb6 (k := 149) rfl rfl, LW_t tb6 (k := 150) rfl rfl⟩
theorem mk_X3_spread : MK yX3_spread cX3_spread 10 none 3 := ⟨LW_t tb6 (k := 33) rfl rfl, LW_t tb1 (k := 8) rfl rfl, by decide, by decide, by decide +kernel⟩
theorem vk_X3_spread : VK yX3_spread := ⟨LW_t tb6 (k := 32) rfl rfl, LW_mem (List.mem_append_left _ (List.mem_map.mpr ⟨(⟨"LastWord$Odds", "spread", "(IIJ)V"⟩, 5), List.mem_of_getElem? (i := 62) rfl, rfl⟩)) rfl⟩
theorem mk_X4_init : MK yX4_init cX4_init 2 none 1 := ⟨LW_t tb2 (k := 56) rfl rfl, LW_t tb1 (k := 7) rfl rfl, by decide, by decide, by decide +kernel⟩
theorem ik_X4_init : Cond.instanceMethod yX4_init ∈ LW := LW_t tb2 (k := 55) rfl rfl
theorem mk_X4_forgetAll : MK yX4_forgetAll cX4_forgetAll 1 none 0 := ⟨LW_t tb2 (k := 171) rfl rfl, LW_t tb1 (k := 7) rfl rfl, by decide, by decide, by decide +kernel⟩
theorem vk_X4_forgetAll : VK yX4_forgetAll := ⟨LW_t tb2 (k := 169) rfl rfl, LW_t tb2 (k := 170) rfl rfl⟩
theorem mk_X4_forgetActs : MK yX4_forgetActs cX4_forgetActs 1 none 0 := ⟨LW_t tb4 (k := 217) rfl rfl, LW_t tb1 (k := 7) rfl rfl, by decide, by decide, by decide +kernel⟩
theorem vk_X4_forgetActs : VK yX4_forgetActs := ⟨LW_t tb4 (k := 215) rfl rfl, LW_t tb4 (k := 216) rfl rfl⟩
theorem mk_X4_forgetUpTo : MK yX4_forgetUpTo cX4_forgetUpTo 2 none 1 := ⟨LW_t tb4 (k := 196) rfl rfl, LW_t tb1 (k := 7) rfl rfl, by decide, by decide, by decide +kernel⟩
theorem vk_X4_forgetUpTo : VK yX4_forgetUpTo := ⟨LW_t tb4 (k := 194) rfl rfl, LW_t tb4 (k := 195) rfl rfl⟩
theorem mk_X4_solveFrom : MK yX4_solveFrom cX4_solveFrom 3 none 1 := ⟨LW_t tb4 (k := 95) rfl rfl, LW_t tb1 (k := 7) rfl rfl, by decide, by decide, by decide +kernel⟩
theorem vk_X4_solveFrom : VK yX4_solveFrom := ⟨LW_t tb4 (k := 93) rfl rfl, LW_t tb4 (k := 94) rfl rfl⟩
theorem mk_X4_choiceOf : MK yX4_choiceOf cX4_choiceOf 4 (some .int) 3 := ⟨LW_t tb4 (k := 158) rfl rfl, LW_t tb1 (k := 7) rfl rfl, by decide, by decide, by decide +kernel⟩
theorem vk_X4_choiceOf : VK yX4_choiceOf := ⟨LW_t tb4 (k := 156) rfl rfl, LW_t tb4 (k := 157) rfl rfl⟩
theorem mk_X4_sumOf : MK yX4_sumOf cX4_sumOf 5 (some .long) 4 := ⟨LW_t tb5 (k := 123) rfl rfl, LW_t tb1 (k := 7) rfl rfl, by decide, by decide, by decide +kernel⟩
theorem vk_X4_sumOf : VK yX4_sumOf := ⟨LW_t tb5 (k := 121) rfl rfl, LW_t tb5 (k := 122) rfl rfl⟩
theorem mk_X4_worthAt : MK yX4_worthAt cX4_worthAt 5 (some .int) 4 := ⟨LW_t tb4 (k := 177) rfl rfl, LW_t tb1 (k := 7) rfl rfl, by decide, by decide, by decide +kernel⟩
theorem vk_X4_worthAt : VK yX4_worthAt := ⟨LW_t tb4 (k := 175) rfl rfl, LW_t tb4 (k := 176) rfl rfl⟩
theorem mk_X4_valueWith : MK yX4_valueWith cX4_valueWith 5 (some .long) 4 := ⟨LW_t tb5 (k := 119) rfl rfl, LW_t tb1 (k := 7) rfl rfl, by decide, by decide, by decide +kernel⟩
theorem vk_X4_valueWith : VK yX4_valueWith := ⟨LW_t tb5 (k := 117) rfl rfl, LW_t tb5 (k := 118) rfl rfl⟩
theorem mk_X4_valueOf : MK yX4_valueOf cX4_valueOf 4 (some .long) 3 := ⟨LW_t tb5 (k := 114) rfl rfl, LW_t tb1 (k := 7) rfl rfl, by decide, by decide, by decide +kernel⟩
theorem vk_X4_valueOf : VK yX4_valueOf := ⟨LW_t tb5 (k := 112) rfl rfl, LW_t tb5 (k := 113) rfl rfl⟩
theorem mk_X4_plainChoice : MK yX4_plainChoice cX4_plainChoice 5 (some .int) 4 := ⟨LW_t tb4 (k := 162) rfl rfl, LW_t tb1 (k := 7) rfl rfl, by decide, by decide, by decide +kernel⟩
theorem vk_X4_plainChoice : VK yX4_plainChoice := ⟨LW_t tb4 (k := 160) rfl rfl, LW_t tb4 (k := 161) rfl rfl⟩
theorem mk_X4_beginScores : MK yX4_beginScores cX4_beginScores 3 none 2 := ⟨LW_t tb4 (k := 166) rfl rfl, LW_t tb1 (k := 7) rfl rfl, by decide, by decide, by decide +kernel⟩
theorem vk_X4_beginScores : VK yX4_beginScores := ⟨LW_t tb4 (k := 164) rfl rfl, LW_t tb4 (k := 165) rfl rfl⟩
theorem mk_X4_addScores : MK yX4_addScores cX4_addScores 8 none 3 := ⟨LW_t tb4 (k := 173) rfl rfl, LW_t tb1 (k := 7) rfl rfl, by decide, by decide, by decide +kernel⟩
theorem vk_X4_addScores : VK yX4_addScores := ⟨LW_t tb4 (k := 171) rfl rfl, LW_t tb4 (k := 172) rfl rfl⟩
theorem mk_X4_bestByScores : MK yX4_bestByScores cX4_bestByScores 1 (some .int) 0 := ⟨LW_t tb4 (k := 181) rfl rfl, LW_t tb1 (k := 7) rfl rfl, by decide, by decide, by decide +kernel⟩
theorem vk_X4_bestByScores : VK yX4_bestByScores := ⟨LW_t tb4 (k := 179) rfl rfl, LW_t tb4 (k := 180) rfl rfl⟩
theorem mk_X4_at : MK yX4_at cX4_at 4 (some .int) 4 := ⟨LW_t tb4 (k := 102) rfl rfl, LW_t tb1 (k := 7) rfl rfl, by decide, by decide, by decide +kernel⟩
theorem sk_X4_at : Cond.static yX4_at ∈ LW := LW_t tb4 (k := 101) rfl rfl
theorem mk_X4_choiceAt : MK yX4_choiceAt cX4_choiceAt 3 (some .int) 3 := ⟨LW_t tb4 (k := 128) rfl rfl, LW_t tb1 (k := 7) rfl rfl, by decide, by decide, by decide +kernel⟩
theorem sk_X4_choiceAt : Cond.static yX4_choiceAt ∈ LW := LW_t tb4 (k := 127) rfl rfl
theorem mk_X4_reckonWorths : MK yX4_reckonWorths cX4_reckonWorths 7 none 1 := ⟨LW_t tb4 (k := 99) rfl rfl, LW_t tb1 (k := 7) rfl rfl, by decide, by decide, by decide +kernel⟩
theorem vk_X4_reckonWorths : VK yX4_reckonWorths := ⟨LW_t tb4 (k := 98) rfl rfl, LW_mem (List.mem_append_left _ (List.mem_map.mpr ⟨(⟨"LastWord$Plan", "reckonWorths", "(I)V"⟩, 7), List.mem_of_getElem? (i := 35) rfl, rfl⟩)) rfl⟩
theorem mk_X4_sumUp : MK yX4_sumUp cX4_sumUp 12 none 1 := ⟨LW_t tb4 (k := 113) rfl rfl, LW_t tb1 (k := 7) rfl rfl, by decide, by decide, by decide +kernel⟩
theorem vk_X4_sumUp : VK yX4_sumUp := ⟨LW_t tb4 (k := 112) rfl rfl, LW_mem (List.mem_append_left _ (List.mem_map.mpr ⟨(⟨"LastWord$Plan", "sumUp", "(I)V"⟩, 7), List.mem_of_getElem? (i := 36) rfl, rfl⟩)) rfl⟩
theorem mk_X4_likelyLater : MK yX4_likelyLater cX4_likelyLater 9 (some .long) 3 := ⟨LW_t tb4 (k := 117) rfl rfl, LW_t tb1 (k := 7) rfl rfl, by decide, by decide, by decide +kernel⟩
theorem vk_X4_likelyLater : VK yX4_likelyLater := ⟨LW_t tb4 (k := 116) rfl rfl, LW_mem (List.mem_append_left _ (List.mem_map.mpr ⟨(⟨"LastWord$Plan", "likelyLater", "(III)J"⟩, 7), List.mem_of_getElem? (i := 37) rfl, rfl⟩)) rfl⟩
theorem mk_X4_choose : MK yX4_choose cX4_choose 9 none 1 := ⟨LW_t tb4 (k := 134) rfl rfl, LW_t tb1 (k := 7) rfl rfl, by decide, by decide, by decide +kernel⟩
theorem vk_X4_choose : VK yX4_choose := ⟨LW_t tb4 (k := 133) rfl rfl, LW_mem (List.mem_append_left _ (List.mem_map.mpr ⟨(⟨"LastWord$Plan", "choose", "(I)V"⟩, 7), List.mem_of_getElem? (i := 38) rfl, rfl⟩)) rfl⟩
theorem mk_X4_bestAct : MK yX4_bestAct cX4_bestAct 9 (some .int) 2 := ⟨LW_t tb4 (k := 154) rfl rfl, LW_t tb1 (k := 7) rfl rfl, by decide, by decide, by decide +kernel⟩
theorem vk_X4_bestAct : VK yX4_bestAct := ⟨LW_t tb4 (k := 153) rfl rfl, LW_mem (List.mem_append_left _ (List.mem_map.mpr ⟨(⟨"LastWord$Plan", "bestAct", "([JI)I"⟩, 7), List.mem_of_getElem? (i := 39) rfl, rfl⟩)) rfl⟩
theorem mk_X5_init : MK yX5_init cX5_init 1 none 0 := ⟨LW_t tb6 (k := 111) rfl rfl, LW_t tb1 (k := 24) rfl rfl, by decide, by decide, by decide +kernel⟩
theorem ik_X5_init : Cond.instanceMethod yX5_init ∈ LW := LW_t tb6 (k := 110) rfl rfl
theorem mk_X5_offer : MK yX5_offer cX5_offer 6 none 4 := ⟨LW_t tb6 (k := 140) rfl rfl, LW_t tb1 (k := 24) rfl rfl, by decide, by decide, by decide +kernel⟩
theorem vk_X5_offer : VK yX5_offer := ⟨LW_t tb6 (k := 138) rfl rfl, LW_t tb6 (k := 139) rfl rfl⟩
theorem mk_X6_init : MK yX6_init cX6_init 2 none 1 := ⟨LW_t tb1 (k := 37) rfl rfl, LW_t tb1 (k := 2) rfl rfl, by decide, by decide, by decide +kernel⟩
theorem ik_X6_init : Cond.instanceMethod yX6_init ∈ LW := LW_t tb1 (k := 36) rfl rfl
theorem mk_X6_readInto : MK yX6_readInto cX6_readInto 5 (some .int) 2 := ⟨LW_t tb2 (k := 221) rfl rfl, LW_t tb1 (k := 2) rfl rfl, by decide, by decide, by decide +kernel⟩
theorem vk_X6_readInto : VK yX6_readInto := ⟨LW_t tb2 (k := 219) rfl rfl, LW_t tb2 (k := 220) rfl rfl⟩
theorem mk_X6_begin : MK yX6_begin cX6_begin 3 none 1 := ⟨LW_t tb2 (k := 225) rfl rfl, LW_t tb1 (k := 2) rfl rfl, by decide, by decide, by decide +kernel⟩
theorem vk_X6_begin : VK yX6_begin := ⟨LW_t tb2 (k := 224) rfl rfl, LW_mem (List.mem_append_left _ (List.mem_map.mpr ⟨(⟨"LastWord$Reader", "begin", "(LLastWord$Village;)V"⟩, 13), List.mem_of_getElem? (i := 1) rfl, rfl⟩)) rfl⟩
theorem mk_X6_chances : MK yX6_chances cX6_chances 3 (some .int) 0 := ⟨LW_t tb4 (k := 19) rfl rfl, LW_t tb1 (k := 2) rfl rfl, by decide, by decide, by decide +kernel⟩
theorem vk_X6_chances : VK yX6_chances := ⟨LW_t tb4 (k := 18) rfl rfl, LW_mem (List.mem_append_left _ (List.mem_map.mpr ⟨(⟨"LastWord$Reader", "chances", "()I"⟩, 13), List.mem_of_getElem? (i := 32) rfl, rfl⟩)) rfl⟩
theorem mk_X6_refuse : MK yX6_refuse cX6_refuse 2 (some .boolean) 1 := ⟨LW_t tb3 (k := 146) rfl rfl, LW_t tb1 (k := 2) rfl rfl, by decide, by decide, by decide +kernel⟩
theorem vk_X6_refuse : VK yX6_refuse := ⟨LW_t tb3 (k := 145) rfl rfl, LW_mem (List.mem_append_left _ (List.mem_map.mpr ⟨(⟨"LastWord$Reader", "refuse", "(I)Z"⟩, 13), List.mem_of_getElem? (i := 10) rfl, rfl⟩)) rfl⟩
theorem mk_X6_advance : MK yX6_advance cX6_advance 1 none 0 := ⟨LW_t tb3 (k := 150) rfl rfl, LW_t tb1 (k := 2) rfl rfl, by decide, by decide, by decide +kernel⟩
theorem vk_X6_advance : VK yX6_advance := ⟨LW_t tb3 (k := 149) rfl rfl, LW_mem (List.mem_append_left _ (List.mem_map.mpr ⟨(⟨"LastWord$Reader", "advance", "()V"⟩, 13), List.mem_of_getElem? (i := 11) rfl, rfl⟩)) rfl⟩
theorem mk_X6_number : MK yX6_number cX6_number 1 (some .int) 0 := ⟨LW_t tb3 (k := 170) rfl rfl, LW_t tb1 (k := 2) rfl rfl, by decide, by decide, by decide +kernel⟩
theorem vk_X6_number : VK yX6_number := ⟨LW_t tb3 (k := 169) rfl rfl, LW_mem (List.mem_append_left _ (List.mem_map.mpr ⟨(⟨"LastWord$Reader", "number", "()I"⟩, 13), List.mem_of_getElem? (i := 16) rfl, rfl⟩)) rfl⟩
theorem mk_X6_readSentence : MK yX6_readSentence cX6_readSentence 1 (some .boolean) 0 := ⟨LW_t tb3 (k := 138) rfl rfl, LW_t tb1 (k := 2) rfl rfl, by decide, by decide, by decide +kernel⟩
theorem vk_X6_readSentence : VK yX6_readSentence := ⟨LW_t tb3 (k := 137) rfl rfl, LW_mem (List.mem_append_left _ (List.mem_map.mpr ⟨(⟨"LastWord$Reader", "readSentence", "()Z"⟩, 13), List.mem_of_getElem? (i := 8) rfl, rfl⟩)) rfl⟩
theorem mk_X6_readThing : MK yX6_readThing cX6_readThing 2 (some .boolean) 0 := ⟨LW_t tb3 (k := 142) rfl rfl, LW_t tb1 (k := 2) rfl rfl, by decide, by decide, by decide +kernel⟩
theorem vk_X6_readThing : VK yX6_readThing := ⟨LW_t tb3 (k := 141) rfl rfl, LW_mem (List.mem_append_left _ (List.mem_map.mpr ⟨(⟨"LastWord$Reader", "readThing", "()Z"⟩, 13), List.mem_of_getElem? (i := 9) rfl, rfl⟩)) rfl⟩
theorem mk_X6_readSort : MK yX6_readSort cX6_readSort 2 (some .boolean) 0 := ⟨LW_t tb3 (k := 174) rfl rfl, LW_t tb1 (k := 2) rfl rfl, by decide, by decide, by decide +kernel⟩
theorem vk_X6_readSort : VK yX6_readSort := ⟨LW_t tb3 (k := 173) rfl rfl, LW_mem (List.mem_append_left _ (List.mem_map.mpr ⟨(⟨"LastWord$Reader", "readSort", "()Z"⟩, 13), List.mem_of_getElem? (i := 17) rfl, rfl⟩)) rfl⟩
theorem mk_X6_readChance : MK yX6_readChance cX6_readChance 2 (some .boolean) 0 := ⟨LW_t tb3 (k := 239) rfl rfl, LW_t tb1 (k := 2) rfl rfl, by decide, by decide, by decide +kernel⟩
theorem vk_X6_readChance : VK yX6_readChance := ⟨LW_t tb3 (k := 238) rfl rfl, LW_mem (List.mem_append_left _ (List.mem_map.mpr ⟨(⟨"LastWord$Reader", "readChance", "()Z"⟩, 13), List.mem_of_getElem? (i := 27) rfl, rfl⟩)) rfl⟩
theorem mk_X6_readSpring : MK yX6_readSpring cX6_readSpring 3 (some .boolean) 0 := ⟨LW_t tb4 (k := 3) rfl rfl, LW_t tb1 (k := 2) rfl rfl, by decide, by decide, by decide +kernel⟩
theorem vk_X6_readSpring : VK yX6_readSpring := ⟨LW_t tb4 (k := 2) rfl rfl, LW_mem (List.mem_append_left _ (List.mem_map.mpr ⟨(⟨"LastWord$Reader", "readSpring", "()Z"⟩, 13), List.mem_of_getElem? (i := 28) rfl, rfl⟩)) rfl⟩
theorem mk_X6_readBar : MK yX6_readBar cX6_readBar 1 (some .boolean) 0 := ⟨LW_t tb4 (k := 7) rfl rfl, LW_t tb1 (k := 2) rfl rfl, by decide, by decide, by decide +kernel⟩
theorem vk_X6_readBar : VK yX6_readBar := ⟨LW_t tb4 (k := 6) rfl rfl, LW_mem (List.mem_append_left _ (List.mem_map.mpr ⟨(⟨"LastWord$Reader", "readBar", "()Z"⟩, 13), List.mem_of_getElem? (i := 29) rfl, rfl⟩)) rfl⟩
theorem mk_X6_readLife : MK yX6_readLife cX6_readLife 1 (some .boolean) 0 := ⟨LW_t tb4 (k := 11) rfl rfl, LW_t tb1 (k := 2) rfl rfl, by decide, by decide, by decide +kernel⟩
theorem vk_X6_readLife : VK yX6_readLife := ⟨LW_t tb4 (k := 10) rfl rfl, LW_mem (List.mem_append_left _ (List.mem_map.mpr ⟨(⟨"LastWord$Reader", "readLife", "()Z"⟩, 13), List.mem_of_getElem? (i := 30) rfl, rfl⟩)) rfl⟩
theorem mk_X6_readSprings : MK yX6_readSprings cX6_readSprings 1 (some .boolean) 0 := ⟨LW_t tb4 (k := 15) rfl rfl, LW_t tb1 (k := 2) rfl rfl, by decide, by decide, by decide +kernel⟩
theorem vk_X6_readSprings : VK yX6_readSprings := ⟨LW_t tb4 (k := 14) rfl rfl, LW_mem (List.mem_append_left _ (List.mem_map.mpr ⟨(⟨"LastWord$Reader", "readSprings", "()Z"⟩, 13), List.mem_of_getElem? (i := 31) rfl, rfl⟩)) rfl⟩
theorem mk_X6_take : MK yX6_take cX6_take 2 (some .boolean) 1 := ⟨LW_t tb3 (k := 162) rfl rfl, LW_t tb1 (k := 2) rfl rfl, by decide, by decide, by decide +kernel⟩
theorem vk_X6_take : VK yX6_take := ⟨LW_t tb3 (k := 161) rfl rfl, LW_mem (List.mem_append_left _ (List.mem_map.mpr ⟨(⟨"LastWord$Reader", "take", "(I)Z"⟩, 13), List.mem_of_getElem? (i := 14) rfl, rfl⟩)) rfl⟩
theorem mk_X6_isNumber : MK yX6_isNumber cX6_isNumber 3 (some .boolean) 2 := ⟨LW_t tb3 (k := 166) rfl rfl, LW_t tb1 (k := 2) rfl rfl, by decide, by decide, by decide +kernel⟩
theorem vk_X6_isNumber : VK yX6_isNumber := ⟨LW_t tb3 (k := 165) rfl rfl, LW_mem (List.mem_append_left _ (List.mem_map.mpr ⟨(⟨"LastWord$Reader", "isNumber", "(II)Z"⟩, 13), List.mem_of_getElem? (i := 15) rfl, rfl⟩)) rfl⟩
theorem mk_X6_isNewName : MK yX6_isNewName cX6_isNewName 2 (some .boolean) 0 := ⟨LW_t tb3 (k := 154) rfl rfl, LW_t tb1 (k := 2) rfl rfl, by decide, by decide, by decide +kernel⟩
theorem vk_X6_isNewName : VK yX6_isNewName := ⟨LW_t tb3 (k := 153) rfl rfl, LW_mem (List.mem_append_left _ (List.mem_map.mpr ⟨(⟨"LastWord$Reader", "isNewName", "()Z"⟩, 13), List.mem_of_getElem? (i := 12) rfl, rfl⟩)) rfl⟩
theorem mk_X6_findName : MK yX6_findName cX6_findName 4 (some .int) 2 := ⟨LW_t tb3 (k := 158) rfl rfl, LW_t tb1 (k := 2) rfl rfl, by decide, by decide, by decide +kernel⟩
theorem vk_X6_findName : VK yX6_findName := ⟨LW_t tb3 (k := 157) rfl rfl, LW_mem (List.mem_append_left _ (List.mem_map.mpr ⟨(⟨"LastWord$Reader", "findName", "([JI)I"⟩, 13), List.mem_of_getElem? (i := 13) rfl, rfl⟩)) rfl⟩
theorem mk_X6_readFormula : MK yX6_readFormula cX6_readFormula 2 (some .boolean) 1 := ⟨LW_t tb3 (k := 178) rfl rfl, LW_t tb1 (k := 2) rfl rfl, by decide, by decide, by decide +kernel⟩
theorem vk_X6_readFormula : VK yX6_readFormula := ⟨LW_t tb3 (k := 177) rfl rfl, LW_mem (List.mem_append_left _ (List.mem_map.mpr ⟨(⟨"LastWord$Reader", "readFormula", "(Z)Z"⟩, 13), List.mem_of_getElem? (i := 18) rfl, rfl⟩)) rfl⟩
theorem mk_X6_addStep : MK yX6_addStep cX6_addStep 3 none 2 := ⟨LW_t tb3 (k := 206) rfl rfl, LW_t tb1 (k := 2) rfl rfl, by decide, by decide, by decide +kernel⟩
theorem vk_X6_addStep : VK yX6_addStep := ⟨LW_t tb3 (k := 205) rfl rfl, LW_mem (List.mem_append_left _ (List.mem_map.mpr ⟨(⟨"LastWord$Reader", "addStep", "(II)V"⟩, 13), List.mem_of_getElem? (i := 25) rfl, rfl⟩)) rfl⟩
theorem mk_X6_readTests : MK yX6_readTests cX6_readTests 5 (some .boolean) 1 := ⟨LW_t tb3 (k := 182) rfl rfl, LW_t tb1 (k := 2) rfl rfl, by decide, by decide, by decide +kernel⟩
theorem vk_X6_readTests : VK yX6_readTests := ⟨LW_t tb3 (k := 181) rfl rfl, LW_mem (List.mem_append_left _ (List.mem_map.mpr ⟨(⟨"LastWord$Reader", "readTests", "(I)Z"⟩, 13), List.mem_of_getElem? (i := 19) rfl, rfl⟩)) rfl⟩
theorem mk_X6_readTest : MK yX6_readTest cX6_readTest 4 (some .boolean) 1 := ⟨LW_t tb3 (k := 186) rfl rfl, LW_t tb1 (k := 2) rfl rfl, by decide, by decide, by decide +kernel⟩
theorem vk_X6_readTest : VK yX6_readTest := ⟨LW_t tb3 (k := 185) rfl rfl, LW_mem (List.mem_append_left _ (List.mem_map.mpr ⟨(⟨"LastWord$Reader", "readTest", "(I)Z"⟩, 13), List.mem_of_getElem? (i := 20) rfl, rfl⟩)) rfl⟩
theorem mk_X6_readSum : MK yX6_readSum cX6_readSum 5 (some .boolean) 1 := ⟨LW_t tb3 (k := 190) rfl rfl, LW_t tb1 (k := 2) rfl rfl, by decide, by decide, by decide +kernel⟩
theorem vk_X6_readSum : VK yX6_readSum := ⟨LW_t tb3 (k := 189) rfl rfl, LW_mem (List.mem_append_left _ (List.mem_map.mpr ⟨(⟨"LastWord$Reader", "readSum", "(I)Z"⟩, 13), List.mem_of_getElem? (i := 21) rfl, rfl⟩)) rfl⟩
theorem mk_X6_readProduct : MK yX6_readProduct cX6_readProduct 4 (some .boolean) 1 := ⟨LW_t tb3 (k := 194) rfl rfl, LW_t tb1 (k := 2) rfl rfl, by decide, by decide, by decide +kernel⟩
theorem vk_X6_readProduct : VK yX6_readProduct := ⟨LW_t tb3 (k := 193) rfl rfl, LW_mem (List.mem_append_left _ (List.mem_map.mpr ⟨(⟨"LastWord$Reader", "readProduct", "(I)Z"⟩, 13), List.mem_of_getElem? (i := 22) rfl, rfl⟩)) rfl⟩
theorem mk_X6_readPart : MK yX6_readPart cX6_readPart 4 (some .boolean) 1 := ⟨LW_t tb3 (k := 198) rfl rfl, LW_t tb1 (k := 2) rfl rfl, by decide, by decide, by decide +kernel⟩
theorem vk_X6_readPart : VK yX6_readPart := ⟨LW_t tb3 (k := 197) rfl rfl, LW_mem (List.mem_append_left _ (List.mem_map.mpr ⟨(⟨"LastWord$Reader", "readPart", "(I)Z"⟩, 13), List.mem_of_getElem? (i := 23) rfl, rfl⟩)) rfl⟩
theorem mk_X6_beginsPart : MK yX6_beginsPart cX6_beginsPart 3 (some .boolean) 0 := ⟨LW_t tb3 (k := 202) rfl rfl, LW_t tb1 (k := 2) rfl rfl, by decide, by decide, by decide +kernel⟩
theorem vk_X6_beginsPart : VK yX6_beginsPart := ⟨LW_t tb3 (k := 201) rfl rfl, LW_mem (List.mem_append_left _ (List.mem_map.mpr ⟨(⟨"LastWord$Reader", "beginsPart", "()Z"⟩, 13), List.mem_of_getElem? (i := 24) rfl, rfl⟩)) rfl⟩
theorem mk_X6_addLeaf : MK yX6_addLeaf cX6_addLeaf 2 none 1 := ⟨LW_t tb3 (k := 210) rfl rfl, LW_t tb1 (k := 2) rfl rfl, by decide, by decide, by decide +kernel⟩
theorem vk_X6_addLeaf : VK yX6_addLeaf := ⟨LW_t tb3 (k := 209) rfl rfl, LW_mem (List.mem_append_left _ (List.mem_map.mpr ⟨(⟨"LastWord$Reader", "addLeaf", "(I)V"⟩, 13), List.mem_of_getElem? (i := 26) rfl, rfl⟩)) rfl⟩
theorem mk_X7_init : MK yX7_init cX7_init 2 none 1 := ⟨LW_t tb1 (k := 151) rfl rfl, LW_t tb1 (k := 5) rfl rfl, by decide, by decide, by decide +kernel⟩
theorem ik_X7_init : Cond.instanceMethod yX7_init ∈ LW := LW_t tb1 (k := 150) rfl rfl
theorem mk_X7_split : MK yX7_split cX7_split 4 none 1 := ⟨LW_t tb2 (k := 229) rfl rfl, LW_t tb1 (k := 5) rfl rfl, by decide, by decide, by decide +kernel⟩
theorem vk_X7_split : VK yX7_split := ⟨LW_t tb2 (k := 227) rfl rfl, LW_t tb2 (k := 228) rfl rfl⟩
theorem mk_X7_add : MK yX7_add cX7_add 5 none 3 := ⟨LW_t tb3 (k := 68) rfl rfl, LW_t tb1 (k := 5) rfl rfl, by decide, by decide, by decide +kernel⟩
theorem vk_X7_add : VK yX7_add := ⟨LW_t tb3 (k := 67) rfl rfl, LW_mem (List.mem_append_left _ (List.mem_map.mpr ⟨(⟨"LastWord$Tokens", "add", "(IIJ)V"⟩, 6), List.mem_of_getElem? (i := 6) rfl, rfl⟩)) rfl⟩
theorem mk_X7_readToken : MK yX7_readToken cX7_readToken 3 (some .int) 1 := ⟨LW_t tb2 (k := 239) rfl rfl, LW_t tb1 (k := 5) rfl rfl, by decide, by decide, by decide +kernel⟩
theorem vk_X7_readToken : VK yX7_readToken := ⟨LW_t tb2 (k := 238) rfl rfl, LW_mem (List.mem_append_left _ (List.mem_map.mpr ⟨(⟨"LastWord$Tokens", "readToken", "(I)I"⟩, 6), List.mem_of_getElem? (i := 2) rfl, rfl⟩)) rfl⟩
theorem mk_X7_readWord : MK yX7_readWord cX7_readWord 6 (some .int) 1 := ⟨LW_t tb3 (k := 6) rfl rfl, LW_t tb1 (k := 5) rfl rfl, by decide, by decide, by decide +kernel⟩
theorem vk_X7_readWord : VK yX7_readWord := ⟨LW_t tb3 (k := 5) rfl rfl, LW_mem (List.mem_append_left _ (List.mem_map.mpr ⟨(⟨"LastWord$Tokens", "readWord", "(I)I"⟩, 6), List.mem_of_getElem? (i := 3) rfl, rfl⟩)) rfl⟩
theorem mk_X7_readNumber : MK yX7_readNumber cX7_readNumber 6 (some .int) 1 := ⟨LW_t tb3 (k := 75) rfl rfl, LW_t tb1 (k := 5) rfl rfl, by decide, by decide, by decide +kernel⟩
theorem vk_X7_readNumber : VK yX7_readNumber := ⟨LW_t tb3 (k := 74) rfl rfl, LW_mem (List.mem_append_left _ (List.mem_map.mpr ⟨(⟨"LastWord$Tokens", "readNumber", "(I)I"⟩, 6), List.mem_of_getElem? (i := 7) rfl, rfl⟩)) rfl⟩
theorem mk_X7_keyword : MK yX7_keyword cX7_keyword 7 (some .int) 2 := ⟨LW_t tb3 (k := 11) rfl rfl, LW_t tb1 (k := 5) rfl rfl, by decide, by decide, by decide +kernel⟩
theorem vk_X7_keyword : VK yX7_keyword := ⟨LW_t tb3 (k := 10) rfl rfl, LW_mem (List.mem_append_left _ (List.mem_map.mpr ⟨(⟨"LastWord$Tokens", "keyword", "(II)I"⟩, 6), List.mem_of_getElem? (i := 4) rfl, rfl⟩)) rfl⟩
theorem mk_X7_isKeyword : MK yX7_isKeyword cX7_isKeyword 5 (some .boolean) 3 := ⟨LW_t tb3 (k := 64) rfl rfl, LW_t tb1 (k := 5) rfl rfl, by decide, by decide, by decide +kernel⟩
theorem vk_X7_isKeyword : VK yX7_isKeyword := ⟨LW_t tb3 (k := 63) rfl rfl, LW_mem (List.mem_append_left _ (List.mem_map.mpr ⟨(⟨"LastWord$Tokens", "isKeyword", "(III)Z"⟩, 6), List.mem_of_getElem? (i := 5) rfl, rfl⟩)) rfl⟩
theorem mk_X7_isBlank : MK yX7_isBlank cX7_isBlank 1 (some .boolean) 1 := ⟨LW_t tb2 (k := 235) rfl rfl, LW_t tb1 (k := 5) rfl rfl, by decide, by decide, by decide +kernel⟩
theorem sk_X7_isBlank : Cond.static yX7_isBlank ∈ LW := LW_t tb2 (k := 234) rfl rfl
theorem mk_X7_isLetter : MK yX7_isLetter cX7_isLetter 1 (some .boolean) 1 := ⟨LW_t tb3 (k := 2) rfl rfl, LW_t tb1 (k := 5) rfl rfl, by decide, by decide, by decide +kernel⟩
theorem sk_X7_isLetter : Cond.static yX7_isLetter ∈ LW := LW_t tb3 (k := 1) rfl rfl
theorem mk_X7_isDigit : MK yX7_isDigit cX7_isDigit 1 (some .boolean) 1 := ⟨LW_t tb3 (k := 71) rfl rfl, LW_t tb1 (k := 5) rfl rfl, by decide, by decide, by decide +kernel⟩
theorem sk_X7_isDigit : Cond.static yX7_isDigit ∈ LW := LW_t tb3 (k := 70) rfl rfl
theorem mk_X8_init : MK yX8_init cX8_init 2 none 1 := ⟨LW_t tb1 (k := 223) rfl rfl, LW_t tb1 (k := 6) rfl rfl, by decide, by decide, by decide +kernel⟩
theorem ik_X8_init : Cond.instanceMethod yX8_init ∈ LW := LW_t tb1 (k := 222) rfl rfl
theorem mk_X8_beginWith : MK yX8_beginWith cX8_beginWith 3 none 1 := ⟨LW_t tb4 (k := 51) rfl rfl, LW_t tb1 (k := 6) rfl rfl, by decide, by decide, by decide +kernel⟩
theorem vk_X8_beginWith : VK yX8_beginWith := ⟨LW_t tb4 (k := 49) rfl rfl, LW_t tb4 (k := 50) rfl rfl⟩
theorem mk_X8_takeFrom : MK yX8_takeFrom cX8_takeFrom 3 none 1 := ⟨LW_t tb5 (k := 144) rfl rfl, LW_t tb1 (k := 6) rfl rfl, by decide, by decide, by decide +kernel⟩
theorem vk_X8_takeFrom : VK yX8_takeFrom := ⟨LW_t tb5 (k := 142) rfl rfl, LW_t tb5 (k := 143) rfl rfl⟩
theorem mk_X8_addRow : MK yX8_addRow cX8_addRow 4 (some .int) 3 := ⟨LW_t tb5 (k := 132) rfl rfl, LW_t tb1 (k := 6) rfl rfl, by decide, by decide, by decide +kernel⟩
theorem vk_X8_addRow : VK yX8_addRow := ⟨LW_t tb5 (k := 130) rfl rfl, LW_t tb5 (k := 131) rfl rfl⟩
theorem mk_X8_allows : MK yX8_allows cX8_allows 8 (some .boolean) 4 := ⟨LW_t tb4 (k := 77) rfl rfl, LW_t tb1 (k := 6) rfl rfl, by decide, by decide, by decide +kernel⟩
theorem vk_X8_allows : VK yX8_allows := ⟨LW_t tb4 (k := 75) rfl rfl, LW_t tb4 (k := 76) rfl rfl⟩
theorem mk_X8_gatherActs : MK yX8_gatherActs cX8_gatherActs 6 none 2 := ⟨LW_t tb4 (k := 150) rfl rfl, LW_t tb1 (k := 6) rfl rfl, by decide, by decide, by decide +kernel⟩
theorem vk_X8_gatherActs : VK yX8_gatherActs := ⟨LW_t tb4 (k := 148) rfl rfl, LW_t tb4 (k := 149) rfl rfl⟩
theorem mk_X8_leadsTo : MK yX8_leadsTo cX8_leadsTo 6 (some .boolean) 3 := ⟨LW_t tb6 (k := 69) rfl rfl, LW_t tb1 (k := 6) rfl rfl, by decide, by decide, by decide +kernel⟩
theorem vk_X8_leadsTo : VK yX8_leadsTo := ⟨LW_t tb6 (k := 67) rfl rfl, LW_t tb6 (k := 68) rfl rfl⟩
theorem mk_X8_standsIfDone : MK yX8_standsIfDone cX8_standsIfDone 5 (some .int) 4 := ⟨LW_t tb4 (k := 142) rfl rfl, LW_t tb1 (k := 6) rfl rfl, by decide, by decide, by decide +kernel⟩
theorem vk_X8_standsIfDone : VK yX8_standsIfDone := ⟨LW_t tb4 (k := 140) rfl rfl, LW_t tb4 (k := 141) rfl rfl⟩
theorem mk_X8_isPledged : MK yX8_isPledged cX8_isPledged 2 (some .boolean) 1 := ⟨LW_t tb4 (k := 138) rfl rfl, LW_t tb1 (k := 6) rfl rfl, by decide, by decide, by decide +kernel⟩
theorem vk_X8_isPledged : VK yX8_isPledged := ⟨LW_t tb4 (k := 136) rfl rfl, LW_t tb4 (k := 137) rfl rfl⟩
theorem mk_X9_init : MK yX9_init cX9_init 1 none 0 := ⟨LW_t tb1 (k := 43) rfl rfl, LW_t tb1 (k := 3) rfl rfl, by decide, by decide, by decide +kernel⟩
theorem ik_X9_init : Cond.instanceMethod yX9_init ∈ LW := LW_t tb1 (k := 42) rfl rfl
theorem mk_X9_stateOf : MK yX9_stateOf cX9_stateOf 2 (some .int) 2 := ⟨LW_t tb4 (k := 30) rfl rfl, LW_t tb1 (k := 3) rfl rfl, by decide, by decide, by decide +kernel⟩
theorem sk_X9_stateOf : Cond.static yX9_stateOf ∈ LW := LW_t tb4 (k := 29) rfl rfl
theorem mk_X9_changed : MK yX9_changed cX9_changed 3 (some .int) 3 := ⟨LW_t tb4 (k := 146) rfl rfl, LW_t tb1 (k := 3) rfl rfl, by decide, by decide, by decide +kernel⟩
theorem sk_X9_changed : Cond.static yX9_changed ∈ LW := LW_t tb4 (k := 145) rfl rfl
theorem mk_X9_hasThing : MK yX9_hasThing cX9_hasThing 2 (some .boolean) 1 := ⟨LW_t tb4 (k := 59) rfl rfl, LW_t tb1 (k := 3) rfl rfl, by decide, by decide, by decide +kernel⟩
theorem vk_X9_hasThing : VK yX9_hasThing := ⟨LW_t tb4 (k := 57) rfl rfl, LW_t tb4 (k := 58) rfl rfl⟩
theorem mk_X9_hasState : MK yX9_hasState cX9_hasState 3 (some .boolean) 2 := ⟨LW_t tb4 (k := 72) rfl rfl, LW_t tb1 (k := 3) rfl rfl, by decide, by decide, by decide +kernel⟩
theorem vk_X9_hasState : VK yX9_hasState := ⟨LW_t tb4 (k := 70) rfl rfl, LW_t tb4 (k := 71) rfl rfl⟩
theorem mk_X9_hasSort : MK yX9_hasSort cX9_hasSort 2 (some .boolean) 1 := ⟨LW_t tb4 (k := 91) rfl rfl, LW_t tb1 (k := 3) rfl rfl, by decide, by decide, by decide +kernel⟩
theorem vk_X9_hasSort : VK yX9_hasSort := ⟨LW_t tb4 (k := 89) rfl rfl, LW_t tb4 (k := 90) rfl rfl⟩
theorem mk_X9_hasSpring : MK yX9_hasSpring cX9_hasSpring 2 (some .boolean) 1 := ⟨LW_t tb4 (k := 67) rfl rfl, LW_t tb1 (k := 3) rfl rfl, by decide, by decide, by decide +kernel⟩
theorem vk_X9_hasSpring : VK yX9_hasSpring := ⟨LW_t tb4 (k := 65) rfl rfl, LW_t tb4 (k := 66) rfl rfl⟩
theorem mk_X9_canStand : MK yX9_canStand cX9_canStand 4 (some .boolean) 1 := ⟨LW_t tb4 (k := 27) rfl rfl, LW_t tb1 (k := 3) rfl rfl, by decide, by decide, by decide +kernel⟩
theorem vk_X9_canStand : VK yX9_canStand := ⟨LW_t tb4 (k := 25) rfl rfl, LW_t tb4 (k := 26) rfl rfl⟩
theorem mk_X9_startStands : MK yX9_startStands cX9_startStands 3 (some .int) 0 := ⟨LW_t tb4 (k := 239) rfl rfl, LW_t tb1 (k := 3) rfl rfl, by decide, by decide, by decide +kernel⟩
theorem vk_X9_startStands : VK yX9_startStands := ⟨LW_t tb4 (k := 237) rfl rfl, LW_t tb4 (k := 238) rfl rfl⟩
theorem mk_X9_springsTold : MK yX9_springsTold cX9_springsTold 3 (some .int) 0 := ⟨LW_t tb5 (k := 153) rfl rfl, LW_t tb1 (k := 3) rfl rfl, by decide, by decide, by decide +kernel⟩
theorem vk_X9_springsTold : VK yX9_springsTold := ⟨LW_t tb5 (k := 151) rfl rfl, LW_t tb5 (k := 152) rfl rfl⟩
theorem mk_X9_worthOf : MK yX9_worthOf cX9_worthOf 7 (some .int) 4 := ⟨LW_t tb4 (k := 106) rfl rfl, LW_t tb1 (k := 3) rfl rfl, by decide, by decide, by decide +kernel⟩
theorem vk_X9_worthOf : VK yX9_worthOf := ⟨LW_t tb4 (k := 104) rfl rfl, LW_t tb4 (k := 105) rfl rfl⟩
theorem mk_X9_chanceIn : MK yX9_chanceIn cX9_chanceIn 3 (some .int) 2 := ⟨LW_t tb4 (k := 125) rfl rfl, LW_t tb1 (k := 3) rfl rfl, by decide, by decide, by decide +kernel⟩
theorem vk_X9_chanceIn : VK yX9_chanceIn := ⟨LW_t tb4 (k := 123) rfl rfl, LW_t tb4 (k := 124) rfl rfl⟩
theorem mk_X9_chanceOfNobody : MK yX9_chanceOfNobody cX9_chanceOfNobody 3 (some .int) 1 := ⟨LW_t tb4 (k := 121) rfl rfl, LW_t tb1 (k := 3) rfl rfl, by decide, by decide, by decide +kernel⟩
theorem vk_X9_chanceOfNobody : VK yX9_chanceOfNobody := ⟨LW_t tb4 (k := 119) rfl rfl, LW_t tb4 (k := 120) rfl rfl⟩
theorem mk_X9_differing : MK yX9_differing cX9_differing 4 (some .int) 2 := ⟨LW_t tb5 (k := 42) rfl rfl, LW_t tb1 (k := 3) rfl rfl, by decide, by decide, by decide +kernel⟩
theorem vk_X9_differing : VK yX9_differing := ⟨LW_t tb5 (k := 40) rfl rfl, LW_t tb5 (k := 41) rfl rfl⟩
theorem mk_X9_costOf : MK yX9_costOf cX9_costOf 4 (some .int) 2 := ⟨LW_t tb5 (k := 46) rfl rfl, LW_t tb1 (k := 3) rfl rfl, by decide, by decide, by decide +kernel⟩
theorem vk_X9_costOf : VK yX9_costOf := ⟨LW_t tb5 (k := 44) rfl rfl, LW_t tb5 (k := 45) rfl rfl⟩
theorem mk_X9_close : MK yX9_close cX9_close 2 none 0 := ⟨LW_t tb4 (k := 23) rfl rfl, LW_t tb1 (k := 3) rfl rfl, by decide, by decide, by decide +kernel⟩
theorem vk_X9_close : VK yX9_close := ⟨LW_t tb4 (k := 21) rfl rfl, LW_t tb4 (k := 22) rfl rfl⟩
theorem mk_X9_isBarred : MK yX9_isBarred cX9_isBarred 3 (some .boolean) 1 := ⟨LW_t tb4 (k := 36) rfl rfl, LW_t tb1 (k := 3) rfl rfl, by decide, by decide, by decide +kernel⟩
theorem vk_X9_isBarred : VK yX9_isBarred := ⟨LW_t tb4 (k := 35) rfl rfl, LW_mem (List.mem_append_left _ (List.mem_map.mpr ⟨(⟨"LastWord$Village", "isBarred", "(I)Z"⟩, 17), List.mem_of_getElem? (i := 33) rfl, rfl⟩)) rfl⟩
theorem mk_X10_init : MK yX10_init cX10_init 2 none 0 := ⟨LW_t tb1 (k := 29) rfl rfl, LW_t tb1 (k := 1) rfl rfl, by decide, by decide, by decide +kernel⟩
theorem ik_X10_init : Cond.instanceMethod yX10_init ∈ LW := LW_t tb1 (k := 28) rfl rfl
theorem mk_X10_feed : MK yX10_feed cX10_feed 7 (some .int) 3 := ⟨LW_t tb2 (k := 209) rfl rfl, LW_t tb1 (k := 1) rfl rfl, by decide, by decide, by decide +kernel⟩
theorem vk_X10_feed : VK yX10_feed := ⟨LW_t tb2 (k := 207) rfl rfl, LW_t tb2 (k := 208) rfl rfl⟩
theorem mk_X10_village : MK yX10_village cX10_village 3 (some .int) 0 := ⟨LW_t tb2 (k := 217) rfl rfl, LW_t tb1 (k := 1) rfl rfl, by decide, by decide, by decide +kernel⟩
theorem vk_X10_village : VK yX10_village := ⟨LW_t tb2 (k := 215) rfl rfl, LW_t tb2 (k := 216) rfl rfl⟩
theorem mk_X10_thing : MK yX10_thing cX10_thing 4 (some .int) 2 := ⟨LW_t tb4 (k := 55) rfl rfl, LW_t tb1 (k := 1) rfl rfl, by decide, by decide, by decide +kernel⟩
theorem vk_X10_thing : VK yX10_thing := ⟨LW_t tb4 (k := 53) rfl rfl, LW_t tb4 (k := 54) rfl rfl⟩
theorem mk_X10_worth : MK yX10_worth cX10_worth 6 (some .int) 4 := ⟨LW_t tb5 (k := 164) rfl rfl, LW_t tb1 (k := 1) rfl rfl, by decide, by decide, by decide +kernel⟩
theorem vk_X10_worth : VK yX10_worth := ⟨LW_t tb5 (k := 162) rfl rfl, LW_t tb5 (k := 163) rfl rfl⟩
theorem mk_X10_may : MK yX10_may cX10_may 6 (some .int) 4 := ⟨LW_t tb4 (k := 63) rfl rfl, LW_t tb1 (k := 1) rfl rfl, by decide, by decide, by decide +kernel⟩
theorem vk_X10_may : VK yX10_may := ⟨LW_t tb4 (k := 61) rfl rfl, LW_t tb4 (k := 62) rfl rfl⟩
theorem mk_X10_chooses : MK yX10_chooses cX10_chooses 5 (some .int) 4 := ⟨LW_t tb4 (k := 83) rfl rfl, LW_t tb1 (k := 1) rfl rfl, by decide, by decide, by decide +kernel⟩
theorem vk_X10_chooses : VK yX10_chooses := ⟨LW_t tb4 (k := 81) rfl rfl, LW_t tb4 (k := 82) rfl rfl⟩
theorem mk_X10_value : MK yX10_value cX10_value 5 (some .long) 4 := ⟨LW_t tb6 (k := 0) rfl rfl, LW_t tb1 (k := 1) rfl rfl, by decide, by decide, by decide +kernel⟩
theorem vk_X10_value : VK yX10_value := ⟨LW_t tb5 (k := 238) rfl rfl, LW_t tb5 (k := 239) rfl rfl⟩
theorem mk_X10_ask : MK yX10_ask cX10_ask 3 (some .boolean) 2 := ⟨LW_t tb4 (k := 185) rfl rfl, LW_t tb1 (k := 1) rfl rfl, by decide, by decide, by decide +kernel⟩
theorem vk_X10_ask : VK yX10_ask := ⟨LW_t tb4 (k := 183) rfl rfl, LW_t tb4 (k := 184) rfl rfl⟩
theorem mk_X10_pledge : MK yX10_pledge cX10_pledge 4 (some .boolean) 3 := ⟨LW_t tb4 (k := 201) rfl rfl, LW_t tb1 (k := 1) rfl rfl, by decide, by decide, by decide +kernel⟩
theorem vk_X10_pledge : VK yX10_pledge := ⟨LW_t tb4 (k := 199) rfl rfl, LW_t tb4 (k := 200) rfl rfl⟩
theorem mk_X10_stone : MK yX10_stone cX10_stone 3 (some .boolean) 2 := ⟨LW_t tb4 (k := 209) rfl rfl, LW_t tb1 (k := 1) rfl rfl, by decide, by decide, by decide +kernel⟩
theorem vk_X10_stone : VK yX10_stone := ⟨LW_t tb4 (k := 207) rfl rfl, LW_t tb4 (k := 208) rfl rfl⟩
theorem mk_X10_odds : MK yX10_odds cX10_odds 4 (some .long) 3 := ⟨LW_t tb6 (k := 17) rfl rfl, LW_t tb1 (k := 1) rfl rfl, by decide, by decide, by decide +kernel⟩
theorem vk_X10_odds : VK yX10_odds := ⟨LW_t tb6 (k := 15) rfl rfl, LW_t tb6 (k := 16) rfl rfl⟩
theorem mk_X10_stir : MK yX10_stir cX10_stir 3 (some .long) 2 := ⟨LW_t tb6 (k := 49) rfl rfl, LW_t tb1 (k := 1) rfl rfl, by decide, by decide, by decide +kernel⟩
theorem vk_X10_stir : VK yX10_stir := ⟨LW_t tb6 (k := 47) rfl rfl, LW_t tb6 (k := 48) rfl rfl⟩
theorem mk_X10_settled : MK yX10_settled cX10_settled 4 (some .int) 1 := ⟨LW_t tb4 (k := 221) rfl rfl, LW_t tb1 (k := 1) rfl rfl, by decide, by decide, by decide +kernel⟩
theorem vk_X10_settled : VK yX10_settled := ⟨LW_t tb4 (k := 219) rfl rfl, LW_t tb4 (k := 220) rfl rfl⟩
theorem mk_X10_price : MK yX10_price cX10_price 6 (some .long) 5 := ⟨LW_t tb6 (k := 60) rfl rfl, LW_t tb1 (k := 1) rfl rfl, by decide, by decide, by decide +kernel⟩
theorem vk_X10_price : VK yX10_price := ⟨LW_t tb6 (k := 58) rfl rfl, LW_t tb6 (k := 59) rfl rfl⟩
theorem mk_X10_gain : MK yX10_gain cX10_gain 9 (some .long) 7 := ⟨LW_t tb6 (k := 82) rfl rfl, LW_t tb1 (k := 1) rfl rfl, by decide, by decide, by decide +kernel⟩
theorem vk_X10_gain : VK yX10_gain := ⟨LW_t tb6 (k := 80) rfl rfl, LW_t tb6 (k := 81) rfl rfl⟩
theorem mk_X10_lets : MK yX10_lets cX10_lets 11 (some .long) 7 := ⟨LW_t tb6 (k := 98) rfl rfl, LW_t tb1 (k := 1) rfl rfl, by decide, by decide, by decide +kernel⟩
theorem vk_X10_lets : VK yX10_lets := ⟨LW_t tb6 (k := 96) rfl rfl, LW_t tb6 (k := 97) rfl rfl⟩
theorem mk_X10_present : MK yX10_present cX10_present 7 (some .long) 4 := ⟨LW_t tb6 (k := 105) rfl rfl, LW_t tb1 (k := 1) rfl rfl, by decide, by decide, by decide +kernel⟩
theorem vk_X10_present : VK yX10_present := ⟨LW_t tb6 (k := 103) rfl rfl, LW_t tb6 (k := 104) rfl rfl⟩
theorem mk_X10_hopes : MK yX10_hopes cX10_hopes 4 (some .long) 3 := ⟨LW_t tb6 (k := 147) rfl rfl, LW_t tb1 (k := 1) rfl rfl, by decide, by decide, by decide +kernel⟩
theorem vk_X10_hopes : VK yX10_hopes := ⟨LW_t tb6 (k := 145) rfl rfl, LW_t tb6 (k := 146) rfl rfl⟩
theorem mk_X10_vow : MK yX10_vow cX10_vow 16 (some .long) 3 := ⟨LW_t tb6 (k := 161) rfl rfl, LW_t tb1 (k := 1) rfl rfl, by decide, by decide, by decide +kernel⟩
theorem vk_X10_vow : VK yX10_vow := ⟨LW_t tb6 (k := 159) rfl rfl, LW_t tb6 (k := 160) rfl rfl⟩
theorem mk_X10_bind : MK yX10_bind cX10_bind 11 (some .long) 5 := ⟨LW_t tb6 (k := 172) rfl rfl, LW_t tb1 (k := 1) rfl rfl, by decide, by decide, by decide +kernel⟩
theorem vk_X10_bind : VK yX10_bind := ⟨LW_t tb6 (k := 170) rfl rfl, LW_t tb6 (k := 171) rfl rfl⟩
theorem mk_X10_order : MK yX10_order cX10_order 14 (some .long) 6 := ⟨LW_t tb6 (k := 179) rfl rfl, LW_t tb1 (k := 1) rfl rfl, by decide, by decide, by decide +kernel⟩
theorem vk_X10_order : VK yX10_order := ⟨LW_t tb6 (k := 177) rfl rfl, LW_t tb6 (k := 178) rfl rfl⟩
theorem mk_X10_century : MK yX10_century cX10_century 5 (some .int) 4 := ⟨LW_t tb6 (k := 186) rfl rfl, LW_t tb1 (k := 1) rfl rfl, by decide, by decide, by decide +kernel⟩
theorem vk_X10_century : VK yX10_century := ⟨LW_t tb6 (k := 184) rfl rfl, LW_t tb6 (k := 185) rfl rfl⟩
theorem mk_X10_fares : MK yX10_fares cX10_fares 4 (some .int) 3 := ⟨LW_t tb6 (k := 197) rfl rfl, LW_t tb1 (k := 1) rfl rfl, by decide, by decide, by decide +kernel⟩
theorem vk_X10_fares : VK yX10_fares := ⟨LW_t tb6 (k := 195) rfl rfl, LW_t tb6 (k := 196) rfl rfl⟩
theorem mk_X10_told : MK yX10_told cX10_told 4 (some .int) 3 := ⟨LW_t tb6 (k := 205) rfl rfl, LW_t tb1 (k := 1) rfl rfl, by decide, by decide, by decide +kernel⟩
theorem vk_X10_told : VK yX10_told := ⟨LW_t tb6 (k := 203) rfl rfl, LW_t tb6 (k := 204) rfl rfl⟩
theorem mk_X10_bestRule : MK yX10_bestRule cX10_bestRule 9 (some .int) 1 := ⟨LW_t tb4 (k := 230) rfl rfl, LW_t tb1 (k := 1) rfl rfl, by decide, by decide, by decide +kernel⟩
theorem vk_X10_bestRule : VK yX10_bestRule := ⟨LW_t tb4 (k := 228) rfl rfl, LW_t tb4 (k := 229) rfl rfl⟩
theorem mk_X10_brought : MK yX10_brought cX10_brought 4 (some .int) 1 := ⟨LW_t tb5 (k := 65) rfl rfl, LW_t tb1 (k := 1) rfl rfl, by decide, by decide, by decide +kernel⟩
theorem vk_X10_brought : VK yX10_brought := ⟨LW_t tb5 (k := 63) rfl rfl, LW_t tb5 (k := 64) rfl rfl⟩
theorem mk_X10_rowFor : MK yX10_rowFor cX10_rowFor 3 (some .int) 2 := ⟨LW_t tb5 (k := 102) rfl rfl, LW_t tb1 (k := 1) rfl rfl, by decide, by decide, by decide +kernel⟩
theorem vk_X10_rowFor : VK yX10_rowFor := ⟨LW_t tb5 (k := 100) rfl rfl, LW_t tb5 (k := 101) rfl rfl⟩
theorem mk_X10_bestRow : MK yX10_bestRow cX10_bestRow 11 (some .int) 2 := ⟨LW_t tb5 (k := 106) rfl rfl, LW_t tb1 (k := 1) rfl rfl, by decide, by decide, by decide +kernel⟩
theorem vk_X10_bestRow : VK yX10_bestRow := ⟨LW_t tb5 (k := 104) rfl rfl, LW_t tb5 (k := 105) rfl rfl⟩
theorem mk_X10_row : MK yX10_row cX10_row 4 (some .int) 3 := ⟨LW_t tb5 (k := 128) rfl rfl, LW_t tb1 (k := 1) rfl rfl, by decide, by decide, by decide +kernel⟩
theorem vk_X10_row : VK yX10_row := ⟨LW_t tb5 (k := 126) rfl rfl, LW_t tb5 (k := 127) rfl rfl⟩
theorem mk_X10_clear : MK yX10_clear cX10_clear 1 (some .boolean) 0 := ⟨LW_t tb5 (k := 136) rfl rfl, LW_t tb1 (k := 1) rfl rfl, by decide, by decide, by decide +kernel⟩
theorem vk_X10_clear : VK yX10_clear := ⟨LW_t tb5 (k := 134) rfl rfl, LW_t tb5 (k := 135) rfl rfl⟩
theorem mk_X10_judged : MK yX10_judged cX10_judged 2 (some .long) 1 := ⟨LW_t tb6 (k := 229) rfl rfl, LW_t tb1 (k := 1) rfl rfl, by decide, by decide, by decide +kernel⟩
theorem vk_X10_judged : VK yX10_judged := ⟨LW_t tb6 (k := 227) rfl rfl, LW_t tb6 (k := 228) rfl rfl⟩
theorem mk_X10_rowFares : MK yX10_rowFares cX10_rowFares 3 (some .int) 2 := ⟨LW_t tb7 (k := 40) rfl rfl, LW_t tb1 (k := 1) rfl rfl, by decide, by decide, by decide +kernel⟩
theorem vk_X10_rowFares : VK yX10_rowFares := ⟨LW_t tb7 (k := 38) rfl rfl, LW_t tb7 (k := 39) rfl rfl⟩
theorem mk_X10_when : MK yX10_when cX10_when 9 (some .long) 2 := ⟨LW_t tb7 (k := 63) rfl rfl, LW_t tb1 (k := 1) rfl rfl, by decide, by decide, by decide +kernel⟩
theorem vk_X10_when : VK yX10_when := ⟨LW_t tb7 (k := 61) rfl rfl, LW_t tb7 (k := 62) rfl rfl⟩
theorem mk_X10_mark : MK yX10_mark cX10_mark 3 (some .boolean) 2 := ⟨LW_t tb5 (k := 140) rfl rfl, LW_t tb1 (k := 1) rfl rfl, by decide, by decide, by decide +kernel⟩
theorem vk_X10_mark : VK yX10_mark := ⟨LW_t tb5 (k := 138) rfl rfl, LW_t tb5 (k := 139) rfl rfl⟩
theorem mk_X10_count : MK yX10_count cX10_count 3 (some .int) 1 := ⟨LW_t tb5 (k := 149) rfl rfl, LW_t tb1 (k := 1) rfl rfl, by decide, by decide, by decide +kernel⟩
theorem vk_X10_count : VK yX10_count := ⟨LW_t tb5 (k := 147) rfl rfl, LW_t tb5 (k := 148) rfl rfl⟩
theorem mk_X10_need : MK yX10_need cX10_need 1 none 1 := ⟨LW_t tb5 (k := 167) rfl rfl, LW_t tb1 (k := 1) rfl rfl, by decide, by decide, by decide +kernel⟩
theorem sk_X10_need : Cond.static yX10_need ∈ LW := LW_t tb5 (k := 166) rfl rfl
theorem mk_X10_lowestTerms : MK yX10_lowestTerms cX10_lowestTerms 12 (some .long) 3 := ⟨LW_t tb6 (k := 7) rfl rfl, LW_t tb1 (k := 1) rfl rfl, by decide, by decide, by decide +kernel⟩
theorem sk_X10_lowestTerms : Cond.static yX10_lowestTerms ∈ LW := LW_t tb6 (k := 6) rfl rfl
theorem mk_X10_takeSigns : MK yX10_takeSigns cX10_takeSigns 6 none 1 := ⟨LW_t tb2 (k := 213) rfl rfl, LW_t tb1 (k := 1) rfl rfl, by decide, by decide, by decide +kernel⟩
theorem vk_X10_takeSigns : VK yX10_takeSigns := ⟨LW_t tb2 (k := 212) rfl rfl, LW_mem (List.mem_append_left _ (List.mem_map.mpr ⟨(⟨"LastWord", "takeSigns", "(J)V"⟩, 11), List.mem_of_getElem? (i := 0) rfl, rfl⟩)) rfl⟩
theorem mk_X10_inCalendar : MK yX10_inCalendar cX10_inCalendar 1 (some .boolean) 1 := ⟨LW_t tb4 (k := 188) rfl rfl, LW_t tb1 (k := 1) rfl rfl, by decide, by decide, by decide +kernel⟩
theorem sk_X10_inCalendar : Cond.static yX10_inCalendar ∈ LW := LW_t tb4 (k := 187) rfl rfl
theorem mk_X10_isPart : MK yX10_isPart cX10_isPart 1 (some .boolean) 1 := ⟨LW_t tb6 (k := 3) rfl rfl, LW_t tb1 (k := 1) rfl rfl, by decide, by decide, by decide +kernel⟩
theorem sk_X10_isPart : Cond.static yX10_isPart ∈ LW := LW_t tb6 (k := 2) rfl rfl
theorem mk_X10_isScene : MK yX10_isScene cX10_isScene 5 (some .boolean) 3 := ⟨LW_t tb4 (k := 87) rfl rfl, LW_t tb1 (k := 1) rfl rfl, by decide, by decide, by decide +kernel⟩
theorem vk_X10_isScene : VK yX10_isScene := ⟨LW_t tb4 (k := 86) rfl rfl, LW_mem (List.mem_append_left _ (List.mem_map.mpr ⟨(⟨"LastWord", "isScene", "(III)Z"⟩, 11), List.mem_of_getElem? (i := 34) rfl, rfl⟩)) rfl⟩
theorem mk_X10_isForeseen : MK yX10_isForeseen cX10_isForeseen 2 (some .boolean) 1 := ⟨LW_t tb6 (k := 21) rfl rfl, LW_t tb1 (k := 1) rfl rfl, by decide, by decide, by decide +kernel⟩
theorem vk_X10_isForeseen : VK yX10_isForeseen := ⟨LW_t tb6 (k := 20) rfl rfl, LW_mem (List.mem_append_left _ (List.mem_map.mpr ⟨(⟨"LastWord", "isForeseen", "(I)Z"⟩, 11), List.mem_of_getElem? (i := 61) rfl, rfl⟩)) rfl⟩
theorem mk_X10_isCentury : MK yX10_isCentury cX10_isCentury 3 (some .boolean) 2 := ⟨LW_t tb6 (k := 190) rfl rfl, LW_t tb1 (k := 1) rfl rfl, by decide, by decide, by decide +kernel⟩
theorem vk_X10_isCentury : VK yX10_isCentury := ⟨LW_t tb6 (k := 189) rfl rfl, LW_mem (List.mem_append_left _ (List.mem_map.mpr ⟨(⟨"LastWord", "isCentury", "(II)Z"⟩, 11), List.mem_of_getElem? (i := 69) rfl, rfl⟩)) rfl⟩
theorem mk_X10_isElder : MK yX10_isElder cX10_isElder 3 (some .boolean) 2 := ⟨LW_t tb6 (k := 86) rfl rfl, LW_t tb1 (k := 1) rfl rfl, by decide, by decide, by decide +kernel⟩
theorem vk_X10_isElder : VK yX10_isElder := ⟨LW_t tb6 (k := 85) rfl rfl, LW_mem (List.mem_append_left _ (List.mem_map.mpr ⟨(⟨"LastWord", "isElder", "(II)Z"⟩, 11), List.mem_of_getElem? (i := 65) rfl, rfl⟩)) rfl⟩
theorem mk_X10_isFreeAct : MK yX10_isFreeAct cX10_isFreeAct 5 (some .boolean) 4 := ⟨LW_t tb6 (k := 64) rfl rfl, LW_t tb1 (k := 1) rfl rfl, by decide, by decide, by decide +kernel⟩
theorem vk_X10_isFreeAct : VK yX10_isFreeAct := ⟨LW_t tb6 (k := 63) rfl rfl, LW_mem (List.mem_append_left _ (List.mem_map.mpr ⟨(⟨"LastWord", "isFreeAct", "(IIII)Z"⟩, 11), List.mem_of_getElem? (i := 63) rfl, rfl⟩)) rfl⟩
theorem mk_X10_setQuestion : MK yX10_setQuestion cX10_setQuestion 3 none 2 := ⟨LW_t tb4 (k := 192) rfl rfl, LW_t tb1 (k := 1) rfl rfl, by decide, by decide, by decide +kernel⟩
theorem vk_X10_setQuestion : VK yX10_setQuestion := ⟨LW_t tb4 (k := 191) rfl rfl, LW_mem (List.mem_append_left _ (List.mem_map.mpr ⟨(⟨"LastWord", "setQuestion", "(II)V"⟩, 11), List.mem_of_getElem? (i := 40) rfl, rfl⟩)) rfl⟩
theorem mk_X10_setPledge : MK yX10_setPledge cX10_setPledge 4 none 3 := ⟨LW_t tb4 (k := 205) rfl rfl, LW_t tb1 (k := 1) rfl rfl, by decide, by decide, by decide +kernel⟩
theorem vk_X10_setPledge : VK yX10_setPledge := ⟨LW_t tb4 (k := 204) rfl rfl, LW_mem (List.mem_append_left _ (List.mem_map.mpr ⟨(⟨"LastWord", "setPledge", "(III)V"⟩, 11), List.mem_of_getElem? (i := 41) rfl, rfl⟩)) rfl⟩
theorem mk_X10_setStone : MK yX10_setStone cX10_setStone 3 none 2 := ⟨LW_t tb4 (k := 213) rfl rfl, LW_t tb1 (k := 1) rfl rfl, by decide, by decide, by decide +kernel⟩
theorem vk_X10_setStone : VK yX10_setStone := ⟨LW_t tb4 (k := 212) rfl rfl, LW_mem (List.mem_append_left _ (List.mem_map.mpr ⟨(⟨"LastWord", "setStone", "(IZ)V"⟩, 11), List.mem_of_getElem? (i := 42) rfl, rfl⟩)) rfl⟩
theorem mk_X10_wouldStir : MK yX10_wouldStir cX10_wouldStir 4 (some .boolean) 2 := ⟨LW_t tb4 (k := 225) rfl rfl, LW_t tb1 (k := 1) rfl rfl, by decide, by decide, by decide +kernel⟩
theorem vk_X10_wouldStir : VK yX10_wouldStir := ⟨LW_t tb4 (k := 224) rfl rfl, LW_mem (List.mem_append_left _ (List.mem_map.mpr ⟨(⟨"LastWord", "wouldStir", "(II)Z"⟩, 11), List.mem_of_getElem? (i := 43) rfl, rfl⟩)) rfl⟩
theorem mk_X10_valueAnew : MK yX10_valueAnew cX10_valueAnew 4 (some .long) 3 := ⟨LW_t tb5 (k := 110) rfl rfl, LW_t tb1 (k := 1) rfl rfl, by decide, by decide, by decide +kernel⟩
theorem vk_X10_valueAnew : VK yX10_valueAnew := ⟨LW_t tb5 (k := 109) rfl rfl, LW_mem (List.mem_append_left _ (List.mem_map.mpr ⟨(⟨"LastWord", "valueAnew", "(III)J"⟩, 11), List.mem_of_getElem? (i := 59) rfl, rfl⟩)) rfl⟩
theorem mk_X10_priceOf : MK yX10_priceOf cX10_priceOf 5 (some .long) 4 := ⟨LW_t tb6 (k := 74) rfl rfl, LW_t tb1 (k := 1) rfl rfl, by decide, by decide, by decide +kernel⟩
theorem vk_X10_priceOf : VK yX10_priceOf := ⟨LW_t tb6 (k := 73) rfl rfl, LW_mem (List.mem_append_left _ (List.mem_map.mpr ⟨(⟨"LastWord", "priceOf", "(IIII)J"⟩, 11), List.mem_of_getElem? (i := 64) rfl, rfl⟩)) rfl⟩
theorem mk_X10_gainOf : MK yX10_gainOf cX10_gainOf 6 (some .long) 5 := ⟨LW_t tb6 (k := 90) rfl rfl, LW_t tb1 (k := 1) rfl rfl, by decide, by decide, by decide +kernel⟩
theorem vk_X10_gainOf : VK yX10_gainOf := ⟨LW_t tb6 (k := 89) rfl rfl, LW_mem (List.mem_append_left _ (List.mem_map.mpr ⟨(⟨"LastWord", "gainOf", "(IIIII)J"⟩, 11), List.mem_of_getElem? (i := 66) rfl, rfl⟩)) rfl⟩
theorem mk_X10_offerAct : MK yX10_offerAct cX10_offerAct 11 none 5 := ⟨LW_t tb6 (k := 136) rfl rfl, LW_t tb1 (k := 1) rfl rfl, by decide, by decide, by decide +kernel⟩
theorem vk_X10_offerAct : VK yX10_offerAct := ⟨LW_t tb6 (k := 135) rfl rfl, LW_mem (List.mem_append_left _ (List.mem_map.mpr ⟨(⟨"LastWord", "offerAct", "(LLastWord$Present;IIII)V"⟩, 11), List.mem_of_getElem? (i := 67) rfl, rfl⟩)) rfl⟩
theorem mk_X10_hopesUnder : MK yX10_hopesUnder cX10_hopesUnder 5 (some .long) 4 := ⟨LW_t tb6 (k := 165) rfl rfl, LW_t tb1 (k := 1) rfl rfl, by decide, by decide, by decide +kernel⟩
theorem vk_X10_hopesUnder : VK yX10_hopesUnder := ⟨LW_t tb6 (k := 164) rfl rfl, LW_mem (List.mem_append_left _ (List.mem_map.mpr ⟨(⟨"LastWord", "hopesUnder", "(IIII)J"⟩, 11), List.mem_of_getElem? (i := 68) rfl, rfl⟩)) rfl⟩
theorem mk_X10_isSetOut : MK yX10_isSetOut cX10_isSetOut 4 (some .boolean) 1 := ⟨LW_t tb5 (k := 69) rfl rfl, LW_t tb1 (k := 1) rfl rfl, by decide, by decide, by decide +kernel⟩
theorem vk_X10_isSetOut : VK yX10_isSetOut := ⟨LW_t tb5 (k := 68) rfl rfl, LW_mem (List.mem_append_left _ (List.mem_map.mpr ⟨(⟨"LastWord", "isSetOut", "(I)Z"⟩, 11), List.mem_of_getElem? (i := 52) rfl, rfl⟩)) rfl⟩
theorem mk_X10_rowsOfQuestions : MK yX10_rowsOfQuestions cX10_rowsOfQuestions 4 (some .int) 1 := ⟨LW_t tb5 (k := 83) rfl rfl, LW_t tb1 (k := 1) rfl rfl, by decide, by decide, by decide +kernel⟩
theorem vk_X10_rowsOfQuestions : VK yX10_rowsOfQuestions := ⟨LW_t tb5 (k := 82) rfl rfl, LW_mem (List.mem_append_left _ (List.mem_map.mpr ⟨(⟨"LastWord", "rowsOfQuestions", "(I)I"⟩, 11), List.mem_of_getElem? (i := 55) rfl, rfl⟩)) rfl⟩
theorem mk_X10_keepQuestions : MK yX10_keepQuestions cX10_keepQuestions 2 none 1 := ⟨LW_t tb5 (k := 78) rfl rfl, LW_t tb1 (k := 1) rfl rfl, by decide, by decide, by decide +kernel⟩
theorem vk_X10_keepQuestions : VK yX10_keepQuestions := ⟨LW_t tb5 (k := 77) rfl rfl, LW_mem (List.mem_append_left _ (List.mem_map.mpr ⟨(⟨"LastWord", "keepQuestions", "(I)V"⟩, 11), List.mem_of_getElem? (i := 54) rfl, rfl⟩)) rfl⟩
theorem mk_X10_restoreQuestions : MK yX10_restoreQuestions cX10_restoreQuestions 3 none 1 := ⟨LW_t tb5 (k := 98) rfl rfl, LW_t tb1 (k := 1) rfl rfl, by decide, by decide, by decide +kernel⟩
theorem vk_X10_restoreQuestions : VK yX10_restoreQuestions := ⟨LW_t tb5 (k := 97) rfl rfl, LW_mem (List.mem_append_left _ (List.mem_map.mpr ⟨(⟨"LastWord", "restoreQuestions", "(I)V"⟩, 11), List.mem_of_getElem? (i := 58) rfl, rfl⟩)) rfl⟩
theorem mk_X10_setQuestions : MK yX10_setQuestions cX10_setQuestions 6 none 2 := ⟨LW_t tb5 (k := 88) rfl rfl, LW_t tb1 (k := 1) rfl rfl, by decide, by decide, by decide +kernel⟩
theorem vk_X10_setQuestions : VK yX10_setQuestions := ⟨LW_t tb5 (k := 87) rfl rfl, LW_mem (List.mem_append_left _ (List.mem_map.mpr ⟨(⟨"LastWord", "setQuestions", "(II)V"⟩, 11), List.mem_of_getElem? (i := 56) rfl, rfl⟩)) rfl⟩
theorem mk_X10_findFirstRows : MK yX10_findFirstRows cX10_findFirstRows 5 none 1 := ⟨LW_t tb5 (k := 73) rfl rfl, LW_t tb1 (k := 1) rfl rfl, by decide, by decide, by decide +kernel⟩
theorem vk_X10_findFirstRows : VK yX10_findFirstRows := ⟨LW_t tb5 (k := 72) rfl rfl, LW_mem (List.mem_append_left _ (List.mem_map.mpr ⟨(⟨"LastWord", "findFirstRows", "(I)V"⟩, 11), List.mem_of_getElem? (i := 53) rfl, rfl⟩)) rfl⟩
theorem mk_X10_standsBehind : MK yX10_standsBehind cX10_standsBehind 5 (some .int) 1 := ⟨LW_t tb5 (k := 93) rfl rfl, LW_t tb1 (k := 1) rfl rfl, by decide, by decide, by decide +kernel⟩
theorem vk_X10_standsBehind : VK yX10_standsBehind := ⟨LW_t tb5 (k := 92) rfl rfl, LW_mem (List.mem_append_left _ (List.mem_map.mpr ⟨(⟨"LastWord", "standsBehind", "(I)I"⟩, 11), List.mem_of_getElem? (i := 57) rfl, rfl⟩)) rfl⟩
theorem mk_X10_countOthers : MK yX10_countOthers cX10_countOthers 3 (some .int) 1 := ⟨LW_t tb5 (k := 156) rfl rfl, LW_t tb1 (k := 1) rfl rfl, by decide, by decide, by decide +kernel⟩
theorem sk_X10_countOthers : Cond.static yX10_countOthers ∈ LW := LW_t tb5 (k := 155) rfl rfl
theorem mk_X11_thrown : MK yX11_thrown cX11_thrown 1 (some .int) 0 := ⟨LW_t tb7 (k := 67) rfl rfl, LW_t tb1 (k := 11) rfl rfl, by decide, by decide, by decide +kernel⟩
theorem vk_X11_thrown : VK yX11_thrown := ⟨LW_t tb7 (k := 65) rfl rfl, LW_t tb7 (k := 66) rfl rfl⟩
theorem mk_X11_feed : MK yX11_feed cX11_feed 7 (some .int) 3 := ⟨LW_t tb7 (k := 71) rfl rfl, LW_t tb1 (k := 11) rfl rfl, by decide, by decide, by decide +kernel⟩
theorem vk_X11_feed : VK yX11_feed := ⟨LW_t tb7 (k := 69) rfl rfl, LW_t tb7 (k := 70) rfl rfl⟩
theorem mk_X11_lay : MK yX11_lay cX11_lay 5 none 1 := ⟨LW_t tb7 (k := 76) rfl rfl, LW_t tb1 (k := 11) rfl rfl, by decide, by decide, by decide +kernel⟩
theorem vk_X11_lay : VK yX11_lay := ⟨LW_t tb7 (k := 74) rfl rfl, LW_mem (List.mem_append_left _ (List.mem_map.mpr ⟨(⟨"LastWordModel", "lay", "(J)V"⟩, 51), List.mem_of_getElem? (i := 75) rfl, rfl⟩)) rfl⟩
theorem mk_X11_init : MK yX11_init cX11_init 1 none 0 := ⟨LW_t tb7 (k := 80) rfl rfl, LW_t tb1 (k := 11) rfl rfl, by decide, by decide, by decide +kernel⟩
theorem ik_X11_init : Cond.instanceMethod yX11_init ∈ LW := LW_t tb7 (k := 79) rfl rfl
theorem mk_X11_isLetter : MK yX11_isLetter cX11_isLetter 1 (some .boolean) 1 := ⟨LW_t tb8 (k := 31) rfl rfl, LW_t tb1 (k := 11) rfl rfl, by decide, by decide, by decide +kernel⟩
theorem sk_X11_isLetter : Cond.static yX11_isLetter ∈ LW := LW_t tb8 (k := 30) rfl rfl
theorem mk_X11_isDigit : MK yX11_isDigit cX11_isDigit 1 (some .boolean) 1 := ⟨LW_t tb8 (k := 38) rfl rfl, LW_t tb1 (k := 11) rfl rfl, by decide, by decide, by decide +kernel⟩
theorem sk_X11_isDigit : Cond.static yX11_isDigit ∈ LW := LW_t tb8 (k := 37) rfl rfl
theorem mk_X11_rank : MK yX11_rank cX11_rank 1 (some .int) 1 := ⟨LW_t tb8 (k := 35) rfl rfl, LW_t tb1 (k := 11) rfl rfl, by decide, by decide, by decide +kernel⟩
theorem sk_X11_rank : Cond.static yX11_rank ∈ LW := LW_t tb8 (k := 34) rfl rfl
theorem mk_X11_isSignOf : MK yX11_isSignOf cX11_isSignOf 1 (some .boolean) 1 := ⟨LW_t tb8 (k := 43) rfl rfl, LW_t tb1 (k := 11) rfl rfl, by decide, by decide, by decide +kernel⟩
theorem sk_X11_isSignOf : Cond.static yX11_isSignOf ∈ LW := LW_t tb8 (k := 42) rfl rfl
theorem mk_X11_cutAll : MK yX11_cutAll cX11_cutAll 7 none 0 := ⟨LW_t tb8 (k := 28) rfl rfl, LW_t tb1 (k := 11) rfl rfl, by decide, by decide, by decide +kernel⟩
theorem vk_X11_cutAll : VK yX11_cutAll := ⟨LW_t tb8 (k := 27) rfl rfl, LW_mem (List.mem_append_left _ (List.mem_map.mpr ⟨(⟨"LastWordModel", "cutAll", "()V"⟩, 51), List.mem_of_getElem? (i := 76) rfl, rfl⟩)) rfl⟩
theorem mk_X11_wrong : MK yX11_wrong cX11_wrong 2 none 1 := ⟨LW_t tb8 (k := 59) rfl rfl, LW_t tb1 (k := 11) rfl rfl, by decide, by decide, by decide +kernel⟩
theorem vk_X11_wrong : VK yX11_wrong := ⟨LW_t tb8 (k := 58) rfl rfl, LW_mem (List.mem_append_left _ (List.mem_map.mpr ⟨(⟨"LastWordModel", "wrong", "(I)V"⟩, 51), List.mem_of_getElem? (i := 80) rfl, rfl⟩)) rfl⟩
theorem mk_X11_isSign : MK yX11_isSign cX11_isSign 2 (some .boolean) 1 := ⟨LW_t tb8 (k := 115) rfl rfl, LW_t tb1 (k := 11) rfl rfl, by decide, by decide, by decide +kernel⟩
theorem vk_X11_isSign : VK yX11_isSign := ⟨LW_t tb8 (k := 114) rfl rfl, LW_mem (List.mem_append_left _ (List.mem_map.mpr ⟨(⟨"LastWordModel", "isSign", "(I)Z"⟩, 51), List.mem_of_getElem? (i := 94) rfl, rfl⟩)) rfl⟩
theorem mk_X11_isWord : MK yX11_isWord cX11_isWord 2 (some .boolean) 1 := ⟨LW_t tb8 (k := 51) rfl rfl, LW_t tb1 (k := 11) rfl rfl, by decide, by decide, by decide +kernel⟩
theorem vk_X11_isWord : VK yX11_isWord := ⟨LW_t tb8 (k := 50) rfl rfl, LW_mem (List.mem_append_left _ (List.mem_map.mpr ⟨(⟨"LastWordModel", "isWord", "(I)Z"⟩, 51), List.mem_of_getElem? (i := 78) rfl, rfl⟩)) rfl⟩
theorem mk_X11_takeSign : MK yX11_takeSign cX11_takeSign 2 none 1 := ⟨LW_t tb8 (k := 130) rfl rfl, LW_t tb1 (k := 11) rfl rfl, by decide, by decide, by decide +kernel⟩
theorem vk_X11_takeSign : VK yX11_takeSign := ⟨LW_t tb8 (k := 129) rfl rfl, LW_mem (List.mem_append_left _ (List.mem_map.mpr ⟨(⟨"LastWordModel", "takeSign", "(I)V"⟩, 51), List.mem_of_getElem? (i := 97) rfl, rfl⟩)) rfl⟩
theorem mk_X11_hasSign : MK yX11_hasSign cX11_hasSign 3 (some .boolean) 1 := ⟨LW_t tb8 (k := 126) rfl rfl, LW_t tb1 (k := 11) rfl rfl, by decide, by decide, by decide +kernel⟩
theorem vk_X11_hasSign : VK yX11_hasSign := ⟨LW_t tb8 (k := 125) rfl rfl, LW_mem (List.mem_append_left _ (List.mem_map.mpr ⟨(⟨"LastWordModel", "hasSign", "(I)Z"⟩, 51), List.mem_of_getElem? (i := 96) rfl, rfl⟩)) rfl⟩
theorem mk_X11_hasWord : MK yX11_hasWord cX11_hasWord 3 (some .boolean) 1 := ⟨LW_t tb8 (k := 79) rfl rfl, LW_t tb1 (k := 11) rfl rfl, by decide, by decide, by decide +kernel⟩
theorem vk_X11_hasWord : VK yX11_hasWord := ⟨LW_t tb8 (k := 78) rfl rfl, LW_mem (List.mem_append_left _ (List.mem_map.mpr ⟨(⟨"LastWordModel", "hasWord", "(I)Z"⟩, 51), List.mem_of_getElem? (i := 85) rfl, rfl⟩)) rfl⟩
theorem mk_X11_takeWord : MK yX11_takeWord cX11_takeWord 2 none 1 := ⟨LW_t tb8 (k := 75) rfl rfl, LW_t tb1 (k := 11) rfl rfl, by decide, by decide, by decide +kernel⟩
theorem vk_X11_takeWord : VK yX11_takeWord := ⟨LW_t tb8 (k := 74) rfl rfl, LW_mem (List.mem_append_left _ (List.mem_map.mpr ⟨(⟨"LastWordModel", "takeWord", "(I)V"⟩, 51), List.mem_of_getElem? (i := 84) rfl, rfl⟩)) rfl⟩
theorem mk_X11_within : MK yX11_within cX11_within 3 (some .boolean) 3 := ⟨LW_t tb8 (k := 118) rfl rfl, LW_t tb1 (k := 11) rfl rfl, by decide, by decide, by decide +kernel⟩
theorem sk_X11_within : Cond.static yX11_within ∈ LW := LW_t tb8 (k := 117) rfl rfl
theorem mk_X11_takeNumber : MK yX11_takeNumber cX11_takeNumber 3 (some .int) 2 := ⟨LW_t tb8 (k := 83) rfl rfl, LW_t tb1 (k := 11) rfl rfl, by decide, by decide, by decide +kernel⟩
theorem vk_X11_takeNumber : VK yX11_takeNumber := ⟨LW_t tb8 (k := 82) rfl rfl, LW_mem (List.mem_append_left _ (List.mem_map.mpr ⟨(⟨"LastWordModel", "takeNumber", "(II)I"⟩, 51), List.mem_of_getElem? (i := 86) rfl, rfl⟩)) rfl⟩
theorem mk_X11_isName : MK yX11_isName cX11_isName 3 (some .boolean) 0 := ⟨LW_t tb8 (k := 67) rfl rfl, LW_t tb1 (k := 11) rfl rfl, by decide, by decide, by decide +kernel⟩
theorem vk_X11_isName : VK yX11_isName := ⟨LW_t tb8 (k := 66) rfl rfl, LW_mem (List.mem_append_left _ (List.mem_map.mpr ⟨(⟨"LastWordModel", "isName", "()Z"⟩, 51), List.mem_of_getElem? (i := 82) rfl, rfl⟩)) rfl⟩
theorem mk_X11_nameOf : MK yX11_nameOf cX11_nameOf 5 (some .int) 1 := ⟨LW_t tb8 (k := 71) rfl rfl, LW_t tb1 (k := 11) rfl rfl, by decide, by decide, by decide +kernel⟩
theorem vk_X11_nameOf : VK yX11_nameOf := ⟨LW_t tb8 (k := 70) rfl rfl, LW_mem (List.mem_append_left _ (List.mem_map.mpr ⟨(⟨"LastWordModel", "nameOf", "(J)I"⟩, 51), List.mem_of_getElem? (i := 83) rfl, rfl⟩)) rfl⟩
theorem mk_X11_village : MK yX11_village cX11_village 3 (some .int) 0 := ⟨LW_t tb8 (k := 24) rfl rfl, LW_t tb1 (k := 11) rfl rfl, by decide, by decide, by decide +kernel⟩
theorem vk_X11_village : VK yX11_village := ⟨LW_t tb8 (k := 22) rfl rfl, LW_t tb8 (k := 23) rfl rfl⟩
theorem mk_X11_carry : MK yX11_carry cX11_carry 4 none 2 := ⟨LW_t tb8 (k := 151) rfl rfl, LW_t tb1 (k := 11) rfl rfl, by decide, by decide, by decide +kernel⟩
theorem vk_X11_carry : VK yX11_carry := ⟨LW_t tb8 (k := 150) rfl rfl, LW_mem (List.mem_append_left _ (List.mem_map.mpr ⟨(⟨"LastWordModel", "carry", "(II)V"⟩, 51), List.mem_of_getElem? (i := 102) rfl, rfl⟩)) rfl⟩
theorem mk_X11_readLine : MK yX11_readLine cX11_readLine 1 none 0 := ⟨LW_t tb8 (k := 47) rfl rfl, LW_t tb1 (k := 11) rfl rfl, by decide, by decide, by decide +kernel⟩
theorem vk_X11_readLine : VK yX11_readLine := ⟨LW_t tb8 (k := 46) rfl rfl, LW_mem (List.mem_append_left _ (List.mem_map.mpr ⟨(⟨"LastWordModel", "readLine", "()V"⟩, 51), List.mem_of_getElem? (i := 77) rfl, rfl⟩)) rfl⟩
theorem mk_X11_takeNewName : MK yX11_takeNewName cX11_takeNewName 2 none 1 := ⟨LW_t tb8 (k := 63) rfl rfl, LW_t tb1 (k := 11) rfl rfl, by decide, by decide, by decide +kernel⟩
theorem vk_X11_takeNewName : VK yX11_takeNewName := ⟨LW_t tb8 (k := 62) rfl rfl, LW_mem (List.mem_append_left _ (List.mem_map.mpr ⟨(⟨"LastWordModel", "takeNewName", "(I)V"⟩, 51), List.mem_of_getElem? (i := 81) rfl, rfl⟩)) rfl⟩
theorem mk_X11_readThing : MK yX11_readThing cX11_readThing 6 none 0 := ⟨LW_t tb8 (k := 55) rfl rfl, LW_t tb1 (k := 11) rfl rfl, by decide, by decide, by decide +kernel⟩
theorem vk_X11_readThing : VK yX11_readThing := ⟨LW_t tb8 (k := 54) rfl rfl, LW_mem (List.mem_append_left _ (List.mem_map.mpr ⟨(⟨"LastWordModel", "readThing", "()V"⟩, 51), List.mem_of_getElem? (i := 79) rfl, rfl⟩)) rfl⟩
theorem mk_X11_readSort : MK yX11_readSort cX11_readSort 2 none 0 := ⟨LW_t tb8 (k := 87) rfl rfl, LW_t tb1 (k := 11) rfl rfl, by decide, by decide, by decide +kernel⟩
theorem vk_X11_readSort : VK yX11_readSort := ⟨LW_t tb8 (k := 86) rfl rfl, LW_mem (List.mem_append_left _ (List.mem_map.mpr ⟨(⟨"LastWordModel", "readSort", "()V"⟩, 51), List.mem_of_getElem? (i := 87) rfl, rfl⟩)) rfl⟩
theorem mk_X11_readBar : MK yX11_readBar cX11_readBar 2 none 0 := ⟨LW_t tb8 (k := 147) rfl rfl, LW_t tb1 (k := 11) rfl rfl, by decide, by decide, by decide +kernel⟩
theorem vk_X11_readBar : VK yX11_readBar := ⟨LW_t tb8 (k := 146) rfl rfl, LW_mem (List.mem_append_left _ (List.mem_map.mpr ⟨(⟨"LastWordModel", "readBar", "()V"⟩, 51), List.mem_of_getElem? (i := 101) rfl, rfl⟩)) rfl⟩
theorem mk_X11_takeSort : MK yX11_takeSort cX11_takeSort 2 (some .int) 0 := ⟨LW_t tb8 (k := 138) rfl rfl, LW_t tb1 (k := 11) rfl rfl, by decide, by decide, by decide +kernel⟩
theorem vk_X11_takeSort : VK yX11_takeSort := ⟨LW_t tb8 (k := 137) rfl rfl, LW_mem (List.mem_append_left _ (List.mem_map.mpr ⟨(⟨"LastWordModel", "takeSort", "()I"⟩, 51), List.mem_of_getElem? (i := 99) rfl, rfl⟩)) rfl⟩
theorem mk_X11_readChance : MK yX11_readChance cX11_readChance 2 none 0 := ⟨LW_t tb8 (k := 134) rfl rfl, LW_t tb1 (k := 11) rfl rfl, by decide, by decide, by decide +kernel⟩
theorem vk_X11_readChance : VK yX11_readChance := ⟨LW_t tb8 (k := 133) rfl rfl, LW_mem (List.mem_append_left _ (List.mem_map.mpr ⟨(⟨"LastWordModel", "readChance", "()V"⟩, 51), List.mem_of_getElem? (i := 98) rfl, rfl⟩)) rfl⟩
theorem mk_X11_readSpring : MK yX11_readSpring cX11_readSpring 3 none 0 := ⟨LW_t tb8 (k := 142) rfl rfl, LW_t tb1 (k := 11) rfl rfl, by decide, by decide, by decide +kernel⟩
theorem vk_X11_readSpring : VK yX11_readSpring := ⟨LW_t tb8 (k := 141) rfl rfl, LW_mem (List.mem_append_left _ (List.mem_map.mpr ⟨(⟨"LastWordModel", "readSpring", "()V"⟩, 51), List.mem_of_getElem? (i := 100) rfl, rfl⟩)) rfl⟩
theorem mk_X11_emit : MK yX11_emit cX11_emit 3 none 2 := ⟨LW_t tb8 (k := 122) rfl rfl, LW_t tb1 (k := 11) rfl rfl, by decide, by decide, by decide +kernel⟩
theorem vk_X11_emit : VK yX11_emit := ⟨LW_t tb8 (k := 121) rfl rfl, LW_mem (List.mem_append_left _ (List.mem_map.mpr ⟨(⟨"LastWordModel", "emit", "(II)V"⟩, 51), List.mem_of_getElem? (i := 95) rfl, rfl⟩)) rfl⟩
theorem mk_X11_readWhole : MK yX11_readWhole cX11_readWhole 1 none 0 := ⟨LW_t tb8 (k := 91) rfl rfl, LW_t tb1 (k := 11) rfl rfl, by decide, by decide, by decide +kernel⟩
theorem vk_X11_readWhole : VK yX11_readWhole := ⟨LW_t tb8 (k := 90) rfl rfl, LW_mem (List.mem_append_left _ (List.mem_map.mpr ⟨(⟨"LastWordModel", "readWhole", "()V"⟩, 51), List.mem_of_getElem? (i := 88) rfl, rfl⟩)) rfl⟩
theorem mk_X11_all : MK yX11_all cX11_all 3 none 1 := ⟨LW_t tb8 (k := 95) rfl rfl, LW_t tb1 (k := 11) rfl rfl, by decide, by decide, by decide +kernel⟩
theorem vk_X11_all : VK yX11_all := ⟨LW_t tb8 (k := 94) rfl rfl, LW_mem (List.mem_append_left _ (List.mem_map.mpr ⟨(⟨"LastWordModel", "all", "(I)V"⟩, 51), List.mem_of_getElem? (i := 89) rfl, rfl⟩)) rfl⟩
theorem mk_X11_test : MK yX11_test cX11_test 3 none 1 := ⟨LW_t tb8 (k := 99) rfl rfl, LW_t tb1 (k := 11) rfl rfl, by decide, by decide, by decide +kernel⟩
theorem vk_X11_test : VK yX11_test := ⟨LW_t tb8 (k := 98) rfl rfl, LW_mem (List.mem_append_left _ (List.mem_map.mpr ⟨(⟨"LastWordModel", "test", "(I)V"⟩, 51), List.mem_of_getElem? (i := 90) rfl, rfl⟩)) rfl⟩
theorem mk_X11_sums : MK yX11_sums cX11_sums 3 none 1 := ⟨LW_t tb8 (k := 103) rfl rfl, LW_t tb1 (k := 11) rfl rfl, by decide, by decide, by decide +kernel⟩
theorem vk_X11_sums : VK yX11_sums := ⟨LW_t tb8 (k := 102) rfl rfl, LW_mem (List.mem_append_left _ (List.mem_map.mpr ⟨(⟨"LastWordModel", "sums", "(I)V"⟩, 51), List.mem_of_getElem? (i := 91) rfl, rfl⟩)) rfl⟩
theorem mk_X11_products : MK yX11_products cX11_products 2 none 1 := ⟨LW_t tb8 (k := 107) rfl rfl, LW_t tb1 (k := 11) rfl rfl, by decide, by decide, by decide +kernel⟩
theorem vk_X11_products : VK yX11_products := ⟨LW_t tb8 (k := 106) rfl rfl, LW_mem (List.mem_append_left _ (List.mem_map.mpr ⟨(⟨"LastWordModel", "products", "(I)V"⟩, 51), List.mem_of_getElem? (i := 92) rfl, rfl⟩)) rfl⟩
theorem mk_X11_takePart : MK yX11_takePart cX11_takePart 6 none 1 := ⟨LW_t tb8 (k := 111) rfl rfl, LW_t tb1 (k := 11) rfl rfl, by decide, by decide, by decide +kernel⟩
theorem vk_X11_takePart : VK yX11_takePart := ⟨LW_t tb8 (k := 110) rfl rfl, LW_mem (List.mem_append_left _ (List.mem_map.mpr ⟨(⟨"LastWordModel", "takePart", "(I)V"⟩, 51), List.mem_of_getElem? (i := 93) rfl, rfl⟩)) rfl⟩
theorem mk_X11_worthAt : MK yX11_worthAt cX11_worthAt 5 (some .int) 1 := ⟨LW_t tb8 (k := 200) rfl rfl, LW_t tb1 (k := 11) rfl rfl, by decide, by decide, by decide +kernel⟩
theorem vk_X11_worthAt : VK yX11_worthAt := ⟨LW_t tb8 (k := 199) rfl rfl, LW_mem (List.mem_append_left _ (List.mem_map.mpr ⟨(⟨"LastWordModel", "worthAt", "(I)I"⟩, 51), List.mem_of_getElem? (i := 111) rfl, rfl⟩)) rfl⟩
theorem mk_X11_both : MK yX11_both cX11_both 3 (some .int) 3 := ⟨LW_t tb8 (k := 203) rfl rfl, LW_t tb1 (k := 11) rfl rfl, by decide, by decide, by decide +kernel⟩
theorem sk_X11_both : Cond.static yX11_both ∈ LW := LW_t tb8 (k := 202) rfl rfl
theorem mk_X11_stateOf : MK yX11_stateOf cX11_stateOf 2 (some .int) 2 := ⟨LW_t tb8 (k := 188) rfl rfl, LW_t tb1 (k := 11) rfl rfl, by decide, by decide, by decide +kernel⟩
theorem sk_X11_stateOf : Cond.static yX11_stateOf ∈ LW := LW_t tb8 (k := 187) rfl rfl
theorem mk_X11_things : MK yX11_things cX11_things 1 (some .int) 0 := ⟨LW_t tb8 (k := 163) rfl rfl, LW_t tb1 (k := 11) rfl rfl, by decide, by decide, by decide +kernel⟩
theorem vk_X11_things : VK yX11_things := ⟨LW_t tb8 (k := 162) rfl rfl, LW_mem (List.mem_append_left _ (List.mem_map.mpr ⟨(⟨"LastWordModel", "things", "()I"⟩, 51), List.mem_of_getElem? (i := 104) rfl, rfl⟩)) rfl⟩
theorem mk_X11_sorts : MK yX11_sorts cX11_sorts 1 (some .int) 0 := ⟨LW_t tb8 (k := 179) rfl rfl, LW_t tb1 (k := 11) rfl rfl, by decide, by decide, by decide +kernel⟩
theorem vk_X11_sorts : VK yX11_sorts := ⟨LW_t tb8 (k := 178) rfl rfl, LW_mem (List.mem_append_left _ (List.mem_map.mpr ⟨(⟨"LastWordModel", "sorts", "()I"⟩, 51), List.mem_of_getElem? (i := 107) rfl, rfl⟩)) rfl⟩
theorem mk_X11_springs : MK yX11_springs cX11_springs 1 (some .int) 0 := ⟨LW_t tb8 (k := 215) rfl rfl, LW_t tb1 (k := 11) rfl rfl, by decide, by decide, by decide +kernel⟩
theorem vk_X11_springs : VK yX11_springs := ⟨LW_t tb8 (k := 214) rfl rfl, LW_mem (List.mem_append_left _ (List.mem_map.mpr ⟨(⟨"LastWordModel", "springs", "()I"⟩, 51), List.mem_of_getElem? (i := 113) rfl, rfl⟩)) rfl⟩
theorem mk_X11_life : MK yX11_life cX11_life 1 (some .int) 0 := ⟨LW_t tb9 (k := 45) rfl rfl, LW_t tb1 (k := 11) rfl rfl, by decide, by decide, by decide +kernel⟩
theorem vk_X11_life : VK yX11_life := ⟨LW_t tb9 (k := 44) rfl rfl, LW_mem (List.mem_append_left _ (List.mem_map.mpr ⟨(⟨"LastWordModel", "life", "()I"⟩, 51), List.mem_of_getElem? (i := 128) rfl, rfl⟩)) rfl⟩
theorem mk_X11_thingOf : MK yX11_thingOf cX11_thingOf 3 (some .int) 2 := ⟨LW_t tb8 (k := 167) rfl rfl, LW_t tb1 (k := 11) rfl rfl, by decide, by decide, by decide +kernel⟩
theorem vk_X11_thingOf : VK yX11_thingOf := ⟨LW_t tb8 (k := 166) rfl rfl, LW_mem (List.mem_append_left _ (List.mem_map.mpr ⟨(⟨"LastWordModel", "thingOf", "(II)I"⟩, 51), List.mem_of_getElem? (i := 105) rfl, rfl⟩)) rfl⟩
theorem mk_X11_isStands : MK yX11_isStands cX11_isStands 4 (some .boolean) 1 := ⟨LW_t tb8 (k := 183) rfl rfl, LW_t tb1 (k := 11) rfl rfl, by decide, by decide, by decide +kernel⟩
theorem vk_X11_isStands : VK yX11_isStands := ⟨LW_t tb8 (k := 182) rfl rfl, LW_mem (List.mem_append_left _ (List.mem_map.mpr ⟨(⟨"LastWordModel", "isStands", "(I)Z"⟩, 51), List.mem_of_getElem? (i := 108) rfl, rfl⟩)) rfl⟩
theorem mk_X11_isThing : MK yX11_isThing cX11_isThing 2 (some .boolean) 1 := ⟨LW_t tb8 (k := 159) rfl rfl, LW_t tb1 (k := 11) rfl rfl, by decide, by decide, by decide +kernel⟩
theorem vk_X11_isThing : VK yX11_isThing := ⟨LW_t tb8 (k := 158) rfl rfl, LW_mem (List.mem_append_left _ (List.mem_map.mpr ⟨(⟨"LastWordModel", "isThing", "(I)Z"⟩, 51), List.mem_of_getElem? (i := 103) rfl, rfl⟩)) rfl⟩
theorem mk_X11_isSort : MK yX11_isSort cX11_isSort 2 (some .boolean) 1 := ⟨LW_t tb8 (k := 175) rfl rfl, LW_t tb1 (k := 11) rfl rfl, by decide, by decide, by decide +kernel⟩
theorem vk_X11_isSort : VK yX11_isSort := ⟨LW_t tb8 (k := 174) rfl rfl, LW_mem (List.mem_append_left _ (List.mem_map.mpr ⟨(⟨"LastWordModel", "isSort", "(I)Z"⟩, 51), List.mem_of_getElem? (i := 106) rfl, rfl⟩)) rfl⟩
theorem mk_X11_isSpring : MK yX11_isSpring cX11_isSpring 2 (some .boolean) 1 := ⟨LW_t tb8 (k := 211) rfl rfl, LW_t tb1 (k := 11) rfl rfl, by decide, by decide, by decide +kernel⟩
theorem vk_X11_isSpring : VK yX11_isSpring := ⟨LW_t tb8 (k := 210) rfl rfl, LW_mem (List.mem_append_left _ (List.mem_map.mpr ⟨(⟨"LastWordModel", "isSpring", "(I)Z"⟩, 51), List.mem_of_getElem? (i := 112) rfl, rfl⟩)) rfl⟩
theorem mk_X11_startOf : MK yX11_startOf cX11_startOf 3 (some .int) 0 := ⟨LW_t tb9 (k := 122) rfl rfl, LW_t tb1 (k := 11) rfl rfl, by decide, by decide, by decide +kernel⟩
theorem vk_X11_startOf : VK yX11_startOf := ⟨LW_t tb9 (k := 121) rfl rfl, LW_mem (List.mem_append_left _ (List.mem_map.mpr ⟨(⟨"LastWordModel", "startOf", "()I"⟩, 51), List.mem_of_getElem? (i := 140) rfl, rfl⟩)) rfl⟩
theorem mk_X11_lays : MK yX11_lays cX11_lays 3 none 1 := ⟨LW_t tb8 (k := 196) rfl rfl, LW_t tb1 (k := 11) rfl rfl, by decide, by decide, by decide +kernel⟩
theorem vk_X11_lays : VK yX11_lays := ⟨LW_t tb8 (k := 195) rfl rfl, LW_mem (List.mem_append_left _ (List.mem_map.mpr ⟨(⟨"LastWordModel", "lays", "(I)V"⟩, 51), List.mem_of_getElem? (i := 110) rfl, rfl⟩)) rfl⟩
theorem mk_X11_thing : MK yX11_thing cX11_thing 3 (some .int) 2 := ⟨LW_t tb8 (k := 155) rfl rfl, LW_t tb1 (k := 11) rfl rfl, by decide, by decide, by decide +kernel⟩
theorem vk_X11_thing : VK yX11_thing := ⟨LW_t tb8 (k := 153) rfl rfl, LW_t tb8 (k := 154) rfl rfl⟩
theorem mk_X11_worthOf : MK yX11_worthOf cX11_worthOf 6 (some .int) 4 := ⟨LW_t tb8 (k := 192) rfl rfl, LW_t tb1 (k := 11) rfl rfl, by decide, by decide, by decide +kernel⟩
theorem vk_X11_worthOf : VK yX11_worthOf := ⟨LW_t tb8 (k := 191) rfl rfl, LW_mem (List.mem_append_left _ (List.mem_map.mpr ⟨(⟨"LastWordModel", "worthOf", "(IIII)I"⟩, 51), List.mem_of_getElem? (i := 109) rfl, rfl⟩)) rfl⟩
theorem mk_X11_worth : MK yX11_worth cX11_worth 5 (some .int) 4 := ⟨LW_t tb8 (k := 171) rfl rfl, LW_t tb1 (k := 11) rfl rfl, by decide, by decide, by decide +kernel⟩
theorem vk_X11_worth : VK yX11_worth := ⟨LW_t tb8 (k := 169) rfl rfl, LW_t tb8 (k := 170) rfl rfl⟩
theorem mk_X11_isBarred : MK yX11_isBarred cX11_isBarred 4 (some .boolean) 1 := ⟨LW_t tb8 (k := 231) rfl rfl, LW_t tb1 (k := 11) rfl rfl, by decide, by decide, by decide +kernel⟩
theorem vk_X11_isBarred : VK yX11_isBarred := ⟨LW_t tb8 (k := 230) rfl rfl, LW_mem (List.mem_append_left _ (List.mem_map.mpr ⟨(⟨"LastWordModel", "isBarred", "(I)Z"⟩, 51), List.mem_of_getElem? (i := 117) rfl, rfl⟩)) rfl⟩
theorem mk_X11_with : MK yX11_with cX11_with 3 (some .int) 3 := ⟨LW_t tb8 (k := 234) rfl rfl, LW_t tb1 (k := 11) rfl rfl, by decide, by decide, by decide +kernel⟩
theorem sk_X11_with : Cond.static yX11_with ∈ LW := LW_t tb8 (k := 233) rfl rfl
theorem mk_X11_mayBring : MK yX11_mayBring cX11_mayBring 7 (some .boolean) 4 := ⟨LW_t tb8 (k := 223) rfl rfl, LW_t tb1 (k := 11) rfl rfl, by decide, by decide, by decide +kernel⟩
theorem vk_X11_mayBring : VK yX11_mayBring := ⟨LW_t tb8 (k := 222) rfl rfl, LW_mem (List.mem_append_left _ (List.mem_map.mpr ⟨(⟨"LastWordModel", "mayBring", "(IIII)Z"⟩, 51), List.mem_of_getElem? (i := 115) rfl, rfl⟩)) rfl⟩
theorem mk_X11_isState : MK yX11_isState cX11_isState 3 (some .boolean) 2 := ⟨LW_t tb8 (k := 219) rfl rfl, LW_t tb1 (k := 11) rfl rfl, by decide, by decide, by decide +kernel⟩
theorem vk_X11_isState : VK yX11_isState := ⟨LW_t tb8 (k := 218) rfl rfl, LW_mem (List.mem_append_left _ (List.mem_map.mpr ⟨(⟨"LastWordModel", "isState", "(II)Z"⟩, 51), List.mem_of_getElem? (i := 114) rfl, rfl⟩)) rfl⟩
theorem mk_X11_may : MK yX11_may cX11_may 5 (some .int) 4 := ⟨LW_t tb8 (k := 207) rfl rfl, LW_t tb1 (k := 11) rfl rfl, by decide, by decide, by decide +kernel⟩
theorem vk_X11_may : VK yX11_may := ⟨LW_t tb8 (k := 205) rfl rfl, LW_t tb8 (k := 206) rfl rfl⟩
theorem mk_X11_costOf : MK yX11_costOf cX11_costOf 5 (some .int) 2 := ⟨LW_t tb9 (k := 52) rfl rfl, LW_t tb1 (k := 11) rfl rfl, by decide, by decide, by decide +kernel⟩
theorem vk_X11_costOf : VK yX11_costOf := ⟨LW_t tb9 (k := 51) rfl rfl, LW_mem (List.mem_append_left _ (List.mem_map.mpr ⟨(⟨"LastWordModel", "costOf", "(II)I"⟩, 51), List.mem_of_getElem? (i := 129) rfl, rfl⟩)) rfl⟩
theorem mk_X11_worthBy : MK yX11_worthBy cX11_worthBy 5 (some .int) 4 := ⟨LW_t tb9 (k := 37) rfl rfl, LW_t tb1 (k := 11) rfl rfl, by decide, by decide, by decide +kernel⟩
theorem vk_X11_worthBy : VK yX11_worthBy := ⟨LW_t tb9 (k := 36) rfl rfl, LW_mem (List.mem_append_left _ (List.mem_map.mpr ⟨(⟨"LastWordModel", "worthBy", "(IIII)I"⟩, 51), List.mem_of_getElem? (i := 126) rfl, rfl⟩)) rfl⟩
theorem mk_X11_doesAt : MK yX11_doesAt cX11_doesAt 3 (some .int) 3 := ⟨LW_t tb9 (k := 17) rfl rfl, LW_t tb1 (k := 11) rfl rfl, by decide, by decide, by decide +kernel⟩
theorem sk_X11_doesAt : Cond.static yX11_doesAt ∈ LW := LW_t tb9 (k := 16) rfl rfl
theorem mk_X11_likelyAt : MK yX11_likelyAt cX11_likelyAt 4 (some .int) 4 := ⟨LW_t tb9 (k := 48) rfl rfl, LW_t tb1 (k := 11) rfl rfl, by decide, by decide, by decide +kernel⟩
theorem sk_X11_likelyAt : Cond.static yX11_likelyAt ∈ LW := LW_t tb9 (k := 47) rfl rfl
theorem mk_X11_left : MK yX11_left cX11_left 4 (some .int) 2 := ⟨LW_t tb9 (k := 41) rfl rfl, LW_t tb1 (k := 11) rfl rfl, by decide, by decide, by decide +kernel⟩
theorem vk_X11_left : VK yX11_left := ⟨LW_t tb9 (k := 40) rfl rfl, LW_mem (List.mem_append_left _ (List.mem_map.mpr ⟨(⟨"LastWordModel", "left", "(II)I"⟩, 51), List.mem_of_getElem? (i := 127) rfl, rfl⟩)) rfl⟩
theorem mk_X11_laysWorths : MK yX11_laysWorths cX11_laysWorths 3 none 0 := ⟨LW_t tb8 (k := 227) rfl rfl, LW_t tb1 (k := 11) rfl rfl, by decide, by decide, by decide +kernel⟩
theorem vk_X11_laysWorths : VK yX11_laysWorths := ⟨LW_t tb8 (k := 226) rfl rfl, LW_mem (List.mem_append_left _ (List.mem_map.mpr ⟨(⟨"LastWordModel", "laysWorths", "()V"⟩, 51), List.mem_of_getElem? (i := 116) rfl, rfl⟩)) rfl⟩
theorem mk_X11_valueBy : MK yX11_valueBy cX11_valueBy 4 (some .long) 3 := ⟨LW_t tb9 (k := 33) rfl rfl, LW_t tb1 (k := 11) rfl rfl, by decide, by decide, by decide +kernel⟩
theorem vk_X11_valueBy : VK yX11_valueBy := ⟨LW_t tb9 (k := 32) rfl rfl, LW_mem (List.mem_append_left _ (List.mem_map.mpr ⟨(⟨"LastWordModel", "valueBy", "(III)J"⟩, 51), List.mem_of_getElem? (i := 125) rfl, rfl⟩)) rfl⟩
theorem mk_X11_valueOf : MK yX11_valueOf cX11_valueOf 5 (some .long) 4 := ⟨LW_t tb9 (k := 29) rfl rfl, LW_t tb1 (k := 11) rfl rfl, by decide, by decide, by decide +kernel⟩
theorem vk_X11_valueOf : VK yX11_valueOf := ⟨LW_t tb9 (k := 28) rfl rfl, LW_mem (List.mem_append_left _ (List.mem_map.mpr ⟨(⟨"LastWordModel", "valueOf", "(IIII)J"⟩, 51), List.mem_of_getElem? (i := 124) rfl, rfl⟩)) rfl⟩
theorem mk_X11_pledged : MK yX11_pledged cX11_pledged 4 (some .int) 2 := ⟨LW_t tb9 (k := 14) rfl rfl, LW_t tb1 (k := 11) rfl rfl, by decide, by decide, by decide +kernel⟩
theorem vk_X11_pledged : VK yX11_pledged := ⟨LW_t tb9 (k := 13) rfl rfl, LW_mem (List.mem_append_left _ (List.mem_map.mpr ⟨(⟨"LastWordModel", "pledged", "(II)I"⟩, 51), List.mem_of_getElem? (i := 121) rfl, rfl⟩)) rfl⟩
theorem mk_X11_act : MK yX11_act cX11_act 6 (some .int) 3 := ⟨LW_t tb9 (k := 25) rfl rfl, LW_t tb1 (k := 11) rfl rfl, by decide, by decide, by decide +kernel⟩
theorem vk_X11_act : VK yX11_act := ⟨LW_t tb9 (k := 24) rfl rfl, LW_mem (List.mem_append_left _ (List.mem_map.mpr ⟨(⟨"LastWordModel", "act", "(III)I"⟩, 51), List.mem_of_getElem? (i := 123) rfl, rfl⟩)) rfl⟩
theorem mk_X11_freeChoice : MK yX11_freeChoice cX11_freeChoice 7 (some .int) 3 := ⟨LW_t tb9 (k := 21) rfl rfl, LW_t tb1 (k := 11) rfl rfl, by decide, by decide, by decide +kernel⟩
theorem vk_X11_freeChoice : VK yX11_freeChoice := ⟨LW_t tb9 (k := 20) rfl rfl, LW_mem (List.mem_append_left _ (List.mem_map.mpr ⟨(⟨"LastWordModel", "freeChoice", "(III)I"⟩, 51), List.mem_of_getElem? (i := 122) rfl, rfl⟩)) rfl⟩
theorem mk_X11_sixth : MK yX11_sixth cX11_sixth 4 (some .int) 2 := ⟨LW_t tb9 (k := 60) rfl rfl, LW_t tb1 (k := 11) rfl rfl, by decide, by decide, by decide +kernel⟩
theorem vk_X11_sixth : VK yX11_sixth := ⟨LW_t tb9 (k := 59) rfl rfl, LW_mem (List.mem_append_left _ (List.mem_map.mpr ⟨(⟨"LastWordModel", "sixth", "(II)I"⟩, 51), List.mem_of_getElem? (i := 131) rfl, rfl⟩)) rfl⟩
theorem mk_X11_find : MK yX11_find cX11_find 1 none 0 := ⟨LW_t tb9 (k := 6) rfl rfl, LW_t tb1 (k := 11) rfl rfl, by decide, by decide, by decide +kernel⟩
theorem vk_X11_find : VK yX11_find := ⟨LW_t tb9 (k := 5) rfl rfl, LW_mem (List.mem_append_left _ (List.mem_map.mpr ⟨(⟨"LastWordModel", "find", "()V"⟩, 51), List.mem_of_getElem? (i := 119) rfl, rfl⟩)) rfl⟩
theorem mk_X11_finds : MK yX11_finds cX11_finds 5 none 0 := ⟨LW_t tb9 (k := 10) rfl rfl, LW_t tb1 (k := 11) rfl rfl, by decide, by decide, by decide +kernel⟩
theorem vk_X11_finds : VK yX11_finds := ⟨LW_t tb9 (k := 9) rfl rfl, LW_mem (List.mem_append_left _ (List.mem_map.mpr ⟨(⟨"LastWordModel", "finds", "()V"⟩, 51), List.mem_of_getElem? (i := 120) rfl, rfl⟩)) rfl⟩
theorem mk_X11_likelyFor : MK yX11_likelyFor cX11_likelyFor 11 none 4 := ⟨LW_t tb9 (k := 56) rfl rfl, LW_t tb1 (k := 11) rfl rfl, by decide, by decide, by decide +kernel⟩
theorem vk_X11_likelyFor : VK yX11_likelyFor := ⟨LW_t tb9 (k := 55) rfl rfl, LW_mem (List.mem_append_left _ (List.mem_map.mpr ⟨(⟨"LastWordModel", "likelyFor", "(IIII)V"⟩, 51), List.mem_of_getElem? (i := 130) rfl, rfl⟩)) rfl⟩
theorem mk_X11_isOne : MK yX11_isOne cX11_isOne 4 (some .boolean) 3 := ⟨LW_t tb9 (k := 2) rfl rfl, LW_t tb1 (k := 11) rfl rfl, by decide, by decide, by decide +kernel⟩
theorem vk_X11_isOne : VK yX11_isOne := ⟨LW_t tb9 (k := 1) rfl rfl, LW_mem (List.mem_append_left _ (List.mem_map.mpr ⟨(⟨"LastWordModel", "isOne", "(III)Z"⟩, 51), List.mem_of_getElem? (i := 118) rfl, rfl⟩)) rfl⟩
theorem mk_X11_plain : MK yX11_plain cX11_plain 7 (some .int) 4 := ⟨LW_t tb9 (k := 68) rfl rfl, LW_t tb1 (k := 11) rfl rfl, by decide, by decide, by decide +kernel⟩
theorem vk_X11_plain : VK yX11_plain := ⟨LW_t tb9 (k := 67) rfl rfl, LW_mem (List.mem_append_left _ (List.mem_map.mpr ⟨(⟨"LastWordModel", "plain", "(IIII)I"⟩, 51), List.mem_of_getElem? (i := 133) rfl, rfl⟩)) rfl⟩
theorem mk_X11_plainChoice : MK yX11_plainChoice cX11_plainChoice 9 (some .int) 4 := ⟨LW_t tb9 (k := 64) rfl rfl, LW_t tb1 (k := 11) rfl rfl, by decide, by decide, by decide +kernel⟩
theorem vk_X11_plainChoice : VK yX11_plainChoice := ⟨LW_t tb9 (k := 63) rfl rfl, LW_mem (List.mem_append_left _ (List.mem_map.mpr ⟨(⟨"LastWordModel", "plainChoice", "(IIII)I"⟩, 51), List.mem_of_getElem? (i := 132) rfl, rfl⟩)) rfl⟩
theorem mk_X11_chooses : MK yX11_chooses cX11_chooses 5 (some .int) 4 := ⟨LW_t tb8 (k := 238) rfl rfl, LW_t tb1 (k := 11) rfl rfl, by decide, by decide, by decide +kernel⟩
theorem vk_X11_chooses : VK yX11_chooses := ⟨LW_t tb8 (k := 236) rfl rfl, LW_t tb8 (k := 237) rfl rfl⟩
theorem mk_X11_common : MK yX11_common cX11_common 10 (some .long) 2 := ⟨LW_t tb9 (k := 90) rfl rfl, LW_t tb1 (k := 11) rfl rfl, by decide, by decide, by decide +kernel⟩
theorem sk_X11_common : Cond.static yX11_common ∈ LW := LW_t tb9 (k := 89) rfl rfl
theorem mk_X11_sets : MK yX11_sets cX11_sets 7 none 2 := ⟨LW_t tb9 (k := 87) rfl rfl, LW_t tb1 (k := 11) rfl rfl, by decide, by decide, by decide +kernel⟩
theorem vk_X11_sets : VK yX11_sets := ⟨LW_t tb9 (k := 86) rfl rfl, LW_mem (List.mem_append_left _ (List.mem_map.mpr ⟨(⟨"LastWordModel", "sets", "(JJ)V"⟩, 51), List.mem_of_getElem? (i := 136) rfl, rfl⟩)) rfl⟩
theorem mk_X11_partFound : MK yX11_partFound cX11_partFound 2 (some .long) 1 := ⟨LW_t tb9 (k := 94) rfl rfl, LW_t tb1 (k := 11) rfl rfl, by decide, by decide, by decide +kernel⟩
theorem vk_X11_partFound : VK yX11_partFound := ⟨LW_t tb9 (k := 93) rfl rfl, LW_mem (List.mem_append_left _ (List.mem_map.mpr ⟨(⟨"LastWordModel", "partFound", "(I)J"⟩, 51), List.mem_of_getElem? (i := 137) rfl, rfl⟩)) rfl⟩
theorem mk_X11_isWhat : MK yX11_isWhat cX11_isWhat 1 (some .boolean) 1 := ⟨LW_t tb9 (k := 75) rfl rfl, LW_t tb1 (k := 11) rfl rfl, by decide, by decide, by decide +kernel⟩
theorem sk_X11_isWhat : Cond.static yX11_isWhat ∈ LW := LW_t tb9 (k := 74) rfl rfl
theorem mk_X11_valueNow : MK yX11_valueNow cX11_valueNow 4 (some .long) 3 := ⟨LW_t tb9 (k := 79) rfl rfl, LW_t tb1 (k := 11) rfl rfl, by decide, by decide, by decide +kernel⟩
theorem vk_X11_valueNow : VK yX11_valueNow := ⟨LW_t tb9 (k := 78) rfl rfl, LW_mem (List.mem_append_left _ (List.mem_map.mpr ⟨(⟨"LastWordModel", "valueNow", "(III)J"⟩, 51), List.mem_of_getElem? (i := 134) rfl, rfl⟩)) rfl⟩
theorem mk_X11_partsOf : MK yX11_partsOf cX11_partsOf 2 (some .long) 1 := ⟨LW_t tb9 (k := 83) rfl rfl, LW_t tb1 (k := 11) rfl rfl, by decide, by decide, by decide +kernel⟩
theorem vk_X11_partsOf : VK yX11_partsOf := ⟨LW_t tb9 (k := 82) rfl rfl, LW_mem (List.mem_append_left _ (List.mem_map.mpr ⟨(⟨"LastWordModel", "partsOf", "(I)J"⟩, 51), List.mem_of_getElem? (i := 135) rfl, rfl⟩)) rfl⟩
theorem mk_X11_value : MK yX11_value cX11_value 5 (some .long) 4 := ⟨LW_t tb9 (k := 72) rfl rfl, LW_t tb1 (k := 11) rfl rfl, by decide, by decide, by decide +kernel⟩
theorem vk_X11_value : VK yX11_value := ⟨LW_t tb9 (k := 70) rfl rfl, LW_t tb9 (k := 71) rfl rfl⟩
theorem mk_X11_ask : MK yX11_ask cX11_ask 3 (some .boolean) 2 := ⟨LW_t tb9 (k := 98) rfl rfl, LW_t tb1 (k := 11) rfl rfl, by decide, by decide, by decide +kernel⟩
theorem vk_X11_ask : VK yX11_ask := ⟨LW_t tb9 (k := 96) rfl rfl, LW_t tb9 (k := 97) rfl rfl⟩
theorem mk_X11_pledge : MK yX11_pledge cX11_pledge 4 (some .boolean) 3 := ⟨LW_t tb9 (k := 102) rfl rfl, LW_t tb1 (k := 11) rfl rfl, by decide, by decide, by decide +kernel⟩
theorem vk_X11_pledge : VK yX11_pledge := ⟨LW_t tb9 (k := 100) rfl rfl, LW_t tb9 (k := 101) rfl rfl⟩
theorem mk_X11_stone : MK yX11_stone cX11_stone 3 (some .boolean) 2 := ⟨LW_t tb9 (k := 106) rfl rfl, LW_t tb1 (k := 11) rfl rfl, by decide, by decide, by decide +kernel⟩
theorem vk_X11_stone : VK yX11_stone := ⟨LW_t tb9 (k := 104) rfl rfl, LW_t tb9 (k := 105) rfl rfl⟩
theorem mk_X11_runsTo : MK yX11_runsTo cX11_runsTo 3 none 1 := ⟨LW_t tb9 (k := 118) rfl rfl, LW_t tb1 (k := 11) rfl rfl, by decide, by decide, by decide +kernel⟩
theorem vk_X11_runsTo : VK yX11_runsTo := ⟨LW_t tb9 (k := 117) rfl rfl, LW_mem (List.mem_append_left _ (List.mem_map.mpr ⟨(⟨"LastWordModel", "runsTo", "(I)V"⟩, 51), List.mem_of_getElem? (i := 139) rfl, rfl⟩)) rfl⟩
theorem mk_X11_runsOn : MK yX11_runsOn cX11_runsOn 5 none 1 := ⟨LW_t tb9 (k := 126) rfl rfl, LW_t tb1 (k := 11) rfl rfl, by decide, by decide, by decide +kernel⟩
theorem vk_X11_runsOn : VK yX11_runsOn := ⟨LW_t tb9 (k := 125) rfl rfl, LW_mem (List.mem_append_left _ (List.mem_map.mpr ⟨(⟨"LastWordModel", "runsOn", "(I)V"⟩, 51), List.mem_of_getElem? (i := 141) rfl, rfl⟩)) rfl⟩
theorem mk_X11_isEarly : MK yX11_isEarly cX11_isEarly 2 (some .boolean) 1 := ⟨LW_t tb9 (k := 114) rfl rfl, LW_t tb1 (k := 11) rfl rfl, by decide, by decide, by decide +kernel⟩
theorem vk_X11_isEarly : VK yX11_isEarly := ⟨LW_t tb9 (k := 113) rfl rfl, LW_mem (List.mem_append_left _ (List.mem_map.mpr ⟨(⟨"LastWordModel", "isEarly", "(I)Z"⟩, 51), List.mem_of_getElem? (i := 138) rfl, rfl⟩)) rfl⟩
theorem mk_X11_odds : MK yX11_odds cX11_odds 4 (some .long) 3 := ⟨LW_t tb9 (k := 110) rfl rfl, LW_t tb1 (k := 11) rfl rfl, by decide, by decide, by decide +kernel⟩
theorem vk_X11_odds : VK yX11_odds := ⟨LW_t tb9 (k := 108) rfl rfl, LW_t tb9 (k := 109) rfl rfl⟩
theorem mk_X11_stir : MK yX11_stir cX11_stir 3 (some .long) 2 := ⟨LW_t tb9 (k := 130) rfl rfl, LW_t tb1 (k := 11) rfl rfl, by decide, by decide, by decide +kernel⟩
theorem vk_X11_stir : VK yX11_stir := ⟨LW_t tb9 (k := 128) rfl rfl, LW_t tb9 (k := 129) rfl rfl⟩
theorem mk_X11_settled : MK yX11_settled cX11_settled 5 (some .int) 1 := ⟨LW_t tb9 (k := 134) rfl rfl, LW_t tb1 (k := 11) rfl rfl, by decide, by decide, by decide +kernel⟩
theorem vk_X11_settled : VK yX11_settled := ⟨LW_t tb9 (k := 132) rfl rfl, LW_t tb9 (k := 133) rfl rfl⟩
theorem mk_X11_isAct : MK yX11_isAct cX11_isAct 7 (some .boolean) 4 := ⟨LW_t tb9 (k := 142) rfl rfl, LW_t tb1 (k := 11) rfl rfl, by decide, by decide, by decide +kernel⟩
theorem vk_X11_isAct : VK yX11_isAct := ⟨LW_t tb9 (k := 141) rfl rfl, LW_mem (List.mem_append_left _ (List.mem_map.mpr ⟨(⟨"LastWordModel", "isAct", "(IIII)Z"⟩, 51), List.mem_of_getElem? (i := 142) rfl, rfl⟩)) rfl⟩
theorem mk_X11_priceOf : MK yX11_priceOf cX11_priceOf 5 (some .long) 4 := ⟨LW_t tb9 (k := 146) rfl rfl, LW_t tb1 (k := 11) rfl rfl, by decide, by decide, by decide +kernel⟩
theorem vk_X11_priceOf : VK yX11_priceOf := ⟨LW_t tb9 (k := 145) rfl rfl, LW_mem (List.mem_append_left _ (List.mem_map.mpr ⟨(⟨"LastWordModel", "priceOf", "(IIII)J"⟩, 51), List.mem_of_getElem? (i := 143) rfl, rfl⟩)) rfl⟩
theorem mk_X11_gainOf : MK yX11_gainOf cX11_gainOf 10 (some .long) 6 := ⟨LW_t tb9 (k := 158) rfl rfl, LW_t tb1 (k := 11) rfl rfl, by decide, by decide, by decide +kernel⟩
theorem vk_X11_gainOf : VK yX11_gainOf := ⟨LW_t tb9 (k := 157) rfl rfl, LW_mem (List.mem_append_left _ (List.mem_map.mpr ⟨(⟨"LastWordModel", "gainOf", "(IIIIII)J"⟩, 51), List.mem_of_getElem? (i := 145) rfl, rfl⟩)) rfl⟩
theorem mk_X11_thereBy : MK yX11_thereBy cX11_thereBy 5 (some .long) 4 := ⟨LW_t tb9 (k := 162) rfl rfl, LW_t tb1 (k := 11) rfl rfl, by decide, by decide, by decide +kernel⟩
theorem vk_X11_thereBy : VK yX11_thereBy := ⟨LW_t tb9 (k := 161) rfl rfl, LW_mem (List.mem_append_left _ (List.mem_map.mpr ⟨(⟨"LastWordModel", "thereBy", "(IIII)J"⟩, 51), List.mem_of_getElem? (i := 146) rfl, rfl⟩)) rfl⟩
theorem mk_X11_isOther : MK yX11_isOther cX11_isOther 3 (some .boolean) 2 := ⟨LW_t tb9 (k := 154) rfl rfl, LW_t tb1 (k := 11) rfl rfl, by decide, by decide, by decide +kernel⟩
theorem vk_X11_isOther : VK yX11_isOther := ⟨LW_t tb9 (k := 153) rfl rfl, LW_mem (List.mem_append_left _ (List.mem_map.mpr ⟨(⟨"LastWordModel", "isOther", "(II)Z"⟩, 51), List.mem_of_getElem? (i := 144) rfl, rfl⟩)) rfl⟩
theorem mk_X11_price : MK yX11_price cX11_price 6 (some .long) 5 := ⟨LW_t tb9 (k := 138) rfl rfl, LW_t tb1 (k := 11) rfl rfl, by decide, by decide, by decide +kernel⟩
theorem vk_X11_price : VK yX11_price := ⟨LW_t tb9 (k := 136) rfl rfl, LW_t tb9 (k := 137) rfl rfl⟩
theorem mk_X11_gain : MK yX11_gain cX11_gain 8 (some .long) 7 := ⟨LW_t tb9 (k := 150) rfl rfl, LW_t tb1 (k := 11) rfl rfl, by decide, by decide, by decide +kernel⟩
theorem vk_X11_gain : VK yX11_gain := ⟨LW_t tb9 (k := 148) rfl rfl, LW_t tb9 (k := 149) rfl rfl⟩
theorem mk_X11_lets : MK yX11_lets cX11_lets 10 (some .long) 7 := ⟨LW_t tb9 (k := 166) rfl rfl, LW_t tb1 (k := 11) rfl rfl, by decide, by decide, by decide +kernel⟩
theorem vk_X11_lets : VK yX11_lets := ⟨LW_t tb9 (k := 164) rfl rfl, LW_t tb9 (k := 165) rfl rfl⟩
theorem mk_X11_present : MK yX11_present cX11_present 15 (some .long) 4 := ⟨LW_t tb9 (k := 170) rfl rfl, LW_t tb1 (k := 11) rfl rfl, by decide, by decide, by decide +kernel⟩
theorem vk_X11_present : VK yX11_present := ⟨LW_t tb9 (k := 168) rfl rfl, LW_t tb9 (k := 169) rfl rfl⟩
theorem mk_X11_hopesOf : MK yX11_hopesOf cX11_hopesOf 6 (some .long) 2 := ⟨LW_t tb9 (k := 182) rfl rfl, LW_t tb1 (k := 11) rfl rfl, by decide, by decide, by decide +kernel⟩
theorem vk_X11_hopesOf : VK yX11_hopesOf := ⟨LW_t tb9 (k := 181) rfl rfl, LW_mem (List.mem_append_left _ (List.mem_map.mpr ⟨(⟨"LastWordModel", "hopesOf", "(II)J"⟩, 51), List.mem_of_getElem? (i := 148) rfl, rfl⟩)) rfl⟩
theorem mk_X11_isHope : MK yX11_isHope cX11_isHope 3 (some .boolean) 2 := ⟨LW_t tb9 (k := 178) rfl rfl, LW_t tb1 (k := 11) rfl rfl, by decide, by decide, by decide +kernel⟩
theorem vk_X11_isHope : VK yX11_isHope := ⟨LW_t tb9 (k := 177) rfl rfl, LW_mem (List.mem_append_left _ (List.mem_map.mpr ⟨(⟨"LastWordModel", "isHope", "(II)Z"⟩, 51), List.mem_of_getElem? (i := 147) rfl, rfl⟩)) rfl⟩
theorem mk_X11_hopes : MK yX11_hopes cX11_hopes 4 (some .long) 3 := ⟨LW_t tb9 (k := 174) rfl rfl, LW_t tb1 (k := 11) rfl rfl, by decide, by decide, by decide +kernel⟩
theorem vk_X11_hopes : VK yX11_hopes := ⟨LW_t tb9 (k := 172) rfl rfl, LW_t tb9 (k := 173) rfl rfl⟩
theorem mk_X11_vow : MK yX11_vow cX11_vow 13 (some .long) 3 := ⟨LW_t tb9 (k := 186) rfl rfl, LW_t tb1 (k := 11) rfl rfl, by decide, by decide, by decide +kernel⟩
theorem vk_X11_vow : VK yX11_vow := ⟨LW_t tb9 (k := 184) rfl rfl, LW_t tb9 (k := 185) rfl rfl⟩
theorem mk_X11_bind : MK yX11_bind cX11_bind 12 (some .long) 5 := ⟨LW_t tb9 (k := 190) rfl rfl, LW_t tb1 (k := 11) rfl rfl, by decide, by decide, by decide +kernel⟩
theorem vk_X11_bind : VK yX11_bind := ⟨LW_t tb9 (k := 188) rfl rfl, LW_t tb9 (k := 189) rfl rfl⟩
theorem mk_X11_valueAsked : MK yX11_valueAsked cX11_valueAsked 6 (some .long) 5 := ⟨LW_t tb9 (k := 198) rfl rfl, LW_t tb1 (k := 11) rfl rfl, by decide, by decide, by decide +kernel⟩
theorem vk_X11_valueAsked : VK yX11_valueAsked := ⟨LW_t tb9 (k := 197) rfl rfl, LW_mem (List.mem_append_left _ (List.mem_map.mpr ⟨(⟨"LastWordModel", "valueAsked", "(IIIII)J"⟩, 51), List.mem_of_getElem? (i := 149) rfl, rfl⟩)) rfl⟩
theorem mk_X11_order : MK yX11_order cX11_order 14 (some .long) 6 := ⟨LW_t tb9 (k := 194) rfl rfl, LW_t tb1 (k := 11) rfl rfl, by decide, by decide, by decide +kernel⟩
theorem vk_X11_order : VK yX11_order := ⟨LW_t tb9 (k := 192) rfl rfl, LW_t tb9 (k := 193) rfl rfl⟩
theorem mk_X11_draw : MK yX11_draw cX11_draw 2 (some .int) 1 := ⟨LW_t tb9 (k := 218) rfl rfl, LW_t tb1 (k := 11) rfl rfl, by decide, by decide, by decide +kernel⟩
theorem vk_X11_draw : VK yX11_draw := ⟨LW_t tb9 (k := 217) rfl rfl, LW_mem (List.mem_append_left _ (List.mem_map.mpr ⟨(⟨"LastWordModel", "draw", "(I)I"⟩, 51), List.mem_of_getElem? (i := 153) rfl, rfl⟩)) rfl⟩
theorem mk_X11_comes : MK yX11_comes cX11_comes 5 (some .int) 1 := ⟨LW_t tb9 (k := 214) rfl rfl, LW_t tb1 (k := 11) rfl rfl, by decide, by decide, by decide +kernel⟩
theorem vk_X11_comes : VK yX11_comes := ⟨LW_t tb9 (k := 213) rfl rfl, LW_mem (List.mem_append_left _ (List.mem_map.mpr ⟨(⟨"LastWordModel", "comes", "(I)I"⟩, 51), List.mem_of_getElem? (i := 152) rfl, rfl⟩)) rfl⟩
theorem mk_X11_askedBy : MK yX11_askedBy cX11_askedBy 6 (some .int) 2 := ⟨LW_t tb9 (k := 226) rfl rfl, LW_t tb1 (k := 11) rfl rfl, by decide, by decide, by decide +kernel⟩
theorem vk_X11_askedBy : VK yX11_askedBy := ⟨LW_t tb9 (k := 225) rfl rfl, LW_mem (List.mem_append_left _ (List.mem_map.mpr ⟨(⟨"LastWordModel", "askedBy", "(II)I"⟩, 51), List.mem_of_getElem? (i := 154) rfl, rfl⟩)) rfl⟩
theorem mk_X11_plainAll : MK yX11_plainAll cX11_plainAll 5 (some .int) 2 := ⟨LW_t tb9 (k := 238) rfl rfl, LW_t tb1 (k := 11) rfl rfl, by decide, by decide, by decide +kernel⟩
theorem vk_X11_plainAll : VK yX11_plainAll := ⟨LW_t tb9 (k := 237) rfl rfl, LW_mem (List.mem_append_left _ (List.mem_map.mpr ⟨(⟨"LastWordModel", "plainAll", "(II)I"⟩, 51), List.mem_of_getElem? (i := 157) rfl, rfl⟩)) rfl⟩
theorem mk_X11_choiceOfAll : MK yX11_choiceOfAll cX11_choiceOfAll 7 (some .int) 2 := ⟨LW_t tb9 (k := 234) rfl rfl, LW_t tb1 (k := 11) rfl rfl, by decide, by decide, by decide +kernel⟩
theorem vk_X11_choiceOfAll : VK yX11_choiceOfAll := ⟨LW_t tb9 (k := 233) rfl rfl, LW_mem (List.mem_append_left _ (List.mem_map.mpr ⟨(⟨"LastWordModel", "choiceOfAll", "(II)I"⟩, 51), List.mem_of_getElem? (i := 156) rfl, rfl⟩)) rfl⟩
theorem mk_X11_bringsBy : MK yX11_bringsBy cX11_bringsBy 7 (some .int) 4 := ⟨LW_t tb9 (k := 230) rfl rfl, LW_t tb1 (k := 11) rfl rfl, by decide, by decide, by decide +kernel⟩
theorem vk_X11_bringsBy : VK yX11_bringsBy := ⟨LW_t tb9 (k := 229) rfl rfl, LW_mem (List.mem_append_left _ (List.mem_map.mpr ⟨(⟨"LastWordModel", "bringsBy", "(IIII)I"⟩, 51), List.mem_of_getElem? (i := 155) rfl, rfl⟩)) rfl⟩
theorem mk_X11_findCentury : MK yX11_findCentury cX11_findCentury 7 none 2 := ⟨LW_t tb9 (k := 210) rfl rfl, LW_t tb1 (k := 11) rfl rfl, by decide, by decide, by decide +kernel⟩
theorem vk_X11_findCentury : VK yX11_findCentury := ⟨LW_t tb9 (k := 209) rfl rfl, LW_mem (List.mem_append_left _ (List.mem_map.mpr ⟨(⟨"LastWordModel", "findCentury", "(II)V"⟩, 51), List.mem_of_getElem? (i := 151) rfl, rfl⟩)) rfl⟩
theorem mk_X11_isCentury : MK yX11_isCentury cX11_isCentury 3 (some .boolean) 2 := ⟨LW_t tb9 (k := 206) rfl rfl, LW_t tb1 (k := 11) rfl rfl, by decide, by decide, by decide +kernel⟩
theorem vk_X11_isCentury : VK yX11_isCentury := ⟨LW_t tb9 (k := 205) rfl rfl, LW_mem (List.mem_append_left _ (List.mem_map.mpr ⟨(⟨"LastWordModel", "isCentury", "(II)Z"⟩, 51), List.mem_of_getElem? (i := 150) rfl, rfl⟩)) rfl⟩
theorem mk_X11_century : MK yX11_century cX11_century 5 (some .int) 4 := ⟨LW_t tb9 (k := 202) rfl rfl, LW_t tb1 (k := 11) rfl rfl, by decide, by decide, by decide +kernel⟩
theorem vk_X11_century : VK yX11_century := ⟨LW_t tb9 (k := 200) rfl rfl, LW_t tb9 (k := 201) rfl rfl⟩
theorem mk_X11_faresOf : MK yX11_faresOf cX11_faresOf 5 (some .int) 2 := ⟨LW_t tb10 (k := 6) rfl rfl, LW_t tb1 (k := 11) rfl rfl, by decide, by decide, by decide +kernel⟩
theorem vk_X11_faresOf : VK yX11_faresOf := ⟨LW_t tb10 (k := 5) rfl rfl, LW_mem (List.mem_append_left _ (List.mem_map.mpr ⟨(⟨"LastWordModel", "faresOf", "(II)I"⟩, 51), List.mem_of_getElem? (i := 158) rfl, rfl⟩)) rfl⟩
theorem mk_X11_fares : MK yX11_fares cX11_fares 4 (some .int) 3 := ⟨LW_t tb10 (k := 2) rfl rfl, LW_t tb1 (k := 11) rfl rfl, by decide, by decide, by decide +kernel⟩
theorem vk_X11_fares : VK yX11_fares := ⟨LW_t tb10 (k := 0) rfl rfl, LW_t tb10 (k := 1) rfl rfl⟩
theorem mk_X11_faresOfAll : MK yX11_faresOfAll cX11_faresOfAll 4 (some .int) 1 := ⟨LW_t tb10 (k := 18) rfl rfl, LW_t tb1 (k := 11) rfl rfl, by decide, by decide, by decide +kernel⟩
theorem vk_X11_faresOfAll : VK yX11_faresOfAll := ⟨LW_t tb10 (k := 17) rfl rfl, LW_mem (List.mem_append_left _ (List.mem_map.mpr ⟨(⟨"LastWordModel", "faresOfAll", "(I)I"⟩, 51), List.mem_of_getElem? (i := 160) rfl, rfl⟩)) rfl⟩
theorem mk_X11_stoodSo : MK yX11_stoodSo cX11_stoodSo 6 (some .boolean) 3 := ⟨LW_t tb10 (k := 14) rfl rfl, LW_t tb1 (k := 11) rfl rfl, by decide, by decide, by decide +kernel⟩
theorem vk_X11_stoodSo : VK yX11_stoodSo := ⟨LW_t tb10 (k := 13) rfl rfl, LW_mem (List.mem_append_left _ (List.mem_map.mpr ⟨(⟨"LastWordModel", "stoodSo", "(III)Z"⟩, 51), List.mem_of_getElem? (i := 159) rfl, rfl⟩)) rfl⟩
theorem mk_X11_told : MK yX11_told cX11_told 10 (some .int) 3 := ⟨LW_t tb10 (k := 10) rfl rfl, LW_t tb1 (k := 11) rfl rfl, by decide, by decide, by decide +kernel⟩
theorem vk_X11_told : VK yX11_told := ⟨LW_t tb10 (k := 8) rfl rfl, LW_t tb10 (k := 9) rfl rfl⟩
theorem mk_X11_bestRule : MK yX11_bestRule cX11_bestRule 7 (some .int) 1 := ⟨LW_t tb10 (k := 22) rfl rfl, LW_t tb1 (k := 11) rfl rfl, by decide, by decide, by decide +kernel⟩
theorem vk_X11_bestRule : VK yX11_bestRule := ⟨LW_t tb10 (k := 20) rfl rfl, LW_t tb10 (k := 21) rfl rfl⟩
theorem mk_X11_canBring : MK yX11_canBring cX11_canBring 4 (some .boolean) 1 := ⟨LW_t tb10 (k := 30) rfl rfl, LW_t tb1 (k := 11) rfl rfl, by decide, by decide, by decide +kernel⟩
theorem vk_X11_canBring : VK yX11_canBring := ⟨LW_t tb10 (k := 29) rfl rfl, LW_mem (List.mem_append_left _ (List.mem_map.mpr ⟨(⟨"LastWordModel", "canBring", "(I)Z"⟩, 51), List.mem_of_getElem? (i := 161) rfl, rfl⟩)) rfl⟩
theorem mk_X11_rowsOf : MK yX11_rowsOf cX11_rowsOf 4 (some .int) 1 := ⟨LW_t tb10 (k := 38) rfl rfl, LW_t tb1 (k := 11) rfl rfl, by decide, by decide, by decide +kernel⟩
theorem vk_X11_rowsOf : VK yX11_rowsOf := ⟨LW_t tb10 (k := 37) rfl rfl, LW_mem (List.mem_append_left _ (List.mem_map.mpr ⟨(⟨"LastWordModel", "rowsOf", "(I)I"⟩, 51), List.mem_of_getElem? (i := 163) rfl, rfl⟩)) rfl⟩
theorem mk_X11_asksRow : MK yX11_asksRow cX11_asksRow 5 none 2 := ⟨LW_t tb10 (k := 46) rfl rfl, LW_t tb1 (k := 11) rfl rfl, by decide, by decide, by decide +kernel⟩
theorem vk_X11_asksRow : VK yX11_asksRow := ⟨LW_t tb10 (k := 45) rfl rfl, LW_mem (List.mem_append_left _ (List.mem_map.mpr ⟨(⟨"LastWordModel", "asksRow", "(II)V"⟩, 51), List.mem_of_getElem? (i := 165) rfl, rfl⟩)) rfl⟩
theorem mk_X11_keepsAsked : MK yX11_keepsAsked cX11_keepsAsked 3 none 1 := ⟨LW_t tb10 (k := 34) rfl rfl, LW_t tb1 (k := 11) rfl rfl, by decide, by decide, by decide +kernel⟩
theorem vk_X11_keepsAsked : VK yX11_keepsAsked := ⟨LW_t tb10 (k := 33) rfl rfl, LW_mem (List.mem_append_left _ (List.mem_map.mpr ⟨(⟨"LastWordModel", "keepsAsked", "(Z)V"⟩, 51), List.mem_of_getElem? (i := 162) rfl, rfl⟩)) rfl⟩
theorem mk_X11_endBy : MK yX11_endBy cX11_endBy 6 (some .int) 2 := ⟨LW_t tb10 (k := 42) rfl rfl, LW_t tb1 (k := 11) rfl rfl, by decide, by decide, by decide +kernel⟩
theorem vk_X11_endBy : VK yX11_endBy := ⟨LW_t tb10 (k := 41) rfl rfl, LW_mem (List.mem_append_left _ (List.mem_map.mpr ⟨(⟨"LastWordModel", "endBy", "(II)I"⟩, 51), List.mem_of_getElem? (i := 164) rfl, rfl⟩)) rfl⟩
theorem mk_X11_brought : MK yX11_brought cX11_brought 5 (some .int) 1 := ⟨LW_t tb10 (k := 26) rfl rfl, LW_t tb1 (k := 11) rfl rfl, by decide, by decide, by decide +kernel⟩
theorem vk_X11_brought : VK yX11_brought := ⟨LW_t tb10 (k := 24) rfl rfl, LW_t tb10 (k := 25) rfl rfl⟩
theorem mk_X11_rowFor : MK yX11_rowFor cX11_rowFor 5 (some .int) 2 := ⟨LW_t tb10 (k := 50) rfl rfl, LW_t tb1 (k := 11) rfl rfl, by decide, by decide, by decide +kernel⟩
theorem vk_X11_rowFor : VK yX11_rowFor := ⟨LW_t tb10 (k := 48) rfl rfl, LW_t tb10 (k := 49) rfl rfl⟩
theorem mk_X11_bestRow : MK yX11_bestRow cX11_bestRow 9 (some .int) 2 := ⟨LW_t tb10 (k := 54) rfl rfl, LW_t tb1 (k := 11) rfl rfl, by decide, by decide, by decide +kernel⟩
theorem vk_X11_bestRow : VK yX11_bestRow := ⟨LW_t tb10 (k := 52) rfl rfl, LW_t tb10 (k := 53) rfl rfl⟩
theorem mk_X11_row : MK yX11_row cX11_row 4 (some .int) 3 := ⟨LW_t tb10 (k := 58) rfl rfl, LW_t tb1 (k := 11) rfl rfl, by decide, by decide, by decide +kernel⟩
theorem vk_X11_row : VK yX11_row := ⟨LW_t tb10 (k := 56) rfl rfl, LW_t tb10 (k := 57) rfl rfl⟩
theorem mk_X11_clear : MK yX11_clear cX11_clear 1 (some .boolean) 0 := ⟨LW_t tb10 (k := 62) rfl rfl, LW_t tb1 (k := 11) rfl rfl, by decide, by decide, by decide +kernel⟩
theorem vk_X11_clear : VK yX11_clear := ⟨LW_t tb10 (k := 60) rfl rfl, LW_t tb10 (k := 61) rfl rfl⟩
theorem mk_X11_whyNot : MK yX11_whyNot cX11_whyNot 6 (some .int) 2 := ⟨LW_t tb10 (k := 74) rfl rfl, LW_t tb1 (k := 11) rfl rfl, by decide, by decide, by decide +kernel⟩
theorem vk_X11_whyNot : VK yX11_whyNot := ⟨LW_t tb10 (k := 73) rfl rfl, LW_mem (List.mem_append_left _ (List.mem_map.mpr ⟨(⟨"LastWordModel", "whyNot", "(II)I"⟩, 51), List.mem_of_getElem? (i := 167) rfl, rfl⟩)) rfl⟩
theorem mk_X11_doneBy : MK yX11_doneBy cX11_doneBy 3 (some .int) 2 := ⟨LW_t tb10 (k := 78) rfl rfl, LW_t tb1 (k := 11) rfl rfl, by decide, by decide, by decide +kernel⟩
theorem vk_X11_doneBy : VK yX11_doneBy := ⟨LW_t tb10 (k := 77) rfl rfl, LW_mem (List.mem_append_left _ (List.mem_map.mpr ⟨(⟨"LastWordModel", "doneBy", "(II)I"⟩, 51), List.mem_of_getElem? (i := 168) rfl, rfl⟩)) rfl⟩
theorem mk_X11_judges : MK yX11_judges cX11_judges 5 none 0 := ⟨LW_t tb10 (k := 70) rfl rfl, LW_t tb1 (k := 11) rfl rfl, by decide, by decide, by decide +kernel⟩
theorem vk_X11_judges : VK yX11_judges := ⟨LW_t tb10 (k := 69) rfl rfl, LW_mem (List.mem_append_left _ (List.mem_map.mpr ⟨(⟨"LastWordModel", "judges", "()V"⟩, 51), List.mem_of_getElem? (i := 166) rfl, rfl⟩)) rfl⟩
theorem mk_X11_judged : MK yX11_judged cX11_judged 2 (some .long) 1 := ⟨LW_t tb10 (k := 66) rfl rfl, LW_t tb1 (k := 11) rfl rfl, by decide, by decide, by decide +kernel⟩
theorem vk_X11_judged : VK yX11_judged := ⟨LW_t tb10 (k := 64) rfl rfl, LW_t tb10 (k := 65) rfl rfl⟩
theorem mk_X11_stoodAhead : MK yX11_stoodAhead cX11_stoodAhead 2 (some .int) 1 := ⟨LW_t tb10 (k := 87) rfl rfl, LW_t tb1 (k := 11) rfl rfl, by decide, by decide, by decide +kernel⟩
theorem vk_X11_stoodAhead : VK yX11_stoodAhead := ⟨LW_t tb10 (k := 86) rfl rfl, LW_mem (List.mem_append_left _ (List.mem_map.mpr ⟨(⟨"LastWordModel", "stoodAhead", "(I)I"⟩, 51), List.mem_of_getElem? (i := 169) rfl, rfl⟩)) rfl⟩
theorem mk_X11_worthsWithout : MK yX11_worthsWithout cX11_worthsWithout 8 (some .int) 1 := ⟨LW_t tb10 (k := 91) rfl rfl, LW_t tb1 (k := 11) rfl rfl, by decide, by decide, by decide +kernel⟩
theorem vk_X11_worthsWithout : VK yX11_worthsWithout := ⟨LW_t tb10 (k := 90) rfl rfl, LW_mem (List.mem_append_left _ (List.mem_map.mpr ⟨(⟨"LastWordModel", "worthsWithout", "(I)I"⟩, 51), List.mem_of_getElem? (i := 170) rfl, rfl⟩)) rfl⟩
theorem mk_X11_rowFares : MK yX11_rowFares cX11_rowFares 5 (some .int) 2 := ⟨LW_t tb10 (k := 83) rfl rfl, LW_t tb1 (k := 11) rfl rfl, by decide, by decide, by decide +kernel⟩
theorem vk_X11_rowFares : VK yX11_rowFares := ⟨LW_t tb10 (k := 81) rfl rfl, LW_t tb10 (k := 82) rfl rfl⟩
theorem mk_X11_when : MK yX11_when cX11_when 10 (some .long) 2 := ⟨LW_t tb10 (k := 95) rfl rfl, LW_t tb1 (k := 11) rfl rfl, by decide, by decide, by decide +kernel⟩
theorem vk_X11_when : VK yX11_when := ⟨LW_t tb10 (k := 93) rfl rfl, LW_t tb10 (k := 94) rfl rfl⟩
theorem mk_X11_mark : MK yX11_mark cX11_mark 4 (some .boolean) 2 := ⟨LW_t tb10 (k := 99) rfl rfl, LW_t tb1 (k := 11) rfl rfl, by decide, by decide, by decide +kernel⟩
theorem vk_X11_mark : VK yX11_mark := ⟨LW_t tb10 (k := 97) rfl rfl, LW_t tb10 (k := 98) rfl rfl⟩
theorem mk_X11_count : MK yX11_count cX11_count 4 (some .int) 1 := ⟨LW_t tb10 (k := 103) rfl rfl, LW_t tb1 (k := 11) rfl rfl, by decide, by decide, by decide +kernel⟩
theorem vk_X11_count : VK yX11_count := ⟨LW_t tb10 (k := 101) rfl rfl, LW_t tb10 (k := 102) rfl rfl⟩
theorem mk_J11_isValidCodePoint_9a6ad : MK yJ11_isValidCodePoint_9a6ad cJ11_isValidCodePoint_9a6ad 2 (some .boolean) 1 := ⟨LW_t tb3 (k := 126) rfl rfl, LW_t tb1 (k := 17) rfl rfl, by decide, by decide, by decide +kernel⟩
theorem sk_J11_isValidCodePoint_9a6ad : Cond.static yJ11_isValidCodePoint_9a6ad ∈ LW := LW_t tb3 (k := 125) rfl rfl
theorem mk_J11_highSurrogate_5068e : MK yJ11_highSurrogate_5068e cJ11_highSurrogate_5068e 1 (some .char) 1 := ⟨LW_t tb3 (k := 129) rfl rfl, LW_t tb1 (k := 17) rfl rfl, by decide, by decide, by decide +kernel⟩
theorem sk_J11_highSurrogate_5068e : Cond.static yJ11_highSurrogate_5068e ∈ LW := LW_t tb3 (k := 128) rfl rfl
theorem mk_J11_lowSurrogate_5068e : MK yJ11_lowSurrogate_5068e cJ11_lowSurrogate_5068e 1 (some .char) 1 := ⟨LW_t tb3 (k := 133) rfl rfl, LW_t tb1 (k := 17) rfl rfl, by decide, by decide, by decide +kernel⟩
theorem sk_J11_lowSurrogate_5068e : Cond.static yJ11_lowSurrogate_5068e ∈ LW := LW_t tb3 (k := 132) rfl rfl
theorem mk_J9_abs_067f4 : MK yJ9_abs_067f4 cJ9_abs_067f4 2 (some .long) 1 := ⟨LW_t tb6 (k := 10) rfl rfl, LW_t tb1 (k := 12) rfl rfl, by decide, by decide, by decide +kernel⟩
theorem sk_J9_abs_067f4 : Cond.static yJ9_abs_067f4 ∈ LW := LW_t tb6 (k := 9) rfl rfl
theorem mk_J9_max_7cf53 : MK yJ9_max_7cf53 cJ9_max_7cf53 2 (some .int) 2 := ⟨LW_t tb3 (k := 95) rfl rfl, LW_t tb1 (k := 12) rfl rfl, by decide, by decide, by decide +kernel⟩
theorem sk_J9_max_7cf53 : Cond.static yJ9_max_7cf53 ∈ LW := LW_t tb3 (k := 94) rfl rfl
theorem mk_J9_min_7cf53 : MK yJ9_min_7cf53 cJ9_min_7cf53 2 (some .int) 2 := ⟨LW_t tb2 (k := 232) rfl rfl, LW_t tb1 (k := 12) rfl rfl, by decide, by decide, by decide +kernel⟩
theorem sk_J9_min_7cf53 : Cond.static yJ9_min_7cf53 ∈ LW := LW_t tb2 (k := 231) rfl rfl
theorem mk_J0_length_8abf5 : MK yJ0_length_8abf5 cJ0_length_8abf5 1 (some .int) 0 := ⟨LW_t tb3 (k := 16) rfl rfl, LW_t tb1 (k := 13) rfl rfl, by decide, by decide, by decide +kernel⟩
theorem vk_J0_length_8abf5 : VK yJ0_length_8abf5 := ⟨LW_t tb3 (k := 14) rfl rfl, LW_t tb3 (k := 15) rfl rfl⟩
theorem mk_J0_charAt_5068e : MK yJ0_charAt_5068e cJ0_charAt_5068e 2 (some .char) 1 := ⟨LW_t tb3 (k := 26) rfl rfl, LW_t tb1 (k := 13) rfl rfl, by decide, by decide, by decide +kernel⟩
theorem vk_J0_charAt_5068e : VK yJ0_charAt_5068e := ⟨LW_t tb3 (k := 24) rfl rfl, LW_t tb3 (k := 25) rfl rfl⟩
theorem mk_J0_indexOf_0f7a4 : MK yJ0_indexOf_0f7a4 cJ0_indexOf_0f7a4 2 (some .int) 1 := ⟨LW_t tb3 (k := 81) rfl rfl, LW_t tb1 (k := 13) rfl rfl, by decide, by decide, by decide +kernel⟩
theorem vk_J0_indexOf_0f7a4 : VK yJ0_indexOf_0f7a4 := ⟨LW_t tb3 (k := 79) rfl rfl, LW_t tb3 (k := 80) rfl rfl⟩
theorem mk_J0_indexOf_7cf53 : MK yJ0_indexOf_7cf53 cJ0_indexOf_7cf53 3 (some .int) 2 := ⟨LW_t tb3 (k := 85) rfl rfl, LW_t tb1 (k := 13) rfl rfl, by decide, by decide, by decide +kernel⟩
theorem vk_J0_indexOf_7cf53 : VK yJ0_indexOf_7cf53 := ⟨LW_t tb3 (k := 83) rfl rfl, LW_t tb3 (k := 84) rfl rfl⟩
theorem mk_J0_coder_7d493 : MK yJ0_coder_7d493 cJ0_coder_7d493 1 (some .byte) 0 := ⟨LW_t tb3 (k := 20) rfl rfl, LW_t tb1 (k := 13) rfl rfl, by decide, by decide, by decide +kernel⟩
theorem vk_J0_coder_7d493 : VK yJ0_coder_7d493 := ⟨LW_t tb3 (k := 18) rfl rfl, LW_t tb3 (k := 19) rfl rfl⟩
theorem mk_J0_isLatin1_aae02 : MK yJ0_isLatin1_aae02 cJ0_isLatin1_aae02 1 (some .boolean) 0 := ⟨LW_t tb3 (k := 30) rfl rfl, LW_t tb1 (k := 13) rfl rfl, by decide, by decide, by decide +kernel⟩
theorem vk_J0_isLatin1_aae02 : VK yJ0_isLatin1_aae02 := ⟨LW_t tb3 (k := 28) rfl rfl, LW_t tb3 (k := 29) rfl rfl⟩
theorem mk_J0_checkIndex_df160 : MK yJ0_checkIndex_df160 cJ0_checkIndex_df160 2 none 2 := ⟨LW_t tb3 (k := 36) rfl rfl, LW_t tb1 (k := 13) rfl rfl, by decide, by decide, by decide +kernel⟩
theorem sk_J0_checkIndex_df160 : Cond.static yJ0_checkIndex_df160 ∈ LW := LW_t tb3 (k := 35) rfl rfl
theorem mk_J0_checkBoundsBeginEnd_23922 : MK yJ0_checkBoundsBeginEnd_23922 cJ0_checkBoundsBeginEnd_23922 3 none 3 := ⟨LW_t tb3 (k := 114) rfl rfl, LW_t tb1 (k := 13) rfl rfl, by decide, by decide, by decide +kernel⟩
theorem sk_J0_checkBoundsBeginEnd_23922 : Cond.static yJ0_checkBoundsBeginEnd_23922 ∈ LW := LW_t tb3 (k := 113) rfl rfl
theorem mk_J1_charAt_3b067 : MK yJ1_charAt_3b067 cJ1_charAt_3b067 2 (some .char) 2 := ⟨LW_t tb3 (k := 33) rfl rfl, LW_t tb1 (k := 14) rfl rfl, by decide, by decide, by decide +kernel⟩
theorem sk_J1_charAt_3b067 : Cond.static yJ1_charAt_3b067 ∈ LW := LW_t tb3 (k := 32) rfl rfl
theorem mk_J1_canEncode_9a6ad : MK yJ1_canEncode_9a6ad cJ1_canEncode_9a6ad 1 (some .boolean) 1 := ⟨LW_t tb3 (k := 92) rfl rfl, LW_t tb1 (k := 14) rfl rfl, by decide, by decide, by decide +kernel⟩
theorem sk_J1_canEncode_9a6ad : Cond.static yJ1_canEncode_9a6ad ∈ LW := LW_t tb3 (k := 91) rfl rfl
theorem mk_J1_indexOf_4cfef : MK yJ1_indexOf_4cfef cJ1_indexOf_4cfef 4 (some .int) 4 := ⟨LW_t tb3 (k := 89) rfl rfl, LW_t tb1 (k := 14) rfl rfl, by decide, by decide, by decide +kernel⟩
theorem sk_J1_indexOf_4cfef : Cond.static yJ1_indexOf_4cfef ∈ LW := LW_t tb3 (k := 88) rfl rfl
theorem mk_J1_indexOfChar_4cfef : MK yJ1_indexOfChar_4cfef cJ1_indexOfChar_4cfef 6 (some .int) 4 := ⟨LW_t tb3 (k := 99) rfl rfl, LW_t tb1 (k := 14) rfl rfl, by decide, by decide, by decide +kernel⟩
theorem sk_J1_indexOfChar_4cfef : Cond.static yJ1_indexOfChar_4cfef ∈ LW := LW_t tb3 (k := 98) rfl rfl
theorem mk_J2_getChar_3b067 : MK yJ2_getChar_3b067 cJ2_getChar_3b067 2 (some .char) 2 := ⟨LW_t tb3 (k := 54) rfl rfl, LW_t tb1 (k := 16) rfl rfl, by decide, by decide, by decide +kernel⟩
theorem sk_J2_getChar_3b067 : Cond.static yJ2_getChar_3b067 ∈ LW := LW_t tb3 (k := 53) rfl rfl
theorem mk_J2_length_9d52b : MK yJ2_length_9d52b cJ2_length_9d52b 1 (some .int) 1 := ⟨LW_t tb3 (k := 50) rfl rfl, LW_t tb1 (k := 16) rfl rfl, by decide, by decide, by decide +kernel⟩
theorem sk_J2_length_9d52b : Cond.static yJ2_length_9d52b ∈ LW := LW_t tb3 (k := 49) rfl rfl
theorem mk_J2_indexOf_4cfef : MK yJ2_indexOf_4cfef cJ2_indexOf_4cfef 4 (some .int) 4 := ⟨LW_t tb3 (k := 102) rfl rfl, LW_t tb1 (k := 16) rfl rfl, by decide, by decide, by decide +kernel⟩
theorem sk_J2_indexOf_4cfef : Cond.static yJ2_indexOf_4cfef ∈ LW := LW_t tb3 (k := 101) rfl rfl
theorem mk_J2_indexOfChar_4cfef : MK yJ2_indexOfChar_4cfef cJ2_indexOfChar_4cfef 4 (some .int) 4 := ⟨LW_t tb3 (k := 108) rfl rfl, LW_t tb1 (k := 16) rfl rfl, by decide, by decide, by decide +kernel⟩
theorem sk_J2_indexOfChar_4cfef : Cond.static yJ2_indexOfChar_4cfef ∈ LW := LW_t tb3 (k := 107) rfl rfl
theorem mk_J2_indexOfCharUnsafe_4cfef : MK yJ2_indexOfCharUnsafe_4cfef cJ2_indexOfCharUnsafe_4cfef 5 (some .int) 4 := ⟨LW_t tb3 (k := 120) rfl rfl, LW_t tb1 (k := 16) rfl rfl, by decide, by decide, by decide +kernel⟩
theorem sk_J2_indexOfCharUnsafe_4cfef : Cond.static yJ2_indexOfCharUnsafe_4cfef ∈ LW := LW_t tb3 (k := 119) rfl rfl
theorem mk_J2_indexOfSupplementary_4cfef : MK yJ2_indexOfSupplementary_4cfef cJ2_indexOfSupplementary_4cfef 7 (some .int) 4 := ⟨LW_t tb3 (k := 123) rfl rfl, LW_t tb1 (k := 16) rfl rfl, by decide, by decide, by decide +kernel⟩
theorem sk_J2_indexOfSupplementary_4cfef : Cond.static yJ2_indexOfSupplementary_4cfef ∈ LW := LW_t tb3 (k := 122) rfl rfl
theorem mk_J2_charAt_3b067 : MK yJ2_charAt_3b067 cJ2_charAt_3b067 2 (some .char) 2 := ⟨LW_t tb3 (k := 44) rfl rfl, LW_t tb1 (k := 16) rfl rfl, by decide, by decide, by decide +kernel⟩
theorem sk_J2_charAt_3b067 : Cond.static yJ2_charAt_3b067 ∈ LW := LW_t tb3 (k := 43) rfl rfl
theorem mk_J2_checkIndex_2214a : MK yJ2_checkIndex_2214a cJ2_checkIndex_2214a 2 none 2 := ⟨LW_t tb3 (k := 47) rfl rfl, LW_t tb1 (k := 16) rfl rfl, by decide, by decide, by decide +kernel⟩
theorem sk_J2_checkIndex_2214a : Cond.static yJ2_checkIndex_2214a ∈ LW := LW_t tb3 (k := 46) rfl rfl
theorem mk_J2_checkBoundsBeginEnd_d044e : MK yJ2_checkBoundsBeginEnd_d044e cJ2_checkBoundsBeginEnd_d044e 3 none 3 := ⟨LW_t tb3 (k := 111) rfl rfl, LW_t tb1 (k := 16) rfl rfl, by decide, by decide, by decide +kernel⟩
theorem sk_J2_checkBoundsBeginEnd_d044e : Cond.static yJ2_checkBoundsBeginEnd_d044e ∈ LW := LW_t tb3 (k := 110) rfl rfl
theorem mk_J7_fill_d0a16 : MK yJ7_fill_d0a16 cJ7_fill_d0a16 5 none 2 := ⟨LW_t tb4 (k := 169) rfl rfl, LW_t tb1 (k := 4) rfl rfl, by decide, by decide, by decide +kernel⟩
theorem sk_J7_fill_d0a16 : Cond.static yJ7_fill_d0a16 ∈ LW := LW_t tb4 (k := 168) rfl rfl
theorem mk_J7_fill_53178 : MK yJ7_fill_53178 cJ7_fill_53178 4 none 2 := ⟨LW_t tb1 (k := 49) rfl rfl, LW_t tb1 (k := 4) rfl rfl, by decide, by decide, by decide +kernel⟩
theorem sk_J7_fill_53178 : Cond.static yJ7_fill_53178 ∈ LW := LW_t tb1 (k := 48) rfl rfl
theorem mk_J7_copyOf_59c91 : MK yJ7_copyOf_59c91 cJ7_copyOf_59c91 3 (some (.array .int)) 2 := ⟨LW_t tb3 (k := 215) rfl rfl, LW_t tb1 (k := 4) rfl rfl, by decide, by decide, by decide +kernel⟩
theorem sk_J7_copyOf_59c91 : Cond.static yJ7_copyOf_59c91 ∈ LW := LW_t tb3 (k := 214) rfl rfl
theorem mk_J3_checkIndex_8e157 : MK yJ3_checkIndex_8e157 cJ3_checkIndex_8e157 3 (some .int) 3 := ⟨LW_t tb3 (k := 41) rfl rfl, LW_t tb1 (k := 15) rfl rfl, by decide, by decide, by decide +kernel⟩
theorem sk_J3_checkIndex_8e157 : Cond.static yJ3_checkIndex_8e157 ∈ LW := LW_t tb3 (k := 40) rfl rfl
theorem mk_J3_checkFromToIndex_8c36e : MK yJ3_checkFromToIndex_8c36e cJ3_checkFromToIndex_8c36e 4 (some .int) 4 := ⟨LW_t tb3 (k := 117) rfl rfl, LW_t tb1 (k := 15) rfl rfl, by decide, by decide, by decide +kernel⟩
theorem sk_J3_checkFromToIndex_8c36e : Cond.static yJ3_checkFromToIndex_8c36e ∈ LW := LW_t tb3 (k := 116) rfl rfl
theorem kk_L_8 : Cond.classLink RL 8 "LastWord" ∈ LW := LW_t tb1 (k := 25) rfl rfl
theorem ml_L_75 : Cond.methodLink RL 75 yX10_init ∈ LW := LW_t tb1 (k := 27) rfl rfl
theorem kk_X10_17 : Cond.classLink RX10 17 "LastWord$Reader" ∈ LW := LW_t tb1 (k := 33) rfl rfl
theorem ml_X10_19 : Cond.methodLink RX10 19 yX6_init ∈ LW := LW_t tb1 (k := 35) rfl rfl
theorem kk_X6_23 : Cond.classLink RX6 23 "LastWord$Village" ∈ LW := LW_t tb1 (k := 39) rfl rfl
theorem ml_X6_25 : Cond.methodLink RX6 25 yX9_init ∈ LW := LW_t tb1 (k := 41) rfl rfl
theorem kk_X9_35 : Cond.classLink RX9 35 "LastWord$Formula" ∈ LW := LW_t tb1 (k := 45) rfl rfl
theorem ml_X9_68 : Cond.methodLink RX9 68 yJ7_fill_53178 ∈ LW := LW_t tb1 (k := 47) rfl rfl
theorem kk_X6_15 : Cond.classLink RX6 15 "LastWord$Tokens" ∈ LW := LW_t tb1 (k := 147) rfl rfl
theorem ml_X6_58 : Cond.methodLink RX6 58 yX7_init ∈ LW := LW_t tb1 (k := 149) rfl rfl
theorem kk_X10_26 : Cond.classLink RX10 26 "LastWord$Told" ∈ LW := LW_t tb1 (k := 217) rfl rfl
theorem kk_X10_28 : Cond.classLink RX10 28 "LastWord$Village" ∈ LW := LW_t tb1 (k := 219) rfl rfl
theorem ml_X10_30 : Cond.methodLink RX10 30 yX9_init ∈ LW := LW_t tb1 (k := 220) rfl rfl
theorem ml_X10_31 : Cond.methodLink RX10 31 yX8_init ∈ LW := LW_t tb1 (k := 221) rfl rfl
theorem ml_X8_55 : Cond.methodLink RX8 55 yJ7_fill_53178 ∈ LW := LW_t tb1 (k := 225) rfl rfl
theorem kk_X10_42 : Cond.classLink RX10 42 "LastWord$Plan" ∈ LW := LW_t tb2 (k := 52) rfl rfl
theorem ml_X10_44 : Cond.methodLink RX10 44 yX4_init ∈ LW := LW_t tb2 (k := 54) rfl rfl
theorem kk_X10_51 : Cond.classLink RX10 51 "LastWord$Odds" ∈ LW := LW_t tb2 (k := 80) rfl rfl
theorem ml_X10_53 : Cond.methodLink RX10 53 yX3_init ∈ LW := LW_t tb2 (k := 82) rfl rfl
theorem kk_X10_60 : Cond.classLink RX10 60 "LastWord$Century" ∈ LW := LW_t tb2 (k := 102) rfl rfl
theorem ml_X10_62 : Cond.methodLink RX10 62 yX0_init ∈ LW := LW_t tb2 (k := 104) rfl rfl
theorem kk_X10_67 : Cond.classLink RX10 67 "LastWord$Judge" ∈ LW := LW_t tb2 (k := 141) rfl rfl
theorem ml_X10_69 : Cond.methodLink RX10 69 yX2_init ∈ LW := LW_t tb2 (k := 143) rfl rfl
theorem ml_X10_85 : Cond.methodLink RX10 85 yX4_forgetAll ∈ LW := LW_t tb2 (k := 168) rfl rfl
theorem ml_L_81 : Cond.methodLink RL 81 yX10_feed ∈ LW := LW_t tb2 (k := 206) rfl rfl
theorem ml_X10_88 : Cond.methodLink RX10 88 yX10_takeSigns ∈ LW := LW_t tb2 (k := 210) rfl rfl
theorem ml_L_86 : Cond.methodLink RL 86 yX10_village ∈ LW := LW_t tb2 (k := 214) rfl rfl
theorem ml_X10_92 : Cond.methodLink RX10 92 yX6_readInto ∈ LW := LW_t tb2 (k := 218) rfl rfl
theorem ml_X6_65 : Cond.methodLink RX6 65 yX6_begin ∈ LW := LW_t tb2 (k := 222) rfl rfl
theorem ml_X6_69 : Cond.methodLink RX6 69 yX7_split ∈ LW := LW_t tb2 (k := 226) rfl rfl
theorem ml_X7_33 : Cond.methodLink RX7 33 yJ9_min_7cf53 ∈ LW := LW_t tb2 (k := 230) rfl rfl
theorem ml_X7_39 : Cond.methodLink RX7 39 yX7_isBlank ∈ LW := LW_t tb2 (k := 233) rfl rfl
theorem ml_X7_43 : Cond.methodLink RX7 43 yX7_readToken ∈ LW := LW_t tb2 (k := 236) rfl rfl
theorem ml_X7_51 : Cond.methodLink RX7 51 yX7_isLetter ∈ LW := LW_t tb3 (k := 0) rfl rfl
theorem ml_X7_54 : Cond.methodLink RX7 54 yX7_readWord ∈ LW := LW_t tb3 (k := 3) rfl rfl
theorem kl_X7_70 : Cond.constantLong RX7 70 (32) ∈ LW := LW_t tb3 (k := 7) rfl rfl
theorem ml_X7_72 : Cond.methodLink RX7 72 yX7_keyword ∈ LW := LW_t tb3 (k := 8) rfl rfl
theorem ml_X7_79 : Cond.methodLink RX7 79 yJ0_length_8abf5 ∈ LW := LW_t tb3 (k := 13) rfl rfl
theorem ml_J0_335 : Cond.methodLink RJ0 335 yJ0_coder_7d493 ∈ LW := LW_t tb3 (k := 17) rfl rfl
theorem ml_X7_82 : Cond.methodLink RX7 82 yJ0_charAt_5068e ∈ LW := LW_t tb3 (k := 23) rfl rfl
theorem ml_J0_492 : Cond.methodLink RJ0 492 yJ0_isLatin1_aae02 ∈ LW := LW_t tb3 (k := 27) rfl rfl
theorem ml_J0_495 : Cond.methodLink RJ0 495 yJ1_charAt_3b067 ∈ LW := LW_t tb3 (k := 31) rfl rfl
theorem ml_J1_9 : Cond.methodLink RJ1 9 yJ0_checkIndex_df160 ∈ LW := LW_t tb3 (k := 34) rfl rfl
theorem ml_J0_1059 : Cond.methodLink RJ0 1059 yJ3_checkIndex_8e157 ∈ LW := LW_t tb3 (k := 39) rfl rfl
theorem ml_J0_498 : Cond.methodLink RJ0 498 yJ2_charAt_3b067 ∈ LW := LW_t tb3 (k := 42) rfl rfl
theorem ml_J2_67 : Cond.methodLink RJ2 67 yJ2_checkIndex_2214a ∈ LW := LW_t tb3 (k := 45) rfl rfl
theorem ml_J2_48 : Cond.methodLink RJ2 48 yJ2_length_9d52b ∈ LW := LW_t tb3 (k := 48) rfl rfl
theorem ml_J2_414 : Cond.methodLink RJ2 414 yJ0_checkIndex_df160 ∈ LW := LW_t tb3 (k := 51) rfl rfl
theorem ml_J2_71 : Cond.methodLink RJ2 71 yJ2_getChar_3b067 ∈ LW := LW_t tb3 (k := 52) rfl rfl
theorem ml_X7_86 : Cond.methodLink RX7 86 yX7_isKeyword ∈ LW := LW_t tb3 (k := 61) rfl rfl
theorem ml_X7_47 : Cond.methodLink RX7 47 yX7_add ∈ LW := LW_t tb3 (k := 65) rfl rfl
theorem ml_X7_57 : Cond.methodLink RX7 57 yX7_isDigit ∈ LW := LW_t tb3 (k := 69) rfl rfl
theorem ml_X7_60 : Cond.methodLink RX7 60 yX7_readNumber ∈ LW := LW_t tb3 (k := 72) rfl rfl
theorem kl_X7_75 : Cond.constantLong RX7 75 (10) ∈ LW := LW_t tb3 (k := 76) rfl rfl
theorem ml_X7_65 : Cond.methodLink RX7 65 yJ0_indexOf_0f7a4 ∈ LW := LW_t tb3 (k := 78) rfl rfl
theorem ml_J0_633 : Cond.methodLink RJ0 633 yJ0_indexOf_7cf53 ∈ LW := LW_t tb3 (k := 82) rfl rfl
theorem ml_J0_505 : Cond.methodLink RJ0 505 yJ0_length_8abf5 ∈ LW := LW_t tb3 (k := 86) rfl rfl
theorem ml_J0_637 : Cond.methodLink RJ0 637 yJ1_indexOf_4cfef ∈ LW := LW_t tb3 (k := 87) rfl rfl
theorem ml_J1_88 : Cond.methodLink RJ1 88 yJ1_canEncode_9a6ad ∈ LW := LW_t tb3 (k := 90) rfl rfl
theorem ml_J1_92 : Cond.methodLink RJ1 92 yJ9_max_7cf53 ∈ LW := LW_t tb3 (k := 93) rfl rfl
theorem ml_J1_38 : Cond.methodLink RJ1 38 yJ9_min_7cf53 ∈ LW := LW_t tb3 (k := 96) rfl rfl
theorem ml_J1_95 : Cond.methodLink RJ1 95 yJ1_indexOfChar_4cfef ∈ LW := LW_t tb3 (k := 97) rfl rfl
theorem ml_J0_640 : Cond.methodLink RJ0 640 yJ2_indexOf_4cfef ∈ LW := LW_t tb3 (k := 100) rfl rfl
theorem ml_J2_224 : Cond.methodLink RJ2 224 yJ9_max_7cf53 ∈ LW := LW_t tb3 (k := 103) rfl rfl
theorem ml_J2_183 : Cond.methodLink RJ2 183 yJ9_min_7cf53 ∈ LW := LW_t tb3 (k := 104) rfl rfl
theorem ki_J2_227 : Cond.constant RJ2 227 (65536) ∈ LW := LW_t tb3 (k := 105) rfl rfl
theorem ml_J2_228 : Cond.methodLink RJ2 228 yJ2_indexOfChar_4cfef ∈ LW := LW_t tb3 (k := 106) rfl rfl
theorem ml_J2_96 : Cond.methodLink RJ2 96 yJ2_checkBoundsBeginEnd_d044e ∈ LW := LW_t tb3 (k := 109) rfl rfl
theorem ml_J2_241 : Cond.methodLink RJ2 241 yJ0_checkBoundsBeginEnd_23922 ∈ LW := LW_t tb3 (k := 112) rfl rfl
theorem ml_J0_1062 : Cond.methodLink RJ0 1062 yJ3_checkFromToIndex_8c36e ∈ LW := LW_t tb3 (k := 115) rfl rfl
theorem ml_J2_244 : Cond.methodLink RJ2 244 yJ2_indexOfCharUnsafe_4cfef ∈ LW := LW_t tb3 (k := 118) rfl rfl
theorem ml_J2_232 : Cond.methodLink RJ2 232 yJ2_indexOfSupplementary_4cfef ∈ LW := LW_t tb3 (k := 121) rfl rfl
theorem ml_J2_164 : Cond.methodLink RJ2 164 yJ11_isValidCodePoint_9a6ad ∈ LW := LW_t tb3 (k := 124) rfl rfl
theorem ml_J2_157 : Cond.methodLink RJ2 157 yJ11_highSurrogate_5068e ∈ LW := LW_t tb3 (k := 127) rfl rfl
theorem ki_J11_110 : Cond.constant RJ11 110 (55232) ∈ LW := LW_t tb3 (k := 130) rfl rfl
theorem ml_J2_161 : Cond.methodLink RJ2 161 yJ11_lowSurrogate_5068e ∈ LW := LW_t tb3 (k := 131) rfl rfl
theorem ki_J11_76 : Cond.constant RJ11 76 (56320) ∈ LW := LW_t tb3 (k := 134) rfl rfl
theorem ml_X6_79 : Cond.methodLink RX6 79 yX6_readSentence ∈ LW := LW_t tb3 (k := 135) rfl rfl
theorem ml_X6_106 : Cond.methodLink RX6 106 yX6_readThing ∈ LW := LW_t tb3 (k := 139) rfl rfl
theorem ml_X6_90 : Cond.methodLink RX6 90 yX6_refuse ∈ LW := LW_t tb3 (k := 143) rfl rfl
theorem ml_X6_130 : Cond.methodLink RX6 130 yX6_advance ∈ LW := LW_t tb3 (k := 147) rfl rfl
theorem ml_X6_133 : Cond.methodLink RX6 133 yX6_isNewName ∈ LW := LW_t tb3 (k := 151) rfl rfl
theorem ml_X6_177 : Cond.methodLink RX6 177 yX6_findName ∈ LW := LW_t tb3 (k := 155) rfl rfl
theorem ml_X6_136 : Cond.methodLink RX6 136 yX6_take ∈ LW := LW_t tb3 (k := 159) rfl rfl
theorem ml_X6_139 : Cond.methodLink RX6 139 yX6_isNumber ∈ LW := LW_t tb3 (k := 163) rfl rfl
theorem ml_X6_146 : Cond.methodLink RX6 146 yX6_number ∈ LW := LW_t tb3 (k := 167) rfl rfl
theorem ml_X6_109 : Cond.methodLink RX6 109 yX6_readSort ∈ LW := LW_t tb3 (k := 171) rfl rfl
theorem ml_X6_158 : Cond.methodLink RX6 158 yX6_readFormula ∈ LW := LW_t tb3 (k := 175) rfl rfl
theorem ml_X6_196 : Cond.methodLink RX6 196 yX6_readTests ∈ LW := LW_t tb3 (k := 179) rfl rfl
theorem ml_X6_199 : Cond.methodLink RX6 199 yX6_readTest ∈ LW := LW_t tb3 (k := 183) rfl rfl
theorem ml_X6_206 : Cond.methodLink RX6 206 yX6_readSum ∈ LW := LW_t tb3 (k := 187) rfl rfl
theorem ml_X6_209 : Cond.methodLink RX6 209 yX6_readProduct ∈ LW := LW_t tb3 (k := 191) rfl rfl
theorem ml_X6_212 : Cond.methodLink RX6 212 yX6_readPart ∈ LW := LW_t tb3 (k := 195) rfl rfl
theorem ml_X6_215 : Cond.methodLink RX6 215 yX6_beginsPart ∈ LW := LW_t tb3 (k := 199) rfl rfl
theorem ml_X6_202 : Cond.methodLink RX6 202 yX6_addStep ∈ LW := LW_t tb3 (k := 203) rfl rfl
theorem ml_X6_218 : Cond.methodLink RX6 218 yX6_addLeaf ∈ LW := LW_t tb3 (k := 207) rfl rfl
theorem kk_X6_166 : Cond.classLink RX6 166 "LastWord$Formula" ∈ LW := LW_t tb3 (k := 211) rfl rfl
theorem ml_X6_168 : Cond.methodLink RX6 168 yJ7_copyOf_59c91 ∈ LW := LW_t tb3 (k := 213) rfl rfl
theorem kk_J7_317 : Cond.classLink RJ7 317 "[I" ∈ LW := LW_t tb3 (k := 222) rfl rfl
theorem ml_J7_304 : Cond.methodLink RJ7 304 yJ9_min_7cf53 ∈ LW := LW_t tb3 (k := 223) rfl rfl
theorem ml_X6_174 : Cond.methodLink RX6 174 yX1_init ∈ LW := LW_t tb3 (k := 227) rfl rfl
theorem ml_X6_112 : Cond.methodLink RX6 112 yX6_readChance ∈ LW := LW_t tb3 (k := 236) rfl rfl
theorem ml_X6_115 : Cond.methodLink RX6 115 yX6_readSpring ∈ LW := LW_t tb4 (k := 0) rfl rfl
theorem ml_X6_118 : Cond.methodLink RX6 118 yX6_readBar ∈ LW := LW_t tb4 (k := 4) rfl rfl
theorem ml_X6_121 : Cond.methodLink RX6 121 yX6_readLife ∈ LW := LW_t tb4 (k := 8) rfl rfl
theorem ml_X6_124 : Cond.methodLink RX6 124 yX6_readSprings ∈ LW := LW_t tb4 (k := 12) rfl rfl
theorem ml_X6_86 : Cond.methodLink RX6 86 yX6_chances ∈ LW := LW_t tb4 (k := 16) rfl rfl
theorem ml_X6_94 : Cond.methodLink RX6 94 yX9_close ∈ LW := LW_t tb4 (k := 20) rfl rfl
theorem ml_X9_100 : Cond.methodLink RX9 100 yX9_canStand ∈ LW := LW_t tb4 (k := 24) rfl rfl
theorem ml_X9_77 : Cond.methodLink RX9 77 yX9_stateOf ∈ LW := LW_t tb4 (k := 28) rfl rfl
theorem ml_X9_103 : Cond.methodLink RX9 103 yX9_isBarred ∈ LW := LW_t tb4 (k := 33) rfl rfl
theorem ml_X9_85 : Cond.methodLink RX9 85 yX1_reckon ∈ LW := LW_t tb4 (k := 37) rfl rfl
theorem ml_X1_13 : Cond.methodLink RX1 13 yX1_join ∈ LW := LW_t tb4 (k := 41) rfl rfl
theorem ml_X1_17 : Cond.methodLink RX1 17 yX1_partOf ∈ LW := LW_t tb4 (k := 44) rfl rfl
theorem ml_X1_21 : Cond.methodLink RX1 21 yX9_stateOf ∈ LW := LW_t tb4 (k := 47) rfl rfl
theorem ml_X10_96 : Cond.methodLink RX10 96 yX8_beginWith ∈ LW := LW_t tb4 (k := 48) rfl rfl
theorem ml_L_91 : Cond.methodLink RL 91 yX10_thing ∈ LW := LW_t tb4 (k := 52) rfl rfl
theorem ml_X10_99 : Cond.methodLink RX10 99 yX9_hasThing ∈ LW := LW_t tb4 (k := 56) rfl rfl
theorem ml_L_105 : Cond.methodLink RL 105 yX10_may ∈ LW := LW_t tb4 (k := 60) rfl rfl
theorem ml_X10_133 : Cond.methodLink RX10 133 yX9_hasSpring ∈ LW := LW_t tb4 (k := 64) rfl rfl
theorem ml_X10_119 : Cond.methodLink RX10 119 yX9_canStand ∈ LW := LW_t tb4 (k := 68) rfl rfl
theorem ml_X10_136 : Cond.methodLink RX10 136 yX9_hasState ∈ LW := LW_t tb4 (k := 69) rfl rfl
theorem ml_X9_81 : Cond.methodLink RX9 81 yX9_hasThing ∈ LW := LW_t tb4 (k := 73) rfl rfl
theorem ml_X10_140 : Cond.methodLink RX10 140 yX8_allows ∈ LW := LW_t tb4 (k := 74) rfl rfl
theorem ml_X8_72 : Cond.methodLink RX8 72 yX9_stateOf ∈ LW := LW_t tb4 (k := 78) rfl rfl
theorem ml_L_109 : Cond.methodLink RL 109 yX10_chooses ∈ LW := LW_t tb4 (k := 80) rfl rfl
theorem ml_X10_144 : Cond.methodLink RX10 144 yX10_isScene ∈ LW := LW_t tb4 (k := 84) rfl rfl
theorem ml_X10_116 : Cond.methodLink RX10 116 yX9_hasSort ∈ LW := LW_t tb4 (k := 88) rfl rfl
theorem ml_X10_148 : Cond.methodLink RX10 148 yX4_solveFrom ∈ LW := LW_t tb4 (k := 92) rfl rfl
theorem ml_X4_56 : Cond.methodLink RX4 56 yX4_reckonWorths ∈ LW := LW_t tb4 (k := 96) rfl rfl
theorem ml_X4_70 : Cond.methodLink RX4 70 yX4_at ∈ LW := LW_t tb4 (k := 100) rfl rfl
theorem ml_X4_135 : Cond.methodLink RX4 135 yX9_worthOf ∈ LW := LW_t tb4 (k := 103) rfl rfl
theorem ml_X9_89 : Cond.methodLink RX9 89 yJ9_min_7cf53 ∈ LW := LW_t tb4 (k := 107) rfl rfl
theorem ml_X9_94 : Cond.methodLink RX9 94 yJ9_max_7cf53 ∈ LW := LW_t tb4 (k := 108) rfl rfl
theorem ml_X4_47 : Cond.methodLink RX4 47 yJ9_min_7cf53 ∈ LW := LW_t tb4 (k := 109) rfl rfl
theorem ml_X4_60 : Cond.methodLink RX4 60 yX4_sumUp ∈ LW := LW_t tb4 (k := 110) rfl rfl
theorem ml_X4_138 : Cond.methodLink RX4 138 yX4_likelyLater ∈ LW := LW_t tb4 (k := 114) rfl rfl
theorem ml_X4_142 : Cond.methodLink RX4 142 yX9_chanceOfNobody ∈ LW := LW_t tb4 (k := 118) rfl rfl
theorem ml_X4_146 : Cond.methodLink RX4 146 yX9_chanceIn ∈ LW := LW_t tb4 (k := 122) rfl rfl
theorem ml_X4_66 : Cond.methodLink RX4 66 yX4_choiceAt ∈ LW := LW_t tb4 (k := 126) rfl rfl
theorem kl_X4_149 : Cond.constantLong RX4 149 (6) ∈ LW := LW_t tb4 (k := 129) rfl rfl
theorem kl_X4_81 : Cond.constantLong RX4 81 (7776) ∈ LW := LW_t tb4 (k := 130) rfl rfl
theorem ml_X4_63 : Cond.methodLink RX4 63 yX4_choose ∈ LW := LW_t tb4 (k := 131) rfl rfl
theorem ml_X4_151 : Cond.methodLink RX4 151 yX8_isPledged ∈ LW := LW_t tb4 (k := 135) rfl rfl
theorem ml_X4_161 : Cond.methodLink RX4 161 yX8_standsIfDone ∈ LW := LW_t tb4 (k := 139) rfl rfl
theorem ml_X8_95 : Cond.methodLink RX8 95 yX8_allows ∈ LW := LW_t tb4 (k := 143) rfl rfl
theorem ml_X8_91 : Cond.methodLink RX8 91 yX9_changed ∈ LW := LW_t tb4 (k := 144) rfl rfl
theorem ml_X4_101 : Cond.methodLink RX4 101 yX8_gatherActs ∈ LW := LW_t tb4 (k := 147) rfl rfl
theorem ml_X4_122 : Cond.methodLink RX4 122 yX4_bestAct ∈ LW := LW_t tb4 (k := 151) rfl rfl
theorem ml_X10_152 : Cond.methodLink RX10 152 yX4_choiceOf ∈ LW := LW_t tb4 (k := 155) rfl rfl
theorem ml_X10_156 : Cond.methodLink RX10 156 yX4_plainChoice ∈ LW := LW_t tb4 (k := 159) rfl rfl
theorem ml_X4_89 : Cond.methodLink RX4 89 yX4_beginScores ∈ LW := LW_t tb4 (k := 163) rfl rfl
theorem ml_X4_104 : Cond.methodLink RX4 104 yJ7_fill_d0a16 ∈ LW := LW_t tb4 (k := 167) rfl rfl
theorem ml_X4_93 : Cond.methodLink RX4 93 yX4_addScores ∈ LW := LW_t tb4 (k := 170) rfl rfl
theorem ml_X4_119 : Cond.methodLink RX4 119 yX4_worthAt ∈ LW := LW_t tb4 (k := 174) rfl rfl
theorem ml_X4_97 : Cond.methodLink RX4 97 yX4_bestByScores ∈ LW := LW_t tb4 (k := 178) rfl rfl
theorem ml_L_117 : Cond.methodLink RL 117 yX10_ask ∈ LW := LW_t tb4 (k := 182) rfl rfl
theorem ml_X10_126 : Cond.methodLink RX10 126 yX10_inCalendar ∈ LW := LW_t tb4 (k := 186) rfl rfl
theorem ml_X10_172 : Cond.methodLink RX10 172 yX10_setQuestion ∈ LW := LW_t tb4 (k := 189) rfl rfl
theorem ml_X10_418 : Cond.methodLink RX10 418 yX4_forgetUpTo ∈ LW := LW_t tb4 (k := 193) rfl rfl
theorem ml_X4_53 : Cond.methodLink RX4 53 yJ9_max_7cf53 ∈ LW := LW_t tb4 (k := 197) rfl rfl
theorem ml_L_122 : Cond.methodLink RL 122 yX10_pledge ∈ LW := LW_t tb4 (k := 198) rfl rfl
theorem ml_X10_176 : Cond.methodLink RX10 176 yX10_setPledge ∈ LW := LW_t tb4 (k := 202) rfl rfl
theorem ml_L_127 : Cond.methodLink RL 127 yX10_stone ∈ LW := LW_t tb4 (k := 206) rfl rfl
theorem ml_X10_180 : Cond.methodLink RX10 180 yX10_setStone ∈ LW := LW_t tb4 (k := 210) rfl rfl
theorem ml_X10_421 : Cond.methodLink RX10 421 yX4_forgetActs ∈ LW := LW_t tb4 (k := 214) rfl rfl
theorem ml_L_140 : Cond.methodLink RL 140 yX10_settled ∈ LW := LW_t tb4 (k := 218) rfl rfl
theorem ml_X10_203 : Cond.methodLink RX10 203 yX10_wouldStir ∈ LW := LW_t tb4 (k := 222) rfl rfl
theorem ml_X10_378 : Cond.methodLink RX10 378 yX9_chanceIn ∈ LW := LW_t tb4 (k := 226) rfl rfl
theorem ml_L_181 : Cond.methodLink RL 181 yX10_bestRule ∈ LW := LW_t tb4 (k := 227) rfl rfl
theorem ml_X10_282 : Cond.methodLink RX10 282 yX0_run ∈ LW := LW_t tb4 (k := 231) rfl rfl
theorem ml_X0_43 : Cond.methodLink RX0 43 yX4_solveFrom ∈ LW := LW_t tb4 (k := 235) rfl rfl
theorem ml_X0_55 : Cond.methodLink RX0 55 yX9_startStands ∈ LW := LW_t tb4 (k := 236) rfl rfl
theorem ml_X0_64 : Cond.methodLink RX0 64 yX0_whoComes ∈ LW := LW_t tb5 (k := 0) rfl rfl
theorem ml_X0_119 : Cond.methodLink RX0 119 yX0_draw ∈ LW := LW_t tb5 (k := 4) rfl rfl
theorem kl_X0_108 : Cond.constantLong RX0 108 (1103515245) ∈ LW := LW_t tb5 (k := 8) rfl rfl
theorem kl_X0_110 : Cond.constantLong RX0 110 (12345) ∈ LW := LW_t tb5 (k := 9) rfl rfl
theorem kl_X0_112 : Cond.constantLong RX0 112 (2147483648) ∈ LW := LW_t tb5 (k := 10) rfl rfl
theorem kl_X0_114 : Cond.constantLong RX0 114 (65536) ∈ LW := LW_t tb5 (k := 11) rfl rfl
theorem ml_X0_68 : Cond.methodLink RX0 68 yX0_whoIsAsked ∈ LW := LW_t tb5 (k := 12) rfl rfl
theorem ml_X0_128 : Cond.methodLink RX0 128 yX0_cameIn ∈ LW := LW_t tb5 (k := 16) rfl rfl
theorem ml_X0_131 : Cond.methodLink RX0 131 yX0_lastWhoCame ∈ LW := LW_t tb5 (k := 20) rfl rfl
theorem ml_X0_72 : Cond.methodLink RX0 72 yX0_answer ∈ LW := LW_t tb5 (k := 24) rfl rfl
theorem ml_X0_134 : Cond.methodLink RX0 134 yX8_isPledged ∈ LW := LW_t tb5 (k := 28) rfl rfl
theorem ml_X0_143 : Cond.methodLink RX0 143 yX8_standsIfDone ∈ LW := LW_t tb5 (k := 29) rfl rfl
theorem ml_X0_146 : Cond.methodLink RX0 146 yX4_choiceOf ∈ LW := LW_t tb5 (k := 30) rfl rfl
theorem ml_X0_149 : Cond.methodLink RX0 149 yX0_answerOfAll ∈ LW := LW_t tb5 (k := 31) rfl rfl
theorem ml_X0_155 : Cond.methodLink RX0 155 yX4_beginScores ∈ LW := LW_t tb5 (k := 35) rfl rfl
theorem ml_X0_159 : Cond.methodLink RX0 159 yX4_addScores ∈ LW := LW_t tb5 (k := 36) rfl rfl
theorem ml_X0_162 : Cond.methodLink RX0 162 yX4_bestByScores ∈ LW := LW_t tb5 (k := 37) rfl rfl
theorem ml_X0_152 : Cond.methodLink RX0 152 yX4_plainChoice ∈ LW := LW_t tb5 (k := 38) rfl rfl
theorem ml_X0_76 : Cond.methodLink RX0 76 yX9_differing ∈ LW := LW_t tb5 (k := 39) rfl rfl
theorem ml_X0_79 : Cond.methodLink RX0 79 yX9_costOf ∈ LW := LW_t tb5 (k := 43) rfl rfl
theorem ml_X9_97 : Cond.methodLink RX9 97 yX9_differing ∈ LW := LW_t tb5 (k := 47) rfl rfl
theorem ml_X0_82 : Cond.methodLink RX0 82 yX0_pay ∈ LW := LW_t tb5 (k := 48) rfl rfl
theorem ml_X10_308 : Cond.methodLink RX10 308 yX0_faresOfAll ∈ LW := LW_t tb5 (k := 52) rfl rfl
theorem ml_X0_98 : Cond.methodLink RX0 98 yX0_faresOf ∈ LW := LW_t tb5 (k := 56) rfl rfl
theorem ml_X0_89 : Cond.methodLink RX0 89 yJ9_min_7cf53 ∈ LW := LW_t tb5 (k := 60) rfl rfl
theorem ml_X0_94 : Cond.methodLink RX0 94 yX4_worthAt ∈ LW := LW_t tb5 (k := 61) rfl rfl
theorem ml_L_185 : Cond.methodLink RL 185 yX10_brought ∈ LW := LW_t tb5 (k := 62) rfl rfl
theorem ml_X10_321 : Cond.methodLink RX10 321 yX10_isSetOut ∈ LW := LW_t tb5 (k := 66) rfl rfl
theorem ml_X10_324 : Cond.methodLink RX10 324 yX10_findFirstRows ∈ LW := LW_t tb5 (k := 70) rfl rfl
theorem ml_X10_449 : Cond.methodLink RX10 449 yJ7_fill_53178 ∈ LW := LW_t tb5 (k := 74) rfl rfl
theorem ml_X10_327 : Cond.methodLink RX10 327 yX10_keepQuestions ∈ LW := LW_t tb5 (k := 75) rfl rfl
theorem ml_X10_330 : Cond.methodLink RX10 330 yX10_rowsOfQuestions ∈ LW := LW_t tb5 (k := 80) rfl rfl
theorem ml_X10_437 : Cond.methodLink RX10 437 yJ9_min_7cf53 ∈ LW := LW_t tb5 (k := 84) rfl rfl
theorem ml_X10_333 : Cond.methodLink RX10 333 yX10_setQuestions ∈ LW := LW_t tb5 (k := 85) rfl rfl
theorem ml_X10_446 : Cond.methodLink RX10 446 yJ9_max_7cf53 ∈ LW := LW_t tb5 (k := 89) rfl rfl
theorem ml_X10_455 : Cond.methodLink RX10 455 yX10_standsBehind ∈ LW := LW_t tb5 (k := 90) rfl rfl
theorem ml_X10_336 : Cond.methodLink RX10 336 yX9_startStands ∈ LW := LW_t tb5 (k := 94) rfl rfl
theorem ml_X10_339 : Cond.methodLink RX10 339 yX10_restoreQuestions ∈ LW := LW_t tb5 (k := 95) rfl rfl
theorem ml_L_189 : Cond.methodLink RL 189 yX10_rowFor ∈ LW := LW_t tb5 (k := 99) rfl rfl
theorem ml_L_193 : Cond.methodLink RL 193 yX10_bestRow ∈ LW := LW_t tb5 (k := 103) rfl rfl
theorem ml_X10_273 : Cond.methodLink RX10 273 yX10_valueAnew ∈ LW := LW_t tb5 (k := 107) rfl rfl
theorem ml_X10_162 : Cond.methodLink RX10 162 yX4_valueOf ∈ LW := LW_t tb5 (k := 111) rfl rfl
theorem ml_X4_83 : Cond.methodLink RX4 83 yX4_choiceOf ∈ LW := LW_t tb5 (k := 115) rfl rfl
theorem ml_X4_86 : Cond.methodLink RX4 86 yX4_valueWith ∈ LW := LW_t tb5 (k := 116) rfl rfl
theorem ml_X4_74 : Cond.methodLink RX4 74 yX4_sumOf ∈ LW := LW_t tb5 (k := 120) rfl rfl
theorem ml_X4_78 : Cond.methodLink RX4 78 yX9_costOf ∈ LW := LW_t tb5 (k := 124) rfl rfl
theorem ml_L_197 : Cond.methodLink RL 197 yX10_row ∈ LW := LW_t tb5 (k := 125) rfl rfl
theorem ml_X10_342 : Cond.methodLink RX10 342 yX8_addRow ∈ LW := LW_t tb5 (k := 129) rfl rfl
theorem ml_L_201 : Cond.methodLink RL 201 yX10_clear ∈ LW := LW_t tb5 (k := 133) rfl rfl
theorem ml_L_217 : Cond.methodLink RL 217 yX10_mark ∈ LW := LW_t tb5 (k := 137) rfl rfl
theorem ml_X10_386 : Cond.methodLink RX10 386 yX8_takeFrom ∈ LW := LW_t tb5 (k := 141) rfl rfl
theorem ml_L_221 : Cond.methodLink RL 221 yX10_count ∈ LW := LW_t tb5 (k := 146) rfl rfl
theorem ml_X10_395 : Cond.methodLink RX10 395 yX9_springsTold ∈ LW := LW_t tb5 (k := 150) rfl rfl
theorem ml_X10_398 : Cond.methodLink RX10 398 yX10_countOthers ∈ LW := LW_t tb5 (k := 154) rfl rfl
theorem ml_L_96 : Cond.methodLink RL 96 yL_worth ∈ LW := LW_t tb5 (k := 157) rfl rfl
theorem kk_L_13 : Cond.classLink RL 13 "java/util/NoSuchElementException" ∈ LW := LW_t tb5 (k := 160) rfl rfl
theorem ml_L_7 : Cond.methodLink RL 7 yX10_worth ∈ LW := LW_t tb5 (k := 161) rfl rfl
theorem ml_X10_122 : Cond.methodLink RX10 122 yX10_need ∈ LW := LW_t tb5 (k := 165) rfl rfl
theorem kk_X10_402 : Cond.classLink RX10 402 "java/util/NoSuchElementException" ∈ LW := LW_t tb5 (k := 168) rfl rfl
theorem ml_X10_129 : Cond.methodLink RX10 129 yX9_worthOf ∈ LW := LW_t tb5 (k := 233) rfl rfl
theorem ml_L_114 : Cond.methodLink RL 114 yL_value ∈ LW := LW_t tb5 (k := 234) rfl rfl
theorem ml_L_15 : Cond.methodLink RL 15 yX10_value ∈ LW := LW_t tb5 (k := 237) rfl rfl
theorem ml_X10_159 : Cond.methodLink RX10 159 yX10_isPart ∈ LW := LW_t tb6 (k := 1) rfl rfl
theorem kl_X10_166 : Cond.constantLong RX10 166 (7776) ∈ LW := LW_t tb6 (k := 4) rfl rfl
theorem ml_X10_168 : Cond.methodLink RX10 168 yX10_lowestTerms ∈ LW := LW_t tb6 (k := 5) rfl rfl
theorem ml_X10_409 : Cond.methodLink RX10 409 yJ9_abs_067f4 ∈ LW := LW_t tb6 (k := 8) rfl rfl
theorem ml_L_132 : Cond.methodLink RL 132 yL_odds ∈ LW := LW_t tb6 (k := 11) rfl rfl
theorem ml_L_19 : Cond.methodLink RL 19 yX10_odds ∈ LW := LW_t tb6 (k := 14) rfl rfl
theorem ml_X10_184 : Cond.methodLink RX10 184 yX10_isForeseen ∈ LW := LW_t tb6 (k := 18) rfl rfl
theorem ml_X10_187 : Cond.methodLink RX10 187 yX3_passAheadOf ∈ LW := LW_t tb6 (k := 22) rfl rfl
theorem ml_X3_30 : Cond.methodLink RX3 30 yJ7_fill_d0a16 ∈ LW := LW_t tb6 (k := 26) rfl rfl
theorem ml_X3_42 : Cond.methodLink RX3 42 yX9_startStands ∈ LW := LW_t tb6 (k := 27) rfl rfl
theorem kl_X3_48 : Cond.constantLong RX3 48 (279936) ∈ LW := LW_t tb6 (k := 28) rfl rfl
theorem kl_X3_50 : Cond.constantLong RX3 50 (6) ∈ LW := LW_t tb6 (k := 29) rfl rfl
theorem ml_X3_52 : Cond.methodLink RX3 52 yX3_spread ∈ LW := LW_t tb6 (k := 30) rfl rfl
theorem ml_X3_72 : Cond.methodLink RX3 72 yX9_chanceOfNobody ∈ LW := LW_t tb6 (k := 34) rfl rfl
theorem ml_X3_80 : Cond.methodLink RX3 80 yX9_chanceIn ∈ LW := LW_t tb6 (k := 35) rfl rfl
theorem ml_X3_84 : Cond.methodLink RX3 84 yX4_choiceOf ∈ LW := LW_t tb6 (k := 36) rfl rfl
theorem ml_X10_190 : Cond.methodLink RX10 190 yX3_oddsOf ∈ LW := LW_t tb6 (k := 38) rfl rfl
theorem kl_X10_194 : Cond.constantLong RX10 194 (279936) ∈ LW := LW_t tb6 (k := 42) rfl rfl
theorem ml_L_136 : Cond.methodLink RL 136 yL_stir ∈ LW := LW_t tb6 (k := 43) rfl rfl
theorem ml_L_23 : Cond.methodLink RL 23 yX10_stir ∈ LW := LW_t tb6 (k := 46) rfl rfl
theorem ml_X10_196 : Cond.methodLink RX10 196 yX3_stirred ∈ LW := LW_t tb6 (k := 50) rfl rfl
theorem ml_L_145 : Cond.methodLink RL 145 yL_price ∈ LW := LW_t tb6 (k := 54) rfl rfl
theorem ml_L_27 : Cond.methodLink RL 27 yX10_price ∈ LW := LW_t tb6 (k := 57) rfl rfl
theorem ml_X10_206 : Cond.methodLink RX10 206 yX10_isFreeAct ∈ LW := LW_t tb6 (k := 61) rfl rfl
theorem ml_X10_220 : Cond.methodLink RX10 220 yX8_isPledged ∈ LW := LW_t tb6 (k := 65) rfl rfl
theorem ml_X10_415 : Cond.methodLink RX10 415 yX8_leadsTo ∈ LW := LW_t tb6 (k := 66) rfl rfl
theorem ml_X8_102 : Cond.methodLink RX8 102 yX9_differing ∈ LW := LW_t tb6 (k := 70) rfl rfl
theorem ml_X10_209 : Cond.methodLink RX10 209 yX10_priceOf ∈ LW := LW_t tb6 (k := 71) rfl rfl
theorem ml_X10_424 : Cond.methodLink RX10 424 yX4_valueWith ∈ LW := LW_t tb6 (k := 75) rfl rfl
theorem ml_L_149 : Cond.methodLink RL 149 yL_gain ∈ LW := LW_t tb6 (k := 76) rfl rfl
theorem ml_L_31 : Cond.methodLink RL 31 yX10_gain ∈ LW := LW_t tb6 (k := 79) rfl rfl
theorem ml_X10_213 : Cond.methodLink RX10 213 yX10_isElder ∈ LW := LW_t tb6 (k := 83) rfl rfl
theorem ml_X10_216 : Cond.methodLink RX10 216 yX10_gainOf ∈ LW := LW_t tb6 (k := 87) rfl rfl
theorem ml_X10_427 : Cond.methodLink RX10 427 yX4_sumOf ∈ LW := LW_t tb6 (k := 91) rfl rfl
theorem ml_L_153 : Cond.methodLink RL 153 yL_lets ∈ LW := LW_t tb6 (k := 92) rfl rfl
theorem ml_L_35 : Cond.methodLink RL 35 yX10_lets ∈ LW := LW_t tb6 (k := 95) rfl rfl
theorem ml_L_156 : Cond.methodLink RL 156 yL_present ∈ LW := LW_t tb6 (k := 99) rfl rfl
theorem ml_L_38 : Cond.methodLink RL 38 yX10_present ∈ LW := LW_t tb6 (k := 102) rfl rfl
theorem ml_X10_226 : Cond.methodLink RX10 226 yX8_gatherActs ∈ LW := LW_t tb6 (k := 106) rfl rfl
theorem kk_X10_229 : Cond.classLink RX10 229 "LastWord$Present" ∈ LW := LW_t tb6 (k := 107) rfl rfl
theorem ml_X10_238 : Cond.methodLink RX10 238 yX10_offerAct ∈ LW := LW_t tb6 (k := 133) rfl rfl
theorem ml_X10_430 : Cond.methodLink RX10 430 yX5_offer ∈ LW := LW_t tb6 (k := 137) rfl rfl
theorem ml_L_159 : Cond.methodLink RL 159 yL_hopes ∈ LW := LW_t tb6 (k := 141) rfl rfl
theorem ml_L_41 : Cond.methodLink RL 41 yX10_hopes ∈ LW := LW_t tb6 (k := 144) rfl rfl
theorem ml_X10_255 : Cond.methodLink RX10 255 yX3_hopesOf ∈ LW := LW_t tb6 (k := 148) rfl rfl
theorem ml_X3_62 : Cond.methodLink RX3 62 yX3_passAheadOf ∈ LW := LW_t tb6 (k := 152) rfl rfl
theorem ml_X3_66 : Cond.methodLink RX3 66 yX4_valueOf ∈ LW := LW_t tb6 (k := 153) rfl rfl
theorem kl_X10_259 : Cond.constantLong RX10 259 (2176782336) ∈ LW := LW_t tb6 (k := 154) rfl rfl
theorem ml_L_162 : Cond.methodLink RL 162 yL_vow ∈ LW := LW_t tb6 (k := 155) rfl rfl
theorem ml_L_44 : Cond.methodLink RL 44 yX10_vow ∈ LW := LW_t tb6 (k := 158) rfl rfl
theorem ml_X10_270 : Cond.methodLink RX10 270 yX10_hopesUnder ∈ LW := LW_t tb6 (k := 162) rfl rfl
theorem ml_L_165 : Cond.methodLink RL 165 yL_bind ∈ LW := LW_t tb6 (k := 166) rfl rfl
theorem ml_L_47 : Cond.methodLink RL 47 yX10_bind ∈ LW := LW_t tb6 (k := 169) rfl rfl
theorem ml_L_168 : Cond.methodLink RL 168 yL_order ∈ LW := LW_t tb6 (k := 173) rfl rfl
theorem ml_L_50 : Cond.methodLink RL 50 yX10_order ∈ LW := LW_t tb6 (k := 176) rfl rfl
theorem ml_L_172 : Cond.methodLink RL 172 yL_century ∈ LW := LW_t tb6 (k := 180) rfl rfl
theorem ml_L_54 : Cond.methodLink RL 54 yX10_century ∈ LW := LW_t tb6 (k := 183) rfl rfl
theorem ml_X10_279 : Cond.methodLink RX10 279 yX10_isCentury ∈ LW := LW_t tb6 (k := 187) rfl rfl
theorem ml_L_175 : Cond.methodLink RL 175 yL_fares ∈ LW := LW_t tb6 (k := 191) rfl rfl
theorem ml_L_57 : Cond.methodLink RL 57 yX10_fares ∈ LW := LW_t tb6 (k := 194) rfl rfl
theorem ml_X10_297 : Cond.methodLink RX10 297 yX0_faresOf ∈ LW := LW_t tb6 (k := 198) rfl rfl
theorem ml_L_178 : Cond.methodLink RL 178 yL_told ∈ LW := LW_t tb6 (k := 199) rfl rfl
theorem ml_L_61 : Cond.methodLink RL 61 yX10_told ∈ LW := LW_t tb6 (k := 202) rfl rfl
theorem ml_X10_301 : Cond.methodLink RX10 301 yX0_lasts ∈ LW := LW_t tb6 (k := 206) rfl rfl
theorem ml_X10_305 : Cond.methodLink RX10 305 yX0_timesBack ∈ LW := LW_t tb6 (k := 210) rfl rfl
theorem ml_X0_101 : Cond.methodLink RX0 101 yX0_hadStoodSo ∈ LW := LW_t tb6 (k := 214) rfl rfl
theorem ml_X0_105 : Cond.methodLink RX0 105 yX9_stateOf ∈ LW := LW_t tb6 (k := 218) rfl rfl
theorem ml_X10_311 : Cond.methodLink RX10 311 yX0_timesAsked ∈ LW := LW_t tb6 (k := 219) rfl rfl
theorem ml_L_206 : Cond.methodLink RL 206 yL_judged ∈ LW := LW_t tb6 (k := 223) rfl rfl
theorem ml_L_64 : Cond.methodLink RL 64 yX10_judged ∈ LW := LW_t tb6 (k := 226) rfl rfl
theorem ml_X10_348 : Cond.methodLink RX10 348 yX2_hear ∈ LW := LW_t tb6 (k := 230) rfl rfl
theorem ml_X2_38 : Cond.methodLink RX2 38 yX2_standsBehind ∈ LW := LW_t tb6 (k := 234) rfl rfl
theorem ml_X2_60 : Cond.methodLink RX2 60 yX9_startStands ∈ LW := LW_t tb6 (k := 238) rfl rfl
theorem ml_X2_42 : Cond.methodLink RX2 42 yX2_whyNot ∈ LW := LW_t tb6 (k := 239) rfl rfl
theorem ml_X2_107 : Cond.methodLink RX2 107 yX9_hasSpring ∈ LW := LW_t tb7 (k := 3) rfl rfl
theorem ml_X2_111 : Cond.methodLink RX2 111 yX2_couldCome ∈ LW := LW_t tb7 (k := 4) rfl rfl
theorem ml_X2_125 : Cond.methodLink RX2 125 yX9_hasSort ∈ LW := LW_t tb7 (k := 8) rfl rfl
theorem ml_X2_81 : Cond.methodLink RX2 81 yX9_chanceIn ∈ LW := LW_t tb7 (k := 9) rfl rfl
theorem ml_X2_115 : Cond.methodLink RX2 115 yX9_hasState ∈ LW := LW_t tb7 (k := 10) rfl rfl
theorem ml_X2_118 : Cond.methodLink RX2 118 yX8_allows ∈ LW := LW_t tb7 (k := 11) rfl rfl
theorem ml_X2_52 : Cond.methodLink RX2 52 yX8_standsIfDone ∈ LW := LW_t tb7 (k := 12) rfl rfl
theorem kl_X10_354 : Cond.constantLong RX10 354 (-1) ∈ LW := LW_t tb7 (k := 13) rfl rfl
theorem ml_X10_359 : Cond.methodLink RX10 359 yX2_standsBehind ∈ LW := LW_t tb7 (k := 14) rfl rfl
theorem ml_X10_362 : Cond.methodLink RX10 362 yX2_didAsAhead ∈ LW := LW_t tb7 (k := 15) rfl rfl
theorem ml_X2_68 : Cond.methodLink RX2 68 yX2_standsAheadOf ∈ LW := LW_t tb7 (k := 19) rfl rfl
theorem ml_X2_72 : Cond.methodLink RX2 72 yX4_choiceOf ∈ LW := LW_t tb7 (k := 23) rfl rfl
theorem ml_X10_365 : Cond.methodLink RX10 365 yX2_likelyAbove ∈ LW := LW_t tb7 (k := 24) rfl rfl
theorem ml_X2_78 : Cond.methodLink RX2 78 yX9_chanceOfNobody ∈ LW := LW_t tb7 (k := 28) rfl rfl
theorem ml_X10_368 : Cond.methodLink RX10 368 yX2_likelyBelow ∈ LW := LW_t tb7 (k := 29) rfl rfl
theorem kl_X2_84 : Cond.constantLong RX2 84 (6) ∈ LW := LW_t tb7 (k := 33) rfl rfl
theorem ml_L_210 : Cond.methodLink RL 210 yL_rowFares ∈ LW := LW_t tb7 (k := 34) rfl rfl
theorem ml_L_68 : Cond.methodLink RL 68 yX10_rowFares ∈ LW := LW_t tb7 (k := 37) rfl rfl
theorem ml_X10_374 : Cond.methodLink RX10 374 yX2_lossOf ∈ LW := LW_t tb7 (k := 41) rfl rfl
theorem ml_X2_86 : Cond.methodLink RX2 86 yX2_worthsAlong ∈ LW := LW_t tb7 (k := 45) rfl rfl
theorem ml_X2_99 : Cond.methodLink RX2 99 yJ9_min_7cf53 ∈ LW := LW_t tb7 (k := 49) rfl rfl
theorem ml_X2_104 : Cond.methodLink RX2 104 yX4_worthAt ∈ LW := LW_t tb7 (k := 50) rfl rfl
theorem ml_X2_93 : Cond.methodLink RX2 93 yX2_faresOf ∈ LW := LW_t tb7 (k := 51) rfl rfl
theorem ml_X2_90 : Cond.methodLink RX2 90 yX9_costOf ∈ LW := LW_t tb7 (k := 55) rfl rfl
theorem ml_X10_377 : Cond.methodLink RX10 377 yX2_faresOf ∈ LW := LW_t tb7 (k := 56) rfl rfl
theorem ml_L_214 : Cond.methodLink RL 214 yL_when ∈ LW := LW_t tb7 (k := 57) rfl rfl
theorem ml_L_72 : Cond.methodLink RL 72 yX10_when ∈ LW := LW_t tb7 (k := 60) rfl rfl
theorem ml_L_102 : Cond.methodLink RL 102 yX11_thrown ∈ LW := LW_t tb7 (k := 64) rfl rfl
theorem ml_L_85 : Cond.methodLink RL 85 yX11_feed ∈ LW := LW_t tb7 (k := 68) rfl rfl
theorem ml_X11_7 : Cond.methodLink RX11 7 yX11_lay ∈ LW := LW_t tb7 (k := 72) rfl rfl
theorem kk_L_76 : Cond.classLink RL 76 "LastWordModel" ∈ LW := LW_t tb7 (k := 77) rfl rfl
theorem ml_L_78 : Cond.methodLink RL 78 yX11_init ∈ LW := LW_t tb7 (k := 78) rfl rfl
theorem kl_X11_34 : Cond.constantLong RX11 34 (37901290) ∈ LW := LW_t tb7 (k := 82) rfl rfl
theorem kl_X11_36 : Cond.constantLong RX11 36 (1355096640) ∈ LW := LW_t tb7 (k := 83) rfl rfl
theorem kl_X11_38 : Cond.constantLong RX11 38 (36624174) ∈ LW := LW_t tb7 (k := 84) rfl rfl
theorem kl_X11_40 : Cond.constantLong RX11 40 (173217) ∈ LW := LW_t tb7 (k := 85) rfl rfl
theorem kl_X11_42 : Cond.constantLong RX11 42 (36643177) ∈ LW := LW_t tb7 (k := 86) rfl rfl
theorem kl_X11_44 : Cond.constantLong RX11 44 (983628) ∈ LW := LW_t tb7 (k := 87) rfl rfl
theorem kl_X11_46 : Cond.constantLong RX11 46 (43890888) ∈ LW := LW_t tb7 (k := 88) rfl rfl
theorem kl_X11_48 : Cond.constantLong RX11 48 (223095094) ∈ LW := LW_t tb7 (k := 89) rfl rfl
theorem kl_X11_50 : Cond.constantLong RX11 50 (1348446359) ∈ LW := LW_t tb7 (k := 90) rfl rfl
theorem kl_X11_52 : Cond.constantLong RX11 52 (352) ∈ LW := LW_t tb7 (k := 91) rfl rfl
theorem kl_X11_54 : Cond.constantLong RX11 54 (999049827) ∈ LW := LW_t tb7 (k := 92) rfl rfl
theorem kl_X11_56 : Cond.constantLong RX11 56 (2793) ∈ LW := LW_t tb7 (k := 93) rfl rfl
theorem kl_X11_58 : Cond.constantLong RX11 58 (620384) ∈ LW := LW_t tb7 (k := 94) rfl rfl
theorem kl_X11_60 : Cond.constantLong RX11 60 (49892515302) ∈ LW := LW_t tb7 (k := 95) rfl rfl
theorem kl_X11_62 : Cond.constantLong RX11 62 (19741) ∈ LW := LW_t tb7 (k := 96) rfl rfl
theorem kl_X11_64 : Cond.constantLong RX11 64 (1891) ∈ LW := LW_t tb7 (k := 97) rfl rfl
theorem kl_X11_66 : Cond.constantLong RX11 66 (573) ∈ LW := LW_t tb7 (k := 98) rfl rfl
theorem kl_X11_68 : Cond.constantLong RX11 68 (1633) ∈ LW := LW_t tb7 (k := 99) rfl rfl
theorem kl_X11_107 : Cond.constantLong RX11 107 (6) ∈ LW := LW_t tb7 (k := 100) rfl rfl
theorem kl_X11_109 : Cond.constantLong RX11 109 (36) ∈ LW := LW_t tb7 (k := 101) rfl rfl
theorem kl_X11_111 : Cond.constantLong RX11 111 (216) ∈ LW := LW_t tb7 (k := 102) rfl rfl
theorem kl_X11_113 : Cond.constantLong RX11 113 (1296) ∈ LW := LW_t tb7 (k := 103) rfl rfl
theorem kl_X11_115 : Cond.constantLong RX11 115 (7776) ∈ LW := LW_t tb7 (k := 104) rfl rfl
theorem kl_X11_117 : Cond.constantLong RX11 117 (46656) ∈ LW := LW_t tb7 (k := 105) rfl rfl
theorem kl_X11_119 : Cond.constantLong RX11 119 (279936) ∈ LW := LW_t tb7 (k := 106) rfl rfl
theorem ml_L_90 : Cond.methodLink RL 90 yX11_village ∈ LW := LW_t tb8 (k := 21) rfl rfl
theorem ml_X11_212 : Cond.methodLink RX11 212 yX11_cutAll ∈ LW := LW_t tb8 (k := 25) rfl rfl
theorem ml_X11_170 : Cond.methodLink RX11 170 yX11_isLetter ∈ LW := LW_t tb8 (k := 29) rfl rfl
theorem kl_X11_177 : Cond.constantLong RX11 177 (37) ∈ LW := LW_t tb8 (k := 32) rfl rfl
theorem ml_X11_179 : Cond.methodLink RX11 179 yX11_rank ∈ LW := LW_t tb8 (k := 33) rfl rfl
theorem ml_X11_183 : Cond.methodLink RX11 183 yX11_isDigit ∈ LW := LW_t tb8 (k := 36) rfl rfl
theorem kl_X11_186 : Cond.constantLong RX11 186 (10) ∈ LW := LW_t tb8 (k := 39) rfl rfl
theorem kl_X11_188 : Cond.constantLong RX11 188 (48) ∈ LW := LW_t tb8 (k := 40) rfl rfl
theorem ml_X11_190 : Cond.methodLink RX11 190 yX11_isSignOf ∈ LW := LW_t tb8 (k := 41) rfl rfl
theorem ml_X11_224 : Cond.methodLink RX11 224 yX11_readLine ∈ LW := LW_t tb8 (k := 44) rfl rfl
theorem ml_X11_206 : Cond.methodLink RX11 206 yX11_isWord ∈ LW := LW_t tb8 (k := 48) rfl rfl
theorem ml_X11_237 : Cond.methodLink RX11 237 yX11_readThing ∈ LW := LW_t tb8 (k := 52) rfl rfl
theorem ml_X11_202 : Cond.methodLink RX11 202 yX11_wrong ∈ LW := LW_t tb8 (k := 56) rfl rfl
theorem ml_X11_264 : Cond.methodLink RX11 264 yX11_takeNewName ∈ LW := LW_t tb8 (k := 60) rfl rfl
theorem ml_X11_256 : Cond.methodLink RX11 256 yX11_isName ∈ LW := LW_t tb8 (k := 64) rfl rfl
theorem ml_X11_260 : Cond.methodLink RX11 260 yX11_nameOf ∈ LW := LW_t tb8 (k := 68) rfl rfl
theorem ml_X11_267 : Cond.methodLink RX11 267 yX11_takeWord ∈ LW := LW_t tb8 (k := 72) rfl rfl
theorem ml_X11_209 : Cond.methodLink RX11 209 yX11_hasWord ∈ LW := LW_t tb8 (k := 76) rfl rfl
theorem ml_X11_252 : Cond.methodLink RX11 252 yX11_takeNumber ∈ LW := LW_t tb8 (k := 80) rfl rfl
theorem ml_X11_240 : Cond.methodLink RX11 240 yX11_readSort ∈ LW := LW_t tb8 (k := 84) rfl rfl
theorem ml_X11_273 : Cond.methodLink RX11 273 yX11_readWhole ∈ LW := LW_t tb8 (k := 88) rfl rfl
theorem ml_X11_282 : Cond.methodLink RX11 282 yX11_all ∈ LW := LW_t tb8 (k := 92) rfl rfl
theorem ml_X11_288 : Cond.methodLink RX11 288 yX11_test ∈ LW := LW_t tb8 (k := 96) rfl rfl
theorem ml_X11_291 : Cond.methodLink RX11 291 yX11_sums ∈ LW := LW_t tb8 (k := 100) rfl rfl
theorem ml_X11_297 : Cond.methodLink RX11 297 yX11_products ∈ LW := LW_t tb8 (k := 104) rfl rfl
theorem ml_X11_300 : Cond.methodLink RX11 300 yX11_takePart ∈ LW := LW_t tb8 (k := 108) rfl rfl
theorem ml_X11_199 : Cond.methodLink RX11 199 yX11_isSign ∈ LW := LW_t tb8 (k := 112) rfl rfl
theorem ml_X11_303 : Cond.methodLink RX11 303 yX11_within ∈ LW := LW_t tb8 (k := 116) rfl rfl
theorem ml_X11_285 : Cond.methodLink RX11 285 yX11_emit ∈ LW := LW_t tb8 (k := 119) rfl rfl
theorem ml_X11_294 : Cond.methodLink RX11 294 yX11_hasSign ∈ LW := LW_t tb8 (k := 123) rfl rfl
theorem ml_X11_227 : Cond.methodLink RX11 227 yX11_takeSign ∈ LW := LW_t tb8 (k := 127) rfl rfl
theorem ml_X11_243 : Cond.methodLink RX11 243 yX11_readChance ∈ LW := LW_t tb8 (k := 131) rfl rfl
theorem ml_X11_276 : Cond.methodLink RX11 276 yX11_takeSort ∈ LW := LW_t tb8 (k := 135) rfl rfl
theorem ml_X11_246 : Cond.methodLink RX11 246 yX11_readSpring ∈ LW := LW_t tb8 (k := 139) rfl rfl
theorem kl_X11_280 : Cond.constantLong RX11 280 (16) ∈ LW := LW_t tb8 (k := 143) rfl rfl
theorem ml_X11_249 : Cond.methodLink RX11 249 yX11_readBar ∈ LW := LW_t tb8 (k := 144) rfl rfl
theorem ml_X11_230 : Cond.methodLink RX11 230 yX11_carry ∈ LW := LW_t tb8 (k := 148) rfl rfl
theorem ml_L_95 : Cond.methodLink RL 95 yX11_thing ∈ LW := LW_t tb8 (k := 152) rfl rfl
theorem ml_X11_329 : Cond.methodLink RX11 329 yX11_isThing ∈ LW := LW_t tb8 (k := 156) rfl rfl
theorem ml_X11_314 : Cond.methodLink RX11 314 yX11_things ∈ LW := LW_t tb8 (k := 160) rfl rfl
theorem ml_X11_320 : Cond.methodLink RX11 320 yX11_thingOf ∈ LW := LW_t tb8 (k := 164) rfl rfl
theorem ml_L_101 : Cond.methodLink RL 101 yX11_worth ∈ LW := LW_t tb8 (k := 168) rfl rfl
theorem ml_X11_338 : Cond.methodLink RX11 338 yX11_isSort ∈ LW := LW_t tb8 (k := 172) rfl rfl
theorem ml_X11_323 : Cond.methodLink RX11 323 yX11_sorts ∈ LW := LW_t tb8 (k := 176) rfl rfl
theorem ml_X11_341 : Cond.methodLink RX11 341 yX11_isStands ∈ LW := LW_t tb8 (k := 180) rfl rfl
theorem ml_X11_317 : Cond.methodLink RX11 317 yX11_stateOf ∈ LW := LW_t tb8 (k := 186) rfl rfl
theorem ml_X11_344 : Cond.methodLink RX11 344 yX11_worthOf ∈ LW := LW_t tb8 (k := 189) rfl rfl
theorem ml_X11_332 : Cond.methodLink RX11 332 yX11_lays ∈ LW := LW_t tb8 (k := 193) rfl rfl
theorem ml_X11_335 : Cond.methodLink RX11 335 yX11_worthAt ∈ LW := LW_t tb8 (k := 197) rfl rfl
theorem ml_X11_307 : Cond.methodLink RX11 307 yX11_both ∈ LW := LW_t tb8 (k := 201) rfl rfl
theorem ml_L_108 : Cond.methodLink RL 108 yX11_may ∈ LW := LW_t tb8 (k := 204) rfl rfl
theorem ml_X11_354 : Cond.methodLink RX11 354 yX11_isSpring ∈ LW := LW_t tb8 (k := 208) rfl rfl
theorem ml_X11_326 : Cond.methodLink RX11 326 yX11_springs ∈ LW := LW_t tb8 (k := 212) rfl rfl
theorem ml_X11_357 : Cond.methodLink RX11 357 yX11_isState ∈ LW := LW_t tb8 (k := 216) rfl rfl
theorem ml_X11_361 : Cond.methodLink RX11 361 yX11_mayBring ∈ LW := LW_t tb8 (k := 220) rfl rfl
theorem ml_X11_348 : Cond.methodLink RX11 348 yX11_laysWorths ∈ LW := LW_t tb8 (k := 224) rfl rfl
theorem ml_X11_368 : Cond.methodLink RX11 368 yX11_isBarred ∈ LW := LW_t tb8 (k := 228) rfl rfl
theorem ml_X11_351 : Cond.methodLink RX11 351 yX11_with ∈ LW := LW_t tb8 (k := 232) rfl rfl
theorem ml_L_113 : Cond.methodLink RL 113 yX11_chooses ∈ LW := LW_t tb8 (k := 235) rfl rfl
theorem ml_X11_416 : Cond.methodLink RX11 416 yX11_isOne ∈ LW := LW_t tb8 (k := 239) rfl rfl
theorem ml_X11_419 : Cond.methodLink RX11 419 yX11_find ∈ LW := LW_t tb9 (k := 3) rfl rfl
theorem ml_X11_394 : Cond.methodLink RX11 394 yX11_finds ∈ LW := LW_t tb9 (k := 7) rfl rfl
theorem ml_X11_397 : Cond.methodLink RX11 397 yX11_pledged ∈ LW := LW_t tb9 (k := 11) rfl rfl
theorem ml_X11_400 : Cond.methodLink RX11 400 yX11_doesAt ∈ LW := LW_t tb9 (k := 15) rfl rfl
theorem ml_X11_403 : Cond.methodLink RX11 403 yX11_freeChoice ∈ LW := LW_t tb9 (k := 18) rfl rfl
theorem ml_X11_387 : Cond.methodLink RX11 387 yX11_act ∈ LW := LW_t tb9 (k := 22) rfl rfl
theorem ml_X11_390 : Cond.methodLink RX11 390 yX11_valueOf ∈ LW := LW_t tb9 (k := 26) rfl rfl
theorem ml_X11_380 : Cond.methodLink RX11 380 yX11_valueBy ∈ LW := LW_t tb9 (k := 30) rfl rfl
theorem ml_X11_371 : Cond.methodLink RX11 371 yX11_worthBy ∈ LW := LW_t tb9 (k := 34) rfl rfl
theorem ml_X11_374 : Cond.methodLink RX11 374 yX11_left ∈ LW := LW_t tb9 (k := 38) rfl rfl
theorem ml_X11_365 : Cond.methodLink RX11 365 yX11_life ∈ LW := LW_t tb9 (k := 42) rfl rfl
theorem ml_X11_377 : Cond.methodLink RX11 377 yX11_likelyAt ∈ LW := LW_t tb9 (k := 46) rfl rfl
theorem ml_X11_384 : Cond.methodLink RX11 384 yX11_costOf ∈ LW := LW_t tb9 (k := 49) rfl rfl
theorem ml_X11_406 : Cond.methodLink RX11 406 yX11_likelyFor ∈ LW := LW_t tb9 (k := 53) rfl rfl
theorem ml_X11_410 : Cond.methodLink RX11 410 yX11_sixth ∈ LW := LW_t tb9 (k := 57) rfl rfl
theorem ml_X11_422 : Cond.methodLink RX11 422 yX11_plainChoice ∈ LW := LW_t tb9 (k := 61) rfl rfl
theorem ml_X11_413 : Cond.methodLink RX11 413 yX11_plain ∈ LW := LW_t tb9 (k := 65) rfl rfl
theorem ml_L_116 : Cond.methodLink RL 116 yX11_value ∈ LW := LW_t tb9 (k := 69) rfl rfl
theorem ml_X11_436 : Cond.methodLink RX11 436 yX11_isWhat ∈ LW := LW_t tb9 (k := 73) rfl rfl
theorem ml_X11_439 : Cond.methodLink RX11 439 yX11_valueNow ∈ LW := LW_t tb9 (k := 76) rfl rfl
theorem ml_X11_442 : Cond.methodLink RX11 442 yX11_partsOf ∈ LW := LW_t tb9 (k := 80) rfl rfl
theorem ml_X11_446 : Cond.methodLink RX11 446 yX11_sets ∈ LW := LW_t tb9 (k := 84) rfl rfl
theorem ml_X11_425 : Cond.methodLink RX11 425 yX11_common ∈ LW := LW_t tb9 (k := 88) rfl rfl
theorem ml_X11_450 : Cond.methodLink RX11 450 yX11_partFound ∈ LW := LW_t tb9 (k := 91) rfl rfl
theorem ml_L_121 : Cond.methodLink RL 121 yX11_ask ∈ LW := LW_t tb9 (k := 95) rfl rfl
theorem ml_L_126 : Cond.methodLink RL 126 yX11_pledge ∈ LW := LW_t tb9 (k := 99) rfl rfl
theorem ml_L_131 : Cond.methodLink RL 131 yX11_stone ∈ LW := LW_t tb9 (k := 103) rfl rfl
theorem ml_L_135 : Cond.methodLink RL 135 yX11_odds ∈ LW := LW_t tb9 (k := 107) rfl rfl
theorem ml_X11_462 : Cond.methodLink RX11 462 yX11_isEarly ∈ LW := LW_t tb9 (k := 111) rfl rfl
theorem ml_X11_465 : Cond.methodLink RX11 465 yX11_runsTo ∈ LW := LW_t tb9 (k := 115) rfl rfl
theorem ml_X11_453 : Cond.methodLink RX11 453 yX11_startOf ∈ LW := LW_t tb9 (k := 119) rfl rfl
theorem ml_X11_459 : Cond.methodLink RX11 459 yX11_runsOn ∈ LW := LW_t tb9 (k := 123) rfl rfl
theorem ml_L_139 : Cond.methodLink RL 139 yX11_stir ∈ LW := LW_t tb9 (k := 127) rfl rfl
theorem ml_L_144 : Cond.methodLink RL 144 yX11_settled ∈ LW := LW_t tb9 (k := 131) rfl rfl
theorem ml_L_148 : Cond.methodLink RL 148 yX11_price ∈ LW := LW_t tb9 (k := 135) rfl rfl
theorem ml_X11_471 : Cond.methodLink RX11 471 yX11_isAct ∈ LW := LW_t tb9 (k := 139) rfl rfl
theorem ml_X11_474 : Cond.methodLink RX11 474 yX11_priceOf ∈ LW := LW_t tb9 (k := 143) rfl rfl
theorem ml_L_152 : Cond.methodLink RL 152 yX11_gain ∈ LW := LW_t tb9 (k := 147) rfl rfl
theorem ml_X11_477 : Cond.methodLink RX11 477 yX11_isOther ∈ LW := LW_t tb9 (k := 151) rfl rfl
theorem ml_X11_480 : Cond.methodLink RX11 480 yX11_gainOf ∈ LW := LW_t tb9 (k := 155) rfl rfl
theorem ml_X11_468 : Cond.methodLink RX11 468 yX11_thereBy ∈ LW := LW_t tb9 (k := 159) rfl rfl
theorem ml_L_155 : Cond.methodLink RL 155 yX11_lets ∈ LW := LW_t tb9 (k := 163) rfl rfl
theorem ml_L_158 : Cond.methodLink RL 158 yX11_present ∈ LW := LW_t tb9 (k := 167) rfl rfl
theorem ml_L_161 : Cond.methodLink RL 161 yX11_hopes ∈ LW := LW_t tb9 (k := 171) rfl rfl
theorem ml_X11_484 : Cond.methodLink RX11 484 yX11_isHope ∈ LW := LW_t tb9 (k := 175) rfl rfl
theorem ml_X11_487 : Cond.methodLink RX11 487 yX11_hopesOf ∈ LW := LW_t tb9 (k := 179) rfl rfl
theorem ml_L_164 : Cond.methodLink RL 164 yX11_vow ∈ LW := LW_t tb9 (k := 183) rfl rfl
theorem ml_L_167 : Cond.methodLink RL 167 yX11_bind ∈ LW := LW_t tb9 (k := 187) rfl rfl
theorem ml_L_171 : Cond.methodLink RL 171 yX11_order ∈ LW := LW_t tb9 (k := 191) rfl rfl
theorem ml_X11_491 : Cond.methodLink RX11 491 yX11_valueAsked ∈ LW := LW_t tb9 (k := 195) rfl rfl
theorem ml_L_174 : Cond.methodLink RL 174 yX11_century ∈ LW := LW_t tb9 (k := 199) rfl rfl
theorem ml_X11_524 : Cond.methodLink RX11 524 yX11_isCentury ∈ LW := LW_t tb9 (k := 203) rfl rfl
theorem ml_X11_527 : Cond.methodLink RX11 527 yX11_findCentury ∈ LW := LW_t tb9 (k := 207) rfl rfl
theorem ml_X11_515 : Cond.methodLink RX11 515 yX11_comes ∈ LW := LW_t tb9 (k := 211) rfl rfl
theorem ml_X11_506 : Cond.methodLink RX11 506 yX11_draw ∈ LW := LW_t tb9 (k := 215) rfl rfl
theorem kl_X11_498 : Cond.constantLong RX11 498 (1103515245) ∈ LW := LW_t tb9 (k := 219) rfl rfl
theorem kl_X11_500 : Cond.constantLong RX11 500 (12345) ∈ LW := LW_t tb9 (k := 220) rfl rfl
theorem kl_X11_502 : Cond.constantLong RX11 502 (2147483648) ∈ LW := LW_t tb9 (k := 221) rfl rfl
theorem kl_X11_504 : Cond.constantLong RX11 504 (65536) ∈ LW := LW_t tb9 (k := 222) rfl rfl
theorem ml_X11_518 : Cond.methodLink RX11 518 yX11_askedBy ∈ LW := LW_t tb9 (k := 223) rfl rfl
theorem ml_X11_521 : Cond.methodLink RX11 521 yX11_bringsBy ∈ LW := LW_t tb9 (k := 227) rfl rfl
theorem ml_X11_512 : Cond.methodLink RX11 512 yX11_choiceOfAll ∈ LW := LW_t tb9 (k := 231) rfl rfl
theorem ml_X11_509 : Cond.methodLink RX11 509 yX11_plainAll ∈ LW := LW_t tb9 (k := 235) rfl rfl
theorem ml_L_177 : Cond.methodLink RL 177 yX11_fares ∈ LW := LW_t tb9 (k := 239) rfl rfl
theorem ml_X11_530 : Cond.methodLink RX11 530 yX11_faresOf ∈ LW := LW_t tb10 (k := 3) rfl rfl
theorem ml_L_180 : Cond.methodLink RL 180 yX11_told ∈ LW := LW_t tb10 (k := 7) rfl rfl
theorem ml_X11_533 : Cond.methodLink RX11 533 yX11_stoodSo ∈ LW := LW_t tb10 (k := 11) rfl rfl
theorem ml_X11_536 : Cond.methodLink RX11 536 yX11_faresOfAll ∈ LW := LW_t tb10 (k := 15) rfl rfl
theorem ml_L_184 : Cond.methodLink RL 184 yX11_bestRule ∈ LW := LW_t tb10 (k := 19) rfl rfl
theorem ml_L_188 : Cond.methodLink RL 188 yX11_brought ∈ LW := LW_t tb10 (k := 23) rfl rfl
theorem ml_X11_542 : Cond.methodLink RX11 542 yX11_canBring ∈ LW := LW_t tb10 (k := 27) rfl rfl
theorem ml_X11_545 : Cond.methodLink RX11 545 yX11_keepsAsked ∈ LW := LW_t tb10 (k := 31) rfl rfl
theorem ml_X11_549 : Cond.methodLink RX11 549 yX11_rowsOf ∈ LW := LW_t tb10 (k := 35) rfl rfl
theorem ml_X11_552 : Cond.methodLink RX11 552 yX11_endBy ∈ LW := LW_t tb10 (k := 39) rfl rfl
theorem ml_X11_539 : Cond.methodLink RX11 539 yX11_asksRow ∈ LW := LW_t tb10 (k := 43) rfl rfl
theorem ml_L_192 : Cond.methodLink RL 192 yX11_rowFor ∈ LW := LW_t tb10 (k := 47) rfl rfl
theorem ml_L_196 : Cond.methodLink RL 196 yX11_bestRow ∈ LW := LW_t tb10 (k := 51) rfl rfl
theorem ml_L_200 : Cond.methodLink RL 200 yX11_row ∈ LW := LW_t tb10 (k := 55) rfl rfl
theorem ml_L_205 : Cond.methodLink RL 205 yX11_clear ∈ LW := LW_t tb10 (k := 59) rfl rfl
theorem ml_L_209 : Cond.methodLink RL 209 yX11_judged ∈ LW := LW_t tb10 (k := 63) rfl rfl
theorem ml_X11_576 : Cond.methodLink RX11 576 yX11_judges ∈ LW := LW_t tb10 (k := 67) rfl rfl
theorem ml_X11_570 : Cond.methodLink RX11 570 yX11_whyNot ∈ LW := LW_t tb10 (k := 71) rfl rfl
theorem ml_X11_573 : Cond.methodLink RX11 573 yX11_doneBy ∈ LW := LW_t tb10 (k := 75) rfl rfl
theorem kl_X11_579 : Cond.constantLong RX11 579 (-1) ∈ LW := LW_t tb10 (k := 79) rfl rfl
theorem ml_L_213 : Cond.methodLink RL 213 yX11_rowFares ∈ LW := LW_t tb10 (k := 80) rfl rfl
theorem ml_X11_581 : Cond.methodLink RX11 581 yX11_stoodAhead ∈ LW := LW_t tb10 (k := 84) rfl rfl
theorem ml_X11_584 : Cond.methodLink RX11 584 yX11_worthsWithout ∈ LW := LW_t tb10 (k := 88) rfl rfl
theorem ml_L_216 : Cond.methodLink RL 216 yX11_when ∈ LW := LW_t tb10 (k := 92) rfl rfl
theorem ml_L_220 : Cond.methodLink RL 220 yX11_mark ∈ LW := LW_t tb10 (k := 96) rfl rfl
theorem ml_L_224 : Cond.methodLink RL 224 yX11_count ∈ LW := LW_t tb10 (k := 100) rfl rfl
theorem kl_L_79 : Cond.constantLong RL 79 (4294967295) ∈ LW := LW_t tb10 (k := 104) rfl rfl
theorem ac_nat : Cond.native arraycopyName ∈ LW := LW_t tb3 (k := 226) rfl rfl
theorem ac_sta : Cond.static arraycopyName ∈ LW := LW_t tb3 (k := 225) rfl rfl
theorem ac_ini : Cond.initialized "java/lang/System" ∈ LW := LW_t tb1 (k := 19) rfl rfl
theorem ml_J7_150 : Cond.methodLink RJ7 150 arraycopyName ∈ LW := LW_t tb3 (k := 224) rfl rfl
theorem ml_X10_440 : Cond.methodLink RX10 440 arraycopyName ∈ LW := LW_t tb5 (k := 79) rfl rfl
theorem ml_X8_66 : Cond.methodLink RX8 66 arraycopyName ∈ LW := LW_t tb5 (k := 145) rfl rfl
theorem ml_X3_56 : Cond.methodLink RX3 56 arraycopyName ∈ LW := LW_t tb6 (k := 37) rfl rfl
theorem mm_i : Cond.initialized "java/lang/Math" ∈ LW := LW_t tb1 (k := 12) rfl rfl
theorem mm_s_min : Cond.static Lib.Math.min.name ∈ LW := LW_t tb2 (k := 231) rfl rfl
theorem mm_c_min : Cond.code Lib.Math.min.name Lib.Math.min.code 2 (some .int) ∈ LW := LW_t tb2 (k := 232) rfl rfl
theorem mm_X7_33 : Cond.methodLink RX7 33 Lib.Math.min.name ∈ LW := LW_t tb2 (k := 230) rfl rfl
theorem mm_X9_89 : Cond.methodLink RX9 89 Lib.Math.min.name ∈ LW := LW_t tb4 (k := 107) rfl rfl
theorem mm_X4_47 : Cond.methodLink RX4 47 Lib.Math.min.name ∈ LW := LW_t tb4 (k := 109) rfl rfl
theorem mm_X0_89 : Cond.methodLink RX0 89 Lib.Math.min.name ∈ LW := LW_t tb5 (k := 60) rfl rfl
theorem mm_X10_437 : Cond.methodLink RX10 437 Lib.Math.min.name ∈ LW := LW_t tb5 (k := 84) rfl rfl
theorem mm_X2_99 : Cond.methodLink RX2 99 Lib.Math.min.name ∈ LW := LW_t tb7 (k := 49) rfl rfl
theorem mm_s_max : Cond.static Lib.Math.max.name ∈ LW := LW_t tb3 (k := 94) rfl rfl
theorem mm_c_max : Cond.code Lib.Math.max.name Lib.Math.max.code 2 (some .int) ∈ LW := LW_t tb3 (k := 95) rfl rfl
theorem mm_X9_94 : Cond.methodLink RX9 94 Lib.Math.max.name ∈ LW := LW_t tb4 (k := 108) rfl rfl
theorem mm_X4_53 : Cond.methodLink RX4 53 Lib.Math.max.name ∈ LW := LW_t tb4 (k := 197) rfl rfl
theorem mm_X10_446 : Cond.methodLink RX10 446 Lib.Math.max.name ∈ LW := LW_t tb5 (k := 89) rfl rfl
theorem mm_s_absl : Cond.static Lib.MathLoose.abs_long.x ∈ LW := LW_t tb6 (k := 9) rfl rfl
theorem mm_c_absl : Cond.code Lib.MathLoose.abs_long.x Lib.MathLoose.abs_long.code 2 (some .long) ∈ LW := LW_t tb6 (k := 10) rfl rfl
theorem mm_X10_409 : Cond.methodLink RX10 409 Lib.MathLoose.abs_long.x ∈ LW := LW_t tb6 (k := 8) rfl rfl
