theorem tb1 {w : Cond} (h : w ∈ tables_1_1) : w ∈ lw_tbl := List.mem_append_right _ (List.mem_append_left _ h)
theorem tb2 {w : Cond} (h : w ∈ tables_1_2) : w ∈ lw_tbl := List.mem_append_right _ (List.mem_append_right _ (List.mem_append_left _ h))
theorem tb3 {w : Cond} (h : w ∈ tables_1_3) : w ∈ lw_tbl := List.mem_append_right _ (List.mem_append_right _ (List.mem_append_right _ (List.mem_append_left _ h)))
theorem tb4 {w : Cond} (h : w ∈ tables_1_4) : w ∈ lw_tbl := List.mem_append_right _ (List.mem_append_right _ (List.mem_append_right _ (List.mem_append_right _ (List.mem_append_left _ h))))
theorem tb5 {w : Cond} (h : w ∈ tables_1_5) : w ∈ lw_tbl := List.mem_append_right _ (List.mem_append_right _ (List.mem_append_right _ (List.mem_append_right _ (List.mem_append_right _ (List.mem_append_left _ h)))))
theorem tb6 {w : Cond} (h : w ∈ tables_1_6) : w ∈ lw_tbl := List.mem_append_right _ (List.mem_append_right _ (List.mem_append_right _ (List.mem_append_right _ (List.mem_append_right _ (List.mem_append_right _ (h))))))
theorem i_X0 : ∀ w ∈ u_ws RX0 TX0 2, w ∈ lw_good := by
  intro w hw
  obtain ⟨k, hk, rfl⟩ := List.mem_map.mp hw
  have hk := List.mem_range.mp hk
  match k, hk with
  | 0, _ => exact lw_mem (tb1 (List.mem_of_getElem? (i := 88) rfl)) rfl
  | 1, _ => exact lw_mem (tb1 (List.mem_of_getElem? (i := 90) rfl)) rfl
  | k + 2, hk => omega
theorem i_X1 : ∀ w ∈ u_ws RX1 TX1 5, w ∈ lw_good := by
  intro w hw
  obtain ⟨k, hk, rfl⟩ := List.mem_map.mp hw
  have hk := List.mem_range.mp hk
  match k, hk with
  | 0, _ => exact lw_mem (tb1 (List.mem_of_getElem? (i := 53) rfl)) rfl
  | 1, _ => exact lw_mem (tb1 (List.mem_of_getElem? (i := 55) rfl)) rfl
  | 2, _ => exact lw_mem (tb1 (List.mem_of_getElem? (i := 57) rfl)) rfl
  | 3, _ => exact lw_mem (tb1 (List.mem_of_getElem? (i := 59) rfl)) rfl
  | 4, _ => exact lw_mem (tb1 (List.mem_of_getElem? (i := 61) rfl)) rfl
  | k + 5, hk => omega
theorem i_X2 : ∀ w ∈ u_ws RX2 TX2 1, w ∈ lw_good := by
  intro w hw
  obtain ⟨k, hk, rfl⟩ := List.mem_map.mp hw
  have hk := List.mem_range.mp hk
  match k, hk with
  | 0, _ => exact lw_mem (tb1 (List.mem_of_getElem? (i := 71) rfl)) rfl
  | k + 1, hk => omega
theorem i_X3 : ∀ w ∈ u_ws RX3 TX3 9, w ∈ lw_good := by
  intro w hw
  obtain ⟨k, hk, rfl⟩ := List.mem_map.mp hw
  have hk := List.mem_range.mp hk
  match k, hk with
  | 0, _ => exact lw_mem (tb1 (List.mem_of_getElem? (i := 155) rfl)) rfl
  | 1, _ => exact lw_mem (tb1 (List.mem_of_getElem? (i := 157) rfl)) rfl
  | 2, _ => exact lw_mem (tb1 (List.mem_of_getElem? (i := 159) rfl)) rfl
  | 3, _ => exact lw_mem (tb1 (List.mem_of_getElem? (i := 161) rfl)) rfl
  | 4, _ => exact lw_mem (tb1 (List.mem_of_getElem? (i := 163) rfl)) rfl
  | 5, _ => exact lw_mem (tb1 (List.mem_of_getElem? (i := 165) rfl)) rfl
  | 6, _ => exact lw_mem (tb1 (List.mem_of_getElem? (i := 167) rfl)) rfl
  | 7, _ => exact lw_mem (tb1 (List.mem_of_getElem? (i := 169) rfl)) rfl
  | 8, _ => exact lw_mem (tb1 (List.mem_of_getElem? (i := 171) rfl)) rfl
  | k + 9, hk => omega
theorem i_X4 : ∀ w ∈ u_ws RX4 TX4 6, w ∈ lw_good := by
  intro w hw
  obtain ⟨k, hk, rfl⟩ := List.mem_map.mp hw
  have hk := List.mem_range.mp hk
  match k, hk with
  | 0, _ => exact lw_mem (tb1 (List.mem_of_getElem? (i := 133) rfl)) rfl
  | 1, _ => exact lw_mem (tb1 (List.mem_of_getElem? (i := 135) rfl)) rfl
  | 2, _ => exact lw_mem (tb1 (List.mem_of_getElem? (i := 137) rfl)) rfl
  | 3, _ => exact lw_mem (tb1 (List.mem_of_getElem? (i := 139) rfl)) rfl
  | 4, _ => exact lw_mem (tb1 (List.mem_of_getElem? (i := 141) rfl)) rfl
  | 5, _ => exact lw_mem (tb1 (List.mem_of_getElem? (i := 143) rfl)) rfl
  | k + 6, hk => omega
theorem i_X5 : ∀ w ∈ u_ws RX5 TX5 6, w ∈ lw_good := by
  intro w hw
  obtain ⟨k, hk, rfl⟩ := List.mem_map.mp hw
  have hk := List.mem_range.mp hk
  match k, hk with
  | 0, _ => exact lw_mem (tb1 (List.mem_of_getElem? (i := 194) rfl)) rfl
  | 1, _ => exact lw_mem (tb1 (List.mem_of_getElem? (i := 196) rfl)) rfl
  | 2, _ => exact lw_mem (tb1 (List.mem_of_getElem? (i := 198) rfl)) rfl
  | 3, _ => exact lw_mem (tb1 (List.mem_of_getElem? (i := 200) rfl)) rfl
  | 4, _ => exact lw_mem (tb1 (List.mem_of_getElem? (i := 202) rfl)) rfl
  | 5, _ => exact lw_mem (tb1 (List.mem_of_getElem? (i := 204) rfl)) rfl
  | k + 6, hk => omega
theorem i_X6 : ∀ w ∈ u_ws RX6 TX6 2, w ∈ lw_good := by
  intro w hw
  obtain ⟨k, hk, rfl⟩ := List.mem_map.mp hw
  have hk := List.mem_range.mp hk
  match k, hk with
  | 0, _ => exact lw_mem (tb1 (List.mem_of_getElem? (i := 36) rfl)) rfl
  | 1, _ => exact lw_mem (tb1 (List.mem_of_getElem? (i := 38) rfl)) rfl
  | k + 2, hk => omega
theorem i_X7 : ∀ w ∈ u_ws RX7 TX7 1, w ∈ lw_good := by
  intro w hw
  obtain ⟨k, hk, rfl⟩ := List.mem_map.mp hw
  have hk := List.mem_range.mp hk
  match k, hk with
  | 0, _ => exact lw_mem (tb2 (List.mem_of_getElem? (i := 14) rfl)) rfl
  | k + 1, hk => omega
theorem i_X8 : ∀ w ∈ u_ws RX8 TX8 7, w ∈ lw_good := by
  intro w hw
  obtain ⟨k, hk, rfl⟩ := List.mem_map.mp hw
  have hk := List.mem_range.mp hk
  match k, hk with
  | 0, _ => exact lw_mem (tb1 (List.mem_of_getElem? (i := 106) rfl)) rfl
  | 1, _ => exact lw_mem (tb1 (List.mem_of_getElem? (i := 108) rfl)) rfl
  | 2, _ => exact lw_mem (tb1 (List.mem_of_getElem? (i := 110) rfl)) rfl
  | 3, _ => exact lw_mem (tb1 (List.mem_of_getElem? (i := 112) rfl)) rfl
  | 4, _ => exact lw_mem (tb1 (List.mem_of_getElem? (i := 114) rfl)) rfl
  | 5, _ => exact lw_mem (tb1 (List.mem_of_getElem? (i := 116) rfl)) rfl
  | 6, _ => exact lw_mem (tb1 (List.mem_of_getElem? (i := 118) rfl)) rfl
  | k + 7, hk => omega
theorem i_X9 : ∀ w ∈ u_ws RX9 TX9 11, w ∈ lw_good := by
  intro w hw
  obtain ⟨k, hk, rfl⟩ := List.mem_map.mp hw
  have hk := List.mem_range.mp hk
  match k, hk with
  | 0, _ => exact lw_mem (tb1 (List.mem_of_getElem? (i := 224) rfl)) rfl
  | 1, _ => exact lw_mem (tb1 (List.mem_of_getElem? (i := 226) rfl)) rfl
  | 2, _ => exact lw_mem (tb1 (List.mem_of_getElem? (i := 228) rfl)) rfl
  | 3, _ => exact lw_mem (tb1 (List.mem_of_getElem? (i := 230) rfl)) rfl
  | 4, _ => exact lw_mem (tb1 (List.mem_of_getElem? (i := 232) rfl)) rfl
  | 5, _ => exact lw_mem (tb1 (List.mem_of_getElem? (i := 234) rfl)) rfl
  | 6, _ => exact lw_mem (tb1 (List.mem_of_getElem? (i := 236) rfl)) rfl
  | 7, _ => exact lw_mem (tb1 (List.mem_of_getElem? (i := 238) rfl)) rfl
  | 8, _ => exact lw_mem (tb2 (List.mem_of_getElem? (i := 0) rfl)) rfl
  | 9, _ => exact lw_mem (tb2 (List.mem_of_getElem? (i := 2) rfl)) rfl
  | 10, _ => exact lw_mem (tb2 (List.mem_of_getElem? (i := 4) rfl)) rfl
  | k + 11, hk => omega
theorem i_X10 : ∀ w ∈ u_ws RX10 TX10 14, w ∈ lw_good := by
  intro w hw
  obtain ⟨k, hk, rfl⟩ := List.mem_map.mp hw
  have hk := List.mem_range.mp hk
  match k, hk with
  | 0, _ => exact lw_mem (tb2 (List.mem_of_getElem? (i := 34) rfl)) rfl
  | 1, _ => exact lw_mem (tb2 (List.mem_of_getElem? (i := 36) rfl)) rfl
  | 2, _ => exact lw_mem (tb2 (List.mem_of_getElem? (i := 38) rfl)) rfl
  | 3, _ => exact lw_mem (tb2 (List.mem_of_getElem? (i := 40) rfl)) rfl
  | 4, _ => exact lw_mem (tb2 (List.mem_of_getElem? (i := 42) rfl)) rfl
  | 5, _ => exact lw_mem (tb2 (List.mem_of_getElem? (i := 44) rfl)) rfl
  | 6, _ => exact lw_mem (tb2 (List.mem_of_getElem? (i := 46) rfl)) rfl
  | 7, _ => exact lw_mem (tb2 (List.mem_of_getElem? (i := 48) rfl)) rfl
  | 8, _ => exact lw_mem (tb2 (List.mem_of_getElem? (i := 50) rfl)) rfl
  | 9, _ => exact lw_mem (tb2 (List.mem_of_getElem? (i := 52) rfl)) rfl
  | 10, _ => exact lw_mem (tb2 (List.mem_of_getElem? (i := 54) rfl)) rfl
  | 11, _ => exact lw_mem (tb2 (List.mem_of_getElem? (i := 56) rfl)) rfl
  | 12, _ => exact lw_mem (tb2 (List.mem_of_getElem? (i := 58) rfl)) rfl
  | 13, _ => exact lw_mem (tb2 (List.mem_of_getElem? (i := 60) rfl)) rfl
  | k + 14, hk => omega
theorem i_X11 : ∀ w ∈ u_ws RX11 TX11 35, w ∈ lw_good := by
  intro w hw
  obtain ⟨k, hk, rfl⟩ := List.mem_map.mp hw
  have hk := List.mem_range.mp hk
  match k, hk with
  | 0, _ => exact lw_mem (tb4 (List.mem_of_getElem? (i := 238) rfl)) rfl
  | 1, _ => exact lw_mem (tb5 (List.mem_of_getElem? (i := 0) rfl)) rfl
  | 2, _ => exact lw_mem (tb5 (List.mem_of_getElem? (i := 2) rfl)) rfl
  | 3, _ => exact lw_mem (tb5 (List.mem_of_getElem? (i := 4) rfl)) rfl
  | 4, _ => exact lw_mem (tb5 (List.mem_of_getElem? (i := 6) rfl)) rfl
  | 5, _ => exact lw_mem (tb5 (List.mem_of_getElem? (i := 8) rfl)) rfl
  | 6, _ => exact lw_mem (tb5 (List.mem_of_getElem? (i := 10) rfl)) rfl
  | 7, _ => exact lw_mem (tb5 (List.mem_of_getElem? (i := 12) rfl)) rfl
  | 8, _ => exact lw_mem (tb5 (List.mem_of_getElem? (i := 14) rfl)) rfl
  | 9, _ => exact lw_mem (tb5 (List.mem_of_getElem? (i := 16) rfl)) rfl
  | 10, _ => exact lw_mem (tb5 (List.mem_of_getElem? (i := 18) rfl)) rfl
  | 11, _ => exact lw_mem (tb5 (List.mem_of_getElem? (i := 20) rfl)) rfl
  | 12, _ => exact lw_mem (tb5 (List.mem_of_getElem? (i := 22) rfl)) rfl
  | 13, _ => exact lw_mem (tb5 (List.mem_of_getElem? (i := 24) rfl)) rfl
  | 14, _ => exact lw_mem (tb5 (List.mem_of_getElem? (i := 26) rfl)) rfl
  | 15, _ => exact lw_mem (tb5 (List.mem_of_getElem? (i := 28) rfl)) rfl
  | 16, _ => exact lw_mem (tb5 (List.mem_of_getElem? (i := 30) rfl)) rfl
  | 17, _ => exact lw_mem (tb5 (List.mem_of_getElem? (i := 32) rfl)) rfl
  | 18, _ => exact lw_mem (tb5 (List.mem_of_getElem? (i := 34) rfl)) rfl
  | 19, _ => exact lw_mem (tb5 (List.mem_of_getElem? (i := 36) rfl)) rfl
  | 20, _ => exact lw_mem (tb5 (List.mem_of_getElem? (i := 38) rfl)) rfl
  | 21, _ => exact lw_mem (tb5 (List.mem_of_getElem? (i := 40) rfl)) rfl
  | 22, _ => exact lw_mem (tb5 (List.mem_of_getElem? (i := 42) rfl)) rfl
  | 23, _ => exact lw_mem (tb5 (List.mem_of_getElem? (i := 44) rfl)) rfl
  | 24, _ => exact lw_mem (tb5 (List.mem_of_getElem? (i := 46) rfl)) rfl
  | 25, _ => exact lw_mem (tb5 (List.mem_of_getElem? (i := 48) rfl)) rfl
  | 26, _ => exact lw_mem (tb5 (List.mem_of_getElem? (i := 50) rfl)) rfl
  | 27, _ => exact lw_mem (tb5 (List.mem_of_getElem? (i := 52) rfl)) rfl
  | 28, _ => exact lw_mem (tb5 (List.mem_of_getElem? (i := 54) rfl)) rfl
  | 29, _ => exact lw_mem (tb5 (List.mem_of_getElem? (i := 56) rfl)) rfl
  | 30, _ => exact lw_mem (tb5 (List.mem_of_getElem? (i := 58) rfl)) rfl
  | 31, _ => exact lw_mem (tb5 (List.mem_of_getElem? (i := 60) rfl)) rfl
  | 32, _ => exact lw_mem (tb5 (List.mem_of_getElem? (i := 62) rfl)) rfl
  | 33, _ => exact lw_mem (tb5 (List.mem_of_getElem? (i := 64) rfl)) rfl
  | 34, _ => exact lw_mem (tb5 (List.mem_of_getElem? (i := 66) rfl)) rfl
  | k + 35, hk => omega
theorem fX6_13 : pfl RX6 13 6 0 true (.array .int) := ⟨_, _, _, tyX6, rfl, by decide, i_X6, lw_mem (tb1 (List.mem_of_getElem? (i := 34) rfl)) rfl, rfl, fun _ => rfl, by decide +kernel, tyX6_ok, nmX6⟩
theorem fX6_7 : pfl RX6 7 6 1 false (.int) := ⟨_, _, _, tyX6, rfl, by decide, i_X6, lw_mem (tb1 (List.mem_of_getElem? (i := 35) rfl)) rfl, rfl, fun _ => rfl, by decide +kernel, tyX6_ok, nmX6⟩
theorem fX1_9 : pfl RX1 9 1 0 true (.array .int) := ⟨_, _, _, tyX1, rfl, by decide, i_X1, lw_mem (tb1 (List.mem_of_getElem? (i := 48) rfl)) rfl, rfl, fun _ => rfl, by decide +kernel, tyX1_ok, nmX1⟩
theorem fX1_15 : pfl RX1 15 1 1 true (.array .int) := ⟨_, _, _, tyX1, rfl, by decide, i_X1, lw_mem (tb1 (List.mem_of_getElem? (i := 49) rfl)) rfl, rfl, fun _ => rfl, by decide +kernel, tyX1_ok, nmX1⟩
theorem fX1_18 : pfl RX1 18 1 2 false (.int) := ⟨_, _, _, tyX1, rfl, by decide, i_X1, lw_mem (tb1 (List.mem_of_getElem? (i := 50) rfl)) rfl, rfl, fun _ => rfl, by decide +kernel, tyX1_ok, nmX1⟩
theorem fX1_22 : pfl RX1 22 1 3 true (.array .int) := ⟨_, _, _, tyX1, rfl, by decide, i_X1, lw_mem (tb1 (List.mem_of_getElem? (i := 51) rfl)) rfl, rfl, fun _ => rfl, by decide +kernel, tyX1_ok, nmX1⟩
theorem fX1_25 : pfl RX1 25 1 4 false (.int) := ⟨_, _, _, tyX1, rfl, by decide, i_X1, lw_mem (tb1 (List.mem_of_getElem? (i := 52) rfl)) rfl, rfl, fun _ => rfl, by decide +kernel, tyX1_ok, nmX1⟩
theorem fX2_9 : pfl RX2 9 2 0 true (.array .int) := ⟨_, _, _, tyX2, rfl, by decide, i_X2, lw_mem (tb1 (List.mem_of_getElem? (i := 70) rfl)) rfl, rfl, fun _ => rfl, by decide +kernel, tyX2_ok, nmX2⟩
theorem fX0_7 : pfl RX0 7 0 0 false (.int) := ⟨_, _, _, tyX0, rfl, by decide, i_X0, lw_mem (tb1 (List.mem_of_getElem? (i := 86) rfl)) rfl, rfl, fun _ => rfl, by decide +kernel, tyX0_ok, nmX0⟩
theorem fX0_13 : pfl RX0 13 0 1 false (.int) := ⟨_, _, _, tyX0, rfl, by decide, i_X0, lw_mem (tb1 (List.mem_of_getElem? (i := 87) rfl)) rfl, rfl, fun _ => rfl, by decide +kernel, tyX0_ok, nmX0⟩
theorem fX8_9 : pfl RX8 9 8 0 true (.array .int) := ⟨_, _, _, tyX8, rfl, by decide, i_X8, lw_mem (tb1 (List.mem_of_getElem? (i := 99) rfl)) rfl, rfl, fun _ => rfl, by decide +kernel, tyX8_ok, nmX8⟩
theorem fX8_15 : pfl RX8 15 8 1 true (.array .int) := ⟨_, _, _, tyX8, rfl, by decide, i_X8, lw_mem (tb1 (List.mem_of_getElem? (i := 100) rfl)) rfl, rfl, fun _ => rfl, by decide +kernel, tyX8_ok, nmX8⟩
theorem fX8_18 : pfl RX8 18 8 2 true (.array .int) := ⟨_, _, _, tyX8, rfl, by decide, i_X8, lw_mem (tb1 (List.mem_of_getElem? (i := 101) rfl)) rfl, rfl, fun _ => rfl, by decide +kernel, tyX8_ok, nmX8⟩
theorem fX8_21 : pfl RX8 21 8 3 true (.array .int) := ⟨_, _, _, tyX8, rfl, by decide, i_X8, lw_mem (tb1 (List.mem_of_getElem? (i := 102) rfl)) rfl, rfl, fun _ => rfl, by decide +kernel, tyX8_ok, nmX8⟩
theorem fX8_24 : pfl RX8 24 8 4 false (.int) := ⟨_, _, _, tyX8, rfl, by decide, i_X8, lw_mem (tb1 (List.mem_of_getElem? (i := 103) rfl)) rfl, rfl, fun _ => rfl, by decide +kernel, tyX8_ok, nmX8⟩
theorem fX8_28 : pfl RX8 28 8 5 false (.int) := ⟨_, _, _, tyX8, rfl, by decide, i_X8, lw_mem (tb1 (List.mem_of_getElem? (i := 104) rfl)) rfl, rfl, fun _ => rfl, by decide +kernel, tyX8_ok, nmX8⟩
theorem fX8_31 : pfl RX8 31 8 6 false (.int) := ⟨_, _, _, tyX8, rfl, by decide, i_X8, lw_mem (tb1 (List.mem_of_getElem? (i := 105) rfl)) rfl, rfl, fun _ => rfl, by decide +kernel, tyX8_ok, nmX8⟩
theorem fX4_9 : pfl RX4 9 4 0 true (.array .int) := ⟨_, _, _, tyX4, rfl, by decide, i_X4, lw_mem (tb1 (List.mem_of_getElem? (i := 127) rfl)) rfl, rfl, fun _ => rfl, by decide +kernel, tyX4_ok, nmX4⟩
theorem fX4_15 : pfl RX4 15 4 1 true (.array .int) := ⟨_, _, _, tyX4, rfl, by decide, i_X4, lw_mem (tb1 (List.mem_of_getElem? (i := 128) rfl)) rfl, rfl, fun _ => rfl, by decide +kernel, tyX4_ok, nmX4⟩
theorem fX4_18 : pfl RX4 18 4 2 true (.array .int) := ⟨_, _, _, tyX4, rfl, by decide, i_X4, lw_mem (tb1 (List.mem_of_getElem? (i := 129) rfl)) rfl, rfl, fun _ => rfl, by decide +kernel, tyX4_ok, nmX4⟩
theorem fX4_21 : pfl RX4 21 4 3 true (.array .int) := ⟨_, _, _, tyX4, rfl, by decide, i_X4, lw_mem (tb1 (List.mem_of_getElem? (i := 130) rfl)) rfl, rfl, fun _ => rfl, by decide +kernel, tyX4_ok, nmX4⟩
theorem fX4_24 : pfl RX4 24 4 4 true (.array .int) := ⟨_, _, _, tyX4, rfl, by decide, i_X4, lw_mem (tb1 (List.mem_of_getElem? (i := 131) rfl)) rfl, rfl, fun _ => rfl, by decide +kernel, tyX4_ok, nmX4⟩
theorem fX4_27 : pfl RX4 27 4 5 false (.int) := ⟨_, _, _, tyX4, rfl, by decide, i_X4, lw_mem (tb1 (List.mem_of_getElem? (i := 132) rfl)) rfl, rfl, fun _ => rfl, by decide +kernel, tyX4_ok, nmX4⟩
theorem fX3_9 : pfl RX3 9 3 0 true (.array .int) := ⟨_, _, _, tyX3, rfl, by decide, i_X3, lw_mem (tb1 (List.mem_of_getElem? (i := 146) rfl)) rfl, rfl, fun _ => rfl, by decide +kernel, tyX3_ok, nmX3⟩
theorem fX3_15 : pfl RX3 15 3 1 true (.array .int) := ⟨_, _, _, tyX3, rfl, by decide, i_X3, lw_mem (tb1 (List.mem_of_getElem? (i := 147) rfl)) rfl, rfl, fun _ => rfl, by decide +kernel, tyX3_ok, nmX3⟩
theorem fX3_18 : pfl RX3 18 3 2 true (.array .int) := ⟨_, _, _, tyX3, rfl, by decide, i_X3, lw_mem (tb1 (List.mem_of_getElem? (i := 148) rfl)) rfl, rfl, fun _ => rfl, by decide +kernel, tyX3_ok, nmX3⟩
theorem fX3_21 : pfl RX3 21 3 3 true (.array .int) := ⟨_, _, _, tyX3, rfl, by decide, i_X3, lw_mem (tb1 (List.mem_of_getElem? (i := 149) rfl)) rfl, rfl, fun _ => rfl, by decide +kernel, tyX3_ok, nmX3⟩
theorem fX3_27 : pfl RX3 27 3 4 true (.object "ChainChoice$BitWriter") := ⟨_, _, _, tyX3, rfl, by decide, i_X3, lw_mem (tb1 (List.mem_of_getElem? (i := 150) rfl)) rfl, rfl, fun _ => rfl, by decide +kernel, tyX3_ok, nmX3⟩
theorem fX3_34 : pfl RX3 34 3 5 true (.object "ChainChoice$Tree") := ⟨_, _, _, tyX3, rfl, by decide, i_X3, lw_mem (tb1 (List.mem_of_getElem? (i := 151) rfl)) rfl, rfl, fun _ => rfl, by decide +kernel, tyX3_ok, nmX3⟩
theorem fX3_41 : pfl RX3 41 3 6 true (.object "ChainChoice$PrefixCode") := ⟨_, _, _, tyX3, rfl, by decide, i_X3, lw_mem (tb1 (List.mem_of_getElem? (i := 152) rfl)) rfl, rfl, fun _ => rfl, by decide +kernel, tyX3_ok, nmX3⟩
theorem fX3_45 : pfl RX3 45 3 7 false (.int) := ⟨_, _, _, tyX3, rfl, by decide, i_X3, lw_mem (tb1 (List.mem_of_getElem? (i := 153) rfl)) rfl, rfl, fun _ => rfl, by decide +kernel, tyX3_ok, nmX3⟩
theorem fX3_49 : pfl RX3 49 3 8 false (.int) := ⟨_, _, _, tyX3, rfl, by decide, i_X3, lw_mem (tb1 (List.mem_of_getElem? (i := 154) rfl)) rfl, rfl, fun _ => rfl, by decide +kernel, tyX3_ok, nmX3⟩
theorem fX5_14 : pfl RX5 14 5 0 false (.object "ChainChoice$Row") := ⟨_, _, _, tyX5, rfl, by decide, i_X5, lw_mem (tb1 (List.mem_of_getElem? (i := 188) rfl)) rfl, rfl, fun _ => rfl, by decide +kernel, tyX5_ok, nmX5⟩
theorem fX5_20 : pfl RX5 20 5 1 false (.int) := ⟨_, _, _, tyX5, rfl, by decide, i_X5, lw_mem (tb1 (List.mem_of_getElem? (i := 189) rfl)) rfl, rfl, fun _ => rfl, by decide +kernel, tyX5_ok, nmX5⟩
theorem fX5_24 : pfl RX5 24 5 2 false (.int) := ⟨_, _, _, tyX5, rfl, by decide, i_X5, lw_mem (tb1 (List.mem_of_getElem? (i := 190) rfl)) rfl, rfl, fun _ => rfl, by decide +kernel, tyX5_ok, nmX5⟩
theorem fX5_27 : pfl RX5 27 5 3 false (.int) := ⟨_, _, _, tyX5, rfl, by decide, i_X5, lw_mem (tb1 (List.mem_of_getElem? (i := 191) rfl)) rfl, rfl, fun _ => rfl, by decide +kernel, tyX5_ok, nmX5⟩
theorem fX5_30 : pfl RX5 30 5 4 false (.int) := ⟨_, _, _, tyX5, rfl, by decide, i_X5, lw_mem (tb1 (List.mem_of_getElem? (i := 192) rfl)) rfl, rfl, fun _ => rfl, by decide +kernel, tyX5_ok, nmX5⟩
theorem fX5_33 : pfl RX5 33 5 5 false (.int) := ⟨_, _, _, tyX5, rfl, by decide, i_X5, lw_mem (tb1 (List.mem_of_getElem? (i := 193) rfl)) rfl, rfl, fun _ => rfl, by decide +kernel, tyX5_ok, nmX5⟩
theorem fX9_12 : pfl RX9 12 9 0 true (.object "ChainChoice$Reader") := ⟨_, _, _, tyX9, rfl, by decide, i_X9, lw_mem (tb1 (List.mem_of_getElem? (i := 213) rfl)) rfl, rfl, fun _ => rfl, by decide +kernel, tyX9_ok, nmX9⟩
theorem fX9_18 : pfl RX9 18 9 1 true (.array .int) := ⟨_, _, _, tyX9, rfl, by decide, i_X9, lw_mem (tb1 (List.mem_of_getElem? (i := 214) rfl)) rfl, rfl, fun _ => rfl, by decide +kernel, tyX9_ok, nmX9⟩
theorem fX9_22 : pfl RX9 22 9 2 true (.array .int) := ⟨_, _, _, tyX9, rfl, by decide, i_X9, lw_mem (tb1 (List.mem_of_getElem? (i := 215) rfl)) rfl, rfl, fun _ => rfl, by decide +kernel, tyX9_ok, nmX9⟩
theorem fX9_25 : pfl RX9 25 9 3 true (.array .int) := ⟨_, _, _, tyX9, rfl, by decide, i_X9, lw_mem (tb1 (List.mem_of_getElem? (i := 216) rfl)) rfl, rfl, fun _ => rfl, by decide +kernel, tyX9_ok, nmX9⟩
theorem fX9_31 : pfl RX9 31 9 4 true (.object "ChainChoice$PrefixCode") := ⟨_, _, _, tyX9, rfl, by decide, i_X9, lw_mem (tb1 (List.mem_of_getElem? (i := 217) rfl)) rfl, rfl, fun _ => rfl, by decide +kernel, tyX9_ok, nmX9⟩
theorem fX9_38 : pfl RX9 38 9 5 true (.object "ChainChoice$Filters") := ⟨_, _, _, tyX9, rfl, by decide, i_X9, lw_mem (tb1 (List.mem_of_getElem? (i := 218) rfl)) rfl, rfl, fun _ => rfl, by decide +kernel, tyX9_ok, nmX9⟩
theorem fX9_47 : pfl RX9 47 9 6 true (.object "ChainChoice$Row") := ⟨_, _, _, tyX9, rfl, by decide, i_X9, lw_mem (tb1 (List.mem_of_getElem? (i := 219) rfl)) rfl, rfl, fun _ => rfl, by decide +kernel, tyX9_ok, nmX9⟩
theorem fX9_51 : pfl RX9 51 9 7 true (.object "ChainChoice$Row") := ⟨_, _, _, tyX9, rfl, by decide, i_X9, lw_mem (tb1 (List.mem_of_getElem? (i := 220) rfl)) rfl, rfl, fun _ => rfl, by decide +kernel, tyX9_ok, nmX9⟩
theorem fX9_54 : pfl RX9 54 9 8 false (.int) := ⟨_, _, _, tyX9, rfl, by decide, i_X9, lw_mem (tb1 (List.mem_of_getElem? (i := 221) rfl)) rfl, rfl, fun _ => rfl, by decide +kernel, tyX9_ok, nmX9⟩
theorem fX9_58 : pfl RX9 58 9 9 false (.int) := ⟨_, _, _, tyX9, rfl, by decide, i_X9, lw_mem (tb1 (List.mem_of_getElem? (i := 222) rfl)) rfl, rfl, fun _ => rfl, by decide +kernel, tyX9_ok, nmX9⟩
theorem fX9_61 : pfl RX9 61 9 10 false (.int) := ⟨_, _, _, tyX9, rfl, by decide, i_X9, lw_mem (tb1 (List.mem_of_getElem? (i := 223) rfl)) rfl, rfl, fun _ => rfl, by decide +kernel, tyX9_ok, nmX9⟩
theorem fX7_9 : pfl RX7 9 7 0 true (.array .int) := ⟨_, _, _, tyX7, rfl, by decide, i_X7, lw_mem (tb2 (List.mem_of_getElem? (i := 13) rfl)) rfl, rfl, fun _ => rfl, by decide +kernel, tyX7_ok, nmX7⟩
theorem fX10_14 : pfl RX10 14 10 0 true (.object "ChainChoice$Row") := ⟨_, _, _, tyX10, rfl, by decide, i_X10, lw_mem (tb2 (List.mem_of_getElem? (i := 20) rfl)) rfl, rfl, fun _ => rfl, by decide +kernel, tyX10_ok, nmX10⟩
theorem fX10_18 : pfl RX10 18 10 1 true (.object "ChainChoice$Row") := ⟨_, _, _, tyX10, rfl, by decide, i_X10, lw_mem (tb2 (List.mem_of_getElem? (i := 21) rfl)) rfl, rfl, fun _ => rfl, by decide +kernel, tyX10_ok, nmX10⟩
theorem fX10_21 : pfl RX10 21 10 2 true (.object "ChainChoice$Row") := ⟨_, _, _, tyX10, rfl, by decide, i_X10, lw_mem (tb2 (List.mem_of_getElem? (i := 22) rfl)) rfl, rfl, fun _ => rfl, by decide +kernel, tyX10_ok, nmX10⟩
theorem fX10_24 : pfl RX10 24 10 3 true (.object "ChainChoice$Row") := ⟨_, _, _, tyX10, rfl, by decide, i_X10, lw_mem (tb2 (List.mem_of_getElem? (i := 23) rfl)) rfl, rfl, fun _ => rfl, by decide +kernel, tyX10_ok, nmX10⟩
theorem fX10_27 : pfl RX10 27 10 4 true (.object "ChainChoice$Row") := ⟨_, _, _, tyX10, rfl, by decide, i_X10, lw_mem (tb2 (List.mem_of_getElem? (i := 24) rfl)) rfl, rfl, fun _ => rfl, by decide +kernel, tyX10_ok, nmX10⟩
theorem fX10_33 : pfl RX10 33 10 5 true (.object "ChainChoice$Chains") := ⟨_, _, _, tyX10, rfl, by decide, i_X10, lw_mem (tb2 (List.mem_of_getElem? (i := 25) rfl)) rfl, rfl, fun _ => rfl, by decide +kernel, tyX10_ok, nmX10⟩
theorem fX10_40 : pfl RX10 40 10 6 true (.object "ChainChoice$Filters") := ⟨_, _, _, tyX10, rfl, by decide, i_X10, lw_mem (tb2 (List.mem_of_getElem? (i := 26) rfl)) rfl, rfl, fun _ => rfl, by decide +kernel, tyX10_ok, nmX10⟩
theorem fX10_47 : pfl RX10 47 10 7 true (.object "ChainChoice$Packers") := ⟨_, _, _, tyX10, rfl, by decide, i_X10, lw_mem (tb2 (List.mem_of_getElem? (i := 27) rfl)) rfl, rfl, fun _ => rfl, by decide +kernel, tyX10_ok, nmX10⟩
theorem fX10_54 : pfl RX10 54 10 8 true (.object "ChainChoice$Unpacker") := ⟨_, _, _, tyX10, rfl, by decide, i_X10, lw_mem (tb2 (List.mem_of_getElem? (i := 28) rfl)) rfl, rfl, fun _ => rfl, by decide +kernel, tyX10_ok, nmX10⟩
theorem fX10_61 : pfl RX10 61 10 9 true (.object "ChainChoice$Traits") := ⟨_, _, _, tyX10, rfl, by decide, i_X10, lw_mem (tb2 (List.mem_of_getElem? (i := 29) rfl)) rfl, rfl, fun _ => rfl, by decide +kernel, tyX10_ok, nmX10⟩
theorem fX10_65 : pfl RX10 65 10 10 true (.array .int) := ⟨_, _, _, tyX10, rfl, by decide, i_X10, lw_mem (tb2 (List.mem_of_getElem? (i := 30) rfl)) rfl, rfl, fun _ => rfl, by decide +kernel, tyX10_ok, nmX10⟩
theorem fX10_69 : pfl RX10 69 10 11 true (.array .int) := ⟨_, _, _, tyX10, rfl, by decide, i_X10, lw_mem (tb2 (List.mem_of_getElem? (i := 31) rfl)) rfl, rfl, fun _ => rfl, by decide +kernel, tyX10_ok, nmX10⟩
theorem fX10_72 : pfl RX10 72 10 12 false (.boolean) := ⟨_, _, _, tyX10, rfl, by decide, i_X10, lw_mem (tb2 (List.mem_of_getElem? (i := 32) rfl)) rfl, rfl, fun _ => rfl, by decide +kernel, tyX10_ok, nmX10⟩
theorem fX10_76 : pfl RX10 76 10 13 false (.int) := ⟨_, _, _, tyX10, rfl, by decide, i_X10, lw_mem (tb2 (List.mem_of_getElem? (i := 33) rfl)) rfl, rfl, fun _ => rfl, by decide +kernel, tyX10_ok, nmX10⟩
theorem fX11_65 : pfl RX11 65 11 0 false (.int) := ⟨_, _, _, tyX11, rfl, by decide, i_X11, lw_mem (tb4 (List.mem_of_getElem? (i := 203) rfl)) rfl, rfl, fun _ => rfl, by decide +kernel, tyX11_ok, nmX11⟩
theorem fX11_72 : pfl RX11 72 11 1 false (.int) := ⟨_, _, _, tyX11, rfl, by decide, i_X11, lw_mem (tb4 (List.mem_of_getElem? (i := 204) rfl)) rfl, rfl, fun _ => rfl, by decide +kernel, tyX11_ok, nmX11⟩
theorem fX11_7 : pfl RX11 7 11 2 true (.array .int) := ⟨_, _, _, tyX11, rfl, by decide, i_X11, lw_mem (tb4 (List.mem_of_getElem? (i := 205) rfl)) rfl, rfl, fun _ => rfl, by decide +kernel, tyX11_ok, nmX11⟩
theorem fX11_80 : pfl RX11 80 11 3 false (.int) := ⟨_, _, _, tyX11, rfl, by decide, i_X11, lw_mem (tb4 (List.mem_of_getElem? (i := 206) rfl)) rfl, rfl, fun _ => rfl, by decide +kernel, tyX11_ok, nmX11⟩
theorem fX11_13 : pfl RX11 13 11 4 true (.array .int) := ⟨_, _, _, tyX11, rfl, by decide, i_X11, lw_mem (tb4 (List.mem_of_getElem? (i := 207) rfl)) rfl, rfl, fun _ => rfl, by decide +kernel, tyX11_ok, nmX11⟩
theorem fX11_87 : pfl RX11 87 11 5 false (.int) := ⟨_, _, _, tyX11, rfl, by decide, i_X11, lw_mem (tb4 (List.mem_of_getElem? (i := 208) rfl)) rfl, rfl, fun _ => rfl, by decide +kernel, tyX11_ok, nmX11⟩
theorem fX11_16 : pfl RX11 16 11 6 true (.array .int) := ⟨_, _, _, tyX11, rfl, by decide, i_X11, lw_mem (tb4 (List.mem_of_getElem? (i := 209) rfl)) rfl, rfl, fun _ => rfl, by decide +kernel, tyX11_ok, nmX11⟩
theorem fX11_19 : pfl RX11 19 11 7 true (.array .int) := ⟨_, _, _, tyX11, rfl, by decide, i_X11, lw_mem (tb4 (List.mem_of_getElem? (i := 210) rfl)) rfl, rfl, fun _ => rfl, by decide +kernel, tyX11_ok, nmX11⟩
theorem fX11_90 : pfl RX11 90 11 8 false (.int) := ⟨_, _, _, tyX11, rfl, by decide, i_X11, lw_mem (tb4 (List.mem_of_getElem? (i := 211) rfl)) rfl, rfl, fun _ => rfl, by decide +kernel, tyX11_ok, nmX11⟩
theorem fX11_22 : pfl RX11 22 11 9 true (.array .int) := ⟨_, _, _, tyX11, rfl, by decide, i_X11, lw_mem (tb4 (List.mem_of_getElem? (i := 212) rfl)) rfl, rfl, fun _ => rfl, by decide +kernel, tyX11_ok, nmX11⟩
theorem fX11_100 : pfl RX11 100 11 10 false (.int) := ⟨_, _, _, tyX11, rfl, by decide, i_X11, lw_mem (tb4 (List.mem_of_getElem? (i := 213) rfl)) rfl, rfl, fun _ => rfl, by decide +kernel, tyX11_ok, nmX11⟩
theorem fX11_103 : pfl RX11 103 11 11 false (.int) := ⟨_, _, _, tyX11, rfl, by decide, i_X11, lw_mem (tb4 (List.mem_of_getElem? (i := 214) rfl)) rfl, rfl, fun _ => rfl, by decide +kernel, tyX11_ok, nmX11⟩
theorem fX11_97 : pfl RX11 97 11 12 false (.int) := ⟨_, _, _, tyX11, rfl, by decide, i_X11, lw_mem (tb4 (List.mem_of_getElem? (i := 215) rfl)) rfl, rfl, fun _ => rfl, by decide +kernel, tyX11_ok, nmX11⟩
theorem fX11_25 : pfl RX11 25 11 13 true (.array .int) := ⟨_, _, _, tyX11, rfl, by decide, i_X11, lw_mem (tb4 (List.mem_of_getElem? (i := 216) rfl)) rfl, rfl, fun _ => rfl, by decide +kernel, tyX11_ok, nmX11⟩
theorem fX11_28 : pfl RX11 28 11 14 true (.array .int) := ⟨_, _, _, tyX11, rfl, by decide, i_X11, lw_mem (tb4 (List.mem_of_getElem? (i := 217) rfl)) rfl, rfl, fun _ => rfl, by decide +kernel, tyX11_ok, nmX11⟩
theorem fX11_117 : pfl RX11 117 11 15 false (.int) := ⟨_, _, _, tyX11, rfl, by decide, i_X11, lw_mem (tb4 (List.mem_of_getElem? (i := 218) rfl)) rfl, rfl, fun _ => rfl, by decide +kernel, tyX11_ok, nmX11⟩
theorem fX11_31 : pfl RX11 31 11 16 true (.array .int) := ⟨_, _, _, tyX11, rfl, by decide, i_X11, lw_mem (tb4 (List.mem_of_getElem? (i := 219) rfl)) rfl, rfl, fun _ => rfl, by decide +kernel, tyX11_ok, nmX11⟩
theorem fX11_120 : pfl RX11 120 11 17 false (.int) := ⟨_, _, _, tyX11, rfl, by decide, i_X11, lw_mem (tb4 (List.mem_of_getElem? (i := 220) rfl)) rfl, rfl, fun _ => rfl, by decide +kernel, tyX11_ok, nmX11⟩
theorem fX11_34 : pfl RX11 34 11 18 true (.array .int) := ⟨_, _, _, tyX11, rfl, by decide, i_X11, lw_mem (tb4 (List.mem_of_getElem? (i := 221) rfl)) rfl, rfl, fun _ => rfl, by decide +kernel, tyX11_ok, nmX11⟩
theorem fX11_37 : pfl RX11 37 11 19 true (.array .int) := ⟨_, _, _, tyX11, rfl, by decide, i_X11, lw_mem (tb4 (List.mem_of_getElem? (i := 222) rfl)) rfl, rfl, fun _ => rfl, by decide +kernel, tyX11_ok, nmX11⟩
theorem fX11_40 : pfl RX11 40 11 20 true (.array .int) := ⟨_, _, _, tyX11, rfl, by decide, i_X11, lw_mem (tb4 (List.mem_of_getElem? (i := 223) rfl)) rfl, rfl, fun _ => rfl, by decide +kernel, tyX11_ok, nmX11⟩
theorem fX11_43 : pfl RX11 43 11 21 true (.array .int) := ⟨_, _, _, tyX11, rfl, by decide, i_X11, lw_mem (tb4 (List.mem_of_getElem? (i := 224) rfl)) rfl, rfl, fun _ => rfl, by decide +kernel, tyX11_ok, nmX11⟩
theorem fX11_46 : pfl RX11 46 11 22 true (.array .int) := ⟨_, _, _, tyX11, rfl, by decide, i_X11, lw_mem (tb4 (List.mem_of_getElem? (i := 225) rfl)) rfl, rfl, fun _ => rfl, by decide +kernel, tyX11_ok, nmX11⟩
theorem fX11_49 : pfl RX11 49 11 23 true (.array .int) := ⟨_, _, _, tyX11, rfl, by decide, i_X11, lw_mem (tb4 (List.mem_of_getElem? (i := 226) rfl)) rfl, rfl, fun _ => rfl, by decide +kernel, tyX11_ok, nmX11⟩
theorem fX11_68 : pfl RX11 68 11 24 false (.boolean) := ⟨_, _, _, tyX11, rfl, by decide, i_X11, lw_mem (tb4 (List.mem_of_getElem? (i := 227) rfl)) rfl, rfl, fun _ => rfl, by decide +kernel, tyX11_ok, nmX11⟩
theorem fX11_52 : pfl RX11 52 11 25 true (.array .int) := ⟨_, _, _, tyX11, rfl, by decide, i_X11, lw_mem (tb4 (List.mem_of_getElem? (i := 228) rfl)) rfl, rfl, fun _ => rfl, by decide +kernel, tyX11_ok, nmX11⟩
theorem fX11_55 : pfl RX11 55 11 26 true (.array .int) := ⟨_, _, _, tyX11, rfl, by decide, i_X11, lw_mem (tb4 (List.mem_of_getElem? (i := 229) rfl)) rfl, rfl, fun _ => rfl, by decide +kernel, tyX11_ok, nmX11⟩
theorem fX11_201 : pfl RX11 201 11 27 false (.int) := ⟨_, _, _, tyX11, rfl, by decide, i_X11, lw_mem (tb4 (List.mem_of_getElem? (i := 230) rfl)) rfl, rfl, fun _ => rfl, by decide +kernel, tyX11_ok, nmX11⟩
theorem fX11_58 : pfl RX11 58 11 28 false (.int) := ⟨_, _, _, tyX11, rfl, by decide, i_X11, lw_mem (tb4 (List.mem_of_getElem? (i := 231) rfl)) rfl, rfl, fun _ => rfl, by decide +kernel, tyX11_ok, nmX11⟩
theorem fX11_134 : pfl RX11 134 11 29 false (.int) := ⟨_, _, _, tyX11, rfl, by decide, i_X11, lw_mem (tb4 (List.mem_of_getElem? (i := 232) rfl)) rfl, rfl, fun _ => rfl, by decide +kernel, tyX11_ok, nmX11⟩
theorem fX11_137 : pfl RX11 137 11 30 false (.int) := ⟨_, _, _, tyX11, rfl, by decide, i_X11, lw_mem (tb4 (List.mem_of_getElem? (i := 233) rfl)) rfl, rfl, fun _ => rfl, by decide +kernel, tyX11_ok, nmX11⟩
theorem fX11_204 : pfl RX11 204 11 31 false (.int) := ⟨_, _, _, tyX11, rfl, by decide, i_X11, lw_mem (tb4 (List.mem_of_getElem? (i := 234) rfl)) rfl, rfl, fun _ => rfl, by decide +kernel, tyX11_ok, nmX11⟩
theorem fX11_216 : pfl RX11 216 11 32 false (.int) := ⟨_, _, _, tyX11, rfl, by decide, i_X11, lw_mem (tb4 (List.mem_of_getElem? (i := 235) rfl)) rfl, rfl, fun _ => rfl, by decide +kernel, tyX11_ok, nmX11⟩
theorem fX11_226 : pfl RX11 226 11 33 false (.int) := ⟨_, _, _, tyX11, rfl, by decide, i_X11, lw_mem (tb4 (List.mem_of_getElem? (i := 236) rfl)) rfl, rfl, fun _ => rfl, by decide +kernel, tyX11_ok, nmX11⟩
theorem fX11_210 : pfl RX11 210 11 34 false (.int) := ⟨_, _, _, tyX11, rfl, by decide, i_X11, lw_mem (tb4 (List.mem_of_getElem? (i := 237) rfl)) rfl, rfl, fun _ => rfl, by decide +kernel, tyX11_ok, nmX11⟩
abbrev mX10_init : MD := (yX10_init, cX10_init, 1, none, 4, 81)
theorem hX10_init : Cond.code yX10_init cX10_init 1 (none) ∈ lw_good := lw_mem (tb1 (List.mem_of_getElem? (i := 24) rfl)) rfl
abbrev mX6_init : MD := (yX6_init, cX6_init, 2, none, 1, 20)
theorem hX6_init : Cond.code yX6_init cX6_init 2 (none) ∈ lw_good := lw_mem (tb1 (List.mem_of_getElem? (i := 32) rfl)) rfl
abbrev mX1_init : MD := (yX1_init, cX1_init, 1, none, 1, 20)
theorem hX1_init : Cond.code yX1_init cX1_init 1 (none) ∈ lw_good := lw_mem (tb1 (List.mem_of_getElem? (i := 46) rfl)) rfl
abbrev mX2_init : MD := (yX2_init, cX2_init, 1, none, 1, 20)
theorem hX2_init : Cond.code yX2_init cX2_init 1 (none) ∈ lw_good := lw_mem (tb1 (List.mem_of_getElem? (i := 68) rfl)) rfl
abbrev mX3_init : MD := (yX3_init, cX3_init, 1, none, 2, 40)
theorem hX3_init : Cond.code yX3_init cX3_init 1 (none) ∈ lw_good := lw_mem (tb1 (List.mem_of_getElem? (i := 78) rfl)) rfl
abbrev mX0_init : MD := (yX0_init, cX0_init, 1, none, 1, 20)
theorem hX0_init : Cond.code yX0_init cX0_init 1 (none) ∈ lw_good := lw_mem (tb1 (List.mem_of_getElem? (i := 84) rfl)) rfl
abbrev mX8_init : MD := (yX8_init, cX8_init, 1, none, 1, 20)
theorem hX8_init : Cond.code yX8_init cX8_init 1 (none) ∈ lw_good := lw_mem (tb1 (List.mem_of_getElem? (i := 97) rfl)) rfl
abbrev mX4_init : MD := (yX4_init, cX4_init, 1, none, 1, 20)
theorem hX4_init : Cond.code yX4_init cX4_init 1 (none) ∈ lw_good := lw_mem (tb1 (List.mem_of_getElem? (i := 125) rfl)) rfl
abbrev mX9_init : MD := (yX9_init, cX9_init, 1, none, 3, 61)
theorem hX9_init : Cond.code yX9_init cX9_init 1 (none) ∈ lw_good := lw_mem (tb1 (List.mem_of_getElem? (i := 178) rfl)) rfl
abbrev mX5_init : MD := (yX5_init, cX5_init, 1, none, 2, 41)
theorem hX5_init : Cond.code yX5_init cX5_init 1 (none) ∈ lw_good := lw_mem (tb1 (List.mem_of_getElem? (i := 184) rfl)) rfl
abbrev mX7_init : MD := (yX7_init, cX7_init, 1, none, 1, 20)
theorem hX7_init : Cond.code yX7_init cX7_init 1 (none) ∈ lw_good := lw_mem (tb2 (List.mem_of_getElem? (i := 11) rfl)) rfl
abbrev mJ7_fill_53178 : MD := (yJ7_fill_53178, cJ7_fill_53178, 4, none, 0, 0)
theorem hJ7_fill_53178 : Cond.code yJ7_fill_53178 cJ7_fill_53178 4 (none) ∈ lw_good := lw_mem (tb2 (List.mem_of_getElem? (i := 19) rfl)) rfl
abbrev mX10_clear : MD := (yX10_clear, cX10_clear, 2, some .int, 1, 20)
theorem hX10_clear : Cond.code yX10_clear cX10_clear 2 (some .int) ∈ lw_good := lw_mem (tb2 (List.mem_of_getElem? (i := 66) rfl)) rfl
abbrev mX6_count : MD := (yX6_count, cX6_count, 1, some .int, 0, 0)
theorem hX6_count : Cond.code yX6_count cX6_count 1 (some .int) ∈ lw_good := lw_mem (tb2 (List.mem_of_getElem? (i := 70) rfl)) rfl
abbrev mX6_empty : MD := (yX6_empty, cX6_empty, 1, none, 0, 0)
theorem hX6_empty : Cond.code yX6_empty cX6_empty 1 (none) ∈ lw_good := lw_mem (tb2 (List.mem_of_getElem? (i := 74) rfl)) rfl
abbrev mX10_add : MD := (yX10_add, cX10_add, 2, some .int, 1, 21)
theorem hX10_add : Cond.code yX10_add cX10_add 2 (some .int) ∈ lw_good := lw_mem (tb2 (List.mem_of_getElem? (i := 78) rfl)) rfl
abbrev mX10_isByte : MD := (yX10_isByte, cX10_isByte, 1, some .boolean, 0, 0)
theorem hX10_isByte : Cond.code yX10_isByte cX10_isByte 1 (some .boolean) ∈ lw_good := lw_mem (tb2 (List.mem_of_getElem? (i := 81) rfl)) rfl
abbrev mX6_push : MD := (yX6_push, cX6_push, 2, none, 0, 0)
theorem hX6_push : Cond.code yX6_push cX6_push 2 (none) ∈ lw_good := lw_mem (tb2 (List.mem_of_getElem? (i := 85) rfl)) rfl
abbrev mX10_fill : MD := (yX10_fill, cX10_fill, 12, some .int, 1, 22)
theorem hX10_fill : Cond.code yX10_fill cX10_fill 12 (some .int) ∈ lw_good := lw_mem (tb2 (List.mem_of_getElem? (i := 89) rfl)) rfl
abbrev mX10_drawn : MD := (yX10_drawn, cX10_drawn, 3, some .int, 0, 0)
theorem hX10_drawn : Cond.code yX10_drawn cX10_drawn 3 (some .int) ∈ lw_good := lw_mem (tb2 (List.mem_of_getElem? (i := 93) rfl)) rfl
abbrev mX10_size : MD := (yX10_size, cX10_size, 2, some .int, 1, 21)
theorem hX10_size : Cond.code yX10_size cX10_size 2 (some .int) ∈ lw_good := lw_mem (tb2 (List.mem_of_getElem? (i := 97) rfl)) rfl
abbrev mX10_rowOf : MD := (yX10_rowOf, cX10_rowOf, 2, some (.object "ChainChoice$Row"), 0, 0)
theorem hX10_rowOf : Cond.code yX10_rowOf cX10_rowOf 2 (some (.object "ChainChoice$Row")) ∈ lw_good := lw_mem (tb2 (List.mem_of_getElem? (i := 101) rfl)) rfl
abbrev mX10_octet : MD := (yX10_octet, cX10_octet, 4, some .int, 1, 21)
theorem hX10_octet : Cond.code yX10_octet cX10_octet 4 (some .int) ∈ lw_good := lw_mem (tb2 (List.mem_of_getElem? (i := 105) rfl)) rfl
abbrev mX6_has : MD := (yX6_has, cX6_has, 2, some .boolean, 0, 0)
theorem hX6_has : Cond.code yX6_has cX6_has 2 (some .boolean) ∈ lw_good := lw_mem (tb2 (List.mem_of_getElem? (i := 109) rfl)) rfl
abbrev mX6_get : MD := (yX6_get, cX6_get, 2, some .int, 0, 0)
theorem hX6_get : Cond.code yX6_get cX6_get 2 (some .int) ∈ lw_good := lw_mem (tb2 (List.mem_of_getElem? (i := 113) rfl)) rfl
abbrev mX10_filter : MD := (yX10_filter, cX10_filter, 3, some .int, 2, 43)
theorem hX10_filter : Cond.code yX10_filter cX10_filter 3 (some .int) ∈ lw_good := lw_mem (tb2 (List.mem_of_getElem? (i := 117) rfl)) rfl
abbrev mX2_takes : MD := (yX2_takes, cX2_takes, 2, some .boolean, 0, 0)
theorem hX2_takes : Cond.code yX2_takes cX2_takes 2 (some .boolean) ∈ lw_good := lw_mem (tb2 (List.mem_of_getElem? (i := 120) rfl)) rfl
abbrev mX1_filterCount : MD := (yX1_filterCount, cX1_filterCount, 1, some .int, 0, 0)
theorem hX1_filterCount : Cond.code yX1_filterCount cX1_filterCount 1 (some .int) ∈ lw_good := lw_mem (tb2 (List.mem_of_getElem? (i := 124) rfl)) rfl
abbrev mX1_tellFilter : MD := (yX1_tellFilter, cX1_tellFilter, 3, none, 0, 0)
theorem hX1_tellFilter : Cond.code yX1_tellFilter cX1_tellFilter 3 (none) ∈ lw_good := lw_mem (tb2 (List.mem_of_getElem? (i := 128) rfl)) rfl
abbrev mX10_dropChoices : MD := (yX10_dropChoices, cX10_dropChoices, 1, none, 1, 23)
theorem hX10_dropChoices : Cond.code yX10_dropChoices cX10_dropChoices 1 (none) ∈ lw_good := lw_mem (tb2 (List.mem_of_getElem? (i := 132) rfl)) rfl
abbrev mX10_packer : MD := (yX10_packer, cX10_packer, 2, some .int, 2, 43)
theorem hX10_packer : Cond.code yX10_packer cX10_packer 2 (some .int) ∈ lw_good := lw_mem (tb2 (List.mem_of_getElem? (i := 136) rfl)) rfl
abbrev mX1_hasPacker : MD := (yX1_hasPacker, cX1_hasPacker, 3, some .boolean, 0, 0)
theorem hX1_hasPacker : Cond.code yX1_hasPacker cX1_hasPacker 3 (some .boolean) ∈ lw_good := lw_mem (tb2 (List.mem_of_getElem? (i := 140) rfl)) rfl
abbrev mX1_tellPacker : MD := (yX1_tellPacker, cX1_tellPacker, 2, none, 0, 0)
theorem hX1_tellPacker : Cond.code yX1_tellPacker cX1_tellPacker 2 (none) ∈ lw_good := lw_mem (tb2 (List.mem_of_getElem? (i := 144) rfl)) rfl
abbrev mX1_packerCount : MD := (yX1_packerCount, cX1_packerCount, 1, some .int, 0, 0)
theorem hX1_packerCount : Cond.code yX1_packerCount cX1_packerCount 1 (some .int) ∈ lw_good := lw_mem (tb2 (List.mem_of_getElem? (i := 148) rfl)) rfl
abbrev mX10_forget : MD := (yX10_forget, cX10_forget, 2, some .int, 2, 43)
theorem hX10_forget : Cond.code yX10_forget cX10_forget 2 (some .int) ∈ lw_good := lw_mem (tb2 (List.mem_of_getElem? (i := 152) rfl)) rfl
abbrev mX1_many : MD := (yX1_many, cX1_many, 2, some .int, 0, 0)
theorem hX1_many : Cond.code yX1_many cX1_many 2 (some .int) ∈ lw_good := lw_mem (tb2 (List.mem_of_getElem? (i := 156) rfl)) rfl
abbrev mX1_tellNothing : MD := (yX1_tellNothing, cX1_tellNothing, 1, none, 0, 0)
theorem hX1_tellNothing : Cond.code yX1_tellNothing cX1_tellNothing 1 (none) ∈ lw_good := lw_mem (tb2 (List.mem_of_getElem? (i := 160) rfl)) rfl
abbrev mX10_chains : MD := (yX10_chains, cX10_chains, 1, some .int, 1, 21)
theorem hX10_chains : Cond.code yX10_chains cX10_chains 1 (some .int) ∈ lw_good := lw_mem (tb2 (List.mem_of_getElem? (i := 164) rfl)) rfl
abbrev mX10_chain : MD := (yX10_chain, cX10_chain, 3, some .int, 5, 120)
theorem hX10_chain : Cond.code yX10_chain cX10_chain 3 (some .int) ∈ lw_good := lw_mem (tb2 (List.mem_of_getElem? (i := 168) rfl)) rfl
abbrev mX1_has : MD := (yX1_has, cX1_has, 2, some .boolean, 1, 21)
theorem hX1_has : Cond.code yX1_has cX1_has 2 (some .boolean) ∈ lw_good := lw_mem (tb2 (List.mem_of_getElem? (i := 172) rfl)) rfl
abbrev mX1_filterOf : MD := (yX1_filterOf, cX1_filterOf, 8, some .int, 1, 21)
theorem hX1_filterOf : Cond.code yX1_filterOf cX1_filterOf 8 (some .int) ∈ lw_good := lw_mem (tb2 (List.mem_of_getElem? (i := 177) rfl)) rfl
abbrev mX1_groupOf : MD := (yX1_groupOf, cX1_groupOf, 2, some .int, 0, 0)
theorem hX1_groupOf : Cond.code yX1_groupOf cX1_groupOf 2 (some .int) ∈ lw_good := lw_mem (tb2 (List.mem_of_getElem? (i := 181) rfl)) rfl
abbrev mX1_packerOf : MD := (yX1_packerOf, cX1_packerOf, 2, some .int, 2, 42)
theorem hX1_packerOf : Cond.code yX1_packerOf cX1_packerOf 2 (some .int) ∈ lw_good := lw_mem (tb2 (List.mem_of_getElem? (i := 185) rfl)) rfl
abbrev mX1_stepsOf : MD := (yX1_stepsOf, cX1_stepsOf, 4, some .int, 3, 69)
theorem hX1_stepsOf : Cond.code yX1_stepsOf cX1_stepsOf 4 (some .int) ∈ lw_good := lw_mem (tb2 (List.mem_of_getElem? (i := 190) rfl)) rfl
abbrev mX1_valueIn : MD := (yX1_valueIn, cX1_valueIn, 2, some .int, 0, 0)
theorem hX1_valueIn : Cond.code yX1_valueIn cX1_valueIn 2 (some .int) ∈ lw_good := lw_mem (tb2 (List.mem_of_getElem? (i := 196) rfl)) rfl
abbrev mX1_filtersIn : MD := (yX1_filtersIn, cX1_filtersIn, 2, some .int, 2, 48)
theorem hX1_filtersIn : Cond.code yX1_filtersIn cX1_filtersIn 2 (some .int) ∈ lw_good := lw_mem (tb2 (List.mem_of_getElem? (i := 200) rfl)) rfl
abbrev mX1_kindOf : MD := (yX1_kindOf, cX1_kindOf, 2, some .int, 0, 0)
theorem hX1_kindOf : Cond.code yX1_kindOf cX1_kindOf 2 (some .int) ∈ lw_good := lw_mem (tb2 (List.mem_of_getElem? (i := 207) rfl)) rfl
abbrev mX1_memoryOf : MD := (yX1_memoryOf, cX1_memoryOf, 4, some .int, 3, 69)
theorem hX1_memoryOf : Cond.code yX1_memoryOf cX1_memoryOf 4 (some .int) ∈ lw_good := lw_mem (tb2 (List.mem_of_getElem? (i := 211) rfl)) rfl
abbrev mJ9_max_7cf53 : MD := (yJ9_max_7cf53, cJ9_max_7cf53, 2, some .int, 0, 0)
theorem hJ9_max_7cf53 : Cond.code yJ9_max_7cf53 cJ9_max_7cf53 2 (some .int) ∈ lw_good := lw_mem (tb2 (List.mem_of_getElem? (i := 218) rfl)) rfl
abbrev mX10_writeHead : MD := (yX10_writeHead, cX10_writeHead, 6, none, 3, 69)
theorem hX10_writeHead : Cond.code yX10_writeHead cX10_writeHead 6 (none) ∈ lw_good := lw_mem (tb2 (List.mem_of_getElem? (i := 222) rfl)) rfl
abbrev mX1_valueOf : MD := (yX1_valueOf, cX1_valueOf, 2, some .int, 0, 0)
theorem hX1_valueOf : Cond.code yX1_valueOf cX1_valueOf 2 (some .int) ∈ lw_good := lw_mem (tb2 (List.mem_of_getElem? (i := 228) rfl)) rfl
abbrev mX10_filtered : MD := (yX10_filtered, cX10_filtered, 5, some (.object "ChainChoice$Row"), 3, 86)
theorem hX10_filtered : Cond.code yX10_filtered cX10_filtered 5 (some (.object "ChainChoice$Row")) ∈ lw_good := lw_mem (tb2 (List.mem_of_getElem? (i := 232) rfl)) rfl
abbrev mX2_make : MD := (yX2_make, cX2_make, 6, none, 2, 61)
theorem hX2_make : Cond.code yX2_make cX2_make 6 (none) ∈ lw_good := lw_mem (tb2 (List.mem_of_getElem? (i := 236) rfl)) rfl
abbrev mX6_become : MD := (yX6_become, cX6_become, 2, none, 1, 40)
theorem hX6_become : Cond.code yX6_become cX6_become 2 (none) ∈ lw_good := lw_mem (tb3 (List.mem_of_getElem? (i := 0) rfl)) rfl
abbrev mJ9_min_7cf53 : MD := (yJ9_min_7cf53, cJ9_min_7cf53, 2, some .int, 0, 0)
theorem hJ9_min_7cf53 : Cond.code yJ9_min_7cf53 cJ9_min_7cf53 2 (some .int) ∈ lw_good := lw_mem (tb3 (List.mem_of_getElem? (i := 3) rfl)) rfl
abbrev mX6_set : MD := (yX6_set, cX6_set, 3, none, 0, 0)
theorem hX6_set : Cond.code yX6_set cX6_set 3 (none) ∈ lw_good := lw_mem (tb3 (List.mem_of_getElem? (i := 13) rfl)) rfl
abbrev mX2_startOrder : MD := (yX2_startOrder, cX2_startOrder, 2, none, 0, 0)
theorem hX2_startOrder : Cond.code yX2_startOrder cX2_startOrder 2 (none) ∈ lw_good := lw_mem (tb3 (List.mem_of_getElem? (i := 17) rfl)) rfl
abbrev mX2_bringToFront : MD := (yX2_bringToFront, cX2_bringToFront, 5, some .int, 0, 0)
theorem hX2_bringToFront : Cond.code yX2_bringToFront cX2_bringToFront 5 (some .int) ∈ lw_good := lw_mem (tb3 (List.mem_of_getElem? (i := 21) rfl)) rfl
abbrev mX2_gatherPlanes : MD := (yX2_gatherPlanes, cX2_gatherPlanes, 7, none, 1, 22)
theorem hX2_gatherPlanes : Cond.code yX2_gatherPlanes cX2_gatherPlanes 7 (none) ∈ lw_good := lw_mem (tb3 (List.mem_of_getElem? (i := 24) rfl)) rfl
abbrev mX2_mask : MD := (yX2_mask, cX2_mask, 4, none, 1, 22)
theorem hX2_mask : Cond.code yX2_mask cX2_mask 4 (none) ∈ lw_good := lw_mem (tb3 (List.mem_of_getElem? (i := 27) rfl)) rfl
abbrev mX3_write : MD := (yX3_write, cX3_write, 4, none, 4, 97)
theorem hX3_write : Cond.code yX3_write cX3_write 4 (none) ∈ lw_good := lw_mem (tb3 (List.mem_of_getElem? (i := 31) rfl)) rfl
abbrev mX3_writeRuns : MD := (yX3_writeRuns, cX3_writeRuns, 8, none, 3, 68)
theorem hX3_writeRuns : Cond.code yX3_writeRuns cX3_writeRuns 8 (none) ∈ lw_good := lw_mem (tb3 (List.mem_of_getElem? (i := 35) rfl)) rfl
abbrev mX3_runAt : MD := (yX3_runAt, cX3_runAt, 5, some .int, 1, 21)
theorem hX3_runAt : Cond.code yX3_runAt cX3_runAt 5 (some .int) ∈ lw_good := lw_mem (tb3 (List.mem_of_getElem? (i := 38) rfl)) rfl
abbrev mX3_writePlain : MD := (yX3_writePlain, cX3_writePlain, 4, none, 2, 45)
theorem hX3_writePlain : Cond.code yX3_writePlain cX3_writePlain 4 (none) ∈ lw_good := lw_mem (tb3 (List.mem_of_getElem? (i := 44) rfl)) rfl
abbrev mX3_copy : MD := (yX3_copy, cX3_copy, 5, none, 1, 21)
theorem hX3_copy : Cond.code yX3_copy cX3_copy 5 (none) ∈ lw_good := lw_mem (tb3 (List.mem_of_getElem? (i := 47) rfl)) rfl
abbrev mX3_writeBits : MD := (yX3_writeBits, cX3_writeBits, 7, none, 2, 47)
theorem hX3_writeBits : Cond.code yX3_writeBits cX3_writeBits 7 (none) ∈ lw_good := lw_mem (tb3 (List.mem_of_getElem? (i := 51) rfl)) rfl
abbrev mX6_countInto : MD := (yX6_countInto, cX6_countInto, 5, some .int, 1, 23)
theorem hX6_countInto : Cond.code yX6_countInto cX6_countInto 5 (some .int) ∈ lw_good := lw_mem (tb3 (List.mem_of_getElem? (i := 55) rfl)) rfl
abbrev mX3_widthOf : MD := (yX3_widthOf, cX3_widthOf, 2, some .int, 0, 0)
theorem hX3_widthOf : Cond.code yX3_widthOf cX3_widthOf 2 (some .int) ∈ lw_good := lw_mem (tb3 (List.mem_of_getElem? (i := 59) rfl)) rfl
abbrev mX0_put : MD := (yX0_put, cX0_put, 5, none, 1, 21)
theorem hX0_put : Cond.code yX0_put cX0_put 5 (none) ∈ lw_good := lw_mem (tb3 (List.mem_of_getElem? (i := 63) rfl)) rfl
abbrev mX0_finish : MD := (yX0_finish, cX0_finish, 2, none, 1, 21)
theorem hX0_finish : Cond.code yX0_finish cX0_finish 2 (none) ∈ lw_good := lw_mem (tb3 (List.mem_of_getElem? (i := 68) rfl)) rfl
abbrev mX3_writePrefix : MD := (yX3_writePrefix, cX3_writePrefix, 5, none, 3, 68)
theorem hX3_writePrefix : Cond.code yX3_writePrefix cX3_writePrefix 5 (none) ∈ lw_good := lw_mem (tb3 (List.mem_of_getElem? (i := 72) rfl)) rfl
abbrev mX8_grow : MD := (yX8_grow, cX8_grow, 3, none, 2, 46)
theorem hX8_grow : Cond.code yX8_grow cX8_grow 3 (none) ∈ lw_good := lw_mem (tb3 (List.mem_of_getElem? (i := 76) rfl)) rfl
abbrev mX4_begin : MD := (yX4_begin, cX4_begin, 1, none, 1, 23)
theorem hX4_begin : Cond.code yX4_begin cX4_begin 1 (none) ∈ lw_good := lw_mem (tb3 (List.mem_of_getElem? (i := 80) rfl)) rfl
abbrev mX8_sortLeaves : MD := (yX8_sortLeaves, cX8_sortLeaves, 4, none, 0, 0)
theorem hX8_sortLeaves : Cond.code yX8_sortLeaves cX8_sortLeaves 4 (none) ∈ lw_good := lw_mem (tb3 (List.mem_of_getElem? (i := 85) rfl)) rfl
abbrev mX4_give : MD := (yX4_give, cX4_give, 3, none, 0, 0)
theorem hX4_give : Cond.code yX4_give cX4_give 3 (none) ∈ lw_good := lw_mem (tb3 (List.mem_of_getElem? (i := 89) rfl)) rfl
abbrev mX8_join : MD := (yX8_join, cX8_join, 4, none, 1, 23)
theorem hX8_join : Cond.code yX8_join cX8_join 4 (none) ∈ lw_good := lw_mem (tb3 (List.mem_of_getElem? (i := 93) rfl)) rfl
abbrev mX8_takeLeast : MD := (yX8_takeLeast, cX8_takeLeast, 4, some .int, 0, 0)
theorem hX8_takeLeast : Cond.code yX8_takeLeast cX8_takeLeast 4 (some .int) ∈ lw_good := lw_mem (tb3 (List.mem_of_getElem? (i := 97) rfl)) rfl
abbrev mX8_measure : MD := (yX8_measure, cX8_measure, 4, none, 1, 22)
theorem hX8_measure : Cond.code yX8_measure cX8_measure 4 (none) ∈ lw_good := lw_mem (tb3 (List.mem_of_getElem? (i := 101) rfl)) rfl
abbrev mX4_assign : MD := (yX4_assign, cX4_assign, 5, none, 1, 22)
theorem hX4_assign : Cond.code yX4_assign cX4_assign 5 (none) ∈ lw_good := lw_mem (tb3 (List.mem_of_getElem? (i := 107) rfl)) rfl
abbrev mX4_rank : MD := (yX4_rank, cX4_rank, 3, none, 0, 0)
theorem hX4_rank : Cond.code yX4_rank cX4_rank 3 (none) ∈ lw_good := lw_mem (tb3 (List.mem_of_getElem? (i := 111) rfl)) rfl
abbrev mX4_lengthOf : MD := (yX4_lengthOf, cX4_lengthOf, 2, some .int, 0, 0)
theorem hX4_lengthOf : Cond.code yX4_lengthOf cX4_lengthOf 2 (some .int) ∈ lw_good := lw_mem (tb3 (List.mem_of_getElem? (i := 116) rfl)) rfl
abbrev mX4_codeOf : MD := (yX4_codeOf, cX4_codeOf, 2, some .int, 0, 0)
theorem hX4_codeOf : Cond.code yX4_codeOf cX4_codeOf 2 (some .int) ∈ lw_good := lw_mem (tb3 (List.mem_of_getElem? (i := 120) rfl)) rfl
abbrev mX3_writeMatches : MD := (yX3_writeMatches, cX3_writeMatches, 7, none, 3, 71)
theorem hX3_writeMatches : Cond.code yX3_writeMatches cX3_writeMatches 7 (none) ∈ lw_good := lw_mem (tb3 (List.mem_of_getElem? (i := 124) rfl)) rfl
abbrev mX3_linkLikeBytes : MD := (yX3_linkLikeBytes, cX3_linkLikeBytes, 4, none, 1, 23)
theorem hX3_linkLikeBytes : Cond.code yX3_linkLikeBytes cX3_linkLikeBytes 4 (none) ∈ lw_good := lw_mem (tb3 (List.mem_of_getElem? (i := 128) rfl)) rfl
abbrev mX3_findMatch : MD := (yX3_findMatch, cX3_findMatch, 7, none, 1, 21)
theorem hX3_findMatch : Cond.code yX3_findMatch cX3_findMatch 7 (none) ∈ lw_good := lw_mem (tb3 (List.mem_of_getElem? (i := 133) rfl)) rfl
abbrev mX3_before : MD := (yX3_before, cX3_before, 2, some .int, 0, 0)
theorem hX3_before : Cond.code yX3_before cX3_before 2 (some .int) ∈ lw_good := lw_mem (tb3 (List.mem_of_getElem? (i := 137) rfl)) rfl
abbrev mX3_endOfPlain : MD := (yX3_endOfPlain, cX3_endOfPlain, 5, some .int, 2, 47)
theorem hX3_endOfPlain : Cond.code yX3_endOfPlain cX3_endOfPlain 5 (some .int) ∈ lw_good := lw_mem (tb3 (List.mem_of_getElem? (i := 142) rfl)) rfl
abbrev mX10_choose : MD := (yX10_choose, cX10_choose, 4, some .int, 6, 148)
theorem hX10_choose : Cond.code yX10_choose cX10_choose 4 (some .int) ∈ lw_good := lw_mem (tb3 (List.mem_of_getElem? (i := 146) rfl)) rfl
abbrev mX7_isFlat : MD := (yX7_isFlat, cX7_isFlat, 4, some .boolean, 2, 47)
theorem hX7_isFlat : Cond.code yX7_isFlat cX7_isFlat 4 (some .boolean) ∈ lw_good := lw_mem (tb3 (List.mem_of_getElem? (i := 150) rfl)) rfl
abbrev mX10_tryChains : MD := (yX10_tryChains, cX10_tryChains, 9, none, 5, 120)
theorem hX10_tryChains : Cond.code yX10_tryChains cX10_tryChains 9 (none) ∈ lw_good := lw_mem (tb3 (List.mem_of_getElem? (i := 156) rfl)) rfl
abbrev mX10_isBetter : MD := (yX10_isBetter, cX10_isBetter, 3, some .boolean, 4, 92)
theorem hX10_isBetter : Cond.code yX10_isBetter cX10_isBetter 3 (some .boolean) ∈ lw_good := lw_mem (tb3 (List.mem_of_getElem? (i := 161) rfl)) rfl
abbrev mX10_told : MD := (yX10_told, cX10_told, 2, some .int, 0, 0)
theorem hX10_told : Cond.code yX10_told cX10_told 2 (some .int) ∈ lw_good := lw_mem (tb3 (List.mem_of_getElem? (i := 165) rfl)) rfl
abbrev mX10_learn : MD := (yX10_learn, cX10_learn, 2, some .int, 4, 94)
theorem hX10_learn : Cond.code yX10_learn cX10_learn 2 (some .int) ∈ lw_good := lw_mem (tb3 (List.mem_of_getElem? (i := 169) rfl)) rfl
abbrev mX7_featureOf : MD := (yX7_featureOf, cX7_featureOf, 6, some .int, 3, 69)
theorem hX7_featureOf : Cond.code yX7_featureOf cX7_featureOf 6 (some .int) ∈ lw_good := lw_mem (tb3 (List.mem_of_getElem? (i := 173) rfl)) rfl
abbrev mJ9_abs_0f7a4 : MD := (yJ9_abs_0f7a4, cJ9_abs_0f7a4, 1, some .int, 0, 0)
theorem hJ9_abs_0f7a4 : Cond.code yJ9_abs_0f7a4 cJ9_abs_0f7a4 1 (some .int) ∈ lw_good := lw_mem (tb3 (List.mem_of_getElem? (i := 177) rfl)) rfl
abbrev mX7_variety : MD := (yX7_variety, cX7_variety, 3, some .int, 2, 47)
theorem hX7_variety : Cond.code yX7_variety cX7_variety 3 (some .int) ∈ lw_good := lw_mem (tb3 (List.mem_of_getElem? (i := 181) rfl)) rfl
abbrev mX7_quarters : MD := (yX7_quarters, cX7_quarters, 2, some .int, 1, 21)
theorem hX7_quarters : Cond.code yX7_quarters cX7_quarters 2 (some .int) ∈ lw_good := lw_mem (tb3 (List.mem_of_getElem? (i := 184) rfl)) rfl
abbrev mX10_feature : MD := (yX10_feature, cX10_feature, 1, some .int, 4, 94)
theorem hX10_feature : Cond.code yX10_feature cX10_feature 1 (some .int) ∈ lw_good := lw_mem (tb3 (List.mem_of_getElem? (i := 189) rfl)) rfl
abbrev mX10_learned : MD := (yX10_learned, cX10_learned, 2, some .int, 0, 0)
theorem hX10_learned : Cond.code yX10_learned cX10_learned 2 (some .int) ∈ lw_good := lw_mem (tb3 (List.mem_of_getElem? (i := 193) rfl)) rfl
abbrev mX10_pack : MD := (yX10_pack, cX10_pack, 2, some .int, 5, 120)
theorem hX10_pack : Cond.code yX10_pack cX10_pack 2 (some .int) ∈ lw_good := lw_mem (tb3 (List.mem_of_getElem? (i := 197) rfl)) rfl
abbrev mX10_alter : MD := (yX10_alter, cX10_alter, 4, some .int, 1, 22)
theorem hX10_alter : Cond.code yX10_alter cX10_alter 4 (some .int) ∈ lw_good := lw_mem (tb3 (List.mem_of_getElem? (i := 201) rfl)) rfl
abbrev mX10_cut : MD := (yX10_cut, cX10_cut, 3, some .int, 1, 21)
theorem hX10_cut : Cond.code yX10_cut cX10_cut 3 (some .int) ∈ lw_good := lw_mem (tb3 (List.mem_of_getElem? (i := 206) rfl)) rfl
abbrev mX6_keep : MD := (yX6_keep, cX6_keep, 2, none, 0, 0)
theorem hX6_keep : Cond.code yX6_keep cX6_keep 2 (none) ∈ lw_good := lw_mem (tb3 (List.mem_of_getElem? (i := 210) rfl)) rfl
abbrev mX10_unpack : MD := (yX10_unpack, cX10_unpack, 2, some .int, 6, 130)
theorem hX10_unpack : Cond.code yX10_unpack cX10_unpack 2 (some .int) ∈ lw_good := lw_mem (tb3 (List.mem_of_getElem? (i := 214) rfl)) rfl
abbrev mX9_readHead : MD := (yX9_readHead, cX9_readHead, 3, none, 3, 64)
theorem hX9_readHead : Cond.code yX9_readHead cX9_readHead 3 (none) ∈ lw_good := lw_mem (tb3 (List.mem_of_getElem? (i := 218) rfl)) rfl
abbrev mX5_begin : MD := (yX5_begin, cX5_begin, 2, none, 0, 0)
theorem hX5_begin : Cond.code yX5_begin cX5_begin 2 (none) ∈ lw_good := lw_mem (tb3 (List.mem_of_getElem? (i := 222) rfl)) rfl
abbrev mX9_readFilters : MD := (yX9_readFilters, cX9_readFilters, 2, none, 2, 43)
theorem hX9_readFilters : Cond.code yX9_readFilters cX9_readFilters 2 (none) ∈ lw_good := lw_mem (tb3 (List.mem_of_getElem? (i := 227) rfl)) rfl
abbrev mX5_next : MD := (yX5_next, cX5_next, 1, some .int, 1, 22)
theorem hX5_next : Cond.code yX5_next cX5_next 1 (some .int) ∈ lw_good := lw_mem (tb3 (List.mem_of_getElem? (i := 231) rfl)) rfl
abbrev mX5_blameAt : MD := (yX5_blameAt, cX5_blameAt, 3, none, 0, 0)
theorem hX5_blameAt : Cond.code yX5_blameAt cX5_blameAt 3 (none) ∈ lw_good := lw_mem (tb3 (List.mem_of_getElem? (i := 237) rfl)) rfl
abbrev mX5_blame : MD := (yX5_blame, cX5_blame, 2, none, 1, 22)
theorem hX5_blame : Cond.code yX5_blame cX5_blame 2 (none) ∈ lw_good := lw_mem (tb4 (List.mem_of_getElem? (i := 2) rfl)) rfl
abbrev mX2_isKind : MD := (yX2_isKind, cX2_isKind, 1, some .boolean, 0, 0)
theorem hX2_isKind : Cond.code yX2_isKind cX2_isKind 1 (some .boolean) ∈ lw_good := lw_mem (tb4 (List.mem_of_getElem? (i := 5) rfl)) rfl
abbrev mX9_readBody : MD := (yX9_readBody, cX9_readBody, 1, none, 5, 110)
theorem hX9_readBody : Cond.code yX9_readBody cX9_readBody 1 (none) ∈ lw_good := lw_mem (tb4 (List.mem_of_getElem? (i := 10) rfl)) rfl
abbrev mX5_isFine : MD := (yX5_isFine, cX5_isFine, 1, some .boolean, 0, 0)
theorem hX5_isFine : Cond.code yX5_isFine cX5_isFine 1 (some .boolean) ∈ lw_good := lw_mem (tb4 (List.mem_of_getElem? (i := 14) rfl)) rfl
abbrev mX9_readItems : MD := (yX9_readItems, cX9_readItems, 5, none, 3, 66)
theorem hX9_readItems : Cond.code yX9_readItems cX9_readItems 5 (none) ∈ lw_good := lw_mem (tb4 (List.mem_of_getElem? (i := 18) rfl)) rfl
abbrev mX9_copy : MD := (yX9_copy, cX9_copy, 3, none, 2, 42)
theorem hX9_copy : Cond.code yX9_copy cX9_copy 3 (none) ∈ lw_good := lw_mem (tb4 (List.mem_of_getElem? (i := 23) rfl)) rfl
abbrev mX9_repeat : MD := (yX9_repeat, cX9_repeat, 4, none, 2, 42)
theorem hX9_repeat : Cond.code yX9_repeat cX9_repeat 4 (none) ∈ lw_good := lw_mem (tb4 (List.mem_of_getElem? (i := 28) rfl)) rfl
abbrev mX9_copyBack : MD := (yX9_copyBack, cX9_copyBack, 4, none, 2, 43)
theorem hX9_copyBack : Cond.code yX9_copyBack cX9_copyBack 4 (none) ∈ lw_good := lw_mem (tb4 (List.mem_of_getElem? (i := 32) rfl)) rfl
abbrev mX9_readBits : MD := (yX9_readBits, cX9_readBits, 7, none, 3, 65)
theorem hX9_readBits : Cond.code yX9_readBits cX9_readBits 7 (none) ∈ lw_good := lw_mem (tb4 (List.mem_of_getElem? (i := 37) rfl)) rfl
abbrev mX9_readRising : MD := (yX9_readRising, cX9_readRising, 3, some .int, 2, 43)
theorem hX9_readRising : Cond.code yX9_readRising cX9_readRising 3 (some .int) ∈ lw_good := lw_mem (tb4 (List.mem_of_getElem? (i := 41) rfl)) rfl
abbrev mX5_bit : MD := (yX5_bit, cX5_bit, 1, some .int, 2, 42)
theorem hX5_bit : Cond.code yX5_bit cX5_bit 1 (some .int) ∈ lw_good := lw_mem (tb4 (List.mem_of_getElem? (i := 46) rfl)) rfl
abbrev mX5_endBits : MD := (yX5_endBits, cX5_endBits, 1, none, 2, 43)
theorem hX5_endBits : Cond.code yX5_endBits cX5_endBits 1 (none) ∈ lw_good := lw_mem (tb4 (List.mem_of_getElem? (i := 51) rfl)) rfl
abbrev mX9_readPrefix : MD := (yX9_readPrefix, cX9_readPrefix, 2, none, 4, 89)
theorem hX9_readPrefix : Cond.code yX9_readPrefix cX9_readPrefix 2 (none) ∈ lw_good := lw_mem (tb4 (List.mem_of_getElem? (i := 56) rfl)) rfl
abbrev mX9_readLengths : MD := (yX9_readLengths, cX9_readLengths, 5, none, 3, 65)
theorem hX9_readLengths : Cond.code yX9_readLengths cX9_readLengths 5 (none) ∈ lw_good := lw_mem (tb4 (List.mem_of_getElem? (i := 60) rfl)) rfl
abbrev mX4_isWhole : MD := (yX4_isWhole, cX4_isWhole, 3, some .boolean, 0, 0)
theorem hX4_isWhole : Cond.code yX4_isWhole cX4_isWhole 3 (some .boolean) ∈ lw_good := lw_mem (tb4 (List.mem_of_getElem? (i := 66) rfl)) rfl
abbrev mX4_readFrom : MD := (yX4_readFrom, cX4_readFrom, 7, some .int, 3, 62)
theorem hX4_readFrom : Cond.code yX4_readFrom cX4_readFrom 7 (some .int) ∈ lw_good := lw_mem (tb4 (List.mem_of_getElem? (i := 72) rfl)) rfl
abbrev mX9_finish : MD := (yX9_finish, cX9_finish, 2, some .int, 4, 109)
theorem hX9_finish : Cond.code yX9_finish cX9_finish 2 (some .int) ∈ lw_good := lw_mem (tb4 (List.mem_of_getElem? (i := 79) rfl)) rfl
abbrev mX5_endBytes : MD := (yX5_endBytes, cX5_endBytes, 1, none, 1, 22)
theorem hX5_endBytes : Cond.code yX5_endBytes cX5_endBytes 1 (none) ∈ lw_good := lw_mem (tb4 (List.mem_of_getElem? (i := 83) rfl)) rfl
abbrev mX9_undoFilters : MD := (yX9_undoFilters, cX9_undoFilters, 2, none, 3, 88)
theorem hX9_undoFilters : Cond.code yX9_undoFilters cX9_undoFilters 2 (none) ∈ lw_good := lw_mem (tb4 (List.mem_of_getElem? (i := 87) rfl)) rfl
abbrev mX2_undo : MD := (yX2_undo, cX2_undo, 6, none, 2, 63)
theorem hX2_undo : Cond.code yX2_undo cX2_undo 6 (none) ∈ lw_good := lw_mem (tb4 (List.mem_of_getElem? (i := 92) rfl)) rfl
abbrev mX2_takeToFront : MD := (yX2_takeToFront, cX2_takeToFront, 4, some .int, 1, 40)
theorem hX2_takeToFront : Cond.code yX2_takeToFront cX2_takeToFront 4 (some .int) ∈ lw_good := lw_mem (tb4 (List.mem_of_getElem? (i := 96) rfl)) rfl
abbrev mX2_spreadPlanes : MD := (yX2_spreadPlanes, cX2_spreadPlanes, 7, none, 1, 22)
theorem hX2_spreadPlanes : Cond.code yX2_spreadPlanes cX2_spreadPlanes 7 (none) ∈ lw_good := lw_mem (tb4 (List.mem_of_getElem? (i := 100) rfl)) rfl
abbrev mX5_fault : MD := (yX5_fault, cX5_fault, 1, some .int, 0, 0)
theorem hX5_fault : Cond.code yX5_fault cX5_fault 1 (some .int) ∈ lw_good := lw_mem (tb4 (List.mem_of_getElem? (i := 105) rfl)) rfl
abbrev mX9_faultPlace : MD := (yX9_faultPlace, cX9_faultPlace, 1, some .int, 1, 20)
theorem hX9_faultPlace : Cond.code yX9_faultPlace cX9_faultPlace 1 (some .int) ∈ lw_good := lw_mem (tb4 (List.mem_of_getElem? (i := 109) rfl)) rfl
abbrev mX5_faultPlace : MD := (yX5_faultPlace, cX5_faultPlace, 1, some .int, 0, 0)
theorem hX5_faultPlace : Cond.code yX5_faultPlace cX5_faultPlace 1 (some .int) ∈ lw_good := lw_mem (tb4 (List.mem_of_getElem? (i := 113) rfl)) rfl
abbrev mX10_place : MD := (yX10_place, cX10_place, 1, some .int, 0, 0)
theorem hX10_place : Cond.code yX10_place cX10_place 1 (some .int) ∈ lw_good := lw_mem (tb4 (List.mem_of_getElem? (i := 117) rfl)) rfl
abbrev mL_share : MD := (yL_share, cL_share, 5, some .int, 1, 22)
abbrev mX10_share : MD := (yX10_share, cX10_share, 3, some .long, 0, 0)
theorem hX10_share : Cond.code yX10_share cX10_share 3 (some .long) ∈ lw_good := lw_mem (tb4 (List.mem_of_getElem? (i := 125) rfl)) rfl
abbrev mX11_init : MD := (yX11_init, cX11_init, 1, none, 1, 21)
theorem hX11_init : Cond.code yX11_init cX11_init 1 (none) ∈ lw_good := lw_mem (tb4 (List.mem_of_getElem? (i := 197) rfl)) rfl
abbrev mX11_lose : MD := (yX11_lose, cX11_lose, 2, none, 0, 0)
theorem hX11_lose : Cond.code yX11_lose cX11_lose 2 (none) ∈ lw_good := lw_mem (tb4 (List.mem_of_getElem? (i := 202) rfl)) rfl
abbrev mX11_thrown : MD := (yX11_thrown, cX11_thrown, 1, some .int, 0, 0)
theorem hX11_thrown : Cond.code yX11_thrown cX11_thrown 1 (some .int) ∈ lw_good := lw_mem (tb5 (List.mem_of_getElem? (i := 72) rfl)) rfl
abbrev mX11_clear : MD := (yX11_clear, cX11_clear, 2, some .int, 0, 0)
theorem hX11_clear : Cond.code yX11_clear cX11_clear 2 (some .int) ∈ lw_good := lw_mem (tb5 (List.mem_of_getElem? (i := 76) rfl)) rfl
abbrev mX11_add : MD := (yX11_add, cX11_add, 2, some .int, 1, 22)
theorem hX11_add : Cond.code yX11_add cX11_add 2 (some .int) ∈ lw_good := lw_mem (tb5 (List.mem_of_getElem? (i := 80) rfl)) rfl
abbrev mX11_in : MD := (yX11_in, cX11_in, 3, some .boolean, 0, 0)
theorem hX11_in : Cond.code yX11_in cX11_in 3 (some .boolean) ∈ lw_good := lw_mem (tb5 (List.mem_of_getElem? (i := 83) rfl)) rfl
abbrev mX11_fill : MD := (yX11_fill, cX11_fill, 11, some .int, 1, 22)
theorem hX11_fill : Cond.code yX11_fill cX11_fill 11 (some .int) ∈ lw_good := lw_mem (tb5 (List.mem_of_getElem? (i := 87) rfl)) rfl
abbrev mX11_size : MD := (yX11_size, cX11_size, 2, some .int, 0, 0)
theorem hX11_size : Cond.code yX11_size cX11_size 2 (some .int) ∈ lw_good := lw_mem (tb5 (List.mem_of_getElem? (i := 92) rfl)) rfl
abbrev mX11_octet : MD := (yX11_octet, cX11_octet, 3, some .int, 1, 22)
theorem hX11_octet : Cond.code yX11_octet cX11_octet 3 (some .int) ∈ lw_good := lw_mem (tb5 (List.mem_of_getElem? (i := 96) rfl)) rfl
abbrev mX11_filter : MD := (yX11_filter, cX11_filter, 3, some .int, 2, 43)
theorem hX11_filter : Cond.code yX11_filter cX11_filter 3 (some .int) ∈ lw_good := lw_mem (tb5 (List.mem_of_getElem? (i := 100) rfl)) rfl
abbrev mX11_isFilter : MD := (yX11_isFilter, cX11_isFilter, 2, some .boolean, 1, 22)
theorem hX11_isFilter : Cond.code yX11_isFilter cX11_isFilter 2 (some .boolean) ∈ lw_good := lw_mem (tb5 (List.mem_of_getElem? (i := 103) rfl)) rfl
abbrev mX11_packer : MD := (yX11_packer, cX11_packer, 3, some .int, 1, 22)
theorem hX11_packer : Cond.code yX11_packer cX11_packer 3 (some .int) ∈ lw_good := lw_mem (tb5 (List.mem_of_getElem? (i := 107) rfl)) rfl
abbrev mX11_chains : MD := (yX11_chains, cX11_chains, 1, some .int, 0, 0)
theorem hX11_chains : Cond.code yX11_chains cX11_chains 1 (some .int) ∈ lw_good := lw_mem (tb5 (List.mem_of_getElem? (i := 111) rfl)) rfl
abbrev mX11_forget : MD := (yX11_forget, cX11_forget, 2, some .int, 1, 21)
theorem hX11_forget : Cond.code yX11_forget cX11_forget 2 (some .int) ∈ lw_good := lw_mem (tb5 (List.mem_of_getElem? (i := 115) rfl)) rfl
abbrev mX11_chain : MD := (yX11_chain, cX11_chain, 3, some .int, 4, 95)
theorem hX11_chain : Cond.code yX11_chain cX11_chain 3 (some .int) ∈ lw_good := lw_mem (tb5 (List.mem_of_getElem? (i := 120) rfl)) rfl
abbrev mX11_part : MD := (yX11_part, cX11_part, 5, none, 0, 0)
theorem hX11_part : Cond.code yX11_part cX11_part 5 (none) ∈ lw_good := lw_mem (tb5 (List.mem_of_getElem? (i := 124) rfl)) rfl
abbrev mX11_stepsOf : MD := (yX11_stepsOf, cX11_stepsOf, 2, some .int, 0, 0)
theorem hX11_stepsOf : Cond.code yX11_stepsOf cX11_stepsOf 2 (some .int) ∈ lw_good := lw_mem (tb5 (List.mem_of_getElem? (i := 128) rfl)) rfl
abbrev mX11_memoryOf : MD := (yX11_memoryOf, cX11_memoryOf, 3, some .int, 0, 0)
theorem hX11_memoryOf : Cond.code yX11_memoryOf cX11_memoryOf 3 (some .int) ∈ lw_good := lw_mem (tb5 (List.mem_of_getElem? (i := 132) rfl)) rfl
abbrev mX11_packAll : MD := (yX11_packAll, cX11_packAll, 3, none, 3, 73)
theorem hX11_packAll : Cond.code yX11_packAll cX11_packAll 3 (none) ∈ lw_good := lw_mem (tb5 (List.mem_of_getElem? (i := 136) rfl)) rfl
abbrev mX11_put : MD := (yX11_put, cX11_put, 2, none, 0, 0)
theorem hX11_put : Cond.code yX11_put cX11_put 2 (none) ∈ lw_good := lw_mem (tb5 (List.mem_of_getElem? (i := 140) rfl)) rfl
abbrev mX11_putFilter : MD := (yX11_putFilter, cX11_putFilter, 2, none, 2, 51)
theorem hX11_putFilter : Cond.code yX11_putFilter cX11_putFilter 2 (none) ∈ lw_good := lw_mem (tb5 (List.mem_of_getElem? (i := 144) rfl)) rfl
abbrev mX11_apply : MD := (yX11_apply, cX11_apply, 9, none, 1, 23)
theorem hX11_apply : Cond.code yX11_apply cX11_apply 9 (none) ∈ lw_good := lw_mem (tb5 (List.mem_of_getElem? (i := 148) rfl)) rfl
abbrev mX11_beginList : MD := (yX11_beginList, cX11_beginList, 2, none, 0, 0)
theorem hX11_beginList : Cond.code yX11_beginList cX11_beginList 2 (none) ∈ lw_good := lw_mem (tb5 (List.mem_of_getElem? (i := 152) rfl)) rfl
abbrev mX11_placeOf : MD := (yX11_placeOf, cX11_placeOf, 3, some .int, 0, 0)
theorem hX11_placeOf : Cond.code yX11_placeOf cX11_placeOf 3 (some .int) ∈ lw_good := lw_mem (tb5 (List.mem_of_getElem? (i := 156) rfl)) rfl
abbrev mX11_front : MD := (yX11_front, cX11_front, 4, none, 0, 0)
theorem hX11_front : Cond.code yX11_front cX11_front 4 (none) ∈ lw_good := lw_mem (tb5 (List.mem_of_getElem? (i := 160) rfl)) rfl
abbrev mX11_packRuns : MD := (yX11_packRuns, cX11_packRuns, 5, none, 2, 44)
theorem hX11_packRuns : Cond.code yX11_packRuns cX11_packRuns 5 (none) ∈ lw_good := lw_mem (tb5 (List.mem_of_getElem? (i := 164) rfl)) rfl
abbrev mX11_like : MD := (yX11_like, cX11_like, 4, some .int, 0, 0)
theorem hX11_like : Cond.code yX11_like cX11_like 4 (some .int) ∈ lw_good := lw_mem (tb5 (List.mem_of_getElem? (i := 168) rfl)) rfl
abbrev mX11_putRow : MD := (yX11_putRow, cX11_putRow, 4, none, 1, 21)
theorem hX11_putRow : Cond.code yX11_putRow cX11_putRow 4 (none) ∈ lw_good := lw_mem (tb5 (List.mem_of_getElem? (i := 172) rfl)) rfl
abbrev mX11_packBits : MD := (yX11_packBits, cX11_packBits, 5, none, 2, 44)
theorem hX11_packBits : Cond.code yX11_packBits cX11_packBits 5 (none) ∈ lw_good := lw_mem (tb5 (List.mem_of_getElem? (i := 176) rfl)) rfl
abbrev mX11_countBytes : MD := (yX11_countBytes, cX11_countBytes, 4, some .int, 0, 0)
theorem hX11_countBytes : Cond.code yX11_countBytes cX11_countBytes 4 (some .int) ∈ lw_good := lw_mem (tb5 (List.mem_of_getElem? (i := 180) rfl)) rfl
abbrev mX11_widthOf : MD := (yX11_widthOf, cX11_widthOf, 2, some .int, 0, 0)
theorem hX11_widthOf : Cond.code yX11_widthOf cX11_widthOf 2 (some .int) ∈ lw_good := lw_mem (tb5 (List.mem_of_getElem? (i := 183) rfl)) rfl
abbrev mX11_bits : MD := (yX11_bits, cX11_bits, 4, none, 1, 21)
theorem hX11_bits : Cond.code yX11_bits cX11_bits 4 (none) ∈ lw_good := lw_mem (tb5 (List.mem_of_getElem? (i := 187) rfl)) rfl
abbrev mX11_packPrefix : MD := (yX11_packPrefix, cX11_packPrefix, 4, none, 2, 50)
theorem hX11_packPrefix : Cond.code yX11_packPrefix cX11_packPrefix 4 (none) ∈ lw_good := lw_mem (tb5 (List.mem_of_getElem? (i := 191) rfl)) rfl
abbrev mX11_findLengths : MD := (yX11_findLengths, cX11_findLengths, 6, none, 1, 25)
theorem hX11_findLengths : Cond.code yX11_findLengths cX11_findLengths 6 (none) ∈ lw_good := lw_mem (tb5 (List.mem_of_getElem? (i := 195) rfl)) rfl
abbrev mX11_least : MD := (yX11_least, cX11_least, 6, some .int, 0, 0)
theorem hX11_least : Cond.code yX11_least cX11_least 6 (some .int) ∈ lw_good := lw_mem (tb5 (List.mem_of_getElem? (i := 199) rfl)) rfl
abbrev mX11_findCodes : MD := (yX11_findCodes, cX11_findCodes, 4, none, 0, 0)
theorem hX11_findCodes : Cond.code yX11_findCodes cX11_findCodes 4 (none) ∈ lw_good := lw_mem (tb5 (List.mem_of_getElem? (i := 203) rfl)) rfl
abbrev mX11_packMatches : MD := (yX11_packMatches, cX11_packMatches, 4, none, 2, 44)
theorem hX11_packMatches : Cond.code yX11_packMatches cX11_packMatches 4 (none) ∈ lw_good := lw_mem (tb5 (List.mem_of_getElem? (i := 207) rfl)) rfl
abbrev mX11_match : MD := (yX11_match, cX11_match, 5, none, 0, 0)
theorem hX11_match : Cond.code yX11_match cX11_match 5 (none) ∈ lw_good := lw_mem (tb5 (List.mem_of_getElem? (i := 211) rfl)) rfl
abbrev mX11_choose : MD := (yX11_choose, cX11_choose, 14, some .int, 4, 95)
theorem hX11_choose : Cond.code yX11_choose cX11_choose 14 (some .int) ∈ lw_good := lw_mem (tb5 (List.mem_of_getElem? (i := 215) rfl)) rfl
abbrev mX11_isFlat : MD := (yX11_isFlat, cX11_isFlat, 4, some .boolean, 1, 23)
theorem hX11_isFlat : Cond.code yX11_isFlat cX11_isFlat 4 (some .boolean) ∈ lw_good := lw_mem (tb5 (List.mem_of_getElem? (i := 219) rfl)) rfl
abbrev mX11_told : MD := (yX11_told, cX11_told, 2, some .int, 1, 22)
theorem hX11_told : Cond.code yX11_told cX11_told 2 (some .int) ∈ lw_good := lw_mem (tb5 (List.mem_of_getElem? (i := 223) rfl)) rfl
abbrev mX11_feature : MD := (yX11_feature, cX11_feature, 7, some .int, 1, 23)
theorem hX11_feature : Cond.code yX11_feature cX11_feature 7 (some .int) ∈ lw_good := lw_mem (tb5 (List.mem_of_getElem? (i := 227) rfl)) rfl
abbrev mX11_learn : MD := (yX11_learn, cX11_learn, 2, some .int, 2, 49)
theorem hX11_learn : Cond.code yX11_learn cX11_learn 2 (some .int) ∈ lw_good := lw_mem (tb5 (List.mem_of_getElem? (i := 231) rfl)) rfl
abbrev mX11_learned : MD := (yX11_learned, cX11_learned, 2, some .int, 1, 22)
theorem hX11_learned : Cond.code yX11_learned cX11_learned 2 (some .int) ∈ lw_good := lw_mem (tb5 (List.mem_of_getElem? (i := 236) rfl)) rfl
abbrev mX11_share : MD := (yX11_share, cX11_share, 3, some .long, 0, 0)
theorem hX11_share : Cond.code yX11_share cX11_share 3 (some .long) ∈ lw_good := lw_mem (tb6 (List.mem_of_getElem? (i := 0) rfl)) rfl
abbrev mX11_pack : MD := (yX11_pack, cX11_pack, 3, some .int, 4, 95)
theorem hX11_pack : Cond.code yX11_pack cX11_pack 3 (some .int) ∈ lw_good := lw_mem (tb6 (List.mem_of_getElem? (i := 5) rfl)) rfl
abbrev mX11_alter : MD := (yX11_alter, cX11_alter, 4, some .int, 1, 22)
theorem hX11_alter : Cond.code yX11_alter cX11_alter 4 (some .int) ∈ lw_good := lw_mem (tb6 (List.mem_of_getElem? (i := 9) rfl)) rfl
abbrev mX11_cut : MD := (yX11_cut, cX11_cut, 3, some .int, 1, 22)
theorem hX11_cut : Cond.code yX11_cut cX11_cut 3 (some .int) ∈ lw_good := lw_mem (tb6 (List.mem_of_getElem? (i := 13) rfl)) rfl
abbrev mX11_unpack : MD := (yX11_unpack, cX11_unpack, 10, some .int, 5, 114)
theorem hX11_unpack : Cond.code yX11_unpack cX11_unpack 10 (some .int) ∈ lw_good := lw_mem (tb6 (List.mem_of_getElem? (i := 17) rfl)) rfl
abbrev mX11_next : MD := (yX11_next, cX11_next, 1, some .int, 1, 22)
theorem hX11_next : Cond.code yX11_next cX11_next 1 (some .int) ∈ lw_good := lw_mem (tb6 (List.mem_of_getElem? (i := 21) rfl)) rfl
abbrev mX11_fail : MD := (yX11_fail, cX11_fail, 3, none, 0, 0)
theorem hX11_fail : Cond.code yX11_fail cX11_fail 3 (none) ∈ lw_good := lw_mem (tb6 (List.mem_of_getElem? (i := 25) rfl)) rfl
abbrev mX11_must : MD := (yX11_must, cX11_must, 3, none, 1, 22)
theorem hX11_must : Cond.code yX11_must cX11_must 3 (none) ∈ lw_good := lw_mem (tb6 (List.mem_of_getElem? (i := 29) rfl)) rfl
abbrev mX11_come : MD := (yX11_come, cX11_come, 2, none, 0, 0)
theorem hX11_come : Cond.code yX11_come cX11_come 2 (none) ∈ lw_good := lw_mem (tb6 (List.mem_of_getElem? (i := 33) rfl)) rfl
abbrev mX11_readBits : MD := (yX11_readBits, cX11_readBits, 6, none, 4, 83)
theorem hX11_readBits : Cond.code yX11_readBits cX11_readBits 6 (none) ∈ lw_good := lw_mem (tb6 (List.mem_of_getElem? (i := 37) rfl)) rfl
abbrev mX11_bit : MD := (yX11_bit, cX11_bit, 2, some .int, 2, 42)
theorem hX11_bit : Cond.code yX11_bit cX11_bit 2 (some .int) ∈ lw_good := lw_mem (tb6 (List.mem_of_getElem? (i := 41) rfl)) rfl
abbrev mX11_endBits : MD := (yX11_endBits, cX11_endBits, 1, none, 3, 63)
theorem hX11_endBits : Cond.code yX11_endBits cX11_endBits 1 (none) ∈ lw_good := lw_mem (tb6 (List.mem_of_getElem? (i := 45) rfl)) rfl
abbrev mX11_readPrefix : MD := (yX11_readPrefix, cX11_readPrefix, 7, none, 4, 88)
theorem hX11_readPrefix : Cond.code yX11_readPrefix cX11_readPrefix 7 (none) ∈ lw_good := lw_mem (tb6 (List.mem_of_getElem? (i := 49) rfl)) rfl
abbrev mX11_readCode : MD := (yX11_readCode, cX11_readCode, 6, none, 3, 63)
theorem hX11_readCode : Cond.code yX11_readCode cX11_readCode 6 (none) ∈ lw_good := lw_mem (tb6 (List.mem_of_getElem? (i := 54) rfl)) rfl
abbrev mX11_readItems : MD := (yX11_readItems, cX11_readItems, 6, none, 2, 44)
theorem hX11_readItems : Cond.code yX11_readItems cX11_readItems 6 (none) ∈ lw_good := lw_mem (tb6 (List.mem_of_getElem? (i := 58) rfl)) rfl
abbrev mX11_place : MD := (yX11_place, cX11_place, 1, some .int, 0, 0)
theorem hX11_place : Cond.code yX11_place cX11_place 1 (some .int) ∈ lw_good := lw_mem (tb6 (List.mem_of_getElem? (i := 62) rfl)) rfl
theorem bmX6_init (own : String) : pmB own mX6_init 1 := ⟨lw_mem (tb1 (List.mem_of_getElem? (i := 2) rfl)) rfl, hX6_init, by decide +kernel, by decide +kernel, by decide +kernel⟩
theorem lX10_11 : pmI RX10 11 mX6_init 1 := ⟨bmX6_init _, lw_mem (tb1 (List.mem_of_getElem? (i := 30) rfl)) rfl, lw_mem (tb1 (List.mem_of_getElem? (i := 31) rfl)) rfl, rfl, rfl⟩
theorem bmX1_init (own : String) : pmB own mX1_init 0 := ⟨lw_mem (tb1 (List.mem_of_getElem? (i := 3) rfl)) rfl, hX1_init, by decide +kernel, by decide +kernel, by decide +kernel⟩
theorem lX10_32 : pmN RX10 32 mX1_init 0 := ⟨bmX1_init _, List.mem_filter.mpr ⟨(tb1 (List.mem_of_getElem? (i := 44) rfl)), rfl⟩, lw_mem (tb1 (List.mem_of_getElem? (i := 45) rfl)) rfl, rfl, rfl⟩
theorem bmX2_init (own : String) : pmB own mX2_init 0 := ⟨lw_mem (tb1 (List.mem_of_getElem? (i := 4) rfl)) rfl, hX2_init, by decide +kernel, by decide +kernel, by decide +kernel⟩
theorem lX10_39 : pmN RX10 39 mX2_init 0 := ⟨bmX2_init _, List.mem_filter.mpr ⟨(tb1 (List.mem_of_getElem? (i := 66) rfl)), rfl⟩, lw_mem (tb1 (List.mem_of_getElem? (i := 67) rfl)) rfl, rfl, rfl⟩
theorem bmX3_init (own : String) : pmB own mX3_init 0 := ⟨lw_mem (tb1 (List.mem_of_getElem? (i := 5) rfl)) rfl, hX3_init, by decide +kernel, by decide +kernel, by decide +kernel⟩
theorem lX10_46 : pmN RX10 46 mX3_init 0 := ⟨bmX3_init _, List.mem_filter.mpr ⟨(tb1 (List.mem_of_getElem? (i := 76) rfl)), rfl⟩, lw_mem (tb1 (List.mem_of_getElem? (i := 77) rfl)) rfl, rfl, rfl⟩
theorem bmX9_init (own : String) : pmB own mX9_init 0 := ⟨lw_mem (tb1 (List.mem_of_getElem? (i := 9) rfl)) rfl, hX9_init, by decide +kernel, by decide +kernel, by decide +kernel⟩
theorem lX10_53 : pmN RX10 53 mX9_init 0 := ⟨bmX9_init _, List.mem_filter.mpr ⟨(tb1 (List.mem_of_getElem? (i := 176) rfl)), rfl⟩, lw_mem (tb1 (List.mem_of_getElem? (i := 177) rfl)) rfl, rfl, rfl⟩
theorem bmX7_init (own : String) : pmB own mX7_init 0 := ⟨lw_mem (tb1 (List.mem_of_getElem? (i := 11) rfl)) rfl, hX7_init, by decide +kernel, by decide +kernel, by decide +kernel⟩
theorem lX10_60 : pmN RX10 60 mX7_init 0 := ⟨bmX7_init _, List.mem_filter.mpr ⟨(tb2 (List.mem_of_getElem? (i := 9) rfl)), rfl⟩, lw_mem (tb2 (List.mem_of_getElem? (i := 10) rfl)) rfl, rfl, rfl⟩
theorem bmJ7_fill_53178 (own : String) : pmB own mJ7_fill_53178 2 := ⟨lw_mem (tb1 (List.mem_of_getElem? (i := 12) rfl)) rfl, hJ7_fill_53178, by decide +kernel, by decide +kernel, by decide +kernel⟩
theorem lX10_80 : pmS RX10 80 mJ7_fill_53178 2 := ⟨bmJ7_fill_53178 _, lw_mem (tb2 (List.mem_of_getElem? (i := 17) rfl)) rfl, lw_mem (tb2 (List.mem_of_getElem? (i := 18) rfl)) rfl⟩
theorem bmX6_count (own : String) : pmB own mX6_count 0 := ⟨lw_mem (tb1 (List.mem_of_getElem? (i := 2) rfl)) rfl, hX6_count, by decide +kernel, by decide +kernel, by decide +kernel⟩
theorem lX10_86 : pmV RX10 86 mX6_count 0 := ⟨bmX6_count _, lw_mem (tb2 (List.mem_of_getElem? (i := 67) rfl)) rfl, lw_mem (tb2 (List.mem_of_getElem? (i := 68) rfl)) rfl, lw_mem (tb2 (List.mem_of_getElem? (i := 69) rfl)) rfl⟩
theorem bmX6_empty (own : String) : pmB own mX6_empty 0 := ⟨lw_mem (tb1 (List.mem_of_getElem? (i := 2) rfl)) rfl, hX6_empty, by decide +kernel, by decide +kernel, by decide +kernel⟩
theorem lX10_90 : pmV RX10 90 mX6_empty 0 := ⟨bmX6_empty _, lw_mem (tb2 (List.mem_of_getElem? (i := 71) rfl)) rfl, lw_mem (tb2 (List.mem_of_getElem? (i := 72) rfl)) rfl, lw_mem (tb2 (List.mem_of_getElem? (i := 73) rfl)) rfl⟩
theorem bmX10_isByte (own : String) : pmB own mX10_isByte 1 := ⟨lw_mem (tb1 (List.mem_of_getElem? (i := 1) rfl)) rfl, hX10_isByte, by decide +kernel, by decide +kernel, by decide +kernel⟩
theorem lX10_93 : pmS RX10 93 mX10_isByte 1 := ⟨bmX10_isByte _, lw_mem (tb2 (List.mem_of_getElem? (i := 79) rfl)) rfl, lw_mem (tb2 (List.mem_of_getElem? (i := 80) rfl)) rfl⟩
theorem bmX6_push (own : String) : pmB own mX6_push 1 := ⟨lw_mem (tb1 (List.mem_of_getElem? (i := 2) rfl)) rfl, hX6_push, by decide +kernel, by decide +kernel, by decide +kernel⟩
theorem lX10_97 : pmV RX10 97 mX6_push 1 := ⟨bmX6_push _, lw_mem (tb2 (List.mem_of_getElem? (i := 82) rfl)) rfl, lw_mem (tb2 (List.mem_of_getElem? (i := 83) rfl)) rfl, lw_mem (tb2 (List.mem_of_getElem? (i := 84) rfl)) rfl⟩
theorem bmX10_drawn (own : String) : pmB own mX10_drawn 3 := ⟨lw_mem (tb1 (List.mem_of_getElem? (i := 1) rfl)) rfl, hX10_drawn, by decide +kernel, by decide +kernel, by decide +kernel⟩
theorem lX10_101 : pmS RX10 101 mX10_drawn 3 := ⟨bmX10_drawn _, lw_mem (tb2 (List.mem_of_getElem? (i := 91) rfl)) rfl, lw_mem (tb2 (List.mem_of_getElem? (i := 92) rfl)) rfl⟩
theorem bmX10_rowOf (own : String) : pmB own mX10_rowOf 1 := ⟨lw_mem (tb1 (List.mem_of_getElem? (i := 1) rfl)) rfl, hX10_rowOf, by decide +kernel, by decide +kernel, by decide +kernel⟩
theorem lX10_105 : pmV RX10 105 mX10_rowOf 1 := ⟨bmX10_rowOf _, lw_mem (tb2 (List.mem_of_getElem? (i := 98) rfl)) rfl, lw_mem (tb2 (List.mem_of_getElem? (i := 100) rfl)) rfl, lw_mem (List.mem_append_left _ (List.mem_of_getElem? (i := 0) rfl)) rfl⟩
theorem bmX6_has (own : String) : pmB own mX6_has 1 := ⟨lw_mem (tb1 (List.mem_of_getElem? (i := 2) rfl)) rfl, hX6_has, by decide +kernel, by decide +kernel, by decide +kernel⟩
theorem lX10_109 : pmV RX10 109 mX6_has 1 := ⟨bmX6_has _, lw_mem (tb2 (List.mem_of_getElem? (i := 106) rfl)) rfl, lw_mem (tb2 (List.mem_of_getElem? (i := 107) rfl)) rfl, lw_mem (tb2 (List.mem_of_getElem? (i := 108) rfl)) rfl⟩
theorem bmX6_get (own : String) : pmB own mX6_get 1 := ⟨lw_mem (tb1 (List.mem_of_getElem? (i := 2) rfl)) rfl, hX6_get, by decide +kernel, by decide +kernel, by decide +kernel⟩
theorem lX10_112 : pmV RX10 112 mX6_get 1 := ⟨bmX6_get _, lw_mem (tb2 (List.mem_of_getElem? (i := 110) rfl)) rfl, lw_mem (tb2 (List.mem_of_getElem? (i := 111) rfl)) rfl, lw_mem (tb2 (List.mem_of_getElem? (i := 112) rfl)) rfl⟩
theorem bmX2_takes (own : String) : pmB own mX2_takes 2 := ⟨lw_mem (tb1 (List.mem_of_getElem? (i := 4) rfl)) rfl, hX2_takes, by decide +kernel, by decide +kernel, by decide +kernel⟩
theorem lX10_116 : pmS RX10 116 mX2_takes 2 := ⟨bmX2_takes _, lw_mem (tb2 (List.mem_of_getElem? (i := 118) rfl)) rfl, lw_mem (tb2 (List.mem_of_getElem? (i := 119) rfl)) rfl⟩
theorem bmX1_filterCount (own : String) : pmB own mX1_filterCount 0 := ⟨lw_mem (tb1 (List.mem_of_getElem? (i := 3) rfl)) rfl, hX1_filterCount, by decide +kernel, by decide +kernel, by decide +kernel⟩
theorem lX10_120 : pmV RX10 120 mX1_filterCount 0 := ⟨bmX1_filterCount _, lw_mem (tb2 (List.mem_of_getElem? (i := 121) rfl)) rfl, lw_mem (tb2 (List.mem_of_getElem? (i := 122) rfl)) rfl, lw_mem (tb2 (List.mem_of_getElem? (i := 123) rfl)) rfl⟩
theorem bmX1_tellFilter (own : String) : pmB own mX1_tellFilter 2 := ⟨lw_mem (tb1 (List.mem_of_getElem? (i := 3) rfl)) rfl, hX1_tellFilter, by decide +kernel, by decide +kernel, by decide +kernel⟩
theorem lX10_123 : pmV RX10 123 mX1_tellFilter 2 := ⟨bmX1_tellFilter _, lw_mem (tb2 (List.mem_of_getElem? (i := 125) rfl)) rfl, lw_mem (tb2 (List.mem_of_getElem? (i := 126) rfl)) rfl, lw_mem (tb2 (List.mem_of_getElem? (i := 127) rfl)) rfl⟩
theorem bmX10_dropChoices (own : String) : pmB own mX10_dropChoices 0 := ⟨lw_mem (tb1 (List.mem_of_getElem? (i := 1) rfl)) rfl, hX10_dropChoices, by decide +kernel, by decide +kernel, by decide +kernel⟩
theorem lX10_127 : pmV RX10 127 mX10_dropChoices 0 := ⟨bmX10_dropChoices _, lw_mem (tb2 (List.mem_of_getElem? (i := 129) rfl)) rfl, lw_mem (tb2 (List.mem_of_getElem? (i := 131) rfl)) rfl, lw_mem (List.mem_append_left _ (List.mem_of_getElem? (i := 1) rfl)) rfl⟩
theorem bmX1_hasPacker (own : String) : pmB own mX1_hasPacker 1 := ⟨lw_mem (tb1 (List.mem_of_getElem? (i := 3) rfl)) rfl, hX1_hasPacker, by decide +kernel, by decide +kernel, by decide +kernel⟩
theorem lX10_130 : pmV RX10 130 mX1_hasPacker 1 := ⟨bmX1_hasPacker _, lw_mem (tb2 (List.mem_of_getElem? (i := 137) rfl)) rfl, lw_mem (tb2 (List.mem_of_getElem? (i := 138) rfl)) rfl, lw_mem (tb2 (List.mem_of_getElem? (i := 139) rfl)) rfl⟩
theorem bmX1_tellPacker (own : String) : pmB own mX1_tellPacker 1 := ⟨lw_mem (tb1 (List.mem_of_getElem? (i := 3) rfl)) rfl, hX1_tellPacker, by decide +kernel, by decide +kernel, by decide +kernel⟩
theorem lX10_133 : pmV RX10 133 mX1_tellPacker 1 := ⟨bmX1_tellPacker _, lw_mem (tb2 (List.mem_of_getElem? (i := 141) rfl)) rfl, lw_mem (tb2 (List.mem_of_getElem? (i := 142) rfl)) rfl, lw_mem (tb2 (List.mem_of_getElem? (i := 143) rfl)) rfl⟩
theorem bmX1_packerCount (own : String) : pmB own mX1_packerCount 0 := ⟨lw_mem (tb1 (List.mem_of_getElem? (i := 3) rfl)) rfl, hX1_packerCount, by decide +kernel, by decide +kernel, by decide +kernel⟩
theorem lX10_136 : pmV RX10 136 mX1_packerCount 0 := ⟨bmX1_packerCount _, lw_mem (tb2 (List.mem_of_getElem? (i := 145) rfl)) rfl, lw_mem (tb2 (List.mem_of_getElem? (i := 146) rfl)) rfl, lw_mem (tb2 (List.mem_of_getElem? (i := 147) rfl)) rfl⟩
theorem bmX1_many (own : String) : pmB own mX1_many 0 := ⟨lw_mem (tb1 (List.mem_of_getElem? (i := 3) rfl)) rfl, hX1_many, by decide +kernel, by decide +kernel, by decide +kernel⟩
theorem lX10_139 : pmV RX10 139 mX1_many 0 := ⟨bmX1_many _, lw_mem (tb2 (List.mem_of_getElem? (i := 153) rfl)) rfl, lw_mem (tb2 (List.mem_of_getElem? (i := 154) rfl)) rfl, lw_mem (tb2 (List.mem_of_getElem? (i := 155) rfl)) rfl⟩
theorem bmX1_tellNothing (own : String) : pmB own mX1_tellNothing 0 := ⟨lw_mem (tb1 (List.mem_of_getElem? (i := 3) rfl)) rfl, hX1_tellNothing, by decide +kernel, by decide +kernel, by decide +kernel⟩
theorem lX10_142 : pmV RX10 142 mX1_tellNothing 0 := ⟨bmX1_tellNothing _, lw_mem (tb2 (List.mem_of_getElem? (i := 157) rfl)) rfl, lw_mem (tb2 (List.mem_of_getElem? (i := 158) rfl)) rfl, lw_mem (tb2 (List.mem_of_getElem? (i := 159) rfl)) rfl⟩
theorem bmX1_has (own : String) : pmB own mX1_has 1 := ⟨lw_mem (tb1 (List.mem_of_getElem? (i := 3) rfl)) rfl, hX1_has, by decide +kernel, by decide +kernel, by decide +kernel⟩
theorem lX10_145 : pmV RX10 145 mX1_has 1 := ⟨bmX1_has _, lw_mem (tb2 (List.mem_of_getElem? (i := 169) rfl)) rfl, lw_mem (tb2 (List.mem_of_getElem? (i := 170) rfl)) rfl, lw_mem (tb2 (List.mem_of_getElem? (i := 171) rfl)) rfl⟩
theorem bmX1_filterOf (own : String) : pmB own mX1_filterOf 2 := ⟨lw_mem (tb1 (List.mem_of_getElem? (i := 3) rfl)) rfl, hX1_filterOf, by decide +kernel, by decide +kernel, by decide +kernel⟩
theorem lX10_146 : pmV RX10 146 mX1_filterOf 2 := ⟨bmX1_filterOf _, lw_mem (tb2 (List.mem_of_getElem? (i := 174) rfl)) rfl, lw_mem (tb2 (List.mem_of_getElem? (i := 175) rfl)) rfl, lw_mem (tb2 (List.mem_of_getElem? (i := 176) rfl)) rfl⟩
theorem bmX1_packerOf (own : String) : pmB own mX1_packerOf 1 := ⟨lw_mem (tb1 (List.mem_of_getElem? (i := 3) rfl)) rfl, hX1_packerOf, by decide +kernel, by decide +kernel, by decide +kernel⟩
theorem lX10_150 : pmV RX10 150 mX1_packerOf 1 := ⟨bmX1_packerOf _, lw_mem (tb2 (List.mem_of_getElem? (i := 182) rfl)) rfl, lw_mem (tb2 (List.mem_of_getElem? (i := 183) rfl)) rfl, lw_mem (tb2 (List.mem_of_getElem? (i := 184) rfl)) rfl⟩
theorem bmX1_stepsOf (own : String) : pmB own mX1_stepsOf 1 := ⟨lw_mem (tb1 (List.mem_of_getElem? (i := 3) rfl)) rfl, hX1_stepsOf, by decide +kernel, by decide +kernel, by decide +kernel⟩
theorem lX10_153 : pmV RX10 153 mX1_stepsOf 1 := ⟨bmX1_stepsOf _, lw_mem (tb2 (List.mem_of_getElem? (i := 187) rfl)) rfl, lw_mem (tb2 (List.mem_of_getElem? (i := 188) rfl)) rfl, lw_mem (tb2 (List.mem_of_getElem? (i := 189) rfl)) rfl⟩
theorem bmX1_memoryOf (own : String) : pmB own mX1_memoryOf 1 := ⟨lw_mem (tb1 (List.mem_of_getElem? (i := 3) rfl)) rfl, hX1_memoryOf, by decide +kernel, by decide +kernel, by decide +kernel⟩
theorem lX10_156 : pmV RX10 156 mX1_memoryOf 1 := ⟨bmX1_memoryOf _, lw_mem (tb2 (List.mem_of_getElem? (i := 208) rfl)) rfl, lw_mem (tb2 (List.mem_of_getElem? (i := 209) rfl)) rfl, lw_mem (tb2 (List.mem_of_getElem? (i := 210) rfl)) rfl⟩
theorem bmX10_writeHead (own : String) : pmB own mX10_writeHead 2 := ⟨lw_mem (tb1 (List.mem_of_getElem? (i := 1) rfl)) rfl, hX10_writeHead, by decide +kernel, by decide +kernel, by decide +kernel⟩
theorem lX10_159 : pmV RX10 159 mX10_writeHead 2 := ⟨bmX10_writeHead _, lw_mem (tb2 (List.mem_of_getElem? (i := 219) rfl)) rfl, lw_mem (tb2 (List.mem_of_getElem? (i := 221) rfl)) rfl, lw_mem (List.mem_append_left _ (List.mem_of_getElem? (i := 2) rfl)) rfl⟩
theorem bmX10_filtered (own : String) : pmB own mX10_filtered 1 := ⟨lw_mem (tb1 (List.mem_of_getElem? (i := 1) rfl)) rfl, hX10_filtered, by decide +kernel, by decide +kernel, by decide +kernel⟩
theorem lX10_163 : pmV RX10 163 mX10_filtered 1 := ⟨bmX10_filtered _, lw_mem (tb2 (List.mem_of_getElem? (i := 229) rfl)) rfl, lw_mem (tb2 (List.mem_of_getElem? (i := 231) rfl)) rfl, lw_mem (List.mem_append_left _ (List.mem_of_getElem? (i := 3) rfl)) rfl⟩
theorem bmX3_write (own : String) : pmB own mX3_write 3 := ⟨lw_mem (tb1 (List.mem_of_getElem? (i := 5) rfl)) rfl, hX3_write, by decide +kernel, by decide +kernel, by decide +kernel⟩
theorem lX10_166 : pmV RX10 166 mX3_write 3 := ⟨bmX3_write _, lw_mem (tb3 (List.mem_of_getElem? (i := 28) rfl)) rfl, lw_mem (tb3 (List.mem_of_getElem? (i := 29) rfl)) rfl, lw_mem (tb3 (List.mem_of_getElem? (i := 30) rfl)) rfl⟩
theorem bmX7_isFlat (own : String) : pmB own mX7_isFlat 1 := ⟨lw_mem (tb1 (List.mem_of_getElem? (i := 11) rfl)) rfl, hX7_isFlat, by decide +kernel, by decide +kernel, by decide +kernel⟩
theorem lX10_170 : pmV RX10 170 mX7_isFlat 1 := ⟨bmX7_isFlat _, lw_mem (tb3 (List.mem_of_getElem? (i := 147) rfl)) rfl, lw_mem (tb3 (List.mem_of_getElem? (i := 148) rfl)) rfl, lw_mem (tb3 (List.mem_of_getElem? (i := 149) rfl)) rfl⟩
theorem bmX10_tryChains (own : String) : pmB own mX10_tryChains 2 := ⟨lw_mem (tb1 (List.mem_of_getElem? (i := 1) rfl)) rfl, hX10_tryChains, by decide +kernel, by decide +kernel, by decide +kernel⟩
theorem lX10_174 : pmV RX10 174 mX10_tryChains 2 := ⟨bmX10_tryChains _, lw_mem (tb3 (List.mem_of_getElem? (i := 153) rfl)) rfl, lw_mem (tb3 (List.mem_of_getElem? (i := 155) rfl)) rfl, lw_mem (List.mem_append_left _ (List.mem_of_getElem? (i := 18) rfl)) rfl⟩
theorem bmX7_featureOf (own : String) : pmB own mX7_featureOf 1 := ⟨lw_mem (tb1 (List.mem_of_getElem? (i := 11) rfl)) rfl, hX7_featureOf, by decide +kernel, by decide +kernel, by decide +kernel⟩
theorem lX10_177 : pmV RX10 177 mX7_featureOf 1 := ⟨bmX7_featureOf _, lw_mem (tb3 (List.mem_of_getElem? (i := 170) rfl)) rfl, lw_mem (tb3 (List.mem_of_getElem? (i := 171) rfl)) rfl, lw_mem (tb3 (List.mem_of_getElem? (i := 172) rfl)) rfl⟩
theorem bmX6_set (own : String) : pmB own mX6_set 2 := ⟨lw_mem (tb1 (List.mem_of_getElem? (i := 2) rfl)) rfl, hX6_set, by decide +kernel, by decide +kernel, by decide +kernel⟩
theorem lX10_190 : pmV RX10 190 mX6_set 2 := ⟨bmX6_set _, lw_mem (tb3 (List.mem_of_getElem? (i := 202) rfl)) rfl, lw_mem (tb3 (List.mem_of_getElem? (i := 11) rfl)) rfl, lw_mem (tb3 (List.mem_of_getElem? (i := 12) rfl)) rfl⟩
theorem bmX6_keep (own : String) : pmB own mX6_keep 1 := ⟨lw_mem (tb1 (List.mem_of_getElem? (i := 2) rfl)) rfl, hX6_keep, by decide +kernel, by decide +kernel, by decide +kernel⟩
theorem lX10_193 : pmV RX10 193 mX6_keep 1 := ⟨bmX6_keep _, lw_mem (tb3 (List.mem_of_getElem? (i := 207) rfl)) rfl, lw_mem (tb3 (List.mem_of_getElem? (i := 208) rfl)) rfl, lw_mem (tb3 (List.mem_of_getElem? (i := 209) rfl)) rfl⟩
theorem bmX9_readHead (own : String) : pmB own mX9_readHead 1 := ⟨lw_mem (tb1 (List.mem_of_getElem? (i := 9) rfl)) rfl, hX9_readHead, by decide +kernel, by decide +kernel, by decide +kernel⟩
theorem lX10_196 : pmV RX10 196 mX9_readHead 1 := ⟨bmX9_readHead _, lw_mem (tb3 (List.mem_of_getElem? (i := 215) rfl)) rfl, lw_mem (tb3 (List.mem_of_getElem? (i := 216) rfl)) rfl, lw_mem (tb3 (List.mem_of_getElem? (i := 217) rfl)) rfl⟩
theorem bmX9_readBody (own : String) : pmB own mX9_readBody 0 := ⟨lw_mem (tb1 (List.mem_of_getElem? (i := 9) rfl)) rfl, hX9_readBody, by decide +kernel, by decide +kernel, by decide +kernel⟩
theorem lX10_200 : pmV RX10 200 mX9_readBody 0 := ⟨bmX9_readBody _, lw_mem (tb4 (List.mem_of_getElem? (i := 7) rfl)) rfl, lw_mem (tb4 (List.mem_of_getElem? (i := 8) rfl)) rfl, lw_mem (tb4 (List.mem_of_getElem? (i := 9) rfl)) rfl⟩
theorem bmX9_finish (own : String) : pmB own mX9_finish 1 := ⟨lw_mem (tb1 (List.mem_of_getElem? (i := 9) rfl)) rfl, hX9_finish, by decide +kernel, by decide +kernel, by decide +kernel⟩
theorem lX10_203 : pmV RX10 203 mX9_finish 1 := ⟨bmX9_finish _, lw_mem (tb4 (List.mem_of_getElem? (i := 76) rfl)) rfl, lw_mem (tb4 (List.mem_of_getElem? (i := 77) rfl)) rfl, lw_mem (tb4 (List.mem_of_getElem? (i := 78) rfl)) rfl⟩
theorem bmX9_faultPlace (own : String) : pmB own mX9_faultPlace 0 := ⟨lw_mem (tb1 (List.mem_of_getElem? (i := 9) rfl)) rfl, hX9_faultPlace, by decide +kernel, by decide +kernel, by decide +kernel⟩
theorem lX10_206 : pmV RX10 206 mX9_faultPlace 0 := ⟨bmX9_faultPlace _, lw_mem (tb4 (List.mem_of_getElem? (i := 106) rfl)) rfl, lw_mem (tb4 (List.mem_of_getElem? (i := 107) rfl)) rfl, lw_mem (tb4 (List.mem_of_getElem? (i := 108) rfl)) rfl⟩
theorem bmX1_kindOf (own : String) : pmB own mX1_kindOf 1 := ⟨lw_mem (tb1 (List.mem_of_getElem? (i := 3) rfl)) rfl, hX1_kindOf, by decide +kernel, by decide +kernel, by decide +kernel⟩
theorem lX10_208 : pmV RX10 208 mX1_kindOf 1 := ⟨bmX1_kindOf _, lw_mem (tb2 (List.mem_of_getElem? (i := 224) rfl)) rfl, lw_mem (tb2 (List.mem_of_getElem? (i := 205) rfl)) rfl, lw_mem (tb2 (List.mem_of_getElem? (i := 206) rfl)) rfl⟩
theorem bmX1_valueOf (own : String) : pmB own mX1_valueOf 1 := ⟨lw_mem (tb1 (List.mem_of_getElem? (i := 3) rfl)) rfl, hX1_valueOf, by decide +kernel, by decide +kernel, by decide +kernel⟩
theorem lX10_211 : pmV RX10 211 mX1_valueOf 1 := ⟨bmX1_valueOf _, lw_mem (tb2 (List.mem_of_getElem? (i := 225) rfl)) rfl, lw_mem (tb2 (List.mem_of_getElem? (i := 226) rfl)) rfl, lw_mem (tb2 (List.mem_of_getElem? (i := 227) rfl)) rfl⟩
theorem bmX2_make (own : String) : pmB own mX2_make 4 := ⟨lw_mem (tb1 (List.mem_of_getElem? (i := 4) rfl)) rfl, hX2_make, by decide +kernel, by decide +kernel, by decide +kernel⟩
theorem lX10_214 : pmV RX10 214 mX2_make 4 := ⟨bmX2_make _, lw_mem (tb2 (List.mem_of_getElem? (i := 233) rfl)) rfl, lw_mem (tb2 (List.mem_of_getElem? (i := 234) rfl)) rfl, lw_mem (tb2 (List.mem_of_getElem? (i := 235) rfl)) rfl⟩
theorem bmX1_filtersIn (own : String) : pmB own mX1_filtersIn 1 := ⟨lw_mem (tb1 (List.mem_of_getElem? (i := 3) rfl)) rfl, hX1_filtersIn, by decide +kernel, by decide +kernel, by decide +kernel⟩
theorem lX10_218 : pmV RX10 218 mX1_filtersIn 1 := ⟨bmX1_filtersIn _, lw_mem (tb2 (List.mem_of_getElem? (i := 223) rfl)) rfl, lw_mem (tb2 (List.mem_of_getElem? (i := 198) rfl)) rfl, lw_mem (tb2 (List.mem_of_getElem? (i := 199) rfl)) rfl⟩
theorem bmX1_groupOf (own : String) : pmB own mX1_groupOf 1 := ⟨lw_mem (tb1 (List.mem_of_getElem? (i := 3) rfl)) rfl, hX1_groupOf, by decide +kernel, by decide +kernel, by decide +kernel⟩
theorem lX10_221 : pmV RX10 221 mX1_groupOf 1 := ⟨bmX1_groupOf _, lw_mem (tb3 (List.mem_of_getElem? (i := 157) rfl)) rfl, lw_mem (tb2 (List.mem_of_getElem? (i := 179) rfl)) rfl, lw_mem (tb2 (List.mem_of_getElem? (i := 180) rfl)) rfl⟩
theorem bmX10_isBetter (own : String) : pmB own mX10_isBetter 2 := ⟨lw_mem (tb1 (List.mem_of_getElem? (i := 1) rfl)) rfl, hX10_isBetter, by decide +kernel, by decide +kernel, by decide +kernel⟩
theorem lX10_224 : pmV RX10 224 mX10_isBetter 2 := ⟨bmX10_isBetter _, lw_mem (tb3 (List.mem_of_getElem? (i := 158) rfl)) rfl, lw_mem (tb3 (List.mem_of_getElem? (i := 160) rfl)) rfl, lw_mem (List.mem_append_left _ (List.mem_of_getElem? (i := 19) rfl)) rfl⟩
theorem lX0_16 : pmV RX0 16 mX6_push 1 := ⟨bmX6_push _, lw_mem (tb3 (List.mem_of_getElem? (i := 64) rfl)) rfl, lw_mem (tb2 (List.mem_of_getElem? (i := 83) rfl)) rfl, lw_mem (tb2 (List.mem_of_getElem? (i := 84) rfl)) rfl⟩
theorem lX1_28 : pmV RX1 28 mX1_many 0 := ⟨bmX1_many _, lw_mem (tb2 (List.mem_of_getElem? (i := 173) rfl)) rfl, lw_mem (tb2 (List.mem_of_getElem? (i := 154) rfl)) rfl, lw_mem (tb2 (List.mem_of_getElem? (i := 155) rfl)) rfl⟩
theorem lX1_32 : pmV RX1 32 mX1_has 1 := ⟨bmX1_has _, lw_mem (tb2 (List.mem_of_getElem? (i := 186) rfl)) rfl, lw_mem (tb2 (List.mem_of_getElem? (i := 170) rfl)) rfl, lw_mem (tb2 (List.mem_of_getElem? (i := 171) rfl)) rfl⟩
theorem lX1_36 : pmV RX1 36 mX1_groupOf 1 := ⟨bmX1_groupOf _, lw_mem (tb2 (List.mem_of_getElem? (i := 178) rfl)) rfl, lw_mem (tb2 (List.mem_of_getElem? (i := 179) rfl)) rfl, lw_mem (tb2 (List.mem_of_getElem? (i := 180) rfl)) rfl⟩
theorem lX1_40 : pmV RX1 40 mX1_filterOf 2 := ⟨bmX1_filterOf _, lw_mem (tb2 (List.mem_of_getElem? (i := 201) rfl)) rfl, lw_mem (tb2 (List.mem_of_getElem? (i := 175) rfl)) rfl, lw_mem (tb2 (List.mem_of_getElem? (i := 176) rfl)) rfl⟩
theorem lX1_47 : pmV RX1 47 mX1_packerOf 1 := ⟨bmX1_packerOf _, lw_mem (tb2 (List.mem_of_getElem? (i := 193) rfl)) rfl, lw_mem (tb2 (List.mem_of_getElem? (i := 183) rfl)) rfl, lw_mem (tb2 (List.mem_of_getElem? (i := 184) rfl)) rfl⟩
theorem bmX1_valueIn (own : String) : pmB own mX1_valueIn 2 := ⟨lw_mem (tb1 (List.mem_of_getElem? (i := 3) rfl)) rfl, hX1_valueIn, by decide +kernel, by decide +kernel, by decide +kernel⟩
theorem lX1_50 : pmS RX1 50 mX1_valueIn 2 := ⟨bmX1_valueIn _, lw_mem (tb2 (List.mem_of_getElem? (i := 194) rfl)) rfl, lw_mem (tb2 (List.mem_of_getElem? (i := 195) rfl)) rfl⟩
theorem lX1_54 : pmV RX1 54 mX1_filtersIn 1 := ⟨bmX1_filtersIn _, lw_mem (tb2 (List.mem_of_getElem? (i := 197) rfl)) rfl, lw_mem (tb2 (List.mem_of_getElem? (i := 198) rfl)) rfl, lw_mem (tb2 (List.mem_of_getElem? (i := 199) rfl)) rfl⟩
theorem lX1_60 : pmV RX1 60 mX1_kindOf 1 := ⟨bmX1_kindOf _, lw_mem (tb2 (List.mem_of_getElem? (i := 204) rfl)) rfl, lw_mem (tb2 (List.mem_of_getElem? (i := 205) rfl)) rfl, lw_mem (tb2 (List.mem_of_getElem? (i := 206) rfl)) rfl⟩
theorem bmJ9_max_7cf53 (own : String) : pmB own mJ9_max_7cf53 2 := ⟨lw_mem (tb1 (List.mem_of_getElem? (i := 14) rfl)) rfl, hJ9_max_7cf53, by decide +kernel, by decide +kernel, by decide +kernel⟩
theorem lX1_69 : pmS RX1 69 mJ9_max_7cf53 2 := ⟨bmJ9_max_7cf53 _, lw_mem (tb2 (List.mem_of_getElem? (i := 216) rfl)) rfl, lw_mem (tb2 (List.mem_of_getElem? (i := 217) rfl)) rfl⟩
theorem bmX6_become (own : String) : pmB own mX6_become 1 := ⟨lw_mem (tb1 (List.mem_of_getElem? (i := 2) rfl)) rfl, hX6_become, by decide +kernel, by decide +kernel, by decide +kernel⟩
theorem lX2_15 : pmV RX2 15 mX6_become 1 := ⟨bmX6_become _, lw_mem (tb2 (List.mem_of_getElem? (i := 237) rfl)) rfl, lw_mem (tb2 (List.mem_of_getElem? (i := 238) rfl)) rfl, lw_mem (tb2 (List.mem_of_getElem? (i := 239) rfl)) rfl⟩
theorem lX2_21 : pmS RX2 21 mJ9_max_7cf53 2 := ⟨bmJ9_max_7cf53 _, lw_mem (tb3 (List.mem_of_getElem? (i := 7) rfl)) rfl, lw_mem (tb2 (List.mem_of_getElem? (i := 217) rfl)) rfl⟩
theorem lX2_27 : pmV RX2 27 mX6_count 0 := ⟨bmX6_count _, lw_mem (tb3 (List.mem_of_getElem? (i := 8) rfl)) rfl, lw_mem (tb2 (List.mem_of_getElem? (i := 68) rfl)) rfl, lw_mem (tb2 (List.mem_of_getElem? (i := 69) rfl)) rfl⟩
theorem lX2_31 : pmV RX2 31 mX6_get 1 := ⟨bmX6_get _, lw_mem (tb3 (List.mem_of_getElem? (i := 9) rfl)) rfl, lw_mem (tb2 (List.mem_of_getElem? (i := 111) rfl)) rfl, lw_mem (tb2 (List.mem_of_getElem? (i := 112) rfl)) rfl⟩
theorem lX2_35 : pmV RX2 35 mX6_set 2 := ⟨bmX6_set _, lw_mem (tb3 (List.mem_of_getElem? (i := 10) rfl)) rfl, lw_mem (tb3 (List.mem_of_getElem? (i := 11) rfl)) rfl, lw_mem (tb3 (List.mem_of_getElem? (i := 12) rfl)) rfl⟩
theorem bmX2_startOrder (own : String) : pmB own mX2_startOrder 0 := ⟨lw_mem (tb1 (List.mem_of_getElem? (i := 4) rfl)) rfl, hX2_startOrder, by decide +kernel, by decide +kernel, by decide +kernel⟩
theorem lX2_39 : pmV RX2 39 mX2_startOrder 0 := ⟨bmX2_startOrder _, lw_mem (tb3 (List.mem_of_getElem? (i := 14) rfl)) rfl, lw_mem (tb3 (List.mem_of_getElem? (i := 16) rfl)) rfl, lw_mem (List.mem_append_left _ (List.mem_of_getElem? (i := 4) rfl)) rfl⟩
theorem bmX2_bringToFront (own : String) : pmB own mX2_bringToFront 1 := ⟨lw_mem (tb1 (List.mem_of_getElem? (i := 4) rfl)) rfl, hX2_bringToFront, by decide +kernel, by decide +kernel, by decide +kernel⟩
theorem lX2_42 : pmV RX2 42 mX2_bringToFront 1 := ⟨bmX2_bringToFront _, lw_mem (tb3 (List.mem_of_getElem? (i := 18) rfl)) rfl, lw_mem (tb3 (List.mem_of_getElem? (i := 20) rfl)) rfl, lw_mem (List.mem_append_left _ (List.mem_of_getElem? (i := 5) rfl)) rfl⟩
theorem bmX2_gatherPlanes (own : String) : pmB own mX2_gatherPlanes 3 := ⟨lw_mem (tb1 (List.mem_of_getElem? (i := 4) rfl)) rfl, hX2_gatherPlanes, by decide +kernel, by decide +kernel, by decide +kernel⟩
theorem lX2_45 : pmS RX2 45 mX2_gatherPlanes 3 := ⟨bmX2_gatherPlanes _, lw_mem (tb3 (List.mem_of_getElem? (i := 22) rfl)) rfl, lw_mem (tb3 (List.mem_of_getElem? (i := 23) rfl)) rfl⟩
theorem bmX2_mask (own : String) : pmB own mX2_mask 3 := ⟨lw_mem (tb1 (List.mem_of_getElem? (i := 4) rfl)) rfl, hX2_mask, by decide +kernel, by decide +kernel, by decide +kernel⟩
theorem lX2_49 : pmS RX2 49 mX2_mask 3 := ⟨bmX2_mask _, lw_mem (tb3 (List.mem_of_getElem? (i := 25) rfl)) rfl, lw_mem (tb3 (List.mem_of_getElem? (i := 26) rfl)) rfl⟩
theorem bmX2_takeToFront (own : String) : pmB own mX2_takeToFront 1 := ⟨lw_mem (tb1 (List.mem_of_getElem? (i := 4) rfl)) rfl, hX2_takeToFront, by decide +kernel, by decide +kernel, by decide +kernel⟩
theorem lX2_52 : pmV RX2 52 mX2_takeToFront 1 := ⟨bmX2_takeToFront _, lw_mem (tb4 (List.mem_of_getElem? (i := 93) rfl)) rfl, lw_mem (tb4 (List.mem_of_getElem? (i := 95) rfl)) rfl, lw_mem (List.mem_append_left _ (List.mem_of_getElem? (i := 32) rfl)) rfl⟩
theorem bmX2_spreadPlanes (own : String) : pmB own mX2_spreadPlanes 3 := ⟨lw_mem (tb1 (List.mem_of_getElem? (i := 4) rfl)) rfl, hX2_spreadPlanes, by decide +kernel, by decide +kernel, by decide +kernel⟩
theorem lX2_55 : pmS RX2 55 mX2_spreadPlanes 3 := ⟨bmX2_spreadPlanes _, lw_mem (tb4 (List.mem_of_getElem? (i := 98) rfl)) rfl, lw_mem (tb4 (List.mem_of_getElem? (i := 99) rfl)) rfl⟩
theorem bmX0_init (own : String) : pmB own mX0_init 0 := ⟨lw_mem (tb1 (List.mem_of_getElem? (i := 6) rfl)) rfl, hX0_init, by decide +kernel, by decide +kernel, by decide +kernel⟩
theorem lX3_26 : pmN RX3 26 mX0_init 0 := ⟨bmX0_init _, List.mem_filter.mpr ⟨(tb1 (List.mem_of_getElem? (i := 82) rfl)), rfl⟩, lw_mem (tb1 (List.mem_of_getElem? (i := 83) rfl)) rfl, rfl, rfl⟩
theorem bmX8_init (own : String) : pmB own mX8_init 0 := ⟨lw_mem (tb1 (List.mem_of_getElem? (i := 7) rfl)) rfl, hX8_init, by decide +kernel, by decide +kernel, by decide +kernel⟩
theorem lX3_33 : pmN RX3 33 mX8_init 0 := ⟨bmX8_init _, List.mem_filter.mpr ⟨(tb1 (List.mem_of_getElem? (i := 95) rfl)), rfl⟩, lw_mem (tb1 (List.mem_of_getElem? (i := 96) rfl)) rfl, rfl, rfl⟩
theorem bmX4_init (own : String) : pmB own mX4_init 0 := ⟨lw_mem (tb1 (List.mem_of_getElem? (i := 8) rfl)) rfl, hX4_init, by decide +kernel, by decide +kernel, by decide +kernel⟩
theorem lX3_40 : pmN RX3 40 mX4_init 0 := ⟨bmX4_init _, List.mem_filter.mpr ⟨(tb1 (List.mem_of_getElem? (i := 123) rfl)), rfl⟩, lw_mem (tb1 (List.mem_of_getElem? (i := 124) rfl)) rfl, rfl, rfl⟩
theorem lX3_52 : pmV RX3 52 mX6_count 0 := ⟨bmX6_count _, lw_mem (tb3 (List.mem_of_getElem? (i := 32) rfl)) rfl, lw_mem (tb2 (List.mem_of_getElem? (i := 68) rfl)) rfl, lw_mem (tb2 (List.mem_of_getElem? (i := 69) rfl)) rfl⟩
theorem bmX3_writeRuns (own : String) : pmB own mX3_writeRuns 2 := ⟨lw_mem (tb1 (List.mem_of_getElem? (i := 5) rfl)) rfl, hX3_writeRuns, by decide +kernel, by decide +kernel, by decide +kernel⟩
theorem lX3_58 : pmS RX3 58 mX3_writeRuns 2 := ⟨bmX3_writeRuns _, lw_mem (tb3 (List.mem_of_getElem? (i := 33) rfl)) rfl, lw_mem (tb3 (List.mem_of_getElem? (i := 34) rfl)) rfl⟩
theorem bmX3_writeBits (own : String) : pmB own mX3_writeBits 2 := ⟨lw_mem (tb1 (List.mem_of_getElem? (i := 5) rfl)) rfl, hX3_writeBits, by decide +kernel, by decide +kernel, by decide +kernel⟩
theorem lX3_62 : pmV RX3 62 mX3_writeBits 2 := ⟨bmX3_writeBits _, lw_mem (tb3 (List.mem_of_getElem? (i := 48) rfl)) rfl, lw_mem (tb3 (List.mem_of_getElem? (i := 50) rfl)) rfl, lw_mem (List.mem_append_left _ (List.mem_of_getElem? (i := 6) rfl)) rfl⟩
theorem bmX3_writePrefix (own : String) : pmB own mX3_writePrefix 2 := ⟨lw_mem (tb1 (List.mem_of_getElem? (i := 5) rfl)) rfl, hX3_writePrefix, by decide +kernel, by decide +kernel, by decide +kernel⟩
theorem lX3_65 : pmV RX3 65 mX3_writePrefix 2 := ⟨bmX3_writePrefix _, lw_mem (tb3 (List.mem_of_getElem? (i := 69) rfl)) rfl, lw_mem (tb3 (List.mem_of_getElem? (i := 71) rfl)) rfl, lw_mem (List.mem_append_left _ (List.mem_of_getElem? (i := 7) rfl)) rfl⟩
theorem bmX3_writeMatches (own : String) : pmB own mX3_writeMatches 2 := ⟨lw_mem (tb1 (List.mem_of_getElem? (i := 5) rfl)) rfl, hX3_writeMatches, by decide +kernel, by decide +kernel, by decide +kernel⟩
theorem lX3_68 : pmV RX3 68 mX3_writeMatches 2 := ⟨bmX3_writeMatches _, lw_mem (tb3 (List.mem_of_getElem? (i := 121) rfl)) rfl, lw_mem (tb3 (List.mem_of_getElem? (i := 123) rfl)) rfl, lw_mem (List.mem_append_left _ (List.mem_of_getElem? (i := 13) rfl)) rfl⟩
theorem bmX3_copy (own : String) : pmB own mX3_copy 4 := ⟨lw_mem (tb1 (List.mem_of_getElem? (i := 5) rfl)) rfl, hX3_copy, by decide +kernel, by decide +kernel, by decide +kernel⟩
theorem lX3_71 : pmS RX3 71 mX3_copy 4 := ⟨bmX3_copy _, lw_mem (tb3 (List.mem_of_getElem? (i := 45) rfl)) rfl, lw_mem (tb3 (List.mem_of_getElem? (i := 46) rfl)) rfl⟩
theorem lX3_75 : pmV RX3 75 mX6_get 1 := ⟨bmX6_get _, lw_mem (tb3 (List.mem_of_getElem? (i := 40) rfl)) rfl, lw_mem (tb2 (List.mem_of_getElem? (i := 111) rfl)) rfl, lw_mem (tb2 (List.mem_of_getElem? (i := 112) rfl)) rfl⟩
theorem lX3_79 : pmV RX3 79 mX6_push 1 := ⟨bmX6_push _, lw_mem (tb3 (List.mem_of_getElem? (i := 41) rfl)) rfl, lw_mem (tb2 (List.mem_of_getElem? (i := 83) rfl)) rfl, lw_mem (tb2 (List.mem_of_getElem? (i := 84) rfl)) rfl⟩
theorem bmX3_runAt (own : String) : pmB own mX3_runAt 3 := ⟨lw_mem (tb1 (List.mem_of_getElem? (i := 5) rfl)) rfl, hX3_runAt, by decide +kernel, by decide +kernel, by decide +kernel⟩
theorem lX3_83 : pmS RX3 83 mX3_runAt 3 := ⟨bmX3_runAt _, lw_mem (tb3 (List.mem_of_getElem? (i := 36) rfl)) rfl, lw_mem (tb3 (List.mem_of_getElem? (i := 37) rfl)) rfl⟩
theorem bmJ9_min_7cf53 (own : String) : pmB own mJ9_min_7cf53 2 := ⟨lw_mem (tb1 (List.mem_of_getElem? (i := 14) rfl)) rfl, hJ9_min_7cf53, by decide +kernel, by decide +kernel, by decide +kernel⟩
theorem lX3_87 : pmS RX3 87 mJ9_min_7cf53 2 := ⟨bmJ9_min_7cf53 _, lw_mem (tb3 (List.mem_of_getElem? (i := 39) rfl)) rfl, lw_mem (tb3 (List.mem_of_getElem? (i := 2) rfl)) rfl⟩
theorem bmX3_writePlain (own : String) : pmB own mX3_writePlain 4 := ⟨lw_mem (tb1 (List.mem_of_getElem? (i := 5) rfl)) rfl, hX3_writePlain, by decide +kernel, by decide +kernel, by decide +kernel⟩
theorem lX3_93 : pmS RX3 93 mX3_writePlain 4 := ⟨bmX3_writePlain _, lw_mem (tb3 (List.mem_of_getElem? (i := 42) rfl)) rfl, lw_mem (tb3 (List.mem_of_getElem? (i := 43) rfl)) rfl⟩
theorem bmX6_countInto (own : String) : pmB own mX6_countInto 1 := ⟨lw_mem (tb1 (List.mem_of_getElem? (i := 2) rfl)) rfl, hX6_countInto, by decide +kernel, by decide +kernel, by decide +kernel⟩
theorem lX3_96 : pmV RX3 96 mX6_countInto 1 := ⟨bmX6_countInto _, lw_mem (tb3 (List.mem_of_getElem? (i := 52) rfl)) rfl, lw_mem (tb3 (List.mem_of_getElem? (i := 53) rfl)) rfl, lw_mem (tb3 (List.mem_of_getElem? (i := 54) rfl)) rfl⟩
theorem bmX3_widthOf (own : String) : pmB own mX3_widthOf 1 := ⟨lw_mem (tb1 (List.mem_of_getElem? (i := 5) rfl)) rfl, hX3_widthOf, by decide +kernel, by decide +kernel, by decide +kernel⟩
theorem lX3_100 : pmS RX3 100 mX3_widthOf 1 := ⟨bmX3_widthOf _, lw_mem (tb3 (List.mem_of_getElem? (i := 57) rfl)) rfl, lw_mem (tb3 (List.mem_of_getElem? (i := 58) rfl)) rfl⟩
theorem bmX0_put (own : String) : pmB own mX0_put 3 := ⟨lw_mem (tb1 (List.mem_of_getElem? (i := 6) rfl)) rfl, hX0_put, by decide +kernel, by decide +kernel, by decide +kernel⟩
theorem lX3_103 : pmV RX3 103 mX0_put 3 := ⟨bmX0_put _, lw_mem (tb3 (List.mem_of_getElem? (i := 60) rfl)) rfl, lw_mem (tb3 (List.mem_of_getElem? (i := 61) rfl)) rfl, lw_mem (tb3 (List.mem_of_getElem? (i := 62) rfl)) rfl⟩
theorem bmX0_finish (own : String) : pmB own mX0_finish 1 := ⟨lw_mem (tb1 (List.mem_of_getElem? (i := 6) rfl)) rfl, hX0_finish, by decide +kernel, by decide +kernel, by decide +kernel⟩
theorem lX3_107 : pmV RX3 107 mX0_finish 1 := ⟨bmX0_finish _, lw_mem (tb3 (List.mem_of_getElem? (i := 65) rfl)) rfl, lw_mem (tb3 (List.mem_of_getElem? (i := 66) rfl)) rfl, lw_mem (tb3 (List.mem_of_getElem? (i := 67) rfl)) rfl⟩
theorem bmX8_grow (own : String) : pmB own mX8_grow 2 := ⟨lw_mem (tb1 (List.mem_of_getElem? (i := 7) rfl)) rfl, hX8_grow, by decide +kernel, by decide +kernel, by decide +kernel⟩
theorem lX3_111 : pmV RX3 111 mX8_grow 2 := ⟨bmX8_grow _, lw_mem (tb3 (List.mem_of_getElem? (i := 73) rfl)) rfl, lw_mem (tb3 (List.mem_of_getElem? (i := 74) rfl)) rfl, lw_mem (tb3 (List.mem_of_getElem? (i := 75) rfl)) rfl⟩
theorem bmX4_assign (own : String) : pmB own mX4_assign 0 := ⟨lw_mem (tb1 (List.mem_of_getElem? (i := 8) rfl)) rfl, hX4_assign, by decide +kernel, by decide +kernel, by decide +kernel⟩
theorem lX3_115 : pmV RX3 115 mX4_assign 0 := ⟨bmX4_assign _, lw_mem (tb3 (List.mem_of_getElem? (i := 104) rfl)) rfl, lw_mem (tb3 (List.mem_of_getElem? (i := 105) rfl)) rfl, lw_mem (tb3 (List.mem_of_getElem? (i := 106) rfl)) rfl⟩
theorem bmX4_lengthOf (own : String) : pmB own mX4_lengthOf 1 := ⟨lw_mem (tb1 (List.mem_of_getElem? (i := 8) rfl)) rfl, hX4_lengthOf, by decide +kernel, by decide +kernel, by decide +kernel⟩
theorem lX3_118 : pmV RX3 118 mX4_lengthOf 1 := ⟨bmX4_lengthOf _, lw_mem (tb3 (List.mem_of_getElem? (i := 113) rfl)) rfl, lw_mem (tb3 (List.mem_of_getElem? (i := 114) rfl)) rfl, lw_mem (tb3 (List.mem_of_getElem? (i := 115) rfl)) rfl⟩
theorem bmX4_codeOf (own : String) : pmB own mX4_codeOf 1 := ⟨lw_mem (tb1 (List.mem_of_getElem? (i := 8) rfl)) rfl, hX4_codeOf, by decide +kernel, by decide +kernel, by decide +kernel⟩
theorem lX3_121 : pmV RX3 121 mX4_codeOf 1 := ⟨bmX4_codeOf _, lw_mem (tb3 (List.mem_of_getElem? (i := 117) rfl)) rfl, lw_mem (tb3 (List.mem_of_getElem? (i := 118) rfl)) rfl, lw_mem (tb3 (List.mem_of_getElem? (i := 119) rfl)) rfl⟩
theorem bmX3_linkLikeBytes (own : String) : pmB own mX3_linkLikeBytes 1 := ⟨lw_mem (tb1 (List.mem_of_getElem? (i := 5) rfl)) rfl, hX3_linkLikeBytes, by decide +kernel, by decide +kernel, by decide +kernel⟩
theorem lX3_124 : pmV RX3 124 mX3_linkLikeBytes 1 := ⟨bmX3_linkLikeBytes _, lw_mem (tb3 (List.mem_of_getElem? (i := 125) rfl)) rfl, lw_mem (tb3 (List.mem_of_getElem? (i := 127) rfl)) rfl, lw_mem (List.mem_append_left _ (List.mem_of_getElem? (i := 14) rfl)) rfl⟩
theorem bmX3_findMatch (own : String) : pmB own mX3_findMatch 2 := ⟨lw_mem (tb1 (List.mem_of_getElem? (i := 5) rfl)) rfl, hX3_findMatch, by decide +kernel, by decide +kernel, by decide +kernel⟩
theorem lX3_127 : pmV RX3 127 mX3_findMatch 2 := ⟨bmX3_findMatch _, lw_mem (tb3 (List.mem_of_getElem? (i := 130) rfl)) rfl, lw_mem (tb3 (List.mem_of_getElem? (i := 132) rfl)) rfl, lw_mem (List.mem_append_left _ (List.mem_of_getElem? (i := 15) rfl)) rfl⟩
theorem lX3_131 : pmS RX3 131 mJ9_max_7cf53 2 := ⟨bmJ9_max_7cf53 _, lw_mem (tb3 (List.mem_of_getElem? (i := 138) rfl)) rfl, lw_mem (tb2 (List.mem_of_getElem? (i := 217) rfl)) rfl⟩
theorem bmX3_endOfPlain (own : String) : pmB own mX3_endOfPlain 2 := ⟨lw_mem (tb1 (List.mem_of_getElem? (i := 5) rfl)) rfl, hX3_endOfPlain, by decide +kernel, by decide +kernel, by decide +kernel⟩
theorem lX3_134 : pmV RX3 134 mX3_endOfPlain 2 := ⟨bmX3_endOfPlain _, lw_mem (tb3 (List.mem_of_getElem? (i := 139) rfl)) rfl, lw_mem (tb3 (List.mem_of_getElem? (i := 141) rfl)) rfl, lw_mem (List.mem_append_left _ (List.mem_of_getElem? (i := 17) rfl)) rfl⟩
theorem lX3_138 : pmS RX3 138 mJ7_fill_53178 2 := ⟨bmJ7_fill_53178 _, lw_mem (tb3 (List.mem_of_getElem? (i := 129) rfl)) rfl, lw_mem (tb2 (List.mem_of_getElem? (i := 18) rfl)) rfl⟩
theorem bmX3_before (own : String) : pmB own mX3_before 1 := ⟨lw_mem (tb1 (List.mem_of_getElem? (i := 5) rfl)) rfl, hX3_before, by decide +kernel, by decide +kernel, by decide +kernel⟩
theorem lX3_144 : pmV RX3 144 mX3_before 1 := ⟨bmX3_before _, lw_mem (tb3 (List.mem_of_getElem? (i := 134) rfl)) rfl, lw_mem (tb3 (List.mem_of_getElem? (i := 136) rfl)) rfl, lw_mem (List.mem_append_left _ (List.mem_of_getElem? (i := 16) rfl)) rfl⟩
theorem lX4_31 : pmS RX4 31 mJ7_fill_53178 2 := ⟨bmJ7_fill_53178 _, lw_mem (tb3 (List.mem_of_getElem? (i := 81) rfl)) rfl, lw_mem (tb2 (List.mem_of_getElem? (i := 18) rfl)) rfl⟩
theorem bmX4_rank (own : String) : pmB own mX4_rank 0 := ⟨lw_mem (tb1 (List.mem_of_getElem? (i := 8) rfl)) rfl, hX4_rank, by decide +kernel, by decide +kernel, by decide +kernel⟩
theorem lX4_38 : pmV RX4 38 mX4_rank 0 := ⟨bmX4_rank _, lw_mem (tb3 (List.mem_of_getElem? (i := 108) rfl)) rfl, lw_mem (tb3 (List.mem_of_getElem? (i := 110) rfl)) rfl, lw_mem (List.mem_append_left _ (List.mem_of_getElem? (i := 12) rfl)) rfl⟩
theorem lX4_41 : pmS RX4 41 mJ9_max_7cf53 2 := ⟨bmJ9_max_7cf53 _, lw_mem (tb3 (List.mem_of_getElem? (i := 112) rfl)) rfl, lw_mem (tb2 (List.mem_of_getElem? (i := 217) rfl)) rfl⟩
theorem bmX5_isFine (own : String) : pmB own mX5_isFine 0 := ⟨lw_mem (tb1 (List.mem_of_getElem? (i := 10) rfl)) rfl, hX5_isFine, by decide +kernel, by decide +kernel, by decide +kernel⟩
theorem lX4_47 : pmV RX4 47 mX5_isFine 0 := ⟨bmX5_isFine _, lw_mem (tb4 (List.mem_of_getElem? (i := 73) rfl)) rfl, lw_mem (tb4 (List.mem_of_getElem? (i := 12) rfl)) rfl, lw_mem (tb4 (List.mem_of_getElem? (i := 13) rfl)) rfl⟩
theorem bmX5_bit (own : String) : pmB own mX5_bit 0 := ⟨lw_mem (tb1 (List.mem_of_getElem? (i := 10) rfl)) rfl, hX5_bit, by decide +kernel, by decide +kernel, by decide +kernel⟩
theorem lX4_53 : pmV RX4 53 mX5_bit 0 := ⟨bmX5_bit _, lw_mem (tb4 (List.mem_of_getElem? (i := 74) rfl)) rfl, lw_mem (tb4 (List.mem_of_getElem? (i := 44) rfl)) rfl, lw_mem (tb4 (List.mem_of_getElem? (i := 45) rfl)) rfl⟩
theorem bmX5_blame (own : String) : pmB own mX5_blame 1 := ⟨lw_mem (tb1 (List.mem_of_getElem? (i := 10) rfl)) rfl, hX5_blame, by decide +kernel, by decide +kernel, by decide +kernel⟩
theorem lX4_57 : pmV RX4 57 mX5_blame 1 := ⟨bmX5_blame _, lw_mem (tb4 (List.mem_of_getElem? (i := 75) rfl)) rfl, lw_mem (tb4 (List.mem_of_getElem? (i := 0) rfl)) rfl, lw_mem (tb4 (List.mem_of_getElem? (i := 1) rfl)) rfl⟩
theorem lX5_11 : pmI RX5 11 mX6_init 1 := ⟨bmX6_init _, lw_mem (tb1 (List.mem_of_getElem? (i := 187) rfl)) rfl, lw_mem (tb1 (List.mem_of_getElem? (i := 31) rfl)) rfl, rfl, rfl⟩
theorem lX5_36 : pmV RX5 36 mX6_has 1 := ⟨bmX6_has _, lw_mem (tb3 (List.mem_of_getElem? (i := 232) rfl)) rfl, lw_mem (tb2 (List.mem_of_getElem? (i := 107) rfl)) rfl, lw_mem (tb2 (List.mem_of_getElem? (i := 108) rfl)) rfl⟩
theorem lX5_40 : pmV RX5 40 mX6_count 0 := ⟨bmX6_count _, lw_mem (tb3 (List.mem_of_getElem? (i := 233) rfl)) rfl, lw_mem (tb2 (List.mem_of_getElem? (i := 68) rfl)) rfl, lw_mem (tb2 (List.mem_of_getElem? (i := 69) rfl)) rfl⟩
theorem bmX5_blameAt (own : String) : pmB own mX5_blameAt 2 := ⟨lw_mem (tb1 (List.mem_of_getElem? (i := 10) rfl)) rfl, hX5_blameAt, by decide +kernel, by decide +kernel, by decide +kernel⟩
theorem lX5_44 : pmV RX5 44 mX5_blameAt 2 := ⟨bmX5_blameAt _, lw_mem (tb3 (List.mem_of_getElem? (i := 234) rfl)) rfl, lw_mem (tb3 (List.mem_of_getElem? (i := 236) rfl)) rfl, lw_mem (List.mem_append_left _ (List.mem_of_getElem? (i := 22) rfl)) rfl⟩
theorem lX5_48 : pmV RX5 48 mX6_get 1 := ⟨bmX6_get _, lw_mem (tb3 (List.mem_of_getElem? (i := 238) rfl)) rfl, lw_mem (tb2 (List.mem_of_getElem? (i := 111) rfl)) rfl, lw_mem (tb2 (List.mem_of_getElem? (i := 112) rfl)) rfl⟩
theorem bmX5_next (own : String) : pmB own mX5_next 0 := ⟨lw_mem (tb1 (List.mem_of_getElem? (i := 10) rfl)) rfl, hX5_next, by decide +kernel, by decide +kernel, by decide +kernel⟩
theorem lX5_52 : pmV RX5 52 mX5_next 0 := ⟨bmX5_next _, lw_mem (tb4 (List.mem_of_getElem? (i := 47) rfl)) rfl, lw_mem (tb3 (List.mem_of_getElem? (i := 229) rfl)) rfl, lw_mem (tb3 (List.mem_of_getElem? (i := 230) rfl)) rfl⟩
theorem lX5_55 : pmV RX5 55 mX5_blame 1 := ⟨bmX5_blame _, lw_mem (tb4 (List.mem_of_getElem? (i := 52) rfl)) rfl, lw_mem (tb4 (List.mem_of_getElem? (i := 0) rfl)) rfl, lw_mem (tb4 (List.mem_of_getElem? (i := 1) rfl)) rfl⟩
theorem lX6_17 : pmS RX6 17 mJ9_min_7cf53 2 := ⟨bmJ9_min_7cf53 _, lw_mem (tb3 (List.mem_of_getElem? (i := 1) rfl)) rfl, lw_mem (tb3 (List.mem_of_getElem? (i := 2) rfl)) rfl⟩
theorem lX6_29 : pmS RX6 29 mJ7_fill_53178 2 := ⟨bmJ7_fill_53178 _, lw_mem (tb3 (List.mem_of_getElem? (i := 56) rfl)) rfl, lw_mem (tb2 (List.mem_of_getElem? (i := 18) rfl)) rfl⟩
theorem lX7_15 : pmV RX7 15 mX6_count 0 := ⟨bmX6_count _, lw_mem (tb3 (List.mem_of_getElem? (i := 151) rfl)) rfl, lw_mem (tb2 (List.mem_of_getElem? (i := 68) rfl)) rfl, lw_mem (tb2 (List.mem_of_getElem? (i := 69) rfl)) rfl⟩
theorem lX7_21 : pmV RX7 21 mX6_countInto 1 := ⟨bmX6_countInto _, lw_mem (tb3 (List.mem_of_getElem? (i := 152) rfl)) rfl, lw_mem (tb3 (List.mem_of_getElem? (i := 53) rfl)) rfl, lw_mem (tb3 (List.mem_of_getElem? (i := 54) rfl)) rfl⟩
theorem lX7_25 : pmV RX7 25 mX6_get 1 := ⟨bmX6_get _, lw_mem (tb3 (List.mem_of_getElem? (i := 174) rfl)) rfl, lw_mem (tb2 (List.mem_of_getElem? (i := 111) rfl)) rfl, lw_mem (tb2 (List.mem_of_getElem? (i := 112) rfl)) rfl⟩
theorem bmJ9_abs_0f7a4 (own : String) : pmB own mJ9_abs_0f7a4 1 := ⟨lw_mem (tb1 (List.mem_of_getElem? (i := 14) rfl)) rfl, hJ9_abs_0f7a4, by decide +kernel, by decide +kernel, by decide +kernel⟩
theorem lX7_29 : pmS RX7 29 mJ9_abs_0f7a4 1 := ⟨bmJ9_abs_0f7a4 _, lw_mem (tb3 (List.mem_of_getElem? (i := 175) rfl)) rfl, lw_mem (tb3 (List.mem_of_getElem? (i := 176) rfl)) rfl⟩
theorem bmX7_variety (own : String) : pmB own mX7_variety 1 := ⟨lw_mem (tb1 (List.mem_of_getElem? (i := 11) rfl)) rfl, hX7_variety, by decide +kernel, by decide +kernel, by decide +kernel⟩
theorem lX7_34 : pmV RX7 34 mX7_variety 1 := ⟨bmX7_variety _, lw_mem (tb3 (List.mem_of_getElem? (i := 178) rfl)) rfl, lw_mem (tb3 (List.mem_of_getElem? (i := 180) rfl)) rfl, lw_mem (List.mem_append_left _ (List.mem_of_getElem? (i := 20) rfl)) rfl⟩
theorem bmX7_quarters (own : String) : pmB own mX7_quarters 2 := ⟨lw_mem (tb1 (List.mem_of_getElem? (i := 11) rfl)) rfl, hX7_quarters, by decide +kernel, by decide +kernel, by decide +kernel⟩
theorem lX7_38 : pmS RX7 38 mX7_quarters 2 := ⟨bmX7_quarters _, lw_mem (tb3 (List.mem_of_getElem? (i := 182) rfl)) rfl, lw_mem (tb3 (List.mem_of_getElem? (i := 183) rfl)) rfl⟩
theorem lX7_42 : pmS RX7 42 mJ9_min_7cf53 2 := ⟨bmJ9_min_7cf53 _, lw_mem (tb3 (List.mem_of_getElem? (i := 185) rfl)) rfl, lw_mem (tb3 (List.mem_of_getElem? (i := 2) rfl)) rfl⟩
theorem bmX4_begin (own : String) : pmB own mX4_begin 0 := ⟨lw_mem (tb1 (List.mem_of_getElem? (i := 8) rfl)) rfl, hX4_begin, by decide +kernel, by decide +kernel, by decide +kernel⟩
theorem lX8_34 : pmV RX8 34 mX4_begin 0 := ⟨bmX4_begin _, lw_mem (tb3 (List.mem_of_getElem? (i := 77) rfl)) rfl, lw_mem (tb3 (List.mem_of_getElem? (i := 78) rfl)) rfl, lw_mem (tb3 (List.mem_of_getElem? (i := 79) rfl)) rfl⟩
theorem bmX8_sortLeaves (own : String) : pmB own mX8_sortLeaves 1 := ⟨lw_mem (tb1 (List.mem_of_getElem? (i := 7) rfl)) rfl, hX8_sortLeaves, by decide +kernel, by decide +kernel, by decide +kernel⟩
theorem lX8_39 : pmV RX8 39 mX8_sortLeaves 1 := ⟨bmX8_sortLeaves _, lw_mem (tb3 (List.mem_of_getElem? (i := 82) rfl)) rfl, lw_mem (tb3 (List.mem_of_getElem? (i := 84) rfl)) rfl, lw_mem (List.mem_append_left _ (List.mem_of_getElem? (i := 8) rfl)) rfl⟩
theorem bmX4_give (own : String) : pmB own mX4_give 2 := ⟨lw_mem (tb1 (List.mem_of_getElem? (i := 8) rfl)) rfl, hX4_give, by decide +kernel, by decide +kernel, by decide +kernel⟩
theorem lX8_43 : pmV RX8 43 mX4_give 2 := ⟨bmX4_give _, lw_mem (tb3 (List.mem_of_getElem? (i := 86) rfl)) rfl, lw_mem (tb3 (List.mem_of_getElem? (i := 87) rfl)) rfl, lw_mem (tb3 (List.mem_of_getElem? (i := 88) rfl)) rfl⟩
theorem bmX8_join (own : String) : pmB own mX8_join 0 := ⟨lw_mem (tb1 (List.mem_of_getElem? (i := 7) rfl)) rfl, hX8_join, by decide +kernel, by decide +kernel, by decide +kernel⟩
theorem lX8_47 : pmV RX8 47 mX8_join 0 := ⟨bmX8_join _, lw_mem (tb3 (List.mem_of_getElem? (i := 90) rfl)) rfl, lw_mem (tb3 (List.mem_of_getElem? (i := 92) rfl)) rfl, lw_mem (List.mem_append_left _ (List.mem_of_getElem? (i := 9) rfl)) rfl⟩
theorem bmX8_measure (own : String) : pmB own mX8_measure 1 := ⟨lw_mem (tb1 (List.mem_of_getElem? (i := 7) rfl)) rfl, hX8_measure, by decide +kernel, by decide +kernel, by decide +kernel⟩
theorem lX8_50 : pmV RX8 50 mX8_measure 1 := ⟨bmX8_measure _, lw_mem (tb3 (List.mem_of_getElem? (i := 98) rfl)) rfl, lw_mem (tb3 (List.mem_of_getElem? (i := 100) rfl)) rfl, lw_mem (List.mem_append_left _ (List.mem_of_getElem? (i := 11) rfl)) rfl⟩
theorem bmX8_takeLeast (own : String) : pmB own mX8_takeLeast 1 := ⟨lw_mem (tb1 (List.mem_of_getElem? (i := 7) rfl)) rfl, hX8_takeLeast, by decide +kernel, by decide +kernel, by decide +kernel⟩
theorem lX8_54 : pmV RX8 54 mX8_takeLeast 1 := ⟨bmX8_takeLeast _, lw_mem (tb3 (List.mem_of_getElem? (i := 94) rfl)) rfl, lw_mem (tb3 (List.mem_of_getElem? (i := 96) rfl)) rfl, lw_mem (List.mem_append_left _ (List.mem_of_getElem? (i := 10) rfl)) rfl⟩
theorem lX8_58 : pmS RX8 58 mJ9_min_7cf53 2 := ⟨bmJ9_min_7cf53 _, lw_mem (tb3 (List.mem_of_getElem? (i := 102) rfl)) rfl, lw_mem (tb3 (List.mem_of_getElem? (i := 2) rfl)) rfl⟩
theorem lX8_64 : pmS RX8 64 mJ9_max_7cf53 2 := ⟨bmJ9_max_7cf53 _, lw_mem (tb3 (List.mem_of_getElem? (i := 103) rfl)) rfl, lw_mem (tb2 (List.mem_of_getElem? (i := 217) rfl)) rfl⟩
theorem bmX5_init (own : String) : pmB own mX5_init 0 := ⟨lw_mem (tb1 (List.mem_of_getElem? (i := 10) rfl)) rfl, hX5_init, by decide +kernel, by decide +kernel, by decide +kernel⟩
theorem lX9_11 : pmN RX9 11 mX5_init 0 := ⟨bmX5_init _, List.mem_filter.mpr ⟨(tb1 (List.mem_of_getElem? (i := 182) rfl)), rfl⟩, lw_mem (tb1 (List.mem_of_getElem? (i := 183) rfl)) rfl, rfl, rfl⟩
theorem lX9_30 : pmN RX9 30 mX4_init 0 := ⟨bmX4_init _, List.mem_filter.mpr ⟨(tb1 (List.mem_of_getElem? (i := 208) rfl)), rfl⟩, lw_mem (tb1 (List.mem_of_getElem? (i := 124) rfl)) rfl, rfl, rfl⟩
theorem lX9_37 : pmN RX9 37 mX2_init 0 := ⟨bmX2_init _, List.mem_filter.mpr ⟨(tb1 (List.mem_of_getElem? (i := 210) rfl)), rfl⟩, lw_mem (tb1 (List.mem_of_getElem? (i := 67) rfl)) rfl, rfl, rfl⟩
theorem lX9_44 : pmI RX9 44 mX6_init 1 := ⟨bmX6_init _, lw_mem (tb1 (List.mem_of_getElem? (i := 212) rfl)) rfl, lw_mem (tb1 (List.mem_of_getElem? (i := 31) rfl)) rfl, rfl, rfl⟩
theorem bmX5_faultPlace (own : String) : pmB own mX5_faultPlace 0 := ⟨lw_mem (tb1 (List.mem_of_getElem? (i := 10) rfl)) rfl, hX5_faultPlace, by decide +kernel, by decide +kernel, by decide +kernel⟩
theorem lX9_64 : pmV RX9 64 mX5_faultPlace 0 := ⟨bmX5_faultPlace _, lw_mem (tb4 (List.mem_of_getElem? (i := 110) rfl)) rfl, lw_mem (tb4 (List.mem_of_getElem? (i := 111) rfl)) rfl, lw_mem (tb4 (List.mem_of_getElem? (i := 112) rfl)) rfl⟩
theorem bmX5_begin (own : String) : pmB own mX5_begin 1 := ⟨lw_mem (tb1 (List.mem_of_getElem? (i := 10) rfl)) rfl, hX5_begin, by decide +kernel, by decide +kernel, by decide +kernel⟩
theorem lX9_68 : pmV RX9 68 mX5_begin 1 := ⟨bmX5_begin _, lw_mem (tb3 (List.mem_of_getElem? (i := 219) rfl)) rfl, lw_mem (tb3 (List.mem_of_getElem? (i := 220) rfl)) rfl, lw_mem (tb3 (List.mem_of_getElem? (i := 221) rfl)) rfl⟩
theorem lX9_72 : pmV RX9 72 mX6_empty 0 := ⟨bmX6_empty _, lw_mem (tb3 (List.mem_of_getElem? (i := 223) rfl)) rfl, lw_mem (tb2 (List.mem_of_getElem? (i := 72) rfl)) rfl, lw_mem (tb2 (List.mem_of_getElem? (i := 73) rfl)) rfl⟩
theorem bmX9_readFilters (own : String) : pmB own mX9_readFilters 0 := ⟨lw_mem (tb1 (List.mem_of_getElem? (i := 9) rfl)) rfl, hX9_readFilters, by decide +kernel, by decide +kernel, by decide +kernel⟩
theorem lX9_75 : pmV RX9 75 mX9_readFilters 0 := ⟨bmX9_readFilters _, lw_mem (tb3 (List.mem_of_getElem? (i := 224) rfl)) rfl, lw_mem (tb3 (List.mem_of_getElem? (i := 226) rfl)) rfl, lw_mem (List.mem_append_left _ (List.mem_of_getElem? (i := 21) rfl)) rfl⟩
theorem lX9_78 : pmV RX9 78 mX5_next 0 := ⟨bmX5_next _, lw_mem (tb3 (List.mem_of_getElem? (i := 228) rfl)) rfl, lw_mem (tb3 (List.mem_of_getElem? (i := 229) rfl)) rfl, lw_mem (tb3 (List.mem_of_getElem? (i := 230) rfl)) rfl⟩
theorem lX9_81 : pmV RX9 81 mX5_blame 1 := ⟨bmX5_blame _, lw_mem (tb3 (List.mem_of_getElem? (i := 239) rfl)) rfl, lw_mem (tb4 (List.mem_of_getElem? (i := 0) rfl)) rfl, lw_mem (tb4 (List.mem_of_getElem? (i := 1) rfl)) rfl⟩
theorem bmX2_isKind (own : String) : pmB own mX2_isKind 1 := ⟨lw_mem (tb1 (List.mem_of_getElem? (i := 4) rfl)) rfl, hX2_isKind, by decide +kernel, by decide +kernel, by decide +kernel⟩
theorem lX9_84 : pmS RX9 84 mX2_isKind 1 := ⟨bmX2_isKind _, lw_mem (tb4 (List.mem_of_getElem? (i := 3) rfl)) rfl, lw_mem (tb4 (List.mem_of_getElem? (i := 4) rfl)) rfl⟩
theorem lX9_88 : pmS RX9 88 mX2_takes 2 := ⟨bmX2_takes _, lw_mem (tb4 (List.mem_of_getElem? (i := 6) rfl)) rfl, lw_mem (tb2 (List.mem_of_getElem? (i := 119) rfl)) rfl⟩
theorem lX9_92 : pmV RX9 92 mX5_isFine 0 := ⟨bmX5_isFine _, lw_mem (tb4 (List.mem_of_getElem? (i := 11) rfl)) rfl, lw_mem (tb4 (List.mem_of_getElem? (i := 12) rfl)) rfl, lw_mem (tb4 (List.mem_of_getElem? (i := 13) rfl)) rfl⟩
theorem bmX9_readItems (own : String) : pmB own mX9_readItems 0 := ⟨lw_mem (tb1 (List.mem_of_getElem? (i := 9) rfl)) rfl, hX9_readItems, by decide +kernel, by decide +kernel, by decide +kernel⟩
theorem lX9_96 : pmV RX9 96 mX9_readItems 0 := ⟨bmX9_readItems _, lw_mem (tb4 (List.mem_of_getElem? (i := 15) rfl)) rfl, lw_mem (tb4 (List.mem_of_getElem? (i := 17) rfl)) rfl, lw_mem (List.mem_append_left _ (List.mem_of_getElem? (i := 23) rfl)) rfl⟩
theorem bmX9_readBits (own : String) : pmB own mX9_readBits 0 := ⟨lw_mem (tb1 (List.mem_of_getElem? (i := 9) rfl)) rfl, hX9_readBits, by decide +kernel, by decide +kernel, by decide +kernel⟩
theorem lX9_99 : pmV RX9 99 mX9_readBits 0 := ⟨bmX9_readBits _, lw_mem (tb4 (List.mem_of_getElem? (i := 34) rfl)) rfl, lw_mem (tb4 (List.mem_of_getElem? (i := 36) rfl)) rfl, lw_mem (List.mem_append_left _ (List.mem_of_getElem? (i := 27) rfl)) rfl⟩
theorem bmX9_readPrefix (own : String) : pmB own mX9_readPrefix 0 := ⟨lw_mem (tb1 (List.mem_of_getElem? (i := 9) rfl)) rfl, hX9_readPrefix, by decide +kernel, by decide +kernel, by decide +kernel⟩
theorem lX9_102 : pmV RX9 102 mX9_readPrefix 0 := ⟨bmX9_readPrefix _, lw_mem (tb4 (List.mem_of_getElem? (i := 53) rfl)) rfl, lw_mem (tb4 (List.mem_of_getElem? (i := 55) rfl)) rfl, lw_mem (List.mem_append_left _ (List.mem_of_getElem? (i := 29) rfl)) rfl⟩
theorem bmX9_copy (own : String) : pmB own mX9_copy 1 := ⟨lw_mem (tb1 (List.mem_of_getElem? (i := 9) rfl)) rfl, hX9_copy, by decide +kernel, by decide +kernel, by decide +kernel⟩
theorem lX9_105 : pmV RX9 105 mX9_copy 1 := ⟨bmX9_copy _, lw_mem (tb4 (List.mem_of_getElem? (i := 20) rfl)) rfl, lw_mem (tb4 (List.mem_of_getElem? (i := 22) rfl)) rfl, lw_mem (List.mem_append_left _ (List.mem_of_getElem? (i := 24) rfl)) rfl⟩
theorem bmX5_endBytes (own : String) : pmB own mX5_endBytes 0 := ⟨lw_mem (tb1 (List.mem_of_getElem? (i := 10) rfl)) rfl, hX5_endBytes, by decide +kernel, by decide +kernel, by decide +kernel⟩
theorem lX9_108 : pmV RX9 108 mX5_endBytes 0 := ⟨bmX5_endBytes _, lw_mem (tb4 (List.mem_of_getElem? (i := 80) rfl)) rfl, lw_mem (tb4 (List.mem_of_getElem? (i := 81) rfl)) rfl, lw_mem (tb4 (List.mem_of_getElem? (i := 82) rfl)) rfl⟩
theorem bmX9_undoFilters (own : String) : pmB own mX9_undoFilters 0 := ⟨lw_mem (tb1 (List.mem_of_getElem? (i := 9) rfl)) rfl, hX9_undoFilters, by decide +kernel, by decide +kernel, by decide +kernel⟩
theorem lX9_111 : pmV RX9 111 mX9_undoFilters 0 := ⟨bmX9_undoFilters _, lw_mem (tb4 (List.mem_of_getElem? (i := 84) rfl)) rfl, lw_mem (tb4 (List.mem_of_getElem? (i := 86) rfl)) rfl, lw_mem (List.mem_append_left _ (List.mem_of_getElem? (i := 31) rfl)) rfl⟩
theorem lX9_114 : pmV RX9 114 mX6_become 1 := ⟨bmX6_become _, lw_mem (tb4 (List.mem_of_getElem? (i := 101) rfl)) rfl, lw_mem (tb2 (List.mem_of_getElem? (i := 238) rfl)) rfl, lw_mem (tb2 (List.mem_of_getElem? (i := 239) rfl)) rfl⟩
theorem bmX5_fault (own : String) : pmB own mX5_fault 0 := ⟨lw_mem (tb1 (List.mem_of_getElem? (i := 10) rfl)) rfl, hX5_fault, by decide +kernel, by decide +kernel, by decide +kernel⟩
theorem lX9_117 : pmV RX9 117 mX5_fault 0 := ⟨bmX5_fault _, lw_mem (tb4 (List.mem_of_getElem? (i := 102) rfl)) rfl, lw_mem (tb4 (List.mem_of_getElem? (i := 103) rfl)) rfl, lw_mem (tb4 (List.mem_of_getElem? (i := 104) rfl)) rfl⟩
theorem lX9_120 : pmV RX9 120 mX6_push 1 := ⟨bmX6_push _, lw_mem (tb4 (List.mem_of_getElem? (i := 24) rfl)) rfl, lw_mem (tb2 (List.mem_of_getElem? (i := 83) rfl)) rfl, lw_mem (tb2 (List.mem_of_getElem? (i := 84) rfl)) rfl⟩
theorem lX9_123 : pmV RX9 123 mX6_count 0 := ⟨bmX6_count _, lw_mem (tb4 (List.mem_of_getElem? (i := 19) rfl)) rfl, lw_mem (tb2 (List.mem_of_getElem? (i := 68) rfl)) rfl, lw_mem (tb2 (List.mem_of_getElem? (i := 69) rfl)) rfl⟩
theorem bmX9_repeat (own : String) : pmB own mX9_repeat 1 := ⟨lw_mem (tb1 (List.mem_of_getElem? (i := 9) rfl)) rfl, hX9_repeat, by decide +kernel, by decide +kernel, by decide +kernel⟩
theorem lX9_125 : pmV RX9 125 mX9_repeat 1 := ⟨bmX9_repeat _, lw_mem (tb4 (List.mem_of_getElem? (i := 25) rfl)) rfl, lw_mem (tb4 (List.mem_of_getElem? (i := 27) rfl)) rfl, lw_mem (List.mem_append_left _ (List.mem_of_getElem? (i := 25) rfl)) rfl⟩
theorem bmX9_copyBack (own : String) : pmB own mX9_copyBack 1 := ⟨lw_mem (tb1 (List.mem_of_getElem? (i := 9) rfl)) rfl, hX9_copyBack, by decide +kernel, by decide +kernel, by decide +kernel⟩
theorem lX9_128 : pmV RX9 128 mX9_copyBack 1 := ⟨bmX9_copyBack _, lw_mem (tb4 (List.mem_of_getElem? (i := 29) rfl)) rfl, lw_mem (tb4 (List.mem_of_getElem? (i := 31) rfl)) rfl, lw_mem (List.mem_append_left _ (List.mem_of_getElem? (i := 26) rfl)) rfl⟩
theorem lX9_131 : pmV RX9 131 mX6_get 1 := ⟨bmX6_get _, lw_mem (tb4 (List.mem_of_getElem? (i := 33) rfl)) rfl, lw_mem (tb2 (List.mem_of_getElem? (i := 111) rfl)) rfl, lw_mem (tb2 (List.mem_of_getElem? (i := 112) rfl)) rfl⟩
theorem bmX9_readRising (own : String) : pmB own mX9_readRising 1 := ⟨lw_mem (tb1 (List.mem_of_getElem? (i := 9) rfl)) rfl, hX9_readRising, by decide +kernel, by decide +kernel, by decide +kernel⟩
theorem lX9_135 : pmV RX9 135 mX9_readRising 1 := ⟨bmX9_readRising _, lw_mem (tb4 (List.mem_of_getElem? (i := 38) rfl)) rfl, lw_mem (tb4 (List.mem_of_getElem? (i := 40) rfl)) rfl, lw_mem (List.mem_append_left _ (List.mem_of_getElem? (i := 28) rfl)) rfl⟩
theorem lX9_138 : pmS RX9 138 mX3_widthOf 1 := ⟨bmX3_widthOf _, lw_mem (tb4 (List.mem_of_getElem? (i := 42) rfl)) rfl, lw_mem (tb3 (List.mem_of_getElem? (i := 58) rfl)) rfl⟩
theorem lX9_143 : pmV RX9 143 mX5_bit 0 := ⟨bmX5_bit _, lw_mem (tb4 (List.mem_of_getElem? (i := 43) rfl)) rfl, lw_mem (tb4 (List.mem_of_getElem? (i := 44) rfl)) rfl, lw_mem (tb4 (List.mem_of_getElem? (i := 45) rfl)) rfl⟩
theorem bmX5_endBits (own : String) : pmB own mX5_endBits 0 := ⟨lw_mem (tb1 (List.mem_of_getElem? (i := 10) rfl)) rfl, hX5_endBits, by decide +kernel, by decide +kernel, by decide +kernel⟩
theorem lX9_146 : pmV RX9 146 mX5_endBits 0 := ⟨bmX5_endBits _, lw_mem (tb4 (List.mem_of_getElem? (i := 48) rfl)) rfl, lw_mem (tb4 (List.mem_of_getElem? (i := 49) rfl)) rfl, lw_mem (tb4 (List.mem_of_getElem? (i := 50) rfl)) rfl⟩
theorem bmX9_readLengths (own : String) : pmB own mX9_readLengths 0 := ⟨lw_mem (tb1 (List.mem_of_getElem? (i := 9) rfl)) rfl, hX9_readLengths, by decide +kernel, by decide +kernel, by decide +kernel⟩
theorem lX9_149 : pmV RX9 149 mX9_readLengths 0 := ⟨bmX9_readLengths _, lw_mem (tb4 (List.mem_of_getElem? (i := 57) rfl)) rfl, lw_mem (tb4 (List.mem_of_getElem? (i := 59) rfl)) rfl, lw_mem (List.mem_append_left _ (List.mem_of_getElem? (i := 30) rfl)) rfl⟩
theorem bmX4_readFrom (own : String) : pmB own mX4_readFrom 1 := ⟨lw_mem (tb1 (List.mem_of_getElem? (i := 8) rfl)) rfl, hX4_readFrom, by decide +kernel, by decide +kernel, by decide +kernel⟩
theorem lX9_152 : pmV RX9 152 mX4_readFrom 1 := ⟨bmX4_readFrom _, lw_mem (tb4 (List.mem_of_getElem? (i := 69) rfl)) rfl, lw_mem (tb4 (List.mem_of_getElem? (i := 70) rfl)) rfl, lw_mem (tb4 (List.mem_of_getElem? (i := 71) rfl)) rfl⟩
theorem lX9_156 : pmV RX9 156 mX4_begin 0 := ⟨bmX4_begin _, lw_mem (tb4 (List.mem_of_getElem? (i := 61) rfl)) rfl, lw_mem (tb3 (List.mem_of_getElem? (i := 78) rfl)) rfl, lw_mem (tb3 (List.mem_of_getElem? (i := 79) rfl)) rfl⟩
theorem lX9_158 : pmV RX9 158 mX4_give 2 := ⟨bmX4_give _, lw_mem (tb4 (List.mem_of_getElem? (i := 62) rfl)) rfl, lw_mem (tb3 (List.mem_of_getElem? (i := 87) rfl)) rfl, lw_mem (tb3 (List.mem_of_getElem? (i := 88) rfl)) rfl⟩
theorem bmX4_isWhole (own : String) : pmB own mX4_isWhole 0 := ⟨lw_mem (tb1 (List.mem_of_getElem? (i := 8) rfl)) rfl, hX4_isWhole, by decide +kernel, by decide +kernel, by decide +kernel⟩
theorem lX9_162 : pmV RX9 162 mX4_isWhole 0 := ⟨bmX4_isWhole _, lw_mem (tb4 (List.mem_of_getElem? (i := 63) rfl)) rfl, lw_mem (tb4 (List.mem_of_getElem? (i := 64) rfl)) rfl, lw_mem (tb4 (List.mem_of_getElem? (i := 65) rfl)) rfl⟩
theorem lX9_165 : pmV RX9 165 mX4_assign 0 := ⟨bmX4_assign _, lw_mem (tb4 (List.mem_of_getElem? (i := 68) rfl)) rfl, lw_mem (tb3 (List.mem_of_getElem? (i := 105) rfl)) rfl, lw_mem (tb3 (List.mem_of_getElem? (i := 106) rfl)) rfl⟩
theorem lX9_168 : pmS RX9 168 mJ9_min_7cf53 2 := ⟨bmJ9_min_7cf53 _, lw_mem (tb4 (List.mem_of_getElem? (i := 88) rfl)) rfl, lw_mem (tb3 (List.mem_of_getElem? (i := 2) rfl)) rfl⟩
theorem bmX2_undo (own : String) : pmB own mX2_undo 4 := ⟨lw_mem (tb1 (List.mem_of_getElem? (i := 4) rfl)) rfl, hX2_undo, by decide +kernel, by decide +kernel, by decide +kernel⟩
theorem lX9_174 : pmV RX9 174 mX2_undo 4 := ⟨bmX2_undo _, lw_mem (tb4 (List.mem_of_getElem? (i := 89) rfl)) rfl, lw_mem (tb4 (List.mem_of_getElem? (i := 90) rfl)) rfl, lw_mem (tb4 (List.mem_of_getElem? (i := 91) rfl)) rfl⟩
theorem bmX10_share (own : String) : pmB own mX10_share 2 := ⟨lw_mem (tb1 (List.mem_of_getElem? (i := 1) rfl)) rfl, hX10_share, by decide +kernel, by decide +kernel, by decide +kernel⟩
theorem lL_7 : pmV RL 7 mX10_share 2 := ⟨bmX10_share _, lw_mem (tb4 (List.mem_of_getElem? (i := 122) rfl)) rfl, lw_mem (tb4 (List.mem_of_getElem? (i := 123) rfl)) rfl, lw_mem (tb4 (List.mem_of_getElem? (i := 124) rfl)) rfl⟩
theorem bmX10_init (own : String) : pmB own mX10_init 0 := ⟨lw_mem (tb1 (List.mem_of_getElem? (i := 1) rfl)) rfl, hX10_init, by decide +kernel, by decide +kernel, by decide +kernel⟩
theorem lL_15 : pmI RL 15 mX10_init 0 := ⟨bmX10_init _, lw_mem (tb1 (List.mem_of_getElem? (i := 22) rfl)) rfl, lw_mem (tb1 (List.mem_of_getElem? (i := 23) rfl)) rfl, rfl, rfl⟩
theorem bmX11_init (own : String) : pmB own mX11_init 0 := ⟨lw_mem (tb1 (List.mem_of_getElem? (i := 13) rfl)) rfl, hX11_init, by decide +kernel, by decide +kernel, by decide +kernel⟩
theorem lL_18 : pmI RL 18 mX11_init 0 := ⟨bmX11_init _, lw_mem (tb4 (List.mem_of_getElem? (i := 195) rfl)) rfl, lw_mem (tb4 (List.mem_of_getElem? (i := 196) rfl)) rfl, rfl, rfl⟩
theorem bmX10_clear (own : String) : pmB own mX10_clear 0 := ⟨lw_mem (tb1 (List.mem_of_getElem? (i := 1) rfl)) rfl, hX10_clear, by decide +kernel, by decide +kernel, by decide +kernel⟩
theorem lL_19 : pmV RL 19 mX10_clear 0 := ⟨bmX10_clear _, lw_mem (tb2 (List.mem_of_getElem? (i := 63) rfl)) rfl, lw_mem (tb2 (List.mem_of_getElem? (i := 64) rfl)) rfl, lw_mem (tb2 (List.mem_of_getElem? (i := 65) rfl)) rfl⟩
theorem bmX11_clear (own : String) : pmB own mX11_clear 0 := ⟨lw_mem (tb1 (List.mem_of_getElem? (i := 13) rfl)) rfl, hX11_clear, by decide +kernel, by decide +kernel, by decide +kernel⟩
theorem lL_23 : pmV RL 23 mX11_clear 0 := ⟨bmX11_clear _, lw_mem (tb5 (List.mem_of_getElem? (i := 73) rfl)) rfl, lw_mem (tb5 (List.mem_of_getElem? (i := 74) rfl)) rfl, lw_mem (tb5 (List.mem_of_getElem? (i := 75) rfl)) rfl⟩
theorem bmX10_add (own : String) : pmB own mX10_add 1 := ⟨lw_mem (tb1 (List.mem_of_getElem? (i := 1) rfl)) rfl, hX10_add, by decide +kernel, by decide +kernel, by decide +kernel⟩
theorem lL_24 : pmV RL 24 mX10_add 1 := ⟨bmX10_add _, lw_mem (tb2 (List.mem_of_getElem? (i := 75) rfl)) rfl, lw_mem (tb2 (List.mem_of_getElem? (i := 76) rfl)) rfl, lw_mem (tb2 (List.mem_of_getElem? (i := 77) rfl)) rfl⟩
theorem bmX11_add (own : String) : pmB own mX11_add 1 := ⟨lw_mem (tb1 (List.mem_of_getElem? (i := 13) rfl)) rfl, hX11_add, by decide +kernel, by decide +kernel, by decide +kernel⟩
theorem lL_28 : pmV RL 28 mX11_add 1 := ⟨bmX11_add _, lw_mem (tb5 (List.mem_of_getElem? (i := 77) rfl)) rfl, lw_mem (tb5 (List.mem_of_getElem? (i := 78) rfl)) rfl, lw_mem (tb5 (List.mem_of_getElem? (i := 79) rfl)) rfl⟩
theorem bmX10_fill (own : String) : pmB own mX10_fill 3 := ⟨lw_mem (tb1 (List.mem_of_getElem? (i := 1) rfl)) rfl, hX10_fill, by decide +kernel, by decide +kernel, by decide +kernel⟩
theorem lL_29 : pmV RL 29 mX10_fill 3 := ⟨bmX10_fill _, lw_mem (tb2 (List.mem_of_getElem? (i := 86) rfl)) rfl, lw_mem (tb2 (List.mem_of_getElem? (i := 87) rfl)) rfl, lw_mem (tb2 (List.mem_of_getElem? (i := 88) rfl)) rfl⟩
theorem bmX11_fill (own : String) : pmB own mX11_fill 3 := ⟨lw_mem (tb1 (List.mem_of_getElem? (i := 13) rfl)) rfl, hX11_fill, by decide +kernel, by decide +kernel, by decide +kernel⟩
theorem lL_33 : pmV RL 33 mX11_fill 3 := ⟨bmX11_fill _, lw_mem (tb5 (List.mem_of_getElem? (i := 84) rfl)) rfl, lw_mem (tb5 (List.mem_of_getElem? (i := 85) rfl)) rfl, lw_mem (tb5 (List.mem_of_getElem? (i := 86) rfl)) rfl⟩
theorem bmX10_size (own : String) : pmB own mX10_size 1 := ⟨lw_mem (tb1 (List.mem_of_getElem? (i := 1) rfl)) rfl, hX10_size, by decide +kernel, by decide +kernel, by decide +kernel⟩
theorem lL_34 : pmV RL 34 mX10_size 1 := ⟨bmX10_size _, lw_mem (tb2 (List.mem_of_getElem? (i := 94) rfl)) rfl, lw_mem (tb2 (List.mem_of_getElem? (i := 95) rfl)) rfl, lw_mem (tb2 (List.mem_of_getElem? (i := 96) rfl)) rfl⟩
theorem bmX11_size (own : String) : pmB own mX11_size 1 := ⟨lw_mem (tb1 (List.mem_of_getElem? (i := 13) rfl)) rfl, hX11_size, by decide +kernel, by decide +kernel, by decide +kernel⟩
theorem lL_37 : pmV RL 37 mX11_size 1 := ⟨bmX11_size _, lw_mem (tb5 (List.mem_of_getElem? (i := 89) rfl)) rfl, lw_mem (tb5 (List.mem_of_getElem? (i := 90) rfl)) rfl, lw_mem (tb5 (List.mem_of_getElem? (i := 91) rfl)) rfl⟩
theorem bmX10_octet (own : String) : pmB own mX10_octet 2 := ⟨lw_mem (tb1 (List.mem_of_getElem? (i := 1) rfl)) rfl, hX10_octet, by decide +kernel, by decide +kernel, by decide +kernel⟩
theorem lL_38 : pmV RL 38 mX10_octet 2 := ⟨bmX10_octet _, lw_mem (tb2 (List.mem_of_getElem? (i := 102) rfl)) rfl, lw_mem (tb2 (List.mem_of_getElem? (i := 103) rfl)) rfl, lw_mem (tb2 (List.mem_of_getElem? (i := 104) rfl)) rfl⟩
theorem bmX11_octet (own : String) : pmB own mX11_octet 2 := ⟨lw_mem (tb1 (List.mem_of_getElem? (i := 13) rfl)) rfl, hX11_octet, by decide +kernel, by decide +kernel, by decide +kernel⟩
theorem lL_42 : pmV RL 42 mX11_octet 2 := ⟨bmX11_octet _, lw_mem (tb5 (List.mem_of_getElem? (i := 93) rfl)) rfl, lw_mem (tb5 (List.mem_of_getElem? (i := 94) rfl)) rfl, lw_mem (tb5 (List.mem_of_getElem? (i := 95) rfl)) rfl⟩
theorem bmX10_filter (own : String) : pmB own mX10_filter 2 := ⟨lw_mem (tb1 (List.mem_of_getElem? (i := 1) rfl)) rfl, hX10_filter, by decide +kernel, by decide +kernel, by decide +kernel⟩
theorem lL_43 : pmV RL 43 mX10_filter 2 := ⟨bmX10_filter _, lw_mem (tb2 (List.mem_of_getElem? (i := 114) rfl)) rfl, lw_mem (tb2 (List.mem_of_getElem? (i := 115) rfl)) rfl, lw_mem (tb2 (List.mem_of_getElem? (i := 116) rfl)) rfl⟩
theorem bmX11_filter (own : String) : pmB own mX11_filter 2 := ⟨lw_mem (tb1 (List.mem_of_getElem? (i := 13) rfl)) rfl, hX11_filter, by decide +kernel, by decide +kernel, by decide +kernel⟩
theorem lL_46 : pmV RL 46 mX11_filter 2 := ⟨bmX11_filter _, lw_mem (tb5 (List.mem_of_getElem? (i := 97) rfl)) rfl, lw_mem (tb5 (List.mem_of_getElem? (i := 98) rfl)) rfl, lw_mem (tb5 (List.mem_of_getElem? (i := 99) rfl)) rfl⟩
theorem bmX10_packer (own : String) : pmB own mX10_packer 1 := ⟨lw_mem (tb1 (List.mem_of_getElem? (i := 1) rfl)) rfl, hX10_packer, by decide +kernel, by decide +kernel, by decide +kernel⟩
theorem lL_47 : pmV RL 47 mX10_packer 1 := ⟨bmX10_packer _, lw_mem (tb2 (List.mem_of_getElem? (i := 133) rfl)) rfl, lw_mem (tb2 (List.mem_of_getElem? (i := 134) rfl)) rfl, lw_mem (tb2 (List.mem_of_getElem? (i := 135) rfl)) rfl⟩
theorem bmX11_packer (own : String) : pmB own mX11_packer 1 := ⟨lw_mem (tb1 (List.mem_of_getElem? (i := 13) rfl)) rfl, hX11_packer, by decide +kernel, by decide +kernel, by decide +kernel⟩
theorem lL_50 : pmV RL 50 mX11_packer 1 := ⟨bmX11_packer _, lw_mem (tb5 (List.mem_of_getElem? (i := 104) rfl)) rfl, lw_mem (tb5 (List.mem_of_getElem? (i := 105) rfl)) rfl, lw_mem (tb5 (List.mem_of_getElem? (i := 106) rfl)) rfl⟩
theorem bmX10_forget (own : String) : pmB own mX10_forget 0 := ⟨lw_mem (tb1 (List.mem_of_getElem? (i := 1) rfl)) rfl, hX10_forget, by decide +kernel, by decide +kernel, by decide +kernel⟩
theorem lL_51 : pmV RL 51 mX10_forget 0 := ⟨bmX10_forget _, lw_mem (tb2 (List.mem_of_getElem? (i := 149) rfl)) rfl, lw_mem (tb2 (List.mem_of_getElem? (i := 150) rfl)) rfl, lw_mem (tb2 (List.mem_of_getElem? (i := 151) rfl)) rfl⟩
theorem bmX11_forget (own : String) : pmB own mX11_forget 0 := ⟨lw_mem (tb1 (List.mem_of_getElem? (i := 13) rfl)) rfl, hX11_forget, by decide +kernel, by decide +kernel, by decide +kernel⟩
theorem lL_54 : pmV RL 54 mX11_forget 0 := ⟨bmX11_forget _, lw_mem (tb5 (List.mem_of_getElem? (i := 112) rfl)) rfl, lw_mem (tb5 (List.mem_of_getElem? (i := 113) rfl)) rfl, lw_mem (tb5 (List.mem_of_getElem? (i := 114) rfl)) rfl⟩
theorem bmX10_chains (own : String) : pmB own mX10_chains 0 := ⟨lw_mem (tb1 (List.mem_of_getElem? (i := 1) rfl)) rfl, hX10_chains, by decide +kernel, by decide +kernel, by decide +kernel⟩
theorem lL_55 : pmV RL 55 mX10_chains 0 := ⟨bmX10_chains _, lw_mem (tb2 (List.mem_of_getElem? (i := 161) rfl)) rfl, lw_mem (tb2 (List.mem_of_getElem? (i := 162) rfl)) rfl, lw_mem (tb2 (List.mem_of_getElem? (i := 163) rfl)) rfl⟩
theorem bmX11_chains (own : String) : pmB own mX11_chains 0 := ⟨lw_mem (tb1 (List.mem_of_getElem? (i := 13) rfl)) rfl, hX11_chains, by decide +kernel, by decide +kernel, by decide +kernel⟩
theorem lL_58 : pmV RL 58 mX11_chains 0 := ⟨bmX11_chains _, lw_mem (tb5 (List.mem_of_getElem? (i := 108) rfl)) rfl, lw_mem (tb5 (List.mem_of_getElem? (i := 109) rfl)) rfl, lw_mem (tb5 (List.mem_of_getElem? (i := 110) rfl)) rfl⟩
theorem bmX10_chain (own : String) : pmB own mX10_chain 2 := ⟨lw_mem (tb1 (List.mem_of_getElem? (i := 1) rfl)) rfl, hX10_chain, by decide +kernel, by decide +kernel, by decide +kernel⟩
theorem lL_59 : pmV RL 59 mX10_chain 2 := ⟨bmX10_chain _, lw_mem (tb2 (List.mem_of_getElem? (i := 165) rfl)) rfl, lw_mem (tb2 (List.mem_of_getElem? (i := 166) rfl)) rfl, lw_mem (tb2 (List.mem_of_getElem? (i := 167) rfl)) rfl⟩
theorem bmX11_chain (own : String) : pmB own mX11_chain 2 := ⟨lw_mem (tb1 (List.mem_of_getElem? (i := 13) rfl)) rfl, hX11_chain, by decide +kernel, by decide +kernel, by decide +kernel⟩
theorem lL_62 : pmV RL 62 mX11_chain 2 := ⟨bmX11_chain _, lw_mem (tb5 (List.mem_of_getElem? (i := 117) rfl)) rfl, lw_mem (tb5 (List.mem_of_getElem? (i := 118) rfl)) rfl, lw_mem (tb5 (List.mem_of_getElem? (i := 119) rfl)) rfl⟩
theorem bmX10_choose (own : String) : pmB own mX10_choose 2 := ⟨lw_mem (tb1 (List.mem_of_getElem? (i := 1) rfl)) rfl, hX10_choose, by decide +kernel, by decide +kernel, by decide +kernel⟩
theorem lL_63 : pmV RL 63 mX10_choose 2 := ⟨bmX10_choose _, lw_mem (tb3 (List.mem_of_getElem? (i := 143) rfl)) rfl, lw_mem (tb3 (List.mem_of_getElem? (i := 144) rfl)) rfl, lw_mem (tb3 (List.mem_of_getElem? (i := 145) rfl)) rfl⟩
theorem bmX11_choose (own : String) : pmB own mX11_choose 2 := ⟨lw_mem (tb1 (List.mem_of_getElem? (i := 13) rfl)) rfl, hX11_choose, by decide +kernel, by decide +kernel, by decide +kernel⟩
theorem lL_66 : pmV RL 66 mX11_choose 2 := ⟨bmX11_choose _, lw_mem (tb5 (List.mem_of_getElem? (i := 212) rfl)) rfl, lw_mem (tb5 (List.mem_of_getElem? (i := 213) rfl)) rfl, lw_mem (tb5 (List.mem_of_getElem? (i := 214) rfl)) rfl⟩
theorem bmX10_told (own : String) : pmB own mX10_told 1 := ⟨lw_mem (tb1 (List.mem_of_getElem? (i := 1) rfl)) rfl, hX10_told, by decide +kernel, by decide +kernel, by decide +kernel⟩
theorem lL_67 : pmV RL 67 mX10_told 1 := ⟨bmX10_told _, lw_mem (tb3 (List.mem_of_getElem? (i := 162) rfl)) rfl, lw_mem (tb3 (List.mem_of_getElem? (i := 163) rfl)) rfl, lw_mem (tb3 (List.mem_of_getElem? (i := 164) rfl)) rfl⟩
theorem bmX11_told (own : String) : pmB own mX11_told 1 := ⟨lw_mem (tb1 (List.mem_of_getElem? (i := 13) rfl)) rfl, hX11_told, by decide +kernel, by decide +kernel, by decide +kernel⟩
theorem lL_70 : pmV RL 70 mX11_told 1 := ⟨bmX11_told _, lw_mem (tb5 (List.mem_of_getElem? (i := 220) rfl)) rfl, lw_mem (tb5 (List.mem_of_getElem? (i := 221) rfl)) rfl, lw_mem (tb5 (List.mem_of_getElem? (i := 222) rfl)) rfl⟩
theorem bmX10_learn (own : String) : pmB own mX10_learn 0 := ⟨lw_mem (tb1 (List.mem_of_getElem? (i := 1) rfl)) rfl, hX10_learn, by decide +kernel, by decide +kernel, by decide +kernel⟩
theorem lL_71 : pmV RL 71 mX10_learn 0 := ⟨bmX10_learn _, lw_mem (tb3 (List.mem_of_getElem? (i := 166) rfl)) rfl, lw_mem (tb3 (List.mem_of_getElem? (i := 167) rfl)) rfl, lw_mem (tb3 (List.mem_of_getElem? (i := 168) rfl)) rfl⟩
theorem bmX11_learn (own : String) : pmB own mX11_learn 0 := ⟨lw_mem (tb1 (List.mem_of_getElem? (i := 13) rfl)) rfl, hX11_learn, by decide +kernel, by decide +kernel, by decide +kernel⟩
theorem lL_74 : pmV RL 74 mX11_learn 0 := ⟨bmX11_learn _, lw_mem (tb5 (List.mem_of_getElem? (i := 228) rfl)) rfl, lw_mem (tb5 (List.mem_of_getElem? (i := 229) rfl)) rfl, lw_mem (tb5 (List.mem_of_getElem? (i := 230) rfl)) rfl⟩
theorem bmX10_feature (own : String) : pmB own mX10_feature 0 := ⟨lw_mem (tb1 (List.mem_of_getElem? (i := 1) rfl)) rfl, hX10_feature, by decide +kernel, by decide +kernel, by decide +kernel⟩
theorem lL_75 : pmV RL 75 mX10_feature 0 := ⟨bmX10_feature _, lw_mem (tb3 (List.mem_of_getElem? (i := 186) rfl)) rfl, lw_mem (tb3 (List.mem_of_getElem? (i := 187) rfl)) rfl, lw_mem (tb3 (List.mem_of_getElem? (i := 188) rfl)) rfl⟩
theorem bmX11_feature (own : String) : pmB own mX11_feature 0 := ⟨lw_mem (tb1 (List.mem_of_getElem? (i := 13) rfl)) rfl, hX11_feature, by decide +kernel, by decide +kernel, by decide +kernel⟩
theorem lL_78 : pmV RL 78 mX11_feature 0 := ⟨bmX11_feature _, lw_mem (tb5 (List.mem_of_getElem? (i := 224) rfl)) rfl, lw_mem (tb5 (List.mem_of_getElem? (i := 225) rfl)) rfl, lw_mem (tb5 (List.mem_of_getElem? (i := 226) rfl)) rfl⟩
theorem bmX10_learned (own : String) : pmB own mX10_learned 1 := ⟨lw_mem (tb1 (List.mem_of_getElem? (i := 1) rfl)) rfl, hX10_learned, by decide +kernel, by decide +kernel, by decide +kernel⟩
theorem lL_79 : pmV RL 79 mX10_learned 1 := ⟨bmX10_learned _, lw_mem (tb3 (List.mem_of_getElem? (i := 190) rfl)) rfl, lw_mem (tb3 (List.mem_of_getElem? (i := 191) rfl)) rfl, lw_mem (tb3 (List.mem_of_getElem? (i := 192) rfl)) rfl⟩
theorem bmX11_learned (own : String) : pmB own mX11_learned 1 := ⟨lw_mem (tb1 (List.mem_of_getElem? (i := 13) rfl)) rfl, hX11_learned, by decide +kernel, by decide +kernel, by decide +kernel⟩
theorem lL_82 : pmV RL 82 mX11_learned 1 := ⟨bmX11_learned _, lw_mem (tb5 (List.mem_of_getElem? (i := 233) rfl)) rfl, lw_mem (tb5 (List.mem_of_getElem? (i := 234) rfl)) rfl, lw_mem (tb5 (List.mem_of_getElem? (i := 235) rfl)) rfl⟩
theorem bmX11_share (own : String) : pmB own mX11_share 2 := ⟨lw_mem (tb1 (List.mem_of_getElem? (i := 13) rfl)) rfl, hX11_share, by decide +kernel, by decide +kernel, by decide +kernel⟩
theorem lL_88 : pmV RL 88 mX11_share 2 := ⟨bmX11_share _, lw_mem (tb5 (List.mem_of_getElem? (i := 237) rfl)) rfl, lw_mem (tb5 (List.mem_of_getElem? (i := 238) rfl)) rfl, lw_mem (tb5 (List.mem_of_getElem? (i := 239) rfl)) rfl⟩
theorem bmX11_thrown (own : String) : pmB own mX11_thrown 0 := ⟨lw_mem (tb1 (List.mem_of_getElem? (i := 13) rfl)) rfl, hX11_thrown, by decide +kernel, by decide +kernel, by decide +kernel⟩
theorem lL_89 : pmV RL 89 mX11_thrown 0 := ⟨bmX11_thrown _, lw_mem (tb5 (List.mem_of_getElem? (i := 69) rfl)) rfl, lw_mem (tb5 (List.mem_of_getElem? (i := 70) rfl)) rfl, lw_mem (tb5 (List.mem_of_getElem? (i := 71) rfl)) rfl⟩
theorem bmX10_pack (own : String) : pmB own mX10_pack 1 := ⟨lw_mem (tb1 (List.mem_of_getElem? (i := 1) rfl)) rfl, hX10_pack, by decide +kernel, by decide +kernel, by decide +kernel⟩
theorem lL_92 : pmV RL 92 mX10_pack 1 := ⟨bmX10_pack _, lw_mem (tb3 (List.mem_of_getElem? (i := 194) rfl)) rfl, lw_mem (tb3 (List.mem_of_getElem? (i := 195) rfl)) rfl, lw_mem (tb3 (List.mem_of_getElem? (i := 196) rfl)) rfl⟩
theorem bmX11_pack (own : String) : pmB own mX11_pack 1 := ⟨lw_mem (tb1 (List.mem_of_getElem? (i := 13) rfl)) rfl, hX11_pack, by decide +kernel, by decide +kernel, by decide +kernel⟩
theorem lL_95 : pmV RL 95 mX11_pack 1 := ⟨bmX11_pack _, lw_mem (tb6 (List.mem_of_getElem? (i := 2) rfl)) rfl, lw_mem (tb6 (List.mem_of_getElem? (i := 3) rfl)) rfl, lw_mem (tb6 (List.mem_of_getElem? (i := 4) rfl)) rfl⟩
theorem bmX10_alter (own : String) : pmB own mX10_alter 2 := ⟨lw_mem (tb1 (List.mem_of_getElem? (i := 1) rfl)) rfl, hX10_alter, by decide +kernel, by decide +kernel, by decide +kernel⟩
theorem lL_96 : pmV RL 96 mX10_alter 2 := ⟨bmX10_alter _, lw_mem (tb3 (List.mem_of_getElem? (i := 198) rfl)) rfl, lw_mem (tb3 (List.mem_of_getElem? (i := 199) rfl)) rfl, lw_mem (tb3 (List.mem_of_getElem? (i := 200) rfl)) rfl⟩
theorem bmX11_alter (own : String) : pmB own mX11_alter 2 := ⟨lw_mem (tb1 (List.mem_of_getElem? (i := 13) rfl)) rfl, hX11_alter, by decide +kernel, by decide +kernel, by decide +kernel⟩
theorem lL_99 : pmV RL 99 mX11_alter 2 := ⟨bmX11_alter _, lw_mem (tb6 (List.mem_of_getElem? (i := 6) rfl)) rfl, lw_mem (tb6 (List.mem_of_getElem? (i := 7) rfl)) rfl, lw_mem (tb6 (List.mem_of_getElem? (i := 8) rfl)) rfl⟩
theorem bmX10_cut (own : String) : pmB own mX10_cut 1 := ⟨lw_mem (tb1 (List.mem_of_getElem? (i := 1) rfl)) rfl, hX10_cut, by decide +kernel, by decide +kernel, by decide +kernel⟩
theorem lL_100 : pmV RL 100 mX10_cut 1 := ⟨bmX10_cut _, lw_mem (tb3 (List.mem_of_getElem? (i := 203) rfl)) rfl, lw_mem (tb3 (List.mem_of_getElem? (i := 204) rfl)) rfl, lw_mem (tb3 (List.mem_of_getElem? (i := 205) rfl)) rfl⟩
theorem bmX11_cut (own : String) : pmB own mX11_cut 1 := ⟨lw_mem (tb1 (List.mem_of_getElem? (i := 13) rfl)) rfl, hX11_cut, by decide +kernel, by decide +kernel, by decide +kernel⟩
theorem lL_103 : pmV RL 103 mX11_cut 1 := ⟨bmX11_cut _, lw_mem (tb6 (List.mem_of_getElem? (i := 10) rfl)) rfl, lw_mem (tb6 (List.mem_of_getElem? (i := 11) rfl)) rfl, lw_mem (tb6 (List.mem_of_getElem? (i := 12) rfl)) rfl⟩
theorem bmX10_unpack (own : String) : pmB own mX10_unpack 0 := ⟨lw_mem (tb1 (List.mem_of_getElem? (i := 1) rfl)) rfl, hX10_unpack, by decide +kernel, by decide +kernel, by decide +kernel⟩
theorem lL_104 : pmV RL 104 mX10_unpack 0 := ⟨bmX10_unpack _, lw_mem (tb3 (List.mem_of_getElem? (i := 211) rfl)) rfl, lw_mem (tb3 (List.mem_of_getElem? (i := 212) rfl)) rfl, lw_mem (tb3 (List.mem_of_getElem? (i := 213) rfl)) rfl⟩
theorem bmX11_unpack (own : String) : pmB own mX11_unpack 0 := ⟨lw_mem (tb1 (List.mem_of_getElem? (i := 13) rfl)) rfl, hX11_unpack, by decide +kernel, by decide +kernel, by decide +kernel⟩
theorem lL_107 : pmV RL 107 mX11_unpack 0 := ⟨bmX11_unpack _, lw_mem (tb6 (List.mem_of_getElem? (i := 14) rfl)) rfl, lw_mem (tb6 (List.mem_of_getElem? (i := 15) rfl)) rfl, lw_mem (tb6 (List.mem_of_getElem? (i := 16) rfl)) rfl⟩
theorem bmX10_place (own : String) : pmB own mX10_place 0 := ⟨lw_mem (tb1 (List.mem_of_getElem? (i := 1) rfl)) rfl, hX10_place, by decide +kernel, by decide +kernel, by decide +kernel⟩
theorem lL_108 : pmV RL 108 mX10_place 0 := ⟨bmX10_place _, lw_mem (tb4 (List.mem_of_getElem? (i := 114) rfl)) rfl, lw_mem (tb4 (List.mem_of_getElem? (i := 115) rfl)) rfl, lw_mem (tb4 (List.mem_of_getElem? (i := 116) rfl)) rfl⟩
theorem bmX11_place (own : String) : pmB own mX11_place 0 := ⟨lw_mem (tb1 (List.mem_of_getElem? (i := 13) rfl)) rfl, hX11_place, by decide +kernel, by decide +kernel, by decide +kernel⟩
theorem lL_111 : pmV RL 111 mX11_place 0 := ⟨bmX11_place _, lw_mem (tb6 (List.mem_of_getElem? (i := 59) rfl)) rfl, lw_mem (tb6 (List.mem_of_getElem? (i := 60) rfl)) rfl, lw_mem (tb6 (List.mem_of_getElem? (i := 61) rfl)) rfl⟩
theorem bmX11_lose (own : String) : pmB own mX11_lose 0 := ⟨lw_mem (tb1 (List.mem_of_getElem? (i := 13) rfl)) rfl, hX11_lose, by decide +kernel, by decide +kernel, by decide +kernel⟩
theorem lX11_62 : pmV RX11 62 mX11_lose 0 := ⟨bmX11_lose _, lw_mem (tb4 (List.mem_of_getElem? (i := 199) rfl)) rfl, lw_mem (tb4 (List.mem_of_getElem? (i := 201) rfl)) rfl, lw_mem (List.mem_append_left _ (List.mem_of_getElem? (i := 34) rfl)) rfl⟩
theorem bmX11_in (own : String) : pmB own mX11_in 3 := ⟨lw_mem (tb1 (List.mem_of_getElem? (i := 13) rfl)) rfl, hX11_in, by decide +kernel, by decide +kernel, by decide +kernel⟩
theorem lX11_75 : pmS RX11 75 mX11_in 3 := ⟨bmX11_in _, lw_mem (tb5 (List.mem_of_getElem? (i := 81) rfl)) rfl, lw_mem (tb5 (List.mem_of_getElem? (i := 82) rfl)) rfl⟩
theorem bmX11_isFilter (own : String) : pmB own mX11_isFilter 2 := ⟨lw_mem (tb1 (List.mem_of_getElem? (i := 13) rfl)) rfl, hX11_isFilter, by decide +kernel, by decide +kernel, by decide +kernel⟩
theorem lX11_83 : pmS RX11 83 mX11_isFilter 2 := ⟨bmX11_isFilter _, lw_mem (tb5 (List.mem_of_getElem? (i := 101) rfl)) rfl, lw_mem (tb5 (List.mem_of_getElem? (i := 102) rfl)) rfl⟩
theorem lX11_93 : pmV RX11 93 mX11_chains 0 := ⟨bmX11_chains _, lw_mem (tb5 (List.mem_of_getElem? (i := 116) rfl)) rfl, lw_mem (tb5 (List.mem_of_getElem? (i := 109) rfl)) rfl, lw_mem (tb5 (List.mem_of_getElem? (i := 110) rfl)) rfl⟩
theorem bmX11_beginList (own : String) : pmB own mX11_beginList 0 := ⟨lw_mem (tb1 (List.mem_of_getElem? (i := 13) rfl)) rfl, hX11_beginList, by decide +kernel, by decide +kernel, by decide +kernel⟩
theorem lX11_106 : pmV RX11 106 mX11_beginList 0 := ⟨bmX11_beginList _, lw_mem (tb5 (List.mem_of_getElem? (i := 149) rfl)) rfl, lw_mem (tb5 (List.mem_of_getElem? (i := 151) rfl)) rfl, lw_mem (List.mem_append_left _ (List.mem_of_getElem? (i := 42) rfl)) rfl⟩
theorem bmX11_placeOf (own : String) : pmB own mX11_placeOf 1 := ⟨lw_mem (tb1 (List.mem_of_getElem? (i := 13) rfl)) rfl, hX11_placeOf, by decide +kernel, by decide +kernel, by decide +kernel⟩
theorem lX11_109 : pmV RX11 109 mX11_placeOf 1 := ⟨bmX11_placeOf _, lw_mem (tb5 (List.mem_of_getElem? (i := 153) rfl)) rfl, lw_mem (tb5 (List.mem_of_getElem? (i := 155) rfl)) rfl, lw_mem (List.mem_append_left _ (List.mem_of_getElem? (i := 43) rfl)) rfl⟩
theorem bmX11_front (own : String) : pmB own mX11_front 1 := ⟨lw_mem (tb1 (List.mem_of_getElem? (i := 13) rfl)) rfl, hX11_front, by decide +kernel, by decide +kernel, by decide +kernel⟩
theorem lX11_113 : pmV RX11 113 mX11_front 1 := ⟨bmX11_front _, lw_mem (tb5 (List.mem_of_getElem? (i := 157) rfl)) rfl, lw_mem (tb5 (List.mem_of_getElem? (i := 159) rfl)) rfl, lw_mem (List.mem_append_left _ (List.mem_of_getElem? (i := 44) rfl)) rfl⟩
theorem bmX11_put (own : String) : pmB own mX11_put 1 := ⟨lw_mem (tb1 (List.mem_of_getElem? (i := 13) rfl)) rfl, hX11_put, by decide +kernel, by decide +kernel, by decide +kernel⟩
theorem lX11_123 : pmV RX11 123 mX11_put 1 := ⟨bmX11_put _, lw_mem (tb5 (List.mem_of_getElem? (i := 137) rfl)) rfl, lw_mem (tb5 (List.mem_of_getElem? (i := 139) rfl)) rfl, lw_mem (List.mem_append_left _ (List.mem_of_getElem? (i := 39) rfl)) rfl⟩
theorem bmX11_like (own : String) : pmB own mX11_like 2 := ⟨lw_mem (tb1 (List.mem_of_getElem? (i := 13) rfl)) rfl, hX11_like, by decide +kernel, by decide +kernel, by decide +kernel⟩
theorem lX11_126 : pmV RX11 126 mX11_like 2 := ⟨bmX11_like _, lw_mem (tb5 (List.mem_of_getElem? (i := 165) rfl)) rfl, lw_mem (tb5 (List.mem_of_getElem? (i := 167) rfl)) rfl, lw_mem (List.mem_append_left _ (List.mem_of_getElem? (i := 46) rfl)) rfl⟩
theorem bmX11_putRow (own : String) : pmB own mX11_putRow 2 := ⟨lw_mem (tb1 (List.mem_of_getElem? (i := 13) rfl)) rfl, hX11_putRow, by decide +kernel, by decide +kernel, by decide +kernel⟩
theorem lX11_130 : pmV RX11 130 mX11_putRow 2 := ⟨bmX11_putRow _, lw_mem (tb5 (List.mem_of_getElem? (i := 169) rfl)) rfl, lw_mem (tb5 (List.mem_of_getElem? (i := 171) rfl)) rfl, lw_mem (List.mem_append_left _ (List.mem_of_getElem? (i := 47) rfl)) rfl⟩
theorem bmX11_match (own : String) : pmB own mX11_match 2 := ⟨lw_mem (tb1 (List.mem_of_getElem? (i := 13) rfl)) rfl, hX11_match, by decide +kernel, by decide +kernel, by decide +kernel⟩
theorem lX11_140 : pmV RX11 140 mX11_match 2 := ⟨bmX11_match _, lw_mem (tb5 (List.mem_of_getElem? (i := 208) rfl)) rfl, lw_mem (tb5 (List.mem_of_getElem? (i := 210) rfl)) rfl, lw_mem (List.mem_append_left _ (List.mem_of_getElem? (i := 56) rfl)) rfl⟩
theorem bmX11_countBytes (own : String) : pmB own mX11_countBytes 1 := ⟨lw_mem (tb1 (List.mem_of_getElem? (i := 13) rfl)) rfl, hX11_countBytes, by decide +kernel, by decide +kernel, by decide +kernel⟩
theorem lX11_143 : pmV RX11 143 mX11_countBytes 1 := ⟨bmX11_countBytes _, lw_mem (tb5 (List.mem_of_getElem? (i := 177) rfl)) rfl, lw_mem (tb5 (List.mem_of_getElem? (i := 179) rfl)) rfl, lw_mem (List.mem_append_left _ (List.mem_of_getElem? (i := 49) rfl)) rfl⟩
theorem bmX11_widthOf (own : String) : pmB own mX11_widthOf 1 := ⟨lw_mem (tb1 (List.mem_of_getElem? (i := 13) rfl)) rfl, hX11_widthOf, by decide +kernel, by decide +kernel, by decide +kernel⟩
theorem lX11_146 : pmS RX11 146 mX11_widthOf 1 := ⟨bmX11_widthOf _, lw_mem (tb5 (List.mem_of_getElem? (i := 181) rfl)) rfl, lw_mem (tb5 (List.mem_of_getElem? (i := 182) rfl)) rfl⟩
theorem bmX11_bits (own : String) : pmB own mX11_bits 2 := ⟨lw_mem (tb1 (List.mem_of_getElem? (i := 13) rfl)) rfl, hX11_bits, by decide +kernel, by decide +kernel, by decide +kernel⟩
theorem lX11_149 : pmV RX11 149 mX11_bits 2 := ⟨bmX11_bits _, lw_mem (tb5 (List.mem_of_getElem? (i := 184) rfl)) rfl, lw_mem (tb5 (List.mem_of_getElem? (i := 186) rfl)) rfl, lw_mem (List.mem_append_left _ (List.mem_of_getElem? (i := 50) rfl)) rfl⟩
theorem bmX11_least (own : String) : pmB own mX11_least 2 := ⟨lw_mem (tb1 (List.mem_of_getElem? (i := 13) rfl)) rfl, hX11_least, by decide +kernel, by decide +kernel, by decide +kernel⟩
theorem lX11_152 : pmV RX11 152 mX11_least 2 := ⟨bmX11_least _, lw_mem (tb5 (List.mem_of_getElem? (i := 196) rfl)) rfl, lw_mem (tb5 (List.mem_of_getElem? (i := 198) rfl)) rfl, lw_mem (List.mem_append_left _ (List.mem_of_getElem? (i := 53) rfl)) rfl⟩
theorem bmX11_findLengths (own : String) : pmB own mX11_findLengths 1 := ⟨lw_mem (tb1 (List.mem_of_getElem? (i := 13) rfl)) rfl, hX11_findLengths, by decide +kernel, by decide +kernel, by decide +kernel⟩
theorem lX11_155 : pmV RX11 155 mX11_findLengths 1 := ⟨bmX11_findLengths _, lw_mem (tb5 (List.mem_of_getElem? (i := 192) rfl)) rfl, lw_mem (tb5 (List.mem_of_getElem? (i := 194) rfl)) rfl, lw_mem (List.mem_append_left _ (List.mem_of_getElem? (i := 52) rfl)) rfl⟩
theorem bmX11_findCodes (own : String) : pmB own mX11_findCodes 0 := ⟨lw_mem (tb1 (List.mem_of_getElem? (i := 13) rfl)) rfl, hX11_findCodes, by decide +kernel, by decide +kernel, by decide +kernel⟩
theorem lX11_158 : pmV RX11 158 mX11_findCodes 0 := ⟨bmX11_findCodes _, lw_mem (tb5 (List.mem_of_getElem? (i := 200) rfl)) rfl, lw_mem (tb5 (List.mem_of_getElem? (i := 202) rfl)) rfl, lw_mem (List.mem_append_left _ (List.mem_of_getElem? (i := 54) rfl)) rfl⟩
theorem bmX11_apply (own : String) : pmB own mX11_apply 4 := ⟨lw_mem (tb1 (List.mem_of_getElem? (i := 13) rfl)) rfl, hX11_apply, by decide +kernel, by decide +kernel, by decide +kernel⟩
theorem lX11_161 : pmV RX11 161 mX11_apply 4 := ⟨bmX11_apply _, lw_mem (tb5 (List.mem_of_getElem? (i := 145) rfl)) rfl, lw_mem (tb5 (List.mem_of_getElem? (i := 147) rfl)) rfl, lw_mem (List.mem_append_left _ (List.mem_of_getElem? (i := 41) rfl)) rfl⟩
theorem bmX11_part (own : String) : pmB own mX11_part 1 := ⟨lw_mem (tb1 (List.mem_of_getElem? (i := 13) rfl)) rfl, hX11_part, by decide +kernel, by decide +kernel, by decide +kernel⟩
theorem lX11_165 : pmV RX11 165 mX11_part 1 := ⟨bmX11_part _, lw_mem (tb5 (List.mem_of_getElem? (i := 121) rfl)) rfl, lw_mem (tb5 (List.mem_of_getElem? (i := 123) rfl)) rfl, lw_mem (List.mem_append_left _ (List.mem_of_getElem? (i := 35) rfl)) rfl⟩
theorem bmX11_putFilter (own : String) : pmB own mX11_putFilter 1 := ⟨lw_mem (tb1 (List.mem_of_getElem? (i := 13) rfl)) rfl, hX11_putFilter, by decide +kernel, by decide +kernel, by decide +kernel⟩
theorem lX11_168 : pmV RX11 168 mX11_putFilter 1 := ⟨bmX11_putFilter _, lw_mem (tb5 (List.mem_of_getElem? (i := 141) rfl)) rfl, lw_mem (tb5 (List.mem_of_getElem? (i := 143) rfl)) rfl, lw_mem (List.mem_append_left _ (List.mem_of_getElem? (i := 40) rfl)) rfl⟩
theorem bmX11_packRuns (own : String) : pmB own mX11_packRuns 1 := ⟨lw_mem (tb1 (List.mem_of_getElem? (i := 13) rfl)) rfl, hX11_packRuns, by decide +kernel, by decide +kernel, by decide +kernel⟩
theorem lX11_171 : pmV RX11 171 mX11_packRuns 1 := ⟨bmX11_packRuns _, lw_mem (tb5 (List.mem_of_getElem? (i := 161) rfl)) rfl, lw_mem (tb5 (List.mem_of_getElem? (i := 163) rfl)) rfl, lw_mem (List.mem_append_left _ (List.mem_of_getElem? (i := 45) rfl)) rfl⟩
theorem bmX11_packBits (own : String) : pmB own mX11_packBits 1 := ⟨lw_mem (tb1 (List.mem_of_getElem? (i := 13) rfl)) rfl, hX11_packBits, by decide +kernel, by decide +kernel, by decide +kernel⟩
theorem lX11_174 : pmV RX11 174 mX11_packBits 1 := ⟨bmX11_packBits _, lw_mem (tb5 (List.mem_of_getElem? (i := 173) rfl)) rfl, lw_mem (tb5 (List.mem_of_getElem? (i := 175) rfl)) rfl, lw_mem (List.mem_append_left _ (List.mem_of_getElem? (i := 48) rfl)) rfl⟩
theorem bmX11_packPrefix (own : String) : pmB own mX11_packPrefix 1 := ⟨lw_mem (tb1 (List.mem_of_getElem? (i := 13) rfl)) rfl, hX11_packPrefix, by decide +kernel, by decide +kernel, by decide +kernel⟩
theorem lX11_177 : pmV RX11 177 mX11_packPrefix 1 := ⟨bmX11_packPrefix _, lw_mem (tb5 (List.mem_of_getElem? (i := 188) rfl)) rfl, lw_mem (tb5 (List.mem_of_getElem? (i := 190) rfl)) rfl, lw_mem (List.mem_append_left _ (List.mem_of_getElem? (i := 51) rfl)) rfl⟩
theorem bmX11_packMatches (own : String) : pmB own mX11_packMatches 1 := ⟨lw_mem (tb1 (List.mem_of_getElem? (i := 13) rfl)) rfl, hX11_packMatches, by decide +kernel, by decide +kernel, by decide +kernel⟩
theorem lX11_180 : pmV RX11 180 mX11_packMatches 1 := ⟨bmX11_packMatches _, lw_mem (tb5 (List.mem_of_getElem? (i := 204) rfl)) rfl, lw_mem (tb5 (List.mem_of_getElem? (i := 206) rfl)) rfl, lw_mem (List.mem_append_left _ (List.mem_of_getElem? (i := 55) rfl)) rfl⟩
theorem bmX11_stepsOf (own : String) : pmB own mX11_stepsOf 0 := ⟨lw_mem (tb1 (List.mem_of_getElem? (i := 13) rfl)) rfl, hX11_stepsOf, by decide +kernel, by decide +kernel, by decide +kernel⟩
theorem lX11_183 : pmV RX11 183 mX11_stepsOf 0 := ⟨bmX11_stepsOf _, lw_mem (tb5 (List.mem_of_getElem? (i := 125) rfl)) rfl, lw_mem (tb5 (List.mem_of_getElem? (i := 127) rfl)) rfl, lw_mem (List.mem_append_left _ (List.mem_of_getElem? (i := 36) rfl)) rfl⟩
theorem bmX11_memoryOf (own : String) : pmB own mX11_memoryOf 0 := ⟨lw_mem (tb1 (List.mem_of_getElem? (i := 13) rfl)) rfl, hX11_memoryOf, by decide +kernel, by decide +kernel, by decide +kernel⟩
theorem lX11_186 : pmV RX11 186 mX11_memoryOf 0 := ⟨bmX11_memoryOf _, lw_mem (tb5 (List.mem_of_getElem? (i := 129) rfl)) rfl, lw_mem (tb5 (List.mem_of_getElem? (i := 131) rfl)) rfl, lw_mem (List.mem_append_left _ (List.mem_of_getElem? (i := 37) rfl)) rfl⟩
theorem bmX11_packAll (own : String) : pmB own mX11_packAll 1 := ⟨lw_mem (tb1 (List.mem_of_getElem? (i := 13) rfl)) rfl, hX11_packAll, by decide +kernel, by decide +kernel, by decide +kernel⟩
theorem lX11_189 : pmV RX11 189 mX11_packAll 1 := ⟨bmX11_packAll _, lw_mem (tb5 (List.mem_of_getElem? (i := 133) rfl)) rfl, lw_mem (tb5 (List.mem_of_getElem? (i := 135) rfl)) rfl, lw_mem (List.mem_append_left _ (List.mem_of_getElem? (i := 38) rfl)) rfl⟩
theorem bmX11_isFlat (own : String) : pmB own mX11_isFlat 0 := ⟨lw_mem (tb1 (List.mem_of_getElem? (i := 13) rfl)) rfl, hX11_isFlat, by decide +kernel, by decide +kernel, by decide +kernel⟩
theorem lX11_192 : pmV RX11 192 mX11_isFlat 0 := ⟨bmX11_isFlat _, lw_mem (tb5 (List.mem_of_getElem? (i := 216) rfl)) rfl, lw_mem (tb5 (List.mem_of_getElem? (i := 218) rfl)) rfl, lw_mem (List.mem_append_left _ (List.mem_of_getElem? (i := 57) rfl)) rfl⟩
theorem lX11_196 : pmV RX11 196 mX11_feature 0 := ⟨bmX11_feature _, lw_mem (tb5 (List.mem_of_getElem? (i := 232) rfl)) rfl, lw_mem (tb5 (List.mem_of_getElem? (i := 225) rfl)) rfl, lw_mem (tb5 (List.mem_of_getElem? (i := 226) rfl)) rfl⟩
theorem bmX11_fail (own : String) : pmB own mX11_fail 2 := ⟨lw_mem (tb1 (List.mem_of_getElem? (i := 13) rfl)) rfl, hX11_fail, by decide +kernel, by decide +kernel, by decide +kernel⟩
theorem lX11_207 : pmV RX11 207 mX11_fail 2 := ⟨bmX11_fail _, lw_mem (tb6 (List.mem_of_getElem? (i := 22) rfl)) rfl, lw_mem (tb6 (List.mem_of_getElem? (i := 24) rfl)) rfl, lw_mem (List.mem_append_left _ (List.mem_of_getElem? (i := 59) rfl)) rfl⟩
theorem bmX11_next (own : String) : pmB own mX11_next 0 := ⟨lw_mem (tb1 (List.mem_of_getElem? (i := 13) rfl)) rfl, hX11_next, by decide +kernel, by decide +kernel, by decide +kernel⟩
theorem lX11_213 : pmV RX11 213 mX11_next 0 := ⟨bmX11_next _, lw_mem (tb6 (List.mem_of_getElem? (i := 18) rfl)) rfl, lw_mem (tb6 (List.mem_of_getElem? (i := 20) rfl)) rfl, lw_mem (List.mem_append_left _ (List.mem_of_getElem? (i := 58) rfl)) rfl⟩
theorem bmX11_bit (own : String) : pmB own mX11_bit 0 := ⟨lw_mem (tb1 (List.mem_of_getElem? (i := 13) rfl)) rfl, hX11_bit, by decide +kernel, by decide +kernel, by decide +kernel⟩
theorem lX11_219 : pmV RX11 219 mX11_bit 0 := ⟨bmX11_bit _, lw_mem (tb6 (List.mem_of_getElem? (i := 38) rfl)) rfl, lw_mem (tb6 (List.mem_of_getElem? (i := 40) rfl)) rfl, lw_mem (List.mem_append_left _ (List.mem_of_getElem? (i := 63) rfl)) rfl⟩
theorem bmX11_must (own : String) : pmB own mX11_must 2 := ⟨lw_mem (tb1 (List.mem_of_getElem? (i := 13) rfl)) rfl, hX11_must, by decide +kernel, by decide +kernel, by decide +kernel⟩
theorem lX11_222 : pmV RX11 222 mX11_must 2 := ⟨bmX11_must _, lw_mem (tb6 (List.mem_of_getElem? (i := 26) rfl)) rfl, lw_mem (tb6 (List.mem_of_getElem? (i := 28) rfl)) rfl, lw_mem (List.mem_append_left _ (List.mem_of_getElem? (i := 60) rfl)) rfl⟩
theorem bmX11_come (own : String) : pmB own mX11_come 1 := ⟨lw_mem (tb1 (List.mem_of_getElem? (i := 13) rfl)) rfl, hX11_come, by decide +kernel, by decide +kernel, by decide +kernel⟩
theorem lX11_229 : pmV RX11 229 mX11_come 1 := ⟨bmX11_come _, lw_mem (tb6 (List.mem_of_getElem? (i := 30) rfl)) rfl, lw_mem (tb6 (List.mem_of_getElem? (i := 32) rfl)) rfl, lw_mem (List.mem_append_left _ (List.mem_of_getElem? (i := 61) rfl)) rfl⟩
theorem bmX11_endBits (own : String) : pmB own mX11_endBits 0 := ⟨lw_mem (tb1 (List.mem_of_getElem? (i := 13) rfl)) rfl, hX11_endBits, by decide +kernel, by decide +kernel, by decide +kernel⟩
theorem lX11_232 : pmV RX11 232 mX11_endBits 0 := ⟨bmX11_endBits _, lw_mem (tb6 (List.mem_of_getElem? (i := 42) rfl)) rfl, lw_mem (tb6 (List.mem_of_getElem? (i := 44) rfl)) rfl, lw_mem (List.mem_append_left _ (List.mem_of_getElem? (i := 64) rfl)) rfl⟩
theorem bmX11_readCode (own : String) : pmB own mX11_readCode 2 := ⟨lw_mem (tb1 (List.mem_of_getElem? (i := 13) rfl)) rfl, hX11_readCode, by decide +kernel, by decide +kernel, by decide +kernel⟩
theorem lX11_236 : pmV RX11 236 mX11_readCode 2 := ⟨bmX11_readCode _, lw_mem (tb6 (List.mem_of_getElem? (i := 51) rfl)) rfl, lw_mem (tb6 (List.mem_of_getElem? (i := 53) rfl)) rfl, lw_mem (List.mem_append_left _ (List.mem_of_getElem? (i := 66) rfl)) rfl⟩
theorem bmX11_readBits (own : String) : pmB own mX11_readBits 0 := ⟨lw_mem (tb1 (List.mem_of_getElem? (i := 13) rfl)) rfl, hX11_readBits, by decide +kernel, by decide +kernel, by decide +kernel⟩
theorem lX11_239 : pmV RX11 239 mX11_readBits 0 := ⟨bmX11_readBits _, lw_mem (tb6 (List.mem_of_getElem? (i := 34) rfl)) rfl, lw_mem (tb6 (List.mem_of_getElem? (i := 36) rfl)) rfl, lw_mem (List.mem_append_left _ (List.mem_of_getElem? (i := 62) rfl)) rfl⟩
theorem bmX11_readPrefix (own : String) : pmB own mX11_readPrefix 0 := ⟨lw_mem (tb1 (List.mem_of_getElem? (i := 13) rfl)) rfl, hX11_readPrefix, by decide +kernel, by decide +kernel, by decide +kernel⟩
theorem lX11_242 : pmV RX11 242 mX11_readPrefix 0 := ⟨bmX11_readPrefix _, lw_mem (tb6 (List.mem_of_getElem? (i := 46) rfl)) rfl, lw_mem (tb6 (List.mem_of_getElem? (i := 48) rfl)) rfl, lw_mem (List.mem_append_left _ (List.mem_of_getElem? (i := 65) rfl)) rfl⟩
theorem bmX11_readItems (own : String) : pmB own mX11_readItems 1 := ⟨lw_mem (tb1 (List.mem_of_getElem? (i := 13) rfl)) rfl, hX11_readItems, by decide +kernel, by decide +kernel, by decide +kernel⟩
theorem lX11_245 : pmV RX11 245 mX11_readItems 1 := ⟨bmX11_readItems _, lw_mem (tb6 (List.mem_of_getElem? (i := 55) rfl)) rfl, lw_mem (tb6 (List.mem_of_getElem? (i := 57) rfl)) rfl, lw_mem (List.mem_append_left _ (List.mem_of_getElem? (i := 67) rfl)) rfl⟩
theorem o_inst : Cond.instanceMethod Lib.objectInit ∈ lw_good := lw_mem (tb1 (List.mem_of_getElem? (i := 26) rfl)) rfl
theorem o_code : Cond.code Lib.objectInit ⟨#[0xb1]⟩ 1 none ∈ lw_good := lw_mem (tb1 (List.mem_of_getElem? (i := 27) rfl)) rfl
theorem ac_st : Cond.static arraycopyName ∈ lw_good := lw_mem (tb3 (List.mem_of_getElem? (i := 5) rfl)) rfl
theorem ac_nt : Cond.native arraycopyName ∈ lw_good := lw_mem (tb3 (List.mem_of_getElem? (i := 6) rfl)) rfl
theorem ac_in : Cond.initialized "java/lang/System" ∈ lw_good := lw_mem (tb1 (List.mem_of_getElem? (i := 15) rfl)) rfl
theorem lX10_1 : Cond.methodLink RX10 1 Lib.objectInit ∈ lw_good := lw_mem (tb1 (List.mem_of_getElem? (i := 25) rfl)) rfl
theorem lX0_1 : Cond.methodLink RX0 1 Lib.objectInit ∈ lw_good := lw_mem (tb1 (List.mem_of_getElem? (i := 85) rfl)) rfl
theorem lX1_3 : Cond.methodLink RX1 3 Lib.objectInit ∈ lw_good := lw_mem (tb1 (List.mem_of_getElem? (i := 47) rfl)) rfl
theorem lX2_3 : Cond.methodLink RX2 3 Lib.objectInit ∈ lw_good := lw_mem (tb1 (List.mem_of_getElem? (i := 69) rfl)) rfl
theorem lX2_58 : Cond.methodLink RX2 58 arraycopyName ∈ lw_good := lw_mem (tb4 (List.mem_of_getElem? (i := 97) rfl)) rfl
theorem lX3_3 : Cond.methodLink RX3 3 Lib.objectInit ∈ lw_good := lw_mem (tb1 (List.mem_of_getElem? (i := 79) rfl)) rfl
theorem lX4_3 : Cond.methodLink RX4 3 Lib.objectInit ∈ lw_good := lw_mem (tb1 (List.mem_of_getElem? (i := 126) rfl)) rfl
theorem lX5_3 : Cond.methodLink RX5 3 Lib.objectInit ∈ lw_good := lw_mem (tb1 (List.mem_of_getElem? (i := 185) rfl)) rfl
theorem lX6_1 : Cond.methodLink RX6 1 Lib.objectInit ∈ lw_good := lw_mem (tb1 (List.mem_of_getElem? (i := 33) rfl)) rfl
theorem lX6_23 : Cond.methodLink RX6 23 arraycopyName ∈ lw_good := lw_mem (tb3 (List.mem_of_getElem? (i := 4) rfl)) rfl
theorem lX7_3 : Cond.methodLink RX7 3 Lib.objectInit ∈ lw_good := lw_mem (tb2 (List.mem_of_getElem? (i := 12) rfl)) rfl
theorem lX8_3 : Cond.methodLink RX8 3 Lib.objectInit ∈ lw_good := lw_mem (tb1 (List.mem_of_getElem? (i := 98) rfl)) rfl
theorem lX9_3 : Cond.methodLink RX9 3 Lib.objectInit ∈ lw_good := lw_mem (tb1 (List.mem_of_getElem? (i := 179) rfl)) rfl
theorem lX11_1 : Cond.methodLink RX11 1 Lib.objectInit ∈ lw_good := lw_mem (tb4 (List.mem_of_getElem? (i := 198) rfl)) rfl
theorem gX1_44 : Cond.fieldLinkNest RX1 44 "ChainChoice" (pnam 2) "[I" "ChainChoice" ∈ pnest := List.mem_filter.mpr ⟨(tb2 (List.mem_of_getElem? (i := 191) rfl)), rfl⟩
theorem gX1_57 : Cond.fieldLinkNest RX1 57 "ChainChoice" (pnam 0) "[I" "ChainChoice" ∈ pnest := List.mem_filter.mpr ⟨(tb2 (List.mem_of_getElem? (i := 202) rfl)), rfl⟩
theorem gX1_63 : Cond.fieldLinkNest RX1 63 "ChainChoice" (pnam 3) "[I" "ChainChoice" ∈ pnest := List.mem_filter.mpr ⟨(tb2 (List.mem_of_getElem? (i := 212) rfl)), rfl⟩
theorem gX1_66 : Cond.fieldLinkNest RX1 66 "ChainChoice" (pnam 1) "[I" "ChainChoice" ∈ pnest := List.mem_filter.mpr ⟨(tb2 (List.mem_of_getElem? (i := 214) rfl)), rfl⟩
theorem qX10_100 : Cond.constant RX10 100 1103515245 ∈ lw_good := lw_mem (tb2 (List.mem_of_getElem? (i := 90) rfl)) rfl
theorem qX4_37 : Cond.constant RX4 37 32768 ∈ lw_good := lw_mem (tb4 (List.mem_of_getElem? (i := 67) rfl)) rfl
theorem qX11_79 : Cond.constant RX11 79 1103515245 ∈ lw_good := lw_mem (tb5 (List.mem_of_getElem? (i := 88) rfl)) rfl
theorem qX11_235 : Cond.constant RX11 235 32768 ∈ lw_good := lw_mem (tb6 (List.mem_of_getElem? (i := 50) rfl)) rfl
theorem qX10_188 : Cond.constantLong RX10 188 1000 ∈ lw_good := lw_mem (tb4 (List.mem_of_getElem? (i := 192) rfl)) rfl
theorem qX11_199 : Cond.constantLong RX11 199 1000 ∈ lw_good := lw_mem (tb6 (List.mem_of_getElem? (i := 1) rfl)) rfl
theorem ar_int : Cond.arrayClass .int ∈ lw_good := lw_mem (tb1 (List.mem_of_getElem? (i := 41) rfl)) rfl
theorem ar_long : Cond.arrayClass .long ∈ lw_good := lw_mem (tb6 (List.mem_of_getElem? (i := 63) rfl)) rfl
abbrev zL_8 : List Value := [.null, .null, .null, .null, .null, .null, .null, .null, .null, .null, .null, .null, .int 0, .int 0]
theorem kL_8 : pcl RL 8 10 14 zL_8 := ⟨_, _, tyX10, rfl, i_X10, lw_mem (tb1 (List.mem_of_getElem? (i := 20) rfl)) rfl, lw_mem (tb1 (List.mem_of_getElem? (i := 21) rfl)) rfl, lw_mem (tb1 (List.mem_of_getElem? (i := 1) rfl)) rfl, tyX10_ok, fun σ base j hj => by
  match j, hj with
  | 0, _ => rfl
  | 1, _ => rfl
  | 2, _ => rfl
  | 3, _ => rfl
  | 4, _ => rfl
  | 5, _ => rfl
  | 6, _ => rfl
  | 7, _ => rfl
  | 8, _ => rfl
  | 9, _ => rfl
  | 10, _ => rfl
  | 11, _ => rfl
  | 12, _ => rfl
  | 13, _ => rfl
  | j + 14, hj => omega⟩
abbrev zX10_7 : List Value := [.null, .int 0]
theorem kX10_7 : pcl RX10 7 6 2 zX10_7 := ⟨_, _, tyX6, rfl, i_X6, lw_mem (tb1 (List.mem_of_getElem? (i := 28) rfl)) rfl, lw_mem (tb1 (List.mem_of_getElem? (i := 29) rfl)) rfl, lw_mem (tb1 (List.mem_of_getElem? (i := 2) rfl)) rfl, tyX6_ok, fun σ base j hj => by
  match j, hj with
  | 0, _ => rfl
  | 1, _ => rfl
  | j + 2, hj => omega⟩
abbrev zX10_30 : List Value := [.null, .null, .int 0, .null, .int 0]
theorem kX10_30 : pcl RX10 30 1 5 zX10_30 := ⟨_, _, tyX1, rfl, i_X1, lw_mem (tb1 (List.mem_of_getElem? (i := 42) rfl)) rfl, lw_mem (tb1 (List.mem_of_getElem? (i := 43) rfl)) rfl, lw_mem (tb1 (List.mem_of_getElem? (i := 3) rfl)) rfl, tyX1_ok, fun σ base j hj => by
  match j, hj with
  | 0, _ => rfl
  | 1, _ => rfl
  | 2, _ => rfl
  | 3, _ => rfl
  | 4, _ => rfl
  | j + 5, hj => omega⟩
abbrev zX10_37 : List Value := [.null]
theorem kX10_37 : pcl RX10 37 2 1 zX10_37 := ⟨_, _, tyX2, rfl, i_X2, lw_mem (tb1 (List.mem_of_getElem? (i := 64) rfl)) rfl, lw_mem (tb1 (List.mem_of_getElem? (i := 65) rfl)) rfl, lw_mem (tb1 (List.mem_of_getElem? (i := 4) rfl)) rfl, tyX2_ok, fun σ base j hj => by
  match j, hj with
  | 0, _ => rfl
  | j + 1, hj => omega⟩
abbrev zX10_44 : List Value := [.null, .null, .null, .null, .null, .null, .null, .int 0, .int 0]
theorem kX10_44 : pcl RX10 44 3 9 zX10_44 := ⟨_, _, tyX3, rfl, i_X3, lw_mem (tb1 (List.mem_of_getElem? (i := 74) rfl)) rfl, lw_mem (tb1 (List.mem_of_getElem? (i := 75) rfl)) rfl, lw_mem (tb1 (List.mem_of_getElem? (i := 5) rfl)) rfl, tyX3_ok, fun σ base j hj => by
  match j, hj with
  | 0, _ => rfl
  | 1, _ => rfl
  | 2, _ => rfl
  | 3, _ => rfl
  | 4, _ => rfl
  | 5, _ => rfl
  | 6, _ => rfl
  | 7, _ => rfl
  | 8, _ => rfl
  | j + 9, hj => omega⟩
abbrev zX3_24 : List Value := [.int 0, .int 0]
theorem kX3_24 : pcl RX3 24 0 2 zX3_24 := ⟨_, _, tyX0, rfl, i_X0, lw_mem (tb1 (List.mem_of_getElem? (i := 80) rfl)) rfl, lw_mem (tb1 (List.mem_of_getElem? (i := 81) rfl)) rfl, lw_mem (tb1 (List.mem_of_getElem? (i := 6) rfl)) rfl, tyX0_ok, fun σ base j hj => by
  match j, hj with
  | 0, _ => rfl
  | 1, _ => rfl
  | j + 2, hj => omega⟩
abbrev zX3_31 : List Value := [.null, .null, .null, .null, .int 0, .int 0, .int 0]
theorem kX3_31 : pcl RX3 31 8 7 zX3_31 := ⟨_, _, tyX8, rfl, i_X8, lw_mem (tb1 (List.mem_of_getElem? (i := 93) rfl)) rfl, lw_mem (tb1 (List.mem_of_getElem? (i := 94) rfl)) rfl, lw_mem (tb1 (List.mem_of_getElem? (i := 7) rfl)) rfl, tyX8_ok, fun σ base j hj => by
  match j, hj with
  | 0, _ => rfl
  | 1, _ => rfl
  | 2, _ => rfl
  | 3, _ => rfl
  | 4, _ => rfl
  | 5, _ => rfl
  | 6, _ => rfl
  | j + 7, hj => omega⟩
abbrev zX3_38 : List Value := [.null, .null, .null, .null, .null, .int 0]
theorem kX3_38 : pcl RX3 38 4 6 zX3_38 := ⟨_, _, tyX4, rfl, i_X4, lw_mem (tb1 (List.mem_of_getElem? (i := 121) rfl)) rfl, lw_mem (tb1 (List.mem_of_getElem? (i := 122) rfl)) rfl, lw_mem (tb1 (List.mem_of_getElem? (i := 8) rfl)) rfl, tyX4_ok, fun σ base j hj => by
  match j, hj with
  | 0, _ => rfl
  | 1, _ => rfl
  | 2, _ => rfl
  | 3, _ => rfl
  | 4, _ => rfl
  | 5, _ => rfl
  | j + 6, hj => omega⟩
abbrev zX10_51 : List Value := [.null, .null, .null, .null, .null, .null, .null, .null, .int 0, .int 0, .int 0]
theorem kX10_51 : pcl RX10 51 9 11 zX10_51 := ⟨_, _, tyX9, rfl, i_X9, lw_mem (tb1 (List.mem_of_getElem? (i := 174) rfl)) rfl, lw_mem (tb1 (List.mem_of_getElem? (i := 175) rfl)) rfl, lw_mem (tb1 (List.mem_of_getElem? (i := 9) rfl)) rfl, tyX9_ok, fun σ base j hj => by
  match j, hj with
  | 0, _ => rfl
  | 1, _ => rfl
  | 2, _ => rfl
  | 3, _ => rfl
  | 4, _ => rfl
  | 5, _ => rfl
  | 6, _ => rfl
  | 7, _ => rfl
  | 8, _ => rfl
  | 9, _ => rfl
  | 10, _ => rfl
  | j + 11, hj => omega⟩
abbrev zX9_9 : List Value := [.null, .int 0, .int 0, .int 0, .int 0, .int 0]
theorem kX9_9 : pcl RX9 9 5 6 zX9_9 := ⟨_, _, tyX5, rfl, i_X5, lw_mem (tb1 (List.mem_of_getElem? (i := 180) rfl)) rfl, lw_mem (tb1 (List.mem_of_getElem? (i := 181) rfl)) rfl, lw_mem (tb1 (List.mem_of_getElem? (i := 10) rfl)) rfl, tyX5_ok, fun σ base j hj => by
  match j, hj with
  | 0, _ => rfl
  | 1, _ => rfl
  | 2, _ => rfl
  | 3, _ => rfl
  | 4, _ => rfl
  | 5, _ => rfl
  | j + 6, hj => omega⟩
abbrev zX5_9 : List Value := [.null, .int 0]
theorem kX5_9 : pcl RX5 9 6 2 zX5_9 := ⟨_, _, tyX6, rfl, i_X6, lw_mem (tb1 (List.mem_of_getElem? (i := 186) rfl)) rfl, lw_mem (tb1 (List.mem_of_getElem? (i := 29) rfl)) rfl, lw_mem (tb1 (List.mem_of_getElem? (i := 2) rfl)) rfl, tyX6_ok, fun σ base j hj => by
  match j, hj with
  | 0, _ => rfl
  | 1, _ => rfl
  | j + 2, hj => omega⟩
abbrev zX9_28 : List Value := [.null, .null, .null, .null, .null, .int 0]
theorem kX9_28 : pcl RX9 28 4 6 zX9_28 := ⟨_, _, tyX4, rfl, i_X4, lw_mem (tb1 (List.mem_of_getElem? (i := 207) rfl)) rfl, lw_mem (tb1 (List.mem_of_getElem? (i := 122) rfl)) rfl, lw_mem (tb1 (List.mem_of_getElem? (i := 8) rfl)) rfl, tyX4_ok, fun σ base j hj => by
  match j, hj with
  | 0, _ => rfl
  | 1, _ => rfl
  | 2, _ => rfl
  | 3, _ => rfl
  | 4, _ => rfl
  | 5, _ => rfl
  | j + 6, hj => omega⟩
abbrev zX9_35 : List Value := [.null]
theorem kX9_35 : pcl RX9 35 2 1 zX9_35 := ⟨_, _, tyX2, rfl, i_X2, lw_mem (tb1 (List.mem_of_getElem? (i := 209) rfl)) rfl, lw_mem (tb1 (List.mem_of_getElem? (i := 65) rfl)) rfl, lw_mem (tb1 (List.mem_of_getElem? (i := 4) rfl)) rfl, tyX2_ok, fun σ base j hj => by
  match j, hj with
  | 0, _ => rfl
  | j + 1, hj => omega⟩
abbrev zX9_42 : List Value := [.null, .int 0]
theorem kX9_42 : pcl RX9 42 6 2 zX9_42 := ⟨_, _, tyX6, rfl, i_X6, lw_mem (tb1 (List.mem_of_getElem? (i := 211) rfl)) rfl, lw_mem (tb1 (List.mem_of_getElem? (i := 29) rfl)) rfl, lw_mem (tb1 (List.mem_of_getElem? (i := 2) rfl)) rfl, tyX6_ok, fun σ base j hj => by
  match j, hj with
  | 0, _ => rfl
  | 1, _ => rfl
  | j + 2, hj => omega⟩
abbrev zX10_58 : List Value := [.null]
theorem kX10_58 : pcl RX10 58 7 1 zX10_58 := ⟨_, _, tyX7, rfl, i_X7, lw_mem (tb2 (List.mem_of_getElem? (i := 7) rfl)) rfl, lw_mem (tb2 (List.mem_of_getElem? (i := 8) rfl)) rfl, lw_mem (tb1 (List.mem_of_getElem? (i := 11) rfl)) rfl, tyX7_ok, fun σ base j hj => by
  match j, hj with
  | 0, _ => rfl
  | j + 1, hj => omega⟩
abbrev zL_16 : List Value := [.int 0, .int 0, .null, .int 0, .null, .int 0, .null, .null, .int 0, .null, .int 0, .int 0, .int 0, .null, .null, .int 0, .null, .int 0, .null, .null, .null, .null, .null, .null, .int 0, .null, .null, .int 0, .int 0, .int 0, .int 0, .int 0, .int 0, .int 0, .int 0]
theorem kL_16 : pcl RL 16 11 35 zL_16 := ⟨_, _, tyX11, rfl, i_X11, lw_mem (tb4 (List.mem_of_getElem? (i := 193) rfl)) rfl, lw_mem (tb4 (List.mem_of_getElem? (i := 194) rfl)) rfl, lw_mem (tb1 (List.mem_of_getElem? (i := 13) rfl)) rfl, tyX11_ok, fun σ base j hj => by
  match j, hj with
  | 0, _ => rfl
  | 1, _ => rfl
  | 2, _ => rfl
  | 3, _ => rfl
  | 4, _ => rfl
  | 5, _ => rfl
  | 6, _ => rfl
  | 7, _ => rfl
  | 8, _ => rfl
  | 9, _ => rfl
  | 10, _ => rfl
  | 11, _ => rfl
  | 12, _ => rfl
  | 13, _ => rfl
  | 14, _ => rfl
  | 15, _ => rfl
  | 16, _ => rfl
  | 17, _ => rfl
  | 18, _ => rfl
  | 19, _ => rfl
  | 20, _ => rfl
  | 21, _ => rfl
  | 22, _ => rfl
  | 23, _ => rfl
  | 24, _ => rfl
  | 25, _ => rfl
  | 26, _ => rfl
  | 27, _ => rfl
  | 28, _ => rfl
  | 29, _ => rfl
  | 30, _ => rfl
  | 31, _ => rfl
  | 32, _ => rfl
  | 33, _ => rfl
  | 34, _ => rfl
  | j + 35, hj => omega⟩
