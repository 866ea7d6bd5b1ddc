/-! the words that link fields, methods, constants: by their places in the tables; what each method and class is -/
theorem tb_1 {w : Cond} (h : w ∈ tables_1_1) : w ∈ lw_tbl := List.mem_append_right _ (List.mem_append_left _ h)
theorem tb_2 {w : Cond} (h : w ∈ tables_1_2) : w ∈ lw_tbl := List.mem_append_right _ (List.mem_append_right _ (List.mem_append_left _ h))
theorem tb_3 {w : Cond} (h : w ∈ tables_1_3) : w ∈ lw_tbl := List.mem_append_right _ (List.mem_append_right _ (List.mem_append_right _ (List.mem_append_left _ h)))
theorem tb_4 {w : Cond} (h : w ∈ tables_1_4) : w ∈ lw_tbl := List.mem_append_right _ (List.mem_append_right _ (List.mem_append_right _ (List.mem_append_right _ (List.mem_append_left _ h))))
theorem tb_5 {w : Cond} (h : w ∈ tables_1_5) : w ∈ lw_tbl := List.mem_append_right _ (List.mem_append_right _ (List.mem_append_right _ (List.mem_append_right _ (List.mem_append_right _ (List.mem_append_left _ h)))))
theorem tb_6 {w : Cond} (h : w ∈ tables_1_6) : w ∈ lw_tbl := List.mem_append_right _ (List.mem_append_right _ (List.mem_append_right _ (List.mem_append_right _ (List.mem_append_right _ (List.mem_append_right _ (List.mem_append_left _ h))))))
theorem tb_7 {w : Cond} (h : w ∈ tables_1_7) : w ∈ lw_tbl := List.mem_append_right _ (List.mem_append_right _ (List.mem_append_right _ (List.mem_append_right _ (List.mem_append_right _ (List.mem_append_right _ (List.mem_append_right _ (List.mem_append_left _ h)))))))
theorem tb_8 {w : Cond} (h : w ∈ tables_1_8) : w ∈ lw_tbl := List.mem_append_right _ (List.mem_append_right _ (List.mem_append_right _ (List.mem_append_right _ (List.mem_append_right _ (List.mem_append_right _ (List.mem_append_right _ (List.mem_append_right _ (h))))))))
theorem lpk_1 {q : MethodName × Nat} (h : q ∈ lw_privs_1) : Cond.selects q.1.cls q.1 q.1 ∈ lw_tbl := List.mem_append_left _ (List.mem_map.mpr ⟨q, List.mem_append_left _ h, rfl⟩)
theorem lpk_2 {q : MethodName × Nat} (h : q ∈ lw_privs_2) : Cond.selects q.1.cls q.1 q.1 ∈ lw_tbl := List.mem_append_left _ (List.mem_map.mpr ⟨q, List.mem_append_right _ (List.mem_append_left _ h), rfl⟩)
theorem lpk_3 {q : MethodName × Nat} (h : q ∈ lw_privs_3) : Cond.selects q.1.cls q.1 q.1 ∈ lw_tbl := List.mem_append_left _ (List.mem_map.mpr ⟨q, List.mem_append_right _ (List.mem_append_right _ (List.mem_append_left _ h)), rfl⟩)
theorem lpk_4 {q : MethodName × Nat} (h : q ∈ lw_privs_4) : Cond.selects q.1.cls q.1 q.1 ∈ lw_tbl := List.mem_append_left _ (List.mem_map.mpr ⟨q, List.mem_append_right _ (List.mem_append_right _ (List.mem_append_right _ (List.mem_append_left _ h))), rfl⟩)
theorem lpk_5 {q : MethodName × Nat} (h : q ∈ lw_privs_5) : Cond.selects q.1.cls q.1 q.1 ∈ lw_tbl := List.mem_append_left _ (List.mem_map.mpr ⟨q, List.mem_append_right _ (List.mem_append_right _ (List.mem_append_right _ (List.mem_append_right _ (List.mem_append_left _ h)))), rfl⟩)
theorem lpk_6 {q : MethodName × Nat} (h : q ∈ lw_privs_6) : Cond.selects q.1.cls q.1 q.1 ∈ lw_tbl := List.mem_append_left _ (List.mem_map.mpr ⟨q, List.mem_append_right _ (List.mem_append_right _ (List.mem_append_right _ (List.mem_append_right _ (List.mem_append_right _ (List.mem_append_left _ h))))), rfl⟩)
theorem lpk_7 {q : MethodName × Nat} (h : q ∈ lw_privs_7) : Cond.selects q.1.cls q.1 q.1 ∈ lw_tbl := List.mem_append_left _ (List.mem_map.mpr ⟨q, List.mem_append_right _ (List.mem_append_right _ (List.mem_append_right _ (List.mem_append_right _ (List.mem_append_right _ (List.mem_append_right _ (h)))))), rfl⟩)
theorem lay_0_0 : u_lay RX0 TX0 0 ∈ wsA := wsA_in (tb_2 (List.mem_of_getElem? (i := 58) rfl)) rfl
theorem lay_0_1 : u_lay RX0 TX0 1 ∈ wsA := wsA_in (tb_2 (List.mem_of_getElem? (i := 60) rfl)) rfl
theorem lay_0_2 : u_lay RX0 TX0 2 ∈ wsA := wsA_in (tb_2 (List.mem_of_getElem? (i := 62) rfl)) rfl
theorem lay_0_3 : u_lay RX0 TX0 3 ∈ wsA := wsA_in (tb_2 (List.mem_of_getElem? (i := 64) rfl)) rfl
theorem lay_0_4 : u_lay RX0 TX0 4 ∈ wsA := wsA_in (tb_2 (List.mem_of_getElem? (i := 66) rfl)) rfl
theorem lay_0_5 : u_lay RX0 TX0 5 ∈ wsA := wsA_in (tb_2 (List.mem_of_getElem? (i := 68) rfl)) rfl
theorem pcw0 : ∀ w ∈ u_ws RX0 TX0 6, w ∈ wsA := by
  intro w hw
  obtain ⟨k, hk, rfl⟩ := List.mem_map.mp hw
  have hk := List.mem_range.mp hk
  match k, hk with
  | 0, _ => exact lay_0_0
  | 1, _ => exact lay_0_1
  | 2, _ => exact lay_0_2
  | 3, _ => exact lay_0_3
  | 4, _ => exact lay_0_4
  | 5, _ => exact lay_0_5
  | k + 6, h => exact absurd h (by omega)
theorem pc0 : pCls 0 RX0 TX0 6 tyX0 := ⟨rfl, rfl, pcw0, tyX0_ok, nmX0, by decide +kernel, by decide⟩
theorem pv0 : ∀ j, j < 6 → defaultValue (tyX0 j) = pdv ((pFt 0).getD j (0, 0, 0)).1 := by decide +kernel
theorem lay_1_0 : u_lay RX1 TX1 0 ∈ wsA := wsA_in (tb_2 (List.mem_of_getElem? (i := 96) rfl)) rfl
theorem lay_1_1 : u_lay RX1 TX1 1 ∈ wsA := wsA_in (tb_2 (List.mem_of_getElem? (i := 98) rfl)) rfl
theorem lay_1_2 : u_lay RX1 TX1 2 ∈ wsA := wsA_in (tb_2 (List.mem_of_getElem? (i := 100) rfl)) rfl
theorem lay_1_3 : u_lay RX1 TX1 3 ∈ wsA := wsA_in (tb_2 (List.mem_of_getElem? (i := 102) rfl)) rfl
theorem lay_1_4 : u_lay RX1 TX1 4 ∈ wsA := wsA_in (tb_2 (List.mem_of_getElem? (i := 104) rfl)) rfl
theorem lay_1_5 : u_lay RX1 TX1 5 ∈ wsA := wsA_in (tb_2 (List.mem_of_getElem? (i := 106) rfl)) rfl
theorem lay_1_6 : u_lay RX1 TX1 6 ∈ wsA := wsA_in (tb_2 (List.mem_of_getElem? (i := 108) rfl)) rfl
theorem lay_1_7 : u_lay RX1 TX1 7 ∈ wsA := wsA_in (tb_2 (List.mem_of_getElem? (i := 110) rfl)) rfl
theorem lay_1_8 : u_lay RX1 TX1 8 ∈ wsA := wsA_in (tb_2 (List.mem_of_getElem? (i := 112) rfl)) rfl
theorem lay_1_9 : u_lay RX1 TX1 9 ∈ wsA := wsA_in (tb_2 (List.mem_of_getElem? (i := 114) rfl)) rfl
theorem lay_1_10 : u_lay RX1 TX1 10 ∈ wsA := wsA_in (tb_2 (List.mem_of_getElem? (i := 116) rfl)) rfl
theorem lay_1_11 : u_lay RX1 TX1 11 ∈ wsA := wsA_in (tb_2 (List.mem_of_getElem? (i := 118) rfl)) rfl
theorem lay_1_12 : u_lay RX1 TX1 12 ∈ wsA := wsA_in (tb_2 (List.mem_of_getElem? (i := 120) rfl)) rfl
theorem pcw1 : ∀ w ∈ u_ws RX1 TX1 13, w ∈ wsA := by
  intro w hw
  obtain ⟨k, hk, rfl⟩ := List.mem_map.mp hw
  have hk := List.mem_range.mp hk
  match k, hk with
  | 0, _ => exact lay_1_0
  | 1, _ => exact lay_1_1
  | 2, _ => exact lay_1_2
  | 3, _ => exact lay_1_3
  | 4, _ => exact lay_1_4
  | 5, _ => exact lay_1_5
  | 6, _ => exact lay_1_6
  | 7, _ => exact lay_1_7
  | 8, _ => exact lay_1_8
  | 9, _ => exact lay_1_9
  | 10, _ => exact lay_1_10
  | 11, _ => exact lay_1_11
  | 12, _ => exact lay_1_12
  | k + 13, h => exact absurd h (by omega)
theorem pc1 : pCls 1 RX1 TX1 13 tyX1 := ⟨rfl, rfl, pcw1, tyX1_ok, nmX1, by decide +kernel, by decide⟩
theorem pv1 : ∀ j, j < 13 → defaultValue (tyX1 j) = pdv ((pFt 1).getD j (0, 0, 0)).1 := by decide +kernel
theorem lay_2_0 : u_lay RX2 TX2 0 ∈ wsA := wsA_in (tb_1 (List.mem_of_getElem? (i := 164) rfl)) rfl
theorem lay_2_1 : u_lay RX2 TX2 1 ∈ wsA := wsA_in (tb_1 (List.mem_of_getElem? (i := 166) rfl)) rfl
theorem lay_2_2 : u_lay RX2 TX2 2 ∈ wsA := wsA_in (tb_1 (List.mem_of_getElem? (i := 168) rfl)) rfl
theorem lay_2_3 : u_lay RX2 TX2 3 ∈ wsA := wsA_in (tb_1 (List.mem_of_getElem? (i := 170) rfl)) rfl
theorem lay_2_4 : u_lay RX2 TX2 4 ∈ wsA := wsA_in (tb_1 (List.mem_of_getElem? (i := 172) rfl)) rfl
theorem lay_2_5 : u_lay RX2 TX2 5 ∈ wsA := wsA_in (tb_1 (List.mem_of_getElem? (i := 174) rfl)) rfl
theorem lay_2_6 : u_lay RX2 TX2 6 ∈ wsA := wsA_in (tb_1 (List.mem_of_getElem? (i := 176) rfl)) rfl
theorem lay_2_7 : u_lay RX2 TX2 7 ∈ wsA := wsA_in (tb_1 (List.mem_of_getElem? (i := 178) rfl)) rfl
theorem lay_2_8 : u_lay RX2 TX2 8 ∈ wsA := wsA_in (tb_1 (List.mem_of_getElem? (i := 180) rfl)) rfl
theorem pcw2 : ∀ w ∈ u_ws RX2 TX2 9, w ∈ wsA := by
  intro w hw
  obtain ⟨k, hk, rfl⟩ := List.mem_map.mp hw
  have hk := List.mem_range.mp hk
  match k, hk with
  | 0, _ => exact lay_2_0
  | 1, _ => exact lay_2_1
  | 2, _ => exact lay_2_2
  | 3, _ => exact lay_2_3
  | 4, _ => exact lay_2_4
  | 5, _ => exact lay_2_5
  | 6, _ => exact lay_2_6
  | 7, _ => exact lay_2_7
  | 8, _ => exact lay_2_8
  | k + 9, h => exact absurd h (by omega)
theorem pc2 : pCls 2 RX2 TX2 9 tyX2 := ⟨rfl, rfl, pcw2, tyX2_ok, nmX2, by decide +kernel, by decide⟩
theorem pv2 : ∀ j, j < 9 → defaultValue (tyX2 j) = pdv ((pFt 2).getD j (0, 0, 0)).1 := by decide +kernel
theorem lay_3_0 : u_lay RX3 TX3 0 ∈ wsA := wsA_in (tb_2 (List.mem_of_getElem? (i := 5) rfl)) rfl
theorem lay_3_1 : u_lay RX3 TX3 1 ∈ wsA := wsA_in (tb_2 (List.mem_of_getElem? (i := 7) rfl)) rfl
theorem lay_3_2 : u_lay RX3 TX3 2 ∈ wsA := wsA_in (tb_2 (List.mem_of_getElem? (i := 9) rfl)) rfl
theorem lay_3_3 : u_lay RX3 TX3 3 ∈ wsA := wsA_in (tb_2 (List.mem_of_getElem? (i := 11) rfl)) rfl
theorem lay_3_4 : u_lay RX3 TX3 4 ∈ wsA := wsA_in (tb_2 (List.mem_of_getElem? (i := 13) rfl)) rfl
theorem lay_3_5 : u_lay RX3 TX3 5 ∈ wsA := wsA_in (tb_2 (List.mem_of_getElem? (i := 15) rfl)) rfl
theorem lay_3_6 : u_lay RX3 TX3 6 ∈ wsA := wsA_in (tb_2 (List.mem_of_getElem? (i := 17) rfl)) rfl
theorem pcw3 : ∀ w ∈ u_ws RX3 TX3 7, w ∈ wsA := by
  intro w hw
  obtain ⟨k, hk, rfl⟩ := List.mem_map.mp hw
  have hk := List.mem_range.mp hk
  match k, hk with
  | 0, _ => exact lay_3_0
  | 1, _ => exact lay_3_1
  | 2, _ => exact lay_3_2
  | 3, _ => exact lay_3_3
  | 4, _ => exact lay_3_4
  | 5, _ => exact lay_3_5
  | 6, _ => exact lay_3_6
  | k + 7, h => exact absurd h (by omega)
theorem pc3 : pCls 3 RX3 TX3 7 tyX3 := ⟨rfl, rfl, pcw3, tyX3_ok, nmX3, by decide +kernel, by decide⟩
theorem pv3 : ∀ j, j < 7 → defaultValue (tyX3 j) = pdv ((pFt 3).getD j (0, 0, 0)).1 := by decide +kernel
theorem lay_4_0 : u_lay RX4 TX4 0 ∈ wsA := wsA_in (tb_2 (List.mem_of_getElem? (i := 29) rfl)) rfl
theorem lay_4_1 : u_lay RX4 TX4 1 ∈ wsA := wsA_in (tb_2 (List.mem_of_getElem? (i := 31) rfl)) rfl
theorem lay_4_2 : u_lay RX4 TX4 2 ∈ wsA := wsA_in (tb_2 (List.mem_of_getElem? (i := 33) rfl)) rfl
theorem pcw4 : ∀ w ∈ u_ws RX4 TX4 3, w ∈ wsA := by
  intro w hw
  obtain ⟨k, hk, rfl⟩ := List.mem_map.mp hw
  have hk := List.mem_range.mp hk
  match k, hk with
  | 0, _ => exact lay_4_0
  | 1, _ => exact lay_4_1
  | 2, _ => exact lay_4_2
  | k + 3, h => exact absurd h (by omega)
theorem pc4 : pCls 4 RX4 TX4 3 tyX4 := ⟨rfl, rfl, pcw4, tyX4_ok, nmX4, by decide +kernel, by decide⟩
theorem pv4 : ∀ j, j < 3 → defaultValue (tyX4 j) = pdv ((pFt 4).getD j (0, 0, 0)).1 := by decide +kernel
theorem lay_5_0 : u_lay RX5 TX5 0 ∈ wsA := wsA_in (tb_4 (List.mem_of_getElem? (i := 209) rfl)) rfl
theorem lay_5_1 : u_lay RX5 TX5 1 ∈ wsA := wsA_in (tb_4 (List.mem_of_getElem? (i := 211) rfl)) rfl
theorem lay_5_2 : u_lay RX5 TX5 2 ∈ wsA := wsA_in (tb_4 (List.mem_of_getElem? (i := 213) rfl)) rfl
theorem lay_5_3 : u_lay RX5 TX5 3 ∈ wsA := wsA_in (tb_4 (List.mem_of_getElem? (i := 215) rfl)) rfl
theorem lay_5_4 : u_lay RX5 TX5 4 ∈ wsA := wsA_in (tb_4 (List.mem_of_getElem? (i := 217) rfl)) rfl
theorem lay_5_5 : u_lay RX5 TX5 5 ∈ wsA := wsA_in (tb_4 (List.mem_of_getElem? (i := 219) rfl)) rfl
theorem lay_5_6 : u_lay RX5 TX5 6 ∈ wsA := wsA_in (tb_4 (List.mem_of_getElem? (i := 221) rfl)) rfl
theorem lay_5_7 : u_lay RX5 TX5 7 ∈ wsA := wsA_in (tb_4 (List.mem_of_getElem? (i := 223) rfl)) rfl
theorem lay_5_8 : u_lay RX5 TX5 8 ∈ wsA := wsA_in (tb_4 (List.mem_of_getElem? (i := 225) rfl)) rfl
theorem pcw5 : ∀ w ∈ u_ws RX5 TX5 9, w ∈ wsA := by
  intro w hw
  obtain ⟨k, hk, rfl⟩ := List.mem_map.mp hw
  have hk := List.mem_range.mp hk
  match k, hk with
  | 0, _ => exact lay_5_0
  | 1, _ => exact lay_5_1
  | 2, _ => exact lay_5_2
  | 3, _ => exact lay_5_3
  | 4, _ => exact lay_5_4
  | 5, _ => exact lay_5_5
  | 6, _ => exact lay_5_6
  | 7, _ => exact lay_5_7
  | 8, _ => exact lay_5_8
  | k + 9, h => exact absurd h (by omega)
theorem pc5 : pCls 5 RX5 TX5 9 tyX5 := ⟨rfl, rfl, pcw5, tyX5_ok, nmX5, by decide +kernel, by decide⟩
theorem pv5 : ∀ j, j < 9 → defaultValue (tyX5 j) = pdv ((pFt 5).getD j (0, 0, 0)).1 := by decide +kernel
theorem lay_6_0 : u_lay RX6 TX6 0 ∈ wsA := wsA_in (tb_1 (List.mem_of_getElem? (i := 113) rfl)) rfl
theorem lay_6_1 : u_lay RX6 TX6 1 ∈ wsA := wsA_in (tb_1 (List.mem_of_getElem? (i := 115) rfl)) rfl
theorem lay_6_2 : u_lay RX6 TX6 2 ∈ wsA := wsA_in (tb_1 (List.mem_of_getElem? (i := 117) rfl)) rfl
theorem lay_6_3 : u_lay RX6 TX6 3 ∈ wsA := wsA_in (tb_1 (List.mem_of_getElem? (i := 119) rfl)) rfl
theorem lay_6_4 : u_lay RX6 TX6 4 ∈ wsA := wsA_in (tb_1 (List.mem_of_getElem? (i := 121) rfl)) rfl
theorem lay_6_5 : u_lay RX6 TX6 5 ∈ wsA := wsA_in (tb_1 (List.mem_of_getElem? (i := 123) rfl)) rfl
theorem lay_6_6 : u_lay RX6 TX6 6 ∈ wsA := wsA_in (tb_1 (List.mem_of_getElem? (i := 125) rfl)) rfl
theorem lay_6_7 : u_lay RX6 TX6 7 ∈ wsA := wsA_in (tb_1 (List.mem_of_getElem? (i := 127) rfl)) rfl
theorem lay_6_8 : u_lay RX6 TX6 8 ∈ wsA := wsA_in (tb_1 (List.mem_of_getElem? (i := 129) rfl)) rfl
theorem lay_6_9 : u_lay RX6 TX6 9 ∈ wsA := wsA_in (tb_1 (List.mem_of_getElem? (i := 131) rfl)) rfl
theorem lay_6_10 : u_lay RX6 TX6 10 ∈ wsA := wsA_in (tb_1 (List.mem_of_getElem? (i := 133) rfl)) rfl
theorem lay_6_11 : u_lay RX6 TX6 11 ∈ wsA := wsA_in (tb_1 (List.mem_of_getElem? (i := 135) rfl)) rfl
theorem lay_6_12 : u_lay RX6 TX6 12 ∈ wsA := wsA_in (tb_1 (List.mem_of_getElem? (i := 137) rfl)) rfl
theorem lay_6_13 : u_lay RX6 TX6 13 ∈ wsA := wsA_in (tb_1 (List.mem_of_getElem? (i := 139) rfl)) rfl
theorem lay_6_14 : u_lay RX6 TX6 14 ∈ wsA := wsA_in (tb_1 (List.mem_of_getElem? (i := 141) rfl)) rfl
theorem pcw6 : ∀ w ∈ u_ws RX6 TX6 15, w ∈ wsA := by
  intro w hw
  obtain ⟨k, hk, rfl⟩ := List.mem_map.mp hw
  have hk := List.mem_range.mp hk
  match k, hk with
  | 0, _ => exact lay_6_0
  | 1, _ => exact lay_6_1
  | 2, _ => exact lay_6_2
  | 3, _ => exact lay_6_3
  | 4, _ => exact lay_6_4
  | 5, _ => exact lay_6_5
  | 6, _ => exact lay_6_6
  | 7, _ => exact lay_6_7
  | 8, _ => exact lay_6_8
  | 9, _ => exact lay_6_9
  | 10, _ => exact lay_6_10
  | 11, _ => exact lay_6_11
  | 12, _ => exact lay_6_12
  | 13, _ => exact lay_6_13
  | 14, _ => exact lay_6_14
  | k + 15, h => exact absurd h (by omega)
theorem pc6 : pCls 6 RX6 TX6 15 tyX6 := ⟨rfl, rfl, pcw6, tyX6_ok, nmX6, by decide +kernel, by decide⟩
theorem pv6 : ∀ j, j < 15 → defaultValue (tyX6 j) = pdv ((pFt 6).getD j (0, 0, 0)).1 := by decide +kernel
theorem lay_7_0 : u_lay RX7 TX7 0 ∈ wsA := wsA_in (tb_2 (List.mem_of_getElem? (i := 164) rfl)) rfl
theorem lay_7_1 : u_lay RX7 TX7 1 ∈ wsA := wsA_in (tb_2 (List.mem_of_getElem? (i := 166) rfl)) rfl
theorem lay_7_2 : u_lay RX7 TX7 2 ∈ wsA := wsA_in (tb_2 (List.mem_of_getElem? (i := 168) rfl)) rfl
theorem lay_7_3 : u_lay RX7 TX7 3 ∈ wsA := wsA_in (tb_2 (List.mem_of_getElem? (i := 170) rfl)) rfl
theorem lay_7_4 : u_lay RX7 TX7 4 ∈ wsA := wsA_in (tb_2 (List.mem_of_getElem? (i := 172) rfl)) rfl
theorem lay_7_5 : u_lay RX7 TX7 5 ∈ wsA := wsA_in (tb_2 (List.mem_of_getElem? (i := 174) rfl)) rfl
theorem lay_7_6 : u_lay RX7 TX7 6 ∈ wsA := wsA_in (tb_2 (List.mem_of_getElem? (i := 176) rfl)) rfl
theorem lay_7_7 : u_lay RX7 TX7 7 ∈ wsA := wsA_in (tb_2 (List.mem_of_getElem? (i := 178) rfl)) rfl
theorem lay_7_8 : u_lay RX7 TX7 8 ∈ wsA := wsA_in (tb_2 (List.mem_of_getElem? (i := 180) rfl)) rfl
theorem pcw7 : ∀ w ∈ u_ws RX7 TX7 9, w ∈ wsA := by
  intro w hw
  obtain ⟨k, hk, rfl⟩ := List.mem_map.mp hw
  have hk := List.mem_range.mp hk
  match k, hk with
  | 0, _ => exact lay_7_0
  | 1, _ => exact lay_7_1
  | 2, _ => exact lay_7_2
  | 3, _ => exact lay_7_3
  | 4, _ => exact lay_7_4
  | 5, _ => exact lay_7_5
  | 6, _ => exact lay_7_6
  | 7, _ => exact lay_7_7
  | 8, _ => exact lay_7_8
  | k + 9, h => exact absurd h (by omega)
theorem pc7 : pCls 7 RX7 TX7 9 tyX7 := ⟨rfl, rfl, pcw7, tyX7_ok, nmX7, by decide +kernel, by decide⟩
theorem pv7 : ∀ j, j < 9 → defaultValue (tyX7 j) = pdv ((pFt 7).getD j (0, 0, 0)).1 := by decide +kernel
theorem lay_8_0 : u_lay RX8 TX8 0 ∈ wsA := wsA_in (tb_1 (List.mem_of_getElem? (i := 205) rfl)) rfl
theorem lay_8_1 : u_lay RX8 TX8 1 ∈ wsA := wsA_in (tb_1 (List.mem_of_getElem? (i := 207) rfl)) rfl
theorem lay_8_2 : u_lay RX8 TX8 2 ∈ wsA := wsA_in (tb_1 (List.mem_of_getElem? (i := 209) rfl)) rfl
theorem lay_8_3 : u_lay RX8 TX8 3 ∈ wsA := wsA_in (tb_1 (List.mem_of_getElem? (i := 211) rfl)) rfl
theorem lay_8_4 : u_lay RX8 TX8 4 ∈ wsA := wsA_in (tb_1 (List.mem_of_getElem? (i := 213) rfl)) rfl
theorem lay_8_5 : u_lay RX8 TX8 5 ∈ wsA := wsA_in (tb_1 (List.mem_of_getElem? (i := 215) rfl)) rfl
theorem pcw8 : ∀ w ∈ u_ws RX8 TX8 6, w ∈ wsA := by
  intro w hw
  obtain ⟨k, hk, rfl⟩ := List.mem_map.mp hw
  have hk := List.mem_range.mp hk
  match k, hk with
  | 0, _ => exact lay_8_0
  | 1, _ => exact lay_8_1
  | 2, _ => exact lay_8_2
  | 3, _ => exact lay_8_3
  | 4, _ => exact lay_8_4
  | 5, _ => exact lay_8_5
  | k + 6, h => exact absurd h (by omega)
theorem pc8 : pCls 8 RX8 TX8 6 tyX8 := ⟨rfl, rfl, pcw8, tyX8_ok, nmX8, by decide +kernel, by decide⟩
theorem pv8 : ∀ j, j < 6 → defaultValue (tyX8 j) = pdv ((pFt 8).getD j (0, 0, 0)).1 := by decide +kernel
theorem lay_9_0 : u_lay RX9 TX9 0 ∈ wsA := wsA_in (tb_1 (List.mem_of_getElem? (i := 44) rfl)) rfl
theorem lay_9_1 : u_lay RX9 TX9 1 ∈ wsA := wsA_in (tb_1 (List.mem_of_getElem? (i := 46) rfl)) rfl
theorem lay_9_2 : u_lay RX9 TX9 2 ∈ wsA := wsA_in (tb_1 (List.mem_of_getElem? (i := 48) rfl)) rfl
theorem lay_9_3 : u_lay RX9 TX9 3 ∈ wsA := wsA_in (tb_1 (List.mem_of_getElem? (i := 50) rfl)) rfl
theorem lay_9_4 : u_lay RX9 TX9 4 ∈ wsA := wsA_in (tb_1 (List.mem_of_getElem? (i := 52) rfl)) rfl
theorem lay_9_5 : u_lay RX9 TX9 5 ∈ wsA := wsA_in (tb_1 (List.mem_of_getElem? (i := 54) rfl)) rfl
theorem lay_9_6 : u_lay RX9 TX9 6 ∈ wsA := wsA_in (tb_1 (List.mem_of_getElem? (i := 56) rfl)) rfl
theorem pcw9 : ∀ w ∈ u_ws RX9 TX9 7, w ∈ wsA := by
  intro w hw
  obtain ⟨k, hk, rfl⟩ := List.mem_map.mp hw
  have hk := List.mem_range.mp hk
  match k, hk with
  | 0, _ => exact lay_9_0
  | 1, _ => exact lay_9_1
  | 2, _ => exact lay_9_2
  | 3, _ => exact lay_9_3
  | 4, _ => exact lay_9_4
  | 5, _ => exact lay_9_5
  | 6, _ => exact lay_9_6
  | k + 7, h => exact absurd h (by omega)
theorem pc9 : pCls 9 RX9 TX9 7 tyX9 := ⟨rfl, rfl, pcw9, tyX9_ok, nmX9, by decide +kernel, by decide⟩
theorem pv9 : ∀ j, j < 7 → defaultValue (tyX9 j) = pdv ((pFt 9).getD j (0, 0, 0)).1 := by decide +kernel
theorem lay_10_0 : u_lay RX10 TX10 0 ∈ wsA := wsA_in (tb_2 (List.mem_of_getElem? (i := 201) rfl)) rfl
theorem lay_10_1 : u_lay RX10 TX10 1 ∈ wsA := wsA_in (tb_2 (List.mem_of_getElem? (i := 203) rfl)) rfl
theorem lay_10_2 : u_lay RX10 TX10 2 ∈ wsA := wsA_in (tb_2 (List.mem_of_getElem? (i := 205) rfl)) rfl
theorem lay_10_3 : u_lay RX10 TX10 3 ∈ wsA := wsA_in (tb_2 (List.mem_of_getElem? (i := 207) rfl)) rfl
theorem lay_10_4 : u_lay RX10 TX10 4 ∈ wsA := wsA_in (tb_2 (List.mem_of_getElem? (i := 209) rfl)) rfl
theorem lay_10_5 : u_lay RX10 TX10 5 ∈ wsA := wsA_in (tb_2 (List.mem_of_getElem? (i := 211) rfl)) rfl
theorem lay_10_6 : u_lay RX10 TX10 6 ∈ wsA := wsA_in (tb_2 (List.mem_of_getElem? (i := 213) rfl)) rfl
theorem lay_10_7 : u_lay RX10 TX10 7 ∈ wsA := wsA_in (tb_2 (List.mem_of_getElem? (i := 215) rfl)) rfl
theorem lay_10_8 : u_lay RX10 TX10 8 ∈ wsA := wsA_in (tb_2 (List.mem_of_getElem? (i := 217) rfl)) rfl
theorem lay_10_9 : u_lay RX10 TX10 9 ∈ wsA := wsA_in (tb_2 (List.mem_of_getElem? (i := 219) rfl)) rfl
theorem lay_10_10 : u_lay RX10 TX10 10 ∈ wsA := wsA_in (tb_2 (List.mem_of_getElem? (i := 221) rfl)) rfl
theorem lay_10_11 : u_lay RX10 TX10 11 ∈ wsA := wsA_in (tb_2 (List.mem_of_getElem? (i := 223) rfl)) rfl
theorem lay_10_12 : u_lay RX10 TX10 12 ∈ wsA := wsA_in (tb_2 (List.mem_of_getElem? (i := 225) rfl)) rfl
theorem lay_10_13 : u_lay RX10 TX10 13 ∈ wsA := wsA_in (tb_2 (List.mem_of_getElem? (i := 227) rfl)) rfl
theorem lay_10_14 : u_lay RX10 TX10 14 ∈ wsA := wsA_in (tb_2 (List.mem_of_getElem? (i := 229) rfl)) rfl
theorem lay_10_15 : u_lay RX10 TX10 15 ∈ wsA := wsA_in (tb_2 (List.mem_of_getElem? (i := 231) rfl)) rfl
theorem lay_10_16 : u_lay RX10 TX10 16 ∈ wsA := wsA_in (tb_2 (List.mem_of_getElem? (i := 233) rfl)) rfl
theorem lay_10_17 : u_lay RX10 TX10 17 ∈ wsA := wsA_in (tb_2 (List.mem_of_getElem? (i := 235) rfl)) rfl
theorem pcw10 : ∀ w ∈ u_ws RX10 TX10 18, w ∈ wsA := by
  intro w hw
  obtain ⟨k, hk, rfl⟩ := List.mem_map.mp hw
  have hk := List.mem_range.mp hk
  match k, hk with
  | 0, _ => exact lay_10_0
  | 1, _ => exact lay_10_1
  | 2, _ => exact lay_10_2
  | 3, _ => exact lay_10_3
  | 4, _ => exact lay_10_4
  | 5, _ => exact lay_10_5
  | 6, _ => exact lay_10_6
  | 7, _ => exact lay_10_7
  | 8, _ => exact lay_10_8
  | 9, _ => exact lay_10_9
  | 10, _ => exact lay_10_10
  | 11, _ => exact lay_10_11
  | 12, _ => exact lay_10_12
  | 13, _ => exact lay_10_13
  | 14, _ => exact lay_10_14
  | 15, _ => exact lay_10_15
  | 16, _ => exact lay_10_16
  | 17, _ => exact lay_10_17
  | k + 18, h => exact absurd h (by omega)
theorem pc10 : pCls 10 RX10 TX10 18 tyX10 := ⟨rfl, rfl, pcw10, tyX10_ok, nmX10, by decide +kernel, by decide⟩
theorem pv10 : ∀ j, j < 18 → defaultValue (tyX10 j) = pdv ((pFt 10).getD j (0, 0, 0)).1 := by decide +kernel
theorem lay_11_0 : u_lay RX11 TX11 0 ∈ wsA := wsA_in (tb_6 (List.mem_of_getElem? (i := 55) rfl)) rfl
theorem lay_11_1 : u_lay RX11 TX11 1 ∈ wsA := wsA_in (tb_6 (List.mem_of_getElem? (i := 57) rfl)) rfl
theorem lay_11_2 : u_lay RX11 TX11 2 ∈ wsA := wsA_in (tb_6 (List.mem_of_getElem? (i := 59) rfl)) rfl
theorem lay_11_3 : u_lay RX11 TX11 3 ∈ wsA := wsA_in (tb_6 (List.mem_of_getElem? (i := 61) rfl)) rfl
theorem lay_11_4 : u_lay RX11 TX11 4 ∈ wsA := wsA_in (tb_6 (List.mem_of_getElem? (i := 63) rfl)) rfl
theorem lay_11_5 : u_lay RX11 TX11 5 ∈ wsA := wsA_in (tb_6 (List.mem_of_getElem? (i := 65) rfl)) rfl
theorem lay_11_6 : u_lay RX11 TX11 6 ∈ wsA := wsA_in (tb_6 (List.mem_of_getElem? (i := 67) rfl)) rfl
theorem lay_11_7 : u_lay RX11 TX11 7 ∈ wsA := wsA_in (tb_6 (List.mem_of_getElem? (i := 69) rfl)) rfl
theorem lay_11_8 : u_lay RX11 TX11 8 ∈ wsA := wsA_in (tb_6 (List.mem_of_getElem? (i := 71) rfl)) rfl
theorem lay_11_9 : u_lay RX11 TX11 9 ∈ wsA := wsA_in (tb_6 (List.mem_of_getElem? (i := 73) rfl)) rfl
theorem lay_11_10 : u_lay RX11 TX11 10 ∈ wsA := wsA_in (tb_6 (List.mem_of_getElem? (i := 75) rfl)) rfl
theorem lay_11_11 : u_lay RX11 TX11 11 ∈ wsA := wsA_in (tb_6 (List.mem_of_getElem? (i := 77) rfl)) rfl
theorem lay_11_12 : u_lay RX11 TX11 12 ∈ wsA := wsA_in (tb_6 (List.mem_of_getElem? (i := 79) rfl)) rfl
theorem lay_11_13 : u_lay RX11 TX11 13 ∈ wsA := wsA_in (tb_6 (List.mem_of_getElem? (i := 81) rfl)) rfl
theorem lay_11_14 : u_lay RX11 TX11 14 ∈ wsA := wsA_in (tb_6 (List.mem_of_getElem? (i := 83) rfl)) rfl
theorem lay_11_15 : u_lay RX11 TX11 15 ∈ wsA := wsA_in (tb_6 (List.mem_of_getElem? (i := 85) rfl)) rfl
theorem lay_11_16 : u_lay RX11 TX11 16 ∈ wsA := wsA_in (tb_6 (List.mem_of_getElem? (i := 87) rfl)) rfl
theorem lay_11_17 : u_lay RX11 TX11 17 ∈ wsA := wsA_in (tb_6 (List.mem_of_getElem? (i := 89) rfl)) rfl
theorem lay_11_18 : u_lay RX11 TX11 18 ∈ wsA := wsA_in (tb_6 (List.mem_of_getElem? (i := 91) rfl)) rfl
theorem lay_11_19 : u_lay RX11 TX11 19 ∈ wsA := wsA_in (tb_6 (List.mem_of_getElem? (i := 93) rfl)) rfl
theorem lay_11_20 : u_lay RX11 TX11 20 ∈ wsA := wsA_in (tb_6 (List.mem_of_getElem? (i := 95) rfl)) rfl
theorem lay_11_21 : u_lay RX11 TX11 21 ∈ wsA := wsA_in (tb_6 (List.mem_of_getElem? (i := 97) rfl)) rfl
theorem lay_11_22 : u_lay RX11 TX11 22 ∈ wsA := wsA_in (tb_6 (List.mem_of_getElem? (i := 99) rfl)) rfl
theorem lay_11_23 : u_lay RX11 TX11 23 ∈ wsA := wsA_in (tb_6 (List.mem_of_getElem? (i := 101) rfl)) rfl
theorem lay_11_24 : u_lay RX11 TX11 24 ∈ wsA := wsA_in (tb_6 (List.mem_of_getElem? (i := 103) rfl)) rfl
theorem lay_11_25 : u_lay RX11 TX11 25 ∈ wsA := wsA_in (tb_6 (List.mem_of_getElem? (i := 105) rfl)) rfl
theorem lay_11_26 : u_lay RX11 TX11 26 ∈ wsA := wsA_in (tb_6 (List.mem_of_getElem? (i := 107) rfl)) rfl
theorem lay_11_27 : u_lay RX11 TX11 27 ∈ wsA := wsA_in (tb_6 (List.mem_of_getElem? (i := 109) rfl)) rfl
theorem lay_11_28 : u_lay RX11 TX11 28 ∈ wsA := wsA_in (tb_6 (List.mem_of_getElem? (i := 111) rfl)) rfl
theorem lay_11_29 : u_lay RX11 TX11 29 ∈ wsA := wsA_in (tb_6 (List.mem_of_getElem? (i := 113) rfl)) rfl
theorem lay_11_30 : u_lay RX11 TX11 30 ∈ wsA := wsA_in (tb_6 (List.mem_of_getElem? (i := 115) rfl)) rfl
theorem lay_11_31 : u_lay RX11 TX11 31 ∈ wsA := wsA_in (tb_6 (List.mem_of_getElem? (i := 117) rfl)) rfl
theorem lay_11_32 : u_lay RX11 TX11 32 ∈ wsA := wsA_in (tb_6 (List.mem_of_getElem? (i := 119) rfl)) rfl
theorem lay_11_33 : u_lay RX11 TX11 33 ∈ wsA := wsA_in (tb_6 (List.mem_of_getElem? (i := 121) rfl)) rfl
theorem lay_11_34 : u_lay RX11 TX11 34 ∈ wsA := wsA_in (tb_6 (List.mem_of_getElem? (i := 123) rfl)) rfl
theorem lay_11_35 : u_lay RX11 TX11 35 ∈ wsA := wsA_in (tb_6 (List.mem_of_getElem? (i := 125) rfl)) rfl
theorem lay_11_36 : u_lay RX11 TX11 36 ∈ wsA := wsA_in (tb_6 (List.mem_of_getElem? (i := 127) rfl)) rfl
theorem lay_11_37 : u_lay RX11 TX11 37 ∈ wsA := wsA_in (tb_6 (List.mem_of_getElem? (i := 129) rfl)) rfl
theorem lay_11_38 : u_lay RX11 TX11 38 ∈ wsA := wsA_in (tb_6 (List.mem_of_getElem? (i := 131) rfl)) rfl
theorem lay_11_39 : u_lay RX11 TX11 39 ∈ wsA := wsA_in (tb_6 (List.mem_of_getElem? (i := 133) rfl)) rfl
theorem lay_11_40 : u_lay RX11 TX11 40 ∈ wsA := wsA_in (tb_6 (List.mem_of_getElem? (i := 135) rfl)) rfl
theorem lay_11_41 : u_lay RX11 TX11 41 ∈ wsA := wsA_in (tb_6 (List.mem_of_getElem? (i := 137) rfl)) rfl
theorem lay_11_42 : u_lay RX11 TX11 42 ∈ wsA := wsA_in (tb_6 (List.mem_of_getElem? (i := 139) rfl)) rfl
theorem lay_11_43 : u_lay RX11 TX11 43 ∈ wsA := wsA_in (tb_6 (List.mem_of_getElem? (i := 141) rfl)) rfl
theorem lay_11_44 : u_lay RX11 TX11 44 ∈ wsA := wsA_in (tb_6 (List.mem_of_getElem? (i := 143) rfl)) rfl
theorem lay_11_45 : u_lay RX11 TX11 45 ∈ wsA := wsA_in (tb_6 (List.mem_of_getElem? (i := 145) rfl)) rfl
theorem lay_11_46 : u_lay RX11 TX11 46 ∈ wsA := wsA_in (tb_6 (List.mem_of_getElem? (i := 147) rfl)) rfl
theorem lay_11_47 : u_lay RX11 TX11 47 ∈ wsA := wsA_in (tb_6 (List.mem_of_getElem? (i := 149) rfl)) rfl
theorem lay_11_48 : u_lay RX11 TX11 48 ∈ wsA := wsA_in (tb_6 (List.mem_of_getElem? (i := 151) rfl)) rfl
theorem lay_11_49 : u_lay RX11 TX11 49 ∈ wsA := wsA_in (tb_6 (List.mem_of_getElem? (i := 153) rfl)) rfl
theorem lay_11_50 : u_lay RX11 TX11 50 ∈ wsA := wsA_in (tb_6 (List.mem_of_getElem? (i := 155) rfl)) rfl
theorem lay_11_51 : u_lay RX11 TX11 51 ∈ wsA := wsA_in (tb_6 (List.mem_of_getElem? (i := 157) rfl)) rfl
theorem lay_11_52 : u_lay RX11 TX11 52 ∈ wsA := wsA_in (tb_6 (List.mem_of_getElem? (i := 159) rfl)) rfl
theorem lay_11_53 : u_lay RX11 TX11 53 ∈ wsA := wsA_in (tb_6 (List.mem_of_getElem? (i := 161) rfl)) rfl
theorem lay_11_54 : u_lay RX11 TX11 54 ∈ wsA := wsA_in (tb_6 (List.mem_of_getElem? (i := 163) rfl)) rfl
theorem lay_11_55 : u_lay RX11 TX11 55 ∈ wsA := wsA_in (tb_6 (List.mem_of_getElem? (i := 165) rfl)) rfl
theorem lay_11_56 : u_lay RX11 TX11 56 ∈ wsA := wsA_in (tb_6 (List.mem_of_getElem? (i := 167) rfl)) rfl
theorem lay_11_57 : u_lay RX11 TX11 57 ∈ wsA := wsA_in (tb_6 (List.mem_of_getElem? (i := 169) rfl)) rfl
theorem lay_11_58 : u_lay RX11 TX11 58 ∈ wsA := wsA_in (tb_6 (List.mem_of_getElem? (i := 171) rfl)) rfl
theorem lay_11_59 : u_lay RX11 TX11 59 ∈ wsA := wsA_in (tb_6 (List.mem_of_getElem? (i := 173) rfl)) rfl
theorem lay_11_60 : u_lay RX11 TX11 60 ∈ wsA := wsA_in (tb_6 (List.mem_of_getElem? (i := 175) rfl)) rfl
theorem lay_11_61 : u_lay RX11 TX11 61 ∈ wsA := wsA_in (tb_6 (List.mem_of_getElem? (i := 177) rfl)) rfl
theorem lay_11_62 : u_lay RX11 TX11 62 ∈ wsA := wsA_in (tb_6 (List.mem_of_getElem? (i := 179) rfl)) rfl
theorem lay_11_63 : u_lay RX11 TX11 63 ∈ wsA := wsA_in (tb_6 (List.mem_of_getElem? (i := 181) rfl)) rfl
theorem lay_11_64 : u_lay RX11 TX11 64 ∈ wsA := wsA_in (tb_6 (List.mem_of_getElem? (i := 183) rfl)) rfl
theorem lay_11_65 : u_lay RX11 TX11 65 ∈ wsA := wsA_in (tb_6 (List.mem_of_getElem? (i := 185) rfl)) rfl
theorem lay_11_66 : u_lay RX11 TX11 66 ∈ wsA := wsA_in (tb_6 (List.mem_of_getElem? (i := 187) rfl)) rfl
theorem lay_11_67 : u_lay RX11 TX11 67 ∈ wsA := wsA_in (tb_6 (List.mem_of_getElem? (i := 189) rfl)) rfl
theorem lay_11_68 : u_lay RX11 TX11 68 ∈ wsA := wsA_in (tb_6 (List.mem_of_getElem? (i := 191) rfl)) rfl
theorem lay_11_69 : u_lay RX11 TX11 69 ∈ wsA := wsA_in (tb_6 (List.mem_of_getElem? (i := 193) rfl)) rfl
theorem lay_11_70 : u_lay RX11 TX11 70 ∈ wsA := wsA_in (tb_6 (List.mem_of_getElem? (i := 195) rfl)) rfl
theorem lay_11_71 : u_lay RX11 TX11 71 ∈ wsA := wsA_in (tb_6 (List.mem_of_getElem? (i := 197) rfl)) rfl
theorem lay_11_72 : u_lay RX11 TX11 72 ∈ wsA := wsA_in (tb_6 (List.mem_of_getElem? (i := 199) rfl)) rfl
theorem lay_11_73 : u_lay RX11 TX11 73 ∈ wsA := wsA_in (tb_6 (List.mem_of_getElem? (i := 201) rfl)) rfl
theorem lay_11_74 : u_lay RX11 TX11 74 ∈ wsA := wsA_in (tb_6 (List.mem_of_getElem? (i := 203) rfl)) rfl
theorem lay_11_75 : u_lay RX11 TX11 75 ∈ wsA := wsA_in (tb_6 (List.mem_of_getElem? (i := 205) rfl)) rfl
theorem lay_11_76 : u_lay RX11 TX11 76 ∈ wsA := wsA_in (tb_6 (List.mem_of_getElem? (i := 207) rfl)) rfl
theorem lay_11_77 : u_lay RX11 TX11 77 ∈ wsA := wsA_in (tb_6 (List.mem_of_getElem? (i := 209) rfl)) rfl
theorem lay_11_78 : u_lay RX11 TX11 78 ∈ wsA := wsA_in (tb_6 (List.mem_of_getElem? (i := 211) rfl)) rfl
theorem lay_11_79 : u_lay RX11 TX11 79 ∈ wsA := wsA_in (tb_6 (List.mem_of_getElem? (i := 213) rfl)) rfl
theorem lay_11_80 : u_lay RX11 TX11 80 ∈ wsA := wsA_in (tb_6 (List.mem_of_getElem? (i := 215) rfl)) rfl
theorem lay_11_81 : u_lay RX11 TX11 81 ∈ wsA := wsA_in (tb_6 (List.mem_of_getElem? (i := 217) rfl)) rfl
theorem lay_11_82 : u_lay RX11 TX11 82 ∈ wsA := wsA_in (tb_6 (List.mem_of_getElem? (i := 219) rfl)) rfl
theorem lay_11_83 : u_lay RX11 TX11 83 ∈ wsA := wsA_in (tb_6 (List.mem_of_getElem? (i := 221) rfl)) rfl
theorem lay_11_84 : u_lay RX11 TX11 84 ∈ wsA := wsA_in (tb_6 (List.mem_of_getElem? (i := 223) rfl)) rfl
theorem lay_11_85 : u_lay RX11 TX11 85 ∈ wsA := wsA_in (tb_6 (List.mem_of_getElem? (i := 225) rfl)) rfl
theorem lay_11_86 : u_lay RX11 TX11 86 ∈ wsA := wsA_in (tb_6 (List.mem_of_getElem? (i := 227) rfl)) rfl
theorem lay_11_87 : u_lay RX11 TX11 87 ∈ wsA := wsA_in (tb_6 (List.mem_of_getElem? (i := 229) rfl)) rfl
theorem lay_11_88 : u_lay RX11 TX11 88 ∈ wsA := wsA_in (tb_6 (List.mem_of_getElem? (i := 231) rfl)) rfl
theorem lay_11_89 : u_lay RX11 TX11 89 ∈ wsA := wsA_in (tb_6 (List.mem_of_getElem? (i := 233) rfl)) rfl
theorem lay_11_90 : u_lay RX11 TX11 90 ∈ wsA := wsA_in (tb_6 (List.mem_of_getElem? (i := 235) rfl)) rfl
theorem lay_11_91 : u_lay RX11 TX11 91 ∈ wsA := wsA_in (tb_6 (List.mem_of_getElem? (i := 237) rfl)) rfl
theorem lay_11_92 : u_lay RX11 TX11 92 ∈ wsA := wsA_in (tb_6 (List.mem_of_getElem? (i := 239) rfl)) rfl
theorem lay_11_93 : u_lay RX11 TX11 93 ∈ wsA := wsA_in (tb_7 (List.mem_of_getElem? (i := 1) rfl)) rfl
theorem lay_11_94 : u_lay RX11 TX11 94 ∈ wsA := wsA_in (tb_7 (List.mem_of_getElem? (i := 3) rfl)) rfl
theorem lay_11_95 : u_lay RX11 TX11 95 ∈ wsA := wsA_in (tb_7 (List.mem_of_getElem? (i := 5) rfl)) rfl
theorem lay_11_96 : u_lay RX11 TX11 96 ∈ wsA := wsA_in (tb_7 (List.mem_of_getElem? (i := 7) rfl)) rfl
theorem lay_11_97 : u_lay RX11 TX11 97 ∈ wsA := wsA_in (tb_7 (List.mem_of_getElem? (i := 9) rfl)) rfl
theorem lay_11_98 : u_lay RX11 TX11 98 ∈ wsA := wsA_in (tb_7 (List.mem_of_getElem? (i := 11) rfl)) rfl
theorem lay_11_99 : u_lay RX11 TX11 99 ∈ wsA := wsA_in (tb_7 (List.mem_of_getElem? (i := 13) rfl)) rfl
theorem lay_11_100 : u_lay RX11 TX11 100 ∈ wsA := wsA_in (tb_7 (List.mem_of_getElem? (i := 15) rfl)) rfl
theorem lay_11_101 : u_lay RX11 TX11 101 ∈ wsA := wsA_in (tb_7 (List.mem_of_getElem? (i := 17) rfl)) rfl
theorem pcw11 : ∀ w ∈ u_ws RX11 TX11 102, w ∈ wsA := by
  intro w hw
  obtain ⟨k, hk, rfl⟩ := List.mem_map.mp hw
  have hk := List.mem_range.mp hk
  match k, hk with
  | 0, _ => exact lay_11_0
  | 1, _ => exact lay_11_1
  | 2, _ => exact lay_11_2
  | 3, _ => exact lay_11_3
  | 4, _ => exact lay_11_4
  | 5, _ => exact lay_11_5
  | 6, _ => exact lay_11_6
  | 7, _ => exact lay_11_7
  | 8, _ => exact lay_11_8
  | 9, _ => exact lay_11_9
  | 10, _ => exact lay_11_10
  | 11, _ => exact lay_11_11
  | 12, _ => exact lay_11_12
  | 13, _ => exact lay_11_13
  | 14, _ => exact lay_11_14
  | 15, _ => exact lay_11_15
  | 16, _ => exact lay_11_16
  | 17, _ => exact lay_11_17
  | 18, _ => exact lay_11_18
  | 19, _ => exact lay_11_19
  | 20, _ => exact lay_11_20
  | 21, _ => exact lay_11_21
  | 22, _ => exact lay_11_22
  | 23, _ => exact lay_11_23
  | 24, _ => exact lay_11_24
  | 25, _ => exact lay_11_25
  | 26, _ => exact lay_11_26
  | 27, _ => exact lay_11_27
  | 28, _ => exact lay_11_28
  | 29, _ => exact lay_11_29
  | 30, _ => exact lay_11_30
  | 31, _ => exact lay_11_31
  | 32, _ => exact lay_11_32
  | 33, _ => exact lay_11_33
  | 34, _ => exact lay_11_34
  | 35, _ => exact lay_11_35
  | 36, _ => exact lay_11_36
  | 37, _ => exact lay_11_37
  | 38, _ => exact lay_11_38
  | 39, _ => exact lay_11_39
  | 40, _ => exact lay_11_40
  | 41, _ => exact lay_11_41
  | 42, _ => exact lay_11_42
  | 43, _ => exact lay_11_43
  | 44, _ => exact lay_11_44
  | 45, _ => exact lay_11_45
  | 46, _ => exact lay_11_46
  | 47, _ => exact lay_11_47
  | 48, _ => exact lay_11_48
  | 49, _ => exact lay_11_49
  | 50, _ => exact lay_11_50
  | 51, _ => exact lay_11_51
  | 52, _ => exact lay_11_52
  | 53, _ => exact lay_11_53
  | 54, _ => exact lay_11_54
  | 55, _ => exact lay_11_55
  | 56, _ => exact lay_11_56
  | 57, _ => exact lay_11_57
  | 58, _ => exact lay_11_58
  | 59, _ => exact lay_11_59
  | 60, _ => exact lay_11_60
  | 61, _ => exact lay_11_61
  | 62, _ => exact lay_11_62
  | 63, _ => exact lay_11_63
  | 64, _ => exact lay_11_64
  | 65, _ => exact lay_11_65
  | 66, _ => exact lay_11_66
  | 67, _ => exact lay_11_67
  | 68, _ => exact lay_11_68
  | 69, _ => exact lay_11_69
  | 70, _ => exact lay_11_70
  | 71, _ => exact lay_11_71
  | 72, _ => exact lay_11_72
  | 73, _ => exact lay_11_73
  | 74, _ => exact lay_11_74
  | 75, _ => exact lay_11_75
  | 76, _ => exact lay_11_76
  | 77, _ => exact lay_11_77
  | 78, _ => exact lay_11_78
  | 79, _ => exact lay_11_79
  | 80, _ => exact lay_11_80
  | 81, _ => exact lay_11_81
  | 82, _ => exact lay_11_82
  | 83, _ => exact lay_11_83
  | 84, _ => exact lay_11_84
  | 85, _ => exact lay_11_85
  | 86, _ => exact lay_11_86
  | 87, _ => exact lay_11_87
  | 88, _ => exact lay_11_88
  | 89, _ => exact lay_11_89
  | 90, _ => exact lay_11_90
  | 91, _ => exact lay_11_91
  | 92, _ => exact lay_11_92
  | 93, _ => exact lay_11_93
  | 94, _ => exact lay_11_94
  | 95, _ => exact lay_11_95
  | 96, _ => exact lay_11_96
  | 97, _ => exact lay_11_97
  | 98, _ => exact lay_11_98
  | 99, _ => exact lay_11_99
  | 100, _ => exact lay_11_100
  | 101, _ => exact lay_11_101
  | k + 102, h => exact absurd h (by omega)
theorem pc11 : pCls 11 RX11 TX11 102 tyX11 := ⟨rfl, rfl, pcw11, tyX11_ok, nmX11, by decide +kernel, by decide⟩
theorem pv11 : ∀ j, j < 102 → defaultValue (tyX11 j) = pdv ((pFt 11).getD j (0, 0, 0)).1 := by decide +kernel
theorem fl_X10_9 : pFL RX10 RX10 TX10 0 9 := Or.inl (wsA_in (tb_2 (List.mem_of_getElem? (i := 183) rfl)) rfl)
theorem fw_X10_9 : Cond.fieldLink RX10 9 RX10 (TX10 0).2.1 (TX10 0).2.2.1 ∈ wsA := wsA_in (tb_2 (List.mem_of_getElem? (i := 183) rfl)) rfl
theorem fl_X10_16 : pFL RX10 RX10 TX10 2 16 := Or.inl (wsA_in (tb_2 (List.mem_of_getElem? (i := 185) rfl)) rfl)
theorem fw_X10_16 : Cond.fieldLink RX10 16 RX10 (TX10 2).2.1 (TX10 2).2.2.1 ∈ wsA := wsA_in (tb_2 (List.mem_of_getElem? (i := 185) rfl)) rfl
theorem fl_X10_20 : pFL RX10 RX10 TX10 4 20 := Or.inl (wsA_in (tb_2 (List.mem_of_getElem? (i := 187) rfl)) rfl)
theorem fw_X10_20 : Cond.fieldLink RX10 20 RX10 (TX10 4).2.1 (TX10 4).2.2.1 ∈ wsA := wsA_in (tb_2 (List.mem_of_getElem? (i := 187) rfl)) rfl
theorem fl_X10_27 : pFL RX10 RX10 TX10 7 27 := Or.inl (wsA_in (tb_2 (List.mem_of_getElem? (i := 190) rfl)) rfl)
theorem fw_X10_27 : Cond.fieldLink RX10 27 RX10 (TX10 7).2.1 (TX10 7).2.2.1 ∈ wsA := wsA_in (tb_2 (List.mem_of_getElem? (i := 190) rfl)) rfl
theorem fl_X10_36 : pFL RX10 RX10 TX10 8 36 := Or.inl (wsA_in (tb_2 (List.mem_of_getElem? (i := 191) rfl)) rfl)
theorem fw_X10_36 : Cond.fieldLink RX10 36 RX10 (TX10 8).2.1 (TX10 8).2.2.1 ∈ wsA := wsA_in (tb_2 (List.mem_of_getElem? (i := 191) rfl)) rfl
theorem fl_X10_43 : pFL RX10 RX10 TX10 9 43 := Or.inl (wsA_in (tb_2 (List.mem_of_getElem? (i := 192) rfl)) rfl)
theorem fw_X10_43 : Cond.fieldLink RX10 43 RX10 (TX10 9).2.1 (TX10 9).2.2.1 ∈ wsA := wsA_in (tb_2 (List.mem_of_getElem? (i := 192) rfl)) rfl
theorem fl_X10_47 : pFL RX10 RX10 TX10 10 47 := Or.inl (wsA_in (tb_2 (List.mem_of_getElem? (i := 193) rfl)) rfl)
theorem fw_X10_47 : Cond.fieldLink RX10 47 RX10 (TX10 10).2.1 (TX10 10).2.2.1 ∈ wsA := wsA_in (tb_2 (List.mem_of_getElem? (i := 193) rfl)) rfl
theorem fl_X10_55 : pFL RX10 RX10 TX10 11 55 := Or.inl (wsA_in (tb_2 (List.mem_of_getElem? (i := 194) rfl)) rfl)
theorem fw_X10_55 : Cond.fieldLink RX10 55 RX10 (TX10 11).2.1 (TX10 11).2.2.1 ∈ wsA := wsA_in (tb_2 (List.mem_of_getElem? (i := 194) rfl)) rfl
theorem fl_X10_64 : pFL RX10 RX10 TX10 12 64 := Or.inl (wsA_in (tb_2 (List.mem_of_getElem? (i := 195) rfl)) rfl)
theorem fw_X10_64 : Cond.fieldLink RX10 64 RX10 (TX10 12).2.1 (TX10 12).2.2.1 ∈ wsA := wsA_in (tb_2 (List.mem_of_getElem? (i := 195) rfl)) rfl
theorem fl_X10_70 : pFL RX10 RX10 TX10 13 70 := Or.inl (wsA_in (tb_2 (List.mem_of_getElem? (i := 196) rfl)) rfl)
theorem fw_X10_70 : Cond.fieldLink RX10 70 RX10 (TX10 13).2.1 (TX10 13).2.2.1 ∈ wsA := wsA_in (tb_2 (List.mem_of_getElem? (i := 196) rfl)) rfl
theorem fl_X10_77 : pFL RX10 RX10 TX10 15 77 := Or.inl (wsA_in (tb_2 (List.mem_of_getElem? (i := 198) rfl)) rfl)
theorem fw_X10_77 : Cond.fieldLink RX10 77 RX10 (TX10 15).2.1 (TX10 15).2.2.1 ∈ wsA := wsA_in (tb_2 (List.mem_of_getElem? (i := 198) rfl)) rfl
theorem fl_X10_86 : pFL RX10 RX10 TX10 16 86 := Or.inl (wsA_in (tb_2 (List.mem_of_getElem? (i := 199) rfl)) rfl)
theorem fw_X10_86 : Cond.fieldLink RX10 86 RX10 (TX10 16).2.1 (TX10 16).2.2.1 ∈ wsA := wsA_in (tb_2 (List.mem_of_getElem? (i := 199) rfl)) rfl
theorem fl_X10_93 : pFL RX10 RX10 TX10 17 93 := Or.inl (wsA_in (tb_2 (List.mem_of_getElem? (i := 200) rfl)) rfl)
theorem fw_X10_93 : Cond.fieldLink RX10 93 RX10 (TX10 17).2.1 (TX10 17).2.2.1 ∈ wsA := wsA_in (tb_2 (List.mem_of_getElem? (i := 200) rfl)) rfl
theorem fl_X10_97 : pFL RX10 RX10 TX10 1 97 := Or.inl (wsA_in (tb_2 (List.mem_of_getElem? (i := 184) rfl)) rfl)
theorem fw_X10_97 : Cond.fieldLink RX10 97 RX10 (TX10 1).2.1 (TX10 1).2.2.1 ∈ wsA := wsA_in (tb_2 (List.mem_of_getElem? (i := 184) rfl)) rfl
theorem fl_X10_113 : pFL RX10 RX10 TX10 6 113 := Or.inl (wsA_in (tb_2 (List.mem_of_getElem? (i := 189) rfl)) rfl)
theorem fw_X10_113 : Cond.fieldLink RX10 113 RX10 (TX10 6).2.1 (TX10 6).2.2.1 ∈ wsA := wsA_in (tb_2 (List.mem_of_getElem? (i := 189) rfl)) rfl
theorem fl_X10_116 : pFL RX10 RX8 TX8 5 116 := Or.inr ⟨"SkiMountain", wsN_in (tb_1 (List.mem_of_getElem? (i := 203) rfl)) rfl⟩
theorem fl_X10_122 : pFL RX10 RX1 TX1 2 122 := Or.inr ⟨"SkiMountain", wsN_in (tb_2 (List.mem_of_getElem? (i := 80) rfl)) rfl⟩
theorem fl_X10_129 : pFL RX10 RX6 TX6 2 129 := Or.inr ⟨"SkiMountain", wsN_in (tb_1 (List.mem_of_getElem? (i := 75) rfl)) rfl⟩
theorem fl_X10_132 : pFL RX10 RX9 TX9 3 132 := Or.inr ⟨"SkiMountain", wsN_in (tb_1 (List.mem_of_getElem? (i := 38) rfl)) rfl⟩
theorem fl_X10_134 : pFL RX10 RX2 TX2 4 134 := Or.inr ⟨"SkiMountain", wsN_in (tb_1 (List.mem_of_getElem? (i := 158) rfl)) rfl⟩
theorem fl_X10_135 : pFL RX10 RX10 TX10 3 135 := Or.inl (wsA_in (tb_2 (List.mem_of_getElem? (i := 186) rfl)) rfl)
theorem fw_X10_135 : Cond.fieldLink RX10 135 RX10 (TX10 3).2.1 (TX10 3).2.2.1 ∈ wsA := wsA_in (tb_2 (List.mem_of_getElem? (i := 186) rfl)) rfl
theorem fl_X10_142 : pFL RX10 RX10 TX10 5 142 := Or.inl (wsA_in (tb_2 (List.mem_of_getElem? (i := 188) rfl)) rfl)
theorem fw_X10_142 : Cond.fieldLink RX10 142 RX10 (TX10 5).2.1 (TX10 5).2.2.1 ∈ wsA := wsA_in (tb_2 (List.mem_of_getElem? (i := 188) rfl)) rfl
theorem fl_X10_156 : pFL RX10 RX3 TX3 0 156 := Or.inr ⟨"SkiMountain", wsN_in (tb_1 (List.mem_of_getElem? (i := 227) rfl)) rfl⟩
theorem fl_X10_160 : pFL RX10 RX3 TX3 1 160 := Or.inr ⟨"SkiMountain", wsN_in (tb_1 (List.mem_of_getElem? (i := 231) rfl)) rfl⟩
theorem fl_X10_181 : pFL RX10 RX6 TX6 3 181 := Or.inr ⟨"SkiMountain", wsN_in (tb_1 (List.mem_of_getElem? (i := 80) rfl)) rfl⟩
theorem fl_X10_194 : pFL RX10 RX10 TX10 14 194 := Or.inl (wsA_in (tb_2 (List.mem_of_getElem? (i := 197) rfl)) rfl)
theorem fw_X10_194 : Cond.fieldLink RX10 194 RX10 (TX10 14).2.1 (TX10 14).2.2.1 ∈ wsA := wsA_in (tb_2 (List.mem_of_getElem? (i := 197) rfl)) rfl
theorem fl_X10_200 : pFL RX10 RX6 TX6 0 200 := Or.inr ⟨"SkiMountain", wsN_in (tb_1 (List.mem_of_getElem? (i := 70) rfl)) rfl⟩
theorem fl_X10_203 : pFL RX10 RX6 TX6 12 203 := Or.inr ⟨"SkiMountain", wsN_in (tb_1 (List.mem_of_getElem? (i := 107) rfl)) rfl⟩
theorem fl_X10_220 : pFL RX10 RX6 TX6 6 220 := Or.inr ⟨"SkiMountain", wsN_in (tb_1 (List.mem_of_getElem? (i := 88) rfl)) rfl⟩
theorem fl_X10_226 : pFL RX10 RX6 TX6 1 226 := Or.inr ⟨"SkiMountain", wsN_in (tb_1 (List.mem_of_getElem? (i := 74) rfl)) rfl⟩
theorem fl_X10_229 : pFL RX10 RX0 TX0 5 229 := Or.inr ⟨"SkiMountain", wsN_in (tb_2 (List.mem_of_getElem? (i := 57) rfl)) rfl⟩
theorem fl_X10_239 : pFL RX10 RX1 TX1 3 239 := Or.inr ⟨"SkiMountain", wsN_in (tb_2 (List.mem_of_getElem? (i := 82) rfl)) rfl⟩
theorem fl_X10_242 : pFL RX10 RX1 TX1 4 242 := Or.inr ⟨"SkiMountain", wsN_in (tb_2 (List.mem_of_getElem? (i := 84) rfl)) rfl⟩
theorem fl_X10_245 : pFL RX10 RX1 TX1 5 245 := Or.inr ⟨"SkiMountain", wsN_in (tb_2 (List.mem_of_getElem? (i := 86) rfl)) rfl⟩
theorem fl_X10_248 : pFL RX10 RX1 TX1 6 248 := Or.inr ⟨"SkiMountain", wsN_in (tb_2 (List.mem_of_getElem? (i := 88) rfl)) rfl⟩
theorem fl_X10_251 : pFL RX10 RX1 TX1 7 251 := Or.inr ⟨"SkiMountain", wsN_in (tb_2 (List.mem_of_getElem? (i := 90) rfl)) rfl⟩
theorem fl_X10_257 : pFL RX10 RX0 TX0 2 257 := Or.inr ⟨"SkiMountain", wsN_in (tb_2 (List.mem_of_getElem? (i := 50) rfl)) rfl⟩
theorem fl_X10_264 : pFL RX10 RX9 TX9 5 264 := Or.inr ⟨"SkiMountain", wsN_in (tb_1 (List.mem_of_getElem? (i := 41) rfl)) rfl⟩
theorem fl_X10_267 : pFL RX10 RX9 TX9 6 267 := Or.inr ⟨"SkiMountain", wsN_in (tb_1 (List.mem_of_getElem? (i := 43) rfl)) rfl⟩
theorem fl_X10_268 : pFL RX10 RX3 TX3 5 268 := Or.inr ⟨"SkiMountain", wsN_in (tb_2 (List.mem_of_getElem? (i := 1) rfl)) rfl⟩
theorem fl_X10_269 : pFL RX10 RX3 TX3 6 269 := Or.inr ⟨"SkiMountain", wsN_in (tb_2 (List.mem_of_getElem? (i := 4) rfl)) rfl⟩
theorem fl_X10_275 : pFL RX10 RX5 TX5 7 275 := Or.inr ⟨"SkiMountain", wsN_in (tb_4 (List.mem_of_getElem? (i := 206) rfl)) rfl⟩
theorem fl_X10_276 : pFL RX10 RX5 TX5 8 276 := Or.inr ⟨"SkiMountain", wsN_in (tb_4 (List.mem_of_getElem? (i := 208) rfl)) rfl⟩
theorem fl_X0_9 : pFL RX0 RX0 TX0 0 9 := Or.inl (wsA_in (tb_2 (List.mem_of_getElem? (i := 44) rfl)) rfl)
theorem fw_X0_9 : Cond.fieldLink RX0 9 RX0 (TX0 0).2.1 (TX0 0).2.2.1 ∈ wsA := wsA_in (tb_2 (List.mem_of_getElem? (i := 44) rfl)) rfl
theorem fl_X0_15 : pFL RX0 RX0 TX0 1 15 := Or.inl (wsA_in (tb_2 (List.mem_of_getElem? (i := 46) rfl)) rfl)
theorem fw_X0_15 : Cond.fieldLink RX0 15 RX0 (TX0 1).2.1 (TX0 1).2.2.1 ∈ wsA := wsA_in (tb_2 (List.mem_of_getElem? (i := 46) rfl)) rfl
theorem fl_X0_18 : pFL RX0 RX0 TX0 3 18 := Or.inl (wsA_in (tb_2 (List.mem_of_getElem? (i := 51) rfl)) rfl)
theorem fw_X0_18 : Cond.fieldLink RX0 18 RX0 (TX0 3).2.1 (TX0 3).2.2.1 ∈ wsA := wsA_in (tb_2 (List.mem_of_getElem? (i := 51) rfl)) rfl
theorem fl_X0_21 : pFL RX0 RX0 TX0 4 21 := Or.inl (wsA_in (tb_2 (List.mem_of_getElem? (i := 53) rfl)) rfl)
theorem fw_X0_21 : Cond.fieldLink RX0 21 RX0 (TX0 4).2.1 (TX0 4).2.2.1 ∈ wsA := wsA_in (tb_2 (List.mem_of_getElem? (i := 53) rfl)) rfl
theorem fl_X0_24 : pFL RX0 RX0 TX0 5 24 := Or.inl (wsA_in (tb_2 (List.mem_of_getElem? (i := 55) rfl)) rfl)
theorem fw_X0_24 : Cond.fieldLink RX0 24 RX0 (TX0 5).2.1 (TX0 5).2.2.1 ∈ wsA := wsA_in (tb_2 (List.mem_of_getElem? (i := 55) rfl)) rfl
theorem fl_X0_33 : pFL RX0 RX0 TX0 2 33 := Or.inl (wsA_in (tb_2 (List.mem_of_getElem? (i := 48) rfl)) rfl)
theorem fw_X0_33 : Cond.fieldLink RX0 33 RX0 (TX0 2).2.1 (TX0 2).2.2.1 ∈ wsA := wsA_in (tb_2 (List.mem_of_getElem? (i := 48) rfl)) rfl
theorem fl_X1_9 : pFL RX1 RX1 TX1 3 9 := Or.inl (wsA_in (tb_2 (List.mem_of_getElem? (i := 81) rfl)) rfl)
theorem fw_X1_9 : Cond.fieldLink RX1 9 RX1 (TX1 3).2.1 (TX1 3).2.2.1 ∈ wsA := wsA_in (tb_2 (List.mem_of_getElem? (i := 81) rfl)) rfl
theorem fl_X1_15 : pFL RX1 RX1 TX1 4 15 := Or.inl (wsA_in (tb_2 (List.mem_of_getElem? (i := 83) rfl)) rfl)
theorem fw_X1_15 : Cond.fieldLink RX1 15 RX1 (TX1 4).2.1 (TX1 4).2.2.1 ∈ wsA := wsA_in (tb_2 (List.mem_of_getElem? (i := 83) rfl)) rfl
theorem fl_X1_18 : pFL RX1 RX1 TX1 5 18 := Or.inl (wsA_in (tb_2 (List.mem_of_getElem? (i := 85) rfl)) rfl)
theorem fw_X1_18 : Cond.fieldLink RX1 18 RX1 (TX1 5).2.1 (TX1 5).2.2.1 ∈ wsA := wsA_in (tb_2 (List.mem_of_getElem? (i := 85) rfl)) rfl
theorem fl_X1_21 : pFL RX1 RX1 TX1 6 21 := Or.inl (wsA_in (tb_2 (List.mem_of_getElem? (i := 87) rfl)) rfl)
theorem fw_X1_21 : Cond.fieldLink RX1 21 RX1 (TX1 6).2.1 (TX1 6).2.2.1 ∈ wsA := wsA_in (tb_2 (List.mem_of_getElem? (i := 87) rfl)) rfl
theorem fl_X1_24 : pFL RX1 RX1 TX1 7 24 := Or.inl (wsA_in (tb_2 (List.mem_of_getElem? (i := 89) rfl)) rfl)
theorem fw_X1_24 : Cond.fieldLink RX1 24 RX1 (TX1 7).2.1 (TX1 7).2.2.1 ∈ wsA := wsA_in (tb_2 (List.mem_of_getElem? (i := 89) rfl)) rfl
theorem fl_X1_27 : pFL RX1 RX1 TX1 8 27 := Or.inl (wsA_in (tb_2 (List.mem_of_getElem? (i := 91) rfl)) rfl)
theorem fw_X1_27 : Cond.fieldLink RX1 27 RX1 (TX1 8).2.1 (TX1 8).2.2.1 ∈ wsA := wsA_in (tb_2 (List.mem_of_getElem? (i := 91) rfl)) rfl
theorem fl_X1_30 : pFL RX1 RX1 TX1 9 30 := Or.inl (wsA_in (tb_2 (List.mem_of_getElem? (i := 92) rfl)) rfl)
theorem fw_X1_30 : Cond.fieldLink RX1 30 RX1 (TX1 9).2.1 (TX1 9).2.2.1 ∈ wsA := wsA_in (tb_2 (List.mem_of_getElem? (i := 92) rfl)) rfl
theorem fl_X1_33 : pFL RX1 RX1 TX1 10 33 := Or.inl (wsA_in (tb_2 (List.mem_of_getElem? (i := 93) rfl)) rfl)
theorem fw_X1_33 : Cond.fieldLink RX1 33 RX1 (TX1 10).2.1 (TX1 10).2.2.1 ∈ wsA := wsA_in (tb_2 (List.mem_of_getElem? (i := 93) rfl)) rfl
theorem fl_X1_36 : pFL RX1 RX1 TX1 11 36 := Or.inl (wsA_in (tb_2 (List.mem_of_getElem? (i := 94) rfl)) rfl)
theorem fw_X1_36 : Cond.fieldLink RX1 36 RX1 (TX1 11).2.1 (TX1 11).2.2.1 ∈ wsA := wsA_in (tb_2 (List.mem_of_getElem? (i := 94) rfl)) rfl
theorem fl_X1_39 : pFL RX1 RX1 TX1 12 39 := Or.inl (wsA_in (tb_2 (List.mem_of_getElem? (i := 95) rfl)) rfl)
theorem fw_X1_39 : Cond.fieldLink RX1 39 RX1 (TX1 12).2.1 (TX1 12).2.2.1 ∈ wsA := wsA_in (tb_2 (List.mem_of_getElem? (i := 95) rfl)) rfl
theorem fl_X1_42 : pFL RX1 RX1 TX1 0 42 := Or.inl (wsA_in (tb_2 (List.mem_of_getElem? (i := 77) rfl)) rfl)
theorem fw_X1_42 : Cond.fieldLink RX1 42 RX1 (TX1 0).2.1 (TX1 0).2.2.1 ∈ wsA := wsA_in (tb_2 (List.mem_of_getElem? (i := 77) rfl)) rfl
theorem fl_X1_46 : pFL RX1 RX1 TX1 1 46 := Or.inl (wsA_in (tb_2 (List.mem_of_getElem? (i := 78) rfl)) rfl)
theorem fw_X1_46 : Cond.fieldLink RX1 46 RX1 (TX1 1).2.1 (TX1 1).2.2.1 ∈ wsA := wsA_in (tb_2 (List.mem_of_getElem? (i := 78) rfl)) rfl
theorem fl_X1_61 : pFL RX1 RX3 TX3 4 61 := Or.inr ⟨"SkiMountain", wsN_in (tb_1 (List.mem_of_getElem? (i := 238) rfl)) rfl⟩
theorem fl_X1_67 : pFL RX1 RX6 TX6 0 67 := Or.inr ⟨"SkiMountain", wsN_in (tb_1 (List.mem_of_getElem? (i := 69) rfl)) rfl⟩
theorem fl_X1_80 : pFL RX1 RX1 TX1 2 80 := Or.inl (wsA_in (tb_2 (List.mem_of_getElem? (i := 79) rfl)) rfl)
theorem fw_X1_80 : Cond.fieldLink RX1 80 RX1 (TX1 2).2.1 (TX1 2).2.2.1 ∈ wsA := wsA_in (tb_2 (List.mem_of_getElem? (i := 79) rfl)) rfl
theorem fl_X1_90 : pFL RX1 RX6 TX6 14 90 := Or.inr ⟨"SkiMountain", wsN_in (tb_1 (List.mem_of_getElem? (i := 112) rfl)) rfl⟩
theorem fl_X1_91 : pFL RX1 RX0 TX0 2 91 := Or.inr ⟨"SkiMountain", wsN_in (tb_2 (List.mem_of_getElem? (i := 49) rfl)) rfl⟩
theorem fl_X1_96 : pFL RX1 RX0 TX0 0 96 := Or.inr ⟨"SkiMountain", wsN_in (tb_2 (List.mem_of_getElem? (i := 45) rfl)) rfl⟩
theorem fl_X1_99 : pFL RX1 RX6 TX6 3 99 := Or.inr ⟨"SkiMountain", wsN_in (tb_1 (List.mem_of_getElem? (i := 77) rfl)) rfl⟩
theorem fl_X1_102 : pFL RX1 RX0 TX0 1 102 := Or.inr ⟨"SkiMountain", wsN_in (tb_2 (List.mem_of_getElem? (i := 47) rfl)) rfl⟩
theorem fl_X1_109 : pFL RX1 RX6 TX6 1 109 := Or.inr ⟨"SkiMountain", wsN_in (tb_1 (List.mem_of_getElem? (i := 73) rfl)) rfl⟩
theorem fl_X1_112 : pFL RX1 RX3 TX3 1 112 := Or.inr ⟨"SkiMountain", wsN_in (tb_1 (List.mem_of_getElem? (i := 230) rfl)) rfl⟩
theorem fl_X1_115 : pFL RX1 RX3 TX3 0 115 := Or.inr ⟨"SkiMountain", wsN_in (tb_1 (List.mem_of_getElem? (i := 226) rfl)) rfl⟩
theorem fl_X1_118 : pFL RX1 RX0 TX0 5 118 := Or.inr ⟨"SkiMountain", wsN_in (tb_2 (List.mem_of_getElem? (i := 56) rfl)) rfl⟩
theorem fl_X1_128 : pFL RX1 RX0 TX0 3 128 := Or.inr ⟨"SkiMountain", wsN_in (tb_2 (List.mem_of_getElem? (i := 52) rfl)) rfl⟩
theorem fl_X1_135 : pFL RX1 RX0 TX0 4 135 := Or.inr ⟨"SkiMountain", wsN_in (tb_2 (List.mem_of_getElem? (i := 54) rfl)) rfl⟩
theorem fl_X1_155 : pFL RX1 RX6 TX6 11 155 := Or.inr ⟨"SkiMountain", wsN_in (tb_1 (List.mem_of_getElem? (i := 104) rfl)) rfl⟩
theorem fl_X1_161 : pFL RX1 RX6 TX6 8 161 := Or.inr ⟨"SkiMountain", wsN_in (tb_1 (List.mem_of_getElem? (i := 97) rfl)) rfl⟩
theorem fl_X1_164 : pFL RX1 RX6 TX6 7 164 := Or.inr ⟨"SkiMountain", wsN_in (tb_1 (List.mem_of_getElem? (i := 93) rfl)) rfl⟩
theorem fl_X1_170 : pFL RX1 RX6 TX6 9 170 := Or.inr ⟨"SkiMountain", wsN_in (tb_1 (List.mem_of_getElem? (i := 99) rfl)) rfl⟩
theorem fl_X1_173 : pFL RX1 RX6 TX6 6 173 := Or.inr ⟨"SkiMountain", wsN_in (tb_1 (List.mem_of_getElem? (i := 87) rfl)) rfl⟩
theorem fl_X2_9 : pFL RX2 RX2 TX2 6 9 := Or.inl (wsA_in (tb_1 (List.mem_of_getElem? (i := 161) rfl)) rfl)
theorem fw_X2_9 : Cond.fieldLink RX2 9 RX2 (TX2 6).2.1 (TX2 6).2.2.1 ∈ wsA := wsA_in (tb_1 (List.mem_of_getElem? (i := 161) rfl)) rfl
theorem fl_X2_15 : pFL RX2 RX2 TX2 7 15 := Or.inl (wsA_in (tb_1 (List.mem_of_getElem? (i := 162) rfl)) rfl)
theorem fw_X2_15 : Cond.fieldLink RX2 15 RX2 (TX2 7).2.1 (TX2 7).2.2.1 ∈ wsA := wsA_in (tb_1 (List.mem_of_getElem? (i := 162) rfl)) rfl
theorem fl_X2_18 : pFL RX2 RX2 TX2 8 18 := Or.inl (wsA_in (tb_1 (List.mem_of_getElem? (i := 163) rfl)) rfl)
theorem fw_X2_18 : Cond.fieldLink RX2 18 RX2 (TX2 8).2.1 (TX2 8).2.2.1 ∈ wsA := wsA_in (tb_1 (List.mem_of_getElem? (i := 163) rfl)) rfl
theorem fl_X2_27 : pFL RX2 RX2 TX2 0 27 := Or.inl (wsA_in (tb_1 (List.mem_of_getElem? (i := 154) rfl)) rfl)
theorem fw_X2_27 : Cond.fieldLink RX2 27 RX2 (TX2 0).2.1 (TX2 0).2.2.1 ∈ wsA := wsA_in (tb_1 (List.mem_of_getElem? (i := 154) rfl)) rfl
theorem fl_X2_30 : pFL RX2 RX2 TX2 1 30 := Or.inl (wsA_in (tb_1 (List.mem_of_getElem? (i := 155) rfl)) rfl)
theorem fw_X2_30 : Cond.fieldLink RX2 30 RX2 (TX2 1).2.1 (TX2 1).2.2.1 ∈ wsA := wsA_in (tb_1 (List.mem_of_getElem? (i := 155) rfl)) rfl
theorem fl_X2_45 : pFL RX2 RX3 TX3 0 45 := Or.inr ⟨"SkiMountain", wsN_in (tb_1 (List.mem_of_getElem? (i := 225) rfl)) rfl⟩
theorem fl_X2_50 : pFL RX2 RX3 TX3 1 50 := Or.inr ⟨"SkiMountain", wsN_in (tb_1 (List.mem_of_getElem? (i := 229) rfl)) rfl⟩
theorem fl_X2_53 : pFL RX2 RX3 TX3 4 53 := Or.inr ⟨"SkiMountain", wsN_in (tb_1 (List.mem_of_getElem? (i := 239) rfl)) rfl⟩
theorem fl_X2_57 : pFL RX2 RX6 TX6 14 57 := Or.inr ⟨"SkiMountain", wsN_in (tb_1 (List.mem_of_getElem? (i := 111) rfl)) rfl⟩
theorem fl_X2_62 : pFL RX2 RX3 TX3 2 62 := Or.inr ⟨"SkiMountain", wsN_in (tb_1 (List.mem_of_getElem? (i := 233) rfl)) rfl⟩
theorem fl_X2_65 : pFL RX2 RX6 TX6 13 65 := Or.inr ⟨"SkiMountain", wsN_in (tb_1 (List.mem_of_getElem? (i := 109) rfl)) rfl⟩
theorem fl_X2_68 : pFL RX2 RX6 TX6 8 68 := Or.inr ⟨"SkiMountain", wsN_in (tb_1 (List.mem_of_getElem? (i := 95) rfl)) rfl⟩
theorem fl_X2_81 : pFL RX2 RX2 TX2 4 81 := Or.inl (wsA_in (tb_1 (List.mem_of_getElem? (i := 159) rfl)) rfl)
theorem fw_X2_81 : Cond.fieldLink RX2 81 RX2 (TX2 4).2.1 (TX2 4).2.2.1 ∈ wsA := wsA_in (tb_1 (List.mem_of_getElem? (i := 159) rfl)) rfl
theorem fl_X2_88 : pFL RX2 RX2 TX2 5 88 := Or.inl (wsA_in (tb_1 (List.mem_of_getElem? (i := 160) rfl)) rfl)
theorem fw_X2_88 : Cond.fieldLink RX2 88 RX2 (TX2 5).2.1 (TX2 5).2.2.1 ∈ wsA := wsA_in (tb_1 (List.mem_of_getElem? (i := 160) rfl)) rfl
theorem fl_X2_98 : pFL RX2 RX2 TX2 2 98 := Or.inl (wsA_in (tb_1 (List.mem_of_getElem? (i := 156) rfl)) rfl)
theorem fw_X2_98 : Cond.fieldLink RX2 98 RX2 (TX2 2).2.1 (TX2 2).2.2.1 ∈ wsA := wsA_in (tb_1 (List.mem_of_getElem? (i := 156) rfl)) rfl
theorem fl_X2_130 : pFL RX2 RX2 TX2 3 130 := Or.inl (wsA_in (tb_1 (List.mem_of_getElem? (i := 157) rfl)) rfl)
theorem fw_X2_130 : Cond.fieldLink RX2 130 RX2 (TX2 3).2.1 (TX2 3).2.2.1 ∈ wsA := wsA_in (tb_1 (List.mem_of_getElem? (i := 157) rfl)) rfl
theorem fl_X3_9 : pFL RX3 RX3 TX3 0 9 := Or.inl (wsA_in (tb_1 (List.mem_of_getElem? (i := 224) rfl)) rfl)
theorem fw_X3_9 : Cond.fieldLink RX3 9 RX3 (TX3 0).2.1 (TX3 0).2.2.1 ∈ wsA := wsA_in (tb_1 (List.mem_of_getElem? (i := 224) rfl)) rfl
theorem fl_X3_15 : pFL RX3 RX3 TX3 1 15 := Or.inl (wsA_in (tb_1 (List.mem_of_getElem? (i := 228) rfl)) rfl)
theorem fw_X3_15 : Cond.fieldLink RX3 15 RX3 (TX3 1).2.1 (TX3 1).2.2.1 ∈ wsA := wsA_in (tb_1 (List.mem_of_getElem? (i := 228) rfl)) rfl
theorem fl_X3_18 : pFL RX3 RX3 TX3 2 18 := Or.inl (wsA_in (tb_1 (List.mem_of_getElem? (i := 232) rfl)) rfl)
theorem fw_X3_18 : Cond.fieldLink RX3 18 RX3 (TX3 2).2.1 (TX3 2).2.2.1 ∈ wsA := wsA_in (tb_1 (List.mem_of_getElem? (i := 232) rfl)) rfl
theorem fl_X3_21 : pFL RX3 RX3 TX3 3 21 := Or.inl (wsA_in (tb_1 (List.mem_of_getElem? (i := 234) rfl)) rfl)
theorem fw_X3_21 : Cond.fieldLink RX3 21 RX3 (TX3 3).2.1 (TX3 3).2.2.1 ∈ wsA := wsA_in (tb_1 (List.mem_of_getElem? (i := 234) rfl)) rfl
theorem fl_X3_24 : pFL RX3 RX3 TX3 5 24 := Or.inl (wsA_in (tb_2 (List.mem_of_getElem? (i := 0) rfl)) rfl)
theorem fw_X3_24 : Cond.fieldLink RX3 24 RX3 (TX3 5).2.1 (TX3 5).2.2.1 ∈ wsA := wsA_in (tb_2 (List.mem_of_getElem? (i := 0) rfl)) rfl
theorem fl_X3_28 : pFL RX3 RX3 TX3 4 28 := Or.inl (wsA_in (tb_1 (List.mem_of_getElem? (i := 235) rfl)) rfl)
theorem fw_X3_28 : Cond.fieldLink RX3 28 RX3 (TX3 4).2.1 (TX3 4).2.2.1 ∈ wsA := wsA_in (tb_1 (List.mem_of_getElem? (i := 235) rfl)) rfl
theorem fl_X3_32 : pFL RX3 RX3 TX3 6 32 := Or.inl (wsA_in (tb_2 (List.mem_of_getElem? (i := 3) rfl)) rfl)
theorem fw_X3_32 : Cond.fieldLink RX3 32 RX3 (TX3 6).2.1 (TX3 6).2.2.1 ∈ wsA := wsA_in (tb_2 (List.mem_of_getElem? (i := 3) rfl)) rfl
theorem fl_X3_41 : pFL RX3 RX8 TX8 5 41 := Or.inr ⟨"SkiMountain", wsN_in (tb_1 (List.mem_of_getElem? (i := 202) rfl)) rfl⟩
theorem fl_X3_50 : pFL RX3 RX8 TX8 2 50 := Or.inr ⟨"SkiMountain", wsN_in (tb_1 (List.mem_of_getElem? (i := 193) rfl)) rfl⟩
theorem fl_X3_53 : pFL RX3 RX8 TX8 3 53 := Or.inr ⟨"SkiMountain", wsN_in (tb_1 (List.mem_of_getElem? (i := 196) rfl)) rfl⟩
theorem fl_X3_56 : pFL RX3 RX8 TX8 4 56 := Or.inr ⟨"SkiMountain", wsN_in (tb_1 (List.mem_of_getElem? (i := 199) rfl)) rfl⟩
theorem fl_X3_79 : pFL RX3 RX6 TX6 10 79 := Or.inr ⟨"SkiMountain", wsN_in (tb_1 (List.mem_of_getElem? (i := 101) rfl)) rfl⟩
theorem fl_X3_82 : pFL RX3 RX6 TX6 11 82 := Or.inr ⟨"SkiMountain", wsN_in (tb_1 (List.mem_of_getElem? (i := 103) rfl)) rfl⟩
theorem fl_X4_9 : pFL RX4 RX4 TX4 1 9 := Or.inl (wsA_in (tb_2 (List.mem_of_getElem? (i := 27) rfl)) rfl)
theorem fw_X4_9 : Cond.fieldLink RX4 9 RX4 (TX4 1).2.1 (TX4 1).2.2.1 ∈ wsA := wsA_in (tb_2 (List.mem_of_getElem? (i := 27) rfl)) rfl
theorem fl_X4_15 : pFL RX4 RX4 TX4 2 15 := Or.inl (wsA_in (tb_2 (List.mem_of_getElem? (i := 28) rfl)) rfl)
theorem fw_X4_15 : Cond.fieldLink RX4 15 RX4 (TX4 2).2.1 (TX4 2).2.2.1 ∈ wsA := wsA_in (tb_2 (List.mem_of_getElem? (i := 28) rfl)) rfl
theorem fl_X4_18 : pFL RX4 RX4 TX4 0 18 := Or.inl (wsA_in (tb_2 (List.mem_of_getElem? (i := 26) rfl)) rfl)
theorem fw_X4_18 : Cond.fieldLink RX4 18 RX4 (TX4 0).2.1 (TX4 0).2.2.1 ∈ wsA := wsA_in (tb_2 (List.mem_of_getElem? (i := 26) rfl)) rfl
theorem fl_X4_29 : pFL RX4 RX3 TX3 4 29 := Or.inr ⟨"SkiMountain", wsN_in (tb_1 (List.mem_of_getElem? (i := 237) rfl)) rfl⟩
theorem fl_X4_45 : pFL RX4 RX6 TX6 6 45 := Or.inr ⟨"SkiMountain", wsN_in (tb_1 (List.mem_of_getElem? (i := 84) rfl)) rfl⟩
theorem fl_X4_48 : pFL RX4 RX6 TX6 7 48 := Or.inr ⟨"SkiMountain", wsN_in (tb_1 (List.mem_of_getElem? (i := 90) rfl)) rfl⟩
theorem fl_X5_9 : pFL RX5 RX5 TX5 1 9 := Or.inl (wsA_in (tb_4 (List.mem_of_getElem? (i := 199) rfl)) rfl)
theorem fw_X5_9 : Cond.fieldLink RX5 9 RX5 (TX5 1).2.1 (TX5 1).2.2.1 ∈ wsA := wsA_in (tb_4 (List.mem_of_getElem? (i := 199) rfl)) rfl
theorem fl_X5_15 : pFL RX5 RX5 TX5 2 15 := Or.inl (wsA_in (tb_4 (List.mem_of_getElem? (i := 200) rfl)) rfl)
theorem fw_X5_15 : Cond.fieldLink RX5 15 RX5 (TX5 2).2.1 (TX5 2).2.2.1 ∈ wsA := wsA_in (tb_4 (List.mem_of_getElem? (i := 200) rfl)) rfl
theorem fl_X5_18 : pFL RX5 RX5 TX5 3 18 := Or.inl (wsA_in (tb_4 (List.mem_of_getElem? (i := 201) rfl)) rfl)
theorem fw_X5_18 : Cond.fieldLink RX5 18 RX5 (TX5 3).2.1 (TX5 3).2.2.1 ∈ wsA := wsA_in (tb_4 (List.mem_of_getElem? (i := 201) rfl)) rfl
theorem fl_X5_21 : pFL RX5 RX5 TX5 4 21 := Or.inl (wsA_in (tb_4 (List.mem_of_getElem? (i := 202) rfl)) rfl)
theorem fw_X5_21 : Cond.fieldLink RX5 21 RX5 (TX5 4).2.1 (TX5 4).2.2.1 ∈ wsA := wsA_in (tb_4 (List.mem_of_getElem? (i := 202) rfl)) rfl
theorem fl_X5_24 : pFL RX5 RX5 TX5 5 24 := Or.inl (wsA_in (tb_4 (List.mem_of_getElem? (i := 203) rfl)) rfl)
theorem fw_X5_24 : Cond.fieldLink RX5 24 RX5 (TX5 5).2.1 (TX5 5).2.2.1 ∈ wsA := wsA_in (tb_4 (List.mem_of_getElem? (i := 203) rfl)) rfl
theorem fl_X5_27 : pFL RX5 RX5 TX5 7 27 := Or.inl (wsA_in (tb_4 (List.mem_of_getElem? (i := 205) rfl)) rfl)
theorem fw_X5_27 : Cond.fieldLink RX5 27 RX5 (TX5 7).2.1 (TX5 7).2.2.1 ∈ wsA := wsA_in (tb_4 (List.mem_of_getElem? (i := 205) rfl)) rfl
theorem fl_X5_31 : pFL RX5 RX5 TX5 0 31 := Or.inl (wsA_in (tb_4 (List.mem_of_getElem? (i := 198) rfl)) rfl)
theorem fw_X5_31 : Cond.fieldLink RX5 31 RX5 (TX5 0).2.1 (TX5 0).2.2.1 ∈ wsA := wsA_in (tb_4 (List.mem_of_getElem? (i := 198) rfl)) rfl
theorem fl_X5_34 : pFL RX5 RX5 TX5 6 34 := Or.inl (wsA_in (tb_4 (List.mem_of_getElem? (i := 204) rfl)) rfl)
theorem fw_X5_34 : Cond.fieldLink RX5 34 RX5 (TX5 6).2.1 (TX5 6).2.2.1 ∈ wsA := wsA_in (tb_4 (List.mem_of_getElem? (i := 204) rfl)) rfl
theorem fl_X5_38 : pFL RX5 RX3 TX3 6 38 := Or.inr ⟨"SkiMountain", wsN_in (tb_2 (List.mem_of_getElem? (i := 2) rfl)) rfl⟩
theorem fl_X5_43 : pFL RX5 RX5 TX5 8 43 := Or.inl (wsA_in (tb_4 (List.mem_of_getElem? (i := 207) rfl)) rfl)
theorem fw_X5_43 : Cond.fieldLink RX5 43 RX5 (TX5 8).2.1 (TX5 8).2.2.1 ∈ wsA := wsA_in (tb_4 (List.mem_of_getElem? (i := 207) rfl)) rfl
theorem fl_X5_44 : pFL RX5 RX3 TX3 4 44 := Or.inr ⟨"SkiMountain", wsN_in (tb_1 (List.mem_of_getElem? (i := 236) rfl)) rfl⟩
theorem fl_X5_69 : pFL RX5 RX6 TX6 6 69 := Or.inr ⟨"SkiMountain", wsN_in (tb_1 (List.mem_of_getElem? (i := 85) rfl)) rfl⟩
theorem fl_X5_82 : pFL RX5 RX8 TX8 5 82 := Or.inr ⟨"SkiMountain", wsN_in (tb_1 (List.mem_of_getElem? (i := 204) rfl)) rfl⟩
theorem fl_X5_87 : pFL RX5 RX8 TX8 2 87 := Or.inr ⟨"SkiMountain", wsN_in (tb_1 (List.mem_of_getElem? (i := 194) rfl)) rfl⟩
theorem fl_X5_93 : pFL RX5 RX8 TX8 3 93 := Or.inr ⟨"SkiMountain", wsN_in (tb_1 (List.mem_of_getElem? (i := 197) rfl)) rfl⟩
theorem fl_X5_96 : pFL RX5 RX8 TX8 4 96 := Or.inr ⟨"SkiMountain", wsN_in (tb_1 (List.mem_of_getElem? (i := 200) rfl)) rfl⟩
theorem fl_X5_108 : pFL RX5 RX6 TX6 12 108 := Or.inr ⟨"SkiMountain", wsN_in (tb_1 (List.mem_of_getElem? (i := 106) rfl)) rfl⟩
theorem fl_X5_118 : pFL RX5 RX6 TX6 3 118 := Or.inr ⟨"SkiMountain", wsN_in (tb_1 (List.mem_of_getElem? (i := 78) rfl)) rfl⟩
theorem fl_X5_124 : pFL RX5 RX6 TX6 7 124 := Or.inr ⟨"SkiMountain", wsN_in (tb_1 (List.mem_of_getElem? (i := 92) rfl)) rfl⟩
theorem fl_X6_9 : pFL RX6 RX6 TX6 5 9 := Or.inl (wsA_in (tb_1 (List.mem_of_getElem? (i := 82) rfl)) rfl)
theorem fw_X6_9 : Cond.fieldLink RX6 9 RX6 (TX6 5).2.1 (TX6 5).2.2.1 ∈ wsA := wsA_in (tb_1 (List.mem_of_getElem? (i := 82) rfl)) rfl
theorem fl_X6_15 : pFL RX6 RX6 TX6 6 15 := Or.inl (wsA_in (tb_1 (List.mem_of_getElem? (i := 83) rfl)) rfl)
theorem fw_X6_15 : Cond.fieldLink RX6 15 RX6 (TX6 6).2.1 (TX6 6).2.2.1 ∈ wsA := wsA_in (tb_1 (List.mem_of_getElem? (i := 83) rfl)) rfl
theorem fl_X6_19 : pFL RX6 RX6 TX6 7 19 := Or.inl (wsA_in (tb_1 (List.mem_of_getElem? (i := 89) rfl)) rfl)
theorem fw_X6_19 : Cond.fieldLink RX6 19 RX6 (TX6 7).2.1 (TX6 7).2.2.1 ∈ wsA := wsA_in (tb_1 (List.mem_of_getElem? (i := 89) rfl)) rfl
theorem fl_X6_22 : pFL RX6 RX6 TX6 8 22 := Or.inl (wsA_in (tb_1 (List.mem_of_getElem? (i := 94) rfl)) rfl)
theorem fw_X6_22 : Cond.fieldLink RX6 22 RX6 (TX6 8).2.1 (TX6 8).2.2.1 ∈ wsA := wsA_in (tb_1 (List.mem_of_getElem? (i := 94) rfl)) rfl
theorem fl_X6_25 : pFL RX6 RX6 TX6 9 25 := Or.inl (wsA_in (tb_1 (List.mem_of_getElem? (i := 98) rfl)) rfl)
theorem fw_X6_25 : Cond.fieldLink RX6 25 RX6 (TX6 9).2.1 (TX6 9).2.2.1 ∈ wsA := wsA_in (tb_1 (List.mem_of_getElem? (i := 98) rfl)) rfl
theorem fl_X6_28 : pFL RX6 RX6 TX6 10 28 := Or.inl (wsA_in (tb_1 (List.mem_of_getElem? (i := 100) rfl)) rfl)
theorem fw_X6_28 : Cond.fieldLink RX6 28 RX6 (TX6 10).2.1 (TX6 10).2.2.1 ∈ wsA := wsA_in (tb_1 (List.mem_of_getElem? (i := 100) rfl)) rfl
theorem fl_X6_31 : pFL RX6 RX6 TX6 11 31 := Or.inl (wsA_in (tb_1 (List.mem_of_getElem? (i := 102) rfl)) rfl)
theorem fw_X6_31 : Cond.fieldLink RX6 31 RX6 (TX6 11).2.1 (TX6 11).2.2.1 ∈ wsA := wsA_in (tb_1 (List.mem_of_getElem? (i := 102) rfl)) rfl
theorem fl_X6_34 : pFL RX6 RX6 TX6 12 34 := Or.inl (wsA_in (tb_1 (List.mem_of_getElem? (i := 105) rfl)) rfl)
theorem fw_X6_34 : Cond.fieldLink RX6 34 RX6 (TX6 12).2.1 (TX6 12).2.2.1 ∈ wsA := wsA_in (tb_1 (List.mem_of_getElem? (i := 105) rfl)) rfl
theorem fl_X6_38 : pFL RX6 RX6 TX6 13 38 := Or.inl (wsA_in (tb_1 (List.mem_of_getElem? (i := 108) rfl)) rfl)
theorem fw_X6_38 : Cond.fieldLink RX6 38 RX6 (TX6 13).2.1 (TX6 13).2.2.1 ∈ wsA := wsA_in (tb_1 (List.mem_of_getElem? (i := 108) rfl)) rfl
theorem fl_X6_41 : pFL RX6 RX6 TX6 14 41 := Or.inl (wsA_in (tb_1 (List.mem_of_getElem? (i := 110) rfl)) rfl)
theorem fw_X6_41 : Cond.fieldLink RX6 41 RX6 (TX6 14).2.1 (TX6 14).2.2.1 ∈ wsA := wsA_in (tb_1 (List.mem_of_getElem? (i := 110) rfl)) rfl
theorem fl_X6_44 : pFL RX6 RX6 TX6 0 44 := Or.inl (wsA_in (tb_1 (List.mem_of_getElem? (i := 68) rfl)) rfl)
theorem fw_X6_44 : Cond.fieldLink RX6 44 RX6 (TX6 0).2.1 (TX6 0).2.2.1 ∈ wsA := wsA_in (tb_1 (List.mem_of_getElem? (i := 68) rfl)) rfl
theorem fl_X6_52 : pFL RX6 RX6 TX6 1 52 := Or.inl (wsA_in (tb_1 (List.mem_of_getElem? (i := 71) rfl)) rfl)
theorem fw_X6_52 : Cond.fieldLink RX6 52 RX6 (TX6 1).2.1 (TX6 1).2.2.1 ∈ wsA := wsA_in (tb_1 (List.mem_of_getElem? (i := 71) rfl)) rfl
theorem fl_X6_71 : pFL RX6 RX6 TX6 2 71 := Or.inl (wsA_in (tb_1 (List.mem_of_getElem? (i := 76) rfl)) rfl)
theorem fw_X6_71 : Cond.fieldLink RX6 71 RX6 (TX6 2).2.1 (TX6 2).2.2.1 ∈ wsA := wsA_in (tb_1 (List.mem_of_getElem? (i := 76) rfl)) rfl
theorem fl_X6_81 : pFL RX6 RX6 TX6 4 81 := Or.inl (wsA_in (tb_1 (List.mem_of_getElem? (i := 81) rfl)) rfl)
theorem fw_X6_81 : Cond.fieldLink RX6 81 RX6 (TX6 4).2.1 (TX6 4).2.2.1 ∈ wsA := wsA_in (tb_1 (List.mem_of_getElem? (i := 81) rfl)) rfl
theorem fl_X6_109 : pFL RX6 RX6 TX6 3 109 := Or.inl (wsA_in (tb_1 (List.mem_of_getElem? (i := 79) rfl)) rfl)
theorem fw_X6_109 : Cond.fieldLink RX6 109 RX6 (TX6 3).2.1 (TX6 3).2.2.1 ∈ wsA := wsA_in (tb_1 (List.mem_of_getElem? (i := 79) rfl)) rfl
theorem fl_X7_9 : pFL RX7 RX7 TX7 0 9 := Or.inl (wsA_in (tb_2 (List.mem_of_getElem? (i := 155) rfl)) rfl)
theorem fw_X7_9 : Cond.fieldLink RX7 9 RX7 (TX7 0).2.1 (TX7 0).2.2.1 ∈ wsA := wsA_in (tb_2 (List.mem_of_getElem? (i := 155) rfl)) rfl
theorem fl_X7_15 : pFL RX7 RX7 TX7 1 15 := Or.inl (wsA_in (tb_2 (List.mem_of_getElem? (i := 156) rfl)) rfl)
theorem fw_X7_15 : Cond.fieldLink RX7 15 RX7 (TX7 1).2.1 (TX7 1).2.2.1 ∈ wsA := wsA_in (tb_2 (List.mem_of_getElem? (i := 156) rfl)) rfl
theorem fl_X7_18 : pFL RX7 RX7 TX7 2 18 := Or.inl (wsA_in (tb_2 (List.mem_of_getElem? (i := 157) rfl)) rfl)
theorem fw_X7_18 : Cond.fieldLink RX7 18 RX7 (TX7 2).2.1 (TX7 2).2.2.1 ∈ wsA := wsA_in (tb_2 (List.mem_of_getElem? (i := 157) rfl)) rfl
theorem fl_X7_21 : pFL RX7 RX7 TX7 3 21 := Or.inl (wsA_in (tb_2 (List.mem_of_getElem? (i := 158) rfl)) rfl)
theorem fw_X7_21 : Cond.fieldLink RX7 21 RX7 (TX7 3).2.1 (TX7 3).2.2.1 ∈ wsA := wsA_in (tb_2 (List.mem_of_getElem? (i := 158) rfl)) rfl
theorem fl_X7_24 : pFL RX7 RX7 TX7 4 24 := Or.inl (wsA_in (tb_2 (List.mem_of_getElem? (i := 159) rfl)) rfl)
theorem fw_X7_24 : Cond.fieldLink RX7 24 RX7 (TX7 4).2.1 (TX7 4).2.2.1 ∈ wsA := wsA_in (tb_2 (List.mem_of_getElem? (i := 159) rfl)) rfl
theorem fl_X7_27 : pFL RX7 RX7 TX7 5 27 := Or.inl (wsA_in (tb_2 (List.mem_of_getElem? (i := 160) rfl)) rfl)
theorem fw_X7_27 : Cond.fieldLink RX7 27 RX7 (TX7 5).2.1 (TX7 5).2.2.1 ∈ wsA := wsA_in (tb_2 (List.mem_of_getElem? (i := 160) rfl)) rfl
theorem fl_X7_34 : pFL RX7 RX7 TX7 6 34 := Or.inl (wsA_in (tb_2 (List.mem_of_getElem? (i := 161) rfl)) rfl)
theorem fw_X7_34 : Cond.fieldLink RX7 34 RX7 (TX7 6).2.1 (TX7 6).2.2.1 ∈ wsA := wsA_in (tb_2 (List.mem_of_getElem? (i := 161) rfl)) rfl
theorem fl_X7_50 : pFL RX7 RX7 TX7 7 50 := Or.inl (wsA_in (tb_2 (List.mem_of_getElem? (i := 162) rfl)) rfl)
theorem fw_X7_50 : Cond.fieldLink RX7 50 RX7 (TX7 7).2.1 (TX7 7).2.2.1 ∈ wsA := wsA_in (tb_2 (List.mem_of_getElem? (i := 162) rfl)) rfl
theorem fl_X7_55 : pFL RX7 RX7 TX7 8 55 := Or.inl (wsA_in (tb_2 (List.mem_of_getElem? (i := 163) rfl)) rfl)
theorem fw_X7_55 : Cond.fieldLink RX7 55 RX7 (TX7 8).2.1 (TX7 8).2.2.1 ∈ wsA := wsA_in (tb_2 (List.mem_of_getElem? (i := 163) rfl)) rfl
theorem fl_X7_68 : pFL RX7 RX6 TX6 6 68 := Or.inr ⟨"SkiMountain", wsN_in (tb_1 (List.mem_of_getElem? (i := 86) rfl)) rfl⟩
theorem fl_X7_71 : pFL RX7 RX6 TX6 7 71 := Or.inr ⟨"SkiMountain", wsN_in (tb_1 (List.mem_of_getElem? (i := 91) rfl)) rfl⟩
theorem fl_X7_74 : pFL RX7 RX6 TX6 8 74 := Or.inr ⟨"SkiMountain", wsN_in (tb_1 (List.mem_of_getElem? (i := 96) rfl)) rfl⟩
theorem fl_X7_83 : pFL RX7 RX6 TX6 1 83 := Or.inr ⟨"SkiMountain", wsN_in (tb_1 (List.mem_of_getElem? (i := 72) rfl)) rfl⟩
theorem fl_X8_15 : pFL RX8 RX8 TX8 0 15 := Or.inl (wsA_in (tb_1 (List.mem_of_getElem? (i := 190) rfl)) rfl)
theorem fw_X8_15 : Cond.fieldLink RX8 15 RX8 (TX8 0).2.1 (TX8 0).2.2.1 ∈ wsA := wsA_in (tb_1 (List.mem_of_getElem? (i := 190) rfl)) rfl
theorem fl_X8_21 : pFL RX8 RX8 TX8 1 21 := Or.inl (wsA_in (tb_1 (List.mem_of_getElem? (i := 191) rfl)) rfl)
theorem fw_X8_21 : Cond.fieldLink RX8 21 RX8 (TX8 1).2.1 (TX8 1).2.2.1 ∈ wsA := wsA_in (tb_1 (List.mem_of_getElem? (i := 191) rfl)) rfl
theorem fl_X8_24 : pFL RX8 RX8 TX8 2 24 := Or.inl (wsA_in (tb_1 (List.mem_of_getElem? (i := 192) rfl)) rfl)
theorem fw_X8_24 : Cond.fieldLink RX8 24 RX8 (TX8 2).2.1 (TX8 2).2.2.1 ∈ wsA := wsA_in (tb_1 (List.mem_of_getElem? (i := 192) rfl)) rfl
theorem fl_X8_27 : pFL RX8 RX8 TX8 3 27 := Or.inl (wsA_in (tb_1 (List.mem_of_getElem? (i := 195) rfl)) rfl)
theorem fw_X8_27 : Cond.fieldLink RX8 27 RX8 (TX8 3).2.1 (TX8 3).2.2.1 ∈ wsA := wsA_in (tb_1 (List.mem_of_getElem? (i := 195) rfl)) rfl
theorem fl_X8_30 : pFL RX8 RX8 TX8 4 30 := Or.inl (wsA_in (tb_1 (List.mem_of_getElem? (i := 198) rfl)) rfl)
theorem fw_X8_30 : Cond.fieldLink RX8 30 RX8 (TX8 4).2.1 (TX8 4).2.2.1 ∈ wsA := wsA_in (tb_1 (List.mem_of_getElem? (i := 198) rfl)) rfl
theorem fl_X8_33 : pFL RX8 RX8 TX8 5 33 := Or.inl (wsA_in (tb_1 (List.mem_of_getElem? (i := 201) rfl)) rfl)
theorem fw_X8_33 : Cond.fieldLink RX8 33 RX8 (TX8 5).2.1 (TX8 5).2.2.1 ∈ wsA := wsA_in (tb_1 (List.mem_of_getElem? (i := 201) rfl)) rfl
theorem fl_X9_9 : pFL RX9 RX9 TX9 0 9 := Or.inl (wsA_in (tb_1 (List.mem_of_getElem? (i := 34) rfl)) rfl)
theorem fw_X9_9 : Cond.fieldLink RX9 9 RX9 (TX9 0).2.1 (TX9 0).2.2.1 ∈ wsA := wsA_in (tb_1 (List.mem_of_getElem? (i := 34) rfl)) rfl
theorem fl_X9_15 : pFL RX9 RX9 TX9 1 15 := Or.inl (wsA_in (tb_1 (List.mem_of_getElem? (i := 35) rfl)) rfl)
theorem fw_X9_15 : Cond.fieldLink RX9 15 RX9 (TX9 1).2.1 (TX9 1).2.2.1 ∈ wsA := wsA_in (tb_1 (List.mem_of_getElem? (i := 35) rfl)) rfl
theorem fl_X9_18 : pFL RX9 RX9 TX9 2 18 := Or.inl (wsA_in (tb_1 (List.mem_of_getElem? (i := 36) rfl)) rfl)
theorem fw_X9_18 : Cond.fieldLink RX9 18 RX9 (TX9 2).2.1 (TX9 2).2.2.1 ∈ wsA := wsA_in (tb_1 (List.mem_of_getElem? (i := 36) rfl)) rfl
theorem fl_X9_22 : pFL RX9 RX9 TX9 6 22 := Or.inl (wsA_in (tb_1 (List.mem_of_getElem? (i := 42) rfl)) rfl)
theorem fw_X9_22 : Cond.fieldLink RX9 22 RX9 (TX9 6).2.1 (TX9 6).2.2.1 ∈ wsA := wsA_in (tb_1 (List.mem_of_getElem? (i := 42) rfl)) rfl
theorem fl_X9_26 : pFL RX9 RX9 TX9 3 26 := Or.inl (wsA_in (tb_1 (List.mem_of_getElem? (i := 37) rfl)) rfl)
theorem fw_X9_26 : Cond.fieldLink RX9 26 RX9 (TX9 3).2.1 (TX9 3).2.2.1 ∈ wsA := wsA_in (tb_1 (List.mem_of_getElem? (i := 37) rfl)) rfl
theorem fl_X9_29 : pFL RX9 RX9 TX9 4 29 := Or.inl (wsA_in (tb_1 (List.mem_of_getElem? (i := 39) rfl)) rfl)
theorem fw_X9_29 : Cond.fieldLink RX9 29 RX9 (TX9 4).2.1 (TX9 4).2.2.1 ∈ wsA := wsA_in (tb_1 (List.mem_of_getElem? (i := 39) rfl)) rfl
theorem fl_X9_32 : pFL RX9 RX9 TX9 5 32 := Or.inl (wsA_in (tb_1 (List.mem_of_getElem? (i := 40) rfl)) rfl)
theorem fw_X9_32 : Cond.fieldLink RX9 32 RX9 (TX9 5).2.1 (TX9 5).2.2.1 ∈ wsA := wsA_in (tb_1 (List.mem_of_getElem? (i := 40) rfl)) rfl
theorem fl_X11_7 : pFL RX11 RX11 TX11 0 7 := Or.inl (wsA_in (tb_5 (List.mem_of_getElem? (i := 193) rfl)) rfl)
theorem fw_X11_7 : Cond.fieldLink RX11 7 RX11 (TX11 0).2.1 (TX11 0).2.2.1 ∈ wsA := wsA_in (tb_5 (List.mem_of_getElem? (i := 193) rfl)) rfl
theorem fl_X11_13 : pFL RX11 RX11 TX11 3 13 := Or.inl (wsA_in (tb_5 (List.mem_of_getElem? (i := 196) rfl)) rfl)
theorem fw_X11_13 : Cond.fieldLink RX11 13 RX11 (TX11 3).2.1 (TX11 3).2.2.1 ∈ wsA := wsA_in (tb_5 (List.mem_of_getElem? (i := 196) rfl)) rfl
theorem fl_X11_17 : pFL RX11 RX11 TX11 10 17 := Or.inl (wsA_in (tb_5 (List.mem_of_getElem? (i := 203) rfl)) rfl)
theorem fw_X11_17 : Cond.fieldLink RX11 17 RX11 (TX11 10).2.1 (TX11 10).2.2.1 ∈ wsA := wsA_in (tb_5 (List.mem_of_getElem? (i := 203) rfl)) rfl
theorem fl_X11_21 : pFL RX11 RX11 TX11 11 21 := Or.inl (wsA_in (tb_5 (List.mem_of_getElem? (i := 204) rfl)) rfl)
theorem fw_X11_21 : Cond.fieldLink RX11 21 RX11 (TX11 11).2.1 (TX11 11).2.2.1 ∈ wsA := wsA_in (tb_5 (List.mem_of_getElem? (i := 204) rfl)) rfl
theorem fl_X11_24 : pFL RX11 RX11 TX11 12 24 := Or.inl (wsA_in (tb_5 (List.mem_of_getElem? (i := 205) rfl)) rfl)
theorem fw_X11_24 : Cond.fieldLink RX11 24 RX11 (TX11 12).2.1 (TX11 12).2.2.1 ∈ wsA := wsA_in (tb_5 (List.mem_of_getElem? (i := 205) rfl)) rfl
theorem fl_X11_27 : pFL RX11 RX11 TX11 13 27 := Or.inl (wsA_in (tb_5 (List.mem_of_getElem? (i := 206) rfl)) rfl)
theorem fw_X11_27 : Cond.fieldLink RX11 27 RX11 (TX11 13).2.1 (TX11 13).2.2.1 ∈ wsA := wsA_in (tb_5 (List.mem_of_getElem? (i := 206) rfl)) rfl
theorem fl_X11_30 : pFL RX11 RX11 TX11 14 30 := Or.inl (wsA_in (tb_5 (List.mem_of_getElem? (i := 207) rfl)) rfl)
theorem fw_X11_30 : Cond.fieldLink RX11 30 RX11 (TX11 14).2.1 (TX11 14).2.2.1 ∈ wsA := wsA_in (tb_5 (List.mem_of_getElem? (i := 207) rfl)) rfl
theorem fl_X11_33 : pFL RX11 RX11 TX11 15 33 := Or.inl (wsA_in (tb_5 (List.mem_of_getElem? (i := 208) rfl)) rfl)
theorem fw_X11_33 : Cond.fieldLink RX11 33 RX11 (TX11 15).2.1 (TX11 15).2.2.1 ∈ wsA := wsA_in (tb_5 (List.mem_of_getElem? (i := 208) rfl)) rfl
theorem fl_X11_36 : pFL RX11 RX11 TX11 16 36 := Or.inl (wsA_in (tb_5 (List.mem_of_getElem? (i := 209) rfl)) rfl)
theorem fw_X11_36 : Cond.fieldLink RX11 36 RX11 (TX11 16).2.1 (TX11 16).2.2.1 ∈ wsA := wsA_in (tb_5 (List.mem_of_getElem? (i := 209) rfl)) rfl
theorem fl_X11_39 : pFL RX11 RX11 TX11 22 39 := Or.inl (wsA_in (tb_5 (List.mem_of_getElem? (i := 215) rfl)) rfl)
theorem fw_X11_39 : Cond.fieldLink RX11 39 RX11 (TX11 22).2.1 (TX11 22).2.2.1 ∈ wsA := wsA_in (tb_5 (List.mem_of_getElem? (i := 215) rfl)) rfl
theorem fl_X11_42 : pFL RX11 RX11 TX11 23 42 := Or.inl (wsA_in (tb_5 (List.mem_of_getElem? (i := 216) rfl)) rfl)
theorem fw_X11_42 : Cond.fieldLink RX11 42 RX11 (TX11 23).2.1 (TX11 23).2.2.1 ∈ wsA := wsA_in (tb_5 (List.mem_of_getElem? (i := 216) rfl)) rfl
theorem fl_X11_45 : pFL RX11 RX11 TX11 24 45 := Or.inl (wsA_in (tb_5 (List.mem_of_getElem? (i := 217) rfl)) rfl)
theorem fw_X11_45 : Cond.fieldLink RX11 45 RX11 (TX11 24).2.1 (TX11 24).2.2.1 ∈ wsA := wsA_in (tb_5 (List.mem_of_getElem? (i := 217) rfl)) rfl
theorem fl_X11_48 : pFL RX11 RX11 TX11 25 48 := Or.inl (wsA_in (tb_5 (List.mem_of_getElem? (i := 218) rfl)) rfl)
theorem fw_X11_48 : Cond.fieldLink RX11 48 RX11 (TX11 25).2.1 (TX11 25).2.2.1 ∈ wsA := wsA_in (tb_5 (List.mem_of_getElem? (i := 218) rfl)) rfl
theorem fl_X11_51 : pFL RX11 RX11 TX11 26 51 := Or.inl (wsA_in (tb_5 (List.mem_of_getElem? (i := 219) rfl)) rfl)
theorem fw_X11_51 : Cond.fieldLink RX11 51 RX11 (TX11 26).2.1 (TX11 26).2.2.1 ∈ wsA := wsA_in (tb_5 (List.mem_of_getElem? (i := 219) rfl)) rfl
theorem fl_X11_54 : pFL RX11 RX11 TX11 27 54 := Or.inl (wsA_in (tb_5 (List.mem_of_getElem? (i := 220) rfl)) rfl)
theorem fw_X11_54 : Cond.fieldLink RX11 54 RX11 (TX11 27).2.1 (TX11 27).2.2.1 ∈ wsA := wsA_in (tb_5 (List.mem_of_getElem? (i := 220) rfl)) rfl
theorem fl_X11_57 : pFL RX11 RX11 TX11 28 57 := Or.inl (wsA_in (tb_5 (List.mem_of_getElem? (i := 221) rfl)) rfl)
theorem fw_X11_57 : Cond.fieldLink RX11 57 RX11 (TX11 28).2.1 (TX11 28).2.2.1 ∈ wsA := wsA_in (tb_5 (List.mem_of_getElem? (i := 221) rfl)) rfl
theorem fl_X11_61 : pFL RX11 RX11 TX11 29 61 := Or.inl (wsA_in (tb_5 (List.mem_of_getElem? (i := 222) rfl)) rfl)
theorem fw_X11_61 : Cond.fieldLink RX11 61 RX11 (TX11 29).2.1 (TX11 29).2.2.1 ∈ wsA := wsA_in (tb_5 (List.mem_of_getElem? (i := 222) rfl)) rfl
theorem fl_X11_64 : pFL RX11 RX11 TX11 34 64 := Or.inl (wsA_in (tb_5 (List.mem_of_getElem? (i := 227) rfl)) rfl)
theorem fw_X11_64 : Cond.fieldLink RX11 64 RX11 (TX11 34).2.1 (TX11 34).2.2.1 ∈ wsA := wsA_in (tb_5 (List.mem_of_getElem? (i := 227) rfl)) rfl
theorem fl_X11_67 : pFL RX11 RX11 TX11 35 67 := Or.inl (wsA_in (tb_5 (List.mem_of_getElem? (i := 228) rfl)) rfl)
theorem fw_X11_67 : Cond.fieldLink RX11 67 RX11 (TX11 35).2.1 (TX11 35).2.2.1 ∈ wsA := wsA_in (tb_5 (List.mem_of_getElem? (i := 228) rfl)) rfl
theorem fl_X11_70 : pFL RX11 RX11 TX11 36 70 := Or.inl (wsA_in (tb_5 (List.mem_of_getElem? (i := 229) rfl)) rfl)
theorem fw_X11_70 : Cond.fieldLink RX11 70 RX11 (TX11 36).2.1 (TX11 36).2.2.1 ∈ wsA := wsA_in (tb_5 (List.mem_of_getElem? (i := 229) rfl)) rfl
theorem fl_X11_73 : pFL RX11 RX11 TX11 37 73 := Or.inl (wsA_in (tb_5 (List.mem_of_getElem? (i := 230) rfl)) rfl)
theorem fw_X11_73 : Cond.fieldLink RX11 73 RX11 (TX11 37).2.1 (TX11 37).2.2.1 ∈ wsA := wsA_in (tb_5 (List.mem_of_getElem? (i := 230) rfl)) rfl
theorem fl_X11_76 : pFL RX11 RX11 TX11 38 76 := Or.inl (wsA_in (tb_5 (List.mem_of_getElem? (i := 231) rfl)) rfl)
theorem fw_X11_76 : Cond.fieldLink RX11 76 RX11 (TX11 38).2.1 (TX11 38).2.2.1 ∈ wsA := wsA_in (tb_5 (List.mem_of_getElem? (i := 231) rfl)) rfl
theorem fl_X11_79 : pFL RX11 RX11 TX11 39 79 := Or.inl (wsA_in (tb_5 (List.mem_of_getElem? (i := 232) rfl)) rfl)
theorem fw_X11_79 : Cond.fieldLink RX11 79 RX11 (TX11 39).2.1 (TX11 39).2.2.1 ∈ wsA := wsA_in (tb_5 (List.mem_of_getElem? (i := 232) rfl)) rfl
theorem fl_X11_82 : pFL RX11 RX11 TX11 40 82 := Or.inl (wsA_in (tb_5 (List.mem_of_getElem? (i := 233) rfl)) rfl)
theorem fw_X11_82 : Cond.fieldLink RX11 82 RX11 (TX11 40).2.1 (TX11 40).2.2.1 ∈ wsA := wsA_in (tb_5 (List.mem_of_getElem? (i := 233) rfl)) rfl
theorem fl_X11_85 : pFL RX11 RX11 TX11 41 85 := Or.inl (wsA_in (tb_5 (List.mem_of_getElem? (i := 234) rfl)) rfl)
theorem fw_X11_85 : Cond.fieldLink RX11 85 RX11 (TX11 41).2.1 (TX11 41).2.2.1 ∈ wsA := wsA_in (tb_5 (List.mem_of_getElem? (i := 234) rfl)) rfl
theorem fl_X11_88 : pFL RX11 RX11 TX11 42 88 := Or.inl (wsA_in (tb_5 (List.mem_of_getElem? (i := 235) rfl)) rfl)
theorem fw_X11_88 : Cond.fieldLink RX11 88 RX11 (TX11 42).2.1 (TX11 42).2.2.1 ∈ wsA := wsA_in (tb_5 (List.mem_of_getElem? (i := 235) rfl)) rfl
theorem fl_X11_91 : pFL RX11 RX11 TX11 43 91 := Or.inl (wsA_in (tb_5 (List.mem_of_getElem? (i := 236) rfl)) rfl)
theorem fw_X11_91 : Cond.fieldLink RX11 91 RX11 (TX11 43).2.1 (TX11 43).2.2.1 ∈ wsA := wsA_in (tb_5 (List.mem_of_getElem? (i := 236) rfl)) rfl
theorem fl_X11_94 : pFL RX11 RX11 TX11 47 94 := Or.inl (wsA_in (tb_6 (List.mem_of_getElem? (i := 0) rfl)) rfl)
theorem fw_X11_94 : Cond.fieldLink RX11 94 RX11 (TX11 47).2.1 (TX11 47).2.2.1 ∈ wsA := wsA_in (tb_6 (List.mem_of_getElem? (i := 0) rfl)) rfl
theorem fl_X11_97 : pFL RX11 RX11 TX11 53 97 := Or.inl (wsA_in (tb_6 (List.mem_of_getElem? (i := 6) rfl)) rfl)
theorem fw_X11_97 : Cond.fieldLink RX11 97 RX11 (TX11 53).2.1 (TX11 53).2.2.1 ∈ wsA := wsA_in (tb_6 (List.mem_of_getElem? (i := 6) rfl)) rfl
theorem fl_X11_100 : pFL RX11 RX11 TX11 54 100 := Or.inl (wsA_in (tb_6 (List.mem_of_getElem? (i := 7) rfl)) rfl)
theorem fw_X11_100 : Cond.fieldLink RX11 100 RX11 (TX11 54).2.1 (TX11 54).2.2.1 ∈ wsA := wsA_in (tb_6 (List.mem_of_getElem? (i := 7) rfl)) rfl
theorem fl_X11_103 : pFL RX11 RX11 TX11 55 103 := Or.inl (wsA_in (tb_6 (List.mem_of_getElem? (i := 8) rfl)) rfl)
theorem fw_X11_103 : Cond.fieldLink RX11 103 RX11 (TX11 55).2.1 (TX11 55).2.2.1 ∈ wsA := wsA_in (tb_6 (List.mem_of_getElem? (i := 8) rfl)) rfl
theorem fl_X11_106 : pFL RX11 RX11 TX11 56 106 := Or.inl (wsA_in (tb_6 (List.mem_of_getElem? (i := 9) rfl)) rfl)
theorem fw_X11_106 : Cond.fieldLink RX11 106 RX11 (TX11 56).2.1 (TX11 56).2.2.1 ∈ wsA := wsA_in (tb_6 (List.mem_of_getElem? (i := 9) rfl)) rfl
theorem fl_X11_109 : pFL RX11 RX11 TX11 57 109 := Or.inl (wsA_in (tb_6 (List.mem_of_getElem? (i := 10) rfl)) rfl)
theorem fw_X11_109 : Cond.fieldLink RX11 109 RX11 (TX11 57).2.1 (TX11 57).2.2.1 ∈ wsA := wsA_in (tb_6 (List.mem_of_getElem? (i := 10) rfl)) rfl
theorem fl_X11_112 : pFL RX11 RX11 TX11 58 112 := Or.inl (wsA_in (tb_6 (List.mem_of_getElem? (i := 11) rfl)) rfl)
theorem fw_X11_112 : Cond.fieldLink RX11 112 RX11 (TX11 58).2.1 (TX11 58).2.2.1 ∈ wsA := wsA_in (tb_6 (List.mem_of_getElem? (i := 11) rfl)) rfl
theorem fl_X11_115 : pFL RX11 RX11 TX11 59 115 := Or.inl (wsA_in (tb_6 (List.mem_of_getElem? (i := 12) rfl)) rfl)
theorem fw_X11_115 : Cond.fieldLink RX11 115 RX11 (TX11 59).2.1 (TX11 59).2.2.1 ∈ wsA := wsA_in (tb_6 (List.mem_of_getElem? (i := 12) rfl)) rfl
theorem fl_X11_118 : pFL RX11 RX11 TX11 60 118 := Or.inl (wsA_in (tb_6 (List.mem_of_getElem? (i := 13) rfl)) rfl)
theorem fw_X11_118 : Cond.fieldLink RX11 118 RX11 (TX11 60).2.1 (TX11 60).2.2.1 ∈ wsA := wsA_in (tb_6 (List.mem_of_getElem? (i := 13) rfl)) rfl
theorem fl_X11_121 : pFL RX11 RX11 TX11 61 121 := Or.inl (wsA_in (tb_6 (List.mem_of_getElem? (i := 14) rfl)) rfl)
theorem fw_X11_121 : Cond.fieldLink RX11 121 RX11 (TX11 61).2.1 (TX11 61).2.2.1 ∈ wsA := wsA_in (tb_6 (List.mem_of_getElem? (i := 14) rfl)) rfl
theorem fl_X11_124 : pFL RX11 RX11 TX11 62 124 := Or.inl (wsA_in (tb_6 (List.mem_of_getElem? (i := 15) rfl)) rfl)
theorem fw_X11_124 : Cond.fieldLink RX11 124 RX11 (TX11 62).2.1 (TX11 62).2.2.1 ∈ wsA := wsA_in (tb_6 (List.mem_of_getElem? (i := 15) rfl)) rfl
theorem fl_X11_127 : pFL RX11 RX11 TX11 63 127 := Or.inl (wsA_in (tb_6 (List.mem_of_getElem? (i := 16) rfl)) rfl)
theorem fw_X11_127 : Cond.fieldLink RX11 127 RX11 (TX11 63).2.1 (TX11 63).2.2.1 ∈ wsA := wsA_in (tb_6 (List.mem_of_getElem? (i := 16) rfl)) rfl
theorem fl_X11_130 : pFL RX11 RX11 TX11 66 130 := Or.inl (wsA_in (tb_6 (List.mem_of_getElem? (i := 19) rfl)) rfl)
theorem fw_X11_130 : Cond.fieldLink RX11 130 RX11 (TX11 66).2.1 (TX11 66).2.2.1 ∈ wsA := wsA_in (tb_6 (List.mem_of_getElem? (i := 19) rfl)) rfl
theorem fl_X11_133 : pFL RX11 RX11 TX11 67 133 := Or.inl (wsA_in (tb_6 (List.mem_of_getElem? (i := 20) rfl)) rfl)
theorem fw_X11_133 : Cond.fieldLink RX11 133 RX11 (TX11 67).2.1 (TX11 67).2.2.1 ∈ wsA := wsA_in (tb_6 (List.mem_of_getElem? (i := 20) rfl)) rfl
theorem fl_X11_136 : pFL RX11 RX11 TX11 68 136 := Or.inl (wsA_in (tb_6 (List.mem_of_getElem? (i := 21) rfl)) rfl)
theorem fw_X11_136 : Cond.fieldLink RX11 136 RX11 (TX11 68).2.1 (TX11 68).2.2.1 ∈ wsA := wsA_in (tb_6 (List.mem_of_getElem? (i := 21) rfl)) rfl
theorem fl_X11_139 : pFL RX11 RX11 TX11 69 139 := Or.inl (wsA_in (tb_6 (List.mem_of_getElem? (i := 22) rfl)) rfl)
theorem fw_X11_139 : Cond.fieldLink RX11 139 RX11 (TX11 69).2.1 (TX11 69).2.2.1 ∈ wsA := wsA_in (tb_6 (List.mem_of_getElem? (i := 22) rfl)) rfl
theorem fl_X11_142 : pFL RX11 RX11 TX11 70 142 := Or.inl (wsA_in (tb_6 (List.mem_of_getElem? (i := 23) rfl)) rfl)
theorem fw_X11_142 : Cond.fieldLink RX11 142 RX11 (TX11 70).2.1 (TX11 70).2.2.1 ∈ wsA := wsA_in (tb_6 (List.mem_of_getElem? (i := 23) rfl)) rfl
theorem fl_X11_145 : pFL RX11 RX11 TX11 71 145 := Or.inl (wsA_in (tb_6 (List.mem_of_getElem? (i := 24) rfl)) rfl)
theorem fw_X11_145 : Cond.fieldLink RX11 145 RX11 (TX11 71).2.1 (TX11 71).2.2.1 ∈ wsA := wsA_in (tb_6 (List.mem_of_getElem? (i := 24) rfl)) rfl
theorem fl_X11_148 : pFL RX11 RX11 TX11 72 148 := Or.inl (wsA_in (tb_6 (List.mem_of_getElem? (i := 25) rfl)) rfl)
theorem fw_X11_148 : Cond.fieldLink RX11 148 RX11 (TX11 72).2.1 (TX11 72).2.2.1 ∈ wsA := wsA_in (tb_6 (List.mem_of_getElem? (i := 25) rfl)) rfl
theorem fl_X11_151 : pFL RX11 RX11 TX11 73 151 := Or.inl (wsA_in (tb_6 (List.mem_of_getElem? (i := 26) rfl)) rfl)
theorem fw_X11_151 : Cond.fieldLink RX11 151 RX11 (TX11 73).2.1 (TX11 73).2.2.1 ∈ wsA := wsA_in (tb_6 (List.mem_of_getElem? (i := 26) rfl)) rfl
theorem fl_X11_154 : pFL RX11 RX11 TX11 74 154 := Or.inl (wsA_in (tb_6 (List.mem_of_getElem? (i := 27) rfl)) rfl)
theorem fw_X11_154 : Cond.fieldLink RX11 154 RX11 (TX11 74).2.1 (TX11 74).2.2.1 ∈ wsA := wsA_in (tb_6 (List.mem_of_getElem? (i := 27) rfl)) rfl
theorem fl_X11_157 : pFL RX11 RX11 TX11 75 157 := Or.inl (wsA_in (tb_6 (List.mem_of_getElem? (i := 28) rfl)) rfl)
theorem fw_X11_157 : Cond.fieldLink RX11 157 RX11 (TX11 75).2.1 (TX11 75).2.2.1 ∈ wsA := wsA_in (tb_6 (List.mem_of_getElem? (i := 28) rfl)) rfl
theorem fl_X11_160 : pFL RX11 RX11 TX11 76 160 := Or.inl (wsA_in (tb_6 (List.mem_of_getElem? (i := 29) rfl)) rfl)
theorem fw_X11_160 : Cond.fieldLink RX11 160 RX11 (TX11 76).2.1 (TX11 76).2.2.1 ∈ wsA := wsA_in (tb_6 (List.mem_of_getElem? (i := 29) rfl)) rfl
theorem fl_X11_163 : pFL RX11 RX11 TX11 79 163 := Or.inl (wsA_in (tb_6 (List.mem_of_getElem? (i := 32) rfl)) rfl)
theorem fw_X11_163 : Cond.fieldLink RX11 163 RX11 (TX11 79).2.1 (TX11 79).2.2.1 ∈ wsA := wsA_in (tb_6 (List.mem_of_getElem? (i := 32) rfl)) rfl
theorem fl_X11_166 : pFL RX11 RX11 TX11 80 166 := Or.inl (wsA_in (tb_6 (List.mem_of_getElem? (i := 33) rfl)) rfl)
theorem fw_X11_166 : Cond.fieldLink RX11 166 RX11 (TX11 80).2.1 (TX11 80).2.2.1 ∈ wsA := wsA_in (tb_6 (List.mem_of_getElem? (i := 33) rfl)) rfl
theorem fl_X11_169 : pFL RX11 RX11 TX11 81 169 := Or.inl (wsA_in (tb_6 (List.mem_of_getElem? (i := 34) rfl)) rfl)
theorem fw_X11_169 : Cond.fieldLink RX11 169 RX11 (TX11 81).2.1 (TX11 81).2.2.1 ∈ wsA := wsA_in (tb_6 (List.mem_of_getElem? (i := 34) rfl)) rfl
theorem fl_X11_172 : pFL RX11 RX11 TX11 82 172 := Or.inl (wsA_in (tb_6 (List.mem_of_getElem? (i := 35) rfl)) rfl)
theorem fw_X11_172 : Cond.fieldLink RX11 172 RX11 (TX11 82).2.1 (TX11 82).2.2.1 ∈ wsA := wsA_in (tb_6 (List.mem_of_getElem? (i := 35) rfl)) rfl
theorem fl_X11_175 : pFL RX11 RX11 TX11 83 175 := Or.inl (wsA_in (tb_6 (List.mem_of_getElem? (i := 36) rfl)) rfl)
theorem fw_X11_175 : Cond.fieldLink RX11 175 RX11 (TX11 83).2.1 (TX11 83).2.2.1 ∈ wsA := wsA_in (tb_6 (List.mem_of_getElem? (i := 36) rfl)) rfl
theorem fl_X11_178 : pFL RX11 RX11 TX11 84 178 := Or.inl (wsA_in (tb_6 (List.mem_of_getElem? (i := 37) rfl)) rfl)
theorem fw_X11_178 : Cond.fieldLink RX11 178 RX11 (TX11 84).2.1 (TX11 84).2.2.1 ∈ wsA := wsA_in (tb_6 (List.mem_of_getElem? (i := 37) rfl)) rfl
theorem fl_X11_181 : pFL RX11 RX11 TX11 85 181 := Or.inl (wsA_in (tb_6 (List.mem_of_getElem? (i := 38) rfl)) rfl)
theorem fw_X11_181 : Cond.fieldLink RX11 181 RX11 (TX11 85).2.1 (TX11 85).2.2.1 ∈ wsA := wsA_in (tb_6 (List.mem_of_getElem? (i := 38) rfl)) rfl
theorem fl_X11_184 : pFL RX11 RX11 TX11 86 184 := Or.inl (wsA_in (tb_6 (List.mem_of_getElem? (i := 39) rfl)) rfl)
theorem fw_X11_184 : Cond.fieldLink RX11 184 RX11 (TX11 86).2.1 (TX11 86).2.2.1 ∈ wsA := wsA_in (tb_6 (List.mem_of_getElem? (i := 39) rfl)) rfl
theorem fl_X11_187 : pFL RX11 RX11 TX11 87 187 := Or.inl (wsA_in (tb_6 (List.mem_of_getElem? (i := 40) rfl)) rfl)
theorem fw_X11_187 : Cond.fieldLink RX11 187 RX11 (TX11 87).2.1 (TX11 87).2.2.1 ∈ wsA := wsA_in (tb_6 (List.mem_of_getElem? (i := 40) rfl)) rfl
theorem fl_X11_190 : pFL RX11 RX11 TX11 88 190 := Or.inl (wsA_in (tb_6 (List.mem_of_getElem? (i := 41) rfl)) rfl)
theorem fw_X11_190 : Cond.fieldLink RX11 190 RX11 (TX11 88).2.1 (TX11 88).2.2.1 ∈ wsA := wsA_in (tb_6 (List.mem_of_getElem? (i := 41) rfl)) rfl
theorem fl_X11_193 : pFL RX11 RX11 TX11 89 193 := Or.inl (wsA_in (tb_6 (List.mem_of_getElem? (i := 42) rfl)) rfl)
theorem fw_X11_193 : Cond.fieldLink RX11 193 RX11 (TX11 89).2.1 (TX11 89).2.2.1 ∈ wsA := wsA_in (tb_6 (List.mem_of_getElem? (i := 42) rfl)) rfl
theorem fl_X11_196 : pFL RX11 RX11 TX11 90 196 := Or.inl (wsA_in (tb_6 (List.mem_of_getElem? (i := 43) rfl)) rfl)
theorem fw_X11_196 : Cond.fieldLink RX11 196 RX11 (TX11 90).2.1 (TX11 90).2.2.1 ∈ wsA := wsA_in (tb_6 (List.mem_of_getElem? (i := 43) rfl)) rfl
theorem fl_X11_199 : pFL RX11 RX11 TX11 91 199 := Or.inl (wsA_in (tb_6 (List.mem_of_getElem? (i := 44) rfl)) rfl)
theorem fw_X11_199 : Cond.fieldLink RX11 199 RX11 (TX11 91).2.1 (TX11 91).2.2.1 ∈ wsA := wsA_in (tb_6 (List.mem_of_getElem? (i := 44) rfl)) rfl
theorem fl_X11_202 : pFL RX11 RX11 TX11 92 202 := Or.inl (wsA_in (tb_6 (List.mem_of_getElem? (i := 45) rfl)) rfl)
theorem fw_X11_202 : Cond.fieldLink RX11 202 RX11 (TX11 92).2.1 (TX11 92).2.2.1 ∈ wsA := wsA_in (tb_6 (List.mem_of_getElem? (i := 45) rfl)) rfl
theorem fl_X11_205 : pFL RX11 RX11 TX11 93 205 := Or.inl (wsA_in (tb_6 (List.mem_of_getElem? (i := 46) rfl)) rfl)
theorem fw_X11_205 : Cond.fieldLink RX11 205 RX11 (TX11 93).2.1 (TX11 93).2.2.1 ∈ wsA := wsA_in (tb_6 (List.mem_of_getElem? (i := 46) rfl)) rfl
theorem fl_X11_208 : pFL RX11 RX11 TX11 94 208 := Or.inl (wsA_in (tb_6 (List.mem_of_getElem? (i := 47) rfl)) rfl)
theorem fw_X11_208 : Cond.fieldLink RX11 208 RX11 (TX11 94).2.1 (TX11 94).2.2.1 ∈ wsA := wsA_in (tb_6 (List.mem_of_getElem? (i := 47) rfl)) rfl
theorem fl_X11_211 : pFL RX11 RX11 TX11 95 211 := Or.inl (wsA_in (tb_6 (List.mem_of_getElem? (i := 48) rfl)) rfl)
theorem fw_X11_211 : Cond.fieldLink RX11 211 RX11 (TX11 95).2.1 (TX11 95).2.2.1 ∈ wsA := wsA_in (tb_6 (List.mem_of_getElem? (i := 48) rfl)) rfl
theorem fl_X11_214 : pFL RX11 RX11 TX11 96 214 := Or.inl (wsA_in (tb_6 (List.mem_of_getElem? (i := 49) rfl)) rfl)
theorem fw_X11_214 : Cond.fieldLink RX11 214 RX11 (TX11 96).2.1 (TX11 96).2.2.1 ∈ wsA := wsA_in (tb_6 (List.mem_of_getElem? (i := 49) rfl)) rfl
theorem fl_X11_217 : pFL RX11 RX11 TX11 97 217 := Or.inl (wsA_in (tb_6 (List.mem_of_getElem? (i := 50) rfl)) rfl)
theorem fw_X11_217 : Cond.fieldLink RX11 217 RX11 (TX11 97).2.1 (TX11 97).2.2.1 ∈ wsA := wsA_in (tb_6 (List.mem_of_getElem? (i := 50) rfl)) rfl
theorem fl_X11_220 : pFL RX11 RX11 TX11 98 220 := Or.inl (wsA_in (tb_6 (List.mem_of_getElem? (i := 51) rfl)) rfl)
theorem fw_X11_220 : Cond.fieldLink RX11 220 RX11 (TX11 98).2.1 (TX11 98).2.2.1 ∈ wsA := wsA_in (tb_6 (List.mem_of_getElem? (i := 51) rfl)) rfl
theorem fl_X11_223 : pFL RX11 RX11 TX11 99 223 := Or.inl (wsA_in (tb_6 (List.mem_of_getElem? (i := 52) rfl)) rfl)
theorem fw_X11_223 : Cond.fieldLink RX11 223 RX11 (TX11 99).2.1 (TX11 99).2.2.1 ∈ wsA := wsA_in (tb_6 (List.mem_of_getElem? (i := 52) rfl)) rfl
theorem fl_X11_226 : pFL RX11 RX11 TX11 100 226 := Or.inl (wsA_in (tb_6 (List.mem_of_getElem? (i := 53) rfl)) rfl)
theorem fw_X11_226 : Cond.fieldLink RX11 226 RX11 (TX11 100).2.1 (TX11 100).2.2.1 ∈ wsA := wsA_in (tb_6 (List.mem_of_getElem? (i := 53) rfl)) rfl
theorem fl_X11_229 : pFL RX11 RX11 TX11 101 229 := Or.inl (wsA_in (tb_6 (List.mem_of_getElem? (i := 54) rfl)) rfl)
theorem fw_X11_229 : Cond.fieldLink RX11 229 RX11 (TX11 101).2.1 (TX11 101).2.2.1 ∈ wsA := wsA_in (tb_6 (List.mem_of_getElem? (i := 54) rfl)) rfl
theorem fl_X11_233 : pFL RX11 RX11 TX11 1 233 := Or.inl (wsA_in (tb_5 (List.mem_of_getElem? (i := 194) rfl)) rfl)
theorem fw_X11_233 : Cond.fieldLink RX11 233 RX11 (TX11 1).2.1 (TX11 1).2.2.1 ∈ wsA := wsA_in (tb_5 (List.mem_of_getElem? (i := 194) rfl)) rfl
theorem fl_X11_240 : pFL RX11 RX11 TX11 4 240 := Or.inl (wsA_in (tb_5 (List.mem_of_getElem? (i := 197) rfl)) rfl)
theorem fw_X11_240 : Cond.fieldLink RX11 240 RX11 (TX11 4).2.1 (TX11 4).2.2.1 ∈ wsA := wsA_in (tb_5 (List.mem_of_getElem? (i := 197) rfl)) rfl
theorem fl_X11_243 : pFL RX11 RX11 TX11 5 243 := Or.inl (wsA_in (tb_5 (List.mem_of_getElem? (i := 198) rfl)) rfl)
theorem fw_X11_243 : Cond.fieldLink RX11 243 RX11 (TX11 5).2.1 (TX11 5).2.2.1 ∈ wsA := wsA_in (tb_5 (List.mem_of_getElem? (i := 198) rfl)) rfl
theorem fl_X11_250 : pFL RX11 RX11 TX11 7 250 := Or.inl (wsA_in (tb_5 (List.mem_of_getElem? (i := 200) rfl)) rfl)
theorem fw_X11_250 : Cond.fieldLink RX11 250 RX11 (TX11 7).2.1 (TX11 7).2.2.1 ∈ wsA := wsA_in (tb_5 (List.mem_of_getElem? (i := 200) rfl)) rfl
theorem fl_X11_253 : pFL RX11 RX11 TX11 9 253 := Or.inl (wsA_in (tb_5 (List.mem_of_getElem? (i := 202) rfl)) rfl)
theorem fw_X11_253 : Cond.fieldLink RX11 253 RX11 (TX11 9).2.1 (TX11 9).2.2.1 ∈ wsA := wsA_in (tb_5 (List.mem_of_getElem? (i := 202) rfl)) rfl
theorem fl_X11_257 : pFL RX11 RX11 TX11 8 257 := Or.inl (wsA_in (tb_5 (List.mem_of_getElem? (i := 201) rfl)) rfl)
theorem fw_X11_257 : Cond.fieldLink RX11 257 RX11 (TX11 8).2.1 (TX11 8).2.2.1 ∈ wsA := wsA_in (tb_5 (List.mem_of_getElem? (i := 201) rfl)) rfl
theorem fl_X11_260 : pFL RX11 RX11 TX11 6 260 := Or.inl (wsA_in (tb_5 (List.mem_of_getElem? (i := 199) rfl)) rfl)
theorem fw_X11_260 : Cond.fieldLink RX11 260 RX11 (TX11 6).2.1 (TX11 6).2.2.1 ∈ wsA := wsA_in (tb_5 (List.mem_of_getElem? (i := 199) rfl)) rfl
theorem fl_X11_273 : pFL RX11 RX11 TX11 2 273 := Or.inl (wsA_in (tb_5 (List.mem_of_getElem? (i := 195) rfl)) rfl)
theorem fw_X11_273 : Cond.fieldLink RX11 273 RX11 (TX11 2).2.1 (TX11 2).2.2.1 ∈ wsA := wsA_in (tb_5 (List.mem_of_getElem? (i := 195) rfl)) rfl
theorem fl_X11_322 : pFL RX11 RX11 TX11 17 322 := Or.inl (wsA_in (tb_5 (List.mem_of_getElem? (i := 210) rfl)) rfl)
theorem fw_X11_322 : Cond.fieldLink RX11 322 RX11 (TX11 17).2.1 (TX11 17).2.2.1 ∈ wsA := wsA_in (tb_5 (List.mem_of_getElem? (i := 210) rfl)) rfl
theorem fl_X11_325 : pFL RX11 RX11 TX11 18 325 := Or.inl (wsA_in (tb_5 (List.mem_of_getElem? (i := 211) rfl)) rfl)
theorem fw_X11_325 : Cond.fieldLink RX11 325 RX11 (TX11 18).2.1 (TX11 18).2.2.1 ∈ wsA := wsA_in (tb_5 (List.mem_of_getElem? (i := 211) rfl)) rfl
theorem fl_X11_346 : pFL RX11 RX11 TX11 21 346 := Or.inl (wsA_in (tb_5 (List.mem_of_getElem? (i := 214) rfl)) rfl)
theorem fw_X11_346 : Cond.fieldLink RX11 346 RX11 (TX11 21).2.1 (TX11 21).2.2.1 ∈ wsA := wsA_in (tb_5 (List.mem_of_getElem? (i := 214) rfl)) rfl
theorem fl_X11_354 : pFL RX11 RX11 TX11 19 354 := Or.inl (wsA_in (tb_5 (List.mem_of_getElem? (i := 212) rfl)) rfl)
theorem fw_X11_354 : Cond.fieldLink RX11 354 RX11 (TX11 19).2.1 (TX11 19).2.2.1 ∈ wsA := wsA_in (tb_5 (List.mem_of_getElem? (i := 212) rfl)) rfl
theorem fl_X11_357 : pFL RX11 RX11 TX11 20 357 := Or.inl (wsA_in (tb_5 (List.mem_of_getElem? (i := 213) rfl)) rfl)
theorem fw_X11_357 : Cond.fieldLink RX11 357 RX11 (TX11 20).2.1 (TX11 20).2.2.1 ∈ wsA := wsA_in (tb_5 (List.mem_of_getElem? (i := 213) rfl)) rfl
theorem fl_X11_366 : pFL RX11 RX11 TX11 30 366 := Or.inl (wsA_in (tb_5 (List.mem_of_getElem? (i := 223) rfl)) rfl)
theorem fw_X11_366 : Cond.fieldLink RX11 366 RX11 (TX11 30).2.1 (TX11 30).2.2.1 ∈ wsA := wsA_in (tb_5 (List.mem_of_getElem? (i := 223) rfl)) rfl
theorem fl_X11_369 : pFL RX11 RX11 TX11 31 369 := Or.inl (wsA_in (tb_5 (List.mem_of_getElem? (i := 224) rfl)) rfl)
theorem fw_X11_369 : Cond.fieldLink RX11 369 RX11 (TX11 31).2.1 (TX11 31).2.2.1 ∈ wsA := wsA_in (tb_5 (List.mem_of_getElem? (i := 224) rfl)) rfl
theorem fl_X11_372 : pFL RX11 RX11 TX11 32 372 := Or.inl (wsA_in (tb_5 (List.mem_of_getElem? (i := 225) rfl)) rfl)
theorem fw_X11_372 : Cond.fieldLink RX11 372 RX11 (TX11 32).2.1 (TX11 32).2.2.1 ∈ wsA := wsA_in (tb_5 (List.mem_of_getElem? (i := 225) rfl)) rfl
theorem fl_X11_375 : pFL RX11 RX11 TX11 33 375 := Or.inl (wsA_in (tb_5 (List.mem_of_getElem? (i := 226) rfl)) rfl)
theorem fw_X11_375 : Cond.fieldLink RX11 375 RX11 (TX11 33).2.1 (TX11 33).2.2.1 ∈ wsA := wsA_in (tb_5 (List.mem_of_getElem? (i := 226) rfl)) rfl
theorem fl_X11_378 : pFL RX11 RX11 TX11 65 378 := Or.inl (wsA_in (tb_6 (List.mem_of_getElem? (i := 18) rfl)) rfl)
theorem fw_X11_378 : Cond.fieldLink RX11 378 RX11 (TX11 65).2.1 (TX11 65).2.2.1 ∈ wsA := wsA_in (tb_6 (List.mem_of_getElem? (i := 18) rfl)) rfl
theorem fl_X11_381 : pFL RX11 RX11 TX11 78 381 := Or.inl (wsA_in (tb_6 (List.mem_of_getElem? (i := 31) rfl)) rfl)
theorem fw_X11_381 : Cond.fieldLink RX11 381 RX11 (TX11 78).2.1 (TX11 78).2.2.1 ∈ wsA := wsA_in (tb_6 (List.mem_of_getElem? (i := 31) rfl)) rfl
theorem fl_X11_390 : pFL RX11 RX11 TX11 44 390 := Or.inl (wsA_in (tb_5 (List.mem_of_getElem? (i := 237) rfl)) rfl)
theorem fw_X11_390 : Cond.fieldLink RX11 390 RX11 (TX11 44).2.1 (TX11 44).2.2.1 ∈ wsA := wsA_in (tb_5 (List.mem_of_getElem? (i := 237) rfl)) rfl
theorem fl_X11_393 : pFL RX11 RX11 TX11 48 393 := Or.inl (wsA_in (tb_6 (List.mem_of_getElem? (i := 1) rfl)) rfl)
theorem fw_X11_393 : Cond.fieldLink RX11 393 RX11 (TX11 48).2.1 (TX11 48).2.2.1 ∈ wsA := wsA_in (tb_6 (List.mem_of_getElem? (i := 1) rfl)) rfl
theorem fl_X11_396 : pFL RX11 RX11 TX11 49 396 := Or.inl (wsA_in (tb_6 (List.mem_of_getElem? (i := 2) rfl)) rfl)
theorem fw_X11_396 : Cond.fieldLink RX11 396 RX11 (TX11 49).2.1 (TX11 49).2.2.1 ∈ wsA := wsA_in (tb_6 (List.mem_of_getElem? (i := 2) rfl)) rfl
theorem fl_X11_425 : pFL RX11 RX11 TX11 45 425 := Or.inl (wsA_in (tb_5 (List.mem_of_getElem? (i := 238) rfl)) rfl)
theorem fw_X11_425 : Cond.fieldLink RX11 425 RX11 (TX11 45).2.1 (TX11 45).2.2.1 ∈ wsA := wsA_in (tb_5 (List.mem_of_getElem? (i := 238) rfl)) rfl
theorem fl_X11_428 : pFL RX11 RX11 TX11 50 428 := Or.inl (wsA_in (tb_6 (List.mem_of_getElem? (i := 3) rfl)) rfl)
theorem fw_X11_428 : Cond.fieldLink RX11 428 RX11 (TX11 50).2.1 (TX11 50).2.2.1 ∈ wsA := wsA_in (tb_6 (List.mem_of_getElem? (i := 3) rfl)) rfl
theorem fl_X11_443 : pFL RX11 RX11 TX11 46 443 := Or.inl (wsA_in (tb_5 (List.mem_of_getElem? (i := 239) rfl)) rfl)
theorem fw_X11_443 : Cond.fieldLink RX11 443 RX11 (TX11 46).2.1 (TX11 46).2.2.1 ∈ wsA := wsA_in (tb_5 (List.mem_of_getElem? (i := 239) rfl)) rfl
theorem fl_X11_446 : pFL RX11 RX11 TX11 51 446 := Or.inl (wsA_in (tb_6 (List.mem_of_getElem? (i := 4) rfl)) rfl)
theorem fw_X11_446 : Cond.fieldLink RX11 446 RX11 (TX11 51).2.1 (TX11 51).2.2.1 ∈ wsA := wsA_in (tb_6 (List.mem_of_getElem? (i := 4) rfl)) rfl
theorem fl_X11_449 : pFL RX11 RX11 TX11 52 449 := Or.inl (wsA_in (tb_6 (List.mem_of_getElem? (i := 5) rfl)) rfl)
theorem fw_X11_449 : Cond.fieldLink RX11 449 RX11 (TX11 52).2.1 (TX11 52).2.2.1 ∈ wsA := wsA_in (tb_6 (List.mem_of_getElem? (i := 5) rfl)) rfl
theorem fl_X11_509 : pFL RX11 RX11 TX11 64 509 := Or.inl (wsA_in (tb_6 (List.mem_of_getElem? (i := 17) rfl)) rfl)
theorem fw_X11_509 : Cond.fieldLink RX11 509 RX11 (TX11 64).2.1 (TX11 64).2.2.1 ∈ wsA := wsA_in (tb_6 (List.mem_of_getElem? (i := 17) rfl)) rfl
theorem fl_X11_530 : pFL RX11 RX11 TX11 77 530 := Or.inl (wsA_in (tb_6 (List.mem_of_getElem? (i := 30) rfl)) rfl)
theorem fw_X11_530 : Cond.fieldLink RX11 530 RX11 (TX11 77).2.1 (TX11 77).2.2.1 ∈ wsA := wsA_in (tb_6 (List.mem_of_getElem? (i := 30) rfl)) rfl
theorem ml_X10_15 : pML RX10 15 yX9_init := Or.inr ⟨"SkiMountain", wsN_in (tb_1 (List.mem_of_getElem? (i := 30) rfl)) rfl⟩
theorem ml_X10_26 : pML RX10 26 yX6_init := Or.inr ⟨"SkiMountain", wsN_in (tb_1 (List.mem_of_getElem? (i := 64) rfl)) rfl⟩
theorem ml_X10_33 : pML RX10 33 yX2_init := Or.inl (wsA_in (tb_1 (List.mem_of_getElem? (i := 147) rfl)) rfl)
theorem ml_X10_42 : pML RX10 42 yX8_init := Or.inl (wsA_in (tb_1 (List.mem_of_getElem? (i := 185) rfl)) rfl)
theorem ml_X10_52 : pML RX10 52 yX3_init := Or.inl (wsA_in (tb_1 (List.mem_of_getElem? (i := 220) rfl)) rfl)
theorem ml_X10_61 : pML RX10 61 yX4_init := Or.inl (wsA_in (tb_2 (List.mem_of_getElem? (i := 22) rfl)) rfl)
theorem ml_X10_76 : pML RX10 76 yX0_init := Or.inr ⟨"SkiMountain", wsN_in (tb_2 (List.mem_of_getElem? (i := 40) rfl)) rfl⟩
theorem ml_X10_83 : pML RX10 83 yX1_init := Or.inl (wsA_in (tb_2 (List.mem_of_getElem? (i := 73) rfl)) rfl)
theorem ml_X10_92 : pML RX10 92 yX7_init := Or.inl (wsA_in (tb_2 (List.mem_of_getElem? (i := 125) rfl)) rfl)
theorem ml_X10_100 : pML RX10 100 yX10_putOnTape := Or.inl (wsA_in (tb_3 (List.mem_of_getElem? (i := 2) rfl)) rfl)
theorem ml_X10_103 : pML RX10 103 yX10_cutTape := Or.inl (wsA_in (tb_3 (List.mem_of_getElem? (i := 14) rfl)) rfl)
theorem ml_X10_106 : pML RX10 106 yX6_read := Or.inl (wsA_in (tb_3 (List.mem_of_getElem? (i := 160) rfl)) rfl)
theorem ml_X10_110 : pML RX10 110 yX10_keepFault := Or.inl (wsA_in (tb_3 (List.mem_of_getElem? (i := 217) rfl)) rfl)
theorem ml_X10_119 : pML RX10 119 yX0_forgetWays := Or.inl (wsA_in (tb_3 (List.mem_of_getElem? (i := 221) rfl)) rfl)
theorem ml_X10_126 : pML RX10 126 yX7_forget := Or.inr ⟨"SkiMountain", wsN_in (tb_3 (List.mem_of_getElem? (i := 226) rfl)) rfl⟩
theorem ml_X10_133 : pML RX10 133 yX2_read := Or.inl (wsA_in (tb_3 (List.mem_of_getElem? (i := 231) rfl)) rfl)
theorem ml_X10_138 : pML RX10 138 yX10_within := Or.inl (wsA_in (tb_4 (List.mem_of_getElem? (i := 50) rfl)) rfl)
theorem ml_X10_145 : pML RX10 145 yX8_tell := Or.inl (wsA_in (tb_4 (List.mem_of_getElem? (i := 51) rfl)) rfl)
theorem ml_X10_149 : pML RX10 149 yX8_takeBack := Or.inl (wsA_in (tb_4 (List.mem_of_getElem? (i := 59) rfl)) rfl)
theorem ml_X10_153 : pML RX10 153 yX10_look := Or.inl (wsA_in (tb_4 (List.mem_of_getElem? (i := 73) rfl)) rfl)
theorem ml_X10_163 : pML RX10 163 yX6_has := Or.inl (wsA_in (tb_4 (List.mem_of_getElem? (i := 105) rfl)) rfl)
theorem ml_X10_167 : pML RX10 167 yX3_isOpen := Or.inl (wsA_in (tb_4 (List.mem_of_getElem? (i := 106) rfl)) rfl)
theorem ml_X10_170 : pML RX10 170 yX10_canAsk := Or.inl (wsA_in (tb_4 (List.mem_of_getElem? (i := 121) rfl)) rfl)
theorem ml_X10_174 : pML RX10 174 yX4_firstMinuteAt := Or.inl (wsA_in (tb_4 (List.mem_of_getElem? (i := 125) rfl)) rfl)
theorem ml_X10_177 : pML RX10 177 yX4_wayOf := Or.inl (wsA_in (tb_4 (List.mem_of_getElem? (i := 158) rfl)) rfl)
theorem ml_X10_184 : pML RX10 184 yX4_lastMinuteAt := Or.inl (wsA_in (tb_4 (List.mem_of_getElem? (i := 184) rfl)) rfl)
theorem mj_X10_188 : Cond.methodLink RX10 188 yJ9_min_7cf53 ∈ wsA := wsA_in (tb_4 (List.mem_of_getElem? (i := 188) rfl)) rfl
theorem ml_X10_197 : pML RX10 197 yX5_init := Or.inl (wsA_in (tb_4 (List.mem_of_getElem? (i := 194) rfl)) rfl)
theorem ml_X10_207 : pML RX10 207 yX10_seen := Or.inl (wsA_in (tb_5 (List.mem_of_getElem? (i := 0) rfl)) rfl)
theorem ml_X10_211 : pML RX10 211 yX5_canStand := Or.inl (wsA_in (tb_5 (List.mem_of_getElem? (i := 43) rfl)) rfl)
theorem ml_X10_214 : pML RX10 214 yX5_canRide := Or.inl (wsA_in (tb_5 (List.mem_of_getElem? (i := 51) rfl)) rfl)
theorem ml_X10_217 : pML RX10 217 yX0_addArrivals := Or.inl (wsA_in (tb_5 (List.mem_of_getElem? (i := 68) rfl)) rfl)
theorem ml_X10_223 : pML RX10 223 yX0_addTurn := Or.inl (wsA_in (tb_5 (List.mem_of_getElem? (i := 76) rfl)) rfl)
theorem ml_X10_232 : pML RX10 232 yX1_runThrough := Or.inl (wsA_in (tb_5 (List.mem_of_getElem? (i := 88) rfl)) rfl)
theorem ml_X10_235 : pML RX10 235 yX1_standing := Or.inl (wsA_in (tb_5 (List.mem_of_getElem? (i := 143) rfl)) rfl)
theorem ml_X10_254 : pML RX10 254 yX7_least := Or.inl (wsA_in (tb_5 (List.mem_of_getElem? (i := 163) rfl)) rfl)
theorem ml_X10_260 : pML RX10 260 yX9_cut := Or.inl (wsA_in (tb_3 (List.mem_of_getElem? (i := 18) rfl)) rfl)
theorem ml_X10_272 : pML RX10 272 yX3_look := Or.inl (wsA_in (tb_4 (List.mem_of_getElem? (i := 77) rfl)) rfl)
theorem ml_X10_277 : pML RX10 277 yX5_reckon := Or.inl (wsA_in (tb_5 (List.mem_of_getElem? (i := 4) rfl)) rfl)
theorem ml_X0_27 : pML RX0 27 yJ7_fill_53178 := Or.inl (wsA_in (tb_3 (List.mem_of_getElem? (i := 225) rfl)) rfl)
theorem ml_X1_50 : pML RX1 50 yX1_begin := Or.inl (wsA_in (tb_5 (List.mem_of_getElem? (i := 92) rfl)) rfl)
theorem ml_X1_53 : pML RX1 53 yX1_letSnow := Or.inl (wsA_in (tb_5 (List.mem_of_getElem? (i := 97) rfl)) rfl)
theorem ml_X1_57 : pML RX1 57 yX1_takeTurns := Or.inl (wsA_in (tb_5 (List.mem_of_getElem? (i := 102) rfl)) rfl)
theorem ml_X1_73 : pML RX1 73 yX1_letOn := Or.inl (wsA_in (tb_5 (List.mem_of_getElem? (i := 133) rfl)) rfl)
theorem ml_X1_77 : pML RX1 77 yX1_keep := Or.inl (wsA_in (tb_5 (List.mem_of_getElem? (i := 139) rfl)) rfl)
theorem ml_X1_84 : pML RX1 84 yJ7_fill_53178 := Or.inl (wsA_in (tb_5 (List.mem_of_getElem? (i := 96) rfl)) rfl)
theorem ml_X1_105 : pML RX1 105 yX10_hourOf := Or.inr ⟨"SkiMountain", wsN_in (tb_5 (List.mem_of_getElem? (i := 101) rfl)) rfl⟩
theorem ml_X1_121 : pML RX1 121 yX1_takeRounds := Or.inl (wsA_in (tb_5 (List.mem_of_getElem? (i := 106) rfl)) rfl)
theorem ml_X1_124 : pML RX1 124 yX1_takeable := Or.inl (wsA_in (tb_5 (List.mem_of_getElem? (i := 121) rfl)) rfl)
theorem ml_X1_131 : pML RX1 131 yX1_take := Or.inl (wsA_in (tb_5 (List.mem_of_getElem? (i := 125) rfl)) rfl)
theorem ml_X1_138 : pML RX1 138 yX1_isTakeable := Or.inl (wsA_in (tb_5 (List.mem_of_getElem? (i := 110) rfl)) rfl)
theorem ml_X1_142 : pML RX1 142 yX1_roundsOf := Or.inl (wsA_in (tb_5 (List.mem_of_getElem? (i := 115) rfl)) rfl)
theorem mj_X1_146 : Cond.methodLink RX1 146 yJ9_min_7cf53 ∈ wsA := wsA_in (tb_5 (List.mem_of_getElem? (i := 120) rfl)) rfl
theorem ml_X1_152 : pML RX1 152 yX3_isShut := Or.inl (wsA_in (tb_5 (List.mem_of_getElem? (i := 114) rfl)) rfl)
theorem ml_X1_158 : pML RX1 158 yX1_start := Or.inl (wsA_in (tb_5 (List.mem_of_getElem? (i := 129) rfl)) rfl)
theorem ml_X1_167 : pML RX1 167 yX3_isOpen := Or.inl (wsA_in (tb_5 (List.mem_of_getElem? (i := 137) rfl)) rfl)
theorem mj_X1_176 : Cond.methodLink RX1 176 yJ9_max_7cf53 ∈ wsA := wsA_in (tb_5 (List.mem_of_getElem? (i := 138) rfl)) rfl
theorem mj_X2_21 : Cond.methodLink RX2 21 yJ9_max_7cf53 ∈ wsA := wsA_in (tb_1 (List.mem_of_getElem? (i := 151) rfl)) rfl
theorem ml_X2_33 : pML RX2 33 yX2_isWordUnit := Or.inl (wsA_in (tb_4 (List.mem_of_getElem? (i := 31) rfl)) rfl)
theorem ml_X2_37 : pML RX2 37 yX2_unit := Or.inl (wsA_in (tb_4 (List.mem_of_getElem? (i := 95) rfl)) rfl)
theorem ml_X2_41 : pML RX2 41 yX2_joined := Or.inl (wsA_in (tb_4 (List.mem_of_getElem? (i := 98) rfl)) rfl)
theorem ml_X2_71 : pML RX2 71 yX9_kind := Or.inl (wsA_in (tb_3 (List.mem_of_getElem? (i := 235) rfl)) rfl)
theorem ml_X2_77 : pML RX2 77 yX2_readLine := Or.inl (wsA_in (tb_3 (List.mem_of_getElem? (i := 236) rfl)) rfl)
theorem ml_X2_85 : pML RX2 85 yX9_expect := Or.inl (wsA_in (tb_4 (List.mem_of_getElem? (i := 0) rfl)) rfl)
theorem ml_X2_92 : pML RX2 92 yX9_fail := Or.inl (wsA_in (tb_4 (List.mem_of_getElem? (i := 1) rfl)) rfl)
theorem ml_X2_95 : pML RX2 95 yX9_step := Or.inl (wsA_in (tb_4 (List.mem_of_getElem? (i := 2) rfl)) rfl)
theorem ml_X2_101 : pML RX2 101 yX2_readEither := Or.inl (wsA_in (tb_4 (List.mem_of_getElem? (i := 3) rfl)) rfl)
theorem ml_X2_105 : pML RX2 105 yX2_readBoth := Or.inl (wsA_in (tb_4 (List.mem_of_getElem? (i := 7) rfl)) rfl)
theorem ml_X2_108 : pML RX2 108 yX2_put := Or.inl (wsA_in (tb_4 (List.mem_of_getElem? (i := 35) rfl)) rfl)
theorem ml_X2_112 : pML RX2 112 yX2_readOne := Or.inl (wsA_in (tb_4 (List.mem_of_getElem? (i := 11) rfl)) rfl)
theorem ml_X2_115 : pML RX2 115 yX2_readNested := Or.inl (wsA_in (tb_4 (List.mem_of_getElem? (i := 15) rfl)) rfl)
theorem ml_X2_118 : pML RX2 118 yX2_readComparison := Or.inl (wsA_in (tb_4 (List.mem_of_getElem? (i := 19) rfl)) rfl)
theorem ml_X2_121 : pML RX2 121 yX2_readSum := Or.inl (wsA_in (tb_4 (List.mem_of_getElem? (i := 23) rfl)) rfl)
theorem ml_X2_124 : pML RX2 124 yX2_readUnit := Or.inl (wsA_in (tb_4 (List.mem_of_getElem? (i := 27) rfl)) rfl)
theorem ml_X2_127 : pML RX2 127 yX2_isPlusOrMinus := Or.inl (wsA_in (tb_4 (List.mem_of_getElem? (i := 39) rfl)) rfl)
theorem ml_X2_133 : pML RX2 133 yX9_value := Or.inl (wsA_in (tb_4 (List.mem_of_getElem? (i := 34) rfl)) rfl)
theorem ml_X3_35 : pML RX3 35 yJ7_fill_53178 := Or.inl (wsA_in (tb_4 (List.mem_of_getElem? (i := 81) rfl)) rfl)
theorem ml_X3_46 : pML RX3 46 yX8_counts := Or.inl (wsA_in (tb_4 (List.mem_of_getElem? (i := 82) rfl)) rfl)
theorem ml_X3_59 : pML RX3 59 yX3_shutIn := Or.inl (wsA_in (tb_4 (List.mem_of_getElem? (i := 86) rfl)) rfl)
theorem ml_X3_63 : pML RX3 63 yX6_has := Or.inl (wsA_in (tb_4 (List.mem_of_getElem? (i := 90) rfl)) rfl)
theorem ml_X3_69 : pML RX3 69 yX2_shuts := Or.inl (wsA_in (tb_4 (List.mem_of_getElem? (i := 91) rfl)) rfl)
theorem ml_X3_75 : pML RX3 75 yX10_hourOf := Or.inr ⟨"SkiMountain", wsN_in (tb_4 (List.mem_of_getElem? (i := 114) rfl)) rfl⟩
theorem ml_X3_85 : pML RX3 85 yX3_isShut := Or.inl (wsA_in (tb_4 (List.mem_of_getElem? (i := 110) rfl)) rfl)
theorem mj_X3_88 : Cond.methodLink RX3 88 yJ9_max_7cf53 ∈ wsA := wsA_in (tb_4 (List.mem_of_getElem? (i := 148) rfl)) rfl
theorem mj_X3_94 : Cond.methodLink RX3 94 yJ9_min_7cf53 ∈ wsA := wsA_in (tb_4 (List.mem_of_getElem? (i := 175) rfl)) rfl
theorem ml_X4_23 : pML RX4 23 yJ7_fill_53178 := Or.inl (wsA_in (tb_4 (List.mem_of_getElem? (i := 130) rfl)) rfl)
theorem ml_X4_35 : pML RX4 35 yX6_has := Or.inl (wsA_in (tb_4 (List.mem_of_getElem? (i := 131) rfl)) rfl)
theorem ml_X4_41 : pML RX4 41 yX4_comesEarlier := Or.inl (wsA_in (tb_4 (List.mem_of_getElem? (i := 132) rfl)) rfl)
theorem ml_X4_51 : pML RX4 51 yX4_behind := Or.inl (wsA_in (tb_4 (List.mem_of_getElem? (i := 136) rfl)) rfl)
theorem ml_X4_55 : pML RX4 55 yX6_fits := Or.inl (wsA_in (tb_4 (List.mem_of_getElem? (i := 140) rfl)) rfl)
theorem ml_X4_58 : pML RX4 58 yX3_firstOpen := Or.inl (wsA_in (tb_4 (List.mem_of_getElem? (i := 144) rfl)) rfl)
theorem ml_X4_62 : pML RX4 62 yX6_minutes := Or.inl (wsA_in (tb_4 (List.mem_of_getElem? (i := 149) rfl)) rfl)
theorem ml_X4_65 : pML RX4 65 yX4_firstMinuteAt := Or.inl (wsA_in (tb_4 (List.mem_of_getElem? (i := 162) rfl)) rfl)
theorem ml_X4_69 : pML RX4 69 yX4_findLatest := Or.inl (wsA_in (tb_4 (List.mem_of_getElem? (i := 163) rfl)) rfl)
theorem ml_X4_73 : pML RX4 73 yX4_nextWay := Or.inl (wsA_in (tb_4 (List.mem_of_getElem? (i := 176) rfl)) rfl)
theorem ml_X4_76 : pML RX4 76 yX4_goesLater := Or.inl (wsA_in (tb_4 (List.mem_of_getElem? (i := 167) rfl)) rfl)
theorem ml_X4_79 : pML RX4 79 yX3_lastOpen := Or.inl (wsA_in (tb_4 (List.mem_of_getElem? (i := 171) rfl)) rfl)
theorem ml_X5_45 : pML RX5 45 yX6_minutes := Or.inl (wsA_in (tb_5 (List.mem_of_getElem? (i := 8) rfl)) rfl)
theorem ml_X5_50 : pML RX5 50 yX5_findPasses := Or.inl (wsA_in (tb_5 (List.mem_of_getElem? (i := 9) rfl)) rfl)
theorem ml_X5_54 : pML RX5 54 yX5_findBeginnings := Or.inl (wsA_in (tb_5 (List.mem_of_getElem? (i := 15) rfl)) rfl)
theorem ml_X5_58 : pML RX5 58 yX5_findReached := Or.inl (wsA_in (tb_5 (List.mem_of_getElem? (i := 27) rfl)) rfl)
theorem ml_X5_61 : pML RX5 61 yX5_findGoesOn := Or.inl (wsA_in (tb_5 (List.mem_of_getElem? (i := 35) rfl)) rfl)
theorem mj_X5_64 : Cond.methodLink RX5 64 yJ9_max_7cf53 ∈ wsA := wsA_in (tb_5 (List.mem_of_getElem? (i := 55) rfl)) rfl
theorem ml_X5_72 : pML RX5 72 yX5_leadsOn := Or.inl (wsA_in (tb_5 (List.mem_of_getElem? (i := 39) rfl)) rfl)
theorem ml_X5_76 : pML RX5 76 yJ7_fill_53178 := Or.inl (wsA_in (tb_5 (List.mem_of_getElem? (i := 13) rfl)) rfl)
theorem ml_X5_90 : pML RX5 90 yX8_counts := Or.inl (wsA_in (tb_5 (List.mem_of_getElem? (i := 14) rfl)) rfl)
theorem ml_X5_100 : pML RX5 100 yX6_has := Or.inl (wsA_in (tb_5 (List.mem_of_getElem? (i := 20) rfl)) rfl)
theorem ml_X5_104 : pML RX5 104 yX5_mayBegin := Or.inl (wsA_in (tb_5 (List.mem_of_getElem? (i := 21) rfl)) rfl)
theorem ml_X5_112 : pML RX5 112 yX6_fits := Or.inl (wsA_in (tb_5 (List.mem_of_getElem? (i := 25) rfl)) rfl)
theorem ml_X5_115 : pML RX5 115 yX3_isOpen := Or.inl (wsA_in (tb_5 (List.mem_of_getElem? (i := 26) rfl)) rfl)
theorem ml_X5_121 : pML RX5 121 yX5_mayStay := Or.inl (wsA_in (tb_5 (List.mem_of_getElem? (i := 31) rfl)) rfl)
theorem ml_X6_48 : pML RX6 48 yX10_within := Or.inr ⟨"SkiMountain", wsN_in (tb_2 (List.mem_of_getElem? (i := 145) rfl)) rfl⟩
theorem mj_X6_55 : Cond.methodLink RX6 55 yJ9_max_7cf53 ∈ wsA := wsA_in (tb_4 (List.mem_of_getElem? (i := 153) rfl)) rfl
theorem ml_X6_61 : pML RX6 61 yX9_kind := Or.inl (wsA_in (tb_3 (List.mem_of_getElem? (i := 164) rfl)) rfl)
theorem ml_X6_67 : pML RX6 67 yX6_readLine := Or.inl (wsA_in (tb_3 (List.mem_of_getElem? (i := 168) rfl)) rfl)
theorem ml_X6_74 : pML RX6 74 yX6_readLift := Or.inl (wsA_in (tb_3 (List.mem_of_getElem? (i := 172) rfl)) rfl)
theorem ml_X6_78 : pML RX6 78 yX6_readRun := Or.inl (wsA_in (tb_3 (List.mem_of_getElem? (i := 209) rfl)) rfl)
theorem ml_X6_85 : pML RX6 85 yX6_readHome := Or.inl (wsA_in (tb_3 (List.mem_of_getElem? (i := 213) rfl)) rfl)
theorem ml_X6_88 : pML RX6 88 yX9_fail := Or.inl (wsA_in (tb_3 (List.mem_of_getElem? (i := 184) rfl)) rfl)
theorem ml_X6_92 : pML RX6 92 yX9_step := Or.inl (wsA_in (tb_3 (List.mem_of_getElem? (i := 176) rfl)) rfl)
theorem ml_X6_95 : pML RX6 95 yX6_readEnds := Or.inl (wsA_in (tb_3 (List.mem_of_getElem? (i := 180) rfl)) rfl)
theorem ml_X6_98 : pML RX6 98 yX9_numberBehind := Or.inl (wsA_in (tb_3 (List.mem_of_getElem? (i := 196) rfl)) rfl)
theorem ml_X6_102 : pML RX6 102 yX9_expect := Or.inl (wsA_in (tb_3 (List.mem_of_getElem? (i := 208) rfl)) rfl)
theorem ml_X6_105 : pML RX6 105 yX9_value := Or.inl (wsA_in (tb_3 (List.mem_of_getElem? (i := 188) rfl)) rfl)
theorem ml_X6_112 : pML RX6 112 yX6_hasName := Or.inl (wsA_in (tb_3 (List.mem_of_getElem? (i := 192) rfl)) rfl)
theorem ml_X7_30 : pML RX7 30 yX7_forget := Or.inl (wsA_in (tb_2 (List.mem_of_getElem? (i := 129) rfl)) rfl)
theorem ml_X7_38 : pML RX7 38 yJ7_fill_53178 := Or.inl (wsA_in (tb_2 (List.mem_of_getElem? (i := 133) rfl)) rfl)
theorem ml_X7_44 : pML RX7 44 yX7_findBetween := Or.inl (wsA_in (tb_2 (List.mem_of_getElem? (i := 136) rfl)) rfl)
theorem ml_X7_47 : pML RX7 47 yX7_findAbove := Or.inl (wsA_in (tb_2 (List.mem_of_getElem? (i := 151) rfl)) rfl)
theorem ml_X7_58 : pML RX7 58 yX7_goOn := Or.inl (wsA_in (tb_5 (List.mem_of_getElem? (i := 167) rfl)) rfl)
theorem ml_X7_62 : pML RX7 62 yX6_has := Or.inl (wsA_in (tb_2 (List.mem_of_getElem? (i := 141) rfl)) rfl)
theorem mj_X7_77 : Cond.methodLink RX7 77 yJ9_min_7cf53 ∈ wsA := wsA_in (tb_2 (List.mem_of_getElem? (i := 148) rfl)) rfl
theorem mj_X7_86 : Cond.methodLink RX7 86 yJ9_max_7cf53 ∈ wsA := wsA_in (tb_5 (List.mem_of_getElem? (i := 170) rfl)) rfl
theorem ml_X7_89 : pML RX7 89 yX7_canBeBetter := Or.inl (wsA_in (tb_5 (List.mem_of_getElem? (i := 171) rfl)) rfl)
theorem ml_X7_92 : pML RX7 92 yX7_startOf := Or.inl (wsA_in (tb_5 (List.mem_of_getElem? (i := 175) rfl)) rfl)
theorem ml_X7_95 : pML RX7 95 yX7_goDown := Or.inl (wsA_in (tb_5 (List.mem_of_getElem? (i := 179) rfl)) rfl)
theorem mj_X8_9 : Cond.methodLink RX8 9 yJ9_max_7cf53 ∈ wsA := wsA_in (tb_1 (List.mem_of_getElem? (i := 189) rfl)) rfl
theorem ml_X8_37 : pML RX8 37 yX10_within := Or.inr ⟨"SkiMountain", wsN_in (tb_4 (List.mem_of_getElem? (i := 63) rfl)) rfl⟩
theorem ml_X9_35 : pML RX9 35 yX9_cutOne := Or.inl (wsA_in (tb_3 (List.mem_of_getElem? (i := 22) rfl)) rfl)
theorem ml_X9_39 : pML RX9 39 yX9_put := Or.inl (wsA_in (tb_3 (List.mem_of_getElem? (i := 39) rfl)) rfl)
theorem ml_X9_43 : pML RX9 43 yX9_kind := Or.inl (wsA_in (tb_3 (List.mem_of_getElem? (i := 204) rfl)) rfl)
theorem ml_X9_47 : pML RX9 47 yX9_fail := Or.inl (wsA_in (tb_3 (List.mem_of_getElem? (i := 205) rfl)) rfl)
theorem ml_X9_51 : pML RX9 51 yX9_step := Or.inl (wsA_in (tb_3 (List.mem_of_getElem? (i := 206) rfl)) rfl)
theorem ml_X9_54 : pML RX9 54 yX9_expect := Or.inl (wsA_in (tb_3 (List.mem_of_getElem? (i := 200) rfl)) rfl)
theorem ml_X9_57 : pML RX9 57 yX9_value := Or.inl (wsA_in (tb_3 (List.mem_of_getElem? (i := 207) rfl)) rfl)
theorem ml_X9_61 : pML RX9 61 yX9_isLetter := Or.inl (wsA_in (tb_3 (List.mem_of_getElem? (i := 26) rfl)) rfl)
theorem ml_X9_64 : pML RX9 64 yX9_cutWord := Or.inl (wsA_in (tb_3 (List.mem_of_getElem? (i := 29) rfl)) rfl)
theorem ml_X9_67 : pML RX9 67 yX9_isDigit := Or.inl (wsA_in (tb_3 (List.mem_of_getElem? (i := 36) rfl)) rfl)
theorem ml_X9_70 : pML RX9 70 yX9_cutNumber := Or.inl (wsA_in (tb_3 (List.mem_of_getElem? (i := 97) rfl)) rfl)
theorem ml_X9_73 : pML RX9 73 yX9_isSign := Or.inl (wsA_in (tb_3 (List.mem_of_getElem? (i := 101) rfl)) rfl)
theorem ml_X9_76 : pML RX9 76 yX9_isPlace := Or.inl (wsA_in (tb_3 (List.mem_of_getElem? (i := 33) rfl)) rfl)
theorem ml_X9_84 : pML RX9 84 yX9_wordKind := Or.inl (wsA_in (tb_3 (List.mem_of_getElem? (i := 45) rfl)) rfl)
theorem ml_X9_90 : pML RX9 90 yJ0_length_8abf5 := Or.inl (wsA_in (tb_3 (List.mem_of_getElem? (i := 49) rfl)) rfl)
theorem ml_X9_95 : pML RX9 95 yJ0_charAt_5068e := Or.inl (wsA_in (tb_3 (List.mem_of_getElem? (i := 59) rfl)) rfl)
theorem ml_X9_101 : pML RX9 101 yJ0_indexOf_0f7a4 := Or.inl (wsA_in (tb_3 (List.mem_of_getElem? (i := 105) rfl)) rfl)
theorem ml_L_9 : pML RL 9 yX10_init := Or.inl (wsA_in (tb_1 (List.mem_of_getElem? (i := 22) rfl)) rfl)
theorem ml_L_12 : pML RL 12 yX11_init := Or.inl (wsA_in (tb_5 (List.mem_of_getElem? (i := 188) rfl)) rfl)
theorem ml_L_13 : pML RL 13 yX10_feed := Or.inl (wsA_in (tb_2 (List.mem_of_getElem? (i := 238) rfl)) rfl)
theorem ml_L_17 : pML RL 17 yX11_feed := Or.inl (wsA_in (tb_7 (List.mem_of_getElem? (i := 20) rfl)) rfl)
theorem ml_L_18 : pML RL 18 yX10_end := Or.inl (wsA_in (tb_3 (List.mem_of_getElem? (i := 6) rfl)) rfl)
theorem ml_L_22 : pML RL 22 yX11_end := Or.inl (wsA_in (tb_7 (List.mem_of_getElem? (i := 28) rfl)) rfl)
theorem ml_L_23 : pML RL 23 yX10_mountain := Or.inl (wsA_in (tb_3 (List.mem_of_getElem? (i := 10) rfl)) rfl)
theorem ml_L_27 : pML RL 27 yX11_mountain := Or.inl (wsA_in (tb_7 (List.mem_of_getElem? (i := 32) rfl)) rfl)
theorem ml_L_28 : pML RL 28 yX10_law := Or.inl (wsA_in (tb_3 (List.mem_of_getElem? (i := 227) rfl)) rfl)
theorem ml_L_31 : pML RL 31 yX11_law := Or.inl (wsA_in (tb_7 (List.mem_of_getElem? (i := 119) rfl)) rfl)
theorem ml_L_32 : pML RL 32 yX10_fault := Or.inl (wsA_in (tb_4 (List.mem_of_getElem? (i := 42) rfl)) rfl)
theorem ml_L_35 : pML RL 35 yX11_fault := Or.inl (wsA_in (tb_7 (List.mem_of_getElem? (i := 171) rfl)) rfl)
theorem ml_L_36 : pML RL 36 yX10_weather := Or.inl (wsA_in (tb_4 (List.mem_of_getElem? (i := 46) rfl)) rfl)
theorem ml_L_40 : pML RL 40 yX11_weather := Or.inl (wsA_in (tb_7 (List.mem_of_getElem? (i := 175) rfl)) rfl)
theorem ml_L_41 : pML RL 41 yX10_untell := Or.inl (wsA_in (tb_4 (List.mem_of_getElem? (i := 55) rfl)) rfl)
theorem ml_L_45 : pML RL 45 yX11_untell := Or.inl (wsA_in (tb_7 (List.mem_of_getElem? (i := 179) rfl)) rfl)
theorem ml_L_46 : pML RL 46 yX10_later := Or.inl (wsA_in (tb_4 (List.mem_of_getElem? (i := 64) rfl)) rfl)
theorem ml_L_49 : pML RL 49 yX11_later := Or.inl (wsA_in (tb_7 (List.mem_of_getElem? (i := 183) rfl)) rfl)
theorem ml_L_50 : pML RL 50 yX10_air := Or.inl (wsA_in (tb_4 (List.mem_of_getElem? (i := 69) rfl)) rfl)
theorem ml_L_53 : pML RL 53 yX11_air := Or.inl (wsA_in (tb_7 (List.mem_of_getElem? (i := 188) rfl)) rfl)
theorem ml_L_54 : pML RL 54 yX10_open := Or.inl (wsA_in (tb_4 (List.mem_of_getElem? (i := 101) rfl)) rfl)
theorem ml_L_57 : pML RL 57 yX11_open := Or.inl (wsA_in (tb_7 (List.mem_of_getElem? (i := 199) rfl)) rfl)
theorem ml_L_58 : pML RL 58 yX10_soonest := Or.inl (wsA_in (tb_4 (List.mem_of_getElem? (i := 117) rfl)) rfl)
theorem ml_L_61 : pML RL 61 yX11_soonest := Or.inl (wsA_in (tb_7 (List.mem_of_getElem? (i := 230) rfl)) rfl)
theorem ml_L_62 : pML RL 62 yX10_way := Or.inl (wsA_in (tb_4 (List.mem_of_getElem? (i := 154) rfl)) rfl)
theorem ml_L_66 : pML RL 66 yX11_way := Or.inl (wsA_in (tb_8 (List.mem_of_getElem? (i := 16) rfl)) rfl)
theorem ml_L_67 : pML RL 67 yX10_last := Or.inl (wsA_in (tb_4 (List.mem_of_getElem? (i := 180) rfl)) rfl)
theorem ml_L_70 : pML RL 70 yX11_last := Or.inl (wsA_in (tb_8 (List.mem_of_getElem? (i := 27) rfl)) rfl)
theorem ml_L_71 : pML RL 71 yX10_skier := Or.inl (wsA_in (tb_4 (List.mem_of_getElem? (i := 189) rfl)) rfl)
theorem ml_L_74 : pML RL 74 yX11_skier := Or.inl (wsA_in (tb_8 (List.mem_of_getElem? (i := 31) rfl)) rfl)
theorem ml_L_75 : pML RL 75 yX10_pass := Or.inl (wsA_in (tb_4 (List.mem_of_getElem? (i := 228) rfl)) rfl)
theorem ml_L_78 : pML RL 78 yX11_pass := Or.inl (wsA_in (tb_8 (List.mem_of_getElem? (i := 35) rfl)) rfl)
theorem ml_L_79 : pML RL 79 yX10_unpass := Or.inl (wsA_in (tb_4 (List.mem_of_getElem? (i := 232) rfl)) rfl)
theorem ml_L_82 : pML RL 82 yX11_unpass := Or.inl (wsA_in (tb_8 (List.mem_of_getElem? (i := 43) rfl)) rfl)
theorem ml_L_83 : pML RL 83 yX10_can := Or.inl (wsA_in (tb_4 (List.mem_of_getElem? (i := 236) rfl)) rfl)
theorem ml_L_87 : pML RL 87 yX11_can := Or.inl (wsA_in (tb_8 (List.mem_of_getElem? (i := 47) rfl)) rfl)
theorem ml_L_88 : pML RL 88 yX10_canOn := Or.inl (wsA_in (tb_5 (List.mem_of_getElem? (i := 47) rfl)) rfl)
theorem ml_L_91 : pML RL 91 yX11_canOn := Or.inl (wsA_in (tb_8 (List.mem_of_getElem? (i := 66) rfl)) rfl)
theorem ml_L_92 : pML RL 92 yX10_places := Or.inl (wsA_in (tb_5 (List.mem_of_getElem? (i := 56) rfl)) rfl)
theorem ml_L_95 : pML RL 95 yX11_places := Or.inl (wsA_in (tb_8 (List.mem_of_getElem? (i := 74) rfl)) rfl)
theorem ml_L_96 : pML RL 96 yX10_meet := Or.inl (wsA_in (tb_5 (List.mem_of_getElem? (i := 60) rfl)) rfl)
theorem ml_L_99 : pML RL 99 yX11_meet := Or.inl (wsA_in (tb_8 (List.mem_of_getElem? (i := 78) rfl)) rfl)
theorem ml_L_100 : pML RL 100 yX10_arrive := Or.inl (wsA_in (tb_5 (List.mem_of_getElem? (i := 64) rfl)) rfl)
theorem ml_L_104 : pML RL 104 yX11_arrive := Or.inl (wsA_in (tb_8 (List.mem_of_getElem? (i := 82) rfl)) rfl)
theorem ml_L_105 : pML RL 105 yX10_turn := Or.inl (wsA_in (tb_5 (List.mem_of_getElem? (i := 72) rfl)) rfl)
theorem ml_L_108 : pML RL 108 yX11_turn := Or.inl (wsA_in (tb_8 (List.mem_of_getElem? (i := 86) rfl)) rfl)
theorem ml_L_109 : pML RL 109 yX10_make := Or.inl (wsA_in (tb_5 (List.mem_of_getElem? (i := 80) rfl)) rfl)
theorem ml_L_113 : pML RL 113 yX11_make := Or.inl (wsA_in (tb_8 (List.mem_of_getElem? (i := 90) rfl)) rfl)
theorem ml_L_114 : pML RL 114 yX10_day := Or.inl (wsA_in (tb_5 (List.mem_of_getElem? (i := 84) rfl)) rfl)
theorem ml_L_117 : pML RL 117 yX11_day := Or.inl (wsA_in (tb_8 (List.mem_of_getElem? (i := 94) rfl)) rfl)
theorem ml_L_118 : pML RL 118 yX10_wait := Or.inl (wsA_in (tb_5 (List.mem_of_getElem? (i := 147) rfl)) rfl)
theorem ml_L_121 : pML RL 121 yX11_wait := Or.inl (wsA_in (tb_8 (List.mem_of_getElem? (i := 118) rfl)) rfl)
theorem ml_L_122 : pML RL 122 yX10_snow := Or.inl (wsA_in (tb_5 (List.mem_of_getElem? (i := 151) rfl)) rfl)
theorem ml_L_125 : pML RL 125 yX11_snow := Or.inl (wsA_in (tb_8 (List.mem_of_getElem? (i := 126) rfl)) rfl)
theorem ml_L_126 : pML RL 126 yX10_took := Or.inl (wsA_in (tb_5 (List.mem_of_getElem? (i := 155) rfl)) rfl)
theorem ml_L_129 : pML RL 129 yX11_took := Or.inl (wsA_in (tb_8 (List.mem_of_getElem? (i := 130) rfl)) rfl)
theorem ml_L_130 : pML RL 130 yX10_sweep := Or.inl (wsA_in (tb_5 (List.mem_of_getElem? (i := 159) rfl)) rfl)
theorem ml_L_133 : pML RL 133 yX11_sweep := Or.inl (wsA_in (tb_8 (List.mem_of_getElem? (i := 134) rfl)) rfl)
theorem ml_L_134 : pML RL 134 yX10_about := Or.inl (wsA_in (tb_5 (List.mem_of_getElem? (i := 182) rfl)) rfl)
theorem ml_L_137 : pML RL 137 yX11_about := Or.inl (wsA_in (tb_8 (List.mem_of_getElem? (i := 146) rfl)) rfl)
theorem ml_X11_236 : pML RX11 236 yX11_four := Or.inl (wsA_in (tb_7 (List.mem_of_getElem? (i := 24) rfl)) rfl)
theorem ml_X11_246 : pML RX11 246 yX11_here := Or.inl (wsA_in (tb_7 (List.mem_of_getElem? (i := 44) rfl)) rfl)
theorem ml_X11_263 : pML RX11 263 yX11_isDigit := Or.inl (wsA_in (tb_7 (List.mem_of_getElem? (i := 48) rfl)) rfl)
theorem ml_X11_267 : pML RX11 267 yX11_isLetter := Or.inl (wsA_in (tb_7 (List.mem_of_getElem? (i := 51) rfl)) rfl)
theorem ml_X11_270 : pML RX11 270 yX11_isSign := Or.inl (wsA_in (tb_7 (List.mem_of_getElem? (i := 54) rfl)) rfl)
theorem ml_X11_312 : pML RX11 312 yX11_isWord := Or.inl (wsA_in (tb_7 (List.mem_of_getElem? (i := 62) rfl)) rfl)
theorem ml_X11_316 : pML RX11 316 yX11_wrong := Or.inl (wsA_in (tb_7 (List.mem_of_getElem? (i := 68) rfl)) rfl)
theorem ml_X11_319 : pML RX11 319 yX11_next := Or.inl (wsA_in (tb_7 (List.mem_of_getElem? (i := 40) rfl)) rfl)
theorem ml_X11_328 : pML RX11 328 yX11_isName := Or.inl (wsA_in (tb_7 (List.mem_of_getElem? (i := 76) rfl)) rfl)
theorem ml_X11_332 : pML RX11 332 yX11_isTold := Or.inl (wsA_in (tb_7 (List.mem_of_getElem? (i := 95) rfl)) rfl)
theorem ml_X11_335 : pML RX11 335 yX11_point := Or.inl (wsA_in (tb_7 (List.mem_of_getElem? (i := 99) rfl)) rfl)
theorem ml_X11_338 : pML RX11 338 yX11_wantWord := Or.inl (wsA_in (tb_7 (List.mem_of_getElem? (i := 103) rfl)) rfl)
theorem ml_X11_342 : pML RX11 342 yX11_told := Or.inl (wsA_in (tb_7 (List.mem_of_getElem? (i := 107) rfl)) rfl)
theorem ml_X11_350 : pML RX11 350 yX11_readWay := Or.inl (wsA_in (tb_7 (List.mem_of_getElem? (i := 72) rfl)) rfl)
theorem ml_X11_360 : pML RX11 360 yX11_begin := Or.inl (wsA_in (tb_7 (List.mem_of_getElem? (i := 36) rfl)) rfl)
theorem ml_X11_363 : pML RX11 363 yX11_readLine := Or.inl (wsA_in (tb_7 (List.mem_of_getElem? (i := 57) rfl)) rfl)
theorem ml_X11_384 : pML RX11 384 yX11_measure := Or.inl (wsA_in (tb_7 (List.mem_of_getElem? (i := 111) rfl)) rfl)
theorem ml_X11_387 : pML RX11 387 yX11_isWay := Or.inl (wsA_in (tb_7 (List.mem_of_getElem? (i := 115) rfl)) rfl)
theorem ml_X11_399 : pML RX11 399 yX11_step := Or.inl (wsA_in (tb_7 (List.mem_of_getElem? (i := 151) rfl)) rfl)
theorem ml_X11_403 : pML RX11 403 yX11_top := Or.inl (wsA_in (tb_7 (List.mem_of_getElem? (i := 143) rfl)) rfl)
theorem ml_X11_407 : pML RX11 407 yX11_pop := Or.inl (wsA_in (tb_7 (List.mem_of_getElem? (i := 147) rfl)) rfl)
theorem ml_X11_410 : pML RX11 410 yX11_isOpen := Or.inl (wsA_in (tb_7 (List.mem_of_getElem? (i := 131) rfl)) rfl)
theorem ml_X11_413 : pML RX11 413 yX11_sign := Or.inl (wsA_in (tb_7 (List.mem_of_getElem? (i := 135) rfl)) rfl)
theorem ml_X11_416 : pML RX11 416 yX11_operand := Or.inl (wsA_in (tb_7 (List.mem_of_getElem? (i := 163) rfl)) rfl)
theorem ml_X11_419 : pML RX11 419 yX11_settle := Or.inl (wsA_in (tb_7 (List.mem_of_getElem? (i := 139) rfl)) rfl)
theorem ml_X11_422 : pML RX11 422 yX11_named := Or.inl (wsA_in (tb_7 (List.mem_of_getElem? (i := 167) rfl)) rfl)
theorem ml_X11_431 : pML RX11 431 yX11_hold := Or.inl (wsA_in (tb_7 (List.mem_of_getElem? (i := 155) rfl)) rfl)
theorem ml_X11_434 : pML RX11 434 yX11_settleOnes := Or.inl (wsA_in (tb_7 (List.mem_of_getElem? (i := 159) rfl)) rfl)
theorem ml_X11_437 : pML RX11 437 yX11_readE := Or.inl (wsA_in (tb_7 (List.mem_of_getElem? (i := 127) rfl)) rfl)
theorem ml_X11_440 : pML RX11 440 yX11_readShut := Or.inl (wsA_in (tb_7 (List.mem_of_getElem? (i := 123) rfl)) rfl)
theorem ml_X11_453 : pML RX11 453 yX11_counts := Or.inl (wsA_in (tb_7 (List.mem_of_getElem? (i := 196) rfl)) rfl)
theorem ml_X11_457 : pML RX11 457 yX11_blow := Or.inl (wsA_in (tb_7 (List.mem_of_getElem? (i := 192) rfl)) rfl)
theorem ml_X11_460 : pML RX11 460 yX11_valueOf := Or.inl (wsA_in (tb_7 (List.mem_of_getElem? (i := 215) rfl)) rfl)
theorem ml_X11_464 : pML RX11 464 yX11_isOn := Or.inl (wsA_in (tb_7 (List.mem_of_getElem? (i := 223) rfl)) rfl)
theorem ml_X11_468 : pML RX11 468 yX11_hourOf := Or.inl (wsA_in (tb_7 (List.mem_of_getElem? (i := 227) rfl)) rfl)
theorem ml_X11_471 : pML RX11 471 yX11_holds := Or.inl (wsA_in (tb_7 (List.mem_of_getElem? (i := 211) rfl)) rfl)
theorem ml_X11_474 : pML RX11 474 yX11_isOpenAt := Or.inl (wsA_in (tb_7 (List.mem_of_getElem? (i := 219) rfl)) rfl)
theorem ml_X11_477 : pML RX11 477 yX11_wayOf := Or.inl (wsA_in (tb_7 (List.mem_of_getElem? (i := 203) rfl)) rfl)
theorem ml_X11_480 : pML RX11 480 yX11_know := Or.inl (wsA_in (tb_7 (List.mem_of_getElem? (i := 207) rfl)) rfl)
theorem ml_X11_483 : pML RX11 483 yX11_canGo := Or.inl (wsA_in (tb_8 (List.mem_of_getElem? (i := 8) rfl)) rfl)
theorem ml_X11_486 : pML RX11 486 yX11_minutesOf := Or.inl (wsA_in (tb_8 (List.mem_of_getElem? (i := 12) rfl)) rfl)
theorem ml_X11_489 : pML RX11 489 yX11_by := Or.inl (wsA_in (tb_8 (List.mem_of_getElem? (i := 4) rfl)) rfl)
theorem ml_X11_493 : pML RX11 493 yX11_isSkill := Or.inl (wsA_in (tb_7 (List.mem_of_getElem? (i := 234) rfl)) rfl)
theorem ml_X11_496 : pML RX11 496 yX11_isPlace := Or.inl (wsA_in (tb_7 (List.mem_of_getElem? (i := 237) rfl)) rfl)
theorem ml_X11_499 : pML RX11 499 yX11_soonestOf := Or.inl (wsA_in (tb_8 (List.mem_of_getElem? (i := 0) rfl)) rfl)
theorem ml_X11_502 : pML RX11 502 yX11_leads := Or.inl (wsA_in (tb_8 (List.mem_of_getElem? (i := 20) rfl)) rfl)
theorem ml_X11_506 : pML RX11 506 yX11_outer := Or.inl (wsA_in (tb_8 (List.mem_of_getElem? (i := 24) rfl)) rfl)
theorem ml_X11_512 : pML RX11 512 yX11_isSkier := Or.inl (wsA_in (tb_8 (List.mem_of_getElem? (i := 39) rfl)) rfl)
theorem ml_X11_515 : pML RX11 515 yX11_starts := Or.inl (wsA_in (tb_8 (List.mem_of_getElem? (i := 58) rfl)) rfl)
theorem ml_X11_518 : pML RX11 518 yX11_isMinute := Or.inl (wsA_in (tb_8 (List.mem_of_getElem? (i := 51) rfl)) rfl)
theorem ml_X11_521 : pML RX11 521 yX11_trace := Or.inl (wsA_in (tb_8 (List.mem_of_getElem? (i := 54) rfl)) rfl)
theorem ml_X11_524 : pML RX11 524 yX11_canBe := Or.inl (wsA_in (tb_8 (List.mem_of_getElem? (i := 62) rfl)) rfl)
theorem ml_X11_527 : pML RX11 527 yX11_canRide := Or.inl (wsA_in (tb_8 (List.mem_of_getElem? (i := 70) rfl)) rfl)
theorem ml_X11_533 : pML RX11 533 yX11_canTake := Or.inl (wsA_in (tb_8 (List.mem_of_getElem? (i := 106) rfl)) rfl)
theorem ml_X11_536 : pML RX11 536 yX11_snowAt := Or.inl (wsA_in (tb_8 (List.mem_of_getElem? (i := 98) rfl)) rfl)
theorem ml_X11_539 : pML RX11 539 yX11_takeTurn := Or.inl (wsA_in (tb_8 (List.mem_of_getElem? (i := 102) rfl)) rfl)
theorem ml_X11_542 : pML RX11 542 yX11_lift := Or.inl (wsA_in (tb_8 (List.mem_of_getElem? (i := 110) rfl)) rfl)
theorem ml_X11_545 : pML RX11 545 yX11_note := Or.inl (wsA_in (tb_8 (List.mem_of_getElem? (i := 114) rfl)) rfl)
theorem ml_X11_548 : pML RX11 548 yX11_isDayMinute := Or.inl (wsA_in (tb_8 (List.mem_of_getElem? (i := 122) rfl)) rfl)
theorem ml_X11_551 : pML RX11 551 yX11_readyAt := Or.inl (wsA_in (tb_8 (List.mem_of_getElem? (i := 142) rfl)) rfl)
theorem ml_X11_554 : pML RX11 554 yX11_goesOn := Or.inl (wsA_in (tb_8 (List.mem_of_getElem? (i := 138) rfl)) rfl)
theorem ml_J0_335 : pML RJ0 335 yJ0_coder_7d493 := Or.inl (wsA_in (tb_3 (List.mem_of_getElem? (i := 53) rfl)) rfl)
theorem ml_J0_492 : pML RJ0 492 yJ0_isLatin1_aae02 := Or.inl (wsA_in (tb_3 (List.mem_of_getElem? (i := 63) rfl)) rfl)
theorem ml_J0_495 : pML RJ0 495 yJ1_charAt_3b067 := Or.inl (wsA_in (tb_3 (List.mem_of_getElem? (i := 67) rfl)) rfl)
theorem ml_J0_498 : pML RJ0 498 yJ2_charAt_3b067 := Or.inl (wsA_in (tb_3 (List.mem_of_getElem? (i := 78) rfl)) rfl)
theorem ml_J0_505 : pML RJ0 505 yJ0_length_8abf5 := Or.inl (wsA_in (tb_3 (List.mem_of_getElem? (i := 113) rfl)) rfl)
theorem ml_J0_633 : pML RJ0 633 yJ0_indexOf_7cf53 := Or.inl (wsA_in (tb_3 (List.mem_of_getElem? (i := 109) rfl)) rfl)
theorem ml_J0_637 : pML RJ0 637 yJ1_indexOf_4cfef := Or.inl (wsA_in (tb_3 (List.mem_of_getElem? (i := 114) rfl)) rfl)
theorem ml_J0_640 : pML RJ0 640 yJ2_indexOf_4cfef := Or.inl (wsA_in (tb_3 (List.mem_of_getElem? (i := 125) rfl)) rfl)
theorem ml_J0_1059 : pML RJ0 1059 yJ3_checkIndex_8e157 := Or.inl (wsA_in (tb_3 (List.mem_of_getElem? (i := 75) rfl)) rfl)
theorem ml_J0_1062 : pML RJ0 1062 yJ3_checkFromToIndex_8c36e := Or.inl (wsA_in (tb_3 (List.mem_of_getElem? (i := 140) rfl)) rfl)
theorem ml_J1_9 : pML RJ1 9 yJ0_checkIndex_df160 := Or.inl (wsA_in (tb_3 (List.mem_of_getElem? (i := 70) rfl)) rfl)
theorem mj_J1_38 : Cond.methodLink RJ1 38 yJ9_min_7cf53 ∈ wsA := wsA_in (tb_3 (List.mem_of_getElem? (i := 121) rfl)) rfl
theorem ml_J1_88 : pML RJ1 88 yJ1_canEncode_9a6ad := Or.inl (wsA_in (tb_3 (List.mem_of_getElem? (i := 117) rfl)) rfl)
theorem mj_J1_92 : Cond.methodLink RJ1 92 yJ9_max_7cf53 ∈ wsA := wsA_in (tb_3 (List.mem_of_getElem? (i := 120) rfl)) rfl
theorem ml_J1_95 : pML RJ1 95 yJ1_indexOfChar_4cfef := Or.inl (wsA_in (tb_3 (List.mem_of_getElem? (i := 122) rfl)) rfl)
theorem ml_J2_48 : pML RJ2 48 yJ2_length_9d52b := Or.inl (wsA_in (tb_3 (List.mem_of_getElem? (i := 84) rfl)) rfl)
theorem ml_J2_67 : pML RJ2 67 yJ2_checkIndex_2214a := Or.inl (wsA_in (tb_3 (List.mem_of_getElem? (i := 81) rfl)) rfl)
theorem ml_J2_71 : pML RJ2 71 yJ2_getChar_3b067 := Or.inl (wsA_in (tb_3 (List.mem_of_getElem? (i := 88) rfl)) rfl)
theorem ml_J2_96 : pML RJ2 96 yJ2_checkBoundsBeginEnd_d044e := Or.inl (wsA_in (tb_3 (List.mem_of_getElem? (i := 134) rfl)) rfl)
theorem ml_J2_157 : pML RJ2 157 yJ11_highSurrogate_5068e := Or.inl (wsA_in (tb_3 (List.mem_of_getElem? (i := 152) rfl)) rfl)
theorem ml_J2_161 : pML RJ2 161 yJ11_lowSurrogate_5068e := Or.inl (wsA_in (tb_3 (List.mem_of_getElem? (i := 156) rfl)) rfl)
theorem ml_J2_164 : pML RJ2 164 yJ11_isValidCodePoint_9a6ad := Or.inl (wsA_in (tb_3 (List.mem_of_getElem? (i := 149) rfl)) rfl)
theorem mj_J2_183 : Cond.methodLink RJ2 183 yJ9_min_7cf53 ∈ wsA := wsA_in (tb_3 (List.mem_of_getElem? (i := 129) rfl)) rfl
theorem mj_J2_224 : Cond.methodLink RJ2 224 yJ9_max_7cf53 ∈ wsA := wsA_in (tb_3 (List.mem_of_getElem? (i := 128) rfl)) rfl
theorem ml_J2_228 : pML RJ2 228 yJ2_indexOfChar_4cfef := Or.inl (wsA_in (tb_3 (List.mem_of_getElem? (i := 131) rfl)) rfl)
theorem ml_J2_232 : pML RJ2 232 yJ2_indexOfSupplementary_4cfef := Or.inl (wsA_in (tb_3 (List.mem_of_getElem? (i := 146) rfl)) rfl)
theorem ml_J2_241 : pML RJ2 241 yJ0_checkBoundsBeginEnd_23922 := Or.inl (wsA_in (tb_3 (List.mem_of_getElem? (i := 137) rfl)) rfl)
theorem ml_J2_244 : pML RJ2 244 yJ2_indexOfCharUnsafe_4cfef := Or.inl (wsA_in (tb_3 (List.mem_of_getElem? (i := 143) rfl)) rfl)
theorem ml_J2_414 : pML RJ2 414 yJ0_checkIndex_df160 := Or.inl (wsA_in (tb_3 (List.mem_of_getElem? (i := 87) rfl)) rfl)
theorem ol_X10_3 : Cond.methodLink RX10 3 objectInit ∈ wsA := wsA_in (tb_1 (List.mem_of_getElem? (i := 25) rfl)) rfl
theorem ol_X0_3 : Cond.methodLink RX0 3 objectInit ∈ wsA := wsA_in (tb_2 (List.mem_of_getElem? (i := 43) rfl)) rfl
theorem ol_X1_3 : Cond.methodLink RX1 3 objectInit ∈ wsA := wsA_in (tb_2 (List.mem_of_getElem? (i := 76) rfl)) rfl
theorem ol_X2_3 : Cond.methodLink RX2 3 objectInit ∈ wsA := wsA_in (tb_1 (List.mem_of_getElem? (i := 150) rfl)) rfl
theorem ol_X3_3 : Cond.methodLink RX3 3 objectInit ∈ wsA := wsA_in (tb_1 (List.mem_of_getElem? (i := 223) rfl)) rfl
theorem ol_X4_3 : Cond.methodLink RX4 3 objectInit ∈ wsA := wsA_in (tb_2 (List.mem_of_getElem? (i := 25) rfl)) rfl
theorem ol_X5_3 : Cond.methodLink RX5 3 objectInit ∈ wsA := wsA_in (tb_4 (List.mem_of_getElem? (i := 197) rfl)) rfl
theorem ol_X6_3 : Cond.methodLink RX6 3 objectInit ∈ wsA := wsA_in (tb_1 (List.mem_of_getElem? (i := 67) rfl)) rfl
theorem ol_X7_3 : Cond.methodLink RX7 3 objectInit ∈ wsA := wsA_in (tb_2 (List.mem_of_getElem? (i := 128) rfl)) rfl
theorem ol_X8_3 : Cond.methodLink RX8 3 objectInit ∈ wsA := wsA_in (tb_1 (List.mem_of_getElem? (i := 188) rfl)) rfl
theorem ol_X9_3 : Cond.methodLink RX9 3 objectInit ∈ wsA := wsA_in (tb_1 (List.mem_of_getElem? (i := 33) rfl)) rfl
theorem ol_X11_1 : Cond.methodLink RX11 1 objectInit ∈ wsA := wsA_in (tb_5 (List.mem_of_getElem? (i := 191) rfl)) rfl
theorem ow_inst : Cond.instanceMethod objectInit ∈ wsA := wsA_in (tb_1 (List.mem_of_getElem? (i := 26) rfl)) rfl
theorem ow_code : Cond.code objectInit ⟨#[0xb1]⟩ 1 none ∈ wsA := wsA_in (tb_1 (List.mem_of_getElem? (i := 27) rfl)) rfl
theorem kc_X10_152 : Cond.constant RX10 152 (100000) ∈ wsA := wsA_in (tb_4 (List.mem_of_getElem? (i := 68) rfl)) rfl
theorem kc_X1_151 : Cond.constant RX1 151 (1000000) ∈ wsA := wsA_in (tb_5 (List.mem_of_getElem? (i := 119) rfl)) rfl
theorem kc_X4_22 : Cond.constant RX4 22 (1000000) ∈ wsA := wsA_in (tb_4 (List.mem_of_getElem? (i := 129) rfl)) rfl
theorem kc_X5_99 : Cond.constant RX5 99 (1000000) ∈ wsA := wsA_in (tb_5 (List.mem_of_getElem? (i := 19) rfl)) rfl
theorem kc_X7_54 : Cond.constant RX7 54 (1000000) ∈ wsA := wsA_in (tb_2 (List.mem_of_getElem? (i := 140) rfl)) rfl
theorem kc_X11_232 : Cond.constant RX11 232 (1000000) ∈ wsA := wsA_in (tb_5 (List.mem_of_getElem? (i := 192) rfl)) rfl
theorem kc_X11_452 : Cond.constant RX11 452 (100000) ∈ wsA := wsA_in (tb_7 (List.mem_of_getElem? (i := 187) rfl)) rfl
theorem kc_J11_76 : Cond.constant RJ11 76 (56320) ∈ wsA := wsA_in (tb_3 (List.mem_of_getElem? (i := 159) rfl)) rfl
theorem kc_J11_110 : Cond.constant RJ11 110 (55232) ∈ wsA := wsA_in (tb_3 (List.mem_of_getElem? (i := 155) rfl)) rfl
theorem kc_J2_227 : Cond.constant RJ2 227 (65536) ∈ wsA := wsA_in (tb_3 (List.mem_of_getElem? (i := 130) rfl)) rfl
theorem kl_X9_80 : Cond.constantLong RX9 80 (32) ∈ wsA := wsA_in (tb_3 (List.mem_of_getElem? (i := 43) rfl)) rfl
theorem kl_X9_82 : Cond.constantLong RX9 82 (97) ∈ wsA := wsA_in (tb_3 (List.mem_of_getElem? (i := 44) rfl)) rfl
theorem kl_X11_276 : Cond.constantLong RX11 276 (1818846836) ∈ wsA := wsA_in (tb_7 (List.mem_of_getElem? (i := 61) rfl)) rfl
theorem kl_X11_278 : Cond.constantLong RX11 278 (7501166) ∈ wsA := wsA_in (tb_7 (List.mem_of_getElem? (i := 66) rfl)) rfl
theorem kl_X11_280 : Cond.constantLong RX11 280 (1752132965) ∈ wsA := wsA_in (tb_7 (List.mem_of_getElem? (i := 67) rfl)) rfl
theorem kl_X11_282 : Cond.constantLong RX11 282 (499850634611) ∈ wsA := wsA_in (tb_7 (List.mem_of_getElem? (i := 80) rfl)) rfl
theorem kl_X11_284 : Cond.constantLong RX11 284 (495622124659) ∈ wsA := wsA_in (tb_7 (List.mem_of_getElem? (i := 81) rfl)) rfl
theorem kl_X11_286 : Cond.constantLong RX11 286 (1718775661) ∈ wsA := wsA_in (tb_7 (List.mem_of_getElem? (i := 82) rfl)) rfl
theorem kl_X11_288 : Cond.constantLong RX11 288 (29807) ∈ wsA := wsA_in (tb_7 (List.mem_of_getElem? (i := 83) rfl)) rfl
theorem kl_X11_290 : Cond.constantLong RX11 290 (1734440037) ∈ wsA := wsA_in (tb_7 (List.mem_of_getElem? (i := 84) rfl)) rfl
theorem kl_X11_292 : Cond.constantLong RX11 292 (444300616805) ∈ wsA := wsA_in (tb_7 (List.mem_of_getElem? (i := 85) rfl)) rfl
theorem kl_X11_294 : Cond.constantLong RX11 294 (1936617335) ∈ wsA := wsA_in (tb_7 (List.mem_of_getElem? (i := 86) rfl)) rfl
theorem kl_X11_296 : Cond.constantLong RX11 296 (1936225652) ∈ wsA := wsA_in (tb_7 (List.mem_of_getElem? (i := 87) rfl)) rfl
theorem kl_X11_298 : Cond.constantLong RX11 298 (26982) ∈ wsA := wsA_in (tb_7 (List.mem_of_getElem? (i := 88) rfl)) rfl
theorem kl_X11_300 : Cond.constantLong RX11 300 (28530) ∈ wsA := wsA_in (tb_7 (List.mem_of_getElem? (i := 89) rfl)) rfl
theorem kl_X11_302 : Cond.constantLong RX11 302 (6385252) ∈ wsA := wsA_in (tb_7 (List.mem_of_getElem? (i := 90) rfl)) rfl
theorem kl_X11_304 : Cond.constantLong RX11 304 (7237492) ∈ wsA := wsA_in (tb_7 (List.mem_of_getElem? (i := 91) rfl)) rfl
theorem kl_X11_306 : Cond.constantLong RX11 306 (1752135026) ∈ wsA := wsA_in (tb_7 (List.mem_of_getElem? (i := 92) rfl)) rfl
theorem kl_X11_308 : Cond.constantLong RX11 308 (2003398244) ∈ wsA := wsA_in (tb_7 (List.mem_of_getElem? (i := 93) rfl)) rfl
theorem kl_X11_310 : Cond.constantLong RX11 310 (440005915496) ∈ wsA := wsA_in (tb_7 (List.mem_of_getElem? (i := 94) rfl)) rfl
theorem cl_X10_13 : Cond.classLink RX10 13 RX9 ∈ wsA := wsA_in (tb_1 (List.mem_of_getElem? (i := 28) rfl)) rfl
theorem cl_X10_24 : Cond.classLink RX10 24 RX6 ∈ wsA := wsA_in (tb_1 (List.mem_of_getElem? (i := 62) rfl)) rfl
theorem cl_X10_31 : Cond.classLink RX10 31 RX2 ∈ wsA := wsA_in (tb_1 (List.mem_of_getElem? (i := 145) rfl)) rfl
theorem cl_X10_40 : Cond.classLink RX10 40 RX8 ∈ wsA := wsA_in (tb_1 (List.mem_of_getElem? (i := 183) rfl)) rfl
theorem cl_X10_50 : Cond.classLink RX10 50 RX3 ∈ wsA := wsA_in (tb_1 (List.mem_of_getElem? (i := 218) rfl)) rfl
theorem cl_X10_59 : Cond.classLink RX10 59 RX4 ∈ wsA := wsA_in (tb_2 (List.mem_of_getElem? (i := 20) rfl)) rfl
theorem cl_X10_68 : Cond.classLink RX10 68 RX5 ∈ wsA := wsA_in (tb_2 (List.mem_of_getElem? (i := 36) rfl)) rfl
theorem cl_X10_74 : Cond.classLink RX10 74 RX0 ∈ wsA := wsA_in (tb_2 (List.mem_of_getElem? (i := 38) rfl)) rfl
theorem cl_X10_81 : Cond.classLink RX10 81 RX1 ∈ wsA := wsA_in (tb_2 (List.mem_of_getElem? (i := 71) rfl)) rfl
theorem cl_X10_90 : Cond.classLink RX10 90 RX7 ∈ wsA := wsA_in (tb_2 (List.mem_of_getElem? (i := 123) rfl)) rfl
theorem cl_L_7 : Cond.classLink RL 7 RX10 ∈ wsA := wsA_in (tb_1 (List.mem_of_getElem? (i := 20) rfl)) rfl
theorem cl_L_10 : Cond.classLink RL 10 RX11 ∈ wsA := wsA_in (tb_5 (List.mem_of_getElem? (i := 186) rfl)) rfl
theorem in_X10 : Cond.instantiable RX10 18 ∈ wsA := wsA_in (tb_1 (List.mem_of_getElem? (i := 21) rfl)) rfl
theorem in_X0 : Cond.instantiable RX0 6 ∈ wsA := wsA_in (tb_2 (List.mem_of_getElem? (i := 39) rfl)) rfl
theorem in_X1 : Cond.instantiable RX1 13 ∈ wsA := wsA_in (tb_2 (List.mem_of_getElem? (i := 72) rfl)) rfl
theorem in_X2 : Cond.instantiable RX2 9 ∈ wsA := wsA_in (tb_1 (List.mem_of_getElem? (i := 146) rfl)) rfl
theorem in_X3 : Cond.instantiable RX3 7 ∈ wsA := wsA_in (tb_1 (List.mem_of_getElem? (i := 219) rfl)) rfl
theorem in_X4 : Cond.instantiable RX4 3 ∈ wsA := wsA_in (tb_2 (List.mem_of_getElem? (i := 21) rfl)) rfl
theorem in_X5 : Cond.instantiable RX5 9 ∈ wsA := wsA_in (tb_4 (List.mem_of_getElem? (i := 193) rfl)) rfl
theorem in_X6 : Cond.instantiable RX6 15 ∈ wsA := wsA_in (tb_1 (List.mem_of_getElem? (i := 63) rfl)) rfl
theorem in_X7 : Cond.instantiable RX7 9 ∈ wsA := wsA_in (tb_2 (List.mem_of_getElem? (i := 124) rfl)) rfl
theorem in_X8 : Cond.instantiable RX8 6 ∈ wsA := wsA_in (tb_1 (List.mem_of_getElem? (i := 184) rfl)) rfl
theorem in_X9 : Cond.instantiable RX9 7 ∈ wsA := wsA_in (tb_1 (List.mem_of_getElem? (i := 29) rfl)) rfl
theorem in_X11 : Cond.instantiable RX11 102 ∈ wsA := wsA_in (tb_5 (List.mem_of_getElem? (i := 187) rfl)) rfl
theorem ii_X10 : Cond.initialized RX10 ∈ wsA := wsA_in (tb_1 (List.mem_of_getElem? (i := 1) rfl)) rfl
theorem ii_X0 : Cond.initialized RX0 ∈ wsA := wsA_in (tb_1 (List.mem_of_getElem? (i := 9) rfl)) rfl
theorem ii_X1 : Cond.initialized RX1 ∈ wsA := wsA_in (tb_1 (List.mem_of_getElem? (i := 10) rfl)) rfl
theorem ii_X2 : Cond.initialized RX2 ∈ wsA := wsA_in (tb_1 (List.mem_of_getElem? (i := 4) rfl)) rfl
theorem ii_X3 : Cond.initialized RX3 ∈ wsA := wsA_in (tb_1 (List.mem_of_getElem? (i := 7) rfl)) rfl
theorem ii_X4 : Cond.initialized RX4 ∈ wsA := wsA_in (tb_1 (List.mem_of_getElem? (i := 8) rfl)) rfl
theorem ii_X5 : Cond.initialized RX5 ∈ wsA := wsA_in (tb_1 (List.mem_of_getElem? (i := 19) rfl)) rfl
theorem ii_X6 : Cond.initialized RX6 ∈ wsA := wsA_in (tb_1 (List.mem_of_getElem? (i := 3) rfl)) rfl
theorem ii_X7 : Cond.initialized RX7 ∈ wsA := wsA_in (tb_1 (List.mem_of_getElem? (i := 11) rfl)) rfl
theorem ii_X8 : Cond.initialized RX8 ∈ wsA := wsA_in (tb_1 (List.mem_of_getElem? (i := 6) rfl)) rfl
theorem ii_X9 : Cond.initialized RX9 ∈ wsA := wsA_in (tb_1 (List.mem_of_getElem? (i := 2) rfl)) rfl
theorem ii_L : Cond.initialized RL ∈ wsA := wsA_in (tb_1 (List.mem_of_getElem? (i := 0) rfl)) rfl
theorem ii_X11 : Cond.initialized RX11 ∈ wsA := wsA_in (tb_1 (List.mem_of_getElem? (i := 13) rfl)) rfl
theorem ii_J11 : Cond.initialized RJ11 ∈ wsA := wsA_in (tb_1 (List.mem_of_getElem? (i := 18) rfl)) rfl
theorem ii_J9 : Cond.initialized RJ9 ∈ wsA := wsA_in (tb_1 (List.mem_of_getElem? (i := 5) rfl)) rfl
theorem ii_J0 : Cond.initialized RJ0 ∈ wsA := wsA_in (tb_1 (List.mem_of_getElem? (i := 14) rfl)) rfl
theorem ii_J1 : Cond.initialized RJ1 ∈ wsA := wsA_in (tb_1 (List.mem_of_getElem? (i := 15) rfl)) rfl
theorem ii_J2 : Cond.initialized RJ2 ∈ wsA := wsA_in (tb_1 (List.mem_of_getElem? (i := 17) rfl)) rfl
theorem ii_J7 : Cond.initialized RJ7 ∈ wsA := wsA_in (tb_1 (List.mem_of_getElem? (i := 12) rfl)) rfl
theorem ii_J3 : Cond.initialized RJ3 ∈ wsA := wsA_in (tb_1 (List.mem_of_getElem? (i := 16) rfl)) rfl
theorem ac_boolean : Cond.arrayClass .boolean ∈ wsA := wsA_in (tb_1 (List.mem_of_getElem? (i := 144) rfl)) rfl
theorem ac_byte : Cond.arrayClass .byte ∈ wsA := wsA_in (tb_1 (List.mem_of_getElem? (i := 59) rfl)) rfl
theorem ac_int : Cond.arrayClass .int ∈ wsA := wsA_in (tb_1 (List.mem_of_getElem? (i := 60) rfl)) rfl
theorem ac_long : Cond.arrayClass .long ∈ wsA := wsA_in (tb_1 (List.mem_of_getElem? (i := 61) rfl)) rfl
abbrev mJ0_charAt_5068e : pM := (yJ0_charAt_5068e, cJ0_charAt_5068e, 2, (some .char))
theorem ok_J0_charAt_5068e : pMok mJ0_charAt_5068e 1 := ⟨by decide +kernel, wsA_in (tb_3 (List.mem_of_getElem? (i := 62) rfl)) rfl, ii_J0, by decide +kernel, by decide⟩
theorem im_J0_charAt_5068e : Cond.instanceMethod yJ0_charAt_5068e ∈ wsA := wsA_in (tb_3 (List.mem_of_getElem? (i := 60) rfl)) rfl
theorem se_J0_charAt_5068e : Cond.selects RJ0 yJ0_charAt_5068e yJ0_charAt_5068e ∈ wsA := wsA_in (tb_3 (List.mem_of_getElem? (i := 61) rfl)) rfl
abbrev mJ0_checkBoundsBeginEnd_23922 : pM := (yJ0_checkBoundsBeginEnd_23922, cJ0_checkBoundsBeginEnd_23922, 3, none)
theorem ok_J0_checkBoundsBeginEnd_23922 : pMok mJ0_checkBoundsBeginEnd_23922 3 := ⟨by decide +kernel, wsA_in (tb_3 (List.mem_of_getElem? (i := 139) rfl)) rfl, ii_J0, by decide +kernel, by decide⟩
theorem sm_J0_checkBoundsBeginEnd_23922 : Cond.static yJ0_checkBoundsBeginEnd_23922 ∈ wsA := wsA_in (tb_3 (List.mem_of_getElem? (i := 138) rfl)) rfl
abbrev mJ0_checkIndex_df160 : pM := (yJ0_checkIndex_df160, cJ0_checkIndex_df160, 2, none)
theorem ok_J0_checkIndex_df160 : pMok mJ0_checkIndex_df160 2 := ⟨by decide +kernel, wsA_in (tb_3 (List.mem_of_getElem? (i := 72) rfl)) rfl, ii_J0, by decide +kernel, by decide⟩
theorem sm_J0_checkIndex_df160 : Cond.static yJ0_checkIndex_df160 ∈ wsA := wsA_in (tb_3 (List.mem_of_getElem? (i := 71) rfl)) rfl
abbrev mJ0_coder_7d493 : pM := (yJ0_coder_7d493, cJ0_coder_7d493, 1, (some .byte))
theorem ok_J0_coder_7d493 : pMok mJ0_coder_7d493 0 := ⟨by decide +kernel, wsA_in (tb_3 (List.mem_of_getElem? (i := 56) rfl)) rfl, ii_J0, by decide +kernel, by decide⟩
theorem im_J0_coder_7d493 : Cond.instanceMethod yJ0_coder_7d493 ∈ wsA := wsA_in (tb_3 (List.mem_of_getElem? (i := 54) rfl)) rfl
theorem se_J0_coder_7d493 : Cond.selects RJ0 yJ0_coder_7d493 yJ0_coder_7d493 ∈ wsA := wsA_in (tb_3 (List.mem_of_getElem? (i := 55) rfl)) rfl
abbrev mJ0_indexOf_0f7a4 : pM := (yJ0_indexOf_0f7a4, cJ0_indexOf_0f7a4, 2, (some .int))
theorem ok_J0_indexOf_0f7a4 : pMok mJ0_indexOf_0f7a4 1 := ⟨by decide +kernel, wsA_in (tb_3 (List.mem_of_getElem? (i := 108) rfl)) rfl, ii_J0, by decide +kernel, by decide⟩
theorem im_J0_indexOf_0f7a4 : Cond.instanceMethod yJ0_indexOf_0f7a4 ∈ wsA := wsA_in (tb_3 (List.mem_of_getElem? (i := 106) rfl)) rfl
theorem se_J0_indexOf_0f7a4 : Cond.selects RJ0 yJ0_indexOf_0f7a4 yJ0_indexOf_0f7a4 ∈ wsA := wsA_in (tb_3 (List.mem_of_getElem? (i := 107) rfl)) rfl
abbrev mJ0_indexOf_7cf53 : pM := (yJ0_indexOf_7cf53, cJ0_indexOf_7cf53, 3, (some .int))
theorem ok_J0_indexOf_7cf53 : pMok mJ0_indexOf_7cf53 2 := ⟨by decide +kernel, wsA_in (tb_3 (List.mem_of_getElem? (i := 112) rfl)) rfl, ii_J0, by decide +kernel, by decide⟩
theorem im_J0_indexOf_7cf53 : Cond.instanceMethod yJ0_indexOf_7cf53 ∈ wsA := wsA_in (tb_3 (List.mem_of_getElem? (i := 110) rfl)) rfl
theorem se_J0_indexOf_7cf53 : Cond.selects RJ0 yJ0_indexOf_7cf53 yJ0_indexOf_7cf53 ∈ wsA := wsA_in (tb_3 (List.mem_of_getElem? (i := 111) rfl)) rfl
abbrev mJ0_isLatin1_aae02 : pM := (yJ0_isLatin1_aae02, cJ0_isLatin1_aae02, 1, (some .boolean))
theorem ok_J0_isLatin1_aae02 : pMok mJ0_isLatin1_aae02 0 := ⟨by decide +kernel, wsA_in (tb_3 (List.mem_of_getElem? (i := 66) rfl)) rfl, ii_J0, by decide +kernel, by decide⟩
theorem im_J0_isLatin1_aae02 : Cond.instanceMethod yJ0_isLatin1_aae02 ∈ wsA := wsA_in (tb_3 (List.mem_of_getElem? (i := 64) rfl)) rfl
theorem se_J0_isLatin1_aae02 : Cond.selects RJ0 yJ0_isLatin1_aae02 yJ0_isLatin1_aae02 ∈ wsA := wsA_in (tb_3 (List.mem_of_getElem? (i := 65) rfl)) rfl
abbrev mJ0_length_8abf5 : pM := (yJ0_length_8abf5, cJ0_length_8abf5, 1, (some .int))
theorem ok_J0_length_8abf5 : pMok mJ0_length_8abf5 0 := ⟨by decide +kernel, wsA_in (tb_3 (List.mem_of_getElem? (i := 52) rfl)) rfl, ii_J0, by decide +kernel, by decide⟩
theorem im_J0_length_8abf5 : Cond.instanceMethod yJ0_length_8abf5 ∈ wsA := wsA_in (tb_3 (List.mem_of_getElem? (i := 50) rfl)) rfl
theorem se_J0_length_8abf5 : Cond.selects RJ0 yJ0_length_8abf5 yJ0_length_8abf5 ∈ wsA := wsA_in (tb_3 (List.mem_of_getElem? (i := 51) rfl)) rfl
abbrev mJ11_highSurrogate_5068e : pM := (yJ11_highSurrogate_5068e, cJ11_highSurrogate_5068e, 1, (some .char))
theorem ok_J11_highSurrogate_5068e : pMok mJ11_highSurrogate_5068e 1 := ⟨by decide +kernel, wsA_in (tb_3 (List.mem_of_getElem? (i := 154) rfl)) rfl, ii_J11, by decide +kernel, by decide⟩
theorem sm_J11_highSurrogate_5068e : Cond.static yJ11_highSurrogate_5068e ∈ wsA := wsA_in (tb_3 (List.mem_of_getElem? (i := 153) rfl)) rfl
abbrev mJ11_isValidCodePoint_9a6ad : pM := (yJ11_isValidCodePoint_9a6ad, cJ11_isValidCodePoint_9a6ad, 2, (some .boolean))
theorem ok_J11_isValidCodePoint_9a6ad : pMok mJ11_isValidCodePoint_9a6ad 1 := ⟨by decide +kernel, wsA_in (tb_3 (List.mem_of_getElem? (i := 151) rfl)) rfl, ii_J11, by decide +kernel, by decide⟩
theorem sm_J11_isValidCodePoint_9a6ad : Cond.static yJ11_isValidCodePoint_9a6ad ∈ wsA := wsA_in (tb_3 (List.mem_of_getElem? (i := 150) rfl)) rfl
abbrev mJ11_lowSurrogate_5068e : pM := (yJ11_lowSurrogate_5068e, cJ11_lowSurrogate_5068e, 1, (some .char))
theorem ok_J11_lowSurrogate_5068e : pMok mJ11_lowSurrogate_5068e 1 := ⟨by decide +kernel, wsA_in (tb_3 (List.mem_of_getElem? (i := 158) rfl)) rfl, ii_J11, by decide +kernel, by decide⟩
theorem sm_J11_lowSurrogate_5068e : Cond.static yJ11_lowSurrogate_5068e ∈ wsA := wsA_in (tb_3 (List.mem_of_getElem? (i := 157) rfl)) rfl
abbrev mJ1_canEncode_9a6ad : pM := (yJ1_canEncode_9a6ad, cJ1_canEncode_9a6ad, 1, (some .boolean))
theorem ok_J1_canEncode_9a6ad : pMok mJ1_canEncode_9a6ad 1 := ⟨by decide +kernel, wsA_in (tb_3 (List.mem_of_getElem? (i := 119) rfl)) rfl, ii_J1, by decide +kernel, by decide⟩
theorem sm_J1_canEncode_9a6ad : Cond.static yJ1_canEncode_9a6ad ∈ wsA := wsA_in (tb_3 (List.mem_of_getElem? (i := 118) rfl)) rfl
abbrev mJ1_charAt_3b067 : pM := (yJ1_charAt_3b067, cJ1_charAt_3b067, 2, (some .char))
theorem ok_J1_charAt_3b067 : pMok mJ1_charAt_3b067 2 := ⟨by decide +kernel, wsA_in (tb_3 (List.mem_of_getElem? (i := 69) rfl)) rfl, ii_J1, by decide +kernel, by decide⟩
theorem sm_J1_charAt_3b067 : Cond.static yJ1_charAt_3b067 ∈ wsA := wsA_in (tb_3 (List.mem_of_getElem? (i := 68) rfl)) rfl
abbrev mJ1_indexOfChar_4cfef : pM := (yJ1_indexOfChar_4cfef, cJ1_indexOfChar_4cfef, 6, (some .int))
theorem ok_J1_indexOfChar_4cfef : pMok mJ1_indexOfChar_4cfef 4 := ⟨by decide +kernel, wsA_in (tb_3 (List.mem_of_getElem? (i := 124) rfl)) rfl, ii_J1, by decide +kernel, by decide⟩
theorem sm_J1_indexOfChar_4cfef : Cond.static yJ1_indexOfChar_4cfef ∈ wsA := wsA_in (tb_3 (List.mem_of_getElem? (i := 123) rfl)) rfl
abbrev mJ1_indexOf_4cfef : pM := (yJ1_indexOf_4cfef, cJ1_indexOf_4cfef, 4, (some .int))
theorem ok_J1_indexOf_4cfef : pMok mJ1_indexOf_4cfef 4 := ⟨by decide +kernel, wsA_in (tb_3 (List.mem_of_getElem? (i := 116) rfl)) rfl, ii_J1, by decide +kernel, by decide⟩
theorem sm_J1_indexOf_4cfef : Cond.static yJ1_indexOf_4cfef ∈ wsA := wsA_in (tb_3 (List.mem_of_getElem? (i := 115) rfl)) rfl
abbrev mJ2_charAt_3b067 : pM := (yJ2_charAt_3b067, cJ2_charAt_3b067, 2, (some .char))
theorem ok_J2_charAt_3b067 : pMok mJ2_charAt_3b067 2 := ⟨by decide +kernel, wsA_in (tb_3 (List.mem_of_getElem? (i := 80) rfl)) rfl, ii_J2, by decide +kernel, by decide⟩
theorem sm_J2_charAt_3b067 : Cond.static yJ2_charAt_3b067 ∈ wsA := wsA_in (tb_3 (List.mem_of_getElem? (i := 79) rfl)) rfl
abbrev mJ2_checkBoundsBeginEnd_d044e : pM := (yJ2_checkBoundsBeginEnd_d044e, cJ2_checkBoundsBeginEnd_d044e, 3, none)
theorem ok_J2_checkBoundsBeginEnd_d044e : pMok mJ2_checkBoundsBeginEnd_d044e 3 := ⟨by decide +kernel, wsA_in (tb_3 (List.mem_of_getElem? (i := 136) rfl)) rfl, ii_J2, by decide +kernel, by decide⟩
theorem sm_J2_checkBoundsBeginEnd_d044e : Cond.static yJ2_checkBoundsBeginEnd_d044e ∈ wsA := wsA_in (tb_3 (List.mem_of_getElem? (i := 135) rfl)) rfl
abbrev mJ2_checkIndex_2214a : pM := (yJ2_checkIndex_2214a, cJ2_checkIndex_2214a, 2, none)
theorem ok_J2_checkIndex_2214a : pMok mJ2_checkIndex_2214a 2 := ⟨by decide +kernel, wsA_in (tb_3 (List.mem_of_getElem? (i := 83) rfl)) rfl, ii_J2, by decide +kernel, by decide⟩
theorem sm_J2_checkIndex_2214a : Cond.static yJ2_checkIndex_2214a ∈ wsA := wsA_in (tb_3 (List.mem_of_getElem? (i := 82) rfl)) rfl
abbrev mJ2_getChar_3b067 : pM := (yJ2_getChar_3b067, cJ2_getChar_3b067, 2, (some .char))
theorem ok_J2_getChar_3b067 : pMok mJ2_getChar_3b067 2 := ⟨by decide +kernel, wsA_in (tb_3 (List.mem_of_getElem? (i := 90) rfl)) rfl, ii_J2, by decide +kernel, by decide⟩
theorem sm_J2_getChar_3b067 : Cond.static yJ2_getChar_3b067 ∈ wsA := wsA_in (tb_3 (List.mem_of_getElem? (i := 89) rfl)) rfl
abbrev mJ2_indexOfCharUnsafe_4cfef : pM := (yJ2_indexOfCharUnsafe_4cfef, cJ2_indexOfCharUnsafe_4cfef, 5, (some .int))
theorem ok_J2_indexOfCharUnsafe_4cfef : pMok mJ2_indexOfCharUnsafe_4cfef 4 := ⟨by decide +kernel, wsA_in (tb_3 (List.mem_of_getElem? (i := 145) rfl)) rfl, ii_J2, by decide +kernel, by decide⟩
theorem sm_J2_indexOfCharUnsafe_4cfef : Cond.static yJ2_indexOfCharUnsafe_4cfef ∈ wsA := wsA_in (tb_3 (List.mem_of_getElem? (i := 144) rfl)) rfl
abbrev mJ2_indexOfChar_4cfef : pM := (yJ2_indexOfChar_4cfef, cJ2_indexOfChar_4cfef, 4, (some .int))
theorem ok_J2_indexOfChar_4cfef : pMok mJ2_indexOfChar_4cfef 4 := ⟨by decide +kernel, wsA_in (tb_3 (List.mem_of_getElem? (i := 133) rfl)) rfl, ii_J2, by decide +kernel, by decide⟩
theorem sm_J2_indexOfChar_4cfef : Cond.static yJ2_indexOfChar_4cfef ∈ wsA := wsA_in (tb_3 (List.mem_of_getElem? (i := 132) rfl)) rfl
abbrev mJ2_indexOfSupplementary_4cfef : pM := (yJ2_indexOfSupplementary_4cfef, cJ2_indexOfSupplementary_4cfef, 7, (some .int))
theorem ok_J2_indexOfSupplementary_4cfef : pMok mJ2_indexOfSupplementary_4cfef 4 := ⟨by decide +kernel, wsA_in (tb_3 (List.mem_of_getElem? (i := 148) rfl)) rfl, ii_J2, by decide +kernel, by decide⟩
theorem sm_J2_indexOfSupplementary_4cfef : Cond.static yJ2_indexOfSupplementary_4cfef ∈ wsA := wsA_in (tb_3 (List.mem_of_getElem? (i := 147) rfl)) rfl
abbrev mJ2_indexOf_4cfef : pM := (yJ2_indexOf_4cfef, cJ2_indexOf_4cfef, 4, (some .int))
theorem ok_J2_indexOf_4cfef : pMok mJ2_indexOf_4cfef 4 := ⟨by decide +kernel, wsA_in (tb_3 (List.mem_of_getElem? (i := 127) rfl)) rfl, ii_J2, by decide +kernel, by decide⟩
theorem sm_J2_indexOf_4cfef : Cond.static yJ2_indexOf_4cfef ∈ wsA := wsA_in (tb_3 (List.mem_of_getElem? (i := 126) rfl)) rfl
abbrev mJ2_length_9d52b : pM := (yJ2_length_9d52b, cJ2_length_9d52b, 1, (some .int))
theorem ok_J2_length_9d52b : pMok mJ2_length_9d52b 1 := ⟨by decide +kernel, wsA_in (tb_3 (List.mem_of_getElem? (i := 86) rfl)) rfl, ii_J2, by decide +kernel, by decide⟩
theorem sm_J2_length_9d52b : Cond.static yJ2_length_9d52b ∈ wsA := wsA_in (tb_3 (List.mem_of_getElem? (i := 85) rfl)) rfl
abbrev mJ3_checkFromToIndex_8c36e : pM := (yJ3_checkFromToIndex_8c36e, cJ3_checkFromToIndex_8c36e, 4, (some .int))
theorem ok_J3_checkFromToIndex_8c36e : pMok mJ3_checkFromToIndex_8c36e 4 := ⟨by decide +kernel, wsA_in (tb_3 (List.mem_of_getElem? (i := 142) rfl)) rfl, ii_J3, by decide +kernel, by decide⟩
theorem sm_J3_checkFromToIndex_8c36e : Cond.static yJ3_checkFromToIndex_8c36e ∈ wsA := wsA_in (tb_3 (List.mem_of_getElem? (i := 141) rfl)) rfl
abbrev mJ3_checkIndex_8e157 : pM := (yJ3_checkIndex_8e157, cJ3_checkIndex_8e157, 3, (some .int))
theorem ok_J3_checkIndex_8e157 : pMok mJ3_checkIndex_8e157 3 := ⟨by decide +kernel, wsA_in (tb_3 (List.mem_of_getElem? (i := 77) rfl)) rfl, ii_J3, by decide +kernel, by decide⟩
theorem sm_J3_checkIndex_8e157 : Cond.static yJ3_checkIndex_8e157 ∈ wsA := wsA_in (tb_3 (List.mem_of_getElem? (i := 76) rfl)) rfl
abbrev mJ7_fill_53178 : pM := (yJ7_fill_53178, cJ7_fill_53178, 4, none)
theorem ok_J7_fill_53178 : pMok mJ7_fill_53178 2 := ⟨by decide +kernel, wsA_in (tb_2 (List.mem_of_getElem? (i := 135) rfl)) rfl, ii_J7, by decide +kernel, by decide⟩
theorem sm_J7_fill_53178 : Cond.static yJ7_fill_53178 ∈ wsA := wsA_in (tb_2 (List.mem_of_getElem? (i := 134) rfl)) rfl
abbrev mJ9_max_7cf53 : pM := (yJ9_max_7cf53, cJ9_max_7cf53, 2, (some .int))
theorem sm_J9_max_7cf53 : Cond.static yJ9_max_7cf53 ∈ wsA := wsA_in (tb_1 (List.mem_of_getElem? (i := 152) rfl)) rfl
abbrev mJ9_min_7cf53 : pM := (yJ9_min_7cf53, cJ9_min_7cf53, 2, (some .int))
theorem sm_J9_min_7cf53 : Cond.static yJ9_min_7cf53 ∈ wsA := wsA_in (tb_2 (List.mem_of_getElem? (i := 149) rfl)) rfl
abbrev mX0_addArrivals : pM := (yX0_addArrivals, cX0_addArrivals, 3, (some .int))
theorem ok_X0_addArrivals : pMok mX0_addArrivals 2 := ⟨by decide +kernel, wsA_in (tb_5 (List.mem_of_getElem? (i := 71) rfl)) rfl, ii_X0, by decide +kernel, by decide⟩
theorem im_X0_addArrivals : Cond.instanceMethod yX0_addArrivals ∈ wsA := wsA_in (tb_5 (List.mem_of_getElem? (i := 69) rfl)) rfl
theorem se_X0_addArrivals : Cond.selects RX0 yX0_addArrivals yX0_addArrivals ∈ wsA := wsA_in (tb_5 (List.mem_of_getElem? (i := 70) rfl)) rfl
abbrev mX0_addTurn : pM := (yX0_addTurn, cX0_addTurn, 3, (some .int))
theorem ok_X0_addTurn : pMok mX0_addTurn 2 := ⟨by decide +kernel, wsA_in (tb_5 (List.mem_of_getElem? (i := 79) rfl)) rfl, ii_X0, by decide +kernel, by decide⟩
theorem im_X0_addTurn : Cond.instanceMethod yX0_addTurn ∈ wsA := wsA_in (tb_5 (List.mem_of_getElem? (i := 77) rfl)) rfl
theorem se_X0_addTurn : Cond.selects RX0 yX0_addTurn yX0_addTurn ∈ wsA := wsA_in (tb_5 (List.mem_of_getElem? (i := 78) rfl)) rfl
abbrev mX0_forgetWays : pM := (yX0_forgetWays, cX0_forgetWays, 1, none)
theorem ok_X0_forgetWays : pMok mX0_forgetWays 0 := ⟨by decide +kernel, wsA_in (tb_3 (List.mem_of_getElem? (i := 224) rfl)) rfl, ii_X0, by decide +kernel, by decide⟩
theorem im_X0_forgetWays : Cond.instanceMethod yX0_forgetWays ∈ wsA := wsA_in (tb_3 (List.mem_of_getElem? (i := 222) rfl)) rfl
theorem se_X0_forgetWays : Cond.selects RX0 yX0_forgetWays yX0_forgetWays ∈ wsA := wsA_in (tb_3 (List.mem_of_getElem? (i := 223) rfl)) rfl
abbrev mX0_init : pM := (yX0_init, cX0_init, 1, none)
theorem ok_X0_init : pMok mX0_init 0 := ⟨by decide +kernel, wsA_in (tb_2 (List.mem_of_getElem? (i := 42) rfl)) rfl, ii_X0, by decide +kernel, by decide⟩
theorem im_X0_init : Cond.instanceMethod yX0_init ∈ wsA := wsA_in (tb_2 (List.mem_of_getElem? (i := 41) rfl)) rfl
abbrev mX10_about : pM := (yX10_about, cX10_about, 2, (some .int))
theorem ok_X10_about : pMok mX10_about 1 := ⟨by decide +kernel, wsA_in (tb_5 (List.mem_of_getElem? (i := 185) rfl)) rfl, ii_X10, by decide +kernel, by decide⟩
theorem im_X10_about : Cond.instanceMethod yX10_about ∈ wsA := wsA_in (tb_5 (List.mem_of_getElem? (i := 183) rfl)) rfl
theorem se_X10_about : Cond.selects RX10 yX10_about yX10_about ∈ wsA := wsA_in (tb_5 (List.mem_of_getElem? (i := 184) rfl)) rfl
abbrev mX10_air : pM := (yX10_air, cX10_air, 4, (some .int))
theorem ok_X10_air : pMok mX10_air 3 := ⟨by decide +kernel, wsA_in (tb_4 (List.mem_of_getElem? (i := 72) rfl)) rfl, ii_X10, by decide +kernel, by decide⟩
theorem im_X10_air : Cond.instanceMethod yX10_air ∈ wsA := wsA_in (tb_4 (List.mem_of_getElem? (i := 70) rfl)) rfl
theorem se_X10_air : Cond.selects RX10 yX10_air yX10_air ∈ wsA := wsA_in (tb_4 (List.mem_of_getElem? (i := 71) rfl)) rfl
abbrev mX10_arrive : pM := (yX10_arrive, cX10_arrive, 3, (some .int))
theorem ok_X10_arrive : pMok mX10_arrive 2 := ⟨by decide +kernel, wsA_in (tb_5 (List.mem_of_getElem? (i := 67) rfl)) rfl, ii_X10, by decide +kernel, by decide⟩
theorem im_X10_arrive : Cond.instanceMethod yX10_arrive ∈ wsA := wsA_in (tb_5 (List.mem_of_getElem? (i := 65) rfl)) rfl
theorem se_X10_arrive : Cond.selects RX10 yX10_arrive yX10_arrive ∈ wsA := wsA_in (tb_5 (List.mem_of_getElem? (i := 66) rfl)) rfl
abbrev mX10_can : pM := (yX10_can, cX10_can, 6, (some .int))
theorem ok_X10_can : pMok mX10_can 4 := ⟨by decide +kernel, wsA_in (tb_4 (List.mem_of_getElem? (i := 239) rfl)) rfl, ii_X10, by decide +kernel, by decide⟩
theorem im_X10_can : Cond.instanceMethod yX10_can ∈ wsA := wsA_in (tb_4 (List.mem_of_getElem? (i := 237) rfl)) rfl
theorem se_X10_can : Cond.selects RX10 yX10_can yX10_can ∈ wsA := wsA_in (tb_4 (List.mem_of_getElem? (i := 238) rfl)) rfl
abbrev mX10_canAsk : pM := (yX10_canAsk, cX10_canAsk, 5, (some .boolean))
theorem ok_X10_canAsk : pMok mX10_canAsk 4 := ⟨by decide +kernel, wsA_in (tb_4 (List.mem_of_getElem? (i := 124) rfl)) rfl, ii_X10, by decide +kernel, by decide⟩
theorem im_X10_canAsk : Cond.instanceMethod yX10_canAsk ∈ wsA := wsA_in (tb_4 (List.mem_of_getElem? (i := 123) rfl)) rfl
theorem se_X10_canAsk : Cond.selects RX10 yX10_canAsk yX10_canAsk ∈ wsA := wsA_in (lpk_2 (q := (yX10_canAsk, 18)) (List.mem_of_getElem? (i := 11) rfl)) rfl
abbrev mX10_canOn : pM := (yX10_canOn, cX10_canOn, 6, (some .int))
theorem ok_X10_canOn : pMok mX10_canOn 4 := ⟨by decide +kernel, wsA_in (tb_5 (List.mem_of_getElem? (i := 50) rfl)) rfl, ii_X10, by decide +kernel, by decide⟩
theorem im_X10_canOn : Cond.instanceMethod yX10_canOn ∈ wsA := wsA_in (tb_5 (List.mem_of_getElem? (i := 48) rfl)) rfl
theorem se_X10_canOn : Cond.selects RX10 yX10_canOn yX10_canOn ∈ wsA := wsA_in (tb_5 (List.mem_of_getElem? (i := 49) rfl)) rfl
abbrev mX10_cutTape : pM := (yX10_cutTape, cX10_cutTape, 1, none)
theorem ok_X10_cutTape : pMok mX10_cutTape 0 := ⟨by decide +kernel, wsA_in (tb_3 (List.mem_of_getElem? (i := 17) rfl)) rfl, ii_X10, by decide +kernel, by decide⟩
theorem im_X10_cutTape : Cond.instanceMethod yX10_cutTape ∈ wsA := wsA_in (tb_3 (List.mem_of_getElem? (i := 16) rfl)) rfl
theorem se_X10_cutTape : Cond.selects RX10 yX10_cutTape yX10_cutTape ∈ wsA := wsA_in (lpk_1 (q := (yX10_cutTape, 18)) (List.mem_of_getElem? (i := 4) rfl)) rfl
abbrev mX10_day : pM := (yX10_day, cX10_day, 2, (some .int))
theorem ok_X10_day : pMok mX10_day 1 := ⟨by decide +kernel, wsA_in (tb_5 (List.mem_of_getElem? (i := 87) rfl)) rfl, ii_X10, by decide +kernel, by decide⟩
theorem im_X10_day : Cond.instanceMethod yX10_day ∈ wsA := wsA_in (tb_5 (List.mem_of_getElem? (i := 85) rfl)) rfl
theorem se_X10_day : Cond.selects RX10 yX10_day yX10_day ∈ wsA := wsA_in (tb_5 (List.mem_of_getElem? (i := 86) rfl)) rfl
abbrev mX10_end : pM := (yX10_end, cX10_end, 2, (some .int))
theorem ok_X10_end : pMok mX10_end 1 := ⟨by decide +kernel, wsA_in (tb_3 (List.mem_of_getElem? (i := 9) rfl)) rfl, ii_X10, by decide +kernel, by decide⟩
theorem im_X10_end : Cond.instanceMethod yX10_end ∈ wsA := wsA_in (tb_3 (List.mem_of_getElem? (i := 7) rfl)) rfl
theorem se_X10_end : Cond.selects RX10 yX10_end yX10_end ∈ wsA := wsA_in (tb_3 (List.mem_of_getElem? (i := 8) rfl)) rfl
abbrev mX10_fault : pM := (yX10_fault, cX10_fault, 2, (some .int))
theorem ok_X10_fault : pMok mX10_fault 1 := ⟨by decide +kernel, wsA_in (tb_4 (List.mem_of_getElem? (i := 45) rfl)) rfl, ii_X10, by decide +kernel, by decide⟩
theorem im_X10_fault : Cond.instanceMethod yX10_fault ∈ wsA := wsA_in (tb_4 (List.mem_of_getElem? (i := 43) rfl)) rfl
theorem se_X10_fault : Cond.selects RX10 yX10_fault yX10_fault ∈ wsA := wsA_in (tb_4 (List.mem_of_getElem? (i := 44) rfl)) rfl
abbrev mX10_feed : pM := (yX10_feed, cX10_feed, 6, (some .int))
theorem ok_X10_feed : pMok mX10_feed 5 := ⟨by decide +kernel, wsA_in (tb_3 (List.mem_of_getElem? (i := 1) rfl)) rfl, ii_X10, by decide +kernel, by decide⟩
theorem im_X10_feed : Cond.instanceMethod yX10_feed ∈ wsA := wsA_in (tb_2 (List.mem_of_getElem? (i := 239) rfl)) rfl
theorem se_X10_feed : Cond.selects RX10 yX10_feed yX10_feed ∈ wsA := wsA_in (tb_3 (List.mem_of_getElem? (i := 0) rfl)) rfl
abbrev mX10_hourOf : pM := (yX10_hourOf, cX10_hourOf, 1, (some .int))
theorem ok_X10_hourOf : pMok mX10_hourOf 1 := ⟨by decide +kernel, wsA_in (tb_4 (List.mem_of_getElem? (i := 116) rfl)) rfl, ii_X10, by decide +kernel, by decide⟩
theorem sm_X10_hourOf : Cond.static yX10_hourOf ∈ wsA := wsA_in (tb_4 (List.mem_of_getElem? (i := 115) rfl)) rfl
abbrev mX10_init : pM := (yX10_init, cX10_init, 1, none)
theorem ok_X10_init : pMok mX10_init 0 := ⟨by decide +kernel, wsA_in (tb_1 (List.mem_of_getElem? (i := 24) rfl)) rfl, ii_X10, by decide +kernel, by decide⟩
theorem im_X10_init : Cond.instanceMethod yX10_init ∈ wsA := wsA_in (tb_1 (List.mem_of_getElem? (i := 23) rfl)) rfl
abbrev mX10_keepFault : pM := (yX10_keepFault, cX10_keepFault, 1, none)
theorem ok_X10_keepFault : pMok mX10_keepFault 0 := ⟨by decide +kernel, wsA_in (tb_3 (List.mem_of_getElem? (i := 220) rfl)) rfl, ii_X10, by decide +kernel, by decide⟩
theorem im_X10_keepFault : Cond.instanceMethod yX10_keepFault ∈ wsA := wsA_in (tb_3 (List.mem_of_getElem? (i := 219) rfl)) rfl
theorem se_X10_keepFault : Cond.selects RX10 yX10_keepFault yX10_keepFault ∈ wsA := wsA_in (lpk_1 (q := (yX10_keepFault, 18)) (List.mem_of_getElem? (i := 15) rfl)) rfl
abbrev mX10_last : pM := (yX10_last, cX10_last, 4, (some .int))
theorem ok_X10_last : pMok mX10_last 3 := ⟨by decide +kernel, wsA_in (tb_4 (List.mem_of_getElem? (i := 183) rfl)) rfl, ii_X10, by decide +kernel, by decide⟩
theorem im_X10_last : Cond.instanceMethod yX10_last ∈ wsA := wsA_in (tb_4 (List.mem_of_getElem? (i := 181) rfl)) rfl
theorem se_X10_last : Cond.selects RX10 yX10_last yX10_last ∈ wsA := wsA_in (tb_4 (List.mem_of_getElem? (i := 182) rfl)) rfl
abbrev mX10_later : pM := (yX10_later, cX10_later, 2, (some .int))
theorem ok_X10_later : pMok mX10_later 1 := ⟨by decide +kernel, wsA_in (tb_4 (List.mem_of_getElem? (i := 67) rfl)) rfl, ii_X10, by decide +kernel, by decide⟩
theorem im_X10_later : Cond.instanceMethod yX10_later ∈ wsA := wsA_in (tb_4 (List.mem_of_getElem? (i := 65) rfl)) rfl
theorem se_X10_later : Cond.selects RX10 yX10_later yX10_later ∈ wsA := wsA_in (tb_4 (List.mem_of_getElem? (i := 66) rfl)) rfl
abbrev mX10_law : pM := (yX10_law, cX10_law, 3, (some .int))
theorem ok_X10_law : pMok mX10_law 0 := ⟨by decide +kernel, wsA_in (tb_3 (List.mem_of_getElem? (i := 230) rfl)) rfl, ii_X10, by decide +kernel, by decide⟩
theorem im_X10_law : Cond.instanceMethod yX10_law ∈ wsA := wsA_in (tb_3 (List.mem_of_getElem? (i := 228) rfl)) rfl
theorem se_X10_law : Cond.selects RX10 yX10_law yX10_law ∈ wsA := wsA_in (tb_3 (List.mem_of_getElem? (i := 229) rfl)) rfl
abbrev mX10_look : pM := (yX10_look, cX10_look, 2, none)
theorem ok_X10_look : pMok mX10_look 1 := ⟨by decide +kernel, wsA_in (tb_4 (List.mem_of_getElem? (i := 76) rfl)) rfl, ii_X10, by decide +kernel, by decide⟩
theorem im_X10_look : Cond.instanceMethod yX10_look ∈ wsA := wsA_in (tb_4 (List.mem_of_getElem? (i := 75) rfl)) rfl
theorem se_X10_look : Cond.selects RX10 yX10_look yX10_look ∈ wsA := wsA_in (lpk_2 (q := (yX10_look, 18)) (List.mem_of_getElem? (i := 9) rfl)) rfl
abbrev mX10_make : pM := (yX10_make, cX10_make, 3, (some .boolean))
theorem ok_X10_make : pMok mX10_make 2 := ⟨by decide +kernel, wsA_in (tb_5 (List.mem_of_getElem? (i := 83) rfl)) rfl, ii_X10, by decide +kernel, by decide⟩
theorem im_X10_make : Cond.instanceMethod yX10_make ∈ wsA := wsA_in (tb_5 (List.mem_of_getElem? (i := 81) rfl)) rfl
theorem se_X10_make : Cond.selects RX10 yX10_make yX10_make ∈ wsA := wsA_in (tb_5 (List.mem_of_getElem? (i := 82) rfl)) rfl
abbrev mX10_meet : pM := (yX10_meet, cX10_meet, 9, (some .int))
theorem ok_X10_meet : pMok mX10_meet 5 := ⟨by decide +kernel, wsA_in (tb_5 (List.mem_of_getElem? (i := 63) rfl)) rfl, ii_X10, by decide +kernel, by decide⟩
theorem im_X10_meet : Cond.instanceMethod yX10_meet ∈ wsA := wsA_in (tb_5 (List.mem_of_getElem? (i := 61) rfl)) rfl
theorem se_X10_meet : Cond.selects RX10 yX10_meet yX10_meet ∈ wsA := wsA_in (tb_5 (List.mem_of_getElem? (i := 62) rfl)) rfl
abbrev mX10_mountain : pM := (yX10_mountain, cX10_mountain, 3, (some .int))
theorem ok_X10_mountain : pMok mX10_mountain 0 := ⟨by decide +kernel, wsA_in (tb_3 (List.mem_of_getElem? (i := 13) rfl)) rfl, ii_X10, by decide +kernel, by decide⟩
theorem im_X10_mountain : Cond.instanceMethod yX10_mountain ∈ wsA := wsA_in (tb_3 (List.mem_of_getElem? (i := 11) rfl)) rfl
theorem se_X10_mountain : Cond.selects RX10 yX10_mountain yX10_mountain ∈ wsA := wsA_in (tb_3 (List.mem_of_getElem? (i := 12) rfl)) rfl
abbrev mX10_open : pM := (yX10_open, cX10_open, 4, (some .int))
theorem ok_X10_open : pMok mX10_open 3 := ⟨by decide +kernel, wsA_in (tb_4 (List.mem_of_getElem? (i := 104) rfl)) rfl, ii_X10, by decide +kernel, by decide⟩
theorem im_X10_open : Cond.instanceMethod yX10_open ∈ wsA := wsA_in (tb_4 (List.mem_of_getElem? (i := 102) rfl)) rfl
theorem se_X10_open : Cond.selects RX10 yX10_open yX10_open ∈ wsA := wsA_in (tb_4 (List.mem_of_getElem? (i := 103) rfl)) rfl
abbrev mX10_pass : pM := (yX10_pass, cX10_pass, 4, (some .int))
theorem ok_X10_pass : pMok mX10_pass 3 := ⟨by decide +kernel, wsA_in (tb_4 (List.mem_of_getElem? (i := 231) rfl)) rfl, ii_X10, by decide +kernel, by decide⟩
theorem im_X10_pass : Cond.instanceMethod yX10_pass ∈ wsA := wsA_in (tb_4 (List.mem_of_getElem? (i := 229) rfl)) rfl
theorem se_X10_pass : Cond.selects RX10 yX10_pass yX10_pass ∈ wsA := wsA_in (tb_4 (List.mem_of_getElem? (i := 230) rfl)) rfl
abbrev mX10_places : pM := (yX10_places, cX10_places, 7, (some .int))
theorem ok_X10_places : pMok mX10_places 3 := ⟨by decide +kernel, wsA_in (tb_5 (List.mem_of_getElem? (i := 59) rfl)) rfl, ii_X10, by decide +kernel, by decide⟩
theorem im_X10_places : Cond.instanceMethod yX10_places ∈ wsA := wsA_in (tb_5 (List.mem_of_getElem? (i := 57) rfl)) rfl
theorem se_X10_places : Cond.selects RX10 yX10_places yX10_places ∈ wsA := wsA_in (tb_5 (List.mem_of_getElem? (i := 58) rfl)) rfl
abbrev mX10_putOnTape : pM := (yX10_putOnTape, cX10_putOnTape, 3, none)
theorem ok_X10_putOnTape : pMok mX10_putOnTape 1 := ⟨by decide +kernel, wsA_in (tb_3 (List.mem_of_getElem? (i := 5) rfl)) rfl, ii_X10, by decide +kernel, by decide⟩
theorem im_X10_putOnTape : Cond.instanceMethod yX10_putOnTape ∈ wsA := wsA_in (tb_3 (List.mem_of_getElem? (i := 4) rfl)) rfl
theorem se_X10_putOnTape : Cond.selects RX10 yX10_putOnTape yX10_putOnTape ∈ wsA := wsA_in (lpk_1 (q := (yX10_putOnTape, 18)) (List.mem_of_getElem? (i := 3) rfl)) rfl
abbrev mX10_seen : pM := (yX10_seen, cX10_seen, 5, (some (.object "SkiMountain$Skier")))
theorem ok_X10_seen : pMok mX10_seen 3 := ⟨by decide +kernel, wsA_in (tb_5 (List.mem_of_getElem? (i := 3) rfl)) rfl, ii_X10, by decide +kernel, by decide⟩
theorem im_X10_seen : Cond.instanceMethod yX10_seen ∈ wsA := wsA_in (tb_5 (List.mem_of_getElem? (i := 2) rfl)) rfl
theorem se_X10_seen : Cond.selects RX10 yX10_seen yX10_seen ∈ wsA := wsA_in (lpk_3 (q := (yX10_seen, 18)) (List.mem_of_getElem? (i := 1) rfl)) rfl
abbrev mX10_skier : pM := (yX10_skier, cX10_skier, 2, (some .int))
theorem ok_X10_skier : pMok mX10_skier 1 := ⟨by decide +kernel, wsA_in (tb_4 (List.mem_of_getElem? (i := 192) rfl)) rfl, ii_X10, by decide +kernel, by decide⟩
theorem im_X10_skier : Cond.instanceMethod yX10_skier ∈ wsA := wsA_in (tb_4 (List.mem_of_getElem? (i := 190) rfl)) rfl
theorem se_X10_skier : Cond.selects RX10 yX10_skier yX10_skier ∈ wsA := wsA_in (tb_4 (List.mem_of_getElem? (i := 191) rfl)) rfl
abbrev mX10_snow : pM := (yX10_snow, cX10_snow, 3, (some .int))
theorem ok_X10_snow : pMok mX10_snow 2 := ⟨by decide +kernel, wsA_in (tb_5 (List.mem_of_getElem? (i := 154) rfl)) rfl, ii_X10, by decide +kernel, by decide⟩
theorem im_X10_snow : Cond.instanceMethod yX10_snow ∈ wsA := wsA_in (tb_5 (List.mem_of_getElem? (i := 152) rfl)) rfl
theorem se_X10_snow : Cond.selects RX10 yX10_snow yX10_snow ∈ wsA := wsA_in (tb_5 (List.mem_of_getElem? (i := 153) rfl)) rfl
abbrev mX10_soonest : pM := (yX10_soonest, cX10_soonest, 6, (some .int))
theorem ok_X10_soonest : pMok mX10_soonest 5 := ⟨by decide +kernel, wsA_in (tb_4 (List.mem_of_getElem? (i := 120) rfl)) rfl, ii_X10, by decide +kernel, by decide⟩
theorem im_X10_soonest : Cond.instanceMethod yX10_soonest ∈ wsA := wsA_in (tb_4 (List.mem_of_getElem? (i := 118) rfl)) rfl
theorem se_X10_soonest : Cond.selects RX10 yX10_soonest yX10_soonest ∈ wsA := wsA_in (tb_4 (List.mem_of_getElem? (i := 119) rfl)) rfl
abbrev mX10_sweep : pM := (yX10_sweep, cX10_sweep, 3, (some .int))
theorem ok_X10_sweep : pMok mX10_sweep 2 := ⟨by decide +kernel, wsA_in (tb_5 (List.mem_of_getElem? (i := 162) rfl)) rfl, ii_X10, by decide +kernel, by decide⟩
theorem im_X10_sweep : Cond.instanceMethod yX10_sweep ∈ wsA := wsA_in (tb_5 (List.mem_of_getElem? (i := 160) rfl)) rfl
theorem se_X10_sweep : Cond.selects RX10 yX10_sweep yX10_sweep ∈ wsA := wsA_in (tb_5 (List.mem_of_getElem? (i := 161) rfl)) rfl
abbrev mX10_took : pM := (yX10_took, cX10_took, 3, (some .int))
theorem ok_X10_took : pMok mX10_took 2 := ⟨by decide +kernel, wsA_in (tb_5 (List.mem_of_getElem? (i := 158) rfl)) rfl, ii_X10, by decide +kernel, by decide⟩
theorem im_X10_took : Cond.instanceMethod yX10_took ∈ wsA := wsA_in (tb_5 (List.mem_of_getElem? (i := 156) rfl)) rfl
theorem se_X10_took : Cond.selects RX10 yX10_took yX10_took ∈ wsA := wsA_in (tb_5 (List.mem_of_getElem? (i := 157) rfl)) rfl
abbrev mX10_turn : pM := (yX10_turn, cX10_turn, 2, (some .int))
theorem ok_X10_turn : pMok mX10_turn 1 := ⟨by decide +kernel, wsA_in (tb_5 (List.mem_of_getElem? (i := 75) rfl)) rfl, ii_X10, by decide +kernel, by decide⟩
theorem im_X10_turn : Cond.instanceMethod yX10_turn ∈ wsA := wsA_in (tb_5 (List.mem_of_getElem? (i := 73) rfl)) rfl
theorem se_X10_turn : Cond.selects RX10 yX10_turn yX10_turn ∈ wsA := wsA_in (tb_5 (List.mem_of_getElem? (i := 74) rfl)) rfl
abbrev mX10_unpass : pM := (yX10_unpass, cX10_unpass, 2, (some .boolean))
theorem ok_X10_unpass : pMok mX10_unpass 1 := ⟨by decide +kernel, wsA_in (tb_4 (List.mem_of_getElem? (i := 235) rfl)) rfl, ii_X10, by decide +kernel, by decide⟩
theorem im_X10_unpass : Cond.instanceMethod yX10_unpass ∈ wsA := wsA_in (tb_4 (List.mem_of_getElem? (i := 233) rfl)) rfl
theorem se_X10_unpass : Cond.selects RX10 yX10_unpass yX10_unpass ∈ wsA := wsA_in (tb_4 (List.mem_of_getElem? (i := 234) rfl)) rfl
abbrev mX10_untell : pM := (yX10_untell, cX10_untell, 2, (some .boolean))
theorem ok_X10_untell : pMok mX10_untell 1 := ⟨by decide +kernel, wsA_in (tb_4 (List.mem_of_getElem? (i := 58) rfl)) rfl, ii_X10, by decide +kernel, by decide⟩
theorem im_X10_untell : Cond.instanceMethod yX10_untell ∈ wsA := wsA_in (tb_4 (List.mem_of_getElem? (i := 56) rfl)) rfl
theorem se_X10_untell : Cond.selects RX10 yX10_untell yX10_untell ∈ wsA := wsA_in (tb_4 (List.mem_of_getElem? (i := 57) rfl)) rfl
abbrev mX10_wait : pM := (yX10_wait, cX10_wait, 5, (some .int))
theorem ok_X10_wait : pMok mX10_wait 3 := ⟨by decide +kernel, wsA_in (tb_5 (List.mem_of_getElem? (i := 150) rfl)) rfl, ii_X10, by decide +kernel, by decide⟩
theorem im_X10_wait : Cond.instanceMethod yX10_wait ∈ wsA := wsA_in (tb_5 (List.mem_of_getElem? (i := 148) rfl)) rfl
theorem se_X10_wait : Cond.selects RX10 yX10_wait yX10_wait ∈ wsA := wsA_in (tb_5 (List.mem_of_getElem? (i := 149) rfl)) rfl
abbrev mX10_way : pM := (yX10_way, cX10_way, 7, (some .int))
theorem ok_X10_way : pMok mX10_way 6 := ⟨by decide +kernel, wsA_in (tb_4 (List.mem_of_getElem? (i := 157) rfl)) rfl, ii_X10, by decide +kernel, by decide⟩
theorem im_X10_way : Cond.instanceMethod yX10_way ∈ wsA := wsA_in (tb_4 (List.mem_of_getElem? (i := 155) rfl)) rfl
theorem se_X10_way : Cond.selects RX10 yX10_way yX10_way ∈ wsA := wsA_in (tb_4 (List.mem_of_getElem? (i := 156) rfl)) rfl
abbrev mX10_weather : pM := (yX10_weather, cX10_weather, 4, (some .int))
theorem ok_X10_weather : pMok mX10_weather 3 := ⟨by decide +kernel, wsA_in (tb_4 (List.mem_of_getElem? (i := 49) rfl)) rfl, ii_X10, by decide +kernel, by decide⟩
theorem im_X10_weather : Cond.instanceMethod yX10_weather ∈ wsA := wsA_in (tb_4 (List.mem_of_getElem? (i := 47) rfl)) rfl
theorem se_X10_weather : Cond.selects RX10 yX10_weather yX10_weather ∈ wsA := wsA_in (tb_4 (List.mem_of_getElem? (i := 48) rfl)) rfl
abbrev mX10_within : pM := (yX10_within, cX10_within, 2, (some .boolean))
theorem ok_X10_within : pMok mX10_within 2 := ⟨by decide +kernel, wsA_in (tb_2 (List.mem_of_getElem? (i := 147) rfl)) rfl, ii_X10, by decide +kernel, by decide⟩
theorem sm_X10_within : Cond.static yX10_within ∈ wsA := wsA_in (tb_2 (List.mem_of_getElem? (i := 146) rfl)) rfl
abbrev mX11_about : pM := (yX11_about, cX11_about, 2, (some .int))
theorem ok_X11_about : pMok mX11_about 1 := ⟨by decide +kernel, wsA_in (tb_8 (List.mem_of_getElem? (i := 149) rfl)) rfl, ii_X11, by decide +kernel, by decide⟩
theorem im_X11_about : Cond.instanceMethod yX11_about ∈ wsA := wsA_in (tb_8 (List.mem_of_getElem? (i := 147) rfl)) rfl
theorem se_X11_about : Cond.selects RX11 yX11_about yX11_about ∈ wsA := wsA_in (tb_8 (List.mem_of_getElem? (i := 148) rfl)) rfl
abbrev mX11_air : pM := (yX11_air, cX11_air, 4, (some .int))
theorem ok_X11_air : pMok mX11_air 3 := ⟨by decide +kernel, wsA_in (tb_7 (List.mem_of_getElem? (i := 191) rfl)) rfl, ii_X11, by decide +kernel, by decide⟩
theorem im_X11_air : Cond.instanceMethod yX11_air ∈ wsA := wsA_in (tb_7 (List.mem_of_getElem? (i := 189) rfl)) rfl
theorem se_X11_air : Cond.selects RX11 yX11_air yX11_air ∈ wsA := wsA_in (tb_7 (List.mem_of_getElem? (i := 190) rfl)) rfl
abbrev mX11_arrive : pM := (yX11_arrive, cX11_arrive, 3, (some .int))
theorem ok_X11_arrive : pMok mX11_arrive 2 := ⟨by decide +kernel, wsA_in (tb_8 (List.mem_of_getElem? (i := 85) rfl)) rfl, ii_X11, by decide +kernel, by decide⟩
theorem im_X11_arrive : Cond.instanceMethod yX11_arrive ∈ wsA := wsA_in (tb_8 (List.mem_of_getElem? (i := 83) rfl)) rfl
theorem se_X11_arrive : Cond.selects RX11 yX11_arrive yX11_arrive ∈ wsA := wsA_in (tb_8 (List.mem_of_getElem? (i := 84) rfl)) rfl
abbrev mX11_begin : pM := (yX11_begin, cX11_begin, 1, none)
theorem ok_X11_begin : pMok mX11_begin 0 := ⟨by decide +kernel, wsA_in (tb_7 (List.mem_of_getElem? (i := 39) rfl)) rfl, ii_X11, by decide +kernel, by decide⟩
theorem im_X11_begin : Cond.instanceMethod yX11_begin ∈ wsA := wsA_in (tb_7 (List.mem_of_getElem? (i := 38) rfl)) rfl
theorem se_X11_begin : Cond.selects RX11 yX11_begin yX11_begin ∈ wsA := wsA_in (lpk_4 (q := (yX11_begin, 102)) (List.mem_of_getElem? (i := 7) rfl)) rfl
abbrev mX11_blow : pM := (yX11_blow, cX11_blow, 4, none)
theorem ok_X11_blow : pMok mX11_blow 1 := ⟨by decide +kernel, wsA_in (tb_7 (List.mem_of_getElem? (i := 195) rfl)) rfl, ii_X11, by decide +kernel, by decide⟩
theorem im_X11_blow : Cond.instanceMethod yX11_blow ∈ wsA := wsA_in (tb_7 (List.mem_of_getElem? (i := 194) rfl)) rfl
theorem se_X11_blow : Cond.selects RX11 yX11_blow yX11_blow ∈ wsA := wsA_in (lpk_6 (q := (yX11_blow, 102)) (List.mem_of_getElem? (i := 1) rfl)) rfl
abbrev mX11_by : pM := (yX11_by, cX11_by, 4, (some .int))
theorem ok_X11_by : pMok mX11_by 3 := ⟨by decide +kernel, wsA_in (tb_8 (List.mem_of_getElem? (i := 7) rfl)) rfl, ii_X11, by decide +kernel, by decide⟩
theorem im_X11_by : Cond.instanceMethod yX11_by ∈ wsA := wsA_in (tb_8 (List.mem_of_getElem? (i := 6) rfl)) rfl
theorem se_X11_by : Cond.selects RX11 yX11_by yX11_by ∈ wsA := wsA_in (lpk_6 (q := (yX11_by, 102)) (List.mem_of_getElem? (i := 9) rfl)) rfl
abbrev mX11_can : pM := (yX11_can, cX11_can, 5, (some .int))
theorem ok_X11_can : pMok mX11_can 4 := ⟨by decide +kernel, wsA_in (tb_8 (List.mem_of_getElem? (i := 50) rfl)) rfl, ii_X11, by decide +kernel, by decide⟩
theorem im_X11_can : Cond.instanceMethod yX11_can ∈ wsA := wsA_in (tb_8 (List.mem_of_getElem? (i := 48) rfl)) rfl
theorem se_X11_can : Cond.selects RX11 yX11_can yX11_can ∈ wsA := wsA_in (tb_8 (List.mem_of_getElem? (i := 49) rfl)) rfl
abbrev mX11_canBe : pM := (yX11_canBe, cX11_canBe, 3, (some .boolean))
theorem ok_X11_canBe : pMok mX11_canBe 2 := ⟨by decide +kernel, wsA_in (tb_8 (List.mem_of_getElem? (i := 65) rfl)) rfl, ii_X11, by decide +kernel, by decide⟩
theorem im_X11_canBe : Cond.instanceMethod yX11_canBe ∈ wsA := wsA_in (tb_8 (List.mem_of_getElem? (i := 64) rfl)) rfl
theorem se_X11_canBe : Cond.selects RX11 yX11_canBe yX11_canBe ∈ wsA := wsA_in (lpk_7 (q := (yX11_canBe, 102)) (List.mem_of_getElem? (i := 0) rfl)) rfl
abbrev mX11_canGo : pM := (yX11_canGo, cX11_canGo, 3, (some .boolean))
theorem ok_X11_canGo : pMok mX11_canGo 2 := ⟨by decide +kernel, wsA_in (tb_8 (List.mem_of_getElem? (i := 11) rfl)) rfl, ii_X11, by decide +kernel, by decide⟩
theorem im_X11_canGo : Cond.instanceMethod yX11_canGo ∈ wsA := wsA_in (tb_8 (List.mem_of_getElem? (i := 10) rfl)) rfl
theorem se_X11_canGo : Cond.selects RX11 yX11_canGo yX11_canGo ∈ wsA := wsA_in (lpk_6 (q := (yX11_canGo, 102)) (List.mem_of_getElem? (i := 10) rfl)) rfl
abbrev mX11_canOn : pM := (yX11_canOn, cX11_canOn, 6, (some .int))
theorem ok_X11_canOn : pMok mX11_canOn 4 := ⟨by decide +kernel, wsA_in (tb_8 (List.mem_of_getElem? (i := 69) rfl)) rfl, ii_X11, by decide +kernel, by decide⟩
theorem im_X11_canOn : Cond.instanceMethod yX11_canOn ∈ wsA := wsA_in (tb_8 (List.mem_of_getElem? (i := 67) rfl)) rfl
theorem se_X11_canOn : Cond.selects RX11 yX11_canOn yX11_canOn ∈ wsA := wsA_in (tb_8 (List.mem_of_getElem? (i := 68) rfl)) rfl
abbrev mX11_canRide : pM := (yX11_canRide, cX11_canRide, 7, (some .boolean))
theorem ok_X11_canRide : pMok mX11_canRide 3 := ⟨by decide +kernel, wsA_in (tb_8 (List.mem_of_getElem? (i := 73) rfl)) rfl, ii_X11, by decide +kernel, by decide⟩
theorem im_X11_canRide : Cond.instanceMethod yX11_canRide ∈ wsA := wsA_in (tb_8 (List.mem_of_getElem? (i := 72) rfl)) rfl
theorem se_X11_canRide : Cond.selects RX11 yX11_canRide yX11_canRide ∈ wsA := wsA_in (lpk_7 (q := (yX11_canRide, 102)) (List.mem_of_getElem? (i := 1) rfl)) rfl
abbrev mX11_canTake : pM := (yX11_canTake, cX11_canTake, 3, (some .boolean))
theorem ok_X11_canTake : pMok mX11_canTake 2 := ⟨by decide +kernel, wsA_in (tb_8 (List.mem_of_getElem? (i := 109) rfl)) rfl, ii_X11, by decide +kernel, by decide⟩
theorem im_X11_canTake : Cond.instanceMethod yX11_canTake ∈ wsA := wsA_in (tb_8 (List.mem_of_getElem? (i := 108) rfl)) rfl
theorem se_X11_canTake : Cond.selects RX11 yX11_canTake yX11_canTake ∈ wsA := wsA_in (lpk_7 (q := (yX11_canTake, 102)) (List.mem_of_getElem? (i := 4) rfl)) rfl
abbrev mX11_counts : pM := (yX11_counts, cX11_counts, 3, (some .boolean))
theorem ok_X11_counts : pMok mX11_counts 3 := ⟨by decide +kernel, wsA_in (tb_7 (List.mem_of_getElem? (i := 198) rfl)) rfl, ii_X11, by decide +kernel, by decide⟩
theorem sm_X11_counts : Cond.static yX11_counts ∈ wsA := wsA_in (tb_7 (List.mem_of_getElem? (i := 197) rfl)) rfl
abbrev mX11_day : pM := (yX11_day, cX11_day, 5, (some .int))
theorem ok_X11_day : pMok mX11_day 1 := ⟨by decide +kernel, wsA_in (tb_8 (List.mem_of_getElem? (i := 97) rfl)) rfl, ii_X11, by decide +kernel, by decide⟩
theorem im_X11_day : Cond.instanceMethod yX11_day ∈ wsA := wsA_in (tb_8 (List.mem_of_getElem? (i := 95) rfl)) rfl
theorem se_X11_day : Cond.selects RX11 yX11_day yX11_day ∈ wsA := wsA_in (tb_8 (List.mem_of_getElem? (i := 96) rfl)) rfl
abbrev mX11_end : pM := (yX11_end, cX11_end, 2, (some .int))
theorem ok_X11_end : pMok mX11_end 1 := ⟨by decide +kernel, wsA_in (tb_7 (List.mem_of_getElem? (i := 31) rfl)) rfl, ii_X11, by decide +kernel, by decide⟩
theorem im_X11_end : Cond.instanceMethod yX11_end ∈ wsA := wsA_in (tb_7 (List.mem_of_getElem? (i := 29) rfl)) rfl
theorem se_X11_end : Cond.selects RX11 yX11_end yX11_end ∈ wsA := wsA_in (tb_7 (List.mem_of_getElem? (i := 30) rfl)) rfl
abbrev mX11_fault : pM := (yX11_fault, cX11_fault, 2, (some .int))
theorem ok_X11_fault : pMok mX11_fault 1 := ⟨by decide +kernel, wsA_in (tb_7 (List.mem_of_getElem? (i := 174) rfl)) rfl, ii_X11, by decide +kernel, by decide⟩
theorem im_X11_fault : Cond.instanceMethod yX11_fault ∈ wsA := wsA_in (tb_7 (List.mem_of_getElem? (i := 172) rfl)) rfl
theorem se_X11_fault : Cond.selects RX11 yX11_fault yX11_fault ∈ wsA := wsA_in (tb_7 (List.mem_of_getElem? (i := 173) rfl)) rfl
abbrev mX11_feed : pM := (yX11_feed, cX11_feed, 6, (some .int))
theorem ok_X11_feed : pMok mX11_feed 5 := ⟨by decide +kernel, wsA_in (tb_7 (List.mem_of_getElem? (i := 23) rfl)) rfl, ii_X11, by decide +kernel, by decide⟩
theorem im_X11_feed : Cond.instanceMethod yX11_feed ∈ wsA := wsA_in (tb_7 (List.mem_of_getElem? (i := 21) rfl)) rfl
theorem se_X11_feed : Cond.selects RX11 yX11_feed yX11_feed ∈ wsA := wsA_in (tb_7 (List.mem_of_getElem? (i := 22) rfl)) rfl
abbrev mX11_four : pM := (yX11_four, cX11_four, 3, none)
theorem ok_X11_four : pMok mX11_four 1 := ⟨by decide +kernel, wsA_in (tb_7 (List.mem_of_getElem? (i := 27) rfl)) rfl, ii_X11, by decide +kernel, by decide⟩
theorem im_X11_four : Cond.instanceMethod yX11_four ∈ wsA := wsA_in (tb_7 (List.mem_of_getElem? (i := 26) rfl)) rfl
theorem se_X11_four : Cond.selects RX11 yX11_four yX11_four ∈ wsA := wsA_in (lpk_4 (q := (yX11_four, 102)) (List.mem_of_getElem? (i := 6) rfl)) rfl
abbrev mX11_goesOn : pM := (yX11_goesOn, cX11_goesOn, 11, (some .boolean))
theorem ok_X11_goesOn : pMok mX11_goesOn 3 := ⟨by decide +kernel, wsA_in (tb_8 (List.mem_of_getElem? (i := 141) rfl)) rfl, ii_X11, by decide +kernel, by decide⟩
theorem im_X11_goesOn : Cond.instanceMethod yX11_goesOn ∈ wsA := wsA_in (tb_8 (List.mem_of_getElem? (i := 140) rfl)) rfl
theorem se_X11_goesOn : Cond.selects RX11 yX11_goesOn yX11_goesOn ∈ wsA := wsA_in (lpk_7 (q := (yX11_goesOn, 102)) (List.mem_of_getElem? (i := 8) rfl)) rfl
abbrev mX11_here : pM := (yX11_here, cX11_here, 2, (some .int))
theorem ok_X11_here : pMok mX11_here 1 := ⟨by decide +kernel, wsA_in (tb_7 (List.mem_of_getElem? (i := 47) rfl)) rfl, ii_X11, by decide +kernel, by decide⟩
theorem im_X11_here : Cond.instanceMethod yX11_here ∈ wsA := wsA_in (tb_7 (List.mem_of_getElem? (i := 46) rfl)) rfl
theorem se_X11_here : Cond.selects RX11 yX11_here yX11_here ∈ wsA := wsA_in (lpk_4 (q := (yX11_here, 102)) (List.mem_of_getElem? (i := 9) rfl)) rfl
abbrev mX11_hold : pM := (yX11_hold, cX11_hold, 2, none)
theorem ok_X11_hold : pMok mX11_hold 1 := ⟨by decide +kernel, wsA_in (tb_7 (List.mem_of_getElem? (i := 158) rfl)) rfl, ii_X11, by decide +kernel, by decide⟩
theorem im_X11_hold : Cond.instanceMethod yX11_hold ∈ wsA := wsA_in (tb_7 (List.mem_of_getElem? (i := 157) rfl)) rfl
theorem se_X11_hold : Cond.selects RX11 yX11_hold yX11_hold ∈ wsA := wsA_in (lpk_5 (q := (yX11_hold, 102)) (List.mem_of_getElem? (i := 13) rfl)) rfl
abbrev mX11_holds : pM := (yX11_holds, cX11_holds, 9, (some .boolean))
theorem ok_X11_holds : pMok mX11_holds 3 := ⟨by decide +kernel, wsA_in (tb_7 (List.mem_of_getElem? (i := 214) rfl)) rfl, ii_X11, by decide +kernel, by decide⟩
theorem im_X11_holds : Cond.instanceMethod yX11_holds ∈ wsA := wsA_in (tb_7 (List.mem_of_getElem? (i := 213) rfl)) rfl
theorem se_X11_holds : Cond.selects RX11 yX11_holds yX11_holds ∈ wsA := wsA_in (lpk_6 (q := (yX11_holds, 102)) (List.mem_of_getElem? (i := 4) rfl)) rfl
abbrev mX11_hourOf : pM := (yX11_hourOf, cX11_hourOf, 1, (some .int))
theorem ok_X11_hourOf : pMok mX11_hourOf 1 := ⟨by decide +kernel, wsA_in (tb_7 (List.mem_of_getElem? (i := 229) rfl)) rfl, ii_X11, by decide +kernel, by decide⟩
theorem sm_X11_hourOf : Cond.static yX11_hourOf ∈ wsA := wsA_in (tb_7 (List.mem_of_getElem? (i := 228) rfl)) rfl
abbrev mX11_init : pM := (yX11_init, cX11_init, 2, none)
theorem ok_X11_init : pMok mX11_init 0 := ⟨by decide +kernel, wsA_in (tb_5 (List.mem_of_getElem? (i := 190) rfl)) rfl, ii_X11, by decide +kernel, by decide⟩
theorem im_X11_init : Cond.instanceMethod yX11_init ∈ wsA := wsA_in (tb_5 (List.mem_of_getElem? (i := 189) rfl)) rfl
abbrev mX11_isDayMinute : pM := (yX11_isDayMinute, cX11_isDayMinute, 2, (some .boolean))
theorem ok_X11_isDayMinute : pMok mX11_isDayMinute 1 := ⟨by decide +kernel, wsA_in (tb_8 (List.mem_of_getElem? (i := 125) rfl)) rfl, ii_X11, by decide +kernel, by decide⟩
theorem im_X11_isDayMinute : Cond.instanceMethod yX11_isDayMinute ∈ wsA := wsA_in (tb_8 (List.mem_of_getElem? (i := 124) rfl)) rfl
theorem se_X11_isDayMinute : Cond.selects RX11 yX11_isDayMinute yX11_isDayMinute ∈ wsA := wsA_in (lpk_7 (q := (yX11_isDayMinute, 102)) (List.mem_of_getElem? (i := 7) rfl)) rfl
abbrev mX11_isDigit : pM := (yX11_isDigit, cX11_isDigit, 1, (some .boolean))
theorem ok_X11_isDigit : pMok mX11_isDigit 1 := ⟨by decide +kernel, wsA_in (tb_7 (List.mem_of_getElem? (i := 50) rfl)) rfl, ii_X11, by decide +kernel, by decide⟩
theorem sm_X11_isDigit : Cond.static yX11_isDigit ∈ wsA := wsA_in (tb_7 (List.mem_of_getElem? (i := 49) rfl)) rfl
abbrev mX11_isLetter : pM := (yX11_isLetter, cX11_isLetter, 1, (some .boolean))
theorem ok_X11_isLetter : pMok mX11_isLetter 1 := ⟨by decide +kernel, wsA_in (tb_7 (List.mem_of_getElem? (i := 53) rfl)) rfl, ii_X11, by decide +kernel, by decide⟩
theorem sm_X11_isLetter : Cond.static yX11_isLetter ∈ wsA := wsA_in (tb_7 (List.mem_of_getElem? (i := 52) rfl)) rfl
abbrev mX11_isMinute : pM := (yX11_isMinute, cX11_isMinute, 1, (some .boolean))
theorem ok_X11_isMinute : pMok mX11_isMinute 1 := ⟨by decide +kernel, wsA_in (tb_8 (List.mem_of_getElem? (i := 53) rfl)) rfl, ii_X11, by decide +kernel, by decide⟩
theorem sm_X11_isMinute : Cond.static yX11_isMinute ∈ wsA := wsA_in (tb_8 (List.mem_of_getElem? (i := 52) rfl)) rfl
abbrev mX11_isName : pM := (yX11_isName, cX11_isName, 2, (some .boolean))
theorem ok_X11_isName : pMok mX11_isName 0 := ⟨by decide +kernel, wsA_in (tb_7 (List.mem_of_getElem? (i := 79) rfl)) rfl, ii_X11, by decide +kernel, by decide⟩
theorem im_X11_isName : Cond.instanceMethod yX11_isName ∈ wsA := wsA_in (tb_7 (List.mem_of_getElem? (i := 78) rfl)) rfl
theorem se_X11_isName : Cond.selects RX11 yX11_isName yX11_isName ∈ wsA := wsA_in (lpk_4 (q := (yX11_isName, 102)) (List.mem_of_getElem? (i := 14) rfl)) rfl
abbrev mX11_isOn : pM := (yX11_isOn, cX11_isOn, 3, (some .boolean))
theorem ok_X11_isOn : pMok mX11_isOn 2 := ⟨by decide +kernel, wsA_in (tb_7 (List.mem_of_getElem? (i := 226) rfl)) rfl, ii_X11, by decide +kernel, by decide⟩
theorem im_X11_isOn : Cond.instanceMethod yX11_isOn ∈ wsA := wsA_in (tb_7 (List.mem_of_getElem? (i := 225) rfl)) rfl
theorem se_X11_isOn : Cond.selects RX11 yX11_isOn yX11_isOn ∈ wsA := wsA_in (lpk_6 (q := (yX11_isOn, 102)) (List.mem_of_getElem? (i := 7) rfl)) rfl
abbrev mX11_isOpen : pM := (yX11_isOpen, cX11_isOpen, 3, (some .boolean))
theorem ok_X11_isOpen : pMok mX11_isOpen 0 := ⟨by decide +kernel, wsA_in (tb_7 (List.mem_of_getElem? (i := 134) rfl)) rfl, ii_X11, by decide +kernel, by decide⟩
theorem im_X11_isOpen : Cond.instanceMethod yX11_isOpen ∈ wsA := wsA_in (tb_7 (List.mem_of_getElem? (i := 133) rfl)) rfl
theorem se_X11_isOpen : Cond.selects RX11 yX11_isOpen yX11_isOpen ∈ wsA := wsA_in (lpk_5 (q := (yX11_isOpen, 102)) (List.mem_of_getElem? (i := 7) rfl)) rfl
abbrev mX11_isOpenAt : pM := (yX11_isOpenAt, cX11_isOpenAt, 3, (some .boolean))
theorem ok_X11_isOpenAt : pMok mX11_isOpenAt 2 := ⟨by decide +kernel, wsA_in (tb_7 (List.mem_of_getElem? (i := 222) rfl)) rfl, ii_X11, by decide +kernel, by decide⟩
theorem im_X11_isOpenAt : Cond.instanceMethod yX11_isOpenAt ∈ wsA := wsA_in (tb_7 (List.mem_of_getElem? (i := 221) rfl)) rfl
theorem se_X11_isOpenAt : Cond.selects RX11 yX11_isOpenAt yX11_isOpenAt ∈ wsA := wsA_in (lpk_6 (q := (yX11_isOpenAt, 102)) (List.mem_of_getElem? (i := 6) rfl)) rfl
abbrev mX11_isPlace : pM := (yX11_isPlace, cX11_isPlace, 1, (some .boolean))
theorem ok_X11_isPlace : pMok mX11_isPlace 1 := ⟨by decide +kernel, wsA_in (tb_7 (List.mem_of_getElem? (i := 239) rfl)) rfl, ii_X11, by decide +kernel, by decide⟩
theorem sm_X11_isPlace : Cond.static yX11_isPlace ∈ wsA := wsA_in (tb_7 (List.mem_of_getElem? (i := 238) rfl)) rfl
abbrev mX11_isSign : pM := (yX11_isSign, cX11_isSign, 1, (some .boolean))
theorem ok_X11_isSign : pMok mX11_isSign 1 := ⟨by decide +kernel, wsA_in (tb_7 (List.mem_of_getElem? (i := 56) rfl)) rfl, ii_X11, by decide +kernel, by decide⟩
theorem sm_X11_isSign : Cond.static yX11_isSign ∈ wsA := wsA_in (tb_7 (List.mem_of_getElem? (i := 55) rfl)) rfl
abbrev mX11_isSkier : pM := (yX11_isSkier, cX11_isSkier, 2, (some .boolean))
theorem ok_X11_isSkier : pMok mX11_isSkier 1 := ⟨by decide +kernel, wsA_in (tb_8 (List.mem_of_getElem? (i := 42) rfl)) rfl, ii_X11, by decide +kernel, by decide⟩
theorem im_X11_isSkier : Cond.instanceMethod yX11_isSkier ∈ wsA := wsA_in (tb_8 (List.mem_of_getElem? (i := 41) rfl)) rfl
theorem se_X11_isSkier : Cond.selects RX11 yX11_isSkier yX11_isSkier ∈ wsA := wsA_in (lpk_6 (q := (yX11_isSkier, 102)) (List.mem_of_getElem? (i := 13) rfl)) rfl
abbrev mX11_isSkill : pM := (yX11_isSkill, cX11_isSkill, 1, (some .boolean))
theorem ok_X11_isSkill : pMok mX11_isSkill 1 := ⟨by decide +kernel, wsA_in (tb_7 (List.mem_of_getElem? (i := 236) rfl)) rfl, ii_X11, by decide +kernel, by decide⟩
theorem sm_X11_isSkill : Cond.static yX11_isSkill ∈ wsA := wsA_in (tb_7 (List.mem_of_getElem? (i := 235) rfl)) rfl
abbrev mX11_isTold : pM := (yX11_isTold, cX11_isTold, 5, (some .boolean))
theorem ok_X11_isTold : pMok mX11_isTold 1 := ⟨by decide +kernel, wsA_in (tb_7 (List.mem_of_getElem? (i := 98) rfl)) rfl, ii_X11, by decide +kernel, by decide⟩
theorem im_X11_isTold : Cond.instanceMethod yX11_isTold ∈ wsA := wsA_in (tb_7 (List.mem_of_getElem? (i := 97) rfl)) rfl
theorem se_X11_isTold : Cond.selects RX11 yX11_isTold yX11_isTold ∈ wsA := wsA_in (lpk_4 (q := (yX11_isTold, 102)) (List.mem_of_getElem? (i := 15) rfl)) rfl
abbrev mX11_isWay : pM := (yX11_isWay, cX11_isWay, 2, (some .boolean))
theorem ok_X11_isWay : pMok mX11_isWay 1 := ⟨by decide +kernel, wsA_in (tb_7 (List.mem_of_getElem? (i := 118) rfl)) rfl, ii_X11, by decide +kernel, by decide⟩
theorem im_X11_isWay : Cond.instanceMethod yX11_isWay ∈ wsA := wsA_in (tb_7 (List.mem_of_getElem? (i := 117) rfl)) rfl
theorem se_X11_isWay : Cond.selects RX11 yX11_isWay yX11_isWay ∈ wsA := wsA_in (lpk_5 (q := (yX11_isWay, 102)) (List.mem_of_getElem? (i := 4) rfl)) rfl
abbrev mX11_isWord : pM := (yX11_isWord, cX11_isWord, 3, (some .boolean))
theorem ok_X11_isWord : pMok mX11_isWord 1 := ⟨by decide +kernel, wsA_in (tb_7 (List.mem_of_getElem? (i := 65) rfl)) rfl, ii_X11, by decide +kernel, by decide⟩
theorem im_X11_isWord : Cond.instanceMethod yX11_isWord ∈ wsA := wsA_in (tb_7 (List.mem_of_getElem? (i := 64) rfl)) rfl
theorem se_X11_isWord : Cond.selects RX11 yX11_isWord yX11_isWord ∈ wsA := wsA_in (lpk_4 (q := (yX11_isWord, 102)) (List.mem_of_getElem? (i := 11) rfl)) rfl
abbrev mX11_know : pM := (yX11_know, cX11_know, 4, none)
theorem ok_X11_know : pMok mX11_know 1 := ⟨by decide +kernel, wsA_in (tb_7 (List.mem_of_getElem? (i := 210) rfl)) rfl, ii_X11, by decide +kernel, by decide⟩
theorem im_X11_know : Cond.instanceMethod yX11_know ∈ wsA := wsA_in (tb_7 (List.mem_of_getElem? (i := 209) rfl)) rfl
theorem se_X11_know : Cond.selects RX11 yX11_know yX11_know ∈ wsA := wsA_in (lpk_6 (q := (yX11_know, 102)) (List.mem_of_getElem? (i := 3) rfl)) rfl
abbrev mX11_last : pM := (yX11_last, cX11_last, 5, (some .int))
theorem ok_X11_last : pMok mX11_last 3 := ⟨by decide +kernel, wsA_in (tb_8 (List.mem_of_getElem? (i := 30) rfl)) rfl, ii_X11, by decide +kernel, by decide⟩
theorem im_X11_last : Cond.instanceMethod yX11_last ∈ wsA := wsA_in (tb_8 (List.mem_of_getElem? (i := 28) rfl)) rfl
theorem se_X11_last : Cond.selects RX11 yX11_last yX11_last ∈ wsA := wsA_in (tb_8 (List.mem_of_getElem? (i := 29) rfl)) rfl
abbrev mX11_later : pM := (yX11_later, cX11_later, 2, (some .int))
theorem ok_X11_later : pMok mX11_later 1 := ⟨by decide +kernel, wsA_in (tb_7 (List.mem_of_getElem? (i := 186) rfl)) rfl, ii_X11, by decide +kernel, by decide⟩
theorem im_X11_later : Cond.instanceMethod yX11_later ∈ wsA := wsA_in (tb_7 (List.mem_of_getElem? (i := 184) rfl)) rfl
theorem se_X11_later : Cond.selects RX11 yX11_later yX11_later ∈ wsA := wsA_in (tb_7 (List.mem_of_getElem? (i := 185) rfl)) rfl
abbrev mX11_law : pM := (yX11_law, cX11_law, 2, (some .int))
theorem ok_X11_law : pMok mX11_law 0 := ⟨by decide +kernel, wsA_in (tb_7 (List.mem_of_getElem? (i := 122) rfl)) rfl, ii_X11, by decide +kernel, by decide⟩
theorem im_X11_law : Cond.instanceMethod yX11_law ∈ wsA := wsA_in (tb_7 (List.mem_of_getElem? (i := 120) rfl)) rfl
theorem se_X11_law : Cond.selects RX11 yX11_law yX11_law ∈ wsA := wsA_in (tb_7 (List.mem_of_getElem? (i := 121) rfl)) rfl
abbrev mX11_leads : pM := (yX11_leads, cX11_leads, 8, (some .boolean))
theorem ok_X11_leads : pMok mX11_leads 6 := ⟨by decide +kernel, wsA_in (tb_8 (List.mem_of_getElem? (i := 23) rfl)) rfl, ii_X11, by decide +kernel, by decide⟩
theorem im_X11_leads : Cond.instanceMethod yX11_leads ∈ wsA := wsA_in (tb_8 (List.mem_of_getElem? (i := 22) rfl)) rfl
theorem se_X11_leads : Cond.selects RX11 yX11_leads yX11_leads ∈ wsA := wsA_in (lpk_6 (q := (yX11_leads, 102)) (List.mem_of_getElem? (i := 12) rfl)) rfl
abbrev mX11_lift : pM := (yX11_lift, cX11_lift, 4, none)
theorem ok_X11_lift : pMok mX11_lift 2 := ⟨by decide +kernel, wsA_in (tb_8 (List.mem_of_getElem? (i := 113) rfl)) rfl, ii_X11, by decide +kernel, by decide⟩
theorem im_X11_lift : Cond.instanceMethod yX11_lift ∈ wsA := wsA_in (tb_8 (List.mem_of_getElem? (i := 112) rfl)) rfl
theorem se_X11_lift : Cond.selects RX11 yX11_lift yX11_lift ∈ wsA := wsA_in (lpk_7 (q := (yX11_lift, 102)) (List.mem_of_getElem? (i := 5) rfl)) rfl
abbrev mX11_make : pM := (yX11_make, cX11_make, 3, (some .boolean))
theorem ok_X11_make : pMok mX11_make 2 := ⟨by decide +kernel, wsA_in (tb_8 (List.mem_of_getElem? (i := 93) rfl)) rfl, ii_X11, by decide +kernel, by decide⟩
theorem im_X11_make : Cond.instanceMethod yX11_make ∈ wsA := wsA_in (tb_8 (List.mem_of_getElem? (i := 91) rfl)) rfl
theorem se_X11_make : Cond.selects RX11 yX11_make yX11_make ∈ wsA := wsA_in (tb_8 (List.mem_of_getElem? (i := 92) rfl)) rfl
abbrev mX11_measure : pM := (yX11_measure, cX11_measure, 4, none)
theorem ok_X11_measure : pMok mX11_measure 0 := ⟨by decide +kernel, wsA_in (tb_7 (List.mem_of_getElem? (i := 114) rfl)) rfl, ii_X11, by decide +kernel, by decide⟩
theorem im_X11_measure : Cond.instanceMethod yX11_measure ∈ wsA := wsA_in (tb_7 (List.mem_of_getElem? (i := 113) rfl)) rfl
theorem se_X11_measure : Cond.selects RX11 yX11_measure yX11_measure ∈ wsA := wsA_in (lpk_5 (q := (yX11_measure, 102)) (List.mem_of_getElem? (i := 3) rfl)) rfl
abbrev mX11_meet : pM := (yX11_meet, cX11_meet, 7, (some .int))
theorem ok_X11_meet : pMok mX11_meet 5 := ⟨by decide +kernel, wsA_in (tb_8 (List.mem_of_getElem? (i := 81) rfl)) rfl, ii_X11, by decide +kernel, by decide⟩
theorem im_X11_meet : Cond.instanceMethod yX11_meet ∈ wsA := wsA_in (tb_8 (List.mem_of_getElem? (i := 79) rfl)) rfl
theorem se_X11_meet : Cond.selects RX11 yX11_meet yX11_meet ∈ wsA := wsA_in (tb_8 (List.mem_of_getElem? (i := 80) rfl)) rfl
abbrev mX11_minutesOf : pM := (yX11_minutesOf, cX11_minutesOf, 4, (some .int))
theorem ok_X11_minutesOf : pMok mX11_minutesOf 2 := ⟨by decide +kernel, wsA_in (tb_8 (List.mem_of_getElem? (i := 15) rfl)) rfl, ii_X11, by decide +kernel, by decide⟩
theorem im_X11_minutesOf : Cond.instanceMethod yX11_minutesOf ∈ wsA := wsA_in (tb_8 (List.mem_of_getElem? (i := 14) rfl)) rfl
theorem se_X11_minutesOf : Cond.selects RX11 yX11_minutesOf yX11_minutesOf ∈ wsA := wsA_in (lpk_6 (q := (yX11_minutesOf, 102)) (List.mem_of_getElem? (i := 11) rfl)) rfl
abbrev mX11_mountain : pM := (yX11_mountain, cX11_mountain, 2, (some .int))
theorem ok_X11_mountain : pMok mX11_mountain 0 := ⟨by decide +kernel, wsA_in (tb_7 (List.mem_of_getElem? (i := 35) rfl)) rfl, ii_X11, by decide +kernel, by decide⟩
theorem im_X11_mountain : Cond.instanceMethod yX11_mountain ∈ wsA := wsA_in (tb_7 (List.mem_of_getElem? (i := 33) rfl)) rfl
theorem se_X11_mountain : Cond.selects RX11 yX11_mountain yX11_mountain ∈ wsA := wsA_in (tb_7 (List.mem_of_getElem? (i := 34) rfl)) rfl
abbrev mX11_named : pM := (yX11_named, cX11_named, 1, (some .int))
theorem ok_X11_named : pMok mX11_named 0 := ⟨by decide +kernel, wsA_in (tb_7 (List.mem_of_getElem? (i := 170) rfl)) rfl, ii_X11, by decide +kernel, by decide⟩
theorem im_X11_named : Cond.instanceMethod yX11_named ∈ wsA := wsA_in (tb_7 (List.mem_of_getElem? (i := 169) rfl)) rfl
theorem se_X11_named : Cond.selects RX11 yX11_named yX11_named ∈ wsA := wsA_in (lpk_6 (q := (yX11_named, 102)) (List.mem_of_getElem? (i := 0) rfl)) rfl
abbrev mX11_next : pM := (yX11_next, cX11_next, 3, none)
theorem ok_X11_next : pMok mX11_next 0 := ⟨by decide +kernel, wsA_in (tb_7 (List.mem_of_getElem? (i := 43) rfl)) rfl, ii_X11, by decide +kernel, by decide⟩
theorem im_X11_next : Cond.instanceMethod yX11_next ∈ wsA := wsA_in (tb_7 (List.mem_of_getElem? (i := 42) rfl)) rfl
theorem se_X11_next : Cond.selects RX11 yX11_next yX11_next ∈ wsA := wsA_in (lpk_4 (q := (yX11_next, 102)) (List.mem_of_getElem? (i := 8) rfl)) rfl
abbrev mX11_note : pM := (yX11_note, cX11_note, 3, none)
theorem ok_X11_note : pMok mX11_note 1 := ⟨by decide +kernel, wsA_in (tb_8 (List.mem_of_getElem? (i := 117) rfl)) rfl, ii_X11, by decide +kernel, by decide⟩
theorem im_X11_note : Cond.instanceMethod yX11_note ∈ wsA := wsA_in (tb_8 (List.mem_of_getElem? (i := 116) rfl)) rfl
theorem se_X11_note : Cond.selects RX11 yX11_note yX11_note ∈ wsA := wsA_in (lpk_7 (q := (yX11_note, 102)) (List.mem_of_getElem? (i := 6) rfl)) rfl
abbrev mX11_open : pM := (yX11_open, cX11_open, 5, (some .int))
theorem ok_X11_open : pMok mX11_open 3 := ⟨by decide +kernel, wsA_in (tb_7 (List.mem_of_getElem? (i := 202) rfl)) rfl, ii_X11, by decide +kernel, by decide⟩
theorem im_X11_open : Cond.instanceMethod yX11_open ∈ wsA := wsA_in (tb_7 (List.mem_of_getElem? (i := 200) rfl)) rfl
theorem se_X11_open : Cond.selects RX11 yX11_open yX11_open ∈ wsA := wsA_in (tb_7 (List.mem_of_getElem? (i := 201) rfl)) rfl
abbrev mX11_operand : pM := (yX11_operand, cX11_operand, 5, (some .int))
theorem ok_X11_operand : pMok mX11_operand 1 := ⟨by decide +kernel, wsA_in (tb_7 (List.mem_of_getElem? (i := 166) rfl)) rfl, ii_X11, by decide +kernel, by decide⟩
theorem im_X11_operand : Cond.instanceMethod yX11_operand ∈ wsA := wsA_in (tb_7 (List.mem_of_getElem? (i := 165) rfl)) rfl
theorem se_X11_operand : Cond.selects RX11 yX11_operand yX11_operand ∈ wsA := wsA_in (lpk_5 (q := (yX11_operand, 102)) (List.mem_of_getElem? (i := 15) rfl)) rfl
abbrev mX11_outer : pM := (yX11_outer, cX11_outer, 1, (some .int))
theorem ok_X11_outer : pMok mX11_outer 1 := ⟨by decide +kernel, wsA_in (tb_8 (List.mem_of_getElem? (i := 26) rfl)) rfl, ii_X11, by decide +kernel, by decide⟩
theorem sm_X11_outer : Cond.static yX11_outer ∈ wsA := wsA_in (tb_8 (List.mem_of_getElem? (i := 25) rfl)) rfl
abbrev mX11_pass : pM := (yX11_pass, cX11_pass, 4, (some .int))
theorem ok_X11_pass : pMok mX11_pass 3 := ⟨by decide +kernel, wsA_in (tb_8 (List.mem_of_getElem? (i := 38) rfl)) rfl, ii_X11, by decide +kernel, by decide⟩
theorem im_X11_pass : Cond.instanceMethod yX11_pass ∈ wsA := wsA_in (tb_8 (List.mem_of_getElem? (i := 36) rfl)) rfl
theorem se_X11_pass : Cond.selects RX11 yX11_pass yX11_pass ∈ wsA := wsA_in (tb_8 (List.mem_of_getElem? (i := 37) rfl)) rfl
abbrev mX11_places : pM := (yX11_places, cX11_places, 6, (some .int))
theorem ok_X11_places : pMok mX11_places 3 := ⟨by decide +kernel, wsA_in (tb_8 (List.mem_of_getElem? (i := 77) rfl)) rfl, ii_X11, by decide +kernel, by decide⟩
theorem im_X11_places : Cond.instanceMethod yX11_places ∈ wsA := wsA_in (tb_8 (List.mem_of_getElem? (i := 75) rfl)) rfl
theorem se_X11_places : Cond.selects RX11 yX11_places yX11_places ∈ wsA := wsA_in (tb_8 (List.mem_of_getElem? (i := 76) rfl)) rfl
abbrev mX11_point : pM := (yX11_point, cX11_point, 3, (some .int))
theorem ok_X11_point : pMok mX11_point 1 := ⟨by decide +kernel, wsA_in (tb_7 (List.mem_of_getElem? (i := 102) rfl)) rfl, ii_X11, by decide +kernel, by decide⟩
theorem im_X11_point : Cond.instanceMethod yX11_point ∈ wsA := wsA_in (tb_7 (List.mem_of_getElem? (i := 101) rfl)) rfl
theorem se_X11_point : Cond.selects RX11 yX11_point yX11_point ∈ wsA := wsA_in (lpk_5 (q := (yX11_point, 102)) (List.mem_of_getElem? (i := 0) rfl)) rfl
abbrev mX11_pop : pM := (yX11_pop, cX11_pop, 1, none)
theorem ok_X11_pop : pMok mX11_pop 0 := ⟨by decide +kernel, wsA_in (tb_7 (List.mem_of_getElem? (i := 150) rfl)) rfl, ii_X11, by decide +kernel, by decide⟩
theorem im_X11_pop : Cond.instanceMethod yX11_pop ∈ wsA := wsA_in (tb_7 (List.mem_of_getElem? (i := 149) rfl)) rfl
theorem se_X11_pop : Cond.selects RX11 yX11_pop yX11_pop ∈ wsA := wsA_in (lpk_5 (q := (yX11_pop, 102)) (List.mem_of_getElem? (i := 11) rfl)) rfl
abbrev mX11_readE : pM := (yX11_readE, cX11_readE, 4, none)
theorem ok_X11_readE : pMok mX11_readE 0 := ⟨by decide +kernel, wsA_in (tb_7 (List.mem_of_getElem? (i := 130) rfl)) rfl, ii_X11, by decide +kernel, by decide⟩
theorem im_X11_readE : Cond.instanceMethod yX11_readE ∈ wsA := wsA_in (tb_7 (List.mem_of_getElem? (i := 129) rfl)) rfl
theorem se_X11_readE : Cond.selects RX11 yX11_readE yX11_readE ∈ wsA := wsA_in (lpk_5 (q := (yX11_readE, 102)) (List.mem_of_getElem? (i := 6) rfl)) rfl
abbrev mX11_readLine : pM := (yX11_readLine, cX11_readLine, 3, none)
theorem ok_X11_readLine : pMok mX11_readLine 0 := ⟨by decide +kernel, wsA_in (tb_7 (List.mem_of_getElem? (i := 60) rfl)) rfl, ii_X11, by decide +kernel, by decide⟩
theorem im_X11_readLine : Cond.instanceMethod yX11_readLine ∈ wsA := wsA_in (tb_7 (List.mem_of_getElem? (i := 59) rfl)) rfl
theorem se_X11_readLine : Cond.selects RX11 yX11_readLine yX11_readLine ∈ wsA := wsA_in (lpk_4 (q := (yX11_readLine, 102)) (List.mem_of_getElem? (i := 10) rfl)) rfl
abbrev mX11_readShut : pM := (yX11_readShut, cX11_readShut, 2, none)
theorem ok_X11_readShut : pMok mX11_readShut 0 := ⟨by decide +kernel, wsA_in (tb_7 (List.mem_of_getElem? (i := 126) rfl)) rfl, ii_X11, by decide +kernel, by decide⟩
theorem im_X11_readShut : Cond.instanceMethod yX11_readShut ∈ wsA := wsA_in (tb_7 (List.mem_of_getElem? (i := 125) rfl)) rfl
theorem se_X11_readShut : Cond.selects RX11 yX11_readShut yX11_readShut ∈ wsA := wsA_in (lpk_5 (q := (yX11_readShut, 102)) (List.mem_of_getElem? (i := 5) rfl)) rfl
abbrev mX11_readWay : pM := (yX11_readWay, cX11_readWay, 5, none)
theorem ok_X11_readWay : pMok mX11_readWay 1 := ⟨by decide +kernel, wsA_in (tb_7 (List.mem_of_getElem? (i := 75) rfl)) rfl, ii_X11, by decide +kernel, by decide⟩
theorem im_X11_readWay : Cond.instanceMethod yX11_readWay ∈ wsA := wsA_in (tb_7 (List.mem_of_getElem? (i := 74) rfl)) rfl
theorem se_X11_readWay : Cond.selects RX11 yX11_readWay yX11_readWay ∈ wsA := wsA_in (lpk_4 (q := (yX11_readWay, 102)) (List.mem_of_getElem? (i := 13) rfl)) rfl
abbrev mX11_readyAt : pM := (yX11_readyAt, cX11_readyAt, 4, (some .int))
theorem ok_X11_readyAt : pMok mX11_readyAt 1 := ⟨by decide +kernel, wsA_in (tb_8 (List.mem_of_getElem? (i := 145) rfl)) rfl, ii_X11, by decide +kernel, by decide⟩
theorem im_X11_readyAt : Cond.instanceMethod yX11_readyAt ∈ wsA := wsA_in (tb_8 (List.mem_of_getElem? (i := 144) rfl)) rfl
theorem se_X11_readyAt : Cond.selects RX11 yX11_readyAt yX11_readyAt ∈ wsA := wsA_in (lpk_7 (q := (yX11_readyAt, 102)) (List.mem_of_getElem? (i := 9) rfl)) rfl
abbrev mX11_settle : pM := (yX11_settle, cX11_settle, 2, none)
theorem ok_X11_settle : pMok mX11_settle 1 := ⟨by decide +kernel, wsA_in (tb_7 (List.mem_of_getElem? (i := 142) rfl)) rfl, ii_X11, by decide +kernel, by decide⟩
theorem im_X11_settle : Cond.instanceMethod yX11_settle ∈ wsA := wsA_in (tb_7 (List.mem_of_getElem? (i := 141) rfl)) rfl
theorem se_X11_settle : Cond.selects RX11 yX11_settle yX11_settle ∈ wsA := wsA_in (lpk_5 (q := (yX11_settle, 102)) (List.mem_of_getElem? (i := 9) rfl)) rfl
abbrev mX11_settleOnes : pM := (yX11_settleOnes, cX11_settleOnes, 2, none)
theorem ok_X11_settleOnes : pMok mX11_settleOnes 1 := ⟨by decide +kernel, wsA_in (tb_7 (List.mem_of_getElem? (i := 162) rfl)) rfl, ii_X11, by decide +kernel, by decide⟩
theorem im_X11_settleOnes : Cond.instanceMethod yX11_settleOnes ∈ wsA := wsA_in (tb_7 (List.mem_of_getElem? (i := 161) rfl)) rfl
theorem se_X11_settleOnes : Cond.selects RX11 yX11_settleOnes yX11_settleOnes ∈ wsA := wsA_in (lpk_5 (q := (yX11_settleOnes, 102)) (List.mem_of_getElem? (i := 14) rfl)) rfl
abbrev mX11_sign : pM := (yX11_sign, cX11_sign, 3, (some .int))
theorem ok_X11_sign : pMok mX11_sign 1 := ⟨by decide +kernel, wsA_in (tb_7 (List.mem_of_getElem? (i := 138) rfl)) rfl, ii_X11, by decide +kernel, by decide⟩
theorem im_X11_sign : Cond.instanceMethod yX11_sign ∈ wsA := wsA_in (tb_7 (List.mem_of_getElem? (i := 137) rfl)) rfl
theorem se_X11_sign : Cond.selects RX11 yX11_sign yX11_sign ∈ wsA := wsA_in (lpk_5 (q := (yX11_sign, 102)) (List.mem_of_getElem? (i := 8) rfl)) rfl
abbrev mX11_skier : pM := (yX11_skier, cX11_skier, 2, (some .int))
theorem ok_X11_skier : pMok mX11_skier 1 := ⟨by decide +kernel, wsA_in (tb_8 (List.mem_of_getElem? (i := 34) rfl)) rfl, ii_X11, by decide +kernel, by decide⟩
theorem im_X11_skier : Cond.instanceMethod yX11_skier ∈ wsA := wsA_in (tb_8 (List.mem_of_getElem? (i := 32) rfl)) rfl
theorem se_X11_skier : Cond.selects RX11 yX11_skier yX11_skier ∈ wsA := wsA_in (tb_8 (List.mem_of_getElem? (i := 33) rfl)) rfl
abbrev mX11_snow : pM := (yX11_snow, cX11_snow, 3, (some .int))
theorem ok_X11_snow : pMok mX11_snow 2 := ⟨by decide +kernel, wsA_in (tb_8 (List.mem_of_getElem? (i := 129) rfl)) rfl, ii_X11, by decide +kernel, by decide⟩
theorem im_X11_snow : Cond.instanceMethod yX11_snow ∈ wsA := wsA_in (tb_8 (List.mem_of_getElem? (i := 127) rfl)) rfl
theorem se_X11_snow : Cond.selects RX11 yX11_snow yX11_snow ∈ wsA := wsA_in (tb_8 (List.mem_of_getElem? (i := 128) rfl)) rfl
abbrev mX11_snowAt : pM := (yX11_snowAt, cX11_snowAt, 3, none)
theorem ok_X11_snowAt : pMok mX11_snowAt 1 := ⟨by decide +kernel, wsA_in (tb_8 (List.mem_of_getElem? (i := 101) rfl)) rfl, ii_X11, by decide +kernel, by decide⟩
theorem im_X11_snowAt : Cond.instanceMethod yX11_snowAt ∈ wsA := wsA_in (tb_8 (List.mem_of_getElem? (i := 100) rfl)) rfl
theorem se_X11_snowAt : Cond.selects RX11 yX11_snowAt yX11_snowAt ∈ wsA := wsA_in (lpk_7 (q := (yX11_snowAt, 102)) (List.mem_of_getElem? (i := 2) rfl)) rfl
abbrev mX11_soonest : pM := (yX11_soonest, cX11_soonest, 7, (some .int))
theorem ok_X11_soonest : pMok mX11_soonest 5 := ⟨by decide +kernel, wsA_in (tb_7 (List.mem_of_getElem? (i := 233) rfl)) rfl, ii_X11, by decide +kernel, by decide⟩
theorem im_X11_soonest : Cond.instanceMethod yX11_soonest ∈ wsA := wsA_in (tb_7 (List.mem_of_getElem? (i := 231) rfl)) rfl
theorem se_X11_soonest : Cond.selects RX11 yX11_soonest yX11_soonest ∈ wsA := wsA_in (tb_7 (List.mem_of_getElem? (i := 232) rfl)) rfl
abbrev mX11_soonestOf : pM := (yX11_soonestOf, cX11_soonestOf, 8, (some .int))
theorem ok_X11_soonestOf : pMok mX11_soonestOf 4 := ⟨by decide +kernel, wsA_in (tb_8 (List.mem_of_getElem? (i := 3) rfl)) rfl, ii_X11, by decide +kernel, by decide⟩
theorem im_X11_soonestOf : Cond.instanceMethod yX11_soonestOf ∈ wsA := wsA_in (tb_8 (List.mem_of_getElem? (i := 2) rfl)) rfl
theorem se_X11_soonestOf : Cond.selects RX11 yX11_soonestOf yX11_soonestOf ∈ wsA := wsA_in (lpk_6 (q := (yX11_soonestOf, 102)) (List.mem_of_getElem? (i := 8) rfl)) rfl
abbrev mX11_starts : pM := (yX11_starts, cX11_starts, 4, (some .boolean))
theorem ok_X11_starts : pMok mX11_starts 3 := ⟨by decide +kernel, wsA_in (tb_8 (List.mem_of_getElem? (i := 61) rfl)) rfl, ii_X11, by decide +kernel, by decide⟩
theorem im_X11_starts : Cond.instanceMethod yX11_starts ∈ wsA := wsA_in (tb_8 (List.mem_of_getElem? (i := 60) rfl)) rfl
theorem se_X11_starts : Cond.selects RX11 yX11_starts yX11_starts ∈ wsA := wsA_in (lpk_6 (q := (yX11_starts, 102)) (List.mem_of_getElem? (i := 15) rfl)) rfl
abbrev mX11_step : pM := (yX11_step, cX11_step, 3, none)
theorem ok_X11_step : pMok mX11_step 2 := ⟨by decide +kernel, wsA_in (tb_7 (List.mem_of_getElem? (i := 154) rfl)) rfl, ii_X11, by decide +kernel, by decide⟩
theorem im_X11_step : Cond.instanceMethod yX11_step ∈ wsA := wsA_in (tb_7 (List.mem_of_getElem? (i := 153) rfl)) rfl
theorem se_X11_step : Cond.selects RX11 yX11_step yX11_step ∈ wsA := wsA_in (lpk_5 (q := (yX11_step, 102)) (List.mem_of_getElem? (i := 12) rfl)) rfl
abbrev mX11_sweep : pM := (yX11_sweep, cX11_sweep, 7, (some .int))
theorem ok_X11_sweep : pMok mX11_sweep 2 := ⟨by decide +kernel, wsA_in (tb_8 (List.mem_of_getElem? (i := 137) rfl)) rfl, ii_X11, by decide +kernel, by decide⟩
theorem im_X11_sweep : Cond.instanceMethod yX11_sweep ∈ wsA := wsA_in (tb_8 (List.mem_of_getElem? (i := 135) rfl)) rfl
theorem se_X11_sweep : Cond.selects RX11 yX11_sweep yX11_sweep ∈ wsA := wsA_in (tb_8 (List.mem_of_getElem? (i := 136) rfl)) rfl
abbrev mX11_takeTurn : pM := (yX11_takeTurn, cX11_takeTurn, 5, (some .boolean))
theorem ok_X11_takeTurn : pMok mX11_takeTurn 2 := ⟨by decide +kernel, wsA_in (tb_8 (List.mem_of_getElem? (i := 105) rfl)) rfl, ii_X11, by decide +kernel, by decide⟩
theorem im_X11_takeTurn : Cond.instanceMethod yX11_takeTurn ∈ wsA := wsA_in (tb_8 (List.mem_of_getElem? (i := 104) rfl)) rfl
theorem se_X11_takeTurn : Cond.selects RX11 yX11_takeTurn yX11_takeTurn ∈ wsA := wsA_in (lpk_7 (q := (yX11_takeTurn, 102)) (List.mem_of_getElem? (i := 3) rfl)) rfl
abbrev mX11_told : pM := (yX11_told, cX11_told, 4, (some .int))
theorem ok_X11_told : pMok mX11_told 2 := ⟨by decide +kernel, wsA_in (tb_7 (List.mem_of_getElem? (i := 110) rfl)) rfl, ii_X11, by decide +kernel, by decide⟩
theorem im_X11_told : Cond.instanceMethod yX11_told ∈ wsA := wsA_in (tb_7 (List.mem_of_getElem? (i := 109) rfl)) rfl
theorem se_X11_told : Cond.selects RX11 yX11_told yX11_told ∈ wsA := wsA_in (lpk_5 (q := (yX11_told, 102)) (List.mem_of_getElem? (i := 2) rfl)) rfl
abbrev mX11_took : pM := (yX11_took, cX11_took, 4, (some .int))
theorem ok_X11_took : pMok mX11_took 2 := ⟨by decide +kernel, wsA_in (tb_8 (List.mem_of_getElem? (i := 133) rfl)) rfl, ii_X11, by decide +kernel, by decide⟩
theorem im_X11_took : Cond.instanceMethod yX11_took ∈ wsA := wsA_in (tb_8 (List.mem_of_getElem? (i := 131) rfl)) rfl
theorem se_X11_took : Cond.selects RX11 yX11_took yX11_took ∈ wsA := wsA_in (tb_8 (List.mem_of_getElem? (i := 132) rfl)) rfl
abbrev mX11_top : pM := (yX11_top, cX11_top, 1, (some .int))
theorem ok_X11_top : pMok mX11_top 0 := ⟨by decide +kernel, wsA_in (tb_7 (List.mem_of_getElem? (i := 146) rfl)) rfl, ii_X11, by decide +kernel, by decide⟩
theorem im_X11_top : Cond.instanceMethod yX11_top ∈ wsA := wsA_in (tb_7 (List.mem_of_getElem? (i := 145) rfl)) rfl
theorem se_X11_top : Cond.selects RX11 yX11_top yX11_top ∈ wsA := wsA_in (lpk_5 (q := (yX11_top, 102)) (List.mem_of_getElem? (i := 10) rfl)) rfl
abbrev mX11_trace : pM := (yX11_trace, cX11_trace, 7, none)
theorem ok_X11_trace : pMok mX11_trace 2 := ⟨by decide +kernel, wsA_in (tb_8 (List.mem_of_getElem? (i := 57) rfl)) rfl, ii_X11, by decide +kernel, by decide⟩
theorem im_X11_trace : Cond.instanceMethod yX11_trace ∈ wsA := wsA_in (tb_8 (List.mem_of_getElem? (i := 56) rfl)) rfl
theorem se_X11_trace : Cond.selects RX11 yX11_trace yX11_trace ∈ wsA := wsA_in (lpk_6 (q := (yX11_trace, 102)) (List.mem_of_getElem? (i := 14) rfl)) rfl
abbrev mX11_turn : pM := (yX11_turn, cX11_turn, 4, (some .int))
theorem ok_X11_turn : pMok mX11_turn 1 := ⟨by decide +kernel, wsA_in (tb_8 (List.mem_of_getElem? (i := 89) rfl)) rfl, ii_X11, by decide +kernel, by decide⟩
theorem im_X11_turn : Cond.instanceMethod yX11_turn ∈ wsA := wsA_in (tb_8 (List.mem_of_getElem? (i := 87) rfl)) rfl
theorem se_X11_turn : Cond.selects RX11 yX11_turn yX11_turn ∈ wsA := wsA_in (tb_8 (List.mem_of_getElem? (i := 88) rfl)) rfl
abbrev mX11_unpass : pM := (yX11_unpass, cX11_unpass, 2, (some .boolean))
theorem ok_X11_unpass : pMok mX11_unpass 1 := ⟨by decide +kernel, wsA_in (tb_8 (List.mem_of_getElem? (i := 46) rfl)) rfl, ii_X11, by decide +kernel, by decide⟩
theorem im_X11_unpass : Cond.instanceMethod yX11_unpass ∈ wsA := wsA_in (tb_8 (List.mem_of_getElem? (i := 44) rfl)) rfl
theorem se_X11_unpass : Cond.selects RX11 yX11_unpass yX11_unpass ∈ wsA := wsA_in (tb_8 (List.mem_of_getElem? (i := 45) rfl)) rfl
abbrev mX11_untell : pM := (yX11_untell, cX11_untell, 2, (some .boolean))
theorem ok_X11_untell : pMok mX11_untell 1 := ⟨by decide +kernel, wsA_in (tb_7 (List.mem_of_getElem? (i := 182) rfl)) rfl, ii_X11, by decide +kernel, by decide⟩
theorem im_X11_untell : Cond.instanceMethod yX11_untell ∈ wsA := wsA_in (tb_7 (List.mem_of_getElem? (i := 180) rfl)) rfl
theorem se_X11_untell : Cond.selects RX11 yX11_untell yX11_untell ∈ wsA := wsA_in (tb_7 (List.mem_of_getElem? (i := 181) rfl)) rfl
abbrev mX11_valueOf : pM := (yX11_valueOf, cX11_valueOf, 7, (some .int))
theorem ok_X11_valueOf : pMok mX11_valueOf 4 := ⟨by decide +kernel, wsA_in (tb_7 (List.mem_of_getElem? (i := 218) rfl)) rfl, ii_X11, by decide +kernel, by decide⟩
theorem im_X11_valueOf : Cond.instanceMethod yX11_valueOf ∈ wsA := wsA_in (tb_7 (List.mem_of_getElem? (i := 217) rfl)) rfl
theorem se_X11_valueOf : Cond.selects RX11 yX11_valueOf yX11_valueOf ∈ wsA := wsA_in (lpk_6 (q := (yX11_valueOf, 102)) (List.mem_of_getElem? (i := 5) rfl)) rfl
abbrev mX11_wait : pM := (yX11_wait, cX11_wait, 4, (some .int))
theorem ok_X11_wait : pMok mX11_wait 3 := ⟨by decide +kernel, wsA_in (tb_8 (List.mem_of_getElem? (i := 121) rfl)) rfl, ii_X11, by decide +kernel, by decide⟩
theorem im_X11_wait : Cond.instanceMethod yX11_wait ∈ wsA := wsA_in (tb_8 (List.mem_of_getElem? (i := 119) rfl)) rfl
theorem se_X11_wait : Cond.selects RX11 yX11_wait yX11_wait ∈ wsA := wsA_in (tb_8 (List.mem_of_getElem? (i := 120) rfl)) rfl
abbrev mX11_wantWord : pM := (yX11_wantWord, cX11_wantWord, 3, none)
theorem ok_X11_wantWord : pMok mX11_wantWord 1 := ⟨by decide +kernel, wsA_in (tb_7 (List.mem_of_getElem? (i := 106) rfl)) rfl, ii_X11, by decide +kernel, by decide⟩
theorem im_X11_wantWord : Cond.instanceMethod yX11_wantWord ∈ wsA := wsA_in (tb_7 (List.mem_of_getElem? (i := 105) rfl)) rfl
theorem se_X11_wantWord : Cond.selects RX11 yX11_wantWord yX11_wantWord ∈ wsA := wsA_in (lpk_5 (q := (yX11_wantWord, 102)) (List.mem_of_getElem? (i := 1) rfl)) rfl
abbrev mX11_way : pM := (yX11_way, cX11_way, 12, (some .int))
theorem ok_X11_way : pMok mX11_way 6 := ⟨by decide +kernel, wsA_in (tb_8 (List.mem_of_getElem? (i := 19) rfl)) rfl, ii_X11, by decide +kernel, by decide⟩
theorem im_X11_way : Cond.instanceMethod yX11_way ∈ wsA := wsA_in (tb_8 (List.mem_of_getElem? (i := 17) rfl)) rfl
theorem se_X11_way : Cond.selects RX11 yX11_way yX11_way ∈ wsA := wsA_in (tb_8 (List.mem_of_getElem? (i := 18) rfl)) rfl
abbrev mX11_wayOf : pM := (yX11_wayOf, cX11_wayOf, 3, (some .int))
theorem ok_X11_wayOf : pMok mX11_wayOf 1 := ⟨by decide +kernel, wsA_in (tb_7 (List.mem_of_getElem? (i := 206) rfl)) rfl, ii_X11, by decide +kernel, by decide⟩
theorem im_X11_wayOf : Cond.instanceMethod yX11_wayOf ∈ wsA := wsA_in (tb_7 (List.mem_of_getElem? (i := 205) rfl)) rfl
theorem se_X11_wayOf : Cond.selects RX11 yX11_wayOf yX11_wayOf ∈ wsA := wsA_in (lpk_6 (q := (yX11_wayOf, 102)) (List.mem_of_getElem? (i := 2) rfl)) rfl
abbrev mX11_weather : pM := (yX11_weather, cX11_weather, 4, (some .int))
theorem ok_X11_weather : pMok mX11_weather 3 := ⟨by decide +kernel, wsA_in (tb_7 (List.mem_of_getElem? (i := 178) rfl)) rfl, ii_X11, by decide +kernel, by decide⟩
theorem im_X11_weather : Cond.instanceMethod yX11_weather ∈ wsA := wsA_in (tb_7 (List.mem_of_getElem? (i := 176) rfl)) rfl
theorem se_X11_weather : Cond.selects RX11 yX11_weather yX11_weather ∈ wsA := wsA_in (tb_7 (List.mem_of_getElem? (i := 177) rfl)) rfl
abbrev mX11_wrong : pM := (yX11_wrong, cX11_wrong, 2, none)
theorem ok_X11_wrong : pMok mX11_wrong 1 := ⟨by decide +kernel, wsA_in (tb_7 (List.mem_of_getElem? (i := 71) rfl)) rfl, ii_X11, by decide +kernel, by decide⟩
theorem im_X11_wrong : Cond.instanceMethod yX11_wrong ∈ wsA := wsA_in (tb_7 (List.mem_of_getElem? (i := 70) rfl)) rfl
theorem se_X11_wrong : Cond.selects RX11 yX11_wrong yX11_wrong ∈ wsA := wsA_in (lpk_4 (q := (yX11_wrong, 102)) (List.mem_of_getElem? (i := 12) rfl)) rfl
abbrev mX1_begin : pM := (yX1_begin, cX1_begin, 3, none)
theorem ok_X1_begin : pMok mX1_begin 0 := ⟨by decide +kernel, wsA_in (tb_5 (List.mem_of_getElem? (i := 95) rfl)) rfl, ii_X1, by decide +kernel, by decide⟩
theorem im_X1_begin : Cond.instanceMethod yX1_begin ∈ wsA := wsA_in (tb_5 (List.mem_of_getElem? (i := 94) rfl)) rfl
theorem se_X1_begin : Cond.selects RX1 yX1_begin yX1_begin ∈ wsA := wsA_in (lpk_3 (q := (yX1_begin, 13)) (List.mem_of_getElem? (i := 9) rfl)) rfl
abbrev mX1_init : pM := (yX1_init, cX1_init, 3, none)
theorem ok_X1_init : pMok mX1_init 2 := ⟨by decide +kernel, wsA_in (tb_2 (List.mem_of_getElem? (i := 75) rfl)) rfl, ii_X1, by decide +kernel, by decide⟩
theorem im_X1_init : Cond.instanceMethod yX1_init ∈ wsA := wsA_in (tb_2 (List.mem_of_getElem? (i := 74) rfl)) rfl
abbrev mX1_isTakeable : pM := (yX1_isTakeable, cX1_isTakeable, 3, (some .boolean))
theorem ok_X1_isTakeable : pMok mX1_isTakeable 2 := ⟨by decide +kernel, wsA_in (tb_5 (List.mem_of_getElem? (i := 113) rfl)) rfl, ii_X1, by decide +kernel, by decide⟩
theorem im_X1_isTakeable : Cond.instanceMethod yX1_isTakeable ∈ wsA := wsA_in (tb_5 (List.mem_of_getElem? (i := 112) rfl)) rfl
theorem se_X1_isTakeable : Cond.selects RX1 yX1_isTakeable yX1_isTakeable ∈ wsA := wsA_in (lpk_3 (q := (yX1_isTakeable, 13)) (List.mem_of_getElem? (i := 13) rfl)) rfl
abbrev mX1_keep : pM := (yX1_keep, cX1_keep, 4, none)
theorem ok_X1_keep : pMok mX1_keep 1 := ⟨by decide +kernel, wsA_in (tb_5 (List.mem_of_getElem? (i := 142) rfl)) rfl, ii_X1, by decide +kernel, by decide⟩
theorem im_X1_keep : Cond.instanceMethod yX1_keep ∈ wsA := wsA_in (tb_5 (List.mem_of_getElem? (i := 141) rfl)) rfl
theorem se_X1_keep : Cond.selects RX1 yX1_keep yX1_keep ∈ wsA := wsA_in (lpk_4 (q := (yX1_keep, 13)) (List.mem_of_getElem? (i := 3) rfl)) rfl
abbrev mX1_letOn : pM := (yX1_letOn, cX1_letOn, 4, none)
theorem ok_X1_letOn : pMok mX1_letOn 2 := ⟨by decide +kernel, wsA_in (tb_5 (List.mem_of_getElem? (i := 136) rfl)) rfl, ii_X1, by decide +kernel, by decide⟩
theorem im_X1_letOn : Cond.instanceMethod yX1_letOn ∈ wsA := wsA_in (tb_5 (List.mem_of_getElem? (i := 135) rfl)) rfl
theorem se_X1_letOn : Cond.selects RX1 yX1_letOn yX1_letOn ∈ wsA := wsA_in (lpk_4 (q := (yX1_letOn, 13)) (List.mem_of_getElem? (i := 2) rfl)) rfl
abbrev mX1_letSnow : pM := (yX1_letSnow, cX1_letSnow, 5, none)
theorem ok_X1_letSnow : pMok mX1_letSnow 1 := ⟨by decide +kernel, wsA_in (tb_5 (List.mem_of_getElem? (i := 100) rfl)) rfl, ii_X1, by decide +kernel, by decide⟩
theorem im_X1_letSnow : Cond.instanceMethod yX1_letSnow ∈ wsA := wsA_in (tb_5 (List.mem_of_getElem? (i := 99) rfl)) rfl
theorem se_X1_letSnow : Cond.selects RX1 yX1_letSnow yX1_letSnow ∈ wsA := wsA_in (lpk_3 (q := (yX1_letSnow, 13)) (List.mem_of_getElem? (i := 10) rfl)) rfl
abbrev mX1_roundsOf : pM := (yX1_roundsOf, cX1_roundsOf, 5, (some .int))
theorem ok_X1_roundsOf : pMok mX1_roundsOf 2 := ⟨by decide +kernel, wsA_in (tb_5 (List.mem_of_getElem? (i := 118) rfl)) rfl, ii_X1, by decide +kernel, by decide⟩
theorem im_X1_roundsOf : Cond.instanceMethod yX1_roundsOf ∈ wsA := wsA_in (tb_5 (List.mem_of_getElem? (i := 117) rfl)) rfl
theorem se_X1_roundsOf : Cond.selects RX1 yX1_roundsOf yX1_roundsOf ∈ wsA := wsA_in (lpk_3 (q := (yX1_roundsOf, 13)) (List.mem_of_getElem? (i := 14) rfl)) rfl
abbrev mX1_runThrough : pM := (yX1_runThrough, cX1_runThrough, 3, none)
theorem ok_X1_runThrough : pMok mX1_runThrough 0 := ⟨by decide +kernel, wsA_in (tb_5 (List.mem_of_getElem? (i := 91) rfl)) rfl, ii_X1, by decide +kernel, by decide⟩
theorem im_X1_runThrough : Cond.instanceMethod yX1_runThrough ∈ wsA := wsA_in (tb_5 (List.mem_of_getElem? (i := 89) rfl)) rfl
theorem se_X1_runThrough : Cond.selects RX1 yX1_runThrough yX1_runThrough ∈ wsA := wsA_in (tb_5 (List.mem_of_getElem? (i := 90) rfl)) rfl
abbrev mX1_standing : pM := (yX1_standing, cX1_standing, 3, (some .int))
theorem ok_X1_standing : pMok mX1_standing 1 := ⟨by decide +kernel, wsA_in (tb_5 (List.mem_of_getElem? (i := 146) rfl)) rfl, ii_X1, by decide +kernel, by decide⟩
theorem im_X1_standing : Cond.instanceMethod yX1_standing ∈ wsA := wsA_in (tb_5 (List.mem_of_getElem? (i := 144) rfl)) rfl
theorem se_X1_standing : Cond.selects RX1 yX1_standing yX1_standing ∈ wsA := wsA_in (tb_5 (List.mem_of_getElem? (i := 145) rfl)) rfl
abbrev mX1_start : pM := (yX1_start, cX1_start, 5, none)
theorem ok_X1_start : pMok mX1_start 3 := ⟨by decide +kernel, wsA_in (tb_5 (List.mem_of_getElem? (i := 132) rfl)) rfl, ii_X1, by decide +kernel, by decide⟩
theorem im_X1_start : Cond.instanceMethod yX1_start ∈ wsA := wsA_in (tb_5 (List.mem_of_getElem? (i := 131) rfl)) rfl
theorem se_X1_start : Cond.selects RX1 yX1_start yX1_start ∈ wsA := wsA_in (lpk_4 (q := (yX1_start, 13)) (List.mem_of_getElem? (i := 1) rfl)) rfl
abbrev mX1_take : pM := (yX1_take, cX1_take, 4, none)
theorem ok_X1_take : pMok mX1_take 3 := ⟨by decide +kernel, wsA_in (tb_5 (List.mem_of_getElem? (i := 128) rfl)) rfl, ii_X1, by decide +kernel, by decide⟩
theorem im_X1_take : Cond.instanceMethod yX1_take ∈ wsA := wsA_in (tb_5 (List.mem_of_getElem? (i := 127) rfl)) rfl
theorem se_X1_take : Cond.selects RX1 yX1_take yX1_take ∈ wsA := wsA_in (lpk_4 (q := (yX1_take, 13)) (List.mem_of_getElem? (i := 0) rfl)) rfl
abbrev mX1_takeRounds : pM := (yX1_takeRounds, cX1_takeRounds, 10, (some .int))
theorem ok_X1_takeRounds : pMok mX1_takeRounds 3 := ⟨by decide +kernel, wsA_in (tb_5 (List.mem_of_getElem? (i := 109) rfl)) rfl, ii_X1, by decide +kernel, by decide⟩
theorem im_X1_takeRounds : Cond.instanceMethod yX1_takeRounds ∈ wsA := wsA_in (tb_5 (List.mem_of_getElem? (i := 108) rfl)) rfl
theorem se_X1_takeRounds : Cond.selects RX1 yX1_takeRounds yX1_takeRounds ∈ wsA := wsA_in (lpk_3 (q := (yX1_takeRounds, 13)) (List.mem_of_getElem? (i := 12) rfl)) rfl
abbrev mX1_takeTurns : pM := (yX1_takeTurns, cX1_takeTurns, 7, (some .int))
theorem ok_X1_takeTurns : pMok mX1_takeTurns 3 := ⟨by decide +kernel, wsA_in (tb_5 (List.mem_of_getElem? (i := 105) rfl)) rfl, ii_X1, by decide +kernel, by decide⟩
theorem im_X1_takeTurns : Cond.instanceMethod yX1_takeTurns ∈ wsA := wsA_in (tb_5 (List.mem_of_getElem? (i := 104) rfl)) rfl
theorem se_X1_takeTurns : Cond.selects RX1 yX1_takeTurns yX1_takeTurns ∈ wsA := wsA_in (lpk_3 (q := (yX1_takeTurns, 13)) (List.mem_of_getElem? (i := 11) rfl)) rfl
abbrev mX1_takeable : pM := (yX1_takeable, cX1_takeable, 8, (some .int))
theorem ok_X1_takeable : pMok mX1_takeable 4 := ⟨by decide +kernel, wsA_in (tb_5 (List.mem_of_getElem? (i := 124) rfl)) rfl, ii_X1, by decide +kernel, by decide⟩
theorem im_X1_takeable : Cond.instanceMethod yX1_takeable ∈ wsA := wsA_in (tb_5 (List.mem_of_getElem? (i := 123) rfl)) rfl
theorem se_X1_takeable : Cond.selects RX1 yX1_takeable yX1_takeable ∈ wsA := wsA_in (lpk_3 (q := (yX1_takeable, 13)) (List.mem_of_getElem? (i := 15) rfl)) rfl
abbrev mX2_init : pM := (yX2_init, cX2_init, 3, none)
theorem ok_X2_init : pMok mX2_init 1 := ⟨by decide +kernel, wsA_in (tb_1 (List.mem_of_getElem? (i := 149) rfl)) rfl, ii_X2, by decide +kernel, by decide⟩
theorem im_X2_init : Cond.instanceMethod yX2_init ∈ wsA := wsA_in (tb_1 (List.mem_of_getElem? (i := 148) rfl)) rfl
abbrev mX2_isPlusOrMinus : pM := (yX2_isPlusOrMinus, cX2_isPlusOrMinus, 1, (some .boolean))
theorem ok_X2_isPlusOrMinus : pMok mX2_isPlusOrMinus 1 := ⟨by decide +kernel, wsA_in (tb_4 (List.mem_of_getElem? (i := 41) rfl)) rfl, ii_X2, by decide +kernel, by decide⟩
theorem sm_X2_isPlusOrMinus : Cond.static yX2_isPlusOrMinus ∈ wsA := wsA_in (tb_4 (List.mem_of_getElem? (i := 40) rfl)) rfl
abbrev mX2_isWordUnit : pM := (yX2_isWordUnit, cX2_isWordUnit, 1, (some .boolean))
theorem ok_X2_isWordUnit : pMok mX2_isWordUnit 1 := ⟨by decide +kernel, wsA_in (tb_4 (List.mem_of_getElem? (i := 33) rfl)) rfl, ii_X2, by decide +kernel, by decide⟩
theorem sm_X2_isWordUnit : Cond.static yX2_isWordUnit ∈ wsA := wsA_in (tb_4 (List.mem_of_getElem? (i := 32) rfl)) rfl
abbrev mX2_joined : pM := (yX2_joined, cX2_joined, 3, (some .int))
theorem ok_X2_joined : pMok mX2_joined 3 := ⟨by decide +kernel, wsA_in (tb_4 (List.mem_of_getElem? (i := 100) rfl)) rfl, ii_X2, by decide +kernel, by decide⟩
theorem sm_X2_joined : Cond.static yX2_joined ∈ wsA := wsA_in (tb_4 (List.mem_of_getElem? (i := 99) rfl)) rfl
abbrev mX2_put : pM := (yX2_put, cX2_put, 3, none)
theorem ok_X2_put : pMok mX2_put 2 := ⟨by decide +kernel, wsA_in (tb_4 (List.mem_of_getElem? (i := 38) rfl)) rfl, ii_X2, by decide +kernel, by decide⟩
theorem im_X2_put : Cond.instanceMethod yX2_put ∈ wsA := wsA_in (tb_4 (List.mem_of_getElem? (i := 37) rfl)) rfl
theorem se_X2_put : Cond.selects RX2 yX2_put yX2_put ∈ wsA := wsA_in (lpk_2 (q := (yX2_put, 9)) (List.mem_of_getElem? (i := 8) rfl)) rfl
abbrev mX2_read : pM := (yX2_read, cX2_read, 3, (some .boolean))
theorem ok_X2_read : pMok mX2_read 1 := ⟨by decide +kernel, wsA_in (tb_3 (List.mem_of_getElem? (i := 234) rfl)) rfl, ii_X2, by decide +kernel, by decide⟩
theorem im_X2_read : Cond.instanceMethod yX2_read ∈ wsA := wsA_in (tb_3 (List.mem_of_getElem? (i := 232) rfl)) rfl
theorem se_X2_read : Cond.selects RX2 yX2_read yX2_read ∈ wsA := wsA_in (tb_3 (List.mem_of_getElem? (i := 233) rfl)) rfl
abbrev mX2_readBoth : pM := (yX2_readBoth, cX2_readBoth, 5, (some .boolean))
theorem ok_X2_readBoth : pMok mX2_readBoth 2 := ⟨by decide +kernel, wsA_in (tb_4 (List.mem_of_getElem? (i := 10) rfl)) rfl, ii_X2, by decide +kernel, by decide⟩
theorem im_X2_readBoth : Cond.instanceMethod yX2_readBoth ∈ wsA := wsA_in (tb_4 (List.mem_of_getElem? (i := 9) rfl)) rfl
theorem se_X2_readBoth : Cond.selects RX2 yX2_readBoth yX2_readBoth ∈ wsA := wsA_in (lpk_2 (q := (yX2_readBoth, 9)) (List.mem_of_getElem? (i := 2) rfl)) rfl
abbrev mX2_readComparison : pM := (yX2_readComparison, cX2_readComparison, 4, (some .boolean))
theorem ok_X2_readComparison : pMok mX2_readComparison 1 := ⟨by decide +kernel, wsA_in (tb_4 (List.mem_of_getElem? (i := 22) rfl)) rfl, ii_X2, by decide +kernel, by decide⟩
theorem im_X2_readComparison : Cond.instanceMethod yX2_readComparison ∈ wsA := wsA_in (tb_4 (List.mem_of_getElem? (i := 21) rfl)) rfl
theorem se_X2_readComparison : Cond.selects RX2 yX2_readComparison yX2_readComparison ∈ wsA := wsA_in (lpk_2 (q := (yX2_readComparison, 9)) (List.mem_of_getElem? (i := 5) rfl)) rfl
abbrev mX2_readEither : pM := (yX2_readEither, cX2_readEither, 5, (some .boolean))
theorem ok_X2_readEither : pMok mX2_readEither 2 := ⟨by decide +kernel, wsA_in (tb_4 (List.mem_of_getElem? (i := 6) rfl)) rfl, ii_X2, by decide +kernel, by decide⟩
theorem im_X2_readEither : Cond.instanceMethod yX2_readEither ∈ wsA := wsA_in (tb_4 (List.mem_of_getElem? (i := 5) rfl)) rfl
theorem se_X2_readEither : Cond.selects RX2 yX2_readEither yX2_readEither ∈ wsA := wsA_in (lpk_2 (q := (yX2_readEither, 9)) (List.mem_of_getElem? (i := 1) rfl)) rfl
abbrev mX2_readLine : pM := (yX2_readLine, cX2_readLine, 4, (some .boolean))
theorem ok_X2_readLine : pMok mX2_readLine 1 := ⟨by decide +kernel, wsA_in (tb_3 (List.mem_of_getElem? (i := 239) rfl)) rfl, ii_X2, by decide +kernel, by decide⟩
theorem im_X2_readLine : Cond.instanceMethod yX2_readLine ∈ wsA := wsA_in (tb_3 (List.mem_of_getElem? (i := 238) rfl)) rfl
theorem se_X2_readLine : Cond.selects RX2 yX2_readLine yX2_readLine ∈ wsA := wsA_in (lpk_2 (q := (yX2_readLine, 9)) (List.mem_of_getElem? (i := 0) rfl)) rfl
abbrev mX2_readNested : pM := (yX2_readNested, cX2_readNested, 3, (some .boolean))
theorem ok_X2_readNested : pMok mX2_readNested 2 := ⟨by decide +kernel, wsA_in (tb_4 (List.mem_of_getElem? (i := 18) rfl)) rfl, ii_X2, by decide +kernel, by decide⟩
theorem im_X2_readNested : Cond.instanceMethod yX2_readNested ∈ wsA := wsA_in (tb_4 (List.mem_of_getElem? (i := 17) rfl)) rfl
theorem se_X2_readNested : Cond.selects RX2 yX2_readNested yX2_readNested ∈ wsA := wsA_in (lpk_2 (q := (yX2_readNested, 9)) (List.mem_of_getElem? (i := 4) rfl)) rfl
abbrev mX2_readOne : pM := (yX2_readOne, cX2_readOne, 5, (some .boolean))
theorem ok_X2_readOne : pMok mX2_readOne 2 := ⟨by decide +kernel, wsA_in (tb_4 (List.mem_of_getElem? (i := 14) rfl)) rfl, ii_X2, by decide +kernel, by decide⟩
theorem im_X2_readOne : Cond.instanceMethod yX2_readOne ∈ wsA := wsA_in (tb_4 (List.mem_of_getElem? (i := 13) rfl)) rfl
theorem se_X2_readOne : Cond.selects RX2 yX2_readOne yX2_readOne ∈ wsA := wsA_in (lpk_2 (q := (yX2_readOne, 9)) (List.mem_of_getElem? (i := 3) rfl)) rfl
abbrev mX2_readSum : pM := (yX2_readSum, cX2_readSum, 5, (some .boolean))
theorem ok_X2_readSum : pMok mX2_readSum 1 := ⟨by decide +kernel, wsA_in (tb_4 (List.mem_of_getElem? (i := 26) rfl)) rfl, ii_X2, by decide +kernel, by decide⟩
theorem im_X2_readSum : Cond.instanceMethod yX2_readSum ∈ wsA := wsA_in (tb_4 (List.mem_of_getElem? (i := 25) rfl)) rfl
theorem se_X2_readSum : Cond.selects RX2 yX2_readSum yX2_readSum ∈ wsA := wsA_in (lpk_2 (q := (yX2_readSum, 9)) (List.mem_of_getElem? (i := 6) rfl)) rfl
abbrev mX2_readUnit : pM := (yX2_readUnit, cX2_readUnit, 3, (some .boolean))
theorem ok_X2_readUnit : pMok mX2_readUnit 1 := ⟨by decide +kernel, wsA_in (tb_4 (List.mem_of_getElem? (i := 30) rfl)) rfl, ii_X2, by decide +kernel, by decide⟩
theorem im_X2_readUnit : Cond.instanceMethod yX2_readUnit ∈ wsA := wsA_in (tb_4 (List.mem_of_getElem? (i := 29) rfl)) rfl
theorem se_X2_readUnit : Cond.selects RX2 yX2_readUnit yX2_readUnit ∈ wsA := wsA_in (lpk_2 (q := (yX2_readUnit, 9)) (List.mem_of_getElem? (i := 7) rfl)) rfl
abbrev mX2_shuts : pM := (yX2_shuts, cX2_shuts, 8, (some .boolean))
theorem ok_X2_shuts : pMok mX2_shuts 3 := ⟨by decide +kernel, wsA_in (tb_4 (List.mem_of_getElem? (i := 94) rfl)) rfl, ii_X2, by decide +kernel, by decide⟩
theorem im_X2_shuts : Cond.instanceMethod yX2_shuts ∈ wsA := wsA_in (tb_4 (List.mem_of_getElem? (i := 92) rfl)) rfl
theorem se_X2_shuts : Cond.selects RX2 yX2_shuts yX2_shuts ∈ wsA := wsA_in (tb_4 (List.mem_of_getElem? (i := 93) rfl)) rfl
abbrev mX2_unit : pM := (yX2_unit, cX2_unit, 4, (some .int))
theorem ok_X2_unit : pMok mX2_unit 4 := ⟨by decide +kernel, wsA_in (tb_4 (List.mem_of_getElem? (i := 97) rfl)) rfl, ii_X2, by decide +kernel, by decide⟩
theorem sm_X2_unit : Cond.static yX2_unit ∈ wsA := wsA_in (tb_4 (List.mem_of_getElem? (i := 96) rfl)) rfl
abbrev mX3_firstOpen : pM := (yX3_firstOpen, cX3_firstOpen, 5, (some .int))
theorem ok_X3_firstOpen : pMok mX3_firstOpen 2 := ⟨by decide +kernel, wsA_in (tb_4 (List.mem_of_getElem? (i := 147) rfl)) rfl, ii_X3, by decide +kernel, by decide⟩
theorem im_X3_firstOpen : Cond.instanceMethod yX3_firstOpen ∈ wsA := wsA_in (tb_4 (List.mem_of_getElem? (i := 145) rfl)) rfl
theorem se_X3_firstOpen : Cond.selects RX3 yX3_firstOpen yX3_firstOpen ∈ wsA := wsA_in (tb_4 (List.mem_of_getElem? (i := 146) rfl)) rfl
abbrev mX3_init : pM := (yX3_init, cX3_init, 2, none)
theorem ok_X3_init : pMok mX3_init 1 := ⟨by decide +kernel, wsA_in (tb_1 (List.mem_of_getElem? (i := 222) rfl)) rfl, ii_X3, by decide +kernel, by decide⟩
theorem im_X3_init : Cond.instanceMethod yX3_init ∈ wsA := wsA_in (tb_1 (List.mem_of_getElem? (i := 221) rfl)) rfl
abbrev mX3_isOpen : pM := (yX3_isOpen, cX3_isOpen, 4, (some .boolean))
theorem ok_X3_isOpen : pMok mX3_isOpen 2 := ⟨by decide +kernel, wsA_in (tb_4 (List.mem_of_getElem? (i := 109) rfl)) rfl, ii_X3, by decide +kernel, by decide⟩
theorem im_X3_isOpen : Cond.instanceMethod yX3_isOpen ∈ wsA := wsA_in (tb_4 (List.mem_of_getElem? (i := 107) rfl)) rfl
theorem se_X3_isOpen : Cond.selects RX3 yX3_isOpen yX3_isOpen ∈ wsA := wsA_in (tb_4 (List.mem_of_getElem? (i := 108) rfl)) rfl
abbrev mX3_isShut : pM := (yX3_isShut, cX3_isShut, 3, (some .boolean))
theorem ok_X3_isShut : pMok mX3_isShut 2 := ⟨by decide +kernel, wsA_in (tb_4 (List.mem_of_getElem? (i := 113) rfl)) rfl, ii_X3, by decide +kernel, by decide⟩
theorem im_X3_isShut : Cond.instanceMethod yX3_isShut ∈ wsA := wsA_in (tb_4 (List.mem_of_getElem? (i := 111) rfl)) rfl
theorem se_X3_isShut : Cond.selects RX3 yX3_isShut yX3_isShut ∈ wsA := wsA_in (tb_4 (List.mem_of_getElem? (i := 112) rfl)) rfl
abbrev mX3_lastOpen : pM := (yX3_lastOpen, cX3_lastOpen, 5, (some .int))
theorem ok_X3_lastOpen : pMok mX3_lastOpen 2 := ⟨by decide +kernel, wsA_in (tb_4 (List.mem_of_getElem? (i := 174) rfl)) rfl, ii_X3, by decide +kernel, by decide⟩
theorem im_X3_lastOpen : Cond.instanceMethod yX3_lastOpen ∈ wsA := wsA_in (tb_4 (List.mem_of_getElem? (i := 172) rfl)) rfl
theorem se_X3_lastOpen : Cond.selects RX3 yX3_lastOpen yX3_lastOpen ∈ wsA := wsA_in (tb_4 (List.mem_of_getElem? (i := 173) rfl)) rfl
abbrev mX3_look : pM := (yX3_look, cX3_look, 8, none)
theorem ok_X3_look : pMok mX3_look 4 := ⟨by decide +kernel, wsA_in (tb_4 (List.mem_of_getElem? (i := 80) rfl)) rfl, ii_X3, by decide +kernel, by decide⟩
theorem im_X3_look : Cond.instanceMethod yX3_look ∈ wsA := wsA_in (tb_4 (List.mem_of_getElem? (i := 78) rfl)) rfl
theorem se_X3_look : Cond.selects RX3 yX3_look yX3_look ∈ wsA := wsA_in (tb_4 (List.mem_of_getElem? (i := 79) rfl)) rfl
abbrev mX3_shutIn : pM := (yX3_shutIn, cX3_shutIn, 5, (some .int))
theorem ok_X3_shutIn : pMok mX3_shutIn 2 := ⟨by decide +kernel, wsA_in (tb_4 (List.mem_of_getElem? (i := 89) rfl)) rfl, ii_X3, by decide +kernel, by decide⟩
theorem im_X3_shutIn : Cond.instanceMethod yX3_shutIn ∈ wsA := wsA_in (tb_4 (List.mem_of_getElem? (i := 88) rfl)) rfl
theorem se_X3_shutIn : Cond.selects RX3 yX3_shutIn yX3_shutIn ∈ wsA := wsA_in (lpk_2 (q := (yX3_shutIn, 7)) (List.mem_of_getElem? (i := 10) rfl)) rfl
abbrev mX4_behind : pM := (yX4_behind, cX4_behind, 5, (some .int))
theorem ok_X4_behind : pMok mX4_behind 3 := ⟨by decide +kernel, wsA_in (tb_4 (List.mem_of_getElem? (i := 139) rfl)) rfl, ii_X4, by decide +kernel, by decide⟩
theorem im_X4_behind : Cond.instanceMethod yX4_behind ∈ wsA := wsA_in (tb_4 (List.mem_of_getElem? (i := 138) rfl)) rfl
theorem se_X4_behind : Cond.selects RX4 yX4_behind yX4_behind ∈ wsA := wsA_in (lpk_2 (q := (yX4_behind, 3)) (List.mem_of_getElem? (i := 13) rfl)) rfl
abbrev mX4_comesEarlier : pM := (yX4_comesEarlier, cX4_comesEarlier, 7, (some .boolean))
theorem ok_X4_comesEarlier : pMok mX4_comesEarlier 2 := ⟨by decide +kernel, wsA_in (tb_4 (List.mem_of_getElem? (i := 135) rfl)) rfl, ii_X4, by decide +kernel, by decide⟩
theorem im_X4_comesEarlier : Cond.instanceMethod yX4_comesEarlier ∈ wsA := wsA_in (tb_4 (List.mem_of_getElem? (i := 134) rfl)) rfl
theorem se_X4_comesEarlier : Cond.selects RX4 yX4_comesEarlier yX4_comesEarlier ∈ wsA := wsA_in (lpk_2 (q := (yX4_comesEarlier, 3)) (List.mem_of_getElem? (i := 12) rfl)) rfl
abbrev mX4_findLatest : pM := (yX4_findLatest, cX4_findLatest, 7, none)
theorem ok_X4_findLatest : pMok mX4_findLatest 3 := ⟨by decide +kernel, wsA_in (tb_4 (List.mem_of_getElem? (i := 166) rfl)) rfl, ii_X4, by decide +kernel, by decide⟩
theorem im_X4_findLatest : Cond.instanceMethod yX4_findLatest ∈ wsA := wsA_in (tb_4 (List.mem_of_getElem? (i := 165) rfl)) rfl
theorem se_X4_findLatest : Cond.selects RX4 yX4_findLatest yX4_findLatest ∈ wsA := wsA_in (lpk_2 (q := (yX4_findLatest, 3)) (List.mem_of_getElem? (i := 14) rfl)) rfl
abbrev mX4_firstMinuteAt : pM := (yX4_firstMinuteAt, cX4_firstMinuteAt, 8, (some .int))
theorem ok_X4_firstMinuteAt : pMok mX4_firstMinuteAt 4 := ⟨by decide +kernel, wsA_in (tb_4 (List.mem_of_getElem? (i := 128) rfl)) rfl, ii_X4, by decide +kernel, by decide⟩
theorem im_X4_firstMinuteAt : Cond.instanceMethod yX4_firstMinuteAt ∈ wsA := wsA_in (tb_4 (List.mem_of_getElem? (i := 126) rfl)) rfl
theorem se_X4_firstMinuteAt : Cond.selects RX4 yX4_firstMinuteAt yX4_firstMinuteAt ∈ wsA := wsA_in (tb_4 (List.mem_of_getElem? (i := 127) rfl)) rfl
abbrev mX4_goesLater : pM := (yX4_goesLater, cX4_goesLater, 7, (some .boolean))
theorem ok_X4_goesLater : pMok mX4_goesLater 2 := ⟨by decide +kernel, wsA_in (tb_4 (List.mem_of_getElem? (i := 170) rfl)) rfl, ii_X4, by decide +kernel, by decide⟩
theorem im_X4_goesLater : Cond.instanceMethod yX4_goesLater ∈ wsA := wsA_in (tb_4 (List.mem_of_getElem? (i := 169) rfl)) rfl
theorem se_X4_goesLater : Cond.selects RX4 yX4_goesLater yX4_goesLater ∈ wsA := wsA_in (lpk_2 (q := (yX4_goesLater, 3)) (List.mem_of_getElem? (i := 15) rfl)) rfl
abbrev mX4_init : pM := (yX4_init, cX4_init, 2, none)
theorem ok_X4_init : pMok mX4_init 1 := ⟨by decide +kernel, wsA_in (tb_2 (List.mem_of_getElem? (i := 24) rfl)) rfl, ii_X4, by decide +kernel, by decide⟩
theorem im_X4_init : Cond.instanceMethod yX4_init ∈ wsA := wsA_in (tb_2 (List.mem_of_getElem? (i := 23) rfl)) rfl
abbrev mX4_lastMinuteAt : pM := (yX4_lastMinuteAt, cX4_lastMinuteAt, 4, (some .int))
theorem ok_X4_lastMinuteAt : pMok mX4_lastMinuteAt 3 := ⟨by decide +kernel, wsA_in (tb_4 (List.mem_of_getElem? (i := 187) rfl)) rfl, ii_X4, by decide +kernel, by decide⟩
theorem im_X4_lastMinuteAt : Cond.instanceMethod yX4_lastMinuteAt ∈ wsA := wsA_in (tb_4 (List.mem_of_getElem? (i := 185) rfl)) rfl
theorem se_X4_lastMinuteAt : Cond.selects RX4 yX4_lastMinuteAt yX4_lastMinuteAt ∈ wsA := wsA_in (tb_4 (List.mem_of_getElem? (i := 186) rfl)) rfl
abbrev mX4_nextWay : pM := (yX4_nextWay, cX4_nextWay, 7, (some .int))
theorem ok_X4_nextWay : pMok mX4_nextWay 3 := ⟨by decide +kernel, wsA_in (tb_4 (List.mem_of_getElem? (i := 179) rfl)) rfl, ii_X4, by decide +kernel, by decide⟩
theorem im_X4_nextWay : Cond.instanceMethod yX4_nextWay ∈ wsA := wsA_in (tb_4 (List.mem_of_getElem? (i := 178) rfl)) rfl
theorem se_X4_nextWay : Cond.selects RX4 yX4_nextWay yX4_nextWay ∈ wsA := wsA_in (lpk_3 (q := (yX4_nextWay, 3)) (List.mem_of_getElem? (i := 0) rfl)) rfl
abbrev mX4_wayOf : pM := (yX4_wayOf, cX4_wayOf, 11, (some .int))
theorem ok_X4_wayOf : pMok mX4_wayOf 5 := ⟨by decide +kernel, wsA_in (tb_4 (List.mem_of_getElem? (i := 161) rfl)) rfl, ii_X4, by decide +kernel, by decide⟩
theorem im_X4_wayOf : Cond.instanceMethod yX4_wayOf ∈ wsA := wsA_in (tb_4 (List.mem_of_getElem? (i := 159) rfl)) rfl
theorem se_X4_wayOf : Cond.selects RX4 yX4_wayOf yX4_wayOf ∈ wsA := wsA_in (tb_4 (List.mem_of_getElem? (i := 160) rfl)) rfl
abbrev mX5_canRide : pM := (yX5_canRide, cX5_canRide, 5, (some .boolean))
theorem ok_X5_canRide : pMok mX5_canRide 2 := ⟨by decide +kernel, wsA_in (tb_5 (List.mem_of_getElem? (i := 54) rfl)) rfl, ii_X5, by decide +kernel, by decide⟩
theorem im_X5_canRide : Cond.instanceMethod yX5_canRide ∈ wsA := wsA_in (tb_5 (List.mem_of_getElem? (i := 52) rfl)) rfl
theorem se_X5_canRide : Cond.selects RX5 yX5_canRide yX5_canRide ∈ wsA := wsA_in (tb_5 (List.mem_of_getElem? (i := 53) rfl)) rfl
abbrev mX5_canStand : pM := (yX5_canStand, cX5_canStand, 3, (some .boolean))
theorem ok_X5_canStand : pMok mX5_canStand 2 := ⟨by decide +kernel, wsA_in (tb_5 (List.mem_of_getElem? (i := 46) rfl)) rfl, ii_X5, by decide +kernel, by decide⟩
theorem im_X5_canStand : Cond.instanceMethod yX5_canStand ∈ wsA := wsA_in (tb_5 (List.mem_of_getElem? (i := 44) rfl)) rfl
theorem se_X5_canStand : Cond.selects RX5 yX5_canStand yX5_canStand ∈ wsA := wsA_in (tb_5 (List.mem_of_getElem? (i := 45) rfl)) rfl
abbrev mX5_findBeginnings : pM := (yX5_findBeginnings, cX5_findBeginnings, 7, none)
theorem ok_X5_findBeginnings : pMok mX5_findBeginnings 1 := ⟨by decide +kernel, wsA_in (tb_5 (List.mem_of_getElem? (i := 18) rfl)) rfl, ii_X5, by decide +kernel, by decide⟩
theorem im_X5_findBeginnings : Cond.instanceMethod yX5_findBeginnings ∈ wsA := wsA_in (tb_5 (List.mem_of_getElem? (i := 17) rfl)) rfl
theorem se_X5_findBeginnings : Cond.selects RX5 yX5_findBeginnings yX5_findBeginnings ∈ wsA := wsA_in (lpk_3 (q := (yX5_findBeginnings, 9)) (List.mem_of_getElem? (i := 3) rfl)) rfl
abbrev mX5_findGoesOn : pM := (yX5_findGoesOn, cX5_findGoesOn, 4, none)
theorem ok_X5_findGoesOn : pMok mX5_findGoesOn 0 := ⟨by decide +kernel, wsA_in (tb_5 (List.mem_of_getElem? (i := 38) rfl)) rfl, ii_X5, by decide +kernel, by decide⟩
theorem im_X5_findGoesOn : Cond.instanceMethod yX5_findGoesOn ∈ wsA := wsA_in (tb_5 (List.mem_of_getElem? (i := 37) rfl)) rfl
theorem se_X5_findGoesOn : Cond.selects RX5 yX5_findGoesOn yX5_findGoesOn ∈ wsA := wsA_in (lpk_3 (q := (yX5_findGoesOn, 9)) (List.mem_of_getElem? (i := 7) rfl)) rfl
abbrev mX5_findPasses : pM := (yX5_findPasses, cX5_findPasses, 7, none)
theorem ok_X5_findPasses : pMok mX5_findPasses 2 := ⟨by decide +kernel, wsA_in (tb_5 (List.mem_of_getElem? (i := 12) rfl)) rfl, ii_X5, by decide +kernel, by decide⟩
theorem im_X5_findPasses : Cond.instanceMethod yX5_findPasses ∈ wsA := wsA_in (tb_5 (List.mem_of_getElem? (i := 11) rfl)) rfl
theorem se_X5_findPasses : Cond.selects RX5 yX5_findPasses yX5_findPasses ∈ wsA := wsA_in (lpk_3 (q := (yX5_findPasses, 9)) (List.mem_of_getElem? (i := 2) rfl)) rfl
abbrev mX5_findReached : pM := (yX5_findReached, cX5_findReached, 5, none)
theorem ok_X5_findReached : pMok mX5_findReached 0 := ⟨by decide +kernel, wsA_in (tb_5 (List.mem_of_getElem? (i := 30) rfl)) rfl, ii_X5, by decide +kernel, by decide⟩
theorem im_X5_findReached : Cond.instanceMethod yX5_findReached ∈ wsA := wsA_in (tb_5 (List.mem_of_getElem? (i := 29) rfl)) rfl
theorem se_X5_findReached : Cond.selects RX5 yX5_findReached yX5_findReached ∈ wsA := wsA_in (lpk_3 (q := (yX5_findReached, 9)) (List.mem_of_getElem? (i := 5) rfl)) rfl
abbrev mX5_init : pM := (yX5_init, cX5_init, 3, none)
theorem ok_X5_init : pMok mX5_init 2 := ⟨by decide +kernel, wsA_in (tb_4 (List.mem_of_getElem? (i := 196) rfl)) rfl, ii_X5, by decide +kernel, by decide⟩
theorem im_X5_init : Cond.instanceMethod yX5_init ∈ wsA := wsA_in (tb_4 (List.mem_of_getElem? (i := 195) rfl)) rfl
abbrev mX5_leadsOn : pM := (yX5_leadsOn, cX5_leadsOn, 3, (some .boolean))
theorem ok_X5_leadsOn : pMok mX5_leadsOn 2 := ⟨by decide +kernel, wsA_in (tb_5 (List.mem_of_getElem? (i := 42) rfl)) rfl, ii_X5, by decide +kernel, by decide⟩
theorem im_X5_leadsOn : Cond.instanceMethod yX5_leadsOn ∈ wsA := wsA_in (tb_5 (List.mem_of_getElem? (i := 41) rfl)) rfl
theorem se_X5_leadsOn : Cond.selects RX5 yX5_leadsOn yX5_leadsOn ∈ wsA := wsA_in (lpk_3 (q := (yX5_leadsOn, 9)) (List.mem_of_getElem? (i := 8) rfl)) rfl
abbrev mX5_mayBegin : pM := (yX5_mayBegin, cX5_mayBegin, 4, (some .boolean))
theorem ok_X5_mayBegin : pMok mX5_mayBegin 3 := ⟨by decide +kernel, wsA_in (tb_5 (List.mem_of_getElem? (i := 24) rfl)) rfl, ii_X5, by decide +kernel, by decide⟩
theorem im_X5_mayBegin : Cond.instanceMethod yX5_mayBegin ∈ wsA := wsA_in (tb_5 (List.mem_of_getElem? (i := 23) rfl)) rfl
theorem se_X5_mayBegin : Cond.selects RX5 yX5_mayBegin yX5_mayBegin ∈ wsA := wsA_in (lpk_3 (q := (yX5_mayBegin, 9)) (List.mem_of_getElem? (i := 4) rfl)) rfl
abbrev mX5_mayStay : pM := (yX5_mayStay, cX5_mayStay, 2, (some .boolean))
theorem ok_X5_mayStay : pMok mX5_mayStay 1 := ⟨by decide +kernel, wsA_in (tb_5 (List.mem_of_getElem? (i := 34) rfl)) rfl, ii_X5, by decide +kernel, by decide⟩
theorem im_X5_mayStay : Cond.instanceMethod yX5_mayStay ∈ wsA := wsA_in (tb_5 (List.mem_of_getElem? (i := 33) rfl)) rfl
theorem se_X5_mayStay : Cond.selects RX5 yX5_mayStay yX5_mayStay ∈ wsA := wsA_in (lpk_3 (q := (yX5_mayStay, 9)) (List.mem_of_getElem? (i := 6) rfl)) rfl
abbrev mX5_reckon : pM := (yX5_reckon, cX5_reckon, 5, none)
theorem ok_X5_reckon : pMok mX5_reckon 3 := ⟨by decide +kernel, wsA_in (tb_5 (List.mem_of_getElem? (i := 7) rfl)) rfl, ii_X5, by decide +kernel, by decide⟩
theorem im_X5_reckon : Cond.instanceMethod yX5_reckon ∈ wsA := wsA_in (tb_5 (List.mem_of_getElem? (i := 5) rfl)) rfl
theorem se_X5_reckon : Cond.selects RX5 yX5_reckon yX5_reckon ∈ wsA := wsA_in (tb_5 (List.mem_of_getElem? (i := 6) rfl)) rfl
abbrev mX6_fits : pM := (yX6_fits, cX6_fits, 3, (some .boolean))
theorem ok_X6_fits : pMok mX6_fits 2 := ⟨by decide +kernel, wsA_in (tb_4 (List.mem_of_getElem? (i := 143) rfl)) rfl, ii_X6, by decide +kernel, by decide⟩
theorem im_X6_fits : Cond.instanceMethod yX6_fits ∈ wsA := wsA_in (tb_4 (List.mem_of_getElem? (i := 141) rfl)) rfl
theorem se_X6_fits : Cond.selects RX6 yX6_fits yX6_fits ∈ wsA := wsA_in (tb_4 (List.mem_of_getElem? (i := 142) rfl)) rfl
abbrev mX6_has : pM := (yX6_has, cX6_has, 2, (some .boolean))
theorem ok_X6_has : pMok mX6_has 1 := ⟨by decide +kernel, wsA_in (tb_2 (List.mem_of_getElem? (i := 144) rfl)) rfl, ii_X6, by decide +kernel, by decide⟩
theorem im_X6_has : Cond.instanceMethod yX6_has ∈ wsA := wsA_in (tb_2 (List.mem_of_getElem? (i := 142) rfl)) rfl
theorem se_X6_has : Cond.selects RX6 yX6_has yX6_has ∈ wsA := wsA_in (tb_2 (List.mem_of_getElem? (i := 143) rfl)) rfl
abbrev mX6_hasName : pM := (yX6_hasName, cX6_hasName, 8, (some .boolean))
theorem ok_X6_hasName : pMok mX6_hasName 1 := ⟨by decide +kernel, wsA_in (tb_3 (List.mem_of_getElem? (i := 195) rfl)) rfl, ii_X6, by decide +kernel, by decide⟩
theorem im_X6_hasName : Cond.instanceMethod yX6_hasName ∈ wsA := wsA_in (tb_3 (List.mem_of_getElem? (i := 194) rfl)) rfl
theorem se_X6_hasName : Cond.selects RX6 yX6_hasName yX6_hasName ∈ wsA := wsA_in (lpk_1 (q := (yX6_hasName, 15)) (List.mem_of_getElem? (i := 12) rfl)) rfl
abbrev mX6_init : pM := (yX6_init, cX6_init, 1, none)
theorem ok_X6_init : pMok mX6_init 0 := ⟨by decide +kernel, wsA_in (tb_1 (List.mem_of_getElem? (i := 66) rfl)) rfl, ii_X6, by decide +kernel, by decide⟩
theorem im_X6_init : Cond.instanceMethod yX6_init ∈ wsA := wsA_in (tb_1 (List.mem_of_getElem? (i := 65) rfl)) rfl
abbrev mX6_minutes : pM := (yX6_minutes, cX6_minutes, 3, (some .int))
theorem ok_X6_minutes : pMok mX6_minutes 2 := ⟨by decide +kernel, wsA_in (tb_4 (List.mem_of_getElem? (i := 152) rfl)) rfl, ii_X6, by decide +kernel, by decide⟩
theorem im_X6_minutes : Cond.instanceMethod yX6_minutes ∈ wsA := wsA_in (tb_4 (List.mem_of_getElem? (i := 150) rfl)) rfl
theorem se_X6_minutes : Cond.selects RX6 yX6_minutes yX6_minutes ∈ wsA := wsA_in (tb_4 (List.mem_of_getElem? (i := 151) rfl)) rfl
abbrev mX6_read : pM := (yX6_read, cX6_read, 3, (some .boolean))
theorem ok_X6_read : pMok mX6_read 1 := ⟨by decide +kernel, wsA_in (tb_3 (List.mem_of_getElem? (i := 163) rfl)) rfl, ii_X6, by decide +kernel, by decide⟩
theorem im_X6_read : Cond.instanceMethod yX6_read ∈ wsA := wsA_in (tb_3 (List.mem_of_getElem? (i := 161) rfl)) rfl
theorem se_X6_read : Cond.selects RX6 yX6_read yX6_read ∈ wsA := wsA_in (tb_3 (List.mem_of_getElem? (i := 162) rfl)) rfl
abbrev mX6_readEnds : pM := (yX6_readEnds, cX6_readEnds, 3, (some .boolean))
theorem ok_X6_readEnds : pMok mX6_readEnds 2 := ⟨by decide +kernel, wsA_in (tb_3 (List.mem_of_getElem? (i := 183) rfl)) rfl, ii_X6, by decide +kernel, by decide⟩
theorem im_X6_readEnds : Cond.instanceMethod yX6_readEnds ∈ wsA := wsA_in (tb_3 (List.mem_of_getElem? (i := 182) rfl)) rfl
theorem se_X6_readEnds : Cond.selects RX6 yX6_readEnds yX6_readEnds ∈ wsA := wsA_in (lpk_1 (q := (yX6_readEnds, 15)) (List.mem_of_getElem? (i := 11) rfl)) rfl
abbrev mX6_readHome : pM := (yX6_readHome, cX6_readHome, 2, (some .boolean))
theorem ok_X6_readHome : pMok mX6_readHome 1 := ⟨by decide +kernel, wsA_in (tb_3 (List.mem_of_getElem? (i := 216) rfl)) rfl, ii_X6, by decide +kernel, by decide⟩
theorem im_X6_readHome : Cond.instanceMethod yX6_readHome ∈ wsA := wsA_in (tb_3 (List.mem_of_getElem? (i := 215) rfl)) rfl
theorem se_X6_readHome : Cond.selects RX6 yX6_readHome yX6_readHome ∈ wsA := wsA_in (lpk_1 (q := (yX6_readHome, 15)) (List.mem_of_getElem? (i := 14) rfl)) rfl
abbrev mX6_readLift : pM := (yX6_readLift, cX6_readLift, 3, (some .boolean))
theorem ok_X6_readLift : pMok mX6_readLift 2 := ⟨by decide +kernel, wsA_in (tb_3 (List.mem_of_getElem? (i := 175) rfl)) rfl, ii_X6, by decide +kernel, by decide⟩
theorem im_X6_readLift : Cond.instanceMethod yX6_readLift ∈ wsA := wsA_in (tb_3 (List.mem_of_getElem? (i := 174) rfl)) rfl
theorem se_X6_readLift : Cond.selects RX6 yX6_readLift yX6_readLift ∈ wsA := wsA_in (lpk_1 (q := (yX6_readLift, 15)) (List.mem_of_getElem? (i := 10) rfl)) rfl
abbrev mX6_readLine : pM := (yX6_readLine, cX6_readLine, 3, (some .boolean))
theorem ok_X6_readLine : pMok mX6_readLine 1 := ⟨by decide +kernel, wsA_in (tb_3 (List.mem_of_getElem? (i := 171) rfl)) rfl, ii_X6, by decide +kernel, by decide⟩
theorem im_X6_readLine : Cond.instanceMethod yX6_readLine ∈ wsA := wsA_in (tb_3 (List.mem_of_getElem? (i := 170) rfl)) rfl
theorem se_X6_readLine : Cond.selects RX6 yX6_readLine yX6_readLine ∈ wsA := wsA_in (lpk_1 (q := (yX6_readLine, 15)) (List.mem_of_getElem? (i := 9) rfl)) rfl
abbrev mX6_readRun : pM := (yX6_readRun, cX6_readRun, 3, (some .boolean))
theorem ok_X6_readRun : pMok mX6_readRun 2 := ⟨by decide +kernel, wsA_in (tb_3 (List.mem_of_getElem? (i := 212) rfl)) rfl, ii_X6, by decide +kernel, by decide⟩
theorem im_X6_readRun : Cond.instanceMethod yX6_readRun ∈ wsA := wsA_in (tb_3 (List.mem_of_getElem? (i := 211) rfl)) rfl
theorem se_X6_readRun : Cond.selects RX6 yX6_readRun yX6_readRun ∈ wsA := wsA_in (lpk_1 (q := (yX6_readRun, 15)) (List.mem_of_getElem? (i := 13) rfl)) rfl
abbrev mX7_canBeBetter : pM := (yX7_canBeBetter, cX7_canBeBetter, 4, (some .boolean))
theorem ok_X7_canBeBetter : pMok mX7_canBeBetter 1 := ⟨by decide +kernel, wsA_in (tb_5 (List.mem_of_getElem? (i := 174) rfl)) rfl, ii_X7, by decide +kernel, by decide⟩
theorem im_X7_canBeBetter : Cond.instanceMethod yX7_canBeBetter ∈ wsA := wsA_in (tb_5 (List.mem_of_getElem? (i := 173) rfl)) rfl
theorem se_X7_canBeBetter : Cond.selects RX7 yX7_canBeBetter yX7_canBeBetter ∈ wsA := wsA_in (lpk_4 (q := (yX7_canBeBetter, 9)) (List.mem_of_getElem? (i := 4) rfl)) rfl
abbrev mX7_findAbove : pM := (yX7_findAbove, cX7_findAbove, 3, none)
theorem ok_X7_findAbove : pMok mX7_findAbove 0 := ⟨by decide +kernel, wsA_in (tb_2 (List.mem_of_getElem? (i := 154) rfl)) rfl, ii_X7, by decide +kernel, by decide⟩
theorem im_X7_findAbove : Cond.instanceMethod yX7_findAbove ∈ wsA := wsA_in (tb_2 (List.mem_of_getElem? (i := 153) rfl)) rfl
theorem se_X7_findAbove : Cond.selects RX7 yX7_findAbove yX7_findAbove ∈ wsA := wsA_in (lpk_1 (q := (yX7_findAbove, 9)) (List.mem_of_getElem? (i := 2) rfl)) rfl
abbrev mX7_findBetween : pM := (yX7_findBetween, cX7_findBetween, 4, none)
theorem ok_X7_findBetween : pMok mX7_findBetween 0 := ⟨by decide +kernel, wsA_in (tb_2 (List.mem_of_getElem? (i := 139) rfl)) rfl, ii_X7, by decide +kernel, by decide⟩
theorem im_X7_findBetween : Cond.instanceMethod yX7_findBetween ∈ wsA := wsA_in (tb_2 (List.mem_of_getElem? (i := 138) rfl)) rfl
theorem se_X7_findBetween : Cond.selects RX7 yX7_findBetween yX7_findBetween ∈ wsA := wsA_in (lpk_1 (q := (yX7_findBetween, 9)) (List.mem_of_getElem? (i := 1) rfl)) rfl
abbrev mX7_forget : pM := (yX7_forget, cX7_forget, 2, none)
theorem ok_X7_forget : pMok mX7_forget 1 := ⟨by decide +kernel, wsA_in (tb_2 (List.mem_of_getElem? (i := 132) rfl)) rfl, ii_X7, by decide +kernel, by decide⟩
theorem im_X7_forget : Cond.instanceMethod yX7_forget ∈ wsA := wsA_in (tb_2 (List.mem_of_getElem? (i := 131) rfl)) rfl
theorem se_X7_forget : Cond.selects RX7 yX7_forget yX7_forget ∈ wsA := wsA_in (lpk_1 (q := (yX7_forget, 9)) (List.mem_of_getElem? (i := 0) rfl)) rfl
abbrev mX7_goDown : pM := (yX7_goDown, cX7_goDown, 8, none)
theorem ok_X7_goDown : pMok mX7_goDown 6 := ⟨by decide +kernel, wsA_in (tb_5 (List.mem_of_getElem? (i := 181) rfl)) rfl, ii_X7, by decide +kernel, by decide⟩
theorem sm_X7_goDown : Cond.static yX7_goDown ∈ wsA := wsA_in (tb_5 (List.mem_of_getElem? (i := 180) rfl)) rfl
abbrev mX7_goOn : pM := (yX7_goOn, cX7_goOn, 9, none)
theorem ok_X7_goOn : pMok mX7_goOn 4 := ⟨by decide +kernel, wsA_in (tb_5 (List.mem_of_getElem? (i := 169) rfl)) rfl, ii_X7, by decide +kernel, by decide⟩
theorem sm_X7_goOn : Cond.static yX7_goOn ∈ wsA := wsA_in (tb_5 (List.mem_of_getElem? (i := 168) rfl)) rfl
abbrev mX7_init : pM := (yX7_init, cX7_init, 2, none)
theorem ok_X7_init : pMok mX7_init 1 := ⟨by decide +kernel, wsA_in (tb_2 (List.mem_of_getElem? (i := 127) rfl)) rfl, ii_X7, by decide +kernel, by decide⟩
theorem im_X7_init : Cond.instanceMethod yX7_init ∈ wsA := wsA_in (tb_2 (List.mem_of_getElem? (i := 126) rfl)) rfl
abbrev mX7_least : pM := (yX7_least, cX7_least, 4, (some .int))
theorem ok_X7_least : pMok mX7_least 2 := ⟨by decide +kernel, wsA_in (tb_5 (List.mem_of_getElem? (i := 166) rfl)) rfl, ii_X7, by decide +kernel, by decide⟩
theorem im_X7_least : Cond.instanceMethod yX7_least ∈ wsA := wsA_in (tb_5 (List.mem_of_getElem? (i := 164) rfl)) rfl
theorem se_X7_least : Cond.selects RX7 yX7_least yX7_least ∈ wsA := wsA_in (tb_5 (List.mem_of_getElem? (i := 165) rfl)) rfl
abbrev mX7_startOf : pM := (yX7_startOf, cX7_startOf, 5, (some .int))
theorem ok_X7_startOf : pMok mX7_startOf 2 := ⟨by decide +kernel, wsA_in (tb_5 (List.mem_of_getElem? (i := 178) rfl)) rfl, ii_X7, by decide +kernel, by decide⟩
theorem im_X7_startOf : Cond.instanceMethod yX7_startOf ∈ wsA := wsA_in (tb_5 (List.mem_of_getElem? (i := 177) rfl)) rfl
theorem se_X7_startOf : Cond.selects RX7 yX7_startOf yX7_startOf ∈ wsA := wsA_in (lpk_4 (q := (yX7_startOf, 9)) (List.mem_of_getElem? (i := 5) rfl)) rfl
abbrev mX8_counts : pM := (yX8_counts, cX8_counts, 3, (some .boolean))
theorem ok_X8_counts : pMok mX8_counts 2 := ⟨by decide +kernel, wsA_in (tb_4 (List.mem_of_getElem? (i := 85) rfl)) rfl, ii_X8, by decide +kernel, by decide⟩
theorem im_X8_counts : Cond.instanceMethod yX8_counts ∈ wsA := wsA_in (tb_4 (List.mem_of_getElem? (i := 83) rfl)) rfl
theorem se_X8_counts : Cond.selects RX8 yX8_counts yX8_counts ∈ wsA := wsA_in (tb_4 (List.mem_of_getElem? (i := 84) rfl)) rfl
abbrev mX8_init : pM := (yX8_init, cX8_init, 3, none)
theorem ok_X8_init : pMok mX8_init 1 := ⟨by decide +kernel, wsA_in (tb_1 (List.mem_of_getElem? (i := 187) rfl)) rfl, ii_X8, by decide +kernel, by decide⟩
theorem im_X8_init : Cond.instanceMethod yX8_init ∈ wsA := wsA_in (tb_1 (List.mem_of_getElem? (i := 186) rfl)) rfl
abbrev mX8_takeBack : pM := (yX8_takeBack, cX8_takeBack, 3, (some .boolean))
theorem ok_X8_takeBack : pMok mX8_takeBack 2 := ⟨by decide +kernel, wsA_in (tb_4 (List.mem_of_getElem? (i := 62) rfl)) rfl, ii_X8, by decide +kernel, by decide⟩
theorem im_X8_takeBack : Cond.instanceMethod yX8_takeBack ∈ wsA := wsA_in (tb_4 (List.mem_of_getElem? (i := 60) rfl)) rfl
theorem se_X8_takeBack : Cond.selects RX8 yX8_takeBack yX8_takeBack ∈ wsA := wsA_in (tb_4 (List.mem_of_getElem? (i := 61) rfl)) rfl
abbrev mX8_tell : pM := (yX8_tell, cX8_tell, 5, (some .int))
theorem ok_X8_tell : pMok mX8_tell 4 := ⟨by decide +kernel, wsA_in (tb_4 (List.mem_of_getElem? (i := 54) rfl)) rfl, ii_X8, by decide +kernel, by decide⟩
theorem im_X8_tell : Cond.instanceMethod yX8_tell ∈ wsA := wsA_in (tb_4 (List.mem_of_getElem? (i := 52) rfl)) rfl
theorem se_X8_tell : Cond.selects RX8 yX8_tell yX8_tell ∈ wsA := wsA_in (tb_4 (List.mem_of_getElem? (i := 53) rfl)) rfl
abbrev mX9_cut : pM := (yX9_cut, cX9_cut, 5, none)
theorem ok_X9_cut : pMok mX9_cut 2 := ⟨by decide +kernel, wsA_in (tb_3 (List.mem_of_getElem? (i := 21) rfl)) rfl, ii_X9, by decide +kernel, by decide⟩
theorem im_X9_cut : Cond.instanceMethod yX9_cut ∈ wsA := wsA_in (tb_3 (List.mem_of_getElem? (i := 19) rfl)) rfl
theorem se_X9_cut : Cond.selects RX9 yX9_cut yX9_cut ∈ wsA := wsA_in (tb_3 (List.mem_of_getElem? (i := 20) rfl)) rfl
abbrev mX9_cutNumber : pM := (yX9_cutNumber, cX9_cutNumber, 7, (some .int))
theorem ok_X9_cutNumber : pMok mX9_cutNumber 3 := ⟨by decide +kernel, wsA_in (tb_3 (List.mem_of_getElem? (i := 100) rfl)) rfl, ii_X9, by decide +kernel, by decide⟩
theorem im_X9_cutNumber : Cond.instanceMethod yX9_cutNumber ∈ wsA := wsA_in (tb_3 (List.mem_of_getElem? (i := 99) rfl)) rfl
theorem se_X9_cutNumber : Cond.selects RX9 yX9_cutNumber yX9_cutNumber ∈ wsA := wsA_in (lpk_1 (q := (yX9_cutNumber, 7)) (List.mem_of_getElem? (i := 8) rfl)) rfl
abbrev mX9_cutOne : pM := (yX9_cutOne, cX9_cutOne, 5, (some .int))
theorem ok_X9_cutOne : pMok mX9_cutOne 3 := ⟨by decide +kernel, wsA_in (tb_3 (List.mem_of_getElem? (i := 25) rfl)) rfl, ii_X9, by decide +kernel, by decide⟩
theorem im_X9_cutOne : Cond.instanceMethod yX9_cutOne ∈ wsA := wsA_in (tb_3 (List.mem_of_getElem? (i := 24) rfl)) rfl
theorem se_X9_cutOne : Cond.selects RX9 yX9_cutOne yX9_cutOne ∈ wsA := wsA_in (lpk_1 (q := (yX9_cutOne, 7)) (List.mem_of_getElem? (i := 5) rfl)) rfl
abbrev mX9_cutWord : pM := (yX9_cutWord, cX9_cutWord, 7, (some .int))
theorem ok_X9_cutWord : pMok mX9_cutWord 3 := ⟨by decide +kernel, wsA_in (tb_3 (List.mem_of_getElem? (i := 32) rfl)) rfl, ii_X9, by decide +kernel, by decide⟩
theorem im_X9_cutWord : Cond.instanceMethod yX9_cutWord ∈ wsA := wsA_in (tb_3 (List.mem_of_getElem? (i := 31) rfl)) rfl
theorem se_X9_cutWord : Cond.selects RX9 yX9_cutWord yX9_cutWord ∈ wsA := wsA_in (lpk_1 (q := (yX9_cutWord, 7)) (List.mem_of_getElem? (i := 6) rfl)) rfl
abbrev mX9_expect : pM := (yX9_expect, cX9_expect, 2, (some .boolean))
theorem ok_X9_expect : pMok mX9_expect 1 := ⟨by decide +kernel, wsA_in (tb_3 (List.mem_of_getElem? (i := 203) rfl)) rfl, ii_X9, by decide +kernel, by decide⟩
theorem im_X9_expect : Cond.instanceMethod yX9_expect ∈ wsA := wsA_in (tb_3 (List.mem_of_getElem? (i := 201) rfl)) rfl
theorem se_X9_expect : Cond.selects RX9 yX9_expect yX9_expect ∈ wsA := wsA_in (tb_3 (List.mem_of_getElem? (i := 202) rfl)) rfl
abbrev mX9_fail : pM := (yX9_fail, cX9_fail, 3, (some .boolean))
theorem ok_X9_fail : pMok mX9_fail 1 := ⟨by decide +kernel, wsA_in (tb_3 (List.mem_of_getElem? (i := 187) rfl)) rfl, ii_X9, by decide +kernel, by decide⟩
theorem im_X9_fail : Cond.instanceMethod yX9_fail ∈ wsA := wsA_in (tb_3 (List.mem_of_getElem? (i := 185) rfl)) rfl
theorem se_X9_fail : Cond.selects RX9 yX9_fail yX9_fail ∈ wsA := wsA_in (tb_3 (List.mem_of_getElem? (i := 186) rfl)) rfl
abbrev mX9_init : pM := (yX9_init, cX9_init, 1, none)
theorem ok_X9_init : pMok mX9_init 0 := ⟨by decide +kernel, wsA_in (tb_1 (List.mem_of_getElem? (i := 32) rfl)) rfl, ii_X9, by decide +kernel, by decide⟩
theorem im_X9_init : Cond.instanceMethod yX9_init ∈ wsA := wsA_in (tb_1 (List.mem_of_getElem? (i := 31) rfl)) rfl
abbrev mX9_isDigit : pM := (yX9_isDigit, cX9_isDigit, 1, (some .boolean))
theorem ok_X9_isDigit : pMok mX9_isDigit 1 := ⟨by decide +kernel, wsA_in (tb_3 (List.mem_of_getElem? (i := 38) rfl)) rfl, ii_X9, by decide +kernel, by decide⟩
theorem sm_X9_isDigit : Cond.static yX9_isDigit ∈ wsA := wsA_in (tb_3 (List.mem_of_getElem? (i := 37) rfl)) rfl
abbrev mX9_isLetter : pM := (yX9_isLetter, cX9_isLetter, 1, (some .boolean))
theorem ok_X9_isLetter : pMok mX9_isLetter 1 := ⟨by decide +kernel, wsA_in (tb_3 (List.mem_of_getElem? (i := 28) rfl)) rfl, ii_X9, by decide +kernel, by decide⟩
theorem sm_X9_isLetter : Cond.static yX9_isLetter ∈ wsA := wsA_in (tb_3 (List.mem_of_getElem? (i := 27) rfl)) rfl
abbrev mX9_isPlace : pM := (yX9_isPlace, cX9_isPlace, 3, (some .boolean))
theorem ok_X9_isPlace : pMok mX9_isPlace 3 := ⟨by decide +kernel, wsA_in (tb_3 (List.mem_of_getElem? (i := 35) rfl)) rfl, ii_X9, by decide +kernel, by decide⟩
theorem sm_X9_isPlace : Cond.static yX9_isPlace ∈ wsA := wsA_in (tb_3 (List.mem_of_getElem? (i := 34) rfl)) rfl
abbrev mX9_isSign : pM := (yX9_isSign, cX9_isSign, 1, (some .boolean))
theorem ok_X9_isSign : pMok mX9_isSign 1 := ⟨by decide +kernel, wsA_in (tb_3 (List.mem_of_getElem? (i := 103) rfl)) rfl, ii_X9, by decide +kernel, by decide⟩
theorem sm_X9_isSign : Cond.static yX9_isSign ∈ wsA := wsA_in (tb_3 (List.mem_of_getElem? (i := 102) rfl)) rfl
abbrev mX9_kind : pM := (yX9_kind, cX9_kind, 1, (some .int))
theorem ok_X9_kind : pMok mX9_kind 0 := ⟨by decide +kernel, wsA_in (tb_3 (List.mem_of_getElem? (i := 167) rfl)) rfl, ii_X9, by decide +kernel, by decide⟩
theorem im_X9_kind : Cond.instanceMethod yX9_kind ∈ wsA := wsA_in (tb_3 (List.mem_of_getElem? (i := 165) rfl)) rfl
theorem se_X9_kind : Cond.selects RX9 yX9_kind yX9_kind ∈ wsA := wsA_in (tb_3 (List.mem_of_getElem? (i := 166) rfl)) rfl
abbrev mX9_numberBehind : pM := (yX9_numberBehind, cX9_numberBehind, 5, (some .int))
theorem ok_X9_numberBehind : pMok mX9_numberBehind 3 := ⟨by decide +kernel, wsA_in (tb_3 (List.mem_of_getElem? (i := 199) rfl)) rfl, ii_X9, by decide +kernel, by decide⟩
theorem im_X9_numberBehind : Cond.instanceMethod yX9_numberBehind ∈ wsA := wsA_in (tb_3 (List.mem_of_getElem? (i := 197) rfl)) rfl
theorem se_X9_numberBehind : Cond.selects RX9 yX9_numberBehind yX9_numberBehind ∈ wsA := wsA_in (tb_3 (List.mem_of_getElem? (i := 198) rfl)) rfl
abbrev mX9_put : pM := (yX9_put, cX9_put, 5, none)
theorem ok_X9_put : pMok mX9_put 3 := ⟨by decide +kernel, wsA_in (tb_3 (List.mem_of_getElem? (i := 42) rfl)) rfl, ii_X9, by decide +kernel, by decide⟩
theorem im_X9_put : Cond.instanceMethod yX9_put ∈ wsA := wsA_in (tb_3 (List.mem_of_getElem? (i := 41) rfl)) rfl
theorem se_X9_put : Cond.selects RX9 yX9_put yX9_put ∈ wsA := wsA_in (lpk_1 (q := (yX9_put, 7)) (List.mem_of_getElem? (i := 7) rfl)) rfl
abbrev mX9_step : pM := (yX9_step, cX9_step, 1, none)
theorem ok_X9_step : pMok mX9_step 0 := ⟨by decide +kernel, wsA_in (tb_3 (List.mem_of_getElem? (i := 179) rfl)) rfl, ii_X9, by decide +kernel, by decide⟩
theorem im_X9_step : Cond.instanceMethod yX9_step ∈ wsA := wsA_in (tb_3 (List.mem_of_getElem? (i := 177) rfl)) rfl
theorem se_X9_step : Cond.selects RX9 yX9_step yX9_step ∈ wsA := wsA_in (tb_3 (List.mem_of_getElem? (i := 178) rfl)) rfl
abbrev mX9_value : pM := (yX9_value, cX9_value, 1, (some .long))
theorem ok_X9_value : pMok mX9_value 0 := ⟨by decide +kernel, wsA_in (tb_3 (List.mem_of_getElem? (i := 191) rfl)) rfl, ii_X9, by decide +kernel, by decide⟩
theorem im_X9_value : Cond.instanceMethod yX9_value ∈ wsA := wsA_in (tb_3 (List.mem_of_getElem? (i := 189) rfl)) rfl
theorem se_X9_value : Cond.selects RX9 yX9_value yX9_value ∈ wsA := wsA_in (tb_3 (List.mem_of_getElem? (i := 190) rfl)) rfl
abbrev mX9_wordKind : pM := (yX9_wordKind, cX9_wordKind, 7, (some .int))
theorem ok_X9_wordKind : pMok mX9_wordKind 1 := ⟨by decide +kernel, wsA_in (tb_3 (List.mem_of_getElem? (i := 47) rfl)) rfl, ii_X9, by decide +kernel, by decide⟩
theorem sm_X9_wordKind : Cond.static yX9_wordKind ∈ wsA := wsA_in (tb_3 (List.mem_of_getElem? (i := 46) rfl)) rfl

theorem mw_max : Cond.code Lib.Math.max.name Lib.Math.max.code 2 (some .int) ∈ wsA := wsA_in (tb_1 (List.mem_of_getElem? (i := 153) rfl)) rfl
theorem mw_min : Cond.code Lib.Math.min.name Lib.Math.min.code 2 (some .int) ∈ wsA := wsA_in (tb_2 (List.mem_of_getElem? (i := 150) rfl)) rfl
section PMATH
variable {M : pM} {d pc idx : Nat} {ls st : List pV} {σ : pS}
theorem s_mmax {x y : Int} (hd1' : 1 ≤ d) (hlk : Cond.methodLink M.1.cls idx yJ9_max_7cf53 ∈ wsA) (hst : (st.map pcat).sum ≤ 8) (hd : decode M.2.1 pc = .ok (.invokestatic idx, 3)) (hx : inR x) (hy : inR y) : pStep M d pc ls ((0, y) :: (0, x) :: st) σ (pc + 3) ls ((0, max x y) :: st) σ := by
  refine ⟨pLe.rf σ, ?_⟩
  intro p l e R s m args below meth c H locs cells slots Q g lsA hC hU hS hH hl' hd1 hd2 hc1 hc2 hE
  have hts := hC.2.2.2.2.2.1
  refine va_mmax hC.1 hC.2.1 (hC.2.2.2.1.trans hl'.1.symm) hC.2.2.2.2.1 (hts _ hlk) (hts _ sm_J9_max_7cf53) (hts _ ii_J9) (hts _ mw_max) (by omega) (by rw [pcat_sum]; omega) (by omega) (by omega) hd ?_
  have := hE lsA H locs hS hH hl'
  rw [Nat.sub_self, Nat.sub_self, Nat.add_zero, Nat.add_zero] at this
  have e : (if Int32.ofInt x < Int32.ofInt y then Int32.ofInt y else Int32.ofInt x) = Int32.ofInt (max x y) := by
    by_cases h : x < y
    · rw [if_pos ((i32_lt hx hy).mpr h), Int.max_eq_right (by omega)]
    · rw [if_neg (fun z => h ((i32_lt hx hy).mp z)), Int.max_eq_left (by omega)]
  rw [e]
  exact this
theorem s_mmin {x y : Int} (hd1' : 1 ≤ d) (hlk : Cond.methodLink M.1.cls idx yJ9_min_7cf53 ∈ wsA) (hst : (st.map pcat).sum ≤ 8) (hd : decode M.2.1 pc = .ok (.invokestatic idx, 3)) (hx : inR x) (hy : inR y) : pStep M d pc ls ((0, y) :: (0, x) :: st) σ (pc + 3) ls ((0, min x y) :: st) σ := by
  refine ⟨pLe.rf σ, ?_⟩
  intro p l e R s m args below meth c H locs cells slots Q g lsA hC hU hS hH hl' hd1 hd2 hc1 hc2 hE
  have hts := hC.2.2.2.2.2.1
  refine va_mmin hC.1 hC.2.1 (hC.2.2.2.1.trans hl'.1.symm) hC.2.2.2.2.1 (hts _ hlk) (hts _ sm_J9_min_7cf53) (hts _ ii_J9) (hts _ mw_min) (by omega) (by rw [pcat_sum]; omega) (by omega) (by omega) hd ?_
  have := hE lsA H locs hS hH hl'
  rw [Nat.sub_self, Nat.sub_self, Nat.add_zero, Nat.add_zero] at this
  have e : (if Int32.ofInt y < Int32.ofInt x then Int32.ofInt y else Int32.ofInt x) = Int32.ofInt (min x y) := by
    by_cases h : y < x
    · rw [if_pos ((i32_lt hy hx).mpr h), Int.min_eq_right (by omega)]
    · rw [if_neg (fun z => h ((i32_lt hy hx).mp z)), Int.min_eq_left (by omega)]
  rw [e]
  exact this
end PMATH

