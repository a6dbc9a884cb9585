theorem co_X2_121_X0 : CWO RX2 121 RX0 "TideTreaty$Plain" yX6_holds yX6_holds cX6_holds 2 (some (.int)) 1 := ⟨cd_X6_holds, ml_X2_121, sm_X6_X6_holds, im_X6_holds, se_X0_X6_holds_X6_holds, im_X6_holds, in_X6, ⟨_, _, _, cd_X6_holds⟩, by decide +kernel⟩
theorem co_X2_121_X1 : CWO RX2 121 RX1 "TideTreaty$Plain" yX6_holds yX1_holds cX1_holds 2 (some (.int)) 1 := ⟨cd_X1_holds, ml_X2_121, sm_X6_X6_holds, im_X6_holds, se_X1_X6_holds_X1_holds, im_X1_holds, in_X1, ⟨_, _, _, cd_X6_holds⟩, by decide +kernel⟩
theorem co_X2_121_X3 : CWO RX2 121 RX3 "TideTreaty$Plain" yX6_holds yX3_holds cX3_holds 2 (some (.int)) 1 := ⟨cd_X3_holds, ml_X2_121, sm_X6_X6_holds, im_X6_holds, se_X3_X6_holds_X3_holds, im_X3_holds, in_X3, ⟨_, _, _, cd_X6_holds⟩, by decide +kernel⟩
theorem co_X2_121_X4 : CWO RX2 121 RX4 "TideTreaty$Plain" yX6_holds yX5_holds cX5_holds 2 (some (.int)) 1 := ⟨cd_X5_holds, ml_X2_121, sm_X6_X6_holds, im_X6_holds, se_X4_X6_holds_X5_holds, im_X5_holds, in_X5, ⟨_, _, _, cd_X6_holds⟩, by decide +kernel⟩
theorem co_X2_121_X5 : CWO RX2 121 RX5 "TideTreaty$Plain" yX6_holds yX5_holds cX5_holds 2 (some (.int)) 1 := ⟨cd_X5_holds, ml_X2_121, sm_X6_X6_holds, im_X6_holds, se_X5_X6_holds_X5_holds, im_X5_holds, in_X5, ⟨_, _, _, cd_X6_holds⟩, by decide +kernel⟩
theorem co_X2_121_X6 : CWO RX2 121 RX6 "TideTreaty$Plain" yX6_holds yX6_holds cX6_holds 2 (some (.int)) 1 := ⟨cd_X6_holds, ml_X2_121, sm_X6_X6_holds, im_X6_holds, se_X6_X6_holds_X6_holds, im_X6_holds, in_X6, ⟨_, _, _, cd_X6_holds⟩, by decide +kernel⟩
theorem co_X2_129_X0 : CWO RX2 129 RX0 "TideTreaty$Plain" yX6_due yX0_due cX0_due 3 (some (.int)) 2 := ⟨cd_X0_due, ml_X2_129, sm_X6_X6_due, im_X6_due, se_X0_X6_due_X0_due, im_X0_due, in_X0, ⟨_, _, _, cd_X6_due⟩, by decide +kernel⟩
theorem co_X2_129_X1 : CWO RX2 129 RX1 "TideTreaty$Plain" yX6_due yX6_due cX6_due 3 (some (.int)) 2 := ⟨cd_X6_due, ml_X2_129, sm_X6_X6_due, im_X6_due, se_X1_X6_due_X6_due, im_X6_due, in_X6, ⟨_, _, _, cd_X6_due⟩, by decide +kernel⟩
theorem co_X2_129_X3 : CWO RX2 129 RX3 "TideTreaty$Plain" yX6_due yX0_due cX0_due 3 (some (.int)) 2 := ⟨cd_X0_due, ml_X2_129, sm_X6_X6_due, im_X6_due, se_X3_X6_due_X0_due, im_X0_due, in_X0, ⟨_, _, _, cd_X6_due⟩, by decide +kernel⟩
theorem co_X2_129_X4 : CWO RX2 129 RX4 "TideTreaty$Plain" yX6_due yX6_due cX6_due 3 (some (.int)) 2 := ⟨cd_X6_due, ml_X2_129, sm_X6_X6_due, im_X6_due, se_X4_X6_due_X6_due, im_X6_due, in_X6, ⟨_, _, _, cd_X6_due⟩, by decide +kernel⟩
theorem co_X2_129_X5 : CWO RX2 129 RX5 "TideTreaty$Plain" yX6_due yX6_due cX6_due 3 (some (.int)) 2 := ⟨cd_X6_due, ml_X2_129, sm_X6_X6_due, im_X6_due, se_X5_X6_due_X6_due, im_X6_due, in_X6, ⟨_, _, _, cd_X6_due⟩, by decide +kernel⟩
theorem co_X2_129_X6 : CWO RX2 129 RX6 "TideTreaty$Plain" yX6_due yX6_due cX6_due 3 (some (.int)) 2 := ⟨cd_X6_due, ml_X2_129, sm_X6_X6_due, im_X6_due, se_X6_X6_due_X6_due, im_X6_due, in_X6, ⟨_, _, _, cd_X6_due⟩, by decide +kernel⟩
theorem co_X2_95_X0 : CWO RX2 95 RX0 "TideTreaty$Plain" yX6_costs yX0_costs cX0_costs 2 (some (.int)) 1 := ⟨cd_X0_costs, ml_X2_95, sm_X6_X6_costs, im_X6_costs, se_X0_X6_costs_X0_costs, im_X0_costs, in_X0, ⟨_, _, _, cd_X6_costs⟩, by decide +kernel⟩
theorem co_X2_95_X1 : CWO RX2 95 RX1 "TideTreaty$Plain" yX6_costs yX6_costs cX6_costs 2 (some (.int)) 1 := ⟨cd_X6_costs, ml_X2_95, sm_X6_X6_costs, im_X6_costs, se_X1_X6_costs_X6_costs, im_X6_costs, in_X6, ⟨_, _, _, cd_X6_costs⟩, by decide +kernel⟩
theorem co_X2_95_X3 : CWO RX2 95 RX3 "TideTreaty$Plain" yX6_costs yX3_costs cX3_costs 2 (some (.int)) 1 := ⟨cd_X3_costs, ml_X2_95, sm_X6_X6_costs, im_X6_costs, se_X3_X6_costs_X3_costs, im_X3_costs, in_X3, ⟨_, _, _, cd_X6_costs⟩, by decide +kernel⟩
theorem co_X2_95_X4 : CWO RX2 95 RX4 "TideTreaty$Plain" yX6_costs yX4_costs cX4_costs 2 (some (.int)) 1 := ⟨cd_X4_costs, ml_X2_95, sm_X6_X6_costs, im_X6_costs, se_X4_X6_costs_X4_costs, im_X4_costs, in_X4, ⟨_, _, _, cd_X6_costs⟩, by decide +kernel⟩
theorem co_X2_95_X5 : CWO RX2 95 RX5 "TideTreaty$Plain" yX6_costs yX6_costs cX6_costs 2 (some (.int)) 1 := ⟨cd_X6_costs, ml_X2_95, sm_X6_X6_costs, im_X6_costs, se_X5_X6_costs_X6_costs, im_X6_costs, in_X6, ⟨_, _, _, cd_X6_costs⟩, by decide +kernel⟩
theorem co_X2_95_X6 : CWO RX2 95 RX6 "TideTreaty$Plain" yX6_costs yX6_costs cX6_costs 2 (some (.int)) 1 := ⟨cd_X6_costs, ml_X2_95, sm_X6_X6_costs, im_X6_costs, se_X6_X6_costs_X6_costs, im_X6_costs, in_X6, ⟨_, _, _, cd_X6_costs⟩, by decide +kernel⟩
theorem cv_X2_115 : CWV RX2 115 RX10 yX10_isBreached cX10_isBreached 2 (some (.boolean)) 1 := ⟨cd_X10_isBreached, im_X10_isBreached, se_X10_X10_isBreached_X10_isBreached, in_X10, ml_X2_115, by decide +kernel⟩
theorem cv_X2_118 : CWV RX2 118 RX9 yX9_runsIn cX9_runsIn 2 (some (.boolean)) 1 := ⟨cd_X9_runsIn, im_X9_runsIn, se_X9_X9_runsIn_X9_runsIn, in_X9, ml_X2_118, by decide +kernel⟩
theorem cv_X2_125 : CWV RX2 125 RX9 yX9_cellBits cX9_cellBits 1 (some (.int)) 0 := ⟨cd_X9_cellBits, im_X9_cellBits, se_X9_X9_cellBits_X9_cellBits, in_X9, ml_X2_125, by decide +kernel⟩
theorem cv_X2_139 : CWV RX2 139 RX2 yX2_payDues cX2_payDues 5 none 1 := ⟨cd_X2_payDues, im_X2_payDues, se_X2_X2_payDues_X2_payDues, in_X2, ml_X2_139, by decide +kernel⟩
theorem cv_X2_143 : CWV RX2 143 RX2 yX2_guards cX2_guards 7 (some (.int)) 2 := ⟨cd_X2_guards, im_X2_guards, se_X2_X2_guards_X2_guards, in_X2, ml_X2_143, by decide +kernel⟩
theorem cv_X2_150 : CWV RX2 150 RX2 yX2_water cX2_water 9 (some (.int)) 4 := ⟨cd_X2_water, im_X2_water, se_X2_X2_water_X2_water, in_X2, ml_X2_150, by decide +kernel⟩
theorem cv_X2_154 : CWV RX2 154 RX10 yX10_flood cX10_flood 2 none 1 := ⟨cd_X10_flood, im_X10_flood, se_X10_X10_flood_X10_flood, in_X10, ml_X2_154, by decide +kernel⟩
theorem cv_X2_158 : CWV RX2 158 RX10 yX10_isLost cX10_isLost 2 (some (.boolean)) 1 := ⟨cd_X10_isLost, im_X10_isLost, se_X10_X10_isLost_X10_isLost, in_X10, ml_X2_158, by decide +kernel⟩
theorem cv_X2_59 : CWV RX2 59 RX2 yX2_setCell cX2_setCell 5 none 4 := ⟨cd_X2_setCell, im_X2_setCell, se_X2_X2_setCell_X2_setCell, in_X2, ml_X2_59, by decide +kernel⟩
theorem cv_X2_69 : CWV RX2 69 RX9 yX9_copyOf cX9_copyOf 2 none 1 := ⟨cd_X9_copyOf, im_X9_copyOf, se_X9_X9_copyOf_X9_copyOf, in_X9, ml_X2_69, by decide +kernel⟩
set_option maxHeartbeats 4000000 in
set_option maxRecDepth 100000 in
theorem c_X10_copyOf (Γ : GG) (l : Launch) (y : Nat → Nat) (Y : YrV) (z : Nat → Nat) (Z : YrV)  : Cv Γ l yX10_copyOf cX10_copyOf 2 none 1 26 0 0 [.ref (y 0), .ref (z 0)] [bYr Γ y Y, bYr Γ z Z] (fun (u : YrV) => u = Z) (fun (u : YrV) => [bYr Γ y u, bYr Γ z Z]) := by
  refine Cv.of rfl (by decide) (Nat.le_of_ble_eq_true rfl) ?_
  intro pp ee ss mm bb me cd AA QQ XX hnm hA hP hD fin ls hl
  obtain ⟨zx, zb, hml, hown, hts, hK⟩ := id XX
  have hS : va_S AA ss.heap ss.heap [] := va_S.rf
  have hl : lv_has ls 2 [(0, .ref (y 0)), (1, .ref (z 0))] := hl
  refine lv_aload_n zx zb dX10_copyOf_0 rfl (lv_at hl 0 rfl) ?_
  refine lv_aload_n zx zb dX10_copyOf_1 rfl (lv_at hl 1 rfl) ?_
  refine g_get (v := .int Z.1) XX hP 1 0 rfl rfl rfl iwX10 0 (by decide) fl_X10_18 rfl dX10_copyOf_2 ?_
  refine g_put (v := .int Z.1) (blk' := bYr Γ y (Z.1, Y.2.1, Y.2.2.1, Y.2.2.2.1, Y.2.2.2.2)) (bs' := [bYr Γ y (Z.1, Y.2.1, Y.2.2.1, Y.2.2.2.1, Y.2.2.2.2), bYr Γ z Z]) XX hP hD hS 0 0 rfl rfl rfl iwX10 tyX10_ok nmX10 0 (by decide) fl_X10_18 rfl rfl rfl (Nat.le_of_ble_eq_true rfl) rfl rfl rfl dX10_copyOf_5 (fun H locs hP hD hS => ?_)
  refine lv_aload_n zx zb dX10_copyOf_8 rfl (lv_at hl 0 rfl) ?_
  refine lv_aload_n zx zb dX10_copyOf_9 rfl (lv_at hl 1 rfl) ?_
  refine g_get (v := .int Z.2.1) XX hP 1 0 rfl rfl rfl iwX10 1 (by decide) fl_X10_22 rfl dX10_copyOf_10 ?_
  refine g_put (v := .int Z.2.1) (blk' := bYr Γ y (Z.1, Z.2.1, Y.2.2.1, Y.2.2.2.1, Y.2.2.2.2)) (bs' := [bYr Γ y (Z.1, Z.2.1, Y.2.2.1, Y.2.2.2.1, Y.2.2.2.2), bYr Γ z Z]) XX hP hD hS 0 0 rfl rfl rfl iwX10 tyX10_ok nmX10 1 (by decide) fl_X10_22 rfl rfl rfl (Nat.le_of_ble_eq_true rfl) rfl rfl rfl dX10_copyOf_13 (fun H locs hP hD hS => ?_)
  refine lv_aload_n zx zb dX10_copyOf_16 rfl (lv_at hl 0 rfl) ?_
  refine lv_aload_n zx zb dX10_copyOf_17 rfl (lv_at hl 1 rfl) ?_
  refine g_get (v := .int Z.2.2.1) XX hP 1 0 rfl rfl rfl iwX10 2 (by decide) fl_X10_25 rfl dX10_copyOf_18 ?_
  refine g_put (v := .int Z.2.2.1) (blk' := bYr Γ y (Z.1, Z.2.1, Z.2.2.1, Y.2.2.2.1, Y.2.2.2.2)) (bs' := [bYr Γ y (Z.1, Z.2.1, Z.2.2.1, Y.2.2.2.1, Y.2.2.2.2), bYr Γ z Z]) XX hP hD hS 0 0 rfl rfl rfl iwX10 tyX10_ok nmX10 2 (by decide) fl_X10_25 rfl rfl rfl (Nat.le_of_ble_eq_true rfl) rfl rfl rfl dX10_copyOf_21 (fun H locs hP hD hS => ?_)
  refine lv_aload_n zx zb dX10_copyOf_24 rfl (lv_at hl 1 rfl) ?_
  refine g_get (v := .ref (z 1)) XX hP 1 0 rfl rfl rfl iwX10 3 (by decide) fl_X10_9 rfl dX10_copyOf_25 ?_
  refine lv_iconst (v := nI 0) zx zb dX10_copyOf_28 (by decide) ?_
  refine lv_aload_n zx zb dX10_copyOf_29 rfl (lv_at hl 0 rfl) ?_
  refine g_get (v := .ref (y 1)) XX hP 0 0 rfl rfl rfl iwX10 3 (by decide) fl_X10_9 rfl dX10_copyOf_30 ?_
  refine lv_iconst (v := nI 0) zx zb dX10_copyOf_33 (by decide) ?_
  refine lv_bipush (v := nI 8) zx zb dX10_copyOf_34 (by decide) ?_
  refine g_copy (rest := []) (N := 8) (blk' := bYr Γ y (Z.1, Z.2.1, Z.2.2.1, Z.2.2.2.1, Y.2.2.2.2)) (bs' := [bYr Γ y (Z.1, Z.2.1, Z.2.2.1, Z.2.2.2.1, Y.2.2.2.2), bYr Γ z Z]) XX hP hD hS hl.1 (by decide) (by decide) 1 1 0 1 rfl rfl rfl rfl (by decide) rfl rfl ml_X10_28 (Nat.le_of_ble_eq_true rfl) dX10_copyOf_36 (fun H locs hP hD hS => ?_)
  refine lv_aload_n zx zb dX10_copyOf_39 rfl (lv_at hl 1 rfl) ?_
  refine g_get (v := .ref (z 2)) XX hP 1 0 rfl rfl rfl iwX10 4 (by decide) fl_X10_15 rfl dX10_copyOf_40 ?_
  refine lv_iconst (v := nI 0) zx zb dX10_copyOf_43 (by decide) ?_
  refine lv_aload_n zx zb dX10_copyOf_44 rfl (lv_at hl 0 rfl) ?_
  refine g_get (v := .ref (y 2)) XX hP 0 0 rfl rfl rfl iwX10 4 (by decide) fl_X10_15 rfl dX10_copyOf_45 ?_
  refine lv_iconst (v := nI 0) zx zb dX10_copyOf_48 (by decide) ?_
  refine lv_bipush (v := nI 8) zx zb dX10_copyOf_49 (by decide) ?_
  refine g_copy (rest := []) (N := 8) (blk' := bYr Γ y (Z.1, Z.2.1, Z.2.2.1, Z.2.2.2.1, Z.2.2.2.2)) (bs' := [bYr Γ y (Z.1, Z.2.1, Z.2.2.1, Z.2.2.2.1, Z.2.2.2.2), bYr Γ z Z]) XX hP hD hS hl.1 (by decide) (by decide) 1 2 0 2 rfl rfl rfl rfl (by decide) rfl rfl ml_X10_28 (Nat.le_of_ble_eq_true rfl) dX10_copyOf_51 (fun H locs hP hD hS => ?_)
  exact fin _ _ (Z.1, Z.2.1, Z.2.2.1, Z.2.2.2.1, Z.2.2.2.2) 54 _ dX10_copyOf_54 (rfl) hP hD hS

set_option maxHeartbeats 4000000 in
set_option maxRecDepth 100000 in
theorem c_X9_copyOf (Γ : GG) (l : Launch) (c : Nat → Nat) (d : Nat → Nat) (k : Nat → Nat) (tr : Nat → TrV) (tr2 : Nat → TrV) (i : Nat) (hi : i < 6) : Cv Γ l yX9_copyOf cX9_copyOf 2 none 0 0 0 0 [.ref (c (6 + i)), .ref (d (6 + i))] [bTs Γ c k tr, bTs Γ d k tr2] (fun (u : Nat → TrV) => u = va_up tr i (tr2 i)) (fun (u : Nat → TrV) => [bTs Γ c k u, bTs Γ d k tr2]) := by
  refine Cv.of rfl (by decide) (Nat.le_of_ble_eq_true rfl) ?_
  intro pp ee ss mm bb me cd AA QQ XX hnm hA hP hD fin ls hl
  obtain ⟨zx, zb, hml, hown, hts, hK⟩ := id XX
  have hS : va_S AA ss.heap ss.heap [] := va_S.rf
  have hl : lv_has ls 2 [(0, .ref (c (6 + i))), (1, .ref (d (6 + i)))] := hl
  refine lv_aload_n zx zb dX9_copyOf_0 rfl (lv_at hl 0 rfl) ?_
  refine lv_aload_n zx zb dX9_copyOf_1 rfl (lv_at hl 1 rfl) ?_
  refine g_get (v := .ref (k ((tr2 i).1))) XX hP 1 i rfl (bTs_at Γ d k tr2 (hi)) rfl iwX9 0 (by decide) fl_X9_7 rfl dX9_copyOf_2 ?_
  refine g_put (v := .ref (k ((tr2 i).1))) (blk' := bTs Γ c k (va_up tr i ((tr2 i).1, (tr i).2.1, (tr i).2.2.1, (tr i).2.2.2.1, (tr i).2.2.2.2.1, (tr i).2.2.2.2.2.1, (tr i).2.2.2.2.2.2.1, (tr i).2.2.2.2.2.2.2))) (bs' := [bTs Γ c k (va_up tr i ((tr2 i).1, (tr i).2.1, (tr i).2.2.1, (tr i).2.2.2.1, (tr i).2.2.2.2.1, (tr i).2.2.2.2.2.1, (tr i).2.2.2.2.2.2.1, (tr i).2.2.2.2.2.2.2)), bTs Γ d k tr2]) XX hP hD hS 0 i rfl (bTs_at Γ c k tr (hi)) rfl iwX9 tyX9_ok nmX9 0 (by decide) fl_X9_7 rfl rfl rfl (Nat.le_of_ble_eq_true rfl) rfl (bTs_set (t := ((tr2 i).1, (tr i).2.1, (tr i).2.2.1, (tr i).2.2.2.1, (tr i).2.2.2.2.1, (tr i).2.2.2.2.2.1, (tr i).2.2.2.2.2.2.1, (tr i).2.2.2.2.2.2.2)) (hi)) rfl dX9_copyOf_5 (fun H locs hP hD hS => ?_)
  refine lv_aload_n zx zb dX9_copyOf_8 rfl (lv_at hl 0 rfl) ?_
  refine lv_aload_n zx zb dX9_copyOf_9 rfl (lv_at hl 1 rfl) ?_
  refine g_get (v := .int ((tr2 i).2.1)) XX hP 1 i rfl (bTs_at Γ d k tr2 (hi)) rfl iwX9 1 (by decide) fl_X9_13 rfl dX9_copyOf_10 ?_
  refine g_put (v := .int ((tr2 i).2.1)) (blk' := bTs Γ c k (va_up tr i ((tr2 i).1, (tr2 i).2.1, (tr i).2.2.1, (tr i).2.2.2.1, (tr i).2.2.2.2.1, (tr i).2.2.2.2.2.1, (tr i).2.2.2.2.2.2.1, (tr i).2.2.2.2.2.2.2))) (bs' := [bTs Γ c k (va_up tr i ((tr2 i).1, (tr2 i).2.1, (tr i).2.2.1, (tr i).2.2.2.1, (tr i).2.2.2.2.1, (tr i).2.2.2.2.2.1, (tr i).2.2.2.2.2.2.1, (tr i).2.2.2.2.2.2.2)), bTs Γ d k tr2]) XX hP hD hS 0 i rfl (bTs_at2 Γ c k tr ((tr2 i).1, (tr i).2.1, (tr i).2.2.1, (tr i).2.2.2.1, (tr i).2.2.2.2.1, (tr i).2.2.2.2.2.1, (tr i).2.2.2.2.2.2.1, (tr i).2.2.2.2.2.2.2) (hi)) rfl iwX9 tyX9_ok nmX9 1 (by decide) fl_X9_13 rfl rfl rfl (Nat.le_of_ble_eq_true rfl) rfl (bTs_set2 (t := ((tr2 i).1, (tr2 i).2.1, (tr i).2.2.1, (tr i).2.2.2.1, (tr i).2.2.2.2.1, (tr i).2.2.2.2.2.1, (tr i).2.2.2.2.2.2.1, (tr i).2.2.2.2.2.2.2)) (hi)) rfl dX9_copyOf_13 (fun H locs hP hD hS => ?_)
  refine lv_aload_n zx zb dX9_copyOf_16 rfl (lv_at hl 0 rfl) ?_
  refine lv_aload_n zx zb dX9_copyOf_17 rfl (lv_at hl 1 rfl) ?_
  refine g_get (v := .int ((tr2 i).2.2.1)) XX hP 1 i rfl (bTs_at Γ d k tr2 (hi)) rfl iwX9 2 (by decide) fl_X9_17 rfl dX9_copyOf_18 ?_
  refine g_put (v := .int ((tr2 i).2.2.1)) (blk' := bTs Γ c k (va_up tr i ((tr2 i).1, (tr2 i).2.1, (tr2 i).2.2.1, (tr i).2.2.2.1, (tr i).2.2.2.2.1, (tr i).2.2.2.2.2.1, (tr i).2.2.2.2.2.2.1, (tr i).2.2.2.2.2.2.2))) (bs' := [bTs Γ c k (va_up tr i ((tr2 i).1, (tr2 i).2.1, (tr2 i).2.2.1, (tr i).2.2.2.1, (tr i).2.2.2.2.1, (tr i).2.2.2.2.2.1, (tr i).2.2.2.2.2.2.1, (tr i).2.2.2.2.2.2.2)), bTs Γ d k tr2]) XX hP hD hS 0 i rfl (bTs_at2 Γ c k tr ((tr2 i).1, (tr2 i).2.1, (tr i).2.2.1, (tr i).2.2.2.1, (tr i).2.2.2.2.1, (tr i).2.2.2.2.2.1, (tr i).2.2.2.2.2.2.1, (tr i).2.2.2.2.2.2.2) (hi)) rfl iwX9 tyX9_ok nmX9 2 (by decide) fl_X9_17 rfl rfl rfl (Nat.le_of_ble_eq_true rfl) rfl (bTs_set2 (t := ((tr2 i).1, (tr2 i).2.1, (tr2 i).2.2.1, (tr i).2.2.2.1, (tr i).2.2.2.2.1, (tr i).2.2.2.2.2.1, (tr i).2.2.2.2.2.2.1, (tr i).2.2.2.2.2.2.2)) (hi)) rfl dX9_copyOf_21 (fun H locs hP hD hS => ?_)
  refine lv_aload_n zx zb dX9_copyOf_24 rfl (lv_at hl 0 rfl) ?_
  refine lv_aload_n zx zb dX9_copyOf_25 rfl (lv_at hl 1 rfl) ?_
  refine g_get (v := .int ((tr2 i).2.2.2.1)) XX hP 1 i rfl (bTs_at Γ d k tr2 (hi)) rfl iwX9 3 (by decide) fl_X9_20 rfl dX9_copyOf_26 ?_
  refine g_put (v := .int ((tr2 i).2.2.2.1)) (blk' := bTs Γ c k (va_up tr i ((tr2 i).1, (tr2 i).2.1, (tr2 i).2.2.1, (tr2 i).2.2.2.1, (tr i).2.2.2.2.1, (tr i).2.2.2.2.2.1, (tr i).2.2.2.2.2.2.1, (tr i).2.2.2.2.2.2.2))) (bs' := [bTs Γ c k (va_up tr i ((tr2 i).1, (tr2 i).2.1, (tr2 i).2.2.1, (tr2 i).2.2.2.1, (tr i).2.2.2.2.1, (tr i).2.2.2.2.2.1, (tr i).2.2.2.2.2.2.1, (tr i).2.2.2.2.2.2.2)), bTs Γ d k tr2]) XX hP hD hS 0 i rfl (bTs_at2 Γ c k tr ((tr2 i).1, (tr2 i).2.1, (tr2 i).2.2.1, (tr i).2.2.2.1, (tr i).2.2.2.2.1, (tr i).2.2.2.2.2.1, (tr i).2.2.2.2.2.2.1, (tr i).2.2.2.2.2.2.2) (hi)) rfl iwX9 tyX9_ok nmX9 3 (by decide) fl_X9_20 rfl rfl rfl (Nat.le_of_ble_eq_true rfl) rfl (bTs_set2 (t := ((tr2 i).1, (tr2 i).2.1, (tr2 i).2.2.1, (tr2 i).2.2.2.1, (tr i).2.2.2.2.1, (tr i).2.2.2.2.2.1, (tr i).2.2.2.2.2.2.1, (tr i).2.2.2.2.2.2.2)) (hi)) rfl dX9_copyOf_29 (fun H locs hP hD hS => ?_)
  refine lv_aload_n zx zb dX9_copyOf_32 rfl (lv_at hl 0 rfl) ?_
  refine lv_aload_n zx zb dX9_copyOf_33 rfl (lv_at hl 1 rfl) ?_
  refine g_get (v := .int ((tr2 i).2.2.2.2.1)) XX hP 1 i rfl (bTs_at Γ d k tr2 (hi)) rfl iwX9 4 (by decide) fl_X9_23 rfl dX9_copyOf_34 ?_
  refine g_put (v := .int ((tr2 i).2.2.2.2.1)) (blk' := bTs Γ c k (va_up tr i ((tr2 i).1, (tr2 i).2.1, (tr2 i).2.2.1, (tr2 i).2.2.2.1, (tr2 i).2.2.2.2.1, (tr i).2.2.2.2.2.1, (tr i).2.2.2.2.2.2.1, (tr i).2.2.2.2.2.2.2))) (bs' := [bTs Γ c k (va_up tr i ((tr2 i).1, (tr2 i).2.1, (tr2 i).2.2.1, (tr2 i).2.2.2.1, (tr2 i).2.2.2.2.1, (tr i).2.2.2.2.2.1, (tr i).2.2.2.2.2.2.1, (tr i).2.2.2.2.2.2.2)), bTs Γ d k tr2]) XX hP hD hS 0 i rfl (bTs_at2 Γ c k tr ((tr2 i).1, (tr2 i).2.1, (tr2 i).2.2.1, (tr2 i).2.2.2.1, (tr i).2.2.2.2.1, (tr i).2.2.2.2.2.1, (tr i).2.2.2.2.2.2.1, (tr i).2.2.2.2.2.2.2) (hi)) rfl iwX9 tyX9_ok nmX9 4 (by decide) fl_X9_23 rfl rfl rfl (Nat.le_of_ble_eq_true rfl) rfl (bTs_set2 (t := ((tr2 i).1, (tr2 i).2.1, (tr2 i).2.2.1, (tr2 i).2.2.2.1, (tr2 i).2.2.2.2.1, (tr i).2.2.2.2.2.1, (tr i).2.2.2.2.2.2.1, (tr i).2.2.2.2.2.2.2)) (hi)) rfl dX9_copyOf_37 (fun H locs hP hD hS => ?_)
  refine lv_aload_n zx zb dX9_copyOf_40 rfl (lv_at hl 0 rfl) ?_
  refine lv_aload_n zx zb dX9_copyOf_41 rfl (lv_at hl 1 rfl) ?_
  refine g_get (v := .int ((tr2 i).2.2.2.2.2.1)) XX hP 1 i rfl (bTs_at Γ d k tr2 (hi)) rfl iwX9 5 (by decide) fl_X9_26 rfl dX9_copyOf_42 ?_
  refine g_put (v := .int ((tr2 i).2.2.2.2.2.1)) (blk' := bTs Γ c k (va_up tr i ((tr2 i).1, (tr2 i).2.1, (tr2 i).2.2.1, (tr2 i).2.2.2.1, (tr2 i).2.2.2.2.1, (tr2 i).2.2.2.2.2.1, (tr i).2.2.2.2.2.2.1, (tr i).2.2.2.2.2.2.2))) (bs' := [bTs Γ c k (va_up tr i ((tr2 i).1, (tr2 i).2.1, (tr2 i).2.2.1, (tr2 i).2.2.2.1, (tr2 i).2.2.2.2.1, (tr2 i).2.2.2.2.2.1, (tr i).2.2.2.2.2.2.1, (tr i).2.2.2.2.2.2.2)), bTs Γ d k tr2]) XX hP hD hS 0 i rfl (bTs_at2 Γ c k tr ((tr2 i).1, (tr2 i).2.1, (tr2 i).2.2.1, (tr2 i).2.2.2.1, (tr2 i).2.2.2.2.1, (tr i).2.2.2.2.2.1, (tr i).2.2.2.2.2.2.1, (tr i).2.2.2.2.2.2.2) (hi)) rfl iwX9 tyX9_ok nmX9 5 (by decide) fl_X9_26 rfl rfl rfl (Nat.le_of_ble_eq_true rfl) rfl (bTs_set2 (t := ((tr2 i).1, (tr2 i).2.1, (tr2 i).2.2.1, (tr2 i).2.2.2.1, (tr2 i).2.2.2.2.1, (tr2 i).2.2.2.2.2.1, (tr i).2.2.2.2.2.2.1, (tr i).2.2.2.2.2.2.2)) (hi)) rfl dX9_copyOf_45 (fun H locs hP hD hS => ?_)
  refine lv_aload_n zx zb dX9_copyOf_48 rfl (lv_at hl 0 rfl) ?_
  refine lv_aload_n zx zb dX9_copyOf_49 rfl (lv_at hl 1 rfl) ?_
  refine g_get (v := .int ((tr2 i).2.2.2.2.2.2.1)) XX hP 1 i rfl (bTs_at Γ d k tr2 (hi)) rfl iwX9 6 (by decide) fl_X9_29 rfl dX9_copyOf_50 ?_
  refine g_put (v := .int ((tr2 i).2.2.2.2.2.2.1)) (blk' := bTs Γ c k (va_up tr i ((tr2 i).1, (tr2 i).2.1, (tr2 i).2.2.1, (tr2 i).2.2.2.1, (tr2 i).2.2.2.2.1, (tr2 i).2.2.2.2.2.1, (tr2 i).2.2.2.2.2.2.1, (tr i).2.2.2.2.2.2.2))) (bs' := [bTs Γ c k (va_up tr i ((tr2 i).1, (tr2 i).2.1, (tr2 i).2.2.1, (tr2 i).2.2.2.1, (tr2 i).2.2.2.2.1, (tr2 i).2.2.2.2.2.1, (tr2 i).2.2.2.2.2.2.1, (tr i).2.2.2.2.2.2.2)), bTs Γ d k tr2]) XX hP hD hS 0 i rfl (bTs_at2 Γ c k tr ((tr2 i).1, (tr2 i).2.1, (tr2 i).2.2.1, (tr2 i).2.2.2.1, (tr2 i).2.2.2.2.1, (tr2 i).2.2.2.2.2.1, (tr i).2.2.2.2.2.2.1, (tr i).2.2.2.2.2.2.2) (hi)) rfl iwX9 tyX9_ok nmX9 6 (by decide) fl_X9_29 rfl rfl rfl (Nat.le_of_ble_eq_true rfl) rfl (bTs_set2 (t := ((tr2 i).1, (tr2 i).2.1, (tr2 i).2.2.1, (tr2 i).2.2.2.1, (tr2 i).2.2.2.2.1, (tr2 i).2.2.2.2.2.1, (tr2 i).2.2.2.2.2.2.1, (tr i).2.2.2.2.2.2.2)) (hi)) rfl dX9_copyOf_53 (fun H locs hP hD hS => ?_)
  refine lv_aload_n zx zb dX9_copyOf_56 rfl (lv_at hl 0 rfl) ?_
  refine lv_aload_n zx zb dX9_copyOf_57 rfl (lv_at hl 1 rfl) ?_
  refine g_get (v := .int ((tr2 i).2.2.2.2.2.2.2)) XX hP 1 i rfl (bTs_at Γ d k tr2 (hi)) rfl iwX9 7 (by decide) fl_X9_32 rfl dX9_copyOf_58 ?_
  refine g_put (v := .int ((tr2 i).2.2.2.2.2.2.2)) (blk' := bTs Γ c k (va_up tr i ((tr2 i).1, (tr2 i).2.1, (tr2 i).2.2.1, (tr2 i).2.2.2.1, (tr2 i).2.2.2.2.1, (tr2 i).2.2.2.2.2.1, (tr2 i).2.2.2.2.2.2.1, (tr2 i).2.2.2.2.2.2.2))) (bs' := [bTs Γ c k (va_up tr i ((tr2 i).1, (tr2 i).2.1, (tr2 i).2.2.1, (tr2 i).2.2.2.1, (tr2 i).2.2.2.2.1, (tr2 i).2.2.2.2.2.1, (tr2 i).2.2.2.2.2.2.1, (tr2 i).2.2.2.2.2.2.2)), bTs Γ d k tr2]) XX hP hD hS 0 i rfl (bTs_at2 Γ c k tr ((tr2 i).1, (tr2 i).2.1, (tr2 i).2.2.1, (tr2 i).2.2.2.1, (tr2 i).2.2.2.2.1, (tr2 i).2.2.2.2.2.1, (tr2 i).2.2.2.2.2.2.1, (tr i).2.2.2.2.2.2.2) (hi)) rfl iwX9 tyX9_ok nmX9 7 (by decide) fl_X9_32 rfl rfl rfl (Nat.le_of_ble_eq_true rfl) rfl (bTs_set2 (t := ((tr2 i).1, (tr2 i).2.1, (tr2 i).2.2.1, (tr2 i).2.2.2.1, (tr2 i).2.2.2.2.1, (tr2 i).2.2.2.2.2.1, (tr2 i).2.2.2.2.2.2.1, (tr2 i).2.2.2.2.2.2.2)) (hi)) rfl dX9_copyOf_61 (fun H locs hP hD hS => ?_)
  exact fin _ _ (va_up tr i ((tr2 i).1, (tr2 i).2.1, (tr2 i).2.2.1, (tr2 i).2.2.2.1, (tr2 i).2.2.2.2.1, (tr2 i).2.2.2.2.2.1, (tr2 i).2.2.2.2.2.2.1, (tr2 i).2.2.2.2.2.2.2)) 64 _ dX9_copyOf_64 (rfl) hP hD hS

set_option maxHeartbeats 4000000 in
set_option maxRecDepth 100000 in
theorem c_X2_guards (Γ : GG) (l : Launch) (c : Nat → Nat) (k : Nat → Nat) (C : CoV) (tr : Nat → TrV) (y : Nat → Nat) (Y : YrV) (q : Int32) (htc : C.2.2.2.2.2.2.1 ≤ 6) (hkd : ∀ i, i < 6 → (tr i).1 < 6) : Ci Γ l yX2_guards cX2_guards 7 (some (.int)) 2 42 0 0 [.ref (c 0), .ref (y 0), .int q] [bCo Γ c k C, bTs Γ c k tr, bKd Γ k, bYr Γ y Y] (fun (r : Int32) (u : Unit) => r = coGuards C tr Y q (coTc C)) (fun (u : Unit) => [bCo Γ c k C, bTs Γ c k tr, bKd Γ k, bYr Γ y Y]) := by
  refine Ci.of (Or.inl rfl) (by decide) (Nat.le_of_ble_eq_true rfl) ?_
  intro pp ee ss mm bb me cd AA QQ XX hnm hA hP hD fin ls hl
  obtain ⟨zx, zb, hml, hown, hts, hK⟩ := id XX
  have hS : va_S AA ss.heap ss.heap [] := va_S.rf
  have hl : lv_has ls 7 [(0, .ref (c 0)), (1, .ref (y 0)), (2, .int q)] := hl
  refine lv_aload_n zx zb dX2_guards_0 rfl (lv_at hl 0 rfl) ?_
  refine lv_aload_n zx zb dX2_guards_1 rfl (lv_at hl 1 rfl) ?_
  refine g_get (v := .int Y.1) XX hP 3 0 rfl rfl rfl iwX10 0 (by decide) fl_X2_110 rfl dX2_guards_2 ?_
  refine call_Vi (As := [.int Y.1]) (rest := []) XX cv_X2_103 (c_X2_isSpring Γ l c k C Y.1 ) hP hD hS hA [0] (by decide) rfl (fun _ => rfl) 0 0 rfl rfl rfl rfl hl.1 rfl ⟨⟨by decide, by decide⟩, by decide, by decide⟩ (Nat.le_of_ble_eq_true rfl) dX2_guards_5 (fun r_5 u H locs hw hP hD hS => ?_)
  have hw := hw.symm
  subst hw
  have hP : bP Γ [bCo Γ c k C, bTs Γ c k tr, bKd Γ k, bYr Γ y Y] H := hP
  have hD : bD AA [bCo Γ c k C, bTs Γ c k tr, bKd Γ k, bYr Γ y Y] := hD
  refine lv_istore_n (lv' := [(3, .int (bI (coSpring C Y.1))), (0, .ref (c 0)), (1, .ref (y 0)), (2, .int q)]) zx zb dX2_guards_8 rfl hl (by decide) rfl (fun ls hl => ?_)
  refine lv_iconst (v := nI 0) zx zb dX2_guards_9 (by decide) ?_
  refine lv_istore (lv' := [(4, .int (nI 0)), (3, .int (bI (coSpring C Y.1))), (0, .ref (c 0)), (1, .ref (y 0)), (2, .int q)]) zx zb dX2_guards_10 hl (by decide) rfl (fun ls hl => ?_)
  refine lv_iconst (v := nI 0) zx zb dX2_guards_12 (by decide) ?_
  refine lv_istore (lv' := [(5, .int (nI 0)), (4, .int (nI 0)), (3, .int (bI (coSpring C Y.1))), (0, .ref (c 0)), (1, .ref (y 0)), (2, .int q)]) zx zb dX2_guards_13 hl (by decide) rfl (fun ls hl => ?_)
  have L15 : ∀ (nn : Nat) (i : Nat) (a : Int32), (i ≤ C.2.2.2.2.2.2.1) → (a = coGuards C tr Y q i) → C.2.2.2.2.2.2.1 - i < nn → ∀ (H : Heap) (locs : List Loc), bP Γ [bCo Γ c k C, bTs Γ c k tr, bKd Γ k, bYr Γ y Y] H → bD AA [bCo Γ c k C, bTs Γ c k tr, bKd Γ k, bYr Γ y Y] → va_S AA ss.heap H locs → ∀ (ls : Array Slot), lv_has ls 7 [(0, .ref (c 0)), (1, .ref (y 0)), (2, .int q), (3, .int (bI (coSpring C Y.1))), (4, .int a), (5, .int (nI i))] → W pp l ee { frames := 2, cells := 0, slots := 0, locals := 42 } ss mm [.ref (c 0), .ref (y 0), .int q].toArray bb me cd H locs 0 0 QQ (F0 mm 15 ls []) := by
    intro nn
    induction nn with
    | zero => intro i a hi ha hm; exact absurd hm (Nat.not_lt_zero _)
    | succ nn ih15 =>
      intro i a hi ha hm15 H locs hP hD hS ls hl
      refine lv_iload zx zb dX2_guards_15 (lv_at hl 5 rfl) ?_
      refine lv_aload_n zx zb dX2_guards_17 rfl (lv_at hl 0 rfl) ?_
      refine g_get (v := .int (nI (C.2.2.2.2.2.2.1))) XX hP 0 0 rfl rfl rfl iwX2 8 (by decide) fl_X2_53 rfl dX2_guards_18 ?_
      refine lv_icmp_ge (tgt := 86) zx zb dX2_guards_21 (by decide) (fun c_21 => ?_) (fun c_21 => ?_)
      · have c_21 : C.2.2.2.2.2.2.1 ≤ i := (nI_leI (a := C.2.2.2.2.2.2.1) (b := i) (by omega) (by omega)).mp c_21
        refine lv_iload zx zb dX2_guards_86 (lv_at hl 4 rfl) ?_
        exact fin _ _ a () 88 _ dX2_guards_88 (fun h => by cases h) (by have e : i = C.2.2.2.2.2.2.1 := (by omega); subst e; exact ha) hP hD hS
      · have c_21 : ¬ (C.2.2.2.2.2.2.1 ≤ i) := fun h => c_21 ((nI_leI (a := C.2.2.2.2.2.2.1) (b := i) (by omega) (by omega)).mpr h)
        refine lv_aload_n zx zb dX2_guards_24 rfl (lv_at hl 0 rfl) ?_
        refine g_get (v := .ref (c 5)) XX hP 0 0 rfl rfl rfl iwX2 7 (by decide) fl_X2_26 rfl dX2_guards_25 ?_
        refine lv_iload zx zb dX2_guards_28 (lv_at hl 5 rfl) ?_
        refine g_aald (i := i) (v := c (6 + i)) XX hP 0 5 4 rfl rfl rfl (by omega) (by decide) rfl dX2_guards_30 ?_
        refine lv_astore (lv' := [(6, .ref (c (6 + i))), (0, .ref (c 0)), (1, .ref (y 0)), (2, .int q), (3, .int (bI (coSpring C Y.1))), (4, .int a), (5, .int (nI i))]) zx zb dX2_guards_31 hl (by decide) rfl (fun ls hl => ?_)
        refine lv_aload_n zx zb dX2_guards_33 rfl (lv_at hl 2 rfl) ?_
        refine lv_iload zx zb dX2_guards_34 (lv_at hl 6 rfl) ?_
        refine call_Vi (As := [.int (nI i)]) (rest := []) XX cv_X2_115 (c_X10_isBreached Γ l y Y i (by omega)) hP hD hS hA [3] (by decide) rfl (fun _ => rfl) 3 0 rfl rfl rfl rfl hl.1 rfl ⟨⟨by decide, by decide⟩, by decide, by decide⟩ (Nat.le_of_ble_eq_true rfl) dX2_guards_36 (fun r_36 u H locs hw hP hD hS => ?_)
        have hw := hw.symm
        subst hw
        have hP : bP Γ [bCo Γ c k C, bTs Γ c k tr, bKd Γ k, bYr Γ y Y] H := hP
        have hD : bD AA [bCo Γ c k C, bTs Γ c k tr, bKd Γ k, bYr Γ y Y] := hD
        refine lv_if_ne (tgt := 80) zx zb dX2_guards_39 (by decide) (fun c_39 => ?_) (fun c_39 => ?_)
        · have c_39 : (yrBr Y i) = true := bI_ne c_39
          refine lv_iinc (v := nI (i + 1)) (lv' := [(5, .int (nI (i + 1))), (6, .ref (c (6 + i))), (0, .ref (c 0)), (1, .ref (y 0)), (2, .int q), (3, .int (bI (coSpring C Y.1))), (4, .int a)]) zx zb dX2_guards_80 hl (k := 6) rfl (nI_inc _ 1) (by decide) rfl (fun ls hl => ?_)
          refine lv_goto (tgt := 15) zx zb dX2_guards_83 (by decide) ?_
          exact ih15 (i + 1) a (by omega) (by first | (simp [coGuards, ha, c_39]; done) | (simp [coGuards, ha, c_39, c_51]; done) | (simp [coGuards, ha, c_39, c_51, Int32.not_le.mpr c_67]; done) | (simp [coGuards, ha, c_39, c_51, Int32.not_lt.mp c_67]; done)) (by omega) _ _ hP hD hS _ (lv_sub hl [2, 3, 4, 5, 6, 0] rfl)
        · have c_39 : (yrBr Y i) = false := bI_0.mp c_39
          refine lv_aload zx zb dX2_guards_42 (lv_at hl 0 rfl) ?_
          refine lv_aload_n zx zb dX2_guards_44 rfl (lv_at hl 2 rfl) ?_
          refine g_get (v := .int Y.1) XX hP 3 0 rfl rfl rfl iwX10 0 (by decide) fl_X2_110 rfl dX2_guards_45 ?_
          refine callR_Vi (As := [.int Y.1]) (rest := []) XX cv_X2_118 (c_X9_runsIn Γ l (c (6 + i)) k (tr i) Y.1 ) hP hD hS hA (one_mem (bs := [bCo Γ c k C, bTs Γ c k tr, bKd Γ k, bYr Γ y Y]) (k := 1) (j := i) rfl (bTs_at Γ c k tr (by omega))) (one_D _) 1 i rfl (bTs_at Γ c k tr (by omega)) rfl rfl hl.1 rfl ⟨⟨by decide, by decide⟩, by decide, by decide⟩ (Nat.le_of_ble_eq_true rfl) dX2_guards_48 (fun r_48 H locs hw hP hS => ?_)
          have hw := hw.symm
          subst hw
          refine lv_if_ne (tgt := 57) zx zb dX2_guards_51 (by decide) (fun c_51 => ?_) (fun c_51 => ?_)
          · have c_51 : (trRuns (tr i) Y.1) = true := bI_ne c_51
            refine lv_iload_n zx zb dX2_guards_57 rfl (lv_at hl 3 rfl) ?_
            refine lv_aload zx zb dX2_guards_58 (lv_at hl 0 rfl) ?_
            refine g_get (v := .ref (k ((tr i).1))) XX hP 1 i rfl (bTs_at Γ c k tr (by omega)) rfl iwX9 0 (by decide) fl_X2_73 rfl dX2_guards_60 ?_
            refine lv_iload_n zx zb dX2_guards_63 rfl (lv_at hl 4 rfl) ?_
            have K64 : ∀ (H : Heap) (locs : List Loc), bP Γ [bCo Γ c k C, bTs Γ c k tr, bKd Γ k, bYr Γ y Y] H → va_S AA ss.heap H locs → W pp l ee { frames := 2, cells := 0, slots := 0, locals := 42 } ss mm [.ref (c 0), .ref (y 0), .int q].toArray bb me cd H locs 0 0 QQ (F0 mm 67 ls [.int (kHolds ((tr i).1) (coSpring C Y.1)), .int q]) := by
              intro H locs hP hS
              refine lv_icmp_gt (tgt := 80) zx zb dX2_guards_67 (by decide) (fun c_67 => ?_) (fun c_67 => ?_)
              · have c_67 : (kHolds ((tr i).1) (coSpring C Y.1)) < q := c_67
                refine lv_iinc (v := nI (i + 1)) (lv' := [(5, .int (nI (i + 1))), (6, .ref (c (6 + i))), (0, .ref (c 0)), (1, .ref (y 0)), (2, .int q), (3, .int (bI (coSpring C Y.1))), (4, .int a)]) zx zb dX2_guards_80 hl (k := 6) rfl (nI_inc _ 1) (by decide) rfl (fun ls hl => ?_)
                refine lv_goto (tgt := 15) zx zb dX2_guards_83 (by decide) ?_
                exact ih15 (i + 1) a (by omega) (by first | (simp [coGuards, ha, c_39]; done) | (simp [coGuards, ha, c_39, c_51]; done) | (simp [coGuards, ha, c_39, c_51, Int32.not_le.mpr c_67]; done) | (simp [coGuards, ha, c_39, c_51, Int32.not_lt.mp c_67]; done)) (by omega) _ _ hP hD hS _ (lv_sub hl [2, 3, 4, 5, 6, 0] rfl)
              · have c_67 : ¬ ((kHolds ((tr i).1) (coSpring C Y.1)) < q) := c_67
                refine lv_iload zx zb dX2_guards_70 (lv_at hl 5 rfl) ?_
                refine lv_aload zx zb dX2_guards_72 (lv_at hl 0 rfl) ?_
                refine callR_Vi (As := []) (rest := [.int a]) XX cv_X2_125 (c_X9_cellBits Γ l (c (6 + i)) k (tr i) ) hP hD hS hA (one_mem (bs := [bCo Γ c k C, bTs Γ c k tr, bKd Γ k, bYr Γ y Y]) (k := 1) (j := i) rfl (bTs_at Γ c k tr (by omega))) (one_D _) 1 i rfl (bTs_at Γ c k tr (by omega)) rfl rfl hl.1 rfl ⟨⟨by decide, by decide⟩, by decide, by decide⟩ (Nat.le_of_ble_eq_true rfl) dX2_guards_74 (fun r_74 H locs hw hP hS => ?_)
                have hw := hw.symm
                subst hw
                refine lv_ior zx zb dX2_guards_77 ?_
                refine lv_istore (lv' := [(4, .int (a ||| (trBits (tr i)))), (6, .ref (c (6 + i))), (0, .ref (c 0)), (1, .ref (y 0)), (2, .int q), (3, .int (bI (coSpring C Y.1))), (5, .int (nI i))]) zx zb dX2_guards_78 hl (by decide) rfl (fun ls hl => ?_)
                refine lv_iinc (v := nI (i + 1)) (lv' := [(5, .int (nI (i + 1))), (4, .int (a ||| (trBits (tr i)))), (6, .ref (c (6 + i))), (0, .ref (c 0)), (1, .ref (y 0)), (2, .int q), (3, .int (bI (coSpring C Y.1)))]) zx zb dX2_guards_80 hl (k := 6) rfl (nI_inc _ 1) (by decide) rfl (fun ls hl => ?_)
                refine lv_goto (tgt := 15) zx zb dX2_guards_83 (by decide) ?_
                exact ih15 (i + 1) (a ||| (trBits (tr i))) (by omega) (by first | (simp [coGuards, ha, c_39]; done) | (simp [coGuards, ha, c_39, c_51]; done) | (simp [coGuards, ha, c_39, c_51, Int32.not_le.mpr c_67]; done) | (simp [coGuards, ha, c_39, c_51, Int32.not_lt.mp c_67]; done)) (by omega) _ _ hP hD hS _ (lv_sub hl [3, 4, 5, 6, 1, 0] rfl)
            have h6_64 : (tr i).1 < 6 := hkd i (by omega)
            rcases (show (tr i).1 = 0 ∨ (tr i).1 = 1 ∨ (tr i).1 = 2 ∨ (tr i).1 = 3 ∨ (tr i).1 = 4 ∨ (tr i).1 = 5 by omega) with h | h | h | h | h | h
            · refine callR_Oi (As := [.int (bI (coSpring C Y.1))]) (rest := [.int q]) XX co_X2_121_X6 (c_X6_holds Γ l (k 0) (coSpring C Y.1)) hP hD hS hA nil_mem nil_D 2 1 rfl rfl rfl rfl hl.1 (by rw [h]; rfl) ⟨⟨by decide, by decide⟩, by decide, by decide⟩ (Nat.le_of_ble_eq_true rfl) dX2_guards_64 (fun r H locs hw hP hS => ?_)
              have e : r = kHolds ((tr i).1) (coSpring C Y.1) := by rw [hw, h]; rfl
              rw [e]
              exact K64 H locs hP hS
            · refine callR_Oi (As := [.int (bI (coSpring C Y.1))]) (rest := [.int q]) XX co_X2_121_X5 (c_X5_holds_5 Γ l (k 1) (coSpring C Y.1)) hP hD hS hA (one_mem (bs := [bCo Γ c k C, bTs Γ c k tr, bKd Γ k, bYr Γ y Y]) (k := 2) (j := 2) rfl rfl) (one_D _) 2 2 rfl rfl rfl rfl hl.1 (by rw [h]; rfl) ⟨⟨by decide, by decide⟩, by decide, by decide⟩ (Nat.le_of_ble_eq_true rfl) dX2_guards_64 (fun r H locs hw hP hS => ?_)
              have e : r = kHolds ((tr i).1) (coSpring C Y.1) := by rw [hw, h]; rfl
              rw [e]
              exact K64 H locs hP hS
            · refine callR_Oi (As := [.int (bI (coSpring C Y.1))]) (rest := [.int q]) XX co_X2_121_X1 (c_X1_holds_1 Γ l (k 2) (coSpring C Y.1)) hP hD hS hA (one_mem (bs := [bCo Γ c k C, bTs Γ c k tr, bKd Γ k, bYr Γ y Y]) (k := 2) (j := 3) rfl rfl) (one_D _) 2 3 rfl rfl rfl rfl hl.1 (by rw [h]; rfl) ⟨⟨by decide, by decide⟩, by decide, by decide⟩ (Nat.le_of_ble_eq_true rfl) dX2_guards_64 (fun r H locs hw hP hS => ?_)
              have e : r = kHolds ((tr i).1) (coSpring C Y.1) := by rw [hw, h]; rfl
              rw [e]
              exact K64 H locs hP hS
            · refine callR_Oi (As := [.int (bI (coSpring C Y.1))]) (rest := [.int q]) XX co_X2_121_X0 (c_X6_holds Γ l (k 3) (coSpring C Y.1)) hP hD hS hA nil_mem nil_D 2 4 rfl rfl rfl rfl hl.1 (by rw [h]; rfl) ⟨⟨by decide, by decide⟩, by decide, by decide⟩ (Nat.le_of_ble_eq_true rfl) dX2_guards_64 (fun r H locs hw hP hS => ?_)
              have e : r = kHolds ((tr i).1) (coSpring C Y.1) := by rw [hw, h]; rfl
              rw [e]
              exact K64 H locs hP hS
            · refine callR_Oi (As := [.int (bI (coSpring C Y.1))]) (rest := [.int q]) XX co_X2_121_X4 (c_X5_holds_4 Γ l (k 4) (coSpring C Y.1)) hP hD hS hA (one_mem (bs := [bCo Γ c k C, bTs Γ c k tr, bKd Γ k, bYr Γ y Y]) (k := 2) (j := 5) rfl rfl) (one_D _) 2 5 rfl rfl rfl rfl hl.1 (by rw [h]; rfl) ⟨⟨by decide, by decide⟩, by decide, by decide⟩ (Nat.le_of_ble_eq_true rfl) dX2_guards_64 (fun r H locs hw hP hS => ?_)
              have e : r = kHolds ((tr i).1) (coSpring C Y.1) := by rw [hw, h]; rfl
              rw [e]
              exact K64 H locs hP hS
            · refine callR_Oi (As := [.int (bI (coSpring C Y.1))]) (rest := [.int q]) XX co_X2_121_X3 (c_X3_holds_3 Γ l (k 5) (coSpring C Y.1)) hP hD hS hA (one_mem (bs := [bCo Γ c k C, bTs Γ c k tr, bKd Γ k, bYr Γ y Y]) (k := 2) (j := 6) rfl rfl) (one_D _) 2 6 rfl rfl rfl rfl hl.1 (by rw [h]; rfl) ⟨⟨by decide, by decide⟩, by decide, by decide⟩ (Nat.le_of_ble_eq_true rfl) dX2_guards_64 (fun r H locs hw hP hS => ?_)
              have e : r = kHolds ((tr i).1) (coSpring C Y.1) := by rw [hw, h]; rfl
              rw [e]
              exact K64 H locs hP hS
          · have c_51 : (trRuns (tr i) Y.1) = false := bI_0.mp c_51
            refine lv_goto (tgt := 80) zx zb dX2_guards_54 (by decide) ?_
            refine lv_iinc (v := nI (i + 1)) (lv' := [(5, .int (nI (i + 1))), (6, .ref (c (6 + i))), (0, .ref (c 0)), (1, .ref (y 0)), (2, .int q), (3, .int (bI (coSpring C Y.1))), (4, .int a)]) zx zb dX2_guards_80 hl (k := 6) rfl (nI_inc _ 1) (by decide) rfl (fun ls hl => ?_)
            refine lv_goto (tgt := 15) zx zb dX2_guards_83 (by decide) ?_
            exact ih15 (i + 1) a (by omega) (by first | (simp [coGuards, ha, c_39]; done) | (simp [coGuards, ha, c_39, c_51]; done) | (simp [coGuards, ha, c_39, c_51, Int32.not_le.mpr c_67]; done) | (simp [coGuards, ha, c_39, c_51, Int32.not_lt.mp c_67]; done)) (by omega) _ _ hP hD hS _ (lv_sub hl [2, 3, 4, 5, 6, 0] rfl)
  exact L15 _ 0 0 (by omega) (rfl) (Nat.lt_succ_self _) _ _ hP hD hS _ (lv_sub hl [3, 4, 5, 2, 1, 0] rfl)

set_option maxHeartbeats 4000000 in
set_option maxRecDepth 100000 in
theorem c_X2_water (Γ : GG) (l : Launch) (c : Nat → Nat) (k : Nat → Nat) (C : CoV) (y : Nat → Nat) (Y : YrV) (q : Int32) (g : Int32) (b : Int32) (hn : C.1 ≤ 8) : Ci Γ l yX2_water cX2_water 9 (some (.int)) 0 0 0 0 [.ref (c 0), .int q, .int g, .ref (y 1), .int b] [bCo Γ c k C, bYr Γ y Y] (fun (r : Int32) (u : Unit) => r = coWater C Y.2.2.2.1 q g b) (fun (u : Unit) => [bCo Γ c k C, bYr Γ y Y]) := by
  refine Ci.of (Or.inl rfl) (by decide) (Nat.le_of_ble_eq_true rfl) ?_
  intro pp ee ss mm bb me cd AA QQ XX hnm hA hP hD fin ls hl
  obtain ⟨zx, zb, hml, hown, hts, hK⟩ := id XX
  have hS : va_S AA ss.heap ss.heap [] := va_S.rf
  have hl : lv_has ls 9 [(0, .ref (c 0)), (1, .int q), (2, .int g), (3, .ref (y 1)), (4, .int b)] := hl
  refine lv_iconst (v := nI 0) zx zb dX2_water_0 (by decide) ?_
  refine lv_istore (lv' := [(5, .int (nI 0)), (0, .ref (c 0)), (1, .int q), (2, .int g), (3, .ref (y 1)), (4, .int b)]) zx zb dX2_water_1 hl (by decide) rfl (fun ls hl => ?_)
  refine lv_iconst (v := nI 0) zx zb dX2_water_3 (by decide) ?_
  refine lv_istore (lv' := [(6, .int (nI 0)), (5, .int (nI 0)), (0, .ref (c 0)), (1, .int q), (2, .int g), (3, .ref (y 1)), (4, .int b)]) zx zb dX2_water_4 hl (by decide) rfl (fun ls hl => ?_)
  have L6 : ∀ (nn : Nat) (x : Nat) (a : Int32), (x ≤ C.1) → (∀ j, j < x → coStop C Y.2.2.2.1 q g b j = false) → (a = preB x) → C.1 - x < nn → ∀ (H : Heap) (locs : List Loc), bP Γ [bCo Γ c k C, bYr Γ y Y] H → bD AA [bCo Γ c k C, bYr Γ y Y] → va_S AA ss.heap H locs → ∀ (ls : Array Slot), lv_has ls 9 [(0, .ref (c 0)), (1, .int q), (2, .int g), (3, .ref (y 1)), (4, .int b), (5, .int a), (6, .int (nI x))] → W pp l ee { frames := 0, cells := 0, slots := 0, locals := 0 } ss mm [.ref (c 0), .int q, .int g, .ref (y 1), .int b].toArray bb me cd H locs 0 0 QQ (F0 mm 6 ls []) := by
    intro nn
    induction nn with
    | zero => intro x a hx hs ha hm; exact absurd hm (Nat.not_lt_zero _)
    | succ nn ih6 =>
      intro x a hx hs ha hm6 H locs hP hD hS ls hl
      refine lv_iload zx zb dX2_water_6 (lv_at hl 6 rfl) ?_
      refine lv_aload_n zx zb dX2_water_8 rfl (lv_at hl 0 rfl) ?_
      refine g_get (v := .int (nI (C.1))) XX hP 0 0 rfl rfl rfl iwX2 1 (by decide) fl_X2_46 rfl dX2_water_9 ?_
      refine lv_icmp_ge (tgt := 76) zx zb dX2_water_12 (by decide) (fun c_12 => ?_) (fun c_12 => ?_)
      · have c_12 : C.1 ≤ x := (nI_leI (a := C.1) (b := x) (by omega) (by omega)).mp c_12
        refine lv_iload zx zb dX2_water_76 (lv_at hl 5 rfl) ?_
        exact fin _ _ a () 78 _ dX2_water_78 (fun h => by cases h) (by first | (have e : x = C.1 := (by omega); subst e; rw [ha]; unfold coWater; rw [firstN_eq hs (Or.inr rfl)]) | (rw [ha]; unfold coWater; rw [firstN_eq hs (Or.inl ⟨show x < C.1 by omega, wet_a c_33 c_50⟩)]) | (rw [ha]; unfold coWater; rw [firstN_eq hs (Or.inl ⟨show x < C.1 by omega, wet_b c_33 c_50⟩)]) | (rw [ha]; unfold coWater; rw [firstN_eq hs (Or.inl ⟨show x < C.1 by omega, wet_c c_57⟩)])) hP hD hS
      · have c_12 : ¬ (C.1 ≤ x) := fun h => c_12 ((nI_leI (a := C.1) (b := x) (by omega) (by omega)).mpr h)
        refine lv_iconst (v := nI 1) zx zb dX2_water_15 (by decide) ?_
        refine lv_iload zx zb dX2_water_16 (lv_at hl 6 rfl) ?_
        refine lv_ishl zx zb dX2_water_18 ?_
        refine g_top (y := bit x) (sh31l _ (by omega)) ?_
        refine lv_istore (lv' := [(7, .int (bit x)), (0, .ref (c 0)), (1, .int q), (2, .int g), (3, .ref (y 1)), (4, .int b), (5, .int a), (6, .int (nI x))]) zx zb dX2_water_19 hl (by decide) rfl (fun ls hl => ?_)
        refine lv_aload_n zx zb dX2_water_21 rfl (lv_at hl 1 rfl) ?_
        refine g_get (v := .ref (c 1)) XX hP 0 0 rfl rfl rfl iwX2 3 (by decide) fl_X2_9 rfl dX2_water_22 ?_
        refine lv_iload zx zb dX2_water_25 (lv_at hl 7 rfl) ?_
        refine g_ialdN (i := x) XX hP 0 1 rfl rfl (by omega) (by decide) dX2_water_27 ?_
        refine lv_iload zx zb dX2_water_28 (lv_at hl 5 rfl) ?_
        refine lv_iload zx zb dX2_water_30 (lv_at hl 0 rfl) ?_
        refine lv_iand zx zb dX2_water_32 ?_
        refine lv_if_eq (tgt := 40) zx zb dX2_water_33 (by decide) (fun c_33 => ?_) (fun c_33 => ?_)
        · have c_33 : hasB b x = false := hasB_f.mp c_33
          refine lv_aload_n zx zb dX2_water_40 rfl (lv_at hl 4 rfl) ?_
          refine lv_iload zx zb dX2_water_41 (lv_at hl 7 rfl) ?_
          refine g_ialdN (i := x) XX hP 1 1 rfl rfl (by omega) (by decide) dX2_water_43 ?_
          refine lv_iadd zx zb dX2_water_44 ?_
          refine lv_istore (lv' := [(8, .int ((C.2.2.1 x) + (Y.2.2.2.1 x))), (7, .int (bit x)), (0, .ref (c 0)), (1, .int q), (2, .int g), (3, .ref (y 1)), (4, .int b), (5, .int a), (6, .int (nI x))]) zx zb dX2_water_45 hl (by decide) rfl (fun ls hl => ?_)
          refine lv_iload_n zx zb dX2_water_47 rfl (lv_at hl 3 rfl) ?_
          refine lv_iload zx zb dX2_water_48 (lv_at hl 0 rfl) ?_
          refine lv_icmp_le (tgt := 76) zx zb dX2_water_50 (by decide) (fun c_50 => ?_) (fun c_50 => ?_)
          · have c_50 : q ≤ ((C.2.2.1 x) + (Y.2.2.2.1 x)) := c_50
            refine lv_iload zx zb dX2_water_76 (lv_at hl 7 rfl) ?_
            exact fin _ _ a () 78 _ dX2_water_78 (fun h => by cases h) (by first | (have e : x = C.1 := (by omega); subst e; rw [ha]; unfold coWater; rw [firstN_eq hs (Or.inr rfl)]) | (rw [ha]; unfold coWater; rw [firstN_eq hs (Or.inl ⟨show x < C.1 by omega, wet_a c_33 c_50⟩)]) | (rw [ha]; unfold coWater; rw [firstN_eq hs (Or.inl ⟨show x < C.1 by omega, wet_b c_33 c_50⟩)]) | (rw [ha]; unfold coWater; rw [firstN_eq hs (Or.inl ⟨show x < C.1 by omega, wet_c c_57⟩)])) hP hD hS
          · have c_50 : ¬ (q ≤ ((C.2.2.1 x) + (Y.2.2.2.1 x))) := c_50
            refine lv_iload_n zx zb dX2_water_53 rfl (lv_at hl 4 rfl) ?_
            refine lv_iload zx zb dX2_water_54 (lv_at hl 1 rfl) ?_
            refine lv_iand zx zb dX2_water_56 ?_
            refine lv_if_eq (tgt := 63) zx zb dX2_water_57 (by decide) (fun c_57 => ?_) (fun c_57 => ?_)
            · have c_57 : hasB g x = false := hasB_f.mp c_57
              refine lv_iload zx zb dX2_water_63 (lv_at hl 7 rfl) ?_
              refine lv_iload zx zb dX2_water_65 (lv_at hl 1 rfl) ?_
              refine lv_ior zx zb dX2_water_67 ?_
              refine lv_istore (lv' := [(5, .int (a ||| (bit x))), (8, .int ((C.2.2.1 x) + (Y.2.2.2.1 x))), (7, .int (bit x)), (0, .ref (c 0)), (1, .int q), (2, .int g), (3, .ref (y 1)), (4, .int b), (6, .int (nI x))]) zx zb dX2_water_68 hl (by decide) rfl (fun ls hl => ?_)
              refine lv_iinc (v := nI (x + 1)) (lv' := [(6, .int (nI (x + 1))), (5, .int (a ||| (bit x))), (8, .int ((C.2.2.1 x) + (Y.2.2.2.1 x))), (7, .int (bit x)), (0, .ref (c 0)), (1, .int q), (2, .int g), (3, .ref (y 1)), (4, .int b)]) zx zb dX2_water_70 hl (k := 8) rfl (nI_inc _ 1) (by decide) rfl (fun ls hl => ?_)
              refine lv_goto (tgt := 6) zx zb dX2_water_73 (by decide) ?_
              exact ih6 (x + 1) (a ||| (bit x)) (by omega) (lt_s hs (by simp only [coStop, coTop, c_33, c_57, Bool.or_false, decide_eq_false_iff_not]; exact c_50)) (by rw [preB, ← ha]) (by omega) _ _ hP hD hS _ (lv_sub hl [4, 5, 6, 7, 8, 1, 0] rfl)
            · have c_57 : hasB g x = true := hasB_t.mp c_57
              refine lv_goto (tgt := 76) zx zb dX2_water_60 (by decide) ?_
              refine lv_iload zx zb dX2_water_76 (lv_at hl 7 rfl) ?_
              exact fin _ _ a () 78 _ dX2_water_78 (fun h => by cases h) (by first | (have e : x = C.1 := (by omega); subst e; rw [ha]; unfold coWater; rw [firstN_eq hs (Or.inr rfl)]) | (rw [ha]; unfold coWater; rw [firstN_eq hs (Or.inl ⟨show x < C.1 by omega, wet_a c_33 c_50⟩)]) | (rw [ha]; unfold coWater; rw [firstN_eq hs (Or.inl ⟨show x < C.1 by omega, wet_b c_33 c_50⟩)]) | (rw [ha]; unfold coWater; rw [firstN_eq hs (Or.inl ⟨show x < C.1 by omega, wet_c c_57⟩)])) hP hD hS
        · have c_33 : hasB b x = true := hasB_t.mp c_33
          refine lv_iconst (v := nI 0) zx zb dX2_water_36 (by decide) ?_
          refine lv_goto (tgt := 44) zx zb dX2_water_37 (by decide) ?_
          refine lv_iadd zx zb dX2_water_44 ?_
          refine g_top (y := (C.2.2.1 x) + 0) rfl ?_
          refine lv_istore (lv' := [(8, .int ((C.2.2.1 x) + 0)), (7, .int (bit x)), (0, .ref (c 0)), (1, .int q), (2, .int g), (3, .ref (y 1)), (4, .int b), (5, .int a), (6, .int (nI x))]) zx zb dX2_water_45 hl (by decide) rfl (fun ls hl => ?_)
          refine lv_iload_n zx zb dX2_water_47 rfl (lv_at hl 3 rfl) ?_
          refine lv_iload zx zb dX2_water_48 (lv_at hl 0 rfl) ?_
          refine lv_icmp_le (tgt := 76) zx zb dX2_water_50 (by decide) (fun c_50 => ?_) (fun c_50 => ?_)
          · have c_50 : q ≤ ((C.2.2.1 x) + 0) := c_50
            refine lv_iload zx zb dX2_water_76 (lv_at hl 7 rfl) ?_
            exact fin _ _ a () 78 _ dX2_water_78 (fun h => by cases h) (by first | (have e : x = C.1 := (by omega); subst e; rw [ha]; unfold coWater; rw [firstN_eq hs (Or.inr rfl)]) | (rw [ha]; unfold coWater; rw [firstN_eq hs (Or.inl ⟨show x < C.1 by omega, wet_a c_33 c_50⟩)]) | (rw [ha]; unfold coWater; rw [firstN_eq hs (Or.inl ⟨show x < C.1 by omega, wet_b c_33 c_50⟩)]) | (rw [ha]; unfold coWater; rw [firstN_eq hs (Or.inl ⟨show x < C.1 by omega, wet_c c_57⟩)])) hP hD hS
          · have c_50 : ¬ (q ≤ ((C.2.2.1 x) + 0)) := c_50
            refine lv_iload_n zx zb dX2_water_53 rfl (lv_at hl 4 rfl) ?_
            refine lv_iload zx zb dX2_water_54 (lv_at hl 1 rfl) ?_
            refine lv_iand zx zb dX2_water_56 ?_
            refine lv_if_eq (tgt := 63) zx zb dX2_water_57 (by decide) (fun c_57 => ?_) (fun c_57 => ?_)
            · have c_57 : hasB g x = false := hasB_f.mp c_57
              refine lv_iload zx zb dX2_water_63 (lv_at hl 7 rfl) ?_
              refine lv_iload zx zb dX2_water_65 (lv_at hl 1 rfl) ?_
              refine lv_ior zx zb dX2_water_67 ?_
              refine lv_istore (lv' := [(5, .int (a ||| (bit x))), (8, .int ((C.2.2.1 x) + 0)), (7, .int (bit x)), (0, .ref (c 0)), (1, .int q), (2, .int g), (3, .ref (y 1)), (4, .int b), (6, .int (nI x))]) zx zb dX2_water_68 hl (by decide) rfl (fun ls hl => ?_)
              refine lv_iinc (v := nI (x + 1)) (lv' := [(6, .int (nI (x + 1))), (5, .int (a ||| (bit x))), (8, .int ((C.2.2.1 x) + 0)), (7, .int (bit x)), (0, .ref (c 0)), (1, .int q), (2, .int g), (3, .ref (y 1)), (4, .int b)]) zx zb dX2_water_70 hl (k := 8) rfl (nI_inc _ 1) (by decide) rfl (fun ls hl => ?_)
              refine lv_goto (tgt := 6) zx zb dX2_water_73 (by decide) ?_
              exact ih6 (x + 1) (a ||| (bit x)) (by omega) (lt_s hs (by simp only [coStop, coTop, c_33, c_57, Bool.or_false, decide_eq_false_iff_not]; exact c_50)) (by rw [preB, ← ha]) (by omega) _ _ hP hD hS _ (lv_sub hl [4, 5, 6, 7, 8, 1, 0] rfl)
            · have c_57 : hasB g x = true := hasB_t.mp c_57
              refine lv_goto (tgt := 76) zx zb dX2_water_60 (by decide) ?_
              refine lv_iload zx zb dX2_water_76 (lv_at hl 7 rfl) ?_
              exact fin _ _ a () 78 _ dX2_water_78 (fun h => by cases h) (by first | (have e : x = C.1 := (by omega); subst e; rw [ha]; unfold coWater; rw [firstN_eq hs (Or.inr rfl)]) | (rw [ha]; unfold coWater; rw [firstN_eq hs (Or.inl ⟨show x < C.1 by omega, wet_a c_33 c_50⟩)]) | (rw [ha]; unfold coWater; rw [firstN_eq hs (Or.inl ⟨show x < C.1 by omega, wet_b c_33 c_50⟩)]) | (rw [ha]; unfold coWater; rw [firstN_eq hs (Or.inl ⟨show x < C.1 by omega, wet_c c_57⟩)])) hP hD hS
  exact L6 _ 0 0 (by omega) (fun j h => absurd h (Nat.not_lt_zero j)) (rfl) (Nat.lt_succ_self _) _ _ hP hD hS _ (lv_sub hl [2, 3, 4, 5, 6, 1, 0] rfl)

set_option maxHeartbeats 4000000 in
set_option maxRecDepth 100000 in
theorem c_X2_payDues (Γ : GG) (l : Launch) (c : Nat → Nat) (k : Nat → Nat) (C : CoV) (tr : Nat → TrV) (y : Nat → Nat) (Y : YrV) (htc : C.2.2.2.2.2.2.1 ≤ 6) (hkd : ∀ i, i < 6 → (tr i).1 < 6) : Cv Γ l yX2_payDues cX2_payDues 5 none 1 22 0 0 [.ref (c 0), .ref (y 0)] [bCo Γ c k C, bTs Γ c k tr, bKd Γ k, bYr Γ y Y] (fun (u : YrV) => u = coPay tr Y (coTc C)) (fun (u : YrV) => [bCo Γ c k C, bTs Γ c k tr, bKd Γ k, bYr Γ y u]) := by
  refine Cv.of rfl (by decide) (Nat.le_of_ble_eq_true rfl) ?_
  intro pp ee ss mm bb me cd AA QQ XX hnm hA hP hD fin ls hl
  obtain ⟨zx, zb, hml, hown, hts, hK⟩ := id XX
  have hS : va_S AA ss.heap ss.heap [] := va_S.rf
  have hl : lv_has ls 5 [(0, .ref (c 0)), (1, .ref (y 0))] := hl
  refine lv_iconst (v := nI 0) zx zb dX2_payDues_0 (by decide) ?_
  refine lv_istore_n (lv' := [(2, .int (nI 0)), (0, .ref (c 0)), (1, .ref (y 0))]) zx zb dX2_payDues_1 rfl hl (by decide) rfl (fun ls hl => ?_)
  have L2 : ∀ (nn : Nat) (i : Nat) (Z : YrV), (i ≤ C.2.2.2.2.2.2.1) → (Z = coPay tr Y i) → C.2.2.2.2.2.2.1 - i < nn → ∀ (H : Heap) (locs : List Loc), bP Γ [bCo Γ c k C, bTs Γ c k tr, bKd Γ k, bYr Γ y Z] H → bD AA [bCo Γ c k C, bTs Γ c k tr, bKd Γ k, bYr Γ y Z] → va_S AA ss.heap H locs → ∀ (ls : Array Slot), lv_has ls 5 [(0, .ref (c 0)), (1, .ref (y 0)), (2, .int (nI i))] → W pp l ee { frames := 1, cells := 0, slots := 0, locals := 22 } ss mm [.ref (c 0), .ref (y 0)].toArray bb me cd H locs 0 0 QQ (F0 mm 2 ls []) := by
    intro nn
    induction nn with
    | zero => intro i Z hi hZ hm; exact absurd hm (Nat.not_lt_zero _)
    | succ nn ih2 =>
      intro i Z hi hZ hm2 H locs hP hD hS ls hl
      refine lv_iload_n zx zb dX2_payDues_2 rfl (lv_at hl 2 rfl) ?_
      refine lv_aload_n zx zb dX2_payDues_3 rfl (lv_at hl 0 rfl) ?_
      refine g_get (v := .int (nI (C.2.2.2.2.2.2.1))) XX hP 0 0 rfl rfl rfl iwX2 8 (by decide) fl_X2_53 rfl dX2_payDues_4 ?_
      refine lv_icmp_ge (tgt := 97) zx zb dX2_payDues_7 (by decide) (fun c_7 => ?_) (fun c_7 => ?_)
      · have c_7 : C.2.2.2.2.2.2.1 ≤ i := (nI_leI (a := C.2.2.2.2.2.2.1) (b := i) (by omega) (by omega)).mp c_7
        exact fin _ _ Z 97 _ dX2_payDues_97 (by have e : i = C.2.2.2.2.2.2.1 := (by omega); subst e; exact hZ) hP hD hS
      · have c_7 : ¬ (C.2.2.2.2.2.2.1 ≤ i) := fun h => c_7 ((nI_leI (a := C.2.2.2.2.2.2.1) (b := i) (by omega) (by omega)).mpr h)
        refine lv_aload_n zx zb dX2_payDues_10 rfl (lv_at hl 0 rfl) ?_
        refine g_get (v := .ref (c 5)) XX hP 0 0 rfl rfl rfl iwX2 7 (by decide) fl_X2_26 rfl dX2_payDues_11 ?_
        refine lv_iload_n zx zb dX2_payDues_14 rfl (lv_at hl 2 rfl) ?_
        refine g_aald (i := i) (v := c (6 + i)) XX hP 0 5 4 rfl rfl rfl (by omega) (by decide) rfl dX2_payDues_15 ?_
        refine lv_astore_n (lv' := [(3, .ref (c (6 + i))), (0, .ref (c 0)), (1, .ref (y 0)), (2, .int (nI i))]) zx zb dX2_payDues_16 rfl hl (by decide) rfl (fun ls hl => ?_)
        refine lv_aload_n zx zb dX2_payDues_17 rfl (lv_at hl 2 rfl) ?_
        refine lv_iload_n zx zb dX2_payDues_18 rfl (lv_at hl 3 rfl) ?_
        refine call_Vi (As := [.int (nI i)]) (rest := []) XX cv_X2_115 (c_X10_isBreached Γ l y Z i (by omega)) hP hD hS hA [3] (by decide) rfl (fun _ => rfl) 3 0 rfl rfl rfl rfl hl.1 rfl ⟨⟨by decide, by decide⟩, by decide, by decide⟩ (Nat.le_of_ble_eq_true rfl) dX2_payDues_19 (fun r_19 u H locs hw hP hD hS => ?_)
        have hw := hw.symm
        subst hw
        have hP : bP Γ [bCo Γ c k C, bTs Γ c k tr, bKd Γ k, bYr Γ y Z] H := hP
        have hD : bD AA [bCo Γ c k C, bTs Γ c k tr, bKd Γ k, bYr Γ y Z] := hD
        refine lv_if_ne (tgt := 91) zx zb dX2_payDues_22 (by decide) (fun c_22 => ?_) (fun c_22 => ?_)
        · have c_22 : (yrBr Z i) = true := bI_ne c_22
          refine lv_iinc (v := nI (i + 1)) (lv' := [(2, .int (nI (i + 1))), (3, .ref (c (6 + i))), (0, .ref (c 0)), (1, .ref (y 0))]) zx zb dX2_payDues_91 hl (k := 3) rfl (nI_inc _ 1) (by decide) rfl (fun ls hl => ?_)
          refine lv_goto (tgt := 2) zx zb dX2_payDues_94 (by decide) ?_
          exact ih2 (i + 1) Z (by omega) (by first | (simp [coPay, ← hZ, c_22]; done) | (simp [coPay, ← hZ, c_22, c_33]; done) | (simp [coPay, ← hZ, c_22, c_33, Int32.not_lt.mp c_62]; done) | (simp [coPay, ← hZ, c_22, c_33, Int32.not_le.mpr c_62]; done)) (by omega) _ _ hP hD hS _ (lv_sub hl [2, 3, 0] rfl)
        · have c_22 : (yrBr Z i) = false := bI_0.mp c_22
          refine lv_aload_n zx zb dX2_payDues_25 rfl (lv_at hl 0 rfl) ?_
          refine lv_aload_n zx zb dX2_payDues_26 rfl (lv_at hl 2 rfl) ?_
          refine g_get (v := .int Z.1) XX hP 3 0 rfl rfl rfl iwX10 0 (by decide) fl_X2_110 rfl dX2_payDues_27 ?_
          refine callR_Vi (As := [.int Z.1]) (rest := []) XX cv_X2_118 (c_X9_runsIn Γ l (c (6 + i)) k (tr i) Z.1 ) hP hD hS hA (one_mem (bs := [bCo Γ c k C, bTs Γ c k tr, bKd Γ k, bYr Γ y Z]) (k := 1) (j := i) rfl (bTs_at Γ c k tr (by omega))) (one_D _) 1 i rfl (bTs_at Γ c k tr (by omega)) rfl rfl hl.1 rfl ⟨⟨by decide, by decide⟩, by decide, by decide⟩ (Nat.le_of_ble_eq_true rfl) dX2_payDues_30 (fun r_30 H locs hw hP hS => ?_)
          have hw := hw.symm
          subst hw
          refine lv_if_ne (tgt := 39) zx zb dX2_payDues_33 (by decide) (fun c_33 => ?_) (fun c_33 => ?_)
          · have c_33 : (trRuns (tr i) Z.1) = true := bI_ne c_33
            refine lv_aload_n zx zb dX2_payDues_39 rfl (lv_at hl 0 rfl) ?_
            refine g_get (v := .ref (k ((tr i).1))) XX hP 1 i rfl (bTs_at Γ c k tr (by omega)) rfl iwX9 0 (by decide) fl_X2_73 rfl dX2_payDues_40 ?_
            refine lv_aload_n zx zb dX2_payDues_43 rfl (lv_at hl 0 rfl) ?_
            refine g_get (v := .int ((tr i).2.2.2.2.2.2.2)) XX hP 1 i rfl (bTs_at Γ c k tr (by omega)) rfl iwX9 7 (by decide) fl_X2_101 rfl dX2_payDues_44 ?_
            refine lv_aload_n zx zb dX2_payDues_47 rfl (lv_at hl 2 rfl) ?_
            refine g_get (v := .int Z.1) XX hP 3 0 rfl rfl rfl iwX10 0 (by decide) fl_X2_110 rfl dX2_payDues_48 ?_
            have K51 : ∀ (H : Heap) (locs : List Loc), bP Γ [bCo Γ c k C, bTs Γ c k tr, bKd Γ k, bYr Γ y Z] H → va_S AA ss.heap H locs → W pp l ee { frames := 1, cells := 0, slots := 0, locals := 22 } ss mm [.ref (c 0), .ref (y 0)].toArray bb me cd H locs 0 0 QQ (F0 mm 54 ls [.int (kDue ((tr i).1) ((tr i).2.2.2.2.2.2.2) Z.1)]) := by
              intro H locs hP hS
              refine lv_istore (lv' := [(4, .int (kDue ((tr i).1) ((tr i).2.2.2.2.2.2.2) Z.1)), (3, .ref (c (6 + i))), (0, .ref (c 0)), (1, .ref (y 0)), (2, .int (nI i))]) zx zb dX2_payDues_54 hl (by decide) rfl (fun ls hl => ?_)
              refine lv_iload zx zb dX2_payDues_56 (lv_at hl 0 rfl) ?_
              refine lv_aload_n zx zb dX2_payDues_58 rfl (lv_at hl 3 rfl) ?_
              refine g_get (v := .int Z.2.1) XX hP 3 0 rfl rfl rfl iwX10 1 (by decide) fl_X2_133 rfl dX2_payDues_59 ?_
              refine lv_icmp_gt (tgt := 79) zx zb dX2_payDues_62 (by decide) (fun c_62 => ?_) (fun c_62 => ?_)
              · have c_62 : Z.2.1 < (kDue ((tr i).1) ((tr i).2.2.2.2.2.2.2) Z.1) := c_62
                refine lv_aload_n zx zb dX2_payDues_79 rfl (lv_at hl 3 rfl) ?_
                refine lv_dup zx zb dX2_payDues_80 rfl ?_
                refine g_get (v := .int Z.2.2.1) XX hP 3 0 rfl rfl rfl iwX10 2 (by decide) fl_X2_136 rfl dX2_payDues_81 ?_
                refine lv_iconst (v := nI 1) zx zb dX2_payDues_84 (by decide) ?_
                refine lv_iload_n zx zb dX2_payDues_85 rfl (lv_at hl 4 rfl) ?_
                refine lv_ishl zx zb dX2_payDues_86 ?_
                refine g_top (y := bit i) (sh31l _ (by omega)) ?_
                refine lv_ior zx zb dX2_payDues_87 ?_
                refine g_put (v := .int (Z.2.2.1 ||| (bit i))) (blk' := bYr Γ y (Z.1, Z.2.1, Z.2.2.1 ||| (bit i), Z.2.2.2.1, Z.2.2.2.2)) (bs' := [bCo Γ c k C, bTs Γ c k tr, bKd Γ k, bYr Γ y (Z.1, Z.2.1, Z.2.2.1 ||| (bit i), Z.2.2.2.1, Z.2.2.2.2)]) XX hP hD hS 3 0 rfl rfl rfl iwX10 tyX10_ok nmX10 2 (by decide) fl_X2_136 rfl rfl rfl (Nat.le_of_ble_eq_true rfl) rfl rfl rfl dX2_payDues_88 (fun H locs hP hD hS => ?_)
                refine lv_iinc (v := nI (i + 1)) (lv' := [(2, .int (nI (i + 1))), (4, .int (kDue ((tr i).1) ((tr i).2.2.2.2.2.2.2) Z.1)), (3, .ref (c (6 + i))), (0, .ref (c 0)), (1, .ref (y 0))]) zx zb dX2_payDues_91 hl (k := 4) rfl (nI_inc _ 1) (by decide) rfl (fun ls hl => ?_)
                refine lv_goto (tgt := 2) zx zb dX2_payDues_94 (by decide) ?_
                exact ih2 (i + 1) (Z.1, Z.2.1, Z.2.2.1 ||| (bit i), Z.2.2.2.1, Z.2.2.2.2) (by omega) (by first | (simp [coPay, ← hZ, c_22]; done) | (simp [coPay, ← hZ, c_22, c_33]; done) | (simp [coPay, ← hZ, c_22, c_33, Int32.not_lt.mp c_62]; done) | (simp [coPay, ← hZ, c_22, c_33, Int32.not_le.mpr c_62]; done)) (by omega) _ _ hP hD hS _ (lv_sub hl [3, 4, 0] rfl)
              · have c_62 : ¬ (Z.2.1 < (kDue ((tr i).1) ((tr i).2.2.2.2.2.2.2) Z.1)) := c_62
                refine lv_aload_n zx zb dX2_payDues_65 rfl (lv_at hl 3 rfl) ?_
                refine lv_dup zx zb dX2_payDues_66 rfl ?_
                refine g_get (v := .int Z.2.1) XX hP 3 0 rfl rfl rfl iwX10 1 (by decide) fl_X2_133 rfl dX2_payDues_67 ?_
                refine lv_iload zx zb dX2_payDues_70 (lv_at hl 0 rfl) ?_
                refine lv_isub zx zb dX2_payDues_72 ?_
                refine g_put (v := .int (Z.2.1 - (kDue ((tr i).1) ((tr i).2.2.2.2.2.2.2) Z.1))) (blk' := bYr Γ y (Z.1, Z.2.1 - (kDue ((tr i).1) ((tr i).2.2.2.2.2.2.2) Z.1), Z.2.2.1, Z.2.2.2.1, Z.2.2.2.2)) (bs' := [bCo Γ c k C, bTs Γ c k tr, bKd Γ k, bYr Γ y (Z.1, Z.2.1 - (kDue ((tr i).1) ((tr i).2.2.2.2.2.2.2) Z.1), Z.2.2.1, Z.2.2.2.1, Z.2.2.2.2)]) XX hP hD hS 3 0 rfl rfl rfl iwX10 tyX10_ok nmX10 1 (by decide) fl_X2_133 rfl rfl rfl (Nat.le_of_ble_eq_true rfl) rfl rfl rfl dX2_payDues_73 (fun H locs hP hD hS => ?_)
                refine lv_goto (tgt := 91) zx zb dX2_payDues_76 (by decide) ?_
                refine lv_iinc (v := nI (i + 1)) (lv' := [(2, .int (nI (i + 1))), (4, .int (kDue ((tr i).1) ((tr i).2.2.2.2.2.2.2) Z.1)), (3, .ref (c (6 + i))), (0, .ref (c 0)), (1, .ref (y 0))]) zx zb dX2_payDues_91 hl (k := 4) rfl (nI_inc _ 1) (by decide) rfl (fun ls hl => ?_)
                refine lv_goto (tgt := 2) zx zb dX2_payDues_94 (by decide) ?_
                exact ih2 (i + 1) (Z.1, Z.2.1 - (kDue ((tr i).1) ((tr i).2.2.2.2.2.2.2) Z.1), Z.2.2.1, Z.2.2.2.1, Z.2.2.2.2) (by omega) (by first | (simp [coPay, ← hZ, c_22]; done) | (simp [coPay, ← hZ, c_22, c_33]; done) | (simp [coPay, ← hZ, c_22, c_33, Int32.not_lt.mp c_62]; done) | (simp [coPay, ← hZ, c_22, c_33, Int32.not_le.mpr c_62]; done)) (by omega) _ _ hP hD hS _ (lv_sub hl [3, 4, 0] rfl)
            have h6_51 : (tr i).1 < 6 := hkd i (by omega)
            rcases (show (tr i).1 = 0 ∨ (tr i).1 = 1 ∨ (tr i).1 = 2 ∨ (tr i).1 = 3 ∨ (tr i).1 = 4 ∨ (tr i).1 = 5 by omega) with h | h | h | h | h | h
            · refine callR_Oi (As := [.int ((tr i).2.2.2.2.2.2.2), .int Z.1]) (rest := []) XX co_X2_129_X6 (c_X6_due Γ l (k 0) ((tr i).2.2.2.2.2.2.2) Z.1) hP hD hS hA nil_mem nil_D 2 1 rfl rfl rfl rfl hl.1 (by rw [h]; rfl) ⟨⟨by decide, by decide⟩, by decide, by decide⟩ (Nat.le_of_ble_eq_true rfl) dX2_payDues_51 (fun r H locs hw hP hS => ?_)
              have e : r = kDue ((tr i).1) ((tr i).2.2.2.2.2.2.2) Z.1 := by rw [hw, h]; rfl
              rw [e]
              exact K51 H locs hP hS
            · refine callR_Oi (As := [.int ((tr i).2.2.2.2.2.2.2), .int Z.1]) (rest := []) XX co_X2_129_X5 (c_X6_due Γ l (k 1) ((tr i).2.2.2.2.2.2.2) Z.1) hP hD hS hA nil_mem nil_D 2 2 rfl rfl rfl rfl hl.1 (by rw [h]; rfl) ⟨⟨by decide, by decide⟩, by decide, by decide⟩ (Nat.le_of_ble_eq_true rfl) dX2_payDues_51 (fun r H locs hw hP hS => ?_)
              have e : r = kDue ((tr i).1) ((tr i).2.2.2.2.2.2.2) Z.1 := by rw [hw, h]; rfl
              rw [e]
              exact K51 H locs hP hS
            · refine callR_Oi (As := [.int ((tr i).2.2.2.2.2.2.2), .int Z.1]) (rest := []) XX co_X2_129_X1 (c_X6_due Γ l (k 2) ((tr i).2.2.2.2.2.2.2) Z.1) hP hD hS hA nil_mem nil_D 2 3 rfl rfl rfl rfl hl.1 (by rw [h]; rfl) ⟨⟨by decide, by decide⟩, by decide, by decide⟩ (Nat.le_of_ble_eq_true rfl) dX2_payDues_51 (fun r H locs hw hP hS => ?_)
              have e : r = kDue ((tr i).1) ((tr i).2.2.2.2.2.2.2) Z.1 := by rw [hw, h]; rfl
              rw [e]
              exact K51 H locs hP hS
            · refine callR_Oi (As := [.int ((tr i).2.2.2.2.2.2.2), .int Z.1]) (rest := []) XX co_X2_129_X0 (c_X0_due Γ l (k 3) ((tr i).2.2.2.2.2.2.2) Z.1) hP hD hS hA nil_mem nil_D 2 4 rfl rfl rfl rfl hl.1 (by rw [h]; rfl) ⟨⟨by decide, by decide⟩, by decide, by decide⟩ (Nat.le_of_ble_eq_true rfl) dX2_payDues_51 (fun r H locs hw hP hS => ?_)
              have e : r = kDue ((tr i).1) ((tr i).2.2.2.2.2.2.2) Z.1 := by rw [hw, h]; rfl
              rw [e]
              exact K51 H locs hP hS
            · refine callR_Oi (As := [.int ((tr i).2.2.2.2.2.2.2), .int Z.1]) (rest := []) XX co_X2_129_X4 (c_X6_due Γ l (k 4) ((tr i).2.2.2.2.2.2.2) Z.1) hP hD hS hA nil_mem nil_D 2 5 rfl rfl rfl rfl hl.1 (by rw [h]; rfl) ⟨⟨by decide, by decide⟩, by decide, by decide⟩ (Nat.le_of_ble_eq_true rfl) dX2_payDues_51 (fun r H locs hw hP hS => ?_)
              have e : r = kDue ((tr i).1) ((tr i).2.2.2.2.2.2.2) Z.1 := by rw [hw, h]; rfl
              rw [e]
              exact K51 H locs hP hS
            · refine callR_Oi (As := [.int ((tr i).2.2.2.2.2.2.2), .int Z.1]) (rest := []) XX co_X2_129_X3 (c_X0_due Γ l (k 5) ((tr i).2.2.2.2.2.2.2) Z.1) hP hD hS hA nil_mem nil_D 2 6 rfl rfl rfl rfl hl.1 (by rw [h]; rfl) ⟨⟨by decide, by decide⟩, by decide, by decide⟩ (Nat.le_of_ble_eq_true rfl) dX2_payDues_51 (fun r H locs hw hP hS => ?_)
              have e : r = kDue ((tr i).1) ((tr i).2.2.2.2.2.2.2) Z.1 := by rw [hw, h]; rfl
              rw [e]
              exact K51 H locs hP hS
          · have c_33 : (trRuns (tr i) Z.1) = false := bI_0.mp c_33
            refine lv_goto (tgt := 91) zx zb dX2_payDues_36 (by decide) ?_
            refine lv_iinc (v := nI (i + 1)) (lv' := [(2, .int (nI (i + 1))), (3, .ref (c (6 + i))), (0, .ref (c 0)), (1, .ref (y 0))]) zx zb dX2_payDues_91 hl (k := 3) rfl (nI_inc _ 1) (by decide) rfl (fun ls hl => ?_)
            refine lv_goto (tgt := 2) zx zb dX2_payDues_94 (by decide) ?_
            exact ih2 (i + 1) Z (by omega) (by first | (simp [coPay, ← hZ, c_22]; done) | (simp [coPay, ← hZ, c_22, c_33]; done) | (simp [coPay, ← hZ, c_22, c_33, Int32.not_lt.mp c_62]; done) | (simp [coPay, ← hZ, c_22, c_33, Int32.not_le.mpr c_62]; done)) (by omega) _ _ hP hD hS _ (lv_sub hl [2, 3, 0] rfl)
  exact L2 _ 0 Y (by omega) (rfl) (Nat.lt_succ_self _) _ _ hP hD hS _ (lv_sub hl [1, 2, 0] rfl)

set_option maxHeartbeats 4000000 in
set_option maxRecDepth 100000 in
theorem c_X2_runYear (Γ : GG) (l : Launch) (c : Nat → Nat) (k : Nat → Nat) (C : CoV) (tr : Nat → TrV) (y : Nat → Nat) (Y : YrV) (q : Int32) (hn : C.1 ≤ 8) (htc : C.2.2.2.2.2.2.1 ≤ 6) (hkd : ∀ i, i < 6 → (tr i).1 < 6) : Ci Γ l yX2_runYear cX2_runYear 6 (some (.int)) 3 68 0 0 [.ref (c 0), .ref (y 0), .int q] [bCo Γ c k C, bTs Γ c k tr, bKd Γ k, bYr Γ y Y] (fun (r : Int32) (u : YrV) => r = coFl C tr Y q ∧ u = coYear C tr Y q) (fun (u : YrV) => [bCo Γ c k C, bTs Γ c k tr, bKd Γ k, bYr Γ y u]) := by
  refine Ci.of (Or.inl rfl) (by decide) (Nat.le_of_ble_eq_true rfl) ?_
  intro pp ee ss mm bb me cd AA QQ XX hnm hA hP hD fin ls hl
  obtain ⟨zx, zb, hml, hown, hts, hK⟩ := id XX
  have hS : va_S AA ss.heap ss.heap [] := va_S.rf
  have hl : lv_has ls 6 [(0, .ref (c 0)), (1, .ref (y 0)), (2, .int q)] := hl
  refine lv_aload_n zx zb dX2_runYear_0 rfl (lv_at hl 0 rfl) ?_
  refine lv_aload_n zx zb dX2_runYear_1 rfl (lv_at hl 1 rfl) ?_
  refine call_Vv (As := [.ref (y 0)]) (rest := []) XX cv_X2_139 (c_X2_payDues Γ l c k C tr y Y (htc) (hkd)) hP hD hS hA [0, 1, 2, 3] (by decide) rfl (fun _ => rfl) 0 0 rfl rfl rfl rfl hl.1 rfl ⟨⟨by decide, by decide⟩, by decide, by decide⟩ (Nat.le_of_ble_eq_true rfl) dX2_runYear_2 (fun u H locs hw hP hD hS => ?_)
  have hw := hw.symm
  subst hw
  have hP : bP Γ [bCo Γ c k C, bTs Γ c k tr, bKd Γ k, bYr Γ y (coPay tr Y (coTc C))] H := hP
  have hD : bD AA [bCo Γ c k C, bTs Γ c k tr, bKd Γ k, bYr Γ y (coPay tr Y (coTc C))] := hD
  refine lv_aload_n zx zb dX2_runYear_5 rfl (lv_at hl 0 rfl) ?_
  refine lv_iload_n zx zb dX2_runYear_6 rfl (lv_at hl 2 rfl) ?_
  refine lv_aload_n zx zb dX2_runYear_7 rfl (lv_at hl 0 rfl) ?_
  refine lv_aload_n zx zb dX2_runYear_8 rfl (lv_at hl 1 rfl) ?_
  refine lv_iload_n zx zb dX2_runYear_9 rfl (lv_at hl 2 rfl) ?_
  refine call_Vi (As := [.ref (y 0), .int q]) (rest := [.int q, .ref (c 0)]) XX cv_X2_143 (c_X2_guards Γ l c k C tr y (coPay tr Y (coTc C)) q (htc) (hkd)) hP hD hS hA [0, 1, 2, 3] (by decide) rfl (fun _ => rfl) 0 0 rfl rfl rfl rfl hl.1 rfl ⟨⟨by decide, by decide⟩, by decide, by decide⟩ (Nat.le_of_ble_eq_true rfl) dX2_runYear_10 (fun r_10 u H locs hw hP hD hS => ?_)
  have hw := hw.symm
  subst hw
  have hP : bP Γ [bCo Γ c k C, bTs Γ c k tr, bKd Γ k, bYr Γ y (coPay tr Y (coTc C))] H := hP
  have hD : bD AA [bCo Γ c k C, bTs Γ c k tr, bKd Γ k, bYr Γ y (coPay tr Y (coTc C))] := hD
  refine lv_aload_n zx zb dX2_runYear_13 rfl (lv_at hl 1 rfl) ?_
  refine g_get (v := .ref (y 1)) XX hP 3 0 rfl rfl rfl iwX10 3 (by decide) fl_X2_147 rfl dX2_runYear_14 ?_
  refine lv_iconst (v := nI 0) zx zb dX2_runYear_17 (by decide) ?_
  refine call_Vi (As := [.int q, .int (coGuards C tr (coPay tr Y (coTc C)) q (coTc C)), .ref (y 1), .int (nI 0)]) (rest := []) XX cv_X2_150 (c_X2_water Γ l c k C y (coPay tr Y (coTc C)) q (coGuards C tr (coPay tr Y (coTc C)) q (coTc C)) 0 (hn)) hP hD hS hA [0, 3] (by decide) rfl (fun _ => rfl) 0 0 rfl rfl rfl rfl hl.1 rfl ⟨⟨by decide, by decide⟩, by decide, by decide⟩ (Nat.le_of_ble_eq_true rfl) dX2_runYear_18 (fun r_18 u H locs hw hP hD hS => ?_)
  have hw := hw.symm
  subst hw
  have hP : bP Γ [bCo Γ c k C, bTs Γ c k tr, bKd Γ k, bYr Γ y (coPay tr Y (coTc C))] H := hP
  have hD : bD AA [bCo Γ c k C, bTs Γ c k tr, bKd Γ k, bYr Γ y (coPay tr Y (coTc C))] := hD
  refine g_top (y := coFl C tr Y q) (rfl) ?_
  refine lv_istore_n (lv' := [(3, .int (coFl C tr Y q)), (0, .ref (c 0)), (1, .ref (y 0)), (2, .int q)]) zx zb dX2_runYear_21 rfl hl (by decide) rfl (fun ls hl => ?_)
  refine lv_iconst (v := nI 0) zx zb dX2_runYear_22 (by decide) ?_
  refine lv_istore (lv' := [(4, .int (nI 0)), (3, .int (coFl C tr Y q)), (0, .ref (c 0)), (1, .ref (y 0)), (2, .int q)]) zx zb dX2_runYear_23 hl (by decide) rfl (fun ls hl => ?_)
  refine lv_iconst (v := nI 0) zx zb dX2_runYear_25 (by decide) ?_
  refine lv_istore (lv' := [(5, .int (nI 0)), (4, .int (nI 0)), (3, .int (coFl C tr Y q)), (0, .ref (c 0)), (1, .ref (y 0)), (2, .int q)]) zx zb dX2_runYear_26 hl (by decide) rfl (fun ls hl => ?_)
  have L28 : ∀ (nn : Nat) (x : Nat) (Z : YrV) (a : Int32), (x ≤ C.1) → ((Z, a) = coRun C (coFl C tr Y q) (coPay tr Y (coTc C)) x) → C.1 - x < nn → ∀ (H : Heap) (locs : List Loc), bP Γ [bCo Γ c k C, bTs Γ c k tr, bKd Γ k, bYr Γ y Z] H → bD AA [bCo Γ c k C, bTs Γ c k tr, bKd Γ k, bYr Γ y Z] → va_S AA ss.heap H locs → ∀ (ls : Array Slot), lv_has ls 6 [(0, .ref (c 0)), (1, .ref (y 0)), (3, .int (coFl C tr Y q)), (4, .int a), (5, .int (nI x))] → W pp l ee { frames := 3, cells := 0, slots := 0, locals := 68 } ss mm [.ref (c 0), .ref (y 0), .int q].toArray bb me cd H locs 0 0 QQ (F0 mm 28 ls []) := by
    intro nn
    induction nn with
    | zero => intro x Z a hx hZ hm; exact absurd hm (Nat.not_lt_zero _)
    | succ nn ih28 =>
      intro x Z a hx hZ hm28 H locs hP hD hS ls hl
      refine lv_iload zx zb dX2_runYear_28 (lv_at hl 4 rfl) ?_
      refine lv_aload_n zx zb dX2_runYear_30 rfl (lv_at hl 0 rfl) ?_
      refine g_get (v := .int (nI (C.1))) XX hP 0 0 rfl rfl rfl iwX2 1 (by decide) fl_X2_46 rfl dX2_runYear_31 ?_
      refine lv_icmp_ge (tgt := 85) zx zb dX2_runYear_34 (by decide) (fun c_34 => ?_) (fun c_34 => ?_)
      · have c_34 : C.1 ≤ x := (nI_leI (a := C.1) (b := x) (by omega) (by omega)).mp c_34
        refine lv_aload_n zx zb dX2_runYear_85 rfl (lv_at hl 1 rfl) ?_
        refine lv_sipush (v := nI 999) zx zb dX2_runYear_86 (by decide) ?_
        refine lv_aload_n zx zb dX2_runYear_89 rfl (lv_at hl 1 rfl) ?_
        refine g_get (v := .int Z.2.1) XX hP 3 0 rfl rfl rfl iwX10 1 (by decide) fl_X2_133 rfl dX2_runYear_90 ?_
        refine lv_iload zx zb dX2_runYear_93 (lv_at hl 3 rfl) ?_
        refine lv_iadd zx zb dX2_runYear_95 ?_
        refine va_mmin (rest := [.ref (y 0)]) zx zb (hml.trans hl.1.symm) hown (hts _ ml_X2_161) (hts _ st_J9_min_7cf53) (hts _ in_J9) (hts _ cd_J9_min_7cf53) (Nat.le_of_ble_eq_true rfl) (Nat.le_of_ble_eq_true rfl) (Nat.le_of_ble_eq_true rfl) (Nat.le_of_ble_eq_true rfl) dX2_runYear_96 ?_
        refine g_top (y := imin 999 (Z.2.1 + a)) rfl ?_
        refine g_put (v := .int (imin 999 (Z.2.1 + a))) (blk' := bYr Γ y (Z.1, imin 999 (Z.2.1 + a), Z.2.2.1, Z.2.2.2.1, Z.2.2.2.2)) (bs' := [bCo Γ c k C, bTs Γ c k tr, bKd Γ k, bYr Γ y (Z.1, imin 999 (Z.2.1 + a), Z.2.2.1, Z.2.2.2.1, Z.2.2.2.2)]) XX hP hD hS 3 0 rfl rfl rfl iwX10 tyX10_ok nmX10 1 (by decide) fl_X2_133 rfl rfl rfl (Nat.le_of_ble_eq_true rfl) rfl rfl rfl dX2_runYear_99 (fun H locs hP hD hS => ?_)
        refine lv_aload_n zx zb dX2_runYear_102 rfl (lv_at hl 1 rfl) ?_
        refine lv_dup zx zb dX2_runYear_103 rfl ?_
        refine g_get (v := .int Z.1) XX hP 3 0 rfl rfl rfl iwX10 0 (by decide) fl_X2_110 rfl dX2_runYear_104 ?_
        refine lv_iconst (v := nI 1) zx zb dX2_runYear_107 (by decide) ?_
        refine lv_iadd zx zb dX2_runYear_108 ?_
        refine g_top (y := Z.1 + 1) rfl ?_
        refine g_put (v := .int (Z.1 + 1)) (blk' := bYr Γ y (Z.1 + 1, imin 999 (Z.2.1 + a), Z.2.2.1, Z.2.2.2.1, Z.2.2.2.2)) (bs' := [bCo Γ c k C, bTs Γ c k tr, bKd Γ k, bYr Γ y (Z.1 + 1, imin 999 (Z.2.1 + a), Z.2.2.1, Z.2.2.2.1, Z.2.2.2.2)]) XX hP hD hS 3 0 rfl rfl rfl iwX10 tyX10_ok nmX10 0 (by decide) fl_X2_110 rfl rfl rfl (Nat.le_of_ble_eq_true rfl) rfl rfl rfl dX2_runYear_109 (fun H locs hP hD hS => ?_)
        refine lv_iload_n zx zb dX2_runYear_112 rfl (lv_at hl 2 rfl) ?_
        exact fin _ _ (coFl C tr Y q) (Z.1 + 1, imin 999 (Z.2.1 + a), Z.2.2.1, Z.2.2.2.1, Z.2.2.2.2) 113 _ dX2_runYear_113 (fun h => by cases h) ⟨(rfl), (by have e : x = C.1 := (by omega); subst e; unfold coYear; rw [← hZ])⟩ hP hD hS
      · have c_34 : ¬ (C.1 ≤ x) := fun h => c_34 ((nI_leI (a := C.1) (b := x) (by omega) (by omega)).mpr h)
        refine lv_iload_n zx zb dX2_runYear_37 rfl (lv_at hl 2 rfl) ?_
        refine lv_iconst (v := nI 1) zx zb dX2_runYear_38 (by decide) ?_
        refine lv_iload zx zb dX2_runYear_39 (lv_at hl 4 rfl) ?_
        refine lv_ishl zx zb dX2_runYear_41 ?_
        refine g_top (y := bit x) (sh31l _ (by omega)) ?_
        refine lv_iand zx zb dX2_runYear_42 ?_
        refine lv_if_eq (tgt := 55) zx zb dX2_runYear_43 (by decide) (fun c_43 => ?_) (fun c_43 => ?_)
        · have c_43 : hasB (coFl C tr Y q) x = false := hasB_f.mp c_43
          refine lv_aload_n zx zb dX2_runYear_55 rfl (lv_at hl 1 rfl) ?_
          refine lv_iload zx zb dX2_runYear_56 (lv_at hl 4 rfl) ?_
          refine call_Vi (As := [.int (nI x)]) (rest := []) XX cv_X2_158 (c_X10_isLost Γ l y Z x (by omega)) hP hD hS hA [3] (by decide) rfl (fun _ => rfl) 3 0 rfl rfl rfl rfl hl.1 rfl ⟨⟨by decide, by decide⟩, by decide, by decide⟩ (Nat.le_of_ble_eq_true rfl) dX2_runYear_58 (fun r_58 u H locs hw hP hD hS => ?_)
          have hw := hw.symm
          subst hw
          have hP : bP Γ [bCo Γ c k C, bTs Γ c k tr, bKd Γ k, bYr Γ y Z] H := hP
          have hD : bD AA [bCo Γ c k C, bTs Γ c k tr, bKd Γ k, bYr Γ y Z] := hD
          refine lv_if_ne (tgt := 79) zx zb dX2_runYear_61 (by decide) (fun c_61 => ?_) (fun c_61 => ?_)
          · have c_61 : (yrLost Z x) = true := bI_ne c_61
            refine lv_iinc (v := nI (x + 1)) (lv' := [(5, .int (nI (x + 1))), (0, .ref (c 0)), (1, .ref (y 0)), (3, .int (coFl C tr Y q)), (4, .int a)]) zx zb dX2_runYear_79 hl (k := 4) rfl (nI_inc _ 1) (by decide) rfl (fun ls hl => ?_)
            refine lv_goto (tgt := 28) zx zb dX2_runYear_82 (by decide) ?_
            exact ih28 (x + 1) Z a (by omega) (by first | (simp [coRun, ← hZ, c_43]; done) | (simp [coRun, ← hZ, c_43, c_61]; done)) (by omega) _ _ hP hD hS _ (lv_sub hl [1, 2, 3, 4, 0] rfl)
          · have c_61 : (yrLost Z x) = false := bI_0.mp c_61
            refine lv_iload zx zb dX2_runYear_64 (lv_at hl 3 rfl) ?_
            refine lv_aload_n zx zb dX2_runYear_66 rfl (lv_at hl 0 rfl) ?_
            refine g_get (v := .ref (c 2)) XX hP 0 0 rfl rfl rfl iwX2 4 (by decide) fl_X2_15 rfl dX2_runYear_67 ?_
            refine lv_iload zx zb dX2_runYear_70 (lv_at hl 4 rfl) ?_
            refine g_ialdN (i := x) XX hP 0 2 rfl rfl (by omega) (by decide) dX2_runYear_72 ?_
            refine lv_bipush (v := nI 10) zx zb dX2_runYear_73 (by decide) ?_
            refine lv_idiv zx zb dX2_runYear_75 (by decide) ?_
            refine g_top (y := (C.2.2.2.1 x) / 10) rfl ?_
            refine lv_iadd zx zb dX2_runYear_76 ?_
            refine lv_istore (lv' := [(4, .int (a + ((C.2.2.2.1 x) / 10))), (0, .ref (c 0)), (1, .ref (y 0)), (3, .int (coFl C tr Y q)), (5, .int (nI x))]) zx zb dX2_runYear_77 hl (by decide) rfl (fun ls hl => ?_)
            refine lv_iinc (v := nI (x + 1)) (lv' := [(5, .int (nI (x + 1))), (4, .int (a + ((C.2.2.2.1 x) / 10))), (0, .ref (c 0)), (1, .ref (y 0)), (3, .int (coFl C tr Y q))]) zx zb dX2_runYear_79 hl (k := 4) rfl (nI_inc _ 1) (by decide) rfl (fun ls hl => ?_)
            refine lv_goto (tgt := 28) zx zb dX2_runYear_82 (by decide) ?_
            exact ih28 (x + 1) Z (a + ((C.2.2.2.1 x) / 10)) (by omega) (by first | (simp [coRun, ← hZ, c_43]; done) | (simp [coRun, ← hZ, c_43, c_61]; done)) (by omega) _ _ hP hD hS _ (lv_sub hl [2, 3, 4, 1, 0] rfl)
        · have c_43 : hasB (coFl C tr Y q) x = true := hasB_t.mp c_43
          refine lv_aload_n zx zb dX2_runYear_46 rfl (lv_at hl 1 rfl) ?_
          refine lv_iload zx zb dX2_runYear_47 (lv_at hl 4 rfl) ?_
          refine call_Vv (As := [.int (nI x)]) (rest := []) XX cv_X2_154 (c_X10_flood Γ l y Z x (by omega)) hP hD hS hA [3] (by decide) rfl (fun _ => rfl) 3 0 rfl rfl rfl rfl hl.1 rfl ⟨⟨by decide, by decide⟩, by decide, by decide⟩ (Nat.le_of_ble_eq_true rfl) dX2_runYear_49 (fun u H locs hw hP hD hS => ?_)
          have hw := hw.symm
          subst hw
          have hP : bP Γ [bCo Γ c k C, bTs Γ c k tr, bKd Γ k, bYr Γ y (yrFlood Z x)] H := hP
          have hD : bD AA [bCo Γ c k C, bTs Γ c k tr, bKd Γ k, bYr Γ y (yrFlood Z x)] := hD
          refine lv_goto (tgt := 79) zx zb dX2_runYear_52 (by decide) ?_
          refine lv_iinc (v := nI (x + 1)) (lv' := [(5, .int (nI (x + 1))), (0, .ref (c 0)), (1, .ref (y 0)), (3, .int (coFl C tr Y q)), (4, .int a)]) zx zb dX2_runYear_79 hl (k := 4) rfl (nI_inc _ 1) (by decide) rfl (fun ls hl => ?_)
          refine lv_goto (tgt := 28) zx zb dX2_runYear_82 (by decide) ?_
          exact ih28 (x + 1) (yrFlood Z x) a (by omega) (by first | (simp [coRun, ← hZ, c_43]; done) | (simp [coRun, ← hZ, c_43, c_61]; done)) (by omega) _ _ hP hD hS _ (lv_sub hl [1, 2, 3, 4, 0] rfl)
  exact L28 _ 0 (coPay tr Y (coTc C)) 0 (by omega) (rfl) (Nat.lt_succ_self _) _ _ hP hD hS _ (lv_sub hl [3, 4, 2, 1, 0] rfl)

set_option maxHeartbeats 4000000 in
set_option maxRecDepth 100000 in
theorem c_X2_setCell (Γ : GG) (l : Launch) (c : Nat → Nat) (k : Nat → Nat) (C : CoV) (x : Nat) (h : Int32) (w : Int32) (t : Int32) (hx : x < 8) : Cv Γ l yX2_setCell cX2_setCell 5 none 0 0 0 0 [.ref (c 0), .int (nI x), .int h, .int w, .int t] [bCo Γ c k C] (fun (u : CoV) => u = coSetCell C x h w t) (fun (u : CoV) => [bCo Γ c k u]) := by
  refine Cv.of rfl (by decide) (Nat.le_of_ble_eq_true rfl) ?_
  intro pp ee ss mm bb me cd AA QQ XX hnm hA hP hD fin ls hl
  obtain ⟨zx, zb, hml, hown, hts, hK⟩ := id XX
  have hS : va_S AA ss.heap ss.heap [] := va_S.rf
  have hl : lv_has ls 5 [(0, .ref (c 0)), (1, .int (nI x)), (2, .int h), (3, .int w), (4, .int t)] := hl
  refine lv_aload_n zx zb dX2_setCell_0 rfl (lv_at hl 0 rfl) ?_
  refine g_get (v := .ref (c 1)) XX hP 0 0 rfl rfl rfl iwX2 3 (by decide) fl_X2_9 rfl dX2_setCell_1 ?_
  refine lv_iload_n zx zb dX2_setCell_4 rfl (lv_at hl 1 rfl) ?_
  refine lv_iload_n zx zb dX2_setCell_5 rfl (lv_at hl 2 rfl) ?_
  refine g_iastN (x := h) (i := x) (blk' := bCo Γ c k (C.1, C.2.1, upd C.2.2.1 x h, C.2.2.2.1, C.2.2.2.2.1, C.2.2.2.2.2.1, C.2.2.2.2.2.2.1, C.2.2.2.2.2.2.2.1, C.2.2.2.2.2.2.2.2.1, C.2.2.2.2.2.2.2.2.2.1, C.2.2.2.2.2.2.2.2.2.2)) (bs' := [bCo Γ c k (C.1, C.2.1, upd C.2.2.1 x h, C.2.2.2.1, C.2.2.2.2.1, C.2.2.2.2.2.1, C.2.2.2.2.2.2.1, C.2.2.2.2.2.2.2.1, C.2.2.2.2.2.2.2.2.1, C.2.2.2.2.2.2.2.2.2.1, C.2.2.2.2.2.2.2.2.2.2)]) XX hP hD hS 0 1 rfl rfl (by omega) (by decide) rfl rfl dX2_setCell_6 (fun H locs hP hD hS => ?_)
  refine lv_aload_n zx zb dX2_setCell_7 rfl (lv_at hl 0 rfl) ?_
  refine g_get (v := .ref (c 2)) XX hP 0 0 rfl rfl rfl iwX2 4 (by decide) fl_X2_15 rfl dX2_setCell_8 ?_
  refine lv_iload_n zx zb dX2_setCell_11 rfl (lv_at hl 1 rfl) ?_
  refine lv_iload_n zx zb dX2_setCell_12 rfl (lv_at hl 3 rfl) ?_
  refine g_iastN (x := w) (i := x) (blk' := bCo Γ c k (C.1, C.2.1, upd C.2.2.1 x h, upd C.2.2.2.1 x w, C.2.2.2.2.1, C.2.2.2.2.2.1, C.2.2.2.2.2.2.1, C.2.2.2.2.2.2.2.1, C.2.2.2.2.2.2.2.2.1, C.2.2.2.2.2.2.2.2.2.1, C.2.2.2.2.2.2.2.2.2.2)) (bs' := [bCo Γ c k (C.1, C.2.1, upd C.2.2.1 x h, upd C.2.2.2.1 x w, C.2.2.2.2.1, C.2.2.2.2.2.1, C.2.2.2.2.2.2.1, C.2.2.2.2.2.2.2.1, C.2.2.2.2.2.2.2.2.1, C.2.2.2.2.2.2.2.2.2.1, C.2.2.2.2.2.2.2.2.2.2)]) XX hP hD hS 0 2 rfl rfl (by omega) (by decide) rfl rfl dX2_setCell_13 (fun H locs hP hD hS => ?_)
  refine lv_aload_n zx zb dX2_setCell_14 rfl (lv_at hl 0 rfl) ?_
  refine g_get (v := .ref (c 3)) XX hP 0 0 rfl rfl rfl iwX2 5 (by decide) fl_X2_18 rfl dX2_setCell_15 ?_
  refine lv_iload_n zx zb dX2_setCell_18 rfl (lv_at hl 1 rfl) ?_
  refine lv_iload zx zb dX2_setCell_19 (lv_at hl 4 rfl) ?_
  refine g_iastN (x := t) (i := x) (blk' := bCo Γ c k (C.1, C.2.1, upd C.2.2.1 x h, upd C.2.2.2.1 x w, upd C.2.2.2.2.1 x t, C.2.2.2.2.2.1, C.2.2.2.2.2.2.1, C.2.2.2.2.2.2.2.1, C.2.2.2.2.2.2.2.2.1, C.2.2.2.2.2.2.2.2.2.1, C.2.2.2.2.2.2.2.2.2.2)) (bs' := [bCo Γ c k (C.1, C.2.1, upd C.2.2.1 x h, upd C.2.2.2.1 x w, upd C.2.2.2.2.1 x t, C.2.2.2.2.2.1, C.2.2.2.2.2.2.1, C.2.2.2.2.2.2.2.1, C.2.2.2.2.2.2.2.2.1, C.2.2.2.2.2.2.2.2.2.1, C.2.2.2.2.2.2.2.2.2.2)]) XX hP hD hS 0 3 rfl rfl (by omega) (by decide) rfl rfl dX2_setCell_21 (fun H locs hP hD hS => ?_)
  exact fin _ _ (C.1, C.2.1, upd C.2.2.1 x h, upd C.2.2.2.1 x w, upd C.2.2.2.2.1 x t, C.2.2.2.2.2.1, C.2.2.2.2.2.2.1, C.2.2.2.2.2.2.2.1, C.2.2.2.2.2.2.2.2.1, C.2.2.2.2.2.2.2.2.2.1, C.2.2.2.2.2.2.2.2.2.2) 22 _ dX2_setCell_22 (rfl) hP hD hS

set_option maxHeartbeats 4000000 in
set_option maxRecDepth 100000 in
theorem c_X2_begin (Γ : GG) (l : Launch) (c : Nat → Nat) (k : Nat → Nat) (C : CoV) (n : Nat)  : Cv Γ l yX2_begin cX2_begin 3 none 1 24 0 0 [.ref (c 0), .int (nI n)] [bCo Γ c k C] (fun (u : CoV) => u = co0 n C) (fun (u : CoV) => [bCo Γ c k u]) := by
  refine Cv.of rfl (by decide) (Nat.le_of_ble_eq_true rfl) ?_
  intro pp ee ss mm bb me cd AA QQ XX hnm hA hP hD fin ls hl
  obtain ⟨zx, zb, hml, hown, hts, hK⟩ := id XX
  have hS : va_S AA ss.heap ss.heap [] := va_S.rf
  have hl : lv_has ls 3 [(0, .ref (c 0)), (1, .int (nI n))] := hl
  refine lv_aload_n zx zb dX2_begin_0 rfl (lv_at hl 0 rfl) ?_
  refine lv_iload_n zx zb dX2_begin_1 rfl (lv_at hl 1 rfl) ?_
  refine g_put (v := .int (nI n)) (blk' := bCo Γ c k (n, C.2.1, C.2.2.1, C.2.2.2.1, C.2.2.2.2.1, C.2.2.2.2.2.1, C.2.2.2.2.2.2.1, C.2.2.2.2.2.2.2.1, C.2.2.2.2.2.2.2.2.1, C.2.2.2.2.2.2.2.2.2.1, C.2.2.2.2.2.2.2.2.2.2)) (bs' := [bCo Γ c k (n, C.2.1, C.2.2.1, C.2.2.2.1, C.2.2.2.2.1, C.2.2.2.2.2.1, C.2.2.2.2.2.2.1, C.2.2.2.2.2.2.2.1, C.2.2.2.2.2.2.2.2.1, C.2.2.2.2.2.2.2.2.2.1, C.2.2.2.2.2.2.2.2.2.2)]) XX hP hD hS 0 0 rfl rfl rfl iwX2 tyX2_ok nmX2 1 (by decide) fl_X2_46 rfl rfl rfl (Nat.le_of_ble_eq_true rfl) rfl rfl rfl dX2_begin_2 (fun H locs hP hD hS => ?_)
  refine lv_aload_n zx zb dX2_begin_5 rfl (lv_at hl 0 rfl) ?_
  refine lv_iconst (v := nI 4) zx zb dX2_begin_6 (by decide) ?_
  refine g_put (v := .int (nI 4)) (blk' := bCo Γ c k (n, nI 4, C.2.2.1, C.2.2.2.1, C.2.2.2.2.1, C.2.2.2.2.2.1, C.2.2.2.2.2.2.1, C.2.2.2.2.2.2.2.1, C.2.2.2.2.2.2.2.2.1, C.2.2.2.2.2.2.2.2.2.1, C.2.2.2.2.2.2.2.2.2.2)) (bs' := [bCo Γ c k (n, nI 4, C.2.2.1, C.2.2.2.1, C.2.2.2.2.1, C.2.2.2.2.2.1, C.2.2.2.2.2.2.1, C.2.2.2.2.2.2.2.1, C.2.2.2.2.2.2.2.2.1, C.2.2.2.2.2.2.2.2.2.1, C.2.2.2.2.2.2.2.2.2.2)]) XX hP hD hS 0 0 rfl rfl rfl iwX2 tyX2_ok nmX2 2 (by decide) fl_X2_50 rfl rfl rfl (Nat.le_of_ble_eq_true rfl) rfl rfl rfl dX2_begin_7 (fun H locs hP hD hS => ?_)
  refine lv_aload_n zx zb dX2_begin_10 rfl (lv_at hl 0 rfl) ?_
  refine lv_iconst (v := nI 0) zx zb dX2_begin_11 (by decide) ?_
  refine g_put (v := .int (nI 0)) (blk' := bCo Γ c k (n, nI 4, C.2.2.1, C.2.2.2.1, C.2.2.2.2.1, C.2.2.2.2.2.1, 0, C.2.2.2.2.2.2.2.1, C.2.2.2.2.2.2.2.2.1, C.2.2.2.2.2.2.2.2.2.1, C.2.2.2.2.2.2.2.2.2.2)) (bs' := [bCo Γ c k (n, nI 4, C.2.2.1, C.2.2.2.1, C.2.2.2.2.1, C.2.2.2.2.2.1, 0, C.2.2.2.2.2.2.2.1, C.2.2.2.2.2.2.2.2.1, C.2.2.2.2.2.2.2.2.2.1, C.2.2.2.2.2.2.2.2.2.2)]) XX hP hD hS 0 0 rfl rfl rfl iwX2 tyX2_ok nmX2 8 (by decide) fl_X2_53 rfl rfl rfl (Nat.le_of_ble_eq_true rfl) rfl rfl rfl dX2_begin_12 (fun H locs hP hD hS => ?_)
  refine lv_aload_n zx zb dX2_begin_15 rfl (lv_at hl 0 rfl) ?_
  refine lv_iconst (v := nI 0) zx zb dX2_begin_16 (by decide) ?_
  refine g_put (v := .int (nI 0)) (blk' := bCo Γ c k (n, nI 4, C.2.2.1, C.2.2.2.1, C.2.2.2.2.1, C.2.2.2.2.2.1, 0, 0, C.2.2.2.2.2.2.2.2.1, C.2.2.2.2.2.2.2.2.2.1, C.2.2.2.2.2.2.2.2.2.2)) (bs' := [bCo Γ c k (n, nI 4, C.2.2.1, C.2.2.2.1, C.2.2.2.2.1, C.2.2.2.2.2.1, 0, 0, C.2.2.2.2.2.2.2.2.1, C.2.2.2.2.2.2.2.2.2.1, C.2.2.2.2.2.2.2.2.2.2)]) XX hP hD hS 0 0 rfl rfl rfl iwX2 tyX2_ok nmX2 12 (by decide) fl_X2_56 rfl rfl rfl (Nat.le_of_ble_eq_true rfl) rfl rfl rfl dX2_begin_17 (fun H locs hP hD hS => ?_)
  refine lv_iconst (v := nI 0) zx zb dX2_begin_20 (by decide) ?_
  refine lv_istore_n (lv' := [(2, .int (nI 0)), (0, .ref (c 0)), (1, .int (nI n))]) zx zb dX2_begin_21 rfl hl (by decide) rfl (fun ls hl => ?_)
  have L22 : ∀ (nn : Nat) (i : Nat) (f : Nat → Int32) (g : Nat → Int32) (h : Nat → Int32), (i ≤ 8) → (∀ j, j < i → f j = 2) → (∀ j, j < i → g j = 10) → (∀ j, j < i → h j = 0) → 8 - i < nn → ∀ (H : Heap) (locs : List Loc), bP Γ [bCo Γ c k (n, nI 4, f, g, h, C.2.2.2.2.2.1, 0, 0, C.2.2.2.2.2.2.2.2.1, C.2.2.2.2.2.2.2.2.2.1, C.2.2.2.2.2.2.2.2.2.2)] H → bD AA [bCo Γ c k (n, nI 4, f, g, h, C.2.2.2.2.2.1, 0, 0, C.2.2.2.2.2.2.2.2.1, C.2.2.2.2.2.2.2.2.2.1, C.2.2.2.2.2.2.2.2.2.2)] → va_S AA ss.heap H locs → ∀ (ls : Array Slot), lv_has ls 3 [(0, .ref (c 0)), (2, .int (nI i))] → W pp l ee { frames := 1, cells := 0, slots := 0, locals := 24 } ss mm [.ref (c 0), .int (nI n)].toArray bb me cd H locs 0 0 QQ (F0 mm 22 ls []) := by
    intro nn
    induction nn with
    | zero => intro i f g h hi hf hg hh hm; exact absurd hm (Nat.not_lt_zero _)
    | succ nn ih22 =>
      intro i f g h hi hf hg hh hm22 H locs hP hD hS ls hl
      refine lv_iload_n zx zb dX2_begin_22 rfl (lv_at hl 1 rfl) ?_
      refine lv_bipush (v := nI 8) zx zb dX2_begin_23 (by decide) ?_
      refine lv_icmp_ge (tgt := 43) zx zb dX2_begin_25 (by decide) (fun c_25 => ?_) (fun c_25 => ?_)
      · have c_25 : 8 ≤ i := (nI_leI (a := 8) (b := i) (by omega) (by omega)).mp c_25
        have hi8 : i = 8 := by omega
        subst hi8
        have hP := bl_congr hP 0 1 rfl (fun _ => 2) rfl (fun j hj => hf j (by omega)) rfl rfl
        have hD := bl_congrD hD 0 1 rfl (e := .inl (Γ.2 0, 8, .inl (fun _ => 2))) rfl rfl rfl
        have hP := bl_congr hP 0 2 rfl (fun _ => 10) rfl (fun j hj => hg j (by omega)) rfl rfl
        have hD := bl_congrD hD 0 2 rfl (e := .inl (Γ.2 0, 8, .inl (fun _ => 10))) rfl rfl rfl
        have hP := bl_congr hP 0 3 rfl (fun _ => 0) rfl (fun j hj => hh j (by omega)) rfl rfl
        have hD := bl_congrD hD 0 3 rfl (e := .inl (Γ.2 0, 8, .inl (fun _ => 0))) rfl rfl rfl
        refine lv_iconst (v := nI 0) zx zb dX2_begin_43 (by decide) ?_
        refine lv_istore_n (lv' := [(2, .int (nI 0)), (0, .ref (c 0))]) zx zb dX2_begin_44 rfl hl (by decide) rfl (fun ls hl => ?_)
        have L45 : ∀ (nn : Nat) (i : Nat) (w : Nat → Int32), (i ≤ 8) → (∀ j, j < i → w j = 3) → 8 - i < nn → ∀ (H : Heap) (locs : List Loc), bP Γ [bCo Γ c k (n, nI 4, fun _ => 2, fun _ => 10, fun _ => 0, w, 0, 0, C.2.2.2.2.2.2.2.2.1, C.2.2.2.2.2.2.2.2.2.1, C.2.2.2.2.2.2.2.2.2.2)] H → bD AA [bCo Γ c k (n, nI 4, fun _ => 2, fun _ => 10, fun _ => 0, w, 0, 0, C.2.2.2.2.2.2.2.2.1, C.2.2.2.2.2.2.2.2.2.1, C.2.2.2.2.2.2.2.2.2.2)] → va_S AA ss.heap H locs → ∀ (ls : Array Slot), lv_has ls 3 [(0, .ref (c 0)), (2, .int (nI i))] → W pp l ee { frames := 1, cells := 0, slots := 0, locals := 24 } ss mm [.ref (c 0), .int (nI n)].toArray bb me cd H locs 0 0 QQ (F0 mm 45 ls []) := by
          intro nn
          induction nn with
          | zero => intro i w hi hw hm; exact absurd hm (Nat.not_lt_zero _)
          | succ nn ih45 =>
            intro i w hi hw hm45 H locs hP hD hS ls hl
            refine lv_iload_n zx zb dX2_begin_45 rfl (lv_at hl 1 rfl) ?_
            refine lv_bipush (v := nI 8) zx zb dX2_begin_46 (by decide) ?_
            refine lv_icmp_ge (tgt := 64) zx zb dX2_begin_48 (by decide) (fun c_48 => ?_) (fun c_48 => ?_)
            · have c_48 : 8 ≤ i := (nI_leI (a := 8) (b := i) (by omega) (by omega)).mp c_48
              have hP := bl_congr hP 0 4 rfl (fun _ => 3) rfl (fun j hj => hw j (by omega)) rfl rfl
              have hD := bl_congrD hD 0 4 rfl (e := .inl (Γ.2 0, 8, .inl (fun _ => 3))) rfl rfl rfl
              exact fin _ _ (co0 n C) 64 _ dX2_begin_64 (rfl) hP hD hS
            · have c_48 : ¬ (8 ≤ i) := fun h => c_48 ((nI_leI (a := 8) (b := i) (by omega) (by omega)).mpr h)
              refine lv_aload_n zx zb dX2_begin_51 rfl (lv_at hl 0 rfl) ?_
              refine g_get (v := .ref (c 4)) XX hP 0 0 rfl rfl rfl iwX2 6 (by decide) fl_X2_21 rfl dX2_begin_52 ?_
              refine lv_iload_n zx zb dX2_begin_55 rfl (lv_at hl 1 rfl) ?_
              refine lv_iconst (v := nI 3) zx zb dX2_begin_56 (by decide) ?_
              refine g_iastN (x := nI 3) (i := i) (blk' := bCo Γ c k (n, nI 4, fun _ => 2, fun _ => 10, fun _ => 0, upd w i (nI 3), 0, 0, C.2.2.2.2.2.2.2.2.1, C.2.2.2.2.2.2.2.2.2.1, C.2.2.2.2.2.2.2.2.2.2)) (bs' := [bCo Γ c k (n, nI 4, fun _ => 2, fun _ => 10, fun _ => 0, upd w i (nI 3), 0, 0, C.2.2.2.2.2.2.2.2.1, C.2.2.2.2.2.2.2.2.2.1, C.2.2.2.2.2.2.2.2.2.2)]) XX hP hD hS 0 4 rfl rfl (by omega) (by decide) rfl rfl dX2_begin_57 (fun H locs hP hD hS => ?_)
              refine lv_iinc (v := nI (i + 1)) (lv' := [(2, .int (nI (i + 1))), (0, .ref (c 0))]) zx zb dX2_begin_58 hl (k := 1) rfl (nI_inc _ 1) (by decide) rfl (fun ls hl => ?_)
              refine lv_goto (tgt := 45) zx zb dX2_begin_61 (by decide) ?_
              exact ih45 (i + 1) (upd w i (nI 3)) (by omega) (upd_z hw) (by omega) _ _ hP hD hS _ (lv_sub hl [1, 0] rfl)
        exact L45 _ 0 C.2.2.2.2.2.1 (by omega) (lt_0) (Nat.lt_succ_self _) _ _ hP hD hS _ (lv_sub hl [1, 0] rfl)
      · have c_25 : ¬ (8 ≤ i) := fun h => c_25 ((nI_leI (a := 8) (b := i) (by omega) (by omega)).mpr h)
        refine lv_aload_n zx zb dX2_begin_28 rfl (lv_at hl 0 rfl) ?_
        refine lv_iload_n zx zb dX2_begin_29 rfl (lv_at hl 1 rfl) ?_
        refine lv_iconst (v := nI 2) zx zb dX2_begin_30 (by decide) ?_
        refine lv_bipush (v := nI 10) zx zb dX2_begin_31 (by decide) ?_
        refine lv_iconst (v := nI 0) zx zb dX2_begin_33 (by decide) ?_
        refine call_Vv (As := [.int (nI i), .int (nI 2), .int (nI 10), .int (nI 0)]) (rest := []) XX cv_X2_59 (c_X2_setCell Γ l c k (n, nI 4, f, g, h, C.2.2.2.2.2.1, 0, 0, C.2.2.2.2.2.2.2.2.1, C.2.2.2.2.2.2.2.2.2.1, C.2.2.2.2.2.2.2.2.2.2) i 2 10 0 (by omega)) hP hD hS hA [0] (by decide) rfl (fun _ => rfl) 0 0 rfl rfl rfl rfl hl.1 rfl ⟨⟨by decide, by decide⟩, by decide, by decide⟩ (Nat.le_of_ble_eq_true rfl) dX2_begin_34 (fun u H locs hw hP hD hS => ?_)
        have hw := hw.symm
        subst hw
        have hP : bP Γ [bCo Γ c k (coSetCell (n, nI 4, f, g, h, C.2.2.2.2.2.1, 0, 0, C.2.2.2.2.2.2.2.2.1, C.2.2.2.2.2.2.2.2.2.1, C.2.2.2.2.2.2.2.2.2.2) i 2 10 0)] H := hP
        have hD : bD AA [bCo Γ c k (coSetCell (n, nI 4, f, g, h, C.2.2.2.2.2.1, 0, 0, C.2.2.2.2.2.2.2.2.1, C.2.2.2.2.2.2.2.2.2.1, C.2.2.2.2.2.2.2.2.2.2) i 2 10 0)] := hD
        refine lv_iinc (v := nI (i + 1)) (lv' := [(2, .int (nI (i + 1))), (0, .ref (c 0))]) zx zb dX2_begin_37 hl (k := 1) rfl (nI_inc _ 1) (by decide) rfl (fun ls hl => ?_)
        refine lv_goto (tgt := 22) zx zb dX2_begin_40 (by decide) ?_
        exact ih22 (i + 1) ((coSetCell (n, nI 4, f, g, h, C.2.2.2.2.2.1, 0, 0, C.2.2.2.2.2.2.2.2.1, C.2.2.2.2.2.2.2.2.2.1, C.2.2.2.2.2.2.2.2.2.2) i 2 10 0).2.2.1) ((coSetCell (n, nI 4, f, g, h, C.2.2.2.2.2.1, 0, 0, C.2.2.2.2.2.2.2.2.1, C.2.2.2.2.2.2.2.2.2.1, C.2.2.2.2.2.2.2.2.2.2) i 2 10 0).2.2.2.1) ((coSetCell (n, nI 4, f, g, h, C.2.2.2.2.2.1, 0, 0, C.2.2.2.2.2.2.2.2.1, C.2.2.2.2.2.2.2.2.2.1, C.2.2.2.2.2.2.2.2.2.2) i 2 10 0).2.2.2.2.1) (by omega) (upd_z hf) (upd_z hg) (upd_z hh) (by omega) _ _ hP hD hS _ (lv_sub hl [1, 0] rfl)
  exact L22 _ 0 C.2.2.1 C.2.2.2.1 C.2.2.2.2.1 (by omega) (lt_0) (lt_0) (lt_0) (Nat.lt_succ_self _) _ _ hP hD hS _ (lv_sub hl [1, 0] rfl)

set_option maxHeartbeats 4000000 in
set_option maxRecDepth 100000 in
theorem c_X2_addTreaty (Γ : GG) (l : Launch) (c : Nat → Nat) (k : Nat → Nat) (C : CoV) (tr : Nat → TrV) (kd : Nat) (a : Int32) (b : Int32) (f : Int32) (t : Int32) (q : Int32) (htc : C.2.2.2.2.2.2.1 ≤ 6) (hk6 : kd < 6) : Ci Γ l yX2_addTreaty cX2_addTreaty 8 (some (.int)) 3 63 0 0 [.ref (c 0), .int (nI kd), .int a, .int b, .int f, .int t, .int q] [bCo Γ c k C, bTs Γ c k tr, bKd Γ k] (fun (r : Int32) (u : CoV × (Nat → TrV)) => r = coAddR C ∧ u = coAdd C tr kd a b f t q) (fun (u : CoV × (Nat → TrV)) => [bCo Γ c k u.1, bTs Γ c k u.2, bKd Γ k]) := by
  refine Ci.of (Or.inl rfl) (by decide) (Nat.le_of_ble_eq_true rfl) ?_
  intro pp ee ss mm bb me cd AA QQ XX hnm hA hP hD fin ls hl
  obtain ⟨zx, zb, hml, hown, hts, hK⟩ := id XX
  have hS : va_S AA ss.heap ss.heap [] := va_S.rf
  have hl : lv_has ls 8 [(0, .ref (c 0)), (1, .int (nI kd)), (2, .int a), (3, .int b), (4, .int f), (5, .int t), (6, .int q)] := hl
  refine lv_aload_n zx zb dX2_addTreaty_0 rfl (lv_at hl 0 rfl) ?_
  refine g_get (v := .int (nI (C.2.2.2.2.2.2.1))) XX hP 0 0 rfl rfl rfl iwX2 8 (by decide) fl_X2_53 rfl dX2_addTreaty_1 ?_
  refine lv_bipush (v := nI 6) zx zb dX2_addTreaty_4 (by decide) ?_
  refine lv_icmp_lt (tgt := 12) zx zb dX2_addTreaty_6 (by decide) (fun c_6 => ?_) (fun c_6 => ?_)
  · have c_6 : C.2.2.2.2.2.2.1 < 6 := (nI_ltI (a := C.2.2.2.2.2.2.1) (b := 6) (by omega) (by omega)).mp c_6
    refine lv_aload_n zx zb dX2_addTreaty_12 rfl (lv_at hl 0 rfl) ?_
    refine g_get (v := .ref (c 5)) XX hP 0 0 rfl rfl rfl iwX2 7 (by decide) fl_X2_26 rfl dX2_addTreaty_13 ?_
    refine lv_aload_n zx zb dX2_addTreaty_16 rfl (lv_at hl 0 rfl) ?_
    refine g_get (v := .int (nI (C.2.2.2.2.2.2.1))) XX hP 0 0 rfl rfl rfl iwX2 8 (by decide) fl_X2_53 rfl dX2_addTreaty_17 ?_
    refine g_aald (i := C.2.2.2.2.2.2.1) (v := c (6 + C.2.2.2.2.2.2.1)) XX hP 0 5 4 rfl rfl rfl (by omega) (by decide) rfl dX2_addTreaty_20 ?_
    refine lv_astore (lv' := [(7, .ref (c (6 + C.2.2.2.2.2.2.1))), (0, .ref (c 0)), (1, .int (nI kd)), (2, .int a), (3, .int b), (4, .int f), (5, .int t), (6, .int q)]) zx zb dX2_addTreaty_21 hl (by decide) rfl (fun ls hl => ?_)
    refine lv_aload zx zb dX2_addTreaty_23 (lv_at hl 0 rfl) ?_
    refine lv_aload_n zx zb dX2_addTreaty_25 rfl (lv_at hl 1 rfl) ?_
    refine g_get (v := .ref (k 6)) XX hP 0 0 rfl rfl rfl iwX2 0 (by decide) fl_X2_39 rfl dX2_addTreaty_26 ?_
    refine lv_iload_n zx zb dX2_addTreaty_29 rfl (lv_at hl 2 rfl) ?_
    refine g_aald (i := kd) (v := k kd) XX hP 2 0 2 rfl rfl rfl (by omega) (by decide) rfl dX2_addTreaty_30 ?_
    refine g_put (v := .ref (k kd)) (blk' := bTs Γ c k (va_up tr C.2.2.2.2.2.2.1 (kd, (tr C.2.2.2.2.2.2.1).2.1, (tr C.2.2.2.2.2.2.1).2.2.1, (tr C.2.2.2.2.2.2.1).2.2.2.1, (tr C.2.2.2.2.2.2.1).2.2.2.2.1, (tr C.2.2.2.2.2.2.1).2.2.2.2.2.1, (tr C.2.2.2.2.2.2.1).2.2.2.2.2.2.1, (tr C.2.2.2.2.2.2.1).2.2.2.2.2.2.2))) (bs' := [bCo Γ c k C, bTs Γ c k (va_up tr C.2.2.2.2.2.2.1 (kd, (tr C.2.2.2.2.2.2.1).2.1, (tr C.2.2.2.2.2.2.1).2.2.1, (tr C.2.2.2.2.2.2.1).2.2.2.1, (tr C.2.2.2.2.2.2.1).2.2.2.2.1, (tr C.2.2.2.2.2.2.1).2.2.2.2.2.1, (tr C.2.2.2.2.2.2.1).2.2.2.2.2.2.1, (tr C.2.2.2.2.2.2.1).2.2.2.2.2.2.2)), bKd Γ k]) XX hP hD hS 1 C.2.2.2.2.2.2.1 rfl (bTs_at Γ c k tr (by omega)) rfl iwX9 tyX9_ok nmX9 0 (by decide) fl_X2_73 rfl rfl rfl (Nat.le_of_ble_eq_true rfl) rfl (bTs_set (t := (kd, (tr C.2.2.2.2.2.2.1).2.1, (tr C.2.2.2.2.2.2.1).2.2.1, (tr C.2.2.2.2.2.2.1).2.2.2.1, (tr C.2.2.2.2.2.2.1).2.2.2.2.1, (tr C.2.2.2.2.2.2.1).2.2.2.2.2.1, (tr C.2.2.2.2.2.2.1).2.2.2.2.2.2.1, (tr C.2.2.2.2.2.2.1).2.2.2.2.2.2.2)) (by omega)) rfl dX2_addTreaty_31 (fun H locs hP hD hS => ?_)
    refine lv_aload zx zb dX2_addTreaty_34 (lv_at hl 0 rfl) ?_
    refine lv_iload_n zx zb dX2_addTreaty_36 rfl (lv_at hl 2 rfl) ?_
    refine g_put (v := .int (nI kd)) (blk' := bTs Γ c k (va_up tr C.2.2.2.2.2.2.1 (kd, nI kd, (tr C.2.2.2.2.2.2.1).2.2.1, (tr C.2.2.2.2.2.2.1).2.2.2.1, (tr C.2.2.2.2.2.2.1).2.2.2.2.1, (tr C.2.2.2.2.2.2.1).2.2.2.2.2.1, (tr C.2.2.2.2.2.2.1).2.2.2.2.2.2.1, (tr C.2.2.2.2.2.2.1).2.2.2.2.2.2.2))) (bs' := [bCo Γ c k C, bTs Γ c k (va_up tr C.2.2.2.2.2.2.1 (kd, nI kd, (tr C.2.2.2.2.2.2.1).2.2.1, (tr C.2.2.2.2.2.2.1).2.2.2.1, (tr C.2.2.2.2.2.2.1).2.2.2.2.1, (tr C.2.2.2.2.2.2.1).2.2.2.2.2.1, (tr C.2.2.2.2.2.2.1).2.2.2.2.2.2.1, (tr C.2.2.2.2.2.2.1).2.2.2.2.2.2.2)), bKd Γ k]) XX hP hD hS 1 C.2.2.2.2.2.2.1 rfl (bTs_at2 Γ c k tr (kd, (tr C.2.2.2.2.2.2.1).2.1, (tr C.2.2.2.2.2.2.1).2.2.1, (tr C.2.2.2.2.2.2.1).2.2.2.1, (tr C.2.2.2.2.2.2.1).2.2.2.2.1, (tr C.2.2.2.2.2.2.1).2.2.2.2.2.1, (tr C.2.2.2.2.2.2.1).2.2.2.2.2.2.1, (tr C.2.2.2.2.2.2.1).2.2.2.2.2.2.2) (by omega)) rfl iwX9 tyX9_ok nmX9 1 (by decide) fl_X2_77 rfl rfl rfl (Nat.le_of_ble_eq_true rfl) rfl (bTs_set2 (t := (kd, nI kd, (tr C.2.2.2.2.2.2.1).2.2.1, (tr C.2.2.2.2.2.2.1).2.2.2.1, (tr C.2.2.2.2.2.2.1).2.2.2.2.1, (tr C.2.2.2.2.2.2.1).2.2.2.2.2.1, (tr C.2.2.2.2.2.2.1).2.2.2.2.2.2.1, (tr C.2.2.2.2.2.2.1).2.2.2.2.2.2.2)) (by omega)) rfl dX2_addTreaty_37 (fun H locs hP hD hS => ?_)
    refine lv_aload zx zb dX2_addTreaty_40 (lv_at hl 0 rfl) ?_
    refine lv_iload_n zx zb dX2_addTreaty_42 rfl (lv_at hl 3 rfl) ?_
    refine g_put (v := .int a) (blk' := bTs Γ c k (va_up tr C.2.2.2.2.2.2.1 (kd, nI kd, a, (tr C.2.2.2.2.2.2.1).2.2.2.1, (tr C.2.2.2.2.2.2.1).2.2.2.2.1, (tr C.2.2.2.2.2.2.1).2.2.2.2.2.1, (tr C.2.2.2.2.2.2.1).2.2.2.2.2.2.1, (tr C.2.2.2.2.2.2.1).2.2.2.2.2.2.2))) (bs' := [bCo Γ c k C, bTs Γ c k (va_up tr C.2.2.2.2.2.2.1 (kd, nI kd, a, (tr C.2.2.2.2.2.2.1).2.2.2.1, (tr C.2.2.2.2.2.2.1).2.2.2.2.1, (tr C.2.2.2.2.2.2.1).2.2.2.2.2.1, (tr C.2.2.2.2.2.2.1).2.2.2.2.2.2.1, (tr C.2.2.2.2.2.2.1).2.2.2.2.2.2.2)), bKd Γ k]) XX hP hD hS 1 C.2.2.2.2.2.2.1 rfl (bTs_at2 Γ c k tr (kd, nI kd, (tr C.2.2.2.2.2.2.1).2.2.1, (tr C.2.2.2.2.2.2.1).2.2.2.1, (tr C.2.2.2.2.2.2.1).2.2.2.2.1, (tr C.2.2.2.2.2.2.1).2.2.2.2.2.1, (tr C.2.2.2.2.2.2.1).2.2.2.2.2.2.1, (tr C.2.2.2.2.2.2.1).2.2.2.2.2.2.2) (by omega)) rfl iwX9 tyX9_ok nmX9 2 (by decide) fl_X2_80 rfl rfl rfl (Nat.le_of_ble_eq_true rfl) rfl (bTs_set2 (t := (kd, nI kd, a, (tr C.2.2.2.2.2.2.1).2.2.2.1, (tr C.2.2.2.2.2.2.1).2.2.2.2.1, (tr C.2.2.2.2.2.2.1).2.2.2.2.2.1, (tr C.2.2.2.2.2.2.1).2.2.2.2.2.2.1, (tr C.2.2.2.2.2.2.1).2.2.2.2.2.2.2)) (by omega)) rfl dX2_addTreaty_43 (fun H locs hP hD hS => ?_)
    refine lv_aload zx zb dX2_addTreaty_46 (lv_at hl 0 rfl) ?_
    refine lv_iload_n zx zb dX2_addTreaty_48 rfl (lv_at hl 4 rfl) ?_
    refine g_put (v := .int b) (blk' := bTs Γ c k (va_up tr C.2.2.2.2.2.2.1 (kd, nI kd, a, b, (tr C.2.2.2.2.2.2.1).2.2.2.2.1, (tr C.2.2.2.2.2.2.1).2.2.2.2.2.1, (tr C.2.2.2.2.2.2.1).2.2.2.2.2.2.1, (tr C.2.2.2.2.2.2.1).2.2.2.2.2.2.2))) (bs' := [bCo Γ c k C, bTs Γ c k (va_up tr C.2.2.2.2.2.2.1 (kd, nI kd, a, b, (tr C.2.2.2.2.2.2.1).2.2.2.2.1, (tr C.2.2.2.2.2.2.1).2.2.2.2.2.1, (tr C.2.2.2.2.2.2.1).2.2.2.2.2.2.1, (tr C.2.2.2.2.2.2.1).2.2.2.2.2.2.2)), bKd Γ k]) XX hP hD hS 1 C.2.2.2.2.2.2.1 rfl (bTs_at2 Γ c k tr (kd, nI kd, a, (tr C.2.2.2.2.2.2.1).2.2.2.1, (tr C.2.2.2.2.2.2.1).2.2.2.2.1, (tr C.2.2.2.2.2.2.1).2.2.2.2.2.1, (tr C.2.2.2.2.2.2.1).2.2.2.2.2.2.1, (tr C.2.2.2.2.2.2.1).2.2.2.2.2.2.2) (by omega)) rfl iwX9 tyX9_ok nmX9 3 (by decide) fl_X2_83 rfl rfl rfl (Nat.le_of_ble_eq_true rfl) rfl (bTs_set2 (t := (kd, nI kd, a, b, (tr C.2.2.2.2.2.2.1).2.2.2.2.1, (tr C.2.2.2.2.2.2.1).2.2.2.2.2.1, (tr C.2.2.2.2.2.2.1).2.2.2.2.2.2.1, (tr C.2.2.2.2.2.2.1).2.2.2.2.2.2.2)) (by omega)) rfl dX2_addTreaty_49 (fun H locs hP hD hS => ?_)
    refine lv_aload zx zb dX2_addTreaty_52 (lv_at hl 0 rfl) ?_
    refine lv_iload zx zb dX2_addTreaty_54 (lv_at hl 5 rfl) ?_
    refine g_put (v := .int f) (blk' := bTs Γ c k (va_up tr C.2.2.2.2.2.2.1 (kd, nI kd, a, b, f, (tr C.2.2.2.2.2.2.1).2.2.2.2.2.1, (tr C.2.2.2.2.2.2.1).2.2.2.2.2.2.1, (tr C.2.2.2.2.2.2.1).2.2.2.2.2.2.2))) (bs' := [bCo Γ c k C, bTs Γ c k (va_up tr C.2.2.2.2.2.2.1 (kd, nI kd, a, b, f, (tr C.2.2.2.2.2.2.1).2.2.2.2.2.1, (tr C.2.2.2.2.2.2.1).2.2.2.2.2.2.1, (tr C.2.2.2.2.2.2.1).2.2.2.2.2.2.2)), bKd Γ k]) XX hP hD hS 1 C.2.2.2.2.2.2.1 rfl (bTs_at2 Γ c k tr (kd, nI kd, a, b, (tr C.2.2.2.2.2.2.1).2.2.2.2.1, (tr C.2.2.2.2.2.2.1).2.2.2.2.2.1, (tr C.2.2.2.2.2.2.1).2.2.2.2.2.2.1, (tr C.2.2.2.2.2.2.1).2.2.2.2.2.2.2) (by omega)) rfl iwX9 tyX9_ok nmX9 4 (by decide) fl_X2_86 rfl rfl rfl (Nat.le_of_ble_eq_true rfl) rfl (bTs_set2 (t := (kd, nI kd, a, b, f, (tr C.2.2.2.2.2.2.1).2.2.2.2.2.1, (tr C.2.2.2.2.2.2.1).2.2.2.2.2.2.1, (tr C.2.2.2.2.2.2.1).2.2.2.2.2.2.2)) (by omega)) rfl dX2_addTreaty_56 (fun H locs hP hD hS => ?_)
    refine lv_aload zx zb dX2_addTreaty_59 (lv_at hl 0 rfl) ?_
    refine lv_iload zx zb dX2_addTreaty_61 (lv_at hl 6 rfl) ?_
    refine g_put (v := .int t) (blk' := bTs Γ c k (va_up tr C.2.2.2.2.2.2.1 (kd, nI kd, a, b, f, t, (tr C.2.2.2.2.2.2.1).2.2.2.2.2.2.1, (tr C.2.2.2.2.2.2.1).2.2.2.2.2.2.2))) (bs' := [bCo Γ c k C, bTs Γ c k (va_up tr C.2.2.2.2.2.2.1 (kd, nI kd, a, b, f, t, (tr C.2.2.2.2.2.2.1).2.2.2.2.2.2.1, (tr C.2.2.2.2.2.2.1).2.2.2.2.2.2.2)), bKd Γ k]) XX hP hD hS 1 C.2.2.2.2.2.2.1 rfl (bTs_at2 Γ c k tr (kd, nI kd, a, b, f, (tr C.2.2.2.2.2.2.1).2.2.2.2.2.1, (tr C.2.2.2.2.2.2.1).2.2.2.2.2.2.1, (tr C.2.2.2.2.2.2.1).2.2.2.2.2.2.2) (by omega)) rfl iwX9 tyX9_ok nmX9 5 (by decide) fl_X2_89 rfl rfl rfl (Nat.le_of_ble_eq_true rfl) rfl (bTs_set2 (t := (kd, nI kd, a, b, f, t, (tr C.2.2.2.2.2.2.1).2.2.2.2.2.2.1, (tr C.2.2.2.2.2.2.1).2.2.2.2.2.2.2)) (by omega)) rfl dX2_addTreaty_63 (fun H locs hP hD hS => ?_)
    refine lv_aload zx zb dX2_addTreaty_66 (lv_at hl 0 rfl) ?_
    refine lv_iload zx zb dX2_addTreaty_68 (lv_at hl 7 rfl) ?_
    refine g_put (v := .int q) (blk' := bTs Γ c k (va_up tr C.2.2.2.2.2.2.1 (kd, nI kd, a, b, f, t, q, (tr C.2.2.2.2.2.2.1).2.2.2.2.2.2.2))) (bs' := [bCo Γ c k C, bTs Γ c k (va_up tr C.2.2.2.2.2.2.1 (kd, nI kd, a, b, f, t, q, (tr C.2.2.2.2.2.2.1).2.2.2.2.2.2.2)), bKd Γ k]) XX hP hD hS 1 C.2.2.2.2.2.2.1 rfl (bTs_at2 Γ c k tr (kd, nI kd, a, b, f, t, (tr C.2.2.2.2.2.2.1).2.2.2.2.2.2.1, (tr C.2.2.2.2.2.2.1).2.2.2.2.2.2.2) (by omega)) rfl iwX9 tyX9_ok nmX9 6 (by decide) fl_X2_92 rfl rfl rfl (Nat.le_of_ble_eq_true rfl) rfl (bTs_set2 (t := (kd, nI kd, a, b, f, t, q, (tr C.2.2.2.2.2.2.1).2.2.2.2.2.2.2)) (by omega)) rfl dX2_addTreaty_70 (fun H locs hP hD hS => ?_)
    refine lv_aload zx zb dX2_addTreaty_73 (lv_at hl 0 rfl) ?_
    refine lv_aload zx zb dX2_addTreaty_75 (lv_at hl 0 rfl) ?_
    refine g_get (v := .ref (k kd)) XX hP 1 C.2.2.2.2.2.2.1 rfl (bTs_at2 Γ c k tr (kd, nI kd, a, b, f, t, q, (tr C.2.2.2.2.2.2.1).2.2.2.2.2.2.2) (by omega)) rfl iwX9 0 (by decide) fl_X2_73 rfl dX2_addTreaty_77 ?_
    refine lv_iload zx zb dX2_addTreaty_80 (lv_at hl 7 rfl) ?_
    have K82 : ∀ (H : Heap) (locs : List Loc), bP Γ [bCo Γ c k C, bTs Γ c k (va_up tr C.2.2.2.2.2.2.1 (kd, nI kd, a, b, f, t, q, (tr C.2.2.2.2.2.2.1).2.2.2.2.2.2.2)), bKd Γ k] H → va_S AA ss.heap H locs → W pp l ee { frames := 3, cells := 0, slots := 0, locals := 63 } ss mm [.ref (c 0), .int (nI kd), .int a, .int b, .int f, .int t, .int q].toArray bb me cd H locs 0 0 QQ (F0 mm 85 ls [.int (kCosts kd q), .ref (c (6 + C.2.2.2.2.2.2.1))]) := by
      intro H locs hP hS
      refine g_put (v := .int (kCosts kd q)) (blk' := bTs Γ c k (va_up tr C.2.2.2.2.2.2.1 (kd, nI kd, a, b, f, t, q, kCosts kd q))) (bs' := [bCo Γ c k C, bTs Γ c k (va_up tr C.2.2.2.2.2.2.1 (kd, nI kd, a, b, f, t, q, kCosts kd q)), bKd Γ k]) XX hP hD hS 1 C.2.2.2.2.2.2.1 rfl (bTs_at2 Γ c k tr (kd, nI kd, a, b, f, t, q, (tr C.2.2.2.2.2.2.1).2.2.2.2.2.2.2) (by omega)) rfl iwX9 tyX9_ok nmX9 7 (by decide) fl_X2_101 rfl rfl rfl (Nat.le_of_ble_eq_true rfl) rfl (bTs_set2 (t := (kd, nI kd, a, b, f, t, q, kCosts kd q)) (by omega)) rfl dX2_addTreaty_85 (fun H locs hP hD hS => ?_)
      refine lv_aload_n zx zb dX2_addTreaty_88 rfl (lv_at hl 1 rfl) ?_
      refine lv_dup zx zb dX2_addTreaty_89 rfl ?_
      refine g_get (v := .int (nI (C.2.2.2.2.2.2.1))) XX hP 0 0 rfl rfl rfl iwX2 8 (by decide) fl_X2_53 rfl dX2_addTreaty_90 ?_
      refine lv_iconst (v := nI 1) zx zb dX2_addTreaty_93 (by decide) ?_
      refine lv_iadd zx zb dX2_addTreaty_94 ?_
      refine g_top (y := nI (C.2.2.2.2.2.2.1 + 1)) (nI_add C.2.2.2.2.2.2.1 1) ?_
      refine g_put (v := .int (nI (C.2.2.2.2.2.2.1 + 1))) (blk' := bCo Γ c k (C.1, C.2.1, C.2.2.1, C.2.2.2.1, C.2.2.2.2.1, C.2.2.2.2.2.1, C.2.2.2.2.2.2.1 + 1, C.2.2.2.2.2.2.2.1, C.2.2.2.2.2.2.2.2.1, C.2.2.2.2.2.2.2.2.2.1, C.2.2.2.2.2.2.2.2.2.2)) (bs' := [bCo Γ c k (C.1, C.2.1, C.2.2.1, C.2.2.2.1, C.2.2.2.2.1, C.2.2.2.2.2.1, C.2.2.2.2.2.2.1 + 1, C.2.2.2.2.2.2.2.1, C.2.2.2.2.2.2.2.2.1, C.2.2.2.2.2.2.2.2.2.1, C.2.2.2.2.2.2.2.2.2.2), bTs Γ c k (va_up tr C.2.2.2.2.2.2.1 (kd, nI kd, a, b, f, t, q, kCosts kd q)), bKd Γ k]) XX hP hD hS 0 0 rfl rfl rfl iwX2 tyX2_ok nmX2 8 (by decide) fl_X2_53 rfl rfl rfl (Nat.le_of_ble_eq_true rfl) rfl rfl rfl dX2_addTreaty_95 (fun H locs hP hD hS => ?_)
      refine lv_aload_n zx zb dX2_addTreaty_98 rfl (lv_at hl 1 rfl) ?_
      refine g_get (v := .int (nI (C.2.2.2.2.2.2.1 + 1))) XX hP 0 0 rfl rfl rfl iwX2 8 (by decide) fl_X2_53 rfl dX2_addTreaty_99 ?_
      refine lv_iconst (v := nI 1) zx zb dX2_addTreaty_102 (by decide) ?_
      refine lv_isub zx zb dX2_addTreaty_103 ?_
      refine g_top (y := nI (C.2.2.2.2.2.2.1 + 1 - 1)) (pk_sub (by omega)) ?_
      exact fin _ _ (nI (C.2.2.2.2.2.2.1 + 1 - 1)) ((C.1, C.2.1, C.2.2.1, C.2.2.2.1, C.2.2.2.2.1, C.2.2.2.2.2.1, C.2.2.2.2.2.2.1 + 1, C.2.2.2.2.2.2.2.1, C.2.2.2.2.2.2.2.2.1, C.2.2.2.2.2.2.2.2.2.1, C.2.2.2.2.2.2.2.2.2.2), va_up tr C.2.2.2.2.2.2.1 (kd, nI kd, a, b, f, t, q, kCosts kd q)) 104 _ dX2_addTreaty_104 (fun h => by cases h) ⟨(by unfold coAddR; rw [if_pos (by omega)]; rfl), (by unfold coAdd; rw [if_pos (by omega)])⟩ hP hD hS
    have h6_82 : kd < 6 := hk6
    rcases (show kd = 0 ∨ kd = 1 ∨ kd = 2 ∨ kd = 3 ∨ kd = 4 ∨ kd = 5 by omega) with h | h | h | h | h | h
    · refine callR_Oi (As := [.int q]) (rest := [.ref (c (6 + C.2.2.2.2.2.2.1))]) XX co_X2_95_X6 (c_X6_costs Γ l (k 0) q) hP hD hS hA nil_mem nil_D 2 1 rfl rfl rfl rfl hl.1 (by rw [h]; rfl) ⟨⟨by decide, by decide⟩, by decide, by decide⟩ (Nat.le_of_ble_eq_true rfl) dX2_addTreaty_82 (fun r H locs hw hP hS => ?_)
      have e : r = kCosts kd q := by rw [hw, h]; rfl
      rw [e]
      exact K82 H locs hP hS
    · refine callR_Oi (As := [.int q]) (rest := [.ref (c (6 + C.2.2.2.2.2.2.1))]) XX co_X2_95_X5 (c_X6_costs Γ l (k 1) q) hP hD hS hA nil_mem nil_D 2 2 rfl rfl rfl rfl hl.1 (by rw [h]; rfl) ⟨⟨by decide, by decide⟩, by decide, by decide⟩ (Nat.le_of_ble_eq_true rfl) dX2_addTreaty_82 (fun r H locs hw hP hS => ?_)
      have e : r = kCosts kd q := by rw [hw, h]; rfl
      rw [e]
      exact K82 H locs hP hS
    · refine callR_Oi (As := [.int q]) (rest := [.ref (c (6 + C.2.2.2.2.2.2.1))]) XX co_X2_95_X1 (c_X6_costs Γ l (k 2) q) hP hD hS hA nil_mem nil_D 2 3 rfl rfl rfl rfl hl.1 (by rw [h]; rfl) ⟨⟨by decide, by decide⟩, by decide, by decide⟩ (Nat.le_of_ble_eq_true rfl) dX2_addTreaty_82 (fun r H locs hw hP hS => ?_)
      have e : r = kCosts kd q := by rw [hw, h]; rfl
      rw [e]
      exact K82 H locs hP hS
    · refine callR_Oi (As := [.int q]) (rest := [.ref (c (6 + C.2.2.2.2.2.2.1))]) XX co_X2_95_X0 (c_X0_costs_0 Γ l (k 3) q) hP hD hS hA (one_mem (bs := [bCo Γ c k C, bTs Γ c k (va_up tr C.2.2.2.2.2.2.1 (kd, nI kd, a, b, f, t, q, (tr C.2.2.2.2.2.2.1).2.2.2.2.2.2.2)), bKd Γ k]) (k := 2) (j := 4) rfl rfl) (one_D _) 2 4 rfl rfl rfl rfl hl.1 (by rw [h]; rfl) ⟨⟨by decide, by decide⟩, by decide, by decide⟩ (Nat.le_of_ble_eq_true rfl) dX2_addTreaty_82 (fun r H locs hw hP hS => ?_)
      have e : r = kCosts kd q := by rw [hw, h]; rfl
      rw [e]
      exact K82 H locs hP hS
    · refine callR_Oi (As := [.int q]) (rest := [.ref (c (6 + C.2.2.2.2.2.2.1))]) XX co_X2_95_X4 (c_X4_costs_4 Γ l (k 4) q) hP hD hS hA (one_mem (bs := [bCo Γ c k C, bTs Γ c k (va_up tr C.2.2.2.2.2.2.1 (kd, nI kd, a, b, f, t, q, (tr C.2.2.2.2.2.2.1).2.2.2.2.2.2.2)), bKd Γ k]) (k := 2) (j := 5) rfl rfl) (one_D _) 2 5 rfl rfl rfl rfl hl.1 (by rw [h]; rfl) ⟨⟨by decide, by decide⟩, by decide, by decide⟩ (Nat.le_of_ble_eq_true rfl) dX2_addTreaty_82 (fun r H locs hw hP hS => ?_)
      have e : r = kCosts kd q := by rw [hw, h]; rfl
      rw [e]
      exact K82 H locs hP hS
    · refine callR_Oi (As := [.int q]) (rest := [.ref (c (6 + C.2.2.2.2.2.2.1))]) XX co_X2_95_X3 (c_X3_costs_3 Γ l (k 5) q) hP hD hS hA (one_mem (bs := [bCo Γ c k C, bTs Γ c k (va_up tr C.2.2.2.2.2.2.1 (kd, nI kd, a, b, f, t, q, (tr C.2.2.2.2.2.2.1).2.2.2.2.2.2.2)), bKd Γ k]) (k := 2) (j := 6) rfl rfl) (one_D _) 2 6 rfl rfl rfl rfl hl.1 (by rw [h]; rfl) ⟨⟨by decide, by decide⟩, by decide, by decide⟩ (Nat.le_of_ble_eq_true rfl) dX2_addTreaty_82 (fun r H locs hw hP hS => ?_)
      have e : r = kCosts kd q := by rw [hw, h]; rfl
      rw [e]
      exact K82 H locs hP hS
  · have c_6 : ¬ (C.2.2.2.2.2.2.1 < 6) := fun h => c_6 ((nI_ltI (a := C.2.2.2.2.2.2.1) (b := 6) (by omega) (by omega)).mpr h)
    refine lv_bipush (v := (-4)) zx zb dX2_addTreaty_9 (by decide) ?_
    exact fin _ _ (-4) (C, tr) 11 _ dX2_addTreaty_11 (fun h => by cases h) ⟨(by unfold coAddR; rw [if_neg (by omega)]), (by unfold coAdd; rw [if_neg (by omega)])⟩ hP hD hS

set_option maxHeartbeats 4000000 in
set_option maxRecDepth 100000 in
theorem c_X2_addTide (Γ : GG) (l : Launch) (c : Nat → Nat) (k : Nat → Nat) (C : CoV) (a : Int32) (b : Int32) (w : Bool) (hdc : C.2.2.2.2.2.2.2.1 ≤ 6) : Ci Γ l yX2_addTide cX2_addTide 4 (some (.int)) 0 0 0 0 [.ref (c 0), .int a, .int b, .int (bI w)] [bCo Γ c k C] (fun (r : Int32) (u : CoV) => r = coTideR C ∧ u = coTide C a b w) (fun (u : CoV) => [bCo Γ c k u]) := by
  refine Ci.of (Or.inl rfl) (by decide) (Nat.le_of_ble_eq_true rfl) ?_
  intro pp ee ss mm bb me cd AA QQ XX hnm hA hP hD fin ls hl
  obtain ⟨zx, zb, hml, hown, hts, hK⟩ := id XX
  have hS : va_S AA ss.heap ss.heap [] := va_S.rf
  have hl : lv_has ls 4 [(0, .ref (c 0)), (1, .int a), (2, .int b), (3, .int (bI w))] := hl
  refine lv_aload_n zx zb dX2_addTide_0 rfl (lv_at hl 0 rfl) ?_
  refine g_get (v := .int (nI (C.2.2.2.2.2.2.2.1))) XX hP 0 0 rfl rfl rfl iwX2 12 (by decide) fl_X2_56 rfl dX2_addTide_1 ?_
  refine lv_bipush (v := nI 6) zx zb dX2_addTide_4 (by decide) ?_
  refine lv_icmp_lt (tgt := 12) zx zb dX2_addTide_6 (by decide) (fun c_6 => ?_) (fun c_6 => ?_)
  · have c_6 : C.2.2.2.2.2.2.2.1 < 6 := (nI_ltI (a := C.2.2.2.2.2.2.2.1) (b := 6) (by omega) (by omega)).mp c_6
    refine lv_aload_n zx zb dX2_addTide_12 rfl (lv_at hl 0 rfl) ?_
    refine g_get (v := .ref (c 12)) XX hP 0 0 rfl rfl rfl iwX2 9 (by decide) fl_X2_30 rfl dX2_addTide_13 ?_
    refine lv_aload_n zx zb dX2_addTide_16 rfl (lv_at hl 0 rfl) ?_
    refine g_get (v := .int (nI (C.2.2.2.2.2.2.2.1))) XX hP 0 0 rfl rfl rfl iwX2 12 (by decide) fl_X2_56 rfl dX2_addTide_17 ?_
    refine lv_iload_n zx zb dX2_addTide_20 rfl (lv_at hl 1 rfl) ?_
    refine g_iastN (x := a) (i := C.2.2.2.2.2.2.2.1) (blk' := bCo Γ c k (C.1, C.2.1, C.2.2.1, C.2.2.2.1, C.2.2.2.2.1, C.2.2.2.2.2.1, C.2.2.2.2.2.2.1, C.2.2.2.2.2.2.2.1, upd C.2.2.2.2.2.2.2.2.1 C.2.2.2.2.2.2.2.1 a, C.2.2.2.2.2.2.2.2.2.1, C.2.2.2.2.2.2.2.2.2.2)) (bs' := [bCo Γ c k (C.1, C.2.1, C.2.2.1, C.2.2.2.1, C.2.2.2.2.1, C.2.2.2.2.2.1, C.2.2.2.2.2.2.1, C.2.2.2.2.2.2.2.1, upd C.2.2.2.2.2.2.2.2.1 C.2.2.2.2.2.2.2.1 a, C.2.2.2.2.2.2.2.2.2.1, C.2.2.2.2.2.2.2.2.2.2)]) XX hP hD hS 0 6 rfl rfl (by omega) (by decide) rfl rfl dX2_addTide_21 (fun H locs hP hD hS => ?_)
    refine lv_aload_n zx zb dX2_addTide_22 rfl (lv_at hl 0 rfl) ?_
    refine g_get (v := .ref (c 13)) XX hP 0 0 rfl rfl rfl iwX2 10 (by decide) fl_X2_33 rfl dX2_addTide_23 ?_
    refine lv_aload_n zx zb dX2_addTide_26 rfl (lv_at hl 0 rfl) ?_
    refine g_get (v := .int (nI (C.2.2.2.2.2.2.2.1))) XX hP 0 0 rfl rfl rfl iwX2 12 (by decide) fl_X2_56 rfl dX2_addTide_27 ?_
    refine lv_iload_n zx zb dX2_addTide_30 rfl (lv_at hl 2 rfl) ?_
    refine g_iastN (x := b) (i := C.2.2.2.2.2.2.2.1) (blk' := bCo Γ c k (C.1, C.2.1, C.2.2.1, C.2.2.2.1, C.2.2.2.2.1, C.2.2.2.2.2.1, C.2.2.2.2.2.2.1, C.2.2.2.2.2.2.2.1, upd C.2.2.2.2.2.2.2.2.1 C.2.2.2.2.2.2.2.1 a, upd C.2.2.2.2.2.2.2.2.2.1 C.2.2.2.2.2.2.2.1 b, C.2.2.2.2.2.2.2.2.2.2)) (bs' := [bCo Γ c k (C.1, C.2.1, C.2.2.1, C.2.2.2.1, C.2.2.2.2.1, C.2.2.2.2.2.1, C.2.2.2.2.2.2.1, C.2.2.2.2.2.2.2.1, upd C.2.2.2.2.2.2.2.2.1 C.2.2.2.2.2.2.2.1 a, upd C.2.2.2.2.2.2.2.2.2.1 C.2.2.2.2.2.2.2.1 b, C.2.2.2.2.2.2.2.2.2.2)]) XX hP hD hS 0 7 rfl rfl (by omega) (by decide) rfl rfl dX2_addTide_31 (fun H locs hP hD hS => ?_)
    refine lv_aload_n zx zb dX2_addTide_32 rfl (lv_at hl 0 rfl) ?_
    refine g_get (v := .ref (c 14)) XX hP 0 0 rfl rfl rfl iwX2 11 (by decide) fl_X2_36 rfl dX2_addTide_33 ?_
    refine lv_aload_n zx zb dX2_addTide_36 rfl (lv_at hl 0 rfl) ?_
    refine g_get (v := .int (nI (C.2.2.2.2.2.2.2.1))) XX hP 0 0 rfl rfl rfl iwX2 12 (by decide) fl_X2_56 rfl dX2_addTide_37 ?_
    refine lv_iload_n zx zb dX2_addTide_40 rfl (lv_at hl 3 rfl) ?_
    refine lv_if_eq (tgt := 48) zx zb dX2_addTide_41 (by decide) (fun c_41 => ?_) (fun c_41 => ?_)
    · have c_41 : w = false := bI_0.mp c_41
      refine lv_iconst (v := nI 0) zx zb dX2_addTide_48 (by decide) ?_
      refine g_iastN (x := nI 0) (i := C.2.2.2.2.2.2.2.1) (blk' := bCo Γ c k (C.1, C.2.1, C.2.2.1, C.2.2.2.1, C.2.2.2.2.1, C.2.2.2.2.2.1, C.2.2.2.2.2.2.1, C.2.2.2.2.2.2.2.1, upd C.2.2.2.2.2.2.2.2.1 C.2.2.2.2.2.2.2.1 a, upd C.2.2.2.2.2.2.2.2.2.1 C.2.2.2.2.2.2.2.1 b, upd C.2.2.2.2.2.2.2.2.2.2 C.2.2.2.2.2.2.2.1 (nI 0))) (bs' := [bCo Γ c k (C.1, C.2.1, C.2.2.1, C.2.2.2.1, C.2.2.2.2.1, C.2.2.2.2.2.1, C.2.2.2.2.2.2.1, C.2.2.2.2.2.2.2.1, upd C.2.2.2.2.2.2.2.2.1 C.2.2.2.2.2.2.2.1 a, upd C.2.2.2.2.2.2.2.2.2.1 C.2.2.2.2.2.2.2.1 b, upd C.2.2.2.2.2.2.2.2.2.2 C.2.2.2.2.2.2.2.1 (nI 0))]) XX hP hD hS 0 8 rfl rfl (by omega) (by decide) rfl rfl dX2_addTide_49 (fun H locs hP hD hS => ?_)
      refine lv_aload_n zx zb dX2_addTide_50 rfl (lv_at hl 0 rfl) ?_
      refine lv_dup zx zb dX2_addTide_51 rfl ?_
      refine g_get (v := .int (nI (C.2.2.2.2.2.2.2.1))) XX hP 0 0 rfl rfl rfl iwX2 12 (by decide) fl_X2_56 rfl dX2_addTide_52 ?_
      refine lv_iconst (v := nI 1) zx zb dX2_addTide_55 (by decide) ?_
      refine lv_iadd zx zb dX2_addTide_56 ?_
      refine g_top (y := nI (C.2.2.2.2.2.2.2.1 + 1)) (nI_add C.2.2.2.2.2.2.2.1 1) ?_
      refine g_put (v := .int (nI (C.2.2.2.2.2.2.2.1 + 1))) (blk' := bCo Γ c k (C.1, C.2.1, C.2.2.1, C.2.2.2.1, C.2.2.2.2.1, C.2.2.2.2.2.1, C.2.2.2.2.2.2.1, C.2.2.2.2.2.2.2.1 + 1, upd C.2.2.2.2.2.2.2.2.1 C.2.2.2.2.2.2.2.1 a, upd C.2.2.2.2.2.2.2.2.2.1 C.2.2.2.2.2.2.2.1 b, upd C.2.2.2.2.2.2.2.2.2.2 C.2.2.2.2.2.2.2.1 (nI 0))) (bs' := [bCo Γ c k (C.1, C.2.1, C.2.2.1, C.2.2.2.1, C.2.2.2.2.1, C.2.2.2.2.2.1, C.2.2.2.2.2.2.1, C.2.2.2.2.2.2.2.1 + 1, upd C.2.2.2.2.2.2.2.2.1 C.2.2.2.2.2.2.2.1 a, upd C.2.2.2.2.2.2.2.2.2.1 C.2.2.2.2.2.2.2.1 b, upd C.2.2.2.2.2.2.2.2.2.2 C.2.2.2.2.2.2.2.1 (nI 0))]) XX hP hD hS 0 0 rfl rfl rfl iwX2 tyX2_ok nmX2 12 (by decide) fl_X2_56 rfl rfl rfl (Nat.le_of_ble_eq_true rfl) rfl rfl rfl dX2_addTide_57 (fun H locs hP hD hS => ?_)
      refine lv_aload_n zx zb dX2_addTide_60 rfl (lv_at hl 0 rfl) ?_
      refine g_get (v := .int (nI (C.2.2.2.2.2.2.2.1 + 1))) XX hP 0 0 rfl rfl rfl iwX2 12 (by decide) fl_X2_56 rfl dX2_addTide_61 ?_
      exact fin _ _ (nI (C.2.2.2.2.2.2.2.1 + 1)) (C.1, C.2.1, C.2.2.1, C.2.2.2.1, C.2.2.2.2.1, C.2.2.2.2.2.1, C.2.2.2.2.2.2.1, C.2.2.2.2.2.2.2.1 + 1, upd C.2.2.2.2.2.2.2.2.1 C.2.2.2.2.2.2.2.1 a, upd C.2.2.2.2.2.2.2.2.2.1 C.2.2.2.2.2.2.2.1 b, upd C.2.2.2.2.2.2.2.2.2.2 C.2.2.2.2.2.2.2.1 (nI 0)) 64 _ dX2_addTide_64 (fun h => by cases h) ⟨(by unfold coTideR; rw [if_pos (by omega)]), (by unfold coTide; rw [if_pos (by omega), c_41]; rfl)⟩ hP hD hS
    · have c_41 : w = true := bI_ne c_41
      refine lv_iconst (v := nI 1) zx zb dX2_addTide_44 (by decide) ?_
      refine lv_goto (tgt := 49) zx zb dX2_addTide_45 (by decide) ?_
      refine g_iastN (x := nI 1) (i := C.2.2.2.2.2.2.2.1) (blk' := bCo Γ c k (C.1, C.2.1, C.2.2.1, C.2.2.2.1, C.2.2.2.2.1, C.2.2.2.2.2.1, C.2.2.2.2.2.2.1, C.2.2.2.2.2.2.2.1, upd C.2.2.2.2.2.2.2.2.1 C.2.2.2.2.2.2.2.1 a, upd C.2.2.2.2.2.2.2.2.2.1 C.2.2.2.2.2.2.2.1 b, upd C.2.2.2.2.2.2.2.2.2.2 C.2.2.2.2.2.2.2.1 (nI 1))) (bs' := [bCo Γ c k (C.1, C.2.1, C.2.2.1, C.2.2.2.1, C.2.2.2.2.1, C.2.2.2.2.2.1, C.2.2.2.2.2.2.1, C.2.2.2.2.2.2.2.1, upd C.2.2.2.2.2.2.2.2.1 C.2.2.2.2.2.2.2.1 a, upd C.2.2.2.2.2.2.2.2.2.1 C.2.2.2.2.2.2.2.1 b, upd C.2.2.2.2.2.2.2.2.2.2 C.2.2.2.2.2.2.2.1 (nI 1))]) XX hP hD hS 0 8 rfl rfl (by omega) (by decide) rfl rfl dX2_addTide_49 (fun H locs hP hD hS => ?_)
      refine lv_aload_n zx zb dX2_addTide_50 rfl (lv_at hl 0 rfl) ?_
      refine lv_dup zx zb dX2_addTide_51 rfl ?_
      refine g_get (v := .int (nI (C.2.2.2.2.2.2.2.1))) XX hP 0 0 rfl rfl rfl iwX2 12 (by decide) fl_X2_56 rfl dX2_addTide_52 ?_
      refine lv_iconst (v := nI 1) zx zb dX2_addTide_55 (by decide) ?_
      refine lv_iadd zx zb dX2_addTide_56 ?_
      refine g_top (y := nI (C.2.2.2.2.2.2.2.1 + 1)) (nI_add C.2.2.2.2.2.2.2.1 1) ?_
      refine g_put (v := .int (nI (C.2.2.2.2.2.2.2.1 + 1))) (blk' := bCo Γ c k (C.1, C.2.1, C.2.2.1, C.2.2.2.1, C.2.2.2.2.1, C.2.2.2.2.2.1, C.2.2.2.2.2.2.1, C.2.2.2.2.2.2.2.1 + 1, upd C.2.2.2.2.2.2.2.2.1 C.2.2.2.2.2.2.2.1 a, upd C.2.2.2.2.2.2.2.2.2.1 C.2.2.2.2.2.2.2.1 b, upd C.2.2.2.2.2.2.2.2.2.2 C.2.2.2.2.2.2.2.1 (nI 1))) (bs' := [bCo Γ c k (C.1, C.2.1, C.2.2.1, C.2.2.2.1, C.2.2.2.2.1, C.2.2.2.2.2.1, C.2.2.2.2.2.2.1, C.2.2.2.2.2.2.2.1 + 1, upd C.2.2.2.2.2.2.2.2.1 C.2.2.2.2.2.2.2.1 a, upd C.2.2.2.2.2.2.2.2.2.1 C.2.2.2.2.2.2.2.1 b, upd C.2.2.2.2.2.2.2.2.2.2 C.2.2.2.2.2.2.2.1 (nI 1))]) XX hP hD hS 0 0 rfl rfl rfl iwX2 tyX2_ok nmX2 12 (by decide) fl_X2_56 rfl rfl rfl (Nat.le_of_ble_eq_true rfl) rfl rfl rfl dX2_addTide_57 (fun H locs hP hD hS => ?_)
      refine lv_aload_n zx zb dX2_addTide_60 rfl (lv_at hl 0 rfl) ?_
      refine g_get (v := .int (nI (C.2.2.2.2.2.2.2.1 + 1))) XX hP 0 0 rfl rfl rfl iwX2 12 (by decide) fl_X2_56 rfl dX2_addTide_61 ?_
      exact fin _ _ (nI (C.2.2.2.2.2.2.2.1 + 1)) (C.1, C.2.1, C.2.2.1, C.2.2.2.1, C.2.2.2.2.1, C.2.2.2.2.2.1, C.2.2.2.2.2.2.1, C.2.2.2.2.2.2.2.1 + 1, upd C.2.2.2.2.2.2.2.2.1 C.2.2.2.2.2.2.2.1 a, upd C.2.2.2.2.2.2.2.2.2.1 C.2.2.2.2.2.2.2.1 b, upd C.2.2.2.2.2.2.2.2.2.2 C.2.2.2.2.2.2.2.1 (nI 1)) 64 _ dX2_addTide_64 (fun h => by cases h) ⟨(by unfold coTideR; rw [if_pos (by omega)]), (by unfold coTide; rw [if_pos (by omega), c_41]; rfl)⟩ hP hD hS
  · have c_6 : ¬ (C.2.2.2.2.2.2.2.1 < 6) := fun h => c_6 ((nI_ltI (a := C.2.2.2.2.2.2.2.1) (b := 6) (by omega) (by omega)).mpr h)
    refine lv_bipush (v := (-4)) zx zb dX2_addTide_9 (by decide) ?_
    exact fin _ _ (-4) C 11 _ dX2_addTide_11 (fun h => by cases h) ⟨(by unfold coTideR; rw [if_neg (by omega)]), (by unfold coTide; rw [if_neg (by omega)])⟩ hP hD hS

set_option maxHeartbeats 4000000 in
set_option maxRecDepth 100000 in
theorem c_X2_dropTides (Γ : GG) (l : Launch) (c : Nat → Nat) (k : Nat → Nat) (C : CoV)  : Ci Γ l yX2_dropTides cX2_dropTides 2 (some (.int)) 0 0 0 0 [.ref (c 0)] [bCo Γ c k C] (fun (r : Int32) (u : CoV) => r = nI (C.2.2.2.2.2.2.2.1) ∧ u = coNoTides C) (fun (u : CoV) => [bCo Γ c k u]) := by
  refine Ci.of (Or.inl rfl) (by decide) (Nat.le_of_ble_eq_true rfl) ?_
  intro pp ee ss mm bb me cd AA QQ XX hnm hA hP hD fin ls hl
  obtain ⟨zx, zb, hml, hown, hts, hK⟩ := id XX
  have hS : va_S AA ss.heap ss.heap [] := va_S.rf
  have hl : lv_has ls 2 [(0, .ref (c 0))] := hl
  refine lv_aload_n zx zb dX2_dropTides_0 rfl (lv_at hl 0 rfl) ?_
  refine g_get (v := .int (nI (C.2.2.2.2.2.2.2.1))) XX hP 0 0 rfl rfl rfl iwX2 12 (by decide) fl_X2_56 rfl dX2_dropTides_1 ?_
  refine lv_istore_n (lv' := [(1, .int (nI (C.2.2.2.2.2.2.2.1))), (0, .ref (c 0))]) zx zb dX2_dropTides_4 rfl hl (by decide) rfl (fun ls hl => ?_)
  refine lv_aload_n zx zb dX2_dropTides_5 rfl (lv_at hl 1 rfl) ?_
  refine lv_iconst (v := nI 0) zx zb dX2_dropTides_6 (by decide) ?_
  refine g_put (v := .int (nI 0)) (blk' := bCo Γ c k (C.1, C.2.1, C.2.2.1, C.2.2.2.1, C.2.2.2.2.1, C.2.2.2.2.2.1, C.2.2.2.2.2.2.1, 0, C.2.2.2.2.2.2.2.2.1, C.2.2.2.2.2.2.2.2.2.1, C.2.2.2.2.2.2.2.2.2.2)) (bs' := [bCo Γ c k (C.1, C.2.1, C.2.2.1, C.2.2.2.1, C.2.2.2.2.1, C.2.2.2.2.2.1, C.2.2.2.2.2.2.1, 0, C.2.2.2.2.2.2.2.2.1, C.2.2.2.2.2.2.2.2.2.1, C.2.2.2.2.2.2.2.2.2.2)]) XX hP hD hS 0 0 rfl rfl rfl iwX2 tyX2_ok nmX2 12 (by decide) fl_X2_56 rfl rfl rfl (Nat.le_of_ble_eq_true rfl) rfl rfl rfl dX2_dropTides_7 (fun H locs hP hD hS => ?_)
  refine lv_iload_n zx zb dX2_dropTides_10 rfl (lv_at hl 0 rfl) ?_
  exact fin _ _ (nI (C.2.2.2.2.2.2.2.1)) (C.1, C.2.1, C.2.2.1, C.2.2.2.1, C.2.2.2.2.1, C.2.2.2.2.2.1, C.2.2.2.2.2.2.1, 0, C.2.2.2.2.2.2.2.2.1, C.2.2.2.2.2.2.2.2.2.1, C.2.2.2.2.2.2.2.2.2.2) 11 _ dX2_dropTides_11 (fun h => by cases h) ⟨(rfl), (rfl)⟩ hP hD hS

set_option maxHeartbeats 4000000 in
set_option maxRecDepth 100000 in
theorem c_X2_cellsOfTown (Γ : GG) (l : Launch) (c : Nat → Nat) (k : Nat → Nat) (C : CoV) (t : Int32) (hn : C.1 ≤ 8) : Ci Γ l yX2_cellsOfTown cX2_cellsOfTown 4 (some (.int)) 0 0 0 0 [.ref (c 0), .int t] [bCo Γ c k C] (fun (r : Int32) (u : Unit) => r = coTown C t C.1) (fun (u : Unit) => [bCo Γ c k C]) := by
  refine Ci.of (Or.inl rfl) (by decide) (Nat.le_of_ble_eq_true rfl) ?_
  intro pp ee ss mm bb me cd AA QQ XX hnm hA hP hD fin ls hl
  obtain ⟨zx, zb, hml, hown, hts, hK⟩ := id XX
  have hS : va_S AA ss.heap ss.heap [] := va_S.rf
  have hl : lv_has ls 4 [(0, .ref (c 0)), (1, .int t)] := hl
  refine lv_iconst (v := nI 0) zx zb dX2_cellsOfTown_0 (by decide) ?_
  refine lv_istore_n (lv' := [(2, .int (nI 0)), (0, .ref (c 0)), (1, .int t)]) zx zb dX2_cellsOfTown_1 rfl hl (by decide) rfl (fun ls hl => ?_)
  refine lv_iconst (v := nI 0) zx zb dX2_cellsOfTown_2 (by decide) ?_
  refine lv_istore_n (lv' := [(3, .int (nI 0)), (2, .int (nI 0)), (0, .ref (c 0)), (1, .int t)]) zx zb dX2_cellsOfTown_3 rfl hl (by decide) rfl (fun ls hl => ?_)
  have L4 : ∀ (nn : Nat) (x : Nat) (a : Int32), (x ≤ C.1) → (a = coTown C t x) → C.1 - x < nn → ∀ (H : Heap) (locs : List Loc), bP Γ [bCo Γ c k C] H → bD AA [bCo Γ c k C] → va_S AA ss.heap H locs → ∀ (ls : Array Slot), lv_has ls 4 [(0, .ref (c 0)), (1, .int t), (2, .int a), (3, .int (nI x))] → W pp l ee { frames := 0, cells := 0, slots := 0, locals := 0 } ss mm [.ref (c 0), .int t].toArray bb me cd H locs 0 0 QQ (F0 mm 4 ls []) := by
    intro nn
    induction nn with
    | zero => intro x a hx ha hm; exact absurd hm (Nat.not_lt_zero _)
    | succ nn ih4 =>
      intro x a hx ha hm4 H locs hP hD hS ls hl
      refine lv_iload_n zx zb dX2_cellsOfTown_4 rfl (lv_at hl 3 rfl) ?_
      refine lv_aload_n zx zb dX2_cellsOfTown_5 rfl (lv_at hl 0 rfl) ?_
      refine g_get (v := .int (nI (C.1))) XX hP 0 0 rfl rfl rfl iwX2 1 (by decide) fl_X2_46 rfl dX2_cellsOfTown_6 ?_
      refine lv_icmp_ge (tgt := 34) zx zb dX2_cellsOfTown_9 (by decide) (fun c_9 => ?_) (fun c_9 => ?_)
      · have c_9 : C.1 ≤ x := (nI_leI (a := C.1) (b := x) (by omega) (by omega)).mp c_9
        refine lv_iload_n zx zb dX2_cellsOfTown_34 rfl (lv_at hl 2 rfl) ?_
        exact fin _ _ a () 35 _ dX2_cellsOfTown_35 (fun h => by cases h) (by have e : x = C.1 := (by omega); subst e; exact ha) hP hD hS
      · have c_9 : ¬ (C.1 ≤ x) := fun h => c_9 ((nI_leI (a := C.1) (b := x) (by omega) (by omega)).mpr h)
        refine lv_aload_n zx zb dX2_cellsOfTown_12 rfl (lv_at hl 0 rfl) ?_
        refine g_get (v := .ref (c 3)) XX hP 0 0 rfl rfl rfl iwX2 5 (by decide) fl_X2_18 rfl dX2_cellsOfTown_13 ?_
        refine lv_iload_n zx zb dX2_cellsOfTown_16 rfl (lv_at hl 3 rfl) ?_
        refine g_ialdN (i := x) XX hP 0 3 rfl rfl (by omega) (by decide) dX2_cellsOfTown_17 ?_
        refine lv_iload_n zx zb dX2_cellsOfTown_18 rfl (lv_at hl 1 rfl) ?_
        refine lv_icmp_ne (tgt := 28) zx zb dX2_cellsOfTown_19 (by decide) (fun c_19 => ?_) (fun c_19 => ?_)
        · have c_19 : ¬ ((C.2.2.2.2.1 x) = t) := c_19
          refine lv_iinc (v := nI (x + 1)) (lv' := [(3, .int (nI (x + 1))), (0, .ref (c 0)), (1, .int t), (2, .int a)]) zx zb dX2_cellsOfTown_28 hl (k := 3) rfl (nI_inc _ 1) (by decide) rfl (fun ls hl => ?_)
          refine lv_goto (tgt := 4) zx zb dX2_cellsOfTown_31 (by decide) ?_
          exact ih4 (x + 1) a (by omega) (by simp [coTown, ha, c_19]) (by omega) _ _ hP hD hS _ (lv_sub hl [1, 2, 3, 0] rfl)
        · have c_19 : (C.2.2.2.2.1 x) = t := c_19
          refine lv_iload_n zx zb dX2_cellsOfTown_22 rfl (lv_at hl 2 rfl) ?_
          refine lv_iconst (v := nI 1) zx zb dX2_cellsOfTown_23 (by decide) ?_
          refine lv_iload_n zx zb dX2_cellsOfTown_24 rfl (lv_at hl 3 rfl) ?_
          refine lv_ishl zx zb dX2_cellsOfTown_25 ?_
          refine g_top (y := bit x) (sh31l _ (by omega)) ?_
          refine lv_ior zx zb dX2_cellsOfTown_26 ?_
          refine lv_istore_n (lv' := [(2, .int (a ||| (bit x))), (0, .ref (c 0)), (1, .int t), (3, .int (nI x))]) zx zb dX2_cellsOfTown_27 rfl hl (by decide) rfl (fun ls hl => ?_)
          refine lv_iinc (v := nI (x + 1)) (lv' := [(3, .int (nI (x + 1))), (2, .int (a ||| (bit x))), (0, .ref (c 0)), (1, .int t)]) zx zb dX2_cellsOfTown_28 hl (k := 3) rfl (nI_inc _ 1) (by decide) rfl (fun ls hl => ?_)
          refine lv_goto (tgt := 4) zx zb dX2_cellsOfTown_31 (by decide) ?_
          exact ih4 (x + 1) (a ||| (bit x)) (by omega) (by simp [coTown, ha, c_19]) (by omega) _ _ hP hD hS _ (lv_sub hl [2, 3, 1, 0] rfl)
  exact L4 _ 0 0 (by omega) (rfl) (Nat.lt_succ_self _) _ _ hP hD hS _ (lv_sub hl [2, 3, 1, 0] rfl)

set_option maxHeartbeats 4000000 in
set_option maxRecDepth 100000 in
theorem c_X2_worthOfAll (Γ : GG) (l : Launch) (c : Nat → Nat) (k : Nat → Nat) (C : CoV) (q : Int32) (hn : C.1 ≤ 8) : Ci Γ l yX2_worthOfAll cX2_worthOfAll 4 (some (.int)) 0 0 0 0 [.ref (c 0), .int q] [bCo Γ c k C] (fun (r : Int32) (u : Unit) => r = coWorth C q C.1) (fun (u : Unit) => [bCo Γ c k C]) := by
  refine Ci.of (Or.inl rfl) (by decide) (Nat.le_of_ble_eq_true rfl) ?_
  intro pp ee ss mm bb me cd AA QQ XX hnm hA hP hD fin ls hl
  obtain ⟨zx, zb, hml, hown, hts, hK⟩ := id XX
  have hS : va_S AA ss.heap ss.heap [] := va_S.rf
  have hl : lv_has ls 4 [(0, .ref (c 0)), (1, .int q)] := hl
  refine lv_iconst (v := nI 0) zx zb dX2_worthOfAll_0 (by decide) ?_
  refine lv_istore_n (lv' := [(2, .int (nI 0)), (0, .ref (c 0)), (1, .int q)]) zx zb dX2_worthOfAll_1 rfl hl (by decide) rfl (fun ls hl => ?_)
  refine lv_iconst (v := nI 0) zx zb dX2_worthOfAll_2 (by decide) ?_
  refine lv_istore_n (lv' := [(3, .int (nI 0)), (2, .int (nI 0)), (0, .ref (c 0)), (1, .int q)]) zx zb dX2_worthOfAll_3 rfl hl (by decide) rfl (fun ls hl => ?_)
  have L4 : ∀ (nn : Nat) (x : Nat) (a : Int32), (x ≤ C.1) → (a = coWorth C q x) → C.1 - x < nn → ∀ (H : Heap) (locs : List Loc), bP Γ [bCo Γ c k C] H → bD AA [bCo Γ c k C] → va_S AA ss.heap H locs → ∀ (ls : Array Slot), lv_has ls 4 [(0, .ref (c 0)), (1, .int q), (2, .int a), (3, .int (nI x))] → W pp l ee { frames := 0, cells := 0, slots := 0, locals := 0 } ss mm [.ref (c 0), .int q].toArray bb me cd H locs 0 0 QQ (F0 mm 4 ls []) := by
    intro nn
    induction nn with
    | zero => intro x a hx ha hm; exact absurd hm (Nat.not_lt_zero _)
    | succ nn ih4 =>
      intro x a hx ha hm4 H locs hP hD hS ls hl
      refine lv_iload_n zx zb dX2_worthOfAll_4 rfl (lv_at hl 3 rfl) ?_
      refine lv_aload_n zx zb dX2_worthOfAll_5 rfl (lv_at hl 0 rfl) ?_
      refine g_get (v := .int (nI (C.1))) XX hP 0 0 rfl rfl rfl iwX2 1 (by decide) fl_X2_46 rfl dX2_worthOfAll_6 ?_
      refine lv_icmp_ge (tgt := 35) zx zb dX2_worthOfAll_9 (by decide) (fun c_9 => ?_) (fun c_9 => ?_)
      · have c_9 : C.1 ≤ x := (nI_leI (a := C.1) (b := x) (by omega) (by omega)).mp c_9
        refine lv_iload_n zx zb dX2_worthOfAll_35 rfl (lv_at hl 2 rfl) ?_
        exact fin _ _ a () 36 _ dX2_worthOfAll_36 (fun h => by cases h) (by have e : x = C.1 := (by omega); subst e; exact ha) hP hD hS
      · have c_9 : ¬ (C.1 ≤ x) := fun h => c_9 ((nI_leI (a := C.1) (b := x) (by omega) (by omega)).mpr h)
        refine lv_iload_n zx zb dX2_worthOfAll_12 rfl (lv_at hl 1 rfl) ?_
        refine lv_iconst (v := nI 1) zx zb dX2_worthOfAll_13 (by decide) ?_
        refine lv_iload_n zx zb dX2_worthOfAll_14 rfl (lv_at hl 3 rfl) ?_
        refine lv_ishl zx zb dX2_worthOfAll_15 ?_
        refine g_top (y := bit x) (sh31l _ (by omega)) ?_
        refine lv_iand zx zb dX2_worthOfAll_16 ?_
        refine lv_if_eq (tgt := 29) zx zb dX2_worthOfAll_17 (by decide) (fun c_17 => ?_) (fun c_17 => ?_)
        · have c_17 : hasB q x = false := hasB_f.mp c_17
          refine lv_iinc (v := nI (x + 1)) (lv' := [(3, .int (nI (x + 1))), (0, .ref (c 0)), (1, .int q), (2, .int a)]) zx zb dX2_worthOfAll_29 hl (k := 3) rfl (nI_inc _ 1) (by decide) rfl (fun ls hl => ?_)
          refine lv_goto (tgt := 4) zx zb dX2_worthOfAll_32 (by decide) ?_
          exact ih4 (x + 1) a (by omega) (by simp [coWorth, ha, c_17]) (by omega) _ _ hP hD hS _ (lv_sub hl [1, 2, 3, 0] rfl)
        · have c_17 : hasB q x = true := hasB_t.mp c_17
          refine lv_iload_n zx zb dX2_worthOfAll_20 rfl (lv_at hl 2 rfl) ?_
          refine lv_aload_n zx zb dX2_worthOfAll_21 rfl (lv_at hl 0 rfl) ?_
          refine g_get (v := .ref (c 2)) XX hP 0 0 rfl rfl rfl iwX2 4 (by decide) fl_X2_15 rfl dX2_worthOfAll_22 ?_
          refine lv_iload_n zx zb dX2_worthOfAll_25 rfl (lv_at hl 3 rfl) ?_
          refine g_ialdN (i := x) XX hP 0 2 rfl rfl (by omega) (by decide) dX2_worthOfAll_26 ?_
          refine lv_iadd zx zb dX2_worthOfAll_27 ?_
          refine lv_istore_n (lv' := [(2, .int (a + (C.2.2.2.1 x))), (0, .ref (c 0)), (1, .int q), (3, .int (nI x))]) zx zb dX2_worthOfAll_28 rfl hl (by decide) rfl (fun ls hl => ?_)
          refine lv_iinc (v := nI (x + 1)) (lv' := [(3, .int (nI (x + 1))), (2, .int (a + (C.2.2.2.1 x))), (0, .ref (c 0)), (1, .int q)]) zx zb dX2_worthOfAll_29 hl (k := 3) rfl (nI_inc _ 1) (by decide) rfl (fun ls hl => ?_)
          refine lv_goto (tgt := 4) zx zb dX2_worthOfAll_32 (by decide) ?_
          exact ih4 (x + 1) (a + (C.2.2.2.1 x)) (by omega) (by simp [coWorth, ha, c_17]) (by omega) _ _ hP hD hS _ (lv_sub hl [2, 3, 1, 0] rfl)
  exact L4 _ 0 0 (by omega) (rfl) (Nat.lt_succ_self _) _ _ hP hD hS _ (lv_sub hl [2, 3, 1, 0] rfl)

set_option maxHeartbeats 4000000 in
set_option maxRecDepth 100000 in
theorem c_X2_tidesFit (Γ : GG) (l : Launch) (c : Nat → Nat) (k : Nat → Nat) (C : CoV) (t : Int32) (q : Int32) (hdc : C.2.2.2.2.2.2.2.1 ≤ 6) : Ci Γ l yX2_tidesFit cX2_tidesFit 4 (some (.boolean)) 0 0 0 0 [.ref (c 0), .int t, .int q] [bCo Γ c k C] (fun (r : Int32) (u : Unit) => r = bI (allN (coFit1 C t q) C.2.2.2.2.2.2.2.1)) (fun (u : Unit) => [bCo Γ c k C]) := by
  refine Ci.of (Or.inr rfl) (by decide) (Nat.le_of_ble_eq_true rfl) ?_
  intro pp ee ss mm bb me cd AA QQ XX hnm hA hP hD fin ls hl
  obtain ⟨zx, zb, hml, hown, hts, hK⟩ := id XX
  have hS : va_S AA ss.heap ss.heap [] := va_S.rf
  have hl : lv_has ls 4 [(0, .ref (c 0)), (1, .int t), (2, .int q)] := hl
  refine lv_iconst (v := nI 0) zx zb dX2_tidesFit_0 (by decide) ?_
  refine lv_istore_n (lv' := [(3, .int (nI 0)), (0, .ref (c 0)), (1, .int t), (2, .int q)]) zx zb dX2_tidesFit_1 rfl hl (by decide) rfl (fun ls hl => ?_)
  have L2 : ∀ (nn : Nat) (i : Nat), (i ≤ C.2.2.2.2.2.2.2.1) → (allN (coFit1 C t q) i = true) → C.2.2.2.2.2.2.2.1 - i < nn → ∀ (H : Heap) (locs : List Loc), bP Γ [bCo Γ c k C] H → bD AA [bCo Γ c k C] → va_S AA ss.heap H locs → ∀ (ls : Array Slot), lv_has ls 4 [(0, .ref (c 0)), (1, .int t), (2, .int q), (3, .int (nI i))] → W pp l ee { frames := 0, cells := 0, slots := 0, locals := 0 } ss mm [.ref (c 0), .int t, .int q].toArray bb me cd H locs 0 0 QQ (F0 mm 2 ls []) := by
    intro nn
    induction nn with
    | zero => intro i hi ha hm; exact absurd hm (Nat.not_lt_zero _)
    | succ nn ih2 =>
      intro i hi ha hm2 H locs hP hD hS ls hl
      refine lv_iload_n zx zb dX2_tidesFit_2 rfl (lv_at hl 3 rfl) ?_
      refine lv_aload_n zx zb dX2_tidesFit_3 rfl (lv_at hl 0 rfl) ?_
      refine g_get (v := .int (nI (C.2.2.2.2.2.2.2.1))) XX hP 0 0 rfl rfl rfl iwX2 12 (by decide) fl_X2_56 rfl dX2_tidesFit_4 ?_
      refine lv_icmp_ge (tgt := 47) zx zb dX2_tidesFit_7 (by decide) (fun c_7 => ?_) (fun c_7 => ?_)
      · have c_7 : C.2.2.2.2.2.2.2.1 ≤ i := (nI_leI (a := C.2.2.2.2.2.2.2.1) (b := i) (by omega) (by omega)).mp c_7
        refine lv_iconst (v := nI 1) zx zb dX2_tidesFit_47 (by decide) ?_
        exact fin _ _ (nI 1) () 48 _ dX2_tidesFit_48 (fun _ => nar1) (by have e : i = C.2.2.2.2.2.2.2.1 := (by omega); subst e; exact retT ha) hP hD hS
      · have c_7 : ¬ (C.2.2.2.2.2.2.2.1 ≤ i) := fun h => c_7 ((nI_leI (a := C.2.2.2.2.2.2.2.1) (b := i) (by omega) (by omega)).mpr h)
        refine lv_aload_n zx zb dX2_tidesFit_10 rfl (lv_at hl 0 rfl) ?_
        refine g_get (v := .ref (c 12)) XX hP 0 0 rfl rfl rfl iwX2 9 (by decide) fl_X2_30 rfl dX2_tidesFit_11 ?_
        refine lv_iload_n zx zb dX2_tidesFit_14 rfl (lv_at hl 3 rfl) ?_
        refine g_ialdN (i := i) XX hP 0 6 rfl rfl (by omega) (by decide) dX2_tidesFit_15 ?_
        refine lv_iload_n zx zb dX2_tidesFit_16 rfl (lv_at hl 1 rfl) ?_
        refine lv_icmp_ne (tgt := 41) zx zb dX2_tidesFit_17 (by decide) (fun c_17 => ?_) (fun c_17 => ?_)
        · have c_17 : ¬ ((C.2.2.2.2.2.2.2.2.1 i) = t) := c_17
          refine lv_iinc (v := nI (i + 1)) (lv' := [(3, .int (nI (i + 1))), (0, .ref (c 0)), (1, .int t), (2, .int q)]) zx zb dX2_tidesFit_41 hl (k := 3) rfl (nI_inc _ 1) (by decide) rfl (fun ls hl => ?_)
          refine lv_goto (tgt := 2) zx zb dX2_tidesFit_44 (by decide) ?_
          exact ih2 (i + 1) (by omega) (by rw [allN, ha, Bool.true_and]; first | (simp [coFit1, c_17]; done) | (simp [coFit1, c_36]; done)) (by omega) _ _ hP hD hS _ (lv_sub hl [1, 2, 3, 0] rfl)
        · have c_17 : (C.2.2.2.2.2.2.2.2.1 i) = t := c_17
          refine lv_iload_n zx zb dX2_tidesFit_20 rfl (lv_at hl 2 rfl) ?_
          refine lv_aload_n zx zb dX2_tidesFit_21 rfl (lv_at hl 0 rfl) ?_
          refine g_get (v := .ref (c 13)) XX hP 0 0 rfl rfl rfl iwX2 10 (by decide) fl_X2_33 rfl dX2_tidesFit_22 ?_
          refine lv_iload_n zx zb dX2_tidesFit_25 rfl (lv_at hl 3 rfl) ?_
          refine g_ialdN (i := i) XX hP 0 7 rfl rfl (by omega) (by decide) dX2_tidesFit_26 ?_
          refine lv_ishr zx zb dX2_tidesFit_27 ?_
          refine lv_iconst (v := nI 1) zx zb dX2_tidesFit_28 (by decide) ?_
          refine lv_iand zx zb dX2_tidesFit_29 ?_
          refine g_top (y := (q >>> ((C.2.2.2.2.2.2.2.2.2.1 i) &&& 31)) &&& 1) rfl ?_
          refine lv_aload_n zx zb dX2_tidesFit_30 rfl (lv_at hl 0 rfl) ?_
          refine g_get (v := .ref (c 14)) XX hP 0 0 rfl rfl rfl iwX2 11 (by decide) fl_X2_36 rfl dX2_tidesFit_31 ?_
          refine lv_iload_n zx zb dX2_tidesFit_34 rfl (lv_at hl 3 rfl) ?_
          refine g_ialdN (i := i) XX hP 0 8 rfl rfl (by omega) (by decide) dX2_tidesFit_35 ?_
          refine lv_icmp_eq (tgt := 41) zx zb dX2_tidesFit_36 (by decide) (fun c_36 => ?_) (fun c_36 => ?_)
          · have c_36 : ((q >>> ((C.2.2.2.2.2.2.2.2.2.1 i) &&& 31)) &&& 1) = (C.2.2.2.2.2.2.2.2.2.2 i) := c_36
            refine lv_iinc (v := nI (i + 1)) (lv' := [(3, .int (nI (i + 1))), (0, .ref (c 0)), (1, .int t), (2, .int q)]) zx zb dX2_tidesFit_41 hl (k := 3) rfl (nI_inc _ 1) (by decide) rfl (fun ls hl => ?_)
            refine lv_goto (tgt := 2) zx zb dX2_tidesFit_44 (by decide) ?_
            exact ih2 (i + 1) (by omega) (by rw [allN, ha, Bool.true_and]; first | (simp [coFit1, c_17]; done) | (simp [coFit1, c_36]; done)) (by omega) _ _ hP hD hS _ (lv_sub hl [1, 2, 3, 0] rfl)
          · have c_36 : ¬ (((q >>> ((C.2.2.2.2.2.2.2.2.2.1 i) &&& 31)) &&& 1) = (C.2.2.2.2.2.2.2.2.2.2 i)) := c_36
            refine lv_iconst (v := nI 0) zx zb dX2_tidesFit_39 (by decide) ?_
            exact fin _ _ (nI 0) () 40 _ dX2_tidesFit_40 (fun _ => nar0) (retF (allN_f (i := i) (by omega) (by simp [coFit1, c_17, c_36]))) hP hD hS
  exact L2 _ 0 (by omega) (rfl) (Nat.lt_succ_self _) _ _ hP hD hS _ (lv_sub hl [1, 2, 3, 0] rfl)

set_option maxHeartbeats 4000000 in
set_option maxRecDepth 100000 in
theorem c_X2_mixWants (Γ : GG) (l : Launch) (c : Nat → Nat) (k : Nat → Nat) (C : CoV) (h : Int64)  : Cl Γ l yX2_mixWants cX2_mixWants 4 (some (.long)) 0 0 0 0 [.ref (c 0), .long h] [bCo Γ c k C] (fun (r : Int64) (u : Unit) => r = mixF (coWn C) h 8) (fun (u : Unit) => [bCo Γ c k C]) := by
  refine Cl.of rfl (by decide) (Nat.le_of_ble_eq_true rfl) ?_
  intro pp ee ss mm bb me cd AA QQ XX hnm hA hP hD fin ls hl
  obtain ⟨zx, zb, hml, hown, hts, hK⟩ := id XX
  have hS : va_S AA ss.heap ss.heap [] := va_S.rf
  have hl : lv_has ls 4 [(0, .ref (c 0)), (1, .long h)] := hl
  refine lv_iconst (v := nI 0) zx zb dX2_mixWants_0 (by decide) ?_
  refine lv_istore_n (lv' := [(3, .int (nI 0)), (0, .ref (c 0)), (1, .long h)]) zx zb dX2_mixWants_1 rfl hl (by decide) rfl (fun ls hl => ?_)
  have L2 : ∀ (nn : Nat) (i : Nat) (a : Int64), (i ≤ 8) → (a = mixF (coWn C) h i) → 8 - i < nn → ∀ (H : Heap) (locs : List Loc), bP Γ [bCo Γ c k C] H → bD AA [bCo Γ c k C] → va_S AA ss.heap H locs → ∀ (ls : Array Slot), lv_has ls 4 [(0, .ref (c 0)), (1, .long a), (3, .int (nI i))] → W pp l ee { frames := 0, cells := 0, slots := 0, locals := 0 } ss mm [.ref (c 0), .long h].toArray bb me cd H locs 0 0 QQ (F0 mm 2 ls []) := by
    intro nn
    induction nn with
    | zero => intro i a hi ha hm; exact absurd hm (Nat.not_lt_zero _)
    | succ nn ih2 =>
      intro i a hi ha hm2 H locs hP hD hS ls hl
      refine lv_iload_n zx zb dX2_mixWants_2 rfl (lv_at hl 2 rfl) ?_
      refine lv_bipush (v := nI 8) zx zb dX2_mixWants_3 (by decide) ?_
      refine lv_icmp_ge (tgt := 28) zx zb dX2_mixWants_5 (by decide) (fun c_5 => ?_) (fun c_5 => ?_)
      · have c_5 : 8 ≤ i := (nI_leI (a := 8) (b := i) (by omega) (by omega)).mp c_5
        refine lv_lload_n zx zb dX2_mixWants_28 rfl (lv_at hl 1 rfl) ?_
        exact fin _ _ a () 29 _ dX2_mixWants_29 (by have e : i = 8 := (by omega); subst e; exact ha) hP hD hS
      · have c_5 : ¬ (8 ≤ i) := fun h => c_5 ((nI_leI (a := 8) (b := i) (by omega) (by omega)).mpr h)
        refine lv_ldc2 zx zb hown (hts _ kl_X2_166) dX2_mixWants_8 ?_
        refine lv_lload_n zx zb dX2_mixWants_11 rfl (lv_at hl 1 rfl) ?_
        refine lv_lmul zx zb dX2_mixWants_12 ?_
        refine lv_aload_n zx zb dX2_mixWants_13 rfl (lv_at hl 0 rfl) ?_
        refine g_get (v := .ref (c 4)) XX hP 0 0 rfl rfl rfl iwX2 6 (by decide) fl_X2_21 rfl dX2_mixWants_14 ?_
        refine lv_iload_n zx zb dX2_mixWants_17 rfl (lv_at hl 2 rfl) ?_
        refine g_ialdN (i := i) XX hP 0 4 rfl rfl (by omega) (by decide) dX2_mixWants_18 ?_
        refine lv_i2l (v := (C.2.2.2.2.2.1 i).toInt64) zx zb dX2_mixWants_19 rfl ?_
        refine lv_ladd zx zb dX2_mixWants_20 ?_
        refine lv_lstore_n (lv' := [(1, .long (((31 : Int64) * a) + ((C.2.2.2.2.2.1 i).toInt64))), (0, .ref (c 0)), (3, .int (nI i))]) zx zb dX2_mixWants_21 rfl hl (by decide) rfl (fun ls hl => ?_)
        refine lv_iinc (v := nI (i + 1)) (lv' := [(3, .int (nI (i + 1))), (1, .long (((31 : Int64) * a) + ((C.2.2.2.2.2.1 i).toInt64))), (0, .ref (c 0))]) zx zb dX2_mixWants_22 hl (k := 2) rfl (nI_inc _ 1) (by decide) rfl (fun ls hl => ?_)
        refine lv_goto (tgt := 2) zx zb dX2_mixWants_25 (by decide) ?_
        exact ih2 (i + 1) (((31 : Int64) * a) + ((C.2.2.2.2.2.1 i).toInt64)) (by omega) (by rw [mixF, ← ha]) (by omega) _ _ hP hD hS _ (lv_sub hl [2, 1, 0] rfl)
  exact L2 _ 0 h (by omega) (rfl) (Nat.lt_succ_self _) _ _ hP hD hS _ (lv_sub hl [1, 2, 0] rfl)

set_option maxHeartbeats 4000000 in
set_option maxRecDepth 100000 in
theorem c_X2_mixTides (Γ : GG) (l : Launch) (c : Nat → Nat) (k : Nat → Nat) (C : CoV) (h : Int64) (hdc : C.2.2.2.2.2.2.2.1 ≤ 6) : Cl Γ l yX2_mixTides cX2_mixTides 4 (some (.long)) 0 0 0 0 [.ref (c 0), .long h] [bCo Γ c k C] (fun (r : Int64) (u : Unit) => r = coMixT C h C.2.2.2.2.2.2.2.1) (fun (u : Unit) => [bCo Γ c k C]) := by
  refine Cl.of rfl (by decide) (Nat.le_of_ble_eq_true rfl) ?_
  intro pp ee ss mm bb me cd AA QQ XX hnm hA hP hD fin ls hl
  obtain ⟨zx, zb, hml, hown, hts, hK⟩ := id XX
  have hS : va_S AA ss.heap ss.heap [] := va_S.rf
  have hl : lv_has ls 4 [(0, .ref (c 0)), (1, .long h)] := hl
  refine lv_iconst (v := nI 0) zx zb dX2_mixTides_0 (by decide) ?_
  refine lv_istore_n (lv' := [(3, .int (nI 0)), (0, .ref (c 0)), (1, .long h)]) zx zb dX2_mixTides_1 rfl hl (by decide) rfl (fun ls hl => ?_)
  have L2 : ∀ (nn : Nat) (i : Nat) (a : Int64), (i ≤ C.2.2.2.2.2.2.2.1) → (a = coMixT C h i) → C.2.2.2.2.2.2.2.1 - i < nn → ∀ (H : Heap) (locs : List Loc), bP Γ [bCo Γ c k C] H → bD AA [bCo Γ c k C] → va_S AA ss.heap H locs → ∀ (ls : Array Slot), lv_has ls 4 [(0, .ref (c 0)), (1, .long a), (3, .int (nI i))] → W pp l ee { frames := 0, cells := 0, slots := 0, locals := 0 } ss mm [.ref (c 0), .long h].toArray bb me cd H locs 0 0 QQ (F0 mm 2 ls []) := by
    intro nn
    induction nn with
    | zero => intro i a hi ha hm; exact absurd hm (Nat.not_lt_zero _)
    | succ nn ih2 =>
      intro i a hi ha hm2 H locs hP hD hS ls hl
      refine lv_iload_n zx zb dX2_mixTides_2 rfl (lv_at hl 2 rfl) ?_
      refine lv_aload_n zx zb dX2_mixTides_3 rfl (lv_at hl 0 rfl) ?_
      refine g_get (v := .int (nI (C.2.2.2.2.2.2.2.1))) XX hP 0 0 rfl rfl rfl iwX2 12 (by decide) fl_X2_56 rfl dX2_mixTides_4 ?_
      refine lv_icmp_ge (tgt := 58) zx zb dX2_mixTides_7 (by decide) (fun c_7 => ?_) (fun c_7 => ?_)
      · have c_7 : C.2.2.2.2.2.2.2.1 ≤ i := (nI_leI (a := C.2.2.2.2.2.2.2.1) (b := i) (by omega) (by omega)).mp c_7
        refine lv_lload_n zx zb dX2_mixTides_58 rfl (lv_at hl 1 rfl) ?_
        exact fin _ _ a () 59 _ dX2_mixTides_59 (by have e : i = C.2.2.2.2.2.2.2.1 := (by omega); subst e; exact ha) hP hD hS
      · have c_7 : ¬ (C.2.2.2.2.2.2.2.1 ≤ i) := fun h => c_7 ((nI_leI (a := C.2.2.2.2.2.2.2.1) (b := i) (by omega) (by omega)).mpr h)
        refine lv_ldc2 zx zb hown (hts _ kl_X2_166) dX2_mixTides_10 ?_
        refine lv_lload_n zx zb dX2_mixTides_13 rfl (lv_at hl 1 rfl) ?_
        refine lv_lmul zx zb dX2_mixTides_14 ?_
        refine lv_aload_n zx zb dX2_mixTides_15 rfl (lv_at hl 0 rfl) ?_
        refine g_get (v := .ref (c 12)) XX hP 0 0 rfl rfl rfl iwX2 9 (by decide) fl_X2_30 rfl dX2_mixTides_16 ?_
        refine lv_iload_n zx zb dX2_mixTides_19 rfl (lv_at hl 2 rfl) ?_
        refine g_ialdN (i := i) XX hP 0 6 rfl rfl (by omega) (by decide) dX2_mixTides_20 ?_
        refine lv_i2l (v := (C.2.2.2.2.2.2.2.2.1 i).toInt64) zx zb dX2_mixTides_21 rfl ?_
        refine lv_ladd zx zb dX2_mixTides_22 ?_
        refine lv_lstore_n (lv' := [(1, .long (((31 : Int64) * a) + ((C.2.2.2.2.2.2.2.2.1 i).toInt64))), (0, .ref (c 0)), (3, .int (nI i))]) zx zb dX2_mixTides_23 rfl hl (by decide) rfl (fun ls hl => ?_)
        refine lv_ldc2 zx zb hown (hts _ kl_X2_166) dX2_mixTides_24 ?_
        refine lv_lload_n zx zb dX2_mixTides_27 rfl (lv_at hl 0 rfl) ?_
        refine lv_lmul zx zb dX2_mixTides_28 ?_
        refine lv_aload_n zx zb dX2_mixTides_29 rfl (lv_at hl 1 rfl) ?_
        refine g_get (v := .ref (c 13)) XX hP 0 0 rfl rfl rfl iwX2 10 (by decide) fl_X2_33 rfl dX2_mixTides_30 ?_
        refine lv_iload_n zx zb dX2_mixTides_33 rfl (lv_at hl 2 rfl) ?_
        refine g_ialdN (i := i) XX hP 0 7 rfl rfl (by omega) (by decide) dX2_mixTides_34 ?_
        refine lv_i2l (v := (C.2.2.2.2.2.2.2.2.2.1 i).toInt64) zx zb dX2_mixTides_35 rfl ?_
        refine lv_ladd zx zb dX2_mixTides_36 ?_
        refine lv_lstore_n (lv' := [(1, .long (((31 : Int64) * (((31 : Int64) * a) + ((C.2.2.2.2.2.2.2.2.1 i).toInt64))) + ((C.2.2.2.2.2.2.2.2.2.1 i).toInt64))), (0, .ref (c 0)), (3, .int (nI i))]) zx zb dX2_mixTides_37 rfl hl (by decide) rfl (fun ls hl => ?_)
        refine lv_ldc2 zx zb hown (hts _ kl_X2_166) dX2_mixTides_38 ?_
        refine lv_lload_n zx zb dX2_mixTides_41 rfl (lv_at hl 0 rfl) ?_
        refine lv_lmul zx zb dX2_mixTides_42 ?_
        refine lv_aload_n zx zb dX2_mixTides_43 rfl (lv_at hl 1 rfl) ?_
        refine g_get (v := .ref (c 14)) XX hP 0 0 rfl rfl rfl iwX2 11 (by decide) fl_X2_36 rfl dX2_mixTides_44 ?_
        refine lv_iload_n zx zb dX2_mixTides_47 rfl (lv_at hl 2 rfl) ?_
        refine g_ialdN (i := i) XX hP 0 8 rfl rfl (by omega) (by decide) dX2_mixTides_48 ?_
        refine lv_i2l (v := (C.2.2.2.2.2.2.2.2.2.2 i).toInt64) zx zb dX2_mixTides_49 rfl ?_
        refine lv_ladd zx zb dX2_mixTides_50 ?_
        refine lv_lstore_n (lv' := [(1, .long (((31 : Int64) * (((31 : Int64) * (((31 : Int64) * a) + ((C.2.2.2.2.2.2.2.2.1 i).toInt64))) + ((C.2.2.2.2.2.2.2.2.2.1 i).toInt64))) + ((C.2.2.2.2.2.2.2.2.2.2 i).toInt64))), (0, .ref (c 0)), (3, .int (nI i))]) zx zb dX2_mixTides_51 rfl hl (by decide) rfl (fun ls hl => ?_)
        refine lv_iinc (v := nI (i + 1)) (lv' := [(3, .int (nI (i + 1))), (1, .long (((31 : Int64) * (((31 : Int64) * (((31 : Int64) * a) + ((C.2.2.2.2.2.2.2.2.1 i).toInt64))) + ((C.2.2.2.2.2.2.2.2.2.1 i).toInt64))) + ((C.2.2.2.2.2.2.2.2.2.2 i).toInt64))), (0, .ref (c 0))]) zx zb dX2_mixTides_52 hl (k := 2) rfl (nI_inc _ 1) (by decide) rfl (fun ls hl => ?_)
        refine lv_goto (tgt := 2) zx zb dX2_mixTides_55 (by decide) ?_
        exact ih2 (i + 1) (((31 : Int64) * (((31 : Int64) * (((31 : Int64) * a) + ((C.2.2.2.2.2.2.2.2.1 i).toInt64))) + ((C.2.2.2.2.2.2.2.2.2.1 i).toInt64))) + ((C.2.2.2.2.2.2.2.2.2.2 i).toInt64)) (by omega) (by rw [coMixT, ← ha]) (by omega) _ _ hP hD hS _ (lv_sub hl [2, 1, 0] rfl)
  exact L2 _ 0 h (by omega) (rfl) (Nat.lt_succ_self _) _ _ hP hD hS _ (lv_sub hl [1, 2, 0] rfl)

set_option maxHeartbeats 4000000 in
set_option maxRecDepth 100000 in
theorem c_X2_copyOf (Γ : GG) (l : Launch) (c : Nat → Nat) (k : Nat → Nat) (C : CoV) (tr : Nat → TrV) (d : Nat → Nat) (E : CoV) (tr2 : Nat → TrV) (htc : E.2.2.2.2.2.2.1 ≤ 6) : Cv Γ l yX2_copyOf cX2_copyOf 3 none 1 26 0 0 [.ref (c 0), .ref (d 0)] [bCo Γ c k C, bTs Γ c k tr, bCo Γ d k E, bTs Γ d k tr2] (fun (u : CoV × (Nat → TrV)) => u = (E, trCpy tr2 tr (coTc E))) (fun (u : CoV × (Nat → TrV)) => [bCo Γ c k u.1, bTs Γ c k u.2, bCo Γ d k E, bTs Γ d k tr2]) := by
  refine Cv.of rfl (by decide) (Nat.le_of_ble_eq_true rfl) ?_
  intro pp ee ss mm bb me cd AA QQ XX hnm hA hP hD fin ls hl
  obtain ⟨zx, zb, hml, hown, hts, hK⟩ := id XX
  have hS : va_S AA ss.heap ss.heap [] := va_S.rf
  have hl : lv_has ls 3 [(0, .ref (c 0)), (1, .ref (d 0))] := hl
  refine lv_aload_n zx zb dX2_copyOf_0 rfl (lv_at hl 0 rfl) ?_
  refine lv_aload_n zx zb dX2_copyOf_1 rfl (lv_at hl 1 rfl) ?_
  refine g_get (v := .int (nI (E.1))) XX hP 2 0 rfl rfl rfl iwX2 1 (by decide) fl_X2_46 rfl dX2_copyOf_2 ?_
  refine g_put (v := .int (nI (E.1))) (blk' := bCo Γ c k (E.1, C.2.1, C.2.2.1, C.2.2.2.1, C.2.2.2.2.1, C.2.2.2.2.2.1, C.2.2.2.2.2.2.1, C.2.2.2.2.2.2.2.1, C.2.2.2.2.2.2.2.2.1, C.2.2.2.2.2.2.2.2.2.1, C.2.2.2.2.2.2.2.2.2.2)) (bs' := [bCo Γ c k (E.1, C.2.1, C.2.2.1, C.2.2.2.1, C.2.2.2.2.1, C.2.2.2.2.2.1, C.2.2.2.2.2.2.1, C.2.2.2.2.2.2.2.1, C.2.2.2.2.2.2.2.2.1, C.2.2.2.2.2.2.2.2.2.1, C.2.2.2.2.2.2.2.2.2.2), bTs Γ c k tr, bCo Γ d k E, bTs Γ d k tr2]) XX hP hD hS 0 0 rfl rfl rfl iwX2 tyX2_ok nmX2 1 (by decide) fl_X2_46 rfl rfl rfl (Nat.le_of_ble_eq_true rfl) rfl rfl rfl dX2_copyOf_5 (fun H locs hP hD hS => ?_)
  refine lv_aload_n zx zb dX2_copyOf_8 rfl (lv_at hl 0 rfl) ?_
  refine lv_aload_n zx zb dX2_copyOf_9 rfl (lv_at hl 1 rfl) ?_
  refine g_get (v := .int E.2.1) XX hP 2 0 rfl rfl rfl iwX2 2 (by decide) fl_X2_50 rfl dX2_copyOf_10 ?_
  refine g_put (v := .int E.2.1) (blk' := bCo Γ c k (E.1, E.2.1, C.2.2.1, C.2.2.2.1, C.2.2.2.2.1, C.2.2.2.2.2.1, C.2.2.2.2.2.2.1, C.2.2.2.2.2.2.2.1, C.2.2.2.2.2.2.2.2.1, C.2.2.2.2.2.2.2.2.2.1, C.2.2.2.2.2.2.2.2.2.2)) (bs' := [bCo Γ c k (E.1, E.2.1, C.2.2.1, C.2.2.2.1, C.2.2.2.2.1, C.2.2.2.2.2.1, C.2.2.2.2.2.2.1, C.2.2.2.2.2.2.2.1, C.2.2.2.2.2.2.2.2.1, C.2.2.2.2.2.2.2.2.2.1, C.2.2.2.2.2.2.2.2.2.2), bTs Γ c k tr, bCo Γ d k E, bTs Γ d k tr2]) XX hP hD hS 0 0 rfl rfl rfl iwX2 tyX2_ok nmX2 2 (by decide) fl_X2_50 rfl rfl rfl (Nat.le_of_ble_eq_true rfl) rfl rfl rfl dX2_copyOf_13 (fun H locs hP hD hS => ?_)
  refine lv_aload_n zx zb dX2_copyOf_16 rfl (lv_at hl 1 rfl) ?_
  refine g_get (v := .ref (d 1)) XX hP 2 0 rfl rfl rfl iwX2 3 (by decide) fl_X2_9 rfl dX2_copyOf_17 ?_
  refine lv_iconst (v := nI 0) zx zb dX2_copyOf_20 (by decide) ?_
  refine lv_aload_n zx zb dX2_copyOf_21 rfl (lv_at hl 0 rfl) ?_
  refine g_get (v := .ref (c 1)) XX hP 0 0 rfl rfl rfl iwX2 3 (by decide) fl_X2_9 rfl dX2_copyOf_22 ?_
  refine lv_iconst (v := nI 0) zx zb dX2_copyOf_25 (by decide) ?_
  refine lv_bipush (v := nI 8) zx zb dX2_copyOf_26 (by decide) ?_
  refine g_copy (rest := []) (N := 8) (blk' := bCo Γ c k (E.1, E.2.1, E.2.2.1, C.2.2.2.1, C.2.2.2.2.1, C.2.2.2.2.2.1, C.2.2.2.2.2.2.1, C.2.2.2.2.2.2.2.1, C.2.2.2.2.2.2.2.2.1, C.2.2.2.2.2.2.2.2.2.1, C.2.2.2.2.2.2.2.2.2.2)) (bs' := [bCo Γ c k (E.1, E.2.1, E.2.2.1, C.2.2.2.1, C.2.2.2.2.1, C.2.2.2.2.2.1, C.2.2.2.2.2.2.1, C.2.2.2.2.2.2.2.1, C.2.2.2.2.2.2.2.2.1, C.2.2.2.2.2.2.2.2.2.1, C.2.2.2.2.2.2.2.2.2.2), bTs Γ c k tr, bCo Γ d k E, bTs Γ d k tr2]) XX hP hD hS hl.1 (by decide) (by decide) 2 1 0 1 rfl rfl rfl rfl (by decide) rfl rfl ml_X2_63 (Nat.le_of_ble_eq_true rfl) dX2_copyOf_28 (fun H locs hP hD hS => ?_)
  refine lv_aload_n zx zb dX2_copyOf_31 rfl (lv_at hl 1 rfl) ?_
  refine g_get (v := .ref (d 2)) XX hP 2 0 rfl rfl rfl iwX2 4 (by decide) fl_X2_15 rfl dX2_copyOf_32 ?_
  refine lv_iconst (v := nI 0) zx zb dX2_copyOf_35 (by decide) ?_
  refine lv_aload_n zx zb dX2_copyOf_36 rfl (lv_at hl 0 rfl) ?_
  refine g_get (v := .ref (c 2)) XX hP 0 0 rfl rfl rfl iwX2 4 (by decide) fl_X2_15 rfl dX2_copyOf_37 ?_
  refine lv_iconst (v := nI 0) zx zb dX2_copyOf_40 (by decide) ?_
  refine lv_bipush (v := nI 8) zx zb dX2_copyOf_41 (by decide) ?_
  refine g_copy (rest := []) (N := 8) (blk' := bCo Γ c k (E.1, E.2.1, E.2.2.1, E.2.2.2.1, C.2.2.2.2.1, C.2.2.2.2.2.1, C.2.2.2.2.2.2.1, C.2.2.2.2.2.2.2.1, C.2.2.2.2.2.2.2.2.1, C.2.2.2.2.2.2.2.2.2.1, C.2.2.2.2.2.2.2.2.2.2)) (bs' := [bCo Γ c k (E.1, E.2.1, E.2.2.1, E.2.2.2.1, C.2.2.2.2.1, C.2.2.2.2.2.1, C.2.2.2.2.2.2.1, C.2.2.2.2.2.2.2.1, C.2.2.2.2.2.2.2.2.1, C.2.2.2.2.2.2.2.2.2.1, C.2.2.2.2.2.2.2.2.2.2), bTs Γ c k tr, bCo Γ d k E, bTs Γ d k tr2]) XX hP hD hS hl.1 (by decide) (by decide) 2 2 0 2 rfl rfl rfl rfl (by decide) rfl rfl ml_X2_63 (Nat.le_of_ble_eq_true rfl) dX2_copyOf_43 (fun H locs hP hD hS => ?_)
  refine lv_aload_n zx zb dX2_copyOf_46 rfl (lv_at hl 1 rfl) ?_
  refine g_get (v := .ref (d 3)) XX hP 2 0 rfl rfl rfl iwX2 5 (by decide) fl_X2_18 rfl dX2_copyOf_47 ?_
  refine lv_iconst (v := nI 0) zx zb dX2_copyOf_50 (by decide) ?_
  refine lv_aload_n zx zb dX2_copyOf_51 rfl (lv_at hl 0 rfl) ?_
  refine g_get (v := .ref (c 3)) XX hP 0 0 rfl rfl rfl iwX2 5 (by decide) fl_X2_18 rfl dX2_copyOf_52 ?_
  refine lv_iconst (v := nI 0) zx zb dX2_copyOf_55 (by decide) ?_
  refine lv_bipush (v := nI 8) zx zb dX2_copyOf_56 (by decide) ?_
  refine g_copy (rest := []) (N := 8) (blk' := bCo Γ c k (E.1, E.2.1, E.2.2.1, E.2.2.2.1, E.2.2.2.2.1, C.2.2.2.2.2.1, C.2.2.2.2.2.2.1, C.2.2.2.2.2.2.2.1, C.2.2.2.2.2.2.2.2.1, C.2.2.2.2.2.2.2.2.2.1, C.2.2.2.2.2.2.2.2.2.2)) (bs' := [bCo Γ c k (E.1, E.2.1, E.2.2.1, E.2.2.2.1, E.2.2.2.2.1, C.2.2.2.2.2.1, C.2.2.2.2.2.2.1, C.2.2.2.2.2.2.2.1, C.2.2.2.2.2.2.2.2.1, C.2.2.2.2.2.2.2.2.2.1, C.2.2.2.2.2.2.2.2.2.2), bTs Γ c k tr, bCo Γ d k E, bTs Γ d k tr2]) XX hP hD hS hl.1 (by decide) (by decide) 2 3 0 3 rfl rfl rfl rfl (by decide) rfl rfl ml_X2_63 (Nat.le_of_ble_eq_true rfl) dX2_copyOf_58 (fun H locs hP hD hS => ?_)
  refine lv_aload_n zx zb dX2_copyOf_61 rfl (lv_at hl 1 rfl) ?_
  refine g_get (v := .ref (d 4)) XX hP 2 0 rfl rfl rfl iwX2 6 (by decide) fl_X2_21 rfl dX2_copyOf_62 ?_
  refine lv_iconst (v := nI 0) zx zb dX2_copyOf_65 (by decide) ?_
  refine lv_aload_n zx zb dX2_copyOf_66 rfl (lv_at hl 0 rfl) ?_
  refine g_get (v := .ref (c 4)) XX hP 0 0 rfl rfl rfl iwX2 6 (by decide) fl_X2_21 rfl dX2_copyOf_67 ?_
  refine lv_iconst (v := nI 0) zx zb dX2_copyOf_70 (by decide) ?_
  refine lv_bipush (v := nI 8) zx zb dX2_copyOf_71 (by decide) ?_
  refine g_copy (rest := []) (N := 8) (blk' := bCo Γ c k (E.1, E.2.1, E.2.2.1, E.2.2.2.1, E.2.2.2.2.1, E.2.2.2.2.2.1, C.2.2.2.2.2.2.1, C.2.2.2.2.2.2.2.1, C.2.2.2.2.2.2.2.2.1, C.2.2.2.2.2.2.2.2.2.1, C.2.2.2.2.2.2.2.2.2.2)) (bs' := [bCo Γ c k (E.1, E.2.1, E.2.2.1, E.2.2.2.1, E.2.2.2.2.1, E.2.2.2.2.2.1, C.2.2.2.2.2.2.1, C.2.2.2.2.2.2.2.1, C.2.2.2.2.2.2.2.2.1, C.2.2.2.2.2.2.2.2.2.1, C.2.2.2.2.2.2.2.2.2.2), bTs Γ c k tr, bCo Γ d k E, bTs Γ d k tr2]) XX hP hD hS hl.1 (by decide) (by decide) 2 4 0 4 rfl rfl rfl rfl (by decide) rfl rfl ml_X2_63 (Nat.le_of_ble_eq_true rfl) dX2_copyOf_73 (fun H locs hP hD hS => ?_)
  refine lv_aload_n zx zb dX2_copyOf_76 rfl (lv_at hl 0 rfl) ?_
  refine lv_aload_n zx zb dX2_copyOf_77 rfl (lv_at hl 1 rfl) ?_
  refine g_get (v := .int (nI (E.2.2.2.2.2.2.1))) XX hP 2 0 rfl rfl rfl iwX2 8 (by decide) fl_X2_53 rfl dX2_copyOf_78 ?_
  refine g_put (v := .int (nI (E.2.2.2.2.2.2.1))) (blk' := bCo Γ c k (E.1, E.2.1, E.2.2.1, E.2.2.2.1, E.2.2.2.2.1, E.2.2.2.2.2.1, E.2.2.2.2.2.2.1, C.2.2.2.2.2.2.2.1, C.2.2.2.2.2.2.2.2.1, C.2.2.2.2.2.2.2.2.2.1, C.2.2.2.2.2.2.2.2.2.2)) (bs' := [bCo Γ c k (E.1, E.2.1, E.2.2.1, E.2.2.2.1, E.2.2.2.2.1, E.2.2.2.2.2.1, E.2.2.2.2.2.2.1, C.2.2.2.2.2.2.2.1, C.2.2.2.2.2.2.2.2.1, C.2.2.2.2.2.2.2.2.2.1, C.2.2.2.2.2.2.2.2.2.2), bTs Γ c k tr, bCo Γ d k E, bTs Γ d k tr2]) XX hP hD hS 0 0 rfl rfl rfl iwX2 tyX2_ok nmX2 8 (by decide) fl_X2_53 rfl rfl rfl (Nat.le_of_ble_eq_true rfl) rfl rfl rfl dX2_copyOf_81 (fun H locs hP hD hS => ?_)
  refine lv_iconst (v := nI 0) zx zb dX2_copyOf_84 (by decide) ?_
  refine lv_istore_n (lv' := [(2, .int (nI 0)), (0, .ref (c 0)), (1, .ref (d 0))]) zx zb dX2_copyOf_85 rfl hl (by decide) rfl (fun ls hl => ?_)
  have L86 : ∀ (nn : Nat) (i : Nat) (T : Nat → TrV), (i ≤ E.2.2.2.2.2.2.1) → (T = trCpy tr2 tr i) → E.2.2.2.2.2.2.1 - i < nn → ∀ (H : Heap) (locs : List Loc), bP Γ [bCo Γ c k (E.1, E.2.1, E.2.2.1, E.2.2.2.1, E.2.2.2.2.1, E.2.2.2.2.2.1, E.2.2.2.2.2.2.1, C.2.2.2.2.2.2.2.1, C.2.2.2.2.2.2.2.2.1, C.2.2.2.2.2.2.2.2.2.1, C.2.2.2.2.2.2.2.2.2.2), bTs Γ c k T, bCo Γ d k E, bTs Γ d k tr2] H → bD AA [bCo Γ c k (E.1, E.2.1, E.2.2.1, E.2.2.2.1, E.2.2.2.2.1, E.2.2.2.2.2.1, E.2.2.2.2.2.2.1, C.2.2.2.2.2.2.2.1, C.2.2.2.2.2.2.2.2.1, C.2.2.2.2.2.2.2.2.2.1, C.2.2.2.2.2.2.2.2.2.2), bTs Γ c k T, bCo Γ d k E, bTs Γ d k tr2] → va_S AA ss.heap H locs → ∀ (ls : Array Slot), lv_has ls 3 [(0, .ref (c 0)), (1, .ref (d 0)), (2, .int (nI i))] → W pp l ee { frames := 1, cells := 0, slots := 0, locals := 26 } ss mm [.ref (c 0), .ref (d 0)].toArray bb me cd H locs 0 0 QQ (F0 mm 86 ls []) := by
    intro nn
    induction nn with
    | zero => intro i T hi hT hm; exact absurd hm (Nat.not_lt_zero _)
    | succ nn ih86 =>
      intro i T hi hT hm86 H locs hP hD hS ls hl
      refine lv_iload_n zx zb dX2_copyOf_86 rfl (lv_at hl 2 rfl) ?_
      refine lv_aload_n zx zb dX2_copyOf_87 rfl (lv_at hl 0 rfl) ?_
      refine g_get (v := .int (nI (E.2.2.2.2.2.2.1))) XX hP 0 0 rfl rfl rfl iwX2 8 (by decide) fl_X2_53 rfl dX2_copyOf_88 ?_
      refine lv_icmp_ge (tgt := 115) zx zb dX2_copyOf_91 (by decide) (fun c_91 => ?_) (fun c_91 => ?_)
      · have c_91 : E.2.2.2.2.2.2.1 ≤ i := (nI_leI (a := E.2.2.2.2.2.2.1) (b := i) (by omega) (by omega)).mp c_91
        refine lv_aload_n zx zb dX2_copyOf_115 rfl (lv_at hl 0 rfl) ?_
        refine lv_aload_n zx zb dX2_copyOf_116 rfl (lv_at hl 1 rfl) ?_
        refine g_get (v := .int (nI (E.2.2.2.2.2.2.2.1))) XX hP 2 0 rfl rfl rfl iwX2 12 (by decide) fl_X2_56 rfl dX2_copyOf_117 ?_
        refine g_put (v := .int (nI (E.2.2.2.2.2.2.2.1))) (blk' := bCo Γ c k (E.1, E.2.1, E.2.2.1, E.2.2.2.1, E.2.2.2.2.1, E.2.2.2.2.2.1, E.2.2.2.2.2.2.1, E.2.2.2.2.2.2.2.1, C.2.2.2.2.2.2.2.2.1, C.2.2.2.2.2.2.2.2.2.1, C.2.2.2.2.2.2.2.2.2.2)) (bs' := [bCo Γ c k (E.1, E.2.1, E.2.2.1, E.2.2.2.1, E.2.2.2.2.1, E.2.2.2.2.2.1, E.2.2.2.2.2.2.1, E.2.2.2.2.2.2.2.1, C.2.2.2.2.2.2.2.2.1, C.2.2.2.2.2.2.2.2.2.1, C.2.2.2.2.2.2.2.2.2.2), bTs Γ c k T, bCo Γ d k E, bTs Γ d k tr2]) XX hP hD hS 0 0 rfl rfl rfl iwX2 tyX2_ok nmX2 12 (by decide) fl_X2_56 rfl rfl rfl (Nat.le_of_ble_eq_true rfl) rfl rfl rfl dX2_copyOf_120 (fun H locs hP hD hS => ?_)
        refine lv_aload_n zx zb dX2_copyOf_123 rfl (lv_at hl 1 rfl) ?_
        refine g_get (v := .ref (d 12)) XX hP 2 0 rfl rfl rfl iwX2 9 (by decide) fl_X2_30 rfl dX2_copyOf_124 ?_
        refine lv_iconst (v := nI 0) zx zb dX2_copyOf_127 (by decide) ?_
        refine lv_aload_n zx zb dX2_copyOf_128 rfl (lv_at hl 0 rfl) ?_
        refine g_get (v := .ref (c 12)) XX hP 0 0 rfl rfl rfl iwX2 9 (by decide) fl_X2_30 rfl dX2_copyOf_129 ?_
        refine lv_iconst (v := nI 0) zx zb dX2_copyOf_132 (by decide) ?_
        refine lv_bipush (v := nI 6) zx zb dX2_copyOf_133 (by decide) ?_
        refine g_copy (rest := []) (N := 6) (blk' := bCo Γ c k (E.1, E.2.1, E.2.2.1, E.2.2.2.1, E.2.2.2.2.1, E.2.2.2.2.2.1, E.2.2.2.2.2.2.1, E.2.2.2.2.2.2.2.1, E.2.2.2.2.2.2.2.2.1, C.2.2.2.2.2.2.2.2.2.1, C.2.2.2.2.2.2.2.2.2.2)) (bs' := [bCo Γ c k (E.1, E.2.1, E.2.2.1, E.2.2.2.1, E.2.2.2.2.1, E.2.2.2.2.2.1, E.2.2.2.2.2.2.1, E.2.2.2.2.2.2.2.1, E.2.2.2.2.2.2.2.2.1, C.2.2.2.2.2.2.2.2.2.1, C.2.2.2.2.2.2.2.2.2.2), bTs Γ c k T, bCo Γ d k E, bTs Γ d k tr2]) XX hP hD hS hl.1 (by decide) (by decide) 2 6 0 6 rfl rfl rfl rfl (by decide) rfl rfl ml_X2_63 (Nat.le_of_ble_eq_true rfl) dX2_copyOf_135 (fun H locs hP hD hS => ?_)
        refine lv_aload_n zx zb dX2_copyOf_138 rfl (lv_at hl 1 rfl) ?_
        refine g_get (v := .ref (d 13)) XX hP 2 0 rfl rfl rfl iwX2 10 (by decide) fl_X2_33 rfl dX2_copyOf_139 ?_
        refine lv_iconst (v := nI 0) zx zb dX2_copyOf_142 (by decide) ?_
        refine lv_aload_n zx zb dX2_copyOf_143 rfl (lv_at hl 0 rfl) ?_
        refine g_get (v := .ref (c 13)) XX hP 0 0 rfl rfl rfl iwX2 10 (by decide) fl_X2_33 rfl dX2_copyOf_144 ?_
        refine lv_iconst (v := nI 0) zx zb dX2_copyOf_147 (by decide) ?_
        refine lv_bipush (v := nI 6) zx zb dX2_copyOf_148 (by decide) ?_
        refine g_copy (rest := []) (N := 6) (blk' := bCo Γ c k (E.1, E.2.1, E.2.2.1, E.2.2.2.1, E.2.2.2.2.1, E.2.2.2.2.2.1, E.2.2.2.2.2.2.1, E.2.2.2.2.2.2.2.1, E.2.2.2.2.2.2.2.2.1, E.2.2.2.2.2.2.2.2.2.1, C.2.2.2.2.2.2.2.2.2.2)) (bs' := [bCo Γ c k (E.1, E.2.1, E.2.2.1, E.2.2.2.1, E.2.2.2.2.1, E.2.2.2.2.2.1, E.2.2.2.2.2.2.1, E.2.2.2.2.2.2.2.1, E.2.2.2.2.2.2.2.2.1, E.2.2.2.2.2.2.2.2.2.1, C.2.2.2.2.2.2.2.2.2.2), bTs Γ c k T, bCo Γ d k E, bTs Γ d k tr2]) XX hP hD hS hl.1 (by decide) (by decide) 2 7 0 7 rfl rfl rfl rfl (by decide) rfl rfl ml_X2_63 (Nat.le_of_ble_eq_true rfl) dX2_copyOf_150 (fun H locs hP hD hS => ?_)
        refine lv_aload_n zx zb dX2_copyOf_153 rfl (lv_at hl 1 rfl) ?_
        refine g_get (v := .ref (d 14)) XX hP 2 0 rfl rfl rfl iwX2 11 (by decide) fl_X2_36 rfl dX2_copyOf_154 ?_
        refine lv_iconst (v := nI 0) zx zb dX2_copyOf_157 (by decide) ?_
        refine lv_aload_n zx zb dX2_copyOf_158 rfl (lv_at hl 0 rfl) ?_
        refine g_get (v := .ref (c 14)) XX hP 0 0 rfl rfl rfl iwX2 11 (by decide) fl_X2_36 rfl dX2_copyOf_159 ?_
        refine lv_iconst (v := nI 0) zx zb dX2_copyOf_162 (by decide) ?_
        refine lv_bipush (v := nI 6) zx zb dX2_copyOf_163 (by decide) ?_
        refine g_copy (rest := []) (N := 6) (blk' := bCo Γ c k (E.1, E.2.1, E.2.2.1, E.2.2.2.1, E.2.2.2.2.1, E.2.2.2.2.2.1, E.2.2.2.2.2.2.1, E.2.2.2.2.2.2.2.1, E.2.2.2.2.2.2.2.2.1, E.2.2.2.2.2.2.2.2.2.1, E.2.2.2.2.2.2.2.2.2.2)) (bs' := [bCo Γ c k (E.1, E.2.1, E.2.2.1, E.2.2.2.1, E.2.2.2.2.1, E.2.2.2.2.2.1, E.2.2.2.2.2.2.1, E.2.2.2.2.2.2.2.1, E.2.2.2.2.2.2.2.2.1, E.2.2.2.2.2.2.2.2.2.1, E.2.2.2.2.2.2.2.2.2.2), bTs Γ c k T, bCo Γ d k E, bTs Γ d k tr2]) XX hP hD hS hl.1 (by decide) (by decide) 2 8 0 8 rfl rfl rfl rfl (by decide) rfl rfl ml_X2_63 (Nat.le_of_ble_eq_true rfl) dX2_copyOf_165 (fun H locs hP hD hS => ?_)
        exact fin _ _ ((E.1, E.2.1, E.2.2.1, E.2.2.2.1, E.2.2.2.2.1, E.2.2.2.2.2.1, E.2.2.2.2.2.2.1, E.2.2.2.2.2.2.2.1, E.2.2.2.2.2.2.2.2.1, E.2.2.2.2.2.2.2.2.2.1, E.2.2.2.2.2.2.2.2.2.2), T) 168 _ dX2_copyOf_168 (by have e : i = E.2.2.2.2.2.2.1 := (by omega); subst e; rw [hT]) hP hD hS
      · have c_91 : ¬ (E.2.2.2.2.2.2.1 ≤ i) := fun h => c_91 ((nI_leI (a := E.2.2.2.2.2.2.1) (b := i) (by omega) (by omega)).mpr h)
        refine lv_aload_n zx zb dX2_copyOf_94 rfl (lv_at hl 0 rfl) ?_
        refine g_get (v := .ref (c 5)) XX hP 0 0 rfl rfl rfl iwX2 7 (by decide) fl_X2_26 rfl dX2_copyOf_95 ?_
        refine lv_iload_n zx zb dX2_copyOf_98 rfl (lv_at hl 2 rfl) ?_
        refine g_aald (i := i) (v := c (6 + i)) XX hP 0 5 4 rfl rfl rfl (by omega) (by decide) rfl dX2_copyOf_99 ?_
        refine lv_aload_n zx zb dX2_copyOf_100 rfl (lv_at hl 1 rfl) ?_
        refine g_get (v := .ref (d 5)) XX hP 2 0 rfl rfl rfl iwX2 7 (by decide) fl_X2_26 rfl dX2_copyOf_101 ?_
        refine lv_iload_n zx zb dX2_copyOf_104 rfl (lv_at hl 2 rfl) ?_
        refine g_aald (i := i) (v := d (6 + i)) XX hP 2 5 4 rfl rfl rfl (by omega) (by decide) rfl dX2_copyOf_105 ?_
        refine call_Vv (As := [.ref (d (6 + i))]) (rest := []) XX cv_X2_69 (c_X9_copyOf Γ l c d k T tr2 i (by omega)) hP hD hS hA [1, 3] (by decide) rfl (fun _ => rfl) 1 i rfl (bTs_at Γ c k T (by omega)) rfl rfl hl.1 rfl ⟨⟨by decide, by decide⟩, by decide, by decide⟩ (Nat.le_of_ble_eq_true rfl) dX2_copyOf_106 (fun u H locs hw hP hD hS => ?_)
        have hw := hw.symm
        subst hw
        have hP : bP Γ [bCo Γ c k (E.1, E.2.1, E.2.2.1, E.2.2.2.1, E.2.2.2.2.1, E.2.2.2.2.2.1, E.2.2.2.2.2.2.1, C.2.2.2.2.2.2.2.1, C.2.2.2.2.2.2.2.2.1, C.2.2.2.2.2.2.2.2.2.1, C.2.2.2.2.2.2.2.2.2.2), bTs Γ c k (va_up T i (tr2 i)), bCo Γ d k E, bTs Γ d k tr2] H := hP
        have hD : bD AA [bCo Γ c k (E.1, E.2.1, E.2.2.1, E.2.2.2.1, E.2.2.2.2.1, E.2.2.2.2.2.1, E.2.2.2.2.2.2.1, C.2.2.2.2.2.2.2.1, C.2.2.2.2.2.2.2.2.1, C.2.2.2.2.2.2.2.2.2.1, C.2.2.2.2.2.2.2.2.2.2), bTs Γ c k (va_up T i (tr2 i)), bCo Γ d k E, bTs Γ d k tr2] := hD
        refine lv_iinc (v := nI (i + 1)) (lv' := [(2, .int (nI (i + 1))), (0, .ref (c 0)), (1, .ref (d 0))]) zx zb dX2_copyOf_109 hl (k := 2) rfl (nI_inc _ 1) (by decide) rfl (fun ls hl => ?_)
        refine lv_goto (tgt := 86) zx zb dX2_copyOf_112 (by decide) ?_
        exact ih86 (i + 1) (va_up T i (tr2 i)) (by omega) (by rw [hT]; exact trCpy_s) (by omega) _ _ hP hD hS _ (lv_sub hl [1, 2, 0] rfl)
  exact L86 _ 0 tr (by omega) (trCpy_0.symm) (Nat.lt_succ_self _) _ _ hP hD hS _ (lv_sub hl [1, 2, 0] rfl)
