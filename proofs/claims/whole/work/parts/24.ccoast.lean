theorem cu_X0_7 : CWSU RX0 7 yX6_costs cX6_costs 2 (some (.int)) 1 := ⟨cd_X6_costs, ml_X0_7, sm_X6_X6_costs, sc_X0, im_X6_costs, in_X6, by decide +kernel⟩
theorem cu_X1_7 : CWSU RX1 7 yX6_holds cX6_holds 2 (some (.int)) 1 := ⟨cd_X6_holds, ml_X1_7, sm_X6_X6_holds, sc_X1, im_X6_holds, in_X6, by decide +kernel⟩
theorem cu_X3_11 : CWSU RX3 11 yX0_costs cX0_costs 2 (some (.int)) 1 := ⟨cd_X0_costs, ml_X3_11, sm_X0_X0_costs, sc_X3, im_X0_costs, in_X0, by decide +kernel⟩
theorem cu_X5_7 : CWSU RX5 7 yX6_holds cX6_holds 2 (some (.int)) 1 := ⟨cd_X6_holds, ml_X5_7, sm_X6_X6_holds, sc_X5, im_X6_holds, in_X6, by decide +kernel⟩
theorem cx_X3_7 : CWSX RX3 7 ⟨RX0, "holds", "(Z)I"⟩ yX6_holds cX6_holds 2 (some (.int)) 1 := ⟨cd_X6_holds, ml_X3_7, sm_X0_X6_holds, sc_X3, sc_X0, im_X6_holds, in_X6, rfl, rfl, by decide +kernel⟩
theorem cx_X4_7 : CWSX RX4 7 ⟨RX5, "costs", "(I)I"⟩ yX6_costs cX6_costs 2 (some (.int)) 1 := ⟨cd_X6_costs, ml_X4_7, sm_X5_X6_costs, sc_X4, sc_X5, im_X6_costs, in_X6, rfl, rfl, by decide +kernel⟩
theorem cv_X2_103 : CWV RX2 103 RX2 yX2_isSpring cX2_isSpring 2 (some (.boolean)) 1 := ⟨cd_X2_isSpring, im_X2_isSpring, se_X2_X2_isSpring_X2_isSpring, in_X2, ml_X2_103, by decide +kernel⟩
theorem cv_X2_107 : CWV RX2 107 RX2 yX2_springMore cX2_springMore 2 (some (.int)) 1 := ⟨cd_X2_springMore, im_X2_springMore, se_X2_X2_springMore_X2_springMore, in_X2, ml_X2_107, by decide +kernel⟩
set_option maxHeartbeats 4000000 in
set_option maxRecDepth 100000 in
theorem c_X9_runsIn (Γ : GG) (l : Launch) (a : Nat) (k : Nat → Nat) (t : TrV) (z : Int32)  : Ci Γ l yX9_runsIn cX9_runsIn 2 (some (.boolean)) 0 0 0 0 [.ref a, .int z] [bTr Γ a k t] (fun (r : Int32) (u : Unit) => r = bI (trRuns t z)) (fun (u : Unit) => [bTr Γ a k t]) := by
  refine Ci.of (Or.inr rfl) (by decide) (Nat.le_of_ble_eq_true rfl) ?_
  intro pp ee ss mm bb me cd AA QQ XX hnm hA hP hD fin ls hl
  obtain ⟨zx, zb, hml, hown, hts, hK⟩ := id XX
  have hS : va_S AA ss.heap ss.heap [] := va_S.rf
  have hl : lv_has ls 2 [(0, .ref a), (1, .int z)] := hl
  refine lv_aload_n zx zb dX9_runsIn_0 rfl (lv_at hl 0 rfl) ?_
  refine g_get (v := .int t.2.2.2.2.1) XX hP 0 0 rfl rfl rfl iwX9 4 (by decide) fl_X9_23 rfl dX9_runsIn_1 ?_
  refine lv_iload_n zx zb dX9_runsIn_4 rfl (lv_at hl 1 rfl) ?_
  refine lv_icmp_gt (tgt := 20) zx zb dX9_runsIn_5 (by decide) (fun c_5 => ?_) (fun c_5 => ?_)
  · have c_5 : z < t.2.2.2.2.1 := c_5
    refine lv_iconst (v := nI 0) zx zb dX9_runsIn_20 (by decide) ?_
    exact fin _ _ (nI 0) () 21 _ dX9_runsIn_21 (fun _ => nar0) (by first | exact retT (by simp only [trRuns, Bool.and_eq_true, decide_eq_true_eq, Bool.and_eq_false_iff, decide_eq_false_iff_not]; first | exact ⟨Int32.not_lt.mp c_5, Int32.not_le.mp c_13⟩ | exact Or.inl (Int32.not_le.mpr c_5) | exact Or.inr (Int32.not_lt.mpr c_13)) | exact retF (by simp only [trRuns, Bool.and_eq_true, decide_eq_true_eq, Bool.and_eq_false_iff, decide_eq_false_iff_not]; first | exact ⟨Int32.not_lt.mp c_5, Int32.not_le.mp c_13⟩ | exact Or.inl (Int32.not_le.mpr c_5) | exact Or.inr (Int32.not_lt.mpr c_13))) hP hD hS
  · have c_5 : ¬ (z < t.2.2.2.2.1) := c_5
    refine lv_iload_n zx zb dX9_runsIn_8 rfl (lv_at hl 1 rfl) ?_
    refine lv_aload_n zx zb dX9_runsIn_9 rfl (lv_at hl 0 rfl) ?_
    refine g_get (v := .int t.2.2.2.2.2.1) XX hP 0 0 rfl rfl rfl iwX9 5 (by decide) fl_X9_26 rfl dX9_runsIn_10 ?_
    refine lv_icmp_ge (tgt := 20) zx zb dX9_runsIn_13 (by decide) (fun c_13 => ?_) (fun c_13 => ?_)
    · have c_13 : t.2.2.2.2.2.1 ≤ z := c_13
      refine lv_iconst (v := nI 0) zx zb dX9_runsIn_20 (by decide) ?_
      exact fin _ _ (nI 0) () 21 _ dX9_runsIn_21 (fun _ => nar0) (by first | exact retT (by simp only [trRuns, Bool.and_eq_true, decide_eq_true_eq, Bool.and_eq_false_iff, decide_eq_false_iff_not]; first | exact ⟨Int32.not_lt.mp c_5, Int32.not_le.mp c_13⟩ | exact Or.inl (Int32.not_le.mpr c_5) | exact Or.inr (Int32.not_lt.mpr c_13)) | exact retF (by simp only [trRuns, Bool.and_eq_true, decide_eq_true_eq, Bool.and_eq_false_iff, decide_eq_false_iff_not]; first | exact ⟨Int32.not_lt.mp c_5, Int32.not_le.mp c_13⟩ | exact Or.inl (Int32.not_le.mpr c_5) | exact Or.inr (Int32.not_lt.mpr c_13))) hP hD hS
    · have c_13 : ¬ (t.2.2.2.2.2.1 ≤ z) := c_13
      refine lv_iconst (v := nI 1) zx zb dX9_runsIn_16 (by decide) ?_
      refine lv_goto (tgt := 21) zx zb dX9_runsIn_17 (by decide) ?_
      exact fin _ _ (nI 1) () 21 _ dX9_runsIn_21 (fun _ => nar1) (by first | exact retT (by simp only [trRuns, Bool.and_eq_true, decide_eq_true_eq, Bool.and_eq_false_iff, decide_eq_false_iff_not]; first | exact ⟨Int32.not_lt.mp c_5, Int32.not_le.mp c_13⟩ | exact Or.inl (Int32.not_le.mpr c_5) | exact Or.inr (Int32.not_lt.mpr c_13)) | exact retF (by simp only [trRuns, Bool.and_eq_true, decide_eq_true_eq, Bool.and_eq_false_iff, decide_eq_false_iff_not]; first | exact ⟨Int32.not_lt.mp c_5, Int32.not_le.mp c_13⟩ | exact Or.inl (Int32.not_le.mpr c_5) | exact Or.inr (Int32.not_lt.mpr c_13))) hP hD hS

set_option maxHeartbeats 4000000 in
set_option maxRecDepth 100000 in
theorem c_X9_cellBits (Γ : GG) (l : Launch) (a : Nat) (k : Nat → Nat) (t : TrV)  : Ci Γ l yX9_cellBits cX9_cellBits 1 (some (.int)) 0 0 0 0 [.ref a] [bTr Γ a k t] (fun (r : Int32) (u : Unit) => r = trBits t) (fun (u : Unit) => [bTr Γ a k t]) := by
  refine Ci.of (Or.inl rfl) (by decide) (Nat.le_of_ble_eq_true rfl) ?_
  intro pp ee ss mm bb me cd AA QQ XX hnm hA hP hD fin ls hl
  obtain ⟨zx, zb, hml, hown, hts, hK⟩ := id XX
  have hS : va_S AA ss.heap ss.heap [] := va_S.rf
  have hl : lv_has ls 1 [(0, .ref a)] := hl
  refine lv_iconst (v := nI 2) zx zb dX9_cellBits_0 (by decide) ?_
  refine lv_aload_n zx zb dX9_cellBits_1 rfl (lv_at hl 0 rfl) ?_
  refine g_get (v := .int t.2.2.2.1) XX hP 0 0 rfl rfl rfl iwX9 3 (by decide) fl_X9_20 rfl dX9_cellBits_2 ?_
  refine lv_ishl zx zb dX9_cellBits_5 ?_
  refine lv_iconst (v := nI 1) zx zb dX9_cellBits_6 (by decide) ?_
  refine lv_aload_n zx zb dX9_cellBits_7 rfl (lv_at hl 0 rfl) ?_
  refine g_get (v := .int t.2.2.1) XX hP 0 0 rfl rfl rfl iwX9 2 (by decide) fl_X9_17 rfl dX9_cellBits_8 ?_
  refine lv_ishl zx zb dX9_cellBits_11 ?_
  refine lv_isub zx zb dX9_cellBits_12 ?_
  exact fin _ _ (((nI 2) <<< (t.2.2.2.1 &&& 31)) - ((nI 1) <<< (t.2.2.1 &&& 31))) () 13 _ dX9_cellBits_13 (fun h => by cases h) (rfl) hP hD hS

set_option maxHeartbeats 4000000 in
set_option maxRecDepth 100000 in
theorem c_X6_holds (Γ : GG) (l : Launch) (a : Nat) (sp : Bool)  : Ci Γ l yX6_holds cX6_holds 2 (some (.int)) 0 0 0 0 [.ref a, .int (bI sp)] [] (fun (r : Int32) (u : Unit) => r = nI 8) (fun (u : Unit) => []) := by
  refine Ci.of (Or.inl rfl) (by decide) (Nat.le_of_ble_eq_true rfl) ?_
  intro pp ee ss mm bb me cd AA QQ XX hnm hA hP hD fin ls hl
  obtain ⟨zx, zb, hml, hown, hts, hK⟩ := id XX
  have hS : va_S AA ss.heap ss.heap [] := va_S.rf
  have hl : lv_has ls 2 [(0, .ref a), (1, .int (bI sp))] := hl
  refine lv_bipush (v := nI 8) zx zb dX6_holds_0 (by decide) ?_
  exact fin _ _ (nI 8) () 2 _ dX6_holds_2 (fun h => by cases h) (rfl) hP hD hS

set_option maxHeartbeats 4000000 in
set_option maxRecDepth 100000 in
theorem c_X6_costs (Γ : GG) (l : Launch) (a : Nat) (q : Int32)  : Ci Γ l yX6_costs cX6_costs 2 (some (.int)) 0 0 0 0 [.ref a, .int q] [] (fun (r : Int32) (u : Unit) => r = q) (fun (u : Unit) => []) := by
  refine Ci.of (Or.inl rfl) (by decide) (Nat.le_of_ble_eq_true rfl) ?_
  intro pp ee ss mm bb me cd AA QQ XX hnm hA hP hD fin ls hl
  obtain ⟨zx, zb, hml, hown, hts, hK⟩ := id XX
  have hS : va_S AA ss.heap ss.heap [] := va_S.rf
  have hl : lv_has ls 2 [(0, .ref a), (1, .int q)] := hl
  refine lv_iload_n zx zb dX6_costs_0 rfl (lv_at hl 1 rfl) ?_
  exact fin _ _ q () 1 _ dX6_costs_1 (fun h => by cases h) (rfl) hP hD hS

set_option maxHeartbeats 4000000 in
set_option maxRecDepth 100000 in
theorem c_X6_due (Γ : GG) (l : Launch) (a : Nat) (q : Int32) (z : Int32)  : Ci Γ l yX6_due cX6_due 3 (some (.int)) 0 0 0 0 [.ref a, .int q, .int z] [] (fun (r : Int32) (u : Unit) => r = q) (fun (u : Unit) => []) := by
  refine Ci.of (Or.inl rfl) (by decide) (Nat.le_of_ble_eq_true rfl) ?_
  intro pp ee ss mm bb me cd AA QQ XX hnm hA hP hD fin ls hl
  obtain ⟨zx, zb, hml, hown, hts, hK⟩ := id XX
  have hS : va_S AA ss.heap ss.heap [] := va_S.rf
  have hl : lv_has ls 3 [(0, .ref a), (1, .int q), (2, .int z)] := hl
  refine lv_iload_n zx zb dX6_due_0 rfl (lv_at hl 1 rfl) ?_
  exact fin _ _ q () 1 _ dX6_due_1 (fun h => by cases h) (rfl) hP hD hS

set_option maxHeartbeats 4000000 in
set_option maxRecDepth 100000 in
theorem c_X5_holds_5 (Γ : GG) (l : Launch) (a : Nat) (sp : Bool)  : Ci Γ l yX5_holds cX5_holds 2 (some (.int)) 1 21 0 0 [.ref a, .int (bI sp)] [bOb5 Γ a] (fun (r : Int32) (u : Unit) => r = nI 11) (fun (u : Unit) => [bOb5 Γ a]) := by
  refine Ci.of (Or.inl rfl) (by decide) (Nat.le_of_ble_eq_true rfl) ?_
  intro pp ee ss mm bb me cd AA QQ XX hnm hA hP hD fin ls hl
  obtain ⟨zx, zb, hml, hown, hts, hK⟩ := id XX
  have hS : va_S AA ss.heap ss.heap [] := va_S.rf
  have hl : lv_has ls 2 [(0, .ref a), (1, .int (bI sp))] := hl
  refine lv_aload_n zx zb dX5_holds_0 rfl (lv_at hl 0 rfl) ?_
  refine lv_iload_n zx zb dX5_holds_1 rfl (lv_at hl 1 rfl) ?_
  refine callR_SUi (As := [.int (bI sp)]) (rest := []) XX cu_X5_7 (c_X6_holds Γ l a sp ) hP hD hS hA nil_mem nil_D 0 0 rfl rfl rfl rfl hl.1 rfl ⟨⟨by decide, by decide⟩, by decide, by decide⟩ (Nat.le_of_ble_eq_true rfl) dX5_holds_2 (fun r_2 H locs hw hP hS => ?_)
  have hw := hw.symm
  subst hw
  refine lv_iconst (v := nI 3) zx zb dX5_holds_5 (by decide) ?_
  refine lv_iadd zx zb dX5_holds_6 ?_
  refine g_top (y := nI 11) (nI_add 8 3) ?_
  exact fin _ _ (nI 11) () 7 _ dX5_holds_7 (fun h => by cases h) (rfl) hP hD hS

set_option maxHeartbeats 4000000 in
set_option maxRecDepth 100000 in
theorem c_X5_holds_4 (Γ : GG) (l : Launch) (a : Nat) (sp : Bool)  : Ci Γ l yX5_holds cX5_holds 2 (some (.int)) 1 21 0 0 [.ref a, .int (bI sp)] [bOb4 Γ a] (fun (r : Int32) (u : Unit) => r = nI 11) (fun (u : Unit) => [bOb4 Γ a]) := by
  refine Ci.of (Or.inl rfl) (by decide) (Nat.le_of_ble_eq_true rfl) ?_
  intro pp ee ss mm bb me cd AA QQ XX hnm hA hP hD fin ls hl
  obtain ⟨zx, zb, hml, hown, hts, hK⟩ := id XX
  have hS : va_S AA ss.heap ss.heap [] := va_S.rf
  have hl : lv_has ls 2 [(0, .ref a), (1, .int (bI sp))] := hl
  refine lv_aload_n zx zb dX5_holds_0 rfl (lv_at hl 0 rfl) ?_
  refine lv_iload_n zx zb dX5_holds_1 rfl (lv_at hl 1 rfl) ?_
  refine callR_SUi (As := [.int (bI sp)]) (rest := []) XX cu_X5_7 (c_X6_holds Γ l a sp ) hP hD hS hA nil_mem nil_D 0 0 rfl rfl rfl rfl hl.1 rfl ⟨⟨by decide, by decide⟩, by decide, by decide⟩ (Nat.le_of_ble_eq_true rfl) dX5_holds_2 (fun r_2 H locs hw hP hS => ?_)
  have hw := hw.symm
  subst hw
  refine lv_iconst (v := nI 3) zx zb dX5_holds_5 (by decide) ?_
  refine lv_iadd zx zb dX5_holds_6 ?_
  refine g_top (y := nI 11) (nI_add 8 3) ?_
  exact fin _ _ (nI 11) () 7 _ dX5_holds_7 (fun h => by cases h) (rfl) hP hD hS

set_option maxHeartbeats 4000000 in
set_option maxRecDepth 100000 in
theorem c_X1_holds_1 (Γ : GG) (l : Launch) (a : Nat) (sp : Bool)  : Ci Γ l yX1_holds cX1_holds 2 (some (.int)) 1 21 0 0 [.ref a, .int (bI sp)] [bOb1 Γ a] (fun (r : Int32) (u : Unit) => r = if sp = true then nI 15 else nI 8) (fun (u : Unit) => [bOb1 Γ a]) := by
  refine Ci.of (Or.inl rfl) (by decide) (Nat.le_of_ble_eq_true rfl) ?_
  intro pp ee ss mm bb me cd AA QQ XX hnm hA hP hD fin ls hl
  obtain ⟨zx, zb, hml, hown, hts, hK⟩ := id XX
  have hS : va_S AA ss.heap ss.heap [] := va_S.rf
  have hl : lv_has ls 2 [(0, .ref a), (1, .int (bI sp))] := hl
  refine lv_iload_n zx zb dX1_holds_0 rfl (lv_at hl 1 rfl) ?_
  refine lv_if_eq (tgt := 9) zx zb dX1_holds_1 (by decide) (fun c_1 => ?_) (fun c_1 => ?_)
  · have c_1 : sp = false := bI_0.mp c_1
    refine lv_aload_n zx zb dX1_holds_9 rfl (lv_at hl 0 rfl) ?_
    refine lv_iload_n zx zb dX1_holds_10 rfl (lv_at hl 1 rfl) ?_
    refine callR_SUi (As := [.int (bI sp)]) (rest := []) XX cu_X1_7 (c_X6_holds Γ l a sp ) hP hD hS hA nil_mem nil_D 0 0 rfl rfl rfl rfl hl.1 rfl ⟨⟨by decide, by decide⟩, by decide, by decide⟩ (Nat.le_of_ble_eq_true rfl) dX1_holds_11 (fun r_11 H locs hw hP hS => ?_)
    have hw := hw.symm
    subst hw
    exact fin _ _ (nI 8) () 14 _ dX1_holds_14 (fun h => by cases h) (by simp [c_1]) hP hD hS
  · have c_1 : sp = true := bI_ne c_1
    refine lv_bipush (v := nI 15) zx zb dX1_holds_4 (by decide) ?_
    refine lv_goto (tgt := 14) zx zb dX1_holds_6 (by decide) ?_
    exact fin _ _ (nI 15) () 14 _ dX1_holds_14 (fun h => by cases h) (by simp [c_1]) hP hD hS

set_option maxHeartbeats 4000000 in
set_option maxRecDepth 100000 in
theorem c_X3_holds_3 (Γ : GG) (l : Launch) (a : Nat) (sp : Bool)  : Ci Γ l yX3_holds cX3_holds 2 (some (.int)) 1 21 0 0 [.ref a, .int (bI sp)] [bOb3 Γ a] (fun (r : Int32) (u : Unit) => r = nI 8 / nI 2) (fun (u : Unit) => [bOb3 Γ a]) := by
  refine Ci.of (Or.inl rfl) (by decide) (Nat.le_of_ble_eq_true rfl) ?_
  intro pp ee ss mm bb me cd AA QQ XX hnm hA hP hD fin ls hl
  obtain ⟨zx, zb, hml, hown, hts, hK⟩ := id XX
  have hS : va_S AA ss.heap ss.heap [] := va_S.rf
  have hl : lv_has ls 2 [(0, .ref a), (1, .int (bI sp))] := hl
  refine lv_aload_n zx zb dX3_holds_0 rfl (lv_at hl 0 rfl) ?_
  refine lv_iload_n zx zb dX3_holds_1 rfl (lv_at hl 1 rfl) ?_
  refine callR_SXi (As := [.int (bI sp)]) (rest := []) XX cx_X3_7 (c_X6_holds Γ l a sp ) hP hD hS hA nil_mem nil_D 0 0 rfl rfl rfl rfl hl.1 rfl ⟨⟨by decide, by decide⟩, by decide, by decide⟩ (Nat.le_of_ble_eq_true rfl) dX3_holds_2 (fun r_2 H locs hw hP hS => ?_)
  have hw := hw.symm
  subst hw
  refine lv_iconst (v := nI 2) zx zb dX3_holds_5 (by decide) ?_
  refine lv_idiv zx zb dX3_holds_6 (by decide) ?_
  refine g_top (y := 8 / 2) rfl ?_
  exact fin _ _ (8 / 2) () 7 _ dX3_holds_7 (fun h => by cases h) (rfl) hP hD hS

set_option maxHeartbeats 4000000 in
set_option maxRecDepth 100000 in
theorem c_X0_costs_0 (Γ : GG) (l : Launch) (a : Nat) (q : Int32)  : Ci Γ l yX0_costs cX0_costs 2 (some (.int)) 1 21 0 0 [.ref a, .int q] [bOb0 Γ a] (fun (r : Int32) (u : Unit) => r = q + 1) (fun (u : Unit) => [bOb0 Γ a]) := by
  refine Ci.of (Or.inl rfl) (by decide) (Nat.le_of_ble_eq_true rfl) ?_
  intro pp ee ss mm bb me cd AA QQ XX hnm hA hP hD fin ls hl
  obtain ⟨zx, zb, hml, hown, hts, hK⟩ := id XX
  have hS : va_S AA ss.heap ss.heap [] := va_S.rf
  have hl : lv_has ls 2 [(0, .ref a), (1, .int q)] := hl
  refine lv_aload_n zx zb dX0_costs_0 rfl (lv_at hl 0 rfl) ?_
  refine lv_iload_n zx zb dX0_costs_1 rfl (lv_at hl 1 rfl) ?_
  refine callR_SUi (As := [.int q]) (rest := []) XX cu_X0_7 (c_X6_costs Γ l a q ) hP hD hS hA nil_mem nil_D 0 0 rfl rfl rfl rfl hl.1 rfl ⟨⟨by decide, by decide⟩, by decide, by decide⟩ (Nat.le_of_ble_eq_true rfl) dX0_costs_2 (fun r_2 H locs hw hP hS => ?_)
  have hw := hw.symm
  subst hw
  refine lv_iconst (v := nI 1) zx zb dX0_costs_5 (by decide) ?_
  refine lv_iadd zx zb dX0_costs_6 ?_
  refine g_top (y := q + 1) rfl ?_
  exact fin _ _ (q + 1) () 7 _ dX0_costs_7 (fun h => by cases h) (rfl) hP hD hS

set_option maxHeartbeats 4000000 in
set_option maxRecDepth 100000 in
theorem c_X0_costs_3 (Γ : GG) (l : Launch) (a : Nat) (q : Int32)  : Ci Γ l yX0_costs cX0_costs 2 (some (.int)) 1 21 0 0 [.ref a, .int q] [bOb3 Γ a] (fun (r : Int32) (u : Unit) => r = q + 1) (fun (u : Unit) => [bOb3 Γ a]) := by
  refine Ci.of (Or.inl rfl) (by decide) (Nat.le_of_ble_eq_true rfl) ?_
  intro pp ee ss mm bb me cd AA QQ XX hnm hA hP hD fin ls hl
  obtain ⟨zx, zb, hml, hown, hts, hK⟩ := id XX
  have hS : va_S AA ss.heap ss.heap [] := va_S.rf
  have hl : lv_has ls 2 [(0, .ref a), (1, .int q)] := hl
  refine lv_aload_n zx zb dX0_costs_0 rfl (lv_at hl 0 rfl) ?_
  refine lv_iload_n zx zb dX0_costs_1 rfl (lv_at hl 1 rfl) ?_
  refine callR_SUi (As := [.int q]) (rest := []) XX cu_X0_7 (c_X6_costs Γ l a q ) hP hD hS hA nil_mem nil_D 0 0 rfl rfl rfl rfl hl.1 rfl ⟨⟨by decide, by decide⟩, by decide, by decide⟩ (Nat.le_of_ble_eq_true rfl) dX0_costs_2 (fun r_2 H locs hw hP hS => ?_)
  have hw := hw.symm
  subst hw
  refine lv_iconst (v := nI 1) zx zb dX0_costs_5 (by decide) ?_
  refine lv_iadd zx zb dX0_costs_6 ?_
  refine g_top (y := q + 1) rfl ?_
  exact fin _ _ (q + 1) () 7 _ dX0_costs_7 (fun h => by cases h) (rfl) hP hD hS

set_option maxHeartbeats 4000000 in
set_option maxRecDepth 100000 in
theorem c_X3_costs_3 (Γ : GG) (l : Launch) (a : Nat) (q : Int32)  : Ci Γ l yX3_costs cX3_costs 2 (some (.int)) 2 42 0 0 [.ref a, .int q] [bOb3 Γ a] (fun (r : Int32) (u : Unit) => r = (q + 1 + 1) / 2) (fun (u : Unit) => [bOb3 Γ a]) := by
  refine Ci.of (Or.inl rfl) (by decide) (Nat.le_of_ble_eq_true rfl) ?_
  intro pp ee ss mm bb me cd AA QQ XX hnm hA hP hD fin ls hl
  obtain ⟨zx, zb, hml, hown, hts, hK⟩ := id XX
  have hS : va_S AA ss.heap ss.heap [] := va_S.rf
  have hl : lv_has ls 2 [(0, .ref a), (1, .int q)] := hl
  refine lv_aload_n zx zb dX3_costs_0 rfl (lv_at hl 0 rfl) ?_
  refine lv_iload_n zx zb dX3_costs_1 rfl (lv_at hl 1 rfl) ?_
  refine callR_SUi (As := [.int q]) (rest := []) XX cu_X3_11 (c_X0_costs_3 Γ l a q ) hP hD hS hA (one_mem (bs := [bOb3 Γ a]) (k := 0) (j := 0) rfl rfl) (one_D _) 0 0 rfl rfl rfl rfl hl.1 rfl ⟨⟨by decide, by decide⟩, by decide, by decide⟩ (Nat.le_of_ble_eq_true rfl) dX3_costs_2 (fun r_2 H locs hw hP hS => ?_)
  have hw := hw.symm
  subst hw
  refine lv_iconst (v := nI 1) zx zb dX3_costs_5 (by decide) ?_
  refine lv_iadd zx zb dX3_costs_6 ?_
  refine g_top (y := (q + 1) + 1) rfl ?_
  refine lv_iconst (v := nI 2) zx zb dX3_costs_7 (by decide) ?_
  refine lv_idiv zx zb dX3_costs_8 (by decide) ?_
  refine g_top (y := ((q + 1) + 1) / 2) rfl ?_
  exact fin _ _ (((q + 1) + 1) / 2) () 9 _ dX3_costs_9 (fun h => by cases h) (rfl) hP hD hS

set_option maxHeartbeats 4000000 in
set_option maxRecDepth 100000 in
theorem c_X4_costs_4 (Γ : GG) (l : Launch) (a : Nat) (q : Int32)  : Ci Γ l yX4_costs cX4_costs 2 (some (.int)) 1 21 0 0 [.ref a, .int q] [bOb4 Γ a] (fun (r : Int32) (u : Unit) => r = 2 * q) (fun (u : Unit) => [bOb4 Γ a]) := by
  refine Ci.of (Or.inl rfl) (by decide) (Nat.le_of_ble_eq_true rfl) ?_
  intro pp ee ss mm bb me cd AA QQ XX hnm hA hP hD fin ls hl
  obtain ⟨zx, zb, hml, hown, hts, hK⟩ := id XX
  have hS : va_S AA ss.heap ss.heap [] := va_S.rf
  have hl : lv_has ls 2 [(0, .ref a), (1, .int q)] := hl
  refine lv_iconst (v := nI 2) zx zb dX4_costs_0 (by decide) ?_
  refine lv_aload_n zx zb dX4_costs_1 rfl (lv_at hl 0 rfl) ?_
  refine lv_iload_n zx zb dX4_costs_2 rfl (lv_at hl 1 rfl) ?_
  refine callR_SXi (As := [.int q]) (rest := [.int (nI 2)]) XX cx_X4_7 (c_X6_costs Γ l a q ) hP hD hS hA nil_mem nil_D 0 0 rfl rfl rfl rfl hl.1 rfl ⟨⟨by decide, by decide⟩, by decide, by decide⟩ (Nat.le_of_ble_eq_true rfl) dX4_costs_3 (fun r_3 H locs hw hP hS => ?_)
  have hw := hw.symm
  subst hw
  refine lv_imul zx zb dX4_costs_6 ?_
  refine g_top (y := 2 * q) rfl ?_
  exact fin _ _ (2 * q) () 7 _ dX4_costs_7 (fun h => by cases h) (rfl) hP hD hS

set_option maxHeartbeats 4000000 in
set_option maxRecDepth 100000 in
theorem c_X0_due (Γ : GG) (l : Launch) (a : Nat) (q : Int32) (z : Int32)  : Ci Γ l yX0_due cX0_due 3 (some (.int)) 0 0 0 0 [.ref a, .int q, .int z] [] (fun (r : Int32) (u : Unit) => r = kDueA q z) (fun (u : Unit) => []) := by
  refine Ci.of (Or.inl rfl) (by decide) (Nat.le_of_ble_eq_true rfl) ?_
  intro pp ee ss mm bb me cd AA QQ XX hnm hA hP hD fin ls hl
  obtain ⟨zx, zb, hml, hown, hts, hK⟩ := id XX
  have hS : va_S AA ss.heap ss.heap [] := va_S.rf
  have hl : lv_has ls 3 [(0, .ref a), (1, .int q), (2, .int z)] := hl
  refine lv_iload_n zx zb dX0_due_0 rfl (lv_at hl 2 rfl) ?_
  refine lv_iconst (v := nI 1) zx zb dX0_due_1 (by decide) ?_
  refine lv_iand zx zb dX0_due_2 ?_
  refine g_top (y := z &&& 1) rfl ?_
  refine lv_iconst (v := nI 1) zx zb dX0_due_3 (by decide) ?_
  refine lv_icmp_ne (tgt := 13) zx zb dX0_due_4 (by decide) (fun c_4 => ?_) (fun c_4 => ?_)
  · have c_4 : ¬ ((z &&& 1) = (1 : Int32)) := c_4
    refine lv_iconst (v := nI 0) zx zb dX0_due_13 (by decide) ?_
    exact fin _ _ (nI 0) () 14 _ dX0_due_14 (fun h => by cases h) (by unfold kDueA; first | (rw [if_pos c_4]; done) | (rw [if_neg c_4]; rfl)) hP hD hS
  · have c_4 : (z &&& 1) = (1 : Int32) := c_4
    refine lv_iconst (v := nI 2) zx zb dX0_due_7 (by decide) ?_
    refine lv_iload_n zx zb dX0_due_8 rfl (lv_at hl 1 rfl) ?_
    refine lv_imul zx zb dX0_due_9 ?_
    refine g_top (y := 2 * q) rfl ?_
    refine lv_goto (tgt := 14) zx zb dX0_due_10 (by decide) ?_
    exact fin _ _ (2 * q) () 14 _ dX0_due_14 (fun h => by cases h) (by unfold kDueA; first | (rw [if_pos c_4]; done) | (rw [if_neg c_4]; rfl)) hP hD hS

set_option maxHeartbeats 4000000 in
set_option maxRecDepth 100000 in
theorem c_X2_isSpring (Γ : GG) (l : Launch) (c : Nat → Nat) (k : Nat → Nat) (C : CoV) (z : Int32)  : Ci Γ l yX2_isSpring cX2_isSpring 2 (some (.boolean)) 0 0 0 0 [.ref (c 0), .int z] [bCo Γ c k C] (fun (r : Int32) (u : Unit) => r = bI (coSpring C z)) (fun (u : Unit) => [bCo Γ c k C]) := by
  refine Ci.of (Or.inr rfl) (by decide) (Nat.le_of_ble_eq_true rfl) ?_
  intro pp ee ss mm bb me cd AA QQ XX hnm hA hP hD fin ls hl
  obtain ⟨zx, zb, hml, hown, hts, hK⟩ := id XX
  have hS : va_S AA ss.heap ss.heap [] := va_S.rf
  have hl : lv_has ls 2 [(0, .ref (c 0)), (1, .int z)] := hl
  refine lv_aload_n zx zb dX2_isSpring_0 rfl (lv_at hl 0 rfl) ?_
  refine g_get (v := .int C.2.1) XX hP 0 0 rfl rfl rfl iwX2 2 (by decide) fl_X2_50 rfl dX2_isSpring_1 ?_
  refine lv_if_le (tgt := 20) zx zb dX2_isSpring_4 (by decide) (fun c_4 => ?_) (fun c_4 => ?_)
  · have c_4 : C.2.1 ≤ (0 : Int32) := c_4
    refine lv_iconst (v := nI 0) zx zb dX2_isSpring_20 (by decide) ?_
    exact fin _ _ (nI 0) () 21 _ dX2_isSpring_21 (fun _ => nar0) (by first | exact retT (by first | simpa [coSpring, Int32.not_le.mp c_4] using c_13 | simp [coSpring, Int32.not_lt.mpr c_4]) | exact retF (by first | simpa [coSpring, Int32.not_le.mp c_4] using c_13 | simp [coSpring, Int32.not_lt.mpr c_4])) hP hD hS
  · have c_4 : ¬ (C.2.1 ≤ (0 : Int32)) := c_4
    refine lv_iload_n zx zb dX2_isSpring_7 rfl (lv_at hl 1 rfl) ?_
    refine lv_aload_n zx zb dX2_isSpring_8 rfl (lv_at hl 0 rfl) ?_
    refine g_get (v := .int C.2.1) XX hP 0 0 rfl rfl rfl iwX2 2 (by decide) fl_X2_50 rfl dX2_isSpring_9 ?_
    refine lv_irem zx zb dX2_isSpring_12 (fun h => c_4 (by rw [h]; decide)) ?_
    refine lv_if_ne (tgt := 20) zx zb dX2_isSpring_13 (by decide) (fun c_13 => ?_) (fun c_13 => ?_)
    · have c_13 : ¬ ((z - z / C.2.1 * C.2.1) = (0 : Int32)) := c_13
      refine lv_iconst (v := nI 0) zx zb dX2_isSpring_20 (by decide) ?_
      exact fin _ _ (nI 0) () 21 _ dX2_isSpring_21 (fun _ => nar0) (by first | exact retT (by first | simpa [coSpring, Int32.not_le.mp c_4] using c_13 | simp [coSpring, Int32.not_lt.mpr c_4]) | exact retF (by first | simpa [coSpring, Int32.not_le.mp c_4] using c_13 | simp [coSpring, Int32.not_lt.mpr c_4])) hP hD hS
    · have c_13 : (z - z / C.2.1 * C.2.1) = (0 : Int32) := c_13
      refine lv_iconst (v := nI 1) zx zb dX2_isSpring_16 (by decide) ?_
      refine lv_goto (tgt := 21) zx zb dX2_isSpring_17 (by decide) ?_
      exact fin _ _ (nI 1) () 21 _ dX2_isSpring_21 (fun _ => nar1) (by first | exact retT (by first | simpa [coSpring, Int32.not_le.mp c_4] using c_13 | simp [coSpring, Int32.not_lt.mpr c_4]) | exact retF (by first | simpa [coSpring, Int32.not_le.mp c_4] using c_13 | simp [coSpring, Int32.not_lt.mpr c_4])) hP hD hS

set_option maxHeartbeats 4000000 in
set_option maxRecDepth 100000 in
theorem c_X2_springMore (Γ : GG) (l : Launch) (c : Nat → Nat) (k : Nat → Nat) (C : CoV) (z : Int32)  : Ci Γ l yX2_springMore cX2_springMore 2 (some (.int)) 1 21 0 0 [.ref (c 0), .int z] [bCo Γ c k C] (fun (r : Int32) (u : Unit) => r = coMore C z) (fun (u : Unit) => [bCo Γ c k C]) := by
  refine Ci.of (Or.inl rfl) (by decide) (Nat.le_of_ble_eq_true rfl) ?_
  intro pp ee ss mm bb me cd AA QQ XX hnm hA hP hD fin ls hl
  obtain ⟨zx, zb, hml, hown, hts, hK⟩ := id XX
  have hS : va_S AA ss.heap ss.heap [] := va_S.rf
  have hl : lv_has ls 2 [(0, .ref (c 0)), (1, .int z)] := hl
  refine lv_aload_n zx zb dX2_springMore_0 rfl (lv_at hl 0 rfl) ?_
  refine lv_iload_n zx zb dX2_springMore_1 rfl (lv_at hl 1 rfl) ?_
  refine call_Vi (As := [.int z]) (rest := []) XX cv_X2_103 (c_X2_isSpring Γ l c k C z ) hP hD hS hA [0] (by decide) rfl (fun _ => rfl) 0 0 rfl rfl rfl rfl hl.1 rfl ⟨⟨by decide, by decide⟩, by decide, by decide⟩ (Nat.le_of_ble_eq_true rfl) dX2_springMore_2 (fun r_2 u H locs hw hP hD hS => ?_)
  have hw := hw.symm
  subst hw
  have hP : bP Γ [bCo Γ c k C] H := hP
  have hD : bD AA [bCo Γ c k C] := hD
  refine lv_if_eq (tgt := 12) zx zb dX2_springMore_5 (by decide) (fun c_5 => ?_) (fun c_5 => ?_)
  · have c_5 : (coSpring C z) = false := bI_0.mp c_5
    refine lv_iconst (v := nI 0) zx zb dX2_springMore_12 (by decide) ?_
    exact fin _ _ (nI 0) () 13 _ dX2_springMore_13 (fun h => by cases h) (by simp only [coMore, c_5]; rfl) hP hD hS
  · have c_5 : (coSpring C z) = true := bI_ne c_5
    refine lv_iconst (v := nI 2) zx zb dX2_springMore_8 (by decide) ?_
    refine lv_goto (tgt := 13) zx zb dX2_springMore_9 (by decide) ?_
    exact fin _ _ (nI 2) () 13 _ dX2_springMore_13 (fun h => by cases h) (by simp only [coMore, c_5]; rfl) hP hD hS

set_option maxHeartbeats 4000000 in
set_option maxRecDepth 100000 in
theorem c_X2_stormOf (Γ : GG) (l : Launch) (c : Nat → Nat) (k : Nat → Nat) (C : CoV) (z : Int32)  : Ci Γ l yX2_stormOf cX2_stormOf 2 (some (.int)) 2 42 0 0 [.ref (c 0), .int z] [bCo Γ c k C] (fun (r : Int32) (u : Unit) => r = coStorm C z) (fun (u : Unit) => [bCo Γ c k C]) := by
  refine Ci.of (Or.inl rfl) (by decide) (Nat.le_of_ble_eq_true rfl) ?_
  intro pp ee ss mm bb me cd AA QQ XX hnm hA hP hD fin ls hl
  obtain ⟨zx, zb, hml, hown, hts, hK⟩ := id XX
  have hS : va_S AA ss.heap ss.heap [] := va_S.rf
  have hl : lv_has ls 2 [(0, .ref (c 0)), (1, .int z)] := hl
  refine lv_aload_n zx zb dX2_stormOf_0 rfl (lv_at hl 0 rfl) ?_
  refine g_get (v := .ref (c 4)) XX hP 0 0 rfl rfl rfl iwX2 6 (by decide) fl_X2_21 rfl dX2_stormOf_1 ?_
  refine lv_iload_n zx zb dX2_stormOf_4 rfl (lv_at hl 1 rfl) ?_
  refine lv_bipush (v := nI 7) zx zb dX2_stormOf_5 (by decide) ?_
  refine lv_iand zx zb dX2_stormOf_7 ?_
  refine g_top (y := z &&& 7) rfl ?_
  refine g_iald XX hP 0 4 rfl rfl (pk_andIn z 3 (by decide) (by decide)) dX2_stormOf_8 ?_
  refine lv_aload_n zx zb dX2_stormOf_9 rfl (lv_at hl 0 rfl) ?_
  refine lv_iload_n zx zb dX2_stormOf_10 rfl (lv_at hl 1 rfl) ?_
  refine call_Vi (As := [.int z]) (rest := [.int (C.2.2.2.2.2.1 ((z &&& 7).toNatClampNeg))]) XX cv_X2_107 (c_X2_springMore Γ l c k C z ) hP hD hS hA [0] (by decide) rfl (fun _ => rfl) 0 0 rfl rfl rfl rfl hl.1 rfl ⟨⟨by decide, by decide⟩, by decide, by decide⟩ (Nat.le_of_ble_eq_true rfl) dX2_stormOf_11 (fun r_11 u H locs hw hP hD hS => ?_)
  have hw := hw.symm
  subst hw
  have hP : bP Γ [bCo Γ c k C] H := hP
  have hD : bD AA [bCo Γ c k C] := hD
  refine lv_iadd zx zb dX2_stormOf_14 ?_
  exact fin _ _ ((C.2.2.2.2.2.1 ((z &&& 7).toNatClampNeg)) + (coMore C z)) () 15 _ dX2_stormOf_15 (fun h => by cases h) (rfl) hP hD hS
