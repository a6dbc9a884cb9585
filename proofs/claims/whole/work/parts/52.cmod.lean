theorem cs_X12_53 : CWS RX12 53 yX12_in cX12_in 6 (some (.boolean)) 3 := ⟨cd_X12_in, st_X12_in, in_X12, ml_X12_53, by decide +kernel⟩
theorem cs_X12_73 : CWS RX12 73 yX12_at cX12_at 2 (some (.int)) 2 := ⟨cd_X12_at, st_X12_at, in_X12, ml_X12_73, by decide +kernel⟩
theorem cv_X12_49 : CWV RX12 49 RX12 yX12_refuses cX12_refuses 3 (some (.int)) 2 := ⟨cd_X12_refuses, im_X12_refuses, se_X12_X12_refuses_X12_refuses, in_X12, ml_X12_49, by decide +kernel⟩
set_option maxHeartbeats 4000000 in
set_option maxRecDepth 100000 in
theorem c_X12_in (Γ : GG) (l : Launch) (x : Int32) (lo : Int32) (hi : Int32)  : Ci Γ l yX12_in cX12_in 6 (some (.boolean)) 0 0 0 0 [.long x.toInt64, .long lo.toInt64, .long hi.toInt64] [] (fun (r : Int32) (u : Unit) => r = bI (wi x lo hi)) (fun (u : Unit) => []) := by
  refine Ci.of (Or.inr rfl) (by decide) (Nat.le_of_ble_eq_true rfl) ?_
  intro pp ee ss mm bb me cd AA QQ XX hnm hA hP hD fin ls hl
  obtain ⟨zx, zb, hml, hown, hts, hK⟩ := id XX
  have hS : va_S AA ss.heap ss.heap [] := va_S.rf
  have hl : lv_has ls 6 [(0, .long x.toInt64), (2, .long lo.toInt64), (4, .long hi.toInt64)] := hl
  refine lv_lload_n zx zb dX12_in_0 rfl (lv_at hl 0 rfl) ?_
  refine lv_lload_n zx zb dX12_in_1 rfl (lv_at hl 1 rfl) ?_
  refine W.lcmp zx zb dX12_in_2 ?_
  refine lv_if_lt (tgt := 17) zx zb dX12_in_3 (by decide) (fun c_3 => ?_) (fun c_3 => ?_)
  · have c_3 : (lg_cmp x.toInt64 lo.toInt64) < (0 : Int32) := c_3
    refine lv_iconst (v := nI 0) zx zb dX12_in_17 (by decide) ?_
    exact fin _ _ (nI 0) () 18 _ dX12_in_18 (fun _ => nar0) (by first | exact retT (by simp only [wi, Bool.and_eq_true, decide_eq_true_eq, Bool.and_eq_false_iff, decide_eq_false_iff_not]; first | exact ⟨Int32.not_lt.mp (fun h => c_3 (lgc_lt.mpr (i64_lt.mpr h))), Int32.not_lt.mp (fun h => c_10 (lgc_gt.mpr (i64_lt.mpr h)))⟩ | exact Or.inl (Int32.not_le.mpr (i64_lt.mp (lgc_lt.mp c_3))) | exact Or.inr (Int32.not_le.mpr (i64_lt.mp (lgc_gt.mp c_10)))) | exact retF (by simp only [wi, Bool.and_eq_true, decide_eq_true_eq, Bool.and_eq_false_iff, decide_eq_false_iff_not]; first | exact ⟨Int32.not_lt.mp (fun h => c_3 (lgc_lt.mpr (i64_lt.mpr h))), Int32.not_lt.mp (fun h => c_10 (lgc_gt.mpr (i64_lt.mpr h)))⟩ | exact Or.inl (Int32.not_le.mpr (i64_lt.mp (lgc_lt.mp c_3))) | exact Or.inr (Int32.not_le.mpr (i64_lt.mp (lgc_gt.mp c_10))))) hP hD hS
  · have c_3 : ¬ ((lg_cmp x.toInt64 lo.toInt64) < (0 : Int32)) := c_3
    refine lv_lload_n zx zb dX12_in_6 rfl (lv_at hl 0 rfl) ?_
    refine lv_lload zx zb dX12_in_7 (lv_at hl 2 rfl) ?_
    refine W.lcmp zx zb dX12_in_9 ?_
    refine lv_if_gt (tgt := 17) zx zb dX12_in_10 (by decide) (fun c_10 => ?_) (fun c_10 => ?_)
    · have c_10 : (0 : Int32) < (lg_cmp x.toInt64 hi.toInt64) := c_10
      refine lv_iconst (v := nI 0) zx zb dX12_in_17 (by decide) ?_
      exact fin _ _ (nI 0) () 18 _ dX12_in_18 (fun _ => nar0) (by first | exact retT (by simp only [wi, Bool.and_eq_true, decide_eq_true_eq, Bool.and_eq_false_iff, decide_eq_false_iff_not]; first | exact ⟨Int32.not_lt.mp (fun h => c_3 (lgc_lt.mpr (i64_lt.mpr h))), Int32.not_lt.mp (fun h => c_10 (lgc_gt.mpr (i64_lt.mpr h)))⟩ | exact Or.inl (Int32.not_le.mpr (i64_lt.mp (lgc_lt.mp c_3))) | exact Or.inr (Int32.not_le.mpr (i64_lt.mp (lgc_gt.mp c_10)))) | exact retF (by simp only [wi, Bool.and_eq_true, decide_eq_true_eq, Bool.and_eq_false_iff, decide_eq_false_iff_not]; first | exact ⟨Int32.not_lt.mp (fun h => c_3 (lgc_lt.mpr (i64_lt.mpr h))), Int32.not_lt.mp (fun h => c_10 (lgc_gt.mpr (i64_lt.mpr h)))⟩ | exact Or.inl (Int32.not_le.mpr (i64_lt.mp (lgc_lt.mp c_3))) | exact Or.inr (Int32.not_le.mpr (i64_lt.mp (lgc_gt.mp c_10))))) hP hD hS
    · have c_10 : ¬ ((0 : Int32) < (lg_cmp x.toInt64 hi.toInt64)) := c_10
      refine lv_iconst (v := nI 1) zx zb dX12_in_13 (by decide) ?_
      refine lv_goto (tgt := 18) zx zb dX12_in_14 (by decide) ?_
      exact fin _ _ (nI 1) () 18 _ dX12_in_18 (fun _ => nar1) (by first | exact retT (by simp only [wi, Bool.and_eq_true, decide_eq_true_eq, Bool.and_eq_false_iff, decide_eq_false_iff_not]; first | exact ⟨Int32.not_lt.mp (fun h => c_3 (lgc_lt.mpr (i64_lt.mpr h))), Int32.not_lt.mp (fun h => c_10 (lgc_gt.mpr (i64_lt.mpr h)))⟩ | exact Or.inl (Int32.not_le.mpr (i64_lt.mp (lgc_lt.mp c_3))) | exact Or.inr (Int32.not_le.mpr (i64_lt.mp (lgc_gt.mp c_10)))) | exact retF (by simp only [wi, Bool.and_eq_true, decide_eq_true_eq, Bool.and_eq_false_iff, decide_eq_false_iff_not]; first | exact ⟨Int32.not_lt.mp (fun h => c_3 (lgc_lt.mpr (i64_lt.mpr h))), Int32.not_lt.mp (fun h => c_10 (lgc_gt.mpr (i64_lt.mpr h)))⟩ | exact Or.inl (Int32.not_le.mpr (i64_lt.mp (lgc_lt.mp c_3))) | exact Or.inr (Int32.not_le.mpr (i64_lt.mp (lgc_gt.mp c_10))))) hP hD hS

set_option maxHeartbeats 4000000 in
set_option maxRecDepth 100000 in
theorem c_X12_lesser (Γ : GG) (l : Launch) (x : Int32) (a : Int32)  : Ci Γ l yX12_lesser cX12_lesser 2 (some (.int)) 0 0 0 0 [.int x, .int a] [] (fun (r : Int32) (u : Unit) => r = imin a x) (fun (u : Unit) => []) := by
  refine Ci.of (Or.inl rfl) (by decide) (Nat.le_of_ble_eq_true rfl) ?_
  intro pp ee ss mm bb me cd AA QQ XX hnm hA hP hD fin ls hl
  obtain ⟨zx, zb, hml, hown, hts, hK⟩ := id XX
  have hS : va_S AA ss.heap ss.heap [] := va_S.rf
  have hl : lv_has ls 2 [(0, .int x), (1, .int a)] := hl
  refine lv_iload_n zx zb dX12_lesser_0 rfl (lv_at hl 0 rfl) ?_
  refine lv_iload_n zx zb dX12_lesser_1 rfl (lv_at hl 1 rfl) ?_
  refine lv_icmp_ge (tgt := 9) zx zb dX12_lesser_2 (by decide) (fun c_2 => ?_) (fun c_2 => ?_)
  · have c_2 : a ≤ x := c_2
    refine lv_iload_n zx zb dX12_lesser_9 rfl (lv_at hl 1 rfl) ?_
    exact fin _ _ a () 10 _ dX12_lesser_10 (fun h => by cases h) (by unfold imin; first | (rw [if_neg (Int32.not_lt.mpr c_2)]; done) | (rw [if_pos (Int32.not_le.mp c_2)]; done)) hP hD hS
  · have c_2 : ¬ (a ≤ x) := c_2
    refine lv_iload_n zx zb dX12_lesser_5 rfl (lv_at hl 0 rfl) ?_
    refine lv_goto (tgt := 10) zx zb dX12_lesser_6 (by decide) ?_
    exact fin _ _ x () 10 _ dX12_lesser_10 (fun h => by cases h) (by unfold imin; first | (rw [if_neg (Int32.not_lt.mpr c_2)]; done) | (rw [if_pos (Int32.not_le.mp c_2)]; done)) hP hD hS

set_option maxHeartbeats 4000000 in
set_option maxRecDepth 100000 in
theorem c_X12_refuses (Γ : GG) (l : Launch) (m : Nat → Nat) (M : MoV) (f : Nat → Int32) (i : Nat) (a : Int32) (hi : i < 3) : Ci Γ l yX12_refuses cX12_refuses 3 (some (.int)) 0 0 0 0 [.ref (m 0), .int (nI i), .int a] [bMo Γ m M, bA Γ (m 6) 3 f] (fun (r : Int32) (u : Nat → Int32) => r = a ∧ u = moRef M f i) (fun (u : Nat → Int32) => [bMo Γ m M, bA Γ (m 6) 3 u]) := by
  refine Ci.of (Or.inl rfl) (by decide) (Nat.le_of_ble_eq_true rfl) ?_
  intro pp ee ss mm bb me cd AA QQ XX hnm hA hP hD fin ls hl
  obtain ⟨zx, zb, hml, hown, hts, hK⟩ := id XX
  have hS : va_S AA ss.heap ss.heap [] := va_S.rf
  have hl : lv_has ls 3 [(0, .ref (m 0)), (1, .int (nI i)), (2, .int a)] := hl
  refine lv_aload_n zx zb dX12_refuses_0 rfl (lv_at hl 0 rfl) ?_
  refine g_get (v := .ref (m 6)) XX hP 0 0 rfl rfl rfl iwX12 5 (by decide) fl_X12_26 rfl dX12_refuses_1 ?_
  refine lv_iload_n zx zb dX12_refuses_4 rfl (lv_at hl 1 rfl) ?_
  refine lv_dup2_11 zx zb dX12_refuses_5 rfl rfl ?_
  refine g_ialdN (i := i) XX hP 1 0 rfl rfl (by omega) (by decide) dX12_refuses_6 ?_
  refine lv_aload_n zx zb dX12_refuses_7 rfl (lv_at hl 0 rfl) ?_
  refine g_get (v := .int (bI M.1)) XX hP 0 0 rfl rfl rfl iwX12 6 (by decide) fl_X12_45 rfl dX12_refuses_8 ?_
  refine lv_if_eq (tgt := 18) zx zb dX12_refuses_11 (by decide) (fun c_11 => ?_) (fun c_11 => ?_)
  · have c_11 : M.1 = false := bI_0.mp c_11
    refine lv_iconst (v := nI 1) zx zb dX12_refuses_18 (by decide) ?_
    refine lv_iadd zx zb dX12_refuses_19 ?_
    refine g_top (y := (f i) + 1) rfl ?_
    refine g_iastN (x := (f i) + 1) (i := i) (blk' := bA Γ (m 6) 3 (upd f i ((f i) + 1))) (bs' := [bMo Γ m M, bA Γ (m 6) 3 (upd f i ((f i) + 1))]) XX hP hD hS 1 0 rfl rfl (by omega) (by decide) rfl rfl dX12_refuses_20 (fun H locs hP hD hS => ?_)
    refine lv_iload_n zx zb dX12_refuses_21 rfl (lv_at hl 2 rfl) ?_
    exact fin _ _ a (upd f i ((f i) + 1)) 22 _ dX12_refuses_22 (fun h => by cases h) ⟨(rfl), (by unfold moRef; rw [c_11]; rfl)⟩ hP hD hS
  · have c_11 : M.1 = true := bI_ne c_11
    refine lv_iconst (v := nI 0) zx zb dX12_refuses_14 (by decide) ?_
    refine lv_goto (tgt := 19) zx zb dX12_refuses_15 (by decide) ?_
    refine lv_iadd zx zb dX12_refuses_19 ?_
    refine g_top (y := (f i) + 0) rfl ?_
    refine g_iastN (x := (f i) + 0) (i := i) (blk' := bA Γ (m 6) 3 (upd f i ((f i) + 0))) (bs' := [bMo Γ m M, bA Γ (m 6) 3 (upd f i ((f i) + 0))]) XX hP hD hS 1 0 rfl rfl (by omega) (by decide) rfl rfl dX12_refuses_20 (fun H locs hP hD hS => ?_)
    refine lv_iload_n zx zb dX12_refuses_21 rfl (lv_at hl 2 rfl) ?_
    exact fin _ _ a (upd f i ((f i) + 0)) 22 _ dX12_refuses_22 (fun h => by cases h) ⟨(rfl), (by unfold moRef; rw [c_11]; rfl)⟩ hP hD hS

set_option maxHeartbeats 4000000 in
set_option maxRecDepth 100000 in
theorem c_X12_bad (Γ : GG) (l : Launch) (m : Nat → Nat) (M : MoV) (f : Nat → Int32)  : Ci Γ l yX12_bad cX12_bad 1 (some (.int)) 1 22 0 0 [.ref (m 0)] [bMo Γ m M, bA Γ (m 6) 3 f] (fun (r : Int32) (u : Nat → Int32) => r = (-2) ∧ u = moRef M f 0) (fun (u : Nat → Int32) => [bMo Γ m M, bA Γ (m 6) 3 u]) := by
  refine Ci.of (Or.inl rfl) (by decide) (Nat.le_of_ble_eq_true rfl) ?_
  intro pp ee ss mm bb me cd AA QQ XX hnm hA hP hD fin ls hl
  obtain ⟨zx, zb, hml, hown, hts, hK⟩ := id XX
  have hS : va_S AA ss.heap ss.heap [] := va_S.rf
  have hl : lv_has ls 1 [(0, .ref (m 0))] := hl
  refine lv_aload_n zx zb dX12_bad_0 rfl (lv_at hl 0 rfl) ?_
  refine lv_iconst (v := nI 0) zx zb dX12_bad_1 (by decide) ?_
  refine lv_bipush (v := (-2)) zx zb dX12_bad_2 (by decide) ?_
  refine call_Vi (As := [.int (nI 0), .int (-2)]) (rest := []) XX cv_X12_49 (c_X12_refuses Γ l m M f 0 (-2) (by decide)) hP hD hS hA [0, 1] (by decide) rfl (fun _ => rfl) 0 0 rfl rfl rfl rfl hl.1 rfl ⟨⟨by decide, by decide⟩, by decide, by decide⟩ (Nat.le_of_ble_eq_true rfl) dX12_bad_4 (fun r_4 u H locs hw hP hD hS => ?_)
  obtain ⟨hw1, hw2⟩ := hw
  have hw1 := hw1.symm
  have hw2 := hw2.symm
  subst hw1
  subst hw2
  have hP : bP Γ [bMo Γ m M, bA Γ (m 6) 3 (moRef M f 0)] H := hP
  have hD : bD AA [bMo Γ m M, bA Γ (m 6) 3 (moRef M f 0)] := hD
  exact fin _ _ (-2) (moRef M f 0) 7 _ dX12_bad_7 (fun h => by cases h) ⟨(rfl), (rfl)⟩ hP hD hS

set_option maxHeartbeats 4000000 in
set_option maxRecDepth 100000 in
theorem c_X12_no (Γ : GG) (l : Launch) (m : Nat → Nat) (M : MoV) (f : Nat → Int32)  : Ci Γ l yX12_no cX12_no 1 (some (.int)) 1 22 0 0 [.ref (m 0)] [bMo Γ m M, bA Γ (m 6) 3 f] (fun (r : Int32) (u : Nat → Int32) => r = (-3) ∧ u = moRef M f 1) (fun (u : Nat → Int32) => [bMo Γ m M, bA Γ (m 6) 3 u]) := by
  refine Ci.of (Or.inl rfl) (by decide) (Nat.le_of_ble_eq_true rfl) ?_
  intro pp ee ss mm bb me cd AA QQ XX hnm hA hP hD fin ls hl
  obtain ⟨zx, zb, hml, hown, hts, hK⟩ := id XX
  have hS : va_S AA ss.heap ss.heap [] := va_S.rf
  have hl : lv_has ls 1 [(0, .ref (m 0))] := hl
  refine lv_aload_n zx zb dX12_no_0 rfl (lv_at hl 0 rfl) ?_
  refine lv_iconst (v := nI 1) zx zb dX12_no_1 (by decide) ?_
  refine lv_bipush (v := (-3)) zx zb dX12_no_2 (by decide) ?_
  refine call_Vi (As := [.int (nI 1), .int (-3)]) (rest := []) XX cv_X12_49 (c_X12_refuses Γ l m M f 1 (-3) (by decide)) hP hD hS hA [0, 1] (by decide) rfl (fun _ => rfl) 0 0 rfl rfl rfl rfl hl.1 rfl ⟨⟨by decide, by decide⟩, by decide, by decide⟩ (Nat.le_of_ble_eq_true rfl) dX12_no_4 (fun r_4 u H locs hw hP hD hS => ?_)
  obtain ⟨hw1, hw2⟩ := hw
  have hw1 := hw1.symm
  have hw2 := hw2.symm
  subst hw1
  subst hw2
  have hP : bP Γ [bMo Γ m M, bA Γ (m 6) 3 (moRef M f 1)] H := hP
  have hD : bD AA [bMo Γ m M, bA Γ (m 6) 3 (moRef M f 1)] := hD
  exact fin _ _ (-3) (moRef M f 1) 7 _ dX12_no_7 (fun h => by cases h) ⟨(rfl), (rfl)⟩ hP hD hS

set_option maxHeartbeats 4000000 in
set_option maxRecDepth 100000 in
theorem c_X12_full (Γ : GG) (l : Launch) (m : Nat → Nat) (M : MoV) (f : Nat → Int32)  : Ci Γ l yX12_full cX12_full 1 (some (.int)) 1 22 0 0 [.ref (m 0)] [bMo Γ m M, bA Γ (m 6) 3 f] (fun (r : Int32) (u : Nat → Int32) => r = (-4) ∧ u = moRef M f 2) (fun (u : Nat → Int32) => [bMo Γ m M, bA Γ (m 6) 3 u]) := by
  refine Ci.of (Or.inl rfl) (by decide) (Nat.le_of_ble_eq_true rfl) ?_
  intro pp ee ss mm bb me cd AA QQ XX hnm hA hP hD fin ls hl
  obtain ⟨zx, zb, hml, hown, hts, hK⟩ := id XX
  have hS : va_S AA ss.heap ss.heap [] := va_S.rf
  have hl : lv_has ls 1 [(0, .ref (m 0))] := hl
  refine lv_aload_n zx zb dX12_full_0 rfl (lv_at hl 0 rfl) ?_
  refine lv_iconst (v := nI 2) zx zb dX12_full_1 (by decide) ?_
  refine lv_bipush (v := (-4)) zx zb dX12_full_2 (by decide) ?_
  refine call_Vi (As := [.int (nI 2), .int (-4)]) (rest := []) XX cv_X12_49 (c_X12_refuses Γ l m M f 2 (-4) (by decide)) hP hD hS hA [0, 1] (by decide) rfl (fun _ => rfl) 0 0 rfl rfl rfl rfl hl.1 rfl ⟨⟨by decide, by decide⟩, by decide, by decide⟩ (Nat.le_of_ble_eq_true rfl) dX12_full_4 (fun r_4 u H locs hw hP hD hS => ?_)
  obtain ⟨hw1, hw2⟩ := hw
  have hw1 := hw1.symm
  have hw2 := hw2.symm
  subst hw1
  subst hw2
  have hP : bP Γ [bMo Γ m M, bA Γ (m 6) 3 (moRef M f 2)] H := hP
  have hD : bD AA [bMo Γ m M, bA Γ (m 6) 3 (moRef M f 2)] := hD
  exact fin _ _ (-4) (moRef M f 2) 7 _ dX12_full_7 (fun h => by cases h) ⟨(rfl), (rfl)⟩ hP hD hS

set_option maxHeartbeats 4000000 in
set_option maxRecDepth 100000 in
theorem c_X12_at (Γ : GG) (l : Launch) (x : Nat) (w : Nat)  : Ci Γ l yX12_at cX12_at 2 (some (.int)) 0 0 0 0 [.int (nI x), .int (nI w)] [] (fun (r : Int32) (u : Unit) => r = nI (15 + 5 * x + w)) (fun (u : Unit) => []) := by
  refine Ci.of (Or.inl rfl) (by decide) (Nat.le_of_ble_eq_true rfl) ?_
  intro pp ee ss mm bb me cd AA QQ XX hnm hA hP hD fin ls hl
  obtain ⟨zx, zb, hml, hown, hts, hK⟩ := id XX
  have hS : va_S AA ss.heap ss.heap [] := va_S.rf
  have hl : lv_has ls 2 [(0, .int (nI x)), (1, .int (nI w))] := hl
  refine lv_bipush (v := nI 15) zx zb dX12_at_0 (by decide) ?_
  refine lv_iconst (v := nI 5) zx zb dX12_at_2 (by decide) ?_
  refine lv_iload_n zx zb dX12_at_3 rfl (lv_at hl 0 rfl) ?_
  refine lv_imul zx zb dX12_at_4 ?_
  refine g_top (y := nI (5 * x)) (pk_mul 5 x) ?_
  refine lv_iadd zx zb dX12_at_5 ?_
  refine g_top (y := nI (15 + (5 * x))) (nI_add 15 (5 * x)) ?_
  refine lv_iload_n zx zb dX12_at_6 rfl (lv_at hl 1 rfl) ?_
  refine lv_iadd zx zb dX12_at_7 ?_
  refine g_top (y := nI (15 + (5 * x) + w)) (nI_add (15 + (5 * x)) w) ?_
  exact fin _ _ (nI (15 + (5 * x) + w)) () 8 _ dX12_at_8 (fun h => by cases h) (rfl) hP hD hS

set_option maxHeartbeats 4000000 in
set_option maxRecDepth 100000 in
theorem c_X12_of0 (Γ : GG) (l : Launch) (x : Nat) (w : Nat)  : Ci Γ l yX12_of0 cX12_of0 2 (some (.int)) 0 0 0 0 [.int (nI x), .int (nI w)] [] (fun (r : Int32) (u : Unit) => r = nI (55 + 7 * x + w)) (fun (u : Unit) => []) := by
  refine Ci.of (Or.inl rfl) (by decide) (Nat.le_of_ble_eq_true rfl) ?_
  intro pp ee ss mm bb me cd AA QQ XX hnm hA hP hD fin ls hl
  obtain ⟨zx, zb, hml, hown, hts, hK⟩ := id XX
  have hS : va_S AA ss.heap ss.heap [] := va_S.rf
  have hl : lv_has ls 2 [(0, .int (nI x)), (1, .int (nI w))] := hl
  refine lv_bipush (v := nI 55) zx zb dX12_of0_0 (by decide) ?_
  refine lv_bipush (v := nI 7) zx zb dX12_of0_2 (by decide) ?_
  refine lv_iload_n zx zb dX12_of0_4 rfl (lv_at hl 0 rfl) ?_
  refine lv_imul zx zb dX12_of0_5 ?_
  refine g_top (y := nI (7 * x)) (pk_mul 7 x) ?_
  refine lv_iadd zx zb dX12_of0_6 ?_
  refine g_top (y := nI (55 + (7 * x))) (nI_add 55 (7 * x)) ?_
  refine lv_iload_n zx zb dX12_of0_7 rfl (lv_at hl 1 rfl) ?_
  refine lv_iadd zx zb dX12_of0_8 ?_
  refine g_top (y := nI (55 + (7 * x) + w)) (nI_add (55 + (7 * x)) w) ?_
  exact fin _ _ (nI (55 + (7 * x) + w)) () 9 _ dX12_of0_9 (fun h => by cases h) (rfl) hP hD hS

set_option maxHeartbeats 4000000 in
set_option maxRecDepth 100000 in
theorem c_X12_isCell (Γ : GG) (l : Launch) (m : Nat → Nat) (M : MoV) (b : Nat → Int32) (C : CoV) (tr : Nat → TrV) (Y : YrV) (pc : Nat) (P : Nat → YrV) (a : Int32) (hr : Rel b C tr Y pc P) : Ci Γ l yX12_isCell cX12_isCell 2 (some (.boolean)) 1 25 0 0 [.ref (m 0), .int a] [bMo Γ m M, bA Γ (m 1) 259 b] (fun (r : Int32) (u : Unit) => r = bI (stCell C a)) (fun (u : Unit) => [bMo Γ m M, bA Γ (m 1) 259 b]) := by
  refine Ci.of (Or.inr rfl) (by decide) (Nat.le_of_ble_eq_true rfl) ?_
  intro pp ee ss mm bb me cd AA QQ XX hnm hA hP hD fin ls hl
  obtain ⟨zx, zb, hml, hown, hts, hK⟩ := id XX
  have hS : va_S AA ss.heap ss.heap [] := va_S.rf
  have hl : lv_has ls 2 [(0, .ref (m 0)), (1, .int a)] := hl
  refine lv_iload_n zx zb dX12_isCell_0 rfl (lv_at hl 1 rfl) ?_
  refine lv_i2l (v := a.toInt64) zx zb dX12_isCell_1 rfl ?_
  refine lv_lconst (v := (0 : Int32).toInt64) zx zb dX12_isCell_2 (by decide) ?_
  refine lv_aload_n zx zb dX12_isCell_3 rfl (lv_at hl 0 rfl) ?_
  refine g_get (v := .ref (m 1)) XX hP 0 0 rfl rfl rfl iwX12 0 (by decide) fl_X12_7 rfl dX12_isCell_4 ?_
  refine lv_iconst (v := nI 0) zx zb dX12_isCell_7 (by decide) ?_
  refine g_ialdN (i := 0) XX hP 1 0 rfl rfl (by omega) (by decide) dX12_isCell_8 ?_
  refine g_top (y := nI (C.1)) (Rel.n hr) ?_
  refine lv_iconst (v := nI 1) zx zb dX12_isCell_9 (by decide) ?_
  refine lv_isub zx zb dX12_isCell_10 ?_
  refine g_top (y := (nI (C.1)) - 1) rfl ?_
  refine lv_i2l (v := ((nI (C.1)) - 1).toInt64) zx zb dX12_isCell_11 rfl ?_
  refine callR_Si (As := [.long a.toInt64, .long ((0 : Int32).toInt64), .long (((nI (C.1)) - 1).toInt64)]) (rest := []) XX cs_X12_53 (c_X12_in Γ l a 0 ((nI (C.1)) - 1) ) hP hD hS hA nil_mem nil_D rfl hl.1 rfl ⟨⟨by decide, by decide⟩, by decide, by decide⟩ (Nat.le_of_ble_eq_true rfl) dX12_isCell_12 (fun r_12 H locs hw hP hS => ?_)
  have hw := hw.symm
  subst hw
  exact fin _ _ (bI (wi a 0 ((nI (C.1)) - 1))) () 15 _ dX12_isCell_15 (fun _ => bI_narrow _) (rfl) hP hD hS

set_option maxHeartbeats 4000000 in
set_option maxRecDepth 100000 in
theorem c_X12_isTreaty (Γ : GG) (l : Launch) (m : Nat → Nat) (M : MoV) (b : Nat → Int32) (C : CoV) (tr : Nat → TrV) (Y : YrV) (pc : Nat) (P : Nat → YrV) (a : Int32) (hr : Rel b C tr Y pc P) : Ci Γ l yX12_isTreaty cX12_isTreaty 2 (some (.boolean)) 1 25 0 0 [.ref (m 0), .int a] [bMo Γ m M, bA Γ (m 1) 259 b] (fun (r : Int32) (u : Unit) => r = bI (stTreaty C a)) (fun (u : Unit) => [bMo Γ m M, bA Γ (m 1) 259 b]) := by
  refine Ci.of (Or.inr rfl) (by decide) (Nat.le_of_ble_eq_true rfl) ?_
  intro pp ee ss mm bb me cd AA QQ XX hnm hA hP hD fin ls hl
  obtain ⟨zx, zb, hml, hown, hts, hK⟩ := id XX
  have hS : va_S AA ss.heap ss.heap [] := va_S.rf
  have hl : lv_has ls 2 [(0, .ref (m 0)), (1, .int a)] := hl
  refine lv_iload_n zx zb dX12_isTreaty_0 rfl (lv_at hl 1 rfl) ?_
  refine lv_i2l (v := a.toInt64) zx zb dX12_isTreaty_1 rfl ?_
  refine lv_lconst (v := (0 : Int32).toInt64) zx zb dX12_isTreaty_2 (by decide) ?_
  refine lv_aload_n zx zb dX12_isTreaty_3 rfl (lv_at hl 0 rfl) ?_
  refine g_get (v := .ref (m 1)) XX hP 0 0 rfl rfl rfl iwX12 0 (by decide) fl_X12_7 rfl dX12_isTreaty_4 ?_
  refine lv_iconst (v := nI 4) zx zb dX12_isTreaty_7 (by decide) ?_
  refine g_ialdN (i := 4) XX hP 1 0 rfl rfl (by omega) (by decide) dX12_isTreaty_8 ?_
  refine g_top (y := nI (C.2.2.2.2.2.2.1)) (Rel.tc hr) ?_
  refine lv_iconst (v := nI 1) zx zb dX12_isTreaty_9 (by decide) ?_
  refine lv_isub zx zb dX12_isTreaty_10 ?_
  refine g_top (y := (nI (C.2.2.2.2.2.2.1)) - 1) rfl ?_
  refine lv_i2l (v := ((nI (C.2.2.2.2.2.2.1)) - 1).toInt64) zx zb dX12_isTreaty_11 rfl ?_
  refine callR_Si (As := [.long a.toInt64, .long ((0 : Int32).toInt64), .long (((nI (C.2.2.2.2.2.2.1)) - 1).toInt64)]) (rest := []) XX cs_X12_53 (c_X12_in Γ l a 0 ((nI (C.2.2.2.2.2.2.1)) - 1) ) hP hD hS hA nil_mem nil_D rfl hl.1 rfl ⟨⟨by decide, by decide⟩, by decide, by decide⟩ (Nat.le_of_ble_eq_true rfl) dX12_isTreaty_12 (fun r_12 H locs hw hP hS => ?_)
  have hw := hw.symm
  subst hw
  exact fin _ _ (bI (wi a 0 ((nI (C.2.2.2.2.2.2.1)) - 1))) () 15 _ dX12_isTreaty_15 (fun _ => bI_narrow _) (rfl) hP hD hS

set_option maxHeartbeats 4000000 in
set_option maxRecDepth 100000 in
theorem c_X12_areCells (Γ : GG) (l : Launch) (m : Nat → Nat) (M : MoV) (b : Nat → Int32) (C : CoV) (tr : Nat → TrV) (Y : YrV) (pc : Nat) (P : Nat → YrV) (a : Int32) (hr : Rel b C tr Y pc P) (hn : C.1 ≤ 8) : Ci Γ l yX12_areCells cX12_areCells 2 (some (.boolean)) 1 25 0 0 [.ref (m 0), .int a] [bMo Γ m M, bA Γ (m 1) 259 b] (fun (r : Int32) (u : Unit) => r = bI (wi a 0 (bit C.1 - 1))) (fun (u : Unit) => [bMo Γ m M, bA Γ (m 1) 259 b]) := by
  refine Ci.of (Or.inr rfl) (by decide) (Nat.le_of_ble_eq_true rfl) ?_
  intro pp ee ss mm bb me cd AA QQ XX hnm hA hP hD fin ls hl
  obtain ⟨zx, zb, hml, hown, hts, hK⟩ := id XX
  have hS : va_S AA ss.heap ss.heap [] := va_S.rf
  have hl : lv_has ls 2 [(0, .ref (m 0)), (1, .int a)] := hl
  refine lv_iload_n zx zb dX12_areCells_0 rfl (lv_at hl 1 rfl) ?_
  refine lv_i2l (v := a.toInt64) zx zb dX12_areCells_1 rfl ?_
  refine lv_lconst (v := (0 : Int32).toInt64) zx zb dX12_areCells_2 (by decide) ?_
  refine lv_iconst (v := nI 1) zx zb dX12_areCells_3 (by decide) ?_
  refine lv_aload_n zx zb dX12_areCells_4 rfl (lv_at hl 0 rfl) ?_
  refine g_get (v := .ref (m 1)) XX hP 0 0 rfl rfl rfl iwX12 0 (by decide) fl_X12_7 rfl dX12_areCells_5 ?_
  refine lv_iconst (v := nI 0) zx zb dX12_areCells_8 (by decide) ?_
  refine g_ialdN (i := 0) XX hP 1 0 rfl rfl (by omega) (by decide) dX12_areCells_9 ?_
  refine g_top (y := nI (C.1)) (Rel.n hr) ?_
  refine lv_ishl zx zb dX12_areCells_10 ?_
  refine g_top (y := bit C.1) (sh31l _ (by omega)) ?_
  refine lv_iconst (v := nI 1) zx zb dX12_areCells_11 (by decide) ?_
  refine lv_isub zx zb dX12_areCells_12 ?_
  refine g_top (y := (bit C.1) - 1) rfl ?_
  refine lv_i2l (v := ((bit C.1) - 1).toInt64) zx zb dX12_areCells_13 rfl ?_
  refine callR_Si (As := [.long a.toInt64, .long ((0 : Int32).toInt64), .long (((bit C.1) - 1).toInt64)]) (rest := []) XX cs_X12_53 (c_X12_in Γ l a 0 ((bit C.1) - 1) ) hP hD hS hA nil_mem nil_D rfl hl.1 rfl ⟨⟨by decide, by decide⟩, by decide, by decide⟩ (Nat.le_of_ble_eq_true rfl) dX12_areCells_14 (fun r_14 H locs hw hP hS => ?_)
  have hw := hw.symm
  subst hw
  exact fin _ _ (bI (wi a 0 ((bit C.1) - 1))) () 17 _ dX12_areCells_17 (fun _ => bI_narrow _) (rfl) hP hD hS

set_option maxHeartbeats 4000000 in
set_option maxRecDepth 100000 in
theorem c_X12_isLost (Γ : GG) (l : Launch) (m : Nat → Nat) (M : MoV) (b : Nat → Int32) (C : CoV) (tr : Nat → TrV) (Y : YrV) (pc : Nat) (P : Nat → YrV) (x : Nat) (hr : Rel b C tr Y pc P) (hx : x < 8) : Ci Γ l yX12_isLost cX12_isLost 2 (some (.boolean)) 1 21 0 0 [.ref (m 0), .int (nI x)] [bMo Γ m M, bA Γ (m 1) 259 b] (fun (r : Int32) (u : Unit) => r = bI (yrLost Y x)) (fun (u : Unit) => [bMo Γ m M, bA Γ (m 1) 259 b]) := by
  refine Ci.of (Or.inr rfl) (by decide) (Nat.le_of_ble_eq_true rfl) ?_
  intro pp ee ss mm bb me cd AA QQ XX hnm hA hP hD fin ls hl
  obtain ⟨zx, zb, hml, hown, hts, hK⟩ := id XX
  have hS : va_S AA ss.heap ss.heap [] := va_S.rf
  have hl : lv_has ls 2 [(0, .ref (m 0)), (1, .int (nI x))] := hl
  refine lv_aload_n zx zb dX12_isLost_0 rfl (lv_at hl 0 rfl) ?_
  refine g_get (v := .ref (m 1)) XX hP 0 0 rfl rfl rfl iwX12 0 (by decide) fl_X12_7 rfl dX12_isLost_1 ?_
  refine lv_iload_n zx zb dX12_isLost_4 rfl (lv_at hl 1 rfl) ?_
  refine lv_iconst (v := nI 4) zx zb dX12_isLost_5 (by decide) ?_
  refine callR_Si (As := [.int (nI x), .int (nI 4)]) (rest := [.ref (m 1)]) XX cs_X12_73 (c_X12_at Γ l x 4 ) hP hD hS hA nil_mem nil_D rfl hl.1 rfl ⟨⟨by decide, by decide⟩, by decide, by decide⟩ (Nat.le_of_ble_eq_true rfl) dX12_isLost_6 (fun r_6 H locs hw hP hS => ?_)
  have hw := hw.symm
  subst hw
  refine g_ialdN (i := 15 + 5 * x + 4) XX hP 1 0 rfl rfl (by omega) (by decide) dX12_isLost_9 ?_
  refine g_top (y := Y.2.2.2.2 x) (Rel.c4 hr (by omega)) ?_
  refine lv_iconst (v := nI 3) zx zb dX12_isLost_10 (by decide) ?_
  refine lv_icmp_lt (tgt := 18) zx zb dX12_isLost_11 (by decide) (fun c_11 => ?_) (fun c_11 => ?_)
  · have c_11 : (Y.2.2.2.2 x) < (3 : Int32) := c_11
    refine lv_iconst (v := nI 0) zx zb dX12_isLost_18 (by decide) ?_
    exact fin _ _ (nI 0) () 19 _ dX12_isLost_19 (fun _ => nar0) (by first | exact retT (by simpa [yrLost] using c_11) | exact retF (by simpa [yrLost] using c_11)) hP hD hS
  · have c_11 : ¬ ((Y.2.2.2.2 x) < (3 : Int32)) := c_11
    refine lv_iconst (v := nI 1) zx zb dX12_isLost_14 (by decide) ?_
    refine lv_goto (tgt := 19) zx zb dX12_isLost_15 (by decide) ?_
    exact fin _ _ (nI 1) () 19 _ dX12_isLost_19 (fun _ => nar1) (by first | exact retT (by simpa [yrLost] using c_11) | exact retF (by simpa [yrLost] using c_11)) hP hD hS

set_option maxHeartbeats 4000000 in
set_option maxRecDepth 100000 in
theorem c_X12_isSpring (Γ : GG) (l : Launch) (m : Nat → Nat) (M : MoV) (b : Nat → Int32) (C : CoV) (tr : Nat → TrV) (Y : YrV) (pc : Nat) (P : Nat → YrV) (z : Int32) (hr : Rel b C tr Y pc P) (hI : Inv C tr Y) : Ci Γ l yX12_isSpring cX12_isSpring 2 (some (.boolean)) 0 0 0 0 [.ref (m 0), .int z] [bMo Γ m M, bA Γ (m 1) 259 b] (fun (r : Int32) (u : Unit) => r = bI (coSpring C z)) (fun (u : Unit) => [bMo Γ m M, bA Γ (m 1) 259 b]) := by
  refine Ci.of (Or.inr rfl) (by decide) (Nat.le_of_ble_eq_true rfl) ?_
  intro pp ee ss mm bb me cd AA QQ XX hnm hA hP hD fin ls hl
  obtain ⟨zx, zb, hml, hown, hts, hK⟩ := id XX
  have hS : va_S AA ss.heap ss.heap [] := va_S.rf
  have hl : lv_has ls 2 [(0, .ref (m 0)), (1, .int z)] := hl
  refine lv_iload_n zx zb dX12_isSpring_0 rfl (lv_at hl 1 rfl) ?_
  refine lv_aload_n zx zb dX12_isSpring_1 rfl (lv_at hl 0 rfl) ?_
  refine g_get (v := .ref (m 1)) XX hP 0 0 rfl rfl rfl iwX12 0 (by decide) fl_X12_7 rfl dX12_isSpring_2 ?_
  refine lv_iconst (v := nI 3) zx zb dX12_isSpring_5 (by decide) ?_
  refine g_ialdN (i := 3) XX hP 1 0 rfl rfl (by omega) (by decide) dX12_isSpring_6 ?_
  refine g_top (y := C.2.1) (Rel.mo hr) ?_
  refine lv_irem zx zb dX12_isSpring_7 (inv_mo hI) ?_
  refine lv_if_ne (tgt := 15) zx zb dX12_isSpring_8 (by decide) (fun c_8 => ?_) (fun c_8 => ?_)
  · have c_8 : ¬ ((z - z / C.2.1 * C.2.1) = (0 : Int32)) := c_8
    refine lv_iconst (v := nI 0) zx zb dX12_isSpring_15 (by decide) ?_
    exact fin _ _ (nI 0) () 16 _ dX12_isSpring_16 (fun _ => nar0) (by first | exact retT (by rw [spring_eq hI]; first | exact decide_eq_true c_8 | exact decide_eq_false c_8) | exact retF (by rw [spring_eq hI]; first | exact decide_eq_true c_8 | exact decide_eq_false c_8)) hP hD hS
  · have c_8 : (z - z / C.2.1 * C.2.1) = (0 : Int32) := c_8
    refine lv_iconst (v := nI 1) zx zb dX12_isSpring_11 (by decide) ?_
    refine lv_goto (tgt := 16) zx zb dX12_isSpring_12 (by decide) ?_
    exact fin _ _ (nI 1) () 16 _ dX12_isSpring_16 (fun _ => nar1) (by first | exact retT (by rw [spring_eq hI]; first | exact decide_eq_true c_8 | exact decide_eq_false c_8) | exact retF (by rw [spring_eq hI]; first | exact decide_eq_true c_8 | exact decide_eq_false c_8)) hP hD hS
